/-! ===== hut: the whole text ===== -/
def z_pX (c : Nat → Int32) (len : Nat) : Nat → Nat → z_H → Bool × (Nat × z_H)
  | 0, p, H => (false, p, H)
  | m + 1, p, H => if (z_pC c len p).1 = true then
      (if len ≤ (z_pC c len p).2.1 then (true, (z_pC c len p).2.1, H ++ [(z_pC c len p).2.2]) else
       if m = 0 then (false, (z_pC c len p).2.1, H) else
       if c (z_pC c len p).2.1 = 59 then z_pX c len m ((z_pC c len p).2.1 + 1) (H ++ [(z_pC c len p).2.2]) else (false, (z_pC c len p).2.1, H))
     else (false, (z_pC c len p).2.1, H)
theorem z_hwf_sn {H : z_H} {x : z_Cl} (hH : z_hwf H) (hx : x.1 < 4 ∧ x.2.1 < 100 ∧ (x.1 < 2 → z_wf x.2.2 0 1)) : z_hwf (H ++ [x]) := by
  intro y hy
  rcases List.mem_append.mp hy with q | q
  · exact hH y q
  · rw [List.mem_singleton.mp q]; exact hx
theorem z_pX_ok {len : Nat} {c : Nat → Int32} (ht : z_tx len c) : ∀ (m p : Nat) (H : z_H), p ≤ len → H.length + m = 10 → z_hwf H → (z_pX c len m p H).2.1 ≤ len ∧ ((z_pX c len m p H).1 = true → (z_pX c len m p H).2.2.length ≤ 10 ∧ z_hwf (z_pX c len m p H).2.2)
  | 0, p, H, hp, _, _ => ⟨hp, fun z => absurd z Bool.false_ne_true⟩
  | m + 1, p, H, hp, hl, hw => by
    unfold z_pX
    obtain ⟨k1, k2, k3⟩ := z_pC_ok ht hp
    by_cases h1 : (z_pC c len p).1 = true
    · rw [if_pos h1]
      obtain ⟨k4, k5, k6, k7⟩ := k3 h1
      have hw' := z_hwf_sn hw ⟨k4, k5, k6⟩
      have hl' : (H ++ [(z_pC c len p).2.2]).length = H.length + 1 := by rw [List.length_append, List.length_singleton]
      by_cases h2 : len ≤ (z_pC c len p).2.1
      · rw [if_pos h2]; exact ⟨k2, fun _ => ⟨by dsimp only; rw [hl']; omega, hw'⟩⟩
      · rw [if_neg h2]
        by_cases h3 : m = 0
        · rw [if_pos h3]; exact ⟨k2, fun z => absurd z Bool.false_ne_true⟩
        · rw [if_neg h3]
          by_cases h4 : c (z_pC c len p).2.1 = 59
          · rw [if_pos h4]
            exact z_pX_ok ht m _ _ (by omega) (by rw [hl']; omega) hw'
          · rw [if_neg h4]; exact ⟨k2, fun z => absurd z Bool.false_ne_true⟩
    · rw [if_neg h1]; exact ⟨k2, fun z => absurd z Bool.false_ne_true⟩
/-! the class -/
theorem l_ptC (d len h : Nat) (c : Nat → Int32) (ht : z_tx len c) : ∀ (m p N : Nat) (H : z_H) (S : z_Mem), H.length + m = 10 → m < N → z_cx c len h S → S.1 5 0 2 = nI p → p ≤ len → z_Hc h H S → (z_prog H).length ≤ p →
    ∃ S', zr_X4_faultReadingInto (z_exe z_mt true (d + 19)) N 19 [some (.inr (.inr (5, 0))), none, some (.inl (nI (H.length + 1)))] [] S = some (some (.inl (if (z_pX c len m p H).1 = true then -1 else nI (z_pX c len m p H).2.1)), S') ∧ ((z_pX c len m p H).1 = true → z_Hc h (z_pX c len m p H).2.2 S') ∧ z_fx (z_Prc h) S S' := by
  have hl := ht.1
  intro m
  induction m with
  | zero =>
    intro p N H S hm hN hc hat hp hH hL
    obtain ⟨N, rfl⟩ : ∃ N', N = N' + 1 := ⟨N - 1, by omega⟩
    refine ⟨S, ?_, fun z => absurd z Bool.false_ne_true, z_fx.rf⟩
    rw [ze_X4_faultReadingInto_19, if_pos (by rw [show (10 : Int32) = nI 10 from rfl, z_lt (by omega) (by omega)]; omega), hat]
    rfl
  | succ m ih =>
    intro p N H S hm hN hc hat hp hH hL
    obtain ⟨N, rfl⟩ : ∃ N', N = N' + 1 := ⟨N - 1, by omega⟩
    obtain ⟨k1, k2, k3⟩ := z_pC_ok ht hp
    obtain ⟨S1, e1, a1, b1, f1⟩ := C_clause d len h p c H S ht hc hat hp hH (by omega) hL
    have hc1 := hc.rc f1
    rw [ze_X4_faultReadingInto_19, if_neg (by rw [show (10 : Int32) = nI 10 from rfl, z_lt (by omega) (by omega)]; omega), e1, z_rI_s]
    unfold z_pX
    by_cases h1 : (z_pC c len p).1 = true
    · obtain ⟨b2, b3⟩ := b1 h1
      rw [if_pos h1, if_neg z_01n, a1, hc1.1]
      simp only [if_pos h1]
      by_cases h2 : len ≤ (z_pC c len p).2.1
      · rw [if_neg (by rw [z_lt (by omega) (by omega)]; omega)]
        simp only [if_pos h2]
        exact ⟨S1, rfl, fun _ => b2, f1⟩
      · rw [if_pos (by rw [z_lt (by omega) (by omega)]; omega)]
        simp only [if_neg h2]
        by_cases h3 : m = 0
        · rw [if_pos (by rw [show (10 : Int32) = nI 10 from rfl, z_eq (by omega) (by omega)]; omega)]
          simp only [if_pos h3]
          exact ⟨S1, rfl, fun z => absurd z Bool.false_ne_true, f1⟩
        · rw [if_neg (by rw [show (10 : Int32) = nI 10 from rfl, z_eq (by omega) (by omega)]; omega)]
          simp only [if_neg h3]
          by_cases h4 : c (z_pC c len p).2.1 = 59
          · have f2 : z_fx z_P52a S1 (z_sI S1 5 0 2 (nI ((z_pC c len p).2.1 + 1))) := z_fx.sI ⟨rfl, rfl, rfl⟩
            rw [s_skipT (d + 17) len h _ 59 c S1 ht hc1 a1 k2 h4, z_rI_s, if_neg z_01n, nI_1]
            simp only [if_pos h4]
            have hl' : (H ++ [(z_pC c len p).2.2]).length = H.length + 1 := by rw [List.length_append, List.length_singleton]
            have k := ih ((z_pC c len p).2.1 + 1) N (H ++ [(z_pC c len p).2.2]) (z_sI S1 5 0 2 (nI ((z_pC c len p).2.1 + 1))) (by rw [hl']; omega) (by omega) (hc1.at2 f2) (z_at _ _) (by omega) (b2.fx f2 (fun k => by unfold z_P52a; omega) (fun k => by unfold z_P52a; omega) (fun k => by unfold z_P52a; omega)) (by omega)
            rw [hl'] at k
            obtain ⟨S', e', h', f'⟩ := k
            exact ⟨S', e', h', (f1.tr (f2.wk (fun t i k q => Or.inl q))).tr f'⟩
          · rw [s_skipF (d + 17) len h _ 59 c S1 ht hc1 a1 k2 h4, z_rI_s, if_pos rfl, a1]
            simp only [if_neg h4]
            exact ⟨S1, rfl, fun z => absurd z Bool.false_ne_true, f1⟩
    · rw [if_neg h1, if_pos rfl, a1]
      simp only [if_neg h1]
      exact ⟨S1, rfl, fun z => absurd z Bool.false_ne_true, f1⟩
def z_Prh (h : Nat) (t i k : Nat) : Prop := (t = 5 ∧ i = 0) ∨ ((t = 4 ∨ t = 22 ∨ t = 23) ∧ i = h)
theorem s_reading (d len h : Nat) (c : Nat → Int32) (S : z_Mem) (ht : z_tx len c) (h1 : S.1 5 0 1 = nI len) (h25 : ∀ p, p < len → S.1 25 0 p = c p) :
    ∃ S', z_exe z_mt true (d + 20) 29 [.inr (.inr (5, 0)), .inr (.inr (4, h))] S = some (some (.inl (if (z_pX c len 10 0 []).1 = true then -1 else nI (z_pX c len 10 0 []).2.1)), S') ∧ ((z_pX c len 10 0 []).1 = true → z_Hc h (z_pX c len 10 0 []).2.2 S') ∧ z_fx (z_Prh h) S S' := by
  have e : z_exe z_mt true (d + 20) 29 [.inr (.inr (5, 0)), .inr (.inr (4, h))] S = _ := (zx_X4_faultReadingInto (d + 19) S 0 h).trans (ze_X4_faultReadingInto_0 _ _ _ _ _)
  have f1 : z_fx (z_Prh h) S (z_sR S 5 0 3 (4, h)) := z_fx.sR (Or.inl ⟨rfl, rfl⟩) (by unfold z_LR; omega)
  have r1 : ((z_sR S 5 0 3 (4, h)).2.2.1 5 0 3).2 = h := by rw [z_sR3, if_pos ⟨rfl, rfl, rfl⟩]
  have ec : z_exe z_mt true (d + 18 + 1) 21 [.inr (.inr (4, h))] (z_sR S 5 0 3 (4, h)) = _ := (zx_X3_clear (d + 18) (z_sR S 5 0 3 (4, h)) h).trans (ze_X3_clear_0 _ _ _ _)
  have f2 : z_fx (z_Prh h) (z_sR S 5 0 3 (4, h)) (z_sI (z_sI (z_sI (z_sI (z_sR S 5 0 3 (4, h)) 4 h 0 1) 4 h 1 6) 4 h 2 0) 4 h 4 0) := (((z_fx.sI (Or.inr ⟨Or.inl rfl, rfl⟩)).tr (z_fx.sI (Or.inr ⟨Or.inl rfl, rfl⟩))).tr (z_fx.sI (Or.inr ⟨Or.inl rfl, rfl⟩))).tr (z_fx.sI (Or.inr ⟨Or.inl rfl, rfl⟩))
  have f3 : z_fx (z_Prh h) (z_sI (z_sI (z_sI (z_sI (z_sR S 5 0 3 (4, h)) 4 h 0 1) 4 h 1 6) 4 h 2 0) 4 h 4 0) (z_sI (z_sI (z_sI (z_sI (z_sI (z_sR S 5 0 3 (4, h)) 4 h 0 1) 4 h 1 6) 4 h 2 0) 4 h 4 0) 5 0 2 0) := z_fx.sI (Or.inl ⟨rfl, rfl⟩)
  try dsimp only at e
  rw [r1] at e
  rw [ec] at e
  try dsimp only at e
  rw [z_rV_s] at e
  have F := (f1.tr f2).tr f3
  have hcx : z_cx c len h (z_sI (z_sI (z_sI (z_sI (z_sI (z_sR S 5 0 3 (4, h)) 4 h 0 1) 4 h 1 6) 4 h 2 0) 4 h 4 0) 5 0 2 0) := by
    refine ⟨?_, fun p hp => ?_, ?_⟩
    · rw [z_sI1, if_neg (by omega), z_sI1, if_neg (by omega), z_sI1, if_neg (by omega), z_sI1, if_neg (by omega), z_sI1, if_neg (by omega)]; exact h1
    · rw [z_sI1, if_neg (by omega), z_sI1, if_neg (by omega), z_sI1, if_neg (by omega), z_sI1, if_neg (by omega), z_sI1, if_neg (by omega)]; exact h25 p hp
    · exact r1
  have hHc : z_Hc h [] (z_sI (z_sI (z_sI (z_sI (z_sI (z_sR S 5 0 3 (4, h)) 4 h 0 1) 4 h 1 6) 4 h 2 0) 4 h 4 0) 5 0 2 0) := by
    refine ⟨⟨?_, ?_⟩, ⟨?_, by decide, fun k x q => ?_⟩, ?_, by decide, fun k x q => ?_⟩
    · simp [z_sI1]; rfl
    · simp [z_sI1]; rfl
    · simp [z_sI1]; rfl
    · have q : ([] : List Int32)[k]? = some x := q
      simp at q
    · simp [z_sI1]; rfl
    · have q : ([] : List Int32)[k]? = some x := q
      simp at q
  obtain ⟨S', e', h', f'⟩ := l_ptC d len h c ht 10 0 999999 [] _ rfl (by omega) hcx (z_at _ _) (Nat.zero_le _) hHc (Nat.zero_le _)
  exact ⟨S', e.trans e', h', F.tr (f'.wk (fun t i k q => by unfold z_Prc at q; unfold z_Prh; omega))⟩
/-! the model -/
def z_Hi (f A : Nat) (H : z_H) (out : List z_Tk) (S : z_Mem) : Prop := S.1 12 0 24 = nI (A + out.length) ∧ z_tkl (S.1 49 0) z_ts A out ∧ ∀ j cl, H[j]? = some cl → S.1 45 0 (10 * f + j) = nI cl.1 ∧ S.1 46 0 (10 * f + j) = nI cl.2.1 ∧ (cl.1 < 2 → ∃ a : Nat, S.1 47 0 (10 * f + j) = nI a ∧ S.1 48 0 (10 * f + j) = nI (a + cl.2.2.length) ∧ A ≤ a ∧ a + cl.2.2.length ≤ A + out.length ∧ z_tkl (S.1 49 0) z_ts a cl.2.2)
def z_Pmt (f : Nat) (t i k : Nat) : Prop := i = 0 ∧ ((t = 12 ∧ (k = 14 ∨ k = 15 ∨ k = 24 ∨ k = 25 ∨ k = 26)) ∨ t = 50 ∨ (t = 49 ∧ 100 * f ≤ k) ∨ (45 ≤ t ∧ t ≤ 48 ∧ 10 * f ≤ k) ∨ (t = 44 ∧ k = f))
theorem z_Pmc_mt {f cI : Nat} (h : 10 * f ≤ cI) {S S' : z_Mem} (hf : z_fx (z_Pmc (100 * f) cI) S S') : z_fx (z_Pmt f) S S' := hf.wk (fun t i k q => by
  rcases q with (q | q) | q
  · unfold z_Pme at q; unfold z_Pmt; omega
  · unfold z_Pmt; omega
  · unfold z_Pmt; omega)
theorem l_ptM (d len f : Nat) (c : Nat → Int32) (ht : z_tx len c) (hf6 : f < 6) : ∀ (m p N : Nat) (H : z_H) (out : List z_Tk) (S : z_Mem), H.length + m = 10 → 0 < m → m < N → z_let S → z_mx2 c len S → S.1 12 0 14 = nI p → p ≤ len → out.length ≤ p → z_Hi f (100 * f) H out S →
    ∃ S' out', zr_X12_goesText (z_exe z_mt true (d + 6)) N 15 [some (.inr (.inr (12, 0))), some (.inl (nI f)), some (.inl (nI H.length))] [] S = some (some (.inl (if (z_pX c len m p H).1 = true then 1 else 0)), S') ∧ S'.1 12 0 14 = nI (z_pX c len m p H).2.1 ∧ ((z_pX c len m p H).1 = true → z_Hi f (100 * f) (z_pX c len m p H).2.2 out' S' ∧ out'.length ≤ len ∧ S'.1 44 0 f = nI (z_pX c len m p H).2.2.length) ∧ z_fx (z_Pmt f) S S' := by
  have hl := ht.1
  intro m
  induction m with
  | zero => intro p N H out S hm h0; exact absurd h0 (Nat.lt_irrefl _)
  | succ m ih =>
    intro p N H out S hm h0 hN hlt hc hat hp ho hHi
    obtain ⟨N, rfl⟩ : ∃ N', N = N' + 1 := ⟨N - 1, by omega⟩
    obtain ⟨k1, k2, k3⟩ := z_pC_ok ht hp
    obtain ⟨i1, i2, i3⟩ := hHi
    obtain ⟨S1, e1, a1, b1, f1⟩ := s_mclause c len (100 * f) (10 * f + H.length) d p ht (by omega) (by omega) out S hlt hc hat hp ho i1 i2
    have f1' : z_fx (z_Pmt f) S S1 := z_Pmc_mt (by omega) f1
    have hx : (10 : Int32) * nI f + nI H.length = nI (10 * f + H.length) := by rw [show (10 : Int32) * nI f = nI (10 * f) from pk_mul 10 f, nI_add]
    rw [ze_X12_goesText_15, hx, e1, z_rI_s]
    unfold z_pX
    by_cases h1 : (z_pC c len p).1 = true
    · obtain ⟨b2, b3, b4, b5, b6⟩ := b1 h1
      obtain ⟨k4, k5, k6, k7⟩ := k3 h1
      have f2 : z_fx (z_Pmt f) S1 (z_sI S1 44 0 f (nI (H.length + 1))) := z_fx.sI ⟨rfl, by omega⟩
      have F := f1'.tr f2
      have hl' : (H ++ [(z_pC c len p).2.2]).length = H.length + 1 := by rw [List.length_append, List.length_singleton]
      have hol : (out ++ (z_pC c len p).2.2.2.2).length = out.length + (z_pC c len p).2.2.2.2.length := List.length_append
      have g14 : (z_sI S1 44 0 f (nI (H.length + 1))).1 12 0 14 = nI (z_pC c len p).2.1 := by rw [z_sI1, if_neg (by omega)]; exact a1
      have g13 : (z_sI S1 44 0 f (nI (H.length + 1))).1 12 0 13 = nI len := by rw [F.i (by unfold z_Pmt; omega)]; exact hc.1
      have g44 : (z_sI S1 44 0 f (nI (H.length + 1))).1 44 0 f = nI (H.length + 1) := by rw [z_sI1, if_pos ⟨rfl, rfl, rfl⟩]
      have hHi2 : z_Hi f (100 * f) (H ++ [(z_pC c len p).2.2]) (out ++ (z_pC c len p).2.2.2.2) (z_sI S1 44 0 f (nI (H.length + 1))) := by
        refine ⟨?_, z_tk_cg b3 (fun k hk => by rw [z_sI1, if_neg (by omega)]), fun j cl hj => ?_⟩
        · rw [z_sI1, if_neg (by omega)]; exact b2
        · by_cases q : j < H.length
          · rw [List.getElem?_append_left q] at hj
            obtain ⟨j1, j2, j3⟩ := i3 j cl hj
            have nn : ∀ t, 45 ≤ t → t ≤ 48 → (z_sI S1 44 0 f (nI (H.length + 1))).1 t 0 (10 * f + j) = S.1 t 0 (10 * f + j) := fun t q1 q2 => by
              rw [z_sI1, if_neg (by omega), f1.i (by unfold z_Pmc z_PmE z_Pme; omega)]
            refine ⟨(nn 45 (by omega) (by omega)).trans j1, (nn 46 (by omega) (by omega)).trans j2, fun z => ?_⟩
            obtain ⟨a, a1, a2, a3, a4, a5⟩ := j3 z
            refine ⟨a, (nn 47 (by omega) (by omega)).trans a1, (nn 48 (by omega) (by omega)).trans a2, a3, by rw [hol]; omega, z_tk_cg a5 (fun k hk => ?_)⟩
            rw [z_sI1, if_neg (by omega)]
            have hi : a + k - 100 * f < out.length := by omega
            have o1 := i2 (a + k - 100 * f) out[a + k - 100 * f] (List.getElem?_eq_getElem hi)
            have o2 := b3 (a + k - 100 * f) out[a + k - 100 * f] (by rw [List.getElem?_append_left hi]; exact List.getElem?_eq_getElem hi)
            rw [show 100 * f + (a + k - 100 * f) = a + k by omega] at o1 o2
            rw [o1, o2]
          · rw [List.getElem?_append_right (by omega)] at hj
            have hj0 : j - H.length = 0 := by
              have := (List.getElem?_eq_some_iff.mp hj).1
              rw [List.length_singleton] at this
              omega
            rw [hj0] at hj
            have hj : (z_pC c len p).2.2 = cl := Option.some.inj hj
            obtain rfl : j = H.length := by omega
            rw [← hj]
            refine ⟨by rw [z_sI1, if_neg (by omega)]; exact b4, by rw [z_sI1, if_neg (by omega)]; exact b5, fun z => ?_⟩
            obtain ⟨c1, c2⟩ := b6 z
            refine ⟨100 * f + out.length, by rw [z_sI1, if_neg (by omega)]; exact c1, ?_, by omega, by rw [hol]; omega, fun k t hk => ?_⟩
            · rw [z_sI1, if_neg (by omega), c2, hol]
              congr 1
              omega
            · have := b3 (out.length + k) t (by rw [List.getElem?_append_right (by omega), show out.length + k - out.length = k by omega]; exact hk)
              rw [z_sI1, if_neg (by omega), show 100 * f + out.length + k = 100 * f + (out.length + k) by omega]
              exact this
      rw [if_pos h1, if_neg z_01n]
      try dsimp only
      rw [nI_1, z_oob_n (k := f) (by omega) (by omega), z_cl (k := f) (by omega), z_cnf, g14, g13]
      simp only [if_pos h1]
      by_cases h2 : len ≤ (z_pC c len p).2.1
      · rw [if_pos (by rw [z_eq (by omega) (by omega)]; omega)]
        simp only [if_pos h2]
        refine ⟨_, out ++ (z_pC c len p).2.2.2.2, rfl, g14, fun _ => ⟨hHi2, by rw [hol]; omega, by rw [g44, hl']⟩, F⟩
      · rw [if_neg (by rw [z_eq (by omega) (by omega)]; omega)]
        simp only [if_neg h2]
        by_cases h3 : m = 0
        · rw [if_pos (by rw [show (10 : Int32) = nI 10 from rfl, z_eq (by omega) (by omega)]; omega)]
          simp only [if_pos h3]
          exact ⟨_, [], rfl, g14, fun z => absurd z Bool.false_ne_true, F⟩
        · rw [if_neg (by rw [show (10 : Int32) = nI 10 from rfl, z_eq (by omega) (by omega)]; omega)]
          simp only [if_neg h3]
          have hc2 : z_mx2 c len (z_sI S1 44 0 f (nI (H.length + 1))) := hc.fx F (by unfold z_Pmt; omega) (fun p => by unfold z_Pmt; omega)
          by_cases h4 : c (z_pC c len p).2.1 = 59
          · have f3 : z_fx z_P14 (z_sI S1 44 0 f (nI (H.length + 1))) (z_sI (z_sI S1 44 0 f (nI (H.length + 1))) 12 0 14 (nI ((z_pC c len p).2.1 + 1))) := z_fx.sI ⟨rfl, rfl, rfl⟩
            have f3' : z_fx (z_Pmt f) _ _ := f3.wk (fun t i k q => by unfold z_P14 at q; unfold z_Pmt; omega)
            rw [s_takesT (d + 4) len _ 59 c _ ht hc2 g14 k2 h4, z_rI_s, if_neg z_01n]
            simp only [if_pos h4]
            have hHi3 : z_Hi f (100 * f) (H ++ [(z_pC c len p).2.2]) (out ++ (z_pC c len p).2.2.2.2) (z_sI (z_sI S1 44 0 f (nI (H.length + 1))) 12 0 14 (nI ((z_pC c len p).2.1 + 1))) := by
              obtain ⟨q1, q2, q3⟩ := hHi2
              have ee : ∀ t k, t ≠ 12 → (z_sI (z_sI S1 44 0 f (nI (H.length + 1))) 12 0 14 (nI ((z_pC c len p).2.1 + 1))).1 t 0 k = (z_sI S1 44 0 f (nI (H.length + 1))).1 t 0 k := fun t k q => by rw [z_sI1, if_neg (by omega)]
              refine ⟨by rw [z_sI1, if_neg (by omega)]; exact q1, z_tk_cg q2 (fun k _ => ee 49 _ (by decide)), fun j cl hj => ?_⟩
              obtain ⟨j1, j2, j3⟩ := q3 j cl hj
              refine ⟨(ee 45 _ (by decide)).trans j1, (ee 46 _ (by decide)).trans j2, fun z => ?_⟩
              obtain ⟨a, a1, a2, a3, a4, a5⟩ := j3 z
              exact ⟨a, (ee 47 _ (by decide)).trans a1, (ee 48 _ (by decide)).trans a2, a3, a4, z_tk_cg a5 (fun k _ => ee 49 _ (by decide))⟩
            have k := ih ((z_pC c len p).2.1 + 1) N (H ++ [(z_pC c len p).2.2]) (out ++ (z_pC c len p).2.2.2.2) _ (by rw [hl']; omega) (by omega) (by omega) (z_let_cg hlt (fun k hk => (F.tr f3').i (by unfold z_Pmt; omega))) (hc2.at3 f3) (z_m14 _ _) (by omega) (by rw [hol]; omega) hHi3
            rw [hl'] at k
            obtain ⟨S', out', e', a', h', f'⟩ := k
            exact ⟨S', out', e', a', h', (F.tr f3').tr f'⟩
          · rw [s_takesF (d + 4) len _ 59 c _ ht hc2 g14 k2 h4, z_rI_s, if_pos rfl]
            simp only [if_neg h4]
            exact ⟨_, [], rfl, g14, fun z => absurd z Bool.false_ne_true, F⟩
    · rw [if_neg h1, if_pos rfl]
      simp only [if_neg h1]
      exact ⟨S1, [], rfl, a1, fun z => absurd z Bool.false_ne_true, f1'⟩
theorem s_goesText (d len f : Nat) (c : Nat → Int32) (S : z_Mem) (ht : z_tx len c) (hf6 : f < 6) (hlt : z_let S) (hc : z_mx2 c len S) :
    ∃ S' out', z_exe z_mt true (d + 7) 157 [.inr (.inr (12, 0)), .inl (nI f)] S = some (some (.inl (if (z_pX c len 10 0 []).1 = true then 1 else 0)), S') ∧ S'.1 12 0 14 = nI (z_pX c len 10 0 []).2.1 ∧ ((z_pX c len 10 0 []).1 = true → z_Hi f (100 * f) (z_pX c len 10 0 []).2.2 out' S' ∧ out'.length ≤ len ∧ S'.1 44 0 f = nI (z_pX c len 10 0 []).2.2.length) ∧ z_fx (z_Pmt f) S S' := by
  have e : z_exe z_mt true (d + 7) 157 [.inr (.inr (12, 0)), .inl (nI f)] S = _ := (zx_X12_goesText (d + 6) S 0 (nI f)).trans (ze_X12_goesText_0 _ _ _ _ _)
  have f1 : z_fx (z_Pmt f) S (z_sI (z_sI S 12 0 14 0) 12 0 24 (nI (100 * f))) := (z_fx.sI ⟨rfl, by omega⟩).tr (z_fx.sI ⟨rfl, by omega⟩)
  try dsimp only at e
  rw [show (100 : Int32) * nI f = nI (100 * f) from pk_mul 100 f] at e
  obtain ⟨S', out', e', a', h', f'⟩ := l_ptM d len f c ht hf6 10 0 999999 [] [] (z_sI (z_sI S 12 0 14 0) 12 0 24 (nI (100 * f))) rfl (by omega) (by omega) (z_let_cg hlt (fun k hk => f1.i (by unfold z_Pmt; omega))) (hc.fx f1 (by unfold z_Pmt; omega) (fun p => by unfold z_Pmt; omega)) (by rw [z_sI1, if_neg (by omega), z_sI1, if_pos ⟨rfl, rfl, rfl⟩]; rfl) (Nat.zero_le _) (Nat.zero_le _) ⟨by rw [z_sI1, if_pos ⟨rfl, rfl, rfl⟩]; rfl, z_tk_0, fun j cl hj => by simp at hj⟩
  exact ⟨S', out', e.trans e', a', h', f1.tr f'⟩
