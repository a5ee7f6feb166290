/-! ===== what was seen ===== -/
def z_sn (c n : Nat) (wh wt wn : Nat → Nat) (S : z_Mem) : Prop := c ≤ 5 ∧ S.1 8 0 3 = nI c ∧ S.1 12 0 42 = nI c ∧ ∀ i, i < c → (wh i < n ∧ S.1 31 0 i = nI (wh i) ∧ S.1 59 0 i = nI (wh i)) ∧ (wt i ≤ 99 ∧ S.1 32 0 i = nI (wt i) ∧ S.1 60 0 i = nI (wt i)) ∧ (wn i ≤ 20 ∧ S.1 33 0 i = nI (wn i) ∧ S.1 61 0 i = nI (wn i))
theorem z_LB.sn {n : Nat} {S : z_Mem} (hn : n ≤ 6) (h : z_LB n S) : ∃ (c : Nat) (wh wt wn : Nat → Nat), z_sn c n wh wt wn S := by
  obtain ⟨⟨c, h1, h2, h3, h4⟩, -⟩ := h
  refine ⟨c, fun i => (S.1 31 0 i).toNatClampNeg, fun i => (S.1 32 0 i).toNatClampNeg, fun i => (S.1 33 0 i).toNatClampNeg, h1, h2, h3, fun i hi => ?_⟩
  obtain ⟨⟨b, b1, b2, b3⟩, ⟨w, w1, w2, w3⟩, ⟨k, k1, k2, k3⟩⟩ := h4 i hi
  refine ⟨⟨?_, ?_, ?_⟩, ⟨?_, ?_, ?_⟩, ?_, ?_, ?_⟩ <;> (try dsimp only)
  · rw [b2, z_cl (by omega)]; exact b1
  · rw [b2, z_cl (by omega)]
  · rw [b2, z_cl (by omega)]; exact b3
  · rw [w2, z_cl (by omega)]; exact w1
  · rw [w2, z_cl (by omega)]
  · rw [w2, z_cl (by omega)]; exact w3
  · rw [k2, z_cl (by omega)]; exact k1
  · rw [k2, z_cl (by omega)]
  · rw [k2, z_cl (by omega)]; exact k3
theorem z_sn.cgs {c n : Nat} {wh wt wn : Nat → Nat} {S S' : z_Mem} (h : z_sn c n wh wt wn S) (e : ∀ t i k, z_FB t i k → S'.1 t i k = S.1 t i k) : z_sn c n wh wt wn S' := by
  obtain ⟨h1, h2, h3, h4⟩ := h
  refine ⟨h1, (e 8 0 3 (by unfold z_FB; omega)).trans h2, (e 12 0 42 (by unfold z_FB; omega)).trans h3, fun i hi => ?_⟩
  rw [e 31 0 i (by unfold z_FB; omega), e 32 0 i (by unfold z_FB; omega), e 33 0 i (by unfold z_FB; omega), e 59 0 i (by unfold z_FB; omega), e 60 0 i (by unfold z_FB; omega), e 61 0 i (by unfold z_FB; omega)]
  exact h4 i hi
noncomputable def z_dec (p : Prop) : Bool := @decide p (Classical.propDecidable p)
theorem z_dec_T {p : Prop} (h : p) : z_dec p = true := @decide_eq_true p (Classical.propDecidable p) h
theorem z_dec_F {p : Prop} (h : ¬ p) : z_dec p = false := @decide_eq_false p (Classical.propDecidable p) h
/-- r says whether p -/
def z_yes (r : Int32) (p : Prop) : Prop := (r = 1 ∧ p) ∨ (r = 0 ∧ ¬ p)
theorem z_m1_lt {q t : Nat} (hq : q ≤ 100) (ht : t ≤ 100) : (nI q - 1 < nI t) ↔ q ≤ t := by
  rw [show (1 : Int32) = nI 1 from rfl, z_sublt hq (by omega) (by omega)]
  omega
/-- the greatest hour of pair b, and one more -/
theorem l_mostThird (ex : z_Ex) (c n b : Nat) (wh wt wn : Nat → Nat) (S : z_Mem) (hn : n ≤ 6) (hb : b < n) (hs : z_sn c n wh wt wn S) : ∀ (m i N q : Nat), i + m = c → m < N → q ≤ 21 → (∀ j, j < i → wh j = b → wn j < q) →
    ∃ q' : Nat, q' ≤ 21 ∧ (∀ j, j < c → wh j = b → wn j < q') ∧ zr_X8_mostThirdOf ex N 4 [some (.inr (.inr (8, 0))), some (.inl (nI b)), some (.inl (nI q - 1)), some (.inl (nI i))] [] S = some (some (.inl (nI q' - 1)), S) := by
  obtain ⟨h1, h2, h3, h4⟩ := hs
  intro m
  induction m with
  | zero =>
    intro i N q hi hN hq hk
    obtain ⟨N, rfl⟩ : ∃ N', N = N' + 1 := ⟨N - 1, by omega⟩
    refine ⟨q, hq, fun j hj => hk j (by omega), ?_⟩
    rw [ze_X8_mostThirdOf_4, if_pos (by rw [h2, z_le (by omega) (by omega)]; omega)]
  | succ m ih =>
    intro i N q hi hN hq hk
    obtain ⟨N, rfl⟩ : ∃ N', N = N' + 1 := ⟨N - 1, by omega⟩
    obtain ⟨⟨a1, a2, -⟩, -, ⟨c1, c2, -⟩⟩ := h4 i (by omega)
    have ho : z_oob (nI i) (z_rl 0) = false := z_oob_n (n := 5) (by omega) (by omega)
    have hsuc : ∀ q', (q ≤ q') → (wh i = b → wn i < q') → ∀ j, j < i + 1 → wh j = b → wn j < q' := fun q' a c j hj hw => by
      by_cases e : j = i
      · subst e; exact c hw
      · exact Nat.lt_of_lt_of_le (hk j (by omega) hw) a
    rw [ze_X8_mostThirdOf_4, if_neg (by rw [h2, z_le (by omega) (by omega)]; omega), ho, z_cl (k := i) (by omega), a2, c2, nI_1]
    simp only [z_cnf]
    by_cases e : nI (wh i) = nI b
    · rw [if_pos e]
      by_cases z : nI q - 1 < nI (wn i)
      · rw [if_pos z]
        rw [z_m1_lt (by omega) (by omega)] at z
        have k := ih (i + 1) N (wn i + 1) (by omega) (by omega) (by omega) (hsuc _ (by omega) (fun _ => by omega))
        rw [nI_pred] at k
        exact k
      · rw [if_neg z]
        rw [z_m1_lt (by omega) (by omega)] at z
        exact ih (i + 1) N q (by omega) (by omega) hq (hsuc _ (by omega) (fun _ => by omega))
    · rw [if_neg e]
      rw [nI_eq (by omega) (by omega)] at e
      exact ih (i + 1) N q (by omega) (by omega) hq (hsuc _ (by omega) (fun w => absurd w e))
theorem s_mostThird (d c n b : Nat) (wh wt wn : Nat → Nat) (S : z_Mem) (hn : n ≤ 6) (hb : b < n) (hs : z_sn c n wh wt wn S) : ∃ q' : Nat, q' ≤ 21 ∧ (∀ j, j < c → wh j = b → wn j < q') ∧ z_exe z_mt true (d + 1) 65 [.inr (.inr (8, 0)), .inl (nI b)] S = some (some (.inl (nI q' - 1)), S) := by
  have e : z_exe z_mt true (d + 1) 65 [.inr (.inr (8, 0)), .inl (nI b)] S = _ := (zx_X8_mostThirdOf d S 0 (nI b)).trans (ze_X8_mostThirdOf_0 _ _ _ _ _)
  rw [e]
  have hc := hs.1
  exact l_mostThird (z_exe z_mt true d) c n b wh wt wn S hn hb hs c 0 999999 0 (by omega) (by omega) (by omega) (fun j hj => by omega)
/-! the class: the course is as seen -/
theorem l_ca30 (ex : z_Ex) (c n b k : Nat) (wh wt wn : Nat → Nat) (x : Int32) (S : z_Mem) (hn : n ≤ 6) (hb : b < n) (hk : k ≤ 30) (w : Int32) (hw : S.1 2 18 3 = w) (hs : z_sn c n wh wt wn S) : ∀ (m i N : Nat), i + m = c →
    ((∀ j, i ≤ j → j < c → wh j = b → wn j = k → nI (wt j) = w) → zr_X11_courseIsAsSeen ex (N + (m + 1)) 30 [some (.inr (.inr (11, 0))), some (.inl (nI b)), some (.inl x), some (.inl (nI k)), some (.inl (nI i)), none] [] S = z_rV (ex 18 [.inr (.inr (3, 0))] S) (fun S3 => zr_X11_courseIsAsSeen ex N 22 [some (.inr (.inr (11, 0))), some (.inl (nI b)), some (.inl x), some (.inl (nI (k + 1))), none, none] [] S3)) ∧
    ((¬ ∀ j, i ≤ j → j < c → wh j = b → wn j = k → nI (wt j) = w) → zr_X11_courseIsAsSeen ex (N + (m + 1)) 30 [some (.inr (.inr (11, 0))), some (.inl (nI b)), some (.inl x), some (.inl (nI k)), some (.inl (nI i)), none] [] S = some (some (.inl 0), S)) := by
  obtain ⟨h1, h2, h3, h4⟩ := hs
  intro m
  induction m with
  | zero =>
    intro i N hi
    refine ⟨fun _ => ?_, fun q => absurd (fun j h1 h2 => by omega) q⟩
    show zr_X11_courseIsAsSeen ex (N + 1) 30 _ [] S = _
    rw [ze_X11_courseIsAsSeen_30, if_pos (by rw [h2, z_le (by omega) (by omega)]; omega), nI_1]
  | succ m ih =>
    intro i N hi
    obtain ⟨⟨a1, a2, -⟩, ⟨b1, b2, -⟩, ⟨c1, c2, -⟩⟩ := h4 i (by omega)
    have ho : z_oob (nI i) (z_rl 0) = false := z_oob_n (n := 5) (by omega) (by omega)
    have step : (wh i = b → wn i = k → nI (wt i) = w) → zr_X11_courseIsAsSeen ex (N + (m + 1 + 1)) 30 [some (.inr (.inr (11, 0))), some (.inl (nI b)), some (.inl x), some (.inl (nI k)), some (.inl (nI i)), none] [] S = zr_X11_courseIsAsSeen ex (N + (m + 1)) 30 [some (.inr (.inr (11, 0))), some (.inl (nI b)), some (.inl x), some (.inl (nI k)), some (.inl (nI (i + 1))), none] [] S := by
      intro h
      rw [show N + (m + 1 + 1) = N + (m + 1) + 1 from rfl]
      generalize N + (m + 1) = F
      rw [ze_X11_courseIsAsSeen_30, if_neg (by rw [h2, z_le (by omega) (by omega)]; omega), ho, z_cl (k := i) (by omega), a2, b2, c2, hw, nI_1]
      simp only [z_cnf]
      by_cases e : nI (wh i) = nI b
      · rw [if_pos e]
        by_cases e2 : nI (wn i) = nI k
        · rw [if_pos e2, if_neg z_01n, if_pos (h ((nI_eq (by omega) (by omega)).mp e) ((nI_eq (by omega) (by omega)).mp e2))]
        · rw [if_neg e2, if_pos trivial]
      · rw [if_neg e, if_pos trivial]
    obtain ⟨i1, i2⟩ := ih (i + 1) N (by omega)
    refine ⟨fun hall => ?_, fun hnot => ?_⟩
    · rw [step (fun e1 e2 => hall i (by omega) (by omega) e1 e2)]
      exact i1 (fun j q1 q2 => hall j (by omega) q2)
    · by_cases h : wh i = b → wn i = k → nI (wt i) = w
      · rw [step h]
        refine i2 (fun q => hnot (fun j q1 q2 e1 e2 => ?_))
        by_cases e : j = i
        · subst e; exact h e1 e2
        · exact q j (by omega) q2 e1 e2
      · have h' : wh i = b ∧ wn i = k ∧ ¬ nI (wt i) = w := by
          by_cases e1 : wh i = b
          · by_cases e2 : wn i = k
            · exact ⟨e1, e2, fun e3 => h (fun _ _ => e3)⟩
            · exact absurd (fun _ z => absurd z e2) h
          · exact absurd (fun z => absurd z e1) h
        obtain ⟨e1, e2, e3⟩ := h'
        rw [show N + (m + 1 + 1) = N + (m + 1) + 1 from rfl]
        generalize N + (m + 1) = F
        rw [ze_X11_courseIsAsSeen_30, if_neg (by rw [h2, z_le (by omega) (by omega)]; omega), ho, z_cl (k := i) (by omega), a2, b2, c2, hw]
        simp only [z_cnf]
        rw [if_pos (by rw [e1]), if_pos (by rw [e2]), if_neg z_01n, if_neg e3]
/-- the course from hour k on -/
theorem l_ca22 (d h c n b q : Nat) (wh wt wn : Nat → Nat) (H : z_H) (K : z_K) (f : Nat → Int32) (hH : z_hwf H) (hn : n ≤ 6) (hb : b < n) (hq : q ≤ 21) (hmax : ∀ j, j < c → wh j = b → wn j < q) : ∀ (m k N hr : Nat) (ht w cr : Int32) (S : z_Mem), k + m = q → 8 * m < N → hr + m ≤ 20000 → 0 ≤ w → z_Rk h H ht hr K w cr S → z_sn c n wh wt wn S → (∀ j, j < c → wh j = b → k ≤ wn j → f (wn j) = z_wN H K (wn j - k) ht hr w) → (∀ j, j < c → wh j = b → wn j < k → f (wn j) = nI (wt j)) →
    ∃ r S', zr_X11_courseIsAsSeen (z_exe z_mt true (d + 5)) N 22 [some (.inr (.inr (11, 0))), some (.inl (nI b)), some (.inl (nI q - 1)), some (.inl (nI k)), none, none] [] S = some (some (.inl r), S') ∧ z_yes r (∀ j, j < c → wh j = b → f (wn j) = nI (wt j)) ∧ z_fx z_Pco S S' := by
  intro m
  induction m with
  | zero =>
    intro k N hr ht w cr S hk hN hhr hw hR hs h1 h2
    obtain ⟨N, rfl⟩ : ∃ N', N = N' + 1 := ⟨N - 1, by omega⟩
    refine ⟨1, S, ?_, Or.inl ⟨rfl, fun j a b => h2 j a b (by have := hmax j a b; omega)⟩, z_fx.rf⟩
    rw [ze_X11_courseIsAsSeen_22, if_pos (by rw [z_m1_lt (by omega) (by omega)]; omega)]
  | succ m ih =>
    intro k N hr ht w cr S hk hN hhr hw hR hs h1 h2
    have hc := hs.1
    obtain ⟨N, rfl⟩ : ∃ N', N = N' + (c + 1) + 1 := ⟨N - (c + 1) - 1, by omega⟩
    have h3 : S.1 2 18 3 = w := (hR.2.2.2.2 0 (by omega)).2.1
    obtain ⟨g1, g2⟩ := l_ca30 (z_exe z_mt true (d + 5)) c n b k wh wt wn (nI q - 1) S hn hb (by omega) w h3 hs c 0 N (by omega)
    have e0 : zr_X11_courseIsAsSeen (z_exe z_mt true (d + 5)) (N + (c + 1) + 1) 22 [some (.inr (.inr (11, 0))), some (.inl (nI b)), some (.inl (nI q - 1)), some (.inl (nI k)), none, none] [] S = zr_X11_courseIsAsSeen (z_exe z_mt true (d + 5)) (N + (c + 1)) 30 [some (.inr (.inr (11, 0))), some (.inl (nI b)), some (.inl (nI q - 1)), some (.inl (nI k)), some (.inl (nI 0)), none] [] S := by
      generalize N + (c + 1) = F
      rw [ze_X11_courseIsAsSeen_22, if_neg (by rw [z_m1_lt (by omega) (by omega)]; omega)]
      rfl
    by_cases A : ∀ j, 0 ≤ j → j < c → wh j = b → wn j = k → nI (wt j) = w
    · obtain ⟨z, S1, e1, rfl, hR1, hf1⟩ := s_courseGo d h hr H ht K w cr S hH (by omega) hw hR
      obtain ⟨r, S2, e2, hy, hf2⟩ := ih (k + 1) N (hr + 1) _ _ _ S1 (by omega) (by omega) (by omega) (z_w1_pos hw) hR1 (hs.cgs (fun t i k q => hf1.i (by unfold z_FB at q; unfold z_Pco; omega))) (fun j a1 a2 a3 => by
        rw [h1 j a1 a2 (by omega), show wn j - k = (wn j - (k + 1)) + 1 by omega]
        rfl) (fun j a1 a2 a3 => by
        by_cases e : wn j = k
        · rw [h1 j a1 a2 (by omega), e, Nat.sub_self, A j (Nat.zero_le _) a1 a2 e]
          rfl
        · exact h2 j a1 a2 (by omega))
      refine ⟨r, S2, ?_, hy, hf1.tr hf2⟩
      rw [e0, g1 A, e1, z_rV_s]
      exact e2
    · refine ⟨0, S, ?_, Or.inr ⟨rfl, fun hall => A (fun j _ a1 a2 a3 => ?_)⟩, z_fx.rf⟩
      · rw [e0]; exact g2 A
      · have k1 := hall j a1 a2
        rw [h1 j a1 a2 (by omega), a3, Nat.sub_self] at k1
        exact k1.symm
theorem s_cas (d h c n b hr : Nat) (wh wt wn : Nat → Nat) (H : z_H) (K : z_K) (ht w cr : Int32) (S : z_Mem) (hH : z_hwf H) (hn : n ≤ 6) (hb : b < n) (hhr : hr ≤ 9999) (hw : 0 ≤ w) (hR : z_Rk h H ht hr K w cr S) (hK : K.1 = nI b) (hs : z_sn c n wh wt wn S) :
    ∃ r S', z_exe z_mt true (d + 6) 119 [.inr (.inr (11, 0))] S = some (some (.inl r), S') ∧ z_yes r (∀ j, j < c → wh j = b → z_wN H K (wn j) ht hr w = nI (wt j)) ∧ z_fx z_Pco S S' := by
  have e : z_exe z_mt true (d + 6) 119 [.inr (.inr (11, 0))] S = _ := (zx_X11_courseIsAsSeen (d + 5) S 0).trans (ze_X11_courseIsAsSeen_0 _ _ _ _)
  have hk0 : z_kc 18 S = K := (hR.2.2.2.2 0 (by omega)).1
  have h0 : S.1 2 18 0 = nI b := by rw [← hK, ← hk0]; rfl
  obtain ⟨q, hq, hmax, e1⟩ := s_mostThird (d + 4) c n b wh wt wn S hn hb hs
  obtain ⟨r, S', e2, hy, hf⟩ := l_ca22 d h c n b q wh wt wn H K (fun j => z_wN H K j ht hr w) hH hn hb hq hmax q 0 999999 hr ht w cr S (by omega) (by omega) (by omega) hw hR hs (fun j _ _ _ => rfl) (fun j _ _ z => absurd z (Nat.not_lt_zero _))
  refine ⟨r, S', ?_, hy, hf⟩
  rw [e, h0, e1, z_rI_s]
  exact e2
/-! the model: all is as seen -/
theorem l_isSeen (d c0 c n hr : Nat) (wh wt wn : Nat → Nat) (H : z_H) (ht : Int32) (K : Nat → z_K) (W C : Nat → Int32) (v1 : Int32) (hH : z_hwf H) (hn : n ≤ 6) (hhr : hr ≤ 9999) (hC : ∀ b, b < n → ∃ k : Nat, k ≤ hr ∧ C b = nI k) : ∀ (m i N : Nat) (S : z_Mem), i + m = c → m + 1 < N → S.1 12 0 29 = 9999 → z_Rm c0 H n ht hr K W C S → z_sn c n wh wt wn S → (∀ j, j < i → (v1 < 0 ∨ nI (wh j) = v1) → z_wN H (K (wh j)) (wn j) ht hr (W (wh j)) = nI (wt j)) →
    ∃ r S', zr_X12_isSeen (z_exe z_mt true (d + 7)) N 4 [some (.inr (.inr (12, 0))), some (.inl v1), some (.inl 1), some (.inl (nI i))] [] S = some (some (.inl r), S') ∧ z_yes r (∀ j, j < c → (v1 < 0 ∨ nI (wh j) = v1) → z_wN H (K (wh j)) (wn j) ht hr (W (wh j)) = nI (wt j)) ∧ z_fx z_Psc S S' := by
  intro m
  induction m with
  | zero =>
    intro i N S hi hN h29 hR hs hk
    obtain ⟨N, rfl⟩ : ∃ N', N = N' + 1 := ⟨N - 1, by omega⟩
    have hc := hs.1
    refine ⟨1, S, ?_, Or.inl ⟨rfl, fun j a b => hk j (by omega) b⟩, z_fx.rf⟩
    rw [ze_X12_isSeen_4, if_pos (by rw [hs.2.2.1, z_le (by omega) (by omega)]; omega), if_pos (by decide)]
  | succ m ih =>
    intro i N S hi hN h29 hR hs hk
    obtain ⟨N, rfl⟩ : ∃ N', N = N' + 1 := ⟨N - 1, by omega⟩
    obtain ⟨N', rfl⟩ : ∃ N', N = N' + 1 := ⟨N - 1, by omega⟩
    have hc := hs.1
    have h42 := hs.2.2.1
    obtain ⟨⟨a1, -, a2⟩, ⟨b1, -, b2⟩, ⟨c1, -, c2⟩⟩ := hs.2.2.2 i (by omega)
    have ho : z_oob (nI i) 5 = false := z_oob_n (by omega) (by omega)
    -- the trial of row i
    have tri : (v1 < 0 ∨ nI (wh i) = v1) → ∃ r S', z_rV (z_exe z_mt true (d + 7) 180 [.inr (.inr (12, 0))] S) (fun S1 =>
        z_rV (z_exe z_mt true (d + 7) 176 [.inr (.inr (12, 0)), .inl (S1.1 61 0 i)] S1) (fun S2 =>
        cond (z_oob (S2.1 59 0 i) 6) none (
        if (S2.1 39 0 (Int32.toNatClampNeg (S2.1 59 0 i))) = (S2.1 60 0 i) then (
         z_rV (z_exe z_mt true (d + 7) 181 [.inr (.inr (12, 0))] S2) (fun S3 =>
         zr_X12_isSeen (z_exe z_mt true (d + 7)) (N' + 1) 4 [some (.inr (.inr (12, 0))), some (.inl v1), some (.inl (1 : Int32)), some (.inl (nI (i + 1)))] [] S3))
        else (
         z_rV (z_exe z_mt true (d + 7) 181 [.inr (.inr (12, 0))] S2) (fun S5 =>
         zr_X12_isSeen (z_exe z_mt true (d + 7)) (N' + 1) 4 [some (.inr (.inr (12, 0))), some (.inl v1), some (.inl (0 : Int32)), some (.inl (nI (i + 1)))] [] S5))))) = some (some (.inl r), S') ∧ z_yes r (∀ j, j < c → (v1 < 0 ∨ nI (wh j) = v1) → z_wN H (K (wh j)) (wn j) ht hr (W (wh j)) = nI (wt j)) ∧ z_fx z_Psc S S' := by
      intro hrel
      obtain ⟨S1, e1, hsv, hR1, hmo⟩ := s_mSave (d + 6) c0 n hr H ht K W C S hR
      obtain ⟨z, S2, e2, rfl, hR2, hf2⟩ := s_mhours d c0 n (wn i) 2000000000 hr H ht K W C S1 hH hn (by omega) (by omega) (by omega) (by omega) hmo hR1 hC
      obtain ⟨S3, e3, hf3⟩ := s_mBack (d + 6) h29 hsv (z_Pm_Prn hf2)
      have k1 : ∀ t, 59 ≤ t → t ≤ 61 → S1.1 t 0 i = S.1 t 0 i := fun t q1 q2 => hsv.1.i (by unfold z_Psv; omega)
      have k2 : ∀ t, 59 ≤ t → t ≤ 61 → S2.1 t 0 i = S.1 t 0 i := fun t q1 q2 => (hf2.i (by unfold z_Pm; omega)).trans (k1 t q1 q2)
      have hR3 := hR.fx hf3 (fun t i k q => by unfold z_Psc; omega)
      have hs3 := hs.cgs (fun t i k q => hf3.i (by unfold z_FB at q; unfold z_Psc; omega))
      rw [e1, z_rV_s, k1 61 (by omega) (by omega), c2, e2, z_rV_s, k2 59 (by omega) (by omega), k2 60 (by omega) (by omega), a2, b2, z_oob_n (k := wh i) (by omega) (by omega), z_cl (k := wh i) (by omega), (hR2.2.2.2.2 (wh i) a1).2.1]
      simp only [z_cnf]
      by_cases g : z_wN H (K (wh i)) (wn i) ht hr (W (wh i)) = nI (wt i)
      · rw [if_pos g, e3, z_rV_s]
        obtain ⟨r, S4, e4, hy, hf4⟩ := ih (i + 1) (N' + 1) S3 (by omega) (by omega) (by rw [hf3.i (by unfold z_Psc; omega)]; exact h29) hR3 hs3 (fun j q1 q2 => by
          by_cases e : j = i
          · subst e; exact g
          · exact hk j (by omega) q2)
        exact ⟨r, S4, e4, hy, hf3.tr hf4⟩
      · rw [if_neg g, e3, z_rV_s]
        refine ⟨0, S3, ?_, Or.inr ⟨rfl, fun hall => g (hall i (by omega) hrel)⟩, hf3⟩
        rw [ze_X12_isSeen_4]
        by_cases q : S3.1 12 0 42 ≤ nI (i + 1)
        · rw [if_pos q, if_pos (by decide)]
        · rw [if_neg q, if_pos rfl, if_pos (by decide)]
    rw [ze_X12_isSeen_4, if_neg (by rw [h42, z_le (by omega) (by omega)]; omega), if_neg z_01n, ho, z_cl (k := i) (by omega), nI_1, a2]
    simp only [z_cnf]
    by_cases q1 : v1 < 0
    · rw [if_pos q1]
      exact tri (Or.inl q1)
    · rw [if_neg q1]
      by_cases q2 : nI (wh i) = v1
      · rw [if_pos q2]
        exact tri (Or.inr q2)
      · rw [if_neg q2]
        exact ih (i + 1) (N' + 1) S (by omega) (by omega) h29 hR hs (fun j z1 z2 => by
          by_cases e : j = i
          · subst e; exact absurd z2 (fun z => z.elim q1 q2)
          · exact hk j (by omega) z2)
theorem s_isSeen (d c0 c n hr : Nat) (wh wt wn : Nat → Nat) (H : z_H) (ht : Int32) (K : Nat → z_K) (W C : Nat → Int32) (v1 : Int32) (S : z_Mem) (hH : z_hwf H) (hn : n ≤ 6) (hhr : hr ≤ 9999) (hC : ∀ b, b < n → ∃ k : Nat, k ≤ hr ∧ C b = nI k) (h29 : S.1 12 0 29 = 9999) (hR : z_Rm c0 H n ht hr K W C S) (hs : z_sn c n wh wt wn S) :
    ∃ r S', z_exe z_mt true (d + 8) 194 [.inr (.inr (12, 0)), .inl v1] S = some (some (.inl r), S') ∧ z_yes r (∀ j, j < c → (v1 < 0 ∨ nI (wh j) = v1) → z_wN H (K (wh j)) (wn j) ht hr (W (wh j)) = nI (wt j)) ∧ z_fx z_Psc S S' := by
  have e : z_exe z_mt true (d + 8) 194 [.inr (.inr (12, 0)), .inl v1] S = _ := (zx_X12_isSeen (d + 7) S 0 v1).trans (ze_X12_isSeen_0 _ _ _ _ _)
  have hc := hs.1
  rw [e]
  exact l_isSeen d c0 c n hr wh wt wn H ht K W C v1 hH hn hhr hC c 0 999999 S (by omega) (by omega) h29 hR hs (fun j hj => by omega)
