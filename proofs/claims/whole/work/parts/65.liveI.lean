/-! ===== change ===== -/
theorem z_cnd {α : Type} {c : Bool} (h : c = false) (a b : α) : cond c a b = b := by
  cases h
  rfl
/-- as z_cond_f, but the kernel does not unfold for it -/
theorem z_cnf {α : Type} (a b : α) : cond false a b = b := z_cnd rfl a b
/-- where pair b is, as a number -/
def z_spl (K : Nat → z_K) (b : Nat) : Nat := (K b).2.2.2.1.toNatClampNeg
theorem z_spl_is {hts n hr h c0 : Nat} {ht wd : Int32} {H : z_H} {K : Nat → z_K} {W C : Nat → Int32} {S : z_Mem} (hA : z_LA hts n hr h c0 ht wd H K W C S) {b : Nat} (hb : b < n) : (K b).2.2.2.1 = nI (z_spl K b) ∧ z_spl K b ≤ 5 := by
  obtain ⟨p, hp, e⟩ := (hA.2.2 b hb).1.1.2.2
  unfold z_spl
  rw [e, z_cl (by omega)]
  exact ⟨rfl, hp⟩
/-- how wet pair b is there, if it is here -/
def z_cg (H : z_H) (K : Nat → z_K) (W : Nat → Int32) (M : Nat) (ht : Int32) (hr : Nat) (b p : Nat) : Int32 := cond (K b).2.2.2.2.1 0 (z_ly H K W M ht hr b p)
theorem z_cg_le {hts n hr h c0 : Nat} {ht wd : Int32} {H : z_H} {K : Nat → z_K} {W C : Nat → Int32} {S : z_Mem} (hA : z_LA hts n hr h c0 ht wd H K W C S) (M : Nat) {b : Nat} (hb : b < n) (p : Nat) : ∃ j : Nat, j ≤ 99 ∧ z_cg H K W M ht hr b p = nI j := by
  unfold z_cg
  cases (K b).2.2.2.2.1 with
  | true => exact ⟨0, by omega, rfl⟩
  | false => exact z_ly_le hA M hb p
theorem s_move (d M b p : Nat) {hts n hr h c0 : Nat} {ht wd : Int32} {H : z_H} {K : Nat → z_K} {W C : Nat → Int32} {S : z_Mem} (hA : z_LA hts n hr h c0 ht wd H K W C S) (hfor : z_for n H K W M ht hr S) (hb : b < n) (hp : p ≤ 5) :
    z_exe z_mt true (d + 1) 46 [.inr (.inr (6, 0)), .inr (.inr (2, b)), .inl (nI p)] S = some (some (.inl (z_cg H K W M ht hr b p - z_cg H K W M ht hr b (z_spl K b))), S) := by
  have e : z_exe z_mt true (d + 1) 46 [.inr (.inr (6, 0)), .inr (.inr (2, b)), .inl (nI p)] S = _ := (zx_X6_moreByMove d S 0 b (nI p)).trans (ze_X6_moreByMove_0 _ _ _ _ _ _)
  have hn := hA.1.1.1
  obtain ⟨hk, ⟨kb, k01, kw, kc⟩, -⟩ := hA.2.2 b hb
  obtain ⟨s1, s2⟩ := z_spl_is hA hb
  have h20 : S.1 2 b 0 = nI b := by rw [← hk.1.1, ← kb]; rfl
  have h24 : S.1 2 b 4 = nI (z_spl K b) := by rw [← s1, ← kb]; rfl
  have hg : (K b).2.2.2.2.1 = !decide (S.1 2 b 5 = 0) := by rw [← kb]; rfl
  rw [e]
  try dsimp only
  rw [h20, h24, z_x6, z_x6]
  unfold z_cg
  by_cases g : S.1 2 b 5 = 0
  · rw [decide_eq_true g] at hg
    rw [if_pos g, hg, z_oob_n (k := 6 * b + p) (by omega) (by omega), z_cl (k := 6 * b + p) (by omega), z_oob_n (k := 6 * b + z_spl K b) (by omega) (by omega), z_cl (k := 6 * b + z_spl K b) (by omega), (hfor.2 b hb).2 p (by omega), (hfor.2 b hb).2 (z_spl K b) (by omega)]
    rfl
  · rw [decide_eq_false g] at hg
    rw [if_neg g, hg]
    show _ = some (some (Sum.inl ((0 : Int32) - 0)), S)
    rw [show (0 : Int32) - 0 = 0 by decide]
theorem s_more (d M a b : Nat) {hts n hr h c0 : Nat} {ht wd : Int32} {H : z_H} {K : Nat → z_K} {W C : Nat → Int32} {S : z_Mem} (hA : z_LA hts n hr h c0 ht wd H K W C S) (hfor : z_for n H K W M ht hr S) (ha : a < n) (hb : b < n) :
    z_exe z_mt true (d + 2) 45 [.inr (.inr (6, 0)), .inr (.inr (2, a)), .inr (.inr (2, b))] S = some (some (.inl ((z_cg H K W M ht hr a (z_spl K b) - z_cg H K W M ht hr a (z_spl K a)) + (z_cg H K W M ht hr b (z_spl K a) - z_cg H K W M ht hr b (z_spl K b)))), S) := by
  have e : z_exe z_mt true (d + 2) 45 [.inr (.inr (6, 0)), .inr (.inr (2, a)), .inr (.inr (2, b))] S = _ := (zx_X6_moreByChange (d + 1) S 0 a b).trans (ze_X6_moreByChange_0 _ _ _ _ _ _)
  have h4 : ∀ b, b < n → S.1 2 b 4 = nI (z_spl K b) := fun b hb => by
    rw [← (z_spl_is hA hb).1, ← (hA.2.2 b hb).2.1.1]; rfl
  rw [e, h4 b hb, s_move d M a (z_spl K b) hA hfor ha (z_spl_is hA hb).2, z_rI_s, h4 a ha, s_move d M b (z_spl K a) hA hfor hb (z_spl_is hA ha).2, z_rI_s]
/-- the places, once a and b have changed; the sum by that -/
def z_chp (K : Nat → z_K) (a b o : Nat) : Nat := if o = a then z_spl K b else if o = b then z_spl K a else z_spl K o
def z_chG (H : z_H) (K : Nat → z_K) (W : Nat → Int32) (M : Nat) (ht : Int32) (hr n a b : Nat) : Int32 := z_sg (fun o => z_cg H K W M ht hr o (z_chp K a b o)) 0 n 0
def z_chZ (H : z_H) (K : Nat → z_K) (W : Nat → Int32) (M : Nat) (ht : Int32) (hr n : Nat) : Int32 := z_sg (fun o => z_cg H K W M ht hr o (z_spl K o)) 0 n 0
theorem z_alg (X x0 x1 y0 y1 : Int32) : X + y1 + x1 = X + y0 + x0 + ((x1 - x0) + (y1 - y0)) := by
  rw [Int32.sub_eq_add_neg, Int32.sub_eq_add_neg]
  have e : X + y0 + x0 + (x1 + -x0 + (y1 + -y0)) = X + y1 + x1 + (x0 + -x0) + (y0 + -y0) := by ac_rfl
  rw [e, Int32.add_right_neg, Int32.add_right_neg, Int32.add_zero, Int32.add_zero]
theorem z_chG_eq (H : z_H) (K : Nat → z_K) (W : Nat → Int32) (M : Nat) (ht : Int32) (hr n a b : Nat) (hab : a < b) (hb : b < n) : z_chG H K W M ht hr n a b = z_chZ H K W M ht hr n + ((z_cg H K W M ht hr a (z_spl K b) - z_cg H K W M ht hr a (z_spl K a)) + (z_cg H K W M ht hr b (z_spl K a) - z_cg H K W M ht hr b (z_spl K b))) := by
  unfold z_chG z_chZ
  rw [z_sg_out (b0 := a) n 0 0 (by omega) (by omega), z_sg_out (b0 := b) n 0 0 (by omega) (by omega)]
  rw [z_sg_out (f := fun o => z_cg H K W M ht hr o (z_spl K o)) (b0 := a) n 0 0 (by omega) (by omega), z_sg_out (f := fun o => if o = a then 0 else z_cg H K W M ht hr o (z_spl K o)) (b0 := b) n 0 0 (by omega) (by omega)]
  have hc : z_sg (fun o => if o = b then 0 else if o = a then 0 else z_cg H K W M ht hr o (z_chp K a b o)) 0 n 0 = z_sg (fun o => if o = b then 0 else if o = a then 0 else z_cg H K W M ht hr o (z_spl K o)) 0 n 0 := by
    refine z_sg_cg n 0 0 (fun o _ _ => ?_)
    by_cases q : o = b
    · rw [if_pos q, if_pos q]
    · rw [if_neg q, if_neg q]
      by_cases q2 : o = a
      · rw [if_pos q2, if_pos q2]
      · rw [if_neg q2, if_neg q2]
        unfold z_chp
        rw [if_neg q2, if_neg q]
  rw [hc]
  have ea : z_chp K a b a = z_spl K b := if_pos rfl
  have eb : z_chp K a b b = z_spl K a := by unfold z_chp; rw [if_neg (by omega), if_pos rfl]
  try dsimp only
  rw [ea, eb, if_neg (show ¬ b = a by omega), if_neg (show ¬ b = a by omega)]
  exact z_alg _ _ _ _ _
theorem z_chG_sm {hts n hr h c0 : Nat} {ht wd : Int32} {H : z_H} {K : Nat → z_K} {W C : Nat → Int32} {S : z_Mem} (hA : z_LA hts n hr h c0 ht wd H K W C S) (M a b : Nat) : ∃ j : Nat, j ≤ 594 ∧ z_chG H K W M ht hr n a b = nI j := by
  have hn := hA.1.1.1
  obtain ⟨j, hj, e⟩ := z_sg_nI (f := fun o => z_cg H K W M ht hr o (z_chp K a b o)) (c := 99) n 0 0 (fun k _ hk => z_cg_le hA M (by omega) _)
  exact ⟨j, by omega, e⟩
theorem z_chZ_sm {hts n hr h c0 : Nat} {ht wd : Int32} {H : z_H} {K : Nat → z_K} {W C : Nat → Int32} {S : z_Mem} (hA : z_LA hts n hr h c0 ht wd H K W C S) (M : Nat) : ∃ j : Nat, j ≤ 594 ∧ z_chZ H K W M ht hr n = nI j := by
  have hn := hA.1.1.1
  obtain ⟨j, hj, e⟩ := z_sg_nI (f := fun o => z_cg H K W M ht hr o (z_spl K o)) (c := 99) n 0 0 (fun k _ hk => z_cg_le hA M (by omega) _)
  exact ⟨j, by omega, e⟩
/-- which two: answer and least so far -/
def z_chI (G : Nat → Nat → Int32) (a : Nat) : Nat → Nat → Int32 × Int32 → Int32 × Int32
  | 0, _, r => r
  | m + 1, b, r => z_chI G a m (b + 1) (if G a b < r.2 then (10 * nI a + nI b, G a b) else r)
def z_chO (G : Nat → Nat → Int32) : Nat → Nat → Int32 × Int32 → Int32 × Int32
  | 0, _, r => r
  | m + 1, a, r => z_chO G m (a + 1) (z_chI G a m (a + 1) r)
theorem z_chI_sm {G : Nat → Nat → Int32} (hG : ∀ a b, ∃ j : Nat, j ≤ 594 ∧ G a b = nI j) (a : Nat) : ∀ (m b : Nat) (r : Int32 × Int32), (∃ j : Nat, j ≤ 594 ∧ r.2 = nI j) → ∃ j : Nat, j ≤ 594 ∧ (z_chI G a m b r).2 = nI j
  | 0, _, r, h => h
  | m + 1, b, r, h => by
    refine z_chI_sm hG a m (b + 1) _ ?_
    by_cases q : G a b < r.2
    · rw [if_pos q]; exact hG a b
    · rw [if_neg q]; exact h
theorem z_cmp {g y x : Nat} (hg : g ≤ 1000) (hy : y ≤ 1000) (hx : x ≤ 1000) : (nI y - nI g ≤ nI x - nI g) ↔ ¬ nI x < nI y := by
  rw [Int32.le_iff_toInt_le, Int32.toInt_sub, Int32.toInt_sub, nI_toInt (by omega), nI_toInt (by omega), nI_toInt (by omega), Int.bmod_eq_of_le (by omega) (by omega), Int.bmod_eq_of_le (by omega) (by omega), nI_ltI (by omega) (by omega)]
  omega
theorem z_sub_add (a b : Int32) : a + b - a = b := by rw [Int32.add_comm, Int32.add_sub_cancel]
theorem l_chC40 (d M a : Nat) {hts n hr h c0 : Nat} {ht wd : Int32} {H : z_H} {K : Nat → z_K} {W C : Nat → Int32} {S : z_Mem} (hA : z_LA hts n hr h c0 ht wd H K W C S) (hfor : z_for n H K W M ht hr S) : ∀ (m b N : Nat) (r : Int32 × Int32), b + m = n → a < b → (∃ j : Nat, j ≤ 594 ∧ r.2 = nI j) →
    zr_X11_change (z_exe z_mt true (d + 2)) (N + (m + 1)) 40 [some (.inr (.inr (11, 0))), some (.inl (r.2 - z_chZ H K W M ht hr n)), some (.inl r.1), some (.inl (nI a)), some (.inl (nI b)), none] [] S = zr_X11_change (z_exe z_mt true (d + 2)) N 24 [some (.inr (.inr (11, 0))), some (.inl ((z_chI (z_chG H K W M ht hr n) a m b r).2 - z_chZ H K W M ht hr n)), some (.inl (z_chI (z_chG H K W M ht hr n) a m b r).1), some (.inl (nI (a + 1))), none, none] [] S := by
  have hn := hA.1.1.1
  have h7 := hA.2.1.1.1
  intro m
  induction m with
  | zero =>
    intro b N r hb hab hr2
    show zr_X11_change (z_exe z_mt true (d + 2)) (N + 1) 40 _ [] S = _
    rw [ze_X11_change_40, if_pos (by rw [h7, z_le (by omega) (by omega)]; omega), nI_1]
    rfl
  | succ m ih =>
    intro b N r hb hab hr2
    obtain ⟨y, hy, ey⟩ := hr2
    obtain ⟨g, hg, eg⟩ := z_chZ_sm hA M
    obtain ⟨x, hx, ex⟩ := z_chG_sm hA M a b
    have hG := z_chG_eq H K W M ht hr n a b hab (by omega)
    have hm : (z_cg H K W M ht hr a (z_spl K b) - z_cg H K W M ht hr a (z_spl K a)) + (z_cg H K W M ht hr b (z_spl K a) - z_cg H K W M ht hr b (z_spl K b)) = z_chG H K W M ht hr n a b - z_chZ H K W M ht hr n := by
      rw [hG, z_sub_add]
    rw [show N + (m + 1 + 1) = N + (m + 1) + 1 from rfl]
    generalize hF : N + (m + 1) = F
    rw [ze_X11_change_40, if_neg (by rw [h7, z_le (by omega) (by omega)]; omega), z_oob_n (k := a) (by omega) (by omega), z_cl (k := a) (by omega), z_oob_n (k := b) (by omega) (by omega), z_cl (k := b) (by omega), z_60, z_60]
    simp only [z_cnf]
    rw [s_more d M a b hA hfor (by omega) (by omega), z_rI_s, hm, nI_1]
    have hst : z_chI (z_chG H K W M ht hr n) a (m + 1) b r = z_chI (z_chG H K W M ht hr n) a m (b + 1) (if z_chG H K W M ht hr n a b < r.2 then (10 * nI a + nI b, z_chG H K W M ht hr n a b) else r) := rfl
    rw [hst]
    by_cases q : z_chG H K W M ht hr n a b < r.2
    · rw [if_pos q]
      rw [if_neg (by rw [ey, eg, ex, z_cmp (by omega) (by omega) (by omega), ← ex, ← ey]; exact fun z => z q)]
      rw [← hF]
      exact ih (b + 1) N (10 * nI a + nI b, z_chG H K W M ht hr n a b) (by omega) (by omega) ⟨x, hx, ex⟩
    · rw [if_neg q]
      rw [if_pos (by rw [ey, eg, ex, z_cmp (by omega) (by omega) (by omega), ← ex, ← ey]; exact q)]
      rw [← hF]
      exact ih (b + 1) N r (by omega) (by omega) ⟨y, hy, ey⟩
theorem l_chC24 (d M : Nat) {hts n hr h c0 : Nat} {ht wd : Int32} {H : z_H} {K : Nat → z_K} {W C : Nat → Int32} {S : z_Mem} (hA : z_LA hts n hr h c0 ht wd H K W C S) (hfor : z_for n H K W M ht hr S) : ∀ (m a N : Nat) (r : Int32 × Int32), a + m = n → 8 * m < N → (∃ j : Nat, j ≤ 594 ∧ r.2 = nI j) →
    zr_X11_change (z_exe z_mt true (d + 2)) N 24 [some (.inr (.inr (11, 0))), some (.inl (r.2 - z_chZ H K W M ht hr n)), some (.inl r.1), some (.inl (nI a)), none, none] [] S = some (some (.inl (z_chO (z_chG H K W M ht hr n) m a r).1), S) := by
  have hn := hA.1.1.1
  have h7 := hA.2.1.1.1
  intro m
  induction m with
  | zero =>
    intro a N r ha hN hr2
    obtain ⟨N, rfl⟩ : ∃ N', N = N' + 1 := ⟨N - 1, by omega⟩
    rw [ze_X11_change_24, if_pos (by rw [h7, z_le (by omega) (by omega)]; omega)]
    rfl
  | succ m ih =>
    intro a N r ha hN hr2
    obtain ⟨N, rfl⟩ : ∃ N', N = N' + (m + 1) + 1 := ⟨N - (m + 1) - 1, by omega⟩
    rw [ze_X11_change_24, if_neg (by rw [h7, z_le (by omega) (by omega)]; omega)]
    try dsimp only
    rw [nI_1, l_chC40 d M a hA hfor m (a + 1) N r (by omega) (by omega) hr2]
    exact ih (a + 1) N _ (by omega) (by omega) (z_chI_sm (fun a b => z_chG_sm hA M a b) a m (a + 1) r hr2)
/-! the model's sum -/
theorem l_wetBy (d M : Nat) (v1 v2 : Int32) (pv : Nat → Nat) {hts n hr h c0 : Nat} {ht wd : Int32} {H : z_H} {K : Nat → z_K} {W C : Nat → Int32} {S : z_Mem} (hA : z_LA hts n hr h c0 ht wd H K W C S) (hl : ∀ b, b < n → ∀ p', p' < 6 → S.1 56 0 (6 * b + p') = z_ly H K W M ht hr b p') (hpv : ∀ o, o < n → pv o ≤ 5 ∧ (nI o = v1 → z_oob v2 6 = false ∧ S.1 40 0 (Int32.toNatClampNeg v2) = nI (pv o)) ∧ (¬ nI o = v1 → nI o = v2 → z_oob v1 6 = false ∧ S.1 40 0 (Int32.toNatClampNeg v1) = nI (pv o)) ∧ (¬ nI o = v1 → ¬ nI o = v2 → S.1 40 0 o = nI (pv o))) : ∀ (m o N : Nat) (x : Int32), o + m = n → m < N →
    zr_X12_wetBy (z_exe z_mt true (d + 1)) N 5 [some (.inr (.inr (12, 0))), some (.inl v1), some (.inl v2), some (.inl x), some (.inl (nI o)), none] [] S = some (some (.inl (z_sg (fun o => z_cg H K W M ht hr o (pv o)) o m x)), S) := by
  have hn := hA.1.1.1
  have h12 := hA.2.1.2.1
  intro m
  induction m with
  | zero =>
    intro o N x ho hN
    obtain ⟨N, rfl⟩ : ∃ N', N = N' + 1 := ⟨N - 1, by omega⟩
    rw [ze_X12_wetBy_5, if_pos (by rw [h12, z_le (by omega) (by omega)]; omega)]
    rfl
  | succ m ih =>
    intro o N x ho hN
    obtain ⟨N, rfl⟩ : ∃ N', N = N' + 1 := ⟨N - 1, by omega⟩
    obtain ⟨p1, p2, p3, p4⟩ := hpv o (by omega)
    have hst : z_sg (fun o => z_cg H K W M ht hr o (pv o)) o (m + 1) x = z_sg (fun o => z_cg H K W M ht hr o (pv o)) (o + 1) m (x + z_cg H K W M ht hr o (pv o)) := rfl
    have hkm := (hA.2.2 o (by omega)).2.2.1
    have hg : (K o).2.2.2.2.1 = decide ((S.1 12 0 1 >>> (nI o &&& 31)) &&& 1 = 1) := by rw [← hkm]; rfl
    have go : ∀ y : Int32, y = nI (pv o) → z_rI (z_exe z_mt true (d + 1) 125 [.inr (.inr (12, 0)), .inl (S.1 12 0 1), .inl (nI o)] S) (fun r3 S2 =>
        if r3 = 0 then (
         cond (z_oob ((6 : Int32) * nI o + y) 36) none (
         let x4 : Int32 := (x + (S2.1 56 0 (Int32.toNatClampNeg ((6 : Int32) * nI o + y))))
         let x5 : Int32 := (nI o + (1 : Int32))
         zr_X12_wetBy (z_exe z_mt true (d + 1)) N 5 [some (.inr (.inr (12, 0))), some (.inl v1), some (.inl v2), some (.inl x4), some (.inl x5), none] [] S2))
        else (
         let x6 : Int32 := (x + (0 : Int32))
         let x7 : Int32 := (nI o + (1 : Int32))
         zr_X12_wetBy (z_exe z_mt true (d + 1)) N 5 [some (.inr (.inr (12, 0))), some (.inl v1), some (.inl v2), some (.inl x6), some (.inl x7), none] [] S2)) = some (some (.inl (z_sg (fun o => z_cg H K W M ht hr o (pv o)) o (m + 1) x)), S) := by
      intro y hy
      have hc : z_cg H K W M ht hr o (pv o) = cond (K o).2.2.2.2.1 0 (z_ly H K W M ht hr o (pv o)) := rfl
      rw [s_has, z_rI_s, hst, hc, hg, hy, z_6x, z_oob_n (k := 6 * o + pv o) (by omega) (by omega), z_cl (k := 6 * o + pv o) (by omega), hl o (by omega) (pv o) (by omega), nI_1]
      unfold z_b1
      by_cases g : (S.1 12 0 1 >>> (nI o &&& 31)) &&& 1 = 1
      · rw [if_pos g, if_neg z_01n, decide_eq_true g]
        exact ih (o + 1) N (x + 0) (by omega) (by omega)
      · rw [if_neg g, if_pos rfl, decide_eq_false g]
        exact ih (o + 1) N _ (by omega) (by omega)
    rw [ze_X12_wetBy_5, if_neg (by rw [h12, z_le (by omega) (by omega)]; omega)]
    by_cases q1 : nI o = v1
    · rw [if_pos q1, (p2 q1).1]
      exact go _ (p2 q1).2
    · rw [if_neg q1]
      by_cases q2 : nI o = v2
      · rw [if_pos q2, (p3 q1 q2).1]
        exact go _ (p3 q1 q2).2
      · rw [if_neg q2, z_oob_n (k := o) (by omega) (by omega), z_cl (k := o) (by omega)]
        exact go _ (p4 q1 q2)
theorem s_wetBy0 (d M : Nat) {hts n hr h c0 : Nat} {ht wd : Int32} {H : z_H} {K : Nat → z_K} {W C : Nat → Int32} {S : z_Mem} (hA : z_LA hts n hr h c0 ht wd H K W C S) (hl : ∀ b, b < n → ∀ p', p' < 6 → S.1 56 0 (6 * b + p') = z_ly H K W M ht hr b p') :
    z_exe z_mt true (d + 2) 189 [.inr (.inr (12, 0)), .inl (-1 : Int32), .inl (-1 : Int32)] S = some (some (.inl (z_chZ H K W M ht hr n)), S) := by
  have e : z_exe z_mt true (d + 2) 189 [.inr (.inr (12, 0)), .inl (-1 : Int32), .inl (-1 : Int32)] S = _ := (zx_X12_wetBy (d + 1) S 0 (-1) (-1)).trans (ze_X12_wetBy_0 _ _ _ _ _ _)
  have hn := hA.1.1.1
  have ne : ∀ o, o < n → ¬ nI o = -1 := fun o ho q => by
    have := nI_pos (n := o) (by omega)
    rw [q] at this
    exact this (by decide)
  rw [e]
  exact l_wetBy d M (-1) (-1) (z_spl K) hA hl (fun o ho => ⟨(z_spl_is hA ho).2, fun q => absurd q (ne o ho), fun _ q => absurd q (ne o ho), fun _ _ => by
    rw [← (z_spl_is hA ho).1, ← (hA.2.2 o ho).2.2.1]; rfl⟩) n 0 999999 0 (by omega) (by omega)
theorem s_wetBy (d M a b : Nat) {hts n hr h c0 : Nat} {ht wd : Int32} {H : z_H} {K : Nat → z_K} {W C : Nat → Int32} {S : z_Mem} (hA : z_LA hts n hr h c0 ht wd H K W C S) (hl : ∀ b, b < n → ∀ p', p' < 6 → S.1 56 0 (6 * b + p') = z_ly H K W M ht hr b p') (ha : a < n) (hb : b < n) :
    z_exe z_mt true (d + 2) 189 [.inr (.inr (12, 0)), .inl (nI a), .inl (nI b)] S = some (some (.inl (z_chG H K W M ht hr n a b)), S) := by
  have e : z_exe z_mt true (d + 2) 189 [.inr (.inr (12, 0)), .inl (nI a), .inl (nI b)] S = _ := (zx_X12_wetBy (d + 1) S 0 (nI a) (nI b)).trans (ze_X12_wetBy_0 _ _ _ _ _ _)
  have hn := hA.1.1.1
  have h40 : ∀ o, o < n → S.1 40 0 o = nI (z_spl K o) := fun o ho => by
    rw [← (z_spl_is hA ho).1, ← (hA.2.2 o ho).2.2.1]; rfl
  rw [e]
  refine l_wetBy d M (nI a) (nI b) (z_chp K a b) hA hl (fun o ho => ⟨?_, fun q => ⟨z_oob_n (by omega) (by omega), ?_⟩, fun q1 q => ⟨z_oob_n (by omega) (by omega), ?_⟩, fun q1 q2 => ?_⟩) n 0 999999 0 (by omega) (by omega)
  · unfold z_chp
    by_cases q : o = a
    · rw [if_pos q]; exact (z_spl_is hA hb).2
    · rw [if_neg q]
      by_cases q : o = b
      · rw [if_pos q]; exact (z_spl_is hA ha).2
      · rw [if_neg q]; exact (z_spl_is hA ho).2
  · rw [nI_eq (by omega) (by omega)] at q
    unfold z_chp
    rw [z_cl (by omega), if_pos q]; exact h40 b hb
  · rw [nI_eq (by omega) (by omega)] at q q1
    unfold z_chp
    rw [z_cl (by omega), if_neg q1, if_pos q]; exact h40 a ha
  · rw [nI_eq (by omega) (by omega)] at q1 q2
    unfold z_chp
    rw [if_neg q1, if_neg q2]; exact h40 o ho
theorem l_chM31 (d M a : Nat) {hts n hr h c0 : Nat} {ht wd : Int32} {H : z_H} {K : Nat → z_K} {W C : Nat → Int32} {S : z_Mem} (hA : z_LA hts n hr h c0 ht wd H K W C S) (hl : ∀ b, b < n → ∀ p', p' < 6 → S.1 56 0 (6 * b + p') = z_ly H K W M ht hr b p') : ∀ (m b N : Nat) (r : Int32 × Int32), b + m = n → a < b →
    zr_X12_change (z_exe z_mt true (d + 2)) (N + (m + 1)) 31 [some (.inr (.inr (12, 0))), some (.inl r.1), some (.inl r.2), some (.inl (nI a)), some (.inl (nI b)), none] [] S = zr_X12_change (z_exe z_mt true (d + 2)) N 18 [some (.inr (.inr (12, 0))), some (.inl (z_chI (z_chG H K W M ht hr n) a m b r).1), some (.inl (z_chI (z_chG H K W M ht hr n) a m b r).2), some (.inl (nI (a + 1))), none, none] [] S := by
  have hn := hA.1.1.1
  have h12 := hA.2.1.2.1
  intro m
  induction m with
  | zero =>
    intro b N r hb hab
    show zr_X12_change (z_exe z_mt true (d + 2)) (N + 1) 31 _ [] S = _
    rw [ze_X12_change_31, if_pos (by rw [h12, z_le (by omega) (by omega)]; omega), nI_1]
    rfl
  | succ m ih =>
    intro b N r hb hab
    rw [show N + (m + 1 + 1) = N + (m + 1) + 1 from rfl]
    generalize hF : N + (m + 1) = F
    rw [ze_X12_change_31, if_neg (by rw [h12, z_le (by omega) (by omega)]; omega), s_wetBy d M a b hA hl (by omega) (by omega), z_rI_s, nI_1]
    have hst : z_chI (z_chG H K W M ht hr n) a (m + 1) b r = z_chI (z_chG H K W M ht hr n) a m (b + 1) (if z_chG H K W M ht hr n a b < r.2 then (10 * nI a + nI b, z_chG H K W M ht hr n a b) else r) := rfl
    rw [hst]
    by_cases q : z_chG H K W M ht hr n a b < r.2
    · rw [if_pos q, if_pos q]
      rw [← hF]
      exact ih (b + 1) N (10 * nI a + nI b, z_chG H K W M ht hr n a b) (by omega) (by omega)
    · rw [if_neg q, if_neg q]
      rw [← hF]
      exact ih (b + 1) N r (by omega) (by omega)
theorem l_chM18 (d M : Nat) {hts n hr h c0 : Nat} {ht wd : Int32} {H : z_H} {K : Nat → z_K} {W C : Nat → Int32} {S : z_Mem} (hA : z_LA hts n hr h c0 ht wd H K W C S) (hl : ∀ b, b < n → ∀ p', p' < 6 → S.1 56 0 (6 * b + p') = z_ly H K W M ht hr b p') : ∀ (m a N : Nat) (r : Int32 × Int32), a + m = n → 8 * m < N →
    zr_X12_change (z_exe z_mt true (d + 2)) N 18 [some (.inr (.inr (12, 0))), some (.inl r.1), some (.inl r.2), some (.inl (nI a)), none, none] [] S = some (some (.inl (z_chO (z_chG H K W M ht hr n) m a r).1), S) := by
  have hn := hA.1.1.1
  have h12 := hA.2.1.2.1
  intro m
  induction m with
  | zero =>
    intro a N r ha hN
    obtain ⟨N, rfl⟩ : ∃ N', N = N' + 1 := ⟨N - 1, by omega⟩
    rw [ze_X12_change_18, if_pos (by rw [h12, z_le (by omega) (by omega)]; omega)]
    rfl
  | succ m ih =>
    intro a N r ha hN
    obtain ⟨N, rfl⟩ : ∃ N', N = N' + (m + 1) + 1 := ⟨N - (m + 1) - 1, by omega⟩
    rw [ze_X12_change_18, if_neg (by rw [h12, z_le (by omega) (by omega)]; omega)]
    try dsimp only
    rw [nI_1, l_chM31 d M a hA hl m (a + 1) N r (by omega) (by omega)]
    exact ih (a + 1) N _ (by omega) (by omega)
theorem c_change (S : z_Mem) (hR : z_RL S) : z_both 92 190 [] S := by
  obtain ⟨hts, hN, ⟨n, hr, h, c0, ht, wd, H, K, W, C, hA, hB⟩, hI, hT, hP, hAc⟩ := id hR
  obtain ⟨⟨hn, hhr, hwd, hH, hts6⟩, hh6⟩ := hA.1
  have hC := fun b hb => (hA.2.2 b hb).1.2.2
  have c7 : S.1 7 0 1 = nI n := hA.2.1.1.1
  have c12 : S.1 12 0 0 = nI n := hA.2.1.2.1
  refine z_ask (v := .inl (z_chO (z_chG H K W 6 ht hr n) n 0 (-5, z_chZ H K W 6 ht hr n)).1) hR ?_ (fun S' hf => ?_)
  · have e : z_exe z_mt true 40 92 [.inr (.inr (11, 0))] S = _ := (zx_X11_change 39 S 0).trans (ze_X11_change_0 _ _ _ _)
    obtain ⟨S1, e1, h1, f1⟩ := s_foresee 32 6 hA (by omega)
    have f1' := z_Pfs_sk f1
    have k := l_chC24 37 6 (hA.sk f1') h1 n 0 999999 (-5, z_chZ H K W 6 ht hr n) (by omega) (by omega) (z_chZ_sm hA 6)
    refine ⟨S1, ?_, f1'⟩
    have e1' : z_exe z_mt true 39 44 [.inr (.inr (6, 0)), .inr (.inr (7, 0)), .inr (.inr (3, 0)), .inl (6 : Int32)] S = _ := e1
    rw [e, e1', z_rV_s]
    rw [show (z_chZ H K W 6 ht hr n) - (z_chZ H K W 6 ht hr n) = 0 from Int32.sub_self _] at k
    exact k
  · have hA' := hA.sk hf
    have hN' := hN.sk hf
    have hB' := hB.sk hf
    have c7' : S'.1 7 0 1 = nI n := hA'.2.1.1.1
    have c12' : S'.1 12 0 0 = nI n := hA'.2.1.2.1
    have e : z_exe z_mt true 40 190 [.inr (.inr (12, 0))] S' = _ := (zx_X12_change 39 S' 0).trans (ze_X12_change_0 _ _ _ _)
    obtain ⟨S1, e1, f1, h1⟩ := s_layWets 31 6 hA' hN'.2.2.2.1 (by omega)
    have f1' := z_Psc_sk f1
    have hA1 := hA'.sk f1'
    have k := l_chM18 37 6 hA1 h1 n 0 999999 (-5, z_chZ H K W 6 ht hr n) (by omega) (by omega)
    refine ⟨S1, ?_, f1'⟩
    have e1' : z_exe z_mt true 39 185 [.inr (.inr (12, 0)), .inl (6 : Int32)] S' = _ := e1
    rw [e, e1', z_rV_s, s_wetBy0 37 6 hA1 h1, z_rI_s]
    exact k
