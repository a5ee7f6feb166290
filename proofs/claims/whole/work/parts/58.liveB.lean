/-! ===== judge ===== -/
theorem z_subT {a k : Nat} (ha : a ≤ 100) (hk : k < 2 ^ 31) : (nI a - nI k).toInt = (a : Int) - k := by
  rw [Int32.toInt_sub, nI_toInt (by omega), nI_toInt hk, Int.bmod_eq_of_le (by omega) (by omega)]
theorem z_ltsub {a k b : Nat} (ha : a ≤ 100) (hk : k < 2 ^ 31) (hb : b < 2 ^ 31) : (nI b < nI a - nI k) ↔ b + k < a := by
  rw [Int32.lt_iff_toInt_lt, z_subT ha hk, nI_toInt hb]; omega
theorem z_sublt {a k b : Nat} (ha : a ≤ 100) (hk : k < 2 ^ 31) (hb : b < 2 ^ 31) : (nI a - nI k < nI b) ↔ a < b + k := by
  rw [Int32.lt_iff_toInt_lt, z_subT ha hk, nI_toInt hb]; omega
theorem z_lesub {a k b : Nat} (ha : a ≤ 100) (hk : k < 2 ^ 31) (hb : b < 2 ^ 31) : (nI b ≤ nI a - nI k) ↔ b + k ≤ a := by
  rw [Int32.le_iff_toInt_le, z_subT ha hk, nI_toInt hb]; omega
theorem z_lesub1 {a k b : Nat} (ha : a ≤ 100) (hk : k ≤ 100) (hb : b < 2 ^ 31) : (nI b ≤ nI a - nI k - 1) ↔ b + k < a := by
  have h1 : (1 : Int32).toInt = 1 := by decide
  rw [Int32.le_iff_toInt_le, Int32.toInt_sub, z_subT ha (by omega), nI_toInt hb, h1, Int.bmod_eq_of_le (by omega) (by omega)]; omega
def z_ju (P Q : Nat → Bool) : Nat → Nat → Int32
  | _, 0 => -5
  | b, m + 1 => if P b then (if Q b then z_ju P Q (b + 1) m else nI b) else 100 + nI b
theorem c_judge (S : z_Mem) (hR : z_RL S) (v1 v2 : Int32) : z_both 104 207 [.inl v1, .inl v2] S := by
  obtain ⟨hts, hN, ⟨n, hr, h, c0, ht, wd, H, K, W, C, hA, hB⟩, hI, hT, hP, hAc⟩ := id hR
  obtain ⟨⟨hn, hhr, hwd, hH, hts6⟩, hh6⟩ := hA.1
  have hC := fun b hb => (hA.2.2 b hb).1.2.2
  have c7 : S.1 7 0 1 = nI n := hA.2.1.1.1
  have c12 : S.1 12 0 0 = nI n := hA.2.1.2.1
  by_cases h1 : 0 ≤ v1 ∧ v1 ≤ 5
  · obtain ⟨t, ht5, rfl⟩ := z_rg (n := 5) (by omega) h1
    obtain ⟨a1, a2, len, hl, a3, a4, a5⟩ := hP t (by omega)
    by_cases hs1 : S.1 10 t 0 = -1 ∨ S.1 10 t 0 = 0
    · -- the loops, with P and Q
      have hs0 : S.1 81 0 t ≤ 0 := by
        rw [← a1]
        rcases hs1 with z | z <;> rw [z] <;> decide
      let P : Nat → Bool := fun b => decide (¬ S.1 10 t 0 = -1 ∧ ¬ v2 < 0 ∧ v2.toNatClampNeg + b < len)
      let Q : Nat → Bool := fun b => decide (lg_cmp (S.2.1 34 t (v2.toNatClampNeg + b)) (Int32.toInt64 (W b)) = 0)
      have hP1 : ∀ b, P b = true → ∃ k : Nat, k < 2 ^ 31 ∧ v2 = nI k ∧ k + b < len ∧ S.1 10 t 0 = 0 := by
        intro b hb
        obtain ⟨z1, z2, z3⟩ := of_decide_eq_true hb
        obtain ⟨k, hk, e⟩ := nI_of z2
        rw [e, nI_clamp hk] at z3
        exact ⟨k, hk, e, z3, hs1.resolve_left z1⟩
      have hc : ∀ m b N, b + m = n → m < N → zr_X11_judge (z_exe z_mt true 39) N 38 [some (.inr (.inr (11, 0))), none, some (.inl v2), some (.inr (.inr (10, t))), some (.inl (nI b))] [] S = some (some (.inl (z_ju P Q b m)), S) := by
        intro m
        induction m with
        | zero =>
          intro b N hb hN
          obtain ⟨N, rfl⟩ : ∃ N', N = N' + 1 := ⟨N - 1, by omega⟩
          rw [ze_X11_judge_38, c7, if_pos (by rw [z_le (by omega) (by omega)]; omega)]
          rfl
        | succ m ih =>
          intro b N hb hN
          obtain ⟨N, rfl⟩ : ∃ N', N = N' + 1 := ⟨N - 1, by omega⟩
          have w1 : S.1 2 b 3 = W b := (hA.2.2 b (by omega)).2.1.2.2.1
          rw [ze_X11_judge_38, c7, if_neg (by rw [z_le (by omega) (by omega)]; omega)]
          unfold z_ju
          by_cases y : P b = true
          · obtain ⟨k, hk, ev, hkl, es⟩ := hP1 b y
            rw [if_pos y, es, if_neg (by decide), if_neg (by rw [ev]; exact nI_pos hk), a3, ev, if_pos ((z_ltsub (by omega) hk (by omega)).mpr (by omega)), nI_add, z_oob_n (k := k + b) (by omega) (by omega), z_cond_f, z_oob_n (k := b) (by omega) (by omega), z_cond_f, z_cl (k := k + b) (by omega), z_cl (k := b) (by omega), z_60, w1]
            have hQ : Q b = decide (lg_cmp (S.2.1 34 t (k + b)) (Int32.toInt64 (W b)) = 0) := by
              show decide (lg_cmp (S.2.1 34 t (v2.toNatClampNeg + b)) _ = 0) = _
              rw [ev, nI_clamp hk]
            rw [hQ]
            by_cases q : lg_cmp (S.2.1 34 t (k + b)) (Int32.toInt64 (W b)) = 0
            · rw [if_pos q, decide_eq_true q, if_pos rfl, nI_1]
              rw [← ev]
              exact ih (b + 1) N (by omega) (by omega)
            · rw [if_neg q, decide_eq_false q, if_neg (by decide)]
          · rw [if_neg y]
            by_cases z1 : S.1 10 t 0 = -1
            · rw [if_pos z1]
            · rw [if_neg z1]
              by_cases z2 : v2 < 0
              · rw [if_pos z2]
              · obtain ⟨k, hk, ev⟩ := nI_of z2
                rw [if_neg z2, a3, ev, if_neg (fun z => y (decide_eq_true ⟨z1, z2, by rw [ev, nI_clamp hk]; have := (z_ltsub (by omega) hk (by omega)).mp z; omega⟩))]
      have hm : ∀ m b N, b + m = n → m < N → zr_X12_judge (z_exe z_mt true 39) N 24 [some (.inr (.inr (12, 0))), some (.inl (nI t)), some (.inl v2), some (.inl (nI b))] [] S = some (some (.inl (z_ju P Q b m)), S) := by
        intro m
        induction m with
        | zero =>
          intro b N hb hN
          obtain ⟨N, rfl⟩ : ∃ N', N = N' + 1 := ⟨N - 1, by omega⟩
          rw [ze_X12_judge_24, c12, if_pos (by rw [z_le (by omega) (by omega)]; omega)]
          rfl
        | succ m ih =>
          intro b N hb hN
          obtain ⟨N, rfl⟩ : ∃ N', N = N' + 1 := ⟨N - 1, by omega⟩
          have w1 : S.1 39 0 b = W b := (hA.2.2 b (by omega)).2.2.2.1
          rw [ze_X12_judge_24, c12, if_neg (by rw [z_le (by omega) (by omega)]; omega), z_oob_n (k := t) (by omega) (by omega), z_cond_f, z_cl (k := t) (by omega), ← a1]
          unfold z_ju
          by_cases y : P b = true
          · obtain ⟨k, hk, ev, hkl, es⟩ := hP1 b y
            rw [if_pos y, es, if_neg (by decide), if_neg (by rw [ev]; exact nI_pos hk), z_cond_f, ← a2, a3, ev, if_pos ((z_lesub1 (by omega) (by omega) hk).mpr (by omega)), z_tix, nI_add, z_oob_n (k := 60 * t + k + b) (by omega) (by omega), z_cond_f, z_oob_n (k := b) (by omega) (by omega), z_cond_f, z_cl (k := 60 * t + k + b) (by omega), z_cl (k := b) (by omega), w1, Nat.add_assoc, ← a5 (k + b) (by omega)]
            have hQ : Q b = decide (lg_cmp (S.2.1 34 t (k + b)) (Int32.toInt64 (W b)) = 0) := by
              show decide (lg_cmp (S.2.1 34 t (v2.toNatClampNeg + b)) _ = 0) = _
              rw [ev, nI_clamp hk]
            rw [hQ]
            by_cases q : lg_cmp (S.2.1 34 t (k + b)) (Int32.toInt64 (W b)) = 0
            · rw [if_pos q, decide_eq_true q, if_pos rfl, nI_1]
              rw [← ev]
              exact ih (b + 1) N (by omega) (by omega)
            · rw [if_neg q, decide_eq_false q, if_neg (by decide)]
          · rw [if_neg y]
            rcases hs1 with z1 | z1
            · rw [z1, if_pos (by decide)]
            · rw [z1, if_neg (by decide)]
              by_cases z2 : v2 < 0
              · rw [if_pos z2]
              · obtain ⟨k, hk, ev⟩ := nI_of z2
                rw [if_neg z2, z_cond_f, ← a2, a3, ev, if_neg (fun z => y (decide_eq_true ⟨by rw [z1]; decide, z2, by rw [ev, nI_clamp hk]; have := (z_lesub1 (by omega) (by omega) hk).mp z; omega⟩))]
      refine z_no (v := .inl (z_ju P Q 0 n)) hR ?_ ?_
      · have e : z_exe z_mt true 40 104 [.inr (.inr (11, 0)), .inl (nI t), .inl v2] S = _ := (zx_X11_judge 39 S 0 (nI t) v2).trans (ze_X11_judge_0 _ _ _ _ _ _)
        rw [e, s_outside, z_rI_s, z_b1_F (fun z => z h1), if_pos rfl, z_oob_n (k := t) (by omega) (by omega), z_cond_f, z_cl (k := t) (by omega)]
        rcases hs1 with z | z
        · rw [if_pos z]; exact hc n 0 999999 (by omega) (by omega)
        · rw [if_neg (by rw [z]; decide), if_pos z]; exact hc n 0 999999 (by omega) (by omega)
      · have e : z_exe z_mt true 40 207 [.inr (.inr (12, 0)), .inl (nI t), .inl v2] S = _ := (zx_X12_judge 39 S 0 (nI t) v2).trans (ze_X12_judge_0 _ _ _ _ _ _)
        rw [e, s_isTape, z_rI_s, z_b1_T h1, if_neg z_01n, z_oob_n (k := t) (by omega) (by omega), z_cond_f, z_cl (k := t) (by omega), if_pos hs0]
        exact hm n 0 999999 (by omega) (by omega)
    · obtain ⟨s, hs4, es⟩ := a4.resolve_left (fun z => hs1 (Or.inl z.1))
      have hs0 : ¬ S.1 81 0 t ≤ 0 := by
        rw [← a1, es]
        refine nI_nle ?_ (by omega)
        rcases Nat.eq_zero_or_pos s with q | q
        · exact absurd (Or.inr (by rw [es, q]; rfl)) hs1
        · exact q
      refine z_no (v := .inl (-12)) hR ?_ ?_
      · have e : z_exe z_mt true 40 104 [.inr (.inr (11, 0)), .inl (nI t), .inl v2] S = _ := (zx_X11_judge 39 S 0 (nI t) v2).trans (ze_X11_judge_0 _ _ _ _ _ _)
        rw [e, s_outside, z_rI_s, z_b1_F (fun z => z h1), if_pos rfl, z_oob_n (k := t) (by omega) (by omega), z_cond_f, z_cl (k := t) (by omega), if_neg (fun z => hs1 (Or.inl z)), if_neg (fun z => hs1 (Or.inr z))]
      · have e : z_exe z_mt true 40 207 [.inr (.inr (12, 0)), .inl (nI t), .inl v2] S = _ := (zx_X12_judge 39 S 0 (nI t) v2).trans (ze_X12_judge_0 _ _ _ _ _ _)
        rw [e, s_isTape, z_rI_s, z_b1_T h1, if_neg z_01n, z_oob_n (k := t) (by omega) (by omega), z_cond_f, z_cl (k := t) (by omega), if_neg hs0]
  · refine z_no (v := .inl (-1)) hR ?_ ?_
    · have e : z_exe z_mt true 40 104 [.inr (.inr (11, 0)), .inl v1, .inl v2] S = _ := (zx_X11_judge 39 S 0 v1 v2).trans (ze_X11_judge_0 _ _ _ _ _ _)
      rw [e, s_outside, z_rI_s, z_b1_T h1, if_neg z_01n]
    · have e : z_exe z_mt true 40 207 [.inr (.inr (12, 0)), .inl v1, .inl v2] S = _ := (zx_X12_judge 39 S 0 v1 v2).trans (ze_X12_judge_0 _ _ _ _ _ _)
      rw [e, s_isTape, z_rI_s, z_b1_F h1, if_pos rfl]
/-! ===== shift ===== -/
theorem s_tHolds (d t len : Nat) (i m : Int32) (S : z_Mem) (hl : len ≤ 60) (h : S.1 10 t 1 = nI len) : z_exe z_mt true (d + 1) 73 [.inr (.inr (10, t)), .inl i, .inl m] S = some (some (.inl (z_b1 (¬ i < 0 ∧ ¬ m < 0 ∧ ¬ nI len < m ∧ ¬ nI len - m < i))), S) := by
  have e : z_exe z_mt true (d + 1) 73 [.inr (.inr (10, t)), .inl i, .inl m] S = _ := (zx_X10_holds d S t i m).trans (ze_X10_holds_0 _ _ _ _ _ _)
  rw [e, h]
  by_cases q1 : i < 0
  · rw [if_pos q1, z_b1_F (fun z => z.1 q1)]
  rw [if_neg q1]
  by_cases q2 : m < 0
  · rw [if_pos q2, z_b1_F (fun z => z.2.1 q2)]
  rw [if_neg q2]
  by_cases q3 : nI len < m
  · rw [if_pos q3, z_b1_F (fun z => z.2.2.1 q3)]
  rw [if_neg q3]
  by_cases q4 : nI len - m < i
  · rw [if_pos q4, z_b1_F (fun z => z.2.2.2 q4)]
  · rw [if_neg q4, z_b1_T ⟨q1, q2, q3, q4⟩]
theorem l_sh1 (ex : z_Ex) (t a o b c : Nat) (ht : t < 6) (hac : a + c ≤ 60) (S0 : z_Mem) : ∀ (m k N : Nat) (S : z_Mem), k + m = c → m < N → (∀ j, j < k → S.2.1 84 0 j = S0.2.1 83 0 (60 * t + (a + j))) → z_fx (fun t' i j => t' = 84 ∧ i = 0) S0 S →
    ∃ S' N', N' + m + 1 = N ∧ zr_X12_shift ex N 104 [some (.inr (.inr (12, 0))), some (.inl (nI t)), some (.inl (nI a)), some (.inl (nI o)), some (.inl (nI b)), some (.inl (nI c)), some (.inl (nI k))] [] S = zr_X12_shift ex N' 141 [some (.inr (.inr (12, 0))), none, none, some (.inl (nI o)), some (.inl (nI b)), some (.inl (nI c)), some (.inl (0 : Int32))] [] S' ∧ (∀ j, j < c → S'.2.1 84 0 j = S0.2.1 83 0 (60 * t + (a + j))) ∧ z_fx (fun t' i j => t' = 84 ∧ i = 0) S0 S' := by
  intro m
  induction m with
  | zero =>
    intro k N S hk hN h0 hf
    obtain ⟨N, rfl⟩ : ∃ N', N = N' + 1 := ⟨N - 1, by omega⟩
    rw [ze_X12_shift_104, if_pos (by rw [z_le (by omega) (by omega)]; omega)]
    exact ⟨S, N, by omega, rfl, fun j hj => h0 j (by omega), hf⟩
  | succ m ih =>
    intro k N S hk hN h0 hf
    obtain ⟨N, rfl⟩ : ∃ N', N = N' + 1 := ⟨N - 1, by omega⟩
    rw [ze_X12_shift_104, if_neg (by rw [z_le (by omega) (by omega)]; omega), z_tix, nI_add, z_oob_n (k := 60 * t + a + k) (by omega) (by omega), z_cond_f, z_oob_n (k := k) (by omega) (by omega), z_cond_f]
    dsimp only
    rw [z_cl (k := k) (by omega), z_cl (k := 60 * t + a + k) (by omega), nI_1]
    obtain ⟨S', N', e1, e2, e3, e4⟩ := ih (k + 1) N (z_sL S 84 0 k (S.2.1 83 0 (60 * t + a + k))) (by omega) (by omega) (fun j hj => by
      by_cases q : j = k
      · subst q
        have : S.2.1 83 0 (60 * t + (a + j)) = S0.2.1 83 0 (60 * t + (a + j)) := hf.l (by omega)
        simp [z_sL2, Nat.add_assoc, this]
      · have := h0 j (by omega)
        simp [z_sL2, q, this]) (hf.tr (z_fx.sL ⟨rfl, rfl⟩ (Or.inr (Or.inr (by omega)))))
    exact ⟨S', N', by omega, e2, e3, e4⟩
theorem l_sh2 (ex : z_Ex) (o b c : Nat) (ho : o < 6) (hbc : b + c ≤ 60) (S0 : z_Mem) : ∀ (m k N : Nat) (S : z_Mem), k + m = c → m < N → (∀ j, j < k → S.2.1 83 0 (60 * o + (b + j)) = S0.2.1 84 0 j) → z_fx (fun t' i j => t' = 83 ∧ i = 0 ∧ 60 * o + b ≤ j ∧ j < 60 * o + b + c) S0 S →
    ∃ S', zr_X12_shift ex N 141 [some (.inr (.inr (12, 0))), none, none, some (.inl (nI o)), some (.inl (nI b)), some (.inl (nI c)), some (.inl (nI k))] [] S = some (some (.inl (nI c)), S') ∧ (∀ j, j < c → S'.2.1 83 0 (60 * o + (b + j)) = S0.2.1 84 0 j) ∧ z_fx (fun t' i j => t' = 83 ∧ i = 0 ∧ 60 * o + b ≤ j ∧ j < 60 * o + b + c) S0 S' := by
  intro m
  induction m with
  | zero =>
    intro k N S hk hN h0 hf
    obtain ⟨N, rfl⟩ : ∃ N', N = N' + 1 := ⟨N - 1, by omega⟩
    rw [ze_X12_shift_141, if_pos (by rw [z_le (by omega) (by omega)]; omega)]
    exact ⟨S, rfl, fun j hj => h0 j (by omega), hf⟩
  | succ m ih =>
    intro k N S hk hN h0 hf
    obtain ⟨N, rfl⟩ : ∃ N', N = N' + 1 := ⟨N - 1, by omega⟩
    rw [ze_X12_shift_141, if_neg (by rw [z_le (by omega) (by omega)]; omega), z_tix, nI_add, z_oob_n (k := k) (by omega) (by omega), z_cond_f, z_oob_n (k := 60 * o + b + k) (by omega) (by omega), z_cond_f]
    dsimp only
    rw [z_cl (k := k) (by omega), z_cl (k := 60 * o + b + k) (by omega), nI_1]
    refine ih (k + 1) N _ (by omega) (by omega) (fun j hj => ?_) (hf.tr (z_fx.sL ⟨rfl, rfl, by omega, by omega⟩ (Or.inr (Or.inr (by omega)))))
    by_cases q : j = k
    · subst q
      have : S.2.1 84 0 j = S0.2.1 84 0 j := hf.l (by omega)
      simp [z_sL2, this, Nat.add_assoc]
    · have := h0 j (by omega)
      have q2 : ¬ 60 * o + (b + j) = 60 * o + b + k := by omega
      simp [z_sL2, q2, this]
theorem c_shift (S : z_Mem) (hR : z_RL S) (v1 v2 v3 v4 v5 : Int32) : z_both 114 227 [.inl v1, .inl v2, .inl v3, .inl v4, .inl v5] S := by
  obtain ⟨hts, hN, ⟨n, hr, h, c0, ht, wd, H, K, W, C, hA, hB⟩, hI, hT, hP, hAc⟩ := id hR
  obtain ⟨⟨hn, hhr, hwd, hH, hts6⟩, hh6⟩ := hA.1
  have hC := fun b hb => (hA.2.2 b hb).1.2.2
  have c7 : S.1 7 0 1 = nI n := hA.2.1.1.1
  have c12 : S.1 12 0 0 = nI n := hA.2.1.2.1
  by_cases h1 : 0 ≤ v1 ∧ v1 ≤ 5
  · obtain ⟨t, ht5, rfl⟩ := z_rg (n := 5) (by omega) h1
    by_cases h3 : 0 ≤ v3 ∧ v3 ≤ 5
    · obtain ⟨o, ho5, rfl⟩ := z_rg (n := 5) (by omega) h3
      obtain ⟨a1, a2, len, hl, a3, a4, a5⟩ := hP t (by omega)
      obtain ⟨b1, b2, len2, hl2, b3, b4, b5⟩ := hP o (by omega)
      by_cases so : S.1 10 t 0 = -1
      · refine z_no (v := .inl (-11)) hR ?_ ?_
        · have e : z_exe z_mt true 40 114 [.inr (.inr (11, 0)), .inl (nI t), .inl v2, .inl (nI o), .inl v4, .inl v5] S = _ := (zx_X11_shift 39 S 0 (nI t) v2 (nI o) v4 v5).trans (ze_X11_shift_0 _ _ _ _ _ _ _ _ _)
          rw [e, s_outside, z_rI_s, z_b1_F (fun z => z h1), if_pos rfl, s_outside, z_rI_s, z_b1_F (fun z => z h3), if_pos rfl, z_oob_n (k := t) (by omega) (by omega), z_cond_f, z_oob_n (k := o) (by omega) (by omega), z_cond_f, z_cl (k := t) (by omega), z_cl (k := o) (by omega), if_pos so]
        · have e : z_exe z_mt true 40 227 [.inr (.inr (12, 0)), .inl (nI t), .inl v2, .inl (nI o), .inl v4, .inl v5] S = _ := (zx_X12_shift 39 S 0 (nI t) v2 (nI o) v4 v5).trans (ze_X12_shift_0 _ _ _ _ _ _ _ _ _)
          rw [e, s_isTape, z_rI_s, z_b1_T h1, if_neg z_01n, s_isTape, z_rI_s, z_b1_T h3, if_neg z_01n, z_oob_n (k := t) (by omega) (by omega), z_cond_f, z_cl (k := t) (by omega), ← a1, so, if_pos z_n1lt]
      obtain ⟨s, hs4, es⟩ := a4.resolve_left (fun z => so z.1)
      have hns : ¬ nI s = -1 := fun q => absurd (q ▸ nI_pos' (n := s) (by omega)) (by decide)
      have g81t : S.1 81 0 t = nI s := a1.symm.trans es
      by_cases so2 : S.1 10 o 0 = -1
      · refine z_no (v := .inl (-11)) hR ?_ ?_
        · have e : z_exe z_mt true 40 114 [.inr (.inr (11, 0)), .inl (nI t), .inl v2, .inl (nI o), .inl v4, .inl v5] S = _ := (zx_X11_shift 39 S 0 (nI t) v2 (nI o) v4 v5).trans (ze_X11_shift_0 _ _ _ _ _ _ _ _ _)
          rw [e, s_outside, z_rI_s, z_b1_F (fun z => z h1), if_pos rfl, s_outside, z_rI_s, z_b1_F (fun z => z h3), if_pos rfl, z_oob_n (k := t) (by omega) (by omega), z_cond_f, z_oob_n (k := o) (by omega) (by omega), z_cond_f, z_cl (k := t) (by omega), z_cl (k := o) (by omega), if_neg so, if_pos so2]
        · have e : z_exe z_mt true 40 227 [.inr (.inr (12, 0)), .inl (nI t), .inl v2, .inl (nI o), .inl v4, .inl v5] S = _ := (zx_X12_shift 39 S 0 (nI t) v2 (nI o) v4 v5).trans (ze_X12_shift_0 _ _ _ _ _ _ _ _ _)
          rw [e, s_isTape, z_rI_s, z_b1_T h1, if_neg z_01n, s_isTape, z_rI_s, z_b1_T h3, if_neg z_01n, z_oob_n (k := t) (by omega) (by omega), z_cond_f, z_cl (k := t) (by omega), g81t, if_neg (nI_pos (n := s) (by omega)), z_oob_n (k := o) (by omega) (by omega), z_cond_f, z_cl (k := o) (by omega), ← b1, so2, if_neg (by decide)]
      obtain ⟨s2, hs42, es2⟩ := b4.resolve_left (fun z => so2 z.1)
      by_cases hss : s = s2
      · subst hss
        have g81o : S.1 81 0 o = nI s := b1.symm.trans es2
        have g82t : S.1 82 0 t = nI len := a2.symm.trans a3
        have g82o : S.1 82 0 o = nI len2 := b2.symm.trans b3
        by_cases p5 : v5 < 0
        · refine z_no (v := .inl (-13)) hR ?_ ?_
          · have e : z_exe z_mt true 40 114 [.inr (.inr (11, 0)), .inl (nI t), .inl v2, .inl (nI o), .inl v4, .inl v5] S = _ := (zx_X11_shift 39 S 0 (nI t) v2 (nI o) v4 v5).trans (ze_X11_shift_0 _ _ _ _ _ _ _ _ _)
            rw [e, s_outside, z_rI_s, z_b1_F (fun z => z h1), if_pos rfl, s_outside, z_rI_s, z_b1_F (fun z => z h3), if_pos rfl, z_oob_n (k := t) (by omega) (by omega), z_cond_f, z_oob_n (k := o) (by omega) (by omega), z_cond_f, z_cl (k := t) (by omega), z_cl (k := o) (by omega), es, if_neg hns, es2, if_neg hns, if_pos rfl, s_tHolds 38 t len v2 v5 S hl a3, z_rI_s, z_b1_F (fun z => z.2.1 p5), if_pos rfl]
          · have e : z_exe z_mt true 40 227 [.inr (.inr (12, 0)), .inl (nI t), .inl v2, .inl (nI o), .inl v4, .inl v5] S = _ := (zx_X12_shift 39 S 0 (nI t) v2 (nI o) v4 v5).trans (ze_X12_shift_0 _ _ _ _ _ _ _ _ _)
            rw [e, s_isTape, z_rI_s, z_b1_T h1, if_neg z_01n, s_isTape, z_rI_s, z_b1_T h3, if_neg z_01n, z_oob_n (k := t) (by omega) (by omega), z_cond_f, z_cl (k := t) (by omega), g81t, if_neg (nI_pos (n := s) (by omega)), z_oob_n (k := o) (by omega) (by omega), z_cond_f, z_cl (k := o) (by omega), g81o, if_pos (nI_pos' (n := s) (by omega)), z_cond_f, z_cond_f, if_pos rfl, if_pos p5]
        · by_cases p2 : v2 < 0
          · refine z_no (v := .inl (-13)) hR ?_ ?_
            · have e : z_exe z_mt true 40 114 [.inr (.inr (11, 0)), .inl (nI t), .inl v2, .inl (nI o), .inl v4, .inl v5] S = _ := (zx_X11_shift 39 S 0 (nI t) v2 (nI o) v4 v5).trans (ze_X11_shift_0 _ _ _ _ _ _ _ _ _)
              rw [e, s_outside, z_rI_s, z_b1_F (fun z => z h1), if_pos rfl, s_outside, z_rI_s, z_b1_F (fun z => z h3), if_pos rfl, z_oob_n (k := t) (by omega) (by omega), z_cond_f, z_oob_n (k := o) (by omega) (by omega), z_cond_f, z_cl (k := t) (by omega), z_cl (k := o) (by omega), es, if_neg hns, es2, if_neg hns, if_pos rfl, s_tHolds 38 t len v2 v5 S hl a3, z_rI_s, z_b1_F (fun z => z.1 p2), if_pos rfl]
            · have e : z_exe z_mt true 40 227 [.inr (.inr (12, 0)), .inl (nI t), .inl v2, .inl (nI o), .inl v4, .inl v5] S = _ := (zx_X12_shift 39 S 0 (nI t) v2 (nI o) v4 v5).trans (ze_X12_shift_0 _ _ _ _ _ _ _ _ _)
              rw [e, s_isTape, z_rI_s, z_b1_T h1, if_neg z_01n, s_isTape, z_rI_s, z_b1_T h3, if_neg z_01n, z_oob_n (k := t) (by omega) (by omega), z_cond_f, z_cl (k := t) (by omega), g81t, if_neg (nI_pos (n := s) (by omega)), z_oob_n (k := o) (by omega) (by omega), z_cond_f, z_cl (k := o) (by omega), g81o, if_pos (nI_pos' (n := s) (by omega)), z_cond_f, z_cond_f, if_pos rfl, if_neg p5, if_pos p2]
          · obtain ⟨a, ha, rfl⟩ := nI_of p2
            obtain ⟨c, hc, rfl⟩ := nI_of p5
            have hcl : (¬ nI a < 0 ∧ ¬ nI c < 0 ∧ ¬ nI len < nI c ∧ ¬ nI len - nI c < nI a) ↔ a + c ≤ len := by
              rw [nI_ltI (by omega) hc, z_sublt (by omega) hc ha]
              exact ⟨fun z => by have := z.2.2.2; omega, fun z => ⟨p2, p5, by omega, by omega⟩⟩
            by_cases p4 : v4 < 0
            · refine z_no (v := .inl (-13)) hR ?_ ?_
              · have e : z_exe z_mt true 40 114 [.inr (.inr (11, 0)), .inl (nI t), .inl (nI a), .inl (nI o), .inl v4, .inl (nI c)] S = _ := (zx_X11_shift 39 S 0 (nI t) (nI a) (nI o) v4 (nI c)).trans (ze_X11_shift_0 _ _ _ _ _ _ _ _ _)
                rw [e, s_outside, z_rI_s, z_b1_F (fun z => z h1), if_pos rfl, s_outside, z_rI_s, z_b1_F (fun z => z h3), if_pos rfl, z_oob_n (k := t) (by omega) (by omega), z_cond_f, z_oob_n (k := o) (by omega) (by omega), z_cond_f, z_cl (k := t) (by omega), z_cl (k := o) (by omega), es, if_neg hns, es2, if_neg hns, if_pos rfl, s_tHolds 38 t len (nI a) (nI c) S hl a3, z_rI_s, s_tHolds 38 o len2 v4 (nI c) S hl2 b3, z_rI_s, z_b1_F (c := ¬ v4 < 0 ∧ ¬ nI c < 0 ∧ ¬ nI len2 < nI c ∧ ¬ nI len2 - nI c < v4) (fun z => z.1 p4), if_pos rfl]
                by_cases z : z_b1 (¬ nI a < 0 ∧ ¬ nI c < 0 ∧ ¬ nI len < nI c ∧ ¬ nI len - nI c < nI a) = 0
                · rw [if_pos z]
                · rw [if_neg z]
              · have e : z_exe z_mt true 40 227 [.inr (.inr (12, 0)), .inl (nI t), .inl (nI a), .inl (nI o), .inl v4, .inl (nI c)] S = _ := (zx_X12_shift 39 S 0 (nI t) (nI a) (nI o) v4 (nI c)).trans (ze_X12_shift_0 _ _ _ _ _ _ _ _ _)
                rw [e, s_isTape, z_rI_s, z_b1_T h1, if_neg z_01n, s_isTape, z_rI_s, z_b1_T h3, if_neg z_01n, z_oob_n (k := t) (by omega) (by omega), z_cond_f, z_cl (k := t) (by omega), g81t, if_neg (nI_pos (n := s) (by omega)), z_oob_n (k := o) (by omega) (by omega), z_cond_f, z_cl (k := o) (by omega), g81o, if_pos (nI_pos' (n := s) (by omega)), z_cond_f, z_cond_f, if_pos rfl, if_neg p5, if_neg p2, if_pos p4]
            · obtain ⟨b, hb, rfl⟩ := nI_of p4
              have hcl2 : (¬ nI b < 0 ∧ ¬ nI c < 0 ∧ ¬ nI len2 < nI c ∧ ¬ nI len2 - nI c < nI b) ↔ b + c ≤ len2 := by
                rw [nI_ltI (by omega) hc, z_sublt (by omega) hc hb]
                exact ⟨fun z => by have := z.2.2.2; omega, fun z => ⟨p4, p5, by omega, by omega⟩⟩
              by_cases y1 : a + c ≤ len
              · by_cases y2 : b + c ≤ len2
                · -- the shift itself
                  have hr1 : z_rng (nI a) (nI c) 60 = true := by
                    unfold z_rng
                    rw [decide_eq_false p2, decide_eq_false p5, nI_clamp ha, nI_clamp hc]
                    exact Nat.ble_eq_true_of_le (by omega)
                  have hr2 : z_rng (nI b) (nI c) 60 = true := by
                    unfold z_rng
                    rw [decide_eq_false p4, decide_eq_false p5, nI_clamp hb, nI_clamp hc]
                    exact Nat.ble_eq_true_of_le (by omega)
                  have f1 : z_fx (fun t' i j => t' = 34 ∧ i = o) S (z_acL S 34 t a 34 o b c) := z_fx.acL (fun k _ _ => ⟨rfl, rfl⟩) (Or.inr (Or.inl rfl))
                  obtain ⟨S1, hS1⟩ : ∃ S1, S1 = z_acL S 34 t a 34 o b c := ⟨_, rfl⟩
                  have g34 : ∀ k, k < 60 → S1.2.1 34 o k = (if b ≤ k ∧ k < b + c then S.2.1 34 t (a + (k - b)) else S.2.1 34 o k) := by
                    intro k hk
                    rw [hS1]
                    show (if 34 = 34 ∧ o = o then va_cpy (S.2.1 34 t) (S.2.1 34 o) a b c k else _) = _
                    rw [if_pos ⟨rfl, rfl⟩]
                    by_cases q : b ≤ k ∧ k < b + c
                    · rw [if_pos q, pk_cpy_in q.1 q.2]
                    · rw [if_neg q, pk_cpy_out (by omega)]
                  rw [← hS1] at f1
                  obtain ⟨S2, N', hN2, e2, h84, f2⟩ := l_sh1 (z_exe z_mt true 39) t a o b c (by omega) (by omega) S1 c 0 999999 S1 (by omega) (by omega) (fun j hj => by omega) z_fx.rf
                  obtain ⟨S3, e3, h83, f3⟩ := l_sh2 (z_exe z_mt true 39) o b c (by omega) (by omega) S2 c 0 N' S2 (by omega) (by omega) (fun j hj => by omega) z_fx.rf
                  have gg : ∀ t' k, t' = 81 ∨ t' = 82 → S1.1 t' 0 k = S.1 t' 0 k := fun t' k q => f1.i (by omega)
                  rw [nI_0] at e2 e3
                  refine ⟨.inl (nI c), S1, S3, ?_, ?_, ?_⟩
                  · have e : z_exe z_mt true 40 114 [.inr (.inr (11, 0)), .inl (nI t), .inl (nI a), .inl (nI o), .inl (nI b), .inl (nI c)] S = _ := (zx_X11_shift 39 S 0 (nI t) (nI a) (nI o) (nI b) (nI c)).trans (ze_X11_shift_0 _ _ _ _ _ _ _ _ _)
                    rw [e, s_outside, z_rI_s, z_b1_F (fun z => z h1), if_pos rfl, s_outside, z_rI_s, z_b1_F (fun z => z h3), if_pos rfl, z_oob_n (k := t) (by omega) (by omega), z_cond_f, z_oob_n (k := o) (by omega) (by omega), z_cond_f, z_cl (k := t) (by omega), z_cl (k := o) (by omega), es, if_neg hns, es2, if_neg hns, if_pos rfl, s_tHolds 38 t len (nI a) (nI c) S hl a3, z_rI_s, z_b1_T (hcl.mpr y1), if_neg z_01n, s_tHolds 38 o len2 (nI b) (nI c) S hl2 b3, z_rI_s, z_b1_T (hcl2.mpr y2), if_neg z_01n, hr1, hr2]
                    show some (some (Sum.inl (nI c)), z_acL S 34 t (nI a).toNatClampNeg 34 o (nI b).toNatClampNeg (nI c).toNatClampNeg) = _
                    rw [nI_clamp ha, nI_clamp hb, nI_clamp hc, hS1]
                  · have g81t' : S1.1 81 0 t = nI s := (gg 81 t (Or.inl rfl)).trans g81t
                    have g81o' : S1.1 81 0 o = nI s := (gg 81 o (Or.inl rfl)).trans g81o
                    have g82t' : S1.1 82 0 t = nI len := (gg 82 t (Or.inr rfl)).trans g82t
                    have g82o' : S1.1 82 0 o = nI len2 := (gg 82 o (Or.inr rfl)).trans g82o
                    have e : z_exe z_mt true 40 227 [.inr (.inr (12, 0)), .inl (nI t), .inl (nI a), .inl (nI o), .inl (nI b), .inl (nI c)] S1 = _ := (zx_X12_shift 39 S1 0 (nI t) (nI a) (nI o) (nI b) (nI c)).trans (ze_X12_shift_0 _ _ _ _ _ _ _ _ _)
                    rw [e, s_isTape, z_rI_s, z_b1_T h1, if_neg z_01n, s_isTape, z_rI_s, z_b1_T h3, if_neg z_01n, z_oob_n (k := t) (by omega) (by omega), z_cond_f, z_cl (k := t) (by omega), g81t', if_neg (nI_pos (n := s) (by omega)), z_oob_n (k := o) (by omega) (by omega), z_cond_f, z_cl (k := o) (by omega), g81o', if_pos (nI_pos' (n := s) (by omega)), z_cond_f, z_cond_f, if_pos rfl, if_neg p5, if_neg p2, if_neg p4, z_cond_f, g82t', if_neg (fun z => by have := (z_sublt (by omega) hc ha).mp z; omega), z_cond_f, g82o', if_pos ((z_lesub (by omega) hc hb).mpr y2)]
                    exact e2.trans e3
                  · refine hR.tp (((f1.wk (fun t i k q => by unfold z_Pt; omega)).tr (f2.wk (fun t i k q => by unfold z_Pt; omega))).tr (f3.wk (fun t i k q => by unfold z_Pt; omega))) (fun i hi => ?_)
                    obtain ⟨d1, d2, len3, hl3, d3, d4, d5⟩ := hP i hi
                    have E : ∀ t' i k, t' = 10 ∨ t' = 81 ∨ t' = 82 → S3.1 t' i k = S.1 t' i k := fun t' i k q => (f3.i (by omega)).trans ((f2.i (by omega)).trans (f1.i (by omega)))
                    refine ⟨by rw [E 10 i 0 (by omega), E 81 0 i (by omega)]; exact d1, by rw [E 10 i 1 (by omega), E 82 0 i (by omega)]; exact d2, len3, hl3, by rw [E 10 i 1 (by omega)]; exact d3, by rw [E 10 i 0 (by omega)]; exact d4, fun k hk => ?_⟩
                    have l34 : S3.2.1 34 i k = S1.2.1 34 i k := (f3.l (by omega)).trans (f2.l (by omega))
                    rw [l34]
                    by_cases qi : i = o
                    · subst qi
                      rw [g34 k (by omega)]
                      by_cases q : b ≤ k ∧ k < b + c
                      · have m1 := h83 (k - b) (by omega)
                        have m2 := h84 (k - b) (by omega)
                        have m3 : S1.2.1 83 0 (60 * t + (a + (k - b))) = S.2.1 83 0 (60 * t + (a + (k - b))) := f1.l (by omega)
                        rw [if_pos q, show 60 * i + k = 60 * i + (b + (k - b)) by omega, m1, m2, m3]
                        exact a5 (a + (k - b)) (by omega)
                      · rw [if_neg q, f3.l (by omega), f2.l (by omega), f1.l (by omega)]
                        exact d5 k hk
                    · rw [f1.l (by omega), f3.l (by omega), f2.l (by omega), f1.l (by omega)]
                      exact d5 k hk
                · refine z_no (v := .inl (-13)) hR ?_ ?_
                  · have e : z_exe z_mt true 40 114 [.inr (.inr (11, 0)), .inl (nI t), .inl (nI a), .inl (nI o), .inl (nI b), .inl (nI c)] S = _ := (zx_X11_shift 39 S 0 (nI t) (nI a) (nI o) (nI b) (nI c)).trans (ze_X11_shift_0 _ _ _ _ _ _ _ _ _)
                    rw [e, s_outside, z_rI_s, z_b1_F (fun z => z h1), if_pos rfl, s_outside, z_rI_s, z_b1_F (fun z => z h3), if_pos rfl, z_oob_n (k := t) (by omega) (by omega), z_cond_f, z_oob_n (k := o) (by omega) (by omega), z_cond_f, z_cl (k := t) (by omega), z_cl (k := o) (by omega), es, if_neg hns, es2, if_neg hns, if_pos rfl, s_tHolds 38 t len (nI a) (nI c) S hl a3, z_rI_s, z_b1_T (hcl.mpr y1), if_neg z_01n, s_tHolds 38 o len2 (nI b) (nI c) S hl2 b3, z_rI_s, z_b1_F (fun z => y2 (hcl2.mp z)), if_pos rfl]
                  · have e : z_exe z_mt true 40 227 [.inr (.inr (12, 0)), .inl (nI t), .inl (nI a), .inl (nI o), .inl (nI b), .inl (nI c)] S = _ := (zx_X12_shift 39 S 0 (nI t) (nI a) (nI o) (nI b) (nI c)).trans (ze_X12_shift_0 _ _ _ _ _ _ _ _ _)
                    rw [e, s_isTape, z_rI_s, z_b1_T h1, if_neg z_01n, s_isTape, z_rI_s, z_b1_T h3, if_neg z_01n, z_oob_n (k := t) (by omega) (by omega), z_cond_f, z_cl (k := t) (by omega), g81t, if_neg (nI_pos (n := s) (by omega)), z_oob_n (k := o) (by omega) (by omega), z_cond_f, z_cl (k := o) (by omega), g81o, if_pos (nI_pos' (n := s) (by omega)), z_cond_f, z_cond_f, if_pos rfl, if_neg p5, if_neg p2, if_neg p4, z_cond_f, g82t, if_neg (fun z => by have := (z_sublt (by omega) hc ha).mp z; omega), z_cond_f, g82o, if_neg (fun z => y2 ((z_lesub (by omega) hc hb).mp z))]
              · refine z_no (v := .inl (-13)) hR ?_ ?_
                · have e : z_exe z_mt true 40 114 [.inr (.inr (11, 0)), .inl (nI t), .inl (nI a), .inl (nI o), .inl (nI b), .inl (nI c)] S = _ := (zx_X11_shift 39 S 0 (nI t) (nI a) (nI o) (nI b) (nI c)).trans (ze_X11_shift_0 _ _ _ _ _ _ _ _ _)
                  rw [e, s_outside, z_rI_s, z_b1_F (fun z => z h1), if_pos rfl, s_outside, z_rI_s, z_b1_F (fun z => z h3), if_pos rfl, z_oob_n (k := t) (by omega) (by omega), z_cond_f, z_oob_n (k := o) (by omega) (by omega), z_cond_f, z_cl (k := t) (by omega), z_cl (k := o) (by omega), es, if_neg hns, es2, if_neg hns, if_pos rfl, s_tHolds 38 t len (nI a) (nI c) S hl a3, z_rI_s, z_b1_F (fun z => y1 (hcl.mp z)), if_pos rfl]
                · have e : z_exe z_mt true 40 227 [.inr (.inr (12, 0)), .inl (nI t), .inl (nI a), .inl (nI o), .inl (nI b), .inl (nI c)] S = _ := (zx_X12_shift 39 S 0 (nI t) (nI a) (nI o) (nI b) (nI c)).trans (ze_X12_shift_0 _ _ _ _ _ _ _ _ _)
                  rw [e, s_isTape, z_rI_s, z_b1_T h1, if_neg z_01n, s_isTape, z_rI_s, z_b1_T h3, if_neg z_01n, z_oob_n (k := t) (by omega) (by omega), z_cond_f, z_cl (k := t) (by omega), g81t, if_neg (nI_pos (n := s) (by omega)), z_oob_n (k := o) (by omega) (by omega), z_cond_f, z_cl (k := o) (by omega), g81o, if_pos (nI_pos' (n := s) (by omega)), z_cond_f, z_cond_f, if_pos rfl, if_neg p5, if_neg p2, if_neg p4, z_cond_f, g82t, if_pos ((z_sublt (by omega) hc ha).mpr (by omega))]
      · have hss' : ¬ nI s = nI s2 := fun q => hss ((nI_eq (by omega) (by omega)).mp q)
        have g81o : S.1 81 0 o = nI s2 := b1.symm.trans es2
        have hns2 : ¬ nI s2 = -1 := fun q => absurd (q ▸ nI_pos' (n := s2) (by omega)) (by decide)
        refine z_no (v := .inl (-12)) hR ?_ ?_
        · have e : z_exe z_mt true 40 114 [.inr (.inr (11, 0)), .inl (nI t), .inl v2, .inl (nI o), .inl v4, .inl v5] S = _ := (zx_X11_shift 39 S 0 (nI t) v2 (nI o) v4 v5).trans (ze_X11_shift_0 _ _ _ _ _ _ _ _ _)
          rw [e, s_outside, z_rI_s, z_b1_F (fun z => z h1), if_pos rfl, s_outside, z_rI_s, z_b1_F (fun z => z h3), if_pos rfl, z_oob_n (k := t) (by omega) (by omega), z_cond_f, z_oob_n (k := o) (by omega) (by omega), z_cond_f, z_cl (k := t) (by omega), z_cl (k := o) (by omega), es, if_neg hns, es2, if_neg hns2, if_neg hss']
        · have e : z_exe z_mt true 40 227 [.inr (.inr (12, 0)), .inl (nI t), .inl v2, .inl (nI o), .inl v4, .inl v5] S = _ := (zx_X12_shift 39 S 0 (nI t) v2 (nI o) v4 v5).trans (ze_X12_shift_0 _ _ _ _ _ _ _ _ _)
          rw [e, s_isTape, z_rI_s, z_b1_T h1, if_neg z_01n, s_isTape, z_rI_s, z_b1_T h3, if_neg z_01n, z_oob_n (k := t) (by omega) (by omega), z_cond_f, z_cl (k := t) (by omega), g81t, if_neg (nI_pos (n := s) (by omega)), z_oob_n (k := o) (by omega) (by omega), z_cond_f, z_cl (k := o) (by omega), g81o, if_pos (nI_pos' (n := s2) (by omega)), z_cond_f, z_cond_f, if_neg hss']
    · refine z_no (v := .inl (-1)) hR ?_ ?_
      · have e : z_exe z_mt true 40 114 [.inr (.inr (11, 0)), .inl (nI t), .inl v2, .inl v3, .inl v4, .inl v5] S = _ := (zx_X11_shift 39 S 0 (nI t) v2 v3 v4 v5).trans (ze_X11_shift_0 _ _ _ _ _ _ _ _ _)
        rw [e, s_outside, z_rI_s, z_b1_F (fun z => z h1), if_pos rfl, s_outside, z_rI_s, z_b1_T h3, if_neg z_01n]
      · have e : z_exe z_mt true 40 227 [.inr (.inr (12, 0)), .inl (nI t), .inl v2, .inl v3, .inl v4, .inl v5] S = _ := (zx_X12_shift 39 S 0 (nI t) v2 v3 v4 v5).trans (ze_X12_shift_0 _ _ _ _ _ _ _ _ _)
        rw [e, s_isTape, z_rI_s, z_b1_T h1, if_neg z_01n, s_isTape, z_rI_s, z_b1_F h3, if_pos rfl]
  · refine z_no (v := .inl (-1)) hR ?_ ?_
    · have e : z_exe z_mt true 40 114 [.inr (.inr (11, 0)), .inl v1, .inl v2, .inl v3, .inl v4, .inl v5] S = _ := (zx_X11_shift 39 S 0 v1 v2 v3 v4 v5).trans (ze_X11_shift_0 _ _ _ _ _ _ _ _ _)
      rw [e, s_outside, z_rI_s, z_b1_T h1, if_neg z_01n]
    · have e : z_exe z_mt true 40 227 [.inr (.inr (12, 0)), .inl v1, .inl v2, .inl v3, .inl v4, .inl v5] S = _ := (zx_X12_shift 39 S 0 v1 v2 v3 v4 v5).trans (ze_X12_shift_0 _ _ _ _ _ _ _ _ _)
      rw [e, s_isTape, z_rI_s, z_b1_F h1, if_pos rfl]
