/-! ===== count ===== -/
theorem c_count (S : z_Mem) (hR : z_RL S) (v : Int32) : z_both 110 221 [.inl v] S := by
  obtain ⟨hts, hN, ⟨n, hr, h, c0, ht, wd, H, K, W, C, hA, hB⟩, hI, hT, hP, hAc⟩ := id hR
  obtain ⟨⟨hn, hhr, hwd, hH, hts6⟩, hh6⟩ := hA.1
  have hC := fun b hb => (hA.2.2 b hb).1.2.2
  have c7 : S.1 7 0 1 = nI n := hA.2.1.1.1
  have c12 : S.1 12 0 0 = nI n := hA.2.1.2.1
  obtain ⟨⟨x1, -, x2, x3, -⟩, ⟨y1, -, y2, y3, -⟩, ⟨w1, -, w2, w3, -⟩⟩ := hB
  obtain ⟨len, -, t1, t2, -⟩ := hT
  obtain ⟨ran, -, r1, r2, -⟩ := hAc
  obtain ⟨n1, n2, -⟩ := hN
  by_cases q0 : v = 0
  · refine z_no (v := .inl (nI n)) hR ?_ ?_
    · have e : z_exe z_mt true 40 110 [.inr (.inr (11, 0)), .inl v] S = _ := (zx_X11_count 39 S 0 v).trans (ze_X11_count_0 _ _ _ _ _)
      rw [e, if_pos q0, c7]
    · have e : z_exe z_mt true 40 221 [.inr (.inr (12, 0)), .inl v] S = _ := (zx_X12_count 39 S 0 v).trans (ze_X12_count_0 _ _ _ _ _)
      rw [e, if_pos q0, c12]
  by_cases q1 : v = 1
  · refine z_no (v := .inl (nI hts)) hR ?_ ?_
    · have e : z_exe z_mt true 40 110 [.inr (.inr (11, 0)), .inl v] S = _ := (zx_X11_count 39 S 0 v).trans (ze_X11_count_0 _ _ _ _ _)
      rw [e, if_neg q0, if_pos q1, n1]
    · have e : z_exe z_mt true 40 221 [.inr (.inr (12, 0)), .inl v] S = _ := (zx_X12_count 39 S 0 v).trans (ze_X12_count_0 _ _ _ _ _)
      rw [e, if_neg q0, if_pos q1, n2]
  by_cases q2 : v = 2
  · refine z_no (v := .inl (nI x1)) hR ?_ ?_
    · have e : z_exe z_mt true 40 110 [.inr (.inr (11, 0)), .inl v] S = _ := (zx_X11_count 39 S 0 v).trans (ze_X11_count_0 _ _ _ _ _)
      rw [e, if_neg q0, if_neg q1, if_pos q2, x2]
    · have e : z_exe z_mt true 40 221 [.inr (.inr (12, 0)), .inl v] S = _ := (zx_X12_count 39 S 0 v).trans (ze_X12_count_0 _ _ _ _ _)
      rw [e, if_neg q0, if_neg q1, if_pos q2, x3]
  by_cases q3 : v = 3
  · refine z_no (v := .inl (nI y1)) hR ?_ ?_
    · have e : z_exe z_mt true 40 110 [.inr (.inr (11, 0)), .inl v] S = _ := (zx_X11_count 39 S 0 v).trans (ze_X11_count_0 _ _ _ _ _)
      rw [e, if_neg q0, if_neg q1, if_neg q2, if_pos q3, y2]
    · have e : z_exe z_mt true 40 221 [.inr (.inr (12, 0)), .inl v] S = _ := (zx_X12_count 39 S 0 v).trans (ze_X12_count_0 _ _ _ _ _)
      rw [e, if_neg q0, if_neg q1, if_neg q2, if_pos q3, y3]
  by_cases q4 : v = 4
  · refine z_no (v := .inl (nI w1)) hR ?_ ?_
    · have e : z_exe z_mt true 40 110 [.inr (.inr (11, 0)), .inl v] S = _ := (zx_X11_count 39 S 0 v).trans (ze_X11_count_0 _ _ _ _ _)
      rw [e, if_neg q0, if_neg q1, if_neg q2, if_neg q3, if_pos q4, w2]
    · have e : z_exe z_mt true 40 221 [.inr (.inr (12, 0)), .inl v] S = _ := (zx_X12_count 39 S 0 v).trans (ze_X12_count_0 _ _ _ _ _)
      rw [e, if_neg q0, if_neg q1, if_neg q2, if_neg q3, if_pos q4, w3]
  by_cases q5 : v = 5
  · refine z_no (v := .inl (nI len)) hR ?_ ?_
    · have e : z_exe z_mt true 40 110 [.inr (.inr (11, 0)), .inl v] S = _ := (zx_X11_count 39 S 0 v).trans (ze_X11_count_0 _ _ _ _ _)
      rw [e, if_neg q0, if_neg q1, if_neg q2, if_neg q3, if_neg q4, if_pos q5, t1]
    · have e : z_exe z_mt true 40 221 [.inr (.inr (12, 0)), .inl v] S = _ := (zx_X12_count 39 S 0 v).trans (ze_X12_count_0 _ _ _ _ _)
      rw [e, if_neg q0, if_neg q1, if_neg q2, if_neg q3, if_neg q4, if_pos q5, t2]
  by_cases q6 : v = 6
  · refine z_no (v := .inl (nI ran)) hR ?_ ?_
    · have e : z_exe z_mt true 40 110 [.inr (.inr (11, 0)), .inl v] S = _ := (zx_X11_count 39 S 0 v).trans (ze_X11_count_0 _ _ _ _ _)
      rw [e, if_neg q0, if_neg q1, if_neg q2, if_neg q3, if_neg q4, if_neg q5, if_pos q6, r1]
    · have e : z_exe z_mt true 40 221 [.inr (.inr (12, 0)), .inl v] S = _ := (zx_X12_count 39 S 0 v).trans (ze_X12_count_0 _ _ _ _ _)
      rw [e, if_neg q0, if_neg q1, if_neg q2, if_neg q3, if_neg q4, if_neg q5, if_pos q6, r2]
  refine z_no (v := .inl (-2)) hR ?_ ?_
  · have e : z_exe z_mt true 40 110 [.inr (.inr (11, 0)), .inl v] S = _ := (zx_X11_count 39 S 0 v).trans (ze_X11_count_0 _ _ _ _ _)
    rw [e, if_neg q0, if_neg q1, if_neg q2, if_neg q3, if_neg q4, if_neg q5, if_neg q6]
  · have e : z_exe z_mt true 40 221 [.inr (.inr (12, 0)), .inl v] S = _ := (zx_X12_count 39 S 0 v).trans (ze_X12_count_0 _ _ _ _ _)
    rw [e, if_neg q0, if_neg q1, if_neg q2, if_neg q3, if_neg q4, if_neg q5, if_neg q6]
/-! ===== trace ===== -/
theorem c_trace (S : z_Mem) (hR : z_RL S) (v : Int32) : z_both 108 219 [.inl v] S := by
  obtain ⟨hts, hN, ⟨n, hr, h, c0, ht, wd, H, K, W, C, hA, hB⟩, hI, hT, hP, hAc⟩ := id hR
  obtain ⟨⟨hn, hhr, hwd, hH, hts6⟩, hh6⟩ := hA.1
  have hC := fun b hb => (hA.2.2 b hb).1.2.2
  have c7 : S.1 7 0 1 = nI n := hA.2.1.1.1
  have c12 : S.1 12 0 0 = nI n := hA.2.1.2.1
  obtain ⟨ran, r0, r1, r2, r3⟩ := hAc
  have ek : z_exe z_mt true 39 2 [.inr (.inr (1, 0))] S = some (some (.inl (nI (if 20 < ran then 20 else ran))), S) := by
    have e : z_exe z_mt true 39 2 [.inr (.inr (1, 0))] S = _ := (zx_X0_kept 38 S 0).trans (ze_X0_kept_0 _ _ _ _)
    rw [e, r1]
    by_cases q : 20 < ran
    · rw [if_pos q, if_pos (by rw [show (20 : Int32) = nI 20 from rfl, nI_ltI (by omega) (by omega)]; exact q)]
      rfl
    · rw [if_neg q, if_neg (by rw [show (20 : Int32) = nI 20 from rfl, nI_ltI (by omega) (by omega)]; exact q)]
  by_cases h1 : 0 ≤ v ∧ v ≤ 19
  · obtain ⟨k, hk, rfl⟩ := z_rg (n := 19) (by omega) h1
    by_cases h2 : k < ran
    · refine z_no (v := .inl (S.1 80 0 k)) hR ?_ ?_
      · have e : z_exe z_mt true 40 108 [.inr (.inr (11, 0)), .inl (nI k)] S = _ := (zx_X11_trace 39 S 0 (nI k)).trans (ze_X11_trace_0 _ _ _ _ _)
        have hlt : nI k < nI (if 20 < ran then 20 else ran) := by
          by_cases q : 20 < ran
          · rw [if_pos q, nI_ltI (by omega) (by omega)]; omega
          · rw [if_neg q, nI_ltI (by omega) (by omega)]; omega
        rw [e, if_neg (nI_pos (by omega)), ek, z_rI_s, if_pos hlt, z_oob_n (k := k) (by omega) (by omega), z_cond_f, z_cl (k := k) (by omega), r3 k h2 (by omega)]
      · have e : z_exe z_mt true 40 219 [.inr (.inr (12, 0)), .inl (nI k)] S = _ := (zx_X12_trace 39 S 0 (nI k)).trans (ze_X12_trace_0 _ _ _ _ _)
        rw [e, s_in, z_rI_s, z_b1_T h1, if_neg z_01n, r2, if_neg (by rw [nI_leI (by omega) (by omega)]; omega), z_oob_n (k := k) (by omega) (by omega), z_cond_f, z_cl (k := k) (by omega)]
    · refine z_no (v := .inl (-1)) hR ?_ ?_
      · have e : z_exe z_mt true 40 108 [.inr (.inr (11, 0)), .inl (nI k)] S = _ := (zx_X11_trace 39 S 0 (nI k)).trans (ze_X11_trace_0 _ _ _ _ _)
        have hlt : ¬ nI k < nI (if 20 < ran then 20 else ran) := by
          rw [if_neg (by omega), nI_ltI (by omega) (by omega)]; omega
        rw [e, if_neg (nI_pos (by omega)), ek, z_rI_s, if_neg hlt]
      · have e : z_exe z_mt true 40 219 [.inr (.inr (12, 0)), .inl (nI k)] S = _ := (zx_X12_trace 39 S 0 (nI k)).trans (ze_X12_trace_0 _ _ _ _ _)
        rw [e, s_in, z_rI_s, z_b1_T h1, if_neg z_01n, r2, if_pos (by rw [nI_leI (by omega) (by omega)]; omega)]
  · refine z_no (v := .inl (-1)) hR ?_ ?_
    · have e : z_exe z_mt true 40 108 [.inr (.inr (11, 0)), .inl v] S = _ := (zx_X11_trace 39 S 0 v).trans (ze_X11_trace_0 _ _ _ _ _)
      by_cases q : v < 0
      · rw [e, if_pos q]
      · obtain ⟨k, hk, rfl⟩ := nI_of q
        have hk20 : 20 ≤ k := by
          have : ¬ nI k ≤ 19 := fun z => h1 ⟨Int32.not_lt.mp q, z⟩
          rw [show (19 : Int32) = nI 19 from rfl, nI_leI hk (by omega)] at this
          omega
        have hlt : ¬ nI k < nI (if 20 < ran then 20 else ran) := by
          by_cases z : 20 < ran
          · rw [if_pos z, nI_ltI hk (by omega)]; omega
          · rw [if_neg z, nI_ltI hk (by omega)]; omega
        rw [e, if_neg q, ek, z_rI_s, if_neg hlt]
    · have e : z_exe z_mt true 40 219 [.inr (.inr (12, 0)), .inl v] S = _ := (zx_X12_trace 39 S 0 v).trans (ze_X12_trace_0 _ _ _ _ _)
      rw [e, s_in, z_rI_s, z_b1_F h1, if_pos rfl]
/-! ===== taken ===== -/
def z_ab (a : Int32) : Int32 := if a = 4 then 1 else if a = 5 then 2 else if a = 6 then 3 else 0
theorem s_above (d : Nat) (a : Int32) (S : z_Mem) : z_exe z_mt true (d + 1) 41 [.inl a] S = some (some (.inl (z_ab a)), S) := by
  have e : z_exe z_mt true (d + 1) 41 [.inl a] S = _ := (zx_X5_above d S a).trans (ze_X5_above_0 _ _ _ _)
  rw [e]
  unfold z_ab
  by_cases q1 : a = 4
  · rw [if_pos q1, if_pos q1]
  rw [if_neg q1, if_neg q1]
  by_cases q2 : a = 5
  · rw [if_pos q2, if_pos q2]
  rw [if_neg q2, if_neg q2]
  by_cases q3 : a = 6
  · rw [if_pos q3, if_pos q3]
  rw [if_neg q3, if_neg q3]
theorem l_under0 (d : Nat) (k : Int32) (S : z_Mem) : ∀ (m i N : Nat), i + m = 6 → m < N → zr_X5_isOrIsUnder (z_exe z_mt true (d + 1)) N 4 [none, some (.inl k), some (.inl (0 : Int32)), some (.inl (nI i))] [] S = some (some (.inl (z_b1 ((0 : Int32) = k))), S) := by
  intro m
  induction m with
  | zero =>
    intro i N hi hN
    obtain ⟨N, rfl⟩ : ∃ N', N = N' + 1 := ⟨N - 1, by omega⟩
    rw [ze_X5_isOrIsUnder_4, if_pos (by rw [show (6 : Int32) = nI 6 from rfl, z_le (by omega) (by omega)]; omega)]
    unfold z_b1
    by_cases q : (0 : Int32) = k
    · rw [if_pos q, if_pos q]
    · rw [if_neg q, if_neg q]
  | succ m ih =>
    intro i N hi hN
    obtain ⟨N, rfl⟩ : ∃ N', N = N' + 1 := ⟨N - 1, by omega⟩
    rw [ze_X5_isOrIsUnder_4, if_neg (by rw [show (6 : Int32) = nI 6 from rfl, z_le (by omega) (by omega)]; omega)]
    by_cases q : (0 : Int32) = k
    · rw [if_pos q, if_pos q, z_b1_T q]
    · rw [if_neg q, s_above, z_rI_s]
      dsimp only
      rw [nI_1]
      exact ih (i + 1) N (by omega) (by omega)
theorem s_under (d a : Nat) (k : Int32) (S : z_Mem) (ha : a ≤ 6) : z_exe z_mt true (d + 2) 42 [.inl (nI a), .inl k] S = some (some (.inl (z_b1 (nI a = k ∨ z_ab (nI a) = k ∨ (0 : Int32) = k))), S) := by
  have e : z_exe z_mt true (d + 2) 42 [.inl (nI a), .inl k] S = _ := (zx_X5_isOrIsUnder (d + 1) S (nI a) k).trans (ze_X5_isOrIsUnder_0 _ _ _ _ _)
  have hz : z_ab (z_ab (nI a)) = 0 := by
    have : ∀ a, a < 7 → z_ab (z_ab (nI a)) = 0 := by decide
    exact this a (by omega)
  have e1 : zr_X5_isOrIsUnder (z_exe z_mt true (d + 1)) (999998 + 1) 4 [none, some (.inl k), some (.inl (nI a)), some (.inl (nI 0))] [] S = _ := ze_X5_isOrIsUnder_4 _ _ _ _ _ _
  have e2 : zr_X5_isOrIsUnder (z_exe z_mt true (d + 1)) (999997 + 1) 4 [none, some (.inl k), some (.inl (z_ab (nI a))), some (.inl (nI 1))] [] S = _ := ze_X5_isOrIsUnder_4 _ _ _ _ _ _
  rw [if_neg (by decide)] at e1 e2
  rw [e]
  refine Eq.trans e1 ?_
  by_cases q1 : nI a = k
  · rw [if_pos q1, if_pos q1, z_b1_T (Or.inl q1)]
  rw [if_neg q1, s_above, z_rI_s]
  dsimp only
  rw [nI_1]
  refine Eq.trans e2 ?_
  by_cases q2 : z_ab (nI a) = k
  · rw [if_pos q2, if_pos q2, z_b1_T (Or.inr (Or.inl q2))]
  rw [if_neg q2, s_above, z_rI_s, hz]
  dsimp only
  rw [nI_1, l_under0 d k S 4 2 999997 (by omega) (by omega)]
  by_cases q3 : (0 : Int32) = k
  · rw [z_b1_T q3, z_b1_T (Or.inr (Or.inr q3))]
  · rw [z_b1_F q3, z_b1_F (fun z => z.elim q1 (fun z => z.elim q2 q3))]
/-- the kinds of a pair as the model asks -/
def z_tkn (a k : Int32) : Int32 := if k = 0 then a else if a = k then a else if k = 1 then (if a = 4 then a else if k = 2 then (if a = 5 then a else if k = 3 then (if a = 6 then a else -12) else -12) else if k = 3 then (if a = 6 then a else -12) else -12) else if k = 2 then (if a = 5 then a else if k = 3 then (if a = 6 then a else -12) else -12) else if k = 3 then (if a = 6 then a else -12) else -12
theorem z_tkn_is : ∀ a, a < 7 → ∀ k, k < 7 → z_tkn (nI a) (nI k) = (if nI a = nI k ∨ z_ab (nI a) = nI k ∨ (0 : Int32) = nI k then nI a else -12) := by decide +kernel
theorem c_taken (S : z_Mem) (hR : z_RL S) (v1 v2 : Int32) : z_both 109 220 [.inl v1, .inl v2] S := by
  obtain ⟨hts, hN, ⟨n, hr, h, c0, ht, wd, H, K, W, C, hA, hB⟩, hI, hT, hP, hAc⟩ := id hR
  obtain ⟨⟨hn, hhr, hwd, hH, hts6⟩, hh6⟩ := hA.1
  have hC := fun b hb => (hA.2.2 b hb).1.2.2
  have c7 : S.1 7 0 1 = nI n := hA.2.1.1.1
  have c12 : S.1 12 0 0 = nI n := hA.2.1.2.1
  by_cases h2 : 0 ≤ v2 ∧ v2 ≤ 6
  · by_cases h1 : 0 ≤ v1 ∧ v1 ≤ nI n - 1
    · obtain ⟨b, hb, rfl⟩ := z_isP_of hn h1
      obtain ⟨k, hk, rfl⟩ := z_rg (n := 6) (by omega) h2
      obtain ⟨⟨⟨-, ⟨a, ha, ea⟩, -⟩, -, -⟩, ⟨p1, -⟩, q1, -⟩ := hA.2.2 b hb
      have k1 : S.1 2 b 1 = nI a := by rw [← ea, ← p1]; rfl
      have k2 : S.1 37 0 b = nI a := by rw [← ea, ← q1]; rfl
      refine z_no (v := .inl (z_tkn (nI a) (nI k))) hR ?_ ?_
      · have e : z_exe z_mt true 40 109 [.inr (.inr (11, 0)), .inl (nI b), .inl (nI k)] S = _ := (zx_X11_taken 39 S 0 (nI b) (nI k)).trans (ze_X11_taken_0 _ _ _ _ _ _)
        rw [e, s_outside, z_rI_s, z_b1_F (fun z => z h2), if_pos rfl, s_noPair 38 n _ S hn c7, z_rI_s, z_b1_F (fun z => z h1), if_pos rfl, z_oob_n (k := b) (by omega) (by omega), z_cond_f]
        dsimp only
        rw [z_cl (k := b) (by omega), z_60, k1, s_under 37 a (nI k) S ha, z_rI_s, z_tkn_is a (by omega) k (by omega)]
        by_cases q : nI a = nI k ∨ z_ab (nI a) = nI k ∨ (0 : Int32) = nI k
        · rw [z_b1_T q, if_neg z_01n, if_pos q]
        · rw [z_b1_F q, if_pos rfl, if_neg q]
      · have e : z_exe z_mt true 40 220 [.inr (.inr (12, 0)), .inl (nI b), .inl (nI k)] S = _ := (zx_X12_taken 39 S 0 (nI b) (nI k)).trans (ze_X12_taken_0 _ _ _ _ _ _)
        rw [e, s_in, z_rI_s, z_b1_T h2, if_neg z_01n, s_isPair 37 n _ S c12, z_rI_s, z_b1_T h1, if_neg z_01n, z_oob_n (k := b) (by omega) (by omega), z_cond_f]
        dsimp only
        rw [z_cl (k := b) (by omega), k2]
        unfold z_tkn
        by_cases y0 : nI k = 0
        · rw [if_pos y0, if_pos y0]
        rw [if_neg y0, if_neg y0]
        by_cases y1 : nI a = nI k
        · rw [if_pos y1, if_pos y1]
        rw [if_neg y1, if_neg y1]
        by_cases y2 : nI k = 1 <;> by_cases y3 : nI a = 4 <;> by_cases y4 : nI k = 2 <;> by_cases y5 : nI a = 5 <;> by_cases y6 : nI k = 3 <;> by_cases y7 : nI a = 6 <;> simp only [y2, y3, y4, y5, y6, y7, if_true, if_false] <;> (try rfl)
    · refine z_no (v := .inl (-11)) hR ?_ ?_
      · have e : z_exe z_mt true 40 109 [.inr (.inr (11, 0)), .inl v1, .inl v2] S = _ := (zx_X11_taken 39 S 0 v1 v2).trans (ze_X11_taken_0 _ _ _ _ _ _)
        rw [e, s_outside, z_rI_s, z_b1_F (fun z => z h2), if_pos rfl, s_noPair 38 n _ S hn c7, z_rI_s, z_b1_T h1, if_neg z_01n]
      · have e : z_exe z_mt true 40 220 [.inr (.inr (12, 0)), .inl v1, .inl v2] S = _ := (zx_X12_taken 39 S 0 v1 v2).trans (ze_X12_taken_0 _ _ _ _ _ _)
        rw [e, s_in, z_rI_s, z_b1_T h2, if_neg z_01n, s_isPair 37 n _ S c12, z_rI_s, z_b1_F h1, if_pos rfl]
  · refine z_no (v := .inl (-2)) hR ?_ ?_
    · have e : z_exe z_mt true 40 109 [.inr (.inr (11, 0)), .inl v1, .inl v2] S = _ := (zx_X11_taken 39 S 0 v1 v2).trans (ze_X11_taken_0 _ _ _ _ _ _)
      rw [e, s_outside, z_rI_s, z_b1_T h2, if_neg z_01n]
    · have e : z_exe z_mt true 40 220 [.inr (.inr (12, 0)), .inl v1, .inl v2] S = _ := (zx_X12_taken 39 S 0 v1 v2).trans (ze_X12_taken_0 _ _ _ _ _ _)
      rw [e, s_in, z_rI_s, z_b1_F h2, if_pos rfl]
/-! ===== looked ===== -/
def z_lo (P : Nat → Bool) : Nat → Nat → Int32
  | _, 0 => -5
  | i, m + 1 => if P i then z_lo P (i + 1) m else nI i
theorem c_looked (S : z_Mem) (hR : z_RL S) : z_both 103 206 [] S := by
  obtain ⟨hts, hN, ⟨n, hr, h, c0, ht, wd, H, K, W, C, hA, hB⟩, hI, hT, hP, hAc⟩ := id hR
  obtain ⟨⟨hn, hhr, hwd, hH, hts6⟩, hh6⟩ := hA.1
  have hC := fun b hb => (hA.2.2 b hb).1.2.2
  have c7 : S.1 7 0 1 = nI n := hA.2.1.1.1
  have c12 : S.1 12 0 0 = nI n := hA.2.1.2.1
  obtain ⟨-, -, ⟨c, x1, x2, x3, x4⟩⟩ := hB
  have hc : ∀ m i N, i + m = c → m < N → zr_X11_looked (z_exe z_mt true 39) N 2 [some (.inr (.inr (11, 0))), some (.inl (nI i)), none] [] S = some (some (.inl (z_lo (fun i => decide (S.1 39 0 (Int32.toNatClampNeg (S.1 65 0 i)) = S.1 66 0 i)) i m)), S) := by
    intro m
    induction m with
    | zero =>
      intro i N hi hN
      obtain ⟨N, rfl⟩ : ∃ N', N = N' + 1 := ⟨N - 1, by omega⟩
      rw [ze_X11_looked_2, x2, if_pos (by rw [z_le (by omega) (by omega)]; omega)]
      rfl
    | succ m ih =>
      intro i N hi hN
      obtain ⟨N, rfl⟩ : ∃ N', N = N' + 1 := ⟨N - 1, by omega⟩
      obtain ⟨⟨b, hb, e1, e2⟩, e3⟩ := x4 i (by omega)
      have w1 : S.1 2 b 3 = S.1 39 0 b := by rw [(hA.2.2 b hb).2.1.2.2.1, (hA.2.2 b hb).2.2.2.1]
      rw [ze_X11_looked_2, x2, if_neg (by rw [z_le (by omega) (by omega)]; omega), show z_rl 2 = 8 from rfl, z_oob_n (k := i) (n := 8) (by omega) (by omega), z_cond_f, z_cl (k := i) (by omega), e1]
      try dsimp only
      have hz : ¬ ¬ (0 ≤ nI b ∧ nI b ≤ nI n - 1) := fun z => z (z_isP_to hn hb)
      rw [s_noPair 38 n (nI b) S hn c7, z_rI_s, z_b1_F hz, if_pos rfl, z_oob_n (k := b) (n := 6) (by omega) (by omega), z_cond_f, z_cond_f, z_cl (k := b) (by omega), z_60, w1, e3]
      unfold z_lo
      try dsimp only
      rw [e2, z_cl (k := b) (by omega)]
      by_cases q : S.1 39 0 b = S.1 66 0 i
      · rw [if_pos q, decide_eq_true q, if_pos rfl, nI_1]
        exact ih (i + 1) N (by omega) (by omega)
      · rw [if_neg q, decide_eq_false q, if_neg (by decide)]
  have hm : ∀ m i N, i + m = c → m < N → zr_X12_looked (z_exe z_mt true 39) N 2 [some (.inr (.inr (12, 0))), some (.inl (nI i))] [] S = some (some (.inl (z_lo (fun i => decide (S.1 39 0 (Int32.toNatClampNeg (S.1 65 0 i)) = S.1 66 0 i)) i m)), S) := by
    intro m
    induction m with
    | zero =>
      intro i N hi hN
      obtain ⟨N, rfl⟩ : ∃ N', N = N' + 1 := ⟨N - 1, by omega⟩
      rw [ze_X12_looked_2, x3, if_pos (by rw [z_le (by omega) (by omega)]; omega)]
      rfl
    | succ m ih =>
      intro i N hi hN
      obtain ⟨N, rfl⟩ : ∃ N', N = N' + 1 := ⟨N - 1, by omega⟩
      obtain ⟨⟨b, hb, e1, e2⟩, e3⟩ := x4 i (by omega)
      rw [ze_X12_looked_2, x3, if_neg (by rw [z_le (by omega) (by omega)]; omega), z_oob_n (k := i) (by omega) (by omega), z_cond_f, z_cl (k := i) (by omega), e2, z_oob_n (k := b) (by omega) (by omega), z_cond_f, z_cond_f, z_cl (k := b) (by omega)]
      unfold z_lo
      dsimp only
      rw [e2, z_cl (k := b) (by omega)]
      by_cases q : S.1 39 0 b = S.1 66 0 i
      · rw [if_pos q, decide_eq_true q, if_pos rfl, nI_1]
        exact ih (i + 1) N (by omega) (by omega)
      · rw [if_neg q, decide_eq_false q, if_neg (by decide)]
  refine z_no (v := .inl (z_lo (fun i => decide (S.1 39 0 (Int32.toNatClampNeg (S.1 65 0 i)) = S.1 66 0 i)) 0 c)) hR ?_ ?_
  · have e : z_exe z_mt true 40 103 [.inr (.inr (11, 0))] S = _ := (zx_X11_looked 39 S 0).trans (ze_X11_looked_0 _ _ _ _)
    exact e.trans (hc c 0 999999 (by omega) (by omega))
  · have e : z_exe z_mt true 40 206 [.inr (.inr (12, 0))] S = _ := (zx_X12_looked 39 S 0).trans (ze_X12_looked_0 _ _ _ _)
    exact e.trans (hm c 0 999999 (by omega) (by omega))
/-! ===== feed ===== -/
theorem z_byte : ∀ c, c < 128 → vp_nar .byte (Int8.toInt32 (Int32.toInt8 (nI c))) = nI c := by decide +kernel
theorem c_feed (S : z_Mem) (hR : z_RL S) (v : Int32) : z_both 84 142 [.inl v] S := by
  obtain ⟨hts, hN, ⟨n, hr, h, c0, ht, wd, H, K, W, C, hA, hB⟩, hI, hT, hP, hAc⟩ := id hR
  obtain ⟨⟨hn, hhr, hwd, hH, hts6⟩, hh6⟩ := hA.1
  have hC := fun b hb => (hA.2.2 b hb).1.2.2
  have c7 : S.1 7 0 1 = nI n := hA.2.1.1.1
  have c12 : S.1 12 0 0 = nI n := hA.2.1.2.1
  obtain ⟨len, t0, t1, t2, t3⟩ := hT
  by_cases h1 : 0 ≤ v ∧ v ≤ 127
  · obtain ⟨c, hc, rfl⟩ := z_rg (n := 127) (by omega) h1
    by_cases h2 : len = 100
    · refine z_no (v := .inl (-4)) hR ?_ ?_
      · have e : z_exe z_mt true 40 84 [.inr (.inr (11, 0)), .inl (nI c)] S = _ := (zx_X11_feed 39 S 0 (nI c)).trans (ze_X11_feed_0 _ _ _ _ _)
        rw [e, s_outside, z_rI_s, z_b1_F (fun z => z h1), if_pos rfl, t1, h2, if_neg (by decide)]
      · have e : z_exe z_mt true 40 142 [.inr (.inr (12, 0)), .inl (nI c)] S = _ := (zx_X12_feed 39 S 0 (nI c)).trans (ze_X12_feed_0 _ _ _ _ _)
        rw [e, s_in, z_rI_s, z_b1_T h1, if_neg z_01n, t2, h2, if_pos (by decide)]
    · have hlt : nI len < 100 := by rw [show (100 : Int32) = nI 100 from rfl, nI_ltI (by omega) (by omega)]; omega
      have hne : ¬ nI len = 100 := fun q => h2 ((nI_eq (b := 100) (by omega) (by omega)).mp q)
      obtain ⟨S1, hS1⟩ : ∃ S1, S1 = z_sI (z_sI S 25 0 len (nI c)) 5 0 1 (nI (len + 1)) := ⟨_, rfl⟩
      have e1 : z_exe z_mt true 39 28 [.inr (.inr (5, 0)), .inl (nI c)] S = some (some (.inl (nI (len + 1))), S1) := by
        have e : z_exe z_mt true 39 28 [.inr (.inr (5, 0)), .inl (nI c)] S = _ := (zx_X4_append 38 S 0 (nI c)).trans (ze_X4_append_0 _ _ _ _ _)
        rw [e, t1, if_neg (Int32.not_le.mpr hlt), z_oob_n (k := len) (by omega) (by omega), z_cond_f, z_byte c (by omega), z_cl (k := len) (by omega)]
        dsimp only
        have g : (z_sI S 25 0 len (nI c)).1 5 0 1 = nI len := by simp [z_sI1, t1]
        rw [g, nI_1, ← hS1, hS1, z_sI1, if_pos ⟨rfl, rfl, rfl⟩]
      have f1 : z_fx (fun t i k => t = 25 ∨ (t = 5 ∧ i = 0 ∧ k = 1)) S S1 := by
        rw [hS1]
        exact (z_fx.sI (Or.inl rfl)).tr (z_fx.sI (Or.inr ⟨rfl, rfl, rfl⟩))
      have g13 : S1.1 12 0 13 = nI len := by rw [f1.i (by omega)]; exact t2
      have f2 : z_fx (fun t i k => t = 43 ∨ (t = 12 ∧ i = 0 ∧ k = 13)) S1 (z_sI (z_sI S1 43 0 len (nI c)) 12 0 13 (nI (len + 1))) := (z_fx.sI (Or.inl rfl)).tr (z_fx.sI (Or.inr ⟨rfl, rfl, rfl⟩))
      refine ⟨.inl (nI (len + 1)), S1, z_sI (z_sI S1 43 0 len (nI c)) 12 0 13 (nI (len + 1)), ?_, ?_, ?_⟩
      · have e : z_exe z_mt true 40 84 [.inr (.inr (11, 0)), .inl (nI c)] S = _ := (zx_X11_feed 39 S 0 (nI c)).trans (ze_X11_feed_0 _ _ _ _ _)
        rw [e, s_outside, z_rI_s, z_b1_F (fun z => z h1), if_pos rfl, t1, if_pos hlt, e1, z_rI_s]
      · have e : z_exe z_mt true 40 142 [.inr (.inr (12, 0)), .inl (nI c)] S1 = _ := (zx_X12_feed 39 S1 0 (nI c)).trans (ze_X12_feed_0 _ _ _ _ _)
        rw [e, s_in, z_rI_s, z_b1_T h1, if_neg z_01n, g13, if_neg hne, z_oob_n (k := len) (by omega) (by omega), z_cond_f, z_cl (k := len) (by omega)]
        dsimp only
        have g : (z_sI S1 43 0 len (nI c)).1 12 0 13 = nI len := by simp [z_sI1, g13]
        rw [g, nI_1, z_sI1, if_pos ⟨rfl, rfl, rfl⟩]
      · have f : z_fx (fun t i k => (t = 25 ∨ (t = 5 ∧ i = 0 ∧ k = 1)) ∨ (t = 43 ∨ (t = 12 ∧ i = 0 ∧ k = 13))) S (z_sI (z_sI S1 43 0 len (nI c)) 12 0 13 (nI (len + 1))) := (f1.wk (fun _ _ _ q => Or.inl q)).tr (f2.wk (fun _ _ _ q => Or.inr q))
        refine ⟨hts, hN.cg (fun t i k q => f.i (by omega)) f.2.1, ⟨n, hr, h, c0, ht, wd, H, K, W, C, hA.cg (fun t i k q _ _ _ _ _ _ => f.i (by unfold z_FA at q; omega)) (by rw [f.r (by omega)]), hB.cg (fun t i k q => f.i (by unfold z_FB at q; omega))⟩, hI.cg (fun t i k q => f.i (by unfold z_FI at q; omega)) (by rw [f.r (by omega)]), ⟨len + 1, by omega, ?_, ?_, fun i hi => ?_⟩, hP.cg (fun t i k q => f.i (by omega)) (fun t i k q => f.l (by omega)), hAc.cg (fun t i k q => f.i (by omega))⟩
        · rw [f2.i (by omega), hS1]; simp [z_sI1]
        · simp [z_sI1]
        · by_cases q : i = len
          · subst q
            refine ⟨c, by omega, ?_, ?_⟩
            · rw [f2.i (by omega), hS1]; simp [z_sI1]
            · simp [z_sI1]
          · have := t3 i (by omega)
            simp [z_sI1, hS1, q]
            exact this
  · refine z_no (v := .inl (-2)) hR ?_ ?_
    · have e : z_exe z_mt true 40 84 [.inr (.inr (11, 0)), .inl v] S = _ := (zx_X11_feed 39 S 0 v).trans (ze_X11_feed_0 _ _ _ _ _)
      rw [e, s_outside, z_rI_s, z_b1_T h1, if_neg z_01n]
    · have e : z_exe z_mt true 40 142 [.inr (.inr (12, 0)), .inl v] S = _ := (zx_X12_feed 39 S 0 v).trans (ze_X12_feed_0 _ _ _ _ _)
      rw [e, s_in, z_rI_s, z_b1_F h1, if_pos rfl]
