/-! ===== rows told by hand ===== -/
theorem z_RL.rows {hts n hr h c0 : Nat} {ht wd : Int32} {H : z_H} {K : Nat → z_K} {W C : Nat → Int32} {S S' : z_Mem} (hN : z_LN hts S) (hA : z_LA hts n hr h c0 ht wd H K W C S) (hI : z_LI hts S) (hT : z_LT S) (hP : z_LP S) (hAc : z_LC S) (hf : z_fx z_FB S S') (hB : z_LB n S') : z_RL S' := by
  refine ⟨hts, hN.cg (fun t i k q => hf.i (by unfold z_FB; omega)) hf.2.1, ⟨n, hr, h, c0, ht, wd, H, K, W, C, hA.cg (fun t i k q _ _ _ _ _ _ => hf.i (by unfold z_FA at q; unfold z_FB; omega)) (by rw [hf.r (by unfold z_FB; omega)]), hB⟩, hI.cg (fun t i k q => hf.i (by unfold z_FI at q; unfold z_FB; omega)) (by rw [hf.r (by unfold z_FB; omega)]), hT.cg (fun t i k q => hf.i (by unfold z_FB; omega)), hP.cg (fun t i k q => hf.i (by unfold z_FB; omega)) (fun t i k q => hf.l (by unfold z_FB; omega)), hAc.cg (fun t i k q => hf.i (by unfold z_FB; omega))⟩
theorem z_r8 {S : z_Mem} {t i k r : Nat} {x : Int32} (h : t ≠ 8) : (z_sI S t i k x).1 8 r 3 = S.1 8 r 3 := by
  rw [z_sI1, if_neg (fun q => h q.1.symm)]
theorem z_rm {S : z_Mem} {t i k j : Nat} {x : Int32} (h : t ≠ 12) : (z_sI S t i k x).1 12 0 j = S.1 12 0 j := by
  rw [z_sI1, if_neg (fun q => h q.1.symm)]
theorem s_isFull (d r c cap : Nat) (S : z_Mem) (hcap : z_rl r = cap) (h100 : cap ≤ 100) (hc : S.1 8 r 3 = nI c) (hle : c ≤ cap) : z_exe z_mt true (d + 1) 62 [.inr (.inr (8, r))] S = some (some (.inl (if c = cap then 1 else 0)), S) := by
  have e : z_exe z_mt true (d + 1) 62 [.inr (.inr (8, r))] S = _ := (zx_X8_isFull d S r).trans (ze_X8_isFull_0 _ _ _ _)
  rw [e, hcap, hc]
  by_cases q : c = cap
  · rw [if_pos q, if_neg (fun z => by rw [show Int32.ofNat cap = nI cap from rfl, nI_ltI (by omega) (by omega)] at z; omega)]
  · rw [if_neg q, if_pos (by rw [show Int32.ofNat cap = nI cap from rfl, nI_ltI (by omega) (by omega)]; omega)]
theorem s_append (d r c cap : Nat) (v1 v2 v3 : Int32) (S : z_Mem) (hcap : z_rl r = cap) (h100 : cap ≤ 100) (hc : S.1 8 r 3 = nI c) (hlt : c < cap) : z_exe z_mt true (d + 2) 63 [.inr (.inr (8, r)), .inl v1, .inl v2, .inl v3] S = some (some (.inl (nI (c + 1))), z_sI (z_sI (z_sI (z_sI S 31 r c v1) 32 r c v2) 33 r c v3) 8 r 3 (nI (c + 1))) := by
  have e : z_exe z_mt true (d + 2) 63 [.inr (.inr (8, r)), .inl v1, .inl v2, .inl v3] S = _ := (zx_X8_append (d + 1) S r v1 v2 v3).trans (ze_X8_append_0 _ _ _ _ _ _ _)
  rw [e, s_isFull d r c cap S hcap h100 hc (by omega), z_rI_s, if_neg (show ¬ c = cap by omega), if_pos rfl]
  simp only [z_r8 (t := 31) (by decide), z_r8 (t := 32) (by decide), z_r8 (t := 33) (by decide), hc, hcap, z_oob_n (k := c) (n := cap) hlt (by omega), z_cond_f, z_cl (k := c) (by omega), nI_1]
  rw [z_sI1, if_pos ⟨rfl, rfl, rfl⟩]
theorem c_see (S : z_Mem) (hR : z_RL S) (v1 v2 v3 : Int32) : z_both 94 193 [.inl v1, .inl v2, .inl v3] S := by
  obtain ⟨hts, hN, ⟨n, hr, h, c0, ht, wd, H, K, W, C, hA, hB⟩, hI, hT, hP, hAc⟩ := id hR
  obtain ⟨⟨hn, hhr, hwd, hH, hts6⟩, hh6⟩ := hA.1
  have hC := fun b hb => (hA.2.2 b hb).1.2.2
  have c7 : S.1 7 0 1 = nI n := hA.2.1.1.1
  have c12 : S.1 12 0 0 = nI n := hA.2.1.2.1
  obtain ⟨⟨c, x1, x2, x3, x4⟩, hB2, hB3⟩ := hB
  by_cases h0 : v1 = -1
  · refine ⟨.inl 0, z_sI S 8 0 3 0, z_sI (z_sI S 8 0 3 0) 12 0 42 0, ?_, ?_, ?_⟩
    · have e : z_exe z_mt true 40 94 [.inr (.inr (11, 0)), .inl v1, .inl v2, .inl v3] S = _ := (zx_X11_see 39 S 0 v1 v2 v3).trans (ze_X11_see_0 _ _ _ _ _ _ _)
      rw [e, if_pos h0]
    · have e : z_exe z_mt true 40 193 [.inr (.inr (12, 0)), .inl v1, .inl v2, .inl v3] (z_sI S 8 0 3 0) = _ := (zx_X12_see 39 (z_sI S 8 0 3 0) 0 v1 v2 v3).trans (ze_X12_see_0 _ _ _ _ _ _ _)
      rw [e, if_pos h0]
    · refine z_RL.rows hN hA hI hT hP hAc ((z_fx.sI (Or.inl ⟨rfl, by omega, rfl⟩)).tr (z_fx.sI (Or.inr (Or.inr (Or.inl ⟨rfl, rfl, Or.inl rfl⟩))))) ⟨⟨0, by omega, by simp [z_sI1]; rfl, by simp [z_sI1]; rfl, fun i hi => by omega⟩, ?_, ?_⟩
      · simp [z_sI1]; exact hB2
      · simp [z_sI1]; exact hB3
  by_cases h1 : 0 ≤ v1 ∧ v1 ≤ nI n - 1
  · obtain ⟨b, hb, rfl⟩ := z_isP_of hn h1
    by_cases h2 : 0 ≤ v2 ∧ v2 ≤ 99
    · by_cases h3 : 0 ≤ v3 ∧ v3 ≤ 20
      · by_cases h5 : c = 5
        · refine z_no (v := .inl (-4)) hR ?_ ?_
          · have e : z_exe z_mt true 40 94 [.inr (.inr (11, 0)), .inl (nI b), .inl v2, .inl v3] S = _ := (zx_X11_see 39 S 0 (nI b) v2 v3).trans (ze_X11_see_0 _ _ _ _ _ _ _)
            rw [e, if_neg h0, s_noPair 38 n _ S hn c7, z_rI_s, z_b1_F (fun z => z h1), if_pos rfl, s_outside, z_rI_s, z_b1_F (fun z => z h2), if_pos rfl, s_outside, z_rI_s, z_b1_F (fun z => z h3), if_pos rfl, s_isFull 38 0 c 5 S rfl (by omega) x2 x1, z_rI_s, if_pos h5, if_neg z_01n]
          · have e : z_exe z_mt true 40 193 [.inr (.inr (12, 0)), .inl (nI b), .inl v2, .inl v3] S = _ := (zx_X12_see 39 S 0 (nI b) v2 v3).trans (ze_X12_see_0 _ _ _ _ _ _ _)
            rw [e, if_neg h0, s_isPair 37 n _ S c12, z_rI_s, z_b1_T h1, if_neg z_01n, s_isWet, z_rI_s, z_b1_T h2, if_neg z_01n, s_in, z_rI_s, z_b1_T h3, if_neg z_01n, x3, h5, if_pos (by decide)]
        · obtain ⟨w, hw, rfl⟩ := z_rg (n := 99) (by omega) h2
          obtain ⟨k, hk, rfl⟩ := z_rg (n := 20) (by omega) h3
          obtain ⟨S1, hS1⟩ : ∃ S1, S1 = z_sI (z_sI (z_sI (z_sI S 31 0 c (nI b)) 32 0 c (nI w)) 33 0 c (nI k)) 8 0 3 (nI (c + 1)) := ⟨_, rfl⟩
          have e1 := s_append 37 0 c 5 (nI b) (nI w) (nI k) S rfl (by omega) x2 (by omega)
          rw [← hS1] at e1
          have f1 : z_fx (fun t i k => (t = 8 ∧ i = 0 ∧ k = 3) ∨ (31 ≤ t ∧ t ≤ 33 ∧ i = 0)) S S1 := by
            rw [hS1]
            exact (((z_fx.sI (Or.inr (by omega))).tr (z_fx.sI (Or.inr (by omega)))).tr (z_fx.sI (Or.inr (by omega)))).tr (z_fx.sI (Or.inl (by omega)))
          have g42 : S1.1 12 0 42 = nI c := by rw [f1.i (by omega)]; exact x3
          have g0 : S1.1 12 0 0 = nI n := by rw [f1.i (by omega)]; exact c12
          refine ⟨.inl (nI (c + 1)), S1, z_sI (z_sI (z_sI (z_sI S1 59 0 c (nI b)) 60 0 c (nI w)) 61 0 c (nI k)) 12 0 42 (nI (c + 1)), ?_, ?_, ?_⟩
          · have e : z_exe z_mt true 40 94 [.inr (.inr (11, 0)), .inl (nI b), .inl (nI w), .inl (nI k)] S = _ := (zx_X11_see 39 S 0 (nI b) (nI w) (nI k)).trans (ze_X11_see_0 _ _ _ _ _ _ _)
            rw [e, if_neg h0, s_noPair 38 n _ S hn c7, z_rI_s, z_b1_F (fun z => z h1), if_pos rfl, s_outside, z_rI_s, z_b1_F (fun z => z h2), if_pos rfl, s_outside, z_rI_s, z_b1_F (fun z => z h3), if_pos rfl, s_isFull 38 0 c 5 S rfl (by omega) x2 x1, z_rI_s, if_neg h5, if_pos rfl, e1, z_rI_s]
          · have e : z_exe z_mt true 40 193 [.inr (.inr (12, 0)), .inl (nI b), .inl (nI w), .inl (nI k)] S1 = _ := (zx_X12_see 39 S1 0 (nI b) (nI w) (nI k)).trans (ze_X12_see_0 _ _ _ _ _ _ _)
            have h5' : ¬ nI c = 5 := fun q => h5 ((nI_eq (b := 5) (by omega) (by omega)).mp q)
            rw [e, if_neg h0, s_isPair 37 n _ S1 g0, z_rI_s, z_b1_T h1, if_neg z_01n, s_isWet, z_rI_s, z_b1_T h2, if_neg z_01n, s_in, z_rI_s, z_b1_T h3, if_neg z_01n, g42, if_neg h5']
            simp only [z_rm (t := 59) (by decide), z_rm (t := 60) (by decide), z_rm (t := 61) (by decide), g42, z_oob_n (k := c) (n := 5) (by omega) (by omega), z_cond_f, z_cl (k := c) (by omega), nI_1]
            rw [z_sI1, if_pos ⟨rfl, rfl, rfl⟩]
          · have f2 : z_fx (fun t i k => (t = 12 ∧ i = 0 ∧ k = 42) ∨ (i = 0 ∧ 59 ≤ t ∧ t ≤ 61)) S1 (z_sI (z_sI (z_sI (z_sI S1 59 0 c (nI b)) 60 0 c (nI w)) 61 0 c (nI k)) 12 0 42 (nI (c + 1))) := (((z_fx.sI (Or.inr (by omega))).tr (z_fx.sI (Or.inr (by omega)))).tr (z_fx.sI (Or.inr (by omega)))).tr (z_fx.sI (Or.inl (by omega)))
            refine z_RL.rows hN hA hI hT hP hAc ((f1.wk (fun t i k q => by unfold z_FB; omega)).tr (f2.wk (fun t i k q => by unfold z_FB; omega))) ⟨⟨c + 1, by omega, ?_, ?_, fun i hi => ?_⟩, ?_, ?_⟩
            · rw [f2.i (by omega), hS1]; simp [z_sI1]
            · simp [z_sI1]
            · by_cases q : i = c
              · subst q
                refine ⟨⟨b, hb, ?_, ?_⟩, ⟨w, hw, ?_, ?_⟩, ⟨k, hk, ?_, ?_⟩⟩
                · rw [f2.i (by omega), hS1]; simp [z_sI1]
                · simp [z_sI1]
                · rw [f2.i (by omega), hS1]; simp [z_sI1]
                · simp [z_sI1]
                · rw [f2.i (by omega), hS1]; simp [z_sI1]
                · simp [z_sI1]
              · have := x4 i (by omega)
                simp [z_sI1, hS1, q]
                exact this
            · simp [z_sI1, hS1]; exact hB2
            · simp [z_sI1, hS1]; exact hB3
      · refine z_no (v := .inl (-2)) hR ?_ ?_
        · have e : z_exe z_mt true 40 94 [.inr (.inr (11, 0)), .inl (nI b), .inl v2, .inl v3] S = _ := (zx_X11_see 39 S 0 (nI b) v2 v3).trans (ze_X11_see_0 _ _ _ _ _ _ _)
          rw [e, if_neg h0, s_noPair 38 n _ S hn c7, z_rI_s, z_b1_F (fun z => z h1), if_pos rfl, s_outside, z_rI_s, z_b1_F (fun z => z h2), if_pos rfl, s_outside, z_rI_s, z_b1_T h3, if_neg z_01n]
        · have e : z_exe z_mt true 40 193 [.inr (.inr (12, 0)), .inl (nI b), .inl v2, .inl v3] S = _ := (zx_X12_see 39 S 0 (nI b) v2 v3).trans (ze_X12_see_0 _ _ _ _ _ _ _)
          rw [e, if_neg h0, s_isPair 37 n _ S c12, z_rI_s, z_b1_T h1, if_neg z_01n, s_isWet, z_rI_s, z_b1_T h2, if_neg z_01n, s_in, z_rI_s, z_b1_F h3, if_pos rfl]
    · refine z_no (v := .inl (-2)) hR ?_ ?_
      · have e : z_exe z_mt true 40 94 [.inr (.inr (11, 0)), .inl (nI b), .inl v2, .inl v3] S = _ := (zx_X11_see 39 S 0 (nI b) v2 v3).trans (ze_X11_see_0 _ _ _ _ _ _ _)
        rw [e, if_neg h0, s_noPair 38 n _ S hn c7, z_rI_s, z_b1_F (fun z => z h1), if_pos rfl, s_outside, z_rI_s, z_b1_T h2, if_neg z_01n]
      · have e : z_exe z_mt true 40 193 [.inr (.inr (12, 0)), .inl (nI b), .inl v2, .inl v3] S = _ := (zx_X12_see 39 S 0 (nI b) v2 v3).trans (ze_X12_see_0 _ _ _ _ _ _ _)
        rw [e, if_neg h0, s_isPair 37 n _ S c12, z_rI_s, z_b1_T h1, if_neg z_01n, s_isWet, z_rI_s, z_b1_F h2, if_pos rfl]
  · refine z_no (v := .inl (-1)) hR ?_ ?_
    · have e : z_exe z_mt true 40 94 [.inr (.inr (11, 0)), .inl v1, .inl v2, .inl v3] S = _ := (zx_X11_see 39 S 0 v1 v2 v3).trans (ze_X11_see_0 _ _ _ _ _ _ _)
      rw [e, if_neg h0, s_noPair 38 n _ S hn c7, z_rI_s, z_b1_T h1, if_neg z_01n]
    · have e : z_exe z_mt true 40 193 [.inr (.inr (12, 0)), .inl v1, .inl v2, .inl v3] S = _ := (zx_X12_see 39 S 0 v1 v2 v3).trans (ze_X12_see_0 _ _ _ _ _ _ _)
      rw [e, if_neg h0, s_isPair 37 n _ S c12, z_rI_s, z_b1_F h1, if_pos rfl]
theorem c_book (S : z_Mem) (hR : z_RL S) (v1 v2 : Int32) : z_both 102 205 [.inl v1, .inl v2] S := by
  obtain ⟨hts, hN, ⟨n, hr, h, c0, ht, wd, H, K, W, C, hA, hB⟩, hI, hT, hP, hAc⟩ := id hR
  obtain ⟨⟨hn, hhr, hwd, hH, hts6⟩, hh6⟩ := hA.1
  have hC := fun b hb => (hA.2.2 b hb).1.2.2
  have c7 : S.1 7 0 1 = nI n := hA.2.1.1.1
  have c12 : S.1 12 0 0 = nI n := hA.2.1.2.1
  obtain ⟨hB1, hB2, ⟨c, x1, x2, x3, x4⟩⟩ := hB
  by_cases h0 : v1 = -1
  · refine ⟨.inl 0, z_sI S 8 2 3 0, z_sI (z_sI S 8 2 3 0) 12 0 48 0, ?_, ?_, ?_⟩
    · have e : z_exe z_mt true 40 102 [.inr (.inr (11, 0)), .inl v1, .inl v2] S = _ := (zx_X11_book 39 S 0 v1 v2).trans (ze_X11_book_0 _ _ _ _ _ _)
      rw [e, if_pos h0]
    · have e : z_exe z_mt true 40 205 [.inr (.inr (12, 0)), .inl v1, .inl v2] (z_sI S 8 2 3 0) = _ := (zx_X12_book 39 (z_sI S 8 2 3 0) 0 v1 v2).trans (ze_X12_book_0 _ _ _ _ _ _)
      rw [e, if_pos h0]
    · refine z_RL.rows hN hA hI hT hP hAc ((z_fx.sI (Or.inl ⟨rfl, by omega, rfl⟩)).tr (z_fx.sI (Or.inr (Or.inr (Or.inl ⟨rfl, rfl, Or.inr (Or.inr rfl)⟩))))) ⟨?_, ?_, ⟨0, by omega, by simp [z_sI1]; rfl, by simp [z_sI1]; rfl, fun i hi => by omega⟩⟩
      · simp [z_sI1]; exact hB1
      · simp [z_sI1]; exact hB2
  by_cases h1 : 0 ≤ v1 ∧ v1 ≤ nI n - 1
  · obtain ⟨b, hb, rfl⟩ := z_isP_of hn h1
    by_cases h2 : 0 ≤ v2 ∧ v2 ≤ 99
    · by_cases h5 : c = 8
      · refine z_no (v := .inl (-4)) hR ?_ ?_
        · have e : z_exe z_mt true 40 102 [.inr (.inr (11, 0)), .inl (nI b), .inl v2] S = _ := (zx_X11_book 39 S 0 (nI b) v2).trans (ze_X11_book_0 _ _ _ _ _ _)
          rw [e, if_neg h0, s_noPair 38 n _ S hn c7, z_rI_s, z_b1_F (fun z => z h1), if_pos rfl, s_outside, z_rI_s, z_b1_F (fun z => z h2), if_pos rfl, s_isFull 38 2 c 8 S rfl (by omega) x2 x1, z_rI_s, if_pos h5, if_neg z_01n]
        · have e : z_exe z_mt true 40 205 [.inr (.inr (12, 0)), .inl (nI b), .inl v2] S = _ := (zx_X12_book 39 S 0 (nI b) v2).trans (ze_X12_book_0 _ _ _ _ _ _)
          rw [e, if_neg h0, s_isPair 37 n _ S c12, z_rI_s, z_b1_T h1, if_neg z_01n, s_isWet, z_rI_s, z_b1_T h2, if_neg z_01n, x3, h5, if_pos (by decide)]
      · obtain ⟨S1, hS1⟩ : ∃ S1, S1 = z_sI (z_sI (z_sI (z_sI S 31 2 c (nI b)) 32 2 c v2) 33 2 c 0) 8 2 3 (nI (c + 1)) := ⟨_, rfl⟩
        have e1 := s_append 37 2 c 8 (nI b) v2 0 S rfl (by omega) x2 (by omega)
        rw [← hS1] at e1
        have f1 : z_fx (fun t i k => (t = 8 ∧ i = 2 ∧ k = 3) ∨ (31 ≤ t ∧ t ≤ 33 ∧ i = 2)) S S1 := by
          rw [hS1]
          exact (((z_fx.sI (Or.inr (by omega))).tr (z_fx.sI (Or.inr (by omega)))).tr (z_fx.sI (Or.inr (by omega)))).tr (z_fx.sI (Or.inl (by omega)))
        have g42 : S1.1 12 0 48 = nI c := by rw [f1.i (by omega)]; exact x3
        have g0 : S1.1 12 0 0 = nI n := by rw [f1.i (by omega)]; exact c12
        refine ⟨.inl (nI (c + 1)), S1, z_sI (z_sI (z_sI S1 65 0 c (nI b)) 66 0 c v2) 12 0 48 (nI (c + 1)), ?_, ?_, ?_⟩
        · have e : z_exe z_mt true 40 102 [.inr (.inr (11, 0)), .inl (nI b), .inl v2] S = _ := (zx_X11_book 39 S 0 (nI b) v2).trans (ze_X11_book_0 _ _ _ _ _ _)
          rw [e, if_neg h0, s_noPair 38 n _ S hn c7, z_rI_s, z_b1_F (fun z => z h1), if_pos rfl, s_outside, z_rI_s, z_b1_F (fun z => z h2), if_pos rfl, s_isFull 38 2 c 8 S rfl (by omega) x2 x1, z_rI_s, if_neg h5, if_pos rfl, e1, z_rI_s]
        · have e : z_exe z_mt true 40 205 [.inr (.inr (12, 0)), .inl (nI b), .inl v2] S1 = _ := (zx_X12_book 39 S1 0 (nI b) v2).trans (ze_X12_book_0 _ _ _ _ _ _)
          have h5' : ¬ nI c = 8 := fun q => h5 ((nI_eq (b := 8) (by omega) (by omega)).mp q)
          rw [e, if_neg h0, s_isPair 37 n _ S1 g0, z_rI_s, z_b1_T h1, if_neg z_01n, s_isWet, z_rI_s, z_b1_T h2, if_neg z_01n, g42, if_neg h5']
          simp only [z_rm (t := 65) (by decide), z_rm (t := 66) (by decide), g42, z_oob_n (k := c) (n := 8) (by omega) (by omega), z_cond_f, z_cl (k := c) (by omega), nI_1]
          rw [z_sI1, if_pos ⟨rfl, rfl, rfl⟩]
        · have f2 : z_fx (fun t i k => (t = 12 ∧ i = 0 ∧ k = 48) ∨ (i = 0 ∧ 65 ≤ t ∧ t ≤ 66)) S1 (z_sI (z_sI (z_sI S1 65 0 c (nI b)) 66 0 c v2) 12 0 48 (nI (c + 1))) := ((z_fx.sI (Or.inr (by omega))).tr (z_fx.sI (Or.inr (by omega)))).tr (z_fx.sI (Or.inl (by omega)))
          refine z_RL.rows hN hA hI hT hP hAc ((f1.wk (fun t i k q => by unfold z_FB; omega)).tr (f2.wk (fun t i k q => by unfold z_FB; omega))) ⟨?_, ?_, ⟨c + 1, by omega, ?_, ?_, fun i hi => ?_⟩⟩
          · simp [z_sI1, hS1]; exact hB1
          · simp [z_sI1, hS1]; exact hB2
          · rw [f2.i (by omega), hS1]; simp [z_sI1]
          · simp [z_sI1]
          · by_cases q : i = c
            · subst q
              refine ⟨⟨b, hb, ?_, ?_⟩, ?_⟩
              · rw [f2.i (by omega), hS1]; simp [z_sI1]
              · simp [z_sI1]
              · rw [f2.i (by omega), hS1]; simp [z_sI1]
            · have := x4 i (by omega)
              simp [z_sI1, hS1, q]
              exact this
    · refine z_no (v := .inl (-2)) hR ?_ ?_
      · have e : z_exe z_mt true 40 102 [.inr (.inr (11, 0)), .inl (nI b), .inl v2] S = _ := (zx_X11_book 39 S 0 (nI b) v2).trans (ze_X11_book_0 _ _ _ _ _ _)
        rw [e, if_neg h0, s_noPair 38 n _ S hn c7, z_rI_s, z_b1_F (fun z => z h1), if_pos rfl, s_outside, z_rI_s, z_b1_T h2, if_neg z_01n]
      · have e : z_exe z_mt true 40 205 [.inr (.inr (12, 0)), .inl (nI b), .inl v2] S = _ := (zx_X12_book 39 S 0 (nI b) v2).trans (ze_X12_book_0 _ _ _ _ _ _)
        rw [e, if_neg h0, s_isPair 37 n _ S c12, z_rI_s, z_b1_T h1, if_neg z_01n, s_isWet, z_rI_s, z_b1_F h2, if_pos rfl]
  · refine z_no (v := .inl (-1)) hR ?_ ?_
    · have e : z_exe z_mt true 40 102 [.inr (.inr (11, 0)), .inl v1, .inl v2] S = _ := (zx_X11_book 39 S 0 v1 v2).trans (ze_X11_book_0 _ _ _ _ _ _)
      rw [e, if_neg h0, s_noPair 38 n _ S hn c7, z_rI_s, z_b1_T h1, if_neg z_01n]
    · have e : z_exe z_mt true 40 205 [.inr (.inr (12, 0)), .inl v1, .inl v2] S = _ := (zx_X12_book 39 S 0 v1 v2).trans (ze_X12_book_0 _ _ _ _ _ _)
      rw [e, if_neg h0, s_isPair 37 n _ S c12, z_rI_s, z_b1_F h1, if_pos rfl]
theorem c_rota (S : z_Mem) (hR : z_RL S) (v1 v2 : Int32) : z_both 100 202 [.inl v1, .inl v2] S := by
  obtain ⟨hts, hN, ⟨n, hr, h, c0, ht, wd, H, K, W, C, hA, hB⟩, hI, hT, hP, hAc⟩ := id hR
  obtain ⟨⟨hn, hhr, hwd, hH, hts6⟩, hh6⟩ := hA.1
  have hC := fun b hb => (hA.2.2 b hb).1.2.2
  have c7 : S.1 7 0 1 = nI n := hA.2.1.1.1
  have c12 : S.1 12 0 0 = nI n := hA.2.1.2.1
  obtain ⟨hB1, ⟨c, x1, x2, x3, x4⟩, hB3⟩ := hB
  by_cases h0 : v1 = -1
  · refine ⟨.inl 0, z_sI S 8 1 3 0, z_sI (z_sI S 8 1 3 0) 12 0 47 0, ?_, ?_, ?_⟩
    · have e : z_exe z_mt true 40 100 [.inr (.inr (11, 0)), .inl v1, .inl v2] S = _ := (zx_X11_rota 39 S 0 v1 v2).trans (ze_X11_rota_0 _ _ _ _ _ _)
      rw [e, if_pos h0]
    · have e : z_exe z_mt true 40 202 [.inr (.inr (12, 0)), .inl v1, .inl v2] (z_sI S 8 1 3 0) = _ := (zx_X12_rota 39 (z_sI S 8 1 3 0) 0 v1 v2).trans (ze_X12_rota_0 _ _ _ _ _ _)
      rw [e, if_pos h0]
    · refine z_RL.rows hN hA hI hT hP hAc ((z_fx.sI (Or.inl ⟨rfl, by omega, rfl⟩)).tr (z_fx.sI (Or.inr (Or.inr (Or.inl ⟨rfl, rfl, Or.inr (Or.inl rfl)⟩))))) ⟨?_, ⟨0, by omega, by simp [z_sI1]; rfl, by simp [z_sI1]; rfl, fun i hi => by omega⟩, ?_⟩
      · simp [z_sI1]; exact hB1
      · simp [z_sI1]; exact hB3
  by_cases h1 : 0 ≤ v1 ∧ v1 ≤ 3
  · obtain ⟨w, hw, rfl⟩ := z_rg (n := 3) (by omega) h1
    -- the append, on both sides
    have go : ∀ x : Int32, c ≠ 10 → (2 ≤ w → ∃ b : Nat, b < n ∧ x = nI b) → (∀ S1, z_exe z_mt true 39 63 [.inr (.inr (8, 1)), .inl (nI w), .inl x, .inl 0] S = some (some (.inl (nI (c + 1))), S1) → z_exe z_mt true 40 100 [.inr (.inr (11, 0)), .inl (nI w), .inl v2] S = some (some (.inl (nI (c + 1))), S1)) →
        (∀ S1, S1.1 12 0 0 = nI n → S1.1 12 0 47 = nI c → z_exe z_mt true 40 202 [.inr (.inr (12, 0)), .inl (nI w), .inl v2] S1 = some (some (.inl (nI (c + 1))), z_sI (z_sI (z_sI S1 63 0 c (nI w)) 64 0 c x) 12 0 47 (nI (c + 1)))) → z_both 100 202 [.inl (nI w), .inl v2] S := by
      intro x hc10 hx hcl hml
      obtain ⟨S1, hS1⟩ : ∃ S1, S1 = z_sI (z_sI (z_sI (z_sI S 31 1 c (nI w)) 32 1 c x) 33 1 c 0) 8 1 3 (nI (c + 1)) := ⟨_, rfl⟩
      have e1 := s_append 37 1 c 10 (nI w) x 0 S rfl (by omega) x2 (by omega)
      rw [← hS1] at e1
      have f1 : z_fx (fun t i k => (t = 8 ∧ i = 1 ∧ k = 3) ∨ (31 ≤ t ∧ t ≤ 33 ∧ i = 1)) S S1 := by
        rw [hS1]
        exact (((z_fx.sI (Or.inr (by omega))).tr (z_fx.sI (Or.inr (by omega)))).tr (z_fx.sI (Or.inr (by omega)))).tr (z_fx.sI (Or.inl (by omega)))
      have g42 : S1.1 12 0 47 = nI c := by rw [f1.i (by omega)]; exact x3
      have g0 : S1.1 12 0 0 = nI n := by rw [f1.i (by omega)]; exact c12
      refine ⟨.inl (nI (c + 1)), S1, _, hcl S1 e1, hml S1 g0 g42, ?_⟩
      have f2 : z_fx (fun t i k => (t = 12 ∧ i = 0 ∧ k = 47) ∨ (i = 0 ∧ 63 ≤ t ∧ t ≤ 64)) S1 (z_sI (z_sI (z_sI S1 63 0 c (nI w)) 64 0 c x) 12 0 47 (nI (c + 1))) := ((z_fx.sI (Or.inr (by omega))).tr (z_fx.sI (Or.inr (by omega)))).tr (z_fx.sI (Or.inl (by omega)))
      refine z_RL.rows hN hA hI hT hP hAc ((f1.wk (fun t i k q => by unfold z_FB; omega)).tr (f2.wk (fun t i k q => by unfold z_FB; omega))) ⟨?_, ⟨c + 1, by omega, ?_, ?_, fun i hi => ?_⟩, ?_⟩
      · simp [z_sI1, hS1]; exact hB1
      · rw [f2.i (by omega), hS1]; simp [z_sI1]
      · simp [z_sI1]
      · by_cases q : i = c
        · subst q
          refine ⟨⟨?_, ?_⟩, ⟨w, hw, ?_, fun z => ?_⟩⟩
          · rw [f2.i (by omega), hS1]; simp [z_sI1]
          · rw [f2.i (by omega), hS1]; simp [z_sI1]
          · simp [z_sI1]
          · obtain ⟨b, hb, eb⟩ := hx z
            exact ⟨b, hb, by simp [z_sI1, eb]⟩
        · have := x4 i (by omega)
          simp [z_sI1, hS1, q]
          exact this
      · simp [z_sI1, hS1]; exact hB3
    have h10 : c ≠ 10 → ¬ nI c = 10 := fun h q => h ((nI_eq (b := 10) (by omega) (by omega)).mp q)
    by_cases hw1 : w ≤ 1
    · have q2 : ¬ nI w = 2 := by rw [show (2 : Int32) = nI 2 from rfl, nI_eq (by omega) (by omega)]; omega
      have q3 : ¬ nI w = 3 := by rw [show (3 : Int32) = nI 3 from rfl, nI_eq (by omega) (by omega)]; omega
      have q1 : nI w ≤ 1 := by rw [show (1 : Int32) = nI 1 from rfl, nI_leI (by omega) (by omega)]; exact hw1
      by_cases h5 : c = 10
      · refine z_no (v := .inl (-4)) hR ?_ ?_
        · have e : z_exe z_mt true 40 100 [.inr (.inr (11, 0)), .inl (nI w), .inl v2] S = _ := (zx_X11_rota 39 S 0 (nI w) v2).trans (ze_X11_rota_0 _ _ _ _ _ _)
          rw [e, if_neg h0, s_outside, z_rI_s, z_b1_F (fun z => z h1), if_pos rfl, if_neg q2, if_neg q3, if_pos rfl, s_isFull 38 1 c 10 S rfl (by omega) x2 x1, z_rI_s, if_pos h5, if_neg z_01n]
        · have e : z_exe z_mt true 40 202 [.inr (.inr (12, 0)), .inl (nI w), .inl v2] S = _ := (zx_X12_rota 39 S 0 (nI w) v2).trans (ze_X12_rota_0 _ _ _ _ _ _)
          rw [e, if_neg h0, s_in, z_rI_s, z_b1_T h1, if_neg z_01n, if_pos q1, x3, h5, if_pos (by decide)]
      · refine go 0 h5 (fun z => by omega) (fun S1 e1 => ?_) (fun S1 g0 g47 => ?_)
        · have e : z_exe z_mt true 40 100 [.inr (.inr (11, 0)), .inl (nI w), .inl v2] S = _ := (zx_X11_rota 39 S 0 (nI w) v2).trans (ze_X11_rota_0 _ _ _ _ _ _)
          rw [e, if_neg h0, s_outside, z_rI_s, z_b1_F (fun z => z h1), if_pos rfl, if_neg q2, if_neg q3, if_pos rfl, s_isFull 38 1 c 10 S rfl (by omega) x2 x1, z_rI_s, if_neg h5, if_pos rfl, if_pos rfl, e1, z_rI_s]
        · have e : z_exe z_mt true 40 202 [.inr (.inr (12, 0)), .inl (nI w), .inl v2] S1 = _ := (zx_X12_rota 39 S1 0 (nI w) v2).trans (ze_X12_rota_0 _ _ _ _ _ _)
          rw [e, if_neg h0, s_in, z_rI_s, z_b1_T h1, if_neg z_01n, if_pos q1, g47, if_neg (h10 h5), if_pos q1]
          simp only [z_rm (t := 63) (by decide), z_rm (t := 64) (by decide), g47, z_oob_n (k := c) (n := 10) (by omega) (by omega), z_cond_f, z_cl (k := c) (by omega), nI_1]
          rw [z_sI1, if_pos ⟨rfl, rfl, rfl⟩]
    · have q1 : ¬ nI w ≤ 1 := by rw [show (1 : Int32) = nI 1 from rfl, nI_leI (by omega) (by omega)]; exact hw1
      have hw23 : w = 2 ∨ w = 3 := by omega
      by_cases hp : 0 ≤ v2 ∧ v2 ≤ nI n - 1
      · by_cases h5 : c = 10
        · refine z_no (v := .inl (-4)) hR ?_ ?_
          · have e : z_exe z_mt true 40 100 [.inr (.inr (11, 0)), .inl (nI w), .inl v2] S = _ := (zx_X11_rota 39 S 0 (nI w) v2).trans (ze_X11_rota_0 _ _ _ _ _ _)
            rcases hw23 with rfl | rfl
            · rw [e, if_neg h0, s_outside, z_rI_s, z_b1_F (fun z => z h1), if_pos rfl, if_pos (by decide), if_neg z_01n, s_noPair 38 n _ S hn c7, z_rI_s, z_b1_F (fun z => z hp), if_pos rfl, s_isFull 38 1 c 10 S rfl (by omega) x2 x1, z_rI_s, if_pos h5, if_neg z_01n]
            · rw [e, if_neg h0, s_outside, z_rI_s, z_b1_F (fun z => z h1), if_pos rfl, if_neg (by decide), if_pos (by decide), if_neg z_01n, s_noPair 38 n _ S hn c7, z_rI_s, z_b1_F (fun z => z hp), if_pos rfl, s_isFull 38 1 c 10 S rfl (by omega) x2 x1, z_rI_s, if_pos h5, if_neg z_01n]
          · have e : z_exe z_mt true 40 202 [.inr (.inr (12, 0)), .inl (nI w), .inl v2] S = _ := (zx_X12_rota 39 S 0 (nI w) v2).trans (ze_X12_rota_0 _ _ _ _ _ _)
            rw [e, if_neg h0, s_in, z_rI_s, z_b1_T h1, if_neg z_01n, if_neg q1, s_isPair 37 n _ S c12, z_rI_s, z_b1_T hp, if_neg z_01n, x3, h5, if_pos (by decide)]
        · refine go v2 h5 (fun z => z_isP_of hn hp) (fun S1 e1 => ?_) (fun S1 g0 g47 => ?_)
          · have e : z_exe z_mt true 40 100 [.inr (.inr (11, 0)), .inl (nI w), .inl v2] S = _ := (zx_X11_rota 39 S 0 (nI w) v2).trans (ze_X11_rota_0 _ _ _ _ _ _)
            rcases hw23 with rfl | rfl
            · rw [e, if_neg h0, s_outside, z_rI_s, z_b1_F (fun z => z h1), if_pos rfl, if_pos (by decide), if_neg z_01n, s_noPair 38 n _ S hn c7, z_rI_s, z_b1_F (fun z => z hp), if_pos rfl, s_isFull 38 1 c 10 S rfl (by omega) x2 x1, z_rI_s, if_neg h5, if_pos rfl, if_neg z_01n, e1, z_rI_s]
            · rw [e, if_neg h0, s_outside, z_rI_s, z_b1_F (fun z => z h1), if_pos rfl, if_neg (by decide), if_pos (by decide), if_neg z_01n, s_noPair 38 n _ S hn c7, z_rI_s, z_b1_F (fun z => z hp), if_pos rfl, s_isFull 38 1 c 10 S rfl (by omega) x2 x1, z_rI_s, if_neg h5, if_pos rfl, if_neg z_01n, e1, z_rI_s]
          · have e : z_exe z_mt true 40 202 [.inr (.inr (12, 0)), .inl (nI w), .inl v2] S1 = _ := (zx_X12_rota 39 S1 0 (nI w) v2).trans (ze_X12_rota_0 _ _ _ _ _ _)
            rw [e, if_neg h0, s_in, z_rI_s, z_b1_T h1, if_neg z_01n, if_neg q1, s_isPair 37 n _ S1 g0, z_rI_s, z_b1_T hp, if_neg z_01n, g47, if_neg (h10 h5), if_neg q1]
            simp only [z_rm (t := 63) (by decide), z_rm (t := 64) (by decide), g47, z_oob_n (k := c) (n := 10) (by omega) (by omega), z_cond_f, z_cl (k := c) (by omega), nI_1]
            rw [z_sI1, if_pos ⟨rfl, rfl, rfl⟩]
      · refine z_no (v := .inl (-1)) hR ?_ ?_
        · have e : z_exe z_mt true 40 100 [.inr (.inr (11, 0)), .inl (nI w), .inl v2] S = _ := (zx_X11_rota 39 S 0 (nI w) v2).trans (ze_X11_rota_0 _ _ _ _ _ _)
          rcases hw23 with rfl | rfl
          · rw [e, if_neg h0, s_outside, z_rI_s, z_b1_F (fun z => z h1), if_pos rfl, if_pos (by decide), if_neg z_01n, s_noPair 38 n _ S hn c7, z_rI_s, z_b1_T hp, if_neg z_01n]
          · rw [e, if_neg h0, s_outside, z_rI_s, z_b1_F (fun z => z h1), if_pos rfl, if_neg (by decide), if_pos (by decide), if_neg z_01n, s_noPair 38 n _ S hn c7, z_rI_s, z_b1_T hp, if_neg z_01n]
        · have e : z_exe z_mt true 40 202 [.inr (.inr (12, 0)), .inl (nI w), .inl v2] S = _ := (zx_X12_rota 39 S 0 (nI w) v2).trans (ze_X12_rota_0 _ _ _ _ _ _)
          rw [e, if_neg h0, s_in, z_rI_s, z_b1_T h1, if_neg z_01n, if_neg q1, s_isPair 37 n _ S c12, z_rI_s, z_b1_F hp, if_pos rfl]
  · refine z_no (v := .inl (-1)) hR ?_ ?_
    · have e : z_exe z_mt true 40 100 [.inr (.inr (11, 0)), .inl v1, .inl v2] S = _ := (zx_X11_rota 39 S 0 v1 v2).trans (ze_X11_rota_0 _ _ _ _ _ _)
      rw [e, if_neg h0, s_outside, z_rI_s, z_b1_T h1, if_neg z_01n]
    · have e : z_exe z_mt true 40 202 [.inr (.inr (12, 0)), .inl v1, .inl v2] S = _ := (zx_X12_rota 39 S 0 v1 v2).trans (ze_X12_rota_0 _ _ _ _ _ _)
      rw [e, if_neg h0, s_in, z_rI_s, z_b1_F h1, if_pos rfl]
