/-! ===== one pair is changed ===== -/
def z_P1b (b : Nat) (t i k : Nat) : Prop := ((t = 2 ∨ t = 21) ∧ i = b) ∨ (i = 0 ∧ ((37 ≤ t ∧ t ≤ 41 ∧ k = b) ∨ (t = 42 ∧ 4 * b ≤ k ∧ k < 4 * b + 4)))
theorem z_km_cg2 {b : Nat} {S S' : z_Mem} (h1 : S'.1 37 0 b = S.1 37 0 b) (h2 : S'.1 38 0 b = S.1 38 0 b) (h3 : S'.1 40 0 b = S.1 40 0 b) (h4 : S'.1 12 0 1 = S.1 12 0 1) (h5 : ∀ k, k < 4 → S'.1 42 0 (4 * b + k) = S.1 42 0 (4 * b + k)) : z_km b S' = z_km b S := by
  unfold z_km
  rw [h1, h2, h3, h4]
  have : (fun k => if k < 4 then S'.1 42 0 (4 * b + k) else 0) = (fun k => if k < 4 then S.1 42 0 (4 * b + k) else 0) := by
    funext k
    by_cases q : k < 4
    · rw [if_pos q, if_pos q, h5 k q]
    · rw [if_neg q, if_neg q]
  rw [this]
theorem z_LA.one {hts n hr h c0 : Nat} {ht wd : Int32} {H : z_H} {K : Nat → z_K} {W C : Nat → Int32} {S S' : z_Mem} (hL : z_LA hts n hr h c0 ht wd H K W C S) {b : Nat} (hbn : b < n) (hf : z_fx (z_P1b b) S S') {K1 : z_K} {w1 c1 : Int32} (hnb : S'.1 2 b 0 = nI b)
    (hok : z_Kok b K1 ∧ (∃ w : Nat, w ≤ 99 ∧ w1 = nI w) ∧ ∃ c : Nat, c ≤ hr ∧ c1 = nI c) (hc : z_kc b S' = K1 ∧ S'.1 2 b 5 &&& 1 = S'.1 2 b 5 ∧ S'.1 2 b 3 = w1 ∧ S'.1 2 b 6 = c1) (hm : z_km b S' = K1 ∧ S'.1 39 0 b = w1 ∧ S'.1 41 0 b = c1) :
    z_LA hts n hr h c0 ht wd H (fun b' => if b' = b then K1 else K b') (fun b' => if b' = b then w1 else W b') (fun b' => if b' = b then c1 else C b') S' := by
  have hn : n ≤ 6 := hL.1.1.1
  refine hL.pr (fun t i k q => hf.i (by unfold z_FN at q; unfold z_P1b; omega)) (by rw [hf.r (by unfold z_P1b; omega)]) (fun b' hb' => ?_) (fun b' hb' => ?_)
  · by_cases e : b' = b
    · rw [e]; exact hnb
    · rw [hf.i (by unfold z_P1b; omega)]
      exact hL.2.1.1.2.2.2.2.2.2 b' hb'
  · by_cases e : b' = b
    · subst e
      try dsimp only
      rw [if_pos rfl, if_pos rfl, if_pos rfl]
      exact ⟨hok, hc, hm⟩
    · try dsimp only
      rw [if_neg e, if_neg e, if_neg e]
      obtain ⟨o1, ⟨p1, p2, p3, p4⟩, q1, q2, q3⟩ := hL.2.2 b' hb'
      have e2 : ∀ k, S'.1 2 b' k = S.1 2 b' k := fun k => hf.i (by unfold z_P1b; omega)
      refine ⟨o1, ⟨(z_kc_cg (fun k _ _ => e2 k) (fun k => hf.i (by unfold z_P1b; omega))).trans p1, by rw [e2]; exact p2, by rw [e2]; exact p3, by rw [e2]; exact p4⟩, ?_, (hf.i (by unfold z_P1b; omega)).trans q2, (hf.i (by unfold z_P1b; omega)).trans q3⟩
      exact (z_km_cg2 (hf.i (by unfold z_P1b; omega)) (hf.i (by unfold z_P1b; omega)) (hf.i (by unfold z_P1b; omega)) (hf.i (by unfold z_P1b; omega)) (fun k hk => hf.i (by unfold z_P1b; omega))).trans q1
theorem z_P1b_Rw {b : Nat} (hb : b < 6) : ∀ t i k, z_P1b b t i k → z_Rw t i k := by
  intro t i k q
  rcases q with ⟨h1, h2⟩ | ⟨h1, h2⟩
  · exact Or.inr (Or.inr (Or.inr (Or.inl ⟨h1, by omega⟩)))
  · exact Or.inr (Or.inr (Or.inr (Or.inr (Or.inr ⟨h1, by omega, by omega⟩))))
/-- refusals: nothing is written -/
theorem z_no {mc mm : Nat} {args : List z_AV} {S : z_Mem} {v : z_AV} (hR : z_RL S) (h1 : z_exe z_mt true 40 mc (.inr (.inr (11, 0)) :: args) S = some (some v, S)) (h2 : z_exe z_mt true 40 mm (.inr (.inr (12, 0)) :: args) S = some (some v, S)) : z_both mc mm args S := ⟨v, S, S, h1, h2, hR⟩
theorem c_wet (S : z_Mem) (hR : z_RL S) (v1 v2 : Int32) : z_both 78 135 [.inl v1, .inl v2] S := by
  obtain ⟨hts, hN, ⟨n, hr, h, c0, ht, wd, H, K, W, C, hA, hB⟩, hI, hT, hP, hAc⟩ := id hR
  obtain ⟨⟨hn, hhr, hwd, hH, hts6⟩, hh6⟩ := hA.1
  have hC := fun b hb => (hA.2.2 b hb).1.2.2
  have c7 : S.1 7 0 1 = nI n := hA.2.1.1.1
  have c12 : S.1 12 0 0 = nI n := hA.2.1.2.1
  by_cases h1 : 0 ≤ v1 ∧ v1 ≤ nI n - 1
  · obtain ⟨b, hb, rfl⟩ := z_isP_of hn h1
    by_cases h2 : 0 ≤ v2 ∧ v2 ≤ 99
    · obtain ⟨w, hw, rfl⟩ := z_rg (n := 99) (by omega) h2
      obtain ⟨⟨o1, o2, o3⟩, ⟨p1, p2, p3, p4⟩, q1, q2, q3⟩ := hA.2.2 b hb
      refine ⟨.inl (W b), z_sI S 2 b 3 (nI w), z_sI (z_sI S 2 b 3 (nI w)) 39 0 b (nI w), ?_, ?_, ?_⟩
      · have e : z_exe z_mt true 40 78 [.inr (.inr (11, 0)), .inl (nI b), .inl (nI w)] S = _ := (zx_X11_wet 39 S 0 (nI b) (nI w)).trans (ze_X11_wet_0 _ _ _ _ _ _)
        rw [e, s_noPair 38 n _ S hn c7, z_rI_s, z_b1_F (fun z => z h1), if_pos rfl, s_outside, z_rI_s, z_b1_F (fun z => z h2), if_pos rfl, z_oob_n (k := b) (by omega) (by omega), z_cl (k := b) (by omega), z_60, p3]
        rfl
      · have e : z_exe z_mt true 40 135 [.inr (.inr (12, 0)), .inl (nI b), .inl (nI w)] (z_sI S 2 b 3 (nI w)) = _ := (zx_X12_wet 39 (z_sI S 2 b 3 (nI w)) 0 (nI b) (nI w)).trans (ze_X12_wet_0 _ _ _ _ _ _)
        have g : (z_sI S 2 b 3 (nI w)).1 39 0 b = W b := by rw [z_sI1, if_neg (fun q => absurd q.1 (by decide)), q2]
        rw [e, s_isPair 37 n _ (z_sI S 2 b 3 (nI w)) c12, z_rI_s, z_b1_T h1, if_neg z_01n, s_isWet, z_rI_s, z_b1_T h2, if_neg z_01n, z_oob_n (k := b) (by omega) (by omega), z_cl (k := b) (by omega), g]
        rfl
      · have hf : z_fx (z_P1b b) S (z_sI (z_sI S 2 b 3 (nI w)) 39 0 b (nI w)) := (z_fx.sI (Or.inl ⟨Or.inl rfl, rfl⟩)).tr (z_fx.sI (Or.inr ⟨rfl, Or.inl ⟨by omega, by omega, rfl⟩⟩))
        refine z_RL.room hN hB hI hT hP hAc hf (z_P1b_Rw (by omega)) (hA.one hb hf (K1 := K b) (w1 := nI w) (c1 := C b) (by simp [z_sI1]; exact hA.2.1.1.2.2.2.2.2.2 b (by omega)) ⟨o1, ⟨w, hw, rfl⟩, o3⟩ ⟨?_, ?_, ?_, ?_⟩ ⟨?_, ?_, ?_⟩) (Nat.le_refl _)
        · rw [← p1]; unfold z_kc; simp [z_sI1]
        · simp [z_sI1, p2]
        · simp [z_sI1]
        · simp [z_sI1, p4]
        · rw [← q1]; unfold z_km; simp [z_sI1]
        · simp [z_sI1]
        · simp [z_sI1, q3]
    · refine z_no (v := .inl (-2)) hR ?_ ?_
      · have e : z_exe z_mt true 40 78 [.inr (.inr (11, 0)), .inl (nI b), .inl v2] S = _ := (zx_X11_wet 39 S 0 (nI b) v2).trans (ze_X11_wet_0 _ _ _ _ _ _)
        rw [e, s_noPair 38 n _ S hn c7, z_rI_s, z_b1_F (fun z => z h1), if_pos rfl, s_outside, z_rI_s, z_b1_T h2, if_neg z_01n]
      · have e : z_exe z_mt true 40 135 [.inr (.inr (12, 0)), .inl (nI b), .inl v2] S = _ := (zx_X12_wet 39 S 0 (nI b) v2).trans (ze_X12_wet_0 _ _ _ _ _ _)
        rw [e, s_isPair 37 n _ _ c12, z_rI_s, z_b1_T h1, if_neg z_01n, s_isWet, z_rI_s, z_b1_F h2, if_pos rfl]
  · refine z_no (v := .inl (-1)) hR ?_ ?_
    · have e : z_exe z_mt true 40 78 [.inr (.inr (11, 0)), .inl v1, .inl v2] S = _ := (zx_X11_wet 39 S 0 v1 v2).trans (ze_X11_wet_0 _ _ _ _ _ _)
      rw [e, s_noPair 38 n _ S hn c7, z_rI_s, z_b1_T h1, if_neg z_01n]
    · have e : z_exe z_mt true 40 135 [.inr (.inr (12, 0)), .inl v1, .inl v2] S = _ := (zx_X12_wet 39 S 0 v1 v2).trans (ze_X12_wet_0 _ _ _ _ _ _)
      rw [e, s_isPair 37 n _ _ c12, z_rI_s, z_b1_F h1, if_pos rfl]
theorem c_row (S : z_Mem) (hR : z_RL S) (v1 v2 v3 : Int32) : z_both 83 141 [.inl v1, .inl v2, .inl v3] S := by
  obtain ⟨hts, hN, ⟨n, hr, h, c0, ht, wd, H, K, W, C, hA, hB⟩, hI, hT, hP, hAc⟩ := id hR
  obtain ⟨⟨hn, hhr, hwd, hH, hts6⟩, hh6⟩ := hA.1
  have hC := fun b hb => (hA.2.2 b hb).1.2.2
  have c7 : S.1 7 0 1 = nI n := hA.2.1.1.1
  have c12 : S.1 12 0 0 = nI n := hA.2.1.2.1
  by_cases h1 : 0 ≤ v1 ∧ v1 ≤ nI n - 1
  · obtain ⟨b, hb, rfl⟩ := z_isP_of hn h1
    by_cases h2 : 0 ≤ v2 ∧ v2 ≤ 3
    · obtain ⟨p, hp, rfl⟩ := z_rg (n := 3) (by omega) h2
      by_cases h3 : 0 ≤ v3 ∧ v3 ≤ 9
      · obtain ⟨⟨o1, o2, o3⟩, ⟨p1, p2, p3, p4⟩, q1, q2, q3⟩ := hA.2.2 b hb
        have hk : S.1 2 b 1 = S.1 37 0 b := by
          have e1 : S.1 2 b 1 = (K b).2.1 := by rw [← p1]; rfl
          have e2 : S.1 37 0 b = (K b).2.1 := by rw [← q1]; rfl
          rw [e1, e2]
        have hrow : ∀ k, k < 4 → S.1 21 b k = (K b).2.2.2.2.2 k ∧ S.1 42 0 (4 * b + k) = (K b).2.2.2.2.2 k := by
          intro k hk
          constructor
          · rw [← p1]
            show _ = (if k < 4 then S.1 21 b k else 0)
            rw [if_pos hk]
          · rw [← q1]
            show _ = (if k < 4 then S.1 42 0 (4 * b + k) else 0)
            rw [if_pos hk]
        have hix : (4 : Int32) * nI b + nI p = nI (4 * b + p) := by
          rw [show (4 : Int32) * nI b = nI (4 * b) from pk_mul 4 b, nI_add]
        by_cases h6 : S.1 37 0 b = 6
        · refine ⟨.inl ((K b).2.2.2.2.2 p), z_sI S 21 b p v3, z_sI (z_sI S 21 b p v3) 42 0 (4 * b + p) v3, ?_, ?_, ?_⟩
          · have e : z_exe z_mt true 40 83 [.inr (.inr (11, 0)), .inl (nI b), .inl (nI p), .inl v3] S = _ := (zx_X11_row 39 S 0 (nI b) (nI p) v3).trans (ze_X11_row_0 _ _ _ _ _ _ _)
            rw [e, s_noPair 38 n _ S hn c7, z_rI_s, z_b1_F (fun z => z h1), if_pos rfl, s_outside, z_rI_s, z_b1_F (fun z => z h2), if_pos rfl, s_outside, z_rI_s, z_b1_F (fun z => z h3), if_pos rfl, z_oob_n (k := b) (by omega) (by omega), z_cl (k := b) (by omega), z_60, hk, if_pos h6, z_oob_n (k := p) (by omega) (by omega), z_cl (k := p) (by omega), (hrow p (by omega)).1]
            rfl
          · have e : z_exe z_mt true 40 141 [.inr (.inr (12, 0)), .inl (nI b), .inl (nI p), .inl v3] (z_sI S 21 b p v3) = _ := (zx_X12_row 39 (z_sI S 21 b p v3) 0 (nI b) (nI p) v3).trans (ze_X12_row_0 _ _ _ _ _ _ _)
            have g37 : (z_sI S 21 b p v3).1 37 0 b = S.1 37 0 b := by simp [z_sI1]
            have g42 : (z_sI S 21 b p v3).1 42 0 (4 * b + p) = S.1 42 0 (4 * b + p) := by simp [z_sI1]
            rw [e, s_isPair 37 n _ (z_sI S 21 b p v3) c12, z_rI_s, z_b1_T h1, if_neg z_01n, s_in, z_rI_s, z_b1_T h2, if_neg z_01n, s_in, z_rI_s, z_b1_T h3, if_neg z_01n, z_oob_n (k := b) (by omega) (by omega), z_cl (k := b) (by omega), hix, z_oob_n (k := 4 * b + p) (by omega) (by omega), z_cl (k := 4 * b + p) (by omega), g37, if_pos h6, g42, (hrow p (by omega)).2]
            rfl
          · have hf : z_fx (z_P1b b) S (z_sI (z_sI S 21 b p v3) 42 0 (4 * b + p) v3) := (z_fx.sI (Or.inl ⟨Or.inr rfl, rfl⟩)).tr (z_fx.sI (Or.inr ⟨rfl, Or.inr ⟨rfl, by omega, by omega⟩⟩))
            have er : ∀ f : Nat → Int32, (∀ k, k < 4 → f k = (if k = p then v3 else (K b).2.2.2.2.2 k)) → (fun k => if k < 4 then f k else 0) = (fun k => if k < 4 then (if k = p then v3 else (K b).2.2.2.2.2 k) else 0) := by
              intro f hf
              funext k
              by_cases q : k < 4
              · rw [if_pos q, if_pos q, hf k q]
              · rw [if_neg q, if_neg q]
            refine z_RL.room hN hB hI hT hP hAc hf (z_P1b_Rw (by omega)) (hA.one hb hf (K1 := ((K b).1, ((K b).2.1, ((K b).2.2.1, ((K b).2.2.2.1, ((K b).2.2.2.2.1, fun k => if k < 4 then (if k = p then v3 else (K b).2.2.2.2.2 k) else 0)))))) (w1 := W b) (c1 := C b) (by simp [z_sI1]; exact hA.2.1.1.2.2.2.2.2.2 b (by omega)) ⟨o1, o2, o3⟩ ⟨?_, by simp [z_sI1, p2], by simp [z_sI1, p3], by simp [z_sI1, p4]⟩ ⟨?_, by simp [z_sI1, q2], by simp [z_sI1, q3]⟩) (Nat.le_refl _)
            · rw [← er (fun k => (z_sI (z_sI S 21 b p v3) 42 0 (4 * b + p) v3).1 21 b k) (fun k hk => by
                try dsimp only
                rw [z_sI1, if_neg (fun q => absurd q.1 (by decide)), z_sI1]
                by_cases q : k = p
                · rw [if_pos ⟨rfl, rfl, q⟩, if_pos q]
                · rw [if_neg (fun z => q z.2.2), if_neg q, (hrow k hk).1])]
              rw [← p1]
              unfold z_kc
              simp [z_sI1]
            · rw [← er (fun k => (z_sI (z_sI S 21 b p v3) 42 0 (4 * b + p) v3).1 42 0 (4 * b + k)) (fun k hk => by
                try dsimp only
                rw [z_sI1]
                by_cases q : k = p
                · rw [if_pos ⟨rfl, rfl, by rw [q]⟩, if_pos q]
                · rw [if_neg (fun z => q (by omega)), if_neg q, z_sI1, if_neg (fun q => absurd q.1 (by decide)), (hrow k hk).2])]
              rw [← q1]
              unfold z_km
              simp [z_sI1]
        · refine z_no (v := .inl (-3)) hR ?_ ?_
          · have e : z_exe z_mt true 40 83 [.inr (.inr (11, 0)), .inl (nI b), .inl (nI p), .inl v3] S = _ := (zx_X11_row 39 S 0 (nI b) (nI p) v3).trans (ze_X11_row_0 _ _ _ _ _ _ _)
            rw [e, s_noPair 38 n _ S hn c7, z_rI_s, z_b1_F (fun z => z h1), if_pos rfl, s_outside, z_rI_s, z_b1_F (fun z => z h2), if_pos rfl, s_outside, z_rI_s, z_b1_F (fun z => z h3), if_pos rfl, z_oob_n (k := b) (by omega) (by omega), z_cl (k := b) (by omega), z_60, hk, if_neg h6]
            rfl
          · have e : z_exe z_mt true 40 141 [.inr (.inr (12, 0)), .inl (nI b), .inl (nI p), .inl v3] S = _ := (zx_X12_row 39 S 0 (nI b) (nI p) v3).trans (ze_X12_row_0 _ _ _ _ _ _ _)
            rw [e, s_isPair 37 n _ _ c12, z_rI_s, z_b1_T h1, if_neg z_01n, s_in, z_rI_s, z_b1_T h2, if_neg z_01n, s_in, z_rI_s, z_b1_T h3, if_neg z_01n, z_oob_n (k := b) (by omega) (by omega), z_cl (k := b) (by omega), if_neg h6]
            rfl
      · refine z_no (v := .inl (-2)) hR ?_ ?_
        · have e : z_exe z_mt true 40 83 [.inr (.inr (11, 0)), .inl (nI b), .inl (nI p), .inl v3] S = _ := (zx_X11_row 39 S 0 (nI b) (nI p) v3).trans (ze_X11_row_0 _ _ _ _ _ _ _)
          rw [e, s_noPair 38 n _ S hn c7, z_rI_s, z_b1_F (fun z => z h1), if_pos rfl, s_outside, z_rI_s, z_b1_F (fun z => z h2), if_pos rfl, s_outside, z_rI_s, z_b1_T h3, if_neg z_01n]
        · have e : z_exe z_mt true 40 141 [.inr (.inr (12, 0)), .inl (nI b), .inl (nI p), .inl v3] S = _ := (zx_X12_row 39 S 0 (nI b) (nI p) v3).trans (ze_X12_row_0 _ _ _ _ _ _ _)
          rw [e, s_isPair 37 n _ _ c12, z_rI_s, z_b1_T h1, if_neg z_01n, s_in, z_rI_s, z_b1_T h2, if_neg z_01n, s_in, z_rI_s, z_b1_F h3, if_pos rfl]
    · refine z_no (v := .inl (-1)) hR ?_ ?_
      · have e : z_exe z_mt true 40 83 [.inr (.inr (11, 0)), .inl (nI b), .inl v2, .inl v3] S = _ := (zx_X11_row 39 S 0 (nI b) v2 v3).trans (ze_X11_row_0 _ _ _ _ _ _ _)
        rw [e, s_noPair 38 n _ S hn c7, z_rI_s, z_b1_F (fun z => z h1), if_pos rfl, s_outside, z_rI_s, z_b1_T h2, if_neg z_01n]
      · have e : z_exe z_mt true 40 141 [.inr (.inr (12, 0)), .inl (nI b), .inl v2, .inl v3] S = _ := (zx_X12_row 39 S 0 (nI b) v2 v3).trans (ze_X12_row_0 _ _ _ _ _ _ _)
        rw [e, s_isPair 37 n _ _ c12, z_rI_s, z_b1_T h1, if_neg z_01n, s_in, z_rI_s, z_b1_F h2, if_pos rfl]
  · refine z_no (v := .inl (-1)) hR ?_ ?_
    · have e : z_exe z_mt true 40 83 [.inr (.inr (11, 0)), .inl v1, .inl v2, .inl v3] S = _ := (zx_X11_row 39 S 0 v1 v2 v3).trans (ze_X11_row_0 _ _ _ _ _ _ _)
      rw [e, s_noPair 38 n _ S hn c7, z_rI_s, z_b1_T h1, if_neg z_01n]
    · have e : z_exe z_mt true 40 141 [.inr (.inr (12, 0)), .inl v1, .inl v2, .inl v3] S = _ := (zx_X12_row 39 S 0 v1 v2 v3).trans (ze_X12_row_0 _ _ _ _ _ _ _)
      rw [e, s_isPair 37 n _ _ c12, z_rI_s, z_b1_F h1, if_pos rfl]
/-! ===== heat and wood ===== -/
def z_Phw (t i k : Nat) : Prop := (t = 9 ∧ i = 0 ∧ k < 2) ∨ (t = 12 ∧ i = 0 ∧ (k = 2 ∨ k = 3))
theorem z_LA.hw {hts n hr h c0 : Nat} {ht wd ht' wd' : Int32} {H : z_H} {K : Nat → z_K} {W C : Nat → Int32} {S S' : z_Mem} (hL : z_LA hts n hr h c0 ht wd H K W C S) (hf : z_fx z_Phw S S') (e1 : S'.1 9 0 0 = ht') (e2 : S'.1 9 0 1 = wd') (e3 : S'.1 12 0 2 = ht') (e4 : S'.1 12 0 3 = wd') (hw : 0 ≤ wd') : z_LA hts n hr h c0 ht' wd' H K W C S' := by
  obtain ⟨⟨⟨h1, h2, h3, h4, h5⟩, h6⟩, ⟨⟨a1, a2, a3, a4, a5, a6⟩, ⟨m1, m2, m3, m4, m5⟩⟩, hb⟩ := hL
  have E : ∀ t i k, ¬ z_Phw t i k → S'.1 t i k = S.1 t i k := fun t i k q => hf.i q
  refine ⟨⟨⟨h1, h2, hw, h4, h5⟩, h6⟩, ⟨⟨(E 7 0 1 (by unfold z_Phw; omega)).trans a1, e1, e2, (E 9 0 2 (by unfold z_Phw; omega)).trans a4, by rw [hf.r (by unfold z_Phw; omega)]; exact a5, a6.1.cg (fun k => E 4 h k (by unfold z_Phw; omega)) (fun k => E 22 h k (by unfold z_Phw; omega)) (fun k => E 23 h k (by unfold z_Phw; omega)), fun b hb => (E 2 b 0 (by unfold z_Phw; omega)).trans (a6.2 b hb)⟩, ⟨(E 12 0 0 (by unfold z_Phw; omega)).trans m1, e3, e4, (E 12 0 4 (by unfold z_Phw; omega)).trans m4, m5.cg (E 12 0 12 (by unfold z_Phw; omega)) (fun k _ => E 44 0 k (by unfold z_Phw; omega)) (fun t k a c _ => E t 0 k (by unfold z_Phw; omega)) (fun k _ => E 49 0 k (by unfold z_Phw; omega))⟩⟩, fun b hb' => ?_⟩
  obtain ⟨o1, ⟨p1, p2, p3, p4⟩, q1, q2, q3⟩ := hb b hb'
  have e2 : ∀ k, S'.1 2 b k = S.1 2 b k := fun k => E 2 b k (by unfold z_Phw; omega)
  refine ⟨o1, ⟨(z_kc_cg (fun k _ _ => e2 k) (fun k => E 21 b k (by unfold z_Phw; omega))).trans p1, by rw [e2]; exact p2, by rw [e2]; exact p3, by rw [e2]; exact p4⟩, ?_, (E 39 0 b (by unfold z_Phw; omega)).trans q2, (E 41 0 b (by unfold z_Phw; omega)).trans q3⟩
  exact (z_km_cg (E 37 0 b (by unfold z_Phw; omega)) (E 38 0 b (by unfold z_Phw; omega)) (E 40 0 b (by unfold z_Phw; omega)) (E 12 0 1 (by unfold z_Phw; omega)) (fun k => E 42 0 k (by unfold z_Phw; omega))).trans q1
theorem z_Phw_Rw : ∀ t i k, z_Phw t i k → z_Rw t i k := by
  intro t i k q
  rcases q with ⟨h1, h2, h3⟩ | ⟨h1, h2, h3⟩
  · exact Or.inr (Or.inr (Or.inl ⟨h1, h2⟩))
  · exact Or.inr (Or.inr (Or.inr (Or.inr (Or.inl ⟨h1, h2, by omega⟩))))
theorem c_set (S : z_Mem) (hR : z_RL S) (v1 v2 : Int32) : z_both 82 140 [.inl v1, .inl v2] S := by
  obtain ⟨hts, hN, ⟨n, hr, h, c0, ht, wd, H, K, W, C, hA, hB⟩, hI, hT, hP, hAc⟩ := id hR
  obtain ⟨⟨hn, hhr, hwd, hH, hts6⟩, hh6⟩ := hA.1
  have hC := fun b hb => (hA.2.2 b hb).1.2.2
  have c7 : S.1 7 0 1 = nI n := hA.2.1.1.1
  have c12 : S.1 12 0 0 = nI n := hA.2.1.2.1
  obtain ⟨-, a2, a3, -⟩ := hA.2.1.1
  obtain ⟨-, m2, m3, -⟩ := hA.2.1.2
  by_cases h1 : 0 ≤ v1 ∧ v1 ≤ 1
  · obtain ⟨k, hk, rfl⟩ := z_rg (n := 1) (by omega) h1
    have hk2 : k = 0 ∨ k = 1 := by omega
    rcases hk2 with rfl | rfl
    · by_cases h2 : 0 ≤ v2 ∧ v2 ≤ 30
      · refine ⟨.inl ht, z_sI S 9 0 0 v2, z_sI (z_sI S 9 0 0 v2) 12 0 2 v2, ?_, ?_, ?_⟩
        · have e : z_exe z_mt true 40 82 [.inr (.inr (11, 0)), .inl (nI 0), .inl v2] S = _ := (zx_X11_set 39 S 0 (nI 0) v2).trans (ze_X11_set_0 _ _ _ _ _ _)
          rw [e, s_outside, z_rI_s, z_b1_F (fun z => z h1), if_pos rfl, if_pos (by decide), s_outside, z_rI_s, z_b1_F (fun z => z h2), if_pos rfl, if_pos (by decide), if_pos (by decide), a2]
        · have e : z_exe z_mt true 40 140 [.inr (.inr (12, 0)), .inl (nI 0), .inl v2] (z_sI S 9 0 0 v2) = _ := (zx_X12_set 39 (z_sI S 9 0 0 v2) 0 (nI 0) v2).trans (ze_X12_set_0 _ _ _ _ _ _)
          rw [e, s_in, z_rI_s, z_b1_T h1, if_neg z_01n, if_pos (by decide), s_in, z_rI_s, z_b1_T h2, if_neg z_01n, if_pos (by decide), if_pos (by decide)]
          try dsimp only
          rw [z_sI1, if_neg (fun q => absurd q.1 (by decide)), m2]
        · have hf : z_fx z_Phw S (z_sI (z_sI S 9 0 0 v2) 12 0 2 v2) := (z_fx.sI (Or.inl ⟨rfl, rfl, by omega⟩)).tr (z_fx.sI (Or.inr ⟨rfl, rfl, Or.inl rfl⟩))
          refine z_RL.room hN hB hI hT hP hAc hf z_Phw_Rw (hA.hw hf (ht' := v2) (wd' := wd) ?_ ?_ ?_ ?_ hwd) (Nat.le_refl _)
          · rw [z_sI1, if_neg (fun q => absurd q.1 (by decide)), z_sI1, if_pos ⟨rfl, rfl, rfl⟩]
          · rw [z_sI1, if_neg (fun q => absurd q.1 (by decide)), z_sI1, if_neg (fun q => absurd q.2.2 (by decide))]; exact a3
          · rw [z_sI1, if_pos ⟨rfl, rfl, rfl⟩]
          · rw [z_sI1, if_neg (fun q => absurd q.2.2 (by decide)), z_sI1, if_neg (fun q => absurd q.1 (by decide))]; exact m3
      · refine z_no (v := .inl (-2)) hR ?_ ?_
        · have e : z_exe z_mt true 40 82 [.inr (.inr (11, 0)), .inl (nI 0), .inl v2] S = _ := (zx_X11_set 39 S 0 (nI 0) v2).trans (ze_X11_set_0 _ _ _ _ _ _)
          rw [e, s_outside, z_rI_s, z_b1_F (fun z => z h1), if_pos rfl, if_pos (by decide), s_outside, z_rI_s, z_b1_T h2, if_neg z_01n]
        · have e : z_exe z_mt true 40 140 [.inr (.inr (12, 0)), .inl (nI 0), .inl v2] S = _ := (zx_X12_set 39 S 0 (nI 0) v2).trans (ze_X12_set_0 _ _ _ _ _ _)
          rw [e, s_in, z_rI_s, z_b1_T h1, if_neg z_01n, if_pos (by decide), s_in, z_rI_s, z_b1_F h2, if_pos rfl]
    · by_cases h2 : 0 ≤ v2 ∧ v2 ≤ 9
      · refine ⟨.inl wd, z_sI S 9 0 1 v2, z_sI (z_sI S 9 0 1 v2) 12 0 3 v2, ?_, ?_, ?_⟩
        · have e : z_exe z_mt true 40 82 [.inr (.inr (11, 0)), .inl (nI 1), .inl v2] S = _ := (zx_X11_set 39 S 0 (nI 1) v2).trans (ze_X11_set_0 _ _ _ _ _ _)
          rw [e, s_outside, z_rI_s, z_b1_F (fun z => z h1), if_pos rfl, if_neg (by decide), s_outside, z_rI_s, z_b1_F (fun z => z h2), if_pos rfl, if_neg (by decide), if_neg (by decide), a3]
        · have e : z_exe z_mt true 40 140 [.inr (.inr (12, 0)), .inl (nI 1), .inl v2] (z_sI S 9 0 1 v2) = _ := (zx_X12_set 39 (z_sI S 9 0 1 v2) 0 (nI 1) v2).trans (ze_X12_set_0 _ _ _ _ _ _)
          rw [e, s_in, z_rI_s, z_b1_T h1, if_neg z_01n, if_neg (by decide), s_in, z_rI_s, z_b1_T h2, if_neg z_01n, if_neg (by decide), if_neg (by decide)]
          try dsimp only
          rw [z_sI1, if_neg (fun q => absurd q.1 (by decide)), m3]
        · have hf : z_fx z_Phw S (z_sI (z_sI S 9 0 1 v2) 12 0 3 v2) := (z_fx.sI (Or.inl ⟨rfl, rfl, by omega⟩)).tr (z_fx.sI (Or.inr ⟨rfl, rfl, Or.inr rfl⟩))
          refine z_RL.room hN hB hI hT hP hAc hf z_Phw_Rw (hA.hw hf (ht' := ht) (wd' := v2) ?_ ?_ ?_ ?_ h2.1) (Nat.le_refl _)
          · rw [z_sI1, if_neg (fun q => absurd q.1 (by decide)), z_sI1, if_neg (fun q => absurd q.2.2 (by decide))]; exact a2
          · rw [z_sI1, if_neg (fun q => absurd q.1 (by decide)), z_sI1, if_pos ⟨rfl, rfl, rfl⟩]
          · rw [z_sI1, if_neg (fun q => absurd q.2.2 (by decide)), z_sI1, if_neg (fun q => absurd q.1 (by decide))]; exact m2
          · rw [z_sI1, if_pos ⟨rfl, rfl, rfl⟩]
      · refine z_no (v := .inl (-2)) hR ?_ ?_
        · have e : z_exe z_mt true 40 82 [.inr (.inr (11, 0)), .inl (nI 1), .inl v2] S = _ := (zx_X11_set 39 S 0 (nI 1) v2).trans (ze_X11_set_0 _ _ _ _ _ _)
          rw [e, s_outside, z_rI_s, z_b1_F (fun z => z h1), if_pos rfl, if_neg (by decide), s_outside, z_rI_s, z_b1_T h2, if_neg z_01n]
        · have e : z_exe z_mt true 40 140 [.inr (.inr (12, 0)), .inl (nI 1), .inl v2] S = _ := (zx_X12_set 39 S 0 (nI 1) v2).trans (ze_X12_set_0 _ _ _ _ _ _)
          rw [e, s_in, z_rI_s, z_b1_T h1, if_neg z_01n, if_neg (by decide), s_in, z_rI_s, z_b1_F h2, if_pos rfl]
  · refine z_no (v := .inl (-1)) hR ?_ ?_
    · have e : z_exe z_mt true 40 82 [.inr (.inr (11, 0)), .inl v1, .inl v2] S = _ := (zx_X11_set 39 S 0 v1 v2).trans (ze_X11_set_0 _ _ _ _ _ _)
      rw [e, s_outside, z_rI_s, z_b1_T h1, if_neg z_01n]
    · have e : z_exe z_mt true 40 140 [.inr (.inr (12, 0)), .inl v1, .inl v2] S = _ := (zx_X12_set 39 S 0 v1 v2).trans (ze_X12_set_0 _ _ _ _ _ _)
      rw [e, s_in, z_rI_s, z_b1_F h1, if_pos rfl]
/-- a log on the fire: the class -/
theorem s_burnLog (d r h n hr : Nat) (ht : Int32) (H : z_H) (K : Nat → z_K) (W C : Nat → Int32) (S : z_Mem) (hR : z_Rc r h H n ht hr K W C S) :
    z_exe z_mt true (d + 1) 69 [.inr (.inr (9, r))] S = some (none, z_sI (z_sI S 9 r 1 (S.1 9 r 1 - 1)) 9 r 0 (if ht + z_last 3 H 6 < 30 then ht + z_last 3 H 6 else 30)) := by
  have e : z_exe z_mt true (d + 1) 69 [.inr (.inr (9, r))] S = _ := (zx_X9_burnLog d S r).trans (ze_X9_burnLog_0 _ _ _ _)
  obtain ⟨r1, r2, r3, r4, r5⟩ := hR
  rw [e]
  try dsimp only
  have g9 : (z_sI S 9 r 1 (S.1 9 r 1 - 1)).1 9 r 0 = S.1 9 r 0 := by simp [z_sI1]
  have g4 : (z_sI S 9 r 1 (S.1 9 r 1 - 1)).1 4 h 1 = S.1 4 h 1 := by simp [z_sI1]
  rw [z_sI3, r1, g9, g4, r3, r2.1.2]
/-- a log on the fire: the model -/
theorem s_stokes (d c0 n hr : Nat) (ht : Int32) (H : z_H) (K : Nat → z_K) (W C : Nat → Int32) (S : z_Mem) (hH : z_hwf H) (hR : z_Rm c0 H n ht hr K W C S) :
    z_exe z_mt true (d + 3) 177 [.inr (.inr (12, 0))] S = some (none, z_sI (z_sI S 12 0 3 (S.1 12 0 3 - 1)) 12 0 2 (if ht + z_last 3 H 6 < 30 then ht + z_last 3 H 6 else 30)) := by
  have e : z_exe z_mt true (d + 3) 177 [.inr (.inr (12, 0))] S = _ := (zx_X12_stokes (d + 2) S 0).trans (ze_X12_stokes_0 _ _ _ _)
  obtain ⟨r1, r2, r3, r4, r5⟩ := hR
  rw [e]
  try dsimp only
  rw [s_logOf d c0 H _ hH (r2.fx (P := fun t i k => t = 12 ∧ k = 3) (z_fx.sI ⟨rfl, rfl⟩) (fun t i k a c => by omega) (by omega)), z_rI_s, s_least (d + 1), z_rI_s]
  try dsimp only
  have g2 : (z_sI S 12 0 3 (S.1 12 0 3 - 1)).1 12 0 2 = S.1 12 0 2 := by simp [z_sI1]
  rw [g2, r3]
  have : (if ht + z_last 3 H 6 ≤ 30 then ht + z_last 3 H 6 else 30) = (if ht + z_last 3 H 6 < 30 then ht + z_last 3 H 6 else 30) := by
    by_cases q : ht + z_last 3 H 6 < 30
    · rw [if_pos q, if_pos (Int32.le_of_lt q)]
    · rw [if_neg q]
      by_cases q2 : ht + z_last 3 H 6 ≤ 30
      · rw [if_pos q2]
        exact Int32.le_antisymm q2 (Int32.not_lt.mp q)
      · rw [if_neg q2]
  rw [this]
theorem c_stoke (S : z_Mem) (hR : z_RL S) : z_both 81 178 [] S := by
  obtain ⟨hts, hN, ⟨n, hr, h, c0, ht, wd, H, K, W, C, hA, hB⟩, hI, hT, hP, hAc⟩ := id hR
  obtain ⟨⟨hn, hhr, hwd, hH, hts6⟩, hh6⟩ := hA.1
  have hC := fun b hb => (hA.2.2 b hb).1.2.2
  have c7 : S.1 7 0 1 = nI n := hA.2.1.1.1
  have c12 : S.1 12 0 0 = nI n := hA.2.1.2.1
  obtain ⟨-, a2, a3, -⟩ := hA.2.1.1
  obtain ⟨-, m2, m3, -⟩ := hA.2.1.2
  by_cases hw0 : wd = 0
  · refine z_no (v := .inl (-3)) hR ?_ ?_
    · have e : z_exe z_mt true 40 81 [.inr (.inr (11, 0))] S = _ := (zx_X11_stoke 39 S 0).trans (ze_X11_stoke_0 _ _ _ _)
      rw [e, a3, hw0, if_neg (by decide)]
    · have e : z_exe z_mt true 40 178 [.inr (.inr (12, 0))] S = _ := (zx_X12_stoke 39 S 0).trans (ze_X12_stoke_0 _ _ _ _)
      rw [e, m3, hw0, if_pos rfl]
  · have hpos : 0 < wd := Int32.lt_of_le_of_ne hwd (fun q => hw0 q.symm)
    obtain ⟨k, hk, rfl⟩ := nI_of (Int32.not_lt.mpr hwd)
    have hk0 : 0 < k := by
      rcases Nat.eq_zero_or_pos k with q | q
      · exact absurd (by rw [q]; rfl) hw0
      · exact q
    have hm1 : nI k - 1 = nI (k - 1) := by
      rw [show k = (k - 1) + 1 by omega, nI_pred]
      rfl
    have s1 := s_burnLog 38 0 h n hr ht H K W C S hA.Rc
    have f1 : z_fx (fun t i k => t = 9 ∧ i = 0 ∧ k < 2) S (z_sI (z_sI S 9 0 1 (S.1 9 0 1 - 1)) 9 0 0 (if ht + z_last 3 H 6 < 30 then ht + z_last 3 H 6 else 30)) := (z_fx.sI ⟨rfl, rfl, by omega⟩).tr (z_fx.sI ⟨rfl, rfl, by omega⟩)
    generalize hS1 : z_sI (z_sI S 9 0 1 (S.1 9 0 1 - 1)) 9 0 0 (if ht + z_last 3 H 6 < 30 then ht + z_last 3 H 6 else 30) = S1 at s1 f1
    have s2 := s_stokes 36 c0 n hr ht H K W C S1 hH (hA.Rm.fx f1 (fun t i k q => by omega))
    have f2 : z_fx (fun t i k => t = 12 ∧ i = 0 ∧ (k = 2 ∨ k = 3)) S1 (z_sI (z_sI S1 12 0 3 (S1.1 12 0 3 - 1)) 12 0 2 (if ht + z_last 3 H 6 < 30 then ht + z_last 3 H 6 else 30)) := (z_fx.sI ⟨rfl, rfl, by omega⟩).tr (z_fx.sI ⟨rfl, rfl, by omega⟩)
    have g0 : S1.1 9 0 0 = (if ht + z_last 3 H 6 < 30 then ht + z_last 3 H 6 else 30) := by rw [← hS1, z_sI1, if_pos ⟨rfl, rfl, rfl⟩]
    have g1 : S1.1 9 0 1 = nI (k - 1) := by rw [← hS1, z_sI1, if_neg (fun q => absurd q.2.2 (by decide)), z_sI1, if_pos ⟨rfl, rfl, rfl⟩, a3, hm1]
    have g3 : S1.1 12 0 3 - 1 = nI (k - 1) := by rw [f1.i (by omega), m3, hm1]
    refine ⟨.inl (if ht + z_last 3 H 6 < 30 then ht + z_last 3 H 6 else 30), S1, z_sI (z_sI S1 12 0 3 (S1.1 12 0 3 - 1)) 12 0 2 (if ht + z_last 3 H 6 < 30 then ht + z_last 3 H 6 else 30), ?_, ?_, ?_⟩
    · have e : z_exe z_mt true 40 81 [.inr (.inr (11, 0))] S = _ := (zx_X11_stoke 39 S 0).trans (ze_X11_stoke_0 _ _ _ _)
      rw [e, a3, if_pos hpos, s1, z_rV_s, g0]
    · have e : z_exe z_mt true 40 178 [.inr (.inr (12, 0))] S1 = _ := (zx_X12_stoke 39 S1 0).trans (ze_X12_stoke_0 _ _ _ _)
      rw [f1.i (t := 12) (i := 0) (k := 3) (by omega), m3, if_neg hw0] at e
      rw [e, s2, z_rV_s, z_sI1, if_pos ⟨rfl, rfl, rfl⟩]
    · have hf : z_fx z_Phw S (z_sI (z_sI S1 12 0 3 (S1.1 12 0 3 - 1)) 12 0 2 (if ht + z_last 3 H 6 < 30 then ht + z_last 3 H 6 else 30)) := (f1.wk (fun t i k q => Or.inl q)).tr (f2.wk (fun t i k q => Or.inr q))
      refine z_RL.room hN hB hI hT hP hAc hf z_Phw_Rw (hA.hw hf (ht' := if ht + z_last 3 H 6 < 30 then ht + z_last 3 H 6 else 30) (wd' := nI (k - 1)) ?_ ?_ ?_ ?_ (nI_pos' (by omega))) (Nat.le_refl _)
      · rw [f2.i (by omega)]; exact g0
      · rw [f2.i (by omega)]; exact g1
      · rw [z_sI1, if_pos ⟨rfl, rfl, rfl⟩]
      · rw [z_sI1, if_neg (fun q => absurd q.2.2 (by decide)), z_sI1, if_pos ⟨rfl, rfl, rfl⟩]; exact g3
