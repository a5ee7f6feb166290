/-! ===== acts of the model ===== -/
theorem m_pairDrips (d b a : Nat) (vv x : Int32) (T : List Int32) (S : z_Mem) (hT : z_trM T S) (hl : T.length ≤ 55) : ∃ S', z_exe z_mt true (d + 2) 211 [.inr (.inr (12, 0)), .inl (nI b), .inl x] S = some (some (.inl (x + nI b)), S') ∧ z_trM (T ++ [10]) S' ∧ z_fx z_Pam S S' := by
  have e : z_exe z_mt true (d + 2) 211 [.inr (.inr (12, 0)), .inl (nI b), .inl x] S = _ := (zx_X12_pairDrips (d + 1) S 0 (nI b) x).trans (ze_X12_pairDrips_0 _ _ _ _ _ _)
  obtain ⟨S1, e1, T1, f1⟩ := s_body d 10 T S hT (by omega)
  rw [e1, z_rV_s] at e
  exact ⟨S1, e, T1, f1⟩
theorem m_drips (d b a : Nat) (vv x : Int32) (T : List Int32) (S : z_Mem) (ha : a ≤ 6) (hT : z_trM T S) (hl : T.length ≤ 50) (hA : z_am2 b a vv S) : ∃ S', z_exe z_mt true (d + 3) 212 [.inr (.inr (12, 0)), .inl (nI b), .inl x] S = some (some (.inl (z_dvv (nI b) vv a x)), S') ∧ z_trM (T ++ z_dt a) S' ∧ z_fx z_Pam S S' := by
  have e : z_exe z_mt true (d + 3) 212 [.inr (.inr (12, 0)), .inl (nI b), .inl x] S = _ := (zx_X12_dripsAct (d + 2) S 0 (nI b) x).trans (ze_X12_dripsAct_0 _ _ _ _ _ _)
  obtain ⟨hb, h37, h38⟩ := id hA
  rw [z_oob_n (k := b) (by omega) (by omega), z_cond_f] at e
  dsimp only at e
  rw [z_cl (k := b) (by omega), h37] at e
  have note : ∀ x, ∃ S0, z_exe z_mt true (d + 2) 210 [.inr (.inr (12, 0)), .inl x] S = some (none, S0) ∧ z_trM (T ++ [x]) S0 ∧ z_fx z_Pam S S0 := fun x => s_body (d + 1) x T S hT (by omega)
  have pd : ∀ x T S, z_trM T S → T.length ≤ 55 → ∃ S', z_exe z_mt true (d + 2) 211 [.inr (.inr (12, 0)), .inl (nI b), .inl x] S = some (some (.inl (x + nI b)), S') ∧ z_trM (T ++ [10]) S' ∧ z_fx z_Pam S S' := fun x T S h1 h2 => m_pairDrips d b a vv x T S h1 h2
  have hl1 : ∀ y : Int32, (T ++ [y]).length ≤ 55 := fun y => by rw [List.length_append]; show T.length + 1 ≤ _; omega
  have hc : a = 0 ∨ a = 1 ∨ a = 2 ∨ a = 3 ∨ a = 4 ∨ a = 5 ∨ a = 6 := by omega
  rcases hc with rfl | rfl | rfl | rfl | rfl | rfl | rfl
  · obtain ⟨S1, e1, T1, f1⟩ := pd x T S hT (by omega)
    rw [if_neg (by decide), if_neg (by decide), if_neg (by decide), if_neg (by decide), if_neg (by decide), e1, z_rI_s] at e
    exact ⟨S1, e, T1, f1⟩
  · obtain ⟨S1, e1, T1, f1⟩ := pd x T S hT (by omega)
    rw [if_neg (by decide), if_neg (by decide), if_neg (by decide), if_neg (by decide), if_neg (by decide), e1, z_rI_s] at e
    exact ⟨S1, e, T1, f1⟩
  · obtain ⟨S0, e0, T0, f0⟩ := note 30
    obtain ⟨S1, e1, T1, f1⟩ := pd (x * 3) (T ++ [30]) S0 T0 (hl1 30)
    rw [if_pos (by decide), e0, z_rV_s, e1, z_rI_s] at e
    rw [List.append_assoc] at T1
    exact ⟨S1, e, T1, f0.tr f1⟩
  · obtain ⟨S1, e1, T1, f1⟩ := pd x T S hT (by omega)
    rw [if_neg (by decide), if_pos (by decide), e1, z_rI_s] at e
    exact ⟨S1, e, T1, f1⟩
  · obtain ⟨S0, e0, T0, f0⟩ := note 50
    obtain ⟨S1, e1, T1, f1⟩ := pd x (T ++ [50]) S0 T0 (hl1 50)
    rw [if_neg (by decide), if_neg (by decide), if_pos (by decide), e0, z_rV_s, e1, z_rI_s] at e
    rw [List.append_assoc] at T1
    exact ⟨S1, e, T1, f0.tr f1⟩
  · obtain ⟨S0, e0, T0, f0⟩ := note 30
    obtain ⟨S1, e1, T1, f1⟩ := pd (x * 3) (T ++ [30]) S0 T0 (hl1 30)
    rw [if_neg (by decide), if_neg (by decide), if_neg (by decide), if_pos (by decide), e0, z_rV_s, e1, z_rI_s] at e
    rw [List.append_assoc] at T1
    exact ⟨S1, e, T1, f0.tr f1⟩
  · obtain ⟨S0, e0, T0, f0⟩ := note 71
    obtain ⟨S1, e1, T1, f1⟩ := pd x (T ++ [71]) S0 T0 (hl1 71)
    obtain ⟨-, -, h38'⟩ := (hA.fx f0).fx f1
    rw [if_neg (by decide), if_neg (by decide), if_neg (by decide), if_neg (by decide), if_pos (by decide), e0, z_rV_s, e1, z_rI_s, z_cond_f, h38'] at e
    rw [List.append_assoc] at T1
    exact ⟨S1, e, T1, f0.tr f1⟩
theorem m_pairSteams (d b a : Nat) (vv x : Int32) (T : List Int32) (S : z_Mem) (ha : a ≤ 6) (hT : z_trM T S) (hl : T.length ≤ 45) (hA : z_am2 b a vv S) : ∃ S', z_exe z_mt true (d + 4) 213 [.inr (.inr (12, 0)), .inl (nI b), .inl x] S = some (some (.inl (z_dvv (nI b) vv a x - vv)), S') ∧ z_trM (T ++ ([11] ++ z_dt a)) S' ∧ z_fx z_Pam S S' := by
  have e : z_exe z_mt true (d + 4) 213 [.inr (.inr (12, 0)), .inl (nI b), .inl x] S = _ := (zx_X12_pairSteams (d + 3) S 0 (nI b) x).trans (ze_X12_pairSteams_0 _ _ _ _ _ _)
  obtain ⟨hb, -, -⟩ := id hA
  obtain ⟨S0, e0, T0, f0⟩ := s_body (d + 2) 11 T S hT (by omega)
  obtain ⟨S1, e1, T1, f1⟩ := m_drips d b a vv x (T ++ [11]) S0 ha T0 (by rw [List.length_append]; show T.length + 1 ≤ _; omega) (hA.fx f0)
  obtain ⟨-, -, h38⟩ := (hA.fx f0).fx f1
  rw [e0, z_rV_s, e1, z_rI_s, z_oob_n (k := b) (by omega) (by omega), z_cond_f, z_cl (k := b) (by omega), h38] at e
  rw [List.append_assoc] at T1
  exact ⟨S1, e, T1, f0.tr f1⟩
theorem m_leather (d b a : Nat) (vv x : Int32) (T : List Int32) (S : z_Mem) (ha : a ≤ 6) (hT : z_trM T S) (hl : T.length ≤ 44) (hA : z_am2 b a vv S) : ∃ S', z_exe z_mt true (d + 5) 214 [.inr (.inr (12, 0)), .inl (nI b), .inl x] S = some (some (.inl ((z_dvv (nI b) vv a x - vv) ^^^ 6)), S') ∧ z_trM (T ++ ([20, 11] ++ z_dt a)) S' ∧ z_fx z_Pam S S' := by
  have e : z_exe z_mt true (d + 5) 214 [.inr (.inr (12, 0)), .inl (nI b), .inl x] S = _ := (zx_X12_leatherSteams (d + 4) S 0 (nI b) x).trans (ze_X12_leatherSteams_0 _ _ _ _ _ _)
  obtain ⟨S0, e0, T0, f0⟩ := s_body (d + 3) 20 T S hT (by omega)
  obtain ⟨S1, e1, T1, f1⟩ := m_pairSteams d b a vv x (T ++ [20]) S0 ha T0 (by rw [List.length_append]; show T.length + 1 ≤ _; omega) (hA.fx f0)
  rw [e0, z_rV_s, e1, z_rI_s] at e
  rw [List.append_assoc] at T1
  exact ⟨S1, e, T1, f0.tr f1⟩
theorem m_steams (d b a : Nat) (vv x : Int32) (T : List Int32) (S : z_Mem) (ha : a ≤ 6) (hT : z_trM T S) (hl : T.length ≤ 40) (hA : z_am2 b a vv S) : ∃ S', z_exe z_mt true (d + 6) 215 [.inr (.inr (12, 0)), .inl (nI b), .inl x] S = some (some (.inl (z_sv (nI b) vv a a x)), S') ∧ z_trM (T ++ z_stt a a) S' ∧ z_fx z_Pam S S' := by
  have e : z_exe z_mt true (d + 6) 215 [.inr (.inr (12, 0)), .inl (nI b), .inl x] S = _ := (zx_X12_steamsAct (d + 5) S 0 (nI b) x).trans (ze_X12_steamsAct_0 _ _ _ _ _ _)
  obtain ⟨hb, h37, -⟩ := id hA
  rw [z_oob_n (k := b) (by omega) (by omega), z_cond_f] at e
  dsimp only at e
  rw [z_cl (k := b) (by omega), h37] at e
  have ps := m_pairSteams (d + 1) b a vv x T S ha hT (by omega) hA
  have hl1 : ∀ y : Int32, (T ++ [y]).length ≤ 44 := fun y => by rw [List.length_append]; show T.length + 1 ≤ _; omega
  have hc : a = 0 ∨ a = 1 ∨ a = 2 ∨ a = 3 ∨ a = 4 ∨ a = 5 ∨ a = 6 := by omega
  rcases hc with rfl | rfl | rfl | rfl | rfl | rfl | rfl
  · obtain ⟨S1, e1, T1, f1⟩ := ps
    rw [if_neg (by decide), if_neg (by decide), if_neg (by decide), e1, z_rI_s] at e
    exact ⟨S1, e, T1, f1⟩
  · obtain ⟨S1, e1, T1, f1⟩ := m_leather d b 1 vv x T S ha hT (by omega) hA
    rw [if_pos (by decide), e1, z_rI_s] at e
    exact ⟨S1, e, T1, f1⟩
  · obtain ⟨S1, e1, T1, f1⟩ := ps
    rw [if_neg (by decide), if_neg (by decide), if_neg (by decide), e1, z_rI_s] at e
    exact ⟨S1, e, T1, f1⟩
  · obtain ⟨S1, e1, T1, f1⟩ := ps
    rw [if_neg (by decide), if_neg (by decide), if_neg (by decide), e1, z_rI_s] at e
    exact ⟨S1, e, T1, f1⟩
  · obtain ⟨S0, e0, T0, f0⟩ := s_body (d + 4) 51 T S hT (by omega)
    obtain ⟨S1, e1, T1, f1⟩ := m_leather d b 4 vv (x + 1) (T ++ [51]) S0 ha T0 (hl1 51) (hA.fx f0)
    rw [if_neg (by decide), if_pos (by decide), e0, z_rV_s, e1, z_rI_s] at e
    rw [List.append_assoc] at T1
    exact ⟨S1, e, T1, f0.tr f1⟩
  · obtain ⟨S1, e1, T1, f1⟩ := ps
    rw [if_neg (by decide), if_neg (by decide), if_neg (by decide), e1, z_rI_s] at e
    exact ⟨S1, e, T1, f1⟩
  · obtain ⟨S0, e0, T0, f0⟩ := s_body (d + 4) 70 T S hT (by omega)
    obtain ⟨S1, e1, T1, f1⟩ := m_pairSteams (d + 1) b 6 vv x (T ++ [70]) S0 ha T0 (by have := hl1 70; omega) (hA.fx f0)
    obtain ⟨S2, e2, T2, f2⟩ := m_pairDrips (d + 3) b 6 vv 2 (T ++ [70] ++ ([11] ++ z_dt 6)) S1 T1 (by have := hl1 70; have := z_dt_l 6 (by omega); simp only [List.length_append, List.length_cons, List.length_nil] at *; omega)
    rw [if_neg (by decide), if_neg (by decide), if_pos (by decide), e0, z_rV_s, e1, z_rI_s, e2, z_rI_s] at e
    refine ⟨S2, e, ?_, (f0.tr f1).tr f2⟩
    have el : T ++ [70] ++ ([11] ++ z_dt 6) ++ [10] = T ++ ([70, 11] ++ z_dt 6 ++ [10]) := by simp
    rw [el] at T2
    exact T2
theorem m_pairTells (d b a : Nat) (vv x : Int32) (T : List Int32) (S : z_Mem) (ha : a ≤ 6) (hT : z_trM T S) (hl : T.length ≤ 35) (hA : z_am2 b a vv S) : ∃ S', z_exe z_mt true (d + 7) 216 [.inr (.inr (12, 0)), .inl (nI b), .inl x] S = some (some (.inl (z_sv (nI b) vv a a x * 2)), S') ∧ z_trM (T ++ ([12] ++ z_stt a a)) S' ∧ z_fx z_Pam S S' := by
  have e : z_exe z_mt true (d + 7) 216 [.inr (.inr (12, 0)), .inl (nI b), .inl x] S = _ := (zx_X12_pairTells (d + 6) S 0 (nI b) x).trans (ze_X12_pairTells_0 _ _ _ _ _ _)
  obtain ⟨S0, e0, T0, f0⟩ := s_body (d + 5) 12 T S hT (by omega)
  obtain ⟨S1, e1, T1, f1⟩ := m_steams d b a vv x (T ++ [12]) S0 ha T0 (by rw [List.length_append]; show T.length + 1 ≤ _; omega) (hA.fx f0)
  rw [e0, z_rV_s, e1, z_rI_s] at e
  rw [List.append_assoc] at T1
  exact ⟨S1, e, T1, f0.tr f1⟩
theorem m_tells40 (d b a : Nat) (vv x : Int32) (T : List Int32) (S : z_Mem) (ha : a ≤ 6) (hT : z_trM T S) (hl : T.length ≤ 25) (hA : z_am2 b a vv S) : ∃ S0 S1 S2, z_exe z_mt true (d + 7) 210 [.inr (.inr (12, 0)), .inl (40 : Int32)] S = some (none, S0) ∧ z_exe z_mt true (d + 7) 216 [.inr (.inr (12, 0)), .inl (nI b), .inl x] S0 = some (some (.inl (z_sv (nI b) vv a a x * 2)), S1) ∧ z_exe z_mt true (d + 7) 215 [.inr (.inr (12, 0)), .inl (nI b), .inl (1 : Int32)] S1 = some (some (.inl (z_sv (nI b) vv a a 1)), S2) ∧ z_trM (T ++ ([40, 12] ++ z_stt a a ++ z_stt a a)) S2 ∧ z_fx z_Pam S S2 := by
  obtain ⟨S0, e0, T0, f0⟩ := s_body (d + 6) 40 T S hT (by omega)
  have hl2 := z_stt_l a (by omega) a (by omega)
  obtain ⟨S1, e1, T1, f1⟩ := m_pairTells d b a vv x (T ++ [40]) S0 ha T0 (by rw [List.length_append]; show T.length + 1 ≤ _; omega) (hA.fx f0)
  obtain ⟨S2, e2, T2, f2⟩ := m_steams (d + 1) b a vv 1 (T ++ [40] ++ ([12] ++ z_stt a a)) S1 ha T1 (by simp only [List.length_append, List.length_cons, List.length_nil]; omega) ((hA.fx f0).fx f1)
  refine ⟨S0, S1, S2, e0, e1, e2, ?_, (f0.tr f1).tr f2⟩
  have el : T ++ [40] ++ ([12] ++ z_stt a a) ++ z_stt a a = T ++ ([40, 12] ++ z_stt a a ++ z_stt a a) := by simp
  rw [← el]
  exact T2
theorem m_tells (d b a : Nat) (vv x : Int32) (T : List Int32) (S : z_Mem) (ha : a ≤ 6) (hT : z_trM T S) (hl : T.length ≤ 20) (hA : z_am2 b a vv S) : ∃ S', z_exe z_mt true (d + 8) 217 [.inr (.inr (12, 0)), .inl (nI b), .inl x] S = some (some (.inl (z_tv (nI b) vv a a x)), S') ∧ z_trM (T ++ z_tt a a) S' ∧ z_fx z_Pam S S' := by
  have e : z_exe z_mt true (d + 8) 217 [.inr (.inr (12, 0)), .inl (nI b), .inl x] S = _ := (zx_X12_tellsAct (d + 7) S 0 (nI b) x).trans (ze_X12_tellsAct_0 _ _ _ _ _ _)
  obtain ⟨hb, h37, -⟩ := id hA
  rw [z_oob_n (k := b) (by omega) (by omega), z_cond_f] at e
  dsimp only at e
  rw [z_cl (k := b) (by omega), h37] at e
  have pt := m_pairTells d b a vv x T S ha hT (by omega) hA
  have hc : a = 0 ∨ a = 1 ∨ a = 2 ∨ a = 3 ∨ a = 4 ∨ a = 5 ∨ a = 6 := by omega
  rcases hc with rfl | rfl | rfl | rfl | rfl | rfl | rfl
  · obtain ⟨S1, e1, T1, f1⟩ := pt
    rw [if_neg (by decide), if_neg (by decide), if_neg (by decide), if_neg (by decide), e1, z_rI_s] at e
    exact ⟨S1, e, T1, f1⟩
  · obtain ⟨S1, e1, T1, f1⟩ := pt
    rw [if_neg (by decide), if_neg (by decide), if_neg (by decide), if_neg (by decide), e1, z_rI_s] at e
    exact ⟨S1, e, T1, f1⟩
  · obtain ⟨S1, e1, T1, f1⟩ := pt
    rw [if_neg (by decide), if_neg (by decide), if_neg (by decide), if_neg (by decide), e1, z_rI_s] at e
    exact ⟨S1, e, T1, f1⟩
  · obtain ⟨S0, S1, S2, e0, e1, e2, T2, f2⟩ := m_tells40 d b 3 vv x T S ha hT (by omega) hA
    rw [if_pos (by decide), e0, z_rV_s, e1, z_rI_s, e2, z_rI_s] at e
    exact ⟨S2, e, T2, f2⟩
  · obtain ⟨S1, e1, T1, f1⟩ := pt
    rw [if_neg (by decide), if_pos (by decide), e1, z_rI_s] at e
    exact ⟨S1, e, T1, f1⟩
  · obtain ⟨S0, e0, T0, f0⟩ := s_body (d + 6) 60 T S hT (by omega)
    obtain ⟨S1, e1, T1, f1⟩ := m_pairTells d b 5 vv (x - nI b) (T ++ [60]) S0 ha T0 (by rw [List.length_append]; show T.length + 1 ≤ _; omega) (hA.fx f0)
    rw [if_neg (by decide), if_neg (by decide), if_pos (by decide), e0, z_rV_s, e1, z_rI_s] at e
    rw [List.append_assoc] at T1
    exact ⟨S1, e, T1, f0.tr f1⟩
  · obtain ⟨S0, S1, S2, e0, e1, e2, T2, f2⟩ := m_tells40 d b 6 vv x T S ha hT (by omega) hA
    rw [if_neg (by decide), if_neg (by decide), if_neg (by decide), if_pos (by decide), e0, z_rV_s, e1, z_rI_s, e2, z_rI_s] at e
    exact ⟨S2, e, T2, f2⟩
/-! ===== act ===== -/
theorem z_tt_l : ∀ a, a < 7 → (z_tt a a).length ≤ 20 := by decide
/-- both sides have the trace T -/
theorem z_RL.ac {S S' : z_Mem} (hR : z_RL S) (T : List Int32) (hl : T.length ≤ 100) (hf : z_fx (fun t i k => (t = 1 ∧ i = 0) ∨ (t = 20 ∧ i = 0) ∨ z_Pam t i k) S S') (hC : z_trC T S') (hM : z_trM T S') : z_RL S' := by
  obtain ⟨hts, hN, ⟨n, hr, h, c0, ht, wd, H, K, W, C, hA, hB⟩, hI, hT, hP, hAc⟩ := hR
  refine ⟨hts, hN.cg (fun t i k q => hf.i (by unfold z_Pam; omega)) hf.2.1, ⟨n, hr, h, c0, ht, wd, H, K, W, C, hA.cg (fun t i k q _ _ _ _ _ _ => hf.i (by unfold z_FA at q; unfold z_Pam; omega)) (by rw [hf.r (by unfold z_Pam; omega)]), hB.cg (fun t i k q => hf.i (by unfold z_FB at q; unfold z_Pam; omega))⟩, hI.cg (fun t i k q => hf.i (by unfold z_FI at q; unfold z_Pam; omega)) (by rw [hf.r (by unfold z_Pam; omega)]), hT.cg (fun t i k q => hf.i (by unfold z_Pam; omega)), hP.cg (fun t i k q => hf.i (by unfold z_Pam; omega)) (fun t i k q => hf.l (by unfold z_Pam; omega)), ⟨T.length, hl, hC.1, hM.1, fun k h1 h2 => ?_⟩⟩
  have e : T[k]? = some T[k] := List.getElem?_eq_getElem h1
  rw [hC.2 k _ h2 e, hM.2 k _ h2 e]
theorem c_act (S : z_Mem) (hR : z_RL S) (v1 v2 v3 : Int32) : z_both 107 218 [.inl v1, .inl v2, .inl v3] S := by
  obtain ⟨hts, hN, ⟨n, hr, h, c0, ht, wd, H, K, W, C, hA, hB⟩, hI, hT, hP, hAc⟩ := id hR
  obtain ⟨⟨hn, hhr, hwd, hH, hts6⟩, hh6⟩ := hA.1
  have hC := fun b hb => (hA.2.2 b hb).1.2.2
  have c7 : S.1 7 0 1 = nI n := hA.2.1.1.1
  have c12 : S.1 12 0 0 = nI n := hA.2.1.2.1
  -- both forget
  have ef : z_exe z_mt true 39 1 [.inr (.inr (1, 0))] S = some (none, z_sI S 1 0 1 0) := (zx_X0_forget 38 S 0).trans (ze_X0_forget_0 _ _ _ _)
  have ff : z_fx (fun t i k => (t = 1 ∧ i = 0) ∨ (t = 20 ∧ i = 0) ∨ z_Pam t i k) S (z_sI S 1 0 1 0) := z_fx.sI (Or.inl ⟨rfl, rfl⟩)
  have T0 : z_trC [] (z_sI S 1 0 1 0) := ⟨by rw [z_sI1, if_pos ⟨rfl, rfl, rfl⟩]; rfl, fun k x _ h => by cases h⟩
  have M0 : ∀ S', z_trM [] (z_sI S' 12 0 76 0) := fun S' => ⟨by rw [z_sI1, if_pos ⟨rfl, rfl, rfl⟩]; rfl, fun k x _ h => by cases h⟩
  have fm : ∀ S', z_fx z_Pam S' (z_sI S' 12 0 76 0) := fun S' => z_fx.sI (Or.inl ⟨rfl, rfl, rfl⟩)
  by_cases h1 : 0 ≤ v1 ∧ v1 ≤ nI n - 1
  · obtain ⟨b, hb, rfl⟩ := z_isP_of hn h1
    obtain ⟨⟨⟨k1, ⟨a, ha, ea⟩, -⟩, -, -⟩, ⟨p1, -⟩, q1, -⟩ := hA.2.2 b hb
    have g0 : S.1 2 b 0 = nI b := hA.2.1.1.2.2.2.2.2.2 b (by omega)
    have g1 : S.1 2 b 1 = nI a := by rw [← ea, ← p1]; rfl
    have g2 : S.1 2 b 2 = (K b).2.2.1 := by rw [← p1]; rfl
    have m37 : S.1 37 0 b = nI a := by rw [← ea, ← q1]; rfl
    have m38 : S.1 38 0 b = (K b).2.2.1 := by rw [← q1]; rfl
    obtain ⟨S1, hS1⟩ : ∃ S1, S1 = z_sR (z_sI S 1 0 1 0) 1 0 2 (2, b) := ⟨_, rfl⟩
    have f1 : z_fx (fun t i k => (t = 1 ∧ i = 0) ∨ (t = 20 ∧ i = 0) ∨ z_Pam t i k) S S1 := by
      rw [hS1]
      exact ff.tr (z_fx.sR (Or.inl ⟨rfl, rfl⟩) (Or.inl (by decide)))
    have T1 : z_trC [] S1 := by rw [hS1]; exact T0
    have A1 : z_acx b a (K b).2.2.1 S1 := ⟨by rw [hS1, z_sR3, if_pos ⟨rfl, rfl, rfl⟩], (f1.i (by unfold z_Pam; omega)).trans g0, (f1.i (by unfold z_Pam; omega)).trans g1, (f1.i (by unfold z_Pam; omega)).trans g2⟩
    obtain ⟨z1, z2, z3, z4⟩ := id A1
    have n0 : (z_sI S 1 0 1 0).1 7 0 1 = nI n := (ff.i (by unfold z_Pam; omega)).trans c7
    -- from both traces to the end
    have go : ∀ (v : Int32) (T : List Int32) (S2 S3 : z_Mem), T.length ≤ 100 → z_trC T S2 → z_fx z_Pac S1 S2 → z_exe z_mt true 40 107 [.inr (.inr (11, 0)), .inl (nI b), .inl v2, .inl v3] S = some (some (.inl v), S2) → z_trM T S3 → z_fx z_Pam S2 S3 → z_exe z_mt true 40 218 [.inr (.inr (12, 0)), .inl (nI b), .inl v2, .inl v3] S2 = some (some (.inl v), S3) → z_both 107 218 [.inl (nI b), .inl v2, .inl v3] S := by
      intro v T S2 S3 hl hC f2 e2 hM f3 e3
      have hC3 : z_trC T S3 := ⟨(f3.i (by unfold z_Pam; omega)).trans hC.1, fun k x hk hx => (f3.i (by unfold z_Pam; omega)).trans (hC.2 k x hk hx)⟩
      exact ⟨.inl v, S2, S3, e2, e3, hR.ac T hl ((f1.tr (f2.wk (fun t i k q => by unfold z_Pac at q; rcases q with ⟨q1, q2, -⟩ | q; exact Or.inl ⟨q1, q2⟩; exact Or.inr (Or.inl q)))).tr (f3.wk (fun t i k q => Or.inr (Or.inr q)))) hC3 hM⟩
    have eC : z_exe z_mt true 40 107 [.inr (.inr (11, 0)), .inl (nI b), .inl v2, .inl v3] S = _ := (zx_X11_act 39 S 0 (nI b) v2 v3).trans (ze_X11_act_0 _ _ _ _ _ _ _)
    have eR : z_exe z_mt true 39 3 [.inr (.inr (1, 0)), .inr (.inr (2, b)), .inl v2, .inl v3] (z_sI S 1 0 1 0) = _ := (zx_X0_run 38 (z_sI S 1 0 1 0) 0 b v2 v3).trans (ze_X0_run_0 _ _ _ _ _ _ _)
    dsimp only at eR
    rw [← hS1, z1, z3] at eR
    rw [ef, z_rV_s, s_noPair 38 n _ (z_sI S 1 0 1 0) hn n0, z_rI_s, z_b1_F (fun z => z h1), if_pos rfl, z_oob_n (k := b) (by omega) (by omega), z_cond_f, z_cl (k := b) (by omega), z_60] at eC
    have eM : ∀ S2, S2.1 12 0 0 = nI n → z_exe z_mt true 40 218 [.inr (.inr (12, 0)), .inl (nI b), .inl v2, .inl v3] S2 = _ := fun S2 g => (zx_X12_act 39 S2 0 (nI b) v2 v3).trans (ze_X12_act_0 _ _ _ _ _ _ _)
    have hm2 : ∀ S2, z_fx z_Pac S1 S2 → z_am2 b a (K b).2.2.1 (z_sI S2 12 0 76 0) ∧ S2.1 12 0 0 = nI n ∧ (z_sI S2 12 0 76 0).1 12 0 0 = nI n := by
      intro S2 f2
      have g12 : S2.1 12 0 0 = nI n := (f2.i (by unfold z_Pac; omega)).trans ((f1.i (by unfold z_Pam; omega)).trans c12)
      refine ⟨⟨by omega, ?_, ?_⟩, g12, ?_⟩
      · rw [(fm S2).i (by unfold z_Pam; omega), f2.i (by unfold z_Pac; omega), f1.i (by unfold z_Pam; omega)]; exact m37
      · rw [(fm S2).i (by unfold z_Pam; omega), f2.i (by unfold z_Pac; omega), f1.i (by unfold z_Pam; omega)]; exact m38
      · rw [(fm S2).i (by unfold z_Pam; omega)]; exact g12
    by_cases y0 : v2 = 0
    · obtain ⟨S2, e2, T2, f2⟩ := s_drips 34 b a a (K b).2.2.1 v3 [] S1 ha ha T1 (by decide) A1
      obtain ⟨x1, x2, x3⟩ := hm2 S2 f2
      obtain ⟨S3, e3, T3, f3⟩ := m_drips 36 b a (K b).2.2.1 v3 [] (z_sI S2 12 0 76 0) ha (M0 S2) (by decide) x1
      refine go (z_dvv (nI b) (K b).2.2.1 a v3) ([] ++ z_dt a) S2 S3 ?_ T2 f2 ?_ T3 ((fm S2).tr f3) ?_
      · have := z_dt_l a (by omega)
        rw [List.nil_append]; omega
      · rw [if_pos y0, e2, z_rI_s] at eR
        rw [eC, eR, z_rI_s]
      · rw [eM S2 x2]
        dsimp only
        rw [s_isPair 37 n _ _ x3, z_rI_s, z_b1_T h1, if_neg z_01n, s_in, z_rI_s, y0, z_b1_T (by decide), if_neg z_01n, if_pos rfl, e3, z_rI_s]
    by_cases y1 : v2 = 1
    · obtain ⟨S2, e2, T2, f2⟩ := s_steams 31 b a a (K b).2.2.1 v3 [] S1 ha ha T1 (by decide) A1
      obtain ⟨x1, x2, x3⟩ := hm2 S2 f2
      obtain ⟨S3, e3, T3, f3⟩ := m_steams 33 b a (K b).2.2.1 v3 [] (z_sI S2 12 0 76 0) ha (M0 S2) (by decide) x1
      refine go (z_sv (nI b) (K b).2.2.1 a a v3) ([] ++ z_stt a a) S2 S3 ?_ T2 f2 ?_ T3 ((fm S2).tr f3) ?_
      · have := z_stt_l a (by omega) a (by omega)
        rw [List.nil_append]; omega
      · rw [if_neg y0, if_pos y1, e2, z_rI_s] at eR
        rw [eC, eR, z_rI_s]
      · rw [eM S2 x2]
        dsimp only
        rw [s_isPair 37 n _ _ x3, z_rI_s, z_b1_T h1, if_neg z_01n, s_in, z_rI_s, y1, z_b1_T (by decide), if_neg z_01n, if_neg (by decide), if_pos rfl, e3, z_rI_s]
    by_cases y2 : v2 = 2
    · obtain ⟨S2, e2, T2, f2⟩ := s_tells 28 b a (K b).2.2.1 v3 [] S1 ha T1 (by decide) A1
      obtain ⟨x1, x2, x3⟩ := hm2 S2 f2
      obtain ⟨S3, e3, T3, f3⟩ := m_tells 31 b a (K b).2.2.1 v3 [] (z_sI S2 12 0 76 0) ha (M0 S2) (by decide) x1
      refine go (z_tv (nI b) (K b).2.2.1 a a v3) ([] ++ z_tt a a) S2 S3 ?_ T2 f2 ?_ T3 ((fm S2).tr f3) ?_
      · have := z_tt_l a (by omega)
        rw [List.nil_append]; omega
      · rw [if_neg y0, if_neg y1, if_pos y2, e2, z_rI_s] at eR
        rw [eC, eR, z_rI_s]
      · rw [eM S2 x2]
        dsimp only
        rw [s_isPair 37 n _ _ x3, z_rI_s, z_b1_T h1, if_neg z_01n, s_in, z_rI_s, y2, z_b1_T (by decide), if_neg z_01n, if_neg (by decide), if_neg (by decide), e3, z_rI_s]
    · obtain ⟨x1, x2, x3⟩ := hm2 S1 z_fx.rf
      refine go 0 [] S1 (z_sI S1 12 0 76 0) (by decide) T1 z_fx.rf ?_ (M0 S1) (fm S1) ?_
      · rw [if_neg y0, if_neg y1, if_neg y2] at eR
        rw [eC, eR, z_rI_s]
      · have hno : ¬ (0 ≤ v2 ∧ v2 ≤ 2) := by
          intro z
          obtain ⟨k, hk, rfl⟩ := z_rg (n := 2) (by omega) z
          have : k = 0 ∨ k = 1 ∨ k = 2 := by omega
          rcases this with rfl | rfl | rfl
          · exact y0 rfl
          · exact y1 rfl
          · exact y2 rfl
        rw [eM S1 x2]
        dsimp only
        rw [s_isPair 37 n _ _ x3, z_rI_s, z_b1_T h1, if_neg z_01n, s_in, z_rI_s, z_b1_F hno, if_pos rfl]
  · refine ⟨.inl 0, z_sI S 1 0 1 0, z_sI (z_sI S 1 0 1 0) 12 0 76 0, ?_, ?_, ?_⟩
    · have e : z_exe z_mt true 40 107 [.inr (.inr (11, 0)), .inl v1, .inl v2, .inl v3] S = _ := (zx_X11_act 39 S 0 v1 v2 v3).trans (ze_X11_act_0 _ _ _ _ _ _ _)
      rw [e, ef, z_rV_s, s_noPair 38 n _ (z_sI S 1 0 1 0) hn ((ff.i (by unfold z_Pam; omega)).trans c7), z_rI_s, z_b1_T h1, if_neg z_01n]
    · have e : z_exe z_mt true 40 218 [.inr (.inr (12, 0)), .inl v1, .inl v2, .inl v3] (z_sI S 1 0 1 0) = _ := (zx_X12_act 39 (z_sI S 1 0 1 0) 0 v1 v2 v3).trans (ze_X12_act_0 _ _ _ _ _ _ _)
      rw [e]
      dsimp only
      rw [s_isPair 37 n _ (z_sI (z_sI S 1 0 1 0) 12 0 76 0) (((fm _).i (by unfold z_Pam; omega)).trans ((ff.i (by unfold z_Pam; omega)).trans c12)), z_rI_s, z_b1_F h1, if_pos rfl]
    · refine hR.ac [] (by decide) (ff.tr ((fm _).wk (fun t i k q => Or.inr (Or.inr q)))) ?_ (M0 _)
      exact ⟨((fm _).i (by unfold z_Pam; omega)).trans T0.1, fun k x _ h => by cases h⟩
