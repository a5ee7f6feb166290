/-! ===== acts ===== -/
def z_trC (T : List Int32) (S : z_Mem) : Prop := S.1 1 0 1 = nI T.length ∧ ∀ k x, k < 20 → T[k]? = some x → S.1 20 0 k = x
def z_trM (T : List Int32) (S : z_Mem) : Prop := S.1 12 0 76 = nI T.length ∧ ∀ k x, k < 20 → T[k]? = some x → S.1 80 0 k = x
def z_Pac (t i k : Nat) : Prop := (t = 1 ∧ i = 0 ∧ k = 1) ∨ (t = 20 ∧ i = 0)
def z_Pam (t i k : Nat) : Prop := (t = 12 ∧ i = 0 ∧ k = 76) ∨ (t = 80 ∧ i = 0)
theorem z_snoc {T : List Int32} {x y : Int32} {k : Nat} (h : (T ++ [x])[k]? = some y) : (k = T.length ∧ y = x) ∨ (k < T.length ∧ T[k]? = some y) := by
  by_cases q : k < T.length
  · rw [List.getElem?_append_left q] at h
    exact Or.inr ⟨q, h⟩
  · rw [List.getElem?_append_right (by omega)] at h
    have hk : k - T.length = 0 := by
      have := (List.getElem?_eq_some_iff.mp h).1
      simp at this
      omega
    rw [hk] at h
    exact Or.inl ⟨by omega, (Option.some.inj h).symm⟩
theorem s_note (d : Nat) (x : Int32) (T : List Int32) (S : z_Mem) (hT : z_trC T S) (hl : T.length ≤ 60) : ∃ S', z_exe z_mt true (d + 1) 4 [.inr (.inr (1, 0)), .inl x] S = some (none, S') ∧ z_trC (T ++ [x]) S' ∧ z_fx z_Pac S S' := by
  have e : z_exe z_mt true (d + 1) 4 [.inr (.inr (1, 0)), .inl x] S = _ := (zx_X0_note d S 0 x).trans (ze_X0_note_0 _ _ _ _ _)
  obtain ⟨t1, t2⟩ := hT
  rw [t1] at e
  by_cases q : 20 ≤ T.length
  · rw [if_pos (by rw [show (20 : Int32) = nI 20 from rfl, z_le (by omega) (by omega)]; exact q)] at e
    refine ⟨_, e, ⟨?_, fun k y hk hy => ?_⟩, z_fx.sI (Or.inl ⟨rfl, rfl, rfl⟩)⟩
    · rw [z_sI1, if_pos ⟨rfl, rfl, rfl⟩, nI_1, List.length_append]; rfl
    · rw [z_sI1, if_neg (fun z => absurd z.1 (by decide))]
      rcases z_snoc hy with ⟨h1, -⟩ | ⟨h1, h2⟩
      · omega
      · exact t2 k y hk h2
  · rw [if_neg (by rw [show (20 : Int32) = nI 20 from rfl, z_le (by omega) (by omega)]; exact q), z_oob_n (k := T.length) (by omega) (by omega), z_cond_f, z_cl (by omega)] at e
    dsimp only at e
    have g : (z_sI S 20 0 T.length x).1 1 0 1 = nI T.length := by simp [z_sI1, t1]
    rw [g] at e
    refine ⟨_, e, ⟨?_, fun k y hk hy => ?_⟩, (z_fx.sI (Or.inr ⟨rfl, rfl⟩)).tr (z_fx.sI (Or.inl ⟨rfl, rfl, rfl⟩))⟩
    · rw [z_sI1, if_pos ⟨rfl, rfl, rfl⟩, nI_1, List.length_append]; rfl
    · rw [z_sI1, if_neg (fun z => absurd z.1 (by decide)), z_sI1]
      rcases z_snoc hy with ⟨h1, h2⟩ | ⟨h1, h2⟩
      · rw [if_pos ⟨rfl, rfl, h1⟩, h2]
      · rw [if_neg (fun z => by omega)]; exact t2 k y hk h2
theorem s_body (d : Nat) (x : Int32) (T : List Int32) (S : z_Mem) (hT : z_trM T S) (hl : T.length ≤ 60) : ∃ S', z_exe z_mt true (d + 1) 210 [.inr (.inr (12, 0)), .inl x] S = some (none, S') ∧ z_trM (T ++ [x]) S' ∧ z_fx z_Pam S S' := by
  have e : z_exe z_mt true (d + 1) 210 [.inr (.inr (12, 0)), .inl x] S = _ := (zx_X12_body d S 0 x).trans (ze_X12_body_0 _ _ _ _ _)
  obtain ⟨t1, t2⟩ := hT
  rw [t1] at e
  by_cases q : 20 ≤ T.length
  · rw [if_pos (by rw [show (20 : Int32) = nI 20 from rfl, z_le (by omega) (by omega)]; exact q)] at e
    refine ⟨_, e, ⟨?_, fun k y hk hy => ?_⟩, z_fx.sI (Or.inl ⟨rfl, rfl, rfl⟩)⟩
    · rw [z_sI1, if_pos ⟨rfl, rfl, rfl⟩, nI_1, List.length_append]; rfl
    · rw [z_sI1, if_neg (fun z => absurd z.1 (by decide))]
      rcases z_snoc hy with ⟨h1, -⟩ | ⟨h1, h2⟩
      · omega
      · exact t2 k y hk h2
  · rw [if_neg (by rw [show (20 : Int32) = nI 20 from rfl, z_le (by omega) (by omega)]; exact q), z_oob_n (k := T.length) (by omega) (by omega), z_cond_f, z_cl (by omega)] at e
    dsimp only at e
    have g : (z_sI S 80 0 T.length x).1 12 0 76 = nI T.length := by simp [z_sI1, t1]
    rw [g] at e
    refine ⟨_, e, ⟨?_, fun k y hk hy => ?_⟩, (z_fx.sI (Or.inr ⟨rfl, rfl⟩)).tr (z_fx.sI (Or.inl ⟨rfl, rfl, rfl⟩))⟩
    · rw [z_sI1, if_pos ⟨rfl, rfl, rfl⟩, nI_1, List.length_append]; rfl
    · rw [z_sI1, if_neg (fun z => absurd z.1 (by decide)), z_sI1]
      rcases z_snoc hy with ⟨h1, h2⟩ | ⟨h1, h2⟩
      · rw [if_pos ⟨rfl, rfl, h1⟩, h2]
      · rw [if_neg (fun z => by omega)]; exact t2 k y hk h2
/-- who acts: pair b, of kind a, with vv -/
def z_acx (b a : Nat) (vv : Int32) (S : z_Mem) : Prop := (S.2.2.1 1 0 2).2 = b ∧ S.1 2 b 0 = nI b ∧ S.1 2 b 1 = nI a ∧ S.1 2 b 2 = vv
theorem z_acx.fx {b a : Nat} {vv : Int32} {S S' : z_Mem} (h : z_acx b a vv S) (hf : z_fx z_Pac S S') : z_acx b a vv S' := by
  obtain ⟨h1, h2, h3, h4⟩ := h
  exact ⟨by rw [hf.r (by unfold z_Pac; omega)]; exact h1, (hf.i (by unfold z_Pac; omega)).trans h2, (hf.i (by unfold z_Pac; omega)).trans h3, (hf.i (by unfold z_Pac; omega)).trans h4⟩
def z_am2 (b a : Nat) (vv : Int32) (S : z_Mem) : Prop := b < 6 ∧ S.1 37 0 b = nI a ∧ S.1 38 0 b = vv
theorem z_am2.fx {b a : Nat} {vv : Int32} {S S' : z_Mem} (h : z_am2 b a vv S) (hf : z_fx z_Pam S S') : z_am2 b a vv S' := by
  obtain ⟨h1, h2, h3⟩ := h
  exact ⟨h1, (hf.i (by unfold z_Pam; omega)).trans h2, (hf.i (by unfold z_Pam; omega)).trans h3⟩
def z_dvv (b vv : Int32) (a : Nat) (x : Int32) : Int32 := match a with
  | 2 => x * 3 + b
  | 4 => -(x + b)
  | 5 => x * 3 + b
  | 6 => (x + b) ^^^ vv
  | _ => x + b
def z_dt (a : Nat) : List Int32 := match a with
  | 2 => [30, 10]
  | 4 => [50, 10]
  | 5 => [30, 10]
  | 6 => [71, 10]
  | _ => [10]
def z_sv (b vv : Int32) (a j : Nat) (x : Int32) : Int32 := match j with
  | 1 => (z_dvv b vv a x - vv) ^^^ 6
  | 4 => (z_dvv b vv a (x + 1) - vv) ^^^ 6
  | 6 => z_dvv b vv a x - vv + (2 + b)
  | _ => z_dvv b vv a x - vv
def z_stt (a j : Nat) : List Int32 := match j with
  | 1 => [20, 11] ++ z_dt a
  | 4 => [51, 20, 11] ++ z_dt a
  | 6 => [70, 11] ++ z_dt a ++ [10]
  | _ => [11] ++ z_dt a
def z_tv (b vv : Int32) (a j : Nat) (x : Int32) : Int32 := match j with
  | 3 => z_sv b vv a a x * 2 + z_sv b vv a a 1
  | 5 => z_sv b vv a a (x - b) * 2
  | 6 => z_sv b vv a a x * 2 + z_sv b vv a a 1
  | _ => z_sv b vv a a x * 2
def z_tt (a j : Nat) : List Int32 := match j with
  | 3 => [40, 12] ++ z_stt a a ++ z_stt a a
  | 5 => [60, 12] ++ z_stt a a
  | 6 => [40, 12] ++ z_stt a a ++ z_stt a a
  | _ => [12] ++ z_stt a a
theorem z_dt_l : ∀ a, a < 7 → (z_dt a).length ≤ 2 := by decide
theorem z_stt_l : ∀ a, a < 7 → ∀ j, j < 7 → (z_stt a j).length ≤ 5 := by decide
theorem s_drips0 (d b a : Nat) (vv x : Int32) (T : List Int32) (S : z_Mem) (ha : a ≤ 6) (hT : z_trC T S) (hl : T.length ≤ 55) (hA : z_acx b a vv S) : ∃ S', z_exe z_mt true (d + 2) 5 [.inr (.inr (1, 0)), .inl (nI 0), .inl x] S = some (some (.inl (x + nI b)), S') ∧ z_trC (T ++ [10]) S' ∧ z_fx z_Pac S S' := by
  have e : z_exe z_mt true (d + 2) 5 [.inr (.inr (1, 0)), .inl (nI 0), .inl x] S = _ := (zx_X0_drips (d + 1) S 0 (nI 0) x).trans (ze_X0_drips_0 _ _ _ _ _ _)
  obtain ⟨S1, e1, T1, f1⟩ := s_note d 10 T S hT (by omega)
  obtain ⟨h1, h2, h3, h4⟩ := hA.fx f1
  rw [if_pos (by decide), e1, z_rV_s, h1, h2] at e
  exact ⟨S1, e, T1, f1⟩
theorem s_drips1 (d b a : Nat) (vv x : Int32) (T : List Int32) (S : z_Mem) (ha : a ≤ 6) (hT : z_trC T S) (hl : T.length ≤ 54) (hA : z_acx b a vv S) : ∃ S', z_exe z_mt true (d + 3) 5 [.inr (.inr (1, 0)), .inl (nI 1), .inl x] S = some (some (.inl (x + nI b)), S') ∧ z_trC (T ++ [10]) S' ∧ z_fx z_Pac S S' := by
  have e : z_exe z_mt true (d + 3) 5 [.inr (.inr (1, 0)), .inl (nI 1), .inl x] S = _ := (zx_X0_drips (d + 2) S 0 (nI 1) x).trans (ze_X0_drips_0 _ _ _ _ _ _)
  obtain ⟨S1, e1, T1, f1⟩ := s_drips0 d b a vv x T S ha hT (by omega) hA
  rw [if_neg (by decide), if_pos (by decide), s_above (d + 1) (nI 1), z_rI_s, show z_ab (nI 1) = nI 0 by decide, e1, z_rI_s] at e
  exact ⟨S1, e, T1, f1⟩
theorem s_drips2 (d b a : Nat) (vv x : Int32) (T : List Int32) (S : z_Mem) (ha : a ≤ 6) (hT : z_trC T S) (hl : T.length ≤ 54) (hA : z_acx b a vv S) : ∃ S', z_exe z_mt true (d + 3) 5 [.inr (.inr (1, 0)), .inl (nI 2), .inl x] S = some (some (.inl (x * 3 + nI b)), S') ∧ z_trC (T ++ [30, 10]) S' ∧ z_fx z_Pac S S' := by
  have e : z_exe z_mt true (d + 3) 5 [.inr (.inr (1, 0)), .inl (nI 2), .inl x] S = _ := (zx_X0_drips (d + 2) S 0 (nI 2) x).trans (ze_X0_drips_0 _ _ _ _ _ _)
  obtain ⟨S0, e0, T0, f0⟩ := s_note (d + 1) 30 T S hT (by omega)
  have hA0 := hA.fx f0
  obtain ⟨S1, e1, T1, f1⟩ := s_drips0 d b a vv (x * 3) (T ++ [30]) S0 ha T0 (by rw [List.length_append]; show T.length + 1 ≤ _; omega) hA0
  obtain ⟨h1, h2, h3, h4⟩ := hA0.fx f1
  obtain ⟨z1, z2, z3, z4⟩ := hA0
  have eab : z_exe z_mt true (d + 2) 41 [.inl (2 : Int32)] S0 = some (some (.inl (nI 0)), S0) := s_above (d + 1) 2 S0
  rw [if_neg (by decide), if_neg (by decide), if_pos (by decide), e0, z_rV_s, eab, z_rI_s, e1, z_rI_s] at e
  rw [List.append_assoc] at T1
  exact ⟨S1, e, T1, f0.tr f1⟩
theorem s_drips3 (d b a : Nat) (vv x : Int32) (T : List Int32) (S : z_Mem) (ha : a ≤ 6) (hT : z_trC T S) (hl : T.length ≤ 54) (hA : z_acx b a vv S) : ∃ S', z_exe z_mt true (d + 3) 5 [.inr (.inr (1, 0)), .inl (nI 3), .inl x] S = some (some (.inl (x + nI b)), S') ∧ z_trC (T ++ [10]) S' ∧ z_fx z_Pac S S' := by
  have e : z_exe z_mt true (d + 3) 5 [.inr (.inr (1, 0)), .inl (nI 3), .inl x] S = _ := (zx_X0_drips (d + 2) S 0 (nI 3) x).trans (ze_X0_drips_0 _ _ _ _ _ _)
  obtain ⟨S1, e1, T1, f1⟩ := s_drips0 d b a vv x T S ha hT (by omega) hA
  rw [if_neg (by decide), if_neg (by decide), if_neg (by decide), if_pos (by decide), s_above (d + 1) (nI 3), z_rI_s, show z_ab (nI 3) = nI 0 by decide, e1, z_rI_s] at e
  exact ⟨S1, e, T1, f1⟩
theorem s_drips4 (d b a : Nat) (vv x : Int32) (T : List Int32) (S : z_Mem) (ha : a ≤ 6) (hT : z_trC T S) (hl : T.length ≤ 53) (hA : z_acx b a vv S) : ∃ S', z_exe z_mt true (d + 4) 5 [.inr (.inr (1, 0)), .inl (nI 4), .inl x] S = some (some (.inl (-(x + nI b))), S') ∧ z_trC (T ++ [50, 10]) S' ∧ z_fx z_Pac S S' := by
  have e : z_exe z_mt true (d + 4) 5 [.inr (.inr (1, 0)), .inl (nI 4), .inl x] S = _ := (zx_X0_drips (d + 3) S 0 (nI 4) x).trans (ze_X0_drips_0 _ _ _ _ _ _)
  obtain ⟨S0, e0, T0, f0⟩ := s_note (d + 2) 50 T S hT (by omega)
  have hA0 := hA.fx f0
  obtain ⟨S1, e1, T1, f1⟩ := s_drips1 d b a vv (x) (T ++ [50]) S0 ha T0 (by rw [List.length_append]; show T.length + 1 ≤ _; omega) hA0
  obtain ⟨h1, h2, h3, h4⟩ := hA0.fx f1
  obtain ⟨z1, z2, z3, z4⟩ := hA0
  have eab : z_exe z_mt true (d + 3) 41 [.inl (4 : Int32)] S0 = some (some (.inl (nI 1)), S0) := s_above (d + 2) 4 S0
  rw [if_neg (by decide), if_neg (by decide), if_neg (by decide), if_neg (by decide), if_pos (by decide), e0, z_rV_s, eab, z_rI_s, e1, z_rI_s] at e
  rw [List.append_assoc] at T1
  exact ⟨S1, e, T1, f0.tr f1⟩
theorem s_drips5 (d b a : Nat) (vv x : Int32) (T : List Int32) (S : z_Mem) (ha : a ≤ 6) (hT : z_trC T S) (hl : T.length ≤ 53) (hA : z_acx b a vv S) : ∃ S', z_exe z_mt true (d + 4) 5 [.inr (.inr (1, 0)), .inl (nI 5), .inl x] S = some (some (.inl (x * 3 + nI b)), S') ∧ z_trC (T ++ [30, 10]) S' ∧ z_fx z_Pac S S' := by
  have e : z_exe z_mt true (d + 4) 5 [.inr (.inr (1, 0)), .inl (nI 5), .inl x] S = _ := (zx_X0_drips (d + 3) S 0 (nI 5) x).trans (ze_X0_drips_0 _ _ _ _ _ _)
  obtain ⟨S1, e1, T1, f1⟩ := s_drips2 d b a vv x T S ha hT (by omega) hA
  rw [if_neg (by decide), if_neg (by decide), if_neg (by decide), if_neg (by decide), if_neg (by decide), if_pos (by decide), s_above (d + 2) (nI 5), z_rI_s, show z_ab (nI 5) = nI 2 by decide, e1, z_rI_s] at e
  exact ⟨S1, e, T1, f1⟩
theorem s_drips6 (d b a : Nat) (vv x : Int32) (T : List Int32) (S : z_Mem) (ha : a ≤ 6) (hT : z_trC T S) (hl : T.length ≤ 53) (hA : z_acx b a vv S) : ∃ S', z_exe z_mt true (d + 4) 5 [.inr (.inr (1, 0)), .inl (nI 6), .inl x] S = some (some (.inl ((x + nI b) ^^^ vv)), S') ∧ z_trC (T ++ [71, 10]) S' ∧ z_fx z_Pac S S' := by
  have e : z_exe z_mt true (d + 4) 5 [.inr (.inr (1, 0)), .inl (nI 6), .inl x] S = _ := (zx_X0_drips (d + 3) S 0 (nI 6) x).trans (ze_X0_drips_0 _ _ _ _ _ _)
  obtain ⟨S0, e0, T0, f0⟩ := s_note (d + 2) 71 T S hT (by omega)
  have hA0 := hA.fx f0
  obtain ⟨S1, e1, T1, f1⟩ := s_drips3 d b a vv (x) (T ++ [71]) S0 ha T0 (by rw [List.length_append]; show T.length + 1 ≤ _; omega) hA0
  obtain ⟨h1, h2, h3, h4⟩ := hA0.fx f1
  obtain ⟨z1, z2, z3, z4⟩ := hA0
  have eab : z_exe z_mt true (d + 3) 41 [.inl (6 : Int32)] S0 = some (some (.inl (nI 3)), S0) := s_above (d + 2) 6 S0
  rw [if_neg (by decide), if_neg (by decide), if_neg (by decide), if_neg (by decide), if_neg (by decide), if_neg (by decide), if_pos (by decide), e0, z_rV_s, eab, z_rI_s, e1, z_rI_s, h1, h4] at e
  rw [List.append_assoc] at T1
  exact ⟨S1, e, T1, f0.tr f1⟩
theorem s_drips (d b a j : Nat) (vv x : Int32) (T : List Int32) (S : z_Mem) (ha : a ≤ 6) (hj : j ≤ 6) (hT : z_trC T S) (hl : T.length ≤ 50) (hA : z_acx b a vv S) : ∃ S', z_exe z_mt true (d + 4) 5 [.inr (.inr (1, 0)), .inl (nI j), .inl x] S = some (some (.inl (z_dvv (nI b) vv j x)), S') ∧ z_trC (T ++ z_dt j) S' ∧ z_fx z_Pac S S' := by
  have hc : j = 0 ∨ j = 1 ∨ j = 2 ∨ j = 3 ∨ j = 4 ∨ j = 5 ∨ j = 6 := by omega
  rcases hc with rfl | rfl | rfl | rfl | rfl | rfl | rfl
  · exact s_drips0 (d + 2) b a vv x T S ha hT (by omega) hA
  · exact s_drips1 (d + 1) b a vv x T S ha hT (by omega) hA
  · exact s_drips2 (d + 1) b a vv x T S ha hT (by omega) hA
  · exact s_drips3 (d + 1) b a vv x T S ha hT (by omega) hA
  · exact s_drips4 d b a vv x T S ha hT (by omega) hA
  · exact s_drips5 d b a vv x T S ha hT (by omega) hA
  · exact s_drips6 d b a vv x T S ha hT (by omega) hA
theorem s_steams0 (d b a : Nat) (vv x : Int32) (T : List Int32) (S : z_Mem) (ha : a ≤ 6) (hT : z_trC T S) (hl : T.length ≤ 45) (hA : z_acx b a vv S) : ∃ S', z_exe z_mt true (d + 5) 6 [.inr (.inr (1, 0)), .inl (nI 0), .inl x] S = some (some (.inl (z_dvv (nI b) vv a x - vv)), S') ∧ z_trC (T ++ ([11] ++ z_dt a)) S' ∧ z_fx z_Pac S S' := by
  have e : z_exe z_mt true (d + 5) 6 [.inr (.inr (1, 0)), .inl (nI 0), .inl x] S = _ := (zx_X0_steams (d + 4) S 0 (nI 0) x).trans (ze_X0_steams_0 _ _ _ _ _ _)
  obtain ⟨S0, e0, T0, f0⟩ := s_note (d + 3) 11 T S hT (by omega)
  have hA0 := hA.fx f0
  obtain ⟨S1, e1, T1, f1⟩ := s_drips d b a a vv x (T ++ [11]) S0 ha ha T0 (by rw [List.length_append]; show T.length + 1 ≤ _; omega) hA0
  obtain ⟨h1, h2, h3, h4⟩ := hA0.fx f1
  obtain ⟨z1, z2, z3, z4⟩ := hA0
  rw [if_pos (by decide), e0, z_rV_s, z1, z3, e1, z_rI_s, h1, h4] at e
  rw [List.append_assoc] at T1
  exact ⟨S1, e, T1, f0.tr f1⟩
theorem s_steams1 (d b a : Nat) (vv x : Int32) (T : List Int32) (S : z_Mem) (ha : a ≤ 6) (hT : z_trC T S) (hl : T.length ≤ 44) (hA : z_acx b a vv S) : ∃ S', z_exe z_mt true (d + 6) 6 [.inr (.inr (1, 0)), .inl (nI 1), .inl x] S = some (some (.inl ((z_dvv (nI b) vv a x - vv) ^^^ 6)), S') ∧ z_trC (T ++ ([20, 11] ++ z_dt a)) S' ∧ z_fx z_Pac S S' := by
  have e : z_exe z_mt true (d + 6) 6 [.inr (.inr (1, 0)), .inl (nI 1), .inl x] S = _ := (zx_X0_steams (d + 5) S 0 (nI 1) x).trans (ze_X0_steams_0 _ _ _ _ _ _)
  obtain ⟨S0, e0, T0, f0⟩ := s_note (d + 4) 20 T S hT (by omega)
  have hA0 := hA.fx f0
  obtain ⟨S1, e1, T1, f1⟩ := s_steams0 d b a vv (x) (T ++ [20]) S0 ha T0 (by rw [List.length_append]; show T.length + 1 ≤ _; omega) hA0
  obtain ⟨h1, h2, h3, h4⟩ := hA0.fx f1
  obtain ⟨z1, z2, z3, z4⟩ := hA0
  have eab : z_exe z_mt true (d + 5) 41 [.inl (1 : Int32)] S0 = some (some (.inl (nI 0)), S0) := s_above (d + 4) 1 S0
  rw [if_neg (by decide), if_pos (by decide), e0, z_rV_s, eab, z_rI_s, e1, z_rI_s] at e
  rw [List.append_assoc] at T1
  exact ⟨S1, e, T1, f0.tr f1⟩
theorem s_steams2 (d b a : Nat) (vv x : Int32) (T : List Int32) (S : z_Mem) (ha : a ≤ 6) (hT : z_trC T S) (hl : T.length ≤ 44) (hA : z_acx b a vv S) : ∃ S', z_exe z_mt true (d + 6) 6 [.inr (.inr (1, 0)), .inl (nI 2), .inl x] S = some (some (.inl (z_dvv (nI b) vv a x - vv)), S') ∧ z_trC (T ++ ([11] ++ z_dt a)) S' ∧ z_fx z_Pac S S' := by
  have e : z_exe z_mt true (d + 6) 6 [.inr (.inr (1, 0)), .inl (nI 2), .inl x] S = _ := (zx_X0_steams (d + 5) S 0 (nI 2) x).trans (ze_X0_steams_0 _ _ _ _ _ _)
  obtain ⟨S1, e1, T1, f1⟩ := s_steams0 d b a vv x T S ha hT (by omega) hA
  rw [if_neg (by decide), if_neg (by decide), if_pos (by decide), s_above (d + 4) (nI 2), z_rI_s, show z_ab (nI 2) = nI 0 by decide, e1, z_rI_s] at e
  exact ⟨S1, e, T1, f1⟩
theorem s_steams3 (d b a : Nat) (vv x : Int32) (T : List Int32) (S : z_Mem) (ha : a ≤ 6) (hT : z_trC T S) (hl : T.length ≤ 44) (hA : z_acx b a vv S) : ∃ S', z_exe z_mt true (d + 6) 6 [.inr (.inr (1, 0)), .inl (nI 3), .inl x] S = some (some (.inl (z_dvv (nI b) vv a x - vv)), S') ∧ z_trC (T ++ ([11] ++ z_dt a)) S' ∧ z_fx z_Pac S S' := by
  have e : z_exe z_mt true (d + 6) 6 [.inr (.inr (1, 0)), .inl (nI 3), .inl x] S = _ := (zx_X0_steams (d + 5) S 0 (nI 3) x).trans (ze_X0_steams_0 _ _ _ _ _ _)
  obtain ⟨S1, e1, T1, f1⟩ := s_steams0 d b a vv x T S ha hT (by omega) hA
  rw [if_neg (by decide), if_neg (by decide), if_neg (by decide), if_pos (by decide), s_above (d + 4) (nI 3), z_rI_s, show z_ab (nI 3) = nI 0 by decide, e1, z_rI_s] at e
  exact ⟨S1, e, T1, f1⟩
theorem s_steams4 (d b a : Nat) (vv x : Int32) (T : List Int32) (S : z_Mem) (ha : a ≤ 6) (hT : z_trC T S) (hl : T.length ≤ 43) (hA : z_acx b a vv S) : ∃ S', z_exe z_mt true (d + 7) 6 [.inr (.inr (1, 0)), .inl (nI 4), .inl x] S = some (some (.inl ((z_dvv (nI b) vv a (x + 1) - vv) ^^^ 6)), S') ∧ z_trC (T ++ ([51, 20, 11] ++ z_dt a)) S' ∧ z_fx z_Pac S S' := by
  have e : z_exe z_mt true (d + 7) 6 [.inr (.inr (1, 0)), .inl (nI 4), .inl x] S = _ := (zx_X0_steams (d + 6) S 0 (nI 4) x).trans (ze_X0_steams_0 _ _ _ _ _ _)
  obtain ⟨S0, e0, T0, f0⟩ := s_note (d + 5) 51 T S hT (by omega)
  have hA0 := hA.fx f0
  obtain ⟨S1, e1, T1, f1⟩ := s_steams1 d b a vv (x + 1) (T ++ [51]) S0 ha T0 (by rw [List.length_append]; show T.length + 1 ≤ _; omega) hA0
  obtain ⟨h1, h2, h3, h4⟩ := hA0.fx f1
  obtain ⟨z1, z2, z3, z4⟩ := hA0
  have eab : z_exe z_mt true (d + 6) 41 [.inl (4 : Int32)] S0 = some (some (.inl (nI 1)), S0) := s_above (d + 5) 4 S0
  rw [if_neg (by decide), if_neg (by decide), if_neg (by decide), if_neg (by decide), if_pos (by decide), e0, z_rV_s, eab, z_rI_s, e1, z_rI_s] at e
  rw [List.append_assoc] at T1
  exact ⟨S1, e, T1, f0.tr f1⟩
theorem s_steams5 (d b a : Nat) (vv x : Int32) (T : List Int32) (S : z_Mem) (ha : a ≤ 6) (hT : z_trC T S) (hl : T.length ≤ 43) (hA : z_acx b a vv S) : ∃ S', z_exe z_mt true (d + 7) 6 [.inr (.inr (1, 0)), .inl (nI 5), .inl x] S = some (some (.inl (z_dvv (nI b) vv a x - vv)), S') ∧ z_trC (T ++ ([11] ++ z_dt a)) S' ∧ z_fx z_Pac S S' := by
  have e : z_exe z_mt true (d + 7) 6 [.inr (.inr (1, 0)), .inl (nI 5), .inl x] S = _ := (zx_X0_steams (d + 6) S 0 (nI 5) x).trans (ze_X0_steams_0 _ _ _ _ _ _)
  obtain ⟨S1, e1, T1, f1⟩ := s_steams2 d b a vv x T S ha hT (by omega) hA
  rw [if_neg (by decide), if_neg (by decide), if_neg (by decide), if_neg (by decide), if_neg (by decide), if_pos (by decide), s_above (d + 5) (nI 5), z_rI_s, show z_ab (nI 5) = nI 2 by decide, e1, z_rI_s] at e
  exact ⟨S1, e, T1, f1⟩
theorem s_steams6 (d b a : Nat) (vv x : Int32) (T : List Int32) (S : z_Mem) (ha : a ≤ 6) (hT : z_trC T S) (hl : T.length ≤ 40) (hA : z_acx b a vv S) : ∃ S', z_exe z_mt true (d + 7) 6 [.inr (.inr (1, 0)), .inl (nI 6), .inl x] S = some (some (.inl (z_dvv (nI b) vv a x - vv + (2 + nI b))), S') ∧ z_trC (T ++ ([70, 11] ++ z_dt a ++ [10])) S' ∧ z_fx z_Pac S S' := by
  have e : z_exe z_mt true (d + 7) 6 [.inr (.inr (1, 0)), .inl (nI 6), .inl x] S = _ := (zx_X0_steams (d + 6) S 0 (nI 6) x).trans (ze_X0_steams_0 _ _ _ _ _ _)
  obtain ⟨S0, e0, T0, f0⟩ := s_note (d + 5) 70 T S hT (by omega)
  have hA0 := hA.fx f0
  have hl2 := z_dt_l a (by omega)
  obtain ⟨S1, e1, T1, f1⟩ := s_steams3 d b a vv x (T ++ [70]) S0 ha T0 (by rw [List.length_append]; show T.length + 1 ≤ _; omega) hA0
  have hA1 := hA0.fx f1
  obtain ⟨S2, e2, T2, f2⟩ := s_drips3 (d + 3) b a vv 2 (T ++ [70] ++ ([11] ++ z_dt a)) S1 ha T1 (by simp only [List.length_append, List.length_cons, List.length_nil]; omega) hA1
  have eab : ∀ S, z_exe z_mt true (d + 6) 41 [.inl (6 : Int32)] S = some (some (.inl (nI 3)), S) := fun S => s_above (d + 5) 6 S
  rw [if_neg (by decide), if_neg (by decide), if_neg (by decide), if_neg (by decide), if_neg (by decide), if_neg (by decide), if_pos (by decide), e0, z_rV_s, eab, z_rI_s, e1, z_rI_s, eab, z_rI_s, e2, z_rI_s] at e
  refine ⟨S2, e, ?_, (f0.tr f1).tr f2⟩
  have el : T ++ [70] ++ ([11] ++ z_dt a) ++ [10] = T ++ ([70, 11] ++ z_dt a ++ [10]) := by simp
  rw [← el]
  exact T2
theorem s_steams (d b a j : Nat) (vv x : Int32) (T : List Int32) (S : z_Mem) (ha : a ≤ 6) (hj : j ≤ 6) (hT : z_trC T S) (hl : T.length ≤ 40) (hA : z_acx b a vv S) : ∃ S', z_exe z_mt true (d + 7) 6 [.inr (.inr (1, 0)), .inl (nI j), .inl x] S = some (some (.inl (z_sv (nI b) vv a j x)), S') ∧ z_trC (T ++ z_stt a j) S' ∧ z_fx z_Pac S S' := by
  have hc : j = 0 ∨ j = 1 ∨ j = 2 ∨ j = 3 ∨ j = 4 ∨ j = 5 ∨ j = 6 := by omega
  rcases hc with rfl | rfl | rfl | rfl | rfl | rfl | rfl
  · exact s_steams0 (d + 2) b a vv x T S ha hT (by omega) hA
  · exact s_steams1 (d + 1) b a vv x T S ha hT (by omega) hA
  · exact s_steams2 (d + 1) b a vv x T S ha hT (by omega) hA
  · exact s_steams3 (d + 1) b a vv x T S ha hT (by omega) hA
  · exact s_steams4 d b a vv x T S ha hT (by omega) hA
  · exact s_steams5 d b a vv x T S ha hT (by omega) hA
  · exact s_steams6 d b a vv x T S ha hT (by omega) hA
theorem s_tells0 (d b a : Nat) (vv x : Int32) (T : List Int32) (S : z_Mem) (ha : a ≤ 6) (hT : z_trC T S) (hl : T.length ≤ 35) (hA : z_acx b a vv S) : ∃ S', z_exe z_mt true (d + 8) 7 [.inr (.inr (1, 0)), .inl (nI 0), .inl x] S = some (some (.inl (z_sv (nI b) vv a a x * 2)), S') ∧ z_trC (T ++ ([12] ++ z_stt a a)) S' ∧ z_fx z_Pac S S' := by
  have e : z_exe z_mt true (d + 8) 7 [.inr (.inr (1, 0)), .inl (nI 0), .inl x] S = _ := (zx_X0_tells (d + 7) S 0 (nI 0) x).trans (ze_X0_tells_0 _ _ _ _ _ _)
  obtain ⟨S0, e0, T0, f0⟩ := s_note (d + 6) 12 T S hT (by omega)
  have hA0 := hA.fx f0
  obtain ⟨S1, e1, T1, f1⟩ := s_steams d b a a vv x (T ++ [12]) S0 ha ha T0 (by rw [List.length_append]; show T.length + 1 ≤ _; omega) hA0
  obtain ⟨z1, z2, z3, z4⟩ := hA0
  rw [if_pos (by decide), e0, z_rV_s, z1, z3, e1, z_rI_s] at e
  rw [List.append_assoc] at T1
  exact ⟨S1, e, T1, f0.tr f1⟩
theorem s_tells1 (d b a : Nat) (vv x : Int32) (T : List Int32) (S : z_Mem) (ha : a ≤ 6) (hT : z_trC T S) (hl : T.length ≤ 34) (hA : z_acx b a vv S) : ∃ S', z_exe z_mt true (d + 9) 7 [.inr (.inr (1, 0)), .inl (nI 1), .inl x] S = some (some (.inl (z_sv (nI b) vv a a x * 2)), S') ∧ z_trC (T ++ ([12] ++ z_stt a a)) S' ∧ z_fx z_Pac S S' := by
  have e : z_exe z_mt true (d + 9) 7 [.inr (.inr (1, 0)), .inl (nI 1), .inl x] S = _ := (zx_X0_tells (d + 8) S 0 (nI 1) x).trans (ze_X0_tells_0 _ _ _ _ _ _)
  obtain ⟨S1, e1, T1, f1⟩ := s_tells0 d b a vv x T S ha hT (by omega) hA
  rw [if_neg (by decide), if_neg (by decide), if_neg (by decide), s_above (d + 7) (nI 1), z_rI_s, show z_ab (nI 1) = nI 0 by decide, e1, z_rI_s] at e
  exact ⟨S1, e, T1, f1⟩
theorem s_tells2 (d b a : Nat) (vv x : Int32) (T : List Int32) (S : z_Mem) (ha : a ≤ 6) (hT : z_trC T S) (hl : T.length ≤ 34) (hA : z_acx b a vv S) : ∃ S', z_exe z_mt true (d + 9) 7 [.inr (.inr (1, 0)), .inl (nI 2), .inl x] S = some (some (.inl (z_sv (nI b) vv a a x * 2)), S') ∧ z_trC (T ++ ([12] ++ z_stt a a)) S' ∧ z_fx z_Pac S S' := by
  have e : z_exe z_mt true (d + 9) 7 [.inr (.inr (1, 0)), .inl (nI 2), .inl x] S = _ := (zx_X0_tells (d + 8) S 0 (nI 2) x).trans (ze_X0_tells_0 _ _ _ _ _ _)
  obtain ⟨S1, e1, T1, f1⟩ := s_tells0 d b a vv x T S ha hT (by omega) hA
  rw [if_neg (by decide), if_neg (by decide), if_neg (by decide), s_above (d + 7) (nI 2), z_rI_s, show z_ab (nI 2) = nI 0 by decide, e1, z_rI_s] at e
  exact ⟨S1, e, T1, f1⟩
theorem s_tells4 (d b a : Nat) (vv x : Int32) (T : List Int32) (S : z_Mem) (ha : a ≤ 6) (hT : z_trC T S) (hl : T.length ≤ 33) (hA : z_acx b a vv S) : ∃ S', z_exe z_mt true (d + 10) 7 [.inr (.inr (1, 0)), .inl (nI 4), .inl x] S = some (some (.inl (z_sv (nI b) vv a a x * 2)), S') ∧ z_trC (T ++ ([12] ++ z_stt a a)) S' ∧ z_fx z_Pac S S' := by
  have e : z_exe z_mt true (d + 10) 7 [.inr (.inr (1, 0)), .inl (nI 4), .inl x] S = _ := (zx_X0_tells (d + 9) S 0 (nI 4) x).trans (ze_X0_tells_0 _ _ _ _ _ _)
  obtain ⟨S1, e1, T1, f1⟩ := s_tells1 d b a vv x T S ha hT (by omega) hA
  rw [if_neg (by decide), if_neg (by decide), if_neg (by decide), s_above (d + 8) (nI 4), z_rI_s, show z_ab (nI 4) = nI 1 by decide, e1, z_rI_s] at e
  exact ⟨S1, e, T1, f1⟩
theorem s_tells3 (d b a : Nat) (vv x : Int32) (T : List Int32) (S : z_Mem) (ha : a ≤ 6) (hT : z_trC T S) (hl : T.length ≤ 25) (hA : z_acx b a vv S) : ∃ S', z_exe z_mt true (d + 9) 7 [.inr (.inr (1, 0)), .inl (nI 3), .inl x] S = some (some (.inl (z_sv (nI b) vv a a x * 2 + z_sv (nI b) vv a a 1)), S') ∧ z_trC (T ++ ([40, 12] ++ z_stt a a ++ z_stt a a)) S' ∧ z_fx z_Pac S S' := by
  have e : z_exe z_mt true (d + 9) 7 [.inr (.inr (1, 0)), .inl (nI 3), .inl x] S = _ := (zx_X0_tells (d + 8) S 0 (nI 3) x).trans (ze_X0_tells_0 _ _ _ _ _ _)
  obtain ⟨S0, e0, T0, f0⟩ := s_note (d + 7) 40 T S hT (by omega)
  have hA0 := hA.fx f0
  have hl2 := z_stt_l a (by omega) a (by omega)
  obtain ⟨S1, e1, T1, f1⟩ := s_tells0 d b a vv x (T ++ [40]) S0 ha T0 (by rw [List.length_append]; show T.length + 1 ≤ _; omega) hA0
  have hA1 := hA0.fx f1
  obtain ⟨S2, e2, T2, f2⟩ := s_steams (d + 1) b a a vv 1 (T ++ [40] ++ ([12] ++ z_stt a a)) S1 ha ha T1 (by simp only [List.length_append, List.length_cons, List.length_nil]; omega) hA1
  obtain ⟨h1, h2, h3, h4⟩ := hA1
  have eab : ∀ S, z_exe z_mt true (d + 8) 41 [.inl (3 : Int32)] S = some (some (.inl (nI 0)), S) := fun S => s_above (d + 7) 3 S
  rw [if_neg (by decide), if_pos (by decide), e0, z_rV_s, eab, z_rI_s, e1, z_rI_s, h1, h3, e2, z_rI_s] at e
  refine ⟨S2, e, ?_, (f0.tr f1).tr f2⟩
  have el : T ++ [40] ++ ([12] ++ z_stt a a) ++ z_stt a a = T ++ ([40, 12] ++ z_stt a a ++ z_stt a a) := by simp
  rw [← el]
  exact T2
theorem s_tells5 (d b a : Nat) (vv x : Int32) (T : List Int32) (S : z_Mem) (ha : a ≤ 6) (hT : z_trC T S) (hl : T.length ≤ 30) (hA : z_acx b a vv S) : ∃ S', z_exe z_mt true (d + 10) 7 [.inr (.inr (1, 0)), .inl (nI 5), .inl x] S = some (some (.inl (z_sv (nI b) vv a a (x - nI b) * 2)), S') ∧ z_trC (T ++ ([60, 12] ++ z_stt a a)) S' ∧ z_fx z_Pac S S' := by
  have e : z_exe z_mt true (d + 10) 7 [.inr (.inr (1, 0)), .inl (nI 5), .inl x] S = _ := (zx_X0_tells (d + 9) S 0 (nI 5) x).trans (ze_X0_tells_0 _ _ _ _ _ _)
  obtain ⟨S0, e0, T0, f0⟩ := s_note (d + 8) 60 T S hT (by omega)
  have hA0 := hA.fx f0
  obtain ⟨S1, e1, T1, f1⟩ := s_tells2 d b a vv (x - nI b) (T ++ [60]) S0 ha T0 (by rw [List.length_append]; show T.length + 1 ≤ _; omega) hA0
  obtain ⟨z1, z2, z3, z4⟩ := hA0
  have eab : ∀ S, z_exe z_mt true (d + 9) 41 [.inl (5 : Int32)] S = some (some (.inl (nI 2)), S) := fun S => s_above (d + 8) 5 S
  rw [if_neg (by decide), if_neg (by decide), if_pos (by decide), e0, z_rV_s, eab, z_rI_s, z1, z2, e1, z_rI_s] at e
  rw [List.append_assoc] at T1
  exact ⟨S1, e, T1, f0.tr f1⟩
theorem s_tells6 (d b a : Nat) (vv x : Int32) (T : List Int32) (S : z_Mem) (ha : a ≤ 6) (hT : z_trC T S) (hl : T.length ≤ 25) (hA : z_acx b a vv S) : ∃ S', z_exe z_mt true (d + 10) 7 [.inr (.inr (1, 0)), .inl (nI 6), .inl x] S = some (some (.inl (z_sv (nI b) vv a a x * 2 + z_sv (nI b) vv a a 1)), S') ∧ z_trC (T ++ ([40, 12] ++ z_stt a a ++ z_stt a a)) S' ∧ z_fx z_Pac S S' := by
  have e : z_exe z_mt true (d + 10) 7 [.inr (.inr (1, 0)), .inl (nI 6), .inl x] S = _ := (zx_X0_tells (d + 9) S 0 (nI 6) x).trans (ze_X0_tells_0 _ _ _ _ _ _)
  obtain ⟨S1, e1, T1, f1⟩ := s_tells3 d b a vv x T S ha hT (by omega) hA
  rw [if_neg (by decide), if_neg (by decide), if_neg (by decide), s_above (d + 8) (nI 6), z_rI_s, show z_ab (nI 6) = nI 3 by decide, e1, z_rI_s] at e
  exact ⟨S1, e, T1, f1⟩
theorem s_tells (d b a : Nat) (vv x : Int32) (T : List Int32) (S : z_Mem) (ha : a ≤ 6) (hT : z_trC T S) (hl : T.length ≤ 20) (hA : z_acx b a vv S) : ∃ S', z_exe z_mt true (d + 10) 7 [.inr (.inr (1, 0)), .inl (nI a), .inl x] S = some (some (.inl (z_tv (nI b) vv a a x)), S') ∧ z_trC (T ++ z_tt a a) S' ∧ z_fx z_Pac S S' := by
  have hc : a = 0 ∨ a = 1 ∨ a = 2 ∨ a = 3 ∨ a = 4 ∨ a = 5 ∨ a = 6 := by omega
  rcases hc with rfl | rfl | rfl | rfl | rfl | rfl | rfl
  · exact s_tells0 (d + 2) b 0 vv x T S ha hT (by omega) hA
  · exact s_tells1 (d + 1) b 1 vv x T S ha hT (by omega) hA
  · exact s_tells2 (d + 1) b 2 vv x T S ha hT (by omega) hA
  · exact s_tells3 (d + 1) b 3 vv x T S ha hT (by omega) hA
  · exact s_tells4 d b 4 vv x T S ha hT (by omega) hA
  · exact s_tells5 d b 5 vv x T S ha hT (by omega) hA
  · exact s_tells6 d b 6 vv x T S ha hT (by omega) hA
