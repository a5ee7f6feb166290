/-! ===== put ===== -/
/-- the places, once pair b goes to p, and who was there goes where b was -/
def z_np (K : Nat → z_K) (n b : Nat) (p : Int32) (b' : Nat) : Int32 := if b' = b then p else if nI b' = z_pw K n p then (K b).2.2.2.1 else (K b').2.2.2.1
theorem z_pw_is (K : Nat → z_K) (n : Nat) (p : Int32) : (z_pw K n p = -5 ∧ ∀ k, k < n → (K k).2.2.2.1 ≠ p) ∨ ∃ k, k < n ∧ z_pw K n p = nI k ∧ (K k).2.2.2.1 = p := by
  rcases z_who_is (f := fun b => (K b).2.2.2.1) (x := p) n 0 with ⟨h1, h2⟩ | ⟨k, h1, h2, h3, h4⟩
  · exact Or.inl ⟨h1, fun k hk => h2 k (Nat.zero_le _) (by omega)⟩
  · exact Or.inr ⟨k, by omega, h3, h4⟩
theorem z_nI5 {b : Nat} (h : b < 6) : ¬ nI b = -5 := by
  intro q
  have := nI_pos' (n := b) (by omega)
  rw [q] at this
  exact absurd this (by decide)
/-- the model's move -/
theorem s_comesTo (d n b : Nat) (p : Int32) (K : Nat → z_K) (S : z_Mem) (hn : n ≤ 6) (hb : b < n) (h12 : S.1 12 0 0 = nI n) (hpl : ∀ k, k < n → S.1 40 0 k = (K k).2.2.2.1) :
    ∃ S', z_exe z_mt true (d + 2) 136 [.inr (.inr (12, 0)), .inl (nI b), .inl p] S = some (none, S') ∧ z_fx (fun t i k => t = 40 ∧ i = 0 ∧ k < 6) S S' ∧ ∀ k, k < n → S'.1 40 0 k = z_np K n b p k := by
  have e : z_exe z_mt true (d + 2) 136 [.inr (.inr (12, 0)), .inl (nI b), .inl p] S = _ := (zx_X12_comesTo (d + 1) S 0 (nI b) p).trans (ze_X12_comesTo_0 _ _ _ _ _ _)
  have ew : z_who (fun b => S.1 40 0 b) p 0 n = z_pw K n p := z_who_cg n 0 (fun k _ hk => hpl k (by omega))
  rw [s_whoIs d n p S hn h12, z_rI_s, ew] at e
  rcases z_pw_is K n p with ⟨h1, h2⟩ | ⟨o, h1, h2, h3⟩
  · rw [h1, if_pos (by decide), z_oob_n (k := b) (by omega) (by omega), z_cond_f, z_cl (k := b) (by omega)] at e
    refine ⟨_, e, z_fx.sI ⟨rfl, rfl, by omega⟩, fun k hk => ?_⟩
    unfold z_np
    by_cases q : k = b
    · simp [z_sI1, q]
    · rw [if_neg q, h1, if_neg (z_nI5 (by omega)), ← hpl k hk]
      simp [z_sI1, q]
  · rw [h2, if_neg (nI_pos (by omega)), z_oob_n (k := b) (by omega) (by omega), z_oob_n (k := o) (by omega) (by omega)] at e
    simp only [z_cond_f] at e
    rw [z_cl (k := b) (by omega), z_cl (k := o) (by omega)] at e
    refine ⟨_, e, (z_fx.sI ⟨rfl, rfl, by omega⟩).tr (z_fx.sI ⟨rfl, rfl, by omega⟩), fun k hk => ?_⟩
    unfold z_np
    by_cases q : k = b
    · simp [z_sI1, q]
    · rw [if_neg q, h2]
      by_cases z : k = o
      · rw [if_pos (by rw [z]), ← hpl b hb]
        have : ¬ o = b := fun y => q (z.trans y)
        simp [z_sI1, z, this]
      · rw [if_neg (fun y => z ((nI_eq (by omega) (by omega)).mp y)), ← hpl k hk]
        simp [z_sI1, q, z]
theorem c_put (S : z_Mem) (hR : z_RL S) (v1 v2 : Int32) : z_both 79 137 [.inl v1, .inl v2] S := by
  obtain ⟨hts, hN, ⟨n, hr, h, c0, ht, wd, H, K, W, C, hA, hB⟩, hI, hT, hP, hAc⟩ := id hR
  obtain ⟨⟨hn, hhr, hwd, hH, hts6⟩, hh6⟩ := hA.1
  have hC := fun b hb => (hA.2.2 b hb).1.2.2
  have c7 : S.1 7 0 1 = nI n := hA.2.1.1.1
  have c12 : S.1 12 0 0 = nI n := hA.2.1.2.1
  by_cases h1 : 0 ≤ v1 ∧ v1 ≤ nI n - 1
  · obtain ⟨b, hb, rfl⟩ := z_isP_of hn h1
    by_cases h2 : 0 ≤ v2 ∧ v2 ≤ 5
    · obtain ⟨p, hp, rfl⟩ := z_rg (n := 5) (by omega) h2
      have hplc : ∀ k, k < n → S.1 2 k 4 = (K k).2.2.2.1 := fun k hk => by rw [← (hA.2.2 k hk).2.1.1]; rfl
      have hplm : ∀ k, k < n → S.1 40 0 k = (K k).2.2.2.1 := fun k hk => by rw [← (hA.2.2 k hk).2.2.1]; rfl
      -- the class
      have hcl : ∃ S1, z_exe z_mt true 40 79 [.inr (.inr (11, 0)), .inl (nI b), .inl (nI p)] S = some (some (.inl (K b).2.2.2.1), S1) ∧ z_fx (fun t i k => t = 2 ∧ i < 6 ∧ k = 4) S S1 ∧ ∀ k, k < n → S1.1 2 k 4 = z_np K n b (nI p) k := by
        have e : z_exe z_mt true 40 79 [.inr (.inr (11, 0)), .inl (nI b), .inl (nI p)] S = _ := (zx_X11_put 39 S 0 (nI b) (nI p)).trans (ze_X11_put_0 _ _ _ _ _ _)
        rw [s_noPair 38 n _ S hn c7, z_rI_s, z_b1_F (fun z => z h1), if_pos rfl, s_outside, z_rI_s, z_b1_F (fun z => z h2), if_pos rfl, z_oob_n (k := b) (by omega) (by omega), z_cond_f] at e
        dsimp only at e
        rw [s_whoC 38 hA, z_rI_s] at e
        rcases z_pw_is K n (nI p) with ⟨q1, q2⟩ | ⟨o, q1, q2, q3⟩
        · rw [q1, if_pos (by decide), z_cond_f, z_cl (k := b) (by omega), z_60, hplc b hb] at e
          refine ⟨_, e, z_fx.sI ⟨rfl, by omega, rfl⟩, fun k hk => ?_⟩
          unfold z_np
          by_cases q : k = b
          · simp [z_sI1, q]
          · rw [if_neg q, q1, if_neg (z_nI5 (by omega)), ← hplc k hk]
            simp [z_sI1, q]
        · rw [q2, if_neg (nI_pos (by omega)), z_oob_n (k := o) (by omega) (by omega)] at e
          simp only [z_cond_f] at e
          rw [z_cl (k := b) (by omega), z_cl (k := o) (by omega), z_60, z_60, hplc b hb] at e
          refine ⟨_, e, (z_fx.sI ⟨rfl, by omega, rfl⟩).tr (z_fx.sI ⟨rfl, by omega, rfl⟩), fun k hk => ?_⟩
          unfold z_np
          by_cases q : k = b
          · simp [z_sI1, q]
          · rw [if_neg q, q2]
            by_cases z : k = o
            · rw [if_pos (by rw [z])]
              have : ¬ o = b := fun y => q (z.trans y)
              simp [z_sI1, z, this]
            · rw [if_neg (fun y => z ((nI_eq (by omega) (by omega)).mp y)), ← hplc k hk]
              simp [z_sI1, q, z]
      obtain ⟨S1, e1, f1, g1⟩ := hcl
      obtain ⟨S2, e2, f2, g2⟩ := s_comesTo 37 n b (nI p) K S1 hn hb (by rw [f1.i (by omega)]; exact c12) (fun k hk => by rw [f1.i (by omega)]; exact hplm k hk)
      refine ⟨.inl (K b).2.2.2.1, S1, S2, e1, ?_, ?_⟩
      · have e : z_exe z_mt true 40 137 [.inr (.inr (12, 0)), .inl (nI b), .inl (nI p)] S1 = _ := (zx_X12_put 39 S1 0 (nI b) (nI p)).trans (ze_X12_put_0 _ _ _ _ _ _)
        rw [e, s_isPair 37 n _ S1 (by rw [f1.i (by omega)]; exact c12), z_rI_s, z_b1_T h1, if_neg z_01n, s_isPlace, z_rI_s, z_b1_T h2, if_neg z_01n, z_oob_n (k := b) (by omega) (by omega), z_cond_f]
        dsimp only
        rw [e2, z_rV_s, z_cl (k := b) (by omega), f1.i (t := 40) (by omega), hplm b hb]
      · have f12 : z_fx (fun t i k => (t = 2 ∧ i < 6 ∧ k = 4) ∨ (t = 40 ∧ i = 0 ∧ k < 6)) S S2 := (f1.wk (fun _ _ _ q => Or.inl q)).tr (f2.wk (fun _ _ _ q => Or.inr q))
        refine z_RL.room hN hB hI hT hP hAc f12 (fun t i k q => ?_) (hA.pr (K' := fun b' => z_kp (K b') (z_np K n b (nI p) b')) (W' := W) (C' := C) (S' := S2) (fun t i k q => f12.i (by unfold z_FN at q; omega)) (by rw [f12.r (by omega)]) (fun b' hb' => by rw [f12.i (by omega)]; exact hA.2.1.1.2.2.2.2.2.2 b' hb') (fun b' hb' => ?_)) (Nat.le_refl _)
        · rcases q with ⟨z1, z2, -⟩ | ⟨z1, z2, -⟩
          · exact Or.inr (Or.inr (Or.inr (Or.inl ⟨Or.inl z1, z2⟩)))
          · exact Or.inr (Or.inr (Or.inr (Or.inr (Or.inr ⟨z2, by omega, by omega⟩))))
        · obtain ⟨⟨⟨k1, k2, k3⟩, o2, o3⟩, ⟨p1, p2, p3, p4⟩, q1, q2, q3⟩ := hA.2.2 b' hb'
          have hnp : ∃ j : Nat, j ≤ 5 ∧ z_np K n b (nI p) b' = nI j := by
            unfold z_np
            by_cases q : b' = b
            · rw [if_pos q]; exact ⟨p, hp, rfl⟩
            · rw [if_neg q]
              by_cases z : nI b' = z_pw K n (nI p)
              · rw [if_pos z]
                obtain ⟨⟨⟨-, -, y⟩, -⟩, -⟩ := hA.2.2 b hb
                exact y
              · rw [if_neg z]; exact k3
          refine ⟨⟨⟨k1, k2, hnp⟩, o2, o3⟩, ⟨?_, ?_, ?_, ?_⟩, ?_, ?_, ?_⟩
          · have c0' := g1 b' hb'
            have c1 : S2.1 2 b' 4 = z_np K n b (nI p) b' := by rw [f2.i (by omega)]; exact c0'
            have c2 : ∀ j, j ≠ 4 → S2.1 2 b' j = S.1 2 b' j := fun j hj => f12.i (by omega)
            have c3 : ∀ j, S2.1 21 b' j = S.1 21 b' j := fun j => f12.i (by omega)
            rw [← p1]
            unfold z_kc z_kp
            rw [c1, c2 0 (by decide), c2 1 (by decide), c2 2 (by decide), c2 5 (by decide)]
            simp only [c3]
          · rw [f12.i (by omega)]; exact p2
          · rw [f12.i (by omega)]; exact p3
          · rw [f12.i (by omega)]; exact p4
          · have c1 := g2 b' hb'
            have c2 : ∀ t i j, t ≠ 2 → t ≠ 40 → S2.1 t i j = S.1 t i j := fun t i j h1 h2 => f12.i (by omega)
            rw [← q1]
            unfold z_km z_kp
            rw [c1, c2 37 0 b' (by decide) (by decide), c2 38 0 b' (by decide) (by decide), c2 12 0 1 (by decide) (by decide)]
            simp only [c2 42 0 _ (by decide) (by decide)]
          · rw [f12.i (by omega)]; exact q2
          · rw [f12.i (by omega)]; exact q3
    · refine z_no (v := .inl (-1)) hR ?_ ?_
      · have e : z_exe z_mt true 40 79 [.inr (.inr (11, 0)), .inl (nI b), .inl v2] S = _ := (zx_X11_put 39 S 0 (nI b) v2).trans (ze_X11_put_0 _ _ _ _ _ _)
        rw [e, s_noPair 38 n _ S hn c7, z_rI_s, z_b1_F (fun z => z h1), if_pos rfl, s_outside, z_rI_s, z_b1_T h2, if_neg z_01n]
      · have e : z_exe z_mt true 40 137 [.inr (.inr (12, 0)), .inl (nI b), .inl v2] S = _ := (zx_X12_put 39 S 0 (nI b) v2).trans (ze_X12_put_0 _ _ _ _ _ _)
        rw [e, s_isPair 37 n _ S c12, z_rI_s, z_b1_T h1, if_neg z_01n, s_isPlace, z_rI_s, z_b1_F h2, if_pos rfl]
  · refine z_no (v := .inl (-1)) hR ?_ ?_
    · have e : z_exe z_mt true 40 79 [.inr (.inr (11, 0)), .inl v1, .inl v2] S = _ := (zx_X11_put 39 S 0 v1 v2).trans (ze_X11_put_0 _ _ _ _ _ _)
      rw [e, s_noPair 38 n _ S hn c7, z_rI_s, z_b1_T h1, if_neg z_01n]
    · have e : z_exe z_mt true 40 137 [.inr (.inr (12, 0)), .inl v1, .inl v2] S = _ := (zx_X12_put 39 S 0 v1 v2).trans (ze_X12_put_0 _ _ _ _ _ _)
      rw [e, s_isPair 37 n _ S c12, z_rI_s, z_b1_F h1, if_pos rfl]
/-! ===== take ===== -/
theorem s_goes (d b : Nat) (v : Int32) (S : z_Mem) (hv : v = 0 ∨ v = 1) (hb : b < 6) : ∃ x, z_exe z_mt true (d + 1) 138 [.inr (.inr (12, 0)), .inl (nI b), .inl v] S = some (none, z_sI S 12 0 1 x) ∧ ∀ k, k < 6 → z_bt x k = (if k = b then decide (v = 1) else z_bt (S.1 12 0 1) k) := by
  rcases hv with rfl | rfl
  · refine ⟨_, s_goes0 d b S, fun k hk => ?_⟩
    rw [z_bt_not _ hb hk]
    by_cases q : k = b
    · rw [if_pos q, decide_eq_true q]; simp
    · rw [if_neg q, decide_eq_false q]; simp
  · refine ⟨_, s_goes1 d b S, fun k hk => ?_⟩
    rw [z_bt_or _ hb hk]
    by_cases q : k = b
    · rw [if_pos q, decide_eq_true q]; simp
    · rw [if_neg q, decide_eq_false q]; simp
theorem z_kmg {b : Nat} {S : z_Mem} (hb : b < 6) : (z_km b S).2.2.2.2.1 = z_bt (S.1 12 0 1) b := by
  show decide _ = _
  exact Bool.eq_iff_iff.mpr (decide_eq_true_iff.trans (z_has_iff _ hb))
theorem c_take (S : z_Mem) (hR : z_RL S) (v1 v2 : Int32) (hv : v2 = 0 ∨ v2 = 1) : z_both 80 139 [.inl v1, .inl v2] S := by
  obtain ⟨hts, hN, ⟨n, hr, h, c0, ht, wd, H, K, W, C, hA, hB⟩, hI, hT, hP, hAc⟩ := id hR
  obtain ⟨⟨hn, hhr, hwd, hH, hts6⟩, hh6⟩ := hA.1
  have hC := fun b hb => (hA.2.2 b hb).1.2.2
  have c7 : S.1 7 0 1 = nI n := hA.2.1.1.1
  have c12 : S.1 12 0 0 = nI n := hA.2.1.2.1
  by_cases h1 : 0 ≤ v1 ∧ v1 ≤ nI n - 1
  · obtain ⟨b, hb, rfl⟩ := z_isP_of hn h1
    obtain ⟨o1, ⟨p1, p2, p3, p4⟩, q1, q2, q3⟩ := hA.2.2 b hb
    have hv1 : v2 &&& 1 = v2 := by rcases hv with rfl | rfl <;> decide
    have kg : (K b).2.2.2.2.1 = !decide (S.1 2 b 5 = 0) := by rw [← p1]; rfl
    have f1 : z_fx (fun t i k => t = 2 ∧ i = b ∧ k = 5) S (z_sI S 2 b 5 v2) := z_fx.sI ⟨rfl, rfl, rfl⟩
    have e5 : (z_sI S 2 b 5 v2).1 2 b 5 = v2 := by simp [z_sI1]
    have kgm : (K b).2.2.2.2.1 = decide (((z_sI S 2 b 5 v2).1 12 0 1 >>> (nI b &&& 31)) &&& 1 = 1) := by
      rw [f1.i (by omega), ← q1]
      rfl
    obtain ⟨x, ex, hx⟩ := s_goes 38 b v2 (z_sI S 2 b 5 v2) hv (by omega)
    have f2 : z_fx (fun t i k => t = 12 ∧ i = 0 ∧ k = 1) (z_sI S 2 b 5 v2) (z_sI (z_sI S 2 b 5 v2) 12 0 1 x) := z_fx.sI ⟨rfl, rfl, rfl⟩
    obtain ⟨S1, hS1⟩ : ∃ S1, S1 = z_sI S 2 b 5 v2 := ⟨_, rfl⟩
    rw [← hS1] at f1 e5 kgm ex hx f2
    refine ⟨.inl (cond (K b).2.2.2.2.1 1 0), S1, z_sI S1 12 0 1 x, ?_, ?_, ?_⟩
    · have e : z_exe z_mt true 40 80 [.inr (.inr (11, 0)), .inl (nI b), .inl v2] S = _ := (zx_X11_take 39 S 0 (nI b) v2).trans (ze_X11_take_0 _ _ _ _ _ _)
      rw [e, s_noPair 38 n _ S hn c7, z_rI_s, z_b1_F (fun z => z h1), if_pos rfl, z_oob_n (k := b) (by omega) (by omega), z_cond_f]
      dsimp only
      rw [z_cond_f, if_pos hv1, z_cl (k := b) (by omega), z_60, ← hS1, kg]
      by_cases z : S.1 2 b 5 = 0
      · rw [if_pos z, decide_eq_true z]; rfl
      · rw [if_neg z, decide_eq_false z]; rfl
    · have e : z_exe z_mt true 40 139 [.inr (.inr (12, 0)), .inl (nI b), .inl v2] S1 = _ := (zx_X12_take 39 S1 0 (nI b) v2).trans (ze_X12_take_0 _ _ _ _ _ _)
      rw [e, s_isPair 37 n _ S1 (by rw [f1.i (by omega)]; exact c12), z_rI_s, z_b1_T h1, if_neg z_01n, s_has 38, z_rI_s, kgm]
      by_cases z : (S1.1 12 0 1 >>> (nI b &&& 31)) &&& 1 = 1
      · rw [z_b1_T z, if_neg z_01n, ex, z_rV_s, decide_eq_true z]; rfl
      · rw [z_b1_F z, if_pos rfl, ex, z_rV_s, decide_eq_false z]; rfl
    · have f12 : z_fx (fun t i k => (t = 2 ∧ i = b ∧ k = 5) ∨ (t = 12 ∧ i = 0 ∧ k = 1)) S (z_sI S1 12 0 1 x) := (f1.wk (fun _ _ _ q => Or.inl q)).tr (f2.wk (fun _ _ _ q => Or.inr q))
      refine z_RL.room hN hB hI hT hP hAc f12 (fun t i k q => ?_) (hA.pr (K' := fun b' => ((K b').1, ((K b').2.1, ((K b').2.2.1, ((K b').2.2.2.1, ((if b' = b then decide (v2 = 1) else (K b').2.2.2.2.1), (K b').2.2.2.2.2)))))) (W' := W) (C' := C) (S' := z_sI S1 12 0 1 x) (fun t i k q => f12.i (by unfold z_FN at q; omega)) (by rw [f12.r (by omega)]) (fun b' hb' => by rw [f12.i (by omega)]; exact hA.2.1.1.2.2.2.2.2.2 b' hb') (fun b' hb' => ?_)) (Nat.le_refl _)
      · rcases q with ⟨z1, z2, -⟩ | ⟨z1, z2, z3⟩
        · exact Or.inr (Or.inr (Or.inr (Or.inl ⟨Or.inl z1, by omega⟩)))
        · exact Or.inr (Or.inr (Or.inr (Or.inr (Or.inl ⟨z1, z2, by omega⟩))))
      · obtain ⟨⟨k1, k2, k3⟩, ⟨y1, y2, y3, y4⟩, w1, w2, w3⟩ := hA.2.2 b' hb'
        refine ⟨⟨k1, k2, k3⟩, ⟨?_, ?_, ?_, ?_⟩, ?_, ?_, ?_⟩
        · have c2 : ∀ j, (j ≠ 5 ∨ b' ≠ b) → (z_sI S1 12 0 1 x).1 2 b' j = S.1 2 b' j := fun j hj => f12.i (by omega)
          have c3 : ∀ j, (z_sI S1 12 0 1 x).1 21 b' j = S.1 21 b' j := fun j => f12.i (by omega)
          have c5 : (!decide ((z_sI S1 12 0 1 x).1 2 b' 5 = 0)) = (if b' = b then decide (v2 = 1) else (K b').2.2.2.2.1) := by
            by_cases q : b' = b
            · rw [if_pos q, q, f2.i (by omega), e5]
              rcases hv with rfl | rfl <;> decide
            · rw [if_neg q, c2 5 (Or.inr q), ← y1]; rfl
          rw [← c5, ← y1]
          unfold z_kc
          rw [c2 0 (Or.inl (by decide)), c2 1 (Or.inl (by decide)), c2 2 (Or.inl (by decide)), c2 4 (Or.inl (by decide))]
          simp only [c3]
        · by_cases q : b' = b
          · rw [q, f2.i (by omega), e5]; exact hv1
          · rw [f12.i (by omega)]; exact y2
        · rw [f12.i (by omega)]; exact y3
        · rw [f12.i (by omega)]; exact y4
        · rw [z_km_goes (b := b) (by omega) (hx b' (by omega))]
          have c1 : z_km b' S1 = K b' := (z_km_cg (f1.i (by omega)) (f1.i (by omega)) (f1.i (by omega)) (f1.i (by omega)) (fun k => f1.i (by omega))).trans w1
          have c6 : z_bt (S1.1 12 0 1) b' = (K b').2.2.2.2.1 := by rw [← c1, z_kmg (by omega)]
          rw [c1, c6]
        · rw [f12.i (by omega)]; exact w2
        · rw [f12.i (by omega)]; exact w3
  · refine z_no (v := .inl (-1)) hR ?_ ?_
    · have e : z_exe z_mt true 40 80 [.inr (.inr (11, 0)), .inl v1, .inl v2] S = _ := (zx_X11_take 39 S 0 v1 v2).trans (ze_X11_take_0 _ _ _ _ _ _)
      rw [e, s_noPair 38 n _ S hn c7, z_rI_s, z_b1_T h1, if_neg z_01n]
    · have e : z_exe z_mt true 40 139 [.inr (.inr (12, 0)), .inl v1, .inl v2] S = _ := (zx_X12_take 39 S 0 v1 v2).trans (ze_X12_take_0 _ _ _ _ _ _)
      rw [e, s_isPair 37 n _ S c12, z_rI_s, z_b1_F h1, if_pos rfl]
