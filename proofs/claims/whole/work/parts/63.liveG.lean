/-- the model takes its image back -/
theorem s_mUndo (d n : Nat) (S : z_Mem) (h53 : S.1 12 0 53 = 1) (h12 : S.1 12 0 55 = nI n) : ∃ M, z_exe z_mt true (d + 1) 209 [.inr (.inr (12, 0))] S = some (some (.inl (nI n)), M) ∧ z_fx (fun t i k => i = 0 ∧ ((t = 12 ∧ (k ≤ 4 ∨ k = 12 ∨ k = 42 ∨ k = 47 ∨ k = 48)) ∨ (37 ≤ t ∧ t ≤ 42) ∨ (59 ≤ t ∧ t ≤ 61) ∨ (63 ≤ t ∧ t ≤ 66))) S M ∧ (∀ k, k ≤ 4 ∨ k = 12 ∨ k = 42 ∨ k = 47 ∨ k = 48 → M.1 12 0 k = S.1 12 0 (z_u12 k)) ∧ (∀ t b, 37 ≤ t → t ≤ 41 → b < 6 → M.1 t 0 b = S.1 (t + 30) 0 b) ∧ (∀ k, k < 24 → M.1 42 0 k = S.1 72 0 k) ∧ (∀ t i, 59 ≤ t → t ≤ 61 → i < 5 → M.1 t 0 i = S.1 (t + 14) 0 i) ∧ (∀ t i, 63 ≤ t → t ≤ 64 → i < 10 → M.1 t 0 i = S.1 (t + 13) 0 i) ∧ ∀ t i, 65 ≤ t → t ≤ 66 → i < 8 → M.1 t 0 i = S.1 (t + 13) 0 i := by
  have e : z_exe z_mt true (d + 1) 209 [.inr (.inr (12, 0))] S = _ := (zx_X12_undo d S 0).trans (ze_X12_undo_0 _ _ _ _)
  rw [if_neg (by rw [h53]; decide)] at e
  dsimp only at e
  obtain ⟨S0, hS0⟩ : ∃ S0, S0 = z_sI (z_sI (z_sI (z_sI (z_sI (z_sI (z_sI (z_sI (z_sI S 12 0 12 (S.1 12 0 54)) 12 0 0 (S.1 12 0 55)) 12 0 1 (S.1 12 0 56)) 12 0 2 (S.1 12 0 57)) 12 0 3 (S.1 12 0 58)) 12 0 4 (S.1 12 0 59)) 12 0 42 (S.1 12 0 60)) 12 0 47 (S.1 12 0 61)) 12 0 48 (S.1 12 0 62) := ⟨_, rfl⟩
  have e' : z_exe z_mt true (d + 1) 209 [.inr (.inr (12, 0))] S = zr_X12_undo (z_exe z_mt true d) 999999 84 [some (.inr (.inr (12, 0))), some (.inl (0 : Int32))] [] S0 := by
    rw [hS0, e]
    simp only [z_sI1, Nat.reduceEqDiff, and_false, and_true, and_self, if_false, if_true]
  have f0 : z_fx (fun t i k => i = 0 ∧ t = 12 ∧ (k ≤ 4 ∨ k = 12 ∨ k = 42 ∨ k = 47 ∨ k = 48)) S S0 := by
    rw [hS0]
    exact ((((((((z_fx.sI ⟨rfl, rfl, by omega⟩).tr (z_fx.sI ⟨rfl, rfl, by omega⟩)).tr (z_fx.sI ⟨rfl, rfl, by omega⟩)).tr (z_fx.sI ⟨rfl, rfl, by omega⟩)).tr (z_fx.sI ⟨rfl, rfl, by omega⟩)).tr (z_fx.sI ⟨rfl, rfl, by omega⟩)).tr (z_fx.sI ⟨rfl, rfl, by omega⟩)).tr (z_fx.sI ⟨rfl, rfl, by omega⟩)).tr (z_fx.sI ⟨rfl, rfl, by omega⟩)
  obtain ⟨S1, N1, n1, e1, h1, f1⟩ := l_undo84 (z_exe z_mt true d) S0 6 0 999999 S0 (by omega) (by omega) (fun j hj => by omega) z_fx.rf
  obtain ⟨S2, N2, n2, e2, h2, f2⟩ := l_undo158 (z_exe z_mt true d) S1 24 0 N1 S1 (by omega) (by omega) (fun j hj => by omega) z_fx.rf
  obtain ⟨S3, N3, n3, e3, h3, f3⟩ := l_undo184 (z_exe z_mt true d) S2 5 0 N2 S2 (by omega) (by omega) (fun j hj => by omega) z_fx.rf
  obtain ⟨S4, N4, n4, e4, h4, f4⟩ := l_undo233 (z_exe z_mt true d) S3 10 0 N3 S3 (by omega) (by omega) (fun j hj => by omega) z_fx.rf
  obtain ⟨S5, N5, n5, e5, h5, f5⟩ := l_undo271 (z_exe z_mt true d) S4 8 0 N4 S4 (by omega) (by omega) (fun j hj => by omega) z_fx.rf
  rw [nI_0] at e1 e2 e3 e4 e5
  have E : z_exe z_mt true (d + 1) 209 [.inr (.inr (12, 0))] S = some (some (.inl (S5.1 12 0 0)), S5) := e'.trans (e1.trans (e2.trans (e3.trans (e4.trans e5))))
  have f12 : ∀ k, S5.1 12 0 k = S0.1 12 0 k := fun k => (f5.i (by omega)).trans ((f4.i (by omega)).trans ((f3.i (by omega)).trans ((f2.i (by omega)).trans (f1.i (by omega)))))
  have m12 : ∀ k, k ≤ 4 ∨ k = 12 ∨ k = 42 ∨ k = 47 ∨ k = 48 → S5.1 12 0 k = S.1 12 0 (z_u12 k) := by
    intro k hk
    rw [f12]
    rcases z_u12c hk with ⟨q, e⟩ | ⟨rfl, e⟩ | ⟨rfl, e⟩ | ⟨rfl, e⟩ | ⟨rfl, e⟩
    · have : k = 0 ∨ k = 1 ∨ k = 2 ∨ k = 3 ∨ k = 4 := by omega
      rw [e, hS0]
      rcases this with rfl | rfl | rfl | rfl | rfl <;> simp [z_sI1]
    · rw [e, hS0]; simp [z_sI1]
    · rw [e, hS0]; simp [z_sI1]
    · rw [e, hS0]; simp [z_sI1]
    · rw [e, hS0]; simp [z_sI1]
  refine ⟨S5, ?_, (((((f0.wk (fun t i k q => by omega)).tr (f1.wk (fun t i k q => by omega))).tr (f2.wk (fun t i k q => by omega))).tr (f3.wk (fun t i k q => by omega))).tr (f4.wk (fun t i k q => by omega))).tr (f5.wk (fun t i k q => by omega)), m12, fun t b ht1 ht2 hb => ?_, fun k hk => ?_, fun t i ht1 ht2 hi => ?_, fun t i ht1 ht2 hi => ?_, fun t i ht1 ht2 hi => ?_⟩
  · rw [E, m12 0 (by omega), show z_u12 0 = 55 from rfl, h12]
  · have hx : S5.1 t 0 b = S1.1 t 0 b := (f5.i (by omega)).trans ((f4.i (by omega)).trans ((f3.i (by omega)).trans (f2.i (by omega))))
    have hy : S0.1 (t + 30) 0 b = S.1 (t + 30) 0 b := f0.i (by omega)
    rw [hx, ← hy]
    obtain ⟨x1, x2, x3, x4, x5⟩ := h1 b hb
    have : t = 37 ∨ t = 38 ∨ t = 39 ∨ t = 40 ∨ t = 41 := by omega
    rcases this with rfl | rfl | rfl | rfl | rfl
    · exact x1
    · exact x2
    · exact x3
    · exact x4
    · exact x5
  · have hx : S5.1 42 0 k = S2.1 42 0 k := (f5.i (by omega)).trans ((f4.i (by omega)).trans (f3.i (by omega)))
    rw [hx, h2 k hk, f1.i (by omega), f0.i (by omega)]
  · have hx : S5.1 t 0 i = S3.1 t 0 i := (f5.i (by omega)).trans (f4.i (by omega))
    have hy : S2.1 (t + 14) 0 i = S.1 (t + 14) 0 i := (f2.i (by omega)).trans ((f1.i (by omega)).trans (f0.i (by omega)))
    rw [hx, ← hy]
    obtain ⟨x1, x2, x3⟩ := h3 i hi
    have : t = 59 ∨ t = 60 ∨ t = 61 := by omega
    rcases this with rfl | rfl | rfl
    · exact x1
    · exact x2
    · exact x3
  · have hx : S5.1 t 0 i = S4.1 t 0 i := f5.i (by omega)
    have hy : S3.1 (t + 13) 0 i = S.1 (t + 13) 0 i := (f3.i (by omega)).trans ((f2.i (by omega)).trans ((f1.i (by omega)).trans (f0.i (by omega))))
    rw [hx, ← hy]
    obtain ⟨x1, x2⟩ := h4 i hi
    have : t = 63 ∨ t = 64 := by omega
    rcases this with rfl | rfl
    · exact x1
    · exact x2
  · have hy : S4.1 (t + 13) 0 i = S.1 (t + 13) 0 i := (f4.i (by omega)).trans ((f3.i (by omega)).trans ((f2.i (by omega)).trans ((f1.i (by omega)).trans (f0.i (by omega)))))
    rw [← hy]
    obtain ⟨x1, x2⟩ := h5 i hi
    have : t = 65 ∨ t = 66 := by omega
    rcases this with rfl | rfl
    · exact x1
    · exact x2
theorem c_undo (S : z_Mem) (hR : z_RL S) : z_both 106 209 [] S := by
  obtain ⟨hts, hN, hL, hI, hT, hP, hAc⟩ := id hR
  obtain ⟨hI1, hI2, hI3⟩ := id hI
  rcases hI2 with h0 | ⟨h1, n, hr, h, c0, ht, wd, H, K, W, C, hA, hB⟩
  · refine z_no (v := .inl (-3)) hR ?_ ?_
    · have e : z_exe z_mt true 40 106 [.inr (.inr (11, 0))] S = _ := (zx_X11_undo 39 S 0).trans (ze_X11_undo_0 _ _ _ _)
      rw [if_pos h0] at e
      exact e
    · have e : z_exe z_mt true 40 209 [.inr (.inr (12, 0))] S = _ := (zx_X12_undo 39 S 0).trans (ze_X12_undo_0 _ _ _ _)
      rw [if_pos (hI1.symm.trans h0)] at e
      exact e
  have hn : n ≤ 6 := hA.1.1.1
  have c7 : S.1 7 1 1 = nI n := hA.2.1.1.1
  have c12 : S.1 12 0 55 = nI n := hA.2.1.2.1
  have hnum0 : ∀ b, b < 6 → S.1 2 b 0 = nI b := by
    obtain ⟨n', hr', h', c0', ht', wd', H', K', W', C', hA', -⟩ := hL
    exact hA'.2.1.1.2.2.2.2.2.2
  obtain ⟨⟨d1, x1, x2, x3, x4⟩, ⟨d2, y1, y2, y3, y4⟩, ⟨d3, w1, w2, w3, w4⟩⟩ := id hB
  have x2' : S.1 8 3 3 = nI d1 := by rw [← x2, z_un8 S 8 0 3 (Or.inl rfl) (by decide)]
  have y2' : S.1 8 4 3 = nI d2 := by rw [← y2, z_un8 S 8 1 3 (Or.inl rfl) (by decide)]
  have w2' : S.1 8 5 3 = nI d3 := by rw [← w2, z_un8 S 8 2 3 (Or.inl rfl) (by decide)]
  have h01 : z_01 1 n S := by
    intro b hb
    have := hA.z01 b hb
    rw [z_un2 S 2 _ 5 (Or.inl rfl) (by omega)] at this
    rw [show 6 * 1 + b = 6 * 0 + b + 6 by omega]
    exact this
  obtain ⟨x, S1, e1, rfl, p1⟩ := s_copyRoom 37 0 1 n S (by omega) hn c7 h01
  have fr1 := p1.2.2.2.2
  obtain ⟨S2, e2, p2⟩ := s_copyRows 38 0 3 d1 5 S1 (by omega) rfl rfl (by omega) ((fr1.i (by unfold z_Pcp; omega)).trans x2') x1
  obtain ⟨S3, e3, p3⟩ := s_copyRows 38 1 4 d2 10 S2 (by omega) rfl rfl (by omega) ((p2.2.2.i (by omega)).trans ((fr1.i (by unfold z_Pcp; omega)).trans y2')) y1
  obtain ⟨S4, e4, p4⟩ := s_copyRows 38 2 5 d3 8 S3 (by omega) rfl rfl (by omega) ((p3.2.2.i (by omega)).trans ((p2.2.2.i (by omega)).trans ((fr1.i (by unfold z_Pcp; omega)).trans w2'))) w1
  have fC : z_fx (fun t i k => z_Pcp 0 t i k ∨ (t = 8 ∧ i < 3 ∧ k = 3) ∨ (31 ≤ t ∧ t ≤ 33 ∧ i < 3)) S S4 := (((fr1.wk (fun t i k q => Or.inl q)).tr (p2.2.2.wk (fun t i k q => Or.inr (by omega)))).tr (p3.2.2.wk (fun t i k q => Or.inr (by omega)))).tr (p4.2.2.wk (fun t i k q => Or.inr (by omega)))
  have g12 : S4.1 12 0 55 = nI n := (fC.i (by unfold z_Pcp; omega)).trans c12
  have g53 : S4.1 12 0 53 = 1 := (fC.i (by unfold z_Pcp; omega)).trans (hI1.symm.trans h1)
  obtain ⟨M, eM, fM, m12, m37, m42, m59, m63, m65⟩ := s_mUndo 39 n S4 g53 g12
  refine ⟨.inl (nI n), S4, M, ?_, eM, ?_⟩
  · have e : z_exe z_mt true 40 106 [.inr (.inr (11, 0))] S = _ := (zx_X11_undo 39 S 0).trans (ze_X11_undo_0 _ _ _ _)
    rw [if_neg (by rw [h1]; decide), e1, z_rV_s, e2, z_rV_s, e3, z_rV_s, e4, z_rV_s, p4.2.2.i (t := 7) (i := 0) (k := 1) (by omega), p3.2.2.i (t := 7) (i := 0) (k := 1) (by omega), p2.2.2.i (t := 7) (i := 0) (k := 1) (by omega), p1.1] at e
    exact e
  · have F : z_fx (fun t i k => (z_Pcp 0 t i k ∨ (t = 8 ∧ i < 3 ∧ k = 3) ∨ (31 ≤ t ∧ t ≤ 33 ∧ i < 3)) ∨ (i = 0 ∧ ((t = 12 ∧ (k ≤ 4 ∨ k = 12 ∨ k = 42 ∨ k = 47 ∨ k = 48)) ∨ (37 ≤ t ∧ t ≤ 42) ∨ (59 ≤ t ∧ t ≤ 61) ∨ (63 ≤ t ∧ t ≤ 66)))) S M := (fC.wk (fun _ _ _ q => Or.inl q)).tr (fM.wk (fun _ _ _ q => Or.inr q))
    have EM : ∀ t i k, t < 12 ∨ (20 < t ∧ t < 34) → M.1 t i k = S4.1 t i k := fun t i k q => fM.i (by omega)
    have E2 : ∀ t i k, t = 2 ∨ t = 21 ∨ t = 9 ∨ t = 7 → M.1 t i k = S1.1 t i k := fun t i k q => (fM.i (by omega)).trans ((p4.2.2.i (by omega)).trans ((p3.2.2.i (by omega)).trans (p2.2.2.i (by omega))))
    have hF : ∀ t i k, z_FI t i k → M.1 t i k = S.1 t i k := fun t i k q => by
      rw [fM.i (by unfold z_FI at q; omega)]
      exact fC.i (by unfold z_FI at q; unfold z_Pcp; omega)
    have er91 : (M.2.2.1 9 1 3).2 = (S.2.2.1 9 1 3).2 := by rw [fM.r (by omega), fC.r (by unfold z_Pcp; omega)]
    have hnumM : ∀ b, b < 6 → M.1 2 b 0 = nI b := by
      intro b hb
      rw [E2 2 _ _ (Or.inl rfl)]
      by_cases q : b < n
      · have := (p1.2.2.2.1 b q).1 0 (by omega)
        rw [z_60, show 6 * 1 + b = b + 6 by omega] at this
        rw [this]
        exact hI3 b hb
      · have := s_copyNum 37 0 1 n S S1 (by omega) hn c7 h01 e1 b (by omega)
        rw [z_60] at this
        rw [this]
        exact hnum0 b hb
    refine ⟨hts, hN.cg (fun t i k q => ?_) F.2.1, ?_, hI.cg hF er91, hT.cg (fun t i k q => F.i (by unfold z_Pcp; omega)), hP.cg (fun t i k q => F.i (by unfold z_Pcp; omega)) (fun t i k q => F.l (by unfold z_Pcp; omega)), hAc.cg (fun t i k q => F.i (by unfold z_Pcp; omega))⟩
    · exact (fM.i (by omega)).trans (fC.i (by unfold z_Pcp; omega))
    have Eh : ∀ t i k, t = 4 ∨ t = 22 ∨ t = 23 ∨ (44 ≤ t ∧ t ≤ 49) → M.1 t i k = S.1 t i k := fun t i k q => (fM.i (by omega)).trans (fC.i (by unfold z_Pcp; omega))
    refine z_L.xf (B := M) hA hB ?_ (fun k hk => ?_) ?_ (fun t i k q => ?_) (fun k hk => ?_) (fun b hb => ?_) (fun b hb => ⟨fun k hk => ?_, fun k hk => ?_⟩) (fun t b h1 h2 hb => ?_) (fun k hk => ?_) (fun r hr => ?_) (fun r c t i hr hc hc2 h1 h2 hi => ?_) (fun t i h1 h2 hi => ?_) (fun t i h1 h2 hi => ?_) (fun t i h1 h2 hi => ?_)
    · show _ = S.1 7 1 1
      rw [E2 7 0 1 (by omega), p1.1, c7]
    · show _ = S.1 9 1 k
      rw [E2 9 0 k (by omega), p1.2.1 k hk]
    · show _ = (S.2.2.1 9 1 3).2
      rw [fM.r (by omega), p4.2.2.r (by omega), p3.2.2.r (by omega), p2.2.2.r (by omega), p1.2.2.1]
    · rw [z_unh S t i k q]; exact Eh t i k q
    · rw [z_un12, m12 k hk]; exact fC.i (by unfold z_Pcp; omega)
    · exact hnumM b hb
    · rw [z_un2 S 2 b k (Or.inl rfl) (by omega), E2 2 _ k (by omega)]
      have := (p1.2.2.2.1 b hb).1 k hk
      rw [z_60, show 6 * 1 + b = b + 6 by omega] at this
      exact this
    · rw [z_un2 S 21 b k (Or.inr rfl) (by omega), E2 21 _ k (by omega)]
      have := (p1.2.2.2.1 b hb).2 k hk
      rw [z_60, show 6 * 1 + b = b + 6 by omega] at this
      exact this
    · rw [z_un37 S t b (by omega) (by omega), m37 t b h1 h2 hb]; exact fC.i (by unfold z_Pcp; omega)
    · rw [z_un37 S 42 k (by omega) (by omega), m42 k hk]; exact fC.i (by unfold z_Pcp; omega)
    · rw [z_un8 S 8 r 3 (Or.inl rfl) hr, EM 8 _ 3 (by omega)]
      have : r = 0 ∨ r = 1 ∨ r = 2 := by omega
      rcases this with rfl | rfl | rfl
      · rw [p4.2.2.i (by omega), p3.2.2.i (by omega), p2.1, x2']
      · rw [p4.2.2.i (by omega), p3.1, y2']
      · rw [p4.1, w2']
    · rw [z_un8 S t r i (Or.inr ⟨h1, h2⟩) hr, EM t _ i (by omega)]
      rw [z_un8 S 8 r 3 (Or.inl rfl) hr] at hc2
      have E0 : ∀ r, 3 ≤ r → S1.1 t r i = S.1 t r i := fun r hr => fr1.i (by unfold z_Pcp; omega)
      have : r = 0 ∨ r = 1 ∨ r = 2 := by omega
      rcases this with rfl | rfl | rfl
      · have hcd : c = d1 := (nI_eq (by omega) (by omega)).mp (hc2.symm.trans x2')
        rw [p4.2.2.i (by omega), p3.2.2.i (by omega), p2.2.1 t i h1 h2 (by omega)]
        exact E0 3 (by omega)
      · have hcd : c = d2 := (nI_eq (by omega) (by omega)).mp (hc2.symm.trans y2')
        rw [p4.2.2.i (by omega), p3.2.1 t i h1 h2 (by omega), p2.2.2.i (by omega)]
        exact E0 4 (by omega)
      · have hcd : c = d3 := (nI_eq (by omega) (by omega)).mp (hc2.symm.trans w2')
        rw [p4.2.1 t i h1 h2 (by omega), p3.2.2.i (by omega), p2.2.2.i (by omega)]
        exact E0 5 (by omega)
    · rw [z_un59 S t i h1 h2, m59 t i h1 h2 hi]; exact fC.i (by unfold z_Pcp; omega)
    · rw [z_un63 S t i h1 (by omega), m63 t i h1 h2 hi]; exact fC.i (by unfold z_Pcp; omega)
    · rw [z_un63 S t i (by omega) h2, m65 t i h1 h2 hi]; exact fC.i (by unfold z_Pcp; omega)
