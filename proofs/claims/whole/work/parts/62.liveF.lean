/-! ===== image, undo: the calls ===== -/
theorem z_L.xf {hts n hr h c0 : Nat} {ht wd : Int32} {H : z_H} {K : Nat → z_K} {W C : Nat → Int32} {A B : z_Mem} (hA : z_LA hts n hr h c0 ht wd H K W C A) (hB : z_LB n A) (h7 : B.1 7 0 1 = A.1 7 0 1) (h9 : ∀ k, k < 3 → B.1 9 0 k = A.1 9 0 k) (h93 : (B.2.2.1 9 0 3).2 = (A.2.2.1 9 0 3).2) (hht : ∀ t i k, t = 4 ∨ t = 22 ∨ t = 23 ∨ (44 ≤ t ∧ t ≤ 49) → B.1 t i k = A.1 t i k)
    (h12 : ∀ k, k ≤ 4 ∨ k = 12 ∨ k = 42 ∨ k = 47 ∨ k = 48 → B.1 12 0 k = A.1 12 0 k) (hnum : ∀ b, b < 6 → B.1 2 b 0 = nI b) (h2 : ∀ b, b < n → (∀ k, k < 7 → B.1 2 b k = A.1 2 b k) ∧ ∀ k, k < 4 → B.1 21 b k = A.1 21 b k) (hm : ∀ t b, 37 ≤ t → t ≤ 41 → b < 6 → B.1 t 0 b = A.1 t 0 b) (hm42 : ∀ k, k < 24 → B.1 42 0 k = A.1 42 0 k)
    (h8 : ∀ r, r < 3 → B.1 8 r 3 = A.1 8 r 3) (hrow : ∀ r c t i, r < 3 → c ≤ 10 → A.1 8 r 3 = nI c → 31 ≤ t → t ≤ 33 → i < c → B.1 t r i = A.1 t r i) (hs : ∀ t i, 59 ≤ t → t ≤ 61 → i < 5 → B.1 t 0 i = A.1 t 0 i) (hro : ∀ t i, 63 ≤ t → t ≤ 64 → i < 10 → B.1 t 0 i = A.1 t 0 i) (hbo : ∀ t i, 65 ≤ t → t ≤ 66 → i < 8 → B.1 t 0 i = A.1 t 0 i) : z_L hts B := by
  have hn : n ≤ 6 := hA.1.1.1
  refine ⟨n, hr, h, c0, ht, wd, H, K, W, C, hA.pr (fun t i k q => ?_) h93 hnum (fun b hb => ?_), ?_⟩
  · rcases q with ⟨rfl, rfl, rfl⟩ | ⟨rfl, rfl, q⟩ | q | q | q | ⟨rfl, rfl, q⟩ | ⟨rfl, q1, q2⟩
    · exact h7
    · exact h9 k q
    · exact hht t i k (Or.inl q)
    · exact hht t i k (Or.inr (Or.inl q))
    · exact hht t i k (Or.inr (Or.inr (Or.inl q)))
    · exact h12 k (by omega)
    · exact hht t 0 k (Or.inr (Or.inr (Or.inr ⟨q1, q2⟩)))
  · obtain ⟨o1, ⟨p1, p2, p3, p4⟩, q1, q2, q3⟩ := hA.2.2 b hb
    obtain ⟨e2, e21⟩ := h2 b hb
    refine ⟨o1, ⟨?_, by rw [e2 5 (by omega)]; exact p2, (e2 3 (by omega)).trans p3, (e2 6 (by omega)).trans p4⟩, ?_, (hm 39 b (by omega) (by omega) (by omega)).trans q2, (hm 41 b (by omega) (by omega) (by omega)).trans q3⟩
    · rw [← p1]
      unfold z_kc
      rw [e2 0 (by omega), e2 1 (by omega), e2 2 (by omega), e2 4 (by omega), e2 5 (by omega)]
      have : (fun k => if k < 4 then B.1 21 b k else 0) = (fun k => if k < 4 then A.1 21 b k else 0) := by
        funext k
        by_cases z : k < 4
        · rw [if_pos z, if_pos z, e21 k z]
        · rw [if_neg z, if_neg z]
      rw [this]
    · exact (z_km_cg2 (hm 37 b (by omega) (by omega) (by omega)) (hm 38 b (by omega) (by omega) (by omega)) (hm 40 b (by omega) (by omega) (by omega)) (h12 1 (by omega)) (fun k hk => hm42 (4 * b + k) (by omega))).trans q1
  · obtain ⟨⟨c1, x1, x2, x3, x4⟩, ⟨c2, y1, y2, y3, y4⟩, ⟨c3, w1, w2, w3, w4⟩⟩ := hB
    refine ⟨⟨c1, x1, (h8 0 (by omega)).trans x2, (h12 42 (by omega)).trans x3, fun i hi => ?_⟩, ⟨c2, y1, (h8 1 (by omega)).trans y2, (h12 47 (by omega)).trans y3, fun i hi => ?_⟩, ⟨c3, w1, (h8 2 (by omega)).trans w2, (h12 48 (by omega)).trans w3, fun i hi => ?_⟩⟩
    · rw [hrow 0 c1 31 i (by omega) (by omega) x2 (by omega) (by omega) hi, hrow 0 c1 32 i (by omega) (by omega) x2 (by omega) (by omega) hi, hrow 0 c1 33 i (by omega) (by omega) x2 (by omega) (by omega) hi, hs 59 i (by omega) (by omega) (by omega), hs 60 i (by omega) (by omega) (by omega), hs 61 i (by omega) (by omega) (by omega)]
      exact x4 i hi
    · rw [hrow 1 c2 31 i (by omega) (by omega) y2 (by omega) (by omega) hi, hrow 1 c2 32 i (by omega) (by omega) y2 (by omega) (by omega) hi, hro 63 i (by omega) (by omega) (by omega), hro 64 i (by omega) (by omega) (by omega)]
      exact y4 i hi
    · rw [hrow 2 c3 31 i (by omega) (by omega) w2 (by omega) (by omega) hi, hrow 2 c3 32 i (by omega) (by omega) w2 (by omega) (by omega) hi, hbo 65 i (by omega) (by omega) (by omega), hbo 66 i (by omega) (by omega) (by omega)]
      exact w4 i hi
theorem z_un2 (M : z_Mem) (t b k : Nat) (ht : t = 2 ∨ t = 21) (hb : b < 6) : (z_un M).1 t b k = M.1 t (b + 6) k := by
  show M.1 (z_us t b k).1 (z_us t b k).2.1 (z_us t b k).2.2 = _
  have e : z_us t b k = (t, b + 6, k) := by unfold z_us; rw [if_neg (by omega), if_neg (by omega), if_pos (by omega)]
  rw [e]
theorem z_un8 (M : z_Mem) (t r k : Nat) (ht : t = 8 ∨ (31 ≤ t ∧ t ≤ 33)) (hr : r < 3) : (z_un M).1 t r k = M.1 t (r + 3) k := by
  show M.1 (z_us t r k).1 (z_us t r k).2.1 (z_us t r k).2.2 = _
  have e : z_us t r k = (t, r + 3, k) := by unfold z_us; rw [if_neg (by omega), if_neg (by omega), if_neg (by omega), if_pos (by omega)]
  rw [e]
theorem z_un12 (M : z_Mem) (k : Nat) : (z_un M).1 12 0 k = M.1 12 0 (z_u12 k) := by
  show M.1 (z_us 12 0 k).1 (z_us 12 0 k).2.1 (z_us 12 0 k).2.2 = _
  have e : z_us 12 0 k = (12, 0, z_u12 k) := by unfold z_us; rw [if_neg (by omega), if_neg (by omega), if_neg (by omega), if_neg (by omega), if_pos (by omega)]
  rw [e]
theorem z_un37 (M : z_Mem) (t k : Nat) (h1 : 37 ≤ t) (h2 : t ≤ 42) : (z_un M).1 t 0 k = M.1 (t + 30) 0 k := by
  show M.1 (z_us t 0 k).1 (z_us t 0 k).2.1 (z_us t 0 k).2.2 = _
  have e : z_us t 0 k = (t + 30, 0, k) := by unfold z_us; rw [if_neg (by omega), if_neg (by omega), if_neg (by omega), if_neg (by omega), if_neg (by omega), if_pos (by omega)]
  rw [e]
theorem z_un59 (M : z_Mem) (t k : Nat) (h1 : 59 ≤ t) (h2 : t ≤ 61) : (z_un M).1 t 0 k = M.1 (t + 14) 0 k := by
  show M.1 (z_us t 0 k).1 (z_us t 0 k).2.1 (z_us t 0 k).2.2 = _
  have e : z_us t 0 k = (t + 14, 0, k) := by unfold z_us; rw [if_neg (by omega), if_neg (by omega), if_neg (by omega), if_neg (by omega), if_neg (by omega), if_neg (by omega), if_pos (by omega)]
  rw [e]
theorem z_un63 (M : z_Mem) (t k : Nat) (h1 : 63 ≤ t) (h2 : t ≤ 66) : (z_un M).1 t 0 k = M.1 (t + 13) 0 k := by
  show M.1 (z_us t 0 k).1 (z_us t 0 k).2.1 (z_us t 0 k).2.2 = _
  have e : z_us t 0 k = (t + 13, 0, k) := by unfold z_us; rw [if_neg (by omega), if_neg (by omega), if_neg (by omega), if_neg (by omega), if_neg (by omega), if_neg (by omega), if_neg (by omega), if_pos (by omega)]
  rw [e]
theorem z_unh (M : z_Mem) (t i k : Nat) (h : t = 4 ∨ t = 22 ∨ t = 23 ∨ (44 ≤ t ∧ t ≤ 49)) : (z_un M).1 t i k = M.1 t i k := by
  show M.1 (z_us t i k).1 (z_us t i k).2.1 (z_us t i k).2.2 = _
  have e : z_us t i k = (t, i, k) := by unfold z_us; rw [if_neg (by omega), if_neg (by omega), if_neg (by omega), if_neg (by omega), if_neg (by omega), if_neg (by omega), if_neg (by omega), if_neg (by omega)]
  rw [e]
theorem z_u12c {k : Nat} (h : k ≤ 4 ∨ k = 12 ∨ k = 42 ∨ k = 47 ∨ k = 48) : (k ≤ 4 ∧ z_u12 k = k + 55) ∨ (k = 12 ∧ z_u12 k = 54) ∨ (k = 42 ∧ z_u12 k = 60) ∨ (k = 47 ∧ z_u12 k = 61) ∨ (k = 48 ∧ z_u12 k = 62) := by
  rcases h with h | rfl | rfl | rfl | rfl
  · exact Or.inl ⟨h, by unfold z_u12; rw [if_pos h]⟩
  · exact Or.inr (Or.inl ⟨rfl, rfl⟩)
  · exact Or.inr (Or.inr (Or.inl ⟨rfl, rfl⟩))
  · exact Or.inr (Or.inr (Or.inr (Or.inl ⟨rfl, rfl⟩)))
  · exact Or.inr (Or.inr (Or.inr (Or.inr ⟨rfl, rfl⟩)))
def z_Pim (t i k : Nat) : Prop := i = 0 ∧ ((t = 12 ∧ 53 ≤ k ∧ k ≤ 62) ∨ (67 ≤ t ∧ t ≤ 79))
/-- the model takes its image -/
theorem s_mImage (d n : Nat) (S : z_Mem) (h12 : S.1 12 0 0 = nI n) : ∃ M, z_exe z_mt true (d + 1) 208 [.inr (.inr (12, 0))] S = some (some (.inl (nI n)), M) ∧ z_fx z_Pim S M ∧ M.1 12 0 53 = 1 ∧ (∀ k, k ≤ 4 ∨ k = 12 ∨ k = 42 ∨ k = 47 ∨ k = 48 → M.1 12 0 (z_u12 k) = S.1 12 0 k) ∧ (∀ t b, 37 ≤ t → t ≤ 41 → b < 6 → M.1 (t + 30) 0 b = S.1 t 0 b) ∧ (∀ k, k < 24 → M.1 72 0 k = S.1 42 0 k) ∧ (∀ t i, 59 ≤ t → t ≤ 61 → i < 5 → M.1 (t + 14) 0 i = S.1 t 0 i) ∧ (∀ t i, 63 ≤ t → t ≤ 64 → i < 10 → M.1 (t + 13) 0 i = S.1 t 0 i) ∧ ∀ t i, 65 ≤ t → t ≤ 66 → i < 8 → M.1 (t + 13) 0 i = S.1 t 0 i := by
  have e : z_exe z_mt true (d + 1) 208 [.inr (.inr (12, 0))] S = _ := (zx_X12_image d S 0).trans (ze_X12_image_0 _ _ _ _)
  rw [if_pos (by decide)] at e
  dsimp only at e
  obtain ⟨S0, hS0⟩ : ∃ S0, S0 = z_sI (z_sI (z_sI (z_sI (z_sI (z_sI (z_sI (z_sI (z_sI (z_sI S 12 0 53 1) 12 0 54 (S.1 12 0 12)) 12 0 55 (S.1 12 0 0)) 12 0 56 (S.1 12 0 1)) 12 0 57 (S.1 12 0 2)) 12 0 58 (S.1 12 0 3)) 12 0 59 (S.1 12 0 4)) 12 0 60 (S.1 12 0 42)) 12 0 61 (S.1 12 0 47)) 12 0 62 (S.1 12 0 48) := ⟨_, rfl⟩
  have e' : z_exe z_mt true (d + 1) 208 [.inr (.inr (12, 0))] S = zr_X12_image (z_exe z_mt true d) 999999 79 [some (.inr (.inr (12, 0))), some (.inl (0 : Int32))] [] S0 := by
    rw [hS0, e]
    simp only [z_sI1, Nat.reduceEqDiff, and_false, and_true, and_self, if_false, if_true]
  have f0 : z_fx (fun t i k => i = 0 ∧ t = 12 ∧ 53 ≤ k ∧ k ≤ 62) S S0 := by
    rw [hS0]
    exact (((((((((z_fx.sI ⟨rfl, rfl, by omega, by omega⟩).tr (z_fx.sI ⟨rfl, rfl, by omega, by omega⟩)).tr (z_fx.sI ⟨rfl, rfl, by omega, by omega⟩)).tr (z_fx.sI ⟨rfl, rfl, by omega, by omega⟩)).tr (z_fx.sI ⟨rfl, rfl, by omega, by omega⟩)).tr (z_fx.sI ⟨rfl, rfl, by omega, by omega⟩)).tr (z_fx.sI ⟨rfl, rfl, by omega, by omega⟩)).tr (z_fx.sI ⟨rfl, rfl, by omega, by omega⟩)).tr (z_fx.sI ⟨rfl, rfl, by omega, by omega⟩)).tr (z_fx.sI ⟨rfl, rfl, by omega, by omega⟩)
  obtain ⟨S1, N1, n1, e1, h1, f1⟩ := l_image79 (z_exe z_mt true d) S0 6 0 999999 S0 (by omega) (by omega) (fun j hj => by omega) z_fx.rf
  obtain ⟨S2, N2, n2, e2, h2, f2⟩ := l_image153 (z_exe z_mt true d) S1 24 0 N1 S1 (by omega) (by omega) (fun j hj => by omega) z_fx.rf
  obtain ⟨S3, N3, n3, e3, h3, f3⟩ := l_image179 (z_exe z_mt true d) S2 5 0 N2 S2 (by omega) (by omega) (fun j hj => by omega) z_fx.rf
  obtain ⟨S4, N4, n4, e4, h4, f4⟩ := l_image228 (z_exe z_mt true d) S3 10 0 N3 S3 (by omega) (by omega) (fun j hj => by omega) z_fx.rf
  obtain ⟨S5, N5, n5, e5, h5, f5⟩ := l_image266 (z_exe z_mt true d) S4 8 0 N4 S4 (by omega) (by omega) (fun j hj => by omega) z_fx.rf
  rw [nI_0] at e1 e2 e3 e4 e5
  have E : z_exe z_mt true (d + 1) 208 [.inr (.inr (12, 0))] S = some (some (.inl (S5.1 12 0 0)), S5) := e'.trans (e1.trans (e2.trans (e3.trans (e4.trans e5))))
  have f12 : ∀ k, S5.1 12 0 k = S0.1 12 0 k := fun k => (f5.i (by omega)).trans ((f4.i (by omega)).trans ((f3.i (by omega)).trans ((f2.i (by omega)).trans (f1.i (by omega)))))
  refine ⟨S5, ?_, (((((f0.wk (fun t i k q => by unfold z_Pim; omega)).tr (f1.wk (fun t i k q => by unfold z_Pim; omega))).tr (f2.wk (fun t i k q => by unfold z_Pim; omega))).tr (f3.wk (fun t i k q => by unfold z_Pim; omega))).tr (f4.wk (fun t i k q => by unfold z_Pim; omega))).tr (f5.wk (fun t i k q => by unfold z_Pim; omega)), ?_, fun k hk => ?_, fun t b ht1 ht2 hb => ?_, fun k hk => ?_, fun t i ht1 ht2 hi => ?_, fun t i ht1 ht2 hi => ?_, fun t i ht1 ht2 hi => ?_⟩
  · rw [E, f12, f0.i (by omega), h12]
  · rw [f12, hS0]; simp [z_sI1]
  · rw [f12]
    rcases z_u12c hk with ⟨q, e⟩ | ⟨rfl, e⟩ | ⟨rfl, e⟩ | ⟨rfl, e⟩ | ⟨rfl, e⟩
    · have : k = 0 ∨ k = 1 ∨ k = 2 ∨ k = 3 ∨ k = 4 := by omega
      rw [e, hS0]
      rcases this with rfl | rfl | rfl | rfl | rfl <;> simp [z_sI1]
    · rw [e, hS0]; simp [z_sI1]
    · rw [e, hS0]; simp [z_sI1]
    · rw [e, hS0]; simp [z_sI1]
    · rw [e, hS0]; simp [z_sI1]
  · have hx : S5.1 (t + 30) 0 b = S1.1 (t + 30) 0 b := (f5.i (by omega)).trans ((f4.i (by omega)).trans ((f3.i (by omega)).trans (f2.i (by omega))))
    have hy : S0.1 t 0 b = S.1 t 0 b := f0.i (by omega)
    rw [hx, ← hy]
    obtain ⟨x1, x2, x3, x4, x5⟩ := h1 b hb
    have : t = 37 ∨ t = 38 ∨ t = 39 ∨ t = 40 ∨ t = 41 := by omega
    rcases this with rfl | rfl | rfl | rfl | rfl
    · exact x1
    · exact x2
    · exact x3
    · exact x4
    · exact x5
  · have hx : S5.1 72 0 k = S2.1 72 0 k := (f5.i (by omega)).trans ((f4.i (by omega)).trans (f3.i (by omega)))
    rw [hx, h2 k hk, f1.i (by omega), f0.i (by omega)]
  · have hx : S5.1 (t + 14) 0 i = S3.1 (t + 14) 0 i := (f5.i (by omega)).trans (f4.i (by omega))
    have hy : S2.1 t 0 i = S.1 t 0 i := (f2.i (by omega)).trans ((f1.i (by omega)).trans (f0.i (by omega)))
    rw [hx, ← hy]
    obtain ⟨x1, x2, x3⟩ := h3 i hi
    have : t = 59 ∨ t = 60 ∨ t = 61 := by omega
    rcases this with rfl | rfl | rfl
    · exact x1
    · exact x2
    · exact x3
  · have hx : S5.1 (t + 13) 0 i = S4.1 (t + 13) 0 i := f5.i (by omega)
    have hy : S3.1 t 0 i = S.1 t 0 i := (f3.i (by omega)).trans ((f2.i (by omega)).trans ((f1.i (by omega)).trans (f0.i (by omega))))
    rw [hx, ← hy]
    obtain ⟨x1, x2⟩ := h4 i hi
    have : t = 63 ∨ t = 64 := by omega
    rcases this with rfl | rfl
    · exact x1
    · exact x2
  · have hy : S4.1 t 0 i = S.1 t 0 i := (f4.i (by omega)).trans ((f3.i (by omega)).trans ((f2.i (by omega)).trans ((f1.i (by omega)).trans (f0.i (by omega)))))
    rw [← hy]
    obtain ⟨x1, x2⟩ := h5 i hi
    have : t = 65 ∨ t = 66 := by omega
    rcases this with rfl | rfl
    · exact x1
    · exact x2
/-- a copied room leaves the numbers of pairs behind its own as they were -/
theorem l_copyNum (d q r n : Nat) (S0 : z_Mem) (hqr : q ≠ r) (hn : n ≤ 6) (h01 : z_01 r n S0) : ∀ (m b N : Nat) (S : z_Mem), b + m = n → m < N → S.1 7 q 1 = nI n → z_fx (z_Pcp q) S0 S → z_fx (fun t i _ => ¬ (t = 2 ∧ 6 * q + n ≤ i)) S0 S →
    z_wp (zr_X7_copyFrom (z_exe z_mt true (d + 1)) N 21 [some (.inr (.inr (7, q))), some (.inr (.inr (7, r))), some (.inl (nI b))] [] S) (fun x S' => x = none ∧ z_fx (fun t i _ => ¬ (t = 2 ∧ 6 * q + n ≤ i)) S0 S') := by
  intro m
  induction m with
  | zero =>
    intro b N S hb hN h7 hf hg
    obtain ⟨N, rfl⟩ : ∃ N', N = N' + 1 := ⟨N - 1, by omega⟩
    rw [ze_X7_copyFrom_21, if_pos (by rw [h7, z_le (by omega) (by omega)]; omega)]
    exact z_wp_ret ⟨rfl, hg⟩
  | succ m ih =>
    intro b N S hb hN h7 hf hg
    obtain ⟨N, rfl⟩ : ∃ N', N = N' + 1 := ⟨N - 1, by omega⟩
    rw [ze_X7_copyFrom_21, if_neg (by rw [h7, z_le (by omega) (by omega)]; omega), z_oob_n (k := b) (by omega) (by omega), z_cl (k := b) (by omega)]
    dsimp only [cond]
    have o2 : ∀ k, S.1 2 (6 * r + b) k = S0.1 2 (6 * r + b) k := fun k => hf.i (by unfold z_Pcp; omega)
    refine z_wp_V (s_copyBoots d (6 * q + b) (6 * r + b) S (by omega) (by rw [o2]; exact h01 b (by omega))) (fun x S' hx => ⟨hx.1, ?_⟩)
    obtain ⟨-, c2, c21, hf'⟩ := hx
    rw [nI_1]
    exact ih (b + 1) N S' (by omega) (by omega) ((hf'.i (by omega)).trans h7) (hf.tr (hf'.wk (fun t i k q => by unfold z_Pcp; omega))) (hg.tr (hf'.wk (fun t i k q => by omega)))
theorem s_copyNum (d q r n : Nat) (S S' : z_Mem) (hqr : q ≠ r) (hn : n ≤ 6) (hc : S.1 7 r 1 = nI n) (h01 : z_01 r n S) (he : z_exe z_mt true (d + 2) 51 [.inr (.inr (7, q)), .inr (.inr (7, r))] S = some (none, S')) : ∀ b, n ≤ b → S'.1 2 (6 * q + b) 0 = S.1 2 (6 * q + b) 0 := by
  have e : z_exe z_mt true (d + 2) 51 [.inr (.inr (7, q)), .inr (.inr (7, r))] S = _ := (zx_X7_copyFrom (d + 1) S q r).trans (ze_X7_copyFrom_0 _ _ _ _ _)
  have k : z_wp (z_exe z_mt true (d + 2) 51 [.inr (.inr (7, q)), .inr (.inr (7, r))] S) (fun x S' => x = none ∧ z_fx (fun t i _ => ¬ (t = 2 ∧ 6 * q + n ≤ i)) S S') := by
    rw [e]
    dsimp only
    refine z_wp_V (s_copyStove d q r _ hqr) (fun x S1 hx => ⟨hx.1, ?_⟩)
    obtain ⟨-, c9, c93, hf'⟩ := hx
    have hf : z_fx (z_Pcp q) S (z_sI S 7 q 1 (S.1 7 r 1)) := z_fx.sI (Or.inl ⟨rfl, rfl, rfl⟩)
    have hg : z_fx (fun t i _ => ¬ (t = 2 ∧ 6 * q + n ≤ i)) S (z_sI S 7 q 1 (S.1 7 r 1)) := z_fx.sI (by omega)
    refine l_copyNum d q r n S hqr hn h01 n 0 999999 S1 (by omega) (by omega) ?_ (hf.tr (hf'.wk (fun t i k q => by unfold z_Pcp; omega))) (hg.tr (hf'.wk (fun t i k q => by omega)))
    rw [hf'.i (by omega), z_sI1, if_pos ⟨rfl, rfl, rfl⟩]; exact hc
  obtain ⟨x, S2, e2, hx, hf⟩ := k
  rw [he] at e2
  have : S' = S2 := (Prod.mk.inj (Option.some.inj e2)).2
  intro b hb
  rw [this]
  exact hf.i (fun z => z ⟨rfl, by omega⟩)
theorem c_image (S : z_Mem) (hR : z_RL S) : z_both 105 208 [] S := by
  obtain ⟨hts, hN, ⟨n, hr, h, c0, ht, wd, H, K, W, C, hA, hB⟩, hI, hT, hP, hAc⟩ := id hR
  obtain ⟨⟨hn, hhr, hwd, hH, hts6⟩, hh6⟩ := hA.1
  have hC := fun b hb => (hA.2.2 b hb).1.2.2
  have c7 : S.1 7 0 1 = nI n := hA.2.1.1.1
  have c12 : S.1 12 0 0 = nI n := hA.2.1.2.1
  obtain ⟨⟨d1, x1, x2, x3, x4⟩, ⟨d2, y1, y2, y3, y4⟩, ⟨d3, w1, w2, w3, w4⟩⟩ := id hB
  obtain ⟨hI1, hI2, hI3⟩ := id hI
  have f0 : z_fx (fun t i k => t = 11 ∧ i = 0 ∧ k = 4) S (z_sI S 11 0 4 1) := z_fx.sI ⟨rfl, rfl, rfl⟩
  obtain ⟨S0, hS0⟩ : ∃ S0, S0 = z_sI S 11 0 4 1 := ⟨_, rfl⟩
  rw [← hS0] at f0
  obtain ⟨x, S1, e1, rfl, p1⟩ := s_copyRoom 37 1 0 n S0 (by omega) hn ((f0.i (by omega)).trans c7) (fun b hb => by rw [f0.i (by omega)]; exact hA.z01 b hb)
  have fr1 := p1.2.2.2.2
  obtain ⟨S2, e2, p2⟩ := s_copyRows 38 3 0 d1 5 S1 (by omega) rfl rfl (by omega) ((fr1.i (by unfold z_Pcp; omega)).trans ((f0.i (by omega)).trans x2)) x1
  obtain ⟨S3, e3, p3⟩ := s_copyRows 38 4 1 d2 10 S2 (by omega) rfl rfl (by omega) ((p2.2.2.i (by omega)).trans ((fr1.i (by unfold z_Pcp; omega)).trans ((f0.i (by omega)).trans y2))) y1
  obtain ⟨S4, e4, p4⟩ := s_copyRows 38 5 2 d3 8 S3 (by omega) rfl rfl (by omega) ((p3.2.2.i (by omega)).trans ((p2.2.2.i (by omega)).trans ((fr1.i (by unfold z_Pcp; omega)).trans ((f0.i (by omega)).trans w2)))) w1
  have fC : z_fx (fun t i k => (t = 11 ∧ i = 0 ∧ k = 4) ∨ z_Pcp 1 t i k ∨ (t = 8 ∧ 3 ≤ i ∧ i < 6 ∧ k = 3) ∨ (31 ≤ t ∧ t ≤ 33 ∧ 3 ≤ i ∧ i < 6)) S S4 := ((((f0.wk (fun t i k q => Or.inl q)).tr (fr1.wk (fun t i k q => Or.inr (Or.inl q)))).tr (p2.2.2.wk (fun t i k q => Or.inr (Or.inr (by omega))))).tr (p3.2.2.wk (fun t i k q => Or.inr (Or.inr (by omega))))).tr (p4.2.2.wk (fun t i k q => Or.inr (Or.inr (by omega))))
  have g12 : S4.1 12 0 0 = nI n := (fC.i (by unfold z_Pcp; omega)).trans c12
  obtain ⟨M, eM, fM, m53, m12, m37, m42, m59, m63, m65⟩ := s_mImage 39 n S4 g12
  refine ⟨.inl (nI n), S4, M, ?_, eM, ?_⟩
  · have e : z_exe z_mt true 40 105 [.inr (.inr (11, 0))] S = _ := (zx_X11_image 39 S 0).trans (ze_X11_image_0 _ _ _ _)
    rw [if_pos (by decide)] at e
    dsimp only at e
    rw [← hS0, e1, z_rV_s, e2, z_rV_s, e3, z_rV_s, e4, z_rV_s, fC.i (t := 7) (i := 0) (k := 1) (by unfold z_Pcp; omega), c7] at e
    exact e
  · have F : z_fx (fun t i k => ((t = 11 ∧ i = 0 ∧ k = 4) ∨ z_Pcp 1 t i k ∨ (t = 8 ∧ 3 ≤ i ∧ i < 6 ∧ k = 3) ∨ (31 ≤ t ∧ t ≤ 33 ∧ 3 ≤ i ∧ i < 6)) ∨ z_Pim t i k) S M := (fC.wk (fun _ _ _ q => Or.inl q)).tr (fM.wk (fun _ _ _ q => Or.inr q))
    have EM : ∀ t i k, ¬ z_Pim t i k → M.1 t i k = S4.1 t i k := fun t i k q => fM.i q
    have E2 : ∀ t i k, t = 2 ∨ t = 21 ∨ t = 9 ∨ t = 7 → M.1 t i k = S1.1 t i k := fun t i k q => (fM.i (by unfold z_Pim; omega)).trans ((p4.2.2.i (by omega)).trans ((p3.2.2.i (by omega)).trans (p2.2.2.i (by omega))))
    refine ⟨hts, hN.cg (fun t i k q => F.i (by unfold z_Pcp z_Pim; omega)) F.2.1, ⟨n, hr, h, c0, ht, wd, H, K, W, C, hA.cg (fun t i k q _ _ _ _ _ _ => F.i (by unfold z_FA at q; unfold z_Pcp z_Pim; omega)) (by rw [F.r (by unfold z_Pcp z_Pim; omega)]), hB.cg (fun t i k q => F.i (by unfold z_FB at q; unfold z_Pcp z_Pim; omega))⟩, ?_, hT.cg (fun t i k q => F.i (by unfold z_Pcp z_Pim; omega)), hP.cg (fun t i k q => F.i (by unfold z_Pcp z_Pim; omega)) (fun t i k q => F.l (by unfold z_Pcp z_Pim; omega)), hAc.cg (fun t i k q => F.i (by unfold z_Pcp z_Pim; omega))⟩
    have m4 : M.1 11 0 4 = 1 := by
      rw [EM 11 0 4 (by unfold z_Pim; omega), p4.2.2.i (by omega), p3.2.2.i (by omega), p2.2.2.i (by omega), fr1.i (by unfold z_Pcp; omega), hS0]
      simp [z_sI1]
    have hnumM : ∀ b, b < 6 → M.1 2 (b + 6) 0 = nI b := by
      intro b hb
      rw [E2 2 _ _ (Or.inl rfl)]
      by_cases q : b < n
      · rw [show b + 6 = 6 * 1 + b by omega, (p1.2.2.2.1 b q).1 0 (by omega), f0.i (by omega), z_60]
        exact hA.2.1.1.2.2.2.2.2.2 b hb
      · have := s_copyNum 37 1 0 n S0 S1 (by omega) hn ((f0.i (by omega)).trans c7) (fun b hb => by rw [f0.i (by omega)]; exact hA.z01 b hb) e1 b (by omega)
        rw [show b + 6 = 6 * 1 + b by omega, this, f0.i (by omega), show 6 * 1 + b = b + 6 by omega]
        exact hI3 b hb
    refine ⟨?_, Or.inr ⟨m4, ?_⟩, hnumM⟩
    · rw [m4, m53]
    have Eh : ∀ t i k, t = 4 ∨ t = 22 ∨ t = 23 ∨ (44 ≤ t ∧ t ≤ 49) → M.1 t i k = S.1 t i k := fun t i k q => F.i (by unfold z_Pcp z_Pim; omega)
    refine z_L.xf (B := z_un M) hA hB ?_ (fun k hk => ?_) ?_ (fun t i k q => ?_) (fun k hk => ?_) (fun b hb => ?_) (fun b hb => ⟨fun k hk => ?_, fun k hk => ?_⟩) (fun t b h1 h2 hb => ?_) (fun k hk => ?_) (fun r hr => ?_) (fun r c t i hr hc hc2 h1 h2 hi => ?_) (fun t i h1 h2 hi => ?_) (fun t i h1 h2 hi => ?_) (fun t i h1 h2 hi => ?_)
    · show M.1 7 1 1 = _
      rw [E2 7 1 1 (by omega), p1.1, c7]
    · show M.1 9 1 k = _
      rw [E2 9 1 k (by omega), p1.2.1 k hk, f0.i (by omega)]
    · show (M.2.2.1 9 1 3).2 = _
      rw [fM.r (by unfold z_Pim; omega), p4.2.2.r (by omega), p3.2.2.r (by omega), p2.2.2.r (by omega), p1.2.2.1, f0.r (by omega)]
    · rw [z_unh M t i k q]; exact Eh t i k q
    · rw [z_un12, m12 k hk]; exact fC.i (by unfold z_Pcp; omega)
    · rw [z_un2 M 2 b 0 (Or.inl rfl) hb]; exact hnumM b hb
    · rw [z_un2 M 2 b k (Or.inl rfl) (by omega), E2 2 _ k (by omega), show b + 6 = 6 * 1 + b by omega, (p1.2.2.2.1 b hb).1 k hk, f0.i (by omega), z_60]
    · rw [z_un2 M 21 b k (Or.inr rfl) (by omega), E2 21 _ k (by omega), show b + 6 = 6 * 1 + b by omega, (p1.2.2.2.1 b hb).2 k hk, f0.i (by omega), z_60]
    · rw [z_un37 M t b (by omega) (by omega), m37 t b h1 h2 hb]; exact fC.i (by unfold z_Pcp; omega)
    · rw [z_un37 M 42 k (by omega) (by omega), m42 k hk]; exact fC.i (by unfold z_Pcp; omega)
    · rw [z_un8 M 8 r 3 (Or.inl rfl) hr, EM 8 _ 3 (by unfold z_Pim; omega)]
      have : r = 0 ∨ r = 1 ∨ r = 2 := by omega
      rcases this with rfl | rfl | rfl
      · rw [p4.2.2.i (by omega), p3.2.2.i (by omega), p2.1, x2]
      · rw [p4.2.2.i (by omega), p3.1, y2]
      · rw [p4.1, w2]
    · rw [z_un8 M t r i (Or.inr ⟨h1, h2⟩) hr, EM t _ i (by unfold z_Pim; omega)]
      have E0 : ∀ r, r < 3 → S1.1 t r i = S.1 t r i := fun r hr => (fr1.i (by unfold z_Pcp; omega)).trans (f0.i (by omega))
      have : r = 0 ∨ r = 1 ∨ r = 2 := by omega
      rcases this with rfl | rfl | rfl
      · have hcd : c = d1 := (nI_eq (by omega) (by omega)).mp (hc2.symm.trans x2)
        rw [p4.2.2.i (by omega), p3.2.2.i (by omega), p2.2.1 t i h1 h2 (by omega)]
        exact E0 0 (by omega)
      · have hcd : c = d2 := (nI_eq (by omega) (by omega)).mp (hc2.symm.trans y2)
        rw [p4.2.2.i (by omega), p3.2.1 t i h1 h2 (by omega), p2.2.2.i (by omega)]
        exact E0 1 (by omega)
      · have hcd : c = d3 := (nI_eq (by omega) (by omega)).mp (hc2.symm.trans w2)
        rw [p4.2.1 t i h1 h2 (by omega), p3.2.2.i (by omega), p2.2.2.i (by omega)]
        exact E0 2 (by omega)
    · rw [z_un59 M t i h1 h2, m59 t i h1 h2 hi]; exact fC.i (by unfold z_Pcp; omega)
    · rw [z_un63 M t i h1 (by omega), m63 t i h1 h2 hi]; exact fC.i (by unfold z_Pcp; omega)
    · rw [z_un63 M t i (by omega) h2, m65 t i h1 h2 hi]; exact fC.i (by unfold z_Pcp; omega)
