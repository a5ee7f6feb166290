/-! ===== pair ===== -/
theorem z_pigB : ((List.range 15625).all fun x => (x % 5) == (x / 5 % 5) || (x % 5) == (x / 25 % 5) || (x % 5) == (x / 125 % 5) || (x % 5) == (x / 625 % 5) || (x % 5) == (x / 3125 % 5) || (x / 5 % 5) == (x / 25 % 5) || (x / 5 % 5) == (x / 125 % 5) || (x / 5 % 5) == (x / 625 % 5) || (x / 5 % 5) == (x / 3125 % 5) || (x / 25 % 5) == (x / 125 % 5) || (x / 25 % 5) == (x / 625 % 5) || (x / 25 % 5) == (x / 3125 % 5) || (x / 125 % 5) == (x / 625 % 5) || (x / 125 % 5) == (x / 3125 % 5) || (x / 625 % 5) == (x / 3125 % 5)) = true := by decide +kernel
theorem z_free {K : Nat → z_K} {n : Nat} (hn : n ≤ 5) : ∃ p : Nat, p ≤ 5 ∧ z_pw K n (nI p) = -5 ∧ ∀ j, j < p → ∃ k : Nat, k < n ∧ z_pw K n (nI j) = nI k := by
  have key : ∃ p : Nat, p ≤ 5 ∧ z_pw K n (nI p) = -5 := by
    refine Classical.byContradiction (fun hno => ?_)
    have hall : ∀ j, j ≤ 5 → ∃ k : Nat, k < n ∧ (K k).2.2.2.1 = nI j := by
      intro j hj
      rcases z_pw_is K n (nI j) with ⟨h1, -⟩ | ⟨k, h1, -, h3⟩
      · exact absurd ⟨j, hj, h1⟩ hno
      · exact ⟨k, h1, h3⟩
    obtain ⟨a, ha, ea⟩ := hall 0 (by omega)
    obtain ⟨b, hb, eb⟩ := hall 1 (by omega)
    obtain ⟨c, hc, ec⟩ := hall 2 (by omega)
    obtain ⟨d, hd, ed⟩ := hall 3 (by omega)
    obtain ⟨e, he, ee⟩ := hall 4 (by omega)
    obtain ⟨f, hf, ef⟩ := hall 5 (by omega)
    have ne : ∀ x y i j : Nat, i < 6 → j < 6 → i ≠ j → (K x).2.2.2.1 = nI i → (K y).2.2.2.1 = nI j → x ≠ y := by
      intro x y i j hi hj hij h1 h2 h3
      rw [h3, h2] at h1
      exact hij ((nI_eq (by omega) (by omega)).mp h1).symm
    have hx := List.all_eq_true.mp z_pigB (a + 5 * b + 25 * c + 125 * d + 625 * e + 3125 * f) (List.mem_range.mpr (by omega))
    rw [show (a + 5 * b + 25 * c + 125 * d + 625 * e + 3125 * f) % 5 = a by omega, show (a + 5 * b + 25 * c + 125 * d + 625 * e + 3125 * f) / 5 % 5 = b by omega, show (a + 5 * b + 25 * c + 125 * d + 625 * e + 3125 * f) / 25 % 5 = c by omega, show (a + 5 * b + 25 * c + 125 * d + 625 * e + 3125 * f) / 125 % 5 = d by omega, show (a + 5 * b + 25 * c + 125 * d + 625 * e + 3125 * f) / 625 % 5 = e by omega, show (a + 5 * b + 25 * c + 125 * d + 625 * e + 3125 * f) / 3125 % 5 = f by omega] at hx
    have n1 := ne a b 0 1 (by decide) (by decide) (by decide) ea eb
    have n2 := ne a c 0 2 (by decide) (by decide) (by decide) ea ec
    have n3 := ne a d 0 3 (by decide) (by decide) (by decide) ea ed
    have n4 := ne a e 0 4 (by decide) (by decide) (by decide) ea ee
    have n5 := ne a f 0 5 (by decide) (by decide) (by decide) ea ef
    have n6 := ne b c 1 2 (by decide) (by decide) (by decide) eb ec
    have n7 := ne b d 1 3 (by decide) (by decide) (by decide) eb ed
    have n8 := ne b e 1 4 (by decide) (by decide) (by decide) eb ee
    have n9 := ne b f 1 5 (by decide) (by decide) (by decide) eb ef
    have n10 := ne c d 2 3 (by decide) (by decide) (by decide) ec ed
    have n11 := ne c e 2 4 (by decide) (by decide) (by decide) ec ee
    have n12 := ne c f 2 5 (by decide) (by decide) (by decide) ec ef
    have n13 := ne d e 3 4 (by decide) (by decide) (by decide) ed ee
    have n14 := ne d f 3 5 (by decide) (by decide) (by decide) ed ef
    have n15 := ne e f 4 5 (by decide) (by decide) (by decide) ee ef
    simp [n1, n2, n3, n4, n5, n6, n7, n8, n9, n10, n11, n12, n13, n14, n15] at hx
  obtain ⟨p, ⟨hp, h5⟩, hl⟩ := pk_least (fun p => p ≤ 5 ∧ z_pw K n (nI p) = -5) key
  refine ⟨p, hp, h5, fun j hj => ?_⟩
  rcases z_pw_is K n (nI j) with ⟨h1, -⟩ | ⟨k, h1, h2, -⟩
  · exact absurd ⟨by omega, h1⟩ (hl j hj)
  · exact ⟨k, h1, h2⟩
theorem l_freePlace (d p : Nat) {hts n hr h c0 : Nat} {ht wd : Int32} {H : z_H} {K : Nat → z_K} {W C : Nat → Int32} {S : z_Mem} (hA : z_LA hts n hr h c0 ht wd H K W C S) (hp : p ≤ 5) (h5 : z_pw K n (nI p) = -5) (hl : ∀ j, j < p → ∃ k : Nat, k < n ∧ z_pw K n (nI j) = nI k) : ∀ (m j N : Nat), j + m = p → m < N →
    zr_X7_freePlace (z_exe z_mt true (d + 1)) N 2 [some (.inr (.inr (7, 0))), some (.inl (nI j))] [] S = some (some (.inl (nI p)), S) := by
  have hn := hA.1.1.1
  intro m
  induction m with
  | zero =>
    intro j N hj hN
    obtain ⟨N, rfl⟩ : ∃ N', N = N' + 1 := ⟨N - 1, by omega⟩
    obtain rfl : j = p := by omega
    rw [ze_X7_freePlace_2]
    by_cases q : (5 : Int32) ≤ nI j
    · rw [if_pos q]
    · rw [if_neg q, s_whoC d hA, z_rI_s, h5, if_pos (by decide)]
  | succ m ih =>
    intro j N hj hN
    obtain ⟨N, rfl⟩ : ∃ N', N = N' + 1 := ⟨N - 1, by omega⟩
    obtain ⟨k, hk, e⟩ := hl j (by omega)
    rw [ze_X7_freePlace_2, if_neg (by rw [show (5 : Int32) = nI 5 from rfl, z_le (by omega) (by omega)]; omega), s_whoC d hA, z_rI_s, e, if_neg (nI_pos (by omega))]
    dsimp only
    rw [nI_1]
    exact ih (j + 1) N (by omega) (by omega)
theorem l_fill (ex : z_Ex) (i : Nat) (S0 : z_Mem) : ∀ (m k N : Nat) (S : z_Mem), k + m = 4 → m < N → (∀ j, j < k → S.1 21 i j = 0) → z_fx (fun t i' _ => t = 21 ∧ i' = i) S0 S →
    ∃ S', zr_J7_fill_53178 ex N 5 [some (.inr (.inr (21, i))), some (.inl (0 : Int32)), some (.inl (nI k)), some (.inl (nI 4))] [] S = some (none, S') ∧ (∀ j, j < 4 → S'.1 21 i j = 0) ∧ z_fx (fun t i' _ => t = 21 ∧ i' = i) S0 S' := by
  intro m
  induction m with
  | zero =>
    intro k N S hk hN h0 hf
    obtain ⟨N, rfl⟩ : ∃ N', N = N' + 1 := ⟨N - 1, by omega⟩
    rw [ze_J7_fill_53178_5, if_pos (by rw [z_le (by omega) (by omega)]; omega)]
    exact ⟨S, rfl, fun j hj => h0 j (by omega), hf⟩
  | succ m ih =>
    intro k N S hk hN h0 hf
    obtain ⟨N, rfl⟩ : ∃ N', N = N' + 1 := ⟨N - 1, by omega⟩
    rw [ze_J7_fill_53178_5, if_neg (by rw [z_le (by omega) (by omega)]; omega), z_oob_n (k := k) (by omega) (by omega), z_cond_f]
    dsimp only
    rw [z_cl (k := k) (by omega), nI_1]
    refine ih (k + 1) N _ (by omega) (by omega) (fun j hj => ?_) (hf.tr (z_fx.sI ⟨rfl, rfl⟩))
    by_cases q : j = k
    · simp [z_sI1, q]
    · have := h0 j (by omega)
      simp [z_sI1, q, this]
theorem s_fill4 (d i : Nat) (S : z_Mem) : ∃ S', z_exe z_mt true (d + 1) 230 [.inr (.inr (21, i)), .inl (0 : Int32)] S = some (none, S') ∧ (∀ j, j < 4 → S'.1 21 i j = 0) ∧ z_fx (fun t i' _ => t = 21 ∧ i' = i) S S' := by
  have e : z_exe z_mt true (d + 1) 230 [.inr (.inr (21, i)), .inl (0 : Int32)] S = _ := (zx_J7_fill_53178 d S i 0).trans (ze_J7_fill_53178_0 _ _ _ _ _)
  obtain ⟨S', e1, h1, h2⟩ := l_fill (z_exe z_mt true d) i S 4 0 999999 S (by omega) (by omega) (fun j hj => by omega) z_fx.rf
  exact ⟨S', e.trans e1, h1, h2⟩
theorem s_become (d i : Nat) (v1 v2 v3 v4 : Int32) (S : z_Mem) : ∃ S', z_exe z_mt true (d + 2) 9 [.inr (.inr (2, i)), .inl v1, .inl v2, .inl v3, .inl v4] S = some (none, S') ∧ (S'.1 2 i 1 = v1 ∧ S'.1 2 i 2 = v2 ∧ S'.1 2 i 3 = v3 ∧ S'.1 2 i 4 = v4 ∧ S'.1 2 i 5 = 0 ∧ S'.1 2 i 6 = 0) ∧ (∀ j, j < 4 → S'.1 21 i j = 0) ∧ z_fx (fun t i' k => (t = 2 ∧ i' = i ∧ 1 ≤ k) ∨ (t = 21 ∧ i' = i)) S S' := by
  have e : z_exe z_mt true (d + 2) 9 [.inr (.inr (2, i)), .inl v1, .inl v2, .inl v3, .inl v4] S = _ := (zx_X1_become (d + 1) S i v1 v2 v3 v4).trans (ze_X1_become_0 _ _ _ _ _ _ _ _)
  dsimp only at e
  rw [if_pos (by decide)] at e
  obtain ⟨S', e1, h1, h2⟩ := s_fill4 d i (z_sI (z_sI (z_sI (z_sI (z_sI (z_sI S 2 i 1 v1) 2 i 2 v2) 2 i 3 v3) 2 i 4 v4) 2 i 5 0) 2 i 6 0)
  rw [e1, z_rV_s] at e
  refine ⟨S', e, ⟨?_, ?_, ?_, ?_, ?_, ?_⟩, h1, ?_⟩
  · rw [h2.i (by omega)]; simp [z_sI1]
  · rw [h2.i (by omega)]; simp [z_sI1]
  · rw [h2.i (by omega)]; simp [z_sI1]
  · rw [h2.i (by omega)]; simp [z_sI1]
  · rw [h2.i (by omega)]; simp [z_sI1]
  · rw [h2.i (by omega)]; simp [z_sI1]
  · have f : z_fx (fun t i' k => (t = 2 ∧ i' = i ∧ 1 ≤ k) ∨ (t = 21 ∧ i' = i)) S (z_sI (z_sI (z_sI (z_sI (z_sI (z_sI S 2 i 1 v1) 2 i 2 v2) 2 i 3 v3) 2 i 4 v4) 2 i 5 0) 2 i 6 0) :=
      (((((z_fx.sI (Or.inl ⟨rfl, rfl, by omega⟩)).tr (z_fx.sI (Or.inl ⟨rfl, rfl, by omega⟩))).tr (z_fx.sI (Or.inl ⟨rfl, rfl, by omega⟩))).tr (z_fx.sI (Or.inl ⟨rfl, rfl, by omega⟩))).tr (z_fx.sI (Or.inl ⟨rfl, rfl, by omega⟩))).tr (z_fx.sI (Or.inl ⟨rfl, rfl, by omega⟩))
    exact f.tr (h2.wk (fun t i' k q => Or.inr q))
/-- the model's rows, written over with 0 -/
theorem l_pair136 (ex : z_Ex) (n : Nat) (hn : n ≤ 5) (S0 : z_Mem) : ∀ (m k N : Nat) (S : z_Mem), k + m = 4 → m < N → S.1 12 0 0 = nI n → (∀ j, j < k → S.1 42 0 (4 * n + j) = 0) → z_fx (fun t i j => t = 42 ∧ i = 0 ∧ 4 * n ≤ j ∧ j < 4 * n + 4) S0 S →
    ∃ S', zr_X12_pair ex N 136 [some (.inr (.inr (12, 0))), none, none, none, none, some (.inl (nI k))] [] S = some (some (.inl (nI n)), z_sI S' 12 0 0 (nI (n + 1))) ∧ (∀ j, j < 4 → S'.1 42 0 (4 * n + j) = 0) ∧ z_fx (fun t i j => t = 42 ∧ i = 0 ∧ 4 * n ≤ j ∧ j < 4 * n + 4) S0 S' := by
  intro m
  induction m with
  | zero =>
    intro k N S hk hN h12 h0 hf
    obtain ⟨N, rfl⟩ : ∃ N', N = N' + 1 := ⟨N - 1, by omega⟩
    rw [ze_X12_pair_136, if_pos (by rw [show (4 : Int32) = nI 4 from rfl, z_le (by omega) (by omega)]; omega)]
    dsimp only
    rw [z_sI1, if_pos ⟨rfl, rfl, rfl⟩, h12, nI_1, nI_pred]
    exact ⟨S, rfl, fun j hj => h0 j (by omega), hf⟩
  | succ m ih =>
    intro k N S hk hN h12 h0 hf
    obtain ⟨N, rfl⟩ : ∃ N', N = N' + 1 := ⟨N - 1, by omega⟩
    have hix : (4 : Int32) * nI n + nI k = nI (4 * n + k) := by
      rw [show (4 : Int32) * nI n = nI (4 * n) from pk_mul 4 n, nI_add]
    rw [ze_X12_pair_136, if_neg (by rw [show (4 : Int32) = nI 4 from rfl, z_le (by omega) (by omega)]; omega), h12, hix, z_oob_n (k := 4 * n + k) (by omega) (by omega), z_cond_f]
    dsimp only
    rw [z_cl (k := 4 * n + k) (by omega), nI_1]
    refine ih (k + 1) N _ (by omega) (by omega) (by simp [z_sI1, h12]) (fun j hj => ?_) (hf.tr (z_fx.sI ⟨rfl, rfl, by omega, by omega⟩))
    by_cases q : j = k
    · simp [z_sI1, q]
    · have := h0 j (by omega)
      simp [z_sI1, q, this]
theorem z_r12 {S : z_Mem} {t i k : Nat} {x : Int32} (h : t ≠ 12) : (z_sI S t i k x).1 12 0 0 = S.1 12 0 0 := by
  rw [z_sI1, if_neg (fun q => h q.1.symm)]
theorem l_pair50 (d n p : Nat) (v1 v2 v3 : Int32) (K : Nat → z_K) (S : z_Mem) (hn : n ≤ 5) (hp : p ≤ 5) (h12 : S.1 12 0 0 = nI n) (hpl : ∀ k, k < n → S.1 40 0 k = (K k).2.2.2.1) (h5 : z_pw K n (nI p) = -5) (hl : ∀ j, j < p → ∃ k : Nat, k < n ∧ z_pw K n (nI j) = nI k) : ∀ (m j N : Nat), j + m = p → m + 10 < N →
    ∃ S2, zr_X12_pair (z_exe z_mt true (d + 1)) N 50 [some (.inr (.inr (12, 0))), some (.inl v1), some (.inl v2), some (.inl v3), some (.inl (nI j)), none] [] S = some (some (.inl (nI n)), S2) ∧
      (S2.1 37 0 n = v1 ∧ S2.1 38 0 n = v2 ∧ S2.1 39 0 n = v3 ∧ S2.1 40 0 n = nI p ∧ S2.1 41 0 n = 0 ∧ S2.1 12 0 0 = nI (n + 1) ∧ S2.1 12 0 1 = S.1 12 0 1 &&& (((1 : Int32) <<< (nI n &&& 31)) ^^^ (-1 : Int32)) ∧ ∀ j, j < 4 → S2.1 42 0 (4 * n + j) = 0) ∧
      z_fx (fun t i k => (i = 0 ∧ 37 ≤ t ∧ t ≤ 41 ∧ k = n) ∨ (t = 42 ∧ i = 0 ∧ 4 * n ≤ k ∧ k < 4 * n + 4) ∨ (t = 12 ∧ i = 0 ∧ k ≤ 1)) S S2 := by
  have ew : ∀ p, z_who (fun b => S.1 40 0 b) p 0 n = z_pw K n p := fun p => z_who_cg n 0 (fun k _ hk => hpl k (by omega))
  intro m
  induction m with
  | zero =>
    intro j N hj hN
    obtain ⟨N, rfl⟩ : ∃ N', N = N' + 1 := ⟨N - 1, by omega⟩
    obtain rfl : j = p := by omega
    rw [ze_X12_pair_50, s_whoIs d n (nI j) S (by omega) h12, z_rI_s, ew, h5, if_pos (by decide)]
    simp only [z_r12 (t := 37) (by decide), z_r12 (t := 38) (by decide), z_r12 (t := 39) (by decide), z_r12 (t := 40) (by decide), z_r12 (t := 41) (by decide), h12, z_oob_n (k := n) (n := 6) (by omega) (by omega), z_cond_f, z_cl (k := n) (by omega)]
    have e1 : (z_sI (z_sI (z_sI (z_sI (z_sI S 37 0 n v1) 38 0 n v2) 39 0 n v3) 40 0 n (nI j)) 41 0 n 0).1 12 0 1 = S.1 12 0 1 := by simp [z_sI1]
    rw [e1]
    have f1 : z_fx (fun t i k => (i = 0 ∧ 37 ≤ t ∧ t ≤ 41 ∧ k = n) ∨ (t = 42 ∧ i = 0 ∧ 4 * n ≤ k ∧ k < 4 * n + 4) ∨ (t = 12 ∧ i = 0 ∧ k ≤ 1)) S (z_sI (z_sI (z_sI (z_sI (z_sI (z_sI S 37 0 n v1) 38 0 n v2) 39 0 n v3) 40 0 n (nI j)) 41 0 n 0) 12 0 1 (S.1 12 0 1 &&& (((1 : Int32) <<< (nI n &&& 31)) ^^^ (-1 : Int32)))) :=
      (((((z_fx.sI (Or.inl ⟨rfl, by omega, by omega, rfl⟩)).tr (z_fx.sI (Or.inl ⟨rfl, by omega, by omega, rfl⟩))).tr (z_fx.sI (Or.inl ⟨rfl, by omega, by omega, rfl⟩))).tr (z_fx.sI (Or.inl ⟨rfl, by omega, by omega, rfl⟩))).tr (z_fx.sI (Or.inl ⟨rfl, by omega, by omega, rfl⟩))).tr (z_fx.sI (Or.inr (Or.inr ⟨rfl, rfl, by omega⟩)))
    obtain ⟨S3, e3, h3, f3⟩ := l_pair136 (z_exe z_mt true (d + 1)) n hn _ 4 0 N (z_sI (z_sI (z_sI (z_sI (z_sI (z_sI S 37 0 n v1) 38 0 n v2) 39 0 n v3) 40 0 n (nI j)) 41 0 n 0) 12 0 1 (S.1 12 0 1 &&& (((1 : Int32) <<< (nI n &&& 31)) ^^^ (-1 : Int32)))) (by omega) (by omega) (by simp [z_sI1, h12]) (fun j hj => by omega) z_fx.rf
    refine ⟨_, e3, ⟨?_, ?_, ?_, ?_, ?_, ?_, ?_, fun j hj => ?_⟩, ?_⟩
    · rw [z_sI1, if_neg (fun q => absurd q.1 (by decide)), f3.i (by omega)]; simp [z_sI1]
    · rw [z_sI1, if_neg (fun q => absurd q.1 (by decide)), f3.i (by omega)]; simp [z_sI1]
    · rw [z_sI1, if_neg (fun q => absurd q.1 (by decide)), f3.i (by omega)]; simp [z_sI1]
    · rw [z_sI1, if_neg (fun q => absurd q.1 (by decide)), f3.i (by omega)]; simp [z_sI1]
    · rw [z_sI1, if_neg (fun q => absurd q.1 (by decide)), f3.i (by omega)]; simp [z_sI1]
    · rw [z_sI1, if_pos ⟨rfl, rfl, rfl⟩]
    · rw [z_sI1, if_neg (fun q => absurd q.2.2 (by decide)), f3.i (by omega)]; simp [z_sI1]
    · rw [z_sI1, if_neg (fun q => absurd q.1 (by decide))]; exact h3 j hj
    · exact (f1.tr (f3.wk (fun t i k q => Or.inr (Or.inl q)))).tr (z_fx.sI (Or.inr (Or.inr ⟨rfl, rfl, by omega⟩)))
  | succ m ih =>
    intro j N hj hN
    obtain ⟨N, rfl⟩ : ∃ N', N = N' + 1 := ⟨N - 1, by omega⟩
    obtain ⟨k, hk, e⟩ := hl j (by omega)
    rw [ze_X12_pair_50, s_whoIs d n (nI j) S (by omega) h12, z_rI_s, ew, e, if_neg (nI_pos (by omega))]
    dsimp only
    rw [nI_1]
    exact ih (j + 1) N (by omega) (by omega)
theorem c_pair (S : z_Mem) (hR : z_RL S) (v1 v2 v3 : Int32) : z_both 76 134 [.inl v1, .inl v2, .inl v3] S := by
  obtain ⟨hts, hN, ⟨n, hr, h, c0, ht, wd, H, K, W, C, hA, hB⟩, hI, hT, hP, hAc⟩ := id hR
  obtain ⟨⟨hn, hhr, hwd, hH, hts6⟩, hh6⟩ := hA.1
  have hC := fun b hb => (hA.2.2 b hb).1.2.2
  have c7 : S.1 7 0 1 = nI n := hA.2.1.1.1
  have c12 : S.1 12 0 0 = nI n := hA.2.1.2.1
  by_cases h1 : 0 ≤ v1 ∧ v1 ≤ 6
  · by_cases h2 : 0 ≤ v2 ∧ v2 ≤ 9
    · by_cases h3 : 0 ≤ v3 ∧ v3 ≤ 99
      · by_cases h6 : n = 6
        · refine z_no (v := .inl (-4)) hR ?_ ?_
          · have e : z_exe z_mt true 40 76 [.inr (.inr (11, 0)), .inl v1, .inl v2, .inl v3] S = _ := (zx_X11_pair 39 S 0 v1 v2 v3).trans (ze_X11_pair_0 _ _ _ _ _ _ _)
            rw [e, s_outside, z_rI_s, z_b1_F (fun z => z h1), if_pos rfl, s_outside, z_rI_s, z_b1_F (fun z => z h2), if_pos rfl, s_outside, z_rI_s, z_b1_F (fun z => z h3), if_pos rfl, c7, h6, if_neg (by decide)]
          · have e : z_exe z_mt true 40 134 [.inr (.inr (12, 0)), .inl v1, .inl v2, .inl v3] S = _ := (zx_X12_pair 39 S 0 v1 v2 v3).trans (ze_X12_pair_0 _ _ _ _ _ _ _)
            rw [e, s_in, z_rI_s, z_b1_T h1, if_neg z_01n, s_in, z_rI_s, z_b1_T h2, if_neg z_01n, s_isWet, z_rI_s, z_b1_T h3, if_neg z_01n, c12, h6, if_pos (by decide)]
        · have hn5 : n ≤ 5 := by omega
          obtain ⟨p, hp, h5, hl⟩ := z_free (K := K) hn5
          obtain ⟨kd, hkd, rfl⟩ := z_rg (n := 6) (by omega) h1
          obtain ⟨w, hw, rfl⟩ := z_rg (n := 99) (by omega) h3
          have hplm : ∀ k, k < n → S.1 40 0 k = (K k).2.2.2.1 := fun k hk => by rw [← (hA.2.2 k hk).2.2.1]; rfl
          obtain ⟨S1, e1, ⟨b1, b2, b3, b4, b5, b6⟩, b7, f1⟩ := s_become 37 n (nI kd) v2 (nI w) (nI p) S
          have efp : z_exe z_mt true 39 53 [.inr (.inr (7, 0))] S = some (some (.inl (nI p)), S) := by
            have e : z_exe z_mt true 39 53 [.inr (.inr (7, 0))] S = _ := (zx_X7_freePlace 38 S 0).trans (ze_X7_freePlace_0 _ _ _ _)
            exact e.trans (l_freePlace 37 p hA hp h5 hl p 0 999999 (by omega) (by omega))
          have f2 : z_fx (fun t i k => t = 7 ∧ i = 0 ∧ k = 1) S1 (z_sI S1 7 0 1 (nI (n + 1))) := z_fx.sI ⟨rfl, rfl, rfl⟩
          have f12 : z_fx (fun t i k => (t = 2 ∧ i = n ∧ 1 ≤ k) ∨ (t = 21 ∧ i = n) ∨ (t = 7 ∧ i = 0 ∧ k = 1)) S (z_sI S1 7 0 1 (nI (n + 1))) := (f1.wk (fun t i k q => by omega)).tr (f2.wk (fun t i k q => by omega))
          obtain ⟨S2, hS2⟩ : ∃ S2, S2 = z_sI S1 7 0 1 (nI (n + 1)) := ⟨_, rfl⟩
          rw [← hS2] at f2 f12
          obtain ⟨S3, e3, ⟨m1, m2, m3, m4, m5, m6, m7, m8⟩, f3⟩ := l_pair50 38 n p (nI kd) v2 (nI w) K S2 hn5 hp (by rw [f12.i (by omega)]; exact c12) (fun k hk => by rw [f12.i (by omega)]; exact hplm k hk) h5 hl p 0 999999 (by omega) (by omega)
          have g7 : S2.1 7 0 1 = nI (n + 1) := by rw [hS2, z_sI1, if_pos ⟨rfl, rfl, rfl⟩]
          refine ⟨.inl (nI n), S2, S3, ?_, ?_, ?_⟩
          · have e : z_exe z_mt true 40 76 [.inr (.inr (11, 0)), .inl (nI kd), .inl v2, .inl (nI w)] S = _ := (zx_X11_pair 39 S 0 (nI kd) v2 (nI w)).trans (ze_X11_pair_0 _ _ _ _ _ _ _)
            have hlt : nI n < 6 := by rw [show (6 : Int32) = nI 6 from rfl, nI_ltI (by omega) (by omega)]; omega
            rw [e, s_outside, z_rI_s, z_b1_F (fun z => z h1), if_pos rfl, s_outside, z_rI_s, z_b1_F (fun z => z h2), if_pos rfl, s_outside, z_rI_s, z_b1_F (fun z => z h3), if_pos rfl, c7, if_pos hlt, z_oob_n (k := n) (by omega) (by omega), z_cond_f, efp, z_rI_s, z_cl (k := n) (by omega), z_60, e1, z_rV_s]
            dsimp only
            rw [f1.i (t := 7) (i := 0) (k := 1) (by omega), c7, nI_1, ← hS2, g7, nI_pred]
          · have e : z_exe z_mt true 40 134 [.inr (.inr (12, 0)), .inl (nI kd), .inl v2, .inl (nI w)] S2 = _ := (zx_X12_pair 39 S2 0 (nI kd) v2 (nI w)).trans (ze_X12_pair_0 _ _ _ _ _ _ _)
            have hne : ¬ S2.1 12 0 0 = 6 := by
              rw [f12.i (by omega), c12, show (6 : Int32) = nI 6 from rfl, nI_eq (by omega) (by omega)]
              omega
            rw [e, s_in, z_rI_s, z_b1_T h1, if_neg z_01n, s_in, z_rI_s, z_b1_T h2, if_neg z_01n, s_isWet, z_rI_s, z_b1_T h3, if_neg z_01n, if_neg hne]
            exact e3
          · have f123 : z_fx (fun t i k => ((t = 2 ∧ i = n ∧ 1 ≤ k) ∨ (t = 21 ∧ i = n) ∨ (t = 7 ∧ i = 0 ∧ k = 1)) ∨ ((i = 0 ∧ 37 ≤ t ∧ t ≤ 41 ∧ k = n) ∨ (t = 42 ∧ i = 0 ∧ 4 * n ≤ k ∧ k < 4 * n + 4) ∨ (t = 12 ∧ i = 0 ∧ k ≤ 1))) S S3 := (f12.wk (fun _ _ _ q => Or.inl q)).tr (f3.wk (fun _ _ _ q => Or.inr q))
            have E : ∀ t i k, ¬ (((t = 2 ∧ i = n ∧ 1 ≤ k) ∨ (t = 21 ∧ i = n) ∨ (t = 7 ∧ i = 0 ∧ k = 1)) ∨ ((i = 0 ∧ 37 ≤ t ∧ t ≤ 41 ∧ k = n) ∨ (t = 42 ∧ i = 0 ∧ 4 * n ≤ k ∧ k < 4 * n + 4) ∨ (t = 12 ∧ i = 0 ∧ k ≤ 1))) → S3.1 t i k = S.1 t i k := fun t i k q => f123.i q
            obtain ⟨⟨a1, a2, a3, a4, a5, a6⟩, ⟨y1, y2, y3, y4, y5⟩⟩ := hA.2.1
            refine z_RL.room hN hB hI hT hP hAc f123 (fun t i k q => ?_) (hts := hts) (n' := n + 1) (hr := hr) (h := h) (c0 := c0) (ht := ht) (wd := wd) (H := H) (K := fun b => if b = n then (nI n, (nI kd, (v2, (nI p, (false, fun _ => 0))))) else K b) (W := fun b => if b = n then nI w else W b) (C := fun b => if b = n then 0 else C b) ⟨⟨⟨by omega, hhr, hwd, hH, hts6⟩, hh6⟩, ⟨⟨?_, ?_, ?_, ?_, ?_, ?_, ?_⟩, ⟨m6, ?_, ?_, ?_, ?_⟩⟩, fun b hb => ?_⟩ (by omega)
            · rcases q with (⟨z1, z2, -⟩ | ⟨z1, z2⟩ | ⟨z1, z2, -⟩) | (⟨z1, z2, z3, -⟩ | ⟨z1, z2, -⟩ | ⟨z1, z2, z3⟩)
              · exact Or.inr (Or.inr (Or.inr (Or.inl ⟨Or.inl z1, by omega⟩)))
              · exact Or.inr (Or.inr (Or.inr (Or.inl ⟨Or.inr z1, by omega⟩)))
              · exact Or.inr (Or.inl ⟨z1, z2⟩)
              · exact Or.inr (Or.inr (Or.inr (Or.inr (Or.inr ⟨z1, z2, by omega⟩))))
              · exact Or.inr (Or.inr (Or.inr (Or.inr (Or.inr ⟨z2, by omega, by omega⟩))))
              · exact Or.inr (Or.inr (Or.inr (Or.inr (Or.inl ⟨z1, z2, by omega⟩))))
            · rw [f3.i (by omega)]; exact g7
            · rw [E 9 0 0 (by omega)]; exact a2
            · rw [E 9 0 1 (by omega)]; exact a3
            · rw [E 9 0 2 (by omega)]; exact a4
            · rw [f123.r (by omega)]; exact a5
            · exact a6.1.cg (fun k => E 4 h k (by omega)) (fun k => E 22 h k (by omega)) (fun k => E 23 h k (by omega))
            · intro b hb; rw [E 2 b 0 (by omega)]; exact a6.2 b hb
            · rw [E 12 0 2 (by omega)]; exact y2
            · rw [E 12 0 3 (by omega)]; exact y3
            · rw [E 12 0 4 (by omega)]; exact y4
            · exact y5.cg (E 12 0 12 (by omega)) (fun k _ => E 44 0 k (by omega)) (fun t k z1 z2 _ => E t 0 k (by omega)) (fun k _ => E 49 0 k (by omega))
            · by_cases q : b = n
              · rw [q]
                simp only [if_true]
                have r21 : (fun k => if k < 4 then S3.1 21 n k else 0) = (fun _ : Nat => (0 : Int32)) := by
                  funext k
                  by_cases z : k < 4
                  · rw [if_pos z, f3.i (by omega), f2.i (by omega)]; exact b7 k z
                  · rw [if_neg z]
                have r42 : (fun k => if k < 4 then S3.1 42 0 (4 * n + k) else 0) = (fun _ : Nat => (0 : Int32)) := by
                  funext k
                  by_cases z : k < 4
                  · rw [if_pos z]; exact m8 k z
                  · rw [if_neg z]
                have r2 : ∀ k, S3.1 2 n k = S1.1 2 n k := fun k => (f3.i (by omega)).trans (f2.i (by omega))
                have r0 : S3.1 2 n 0 = nI n := (E 2 n 0 (by omega)).trans (a6.2 n (by omega))
                have rg : decide ((S3.1 12 0 1 >>> (nI n &&& 31)) &&& 1 = 1) = false := by
                  rw [Bool.eq_iff_iff.mpr (decide_eq_true_iff.trans (z_has_iff (S3.1 12 0 1) (k := n) (by omega))), m7, z_bt_not _ (by omega) (by omega), decide_eq_true rfl]
                  simp
                refine ⟨⟨⟨rfl, ⟨kd, hkd, rfl⟩, ⟨p, hp, rfl⟩⟩, ⟨w, hw, rfl⟩, ⟨0, Nat.zero_le _, rfl⟩⟩, ⟨?_, ?_, ?_, ?_⟩, ?_, m3, m5⟩
                · unfold z_kc
                  rw [r0, r2 1, r2 2, r2 4, r2 5, b1, b2, b4, b5, r21]
                  rfl
                · rw [r2, b5]; rfl
                · rw [r2]; exact b3
                · rw [r2]; exact b6
                · unfold z_km
                  rw [m1, m2, m4, rg, r42]
              · simp only [if_neg q]
                obtain ⟨o1, ⟨p1, p2, p3, p4⟩, q1, q2, q3⟩ := hA.2.2 b (by omega)
                have e2 : ∀ k, S3.1 2 b k = S.1 2 b k := fun k => E 2 b k (by omega)
                refine ⟨o1, ⟨(z_kc_cg (fun k _ _ => e2 k) (fun k => E 21 b k (by omega))).trans p1, by rw [e2]; exact p2, by rw [e2]; exact p3, by rw [e2]; exact p4⟩, ?_, (E 39 0 b (by omega)).trans q2, (E 41 0 b (by omega)).trans q3⟩
                have hgm : decide ((S3.1 12 0 1 >>> (nI b &&& 31)) &&& 1 = 1) = decide ((S.1 12 0 1 >>> (nI b &&& 31)) &&& 1 = 1) := by
                  rw [Bool.eq_iff_iff.mpr (decide_eq_true_iff.trans (z_has_iff (S3.1 12 0 1) (k := b) (by omega))), Bool.eq_iff_iff.mpr (decide_eq_true_iff.trans (z_has_iff (S.1 12 0 1) (k := b) (by omega))), m7, z_bt_not _ (by omega) (by omega), decide_eq_false q, f12.i (by omega)]
                  simp
                rw [← q1]
                unfold z_km
                rw [hgm, E 37 0 b (by omega), E 38 0 b (by omega), E 40 0 b (by omega)]
                have : (fun k => if k < 4 then S3.1 42 0 (4 * b + k) else 0) = (fun k => if k < 4 then S.1 42 0 (4 * b + k) else 0) := by
                  funext k
                  by_cases z : k < 4
                  · rw [if_pos z, if_pos z, E 42 0 (4 * b + k) (by omega)]
                  · rw [if_neg z, if_neg z]
                rw [this]
      · refine z_no (v := .inl (-2)) hR ?_ ?_
        · have e : z_exe z_mt true 40 76 [.inr (.inr (11, 0)), .inl v1, .inl v2, .inl v3] S = _ := (zx_X11_pair 39 S 0 v1 v2 v3).trans (ze_X11_pair_0 _ _ _ _ _ _ _)
          rw [e, s_outside, z_rI_s, z_b1_F (fun z => z h1), if_pos rfl, s_outside, z_rI_s, z_b1_F (fun z => z h2), if_pos rfl, s_outside, z_rI_s, z_b1_T h3, if_neg z_01n]
        · have e : z_exe z_mt true 40 134 [.inr (.inr (12, 0)), .inl v1, .inl v2, .inl v3] S = _ := (zx_X12_pair 39 S 0 v1 v2 v3).trans (ze_X12_pair_0 _ _ _ _ _ _ _)
          rw [e, s_in, z_rI_s, z_b1_T h1, if_neg z_01n, s_in, z_rI_s, z_b1_T h2, if_neg z_01n, s_isWet, z_rI_s, z_b1_F h3, if_pos rfl]
    · refine z_no (v := .inl (-2)) hR ?_ ?_
      · have e : z_exe z_mt true 40 76 [.inr (.inr (11, 0)), .inl v1, .inl v2, .inl v3] S = _ := (zx_X11_pair 39 S 0 v1 v2 v3).trans (ze_X11_pair_0 _ _ _ _ _ _ _)
        rw [e, s_outside, z_rI_s, z_b1_F (fun z => z h1), if_pos rfl, s_outside, z_rI_s, z_b1_T h2, if_neg z_01n]
      · have e : z_exe z_mt true 40 134 [.inr (.inr (12, 0)), .inl v1, .inl v2, .inl v3] S = _ := (zx_X12_pair 39 S 0 v1 v2 v3).trans (ze_X12_pair_0 _ _ _ _ _ _ _)
        rw [e, s_in, z_rI_s, z_b1_T h1, if_neg z_01n, s_in, z_rI_s, z_b1_F h2, if_pos rfl]
  · refine z_no (v := .inl (-1)) hR ?_ ?_
    · have e : z_exe z_mt true 40 76 [.inr (.inr (11, 0)), .inl v1, .inl v2, .inl v3] S = _ := (zx_X11_pair 39 S 0 v1 v2 v3).trans (ze_X11_pair_0 _ _ _ _ _ _ _)
      rw [e, s_outside, z_rI_s, z_b1_T h1, if_neg z_01n]
    · have e : z_exe z_mt true 40 134 [.inr (.inr (12, 0)), .inl v1, .inl v2, .inl v3] S = _ := (zx_X12_pair 39 S 0 v1 v2 v3).trans (ze_X12_pair_0 _ _ _ _ _ _ _)
      rw [e, s_in, z_rI_s, z_b1_F h1, if_pos rfl]
