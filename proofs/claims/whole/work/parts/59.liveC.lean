/-! ===== image, undo: rows are copied ===== -/
def z_cpr (q r c : Nat) (S S' : z_Mem) : Prop := S'.1 8 q 3 = nI c ∧ (∀ t i, 31 ≤ t → t ≤ 33 → i < c → S'.1 t q i = S.1 t r i) ∧ z_fx (fun t i k => (t = 8 ∧ i = q ∧ k = 3) ∨ (31 ≤ t ∧ t ≤ 33 ∧ i = q)) S S'
theorem s_copyRows (d q r c cap : Nat) (S : z_Mem) (hqr : q ≠ r) (hq : z_rl q = cap) (hr : z_rl r = cap) (h100 : cap ≤ 100) (hc : S.1 8 r 3 = nI c) (hle : c ≤ cap) :
    ∃ S', z_exe z_mt true (d + 1) 64 [.inr (.inr (8, q)), .inr (.inr (8, r))] S = some (none, S') ∧ z_cpr q r c S S' := by
  have e : z_exe z_mt true (d + 1) 64 [.inr (.inr (8, q)), .inr (.inr (8, r))] S = _ := (zx_X8_copyFrom d S q r).trans (ze_X8_copyFrom_0 _ _ _ _ _)
  have hrng : z_rng (0 : Int32) (nI c) cap = true := by
    unfold z_rng
    rw [decide_eq_false (by decide), decide_eq_false (nI_pos (by omega)), show Int32.toNatClampNeg (0 : Int32) = 0 by decide, nI_clamp (by omega)]
    exact Nat.ble_eq_true_of_le (by omega)
  have g0 : (z_sI S 8 q 3 (nI c)).1 8 q 3 = nI c := by simp [z_sI1]
  have ga : ∀ (S : z_Mem) (t i sp t2 i2 dp n : Nat), t2 ≠ 8 → (z_acI S t i sp t2 i2 dp n).1 8 q 3 = S.1 8 q 3 := fun S t i sp t2 i2 dp n h => by
    rw [z_acI1, if_neg (fun z => h z.1.symm)]
  rw [hc] at e
  dsimp only at e
  rw [g0, hq, hr, hrng] at e
  simp only [Bool.and_self, cond] at e
  rw [ga _ _ _ _ 31 _ _ _ (by decide), g0, hrng] at e
  simp only [Bool.and_self, cond] at e
  rw [ga _ _ _ _ 32 _ _ _ (by decide), ga _ _ _ _ 31 _ _ _ (by decide), g0, hrng] at e
  simp only [Bool.and_self, cond] at e
  rw [show Int32.toNatClampNeg (0 : Int32) = 0 by decide, nI_clamp (by omega)] at e
  refine ⟨_, e, ?_, fun t i h1 h2 hi => ?_, ?_⟩
  · rw [ga _ _ _ _ 33 _ _ _ (by decide), ga _ _ _ _ 32 _ _ _ (by decide), ga _ _ _ _ 31 _ _ _ (by decide), g0]
  · have ht : t = 31 ∨ t = 32 ∨ t = 33 := by omega
    have hr2 : ¬ r = q := fun z => hqr z.symm
    rcases ht with rfl | rfl | rfl <;> simp [z_acI1, z_sI1, va_cpy, hi, hr2]
  · exact (((z_fx.sI (Or.inl ⟨rfl, rfl, rfl⟩)).tr (z_fx.acI (fun k _ _ => Or.inr ⟨by omega, by omega, rfl⟩))).tr (z_fx.acI (fun k _ _ => Or.inr ⟨by omega, by omega, rfl⟩))).tr (z_fx.acI (fun k _ _ => Or.inr ⟨by omega, by omega, rfl⟩))
theorem l_image79 (ex : z_Ex) (S0 : z_Mem) : ∀ (m k N : Nat) (S : z_Mem), k + m = 6 → m < N → (∀ j, j < k → S.1 67 0 j = S0.1 37 0 j ∧ S.1 68 0 j = S0.1 38 0 j ∧ S.1 69 0 j = S0.1 39 0 j ∧ S.1 70 0 j = S0.1 40 0 j ∧ S.1 71 0 j = S0.1 41 0 j) → z_fx (fun t i _ => i = 0 ∧ 67 ≤ t ∧ t ≤ 71) S0 S →
    ∃ S' N', N' + m + 1 = N ∧ zr_X12_image ex N 79 [some (.inr (.inr (12, 0))), some (.inl (nI k))] [] S = zr_X12_image ex N' 153 [some (.inr (.inr (12, 0))), some (.inl (0 : Int32))] [] S' ∧ (∀ j, j < 6 → S'.1 67 0 j = S0.1 37 0 j ∧ S'.1 68 0 j = S0.1 38 0 j ∧ S'.1 69 0 j = S0.1 39 0 j ∧ S'.1 70 0 j = S0.1 40 0 j ∧ S'.1 71 0 j = S0.1 41 0 j) ∧ z_fx (fun t i _ => i = 0 ∧ 67 ≤ t ∧ t ≤ 71) S0 S' := by
  intro m
  induction m with
  | zero =>
    intro k N S hk hN h0 hf
    obtain ⟨N, rfl⟩ : ∃ N', N = N' + 1 := ⟨N - 1, by omega⟩
    rw [ze_X12_image_79, if_pos (by rw [show (6 : Int32) = nI 6 from rfl, z_le (by omega) (by omega)]; omega)]
    exact ⟨S, N, by omega, rfl, fun j hj => h0 j (by omega), hf⟩
  | succ m ih =>
    intro k N S hk hN h0 hf
    obtain ⟨N, rfl⟩ : ∃ N', N = N' + 1 := ⟨N - 1, by omega⟩
    rw [ze_X12_image_79, if_neg (by rw [show (6 : Int32) = nI 6 from rfl, z_le (by omega) (by omega)]; omega), z_oob_n (k := k) (by omega) (by omega)]
    simp only [z_cond_f]
    rw [z_cl (k := k) (by omega), nI_1]
    have hrd : ∀ (S : z_Mem) (t t' : Nat) (x : Int32), t' ≠ t → (z_sI S t 0 k x).1 t' 0 k = S.1 t' 0 k := fun S t t' x h => by rw [z_sI1, if_neg (fun z => h z.1)]
    simp only [hrd _ 67 38 _ (by decide), hrd _ 67 39 _ (by decide), hrd _ 68 39 _ (by decide), hrd _ 67 40 _ (by decide), hrd _ 68 40 _ (by decide), hrd _ 69 40 _ (by decide), hrd _ 67 41 _ (by decide), hrd _ 68 41 _ (by decide), hrd _ 69 41 _ (by decide), hrd _ 70 41 _ (by decide)]
    have hnew : ∀ j, j < k + 1 → (z_sI (z_sI (z_sI (z_sI (z_sI S 67 0 k (S.1 37 0 k)) 68 0 k (S.1 38 0 k)) 69 0 k (S.1 39 0 k)) 70 0 k (S.1 40 0 k)) 71 0 k (S.1 41 0 k)).1 67 0 j = S0.1 37 0 j ∧ (z_sI (z_sI (z_sI (z_sI (z_sI S 67 0 k (S.1 37 0 k)) 68 0 k (S.1 38 0 k)) 69 0 k (S.1 39 0 k)) 70 0 k (S.1 40 0 k)) 71 0 k (S.1 41 0 k)).1 68 0 j = S0.1 38 0 j ∧ (z_sI (z_sI (z_sI (z_sI (z_sI S 67 0 k (S.1 37 0 k)) 68 0 k (S.1 38 0 k)) 69 0 k (S.1 39 0 k)) 70 0 k (S.1 40 0 k)) 71 0 k (S.1 41 0 k)).1 69 0 j = S0.1 39 0 j ∧ (z_sI (z_sI (z_sI (z_sI (z_sI S 67 0 k (S.1 37 0 k)) 68 0 k (S.1 38 0 k)) 69 0 k (S.1 39 0 k)) 70 0 k (S.1 40 0 k)) 71 0 k (S.1 41 0 k)).1 70 0 j = S0.1 40 0 j ∧ (z_sI (z_sI (z_sI (z_sI (z_sI S 67 0 k (S.1 37 0 k)) 68 0 k (S.1 38 0 k)) 69 0 k (S.1 39 0 k)) 70 0 k (S.1 40 0 k)) 71 0 k (S.1 41 0 k)).1 71 0 j = S0.1 41 0 j := by
      intro j hj
      by_cases q : j = k
      · subst q
        have g37 : S.1 37 0 j = S0.1 37 0 j := hf.i (by omega)
        have g38 : S.1 38 0 j = S0.1 38 0 j := hf.i (by omega)
        have g39 : S.1 39 0 j = S0.1 39 0 j := hf.i (by omega)
        have g40 : S.1 40 0 j = S0.1 40 0 j := hf.i (by omega)
        have g41 : S.1 41 0 j = S0.1 41 0 j := hf.i (by omega)
        simp [z_sI1, g37, g38, g39, g40, g41]
      · have := h0 j (by omega)
        simp [z_sI1, q, this]
    obtain ⟨S', N', e1, e2, e3, e4⟩ := ih (k + 1) N (z_sI (z_sI (z_sI (z_sI (z_sI S 67 0 k (S.1 37 0 k)) 68 0 k (S.1 38 0 k)) 69 0 k (S.1 39 0 k)) 70 0 k (S.1 40 0 k)) 71 0 k (S.1 41 0 k)) (by omega) (by omega) hnew (((((hf.tr (z_fx.sI ⟨rfl, by omega, by omega⟩)).tr (z_fx.sI ⟨rfl, by omega, by omega⟩)).tr (z_fx.sI ⟨rfl, by omega, by omega⟩)).tr (z_fx.sI ⟨rfl, by omega, by omega⟩)).tr (z_fx.sI ⟨rfl, by omega, by omega⟩))
    exact ⟨S', N', by omega, e2, e3, e4⟩
theorem l_image153 (ex : z_Ex) (S0 : z_Mem) : ∀ (m k N : Nat) (S : z_Mem), k + m = 24 → m < N → (∀ j, j < k → S.1 72 0 j = S0.1 42 0 j) → z_fx (fun t i _ => i = 0 ∧ 72 ≤ t ∧ t ≤ 72) S0 S →
    ∃ S' N', N' + m + 1 = N ∧ zr_X12_image ex N 153 [some (.inr (.inr (12, 0))), some (.inl (nI k))] [] S = zr_X12_image ex N' 179 [some (.inr (.inr (12, 0))), some (.inl (0 : Int32))] [] S' ∧ (∀ j, j < 24 → S'.1 72 0 j = S0.1 42 0 j) ∧ z_fx (fun t i _ => i = 0 ∧ 72 ≤ t ∧ t ≤ 72) S0 S' := by
  intro m
  induction m with
  | zero =>
    intro k N S hk hN h0 hf
    obtain ⟨N, rfl⟩ : ∃ N', N = N' + 1 := ⟨N - 1, by omega⟩
    rw [ze_X12_image_153, if_pos (by rw [show (24 : Int32) = nI 24 from rfl, z_le (by omega) (by omega)]; omega)]
    exact ⟨S, N, by omega, rfl, fun j hj => h0 j (by omega), hf⟩
  | succ m ih =>
    intro k N S hk hN h0 hf
    obtain ⟨N, rfl⟩ : ∃ N', N = N' + 1 := ⟨N - 1, by omega⟩
    rw [ze_X12_image_153, if_neg (by rw [show (24 : Int32) = nI 24 from rfl, z_le (by omega) (by omega)]; omega), z_oob_n (k := k) (by omega) (by omega)]
    simp only [z_cond_f]
    rw [z_cl (k := k) (by omega), nI_1]
    have hrd : ∀ (S : z_Mem) (t t' : Nat) (x : Int32), t' ≠ t → (z_sI S t 0 k x).1 t' 0 k = S.1 t' 0 k := fun S t t' x h => by rw [z_sI1, if_neg (fun z => h z.1)]
    have hnew : ∀ j, j < k + 1 → (z_sI S 72 0 k (S.1 42 0 k)).1 72 0 j = S0.1 42 0 j := by
      intro j hj
      by_cases q : j = k
      · subst q
        have g42 : S.1 42 0 j = S0.1 42 0 j := hf.i (by omega)
        simp [z_sI1, g42]
      · have := h0 j (by omega)
        simp [z_sI1, q, this]
    obtain ⟨S', N', e1, e2, e3, e4⟩ := ih (k + 1) N (z_sI S 72 0 k (S.1 42 0 k)) (by omega) (by omega) hnew (hf.tr (z_fx.sI ⟨rfl, by omega, by omega⟩))
    exact ⟨S', N', by omega, e2, e3, e4⟩
theorem l_image179 (ex : z_Ex) (S0 : z_Mem) : ∀ (m k N : Nat) (S : z_Mem), k + m = 5 → m < N → (∀ j, j < k → S.1 73 0 j = S0.1 59 0 j ∧ S.1 74 0 j = S0.1 60 0 j ∧ S.1 75 0 j = S0.1 61 0 j) → z_fx (fun t i _ => i = 0 ∧ 73 ≤ t ∧ t ≤ 75) S0 S →
    ∃ S' N', N' + m + 1 = N ∧ zr_X12_image ex N 179 [some (.inr (.inr (12, 0))), some (.inl (nI k))] [] S = zr_X12_image ex N' 228 [some (.inr (.inr (12, 0))), some (.inl (0 : Int32))] [] S' ∧ (∀ j, j < 5 → S'.1 73 0 j = S0.1 59 0 j ∧ S'.1 74 0 j = S0.1 60 0 j ∧ S'.1 75 0 j = S0.1 61 0 j) ∧ z_fx (fun t i _ => i = 0 ∧ 73 ≤ t ∧ t ≤ 75) S0 S' := by
  intro m
  induction m with
  | zero =>
    intro k N S hk hN h0 hf
    obtain ⟨N, rfl⟩ : ∃ N', N = N' + 1 := ⟨N - 1, by omega⟩
    rw [ze_X12_image_179, if_pos (by rw [show (5 : Int32) = nI 5 from rfl, z_le (by omega) (by omega)]; omega)]
    exact ⟨S, N, by omega, rfl, fun j hj => h0 j (by omega), hf⟩
  | succ m ih =>
    intro k N S hk hN h0 hf
    obtain ⟨N, rfl⟩ : ∃ N', N = N' + 1 := ⟨N - 1, by omega⟩
    rw [ze_X12_image_179, if_neg (by rw [show (5 : Int32) = nI 5 from rfl, z_le (by omega) (by omega)]; omega), z_oob_n (k := k) (by omega) (by omega)]
    simp only [z_cond_f]
    rw [z_cl (k := k) (by omega), nI_1]
    have hrd : ∀ (S : z_Mem) (t t' : Nat) (x : Int32), t' ≠ t → (z_sI S t 0 k x).1 t' 0 k = S.1 t' 0 k := fun S t t' x h => by rw [z_sI1, if_neg (fun z => h z.1)]
    simp only [hrd _ 73 60 _ (by decide), hrd _ 73 61 _ (by decide), hrd _ 74 61 _ (by decide)]
    have hnew : ∀ j, j < k + 1 → (z_sI (z_sI (z_sI S 73 0 k (S.1 59 0 k)) 74 0 k (S.1 60 0 k)) 75 0 k (S.1 61 0 k)).1 73 0 j = S0.1 59 0 j ∧ (z_sI (z_sI (z_sI S 73 0 k (S.1 59 0 k)) 74 0 k (S.1 60 0 k)) 75 0 k (S.1 61 0 k)).1 74 0 j = S0.1 60 0 j ∧ (z_sI (z_sI (z_sI S 73 0 k (S.1 59 0 k)) 74 0 k (S.1 60 0 k)) 75 0 k (S.1 61 0 k)).1 75 0 j = S0.1 61 0 j := by
      intro j hj
      by_cases q : j = k
      · subst q
        have g59 : S.1 59 0 j = S0.1 59 0 j := hf.i (by omega)
        have g60 : S.1 60 0 j = S0.1 60 0 j := hf.i (by omega)
        have g61 : S.1 61 0 j = S0.1 61 0 j := hf.i (by omega)
        simp [z_sI1, g59, g60, g61]
      · have := h0 j (by omega)
        simp [z_sI1, q, this]
    obtain ⟨S', N', e1, e2, e3, e4⟩ := ih (k + 1) N (z_sI (z_sI (z_sI S 73 0 k (S.1 59 0 k)) 74 0 k (S.1 60 0 k)) 75 0 k (S.1 61 0 k)) (by omega) (by omega) hnew (((hf.tr (z_fx.sI ⟨rfl, by omega, by omega⟩)).tr (z_fx.sI ⟨rfl, by omega, by omega⟩)).tr (z_fx.sI ⟨rfl, by omega, by omega⟩))
    exact ⟨S', N', by omega, e2, e3, e4⟩
theorem l_image228 (ex : z_Ex) (S0 : z_Mem) : ∀ (m k N : Nat) (S : z_Mem), k + m = 10 → m < N → (∀ j, j < k → S.1 76 0 j = S0.1 63 0 j ∧ S.1 77 0 j = S0.1 64 0 j) → z_fx (fun t i _ => i = 0 ∧ 76 ≤ t ∧ t ≤ 77) S0 S →
    ∃ S' N', N' + m + 1 = N ∧ zr_X12_image ex N 228 [some (.inr (.inr (12, 0))), some (.inl (nI k))] [] S = zr_X12_image ex N' 266 [some (.inr (.inr (12, 0))), some (.inl (0 : Int32))] [] S' ∧ (∀ j, j < 10 → S'.1 76 0 j = S0.1 63 0 j ∧ S'.1 77 0 j = S0.1 64 0 j) ∧ z_fx (fun t i _ => i = 0 ∧ 76 ≤ t ∧ t ≤ 77) S0 S' := by
  intro m
  induction m with
  | zero =>
    intro k N S hk hN h0 hf
    obtain ⟨N, rfl⟩ : ∃ N', N = N' + 1 := ⟨N - 1, by omega⟩
    rw [ze_X12_image_228, if_pos (by rw [show (10 : Int32) = nI 10 from rfl, z_le (by omega) (by omega)]; omega)]
    exact ⟨S, N, by omega, rfl, fun j hj => h0 j (by omega), hf⟩
  | succ m ih =>
    intro k N S hk hN h0 hf
    obtain ⟨N, rfl⟩ : ∃ N', N = N' + 1 := ⟨N - 1, by omega⟩
    rw [ze_X12_image_228, if_neg (by rw [show (10 : Int32) = nI 10 from rfl, z_le (by omega) (by omega)]; omega), z_oob_n (k := k) (by omega) (by omega)]
    simp only [z_cond_f]
    rw [z_cl (k := k) (by omega), nI_1]
    have hrd : ∀ (S : z_Mem) (t t' : Nat) (x : Int32), t' ≠ t → (z_sI S t 0 k x).1 t' 0 k = S.1 t' 0 k := fun S t t' x h => by rw [z_sI1, if_neg (fun z => h z.1)]
    simp only [hrd _ 76 64 _ (by decide)]
    have hnew : ∀ j, j < k + 1 → (z_sI (z_sI S 76 0 k (S.1 63 0 k)) 77 0 k (S.1 64 0 k)).1 76 0 j = S0.1 63 0 j ∧ (z_sI (z_sI S 76 0 k (S.1 63 0 k)) 77 0 k (S.1 64 0 k)).1 77 0 j = S0.1 64 0 j := by
      intro j hj
      by_cases q : j = k
      · subst q
        have g63 : S.1 63 0 j = S0.1 63 0 j := hf.i (by omega)
        have g64 : S.1 64 0 j = S0.1 64 0 j := hf.i (by omega)
        simp [z_sI1, g63, g64]
      · have := h0 j (by omega)
        simp [z_sI1, q, this]
    obtain ⟨S', N', e1, e2, e3, e4⟩ := ih (k + 1) N (z_sI (z_sI S 76 0 k (S.1 63 0 k)) 77 0 k (S.1 64 0 k)) (by omega) (by omega) hnew ((hf.tr (z_fx.sI ⟨rfl, by omega, by omega⟩)).tr (z_fx.sI ⟨rfl, by omega, by omega⟩))
    exact ⟨S', N', by omega, e2, e3, e4⟩
theorem l_image266 (ex : z_Ex) (S0 : z_Mem) : ∀ (m k N : Nat) (S : z_Mem), k + m = 8 → m < N → (∀ j, j < k → S.1 78 0 j = S0.1 65 0 j ∧ S.1 79 0 j = S0.1 66 0 j) → z_fx (fun t i _ => i = 0 ∧ 78 ≤ t ∧ t ≤ 79) S0 S →
    ∃ S' N', N' + m + 1 = N ∧ zr_X12_image ex N 266 [some (.inr (.inr (12, 0))), some (.inl (nI k))] [] S = some (some (.inl (S'.1 12 0 0)), S') ∧ (∀ j, j < 8 → S'.1 78 0 j = S0.1 65 0 j ∧ S'.1 79 0 j = S0.1 66 0 j) ∧ z_fx (fun t i _ => i = 0 ∧ 78 ≤ t ∧ t ≤ 79) S0 S' := by
  intro m
  induction m with
  | zero =>
    intro k N S hk hN h0 hf
    obtain ⟨N, rfl⟩ : ∃ N', N = N' + 1 := ⟨N - 1, by omega⟩
    rw [ze_X12_image_266, if_pos (by rw [show (8 : Int32) = nI 8 from rfl, z_le (by omega) (by omega)]; omega)]
    exact ⟨S, N, by omega, rfl, fun j hj => h0 j (by omega), hf⟩
  | succ m ih =>
    intro k N S hk hN h0 hf
    obtain ⟨N, rfl⟩ : ∃ N', N = N' + 1 := ⟨N - 1, by omega⟩
    rw [ze_X12_image_266, if_neg (by rw [show (8 : Int32) = nI 8 from rfl, z_le (by omega) (by omega)]; omega), z_oob_n (k := k) (by omega) (by omega)]
    simp only [z_cond_f]
    rw [z_cl (k := k) (by omega), nI_1]
    have hrd : ∀ (S : z_Mem) (t t' : Nat) (x : Int32), t' ≠ t → (z_sI S t 0 k x).1 t' 0 k = S.1 t' 0 k := fun S t t' x h => by rw [z_sI1, if_neg (fun z => h z.1)]
    simp only [hrd _ 78 66 _ (by decide)]
    have hnew : ∀ j, j < k + 1 → (z_sI (z_sI S 78 0 k (S.1 65 0 k)) 79 0 k (S.1 66 0 k)).1 78 0 j = S0.1 65 0 j ∧ (z_sI (z_sI S 78 0 k (S.1 65 0 k)) 79 0 k (S.1 66 0 k)).1 79 0 j = S0.1 66 0 j := by
      intro j hj
      by_cases q : j = k
      · subst q
        have g65 : S.1 65 0 j = S0.1 65 0 j := hf.i (by omega)
        have g66 : S.1 66 0 j = S0.1 66 0 j := hf.i (by omega)
        simp [z_sI1, g65, g66]
      · have := h0 j (by omega)
        simp [z_sI1, q, this]
    obtain ⟨S', N', e1, e2, e3, e4⟩ := ih (k + 1) N (z_sI (z_sI S 78 0 k (S.1 65 0 k)) 79 0 k (S.1 66 0 k)) (by omega) (by omega) hnew ((hf.tr (z_fx.sI ⟨rfl, by omega, by omega⟩)).tr (z_fx.sI ⟨rfl, by omega, by omega⟩))
    exact ⟨S', N', by omega, e2, e3, e4⟩
theorem l_undo84 (ex : z_Ex) (S0 : z_Mem) : ∀ (m k N : Nat) (S : z_Mem), k + m = 6 → m < N → (∀ j, j < k → S.1 37 0 j = S0.1 67 0 j ∧ S.1 38 0 j = S0.1 68 0 j ∧ S.1 39 0 j = S0.1 69 0 j ∧ S.1 40 0 j = S0.1 70 0 j ∧ S.1 41 0 j = S0.1 71 0 j) → z_fx (fun t i _ => i = 0 ∧ 37 ≤ t ∧ t ≤ 41) S0 S →
    ∃ S' N', N' + m + 1 = N ∧ zr_X12_undo ex N 84 [some (.inr (.inr (12, 0))), some (.inl (nI k))] [] S = zr_X12_undo ex N' 158 [some (.inr (.inr (12, 0))), some (.inl (0 : Int32))] [] S' ∧ (∀ j, j < 6 → S'.1 37 0 j = S0.1 67 0 j ∧ S'.1 38 0 j = S0.1 68 0 j ∧ S'.1 39 0 j = S0.1 69 0 j ∧ S'.1 40 0 j = S0.1 70 0 j ∧ S'.1 41 0 j = S0.1 71 0 j) ∧ z_fx (fun t i _ => i = 0 ∧ 37 ≤ t ∧ t ≤ 41) S0 S' := by
  intro m
  induction m with
  | zero =>
    intro k N S hk hN h0 hf
    obtain ⟨N, rfl⟩ : ∃ N', N = N' + 1 := ⟨N - 1, by omega⟩
    rw [ze_X12_undo_84, if_pos (by rw [show (6 : Int32) = nI 6 from rfl, z_le (by omega) (by omega)]; omega)]
    exact ⟨S, N, by omega, rfl, fun j hj => h0 j (by omega), hf⟩
  | succ m ih =>
    intro k N S hk hN h0 hf
    obtain ⟨N, rfl⟩ : ∃ N', N = N' + 1 := ⟨N - 1, by omega⟩
    rw [ze_X12_undo_84, if_neg (by rw [show (6 : Int32) = nI 6 from rfl, z_le (by omega) (by omega)]; omega), z_oob_n (k := k) (by omega) (by omega)]
    simp only [z_cond_f]
    rw [z_cl (k := k) (by omega), nI_1]
    have hrd : ∀ (S : z_Mem) (t t' : Nat) (x : Int32), t' ≠ t → (z_sI S t 0 k x).1 t' 0 k = S.1 t' 0 k := fun S t t' x h => by rw [z_sI1, if_neg (fun z => h z.1)]
    simp only [hrd _ 37 68 _ (by decide), hrd _ 37 69 _ (by decide), hrd _ 38 69 _ (by decide), hrd _ 37 70 _ (by decide), hrd _ 38 70 _ (by decide), hrd _ 39 70 _ (by decide), hrd _ 37 71 _ (by decide), hrd _ 38 71 _ (by decide), hrd _ 39 71 _ (by decide), hrd _ 40 71 _ (by decide)]
    have hnew : ∀ j, j < k + 1 → (z_sI (z_sI (z_sI (z_sI (z_sI S 37 0 k (S.1 67 0 k)) 38 0 k (S.1 68 0 k)) 39 0 k (S.1 69 0 k)) 40 0 k (S.1 70 0 k)) 41 0 k (S.1 71 0 k)).1 37 0 j = S0.1 67 0 j ∧ (z_sI (z_sI (z_sI (z_sI (z_sI S 37 0 k (S.1 67 0 k)) 38 0 k (S.1 68 0 k)) 39 0 k (S.1 69 0 k)) 40 0 k (S.1 70 0 k)) 41 0 k (S.1 71 0 k)).1 38 0 j = S0.1 68 0 j ∧ (z_sI (z_sI (z_sI (z_sI (z_sI S 37 0 k (S.1 67 0 k)) 38 0 k (S.1 68 0 k)) 39 0 k (S.1 69 0 k)) 40 0 k (S.1 70 0 k)) 41 0 k (S.1 71 0 k)).1 39 0 j = S0.1 69 0 j ∧ (z_sI (z_sI (z_sI (z_sI (z_sI S 37 0 k (S.1 67 0 k)) 38 0 k (S.1 68 0 k)) 39 0 k (S.1 69 0 k)) 40 0 k (S.1 70 0 k)) 41 0 k (S.1 71 0 k)).1 40 0 j = S0.1 70 0 j ∧ (z_sI (z_sI (z_sI (z_sI (z_sI S 37 0 k (S.1 67 0 k)) 38 0 k (S.1 68 0 k)) 39 0 k (S.1 69 0 k)) 40 0 k (S.1 70 0 k)) 41 0 k (S.1 71 0 k)).1 41 0 j = S0.1 71 0 j := by
      intro j hj
      by_cases q : j = k
      · subst q
        have g67 : S.1 67 0 j = S0.1 67 0 j := hf.i (by omega)
        have g68 : S.1 68 0 j = S0.1 68 0 j := hf.i (by omega)
        have g69 : S.1 69 0 j = S0.1 69 0 j := hf.i (by omega)
        have g70 : S.1 70 0 j = S0.1 70 0 j := hf.i (by omega)
        have g71 : S.1 71 0 j = S0.1 71 0 j := hf.i (by omega)
        simp [z_sI1, g67, g68, g69, g70, g71]
      · have := h0 j (by omega)
        simp [z_sI1, q, this]
    obtain ⟨S', N', e1, e2, e3, e4⟩ := ih (k + 1) N (z_sI (z_sI (z_sI (z_sI (z_sI S 37 0 k (S.1 67 0 k)) 38 0 k (S.1 68 0 k)) 39 0 k (S.1 69 0 k)) 40 0 k (S.1 70 0 k)) 41 0 k (S.1 71 0 k)) (by omega) (by omega) hnew (((((hf.tr (z_fx.sI ⟨rfl, by omega, by omega⟩)).tr (z_fx.sI ⟨rfl, by omega, by omega⟩)).tr (z_fx.sI ⟨rfl, by omega, by omega⟩)).tr (z_fx.sI ⟨rfl, by omega, by omega⟩)).tr (z_fx.sI ⟨rfl, by omega, by omega⟩))
    exact ⟨S', N', by omega, e2, e3, e4⟩
theorem l_undo158 (ex : z_Ex) (S0 : z_Mem) : ∀ (m k N : Nat) (S : z_Mem), k + m = 24 → m < N → (∀ j, j < k → S.1 42 0 j = S0.1 72 0 j) → z_fx (fun t i _ => i = 0 ∧ 42 ≤ t ∧ t ≤ 42) S0 S →
    ∃ S' N', N' + m + 1 = N ∧ zr_X12_undo ex N 158 [some (.inr (.inr (12, 0))), some (.inl (nI k))] [] S = zr_X12_undo ex N' 184 [some (.inr (.inr (12, 0))), some (.inl (0 : Int32))] [] S' ∧ (∀ j, j < 24 → S'.1 42 0 j = S0.1 72 0 j) ∧ z_fx (fun t i _ => i = 0 ∧ 42 ≤ t ∧ t ≤ 42) S0 S' := by
  intro m
  induction m with
  | zero =>
    intro k N S hk hN h0 hf
    obtain ⟨N, rfl⟩ : ∃ N', N = N' + 1 := ⟨N - 1, by omega⟩
    rw [ze_X12_undo_158, if_pos (by rw [show (24 : Int32) = nI 24 from rfl, z_le (by omega) (by omega)]; omega)]
    exact ⟨S, N, by omega, rfl, fun j hj => h0 j (by omega), hf⟩
  | succ m ih =>
    intro k N S hk hN h0 hf
    obtain ⟨N, rfl⟩ : ∃ N', N = N' + 1 := ⟨N - 1, by omega⟩
    rw [ze_X12_undo_158, if_neg (by rw [show (24 : Int32) = nI 24 from rfl, z_le (by omega) (by omega)]; omega), z_oob_n (k := k) (by omega) (by omega)]
    simp only [z_cond_f]
    rw [z_cl (k := k) (by omega), nI_1]
    have hrd : ∀ (S : z_Mem) (t t' : Nat) (x : Int32), t' ≠ t → (z_sI S t 0 k x).1 t' 0 k = S.1 t' 0 k := fun S t t' x h => by rw [z_sI1, if_neg (fun z => h z.1)]
    have hnew : ∀ j, j < k + 1 → (z_sI S 42 0 k (S.1 72 0 k)).1 42 0 j = S0.1 72 0 j := by
      intro j hj
      by_cases q : j = k
      · subst q
        have g72 : S.1 72 0 j = S0.1 72 0 j := hf.i (by omega)
        simp [z_sI1, g72]
      · have := h0 j (by omega)
        simp [z_sI1, q, this]
    obtain ⟨S', N', e1, e2, e3, e4⟩ := ih (k + 1) N (z_sI S 42 0 k (S.1 72 0 k)) (by omega) (by omega) hnew (hf.tr (z_fx.sI ⟨rfl, by omega, by omega⟩))
    exact ⟨S', N', by omega, e2, e3, e4⟩
theorem l_undo184 (ex : z_Ex) (S0 : z_Mem) : ∀ (m k N : Nat) (S : z_Mem), k + m = 5 → m < N → (∀ j, j < k → S.1 59 0 j = S0.1 73 0 j ∧ S.1 60 0 j = S0.1 74 0 j ∧ S.1 61 0 j = S0.1 75 0 j) → z_fx (fun t i _ => i = 0 ∧ 59 ≤ t ∧ t ≤ 61) S0 S →
    ∃ S' N', N' + m + 1 = N ∧ zr_X12_undo ex N 184 [some (.inr (.inr (12, 0))), some (.inl (nI k))] [] S = zr_X12_undo ex N' 233 [some (.inr (.inr (12, 0))), some (.inl (0 : Int32))] [] S' ∧ (∀ j, j < 5 → S'.1 59 0 j = S0.1 73 0 j ∧ S'.1 60 0 j = S0.1 74 0 j ∧ S'.1 61 0 j = S0.1 75 0 j) ∧ z_fx (fun t i _ => i = 0 ∧ 59 ≤ t ∧ t ≤ 61) S0 S' := by
  intro m
  induction m with
  | zero =>
    intro k N S hk hN h0 hf
    obtain ⟨N, rfl⟩ : ∃ N', N = N' + 1 := ⟨N - 1, by omega⟩
    rw [ze_X12_undo_184, if_pos (by rw [show (5 : Int32) = nI 5 from rfl, z_le (by omega) (by omega)]; omega)]
    exact ⟨S, N, by omega, rfl, fun j hj => h0 j (by omega), hf⟩
  | succ m ih =>
    intro k N S hk hN h0 hf
    obtain ⟨N, rfl⟩ : ∃ N', N = N' + 1 := ⟨N - 1, by omega⟩
    rw [ze_X12_undo_184, if_neg (by rw [show (5 : Int32) = nI 5 from rfl, z_le (by omega) (by omega)]; omega), z_oob_n (k := k) (by omega) (by omega)]
    simp only [z_cond_f]
    rw [z_cl (k := k) (by omega), nI_1]
    have hrd : ∀ (S : z_Mem) (t t' : Nat) (x : Int32), t' ≠ t → (z_sI S t 0 k x).1 t' 0 k = S.1 t' 0 k := fun S t t' x h => by rw [z_sI1, if_neg (fun z => h z.1)]
    simp only [hrd _ 59 74 _ (by decide), hrd _ 59 75 _ (by decide), hrd _ 60 75 _ (by decide)]
    have hnew : ∀ j, j < k + 1 → (z_sI (z_sI (z_sI S 59 0 k (S.1 73 0 k)) 60 0 k (S.1 74 0 k)) 61 0 k (S.1 75 0 k)).1 59 0 j = S0.1 73 0 j ∧ (z_sI (z_sI (z_sI S 59 0 k (S.1 73 0 k)) 60 0 k (S.1 74 0 k)) 61 0 k (S.1 75 0 k)).1 60 0 j = S0.1 74 0 j ∧ (z_sI (z_sI (z_sI S 59 0 k (S.1 73 0 k)) 60 0 k (S.1 74 0 k)) 61 0 k (S.1 75 0 k)).1 61 0 j = S0.1 75 0 j := by
      intro j hj
      by_cases q : j = k
      · subst q
        have g73 : S.1 73 0 j = S0.1 73 0 j := hf.i (by omega)
        have g74 : S.1 74 0 j = S0.1 74 0 j := hf.i (by omega)
        have g75 : S.1 75 0 j = S0.1 75 0 j := hf.i (by omega)
        simp [z_sI1, g73, g74, g75]
      · have := h0 j (by omega)
        simp [z_sI1, q, this]
    obtain ⟨S', N', e1, e2, e3, e4⟩ := ih (k + 1) N (z_sI (z_sI (z_sI S 59 0 k (S.1 73 0 k)) 60 0 k (S.1 74 0 k)) 61 0 k (S.1 75 0 k)) (by omega) (by omega) hnew (((hf.tr (z_fx.sI ⟨rfl, by omega, by omega⟩)).tr (z_fx.sI ⟨rfl, by omega, by omega⟩)).tr (z_fx.sI ⟨rfl, by omega, by omega⟩))
    exact ⟨S', N', by omega, e2, e3, e4⟩
theorem l_undo233 (ex : z_Ex) (S0 : z_Mem) : ∀ (m k N : Nat) (S : z_Mem), k + m = 10 → m < N → (∀ j, j < k → S.1 63 0 j = S0.1 76 0 j ∧ S.1 64 0 j = S0.1 77 0 j) → z_fx (fun t i _ => i = 0 ∧ 63 ≤ t ∧ t ≤ 64) S0 S →
    ∃ S' N', N' + m + 1 = N ∧ zr_X12_undo ex N 233 [some (.inr (.inr (12, 0))), some (.inl (nI k))] [] S = zr_X12_undo ex N' 271 [some (.inr (.inr (12, 0))), some (.inl (0 : Int32))] [] S' ∧ (∀ j, j < 10 → S'.1 63 0 j = S0.1 76 0 j ∧ S'.1 64 0 j = S0.1 77 0 j) ∧ z_fx (fun t i _ => i = 0 ∧ 63 ≤ t ∧ t ≤ 64) S0 S' := by
  intro m
  induction m with
  | zero =>
    intro k N S hk hN h0 hf
    obtain ⟨N, rfl⟩ : ∃ N', N = N' + 1 := ⟨N - 1, by omega⟩
    rw [ze_X12_undo_233, if_pos (by rw [show (10 : Int32) = nI 10 from rfl, z_le (by omega) (by omega)]; omega)]
    exact ⟨S, N, by omega, rfl, fun j hj => h0 j (by omega), hf⟩
  | succ m ih =>
    intro k N S hk hN h0 hf
    obtain ⟨N, rfl⟩ : ∃ N', N = N' + 1 := ⟨N - 1, by omega⟩
    rw [ze_X12_undo_233, if_neg (by rw [show (10 : Int32) = nI 10 from rfl, z_le (by omega) (by omega)]; omega), z_oob_n (k := k) (by omega) (by omega)]
    simp only [z_cond_f]
    rw [z_cl (k := k) (by omega), nI_1]
    have hrd : ∀ (S : z_Mem) (t t' : Nat) (x : Int32), t' ≠ t → (z_sI S t 0 k x).1 t' 0 k = S.1 t' 0 k := fun S t t' x h => by rw [z_sI1, if_neg (fun z => h z.1)]
    simp only [hrd _ 63 77 _ (by decide)]
    have hnew : ∀ j, j < k + 1 → (z_sI (z_sI S 63 0 k (S.1 76 0 k)) 64 0 k (S.1 77 0 k)).1 63 0 j = S0.1 76 0 j ∧ (z_sI (z_sI S 63 0 k (S.1 76 0 k)) 64 0 k (S.1 77 0 k)).1 64 0 j = S0.1 77 0 j := by
      intro j hj
      by_cases q : j = k
      · subst q
        have g76 : S.1 76 0 j = S0.1 76 0 j := hf.i (by omega)
        have g77 : S.1 77 0 j = S0.1 77 0 j := hf.i (by omega)
        simp [z_sI1, g76, g77]
      · have := h0 j (by omega)
        simp [z_sI1, q, this]
    obtain ⟨S', N', e1, e2, e3, e4⟩ := ih (k + 1) N (z_sI (z_sI S 63 0 k (S.1 76 0 k)) 64 0 k (S.1 77 0 k)) (by omega) (by omega) hnew ((hf.tr (z_fx.sI ⟨rfl, by omega, by omega⟩)).tr (z_fx.sI ⟨rfl, by omega, by omega⟩))
    exact ⟨S', N', by omega, e2, e3, e4⟩
theorem l_undo271 (ex : z_Ex) (S0 : z_Mem) : ∀ (m k N : Nat) (S : z_Mem), k + m = 8 → m < N → (∀ j, j < k → S.1 65 0 j = S0.1 78 0 j ∧ S.1 66 0 j = S0.1 79 0 j) → z_fx (fun t i _ => i = 0 ∧ 65 ≤ t ∧ t ≤ 66) S0 S →
    ∃ S' N', N' + m + 1 = N ∧ zr_X12_undo ex N 271 [some (.inr (.inr (12, 0))), some (.inl (nI k))] [] S = some (some (.inl (S'.1 12 0 0)), S') ∧ (∀ j, j < 8 → S'.1 65 0 j = S0.1 78 0 j ∧ S'.1 66 0 j = S0.1 79 0 j) ∧ z_fx (fun t i _ => i = 0 ∧ 65 ≤ t ∧ t ≤ 66) S0 S' := by
  intro m
  induction m with
  | zero =>
    intro k N S hk hN h0 hf
    obtain ⟨N, rfl⟩ : ∃ N', N = N' + 1 := ⟨N - 1, by omega⟩
    rw [ze_X12_undo_271, if_pos (by rw [show (8 : Int32) = nI 8 from rfl, z_le (by omega) (by omega)]; omega)]
    exact ⟨S, N, by omega, rfl, fun j hj => h0 j (by omega), hf⟩
  | succ m ih =>
    intro k N S hk hN h0 hf
    obtain ⟨N, rfl⟩ : ∃ N', N = N' + 1 := ⟨N - 1, by omega⟩
    rw [ze_X12_undo_271, if_neg (by rw [show (8 : Int32) = nI 8 from rfl, z_le (by omega) (by omega)]; omega), z_oob_n (k := k) (by omega) (by omega)]
    simp only [z_cond_f]
    rw [z_cl (k := k) (by omega), nI_1]
    have hrd : ∀ (S : z_Mem) (t t' : Nat) (x : Int32), t' ≠ t → (z_sI S t 0 k x).1 t' 0 k = S.1 t' 0 k := fun S t t' x h => by rw [z_sI1, if_neg (fun z => h z.1)]
    simp only [hrd _ 65 79 _ (by decide)]
    have hnew : ∀ j, j < k + 1 → (z_sI (z_sI S 65 0 k (S.1 78 0 k)) 66 0 k (S.1 79 0 k)).1 65 0 j = S0.1 78 0 j ∧ (z_sI (z_sI S 65 0 k (S.1 78 0 k)) 66 0 k (S.1 79 0 k)).1 66 0 j = S0.1 79 0 j := by
      intro j hj
      by_cases q : j = k
      · subst q
        have g78 : S.1 78 0 j = S0.1 78 0 j := hf.i (by omega)
        have g79 : S.1 79 0 j = S0.1 79 0 j := hf.i (by omega)
        simp [z_sI1, g78, g79]
      · have := h0 j (by omega)
        simp [z_sI1, q, this]
    obtain ⟨S', N', e1, e2, e3, e4⟩ := ih (k + 1) N (z_sI (z_sI S 65 0 k (S.1 78 0 k)) 66 0 k (S.1 79 0 k)) (by omega) (by omega) hnew ((hf.tr (z_fx.sI ⟨rfl, by omega, by omega⟩)).tr (z_fx.sI ⟨rfl, by omega, by omega⟩))
    exact ⟨S', N', by omega, e2, e3, e4⟩
