/-! ===== how wet each would be at each place: the class foresees, the model lays ===== -/
def z_ly (H : z_H) (K : Nat → z_K) (W : Nat → Int32) (M : Nat) (ht : Int32) (hr : Nat) (b p : Nat) : Int32 := z_wN H (z_kp (K b) (nI p)) M ht hr (W b)
def z_Pfs (t i k : Nat) : Prop := z_Pco t i k ∨ t = 6 ∨ (26 ≤ t ∧ t ≤ 29)
theorem z_Pfs_sk {S S' : z_Mem} (h : z_fx z_Pfs S S') : z_fx z_Sk S S' := h.wk (fun t i k q => by unfold z_Pfs z_Pco at q; unfold z_Sk; omega)
theorem z_x6 (b p : Nat) : nI b * 6 + nI p = nI (6 * b + p) := by
  rw [Int32.mul_comm, show (6 : Int32) * nI b = nI (6 * b) from pk_mul 6 b, nI_add]
theorem z_6x (b p : Nat) : (6 : Int32) * nI b + nI p = nI (6 * b + p) := by
  rw [show (6 : Int32) * nI b = nI (6 * b) from pk_mul 6 b, nI_add]
theorem z_ly_le {hts n hr h c0 : Nat} {ht wd : Int32} {H : z_H} {K : Nat → z_K} {W C : Nat → Int32} {S : z_Mem} (hA : z_LA hts n hr h c0 ht wd H K W C S) (M : Nat) {b : Nat} (hb : b < n) (p : Nat) : ∃ j : Nat, j ≤ 99 ∧ z_ly H K W M ht hr b p = nI j := by
  obtain ⟨w, hw, e⟩ := (hA.2.2 b hb).1.2.1
  obtain ⟨j, hj, e2⟩ := z_wN_le (H := H) (K := z_kp (K b) (nI p)) M hr w ht hw
  exact ⟨j, by omega, by unfold z_ly; rw [e]; exact e2⟩
/-- one place by one, pair b -/
theorem l_fs48 (d M b : Nat) {hts n hr h c0 : Nat} {ht wd : Int32} {H : z_H} {K : Nat → z_K} {W C : Nat → Int32} {S0 : z_Mem} (hA : z_LA hts n hr h c0 ht wd H K W C S0) (hM : M ≤ 60) (hb : b < n) : ∀ (m p N : Nat) (S : z_Mem), p + m = 6 → z_fx z_Pfs S0 S → (∀ p', p' < p → S.1 26 0 (6 * b + p') = z_ly H K W M ht hr b p') →
    ∃ S', z_fx (fun t i k => z_Pco t i k ∨ (t = 26 ∧ 6 * b ≤ k ∧ k < 6 * b + 6)) S S' ∧ (∀ p', p' < 6 → S'.1 26 0 (6 * b + p') = z_ly H K W M ht hr b p') ∧
      zr_X6_foresee (z_exe z_mt true (d + 6)) (N + (m + 1)) 48 [some (.inr (.inr (6, 0))), some (.inr (.inr (7, 0))), some (.inr (.inr (3, 0))), some (.inl (nI M)), some (.inl (nI b)), some (.inl (nI p))] [] S = zr_X6_foresee (z_exe z_mt true (d + 6)) N 11 [some (.inr (.inr (6, 0))), some (.inr (.inr (7, 0))), some (.inr (.inr (3, 0))), some (.inl (nI M)), some (.inl (nI (b + 1))), none] [] S' := by
  obtain ⟨⟨hn, hhr, -, hH, -⟩, -⟩ := hA.1
  intro m
  induction m with
  | zero =>
    intro p N S hp hf hk
    refine ⟨S, z_fx.rf, fun p' hp' => hk p' (by omega), ?_⟩
    show zr_X6_foresee (z_exe z_mt true (d + 6)) (N + 1) 48 _ [] S = _
    rw [ze_X6_foresee_48, if_pos (by rw [show (6 : Int32) = nI 6 from rfl, z_le (by omega) (by omega)]; omega)]
    try dsimp only
    rw [nI_1]
  | succ m ih =>
    intro p N S hp hf hk
    have hA1 := hA.sk (z_Pfs_sk hf)
    obtain ⟨-, ⟨kb, k01, kw, kc⟩, -⟩ := hA1.2.2 b hb
    have hw0 := hA.W0 b hb
    obtain ⟨q, S1, e1, rfl, f1⟩ := s_wetBehind d b 0 h hr M H ht (nI p) S (by omega) (by omega) k01 hA1.2.1.1.2.2.2.2.1 hA1.2.1.1.2.2.2.2.2.1 hA1.2.1.1.2.1 hA1.2.1.1.2.2.2.1 hH (by omega) (by omega) (by rw [kw]; exact hw0)
    rw [kb, kw] at e1
    have f2 : z_fx (fun t i k => z_Pco t i k ∨ (t = 26 ∧ 6 * b ≤ k ∧ k < 6 * b + 6)) S (z_sI S1 26 0 (6 * b + p) (z_ly H K W M ht hr b p)) := (f1.wk (fun t i k q => Or.inl q)).tr (z_fx.sI (Or.inr ⟨rfl, by omega, by omega⟩))
    obtain ⟨S2, f3, h3, e3⟩ := ih (p + 1) N (z_sI S1 26 0 (6 * b + p) (z_ly H K W M ht hr b p)) (by omega) (hf.tr (f2.wk (fun t i k q => q.elim Or.inl (fun q => Or.inr (Or.inr (by omega)))))) (fun p' hp' => by
      rw [z_sI1]
      by_cases q : p' = p
      · rw [q, if_pos ⟨rfl, rfl, rfl⟩]
      · rw [if_neg (by omega), f1.i (by unfold z_Pco; omega)]
        exact hk p' (by omega))
    refine ⟨S2, f2.tr f3, h3, ?_⟩
    rw [show N + (m + 1 + 1) = N + (m + 1) + 1 from rfl]
    generalize N + (m + 1) = F at e3 ⊢
    rw [ze_X6_foresee_48, if_neg (by rw [show (6 : Int32) = nI 6 from rfl, z_le (by omega) (by omega)]; omega), z_oob_n (k := b) (by omega) (by omega), z_cl (k := b) (by omega), z_60]
    dsimp only [cond]
    rw [e1, z_rI_s, z_x6, z_oob_n (k := 6 * b + p) (by omega) (by omega), z_cl (k := 6 * b + p) (by omega)]
    dsimp only [cond]
    rw [nI_1]
    exact e3
/-- what the class has foreseen -/
def z_for (n : Nat) (H : z_H) (K : Nat → z_K) (W : Nat → Int32) (M : Nat) (ht : Int32) (hr : Nat) (S : z_Mem) : Prop := S.1 6 0 3 = nI n ∧ ∀ b, b < n → S.1 27 0 b = (cond (K b).2.2.2.2.1 0 1) ∧ ∀ p, p < 6 → S.1 26 0 (6 * b + p) = z_ly H K W M ht hr b p
theorem l_fs11 (d M : Nat) {hts n hr h c0 : Nat} {ht wd : Int32} {H : z_H} {K : Nat → z_K} {W C : Nat → Int32} {S0 : z_Mem} (hA : z_LA hts n hr h c0 ht wd H K W C S0) (hM : M ≤ 60) : ∀ (m b N : Nat) (S : z_Mem), b + m = n → 8 * m < N → z_fx z_Pfs S0 S → S.1 6 0 3 = nI n → (∀ b', b' < b → S.1 27 0 b' = (cond (K b').2.2.2.2.1 0 1) ∧ ∀ p, p < 6 → S.1 26 0 (6 * b' + p) = z_ly H K W M ht hr b' p) →
    z_wp (zr_X6_foresee (z_exe z_mt true (d + 6)) N 11 [some (.inr (.inr (6, 0))), some (.inr (.inr (7, 0))), some (.inr (.inr (3, 0))), some (.inl (nI M)), some (.inl (nI b)), none] [] S) (fun q S' => q = none ∧ z_for n H K W M ht hr S' ∧ z_fx z_Pfs S0 S') := by
  obtain ⟨⟨hn, hhr, -, hH, -⟩, -⟩ := hA.1
  intro m
  induction m with
  | zero =>
    intro b N S hb hN hf h3 hk
    obtain ⟨N, rfl⟩ : ∃ N', N = N' + 1 := ⟨N - 1, by omega⟩
    rw [ze_X6_foresee_11, if_pos (by rw [h3, z_le (by omega) (by omega)]; omega)]
    exact z_wp_ret ⟨rfl, ⟨h3, fun b' hb' => hk b' (by omega)⟩, hf⟩
  | succ m ih =>
    intro b N S hb hN hf h3 hk
    obtain ⟨N, rfl⟩ : ∃ N', N = N' + (6 + 1) + 1 := ⟨N - 8, by omega⟩
    obtain ⟨-, ⟨kb, k01, kw, kc⟩, -⟩ := (hA.sk (z_Pfs_sk hf)).2.2 b (by omega)
    have hg : (K b).2.2.2.2.1 = !decide (S.1 2 b 5 = 0) := by rw [← kb]; rfl
    have go : ∀ x : Int32, x = (cond (K b).2.2.2.2.1 0 1) → z_wp (zr_X6_foresee (z_exe z_mt true (d + 6)) (N + (6 + 1)) 48 [some (.inr (.inr (6, 0))), some (.inr (.inr (7, 0))), some (.inr (.inr (3, 0))), some (.inl (nI M)), some (.inl (nI b)), some (.inl (nI 0))] [] (z_sI S 27 0 b x)) (fun q S' => q = none ∧ z_for n H K W M ht hr S' ∧ z_fx z_Pfs S0 S') := by
      intro x hx
      have f1 : z_fx z_Pfs S (z_sI S 27 0 b x) := z_fx.sI (by unfold z_Pfs; omega)
      obtain ⟨S2, f2, h2, e2⟩ := l_fs48 d M b hA hM (by omega) 6 0 N (z_sI S 27 0 b x) (by omega) (hf.tr f1) (fun p' hp' => by omega)
      rw [e2]
      refine ih (b + 1) N S2 (by omega) (by omega) ((hf.tr f1).tr (f2.wk (fun t i k q => q.elim Or.inl (fun q => Or.inr (Or.inr (by omega)))))) ?_ (fun b' hb' => ⟨?_, fun p hp => ?_⟩)
      · rw [f2.i (by unfold z_Pco; omega), z_sI1, if_neg (by omega)]; exact h3
      · rw [f2.i (by unfold z_Pco; omega), z_sI1]
        by_cases q : b' = b
        · rw [q, if_pos ⟨rfl, rfl, rfl⟩]; exact hx
        · rw [if_neg (by omega)]; exact (hk b' (by omega)).1
      · by_cases q : b' = b
        · rw [q]; exact h2 p hp
        · rw [f2.i (by unfold z_Pco; omega), z_sI1, if_neg (by omega)]
          exact (hk b' (by omega)).2 p hp
    generalize N + (6 + 1) = F at go ⊢
    rw [ze_X6_foresee_11, if_neg (by rw [h3, z_le (by omega) (by omega)]; omega), z_oob_n (k := b) (by omega) (by omega), z_cl (k := b) (by omega), z_60, z_cond_f]
    by_cases g : S.1 2 b 5 = 0
    · rw [if_pos g, z_cond_f, show (0 : Int32) = nI 0 from rfl]
      exact go _ (by rw [hg, decide_eq_true g]; rfl)
    · rw [if_neg g, z_cond_f, show (0 : Int32) = nI 0 from rfl]
      exact go _ (by rw [hg, decide_eq_false g]; rfl)
theorem s_foresee (d M : Nat) {hts n hr h c0 : Nat} {ht wd : Int32} {H : z_H} {K : Nat → z_K} {W C : Nat → Int32} {S : z_Mem} (hA : z_LA hts n hr h c0 ht wd H K W C S) (hM : M ≤ 60) :
    ∃ S', z_exe z_mt true (d + 7) 44 [.inr (.inr (6, 0)), .inr (.inr (7, 0)), .inr (.inr (3, 0)), .inl (nI M)] S = some (none, S') ∧ z_for n H K W M ht hr S' ∧ z_fx z_Pfs S S' := by
  have e : z_exe z_mt true (d + 7) 44 [.inr (.inr (6, 0)), .inr (.inr (7, 0)), .inr (.inr (3, 0)), .inl (nI M)] S = _ := (zx_X6_foresee (d + 6) S 0 0 0 (nI M)).trans (ze_X6_foresee_0 _ _ _ _ _ _ _)
  have hn := hA.1.1.1
  rw [e]
  obtain ⟨q, S', e1, rfl, h1, f1⟩ := l_fs11 d M hA hM n 0 999999 (z_sI S 6 0 3 (S.1 7 0 1)) (by omega) (by omega) (z_fx.sI (by unfold z_Pfs; omega)) (by rw [z_sI1, if_pos ⟨rfl, rfl, rfl⟩]; exact hA.2.1.1.1) (fun b' hb' => by omega)
  exact ⟨S', e1, h1, f1⟩
/-! the model lays -/
theorem l_lw14 (ex : z_Ex) (n p : Nat) (hn : n ≤ 6) (v1 : Int32) (S1 : z_Mem) : ∀ (m b N : Nat) (S : z_Mem), b + m = n → S.1 12 0 0 = nI n → z_fx (fun t i k => t = 40 ∧ i = 0 ∧ k < n) S1 S → (∀ b', b' < b → S.1 40 0 b' = nI p) →
    ∃ S', z_fx (fun t i k => t = 40 ∧ i = 0 ∧ k < n) S1 S' ∧ (∀ b', b' < n → S'.1 40 0 b' = nI p) ∧
      zr_X12_layWets ex (N + (m + 1)) 14 [some (.inr (.inr (12, 0))), some (.inl v1), some (.inl (nI p)), some (.inl (nI b))] [] S = z_rV (ex 176 [.inr (.inr (12, 0)), .inl v1] S') (fun S2 => zr_X12_layWets ex N 42 [some (.inr (.inr (12, 0))), some (.inl v1), some (.inl (nI p)), some (.inl (nI 0))] [] S2) := by
  intro m
  induction m with
  | zero =>
    intro b N S hb h12 hf hk
    refine ⟨S, hf, fun b' hb' => hk b' (by omega), ?_⟩
    show zr_X12_layWets ex (N + 1) 14 _ [] S = _
    rw [ze_X12_layWets_14, if_pos (by rw [h12, z_le (by omega) (by omega)]; omega), show (0 : Int32) = nI 0 from rfl]
  | succ m ih =>
    intro b N S hb h12 hf hk
    obtain ⟨S', f2, h2, e2⟩ := ih (b + 1) N (z_sI S 40 0 b (nI p)) (by omega) (by rw [z_sI1, if_neg (by omega)]; exact h12) (hf.tr (z_fx.sI ⟨rfl, rfl, by omega⟩)) (fun b' hb' => by
      rw [z_sI1]
      by_cases q : b' = b
      · rw [if_pos ⟨rfl, rfl, q⟩]
      · rw [if_neg (by omega)]; exact hk b' (by omega))
    refine ⟨S', f2, h2, ?_⟩
    rw [show N + (m + 1 + 1) = N + (m + 1) + 1 from rfl]
    generalize N + (m + 1) = F at e2 ⊢
    rw [ze_X12_layWets_14, if_neg (by rw [h12, z_le (by omega) (by omega)]; omega), z_oob_n (k := b) (by omega) (by omega), z_cl (k := b) (by omega), z_cond_f]
    rw [← nI_1 b] at e2
    exact e2
theorem l_lw42 (ex : z_Ex) (n p : Nat) (hn : n ≤ 6) (hp : p < 6) (v1 : Int32) (S1 : z_Mem) : ∀ (m b N : Nat) (S : z_Mem), b + m = n → S.1 12 0 0 = nI n → z_fx (fun t i _ => t = 56 ∧ i = 0) S1 S → (∀ b' p', (b' < b ∧ p' = p → S.1 56 0 (6 * b' + p') = S1.1 39 0 b') ∧ (p' < p → b' < n → S.1 56 0 (6 * b' + p') = S1.1 56 0 (6 * b' + p'))) →
    ∃ S', z_fx (fun t i _ => t = 56 ∧ i = 0) S1 S' ∧ (∀ b', b' < n → S'.1 56 0 (6 * b' + p) = S1.1 39 0 b' ∧ ∀ p', p' < p → S'.1 56 0 (6 * b' + p') = S1.1 56 0 (6 * b' + p')) ∧
      zr_X12_layWets ex (N + (m + 1)) 42 [some (.inr (.inr (12, 0))), some (.inl v1), some (.inl (nI p)), some (.inl (nI b))] [] S = z_rV (ex 181 [.inr (.inr (12, 0))] S') (fun S5 => zr_X12_layWets ex N 2 [some (.inr (.inr (12, 0))), some (.inl v1), some (.inl (nI (p + 1))), none] [] S5) := by
  intro m
  induction m with
  | zero =>
    intro b N S hb h12 hf hk
    refine ⟨S, hf, fun b' hb' => ⟨(hk b' p).1 ⟨by omega, rfl⟩, fun p' hp' => (hk b' p').2 hp' hb'⟩, ?_⟩
    show zr_X12_layWets ex (N + 1) 42 _ [] S = _
    rw [ze_X12_layWets_42, if_pos (by rw [h12, z_le (by omega) (by omega)]; omega), nI_1]
  | succ m ih =>
    intro b N S hb h12 hf hk
    have e39 : S.1 39 0 b = S1.1 39 0 b := hf.i (by omega)
    obtain ⟨S', f2, h2, e2⟩ := ih (b + 1) N (z_sI S 56 0 (6 * b + p) (S.1 39 0 b)) (by omega) (by rw [z_sI1, if_neg (by omega)]; exact h12) (hf.tr (z_fx.sI ⟨rfl, rfl⟩)) (fun b' p' => ⟨fun q => by
      obtain ⟨q1, rfl⟩ := q
      rw [z_sI1]
      by_cases q : b' = b
      · rw [if_pos ⟨rfl, rfl, by rw [q]⟩, q]; exact e39
      · rw [if_neg (by omega)]; exact (hk b' p').1 ⟨by omega, rfl⟩, fun q1 q2 => by
      rw [z_sI1, if_neg (by omega)]; exact (hk b' p').2 q1 q2⟩)
    refine ⟨S', f2, h2, ?_⟩
    rw [show N + (m + 1 + 1) = N + (m + 1) + 1 from rfl]
    generalize N + (m + 1) = F at e2 ⊢
    rw [ze_X12_layWets_42, if_neg (by rw [h12, z_le (by omega) (by omega)]; omega), z_oob_n (k := b) (by omega) (by omega), z_cl (k := b) (by omega)]
    dsimp only [cond]
    rw [z_6x, z_oob_n (k := 6 * b + p) (by omega) (by omega), z_cl (k := 6 * b + p) (by omega)]
    dsimp only [cond]
    rw [nI_1]
    exact e2
theorem l_lw2 (d M c0 n hr : Nat) (H : z_H) (ht : Int32) (K : Nat → z_K) (W C : Nat → Int32) (hH : z_hwf H) (hn : n ≤ 6) (hM : M ≤ 60) (hhr : hr ≤ 9999) (hC : ∀ b, b < n → ∃ k : Nat, k ≤ hr ∧ C b = nI k) (S0 : z_Mem) : ∀ (m p N : Nat) (S : z_Mem), p + m = 6 → 15 * m < N → S.1 12 0 29 = 9999 → z_Rm c0 H n ht hr K W C S → z_fx z_Psc S0 S → (∀ b, b < n → ∀ p', p' < p → S.1 56 0 (6 * b + p') = z_ly H K W M ht hr b p') →
    ∃ S', zr_X12_layWets (z_exe z_mt true (d + 7)) N 2 [some (.inr (.inr (12, 0))), some (.inl (nI M)), some (.inl (nI p)), none] [] S = some (none, S') ∧ z_fx z_Psc S0 S' ∧ ∀ b, b < n → ∀ p', p' < 6 → S'.1 56 0 (6 * b + p') = z_ly H K W M ht hr b p' := by
  intro m
  induction m with
  | zero =>
    intro p N S hp hN h29 hR hf hk
    obtain ⟨N, rfl⟩ : ∃ N', N = N' + 1 := ⟨N - 1, by omega⟩
    refine ⟨S, ?_, hf, fun b hb p' hp' => hk b hb p' (by omega)⟩
    rw [ze_X12_layWets_2, if_pos (by rw [show (6 : Int32) = nI 6 from rfl, z_le (by omega) (by omega)]; omega)]
  | succ m ih =>
    intro p N S hp hN h29 hR hf hk
    obtain ⟨N, rfl⟩ : ∃ N', N = N' + (n + 1) + (n + 1) + 1 := ⟨N - (n + 1) - (n + 1) - 1, by omega⟩
    obtain ⟨S1, e1, hs, hR1, hmo⟩ := s_mSave (d + 6) c0 n hr H ht K W C S hR
    obtain ⟨S2, f2, h2, e2⟩ := l_lw14 (z_exe z_mt true (d + 7)) n p hn (nI M) S1 n 0 (N + (n + 1)) S1 (by omega) hR1.1 z_fx.rf (fun b' hb' => by omega)
    have f2' : z_fx z_Prn S1 S2 := f2.wk (fun t i k q => by unfold z_Prn; omega)
    have hR2 : z_Rm c0 H n ht hr (fun b => z_kp (K b) (nI p)) W C S2 := by
      obtain ⟨r1, r2, r3, r4, r5⟩ := hR1
      refine ⟨(f2.i (by omega)).trans r1, r2.fx f2 (fun t i k a c => by omega) (by omega), (f2.i (by omega)).trans r3, (f2.i (by omega)).trans r4, fun b hb => ?_⟩
      obtain ⟨o1, o2, o3⟩ := r5 b hb
      refine ⟨?_, (f2.i (by omega)).trans o2, (f2.i (by omega)).trans o3⟩
      show z_km b S2 = z_kp (K b) (nI p)
      rw [← o1]
      unfold z_km z_kp
      rw [f2.i (t := 37) (i := 0) (k := b) (by omega), f2.i (t := 38) (i := 0) (k := b) (by omega), h2 b hb, f2.i (t := 12) (i := 0) (k := 1) (by omega)]
      have : (fun k => if k < 4 then S2.1 42 0 (4 * b + k) else 0) = (fun k => if k < 4 then S1.1 42 0 (4 * b + k) else 0) := by
        funext k
        rw [f2.i (t := 42) (i := 0) (k := 4 * b + k) (by omega)]
      rw [this]
    obtain ⟨z, S3, e3, rfl, hR3, hf3⟩ := s_mhours d c0 n M 2000000000 hr H ht _ W C S2 hH hn (by omega) (by omega) (by omega) (by omega) ((f2.i (by omega)).trans hmo) hR2 hC
    have f3' := z_Pm_Prn hf3
    obtain ⟨S4, f4, h4, e4⟩ := l_lw42 (z_exe z_mt true (d + 7)) n p hn (by omega) (nI M) S3 n 0 N S3 (by omega) hR3.1 z_fx.rf (fun b' p' => ⟨fun q => by omega, fun _ _ => rfl⟩)
    have f4' : z_fx z_Prn S3 S4 := f4.wk (fun t i k q => by unfold z_Prn; omega)
    obtain ⟨q, S5, e5, rfl, hp5⟩ := s_putBack (d + 6) S4
    have f5 := z_back h29 hs ((f2'.tr f3').tr f4') hp5
    have k56 : ∀ k, S5.1 56 0 k = S4.1 56 0 k := fun k => hp5.1.i (by unfold z_Ppb; omega)
    obtain ⟨S6, e6, f6, h6⟩ := ih (p + 1) N S5 (by omega) (by omega) (by rw [f5.i (by unfold z_Psc; omega)]; exact h29) (hR.fx f5 (fun t i k q => by unfold z_Psc; omega)) (hf.tr f5) (fun b hb p' hp' => by
      rw [k56]
      obtain ⟨a1, a2⟩ := h4 b hb
      by_cases q : p' = p
      · rw [q, a1, (hR3.2.2.2.2 b hb).2.1]; rfl
      · rw [a2 p' (by omega), hf3.i (by unfold z_Pm; omega), f2.i (by omega), hs.1.i (by unfold z_Psv; omega)]
        exact hk b hb p' (by omega))
    refine ⟨S6, ?_, f6, h6⟩
    rw [ze_X12_layWets_2, if_neg (by rw [show (6 : Int32) = nI 6 from rfl, z_le (by omega) (by omega)]; omega), e1, z_rV_s, show (0 : Int32) = nI 0 from rfl, show N + (n + 1) + (n + 1) = N + (n + 1) + (n + 1) from rfl, e2, e3, z_rV_s, e4, e5, z_rV_s]
    exact e6
theorem s_layWets (d M : Nat) {hts n hr h c0 : Nat} {ht wd : Int32} {H : z_H} {K : Nat → z_K} {W C : Nat → Int32} {S : z_Mem} (hA : z_LA hts n hr h c0 ht wd H K W C S) (h29 : S.1 12 0 29 = 9999) (hM : M ≤ 60) :
    ∃ S', z_exe z_mt true (d + 8) 185 [.inr (.inr (12, 0)), .inl (nI M)] S = some (none, S') ∧ z_fx z_Psc S S' ∧ ∀ b, b < n → ∀ p', p' < 6 → S'.1 56 0 (6 * b + p') = z_ly H K W M ht hr b p' := by
  have e : z_exe z_mt true (d + 8) 185 [.inr (.inr (12, 0)), .inl (nI M)] S = _ := (zx_X12_layWets (d + 7) S 0 (nI M)).trans (ze_X12_layWets_0 _ _ _ _ _)
  obtain ⟨⟨hn, hhr, -, hH, -⟩, -⟩ := hA.1
  rw [e]
  exact l_lw2 d M c0 n hr H ht K W C hH hn hM hhr (fun b hb => (hA.2.2 b hb).1.2.2) S 6 0 999999 S (by omega) (by omega) h29 hA.Rm z_fx.rf (fun b hb p' hp' => by omega)
