/-! ===== the law's loop ===== -/
theorem z_sub6 {L i : Nat} (hL : L ≤ 3072) (hi : i ≤ 10000) : ((Int32.ofNat L) - (6 : Int32) < nI i) ↔ L < i + 6 := by
  have h6 : (6 : Int32).toInt = 6 := by decide
  show (nI L - 6 < nI i) ↔ _
  rw [Int32.lt_iff_toInt_lt, Int32.toInt_sub, nI_toInt (by omega), nI_toInt (by omega), h6, Int.bmod_eq_of_le (by omega) (by omega)]
  omega
theorem zw_step (L : Nat) (xs : Nat → Int32) (i n : Nat) (S : z_Mem) (hL : L ≤ 3072) (hi : i + 6 ≤ L) (hR : z_RL S) : ∃ N S', n ≤ N ∧ z_lrun (some (L, xs)) (z_exe z_mt true 40) (n + 1 + 1) 18 [some (.inr (.inr (90, 0))), some (.inr (.inr (11, 0))), some (.inr (.inr (12, 0))), some (.inl (nI i))] [] S = z_lrun (some (L, xs)) (z_exe z_mt true 40) N 1430 [some (.inr (.inr (90, 0))), some (.inr (.inr (11, 0))), some (.inr (.inr (12, 0))), some (.inl (nI i))] [] S' ∧ z_RL S' := by
  have e0 := ze_law_18 L xs (z_exe z_mt true 40) (n + 1) S (nI i)
  rw [if_neg (by rw [z_sub6 hL (by omega)]; omega), z_cnd (z_oobL (k := i) (n := L) (by omega) (by omega)), z_cl (k := i) (by omega)] at e0
  try dsimp only at e0
  generalize xs i &&& 63 = x at e0
  by_cases h0 : x = 0
  · rw [if_pos h0] at e0
    obtain ⟨S', e1, hR1⟩ := zw_pair L xs i n S hL hi hR
    exact ⟨n, S', Nat.le_refl _, e0.trans e1, hR1⟩
  rw [if_neg h0] at e0
  by_cases h1 : x = 1
  · rw [if_pos h1] at e0
    obtain ⟨S', e1, hR1⟩ := zw_of L xs i n S hL hi hR
    exact ⟨n, S', Nat.le_refl _, e0.trans e1, hR1⟩
  rw [if_neg h1] at e0
  by_cases h2 : x = 2
  · rw [if_pos h2] at e0
    obtain ⟨S', e1, hR1⟩ := zw_wet L xs i n S hL hi hR
    exact ⟨n, S', Nat.le_refl _, e0.trans e1, hR1⟩
  rw [if_neg h2] at e0
  by_cases h3 : x = 3
  · rw [if_pos h3] at e0
    obtain ⟨S', e1, hR1⟩ := zw_put L xs i n S hL hi hR
    exact ⟨n, S', Nat.le_refl _, e0.trans e1, hR1⟩
  rw [if_neg h3] at e0
  by_cases h4 : x = 4
  · rw [if_pos h4] at e0
    obtain ⟨S', e1, hR1⟩ := zw_take L xs i n S hL hi hR
    exact ⟨n, S', Nat.le_refl _, e0.trans e1, hR1⟩
  rw [if_neg h4] at e0
  by_cases h5 : x = 5
  · rw [if_pos h5] at e0
    obtain ⟨S', e1, hR1⟩ := zw_stoke L xs i n S hL hi hR
    exact ⟨n, S', Nat.le_refl _, e0.trans e1, hR1⟩
  rw [if_neg h5] at e0
  by_cases h6 : x = 6
  · rw [if_pos h6] at e0
    obtain ⟨S', e1, hR1⟩ := zw_set L xs i n S hL hi hR
    exact ⟨n, S', Nat.le_refl _, e0.trans e1, hR1⟩
  rw [if_neg h6] at e0
  by_cases h7 : x = 7
  · rw [if_pos h7] at e0
    obtain ⟨S', e1, hR1⟩ := zw_row L xs i n S hL hi hR
    exact ⟨n, S', Nat.le_refl _, e0.trans e1, hR1⟩
  rw [if_neg h7] at e0
  by_cases h8 : x = 8
  · rw [if_pos h8] at e0
    obtain ⟨S', e1, hR1⟩ := zw_feed L xs i n S hL hi hR
    exact ⟨n, S', Nat.le_refl _, e0.trans e1, hR1⟩
  rw [if_neg h8] at e0
  by_cases h9 : x = 9
  · rw [if_pos h9] at e0
    obtain ⟨S', e1, hR1⟩ := zw_hut L xs i n S hL hi hR
    exact ⟨n, S', Nat.le_refl _, e0.trans e1, hR1⟩
  rw [if_neg h9] at e0
  by_cases h10 : x = 10
  · rw [if_pos h10] at e0
    obtain ⟨S', e1, hR1⟩ := zw_told L xs i n S hL hi hR
    exact ⟨n, S', Nat.le_refl _, e0.trans e1, hR1⟩
  rw [if_neg h10] at e0
  by_cases h11 : x = 11
  · rw [if_pos h11] at e0
    obtain ⟨S', e1, hR1⟩ := zw_pass L xs i n S hL hi hR
    exact ⟨n, S', Nat.le_refl _, e0.trans e1, hR1⟩
  rw [if_neg h11] at e0
  by_cases h12 : x = 12
  · rw [if_pos h12] at e0
    obtain ⟨S', e1, hR1⟩ := zw_on L xs i n S hL hi hR
    exact ⟨n, S', Nat.le_refl _, e0.trans e1, hR1⟩
  rw [if_neg h12] at e0
  by_cases h13 : x = 13
  · rw [if_pos h13] at e0
    obtain ⟨S', e1, hR1⟩ := zw_done L xs i n S hL hi hR
    exact ⟨n, S', Nat.le_refl _, e0.trans e1, hR1⟩
  rw [if_neg h13] at e0
  by_cases h14 : x = 14
  · rw [if_pos h14] at e0
    obtain ⟨S', e1, hR1⟩ := zw_night L xs i n S hL hi hR
    exact ⟨n, S', Nat.le_refl _, e0.trans e1, hR1⟩
  rw [if_neg h14] at e0
  by_cases h15 : x = 15
  · rw [if_pos h15] at e0
    obtain ⟨S', e1, hR1⟩ := zw_placed L xs i n S hL hi hR
    exact ⟨n, S', Nat.le_refl _, e0.trans e1, hR1⟩
  rw [if_neg h15] at e0
  by_cases h16 : x = 16
  · rw [if_pos h16] at e0
    obtain ⟨S', e1, hR1⟩ := zw_change L xs i n S hL hi hR
    exact ⟨n, S', Nat.le_refl _, e0.trans e1, hR1⟩
  rw [if_neg h16] at e0
  by_cases h17 : x = 17
  · rw [if_pos h17] at e0
    obtain ⟨S', e1, hR1⟩ := zw_logs L xs i n S hL hi hR
    exact ⟨n, S', Nat.le_refl _, e0.trans e1, hR1⟩
  rw [if_neg h17] at e0
  by_cases h18 : x = 18
  · rw [if_pos h18] at e0
    obtain ⟨S', e1, hR1⟩ := zw_see L xs i n S hL hi hR
    exact ⟨n, S', Nat.le_refl _, e0.trans e1, hR1⟩
  rw [if_neg h18] at e0
  by_cases h19 : x = 19
  · rw [if_pos h19] at e0
    obtain ⟨S', e1, hR1⟩ := zw_wets L xs i n S hL hi hR
    exact ⟨n, S', Nat.le_refl _, e0.trans e1, hR1⟩
  rw [if_neg h19] at e0
  by_cases h20 : x = 20
  · rw [if_pos h20] at e0
    obtain ⟨S', e1, hR1⟩ := zw_can L xs i n S hL hi hR
    exact ⟨n, S', Nat.le_refl _, e0.trans e1, hR1⟩
  rw [if_neg h20] at e0
  by_cases h21 : x = 21
  · rw [if_pos h21] at e0
    obtain ⟨S', e1, hR1⟩ := zw_where L xs i n S hL hi hR
    exact ⟨n, S', Nat.le_refl _, e0.trans e1, hR1⟩
  rw [if_neg h21] at e0
  by_cases h22 : x = 22
  · rw [if_pos h22] at e0
    obtain ⟨S', e1, hR1⟩ := zw_odds L xs i n S hL hi hR
    exact ⟨n, S', Nat.le_refl _, e0.trans e1, hR1⟩
  rw [if_neg h22] at e0
  by_cases h23 : x = 23
  · rw [if_pos h23] at e0
    obtain ⟨S', e1, hR1⟩ := zw_mean L xs i n S hL hi hR
    exact ⟨n, S', Nat.le_refl _, e0.trans e1, hR1⟩
  rw [if_neg h23] at e0
  by_cases h24 : x = 24
  · rw [if_pos h24] at e0
    obtain ⟨S', e1, hR1⟩ := zw_rota L xs i n S hL hi hR
    exact ⟨n, S', Nat.le_refl _, e0.trans e1, hR1⟩
  rw [if_neg h24] at e0
  by_cases h25 : x = 25
  · rw [if_pos h25] at e0
    obtain ⟨S', e1, hR1⟩ := zw_ends L xs i n S hL hi hR
    exact ⟨n, S', Nat.le_refl _, e0.trans e1, hR1⟩
  rw [if_neg h25] at e0
  by_cases h26 : x = 26
  · rw [if_pos h26] at e0
    obtain ⟨S', e1, hR1⟩ := zw_book L xs i n S hL hi hR
    exact ⟨n, S', Nat.le_refl _, e0.trans e1, hR1⟩
  rw [if_neg h26] at e0
  by_cases h27 : x = 27
  · rw [if_pos h27] at e0
    obtain ⟨S', e1, hR1⟩ := zw_looked L xs i n S hL hi hR
    exact ⟨n, S', Nat.le_refl _, e0.trans e1, hR1⟩
  rw [if_neg h27] at e0
  by_cases h28 : x = 28
  · rw [if_pos h28] at e0
    obtain ⟨S', e1, hR1⟩ := zw_judge L xs i n S hL hi hR
    exact ⟨n, S', Nat.le_refl _, e0.trans e1, hR1⟩
  rw [if_neg h28] at e0
  by_cases h29 : x = 29
  · rw [if_pos h29] at e0
    obtain ⟨S', e1, hR1⟩ := zw_image L xs i n S hL hi hR
    exact ⟨n, S', Nat.le_refl _, e0.trans e1, hR1⟩
  rw [if_neg h29] at e0
  by_cases h30 : x = 30
  · rw [if_pos h30] at e0
    obtain ⟨S', e1, hR1⟩ := zw_undo L xs i n S hL hi hR
    exact ⟨n, S', Nat.le_refl _, e0.trans e1, hR1⟩
  rw [if_neg h30] at e0
  by_cases h31 : x = 31
  · rw [if_pos h31] at e0
    obtain ⟨S', e1, hR1⟩ := zw_act L xs i n S hL hi hR
    exact ⟨n, S', Nat.le_refl _, e0.trans e1, hR1⟩
  rw [if_neg h31] at e0
  by_cases h32 : x = 32
  · rw [if_pos h32] at e0
    obtain ⟨S', e1, hR1⟩ := zw_trace L xs i n S hL hi hR
    exact ⟨n, S', Nat.le_refl _, e0.trans e1, hR1⟩
  rw [if_neg h32] at e0
  by_cases h33 : x = 33
  · rw [if_pos h33] at e0
    obtain ⟨S', e1, hR1⟩ := zw_taken L xs i n S hL hi hR
    exact ⟨n, S', Nat.le_refl _, e0.trans e1, hR1⟩
  rw [if_neg h33] at e0
  by_cases h34 : x = 34
  · rw [if_pos h34] at e0
    obtain ⟨S', e1, hR1⟩ := zw_count L xs i n S hL hi hR
    exact ⟨n, S', Nat.le_refl _, e0.trans e1, hR1⟩
  rw [if_neg h34] at e0
  by_cases h35 : x = 35
  · rw [if_pos h35] at e0
    obtain ⟨S', e1, hR1⟩ := zw_tape L xs i n S hL hi hR
    exact ⟨n, S', Nat.le_refl _, e0.trans e1, hR1⟩
  rw [if_neg h35] at e0
  by_cases h36 : x = 36
  · rw [if_pos h36] at e0
    obtain ⟨S', e1, hR1⟩ := zw_item L xs i n S hL hi hR
    exact ⟨n, S', Nat.le_refl _, e0.trans e1, hR1⟩
  rw [if_neg h36] at e0
  by_cases h37 : x = 37
  · rw [if_pos h37] at e0
    obtain ⟨S', e1, hR1⟩ := zw_read L xs i n S hL hi hR
    exact ⟨n, S', Nat.le_refl _, e0.trans e1, hR1⟩
  rw [if_neg h37] at e0
  by_cases h38 : x = 38
  · rw [if_pos h38] at e0
    obtain ⟨S', e1, hR1⟩ := zw_shift L xs i n S hL hi hR
    exact ⟨n, S', Nat.le_refl _, e0.trans e1, hR1⟩
  rw [if_neg h38] at e0
  exact ⟨n + 1, S, Nat.le_succ _, e0, hR⟩
theorem zw_loop (L : Nat) (xs : Nat → Int32) (hL : L ≤ 3072) : ∀ (m i n : Nat) (S : z_Mem), L < i + 6 * (m + 1) → i ≤ 3072 → 3 * (m + 1) ≤ n → z_RL S → ∃ S', z_lrun (some (L, xs)) (z_exe z_mt true 40) n 18 [some (.inr (.inr (90, 0))), some (.inr (.inr (11, 0))), some (.inr (.inr (12, 0))), some (.inl (nI i))] [] S = some (some (.inl 1), S') ∧ z_RL S' := by
  intro m
  induction m with
  | zero =>
    intro i n S hm hi hn hR
    obtain ⟨n, rfl⟩ : ∃ n', n = n' + 1 := ⟨n - 1, by omega⟩
    refine ⟨S, ?_, hR⟩
    rw [ze_law_18, if_pos (by rw [z_sub6 hL (by omega)]; omega)]
  | succ m ih =>
    intro i n S hm hi hn hR
    by_cases h : L < i + 6
    · obtain ⟨n, rfl⟩ : ∃ n', n = n' + 1 := ⟨n - 1, by omega⟩
      refine ⟨S, ?_, hR⟩
      rw [ze_law_18, if_pos (by rw [z_sub6 hL (by omega)]; omega)]
    · obtain ⟨n, rfl⟩ : ∃ n', n = n' + 1 + 1 := ⟨n - 1 - 1, by omega⟩
      obtain ⟨N, S1, hN, e1, hR1⟩ := zw_step L xs i n S hL (by omega) hR
      obtain ⟨N, rfl⟩ : ∃ n', N = n' + 1 := ⟨N - 1, by omega⟩
      obtain ⟨S2, e2, hR2⟩ := ih (i + 6) N S1 (by omega) (by omega) (by omega) hR1
      refine ⟨S2, ?_, hR2⟩
      rw [e1, ze_law_1430]
      try dsimp only
      rw [show nI i + (6 : Int32) = nI (i + 6) from nI_add i 6]
      exact e2
/-! ===== what the constructors leave ===== -/
theorem z_f0 {S : z_Mem} (hF : z_chkF S = true) {t i k : Nat} {v : Int32} (h : z_F0.any (fun q => Nat.beq q.1 t && (Nat.beq q.2.1 i && (Nat.beq q.2.2.1 k && decide (q.2.2.2 = v)))) = true) : S.1 t i k = v := by
  obtain ⟨q, hq, h2⟩ := List.any_eq_true.mp h
  rw [Bool.and_eq_true, Bool.and_eq_true, Bool.and_eq_true] at h2
  obtain ⟨a, b, c, d⟩ := h2
  have k := List.all_eq_true.mp hF q hq
  have k := of_decide_eq_true k
  rw [Nat.eq_of_beq_eq_true a, Nat.eq_of_beq_eq_true b, Nat.eq_of_beq_eq_true c] at k
  rw [k]
  exact of_decide_eq_true d
theorem z_RL_init {S : z_Mem} (hF : z_chkF S = true) (hG : (S.2.2.1 9 0 3).2 = 6) (h176 : S.2.2.2 = 176) : z_RL S := by
  have six : ∀ {P : Nat → Prop}, P 0 → P 1 → P 2 → P 3 → P 4 → P 5 → ∀ b, b < 6 → P b := fun h0 h1 h2 h3 h4 h5 b hb => match b, hb with
    | 0, _ => h0
    | 1, _ => h1
    | 2, _ => h2
    | 3, _ => h3
    | 4, _ => h4
    | 5, _ => h5
    | n + 6, h => absurd h (by omega)
  have hlet : z_let S := by
    intro k hk
    match k, hk with
    | 0, _ => exact z_f0 hF (by decide +kernel)
    | 1, _ => exact z_f0 hF (by decide +kernel)
    | 2, _ => exact z_f0 hF (by decide +kernel)
    | 3, _ => exact z_f0 hF (by decide +kernel)
    | 4, _ => exact z_f0 hF (by decide +kernel)
    | 5, _ => exact z_f0 hF (by decide +kernel)
    | 6, _ => exact z_f0 hF (by decide +kernel)
    | 7, _ => exact z_f0 hF (by decide +kernel)
    | 8, _ => exact z_f0 hF (by decide +kernel)
    | 9, _ => exact z_f0 hF (by decide +kernel)
    | 10, _ => exact z_f0 hF (by decide +kernel)
    | 11, _ => exact z_f0 hF (by decide +kernel)
    | 12, _ => exact z_f0 hF (by decide +kernel)
    | 13, _ => exact z_f0 hF (by decide +kernel)
    | n + 14, h => exact absurd h (by omega)
  refine ⟨0, ⟨z_f0 hF (by decide +kernel), z_f0 hF (by decide +kernel), by omega, z_f0 hF (by decide +kernel), h176, hlet⟩, ⟨0, 0, 6, 0, 10, 3, [], fun _ => (0, (0, (0, (0, (false, fun _ => 0))))), fun _ => 0, fun _ => 0, ?_, ?_⟩, ⟨?_, Or.inl (z_f0 hF (by decide +kernel)), ?_⟩, ⟨0, by omega, z_f0 hF (by decide +kernel), z_f0 hF (by decide +kernel), fun i hi => by omega⟩, ?_, ⟨0, by omega, z_f0 hF (by decide +kernel), z_f0 hF (by decide +kernel), fun k hk => by omega⟩⟩
  · refine ⟨⟨⟨by omega, by omega, by decide, fun c hc => absurd hc List.not_mem_nil, by omega⟩, Or.inr rfl⟩, ⟨⟨z_f0 hF (by decide +kernel), z_f0 hF (by decide +kernel), z_f0 hF (by decide +kernel), z_f0 hF (by decide +kernel), hG, ⟨⟨z_f0 hF (by decide +kernel), z_f0 hF (by decide +kernel)⟩, ⟨z_f0 hF (by decide +kernel), by decide, fun k x q => ?_⟩, z_f0 hF (by decide +kernel), by decide, fun k x q => ?_⟩, ?_⟩, ⟨z_f0 hF (by decide +kernel), z_f0 hF (by decide +kernel), z_f0 hF (by decide +kernel), z_f0 hF (by decide +kernel), Or.inl ⟨z_f0 hF (by decide +kernel), rfl, rfl⟩, fun j c hj => by simp at hj⟩⟩, fun b hb => by omega⟩
    · have q : ([] : List Int32)[k]? = some x := q
      simp at q
    · have q : ([] : List Int32)[k]? = some x := q
      simp at q
    · exact six (z_f0 hF (by decide +kernel)) (z_f0 hF (by decide +kernel)) (z_f0 hF (by decide +kernel)) (z_f0 hF (by decide +kernel)) (z_f0 hF (by decide +kernel)) (z_f0 hF (by decide +kernel))
  · exact ⟨⟨0, by omega, z_f0 hF (by decide +kernel), z_f0 hF (by decide +kernel), fun i hi => by omega⟩, ⟨0, by omega, z_f0 hF (by decide +kernel), z_f0 hF (by decide +kernel), fun i hi => by omega⟩, ⟨0, by omega, z_f0 hF (by decide +kernel), z_f0 hF (by decide +kernel), fun i hi => by omega⟩⟩
  · have p1 : S.1 11 0 4 = 0 := z_f0 hF (by decide +kernel)
    have p2 : S.1 12 0 53 = 0 := z_f0 hF (by decide +kernel)
    rw [p1, p2]
  · exact six (z_f0 hF (by decide +kernel)) (z_f0 hF (by decide +kernel)) (z_f0 hF (by decide +kernel)) (z_f0 hF (by decide +kernel)) (z_f0 hF (by decide +kernel)) (z_f0 hF (by decide +kernel))
  · have tp : ∀ i, S.1 10 i 0 = -1 → S.1 81 0 i = -1 → S.1 10 i 1 = 0 → S.1 82 0 i = 0 → (S.1 10 i 0 = S.1 81 0 i ∧ S.1 10 i 1 = S.1 82 0 i ∧ ∃ len : Nat, len ≤ 60 ∧ S.1 10 i 1 = nI len ∧ ((S.1 10 i 0 = -1 ∧ len = 0) ∨ ∃ s : Nat, s ≤ 4 ∧ S.1 10 i 0 = nI s) ∧ ∀ k, k < len → S.2.1 34 i k = S.2.1 83 0 (60 * i + k)) := fun i h1 h2 h3 h4 => ⟨h1.trans h2.symm, h3.trans h4.symm, 0, by omega, h3, Or.inl ⟨h1, rfl⟩, fun k hk => by omega⟩
    exact six (tp 0 (z_f0 hF (by decide +kernel)) (z_f0 hF (by decide +kernel)) (z_f0 hF (by decide +kernel)) (z_f0 hF (by decide +kernel))) (tp 1 (z_f0 hF (by decide +kernel)) (z_f0 hF (by decide +kernel)) (z_f0 hF (by decide +kernel)) (z_f0 hF (by decide +kernel))) (tp 2 (z_f0 hF (by decide +kernel)) (z_f0 hF (by decide +kernel)) (z_f0 hF (by decide +kernel)) (z_f0 hF (by decide +kernel))) (tp 3 (z_f0 hF (by decide +kernel)) (z_f0 hF (by decide +kernel)) (z_f0 hF (by decide +kernel)) (z_f0 hF (by decide +kernel))) (tp 4 (z_f0 hF (by decide +kernel)) (z_f0 hF (by decide +kernel)) (z_f0 hF (by decide +kernel)) (z_f0 hF (by decide +kernel))) (tp 5 (z_f0 hF (by decide +kernel)) (z_f0 hF (by decide +kernel)) (z_f0 hF (by decide +kernel)) (z_f0 hF (by decide +kernel)))
theorem z_g0 {S : z_Mem} (hG : z_chkG S = true) : (S.2.2.1 9 0 3).2 = 6 := by
  have h := List.all_eq_true.mp hG (9, 0, 3, 4, 6) (by decide)
  have h : (Nat.beq (S.2.2.1 9 0 3).1 4 && Nat.beq (S.2.2.1 9 0 3).2 6) = true := h
  rw [Bool.and_eq_true] at h
  exact Nat.eq_of_beq_eq_true h.2
theorem z_RL_S1 : z_RL z_S1 := by
  obtain ⟨-, h1, -, -, h2, h3⟩ := z_R1_all
  exact z_RL_init h2 (z_g0 h3) h1
theorem z_pure2 : z_PURE2 := by
  intro L xs hL
  obtain ⟨S', e, hR⟩ := zw_loop L xs hL 512 0 2000 z_S1 (by omega) (by omega) (by omega) z_RL_S1
  refine ⟨2000, S', e, ?_⟩
  obtain ⟨hts, hN, -⟩ := hR
  exact hN.2.2.2.2.1
