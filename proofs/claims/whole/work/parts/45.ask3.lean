/-! ===== fractions ===== -/
theorem l_gcdC (ex : z_Ex) (S : z_Mem) : ∀ (B l g i N : Nat), l ≤ B → l + i ≤ 63 → g ≤ 100000 → l < N → zr_X11_commonDivisor ex N 7 [none, none, some (.inl (nI g)), some (.inl (nI l)), some (.inl (nI i)), none] [] S = some (some (.inl (nI (Nat.gcd g l))), S) := by
  intro B
  induction B with
  | zero =>
    intro l g i N hB hi hg hN
    obtain ⟨N, rfl⟩ : ∃ N', N = N' + 1 := ⟨N - 1, by omega⟩
    obtain rfl : l = 0 := by omega
    rw [ze_X11_commonDivisor_7, if_neg (by rw [show (64 : Int32) = nI 64 from rfl, z_le (by omega) (by omega)]; omega), if_pos (by decide), Nat.gcd_zero_right]
  | succ B ih =>
    intro l g i N hB hi hg hN
    obtain ⟨N, rfl⟩ : ∃ N', N = N' + 1 := ⟨N - 1, by omega⟩
    by_cases h0 : l = 0
    · subst h0
      rw [ze_X11_commonDivisor_7, if_neg (by rw [show (64 : Int32) = nI 64 from rfl, z_le (by omega) (by omega)]; omega), if_pos (by decide), Nat.gcd_zero_right]
    · have hm : g % l < l := Nat.mod_lt _ (by omega)
      rw [ze_X11_commonDivisor_7, if_neg (by rw [show (64 : Int32) = nI 64 from rfl, z_le (by omega) (by omega)]; omega), if_neg (nI_nle (by omega) (by omega)), if_neg (nI_ne0 (by omega) (by omega))]
      try dsimp only
      rw [pk_rem (by omega) (by omega) (by omega), nI_1, ih (g % l) l (i + 1) N (by omega) (by omega) (by omega) (by omega), Nat.gcd_comm g l, Nat.gcd_rec l g, Nat.gcd_comm]
theorem s_gcdC (d a b : Nat) (S : z_Mem) (ha : a ≤ 1000) (hb : b ≤ 6) : z_exe z_mt true (d + 1) 122 [.inl (nI a), .inl (nI b)] S = some (some (.inl (nI (Nat.gcd a b))), S) := by
  have e : z_exe z_mt true (d + 1) 122 [.inl (nI a), .inl (nI b)] S = _ := (zx_X11_commonDivisor d S (nI a) (nI b)).trans (ze_X11_commonDivisor_0 _ _ _ _ _)
  rw [e]
  by_cases h : a ≤ 50
  · have k := l_gcdC (z_exe z_mt true d) S 50 a b 0 999999 h (by omega) (by omega) (by omega)
    rw [Nat.gcd_comm b a] at k
    exact k
  · have hm : b % a = b := Nat.mod_eq_of_lt (by omega)
    have e1 : zr_X11_commonDivisor (z_exe z_mt true d) (999998 + 1) 7 [none, none, some (.inl (nI b)), some (.inl (nI a)), some (.inl (nI 0)), none] [] S = _ := ze_X11_commonDivisor_7 _ _ _ _ _ _
    have k := l_gcdC (z_exe z_mt true d) S 50 b a 1 999998 (by omega) (by omega) (by omega) (by omega)
    rw [if_neg (by decide), if_neg (nI_nle (by omega) (by omega)), if_neg (nI_ne0 (by omega) (by omega))] at e1
    dsimp only at e1
    rw [pk_rem (by omega) (by omega) (by omega), hm, nI_1, k] at e1
    exact e1
theorem l_gcdM (ex : z_Ex) (S : z_Mem) : ∀ (B l g N : Nat), l ≤ B → B ≤ 1000 → g ≤ 100000 → l < N → zr_X12_divisor ex N 5 [none, none, none, some (.inl (nI g)), some (.inl (nI l)), none] [] S = some (some (.inl (nI (Nat.gcd g l))), S) := by
  intro B
  induction B with
  | zero =>
    intro l g N hB hB2 hg hN
    obtain ⟨N, rfl⟩ : ∃ N', N = N' + 1 := ⟨N - 1, by omega⟩
    obtain rfl : l = 0 := by omega
    rw [ze_X12_divisor_5, if_pos (by decide), Nat.gcd_zero_right]
  | succ B ih =>
    intro l g N hB hB2 hg hN
    obtain ⟨N, rfl⟩ : ∃ N', N = N' + 1 := ⟨N - 1, by omega⟩
    by_cases h0 : l = 0
    · subst h0
      rw [ze_X12_divisor_5, if_pos (by decide), Nat.gcd_zero_right]
    · have hm : g % l < l := Nat.mod_lt _ (by omega)
      have hne : ¬ nI l = 0 := nI_ne0 (by omega) (by omega)
      rw [ze_X12_divisor_5, if_neg hne, if_neg hne]
      try dsimp only
      rw [pk_rem (by omega) (by omega) (by omega), ih (g % l) l N (by omega) (by omega) (by omega) (by omega), Nat.gcd_comm g l, Nat.gcd_rec l g, Nat.gcd_comm]
/-- a over b in lowest terms: its upper or its lower part -/
def z_fr (a b : Nat) (part : Int32) : Int64 := if part = 0 then Int32.toInt64 (nI a / nI (Nat.gcd a b)) else Int32.toInt64 (nI b / nI (Nat.gcd a b))
theorem z_gcd_sm {a b : Nat} (hb : 0 < b) (hb6 : b ≤ 6) : 0 < Nat.gcd a b ∧ Nat.gcd a b ≤ 6 := ⟨Nat.gcd_pos_of_pos_right a hb, Nat.le_trans (Nat.le_of_dvd hb (Nat.gcd_dvd_right a b)) hb6⟩
theorem s_fracC (d a b : Nat) (part : Int32) (S : z_Mem) (ha : a ≤ 1000) (hb : 0 < b) (hb6 : b ≤ 6) : z_exe z_mt true (d + 2) 121 [.inl (nI a), .inl (nI b), .inl part] S = some (some (.inr (.inl (z_fr a b part))), S) := by
  have e : z_exe z_mt true (d + 2) 121 [.inl (nI a), .inl (nI b), .inl part] S = _ := (zx_X11_partOfFraction (d + 1) S (nI a) (nI b) part).trans (ze_X11_partOfFraction_0 _ _ _ _ _ _)
  obtain ⟨h1, h2⟩ := z_gcd_sm (a := a) hb hb6
  have hne : ¬ nI (Nat.gcd a b) = 0 := nI_ne0 h1 (by omega)
  have hp : 0 < nI (Nat.gcd a b) := by rw [show (0 : Int32) = nI 0 from rfl, nI_ltI (by omega) (by omega)]; exact h1
  rw [e, s_gcdC d a b S ha hb6, z_rI_s, if_pos hp, if_neg hne, if_neg hne]
  unfold z_fr
  by_cases q : part = 0
  · rw [if_pos q, if_pos q]
  · rw [if_neg q, if_neg q]
theorem s_fracM (d a b : Nat) (part : Int32) (S : z_Mem) (ha : a ≤ 1000) (hb : 0 < b) (hb6 : b ≤ 6) : z_exe z_mt true (d + 2) 199 [.inr (.inr (12, 0)), .inl (nI a), .inl (nI b), .inl part] S = some (some (.inr (.inl (z_fr a b part))), S) := by
  have e : z_exe z_mt true (d + 2) 199 [.inr (.inr (12, 0)), .inl (nI a), .inl (nI b), .inl part] S = _ := (zx_X12_lowest (d + 1) S 0 (nI a) (nI b) part).trans (ze_X12_lowest_0 _ _ _ _ _ _ _)
  have e2 : z_exe z_mt true (d + 1) 198 [.inr (.inr (12, 0)), .inl (nI a), .inl (nI b)] S = _ := (zx_X12_divisor d S 0 (nI a) (nI b)).trans (ze_X12_divisor_0 _ _ _ _ _ _)
  rw [l_gcdM (z_exe z_mt true d) S 6 b a 999999 hb6 (by omega) (by omega) (by omega)] at e2
  obtain ⟨h1, h2⟩ := z_gcd_sm (a := a) hb hb6
  have hne : ¬ nI (Nat.gcd a b) = 0 := nI_ne0 h1 (by omega)
  rw [e, e2, z_rI_s, if_neg hne, if_neg hne]
  unfold z_fr
  by_cases q : part = 0
  · rw [if_pos q, if_pos q]
  · rw [if_neg q, if_neg q]
/-! ===== wetness stays in its range ===== -/
theorem z_w1_le {H : z_H} {K : z_K} {ht : Int32} {hr k : Nat} (hk : k ≤ 99) : ∃ j : Nat, j ≤ k ∧ z_w1 H K ht hr (nI k) = nI j := by
  unfold z_w1
  cases K.2.2.2.2.1 with
  | true => exact ⟨k, Nat.le_refl _, rfl⟩
  | false =>
    have hd := z_mx_pos (z_dr K.2.1 K.2.2.1 (nI k) (z_mx (ht - 3 * K.2.2.2.1) + z_ext (z_Fc K.1 K.2.2.2.1 K.2.1 K.2.2.1 (nI k) (nI hr)) H 0) (z_mx (ht - 3 * K.2.2.2.1)) (nI hr) (K.2.2.2.2.2 (hr % 4)))
    show ∃ j : Nat, j ≤ k ∧ z_mx (nI k - z_dw H K K.2.2.2.1 ht hr (nI k)) = nI j
    have hd : 0 ≤ z_dw H K K.2.2.2.1 ht hr (nI k) := hd
    generalize z_dw H K K.2.2.2.1 ht hr (nI k) = y at hd
    obtain ⟨m, hm, rfl⟩ := nI_of (Int32.not_lt.mpr hd)
    unfold z_mx
    by_cases q : m < k
    · rw [pk_sub (by omega), if_pos (by rw [show (0 : Int32) = nI 0 from rfl, nI_ltI (by omega) (by omega)]; omega)]
      exact ⟨k - m, by omega, rfl⟩
    · rw [if_neg]
      · exact ⟨0, Nat.zero_le _, rfl⟩
      · intro z
        rw [Int32.lt_iff_toInt_lt, Int32.toInt_sub, nI_toInt (by omega), nI_toInt hm] at z
        have h0 : (0 : Int32).toInt = 0 := by decide
        rw [h0, Int.bmod_eq_of_le (by omega) (by omega)] at z
        omega
theorem z_wN_le {H : z_H} {K : z_K} : ∀ (m hr k : Nat) (ht : Int32), k ≤ 99 → ∃ j : Nat, j ≤ k ∧ z_wN H K m ht hr (nI k) = nI j
  | 0, _, k, _, _ => ⟨k, Nat.le_refl _, rfl⟩
  | m + 1, hr, k, ht, hk => by
    obtain ⟨j, hj, e⟩ := z_w1_le (H := H) (K := K) (ht := ht) (hr := hr) hk
    obtain ⟨j', hj', e'⟩ := z_wN_le (H := H) (K := K) m (hr + 1) j (z_mx (ht - z_last 2 H 1)) (by omega)
    refine ⟨j', by omega, ?_⟩
    show z_wN H K m _ (hr + 1) (z_w1 H K ht hr (nI k)) = _
    rw [e]
    exact e'
/-! ===== mean ===== -/
theorem l_meanC (ex : z_Ex) (h n n0 hr : Nat) (ht : Int32) (H : z_H) (K : Nat → z_K) (W C : Nat → Int32) (part x : Int32) (S : z_Mem) (hn : n ≤ 6) (hc : S.1 7 2 1 = nI n) (hR : z_Rc 2 h H n ht hr K W C S) : ∀ (m b N : Nat) (x : Int32), b + m = n → m < N →
    zr_X11_mean ex (N + 1) 41 [some (.inr (.inr (11, 0))), none, some (.inl part), some (.inl x), some (.inl (nI b))] [] S = z_rL (ex 121 [.inl (z_sg W b m x), .inl (S.1 7 0 1), .inl part] S) (fun r7 S6 => some (some (.inr (.inl r7)), S6)) := by
  intro m
  induction m with
  | zero =>
    intro b N x hb hN
    rw [ze_X11_mean_41, if_pos (by rw [hc, z_le (by omega) (by omega)]; omega)]
    rfl
  | succ m ih =>
    intro b N x hb hN
    obtain ⟨N, rfl⟩ : ∃ N', N = N' + 1 := ⟨N - 1, by omega⟩
    obtain ⟨o1, o2, o3⟩ := hR.2.2.2.2 b (by omega)
    rw [ze_X11_mean_41, if_neg (by rw [hc, z_le (by omega) (by omega)]; omega), z_oob_n (k := b) (by omega) (by omega), z_cl (k := b) (by omega)]
    rw [z_cond_f]
    dsimp only
    rw [nI_1, o2]
    exact ih (b + 1) N (x + W b) (by omega) (by omega)
def z_NOv : z_AV := .inr (.inl (Int64.ofNat 9223372036854775808))
theorem c_mean (S : z_Mem) (hR : z_RL S) (v1 v2 : Int32) : z_both 99 201 [.inl v1, .inl v2] S := by
  obtain ⟨hts, hN, ⟨n, hr, h, c0, ht, wd, H, K, W, C, hA, hB⟩, hI, hT, hP, hAc⟩ := id hR
  obtain ⟨⟨hn, hhr, hwd, hH, hts6⟩, hh6⟩ := hA.1
  have hC := fun b hb => (hA.2.2 b hb).1.2.2
  have c7 : S.1 7 0 1 = nI n := hA.2.1.1.1
  have c12 : S.1 12 0 0 = nI n := hA.2.1.2.1
  by_cases hv : (0 ≤ v1 ∧ v1 ≤ 60) ∧ (0 ≤ v2 ∧ v2 ≤ 1) ∧ 0 < n
  · obtain ⟨hv1, hv2, hn0⟩ := hv
    obtain ⟨M, hM, rfl⟩ := z_rg (n := 60) (by omega) hv1
    obtain ⟨s, hs, es⟩ := z_sg_nI (f := fun b => z_wN H (K b) M ht hr (W b)) (c := 99) n 0 0 (fun k _ hk => by
      obtain ⟨w, hw, e⟩ := (hA.2.2 k (by omega)).1.2.1
      obtain ⟨j, hj, e'⟩ := z_wN_le (H := H) (K := K k) M hr w ht hw
      exact ⟨j, by omega, by rw [e]; exact e'⟩)
    have hs6 : s ≤ 594 := by omega
    have hne : ¬ nI n = 0 := nI_ne0 hn0 (by omega)
    have hlt : 0 < nI n := by rw [show (0 : Int32) = nI 0 from rfl, nI_ltI (by omega) (by omega)]; exact hn0
    refine z_ask (v := .inr (.inl (z_fr s n v2))) hR ?_ (fun S' hf => ?_)
    · have e : z_exe z_mt true 40 99 [.inr (.inr (11, 0)), .inl (nI M), .inl v2] S = _ := (zx_X11_mean 39 S 0 (nI M) v2).trans (ze_X11_mean_0 _ _ _ _ _ _)
      obtain ⟨q, S1, e1, rfl, k1, k2, k3⟩ := s_tryHours 32 M hts n hr h c0 ht wd H K W C S hA hM
      refine ⟨S1, ?_, z_Ptr_sk k3⟩
      have k := l_meanC (z_exe z_mt true 39) h n n _ _ H K _ _ v2 0 S1 hn k2 k1 n 0 999998 (nI 0) (by omega) (by omega)
      rw [es, k3.i (t := 7) (i := 0) (k := 1) (by unfold z_Ptr; omega), c7, s_fracC 37 s n v2 S1 (by omega) hn0 hn, z_rL_s] at k
      rw [e, s_outside, z_rI_s, z_b1_F (fun z => z hv1), if_pos rfl, s_outside, z_rI_s, z_b1_F (fun z => z hv2), if_pos rfl, c7, if_pos hlt, e1, z_rV_s]
      exact k
    · have hA' := hA.sk hf
      have hN' := hN.sk hf
      have hB' := hB.sk hf
      have c7' : S'.1 7 0 1 = nI n := hA'.2.1.1.1
      have c12' : S'.1 12 0 0 = nI n := hA'.2.1.2.1
      have e : z_exe z_mt true 40 201 [.inr (.inr (12, 0)), .inl (nI M), .inl v2] S' = _ := (zx_X12_mean 39 S' 0 (nI M) v2).trans (ze_X12_mean_0 _ _ _ _ _ _)
      obtain ⟨S1, S2, S3, e1, e2, hR2, hg, e3, hf3⟩ := s_mtry 32 M c0 n hr H ht K W C S' hH hn hM hhr hN'.2.2.2.1 hA'.Rm hC
      refine ⟨S3, ?_, z_Psc_sk hf3⟩
      rw [e, s_isHours, z_rI_s, z_b1_T hv1, if_neg z_01n, s_in, z_rI_s, z_b1_T hv2, if_neg z_01n, c12', if_neg hne, e1, z_rV_s, e2, z_rV_s, s_wetAll 37 c0 n _ _ H K _ _ S2 hn hR2, z_rI_s, e3, z_rV_s, hf3.i (t := 12) (i := 0) (k := 0) (by unfold z_Psc; omega), c12', show (0 : Int32) = nI 0 from rfl, es, s_fracM 37 s n v2 S3 (by omega) hn0 hn, z_rL_s]
  · refine z_ask (v := z_NOv) hR ⟨S, ?_, z_fx.rf⟩ (fun S' hf => ⟨S', ?_, z_fx.rf⟩)
    · have e : z_exe z_mt true 40 99 [.inr (.inr (11, 0)), .inl v1, .inl v2] S = _ := (zx_X11_mean 39 S 0 v1 v2).trans (ze_X11_mean_0 _ _ _ _ _ _)
      rw [e, s_outside, z_rI_s]
      by_cases q1 : 0 ≤ v1 ∧ v1 ≤ 60
      · rw [z_b1_F (fun z => z q1), if_pos rfl, s_outside, z_rI_s]
        by_cases q2 : 0 ≤ v2 ∧ v2 ≤ 1
        · have : n = 0 := by
            by_cases q3 : 0 < n
            · exact absurd ⟨q1, q2, q3⟩ hv
            · omega
          rw [z_b1_F (fun z => z q2), if_pos rfl, c7, this, if_neg (by decide)]
          rfl
        · rw [z_b1_T q2, if_neg z_01n]; rfl
      · rw [z_b1_T q1, if_neg z_01n]; rfl
    · have hA' := hA.sk hf
      have hN' := hN.sk hf
      have hB' := hB.sk hf
      have c7' : S'.1 7 0 1 = nI n := hA'.2.1.1.1
      have c12' : S'.1 12 0 0 = nI n := hA'.2.1.2.1
      have e : z_exe z_mt true 40 201 [.inr (.inr (12, 0)), .inl v1, .inl v2] S' = _ := (zx_X12_mean 39 S' 0 v1 v2).trans (ze_X12_mean_0 _ _ _ _ _ _)
      rw [e, s_isHours, z_rI_s]
      by_cases q1 : 0 ≤ v1 ∧ v1 ≤ 60
      · rw [z_b1_T q1, if_neg z_01n, s_in, z_rI_s]
        by_cases q2 : 0 ≤ v2 ∧ v2 ≤ 1
        · have : n = 0 := by
            by_cases q3 : 0 < n
            · exact absurd ⟨q1, q2, q3⟩ hv
            · omega
          rw [z_b1_T q2, if_neg z_01n, c12', this, if_pos (by decide)]
          rfl
        · rw [z_b1_F q2, if_pos rfl]; rfl
      · rw [z_b1_F q1, if_pos rfl]; rfl
