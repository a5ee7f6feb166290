/-! ===== logs, the call ===== -/
theorem z_sok_lgs {n : Nat} {H : z_H} {v : Int32} : ∀ (m k B : Nat) (s : z_St), z_sok n B s → z_sok n (B + m) (z_lgs H v k m s)
  | 0, _, _, _, h => h
  | m + 1, k, B, s, h => by
    show z_sok n (B + (m + 1)) (z_lgs H v (k + 1) m (z_sH H (cond (z_lb v k) (z_sB H s) s)))
    rw [show B + (m + 1) = B + 1 + m by omega]
    cases z_lb v k with
    | true => exact z_sok_lgs m (k + 1) (B + 1) _ (z_sok_H (z_sok_B h))
    | false => exact z_sok_lgs m (k + 1) (B + 1) _ (z_sok_H h)
theorem z_lw_sm {n M B : Nat} {H : z_H} {s : z_St} {v : Int32} (hn : n ≤ 6) (h : z_sok n B s) : ∃ j : Nat, j ≤ 594 ∧ z_lw H n M s v = nI j := by
  have hs := z_sok_lgs (H := H) (v := v) M 0 B s h
  obtain ⟨j, hj, e⟩ := z_sg_nI (f := z_fw (z_lgs H v 0 M s).2.2.2.1 (z_lgs H v 0 M s).2.2.2.2.1) (c := 99) n 0 0 (fun k _ hk => by
    obtain ⟨w, hw, e⟩ := hs.2.1 k (by omega)
    unfold z_fw
    cases (z_lgs H v 0 M s).2.2.2.1 k |>.2.2.2.2.1 with
    | true => exact ⟨0, by omega, rfl⟩
    | false => exact ⟨w, hw, e⟩)
  exact ⟨j, by omega, e⟩
theorem s_wetByLogs (d M : Nat) (v : Int32) {hts n hr h c0 : Nat} {ht wd : Int32} {H : z_H} {K : Nat → z_K} {W C : Nat → Int32} {S : z_Mem} (hA : z_LA hts n hr h c0 ht wd H K W C S) (hM : M ≤ 6) :
    ∃ S', z_exe z_mt true (d + 6) 118 [.inr (.inr (11, 0)), .inl (nI M), .inl v] S = some (some (.inl (z_lw H n M (z_sS ht hr wd K W C) v)), S') ∧ z_fx z_Sk S S' := by
  have e : z_exe z_mt true (d + 6) 118 [.inr (.inr (11, 0)), .inl (nI M), .inl v] S = _ := (zx_X11_wetByLogs (d + 5) S 0 (nI M) v).trans (ze_X11_wetByLogs_0 _ _ _ _ _ _)
  obtain ⟨S1, e1, T1, f1⟩ := t_cC (d + 3) hA
  obtain ⟨S2, e2, f2⟩ := l_wetByLogs d h n M H v hA.1.1.2.2.2.1 hA.1.1.1 hM M 0 999999 9999 (z_sS ht hr wd K W C) S1 (by omega) (by omega) hA.sok (by omega) T1
  rw [e, e1, z_rV_s]
  exact ⟨S2, e2, z_Ptr_sk (f1.tr f2)⟩
theorem s_wetStoked (d M : Nat) (v : Int32) {hts n hr h c0 : Nat} {ht wd : Int32} {H : z_H} {K : Nat → z_K} {W C : Nat → Int32} {S : z_Mem} (hA : z_LA hts n hr h c0 ht wd H K W C S) (h29 : S.1 12 0 29 = 9999) (hM : M ≤ 6) :
    ∃ S', z_exe z_mt true (d + 7) 191 [.inr (.inr (12, 0)), .inl v, .inl (nI M)] S = some (some (.inl (z_lw H n M (z_sS ht hr wd K W C) v)), S') ∧ z_fx z_Sk S S' := by
  have e : z_exe z_mt true (d + 7) 191 [.inr (.inr (12, 0)), .inl v, .inl (nI M)] S = _ := (zx_X12_wetStoked (d + 6) S 0 v (nI M)).trans (ze_X12_wetStoked_0 _ _ _ _ _ _)
  obtain ⟨S1, e1, hs, T1⟩ := t_mS (d + 5) hA
  obtain ⟨S2, e2, f2⟩ := l_wetStoked d c0 n M H v hA.1.1.2.2.2.1 hA.1.1.1 hM S S1 h29 hs M 0 999999 9999 (z_sS ht hr wd K W C) S1 (by omega) (by omega) hA.sok (by omega) z_fx.rf T1
  rw [e, e1, z_rV_s]
  exact ⟨S2, e2, z_Psc_sk f2⟩
theorem z_tri (a b : Int32) : a < b ∨ a = b ∨ b < a := by
  by_cases q : a < b
  · exact Or.inl q
  · by_cases e : a = b
    · exact Or.inr (Or.inl e)
    · exact Or.inr (Or.inr (Int32.lt_of_le_of_ne (Int32.not_lt.mp q) (fun z => e z.symm)))
theorem l_logsC (M : Nat) (v2 : Int32) {hts n hr h c0 : Nat} {ht wd : Int32} {H : z_H} {K : Nat → z_K} {W C : Nat → Int32} (hM : M ≤ 6) : ∀ (m a N : Nat) (r : Nat × Int32) (S : z_Mem), a + m = 2 ^ M → m < N → r.1 < 64 → z_LA hts n hr h c0 ht wd H K W C S →
    ∃ S', zr_X11_logs (z_exe z_mt true 39) N 37 [some (.inr (.inr (11, 0))), some (.inl (nI M)), some (.inl v2), some (.inl (nI r.1)), some (.inl r.2), some (.inl (nI a)), none, none] [] S = some (some (.inl (if v2 = 0 then nI (z_lbest (fun a => z_lw H n M (z_sS ht hr wd K W C) (nI a)) wd a m r).1 else (z_lbest (fun a => z_lw H n M (z_sS ht hr wd K W C) (nI a)) wd a m r).2)), S') ∧ z_fx z_Sk S S' := by
  have h2 : 2 ^ M ≤ 64 := Nat.pow_le_pow_right (by decide) hM
  intro m
  induction m with
  | zero =>
    intro a N r S ha hN hr6 hA
    obtain ⟨N, rfl⟩ : ∃ N', N = N' + 1 := ⟨N - 1, by omega⟩
    rw [ze_X11_logs_37, z_lshl M (by omega), if_pos (by rw [nI_leI (by omega) (by omega)]; omega)]
    refine ⟨S, ?_, z_fx.rf⟩
    by_cases q : v2 = 0
    · rw [if_pos q, if_pos q]; rfl
    · rw [if_neg q, if_neg q]; rfl
  | succ m ih =>
    intro a N r S ha hN hr6 hA
    obtain ⟨N, rfl⟩ : ∃ N', N = N' + 1 := ⟨N - 1, by omega⟩
    have hl : z_lbest (fun a => z_lw H n M (z_sS ht hr wd K W C) (nI a)) wd a (m + 1) r = z_lbest (fun a => z_lw H n M (z_sS ht hr wd K W C) (nI a)) wd (a + 1) m (if z_bc (nI a) ≤ wd then (if z_lw H n M (z_sS ht hr wd K W C) (nI a) < r.2 then (a, z_lw H n M (z_sS ht hr wd K W C) (nI a)) else if z_lw H n M (z_sS ht hr wd K W C) (nI a) = r.2 then (if z_bc (nI a) < z_bc (nI r.1) then (a, z_lw H n M (z_sS ht hr wd K W C) (nI a)) else r) else r) else r) := rfl
    rw [hl, ze_X11_logs_37, z_lshl M (by omega), if_neg (by rw [nI_leI (by omega) (by omega)]; omega), s_bitCount 38 a S (by omega), z_rI_s, hA.2.1.1.2.2.1]
    by_cases q : wd < z_bc (nI a)
    · rw [if_pos q, if_neg (Int32.not_le.mpr q)]
      dsimp only
      rw [nI_1]
      exact ih (a + 1) N r S (by omega) (by omega) hr6 hA
    · rw [if_neg q, if_pos (Int32.not_lt.mp q)]
      obtain ⟨S1, e1, f1⟩ := s_wetByLogs 33 M (nI a) hA hM
      have hA1 := hA.sk f1
      rw [e1, z_rI_s]
      by_cases y : z_lw H n M (z_sS ht hr wd K W C) (nI a) < r.2
      · rw [if_pos y, if_pos y]
        dsimp only
        rw [nI_1]
        obtain ⟨S2, e2, f2⟩ := ih (a + 1) N (a, z_lw H n M (z_sS ht hr wd K W C) (nI a)) S1 (by omega) (by omega) (by show a < 64; omega) hA1
        exact ⟨S2, e2, f1.tr f2⟩
      · rw [if_neg y, if_neg y]
        by_cases z : z_lw H n M (z_sS ht hr wd K W C) (nI a) = r.2
        · rw [if_pos z, if_pos z, s_bitCount 38 r.1 S1 hr6, z_rI_s]
          by_cases x : z_bc (nI a) < z_bc (nI r.1)
          · rw [if_neg (Int32.not_le.mpr x), if_pos x]
            dsimp only
            rw [nI_1]
            obtain ⟨S2, e2, f2⟩ := ih (a + 1) N (a, z_lw H n M (z_sS ht hr wd K W C) (nI a)) S1 (by omega) (by omega) (by show a < 64; omega) hA1
            exact ⟨S2, e2, f1.tr f2⟩
          · rw [if_pos (Int32.not_lt.mp x), if_neg x]
            dsimp only
            rw [nI_1]
            obtain ⟨S2, e2, f2⟩ := ih (a + 1) N r S1 (by omega) (by omega) hr6 hA1
            exact ⟨S2, e2, f1.tr f2⟩
        · rw [if_neg z, if_neg z]
          dsimp only
          rw [nI_1]
          obtain ⟨S2, e2, f2⟩ := ih (a + 1) N r S1 (by omega) (by omega) hr6 hA1
          exact ⟨S2, e2, f1.tr f2⟩
theorem l_logsM (M : Nat) (v2 : Int32) {hts n hr h c0 : Nat} {ht wd : Int32} {H : z_H} {K : Nat → z_K} {W C : Nat → Int32} (hM : M ≤ 6) : ∀ (m a N : Nat) (r : Nat × Int32) (S : z_Mem), a + m = 2 ^ M → m < N → r.1 < 64 → S.1 12 0 29 = 9999 → z_LA hts n hr h c0 ht wd H K W C S →
    ∃ S', zr_X12_logs (z_exe z_mt true 39) N 36 [some (.inr (.inr (12, 0))), some (.inl (nI M)), some (.inl v2), some (.inl (nI r.1)), some (.inl r.2), some (.inl (nI a)), none] [] S = some (some (.inl (if v2 = 0 then nI (z_lbest (fun a => z_lw H n M (z_sS ht hr wd K W C) (nI a)) wd a m r).1 else (z_lbest (fun a => z_lw H n M (z_sS ht hr wd K W C) (nI a)) wd a m r).2)), S') ∧ z_fx z_Sk S S' := by
  have h2 : 2 ^ M ≤ 64 := Nat.pow_le_pow_right (by decide) hM
  intro m
  induction m with
  | zero =>
    intro a N r S ha hN hr6 h29 hA
    obtain ⟨N, rfl⟩ : ∃ N', N = N' + 1 := ⟨N - 1, by omega⟩
    rw [ze_X12_logs_36, z_lshl M (by omega), if_pos (by rw [nI_leI (by omega) (by omega)]; omega)]
    refine ⟨S, ?_, z_fx.rf⟩
    by_cases q : v2 = 0
    · rw [if_pos q, if_pos q]; rfl
    · rw [if_neg q, if_neg q]; rfl
  | succ m ih =>
    intro a N r S ha hN hr6 h29 hA
    obtain ⟨N, rfl⟩ : ∃ N', N = N' + 1 := ⟨N - 1, by omega⟩
    have hl : z_lbest (fun a => z_lw H n M (z_sS ht hr wd K W C) (nI a)) wd a (m + 1) r = z_lbest (fun a => z_lw H n M (z_sS ht hr wd K W C) (nI a)) wd (a + 1) m (if z_bc (nI a) ≤ wd then (if z_lw H n M (z_sS ht hr wd K W C) (nI a) < r.2 then (a, z_lw H n M (z_sS ht hr wd K W C) (nI a)) else if z_lw H n M (z_sS ht hr wd K W C) (nI a) = r.2 then (if z_bc (nI a) < z_bc (nI r.1) then (a, z_lw H n M (z_sS ht hr wd K W C) (nI a)) else r) else r) else r) := rfl
    have bits : ∀ (v : Int32) (S : z_Mem), z_exe z_mt true 39 128 [.inr (.inr (12, 0)), .inl v] S = some (some (.inl (z_bc v)), S) := fun v S => s_bits 37 v S
    rw [hl, ze_X12_logs_36, z_lshl M (by omega), if_neg (by rw [nI_leI (by omega) (by omega)]; omega), bits, z_rI_s, hA.2.1.2.2.2.1]
    by_cases q : z_bc (nI a) ≤ wd
    · rw [if_pos q, if_pos q]
      obtain ⟨S1, e1, f1⟩ := s_wetStoked 32 M (nI a) hA h29 hM
      have hA1 := hA.sk f1
      have h291 : S1.1 12 0 29 = 9999 := by rw [f1.i (by unfold z_Sk; omega)]; exact h29
      rw [e1, z_rI_s]
      rcases z_tri (z_lw H n M (z_sS ht hr wd K W C) (nI a)) r.2 with y | y | y
      · rw [if_neg (show ¬ r.2 < z_lw H n M (z_sS ht hr wd K W C) (nI a) from Int32.not_lt.mpr (Int32.le_of_lt y)), if_neg (Int32.ne_of_lt y), if_pos y]
        dsimp only
        rw [nI_1]
        obtain ⟨S2, e2, f2⟩ := ih (a + 1) N (a, z_lw H n M (z_sS ht hr wd K W C) (nI a)) S1 (by omega) (by omega) (by show a < 64; omega) h291 hA1
        exact ⟨S2, e2, f1.tr f2⟩
      · have y1 : ¬ r.2 < z_lw H n M (z_sS ht hr wd K W C) (nI a) := by rw [y]; exact fun z => Int32.lt_irrefl z
        have y2 : ¬ z_lw H n M (z_sS ht hr wd K W C) (nI a) < r.2 := by rw [y]; exact fun z => Int32.lt_irrefl z
        rw [if_neg y1, if_pos y, bits, z_rI_s, bits, z_rI_s, if_neg y2, if_pos y]
        by_cases x : z_bc (nI a) < z_bc (nI r.1)
        · rw [if_pos x, if_pos x]
          dsimp only
          rw [nI_1]
          obtain ⟨S2, e2, f2⟩ := ih (a + 1) N (a, z_lw H n M (z_sS ht hr wd K W C) (nI a)) S1 (by omega) (by omega) (by show a < 64; omega) h291 hA1
          exact ⟨S2, e2, f1.tr f2⟩
        · rw [if_neg x, if_neg x]
          dsimp only
          rw [nI_1]
          obtain ⟨S2, e2, f2⟩ := ih (a + 1) N r S1 (by omega) (by omega) hr6 h291 hA1
          exact ⟨S2, e2, f1.tr f2⟩
      · have y2 : ¬ z_lw H n M (z_sS ht hr wd K W C) (nI a) < r.2 := Int32.not_lt.mpr (Int32.le_of_lt y)
        have y3 : ¬ z_lw H n M (z_sS ht hr wd K W C) (nI a) = r.2 := fun z => Int32.ne_of_lt y z.symm
        rw [if_pos y, if_neg y2, if_neg y3]
        dsimp only
        rw [nI_1]
        obtain ⟨S2, e2, f2⟩ := ih (a + 1) N r S1 (by omega) (by omega) hr6 h291 hA1
        exact ⟨S2, e2, f1.tr f2⟩
    · rw [if_neg q, if_neg q]
      dsimp only
      rw [nI_1]
      exact ih (a + 1) N r S (by omega) (by omega) hr6 h29 hA
theorem c_logs (S : z_Mem) (hR : z_RL S) (v1 v2 : Int32) : z_both 93 192 [.inl v1, .inl v2] S := by
  obtain ⟨hts, hN, ⟨n, hr, h, c0, ht, wd, H, K, W, C, hA, hB⟩, hI, hT, hP, hAc⟩ := id hR
  obtain ⟨⟨hn, hhr, hwd, hH, hts6⟩, hh6⟩ := hA.1
  have hC := fun b hb => (hA.2.2 b hb).1.2.2
  have c7 : S.1 7 0 1 = nI n := hA.2.1.1.1
  have c12 : S.1 12 0 0 = nI n := hA.2.1.2.1
  by_cases h2 : 0 ≤ v2 ∧ v2 ≤ 1
  · by_cases h1 : 1 ≤ v1 ∧ v1 ≤ 6
    · obtain ⟨M, hM, rfl⟩ := z_rg (n := 6) (by omega) ⟨Int32.le_trans (by decide) h1.1, h1.2⟩
      have h0 := nI_eq (a := 1) (b := 0) (by omega) (by omega)
      have hM1 : 1 ≤ M := by
        have := h1.1
        rw [show (1 : Int32) = nI 1 from rfl, nI_leI (by omega) (by omega)] at this
        exact this
      have hpow : 0 < 2 ^ M := Nat.two_pow_pos M
      obtain ⟨j, hj, ej⟩ := z_lw_sm (M := M) (H := H) (v := nI 0) hn hA.sok
      have hstart : z_lbest (fun a => z_lw H n M (z_sS ht hr wd K W C) (nI a)) wd 0 (2 ^ M) (0, 2000000000) = z_lbest (fun a => z_lw H n M (z_sS ht hr wd K W C) (nI a)) wd 1 (2 ^ M - 1) (0, z_lw H n M (z_sS ht hr wd K W C) (nI 0)) := by
        rw [show 2 ^ M = (2 ^ M - 1) + 1 by omega]
        show z_lbest _ wd (0 + 1) (2 ^ M - 1) (if z_bc (nI 0) ≤ wd then (if z_lw H n M (z_sS ht hr wd K W C) (nI 0) < 2000000000 then (0, z_lw H n M (z_sS ht hr wd K W C) (nI 0)) else _) else _) = _
        rw [if_pos (Int32.le_trans (by decide) hwd), if_pos (by rw [ej, show (2000000000 : Int32) = nI 2000000000 from rfl, nI_ltI (by omega) (by omega)]; omega)]
        rfl
      refine z_ask (v := .inl (if v2 = 0 then nI (z_lbest (fun a => z_lw H n M (z_sS ht hr wd K W C) (nI a)) wd 0 (2 ^ M) (0, 2000000000)).1 else (z_lbest (fun a => z_lw H n M (z_sS ht hr wd K W C) (nI a)) wd 0 (2 ^ M) (0, 2000000000)).2)) hR ?_ (fun S' hf => ?_)
      · have e : z_exe z_mt true 40 93 [.inr (.inr (11, 0)), .inl (nI M), .inl v2] S = _ := (zx_X11_logs 39 S 0 (nI M) v2).trans (ze_X11_logs_0 _ _ _ _ _ _)
        obtain ⟨S1, e1, f1⟩ := s_wetByLogs 33 M (nI 0) hA hM
        obtain ⟨S2, e2, f2⟩ := l_logsC M v2 hM (2 ^ M - 1) 1 999999 (0, z_lw H n M (z_sS ht hr wd K W C) (nI 0)) S1 (by omega) (by have : 2 ^ M ≤ 64 := Nat.pow_le_pow_right (by decide) hM; omega) (by show 0 < 64; decide) (hA.sk f1)
        refine ⟨S2, ?_, f1.tr f2⟩
        have e1' : z_exe z_mt true 39 118 [.inr (.inr (11, 0)), .inl (nI M), .inl (0 : Int32)] S = _ := e1
        rw [e, s_outside, z_rI_s, z_b1_F (fun z => z h2), if_pos rfl, if_neg (Int32.not_lt.mpr h1.1), if_pos h1.2, e1', z_rI_s, hstart]
        exact e2
      · have hA' := hA.sk hf
        have hN' := hN.sk hf
        have hB' := hB.sk hf
        have c7' : S'.1 7 0 1 = nI n := hA'.2.1.1.1
        have c12' : S'.1 12 0 0 = nI n := hA'.2.1.2.1
        have e : z_exe z_mt true 40 192 [.inr (.inr (12, 0)), .inl (nI M), .inl v2] S' = _ := (zx_X12_logs 39 S' 0 (nI M) v2).trans (ze_X12_logs_0 _ _ _ _ _ _)
        obtain ⟨S2, e2, f2⟩ := l_logsM M v2 hM (2 ^ M) 0 999999 (0, 2000000000) S' (by omega) (by have : 2 ^ M ≤ 64 := Nat.pow_le_pow_right (by decide) hM; omega) (by show 0 < 64; decide) hN'.2.2.2.1 hA'
        refine ⟨S2, ?_, f2⟩
        rw [e, s_in, z_rI_s, z_b1_T h2, if_neg z_01n, s_in, z_rI_s, z_b1_T h1, if_neg z_01n]
        exact e2
    · refine z_no (v := .inl (-2)) hR ?_ ?_
      · have e : z_exe z_mt true 40 93 [.inr (.inr (11, 0)), .inl v1, .inl v2] S = _ := (zx_X11_logs 39 S 0 v1 v2).trans (ze_X11_logs_0 _ _ _ _ _ _)
        rw [e, s_outside, z_rI_s, z_b1_F (fun z => z h2), if_pos rfl]
        by_cases q : v1 < 1
        · rw [if_pos q]
        · rw [if_neg q, if_neg (fun z => h1 ⟨Int32.not_lt.mp q, z⟩)]
      · have e : z_exe z_mt true 40 192 [.inr (.inr (12, 0)), .inl v1, .inl v2] S = _ := (zx_X12_logs 39 S 0 v1 v2).trans (ze_X12_logs_0 _ _ _ _ _ _)
        rw [e, s_in, z_rI_s, z_b1_T h2, if_neg z_01n, s_in, z_rI_s, z_b1_F h1, if_pos rfl]
  · refine z_no (v := .inl (-1)) hR ?_ ?_
    · have e : z_exe z_mt true 40 93 [.inr (.inr (11, 0)), .inl v1, .inl v2] S = _ := (zx_X11_logs 39 S 0 v1 v2).trans (ze_X11_logs_0 _ _ _ _ _ _)
      rw [e, s_outside, z_rI_s, z_b1_T h2, if_neg z_01n]
    · have e : z_exe z_mt true 40 192 [.inr (.inr (12, 0)), .inl v1, .inl v2] S = _ := (zx_X12_logs 39 S 0 v1 v2).trans (ze_X12_logs_0 _ _ _ _ _ _)
      rw [e, s_in, z_rI_s, z_b1_F h2, if_pos rfl]
