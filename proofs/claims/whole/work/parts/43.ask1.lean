/-! ===== calls that ask: only scratch is written ===== -/
def z_both (mc mm : Nat) (args : List z_AV) (S : z_Mem) : Prop := ∃ v S1 S2, z_exe z_mt true 40 mc (.inr (.inr (11, 0)) :: args) S = some (some v, S1) ∧ z_exe z_mt true 40 mm (.inr (.inr (12, 0)) :: args) S1 = some (some v, S2) ∧ z_RL S2
theorem z_ask {mc mm : Nat} {args : List z_AV} {S : z_Mem} {v : z_AV} (hR : z_RL S) (h1 : ∃ S1, z_exe z_mt true 40 mc (.inr (.inr (11, 0)) :: args) S = some (some v, S1) ∧ z_fx z_Sk S S1) (h2 : ∀ S1, z_fx z_Sk S S1 → ∃ S2, z_exe z_mt true 40 mm (.inr (.inr (12, 0)) :: args) S1 = some (some v, S2) ∧ z_fx z_Sk S1 S2) : z_both mc mm args S := by
  obtain ⟨S1, e1, f1⟩ := h1
  obtain ⟨S2, e2, f2⟩ := h2 S1 f1
  exact ⟨v, S1, S2, e1, e2, (hR.sk f1 (fun _ _ _ h => h)).sk f2 (fun _ _ _ h => h)⟩
theorem z_LA.sk {hts n hr h c0 : Nat} {ht wd : Int32} {H : z_H} {K : Nat → z_K} {W C : Nat → Int32} {S S' : z_Mem} (hL : z_LA hts n hr h c0 ht wd H K W C S) (hf : z_fx z_Sk S S') : z_LA hts n hr h c0 ht wd H K W C S' :=
  hL.cg (fun t i k q _ _ _ _ _ _ => hf.i (by unfold z_FA at q; unfold z_Sk; omega)) (by rw [hf.r (by unfold z_Sk; omega)])
theorem z_LB.sk {n : Nat} {S S' : z_Mem} (hL : z_LB n S) (hf : z_fx z_Sk S S') : z_LB n S' := hL.cg (fun t i k q => hf.i (by unfold z_FB at q; unfold z_Sk; omega))
theorem z_LN.sk {hts : Nat} {S S' : z_Mem} (hL : z_LN hts S) (hf : z_fx z_Sk S S') : z_LN hts S' := hL.cg (fun t i k q => hf.i (by unfold z_Sk; omega)) hf.2.1
theorem z_b1_T {c : Prop} [Decidable c] (h : c) : z_b1 c = 1 := by unfold z_b1; rw [if_pos h]
theorem z_b1_F {c : Prop} [Decidable c] (h : ¬ c) : z_b1 c = 0 := by unfold z_b1; rw [if_neg h]
theorem z_60 (x : Nat) : 6 * 0 + x = x := by omega
theorem z_01n : ¬ (1 : Int32) = 0 := by decide
/-- a range of numbers, as a number -/
theorem z_rg {v : Int32} {n : Nat} (hn : n ≤ 100000) (h : 0 ≤ v ∧ v ≤ nI n) : ∃ k : Nat, k ≤ n ∧ v = nI k := by
  obtain ⟨k, hk, rfl⟩ := nI_of (Int32.not_lt.mpr h.1)
  exact ⟨k, (nI_leI hk (by omega)).mp h.2, rfl⟩
/-- the class tries hours -/
def z_Ptr (t i k : Nat) : Prop := (t = 7 ∧ i = 2 ∧ k = 1) ∨ (t = 9 ∧ i = 2) ∨ ((t = 2 ∨ t = 21) ∧ 12 ≤ i ∧ i < 18) ∨ t = 24
theorem z_Ptr_sk {S S' : z_Mem} (h : z_fx z_Ptr S S') : z_fx z_Sk S S' := h.wk (fun t i k q => by unfold z_Ptr at q; unfold z_Sk; omega)
theorem s_tryHours (d M hts n hr h c0 : Nat) (ht wd : Int32) (H : z_H) (K : Nat → z_K) (W C : Nat → Int32) (S : z_Mem) (hL : z_LA hts n hr h c0 ht wd H K W C S) (hM : M ≤ 60) :
    z_wp (z_exe z_mt true (d + 7) 117 [.inr (.inr (11, 0)), .inl (nI M)] S) (fun q S' => q = none ∧ z_Rc 2 h H n (z_htN H M ht) (hr + M) K (fun b => z_wN H (K b) M ht hr (W b)) (fun b => z_cN H (K b) M ht (C b)) S' ∧ S'.1 7 2 1 = nI n ∧ z_fx z_Ptr S S') := by
  have e : z_exe z_mt true (d + 7) 117 [.inr (.inr (11, 0)), .inl (nI M)] S = _ := (zx_X11_tryHours (d + 6) S 0 (nI M)).trans (ze_X11_tryHours_0 _ _ _ _ _)
  obtain ⟨⟨hn, hhr, -, hH, -⟩, -⟩ := hL.1
  rw [e]
  refine z_wp_V (s_copyRoom (d + 4) 2 0 n S (by omega) hn hL.2.1.1.1 hL.z01) (fun x S1 hx => ⟨hx.1, ?_⟩)
  obtain ⟨-, hc⟩ := hx
  have hR := hc.Rc hL.Rc
  refine z_wp_V (s_roomHours d 2 h n M hr H ht K W C S1 (by omega) hH hn (by omega) hc.1 hR hL.W0) (fun x S2 hx => ⟨hx.1, ?_⟩)
  obtain ⟨-, hR2, hf2⟩ := hx
  refine z_wp_ret ⟨rfl, hR2, (hf2.i (by unfold z_Pr; omega)).trans hc.1, (hc.2.2.2.2.wk (fun t i k q => by unfold z_Pcp at q; unfold z_Ptr; omega)).tr (hf2.wk (fun t i k q => by unfold z_Pr at q; unfold z_Ptr; omega))⟩
theorem z_Rm.fx {c0 n hr : Nat} {H : z_H} {ht : Int32} {K : Nat → z_K} {W C : Nat → Int32} {S S' : z_Mem} {P : Nat → Nat → Nat → Prop} (hR : z_Rm c0 H n ht hr K W C S) (hf : z_fx P S S') (hp : ∀ t i k, (t = 12 ∧ i = 0 ∧ (k ≤ 4 ∨ k = 12)) ∨ (i = 0 ∧ 37 ≤ t ∧ t ≤ 42) ∨ (44 ≤ t ∧ t ≤ 49) → ¬ P t i k) : z_Rm c0 H n ht hr K W C S' := by
  obtain ⟨r1, r2, r3, r4, r5⟩ := hR
  refine ⟨(hf.i (hp 12 0 0 (by omega))).trans r1, r2.fx hf (fun t i k a c => hp t i k (by omega)) (hp 12 0 12 (by omega)), (hf.i (hp 12 0 2 (by omega))).trans r3, (hf.i (hp 12 0 4 (by omega))).trans r4, fun b hb => ?_⟩
  obtain ⟨o1, o2, o3⟩ := r5 b hb
  exact ⟨(z_km_cg (hf.i (hp 37 0 b (by omega))) (hf.i (hp 38 0 b (by omega))) (hf.i (hp 40 0 b (by omega))) (hf.i (hp 12 0 1 (by omega))) (fun k => hf.i (hp 42 0 k (by omega)))).trans o1, (hf.i (hp 39 0 b (by omega))).trans o2, (hf.i (hp 41 0 b (by omega))).trans o3⟩
theorem z_Psc_sk {S S' : z_Mem} (h : z_fx z_Psc S S') : z_fx z_Sk S S' := h.wk (fun t i k q => by unfold z_Psc at q; unfold z_Sk; omega)
theorem z_Pm_Prn {S S' : z_Mem} (h : z_fx z_Pm S S') : z_fx z_Prn S S' := h.wk (fun t i k q => by unfold z_Pm at q; unfold z_Prn; omega)
/-- the model saves: its room is as it was, more cracks are allowed -/
theorem s_mSave (d c0 n hr : Nat) (H : z_H) (ht : Int32) (K : Nat → z_K) (W C : Nat → Int32) (S : z_Mem) (hR : z_Rm c0 H n ht hr K W C S) :
    ∃ S1, z_exe z_mt true (d + 1) 180 [.inr (.inr (12, 0))] S = some (none, S1) ∧ z_sav S S1 ∧ z_Rm c0 H n ht hr K W C S1 ∧ S1.1 12 0 29 = nI 2000000000 := by
  obtain ⟨q, S1, e, rfl, hs⟩ := s_save d S
  exact ⟨S1, e, hs, hR.fx hs.1 (fun t i k q => by unfold z_Psv; omega), hs.2.1⟩
theorem s_mBack (d : Nat) {S S1 S2 : z_Mem} (h29 : S.1 12 0 29 = 9999) (hs : z_sav S S1) (hr : z_fx z_Prn S1 S2) : ∃ S3, z_exe z_mt true (d + 1) 181 [.inr (.inr (12, 0))] S2 = some (none, S3) ∧ z_fx z_Psc S S3 := by
  obtain ⟨q, S3, e, rfl, hp⟩ := s_putBack d S2
  exact ⟨S3, e, z_back h29 hs hr hp⟩
/-- the model tries hours and puts back -/
theorem s_mtry (d M c0 n hr : Nat) (H : z_H) (ht : Int32) (K : Nat → z_K) (W C : Nat → Int32) (S : z_Mem) (hH : z_hwf H) (hn : n ≤ 6) (hM : M ≤ 60) (hhr : hr ≤ 9999) (h29 : S.1 12 0 29 = 9999) (hR : z_Rm c0 H n ht hr K W C S) (hC : ∀ b, b < n → ∃ k : Nat, k ≤ hr ∧ C b = nI k) :
    ∃ S1 S2 S3, z_exe z_mt true (d + 7) 180 [.inr (.inr (12, 0))] S = some (none, S1) ∧ z_exe z_mt true (d + 7) 176 [.inr (.inr (12, 0)), .inl (nI M)] S1 = some (none, S2) ∧
      z_Rm c0 H n (z_htN H M ht) (hr + M) K (fun b => z_wN H (K b) M ht hr (W b)) (fun b => z_cN H (K b) M ht (C b)) S2 ∧ S2.1 12 0 1 = S.1 12 0 1 ∧
      z_exe z_mt true (d + 7) 181 [.inr (.inr (12, 0))] S2 = some (none, S3) ∧ z_fx z_Psc S S3 := by
  obtain ⟨S1, e1, hs, hR1, hmo⟩ := s_mSave (d + 6) c0 n hr H ht K W C S hR
  obtain ⟨q, S2, e2, rfl, hR2, hf2⟩ := s_mhours d c0 n M 2000000000 hr H ht K W C S1 hH hn (by omega) (by omega) (by omega) (by omega) hmo hR1 hC
  obtain ⟨S3, e3, hf3⟩ := s_mBack (d + 6) h29 hs (z_Pm_Prn hf2)
  exact ⟨S1, S2, S3, e1, e2, hR2, (hf2.i (by unfold z_Pm; omega)).trans (hs.1.i (by unfold z_Psv; omega)), e3, hf3⟩
/-! ===== night ===== -/
theorem c_night (S : z_Mem) (hR : z_RL S) (v : Int32) : z_both 90 184 [.inl v] S := by
  obtain ⟨hts, hN, ⟨n, hr, h, c0, ht, wd, H, K, W, C, hA, hB⟩, -⟩ := id hR
  obtain ⟨⟨hn, hhr, -, hH, -⟩, -⟩ := hA.1
  have hC := fun b hb => (hA.2.2 b hb).1.2.2
  by_cases hv : 0 ≤ v ∧ v ≤ 12
  · obtain ⟨M, hM, rfl⟩ := z_rg (n := 12) (by omega) hv
    refine z_ask (v := .inl (z_sg (z_fd K (fun b => z_wN H (K b) M ht hr (W b))) 0 n 0)) hR ?_ (fun S' hf => ?_)
    · have e : z_exe z_mt true 40 90 [.inr (.inr (11, 0)), .inl (nI M)] S = _ := (zx_X11_night 39 S 0 (nI M)).trans (ze_X11_night_0 _ _ _ _ _)
      obtain ⟨q, S1, e1, rfl, h1, h2, h3⟩ := s_tryHours 32 M hts n hr h c0 ht wd H K W C S hA (by omega)
      refine ⟨S1, ?_, z_Ptr_sk h3⟩
      rw [e, s_outside, z_rI_s, z_b1_F (fun q => q hv), if_pos rfl, e1, z_rV_s, s_dryOfThoseHere 38 2 h n _ _ H K _ _ S1 hn h2 h1, z_rI_s]
    · have hA' := hA.sk hf
      have e : z_exe z_mt true 40 184 [.inr (.inr (12, 0)), .inl (nI M)] S' = _ := (zx_X12_night 39 S' 0 (nI M)).trans (ze_X12_night_0 _ _ _ _ _)
      obtain ⟨S1, S2, S3, e1, e2, hR2, hg, e3, hf3⟩ := s_mtry 32 M c0 n hr H ht K W C S' hH hn (by omega) hhr (hN.sk hf).2.2.2.1 hA'.Rm hC
      refine ⟨S3, ?_, z_Psc_sk hf3⟩
      rw [e, s_in, z_rI_s, z_b1_T hv, if_neg z_01n, e1, z_rV_s, e2, z_rV_s, s_drySet 37 c0 n _ _ H K _ _ S2 hn hR2, z_rI_s, s_bits, z_rI_s, e3, z_rV_s, z_dry_eq hn (fun b hb => ?_)]
      have hk := (hR2.2.2.2.2 b hb).1
      rw [← hk]
      show decide _ = _
      rw [Bool.eq_iff_iff, decide_eq_true_iff]
      exact z_has_iff _ (by omega)
  · refine z_ask (v := .inl (-2)) hR ⟨S, ?_, z_fx.rf⟩ (fun S' hf => ⟨S', ?_, z_fx.rf⟩)
    · have e : z_exe z_mt true 40 90 [.inr (.inr (11, 0)), .inl v] S = _ := (zx_X11_night 39 S 0 v).trans (ze_X11_night_0 _ _ _ _ _)
      rw [e, s_outside, z_rI_s, z_b1_T hv, if_neg z_01n]
    · have e : z_exe z_mt true 40 184 [.inr (.inr (12, 0)), .inl v] S' = _ := (zx_X12_night 39 S' 0 v).trans (ze_X12_night_0 _ _ _ _ _)
      rw [e, s_in, z_rI_s, z_b1_F hv, if_pos rfl]
