/-! ===== calls that change the room ===== -/
def z_Rw (t i k : Nat) : Prop := z_Sk t i k ∨ (t = 7 ∧ i = 0) ∨ (t = 9 ∧ i = 0) ∨ ((t = 2 ∨ t = 21) ∧ i < 6) ∨ (t = 12 ∧ i = 0 ∧ k ≤ 4) ∨ (i = 0 ∧ 37 ≤ t ∧ t ≤ 42)
theorem z_LA.mk {hts n hr h c0 : Nat} {ht wd : Int32} {H : z_H} {K : Nat → z_K} {W C : Nat → Int32} {S : z_Mem} (h0 : (n ≤ 6 ∧ hr ≤ 9999 ∧ 0 ≤ wd ∧ z_hwf H ∧ hts ≤ 6) ∧ (h < hts ∨ h = 6)) (h1 : S.1 7 0 1 = nI n) (h2 : S.1 9 0 1 = wd) (h3 : z_Rc 0 h H n ht hr K W C S) (h4 : z_01 0 n S) (h5 : S.1 12 0 3 = wd) (h6 : z_Hq hts c0 H S) (h7 : z_Rm c0 H n ht hr K W C S) (h8 : ∀ b, b < n → z_Kok b (K b) ∧ (∃ w : Nat, w ≤ 99 ∧ W b = nI w) ∧ ∃ c : Nat, c ≤ hr ∧ C b = nI c) (h9 : ∀ b, b < 6 → S.1 2 b 0 = nI b) : z_LA hts n hr h c0 ht wd H K W C S := by
  obtain ⟨a1, a2, a3, a4, a5⟩ := h3
  obtain ⟨m1, m2, m3, m4, m5⟩ := h7
  refine ⟨h0, ⟨⟨h1, a3, h2, a4, a1, a2, h9⟩, ⟨m1, m3, h5, m4, h6⟩⟩, fun b hb => ⟨h8 b hb, ?_, m5 b hb⟩⟩
  have k := a5 b hb
  have k2 := h4 b hb
  rw [z_60] at k k2
  exact ⟨k.1, k2, k.2.1, k.2.2⟩
theorem z_LB.up {n n' : Nat} {S : z_Mem} (h : z_LB n S) (hn : n ≤ n') : z_LB n' S := by
  obtain ⟨⟨c1, x1, x2, x3, x4⟩, ⟨c2, y1, y2, y3, y4⟩, ⟨c3, w1, w2, w3, w4⟩⟩ := h
  refine ⟨⟨c1, x1, x2, x3, fun i hi => ?_⟩, ⟨c2, y1, y2, y3, fun i hi => ?_⟩, ⟨c3, w1, w2, w3, fun i hi => ?_⟩⟩
  · obtain ⟨⟨b, hb, e⟩, r⟩ := x4 i hi
    exact ⟨⟨b, by omega, e⟩, r⟩
  · obtain ⟨e, w, hw, ew, r⟩ := y4 i hi
    refine ⟨e, w, hw, ew, fun q => ?_⟩
    obtain ⟨b, hb, e⟩ := r q
    exact ⟨b, by omega, e⟩
  · obtain ⟨⟨b, hb, e⟩, r⟩ := w4 i hi
    exact ⟨⟨b, by omega, e⟩, r⟩
/-- only the room has changed, and it is right again -/
theorem z_RL.room {hts n : Nat} {S S' : z_Mem} {P : Nat → Nat → Nat → Prop} (hN : z_LN hts S) (hB : z_LB n S) (hI : z_LI hts S) (hT : z_LT S) (hP : z_LP S) (hAc : z_LC S) (hf : z_fx P S S') (hp : ∀ t i k, P t i k → z_Rw t i k) {n' hr h c0 : Nat} {ht wd : Int32} {H : z_H} {K : Nat → z_K} {W C : Nat → Int32} (hA : z_LA hts n' hr h c0 ht wd H K W C S') (hn : n ≤ n') : z_RL S' := by
  have e : ∀ t i k, ¬ z_Rw t i k → S'.1 t i k = S.1 t i k := fun t i k q => hf.i (fun a => q (hp t i k a))
  have er : ∀ t i k, ¬ z_Rw t i k → S'.2.2.1 t i k = S.2.2.1 t i k := fun t i k q => hf.r (fun a => q (hp t i k a))
  have el : ∀ t i k, ¬ z_Rw t i k → S'.2.1 t i k = S.2.1 t i k := fun t i k q => hf.l (fun a => q (hp t i k a))
  refine ⟨hts, hN.cg (fun t i k q => e t i k (by unfold z_Rw z_Sk; omega)) hf.2.1, ⟨n', hr, h, c0, ht, wd, H, K, W, C, hA, (hB.up hn).cg (fun t i k q => e t i k (by unfold z_FB at q; unfold z_Rw z_Sk; omega))⟩, hI.cg (fun t i k q => e t i k (by unfold z_FI at q; unfold z_Rw z_Sk; omega)) (by rw [er 9 1 3 (by unfold z_Rw z_Sk; omega)]), hT.cg (fun t i k q => e t i k (by unfold z_Rw z_Sk; omega)), hP.cg (fun t i k q => e t i k (by unfold z_Rw z_Sk; omega)) (fun t i k q => el t i k (by unfold z_Rw z_Sk; omega)), hAc.cg (fun t i k q => e t i k (by unfold z_Rw z_Sk; omega))⟩
def z_FN (t i k : Nat) : Prop := (t = 7 ∧ i = 0 ∧ k = 1) ∨ (t = 9 ∧ i = 0 ∧ k < 3) ∨ t = 4 ∨ t = 22 ∨ t = 23 ∨ (t = 12 ∧ i = 0 ∧ (k = 0 ∨ k = 2 ∨ k = 3 ∨ k = 4 ∨ k = 12)) ∨ (i = 0 ∧ 44 ≤ t ∧ t ≤ 49)
/-- only the pairs have changed -/
theorem z_LA.pr {hts n hr h c0 : Nat} {ht wd : Int32} {H : z_H} {K K' : Nat → z_K} {W C W' C' : Nat → Int32} {S S' : z_Mem} (hL : z_LA hts n hr h c0 ht wd H K W C S) (e : ∀ t i k, z_FN t i k → S'.1 t i k = S.1 t i k) (er : (S'.2.2.1 9 0 3).2 = (S.2.2.1 9 0 3).2) (hnum : ∀ b, b < 6 → S'.1 2 b 0 = nI b)
    (hb : ∀ b, b < n → (z_Kok b (K' b) ∧ (∃ w : Nat, w ≤ 99 ∧ W' b = nI w) ∧ ∃ c : Nat, c ≤ hr ∧ C' b = nI c) ∧ (z_kc b S' = K' b ∧ S'.1 2 b 5 &&& 1 = S'.1 2 b 5 ∧ S'.1 2 b 3 = W' b ∧ S'.1 2 b 6 = C' b) ∧ z_km b S' = K' b ∧ S'.1 39 0 b = W' b ∧ S'.1 41 0 b = C' b) : z_LA hts n hr h c0 ht wd H K' W' C' S' := by
  obtain ⟨h0, ⟨⟨a1, a2, a3, a4, a5, a6⟩, ⟨m1, m2, m3, m4, m5⟩⟩, -⟩ := hL
  refine ⟨h0, ⟨⟨(e 7 0 1 (by unfold z_FN; omega)).trans a1, (e 9 0 0 (by unfold z_FN; omega)).trans a2, (e 9 0 1 (by unfold z_FN; omega)).trans a3, (e 9 0 2 (by unfold z_FN; omega)).trans a4, er.trans a5, ?_⟩, ⟨(e 12 0 0 (by unfold z_FN; omega)).trans m1, (e 12 0 2 (by unfold z_FN; omega)).trans m2, (e 12 0 3 (by unfold z_FN; omega)).trans m3, (e 12 0 4 (by unfold z_FN; omega)).trans m4, ?_⟩⟩, hb⟩
  · refine ⟨?_, hnum⟩
    exact a6.1.cg (fun k => e 4 h k (by unfold z_FN; omega)) (fun k => e 22 h k (by unfold z_FN; omega)) (fun k => e 23 h k (by unfold z_FN; omega))
  · exact m5.cg (e 12 0 12 (by unfold z_FN; omega)) (fun k _ => e 44 0 k (by unfold z_FN; omega)) (fun t k a c _ => e t 0 k (by unfold z_FN; omega)) (fun k _ => e 49 0 k (by unfold z_FN; omega))
theorem z_cN_le {H : z_H} {K : z_K} : ∀ (m k : Nat) (ht : Int32), ∃ j : Nat, j ≤ k + m ∧ z_cN H K m ht (nI k) = nI j
  | 0, k, _ => ⟨k, Nat.le_refl _, rfl⟩
  | m + 1, k, ht => by
    obtain ⟨j, hj, e⟩ := z_c1_up (K := K) (ht := ht) (k := k)
    obtain ⟨j', hj', e'⟩ := z_cN_le (H := H) (K := K) m j (z_mx (ht - z_last 2 H 1))
    refine ⟨j', by omega, ?_⟩
    show z_cN H K m _ (z_c1 K ht (nI k)) = _
    rw [e]
    exact e'
theorem z_Pr0_Rw {t i k : Nat} (h : z_Pr 0 t i k) : z_Rw t i k := by
  rcases h with ⟨h1, -, h3, -⟩ | h | ⟨h1, h2, -⟩
  · exact Or.inr (Or.inr (Or.inr (Or.inl ⟨Or.inl h1, by omega⟩)))
  · exact Or.inl (Or.inl h)
  · exact Or.inr (Or.inr (Or.inl ⟨h1, h2⟩))
theorem z_Pm_Rw {t i k : Nat} (h : z_Pm t i k) : z_Rw t i k := by
  rcases h with ⟨h1, h2, h3⟩ | ⟨h1, h2, -⟩ | h
  · exact Or.inr (Or.inr (Or.inr (Or.inr (Or.inl ⟨h1, h2, by omega⟩))))
  · exact Or.inr (Or.inr (Or.inr (Or.inr (Or.inr ⟨h2, by omega, by omega⟩))))
  · exact Or.inl (by unfold z_Sk; omega)
/-! ===== pass ===== -/
theorem c_pass (S : z_Mem) (hR : z_RL S) (v : Int32) : z_both 87 179 [.inl v] S := by
  obtain ⟨hts, hN, ⟨n, hr, h, c0, ht, wd, H, K, W, C, hA, hB⟩, hI, hT, hP, hAc⟩ := id hR
  obtain ⟨⟨hn, hhr, hwd, hH, hts6⟩, hh6⟩ := hA.1
  have hC := fun b hb => (hA.2.2 b hb).1.2.2
  have c7 : S.1 7 0 1 = nI n := hA.2.1.1.1
  have c12 : S.1 12 0 0 = nI n := hA.2.1.2.1
  have h9 : S.1 9 0 2 = nI hr := hA.2.1.1.2.2.2.1
  have h12 : S.1 12 0 4 = nI hr := hA.2.1.2.2.2.2.1
  by_cases hv : 0 ≤ v ∧ v ≤ 60
  · obtain ⟨M, hM, rfl⟩ := z_rg (n := 60) (by omega) hv
    by_cases hq : hr + M ≤ 9999
    · have hle : nI hr + nI M ≤ 9999 := by
        rw [nI_add, show (9999 : Int32) = nI 9999 from rfl, nI_leI (by omega) (by omega)]; exact hq
      obtain ⟨q, S1, e1, rfl, k1, f1⟩ := s_roomHours 33 0 h n M hr H ht K W C S (by omega) hH hn (by omega) c7 hA.Rc hA.W0
      have hm1 : z_Rm c0 H n ht hr K W C S1 := hA.Rm.fx f1 (fun t i k q => by unfold z_Pr; omega)
      obtain ⟨q, S2, e2, rfl, k2, f2⟩ := s_mhours 32 c0 n M 9999 hr H ht K W C S1 hH hn (by omega) (by omega) (by omega) hq ((f1.i (by unfold z_Pr; omega)).trans hN.2.2.2.1) hm1 hC
      have f12 : z_fx (fun t i k => z_Pr 0 t i k ∨ z_Pm t i k) S S2 := (f1.wk (fun _ _ _ q => Or.inl q)).tr (f2.wk (fun _ _ _ q => Or.inr q))
      refine ⟨.inl (nI (hr + M)), S1, S2, ?_, ?_, ?_⟩
      · have e : z_exe z_mt true 40 87 [.inr (.inr (11, 0)), .inl (nI M)] S = _ := (zx_X11_pass 39 S 0 (nI M)).trans (ze_X11_pass_0 _ _ _ _ _)
        rw [e, s_outside, z_rI_s, z_b1_F (fun z => z hv), if_pos rfl, h9, if_pos hle, e1, z_rV_s, k1.2.2.2.1]
      · have e : z_exe z_mt true 40 179 [.inr (.inr (12, 0)), .inl (nI M)] S1 = _ := (zx_X12_pass 39 S1 0 (nI M)).trans (ze_X12_pass_0 _ _ _ _ _)
        rw [e, s_isHours, z_rI_s, z_b1_T hv, if_neg z_01n, hm1.2.2.2.1, if_pos hle, e2, z_rV_s, k2.2.2.2.1]
      · refine z_RL.room hN hB hI hT hP hAc f12 (fun t i k q => q.elim z_Pr0_Rw z_Pm_Rw) (n' := n) (hr := hr + M) (h := h) (c0 := c0) (ht := z_htN H M ht) (wd := wd) (H := H) (K := K) (W := fun b => z_wN H (K b) M ht hr (W b)) (C := fun b => z_cN H (K b) M ht (C b)) ?_ (Nat.le_refl _)
        have i12 : ∀ t i k, ¬ z_Pr 0 t i k → ¬ z_Pm t i k → S2.1 t i k = S.1 t i k := fun t i k a c => f12.i (fun q => q.elim a c)
        have hRc2 : z_Rc 0 h H n (z_htN H M ht) (hr + M) K (fun b => z_wN H (K b) M ht hr (W b)) (fun b => z_cN H (K b) M ht (C b)) S2 := by
          obtain ⟨a1, a2, a3, a4, a5⟩ := k1
          refine ⟨by rw [f2.r (by unfold z_Pm; omega)]; exact a1, a2.fx f2 (fun k => by unfold z_Pm; omega) (fun k => by unfold z_Pm; omega) (fun k => by unfold z_Pm; omega), (f2.i (by unfold z_Pm; omega)).trans a3, (f2.i (by unfold z_Pm; omega)).trans a4, fun b hb => ?_⟩
          obtain ⟨o1, o2, o3⟩ := a5 b hb
          exact ⟨(z_kc_cg (fun k _ _ => f2.i (by unfold z_Pm; omega)) (fun k => f2.i (by unfold z_Pm; omega))).trans o1, (f2.i (by unfold z_Pm; omega)).trans o2, (f2.i (by unfold z_Pm; omega)).trans o3⟩
        refine z_LA.mk ⟨⟨hn, hq, hwd, hH, hts6⟩, hh6⟩ ?_ ?_ hRc2 ?_ ?_ ?_ k2 (fun b hb => ?_) (fun b hb => by rw [i12 2 b 0 (by unfold z_Pr; omega) (by unfold z_Pm; omega)]; exact hA.2.1.1.2.2.2.2.2.2 b hb)
        · rw [i12 7 0 1 (by unfold z_Pr; omega) (by unfold z_Pm; omega)]; exact c7
        · rw [i12 9 0 1 (by unfold z_Pr; omega) (by unfold z_Pm; omega)]; exact hA.2.1.1.2.2.1
        · intro b hb
          rw [i12 2 (6 * 0 + b) 5 (by unfold z_Pr; omega) (by unfold z_Pm; omega)]
          exact hA.z01 b hb
        · rw [i12 12 0 3 (by unfold z_Pr; omega) (by unfold z_Pm; omega)]; exact hA.2.1.2.2.2.1
        · exact hA.2.1.2.2.2.2.2.cg (i12 12 0 12 (by unfold z_Pr; omega) (by unfold z_Pm; omega)) (fun k _ => i12 44 0 k (by unfold z_Pr; omega) (by unfold z_Pm; omega)) (fun t k a c _ => i12 t 0 k (by unfold z_Pr; omega) (by unfold z_Pm; omega)) (fun k _ => i12 49 0 k (by unfold z_Pr; omega) (by unfold z_Pm; omega))
        · obtain ⟨p1, ⟨w, hw, ew⟩, ⟨c, hc, ec⟩⟩ := (hA.2.2 b hb).1
          obtain ⟨j, hj, ej⟩ := z_wN_le (H := H) (K := K b) M hr w ht hw
          obtain ⟨j2, hj2, ej2⟩ := z_cN_le (H := H) (K := K b) M c ht
          exact ⟨p1, ⟨j, by omega, by rw [ew]; exact ej⟩, ⟨j2, by omega, by rw [ec]; exact ej2⟩⟩
    · have hle : ¬ nI hr + nI M ≤ 9999 := by
        rw [nI_add, show (9999 : Int32) = nI 9999 from rfl, nI_leI (by omega) (by omega)]; exact hq
      refine z_ask (v := .inl (-3)) hR ⟨S, ?_, z_fx.rf⟩ (fun S' hf => ⟨S', ?_, z_fx.rf⟩)
      · have e : z_exe z_mt true 40 87 [.inr (.inr (11, 0)), .inl (nI M)] S = _ := (zx_X11_pass 39 S 0 (nI M)).trans (ze_X11_pass_0 _ _ _ _ _)
        rw [e, s_outside, z_rI_s, z_b1_F (fun z => z hv), if_pos rfl, h9, if_neg hle]
      · have hA' := hA.sk hf
        have hN' := hN.sk hf
        have hB' := hB.sk hf
        have c7' : S'.1 7 0 1 = nI n := hA'.2.1.1.1
        have c12' : S'.1 12 0 0 = nI n := hA'.2.1.2.1
        have e : z_exe z_mt true 40 179 [.inr (.inr (12, 0)), .inl (nI M)] S' = _ := (zx_X12_pass 39 S' 0 (nI M)).trans (ze_X12_pass_0 _ _ _ _ _)
        rw [e, s_isHours, z_rI_s, z_b1_T hv, if_neg z_01n, hA'.2.1.2.2.2.2.1, if_neg hle]
  · refine z_ask (v := .inl (-2)) hR ⟨S, ?_, z_fx.rf⟩ (fun S' hf => ⟨S', ?_, z_fx.rf⟩)
    · have e : z_exe z_mt true 40 87 [.inr (.inr (11, 0)), .inl v] S = _ := (zx_X11_pass 39 S 0 v).trans (ze_X11_pass_0 _ _ _ _ _)
      rw [e, s_outside, z_rI_s, z_b1_T hv, if_neg z_01n]
    · have e : z_exe z_mt true 40 179 [.inr (.inr (12, 0)), .inl v] S' = _ := (zx_X12_pass 39 S' 0 v).trans (ze_X12_pass_0 _ _ _ _ _)
      rw [e, s_isHours, z_rI_s, z_b1_F hv, if_pos rfl]
