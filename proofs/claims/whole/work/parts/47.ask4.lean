/-! ===== done ===== -/
/-- from the hour k on, m looks left: when it is dry; -5: never -/
def z_dn (H : z_H) (K : z_K) : Nat → Nat → Int32 → Nat → Int32 → Int32
  | 0, _, _, _, _ => -5
  | m + 1, k, ht, hr, w => if w = 0 then nI k else z_dn H K m (k + 1) (z_mx (ht - z_last 2 H 1)) (hr + 1) (z_w1 H K ht hr w)
theorem l_doneC (d h : Nat) (H : z_H) (K : z_K) (hH : z_hwf H) : ∀ (m k N hr : Nat) (ht w c : Int32) (S : z_Mem), k + m = 61 → m < N → hr + m ≤ 20000 → 0 ≤ w → z_Rk h H ht hr K w c S →
    z_wp (zr_X11_done (z_exe z_mt true (d + 5)) N 35 [some (.inr (.inr (11, 0))), none, some (.inl (nI k))] [] S) (fun q S' => q = some (.inl (z_dn H K m k ht hr w)) ∧ z_fx z_Pco S S') := by
  intro m
  induction m with
  | zero =>
    intro k N hr ht w c S hk hN hhr hw hR
    obtain ⟨N, rfl⟩ : ∃ N', N = N' + 1 := ⟨N - 1, by omega⟩
    rw [ze_X11_done_35, if_pos (by rw [show (60 : Int32) = nI 60 from rfl, nI_ltI (by omega) (by omega)]; omega)]
    exact z_wp_ret ⟨rfl, z_fx.rf⟩
  | succ m ih =>
    intro k N hr ht w c S hk hN hhr hw hR
    obtain ⟨N, rfl⟩ : ∃ N', N = N' + 1 := ⟨N - 1, by omega⟩
    have h3 : S.1 2 18 3 = w := (hR.2.2.2.2 0 (by omega)).2.1
    rw [ze_X11_done_35, if_neg (by rw [show (60 : Int32) = nI 60 from rfl, nI_ltI (by omega) (by omega)]; omega), h3]
    unfold z_dn
    by_cases q : w = 0
    · rw [if_pos q, if_pos q]
      exact z_wp_ret ⟨rfl, z_fx.rf⟩
    · rw [if_neg q, if_neg q]
      refine z_wp_V (s_courseGo d h hr H ht K w c S hH (by omega) hw hR) (fun x S1 hx => ⟨hx.1, ?_⟩)
      obtain ⟨-, hR1, hf1⟩ := hx
      try dsimp only
      rw [nI_1]
      exact z_wp_mono (ih (k + 1) N (hr + 1) _ _ _ S1 (by omega) (by omega) (by omega) (z_w1_pos hw) hR1) (fun x S2 hx => ⟨hx.1, hf1.tr hx.2⟩)
theorem l_doneM (d c0 n b0 : Nat) (H : z_H) (K : Nat → z_K) (hH : z_hwf H) (hn : n ≤ 6) (hb0 : b0 < n) (S0 S1 : z_Mem) (h29 : S0.1 12 0 29 = 9999) (hs : z_sav S0 S1) : ∀ (m k N hr : Nat) (ht : Int32) (W C : Nat → Int32) (S : z_Mem), k + m = 61 → m < N → hr + m ≤ 20000 → (∀ b, b < n → 0 ≤ W b) → z_fx z_Prn S1 S → S.1 12 0 29 = nI 2000000000 → z_Rm c0 H n ht hr K W C S → (∀ b, b < n → ∃ k : Nat, k ≤ hr ∧ C b = nI k) →
    z_wp (zr_X12_done (z_exe z_mt true (d + 6)) N 16 [some (.inr (.inr (12, 0))), some (.inl (nI b0)), some (.inl (nI k))] [] S) (fun q S' => q = some (.inl (z_dn H (K b0) m k ht hr (W b0))) ∧ z_fx z_Psc S0 S') := by
  intro m
  induction m with
  | zero =>
    intro k N hr ht W C S hk hN hhr hW hf hmo hR hC
    obtain ⟨N, rfl⟩ : ∃ N', N = N' + 1 := ⟨N - 1, by omega⟩
    obtain ⟨S3, e3, hf3⟩ := s_mBack (d + 5) h29 hs hf
    have q61 : (61 : Int32) ≤ nI k := by rw [show (61 : Int32) = nI 61 from rfl, z_le (by omega) (by omega)]; omega
    rw [ze_X12_done_16, if_pos q61, e3, z_rV_s, if_pos q61]
    exact z_wp_ret ⟨rfl, hf3⟩
  | succ m ih =>
    intro k N hr ht W C S hk hN hhr hW hf hmo hR hC
    obtain ⟨N, rfl⟩ : ∃ N', N = N' + 1 := ⟨N - 1, by omega⟩
    have q61 : ¬ (61 : Int32) ≤ nI k := by rw [show (61 : Int32) = nI 61 from rfl, z_le (by omega) (by omega)]; omega
    rw [ze_X12_done_16, if_neg q61, z_oob_n (k := b0) (by omega) (by omega), z_cl (k := b0) (by omega), (hR.2.2.2.2 b0 hb0).2.1]
    dsimp only [cond]
    unfold z_dn
    by_cases q : W b0 = 0
    · obtain ⟨S3, e3, hf3⟩ := s_mBack (d + 5) h29 hs hf
      rw [if_pos (by rw [q]; decide), if_pos q, e3, z_rV_s, if_neg q61]
      exact z_wp_ret ⟨rfl, hf3⟩
    · rw [if_neg (fun z => q (Int32.le_antisymm z (hW b0 hb0))), if_neg q]
      refine z_wp_V (s_mhour d c0 n hr 2000000000 ht H K W C S hH (by omega) hn (by omega) (by omega) hmo hR hC) (fun x S2 hx => ⟨hx.1, ?_⟩)
      obtain ⟨-, hR1, hf1⟩ := hx
      try dsimp only
      rw [nI_1]
      exact ih (k + 1) N (hr + 1) _ _ _ S2 (by omega) (by omega) (by omega) (fun b hb => z_w1_pos (hW b hb)) (hf.tr (z_Pm_Prn hf1)) ((hf1.i (by unfold z_Pm; omega)).trans hmo) hR1 (fun b hb => by
        obtain ⟨j, h1, h2⟩ := hC b hb
        obtain ⟨j', h3, h4⟩ := z_c1_up (K := K b) (ht := ht) (k := j)
        exact ⟨j', by omega, by rw [h2]; exact h4⟩)
theorem z_Pco_sk {S S' : z_Mem} (h : z_fx z_Pco S S') : z_fx z_Sk S S' := h.wk (fun t i k q => by unfold z_Pco at q; unfold z_Sk; omega)
theorem c_done (S : z_Mem) (hR : z_RL S) (v : Int32) : z_both 89 183 [.inl v] S := by
  obtain ⟨hts, hN, ⟨n, hr, h, c0, ht, wd, H, K, W, C, hA, hB⟩, hI, hT, hP, hAc⟩ := id hR
  obtain ⟨⟨hn, hhr, hwd, hH, hts6⟩, hh6⟩ := hA.1
  have hC := fun b hb => (hA.2.2 b hb).1.2.2
  have c7 : S.1 7 0 1 = nI n := hA.2.1.1.1
  have c12 : S.1 12 0 0 = nI n := hA.2.1.2.1
  by_cases hv : 0 ≤ v ∧ v ≤ nI n - 1
  · obtain ⟨b, hb, rfl⟩ := z_isP_of hn hv
    obtain ⟨-, ⟨kb, k01, kw, kc⟩, -⟩ := hA.2.2 b hb
    have hw0 := hA.W0 b hb
    refine z_ask (v := .inl (z_dn H (K b) 61 0 ht hr (W b))) hR ?_ (fun S' hf => ?_)
    · have e : z_exe z_mt true 40 89 [.inr (.inr (11, 0)), .inl (nI b)] S = _ := (zx_X11_done 39 S 0 (nI b)).trans (ze_X11_done_0 _ _ _ _ _)
      obtain ⟨q, S1, e1, rfl, k1, f1⟩ := s_cbegin 37 b 0 h hr H ht S (by omega) (by omega) k01 hA.2.1.1.2.2.2.2.1 hA.2.1.1.2.2.2.2.2.1 hA.2.1.1.2.1 hA.2.1.1.2.2.2.1
      rw [kb, kw] at k1
      obtain ⟨q, S2, e2, rfl, f2⟩ := l_doneC 34 h H (K b) hH 61 0 999999 hr ht (W b) _ S1 (by omega) (by omega) (by omega) hw0 k1
      refine ⟨S2, ?_, (z_Pco_sk f1).tr (z_Pco_sk f2)⟩
      rw [e, s_noPair 38 n _ S hn c7, z_rI_s, z_b1_F (fun z => z hv), if_pos rfl, z_oob_n (k := b) (by omega) (by omega), z_cl (k := b) (by omega), z_60]
      dsimp only [cond]
      rw [e1, z_rV_s]
      exact e2
    · have hA' := hA.sk hf
      have hN' := hN.sk hf
      have hB' := hB.sk hf
      have c7' : S'.1 7 0 1 = nI n := hA'.2.1.1.1
      have c12' : S'.1 12 0 0 = nI n := hA'.2.1.2.1
      have e : z_exe z_mt true 40 183 [.inr (.inr (12, 0)), .inl (nI b)] S' = _ := (zx_X12_done 39 S' 0 (nI b)).trans (ze_X12_done_0 _ _ _ _ _)
      obtain ⟨S1, e1, hs, hR1, hmo⟩ := s_mSave 38 c0 n hr H ht K W C S' hA'.Rm
      obtain ⟨q, S2, e2, rfl, f2⟩ := l_doneM 33 c0 n b H K hH hn hb S' S1 hN'.2.2.2.1 hs 61 0 999999 hr ht W C S1 (by omega) (by omega) (by omega) hA.W0 z_fx.rf hmo hR1 hC
      refine ⟨S2, ?_, z_Psc_sk f2⟩
      rw [e, s_isPair 37 n _ S' c12', z_rI_s, z_b1_T hv, if_neg z_01n, e1, z_rV_s]
      exact e2
  · refine z_ask (v := .inl (-1)) hR ⟨S, ?_, z_fx.rf⟩ (fun S' hf => ⟨S', ?_, z_fx.rf⟩)
    · have e : z_exe z_mt true 40 89 [.inr (.inr (11, 0)), .inl v] S = _ := (zx_X11_done 39 S 0 v).trans (ze_X11_done_0 _ _ _ _ _)
      rw [e, s_noPair 38 n _ S hn c7, z_rI_s, z_b1_T hv, if_neg z_01n]
    · have hA' := hA.sk hf
      have hN' := hN.sk hf
      have hB' := hB.sk hf
      have c7' : S'.1 7 0 1 = nI n := hA'.2.1.1.1
      have c12' : S'.1 12 0 0 = nI n := hA'.2.1.2.1
      have e : z_exe z_mt true 40 183 [.inr (.inr (12, 0)), .inl v] S' = _ := (zx_X12_done 39 S' 0 v).trans (ze_X12_done_0 _ _ _ _ _)
      rw [e, s_isPair 37 n _ S' c12', z_rI_s, z_b1_F hv, if_pos rfl]
/-! ===== odds ===== -/
theorem z_sg_out {f : Nat → Int32} {b0 : Nat} : ∀ (m b : Nat) (x : Int32), b ≤ b0 → b0 < b + m → z_sg f b m x = z_sg (fun o => if o = b0 then 0 else f o) b m x + f b0
  | 0, b, x, h1, h2 => by omega
  | m + 1, b, x, h1, h2 => by
    show z_sg f (b + 1) m (x + f b) = z_sg (fun o => if o = b0 then 0 else f o) (b + 1) m (x + (if b = b0 then 0 else f b)) + f b0
    by_cases q : b = b0
    · subst q
      rw [if_pos rfl, Int32.add_zero, z_sg_x m (b + 1) (x + f b), z_sg_x m (b + 1) x, z_sg_cg (g := f) m (b + 1) 0 (fun k h1 h2 => if_neg (by omega)), Int32.add_assoc, Int32.add_assoc, Int32.add_comm (f b)]
    · rw [if_neg q]
      exact z_sg_out m (b + 1) (x + f b) (by omega) (by omega)
/-- a pair's kept part, the pair away -/
def z_kg (K : z_K) : z_K := (K.1, (K.2.1, (K.2.2.1, (K.2.2.2.1, (true, K.2.2.2.2.2)))))
theorem z_wN_gone {H : z_H} {K : z_K} (hg : K.2.2.2.2.1 = true) : ∀ (m hr : Nat) (ht w : Int32), z_wN H K m ht hr w = w
  | 0, _, _, _ => rfl
  | m + 1, hr, ht, w => by
    show z_wN H K m _ (hr + 1) (z_w1 H K ht hr w) = w
    have : z_w1 H K ht hr w = w := by unfold z_w1; rw [hg]; rfl
    rw [this]
    exact z_wN_gone hg m _ _ _
/-- how wet the others are, if b0 too is away -/
def z_ot (K : Nat → z_K) (W : Nat → Int32) (n b0 : Nat) : Int32 := z_sg (fun o => if o = b0 then 0 else z_fw K W o) 0 n 0
/-- of how many it holds that without them those here are at most q wet -/
def z_lke (K : Nat → z_K) (W : Nat → Int32) (n : Nat) (q : Int32) (b : Nat) : Int32 := if z_ot K W n b ≤ q then 1 else 0
theorem z_ot_eq {K : Nat → z_K} {W : Nat → Int32} {n b0 : Nat} (hb : b0 < n) : z_ot K W n b0 = (cond (K b0).2.2.2.2.1 (z_sg (z_fw K W) 0 n 0) (z_sg (z_fw K W) 0 n 0 - W b0)) := by
  have k := z_sg_out (f := z_fw K W) (b0 := b0) n 0 0 (Nat.zero_le _) (by omega)
  have hz : z_ot K W n b0 = z_sg (fun o => if o = b0 then 0 else z_fw K W o) 0 n 0 := rfl
  rw [← hz] at k
  rw [k]
  unfold z_fw
  cases (K b0).2.2.2.2.1 with
  | true => show z_ot K W n b0 = z_ot K W n b0 + 0; rw [Int32.add_zero]
  | false => show z_ot K W n b0 = z_ot K W n b0 + W b0 - W b0; rw [Int32.add_sub_cancel]
theorem l_oddsC (ex : z_Ex) (h n hr : Nat) (ht : Int32) (H : z_H) (K : Nat → z_K) (W C : Nat → Int32) (q part : Int32) (S : z_Mem) (hn : n ≤ 6) (hc : S.1 7 2 1 = nI n) (hR : z_Rc 2 h H n ht hr K W C S) : ∀ (m b N : Nat) (x : Int32), b + m = n → m < N →
    zr_X11_odds ex (N + 1) 61 [some (.inr (.inr (11, 0))), none, some (.inl q), some (.inl part), some (.inl (z_sg (z_fw K W) 0 n 0)), some (.inl x), some (.inl (nI b)), none, none] [] S = z_rL (ex 121 [.inl (z_sg (z_lke K W n q) b m x), .inl (S.1 7 0 1), .inl part] S) (fun r7 S6 => some (some (.inr (.inl r7)), S6)) := by
  intro m
  induction m with
  | zero =>
    intro b N x hb hN
    rw [ze_X11_odds_61, if_pos (by rw [hc, z_le (by omega) (by omega)]; omega)]
    rfl
  | succ m ih =>
    intro b N x hb hN
    obtain ⟨N, rfl⟩ : ∃ N', N = N' + 1 := ⟨N - 1, by omega⟩
    obtain ⟨o1, o2, o3⟩ := hR.2.2.2.2 b (by omega)
    have hg : (K b).2.2.2.2.1 = !decide (S.1 2 (6 * 2 + b) 5 = 0) := by rw [← o1]; rfl
    have ho := z_ot_eq (K := K) (W := W) (n := n) (b0 := b) (by omega)
    rw [ze_X11_odds_61, if_neg (by rw [hc, z_le (by omega) (by omega)]; omega), z_oob_n (k := b) (by omega) (by omega), z_cl (k := b) (by omega)]
    rw [z_cond_f]
    try dsimp only
    rw [nI_1, o2]
    have hstep : ∀ y : Int32, y = z_lke K W n q b → zr_X11_odds ex (N + 1) 61 [some (.inr (.inr (11, 0))), none, some (.inl q), some (.inl part), some (.inl (z_sg (z_fw K W) 0 n 0)), some (.inl (x + y)), some (.inl (nI (b + 1))), none, none] [] S = z_rL (ex 121 [.inl (z_sg (z_lke K W n q) b (m + 1) x), .inl (S.1 7 0 1), .inl part] S) (fun r7 S6 => some (some (.inr (.inl r7)), S6)) := by
      intro y hy
      rw [ih (b + 1) N (x + y) (by omega) (by omega), hy]
      rfl
    have h0 := hstep 0
    rw [Int32.add_zero] at h0
    by_cases g : S.1 2 (6 * 2 + b) 5 = 0
    · rw [decide_eq_true g] at hg
      rw [hg] at ho
      have ho : z_ot K W n b = z_sg (z_fw K W) 0 n 0 - W b := ho
      rw [if_pos g, ← ho]
      unfold z_lke at h0 hstep
      by_cases z : q < z_ot K W n b
      · rw [if_pos z]; exact h0 (if_neg (Int32.not_le.mpr z)).symm
      · rw [if_neg z]; exact hstep 1 (if_pos (Int32.not_lt.mp z)).symm
    · rw [decide_eq_false g] at hg
      rw [hg] at ho
      have ho : z_ot K W n b = z_sg (z_fw K W) 0 n 0 := ho
      rw [if_neg g, ← ho]
      rw [← ho] at h0 hstep
      unfold z_lke at h0 hstep
      by_cases z : q < z_ot K W n b
      · rw [if_pos z]; exact h0 (if_neg (Int32.not_le.mpr z)).symm
      · rw [if_neg z]; exact hstep 1 (if_pos (Int32.not_lt.mp z)).symm
/-- the model takes a pair away, or brings it back -/
theorem s_goes1 (d b : Nat) (S : z_Mem) : z_exe z_mt true (d + 1) 138 [.inr (.inr (12, 0)), .inl (nI b), .inl (1 : Int32)] S = some (none, z_sI S 12 0 1 (S.1 12 0 1 ||| ((1 : Int32) <<< (nI b &&& 31)))) := by
  have e : z_exe z_mt true (d + 1) 138 [.inr (.inr (12, 0)), .inl (nI b), .inl ((1 : Int32))] S = _ := (zx_X12_goes d S 0 (nI b) ((1 : Int32))).trans (ze_X12_goes_0 _ _ _ _ _ _)
  rw [e, if_neg z_01n]
theorem s_goes0 (d b : Nat) (S : z_Mem) : z_exe z_mt true (d + 1) 138 [.inr (.inr (12, 0)), .inl (nI b), .inl (0 : Int32)] S = some (none, z_sI S 12 0 1 (S.1 12 0 1 &&& (((1 : Int32) <<< (nI b &&& 31)) ^^^ (-1 : Int32)))) := by
  have e : z_exe z_mt true (d + 1) 138 [.inr (.inr (12, 0)), .inl (nI b), .inl ((0 : Int32))] S = _ := (zx_X12_goes d S 0 (nI b) ((0 : Int32))).trans (ze_X12_goes_0 _ _ _ _ _ _)
  rw [e, if_pos rfl]
theorem z_km_goes {b b' : Nat} {S : z_Mem} {x : Int32} (hb' : b' < 6) {g : Bool} (hx : z_bt x b' = g) : z_km b' (z_sI S 12 0 1 x) = ((z_km b' S).1, ((z_km b' S).2.1, ((z_km b' S).2.2.1, ((z_km b' S).2.2.2.1, (g, (z_km b' S).2.2.2.2.2))))) := by
  have e : (z_sI S 12 0 1 x).1 12 0 1 = x := by rw [z_sI1, if_pos ⟨rfl, rfl, rfl⟩]
  unfold z_km
  rw [e, Bool.eq_iff_iff.mpr (decide_eq_true_iff.trans (z_has_iff x hb')), hx]
  rfl
theorem l_oddsM (d c0 n M hr : Nat) (ht : Int32) (H : z_H) (K : Nat → z_K) (W C : Nat → Int32) (q part : Int32) (hH : z_hwf H) (hn : n ≤ 6) (hM : M ≤ 60) (hhr : hr ≤ 9999) (hC : ∀ b, b < n → ∃ k : Nat, k ≤ hr ∧ C b = nI k) : ∀ (m b N : Nat) (x : Int32) (S : z_Mem), b + m = n → m < N → S.1 12 0 29 = 9999 → z_Rm c0 H n ht hr K W C S →
    ∃ S', z_fx z_Psc S S' ∧ zr_X12_odds (z_exe z_mt true (d + 7)) (N + 1) 47 [some (.inr (.inr (12, 0))), some (.inl (nI M)), some (.inl q), some (.inl part), some (.inl x), some (.inl (nI b))] [] S = z_rL (z_exe z_mt true (d + 7) 199 [.inr (.inr (12, 0)), .inl (z_sg (z_lke K (fun b => z_wN H (K b) M ht hr (W b)) n q) b m x), .inl (nI n), .inl part] S') (fun r7 S6 => some (some (.inr (.inl r7)), S6)) := by
  intro m
  induction m with
  | zero =>
    intro b N x S hb hN h29 hR
    refine ⟨S, z_fx.rf, ?_⟩
    rw [ze_X12_odds_47, hR.1, if_pos (by rw [z_le (by omega) (by omega)]; omega)]
    rfl
  | succ m ih =>
    intro b N x S hb hN h29 hR
    obtain ⟨N, rfl⟩ : ∃ N', N = N' + 1 := ⟨N - 1, by omega⟩
    obtain ⟨S1, e1, hs, hR1, hmo⟩ := s_mSave (d + 6) c0 n hr H ht K W C S hR
    have hg1 := s_goes1 (d + 6) b S1
    have hf1 : z_fx z_Prn S1 (z_sI S1 12 0 1 (S1.1 12 0 1 ||| ((1 : Int32) <<< (nI b &&& 31)))) := z_fx.sI (Or.inl ⟨rfl, Or.inl ⟨rfl, by omega, by omega⟩⟩)
    have hR2 : z_Rm c0 H n ht hr (fun o => if o = b then z_kg (K o) else K o) W C (z_sI S1 12 0 1 (S1.1 12 0 1 ||| ((1 : Int32) <<< (nI b &&& 31)))) := by
      obtain ⟨r1, r2, r3, r4, r5⟩ := hR1
      refine ⟨r1, r2.fx (P := fun t i k => t = 12 ∧ k = 1) (z_fx.sI ⟨rfl, rfl⟩) (fun t i k a c => by omega) (by omega), r3, r4, fun o ho => ?_⟩
      obtain ⟨o1, o2, o3⟩ := r5 o ho
      refine ⟨?_, o2, o3⟩
      show _ = (if o = b then z_kg (K o) else K o)
      rw [z_km_goes (b := b) (by omega) (z_bt_or (b := b) (k := o) (S1.1 12 0 1) (by omega) (by omega)), ← o1]
      by_cases hq : o = b
      · rw [if_pos hq, decide_eq_true hq, Bool.or_true]
        rfl
      · rw [if_neg hq, decide_eq_false hq, Bool.or_false]
        have : z_bt (S1.1 12 0 1) o = (z_km o S1).2.2.2.2.1 := by
          unfold z_km
          exact (Bool.eq_iff_iff.mpr (decide_eq_true_iff.trans (z_has_iff _ (by omega)))).symm
        rw [this]
    obtain ⟨z, S3, e3, rfl, hR3, hf3⟩ := s_mhours d c0 n M 2000000000 hr H ht _ W C _ hH hn (by omega) (by omega) (by omega) (by omega) (by rw [hf1.i (by unfold z_Prn; omega)]; exact hmo) hR2 hC
    obtain ⟨S4, e4, hf4⟩ := s_mBack (d + 6) h29 hs (hf1.tr (z_Pm_Prn hf3))
    have hR4 : z_Rm c0 H n ht hr K W C S4 := hR.fx hf4 (fun t i k q => by unfold z_Psc; omega)
    obtain ⟨S5, hf5, e5⟩ := ih (b + 1) N (x + z_lke K (fun b => z_wN H (K b) M ht hr (W b)) n q b) S4 (by omega) (by omega) (by rw [hf4.i (by unfold z_Psc; omega)]; exact h29) hR4
    refine ⟨S5, hf4.tr hf5, ?_⟩
    rw [ze_X12_odds_47, hR.1, if_neg (by rw [z_le (by omega) (by omega)]; omega), e1, z_rV_s, hg1, z_rV_s, e3, z_rV_s, s_wetHere (d + 5) c0 n _ _ H _ _ _ S3 hn hR3, z_rI_s]
    have hw : z_sg (z_fw (fun o => if o = b then z_kg (K o) else K o) (fun o => z_wN H (if o = b then z_kg (K o) else K o) M ht hr (W o))) 0 n 0 = z_ot K (fun b => z_wN H (K b) M ht hr (W b)) n b := by
      refine z_sg_cg n 0 0 (fun o _ _ => ?_)
      unfold z_fw
      by_cases hq : o = b
      · simp only [if_pos hq]
        rfl
      · simp only [if_neg hq]
    have hs2 : z_sg (z_lke K (fun b => z_wN H (K b) M ht hr (W b)) n q) b (m + 1) x = z_sg (z_lke K (fun b => z_wN H (K b) M ht hr (W b)) n q) (b + 1) m (x + z_lke K (fun b => z_wN H (K b) M ht hr (W b)) n q b) := rfl
    rw [hw, nI_1, hs2]
    by_cases z : q < z_ot K (fun b => z_wN H (K b) M ht hr (W b)) n b
    · have hv : z_lke K (fun b => z_wN H (K b) M ht hr (W b)) n q b = 0 := if_neg (Int32.not_le.mpr z)
      rw [hv] at e5 ⊢
      rw [if_pos z]
      try dsimp only
      rw [e4, z_rV_s]
      exact e5
    · have hv : z_lke K (fun b => z_wN H (K b) M ht hr (W b)) n q b = 1 := if_pos (Int32.not_lt.mp z)
      rw [hv] at e5 ⊢
      rw [if_neg z]
      try dsimp only
      rw [e4, z_rV_s]
      exact e5
theorem c_odds (S : z_Mem) (hR : z_RL S) (v1 v2 v3 : Int32) : z_both 98 200 [.inl v1, .inl v2, .inl v3] S := by
  obtain ⟨hts, hN, ⟨n, hr, h, c0, ht, wd, H, K, W, C, hA, hB⟩, hI, hT, hP, hAc⟩ := id hR
  obtain ⟨⟨hn, hhr, hwd, hH, hts6⟩, hh6⟩ := hA.1
  have hC := fun b hb => (hA.2.2 b hb).1.2.2
  have c7 : S.1 7 0 1 = nI n := hA.2.1.1.1
  have c12 : S.1 12 0 0 = nI n := hA.2.1.2.1
  by_cases hv : (0 ≤ v1 ∧ v1 ≤ 60) ∧ (0 ≤ v2 ∧ v2 ≤ 999) ∧ (0 ≤ v3 ∧ v3 ≤ 1) ∧ 0 < n
  · obtain ⟨hv1, hv2, hv3, hn0⟩ := hv
    obtain ⟨M, hM, rfl⟩ := z_rg (n := 60) (by omega) hv1
    obtain ⟨s, hs, es⟩ := z_sg_nI (f := z_lke K (fun b => z_wN H (K b) M ht hr (W b)) n v2) (c := 1) n 0 0 (fun k _ hk => by
      unfold z_lke
      by_cases q : z_ot K (fun b => z_wN H (K b) M ht hr (W b)) n k ≤ v2
      · rw [if_pos q]; exact ⟨1, by omega, rfl⟩
      · rw [if_neg q]; exact ⟨0, by omega, rfl⟩)
    have hne : ¬ nI n = 0 := nI_ne0 hn0 (by omega)
    have hlt : 0 < nI n := by rw [show (0 : Int32) = nI 0 from rfl, nI_ltI (by omega) (by omega)]; exact hn0
    refine z_ask (v := .inr (.inl (z_fr s n v3))) hR ?_ (fun S' hf => ?_)
    · have e : z_exe z_mt true 40 98 [.inr (.inr (11, 0)), .inl (nI M), .inl v2, .inl v3] S = _ := (zx_X11_odds 39 S 0 (nI M) v2 v3).trans (ze_X11_odds_0 _ _ _ _ _ _ _)
      obtain ⟨q, S1, e1, rfl, k1, k2, k3⟩ := s_tryHours 32 M hts n hr h c0 ht wd H K W C S hA hM
      refine ⟨S1, ?_, z_Ptr_sk k3⟩
      have k := l_oddsC (z_exe z_mt true 39) h n _ _ H K _ _ v2 v3 S1 hn k2 k1 n 0 999998 (nI 0) (by omega) (by omega)
      rw [es, k3.i (t := 7) (i := 0) (k := 1) (by unfold z_Ptr; omega), c7, s_fracC 37 s n v3 S1 (by omega) hn0 hn, z_rL_s] at k
      rw [e, s_outside, z_rI_s, z_b1_F (fun z => z hv1), if_pos rfl, s_outside, z_rI_s, z_b1_F (fun z => z hv2), if_pos rfl, s_outside, z_rI_s, z_b1_F (fun z => z hv3), if_pos rfl, c7, if_pos hlt, e1, z_rV_s, s_wetOfThoseHere 38 2 h n _ _ H K _ _ S1 hn k2 k1, z_rI_s]
      exact k
    · have hA' := hA.sk hf
      have hN' := hN.sk hf
      have hB' := hB.sk hf
      have c7' : S'.1 7 0 1 = nI n := hA'.2.1.1.1
      have c12' : S'.1 12 0 0 = nI n := hA'.2.1.2.1
      have e : z_exe z_mt true 40 200 [.inr (.inr (12, 0)), .inl (nI M), .inl v2, .inl v3] S' = _ := (zx_X12_odds 39 S' 0 (nI M) v2 v3).trans (ze_X12_odds_0 _ _ _ _ _ _ _)
      obtain ⟨S1, f1, e1⟩ := l_oddsM 32 c0 n M hr ht H K W C v2 v3 hH hn hM hhr hC n 0 999998 (nI 0) S' (by omega) (by omega) hN'.2.2.2.1 hA'.Rm
      rw [es, s_fracM 37 s n v3 S1 (by omega) hn0 hn, z_rL_s] at e1
      refine ⟨S1, ?_, z_Psc_sk f1⟩
      rw [e, s_isHours, z_rI_s, z_b1_T hv1, if_neg z_01n, s_in, z_rI_s, z_b1_T hv2, if_neg z_01n, s_in, z_rI_s, z_b1_T hv3, if_neg z_01n, c12', if_neg hne]
      exact e1
  · refine z_ask (v := z_NOv) hR ⟨S, ?_, z_fx.rf⟩ (fun S' hf => ⟨S', ?_, z_fx.rf⟩)
    · have e : z_exe z_mt true 40 98 [.inr (.inr (11, 0)), .inl v1, .inl v2, .inl v3] S = _ := (zx_X11_odds 39 S 0 v1 v2 v3).trans (ze_X11_odds_0 _ _ _ _ _ _ _)
      rw [e, s_outside, z_rI_s]
      by_cases q1 : 0 ≤ v1 ∧ v1 ≤ 60
      · rw [z_b1_F (fun z => z q1), if_pos rfl, s_outside, z_rI_s]
        by_cases q2 : 0 ≤ v2 ∧ v2 ≤ 999
        · rw [z_b1_F (fun z => z q2), if_pos rfl, s_outside, z_rI_s]
          by_cases q3 : 0 ≤ v3 ∧ v3 ≤ 1
          · have : n = 0 := by
              by_cases q4 : 0 < n
              · exact absurd ⟨q1, q2, q3, q4⟩ hv
              · omega
            rw [z_b1_F (fun z => z q3), if_pos rfl, c7, this, if_neg (by decide)]
            rfl
          · rw [z_b1_T q3, if_neg z_01n]; rfl
        · rw [z_b1_T q2, if_neg z_01n]; rfl
      · rw [z_b1_T q1, if_neg z_01n]; rfl
    · have hA' := hA.sk hf
      have hN' := hN.sk hf
      have hB' := hB.sk hf
      have c7' : S'.1 7 0 1 = nI n := hA'.2.1.1.1
      have c12' : S'.1 12 0 0 = nI n := hA'.2.1.2.1
      have e : z_exe z_mt true 40 200 [.inr (.inr (12, 0)), .inl v1, .inl v2, .inl v3] S' = _ := (zx_X12_odds 39 S' 0 v1 v2 v3).trans (ze_X12_odds_0 _ _ _ _ _ _ _)
      rw [e, s_isHours, z_rI_s]
      by_cases q1 : 0 ≤ v1 ∧ v1 ≤ 60
      · rw [z_b1_T q1, if_neg z_01n, s_in, z_rI_s]
        by_cases q2 : 0 ≤ v2 ∧ v2 ≤ 999
        · rw [z_b1_T q2, if_neg z_01n, s_in, z_rI_s]
          by_cases q3 : 0 ≤ v3 ∧ v3 ≤ 1
          · have : n = 0 := by
              by_cases q4 : 0 < n
              · exact absurd ⟨q1, q2, q3, q4⟩ hv
              · omega
            rw [z_b1_T q3, if_neg z_01n, c12', this, if_pos (by decide)]
            rfl
          · rw [z_b1_F q3, if_pos rfl]; rfl
        · rw [z_b1_F q2, if_pos rfl]; rfl
      · rw [z_b1_F q1, if_pos rfl]; rfl
