/-! ===== tapes ===== -/
def z_Pt (t _ _ : Nat) : Prop := t = 10 ∨ t = 34 ∨ (81 ≤ t ∧ t ≤ 84)
theorem z_RL.tp {S S' : z_Mem} (hR : z_RL S) (hf : z_fx z_Pt S S') (hP' : z_LP S') : z_RL S' := by
  obtain ⟨hts, hN, ⟨n, hr, h, c0, ht, wd, H, K, W, C, hA, hB⟩, hI, hT, hP, hAc⟩ := hR
  exact ⟨hts, hN.cg (fun t i k q => hf.i (by unfold z_Pt; omega)) hf.2.1, ⟨n, hr, h, c0, ht, wd, H, K, W, C, hA.cg (fun t i k q _ _ _ _ _ _ => hf.i (by unfold z_FA at q; unfold z_Pt; omega)) (by rw [hf.r (by unfold z_Pt; omega)]), hB.cg (fun t i k q => hf.i (by unfold z_FB at q; unfold z_Pt; omega))⟩, hI.cg (fun t i k q => hf.i (by unfold z_FI at q; unfold z_Pt; omega)) (by rw [hf.r (by unfold z_Pt; omega)]), hT.cg (fun t i k q => hf.i (by unfold z_Pt; omega)), hP', hAc.cg (fun t i k q => hf.i (by unfold z_Pt; omega))⟩
theorem z_inl {v : Int32} {len : Nat} (hl : len ≤ 60) : (0 ≤ v ∧ v ≤ nI len - 1) ↔ (¬ v < 0 ∧ v < nI len) := by
  by_cases q : v < 0
  · exact ⟨fun h => absurd q (Int32.not_lt.mpr h.1), fun h => absurd q h.1⟩
  · obtain ⟨k, hk, rfl⟩ := nI_of q
    match len, hl with
    | 0, _ =>
      refine ⟨fun h => ?_, fun h => ?_⟩
      · exact absurd (Int32.le_trans h.1 h.2) (by decide)
      · have := h.2
        rw [nI_ltI hk (by omega)] at this
        omega
    | len + 1, hl =>
      rw [nI_pred, nI_leI hk (by omega), nI_ltI hk (by omega)]
      exact ⟨fun h => ⟨q, by omega⟩, fun h => ⟨Int32.not_lt.mp q, by omega⟩⟩
theorem z_tix (t k : Nat) : (60 : Int32) * nI t + nI k = nI (60 * t + k) := by
  rw [show (60 : Int32) * nI t = nI (60 * t) from pk_mul 60 t, nI_add]
theorem z_n1lt : (-1 : Int32) < 0 := by decide
theorem c_read (S : z_Mem) (hR : z_RL S) (v1 v2 : Int32) : z_both 113 226 [.inl v1, .inl v2] S := by
  obtain ⟨hts, hN, ⟨n, hr, h, c0, ht, wd, H, K, W, C, hA, hB⟩, hI, hT, hP, hAc⟩ := id hR
  obtain ⟨⟨hn, hhr, hwd, hH, hts6⟩, hh6⟩ := hA.1
  have hC := fun b hb => (hA.2.2 b hb).1.2.2
  have c7 : S.1 7 0 1 = nI n := hA.2.1.1.1
  have c12 : S.1 12 0 0 = nI n := hA.2.1.2.1
  by_cases h1 : 0 ≤ v1 ∧ v1 ≤ 5
  · obtain ⟨t, ht5, rfl⟩ := z_rg (n := 5) (by omega) h1
    obtain ⟨a1, a2, len, hl, a3, a4, a5⟩ := hP t (by omega)
    by_cases h2 : ¬ v2 < 0 ∧ v2 < nI len
    · obtain ⟨k, hk, rfl⟩ := nI_of h2.1
      have hkl : k < len := (nI_ltI hk (by omega)).mp h2.2
      have hs : ∃ s : Nat, s ≤ 4 ∧ S.1 10 t 0 = nI s := by
        rcases a4 with ⟨-, z⟩ | z
        · omega
        · exact z
      obtain ⟨s, hs4, es⟩ := hs
      refine z_no (v := .inr (.inl (S.2.1 34 t k))) hR ?_ ?_
      · have e : z_exe z_mt true 40 113 [.inr (.inr (11, 0)), .inl (nI t), .inl (nI k)] S = _ := (zx_X11_read 39 S 0 (nI t) (nI k)).trans (ze_X11_read_0 _ _ _ _ _ _)
        rw [e, s_outside, z_rI_s, z_b1_F (fun z => z h1), if_pos rfl, z_oob_n (k := t) (by omega) (by omega), z_cond_f, z_cl (k := t) (by omega), if_neg h2.1, a3, if_pos h2.2, z_oob_n (k := k) (by omega) (by omega), z_cond_f, z_cl (k := k) (by omega)]
      · have e : z_exe z_mt true 40 226 [.inr (.inr (12, 0)), .inl (nI t), .inl (nI k)] S = _ := (zx_X12_read 39 S 0 (nI t) (nI k)).trans (ze_X12_read_0 _ _ _ _ _ _)
        rw [e, s_isTape, z_rI_s, z_b1_T h1, if_neg z_01n, z_oob_n (k := t) (by omega) (by omega), z_cond_f, z_cl (k := t) (by omega), ← a1, es, if_neg (nI_pos (by omega)), z_cond_f, ← a2, a3, s_in, z_rI_s, z_b1_T ((z_inl hl).mpr h2), if_neg z_01n, z_tix, z_oob_n (k := 60 * t + k) (by omega) (by omega), z_cond_f, z_cl (k := 60 * t + k) (by omega), a5 k hkl]
    · refine z_no (v := z_NOv) hR ?_ ?_
      · have e : z_exe z_mt true 40 113 [.inr (.inr (11, 0)), .inl (nI t), .inl v2] S = _ := (zx_X11_read 39 S 0 (nI t) v2).trans (ze_X11_read_0 _ _ _ _ _ _)
        rw [e, s_outside, z_rI_s, z_b1_F (fun z => z h1), if_pos rfl, z_oob_n (k := t) (by omega) (by omega), z_cond_f, z_cl (k := t) (by omega), a3]
        by_cases q : v2 < 0
        · rw [if_pos q]; rfl
        · rw [if_neg q, if_neg (fun z => h2 ⟨q, z⟩)]; rfl
      · have e : z_exe z_mt true 40 226 [.inr (.inr (12, 0)), .inl (nI t), .inl v2] S = _ := (zx_X12_read 39 S 0 (nI t) v2).trans (ze_X12_read_0 _ _ _ _ _ _)
        rw [e, s_isTape, z_rI_s, z_b1_T h1, if_neg z_01n, z_oob_n (k := t) (by omega) (by omega), z_cond_f, z_cl (k := t) (by omega), z_cond_f, ← a2, a3, s_in, z_rI_s, z_b1_F (fun z => h2 ((z_inl hl).mp z)), if_pos rfl]
        by_cases q : S.1 81 0 t < 0
        · rw [if_pos q]; rfl
        · rw [if_neg q]; rfl
  · refine z_no (v := z_NOv) hR ?_ ?_
    · have e : z_exe z_mt true 40 113 [.inr (.inr (11, 0)), .inl v1, .inl v2] S = _ := (zx_X11_read 39 S 0 v1 v2).trans (ze_X11_read_0 _ _ _ _ _ _)
      rw [e, s_outside, z_rI_s, z_b1_T h1, if_neg z_01n]; rfl
    · have e : z_exe z_mt true 40 226 [.inr (.inr (12, 0)), .inl v1, .inl v2] S = _ := (zx_X12_read 39 S 0 v1 v2).trans (ze_X12_read_0 _ _ _ _ _ _)
      rw [e, s_isTape, z_rI_s, z_b1_F h1, if_pos rfl]; rfl
/-- what an item of a sort keeps -/
def z_nw (s : Nat) (w : Int64) : Int64 := if s = 0 then Int32.toInt64 (Int8.toInt32 (Int32.toInt8 (Int64.toInt32 w))) else if s = 1 then Int32.toInt64 (Int16.toInt32 (Int32.toInt16 (Int64.toInt32 w))) else if s = 2 then Int32.toInt64 (Int64.toInt32 w) else if s = 3 then w else if lg_cmp w (Int64.ofNat 0) = 0 then Int64.ofNat 0 else Int64.ofNat 1
theorem s_narrowed (d t s : Nat) (w : Int64) (S : z_Mem) (hs : s ≤ 4) (h : S.1 10 t 0 = nI s) : z_exe z_mt true (d + 1) 74 [.inr (.inr (10, t)), .inr (.inl w)] S = some (some (.inr (.inl (z_nw s w))), S) := by
  have e : z_exe z_mt true (d + 1) 74 [.inr (.inr (10, t)), .inr (.inl w)] S = _ := (zx_X10_narrowed d S t w).trans (ze_X10_narrowed_0 _ _ _ _ _)
  have hc : s = 0 ∨ s = 1 ∨ s = 2 ∨ s = 3 ∨ s = 4 := by omega
  rw [e, h]
  rcases hc with rfl | rfl | rfl | rfl | rfl
  · rw [if_pos (by decide)]; rfl
  · rw [if_neg (by decide), if_pos (by decide)]; rfl
  · rw [if_neg (by decide), if_neg (by decide), if_pos (by decide)]; rfl
  · rw [if_neg (by decide), if_neg (by decide), if_neg (by decide), if_pos (by decide)]; rfl
  · rw [if_neg (by decide), if_neg (by decide), if_neg (by decide), if_neg (by decide)]
    show _ = some (some (Sum.inr (Sum.inl (if lg_cmp w (Int64.ofNat 0) = 0 then Int64.ofNat 0 else Int64.ofNat 1))), S)
    by_cases q : lg_cmp w (Int64.ofNat 0) = 0
    · rw [if_pos q, if_pos q]
    · rw [if_neg q, if_neg q]
theorem s_mNarrow (d s : Nat) (w : Int64) (S : z_Mem) (hs : s ≤ 4) : z_exe z_mt true (d + 1) 224 [.inr (.inr (12, 0)), .inl (nI s), .inr (.inl w)] S = some (some (.inr (.inl (z_nw s w))), S) := by
  have e : z_exe z_mt true (d + 1) 224 [.inr (.inr (12, 0)), .inl (nI s), .inr (.inl w)] S = _ := (zx_X12_narrow d S 0 (nI s) w).trans (ze_X12_narrow_0 _ _ _ _ _ _)
  have hc : s = 0 ∨ s = 1 ∨ s = 2 ∨ s = 3 ∨ s = 4 := by omega
  rw [e]
  rcases hc with rfl | rfl | rfl | rfl | rfl
  · rw [if_pos (by decide)]; rfl
  · rw [if_neg (by decide), if_pos (by decide)]; rfl
  · rw [if_neg (by decide), if_neg (by decide), if_pos (by decide)]; rfl
  · rw [if_neg (by decide), if_neg (by decide), if_neg (by decide), if_neg (by decide)]; rfl
  · rw [if_neg (by decide), if_neg (by decide), if_neg (by decide), if_pos (by decide)]
    show _ = some (some (Sum.inr (Sum.inl (if lg_cmp w (Int64.ofNat 0) = 0 then Int64.ofNat 0 else Int64.ofNat 1))), S)
    by_cases q : lg_cmp w (Int64.ofNat 0) = 0
    · rw [if_pos q, if_pos q]
    · rw [if_neg q, if_neg q]
theorem c_item (S : z_Mem) (hR : z_RL S) (v1 v2 : Int32) (w : Int64) : z_both 112 225 [.inl v1, .inl v2, .inr (.inl w)] S := by
  obtain ⟨hts, hN, ⟨n, hr, h, c0, ht, wd, H, K, W, C, hA, hB⟩, hI, hT, hP, hAc⟩ := id hR
  obtain ⟨⟨hn, hhr, hwd, hH, hts6⟩, hh6⟩ := hA.1
  have hC := fun b hb => (hA.2.2 b hb).1.2.2
  have c7 : S.1 7 0 1 = nI n := hA.2.1.1.1
  have c12 : S.1 12 0 0 = nI n := hA.2.1.2.1
  have eC : ∀ v1 v2, z_exe z_mt true 40 112 [.inr (.inr (11, 0)), .inl v1, .inl v2, .inr (.inl w)] S = _ := fun v1 v2 => (zx_X11_item 39 S 0 v1 v2 w).trans (ze_X11_item_0 _ _ _ _ _ _ _)
  have eM : ∀ v1 v2 S, z_exe z_mt true 40 225 [.inr (.inr (12, 0)), .inl v1, .inl v2, .inr (.inl w)] S = _ := fun v1 v2 S => (zx_X12_item 39 S 0 v1 v2 w).trans (ze_X12_item_0 _ _ _ _ _ _ _)
  by_cases h1 : 0 ≤ v1 ∧ v1 ≤ 5
  · obtain ⟨t, ht5, rfl⟩ := z_rg (n := 5) (by omega) h1
    obtain ⟨a1, a2, len, hl, a3, a4, a5⟩ := hP t (by omega)
    rcases a4 with ⟨so, l0⟩ | ⟨s, hs4, es⟩
    · refine z_no (v := .inl (-11)) hR ?_ ?_
      · rw [eC, s_outside, z_rI_s, z_b1_F (fun z => z h1), if_pos rfl, z_oob_n (k := t) (by omega) (by omega), z_cond_f, z_cl (k := t) (by omega), so, if_pos rfl]
      · rw [eM, s_isTape, z_rI_s, z_b1_T h1, if_neg z_01n, z_oob_n (k := t) (by omega) (by omega), z_cond_f, z_cl (k := t) (by omega), ← a1, so, if_neg (by decide)]
    · have hns : ¬ nI s = -1 := fun q => absurd (q ▸ nI_pos' (n := s) (by omega)) (by decide)
      by_cases h2 : ¬ v2 < 0 ∧ v2 < nI len
      · obtain ⟨k, hk, rfl⟩ := nI_of h2.1
        have hkl : k < len := (nI_ltI hk (by omega)).mp h2.2
        refine ⟨.inl 1, z_sL S 34 t k (z_nw s w), z_sL (z_sL S 34 t k (z_nw s w)) 83 0 (60 * t + k) (z_nw s w), ?_, ?_, ?_⟩
        · rw [eC, s_outside, z_rI_s, z_b1_F (fun z => z h1), if_pos rfl, z_oob_n (k := t) (by omega) (by omega), z_cond_f, z_cl (k := t) (by omega), es, if_neg hns, if_neg h2.1, a3, if_pos h2.2, s_narrowed 38 t s w S hs4 es, z_rL_s, z_oob_n (k := k) (by omega) (by omega), z_cond_f, z_cl (k := k) (by omega)]
        · have g81 : (z_sL S 34 t k (z_nw s w)).1 81 0 t = nI s := a1.symm.trans es
          have g82 : (z_sL S 34 t k (z_nw s w)).1 82 0 t = nI len := a2.symm.trans a3
          rw [eM, s_isTape, z_rI_s, z_b1_T h1, if_neg z_01n, z_oob_n (k := t) (by omega) (by omega)]
          simp only [z_cond_f]
          rw [z_cl (k := t) (by omega), g81, if_pos (nI_pos' (by omega)), g82, s_in, z_rI_s, z_b1_T ((z_inl hl).mpr h2), if_neg z_01n, g81, s_mNarrow 38 s w _ hs4, z_rL_s, z_tix, z_oob_n (k := 60 * t + k) (by omega) (by omega), z_cond_f, z_cl (k := 60 * t + k) (by omega)]
        · have f : z_fx z_Pt S (z_sL (z_sL S 34 t k (z_nw s w)) 83 0 (60 * t + k) (z_nw s w)) := (z_fx.sL (Or.inr (Or.inl rfl)) (Or.inr (Or.inl rfl))).tr (z_fx.sL (Or.inr (Or.inr ⟨by omega, by omega⟩)) (Or.inr (Or.inr (by omega))))
          refine hR.tp f (fun i hi => ?_)
          obtain ⟨b1, b2, len', hl', b3, b4, b5⟩ := hP i hi
          refine ⟨b1, b2, len', hl', b3, b4, fun j hj => ?_⟩
          by_cases qi : i = t
          · subst qi
            by_cases qj : j = k
            · subst qj; simp [z_sL2]
            · have : ¬ 60 * i + j = 60 * i + k := by omega
              simp [z_sL2, qj]
              exact b5 j hj
          · have h1 : ¬ 60 * i + j = 60 * t + k := by omega
            simp [z_sL2, qi, h1]
            exact b5 j hj
      · refine z_no (v := .inl (-13)) hR ?_ ?_
        · rw [eC, s_outside, z_rI_s, z_b1_F (fun z => z h1), if_pos rfl, z_oob_n (k := t) (by omega) (by omega), z_cond_f, z_cl (k := t) (by omega), es, if_neg hns, a3]
          by_cases q : v2 < 0
          · rw [if_pos q]
          · rw [if_neg q, if_neg (fun z => h2 ⟨q, z⟩)]
        · rw [eM, s_isTape, z_rI_s, z_b1_T h1, if_neg z_01n, z_oob_n (k := t) (by omega) (by omega)]
          simp only [z_cond_f]
          rw [z_cl (k := t) (by omega), ← a1, es, if_pos (nI_pos' (by omega)), ← a2, a3, s_in, z_rI_s, z_b1_F (fun z => h2 ((z_inl hl).mp z)), if_pos rfl]
  · refine z_no (v := .inl (-1)) hR ?_ ?_
    · rw [eC, s_outside, z_rI_s, z_b1_T h1, if_neg z_01n]
    · rw [eM, s_isTape, z_rI_s, z_b1_F h1, if_pos rfl]
/-! ===== a tape is made anew ===== -/
theorem l_fillL (ex : z_Ex) (i : Nat) (S0 : z_Mem) : ∀ (m k N : Nat) (S : z_Mem), k + m = 60 → m < N → (∀ j, j < k → S.2.1 34 i j = Int64.ofNat 0) → z_fx (fun t i' _ => t = 34 ∧ i' = i) S0 S →
    ∃ S', zr_J7_fill_d0a16 ex N 6 [some (.inr (.inr (34, i))), some (.inr (.inl (Int64.ofNat 0))), none, some (.inl (nI k)), some (.inl (nI 60))] [] S = some (none, S') ∧ (∀ j, j < 60 → S'.2.1 34 i j = Int64.ofNat 0) ∧ z_fx (fun t i' _ => t = 34 ∧ i' = i) S0 S' := by
  intro m
  induction m with
  | zero =>
    intro k N S hk hN h0 hf
    obtain ⟨N, rfl⟩ : ∃ N', N = N' + 1 := ⟨N - 1, by omega⟩
    rw [ze_J7_fill_d0a16_6, if_pos (by rw [z_le (by omega) (by omega)]; omega)]
    exact ⟨S, rfl, fun j hj => h0 j (by omega), hf⟩
  | succ m ih =>
    intro k N S hk hN h0 hf
    obtain ⟨N, rfl⟩ : ∃ N', N = N' + 1 := ⟨N - 1, by omega⟩
    rw [ze_J7_fill_d0a16_6, if_neg (by rw [z_le (by omega) (by omega)]; omega), z_oob_n (k := k) (by omega) (by omega), z_cond_f]
    dsimp only
    rw [z_cl (k := k) (by omega), nI_1]
    refine ih (k + 1) N _ (by omega) (by omega) (fun j hj => ?_) (hf.tr (z_fx.sL ⟨rfl, rfl⟩ (Or.inr (Or.inl rfl))))
    by_cases q : j = k
    · simp [z_sL2, q]
    · have := h0 j (by omega)
      simp [z_sL2, q, this]
theorem s_become2 (d i : Nat) (v1 v2 : Int32) (S : z_Mem) : ∃ S', z_exe z_mt true (d + 2) 72 [.inr (.inr (10, i)), .inl v1, .inl v2] S = some (none, S') ∧ S'.1 10 i 0 = v1 ∧ S'.1 10 i 1 = v2 ∧ (∀ j, j < 60 → S'.2.1 34 i j = Int64.ofNat 0) ∧ z_fx (fun t i' _ => (t = 10 ∨ t = 34) ∧ i' = i) S S' := by
  have e : z_exe z_mt true (d + 2) 72 [.inr (.inr (10, i)), .inl v1, .inl v2] S = _ := (zx_X10_become (d + 1) S i v1 v2).trans (ze_X10_become_0 _ _ _ _ _ _)
  have e2 : z_exe z_mt true (d + 1) 229 [.inr (.inr (34, i)), .inr (.inl (Int64.ofNat 0))] (z_sI (z_sI S 10 i 0 v1) 10 i 1 v2) = _ := (zx_J7_fill_d0a16 d (z_sI (z_sI S 10 i 0 v1) 10 i 1 v2) i (Int64.ofNat 0)).trans (ze_J7_fill_d0a16_0 _ _ _ _ _)
  obtain ⟨S', e3, h1, h2⟩ := l_fillL (z_exe z_mt true d) i (z_sI (z_sI S 10 i 0 v1) 10 i 1 v2) 60 0 999999 _ (by omega) (by omega) (fun j hj => by omega) z_fx.rf
  dsimp only at e
  rw [e2.trans e3, z_rV_s] at e
  refine ⟨S', e, ?_, ?_, h1, ?_⟩
  · rw [h2.i (by omega)]; simp [z_sI1]
  · rw [h2.i (by omega)]; simp [z_sI1]
  · exact ((z_fx.sI ⟨Or.inl rfl, rfl⟩).tr (z_fx.sI ⟨Or.inl rfl, rfl⟩)).tr (h2.wk (fun t i' k q => ⟨Or.inr q.1, q.2⟩))
theorem l_tape69 (ex : z_Ex) (t : Nat) (ht : t < 6) (S0 : z_Mem) : ∀ (m k N : Nat) (S : z_Mem), k + m = 60 → m < N → (∀ j, j < k → S.2.1 83 0 (60 * t + j) = Int64.ofNat 0) → z_fx (fun t' i j => t' = 83 ∧ i = 0 ∧ 60 * t ≤ j ∧ j < 60 * t + 60) S0 S →
    ∃ S', zr_X12_tape ex N 69 [some (.inr (.inr (12, 0))), some (.inl (nI t)), none, none, some (.inl (nI k))] [] S = some (some (.inl 1), S') ∧ (∀ j, j < 60 → S'.2.1 83 0 (60 * t + j) = Int64.ofNat 0) ∧ z_fx (fun t' i j => t' = 83 ∧ i = 0 ∧ 60 * t ≤ j ∧ j < 60 * t + 60) S0 S' := by
  intro m
  induction m with
  | zero =>
    intro k N S hk hN h0 hf
    obtain ⟨N, rfl⟩ : ∃ N', N = N' + 1 := ⟨N - 1, by omega⟩
    rw [ze_X12_tape_69, if_pos (by rw [show (60 : Int32) = nI 60 from rfl, z_le (by omega) (by omega)]; omega)]
    exact ⟨S, rfl, fun j hj => h0 j (by omega), hf⟩
  | succ m ih =>
    intro k N S hk hN h0 hf
    obtain ⟨N, rfl⟩ : ∃ N', N = N' + 1 := ⟨N - 1, by omega⟩
    rw [ze_X12_tape_69, if_neg (by rw [show (60 : Int32) = nI 60 from rfl, z_le (by omega) (by omega)]; omega), z_tix, z_oob_n (k := 60 * t + k) (by omega) (by omega), z_cond_f]
    dsimp only
    rw [z_cl (k := 60 * t + k) (by omega), nI_1]
    refine ih (k + 1) N _ (by omega) (by omega) (fun j hj => ?_) (hf.tr (z_fx.sL ⟨rfl, rfl, by omega, by omega⟩ (Or.inr (Or.inr (by omega)))))
    by_cases q : j = k
    · simp [z_sL2, q]
    · have := h0 j (by omega)
      simp [z_sL2, q, this]
/-- both sides make tape t anew, of sort v2 and length len -/
theorem c_tapeGo (S : z_Mem) (hR : z_RL S) (t len : Nat) (v2 v3 vl : Int32) (ht : t < 6) (hl : len ≤ 60) (hvl : vl = nI len) (hs : (v2 = -1 ∧ len = 0) ∨ ∃ s : Nat, s ≤ 4 ∧ v2 = nI s)
    (hcl : ∀ S1, z_exe z_mt true 39 72 [.inr (.inr (10, t)), .inl v2, .inl vl] S = some (none, S1) → z_exe z_mt true 40 111 [.inr (.inr (11, 0)), .inl (nI t), .inl v2, .inl v3] S = some (some (.inl 1), S1))
    (hml : ∀ S1, ∃ N, N > 100 ∧ z_exe z_mt true 40 223 [.inr (.inr (12, 0)), .inl (nI t), .inl v2, .inl v3] S1 = zr_X12_tape (z_exe z_mt true 39) N 69 [some (.inr (.inr (12, 0))), some (.inl (nI t)), none, none, some (.inl (0 : Int32))] [] (z_sI (z_sI S1 81 0 t v2) 82 0 t vl)) : z_both 111 223 [.inl (nI t), .inl v2, .inl v3] S := by
  obtain ⟨hts, hN, ⟨n, hr, h, c0, ht', wd, H, K, W, C, hA, hB⟩, hI, hT, hP, hAc⟩ := id hR
  obtain ⟨S1, e1, b1, b2, b3, f1⟩ := s_become2 37 t v2 vl S
  obtain ⟨N, hN', e2⟩ := hml S1
  obtain ⟨S3, e3, m3, f3⟩ := l_tape69 (z_exe z_mt true 39) t ht (z_sI (z_sI S1 81 0 t v2) 82 0 t vl) 60 0 N _ (by omega) (by omega) (fun j hj => by omega) z_fx.rf
  rw [nI_0] at e3
  have f2 : z_fx (fun t' i k => (t' = 81 ∨ t' = 82) ∧ i = 0 ∧ k = t) S1 (z_sI (z_sI S1 81 0 t v2) 82 0 t vl) := (z_fx.sI ⟨Or.inl rfl, rfl, rfl⟩).tr (z_fx.sI ⟨Or.inr rfl, rfl, rfl⟩)
  refine ⟨.inl 1, S1, S3, hcl S1 e1, e2.trans e3, hR.tp (((f1.wk (fun t i k q => by unfold z_Pt; omega)).tr (f2.wk (fun t i k q => by unfold z_Pt; omega))).tr (f3.wk (fun t i k q => by unfold z_Pt; omega))) (fun i hi => ?_)⟩
  by_cases q : i = t
  · subst q
    have g0 : S3.1 10 i 0 = v2 := (f3.i (by omega)).trans ((f2.i (by omega)).trans b1)
    have g1 : S3.1 10 i 1 = vl := (f3.i (by omega)).trans ((f2.i (by omega)).trans b2)
    refine ⟨?_, ?_, len, hl, g1.trans hvl, ?_, fun k hk => ?_⟩
    · rw [g0, f3.i (by omega)]; simp [z_sI1]
    · rw [g1, f3.i (by omega)]; simp [z_sI1]
    · rw [g0]; exact hs
    · rw [m3 k (by omega), f3.l (by omega), f2.l (by omega)]; exact b3 k (by omega)
  · obtain ⟨a1, a2, len', hl', a3, a4, a5⟩ := hP i hi
    have g : ∀ k, S3.1 10 i k = S.1 10 i k := fun k => (f3.i (by omega)).trans ((f2.i (by omega)).trans (f1.i (by omega)))
    have g81 : S3.1 81 0 i = S.1 81 0 i := (f3.i (by omega)).trans ((f2.i (by omega)).trans (f1.i (by omega)))
    have g82 : S3.1 82 0 i = S.1 82 0 i := (f3.i (by omega)).trans ((f2.i (by omega)).trans (f1.i (by omega)))
    refine ⟨by rw [g, g81]; exact a1, by rw [g, g82]; exact a2, len', hl', by rw [g]; exact a3, by rw [g]; exact a4, fun k hk => ?_⟩
    rw [f3.l (by omega), f3.l (t := 83) (by omega), f2.l (by omega), f2.l (t := 83) (by omega), f1.l (by omega), f1.l (t := 83) (by omega)]
    exact a5 k hk
theorem c_tape (S : z_Mem) (hR : z_RL S) (v1 v2 v3 : Int32) : z_both 111 223 [.inl v1, .inl v2, .inl v3] S := by
  by_cases h1 : 0 ≤ v1 ∧ v1 ≤ 5
  · obtain ⟨t, ht5, rfl⟩ := z_rg (n := 5) (by omega) h1
    by_cases hm : v2 = -1
    · subst hm
      refine c_tapeGo S hR t 0 (-1) v3 0 (by omega) (by omega) rfl (Or.inl ⟨rfl, rfl⟩) (fun S1 e1 => ?_) (fun S1 => ⟨999999, by omega, ?_⟩)
      · have e : z_exe z_mt true 40 111 [.inr (.inr (11, 0)), .inl (nI t), .inl ((-1 : Int32)), .inl v3] S = _ := (zx_X11_tape 39 S 0 (nI t) ((-1 : Int32)) v3).trans (ze_X11_tape_0 _ _ _ _ _ _ _)
        rw [e, s_outside, z_rI_s, z_b1_F (fun z => z h1), if_pos rfl, if_pos rfl, z_oob_n (k := t) (by omega) (by omega), z_cond_f, z_cl (k := t) (by omega), e1, z_rV_s]
      · have e : z_exe z_mt true 40 223 [.inr (.inr (12, 0)), .inl (nI t), .inl ((-1 : Int32)), .inl v3] S1 = _ := (zx_X12_tape 39 S1 0 (nI t) ((-1 : Int32)) v3).trans (ze_X12_tape_0 _ _ _ _ _ _ _)
        rw [e, s_isTape, z_rI_s, z_b1_T h1, if_neg z_01n, s_in, z_rI_s, z_b1_T (c := (-1 : Int32) ≤ -1 ∧ (-1 : Int32) ≤ 4) (by decide), if_neg z_01n, if_pos (by decide), if_pos (by decide), z_oob_n (k := t) (by omega) (by omega), z_cond_f]
        dsimp only
        rw [if_neg (show ¬ (0 : Int32) ≤ -1 by decide), z_cond_f, z_cl (k := t) (by omega)]
    · by_cases h2 : 0 ≤ v2 ∧ v2 ≤ 4
      · obtain ⟨s, hs4, rfl⟩ := z_rg (n := 4) (by omega) h2
        have h2' : (-1 : Int32) ≤ nI s ∧ nI s ≤ 4 := ⟨Int32.le_trans (by decide) h2.1, h2.2⟩
        by_cases h3 : v3 ≤ 60
        · by_cases h4 : 0 ≤ v3
          · obtain ⟨len, hl, rfl⟩ := z_rg (n := 60) (by omega) ⟨h4, h3⟩
            refine c_tapeGo S hR t len (nI s) (nI len) (nI len) (by omega) hl rfl (Or.inr ⟨s, hs4, rfl⟩) (fun S1 e1 => ?_) (fun S1 => ⟨999999, by omega, ?_⟩)
            · have e : z_exe z_mt true 40 111 [.inr (.inr (11, 0)), .inl (nI t), .inl (nI s), .inl (nI len)] S = _ := (zx_X11_tape 39 S 0 (nI t) (nI s) (nI len)).trans (ze_X11_tape_0 _ _ _ _ _ _ _)
              rw [e, s_outside, z_rI_s, z_b1_F (fun z => z h1), if_pos rfl, if_neg hm, s_outside, z_rI_s, z_b1_F (fun z => z h2), if_pos rfl, if_pos h3, if_pos h4, z_oob_n (k := t) (by omega) (by omega), z_cond_f, z_cl (k := t) (by omega), e1, z_rV_s]
            · have e : z_exe z_mt true 40 223 [.inr (.inr (12, 0)), .inl (nI t), .inl (nI s), .inl (nI len)] S1 = _ := (zx_X12_tape 39 S1 0 (nI t) (nI s) (nI len)).trans (ze_X12_tape_0 _ _ _ _ _ _ _)
              rw [e, s_isTape, z_rI_s, z_b1_T h1, if_neg z_01n, s_in, z_rI_s, z_b1_T h2', if_neg z_01n, if_neg (nI_pos (by omega)), if_pos h3, if_neg (nI_pos (by omega)), if_pos h4, z_oob_n (k := t) (by omega) (by omega), z_cond_f]
              dsimp only
              rw [if_pos h2.1, z_cond_f, z_cl (k := t) (by omega)]
          · refine z_no (v := .inl (-14)) hR ?_ ?_
            · have e : z_exe z_mt true 40 111 [.inr (.inr (11, 0)), .inl (nI t), .inl (nI s), .inl v3] S = _ := (zx_X11_tape 39 S 0 (nI t) (nI s) v3).trans (ze_X11_tape_0 _ _ _ _ _ _ _)
              rw [e, s_outside, z_rI_s, z_b1_F (fun z => z h1), if_pos rfl, if_neg hm, s_outside, z_rI_s, z_b1_F (fun z => z h2), if_pos rfl, if_pos h3, if_neg h4]
            · have e : z_exe z_mt true 40 223 [.inr (.inr (12, 0)), .inl (nI t), .inl (nI s), .inl v3] S = _ := (zx_X12_tape 39 S 0 (nI t) (nI s) v3).trans (ze_X12_tape_0 _ _ _ _ _ _ _)
              rw [e, s_isTape, z_rI_s, z_b1_T h1, if_neg z_01n, s_in, z_rI_s, z_b1_T h2', if_neg z_01n, if_neg (nI_pos (by omega)), if_pos h3, if_neg (nI_pos (by omega)), if_neg h4]
        · refine z_no (v := .inl (-2)) hR ?_ ?_
          · have e : z_exe z_mt true 40 111 [.inr (.inr (11, 0)), .inl (nI t), .inl (nI s), .inl v3] S = _ := (zx_X11_tape 39 S 0 (nI t) (nI s) v3).trans (ze_X11_tape_0 _ _ _ _ _ _ _)
            rw [e, s_outside, z_rI_s, z_b1_F (fun z => z h1), if_pos rfl, if_neg hm, s_outside, z_rI_s, z_b1_F (fun z => z h2), if_pos rfl, if_neg h3]
          · have e : z_exe z_mt true 40 223 [.inr (.inr (12, 0)), .inl (nI t), .inl (nI s), .inl v3] S = _ := (zx_X12_tape 39 S 0 (nI t) (nI s) v3).trans (ze_X12_tape_0 _ _ _ _ _ _ _)
            rw [e, s_isTape, z_rI_s, z_b1_T h1, if_neg z_01n, s_in, z_rI_s, z_b1_T h2', if_neg z_01n, if_neg (nI_pos (by omega)), if_neg h3]
      · refine z_no (v := .inl (-2)) hR ?_ ?_
        · have e : z_exe z_mt true 40 111 [.inr (.inr (11, 0)), .inl (nI t), .inl v2, .inl v3] S = _ := (zx_X11_tape 39 S 0 (nI t) v2 v3).trans (ze_X11_tape_0 _ _ _ _ _ _ _)
          rw [e, s_outside, z_rI_s, z_b1_F (fun z => z h1), if_pos rfl, if_neg hm, s_outside, z_rI_s, z_b1_T h2, if_neg z_01n]
        · have e : z_exe z_mt true 40 223 [.inr (.inr (12, 0)), .inl (nI t), .inl v2, .inl v3] S = _ := (zx_X12_tape 39 S 0 (nI t) v2 v3).trans (ze_X12_tape_0 _ _ _ _ _ _ _)
          rw [e, s_isTape, z_rI_s, z_b1_T h1, if_neg z_01n, s_in, z_rI_s, z_b1_F, if_pos rfl]
          intro z
          by_cases q : 0 ≤ v2
          · exact h2 ⟨q, z.2⟩
          · have q1 : v2 < 0 := Int32.not_le.mp q
            have q2 : v2 ≤ -1 := by
              rw [Int32.lt_iff_toInt_lt] at q1
              rw [Int32.le_iff_toInt_le]
              have a : (0 : Int32).toInt = 0 := by decide
              have b : (-1 : Int32).toInt = -1 := by decide
              omega
            exact hm (Int32.le_antisymm q2 z.1)
  · refine z_no (v := .inl (-1)) hR ?_ ?_
    · have e : z_exe z_mt true 40 111 [.inr (.inr (11, 0)), .inl v1, .inl v2, .inl v3] S = _ := (zx_X11_tape 39 S 0 v1 v2 v3).trans (ze_X11_tape_0 _ _ _ _ _ _ _)
      rw [e, s_outside, z_rI_s, z_b1_T h1, if_neg z_01n]
    · have e : z_exe z_mt true 40 223 [.inr (.inr (12, 0)), .inl v1, .inl v2, .inl v3] S = _ := (zx_X12_tape 39 S 0 v1 v2 v3).trans (ze_X12_tape_0 _ _ _ _ _ _ _)
      rw [e, s_isTape, z_rI_s, z_b1_F h1, if_pos rfl]
