/-! ===== a room of the model, one hour, n hours ===== -/
def z_Rm (c0 : Nat) (H : z_H) (n : Nat) (ht : Int32) (hr : Nat) (K : Nat → z_K) (W C : Nat → Int32) (S : z_Mem) : Prop :=
  S.1 12 0 0 = nI n ∧ z_Hu c0 H S ∧ S.1 12 0 2 = ht ∧ S.1 12 0 4 = nI hr ∧ ∀ b, b < n → z_km b S = K b ∧ S.1 39 0 b = W b ∧ S.1 41 0 b = C b
/-- what the model's hours write -/
def z_Pm (t i k : Nat) : Prop := (t = 12 ∧ i = 0 ∧ (k = 2 ∨ k = 4)) ∨ ((t = 39 ∨ t = 41) ∧ i = 0 ∧ k < 6) ∨ t = 52
theorem z_Hd.fx {c0 : Nat} {H : z_H} {S S' : z_Mem} {P : Nat → Nat → Nat → Prop} (h : z_Hd c0 H S) (hf : z_fx P S S') (hp : ∀ t i k, 44 ≤ t → t ≤ 49 → ¬ P t i k) : z_Hd c0 H S' := by
  have e : ∀ t i k, 44 ≤ t → t ≤ 49 → S'.1 t i k = S.1 t i k := fun t i k a c => hf.i (hp t i k a c)
  intro j c hj
  obtain ⟨h1, h2, h3⟩ := h j c hj
  refine ⟨(e 45 0 _ (by decide) (by decide)).trans h1, (e 46 0 _ (by decide) (by decide)).trans h2, fun q => ?_⟩
  obtain ⟨a, k1, k2, k3, k4, k5⟩ := h3 q
  exact ⟨a, (e 47 0 _ (by decide) (by decide)).trans k1, (e 48 0 _ (by decide) (by decide)).trans k2, k3, k4, fun k t ht => (e 49 0 _ (by decide) (by decide)).trans (k5 k t ht)⟩
theorem z_Hu.fx {c0 : Nat} {H : z_H} {S S' : z_Mem} {P : Nat → Nat → Nat → Prop} (h : z_Hu c0 H S) (hf : z_fx P S S') (hp : ∀ t i k, 44 ≤ t → t ≤ 49 → ¬ P t i k) (hp2 : ¬ P 12 0 12) : z_Hu c0 H S' := by
  refine ⟨h.1, h.2.1.fx hf hp, ?_⟩
  have e44 : ∀ m, S'.1 44 0 m = S.1 44 0 m := fun m => hf.i (hp 44 0 m (by decide) (by decide))
  rcases h.2.2 with ⟨h1, h2, h3⟩ | ⟨m, hm, h1, h2, h3⟩
  · exact Or.inl ⟨(hf.i hp2).trans h1, h2, h3⟩
  · exact Or.inr ⟨m, hm, (hf.i hp2).trans h1, h2, (e44 m).trans h3⟩
theorem z_km_cg {b : Nat} {S S' : z_Mem} (h1 : S'.1 37 0 b = S.1 37 0 b) (h2 : S'.1 38 0 b = S.1 38 0 b) (h3 : S'.1 40 0 b = S.1 40 0 b) (h4 : S'.1 12 0 1 = S.1 12 0 1) (h5 : ∀ k, S'.1 42 0 k = S.1 42 0 k) : z_km b S' = z_km b S := by
  unfold z_km
  rw [h1, h2, h3, h4]
  simp only [h5]
theorem z_Rm.cg {c0 n hr : Nat} {H : z_H} {ht : Int32} {K K' : Nat → z_K} {W C W' C' : Nat → Int32} {S : z_Mem} (hR : z_Rm c0 H n ht hr K W C S) (h : ∀ b, b < n → K b = K' b ∧ W b = W' b ∧ C b = C' b) : z_Rm c0 H n ht hr K' W' C' S := by
  obtain ⟨r1, r2, r3, r4, r5⟩ := hR
  refine ⟨r1, r2, r3, r4, fun b hb => ?_⟩
  obtain ⟨o1, o2, o3⟩ := r5 b hb
  obtain ⟨p1, p2, p3⟩ := h b hb
  exact ⟨o1.trans p1, o2.trans p2, o3.trans p3⟩
theorem s_cool (d c0 : Nat) (H : z_H) (S : z_Mem) (hH : z_hwf H) (h : z_Hu c0 H S) : z_exe z_mt true (d + 2) 161 [.inr (.inr (12, 0)), .inl (2 : Int32), .inl (1 : Int32)] S = some (some (.inl (z_last 2 H 1)), S) := s_lastOf d c0 2 H S 1 (by omega) hH h
theorem s_logOf (d c0 : Nat) (H : z_H) (S : z_Mem) (hH : z_hwf H) (h : z_Hu c0 H S) : z_exe z_mt true (d + 2) 161 [.inr (.inr (12, 0)), .inl (3 : Int32), .inl (6 : Int32)] S = some (some (.inl (z_last 3 H 6)), S) := s_lastOf d c0 3 H S 6 (by omega) hH h
/-- what pair b of the model dries at p, by its record -/
theorem s_dries2 (d c0 b hr : Nat) (p ht w : Int32) (H : z_H) (S : z_Mem) (hb : b < 6) (hH : z_hwf H) (h : z_Hu c0 H S) (hhr : hr ≤ 20000) (h0 : S.1 12 0 2 = ht) (h4 : S.1 12 0 4 = nI hr) (hw : S.1 39 0 b = w) :
    z_wp (z_exe z_mt true (d + 5) 167 [.inr (.inr (12, 0)), .inl (nI b), .inl p] S) (fun q S' => q = some (.inl (z_dw H (z_km b S) p ht hr w)) ∧ z_fx z_P52 S S') := by
  refine z_wp_mono (s_dries d c0 b p H S hb hH h ⟨hr, hhr, h4⟩) (fun q S' hq => ⟨hq.1.trans ?_, hq.2⟩)
  unfold z_dw z_km z_Fm
  rw [h0, h4, hw, z_h4 hhr]
  try dsimp only
  rw [if_pos (show hr % 4 < 4 by omega)]
theorem z_c1_up {K : z_K} {ht : Int32} {k : Nat} : ∃ j : Nat, (j = k ∨ j = k + 1) ∧ z_c1 K ht (nI k) = nI j := by
  unfold z_c1
  cases K.2.2.2.2.1 with
  | true => exact ⟨k, Or.inl rfl, rfl⟩
  | false =>
    by_cases h : z_sp1 K ht
    · rw [@decide_eq_true _ (Classical.propDecidable _) h]; exact ⟨k + 1, Or.inr rfl, nI_1 k⟩
    · rw [@decide_eq_false _ (Classical.propDecidable _) h]; exact ⟨k, Or.inl rfl, rfl⟩
theorem l_mhour (d c0 n hr M : Nat) (ht : Int32) (H : z_H) (K : Nat → z_K) (hH : z_hwf H) (hhr : hr ≤ 20000) (hn : n ≤ 6) (hM : hr + 1 ≤ M) (hM2 : M < 2 ^ 31) : ∀ (m b N : Nat) (W C : Nat → Int32) (S : z_Mem), b + m = n → m < N → S.1 12 0 29 = nI M → z_Rm c0 H n ht hr K W C S → (∀ b', b ≤ b' → b' < n → ∃ k : Nat, k ≤ hr ∧ C b' = nI k) →
    z_wp (zr_X12_goHour (z_exe z_mt true (d + 5)) N 2 [some (.inr (.inr (12, 0))), some (.inl (nI b)), none] [] S) (fun q S' => q = none ∧ z_Rm c0 H n (z_mx (ht - z_last 2 H 1)) (hr + 1) K (fun b' => if b ≤ b' then z_w1 H (K b') ht hr (W b') else W b') (fun b' => if b ≤ b' then z_c1 (K b') ht (C b') else C b') S' ∧ z_fx z_Pm S S') := by
  intro m
  induction m with
  | zero =>
    intro b N W C S hb hN hmo hR hC
    obtain ⟨N, rfl⟩ : ∃ N', N = N' + 1 := ⟨N - 1, by omega⟩
    obtain ⟨r1, r2, r3, r4, r5⟩ := hR
    rw [ze_X12_goHour_2, if_pos (by rw [r1, z_le (by omega) (by omega)]; omega), s_cool (d + 3) c0 H S hH r2, z_rI_s, s_atLeast0 (d + 4), z_rI_s]
    try dsimp only
    have hf : z_fx z_Pm S (z_sI (z_sI S 12 0 2 (z_mx (S.1 12 0 2 - z_last 2 H 1))) 12 0 4 ((z_sI S 12 0 2 (z_mx (S.1 12 0 2 - z_last 2 H 1))).1 12 0 4 + 1)) :=
      (z_fx.sI (Or.inl ⟨rfl, rfl, Or.inl rfl⟩)).tr (z_fx.sI (Or.inl ⟨rfl, rfl, Or.inr rfl⟩))
    refine z_wp_ret ⟨rfl, ⟨?_, ?_, ?_, ?_, fun b' hb' => ?_⟩, hf⟩
    · rw [hf.i (by unfold z_Pm; omega)]; exact r1
    · exact r2.fx hf (fun t i k a c => by unfold z_Pm; omega) (by unfold z_Pm; omega)
    · rw [z_sI1, if_neg (fun q => absurd q.2.2 (by decide)), z_sI1, if_pos ⟨rfl, rfl, rfl⟩, r3]
    · rw [z_sI1, if_pos ⟨rfl, rfl, rfl⟩, z_sI1, if_neg (fun q => absurd q.2.2 (by decide)), r4, nI_1]
    · obtain ⟨o1, o2, o3⟩ := r5 b' hb'
      try dsimp only
      rw [if_neg (by omega), if_neg (by omega)]
      exact ⟨(z_km_cg rfl rfl rfl rfl (fun k => rfl)).trans o1, o2, o3⟩
  | succ m ih =>
    intro b N W C S hb hN hmo hR hC
    obtain ⟨N, rfl⟩ : ∃ N', N = N' + 1 := ⟨N - 1, by omega⟩
    obtain ⟨r1, r2, r3, r4, r5⟩ := hR
    obtain ⟨o1, o2, o3⟩ := r5 b (by omega)
    have hg : (K b).2.2.2.2.1 = decide ((S.1 12 0 1 >>> (nI b &&& 31)) &&& 1 = 1) := by rw [← o1]; rfl
    rw [ze_X12_goHour_2, if_neg (by rw [r1, z_le (by omega) (by omega)]; omega), s_has (d + 4), z_rI_s]
    -- from a memory with pair b done
    have go : ∀ (S1 : z_Mem) (W1 C1 : Nat → Int32), z_fx z_Pm S S1 → S1.1 12 0 2 = S.1 12 0 2 → S1.1 12 0 4 = S.1 12 0 4 → (∀ b', b' < n → S1.1 39 0 b' = W1 b' ∧ S1.1 41 0 b' = C1 b') → W1 b = z_w1 H (K b) ht hr (W b) → C1 b = z_c1 (K b) ht (C b) → (∀ b', b' ≠ b → W1 b' = W b' ∧ C1 b' = C b') →
        z_wp (zr_X12_goHour (z_exe z_mt true (d + 5)) N 2 [some (.inr (.inr (12, 0))), some (.inl (nI b + 1)), none] [] S1) (fun q S' => q = none ∧ z_Rm c0 H n (z_mx (ht - z_last 2 H 1)) (hr + 1) K (fun b' => if b ≤ b' then z_w1 H (K b') ht hr (W b') else W b') (fun b' => if b ≤ b' then z_c1 (K b') ht (C b') else C b') S' ∧ z_fx z_Pm S S') := by
      intro S1 W1 C1 hf e2 e4 e39 ew ec eo
      rw [nI_1]
      have hR1 : z_Rm c0 H n ht hr K W1 C1 S1 := by
        refine ⟨(hf.i (by unfold z_Pm; omega)).trans r1, r2.fx hf (fun t i k a c => by unfold z_Pm; omega) (by unfold z_Pm; omega), e2.trans r3, e4.trans r4, fun b' hb' => ⟨?_, (e39 b' hb').1, (e39 b' hb').2⟩⟩
        exact (z_km_cg (hf.i (by unfold z_Pm; omega)) (hf.i (by unfold z_Pm; omega)) (hf.i (by unfold z_Pm; omega)) (hf.i (by unfold z_Pm; omega)) (fun k => hf.i (by unfold z_Pm; omega))).trans (r5 b' hb').1
      have k := ih (b + 1) N W1 C1 S1 (by omega) (by omega) ((hf.i (by unfold z_Pm; omega)).trans hmo) hR1 (fun b' h1 h2 => by
        rw [(eo b' (by omega)).2]; exact hC b' (by omega) h2)
      refine z_wp_mono k (fun q S' hq => ⟨hq.1, hq.2.1.cg (fun b' hb' => ⟨rfl, ?_, ?_⟩), hf.tr hq.2.2⟩) <;> (try dsimp only)
      · by_cases e : b' = b
        · subst e; rw [if_neg (by omega), if_pos (Nat.le_refl _)]; exact ew
        · by_cases e2 : b ≤ b'
          · rw [if_pos (by omega), if_pos e2, (eo b' e).1]
          · rw [if_neg (by omega), if_neg e2, (eo b' e).1]
      · by_cases e : b' = b
        · subst e; rw [if_neg (by omega), if_pos (Nat.le_refl _)]; exact ec
        · by_cases e2 : b ≤ b'
          · rw [if_pos (by omega), if_pos e2, (eo b' e).2]
          · rw [if_neg (by omega), if_neg e2, (eo b' e).2]
    by_cases g : (S.1 12 0 1 >>> (nI b &&& 31)) &&& 1 = 1
    · rw [decide_eq_true g] at hg
      rw [if_neg (fun q => (z_b1_0 _).mp q g)]
      refine go S W C z_fx.rf rfl rfl (fun b' hb' => (r5 b' hb').2) ?_ ?_ (fun b' _ => ⟨rfl, rfl⟩)
      · unfold z_w1; rw [hg]; rfl
      · unfold z_c1; rw [hg]; rfl
    · rw [decide_eq_false g] at hg
      rw [if_pos ((z_b1_0 _).mpr g), z_oob_n (k := b) (by omega) (by omega), z_cl (k := b) (by omega)]
      dsimp only [cond]
      obtain ⟨q, S9, e9, hq9, hf9⟩ := s_dries2 d c0 b hr (S.1 40 0 b) ht (W b) H S (by omega) hH r2 hhr r3 r4 o2
      subst hq9
      rw [e9, z_rI_s]
      have x9 : ∀ t i k, t ≠ 52 → S9.1 t i k = S.1 t i k := fun t i k q => hf9.i q
      obtain ⟨x, ex, hx⟩ := s_mspoils (d + 2) b S9 (by omega)
      rw [ex, z_rI_s, x9 41 0 b (by decide), x9 12 0 29 (by decide), hmo, o3]
      rw [x9 37 0 b (by decide), x9 38 0 b (by decide), x9 12 0 2 (by decide), x9 40 0 b (by decide), r3] at hx
      have hsp : z_sp (S.1 37 0 b) (S.1 38 0 b) (z_mx (ht - 3 * S.1 40 0 b)) = z_sp1 (K b) ht := by rw [← o1]; rfl
      rw [hsp] at hx
      have hd : z_dw H (z_km b S) (S.1 40 0 b) ht hr (W b) = z_dw H (K b) (K b).2.2.2.1 ht hr (W b) := by rw [← o1]; rfl
      rw [hd]
      have hw1 : z_w1 H (K b) ht hr (W b) = z_mx (W b - z_dw H (K b) (K b).2.2.2.1 ht hr (W b)) := by
        unfold z_w1
        rw [hg]
        rfl
      obtain ⟨kc, hkc, hkc2⟩ := hC b (Nat.le_refl _) (by omega)
      -- both roads: the cracks, then the wetness
      have fin : ∀ c' : Int32, c' = z_c1 (K b) ht (C b) → z_wp (zr_X12_goHour (z_exe z_mt true (d + 5)) N 2 [some (.inr (.inr (12, 0))), some (.inl (nI b + 1)), none] [] (z_sI (z_sI S9 41 0 b c') 39 0 b (z_mx (W b - z_dw H (K b) (K b).2.2.2.1 ht hr (W b))))) (fun q S' => q = none ∧ z_Rm c0 H n (z_mx (ht - z_last 2 H 1)) (hr + 1) K (fun b' => if b ≤ b' then z_w1 H (K b') ht hr (W b') else W b') (fun b' => if b ≤ b' then z_c1 (K b') ht (C b') else C b') S' ∧ z_fx z_Pm S S') := by
        intro c' hc'
        refine go _ (fun b' => if b' = b then z_w1 H (K b) ht hr (W b) else W b') (fun b' => if b' = b then z_c1 (K b) ht (C b) else C b') (((hf9.wk (fun t i k q => Or.inr (Or.inr q))).tr (z_fx.sI (Or.inr (Or.inl ⟨Or.inr rfl, rfl, by omega⟩)))).tr (z_fx.sI (Or.inr (Or.inl ⟨Or.inl rfl, rfl, by omega⟩)))) (x9 12 0 2 (by decide)) (x9 12 0 4 (by decide)) (fun b' hb' => ?_) (if_pos rfl) (if_pos rfl) (fun b' hb' => ⟨if_neg hb', if_neg hb'⟩)
        try dsimp only
        by_cases e : b' = b
        · subst e
          rw [if_pos rfl, if_pos rfl, z_sI1, if_pos ⟨rfl, rfl, rfl⟩, z_sI1, if_neg (fun q => absurd q.1 (by decide)), z_sI1, if_pos ⟨rfl, rfl, rfl⟩, hw1, hc']
          exact ⟨rfl, rfl⟩
        · rw [if_neg e, if_neg e, z_sI1, if_neg (fun q => e q.2.2), z_sI1, if_neg (fun q => absurd q.1 (by decide)), z_sI1, if_neg (fun q => absurd q.1 (by decide)), z_sI1, if_neg (fun q => e q.2.2), x9 39 0 b' (by decide), x9 41 0 b' (by decide)]
          exact (r5 b' hb').2
      have e39 : ∀ c' : Int32, (z_sI S9 41 0 b c').1 39 0 b = W b := fun c' => by
        rw [z_sI1, if_neg (fun q => absurd q.1 (by decide)), x9 39 0 b (by decide)]; exact o2
      rcases hx with ⟨hx, hx2⟩ | ⟨hx, hx2⟩
      · rw [hx, if_neg (by decide), s_least (d + 4), z_rI_s]
        try dsimp only
        rw [e39, s_atLeast0 (d + 4), z_rI_s]
        refine fin _ ?_
        have ec : z_c1 (K b) ht (C b) = C b + 1 := by
          unfold z_c1
          rw [hg, @decide_eq_true _ (Classical.propDecidable _) hx2]
          rfl
        rw [ec, hkc2, nI_1]
        by_cases q : nI M ≤ nI (kc + 1)
        · rw [if_pos q]
          have := (nI_leI (by omega) (by omega)).mp q
          rw [show M = kc + 1 by omega]
        · rw [if_neg q]
      · rw [hx, if_pos rfl]
        try dsimp only
        rw [e39, s_atLeast0 (d + 4), z_rI_s]
        refine fin _ ?_
        unfold z_c1
        rw [hg, @decide_eq_false _ (Classical.propDecidable _) hx2]
        rfl
theorem s_mhour (d c0 n hr M : Nat) (ht : Int32) (H : z_H) (K : Nat → z_K) (W C : Nat → Int32) (S : z_Mem) (hH : z_hwf H) (hhr : hr ≤ 20000) (hn : n ≤ 6) (hM : hr + 1 ≤ M) (hM2 : M < 2 ^ 31) (hmo : S.1 12 0 29 = nI M) (hR : z_Rm c0 H n ht hr K W C S) (hC : ∀ b, b < n → ∃ k : Nat, k ≤ hr ∧ C b = nI k) :
    z_wp (z_exe z_mt true (d + 6) 175 [.inr (.inr (12, 0))] S) (fun q S' => q = none ∧ z_Rm c0 H n (z_mx (ht - z_last 2 H 1)) (hr + 1) K (fun b => z_w1 H (K b) ht hr (W b)) (fun b => z_c1 (K b) ht (C b)) S' ∧ z_fx z_Pm S S') := by
  have e : z_exe z_mt true (d + 6) 175 [.inr (.inr (12, 0))] S = _ := (zx_X12_goHour (d + 5) S 0).trans (ze_X12_goHour_0 _ _ _ _)
  rw [e]
  have k := l_mhour d c0 n hr M ht H K hH hhr hn hM hM2 n 0 999999 W C S (by omega) (by omega) hmo hR (fun b' _ h => hC b' h)
  refine z_wp_mono k (fun q S' hq => ⟨hq.1, hq.2.1.cg (fun b hb => ?_), hq.2.2⟩)
  exact ⟨rfl, by (try dsimp only); rw [if_pos (Nat.zero_le _)], by (try dsimp only); rw [if_pos (Nat.zero_le _)]⟩
theorem l_mhours (d c0 n M Mo : Nat) (H : z_H) (K : Nat → z_K) (hH : z_hwf H) (hn : n ≤ 6) (hM : M ≤ 100) (hMo : Mo < 2 ^ 31) : ∀ (m k N hr : Nat) (ht : Int32) (W C : Nat → Int32) (S : z_Mem), k + m = M → m < N → hr + m ≤ 20000 → hr + m ≤ Mo → S.1 12 0 29 = nI Mo → z_Rm c0 H n ht hr K W C S → (∀ b, b < n → ∃ k : Nat, k ≤ hr ∧ C b = nI k) →
    z_wp (zr_X12_goHours (z_exe z_mt true (d + 6)) N 2 [some (.inr (.inr (12, 0))), some (.inl (nI M)), some (.inl (nI k))] [] S) (fun q S' => q = none ∧ z_Rm c0 H n (z_htN H m ht) (hr + m) K (fun b => z_wN H (K b) m ht hr (W b)) (fun b => z_cN H (K b) m ht (C b)) S' ∧ z_fx z_Pm S S') := by
  intro m
  induction m with
  | zero =>
    intro k N hr ht W C S hk hN hhr h3 hmo hR hC
    obtain ⟨N, rfl⟩ : ∃ N', N = N' + 1 := ⟨N - 1, by omega⟩
    rw [ze_X12_goHours_2, if_pos (by rw [z_le (by omega) (by omega)]; omega)]
    exact z_wp_ret ⟨rfl, hR, z_fx.rf⟩
  | succ m ih =>
    intro k N hr ht W C S hk hN hhr h3 hmo hR hC
    obtain ⟨N, rfl⟩ : ∃ N', N = N' + 1 := ⟨N - 1, by omega⟩
    rw [ze_X12_goHours_2, if_neg (by rw [z_le (by omega) (by omega)]; omega)]
    refine z_wp_V (s_mhour d c0 n hr Mo ht H K W C S hH (by omega) hn (by omega) hMo hmo hR hC) (fun q S' hq => ⟨hq.1, ?_⟩)
    obtain ⟨-, hR', hf⟩ := hq
    try dsimp only
    rw [nI_1]
    have k' := ih (k + 1) N (hr + 1) _ _ _ S' (by omega) (by omega) (by omega) (by omega) ((hf.i (by unfold z_Pm; omega)).trans hmo) hR' (fun b hb => by
      obtain ⟨j, h1, h2⟩ := hC b hb
      obtain ⟨j', h3, h4⟩ := z_c1_up (K := K b) (ht := ht) (k := j)
      exact ⟨j', by omega, by rw [h2]; exact h4⟩)
    refine z_wp_mono k' (fun q S'' hq => ⟨hq.1, ?_, hf.tr hq.2.2⟩)
    have k2 := hq.2.1
    rw [show hr + 1 + m = hr + (m + 1) by omega] at k2
    exact k2
theorem s_mhours (d c0 n M Mo hr : Nat) (H : z_H) (ht : Int32) (K : Nat → z_K) (W C : Nat → Int32) (S : z_Mem) (hH : z_hwf H) (hn : n ≤ 6) (hM : M ≤ 100) (hMo : Mo < 2 ^ 31) (hhr : hr + M ≤ 20000) (h3 : hr + M ≤ Mo) (hmo : S.1 12 0 29 = nI Mo) (hR : z_Rm c0 H n ht hr K W C S) (hC : ∀ b, b < n → ∃ k : Nat, k ≤ hr ∧ C b = nI k) :
    z_wp (z_exe z_mt true (d + 7) 176 [.inr (.inr (12, 0)), .inl (nI M)] S) (fun q S' => q = none ∧ z_Rm c0 H n (z_htN H M ht) (hr + M) K (fun b => z_wN H (K b) M ht hr (W b)) (fun b => z_cN H (K b) M ht (C b)) S' ∧ z_fx z_Pm S S') := by
  have e : z_exe z_mt true (d + 7) 176 [.inr (.inr (12, 0)), .inl (nI M)] S = _ := (zx_X12_goHours (d + 6) S 0 (nI M)).trans (ze_X12_goHours_0 _ _ _ _ _)
  rw [e]
  exact l_mhours d c0 n M Mo H K hH hn hM hMo M 0 999999 hr ht W C S (by omega) (by omega) hhr h3 hmo hR hC
