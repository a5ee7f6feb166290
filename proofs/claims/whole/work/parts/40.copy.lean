/-! ===== the class copies a pair, a stove, a room ===== -/
theorem z_acI1 (S : z_Mem) (t i sp t2 i2 dp n t' i' k' : Nat) : (z_acI S t i sp t2 i2 dp n).1 t' i' k' = if t' = t2 ∧ i' = i2 then va_cpy (S.1 t i) (S.1 t2 i2) sp dp n k' else S.1 t' i' k' := rfl
theorem s_copyBoots (d i j : Nat) (S : z_Mem) (hij : i ≠ j) (h01 : S.1 2 j 5 &&& 1 = S.1 2 j 5) :
    z_wp (z_exe z_mt true (d + 1) 10 [.inr (.inr (2, i)), .inr (.inr (2, j))] S) (fun q S' => q = none ∧ (∀ k, k < 7 → S'.1 2 i k = S.1 2 j k) ∧ (∀ k, k < 4 → S'.1 21 i k = S.1 21 j k) ∧ z_fx (fun t i' _ => (t = 2 ∨ t = 21) ∧ i' = i) S S') := by
  have e : z_exe z_mt true (d + 1) 10 [.inr (.inr (2, i)), .inr (.inr (2, j))] S = _ := (zx_X1_copyFrom d S i j).trans (ze_X1_copyFrom_0 _ _ _ _ _)
  rw [e]
  have hne : ∀ (S : z_Mem) (k k' : Nat) (x : Int32), (z_sI S 2 i k x).1 2 j k' = S.1 2 j k' := fun S k k' x => by
    rw [z_sI1, if_neg (fun q => hij q.2.1.symm)]
  simp only [hne]
  rw [if_pos h01, show (z_rng (0 : Int32) (4 : Int32) 4 && z_rng (0 : Int32) (4 : Int32) 4) = true by decide]
  dsimp only [cond]
  refine z_wp_ret ⟨rfl, fun k hk => ?_, fun k hk => ?_, ?_⟩
  · have hk' : k = 0 ∨ k = 1 ∨ k = 2 ∨ k = 3 ∨ k = 4 ∨ k = 5 ∨ k = 6 := by omega
    rw [z_acI1, if_neg (fun q => absurd q.1 (by decide))]
    rcases hk' with rfl | rfl | rfl | rfl | rfl | rfl | rfl <;> simp [z_sI1]
  · rw [z_acI1, if_pos ⟨rfl, rfl⟩]
    have h0 : Int32.toNatClampNeg (0 : Int32) = 0 := by decide
    have h4 : Int32.toNatClampNeg (4 : Int32) = 4 := by decide
    rw [h0, h4, pk_cpy_in (by omega) (by omega), Nat.zero_add, Nat.sub_zero]
    simp [z_sI1]
  · exact ((((((((z_fx.sI ⟨Or.inl rfl, rfl⟩).tr (z_fx.sI ⟨Or.inl rfl, rfl⟩)).tr (z_fx.sI ⟨Or.inl rfl, rfl⟩)).tr (z_fx.sI ⟨Or.inl rfl, rfl⟩)).tr (z_fx.sI ⟨Or.inl rfl, rfl⟩)).tr (z_fx.sI ⟨Or.inl rfl, rfl⟩)).tr (z_fx.sI ⟨Or.inl rfl, rfl⟩)).tr (z_fx.acI (fun k _ _ => ⟨Or.inr rfl, rfl⟩)))
theorem s_copyStove (d i j : Nat) (S : z_Mem) (hij : i ≠ j) :
    z_wp (z_exe z_mt true (d + 1) 67 [.inr (.inr (9, i)), .inr (.inr (9, j))] S) (fun q S' => q = none ∧ (∀ k, k < 3 → S'.1 9 i k = S.1 9 j k) ∧ (S'.2.2.1 9 i 3).2 = (S.2.2.1 9 j 3).2 ∧ z_fx (fun t i' _ => t = 9 ∧ i' = i) S S') := by
  have e : z_exe z_mt true (d + 1) 67 [.inr (.inr (9, i)), .inr (.inr (9, j))] S = _ := (zx_X9_copyFrom d S i j).trans (ze_X9_copyFrom_0 _ _ _ _ _)
  rw [e]
  have hne : ∀ (S : z_Mem) (k k' : Nat) (x : Int32), (z_sI S 9 i k x).1 9 j k' = S.1 9 j k' := fun S k k' x => by
    rw [z_sI1, if_neg (fun q => hij q.2.1.symm)]
  simp only [hne, z_sI3]
  refine z_wp_ret ⟨rfl, fun k hk => ?_, ?_, ?_⟩
  · have hk' : k = 0 ∨ k = 1 ∨ k = 2 := by omega
    rw [z_sR1]
    rcases hk' with rfl | rfl | rfl <;> simp [z_sI1]
  · rw [z_sR3, if_pos ⟨rfl, rfl, rfl⟩]
  · exact ((((z_fx.sI ⟨rfl, rfl⟩).tr (z_fx.sI ⟨rfl, rfl⟩)).tr (z_fx.sI ⟨rfl, rfl⟩)).tr (z_fx.sR ⟨rfl, rfl⟩ (Or.inl (by decide))))
def z_Pcp (q : Nat) (t i k : Nat) : Prop := (t = 7 ∧ i = q ∧ k = 1) ∨ (t = 9 ∧ i = q) ∨ ((t = 2 ∨ t = 21) ∧ 6 * q ≤ i ∧ i < 6 * q + 6)
/-- the flag of each pair is 0 or 1 -/
def z_01 (r n : Nat) (S : z_Mem) : Prop := ∀ b, b < n → S.1 2 (6 * r + b) 5 &&& 1 = S.1 2 (6 * r + b) 5
def z_cpd (q r n : Nat) (S S' : z_Mem) : Prop := S'.1 7 q 1 = nI n ∧ (∀ k, k < 3 → S'.1 9 q k = S.1 9 r k) ∧ (S'.2.2.1 9 q 3).2 = (S.2.2.1 9 r 3).2 ∧
  (∀ b, b < n → (∀ k, k < 7 → S'.1 2 (6 * q + b) k = S.1 2 (6 * r + b) k) ∧ ∀ k, k < 4 → S'.1 21 (6 * q + b) k = S.1 21 (6 * r + b) k) ∧ z_fx (z_Pcp q) S S'
theorem l_copyRoom (d q r n : Nat) (S0 : z_Mem) (hqr : q ≠ r) (hn : n ≤ 6) (h01 : z_01 r n S0) : ∀ (m b N : Nat) (S : z_Mem), b + m = n → m < N → S.1 7 q 1 = nI n → (∀ k, k < 3 → S.1 9 q k = S0.1 9 r k) → (S.2.2.1 9 q 3).2 = (S0.2.2.1 9 r 3).2 →
    (∀ b', b' < b → (∀ k, k < 7 → S.1 2 (6 * q + b') k = S0.1 2 (6 * r + b') k) ∧ ∀ k, k < 4 → S.1 21 (6 * q + b') k = S0.1 21 (6 * r + b') k) → z_fx (z_Pcp q) S0 S →
    z_wp (zr_X7_copyFrom (z_exe z_mt true (d + 1)) N 21 [some (.inr (.inr (7, q))), some (.inr (.inr (7, r))), some (.inl (nI b))] [] S) (fun x S' => x = none ∧ z_cpd q r n S0 S') := by
  intro m
  induction m with
  | zero =>
    intro b N S hb hN h7 h9 h93 hk hf
    obtain ⟨N, rfl⟩ : ∃ N', N = N' + 1 := ⟨N - 1, by omega⟩
    rw [ze_X7_copyFrom_21, if_pos (by rw [h7, z_le (by omega) (by omega)]; omega)]
    exact z_wp_ret ⟨rfl, h7, h9, h93, fun b' hb' => hk b' (by omega), hf⟩
  | succ m ih =>
    intro b N S hb hN h7 h9 h93 hk hf
    obtain ⟨N, rfl⟩ : ∃ N', N = N' + 1 := ⟨N - 1, by omega⟩
    rw [ze_X7_copyFrom_21, if_neg (by rw [h7, z_le (by omega) (by omega)]; omega), z_oob_n (k := b) (by omega) (by omega), z_cl (k := b) (by omega)]
    dsimp only [cond]
    have o2 : ∀ k, S.1 2 (6 * r + b) k = S0.1 2 (6 * r + b) k := fun k => hf.i (by unfold z_Pcp; omega)
    have o21 : ∀ k, S.1 21 (6 * r + b) k = S0.1 21 (6 * r + b) k := fun k => hf.i (by unfold z_Pcp; omega)
    refine z_wp_V (s_copyBoots d (6 * q + b) (6 * r + b) S (by omega) (by rw [o2]; exact h01 b (by omega))) (fun x S' hx => ⟨hx.1, ?_⟩)
    obtain ⟨-, c2, c21, hf'⟩ := hx
    rw [nI_1]
    refine ih (b + 1) N S' (by omega) (by omega) ((hf'.i (by omega)).trans h7) (fun k hk' => (hf'.i (by omega)).trans (h9 k hk')) (by rw [hf'.r (by omega)]; exact h93) (fun b' hb' => ?_) (hf.tr (hf'.wk (fun t i k q => by unfold z_Pcp; omega)))
    by_cases e : b' = b
    · subst e
      exact ⟨fun k hk' => (c2 k hk').trans (o2 k), fun k hk' => (c21 k hk').trans (o21 k)⟩
    · obtain ⟨a1, a2⟩ := hk b' (by omega)
      exact ⟨fun k hk' => (hf'.i (by omega)).trans (a1 k hk'), fun k hk' => (hf'.i (by omega)).trans (a2 k hk')⟩
theorem s_copyRoom (d q r n : Nat) (S : z_Mem) (hqr : q ≠ r) (hn : n ≤ 6) (hc : S.1 7 r 1 = nI n) (h01 : z_01 r n S) :
    z_wp (z_exe z_mt true (d + 2) 51 [.inr (.inr (7, q)), .inr (.inr (7, r))] S) (fun x S' => x = none ∧ z_cpd q r n S S') := by
  have e : z_exe z_mt true (d + 2) 51 [.inr (.inr (7, q)), .inr (.inr (7, r))] S = _ := (zx_X7_copyFrom (d + 1) S q r).trans (ze_X7_copyFrom_0 _ _ _ _ _)
  rw [e]
  try dsimp only
  refine z_wp_V (s_copyStove d q r _ hqr) (fun x S' hx => ⟨hx.1, ?_⟩)
  obtain ⟨-, c9, c93, hf'⟩ := hx
  have hf : z_fx (z_Pcp q) S (z_sI S 7 q 1 (S.1 7 r 1)) := z_fx.sI (Or.inl ⟨rfl, rfl, rfl⟩)
  refine l_copyRoom d q r n S hqr hn h01 n 0 999999 S' (by omega) (by omega) ?_ (fun k hk => (c9 k hk).trans ?_) (by rw [c93]; rfl) (fun b' hb' => by omega) (hf.tr (hf'.wk (fun t i k q => by unfold z_Pcp; omega)))
  · rw [hf'.i (by omega), z_sI1, if_pos ⟨rfl, rfl, rfl⟩]; exact hc
  · rw [z_sI1, if_neg (fun q => absurd q.1 (by decide))]
theorem z_cpd.Rc {q r n h hr : Nat} {H : z_H} {ht : Int32} {K : Nat → z_K} {W C : Nat → Int32} {S S' : z_Mem} (hc : z_cpd q r n S S') (hR : z_Rc r h H n ht hr K W C S) : z_Rc q h H n ht hr K W C S' := by
  obtain ⟨c1, c2, c3, c4, hf⟩ := hc
  obtain ⟨r1, r2, r3, r4, r5⟩ := hR
  refine ⟨c3.trans r1, r2.fx hf (fun k => by unfold z_Pcp; omega) (fun k => by unfold z_Pcp; omega) (fun k => by unfold z_Pcp; omega), (c2 0 (by omega)).trans r3, (c2 2 (by omega)).trans r4, fun b hb => ?_⟩
  obtain ⟨o1, o2, o3⟩ := r5 b hb
  obtain ⟨a1, a2⟩ := c4 b hb
  refine ⟨?_, (a1 3 (by omega)).trans o2, (a1 6 (by omega)).trans o3⟩
  rw [← o1]
  unfold z_kc
  rw [a1 0 (by omega), a1 1 (by omega), a1 2 (by omega), a1 4 (by omega), a1 5 (by omega)]
  have : (fun k => if k < 4 then S'.1 21 (6 * q + b) k else 0) = (fun k => if k < 4 then S.1 21 (6 * r + b) k else 0) := by
    funext k
    by_cases hk : k < 4
    · rw [if_pos hk, if_pos hk, a2 k hk]
    · rw [if_neg hk, if_neg hk]
  rw [this]
theorem z_cpd.b01 {q r n : Nat} {S S' : z_Mem} (hc : z_cpd q r n S S') (h : z_01 r n S) : z_01 q n S' := by
  intro b hb
  rw [(hc.2.2.2.1 b hb).1 5 (by omega)]
  exact h b hb
/-! ===== one pair's course ===== -/
def z_kp (K : z_K) (p : Int32) : z_K := (K.1, (K.2.1, (K.2.2.1, (p, K.2.2.2.2))))
def z_Pco (t i k : Nat) : Prop := ((t = 2 ∨ t = 21) ∧ 18 ≤ i ∧ i < 24) ∨ (t = 9 ∧ i = 3) ∨ t = 24
/-- the course's pair: kept part K, wet w, cracks c, on a stove at ht and hr with the hut h, H -/
def z_Rk (h : Nat) (H : z_H) (ht : Int32) (hr : Nat) (K : z_K) (w c : Int32) (S : z_Mem) : Prop := z_Rc 3 h H 1 ht hr (fun _ => K) (fun _ => w) (fun _ => c) S
theorem s_cbegin (d i j h hr : Nat) (H : z_H) (ht : Int32) (S : z_Mem) (hi : i ≠ 18) (hj : j ≠ 3) (h01 : S.1 2 i 5 &&& 1 = S.1 2 i 5) (hh : (S.2.2.1 9 j 3).2 = h) (hH : z_Hc h H S) (h0 : S.1 9 j 0 = ht) (h2 : S.1 9 j 2 = nI hr) :
    z_wp (z_exe z_mt true (d + 2) 17 [.inr (.inr (3, 0)), .inr (.inr (2, i)), .inr (.inr (9, j))] S) (fun q S' => q = none ∧ z_Rk h H ht hr (z_kc i S) (S.1 2 i 3) (S.1 2 i 6) S' ∧ z_fx z_Pco S S') := by
  have e : z_exe z_mt true (d + 2) 17 [.inr (.inr (3, 0)), .inr (.inr (2, i)), .inr (.inr (9, j))] S = _ := (zx_X2_begin (d + 1) S 0 i j).trans (ze_X2_begin_0 _ _ _ _ _ _)
  rw [e]
  refine z_wp_V (s_copyBoots d 18 i S (Ne.symm hi) h01) (fun x S1 hx => ⟨hx.1, ?_⟩)
  obtain ⟨-, c2, c21, hf1⟩ := hx
  refine z_wp_V (s_copyStove d 3 j S1 (Ne.symm hj)) (fun x S2 hx => ⟨hx.1, ?_⟩)
  obtain ⟨-, c9, c93, hf2⟩ := hx
  have hf : z_fx z_Pco S S2 := (hf1.wk (fun t i k q => by unfold z_Pco; omega)).tr (hf2.wk (fun t i k q => by unfold z_Pco; omega))
  refine z_wp_ret ⟨rfl, ⟨?_, ?_, ?_, ?_, fun b hb => ?_⟩, hf⟩
  · rw [c93, hf1.r (by omega)]; exact hh
  · exact hH.fx hf (fun k => by unfold z_Pco; omega) (fun k => by unfold z_Pco; omega) (fun k => by unfold z_Pco; omega)
  · rw [c9 0 (by omega), hf1.i (by omega)]; exact h0
  · rw [c9 2 (by omega), hf1.i (by omega)]; exact h2
  · obtain rfl : b = 0 := by omega
    have e2 : ∀ k, k < 7 → S2.1 2 (6 * 3 + 0) k = S.1 2 i k := fun k hk => (hf2.i (t := 2) (i := 18) (k := k) (by omega)).trans (c2 k hk)
    have e21 : ∀ k, k < 4 → S2.1 21 (6 * 3 + 0) k = S.1 21 i k := fun k hk => (hf2.i (t := 21) (i := 18) (k := k) (by omega)).trans (c21 k hk)
    refine ⟨?_, e2 3 (by omega), e2 6 (by omega)⟩
    unfold z_kc
    rw [e2 0 (by omega), e2 1 (by omega), e2 2 (by omega), e2 4 (by omega), e2 5 (by omega)]
    have : (fun k => if k < 4 then S2.1 21 (6 * 3 + 0) k else 0) = (fun k => if k < 4 then S.1 21 i k else 0) := by
      funext k
      by_cases hk : k < 4
      · rw [if_pos hk, if_pos hk, e21 k hk]
      · rw [if_neg hk, if_neg hk]
    rw [this]
theorem z_Pr3 {S S' : z_Mem} (h : z_fx (z_Pr 3) S S') : z_fx z_Pco S S' := h.wk (fun t i k q => by unfold z_Pr at q; unfold z_Pco; omega)
/-- the two halves of the course's hour -/
theorem s_courseHour (d h hr : Nat) (H : z_H) (ht : Int32) (K : z_K) (w c : Int32) (S : z_Mem) (hH : z_hwf H) (hhr : hr ≤ 20000) (hw : 0 ≤ w) (hR : z_Rk h H ht hr K w c S) :
    ∃ S1 S2, z_exe z_mt true (d + 4) 15 [.inr (.inr (2, 18)), .inr (.inr (9, 3))] S = some (none, S1) ∧ z_exe z_mt true (d + 4) 70 [.inr (.inr (9, 3))] S1 = some (none, S2) ∧ z_Rk h H (z_mx (ht - z_last 2 H 1)) (hr + 1) K (z_w1 H K ht hr w) (z_c1 K ht c) S2 ∧ z_fx z_Pco S S2 := by
  obtain ⟨q, S1, e1, rfl, hR1, hf1⟩ := s_hourb d 3 h hr 1 0 ht H (fun _ => K) (fun _ => w) (fun _ => c) S hH hR hhr (by omega) (by omega) hw
  obtain ⟨q, S2, e2, rfl, hR2, hf2⟩ := s_hours (d + 3) 3 h hr 1 ht H (fun _ => K) _ _ S1 hR1
  -- pair 18 alone: what an hour writes there
  refine ⟨S1, S2, e1, e2, hR2.cg (fun b hb => ?_), ?_⟩
  · obtain rfl : b = 0 := by omega
    exact ⟨rfl, if_pos rfl, if_pos rfl⟩
  · exact (z_Pr3 hf1).tr (z_Pr3 hf2)
theorem s_courseGo (d h hr : Nat) (H : z_H) (ht : Int32) (K : z_K) (w c : Int32) (S : z_Mem) (hH : z_hwf H) (hhr : hr ≤ 20000) (hw : 0 ≤ w) (hR : z_Rk h H ht hr K w c S) :
    z_wp (z_exe z_mt true (d + 5) 18 [.inr (.inr (3, 0))] S) (fun q S' => q = none ∧ z_Rk h H (z_mx (ht - z_last 2 H 1)) (hr + 1) K (z_w1 H K ht hr w) (z_c1 K ht c) S' ∧ z_fx z_Pco S S') := by
  have e : z_exe z_mt true (d + 5) 18 [.inr (.inr (3, 0))] S = _ := (zx_X2_letHourGo (d + 4) S 0).trans (ze_X2_letHourGo_0 _ _ _ _)
  obtain ⟨S1, S2, e1, e2, hR2, hf⟩ := s_courseHour d h hr H ht K w c S hH hhr hw hR
  rw [e, e1, z_rV_s, e2, z_rV_s]
  exact z_wp_ret ⟨rfl, hR2, hf⟩
theorem l_wetBehind (d h M : Nat) (H : z_H) (K : z_K) (hH : z_hwf H) (hM : M ≤ 100) : ∀ (m k N hr : Nat) (ht w c : Int32) (S : z_Mem), k + m = M → m < N → hr + m ≤ 20000 → 0 ≤ w → z_Rk h H ht hr K w c S →
    z_wp (zr_X2_wetBehind (z_exe z_mt true (d + 5)) N 18 [some (.inr (.inr (3, 0))), some (.inl (nI M)), none, none, none, some (.inl (nI k))] [] S) (fun q S' => q = some (.inl (z_wN H K m ht hr w)) ∧ z_fx z_Pco S S') := by
  intro m
  induction m with
  | zero =>
    intro k N hr ht w c S hk hN hhr hw hR
    obtain ⟨N, rfl⟩ : ∃ N', N = N' + 1 := ⟨N - 1, by omega⟩
    rw [ze_X2_wetBehind_18, if_pos (by rw [z_le (by omega) (by omega)]; omega)]
    refine z_wp_ret ⟨?_, z_fx.rf⟩
    rw [show S.1 2 18 3 = w from (hR.2.2.2.2 0 (by omega)).2.1]
    rfl
  | succ m ih =>
    intro k N hr ht w c S hk hN hhr hw hR
    obtain ⟨N, rfl⟩ : ∃ N', N = N' + 1 := ⟨N - 1, by omega⟩
    obtain ⟨q0, S2, e1, rfl, hR2, hf⟩ := s_courseGo d h hr H ht K w c S hH (by omega) hw hR
    rw [ze_X2_wetBehind_18, if_neg (by rw [z_le (by omega) (by omega)]; omega), e1, z_rV_s]
    try dsimp only
    rw [nI_1]
    refine z_wp_mono (ih (k + 1) N (hr + 1) _ _ _ S2 (by omega) (by omega) (by omega) (z_w1_pos hw) hR2) (fun q S' hq => ⟨hq.1, hf.tr hq.2⟩)
theorem s_wetBehind (d i j h hr M : Nat) (H : z_H) (ht p : Int32) (S : z_Mem) (hi : i ≠ 18) (hj : j ≠ 3) (h01 : S.1 2 i 5 &&& 1 = S.1 2 i 5) (hh : (S.2.2.1 9 j 3).2 = h) (hHc : z_Hc h H S) (h0 : S.1 9 j 0 = ht) (h2 : S.1 9 j 2 = nI hr) (hH : z_hwf H) (hM : M ≤ 100) (hhr : hr + M ≤ 20000) (hw : 0 ≤ S.1 2 i 3) :
    z_wp (z_exe z_mt true (d + 6) 19 [.inr (.inr (3, 0)), .inl (nI M), .inr (.inr (2, i)), .inl p, .inr (.inr (9, j))] S) (fun q S' => q = some (.inl (z_wN H (z_kp (z_kc i S) p) M ht hr (S.1 2 i 3))) ∧ z_fx z_Pco S S') := by
  have e : z_exe z_mt true (d + 6) 19 [.inr (.inr (3, 0)), .inl (nI M), .inr (.inr (2, i)), .inl p, .inr (.inr (9, j))] S = _ := (zx_X2_wetBehind (d + 5) S 0 (nI M) i p j).trans (ze_X2_wetBehind_0 _ _ _ _ _ _ _ _)
  rw [e]
  refine z_wp_V (s_cbegin (d + 3) i j h hr H ht S hi hj h01 hh hHc h0 h2) (fun x S1 hx => ⟨hx.1, ?_⟩)
  obtain ⟨-, ⟨r1, r2, r3, r4, r5⟩, hf1⟩ := hx
  try dsimp only
  have hf2 : z_fx z_Pco S1 (z_sI S1 2 18 4 p) := z_fx.sI (Or.inl ⟨Or.inl rfl, by omega, by omega⟩)
  have hR : z_Rk h H ht hr (z_kp (z_kc i S) p) (S.1 2 i 3) (S.1 2 i 6) (z_sI S1 2 18 4 p) := by
    obtain ⟨o1, o2, o3⟩ := r5 0 (by omega)
    refine ⟨r1, r2.fx hf2 (fun k => by unfold z_Pco; omega) (fun k => by unfold z_Pco; omega) (fun k => by unfold z_Pco; omega), ?_, ?_, fun b hb => ?_⟩
    · rw [z_sI1, if_neg (fun q => absurd q.1 (by decide))]; exact r3
    · rw [z_sI1, if_neg (fun q => absurd q.1 (by decide))]; exact r4
    · obtain rfl : b = 0 := by omega
      refine ⟨?_, o2, o3⟩
      have o1' : z_kc 18 S1 = z_kc i S := o1
      show z_kc 18 (z_sI S1 2 18 4 p) = z_kp (z_kc i S) p
      rw [← o1']
      rfl
  refine z_wp_mono (l_wetBehind d h M H (z_kp (z_kc i S) p) hH hM M 0 999999 hr ht _ _ _ (by omega) (by omega) hhr hw hR) (fun q S' hq => ⟨hq.1, (hf1.tr hf2).tr hq.2⟩)
