/-! ===== a room of the class, one hour, n hours ===== -/
/-- the pairs 6 r .. 6 r + n - 1 and the stove r of the class: kept part K, wet W, cracks C -/
def z_Rc (r h : Nat) (H : z_H) (n : Nat) (ht : Int32) (hr : Nat) (K : Nat → z_K) (W C : Nat → Int32) (S : z_Mem) : Prop :=
  (S.2.2.1 9 r 3).2 = h ∧ z_Hc h H S ∧ S.1 9 r 0 = ht ∧ S.1 9 r 2 = nI hr ∧ ∀ b, b < n → z_kc (6 * r + b) S = K b ∧ S.1 2 (6 * r + b) 3 = W b ∧ S.1 2 (6 * r + b) 6 = C b
def z_Pr (r : Nat) (t i k : Nat) : Prop := (t = 2 ∧ 6 * r ≤ i ∧ i < 6 * r + 6 ∧ (k = 3 ∨ k = 6)) ∨ t = 24 ∨ (t = 9 ∧ i = r ∧ (k = 0 ∨ k = 2))
theorem z_kc_cg {i : Nat} {S S' : z_Mem} (h2 : ∀ k, k ≠ 3 → k ≠ 6 → S'.1 2 i k = S.1 2 i k) (h21 : ∀ k, S'.1 21 i k = S.1 21 i k) : z_kc i S' = z_kc i S := by
  unfold z_kc
  rw [h2 0 (by decide) (by decide), h2 1 (by decide) (by decide), h2 2 (by decide) (by decide), h2 4 (by decide) (by decide), h2 5 (by decide) (by decide)]
  simp only [h21]
/-- pair b of a room, one hour -/
theorem s_hourb (d r h hr n b : Nat) (ht : Int32) (H : z_H) (K : Nat → z_K) (W C : Nat → Int32) (S : z_Mem) (hH : z_hwf H) (hR : z_Rc r h H n ht hr K W C S) (hhr : hr ≤ 20000) (hb : b < n) (hn : n ≤ 6) (hW : 0 ≤ W b) :
    z_wp (z_exe z_mt true (d + 4) 15 [.inr (.inr (2, 6 * r + b)), .inr (.inr (9, r))] S) (fun q S' => q = none ∧ z_Rc r h H n ht hr K (fun b' => if b' = b then z_w1 H (K b) ht hr (W b) else W b') (fun b' => if b' = b then z_c1 (K b) ht (C b) else C b') S' ∧ z_fx (z_Pr r) S S') := by
  obtain ⟨r1, r2, r3, r4, r5⟩ := hR
  obtain ⟨p1, p2, p3⟩ := r5 b hb
  refine z_wp_mono (s_hour1 d (6 * r + b) r h hr ht (W b) H S hH r2 hhr r1 r4 r3 p2 hW) (fun q S' hq => ?_)
  obtain ⟨q1, q2, q3, hf⟩ := hq
  have hx : ∀ t i k, ¬ z_P1 (6 * r + b) t i k → S'.1 t i k = S.1 t i k := fun t i k q => (hf.1 t i k q).1
  have nn : ∀ t i k, t ≠ 2 → t ≠ 24 → ¬ z_P1 (6 * r + b) t i k := fun t i k a c q => q.elim (fun q => a q.1) c
  have n2 : ∀ i k, (i ≠ 6 * r + b ∨ (k ≠ 3 ∧ k ≠ 6)) → ¬ z_P1 (6 * r + b) 2 i k := fun i k a q => q.elim (fun q => a.elim (fun a => a q.2.1) (fun a => q.2.2.elim a.1 a.2)) (fun q => absurd q (by decide))
  refine ⟨q1, ⟨by rw [(hf.1 9 r 3 (nn _ _ _ (by decide) (by decide))).2.2]; exact r1, r2.fx hf (fun k => nn _ _ _ (by decide) (by decide)) (fun k => nn _ _ _ (by decide) (by decide)) (fun k => nn _ _ _ (by decide) (by decide)), (hx 9 r 0 (nn _ _ _ (by decide) (by decide))).trans r3, (hx 9 r 2 (nn _ _ _ (by decide) (by decide))).trans r4, fun b' hb' => ?_⟩, hf.wk (fun t i k q => q.elim (fun q => Or.inl ⟨q.1, by omega, by omega, q.2.2⟩) (fun q => Or.inr (Or.inl q)))⟩
  obtain ⟨o1, o2, o3⟩ := r5 b' hb'
  have hk : z_kc (6 * r + b') S' = z_kc (6 * r + b') S := z_kc_cg (fun k a c => hx 2 _ k (n2 _ _ (Or.inr ⟨a, c⟩))) (fun k => hx 21 _ k (nn _ _ _ (by decide) (by decide)))
  refine ⟨hk.trans o1, ?_, ?_⟩ <;> (try dsimp only)
  · by_cases e : b' = b
    · rw [if_pos e, e, q2, p1]
    · rw [if_neg e, hx 2 _ 3 (n2 _ _ (Or.inl (by omega)))]; exact o2
  · by_cases e : b' = b
    · rw [if_pos e, e, q3, p1, p3]
    · rw [if_neg e, hx 2 _ 6 (n2 _ _ (Or.inl (by omega)))]; exact o3
theorem s_stoveHour (d j : Nat) (S : z_Mem) : z_exe z_mt true (d + 1) 70 [.inr (.inr (9, j))] S = some (none, z_sI (z_sI S 9 j 0 (z_mx (S.1 9 j 0 - S.1 4 (S.2.2.1 9 j 3).2 0))) 9 j 2 (S.1 9 j 2 + 1)) := by
  show z_exe z_mt true (d + 1) 70 _ S = _
  rw [zx_X9_letHourGo, ze_X9_letHourGo_0]
  dsimp only
  rw [z_sI1 (t' := 9) (i' := j) (k' := 2), if_neg (show ¬ (9 = 9 ∧ j = j ∧ 2 = 0) from fun q => absurd q.2.2 (by decide))]
  rfl
/-- the stove's hour, on a room -/
theorem s_hours (d r h hr n : Nat) (ht : Int32) (H : z_H) (K : Nat → z_K) (W C : Nat → Int32) (S : z_Mem) (hR : z_Rc r h H n ht hr K W C S) :
    z_wp (z_exe z_mt true (d + 1) 70 [.inr (.inr (9, r))] S) (fun q S' => q = none ∧ z_Rc r h H n (z_mx (ht - z_last 2 H 1)) (hr + 1) K W C S' ∧ z_fx (z_Pr r) S S') := by
  obtain ⟨r1, r2, r3, r4, r5⟩ := hR
  rw [s_stoveHour]
  generalize hS' : z_sI (z_sI S 9 r 0 (z_mx (S.1 9 r 0 - S.1 4 (S.2.2.1 9 r 3).2 0))) 9 r 2 (S.1 9 r 2 + 1) = S'
  have hf : z_fx (fun t i k => t = 9 ∧ i = r ∧ (k = 0 ∨ k = 2)) S S' := by
    rw [← hS']
    exact (z_fx.sI ⟨rfl, rfl, Or.inl rfl⟩).tr (z_fx.sI ⟨rfl, rfl, Or.inr rfl⟩)
  have hx : ∀ t i k, t ≠ 9 → S'.1 t i k = S.1 t i k := fun t i k q => (hf.1 t i k (fun a => q a.1)).1
  refine z_wp_ret ⟨rfl, ⟨?_, ?_, ?_, ?_, fun b hb => ?_⟩, hf.wk (fun t i k q => Or.inr (Or.inr q))⟩
  · rw [(hf.1 9 r 3 (fun a => a.2.2.elim (by decide) (by decide))).2.2]; exact r1
  · exact r2.fx hf (fun k a => absurd a.1 (by decide)) (fun k a => absurd a.1 (by decide)) (fun k a => absurd a.1 (by decide))
  · rw [← hS', z_sI1, if_neg (fun q => absurd q.2.2 (by decide)), z_sI1, if_pos ⟨rfl, rfl, rfl⟩, r3, r1, r2.1.1]
  · rw [← hS', z_sI1, if_pos ⟨rfl, rfl, rfl⟩, r4, nI_1]
  · obtain ⟨o1, o2, o3⟩ := r5 b hb
    exact ⟨(z_kc_cg (fun k _ _ => hx 2 _ k (by decide)) (fun k => hx 21 _ k (by decide))).trans o1, (hx 2 _ 3 (by decide)).trans o2, (hx 2 _ 6 (by decide)).trans o3⟩
theorem z_w1_pos {H : z_H} {K : z_K} {ht : Int32} {hr : Nat} {w : Int32} (h : 0 ≤ w) : 0 ≤ z_w1 H K ht hr w := by
  unfold z_w1
  cases K.2.2.2.2.1 with
  | true => exact h
  | false => exact z_mx_pos _
theorem z_Rc.cg {r h n hr : Nat} {H : z_H} {ht : Int32} {K K' : Nat → z_K} {W C W' C' : Nat → Int32} {S : z_Mem} (hR : z_Rc r h H n ht hr K W C S) (hh : ∀ b, b < n → K b = K' b ∧ W b = W' b ∧ C b = C' b) : z_Rc r h H n ht hr K' W' C' S := by
  obtain ⟨r1, r2, r3, r4, r5⟩ := hR
  refine ⟨r1, r2, r3, r4, fun b hb => ?_⟩
  obtain ⟨o1, o2, o3⟩ := r5 b hb
  obtain ⟨p1, p2, p3⟩ := hh b hb
  exact ⟨o1.trans p1, o2.trans p2, o3.trans p3⟩
theorem l_roomHour (d r h hr n : Nat) (ht : Int32) (H : z_H) (K : Nat → z_K) (hH : z_hwf H) (hhr : hr ≤ 20000) (hn : n ≤ 6) : ∀ (m b N : Nat) (W C : Nat → Int32) (S : z_Mem), b + m = n → m < N → S.1 7 r 1 = nI n → z_Rc r h H n ht hr K W C S → (∀ b, b < n → 0 ≤ W b) →
    z_wp (zr_X7_letHourGo (z_exe z_mt true (d + 4)) N 2 [some (.inr (.inr (7, r))), some (.inl (nI b))] [] S) (fun q S' => q = none ∧ z_Rc r h H n (z_mx (ht - z_last 2 H 1)) (hr + 1) K (fun b' => if b ≤ b' then z_w1 H (K b') ht hr (W b') else W b') (fun b' => if b ≤ b' then z_c1 (K b') ht (C b') else C b') S' ∧ z_fx (z_Pr r) S S') := by
  intro m
  induction m with
  | zero =>
    intro b N W C S hb hN hc hR hW
    obtain ⟨N, rfl⟩ : ∃ N', N = N' + 1 := ⟨N - 1, by omega⟩
    rw [ze_X7_letHourGo_2, if_pos (by rw [hc, z_le (by omega) (by omega)]; omega)]
    refine z_wp_V (s_hours (d + 3) r h hr n ht H K W C S hR) (fun q S' hq => ⟨hq.1, z_wp_ret ⟨rfl, hq.2.1.cg (fun b' hb' => ?_), hq.2.2⟩⟩)
    exact ⟨rfl, by (try dsimp only); rw [if_neg (by omega)], by (try dsimp only); rw [if_neg (by omega)]⟩
  | succ m ih =>
    intro b N W C S hb hN hc hR hW
    obtain ⟨N, rfl⟩ : ∃ N', N = N' + 1 := ⟨N - 1, by omega⟩
    rw [ze_X7_letHourGo_2, if_neg (by rw [hc, z_le (by omega) (by omega)]; omega), z_oob_n (k := b) (by omega) (by omega), z_cl (k := b) (by omega)]
    dsimp only [cond]
    refine z_wp_V (s_hourb d r h hr n b ht H K W C S hH hR hhr (by omega) hn (hW b (by omega))) (fun q S' hq => ⟨hq.1, ?_⟩)
    obtain ⟨-, hR', hf⟩ := hq
    rw [nI_1]
    have k := ih (b + 1) N _ _ S' (by omega) (by omega) (by rw [(hf.1 7 r 1 (fun a => a.elim (fun a => absurd a.1 (by decide)) (fun a => a.elim (fun a => absurd a (by decide)) (fun a => absurd a.1 (by decide))))).1]; exact hc) hR' (fun b' hb' => by
      show 0 ≤ (if b' = b then z_w1 H (K b) ht hr (W b) else W b')
      by_cases e : b' = b
      · rw [if_pos e]; exact z_w1_pos (hW b (by omega))
      · rw [if_neg e]; exact hW b' hb')
    refine z_wp_mono k (fun q S'' hq => ⟨hq.1, hq.2.1.cg (fun b' hb' => ⟨rfl, ?_, ?_⟩), hf.tr hq.2.2⟩) <;> (try dsimp only)
    · by_cases e : b' = b
      · subst e; rw [if_neg (by omega), if_pos rfl, if_pos (Nat.le_refl _)]
      · by_cases e2 : b ≤ b'
        · rw [if_pos (by omega), if_neg e, if_pos e2]
        · rw [if_neg (by omega), if_neg e, if_neg e2]
    · by_cases e : b' = b
      · subst e; rw [if_neg (by omega), if_pos rfl, if_pos (Nat.le_refl _)]
      · by_cases e2 : b ≤ b'
        · rw [if_pos (by omega), if_neg e, if_pos e2]
        · rw [if_neg (by omega), if_neg e, if_neg e2]
/-- one hour of a room -/
theorem s_roomHour (d r h hr n : Nat) (ht : Int32) (H : z_H) (K : Nat → z_K) (W C : Nat → Int32) (S : z_Mem) (hH : z_hwf H) (hhr : hr ≤ 20000) (hn : n ≤ 6) (hc : S.1 7 r 1 = nI n) (hR : z_Rc r h H n ht hr K W C S) (hW : ∀ b, b < n → 0 ≤ W b) :
    z_wp (z_exe z_mt true (d + 5) 54 [.inr (.inr (7, r))] S) (fun q S' => q = none ∧ z_Rc r h H n (z_mx (ht - z_last 2 H 1)) (hr + 1) K (fun b => z_w1 H (K b) ht hr (W b)) (fun b => z_c1 (K b) ht (C b)) S' ∧ z_fx (z_Pr r) S S') := by
  have e : z_exe z_mt true (d + 5) 54 [.inr (.inr (7, r))] S = _ := (zx_X7_letHourGo (d + 4) S r).trans (ze_X7_letHourGo_0 _ _ _ _)
  rw [e]
  have k := l_roomHour d r h hr n ht H K hH hhr hn n 0 999999 W C S (by omega) (by omega) hc hR hW
  refine z_wp_mono k (fun q S' hq => ⟨hq.1, hq.2.1.cg (fun b hb => ?_), hq.2.2⟩)
  exact ⟨rfl, by (try dsimp only); rw [if_pos (Nat.zero_le _)], by (try dsimp only); rw [if_pos (Nat.zero_le _)]⟩
/-- n hours -/
def z_htN (H : z_H) : Nat → Int32 → Int32
  | 0, ht => ht
  | m + 1, ht => z_htN H m (z_mx (ht - z_last 2 H 1))
def z_wN (H : z_H) (K : z_K) : Nat → Int32 → Nat → Int32 → Int32
  | 0, _, _, w => w
  | m + 1, ht, hr, w => z_wN H K m (z_mx (ht - z_last 2 H 1)) (hr + 1) (z_w1 H K ht hr w)
noncomputable def z_cN (H : z_H) (K : z_K) : Nat → Int32 → Int32 → Int32
  | 0, _, c => c
  | m + 1, ht, c => z_cN H K m (z_mx (ht - z_last 2 H 1)) (z_c1 K ht c)
theorem l_roomHours (d r h n : Nat) (H : z_H) (K : Nat → z_K) (M : Nat) (hM : M ≤ 100) (hH : z_hwf H) (hn : n ≤ 6) : ∀ (m k N hr : Nat) (ht : Int32) (W C : Nat → Int32) (S : z_Mem), k + m = M → m < N → hr + m ≤ 20000 → S.1 7 r 1 = nI n → z_Rc r h H n ht hr K W C S → (∀ b, b < n → 0 ≤ W b) →
    z_wp (zr_X7_letHoursGo (z_exe z_mt true (d + 5)) N 2 [some (.inr (.inr (7, r))), some (.inl (nI M)), some (.inl (nI k))] [] S) (fun q S' => q = none ∧ z_Rc r h H n (z_htN H m ht) (hr + m) K (fun b => z_wN H (K b) m ht hr (W b)) (fun b => z_cN H (K b) m ht (C b)) S' ∧ z_fx (z_Pr r) S S') := by
  intro m
  induction m with
  | zero =>
    intro k N hr ht W C S hk hN hhr hc hR hW
    obtain ⟨N, rfl⟩ : ∃ N', N = N' + 1 := ⟨N - 1, by omega⟩
    rw [ze_X7_letHoursGo_2, if_pos (by rw [z_le (by omega) (by omega)]; omega)]
    exact z_wp_ret ⟨rfl, hR, z_fx.rf⟩
  | succ m ih =>
    intro k N hr ht W C S hk hN hhr hc hR hW
    obtain ⟨N, rfl⟩ : ∃ N', N = N' + 1 := ⟨N - 1, by omega⟩
    rw [ze_X7_letHoursGo_2, if_neg (by rw [z_le (by omega) (by omega)]; omega)]
    refine z_wp_V (s_roomHour d r h hr n ht H K W C S hH (by omega) hn hc hR hW) (fun q S' hq => ⟨hq.1, ?_⟩)
    obtain ⟨-, hR', hf⟩ := hq
    rw [nI_1]
    have k' := ih (k + 1) N (hr + 1) _ _ _ S' (by omega) (by omega) (by omega) (by rw [(hf.1 7 r 1 (fun a => a.elim (fun a => absurd a.1 (by decide)) (fun a => a.elim (fun a => absurd a (by decide)) (fun a => absurd a.1 (by decide))))).1]; exact hc) hR' (fun b hb => z_w1_pos (hW b hb))
    refine z_wp_mono k' (fun q S'' hq => ⟨hq.1, ?_, hf.tr hq.2.2⟩)
    have k2 := hq.2.1
    rw [show hr + 1 + m = hr + (m + 1) by omega] at k2
    exact k2
theorem s_roomHours (d r h n M hr : Nat) (H : z_H) (ht : Int32) (K : Nat → z_K) (W C : Nat → Int32) (S : z_Mem) (hM : M ≤ 100) (hH : z_hwf H) (hn : n ≤ 6) (hhr : hr + M ≤ 20000) (hc : S.1 7 r 1 = nI n) (hR : z_Rc r h H n ht hr K W C S) (hW : ∀ b, b < n → 0 ≤ W b) :
    z_wp (z_exe z_mt true (d + 6) 55 [.inr (.inr (7, r)), .inl (nI M)] S) (fun q S' => q = none ∧ z_Rc r h H n (z_htN H M ht) (hr + M) K (fun b => z_wN H (K b) M ht hr (W b)) (fun b => z_cN H (K b) M ht (C b)) S' ∧ z_fx (z_Pr r) S S') := by
  have e : z_exe z_mt true (d + 6) 55 [.inr (.inr (7, r)), .inl (nI M)] S = _ := (zx_X7_letHoursGo (d + 5) S r (nI M)).trans (ze_X7_letHoursGo_0 _ _ _ _ _)
  rw [e]
  exact l_roomHours d r h n H K M hM hH hn M 0 999999 hr ht W C S (by omega) (by omega) hhr hc hR hW
