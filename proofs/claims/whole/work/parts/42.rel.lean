/-! ===== what class and model have in common ===== -/
theorem z_Hc.cg {h : Nat} {H : z_H} {S S' : z_Mem} (hH : z_Hc h H S) (e4 : ∀ k, S'.1 4 h k = S.1 4 h k) (e22 : ∀ k, S'.1 22 h k = S.1 22 h k) (e23 : ∀ k, S'.1 23 h k = S.1 23 h k) : z_Hc h H S' := by
  obtain ⟨⟨a1, a2⟩, ⟨b1, b2, b3⟩, c1, c2, c3⟩ := hH
  exact ⟨⟨(e4 0).trans a1, (e4 1).trans a2⟩, ⟨(e4 2).trans b1, b2, fun k x q => (e22 k).trans (b3 k x q)⟩, (e4 4).trans c1, c2, fun k x q => (e23 k).trans (c3 k x q)⟩
/-- the model's hut, as huts of a number below hts have it -/
def z_Hq (hts c0 : Nat) (H : z_H) (S : z_Mem) : Prop := (S.1 12 0 12 = -1 ∧ c0 = 0 ∧ H = [] ∨ ∃ m : Nat, m < hts ∧ S.1 12 0 12 = nI m ∧ c0 = 10 * m ∧ H.length ≤ 10 ∧ S.1 44 0 m = nI H.length) ∧
  ∀ j c, H[j]? = some c → S.1 45 0 (c0 + j) = nI c.1 ∧ S.1 46 0 (c0 + j) = nI c.2.1 ∧ (c.1 < 2 → ∃ a : Nat, S.1 47 0 (c0 + j) = nI a ∧ S.1 48 0 (c0 + j) = nI (a + c.2.2.length) ∧ a + c.2.2.length ≤ 100 * hts ∧ c.2.2.length ≤ 100 ∧ ∀ k t, c.2.2[k]? = some t → S.1 49 0 (a + k) = z_ts t)
theorem z_Hq.Hu {hts c0 : Nat} {H : z_H} {S : z_Mem} (h : z_Hq hts c0 H S) (h6 : hts ≤ 6) : z_Hu c0 H S := by
  obtain ⟨h1, h2⟩ := h
  refine ⟨?_, fun j c hj => ?_, ?_⟩
  · rcases h1 with ⟨-, rfl, rfl⟩ | ⟨m, hm, -, rfl, hl, -⟩
    · exact Nat.zero_le _
    · omega
  · obtain ⟨k1, k2, k3⟩ := h2 j c hj
    refine ⟨k1, k2, fun q => ?_⟩
    obtain ⟨a, a1, a2, a3, a4, a5⟩ := k3 q
    exact ⟨a, a1, a2, by omega, a4, a5⟩
  · rcases h1 with h1 | ⟨m, hm, e1, e2, -, e3⟩
    · exact Or.inl h1
    · exact Or.inr ⟨m, by omega, e1, e2, e3⟩
theorem z_Hq.cg {hts c0 : Nat} {H : z_H} {S S' : z_Mem} (h : z_Hq hts c0 H S) (e12 : S'.1 12 0 12 = S.1 12 0 12) (e44 : ∀ k, k < hts → S'.1 44 0 k = S.1 44 0 k) (e : ∀ t k, 45 ≤ t → t ≤ 48 → k < 10 * hts → S'.1 t 0 k = S.1 t 0 k) (e49 : ∀ k, k < 100 * hts → S'.1 49 0 k = S.1 49 0 k) : z_Hq hts c0 H S' := by
  obtain ⟨h1, h2⟩ := h
  have hc : ∀ j, j < H.length → c0 + j < 10 * hts := by
    intro j hj
    rcases h1 with ⟨-, -, rfl⟩ | ⟨m, hm, -, rfl, hl, -⟩
    · exact absurd hj (Nat.not_lt_zero j)
    · omega
  refine ⟨?_, fun j c hj => ?_⟩
  · rcases h1 with ⟨a, b⟩ | ⟨m, hm, e1, e2, e3, e4⟩
    · exact Or.inl ⟨e12.trans a, b⟩
    · exact Or.inr ⟨m, hm, e12.trans e1, e2, e3, (e44 m hm).trans e4⟩
  · obtain ⟨k1, k2, k3⟩ := h2 j c hj
    have hj' := hc j (List.getElem?_eq_some_iff.mp hj).1
    refine ⟨(e 45 _ (by decide) (by decide) hj').trans k1, (e 46 _ (by decide) (by decide) hj').trans k2, fun q => ?_⟩
    obtain ⟨a, a1, a2, a3, a4, a5⟩ := k3 q
    refine ⟨a, (e 47 _ (by decide) (by decide) hj').trans a1, (e 48 _ (by decide) (by decide) hj').trans a2, a3, a4, fun k t hk => ?_⟩
    have := (List.getElem?_eq_some_iff.mp hk).1
    exact (e49 _ (by omega)).trans (a5 k t hk)
theorem z_Hq.up {hts hts' c0 : Nat} {H : z_H} {S : z_Mem} (h : z_Hq hts c0 H S) (hle : hts ≤ hts') : z_Hq hts' c0 H S := by
  obtain ⟨h1, h2⟩ := h
  refine ⟨?_, fun j c hj => ?_⟩
  · rcases h1 with h1 | ⟨m, hm, r⟩
    · exact Or.inl h1
    · exact Or.inr ⟨m, by omega, r⟩
  · obtain ⟨k1, k2, k3⟩ := h2 j c hj
    refine ⟨k1, k2, fun q => ?_⟩
    obtain ⟨a, a1, a2, a3, a4, a5⟩ := k3 q
    exact ⟨a, a1, a2, by omega, a4, a5⟩
/-- what a pair's kept part may be -/
def z_Kok (b : Nat) (K : z_K) : Prop := K.1 = nI b ∧ (∃ k : Nat, k ≤ 6 ∧ K.2.1 = nI k) ∧ ∃ p : Nat, p ≤ 5 ∧ K.2.2.2.1 = nI p
/-- the room: pairs, stove, hut in force -/
def z_LA (hts n hr h c0 : Nat) (ht wd : Int32) (H : z_H) (K : Nat → z_K) (W C : Nat → Int32) (S : z_Mem) : Prop :=
  ((n ≤ 6 ∧ hr ≤ 9999 ∧ 0 ≤ wd ∧ z_hwf H ∧ hts ≤ 6) ∧ (h < hts ∨ h = 6)) ∧
  ((S.1 7 0 1 = nI n ∧ S.1 9 0 0 = ht ∧ S.1 9 0 1 = wd ∧ S.1 9 0 2 = nI hr ∧ (S.2.2.1 9 0 3).2 = h ∧ (z_Hc h H S ∧ ∀ b, b < 6 → S.1 2 b 0 = nI b)) ∧
   (S.1 12 0 0 = nI n ∧ S.1 12 0 2 = ht ∧ S.1 12 0 3 = wd ∧ S.1 12 0 4 = nI hr ∧ z_Hq hts c0 H S)) ∧
  ∀ b, b < n → (z_Kok b (K b) ∧ (∃ w : Nat, w ≤ 99 ∧ W b = nI w) ∧ ∃ c : Nat, c ≤ hr ∧ C b = nI c) ∧ (z_kc b S = K b ∧ S.1 2 b 5 &&& 1 = S.1 2 b 5 ∧ S.1 2 b 3 = W b ∧ S.1 2 b 6 = C b) ∧ z_km b S = K b ∧ S.1 39 0 b = W b ∧ S.1 41 0 b = C b
/-- the rows told by hand: seen, rota, book -/
def z_LB (n : Nat) (S : z_Mem) : Prop :=
  (∃ c : Nat, c ≤ 5 ∧ S.1 8 0 3 = nI c ∧ S.1 12 0 42 = nI c ∧ ∀ i, i < c → (∃ b : Nat, b < n ∧ S.1 31 0 i = nI b ∧ S.1 59 0 i = nI b) ∧ (∃ w : Nat, w ≤ 99 ∧ S.1 32 0 i = nI w ∧ S.1 60 0 i = nI w) ∧ ∃ k : Nat, k ≤ 20 ∧ S.1 33 0 i = nI k ∧ S.1 61 0 i = nI k) ∧
  (∃ c : Nat, c ≤ 10 ∧ S.1 8 1 3 = nI c ∧ S.1 12 0 47 = nI c ∧ ∀ i, i < c → (S.1 31 1 i = S.1 63 0 i ∧ S.1 32 1 i = S.1 64 0 i) ∧ ∃ w : Nat, w ≤ 3 ∧ S.1 63 0 i = nI w ∧ (2 ≤ w → ∃ b : Nat, b < n ∧ S.1 64 0 i = nI b)) ∧
  ∃ c : Nat, c ≤ 8 ∧ S.1 8 2 3 = nI c ∧ S.1 12 0 48 = nI c ∧ ∀ i, i < c → (∃ b : Nat, b < n ∧ S.1 31 2 i = nI b ∧ S.1 65 0 i = nI b) ∧ S.1 32 2 i = S.1 66 0 i
def z_L (hts : Nat) (S : z_Mem) : Prop := ∃ (n hr h c0 : Nat) (ht wd : Int32) (H : z_H) (K : Nat → z_K) (W C : Nat → Int32), z_LA hts n hr h c0 ht wd H K W C S ∧ z_LB n S
theorem z_LA.Rc {hts n hr h c0 : Nat} {ht wd : Int32} {H : z_H} {K : Nat → z_K} {W C : Nat → Int32} {S : z_Mem} (hL : z_LA hts n hr h c0 ht wd H K W C S) : z_Rc 0 h H n ht hr K W C S := by
  obtain ⟨-, ⟨⟨a1, a2, a3, a4, a5, a6⟩, -⟩, hb⟩ := hL
  refine ⟨a5, a6.1, a2, a4, fun b h => ?_⟩
  obtain ⟨-, ⟨p1, -, p2, p3⟩, -⟩ := hb b h
  rw [show 6 * 0 + b = b by omega]
  exact ⟨p1, p2, p3⟩
theorem z_LA.Rm {hts n hr h c0 : Nat} {ht wd : Int32} {H : z_H} {K : Nat → z_K} {W C : Nat → Int32} {S : z_Mem} (hL : z_LA hts n hr h c0 ht wd H K W C S) : z_Rm c0 H n ht hr K W C S := by
  obtain ⟨⟨⟨-, -, -, -, h6⟩, -⟩, ⟨-, ⟨a1, a2, a3, a4, a5⟩⟩, hb⟩ := hL
  exact ⟨a1, a5.Hu h6, a2, a4, fun b h => (hb b h).2.2⟩
theorem z_LA.z01 {hts n hr h c0 : Nat} {ht wd : Int32} {H : z_H} {K : Nat → z_K} {W C : Nat → Int32} {S : z_Mem} (hL : z_LA hts n hr h c0 ht wd H K W C S) : z_01 0 n S := by
  intro b hb
  rw [show 6 * 0 + b = b by omega]
  exact (hL.2.2 b hb).2.1.2.1
theorem z_LA.W0 {hts n hr h c0 : Nat} {ht wd : Int32} {H : z_H} {K : Nat → z_K} {W C : Nat → Int32} {S : z_Mem} (hL : z_LA hts n hr h c0 ht wd H K W C S) : ∀ b, b < n → 0 ≤ W b := by
  intro b hb
  obtain ⟨w, hw, e⟩ := (hL.2.2 b hb).1.2.1
  rw [e]
  exact nI_pos' (by omega)
/-- the slots that the room's part looks at -/
def z_FA (t i k : Nat) : Prop := (t = 7 ∧ i = 0 ∧ k = 1) ∨ (t = 9 ∧ i = 0) ∨ ((t = 2 ∨ t = 21) ∧ i < 6) ∨ t = 4 ∨ t = 22 ∨ t = 23 ∨ (t = 12 ∧ i = 0 ∧ (k ≤ 4 ∨ k = 12)) ∨ (i = 0 ∧ 37 ≤ t ∧ t ≤ 42) ∨ (i = 0 ∧ 44 ≤ t ∧ t ≤ 49)
def z_FB (t i k : Nat) : Prop := (t = 8 ∧ i < 3 ∧ k = 3) ∨ (31 ≤ t ∧ t ≤ 33 ∧ i < 3) ∨ (t = 12 ∧ i = 0 ∧ (k = 42 ∨ k = 47 ∨ k = 48)) ∨ (i = 0 ∧ 59 ≤ t ∧ t ≤ 61) ∨ (i = 0 ∧ 63 ≤ t ∧ t ≤ 66)
theorem z_LA.cg {hts n hr h c0 : Nat} {ht wd : Int32} {H : z_H} {K : Nat → z_K} {W C : Nat → Int32} {S S' : z_Mem} (hL : z_LA hts n hr h c0 ht wd H K W C S) (e : ∀ t i k, z_FA t i k → (t = 4 → i = h) → (t = 22 → i = h) → (t = 23 → i = h) → (t = 44 → k < hts) → (45 ≤ t → t ≤ 48 → k < 10 * hts) → (t = 49 → k < 100 * hts) → S'.1 t i k = S.1 t i k) (er : (S'.2.2.1 9 0 3).2 = (S.2.2.1 9 0 3).2) : z_LA hts n hr h c0 ht wd H K W C S' := by
  obtain ⟨h0, ⟨⟨a1, a2, a3, a4, a5, a6⟩, ⟨m1, m2, m3, m4, m5⟩⟩, hb⟩ := hL
  have E : ∀ t i k, z_FA t i k → ¬ t = 4 → ¬ (22 ≤ t ∧ t ≤ 23) → ¬ (44 ≤ t ∧ t ≤ 49) → S'.1 t i k = S.1 t i k := fun t i k hf x1 x2 x3 => e t i k hf (fun q => by omega) (fun q => by omega) (fun q => by omega) (fun q => by omega) (fun q => by omega) (fun q => by omega)
  have E' : ∀ t i k, z_FA t i k → ¬ (44 ≤ t ∧ t ≤ 49) → (i = h) → S'.1 t i k = S.1 t i k := fun t i k hf x1 x2 => e t i k hf (fun q => x2) (fun q => x2) (fun q => x2) (fun q => by omega) (fun q => by omega) (fun q => by omega)
  refine ⟨h0, ⟨⟨?_, ?_, ?_, ?_, er.trans a5, ?_⟩, ⟨?_, ?_, ?_, ?_, ?_⟩⟩, fun b hb' => ?_⟩
  · rw [E 7 0 1 (by unfold z_FA; omega) (by omega) (by omega) (by omega)]; exact a1
  · rw [E 9 0 0 (by unfold z_FA; omega) (by omega) (by omega) (by omega)]; exact a2
  · rw [E 9 0 1 (by unfold z_FA; omega) (by omega) (by omega) (by omega)]; exact a3
  · rw [E 9 0 2 (by unfold z_FA; omega) (by omega) (by omega) (by omega)]; exact a4
  · refine ⟨?_, fun b hb => by rw [E 2 b 0 (by unfold z_FA; omega) (by omega) (by omega) (by omega)]; exact a6.2 b hb⟩
    exact a6.1.cg (fun k => E' 4 h k (by unfold z_FA; omega) (by omega) rfl) (fun k => E' 22 h k (by unfold z_FA; omega) (by omega) rfl) (fun k => E' 23 h k (by unfold z_FA; omega) (by omega) rfl)
  · rw [E 12 0 0 (by unfold z_FA; omega) (by omega) (by omega) (by omega)]; exact m1
  · rw [E 12 0 2 (by unfold z_FA; omega) (by omega) (by omega) (by omega)]; exact m2
  · rw [E 12 0 3 (by unfold z_FA; omega) (by omega) (by omega) (by omega)]; exact m3
  · rw [E 12 0 4 (by unfold z_FA; omega) (by omega) (by omega) (by omega)]; exact m4
  · refine m5.cg (E 12 0 12 (by unfold z_FA; omega) (by omega) (by omega) (by omega)) (fun k hk => e 44 0 k (by unfold z_FA; omega) (by omega) (by omega) (by omega) (fun _ => hk) (by omega) (by omega)) (fun t k h1 h2 hk => e t 0 k (by unfold z_FA; omega) (by omega) (by omega) (by omega) (by omega) (fun _ _ => hk) (by omega)) (fun k hk => e 49 0 k (by unfold z_FA; omega) (by omega) (by omega) (by omega) (by omega) (by omega) (fun _ => hk))
  · obtain ⟨o1, ⟨p1, p2, p3, p4⟩, q1, q2, q3⟩ := hb b hb'
    have hn : n ≤ 6 := h0.1.1
    have e2 : ∀ k, S'.1 2 b k = S.1 2 b k := fun k => E 2 b k (by unfold z_FA; omega) (by omega) (by omega) (by omega)
    have e21 : ∀ k, S'.1 21 b k = S.1 21 b k := fun k => E 21 b k (by unfold z_FA; omega) (by omega) (by omega) (by omega)
    have em : ∀ t k, 37 ≤ t → t ≤ 42 → S'.1 t 0 k = S.1 t 0 k := fun t k h1 h2 => E t 0 k (by unfold z_FA; omega) (by omega) (by omega) (by omega)
    refine ⟨o1, ⟨?_, ?_, ?_, ?_⟩, ?_, ?_, ?_⟩
    · exact (z_kc_cg (fun k _ _ => e2 k) e21).trans p1
    · rw [e2]; exact p2
    · rw [e2]; exact p3
    · rw [e2]; exact p4
    · exact (z_km_cg (em 37 b (by decide) (by decide)) (em 38 b (by decide) (by decide)) (em 40 b (by decide) (by decide)) (E 12 0 1 (by unfold z_FA; omega) (by omega) (by omega) (by omega)) (fun k => em 42 k (by decide) (by decide))).trans q1
    · rw [em 39 b (by decide) (by decide)]; exact q2
    · rw [em 41 b (by decide) (by decide)]; exact q3
theorem z_LB.cg {n : Nat} {S S' : z_Mem} (hL : z_LB n S) (e : ∀ t i k, z_FB t i k → S'.1 t i k = S.1 t i k) : z_LB n S' := by
  obtain ⟨⟨c1, x1, x2, x3, x4⟩, ⟨c2, y1, y2, y3, y4⟩, ⟨c3, w1, w2, w3, w4⟩⟩ := hL
  have er : ∀ t i k, 31 ≤ t → t ≤ 33 → i < 3 → S'.1 t i k = S.1 t i k := fun t i k a b c => e t i k (by unfold z_FB; omega)
  have em : ∀ t k, 59 ≤ t → t ≤ 66 → t ≠ 62 → S'.1 t 0 k = S.1 t 0 k := fun t k a b c => e t 0 k (by unfold z_FB; omega)
  refine ⟨⟨c1, x1, (e 8 0 3 (by unfold z_FB; omega)).trans x2, (e 12 0 42 (by unfold z_FB; omega)).trans x3, fun i hi => ?_⟩, ⟨c2, y1, (e 8 1 3 (by unfold z_FB; omega)).trans y2, (e 12 0 47 (by unfold z_FB; omega)).trans y3, fun i hi => ?_⟩, ⟨c3, w1, (e 8 2 3 (by unfold z_FB; omega)).trans w2, (e 12 0 48 (by unfold z_FB; omega)).trans w3, fun i hi => ?_⟩⟩
  · have := x4 i hi
    rw [er 31 0 i (by decide) (by decide) (by decide), er 32 0 i (by decide) (by decide) (by decide), er 33 0 i (by decide) (by decide) (by decide), em 59 i (by decide) (by decide) (by decide), em 60 i (by decide) (by decide) (by decide), em 61 i (by decide) (by decide) (by decide)]
    exact this
  · have := y4 i hi
    rw [er 31 1 i (by decide) (by decide) (by decide), er 32 1 i (by decide) (by decide) (by decide), em 63 i (by decide) (by decide) (by decide), em 64 i (by decide) (by decide) (by decide)]
    exact this
  · have := w4 i hi
    rw [er 31 2 i (by decide) (by decide) (by decide), er 32 2 i (by decide) (by decide) (by decide), em 65 i (by decide) (by decide) (by decide), em 66 i (by decide) (by decide) (by decide)]
    exact this
theorem z_L.cg {hts : Nat} {S S' : z_Mem} (hL : z_L hts S) (e : ∀ t i k, (z_FA t i k ∨ z_FB t i k) → S'.1 t i k = S.1 t i k) (er : (S'.2.2.1 9 0 3).2 = (S.2.2.1 9 0 3).2) : z_L hts S' := by
  obtain ⟨n, hr, h, c0, ht, wd, H, K, W, C, hA, hB⟩ := hL
  exact ⟨n, hr, h, c0, ht, wd, H, K, W, C, hA.cg (fun t i k h _ _ _ _ _ _ => e t i k (Or.inl h)) er, hB.cg (fun t i k h => e t i k (Or.inr h))⟩
/-- where the image of a slot lies -/
def z_u12 (k : Nat) : Nat := if k ≤ 4 then k + 55 else if k = 12 then 54 else if k = 42 then 60 else if k = 47 then 61 else if k = 48 then 62 else k
def z_us (t i k : Nat) : Nat × (Nat × Nat) :=
  if t = 7 ∧ i = 0 then (7, 1, k) else if t = 9 ∧ i = 0 then (9, 1, k) else if (t = 2 ∨ t = 21) ∧ i < 6 then (t, i + 6, k) else
  if (t = 8 ∨ (31 ≤ t ∧ t ≤ 33)) ∧ i < 3 then (t, i + 3, k) else if t = 12 then (12, i, z_u12 k) else
  if 37 ≤ t ∧ t ≤ 42 then (t + 30, i, k) else if 59 ≤ t ∧ t ≤ 61 then (t + 14, i, k) else if 63 ≤ t ∧ t ≤ 66 then (t + 13, i, k) else (t, i, k)
/-- the memory as it were if the image came back -/
def z_un (S : z_Mem) : z_Mem := (fun t i k => S.1 (z_us t i k).1 (z_us t i k).2.1 (z_us t i k).2.2, S.2.1, (fun t i k => S.2.2.1 (z_us t i k).1 (z_us t i k).2.1 (z_us t i k).2.2, S.2.2.2))
def z_LI (hts : Nat) (S : z_Mem) : Prop := S.1 11 0 4 = S.1 12 0 53 ∧ (S.1 11 0 4 = 0 ∨ S.1 11 0 4 = 1 ∧ z_L hts (z_un S)) ∧ ∀ b, b < 6 → S.1 2 (b + 6) 0 = nI b
/-- what the image's part looks at -/
def z_FI (t i k : Nat) : Prop := (t = 11 ∧ i = 0 ∧ k = 4) ∨ (t = 7 ∧ i = 1 ∧ k = 1) ∨ (t = 9 ∧ i = 1) ∨ ((t = 2 ∨ t = 21) ∧ 6 ≤ i ∧ i < 12) ∨ t = 4 ∨ t = 22 ∨ t = 23 ∨ (t = 12 ∧ i = 0 ∧ 53 ≤ k ∧ k ≤ 62) ∨ (i = 0 ∧ 67 ≤ t ∧ t ≤ 72) ∨ (i = 0 ∧ 44 ≤ t ∧ t ≤ 49) ∨ (t = 8 ∧ 3 ≤ i ∧ i < 6 ∧ k = 3) ∨ (31 ≤ t ∧ t ≤ 33 ∧ 3 ≤ i ∧ i < 6) ∨ (i = 0 ∧ 73 ≤ t ∧ t ≤ 79)
theorem z_u12_r {k : Nat} (h : k ≤ 4 ∨ k = 12 ∨ k = 42 ∨ k = 47 ∨ k = 48) : 53 ≤ z_u12 k ∧ z_u12 k ≤ 62 := by
  unfold z_u12
  by_cases h1 : k ≤ 4
  · rw [if_pos h1]; omega
  rw [if_neg h1]
  by_cases h2 : k = 12
  · rw [if_pos h2]; omega
  rw [if_neg h2]
  by_cases h3 : k = 42
  · rw [if_pos h3]; omega
  rw [if_neg h3]
  by_cases h4 : k = 47
  · rw [if_pos h4]; omega
  rw [if_neg h4, if_pos (by omega)]
  omega
theorem z_us_FI {t i k : Nat} (h : z_FA t i k ∨ z_FB t i k) : z_FI (z_us t i k).1 (z_us t i k).2.1 (z_us t i k).2.2 := by
  rcases h with (h | h | h | h | h | h | h | h | h) | (h | h | h | h | h)
  · obtain ⟨h1, h2, h3⟩ := h
    have e : z_us t i k = (7, 1, k) := by unfold z_us; rw [if_pos (by omega)]
    rw [e]
    exact Or.inr (Or.inl ⟨rfl, rfl, h3⟩)
  · obtain ⟨h1, h2⟩ := h
    have e : z_us t i k = (9, 1, k) := by unfold z_us; rw [if_neg (by omega), if_pos (by omega)]
    rw [e]
    exact Or.inr (Or.inr (Or.inl ⟨rfl, rfl⟩))
  · obtain ⟨h1, h2⟩ := h
    have e : z_us t i k = (t, i + 6, k) := by unfold z_us; rw [if_neg (by omega), if_neg (by omega), if_pos (by omega)]
    rw [e]
    exact Or.inr (Or.inr (Or.inr (Or.inl ⟨h1, Nat.le_add_left 6 i, Nat.add_lt_add_right h2 6⟩)))
  · have e : z_us t i k = (t, i, k) := by unfold z_us; rw [if_neg (by omega), if_neg (by omega), if_neg (by omega), if_neg (by omega), if_neg (by omega), if_neg (by omega), if_neg (by omega), if_neg (by omega)]
    rw [e]
    exact Or.inr (Or.inr (Or.inr (Or.inr (Or.inl h))))
  · have e : z_us t i k = (t, i, k) := by unfold z_us; rw [if_neg (by omega), if_neg (by omega), if_neg (by omega), if_neg (by omega), if_neg (by omega), if_neg (by omega), if_neg (by omega), if_neg (by omega)]
    rw [e]
    exact Or.inr (Or.inr (Or.inr (Or.inr (Or.inr (Or.inl h)))))
  · have e : z_us t i k = (t, i, k) := by unfold z_us; rw [if_neg (by omega), if_neg (by omega), if_neg (by omega), if_neg (by omega), if_neg (by omega), if_neg (by omega), if_neg (by omega), if_neg (by omega)]
    rw [e]
    exact Or.inr (Or.inr (Or.inr (Or.inr (Or.inr (Or.inr (Or.inl h))))))
  · obtain ⟨h1, h2, h3⟩ := h
    have e : z_us t i k = (12, i, z_u12 k) := by unfold z_us; rw [if_neg (by omega), if_neg (by omega), if_neg (by omega), if_neg (by omega), if_pos (by omega)]
    have hu := z_u12_r (k := k) (by omega)
    rw [e]
    exact Or.inr (Or.inr (Or.inr (Or.inr (Or.inr (Or.inr (Or.inr (Or.inl ⟨rfl, h2, hu.1, hu.2⟩)))))))
  · obtain ⟨h1, h2, h3⟩ := h
    have e : z_us t i k = (t + 30, i, k) := by unfold z_us; rw [if_neg (by omega), if_neg (by omega), if_neg (by omega), if_neg (by omega), if_neg (by omega), if_pos (by omega)]
    rw [e]
    exact Or.inr (Or.inr (Or.inr (Or.inr (Or.inr (Or.inr (Or.inr (Or.inr (Or.inl ⟨h1, Nat.add_le_add_right h2 30, Nat.add_le_add_right h3 30⟩))))))))
  · obtain ⟨h1, h2, h3⟩ := h
    have e : z_us t i k = (t, i, k) := by unfold z_us; rw [if_neg (by omega), if_neg (by omega), if_neg (by omega), if_neg (by omega), if_neg (by omega), if_neg (by omega), if_neg (by omega), if_neg (by omega)]
    rw [e]
    exact Or.inr (Or.inr (Or.inr (Or.inr (Or.inr (Or.inr (Or.inr (Or.inr (Or.inr (Or.inl ⟨h1, h2, h3⟩)))))))))
  · obtain ⟨h1, h2, h3⟩ := h
    have e : z_us t i k = (t, i + 3, k) := by unfold z_us; rw [if_neg (by omega), if_neg (by omega), if_neg (by omega), if_pos (by omega)]
    rw [e]
    exact Or.inr (Or.inr (Or.inr (Or.inr (Or.inr (Or.inr (Or.inr (Or.inr (Or.inr (Or.inr (Or.inl ⟨h1, Nat.le_add_left 3 i, Nat.add_lt_add_right h2 3, h3⟩))))))))))
  · obtain ⟨h1, h2, h3⟩ := h
    have e : z_us t i k = (t, i + 3, k) := by unfold z_us; rw [if_neg (by omega), if_neg (by omega), if_neg (by omega), if_pos (by omega)]
    rw [e]
    exact Or.inr (Or.inr (Or.inr (Or.inr (Or.inr (Or.inr (Or.inr (Or.inr (Or.inr (Or.inr (Or.inr (Or.inl ⟨h1, h2, Nat.le_add_left 3 i, Nat.add_lt_add_right h3 3⟩)))))))))))
  · obtain ⟨h1, h2, h3⟩ := h
    have e : z_us t i k = (12, i, z_u12 k) := by unfold z_us; rw [if_neg (by omega), if_neg (by omega), if_neg (by omega), if_neg (by omega), if_pos (by omega)]
    have hu := z_u12_r (k := k) (by omega)
    rw [e]
    exact Or.inr (Or.inr (Or.inr (Or.inr (Or.inr (Or.inr (Or.inr (Or.inl ⟨rfl, h2, hu.1, hu.2⟩)))))))
  · obtain ⟨h1, h2, h3⟩ := h
    have e : z_us t i k = (t + 14, i, k) := by unfold z_us; rw [if_neg (by omega), if_neg (by omega), if_neg (by omega), if_neg (by omega), if_neg (by omega), if_neg (by omega), if_pos (by omega)]
    rw [e]
    exact Or.inr (Or.inr (Or.inr (Or.inr (Or.inr (Or.inr (Or.inr (Or.inr (Or.inr (Or.inr (Or.inr (Or.inr (⟨h1, Nat.add_le_add_right h2 14, Nat.le_trans (Nat.add_le_add_right h3 14) (by decide)⟩))))))))))))
  · obtain ⟨h1, h2, h3⟩ := h
    have e : z_us t i k = (t + 13, i, k) := by unfold z_us; rw [if_neg (by omega), if_neg (by omega), if_neg (by omega), if_neg (by omega), if_neg (by omega), if_neg (by omega), if_neg (by omega), if_pos (by omega)]
    rw [e]
    exact Or.inr (Or.inr (Or.inr (Or.inr (Or.inr (Or.inr (Or.inr (Or.inr (Or.inr (Or.inr (Or.inr (Or.inr (⟨h1, Nat.le_trans (by decide) (Nat.add_le_add_right h2 13), Nat.add_le_add_right h3 13⟩))))))))))))
theorem z_un_cg {S S' : z_Mem} {t i k : Nat} (h : z_FA t i k ∨ z_FB t i k) (e : ∀ t i k, z_FI t i k → S'.1 t i k = S.1 t i k) : (z_un S').1 t i k = (z_un S).1 t i k := e _ _ _ (z_us_FI h)
theorem z_LI.cg {hts : Nat} {S S' : z_Mem} (hL : z_LI hts S) (e : ∀ t i k, z_FI t i k → S'.1 t i k = S.1 t i k) (er : (S'.2.2.1 9 1 3).2 = (S.2.2.1 9 1 3).2) : z_LI hts S' := by
  obtain ⟨h1, h2, h4⟩ := hL
  have e1 := e 11 0 4 (by unfold z_FI; omega)
  have e2 := e 12 0 53 (by unfold z_FI; omega)
  refine ⟨by rw [e1, e2]; exact h1, ?_, fun b hb => by rw [e 2 (b + 6) 0 (by unfold z_FI; omega)]; exact h4 b hb⟩
  rcases h2 with h2 | ⟨h2, h3⟩
  · exact Or.inl (e1.trans h2)
  · exact Or.inr ⟨e1.trans h2, h3.cg (fun t i k h => z_un_cg h e) er⟩
/-- the text, the tapes, the acts, the numbers of huts -/
def z_LT (S : z_Mem) : Prop := ∃ len : Nat, len ≤ 100 ∧ S.1 5 0 1 = nI len ∧ S.1 12 0 13 = nI len ∧ ∀ i, i < len → ∃ c : Nat, c < 128 ∧ S.1 25 0 i = nI c ∧ S.1 43 0 i = nI c
def z_LP (S : z_Mem) : Prop := ∀ i, i < 6 → S.1 10 i 0 = S.1 81 0 i ∧ S.1 10 i 1 = S.1 82 0 i ∧ ∃ len : Nat, len ≤ 60 ∧ S.1 10 i 1 = nI len ∧ ((S.1 10 i 0 = -1 ∧ len = 0) ∨ ∃ s : Nat, s ≤ 4 ∧ S.1 10 i 0 = nI s) ∧ ∀ k, k < len → S.2.1 34 i k = S.2.1 83 0 (60 * i + k)
def z_LC (S : z_Mem) : Prop := ∃ ran : Nat, ran ≤ 100 ∧ S.1 1 0 1 = nI ran ∧ S.1 12 0 76 = nI ran ∧ ∀ k, k < ran → k < 20 → S.1 20 0 k = S.1 80 0 k
/-- the letters of the model's words -/
def z_let (S : z_Mem) : Prop := ∀ k, k < 14 → S.1 51 0 k = nI ([100, 114, 121, 100, 97, 109, 112, 99, 111, 111, 108, 108, 111, 103].getD k 0)
def z_LN (hts : Nat) (S : z_Mem) : Prop := S.1 11 0 11 = nI hts ∧ S.1 12 0 11 = nI hts ∧ hts ≤ 6 ∧ S.1 12 0 29 = 9999 ∧ (S.2.2.2 = 176 ∧ z_let S)
def z_RL (S : z_Mem) : Prop := ∃ hts, z_LN hts S ∧ z_L hts S ∧ z_LI hts S ∧ z_LT S ∧ z_LP S ∧ z_LC S
/-- scratch: slots that Rel does not look at -/
def z_Sk (t i k : Nat) : Prop := t = 24 ∨ (26 ≤ t ∧ t ≤ 29) ∨ t = 6 ∨ t = 3 ∨ ((t = 2 ∨ t = 21) ∧ 12 ≤ i) ∨ (t = 9 ∧ 2 ≤ i) ∨ (t = 7 ∧ 2 ≤ i) ∨ t = 50 ∨ (52 ≤ t ∧ t ≤ 58) ∨ t = 62 ∨ t = 84 ∨ (t = 12 ∧ i = 0 ∧ (k = 14 ∨ k = 15 ∨ (24 ≤ k ∧ k ≤ 28) ∨ (30 ≤ k ∧ k ≤ 41))) ∨ (t = 5 ∧ 2 ≤ k)
theorem z_LT.cg {S S' : z_Mem} (h : z_LT S) (e : ∀ t i k, (t = 5 ∧ k = 1) ∨ (t = 12 ∧ i = 0 ∧ k = 13) ∨ t = 25 ∨ t = 43 → S'.1 t i k = S.1 t i k) : z_LT S' := by
  obtain ⟨len, h1, h2, h3, h4⟩ := h
  refine ⟨len, h1, (e 5 0 1 (by omega)).trans h2, (e 12 0 13 (by omega)).trans h3, fun i hi => ?_⟩
  rw [e 25 0 i (by omega), e 43 0 i (by omega)]
  exact h4 i hi
theorem z_LP.cg {S S' : z_Mem} (h : z_LP S) (e : ∀ t i k, t = 10 ∨ t = 81 ∨ t = 82 → S'.1 t i k = S.1 t i k) (el : ∀ t i k, t = 34 ∨ t = 83 → S'.2.1 t i k = S.2.1 t i k) : z_LP S' := by
  intro i hi
  have := h i hi
  simp only [e 10 i 0 (by omega), e 10 i 1 (by omega), e 81 0 i (by omega), e 82 0 i (by omega), el 34 i _ (by omega), el 83 0 _ (by omega)]
  exact this
theorem z_LC.cg {S S' : z_Mem} (h : z_LC S) (e : ∀ t i k, (t = 1 ∧ k = 1) ∨ (t = 12 ∧ i = 0 ∧ k = 76) ∨ t = 20 ∨ t = 80 → S'.1 t i k = S.1 t i k) : z_LC S' := by
  obtain ⟨ran, h1, h2, h3, h4⟩ := h
  refine ⟨ran, h1, (e 1 0 1 (by omega)).trans h2, (e 12 0 76 (by omega)).trans h3, fun k hk hk2 => ?_⟩
  rw [e 20 0 k (by omega), e 80 0 k (by omega)]
  exact h4 k hk hk2
theorem z_LN.cg {hts : Nat} {S S' : z_Mem} (h : z_LN hts S) (e : ∀ t i k, (t = 11 ∧ k = 11) ∨ (t = 12 ∧ i = 0 ∧ (k = 11 ∨ k = 29)) ∨ (t = 51 ∧ i = 0) → S'.1 t i k = S.1 t i k) (hc : S'.2.2.2 = S.2.2.2) : z_LN hts S' := by
  obtain ⟨h1, h2, h3, h4, h5, h6⟩ := h
  exact ⟨(e 11 0 11 (by omega)).trans h1, (e 12 0 11 (by omega)).trans h2, h3, (e 12 0 29 (by omega)).trans h4, hc.trans h5, fun k hk => (e 51 0 k (by omega)).trans (h6 k hk)⟩
theorem z_RL.sk {S S' : z_Mem} (h : z_RL S) {P : Nat → Nat → Nat → Prop} (hf : z_fx P S S') (hp : ∀ t i k, P t i k → z_Sk t i k) : z_RL S' := by
  obtain ⟨hts, hN, hL, hI, hT, hP, hC⟩ := h
  have e : ∀ t i k, ¬ z_Sk t i k → S'.1 t i k = S.1 t i k := fun t i k q => hf.i (fun a => q (hp t i k a))
  have er : ∀ t i k, ¬ z_Sk t i k → S'.2.2.1 t i k = S.2.2.1 t i k := fun t i k q => hf.r (fun a => q (hp t i k a))
  have el : ∀ t i k, ¬ z_Sk t i k → S'.2.1 t i k = S.2.1 t i k := fun t i k q => hf.l (fun a => q (hp t i k a))
  refine ⟨hts, hN.cg (fun t i k q => e t i k (by unfold z_Sk; omega)) hf.2.1, hL.cg (fun t i k q => e t i k (by unfold z_FA z_FB at q; unfold z_Sk; omega)) (by rw [er 9 0 3 (by unfold z_Sk; omega)]), hI.cg (fun t i k q => e t i k (by unfold z_FI at q; unfold z_Sk; omega)) (by rw [er 9 1 3 (by unfold z_Sk; omega)]), hT.cg (fun t i k q => e t i k (by unfold z_Sk; omega)), hP.cg (fun t i k q => e t i k (by unfold z_Sk; omega)) (fun t i k q => el t i k (by unfold z_Sk; omega)), hC.cg (fun t i k q => e t i k (by unfold z_Sk; omega))⟩
