/-! ===== the text: one grammar ===== -/
/-- what a reading says: whether, up to where, what -/
abbrev z_R : Type := Bool × (Nat × List z_Tk)
/-- a letter's number; 9: none -/
def z_plt (x : Int32) : Nat := if x = 98 then 0 else if x = 104 then 5 else if x = 107 then 2 else if x = 112 then 1 else if x = 118 then 3 else if x = 119 then 4 else 9
def z_cm (x : Int32) : Nat := if x = 60 then 0 else if x = 61 then 1 else if x = 62 then 2 else 9
/-- a digit's value; 99: none -/
def z_dgv (x : Int32) : Nat := if 48 ≤ x ∧ x ≤ 57 then (x - 48).toNatClampNeg else 99
/-- a number: one digit or two -/
def z_nm (c : Nat → Int32) (p : Nat) : Bool × (Nat × Nat) :=
  if z_dgv (c p) = 99 then (false, p, 0) else if z_dgv (c (p + 1)) = 99 then (true, p + 1, z_dgv (c p)) else (true, p + 2, 10 * z_dgv (c p) + z_dgv (c (p + 1)))
def z_pt (c : Nat → Int32) (p : Nat) : z_R :=
  if z_plt (c p) = 9 then (false, p, []) else if z_cm (c (p + 1)) = 9 then (false, p + 1, []) else
  if (z_nm c (p + 2)).1 = true then (true, (z_nm c (p + 2)).2.1, [(0, (z_plt (c p) * 3 + z_cm (c (p + 1))) * 100 + (z_nm c (p + 2)).2.2)]) else (false, (z_nm c (p + 2)).2.1, [])
/-- more of g, each behind a sign ch -/
def z_sep (c : Nat → Int32) (ch : Int32) (tok : Nat) (g : Nat → z_R) : Nat → Nat → List z_Tk → z_R
  | 0, p, ts => (true, p, ts)
  | m + 1, p, ts => if c p = ch then (if (g (p + 1)).1 = true then z_sep c ch tok g m (g (p + 1)).2.1 (ts ++ ((g (p + 1)).2.2 ++ [(tok, 0)])) else (false, (g (p + 1)).2.1, [])) else (true, p, ts)
def z_lv (c : Nat → Int32) (len : Nat) (ch : Int32) (tok : Nat) (g : Nat → z_R) (p : Nat) : z_R :=
  if (g p).1 = true then z_sep c ch tok g len (g p).2.1 (g p).2.2 else (false, (g p).2.1, [])
def z_pE (c : Nat → Int32) (len : Nat) (g : Nat → z_R) : Nat → z_R := z_lv c len 124 3 (z_lv c len 38 2 g)
/-- a part: k more may be nested -/
def z_pP (c : Nat → Int32) (len : Nat) : Nat → Nat → z_R
  | 0 => z_pt c
  | k + 1 => fun p =>
    if c p = 33 then (if (z_pP c len k (p + 1)).1 = true then (true, (z_pP c len k (p + 1)).2.1, (z_pP c len k (p + 1)).2.2 ++ [(1, 0)]) else (false, (z_pP c len k (p + 1)).2.1, []))
    else if c p = 40 then (if (z_pE c len (z_pP c len k) (p + 1)).1 = true then (if c (z_pE c len (z_pP c len k) (p + 1)).2.1 = 41 then (true, (z_pE c len (z_pP c len k) (p + 1)).2.1 + 1, (z_pE c len (z_pP c len k) (p + 1)).2.2) else (false, (z_pE c len (z_pP c len k) (p + 1)).2.1, [])) else (false, (z_pE c len (z_pP c len k) (p + 1)).2.1, []))
    else z_pt c p
/-- the text's signs -/
def z_tx (len : Nat) (c : Nat → Int32) : Prop := len ≤ 100 ∧ (∀ p, p < len → ∃ x : Nat, x < 128 ∧ c p = nI x) ∧ ∀ p, len ≤ p → c p = -1
theorem z_tx.lt {len : Nat} {c : Nat → Int32} (h : z_tx len c) {p : Nat} {x : Int32} (hx : 0 ≤ x) (e : c p = x) : p < len := by
  refine Nat.lt_of_not_le (fun q => ?_)
  rw [h.2.2 p q] at e
  rw [← e] at hx
  exact absurd hx (by decide)
theorem z_pl_lt {len : Nat} {c : Nat → Int32} (h : z_tx len c) {p : Nat} (e : ¬ z_plt (c p) = 9) : p < len ∧ z_plt (c p) < 6 := by
  constructor
  · refine Nat.lt_of_not_le (fun q => e ?_)
    rw [h.2.2 p q]; decide
  · revert e
    unfold z_plt
    by_cases h1 : c p = 98
    · rw [if_pos h1]; omega
    rw [if_neg h1]
    by_cases h2 : c p = 104
    · rw [if_pos h2]; omega
    rw [if_neg h2]
    by_cases h3 : c p = 107
    · rw [if_pos h3]; omega
    rw [if_neg h3]
    by_cases h4 : c p = 112
    · rw [if_pos h4]; omega
    rw [if_neg h4]
    by_cases h5 : c p = 118
    · rw [if_pos h5]; omega
    rw [if_neg h5]
    by_cases h6 : c p = 119
    · rw [if_pos h6]; omega
    rw [if_neg h6]; omega
theorem z_cm_lt {len : Nat} {c : Nat → Int32} (h : z_tx len c) {p : Nat} (e : ¬ z_cm (c p) = 9) : p < len ∧ z_cm (c p) < 3 := by
  constructor
  · refine Nat.lt_of_not_le (fun q => e ?_)
    rw [h.2.2 p q]; decide
  · revert e
    unfold z_cm
    by_cases h1 : c p = 60
    · rw [if_pos h1]; omega
    rw [if_neg h1]
    by_cases h2 : c p = 61
    · rw [if_pos h2]; omega
    rw [if_neg h2]
    by_cases h3 : c p = 62
    · rw [if_pos h3]; omega
    rw [if_neg h3]; omega
theorem z_dv_is {x : Nat} (hx : x < 128) : z_dgv (nI x) = if 48 ≤ x ∧ x ≤ 57 then x - 48 else 99 := by
  have hiff : (48 ≤ nI x ∧ nI x ≤ 57) ↔ (48 ≤ x ∧ x ≤ 57) := by
    rw [show (48 : Int32) = nI 48 from rfl, show (57 : Int32) = nI 57 from rfl, z_le (by omega) (by omega), z_le (by omega) (by omega)]
  unfold z_dgv
  by_cases h : 48 ≤ x ∧ x ≤ 57
  · rw [if_pos (hiff.mpr h), if_pos h, show (48 : Int32) = nI 48 from rfl, pk_sub h.1, z_cl (by omega)]
  · rw [if_neg (fun z => h (hiff.mp z)), if_neg h]
theorem z_dv_lt {len : Nat} {c : Nat → Int32} (h : z_tx len c) {p : Nat} (e : ¬ z_dgv (c p) = 99) : p < len ∧ z_dgv (c p) < 10 ∧ c p = nI (48 + z_dgv (c p)) := by
  have hp : p < len := by
    refine Nat.lt_of_not_le (fun q => e ?_)
    rw [h.2.2 p q]; decide
  obtain ⟨x, hx, ex⟩ := h.2.1 p hp
  rw [ex, z_dv_is hx] at e ⊢
  by_cases q : 48 ≤ x ∧ x ≤ 57
  · rw [if_pos q]
    exact ⟨hp, by omega, by rw [show 48 + (x - 48) = x by omega]⟩
  · rw [if_neg q] at e
    exact absurd rfl e
theorem z_nm_ok {len : Nat} {c : Nat → Int32} (h : z_tx len c) {p : Nat} (hp : p ≤ len) : p ≤ (z_nm c p).2.1 ∧ (z_nm c p).2.1 ≤ len ∧ ((z_nm c p).1 = true → p + 1 ≤ (z_nm c p).2.1 ∧ (z_nm c p).2.2 < 100) := by
  unfold z_nm
  by_cases h1 : z_dgv (c p) = 99
  · rw [if_pos h1]; exact ⟨Nat.le_refl _, hp, fun q => by cases q⟩
  · rw [if_neg h1]
    have k1 := z_dv_lt h h1
    by_cases h2 : z_dgv (c (p + 1)) = 99
    · rw [if_pos h2]; refine ⟨?_, ?_, fun _ => ⟨?_, ?_⟩⟩ <;> dsimp only <;> omega
    · rw [if_neg h2]
      have k2 := z_dv_lt h h2
      refine ⟨?_, ?_, fun _ => ⟨?_, ?_⟩⟩ <;> dsimp only <;> omega
/-- what a reading keeps -/
def z_pok (len p : Nat) (r : z_R) : Prop := p ≤ r.2.1 ∧ r.2.1 ≤ len ∧ (r.1 = true → p + r.2.2.length ≤ r.2.1)
def z_gok (len : Nat) (g : Nat → z_R) : Prop := ∀ p, p ≤ len → z_pok len p (g p)
theorem z_pt_ok {len : Nat} {c : Nat → Int32} (h : z_tx len c) : z_gok len (z_pt c) := by
  intro p hp
  unfold z_pt z_pok
  by_cases h1 : z_plt (c p) = 9
  · rw [if_pos h1]; exact ⟨Nat.le_refl _, hp, fun q => by cases q⟩
  rw [if_neg h1]
  have k1 := z_pl_lt h h1
  by_cases h2 : z_cm (c (p + 1)) = 9
  · rw [if_pos h2]; exact ⟨Nat.le_succ _, k1.1, fun q => by cases q⟩
  rw [if_neg h2]
  have k2 := z_cm_lt h h2
  obtain ⟨n1, n2, n3⟩ := z_nm_ok h (p := p + 2) (by omega)
  by_cases h3 : (z_nm c (p + 2)).1 = true
  · rw [if_pos h3]
    have := n3 h3
    refine ⟨?_, n2, fun _ => ?_⟩ <;> dsimp only [List.length] <;> omega
  · rw [if_neg h3]
    refine ⟨?_, n2, fun q => by cases q⟩
    dsimp only; omega
theorem z_sep_ok {len : Nat} {c : Nat → Int32} (h : z_tx len c) {ch : Int32} (hch : 0 ≤ ch) {tok : Nat} {g : Nat → z_R} (hg : z_gok len g) : ∀ (m p p0 : Nat) (ts : List z_Tk), p ≤ len → p0 + ts.length ≤ p → z_pok len p0 (z_sep c ch tok g m p ts)
  | 0, p, p0, ts, hp, ht => ⟨by show p0 ≤ p; omega, hp, fun _ => ht⟩
  | m + 1, p, p0, ts, hp, ht => by
    unfold z_sep
    by_cases h1 : c p = ch
    · rw [if_pos h1]
      have hl := h.lt hch h1
      obtain ⟨g1, g2, g3⟩ := hg (p + 1) (by omega)
      by_cases h2 : (g (p + 1)).1 = true
      · rw [if_pos h2]
        have := g3 h2
        refine z_sep_ok h hch hg m _ p0 _ g2 ?_
        rw [List.length_append, List.length_append, List.length_singleton]
        omega
      · rw [if_neg h2]
        exact ⟨by dsimp only; omega, g2, fun q => by cases q⟩
    · rw [if_neg h1]
      exact ⟨by dsimp only; omega, hp, fun _ => ht⟩
theorem z_lv_ok {len : Nat} {c : Nat → Int32} (h : z_tx len c) {ch : Int32} (hch : 0 ≤ ch) {tok : Nat} {g : Nat → z_R} (hg : z_gok len g) : z_gok len (z_lv c len ch tok g) := by
  intro p hp
  unfold z_lv
  obtain ⟨g1, g2, g3⟩ := hg p hp
  by_cases h2 : (g p).1 = true
  · rw [if_pos h2]
    exact z_sep_ok h hch hg len _ p _ g2 (g3 h2)
  · rw [if_neg h2]
    exact ⟨g1, g2, fun q => by cases q⟩
theorem z_pE_ok {len : Nat} {c : Nat → Int32} (h : z_tx len c) {g : Nat → z_R} (hg : z_gok len g) : z_gok len (z_pE c len g) := z_lv_ok h (by decide) (z_lv_ok h (by decide) hg)
theorem z_pP_ok {len : Nat} {c : Nat → Int32} (h : z_tx len c) : ∀ k, z_gok len (z_pP c len k)
  | 0 => z_pt_ok h
  | k + 1 => by
    intro p hp
    show z_pok len p (if c p = 33 then (if (z_pP c len k (p + 1)).1 = true then (true, (z_pP c len k (p + 1)).2.1, (z_pP c len k (p + 1)).2.2 ++ [(1, 0)]) else (false, (z_pP c len k (p + 1)).2.1, []))
      else if c p = 40 then (if (z_pE c len (z_pP c len k) (p + 1)).1 = true then (if c (z_pE c len (z_pP c len k) (p + 1)).2.1 = 41 then (true, (z_pE c len (z_pP c len k) (p + 1)).2.1 + 1, (z_pE c len (z_pP c len k) (p + 1)).2.2) else (false, (z_pE c len (z_pP c len k) (p + 1)).2.1, [])) else (false, (z_pE c len (z_pP c len k) (p + 1)).2.1, []))
      else z_pt c p)
    by_cases h1 : c p = 33
    · rw [if_pos h1]
      have hl := h.lt (by decide) h1
      obtain ⟨g1, g2, g3⟩ := z_pP_ok h k (p + 1) (by omega)
      by_cases h2 : (z_pP c len k (p + 1)).1 = true
      · rw [if_pos h2]
        have := g3 h2
        refine ⟨by dsimp only; omega, g2, fun _ => ?_⟩
        dsimp only
        rw [List.length_append, List.length_singleton]
        omega
      · rw [if_neg h2]
        exact ⟨by dsimp only; omega, g2, fun q => by cases q⟩
    · rw [if_neg h1]
      by_cases h3 : c p = 40
      · rw [if_pos h3]
        have hl := h.lt (by decide) h3
        obtain ⟨g1, g2, g3⟩ := z_pE_ok h (z_pP_ok h k) (p + 1) (by omega)
        by_cases h2 : (z_pE c len (z_pP c len k) (p + 1)).1 = true
        · rw [if_pos h2]
          have := g3 h2
          by_cases h4 : c (z_pE c len (z_pP c len k) (p + 1)).2.1 = 41
          · rw [if_pos h4]
            have := h.lt (by decide) h4
            refine ⟨by dsimp only; omega, by dsimp only; omega, fun _ => ?_⟩
            dsimp only
            omega
          · rw [if_neg h4]
            exact ⟨by dsimp only; omega, g2, fun q => by cases q⟩
        · rw [if_neg h2]
          exact ⟨by dsimp only; omega, g2, fun q => by cases q⟩
      · rw [if_neg h3]
        exact z_pt_ok h p hp
/-! what is read is well formed -/
theorem z_wf_ap {a b : List z_Tk} : ∀ {k m e : Nat}, z_wf a k m → z_wf b m e → z_wf (a ++ b) k e := by
  induction a with
  | nil => intro k m e h1 h2; have h1 : k = m := h1; rw [h1]; exact h2
  | cons t a ih =>
    intro k m e h1 h2
    rcases h1 with ⟨q1, q2, q3, q4⟩ | ⟨q1, q2, q4⟩ | ⟨q1, q2, q4⟩ | ⟨q1, q2, q4⟩
    · exact Or.inl ⟨q1, q2, q3, ih q4 h2⟩
    · exact Or.inr (Or.inl ⟨q1, q2, ih q4 h2⟩)
    · exact Or.inr (Or.inr (Or.inl ⟨q1, q2, ih q4 h2⟩))
    · exact Or.inr (Or.inr (Or.inr ⟨q1, q2, ih q4 h2⟩))
/-- from any depth up to D it goes one up -/
def z_gwf (len D : Nat) (g : Nat → z_R) : Prop := ∀ p, p ≤ len → (g p).1 = true → ∀ e, e ≤ D → z_wf (g p).2.2 e (e + 1)
theorem z_pt_wf {len : Nat} {c : Nat → Int32} (h : z_tx len c) : z_gwf len 10 (z_pt c) := by
  intro p hp h0 e he
  revert h0
  unfold z_pt
  by_cases h1 : z_plt (c p) = 9
  · rw [if_pos h1]; intro q; cases q
  rw [if_neg h1]
  have k1 := z_pl_lt h h1
  by_cases h2 : z_cm (c (p + 1)) = 9
  · rw [if_pos h2]; intro q; cases q
  rw [if_neg h2]
  have k2 := z_cm_lt h h2
  obtain ⟨n1, n2, n3⟩ := z_nm_ok h (p := p + 2) (by omega)
  by_cases h3 : (z_nm c (p + 2)).1 = true
  · rw [if_pos h3]
    intro _
    have := n3 h3
    exact Or.inl ⟨rfl, by dsimp only; omega, by omega, rfl⟩
  · rw [if_neg h3]; intro q; cases q
theorem z_sep_wf {len D : Nat} {c : Nat → Int32} (h : z_tx len c) {ch : Int32} (hch : 0 ≤ ch) {tok : Nat} (htok : tok = 2 ∨ tok = 3) {g : Nat → z_R} (hg : z_gok len g) (hw : z_gwf len (D + 1) g) : ∀ (m p : Nat) (ts : List z_Tk), p ≤ len → (z_sep c ch tok g m p ts).1 = true → ∀ e, e ≤ D → z_wf ts e (e + 1) → z_wf (z_sep c ch tok g m p ts).2.2 e (e + 1)
  | 0, p, ts, hp, h0, e, he, ht => ht
  | m + 1, p, ts, hp, h0, e, he, ht => by
    revert h0
    unfold z_sep
    by_cases h1 : c p = ch
    · rw [if_pos h1]
      have hl := h.lt hch h1
      obtain ⟨g1, g2, g3⟩ := hg (p + 1) (by omega)
      by_cases h2 : (g (p + 1)).1 = true
      · rw [if_pos h2]
        intro h0
        refine z_sep_wf h hch htok hg hw m _ _ g2 h0 e he (z_wf_ap ht (z_wf_ap (hw (p + 1) (by omega) h2 (e + 1) (by omega)) ?_))
        rcases htok with rfl | rfl
        · exact Or.inr (Or.inr (Or.inl ⟨rfl, by omega, rfl⟩))
        · exact Or.inr (Or.inr (Or.inr ⟨rfl, by omega, rfl⟩))
      · rw [if_neg h2]; intro q; cases q
    · rw [if_neg h1]; intro _; exact ht
theorem z_lv_wf {len D : Nat} {c : Nat → Int32} (h : z_tx len c) {ch : Int32} (hch : 0 ≤ ch) {tok : Nat} (htok : tok = 2 ∨ tok = 3) {g : Nat → z_R} (hg : z_gok len g) (hw : z_gwf len (D + 1) g) : z_gwf len D (z_lv c len ch tok g) := by
  intro p hp h0 e he
  revert h0
  unfold z_lv
  obtain ⟨g1, g2, g3⟩ := hg p hp
  by_cases h2 : (g p).1 = true
  · rw [if_pos h2]
    intro h0
    exact z_sep_wf h hch htok hg hw len _ _ g2 h0 e he (hw p hp h2 e (by omega))
  · rw [if_neg h2]; intro q; cases q
theorem z_pE_wf {len D : Nat} {c : Nat → Int32} (h : z_tx len c) {g : Nat → z_R} (hg : z_gok len g) (hw : z_gwf len (D + 2) g) : z_gwf len D (z_pE c len g) := z_lv_wf h (by decide) (Or.inr rfl) (z_lv_ok h (by decide) hg) (z_lv_wf h (by decide) (Or.inl rfl) hg hw)
theorem z_pP_wf {len : Nat} {c : Nat → Int32} (h : z_tx len c) : ∀ k D, D + 2 * k = 10 → z_gwf len D (z_pP c len k)
  | 0, D, hD => by
    obtain rfl : D = 10 := by omega
    exact z_pt_wf h
  | k + 1, D, hD => by
    intro p hp h0 e he
    have h0' : (if c p = 33 then (if (z_pP c len k (p + 1)).1 = true then ((true, (z_pP c len k (p + 1)).2.1, (z_pP c len k (p + 1)).2.2 ++ [(1, 0)]) : z_R) else (false, (z_pP c len k (p + 1)).2.1, []))
      else if c p = 40 then (if (z_pE c len (z_pP c len k) (p + 1)).1 = true then (if c (z_pE c len (z_pP c len k) (p + 1)).2.1 = 41 then (true, (z_pE c len (z_pP c len k) (p + 1)).2.1 + 1, (z_pE c len (z_pP c len k) (p + 1)).2.2) else (false, (z_pE c len (z_pP c len k) (p + 1)).2.1, [])) else (false, (z_pE c len (z_pP c len k) (p + 1)).2.1, []))
      else z_pt c p).1 = true := h0
    show z_wf (if c p = 33 then (if (z_pP c len k (p + 1)).1 = true then ((true, (z_pP c len k (p + 1)).2.1, (z_pP c len k (p + 1)).2.2 ++ [(1, 0)]) : z_R) else (false, (z_pP c len k (p + 1)).2.1, []))
      else if c p = 40 then (if (z_pE c len (z_pP c len k) (p + 1)).1 = true then (if c (z_pE c len (z_pP c len k) (p + 1)).2.1 = 41 then (true, (z_pE c len (z_pP c len k) (p + 1)).2.1 + 1, (z_pE c len (z_pP c len k) (p + 1)).2.2) else (false, (z_pE c len (z_pP c len k) (p + 1)).2.1, [])) else (false, (z_pE c len (z_pP c len k) (p + 1)).2.1, []))
      else z_pt c p).2.2 e (e + 1)
    revert h0'
    by_cases h1 : c p = 33
    · rw [if_pos h1]
      have hl := h.lt (by decide) h1
      by_cases h2 : (z_pP c len k (p + 1)).1 = true
      · rw [if_pos h2]
        intro _
        exact z_wf_ap (z_pP_wf h k (D + 2) (by omega) (p + 1) (by omega) h2 e (by omega)) (Or.inr (Or.inl ⟨rfl, by omega, rfl⟩))
      · rw [if_neg h2]; intro q; cases q
    · rw [if_neg h1]
      by_cases h3 : c p = 40
      · rw [if_pos h3]
        have hl := h.lt (by decide) h3
        by_cases h2 : (z_pE c len (z_pP c len k) (p + 1)).1 = true
        · rw [if_pos h2]
          by_cases h4 : c (z_pE c len (z_pP c len k) (p + 1)).2.1 = 41
          · rw [if_pos h4]
            intro _
            exact z_pE_wf h (z_pP_ok h k) (z_pP_wf h k (D + 2) (by omega)) (p + 1) (by omega) h2 e (by omega)
          · rw [if_neg h4]; intro q; cases q
        · rw [if_neg h2]; intro q; cases q
      · rw [if_neg h3]
        intro h0
        exact z_pt_wf h p hp h0 e (by omega)
