/-! ===== to talk about runs of the abstract machine ===== -/
abbrev z_X (d : Nat) : z_Ex := z_exe z_mt true d
/-- the run ends, and Q holds of what comes back -/
def z_wp (o : Option (Option z_AV × z_Mem)) (Q : Option z_AV → z_Mem → Prop) : Prop := ∃ r S', o = some (r, S') ∧ Q r S'
theorem z_wp_ret {Q : Option z_AV → z_Mem → Prop} {r : Option z_AV} {S : z_Mem} (h : Q r S) : z_wp (some (r, S)) Q := ⟨r, S, rfl, h⟩
theorem z_wp_if {Q : Option z_AV → z_Mem → Prop} {c : Prop} [Decidable c] {a b : Option (Option z_AV × z_Mem)} (h1 : c → z_wp a Q) (h2 : ¬ c → z_wp b Q) : z_wp (if c then a else b) Q := by
  by_cases h : c
  · rw [if_pos h]; exact h1 h
  · rw [if_neg h]; exact h2 h
theorem z_wp_oob {Q : Option z_AV → z_Mem → Prop} {j : Int32} {n : Nat} {a : Option (Option z_AV × z_Mem)} (h : z_oob j n = false) (k : z_wp a Q) : z_wp (cond (z_oob j n) none a) Q := by
  rw [h]; exact k
theorem z_wp_nz {Q : Option z_AV → z_Mem → Prop} {c : Prop} [Decidable c] {a : Option (Option z_AV × z_Mem)} (h : ¬ c) (k : z_wp a Q) : z_wp (if c then none else a) Q := by
  rw [if_neg h]; exact k
theorem z_wp_ok {Q : Option z_AV → z_Mem → Prop} {c : Prop} [Decidable c] {a : Option (Option z_AV × z_Mem)} (h : c) (k : z_wp a Q) : z_wp (if c then a else none) Q := by
  rw [if_pos h]; exact k
theorem z_wp_rng {Q : Option z_AV → z_Mem → Prop} {b : Bool} {a : Option (Option z_AV × z_Mem)} (h : b = true) (k : z_wp a Q) : z_wp (cond b a none) Q := by
  rw [h]; exact k
theorem z_wp_mono {Q Q' : Option z_AV → z_Mem → Prop} {o : Option (Option z_AV × z_Mem)} (h : z_wp o Q) (f : ∀ r S, Q r S → Q' r S) : z_wp o Q' := by
  obtain ⟨r, S, e, q⟩ := h
  exact ⟨r, S, e, f r S q⟩
theorem z_wp_I {Q : Option z_AV → z_Mem → Prop} {o : Option (Option z_AV × z_Mem)} {f : Int32 → z_Mem → Option (Option z_AV × z_Mem)} {P : Option z_AV → z_Mem → Prop} (h : z_wp o P) (k : ∀ r S, P r S → ∃ x, r = some (.inl x) ∧ z_wp (f x S) Q) : z_wp (z_rI o f) Q := by
  obtain ⟨r, S, e, q⟩ := h
  obtain ⟨x, hx, hk⟩ := k r S q
  subst hx
  rw [e]
  exact hk
theorem z_wp_L {Q : Option z_AV → z_Mem → Prop} {o : Option (Option z_AV × z_Mem)} {f : Int64 → z_Mem → Option (Option z_AV × z_Mem)} {P : Option z_AV → z_Mem → Prop} (h : z_wp o P) (k : ∀ r S, P r S → ∃ x, r = some (.inr (.inl x)) ∧ z_wp (f x S) Q) : z_wp (z_rL o f) Q := by
  obtain ⟨r, S, e, q⟩ := h
  obtain ⟨x, hx, hk⟩ := k r S q
  subst hx
  rw [e]
  exact hk
theorem z_wp_V {Q : Option z_AV → z_Mem → Prop} {o : Option (Option z_AV × z_Mem)} {f : z_Mem → Option (Option z_AV × z_Mem)} {P : Option z_AV → z_Mem → Prop} (h : z_wp o P) (k : ∀ r S, P r S → r = none ∧ z_wp (f S) Q) : z_wp (z_rV o f) Q := by
  obtain ⟨r, S, e, q⟩ := h
  obtain ⟨hx, hk⟩ := k r S q
  subst hx
  rw [e]
  exact hk
theorem z_rI_s (x : Int32) (S : z_Mem) (f : Int32 → z_Mem → Option (Option z_AV × z_Mem)) : z_rI (some (some (.inl x), S)) f = f x S := rfl
theorem z_rL_s (x : Int64) (S : z_Mem) (f : Int64 → z_Mem → Option (Option z_AV × z_Mem)) : z_rL (some (some (.inr (.inl x)), S)) f = f x S := rfl
theorem z_rV_s (S : z_Mem) (f : z_Mem → Option (Option z_AV × z_Mem)) : z_rV (some (none, S)) f = f S := rfl
/-- places and numbers -/
theorem z_oob_n {k n : Nat} (h : k < n) (hn : n ≤ 1000) : z_oob (nI k) n = false := by
  unfold z_oob
  have h1 : ¬ nI k < 0 := nI_pos (by omega)
  have h2 : (nI k).toNatClampNeg = k := nI_clamp (by omega)
  rw [h2, decide_eq_false h1, Bool.false_or]
  cases hb : Nat.ble n k with
  | false => rfl
  | true => exact absurd (Nat.le_of_ble_eq_true hb) (by omega)
theorem z_cl {k : Nat} (h : k ≤ 100000) : (nI k).toNatClampNeg = k := nI_clamp (by omega)
/-- what a run leaves as it was -/
def z_fx (P : Nat → Nat → Prop) (S S' : z_Mem) : Prop := (∀ t i, ¬ P t i → S'.1 t i = S.1 t i ∧ S'.2.1 t i = S.2.1 t i ∧ S'.2.2.1 t i = S.2.2.1 t i) ∧ S'.2.2.2 = S.2.2.2
theorem z_fx.rf {P : Nat → Nat → Prop} {S : z_Mem} : z_fx P S S := ⟨fun _ _ _ => ⟨rfl, rfl, rfl⟩, rfl⟩
theorem z_fx.tr {P : Nat → Nat → Prop} {S S' S'' : z_Mem} (h : z_fx P S S') (h' : z_fx P S' S'') : z_fx P S S'' :=
  ⟨fun t i hp => ⟨(h'.1 t i hp).1.trans (h.1 t i hp).1, (h'.1 t i hp).2.1.trans (h.1 t i hp).2.1, (h'.1 t i hp).2.2.trans (h.1 t i hp).2.2⟩, h'.2.trans h.2⟩
theorem z_fx.wk {P P' : Nat → Nat → Prop} {S S' : z_Mem} (h : z_fx P S S') (hp : ∀ t i, P t i → P' t i) : z_fx P' S S' := ⟨fun t i hn => h.1 t i (fun q => hn (hp t i q)), h.2⟩
theorem z_fx.sI {P : Nat → Nat → Prop} {S : z_Mem} {t i k : Nat} {x : Int32} (hp : P t i) : z_fx P S (z_sI S t i k x) := by
  refine ⟨fun t' i' hn => ⟨?_, rfl, rfl⟩, rfl⟩
  funext j
  show (if t' = t ∧ i' = i ∧ j = k then x else S.1 t' i' j) = _
  rw [if_neg (fun h => hn (by rw [h.1, h.2.1]; exact hp))]
theorem z_fx.sL {P : Nat → Nat → Prop} {S : z_Mem} {t i k : Nat} {x : Int64} (hp : P t i) : z_fx P S (z_sL S t i k x) := by
  refine ⟨fun t' i' hn => ⟨rfl, ?_, rfl⟩, rfl⟩
  funext j
  show (if t' = t ∧ i' = i ∧ j = k then x else S.2.1 t' i' j) = _
  rw [if_neg (fun h => hn (by rw [h.1, h.2.1]; exact hp))]
theorem z_fx.sR {P : Nat → Nat → Prop} {S : z_Mem} {t i k : Nat} {x : Nat × Nat} (hp : P t i) : z_fx P S (z_sR S t i k x) := by
  refine ⟨fun t' i' hn => ⟨rfl, rfl, ?_⟩, rfl⟩
  funext j
  show (if t' = t ∧ i' = i ∧ j = k then x else S.2.2.1 t' i' j) = _
  rw [if_neg (fun h => hn (by rw [h.1, h.2.1]; exact hp))]
theorem z_fx.acI {P : Nat → Nat → Prop} {S : z_Mem} {t i sp t2 i2 dp n : Nat} (hp : P t2 i2) : z_fx P S (z_acI S t i sp t2 i2 dp n) := by
  refine ⟨fun t' i' hn => ⟨?_, rfl, rfl⟩, rfl⟩
  funext j
  show (if t' = t2 ∧ i' = i2 then _ else S.1 t' i' j) = _
  rw [if_neg (fun h => hn (by rw [h.1, h.2]; exact hp))]
theorem z_fx.acL {P : Nat → Nat → Prop} {S : z_Mem} {t i sp t2 i2 dp n : Nat} (hp : P t2 i2) : z_fx P S (z_acL S t i sp t2 i2 dp n) := by
  refine ⟨fun t' i' hn => ⟨rfl, ?_, rfl⟩, rfl⟩
  funext j
  show (if t' = t2 ∧ i' = i2 then _ else S.2.1 t' i' j) = _
  rw [if_neg (fun h => hn (by rw [h.1, h.2]; exact hp))]
theorem z_sI1 (S : z_Mem) (t i k : Nat) (x : Int32) (t' i' k' : Nat) : (z_sI S t i k x).1 t' i' k' = if t' = t ∧ i' = i ∧ k' = k then x else S.1 t' i' k' := rfl
theorem z_sI2 (S : z_Mem) (t i k : Nat) (x : Int32) : (z_sI S t i k x).2.1 = S.2.1 := rfl
theorem z_sI3 (S : z_Mem) (t i k : Nat) (x : Int32) : (z_sI S t i k x).2.2.1 = S.2.2.1 := rfl
theorem z_sI4 (S : z_Mem) (t i k : Nat) (x : Int32) : (z_sI S t i k x).2.2.2 = S.2.2.2 := rfl
theorem z_sL1 (S : z_Mem) (t i k : Nat) (x : Int64) : (z_sL S t i k x).1 = S.1 := rfl
theorem z_sL2 (S : z_Mem) (t i k : Nat) (x : Int64) (t' i' k' : Nat) : (z_sL S t i k x).2.1 t' i' k' = if t' = t ∧ i' = i ∧ k' = k then x else S.2.1 t' i' k' := rfl
theorem z_sL3 (S : z_Mem) (t i k : Nat) (x : Int64) : (z_sL S t i k x).2.2.1 = S.2.2.1 := rfl
theorem z_sL4 (S : z_Mem) (t i k : Nat) (x : Int64) : (z_sL S t i k x).2.2.2 = S.2.2.2 := rfl
theorem z_sR1 (S : z_Mem) (t i k : Nat) (x : Nat × Nat) : (z_sR S t i k x).1 = S.1 := rfl
theorem z_sR2 (S : z_Mem) (t i k : Nat) (x : Nat × Nat) : (z_sR S t i k x).2.1 = S.2.1 := rfl
theorem z_sR3 (S : z_Mem) (t i k : Nat) (x : Nat × Nat) (t' i' k' : Nat) : (z_sR S t i k x).2.2.1 t' i' k' = if t' = t ∧ i' = i ∧ k' = k then x else S.2.2.1 t' i' k' := rfl
theorem z_sR4 (S : z_Mem) (t i k : Nat) (x : Nat × Nat) : (z_sR S t i k x).2.2.2 = S.2.2.2 := rfl
/-! ===== leaves ===== -/
def z_mx (y : Int32) : Int32 := if (0 : Int32) < y then y else 0
/-- 1 where it is so, else 0 -/
def z_b1 (c : Prop) [Decidable c] : Int32 := if c then 1 else 0
theorem s_warmAt (d i : Nat) (x : Int32) (S : z_Mem) : z_X (d + 1) 68 [.inr (.inr (9, i)), .inl x] S = some (some (.inl (z_mx (S.1 9 i 0 - 3 * x))), S) := by
  show z_exe z_mt true (d + 1) 68 _ S = _
  rw [zx_X9_warmAt, ze_X9_warmAt_0]
  rfl
theorem s_in (d : Nat) (v a b : Int32) (S : z_Mem) : z_X (d + 1) 124 [.inr (.inr (12, 0)), .inl v, .inl a, .inl b] S = some (some (.inl (z_b1 (a ≤ v ∧ v ≤ b))), S) := by
  show z_exe z_mt true (d + 1) 124 _ S = _
  rw [zx_X12_in, ze_X12_in_0]
  unfold z_b1
  by_cases h1 : v < a
  · rw [if_pos h1, if_neg (fun h => absurd h.1 (by rw [Int32.not_le]; exact h1))]
  · rw [if_neg h1]
    by_cases h2 : b < v
    · rw [if_pos h2, if_neg (fun h => absurd h.2 (by rw [Int32.not_le]; exact h2))]
    · rw [if_neg h2, if_pos ⟨Int32.not_lt.mp h1, Int32.not_lt.mp h2⟩]
theorem s_outside (d : Nat) (v m : Int32) (S : z_Mem) : z_X (d + 1) 115 [.inl v, .inl m] S = some (some (.inl (z_b1 (¬ (0 ≤ v ∧ v ≤ m)))), S) := by
  show z_exe z_mt true (d + 1) 115 _ S = _
  rw [zx_X11_outside, ze_X11_outside_0]
  unfold z_b1
  by_cases h1 : v < 0
  · rw [if_pos h1, if_pos (fun h => absurd h.1 (by rw [Int32.not_le]; exact h1))]
  · rw [if_neg h1]
    by_cases h2 : v ≤ m
    · rw [if_pos h2, if_neg (fun h => h ⟨Int32.not_lt.mp h1, h2⟩)]
    · rw [if_neg h2, if_pos (fun h => h2 h.2)]
