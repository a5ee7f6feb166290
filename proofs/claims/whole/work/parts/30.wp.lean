/-! ===== to talk about runs of the abstract machine ===== -/
/-- the run ends, and Q holds of what comes back -/
def z_wp (o : Option (Option z_AV × z_Mem)) (Q : Option z_AV → z_Mem → Prop) : Prop := ∃ r S', o = some (r, S') ∧ Q r S'
theorem z_wp_ret {Q : Option z_AV → z_Mem → Prop} {r : Option z_AV} {S : z_Mem} (h : Q r S) : z_wp (some (r, S)) Q := ⟨r, S, rfl, h⟩
theorem z_wp_if {Q : Option z_AV → z_Mem → Prop} {c : Prop} [Decidable c] {a b : Option (Option z_AV × z_Mem)} (h1 : c → z_wp a Q) (h2 : ¬ c → z_wp b Q) : z_wp (if c then a else b) Q := by
  by_cases h : c
  · rw [if_pos h]; exact h1 h
  · rw [if_neg h]; exact h2 h
theorem z_wp_oob {Q : Option z_AV → z_Mem → Prop} {j : Int32} {n : Nat} {a : Option (Option z_AV × z_Mem)} (h : z_oob j n = false) (k : z_wp a Q) : z_wp (cond (z_oob j n) none a) Q := by
  rw [h]; exact k
theorem z_wp_nz {Q : Option z_AV → z_Mem → Prop} {c : Prop} [Decidable c] {a : Option (Option z_AV × z_Mem)} (h : ¬ c) (k : z_wp a Q) : z_wp (if c then none else a) Q := by
  rw [if_neg h]; exact k
theorem z_wp_ok {Q : Option z_AV → z_Mem → Prop} {c : Prop} [Decidable c] {a : Option (Option z_AV × z_Mem)} (h : c) (k : z_wp a Q) : z_wp (if c then a else none) Q := by
  rw [if_pos h]; exact k
theorem z_wp_rng {Q : Option z_AV → z_Mem → Prop} {b : Bool} {a : Option (Option z_AV × z_Mem)} (h : b = true) (k : z_wp a Q) : z_wp (cond b a none) Q := by
  rw [h]; exact k
theorem z_wp_mono {Q Q' : Option z_AV → z_Mem → Prop} {o : Option (Option z_AV × z_Mem)} (h : z_wp o Q) (f : ∀ r S, Q r S → Q' r S) : z_wp o Q' := by
  obtain ⟨r, S, e, q⟩ := h
  exact ⟨r, S, e, f r S q⟩
theorem z_wp_I {Q : Option z_AV → z_Mem → Prop} {o : Option (Option z_AV × z_Mem)} {f : Int32 → z_Mem → Option (Option z_AV × z_Mem)} {P : Option z_AV → z_Mem → Prop} (h : z_wp o P) (k : ∀ r S, P r S → ∃ x, r = some (.inl x) ∧ z_wp (f x S) Q) : z_wp (z_rI o f) Q := by
  obtain ⟨r, S, e, q⟩ := h
  obtain ⟨x, hx, hk⟩ := k r S q
  subst hx
  rw [e]
  exact hk
theorem z_wp_L {Q : Option z_AV → z_Mem → Prop} {o : Option (Option z_AV × z_Mem)} {f : Int64 → z_Mem → Option (Option z_AV × z_Mem)} {P : Option z_AV → z_Mem → Prop} (h : z_wp o P) (k : ∀ r S, P r S → ∃ x, r = some (.inr (.inl x)) ∧ z_wp (f x S) Q) : z_wp (z_rL o f) Q := by
  obtain ⟨r, S, e, q⟩ := h
  obtain ⟨x, hx, hk⟩ := k r S q
  subst hx
  rw [e]
  exact hk
theorem z_wp_V {Q : Option z_AV → z_Mem → Prop} {o : Option (Option z_AV × z_Mem)} {f : z_Mem → Option (Option z_AV × z_Mem)} {P : Option z_AV → z_Mem → Prop} (h : z_wp o P) (k : ∀ r S, P r S → r = none ∧ z_wp (f S) Q) : z_wp (z_rV o f) Q := by
  obtain ⟨r, S, e, q⟩ := h
  obtain ⟨hx, hk⟩ := k r S q
  subst hx
  rw [e]
  exact hk
theorem z_rI_s (x : Int32) (S : z_Mem) (f : Int32 → z_Mem → Option (Option z_AV × z_Mem)) : z_rI (some (some (.inl x), S)) f = f x S := rfl
theorem z_rL_s (x : Int64) (S : z_Mem) (f : Int64 → z_Mem → Option (Option z_AV × z_Mem)) : z_rL (some (some (.inr (.inl x)), S)) f = f x S := rfl
theorem z_rV_s (S : z_Mem) (f : z_Mem → Option (Option z_AV × z_Mem)) : z_rV (some (none, S)) f = f S := rfl
/-- places and numbers -/
theorem z_oob_n {k n : Nat} (h : k < n) (hn : n ≤ 1000) : z_oob (nI k) n = false := by
  unfold z_oob
  have h1 : ¬ nI k < 0 := nI_pos (by omega)
  have h2 : (nI k).toNatClampNeg = k := nI_clamp (by omega)
  rw [h2, decide_eq_false h1, Bool.false_or]
  cases hb : Nat.ble n k with
  | false => rfl
  | true => exact absurd (Nat.le_of_ble_eq_true hb) (by omega)
theorem z_cl {k : Nat} (h : k ≤ 100000) : (nI k).toNatClampNeg = k := nI_clamp (by omega)
/-- where a slot may hold a long or a reference that is written -/
def z_LR (t : Nat) : Prop := t < 12 ∨ t = 34 ∨ 82 ≤ t
/-- what a run leaves as it was, slot by slot -/
def z_fx (P : Nat → Nat → Nat → Prop) (S S' : z_Mem) : Prop := (∀ t i k, ¬ P t i k → S'.1 t i k = S.1 t i k ∧ S'.2.1 t i k = S.2.1 t i k ∧ S'.2.2.1 t i k = S.2.2.1 t i k) ∧ (S'.2.2.2 = S.2.2.2 ∧ ∀ t i k, ¬ z_LR t → S'.2.1 t i k = S.2.1 t i k ∧ S'.2.2.1 t i k = S.2.2.1 t i k)
theorem z_fx.rf {P : Nat → Nat → Nat → Prop} {S : z_Mem} : z_fx P S S := ⟨fun _ _ _ _ => ⟨rfl, rfl, rfl⟩, rfl, fun _ _ _ _ => ⟨rfl, rfl⟩⟩
theorem z_fx.tr {P : Nat → Nat → Nat → Prop} {S S' S'' : z_Mem} (h : z_fx P S S') (h' : z_fx P S' S'') : z_fx P S S'' :=
  ⟨fun t i k hp => ⟨(h'.1 t i k hp).1.trans (h.1 t i k hp).1, (h'.1 t i k hp).2.1.trans (h.1 t i k hp).2.1, (h'.1 t i k hp).2.2.trans (h.1 t i k hp).2.2⟩, h'.2.1.trans h.2.1, fun t i k hl => ⟨(h'.2.2 t i k hl).1.trans (h.2.2 t i k hl).1, (h'.2.2 t i k hl).2.trans (h.2.2 t i k hl).2⟩⟩
theorem z_fx.wk {P P' : Nat → Nat → Nat → Prop} {S S' : z_Mem} (h : z_fx P S S') (hp : ∀ t i k, P t i k → P' t i k) : z_fx P' S S' := ⟨fun t i k hn => h.1 t i k (fun q => hn (hp t i k q)), h.2⟩
theorem z_fx.sI {P : Nat → Nat → Nat → Prop} {S : z_Mem} {t i k : Nat} {x : Int32} (hp : P t i k) : z_fx P S (z_sI S t i k x) := by
  refine ⟨fun t' i' k' hn => ⟨?_, rfl, rfl⟩, rfl, fun _ _ _ _ => ⟨rfl, rfl⟩⟩
  show (if t' = t ∧ i' = i ∧ k' = k then x else S.1 t' i' k') = _
  rw [if_neg (fun h => hn (by rw [h.1, h.2.1, h.2.2]; exact hp))]
theorem z_fx.sL {P : Nat → Nat → Nat → Prop} {S : z_Mem} {t i k : Nat} {x : Int64} (hp : P t i k) (hl : z_LR t) : z_fx P S (z_sL S t i k x) := by
  refine ⟨fun t' i' k' hn => ⟨rfl, ?_, rfl⟩, rfl, fun t' i' k' hn => ⟨?_, rfl⟩⟩
  · show (if t' = t ∧ i' = i ∧ k' = k then x else S.2.1 t' i' k') = _
    rw [if_neg (fun h => hn (by rw [h.1, h.2.1, h.2.2]; exact hp))]
  · show (if t' = t ∧ i' = i ∧ k' = k then x else S.2.1 t' i' k') = _
    rw [if_neg (fun h => hn (by rw [h.1]; exact hl))]
theorem z_fx.sR {P : Nat → Nat → Nat → Prop} {S : z_Mem} {t i k : Nat} {x : Nat × Nat} (hp : P t i k) (hl : z_LR t) : z_fx P S (z_sR S t i k x) := by
  refine ⟨fun t' i' k' hn => ⟨rfl, rfl, ?_⟩, rfl, fun t' i' k' hn => ⟨rfl, ?_⟩⟩
  · show (if t' = t ∧ i' = i ∧ k' = k then x else S.2.2.1 t' i' k') = _
    rw [if_neg (fun h => hn (by rw [h.1, h.2.1, h.2.2]; exact hp))]
  · show (if t' = t ∧ i' = i ∧ k' = k then x else S.2.2.1 t' i' k') = _
    rw [if_neg (fun h => hn (by rw [h.1]; exact hl))]
theorem z_fx.acI {P : Nat → Nat → Nat → Prop} {S : z_Mem} {t i sp t2 i2 dp n : Nat} (hp : ∀ k, dp ≤ k → k < dp + n → P t2 i2 k) : z_fx P S (z_acI S t i sp t2 i2 dp n) := by
  refine ⟨fun t' i' k' hn => ⟨?_, rfl, rfl⟩, rfl, fun _ _ _ _ => ⟨rfl, rfl⟩⟩
  show (if t' = t2 ∧ i' = i2 then va_cpy (S.1 t i) (S.1 t2 i2) sp dp n k' else S.1 t' i' k') = _
  by_cases h : t' = t2 ∧ i' = i2
  · rw [if_pos h]
    unfold va_cpy
    rw [if_neg (fun h2 => hn (by rw [h.1, h.2]; exact hp k' h2.1 h2.2)), h.1, h.2]
  · rw [if_neg h]
theorem z_fx.acL {P : Nat → Nat → Nat → Prop} {S : z_Mem} {t i sp t2 i2 dp n : Nat} (hp : ∀ k, dp ≤ k → k < dp + n → P t2 i2 k) (hl : z_LR t2) : z_fx P S (z_acL S t i sp t2 i2 dp n) := by
  refine ⟨fun t' i' k' hn => ⟨rfl, ?_, rfl⟩, rfl, fun t' i' k' hn => ⟨?_, rfl⟩⟩
  · show (if t' = t2 ∧ i' = i2 then va_cpy (S.2.1 t i) (S.2.1 t2 i2) sp dp n k' else S.2.1 t' i' k') = _
    by_cases h : t' = t2 ∧ i' = i2
    · rw [if_pos h]
      unfold va_cpy
      rw [if_neg (fun h2 => hn (by rw [h.1, h.2]; exact hp k' h2.1 h2.2)), h.1, h.2]
    · rw [if_neg h]
  · show (if t' = t2 ∧ i' = i2 then va_cpy (S.2.1 t i) (S.2.1 t2 i2) sp dp n k' else S.2.1 t' i' k') = _
    rw [if_neg (fun h => hn (by rw [h.1]; exact hl))]
theorem z_fx.i {P : Nat → Nat → Nat → Prop} {S S' : z_Mem} (h : z_fx P S S') {t i k : Nat} (hp : ¬ P t i k) : S'.1 t i k = S.1 t i k := (h.1 t i k hp).1
theorem z_fx.l {P : Nat → Nat → Nat → Prop} {S S' : z_Mem} (h : z_fx P S S') {t i k : Nat} (hp : ¬ P t i k) : S'.2.1 t i k = S.2.1 t i k := (h.1 t i k hp).2.1
theorem z_fx.r {P : Nat → Nat → Nat → Prop} {S S' : z_Mem} (h : z_fx P S S') {t i k : Nat} (hp : ¬ P t i k) : S'.2.2.1 t i k = S.2.2.1 t i k := (h.1 t i k hp).2.2
theorem z_sI1 (S : z_Mem) (t i k : Nat) (x : Int32) (t' i' k' : Nat) : (z_sI S t i k x).1 t' i' k' = if t' = t ∧ i' = i ∧ k' = k then x else S.1 t' i' k' := rfl
theorem z_sI2 (S : z_Mem) (t i k : Nat) (x : Int32) : (z_sI S t i k x).2.1 = S.2.1 := rfl
theorem z_sI3 (S : z_Mem) (t i k : Nat) (x : Int32) : (z_sI S t i k x).2.2.1 = S.2.2.1 := rfl
theorem z_sI4 (S : z_Mem) (t i k : Nat) (x : Int32) : (z_sI S t i k x).2.2.2 = S.2.2.2 := rfl
theorem z_sL1 (S : z_Mem) (t i k : Nat) (x : Int64) : (z_sL S t i k x).1 = S.1 := rfl
theorem z_sL2 (S : z_Mem) (t i k : Nat) (x : Int64) (t' i' k' : Nat) : (z_sL S t i k x).2.1 t' i' k' = if t' = t ∧ i' = i ∧ k' = k then x else S.2.1 t' i' k' := rfl
theorem z_sL3 (S : z_Mem) (t i k : Nat) (x : Int64) : (z_sL S t i k x).2.2.1 = S.2.2.1 := rfl
theorem z_sL4 (S : z_Mem) (t i k : Nat) (x : Int64) : (z_sL S t i k x).2.2.2 = S.2.2.2 := rfl
theorem z_sR1 (S : z_Mem) (t i k : Nat) (x : Nat × Nat) : (z_sR S t i k x).1 = S.1 := rfl
theorem z_sR2 (S : z_Mem) (t i k : Nat) (x : Nat × Nat) : (z_sR S t i k x).2.1 = S.2.1 := rfl
theorem z_sR3 (S : z_Mem) (t i k : Nat) (x : Nat × Nat) (t' i' k' : Nat) : (z_sR S t i k x).2.2.1 t' i' k' = if t' = t ∧ i' = i ∧ k' = k then x else S.2.2.1 t' i' k' := rfl
theorem z_sR4 (S : z_Mem) (t i k : Nat) (x : Nat × Nat) : (z_sR S t i k x).2.2.2 = S.2.2.2 := rfl
/-! ===== leaves ===== -/
def z_mx (y : Int32) : Int32 := if (0 : Int32) < y then y else 0
/-- 1 where it is so, else 0 -/
def z_b1 (c : Prop) [Decidable c] : Int32 := if c then 1 else 0
theorem s_warmAt (d i : Nat) (x : Int32) (S : z_Mem) : z_exe z_mt true (d + 1) 68 [.inr (.inr (9, i)), .inl x] S = some (some (.inl (z_mx (S.1 9 i 0 - 3 * x))), S) := by
  show z_exe z_mt true (d + 1) 68 _ S = _
  rw [zx_X9_warmAt, ze_X9_warmAt_0]
  rfl
theorem s_in (d : Nat) (v a b : Int32) (S : z_Mem) : z_exe z_mt true (d + 1) 124 [.inr (.inr (12, 0)), .inl v, .inl a, .inl b] S = some (some (.inl (z_b1 (a ≤ v ∧ v ≤ b))), S) := by
  show z_exe z_mt true (d + 1) 124 _ S = _
  rw [zx_X12_in, ze_X12_in_0]
  unfold z_b1
  by_cases h1 : v < a
  · rw [if_pos h1, if_neg (fun h => absurd h.1 (by rw [Int32.not_le]; exact h1))]
  · rw [if_neg h1]
    by_cases h2 : b < v
    · rw [if_pos h2, if_neg (fun h => absurd h.2 (by rw [Int32.not_le]; exact h2))]
    · rw [if_neg h2, if_pos ⟨Int32.not_lt.mp h1, Int32.not_lt.mp h2⟩]
theorem s_outside (d : Nat) (v m : Int32) (S : z_Mem) : z_exe z_mt true (d + 1) 115 [.inl v, .inl m] S = some (some (.inl (z_b1 (¬ (0 ≤ v ∧ v ≤ m)))), S) := by
  show z_exe z_mt true (d + 1) 115 _ S = _
  rw [zx_X11_outside, ze_X11_outside_0]
  unfold z_b1
  by_cases h1 : v < 0
  · rw [if_pos h1, if_pos (fun h => absurd h.1 (by rw [Int32.not_le]; exact h1))]
  · rw [if_neg h1]
    by_cases h2 : v ≤ m
    · rw [if_pos h2, if_neg (fun h => h ⟨Int32.not_lt.mp h1, h2⟩)]
    · rw [if_neg h2, if_pos (fun h => h2 h.2)]
/-- small numbers -/
theorem z_le {a b : Nat} (ha : a ≤ 100000) (hb : b ≤ 100000) : (nI a ≤ nI b) ↔ a ≤ b := nI_leI (by omega) (by omega)
theorem z_lt {a b : Nat} (ha : a ≤ 100000) (hb : b ≤ 100000) : (nI a < nI b) ↔ a < b := nI_ltI (by omega) (by omega)
theorem z_eq {a b : Nat} (ha : a ≤ 100000) (hb : b ≤ 100000) : (nI a = nI b) ↔ a = b := nI_eq (by omega) (by omega)
/-- the first of m numbers from b on where f is x; -5: none -/
def z_who (f : Nat → Int32) (x : Int32) : Nat → Nat → Int32
  | _, 0 => -5
  | b, m + 1 => if f b = x then nI b else z_who f x (b + 1) m
theorem l_whoIsAt (ex : z_Ex) (r n : Nat) (x : Int32) (S : z_Mem) (hn : n ≤ 6) (hc : S.1 7 r 1 = nI n) : ∀ (m b N : Nat), b + m = n → m < N →
    zr_X7_whoIsAt ex N 2 [some (.inr (.inr (7, r))), some (.inl x), some (.inl (nI b))] [] S = some (some (.inl (z_who (fun b => S.1 2 (6 * r + b) 4) x b m)), S) := by
  intro m
  induction m with
  | zero =>
    intro b N hb hN
    obtain ⟨N, rfl⟩ : ∃ N', N = N' + 1 := ⟨N - 1, by omega⟩
    rw [ze_X7_whoIsAt_2, if_pos (by rw [hc, z_le (by omega) (by omega)]; omega)]
    rfl
  | succ m ih =>
    intro b N hb hN
    obtain ⟨N, rfl⟩ : ∃ N', N = N' + 1 := ⟨N - 1, by omega⟩
    rw [ze_X7_whoIsAt_2, if_neg (by rw [hc, z_le (by omega) (by omega)]; omega), z_oob_n (by omega) (by omega), z_cl (by omega)]
    show (if S.1 2 (6 * r + b) 4 = x then _ else _) = _
    unfold z_who
    by_cases h : S.1 2 (6 * r + b) 4 = x
    · rw [if_pos h, if_pos h]
    · rw [if_neg h, if_neg h, nI_1]
      exact ih (b + 1) N (by omega) (by omega)
theorem s_whoIsAt (d r n : Nat) (x : Int32) (S : z_Mem) (hn : n ≤ 6) (hc : S.1 7 r 1 = nI n) : z_exe z_mt true (d + 1) 52 [.inr (.inr (7, r)), .inl x] S = some (some (.inl (z_who (fun b => S.1 2 (6 * r + b) 4) x 0 n)), S) := by
  show z_exe z_mt true (d + 1) 52 _ S = _
  rw [zx_X7_whoIsAt, ze_X7_whoIsAt_0]
  exact l_whoIsAt _ r n x S hn hc n 0 _ (by omega) (by omega)
theorem l_whoIs (ex : z_Ex) (n : Nat) (x : Int32) (S : z_Mem) (hn : n ≤ 6) (hc : S.1 12 0 0 = nI n) : ∀ (m b N : Nat), b + m = n → m < N →
    zr_X12_whoIs ex N 2 [some (.inr (.inr (12, 0))), some (.inl x), some (.inl (nI b))] [] S = some (some (.inl (z_who (fun b => S.1 40 0 b) x b m)), S) := by
  intro m
  induction m with
  | zero =>
    intro b N hb hN
    obtain ⟨N, rfl⟩ : ∃ N', N = N' + 1 := ⟨N - 1, by omega⟩
    rw [ze_X12_whoIs_2, if_pos (by rw [hc, z_le (by omega) (by omega)]; omega)]
    rfl
  | succ m ih =>
    intro b N hb hN
    obtain ⟨N, rfl⟩ : ∃ N', N = N' + 1 := ⟨N - 1, by omega⟩
    rw [ze_X12_whoIs_2, if_neg (by rw [hc, z_le (by omega) (by omega)]; omega), z_oob_n (by omega) (by omega), z_cl (by omega)]
    show (if S.1 40 0 b = x then _ else _) = _
    unfold z_who
    by_cases h : S.1 40 0 b = x
    · rw [if_pos h, if_pos h]
    · rw [if_neg h, if_neg h, nI_1]
      exact ih (b + 1) N (by omega) (by omega)
theorem s_whoIs (d n : Nat) (x : Int32) (S : z_Mem) (hn : n ≤ 6) (hc : S.1 12 0 0 = nI n) : z_exe z_mt true (d + 1) 133 [.inr (.inr (12, 0)), .inl x] S = some (some (.inl (z_who (fun b => S.1 40 0 b) x 0 n)), S) := by
  show z_exe z_mt true (d + 1) 133 _ S = _
  rw [zx_X12_whoIs, ze_X12_whoIs_0]
  exact l_whoIs _ n x S hn hc n 0 _ (by omega) (by omega)
theorem z_cond_f {α : Type} (a b : α) : cond false a b = b := rfl
