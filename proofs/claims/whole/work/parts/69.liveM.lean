/-! ===== placed: all ways, as numbers ===== -/
/-- place o of the way with the number a, of n pairs -/
def z_dg : Nat → Nat → Nat → Nat
  | 0, _ => fun _ => 0
  | n + 1, a => fun o => if o = n then a % 6 else z_dg n (a / 6) o
theorem z_dg_lt : ∀ (n a o : Nat), z_dg n a o < 6
  | 0, _, _ => Nat.zero_lt_succ 5
  | n + 1, a, o => by
    show (if o = n then a % 6 else z_dg n (a / 6) o) < 6
    by_cases h : o = n
    · rw [if_pos h]; omega
    · rw [if_neg h]; exact z_dg_lt n _ o
theorem z_dg_s (b P p : Nat) (hp : p < 6) (o : Nat) : z_dg (b + 1) (6 * P + p) o = if o = b then p else z_dg b P o := by
  show (if o = b then (6 * P + p) % 6 else z_dg b ((6 * P + p) / 6) o) = _
  rw [show (6 * P + p) % 6 = p by omega, show (6 * P + p) / 6 = P by omega]
/-- no two at one place -/
def z_inj (b P : Nat) : Prop := ∀ o, o < b → ∀ o', o' < o → z_dg b P o' ≠ z_dg b P o
theorem z_inj_s (b P p : Nat) (hp : p < 6) : z_inj (b + 1) (6 * P + p) ↔ z_inj b P ∧ ∀ o, o < b → z_dg b P o ≠ p := by
  unfold z_inj
  constructor
  · intro h
    refine ⟨fun o ho o' ho' => ?_, fun o ho => ?_⟩
    · have := h o (by omega) o' ho'
      rw [z_dg_s b P p hp, z_dg_s b P p hp, if_neg (by omega), if_neg (by omega)] at this
      exact this
    · have := h b (by omega) o ho
      rw [z_dg_s b P p hp, z_dg_s b P p hp, if_neg (by omega), if_pos rfl] at this
      exact this
  · intro h o ho o' ho'
    rw [z_dg_s b P p hp, z_dg_s b P p hp, if_neg (show ¬ o' = b by omega)]
    by_cases e : o = b
    · rw [if_pos e]; exact h.2 o' (by omega)
    · rw [if_neg e]; exact h.1 o (by omega) o' ho'
abbrev z_Bs : Type := Option (Int32 × (Int32 × Nat))
/-- m numbers from a on -/
def z_nf (f : Nat → z_Bs → z_Bs) : Nat → Nat → z_Bs → z_Bs
  | 0, _, s => s
  | m + 1, a, s => z_nf f m (a + 1) (f a s)
def z_tr (f : Nat → z_Bs → z_Bs) : Nat → Nat → z_Bs → z_Bs
  | 0, P, s => f P s
  | k + 1, P, s => z_nf (fun p s => z_tr f k (6 * P + p) s) 6 0 s
theorem z_nf_ap (f : Nat → z_Bs → z_Bs) : ∀ (m m' a : Nat) (s : z_Bs), z_nf f (m + m') a s = z_nf f m' (a + m) (z_nf f m a s)
  | 0, m', a, s => by rw [Nat.zero_add]; rfl
  | m + 1, m', a, s => by
    rw [show m + 1 + m' = (m + m') + 1 by omega]
    show z_nf f (m + m') (a + 1) (f a s) = z_nf f m' (a + (m + 1)) (z_nf f m (a + 1) (f a s))
    rw [z_nf_ap f m m' (a + 1), show a + 1 + m = a + (m + 1) by omega]
theorem z_nf_tr (f : Nat → z_Bs → z_Bs) : ∀ (k P : Nat) (s : z_Bs), z_nf f (6 ^ k) (P * 6 ^ k) s = z_tr f k P s
  | 0, P, s => by
    rw [show P * 6 ^ 0 = P by rw [Nat.pow_zero, Nat.mul_one]]
    rfl
  | k + 1, P, s => by
    have h : ∀ (m p : Nat) (s : z_Bs), z_nf f (m * 6 ^ k) ((6 * P + p) * 6 ^ k) s = z_nf (fun p s => z_tr f k (6 * P + p) s) m p s := by
      intro m
      induction m with
      | zero => intro p s; rw [Nat.zero_mul]; rfl
      | succ m ih =>
        intro p s
        rw [show (m + 1) * 6 ^ k = 6 ^ k + m * 6 ^ k by rw [Nat.succ_mul, Nat.add_comm], z_nf_ap, z_nf_tr f k (6 * P + p) s, show (6 * P + p) * 6 ^ k + 6 ^ k = (6 * P + (p + 1)) * 6 ^ k by rw [show 6 * P + (p + 1) = (6 * P + p) + 1 by omega, Nat.add_mul (6 * P + p) 1 (6 ^ k), Nat.one_mul]]
        exact ih (p + 1) _
    rw [show 6 ^ (k + 1) = 6 * 6 ^ k by rw [Nat.pow_succ, Nat.mul_comm], show P * (6 * 6 ^ k) = (6 * P + 0) * 6 ^ k by rw [← Nat.mul_assoc, Nat.mul_comm P 6, Nat.add_zero]]
    exact h 6 0 s
/-- a way that is no better is not kept -/
def z_kb (r w : Int32) (a : Nat) (s : z_Bs) : z_Bs := match s with
  | none => some (r, w, a)
  | some q => if q.1 < r then some (r, w, a) else if r = q.1 then (if q.2.1 ≤ w then some q else some (r, w, a)) else some q
noncomputable def z_lf (n : Nat) (R V : (Nat → Nat) → Int32) (a : Nat) (s : z_Bs) : z_Bs := if z_dec (z_inj n a) then z_kb (R (z_dg n a)) (V (z_dg n a)) a s else s
theorem z_lf_T {n : Nat} {R V : (Nat → Nat) → Int32} {a : Nat} {s : z_Bs} (h : z_inj n a) : z_lf n R V a s = z_kb (R (z_dg n a)) (V (z_dg n a)) a s := by
  unfold z_lf; rw [z_dec_T h, if_pos rfl]
theorem z_lf_F {n : Nat} {R V : (Nat → Nat) → Int32} {a : Nat} {s : z_Bs} (h : ¬ z_inj n a) : z_lf n R V a s = s := by
  unfold z_lf; rw [z_dec_F h, if_neg (by decide)]
theorem z_nf_id (f : Nat → z_Bs → z_Bs) : ∀ (m a : Nat) (s : z_Bs), (∀ j s, a ≤ j → j < a + m → f j s = s) → z_nf f m a s = s
  | 0, _, _, _ => rfl
  | m + 1, a, s, h => by
    show z_nf f m (a + 1) (f a s) = s
    rw [h a s (by omega) (by omega)]
    exact z_nf_id f m (a + 1) s (fun j s h1 h2 => h j s (by omega) (by omega))
/-- what two at one place begin, comes to nothing -/
theorem z_tr_no (n : Nat) (R V : (Nat → Nat) → Int32) : ∀ (k b P : Nat) (s : z_Bs), b + k = n → ¬ z_inj b P → z_tr (z_lf n R V) k P s = s
  | 0, b, P, s, hb, h => by
    obtain rfl : b = n := by omega
    exact z_lf_F h
  | k + 1, b, P, s, hb, h => z_nf_id _ 6 0 s (fun p s h1 h2 => z_tr_no n R V k (b + 1) (6 * P + p) s (by omega) (fun q => h ((z_inj_s b P p (by omega)).mp q).1))
theorem z_kb_some (r w : Int32) (a : Nat) (s : z_Bs) : ∃ q, z_kb r w a s = some q := by
  cases s with
  | none => exact ⟨_, rfl⟩
  | some q =>
    show ∃ x, (if q.1 < r then some (r, w, a) else if r = q.1 then (if q.2.1 ≤ w then some q else some (r, w, a)) else some q) = some x
    by_cases h1 : q.1 < r
    · rw [if_pos h1]; exact ⟨_, rfl⟩
    · rw [if_neg h1]
      by_cases h2 : r = q.1
      · rw [if_pos h2]
        by_cases h3 : q.2.1 ≤ w
        · rw [if_pos h3]; exact ⟨_, rfl⟩
        · rw [if_neg h3]; exact ⟨_, rfl⟩
      · rw [if_neg h2]; exact ⟨_, rfl⟩
theorem z_nf_some (n : Nat) (R V : (Nat → Nat) → Int32) : ∀ (m a : Nat) (s : z_Bs), ((∃ q, s = some q) ∨ ∃ j, a ≤ j ∧ j < a + m ∧ z_inj n j) → ∃ q, z_nf (z_lf n R V) m a s = some q
  | 0, a, s, h => h.elim (fun h => h) (fun h => by obtain ⟨j, h1, h2, -⟩ := h; omega)
  | m + 1, a, s, h => by
    refine z_nf_some n R V m (a + 1) (z_lf n R V a s) ?_
    by_cases g : z_inj n a
    · rw [z_lf_T g]; exact Or.inl (z_kb_some _ _ _ _)
    · rw [z_lf_F g]
      rcases h with h | ⟨j, h1, h2, h3⟩
      · exact Or.inl h
      · have : j ≠ a := fun e => g (by rw [← e]; exact h3)
        exact Or.inr ⟨j, by omega, by omega, h3⟩
theorem z_inj_ex : ∀ n, n ≤ 6 → ∃ a, a < 6 ^ n ∧ z_inj n a
  | 0, _ => ⟨0, by decide, by unfold z_inj; decide⟩
  | 1, _ => ⟨0, by decide, by unfold z_inj; decide⟩
  | 2, _ => ⟨1, by decide, by unfold z_inj; decide⟩
  | 3, _ => ⟨8, by decide, by unfold z_inj; decide⟩
  | 4, _ => ⟨51, by decide, by unfold z_inj; decide⟩
  | 5, _ => ⟨310, by decide, by unfold z_inj; decide⟩
  | 6, _ => ⟨1865, by decide, by unfold z_inj; decide⟩
  | n + 7, h => by omega
theorem z_best_ex {n : Nat} (hn : n ≤ 6) (R V : (Nat → Nat) → Int32) : ∃ q, z_nf (z_lf n R V) (6 ^ n) 0 none = some q := by
  obtain ⟨a, h1, h2⟩ := z_inj_ex n hn
  exact z_nf_some n R V _ 0 none (Or.inr ⟨a, by omega, by omega, h2⟩)
/-- what pair o is at place p: dry and here; how wet, if here -/
def z_f1 (H : z_H) (K : Nat → z_K) (W : Nat → Int32) (M : Nat) (ht : Int32) (hr : Nat) (D : Nat → Nat) (o : Nat) : Int32 := cond (K o).2.2.2.2.1 0 (if z_ly H K W M ht hr o (D o) = 0 then 1 else 0)
def z_f2 (H : z_H) (K : Nat → z_K) (W : Nat → Int32) (M : Nat) (ht : Int32) (hr : Nat) (D : Nat → Nat) (o : Nat) : Int32 := cond (K o).2.2.2.2.1 0 (z_ly H K W M ht hr o (D o))
/-- the class: the best way so far -/
def z_Cb (n : Nat) (s : z_Bs) (S : z_Mem) : Prop := match s with
  | none => S.1 6 0 5 = -1 ∧ S.1 6 0 6 = 0
  | some q => S.1 6 0 5 = q.1 ∧ S.1 6 0 6 = q.2.1 ∧ ∀ o, o < n → S.1 29 0 o = nI (z_dg n q.2.2 o)
def z_Ptf (b : Nat) (t i k : Nat) : Prop := i = 0 ∧ ((t = 28 ∧ b ≤ k) ∨ (t = 6 ∧ (k = 5 ∨ k = 6)) ∨ t = 29)
theorem s_keep (d n a : Nat) (r w : Int32) (s : z_Bs) (S : z_Mem) (hn : n ≤ 6) (hr : 0 ≤ r) (h3 : S.1 6 0 3 = nI n) (h28 : ∀ o, o < n → S.1 28 0 o = nI (z_dg n a o)) (hs : z_Cb n s S) :
    ∃ S', z_exe z_mt true (d + 1) 49 [.inr (.inr (6, 0)), .inl r, .inl w] S = some (none, S') ∧ z_Cb n (z_kb r w a s) S' ∧ z_fx (z_Ptf n) S S' := by
  have e : z_exe z_mt true (d + 1) 49 [.inr (.inr (6, 0)), .inl r, .inl w] S = _ := (zx_X6_keepIfBetter d S 0 r w).trans (ze_X6_keepIfBetter_0 _ _ _ _ _ _)
  have hrng : z_rng (0 : Int32) (nI n) 6 = true := by
    unfold z_rng
    rw [decide_eq_false (by decide), decide_eq_false (nI_pos (by omega)), show Int32.toNatClampNeg (0 : Int32) = 0 by decide, nI_clamp (by omega)]
    exact Nat.ble_eq_true_of_le (by omega)
  have g3 : (z_sI (z_sI S 6 0 5 r) 6 0 6 w).1 6 0 3 = nI n := by simp [z_sI1, h3]
  -- the new way is kept
  have new : ∃ S', cond (z_rng (0 : Int32) ((z_sI (z_sI S 6 0 5 r) 6 0 6 w).1 6 0 3) 6 && z_rng (0 : Int32) ((z_sI (z_sI S 6 0 5 r) 6 0 6 w).1 6 0 3) 6) (
      let S3 : z_Mem := z_acI (z_sI (z_sI S 6 0 5 r) 6 0 6 w) 28 0 (Int32.toNatClampNeg (0 : Int32)) 29 0 (Int32.toNatClampNeg (0 : Int32)) (Int32.toNatClampNeg ((z_sI (z_sI S 6 0 5 r) 6 0 6 w).1 6 0 3))
      (some (none, S3) : Option (Option z_AV × z_Mem))) none = some (none, S') ∧ z_Cb n (some (r, w, a)) S' ∧ z_fx (z_Ptf n) S S' := by
    rw [g3, hrng, show Int32.toNatClampNeg (0 : Int32) = 0 by decide, nI_clamp (by omega)]
    simp only [Bool.and_self, cond]
    refine ⟨_, rfl, ⟨?_, ?_, fun o ho => ?_⟩, ?_⟩
    · rw [z_acI1, if_neg (by omega)]; simp [z_sI1]
    · rw [z_acI1, if_neg (by omega)]; simp [z_sI1]
    · rw [z_acI1, if_pos ⟨rfl, rfl⟩]
      unfold va_cpy
      rw [if_pos ⟨Nat.zero_le _, by omega⟩]
      rw [show 0 + (o - 0) = o by omega]
      simp [z_sI1, h28 o ho]
    · exact ((z_fx.sI ⟨rfl, Or.inr (Or.inl ⟨rfl, Or.inl rfl⟩)⟩).tr (z_fx.sI ⟨rfl, Or.inr (Or.inl ⟨rfl, Or.inr rfl⟩)⟩)).tr (z_fx.acI (fun k _ _ => ⟨rfl, Or.inr (Or.inr rfl)⟩))
  rw [e]
  cases s with
  | none =>
    obtain ⟨c1, c2⟩ := hs
    rw [c1, if_pos (Int32.lt_of_lt_of_le (by decide) hr)]
    exact new
  | some q =>
    obtain ⟨c1, c2, c3⟩ := hs
    have hq : z_kb r w a (some q) = (if q.1 < r then some (r, w, a) else if r = q.1 then (if q.2.1 ≤ w then some q else some (r, w, a)) else some q) := rfl
    have old : z_Cb n (some q) S := ⟨c1, c2, c3⟩
    rw [c1, c2, hq]
    by_cases h1 : q.1 < r
    · rw [if_pos h1, if_pos h1]; exact new
    · rw [if_neg h1, if_neg h1]
      by_cases h2 : r = q.1
      · rw [if_pos h2, if_pos h2]
        by_cases h3 : q.2.1 ≤ w
        · rw [if_pos h3, if_pos h3]; exact ⟨S, rfl, old, z_fx.rf⟩
        · rw [if_neg h3, if_neg h3]; exact new
      · rw [if_neg h2, if_neg h2]; exact ⟨S, rfl, old, z_fx.rf⟩
