/-! ===== what a hut says: tokens, their value ===== -/
/-- a test's value on the facts -/
def z_tst (F : Nat → Int32) (c : Nat) : Bool :=
  cond (Nat.beq (c / 100 % 3) 0) (decide ((if c / 100 / 3 < 6 then F (c / 100 / 3) else 0) < nI (c % 100)))
    (cond (Nat.beq (c / 100 % 3) 1) (decide ((if c / 100 / 3 < 6 then F (c / 100 / 3) else 0) = nI (c % 100))) (decide (nI (c % 100) < (if c / 100 / 3 < 6 then F (c / 100 / 3) else 0))))
/-- tokens: (0, c) a test, (1, _) not, (2, _) and, (3, _) or -/
abbrev z_Tk : Type := Nat × Nat
def z_tc (t : z_Tk) : Int32 := match t.1 with
  | 0 => nI t.2
  | 1 => -1
  | 2 => -2
  | _ => -3
def z_ev1 (F : Nat → Int32) (t : z_Tk) (st : List Bool) : List Bool := match t.1, st with
  | 0, st => z_tst F t.2 :: st
  | 1, b :: r => (!b) :: r
  | 2, a :: b :: r => (b && a) :: r
  | 3, a :: b :: r => (b || a) :: r
  | _, st => st
def z_ev (F : Nat → Int32) : List z_Tk → List Bool → List Bool
  | [], st => st
  | t :: r, st => z_ev F r (z_ev1 F t st)
/-- tokens that go from depth k to depth e -/
def z_wf : List z_Tk → Nat → Nat → Prop
  | [], k, e => k = e
  | (0, c) :: r, k, e => c < 1800 ∧ k < 25 ∧ z_wf r (k + 1) e
  | (1, _) :: r, k, e => 1 ≤ k ∧ z_wf r k e
  | (2, _) :: r, k, e => 2 ≤ k ∧ z_wf r (k - 1) e
  | (3, _) :: r, k, e => 2 ≤ k ∧ z_wf r (k - 1) e
  | (_ + 4, _) :: _, _, _ => False
/-- bits, the latest lowest -/
def z_nb : List Bool → Nat
  | [] => 0
  | b :: r => 2 * z_nb r + (if b then 1 else 0)
theorem z_nb_lt : ∀ l : List Bool, z_nb l < 2 ^ l.length
  | [] => by decide
  | b :: r => by
    have h := z_nb_lt r
    show 2 * z_nb r + (if b then 1 else 0) < 2 ^ (r.length + 1)
    rw [Nat.pow_succ]
    split <;> omega
theorem s_isTrue (d h c : Nat) (S : z_Mem) (hc : c < 1800) : z_X (d + 1) 26 [.inr (.inr (4, h)), .inl (nI c)] S = some (some (.inl (if z_tst (S.1 24 h) c then 1 else 0)), S) := by
  have e : z_X (d + 1) 26 [.inr (.inr (4, h)), .inl (nI c)] S = _ := (zx_X3_isTrue d S h (nI c)).trans (ze_X3_isTrue_0 _ _ _ _ _)
  have n100 : ¬ (100 : Int32) = 0 := by decide
  have n3 : ¬ (3 : Int32) = 0 := by decide
  have e1 : nI c - nI c / 100 * 100 = nI (c % 100) := pk_rem (d := 100) (by omega) (by omega) (by omega)
  have e2 : nI c / 100 = nI (c / 100) := pk_div (d := 100) (by omega) (by omega) (by omega)
  have e3 : nI (c / 100) / 3 = nI (c / 100 / 3) := pk_div (d := 3) (by omega) (by omega) (by omega)
  have e4 : nI (c / 100) - nI (c / 100) / 3 * 3 = nI (c / 100 % 3) := pk_rem (d := 3) (by omega) (by omega) (by omega)
  rw [e]
  simp only [if_neg n100, if_neg n3, e1, e2, e3, e4]
  unfold z_tst
  have h6 : ((6 : Int32) ≤ nI (c / 100 / 3)) ↔ 6 ≤ c / 100 / 3 := z_le (a := 6) (by omega) (by omega)
  have hs : c / 100 % 3 = 0 ∨ c / 100 % 3 = 1 ∨ c / 100 % 3 = 2 := by omega
  by_cases hl : c / 100 / 3 < 6
  · rw [if_neg (fun q => by have := h6.mp q; omega), z_oob_n (by omega) (by omega), z_cl (by omega), if_pos hl]
    dsimp only [cond]
    rcases hs with hs | hs | hs <;> rw [hs]
    · rw [if_pos rfl]
      by_cases q : nI (c % 100) ≤ S.1 24 h (c / 100 / 3)
      · rw [if_pos q]; simp [Nat.beq, Int32.not_lt.mpr q]
      · rw [if_neg q]; simp [Nat.beq, Int32.not_le.mp q]
    · rw [if_neg (by decide), if_pos rfl]
      by_cases q : S.1 24 h (c / 100 / 3) = nI (c % 100)
      · rw [if_pos q]; simp [Nat.beq, q]
      · rw [if_neg q]; simp [Nat.beq, q]
    · rw [if_neg (by decide), if_neg (by decide)]
      by_cases q : S.1 24 h (c / 100 / 3) ≤ nI (c % 100)
      · rw [if_pos q]; simp [Nat.beq, Int32.not_lt.mpr q]
      · rw [if_neg q]; simp [Nat.beq, Int32.not_le.mp q]
  · have h7 : c / 100 / 3 < 7 := by omega
    omega
