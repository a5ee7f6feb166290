/-! ===== sets as bits ===== -/
def z_bt (v : Int32) (k : Nat) : Bool := v.toBitVec.getLsbD k
theorem z_bit1 (x : Int32) : (x &&& 1 = 1) ↔ x.toBitVec.getLsbD 0 = true := by
  rw [pk_and x (m := 1) 1 (by decide), show (1 : Int32) = nI 1 from rfl, nI_eq (by omega) (by omega)]
  show _ ↔ x.toBitVec.toNat.testBit 0 = true
  rw [Nat.testBit_zero, decide_eq_true_iff]
theorem z_bsm : ∀ k, k < 6 → ((nI k &&& 31).toBitVec.smod 32).toNat = k := by decide
theorem z_has_iff (v : Int32) {k : Nat} (hk : k < 6) : ((v >>> (nI k &&& 31)) &&& 1 = 1) ↔ z_bt v k = true := by
  rw [z_bit1, Int32.toBitVec_shiftRight]
  show (v.toBitVec.sshiftRight ((nI k &&& 31).toBitVec.smod 32).toNat).getLsbD 0 = true ↔ _
  rw [z_bsm k hk, BitVec.getLsbD_sshiftRight, if_pos (by omega)]
  unfold z_bt
  simp
theorem z_one_bit : ∀ b, b < 6 → ∀ k, k < 6 → ((1 : Int32) <<< (nI b &&& 31)).toBitVec.getLsbD k = decide (k = b) := by decide
theorem z_bt_or (g : Int32) {b k : Nat} (hb : b < 6) (hk : k < 6) : z_bt (g ||| ((1 : Int32) <<< (nI b &&& 31))) k = (z_bt g k || decide (k = b)) := by
  unfold z_bt
  rw [Int32.toBitVec_or, BitVec.getLsbD_or, z_one_bit b hb k hk]
theorem z_one_not : ∀ b, b < 6 → ∀ k, k < 6 → (((1 : Int32) <<< (nI b &&& 31)) ^^^ (-1 : Int32)).toBitVec.getLsbD k = !decide (k = b) := by decide
theorem z_bt_not (g : Int32) {b k : Nat} (hb : b < 6) (hk : k < 6) : z_bt (g &&& (((1 : Int32) <<< (nI b &&& 31)) ^^^ (-1 : Int32))) k = (z_bt g k && !decide (k = b)) := by
  unfold z_bt
  rw [Int32.toBitVec_and, BitVec.getLsbD_and, z_one_not b hb k hk]
theorem z_bt_less (x g : Int32) {k : Nat} (hk : k < 6) : z_bt (x &&& (g ^^^ (-1 : Int32))) k = (z_bt x k && !z_bt g k) := by
  unfold z_bt
  rw [Int32.toBitVec_and, BitVec.getLsbD_and, Int32.toBitVec_xor, BitVec.getLsbD_xor]
  have h : ∀ k, k < 6 → (-1 : Int32).toBitVec.getLsbD k = true := by decide
  rw [h k hk]
  cases x.toBitVec.getLsbD k <;> cases g.toBitVec.getLsbD k <;> rfl
theorem z_bt_0 : ∀ k, k < 6 → z_bt 0 k = false := by decide
/-! ===== sums over pairs ===== -/
/-- x and f of m numbers from b on -/
def z_sg (f : Nat → Int32) : Nat → Nat → Int32 → Int32
  | _, 0, x => x
  | b, m + 1, x => z_sg f (b + 1) m (x + f b)
def z_om (f : Nat → Int32) : Nat → Nat → Int32 → Int32
  | _, 0, x => x
  | b, m + 1, x => z_om f (b + 1) m (x ||| f b)
theorem z_sg_cg {f g : Nat → Int32} : ∀ (m b : Nat) (x : Int32), (∀ k, b ≤ k → k < b + m → f k = g k) → z_sg f b m x = z_sg g b m x
  | 0, _, _, _ => rfl
  | m + 1, b, x, h => by
    show z_sg f (b + 1) m (x + f b) = z_sg g (b + 1) m (x + g b)
    rw [h b (Nat.le_refl _) (by omega)]
    exact z_sg_cg m (b + 1) _ (fun k h1 h2 => h k (by omega) (by omega))
theorem z_om_cg {f g : Nat → Int32} : ∀ (m b : Nat) (x : Int32), (∀ k, b ≤ k → k < b + m → f k = g k) → z_om f b m x = z_om g b m x
  | 0, _, _, _ => rfl
  | m + 1, b, x, h => by
    show z_om f (b + 1) m (x ||| f b) = z_om g (b + 1) m (x ||| g b)
    rw [h b (Nat.le_refl _) (by omega)]
    exact z_om_cg m (b + 1) _ (fun k h1 h2 => h k (by omega) (by omega))
theorem z_sg_0 {f : Nat → Int32} : ∀ (m b : Nat) (x : Int32), (∀ k, b ≤ k → k < b + m → f k = 0) → z_sg f b m x = x
  | 0, _, _, _ => rfl
  | m + 1, b, x, h => by
    show z_sg f (b + 1) m (x + f b) = x
    rw [h b (Nat.le_refl _) (by omega), Int32.add_zero]
    exact z_sg_0 m (b + 1) _ (fun k h1 h2 => h k (by omega) (by omega))
theorem z_sg_ap {f : Nat → Int32} : ∀ (m m' b : Nat) (x : Int32), z_sg f b (m + m') x = z_sg f (b + m) m' (z_sg f b m x)
  | 0, m', b, x => by rw [Nat.zero_add]; rfl
  | m + 1, m', b, x => by
    rw [show m + 1 + m' = m + m' + 1 by omega]
    show z_sg f (b + 1) (m + m') (x + f b) = z_sg f (b + (m + 1)) m' (z_sg f (b + 1) m (x + f b))
    rw [z_sg_ap m m' (b + 1), show b + 1 + m = b + (m + 1) by omega]
theorem z_sg_x {f : Nat → Int32} : ∀ (m b : Nat) (x : Int32), z_sg f b m x = x + z_sg f b m 0
  | 0, _, x => (Int32.add_zero x).symm
  | m + 1, b, x => by
    show z_sg f (b + 1) m (x + f b) = x + z_sg f (b + 1) m (0 + f b)
    rw [z_sg_x m (b + 1) (x + f b), z_sg_x m (b + 1) (0 + f b), Int32.zero_add, Int32.add_assoc]
theorem z_sg_nI {f : Nat → Int32} {c : Nat} : ∀ (m b : Nat) (y : Nat), (∀ k, b ≤ k → k < b + m → ∃ j : Nat, j ≤ c ∧ f k = nI j) → ∃ j : Nat, j ≤ y + c * m ∧ z_sg f b m (nI y) = nI j
  | 0, _, y, _ => ⟨y, by omega, rfl⟩
  | m + 1, b, y, h => by
    obtain ⟨j, hj, e⟩ := h b (Nat.le_refl _) (by omega)
    obtain ⟨j', hj', e'⟩ := z_sg_nI m (b + 1) (y + j) (fun k h1 h2 => h k (by omega) (by omega))
    refine ⟨j', ?_, ?_⟩
    · rw [Nat.mul_succ]; omega
    · show z_sg f (b + 1) m (nI y + f b) = _
      rw [e, nI_add]
      exact e'
/-- the set of those of whom p holds, as numbers -/
theorem z_om_bt {f : Nat → Int32} {p : Nat → Bool} (hf : ∀ k, k < 6 → f k = (if p k then (1 : Int32) <<< (nI k &&& 31) else 0)) : ∀ (m b : Nat) (x : Int32) (k : Nat), b + m ≤ 6 → k < 6 → z_bt (z_om f b m x) k = (z_bt x k || (decide (b ≤ k) && decide (k < b + m) && p k))
  | 0, b, x, k, _, hk => by
    show z_bt x k = _
    have : (decide (b ≤ k) && decide (k < b + 0)) = false := by
      rw [Bool.and_eq_false_iff, decide_eq_false_iff_not, decide_eq_false_iff_not]; omega
    rw [this, Bool.false_and, Bool.or_false]
  | m + 1, b, x, k, hb, hk => by
    show z_bt (z_om f (b + 1) m (x ||| f b)) k = _
    rw [z_om_bt hf m (b + 1) _ k (by omega) hk, hf b (by omega)]
    have e : z_bt (x ||| (if p b then (1 : Int32) <<< (nI b &&& 31) else 0)) k = (z_bt x k || (decide (k = b) && p b)) := by
      by_cases hp : p b = true
      · rw [if_pos hp, z_bt_or x (by omega) hk, hp, Bool.and_true]
      · rw [if_neg hp, Int32.or_zero, Bool.eq_false_iff.mpr hp, Bool.and_false, Bool.or_false]
    rw [e]
    by_cases h : k = b
    · subst h
      have a1 : decide (k + 1 ≤ k) = false := decide_eq_false (by omega)
      have a2 : decide (k ≤ k) = true := decide_eq_true (by omega)
      have a3 : decide (k < k + (m + 1)) = true := decide_eq_true (by omega)
      have a4 : decide (k = k) = true := decide_eq_true rfl
      rw [a1, a2, a3, a4]
      cases z_bt x k <;> cases p k <;> rfl
    · have a4 : decide (k = b) = false := decide_eq_false h
      have a1 : decide (b + 1 ≤ k) = decide (b ≤ k) := by rw [decide_eq_decide]; omega
      have a3 : decide (k < b + 1 + m) = decide (k < b + (m + 1)) := by rw [decide_eq_decide]; omega
      rw [a1, a3, a4, Bool.false_and, Bool.or_false]
