/-! ===== the model's leaves ===== -/
theorem z_b1_and (c : Prop) [Decidable c] : z_b1 c &&& 1 = z_b1 c := by
  unfold z_b1
  by_cases h : c
  · rw [if_pos h]; rfl
  · rw [if_neg h]; rfl
theorem z_b1_0 (c : Prop) [Decidable c] : z_b1 c = 0 ↔ ¬ c := by
  unfold z_b1
  by_cases h : c
  · rw [if_pos h]; exact ⟨fun q => absurd q (by decide), fun q => absurd h q⟩
  · rw [if_neg h]; exact ⟨fun _ => h, fun _ => rfl⟩
theorem z_b1_1 (c : Prop) [Decidable c] : z_b1 c = 1 ↔ c := by
  unfold z_b1
  by_cases h : c
  · rw [if_pos h]; exact ⟨fun _ => h, fun _ => rfl⟩
  · rw [if_neg h]; exact ⟨fun q => absurd q (by decide), fun q => absurd q h⟩
def z_bit (v k : Int32) : Prop := (v >>> (k &&& 31)) &&& 1 = 1
theorem z_bit_dec (v k : Int32) : z_bit v k ∨ ¬ z_bit v k := Decidable.em ((v >>> (k &&& 31)) &&& 1 = 1)
theorem s_has (d : Nat) (v k : Int32) (S : z_Mem) : z_exe z_mt true (d + 1) 125 [.inr (.inr (12, 0)), .inl v, .inl k] S = some (some (.inl (z_b1 ((v >>> (k &&& 31)) &&& 1 = 1))), S) := by
  show z_exe z_mt true (d + 1) 125 _ S = _
  rw [zx_X12_has, ze_X12_has_0]
  unfold z_b1
  by_cases h : (v >>> (k &&& 31)) &&& 1 = 1
  · rw [if_pos h, if_pos h]
  · rw [if_neg h, if_neg h]
theorem s_least (d : Nat) (a b : Int32) (S : z_Mem) : z_exe z_mt true (d + 1) 126 [.inr (.inr (12, 0)), .inl a, .inl b] S = some (some (.inl (if b ≤ a then b else a)), S) := by
  show z_exe z_mt true (d + 1) 126 _ S = _
  rw [zx_X12_least, ze_X12_least_0]
  by_cases h : b ≤ a
  · rw [if_pos h, if_pos h]
  · rw [if_neg h, if_neg h]
theorem s_atLeast0 (d : Nat) (a : Int32) (S : z_Mem) : z_exe z_mt true (d + 1) 127 [.inr (.inr (12, 0)), .inl a] S = some (some (.inl (z_mx a)), S) := by
  show z_exe z_mt true (d + 1) 127 _ S = _
  rw [zx_X12_atLeast0, ze_X12_atLeast0_0]
  unfold z_mx
  by_cases h : (0 : Int32) < a
  · rw [if_pos (Int32.le_of_lt h), if_pos h]
  · rw [if_neg h]
    by_cases h2 : 0 ≤ a
    · rw [if_pos h2]
      have h3 : a = 0 := Int32.le_antisymm (Int32.not_lt.mp h) h2
      rw [h3]
    · rw [if_neg h2]
/-- b is the number of one of n pairs -/
def z_isP (n : Nat) (b : Int32) : Prop := 0 ≤ b ∧ b ≤ nI n - 1
theorem z_isP_of {n : Nat} {b : Int32} (hn : n ≤ 6) (h : z_isP n b) : ∃ k : Nat, k < n ∧ b = nI k := by
  obtain ⟨h0, h1⟩ := h
  obtain ⟨k, hk, rfl⟩ := nI_of (Int32.not_lt.mpr h0)
  match n, hn, h1 with
  | 0, _, h1 => exact absurd (Int32.le_trans h0 h1) (by decide)
  | n + 1, hn, h1 =>
    rw [nI_pred, nI_leI hk (by omega)] at h1
    exact ⟨k, by omega, rfl⟩
theorem z_isP_to {n k : Nat} (hn : n ≤ 6) (h : k < n) : z_isP n (nI k) := by
  refine ⟨nI_pos' (by omega), ?_⟩
  match n, hn, h with
  | n + 1, hn, h => rw [nI_pred]; exact nI_le (by omega) (by omega)
theorem s_isPair (d n : Nat) (b : Int32) (S : z_Mem) (hc : S.1 12 0 0 = nI n) : z_exe z_mt true (d + 2) 129 [.inr (.inr (12, 0)), .inl b] S = some (some (.inl (z_b1 (0 ≤ b ∧ b ≤ nI n - 1))), S) := by
  show z_exe z_mt true (d + 1 + 1) 129 _ S = _
  rw [zx_X12_isPair, ze_X12_isPair_0, s_in, z_rI_s, if_pos (z_b1_and _), hc]
theorem s_isPlace (d : Nat) (b : Int32) (S : z_Mem) : z_exe z_mt true (d + 2) 130 [.inr (.inr (12, 0)), .inl b] S = some (some (.inl (z_b1 (0 ≤ b ∧ b ≤ 5))), S) := by
  show z_exe z_mt true (d + 1 + 1) 130 _ S = _
  rw [zx_X12_isPlace, ze_X12_isPlace_0, s_in, z_rI_s, if_pos (z_b1_and _)]
theorem s_isWet (d : Nat) (b : Int32) (S : z_Mem) : z_exe z_mt true (d + 2) 131 [.inr (.inr (12, 0)), .inl b] S = some (some (.inl (z_b1 (0 ≤ b ∧ b ≤ 99))), S) := by
  show z_exe z_mt true (d + 1 + 1) 131 _ S = _
  rw [zx_X12_isWet, ze_X12_isWet_0, s_in, z_rI_s, if_pos (z_b1_and _)]
theorem s_isHours (d : Nat) (b : Int32) (S : z_Mem) : z_exe z_mt true (d + 2) 132 [.inr (.inr (12, 0)), .inl b] S = some (some (.inl (z_b1 (0 ≤ b ∧ b ≤ 60))), S) := by
  show z_exe z_mt true (d + 1 + 1) 132 _ S = _
  rw [zx_X12_isHours, ze_X12_isHours_0, s_in, z_rI_s, if_pos (z_b1_and _)]
theorem s_isTape (d : Nat) (b : Int32) (S : z_Mem) : z_exe z_mt true (d + 2) 222 [.inr (.inr (12, 0)), .inl b] S = some (some (.inl (z_b1 (0 ≤ b ∧ b ≤ 5))), S) := by
  show z_exe z_mt true (d + 1 + 1) 222 _ S = _
  rw [zx_X12_isTape, ze_X12_isTape_0, s_in, z_rI_s, if_pos (z_b1_and _)]
theorem s_noPair (d n : Nat) (b : Int32) (S : z_Mem) (hn : n ≤ 6) (hc : S.1 7 0 1 = nI n) : z_exe z_mt true (d + 1) 116 [.inr (.inr (11, 0)), .inl b] S = some (some (.inl (z_b1 (¬ (0 ≤ b ∧ b ≤ nI n - 1)))), S) := by
  show z_exe z_mt true (d + 1) 116 _ S = _
  rw [zx_X11_noPair, ze_X11_noPair_0, hc]
  unfold z_b1
  by_cases h1 : b < 0
  · rw [if_pos h1, if_pos (fun h => absurd h.1 (Int32.not_le.mpr h1))]
  · rw [if_neg h1]
    by_cases h2 : b < nI n
    · rw [if_pos h2, if_neg]
      intro h
      obtain ⟨k, hk, rfl⟩ := nI_of h1
      refine h (z_isP_to hn ?_)
      rw [nI_ltI hk (by omega)] at h2
      exact h2
    · rw [if_neg h2, if_pos]
      intro h
      obtain ⟨k, hk, rfl⟩ := z_isP_of hn h
      exact h2 (nI_lt hk (by omega))
theorem s_warm (d : Nat) (p : Int32) (S : z_Mem) : z_exe z_mt true (d + 2) 164 [.inr (.inr (12, 0)), .inl p] S = some (some (.inl (z_mx (S.1 12 0 2 - 3 * p))), S) := by
  show z_exe z_mt true (d + 1 + 1) 164 _ S = _
  rw [zx_X12_warm, ze_X12_warm_0, s_atLeast0, z_rI_s]
