/-! ===== what one dries, one hour ===== -/
def z_dr (kind v wet sum warm hour rowv : Int32) : Int32 :=
  if kind = 1 then (if 8 < warm then sum / 2 else sum)
  else if kind = 2 then sum / 2
  else if kind = 3 then (if 50 ≤ wet then sum + v else sum)
  else if kind = 4 then (if 8 < warm then sum / 2 else sum) + (if hour - hour / 4 * 4 = 0 then 2 else 0)
  else if kind = 5 then (if v ≤ wet then sum / 2 else 0)
  else if kind = 6 then (if 50 ≤ wet then sum + v else sum) + rowv
  else sum
def z_sp (kind v warm : Int32) : Prop := (kind = 1 ∧ 8 < warm) ∨ (kind = 4 ∧ 8 + v < warm)
theorem z_n2 : ¬ (2 : Int32) = 0 := by decide
theorem z_n4 : ¬ (4 : Int32) = 0 := by decide
theorem s_asLeather (d : Nat) (x w : Int32) (S : z_Mem) : z_exe z_mt true (d + 1) 12 [.inl x, .inl w] S = some (some (.inl (if 8 < w then x / 2 else x)), S) := by
  show z_exe z_mt true (d + 1) 12 _ S = _
  rw [zx_X1_asLeather, ze_X1_asLeather_0]
  by_cases h : w ≤ 8
  · rw [if_pos h, if_neg (Int32.not_lt.mpr h)]
  · rw [if_neg h, if_pos (Int32.not_le.mp h), if_neg z_n2]
theorem s_asStuffed (d i : Nat) (x : Int32) (S : z_Mem) : z_exe z_mt true (d + 1) 13 [.inr (.inr (2, i)), .inl x] S = some (some (.inl (if 50 ≤ S.1 2 i 3 then x + S.1 2 i 2 else x)), S) := by
  show z_exe z_mt true (d + 1) 13 _ S = _
  rw [zx_X1_asStuffed, ze_X1_asStuffed_0]
  by_cases h : S.1 2 i 3 < 50
  · rw [if_pos h, if_neg (Int32.not_le.mpr h)]
  · rw [if_neg h, if_pos (Int32.not_lt.mp h)]
theorem s_spoils (d i j : Nat) (S : z_Mem) : ∃ b : Int32, z_exe z_mt true (d + 2) 14 [.inr (.inr (2, i)), .inr (.inr (9, j))] S = some (some (.inl b), S) ∧ ((b = 1 ∧ z_sp (S.1 2 i 1) (S.1 2 i 2) (z_mx (S.1 9 j 0 - 3 * S.1 2 i 4))) ∨ (b = 0 ∧ ¬ z_sp (S.1 2 i 1) (S.1 2 i 2) (z_mx (S.1 9 j 0 - 3 * S.1 2 i 4)))) := by
  have e : z_exe z_mt true (d + 2) 14 [.inr (.inr (2, i)), .inr (.inr (9, j))] S = _ := (zx_X1_spoils (d + 1) S i j).trans (ze_X1_spoils_0 _ _ _ _ _)
  rw [e, s_warmAt, z_rI_s]
  generalize z_mx (S.1 9 j 0 - 3 * S.1 2 i 4) = w
  unfold z_sp
  by_cases h1 : S.1 2 i 1 = 1
  · rw [if_pos h1]
    have h4 : ¬ S.1 2 i 1 = 4 := by rw [h1]; decide
    by_cases h8 : 8 < w
    · rw [if_pos h8]
      exact ⟨1, rfl, Or.inl ⟨rfl, Or.inl ⟨h1, h8⟩⟩⟩
    · rw [if_neg h8, if_neg h4]
      exact ⟨0, rfl, Or.inr ⟨rfl, fun q => q.elim (fun q => h8 q.2) (fun q => h4 q.1)⟩⟩
  · rw [if_neg h1]
    by_cases h4 : S.1 2 i 1 = 4
    · rw [if_pos h4]
      by_cases hw : w ≤ 8 + S.1 2 i 2
      · rw [if_pos hw]
        exact ⟨0, rfl, Or.inr ⟨rfl, fun q => q.elim (fun q => h1 q.1) (fun q => Int32.not_lt.mpr hw q.2)⟩⟩
      · rw [if_neg hw]
        exact ⟨1, rfl, Or.inl ⟨rfl, Or.inr ⟨h4, Int32.not_le.mp hw⟩⟩⟩
    · rw [if_neg h4]
      exact ⟨0, rfl, Or.inr ⟨rfl, fun q => q.elim (fun q => h1 q.1) (fun q => h4 q.1)⟩⟩
/-- the letters of a hut are scratch -/
def z_Pl (t _ _ : Nat) : Prop := t = 24
theorem s_driesAt (d i j : Nat) (at' ext : Int32) (S : z_Mem) (hh : ∃ k : Nat, k ≤ 20000 ∧ S.1 9 j 2 = nI k)
    (hext : z_wp (z_exe z_mt true (d + 2) 25 [.inr (.inr (4, (S.2.2.1 9 j 3).2)), .inr (.inr (2, i)), .inl at', .inl (S.1 9 j 2)] S) (fun r S' => r = some (.inl ext) ∧ z_fx z_Pl S S')) :
    z_wp (z_exe z_mt true (d + 3) 11 [.inr (.inr (2, i)), .inl at', .inr (.inr (9, j))] S) (fun r S' => r = some (.inl (z_mx (z_dr (S.1 2 i 1) (S.1 2 i 2) (S.1 2 i 3) (z_mx (S.1 9 j 0 - 3 * at') + ext) (z_mx (S.1 9 j 0 - 3 * at')) (S.1 9 j 2) (S.1 21 i (Int32.toNatClampNeg (S.1 9 j 2 - S.1 9 j 2 / 4 * 4)))))) ∧ z_fx z_Pl S S') := by
  have e : z_exe z_mt true (d + 3) 11 [.inr (.inr (2, i)), .inl at', .inr (.inr (9, j))] S = _ := (zx_X1_driesAt (d + 2) S i at' j).trans (ze_X1_driesAt_0 _ _ _ _ _ _)
  rw [e, s_warmAt, z_rI_s]
  refine z_wp_I hext (fun r S' h => ⟨ext, h.1, ?_⟩)
  obtain ⟨-, hfx⟩ := h
  have k1 : ∀ k, S'.1 2 i k = S.1 2 i k := fun k => (hfx.1 2 i k (by show ¬ 2 = 24; decide)).1
  have k2 : ∀ k, S'.1 9 j k = S.1 9 j k := fun k => (hfx.1 9 j k (by show ¬ 9 = 24; decide)).1
  have k3 : ∀ k, S'.1 21 i k = S.1 21 i k := fun k => (hfx.1 21 i k (by show ¬ 21 = 24; decide)).1
  rw [s_asLeather (d + 1), s_asStuffed (d + 1), z_rI_s, z_rI_s, z_rI_s, z_rI_s]
  simp only [k1, k2, k3]
  generalize z_mx (S.1 9 j 0 - 3 * at') = w
  unfold z_dr
  by_cases c1 : S.1 2 i 1 = 1
  · rw [if_pos c1, if_pos c1]; exact z_wp_ret ⟨rfl, hfx⟩
  rw [if_neg c1, if_neg c1]
  by_cases c2 : S.1 2 i 1 = 2
  · rw [if_pos c2, if_pos c2, if_neg z_n2]; exact z_wp_ret ⟨rfl, hfx⟩
  rw [if_neg c2, if_neg c2]
  by_cases c3 : S.1 2 i 1 = 3
  · rw [if_pos c3, if_pos c3]; exact z_wp_ret ⟨rfl, hfx⟩
  rw [if_neg c3, if_neg c3]
  by_cases c4 : S.1 2 i 1 = 4
  · rw [if_pos c4, if_pos c4, if_neg z_n4]
    by_cases c : S.1 9 j 2 - S.1 9 j 2 / 4 * 4 = 0
    · rw [if_pos c, if_pos c]; exact z_wp_ret ⟨rfl, hfx⟩
    · rw [if_neg c, if_neg c]; exact z_wp_ret ⟨rfl, hfx⟩
  rw [if_neg c4, if_neg c4]
  by_cases c5 : S.1 2 i 1 = 5
  · rw [if_pos c5, if_pos c5]
    by_cases c : S.1 2 i 2 ≤ S.1 2 i 3
    · rw [if_pos c, if_pos c, if_neg z_n2]; exact z_wp_ret ⟨rfl, hfx⟩
    · rw [if_neg c, if_neg c]; exact z_wp_ret ⟨rfl, hfx⟩
  rw [if_neg c5, if_neg c5]
  by_cases c6 : S.1 2 i 1 = 6
  · rw [if_pos c6, if_pos c6, if_neg z_n4]
    obtain ⟨k, hk, hkk⟩ := hh
    have h4 : S.1 9 j 2 - S.1 9 j 2 / 4 * 4 = nI (k % 4) := by
      rw [hkk]
      exact pk_rem (d := 4) (by omega) (by omega) (by omega)
    rw [h4]
    refine z_wp_oob (z_oob_n (by omega) (by omega)) ?_
    exact z_wp_ret ⟨rfl, hfx⟩
  rw [if_neg c6, if_neg c6]
  exact z_wp_ret ⟨rfl, hfx⟩
