/-! ===== one pair, one hour ===== -/
/-- what stays of a pair: number, kind, v, place, taken, rows -/
abbrev z_K : Type := Int32 × (Int32 × (Int32 × (Int32 × (Bool × (Nat → Int32)))))
def z_kc (i : Nat) (S : z_Mem) : z_K := (S.1 2 i 0, S.1 2 i 1, S.1 2 i 2, S.1 2 i 4, !decide (S.1 2 i 5 = 0), fun k => if k < 4 then S.1 21 i k else 0)
def z_km (b : Nat) (S : z_Mem) : z_K := (nI b, S.1 37 0 b, S.1 38 0 b, S.1 40 0 b, decide ((S.1 12 0 1 >>> (nI b &&& 31)) &&& 1 = 1), fun k => if k < 4 then S.1 42 0 (4 * b + k) else 0)
/-- what it dries at p -/
def z_dw (H : z_H) (K : z_K) (p ht : Int32) (hr : Nat) (w : Int32) : Int32 :=
  z_mx (z_dr K.2.1 K.2.2.1 w (z_mx (ht - 3 * p) + z_ext (z_Fc K.1 p K.2.1 K.2.2.1 w (nI hr)) H 0) (z_mx (ht - 3 * p)) (nI hr) (K.2.2.2.2.2 (hr % 4)))
def z_w1 (H : z_H) (K : z_K) (ht : Int32) (hr : Nat) (w : Int32) : Int32 := cond K.2.2.2.2.1 w (z_mx (w - z_dw H K K.2.2.2.1 ht hr w))
def z_sp1 (K : z_K) (ht : Int32) : Prop := z_sp K.2.1 K.2.2.1 (z_mx (ht - 3 * K.2.2.2.1))
theorem z_sp_dec (a b c : Int32) : z_sp a b c ∨ ¬ z_sp a b c := Classical.em _
noncomputable def z_c1 (K : z_K) (ht : Int32) (c : Int32) : Int32 := cond K.2.2.2.2.1 c (cond (@decide (z_sp1 K ht) (Classical.propDecidable _)) (c + 1) c)
theorem z_mx_pos (y : Int32) : 0 ≤ z_mx y := by
  unfold z_mx
  by_cases h : (0 : Int32) < y
  · rw [if_pos h]; exact Int32.le_of_lt h
  · rw [if_neg h]; exact Int32.le_refl _
theorem z_mx_0 {d : Int32} (h : 0 ≤ d) : z_mx (0 - d) = 0 := by
  unfold z_mx
  rw [if_neg]
  obtain ⟨k, hk, rfl⟩ := nI_of (Int32.not_lt.mpr h)
  rw [Int32.zero_sub, Int32.lt_iff_toInt_lt, sb_negT hk]
  have : (0 : Int32).toInt = 0 := by decide
  omega
/-- hours, as what a row of four is asked -/
theorem z_h4 {hr : Nat} (h : hr ≤ 20000) : Int32.toNatClampNeg (nI hr - nI hr / 4 * 4) = hr % 4 := by
  rw [show nI hr - nI hr / 4 * 4 = nI (hr % 4) from pk_rem (d := 4) (by omega) (by omega) (by omega), z_cl (by omega)]
theorem s_driesAt2 (d i j h hr : Nat) (p ht : Int32) (H : z_H) (S : z_Mem) (hH : z_hwf H) (hh : z_Hc h H S) (hhr : hr ≤ 20000) (hj : (S.2.2.1 9 j 3).2 = h) (h2 : S.1 9 j 2 = nI hr) (h0 : S.1 9 j 0 = ht) :
    z_wp (z_exe z_mt true (d + 3) 11 [.inr (.inr (2, i)), .inl p, .inr (.inr (9, j))] S) (fun r S' => r = some (.inl (z_dw H (z_kc i S) p ht hr (S.1 2 i 3))) ∧ z_fx z_Pl S S') := by
  have k := s_extraFor d h i p (S.1 9 j 2) H S hH hh
  rw [← hj] at k
  have k2 := s_driesAt d i j p _ S ⟨hr, hhr, h2⟩ k
  refine z_wp_mono k2 (fun r S' q => ⟨q.1.trans ?_, q.2⟩)
  unfold z_dw z_kc
  rw [h2, h0, z_h4 hhr]
  dsimp only
  rw [if_pos (show hr % 4 < 4 by omega)]
/-- one pair's slots that an hour writes, and the letters -/
def z_P1 (i : Nat) (t i' k : Nat) : Prop := (t = 2 ∧ i' = i ∧ (k = 3 ∨ k = 6)) ∨ t = 24
theorem s_hour1 (d i j h hr : Nat) (ht w : Int32) (H : z_H) (S : z_Mem) (hH : z_hwf H) (hh : z_Hc h H S) (hhr : hr ≤ 20000) (hj : (S.2.2.1 9 j 3).2 = h) (h2 : S.1 9 j 2 = nI hr) (h0 : S.1 9 j 0 = ht) (hw : S.1 2 i 3 = w) (hw0 : 0 ≤ w) :
    z_wp (z_exe z_mt true (d + 4) 15 [.inr (.inr (2, i)), .inr (.inr (9, j))] S) (fun r S' => r = none ∧ S'.1 2 i 3 = z_w1 H (z_kc i S) ht hr w ∧ S'.1 2 i 6 = z_c1 (z_kc i S) ht (S.1 2 i 6) ∧ z_fx (z_P1 i) S S') := by
  have e : z_exe z_mt true (d + 4) 15 [.inr (.inr (2, i)), .inr (.inr (9, j))] S = _ := (zx_X1_letHourGo (d + 3) S i j).trans (ze_X1_letHourGo_0 _ _ _ _ _)
  have hg : (z_kc i S).2.2.2.2.1 = !decide (S.1 2 i 5 = 0) := rfl
  rw [e]
  by_cases g : S.1 2 i 5 = 0
  · rw [if_pos g]
    rw [decide_eq_true g] at hg
    obtain ⟨b, hb, hb2⟩ := s_spoils (d + 1) i j S
    rw [hb, z_rI_s]
    have hsp : z_sp (S.1 2 i 1) (S.1 2 i 2) (z_mx (S.1 9 j 0 - 3 * S.1 2 i 4)) = z_sp1 (z_kc i S) ht := by rw [h0]; rfl
    rw [hsp] at hb2
    have hc : z_c1 (z_kc i S) ht (S.1 2 i 6) = (if b = 0 then S.1 2 i 6 else S.1 2 i 6 + 1) := by
      unfold z_c1
      rw [hg]
      rcases hb2 with ⟨q, q2⟩ | ⟨q, q2⟩
      · rw [q, if_neg (by decide), @decide_eq_true _ (Classical.propDecidable _) q2]; rfl
      · rw [q, if_pos rfl, @decide_eq_false _ (Classical.propDecidable _) q2]; rfl
    have hw1 : z_w1 H (z_kc i S) ht hr w = z_mx (w - z_dw H (z_kc i S) (S.1 2 i 4) ht hr w) := by
      unfold z_w1
      rw [hg]
      rfl
    -- the rest, from a memory that has the cracks already
    have rest : ∀ S1 : z_Mem, z_fx (z_P1 i) S S1 → S1.1 2 i 3 = w → S1.1 2 i 6 = (if b = 0 then S.1 2 i 6 else S.1 2 i 6 + 1) →
        z_wp (if S1.1 2 i 3 ≤ 0 then (some (none, S1)) else z_rI (z_exe z_mt true (d + 3) 11 [.inr (.inr (2, i)), .inl (S1.1 2 i 4), .inr (.inr (9, j))] S1) (fun r4 S3 =>
          some (none, z_sI S3 2 i 3 (if (0 : Int32) < (S1.1 2 i 3 - r4) then (S1.1 2 i 3 - r4) else (0 : Int32)))))
        (fun r S' => r = none ∧ S'.1 2 i 3 = z_w1 H (z_kc i S) ht hr w ∧ S'.1 2 i 6 = z_c1 (z_kc i S) ht (S.1 2 i 6) ∧ z_fx (z_P1 i) S S') := by
      intro S1 hf k3 k6
      have hx : ∀ t i' k, ¬ z_P1 i t i' k → S1.1 t i' k = S.1 t i' k := fun t i' k q => (hf.1 t i' k q).1
      have n9 : ∀ k, ¬ z_P1 i 9 j k := fun k q => q.elim (fun q => absurd q.1 (by decide)) (fun q => absurd q (by decide))
      have n2 : ∀ k, k ≠ 3 → k ≠ 6 → ¬ z_P1 i 2 i k := fun k a b q => q.elim (fun q => q.2.2.elim a b) (fun q => absurd q (by decide))
      have n21 : ∀ k, ¬ z_P1 i 21 i k := fun k q => q.elim (fun q => absurd q.1 (by decide)) (fun q => absurd q (by decide))
      have hK : z_kc i S1 = z_kc i S := by
        unfold z_kc
        rw [hx 2 i 0 (n2 0 (by decide) (by decide)), hx 2 i 1 (n2 1 (by decide) (by decide)), hx 2 i 2 (n2 2 (by decide) (by decide)), hx 2 i 4 (n2 4 (by decide) (by decide)), hx 2 i 5 (n2 5 (by decide) (by decide))]
        simp only [hx 21 i _ (n21 _)]
      by_cases q : S1.1 2 i 3 ≤ 0
      · rw [if_pos q]
        rw [k3] at q
        have w0 : w = 0 := Int32.le_antisymm q hw0
        refine z_wp_ret ⟨rfl, ?_, k6.trans hc.symm, hf⟩
        rw [k3, hw1, w0]
        exact (z_mx_0 (d := z_dw H (z_kc i S) (S.1 2 i 4) ht hr 0) (z_mx_pos _)).symm
      · rw [if_neg q]
        have k := s_driesAt2 d i j h hr (S1.1 2 i 4) ht H S1 hH (hh.fx hf (fun k q => q.elim (fun q => absurd q.1 (by decide)) (fun q => absurd q (by decide))) (fun k q => q.elim (fun q => absurd q.1 (by decide)) (fun q => absurd q (by decide))) (fun k q => q.elim (fun q => absurd q.1 (by decide)) (fun q => absurd q (by decide)))) hhr
          (by rw [(hf.1 9 j 3 (n9 3)).2.2]; exact hj) ((hx 9 j 2 (n9 2)).trans h2) ((hx 9 j 0 (n9 0)).trans h0)
        refine z_wp_I k (fun r S3 hr => ⟨_, hr.1, ?_⟩)
        obtain ⟨-, hf3⟩ := hr
        refine z_wp_ret ⟨rfl, ?_, ?_, hf.tr ((hf3.wk (fun t i' k q => Or.inr q)).tr (z_fx.sI (Or.inl ⟨rfl, rfl, Or.inl rfl⟩)))⟩
        · rw [z_sI1, if_pos ⟨rfl, rfl, rfl⟩, hK, k3, hx 2 i 4 (n2 4 (by decide) (by decide)), hw1]
          rfl
        · rw [z_sI1, if_neg (fun q => absurd q.2.2 (by decide)), (hf3.1 2 i 6 (by show ¬ 2 = 24; decide)).1]
          exact k6.trans hc.symm
    by_cases hb0 : b = 0
    · rw [if_pos hb0] at rest ⊢
      exact rest S z_fx.rf hw rfl
    · rw [if_neg hb0] at rest ⊢
      exact rest (z_sI S 2 i 6 (S.1 2 i 6 + 1)) (z_fx.sI (Or.inl ⟨rfl, rfl, Or.inr rfl⟩)) (by rw [z_sI1, if_neg (fun q => absurd q.2.2 (by decide))]; exact hw) (by rw [z_sI1, if_pos ⟨rfl, rfl, rfl⟩])
  · rw [if_neg g]
    rw [decide_eq_false g] at hg
    refine z_wp_ret ⟨rfl, ?_, ?_, z_fx.rf⟩
    · unfold z_w1; rw [hg]; exact hw
    · unfold z_c1; rw [hg]; rfl
