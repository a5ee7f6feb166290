/-! ===== what a try takes and puts back: the model's save and putBack ===== -/
def z_Psv (t i k : Nat) : Prop := i = 0 ∧ ((t = 12 ∧ 29 ≤ k ∧ k ≤ 33) ∨ 53 ≤ t ∧ t ≤ 55)
def z_Ppb (t i k : Nat) : Prop := i = 0 ∧ ((t = 12 ∧ (k = 29 ∨ (1 ≤ k ∧ k ≤ 4))) ∨ (39 ≤ t ∧ t ≤ 41 ∧ k < 6))
/-- what a try may write between -/
def z_Prn (t i k : Nat) : Prop := (i = 0 ∧ ((t = 12 ∧ (1 ≤ k ∧ k ≤ 4)) ∨ (39 ≤ t ∧ t ≤ 41 ∧ k < 6))) ∨ t = 52 ∨ t = 56
/-- what a try leaves otherwise -/
def z_Psc (t i k : Nat) : Prop := (i = 0 ∧ ((t = 12 ∧ 30 ≤ k ∧ k ≤ 33) ∨ 53 ≤ t ∧ t ≤ 55)) ∨ t = 52 ∨ t = 56
def z_sav (S S1 : z_Mem) : Prop := z_fx z_Psv S S1 ∧ S1.1 12 0 29 = nI 2000000000 ∧ (S1.1 12 0 30 = S.1 12 0 1 ∧ S1.1 12 0 31 = S.1 12 0 2 ∧ S1.1 12 0 32 = S.1 12 0 3 ∧ S1.1 12 0 33 = S.1 12 0 4) ∧ ∀ b, b < 6 → S1.1 53 0 b = S.1 39 0 b ∧ S1.1 54 0 b = S.1 40 0 b ∧ S1.1 55 0 b = S.1 41 0 b
def z_rbk (S S1 : z_Mem) : Prop := z_fx z_Ppb S S1 ∧ S1.1 12 0 29 = 9999 ∧ (S1.1 12 0 1 = S.1 12 0 30 ∧ S1.1 12 0 2 = S.1 12 0 31 ∧ S1.1 12 0 3 = S.1 12 0 32 ∧ S1.1 12 0 4 = S.1 12 0 33) ∧ ∀ b, b < 6 → S1.1 39 0 b = S.1 53 0 b ∧ S1.1 40 0 b = S.1 54 0 b ∧ S1.1 41 0 b = S.1 55 0 b
theorem l_save (ex : z_Ex) (S0 : z_Mem) : ∀ (m b N : Nat) (S : z_Mem), b + m = 6 → m < N → z_fx z_Psv S0 S → S.1 12 0 29 = nI 2000000000 → (S.1 12 0 30 = S0.1 12 0 1 ∧ S.1 12 0 31 = S0.1 12 0 2 ∧ S.1 12 0 32 = S0.1 12 0 3 ∧ S.1 12 0 33 = S0.1 12 0 4) → (∀ b', b' < b → S.1 53 0 b' = S0.1 39 0 b' ∧ S.1 54 0 b' = S0.1 40 0 b' ∧ S.1 55 0 b' = S0.1 41 0 b') →
    z_wp (zr_X12_save ex N 41 [some (.inr (.inr (12, 0))), some (.inl (nI b))] [] S) (fun q S' => q = none ∧ z_sav S0 S') := by
  intro m
  induction m with
  | zero =>
    intro b N S hb hN hf h29 h30 hk
    obtain ⟨N, rfl⟩ : ∃ N', N = N' + 1 := ⟨N - 1, by omega⟩
    rw [ze_X12_save_41, if_pos (by rw [show (6 : Int32) = nI 6 from rfl, z_le (by omega) (by omega)]; omega)]
    exact z_wp_ret ⟨rfl, hf, h29, h30, fun b' hb' => hk b' (by omega)⟩
  | succ m ih =>
    intro b N S hb hN hf h29 h30 hk
    obtain ⟨N, rfl⟩ : ∃ N', N = N' + 1 := ⟨N - 1, by omega⟩
    rw [ze_X12_save_41, if_neg (by rw [show (6 : Int32) = nI 6 from rfl, z_le (by omega) (by omega)]; omega), z_oob_n (k := b) (by omega) (by omega), z_cl (k := b) (by omega)]
    dsimp only [cond]
    rw [nI_1]
    refine ih (b + 1) N _ (by omega) (by omega) (hf.tr (((z_fx.sI ⟨rfl, Or.inr (by omega)⟩).tr (z_fx.sI ⟨rfl, Or.inr (by omega)⟩)).tr (z_fx.sI ⟨rfl, Or.inr (by omega)⟩))) h29 h30 (fun b' hb' => ?_)
    by_cases e : b' = b
    · subst e
      have e39 := hf.i (t := 39) (i := 0) (k := b') (by unfold z_Psv; omega)
      have e40 := hf.i (t := 40) (i := 0) (k := b') (by unfold z_Psv; omega)
      have e41 := hf.i (t := 41) (i := 0) (k := b') (by unfold z_Psv; omega)
      simp [z_sI1, e39, e40, e41]
    · have := hk b' (by omega)
      simp [z_sI1, e, this]
theorem s_save (d : Nat) (S : z_Mem) : z_wp (z_exe z_mt true (d + 1) 180 [.inr (.inr (12, 0))] S) (fun q S' => q = none ∧ z_sav S S') := by
  have e : z_exe z_mt true (d + 1) 180 [.inr (.inr (12, 0))] S = _ := (zx_X12_save d S 0).trans (ze_X12_save_0 _ _ _ _)
  rw [e]
  refine l_save _ S 6 0 999999 _ (by omega) (by omega) ?_ rfl ⟨rfl, rfl, rfl, rfl⟩ (fun b' hb' => by omega)
  exact ((((z_fx.sI ⟨rfl, Or.inl (by omega)⟩).tr (z_fx.sI ⟨rfl, Or.inl (by omega)⟩)).tr (z_fx.sI ⟨rfl, Or.inl (by omega)⟩)).tr (z_fx.sI ⟨rfl, Or.inl (by omega)⟩)).tr (z_fx.sI ⟨rfl, Or.inl (by omega)⟩)
theorem l_putBack (ex : z_Ex) (S0 : z_Mem) : ∀ (m b N : Nat) (S : z_Mem), b + m = 6 → m < N → z_fx z_Ppb S0 S → S.1 12 0 29 = 9999 → (S.1 12 0 1 = S0.1 12 0 30 ∧ S.1 12 0 2 = S0.1 12 0 31 ∧ S.1 12 0 3 = S0.1 12 0 32 ∧ S.1 12 0 4 = S0.1 12 0 33) → (∀ b', b' < b → S.1 39 0 b' = S0.1 53 0 b' ∧ S.1 40 0 b' = S0.1 54 0 b' ∧ S.1 41 0 b' = S0.1 55 0 b') →
    z_wp (zr_X12_putBack ex N 41 [some (.inr (.inr (12, 0))), some (.inl (nI b))] [] S) (fun q S' => q = none ∧ z_rbk S0 S') := by
  intro m
  induction m with
  | zero =>
    intro b N S hb hN hf h29 h30 hk
    obtain ⟨N, rfl⟩ : ∃ N', N = N' + 1 := ⟨N - 1, by omega⟩
    rw [ze_X12_putBack_41, if_pos (by rw [show (6 : Int32) = nI 6 from rfl, z_le (by omega) (by omega)]; omega)]
    exact z_wp_ret ⟨rfl, hf, h29, h30, fun b' hb' => hk b' (by omega)⟩
  | succ m ih =>
    intro b N S hb hN hf h29 h30 hk
    obtain ⟨N, rfl⟩ : ∃ N', N = N' + 1 := ⟨N - 1, by omega⟩
    rw [ze_X12_putBack_41, if_neg (by rw [show (6 : Int32) = nI 6 from rfl, z_le (by omega) (by omega)]; omega), z_oob_n (k := b) (by omega) (by omega), z_cl (k := b) (by omega)]
    dsimp only [cond]
    rw [nI_1]
    refine ih (b + 1) N _ (by omega) (by omega) (hf.tr (((z_fx.sI ⟨rfl, Or.inr (by omega)⟩).tr (z_fx.sI ⟨rfl, Or.inr (by omega)⟩)).tr (z_fx.sI ⟨rfl, Or.inr (by omega)⟩))) h29 h30 (fun b' hb' => ?_)
    by_cases e : b' = b
    · subst e
      have e39 := hf.i (t := 53) (i := 0) (k := b') (by unfold z_Ppb; omega)
      have e40 := hf.i (t := 54) (i := 0) (k := b') (by unfold z_Ppb; omega)
      have e41 := hf.i (t := 55) (i := 0) (k := b') (by unfold z_Ppb; omega)
      simp [z_sI1, e39, e40, e41]
    · have := hk b' (by omega)
      simp [z_sI1, e, this]
theorem s_putBack (d : Nat) (S : z_Mem) : z_wp (z_exe z_mt true (d + 1) 181 [.inr (.inr (12, 0))] S) (fun q S' => q = none ∧ z_rbk S S') := by
  have e : z_exe z_mt true (d + 1) 181 [.inr (.inr (12, 0))] S = _ := (zx_X12_putBack d S 0).trans (ze_X12_putBack_0 _ _ _ _)
  rw [e]
  refine l_putBack _ S 6 0 999999 _ (by omega) (by omega) ?_ rfl ⟨rfl, rfl, rfl, rfl⟩ (fun b' hb' => by omega)
  exact ((((z_fx.sI ⟨rfl, Or.inl (by omega)⟩).tr (z_fx.sI ⟨rfl, Or.inl (by omega)⟩)).tr (z_fx.sI ⟨rfl, Or.inl (by omega)⟩)).tr (z_fx.sI ⟨rfl, Or.inl (by omega)⟩)).tr (z_fx.sI ⟨rfl, Or.inl (by omega)⟩)
/-- saved, tried, put back: only scratch is otherwise -/
theorem z_back {S S1 S2 S3 : z_Mem} (h29 : S.1 12 0 29 = 9999) (hs : z_sav S S1) (hr : z_fx z_Prn S1 S2) (hp : z_rbk S2 S3) : z_fx z_Psc S S3 := by
  obtain ⟨s1, s2, ⟨s3, s4, s5, s6⟩, s7⟩ := hs
  obtain ⟨p1, p2, ⟨p3, p4, p5, p6⟩, p7⟩ := hp
  have hlr : ∀ t i k, ¬ z_LR t → S3.2.1 t i k = S.2.1 t i k ∧ S3.2.2.1 t i k = S.2.2.1 t i k := fun t i k h =>
    ⟨((p1.2.2 t i k h).1.trans (hr.2.2 t i k h).1).trans (s1.2.2 t i k h).1, ((p1.2.2 t i k h).2.trans (hr.2.2 t i k h).2).trans (s1.2.2 t i k h).2⟩
  refine ⟨fun t i k hn => ⟨?_, ?_, ?_⟩, (p1.2.1.trans hr.2.1).trans s1.2.1, hlr⟩
  · have hn' : ¬ z_Psc t i k := hn
    unfold z_Psc at hn'
    by_cases q : z_Ppb t i k
    · have q' := q
      unfold z_Ppb at q'
      obtain ⟨q0, q1 | q1⟩ := q'
      · subst q0
        obtain ⟨rfl, q1⟩ := q1
        have hq : k = 29 ∨ k = 1 ∨ k = 2 ∨ k = 3 ∨ k = 4 := by omega
        rcases hq with rfl | rfl | rfl | rfl | rfl
        · rw [p2, h29]
        · rw [p3, hr.i (by unfold z_Prn; omega), s3]
        · rw [p4, hr.i (by unfold z_Prn; omega), s4]
        · rw [p5, hr.i (by unfold z_Prn; omega), s5]
        · rw [p6, hr.i (by unfold z_Prn; omega), s6]
      · subst q0
        obtain ⟨q1, q2, q3⟩ := q1
        obtain ⟨a1, a2, a3⟩ := p7 k q3
        obtain ⟨c1, c2, c3⟩ := s7 k q3
        have hq : t = 39 ∨ t = 40 ∨ t = 41 := by omega
        rcases hq with rfl | rfl | rfl
        · rw [a1, hr.i (by unfold z_Prn; omega), c1]
        · rw [a2, hr.i (by unfold z_Prn; omega), c2]
        · rw [a3, hr.i (by unfold z_Prn; omega), c3]
    · have q' := q
      unfold z_Ppb at q'
      rw [p1.i q, hr.i (by unfold z_Prn; omega), s1.i (by unfold z_Psv; omega)]
  · by_cases q : z_LR t
    · unfold z_LR at q
      rw [p1.l (by unfold z_Ppb; omega), hr.l (by unfold z_Prn; omega), s1.l (by unfold z_Psv; omega)]
    · exact (hlr t i k q).1
  · by_cases q : z_LR t
    · unfold z_LR at q
      rw [p1.r (by unfold z_Ppb; omega), hr.r (by unfold z_Prn; omega), s1.r (by unfold z_Psv; omega)]
    · exact (hlr t i k q).2
