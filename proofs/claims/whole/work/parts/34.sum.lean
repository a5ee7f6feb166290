/-! ===== the model's hut, what it adds ===== -/
def z_ts (t : z_Tk) : Int32 := match t.1 with
  | 0 => nI (1000 * (t.2 / 300) + 100 * (t.2 / 100 % 3) + t.2 % 100)
  | 1 => -33
  | 2 => -38
  | _ => -124
def z_Hd (c0 : Nat) (H : z_H) (S : z_Mem) : Prop := ∀ j c, H[j]? = some c → S.1 45 0 (c0 + j) = nI c.1 ∧ S.1 46 0 (c0 + j) = nI c.2.1 ∧
  (c.1 < 2 → ∃ a : Nat, S.1 47 0 (c0 + j) = nI a ∧ S.1 48 0 (c0 + j) = nI (a + c.2.2.length) ∧ a + c.2.2.length ≤ 600 ∧ c.2.2.length ≤ 100 ∧ ∀ k t, c.2.2[k]? = some t → S.1 49 0 (a + k) = z_ts t)
/-- the model's hut in force is H, its clauses from c0 on -/
def z_Hu (c0 : Nat) (H : z_H) (S : z_Mem) : Prop := c0 + H.length ≤ 60 ∧ z_Hd c0 H S ∧ ((S.1 12 0 12 = -1 ∧ c0 = 0 ∧ H = []) ∨ (∃ m : Nat, m < 6 ∧ S.1 12 0 12 = nI m ∧ c0 = 10 * m ∧ S.1 44 0 m = nI H.length))
theorem s_begin (d c0 : Nat) (H : z_H) (S : z_Mem) (h : z_Hu c0 H S) : z_exe z_mt true (d + 1) 159 [.inr (.inr (12, 0))] S = some (some (.inl (nI c0)), S) := by
  show z_exe z_mt true (d + 1) 159 _ S = _
  rw [zx_X12_begin, ze_X12_begin_0]
  rcases h.2.2 with ⟨h1, h2, -⟩ | ⟨m, hm, h1, h2, -⟩
  · rw [h1, if_neg (by decide), h2]; rfl
  · rw [h1, if_pos (nI_pos' (by omega)), h2]
    rw [show (10 : Int32) * nI m = nI (10 * m) from pk_mul 10 m]
theorem s_behind (d c0 : Nat) (H : z_H) (S : z_Mem) (h : z_Hu c0 H S) : z_exe z_mt true (d + 1) 160 [.inr (.inr (12, 0))] S = some (some (.inl (nI (c0 + H.length))), S) := by
  show z_exe z_mt true (d + 1) 160 _ S = _
  rw [zx_X12_behind, ze_X12_behind_0]
  rcases h.2.2 with ⟨h1, h2, h3⟩ | ⟨m, hm, h1, h2, h3⟩
  · rw [h1, if_neg (by decide), h2, h3]; rfl
  · rw [h1, if_pos (nI_pos' (by omega)), z_oob_n (by omega) (by omega), z_cl (by omega), h3, h2]
    rw [show (10 : Int32) * nI m = nI (10 * m) from pk_mul 10 m, nI_add]
    rfl
theorem l_lastOf (d c0 w : Nat) (H : z_H) (S : z_Mem) (hw : w < 4) (hH : z_hwf H) (h : z_Hu c0 H S) : ∀ (R : z_H) (i N : Nat) (x : Int32), H.drop i = R → i + R.length = H.length → R.length < N →
    zr_X12_lastOf (z_exe z_mt true (d + 1)) N 8 [some (.inr (.inr (12, 0))), some (.inl (nI w)), none, some (.inl x), some (.inl (nI (c0 + i)))] [] S = some (some (.inl (z_last w R x)), S) := by
  have h60 := h.1
  intro R
  induction R with
  | nil =>
    intro i N x hd hi hN
    obtain ⟨N, rfl⟩ : ∃ N', N = N' + 1 := ⟨N - 1, by omega⟩
    have hi : i + 0 = H.length := hi
    rw [ze_X12_lastOf_8, s_behind d c0 H S h, z_rI_s, if_pos (by rw [z_le (by omega) (by omega)]; omega)]
    rfl
  | cons c R ih =>
    intro i N x hd hi hN
    obtain ⟨N, rfl⟩ : ∃ N', N = N' + 1 := ⟨N - 1, by omega⟩
    rw [List.length_cons] at hi hN
    have hc : H[i]? = some c := by
      have := List.getElem?_drop (xs := H) (i := i) (j := 0)
      rw [hd] at this
      exact this.symm
    have hR : H.drop (i + 1) = R := by
      rw [← List.drop_drop, hd]
      rfl
    obtain ⟨k1, k2, -⟩ := h.2.1 i c hc
    obtain ⟨w1, -, -⟩ := hH c (List.mem_of_getElem? hc)
    rw [ze_X12_lastOf_8, s_behind d c0 H S h, z_rI_s, if_neg (by rw [z_le (by omega) (by omega)]; omega), z_oob_n (by omega) (by omega), z_cl (by omega), k1, k2]
    dsimp only [cond]
    show _ = some (some (Sum.inl (z_last w R (if c.1 = w then nI c.2.1 else x))), S)
    by_cases q : c.1 = w
    · rw [if_pos (by rw [q]), if_pos q, nI_1]
      exact ih (i + 1) N _ hR (by omega) (by omega)
    · rw [if_neg (by rw [z_eq (by omega) (by omega)]; exact q), if_neg q, nI_1]
      exact ih (i + 1) N _ hR (by omega) (by omega)
theorem s_lastOf (d c0 w : Nat) (H : z_H) (S : z_Mem) (x : Int32) (hw : w < 4) (hH : z_hwf H) (h : z_Hu c0 H S) : z_exe z_mt true (d + 2) 161 [.inr (.inr (12, 0)), .inl (nI w), .inl x] S = some (some (.inl (z_last w H x)), S) := by
  have e : z_exe z_mt true (d + 2) 161 [.inr (.inr (12, 0)), .inl (nI w), .inl x] S = _ := (zx_X12_lastOf (d + 1) S 0 (nI w) x).trans (ze_X12_lastOf_0 _ _ _ _ _ _)
  have h60 := h.1
  rw [e, s_begin d c0 H S h, z_rI_s]
  exact l_lastOf d c0 w H S hw hH h H 0 _ x rfl (by omega) (by omega)
/-- the facts of the model's pair b at p -/
def z_Fm (S : z_Mem) (b : Nat) (p : Int32) : Nat → Int32 := z_Fc (nI b) p (S.1 37 0 b) (S.1 38 0 b) (S.1 39 0 b) (S.1 12 0 4)
theorem s_factOf (d f b : Nat) (p : Int32) (S : z_Mem) (hf : f < 6) (hb : b < 6) : z_exe z_mt true (d + 1) 162 [.inr (.inr (12, 0)), .inl (nI f), .inl (nI b), .inl p] S = some (some (.inl (z_Fm S b p f)), S) := by
  show z_exe z_mt true (d + 1) 162 _ S = _
  have n10 : ¬ (10 : Int32) = 0 := by decide
  rw [zx_X12_factOf, ze_X12_factOf_0, z_oob_n (by omega) (by omega), z_cl (by omega), if_neg n10]
  dsimp only [cond]
  match f, hf with
  | 0, _ => rw [if_pos (by decide)]; rfl
  | 1, _ => rw [if_neg (by decide), if_pos (by decide)]; rfl
  | 2, _ => rw [if_neg (by decide), if_neg (by decide), if_pos (by decide)]; rfl
  | 3, _ => rw [if_neg (by decide), if_neg (by decide), if_neg (by decide), if_pos (by decide)]; rfl
  | 4, _ => rw [if_neg (by decide), if_neg (by decide), if_neg (by decide), if_neg (by decide), if_pos (by decide)]; rfl
  | 5, _ => rw [if_neg (by decide), if_neg (by decide), if_neg (by decide), if_neg (by decide), if_neg (by decide), if_neg n10]; rfl
/-- the pile -/
def z_pl (S : z_Mem) : List Bool → Prop
  | [] => True
  | b :: r => S.1 52 0 r.length = (if b then 1 else 0) ∧ z_pl S r
def z_P52 (t _ _ : Nat) : Prop := t = 52
theorem z_pl_up {S : z_Mem} {i : Nat} {x : Int32} : ∀ {r : List Bool}, z_pl S r → r.length ≤ i → z_pl (z_sI S 52 0 i x) r
  | [], _, _ => trivial
  | b :: r, h, hi => by
    have hi : r.length + 1 ≤ i := hi
    refine ⟨?_, z_pl_up h.2 (by omega)⟩
    rw [z_sI1, if_neg (fun q => by have := q.2.2; omega)]
    exact h.1
theorem z_pl_at {S : z_Mem} {x : Int32} {b : Bool} {r : List Bool} (h : z_pl S r) (hx : x = (if b then 1 else 0)) : z_pl (z_sI S 52 0 r.length x) (b :: r) :=
  ⟨by rw [z_sI1, if_pos ⟨rfl, rfl, rfl⟩]; exact hx, z_pl_up h (Nat.le_refl _)⟩
theorem z_Fm_fx {S S' : z_Mem} (hf : z_fx z_P52 S S') (b : Nat) (p : Int32) : z_Fm S' b p = z_Fm S b p := by
  have e : ∀ t i k, t ≠ 52 → S'.1 t i k = S.1 t i k := fun t i k q => (hf.1 t i k q).1
  unfold z_Fm
  rw [e 37 0 b (by decide), e 38 0 b (by decide), e 39 0 b (by decide), e 12 0 4 (by decide)]
theorem lh_holds (d c b : Nat) (p : Int32) (hc : c < 60) (hb : b < 6) : ∀ (r : List z_Tk) (st : List Bool) (k N : Nat) (S : z_Mem), k + r.length ≤ 600 → S.1 48 0 c = nI (k + r.length) → (∀ j t, r[j]? = some t → S.1 49 0 (k + j) = z_ts t) → z_pl S st → z_wf r st.length 1 → st.length ≤ 11 → 3 * r.length + 1 < N →
    z_wp (zr_X12_holds (z_exe z_mt true (d + 1)) N 11 [some (.inr (.inr (12, 0))), some (.inl (nI c)), some (.inl (nI b)), some (.inl p), some (.inl (nI st.length)), some (.inl (nI k)), none, none, none] [] S)
      (fun q S' => q = some (.inl (z_b1 ((z_ev (z_Fm S b p) r st).head? = some true))) ∧ z_fx z_P52 S S') := by
  intro r
  induction r with
  | nil =>
    intro st k N S hk hto hs hpl hw hst hN
    obtain ⟨N, rfl⟩ : ∃ N', N = N' + 1 := ⟨N - 1, by omega⟩
    have hk : k + 0 ≤ 600 := hk
    have hto : S.1 48 0 c = nI (k + 0) := hto
    rw [ze_X12_holds_11, z_oob_n (by omega) (by omega), z_cl (by omega), hto]
    dsimp only [cond]
    rw [if_pos (by rw [z_le (by omega) (by omega)]; omega), show z_oob (0 : Int32) 100 = false by decide, show Int32.toNatClampNeg (0 : Int32) = 0 by decide]
    dsimp only [cond]
    have hw : st.length = 1 := hw
    match st, hw, hpl with
    | [a], _, hpl =>
      have h0 : S.1 52 0 0 = (if a then 1 else 0) := hpl.1
      rw [h0, if_pos (by cases a <;> decide)]
      refine z_wp_ret ⟨?_, z_fx.rf⟩
      show some (Sum.inl (if a then (1 : Int32) else 0)) = some (.inl (z_b1 (some a = some true)))
      unfold z_b1
      cases a <;> rfl
  | cons t r ih =>
    intro st k N S hk hto hs hpl hw hst hN
    rw [List.length_cons] at hk hto hN
    obtain ⟨N, rfl⟩ : ∃ N', N = N' + 3 := ⟨N - 3, by omega⟩
    have h0 : S.1 49 0 k = z_ts t := hs 0 t rfl
    have hgo : ∀ (S' : z_Mem) (st' : List Bool), z_fx z_P52 S S' → z_pl S' st' → z_ev1 (z_Fm S b p) t st = st' → z_wf r st'.length 1 → st'.length ≤ 11 →
        z_wp (zr_X12_holds (z_exe z_mt true (d + 1)) (N + 1) 247 [some (.inr (.inr (12, 0))), some (.inl (nI c)), some (.inl (nI b)), some (.inl p), some (.inl (nI st'.length)), some (.inl (nI k)), none, none, none] [] S')
          (fun q S' => q = some (.inl (z_b1 ((z_ev (z_Fm S b p) (t :: r) st).head? = some true))) ∧ z_fx z_P52 S S') := by
      intro S' st' hf hpl' he hw' hst'
      rw [ze_X12_holds_247, nI_1]
      have k1 := ih st' (k + 1) N S' (by omega) (by rw [(hf.1 48 0 c (by show ¬ 48 = 52; decide)).1, hto]; congr 1; omega) (fun j t' hj => by
        rw [(hf.1 49 0 (k + 1 + j) (by show ¬ 49 = 52; decide)).1, show k + 1 + j = k + (j + 1) by omega]
        exact hs (j + 1) t' hj) hpl' hw' hst' (by omega)
      refine z_wp_mono k1 (fun q S'' h => ⟨?_, hf.tr h.2⟩)
      rw [h.1, z_Fm_fx hf]
      show _ = some (Sum.inl (z_b1 ((z_ev (z_Fm S b p) r (z_ev1 (z_Fm S b p) t st)).head? = some true)))
      rw [he]
    rw [ze_X12_holds_11, z_oob_n (k := c) (by omega) (by omega), z_cl (k := c) (by omega), hto]
    dsimp only [cond]
    rw [if_neg (by rw [z_le (by omega) (by omega)]; omega), z_oob_n (k := k) (by omega) (by omega), z_cl (k := k) (by omega), h0]
    dsimp only [cond]
    obtain ⟨t1, t2⟩ := t
    rcases hw with ⟨ht, hc', hk', hw⟩ | ⟨ht, hk', hw⟩ | ⟨ht, hk', hw⟩ | ⟨ht, hk', hw⟩ <;> dsimp only at ht <;> subst ht
    · dsimp only at hc'
      have e1 : z_ts (0, t2) = nI (1000 * (t2 / 300) + 100 * (t2 / 100 % 3) + t2 % 100) := rfl
      have a1 : nI (1000 * (t2 / 300) + 100 * (t2 / 100 % 3) + t2 % 100) / 1000 = nI (t2 / 100 / 3) := by
        rw [show (1000 : Int32) = nI 1000 from rfl, pk_div (d := 1000) (by omega) (by omega) (by omega)]
        congr 1; omega
      have a2 : nI (1000 * (t2 / 300) + 100 * (t2 / 100 % 3) + t2 % 100) / 100 - nI (1000 * (t2 / 300) + 100 * (t2 / 100 % 3) + t2 % 100) / 100 / 10 * 10 = nI (t2 / 100 % 3) := by
        rw [show (100 : Int32) = nI 100 from rfl, pk_div (d := 100) (by omega) (by omega) (by omega), show (10 : Int32) = nI 10 from rfl, pk_rem (d := 10) (by omega) (by omega) (by omega)]
        congr 1; omega
      have a3 : nI (1000 * (t2 / 300) + 100 * (t2 / 100 % 3) + t2 % 100) - nI (1000 * (t2 / 300) + 100 * (t2 / 100 % 3) + t2 % 100) / 100 * 100 = nI (t2 % 100) := by
        rw [show (100 : Int32) = nI 100 from rfl, pk_rem (d := 100) (by omega) (by omega) (by omega)]
        congr 1; omega
      have n1000 : ¬ (1000 : Int32) = 0 := by decide
      have n100 : ¬ (100 : Int32) = 0 := by decide
      have n10 : ¬ (10 : Int32) = 0 := by decide
      have e2 : z_ev1 (z_Fm S b p) (0, t2) st = z_tst (z_Fm S b p) t2 :: st := rfl
      rw [e1, if_neg (by intro q; exact absurd (by rw [q]; decide : nI (1000 * (t2 / 300) + 100 * (t2 / 100 % 3) + t2 % 100) < 0) (nI_pos (by omega))), if_pos (nI_pos' (by omega)), ze_X12_holds_151, if_neg n1000, a1, s_factOf d (t2 / 100 / 3) b p S (by omega) hb, z_rI_s]
      rw [if_neg n100, if_neg n10, a2, if_neg n100, if_neg n100, if_neg n100, a3, z_oob_n (k := st.length) (by omega) (by omega), z_cl (k := st.length) (by omega), nI_1]
      dsimp only [cond]
      have hs3 : t2 / 100 % 3 = 0 ∨ t2 / 100 % 3 = 1 ∨ t2 / 100 % 3 = 2 := by omega
      have fin : ∀ (x : Int32) (bo : Bool), x = (if bo then 1 else 0) → z_tst (z_Fm S b p) t2 = bo → z_wp (zr_X12_holds (z_exe z_mt true (d + 1)) (N + 1) 247 [some (.inr (.inr (12, 0))), some (.inl (nI c)), some (.inl (nI b)), some (.inl p), some (.inl (nI (st.length + 1))), some (.inl (nI k)), none, none, none] [] (z_sI S 52 0 st.length x))
          (fun q S' => q = some (.inl (z_b1 ((z_ev (z_Fm S b p) ((0, t2) :: r) st).head? = some true))) ∧ z_fx z_P52 S S') := by
        intro x bo hx hbo
        exact hgo _ (bo :: st) (z_fx.sI rfl) (z_pl_at hpl hx) (by rw [e2, hbo]) hw (by show st.length + 1 ≤ 11; omega)
      have v1 : vp_nar .boolean (1 : Int32) = 1 := by decide
      have v0 : vp_nar .boolean (0 : Int32) = 0 := by decide
      rw [v1, v0]
      have hq : t2 / 100 / 3 < 6 := by omega
      have htst : z_tst (z_Fm S b p) t2 = cond (Nat.beq (t2 / 100 % 3) 0) (decide (z_Fm S b p (t2 / 100 / 3) < nI (t2 % 100))) (cond (Nat.beq (t2 / 100 % 3) 1) (decide (z_Fm S b p (t2 / 100 / 3) = nI (t2 % 100))) (decide (nI (t2 % 100) < z_Fm S b p (t2 / 100 / 3)))) := by
        unfold z_tst
        rw [if_pos hq]
      generalize z_Fm S b p (t2 / 100 / 3) = f at htst ⊢
      rcases hs3 with h3 | h3 | h3 <;> rw [h3] at htst ⊢
      · rw [if_pos (by decide)]
        by_cases q : nI (t2 % 100) ≤ f
        · rw [if_pos q]
          exact fin 0 false rfl (by rw [htst]; simp [Nat.beq, Int32.not_lt.mpr q])
        · rw [if_neg q]
          exact fin 1 true rfl (by rw [htst]; simp [Nat.beq, Int32.not_le.mp q])
      · rw [if_neg (by decide), if_pos (by decide)]
        by_cases q : f = nI (t2 % 100)
        · rw [if_pos q]
          exact fin 1 true rfl (by rw [htst]; simp [Nat.beq, q])
        · rw [if_neg q]
          exact fin 0 false rfl (by rw [htst]; simp [Nat.beq, q])
      · rw [if_neg (by decide), if_neg (by decide)]
        by_cases q : f ≤ nI (t2 % 100)
        · rw [if_pos q]
          exact fin 0 false rfl (by rw [htst]; simp [Nat.beq, Int32.not_lt.mpr q])
        · rw [if_neg q]
          exact fin 1 true rfl (by rw [htst]; simp [Nat.beq, Int32.not_le.mp q])
    · match st, hk', hpl, hst with
      | a :: r', hk', hpl, hst =>
        have e1 : z_ts (1, t2) = -33 := rfl
        have e2 : z_ev1 (z_Fm S b p) (1, t2) (a :: r') = (!a) :: r' := rfl
        have h1 : S.1 52 0 r'.length = (if a then 1 else 0) := hpl.1
        have hst' : r'.length + 1 ≤ 11 := hst
        rw [e1, if_pos rfl, ze_X12_holds_38, List.length_cons, nI_pred, z_oob_n (k := r'.length) (by omega) (by omega), z_cl (k := r'.length) (by omega), h1]
        dsimp only [cond]
        have fin : ∀ x : Int32, x = (if !a then 1 else 0) → _ := fun x hx => hgo (z_sI S 52 0 r'.length x) ((!a) :: r') (z_fx.sI rfl) (z_pl_at hpl.2 hx) e2 hw (by show r'.length + 1 ≤ 11; omega)
        cases a with
        | true => rw [if_neg (by decide)]; exact fin _ (by decide)
        | false => rw [if_pos (by decide)]; exact fin _ (by decide)
    · match st, hk', hpl, hst with
      | a :: b' :: r', hk', hpl, hst =>
        have e1 : z_ts (2, t2) = -38 := rfl
        have e2 : z_ev1 (z_Fm S b p) (2, t2) (a :: b' :: r') = (b' && a) :: r' := rfl
        have h1 : S.1 52 0 (r'.length + 1) = (if a then 1 else 0) := hpl.1
        have h2 : S.1 52 0 r'.length = (if b' then 1 else 0) := hpl.2.1
        have hst' : r'.length + 1 + 1 ≤ 11 := hst
        rw [e1, if_neg (by decide), if_neg (by decide), ze_X12_holds_72, List.length_cons, List.length_cons, pk_m1]
        dsimp only
        rw [nI_pred, if_pos rfl, z_oob_n (k := r'.length) (by omega) (by omega), z_cl (k := r'.length) (by omega), z_oob_n (k := r'.length + 1) (by omega) (by omega), z_cl (k := r'.length + 1) (by omega), h1, h2]
        dsimp only [cond]
        have fin : ∀ x : Int32, x = (if b' && a then 1 else 0) → _ := fun x hx => hgo (z_sI S 52 0 r'.length x) ((b' && a) :: r') (z_fx.sI rfl) (z_pl_at hpl.2.2 hx) e2 hw (by show r'.length + 1 ≤ 11; omega)
        cases b' with
        | true =>
          rw [if_neg (by decide)]
          cases a with
          | true => rw [if_neg (by decide)]; exact fin _ (by decide)
          | false => rw [if_pos (by decide)]; exact fin _ (by decide)
        | false => rw [if_pos (by decide)]; exact fin _ (by cases a <;> decide)
    · match st, hk', hpl, hst with
      | a :: b' :: r', hk', hpl, hst =>
        have e1 : z_ts (3, t2) = -124 := rfl
        have e2 : z_ev1 (z_Fm S b p) (3, t2) (a :: b' :: r') = (b' || a) :: r' := rfl
        have h1 : S.1 52 0 (r'.length + 1) = (if a then 1 else 0) := hpl.1
        have h2 : S.1 52 0 r'.length = (if b' then 1 else 0) := hpl.2.1
        have hst' : r'.length + 1 + 1 ≤ 11 := hst
        rw [e1, if_neg (by decide), if_neg (by decide), ze_X12_holds_72, List.length_cons, List.length_cons, pk_m1]
        dsimp only
        rw [nI_pred, if_neg (by decide), z_oob_n (k := r'.length) (by omega) (by omega), z_cl (k := r'.length) (by omega), z_oob_n (k := r'.length + 1) (by omega) (by omega), z_cl (k := r'.length + 1) (by omega), h1, h2]
        dsimp only [cond]
        have fin : ∀ x : Int32, x = (if b' || a then 1 else 0) → _ := fun x hx => hgo (z_sI S 52 0 r'.length x) ((b' || a) :: r') (z_fx.sI rfl) (z_pl_at hpl.2.2 hx) e2 hw (by show r'.length + 1 ≤ 11; omega)
        cases b' with
        | true => rw [if_neg (by decide)]; exact fin _ (by cases a <;> decide)
        | false =>
          rw [if_pos (by decide)]
          cases a with
          | true => rw [if_neg (by decide)]; exact fin _ (by decide)
          | false => rw [if_pos (by decide)]; exact fin _ (by decide)
theorem s_holds (d c b : Nat) (p : Int32) (toks : List z_Tk) (S : z_Mem) (hc : c < 60) (hb : b < 6) {a : Nat} (h1 : S.1 47 0 c = nI a) (h2 : S.1 48 0 c = nI (a + toks.length)) (h3 : a + toks.length ≤ 600) (h4 : toks.length ≤ 100) (h5 : ∀ k t, toks[k]? = some t → S.1 49 0 (a + k) = z_ts t) (hw : z_wf toks 0 1) :
    z_wp (z_exe z_mt true (d + 2) 163 [.inr (.inr (12, 0)), .inl (nI c), .inl (nI b), .inl p] S) (fun q S' => q = some (.inl (z_b1 ((z_ev (z_Fm S b p) toks []).head? = some true))) ∧ z_fx z_P52 S S') := by
  have e : z_exe z_mt true (d + 2) 163 [.inr (.inr (12, 0)), .inl (nI c), .inl (nI b), .inl p] S = _ := (zx_X12_holds (d + 1) S 0 (nI c) (nI b) p).trans (ze_X12_holds_0 _ _ _ _ _ _ _)
  rw [e, z_oob_n (k := c) (by omega) (by omega), z_cond_f, z_cl (k := c) (by omega), h1]
  dsimp only
  have hN : 3 * toks.length + 1 < 999999 := Nat.lt_of_le_of_lt (show 3 * toks.length + 1 ≤ 301 by omega) (Nat.lt_of_sub_pos (by decide))
  have k := lh_holds d c b p hc hb toks [] a 999999 S h3 h2 h5 trivial hw (Nat.zero_le _) hN
  rw [show nI ([] : List Bool).length = (0 : Int32) from rfl] at k
  exact k
theorem z_Hd.fx52 {c0 : Nat} {H : z_H} {S S' : z_Mem} (h : z_Hd c0 H S) (hf : z_fx z_P52 S S') : z_Hd c0 H S' := by
  have e : ∀ t i k, t ≠ 52 → S'.1 t i k = S.1 t i k := fun t i k q => (hf.1 t i k q).1
  intro j c hj
  obtain ⟨h1, h2, h3⟩ := h j c hj
  refine ⟨(e 45 0 _ (by decide)).trans h1, (e 46 0 _ (by decide)).trans h2, fun q => ?_⟩
  obtain ⟨a, k1, k2, k3, k4, k5⟩ := h3 q
  exact ⟨a, (e 47 0 _ (by decide)).trans k1, (e 48 0 _ (by decide)).trans k2, k3, k4, fun k t ht => (e 49 0 _ (by decide)).trans (k5 k t ht)⟩
theorem z_Hu.fx52 {c0 : Nat} {H : z_H} {S S' : z_Mem} (h : z_Hu c0 H S) (hf : z_fx z_P52 S S') : z_Hu c0 H S' := by
  have e : ∀ t i k, t ≠ 52 → S'.1 t i k = S.1 t i k := fun t i k q => (hf.1 t i k q).1
  refine ⟨h.1, h.2.1.fx52 hf, ?_⟩
  rcases h.2.2 with ⟨h1, h2, h3⟩ | ⟨m, hm, h1, h2, h3⟩
  · exact Or.inl ⟨(e 12 0 12 (by decide)).trans h1, h2, h3⟩
  · exact Or.inr ⟨m, hm, (e 12 0 12 (by decide)).trans h1, h2, (e 44 0 m (by decide)).trans h3⟩
theorem lh_sum (d c0 b : Nat) (p : Int32) (H : z_H) (hb : b < 6) (hH : z_hwf H) : ∀ (R : z_H) (i N : Nat) (x : Int32) (S : z_Mem), z_Hu c0 H S → H.drop i = R → i + R.length = H.length → R.length < N →
    z_wp (zr_X12_sum (z_exe z_mt true (d + 2)) N 12 [some (.inr (.inr (12, 0))), some (.inl (nI b)), some (.inl p), some (.inl x), some (.inl (nI (c0 + i)))] [] S) (fun q S' => q = some (.inl (z_ext (z_Fm S b p) R x)) ∧ z_fx z_P52 S S') := by
  intro R
  induction R with
  | nil =>
    intro i N x S h hd hi hN
    have h60 := h.1
    obtain ⟨N, rfl⟩ : ∃ N', N = N' + 1 := ⟨N - 1, by omega⟩
    have hi : i + 0 = H.length := hi
    rw [ze_X12_sum_12, s_behind (d + 1) c0 H S h, z_rI_s, if_pos (by rw [z_le (by omega) (by omega)]; omega)]
    exact z_wp_ret ⟨rfl, z_fx.rf⟩
  | cons c R ih =>
    intro i N x S h hd hi hN
    have h60 := h.1
    obtain ⟨N, rfl⟩ : ∃ N', N = N' + 1 := ⟨N - 1, by omega⟩
    rw [List.length_cons] at hi hN
    have hc : H[i]? = some c := by
      have := List.getElem?_drop (xs := H) (i := i) (j := 0)
      rw [hd] at this
      exact this.symm
    have hR : H.drop (i + 1) = R := by
      rw [← List.drop_drop, hd]
      rfl
    obtain ⟨k1, k2, k3⟩ := h.2.1 i c hc
    obtain ⟨w1, w2, w3⟩ := hH c (List.mem_of_getElem? hc)
    rw [ze_X12_sum_12, s_behind (d + 1) c0 H S h, z_rI_s, if_neg (by rw [z_le (by omega) (by omega)]; omega), z_oob_n (k := c0 + i) (by omega) (by omega), z_cl (k := c0 + i) (by omega), k1]
    dsimp only [cond]
    have hx : z_ext (z_Fm S b p) (c :: R) x = z_ext (z_Fm S b p) R (z_ex1 (z_Fm S b p) c x) := rfl
    rw [hx]
    unfold z_ex1
    by_cases c2 : c.1 < 2
    · rw [if_neg (by rw [show (1 : Int32) = nI 1 from rfl, z_lt (by omega) (by omega)]; omega), if_pos c2]
      obtain ⟨a, a1, a2, a3, a4, a5⟩ := k3 c2
      refine z_wp_I (s_holds d (c0 + i) b p c.2.2 S (by omega) hb a1 a2 a3 a4 a5 (w3 c2)) (fun r S' hr => ⟨_, hr.1, ?_⟩)
      obtain ⟨-, hf⟩ := hr
      have e : ∀ t i k, t ≠ 52 → S'.1 t i k = S.1 t i k := fun t i k q => (hf.1 t i k q).1
      by_cases q : (z_ev (z_Fm S b p) c.2.2 []).head? = some true
      · rw [if_neg (fun z => (z_b1_0 _).mp z q), if_pos q, e 45 0 _ (by decide), e 46 0 _ (by decide), k1, k2]
        by_cases c0' : c.1 = 0
        · rw [if_pos (by rw [c0']; rfl), if_pos c0', nI_1]
          have k := ih (i + 1) N (x + nI c.2.1) S' (h.fx52 hf) hR (by omega) (by omega)
          rw [z_Fm_fx hf] at k
          exact z_wp_mono k (fun q S'' hq => ⟨hq.1, hf.tr hq.2⟩)
        · rw [if_neg (by rw [show (0 : Int32) = nI 0 from rfl, z_eq (by omega) (by omega)]; exact c0'), if_neg c0', nI_1]
          have k := ih (i + 1) N (x - nI c.2.1) S' (h.fx52 hf) hR (by omega) (by omega)
          rw [z_Fm_fx hf, Int32.sub_eq_add_neg] at k
          rw [Int32.sub_eq_add_neg]
          exact z_wp_mono k (fun q S'' hq => ⟨hq.1, hf.tr hq.2⟩)
      · rw [if_pos ((z_b1_0 _).mpr q), if_neg q, nI_1]
        have k := ih (i + 1) N x S' (h.fx52 hf) hR (by omega) (by omega)
        rw [z_Fm_fx hf] at k
        exact z_wp_mono k (fun q S'' hq => ⟨hq.1, hf.tr hq.2⟩)
    · rw [if_pos (by rw [show (1 : Int32) = nI 1 from rfl, z_lt (by omega) (by omega)]; omega), if_neg c2, nI_1]
      exact ih (i + 1) N x S h hR (by omega) (by omega)
theorem s_sum (d c0 b : Nat) (p : Int32) (H : z_H) (S : z_Mem) (hb : b < 6) (hH : z_hwf H) (h : z_Hu c0 H S) :
    z_wp (z_exe z_mt true (d + 3) 165 [.inr (.inr (12, 0)), .inl (nI b), .inl p] S) (fun q S' => q = some (.inl (z_mx (S.1 12 0 2 - 3 * p) + z_ext (z_Fm S b p) H 0)) ∧ z_fx z_P52 S S') := by
  have e : z_exe z_mt true (d + 3) 165 [.inr (.inr (12, 0)), .inl (nI b), .inl p] S = _ := (zx_X12_sum (d + 2) S 0 (nI b) p).trans (ze_X12_sum_0 _ _ _ _ _ _)
  have h60 := h.1
  rw [e, s_warm, z_rI_s, s_begin (d + 1) c0 H S h, z_rI_s, ← z_ext_add, Int32.add_zero]
  exact lh_sum d c0 b p H hb hH H 0 _ _ S h rfl (by omega) (by omega)
theorem s_plainDries (d c0 b : Nat) (p : Int32) (H : z_H) (S : z_Mem) (hb : b < 6) (hH : z_hwf H) (h : z_Hu c0 H S) (hh : ∃ k : Nat, k ≤ 20000 ∧ S.1 12 0 4 = nI k) :
    z_wp (z_exe z_mt true (d + 4) 166 [.inr (.inr (12, 0)), .inl (nI b), .inl p] S) (fun q S' => q = some (.inl (z_dr (S.1 37 0 b) (S.1 38 0 b) (S.1 39 0 b) (z_mx (S.1 12 0 2 - 3 * p) + z_ext (z_Fm S b p) H 0) (z_mx (S.1 12 0 2 - 3 * p)) (S.1 12 0 4) (S.1 42 0 (4 * b + (Int32.toNatClampNeg (S.1 12 0 4 - S.1 12 0 4 / 4 * 4)))))) ∧ z_fx z_P52 S S') := by
  have e : z_exe z_mt true (d + 4) 166 [.inr (.inr (12, 0)), .inl (nI b), .inl p] S = _ := (zx_X12_plainDries (d + 3) S 0 (nI b) p).trans (ze_X12_plainDries_0 _ _ _ _ _ _)
  rw [e]
  refine z_wp_I (s_sum d c0 b p H S hb hH h) (fun r S' hr => ⟨_, hr.1, ?_⟩)
  obtain ⟨-, hf⟩ := hr
  have k : ∀ t i k, t ≠ 52 → S'.1 t i k = S.1 t i k := fun t i k q => (hf.1 t i k q).1
  obtain ⟨hn, hn1, hn2⟩ := hh
  have h4 : S.1 12 0 4 - S.1 12 0 4 / 4 * 4 = nI (hn % 4) := by
    rw [hn2]
    exact pk_rem (d := 4) (by omega) (by omega) (by omega)
  have hix : (4 : Int32) * nI b + nI (hn % 4) = nI (4 * b + hn % 4) := by
    rw [show (4 : Int32) * nI b = nI (4 * b) from pk_mul 4 b, nI_add]
  rw [s_warm, z_rI_s, z_oob_n (k := b) (by omega) (by omega), z_cl (k := b) (by omega), k 39 0 b (by decide), k 38 0 b (by decide), k 37 0 b (by decide), k 12 0 2 (by decide), k 12 0 4 (by decide), if_neg z_n2, if_neg z_n4, h4, hix, z_oob_n (k := 4 * b + hn % 4) (by omega) (by omega), z_cl (k := 4 * b + hn % 4) (by omega), k 42 0 (4 * b + hn % 4) (by decide), z_cl (k := hn % 4) (by omega)]
  dsimp only [cond]
  generalize z_mx (S.1 12 0 2 - 3 * p) = w
  generalize w + z_ext (z_Fm S b p) H 0 = n
  unfold z_dr
  rw [h4]
  have hw : (w ≤ 8 ∧ ¬ 8 < w) ∨ (¬ w ≤ 8 ∧ 8 < w) := by
    by_cases q : w ≤ 8
    · exact Or.inl ⟨q, Int32.not_lt.mpr q⟩
    · exact Or.inr ⟨q, Int32.not_le.mp q⟩
  have h50 : (S.1 39 0 b < 50 ∧ ¬ 50 ≤ S.1 39 0 b) ∨ (¬ S.1 39 0 b < 50 ∧ 50 ≤ S.1 39 0 b) := by
    by_cases q : S.1 39 0 b < 50
    · exact Or.inl ⟨q, Int32.not_le.mpr q⟩
    · exact Or.inr ⟨q, Int32.not_lt.mp q⟩
  rcases hw with ⟨q1, q2⟩ | ⟨q1, q2⟩
  · rcases h50 with ⟨q3, q4⟩ | ⟨q3, q4⟩
    · simp only [if_pos q1, if_neg q2, if_pos q3, if_neg q4]
      by_cases c1 : S.1 37 0 b = 1
      · rw [if_pos c1, if_pos c1]; exact z_wp_ret ⟨rfl, hf⟩
      rw [if_neg c1, if_neg c1]
      by_cases c2 : S.1 37 0 b = 2
      · rw [if_pos c2, if_pos c2]; exact z_wp_ret ⟨rfl, hf⟩
      rw [if_neg c2, if_neg c2]
      by_cases c3 : S.1 37 0 b = 3
      · rw [if_pos c3, if_pos c3]; exact z_wp_ret ⟨rfl, hf⟩
      rw [if_neg c3, if_neg c3]
      by_cases c4 : S.1 37 0 b = 4
      · rw [if_pos c4, if_pos c4]
        by_cases c : nI (hn % 4) = 0
        · rw [if_pos c, if_pos c]; exact z_wp_ret ⟨rfl, hf⟩
        · rw [if_neg c, if_neg c, Int32.add_zero]; exact z_wp_ret ⟨rfl, hf⟩
      rw [if_neg c4, if_neg c4]
      by_cases c5 : S.1 37 0 b = 5
      · rw [if_pos c5, if_pos c5]
        by_cases c : S.1 38 0 b ≤ S.1 39 0 b
        · rw [if_pos c, if_pos c]; exact z_wp_ret ⟨rfl, hf⟩
        · rw [if_neg c, if_neg c]; exact z_wp_ret ⟨rfl, hf⟩
      rw [if_neg c5, if_neg c5]
      by_cases c6 : S.1 37 0 b = 6
      · rw [if_pos c6, if_pos c6]; exact z_wp_ret ⟨rfl, hf⟩
      rw [if_neg c6, if_neg c6]
      exact z_wp_ret ⟨rfl, hf⟩
    · simp only [if_pos q1, if_neg q2, if_neg q3, if_pos q4]
      by_cases c1 : S.1 37 0 b = 1
      · rw [if_pos c1, if_pos c1]; exact z_wp_ret ⟨rfl, hf⟩
      rw [if_neg c1, if_neg c1]
      by_cases c2 : S.1 37 0 b = 2
      · rw [if_pos c2, if_pos c2]; exact z_wp_ret ⟨rfl, hf⟩
      rw [if_neg c2, if_neg c2]
      by_cases c3 : S.1 37 0 b = 3
      · rw [if_pos c3, if_pos c3]; exact z_wp_ret ⟨rfl, hf⟩
      rw [if_neg c3, if_neg c3]
      by_cases c4 : S.1 37 0 b = 4
      · rw [if_pos c4, if_pos c4]
        by_cases c : nI (hn % 4) = 0
        · rw [if_pos c, if_pos c]; exact z_wp_ret ⟨rfl, hf⟩
        · rw [if_neg c, if_neg c, Int32.add_zero]; exact z_wp_ret ⟨rfl, hf⟩
      rw [if_neg c4, if_neg c4]
      by_cases c5 : S.1 37 0 b = 5
      · rw [if_pos c5, if_pos c5]
        by_cases c : S.1 38 0 b ≤ S.1 39 0 b
        · rw [if_pos c, if_pos c]; exact z_wp_ret ⟨rfl, hf⟩
        · rw [if_neg c, if_neg c]; exact z_wp_ret ⟨rfl, hf⟩
      rw [if_neg c5, if_neg c5]
      by_cases c6 : S.1 37 0 b = 6
      · rw [if_pos c6, if_pos c6]; exact z_wp_ret ⟨rfl, hf⟩
      rw [if_neg c6, if_neg c6]
      exact z_wp_ret ⟨rfl, hf⟩
  · rcases h50 with ⟨q3, q4⟩ | ⟨q3, q4⟩
    · simp only [if_neg q1, if_pos q2, if_pos q3, if_neg q4]
      by_cases c1 : S.1 37 0 b = 1
      · rw [if_pos c1, if_pos c1]; exact z_wp_ret ⟨rfl, hf⟩
      rw [if_neg c1, if_neg c1]
      by_cases c2 : S.1 37 0 b = 2
      · rw [if_pos c2, if_pos c2]; exact z_wp_ret ⟨rfl, hf⟩
      rw [if_neg c2, if_neg c2]
      by_cases c3 : S.1 37 0 b = 3
      · rw [if_pos c3, if_pos c3]; exact z_wp_ret ⟨rfl, hf⟩
      rw [if_neg c3, if_neg c3]
      by_cases c4 : S.1 37 0 b = 4
      · rw [if_pos c4, if_pos c4]
        by_cases c : nI (hn % 4) = 0
        · rw [if_pos c, if_pos c]; exact z_wp_ret ⟨rfl, hf⟩
        · rw [if_neg c, if_neg c, Int32.add_zero]; exact z_wp_ret ⟨rfl, hf⟩
      rw [if_neg c4, if_neg c4]
      by_cases c5 : S.1 37 0 b = 5
      · rw [if_pos c5, if_pos c5]
        by_cases c : S.1 38 0 b ≤ S.1 39 0 b
        · rw [if_pos c, if_pos c]; exact z_wp_ret ⟨rfl, hf⟩
        · rw [if_neg c, if_neg c]; exact z_wp_ret ⟨rfl, hf⟩
      rw [if_neg c5, if_neg c5]
      by_cases c6 : S.1 37 0 b = 6
      · rw [if_pos c6, if_pos c6]; exact z_wp_ret ⟨rfl, hf⟩
      rw [if_neg c6, if_neg c6]
      exact z_wp_ret ⟨rfl, hf⟩
    · simp only [if_neg q1, if_pos q2, if_neg q3, if_pos q4]
      by_cases c1 : S.1 37 0 b = 1
      · rw [if_pos c1, if_pos c1]; exact z_wp_ret ⟨rfl, hf⟩
      rw [if_neg c1, if_neg c1]
      by_cases c2 : S.1 37 0 b = 2
      · rw [if_pos c2, if_pos c2]; exact z_wp_ret ⟨rfl, hf⟩
      rw [if_neg c2, if_neg c2]
      by_cases c3 : S.1 37 0 b = 3
      · rw [if_pos c3, if_pos c3]; exact z_wp_ret ⟨rfl, hf⟩
      rw [if_neg c3, if_neg c3]
      by_cases c4 : S.1 37 0 b = 4
      · rw [if_pos c4, if_pos c4]
        by_cases c : nI (hn % 4) = 0
        · rw [if_pos c, if_pos c]; exact z_wp_ret ⟨rfl, hf⟩
        · rw [if_neg c, if_neg c, Int32.add_zero]; exact z_wp_ret ⟨rfl, hf⟩
      rw [if_neg c4, if_neg c4]
      by_cases c5 : S.1 37 0 b = 5
      · rw [if_pos c5, if_pos c5]
        by_cases c : S.1 38 0 b ≤ S.1 39 0 b
        · rw [if_pos c, if_pos c]; exact z_wp_ret ⟨rfl, hf⟩
        · rw [if_neg c, if_neg c]; exact z_wp_ret ⟨rfl, hf⟩
      rw [if_neg c5, if_neg c5]
      by_cases c6 : S.1 37 0 b = 6
      · rw [if_pos c6, if_pos c6]; exact z_wp_ret ⟨rfl, hf⟩
      rw [if_neg c6, if_neg c6]
      exact z_wp_ret ⟨rfl, hf⟩
theorem s_dries (d c0 b : Nat) (p : Int32) (H : z_H) (S : z_Mem) (hb : b < 6) (hH : z_hwf H) (h : z_Hu c0 H S) (hh : ∃ k : Nat, k ≤ 20000 ∧ S.1 12 0 4 = nI k) :
    z_wp (z_exe z_mt true (d + 5) 167 [.inr (.inr (12, 0)), .inl (nI b), .inl p] S) (fun q S' => q = some (.inl (z_mx (z_dr (S.1 37 0 b) (S.1 38 0 b) (S.1 39 0 b) (z_mx (S.1 12 0 2 - 3 * p) + z_ext (z_Fm S b p) H 0) (z_mx (S.1 12 0 2 - 3 * p)) (S.1 12 0 4) (S.1 42 0 (4 * b + (Int32.toNatClampNeg (S.1 12 0 4 - S.1 12 0 4 / 4 * 4))))))) ∧ z_fx z_P52 S S') := by
  have e : z_exe z_mt true (d + 5) 167 [.inr (.inr (12, 0)), .inl (nI b), .inl p] S = _ := (zx_X12_dries (d + 4) S 0 (nI b) p).trans (ze_X12_dries_0 _ _ _ _ _ _)
  rw [e]
  refine z_wp_I (s_plainDries d c0 b p H S hb hH h hh) (fun r S' hr => ⟨_, hr.1, ?_⟩)
  rw [s_atLeast0, z_rI_s]
  exact z_wp_ret ⟨rfl, hr.2⟩
theorem s_mspoils (d b : Nat) (S : z_Mem) (hb : b < 6) : ∃ x : Int32, z_exe z_mt true (d + 3) 168 [.inr (.inr (12, 0)), .inl (nI b)] S = some (some (.inl x), S) ∧ ((x = 1 ∧ z_sp (S.1 37 0 b) (S.1 38 0 b) (z_mx (S.1 12 0 2 - 3 * S.1 40 0 b))) ∨ (x = 0 ∧ ¬ z_sp (S.1 37 0 b) (S.1 38 0 b) (z_mx (S.1 12 0 2 - 3 * S.1 40 0 b)))) := by
  have e : z_exe z_mt true (d + 3) 168 [.inr (.inr (12, 0)), .inl (nI b)] S = _ := (zx_X12_spoils (d + 2) S 0 (nI b)).trans (ze_X12_spoils_0 _ _ _ _ _)
  rw [e, s_warm, z_oob_n (k := b) (by omega) (by omega), z_cl (k := b) (by omega), z_rI_s, z_rI_s]
  dsimp only [cond]
  generalize z_mx (S.1 12 0 2 - 3 * S.1 40 0 b) = w
  unfold z_sp
  by_cases h1 : S.1 37 0 b = 1
  · rw [if_pos h1]
    have h4 : ¬ S.1 37 0 b = 4 := by rw [h1]; decide
    by_cases h8 : w ≤ 8
    · rw [if_pos h8]
      exact ⟨0, rfl, Or.inr ⟨rfl, fun q => q.elim (fun q => Int32.not_lt.mpr h8 q.2) (fun q => h4 q.1)⟩⟩
    · rw [if_neg h8]
      exact ⟨1, rfl, Or.inl ⟨rfl, Or.inl ⟨h1, Int32.not_le.mp h8⟩⟩⟩
  · rw [if_neg h1]
    by_cases h4 : S.1 37 0 b = 4
    · rw [if_pos h4]
      by_cases hw : w ≤ 8 + S.1 38 0 b
      · rw [if_pos hw]
        exact ⟨0, rfl, Or.inr ⟨rfl, fun q => q.elim (fun q => h1 q.1) (fun q => Int32.not_lt.mpr hw q.2)⟩⟩
      · rw [if_neg hw]
        exact ⟨1, rfl, Or.inl ⟨rfl, Or.inr ⟨h4, Int32.not_le.mp hw⟩⟩⟩
    · rw [if_neg h4]
      exact ⟨0, rfl, Or.inr ⟨rfl, fun q => q.elim (fun q => h1 q.1) (fun q => h4 q.1)⟩⟩
