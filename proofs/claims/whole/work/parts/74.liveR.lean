/-! ===== the text: the model reads ===== -/
def z_opn : List Nat → Nat
  | [] => 0
  | x :: r => z_opn r + (if x = 33 ∨ x = 40 then 1 else 0)
def z_wst : List Nat → z_Mem → Prop
  | [], _ => True
  | x :: r, S => (x = 33 ∨ x = 40 ∨ x = 38 ∨ x = 124) ∧ S.1 50 0 r.length = nI x ∧ z_wst r S
theorem z_wst_cg {S S' : z_Mem} : ∀ {W : List Nat}, z_wst W S → (∀ k, k < W.length → S'.1 50 0 k = S.1 50 0 k) → z_wst W S'
  | [], _, _ => trivial
  | x :: r, h, e => ⟨h.1, (e r.length (Nat.lt_succ_self _)).trans h.2.1, z_wst_cg h.2.2 (fun k hk => e k (Nat.lt_succ_of_lt hk))⟩
theorem z_opn_le : ∀ W : List Nat, z_opn W ≤ W.length
  | [] => Nat.le_refl _
  | x :: r => by
    have := z_opn_le r
    show z_opn r + (if x = 33 ∨ x = 40 then 1 else 0) ≤ r.length + 1
    by_cases h : x = 33 ∨ x = 40
    · rw [if_pos h]; omega
    · rw [if_neg h]; omega
def z_fW : List Nat → List Nat
  | [] => []
  | x :: r => if x = 33 then z_fW r else x :: r
def z_fNs : List Nat → List z_Tk
  | [] => []
  | x :: r => if x = 33 then (1, 0) :: z_fNs r else []
def z_opt (x : Nat) : z_Tk := if x = 38 then (2, 0) else (3, 0)
def z_mx2 (c : Nat → Int32) (len : Nat) (S : z_Mem) : Prop := S.1 12 0 13 = nI len ∧ ∀ p, p < len → S.1 43 0 p = c p
/-- the model's reading stands at p, with the stack W, out said -/
def z_ms (len A p : Nat) (W : List Nat) (out : List z_Tk) (S : z_Mem) : Prop := (p ≤ len ∧ out.length + W.length ≤ p) ∧ S.1 12 0 14 = nI p ∧ S.1 12 0 25 = nI W.length ∧ z_wst W S ∧ S.1 12 0 26 = nI (z_opn W) ∧ S.1 12 0 24 = nI (A + out.length) ∧ z_tkl (S.1 49 0) z_ts A out
def z_Pme (A cI : Nat) (t i k : Nat) : Prop := i = 0 ∧ ((t = 12 ∧ (k = 14 ∨ k = 15 ∨ k = 24 ∨ k = 25 ∨ k = 26)) ∨ t = 50 ∨ (t = 49 ∧ A ≤ k) ∨ (t = 48 ∧ k = cI))
theorem z_mx2.fx {c : Nat → Int32} {len : Nat} {S S' : z_Mem} {P : Nat → Nat → Nat → Prop} (h : z_mx2 c len S) (hf : z_fx P S S') (h1 : ¬ P 12 0 13) (h2 : ∀ p, ¬ P 43 0 p) : z_mx2 c len S' := ⟨(hf.i h1).trans h.1, fun p hp => (hf.i (h2 p)).trans (h.2 p hp)⟩
theorem z_mx2.me {c : Nat → Int32} {len A cI : Nat} {S S' : z_Mem} (h : z_mx2 c len S) (hf : z_fx (z_Pme A cI) S S') : z_mx2 c len S' := h.fx hf (by unfold z_Pme; omega) (fun p => by unfold z_Pme; omega)
theorem s_next (d len p : Nat) (c : Nat → Int32) (S : z_Mem) (ht : z_tx len c) (hc : z_mx2 c len S) (hat : S.1 12 0 14 = nI p) (hp : p ≤ len) : z_exe z_mt true (d + 1) 143 [.inr (.inr (12, 0))] S = some (some (.inl (c p)), S) := by
  have e : z_exe z_mt true (d + 1) 143 [.inr (.inr (12, 0))] S = _ := (zx_X12_next d S 0).trans (ze_X12_next_0 _ _ _ _)
  have hl := ht.1
  rw [e, hc.1, hat]
  by_cases q : p < len
  · rw [if_neg (by rw [z_le (by omega) (by omega)]; omega), z_oob_n (k := p) (by omega) (by omega), z_cl (k := p) (by omega), hc.2 p q]
    rfl
  · rw [if_pos (by rw [z_le (by omega) (by omega)]; omega), ht.2.2 p (by omega)]
theorem s_takesT (d len p : Nat) (x : Int32) (c : Nat → Int32) (S : z_Mem) (ht : z_tx len c) (hc : z_mx2 c len S) (hat : S.1 12 0 14 = nI p) (hp : p ≤ len) (hx : c p = x) : z_exe z_mt true (d + 2) 145 [.inr (.inr (12, 0)), .inl x] S = some (some (.inl 1), z_sI S 12 0 14 (nI (p + 1))) := by
  have e : z_exe z_mt true (d + 2) 145 [.inr (.inr (12, 0)), .inl x] S = _ := (zx_X12_takes (d + 1) S 0 x).trans (ze_X12_takes_0 _ _ _ _ _)
  rw [e, s_next d len p c S ht hc hat hp, z_rI_s, if_pos hx, hat, nI_1]
theorem s_takesF (d len p : Nat) (x : Int32) (c : Nat → Int32) (S : z_Mem) (ht : z_tx len c) (hc : z_mx2 c len S) (hat : S.1 12 0 14 = nI p) (hp : p ≤ len) (hx : ¬ c p = x) : z_exe z_mt true (d + 2) 145 [.inr (.inr (12, 0)), .inl x] S = some (some (.inl 0), S) := by
  have e : z_exe z_mt true (d + 2) 145 [.inr (.inr (12, 0)), .inl x] S = _ := (zx_X12_takes (d + 1) S 0 x).trans (ze_X12_takes_0 _ _ _ _ _)
  rw [e, s_next d len p c S ht hc hat hp, z_rI_s, if_neg hx]
theorem z_dg_iff {len : Nat} {c : Nat → Int32} (ht : z_tx len c) (p : Nat) : (48 ≤ c p ∧ c p ≤ 57) ↔ ¬ z_dgv (c p) = 99 := by
  by_cases q : p < len
  · obtain ⟨x, hx, ex⟩ := ht.2.1 p q
    rw [ex, z_dv_is hx, show (48 : Int32) = nI 48 from rfl, show (57 : Int32) = nI 57 from rfl, z_le (by omega) (by omega), z_le (by omega) (by omega)]
    by_cases z : 48 ≤ x ∧ x ≤ 57
    · rw [if_pos z]; omega
    · rw [if_neg z]; omega
  · rw [ht.2.2 p (by omega)]; decide
theorem s_isDigit (d len p : Nat) (c : Nat → Int32) (S : z_Mem) (ht : z_tx len c) (hc : z_mx2 c len S) (hat : S.1 12 0 14 = nI p) (hp : p ≤ len) : z_exe z_mt true (d + 2) 147 [.inr (.inr (12, 0))] S = some (some (.inl (z_b1 (48 ≤ c p ∧ c p ≤ 57))), S) := by
  have e : z_exe z_mt true (d + 2) 147 [.inr (.inr (12, 0))] S = _ := (zx_X12_isDigit (d + 1) S 0).trans (ze_X12_isDigit_0 _ _ _ _)
  rw [e, s_next d len p c S ht hc hat hp, z_rI_s, s_in, z_rI_s, if_pos (z_b1_and _)]
theorem z_m14 (S : z_Mem) (x : Int32) : (z_sI S 12 0 14 x).1 12 0 14 = x := by rw [z_sI1, if_pos ⟨rfl, rfl, rfl⟩]
theorem s_mnum (d len p : Nat) (c : Nat → Int32) (S : z_Mem) (ht : z_tx len c) (hc : z_mx2 c len S) (hat : S.1 12 0 14 = nI p) (hp : p ≤ len) :
    ∃ S', z_exe z_mt true (d + 3) 148 [.inr (.inr (12, 0))] S = some (some (.inl (if (z_nm c p).1 = true then 1 else 0)), S') ∧ S'.1 12 0 14 = nI (z_nm c p).2.1 ∧ ((z_nm c p).1 = true → S'.1 12 0 15 = nI (z_nm c p).2.2) ∧ z_fx (fun t i k => t = 12 ∧ i = 0 ∧ (k = 14 ∨ k = 15)) S S' := by
  have e : z_exe z_mt true (d + 3) 148 [.inr (.inr (12, 0))] S = _ := (zx_X12_takesNumber (d + 2) S 0).trans (ze_X12_takesNumber_0 _ _ _ _)
  have hl := ht.1
  rw [e, s_isDigit d len p c S ht hc hat hp, z_rI_s]
  unfold z_nm
  by_cases h1 : z_dgv (c p) = 99
  · rw [if_pos h1, z_b1_F (fun z => (z_dg_iff ht p).mp z h1), if_pos rfl]
    exact ⟨S, rfl, hat, fun q => absurd q Bool.false_ne_true, z_fx.rf⟩
  rw [if_neg h1, z_b1_T ((z_dg_iff ht p).mpr h1), if_neg z_01n]
  obtain ⟨k1, k2, k3⟩ := z_dv_lt ht h1
  have f0 : z_fx (fun t i k => t = 12 ∧ i = 0 ∧ (k = 14 ∨ k = 15)) S (z_sI S 12 0 15 (nI 0)) := z_fx.sI ⟨rfl, rfl, Or.inr rfl⟩
  have hc0 := hc.fx f0 (by omega) (fun p => by omega)
  have hat0 : (z_sI S 12 0 15 (nI 0)).1 12 0 14 = nI p := by rw [z_sI1, if_neg (by omega)]; exact hat
  -- one digit
  have dig : ∀ (N j D p : Nat) (S : z_Mem), z_mx2 c len S → S.1 12 0 14 = nI p → p ≤ len → S.1 12 0 15 = nI D → j < 2 → D < 10 → ¬ z_dgv (c p) = 99 → ∃ S', zr_X12_takesNumber (z_exe z_mt true (d + 2)) (N + 1) 16 [some (.inr (.inr (12, 0))), some (.inl (nI j))] [] S = zr_X12_takesNumber (z_exe z_mt true (d + 2)) N 16 [some (.inr (.inr (12, 0))), some (.inl (nI (j + 1)))] [] S' ∧ S'.1 12 0 14 = nI (p + 1) ∧ S'.1 12 0 15 = nI (10 * D + z_dgv (c p)) ∧ z_fx (fun t i k => t = 12 ∧ i = 0 ∧ (k = 14 ∨ k = 15)) S S' := by
    intro N j D p S hc hat hp h15 hj hD hd
    obtain ⟨q1, q2, q3⟩ := z_dv_lt ht hd
    refine ⟨z_sI (z_sI S 12 0 15 (nI (10 * D + z_dgv (c p)))) 12 0 14 (nI (p + 1)), ?_, z_m14 _ _, ?_, (z_fx.sI ⟨rfl, rfl, Or.inr rfl⟩).tr (z_fx.sI ⟨rfl, rfl, Or.inl rfl⟩)⟩
    · rw [ze_X12_takesNumber_16, if_neg (by rw [show (2 : Int32) = nI 2 from rfl, z_le (by omega) (by omega)]; omega), s_isDigit d len p c S ht hc hat hp, z_rI_s, z_b1_T ((z_dg_iff ht p).mpr hd), if_neg z_01n, s_next (d + 1) len p c S ht hc hat hp, z_rI_s, h15]
      try dsimp only
      have e14 : ∀ x, (z_sI S 12 0 15 x).1 12 0 14 = nI p := fun x => by rw [z_sI1, if_neg (by omega)]; exact hat
      have e10 : (10 : Int32) * nI D + c p - 48 = nI (10 * D + z_dgv (c p)) := by
        have h1 : (10 : Int32) * nI D = nI (10 * D) := pk_mul 10 D
        have h2 : nI (10 * D + (48 + z_dgv (c p))) - 48 = nI (10 * D + (48 + z_dgv (c p)) - 48) := pk_sub (b := 48) (by omega)
        have h3 : (10 : Int32) * nI D + c p - 48 = nI (10 * D) + nI (48 + z_dgv (c p)) - 48 := by rw [h1, ← q3]
        rw [h3, nI_add, h2]
        congr 1
        omega
      rw [e10, e14, nI_1, nI_1]
    · rw [z_sI1, if_neg (by omega), z_sI1, if_pos ⟨rfl, rfl, rfl⟩]
  have stop : ∀ (N j : Nat) (p : Nat) (S : z_Mem), z_mx2 c len S → S.1 12 0 14 = nI p → p ≤ len → j ≤ 2 → (j < 2 → z_dgv (c p) = 99) → zr_X12_takesNumber (z_exe z_mt true (d + 2)) (N + 1) 16 [some (.inr (.inr (12, 0))), some (.inl (nI j))] [] S = some (some (.inl 1), S) := by
    intro N j p S hc hat hp hj hd
    rw [ze_X12_takesNumber_16]
    by_cases q : j < 2
    · rw [if_neg (by rw [show (2 : Int32) = nI 2 from rfl, z_le (by omega) (by omega)]; omega), s_isDigit d len p c S ht hc hat hp, z_rI_s, z_b1_F (fun z => (z_dg_iff ht p).mp z (hd q)), if_pos rfl]
    · rw [if_pos (by rw [show (2 : Int32) = nI 2 from rfl, z_le (by omega) (by omega)]; omega)]
  obtain ⟨S1, e1, a1, b1, f1⟩ := dig (999996 + 1 + 1) 0 0 p (z_sI S 12 0 15 (nI 0)) hc0 hat0 hp (by rw [z_sI1, if_pos ⟨rfl, rfl, rfl⟩]) (by omega) (by omega) h1
  have hc1 := hc0.fx f1 (by omega) (fun p => by omega)
  have e1' : zr_X12_takesNumber (z_exe z_mt true (d + 2)) 999999 16 [some (.inr (.inr (12, 0))), some (.inl (0 : Int32))] [] (z_sI S 12 0 15 (0 : Int32)) = _ := e1
  try dsimp only
  rw [e1']
  by_cases h2 : z_dgv (c (p + 1)) = 99
  · rw [if_pos h2]
    exact ⟨S1, stop (999996 + 1) 1 (p + 1) S1 hc1 a1 (by omega) (by omega) (fun _ => h2), a1, fun _ => by rw [b1]; congr 1; dsimp only; omega, f0.tr f1⟩
  · rw [if_neg h2]
    obtain ⟨S2, e2, a2, b2, f2⟩ := dig (999996 + 1) 1 (10 * 0 + z_dgv (c p)) (p + 1) S1 hc1 a1 (by omega) b1 (by omega) (by omega) h2
    have n1 := z_dv_lt ht h2
    refine ⟨S2, e2.trans (stop 999996 2 (p + 1 + 1) S2 (hc1.fx f2 (by omega) (fun p => by omega)) a2 (by omega) (by omega) (fun z => by omega)), a2, fun _ => by rw [b2]; congr 1; dsimp only; omega, (f0.tr f1).tr f2⟩
theorem s_emits (d G : Nat) (x : Int32) (S : z_Mem) (hG : S.1 12 0 24 = nI G) (h6 : G < 600) : z_exe z_mt true (d + 1) 149 [.inr (.inr (12, 0)), .inl x] S = some (none, z_sI (z_sI S 49 0 G x) 12 0 24 (nI (G + 1))) := by
  have e : z_exe z_mt true (d + 1) 149 [.inr (.inr (12, 0)), .inl x] S = _ := (zx_X12_emits d S 0 x).trans (ze_X12_emits_0 _ _ _ _ _)
  have g : (z_sI S 49 0 G x).1 12 0 24 = nI G := by rw [z_sI1, if_neg (by omega)]; exact hG
  rw [e, hG, z_oob_n (k := G) (by omega) (by omega), z_cl (k := G) (by omega)]
  simp only [z_cnf]
  rw [g, nI_1]
theorem z_tk_snoc {A G : Nat} {out : List z_Tk} {t : z_Tk} {S : z_Mem} {x y : Int32} (h : z_tkl (S.1 49 0) z_ts A out) (hG : G = A + out.length) (hx : x = z_ts t) : z_tkl ((z_sI (z_sI S 49 0 G x) 12 0 24 y).1 49 0) z_ts A (out ++ [t]) := by
  refine z_tkl_ap (z_tk_cg h (fun k hk => ?_)) (z_tk_1 ?_)
  · rw [z_sI1, if_neg (by omega), z_sI1, if_neg (by omega)]
  · rw [z_sI1, if_neg (by omega), z_sI1, if_pos ⟨rfl, rfl, hG.symm⟩]; exact hx
theorem z_emfx {A cI G : Nat} (hG : A ≤ G) (S : z_Mem) (x y : Int32) : z_fx (z_Pme A cI) S (z_sI (z_sI S 49 0 G x) 12 0 24 y) := (z_fx.sI ⟨rfl, Or.inr (Or.inr (Or.inl ⟨rfl, hG⟩))⟩).tr (z_fx.sI ⟨rfl, Or.inl ⟨rfl, by omega⟩⟩)
/-- whole: what waits for a whole part -/
theorem l_whole (d len A cI : Nat) (hl : len ≤ 100) (hA : A ≤ 500) (p : Nat) : ∀ (W : List Nat) (N : Nat) (out : List z_Tk) (S : z_Mem), W.length < N → z_ms len A p W out S →
    ∃ S', zr_X12_whole (z_exe z_mt true (d + 1)) N 0 [some (.inr (.inr (12, 0)))] [] S = some (none, S') ∧ z_ms len A p (z_fW W) (out ++ z_fNs W) S' ∧ z_fx (z_Pme A cI) S S' := by
  intro W
  induction W with
  | nil =>
    intro N out S hN hm
    obtain ⟨N, rfl⟩ : ∃ N', N = N' + 1 := ⟨N - 1, by omega⟩
    refine ⟨S, ?_, by rw [show out ++ z_fNs [] = out from List.append_nil _]; exact hm, z_fx.rf⟩
    rw [ze_X12_whole_0, hm.2.2.1, if_pos (by decide)]
  | cons x r ih =>
    intro N out S hN hm
    obtain ⟨N, rfl⟩ : ∃ N', N = N' + 1 := ⟨N - 1, by omega⟩
    obtain ⟨⟨m1, m2⟩, m3, m4, ⟨m5, m6, m7⟩, m8, m9, m10⟩ := hm
    have hrl : out.length + (r.length + 1) ≤ p := m2
    have hln : (x :: r).length = r.length + 1 := rfl
    have m4' : S.1 12 0 25 = nI (r.length + 1) := m4
    rw [ze_X12_whole_0, m4', if_neg (nI_nle (by omega) (by omega)), nI_pred, z_oob_n (k := r.length) (by omega) (by omega), z_cl (k := r.length) (by omega), m6]
    simp only [z_cnf]
    by_cases h : x = 33
    · subst h
      rw [if_pos (show nI 33 = (33 : Int32) from rfl), s_emits d (A + out.length) (-33) S m9 (by omega), z_rV_s]
      have g25 : (z_sI (z_sI S 49 0 (A + out.length) (-33)) 12 0 24 (nI (A + out.length + 1))).1 12 0 25 = nI (r.length + 1) := by rw [z_sI1, if_neg (by omega), z_sI1, if_neg (by omega)]; exact m4'
      have hop : z_opn (33 :: r) = z_opn r + 1 := by show z_opn r + (if 33 = 33 ∨ 33 = 40 then 1 else 0) = _; rw [if_pos (Or.inl rfl)]
      have g26 : (z_sI (z_sI (z_sI S 49 0 (A + out.length) (-33)) 12 0 24 (nI (A + out.length + 1))) 12 0 25 (nI r.length)).1 12 0 26 = nI (z_opn r + 1) := by rw [z_sI1, if_neg (by omega), z_sI1, if_neg (by omega), z_sI1, if_neg (by omega), m8, hop]
      rw [g25, nI_pred]
      try dsimp only
      rw [g26, nI_pred]
      have hf : z_fx (z_Pme A cI) S (z_sI (z_sI (z_sI (z_sI S 49 0 (A + out.length) (-33)) 12 0 24 (nI (A + out.length + 1))) 12 0 25 (nI r.length)) 12 0 26 (nI (z_opn r))) := ((z_emfx (by omega) S _ _).tr (z_fx.sI ⟨rfl, Or.inl ⟨rfl, by omega⟩⟩)).tr (z_fx.sI ⟨rfl, Or.inl ⟨rfl, by omega⟩⟩)
      obtain ⟨S', e1, h1, f1⟩ := ih N (out ++ [(1, 0)]) (z_sI (z_sI (z_sI (z_sI S 49 0 (A + out.length) (-33)) 12 0 24 (nI (A + out.length + 1))) 12 0 25 (nI r.length)) 12 0 26 (nI (z_opn r))) (by omega) ⟨⟨m1, by rw [List.length_append, List.length_singleton]; omega⟩, by
          rw [z_sI1, if_neg (by omega), z_sI1, if_neg (by omega), z_sI1, if_neg (by omega), z_sI1, if_neg (by omega)]; exact m3, by
          rw [z_sI1, if_neg (by omega), z_sI1, if_pos ⟨rfl, rfl, rfl⟩], z_wst_cg m7 (fun k hk => by
          rw [z_sI1, if_neg (by omega), z_sI1, if_neg (by omega), z_sI1, if_neg (by omega), z_sI1, if_neg (by omega)]), by
          rw [z_sI1, if_pos ⟨rfl, rfl, rfl⟩], by
          rw [z_sI1, if_neg (by omega), z_sI1, if_neg (by omega), z_sI1, if_pos ⟨rfl, rfl, rfl⟩, List.length_append, List.length_singleton]; rfl, z_tk_cg (z_tk_snoc (y := nI (A + out.length + 1)) m10 rfl (x := -33) (t := (1, 0)) rfl) (fun k hk => by
          rw [z_sI1, if_neg (by omega), z_sI1, if_neg (by omega)])⟩
      refine ⟨S', e1, ?_, hf.tr f1⟩
      rw [List.append_assoc] at h1
      exact h1
    · have hne : ¬ nI x = 33 := by
        rw [show (33 : Int32) = nI 33 from rfl, nI_eq (by omega) (by omega)]; exact h
      rw [if_neg hne]
      have hW : z_fW (x :: r) = x :: r := if_neg h
      have hN2 : z_fNs (x :: r) = [] := if_neg h
      rw [hW, hN2, List.append_nil]
      exact ⟨S, rfl, ⟨⟨m1, m2⟩, m3, m4, ⟨m5, m6, m7⟩, m8, m9, m10⟩, z_fx.rf⟩
theorem s_whole (d len A cI : Nat) (hl : len ≤ 100) (hA : A ≤ 500) (p : Nat) (W : List Nat) (out : List z_Tk) (S : z_Mem) (hm : z_ms len A p W out S) :
    ∃ S', z_exe z_mt true (d + 2) 150 [.inr (.inr (12, 0))] S = some (none, S') ∧ z_ms len A p (z_fW W) (out ++ z_fNs W) S' ∧ z_fx (z_Pme A cI) S S' := by
  have e : z_exe z_mt true (d + 2) 150 [.inr (.inr (12, 0))] S = _ := zx_X12_whole (d + 1) S 0
  rw [e]
  have := hm.1
  exact l_whole d len A cI hl hA p W 1000000 out S (by omega) hm
/-- settle: what binds no looser -/
def z_stop (v : Int32) : List Nat → Prop
  | [] => True
  | x :: _ => ¬ x = 38 ∧ (x = 124 → v = 38)
theorem l_settle (d len A cI : Nat) (hl : len ≤ 100) (hA : A ≤ 500) (p : Nat) (v : Int32) (W : List Nat) (hW : z_stop v W) : ∀ (pd : List Nat) (N : Nat) (out : List z_Tk) (S : z_Mem), pd.length < N → (∀ x, x ∈ pd → x = 38 ∨ x = 124 ∧ ¬ v = 38) → z_ms len A p (pd ++ W) out S →
    ∃ S', zr_X12_settle (z_exe z_mt true (d + 1)) N 0 [some (.inr (.inr (12, 0))), some (.inl v)] [] S = some (none, S') ∧ z_ms len A p W (out ++ pd.map z_opt) S' ∧ z_fx (z_Pme A cI) S S' := by
  intro pd
  induction pd with
  | nil =>
    intro N out S hN hpd hm
    obtain ⟨N, rfl⟩ : ∃ N', N = N' + 1 := ⟨N - 1, by omega⟩
    refine ⟨S, ?_, by rw [List.map_nil, List.append_nil]; exact hm, z_fx.rf⟩
    match W, hW, hm with
    | [], _, hm => rw [ze_X12_settle_0, hm.2.2.1, if_pos (by decide)]
    | x :: r, hW, hm =>
      obtain ⟨⟨m1, m2⟩, m3, m4, ⟨m5, m6, m7⟩, -⟩ := hm
      have hrl : out.length + (r.length + 1) ≤ p := m2
      have m4' : S.1 12 0 25 = nI (r.length + 1) := m4
      rw [ze_X12_settle_0, m4', if_neg (nI_nle (by omega) (by omega)), nI_pred, z_oob_n (k := r.length) (by omega) (by omega), z_cl (k := r.length) (by omega), m6]
      simp only [z_cnf]
      rw [if_neg (by rw [show (38 : Int32) = nI 38 from rfl, nI_eq (by omega) (by omega)]; exact hW.1)]
      by_cases h : x = 124
      · rw [if_pos (by rw [h]; rfl), if_pos (hW.2 h)]
      · rw [if_neg (by rw [show (124 : Int32) = nI 124 from rfl, nI_eq (by omega) (by omega)]; exact h)]
  | cons x r ih =>
    intro N out S hN hpd hm
    obtain ⟨N, rfl⟩ : ∃ N', N = N' + 1 := ⟨N - 1, by omega⟩
    obtain ⟨⟨m1, m2⟩, m3, m4, ⟨m5, m6, m7⟩, m8, m9, m10⟩ := hm
    have hrl : out.length + ((r ++ W).length + 1) ≤ p := m2
    have m4' : S.1 12 0 25 = nI ((r ++ W).length + 1) := m4
    have hx := hpd x List.mem_cons_self
    have hop : z_opn (x :: r ++ W) = z_opn (r ++ W) := by
      show z_opn (r ++ W) + (if x = 33 ∨ x = 40 then 1 else 0) = _
      rw [if_neg (by omega)]; rfl
    -- one comes off the stack
    have go : ∀ y : Int32, y = z_ts (z_opt x) → ∃ S', z_rV (z_exe z_mt true (d + 1) 149 [.inr (.inr (12, 0)), .inl y] (z_sI S 12 0 25 (nI (r ++ W).length))) (fun S2 => zr_X12_settle (z_exe z_mt true (d + 1)) N 0 [some (.inr (.inr (12, 0))), some (.inl v)] [] S2) = some (none, S') ∧ z_ms len A p W (out ++ (x :: r).map z_opt) S' ∧ z_fx (z_Pme A cI) S S' := by
      intro y hy
      rw [s_emits d (A + out.length) y _ (by rw [z_sI1, if_neg (by omega)]; exact m9) (by omega), z_rV_s]
      have hf : z_fx (z_Pme A cI) S (z_sI (z_sI (z_sI S 12 0 25 (nI (r ++ W).length)) 49 0 (A + out.length) y) 12 0 24 (nI (A + out.length + 1))) := (z_fx.sI ⟨rfl, Or.inl ⟨rfl, by omega⟩⟩).tr (z_emfx (by omega) _ _ _)
      obtain ⟨S', e1, h1, f1⟩ := ih N (out ++ [z_opt x]) (z_sI (z_sI (z_sI S 12 0 25 (nI (r ++ W).length)) 49 0 (A + out.length) y) 12 0 24 (nI (A + out.length + 1))) (by have : (x :: r).length = r.length + 1 := rfl; omega) (fun z hz => hpd z (List.mem_cons_of_mem _ hz)) ⟨⟨m1, by rw [List.length_append, List.length_singleton]; omega⟩, by
          rw [z_sI1, if_neg (by omega), z_sI1, if_neg (by omega), z_sI1, if_neg (by omega)]; exact m3, by
          rw [z_sI1, if_neg (by omega), z_sI1, if_neg (by omega), z_sI1, if_pos ⟨rfl, rfl, rfl⟩], z_wst_cg m7 (fun k hk => by
          rw [z_sI1, if_neg (by omega), z_sI1, if_neg (by omega), z_sI1, if_neg (by omega)]), by
          rw [z_sI1, if_neg (by omega), z_sI1, if_neg (by omega), z_sI1, if_neg (by omega), m8, hop], by
          rw [z_sI1, if_pos ⟨rfl, rfl, rfl⟩, List.length_append, List.length_singleton]; rfl, z_tk_snoc (z_tk_cg m10 (fun k hk => by rw [z_sI1, if_neg (by omega)])) rfl hy⟩
      refine ⟨S', e1, ?_, hf.tr f1⟩
      rw [List.append_assoc] at h1
      exact h1
    have g25 : (z_sI S 12 0 25 (nI (r ++ W).length)).1 12 0 25 = nI (r ++ W).length := by rw [z_sI1, if_pos ⟨rfl, rfl, rfl⟩]
    have g50 : (z_sI S 12 0 25 (nI (r ++ W).length)).1 50 0 (r ++ W).length = nI x := by rw [z_sI1, if_neg (by omega)]; exact m6
    rw [ze_X12_settle_0, m4', if_neg (nI_nle (by omega) (by omega)), nI_pred]
    try dsimp only
    rw [g25, z_oob_n (k := (r ++ W).length) (by omega) (by omega), z_cl (k := (r ++ W).length) (by omega), g50, show S.1 50 0 (r ++ W).length = nI x from m6]
    simp only [z_cnf]
    rcases hx with hx | ⟨hx, hv⟩
    · subst hx
      rw [if_pos (show nI 38 = (38 : Int32) from rfl)]
      exact go _ (by decide)
    · subst hx
      rw [if_neg (show ¬ nI 124 = (38 : Int32) by decide), if_pos (show nI 124 = (124 : Int32) from rfl), if_neg hv]
      exact go _ (by decide)
theorem s_settle (d len A cI : Nat) (hl : len ≤ 100) (hA : A ≤ 500) (p : Nat) (v : Int32) (W pd : List Nat) (out : List z_Tk) (S : z_Mem) (hW : z_stop v W) (hpd : ∀ x, x ∈ pd → x = 38 ∨ x = 124 ∧ ¬ v = 38) (hm : z_ms len A p (pd ++ W) out S) :
    ∃ S', z_exe z_mt true (d + 2) 151 [.inr (.inr (12, 0)), .inl v] S = some (none, S') ∧ z_ms len A p W (out ++ pd.map z_opt) S' ∧ z_fx (z_Pme A cI) S S' := by
  have e : z_exe z_mt true (d + 2) 151 [.inr (.inr (12, 0)), .inl v] S = _ := zx_X12_settle (d + 1) S 0 v
  rw [e]
  have h1 := hm.1
  rw [List.length_append] at h1
  exact l_settle d len A cI hl hA p v W hW pd 1000000 out S (by omega) hpd hm
