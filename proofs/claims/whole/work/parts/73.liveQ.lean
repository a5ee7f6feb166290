/-! ===== the text: the class reads ===== -/
def z_tkl (f : Nat → Int32) (e : z_Tk → Int32) (a : Nat) (ts : List z_Tk) : Prop := ∀ k t, ts[k]? = some t → f (a + k) = e t
theorem z_tkl_ap {f : Nat → Int32} {e : z_Tk → Int32} {a : Nat} {x y : List z_Tk} (h1 : z_tkl f e a x) (h2 : z_tkl f e (a + x.length) y) : z_tkl f e a (x ++ y) := by
  intro k t hk
  by_cases q : k < x.length
  · rw [List.getElem?_append_left q] at hk
    exact h1 k t hk
  · rw [List.getElem?_append_right (by omega)] at hk
    have := h2 (k - x.length) t hk
    rw [show a + x.length + (k - x.length) = a + k by omega] at this
    exact this
theorem z_tk_cg {f f' : Nat → Int32} {e : z_Tk → Int32} {a : Nat} {x : List z_Tk} (h : z_tkl f e a x) (hc : ∀ k, k < x.length → f' (a + k) = f (a + k)) : z_tkl f' e a x := fun k t hk => (hc k (List.getElem?_eq_some_iff.mp hk).1).trans (h k t hk)
theorem z_tk_1 {f : Nat → Int32} {e : z_Tk → Int32} {a : Nat} {t : z_Tk} (h : f a = e t) : z_tkl f e a [t] := by
  intro k t' hk
  match k, hk with
  | 0, hk =>
    have : t = t' := Option.some.inj hk
    rw [← this]; exact h
theorem z_tk_0 {f : Nat → Int32} {e : z_Tk → Int32} {a : Nat} : z_tkl f e a [] := by
  intro k t hk
  simp at hk
def z_cx (c : Nat → Int32) (len h : Nat) (S : z_Mem) : Prop := S.1 5 0 1 = nI len ∧ (∀ p, p < len → S.1 25 0 p = c p) ∧ (S.2.2.1 5 0 3).2 = h
def z_Prd (h : Nat) (t i k : Nat) : Prop := (t = 5 ∧ i = 0 ∧ k = 2) ∨ (t = 4 ∧ i = h ∧ k = 2) ∨ (t = 22 ∧ i = h)
theorem z_cx.fx {c : Nat → Int32} {len h : Nat} {S S' : z_Mem} {P : Nat → Nat → Nat → Prop} (hc : z_cx c len h S) (hf : z_fx P S S') (h1 : ¬ P 5 0 1) (h2 : ∀ p, ¬ P 25 0 p) (h3 : ¬ P 5 0 3) : z_cx c len h S' :=
  ⟨(hf.i h1).trans hc.1, fun p hp => (hf.i (h2 p)).trans (hc.2.1 p hp), by rw [hf.r h3]; exact hc.2.2⟩
theorem z_cx.rd {c : Nat → Int32} {len h : Nat} {S S' : z_Mem} (hc : z_cx c len h S) (hf : z_fx (z_Prd h) S S') : z_cx c len h S' := hc.fx hf (by unfold z_Prd; omega) (fun p => by unfold z_Prd; omega) (by unfold z_Prd; omega)
def z_cr (h L : Nat) (S : z_Mem) (r : z_R) (S' : z_Mem) : Prop := S'.1 5 0 2 = nI r.2.1 ∧ (r.1 = true → S'.1 4 h 2 = nI (L + r.2.2.length) ∧ z_tkl (S'.1 22 h) z_tc L r.2.2 ∧ ∀ k, k < L → S'.1 22 h k = S.1 22 h k) ∧ z_fx (z_Prd h) S S'
def z_sC (c : Nat → Int32) (len h D mid : Nat) (args : List z_AV) (g : Nat → z_R) : Prop := ∀ (p L : Nat) (S : z_Mem), z_cx c len h S → S.1 5 0 2 = nI p → p ≤ len → S.1 4 h 2 = nI L → L ≤ p → ∃ S', z_exe z_mt true D mid args S = some (some (.inl (if (g p).1 = true then 1 else 0)), S') ∧ z_cr h L S (g p) S'
theorem s_sign (d len h p : Nat) (c : Nat → Int32) (S : z_Mem) (ht : z_tx len c) (hc : z_cx c len h S) (hat : S.1 5 0 2 = nI p) (hp : p ≤ len) : z_exe z_mt true (d + 1) 39 [.inr (.inr (5, 0))] S = some (some (.inl (c p)), S) := by
  have e : z_exe z_mt true (d + 1) 39 [.inr (.inr (5, 0))] S = _ := (zx_X4_sign d S 0).trans (ze_X4_sign_0 _ _ _ _)
  have hl := ht.1
  rw [e, hc.1, hat]
  by_cases q : p < len
  · rw [if_neg (by rw [z_le (by omega) (by omega)]; omega), z_oob_n (k := p) (by omega) (by omega), z_cl (k := p) (by omega), hc.2.1 p q]
    rfl
  · rw [if_pos (by rw [z_le (by omega) (by omega)]; omega), ht.2.2 p (by omega)]
theorem s_skipT (d len h p : Nat) (x : Int32) (c : Nat → Int32) (S : z_Mem) (ht : z_tx len c) (hc : z_cx c len h S) (hat : S.1 5 0 2 = nI p) (hp : p ≤ len) (hx : c p = x) : z_exe z_mt true (d + 2) 40 [.inr (.inr (5, 0)), .inl x] S = some (some (.inl 1), z_sI S 5 0 2 (nI (p + 1))) := by
  have e : z_exe z_mt true (d + 2) 40 [.inr (.inr (5, 0)), .inl x] S = _ := (zx_X4_skip (d + 1) S 0 x).trans (ze_X4_skip_0 _ _ _ _ _)
  rw [e, s_sign d len h p c S ht hc hat hp, z_rI_s, if_pos hx, hat, nI_1]
theorem s_skipF (d len h p : Nat) (x : Int32) (c : Nat → Int32) (S : z_Mem) (ht : z_tx len c) (hc : z_cx c len h S) (hat : S.1 5 0 2 = nI p) (hp : p ≤ len) (hx : ¬ c p = x) : z_exe z_mt true (d + 2) 40 [.inr (.inr (5, 0)), .inl x] S = some (some (.inl 0), S) := by
  have e : z_exe z_mt true (d + 2) 40 [.inr (.inr (5, 0)), .inl x] S = _ := (zx_X4_skip (d + 1) S 0 x).trans (ze_X4_skip_0 _ _ _ _ _)
  rw [e, s_sign d len h p c S ht hc hat hp, z_rI_s, if_neg hx]
theorem z_fxat {h : Nat} (S : z_Mem) (x : Int32) : z_fx (z_Prd h) S (z_sI S 5 0 2 x) := z_fx.sI (Or.inl ⟨rfl, rfl, rfl⟩)
theorem z_at (S : z_Mem) (x : Int32) : (z_sI S 5 0 2 x).1 5 0 2 = x := by rw [z_sI1, if_pos ⟨rfl, rfl, rfl⟩]
/-- a digit, as the class sees it -/
theorem z_dv_cs {len : Nat} {c : Nat → Int32} (ht : z_tx len c) {p : Nat} (hp : p < len) : (z_dgv (c p) = 99 ∧ (c p - 48 < 0 ∨ ¬ c p - 48 < 0 ∧ ¬ c p - 48 ≤ 9)) ∨ (¬ z_dgv (c p) = 99 ∧ ¬ c p - 48 < 0 ∧ c p - 48 ≤ 9 ∧ c p - 48 = nI (z_dgv (c p))) := by
  obtain ⟨x, hx, ex⟩ := ht.2.1 p hp
  rw [ex, z_dv_is hx]
  by_cases q : 48 ≤ x ∧ x ≤ 57
  · rw [if_pos q]
    have e : nI x - 48 = nI (x - 48) := pk_sub (b := 48) q.1
    rw [e]
    exact Or.inr ⟨by omega, nI_pos (by omega), by rw [show (9 : Int32) = nI 9 from rfl, z_le (by omega) (by omega)]; omega, rfl⟩
  · rw [if_neg q]
    refine Or.inl ⟨rfl, ?_⟩
    by_cases q2 : x < 48
    · exact Or.inl (pk_sneg (b := 48) (by omega) q2)
    · have e : nI x - 48 = nI (x - 48) := pk_sub (b := 48) (by omega)
      rw [e]
      exact Or.inr ⟨nI_pos (by omega), by rw [show (9 : Int32) = nI 9 from rfl, z_le (by omega) (by omega)]; omega⟩
theorem l_numF (ex : z_Ex) (len h p N j : Nat) (v1 : Int32) (c : Nat → Int32) (S : z_Mem) (ht : z_tx len c) (hc : z_cx c len h S) (hat : S.1 5 0 2 = nI p) (hp : p ≤ len) (hj : j < 2) (hd : z_dgv (c p) = 99) : zr_X4_readNumber ex (N + 1) 4 [some (.inr (.inr (5, 0))), some (.inl v1), some (.inl (nI j)), none] [] S = some (some (.inl v1), S) := by
  have hl := ht.1
  rw [ze_X4_readNumber_4, if_neg (by rw [show (2 : Int32) = nI 2 from rfl, z_le (by omega) (by omega)]; omega), hc.1, hat]
  by_cases q : p < len
  · rw [if_neg (by rw [z_le (by omega) (by omega)]; omega), z_oob_n (k := p) (by omega) (by omega), z_cl (k := p) (by omega), hc.2.1 p q]
    simp only [z_cnf]
    rcases z_dv_cs ht q with ⟨-, z | ⟨z1, z2⟩⟩ | ⟨z, -⟩
    · rw [if_pos z]
    · rw [if_neg z1, if_neg z2]
    · exact absurd hd z
  · rw [if_pos (by rw [z_le (by omega) (by omega)]; omega)]
theorem l_numT (ex : z_Ex) (len h p N j : Nat) (v1 : Int32) (c : Nat → Int32) (S : z_Mem) (ht : z_tx len c) (hc : z_cx c len h S) (hat : S.1 5 0 2 = nI p) (hp : p ≤ len) (hj : j < 2) (hd : ¬ z_dgv (c p) = 99) : zr_X4_readNumber ex (N + 1) 4 [some (.inr (.inr (5, 0))), some (.inl v1), some (.inl (nI j)), none] [] S = zr_X4_readNumber ex N 4 [some (.inr (.inr (5, 0))), some (.inl (if j = 0 then nI (z_dgv (c p)) else 10 * v1 + nI (z_dgv (c p)))), some (.inl (nI (j + 1))), none] [] (z_sI S 5 0 2 (nI (p + 1))) := by
  have hl := ht.1
  obtain ⟨k1, k2, k3⟩ := z_dv_lt ht hd
  obtain ⟨-, m1, m2, m3⟩ := (z_dv_cs ht k1).resolve_left (fun z => hd z.1)
  rw [ze_X4_readNumber_4, if_neg (by rw [show (2 : Int32) = nI 2 from rfl, z_le (by omega) (by omega)]; omega), hc.1, hat, if_neg (by rw [z_le (by omega) (by omega)]; omega), z_oob_n (k := p) (by omega) (by omega), z_cl (k := p) (by omega), hc.2.1 p k1]
  simp only [z_cnf]
  rw [if_neg m1, if_pos m2, m3, nI_1, nI_1]
  by_cases q : j = 0
  · rw [if_pos (by rw [q]; rfl), if_pos q]
  · rw [if_neg (nI_ne0 (by omega) (by omega)), if_neg q]
theorem l_num2 (ex : z_Ex) (N : Nat) (v1 : Int32) (S : z_Mem) : zr_X4_readNumber ex (N + 1) 4 [some (.inr (.inr (5, 0))), some (.inl v1), some (.inl (nI 2)), none] [] S = some (some (.inl v1), S) := by
  rw [ze_X4_readNumber_4, if_pos (by decide)]
theorem s_num (d len h p : Nat) (c : Nat → Int32) (S : z_Mem) (ht : z_tx len c) (hc : z_cx c len h S) (hat : S.1 5 0 2 = nI p) (hp : p ≤ len) :
    ∃ S', z_exe z_mt true (d + 1) 32 [.inr (.inr (5, 0))] S = some (some (.inl (if (z_nm c p).1 = true then nI (z_nm c p).2.2 else -1)), S') ∧ S'.1 5 0 2 = nI (z_nm c p).2.1 ∧ z_fx (fun t i k => t = 5 ∧ i = 0 ∧ k = 2) S S' := by
  have e : z_exe z_mt true (d + 1) 32 [.inr (.inr (5, 0))] S = _ := (zx_X4_readNumber d S 0).trans (ze_X4_readNumber_0 _ _ _ _)
  have hl := ht.1
  have all : ∀ N, ∃ S', zr_X4_readNumber (z_exe z_mt true d) (N + 1 + 1 + 1) 4 [some (.inr (.inr (5, 0))), some (.inl (-1 : Int32)), some (.inl (nI 0)), none] [] S = some (some (.inl (if (z_nm c p).1 = true then nI (z_nm c p).2.2 else -1)), S') ∧ S'.1 5 0 2 = nI (z_nm c p).2.1 ∧ z_fx (fun t i k => t = 5 ∧ i = 0 ∧ k = 2) S S' := by
    intro N
    unfold z_nm
    by_cases h1 : z_dgv (c p) = 99
    · rw [if_pos h1]
      exact ⟨S, l_numF (z_exe z_mt true d) len h p (N + 1 + 1) 0 (-1) c S ht hc hat hp (by omega) h1, hat, z_fx.rf⟩
    · rw [if_neg h1]
      obtain ⟨k1, k2, k3⟩ := z_dv_lt ht h1
      have hc1 := hc.fx (z_fx.sI (P := fun t i k => t = 5 ∧ i = 0 ∧ k = 2) (x := nI (p + 1)) ⟨rfl, rfl, rfl⟩) (by omega) (fun p => by omega) (by omega)
      have f1 : z_fx (fun t i k => t = 5 ∧ i = 0 ∧ k = 2) S (z_sI S 5 0 2 (nI (p + 1))) := z_fx.sI ⟨rfl, rfl, rfl⟩
      rw [l_numT (z_exe z_mt true d) len h p (N + 1 + 1) 0 (-1) c S ht hc hat hp (by omega) h1, if_pos rfl]
      by_cases h2 : z_dgv (c (p + 1)) = 99
      · rw [if_pos h2]
        exact ⟨_, l_numF (z_exe z_mt true d) len h (p + 1) (N + 1) (0 + 1) (nI (z_dgv (c p))) c _ ht hc1 (z_at _ _) (by omega) (by omega) h2, z_at _ _, f1⟩
      · rw [if_neg h2]
        refine ⟨z_sI (z_sI S 5 0 2 (nI (p + 1))) 5 0 2 (nI (p + 1 + 1)), ?_, z_at _ _, f1.tr (z_fx.sI ⟨rfl, rfl, rfl⟩)⟩
        rw [l_numT (z_exe z_mt true d) len h (p + 1) (N + 1) (0 + 1) (nI (z_dgv (c p))) c _ ht hc1 (z_at _ _) (by omega) (by omega) h2, if_neg (show ¬ 0 + 1 = 0 by decide), show 0 + 1 + 1 = 2 from rfl, l_num2, if_pos rfl, show (10 : Int32) * nI (z_dgv (c p)) = nI (10 * z_dgv (c p)) from pk_mul 10 _, nI_add]
  rw [e]
  exact all 999996
theorem s_letterOf (d : Nat) (v : Int32) (S : z_Mem) : z_exe z_mt true (d + 1) 37 [.inl v] S = some (some (.inl (if z_plt v = 9 then -1 else nI (z_plt v))), S) := by
  have e : z_exe z_mt true (d + 1) 37 [.inl v] S = _ := (zx_X4_letterOf d S v).trans (ze_X4_letterOf_0 _ _ _ _)
  rw [e]
  unfold z_plt
  by_cases h1 : v = 98
  · rw [if_pos h1, if_pos h1]; rfl
  rw [if_neg h1, if_neg h1]
  by_cases h2 : v = 104
  · rw [if_pos h2, if_pos h2]; rfl
  rw [if_neg h2, if_neg h2]
  by_cases h3 : v = 107
  · rw [if_pos h3, if_pos h3]; rfl
  rw [if_neg h3, if_neg h3]
  by_cases h4 : v = 112
  · rw [if_pos h4, if_pos h4]; rfl
  rw [if_neg h4, if_neg h4]
  by_cases h5 : v = 118
  · rw [if_pos h5, if_pos h5]; rfl
  rw [if_neg h5, if_neg h5]
  by_cases h6 : v = 119
  · rw [if_pos h6, if_pos h6]; rfl
  rw [if_neg h6, if_neg h6]; rfl
theorem s_cmpOf (d : Nat) (v : Int32) (S : z_Mem) : z_exe z_mt true (d + 1) 38 [.inl v] S = some (some (.inl (if z_cm v = 9 then -1 else nI (z_cm v))), S) := by
  have e : z_exe z_mt true (d + 1) 38 [.inl v] S = _ := (zx_X4_comparisonOf d S v).trans (ze_X4_comparisonOf_0 _ _ _ _)
  rw [e]
  unfold z_cm
  by_cases h1 : v = 60
  · rw [if_pos h1, if_pos h1]; rfl
  rw [if_neg h1, if_neg h1]
  by_cases h2 : v = 61
  · rw [if_pos h2, if_pos h2]; rfl
  rw [if_neg h2, if_neg h2]
  by_cases h3 : v = 62
  · rw [if_pos h3, if_pos h3]; rfl
  rw [if_neg h3, if_neg h3]; rfl
theorem s_app (d h L : Nat) (x : Int32) (S : z_Mem) (hL : S.1 4 h 2 = nI L) (hl : L < 100) : z_exe z_mt true (d + 1) 22 [.inr (.inr (4, h)), .inl x] S = some (none, z_sI (z_sI S 22 h L x) 4 h 2 (nI (L + 1))) := by
  have e : z_exe z_mt true (d + 1) 22 [.inr (.inr (4, h)), .inl x] S = _ := (zx_X3_append d S h x).trans (ze_X3_append_0 _ _ _ _ _)
  have g : (z_sI S 22 h L x).1 4 h 2 = nI L := by rw [z_sI1, if_neg (by omega)]; exact hL
  rw [e, hL, if_neg (by rw [show (100 : Int32) = nI 100 from rfl, z_le (by omega) (by omega)]; omega), z_oob_n (k := L) (by omega) (by omega), z_cl (k := L) (by omega)]
  simp only [z_cnf]
  rw [g, nI_1]
theorem z_appfx {h L : Nat} (S : z_Mem) (x y : Int32) : z_fx (z_Prd h) S (z_sI (z_sI S 22 h L x) 4 h 2 y) := (z_fx.sI (Or.inr (Or.inr ⟨rfl, rfl⟩))).tr (z_fx.sI (Or.inr (Or.inl ⟨rfl, rfl, rfl⟩)))
theorem C_test (d len h : Nat) (c : Nat → Int32) (ht : z_tx len c) : z_sC c len h (d + 3) 36 [.inr (.inr (5, 0))] (z_pt c) := by
  intro p L S hc hat hp hL hLp
  have e : z_exe z_mt true (d + 3) 36 [.inr (.inr (5, 0))] S = _ := (zx_X4_readTest (d + 2) S 0).trans (ze_X4_readTest_0 _ _ _ _)
  have hl := ht.1
  rw [e, s_sign (d + 1) len h p c S ht hc hat hp, z_rI_s, s_letterOf, z_rI_s, hat, nI_1]
  unfold z_pt
  by_cases h1 : z_plt (c p) = 9
  · rw [if_pos h1, if_pos h1, if_neg (by decide)]
    exact ⟨S, rfl, hat, fun q => absurd q Bool.false_ne_true, z_fx.rf⟩
  rw [if_neg h1, if_neg h1]
  obtain ⟨k1, k2⟩ := z_pl_lt ht h1
  have f1 := z_fxat (h := h) S (nI (p + 1))
  have hc1 := hc.rd f1
  rw [if_pos (nI_pos' (by omega))]
  try dsimp only
  rw [s_sign (d + 1) len h (p + 1) c _ ht hc1 (z_at _ _) (by omega), z_rI_s, s_cmpOf, z_rI_s, z_at, nI_1]
  by_cases h2 : z_cm (c (p + 1)) = 9
  · rw [if_pos h2, if_pos h2, if_neg (by decide)]
    exact ⟨_, rfl, z_at _ _, fun q => absurd q Bool.false_ne_true, f1⟩
  rw [if_neg h2, if_neg h2]
  obtain ⟨k3, k4⟩ := z_cm_lt ht h2
  have f2 := z_fxat (h := h) (z_sI S 5 0 2 (nI (p + 1))) (nI (p + 1 + 1))
  have hc2 := hc1.rd f2
  rw [if_pos (nI_pos' (by omega))]
  try dsimp only
  obtain ⟨S3, e3, a3, f3⟩ := s_num (d + 1) len h (p + 1 + 1) c _ ht hc2 (z_at _ _) (by omega)
  have f3' : z_fx (z_Prd h) _ S3 := f3.wk (fun t i k q => Or.inl q)
  have F := (f1.tr f2).tr f3'
  obtain ⟨n1, n2, n3⟩ := z_nm_ok ht (p := p + 1 + 1) (by omega)
  rw [e3, z_rI_s]
  by_cases h3 : (z_nm c (p + 1 + 1)).1 = true
  · have h3' : (z_nm c (p + 2)).1 = true := h3
    rw [if_pos h3, if_pos h3']
    obtain ⟨n4, n5⟩ := n3 h3
    have hL3 : S3.1 4 h 2 = nI L := by
      rw [f3.i (by omega), z_sI1, if_neg (by omega), z_sI1, if_neg (by omega)]; exact hL
    have hh3 : (S3.2.2.1 5 0 3).2 = h := (hc2.rd f3').2.2
    have e23 : z_exe z_mt true (d + 2) 23 [.inl (nI (z_plt (c p))), .inl (nI (z_cm (c (p + 1)))), .inl (nI (z_nm c (p + 1 + 1)).2.2)] S3 = _ := (zx_X3_codeOfTest (d + 1) S3 _ _ _).trans (ze_X3_codeOfTest_0 _ _ _ _ _ _)
    rw [if_pos (nI_pos' (by omega)), e23, z_rI_s, hh3, s_app (d + 1) h L _ S3 hL3 (by omega), z_rV_s]
    refine ⟨_, rfl, ?_, fun _ => ⟨?_, z_tk_1 ?_, fun k hk => ?_⟩, F.tr (z_appfx S3 _ _)⟩
    · rw [z_sI1, if_neg (by omega), z_sI1, if_neg (by omega)]; exact a3
    · rw [z_sI1, if_pos ⟨rfl, rfl, rfl⟩]; rfl
    · rw [z_sI1, if_neg (by omega), z_sI1, if_pos ⟨rfl, rfl, rfl⟩, show nI (z_plt (c p)) * 3 = nI (z_plt (c p) * 3) from pk_mul _ 3, nI_add, show nI (z_plt (c p) * 3 + z_cm (c (p + 1))) * 100 = nI ((z_plt (c p) * 3 + z_cm (c (p + 1))) * 100) from pk_mul _ 100, nI_add]
      rfl
    · rw [z_sI1, if_neg (by omega), z_sI1, if_neg (by omega), f3.i (by omega), z_sI1, if_neg (by omega), z_sI1, if_neg (by omega)]
  · have h3' : ¬ (z_nm c (p + 2)).1 = true := h3
    rw [if_neg h3, if_neg h3', if_neg (by decide)]
    exact ⟨S3, rfl, a3, fun q => absurd q Bool.false_ne_true, F⟩
theorem l_sepall (d len h : Nat) (v1 : Int32) (c : Nat → Int32) (g : Nat → z_R) (ht : z_tx len c) (hg : z_gok len g) (hs : z_sC c len h (d + 2) 35 [.inr (.inr (5, 0)), .inl v1] g) (L : Nat) (S0 : z_Mem) : ∀ (m p N : Nat) (ts : List z_Tk) (S : z_Mem), m < N → m ≤ 100 → z_cx c len h S → S.1 5 0 2 = nI p → p ≤ len → L + ts.length ≤ p → S.1 4 h 2 = nI (L + ts.length) → z_tkl (S.1 22 h) z_tc L ts → (∀ k, k < L → S.1 22 h k = S0.1 22 h k) → z_fx (z_Prd h) S0 S →
    ∃ S', zr_X4_readAll (z_exe z_mt true (d + 2)) N 15 [some (.inr (.inr (5, 0))), some (.inl v1), some (.inl (nI m))] [] S = some (some (.inl (if (z_sep c 38 2 g m p ts).1 = true then 1 else 0)), S') ∧ z_cr h L S0 (z_sep c 38 2 g m p ts) S' := by
  have hl := ht.1
  intro m
  induction m with
  | zero =>
    intro p N ts S hN hm hc hat hp hLp hL htk hpre hf
    obtain ⟨N, rfl⟩ : ∃ N', N = N' + 1 := ⟨N - 1, by omega⟩
    refine ⟨S, ?_, hat, fun _ => ⟨hL, htk, hpre⟩, hf⟩
    rw [ze_X4_readAll_15, if_pos (by decide)]
    rfl
  | succ m ih =>
    intro p N ts S hN hm hc hat hp hLp hL htk hpre hf
    obtain ⟨N, rfl⟩ : ∃ N', N = N' + 1 := ⟨N - 1, by omega⟩
    rw [ze_X4_readAll_15, if_neg (nI_nle (by omega) (by omega))]
    unfold z_sep
    by_cases h1 : c p = 38
    · have hl1 := ht.lt (by decide) h1
      have f1 := z_fxat (h := h) S (nI (p + 1))
      have hc1 := hc.rd f1
      obtain ⟨g1, g2, g3⟩ := hg (p + 1) (by omega)
      obtain ⟨S2, e2, a2, b2, f2⟩ := hs (p + 1) (L + ts.length) (z_sI S 5 0 2 (nI (p + 1))) hc1 (z_at _ _) (by omega) (by rw [z_sI1, if_neg (by omega)]; exact hL) (by omega)
      rw [s_skipT d len h p 38 c S ht hc hat hp h1, z_rI_s, if_neg z_01n, if_pos h1, e2, z_rI_s]
      by_cases h2 : (g (p + 1)).1 = true
      · obtain ⟨b3, b4, b5⟩ := b2 h2
        have g4 := g3 h2
        have hh : (S2.2.2.1 5 0 3).2 = h := (hc1.rd f2).2.2
        rw [if_pos h2, if_neg z_01n, if_pos h2, hh, s_app (d + 1) h (L + ts.length + (g (p + 1)).2.2.length) (-2) S2 b3 (by omega), z_rV_s]
        try dsimp only
        rw [pk_m1]
        have f3 := z_appfx (h := h) (L := L + ts.length + (g (p + 1)).2.2.length) S2 (-2) (nI (L + ts.length + (g (p + 1)).2.2.length + 1))
        have hlen : (ts ++ ((g (p + 1)).2.2 ++ [(2, 0)])).length = ts.length + ((g (p + 1)).2.2.length + 1) := by rw [List.length_append, List.length_append, List.length_singleton]
        refine ih (g (p + 1)).2.1 N (ts ++ ((g (p + 1)).2.2 ++ [(2, 0)])) _ (by omega) (by omega) ((hc1.rd f2).rd f3) ?_ g2 (by rw [hlen]; omega) ?_ (z_tkl_ap ?_ (z_tkl_ap ?_ (z_tk_1 ?_))) (fun k hk => ?_) (((hf.tr f1).tr f2).tr f3)
        · rw [z_sI1, if_neg (by omega), z_sI1, if_neg (by omega)]; exact a2
        · rw [z_sI1, if_pos ⟨rfl, rfl, rfl⟩, hlen]
          congr 1
          omega
        · refine z_tk_cg htk (fun k hk => ?_)
          rw [z_sI1, if_neg (by omega), z_sI1, if_neg (by omega), b5 _ (by omega), z_sI1, if_neg (by omega)]
        · refine z_tk_cg b4 (fun k hk => ?_)
          rw [z_sI1, if_neg (by omega), z_sI1, if_neg (by omega)]
        · rw [z_sI1, if_neg (by omega), z_sI1, if_pos ⟨rfl, rfl, by omega⟩]
          rfl
        · rw [z_sI1, if_neg (by omega), z_sI1, if_neg (by omega), b5 _ (by omega), z_sI1, if_neg (by omega)]
          exact hpre k hk
      · rw [if_neg h2, if_pos rfl, if_neg h2]
        exact ⟨S2, rfl, a2, fun q => absurd q Bool.false_ne_true, (hf.tr f1).tr f2⟩
    · rw [s_skipF d len h p 38 c S ht hc hat hp h1, z_rI_s, if_pos rfl, if_neg h1]
      exact ⟨S, rfl, hat, fun _ => ⟨hL, htk, hpre⟩, hf⟩
theorem C_all (d len h : Nat) (v1 : Int32) (c : Nat → Int32) (g : Nat → z_R) (ht : z_tx len c) (hg : z_gok len g) (hs : z_sC c len h (d + 2) 35 [.inr (.inr (5, 0)), .inl v1] g) : z_sC c len h (d + 3) 34 [.inr (.inr (5, 0)), .inl v1] (z_lv c len 38 2 g) := by
  intro p L S hc hat hp hL hLp
  have e : z_exe z_mt true (d + 3) 34 [.inr (.inr (5, 0)), .inl v1] S = _ := (zx_X4_readAll (d + 2) S 0 v1).trans (ze_X4_readAll_0 _ _ _ _ _)
  obtain ⟨S1, e1, a1, b1, f1⟩ := hs p L S hc hat hp hL hLp
  obtain ⟨g1, g2, g3⟩ := hg p hp
  have hl := ht.1
  rw [e, e1, z_rI_s]
  unfold z_lv
  by_cases h1 : (g p).1 = true
  · obtain ⟨b2, b3, b4⟩ := b1 h1
    rw [if_pos h1, if_neg z_01n, if_pos h1, (hc.rd f1).1]
    exact l_sepall d len h v1 c g ht hg hs L S len (g p).2.1 999999 (g p).2.2 S1 (by omega) (by omega) (hc.rd f1) a1 g2 (by have := g3 h1; omega) b2 b3 b4 f1
  · rw [if_neg h1, if_pos rfl, if_neg h1]
    exact ⟨S1, rfl, a1, fun q => absurd q Bool.false_ne_true, f1⟩
theorem l_sepany (d len h : Nat) (v1 : Int32) (c : Nat → Int32) (g : Nat → z_R) (ht : z_tx len c) (hg : z_gok len g) (hs : z_sC c len h (d + 2) 34 [.inr (.inr (5, 0)), .inl v1] g) (L : Nat) (S0 : z_Mem) : ∀ (m p N : Nat) (ts : List z_Tk) (S : z_Mem), m < N → m ≤ 100 → z_cx c len h S → S.1 5 0 2 = nI p → p ≤ len → L + ts.length ≤ p → S.1 4 h 2 = nI (L + ts.length) → z_tkl (S.1 22 h) z_tc L ts → (∀ k, k < L → S.1 22 h k = S0.1 22 h k) → z_fx (z_Prd h) S0 S →
    ∃ S', zr_X4_readAny (z_exe z_mt true (d + 2)) N 15 [some (.inr (.inr (5, 0))), some (.inl v1), some (.inl (nI m))] [] S = some (some (.inl (if (z_sep c 124 3 g m p ts).1 = true then 1 else 0)), S') ∧ z_cr h L S0 (z_sep c 124 3 g m p ts) S' := by
  have hl := ht.1
  intro m
  induction m with
  | zero =>
    intro p N ts S hN hm hc hat hp hLp hL htk hpre hf
    obtain ⟨N, rfl⟩ : ∃ N', N = N' + 1 := ⟨N - 1, by omega⟩
    refine ⟨S, ?_, hat, fun _ => ⟨hL, htk, hpre⟩, hf⟩
    rw [ze_X4_readAny_15, if_pos (by decide)]
    rfl
  | succ m ih =>
    intro p N ts S hN hm hc hat hp hLp hL htk hpre hf
    obtain ⟨N, rfl⟩ : ∃ N', N = N' + 1 := ⟨N - 1, by omega⟩
    rw [ze_X4_readAny_15, if_neg (nI_nle (by omega) (by omega))]
    unfold z_sep
    by_cases h1 : c p = 124
    · have hl1 := ht.lt (by decide) h1
      have f1 := z_fxat (h := h) S (nI (p + 1))
      have hc1 := hc.rd f1
      obtain ⟨g1, g2, g3⟩ := hg (p + 1) (by omega)
      obtain ⟨S2, e2, a2, b2, f2⟩ := hs (p + 1) (L + ts.length) (z_sI S 5 0 2 (nI (p + 1))) hc1 (z_at _ _) (by omega) (by rw [z_sI1, if_neg (by omega)]; exact hL) (by omega)
      rw [s_skipT d len h p 124 c S ht hc hat hp h1, z_rI_s, if_neg z_01n, if_pos h1, e2, z_rI_s]
      by_cases h2 : (g (p + 1)).1 = true
      · obtain ⟨b3, b4, b5⟩ := b2 h2
        have g4 := g3 h2
        have hh : (S2.2.2.1 5 0 3).2 = h := (hc1.rd f2).2.2
        rw [if_pos h2, if_neg z_01n, if_pos h2, hh, s_app (d + 1) h (L + ts.length + (g (p + 1)).2.2.length) (-3) S2 b3 (by omega), z_rV_s]
        try dsimp only
        rw [pk_m1]
        have f3 := z_appfx (h := h) (L := L + ts.length + (g (p + 1)).2.2.length) S2 (-3) (nI (L + ts.length + (g (p + 1)).2.2.length + 1))
        have hlen : (ts ++ ((g (p + 1)).2.2 ++ [(3, 0)])).length = ts.length + ((g (p + 1)).2.2.length + 1) := by rw [List.length_append, List.length_append, List.length_singleton]
        refine ih (g (p + 1)).2.1 N (ts ++ ((g (p + 1)).2.2 ++ [(3, 0)])) _ (by omega) (by omega) ((hc1.rd f2).rd f3) ?_ g2 (by rw [hlen]; omega) ?_ (z_tkl_ap ?_ (z_tkl_ap ?_ (z_tk_1 ?_))) (fun k hk => ?_) (((hf.tr f1).tr f2).tr f3)
        · rw [z_sI1, if_neg (by omega), z_sI1, if_neg (by omega)]; exact a2
        · rw [z_sI1, if_pos ⟨rfl, rfl, rfl⟩, hlen]
          congr 1
          omega
        · refine z_tk_cg htk (fun k hk => ?_)
          rw [z_sI1, if_neg (by omega), z_sI1, if_neg (by omega), b5 _ (by omega), z_sI1, if_neg (by omega)]
        · refine z_tk_cg b4 (fun k hk => ?_)
          rw [z_sI1, if_neg (by omega), z_sI1, if_neg (by omega)]
        · rw [z_sI1, if_neg (by omega), z_sI1, if_pos ⟨rfl, rfl, by omega⟩]
          rfl
        · rw [z_sI1, if_neg (by omega), z_sI1, if_neg (by omega), b5 _ (by omega), z_sI1, if_neg (by omega)]
          exact hpre k hk
      · rw [if_neg h2, if_pos rfl, if_neg h2]
        exact ⟨S2, rfl, a2, fun q => absurd q Bool.false_ne_true, (hf.tr f1).tr f2⟩
    · rw [s_skipF d len h p 124 c S ht hc hat hp h1, z_rI_s, if_pos rfl, if_neg h1]
      exact ⟨S, rfl, hat, fun _ => ⟨hL, htk, hpre⟩, hf⟩
theorem C_any (d len h : Nat) (v1 : Int32) (c : Nat → Int32) (g : Nat → z_R) (ht : z_tx len c) (hg : z_gok len g) (hs : z_sC c len h (d + 2) 34 [.inr (.inr (5, 0)), .inl v1] g) : z_sC c len h (d + 3) 33 [.inr (.inr (5, 0)), .inl v1] (z_lv c len 124 3 g) := by
  intro p L S hc hat hp hL hLp
  have e : z_exe z_mt true (d + 3) 33 [.inr (.inr (5, 0)), .inl v1] S = _ := (zx_X4_readAny (d + 2) S 0 v1).trans (ze_X4_readAny_0 _ _ _ _ _)
  obtain ⟨S1, e1, a1, b1, f1⟩ := hs p L S hc hat hp hL hLp
  obtain ⟨g1, g2, g3⟩ := hg p hp
  have hl := ht.1
  rw [e, e1, z_rI_s]
  unfold z_lv
  by_cases h1 : (g p).1 = true
  · obtain ⟨b2, b3, b4⟩ := b1 h1
    rw [if_pos h1, if_neg z_01n, if_pos h1, (hc.rd f1).1]
    exact l_sepany d len h v1 c g ht hg hs L S len (g p).2.1 999999 (g p).2.2 S1 (by omega) (by omega) (hc.rd f1) a1 g2 (by have := g3 h1; omega) b2 b3 b4 f1
  · rw [if_neg h1, if_pos rfl, if_neg h1]
    exact ⟨S1, rfl, a1, fun q => absurd q Bool.false_ne_true, f1⟩
theorem C_part (len h : Nat) (c : Nat → Int32) (ht : z_tx len c) : ∀ (k d : Nat), k ≤ 4 → z_sC c len h (3 * k + d + 4) 35 [.inr (.inr (5, 0)), .inl (nI (4 - k))] (z_pP c len k) := by
  intro k
  induction k with
  | zero =>
    intro d hk p L S hc hat hp hL hLp
    have e : z_exe z_mt true (d + 4) 35 [.inr (.inr (5, 0)), .inl (nI (4 - 0))] S = _ := (zx_X4_readPart (d + 3) S 0 _).trans (ze_X4_readPart_0 _ _ _ _ _)
    obtain ⟨S1, e1, r1⟩ := C_test d len h c ht p L S hc hat hp hL hLp
    refine ⟨S1, ?_, r1⟩
    rw [show 3 * 0 + d + 4 = d + 4 by omega]
    rw [e, if_pos (by decide), if_pos rfl, if_pos rfl, e1, z_rI_s]
    by_cases q : (z_pt c p).1 = true
    · rw [if_pos q, if_pos (by decide)]
      show _ = some (some (Sum.inl (if (z_pt c p).1 = true then 1 else 0)), S1)
      rw [if_pos q]
    · rw [if_neg q, if_pos (by decide)]
      show _ = some (some (Sum.inl (if (z_pt c p).1 = true then 1 else 0)), S1)
      rw [if_neg q]
  | succ k ih =>
    intro d hk p L S hc hat hp hL hLp
    have hl := ht.1
    have e : z_exe z_mt true (3 * k + d + 6 + 1) 35 [.inr (.inr (5, 0)), .inl (nI (4 - (k + 1)))] S = _ := (zx_X4_readPart (3 * k + d + 6) S 0 _).trans (ze_X4_readPart_0 _ _ _ _ _)
    rw [show 3 * (k + 1) + d + 4 = 3 * k + d + 6 + 1 by omega, e, if_neg (by rw [show (4 : Int32) = nI 4 from rfl, z_le (by omega) (by omega)]; omega), if_neg z_01n, nI_1, show 4 - (k + 1) + 1 = 4 - k by omega]
    show ∃ S', _ = some (some (Sum.inl (if (if c p = 33 then (if (z_pP c len k (p + 1)).1 = true then ((true, (z_pP c len k (p + 1)).2.1, (z_pP c len k (p + 1)).2.2 ++ [(1, 0)]) : z_R) else (false, (z_pP c len k (p + 1)).2.1, []))
      else if c p = 40 then (if (z_pE c len (z_pP c len k) (p + 1)).1 = true then (if c (z_pE c len (z_pP c len k) (p + 1)).2.1 = 41 then (true, (z_pE c len (z_pP c len k) (p + 1)).2.1 + 1, (z_pE c len (z_pP c len k) (p + 1)).2.2) else (false, (z_pE c len (z_pP c len k) (p + 1)).2.1, [])) else (false, (z_pE c len (z_pP c len k) (p + 1)).2.1, []))
      else z_pt c p).1 = true then 1 else 0)), S') ∧ z_cr h L S (if c p = 33 then (if (z_pP c len k (p + 1)).1 = true then ((true, (z_pP c len k (p + 1)).2.1, (z_pP c len k (p + 1)).2.2 ++ [(1, 0)]) : z_R) else (false, (z_pP c len k (p + 1)).2.1, []))
      else if c p = 40 then (if (z_pE c len (z_pP c len k) (p + 1)).1 = true then (if c (z_pE c len (z_pP c len k) (p + 1)).2.1 = 41 then (true, (z_pE c len (z_pP c len k) (p + 1)).2.1 + 1, (z_pE c len (z_pP c len k) (p + 1)).2.2) else (false, (z_pE c len (z_pP c len k) (p + 1)).2.1, [])) else (false, (z_pE c len (z_pP c len k) (p + 1)).2.1, []))
      else z_pt c p) S'
    by_cases h1 : c p = 33
    · have hl1 := ht.lt (by decide) h1
      have f1 := z_fxat (h := h) S (nI (p + 1))
      have hc1 := hc.rd f1
      obtain ⟨g1, g2, g3⟩ := z_pP_ok ht k (p + 1) (by omega)
      obtain ⟨S2, e2, a2, b2, f2⟩ := ih (d + 2) (by omega) (p + 1) L (z_sI S 5 0 2 (nI (p + 1))) hc1 (z_at _ _) (by omega) (by rw [z_sI1, if_neg (by omega)]; exact hL) (by omega)
      rw [show 3 * k + (d + 2) + 4 = 3 * k + d + 6 by omega] at e2
      rw [s_skipT (3 * k + d + 4) len h p 33 c S ht hc hat hp h1, z_rI_s, if_neg z_01n, e2, z_rI_s]
      simp only [if_pos h1]
      by_cases h2 : (z_pP c len k (p + 1)).1 = true
      · obtain ⟨b3, b4, b5⟩ := b2 h2
        have g4 := g3 h2
        have hh : (S2.2.2.1 5 0 3).2 = h := (hc1.rd f2).2.2
        simp only [if_pos h2]
        rw [if_neg z_01n, hh, s_app (3 * k + d + 5) h (L + (z_pP c len k (p + 1)).2.2.length) (-1) S2 b3 (by omega), z_rV_s]
        have f3 := z_appfx (h := h) (L := L + (z_pP c len k (p + 1)).2.2.length) S2 (-1) (nI (L + (z_pP c len k (p + 1)).2.2.length + 1))
        refine ⟨_, rfl, ?_, fun _ => ⟨?_, z_tkl_ap ?_ (z_tk_1 ?_), fun k' hk' => ?_⟩, (f1.tr f2).tr f3⟩
        · rw [z_sI1, if_neg (by omega), z_sI1, if_neg (by omega)]; exact a2
        · rw [z_sI1, if_pos ⟨rfl, rfl, rfl⟩, List.length_append, List.length_singleton]
          rfl
        · refine z_tk_cg b4 (fun k' hk' => ?_)
          rw [z_sI1, if_neg (by omega), z_sI1, if_neg (by omega)]
        · rw [z_sI1, if_neg (by omega), z_sI1, if_pos ⟨rfl, rfl, rfl⟩]
          rfl
        · rw [z_sI1, if_neg (by omega), z_sI1, if_neg (by omega), b5 _ (by omega), z_sI1, if_neg (by omega)]
      · simp only [if_neg h2]
        rw [if_pos trivial]
        exact ⟨S2, rfl, a2, fun q => absurd q Bool.false_ne_true, f1.tr f2⟩
    · rw [s_skipF (3 * k + d + 4) len h p 33 c S ht hc hat hp h1, z_rI_s, if_pos rfl, if_neg z_01n]
      simp only [if_neg h1]
      by_cases h3 : c p = 40
      · have hl1 := ht.lt (by decide) h3
        have f1 := z_fxat (h := h) S (nI (p + 1))
        have hc1 := hc.rd f1
        obtain ⟨g1, g2, g3⟩ := z_pE_ok ht (z_pP_ok ht k) (p + 1) (by omega)
        have hP := ih d (by omega)
        have hE : z_sC c len h (3 * k + d + 6) 33 [.inr (.inr (5, 0)), .inl (nI (4 - k))] (z_pE c len (z_pP c len k)) := C_any (3 * k + d + 3) len h _ c _ ht (z_lv_ok ht (by decide) (z_pP_ok ht k)) (C_all (3 * k + d + 2) len h _ c _ ht (z_pP_ok ht k) hP)
        obtain ⟨S2, e2, a2, b2, f2⟩ := hE (p + 1) L (z_sI S 5 0 2 (nI (p + 1))) hc1 (z_at _ _) (by omega) (by rw [z_sI1, if_neg (by omega)]; exact hL) (by omega)
        rw [s_skipT (3 * k + d + 4) len h p 40 c S ht hc hat hp h3, z_rI_s, if_neg z_01n, e2, z_rI_s]
        simp only [if_pos h3]
        by_cases h2 : (z_pE c len (z_pP c len k) (p + 1)).1 = true
        · obtain ⟨b3, b4, b5⟩ := b2 h2
          simp only [if_pos h2]
          rw [if_neg z_01n]
          by_cases h4 : c (z_pE c len (z_pP c len k) (p + 1)).2.1 = 41
          · have f3 := z_fxat (h := h) S2 (nI ((z_pE c len (z_pP c len k) (p + 1)).2.1 + 1))
            rw [s_skipT (3 * k + d + 4) len h _ 41 c S2 ht (hc1.rd f2) a2 g2 h4, z_rI_s, if_neg z_01n]
            simp only [if_pos h4]
            refine ⟨_, rfl, z_at _ _, fun _ => ⟨?_, z_tk_cg b4 (fun k' hk' => ?_), fun k' hk' => ?_⟩, (f1.tr f2).tr f3⟩
            · rw [z_sI1, if_neg (by omega)]; exact b3
            · rw [z_sI1, if_neg (by omega)]
            · rw [z_sI1, if_neg (by omega), b5 _ hk', z_sI1, if_neg (by omega)]
          · rw [s_skipF (3 * k + d + 4) len h _ 41 c S2 ht (hc1.rd f2) a2 g2 h4, z_rI_s, if_pos rfl]
            simp only [if_neg h4]
            exact ⟨S2, rfl, a2, fun q => absurd q Bool.false_ne_true, f1.tr f2⟩
        · simp only [if_neg h2]
          rw [if_pos trivial]
          exact ⟨S2, rfl, a2, fun q => absurd q Bool.false_ne_true, f1.tr f2⟩
      · rw [s_skipF (3 * k + d + 4) len h p 40 c S ht hc hat hp h3, z_rI_s, if_pos rfl]
        simp only [if_neg h3]
        obtain ⟨S1, e1, r1⟩ := C_test (3 * k + d + 3) len h c ht p L S hc hat hp hL hLp
        have e1' : z_exe z_mt true (3 * k + d + 6) 36 [.inr (.inr (5, 0))] S = _ := e1
        refine ⟨S1, ?_, r1⟩
        rw [e1', z_rI_s]
        by_cases q : (z_pt c p).1 = true
        · rw [if_pos q, if_pos (by decide)]
        · rw [if_neg q, if_pos (by decide)]
/-- E as the class reads it -/
theorem C_E (d len h : Nat) (c : Nat → Int32) (ht : z_tx len c) : z_sC c len h (d + 18) 33 [.inr (.inr (5, 0)), .inl (nI 0)] (z_pE c len (z_pP c len 4)) := by
  have hP := C_part len h c ht 4 d (by omega)
  rw [show 3 * 4 + d + 4 = d + 14 + 2 by omega] at hP
  exact C_any (d + 15) len h _ c _ ht (z_lv_ok ht (by decide) (z_pP_ok ht 4)) (C_all (d + 14) len h _ c _ ht (z_pP_ok ht 4) hP)
