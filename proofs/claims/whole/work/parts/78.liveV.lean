/-! ===== the text: the model's words, clauses ===== -/
theorem z_mw_ok {len : Nat} {c : Nat → Int32} (ht : z_tx len c) : ∀ (l : List Int32) (p : Nat), (∀ x ∈ l, 0 ≤ x) → p ≤ len → (z_mw c l p).2 ≤ len
  | [], p, _, hp => hp
  | x :: r, p, hl, hp => by
    show (if c p = x then z_mw c r (p + 1) else (false, p)).2 ≤ len
    by_cases h : c p = x
    · rw [if_pos h]
      have := ht.lt (hl x List.mem_cons_self) h
      exact z_mw_ok ht r (p + 1) (fun y hy => hl y (List.mem_cons_of_mem _ hy)) (by omega)
    · rw [if_neg h]; exact hp
theorem z_pW_cool {c : Nat → Int32} {p : Nat} (h : c p = 99) : (z_pW c p).1 = (z_mw c [99, 111, 111, 108, 32] p).1 ∧ (z_pW c p).2.1 = (z_mw c [99, 111, 111, 108, 32] p).2 ∧ ((z_pW c p).1 = true → (z_pW c p).2.2 = 2) := by
  have h0 : ¬ c p = 100 := by rw [h]; decide
  unfold z_pW z_rw z_rw3
  by_cases h1 : c (p + 1) = 111
  · by_cases h2 : c (p + 1 + 1) = 111
    · by_cases h3 : c (p + 1 + 2) = 108
      · by_cases h4 : c (p + 1 + 3) = 32
        · simp [z_mw, h, h1, h2, h3, h4]
        · simp [z_mw, h, h1, h2, h3, h4]
      · simp [z_mw, h, h1, h2, h3]
    · simp [z_mw, h, h1, h2]
  · simp [z_mw, h, h1]
theorem z_pW_log {c : Nat → Int32} {p : Nat} (h : c p = 108) : (z_pW c p).1 = (z_mw c [108, 111, 103, 32] p).1 ∧ (z_pW c p).2.1 = (z_mw c [108, 111, 103, 32] p).2 ∧ ((z_pW c p).1 = true → (z_pW c p).2.2 = 3) := by
  unfold z_pW z_rw z_rw3
  by_cases h1 : c (p + 1) = 111
  · by_cases h2 : c (p + 2) = 103
    · by_cases h4 : c (p + 3) = 32
      · simp [z_mw, h, h1, h2, h4]
      · simp [z_mw, h, h1, h2, h4]
    · simp [z_mw, h, h1, h2]
  · simp [z_mw, h, h1]
theorem z_pW_damp {c : Nat → Int32} {p : Nat} (h9 : ¬ c p = 99) (h8 : ¬ c p = 108) (h : c (p + 1) = 97) : (z_pW c p).1 = (z_mw c [100, 97, 109, 112, 32] p).1 ∧ (z_pW c p).2.1 = (z_mw c [100, 97, 109, 112, 32] p).2 ∧ ((z_pW c p).1 = true → (z_pW c p).2.2 = 1) := by
  unfold z_pW z_rw z_rw3
  by_cases h0 : c p = 100
  · by_cases h2 : c (p + 1 + 1) = 109
    · by_cases h3 : c (p + 1 + 2) = 112
      · by_cases h4 : c (p + 1 + 3) = 32
        · simp [z_mw, h0, h, h2, h3, h4]
        · simp [z_mw, h0, h, h2, h3, h4]
      · simp [z_mw, h0, h, h2, h3]
    · simp [z_mw, h0, h, h2]
  · simp [z_mw, h0, h9, h8]
theorem z_pW_dry {c : Nat → Int32} {p : Nat} (h9 : ¬ c p = 99) (h8 : ¬ c p = 108) (h : ¬ c (p + 1) = 97) : (z_pW c p).1 = (z_mw c [100, 114, 121, 32] p).1 ∧ (z_pW c p).2.1 = (z_mw c [100, 114, 121, 32] p).2 ∧ ((z_pW c p).1 = true → (z_pW c p).2.2 = 0) := by
  unfold z_pW z_rw z_rw3
  by_cases h0 : c p = 100
  · by_cases h1 : c (p + 1) = 114
    · by_cases h2 : c (p + 2) = 121
      · by_cases h4 : c (p + 3) = 32
        · simp [z_mw, h0, h1, h2, h4]
        · simp [z_mw, h0, h1, h2, h4]
      · simp [z_mw, h0, h1, h2]
    · simp [z_mw, h0, h1, h]
  · simp [z_mw, h0, h9, h8]
def z_P14 (t i k : Nat) : Prop := t = 12 ∧ i = 0 ∧ k = 14
theorem z_mx2.at3 {c : Nat → Int32} {len : Nat} {S S' : z_Mem} (hc : z_mx2 c len S) (hf : z_fx z_P14 S S') : z_mx2 c len S' := hc.fx hf (by unfold z_P14; omega) (fun p => by unfold z_P14; omega)
theorem s_second (d len p : Nat) (c : Nat → Int32) (S : z_Mem) (ht : z_tx len c) (hc : z_mx2 c len S) (hat : S.1 12 0 14 = nI p) (hp : p ≤ len) : z_exe z_mt true (d + 1) 144 [.inr (.inr (12, 0))] S = some (some (.inl (c (p + 1))), S) := by
  have e : z_exe z_mt true (d + 1) 144 [.inr (.inr (12, 0))] S = _ := (zx_X12_second d S 0).trans (ze_X12_second_0 _ _ _ _)
  have hl := ht.1
  rw [e, hc.1, hat, nI_1]
  by_cases q : p + 1 < len
  · rw [if_neg (by rw [z_le (by omega) (by omega)]; omega), z_oob_n (k := p + 1) (by omega) (by omega), z_cl (k := p + 1) (by omega), hc.2 (p + 1) q]
    rfl
  · rw [if_pos (by rw [z_le (by omega) (by omega)]; omega), ht.2.2 (p + 1) (by omega)]
theorem l_tw (d len fr many : Nat) (c : Nat → Int32) (ht : z_tx len c) (hfr : fr + many ≤ 14) : ∀ (r : List Int32) (k p N : Nat) (S : z_Mem), k + r.length = many → r.length < N → (∀ j x, r[j]? = some x → S.1 51 0 (fr + k + j) = x ∧ 0 ≤ x) → z_mx2 c len S → S.1 12 0 14 = nI p → p ≤ len →
    ∃ S', zr_X12_takesWord (z_exe z_mt true (d + 2)) N 2 [some (.inr (.inr (12, 0))), some (.inl (nI fr)), some (.inl (nI many)), some (.inl (nI k))] [] S = some (some (.inl (if (z_mw c (r ++ [32]) p).1 = true then 1 else 0)), S') ∧ S'.1 12 0 14 = nI (z_mw c (r ++ [32]) p).2 ∧ z_fx z_P14 S S' := by
  intro r
  induction r with
  | nil =>
    intro k p N S hk hN hl hc hat hp
    obtain ⟨N, rfl⟩ : ∃ N', N = N' + 1 := ⟨N - 1, by omega⟩
    have hk : k = many := hk
    rw [ze_X12_takesWord_2, if_pos (by rw [z_le (by omega) (by omega)]; omega)]
    have e32 : z_mw c ([] ++ [32]) p = if c p = 32 then (true, p + 1) else (false, p) := rfl
    rw [e32]
    by_cases h : c p = 32
    · rw [s_takesT d len p 32 c S ht hc hat hp h, z_rI_s, if_pos (by decide)]
      simp only [if_pos h]
      exact ⟨_, rfl, z_m14 _ _, z_fx.sI ⟨rfl, rfl, rfl⟩⟩
    · rw [s_takesF d len p 32 c S ht hc hat hp h, z_rI_s, if_pos (by decide)]
      simp only [if_neg h]
      exact ⟨S, rfl, hat, z_fx.rf⟩
  | cons x r ih =>
    intro k p N S hk hN hl hc hat hp
    obtain ⟨N, rfl⟩ : ∃ N', N = N' + 1 := ⟨N - 1, by omega⟩
    have hlen : (x :: r).length = r.length + 1 := rfl
    obtain ⟨hx, hx0⟩ := hl 0 x rfl
    have hx : S.1 51 0 (fr + k) = x := hx
    rw [ze_X12_takesWord_2, if_neg (by rw [z_le (by omega) (by omega)]; omega), nI_add, z_oob_n (k := fr + k) (by omega) (by omega), z_cl (k := fr + k) (by omega), z_cnf, hx]
    have exx : z_mw c ((x :: r) ++ [32]) p = if c p = x then z_mw c (r ++ [32]) (p + 1) else (false, p) := rfl
    rw [exx]
    by_cases h : c p = x
    · have f1 : z_fx z_P14 S (z_sI S 12 0 14 (nI (p + 1))) := z_fx.sI ⟨rfl, rfl, rfl⟩
      rw [s_takesT d len p x c S ht hc hat hp h, z_rI_s, if_neg z_01n]
      simp only [if_pos h]
      rw [nI_1]
      obtain ⟨S', e1, a1, f2⟩ := ih (k + 1) (p + 1) N (z_sI S 12 0 14 (nI (p + 1))) (by omega) (by omega) (fun j y hj => by
        obtain ⟨q1, q2⟩ := hl (j + 1) y hj
        rw [f1.i (by unfold z_P14; omega), show fr + (k + 1) + j = fr + k + (j + 1) by omega]
        exact ⟨q1, q2⟩) (hc.at3 f1) (z_m14 _ _) (ht.lt hx0 h)
      exact ⟨S', e1, a1, f1.tr f2⟩
    · rw [s_takesF d len p x c S ht hc hat hp h, z_rI_s, if_pos rfl]
      simp only [if_neg h]
      exact ⟨S, rfl, hat, z_fx.rf⟩
theorem s_tw (d len fr many p : Nat) (c : Nat → Int32) (r : List Int32) (S : z_Mem) (ht : z_tx len c) (hfr : fr + many ≤ 14) (hr : r.length = many) (hl : ∀ j x, r[j]? = some x → S.1 51 0 (fr + j) = x ∧ 0 ≤ x) (hc : z_mx2 c len S) (hat : S.1 12 0 14 = nI p) (hp : p ≤ len) :
    ∃ S', z_exe z_mt true (d + 3) 146 [.inr (.inr (12, 0)), .inl (nI fr), .inl (nI many)] S = some (some (.inl (if (z_mw c (r ++ [32]) p).1 = true then 1 else 0)), S') ∧ S'.1 12 0 14 = nI (z_mw c (r ++ [32]) p).2 ∧ z_fx z_P14 S S' := by
  have e : z_exe z_mt true (d + 3) 146 [.inr (.inr (12, 0)), .inl (nI fr), .inl (nI many)] S = _ := (zx_X12_takesWord (d + 2) S 0 (nI fr) (nI many)).trans (ze_X12_takesWord_0 _ _ _ _ _ _)
  rw [e]
  exact l_tw d len fr many c ht hfr r 0 p 999999 S (by omega) (by omega) (fun j x hj => hl j x hj) hc hat hp
theorem z_ltr4 {S : z_Mem} (h : z_let S) {fr : Nat} {r : List Int32} (hr : ∀ j x, r[j]? = some x → fr + j < 14 ∧ x = nI ([100, 114, 121, 100, 97, 109, 112, 99, 111, 111, 108, 108, 111, 103].getD (fr + j) 0) ∧ 0 ≤ x) : ∀ j x, r[j]? = some x → S.1 51 0 (fr + j) = x ∧ 0 ≤ x := fun j x hj => by
  obtain ⟨h1, h2, h3⟩ := hr j x hj
  exact ⟨(h _ h1).trans h2.symm, h3⟩
theorem z_lst {P : Nat → Int32 → Prop} {r : List Int32} (h : ∀ j, j < r.length → P j (r.getD j 0)) : ∀ j x, r[j]? = some x → P j x := fun j x hj => by
  have h1 := (List.getElem?_eq_some_iff.mp hj).1
  have h2 : r.getD j 0 = x := by rw [List.getD_eq_getElem?_getD, hj]; rfl
  rw [← h2]; exact h j h1
theorem z_let_cg {S S' : z_Mem} (h : z_let S) (e : ∀ k, k < 14 → S'.1 51 0 k = S.1 51 0 k) : z_let S' := fun k hk => (e k hk).trans (h k hk)
theorem s_head (d len p cI : Nat) (c : Nat → Int32) (S : z_Mem) (ht : z_tx len c) (hlt : z_let S) (hcI : cI < 60) (hc : z_mx2 c len S) (hat : S.1 12 0 14 = nI p) (hp : p ≤ len) :
    ∃ S', z_exe z_mt true (d + 4) 155 [.inr (.inr (12, 0)), .inl (nI cI)] S = some (some (.inl (if (z_pW c p).1 = true then 1 else 0)), S') ∧ S'.1 12 0 14 = nI (z_pW c p).2.1 ∧ ((z_pW c p).1 = true → S'.1 45 0 cI = nI (z_pW c p).2.2) ∧ z_fx (fun t i k => z_P14 t i k ∨ (t = 45 ∧ i = 0 ∧ k = cI)) S S' := by
  have e : z_exe z_mt true (d + 4) 155 [.inr (.inr (12, 0)), .inl (nI cI)] S = _ := (zx_X12_takesHead (d + 3) S 0 (nI cI)).trans (ze_X12_takesHead_0 _ _ _ _ _)
  have hz : z_oob (nI cI) 60 = false := z_oob_n (by omega) (by omega)
  have g45 : ∀ x, (z_sI S 45 0 cI x).1 45 0 cI = x := fun x => by rw [z_sI1, if_pos ⟨rfl, rfl, rfl⟩]
  -- a word behind its sign
  have go : ∀ (w fr many : Nat) (x1 x2 x3 : Int32) (r : List Int32), x1 = nI w → x2 = nI fr → x3 = nI many → fr + many ≤ 14 → r.length = many → (∀ j, j < r.length → fr + j < 14 ∧ r.getD j 0 = nI ([100, 114, 121, 100, 97, 109, 112, 99, 111, 111, 108, 108, 111, 103].getD (fr + j) 0) ∧ 0 ≤ r.getD j 0) → (z_pW c p).1 = (z_mw c (r ++ [32]) p).1 ∧ (z_pW c p).2.1 = (z_mw c (r ++ [32]) p).2 ∧ ((z_pW c p).1 = true → (z_pW c p).2.2 = w) →
      ∃ S', z_rI (z_exe z_mt true (d + 3) 146 [.inr (.inr (12, 0)), .inl x2, .inl x3] (z_sI S 45 0 cI x1)) (fun r5 S4 => if r5 &&& 1 = r5 then some (some (.inl r5), S4) else (none : Option (Option z_AV × z_Mem))) = some (some (.inl (if (z_pW c p).1 = true then 1 else 0)), S') ∧ S'.1 12 0 14 = nI (z_pW c p).2.1 ∧ ((z_pW c p).1 = true → S'.1 45 0 cI = nI (z_pW c p).2.2) ∧ z_fx (fun t i k => z_P14 t i k ∨ (t = 45 ∧ i = 0 ∧ k = cI)) S S' := by
    intro w fr many x1 x2 x3 r hx1 hx2 hx3 hfr hr hlr hpw
    obtain ⟨p1, p2, p3⟩ := hpw
    have f1 : z_fx (fun t i k => z_P14 t i k ∨ (t = 45 ∧ i = 0 ∧ k = cI)) S (z_sI S 45 0 cI x1) := z_fx.sI (Or.inr ⟨rfl, rfl, rfl⟩)
    have hc1 := hc.fx f1 (by unfold z_P14; omega) (fun p => by unfold z_P14; omega)
    obtain ⟨S', e1, a1, f2⟩ := s_tw d len fr many p c r (z_sI S 45 0 cI x1) ht hfr hr (z_ltr4 (z_let_cg hlt (fun k _ => f1.i (by unfold z_P14; omega))) (z_lst hlr)) hc1 (by rw [z_sI1, if_neg (by omega)]; exact hat) hp
    rw [hx2, hx3, e1, z_rI_s, p1, p2]
    refine ⟨S', ?_, a1, fun z => ?_, f1.tr (f2.wk (fun t i k q => Or.inl q))⟩
    · by_cases q : (z_mw c (r ++ [32]) p).1 = true
      · rw [if_pos q, if_pos (by decide)]
      · rw [if_neg q, if_pos (by decide)]
    · rw [f2.i (by unfold z_P14; omega), g45, p3 (by rw [p1]; exact z), hx1]
  rw [e, s_next (d + 2) len p c S ht hc hat hp, z_rI_s]
  by_cases h9 : c p = 99
  · rw [if_pos h9, hz, z_cl (k := cI) (by omega), z_cnf]
    exact go 2 7 4 2 7 4 [99, 111, 111, 108] rfl rfl rfl (by decide) rfl (by decide) (z_pW_cool h9)
  rw [if_neg h9]
  by_cases h8 : c p = 108
  · rw [if_pos h8, hz, z_cl (k := cI) (by omega), z_cnf]
    exact go 3 11 3 3 11 3 [108, 111, 103] rfl rfl rfl (by decide) rfl (by decide) (z_pW_log h8)
  rw [if_neg h8, s_second (d + 2) len p c S ht hc hat hp, z_rI_s]
  by_cases h7 : c (p + 1) = 97
  · rw [if_pos h7, hz, z_cl (k := cI) (by omega), z_cnf]
    try dsimp only
    rw [z_cnf, g45, if_pos rfl]
    exact go 1 3 4 1 3 4 [100, 97, 109, 112] rfl rfl rfl (by decide) rfl (by decide) (z_pW_damp h9 h8 h7)
  · rw [if_neg h7, hz, z_cl (k := cI) (by omega), z_cnf]
    try dsimp only
    rw [z_cnf, g45, if_neg (by decide)]
    exact go 0 0 3 0 0 3 [100, 114, 121] rfl rfl rfl (by decide) rfl (by decide) (z_pW_dry h9 h8 h7)
/-- a clause as the model reads it -/
def z_Pmc (A cI : Nat) (t i k : Nat) : Prop := z_PmE A cI t i k ∨ ((t = 45 ∨ t = 46) ∧ i = 0 ∧ k = cI)
theorem s_mclause (c : Nat → Int32) (len A cI d p : Nat) (ht : z_tx len c) (hA : A ≤ 500) (hcI : cI < 60) (out : List z_Tk) (S : z_Mem) (hlt : z_let S) (hc : z_mx2 c len S) (hat : S.1 12 0 14 = nI p) (hp : p ≤ len) (ho : out.length ≤ p) (h24 : S.1 12 0 24 = nI (A + out.length)) (htk : z_tkl (S.1 49 0) z_ts A out) :
    ∃ S', z_exe z_mt true (d + 6) 156 [.inr (.inr (12, 0)), .inl (nI cI)] S = some (some (.inl (if (z_pC c len p).1 = true then 1 else 0)), S') ∧ S'.1 12 0 14 = nI (z_pC c len p).2.1 ∧
      ((z_pC c len p).1 = true → S'.1 12 0 24 = nI (A + (out ++ (z_pC c len p).2.2.2.2).length) ∧ z_tkl (S'.1 49 0) z_ts A (out ++ (z_pC c len p).2.2.2.2) ∧ S'.1 45 0 cI = nI (z_pC c len p).2.2.1 ∧ S'.1 46 0 cI = nI (z_pC c len p).2.2.2.1 ∧ ((z_pC c len p).2.2.1 < 2 → S'.1 47 0 cI = nI (A + out.length) ∧ S'.1 48 0 cI = nI (A + (out ++ (z_pC c len p).2.2.2.2).length))) ∧ z_fx (z_Pmc A cI) S S' := by
  have e : z_exe z_mt true (d + 6) 156 [.inr (.inr (12, 0)), .inl (nI cI)] S = _ := (zx_X12_takesClause (d + 5) S 0 (nI cI)).trans (ze_X12_takesClause_0 _ _ _ _ _)
  have hl := ht.1
  have hz : z_oob (nI cI) 60 = false := z_oob_n (by omega) (by omega)
  obtain ⟨S1, e1, a1, b1, f1⟩ := s_head (d + 1) len p cI c S ht hlt hcI hc hat hp
  obtain ⟨w1, w2, w3⟩ := z_pW_ok ht hp
  have f1' : z_fx (z_Pmc A cI) S S1 := f1.wk (fun t i k q => q.elim (fun q => Or.inl (Or.inl (by unfold z_P14 at q; unfold z_Pme; omega))) (fun q => Or.inr (by omega)))
  have hc1 := hc.fx f1 (by unfold z_P14; omega) (fun p => by unfold z_P14; omega)
  rw [e, e1, z_rI_s]
  unfold z_pC
  by_cases h1 : (z_pW c p).1 = true
  · rw [if_pos h1, if_neg z_01n]
    simp only [if_pos h1]
    obtain ⟨k4, k5⟩ := w3 h1
    obtain ⟨S2, e2, a2, b2, f2⟩ := s_mnum (d + 2) len (z_pW c p).2.1 c S1 ht hc1 a1 w2
    obtain ⟨n1, n2, n3⟩ := z_nm_ok ht w2
    have f2' : z_fx (z_Pmc A cI) S1 S2 := f2.wk (fun t i k q => Or.inl (Or.inl (by unfold z_Pme; omega)))
    have hc2 := hc1.fx f2 (by omega) (fun p => by omega)
    rw [e2, z_rI_s]
    by_cases h2 : (z_nm c (z_pW c p).2.1).1 = true
    · obtain ⟨n4, n5⟩ := n3 h2
      have f3 : z_fx (z_Pmc A cI) S2 (z_sI S2 46 0 cI (nI (z_nm c (z_pW c p).2.1).2.2)) := z_fx.sI (Or.inr ⟨Or.inr rfl, rfl, rfl⟩)
      have hc3 := hc2.fx f3 (by unfold z_Pmc z_PmE z_Pme; omega) (fun p => by unfold z_Pmc z_PmE z_Pme; omega)
      have F3 := (f1'.tr f2').tr f3
      have g45 : (z_sI S2 46 0 cI (nI (z_nm c (z_pW c p).2.1).2.2)).1 45 0 cI = nI (z_pW c p).2.2 := by rw [z_sI1, if_neg (by omega), f2.i (by omega)]; exact b1 h1
      have g46 : (z_sI S2 46 0 cI (nI (z_nm c (z_pW c p).2.1).2.2)).1 46 0 cI = nI (z_nm c (z_pW c p).2.1).2.2 := by rw [z_sI1, if_pos ⟨rfl, rfl, rfl⟩]
      have g14 : (z_sI S2 46 0 cI (nI (z_nm c (z_pW c p).2.1).2.2)).1 12 0 14 = nI (z_nm c (z_pW c p).2.1).2.1 := by rw [z_sI1, if_neg (by omega)]; exact a2
      have g24 : (z_sI S2 46 0 cI (nI (z_nm c (z_pW c p).2.1).2.2)).1 12 0 24 = nI (A + out.length) := by rw [z_sI1, if_neg (by omega), f2.i (by omega), f1.i (by unfold z_P14; omega)]; exact h24
      have gtk : z_tkl ((z_sI S2 46 0 cI (nI (z_nm c (z_pW c p).2.1).2.2)).1 49 0) z_ts A out := z_tk_cg htk (fun k hk => by rw [z_sI1, if_neg (by omega), f2.i (by omega), f1.i (by unfold z_P14; omega)])
      rw [if_pos h2, if_neg z_01n, hz, z_cl (k := cI) (by omega), z_cnf, b2 h2]
      try dsimp only
      rw [z_cnf, g45]
      simp only [if_pos h2]
      by_cases h3 : 2 ≤ (z_pW c p).2.2
      · rw [if_pos (by rw [show (2 : Int32) = nI 2 from rfl, z_le (by omega) (by omega)]; exact h3)]
        simp only [if_pos h3]
        refine ⟨_, rfl, g14, fun _ => ⟨by rw [List.append_nil]; exact g24, by rw [List.append_nil]; exact gtk, g45, g46, fun z => by omega⟩, F3⟩
      · rw [if_neg (by rw [show (2 : Int32) = nI 2 from rfl, z_le (by omega) (by omega)]; exact h3)]
        simp only [if_neg h3]
        by_cases h4 : c (z_nm c (z_pW c p).2.1).2.1 = 32
        · have l4 := ht.lt (by decide) h4
          have f4 : z_fx z_P14 (z_sI S2 46 0 cI (nI (z_nm c (z_pW c p).2.1).2.2)) (z_sI (z_sI S2 46 0 cI (nI (z_nm c (z_pW c p).2.1).2.2)) 12 0 14 (nI ((z_nm c (z_pW c p).2.1).2.1 + 1))) := z_fx.sI ⟨rfl, rfl, rfl⟩
          rw [s_takesT (d + 3) len _ 32 c _ ht hc3 g14 n2 h4, z_rI_s, if_neg z_01n]
          simp only [if_pos h4]
          obtain ⟨S5, e5, a5, b5, f5⟩ := s_takesE c len A cI d ((z_nm c (z_pW c p).2.1).2.1 + 1) ht hA hcI out _ (hc3.at3 f4) (z_m14 _ _) (by omega) (by omega) (by rw [f4.i (by unfold z_P14; omega)]; exact g24) (z_tk_cg gtk (fun k hk => f4.i (by unfold z_P14; omega)))
          have f4' : z_fx (z_Pmc A cI) _ _ := f4.wk (fun t i k q => Or.inl (Or.inl (by unfold z_P14 at q; unfold z_Pme; omega)))
          have F5 := (F3.tr f4').tr (f5.wk (fun t i k q => Or.inl q))
          rw [e5, z_rI_s]
          by_cases h5 : (z_pE c len (z_pP c len 4) ((z_nm c (z_pW c p).2.1).2.1 + 1)).1 = true
          · obtain ⟨q1, q2, q3, q4⟩ := b5 h5
            rw [if_pos h5, if_neg z_01n]
            simp only [if_pos h5]
            refine ⟨S5, rfl, a5, fun _ => ⟨q1, q2, ?_, ?_, fun _ => ⟨q3, q4⟩⟩, F5⟩
            · rw [f5.i (by unfold z_PmE z_Pme; omega), f4.i (by unfold z_P14; omega)]; exact g45
            · rw [f5.i (by unfold z_PmE z_Pme; omega), f4.i (by unfold z_P14; omega)]; exact g46
          · rw [if_neg h5, if_pos rfl]
            simp only [if_neg h5]
            exact ⟨S5, rfl, a5, fun z => absurd z Bool.false_ne_true, F5⟩
        · rw [s_takesF (d + 3) len _ 32 c _ ht hc3 g14 n2 h4, z_rI_s, if_pos rfl]
          simp only [if_neg h4]
          exact ⟨_, rfl, g14, fun z => absurd z Bool.false_ne_true, F3⟩
    · rw [if_neg h2, if_pos rfl]
      simp only [if_neg h2]
      exact ⟨S2, rfl, a2, fun z => absurd z Bool.false_ne_true, f1'.tr f2'⟩
  · rw [if_neg h1, if_pos rfl]
    simp only [if_neg h1]
    exact ⟨S1, rfl, a1, fun z => absurd z Bool.false_ne_true, f1'⟩
