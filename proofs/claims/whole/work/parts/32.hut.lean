/-! ===== what a hut says: tokens, their value ===== -/
/-- a test's value on the facts -/
def z_tst (F : Nat → Int32) (c : Nat) : Bool :=
  cond (Nat.beq (c / 100 % 3) 0) (decide ((if c / 100 / 3 < 6 then F (c / 100 / 3) else 0) < nI (c % 100)))
    (cond (Nat.beq (c / 100 % 3) 1) (decide ((if c / 100 / 3 < 6 then F (c / 100 / 3) else 0) = nI (c % 100))) (decide (nI (c % 100) < (if c / 100 / 3 < 6 then F (c / 100 / 3) else 0))))
/-- tokens: (0, c) a test, (1, _) not, (2, _) and, (3, _) or -/
abbrev z_Tk : Type := Nat × Nat
def z_tc (t : z_Tk) : Int32 := match t.1 with
  | 0 => nI t.2
  | 1 => -1
  | 2 => -2
  | _ => -3
def z_ev1 (F : Nat → Int32) (t : z_Tk) (st : List Bool) : List Bool := match t.1, st with
  | 0, st => z_tst F t.2 :: st
  | 1, b :: r => (!b) :: r
  | 2, a :: b :: r => (b && a) :: r
  | 3, a :: b :: r => (b || a) :: r
  | _, st => st
def z_ev (F : Nat → Int32) : List z_Tk → List Bool → List Bool
  | [], st => st
  | t :: r, st => z_ev F r (z_ev1 F t st)
/-- tokens that go from depth k to depth e -/
def z_wf : List z_Tk → Nat → Nat → Prop
  | [], k, e => k = e
  | t :: r, k, e => (t.1 = 0 ∧ t.2 < 1800 ∧ k < 11 ∧ z_wf r (k + 1) e) ∨ (t.1 = 1 ∧ 1 ≤ k ∧ z_wf r k e) ∨ (t.1 = 2 ∧ 2 ≤ k ∧ z_wf r (k - 1) e) ∨ (t.1 = 3 ∧ 2 ≤ k ∧ z_wf r (k - 1) e)
/-- bits, the latest lowest -/
def z_nb : List Bool → Nat
  | [] => 0
  | b :: r => 2 * z_nb r + (if b then 1 else 0)
theorem z_nb_lt : ∀ l : List Bool, z_nb l < 2 ^ l.length
  | [] => by decide
  | b :: r => by
    have h := z_nb_lt r
    show 2 * z_nb r + (if b then 1 else 0) < 2 ^ (r.length + 1)
    rw [Nat.pow_succ]
    split <;> omega
theorem hb_all : ((List.range 4096).all fun a =>
    decide ((nI a <<< ((1 : Int32) &&& 31)) ||| (1 : Int32) = nI (2 * a + 1)) && decide ((nI a <<< ((1 : Int32) &&& 31)) ||| (0 : Int32) = nI (2 * a)) && decide (nI a &&& 1 = nI (a % 2)) &&
    decide (nI a ^^^ 1 = nI (if a % 2 = 0 then a + 1 else a - 1)) &&
    decide ((nI a >>> ((1 : Int32) &&& 31)) &&& ((nI a &&& 1) ||| (-2 : Int32)) = nI (if a % 2 = 1 then a / 2 else a / 2 - a / 2 % 2)) &&
    decide ((nI a >>> ((1 : Int32) &&& 31)) ||| (nI a &&& 1) = nI (if a % 2 = 0 then a / 2 else a / 2 - a / 2 % 2 + 1))) = true := by decide +kernel
theorem hb_of {a : Nat} (h : a < 4096) : ((nI a <<< ((1 : Int32) &&& 31)) ||| (1 : Int32) = nI (2 * a + 1)) ∧ ((nI a <<< ((1 : Int32) &&& 31)) ||| (0 : Int32) = nI (2 * a)) ∧ (nI a &&& 1 = nI (a % 2)) ∧
    (nI a ^^^ 1 = nI (if a % 2 = 0 then a + 1 else a - 1)) ∧
    ((nI a >>> ((1 : Int32) &&& 31)) &&& ((nI a &&& 1) ||| (-2 : Int32)) = nI (if a % 2 = 1 then a / 2 else a / 2 - a / 2 % 2)) ∧
    ((nI a >>> ((1 : Int32) &&& 31)) ||| (nI a &&& 1) = nI (if a % 2 = 0 then a / 2 else a / 2 - a / 2 % 2 + 1)) := by
  have k := List.all_eq_true.mp hb_all a (List.mem_range.mpr h)
  simp only [Bool.and_eq_true, decide_eq_true_eq] at k
  obtain ⟨⟨⟨⟨⟨k1, k2⟩, k3⟩, k4⟩, k5⟩, k6⟩ := k
  exact ⟨k1, k2, k3, k4, k5, k6⟩
theorem s_isTrue (d h c : Nat) (S : z_Mem) (hc : c < 1800) : z_exe z_mt true (d + 1) 26 [.inr (.inr (4, h)), .inl (nI c)] S = some (some (.inl (if z_tst (S.1 24 h) c then 1 else 0)), S) := by
  have e : z_exe z_mt true (d + 1) 26 [.inr (.inr (4, h)), .inl (nI c)] S = _ := (zx_X3_isTrue d S h (nI c)).trans (ze_X3_isTrue_0 _ _ _ _ _)
  have n100 : ¬ (100 : Int32) = 0 := by decide
  have n3 : ¬ (3 : Int32) = 0 := by decide
  have e2 : nI c / 100 = nI (c / 100) := pk_div (d := 100) (by omega) (by omega) (by omega)
  have e3 : nI (c / 100) / 3 = nI (c / 100 / 3) := pk_div (d := 3) (by omega) (by omega) (by omega)
  have e1 : nI c - nI (c / 100) * 100 = nI (c % 100) := by rw [← e2]; exact pk_rem (d := 100) (by omega) (by omega) (by omega)
  have e4 : nI (c / 100) - nI (c / 100 / 3) * 3 = nI (c / 100 % 3) := by rw [← e3]; exact pk_rem (d := 3) (by omega) (by omega) (by omega)
  rw [e]
  simp only [if_neg n100, if_neg n3, e1, e2, e3, e4]
  unfold z_tst
  have h6 : ((6 : Int32) ≤ nI (c / 100 / 3)) ↔ 6 ≤ c / 100 / 3 := z_le (a := 6) (by omega) (by omega)
  have hs : c / 100 % 3 = 0 ∨ c / 100 % 3 = 1 ∨ c / 100 % 3 = 2 := by omega
  by_cases hl : c / 100 / 3 < 6
  · rw [if_neg (fun q => by have := h6.mp q; omega), z_oob_n (by omega) (by omega), z_cl (by omega), if_pos hl]
    dsimp only [cond]
    rcases hs with hs | hs | hs <;> rw [hs]
    · rw [if_pos (by decide)]
      by_cases q : nI (c % 100) ≤ S.1 24 h (c / 100 / 3)
      · rw [if_pos q]; simp [Nat.beq, Int32.not_lt.mpr q]
      · rw [if_neg q]; simp [Nat.beq, Int32.not_le.mp q]
    · rw [if_neg (by decide), if_pos (by decide)]
      by_cases q : S.1 24 h (c / 100 / 3) = nI (c % 100)
      · rw [if_pos q]; simp [Nat.beq, q]
      · rw [if_neg q]; simp [Nat.beq, q]
    · rw [if_neg (by decide), if_neg (by decide)]
      by_cases q : S.1 24 h (c / 100 / 3) ≤ nI (c % 100)
      · rw [if_pos q]; simp [Nat.beq, Int32.not_lt.mpr q]
      · rw [if_neg q]; simp [Nat.beq, Int32.not_le.mp q]
  · have h7 : c / 100 / 3 < 7 := by omega
    omega
theorem z_nb_sm {l : List Bool} (h : l.length ≤ 12) : z_nb l < 4096 := Nat.lt_of_lt_of_le (z_nb_lt l) (Nat.le_trans (Nat.pow_le_pow_right (by decide) h) (by decide))
/-- one token, one turn of the class's loop -/
theorem l_tok1 (d h len i N : Nat) (ex cl : Int32) (S : z_Mem) (t : z_Tk) (st : List Bool) (hlen : S.1 4 h 2 = nI len) (hl : len ≤ 100) (hi : i < len) (hp : S.1 22 h i = z_tc t) (e : Nat) (r : List z_Tk) (hw : z_wf (t :: r) st.length e) (hst : st.length ≤ 11) :
    zr_X3_extraFor (z_exe z_mt true (d + 1)) (N + 1) 72 [some (.inr (.inr (4, h))), none, none, none, some (.inl ex), some (.inl cl), some (.inl (nI (z_nb st))), some (.inl (nI i)), none, none] [] S =
    zr_X3_extraFor (z_exe z_mt true (d + 1)) N 72 [some (.inr (.inr (4, h))), none, none, none, some (.inl ex), some (.inl cl), some (.inl (nI (z_nb (z_ev1 (S.1 24 h) t st)))), some (.inl (nI (i + 1))), none, none] [] S ∧ z_wf r (z_ev1 (S.1 24 h) t st).length e ∧ (z_ev1 (S.1 24 h) t st).length ≤ 11 := by
  have k0 : ¬ S.1 4 h 2 ≤ nI i := by rw [hlen, z_le (by omega) (by omega)]; omega
  have hnb := z_nb_sm (l := st) (by omega)
  obtain ⟨b1, b2, b3, b4, b5, b6⟩ := hb_of hnb
  obtain ⟨t1, t2⟩ := t
  rw [ze_X3_extraFor_72, if_neg k0, z_oob_n (by omega) (by omega), z_cl (by omega), hp]
  dsimp only [cond]
  rcases hw with ⟨ht, hc, hk, hw⟩ | ⟨ht, hk, hw⟩ | ⟨ht, hk, hw⟩ | ⟨ht, hk, hw⟩ <;> dsimp only at ht <;> subst ht
  · dsimp only at hc
    have e1 : z_tc (0, t2) = nI t2 := rfl
    have e2 : z_ev1 (S.1 24 h) (0, t2) st = z_tst (S.1 24 h) t2 :: st := rfl
    rw [e1, e2, if_neg (nI_pos (by omega)), s_isTrue d h t2 S hc, z_rI_s, nI_1]
    refine ⟨?_, hw, by show st.length + 1 ≤ 11; omega⟩
    cases hb : z_tst (S.1 24 h) t2 with
    | true => rw [if_pos rfl, if_neg (by decide), b1]; rfl
    | false => rw [if_pos (by decide), b2]; rfl
  · match st, hk with
    | b :: r', hk =>
      have e1 : z_tc (1, t2) = -1 := rfl
      have e2 : z_ev1 (S.1 24 h) (1, t2) (b :: r') = (!b) :: r' := rfl
      rw [e1, e2, if_pos (by decide), if_pos rfl, nI_1, b4]
      refine ⟨?_, hw, hst⟩
      have e3 : (if z_nb (b :: r') % 2 = 0 then z_nb (b :: r') + 1 else z_nb (b :: r') - 1) = z_nb ((!b) :: r') := by
        show (if (2 * z_nb r' + (if b then 1 else 0)) % 2 = 0 then (2 * z_nb r' + (if b then 1 else 0)) + 1 else (2 * z_nb r' + (if b then 1 else 0)) - 1) = 2 * z_nb r' + (if (!b) then 1 else 0)
        cases b <;> simp <;> omega
      rw [e3]
  · match st, hk with
    | a :: b :: r', hk =>
      have e1 : z_tc (2, t2) = -2 := rfl
      have e2 : z_ev1 (S.1 24 h) (2, t2) (a :: b :: r') = (b && a) :: r' := rfl
      rw [e1, e2, if_pos (by decide), if_neg (by decide), if_pos rfl, nI_1, b5]
      refine ⟨?_, hw, by have : r'.length + 2 ≤ 11 := hst; show r'.length + 1 ≤ 11; omega⟩
      have e3 : (if z_nb (a :: b :: r') % 2 = 1 then z_nb (a :: b :: r') / 2 else z_nb (a :: b :: r') / 2 - z_nb (a :: b :: r') / 2 % 2) = z_nb ((b && a) :: r') := by
        show (if (2 * (2 * z_nb r' + (if b then 1 else 0)) + (if a then 1 else 0)) % 2 = 1 then (2 * (2 * z_nb r' + (if b then 1 else 0)) + (if a then 1 else 0)) / 2 else (2 * (2 * z_nb r' + (if b then 1 else 0)) + (if a then 1 else 0)) / 2 - (2 * (2 * z_nb r' + (if b then 1 else 0)) + (if a then 1 else 0)) / 2 % 2) = 2 * z_nb r' + (if (b && a) then 1 else 0)
        cases a <;> cases b <;> simp <;> omega
      rw [e3]
  · match st, hk with
    | a :: b :: r', hk =>
      have e1 : z_tc (3, t2) = -3 := rfl
      have e2 : z_ev1 (S.1 24 h) (3, t2) (a :: b :: r') = (b || a) :: r' := rfl
      rw [e1, e2, if_pos (by decide), if_neg (by decide), if_neg (by decide), if_pos rfl, nI_1, b6]
      refine ⟨?_, hw, by have : r'.length + 2 ≤ 11 := hst; show r'.length + 1 ≤ 11; omega⟩
      have e3 : (if z_nb (a :: b :: r') % 2 = 0 then z_nb (a :: b :: r') / 2 else z_nb (a :: b :: r') / 2 - z_nb (a :: b :: r') / 2 % 2 + 1) = z_nb ((b || a) :: r') := by
        show (if (2 * (2 * z_nb r' + (if b then 1 else 0)) + (if a then 1 else 0)) % 2 = 0 then (2 * (2 * z_nb r' + (if b then 1 else 0)) + (if a then 1 else 0)) / 2 else (2 * (2 * z_nb r' + (if b then 1 else 0)) + (if a then 1 else 0)) / 2 - (2 * (2 * z_nb r' + (if b then 1 else 0)) + (if a then 1 else 0)) / 2 % 2 + 1) = 2 * z_nb r' + (if (b || a) then 1 else 0)
        cases a <;> cases b <;> simp <;> omega
      rw [e3]
theorem l_toks (d h len : Nat) (ex cl : Int32) (S : z_Mem) (hlen : S.1 4 h 2 = nI len) (hl : len ≤ 100) (e : Nat) : ∀ (r : List z_Tk) (st : List Bool) (i N : Nat), i + r.length ≤ len → (∀ k t, r[k]? = some t → S.1 22 h (i + k) = z_tc t) → z_wf r st.length e → st.length ≤ 11 →
    zr_X3_extraFor (z_exe z_mt true (d + 1)) (N + r.length) 72 [some (.inr (.inr (4, h))), none, none, none, some (.inl ex), some (.inl cl), some (.inl (nI (z_nb st))), some (.inl (nI i)), none, none] [] S =
    zr_X3_extraFor (z_exe z_mt true (d + 1)) N 72 [some (.inr (.inr (4, h))), none, none, none, some (.inl ex), some (.inl cl), some (.inl (nI (z_nb (z_ev (S.1 24 h) r st)))), some (.inl (nI (i + r.length))), none, none] [] S ∧ (z_ev (S.1 24 h) r st).length = e := by
  intro r
  induction r with
  | nil => intro st i N hi hp hw hst; exact ⟨rfl, hw⟩
  | cons t r ih =>
    intro st i N hi hp hw hst
    rw [List.length_cons] at hi ⊢
    obtain ⟨k1, k2, k3⟩ := l_tok1 d h len i (N + r.length) ex cl S t st hlen hl (by omega) (hp 0 t rfl) e r hw hst
    obtain ⟨k4, k5⟩ := ih (z_ev1 (S.1 24 h) t st) (i + 1) N (by omega) (fun k t' hk => by rw [show i + 1 + k = i + (k + 1) by omega]; exact hp (k + 1) t' hk) k2 k3
    refine ⟨?_, k5⟩
    rw [← Nat.add_assoc, k1, k4, show i + 1 + r.length = i + (r.length + 1) by omega]
    rfl
/-! ===== a hut: clauses (word, number, tokens); words 0 dry, 1 damp, 2 cool, 3 log ===== -/
abbrev z_H : Type := List (Nat × (Nat × List z_Tk))
def z_last (w : Nat) : z_H → Int32 → Int32
  | [], x => x
  | c :: r, x => z_last w r (if c.1 = w then nI c.2.1 else x)
/-- what a clause adds to x -/
def z_ex1 (F : Nat → Int32) (c : Nat × (Nat × List z_Tk)) (x : Int32) : Int32 :=
  if c.1 < 2 then (if (z_ev F c.2.2 []).head? = some true then (if c.1 = 0 then x + nI c.2.1 else x - nI c.2.1) else x) else x
def z_ext (F : Nat → Int32) : z_H → Int32 → Int32
  | [], x => x
  | c :: r, x => z_ext F r (z_ex1 F c x)
def z_prog : z_H → List Int32
  | [] => []
  | c :: r => (if c.1 < 2 then c.2.2.map z_tc ++ [-4] else []) ++ z_prog r
def z_am (c : Nat × (Nat × List z_Tk)) : Int32 := if c.1 = 0 then nI c.2.1 else -nI c.2.1
def z_ams : z_H → List Int32
  | [] => []
  | c :: r => (if c.1 < 2 then [z_am c] else []) ++ z_ams r
def z_hwf (H : z_H) : Prop := ∀ c ∈ H, c.1 < 4 ∧ c.2.1 < 100 ∧ (c.1 < 2 → z_wf c.2.2 0 1)
/-- the class's hut h is H -/
def z_Hc (h : Nat) (H : z_H) (S : z_Mem) : Prop :=
  (S.1 4 h 0 = z_last 2 H 1 ∧ S.1 4 h 1 = z_last 3 H 6) ∧ (S.1 4 h 2 = nI (z_prog H).length ∧ (z_prog H).length ≤ 100 ∧ ∀ k x, (z_prog H)[k]? = some x → S.1 22 h k = x) ∧
  (S.1 4 h 4 = nI (z_ams H).length ∧ (z_ams H).length ≤ 10 ∧ ∀ k x, (z_ams H)[k]? = some x → S.1 23 h k = x)
theorem z_Hc.fx {h : Nat} {H : z_H} {S S' : z_Mem} (hH : z_Hc h H S) {P : Nat → Nat → Nat → Prop} (hf : z_fx P S S') (h4 : ∀ k, ¬ P 4 h k) (h22 : ∀ k, ¬ P 22 h k) (h23 : ∀ k, ¬ P 23 h k) : z_Hc h H S' := by
  have e4 : ∀ k, S'.1 4 h k = S.1 4 h k := fun k => (hf.1 4 h k (h4 k)).1
  have e22 : ∀ k, S'.1 22 h k = S.1 22 h k := fun k => (hf.1 22 h k (h22 k)).1
  have e23 : ∀ k, S'.1 23 h k = S.1 23 h k := fun k => (hf.1 23 h k (h23 k)).1
  obtain ⟨⟨a1, a2⟩, ⟨b1, b2, b3⟩, c1, c2, c3⟩ := hH
  exact ⟨⟨(e4 0).trans a1, (e4 1).trans a2⟩, ⟨(e4 2).trans b1, b2, fun k x q => (e22 k).trans (b3 k x q)⟩, (e4 4).trans c1, c2, fun k x q => (e23 k).trans (c3 k x q)⟩
theorem z_tst_cg {F G : Nat → Int32} (h : ∀ k, k < 6 → F k = G k) (c : Nat) : z_tst F c = z_tst G c := by
  unfold z_tst
  by_cases q : c / 100 / 3 < 6
  · rw [if_pos q, if_pos q, h _ q]
  · rw [if_neg q, if_neg q]
theorem z_ev1_cg {F G : Nat → Int32} (h : ∀ k, k < 6 → F k = G k) (t : z_Tk) (st : List Bool) : z_ev1 F t st = z_ev1 G t st := by
  unfold z_ev1
  rw [z_tst_cg h]
theorem z_ev_cg {F G : Nat → Int32} (h : ∀ k, k < 6 → F k = G k) : ∀ (r : List z_Tk) (st : List Bool), z_ev F r st = z_ev G r st
  | [], _ => rfl
  | t :: r, st => by
    show z_ev F r (z_ev1 F t st) = z_ev G r (z_ev1 G t st)
    rw [z_ev1_cg h, z_ev_cg h r]
theorem z_ext_cg {F G : Nat → Int32} (h : ∀ k, k < 6 → F k = G k) : ∀ (H : z_H) (x : Int32), z_ext F H x = z_ext G H x
  | [], _ => rfl
  | c :: r, x => by
    show z_ext F r (z_ex1 F c x) = z_ext G r (z_ex1 G c x)
    rw [show z_ex1 F c x = z_ex1 G c x by unfold z_ex1; rw [z_ev_cg h], z_ext_cg h r]
theorem z_ext_add (F : Nat → Int32) (a : Int32) : ∀ (H : z_H) (x : Int32), z_ext F H (a + x) = a + z_ext F H x
  | [], _ => rfl
  | c :: r, x => by
    show z_ext F r (z_ex1 F c (a + x)) = a + z_ext F r (z_ex1 F c x)
    rw [← z_ext_add F a r]
    congr 1
    unfold z_ex1
    split
    · split
      · split
        · rw [Int32.add_assoc]
        · rw [Int32.sub_eq_add_neg, Int32.sub_eq_add_neg, Int32.add_assoc]
      · rfl
    · rfl
/-- the loop of the class over what is left of the clauses -/
theorem l_cls (d h len many : Nat) (S : z_Mem) (hlen : S.1 4 h 2 = nI len) (hl : len ≤ 100) (hm : S.1 4 h 4 = nI many) (hm2 : many ≤ 10) : ∀ (R : z_H) (i cl N : Nat) (ex : Int32), z_hwf R → i + (z_prog R).length = len → cl + (z_ams R).length = many →
    (∀ k x, (z_prog R)[k]? = some x → S.1 22 h (i + k) = x) → (∀ k x, (z_ams R)[k]? = some x → S.1 23 h (cl + k) = x) → (z_prog R).length < N →
    zr_X3_extraFor (z_exe z_mt true (d + 1)) N 72 [some (.inr (.inr (4, h))), none, none, none, some (.inl ex), some (.inl (nI cl)), some (.inl (0 : Int32)), some (.inl (nI i)), none, none] [] S = some (some (.inl (z_ext (S.1 24 h) R ex)), S) := by
  intro R
  induction R with
  | nil =>
    intro i cl N ex hw hi hc hp ha hN
    obtain ⟨N, rfl⟩ : ∃ N', N = N' + 1 := ⟨N - 1, by omega⟩
    have hi : i + 0 = len := hi
    rw [ze_X3_extraFor_72, if_pos (by rw [hlen, z_le (by omega) (by omega)]; omega)]
    rfl
  | cons c R ih =>
    intro i cl N ex hw hi hc hp ha hN
    have hwR : z_hwf R := fun c' hc' => hw c' (List.mem_cons_of_mem _ hc')
    obtain ⟨w1, w2, w3⟩ := hw c List.mem_cons_self
    show _ = some (some (Sum.inl (z_ext (S.1 24 h) R (z_ex1 (S.1 24 h) c ex))), S)
    by_cases c2 : c.1 < 2
    · have ep : z_prog (c :: R) = c.2.2.map z_tc ++ (-4 :: z_prog R) := by
        show (if c.1 < 2 then c.2.2.map z_tc ++ [-4] else []) ++ z_prog R = _
        rw [if_pos c2, List.append_assoc]
        rfl
      have ea : z_ams (c :: R) = z_am c :: z_ams R := by
        show (if c.1 < 2 then [z_am c] else []) ++ z_ams R = _
        rw [if_pos c2]
        rfl
      rw [ep] at hi hp hN
      rw [ea] at hc ha
      have el : (c.2.2.map z_tc ++ (-4 :: z_prog R)).length = c.2.2.length + 1 + (z_prog R).length := by
        rw [List.length_append, List.length_map, List.length_cons]
        omega
      rw [el] at hi hN
      rw [List.length_cons] at hc
      obtain ⟨N, rfl⟩ : ∃ N', N = N' + 1 + c.2.2.length := ⟨N - 1 - c.2.2.length, by omega⟩
      have hpt : ∀ k t, c.2.2[k]? = some t → S.1 22 h (i + k) = z_tc t := by
        intro k t hk
        refine hp k _ ?_
        have hk2 := (List.getElem?_eq_some_iff.mp hk).1
        rw [List.getElem?_append_left (by rw [List.length_map]; exact hk2), List.getElem?_map, hk]
        rfl
      obtain ⟨k1, k2⟩ := l_toks d h len ex (nI cl) S hlen hl 1 c.2.2 [] i (N + 1) (by omega) hpt (w3 c2) (by decide)
      have k1' := k1
      rw [show z_nb [] = 0 from rfl, nI_0] at k1'
      rw [k1']
      have hend : S.1 22 h (i + c.2.2.length) = -4 := by
        refine hp c.2.2.length _ ?_
        rw [List.getElem?_append_right (by rw [List.length_map]; omega), List.length_map, Nat.sub_self]
        rfl
      have ham : S.1 23 h cl = z_am c := ha 0 _ rfl
      have h1 : ¬ S.1 4 h 2 ≤ nI (i + c.2.2.length) := by rw [hlen, z_le (by omega) (by omega)]; omega
      have h2 : ¬ S.1 4 h 4 ≤ nI cl := by rw [hm, z_le (by omega) (by omega)]; omega
      rw [ze_X3_extraFor_72, if_neg h1, z_oob_n (k := i + c.2.2.length) (by omega) (by omega), z_cl (by omega), hend]
      dsimp only [cond]
      rw [if_pos (by decide), if_neg (by decide), if_neg (by decide), if_neg (by decide), if_neg h2, z_oob_n (k := cl) (by omega) (by omega), z_cl (by omega), ham, nI_1, nI_1]
      dsimp only [cond]
      rw [ih (i + c.2.2.length + 1) (cl + 1) N _ hwR (by omega) (by omega) (fun k x hk => by
        rw [show i + c.2.2.length + 1 + k = i + (c.2.2.length + 1 + k) by omega]
        refine hp _ x ?_
        rw [List.getElem?_append_right (by rw [List.length_map]; omega), List.length_map, show c.2.2.length + 1 + k - c.2.2.length = k + 1 by omega]
        exact hk) (fun k x hk => by
        rw [show cl + 1 + k = cl + (k + 1) by omega]
        exact ha (k + 1) x hk) (by omega)]
      congr 4
      unfold z_ex1
      rw [if_pos c2]
      match hz : z_ev (S.1 24 h) c.2.2 [], k2 with
      | [true], _ =>
        rw [if_pos (show [true].head? = some true from rfl), show nI (z_nb [true]) &&& 1 = 1 by decide, Int32.one_mul]
        unfold z_am
        by_cases c0 : c.1 = 0
        · rw [if_pos c0, if_pos c0]
        · rw [if_neg c0, if_neg c0, Int32.sub_eq_add_neg]
      | [false], _ =>
        rw [if_neg (by decide), show nI (z_nb [false]) &&& 1 = 0 by decide, Int32.zero_mul, Int32.add_zero]
    · have ep : z_prog (c :: R) = z_prog R := by
        show (if c.1 < 2 then c.2.2.map z_tc ++ [-4] else []) ++ z_prog R = _
        rw [if_neg c2]
        rfl
      have ea : z_ams (c :: R) = z_ams R := by
        show (if c.1 < 2 then [z_am c] else []) ++ z_ams R = _
        rw [if_neg c2]
        rfl
      rw [ep] at hi hp hN
      rw [ea] at hc ha
      rw [ih i cl N ex hwR hi hc hp ha hN]
      unfold z_ex1
      rw [if_neg c2]
/-- the six facts -/
def z_Fc (b at' kind v wet hour : Int32) : Nat → Int32 := fun k => match k with
  | 0 => b
  | 1 => at'
  | 2 => kind
  | 3 => v
  | 4 => wet / 10
  | 5 => hour - hour / 10 * 10
  | _ => 0
theorem s_extraFor (d h i : Nat) (at' hour : Int32) (H : z_H) (S : z_Mem) (hw : z_hwf H) (hH : z_Hc h H S) :
    z_wp (z_exe z_mt true (d + 2) 25 [.inr (.inr (4, h)), .inr (.inr (2, i)), .inl at', .inl hour] S) (fun r S' => r = some (.inl (z_ext (z_Fc (S.1 2 i 0) at' (S.1 2 i 1) (S.1 2 i 2) (S.1 2 i 3) hour) H 0)) ∧ z_fx z_Pl S S') := by
  have e : z_exe z_mt true (d + 2) 25 [.inr (.inr (4, h)), .inr (.inr (2, i)), .inl at', .inl hour] S = _ := (zx_X3_extraFor (d + 1) S h i at' hour).trans (ze_X3_extraFor_0 _ _ _ _ _ _ _)
  have n10 : ¬ (10 : Int32) = 0 := by decide
  rw [e, show z_oob (0 : Int32) 6 = false by decide, show z_oob (1 : Int32) 6 = false by decide, show z_oob (2 : Int32) 6 = false by decide, show z_oob (3 : Int32) 6 = false by decide, show z_oob (4 : Int32) 6 = false by decide, show z_oob (5 : Int32) 6 = false by decide]
  dsimp only [cond]
  rw [if_neg n10, if_neg n10]
  generalize hS6 : z_sI (z_sI (z_sI (z_sI (z_sI (z_sI S 24 h _ _) 24 h _ _) 24 h _ _) 24 h _ _) 24 h _ _) 24 h _ _ = S6
  have hf : z_fx z_Pl S S6 := by
    rw [← hS6]
    exact ((((((z_fx.sI rfl).tr (z_fx.sI rfl)).tr (z_fx.sI rfl)).tr (z_fx.sI rfl)).tr (z_fx.sI rfl)).tr (z_fx.sI rfl))
  have hH6 : z_Hc h H S6 := hH.fx hf (fun k q => absurd q (by show ¬ 4 = 24; decide)) (fun k q => absurd q (by show ¬ 22 = 24; decide)) (fun k q => absurd q (by show ¬ 23 = 24; decide))
  obtain ⟨-, ⟨b1, b2, b3⟩, c1, c2, c3⟩ := hH6
  have k := l_cls d h _ _ S6 b1 b2 c1 c2 H 0 0 999999 0 hw (by omega) (by omega) (fun k x q => by rw [Nat.zero_add]; exact b3 k x q) (fun k x q => by rw [Nat.zero_add]; exact c3 k x q) (by omega)
  refine ⟨_, _, k, ?_, hf⟩
  congr 2
  refine z_ext_cg ?_ H 0
  intro j hj
  rw [← hS6]
  match j, hj with
  | 0, _ => simp [z_sI1, z_Fc, show Int32.toNatClampNeg (0 : Int32) = 0 by decide, show Int32.toNatClampNeg (1 : Int32) = 1 by decide, show Int32.toNatClampNeg (2 : Int32) = 2 by decide, show Int32.toNatClampNeg (3 : Int32) = 3 by decide, show Int32.toNatClampNeg (4 : Int32) = 4 by decide, show Int32.toNatClampNeg (5 : Int32) = 5 by decide]
  | 1, _ => simp [z_sI1, z_Fc, show Int32.toNatClampNeg (0 : Int32) = 0 by decide, show Int32.toNatClampNeg (1 : Int32) = 1 by decide, show Int32.toNatClampNeg (2 : Int32) = 2 by decide, show Int32.toNatClampNeg (3 : Int32) = 3 by decide, show Int32.toNatClampNeg (4 : Int32) = 4 by decide, show Int32.toNatClampNeg (5 : Int32) = 5 by decide]
  | 2, _ => simp [z_sI1, z_Fc, show Int32.toNatClampNeg (0 : Int32) = 0 by decide, show Int32.toNatClampNeg (1 : Int32) = 1 by decide, show Int32.toNatClampNeg (2 : Int32) = 2 by decide, show Int32.toNatClampNeg (3 : Int32) = 3 by decide, show Int32.toNatClampNeg (4 : Int32) = 4 by decide, show Int32.toNatClampNeg (5 : Int32) = 5 by decide]
  | 3, _ => simp [z_sI1, z_Fc, show Int32.toNatClampNeg (0 : Int32) = 0 by decide, show Int32.toNatClampNeg (1 : Int32) = 1 by decide, show Int32.toNatClampNeg (2 : Int32) = 2 by decide, show Int32.toNatClampNeg (3 : Int32) = 3 by decide, show Int32.toNatClampNeg (4 : Int32) = 4 by decide, show Int32.toNatClampNeg (5 : Int32) = 5 by decide]
  | 4, _ => simp [z_sI1, z_Fc, show Int32.toNatClampNeg (0 : Int32) = 0 by decide, show Int32.toNatClampNeg (1 : Int32) = 1 by decide, show Int32.toNatClampNeg (2 : Int32) = 2 by decide, show Int32.toNatClampNeg (3 : Int32) = 3 by decide, show Int32.toNatClampNeg (4 : Int32) = 4 by decide, show Int32.toNatClampNeg (5 : Int32) = 5 by decide]
  | 5, _ => simp [z_sI1, z_Fc, show Int32.toNatClampNeg (0 : Int32) = 0 by decide, show Int32.toNatClampNeg (1 : Int32) = 1 by decide, show Int32.toNatClampNeg (2 : Int32) = 2 by decide, show Int32.toNatClampNeg (3 : Int32) = 3 by decide, show Int32.toNatClampNeg (4 : Int32) = 4 by decide, show Int32.toNatClampNeg (5 : Int32) = 5 by decide]
