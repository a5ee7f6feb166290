/-! ===== the text: words, clauses ===== -/
def z_rw3 (c : Nat → Int32) (a b e : Int32) (w p : Nat) : Nat × Nat := if c p = a then (if c (p + 1) = b then (if c (p + 2) = e then (w, p + 3) else (9, p + 2)) else (9, p + 1)) else (9, p)
/-- a word, without the blank behind; 9: none -/
def z_rw (c : Nat → Int32) (p : Nat) : Nat × Nat :=
  if c p = 100 then (if c (p + 1) = 114 then (if c (p + 2) = 121 then (0, p + 3) else (9, p + 2)) else z_rw3 c 97 109 112 1 (p + 1))
  else if c p = 99 then z_rw3 c 111 111 108 2 (p + 1)
  else if c p = 108 then (if c (p + 1) = 111 then (if c (p + 2) = 103 then (3, p + 3) else (9, p + 2)) else (9, p + 1)) else (9, p)
def z_pW (c : Nat → Int32) (p : Nat) : Bool × (Nat × Nat) := if (z_rw c p).1 = 9 then (false, (z_rw c p).2, 9) else if c (z_rw c p).2 = 32 then (true, (z_rw c p).2 + 1, (z_rw c p).1) else (false, (z_rw c p).2, (z_rw c p).1)
def z_mw (c : Nat → Int32) : List Int32 → Nat → Bool × Nat
  | [], p => (true, p)
  | x :: r, p => if c p = x then z_mw c r (p + 1) else (false, p)
theorem z_rw3_ok {len : Nat} {c : Nat → Int32} (ht : z_tx len c) {a b e : Int32} (ha : 0 ≤ a) (hb : 0 ≤ b) (he : 0 ≤ e) {w p : Nat} (hp : p ≤ len) : p ≤ (z_rw3 c a b e w p).2 ∧ (z_rw3 c a b e w p).2 ≤ len ∧ ((z_rw3 c a b e w p).1 = 9 ∨ (z_rw3 c a b e w p).1 = w ∧ p + 3 ≤ (z_rw3 c a b e w p).2) := by
  unfold z_rw3
  by_cases h1 : c p = a
  · have := ht.lt ha h1
    rw [if_pos h1]
    by_cases h2 : c (p + 1) = b
    · have := ht.lt hb h2
      rw [if_pos h2]
      by_cases h3 : c (p + 2) = e
      · have := ht.lt he h3
        rw [if_pos h3]; dsimp only; omega
      · rw [if_neg h3]; dsimp only; omega
    · rw [if_neg h2]; dsimp only; omega
  · rw [if_neg h1]; dsimp only; omega
theorem z_rw_ok {len : Nat} {c : Nat → Int32} (ht : z_tx len c) {p : Nat} (hp : p ≤ len) : p ≤ (z_rw c p).2 ∧ (z_rw c p).2 ≤ len ∧ ((z_rw c p).1 = 9 ∨ (z_rw c p).1 < 4 ∧ p + 3 ≤ (z_rw c p).2) := by
  unfold z_rw
  by_cases h1 : c p = 100
  · have := ht.lt (by decide) h1
    rw [if_pos h1]
    by_cases h2 : c (p + 1) = 114
    · have := ht.lt (by decide) h2
      rw [if_pos h2]
      by_cases h3 : c (p + 2) = 121
      · have := ht.lt (by decide) h3
        rw [if_pos h3]; dsimp only; omega
      · rw [if_neg h3]; dsimp only; omega
    · rw [if_neg h2]
      have k := z_rw3_ok ht (a := 97) (b := 109) (e := 112) (by decide) (by decide) (by decide) (w := 1) (p := p + 1) (by omega)
      omega
  rw [if_neg h1]
  by_cases h2 : c p = 99
  · have := ht.lt (by decide) h2
    rw [if_pos h2]
    have k := z_rw3_ok ht (a := 111) (b := 111) (e := 108) (by decide) (by decide) (by decide) (w := 2) (p := p + 1) (by omega)
    omega
  rw [if_neg h2]
  by_cases h3 : c p = 108
  · have := ht.lt (by decide) h3
    rw [if_pos h3]
    by_cases h4 : c (p + 1) = 111
    · have := ht.lt (by decide) h4
      rw [if_pos h4]
      by_cases h5 : c (p + 2) = 103
      · have := ht.lt (by decide) h5
        rw [if_pos h5]; dsimp only; omega
      · rw [if_neg h5]; dsimp only; omega
    · rw [if_neg h4]; dsimp only; omega
  · rw [if_neg h3]; dsimp only; omega
theorem z_pW_ok {len : Nat} {c : Nat → Int32} (ht : z_tx len c) {p : Nat} (hp : p ≤ len) : p ≤ (z_pW c p).2.1 ∧ (z_pW c p).2.1 ≤ len ∧ ((z_pW c p).1 = true → (z_pW c p).2.2 < 4 ∧ p + 4 ≤ (z_pW c p).2.1) := by
  obtain ⟨k1, k2, k3⟩ := z_rw_ok ht hp
  unfold z_pW
  by_cases h1 : (z_rw c p).1 = 9
  · rw [if_pos h1]; exact ⟨k1, k2, fun z => absurd z Bool.false_ne_true⟩
  rw [if_neg h1]
  by_cases h2 : c (z_rw c p).2 = 32
  · have := ht.lt (by decide) h2
    rw [if_pos h2]
    refine ⟨?_, ?_, fun _ => ⟨?_, ?_⟩⟩ <;> dsimp only <;> omega
  · rw [if_neg h2]; exact ⟨k1, k2, fun z => absurd z Bool.false_ne_true⟩
abbrev z_Cl : Type := Nat × (Nat × List z_Tk)
def z_pC (c : Nat → Int32) (len p : Nat) : Bool × (Nat × z_Cl) :=
  if (z_pW c p).1 = true then
    (if (z_nm c (z_pW c p).2.1).1 = true then
      (if 2 ≤ (z_pW c p).2.2 then (true, (z_nm c (z_pW c p).2.1).2.1, (z_pW c p).2.2, (z_nm c (z_pW c p).2.1).2.2, []) else
       if c (z_nm c (z_pW c p).2.1).2.1 = 32 then
        (if (z_pE c len (z_pP c len 4) ((z_nm c (z_pW c p).2.1).2.1 + 1)).1 = true then (true, (z_pE c len (z_pP c len 4) ((z_nm c (z_pW c p).2.1).2.1 + 1)).2.1, (z_pW c p).2.2, (z_nm c (z_pW c p).2.1).2.2, (z_pE c len (z_pP c len 4) ((z_nm c (z_pW c p).2.1).2.1 + 1)).2.2) else (false, (z_pE c len (z_pP c len 4) ((z_nm c (z_pW c p).2.1).2.1 + 1)).2.1, 0, 0, []))
       else (false, (z_nm c (z_pW c p).2.1).2.1, 0, 0, []))
     else (false, (z_nm c (z_pW c p).2.1).2.1, 0, 0, []))
  else (false, (z_pW c p).2.1, 0, 0, [])
theorem z_pC_ok {len : Nat} {c : Nat → Int32} (ht : z_tx len c) {p : Nat} (hp : p ≤ len) : p ≤ (z_pC c len p).2.1 ∧ (z_pC c len p).2.1 ≤ len ∧ ((z_pC c len p).1 = true → (z_pC c len p).2.2.1 < 4 ∧ (z_pC c len p).2.2.2.1 < 100 ∧ ((z_pC c len p).2.2.1 < 2 → z_wf (z_pC c len p).2.2.2.2 0 1) ∧ p + 1 + (z_pC c len p).2.2.2.2.length ≤ (z_pC c len p).2.1) := by
  obtain ⟨k1, k2, k3⟩ := z_pW_ok ht hp
  unfold z_pC
  by_cases h1 : (z_pW c p).1 = true
  · rw [if_pos h1]
    obtain ⟨k4, k5⟩ := k3 h1
    obtain ⟨n1, n2, n3⟩ := z_nm_ok ht k2
    by_cases h2 : (z_nm c (z_pW c p).2.1).1 = true
    · rw [if_pos h2]
      obtain ⟨n4, n5⟩ := n3 h2
      by_cases h3 : 2 ≤ (z_pW c p).2.2
      · rw [if_pos h3]
        refine ⟨by dsimp only; omega, by dsimp only; omega, fun _ => ⟨k4, n5, fun z => ?_, by dsimp only [List.length]; omega⟩⟩
        have z' : (z_pW c p).2.2 < 2 := z
        omega
      · rw [if_neg h3]
        by_cases h4 : c (z_nm c (z_pW c p).2.1).2.1 = 32
        · have hl := ht.lt (by decide) h4
          rw [if_pos h4]
          obtain ⟨e1, e2, e3⟩ := z_pE_ok ht (z_pP_ok ht 4) ((z_nm c (z_pW c p).2.1).2.1 + 1) (by omega)
          by_cases h5 : (z_pE c len (z_pP c len 4) ((z_nm c (z_pW c p).2.1).2.1 + 1)).1 = true
          · rw [if_pos h5]
            have := e3 h5
            exact ⟨by dsimp only; omega, e2, fun _ => ⟨k4, n5, fun _ => z_pE_wf ht (z_pP_ok ht 4) (z_pP_wf ht 4 2 (by omega)) _ (by omega) h5 0 (by omega), by dsimp only; omega⟩⟩
          · rw [if_neg h5]; exact ⟨by dsimp only; omega, e2, fun z => absurd z Bool.false_ne_true⟩
        · rw [if_neg h4]; exact ⟨by dsimp only; omega, by dsimp only; omega, fun z => absurd z Bool.false_ne_true⟩
    · rw [if_neg h2]; exact ⟨by dsimp only; omega, by dsimp only; omega, fun z => absurd z Bool.false_ne_true⟩
  · rw [if_neg h1]; exact ⟨k1, k2, fun z => absurd z Bool.false_ne_true⟩
/-! the class -/
def z_P52a (t i k : Nat) : Prop := t = 5 ∧ i = 0 ∧ k = 2
theorem z_cx.at2 {c : Nat → Int32} {len h : Nat} {S S' : z_Mem} (hc : z_cx c len h S) (hf : z_fx z_P52a S S') : z_cx c len h S' := hc.fx hf (by unfold z_P52a; omega) (fun p => by unfold z_P52a; omega) (by unfold z_P52a; omega)
theorem s_skip (d len h p : Nat) (x : Int32) (c : Nat → Int32) (S : z_Mem) (ht : z_tx len c) (hc : z_cx c len h S) (hat : S.1 5 0 2 = nI p) (hp : p ≤ len) (hx : 0 ≤ x) : ∃ S', z_exe z_mt true (d + 2) 40 [.inr (.inr (5, 0)), .inl x] S = some (some (.inl (if c p = x then 1 else 0)), S') ∧ S'.1 5 0 2 = nI (if c p = x then p + 1 else p) ∧ (if c p = x then p + 1 else p) ≤ len ∧ z_cx c len h S' ∧ z_fx z_P52a S S' := by
  by_cases q : c p = x
  · have := ht.lt hx q
    rw [if_pos q, if_pos q]
    have f : z_fx z_P52a S (z_sI S 5 0 2 (nI (p + 1))) := z_fx.sI ⟨rfl, rfl, rfl⟩
    exact ⟨_, s_skipT d len h p x c S ht hc hat hp q, z_at _ _, by omega, hc.at2 f, f⟩
  · rw [if_neg q, if_neg q]
    exact ⟨S, s_skipF d len h p x c S ht hc hat hp q, hat, hp, hc, z_fx.rf⟩
theorem C_word (d len h p : Nat) (c : Nat → Int32) (S : z_Mem) (ht : z_tx len c) (hc : z_cx c len h S) (hat : S.1 5 0 2 = nI p) (hp : p ≤ len) :
    ∃ S', z_exe z_mt true (d + 3) 31 [.inr (.inr (5, 0))] S = some (some (.inl (if (z_rw c p).1 = 9 then -1 else nI (z_rw c p).1)), S') ∧ S'.1 5 0 2 = nI (z_rw c p).2 ∧ z_fx z_P52a S S' := by
  have e : z_exe z_mt true (d + 3) 31 [.inr (.inr (5, 0))] S = _ := (zx_X4_readWord (d + 2) S 0).trans (ze_X4_readWord_0 _ _ _ _)
  -- one sign, if it comes
  have T : ∀ (p : Nat) (S : z_Mem) (x : Int32), z_cx c len h S → S.1 5 0 2 = nI p → p ≤ len → 0 ≤ x → c p = x → z_exe z_mt true (d + 2) 40 [.inr (.inr (5, 0)), .inl x] S = some (some (.inl 1), z_sI S 5 0 2 (nI (p + 1))) ∧ z_cx c len h (z_sI S 5 0 2 (nI (p + 1))) ∧ (z_sI S 5 0 2 (nI (p + 1))).1 5 0 2 = nI (p + 1) ∧ p + 1 ≤ len ∧ z_fx z_P52a S (z_sI S 5 0 2 (nI (p + 1))) := fun p S x hc hat hp h0 hx =>
    ⟨s_skipT d len h p x c S ht hc hat hp hx, hc.at2 (z_fx.sI ⟨rfl, rfl, rfl⟩), z_at _ _, ht.lt h0 hx, z_fx.sI ⟨rfl, rfl, rfl⟩⟩
  have F := fun (p : Nat) (S : z_Mem) (x : Int32) => s_skipF d len h p x c S ht
  rw [e]
  unfold z_rw
  by_cases h1 : c p = 100
  · obtain ⟨e1, c1, a1, l1, f1⟩ := T p S 100 hc hat hp (by decide) h1
    rw [e1, z_rI_s, if_neg z_01n, if_pos h1]
    by_cases h2 : c (p + 1) = 114
    · obtain ⟨e2, c2, a2, l2, f2⟩ := T (p + 1) _ 114 c1 a1 l1 (by decide) h2
      rw [e2, z_rI_s, if_neg z_01n, if_pos h2]
      by_cases h3 : c (p + 2) = 121
      · obtain ⟨e3, c3, a3, l3, f3⟩ := T (p + 1 + 1) _ 121 c2 a2 l2 (by decide) h3
        rw [e3, z_rI_s, if_neg z_01n, if_pos h3]
        exact ⟨_, rfl, a3, (f1.tr f2).tr f3⟩
      · rw [F (p + 1 + 1) _ 121 c2 a2 l2 h3, z_rI_s, if_pos rfl, if_neg h3]
        exact ⟨_, rfl, a2, f1.tr f2⟩
    · rw [F (p + 1) _ 114 c1 a1 l1 h2, z_rI_s, if_pos rfl, if_neg h2]
      unfold z_rw3
      by_cases h3 : c (p + 1) = 97
      · obtain ⟨e2, c2, a2, l2, f2⟩ := T (p + 1) _ 97 c1 a1 l1 (by decide) h3
        rw [e2, z_rI_s, if_neg z_01n, if_pos h3]
        by_cases h4 : c (p + 1 + 1) = 109
        · obtain ⟨e3, c3, a3, l3, f3⟩ := T (p + 1 + 1) _ 109 c2 a2 l2 (by decide) h4
          rw [e3, z_rI_s, if_neg z_01n, if_pos h4]
          by_cases h5 : c (p + 1 + 2) = 112
          · obtain ⟨e4, c4, a4, l4, f4⟩ := T (p + 1 + 1 + 1) _ 112 c3 a3 l3 (by decide) h5
            rw [e4, z_rI_s, if_neg z_01n, if_pos h5]
            exact ⟨_, rfl, a4, ((f1.tr f2).tr f3).tr f4⟩
          · rw [F (p + 1 + 1 + 1) _ 112 c3 a3 l3 h5, z_rI_s, if_pos rfl, if_neg h5]
            exact ⟨_, rfl, a3, (f1.tr f2).tr f3⟩
        · rw [F (p + 1 + 1) _ 109 c2 a2 l2 h4, z_rI_s, if_pos rfl, if_neg h4]
          exact ⟨_, rfl, a2, f1.tr f2⟩
      · rw [F (p + 1) _ 97 c1 a1 l1 h3, z_rI_s, if_pos rfl, if_neg h3]
        exact ⟨_, rfl, a1, f1⟩
  rw [F p S 100 hc hat hp h1, z_rI_s, if_pos rfl, if_neg h1]
  by_cases h2 : c p = 99
  · obtain ⟨e1, c1, a1, l1, f1⟩ := T p S 99 hc hat hp (by decide) h2
    rw [e1, z_rI_s, if_neg z_01n, if_pos h2]
    unfold z_rw3
    by_cases h3 : c (p + 1) = 111
    · obtain ⟨e2, c2, a2, l2, f2⟩ := T (p + 1) _ 111 c1 a1 l1 (by decide) h3
      rw [e2, z_rI_s, if_neg z_01n, if_pos h3]
      by_cases h4 : c (p + 1 + 1) = 111
      · obtain ⟨e3, c3, a3, l3, f3⟩ := T (p + 1 + 1) _ 111 c2 a2 l2 (by decide) h4
        rw [e3, z_rI_s, if_neg z_01n, if_pos h4]
        by_cases h5 : c (p + 1 + 2) = 108
        · obtain ⟨e4, c4, a4, l4, f4⟩ := T (p + 1 + 1 + 1) _ 108 c3 a3 l3 (by decide) h5
          rw [e4, z_rI_s, if_neg z_01n, if_pos h5]
          exact ⟨_, rfl, a4, ((f1.tr f2).tr f3).tr f4⟩
        · rw [F (p + 1 + 1 + 1) _ 108 c3 a3 l3 h5, z_rI_s, if_pos rfl, if_neg h5]
          exact ⟨_, rfl, a3, (f1.tr f2).tr f3⟩
      · rw [F (p + 1 + 1) _ 111 c2 a2 l2 h4, z_rI_s, if_pos rfl, if_neg h4]
        exact ⟨_, rfl, a2, f1.tr f2⟩
    · rw [F (p + 1) _ 111 c1 a1 l1 h3, z_rI_s, if_pos rfl, if_neg h3]
      exact ⟨_, rfl, a1, f1⟩
  rw [F p S 99 hc hat hp h2, z_rI_s, if_pos rfl, if_neg h2]
  by_cases h3 : c p = 108
  · obtain ⟨e1, c1, a1, l1, f1⟩ := T p S 108 hc hat hp (by decide) h3
    rw [e1, z_rI_s, if_neg z_01n, if_pos h3]
    by_cases h4 : c (p + 1) = 111
    · obtain ⟨e2, c2, a2, l2, f2⟩ := T (p + 1) _ 111 c1 a1 l1 (by decide) h4
      rw [e2, z_rI_s, if_neg z_01n, if_pos h4]
      by_cases h5 : c (p + 2) = 103
      · obtain ⟨e3, c3, a3, l3, f3⟩ := T (p + 1 + 1) _ 103 c2 a2 l2 (by decide) h5
        rw [e3, z_rI_s, if_neg z_01n, if_pos h5]
        exact ⟨_, rfl, a3, (f1.tr f2).tr f3⟩
      · rw [F (p + 1 + 1) _ 103 c2 a2 l2 h5, z_rI_s, if_pos rfl, if_neg h5]
        exact ⟨_, rfl, a2, f1.tr f2⟩
    · rw [F (p + 1) _ 111 c1 a1 l1 h4, z_rI_s, if_pos rfl, if_neg h4]
      exact ⟨_, rfl, a1, f1⟩
  · rw [F p S 108 hc hat hp h3, z_rI_s, if_pos rfl, if_neg h3]
    exact ⟨_, rfl, hat, z_fx.rf⟩
theorem z_last_sn (w : Nat) (x : z_Cl) : ∀ (H : z_H) (y : Int32), z_last w (H ++ [x]) y = if x.1 = w then nI x.2.1 else z_last w H y
  | [], y => rfl
  | c :: r, y => z_last_sn w x r _
theorem z_prog_sn (x : z_Cl) : ∀ (H : z_H), z_prog (H ++ [x]) = z_prog H ++ (if x.1 < 2 then x.2.2.map z_tc ++ [-4] else [])
  | [] => by show (if x.1 < 2 then x.2.2.map z_tc ++ [-4] else []) ++ [] = _; rw [List.append_nil]; rfl
  | c :: r => by
    show (if c.1 < 2 then c.2.2.map z_tc ++ [-4] else []) ++ z_prog (r ++ [x]) = ((if c.1 < 2 then c.2.2.map z_tc ++ [-4] else []) ++ z_prog r) ++ _
    rw [z_prog_sn x r, List.append_assoc]
theorem z_ams_sn (x : z_Cl) : ∀ (H : z_H), z_ams (H ++ [x]) = z_ams H ++ (if x.1 < 2 then [z_am x] else [])
  | [] => by show (if x.1 < 2 then [z_am x] else []) ++ [] = _; rw [List.append_nil]; rfl
  | c :: r => by
    show (if c.1 < 2 then [z_am c] else []) ++ z_ams (r ++ [x]) = ((if c.1 < 2 then [z_am c] else []) ++ z_ams r) ++ _
    rw [z_ams_sn x r, List.append_assoc]
theorem z_ams_le : ∀ (H : z_H), (z_ams H).length ≤ H.length
  | [] => Nat.le_refl _
  | c :: r => by
    have := z_ams_le r
    show ((if c.1 < 2 then [z_am c] else []) ++ z_ams r).length ≤ r.length + 1
    rw [List.length_append]
    by_cases h : c.1 < 2
    · rw [if_pos h, List.length_singleton]; omega
    · rw [if_neg h, List.length_nil]; omega
def z_Prc (h : Nat) (t i k : Nat) : Prop := (t = 5 ∧ i = 0 ∧ k = 2) ∨ ((t = 4 ∨ t = 22 ∨ t = 23) ∧ i = h)
theorem z_cx.rc {c : Nat → Int32} {len h : Nat} {S S' : z_Mem} (hc : z_cx c len h S) (hf : z_fx (z_Prc h) S S') : z_cx c len h S' := hc.fx hf (by unfold z_Prc; omega) (fun p => by unfold z_Prc; omega) (by unfold z_Prc; omega)
/-- a clause that adds: its end -/
theorem C_end (d h p : Nat) (x : z_Cl) (H : z_H) (v : Int32) (S S0 : z_Mem) (hx : x.1 < 2) (hv : v = z_am x) (hH : z_Hc h H S0) (hlen : H.length ≤ 9) (hp : p ≤ 100) (hL : (z_prog H).length + x.2.2.length < p) (hf : z_fx (z_Prd h) S0 S) (h2 : S.1 4 h 2 = nI ((z_prog H).length + x.2.2.length)) (htk : z_tkl (S.1 22 h) z_tc (z_prog H).length x.2.2) (hpre : ∀ k, k < (z_prog H).length → S.1 22 h k = S0.1 22 h k) :
    ∃ S', z_exe z_mt true (d + 2) 24 [.inr (.inr (4, h)), .inl v] S = some (none, S') ∧ z_Hc h (H ++ [x]) S' ∧ z_fx (fun t i _ => (t = 4 ∨ t = 22 ∨ t = 23) ∧ i = h) S S' := by
  have e : z_exe z_mt true (d + 2) 24 [.inr (.inr (4, h)), .inl v] S = _ := (zx_X3_appendEnd (d + 1) S h v).trans (ze_X3_appendEnd_0 _ _ _ _ _)
  obtain ⟨⟨a1, a2⟩, ⟨b1, b2, b3⟩, c1, c2, c3⟩ := hH
  have hal := z_ams_le H
  have h4 : S.1 4 h 4 = nI (z_ams H).length := (hf.i (by unfold z_Prd; omega)).trans c1
  have g4 : (z_sI S 23 h (z_ams H).length v).1 4 h 4 = nI (z_ams H).length := by rw [z_sI1, if_neg (by omega)]; exact h4
  have hm : ((x.2.2.map z_tc ++ [-4]) : List Int32).length = x.2.2.length + 1 := by rw [List.length_append, List.length_map, List.length_singleton]
  rw [e, h4, if_neg (by rw [show (10 : Int32) = nI 10 from rfl, z_le (by omega) (by omega)]; omega), z_oob_n (k := (z_ams H).length) (by omega) (by omega), z_cl (k := (z_ams H).length) (by omega), z_cnf]
  try dsimp only
  rw [g4, nI_1, s_app d h ((z_prog H).length + x.2.2.length) (-4) _ (by rw [z_sI1, if_neg (by omega), z_sI1, if_neg (by omega)]; exact h2) (by omega), z_rV_s]
  refine ⟨_, rfl, ⟨⟨?_, ?_⟩, ⟨?_, ?_, ?_⟩, ?_, ?_, ?_⟩, (((z_fx.sI ⟨Or.inr (Or.inr rfl), rfl⟩).tr (z_fx.sI ⟨Or.inl rfl, rfl⟩)).tr (z_fx.sI ⟨Or.inr (Or.inl rfl), rfl⟩)).tr (z_fx.sI ⟨Or.inl rfl, rfl⟩)⟩
  · rw [z_last_sn, if_neg (by omega), z_sI1, if_neg (by omega), z_sI1, if_neg (by omega), z_sI1, if_neg (by omega), z_sI1, if_neg (by omega), hf.i (by unfold z_Prd; omega)]; exact a1
  · rw [z_last_sn, if_neg (by omega), z_sI1, if_neg (by omega), z_sI1, if_neg (by omega), z_sI1, if_neg (by omega), z_sI1, if_neg (by omega), hf.i (by unfold z_Prd; omega)]; exact a2
  · rw [z_prog_sn, if_pos hx, z_sI1, if_pos ⟨rfl, rfl, rfl⟩, List.length_append, hm]; rfl
  · rw [z_prog_sn, if_pos hx, List.length_append, hm]; omega
  · intro k y hk
    rw [z_prog_sn, if_pos hx] at hk
    rw [z_sI1, if_neg (by omega), z_sI1]
    by_cases q1 : k < (z_prog H).length
    · rw [List.getElem?_append_left q1] at hk
      rw [if_neg (by omega), z_sI1, if_neg (by omega), z_sI1, if_neg (by omega), hpre k q1]
      exact b3 k y hk
    · rw [List.getElem?_append_right (by omega)] at hk
      by_cases q2 : k < (z_prog H).length + x.2.2.length
      · rw [List.getElem?_append_left (by rw [List.length_map]; omega), List.getElem?_map] at hk
        rw [if_neg (by omega), z_sI1, if_neg (by omega), z_sI1, if_neg (by omega)]
        cases hz : x.2.2[k - (z_prog H).length]? with
        | none => rw [hz] at hk; cases hk
        | some t =>
          rw [hz] at hk
          have hk : z_tc t = y := Option.some.inj hk
          have := htk (k - (z_prog H).length) t hz
          rw [show (z_prog H).length + (k - (z_prog H).length) = k by omega] at this
          rw [this, hk]
      · rw [List.getElem?_append_right (by rw [List.length_map]; omega), List.length_map] at hk
        have hk0 : k - (z_prog H).length - x.2.2.length = 0 := by
          have := (List.getElem?_eq_some_iff.mp hk).1
          rw [List.length_singleton] at this
          omega
        rw [hk0] at hk
        have hk : (-4 : Int32) = y := Option.some.inj hk
        rw [if_pos ⟨rfl, rfl, by omega⟩, hk]
  · rw [z_ams_sn, if_pos hx, z_sI1, if_neg (by omega), z_sI1, if_neg (by omega), z_sI1, if_pos ⟨rfl, rfl, rfl⟩, List.length_append, List.length_singleton]
  · rw [z_ams_sn, if_pos hx, List.length_append, List.length_singleton]; omega
  · intro k y hk
    rw [z_ams_sn, if_pos hx] at hk
    rw [z_sI1, if_neg (by omega), z_sI1, if_neg (by omega), z_sI1, if_neg (by omega), z_sI1]
    by_cases q1 : k < (z_ams H).length
    · rw [List.getElem?_append_left q1] at hk
      rw [if_neg (by omega), hf.i (by unfold z_Prd; omega)]
      exact c3 k y hk
    · rw [List.getElem?_append_right (by omega)] at hk
      have hk0 : k - (z_ams H).length = 0 := by
        have := (List.getElem?_eq_some_iff.mp hk).1
        rw [List.length_singleton] at this
        omega
      rw [hk0] at hk
      have hk : z_am x = y := Option.some.inj hk
      rw [if_pos ⟨rfl, rfl, by omega⟩, hv, hk]
/-- a clause that says cool or log -/
theorem C_says (h : Nat) (x : z_Cl) (H : z_H) (S S0 : z_Mem) (hx : x.1 = 2 ∨ x.1 = 3) (hH : z_Hc h H S0) (hf : z_fx z_P52a S0 S) : z_Hc h (H ++ [x]) (z_sI S 4 h (x.1 - 2) (nI x.2.1)) := by
  obtain ⟨⟨a1, a2⟩, ⟨b1, b2, b3⟩, c1, c2, c3⟩ := hH
  have hn : ¬ x.1 < 2 := by omega
  have ep : z_prog (H ++ [x]) = z_prog H := by rw [z_prog_sn, if_neg hn, List.append_nil]
  have ea : z_ams (H ++ [x]) = z_ams H := by rw [z_ams_sn, if_neg hn, List.append_nil]
  refine ⟨⟨?_, ?_⟩, ⟨?_, ?_, ?_⟩, ?_, ?_, ?_⟩
  · rw [z_last_sn, z_sI1]
    by_cases q : x.1 = 2
    · rw [if_pos q, if_pos ⟨rfl, rfl, by omega⟩]
    · rw [if_neg q, if_neg (by omega), hf.i (by unfold z_P52a; omega)]; exact a1
  · rw [z_last_sn, z_sI1]
    by_cases q : x.1 = 3
    · rw [if_pos q, if_pos ⟨rfl, rfl, by omega⟩]
    · rw [if_neg q, if_neg (by omega), hf.i (by unfold z_P52a; omega)]; exact a2
  · rw [ep, z_sI1, if_neg (by omega), hf.i (by unfold z_P52a; omega)]; exact b1
  · rw [ep]; exact b2
  · rw [ep]
    intro k y hk
    rw [z_sI1, if_neg (by omega), hf.i (by unfold z_P52a; omega)]; exact b3 k y hk
  · rw [ea, z_sI1, if_neg (by omega), hf.i (by unfold z_P52a; omega)]; exact c1
  · rw [ea]; exact c2
  · rw [ea]
    intro k y hk
    rw [z_sI1, if_neg (by omega), hf.i (by unfold z_P52a; omega)]; exact c3 k y hk
theorem C_clause (d len h p : Nat) (c : Nat → Int32) (H : z_H) (S : z_Mem) (ht : z_tx len c) (hc : z_cx c len h S) (hat : S.1 5 0 2 = nI p) (hp : p ≤ len) (hH : z_Hc h H S) (hlen : H.length ≤ 9) (hL : (z_prog H).length ≤ p) :
    ∃ S', z_exe z_mt true (d + 19) 30 [.inr (.inr (5, 0))] S = some (some (.inl (if (z_pC c len p).1 = true then 1 else 0)), S') ∧ S'.1 5 0 2 = nI (z_pC c len p).2.1 ∧ ((z_pC c len p).1 = true → z_Hc h (H ++ [(z_pC c len p).2.2]) S' ∧ (z_prog (H ++ [(z_pC c len p).2.2])).length ≤ (z_pC c len p).2.1) ∧ z_fx (z_Prc h) S S' := by
  have e : z_exe z_mt true (d + 19) 30 [.inr (.inr (5, 0))] S = _ := (zx_X4_readClause (d + 18) S 0).trans (ze_X4_readClause_0 _ _ _ _)
  have hl := ht.1
  obtain ⟨k1, k2, k3⟩ := z_rw_ok ht hp
  obtain ⟨S1, e1, a1, f1⟩ := C_word (d + 15) len h p c S ht hc hat hp
  have hc1 := hc.at2 f1
  have up : ∀ {X Y : z_Mem}, z_fx z_P52a X Y → z_fx (z_Prc h) X Y := fun f => f.wk (fun t i k q => Or.inl q)
  rw [e, e1, z_rI_s]
  unfold z_pC z_pW
  by_cases h1 : (z_rw c p).1 = 9
  · rw [if_pos h1, if_pos rfl, if_pos h1]
    simp only [Bool.false_ne_true, if_false]
    exact ⟨S1, rfl, a1, fun z => absurd z Bool.false_ne_true, up f1⟩
  rw [if_neg h1, if_neg h1]
  have k4 := k3.resolve_left h1
  rw [if_neg (by
    intro z
    have := nI_pos (n := (z_rw c p).1) (by omega)
    rw [z] at this
    exact this (by decide))]
  by_cases h2 : c (z_rw c p).2 = 32
  · have l2 := ht.lt (by decide) h2
    have f2 : z_fx z_P52a S1 (z_sI S1 5 0 2 (nI ((z_rw c p).2 + 1))) := z_fx.sI ⟨rfl, rfl, rfl⟩
    have hc2 := hc1.at2 f2
    rw [s_skipT (d + 16) len h _ 32 c S1 ht hc1 a1 k2 h2, z_rI_s, if_neg z_01n]
    simp only [if_pos h2, if_true]
    obtain ⟨S3, e3, a3, f3⟩ := s_num (d + 17) len h ((z_rw c p).2 + 1) c _ ht hc2 (z_at _ _) (by omega)
    have hc3 := hc2.at2 f3
    have F3 : z_fx z_P52a S S3 := (f1.tr f2).tr f3
    obtain ⟨n1, n2, n3⟩ := z_nm_ok ht (p := (z_rw c p).2 + 1) (by omega)
    rw [e3, z_rI_s]
    by_cases h3 : (z_nm c ((z_rw c p).2 + 1)).1 = true
    · obtain ⟨n4, n5⟩ := n3 h3
      simp only [if_pos h3]
      rw [if_pos (nI_pos' (by omega))]
      have hh3 : (S3.2.2.1 5 0 3).2 = h := hc3.2.2
      have w2 : nI (z_rw c p).1 = 2 ↔ (z_rw c p).1 = 2 := by rw [show (2 : Int32) = nI 2 from rfl, nI_eq (by omega) (by omega)]
      have w3 : nI (z_rw c p).1 = 3 ↔ (z_rw c p).1 = 3 := by rw [show (3 : Int32) = nI 3 from rfl, nI_eq (by omega) (by omega)]
      by_cases h4 : 2 ≤ (z_rw c p).1
      · simp only [if_pos h4]
        have sx := C_says h ((z_rw c p).1, (z_nm c ((z_rw c p).2 + 1)).2.2, []) H S3 S (by show (z_rw c p).1 = 2 ∨ (z_rw c p).1 = 3; omega) hH F3
        have pl : (z_prog (H ++ [((z_rw c p).1, (z_nm c ((z_rw c p).2 + 1)).2.2, [])])).length ≤ (z_nm c ((z_rw c p).2 + 1)).2.1 := by
          rw [z_prog_sn, if_neg (by show ¬ (z_rw c p).1 < 2; omega), List.append_nil]; omega
        have ff : ∀ j, z_fx (z_Prc h) S (z_sI S3 4 h j (nI (z_nm c ((z_rw c p).2 + 1)).2.2)) := fun j => (up F3).tr (z_fx.sI (Or.inr ⟨Or.inl rfl, rfl⟩))
        have a4 : ∀ j, (z_sI S3 4 h j (nI (z_nm c ((z_rw c p).2 + 1)).2.2)).1 5 0 2 = nI (z_nm c ((z_rw c p).2 + 1)).2.1 := fun j => by rw [z_sI1, if_neg (by omega)]; exact a3
        by_cases h5 : (z_rw c p).1 = 2
        · rw [if_pos (w2.mpr h5), hh3]
          refine ⟨_, rfl, a4 0, fun _ => ⟨?_, pl⟩, ff 0⟩
          have sx' : z_Hc h (H ++ [((z_rw c p).1, (z_nm c ((z_rw c p).2 + 1)).2.2, [])]) (z_sI S3 4 h ((z_rw c p).1 - 2) (nI (z_nm c ((z_rw c p).2 + 1)).2.2)) := sx
          rw [show (z_rw c p).1 - 2 = 0 by omega] at sx'
          exact sx'
        · rw [if_neg (fun z => h5 (w2.mp z)), if_pos (w3.mpr (by omega)), hh3]
          refine ⟨_, rfl, a4 1, fun _ => ⟨?_, pl⟩, ff 1⟩
          have sx' : z_Hc h (H ++ [((z_rw c p).1, (z_nm c ((z_rw c p).2 + 1)).2.2, [])]) (z_sI S3 4 h ((z_rw c p).1 - 2) (nI (z_nm c ((z_rw c p).2 + 1)).2.2)) := sx
          rw [show (z_rw c p).1 - 2 = 1 by omega] at sx'
          exact sx'
      · simp only [if_neg h4]
        rw [if_neg (fun z => h4 (by rw [w2.mp z]; omega)), if_neg (fun z => h4 (by rw [w3.mp z]; omega))]
        by_cases h6 : c (z_nm c ((z_rw c p).2 + 1)).2.1 = 32
        · have l6 := ht.lt (by decide) h6
          have f4 : z_fx z_P52a S3 (z_sI S3 5 0 2 (nI ((z_nm c ((z_rw c p).2 + 1)).2.1 + 1))) := z_fx.sI ⟨rfl, rfl, rfl⟩
          have hc4 := hc3.at2 f4
          rw [s_skipT (d + 16) len h _ 32 c S3 ht hc3 a3 n2 h6, z_rI_s, if_neg z_01n]
          simp only [if_pos h6]
          have F4 := F3.tr f4
          obtain ⟨S5, e5, a5, b5, f5⟩ := C_E d len h c ht ((z_nm c ((z_rw c p).2 + 1)).2.1 + 1) (z_prog H).length _ hc4 (z_at _ _) (by omega) (by rw [F4.i (by unfold z_P52a; omega)]; exact hH.2.1.1) (by omega)
          obtain ⟨q1, q2, q3⟩ := z_pE_ok ht (z_pP_ok ht 4) ((z_nm c ((z_rw c p).2 + 1)).2.1 + 1) (by omega)
          have F5 : z_fx (z_Prd h) S S5 := (F4.wk (fun t i k q => Or.inl q)).tr f5
          have F5' : z_fx (z_Prc h) S S5 := F5.wk (fun t i k q => by unfold z_Prd at q; unfold z_Prc; omega)
          have e5' : z_exe z_mt true (d + 18) 33 [.inr (.inr (5, 0)), .inl (0 : Int32)] (z_sI S3 5 0 2 (nI ((z_nm c ((z_rw c p).2 + 1)).2.1 + 1))) = _ := e5
          rw [e5', z_rI_s]
          by_cases h7 : (z_pE c len (z_pP c len 4) ((z_nm c ((z_rw c p).2 + 1)).2.1 + 1)).1 = true
          · obtain ⟨b6, b7, b8⟩ := b5 h7
            have q4 := q3 h7
            have hh5 : (S5.2.2.1 5 0 3).2 = h := (hc4.rd f5).2.2
            simp only [if_pos h7]
            rw [if_neg z_01n, hh5]
            have w0 : nI (z_rw c p).1 = 0 ↔ (z_rw c p).1 = 0 := by rw [show (0 : Int32) = nI 0 from rfl, nI_eq (by omega) (by omega)]
            have fin : ∀ v, v = z_am ((z_rw c p).1, (z_nm c ((z_rw c p).2 + 1)).2.2, (z_pE c len (z_pP c len 4) ((z_nm c ((z_rw c p).2 + 1)).2.1 + 1)).2.2) → ∃ S', z_rV (z_exe z_mt true (d + 18) 24 [.inr (.inr (4, h)), .inl v] S5) (fun S13 => (some (some (Sum.inl (1 : Int32)), S13) : Option (Option z_AV × z_Mem))) = some (some (.inl 1), S') ∧ S'.1 5 0 2 = nI (z_pE c len (z_pP c len 4) ((z_nm c ((z_rw c p).2 + 1)).2.1 + 1)).2.1 ∧ (True → z_Hc h (H ++ [((z_rw c p).1, (z_nm c ((z_rw c p).2 + 1)).2.2, (z_pE c len (z_pP c len 4) ((z_nm c ((z_rw c p).2 + 1)).2.1 + 1)).2.2)]) S' ∧ (z_prog (H ++ [((z_rw c p).1, (z_nm c ((z_rw c p).2 + 1)).2.2, (z_pE c len (z_pP c len 4) ((z_nm c ((z_rw c p).2 + 1)).2.1 + 1)).2.2)])).length ≤ (z_pE c len (z_pP c len 4) ((z_nm c ((z_rw c p).2 + 1)).2.1 + 1)).2.1) ∧ z_fx (z_Prc h) S S' := by
              intro v hv
              obtain ⟨S6, e6, h6, f6⟩ := C_end (d + 16) h (z_pE c len (z_pP c len 4) ((z_nm c ((z_rw c p).2 + 1)).2.1 + 1)).2.1 ((z_rw c p).1, (z_nm c ((z_rw c p).2 + 1)).2.2, (z_pE c len (z_pP c len 4) ((z_nm c ((z_rw c p).2 + 1)).2.1 + 1)).2.2) H v S5 S (by show (z_rw c p).1 < 2; omega) hv hH hlen (by omega) (by dsimp only; omega) F5 b6 b7 (fun k hk => by rw [b8 k hk, F4.i (by unfold z_P52a; omega)])
              rw [e6, z_rV_s]
              refine ⟨S6, rfl, ?_, fun _ => ⟨h6, ?_⟩, F5'.tr (f6.wk (fun t i k q => Or.inr q))⟩
              · rw [f6.i (by omega)]; exact a5
              · rw [z_prog_sn, if_pos (by show (z_rw c p).1 < 2; omega), List.length_append, List.length_append, List.length_map, List.length_singleton]
                dsimp only
                omega
            by_cases h8 : (z_rw c p).1 = 0
            · rw [if_pos (w0.mpr h8)]
              obtain ⟨S', e', a', b', f'⟩ := fin (nI (z_nm c ((z_rw c p).2 + 1)).2.2) (by unfold z_am; dsimp only; rw [if_pos h8])
              exact ⟨S', e', a', fun _ => b' trivial, f'⟩
            · rw [if_neg (fun z => h8 (w0.mp z))]
              obtain ⟨S', e', a', b', f'⟩ := fin (-(nI (z_nm c ((z_rw c p).2 + 1)).2.2)) (by unfold z_am; dsimp only; rw [if_neg h8])
              exact ⟨S', e', a', fun _ => b' trivial, f'⟩
          · simp only [if_neg h7]
            rw [if_pos trivial]
            exact ⟨S5, rfl, a5, fun z => absurd z Bool.false_ne_true, F5'⟩
        · rw [s_skipF (d + 16) len h _ 32 c S3 ht hc3 a3 n2 h6, z_rI_s, if_pos rfl]
          simp only [if_neg h6]
          exact ⟨S3, rfl, a3, fun z => absurd z Bool.false_ne_true, up F3⟩
    · simp only [if_neg h3]
      rw [if_neg (by decide)]
      exact ⟨S3, rfl, a3, fun z => absurd z Bool.false_ne_true, up F3⟩
  · rw [s_skipF (d + 16) len h _ 32 c S1 ht hc1 a1 k2 h2, z_rI_s, if_pos rfl, if_neg h2]
    simp only [Bool.false_ne_true, if_false]
    exact ⟨S1, rfl, a1, fun z => absurd z Bool.false_ne_true, up f1⟩
