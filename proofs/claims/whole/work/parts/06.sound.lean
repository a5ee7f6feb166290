/-! ===== an instruction of the abstract machine is an instruction of the real one ===== -/
def z_nak (a : Nat) (k : ArrayType) : Bool := match a, k with
  | 1, .int => true
  | 2, .boolean => true
  | 3, .byte => true
  | 4, .long => true
  | _, _ => false
/-- what an instruction's row must say: own class o, nL locals, a constructor or not -/
def z_ck (o nL : Nat) (ini : Bool) (ins : Instr) (len a b c : Nat) (x : Int32) (sw : List (Int32 × Nat)) (pc : Nat) : Bool :=
  match ins with
  | .iconst n => Nat.beq len 1 && decide (Int32.ofInt n = x)
  | .bipush n => Nat.beq len 2 && decide ((Int8.ofInt n).toInt32 = x)
  | .sipush n => Nat.beq len 3 && decide ((Int16.ofInt n).toInt32 = x)
  | .ldc_w i => Nat.beq len 3 && decide ((o, i, x) ∈ z_ki)
  | .lconst _ => Nat.beq len 1
  | .ldc2_w i => Nat.beq len 3 && decide ((o, i, a) ∈ z_kl)
  | .iload n => Nat.beq len 2 && Nat.beq n a
  | .iload_n n => Nat.beq len 1 && Nat.beq (n : Nat) a
  | .lload n => Nat.beq len 2 && Nat.beq n a
  | .lload_n n => Nat.beq len 1 && Nat.beq (n : Nat) a
  | .aload n => Nat.beq len 2 && Nat.beq n a
  | .aload_n n => Nat.beq len 1 && Nat.beq (n : Nat) a
  | .istore n => Nat.beq len 2 && (Nat.beq n a && Nat.blt a nL)
  | .istore_n n => Nat.beq len 1 && (Nat.beq (n : Nat) a && Nat.blt a nL)
  | .lstore n => Nat.beq len 2 && (Nat.beq n a && Nat.blt (a + 1) nL)
  | .astore n => Nat.beq len 2 && (Nat.beq n a && Nat.blt a nL)
  | .astore_n n => Nat.beq len 1 && (Nat.beq (n : Nat) a && Nat.blt a nL)
  | .iinc n k => Nat.beq len 3 && (Nat.beq n a && (Nat.blt a nL && decide (Int32.ofInt k = x)))
  | .goto off => Nat.beq len 3 && decide ((pc : Int) + off = (a : Int))
  | .ifCond _ off => Nat.beq len 3 && decide ((pc : Int) + off = (a : Int))
  | .if_icmp _ off => Nat.beq len 3 && decide ((pc : Int) + off = (a : Int))
  | .tableswitch d lo hi offs => decide ((pc : Int) + d = (a : Int)) && (decide ((sw.map (fun q => q.1.toInt)) = (List.range (hi - lo + 1).toNat).map (fun (k : Nat) => lo + (k : Int))) && (decide (sw.map (fun q => ((q.2 : Int) - (pc : Int))) = offs.toList) && decide (lo ≤ hi)))
  | .lookupswitch d ps => decide ((pc : Int) + d = (a : Int)) && ((ps.toList.zip (ps.toList.drop 1)).all (fun (u, next) => decide (u.1 < next.1)) && decide (sw.map (fun q => (q.1.toInt, ((q.2 : Int) - (pc : Int)))) = ps.toList))
  | .getfield i => Nat.beq len 3 && (decide ((o, i, a, b, true) ∈ z_fl) || decide ((o, i, a, b, false) ∈ z_fl))
  | .putfield i => Nat.beq len 3 && (decide ((o, i, a, b, false) ∈ z_fl) || (decide ((o, i, a, b, true) ∈ z_fl) && (ini && Nat.beq o a)))
  | .new i => Nat.beq len 3 && (decide ((o, i, a) ∈ z_nl) && (Nat.blt 0 a && Nat.blt a 13))
  | .newarray k => Nat.beq len 2 && z_nak a k
  | .anewarray i => Nat.beq len 3 && (decide ((o, i, a) ∈ z_nl) && decide (a ∈ z_al))
  | .iadd | .isub | .imul | .iand | .ior | .ixor | .ishl | .ishr | .iushr | .idiv | .irem | .ineg | .land | .lor | .lshl | .lcmp | .i2l | .l2i | .i2b | .i2s | .dup | .iaload | .baload | .laload | .aaload | .iastore | .bastore | .lastore | .aastore | .arraylength | .ireturn | .lreturn | .return_ => Nat.beq len 1
  | .invokevirtual i => Nat.beq len 3 && decide ((o, i, a, b, c, x.toNatClampNeg, 0) ∈ z_ml) && decide (Int32.ofNat x.toNatClampNeg = x)
  | .invokestatic i => Nat.beq len 3 && (cond (Nat.ble 1000 a) (decide ((o, i, a) ∈ z_bl) && Nat.blt 1000 a) (decide ((o, i, a, b, c, x.toNatClampNeg, 1) ∈ z_ml) && (decide (Int32.ofNat x.toNatClampNeg = x) && Nat.beq c 0)))
  | .invokespecial i => Nat.beq len 3 && (cond (Nat.ble 1000 a) (decide ((o, i, a) ∈ z_bl) && Nat.beq a 1000) ((decide ((o, i, a, b, c, x.toNatClampNeg, 2) ∈ z_ml) || decide ((o, i, a, b, c, x.toNatClampNeg, 3) ∈ z_nst)) && decide (x = 0)))
  | _ => false
theorem z_nl_of {n : Nat} {la : z_Lc} {sa : List z_AV} {i : Nat} {v : z_AV} (h : z_vok n la sa) (hi : la.getD i none = some v) : z_okV n v := by
  refine h.2 v ?_
  rw [List.getD_eq_getElem?_getD] at hi
  cases hz : la[i]? with
  | none => rw [hz] at hi; cases hi
  | some u =>
    rw [hz] at hi
    have e : u = some v := hi
    rw [← e]
    exact List.mem_of_getElem? hz
theorem z_lv_get {α : Nat × Nat → Nat} {la : z_Lc} {ls : Array Slot} {nL i : Nat} {v : z_AV} (h : z_LV α la ls nL) (hi : la.getD i none = some v) : ls[i]? = some (.val (z_cV α v)) := by
  refine h.2.2.2 i v ?_
  rw [List.getD_eq_getElem?_getD] at hi
  cases hz : la[i]? with
  | none => rw [hz] at hi; cases hi
  | some u =>
    rw [hz] at hi
    have e : u = some v := hi
    rw [e]
/-- the locals as the kit has them: each that is known, with its place -/
def z_asc (α : Nat × Nat → Nat) (la : z_Lc) : List (Nat × Value) := la.zipIdx.filterMap (fun q => q.1.map (fun v => (q.2, z_cV α v)))
theorem z_asc_mem {α : Nat × Nat → Nat} {la : z_Lc} {q : Nat × Value} (h : q ∈ z_asc α la) : ∃ v, la[q.1]? = some (some v) ∧ q.2 = z_cV α v := by
  obtain ⟨p, hp, he⟩ := List.mem_filterMap.mp h
  obtain ⟨u, i⟩ := p
  have hu := List.mem_zipIdx_iff_getElem?.mp hp
  cases u with
  | none => cases he
  | some v =>
    have e : (i, z_cV α v) = q := Option.some.inj he
    subst e
    exact ⟨v, hu, rfl⟩
theorem z_asc_in {α : Nat × Nat → Nat} {la : z_Lc} {i : Nat} {v : z_AV} (h : la[i]? = some (some v)) : (i, z_cV α v) ∈ z_asc α la :=
  List.mem_filterMap.mpr ⟨(some v, i), List.mem_zipIdx_iff_getElem?.mpr h, rfl⟩
theorem z_lv_has {α : Nat × Nat → Nat} {la : z_Lc} {ls : Array Slot} {nL : Nat} (h : z_LV α la ls nL) : lv_has ls nL (z_asc α la) := by
  refine ⟨h.2.1, h.2.2.1, fun q hq => ?_⟩
  obtain ⟨v, h1, h2⟩ := z_asc_mem hq
  rw [h2]
  exact h.2.2.2 _ _ h1
theorem z_cat_of (α : Nat × Nat → Nat) (v : z_AV) : (z_cV α v).category = 2 ↔ ∃ x, v = .inr (.inl x) := by
  rcases v with x | x | r
  · simp [z_cV, Value.category]
  · simp [z_cV, Value.category]
  · simp only [z_cV, z_cR]
    split <;> simp [Value.category]
/-- a store of one word -/
theorem z_st_ok {α : Nat × Nat → Nat} {la l : z_Lc} {nL a : Nat} {v : z_AV} (hl : la.length = nL) (ha : a < nL) (h : z_st la a v = some l) :
    l = la.set a (some v) ∧ ∀ ls' : Array Slot, lv_has ls' nL ((a, z_cV α v) :: (z_asc α la).filter (fun q => !(q.1 == a) && !(q.1 + 1 == a && q.2.category == 2))) → z_LV α l ls' nL := by
  have h0 : l = la.set a (some v) ∧ ∀ j u, j + 1 = a → la[j]? = some (some u) → ¬ ∃ x, u = .inr (.inl x) := by
    unfold z_st at h
    cases a with
    | zero => exact ⟨(Option.some.inj h).symm, fun j u e => by omega⟩
    | succ j =>
      dsimp only at h
      split at h
      · cases h
      · rename_i hne
        refine ⟨(Option.some.inj h).symm, fun j' u e hu ⟨x, hx⟩ => ?_⟩
        have e2 : j' = j := by omega
        subst e2
        subst hx
        refine hne x ?_
        rw [List.getD_eq_getElem?_getD, hu]
        rfl
  refine ⟨h0.1, fun ls' hls => ?_⟩
  rw [h0.1]
  refine ⟨by rw [List.length_set]; exact hl, hls.1, hls.2.1, fun i u hi => ?_⟩
  rw [List.getElem?_set] at hi
  by_cases e : a = i
  · subst e
    rw [if_pos rfl] at hi
    rw [if_pos (by omega)] at hi
    have e2 : v = u := Option.some.inj (Option.some.inj hi)
    subst e2
    exact hls.2.2 _ List.mem_cons_self
  · rw [if_neg e] at hi
    refine hls.2.2 (i, z_cV α u) (List.mem_cons_of_mem _ (List.mem_filter.mpr ⟨z_asc_in hi, ?_⟩))
    by_cases e3 : i + 1 = a
    · have h3 := h0.2 i u e3 hi
      have h4 : ¬ (z_cV α u).category = 2 := fun q => h3 ((z_cat_of α u).mp q)
      simp [Ne.symm e, h4]
    · simp [Ne.symm e, e3]
theorem z_vok_set {n a : Nat} {la : z_Lc} {sa : List z_AV} {v : z_AV} (h : z_vok n la sa) (hv : z_okV n v) : ∀ u, some u ∈ la.set a (some v) → z_okV n u := by
  intro u hu
  rcases List.mem_or_eq_of_mem_set hu with q | q
  · exact h.2 u q
  · cases q; exact hv
theorem z_cR_ref {α : Nat × Nat → Nat} {r : Nat × Nat} (h : r.1 ≠ 0) : z_cR α r = .ref (α r) := if_neg h
theorem z_b0 {t : Nat} {β : Type} {x : Option β} {y : β} (h : cond (Nat.beq t 0) none x = some y) : t ≠ 0 ∧ x = some y := by
  cases hb : Nat.beq t 0 with
  | true => rw [hb] at h; cases h
  | false =>
    rw [hb] at h
    refine ⟨fun e => ?_, h⟩
    rw [e] at hb
    exact absurd hb (by decide)
theorem z_ht {c : Bool} {β : Type} {x : Option β} {y : β} (h : cond c x none = some y) : c = true ∧ x = some y := by
  cases c with
  | true => exact ⟨rfl, h⟩
  | false => cases h
theorem z_hf {c : Bool} {β : Type} {x : Option β} {y : β} (h : cond c none x = some y) : c = false ∧ x = some y := by
  cases c with
  | false => exact ⟨rfl, h⟩
  | true => cases h
theorem z_if {c : Prop} [Decidable c] {β : Type} {x : Option β} {y : β} (h : (if c then none else x) = some y) : ¬ c ∧ x = some y := by
  by_cases hc : c
  · rw [if_pos hc] at h; cases h
  · rw [if_neg hc] at h; exact ⟨hc, h⟩
theorem z_if2 {c : Prop} [Decidable c] {β : Type} {x : Option β} {y : β} (h : (if c then x else none) = some y) : c ∧ x = some y := by
  by_cases hc : c
  · rw [if_pos hc] at h; exact ⟨hc, h⟩
  · rw [if_neg hc] at h; cases h
theorem z_oob_in {j : Int32} {n : Nat} (h : z_oob j n = false) : vp_in j n := by
  unfold z_oob at h
  rw [Bool.or_eq_false_iff] at h
  intro q
  rcases q with q | q
  · exact absurd q (of_decide_eq_false h.1)
  · rw [Nat.ble_eq_true_of_le q] at h; exact absurd h.2 (by simp)
