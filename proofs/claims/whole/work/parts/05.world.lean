/-! ===== the abstract machine's states over the real heap ===== -/
def z_WT : List Cond := lw_tbl.filter goodWord
theorem z_wt {w : Cond} (h : w ∈ lw_tbl ∧ goodWord w = true) : w ∈ z_WT := List.mem_filter.mpr h
theorem z_wt_good : GoodIn z_WT z_WT := fun w hw => ⟨hw, good_of_word (List.mem_filter.mp hw).2⟩
/-- places of names are one to one -/
def z_ix (r : Nat × Nat) : Nat := z_ord.findIdx (fun q => Nat.beq q.1 r.1 && Nat.beq q.2 r.2)
theorem z_ord_ix : (List.range z_ord.length).all (fun k => Nat.beq (z_ix (z_ord.getD k (0, 0))) k) = true := by decide +kernel
theorem z_ord_ok : z_ord.all (fun r => Nat.blt 0 r.1 && (Nat.blt r.1 85 && (Nat.blt r.1 13 || Nat.blt 19 r.1))) = true := by decide +kernel
theorem z_ord_len : z_ord.length = 176 := by decide +kernel
theorem z_ix_of {k : Nat} {r : Nat × Nat} (h : z_ord[k]? = some r) : z_ix r = k := by
  obtain ⟨hk, e⟩ := List.getElem?_eq_some_iff.mp h
  have h1 := List.all_eq_true.mp z_ord_ix k (List.mem_range.mpr hk)
  have e2 : z_ord.getD k (0, 0) = r := by rw [List.getD_eq_getElem?_getD, h]; rfl
  rw [e2] at h1
  exact Nat.eq_of_beq_eq_true h1
theorem z_one {k k' : Nat} {r : Nat × Nat} (h : z_ord[k]? = some r) (h' : z_ord[k']? = some r) : k = k' := (z_ix_of h).symm.trans (z_ix_of h')
theorem z_ord_at {k : Nat} {r : Nat × Nat} (h : z_ord[k]? = some r) : 0 < r.1 ∧ r.1 < 85 ∧ (r.1 < 13 ∨ 19 < r.1) := by
  have h1 := List.all_eq_true.mp z_ord_ok r (List.mem_of_getElem? h)
  simp only [Bool.and_eq_true, Bool.or_eq_true, Nat.blt_eq] at h1
  exact ⟨h1.1, h1.2.1, h1.2.2⟩
def z_okR (n : Nat) (r : Nat × Nat) : Prop := r.1 = 0 ∨ r = (90, 0) ∨ ∃ k, k < n ∧ z_ord[k]? = some r
def z_okV (n : Nat) (v : z_AV) : Prop := match v with
  | .inr (.inr r) => z_okR n r
  | _ => True
def z_vok (n : Nat) (la : z_Lc) (sa : List z_AV) : Prop := (∀ v ∈ sa, z_okV n v) ∧ ∀ v, some v ∈ la → z_okV n v
theorem z_okR.mono {n n' : Nat} {r : Nat × Nat} (h : z_okR n r) (hn : n ≤ n') : z_okR n' r := by
  rcases h with h | h | ⟨k, h1, h2⟩
  · exact Or.inl h
  · exact Or.inr (Or.inl h)
  · exact Or.inr (Or.inr ⟨k, Nat.lt_of_lt_of_le h1 hn, h2⟩)
theorem z_okV.mono {n n' : Nat} {v : z_AV} (h : z_okV n v) (hn : n ≤ n') : z_okV n' v := by
  rcases v with x | x | r
  · exact trivial
  · exact trivial
  · exact z_okR.mono h hn
theorem z_vok.mono {n n' : Nat} {la : z_Lc} {sa : List z_AV} (h : z_vok n la sa) (hn : n ≤ n') : z_vok n' la sa := ⟨fun v hv => (h.1 v hv).mono hn, fun v hv => (h.2 v hv).mono hn⟩
theorem z_okR.at {n : Nat} {r : Nat × Nat} (h : z_okR n r) (h0 : 0 < r.1) (h9 : r.1 < 90) : ∃ k, k < n ∧ z_ord[k]? = some r := by
  rcases h with h | h | h
  · omega
  · rw [h] at h9; exact absurd h9 (by decide)
  · exact h
def z_mok (md : Bool) (S : z_Mem) : Prop := ∀ (k : Nat) (r : Nat × Nat), k < S.2.2.2 → z_ord[k]? = some r →
  (∀ j, (z_shK r.1 j = 2 ∨ z_shK r.1 j = 3) → z_okR S.2.2.2 (z_rv md S r.1 r.2 j)) ∧ (z_aK r.1 = 5 → ∀ j, j < z_aN r.1 r.2 → z_okR S.2.2.2 (z_re md S r.1 r.2 j))
def z_cR (α : Nat × Nat → Nat) (r : Nat × Nat) : Value := if r.1 = 0 then .null else .ref (α r)
def z_op (α : Nat × Nat → Nat) (r : Nat × Nat) : Option Nat := if r.1 = 0 then none else some (α r)
def z_cV (α : Nat × Nat → Nat) (v : z_AV) : Value := match v with
  | .inl x => .int x
  | .inr (.inl x) => .long x
  | .inr (.inr r) => z_cR α r
def z_fv (α : Nat × Nat → Nat) (md : Bool) (S : z_Mem) (t i k : Nat) : Value := match z_shK t k with
  | 0 => .int (S.1 t i k)
  | 1 => .int (S.1 t i k)
  | _ => z_cR α (z_rv md S t i k)
def z_bd (α : Nat × Nat → Nat) (cA : Nat × Nat → ClassId) (md : Bool) (S : z_Mem) (r : Nat × Nat) : va_E := match z_aK r.1 with
  | 0 => .inr (r.1 - 1, (List.range (z_nF r.1)).map (z_fv α md S r.1 r.2))
  | 4 => .inl (cA r, z_aN r.1 r.2, .inr (.inl (S.2.1 r.1 r.2)))
  | 5 => .inl (cA r, z_aN r.1 r.2, .inr (.inr (.inr (.inr (fun j => if j < z_aN r.1 r.2 then z_op α (z_re md S r.1 r.2 j) else none)))))
  | _ => .inl (cA r, z_aN r.1 r.2, .inl (S.1 r.1 r.2))
def z_cell (α : Nat × Nat → Nat) (cA : Nat × Nat → ClassId) (md : Bool) (S : z_Mem) (r : Nat × Nat) : Nat × va_E := (α r, z_bd α cA md S r)
def z_ws (α : Nat × Nat → Nat) (cA : Nat × Nat → ClassId) (md : Bool) (S : z_Mem) : va_W := (z_ord.take S.2.2.2).map (z_cell α cA md S)
theorem z_ws_get {α : Nat × Nat → Nat} {cA : Nat × Nat → ClassId} {md : Bool} {S : z_Mem} {k : Nat} {r : Nat × Nat} (hk : k < S.2.2.2) (h : z_ord[k]? = some r) : (z_ws α cA md S)[k]? = some (α r, z_bd α cA md S r) := by
  unfold z_ws
  rw [List.getElem?_map, List.getElem?_take_of_lt hk, h]
  rfl
theorem z_ws_set {α : Nat × Nat → Nat} {cA : Nat × Nat → ClassId} {md : Bool} {S S' : z_Mem} {k : Nat} {r : Nat × Nat} (hn : S'.2.2.2 = S.2.2.2) (hk : k < S.2.2.2) (h : z_ord[k]? = some r)
    (ho : ∀ r', r' ≠ r → z_bd α cA md S' r' = z_bd α cA md S r') {b : va_E} (hb : z_bd α cA md S' r = b) : (z_ws α cA md S).set k (α r, b) = z_ws α cA md S' := by
  apply List.ext_getElem?
  intro j
  rw [List.getElem?_set]
  unfold z_ws
  rw [hn, List.length_map, List.length_take, List.getElem?_map, List.getElem?_map, List.getElem?_take]
  by_cases hj : k = j
  · subst hj
    have hl : k < z_ord.length := (List.getElem?_eq_some_iff.mp h).1
    rw [if_pos rfl, if_pos (by omega), if_pos hk, h]
    show _ = some (z_cell α cA md S' r)
    unfold z_cell
    rw [hb]
  · rw [if_neg hj]
    by_cases hj2 : j < S.2.2.2
    · rw [if_pos hj2]
      cases hz : z_ord[j]? with
      | none => rfl
      | some r' =>
        show some (z_cell α cA md S r') = some (z_cell α cA md S' r')
        unfold z_cell
        rw [ho r' (fun e => hj (by subst e; exact z_one h hz))]
    · rw [if_neg hj2]
      rfl
theorem z_ws_len {α : Nat × Nat → Nat} {cA : Nat × Nat → ClassId} {md : Bool} {S : z_Mem} (h : S.2.2.2 ≤ 176) : (z_ws α cA md S).length = S.2.2.2 := by
  unfold z_ws
  rw [List.length_map, List.length_take, z_ord_len]
  omega
/-- the world only depends on where its own names lie -/
theorem z_ws_cong {α α' : Nat × Nat → Nat} {cA cA' : Nat × Nat → ClassId} {md : Bool} {S S' : z_Mem} (hn : S'.2.2.2 = S.2.2.2)
    (h : ∀ (k : Nat) (r : Nat × Nat), k < S.2.2.2 → z_ord[k]? = some r → z_cell α' cA' md S' r = z_cell α cA md S r) : z_ws α' cA' md S' = z_ws α cA md S := by
  apply List.ext_getElem?
  intro j
  unfold z_ws
  rw [hn, List.getElem?_map, List.getElem?_map, List.getElem?_take]
  by_cases hj : j < S.2.2.2
  · rw [if_pos hj]
    cases hz : z_ord[j]? with
    | none => rfl
    | some r' => show some _ = some _; rw [h j r' hj hz]
  · rw [if_neg hj]
    rfl
theorem z_rng_set {β : Type} {N b : Nat} {f g : Nat → β} (hb : b < N) (h : ∀ k, k ≠ b → g k = f k) : ((List.range N).map f).set b (g b) = (List.range N).map g := by
  apply List.ext_getElem?
  intro j
  rw [List.getElem?_set, List.length_map, List.length_range, List.getElem?_map, List.getElem?_map]
  by_cases hj : b = j
  · subst hj
    rw [if_pos rfl, if_pos hb, List.getElem?_range hb]
    rfl
  · rw [if_neg hj]
    by_cases hj2 : j < N
    · rw [List.getElem?_range hj2]
      show some (f j) = some (g j)
      rw [h j (fun e => hj e.symm)]
    · rw [List.getElem?_eq_none (by simp; omega)]
      rfl
theorem z_kd {t j : Nat} (h : j < z_nF t) : z_shK t j = 0 ∨ z_shK t j = 1 ∨ z_shK t j = 2 ∨ z_shK t j = 3 := by
  have hall := List.all_eq_true.mp (show (z_kT.all (fun r => r.all (fun x => Nat.ble x 3))) = true by decide +kernel)
  have h3 : z_shK t j ≤ 3 := by
    unfold z_shK
    unfold z_nF at h
    rw [List.getD_eq_getElem?_getD] at h ⊢
    rw [List.getD_eq_getElem?_getD]
    cases hz : z_kT[t]? with
    | none => rw [hz] at h; simp at h
    | some row =>
      rw [hz] at h
      have h5 := List.all_eq_true.mp (hall row (List.mem_of_getElem? hz))
      have h : j < row.length := h
      show (row[j]?).getD 9 ≤ 3
      rw [List.getElem?_eq_getElem h]
      exact Nat.le_of_ble_eq_true (h5 _ (List.getElem_mem h))
  omega
def z_ty (t : Nat) : FieldType := match z_aK t with
  | 1 => .int
  | 2 => .boolean
  | 3 => .byte
  | 4 => .long
  | _ => .object (z_cn (z_eT t))
def z_tok (cA : Nat × Nat → ClassId) (n : Nat) (tys : List (ClassId × FieldType)) : Prop := ∀ (k : Nat) (r : Nat × Nat), k < n → z_ord[k]? = some r → z_aK r.1 ≠ 0 → ∃ t0 : Nat, tys[t0]? = some (cA r, z_ty r.1)
def z_size (r : Nat × Nat) : Nat := cond (Nat.beq (z_aK r.1) 0) (z_nF r.1) (z_aN r.1 r.2)
def z_sz (n : Nat) : Nat := ((z_ord.take n).map z_size).sum
theorem z_sz_succ {n : Nat} {r : Nat × Nat} (h : z_ord[n]? = some r) : z_sz (n + 1) = z_sz n + z_size r := by
  unfold z_sz
  rw [List.take_succ, h]
  simp
theorem z_sz_le {n n' : Nat} (h : n ≤ n') : z_sz n ≤ z_sz n' := by
  induction h with
  | refl => exact Nat.le_refl _
  | @step m _ ih =>
    refine Nat.le_trans ih ?_
    cases hz : z_ord[m]? with
    | none =>
      unfold z_sz
      rw [List.take_succ, hz]
      simp
    | some r => rw [z_sz_succ hz]; exact Nat.le_add_right _ _
def z_NW (U : State) : Prop := (∀ q ∈ z_nst, va_Nw (.methodLinkNest (z_on q.1) q.2.1 (z_yn q.2.2.1) (z_on q.1)) U) ∧ ∀ q ∈ z_al, va_AO (z_cn q) U
theorem z_NW.warm {s U : State} (hW : s.WarmedH U.vm) (h : z_NW s) : z_NW U := ⟨fun q hq => va_Nw.warmM hW (h.1 q hq), fun q hq => va_AO.moved hW.alike (h.2 q hq)⟩
def z_scr (s : State) (A : Nat → Prop) (sc : z_Sc) (b : Nat) : Prop := match sc with
  | none => True
  | some q => va_X b q.1 q.2 s s.heap ∧ b < s.heap.size ∧ ¬ A b
def z_Rel (s : State) (D : va_G) (A : Nat → Prop) (md : Bool) (sc : z_Sc) (α0 : Nat × Nat → Nat) (n0 : Nat) (α : Nat × Nat → Nat) (cA : Nat × Nat → ClassId) (S : z_Mem) (H : Heap) (locs : List Loc) : Prop :=
  (n0 ≤ S.2.2.2 ∧ S.2.2.2 ≤ 176) ∧ (∀ r, z_okR n0 r → α r = α0 r) ∧ z_mok md S ∧ (∃ tys, va_K D vwCl tys s ∧ z_tok cA S.2.2.2 tys) ∧ va_P D vwCl (z_ws α cA md S) H ∧ va_D A (z_ws α cA md S) ∧ va_S A s.heap H locs ∧ (∀ q : Nat, s.heap.size ≤ q → A q) ∧ z_scr s A sc (α (90, 0))
def z_LV (α : Nat × Nat → Nat) (la : z_Lc) (ls : Array Slot) (nL : Nat) : Prop := la.length = nL ∧ ls.size = nL ∧ lv_wf ls ∧ ∀ (i : Nat) (v : z_AV), la[i]? = some (some v) → ls[i]? = some (.val (z_cV α v))
/-- from here the real machine does what it should, wherever the abstract state lies in it -/
def z_GW (w : Heap → List Loc → Nat → Nat → JFrame → Prop) (m : MethodId) (s : State) (D : va_G) (A : Nat → Prop) (md : Bool) (sc : z_Sc) (α0 : Nat × Nat → Nat) (n0 n1 nL : Nat) (pc : Nat) (la : z_Lc) (sa : List z_AV) (S : z_Mem) : Prop :=
  S.2.2.2 ≤ n1 ∧ ∀ (α : Nat × Nat → Nat) (cA : Nat × Nat → ClassId) (ls : Array Slot) (H : Heap) (locs : List Loc), z_Rel s D A md sc α0 n0 α cA S H locs → z_LV α la ls nL → z_vok S.2.2.2 la sa →
    w H locs (S.2.2.2 - n0) (z_sz S.2.2.2 - z_sz n0) (F0 m pc ls (sa.map (z_cV α)))
