theorem z_cd_all {j : Nat} (h : j < 231) : j ∈ z_cd := by
  have h1 := List.all_eq_true.mp (show (List.range 231).all (fun j => z_cd.elem j) = true by decide +kernel) j (List.mem_range.mpr h)
  exact List.elem_iff.mp h1
/-- own number of a method's class -/
def z_mo : List Nat := [1, 1, 1, 1, 1, 1, 1, 1, 2, 2, 2, 2, 2, 2, 2, 2, 3, 3, 3, 3, 4, 4, 4, 4, 4, 4, 4, 5, 5, 5, 5, 5, 5, 5, 5, 5, 5, 5, 5, 5, 5, 13, 13, 6, 6, 6, 6, 6, 6, 6, 7, 7, 7, 7, 7, 7, 7, 7, 7, 7, 7, 8, 8, 8, 8, 8, 9, 9, 9, 9, 9, 10, 10, 10, 10, 11, 11, 11, 11, 11, 11, 11, 11, 11, 11, 11, 11, 11, 11, 11, 11, 11, 11, 11, 11, 11, 11, 11, 11, 11, 11, 11, 11, 11, 11, 11, 11, 11, 11, 11, 11, 11, 11, 11, 11, 11, 11, 11, 11, 11, 11, 11, 11, 12, 12, 12, 12, 12, 12, 12, 12, 12, 12, 12, 12, 12, 12, 12, 12, 12, 12, 12, 12, 12, 12, 12, 12, 12, 12, 12, 12, 12, 12, 12, 12, 12, 12, 12, 12, 12, 12, 12, 12, 12, 12, 12, 12, 12, 12, 12, 12, 12, 12, 12, 12, 12, 12, 12, 12, 12, 12, 12, 12, 12, 12, 12, 12, 12, 12, 12, 12, 12, 12, 12, 12, 12, 12, 12, 12, 12, 12, 12, 12, 12, 12, 12, 12, 12, 12, 12, 12, 12, 12, 12, 12, 12, 12, 12, 12, 12, 12, 12, 12, 12, 12, 12, 12, 12, 14, 15, 15]
set_option maxRecDepth 100000 in
theorem z_mo_ok : z_mt.map (fun q => q.1.cls) = z_mo.map z_on := rfl
theorem z_mo_in : z_mo.all (fun o => z_in.elem o) = true := by decide +kernel
theorem z_mt_ini {j : Nat} {q : z_Mt} (h : z_mt[j]? = some q) : Cond.initialized q.1.cls ∈ lw_tbl ∧ goodWord (Cond.initialized q.1.cls) = true := by
  have h1 : (z_mt.map (fun q => q.1.cls))[j]? = some q.1.cls := by rw [List.getElem?_map, h]; rfl
  rw [z_mo_ok, List.getElem?_map] at h1
  cases hz : z_mo[j]? with
  | none => rw [hz] at h1; cases h1
  | some o =>
    rw [hz] at h1
    have h2 : z_on o = q.1.cls := Option.some.inj h1
    have h3 := z_in_in o (List.elem_iff.mp (List.all_eq_true.mp z_mo_in o (List.mem_of_getElem? hz)))
    unfold z_inw at h3
    rw [h2] at h3
    exact h3
/-- a call row against its method: kind, receiver, how many arguments, what comes back -/
def z_rk (r : Option FieldType) : Nat := match r with | none => 0 | some .long => 2 | _ => 1
def z_kdb (kd a cT : Nat) : Bool := match kd with
  | 0 => z_im.elem a && (z_sl.elem a && (Nat.blt 0 cT && Nat.blt cT 13))
  | 1 => z_sm.elem a
  | _ => z_im.elem a && (Nat.blt 0 cT && Nat.blt cT 13)
def z_mlb (q : Nat × (Nat × (Nat × (Nat × (Nat × (Nat × Nat)))))) : Bool := match z_mt[q.2.2.1]? with
  | some t => Nat.beq t.2.2.2.2.2.2.2.2 q.2.2.2.1 && (Nat.beq t.2.2.2.2.2.2.2.1 q.2.2.2.2.1 && (Nat.beq (z_rk t.2.2.2.1) q.2.2.2.2.2.1 && z_kdb q.2.2.2.2.2.2 q.2.2.1 q.2.2.2.2.1))
  | none => false
theorem z_ml_b0 : z_ml_0.all z_mlb = true := by decide +kernel
theorem z_ml_b1 : z_ml_1.all z_mlb = true := by decide +kernel
theorem z_ml_b2 : z_ml_2.all z_mlb = true := by decide +kernel
theorem z_ml_b3 : z_ml_3.all z_mlb = true := by decide +kernel
theorem z_ml_b4 : z_ml_4.all z_mlb = true := by decide +kernel
theorem z_ml_b5 : z_ml_5.all z_mlb = true := by decide +kernel
theorem z_ml_b6 : z_ml_6.all z_mlb = true := by decide +kernel
theorem z_ml_b : ∀ q ∈ z_ml, z_mlb q = true := List.forall_mem_append.mpr ⟨List.all_eq_true.mp z_ml_b0, List.forall_mem_append.mpr ⟨List.all_eq_true.mp z_ml_b1, List.forall_mem_append.mpr ⟨List.all_eq_true.mp z_ml_b2, List.forall_mem_append.mpr ⟨List.all_eq_true.mp z_ml_b3, List.forall_mem_append.mpr ⟨List.all_eq_true.mp z_ml_b4, List.forall_mem_append.mpr ⟨List.all_eq_true.mp z_ml_b5, List.all_eq_true.mp z_ml_b6⟩⟩⟩⟩⟩⟩
theorem z_nst_b : ∀ q ∈ z_nst, z_mlb q = true := List.all_eq_true.mp (by decide +kernel)
def z_ij : List Nat := [0, 8, 16, 20, 27, 43, 50, 61, 66, 71, 75, 123]
theorem z_ij_ok : z_ij.map (fun j => (z_yn j).name) = z_ij.map (fun _ => "<init>") := rfl
theorem z_ij_b : (z_ml.all (fun q => !Nat.beq q.2.2.2.2.2.2 2 || z_ij.elem q.2.2.1)) = true := by decide +kernel
theorem z_ij_n : (z_nst.all (fun q => z_ij.elem q.2.2.1)) = true := by decide +kernel
/-- the class of a method with a receiver is the receiver's -/
theorem z_mo_t : ((z_mt.zip z_mo).all (fun q => Nat.beq q.1.2.2.2.2.2.2.2.1 0 || Nat.beq q.1.2.2.2.2.2.2.2.1 q.2)) = true := by decide +kernel
