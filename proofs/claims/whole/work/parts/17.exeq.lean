/-- a call of a method of the table, once -/
theorem z_exe_eq {mt : List z_Mt} {md : Bool} {d j : Nat} {as : List z_AV} {S : z_Mem} {q : z_Mt} (hq : mt[j]? = some q) (hl : Nat.beq (z_ent q.2.2.1 as).length q.2.2.1 = true) :
    z_exe mt md (d + 1) j as S = z_run md (z_exe mt md d) q.2.2.2.2.1 q.2.2.2.2.2.1 q.2.2.2.2.2.2.1 (999999 + 1) 0 (z_ent q.2.2.1 as) [] S := by
  have e : z_exe mt md (d + 1) j as S = (match mt[j]? with
    | none => none
    | some q => cond (Nat.beq (z_ent q.2.2.1 as).length q.2.2.1) (z_run md (z_exe mt md d) q.2.2.2.2.1 q.2.2.2.2.2.1 q.2.2.2.2.2.2.1 1000000 0 (z_ent q.2.2.1 as) [] S) none) := rfl
  rw [e, hq]
  show cond _ _ none = _
  rw [hl]
  rfl
