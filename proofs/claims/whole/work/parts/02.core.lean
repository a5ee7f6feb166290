/-! ===== CORE: an abstract machine over named cells (own work) ===== -/
abbrev z_AV : Type := Int32 ⊕ (Int64 ⊕ (Nat × Nat))
abbrev z_Lc : Type := List (Option z_AV)
abbrev z_Mem : Type := (Nat → Nat → Nat → Int32) × ((Nat → Nat → Nat → Int64) × ((Nat → Nat → Nat → Nat × Nat) × Nat))
abbrev z_Op : Type := Nat × (Instr × (Nat × (Nat × (Nat × (Nat × (Int32 × List (Int32 × Nat)))))))
abbrev z_Sc : Type := Option (Nat × (Nat → Int32))
def z_kT : List (List Nat) := [[], [2, 0, 3], [0, 0, 0, 0, 0, 1, 0, 2], [2, 2], [0, 0, 0, 2, 0, 2, 2], [2, 0, 0, 3], [2, 2, 2, 0, 2, 0, 0], [2, 0, 2], [2, 2, 2, 0], [0, 0, 0, 3], [0, 0, 2], [2, 2, 2, 2, 1, 2, 2, 2, 2, 2, 2, 0, 2, 2, 2, 2, 2], [0, 0, 0, 0, 0, 2, 2, 2, 2, 2, 2, 0, 0, 0, 0, 0, 2, 2, 2, 2, 2, 2, 2, 2, 0, 0, 0, 2, 2, 0, 0, 0, 0, 0, 2, 2, 2, 2, 2, 2, 0, 0, 0, 2, 2, 2, 2, 0, 0, 2, 2, 2, 2, 1, 0, 0, 0, 0, 0, 0, 0, 0, 0, 2, 2, 2, 2, 2, 2, 2, 2, 2, 2, 2, 2, 2, 0, 2, 2, 2, 2, 2], [], [], [], [], [], [], [], [], [], [], [], [], [], [], [], [], [], [], [], [], [], [], [], [], [], [], [], [], [], [], [], [], [], [], [], [], [], [], [], [], [], [], [], [], [], [], [], [], [], [], [], [], [], [], [], [], [], [], [], [], [], [], [], [], [], [], [], [], [], [], [], []]
def z_cT : List (List (Nat × (Nat × Nat))) := [[], [(20, 1, 0), (0, 0, 0), (2, 0, 0)], [(0, 0, 0), (0, 0, 0), (0, 0, 0), (0, 0, 0), (0, 0, 0), (0, 0, 0), (0, 0, 0), (21, 1, 0)], [(2, 0, 18), (9, 0, 3)], [(0, 0, 0), (0, 0, 0), (0, 0, 0), (22, 1, 0), (0, 0, 0), (23, 1, 0), (24, 1, 0)], [(25, 1, 0), (0, 0, 0), (0, 0, 0), (4, 0, 0)], [(26, 1, 0), (27, 1, 0), (28, 1, 0), (0, 0, 0), (29, 1, 0), (0, 0, 0), (0, 0, 0)], [(30, 1, 0), (0, 0, 0), (9, 1, 0)], [(31, 1, 0), (32, 1, 0), (33, 1, 0), (0, 0, 0)], [(0, 0, 0), (0, 0, 0), (0, 0, 0), (4, 0, 0)], [(0, 0, 0), (0, 0, 0), (34, 1, 0)], [(7, 0, 0), (8, 0, 0), (8, 0, 1), (8, 0, 2), (0, 0, 0), (7, 0, 1), (8, 0, 3), (8, 0, 4), (8, 0, 5), (5, 0, 0), (35, 1, 0), (0, 0, 0), (36, 1, 0), (1, 0, 0), (7, 0, 2), (3, 0, 0), (6, 0, 0)], [(0, 0, 0), (0, 0, 0), (0, 0, 0), (0, 0, 0), (0, 0, 0), (37, 1, 0), (38, 1, 0), (39, 1, 0), (40, 1, 0), (41, 1, 0), (42, 1, 0), (0, 0, 0), (0, 0, 0), (0, 0, 0), (0, 0, 0), (0, 0, 0), (43, 1, 0), (44, 1, 0), (45, 1, 0), (46, 1, 0), (47, 1, 0), (48, 1, 0), (49, 1, 0), (50, 1, 0), (0, 0, 0), (0, 0, 0), (0, 0, 0), (51, 1, 0), (52, 1, 0), (0, 0, 0), (0, 0, 0), (0, 0, 0), (0, 0, 0), (0, 0, 0), (53, 1, 0), (54, 1, 0), (55, 1, 0), (56, 1, 0), (57, 1, 0), (58, 1, 0), (0, 0, 0), (0, 0, 0), (0, 0, 0), (59, 1, 0), (60, 1, 0), (61, 1, 0), (62, 1, 0), (0, 0, 0), (0, 0, 0), (63, 1, 0), (64, 1, 0), (65, 1, 0), (66, 1, 0), (0, 0, 0), (0, 0, 0), (0, 0, 0), (0, 0, 0), (0, 0, 0), (0, 0, 0), (0, 0, 0), (0, 0, 0), (0, 0, 0), (0, 0, 0), (67, 1, 0), (68, 1, 0), (69, 1, 0), (70, 1, 0), (71, 1, 0), (72, 1, 0), (73, 1, 0), (74, 1, 0), (75, 1, 0), (76, 1, 0), (77, 1, 0), (78, 1, 0), (79, 1, 0), (0, 0, 0), (80, 1, 0), (81, 1, 0), (82, 1, 0), (83, 1, 0), (84, 1, 0)], [], [], [], [], [], [], [], [], [], [], [], [], [], [], [], [], [], [(2, 6, 0)], [], [], [], [], [(4, 0, 0)], [(10, 0, 0)], [], [], [], [], [], [], [], [], [], [], [], [], [], [], [], [], [], [], [], [], [], [], [], [], [], [], [], [], [], [], [], [], [], [], [], [], [], [], [], [], [], [], [], [], [], [], [], []]
def z_aT : List Nat := [0, 0, 0, 0, 0, 0, 0, 0, 0, 0, 0, 0, 0, 0, 0, 0, 0, 0, 0, 0, 1, 1, 1, 1, 1, 3, 1, 2, 1, 1, 5, 1, 1, 1, 4, 5, 5, 1, 1, 1, 1, 1, 1, 1, 1, 1, 1, 1, 1, 1, 1, 1, 2, 1, 1, 1, 1, 1, 1, 1, 1, 1, 1, 1, 1, 1, 1, 1, 1, 1, 1, 1, 1, 1, 1, 1, 1, 1, 1, 1, 1, 1, 1, 4, 4]
def z_nT : List Nat := [0, 0, 0, 0, 0, 0, 0, 0, 0, 0, 0, 0, 0, 0, 0, 0, 0, 0, 0, 0, 20, 4, 100, 10, 6, 100, 36, 6, 6, 6, 6, 1000, 1000, 1000, 60, 6, 6, 6, 6, 6, 6, 6, 24, 100, 6, 60, 60, 60, 60, 600, 101, 14, 100, 6, 6, 6, 36, 6, 6, 5, 5, 5, 6, 10, 10, 8, 8, 6, 6, 6, 6, 6, 24, 5, 5, 5, 10, 10, 8, 8, 20, 6, 6, 360, 60]
def z_ord : List (Nat × Nat) := [(11, 0), (8, 0), (31, 0), (32, 0), (33, 0), (8, 1), (31, 1), (32, 1), (33, 1), (8, 2), (31, 2), (32, 2), (33, 2), (8, 3), (31, 3), (32, 3), (33, 3), (8, 4), (31, 4), (32, 4), (33, 4), (8, 5), (31, 5), (32, 5), (33, 5), (35, 0), (36, 0), (1, 0), (20, 0), (2, 19), (21, 19), (6, 0), (26, 0), (27, 0), (28, 0), (29, 0), (4, 6), (22, 6), (23, 6), (24, 6), (7, 0), (30, 0), (9, 0), (2, 0), (21, 0), (2, 1), (21, 1), (2, 2), (21, 2), (2, 3), (21, 3), (2, 4), (21, 4), (2, 5), (21, 5), (7, 1), (30, 1), (9, 1), (2, 6), (21, 6), (2, 7), (21, 7), (2, 8), (21, 8), (2, 9), (21, 9), (2, 10), (21, 10), (2, 11), (21, 11), (7, 2), (30, 2), (9, 2), (2, 12), (21, 12), (2, 13), (21, 13), (2, 14), (21, 14), (2, 15), (21, 15), (2, 16), (21, 16), (2, 17), (21, 17), (3, 0), (2, 18), (21, 18), (9, 3), (5, 0), (25, 0), (4, 0), (22, 0), (23, 0), (24, 0), (4, 1), (22, 1), (23, 1), (24, 1), (4, 2), (22, 2), (23, 2), (24, 2), (4, 3), (22, 3), (23, 3), (24, 3), (4, 4), (22, 4), (23, 4), (24, 4), (4, 5), (22, 5), (23, 5), (24, 5), (10, 0), (34, 0), (10, 1), (34, 1), (10, 2), (34, 2), (10, 3), (34, 3), (10, 4), (34, 4), (10, 5), (34, 5), (12, 0), (37, 0), (38, 0), (39, 0), (40, 0), (41, 0), (42, 0), (43, 0), (44, 0), (45, 0), (46, 0), (47, 0), (48, 0), (49, 0), (50, 0), (51, 0), (52, 0), (53, 0), (54, 0), (55, 0), (56, 0), (57, 0), (58, 0), (59, 0), (60, 0), (61, 0), (62, 0), (63, 0), (64, 0), (65, 0), (66, 0), (67, 0), (68, 0), (69, 0), (70, 0), (71, 0), (72, 0), (73, 0), (74, 0), (75, 0), (76, 0), (77, 0), (78, 0), (79, 0), (80, 0), (81, 0), (82, 0), (83, 0), (84, 0)]
def z_sI (S : z_Mem) (t i k : Nat) (x : Int32) : z_Mem := (fun t' i' k' => if t' = t ∧ i' = i ∧ k' = k then x else S.1 t' i' k', S.2)
def z_sL (S : z_Mem) (t i k : Nat) (x : Int64) : z_Mem := (S.1, fun t' i' k' => if t' = t ∧ i' = i ∧ k' = k then x else S.2.1 t' i' k', S.2.2)
def z_sR (S : z_Mem) (t i k : Nat) (x : Nat × Nat) : z_Mem := (S.1, S.2.1, fun t' i' k' => if t' = t ∧ i' = i ∧ k' = k then x else S.2.2.1 t' i' k', S.2.2.2)
def z_rst (S : z_Mem) (t i : Nat) : z_Mem := (fun t' i' k' => if t' = t ∧ i' = i then 0 else S.1 t' i' k', fun t' i' k' => if t' = t ∧ i' = i then 0 else S.2.1 t' i' k', fun t' i' k' => if t' = t ∧ i' = i then (0, 0) else S.2.2.1 t' i' k', S.2.2.2 + 1)
/-- kinds of an object's slots: 0 int, 1 boolean, 2 a fixed reference, 3 a reference that changes -/
def z_shK (t k : Nat) : Nat := (z_kT.getD t []).getD k 9
/-- kinds of an array's elements: 0 no array, 1 int, 2 boolean, 3 byte, 4 long, 5 references -/
def z_aK (t : Nat) : Nat := z_aT.getD t 0
def z_rl (i : Nat) : Nat := match i with | 0 => 5 | 1 => 10 | 2 => 8 | 3 => 5 | 4 => 10 | _ => 8
def z_aN (t i : Nat) : Nat := cond (Nat.beq (z_nT.getD t 0) 1000) (z_rl i) (z_nT.getD t 0)
def z_rT (t k : Nat) : Nat × (Nat × Nat) := (z_cT.getD t []).getD k (0, 0, 0)
def z_dT (t k : Nat) : Nat := (z_rT t k).1
def z_refC (t k i : Nat) : Nat × Nat := cond (Nat.beq (z_rT t k).2.1 1) ((z_rT t k).1, i) ((z_rT t k).1, (z_rT t k).2.2)
def z_eT (t : Nat) : Nat := (z_rT t 0).1
def z_elC (t i j : Nat) : Nat × Nat := cond (Nat.beq (z_rT t 0).2.1 0) (z_eT t, j) (z_eT t, (z_rT t 0).2.1 * i + j)
def z_rv (md : Bool) (S : z_Mem) (t i k : Nat) : Nat × Nat := cond md (cond (Nat.beq (z_shK t k) 2) (z_refC t k i) (z_dT t k, (S.2.2.1 t i k).2)) (S.2.2.1 t i k)
def z_re (md : Bool) (S : z_Mem) (t i j : Nat) : Nat × Nat := cond md (z_elC t i j) (S.2.2.1 t i j)
def z_oob (j : Int32) (n : Nat) : Bool := decide (j < 0) || Nat.ble n j.toNatClampNeg
def z_st (ls : z_Lc) (i : Nat) (v : z_AV) : Option z_Lc := match i with
  | 0 => some (ls.set 0 (some v))
  | j + 1 => match ls.getD j none with
    | some (.inr (.inl _)) => none
    | _ => some (ls.set (j + 1) (some v))
def z_sw {ρ : Type} : List (Int32 × Nat) → Int32 → (Nat → ρ) → Nat → ρ
  | [], _, f, d => f d
  | q :: r, v, f, d => if v = q.1 then f q.2 else z_sw r v f d
def z_cpI (f g : Nat → Int32) (sp dp n : Nat) : Nat → Int32 := va_cpy f g sp dp n
def z_acI (S : z_Mem) (t i sp t2 i2 dp n : Nat) : z_Mem := (fun t' i' k' => if t' = t2 ∧ i' = i2 then va_cpy (S.1 t i) (S.1 t2 i2) sp dp n k' else S.1 t' i' k', S.2)
def z_acL (S : z_Mem) (t i sp t2 i2 dp n : Nat) : z_Mem := (S.1, fun t' i' k' => if t' = t2 ∧ i' = i2 then va_cpy (S.2.1 t i) (S.2.1 t2 i2) sp dp n k' else S.2.1 t' i' k', S.2.2)
def z_rng (sp n : Int32) (N : Nat) : Bool := !decide (sp < 0) && (!decide (n < 0) && Nat.ble (sp.toNatClampNeg + n.toNatClampNeg) N)
def z_cat : List z_AV → Nat
  | [] => 0
  | .inl _ :: r => z_cat r + 1
  | .inr (.inl _) :: r => z_cat r + 2
  | .inr (.inr _) :: r => z_cat r + 1
/-- one instruction that is no call and no return -/
def z_stp {ρ : Type} (md : Bool) (sc : z_Sc) (ins : Instr) (a b c : Nat) (x : Int32) (sw : List (Int32 × Nat)) (pc : Nat) (ls : z_Lc) (st : List z_AV) (S : z_Mem) (κ : Nat → z_Lc → List z_AV → z_Mem → Option ρ) : Option ρ :=
  match ins with
  | .iconst _ => κ (pc + 1) ls (.inl x :: st) S
  | .bipush _ => κ (pc + 2) ls (.inl x :: st) S
  | .sipush _ => κ (pc + 3) ls (.inl x :: st) S
  | .ldc_w _ => κ (pc + 3) ls (.inl x :: st) S
  | .lconst n => κ (pc + 1) ls (.inr (.inl (Int64.ofNat (n : Nat))) :: st) S
  | .ldc2_w _ => κ (pc + 3) ls (.inr (.inl (Int64.ofNat a)) :: st) S
  | .iload _ => match ls.getD a none with | some (.inl v) => κ (pc + 2) ls (.inl v :: st) S | _ => none
  | .iload_n _ => match ls.getD a none with | some (.inl v) => κ (pc + 1) ls (.inl v :: st) S | _ => none
  | .lload _ => match ls.getD a none with | some (.inr (.inl v)) => κ (pc + 2) ls (.inr (.inl v) :: st) S | _ => none
  | .lload_n _ => match ls.getD a none with | some (.inr (.inl v)) => κ (pc + 1) ls (.inr (.inl v) :: st) S | _ => none
  | .aload _ => match ls.getD a none with | some (.inr (.inr v)) => cond (Nat.beq v.1 0) none (κ (pc + 2) ls (.inr (.inr v) :: st) S) | _ => none
  | .aload_n _ => match ls.getD a none with | some (.inr (.inr v)) => cond (Nat.beq v.1 0) none (κ (pc + 1) ls (.inr (.inr v) :: st) S) | _ => none
  | .istore _ => match st with | .inl v :: r => (match z_st ls a (.inl v) with | some l => κ (pc + 2) l r S | none => none) | _ => none
  | .istore_n _ => match st with | .inl v :: r => (match z_st ls a (.inl v) with | some l => κ (pc + 1) l r S | none => none) | _ => none
  | .lstore _ => match st with | .inr (.inl v) :: r => (match z_st ls a (.inr (.inl v)) with | some l => κ (pc + 2) (l.set (a + 1) none) r S | none => none) | _ => none
  | .astore _ => match st with | .inr (.inr v) :: r => cond (Nat.beq v.1 0) none (match z_st ls a (.inr (.inr v)) with | some l => κ (pc + 2) l r S | none => none) | _ => none
  | .astore_n _ => match st with | .inr (.inr v) :: r => cond (Nat.beq v.1 0) none (match z_st ls a (.inr (.inr v)) with | some l => κ (pc + 1) l r S | none => none) | _ => none
  | .iinc _ _ => match ls.getD a none with | some (.inl v) => (match z_st ls a (.inl (v + x)) with | some l => κ (pc + 3) l st S | none => none) | _ => none
  | .iadd => match st with | .inl y :: .inl w :: r => κ (pc + 1) ls (.inl (w + y) :: r) S | _ => none
  | .isub => match st with | .inl y :: .inl w :: r => κ (pc + 1) ls (.inl (w - y) :: r) S | _ => none
  | .imul => match st with | .inl y :: .inl w :: r => κ (pc + 1) ls (.inl (w * y) :: r) S | _ => none
  | .iand => match st with | .inl y :: .inl w :: r => κ (pc + 1) ls (.inl (w &&& y) :: r) S | _ => none
  | .ior => match st with | .inl y :: .inl w :: r => κ (pc + 1) ls (.inl (w ||| y) :: r) S | _ => none
  | .ixor => match st with | .inl y :: .inl w :: r => κ (pc + 1) ls (.inl (w ^^^ y) :: r) S | _ => none
  | .ishl => match st with | .inl y :: .inl w :: r => κ (pc + 1) ls (.inl (w <<< (y &&& 31)) :: r) S | _ => none
  | .ishr => match st with | .inl y :: .inl w :: r => κ (pc + 1) ls (.inl (w >>> (y &&& 31)) :: r) S | _ => none
  | .iushr => match st with | .inl y :: .inl w :: r => κ (pc + 1) ls (.inl ((w.toUInt32 >>> (y.toUInt32 &&& Int32.toUInt32 31)).toInt32) :: r) S | _ => none
  | .idiv => match st with | .inl y :: .inl w :: r => if y = 0 then none else κ (pc + 1) ls (.inl (w / y) :: r) S | _ => none
  | .irem => match st with | .inl y :: .inl w :: r => if y = 0 then none else κ (pc + 1) ls (.inl (w - w / y * y) :: r) S | _ => none
  | .ineg => match st with | .inl y :: r => κ (pc + 1) ls (.inl (-y) :: r) S | _ => none
  | .land => match st with | .inr (.inl y) :: .inr (.inl w) :: r => κ (pc + 1) ls (.inr (.inl (w &&& y)) :: r) S | _ => none
  | .lor => match st with | .inr (.inl y) :: .inr (.inl w) :: r => κ (pc + 1) ls (.inr (.inl (w ||| y)) :: r) S | _ => none
  | .lshl => match st with | .inl y :: .inr (.inl w) :: r => κ (pc + 1) ls (.inr (.inl (w <<< (y.toInt64 &&& 63))) :: r) S | _ => none
  | .lcmp => match st with | .inr (.inl y) :: .inr (.inl w) :: r => κ (pc + 1) ls (.inl (lg_cmp w y) :: r) S | _ => none
  | .i2l => match st with | .inl y :: r => κ (pc + 1) ls (.inr (.inl y.toInt64) :: r) S | _ => none
  | .l2i => match st with | .inr (.inl y) :: r => κ (pc + 1) ls (.inl y.toInt32 :: r) S | _ => none
  | .i2b => match st with | .inl y :: r => κ (pc + 1) ls (.inl y.toInt8.toInt32 :: r) S | _ => none
  | .i2s => match st with | .inl y :: r => κ (pc + 1) ls (.inl y.toInt16.toInt32 :: r) S | _ => none
  | .dup => match st with | .inl v :: r => κ (pc + 1) ls (.inl v :: .inl v :: r) S | .inr (.inr v) :: r => cond (Nat.beq v.1 0) none (κ (pc + 1) ls (.inr (.inr v) :: .inr (.inr v) :: r) S) | _ => none
  | .goto _ => κ a ls st S
  | .ifCond cd _ => match st with
    | .inl v :: r => (match cd with
      | .eq => if v = 0 then κ a ls r S else κ (pc + 3) ls r S
      | .ne => if v = 0 then κ (pc + 3) ls r S else κ a ls r S
      | .lt => if v < 0 then κ a ls r S else κ (pc + 3) ls r S
      | .ge => if 0 ≤ v then κ a ls r S else κ (pc + 3) ls r S
      | .gt => if 0 < v then κ a ls r S else κ (pc + 3) ls r S
      | .le => if v ≤ 0 then κ a ls r S else κ (pc + 3) ls r S)
    | _ => none
  | .if_icmp cd _ => match st with
    | .inl y :: .inl v :: r => (match cd with
      | .eq => if v = y then κ a ls r S else κ (pc + 3) ls r S
      | .ne => if v = y then κ (pc + 3) ls r S else κ a ls r S
      | .lt => if v < y then κ a ls r S else κ (pc + 3) ls r S
      | .ge => if y ≤ v then κ a ls r S else κ (pc + 3) ls r S
      | .gt => if y < v then κ a ls r S else κ (pc + 3) ls r S
      | .le => if v ≤ y then κ a ls r S else κ (pc + 3) ls r S)
    | _ => none
  | .tableswitch _ _ _ _ => match st with | .inl v :: r => z_sw sw v (fun t => κ t ls r S) a | _ => none
  | .lookupswitch _ _ => match st with | .inl v :: r => z_sw sw v (fun t => κ t ls r S) a | _ => none
  | .getfield _ => match st with
    | .inr (.inr q) :: r => cond (Nat.beq q.1 a) (match z_shK a b with
      | 0 => κ (pc + 3) ls (.inl (S.1 a q.2 b) :: r) S
      | 1 => κ (pc + 3) ls (.inl (S.1 a q.2 b) :: r) S
      | 2 => κ (pc + 3) ls (.inr (.inr (z_rv md S a q.2 b)) :: r) S
      | 3 => κ (pc + 3) ls (.inr (.inr (z_rv md S a q.2 b)) :: r) S
      | _ => none) none
    | _ => none
  | .putfield _ => match st with
    | .inl v :: .inr (.inr q) :: r => cond (Nat.beq q.1 a) (match z_shK a b with
      | 0 => κ (pc + 3) ls r (z_sI S a q.2 b v)
      | 1 => if v &&& 1 = v then κ (pc + 3) ls r (z_sI S a q.2 b v) else none
      | _ => none) none
    | .inr (.inr v) :: .inr (.inr q) :: r => cond (Nat.beq q.1 a) (cond (Nat.beq v.1 0) none (match z_shK a b with
      | 2 => cond md none (κ (pc + 3) ls r (z_sR S a q.2 b v))
      | 3 => cond md (cond (Nat.beq v.1 (z_dT a b)) (κ (pc + 3) ls r (z_sR S a q.2 b v)) none) (κ (pc + 3) ls r (z_sR S a q.2 b v))
      | _ => none)) none
    | _ => none
  | .iaload => match st with
    | .inl j :: .inr (.inr q) :: r => cond (Nat.beq q.1 90)
      (match sc with | some (L, xs) => cond (z_oob j L) none (κ (pc + 1) ls (.inl (xs j.toNatClampNeg) :: r) S) | none => none)
      (cond (Nat.beq (z_aK q.1) 1) (cond (z_oob j (z_aN q.1 q.2)) none (κ (pc + 1) ls (.inl (S.1 q.1 q.2 j.toNatClampNeg) :: r) S)) none)
    | _ => none
  | .baload => match st with
    | .inl j :: .inr (.inr q) :: r => cond (Nat.beq (z_aK q.1) 2 || Nat.beq (z_aK q.1) 3) (cond (z_oob j (z_aN q.1 q.2)) none (κ (pc + 1) ls (.inl (S.1 q.1 q.2 j.toNatClampNeg) :: r) S)) none
    | _ => none
  | .laload => match st with
    | .inl j :: .inr (.inr q) :: r => cond (Nat.beq (z_aK q.1) 4) (cond (z_oob j (z_aN q.1 q.2)) none (κ (pc + 1) ls (.inr (.inl (S.2.1 q.1 q.2 j.toNatClampNeg)) :: r) S)) none
    | _ => none
  | .aaload => match st with
    | .inl j :: .inr (.inr q) :: r => cond (Nat.beq (z_aK q.1) 5) (cond (z_oob j (z_aN q.1 q.2)) none (κ (pc + 1) ls (.inr (.inr (z_re md S q.1 q.2 j.toNatClampNeg)) :: r) S)) none
    | _ => none
  | .iastore => match st with
    | .inl v :: .inl j :: .inr (.inr q) :: r => cond (Nat.beq (z_aK q.1) 1) (cond (z_oob j (z_aN q.1 q.2)) none (κ (pc + 1) ls r (z_sI S q.1 q.2 j.toNatClampNeg v))) none
    | _ => none
  | .bastore => match st with
    | .inl v :: .inl j :: .inr (.inr q) :: r => cond (Nat.beq (z_aK q.1) 2) (cond (z_oob j (z_aN q.1 q.2)) none (κ (pc + 1) ls r (z_sI S q.1 q.2 j.toNatClampNeg (vp_nar .boolean v))))
      (cond (Nat.beq (z_aK q.1) 3) (cond (z_oob j (z_aN q.1 q.2)) none (κ (pc + 1) ls r (z_sI S q.1 q.2 j.toNatClampNeg (vp_nar .byte v)))) none)
    | _ => none
  | .lastore => match st with
    | .inr (.inl v) :: .inl j :: .inr (.inr q) :: r => cond (Nat.beq (z_aK q.1) 4) (cond (z_oob j (z_aN q.1 q.2)) none (κ (pc + 1) ls r (z_sL S q.1 q.2 j.toNatClampNeg v))) none
    | _ => none
  | .aastore => match st with
    | .inr (.inr v) :: .inl j :: .inr (.inr q) :: r => cond md none (cond (Nat.beq (z_aK q.1) 5 && Nat.beq v.1 (z_eT q.1)) (cond (z_oob j (z_aN q.1 q.2)) none (κ (pc + 1) ls r (z_sR S q.1 q.2 j.toNatClampNeg v))) none)
    | _ => none
  | .arraylength => match st with
    | .inr (.inr q) :: r => cond (Nat.beq q.1 90)
      (match sc with | some (L, _) => κ (pc + 1) ls (.inl (Int32.ofNat L) :: r) S | none => none)
      (cond (Nat.beq (z_aK q.1) 0) none (κ (pc + 1) ls (.inl (Int32.ofNat (z_aN q.1 q.2)) :: r) S))
    | _ => none
  | .new _ => cond (!md && Nat.beq (z_ord.getD S.2.2.2 (0, 0)).1 a) (κ (pc + 3) ls (.inr (.inr (z_ord.getD S.2.2.2 (0, 0))) :: st) (z_rst S (z_ord.getD S.2.2.2 (0, 0)).1 (z_ord.getD S.2.2.2 (0, 0)).2)) none
  | .newarray _ => match st with
    | .inl j :: r => cond (!md && Nat.beq (z_aK (z_ord.getD S.2.2.2 (0, 0)).1) a) (if j = Int32.ofNat (z_aN (z_ord.getD S.2.2.2 (0, 0)).1 (z_ord.getD S.2.2.2 (0, 0)).2) then κ (pc + 2) ls (.inr (.inr (z_ord.getD S.2.2.2 (0, 0))) :: r) (z_rst S (z_ord.getD S.2.2.2 (0, 0)).1 (z_ord.getD S.2.2.2 (0, 0)).2) else none) none
    | _ => none
  | .anewarray _ => match st with
    | .inl j :: r => cond (!md && (Nat.beq (z_aK (z_ord.getD S.2.2.2 (0, 0)).1) 5 && Nat.beq (z_eT (z_ord.getD S.2.2.2 (0, 0)).1) a)) (if j = Int32.ofNat (z_aN (z_ord.getD S.2.2.2 (0, 0)).1 (z_ord.getD S.2.2.2 (0, 0)).2) then κ (pc + 3) ls (.inr (.inr (z_ord.getD S.2.2.2 (0, 0))) :: r) (z_rst S (z_ord.getD S.2.2.2 (0, 0)).1 (z_ord.getD S.2.2.2 (0, 0)).2) else none) none
    | _ => none
  | _ => none
/-- the calls that are rows of the kit: 1000 Object(), 1001 Math.max, 1002 Math.min, 1003 System.arraycopy -/
def z_bi {ρ : Type} (a : Nat) (pc : Nat) (ls : z_Lc) (st : List z_AV) (S : z_Mem) (κ : Nat → z_Lc → List z_AV → z_Mem → Option ρ) : Option ρ :=
  match a with
  | 1000 => match st with | .inr (.inr q) :: r => cond (Nat.beq q.1 0 || Nat.ble 9 (z_cat r)) none (κ (pc + 3) ls r S) | _ => none
  | 1001 => match st with | .inl y :: .inl w :: r => cond (Nat.ble 9 (z_cat r)) none (κ (pc + 3) ls (.inl (if w < y then y else w) :: r) S) | _ => none
  | 1002 => match st with | .inl y :: .inl w :: r => cond (Nat.ble 9 (z_cat r)) none (κ (pc + 3) ls (.inl (if y < w then y else w) :: r) S) | _ => none
  | 1003 => match st with
    | .inl n :: .inl dp :: .inr (.inr q2) :: .inl sp :: .inr (.inr q) :: r =>
      cond (Nat.ble 9 (z_cat r)) none (cond (z_rng sp n (z_aN q.1 q.2) && z_rng dp n (z_aN q2.1 q2.2))
        (cond (Nat.beq (z_aK q.1) 1 && Nat.beq (z_aK q2.1) 1) (κ (pc + 3) ls r (z_acI S q.1 q.2 sp.toNatClampNeg q2.1 q2.2 dp.toNatClampNeg n.toNatClampNeg))
          (cond (Nat.beq (z_aK q.1) 4 && Nat.beq (z_aK q2.1) 4) (κ (pc + 3) ls r (z_acL S q.1 q.2 sp.toNatClampNeg q2.1 q2.2 dp.toNatClampNeg n.toNatClampNeg)) none)) none)
    | _ => none
  | _ => none
abbrev z_Ex : Type := Nat → List z_AV → z_Mem → Option (Option z_AV × z_Mem)
def z_rV {ρ : Type} (o : Option (Option z_AV × z_Mem)) (f : z_Mem → Option ρ) : Option ρ := match o with | some (none, S) => f S | _ => none
def z_rI {ρ : Type} (o : Option (Option z_AV × z_Mem)) (f : Int32 → z_Mem → Option ρ) : Option ρ := match o with | some (some (.inl x), S) => f x S | _ => none
def z_rL {ρ : Type} (o : Option (Option z_AV × z_Mem)) (f : Int64 → z_Mem → Option ρ) : Option ρ := match o with | some (some (.inr (.inl x)), S) => f x S | _ => none
def z_tk : Nat → List z_AV → List z_AV → Option (List z_AV × List z_AV)
  | 0, st, acc => some (acc, st)
  | _ + 1, [], _ => none
  | n + 1, v :: st, acc => z_tk n st (v :: acc)
def z_rcv (t : Nat) (as : List z_AV) : Bool := match as with
  | .inr (.inr q) :: _ => Nat.beq q.1 t || Nat.beq t 0
  | _ => Nat.beq t 0
/-- a call: a the method, b how many arguments, c the receiver's tag (0: a static one), x 0 void, 1 int, 2 long -/
def z_call {ρ : Type} (ex : z_Ex) (a b c : Nat) (x : Int32) (pc : Nat) (ls : z_Lc) (st : List z_AV) (S : z_Mem) (κ : Nat → z_Lc → List z_AV → z_Mem → Option ρ) : Option ρ :=
  match z_tk b st [] with
  | none => none
  | some (as, r) => cond (z_rcv c as && Nat.ble (z_cat r) 8)
    (if x = 0 then z_rV (ex a as S) (fun S' => κ (pc + 3) ls r S') else if x = 1 then z_rI (ex a as S) (fun v S' => κ (pc + 3) ls (.inl v :: r) S') else z_rL (ex a as S) (fun v S' => κ (pc + 3) ls (.inr (.inl v) :: r) S')) none
def z_lk : List z_Op → Nat → Option (Instr × (Nat × (Nat × (Nat × (Nat × (Int32 × List (Int32 × Nat)))))))
  | [], _ => none
  | q :: r, pc => cond (Nat.beq q.1 pc) (some q.2) (z_lk r pc)
def z_cut : List (Nat × List Bool) → Nat → Option (List Bool)
  | [], _ => none
  | q :: r, pc => cond (Nat.beq q.1 pc) (some q.2) (z_cut r pc)
def z_msk : List Bool → z_Lc → z_Lc
  | b :: bs, v :: vs => cond b v none :: z_msk bs vs
  | _, vs => vs
def z_go {ρ : Type} (md : Bool) (sc : z_Sc) (ex : z_Ex) (bo : Bool) (ops : List z_Op) (cuts : List (Nat × List Bool)) (K : Nat → z_Lc → List z_AV → z_Mem → Option ρ) (Kr : Option z_AV → z_Mem → Option ρ) : Nat → Nat → z_Lc → List z_AV → z_Mem → Option ρ
  | 0, _, _, _, _ => none
  | k + 1, pc, ls, st, S => match z_lk ops pc with
    | none => none
    | some (ins, _, a, b, c, x, sw) =>
      match ins with
      | .ireturn => match st with | [.inl v] => (cond bo (if v &&& 1 = v then Kr (some (.inl v)) S else none) (Kr (some (.inl v)) S)) | _ => none
      | .lreturn => match st with | [.inr (.inl v)] => Kr (some (.inr (.inl v))) S | _ => none
      | .return_ => match st with | [] => Kr none S | _ => none
      | .invokevirtual _ => z_call ex a b c x pc ls st S (fun pc' ls' st' S' => match z_cut cuts pc' with | some mq => K pc' (z_msk mq ls') st' S' | none => z_go md sc ex bo ops cuts K Kr k pc' ls' st' S')
      | .invokestatic _ => cond (Nat.ble 1000 a) (z_bi a pc ls st S (fun pc' ls' st' S' => match z_cut cuts pc' with | some mq => K pc' (z_msk mq ls') st' S' | none => z_go md sc ex bo ops cuts K Kr k pc' ls' st' S'))
          (z_call ex a b c x pc ls st S (fun pc' ls' st' S' => match z_cut cuts pc' with | some mq => K pc' (z_msk mq ls') st' S' | none => z_go md sc ex bo ops cuts K Kr k pc' ls' st' S'))
      | .invokespecial _ => cond (Nat.ble 1000 a) (z_bi a pc ls st S (fun pc' ls' st' S' => match z_cut cuts pc' with | some mq => K pc' (z_msk mq ls') st' S' | none => z_go md sc ex bo ops cuts K Kr k pc' ls' st' S'))
          (z_call ex a b c x pc ls st S (fun pc' ls' st' S' => match z_cut cuts pc' with | some mq => K pc' (z_msk mq ls') st' S' | none => z_go md sc ex bo ops cuts K Kr k pc' ls' st' S'))
      | _ => z_stp md sc ins a b c x sw pc ls st S (fun pc' ls' st' S' => match z_cut cuts pc' with | some mq => K pc' (z_msk mq ls') st' S' | none => z_go md sc ex bo ops cuts K Kr k pc' ls' st' S')
def z_run (md : Bool) (ex : z_Ex) (bo : Bool) (ops : List z_Op) (cuts : List (Nat × List Bool)) : Nat → Nat → z_Lc → List z_AV → z_Mem → Option (Option z_AV × z_Mem)
  | 0, _, _, _, _ => none
  | n + 1, pc, ls, st, S => z_go md none ex bo ops cuts (fun pc' ls' st' S' => z_run md ex bo ops cuts n pc' ls' st' S') (fun r S' => some (r, S')) 2000 pc ls st S
def z_ent : Nat → List z_AV → z_Lc
  | n, [] => List.replicate n none
  | n, .inl v :: r => some (.inl v) :: z_ent (n - 1) r
  | n, .inr (.inl v) :: r => some (.inr (.inl v)) :: none :: z_ent (n - 2) r
  | n, .inr (.inr v) :: r => some (.inr (.inr v)) :: z_ent (n - 1) r
/-- a method's row: name, code, locals, what it returns, boolean or not, instructions, cuts, the receiver's tag (0: static), how many arguments -/
abbrev z_Mt : Type := MethodName × (ByteArray × (Nat × (Option FieldType × (Bool × (List z_Op × (List (Nat × List Bool) × (Nat × Nat)))))))
def z_exe (mt : List z_Mt) (md : Bool) : Nat → z_Ex
  | 0 => fun _ _ _ => none
  | d + 1 => fun j as S => match mt[j]? with
    | none => none
    | some q => cond (Nat.beq (z_ent q.2.2.1 as).length q.2.2.1) (z_run md (z_exe mt md d) q.2.2.2.2.1 q.2.2.2.2.2.1 q.2.2.2.2.2.2.1 1000000 0 (z_ent q.2.2.1 as) [] S) none
