abbrev zr_X0_forget (ex : z_Ex) (n pc : Nat) (ls : z_Lc) (st : List z_AV) (S : z_Mem) : Option (Option z_AV × z_Mem) := z_run true ex false zo_X0_forget zc_X0_forget n pc ls st S
set_option maxRecDepth 100000 in
set_option maxHeartbeats 4000000 in
theorem ze_X0_forget_0 (ex : z_Ex) (n : Nat) (S : z_Mem) (i0 : Nat) : zr_X0_forget ex (n + 1) 0 [some (.inr (.inr (1, i0)))] [] S =
 let S1 : z_Mem := z_sI S 1 i0 1 (0 : Int32)
 some (none, S1) := rfl
theorem zx_X0_forget (d : Nat) (S : z_Mem) (i0 : Nat) : z_exe z_mt true (d + 1) 1 [.inr (.inr (1, i0))] S = zr_X0_forget (z_exe z_mt true d) (999999 + 1) 0 [some (.inr (.inr (1, i0)))] [] S := z_exe_eq (q := (yX0_forget, cX0_forget, 1, none, false, zo_X0_forget, zc_X0_forget, 1, 1)) rfl rfl
abbrev zr_X0_kept (ex : z_Ex) (n pc : Nat) (ls : z_Lc) (st : List z_AV) (S : z_Mem) : Option (Option z_AV × z_Mem) := z_run true ex false zo_X0_kept zc_X0_kept n pc ls st S
set_option maxRecDepth 100000 in
set_option maxHeartbeats 4000000 in
theorem ze_X0_kept_0 (ex : z_Ex) (n : Nat) (S : z_Mem) (i0 : Nat) : zr_X0_kept ex (n + 1) 0 [some (.inr (.inr (1, i0)))] [] S =
 some (some (.inl (if (20 : Int32) < (S.1 1 i0 1) then (20 : Int32) else (S.1 1 i0 1))), S) := rfl
theorem zx_X0_kept (d : Nat) (S : z_Mem) (i0 : Nat) : z_exe z_mt true (d + 1) 2 [.inr (.inr (1, i0))] S = zr_X0_kept (z_exe z_mt true d) (999999 + 1) 0 [some (.inr (.inr (1, i0)))] [] S := z_exe_eq (q := (yX0_kept, cX0_kept, 1, (some .int), false, zo_X0_kept, zc_X0_kept, 1, 1)) rfl rfl
abbrev zr_X0_run (ex : z_Ex) (n pc : Nat) (ls : z_Lc) (st : List z_AV) (S : z_Mem) : Option (Option z_AV × z_Mem) := z_run true ex false zo_X0_run zc_X0_run n pc ls st S
set_option maxRecDepth 100000 in
set_option maxHeartbeats 4000000 in
theorem ze_X0_run_0 (ex : z_Ex) (n : Nat) (S : z_Mem) (i0 : Nat) (i1 : Nat) (v2 : Int32) (v3 : Int32) : zr_X0_run ex (n + 1) 0 [some (.inr (.inr (1, i0))), some (.inr (.inr (2, i1))), some (.inl v2), some (.inl v3)] [] S =
 let S1 : z_Mem := z_sR S 1 i0 2 (2, i1)
 if v2 = (0 : Int32) then (
  z_rI (ex 5 [.inr (.inr (1, i0)), .inl (S1.1 2 (S1.2.2.1 1 i0 2).2 1), .inl v3] S1) (fun r3 S2 =>
  some (some (.inl r3), S2))) else
 if v2 = (1 : Int32) then (
  z_rI (ex 6 [.inr (.inr (1, i0)), .inl (S1.1 2 (S1.2.2.1 1 i0 2).2 1), .inl v3] S1) (fun r5 S4 =>
  some (some (.inl r5), S4))) else
 if v2 = (2 : Int32) then (
  z_rI (ex 7 [.inr (.inr (1, i0)), .inl (S1.1 2 (S1.2.2.1 1 i0 2).2 1), .inl v3] S1) (fun r7 S6 =>
  some (some (.inl r7), S6))) else
 some (some (.inl (0 : Int32)), S1) := rfl
theorem zx_X0_run (d : Nat) (S : z_Mem) (i0 : Nat) (i1 : Nat) (v2 : Int32) (v3 : Int32) : z_exe z_mt true (d + 1) 3 [.inr (.inr (1, i0)), .inr (.inr (2, i1)), .inl v2, .inl v3] S = zr_X0_run (z_exe z_mt true d) (999999 + 1) 0 [some (.inr (.inr (1, i0))), some (.inr (.inr (2, i1))), some (.inl v2), some (.inl v3)] [] S := z_exe_eq (q := (yX0_run, cX0_run, 4, (some .int), false, zo_X0_run, zc_X0_run, 1, 4)) rfl rfl
abbrev zr_X0_note (ex : z_Ex) (n pc : Nat) (ls : z_Lc) (st : List z_AV) (S : z_Mem) : Option (Option z_AV × z_Mem) := z_run true ex false zo_X0_note zc_X0_note n pc ls st S
set_option maxRecDepth 100000 in
set_option maxHeartbeats 4000000 in
theorem ze_X0_note_0 (ex : z_Ex) (n : Nat) (S : z_Mem) (i0 : Nat) (v1 : Int32) : zr_X0_note ex (n + 1) 0 [some (.inr (.inr (1, i0))), some (.inl v1)] [] S =
 if (20 : Int32) ≤ (S.1 1 i0 1) then (
  let S1 : z_Mem := z_sI S 1 i0 1 ((S.1 1 i0 1) + (1 : Int32))
  some (none, S1))
 else (
  cond (z_oob (S.1 1 i0 1) 20) none (
  let S2 : z_Mem := z_sI S 20 i0 (Int32.toNatClampNeg (S.1 1 i0 1)) v1
  let S3 : z_Mem := z_sI S2 1 i0 1 ((S2.1 1 i0 1) + (1 : Int32))
  some (none, S3))) := rfl
theorem zx_X0_note (d : Nat) (S : z_Mem) (i0 : Nat) (v1 : Int32) : z_exe z_mt true (d + 1) 4 [.inr (.inr (1, i0)), .inl v1] S = zr_X0_note (z_exe z_mt true d) (999999 + 1) 0 [some (.inr (.inr (1, i0))), some (.inl v1)] [] S := z_exe_eq (q := (yX0_note, cX0_note, 2, none, false, zo_X0_note, zc_X0_note, 1, 2)) rfl rfl
abbrev zr_X0_drips (ex : z_Ex) (n pc : Nat) (ls : z_Lc) (st : List z_AV) (S : z_Mem) : Option (Option z_AV × z_Mem) := z_run true ex false zo_X0_drips zc_X0_drips n pc ls st S
set_option maxRecDepth 100000 in
set_option maxHeartbeats 4000000 in
theorem ze_X0_drips_0 (ex : z_Ex) (n : Nat) (S : z_Mem) (i0 : Nat) (v1 : Int32) (v2 : Int32) : zr_X0_drips ex (n + 1) 0 [some (.inr (.inr (1, i0))), some (.inl v1), some (.inl v2)] [] S =
 if v1 = (0 : Int32) then (
  z_rV (ex 4 [.inr (.inr (1, i0)), .inl (10 : Int32)] S) (fun S1 =>
  some (some (.inl (v2 + (S1.1 2 (S1.2.2.1 1 i0 2).2 0))), S1))) else
 if v1 = (1 : Int32) then (
  z_rI (ex 41 [.inl v1] S) (fun r3 S2 =>
  z_rI (ex 5 [.inr (.inr (1, i0)), .inl r3, .inl v2] S2) (fun r5 S4 =>
  some (some (.inl r5), S4)))) else
 if v1 = (2 : Int32) then (
  z_rV (ex 4 [.inr (.inr (1, i0)), .inl (30 : Int32)] S) (fun S6 =>
  z_rI (ex 41 [.inl (2 : Int32)] S6) (fun r8 S7 =>
  z_rI (ex 5 [.inr (.inr (1, i0)), .inl r8, .inl (v2 * (3 : Int32))] S7) (fun r10 S9 =>
  some (some (.inl r10), S9))))) else
 if v1 = (3 : Int32) then (
  z_rI (ex 41 [.inl v1] S) (fun r12 S11 =>
  z_rI (ex 5 [.inr (.inr (1, i0)), .inl r12, .inl v2] S11) (fun r14 S13 =>
  some (some (.inl r14), S13)))) else
 if v1 = (4 : Int32) then (
  z_rV (ex 4 [.inr (.inr (1, i0)), .inl (50 : Int32)] S) (fun S15 =>
  z_rI (ex 41 [.inl (4 : Int32)] S15) (fun r17 S16 =>
  z_rI (ex 5 [.inr (.inr (1, i0)), .inl r17, .inl v2] S16) (fun r19 S18 =>
  some (some (.inl (-r19)), S18))))) else
 if v1 = (5 : Int32) then (
  z_rI (ex 41 [.inl v1] S) (fun r21 S20 =>
  z_rI (ex 5 [.inr (.inr (1, i0)), .inl r21, .inl v2] S20) (fun r23 S22 =>
  some (some (.inl r23), S22)))) else
 if v1 = (6 : Int32) then (
  z_rV (ex 4 [.inr (.inr (1, i0)), .inl (71 : Int32)] S) (fun S24 =>
  z_rI (ex 41 [.inl (6 : Int32)] S24) (fun r26 S25 =>
  z_rI (ex 5 [.inr (.inr (1, i0)), .inl r26, .inl v2] S25) (fun r28 S27 =>
  some (some (.inl (r28 ^^^ (S27.1 2 (S27.2.2.1 1 i0 2).2 2))), S27))))) else
 z_rI (ex 41 [.inl v1] S) (fun r30 S29 =>
 z_rI (ex 5 [.inr (.inr (1, i0)), .inl r30, .inl v2] S29) (fun r32 S31 =>
 some (some (.inl r32), S31))) := rfl
theorem zx_X0_drips (d : Nat) (S : z_Mem) (i0 : Nat) (v1 : Int32) (v2 : Int32) : z_exe z_mt true (d + 1) 5 [.inr (.inr (1, i0)), .inl v1, .inl v2] S = zr_X0_drips (z_exe z_mt true d) (999999 + 1) 0 [some (.inr (.inr (1, i0))), some (.inl v1), some (.inl v2)] [] S := z_exe_eq (q := (yX0_drips, cX0_drips, 3, (some .int), false, zo_X0_drips, zc_X0_drips, 1, 3)) rfl rfl
abbrev zr_X0_steams (ex : z_Ex) (n pc : Nat) (ls : z_Lc) (st : List z_AV) (S : z_Mem) : Option (Option z_AV × z_Mem) := z_run true ex false zo_X0_steams zc_X0_steams n pc ls st S
set_option maxRecDepth 100000 in
set_option maxHeartbeats 4000000 in
theorem ze_X0_steams_0 (ex : z_Ex) (n : Nat) (S : z_Mem) (i0 : Nat) (v1 : Int32) (v2 : Int32) : zr_X0_steams ex (n + 1) 0 [some (.inr (.inr (1, i0))), some (.inl v1), some (.inl v2)] [] S =
 if v1 = (0 : Int32) then (
  z_rV (ex 4 [.inr (.inr (1, i0)), .inl (11 : Int32)] S) (fun S1 =>
  z_rI (ex 5 [.inr (.inr (1, i0)), .inl (S1.1 2 (S1.2.2.1 1 i0 2).2 1), .inl v2] S1) (fun r3 S2 =>
  some (some (.inl (r3 - (S2.1 2 (S2.2.2.1 1 i0 2).2 2))), S2)))) else
 if v1 = (1 : Int32) then (
  z_rV (ex 4 [.inr (.inr (1, i0)), .inl (20 : Int32)] S) (fun S4 =>
  z_rI (ex 41 [.inl (1 : Int32)] S4) (fun r6 S5 =>
  z_rI (ex 6 [.inr (.inr (1, i0)), .inl r6, .inl v2] S5) (fun r8 S7 =>
  some (some (.inl (r8 ^^^ (6 : Int32))), S7))))) else
 if v1 = (2 : Int32) then (
  z_rI (ex 41 [.inl v1] S) (fun r10 S9 =>
  z_rI (ex 6 [.inr (.inr (1, i0)), .inl r10, .inl v2] S9) (fun r12 S11 =>
  some (some (.inl r12), S11)))) else
 if v1 = (3 : Int32) then (
  z_rI (ex 41 [.inl v1] S) (fun r14 S13 =>
  z_rI (ex 6 [.inr (.inr (1, i0)), .inl r14, .inl v2] S13) (fun r16 S15 =>
  some (some (.inl r16), S15)))) else
 if v1 = (4 : Int32) then (
  z_rV (ex 4 [.inr (.inr (1, i0)), .inl (51 : Int32)] S) (fun S17 =>
  z_rI (ex 41 [.inl (4 : Int32)] S17) (fun r19 S18 =>
  z_rI (ex 6 [.inr (.inr (1, i0)), .inl r19, .inl (v2 + (1 : Int32))] S18) (fun r21 S20 =>
  some (some (.inl r21), S20))))) else
 if v1 = (5 : Int32) then (
  z_rI (ex 41 [.inl v1] S) (fun r23 S22 =>
  z_rI (ex 6 [.inr (.inr (1, i0)), .inl r23, .inl v2] S22) (fun r25 S24 =>
  some (some (.inl r25), S24)))) else
 if v1 = (6 : Int32) then (
  z_rV (ex 4 [.inr (.inr (1, i0)), .inl (70 : Int32)] S) (fun S26 =>
  z_rI (ex 41 [.inl (6 : Int32)] S26) (fun r28 S27 =>
  z_rI (ex 6 [.inr (.inr (1, i0)), .inl r28, .inl v2] S27) (fun r30 S29 =>
  z_rI (ex 41 [.inl (6 : Int32)] S29) (fun r32 S31 =>
  z_rI (ex 5 [.inr (.inr (1, i0)), .inl r32, .inl (2 : Int32)] S31) (fun r34 S33 =>
  some (some (.inl (r30 + r34)), S33))))))) else
 z_rI (ex 41 [.inl v1] S) (fun r36 S35 =>
 z_rI (ex 6 [.inr (.inr (1, i0)), .inl r36, .inl v2] S35) (fun r38 S37 =>
 some (some (.inl r38), S37))) := rfl
theorem zx_X0_steams (d : Nat) (S : z_Mem) (i0 : Nat) (v1 : Int32) (v2 : Int32) : z_exe z_mt true (d + 1) 6 [.inr (.inr (1, i0)), .inl v1, .inl v2] S = zr_X0_steams (z_exe z_mt true d) (999999 + 1) 0 [some (.inr (.inr (1, i0))), some (.inl v1), some (.inl v2)] [] S := z_exe_eq (q := (yX0_steams, cX0_steams, 3, (some .int), false, zo_X0_steams, zc_X0_steams, 1, 3)) rfl rfl
abbrev zr_X0_tells (ex : z_Ex) (n pc : Nat) (ls : z_Lc) (st : List z_AV) (S : z_Mem) : Option (Option z_AV × z_Mem) := z_run true ex false zo_X0_tells zc_X0_tells n pc ls st S
set_option maxRecDepth 100000 in
set_option maxHeartbeats 4000000 in
theorem ze_X0_tells_0 (ex : z_Ex) (n : Nat) (S : z_Mem) (i0 : Nat) (v1 : Int32) (v2 : Int32) : zr_X0_tells ex (n + 1) 0 [some (.inr (.inr (1, i0))), some (.inl v1), some (.inl v2)] [] S =
 if v1 = (0 : Int32) then (
  z_rV (ex 4 [.inr (.inr (1, i0)), .inl (12 : Int32)] S) (fun S1 =>
  z_rI (ex 6 [.inr (.inr (1, i0)), .inl (S1.1 2 (S1.2.2.1 1 i0 2).2 1), .inl v2] S1) (fun r3 S2 =>
  some (some (.inl (r3 * (2 : Int32))), S2)))) else
 if v1 = (3 : Int32) then (
  z_rV (ex 4 [.inr (.inr (1, i0)), .inl (40 : Int32)] S) (fun S4 =>
  z_rI (ex 41 [.inl (3 : Int32)] S4) (fun r6 S5 =>
  z_rI (ex 7 [.inr (.inr (1, i0)), .inl r6, .inl v2] S5) (fun r8 S7 =>
  z_rI (ex 6 [.inr (.inr (1, i0)), .inl (S7.1 2 (S7.2.2.1 1 i0 2).2 1), .inl (1 : Int32)] S7) (fun r10 S9 =>
  some (some (.inl (r8 + r10)), S9)))))) else
 if v1 = (5 : Int32) then (
  z_rV (ex 4 [.inr (.inr (1, i0)), .inl (60 : Int32)] S) (fun S11 =>
  z_rI (ex 41 [.inl (5 : Int32)] S11) (fun r13 S12 =>
  z_rI (ex 7 [.inr (.inr (1, i0)), .inl r13, .inl (v2 - (S12.1 2 (S12.2.2.1 1 i0 2).2 0))] S12) (fun r15 S14 =>
  some (some (.inl r15), S14))))) else
 z_rI (ex 41 [.inl v1] S) (fun r17 S16 =>
 z_rI (ex 7 [.inr (.inr (1, i0)), .inl r17, .inl v2] S16) (fun r19 S18 =>
 some (some (.inl r19), S18))) := rfl
theorem zx_X0_tells (d : Nat) (S : z_Mem) (i0 : Nat) (v1 : Int32) (v2 : Int32) : z_exe z_mt true (d + 1) 7 [.inr (.inr (1, i0)), .inl v1, .inl v2] S = zr_X0_tells (z_exe z_mt true d) (999999 + 1) 0 [some (.inr (.inr (1, i0))), some (.inl v1), some (.inl v2)] [] S := z_exe_eq (q := (yX0_tells, cX0_tells, 3, (some .int), false, zo_X0_tells, zc_X0_tells, 1, 3)) rfl rfl
abbrev zr_X1_become (ex : z_Ex) (n pc : Nat) (ls : z_Lc) (st : List z_AV) (S : z_Mem) : Option (Option z_AV × z_Mem) := z_run true ex false zo_X1_become zc_X1_become n pc ls st S
set_option maxRecDepth 100000 in
set_option maxHeartbeats 4000000 in
theorem ze_X1_become_0 (ex : z_Ex) (n : Nat) (S : z_Mem) (i0 : Nat) (v1 : Int32) (v2 : Int32) (v3 : Int32) (v4 : Int32) : zr_X1_become ex (n + 1) 0 [some (.inr (.inr (2, i0))), some (.inl v1), some (.inl v2), some (.inl v3), some (.inl v4)] [] S =
 let S1 : z_Mem := z_sI S 2 i0 1 v1
 let S2 : z_Mem := z_sI S1 2 i0 2 v2
 let S3 : z_Mem := z_sI S2 2 i0 3 v3
 let S4 : z_Mem := z_sI S3 2 i0 4 v4
 if (0 : Int32) &&& 1 = (0 : Int32) then
 let S5 : z_Mem := z_sI S4 2 i0 5 (0 : Int32)
 let S6 : z_Mem := z_sI S5 2 i0 6 (0 : Int32)
 z_rV (ex 230 [.inr (.inr (21, i0)), .inl (0 : Int32)] S6) (fun S7 =>
 some (none, S7))
 else none := rfl
theorem zx_X1_become (d : Nat) (S : z_Mem) (i0 : Nat) (v1 : Int32) (v2 : Int32) (v3 : Int32) (v4 : Int32) : z_exe z_mt true (d + 1) 9 [.inr (.inr (2, i0)), .inl v1, .inl v2, .inl v3, .inl v4] S = zr_X1_become (z_exe z_mt true d) (999999 + 1) 0 [some (.inr (.inr (2, i0))), some (.inl v1), some (.inl v2), some (.inl v3), some (.inl v4)] [] S := z_exe_eq (q := (yX1_become, cX1_become, 5, none, false, zo_X1_become, zc_X1_become, 2, 5)) rfl rfl
abbrev zr_X1_copyFrom (ex : z_Ex) (n pc : Nat) (ls : z_Lc) (st : List z_AV) (S : z_Mem) : Option (Option z_AV × z_Mem) := z_run true ex false zo_X1_copyFrom zc_X1_copyFrom n pc ls st S
set_option maxRecDepth 100000 in
set_option maxHeartbeats 4000000 in
theorem ze_X1_copyFrom_0 (ex : z_Ex) (n : Nat) (S : z_Mem) (i0 : Nat) (i1 : Nat) : zr_X1_copyFrom ex (n + 1) 0 [some (.inr (.inr (2, i0))), some (.inr (.inr (2, i1)))] [] S =
 let S1 : z_Mem := z_sI S 2 i0 0 (S.1 2 i1 0)
 let S2 : z_Mem := z_sI S1 2 i0 1 (S1.1 2 i1 1)
 let S3 : z_Mem := z_sI S2 2 i0 2 (S2.1 2 i1 2)
 let S4 : z_Mem := z_sI S3 2 i0 3 (S3.1 2 i1 3)
 let S5 : z_Mem := z_sI S4 2 i0 4 (S4.1 2 i1 4)
 if (S5.1 2 i1 5) &&& 1 = (S5.1 2 i1 5) then
 let S6 : z_Mem := z_sI S5 2 i0 5 (S5.1 2 i1 5)
 let S7 : z_Mem := z_sI S6 2 i0 6 (S6.1 2 i1 6)
 cond (z_rng (0 : Int32) (4 : Int32) 4 && z_rng (0 : Int32) (4 : Int32) 4) (
 let S8 : z_Mem := z_acI S7 21 i1 (Int32.toNatClampNeg (0 : Int32)) 21 i0 (Int32.toNatClampNeg (0 : Int32)) (Int32.toNatClampNeg (4 : Int32))
 some (none, S8)) none
 else none := rfl
theorem zx_X1_copyFrom (d : Nat) (S : z_Mem) (i0 : Nat) (i1 : Nat) : z_exe z_mt true (d + 1) 10 [.inr (.inr (2, i0)), .inr (.inr (2, i1))] S = zr_X1_copyFrom (z_exe z_mt true d) (999999 + 1) 0 [some (.inr (.inr (2, i0))), some (.inr (.inr (2, i1)))] [] S := z_exe_eq (q := (yX1_copyFrom, cX1_copyFrom, 2, none, false, zo_X1_copyFrom, zc_X1_copyFrom, 2, 2)) rfl rfl
abbrev zr_X1_driesAt (ex : z_Ex) (n pc : Nat) (ls : z_Lc) (st : List z_AV) (S : z_Mem) : Option (Option z_AV × z_Mem) := z_run true ex false zo_X1_driesAt zc_X1_driesAt n pc ls st S
set_option maxRecDepth 100000 in
set_option maxHeartbeats 4000000 in
theorem ze_X1_driesAt_0 (ex : z_Ex) (n : Nat) (S : z_Mem) (i0 : Nat) (v1 : Int32) (i2 : Nat) : zr_X1_driesAt ex (n + 1) 0 [some (.inr (.inr (2, i0))), some (.inl v1), some (.inr (.inr (9, i2))), none, none] [] S =
 z_rI (ex 68 [.inr (.inr (9, i2)), .inl v1] S) (fun r2 S1 =>
 z_rI (ex 25 [.inr (.inr (4, (S1.2.2.1 9 i2 3).2)), .inr (.inr (2, i0)), .inl v1, .inl (S1.1 9 i2 2)] S1) (fun r4 S3 =>
 if (S3.1 2 i0 1) = (1 : Int32) then (
  z_rI (ex 12 [.inl (r2 + r4), .inl r2] S3) (fun r6 S5 =>
  some (some (.inl (if (0 : Int32) < r6 then r6 else (0 : Int32))), S5))) else
 if (S3.1 2 i0 1) = (2 : Int32) then (
  if (2 : Int32) = 0 then none else
  some (some (.inl (if (0 : Int32) < ((r2 + r4) / (2 : Int32)) then ((r2 + r4) / (2 : Int32)) else (0 : Int32))), S3)) else
 if (S3.1 2 i0 1) = (3 : Int32) then (
  z_rI (ex 13 [.inr (.inr (2, i0)), .inl (r2 + r4)] S3) (fun r8 S7 =>
  some (some (.inl (if (0 : Int32) < r8 then r8 else (0 : Int32))), S7))) else
 if (S3.1 2 i0 1) = (4 : Int32) then (
  z_rI (ex 12 [.inl (r2 + r4), .inl r2] S3) (fun r10 S9 =>
  if (4 : Int32) = 0 then none else
  if ((S9.1 9 i2 2) - (S9.1 9 i2 2) / (4 : Int32) * (4 : Int32)) = 0 then (
   some (some (.inl (if (0 : Int32) < (r10 + (2 : Int32)) then (r10 + (2 : Int32)) else (0 : Int32))), S9))
  else (
   some (some (.inl (if (0 : Int32) < (r10 + (0 : Int32)) then (r10 + (0 : Int32)) else (0 : Int32))), S9)))) else
 if (S3.1 2 i0 1) = (5 : Int32) then (
  if (S3.1 2 i0 2) ≤ (S3.1 2 i0 3) then (
   if (2 : Int32) = 0 then none else
   some (some (.inl (if (0 : Int32) < ((r2 + r4) / (2 : Int32)) then ((r2 + r4) / (2 : Int32)) else (0 : Int32))), S3))
  else (
   some (some (.inl (0 : Int32)), S3))) else
 if (S3.1 2 i0 1) = (6 : Int32) then (
  z_rI (ex 13 [.inr (.inr (2, i0)), .inl (r2 + r4)] S3) (fun r12 S11 =>
  if (4 : Int32) = 0 then none else
  cond (z_oob ((S11.1 9 i2 2) - (S11.1 9 i2 2) / (4 : Int32) * (4 : Int32)) 4) none (
  some (some (.inl (if (0 : Int32) < (r12 + (S11.1 21 i0 (Int32.toNatClampNeg ((S11.1 9 i2 2) - (S11.1 9 i2 2) / (4 : Int32) * (4 : Int32))))) then (r12 + (S11.1 21 i0 (Int32.toNatClampNeg ((S11.1 9 i2 2) - (S11.1 9 i2 2) / (4 : Int32) * (4 : Int32))))) else (0 : Int32))), S11)))) else
 some (some (.inl (if (0 : Int32) < (r2 + r4) then (r2 + r4) else (0 : Int32))), S3))) := rfl
theorem zx_X1_driesAt (d : Nat) (S : z_Mem) (i0 : Nat) (v1 : Int32) (i2 : Nat) : z_exe z_mt true (d + 1) 11 [.inr (.inr (2, i0)), .inl v1, .inr (.inr (9, i2))] S = zr_X1_driesAt (z_exe z_mt true d) (999999 + 1) 0 [some (.inr (.inr (2, i0))), some (.inl v1), some (.inr (.inr (9, i2))), none, none] [] S := z_exe_eq (q := (yX1_driesAt, cX1_driesAt, 5, (some .int), false, zo_X1_driesAt, zc_X1_driesAt, 2, 3)) rfl rfl
abbrev zr_X1_asLeather (ex : z_Ex) (n pc : Nat) (ls : z_Lc) (st : List z_AV) (S : z_Mem) : Option (Option z_AV × z_Mem) := z_run true ex false zo_X1_asLeather zc_X1_asLeather n pc ls st S
set_option maxRecDepth 100000 in
set_option maxHeartbeats 4000000 in
theorem ze_X1_asLeather_0 (ex : z_Ex) (n : Nat) (S : z_Mem) (v0 : Int32) (v1 : Int32) : zr_X1_asLeather ex (n + 1) 0 [some (.inl v0), some (.inl v1)] [] S =
 if v1 ≤ (8 : Int32) then (
  some (some (.inl v0), S))
 else (
  if (2 : Int32) = 0 then none else
  some (some (.inl (v0 / (2 : Int32))), S)) := rfl
theorem zx_X1_asLeather (d : Nat) (S : z_Mem) (v0 : Int32) (v1 : Int32) : z_exe z_mt true (d + 1) 12 [.inl v0, .inl v1] S = zr_X1_asLeather (z_exe z_mt true d) (999999 + 1) 0 [some (.inl v0), some (.inl v1)] [] S := z_exe_eq (q := (yX1_asLeather, cX1_asLeather, 2, (some .int), false, zo_X1_asLeather, zc_X1_asLeather, 0, 2)) rfl rfl
abbrev zr_X1_asStuffed (ex : z_Ex) (n pc : Nat) (ls : z_Lc) (st : List z_AV) (S : z_Mem) : Option (Option z_AV × z_Mem) := z_run true ex false zo_X1_asStuffed zc_X1_asStuffed n pc ls st S
set_option maxRecDepth 100000 in
set_option maxHeartbeats 4000000 in
theorem ze_X1_asStuffed_0 (ex : z_Ex) (n : Nat) (S : z_Mem) (i0 : Nat) (v1 : Int32) : zr_X1_asStuffed ex (n + 1) 0 [some (.inr (.inr (2, i0))), some (.inl v1)] [] S =
 if (S.1 2 i0 3) < (50 : Int32) then (
  some (some (.inl v1), S))
 else (
  some (some (.inl (v1 + (S.1 2 i0 2))), S)) := rfl
theorem zx_X1_asStuffed (d : Nat) (S : z_Mem) (i0 : Nat) (v1 : Int32) : z_exe z_mt true (d + 1) 13 [.inr (.inr (2, i0)), .inl v1] S = zr_X1_asStuffed (z_exe z_mt true d) (999999 + 1) 0 [some (.inr (.inr (2, i0))), some (.inl v1)] [] S := z_exe_eq (q := (yX1_asStuffed, cX1_asStuffed, 2, (some .int), false, zo_X1_asStuffed, zc_X1_asStuffed, 2, 2)) rfl rfl
abbrev zr_X1_spoils (ex : z_Ex) (n pc : Nat) (ls : z_Lc) (st : List z_AV) (S : z_Mem) : Option (Option z_AV × z_Mem) := z_run true ex true zo_X1_spoils zc_X1_spoils n pc ls st S
set_option maxRecDepth 100000 in
set_option maxHeartbeats 4000000 in
theorem ze_X1_spoils_0 (ex : z_Ex) (n : Nat) (S : z_Mem) (i0 : Nat) (i1 : Nat) : zr_X1_spoils ex (n + 1) 0 [some (.inr (.inr (2, i0))), some (.inr (.inr (9, i1))), none] [] S =
 z_rI (ex 68 [.inr (.inr (9, i1)), .inl (S.1 2 i0 4)] S) (fun r2 S1 =>
 if (S1.1 2 i0 1) = (1 : Int32) then (
  if (8 : Int32) < r2 then (
   some (some (.inl (1 : Int32)), S1))
  else (
   if (S1.1 2 i0 1) = (4 : Int32) then (
    if r2 ≤ ((8 : Int32) + (S1.1 2 i0 2)) then (
     some (some (.inl (0 : Int32)), S1))
    else (
     some (some (.inl (1 : Int32)), S1)))
   else (
    some (some (.inl (0 : Int32)), S1))))
 else (
  if (S1.1 2 i0 1) = (4 : Int32) then (
   if r2 ≤ ((8 : Int32) + (S1.1 2 i0 2)) then (
    some (some (.inl (0 : Int32)), S1))
   else (
    some (some (.inl (1 : Int32)), S1)))
  else (
   some (some (.inl (0 : Int32)), S1)))) := rfl
theorem zx_X1_spoils (d : Nat) (S : z_Mem) (i0 : Nat) (i1 : Nat) : z_exe z_mt true (d + 1) 14 [.inr (.inr (2, i0)), .inr (.inr (9, i1))] S = zr_X1_spoils (z_exe z_mt true d) (999999 + 1) 0 [some (.inr (.inr (2, i0))), some (.inr (.inr (9, i1))), none] [] S := z_exe_eq (q := (yX1_spoils, cX1_spoils, 3, (some .boolean), true, zo_X1_spoils, zc_X1_spoils, 2, 2)) rfl rfl
abbrev zr_X1_letHourGo (ex : z_Ex) (n pc : Nat) (ls : z_Lc) (st : List z_AV) (S : z_Mem) : Option (Option z_AV × z_Mem) := z_run true ex false zo_X1_letHourGo zc_X1_letHourGo n pc ls st S
set_option maxRecDepth 100000 in
set_option maxHeartbeats 4000000 in
theorem ze_X1_letHourGo_0 (ex : z_Ex) (n : Nat) (S : z_Mem) (i0 : Nat) (i1 : Nat) : zr_X1_letHourGo ex (n + 1) 0 [some (.inr (.inr (2, i0))), some (.inr (.inr (9, i1)))] [] S =
 if (S.1 2 i0 5) = 0 then (
  z_rI (ex 14 [.inr (.inr (2, i0)), .inr (.inr (9, i1))] S) (fun r2 S1 =>
  if r2 = 0 then (
   if (S1.1 2 i0 3) ≤ 0 then (
    some (none, S1))
   else (
    z_rI (ex 11 [.inr (.inr (2, i0)), .inl (S1.1 2 i0 4), .inr (.inr (9, i1))] S1) (fun r4 S3 =>
    let S5 : z_Mem := z_sI S3 2 i0 3 (if (0 : Int32) < ((S1.1 2 i0 3) - r4) then ((S1.1 2 i0 3) - r4) else (0 : Int32))
    some (none, S5))))
  else (
   let S6 : z_Mem := z_sI S1 2 i0 6 ((S1.1 2 i0 6) + (1 : Int32))
   if (S6.1 2 i0 3) ≤ 0 then (
    some (none, S6))
   else (
    z_rI (ex 11 [.inr (.inr (2, i0)), .inl (S6.1 2 i0 4), .inr (.inr (9, i1))] S6) (fun r8 S7 =>
    let S9 : z_Mem := z_sI S7 2 i0 3 (if (0 : Int32) < ((S6.1 2 i0 3) - r8) then ((S6.1 2 i0 3) - r8) else (0 : Int32))
    some (none, S9))))))
 else (
  some (none, S)) := rfl
theorem zx_X1_letHourGo (d : Nat) (S : z_Mem) (i0 : Nat) (i1 : Nat) : z_exe z_mt true (d + 1) 15 [.inr (.inr (2, i0)), .inr (.inr (9, i1))] S = zr_X1_letHourGo (z_exe z_mt true d) (999999 + 1) 0 [some (.inr (.inr (2, i0))), some (.inr (.inr (9, i1)))] [] S := z_exe_eq (q := (yX1_letHourGo, cX1_letHourGo, 2, none, false, zo_X1_letHourGo, zc_X1_letHourGo, 2, 2)) rfl rfl
abbrev zr_X2_begin (ex : z_Ex) (n pc : Nat) (ls : z_Lc) (st : List z_AV) (S : z_Mem) : Option (Option z_AV × z_Mem) := z_run true ex false zo_X2_begin zc_X2_begin n pc ls st S
set_option maxRecDepth 100000 in
set_option maxHeartbeats 4000000 in
theorem ze_X2_begin_0 (ex : z_Ex) (n : Nat) (S : z_Mem) (i0 : Nat) (i1 : Nat) (i2 : Nat) : zr_X2_begin ex (n + 1) 0 [some (.inr (.inr (3, i0))), some (.inr (.inr (2, i1))), some (.inr (.inr (9, i2)))] [] S =
 z_rV (ex 10 [.inr (.inr (2, 18)), .inr (.inr (2, i1))] S) (fun S1 =>
 z_rV (ex 67 [.inr (.inr (9, 3)), .inr (.inr (9, i2))] S1) (fun S2 =>
 some (none, S2))) := rfl
theorem zx_X2_begin (d : Nat) (S : z_Mem) (i0 : Nat) (i1 : Nat) (i2 : Nat) : z_exe z_mt true (d + 1) 17 [.inr (.inr (3, i0)), .inr (.inr (2, i1)), .inr (.inr (9, i2))] S = zr_X2_begin (z_exe z_mt true d) (999999 + 1) 0 [some (.inr (.inr (3, i0))), some (.inr (.inr (2, i1))), some (.inr (.inr (9, i2)))] [] S := z_exe_eq (q := (yX2_begin, cX2_begin, 3, none, false, zo_X2_begin, zc_X2_begin, 3, 3)) rfl rfl
abbrev zr_X2_letHourGo (ex : z_Ex) (n pc : Nat) (ls : z_Lc) (st : List z_AV) (S : z_Mem) : Option (Option z_AV × z_Mem) := z_run true ex false zo_X2_letHourGo zc_X2_letHourGo n pc ls st S
set_option maxRecDepth 100000 in
set_option maxHeartbeats 4000000 in
theorem ze_X2_letHourGo_0 (ex : z_Ex) (n : Nat) (S : z_Mem) (i0 : Nat) : zr_X2_letHourGo ex (n + 1) 0 [some (.inr (.inr (3, i0)))] [] S =
 z_rV (ex 15 [.inr (.inr (2, 18)), .inr (.inr (9, 3))] S) (fun S1 =>
 z_rV (ex 70 [.inr (.inr (9, 3))] S1) (fun S2 =>
 some (none, S2))) := rfl
theorem zx_X2_letHourGo (d : Nat) (S : z_Mem) (i0 : Nat) : z_exe z_mt true (d + 1) 18 [.inr (.inr (3, i0))] S = zr_X2_letHourGo (z_exe z_mt true d) (999999 + 1) 0 [some (.inr (.inr (3, i0)))] [] S := z_exe_eq (q := (yX2_letHourGo, cX2_letHourGo, 1, none, false, zo_X2_letHourGo, zc_X2_letHourGo, 3, 1)) rfl rfl
abbrev zr_X2_wetBehind (ex : z_Ex) (n pc : Nat) (ls : z_Lc) (st : List z_AV) (S : z_Mem) : Option (Option z_AV × z_Mem) := z_run true ex false zo_X2_wetBehind zc_X2_wetBehind n pc ls st S
set_option maxRecDepth 100000 in
set_option maxHeartbeats 4000000 in
theorem ze_X2_wetBehind_0 (ex : z_Ex) (n : Nat) (S : z_Mem) (i0 : Nat) (v1 : Int32) (i2 : Nat) (v3 : Int32) (i4 : Nat) : zr_X2_wetBehind ex (n + 1) 0 [some (.inr (.inr (3, i0))), some (.inl v1), some (.inr (.inr (2, i2))), some (.inl v3), some (.inr (.inr (9, i4))), none] [] S =
 z_rV (ex 17 [.inr (.inr (3, i0)), .inr (.inr (2, i2)), .inr (.inr (9, i4))] S) (fun S1 =>
 let S2 : z_Mem := z_sI S1 2 18 4 v3
 zr_X2_wetBehind ex n 18 [some (.inr (.inr (3, i0))), some (.inl v1), none, none, none, some (.inl (0 : Int32))] [] S2) := rfl
theorem zx_X2_wetBehind (d : Nat) (S : z_Mem) (i0 : Nat) (v1 : Int32) (i2 : Nat) (v3 : Int32) (i4 : Nat) : z_exe z_mt true (d + 1) 19 [.inr (.inr (3, i0)), .inl v1, .inr (.inr (2, i2)), .inl v3, .inr (.inr (9, i4))] S = zr_X2_wetBehind (z_exe z_mt true d) (999999 + 1) 0 [some (.inr (.inr (3, i0))), some (.inl v1), some (.inr (.inr (2, i2))), some (.inl v3), some (.inr (.inr (9, i4))), none] [] S := z_exe_eq (q := (yX2_wetBehind, cX2_wetBehind, 6, (some .int), false, zo_X2_wetBehind, zc_X2_wetBehind, 3, 5)) rfl rfl
set_option maxRecDepth 100000 in
set_option maxHeartbeats 4000000 in
theorem ze_X2_wetBehind_18 (ex : z_Ex) (n : Nat) (S : z_Mem) (i0 : Nat) (v1 : Int32) (v5 : Int32) : zr_X2_wetBehind ex (n + 1) 18 [some (.inr (.inr (3, i0))), some (.inl v1), none, none, none, some (.inl v5)] [] S =
 if v1 ≤ v5 then (
  some (some (.inl (S.1 2 18 3)), S))
 else (
  z_rV (ex 18 [.inr (.inr (3, i0))] S) (fun S3 =>
  let x4 : Int32 := (v5 + (1 : Int32))
  zr_X2_wetBehind ex n 18 [some (.inr (.inr (3, i0))), some (.inl v1), none, none, none, some (.inl x4)] [] S3)) := rfl
abbrev zr_X3_clear (ex : z_Ex) (n pc : Nat) (ls : z_Lc) (st : List z_AV) (S : z_Mem) : Option (Option z_AV × z_Mem) := z_run true ex false zo_X3_clear zc_X3_clear n pc ls st S
set_option maxRecDepth 100000 in
set_option maxHeartbeats 4000000 in
theorem ze_X3_clear_0 (ex : z_Ex) (n : Nat) (S : z_Mem) (i0 : Nat) : zr_X3_clear ex (n + 1) 0 [some (.inr (.inr (4, i0)))] [] S =
 let S1 : z_Mem := z_sI S 4 i0 0 (1 : Int32)
 let S2 : z_Mem := z_sI S1 4 i0 1 (6 : Int32)
 let S3 : z_Mem := z_sI S2 4 i0 2 (0 : Int32)
 let S4 : z_Mem := z_sI S3 4 i0 4 (0 : Int32)
 some (none, S4) := rfl
theorem zx_X3_clear (d : Nat) (S : z_Mem) (i0 : Nat) : z_exe z_mt true (d + 1) 21 [.inr (.inr (4, i0))] S = zr_X3_clear (z_exe z_mt true d) (999999 + 1) 0 [some (.inr (.inr (4, i0)))] [] S := z_exe_eq (q := (yX3_clear, cX3_clear, 1, none, false, zo_X3_clear, zc_X3_clear, 4, 1)) rfl rfl
abbrev zr_X3_append (ex : z_Ex) (n pc : Nat) (ls : z_Lc) (st : List z_AV) (S : z_Mem) : Option (Option z_AV × z_Mem) := z_run true ex false zo_X3_append zc_X3_append n pc ls st S
set_option maxRecDepth 100000 in
set_option maxHeartbeats 4000000 in
theorem ze_X3_append_0 (ex : z_Ex) (n : Nat) (S : z_Mem) (i0 : Nat) (v1 : Int32) : zr_X3_append ex (n + 1) 0 [some (.inr (.inr (4, i0))), some (.inl v1)] [] S =
 if (100 : Int32) ≤ (S.1 4 i0 2) then (
  some (none, S))
 else (
  cond (z_oob (S.1 4 i0 2) 100) none (
  let S1 : z_Mem := z_sI S 22 i0 (Int32.toNatClampNeg (S.1 4 i0 2)) v1
  let S2 : z_Mem := z_sI S1 4 i0 2 ((S1.1 4 i0 2) + (1 : Int32))
  some (none, S2))) := rfl
theorem zx_X3_append (d : Nat) (S : z_Mem) (i0 : Nat) (v1 : Int32) : z_exe z_mt true (d + 1) 22 [.inr (.inr (4, i0)), .inl v1] S = zr_X3_append (z_exe z_mt true d) (999999 + 1) 0 [some (.inr (.inr (4, i0))), some (.inl v1)] [] S := z_exe_eq (q := (yX3_append, cX3_append, 2, none, false, zo_X3_append, zc_X3_append, 4, 2)) rfl rfl
abbrev zr_X3_codeOfTest (ex : z_Ex) (n pc : Nat) (ls : z_Lc) (st : List z_AV) (S : z_Mem) : Option (Option z_AV × z_Mem) := z_run true ex false zo_X3_codeOfTest zc_X3_codeOfTest n pc ls st S
set_option maxRecDepth 100000 in
set_option maxHeartbeats 4000000 in
theorem ze_X3_codeOfTest_0 (ex : z_Ex) (n : Nat) (S : z_Mem) (v0 : Int32) (v1 : Int32) (v2 : Int32) : zr_X3_codeOfTest ex (n + 1) 0 [some (.inl v0), some (.inl v1), some (.inl v2)] [] S =
 some (some (.inl ((((v0 * (3 : Int32)) + v1) * (100 : Int32)) + v2)), S) := rfl
theorem zx_X3_codeOfTest (d : Nat) (S : z_Mem) (v0 : Int32) (v1 : Int32) (v2 : Int32) : z_exe z_mt true (d + 1) 23 [.inl v0, .inl v1, .inl v2] S = zr_X3_codeOfTest (z_exe z_mt true d) (999999 + 1) 0 [some (.inl v0), some (.inl v1), some (.inl v2)] [] S := z_exe_eq (q := (yX3_codeOfTest, cX3_codeOfTest, 3, (some .int), false, zo_X3_codeOfTest, zc_X3_codeOfTest, 0, 3)) rfl rfl
abbrev zr_X3_appendEnd (ex : z_Ex) (n pc : Nat) (ls : z_Lc) (st : List z_AV) (S : z_Mem) : Option (Option z_AV × z_Mem) := z_run true ex false zo_X3_appendEnd zc_X3_appendEnd n pc ls st S
set_option maxRecDepth 100000 in
set_option maxHeartbeats 4000000 in
theorem ze_X3_appendEnd_0 (ex : z_Ex) (n : Nat) (S : z_Mem) (i0 : Nat) (v1 : Int32) : zr_X3_appendEnd ex (n + 1) 0 [some (.inr (.inr (4, i0))), some (.inl v1)] [] S =
 if (10 : Int32) ≤ (S.1 4 i0 4) then (
  some (none, S))
 else (
  cond (z_oob (S.1 4 i0 4) 10) none (
  let S1 : z_Mem := z_sI S 23 i0 (Int32.toNatClampNeg (S.1 4 i0 4)) v1
  let S2 : z_Mem := z_sI S1 4 i0 4 ((S1.1 4 i0 4) + (1 : Int32))
  z_rV (ex 22 [.inr (.inr (4, i0)), .inl (-4 : Int32)] S2) (fun S3 =>
  some (none, S3)))) := rfl
theorem zx_X3_appendEnd (d : Nat) (S : z_Mem) (i0 : Nat) (v1 : Int32) : z_exe z_mt true (d + 1) 24 [.inr (.inr (4, i0)), .inl v1] S = zr_X3_appendEnd (z_exe z_mt true d) (999999 + 1) 0 [some (.inr (.inr (4, i0))), some (.inl v1)] [] S := z_exe_eq (q := (yX3_appendEnd, cX3_appendEnd, 2, none, false, zo_X3_appendEnd, zc_X3_appendEnd, 4, 2)) rfl rfl
abbrev zr_X3_extraFor (ex : z_Ex) (n pc : Nat) (ls : z_Lc) (st : List z_AV) (S : z_Mem) : Option (Option z_AV × z_Mem) := z_run true ex false zo_X3_extraFor zc_X3_extraFor n pc ls st S
set_option maxRecDepth 100000 in
set_option maxHeartbeats 4000000 in
theorem ze_X3_extraFor_0 (ex : z_Ex) (n : Nat) (S : z_Mem) (i0 : Nat) (i1 : Nat) (v2 : Int32) (v3 : Int32) : zr_X3_extraFor ex (n + 1) 0 [some (.inr (.inr (4, i0))), some (.inr (.inr (2, i1))), some (.inl v2), some (.inl v3), none, none, none, none, none, none] [] S =
 cond (z_oob (0 : Int32) 6) none (
 let S1 : z_Mem := z_sI S 24 i0 (Int32.toNatClampNeg (0 : Int32)) (S.1 2 i1 0)
 cond (z_oob (1 : Int32) 6) none (
 let S2 : z_Mem := z_sI S1 24 i0 (Int32.toNatClampNeg (1 : Int32)) v2
 cond (z_oob (2 : Int32) 6) none (
 let S3 : z_Mem := z_sI S2 24 i0 (Int32.toNatClampNeg (2 : Int32)) (S2.1 2 i1 1)
 cond (z_oob (3 : Int32) 6) none (
 let S4 : z_Mem := z_sI S3 24 i0 (Int32.toNatClampNeg (3 : Int32)) (S3.1 2 i1 2)
 if (10 : Int32) = 0 then none else
 cond (z_oob (4 : Int32) 6) none (
 let S5 : z_Mem := z_sI S4 24 i0 (Int32.toNatClampNeg (4 : Int32)) ((S4.1 2 i1 3) / (10 : Int32))
 if (10 : Int32) = 0 then none else
 cond (z_oob (5 : Int32) 6) none (
 let S6 : z_Mem := z_sI S5 24 i0 (Int32.toNatClampNeg (5 : Int32)) (v3 - v3 / (10 : Int32) * (10 : Int32))
 zr_X3_extraFor ex n 72 [some (.inr (.inr (4, i0))), none, none, none, some (.inl (0 : Int32)), some (.inl (0 : Int32)), some (.inl (0 : Int32)), some (.inl (0 : Int32)), none, none] [] S6)))))) := rfl
theorem zx_X3_extraFor (d : Nat) (S : z_Mem) (i0 : Nat) (i1 : Nat) (v2 : Int32) (v3 : Int32) : z_exe z_mt true (d + 1) 25 [.inr (.inr (4, i0)), .inr (.inr (2, i1)), .inl v2, .inl v3] S = zr_X3_extraFor (z_exe z_mt true d) (999999 + 1) 0 [some (.inr (.inr (4, i0))), some (.inr (.inr (2, i1))), some (.inl v2), some (.inl v3), none, none, none, none, none, none] [] S := z_exe_eq (q := (yX3_extraFor, cX3_extraFor, 10, (some .int), false, zo_X3_extraFor, zc_X3_extraFor, 4, 4)) rfl rfl
set_option maxRecDepth 100000 in
set_option maxHeartbeats 4000000 in
theorem ze_X3_extraFor_72 (ex : z_Ex) (n : Nat) (S : z_Mem) (i0 : Nat) (v4 : Int32) (v5 : Int32) (v6 : Int32) (v7 : Int32) : zr_X3_extraFor ex (n + 1) 72 [some (.inr (.inr (4, i0))), none, none, none, some (.inl v4), some (.inl v5), some (.inl v6), some (.inl v7), none, none] [] S =
 if (S.1 4 i0 2) ≤ v7 then (
  some (some (.inl v4), S))
 else (
  cond (z_oob v7 100) none (
  let x7 : Int32 := (S.1 22 i0 (Int32.toNatClampNeg v7))
  let x8 : Int32 := (v6 &&& (1 : Int32))
  if x7 < 0 then (
   if x7 = (-1 : Int32) then (
    let x9 : Int32 := (v6 ^^^ (1 : Int32))
    let x10 : Int32 := (v7 + (1 : Int32))
    zr_X3_extraFor ex n 72 [some (.inr (.inr (4, i0))), none, none, none, some (.inl v4), some (.inl v5), some (.inl x9), some (.inl x10), none, none] [] S)
   else (
    if x7 = (-2 : Int32) then (
     let x11 : Int32 := ((v6 >>> ((1 : Int32) &&& 31)) &&& (x8 ||| (-2 : Int32)))
     let x12 : Int32 := (v7 + (1 : Int32))
     zr_X3_extraFor ex n 72 [some (.inr (.inr (4, i0))), none, none, none, some (.inl v4), some (.inl v5), some (.inl x11), some (.inl x12), none, none] [] S)
    else (
     if x7 = (-3 : Int32) then (
      let x13 : Int32 := ((v6 >>> ((1 : Int32) &&& 31)) ||| x8)
      let x14 : Int32 := (v7 + (1 : Int32))
      zr_X3_extraFor ex n 72 [some (.inr (.inr (4, i0))), none, none, none, some (.inl v4), some (.inl v5), some (.inl x13), some (.inl x14), none, none] [] S)
     else (
      if (S.1 4 i0 4) ≤ v5 then (
       let x15 : Int32 := (v7 + (1 : Int32))
       zr_X3_extraFor ex n 72 [some (.inr (.inr (4, i0))), none, none, none, some (.inl v4), some (.inl v5), some (.inl v6), some (.inl x15), none, none] [] S)
      else (
       cond (z_oob v5 10) none (
       let x16 : Int32 := (v4 + (x8 * (S.1 23 i0 (Int32.toNatClampNeg v5))))
       let x17 : Int32 := (v5 + (1 : Int32))
       let x18 : Int32 := (v7 + (1 : Int32))
       zr_X3_extraFor ex n 72 [some (.inr (.inr (4, i0))), none, none, none, some (.inl x16), some (.inl x17), some (.inl (0 : Int32)), some (.inl x18), none, none] [] S))))))
  else (
   z_rI (ex 26 [.inr (.inr (4, i0)), .inl x7] S) (fun r20 S19 =>
   if r20 = 0 then (
    let x21 : Int32 := ((v6 <<< ((1 : Int32) &&& 31)) ||| (0 : Int32))
    let x22 : Int32 := (v7 + (1 : Int32))
    zr_X3_extraFor ex n 72 [some (.inr (.inr (4, i0))), none, none, none, some (.inl v4), some (.inl v5), some (.inl x21), some (.inl x22), none, none] [] S19)
   else (
    let x23 : Int32 := ((v6 <<< ((1 : Int32) &&& 31)) ||| (1 : Int32))
    let x24 : Int32 := (v7 + (1 : Int32))
    zr_X3_extraFor ex n 72 [some (.inr (.inr (4, i0))), none, none, none, some (.inl v4), some (.inl v5), some (.inl x23), some (.inl x24), none, none] [] S19))))) := rfl
abbrev zr_X3_isTrue (ex : z_Ex) (n pc : Nat) (ls : z_Lc) (st : List z_AV) (S : z_Mem) : Option (Option z_AV × z_Mem) := z_run true ex true zo_X3_isTrue zc_X3_isTrue n pc ls st S
set_option maxRecDepth 100000 in
set_option maxHeartbeats 4000000 in
theorem ze_X3_isTrue_0 (ex : z_Ex) (n : Nat) (S : z_Mem) (i0 : Nat) (v1 : Int32) : zr_X3_isTrue ex (n + 1) 0 [some (.inr (.inr (4, i0))), some (.inl v1), none, none, none, none] [] S =
 if (100 : Int32) = 0 then none else
 let x1 : Int32 := (v1 - v1 / (100 : Int32) * (100 : Int32))
 if (100 : Int32) = 0 then none else
 let x2 : Int32 := (v1 / (100 : Int32))
 if (3 : Int32) = 0 then none else
 let x3 : Int32 := (x2 / (3 : Int32))
 if (6 : Int32) ≤ x3 then (
  if (3 : Int32) = 0 then none else
  let x4 : Int32 := (x2 - x2 / (3 : Int32) * (3 : Int32))
  if x4 = (0 : Int32) then (
   if x1 ≤ (0 : Int32) then (
    some (some (.inl (0 : Int32)), S))
   else (
    some (some (.inl (1 : Int32)), S))) else
  if x4 = (1 : Int32) then (
   if (0 : Int32) = x1 then (
    some (some (.inl (1 : Int32)), S))
   else (
    some (some (.inl (0 : Int32)), S))) else
  if (0 : Int32) ≤ x1 then (
   some (some (.inl (0 : Int32)), S))
  else (
   some (some (.inl (1 : Int32)), S)))
 else (
  cond (z_oob x3 6) none (
  let x5 : Int32 := (S.1 24 i0 (Int32.toNatClampNeg x3))
  if (3 : Int32) = 0 then none else
  let x6 : Int32 := (x2 - x2 / (3 : Int32) * (3 : Int32))
  if x6 = (0 : Int32) then (
   if x1 ≤ x5 then (
    some (some (.inl (0 : Int32)), S))
   else (
    some (some (.inl (1 : Int32)), S))) else
  if x6 = (1 : Int32) then (
   if x5 = x1 then (
    some (some (.inl (1 : Int32)), S))
   else (
    some (some (.inl (0 : Int32)), S))) else
  if x5 ≤ x1 then (
   some (some (.inl (0 : Int32)), S))
  else (
   some (some (.inl (1 : Int32)), S)))) := rfl
theorem zx_X3_isTrue (d : Nat) (S : z_Mem) (i0 : Nat) (v1 : Int32) : z_exe z_mt true (d + 1) 26 [.inr (.inr (4, i0)), .inl v1] S = zr_X3_isTrue (z_exe z_mt true d) (999999 + 1) 0 [some (.inr (.inr (4, i0))), some (.inl v1), none, none, none, none] [] S := z_exe_eq (q := (yX3_isTrue, cX3_isTrue, 6, (some .boolean), true, zo_X3_isTrue, zc_X3_isTrue, 4, 2)) rfl rfl
abbrev zr_X4_append (ex : z_Ex) (n pc : Nat) (ls : z_Lc) (st : List z_AV) (S : z_Mem) : Option (Option z_AV × z_Mem) := z_run true ex false zo_X4_append zc_X4_append n pc ls st S
set_option maxRecDepth 100000 in
set_option maxHeartbeats 4000000 in
theorem ze_X4_append_0 (ex : z_Ex) (n : Nat) (S : z_Mem) (i0 : Nat) (v1 : Int32) : zr_X4_append ex (n + 1) 0 [some (.inr (.inr (5, i0))), some (.inl v1)] [] S =
 if (100 : Int32) ≤ (S.1 5 i0 1) then (
  some (some (.inl (S.1 5 i0 1)), S))
 else (
  cond (z_oob (S.1 5 i0 1) 100) none (
  let S1 : z_Mem := z_sI S 25 i0 (Int32.toNatClampNeg (S.1 5 i0 1)) (vp_nar .byte (Int8.toInt32 (Int32.toInt8 v1)))
  let S2 : z_Mem := z_sI S1 5 i0 1 ((S1.1 5 i0 1) + (1 : Int32))
  some (some (.inl (S2.1 5 i0 1)), S2))) := rfl
theorem zx_X4_append (d : Nat) (S : z_Mem) (i0 : Nat) (v1 : Int32) : z_exe z_mt true (d + 1) 28 [.inr (.inr (5, i0)), .inl v1] S = zr_X4_append (z_exe z_mt true d) (999999 + 1) 0 [some (.inr (.inr (5, i0))), some (.inl v1)] [] S := z_exe_eq (q := (yX4_append, cX4_append, 2, (some .int), false, zo_X4_append, zc_X4_append, 5, 2)) rfl rfl
abbrev zr_X4_faultReadingInto (ex : z_Ex) (n pc : Nat) (ls : z_Lc) (st : List z_AV) (S : z_Mem) : Option (Option z_AV × z_Mem) := z_run true ex false zo_X4_faultReadingInto zc_X4_faultReadingInto n pc ls st S
set_option maxRecDepth 100000 in
set_option maxHeartbeats 4000000 in
theorem ze_X4_faultReadingInto_0 (ex : z_Ex) (n : Nat) (S : z_Mem) (i0 : Nat) (i1 : Nat) : zr_X4_faultReadingInto ex (n + 1) 0 [some (.inr (.inr (5, i0))), some (.inr (.inr (4, i1))), none] [] S =
 let S1 : z_Mem := z_sR S 5 i0 3 (4, i1)
 z_rV (ex 21 [.inr (.inr (4, (S1.2.2.1 5 i0 3).2))] S1) (fun S2 =>
 let S3 : z_Mem := z_sI S2 5 i0 2 (0 : Int32)
 zr_X4_faultReadingInto ex n 19 [some (.inr (.inr (5, i0))), none, some (.inl (1 : Int32))] [] S3) := rfl
theorem zx_X4_faultReadingInto (d : Nat) (S : z_Mem) (i0 : Nat) (i1 : Nat) : z_exe z_mt true (d + 1) 29 [.inr (.inr (5, i0)), .inr (.inr (4, i1))] S = zr_X4_faultReadingInto (z_exe z_mt true d) (999999 + 1) 0 [some (.inr (.inr (5, i0))), some (.inr (.inr (4, i1))), none] [] S := z_exe_eq (q := (yX4_faultReadingInto, cX4_faultReadingInto, 3, (some .int), false, zo_X4_faultReadingInto, zc_X4_faultReadingInto, 5, 2)) rfl rfl
set_option maxRecDepth 100000 in
set_option maxHeartbeats 4000000 in
theorem ze_X4_faultReadingInto_19 (ex : z_Ex) (n : Nat) (S : z_Mem) (i0 : Nat) (v2 : Int32) : zr_X4_faultReadingInto ex (n + 1) 19 [some (.inr (.inr (5, i0))), none, some (.inl v2)] [] S =
 if (10 : Int32) < v2 then (
  some (some (.inl (S.1 5 i0 2)), S))
 else (
  z_rI (ex 30 [.inr (.inr (5, i0))] S) (fun r5 S4 =>
  if r5 = 0 then (
   some (some (.inl (S4.1 5 i0 2)), S4))
  else (
   if (S4.1 5 i0 2) < (S4.1 5 i0 1) then (
    if v2 = (10 : Int32) then (
     some (some (.inl (S4.1 5 i0 2)), S4))
    else (
     z_rI (ex 40 [.inr (.inr (5, i0)), .inl (59 : Int32)] S4) (fun r7 S6 =>
     if r7 = 0 then (
      some (some (.inl (S6.1 5 i0 2)), S6))
     else (
      let x8 : Int32 := (v2 + (1 : Int32))
      zr_X4_faultReadingInto ex n 19 [some (.inr (.inr (5, i0))), none, some (.inl x8)] [] S6))))
   else (
    some (some (.inl (-1 : Int32)), S4))))) := rfl
abbrev zr_X4_readClause (ex : z_Ex) (n pc : Nat) (ls : z_Lc) (st : List z_AV) (S : z_Mem) : Option (Option z_AV × z_Mem) := z_run true ex true zo_X4_readClause zc_X4_readClause n pc ls st S
set_option maxRecDepth 100000 in
set_option maxHeartbeats 4000000 in
theorem ze_X4_readClause_0 (ex : z_Ex) (n : Nat) (S : z_Mem) (i0 : Nat) : zr_X4_readClause ex (n + 1) 0 [some (.inr (.inr (5, i0))), none, none] [] S =
 z_rI (ex 31 [.inr (.inr (5, i0))] S) (fun r2 S1 =>
 if r2 = (-1 : Int32) then (
  some (some (.inl (0 : Int32)), S1))
 else (
  z_rI (ex 40 [.inr (.inr (5, i0)), .inl (32 : Int32)] S1) (fun r4 S3 =>
  if r4 = 0 then (
   some (some (.inl (0 : Int32)), S3))
  else (
   z_rI (ex 32 [.inr (.inr (5, i0))] S3) (fun r6 S5 =>
   if 0 ≤ r6 then (
    if r2 = (2 : Int32) then (
     let S7 : z_Mem := z_sI S5 4 (S5.2.2.1 5 i0 3).2 0 r6
     some (some (.inl (1 : Int32)), S7))
    else (
     if r2 = (3 : Int32) then (
      let S8 : z_Mem := z_sI S5 4 (S5.2.2.1 5 i0 3).2 1 r6
      some (some (.inl (1 : Int32)), S8))
     else (
      z_rI (ex 40 [.inr (.inr (5, i0)), .inl (32 : Int32)] S5) (fun r10 S9 =>
      if r10 = 0 then (
       some (some (.inl (0 : Int32)), S9))
      else (
       z_rI (ex 33 [.inr (.inr (5, i0)), .inl (0 : Int32)] S9) (fun r12 S11 =>
       if r12 = 0 then (
        some (some (.inl (0 : Int32)), S11))
       else (
        if r2 = 0 then (
         z_rV (ex 24 [.inr (.inr (4, (S11.2.2.1 5 i0 3).2)), .inl r6] S11) (fun S13 =>
         some (some (.inl (1 : Int32)), S13)))
        else (
         z_rV (ex 24 [.inr (.inr (4, (S11.2.2.1 5 i0 3).2)), .inl (-r6)] S11) (fun S14 =>
         some (some (.inl (1 : Int32)), S14))))))))))
   else (
    some (some (.inl (0 : Int32)), S5))))))) := rfl
theorem zx_X4_readClause (d : Nat) (S : z_Mem) (i0 : Nat) : z_exe z_mt true (d + 1) 30 [.inr (.inr (5, i0))] S = zr_X4_readClause (z_exe z_mt true d) (999999 + 1) 0 [some (.inr (.inr (5, i0))), none, none] [] S := z_exe_eq (q := (yX4_readClause, cX4_readClause, 3, (some .boolean), true, zo_X4_readClause, zc_X4_readClause, 5, 1)) rfl rfl
abbrev zr_X4_readWord (ex : z_Ex) (n pc : Nat) (ls : z_Lc) (st : List z_AV) (S : z_Mem) : Option (Option z_AV × z_Mem) := z_run true ex false zo_X4_readWord zc_X4_readWord n pc ls st S
set_option maxRecDepth 100000 in
set_option maxHeartbeats 4000000 in
theorem ze_X4_readWord_0 (ex : z_Ex) (n : Nat) (S : z_Mem) (i0 : Nat) : zr_X4_readWord ex (n + 1) 0 [some (.inr (.inr (5, i0)))] [] S =
 z_rI (ex 40 [.inr (.inr (5, i0)), .inl (100 : Int32)] S) (fun r2 S1 =>
 if r2 = 0 then (
  z_rI (ex 40 [.inr (.inr (5, i0)), .inl (99 : Int32)] S1) (fun r4 S3 =>
  if r4 = 0 then (
   z_rI (ex 40 [.inr (.inr (5, i0)), .inl (108 : Int32)] S3) (fun r6 S5 =>
   if r6 = 0 then (
    some (some (.inl (-1 : Int32)), S5))
   else (
    z_rI (ex 40 [.inr (.inr (5, i0)), .inl (111 : Int32)] S5) (fun r8 S7 =>
    if r8 = 0 then (
     some (some (.inl (-1 : Int32)), S7))
    else (
     z_rI (ex 40 [.inr (.inr (5, i0)), .inl (103 : Int32)] S7) (fun r10 S9 =>
     if r10 = 0 then (
      some (some (.inl (-1 : Int32)), S9))
     else (
      some (some (.inl (3 : Int32)), S9))))))))
  else (
   z_rI (ex 40 [.inr (.inr (5, i0)), .inl (111 : Int32)] S3) (fun r12 S11 =>
   if r12 = 0 then (
    some (some (.inl (-1 : Int32)), S11))
   else (
    z_rI (ex 40 [.inr (.inr (5, i0)), .inl (111 : Int32)] S11) (fun r14 S13 =>
    if r14 = 0 then (
     some (some (.inl (-1 : Int32)), S13))
    else (
     z_rI (ex 40 [.inr (.inr (5, i0)), .inl (108 : Int32)] S13) (fun r16 S15 =>
     if r16 = 0 then (
      some (some (.inl (-1 : Int32)), S15))
     else (
      some (some (.inl (2 : Int32)), S15))))))))))
 else (
  z_rI (ex 40 [.inr (.inr (5, i0)), .inl (114 : Int32)] S1) (fun r18 S17 =>
  if r18 = 0 then (
   z_rI (ex 40 [.inr (.inr (5, i0)), .inl (97 : Int32)] S17) (fun r20 S19 =>
   if r20 = 0 then (
    some (some (.inl (-1 : Int32)), S19))
   else (
    z_rI (ex 40 [.inr (.inr (5, i0)), .inl (109 : Int32)] S19) (fun r22 S21 =>
    if r22 = 0 then (
     some (some (.inl (-1 : Int32)), S21))
    else (
     z_rI (ex 40 [.inr (.inr (5, i0)), .inl (112 : Int32)] S21) (fun r24 S23 =>
     if r24 = 0 then (
      some (some (.inl (-1 : Int32)), S23))
     else (
      some (some (.inl (1 : Int32)), S23))))))))
  else (
   z_rI (ex 40 [.inr (.inr (5, i0)), .inl (121 : Int32)] S17) (fun r26 S25 =>
   if r26 = 0 then (
    some (some (.inl (-1 : Int32)), S25))
   else (
    some (some (.inl (0 : Int32)), S25))))))) := rfl
theorem zx_X4_readWord (d : Nat) (S : z_Mem) (i0 : Nat) : z_exe z_mt true (d + 1) 31 [.inr (.inr (5, i0))] S = zr_X4_readWord (z_exe z_mt true d) (999999 + 1) 0 [some (.inr (.inr (5, i0)))] [] S := z_exe_eq (q := (yX4_readWord, cX4_readWord, 1, (some .int), false, zo_X4_readWord, zc_X4_readWord, 5, 1)) rfl rfl
abbrev zr_X4_readNumber (ex : z_Ex) (n pc : Nat) (ls : z_Lc) (st : List z_AV) (S : z_Mem) : Option (Option z_AV × z_Mem) := z_run true ex false zo_X4_readNumber zc_X4_readNumber n pc ls st S
set_option maxRecDepth 100000 in
set_option maxHeartbeats 4000000 in
theorem ze_X4_readNumber_0 (ex : z_Ex) (n : Nat) (S : z_Mem) (i0 : Nat) : zr_X4_readNumber ex (n + 1) 0 [some (.inr (.inr (5, i0))), none, none, none] [] S =
 zr_X4_readNumber ex n 4 [some (.inr (.inr (5, i0))), some (.inl (-1 : Int32)), some (.inl (0 : Int32)), none] [] S := rfl
theorem zx_X4_readNumber (d : Nat) (S : z_Mem) (i0 : Nat) : z_exe z_mt true (d + 1) 32 [.inr (.inr (5, i0))] S = zr_X4_readNumber (z_exe z_mt true d) (999999 + 1) 0 [some (.inr (.inr (5, i0))), none, none, none] [] S := z_exe_eq (q := (yX4_readNumber, cX4_readNumber, 4, (some .int), false, zo_X4_readNumber, zc_X4_readNumber, 5, 1)) rfl rfl
set_option maxRecDepth 100000 in
set_option maxHeartbeats 4000000 in
theorem ze_X4_readNumber_4 (ex : z_Ex) (n : Nat) (S : z_Mem) (i0 : Nat) (v1 : Int32) (v2 : Int32) : zr_X4_readNumber ex (n + 1) 4 [some (.inr (.inr (5, i0))), some (.inl v1), some (.inl v2), none] [] S =
 if (2 : Int32) ≤ v2 then (
  some (some (.inl v1), S))
 else (
  if (S.1 5 i0 1) ≤ (S.1 5 i0 2) then (
   some (some (.inl v1), S))
  else (
   cond (z_oob (S.1 5 i0 2) 100) none (
   let x1 : Int32 := ((S.1 25 i0 (Int32.toNatClampNeg (S.1 5 i0 2))) - (48 : Int32))
   if x1 < 0 then (
    some (some (.inl v1), S))
   else (
    if x1 ≤ (9 : Int32) then (
     if v2 = 0 then (
      let S2 : z_Mem := z_sI S 5 i0 2 ((S.1 5 i0 2) + (1 : Int32))
      let x3 : Int32 := (v2 + (1 : Int32))
      zr_X4_readNumber ex n 4 [some (.inr (.inr (5, i0))), some (.inl x1), some (.inl x3), none] [] S2)
     else (
      let x4 : Int32 := (((10 : Int32) * v1) + x1)
      let S5 : z_Mem := z_sI S 5 i0 2 ((S.1 5 i0 2) + (1 : Int32))
      let x6 : Int32 := (v2 + (1 : Int32))
      zr_X4_readNumber ex n 4 [some (.inr (.inr (5, i0))), some (.inl x4), some (.inl x6), none] [] S5))
    else (
     some (some (.inl v1), S)))))) := rfl
abbrev zr_X4_readAny (ex : z_Ex) (n pc : Nat) (ls : z_Lc) (st : List z_AV) (S : z_Mem) : Option (Option z_AV × z_Mem) := z_run true ex true zo_X4_readAny zc_X4_readAny n pc ls st S
set_option maxRecDepth 100000 in
set_option maxHeartbeats 4000000 in
theorem ze_X4_readAny_0 (ex : z_Ex) (n : Nat) (S : z_Mem) (i0 : Nat) (v1 : Int32) : zr_X4_readAny ex (n + 1) 0 [some (.inr (.inr (5, i0))), some (.inl v1), none] [] S =
 z_rI (ex 34 [.inr (.inr (5, i0)), .inl v1] S) (fun r2 S1 =>
 if r2 = 0 then (
  some (some (.inl (0 : Int32)), S1))
 else (
  zr_X4_readAny ex n 15 [some (.inr (.inr (5, i0))), some (.inl v1), some (.inl (S1.1 5 i0 1))] [] S1)) := rfl
theorem zx_X4_readAny (d : Nat) (S : z_Mem) (i0 : Nat) (v1 : Int32) : z_exe z_mt true (d + 1) 33 [.inr (.inr (5, i0)), .inl v1] S = zr_X4_readAny (z_exe z_mt true d) (999999 + 1) 0 [some (.inr (.inr (5, i0))), some (.inl v1), none] [] S := z_exe_eq (q := (yX4_readAny, cX4_readAny, 3, (some .boolean), true, zo_X4_readAny, zc_X4_readAny, 5, 2)) rfl rfl
set_option maxRecDepth 100000 in
set_option maxHeartbeats 4000000 in
theorem ze_X4_readAny_15 (ex : z_Ex) (n : Nat) (S : z_Mem) (i0 : Nat) (v1 : Int32) (v2 : Int32) : zr_X4_readAny ex (n + 1) 15 [some (.inr (.inr (5, i0))), some (.inl v1), some (.inl v2)] [] S =
 if v2 ≤ 0 then (
  some (some (.inl (1 : Int32)), S))
 else (
  z_rI (ex 40 [.inr (.inr (5, i0)), .inl (124 : Int32)] S) (fun r4 S3 =>
  if r4 = 0 then (
   some (some (.inl (1 : Int32)), S3))
  else (
   z_rI (ex 34 [.inr (.inr (5, i0)), .inl v1] S3) (fun r6 S5 =>
   if r6 = 0 then (
    some (some (.inl (0 : Int32)), S5))
   else (
    z_rV (ex 22 [.inr (.inr (4, (S5.2.2.1 5 i0 3).2)), .inl (-3 : Int32)] S5) (fun S7 =>
    let x8 : Int32 := (v2 + (-1 : Int32))
    zr_X4_readAny ex n 15 [some (.inr (.inr (5, i0))), some (.inl v1), some (.inl x8)] [] S7)))))) := rfl
abbrev zr_X4_readAll (ex : z_Ex) (n pc : Nat) (ls : z_Lc) (st : List z_AV) (S : z_Mem) : Option (Option z_AV × z_Mem) := z_run true ex true zo_X4_readAll zc_X4_readAll n pc ls st S
set_option maxRecDepth 100000 in
set_option maxHeartbeats 4000000 in
theorem ze_X4_readAll_0 (ex : z_Ex) (n : Nat) (S : z_Mem) (i0 : Nat) (v1 : Int32) : zr_X4_readAll ex (n + 1) 0 [some (.inr (.inr (5, i0))), some (.inl v1), none] [] S =
 z_rI (ex 35 [.inr (.inr (5, i0)), .inl v1] S) (fun r2 S1 =>
 if r2 = 0 then (
  some (some (.inl (0 : Int32)), S1))
 else (
  zr_X4_readAll ex n 15 [some (.inr (.inr (5, i0))), some (.inl v1), some (.inl (S1.1 5 i0 1))] [] S1)) := rfl
theorem zx_X4_readAll (d : Nat) (S : z_Mem) (i0 : Nat) (v1 : Int32) : z_exe z_mt true (d + 1) 34 [.inr (.inr (5, i0)), .inl v1] S = zr_X4_readAll (z_exe z_mt true d) (999999 + 1) 0 [some (.inr (.inr (5, i0))), some (.inl v1), none] [] S := z_exe_eq (q := (yX4_readAll, cX4_readAll, 3, (some .boolean), true, zo_X4_readAll, zc_X4_readAll, 5, 2)) rfl rfl
set_option maxRecDepth 100000 in
set_option maxHeartbeats 4000000 in
theorem ze_X4_readAll_15 (ex : z_Ex) (n : Nat) (S : z_Mem) (i0 : Nat) (v1 : Int32) (v2 : Int32) : zr_X4_readAll ex (n + 1) 15 [some (.inr (.inr (5, i0))), some (.inl v1), some (.inl v2)] [] S =
 if v2 ≤ 0 then (
  some (some (.inl (1 : Int32)), S))
 else (
  z_rI (ex 40 [.inr (.inr (5, i0)), .inl (38 : Int32)] S) (fun r4 S3 =>
  if r4 = 0 then (
   some (some (.inl (1 : Int32)), S3))
  else (
   z_rI (ex 35 [.inr (.inr (5, i0)), .inl v1] S3) (fun r6 S5 =>
   if r6 = 0 then (
    some (some (.inl (0 : Int32)), S5))
   else (
    z_rV (ex 22 [.inr (.inr (4, (S5.2.2.1 5 i0 3).2)), .inl (-2 : Int32)] S5) (fun S7 =>
    let x8 : Int32 := (v2 + (-1 : Int32))
    zr_X4_readAll ex n 15 [some (.inr (.inr (5, i0))), some (.inl v1), some (.inl x8)] [] S7)))))) := rfl
abbrev zr_X4_readPart (ex : z_Ex) (n pc : Nat) (ls : z_Lc) (st : List z_AV) (S : z_Mem) : Option (Option z_AV × z_Mem) := z_run true ex true zo_X4_readPart zc_X4_readPart n pc ls st S
set_option maxRecDepth 100000 in
set_option maxHeartbeats 4000000 in
theorem ze_X4_readPart_0 (ex : z_Ex) (n : Nat) (S : z_Mem) (i0 : Nat) (v1 : Int32) : zr_X4_readPart ex (n + 1) 0 [some (.inr (.inr (5, i0))), some (.inl v1), none] [] S =
 if (4 : Int32) ≤ v1 then (
  if (0 : Int32) = 0 then (
   if (0 : Int32) = 0 then (
    z_rI (ex 36 [.inr (.inr (5, i0))] S) (fun r2 S1 =>
    if r2 &&& 1 = r2 then some (some (.inl r2), S1) else none))
   else (
    z_rI (ex 40 [.inr (.inr (5, i0)), .inl (40 : Int32)] S) (fun r4 S3 =>
    if r4 = 0 then (
     z_rI (ex 36 [.inr (.inr (5, i0))] S3) (fun r6 S5 =>
     if r6 &&& 1 = r6 then some (some (.inl r6), S5) else none))
    else (
     z_rI (ex 33 [.inr (.inr (5, i0)), .inl (v1 + (1 : Int32))] S3) (fun r8 S7 =>
     if r8 = 0 then (
      some (some (.inl (0 : Int32)), S7))
     else (
      z_rI (ex 40 [.inr (.inr (5, i0)), .inl (41 : Int32)] S7) (fun r10 S9 =>
      if r10 = 0 then (
       some (some (.inl (0 : Int32)), S9))
      else (
       some (some (.inl (1 : Int32)), S9)))))))))
  else (
   z_rI (ex 40 [.inr (.inr (5, i0)), .inl (33 : Int32)] S) (fun r12 S11 =>
   if r12 = 0 then (
    if (0 : Int32) = 0 then (
     z_rI (ex 36 [.inr (.inr (5, i0))] S11) (fun r14 S13 =>
     if r14 &&& 1 = r14 then some (some (.inl r14), S13) else none))
    else (
     z_rI (ex 40 [.inr (.inr (5, i0)), .inl (40 : Int32)] S11) (fun r16 S15 =>
     if r16 = 0 then (
      z_rI (ex 36 [.inr (.inr (5, i0))] S15) (fun r18 S17 =>
      if r18 &&& 1 = r18 then some (some (.inl r18), S17) else none))
     else (
      z_rI (ex 33 [.inr (.inr (5, i0)), .inl (v1 + (1 : Int32))] S15) (fun r20 S19 =>
      if r20 = 0 then (
       some (some (.inl (0 : Int32)), S19))
      else (
       z_rI (ex 40 [.inr (.inr (5, i0)), .inl (41 : Int32)] S19) (fun r22 S21 =>
       if r22 = 0 then (
        some (some (.inl (0 : Int32)), S21))
       else (
        some (some (.inl (1 : Int32)), S21)))))))))
   else (
    z_rI (ex 35 [.inr (.inr (5, i0)), .inl (v1 + (1 : Int32))] S11) (fun r24 S23 =>
    if r24 = 0 then (
     some (some (.inl (0 : Int32)), S23))
    else (
     z_rV (ex 22 [.inr (.inr (4, (S23.2.2.1 5 i0 3).2)), .inl (-1 : Int32)] S23) (fun S25 =>
     some (some (.inl (1 : Int32)), S25))))))))
 else (
  if (1 : Int32) = 0 then (
   if (1 : Int32) = 0 then (
    z_rI (ex 36 [.inr (.inr (5, i0))] S) (fun r27 S26 =>
    if r27 &&& 1 = r27 then some (some (.inl r27), S26) else none))
   else (
    z_rI (ex 40 [.inr (.inr (5, i0)), .inl (40 : Int32)] S) (fun r29 S28 =>
    if r29 = 0 then (
     z_rI (ex 36 [.inr (.inr (5, i0))] S28) (fun r31 S30 =>
     if r31 &&& 1 = r31 then some (some (.inl r31), S30) else none))
    else (
     z_rI (ex 33 [.inr (.inr (5, i0)), .inl (v1 + (1 : Int32))] S28) (fun r33 S32 =>
     if r33 = 0 then (
      some (some (.inl (0 : Int32)), S32))
     else (
      z_rI (ex 40 [.inr (.inr (5, i0)), .inl (41 : Int32)] S32) (fun r35 S34 =>
      if r35 = 0 then (
       some (some (.inl (0 : Int32)), S34))
      else (
       some (some (.inl (1 : Int32)), S34)))))))))
  else (
   z_rI (ex 40 [.inr (.inr (5, i0)), .inl (33 : Int32)] S) (fun r37 S36 =>
   if r37 = 0 then (
    if (1 : Int32) = 0 then (
     z_rI (ex 36 [.inr (.inr (5, i0))] S36) (fun r39 S38 =>
     if r39 &&& 1 = r39 then some (some (.inl r39), S38) else none))
    else (
     z_rI (ex 40 [.inr (.inr (5, i0)), .inl (40 : Int32)] S36) (fun r41 S40 =>
     if r41 = 0 then (
      z_rI (ex 36 [.inr (.inr (5, i0))] S40) (fun r43 S42 =>
      if r43 &&& 1 = r43 then some (some (.inl r43), S42) else none))
     else (
      z_rI (ex 33 [.inr (.inr (5, i0)), .inl (v1 + (1 : Int32))] S40) (fun r45 S44 =>
      if r45 = 0 then (
       some (some (.inl (0 : Int32)), S44))
      else (
       z_rI (ex 40 [.inr (.inr (5, i0)), .inl (41 : Int32)] S44) (fun r47 S46 =>
       if r47 = 0 then (
        some (some (.inl (0 : Int32)), S46))
       else (
        some (some (.inl (1 : Int32)), S46)))))))))
   else (
    z_rI (ex 35 [.inr (.inr (5, i0)), .inl (v1 + (1 : Int32))] S36) (fun r49 S48 =>
    if r49 = 0 then (
     some (some (.inl (0 : Int32)), S48))
    else (
     z_rV (ex 22 [.inr (.inr (4, (S48.2.2.1 5 i0 3).2)), .inl (-1 : Int32)] S48) (fun S50 =>
     some (some (.inl (1 : Int32)), S50)))))))) := rfl
theorem zx_X4_readPart (d : Nat) (S : z_Mem) (i0 : Nat) (v1 : Int32) : z_exe z_mt true (d + 1) 35 [.inr (.inr (5, i0)), .inl v1] S = zr_X4_readPart (z_exe z_mt true d) (999999 + 1) 0 [some (.inr (.inr (5, i0))), some (.inl v1), none] [] S := z_exe_eq (q := (yX4_readPart, cX4_readPart, 3, (some .boolean), true, zo_X4_readPart, zc_X4_readPart, 5, 2)) rfl rfl
abbrev zr_X4_readTest (ex : z_Ex) (n pc : Nat) (ls : z_Lc) (st : List z_AV) (S : z_Mem) : Option (Option z_AV × z_Mem) := z_run true ex true zo_X4_readTest zc_X4_readTest n pc ls st S
set_option maxRecDepth 100000 in
set_option maxHeartbeats 4000000 in
theorem ze_X4_readTest_0 (ex : z_Ex) (n : Nat) (S : z_Mem) (i0 : Nat) : zr_X4_readTest ex (n + 1) 0 [some (.inr (.inr (5, i0))), none, none, none] [] S =
 z_rI (ex 39 [.inr (.inr (5, i0))] S) (fun r2 S1 =>
 z_rI (ex 37 [.inl r2] S1) (fun r4 S3 =>
 if 0 ≤ r4 then (
  let S5 : z_Mem := z_sI S3 5 i0 2 ((S3.1 5 i0 2) + (1 : Int32))
  z_rI (ex 39 [.inr (.inr (5, i0))] S5) (fun r7 S6 =>
  z_rI (ex 38 [.inl r7] S6) (fun r9 S8 =>
  if 0 ≤ r9 then (
   let S10 : z_Mem := z_sI S8 5 i0 2 ((S8.1 5 i0 2) + (1 : Int32))
   z_rI (ex 32 [.inr (.inr (5, i0))] S10) (fun r12 S11 =>
   if 0 ≤ r12 then (
    z_rI (ex 23 [.inl r4, .inl r9, .inl r12] S11) (fun r14 S13 =>
    z_rV (ex 22 [.inr (.inr (4, (S11.2.2.1 5 i0 3).2)), .inl r14] S13) (fun S15 =>
    some (some (.inl (1 : Int32)), S15))))
   else (
    some (some (.inl (0 : Int32)), S11))))
  else (
   some (some (.inl (0 : Int32)), S8)))))
 else (
  some (some (.inl (0 : Int32)), S3)))) := rfl
theorem zx_X4_readTest (d : Nat) (S : z_Mem) (i0 : Nat) : z_exe z_mt true (d + 1) 36 [.inr (.inr (5, i0))] S = zr_X4_readTest (z_exe z_mt true d) (999999 + 1) 0 [some (.inr (.inr (5, i0))), none, none, none] [] S := z_exe_eq (q := (yX4_readTest, cX4_readTest, 4, (some .boolean), true, zo_X4_readTest, zc_X4_readTest, 5, 1)) rfl rfl
abbrev zr_X4_letterOf (ex : z_Ex) (n pc : Nat) (ls : z_Lc) (st : List z_AV) (S : z_Mem) : Option (Option z_AV × z_Mem) := z_run true ex false zo_X4_letterOf zc_X4_letterOf n pc ls st S
set_option maxRecDepth 100000 in
set_option maxHeartbeats 4000000 in
theorem ze_X4_letterOf_0 (ex : z_Ex) (n : Nat) (S : z_Mem) (v0 : Int32) : zr_X4_letterOf ex (n + 1) 0 [some (.inl v0)] [] S =
 if v0 = (98 : Int32) then (
  some (some (.inl (0 : Int32)), S)) else
 if v0 = (104 : Int32) then (
  some (some (.inl (5 : Int32)), S)) else
 if v0 = (107 : Int32) then (
  some (some (.inl (2 : Int32)), S)) else
 if v0 = (112 : Int32) then (
  some (some (.inl (1 : Int32)), S)) else
 if v0 = (118 : Int32) then (
  some (some (.inl (3 : Int32)), S)) else
 if v0 = (119 : Int32) then (
  some (some (.inl (4 : Int32)), S)) else
 some (some (.inl (-1 : Int32)), S) := rfl
theorem zx_X4_letterOf (d : Nat) (S : z_Mem) (v0 : Int32) : z_exe z_mt true (d + 1) 37 [.inl v0] S = zr_X4_letterOf (z_exe z_mt true d) (999999 + 1) 0 [some (.inl v0)] [] S := z_exe_eq (q := (yX4_letterOf, cX4_letterOf, 1, (some .int), false, zo_X4_letterOf, zc_X4_letterOf, 0, 1)) rfl rfl
abbrev zr_X4_comparisonOf (ex : z_Ex) (n pc : Nat) (ls : z_Lc) (st : List z_AV) (S : z_Mem) : Option (Option z_AV × z_Mem) := z_run true ex false zo_X4_comparisonOf zc_X4_comparisonOf n pc ls st S
set_option maxRecDepth 100000 in
set_option maxHeartbeats 4000000 in
theorem ze_X4_comparisonOf_0 (ex : z_Ex) (n : Nat) (S : z_Mem) (v0 : Int32) : zr_X4_comparisonOf ex (n + 1) 0 [some (.inl v0)] [] S =
 if v0 = (60 : Int32) then (
  some (some (.inl (0 : Int32)), S)) else
 if v0 = (61 : Int32) then (
  some (some (.inl (1 : Int32)), S)) else
 if v0 = (62 : Int32) then (
  some (some (.inl (2 : Int32)), S)) else
 some (some (.inl (-1 : Int32)), S) := rfl
theorem zx_X4_comparisonOf (d : Nat) (S : z_Mem) (v0 : Int32) : z_exe z_mt true (d + 1) 38 [.inl v0] S = zr_X4_comparisonOf (z_exe z_mt true d) (999999 + 1) 0 [some (.inl v0)] [] S := z_exe_eq (q := (yX4_comparisonOf, cX4_comparisonOf, 1, (some .int), false, zo_X4_comparisonOf, zc_X4_comparisonOf, 0, 1)) rfl rfl
abbrev zr_X4_sign (ex : z_Ex) (n pc : Nat) (ls : z_Lc) (st : List z_AV) (S : z_Mem) : Option (Option z_AV × z_Mem) := z_run true ex false zo_X4_sign zc_X4_sign n pc ls st S
set_option maxRecDepth 100000 in
set_option maxHeartbeats 4000000 in
theorem ze_X4_sign_0 (ex : z_Ex) (n : Nat) (S : z_Mem) (i0 : Nat) : zr_X4_sign ex (n + 1) 0 [some (.inr (.inr (5, i0)))] [] S =
 if (S.1 5 i0 1) ≤ (S.1 5 i0 2) then (
  some (some (.inl (-1 : Int32)), S))
 else (
  cond (z_oob (S.1 5 i0 2) 100) none (
  some (some (.inl (S.1 25 i0 (Int32.toNatClampNeg (S.1 5 i0 2)))), S))) := rfl
theorem zx_X4_sign (d : Nat) (S : z_Mem) (i0 : Nat) : z_exe z_mt true (d + 1) 39 [.inr (.inr (5, i0))] S = zr_X4_sign (z_exe z_mt true d) (999999 + 1) 0 [some (.inr (.inr (5, i0)))] [] S := z_exe_eq (q := (yX4_sign, cX4_sign, 1, (some .int), false, zo_X4_sign, zc_X4_sign, 5, 1)) rfl rfl
abbrev zr_X4_skip (ex : z_Ex) (n pc : Nat) (ls : z_Lc) (st : List z_AV) (S : z_Mem) : Option (Option z_AV × z_Mem) := z_run true ex true zo_X4_skip zc_X4_skip n pc ls st S
set_option maxRecDepth 100000 in
set_option maxHeartbeats 4000000 in
theorem ze_X4_skip_0 (ex : z_Ex) (n : Nat) (S : z_Mem) (i0 : Nat) (v1 : Int32) : zr_X4_skip ex (n + 1) 0 [some (.inr (.inr (5, i0))), some (.inl v1)] [] S =
 z_rI (ex 39 [.inr (.inr (5, i0))] S) (fun r2 S1 =>
 if r2 = v1 then (
  let S3 : z_Mem := z_sI S1 5 i0 2 ((S1.1 5 i0 2) + (1 : Int32))
  some (some (.inl (1 : Int32)), S3))
 else (
  some (some (.inl (0 : Int32)), S1))) := rfl
theorem zx_X4_skip (d : Nat) (S : z_Mem) (i0 : Nat) (v1 : Int32) : z_exe z_mt true (d + 1) 40 [.inr (.inr (5, i0)), .inl v1] S = zr_X4_skip (z_exe z_mt true d) (999999 + 1) 0 [some (.inr (.inr (5, i0))), some (.inl v1)] [] S := z_exe_eq (q := (yX4_skip, cX4_skip, 2, (some .boolean), true, zo_X4_skip, zc_X4_skip, 5, 2)) rfl rfl
abbrev zr_X5_above (ex : z_Ex) (n pc : Nat) (ls : z_Lc) (st : List z_AV) (S : z_Mem) : Option (Option z_AV × z_Mem) := z_run true ex false zo_X5_above zc_X5_above n pc ls st S
set_option maxRecDepth 100000 in
set_option maxHeartbeats 4000000 in
theorem ze_X5_above_0 (ex : z_Ex) (n : Nat) (S : z_Mem) (v0 : Int32) : zr_X5_above ex (n + 1) 0 [some (.inl v0)] [] S =
 if v0 = (4 : Int32) then (
  some (some (.inl (1 : Int32)), S)) else
 if v0 = (5 : Int32) then (
  some (some (.inl (2 : Int32)), S)) else
 if v0 = (6 : Int32) then (
  some (some (.inl (3 : Int32)), S)) else
 some (some (.inl (0 : Int32)), S) := rfl
theorem zx_X5_above (d : Nat) (S : z_Mem) (v0 : Int32) : z_exe z_mt true (d + 1) 41 [.inl v0] S = zr_X5_above (z_exe z_mt true d) (999999 + 1) 0 [some (.inl v0)] [] S := z_exe_eq (q := (yX5_above, cX5_above, 1, (some .int), false, zo_X5_above, zc_X5_above, 0, 1)) rfl rfl
abbrev zr_X5_isOrIsUnder (ex : z_Ex) (n pc : Nat) (ls : z_Lc) (st : List z_AV) (S : z_Mem) : Option (Option z_AV × z_Mem) := z_run true ex true zo_X5_isOrIsUnder zc_X5_isOrIsUnder n pc ls st S
set_option maxRecDepth 100000 in
set_option maxHeartbeats 4000000 in
theorem ze_X5_isOrIsUnder_0 (ex : z_Ex) (n : Nat) (S : z_Mem) (v0 : Int32) (v1 : Int32) : zr_X5_isOrIsUnder ex (n + 1) 0 [some (.inl v0), some (.inl v1), none, none] [] S =
 zr_X5_isOrIsUnder ex n 4 [none, some (.inl v1), some (.inl v0), some (.inl (0 : Int32))] [] S := rfl
theorem zx_X5_isOrIsUnder (d : Nat) (S : z_Mem) (v0 : Int32) (v1 : Int32) : z_exe z_mt true (d + 1) 42 [.inl v0, .inl v1] S = zr_X5_isOrIsUnder (z_exe z_mt true d) (999999 + 1) 0 [some (.inl v0), some (.inl v1), none, none] [] S := z_exe_eq (q := (yX5_isOrIsUnder, cX5_isOrIsUnder, 4, (some .boolean), true, zo_X5_isOrIsUnder, zc_X5_isOrIsUnder, 0, 2)) rfl rfl
set_option maxRecDepth 100000 in
set_option maxHeartbeats 4000000 in
theorem ze_X5_isOrIsUnder_4 (ex : z_Ex) (n : Nat) (S : z_Mem) (v1 : Int32) (v2 : Int32) (v3 : Int32) : zr_X5_isOrIsUnder ex (n + 1) 4 [none, some (.inl v1), some (.inl v2), some (.inl v3)] [] S =
 if (6 : Int32) ≤ v3 then (
  if v2 = v1 then (
   some (some (.inl (1 : Int32)), S))
  else (
   some (some (.inl (0 : Int32)), S)))
 else (
  if v2 = v1 then (
   if v2 = v1 then (
    some (some (.inl (1 : Int32)), S))
   else (
    some (some (.inl (0 : Int32)), S)))
  else (
   z_rI (ex 41 [.inl v2] S) (fun r2 S1 =>
   let x3 : Int32 := (v3 + (1 : Int32))
   zr_X5_isOrIsUnder ex n 4 [none, some (.inl v1), some (.inl r2), some (.inl x3)] [] S1))) := rfl
abbrev zr_X6_foresee (ex : z_Ex) (n pc : Nat) (ls : z_Lc) (st : List z_AV) (S : z_Mem) : Option (Option z_AV × z_Mem) := z_run true ex false zo_X6_foresee zc_X6_foresee n pc ls st S
set_option maxRecDepth 100000 in
set_option maxHeartbeats 4000000 in
theorem ze_X6_foresee_0 (ex : z_Ex) (n : Nat) (S : z_Mem) (i0 : Nat) (i1 : Nat) (i2 : Nat) (v3 : Int32) : zr_X6_foresee ex (n + 1) 0 [some (.inr (.inr (6, i0))), some (.inr (.inr (7, i1))), some (.inr (.inr (3, i2))), some (.inl v3), none, none] [] S =
 let S1 : z_Mem := z_sI S 6 i0 3 (S.1 7 i1 1)
 zr_X6_foresee ex n 11 [some (.inr (.inr (6, i0))), some (.inr (.inr (7, i1))), some (.inr (.inr (3, i2))), some (.inl v3), some (.inl (0 : Int32)), none] [] S1 := rfl
theorem zx_X6_foresee (d : Nat) (S : z_Mem) (i0 : Nat) (i1 : Nat) (i2 : Nat) (v3 : Int32) : z_exe z_mt true (d + 1) 44 [.inr (.inr (6, i0)), .inr (.inr (7, i1)), .inr (.inr (3, i2)), .inl v3] S = zr_X6_foresee (z_exe z_mt true d) (999999 + 1) 0 [some (.inr (.inr (6, i0))), some (.inr (.inr (7, i1))), some (.inr (.inr (3, i2))), some (.inl v3), none, none] [] S := z_exe_eq (q := (yX6_foresee, cX6_foresee, 6, none, false, zo_X6_foresee, zc_X6_foresee, 6, 4)) rfl rfl
set_option maxRecDepth 100000 in
set_option maxHeartbeats 4000000 in
theorem ze_X6_foresee_11 (ex : z_Ex) (n : Nat) (S : z_Mem) (i0 : Nat) (i1 : Nat) (i2 : Nat) (v3 : Int32) (v4 : Int32) : zr_X6_foresee ex (n + 1) 11 [some (.inr (.inr (6, i0))), some (.inr (.inr (7, i1))), some (.inr (.inr (3, i2))), some (.inl v3), some (.inl v4), none] [] S =
 if (S.1 6 i0 3) ≤ v4 then (
  some (none, S))
 else (
  cond (z_oob v4 6) none (
  if (S.1 2 (6 * i1 + (Int32.toNatClampNeg v4)) 5) = 0 then (
   cond (z_oob v4 6) none (
   let S2 : z_Mem := z_sI S 27 i0 (Int32.toNatClampNeg v4) (vp_nar .boolean (1 : Int32))
   zr_X6_foresee ex n 48 [some (.inr (.inr (6, i0))), some (.inr (.inr (7, i1))), some (.inr (.inr (3, i2))), some (.inl v3), some (.inl v4), some (.inl (0 : Int32))] [] S2))
  else (
   cond (z_oob v4 6) none (
   let S3 : z_Mem := z_sI S 27 i0 (Int32.toNatClampNeg v4) (vp_nar .boolean (0 : Int32))
   zr_X6_foresee ex n 48 [some (.inr (.inr (6, i0))), some (.inr (.inr (7, i1))), some (.inr (.inr (3, i2))), some (.inl v3), some (.inl v4), some (.inl (0 : Int32))] [] S3)))) := rfl
set_option maxRecDepth 100000 in
set_option maxHeartbeats 4000000 in
theorem ze_X6_foresee_48 (ex : z_Ex) (n : Nat) (S : z_Mem) (i0 : Nat) (i1 : Nat) (i2 : Nat) (v3 : Int32) (v4 : Int32) (v5 : Int32) : zr_X6_foresee ex (n + 1) 48 [some (.inr (.inr (6, i0))), some (.inr (.inr (7, i1))), some (.inr (.inr (3, i2))), some (.inl v3), some (.inl v4), some (.inl v5)] [] S =
 if (6 : Int32) ≤ v5 then (
  let x4 : Int32 := (v4 + (1 : Int32))
  zr_X6_foresee ex n 11 [some (.inr (.inr (6, i0))), some (.inr (.inr (7, i1))), some (.inr (.inr (3, i2))), some (.inl v3), some (.inl x4), none] [] S)
 else (
  cond (z_oob v4 6) none (
  z_rI (ex 19 [.inr (.inr (3, i2)), .inl v3, .inr (.inr (2, (6 * i1 + (Int32.toNatClampNeg v4)))), .inl v5, .inr (.inr (9, i1))] S) (fun r6 S5 =>
  cond (z_oob ((v4 * (6 : Int32)) + v5) 36) none (
  let S7 : z_Mem := z_sI S5 26 i0 (Int32.toNatClampNeg ((v4 * (6 : Int32)) + v5)) r6
  let x8 : Int32 := (v5 + (1 : Int32))
  zr_X6_foresee ex n 48 [some (.inr (.inr (6, i0))), some (.inr (.inr (7, i1))), some (.inr (.inr (3, i2))), some (.inl v3), some (.inl v4), some (.inl x8)] [] S7)))) := rfl
abbrev zr_X6_moreByChange (ex : z_Ex) (n pc : Nat) (ls : z_Lc) (st : List z_AV) (S : z_Mem) : Option (Option z_AV × z_Mem) := z_run true ex false zo_X6_moreByChange zc_X6_moreByChange n pc ls st S
set_option maxRecDepth 100000 in
set_option maxHeartbeats 4000000 in
theorem ze_X6_moreByChange_0 (ex : z_Ex) (n : Nat) (S : z_Mem) (i0 : Nat) (i1 : Nat) (i2 : Nat) : zr_X6_moreByChange ex (n + 1) 0 [some (.inr (.inr (6, i0))), some (.inr (.inr (2, i1))), some (.inr (.inr (2, i2)))] [] S =
 z_rI (ex 46 [.inr (.inr (6, i0)), .inr (.inr (2, i1)), .inl (S.1 2 i2 4)] S) (fun r2 S1 =>
 z_rI (ex 46 [.inr (.inr (6, i0)), .inr (.inr (2, i2)), .inl (S1.1 2 i1 4)] S1) (fun r4 S3 =>
 some (some (.inl (r2 + r4)), S3))) := rfl
theorem zx_X6_moreByChange (d : Nat) (S : z_Mem) (i0 : Nat) (i1 : Nat) (i2 : Nat) : z_exe z_mt true (d + 1) 45 [.inr (.inr (6, i0)), .inr (.inr (2, i1)), .inr (.inr (2, i2))] S = zr_X6_moreByChange (z_exe z_mt true d) (999999 + 1) 0 [some (.inr (.inr (6, i0))), some (.inr (.inr (2, i1))), some (.inr (.inr (2, i2)))] [] S := z_exe_eq (q := (yX6_moreByChange, cX6_moreByChange, 3, (some .int), false, zo_X6_moreByChange, zc_X6_moreByChange, 6, 3)) rfl rfl
abbrev zr_X6_moreByMove (ex : z_Ex) (n pc : Nat) (ls : z_Lc) (st : List z_AV) (S : z_Mem) : Option (Option z_AV × z_Mem) := z_run true ex false zo_X6_moreByMove zc_X6_moreByMove n pc ls st S
set_option maxRecDepth 100000 in
set_option maxHeartbeats 4000000 in
theorem ze_X6_moreByMove_0 (ex : z_Ex) (n : Nat) (S : z_Mem) (i0 : Nat) (i1 : Nat) (v2 : Int32) : zr_X6_moreByMove ex (n + 1) 0 [some (.inr (.inr (6, i0))), some (.inr (.inr (2, i1))), some (.inl v2), none] [] S =
 let x1 : Int32 := ((S.1 2 i1 0) * (6 : Int32))
 if (S.1 2 i1 5) = 0 then (
  cond (z_oob (x1 + v2) 36) none (
  cond (z_oob (x1 + (S.1 2 i1 4)) 36) none (
  some (some (.inl ((S.1 26 i0 (Int32.toNatClampNeg (x1 + v2))) - (S.1 26 i0 (Int32.toNatClampNeg (x1 + (S.1 2 i1 4)))))), S))))
 else (
  some (some (.inl (0 : Int32)), S)) := rfl
theorem zx_X6_moreByMove (d : Nat) (S : z_Mem) (i0 : Nat) (i1 : Nat) (v2 : Int32) : z_exe z_mt true (d + 1) 46 [.inr (.inr (6, i0)), .inr (.inr (2, i1)), .inl v2] S = zr_X6_moreByMove (z_exe z_mt true d) (999999 + 1) 0 [some (.inr (.inr (6, i0))), some (.inr (.inr (2, i1))), some (.inl v2), none] [] S := z_exe_eq (q := (yX6_moreByMove, cX6_moreByMove, 4, (some .int), false, zo_X6_moreByMove, zc_X6_moreByMove, 6, 3)) rfl rfl
abbrev zr_X6_findBest (ex : z_Ex) (n pc : Nat) (ls : z_Lc) (st : List z_AV) (S : z_Mem) : Option (Option z_AV × z_Mem) := z_run true ex false zo_X6_findBest zc_X6_findBest n pc ls st S
set_option maxRecDepth 100000 in
set_option maxHeartbeats 4000000 in
theorem ze_X6_findBest_0 (ex : z_Ex) (n : Nat) (S : z_Mem) (i0 : Nat) : zr_X6_findBest ex (n + 1) 0 [some (.inr (.inr (6, i0)))] [] S =
 let S1 : z_Mem := z_sI S 6 i0 5 (-1 : Int32)
 let S2 : z_Mem := z_sI S1 6 i0 6 (0 : Int32)
 z_rV (ex 48 [.inr (.inr (6, i0)), .inl (0 : Int32), .inl (0 : Int32), .inl (0 : Int32), .inl (0 : Int32)] S2) (fun S3 =>
 some (none, S3)) := rfl
theorem zx_X6_findBest (d : Nat) (S : z_Mem) (i0 : Nat) : z_exe z_mt true (d + 1) 47 [.inr (.inr (6, i0))] S = zr_X6_findBest (z_exe z_mt true d) (999999 + 1) 0 [some (.inr (.inr (6, i0)))] [] S := z_exe_eq (q := (yX6_findBest, cX6_findBest, 1, none, false, zo_X6_findBest, zc_X6_findBest, 6, 1)) rfl rfl
abbrev zr_X6_tryFrom (ex : z_Ex) (n pc : Nat) (ls : z_Lc) (st : List z_AV) (S : z_Mem) : Option (Option z_AV × z_Mem) := z_run true ex false zo_X6_tryFrom zc_X6_tryFrom n pc ls st S
set_option maxRecDepth 100000 in
set_option maxHeartbeats 4000000 in
theorem ze_X6_tryFrom_0 (ex : z_Ex) (n : Nat) (S : z_Mem) (i0 : Nat) (v1 : Int32) (v2 : Int32) (v3 : Int32) (v4 : Int32) : zr_X6_tryFrom ex (n + 1) 0 [some (.inr (.inr (6, i0))), some (.inl v1), some (.inl v2), some (.inl v3), some (.inl v4), none, none, none] [] S =
 if v1 < (S.1 6 i0 3) then (
  zr_X6_tryFrom ex n 19 [some (.inr (.inr (6, i0))), some (.inl v1), some (.inl v2), some (.inl v3), some (.inl v4), some (.inl (0 : Int32)), none, none] [] S)
 else (
  z_rV (ex 49 [.inr (.inr (6, i0)), .inl v3, .inl v4] S) (fun S1 =>
  some (none, S1))) := rfl
theorem zx_X6_tryFrom (d : Nat) (S : z_Mem) (i0 : Nat) (v1 : Int32) (v2 : Int32) (v3 : Int32) (v4 : Int32) : z_exe z_mt true (d + 1) 48 [.inr (.inr (6, i0)), .inl v1, .inl v2, .inl v3, .inl v4] S = zr_X6_tryFrom (z_exe z_mt true d) (999999 + 1) 0 [some (.inr (.inr (6, i0))), some (.inl v1), some (.inl v2), some (.inl v3), some (.inl v4), none, none, none] [] S := z_exe_eq (q := (yX6_tryFrom, cX6_tryFrom, 8, none, false, zo_X6_tryFrom, zc_X6_tryFrom, 6, 5)) rfl rfl
set_option maxRecDepth 100000 in
set_option maxHeartbeats 4000000 in
theorem ze_X6_tryFrom_19 (ex : z_Ex) (n : Nat) (S : z_Mem) (i0 : Nat) (v1 : Int32) (v2 : Int32) (v3 : Int32) (v4 : Int32) (v5 : Int32) : zr_X6_tryFrom ex (n + 1) 19 [some (.inr (.inr (6, i0))), some (.inl v1), some (.inl v2), some (.inl v3), some (.inl v4), some (.inl v5), none, none] [] S =
 if (6 : Int32) ≤ v5 then (
  some (none, S))
 else (
  if ((v2 >>> (v5 &&& 31)) &&& (1 : Int32)) = 0 then (
   cond (z_oob v1 6) none (
   let S2 : z_Mem := z_sI S 28 i0 (Int32.toNatClampNeg v1) v5
   cond (z_oob v1 6) none (
   if (S2.1 27 i0 (Int32.toNatClampNeg v1)) = 0 then (
    cond (z_oob v1 6) none (
    if (S2.1 27 i0 (Int32.toNatClampNeg v1)) = 0 then (
     z_rV (ex 48 [.inr (.inr (6, i0)), .inl (v1 + (1 : Int32)), .inl (v2 ||| ((1 : Int32) <<< (v5 &&& 31))), .inl (v3 + (0 : Int32)), .inl (v4 + (0 : Int32))] S2) (fun S3 =>
     let x4 : Int32 := (v5 + (1 : Int32))
     zr_X6_tryFrom ex n 19 [some (.inr (.inr (6, i0))), some (.inl v1), some (.inl v2), some (.inl v3), some (.inl v4), some (.inl x4), none, none] [] S3))
    else (
     if (0 : Int32) = 0 then (
      z_rV (ex 48 [.inr (.inr (6, i0)), .inl (v1 + (1 : Int32)), .inl (v2 ||| ((1 : Int32) <<< (v5 &&& 31))), .inl (v3 + (1 : Int32)), .inl (v4 + (0 : Int32))] S2) (fun S5 =>
      let x6 : Int32 := (v5 + (1 : Int32))
      zr_X6_tryFrom ex n 19 [some (.inr (.inr (6, i0))), some (.inl v1), some (.inl v2), some (.inl v3), some (.inl v4), some (.inl x6), none, none] [] S5))
     else (
      z_rV (ex 48 [.inr (.inr (6, i0)), .inl (v1 + (1 : Int32)), .inl (v2 ||| ((1 : Int32) <<< (v5 &&& 31))), .inl (v3 + (0 : Int32)), .inl (v4 + (0 : Int32))] S2) (fun S7 =>
      let x8 : Int32 := (v5 + (1 : Int32))
      zr_X6_tryFrom ex n 19 [some (.inr (.inr (6, i0))), some (.inl v1), some (.inl v2), some (.inl v3), some (.inl v4), some (.inl x8), none, none] [] S7)))))
   else (
    cond (z_oob ((v1 * (6 : Int32)) + v5) 36) none (
    let x9 : Int32 := (S2.1 26 i0 (Int32.toNatClampNeg ((v1 * (6 : Int32)) + v5)))
    cond (z_oob v1 6) none (
    if (S2.1 27 i0 (Int32.toNatClampNeg v1)) = 0 then (
     z_rV (ex 48 [.inr (.inr (6, i0)), .inl (v1 + (1 : Int32)), .inl (v2 ||| ((1 : Int32) <<< (v5 &&& 31))), .inl (v3 + (0 : Int32)), .inl (v4 + x9)] S2) (fun S10 =>
     let x11 : Int32 := (v5 + (1 : Int32))
     zr_X6_tryFrom ex n 19 [some (.inr (.inr (6, i0))), some (.inl v1), some (.inl v2), some (.inl v3), some (.inl v4), some (.inl x11), none, none] [] S10))
    else (
     if x9 = 0 then (
      z_rV (ex 48 [.inr (.inr (6, i0)), .inl (v1 + (1 : Int32)), .inl (v2 ||| ((1 : Int32) <<< (v5 &&& 31))), .inl (v3 + (1 : Int32)), .inl (v4 + x9)] S2) (fun S12 =>
      let x13 : Int32 := (v5 + (1 : Int32))
      zr_X6_tryFrom ex n 19 [some (.inr (.inr (6, i0))), some (.inl v1), some (.inl v2), some (.inl v3), some (.inl v4), some (.inl x13), none, none] [] S12))
     else (
      z_rV (ex 48 [.inr (.inr (6, i0)), .inl (v1 + (1 : Int32)), .inl (v2 ||| ((1 : Int32) <<< (v5 &&& 31))), .inl (v3 + (0 : Int32)), .inl (v4 + x9)] S2) (fun S14 =>
      let x15 : Int32 := (v5 + (1 : Int32))
      zr_X6_tryFrom ex n 19 [some (.inr (.inr (6, i0))), some (.inl v1), some (.inl v2), some (.inl v3), some (.inl v4), some (.inl x15), none, none] [] S14)))))))))
  else (
   let x16 : Int32 := (v5 + (1 : Int32))
   zr_X6_tryFrom ex n 19 [some (.inr (.inr (6, i0))), some (.inl v1), some (.inl v2), some (.inl v3), some (.inl v4), some (.inl x16), none, none] [] S)) := rfl
abbrev zr_X6_keepIfBetter (ex : z_Ex) (n pc : Nat) (ls : z_Lc) (st : List z_AV) (S : z_Mem) : Option (Option z_AV × z_Mem) := z_run true ex false zo_X6_keepIfBetter zc_X6_keepIfBetter n pc ls st S
set_option maxRecDepth 100000 in
set_option maxHeartbeats 4000000 in
theorem ze_X6_keepIfBetter_0 (ex : z_Ex) (n : Nat) (S : z_Mem) (i0 : Nat) (v1 : Int32) (v2 : Int32) : zr_X6_keepIfBetter ex (n + 1) 0 [some (.inr (.inr (6, i0))), some (.inl v1), some (.inl v2)] [] S =
 if (S.1 6 i0 5) < v1 then (
  let S1 : z_Mem := z_sI S 6 i0 5 v1
  let S2 : z_Mem := z_sI S1 6 i0 6 v2
  cond (z_rng (0 : Int32) (S2.1 6 i0 3) 6 && z_rng (0 : Int32) (S2.1 6 i0 3) 6) (
  let S3 : z_Mem := z_acI S2 28 i0 (Int32.toNatClampNeg (0 : Int32)) 29 i0 (Int32.toNatClampNeg (0 : Int32)) (Int32.toNatClampNeg (S2.1 6 i0 3))
  some (none, S3)) none)
 else (
  if v1 = (S.1 6 i0 5) then (
   if (S.1 6 i0 6) ≤ v2 then (
    some (none, S))
   else (
    let S4 : z_Mem := z_sI S 6 i0 5 v1
    let S5 : z_Mem := z_sI S4 6 i0 6 v2
    cond (z_rng (0 : Int32) (S5.1 6 i0 3) 6 && z_rng (0 : Int32) (S5.1 6 i0 3) 6) (
    let S6 : z_Mem := z_acI S5 28 i0 (Int32.toNatClampNeg (0 : Int32)) 29 i0 (Int32.toNatClampNeg (0 : Int32)) (Int32.toNatClampNeg (S5.1 6 i0 3))
    some (none, S6)) none))
  else (
   some (none, S))) := rfl
theorem zx_X6_keepIfBetter (d : Nat) (S : z_Mem) (i0 : Nat) (v1 : Int32) (v2 : Int32) : z_exe z_mt true (d + 1) 49 [.inr (.inr (6, i0)), .inl v1, .inl v2] S = zr_X6_keepIfBetter (z_exe z_mt true d) (999999 + 1) 0 [some (.inr (.inr (6, i0))), some (.inl v1), some (.inl v2)] [] S := z_exe_eq (q := (yX6_keepIfBetter, cX6_keepIfBetter, 3, none, false, zo_X6_keepIfBetter, zc_X6_keepIfBetter, 6, 3)) rfl rfl
abbrev zr_X7_copyFrom (ex : z_Ex) (n pc : Nat) (ls : z_Lc) (st : List z_AV) (S : z_Mem) : Option (Option z_AV × z_Mem) := z_run true ex false zo_X7_copyFrom zc_X7_copyFrom n pc ls st S
set_option maxRecDepth 100000 in
set_option maxHeartbeats 4000000 in
theorem ze_X7_copyFrom_0 (ex : z_Ex) (n : Nat) (S : z_Mem) (i0 : Nat) (i1 : Nat) : zr_X7_copyFrom ex (n + 1) 0 [some (.inr (.inr (7, i0))), some (.inr (.inr (7, i1))), none] [] S =
 let S1 : z_Mem := z_sI S 7 i0 1 (S.1 7 i1 1)
 z_rV (ex 67 [.inr (.inr (9, i0)), .inr (.inr (9, i1))] S1) (fun S2 =>
 zr_X7_copyFrom ex n 21 [some (.inr (.inr (7, i0))), some (.inr (.inr (7, i1))), some (.inl (0 : Int32))] [] S2) := rfl
theorem zx_X7_copyFrom (d : Nat) (S : z_Mem) (i0 : Nat) (i1 : Nat) : z_exe z_mt true (d + 1) 51 [.inr (.inr (7, i0)), .inr (.inr (7, i1))] S = zr_X7_copyFrom (z_exe z_mt true d) (999999 + 1) 0 [some (.inr (.inr (7, i0))), some (.inr (.inr (7, i1))), none] [] S := z_exe_eq (q := (yX7_copyFrom, cX7_copyFrom, 3, none, false, zo_X7_copyFrom, zc_X7_copyFrom, 7, 2)) rfl rfl
set_option maxRecDepth 100000 in
set_option maxHeartbeats 4000000 in
theorem ze_X7_copyFrom_21 (ex : z_Ex) (n : Nat) (S : z_Mem) (i0 : Nat) (i1 : Nat) (v2 : Int32) : zr_X7_copyFrom ex (n + 1) 21 [some (.inr (.inr (7, i0))), some (.inr (.inr (7, i1))), some (.inl v2)] [] S =
 if (S.1 7 i0 1) ≤ v2 then (
  some (none, S))
 else (
  cond (z_oob v2 6) none (
  cond (z_oob v2 6) none (
  z_rV (ex 10 [.inr (.inr (2, (6 * i0 + (Int32.toNatClampNeg v2)))), .inr (.inr (2, (6 * i1 + (Int32.toNatClampNeg v2))))] S) (fun S3 =>
  let x4 : Int32 := (v2 + (1 : Int32))
  zr_X7_copyFrom ex n 21 [some (.inr (.inr (7, i0))), some (.inr (.inr (7, i1))), some (.inl x4)] [] S3)))) := rfl
abbrev zr_X7_whoIsAt (ex : z_Ex) (n pc : Nat) (ls : z_Lc) (st : List z_AV) (S : z_Mem) : Option (Option z_AV × z_Mem) := z_run true ex false zo_X7_whoIsAt zc_X7_whoIsAt n pc ls st S
set_option maxRecDepth 100000 in
set_option maxHeartbeats 4000000 in
theorem ze_X7_whoIsAt_0 (ex : z_Ex) (n : Nat) (S : z_Mem) (i0 : Nat) (v1 : Int32) : zr_X7_whoIsAt ex (n + 1) 0 [some (.inr (.inr (7, i0))), some (.inl v1), none] [] S =
 zr_X7_whoIsAt ex n 2 [some (.inr (.inr (7, i0))), some (.inl v1), some (.inl (0 : Int32))] [] S := rfl
theorem zx_X7_whoIsAt (d : Nat) (S : z_Mem) (i0 : Nat) (v1 : Int32) : z_exe z_mt true (d + 1) 52 [.inr (.inr (7, i0)), .inl v1] S = zr_X7_whoIsAt (z_exe z_mt true d) (999999 + 1) 0 [some (.inr (.inr (7, i0))), some (.inl v1), none] [] S := z_exe_eq (q := (yX7_whoIsAt, cX7_whoIsAt, 3, (some .int), false, zo_X7_whoIsAt, zc_X7_whoIsAt, 7, 2)) rfl rfl
set_option maxRecDepth 100000 in
set_option maxHeartbeats 4000000 in
theorem ze_X7_whoIsAt_2 (ex : z_Ex) (n : Nat) (S : z_Mem) (i0 : Nat) (v1 : Int32) (v2 : Int32) : zr_X7_whoIsAt ex (n + 1) 2 [some (.inr (.inr (7, i0))), some (.inl v1), some (.inl v2)] [] S =
 if (S.1 7 i0 1) ≤ v2 then (
  some (some (.inl (-5 : Int32)), S))
 else (
  cond (z_oob v2 6) none (
  if (S.1 2 (6 * i0 + (Int32.toNatClampNeg v2)) 4) = v1 then (
   some (some (.inl v2), S))
  else (
   let x1 : Int32 := (v2 + (1 : Int32))
   zr_X7_whoIsAt ex n 2 [some (.inr (.inr (7, i0))), some (.inl v1), some (.inl x1)] [] S))) := rfl
abbrev zr_X7_freePlace (ex : z_Ex) (n pc : Nat) (ls : z_Lc) (st : List z_AV) (S : z_Mem) : Option (Option z_AV × z_Mem) := z_run true ex false zo_X7_freePlace zc_X7_freePlace n pc ls st S
set_option maxRecDepth 100000 in
set_option maxHeartbeats 4000000 in
theorem ze_X7_freePlace_0 (ex : z_Ex) (n : Nat) (S : z_Mem) (i0 : Nat) : zr_X7_freePlace ex (n + 1) 0 [some (.inr (.inr (7, i0))), none] [] S =
 zr_X7_freePlace ex n 2 [some (.inr (.inr (7, i0))), some (.inl (0 : Int32))] [] S := rfl
theorem zx_X7_freePlace (d : Nat) (S : z_Mem) (i0 : Nat) : z_exe z_mt true (d + 1) 53 [.inr (.inr (7, i0))] S = zr_X7_freePlace (z_exe z_mt true d) (999999 + 1) 0 [some (.inr (.inr (7, i0))), none] [] S := z_exe_eq (q := (yX7_freePlace, cX7_freePlace, 2, (some .int), false, zo_X7_freePlace, zc_X7_freePlace, 7, 1)) rfl rfl
set_option maxRecDepth 100000 in
set_option maxHeartbeats 4000000 in
theorem ze_X7_freePlace_2 (ex : z_Ex) (n : Nat) (S : z_Mem) (i0 : Nat) (v1 : Int32) : zr_X7_freePlace ex (n + 1) 2 [some (.inr (.inr (7, i0))), some (.inl v1)] [] S =
 if (5 : Int32) ≤ v1 then (
  some (some (.inl v1), S))
 else (
  z_rI (ex 52 [.inr (.inr (7, i0)), .inl v1] S) (fun r2 S1 =>
  if r2 < 0 then (
   some (some (.inl v1), S1))
  else (
   let x3 : Int32 := (v1 + (1 : Int32))
   zr_X7_freePlace ex n 2 [some (.inr (.inr (7, i0))), some (.inl x3)] [] S1))) := rfl
abbrev zr_X7_letHourGo (ex : z_Ex) (n pc : Nat) (ls : z_Lc) (st : List z_AV) (S : z_Mem) : Option (Option z_AV × z_Mem) := z_run true ex false zo_X7_letHourGo zc_X7_letHourGo n pc ls st S
set_option maxRecDepth 100000 in
set_option maxHeartbeats 4000000 in
theorem ze_X7_letHourGo_0 (ex : z_Ex) (n : Nat) (S : z_Mem) (i0 : Nat) : zr_X7_letHourGo ex (n + 1) 0 [some (.inr (.inr (7, i0))), none] [] S =
 zr_X7_letHourGo ex n 2 [some (.inr (.inr (7, i0))), some (.inl (0 : Int32))] [] S := rfl
theorem zx_X7_letHourGo (d : Nat) (S : z_Mem) (i0 : Nat) : z_exe z_mt true (d + 1) 54 [.inr (.inr (7, i0))] S = zr_X7_letHourGo (z_exe z_mt true d) (999999 + 1) 0 [some (.inr (.inr (7, i0))), none] [] S := z_exe_eq (q := (yX7_letHourGo, cX7_letHourGo, 2, none, false, zo_X7_letHourGo, zc_X7_letHourGo, 7, 1)) rfl rfl
set_option maxRecDepth 100000 in
set_option maxHeartbeats 4000000 in
theorem ze_X7_letHourGo_2 (ex : z_Ex) (n : Nat) (S : z_Mem) (i0 : Nat) (v1 : Int32) : zr_X7_letHourGo ex (n + 1) 2 [some (.inr (.inr (7, i0))), some (.inl v1)] [] S =
 if (S.1 7 i0 1) ≤ v1 then (
  z_rV (ex 70 [.inr (.inr (9, i0))] S) (fun S1 =>
  some (none, S1)))
 else (
  cond (z_oob v1 6) none (
  z_rV (ex 15 [.inr (.inr (2, (6 * i0 + (Int32.toNatClampNeg v1)))), .inr (.inr (9, i0))] S) (fun S2 =>
  let x3 : Int32 := (v1 + (1 : Int32))
  zr_X7_letHourGo ex n 2 [some (.inr (.inr (7, i0))), some (.inl x3)] [] S2))) := rfl
abbrev zr_X7_letHoursGo (ex : z_Ex) (n pc : Nat) (ls : z_Lc) (st : List z_AV) (S : z_Mem) : Option (Option z_AV × z_Mem) := z_run true ex false zo_X7_letHoursGo zc_X7_letHoursGo n pc ls st S
set_option maxRecDepth 100000 in
set_option maxHeartbeats 4000000 in
theorem ze_X7_letHoursGo_0 (ex : z_Ex) (n : Nat) (S : z_Mem) (i0 : Nat) (v1 : Int32) : zr_X7_letHoursGo ex (n + 1) 0 [some (.inr (.inr (7, i0))), some (.inl v1), none] [] S =
 zr_X7_letHoursGo ex n 2 [some (.inr (.inr (7, i0))), some (.inl v1), some (.inl (0 : Int32))] [] S := rfl
theorem zx_X7_letHoursGo (d : Nat) (S : z_Mem) (i0 : Nat) (v1 : Int32) : z_exe z_mt true (d + 1) 55 [.inr (.inr (7, i0)), .inl v1] S = zr_X7_letHoursGo (z_exe z_mt true d) (999999 + 1) 0 [some (.inr (.inr (7, i0))), some (.inl v1), none] [] S := z_exe_eq (q := (yX7_letHoursGo, cX7_letHoursGo, 3, none, false, zo_X7_letHoursGo, zc_X7_letHoursGo, 7, 2)) rfl rfl
set_option maxRecDepth 100000 in
set_option maxHeartbeats 4000000 in
theorem ze_X7_letHoursGo_2 (ex : z_Ex) (n : Nat) (S : z_Mem) (i0 : Nat) (v1 : Int32) (v2 : Int32) : zr_X7_letHoursGo ex (n + 1) 2 [some (.inr (.inr (7, i0))), some (.inl v1), some (.inl v2)] [] S =
 if v1 ≤ v2 then (
  some (none, S))
 else (
  z_rV (ex 54 [.inr (.inr (7, i0))] S) (fun S1 =>
  let x2 : Int32 := (v2 + (1 : Int32))
  zr_X7_letHoursGo ex n 2 [some (.inr (.inr (7, i0))), some (.inl v1), some (.inl x2)] [] S1)) := rfl
abbrev zr_X7_follow (ex : z_Ex) (n pc : Nat) (ls : z_Lc) (st : List z_AV) (S : z_Mem) : Option (Option z_AV × z_Mem) := z_run true ex false zo_X7_follow zc_X7_follow n pc ls st S
set_option maxRecDepth 100000 in
set_option maxHeartbeats 4000000 in
theorem ze_X7_follow_0 (ex : z_Ex) (n : Nat) (S : z_Mem) (i0 : Nat) (v1 : Int32) (v2 : Int32) : zr_X7_follow ex (n + 1) 0 [some (.inr (.inr (7, i0))), some (.inl v1), some (.inl v2)] [] S =
 if v1 = 0 then (
  z_rV (ex 54 [.inr (.inr (7, i0))] S) (fun S1 =>
  some (none, S1)))
 else (
  if v1 = (1 : Int32) then (
   if (S.1 9 i0 1) ≤ 0 then (
    some (none, S))
   else (
    z_rV (ex 69 [.inr (.inr (9, i0))] S) (fun S2 =>
    some (none, S2))))
  else (
   if v2 < 0 then (
    some (none, S))
   else (
    if (S.1 7 i0 1) ≤ v2 then (
     some (none, S))
    else (
     cond (z_oob v2 6) none (
     if v1 = (2 : Int32) then (
      if (1 : Int32) &&& 1 = (1 : Int32) then
      let S3 : z_Mem := z_sI S 2 (6 * i0 + (Int32.toNatClampNeg v2)) 5 (1 : Int32)
      some (none, S3)
      else none)
     else (
      if (0 : Int32) &&& 1 = (0 : Int32) then
      let S4 : z_Mem := z_sI S 2 (6 * i0 + (Int32.toNatClampNeg v2)) 5 (0 : Int32)
      some (none, S4)
      else none)))))) := rfl
theorem zx_X7_follow (d : Nat) (S : z_Mem) (i0 : Nat) (v1 : Int32) (v2 : Int32) : z_exe z_mt true (d + 1) 56 [.inr (.inr (7, i0)), .inl v1, .inl v2] S = zr_X7_follow (z_exe z_mt true d) (999999 + 1) 0 [some (.inr (.inr (7, i0))), some (.inl v1), some (.inl v2)] [] S := z_exe_eq (q := (yX7_follow, cX7_follow, 3, none, false, zo_X7_follow, zc_X7_follow, 7, 3)) rfl rfl
abbrev zr_X7_wetOfThoseHere (ex : z_Ex) (n pc : Nat) (ls : z_Lc) (st : List z_AV) (S : z_Mem) : Option (Option z_AV × z_Mem) := z_run true ex false zo_X7_wetOfThoseHere zc_X7_wetOfThoseHere n pc ls st S
set_option maxRecDepth 100000 in
set_option maxHeartbeats 4000000 in
theorem ze_X7_wetOfThoseHere_0 (ex : z_Ex) (n : Nat) (S : z_Mem) (i0 : Nat) : zr_X7_wetOfThoseHere ex (n + 1) 0 [some (.inr (.inr (7, i0))), none, none] [] S =
 zr_X7_wetOfThoseHere ex n 4 [some (.inr (.inr (7, i0))), some (.inl (0 : Int32)), some (.inl (0 : Int32))] [] S := rfl
theorem zx_X7_wetOfThoseHere (d : Nat) (S : z_Mem) (i0 : Nat) : z_exe z_mt true (d + 1) 57 [.inr (.inr (7, i0))] S = zr_X7_wetOfThoseHere (z_exe z_mt true d) (999999 + 1) 0 [some (.inr (.inr (7, i0))), none, none] [] S := z_exe_eq (q := (yX7_wetOfThoseHere, cX7_wetOfThoseHere, 3, (some .int), false, zo_X7_wetOfThoseHere, zc_X7_wetOfThoseHere, 7, 1)) rfl rfl
set_option maxRecDepth 100000 in
set_option maxHeartbeats 4000000 in
theorem ze_X7_wetOfThoseHere_4 (ex : z_Ex) (n : Nat) (S : z_Mem) (i0 : Nat) (v1 : Int32) (v2 : Int32) : zr_X7_wetOfThoseHere ex (n + 1) 4 [some (.inr (.inr (7, i0))), some (.inl v1), some (.inl v2)] [] S =
 if (S.1 7 i0 1) ≤ v2 then (
  some (some (.inl v1), S))
 else (
  cond (z_oob v2 6) none (
  if (S.1 2 (6 * i0 + (Int32.toNatClampNeg v2)) 5) = 0 then (
   cond (z_oob v2 6) none (
   let x1 : Int32 := (v1 + (S.1 2 (6 * i0 + (Int32.toNatClampNeg v2)) 3))
   let x2 : Int32 := (v2 + (1 : Int32))
   zr_X7_wetOfThoseHere ex n 4 [some (.inr (.inr (7, i0))), some (.inl x1), some (.inl x2)] [] S))
  else (
   let x3 : Int32 := (v1 + (0 : Int32))
   let x4 : Int32 := (v2 + (1 : Int32))
   zr_X7_wetOfThoseHere ex n 4 [some (.inr (.inr (7, i0))), some (.inl x3), some (.inl x4)] [] S))) := rfl
abbrev zr_X7_cracksOfAll (ex : z_Ex) (n pc : Nat) (ls : z_Lc) (st : List z_AV) (S : z_Mem) : Option (Option z_AV × z_Mem) := z_run true ex false zo_X7_cracksOfAll zc_X7_cracksOfAll n pc ls st S
set_option maxRecDepth 100000 in
set_option maxHeartbeats 4000000 in
theorem ze_X7_cracksOfAll_0 (ex : z_Ex) (n : Nat) (S : z_Mem) (i0 : Nat) : zr_X7_cracksOfAll ex (n + 1) 0 [some (.inr (.inr (7, i0))), none, none] [] S =
 zr_X7_cracksOfAll ex n 4 [some (.inr (.inr (7, i0))), some (.inl (0 : Int32)), some (.inl (0 : Int32))] [] S := rfl
theorem zx_X7_cracksOfAll (d : Nat) (S : z_Mem) (i0 : Nat) : z_exe z_mt true (d + 1) 58 [.inr (.inr (7, i0))] S = zr_X7_cracksOfAll (z_exe z_mt true d) (999999 + 1) 0 [some (.inr (.inr (7, i0))), none, none] [] S := z_exe_eq (q := (yX7_cracksOfAll, cX7_cracksOfAll, 3, (some .int), false, zo_X7_cracksOfAll, zc_X7_cracksOfAll, 7, 1)) rfl rfl
set_option maxRecDepth 100000 in
set_option maxHeartbeats 4000000 in
theorem ze_X7_cracksOfAll_4 (ex : z_Ex) (n : Nat) (S : z_Mem) (i0 : Nat) (v1 : Int32) (v2 : Int32) : zr_X7_cracksOfAll ex (n + 1) 4 [some (.inr (.inr (7, i0))), some (.inl v1), some (.inl v2)] [] S =
 if (S.1 7 i0 1) ≤ v2 then (
  some (some (.inl v1), S))
 else (
  cond (z_oob v2 6) none (
  let x1 : Int32 := (v1 + (S.1 2 (6 * i0 + (Int32.toNatClampNeg v2)) 6))
  let x2 : Int32 := (v2 + (1 : Int32))
  zr_X7_cracksOfAll ex n 4 [some (.inr (.inr (7, i0))), some (.inl x1), some (.inl x2)] [] S)) := rfl
abbrev zr_X7_dryOfThoseHere (ex : z_Ex) (n pc : Nat) (ls : z_Lc) (st : List z_AV) (S : z_Mem) : Option (Option z_AV × z_Mem) := z_run true ex false zo_X7_dryOfThoseHere zc_X7_dryOfThoseHere n pc ls st S
set_option maxRecDepth 100000 in
set_option maxHeartbeats 4000000 in
theorem ze_X7_dryOfThoseHere_0 (ex : z_Ex) (n : Nat) (S : z_Mem) (i0 : Nat) : zr_X7_dryOfThoseHere ex (n + 1) 0 [some (.inr (.inr (7, i0))), none, none] [] S =
 zr_X7_dryOfThoseHere ex n 4 [some (.inr (.inr (7, i0))), some (.inl (0 : Int32)), some (.inl (0 : Int32))] [] S := rfl
theorem zx_X7_dryOfThoseHere (d : Nat) (S : z_Mem) (i0 : Nat) : z_exe z_mt true (d + 1) 59 [.inr (.inr (7, i0))] S = zr_X7_dryOfThoseHere (z_exe z_mt true d) (999999 + 1) 0 [some (.inr (.inr (7, i0))), none, none] [] S := z_exe_eq (q := (yX7_dryOfThoseHere, cX7_dryOfThoseHere, 3, (some .int), false, zo_X7_dryOfThoseHere, zc_X7_dryOfThoseHere, 7, 1)) rfl rfl
set_option maxRecDepth 100000 in
set_option maxHeartbeats 4000000 in
theorem ze_X7_dryOfThoseHere_4 (ex : z_Ex) (n : Nat) (S : z_Mem) (i0 : Nat) (v1 : Int32) (v2 : Int32) : zr_X7_dryOfThoseHere ex (n + 1) 4 [some (.inr (.inr (7, i0))), some (.inl v1), some (.inl v2)] [] S =
 if (S.1 7 i0 1) ≤ v2 then (
  some (some (.inl v1), S))
 else (
  cond (z_oob v2 6) none (
  if (S.1 2 (6 * i0 + (Int32.toNatClampNeg v2)) 5) = 0 then (
   cond (z_oob v2 6) none (
   if (S.1 2 (6 * i0 + (Int32.toNatClampNeg v2)) 3) = 0 then (
    let x1 : Int32 := (v1 + (1 : Int32))
    let x2 : Int32 := (v2 + (1 : Int32))
    zr_X7_dryOfThoseHere ex n 4 [some (.inr (.inr (7, i0))), some (.inl x1), some (.inl x2)] [] S)
   else (
    let x3 : Int32 := (v1 + (0 : Int32))
    let x4 : Int32 := (v2 + (1 : Int32))
    zr_X7_dryOfThoseHere ex n 4 [some (.inr (.inr (7, i0))), some (.inl x3), some (.inl x4)] [] S)))
  else (
   let x5 : Int32 := (v1 + (0 : Int32))
   let x6 : Int32 := (v2 + (1 : Int32))
   zr_X7_dryOfThoseHere ex n 4 [some (.inr (.inr (7, i0))), some (.inl x5), some (.inl x6)] [] S))) := rfl
abbrev zr_X7_dryBits (ex : z_Ex) (n pc : Nat) (ls : z_Lc) (st : List z_AV) (S : z_Mem) : Option (Option z_AV × z_Mem) := z_run true ex false zo_X7_dryBits zc_X7_dryBits n pc ls st S
set_option maxRecDepth 100000 in
set_option maxHeartbeats 4000000 in
theorem ze_X7_dryBits_0 (ex : z_Ex) (n : Nat) (S : z_Mem) (i0 : Nat) : zr_X7_dryBits ex (n + 1) 0 [some (.inr (.inr (7, i0))), none, none] [] S =
 zr_X7_dryBits ex n 4 [some (.inr (.inr (7, i0))), some (.inl (0 : Int32)), some (.inl (0 : Int32))] [] S := rfl
theorem zx_X7_dryBits (d : Nat) (S : z_Mem) (i0 : Nat) : z_exe z_mt true (d + 1) 60 [.inr (.inr (7, i0))] S = zr_X7_dryBits (z_exe z_mt true d) (999999 + 1) 0 [some (.inr (.inr (7, i0))), none, none] [] S := z_exe_eq (q := (yX7_dryBits, cX7_dryBits, 3, (some .int), false, zo_X7_dryBits, zc_X7_dryBits, 7, 1)) rfl rfl
set_option maxRecDepth 100000 in
set_option maxHeartbeats 4000000 in
theorem ze_X7_dryBits_4 (ex : z_Ex) (n : Nat) (S : z_Mem) (i0 : Nat) (v1 : Int32) (v2 : Int32) : zr_X7_dryBits ex (n + 1) 4 [some (.inr (.inr (7, i0))), some (.inl v1), some (.inl v2)] [] S =
 if (S.1 7 i0 1) ≤ v2 then (
  some (some (.inl v1), S))
 else (
  cond (z_oob v2 6) none (
  if (S.1 2 (6 * i0 + (Int32.toNatClampNeg v2)) 3) = 0 then (
   let x1 : Int32 := (v1 ||| ((1 : Int32) <<< (v2 &&& 31)))
   let x2 : Int32 := (v2 + (1 : Int32))
   zr_X7_dryBits ex n 4 [some (.inr (.inr (7, i0))), some (.inl x1), some (.inl x2)] [] S)
  else (
   let x3 : Int32 := (v1 ||| (0 : Int32))
   let x4 : Int32 := (v2 + (1 : Int32))
   zr_X7_dryBits ex n 4 [some (.inr (.inr (7, i0))), some (.inl x3), some (.inl x4)] [] S))) := rfl
abbrev zr_X8_isFull (ex : z_Ex) (n pc : Nat) (ls : z_Lc) (st : List z_AV) (S : z_Mem) : Option (Option z_AV × z_Mem) := z_run true ex true zo_X8_isFull zc_X8_isFull n pc ls st S
set_option maxRecDepth 100000 in
set_option maxHeartbeats 4000000 in
theorem ze_X8_isFull_0 (ex : z_Ex) (n : Nat) (S : z_Mem) (i0 : Nat) : zr_X8_isFull ex (n + 1) 0 [some (.inr (.inr (8, i0)))] [] S =
 if (S.1 8 i0 3) < (Int32.ofNat (z_rl i0)) then (
  some (some (.inl (0 : Int32)), S))
 else (
  some (some (.inl (1 : Int32)), S)) := rfl
theorem zx_X8_isFull (d : Nat) (S : z_Mem) (i0 : Nat) : z_exe z_mt true (d + 1) 62 [.inr (.inr (8, i0))] S = zr_X8_isFull (z_exe z_mt true d) (999999 + 1) 0 [some (.inr (.inr (8, i0)))] [] S := z_exe_eq (q := (yX8_isFull, cX8_isFull, 1, (some .boolean), true, zo_X8_isFull, zc_X8_isFull, 8, 1)) rfl rfl
abbrev zr_X8_append (ex : z_Ex) (n pc : Nat) (ls : z_Lc) (st : List z_AV) (S : z_Mem) : Option (Option z_AV × z_Mem) := z_run true ex false zo_X8_append zc_X8_append n pc ls st S
set_option maxRecDepth 100000 in
set_option maxHeartbeats 4000000 in
theorem ze_X8_append_0 (ex : z_Ex) (n : Nat) (S : z_Mem) (i0 : Nat) (v1 : Int32) (v2 : Int32) (v3 : Int32) : zr_X8_append ex (n + 1) 0 [some (.inr (.inr (8, i0))), some (.inl v1), some (.inl v2), some (.inl v3)] [] S =
 z_rI (ex 62 [.inr (.inr (8, i0))] S) (fun r2 S1 =>
 if r2 = 0 then (
  cond (z_oob (S1.1 8 i0 3) (z_rl i0)) none (
  let S3 : z_Mem := z_sI S1 31 i0 (Int32.toNatClampNeg (S1.1 8 i0 3)) v1
  cond (z_oob (S3.1 8 i0 3) (z_rl i0)) none (
  let S4 : z_Mem := z_sI S3 32 i0 (Int32.toNatClampNeg (S3.1 8 i0 3)) v2
  cond (z_oob (S4.1 8 i0 3) (z_rl i0)) none (
  let S5 : z_Mem := z_sI S4 33 i0 (Int32.toNatClampNeg (S4.1 8 i0 3)) v3
  let S6 : z_Mem := z_sI S5 8 i0 3 ((S5.1 8 i0 3) + (1 : Int32))
  some (some (.inl (S6.1 8 i0 3)), S6)))))
 else (
  some (some (.inl (S1.1 8 i0 3)), S1))) := rfl
theorem zx_X8_append (d : Nat) (S : z_Mem) (i0 : Nat) (v1 : Int32) (v2 : Int32) (v3 : Int32) : z_exe z_mt true (d + 1) 63 [.inr (.inr (8, i0)), .inl v1, .inl v2, .inl v3] S = zr_X8_append (z_exe z_mt true d) (999999 + 1) 0 [some (.inr (.inr (8, i0))), some (.inl v1), some (.inl v2), some (.inl v3)] [] S := z_exe_eq (q := (yX8_append, cX8_append, 4, (some .int), false, zo_X8_append, zc_X8_append, 8, 4)) rfl rfl
abbrev zr_X8_copyFrom (ex : z_Ex) (n pc : Nat) (ls : z_Lc) (st : List z_AV) (S : z_Mem) : Option (Option z_AV × z_Mem) := z_run true ex false zo_X8_copyFrom zc_X8_copyFrom n pc ls st S
set_option maxRecDepth 100000 in
set_option maxHeartbeats 4000000 in
theorem ze_X8_copyFrom_0 (ex : z_Ex) (n : Nat) (S : z_Mem) (i0 : Nat) (i1 : Nat) : zr_X8_copyFrom ex (n + 1) 0 [some (.inr (.inr (8, i0))), some (.inr (.inr (8, i1)))] [] S =
 let S1 : z_Mem := z_sI S 8 i0 3 (S.1 8 i1 3)
 cond (z_rng (0 : Int32) (S1.1 8 i0 3) (z_rl i1) && z_rng (0 : Int32) (S1.1 8 i0 3) (z_rl i0)) (
 let S2 : z_Mem := z_acI S1 31 i1 (Int32.toNatClampNeg (0 : Int32)) 31 i0 (Int32.toNatClampNeg (0 : Int32)) (Int32.toNatClampNeg (S1.1 8 i0 3))
 cond (z_rng (0 : Int32) (S2.1 8 i0 3) (z_rl i1) && z_rng (0 : Int32) (S2.1 8 i0 3) (z_rl i0)) (
 let S3 : z_Mem := z_acI S2 32 i1 (Int32.toNatClampNeg (0 : Int32)) 32 i0 (Int32.toNatClampNeg (0 : Int32)) (Int32.toNatClampNeg (S2.1 8 i0 3))
 cond (z_rng (0 : Int32) (S3.1 8 i0 3) (z_rl i1) && z_rng (0 : Int32) (S3.1 8 i0 3) (z_rl i0)) (
 let S4 : z_Mem := z_acI S3 33 i1 (Int32.toNatClampNeg (0 : Int32)) 33 i0 (Int32.toNatClampNeg (0 : Int32)) (Int32.toNatClampNeg (S3.1 8 i0 3))
 some (none, S4)) none) none) none := rfl
theorem zx_X8_copyFrom (d : Nat) (S : z_Mem) (i0 : Nat) (i1 : Nat) : z_exe z_mt true (d + 1) 64 [.inr (.inr (8, i0)), .inr (.inr (8, i1))] S = zr_X8_copyFrom (z_exe z_mt true d) (999999 + 1) 0 [some (.inr (.inr (8, i0))), some (.inr (.inr (8, i1)))] [] S := z_exe_eq (q := (yX8_copyFrom, cX8_copyFrom, 2, none, false, zo_X8_copyFrom, zc_X8_copyFrom, 8, 2)) rfl rfl
abbrev zr_X8_mostThirdOf (ex : z_Ex) (n pc : Nat) (ls : z_Lc) (st : List z_AV) (S : z_Mem) : Option (Option z_AV × z_Mem) := z_run true ex false zo_X8_mostThirdOf zc_X8_mostThirdOf n pc ls st S
set_option maxRecDepth 100000 in
set_option maxHeartbeats 4000000 in
theorem ze_X8_mostThirdOf_0 (ex : z_Ex) (n : Nat) (S : z_Mem) (i0 : Nat) (v1 : Int32) : zr_X8_mostThirdOf ex (n + 1) 0 [some (.inr (.inr (8, i0))), some (.inl v1), none, none] [] S =
 zr_X8_mostThirdOf ex n 4 [some (.inr (.inr (8, i0))), some (.inl v1), some (.inl (-1 : Int32)), some (.inl (0 : Int32))] [] S := rfl
theorem zx_X8_mostThirdOf (d : Nat) (S : z_Mem) (i0 : Nat) (v1 : Int32) : z_exe z_mt true (d + 1) 65 [.inr (.inr (8, i0)), .inl v1] S = zr_X8_mostThirdOf (z_exe z_mt true d) (999999 + 1) 0 [some (.inr (.inr (8, i0))), some (.inl v1), none, none] [] S := z_exe_eq (q := (yX8_mostThirdOf, cX8_mostThirdOf, 4, (some .int), false, zo_X8_mostThirdOf, zc_X8_mostThirdOf, 8, 2)) rfl rfl
set_option maxRecDepth 100000 in
set_option maxHeartbeats 4000000 in
theorem ze_X8_mostThirdOf_4 (ex : z_Ex) (n : Nat) (S : z_Mem) (i0 : Nat) (v1 : Int32) (v2 : Int32) (v3 : Int32) : zr_X8_mostThirdOf ex (n + 1) 4 [some (.inr (.inr (8, i0))), some (.inl v1), some (.inl v2), some (.inl v3)] [] S =
 if (S.1 8 i0 3) ≤ v3 then (
  some (some (.inl v2), S))
 else (
  cond (z_oob v3 (z_rl i0)) none (
  if (S.1 31 i0 (Int32.toNatClampNeg v3)) = v1 then (
   cond (z_oob v3 (z_rl i0)) none (
   let x1 : Int32 := (if v2 < (S.1 33 i0 (Int32.toNatClampNeg v3)) then (S.1 33 i0 (Int32.toNatClampNeg v3)) else v2)
   let x2 : Int32 := (v3 + (1 : Int32))
   zr_X8_mostThirdOf ex n 4 [some (.inr (.inr (8, i0))), some (.inl v1), some (.inl x1), some (.inl x2)] [] S))
  else (
   let x3 : Int32 := (v3 + (1 : Int32))
   zr_X8_mostThirdOf ex n 4 [some (.inr (.inr (8, i0))), some (.inl v1), some (.inl v2), some (.inl x3)] [] S))) := rfl
abbrev zr_X9_copyFrom (ex : z_Ex) (n pc : Nat) (ls : z_Lc) (st : List z_AV) (S : z_Mem) : Option (Option z_AV × z_Mem) := z_run true ex false zo_X9_copyFrom zc_X9_copyFrom n pc ls st S
set_option maxRecDepth 100000 in
set_option maxHeartbeats 4000000 in
theorem ze_X9_copyFrom_0 (ex : z_Ex) (n : Nat) (S : z_Mem) (i0 : Nat) (i1 : Nat) : zr_X9_copyFrom ex (n + 1) 0 [some (.inr (.inr (9, i0))), some (.inr (.inr (9, i1)))] [] S =
 let S1 : z_Mem := z_sI S 9 i0 0 (S.1 9 i1 0)
 let S2 : z_Mem := z_sI S1 9 i0 1 (S1.1 9 i1 1)
 let S3 : z_Mem := z_sI S2 9 i0 2 (S2.1 9 i1 2)
 let S4 : z_Mem := z_sR S3 9 i0 3 (4, (S3.2.2.1 9 i1 3).2)
 some (none, S4) := rfl
theorem zx_X9_copyFrom (d : Nat) (S : z_Mem) (i0 : Nat) (i1 : Nat) : z_exe z_mt true (d + 1) 67 [.inr (.inr (9, i0)), .inr (.inr (9, i1))] S = zr_X9_copyFrom (z_exe z_mt true d) (999999 + 1) 0 [some (.inr (.inr (9, i0))), some (.inr (.inr (9, i1)))] [] S := z_exe_eq (q := (yX9_copyFrom, cX9_copyFrom, 2, none, false, zo_X9_copyFrom, zc_X9_copyFrom, 9, 2)) rfl rfl
abbrev zr_X9_warmAt (ex : z_Ex) (n pc : Nat) (ls : z_Lc) (st : List z_AV) (S : z_Mem) : Option (Option z_AV × z_Mem) := z_run true ex false zo_X9_warmAt zc_X9_warmAt n pc ls st S
set_option maxRecDepth 100000 in
set_option maxHeartbeats 4000000 in
theorem ze_X9_warmAt_0 (ex : z_Ex) (n : Nat) (S : z_Mem) (i0 : Nat) (v1 : Int32) : zr_X9_warmAt ex (n + 1) 0 [some (.inr (.inr (9, i0))), some (.inl v1)] [] S =
 some (some (.inl (if (0 : Int32) < ((S.1 9 i0 0) - ((3 : Int32) * v1)) then ((S.1 9 i0 0) - ((3 : Int32) * v1)) else (0 : Int32))), S) := rfl
theorem zx_X9_warmAt (d : Nat) (S : z_Mem) (i0 : Nat) (v1 : Int32) : z_exe z_mt true (d + 1) 68 [.inr (.inr (9, i0)), .inl v1] S = zr_X9_warmAt (z_exe z_mt true d) (999999 + 1) 0 [some (.inr (.inr (9, i0))), some (.inl v1)] [] S := z_exe_eq (q := (yX9_warmAt, cX9_warmAt, 2, (some .int), false, zo_X9_warmAt, zc_X9_warmAt, 9, 2)) rfl rfl
abbrev zr_X9_burnLog (ex : z_Ex) (n pc : Nat) (ls : z_Lc) (st : List z_AV) (S : z_Mem) : Option (Option z_AV × z_Mem) := z_run true ex false zo_X9_burnLog zc_X9_burnLog n pc ls st S
set_option maxRecDepth 100000 in
set_option maxHeartbeats 4000000 in
theorem ze_X9_burnLog_0 (ex : z_Ex) (n : Nat) (S : z_Mem) (i0 : Nat) : zr_X9_burnLog ex (n + 1) 0 [some (.inr (.inr (9, i0)))] [] S =
 let S1 : z_Mem := z_sI S 9 i0 1 ((S.1 9 i0 1) - (1 : Int32))
 let S2 : z_Mem := z_sI S1 9 i0 0 (if ((S1.1 9 i0 0) + (S1.1 4 (S1.2.2.1 9 i0 3).2 1)) < (30 : Int32) then ((S1.1 9 i0 0) + (S1.1 4 (S1.2.2.1 9 i0 3).2 1)) else (30 : Int32))
 some (none, S2) := rfl
theorem zx_X9_burnLog (d : Nat) (S : z_Mem) (i0 : Nat) : z_exe z_mt true (d + 1) 69 [.inr (.inr (9, i0))] S = zr_X9_burnLog (z_exe z_mt true d) (999999 + 1) 0 [some (.inr (.inr (9, i0)))] [] S := z_exe_eq (q := (yX9_burnLog, cX9_burnLog, 1, none, false, zo_X9_burnLog, zc_X9_burnLog, 9, 1)) rfl rfl
abbrev zr_X9_letHourGo (ex : z_Ex) (n pc : Nat) (ls : z_Lc) (st : List z_AV) (S : z_Mem) : Option (Option z_AV × z_Mem) := z_run true ex false zo_X9_letHourGo zc_X9_letHourGo n pc ls st S
set_option maxRecDepth 100000 in
set_option maxHeartbeats 4000000 in
theorem ze_X9_letHourGo_0 (ex : z_Ex) (n : Nat) (S : z_Mem) (i0 : Nat) : zr_X9_letHourGo ex (n + 1) 0 [some (.inr (.inr (9, i0)))] [] S =
 let S1 : z_Mem := z_sI S 9 i0 0 (if (0 : Int32) < ((S.1 9 i0 0) - (S.1 4 (S.2.2.1 9 i0 3).2 0)) then ((S.1 9 i0 0) - (S.1 4 (S.2.2.1 9 i0 3).2 0)) else (0 : Int32))
 let S2 : z_Mem := z_sI S1 9 i0 2 ((S1.1 9 i0 2) + (1 : Int32))
 some (none, S2) := rfl
theorem zx_X9_letHourGo (d : Nat) (S : z_Mem) (i0 : Nat) : z_exe z_mt true (d + 1) 70 [.inr (.inr (9, i0))] S = zr_X9_letHourGo (z_exe z_mt true d) (999999 + 1) 0 [some (.inr (.inr (9, i0)))] [] S := z_exe_eq (q := (yX9_letHourGo, cX9_letHourGo, 1, none, false, zo_X9_letHourGo, zc_X9_letHourGo, 9, 1)) rfl rfl
abbrev zr_X10_become (ex : z_Ex) (n pc : Nat) (ls : z_Lc) (st : List z_AV) (S : z_Mem) : Option (Option z_AV × z_Mem) := z_run true ex false zo_X10_become zc_X10_become n pc ls st S
set_option maxRecDepth 100000 in
set_option maxHeartbeats 4000000 in
theorem ze_X10_become_0 (ex : z_Ex) (n : Nat) (S : z_Mem) (i0 : Nat) (v1 : Int32) (v2 : Int32) : zr_X10_become ex (n + 1) 0 [some (.inr (.inr (10, i0))), some (.inl v1), some (.inl v2)] [] S =
 let S1 : z_Mem := z_sI S 10 i0 0 v1
 let S2 : z_Mem := z_sI S1 10 i0 1 v2
 z_rV (ex 229 [.inr (.inr (34, i0)), .inr (.inl (Int64.ofNat 0))] S2) (fun S3 =>
 some (none, S3)) := rfl
theorem zx_X10_become (d : Nat) (S : z_Mem) (i0 : Nat) (v1 : Int32) (v2 : Int32) : z_exe z_mt true (d + 1) 72 [.inr (.inr (10, i0)), .inl v1, .inl v2] S = zr_X10_become (z_exe z_mt true d) (999999 + 1) 0 [some (.inr (.inr (10, i0))), some (.inl v1), some (.inl v2)] [] S := z_exe_eq (q := (yX10_become, cX10_become, 3, none, false, zo_X10_become, zc_X10_become, 10, 3)) rfl rfl
abbrev zr_X10_holds (ex : z_Ex) (n pc : Nat) (ls : z_Lc) (st : List z_AV) (S : z_Mem) : Option (Option z_AV × z_Mem) := z_run true ex true zo_X10_holds zc_X10_holds n pc ls st S
set_option maxRecDepth 100000 in
set_option maxHeartbeats 4000000 in
theorem ze_X10_holds_0 (ex : z_Ex) (n : Nat) (S : z_Mem) (i0 : Nat) (v1 : Int32) (v2 : Int32) : zr_X10_holds ex (n + 1) 0 [some (.inr (.inr (10, i0))), some (.inl v1), some (.inl v2)] [] S =
 if v1 < 0 then (
  some (some (.inl (0 : Int32)), S))
 else (
  if v2 < 0 then (
   some (some (.inl (0 : Int32)), S))
  else (
   if (S.1 10 i0 1) < v2 then (
    some (some (.inl (0 : Int32)), S))
   else (
    if ((S.1 10 i0 1) - v2) < v1 then (
     some (some (.inl (0 : Int32)), S))
    else (
     some (some (.inl (1 : Int32)), S))))) := rfl
theorem zx_X10_holds (d : Nat) (S : z_Mem) (i0 : Nat) (v1 : Int32) (v2 : Int32) : z_exe z_mt true (d + 1) 73 [.inr (.inr (10, i0)), .inl v1, .inl v2] S = zr_X10_holds (z_exe z_mt true d) (999999 + 1) 0 [some (.inr (.inr (10, i0))), some (.inl v1), some (.inl v2)] [] S := z_exe_eq (q := (yX10_holds, cX10_holds, 3, (some .boolean), true, zo_X10_holds, zc_X10_holds, 10, 3)) rfl rfl
abbrev zr_X10_narrowed (ex : z_Ex) (n pc : Nat) (ls : z_Lc) (st : List z_AV) (S : z_Mem) : Option (Option z_AV × z_Mem) := z_run true ex false zo_X10_narrowed zc_X10_narrowed n pc ls st S
set_option maxRecDepth 100000 in
set_option maxHeartbeats 4000000 in
theorem ze_X10_narrowed_0 (ex : z_Ex) (n : Nat) (S : z_Mem) (i0 : Nat) (w1 : Int64) : zr_X10_narrowed ex (n + 1) 0 [some (.inr (.inr (10, i0))), some (.inr (.inl w1)), none] [] S =
 if (S.1 10 i0 0) = (0 : Int32) then (
  some (some (.inr (.inl (Int32.toInt64 (Int8.toInt32 (Int32.toInt8 (Int64.toInt32 w1)))))), S)) else
 if (S.1 10 i0 0) = (1 : Int32) then (
  some (some (.inr (.inl (Int32.toInt64 (Int16.toInt32 (Int32.toInt16 (Int64.toInt32 w1)))))), S)) else
 if (S.1 10 i0 0) = (2 : Int32) then (
  some (some (.inr (.inl (Int32.toInt64 (Int64.toInt32 w1)))), S)) else
 if (S.1 10 i0 0) = (3 : Int32) then (
  some (some (.inr (.inl w1)), S)) else
 if (lg_cmp w1 (Int64.ofNat 0)) = 0 then (
  some (some (.inr (.inl (Int64.ofNat 0))), S))
 else (
  some (some (.inr (.inl (Int64.ofNat 1))), S)) := rfl
theorem zx_X10_narrowed (d : Nat) (S : z_Mem) (i0 : Nat) (w1 : Int64) : z_exe z_mt true (d + 1) 74 [.inr (.inr (10, i0)), .inr (.inl w1)] S = zr_X10_narrowed (z_exe z_mt true d) (999999 + 1) 0 [some (.inr (.inr (10, i0))), some (.inr (.inl w1)), none] [] S := z_exe_eq (q := (yX10_narrowed, cX10_narrowed, 3, (some .long), false, zo_X10_narrowed, zc_X10_narrowed, 10, 2)) rfl rfl
abbrev zr_J6_bitCount_0f7a4 (ex : z_Ex) (n pc : Nat) (ls : z_Lc) (st : List z_AV) (S : z_Mem) : Option (Option z_AV × z_Mem) := z_run true ex false zo_J6_bitCount_0f7a4 zc_J6_bitCount_0f7a4 n pc ls st S
set_option maxRecDepth 100000 in
set_option maxHeartbeats 4000000 in
theorem ze_J6_bitCount_0f7a4_0 (ex : z_Ex) (n : Nat) (S : z_Mem) (v0 : Int32) : zr_J6_bitCount_0f7a4 ex (n + 1) 0 [some (.inl v0)] [] S =
 let x1 : Int32 := (v0 - (((v0.toUInt32 >>> ((1 : Int32).toUInt32 &&& Int32.toUInt32 31)).toInt32) &&& (1431655765 : Int32)))
 let x2 : Int32 := ((x1 &&& (858993459 : Int32)) + (((x1.toUInt32 >>> ((2 : Int32).toUInt32 &&& Int32.toUInt32 31)).toInt32) &&& (858993459 : Int32)))
 let x3 : Int32 := ((x2 + ((x2.toUInt32 >>> ((4 : Int32).toUInt32 &&& Int32.toUInt32 31)).toInt32)) &&& (252645135 : Int32))
 let x4 : Int32 := (x3 + ((x3.toUInt32 >>> ((8 : Int32).toUInt32 &&& Int32.toUInt32 31)).toInt32))
 let x5 : Int32 := (x4 + ((x4.toUInt32 >>> ((16 : Int32).toUInt32 &&& Int32.toUInt32 31)).toInt32))
 some (some (.inl (x5 &&& (63 : Int32))), S) := rfl
theorem zx_J6_bitCount_0f7a4 (d : Nat) (S : z_Mem) (v0 : Int32) : z_exe z_mt true (d + 1) 228 [.inl v0] S = zr_J6_bitCount_0f7a4 (z_exe z_mt true d) (999999 + 1) 0 [some (.inl v0)] [] S := z_exe_eq (q := (yJ6_bitCount_0f7a4, cJ6_bitCount_0f7a4, 1, (some .int), false, zo_J6_bitCount_0f7a4, zc_J6_bitCount_0f7a4, 0, 1)) rfl rfl
abbrev zr_J7_fill_d0a16 (ex : z_Ex) (n pc : Nat) (ls : z_Lc) (st : List z_AV) (S : z_Mem) : Option (Option z_AV × z_Mem) := z_run true ex false zo_J7_fill_d0a16 zc_J7_fill_d0a16 n pc ls st S
set_option maxRecDepth 100000 in
set_option maxHeartbeats 4000000 in
theorem ze_J7_fill_d0a16_0 (ex : z_Ex) (n : Nat) (S : z_Mem) (i0 : Nat) (w1 : Int64) : zr_J7_fill_d0a16 ex (n + 1) 0 [some (.inr (.inr (34, i0))), some (.inr (.inl w1)), none, none, none] [] S =
 let x1 : Int32 := (Int32.ofNat 60)
 zr_J7_fill_d0a16 ex n 6 [some (.inr (.inr (34, i0))), some (.inr (.inl w1)), none, some (.inl (0 : Int32)), some (.inl x1)] [] S := rfl
theorem zx_J7_fill_d0a16 (d : Nat) (S : z_Mem) (i0 : Nat) (w1 : Int64) : z_exe z_mt true (d + 1) 229 [.inr (.inr (34, i0)), .inr (.inl w1)] S = zr_J7_fill_d0a16 (z_exe z_mt true d) (999999 + 1) 0 [some (.inr (.inr (34, i0))), some (.inr (.inl w1)), none, none, none] [] S := z_exe_eq (q := (yJ7_fill_d0a16, cJ7_fill_d0a16, 5, none, false, zo_J7_fill_d0a16, zc_J7_fill_d0a16, 0, 2)) rfl rfl
set_option maxRecDepth 100000 in
set_option maxHeartbeats 4000000 in
theorem ze_J7_fill_d0a16_6 (ex : z_Ex) (n : Nat) (S : z_Mem) (i0 : Nat) (w1 : Int64) (v3 : Int32) (v4 : Int32) : zr_J7_fill_d0a16 ex (n + 1) 6 [some (.inr (.inr (34, i0))), some (.inr (.inl w1)), none, some (.inl v3), some (.inl v4)] [] S =
 if v4 ≤ v3 then (
  some (none, S))
 else (
  cond (z_oob v3 60) none (
  let S2 : z_Mem := z_sL S 34 i0 (Int32.toNatClampNeg v3) w1
  let x3 : Int32 := (v3 + (1 : Int32))
  zr_J7_fill_d0a16 ex n 6 [some (.inr (.inr (34, i0))), some (.inr (.inl w1)), none, some (.inl x3), some (.inl v4)] [] S2)) := rfl
abbrev zr_J7_fill_53178 (ex : z_Ex) (n pc : Nat) (ls : z_Lc) (st : List z_AV) (S : z_Mem) : Option (Option z_AV × z_Mem) := z_run true ex false zo_J7_fill_53178 zc_J7_fill_53178 n pc ls st S
set_option maxRecDepth 100000 in
set_option maxHeartbeats 4000000 in
theorem ze_J7_fill_53178_0 (ex : z_Ex) (n : Nat) (S : z_Mem) (i0 : Nat) (v1 : Int32) : zr_J7_fill_53178 ex (n + 1) 0 [some (.inr (.inr (21, i0))), some (.inl v1), none, none] [] S =
 let x1 : Int32 := (Int32.ofNat 4)
 zr_J7_fill_53178 ex n 5 [some (.inr (.inr (21, i0))), some (.inl v1), some (.inl (0 : Int32)), some (.inl x1)] [] S := rfl
theorem zx_J7_fill_53178 (d : Nat) (S : z_Mem) (i0 : Nat) (v1 : Int32) : z_exe z_mt true (d + 1) 230 [.inr (.inr (21, i0)), .inl v1] S = zr_J7_fill_53178 (z_exe z_mt true d) (999999 + 1) 0 [some (.inr (.inr (21, i0))), some (.inl v1), none, none] [] S := z_exe_eq (q := (yJ7_fill_53178, cJ7_fill_53178, 4, none, false, zo_J7_fill_53178, zc_J7_fill_53178, 0, 2)) rfl rfl
set_option maxRecDepth 100000 in
set_option maxHeartbeats 4000000 in
theorem ze_J7_fill_53178_5 (ex : z_Ex) (n : Nat) (S : z_Mem) (i0 : Nat) (v1 : Int32) (v2 : Int32) (v3 : Int32) : zr_J7_fill_53178 ex (n + 1) 5 [some (.inr (.inr (21, i0))), some (.inl v1), some (.inl v2), some (.inl v3)] [] S =
 if v3 ≤ v2 then (
  some (none, S))
 else (
  cond (z_oob v2 4) none (
  let S2 : z_Mem := z_sI S 21 i0 (Int32.toNatClampNeg v2) v1
  let x3 : Int32 := (v2 + (1 : Int32))
  zr_J7_fill_53178 ex n 5 [some (.inr (.inr (21, i0))), some (.inl v1), some (.inl x3), some (.inl v3)] [] S2)) := rfl
