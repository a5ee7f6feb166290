abbrev zr_X12_goHour (ex : z_Ex) (n pc : Nat) (ls : z_Lc) (st : List z_AV) (S : z_Mem) : Option (Option z_AV × z_Mem) := z_run true ex false zo_X12_goHour zc_X12_goHour n pc ls st S
set_option maxRecDepth 100000 in
set_option maxHeartbeats 4000000 in
theorem ze_X12_goHour_0 (ex : z_Ex) (n : Nat) (S : z_Mem) (i0 : Nat) : zr_X12_goHour ex (n + 1) 0 [some (.inr (.inr (12, i0))), none, none] [] S =
 zr_X12_goHour ex n 2 [some (.inr (.inr (12, i0))), some (.inl (0 : Int32)), none] [] S := rfl
theorem zx_X12_goHour (d : Nat) (S : z_Mem) (i0 : Nat) : z_exe z_mt true (d + 1) 175 [.inr (.inr (12, i0))] S = zr_X12_goHour (z_exe z_mt true d) (999999 + 1) 0 [some (.inr (.inr (12, i0))), none, none] [] S := z_exe_eq (q := (yX12_goHour, cX12_goHour, 3, none, false, zo_X12_goHour, zc_X12_goHour, 12, 1)) rfl rfl
set_option maxRecDepth 100000 in
set_option maxHeartbeats 4000000 in
theorem ze_X12_goHour_2 (ex : z_Ex) (n : Nat) (S : z_Mem) (i0 : Nat) (v1 : Int32) : zr_X12_goHour ex (n + 1) 2 [some (.inr (.inr (12, i0))), some (.inl v1), none] [] S =
 if (S.1 12 i0 0) ≤ v1 then (
  z_rI (ex 161 [.inr (.inr (12, i0)), .inl (2 : Int32), .inl (1 : Int32)] S) (fun r2 S1 =>
  z_rI (ex 127 [.inr (.inr (12, i0)), .inl ((S.1 12 i0 2) - r2)] S1) (fun r4 S3 =>
  let S5 : z_Mem := z_sI S3 12 i0 2 r4
  let S6 : z_Mem := z_sI S5 12 i0 4 ((S5.1 12 i0 4) + (1 : Int32))
  some (none, S6))))
 else (
  z_rI (ex 125 [.inr (.inr (12, i0)), .inl (S.1 12 i0 1), .inl v1] S) (fun r8 S7 =>
  if r8 = 0 then (
   cond (z_oob v1 6) none (
   z_rI (ex 167 [.inr (.inr (12, i0)), .inl v1, .inl (S7.1 40 i0 (Int32.toNatClampNeg v1))] S7) (fun r10 S9 =>
   z_rI (ex 168 [.inr (.inr (12, i0)), .inl v1] S9) (fun r12 S11 =>
   if r12 = 0 then (
    cond (z_oob v1 6) none (
    cond (z_oob v1 6) none (
    let S13 : z_Mem := z_sI S11 41 i0 (Int32.toNatClampNeg v1) (S11.1 41 i0 (Int32.toNatClampNeg v1))
    cond (z_oob v1 6) none (
    z_rI (ex 127 [.inr (.inr (12, i0)), .inl ((S13.1 39 i0 (Int32.toNatClampNeg v1)) - r10)] S13) (fun r15 S14 =>
    cond (z_oob v1 6) none (
    let S16 : z_Mem := z_sI S14 39 i0 (Int32.toNatClampNeg v1) r15
    let x17 : Int32 := (v1 + (1 : Int32))
    zr_X12_goHour ex n 2 [some (.inr (.inr (12, i0))), some (.inl x17), none] [] S16))))))
   else (
    cond (z_oob v1 6) none (
    z_rI (ex 126 [.inr (.inr (12, i0)), .inl ((S11.1 41 i0 (Int32.toNatClampNeg v1)) + (1 : Int32)), .inl (S11.1 12 i0 29)] S11) (fun r19 S18 =>
    cond (z_oob v1 6) none (
    let S20 : z_Mem := z_sI S18 41 i0 (Int32.toNatClampNeg v1) r19
    cond (z_oob v1 6) none (
    z_rI (ex 127 [.inr (.inr (12, i0)), .inl ((S20.1 39 i0 (Int32.toNatClampNeg v1)) - r10)] S20) (fun r22 S21 =>
    cond (z_oob v1 6) none (
    let S23 : z_Mem := z_sI S21 39 i0 (Int32.toNatClampNeg v1) r22
    let x24 : Int32 := (v1 + (1 : Int32))
    zr_X12_goHour ex n 2 [some (.inr (.inr (12, i0))), some (.inl x24), none] [] S23)))))))))))
  else (
   let x25 : Int32 := (v1 + (1 : Int32))
   zr_X12_goHour ex n 2 [some (.inr (.inr (12, i0))), some (.inl x25), none] [] S7))) := rfl
abbrev zr_X12_goHours (ex : z_Ex) (n pc : Nat) (ls : z_Lc) (st : List z_AV) (S : z_Mem) : Option (Option z_AV × z_Mem) := z_run true ex false zo_X12_goHours zc_X12_goHours n pc ls st S
set_option maxRecDepth 100000 in
set_option maxHeartbeats 4000000 in
theorem ze_X12_goHours_0 (ex : z_Ex) (n : Nat) (S : z_Mem) (i0 : Nat) (v1 : Int32) : zr_X12_goHours ex (n + 1) 0 [some (.inr (.inr (12, i0))), some (.inl v1), none] [] S =
 zr_X12_goHours ex n 2 [some (.inr (.inr (12, i0))), some (.inl v1), some (.inl (0 : Int32))] [] S := rfl
theorem zx_X12_goHours (d : Nat) (S : z_Mem) (i0 : Nat) (v1 : Int32) : z_exe z_mt true (d + 1) 176 [.inr (.inr (12, i0)), .inl v1] S = zr_X12_goHours (z_exe z_mt true d) (999999 + 1) 0 [some (.inr (.inr (12, i0))), some (.inl v1), none] [] S := z_exe_eq (q := (yX12_goHours, cX12_goHours, 3, none, false, zo_X12_goHours, zc_X12_goHours, 12, 2)) rfl rfl
set_option maxRecDepth 100000 in
set_option maxHeartbeats 4000000 in
theorem ze_X12_goHours_2 (ex : z_Ex) (n : Nat) (S : z_Mem) (i0 : Nat) (v1 : Int32) (v2 : Int32) : zr_X12_goHours ex (n + 1) 2 [some (.inr (.inr (12, i0))), some (.inl v1), some (.inl v2)] [] S =
 if v1 ≤ v2 then (
  some (none, S))
 else (
  z_rV (ex 175 [.inr (.inr (12, i0))] S) (fun S1 =>
  let x2 : Int32 := (v2 + (1 : Int32))
  zr_X12_goHours ex n 2 [some (.inr (.inr (12, i0))), some (.inl v1), some (.inl x2)] [] S1)) := rfl
abbrev zr_X12_stokes (ex : z_Ex) (n pc : Nat) (ls : z_Lc) (st : List z_AV) (S : z_Mem) : Option (Option z_AV × z_Mem) := z_run true ex false zo_X12_stokes zc_X12_stokes n pc ls st S
set_option maxRecDepth 100000 in
set_option maxHeartbeats 4000000 in
theorem ze_X12_stokes_0 (ex : z_Ex) (n : Nat) (S : z_Mem) (i0 : Nat) : zr_X12_stokes ex (n + 1) 0 [some (.inr (.inr (12, i0)))] [] S =
 let S1 : z_Mem := z_sI S 12 i0 3 ((S.1 12 i0 3) - (1 : Int32))
 z_rI (ex 161 [.inr (.inr (12, i0)), .inl (3 : Int32), .inl (6 : Int32)] S1) (fun r3 S2 =>
 z_rI (ex 126 [.inr (.inr (12, i0)), .inl (30 : Int32), .inl ((S1.1 12 i0 2) + r3)] S2) (fun r5 S4 =>
 let S6 : z_Mem := z_sI S4 12 i0 2 r5
 some (none, S6))) := rfl
theorem zx_X12_stokes (d : Nat) (S : z_Mem) (i0 : Nat) : z_exe z_mt true (d + 1) 177 [.inr (.inr (12, i0))] S = zr_X12_stokes (z_exe z_mt true d) (999999 + 1) 0 [some (.inr (.inr (12, i0)))] [] S := z_exe_eq (q := (yX12_stokes, cX12_stokes, 1, none, false, zo_X12_stokes, zc_X12_stokes, 12, 1)) rfl rfl
abbrev zr_X12_stoke (ex : z_Ex) (n pc : Nat) (ls : z_Lc) (st : List z_AV) (S : z_Mem) : Option (Option z_AV × z_Mem) := z_run true ex false zo_X12_stoke zc_X12_stoke n pc ls st S
set_option maxRecDepth 100000 in
set_option maxHeartbeats 4000000 in
theorem ze_X12_stoke_0 (ex : z_Ex) (n : Nat) (S : z_Mem) (i0 : Nat) : zr_X12_stoke ex (n + 1) 0 [some (.inr (.inr (12, i0)))] [] S =
 if (S.1 12 i0 3) = 0 then (
  some (some (.inl (-3 : Int32)), S))
 else (
  z_rV (ex 177 [.inr (.inr (12, i0))] S) (fun S1 =>
  some (some (.inl (S1.1 12 i0 2)), S1))) := rfl
theorem zx_X12_stoke (d : Nat) (S : z_Mem) (i0 : Nat) : z_exe z_mt true (d + 1) 178 [.inr (.inr (12, i0))] S = zr_X12_stoke (z_exe z_mt true d) (999999 + 1) 0 [some (.inr (.inr (12, i0)))] [] S := z_exe_eq (q := (yX12_stoke, cX12_stoke, 1, (some .int), false, zo_X12_stoke, zc_X12_stoke, 12, 1)) rfl rfl
abbrev zr_X12_pass (ex : z_Ex) (n pc : Nat) (ls : z_Lc) (st : List z_AV) (S : z_Mem) : Option (Option z_AV × z_Mem) := z_run true ex false zo_X12_pass zc_X12_pass n pc ls st S
set_option maxRecDepth 100000 in
set_option maxHeartbeats 4000000 in
theorem ze_X12_pass_0 (ex : z_Ex) (n : Nat) (S : z_Mem) (i0 : Nat) (v1 : Int32) : zr_X12_pass ex (n + 1) 0 [some (.inr (.inr (12, i0))), some (.inl v1)] [] S =
 z_rI (ex 132 [.inr (.inr (12, i0)), .inl v1] S) (fun r2 S1 =>
 if r2 = 0 then (
  some (some (.inl (-2 : Int32)), S1))
 else (
  if ((S1.1 12 i0 4) + v1) ≤ (9999 : Int32) then (
   z_rV (ex 176 [.inr (.inr (12, i0)), .inl v1] S1) (fun S3 =>
   some (some (.inl (S3.1 12 i0 4)), S3)))
  else (
   some (some (.inl (-3 : Int32)), S1)))) := rfl
theorem zx_X12_pass (d : Nat) (S : z_Mem) (i0 : Nat) (v1 : Int32) : z_exe z_mt true (d + 1) 179 [.inr (.inr (12, i0)), .inl v1] S = zr_X12_pass (z_exe z_mt true d) (999999 + 1) 0 [some (.inr (.inr (12, i0))), some (.inl v1)] [] S := z_exe_eq (q := (yX12_pass, cX12_pass, 2, (some .int), false, zo_X12_pass, zc_X12_pass, 12, 2)) rfl rfl
abbrev zr_X12_save (ex : z_Ex) (n pc : Nat) (ls : z_Lc) (st : List z_AV) (S : z_Mem) : Option (Option z_AV × z_Mem) := z_run true ex false zo_X12_save zc_X12_save n pc ls st S
set_option maxRecDepth 100000 in
set_option maxHeartbeats 4000000 in
theorem ze_X12_save_0 (ex : z_Ex) (n : Nat) (S : z_Mem) (i0 : Nat) : zr_X12_save ex (n + 1) 0 [some (.inr (.inr (12, i0))), none] [] S =
 let S1 : z_Mem := z_sI S 12 i0 29 (2000000000 : Int32)
 let S2 : z_Mem := z_sI S1 12 i0 30 (S1.1 12 i0 1)
 let S3 : z_Mem := z_sI S2 12 i0 31 (S2.1 12 i0 2)
 let S4 : z_Mem := z_sI S3 12 i0 32 (S3.1 12 i0 3)
 let S5 : z_Mem := z_sI S4 12 i0 33 (S4.1 12 i0 4)
 zr_X12_save ex n 41 [some (.inr (.inr (12, i0))), some (.inl (0 : Int32))] [] S5 := rfl
theorem zx_X12_save (d : Nat) (S : z_Mem) (i0 : Nat) : z_exe z_mt true (d + 1) 180 [.inr (.inr (12, i0))] S = zr_X12_save (z_exe z_mt true d) (999999 + 1) 0 [some (.inr (.inr (12, i0))), none] [] S := z_exe_eq (q := (yX12_save, cX12_save, 2, none, false, zo_X12_save, zc_X12_save, 12, 1)) rfl rfl
set_option maxRecDepth 100000 in
set_option maxHeartbeats 4000000 in
theorem ze_X12_save_41 (ex : z_Ex) (n : Nat) (S : z_Mem) (i0 : Nat) (v1 : Int32) : zr_X12_save ex (n + 1) 41 [some (.inr (.inr (12, i0))), some (.inl v1)] [] S =
 if (6 : Int32) ≤ v1 then (
  some (none, S))
 else (
  cond (z_oob v1 6) none (
  cond (z_oob v1 6) none (
  let S6 : z_Mem := z_sI S 53 i0 (Int32.toNatClampNeg v1) (S.1 39 i0 (Int32.toNatClampNeg v1))
  cond (z_oob v1 6) none (
  cond (z_oob v1 6) none (
  let S7 : z_Mem := z_sI S6 54 i0 (Int32.toNatClampNeg v1) (S6.1 40 i0 (Int32.toNatClampNeg v1))
  cond (z_oob v1 6) none (
  cond (z_oob v1 6) none (
  let S8 : z_Mem := z_sI S7 55 i0 (Int32.toNatClampNeg v1) (S7.1 41 i0 (Int32.toNatClampNeg v1))
  let x9 : Int32 := (v1 + (1 : Int32))
  zr_X12_save ex n 41 [some (.inr (.inr (12, i0))), some (.inl x9)] [] S8))))))) := rfl
abbrev zr_X12_putBack (ex : z_Ex) (n pc : Nat) (ls : z_Lc) (st : List z_AV) (S : z_Mem) : Option (Option z_AV × z_Mem) := z_run true ex false zo_X12_putBack zc_X12_putBack n pc ls st S
set_option maxRecDepth 100000 in
set_option maxHeartbeats 4000000 in
theorem ze_X12_putBack_0 (ex : z_Ex) (n : Nat) (S : z_Mem) (i0 : Nat) : zr_X12_putBack ex (n + 1) 0 [some (.inr (.inr (12, i0))), none] [] S =
 let S1 : z_Mem := z_sI S 12 i0 29 (9999 : Int32)
 let S2 : z_Mem := z_sI S1 12 i0 1 (S1.1 12 i0 30)
 let S3 : z_Mem := z_sI S2 12 i0 2 (S2.1 12 i0 31)
 let S4 : z_Mem := z_sI S3 12 i0 3 (S3.1 12 i0 32)
 let S5 : z_Mem := z_sI S4 12 i0 4 (S4.1 12 i0 33)
 zr_X12_putBack ex n 41 [some (.inr (.inr (12, i0))), some (.inl (0 : Int32))] [] S5 := rfl
theorem zx_X12_putBack (d : Nat) (S : z_Mem) (i0 : Nat) : z_exe z_mt true (d + 1) 181 [.inr (.inr (12, i0))] S = zr_X12_putBack (z_exe z_mt true d) (999999 + 1) 0 [some (.inr (.inr (12, i0))), none] [] S := z_exe_eq (q := (yX12_putBack, cX12_putBack, 2, none, false, zo_X12_putBack, zc_X12_putBack, 12, 1)) rfl rfl
set_option maxRecDepth 100000 in
set_option maxHeartbeats 4000000 in
theorem ze_X12_putBack_41 (ex : z_Ex) (n : Nat) (S : z_Mem) (i0 : Nat) (v1 : Int32) : zr_X12_putBack ex (n + 1) 41 [some (.inr (.inr (12, i0))), some (.inl v1)] [] S =
 if (6 : Int32) ≤ v1 then (
  some (none, S))
 else (
  cond (z_oob v1 6) none (
  cond (z_oob v1 6) none (
  let S6 : z_Mem := z_sI S 39 i0 (Int32.toNatClampNeg v1) (S.1 53 i0 (Int32.toNatClampNeg v1))
  cond (z_oob v1 6) none (
  cond (z_oob v1 6) none (
  let S7 : z_Mem := z_sI S6 40 i0 (Int32.toNatClampNeg v1) (S6.1 54 i0 (Int32.toNatClampNeg v1))
  cond (z_oob v1 6) none (
  cond (z_oob v1 6) none (
  let S8 : z_Mem := z_sI S7 41 i0 (Int32.toNatClampNeg v1) (S7.1 55 i0 (Int32.toNatClampNeg v1))
  let x9 : Int32 := (v1 + (1 : Int32))
  zr_X12_putBack ex n 41 [some (.inr (.inr (12, i0))), some (.inl x9)] [] S8))))))) := rfl
abbrev zr_X12_on (ex : z_Ex) (n pc : Nat) (ls : z_Lc) (st : List z_AV) (S : z_Mem) : Option (Option z_AV × z_Mem) := z_run true ex false zo_X12_on zc_X12_on n pc ls st S
set_option maxRecDepth 100000 in
set_option maxHeartbeats 4000000 in
theorem ze_X12_on_0 (ex : z_Ex) (n : Nat) (S : z_Mem) (i0 : Nat) (v1 : Int32) (v2 : Int32) : zr_X12_on ex (n + 1) 0 [some (.inr (.inr (12, i0))), some (.inl v1), some (.inl v2), none] [] S =
 z_rI (ex 124 [.inr (.inr (12, i0)), .inl v2, .inl (0 : Int32), .inl (2 : Int32)] S) (fun r2 S1 =>
 if r2 = 0 then (
  z_rI (ex 124 [.inr (.inr (12, i0)), .inl v2, .inl (10 : Int32), .inl ((9 : Int32) + (S1.1 12 i0 0))] S1) (fun r4 S3 =>
  if r4 = 0 then (
   some (some (.inl (-1 : Int32)), S3))
  else (
   z_rI (ex 132 [.inr (.inr (12, i0)), .inl v1] S3) (fun r6 S5 =>
   if r6 = 0 then (
    some (some (.inl (-2 : Int32)), S5))
   else (
    z_rV (ex 180 [.inr (.inr (12, i0))] S5) (fun S7 =>
    z_rV (ex 176 [.inr (.inr (12, i0)), .inl v1] S7) (fun S8 =>
    if v2 = 0 then (
     z_rI (ex 170 [.inr (.inr (12, i0))] S8) (fun r10 S9 =>
     z_rV (ex 181 [.inr (.inr (12, i0))] S9) (fun S11 =>
     some (some (.inl r10), S11))))
    else (
     if v2 = (1 : Int32) then (
      z_rV (ex 181 [.inr (.inr (12, i0))] S8) (fun S12 =>
      some (some (.inl (S8.1 12 i0 2)), S12)))
     else (
      if v2 = (2 : Int32) then (
       z_rI (ex 172 [.inr (.inr (12, i0))] S8) (fun r14 S13 =>
       z_rV (ex 181 [.inr (.inr (12, i0))] S13) (fun S15 =>
       some (some (.inl r14), S15))))
      else (
       cond (z_oob (v2 - (10 : Int32)) 6) none (
       let x16 : Int32 := (S8.1 39 i0 (Int32.toNatClampNeg (v2 - (10 : Int32))))
       z_rV (ex 181 [.inr (.inr (12, i0))] S8) (fun S17 =>
       some (some (.inl x16), S17)))))))))))))
 else (
  z_rI (ex 132 [.inr (.inr (12, i0)), .inl v1] S1) (fun r19 S18 =>
  if r19 = 0 then (
   some (some (.inl (-2 : Int32)), S18))
  else (
   z_rV (ex 180 [.inr (.inr (12, i0))] S18) (fun S20 =>
   z_rV (ex 176 [.inr (.inr (12, i0)), .inl v1] S20) (fun S21 =>
   if v2 = 0 then (
    z_rI (ex 170 [.inr (.inr (12, i0))] S21) (fun r23 S22 =>
    z_rV (ex 181 [.inr (.inr (12, i0))] S22) (fun S24 =>
    some (some (.inl r23), S24))))
   else (
    if v2 = (1 : Int32) then (
     let x25 : Int32 := (S21.1 12 i0 2)
     z_rV (ex 181 [.inr (.inr (12, i0))] S21) (fun S26 =>
     some (some (.inl x25), S26)))
    else (
     if v2 = (2 : Int32) then (
      z_rI (ex 172 [.inr (.inr (12, i0))] S21) (fun r28 S27 =>
      z_rV (ex 181 [.inr (.inr (12, i0))] S27) (fun S29 =>
      some (some (.inl r28), S29))))
     else (
      cond (z_oob (v2 - (10 : Int32)) 6) none (
      let x30 : Int32 := (S21.1 39 i0 (Int32.toNatClampNeg (v2 - (10 : Int32))))
      z_rV (ex 181 [.inr (.inr (12, i0))] S21) (fun S31 =>
      some (some (.inl x30), S31)))))))))))) := rfl
theorem zx_X12_on (d : Nat) (S : z_Mem) (i0 : Nat) (v1 : Int32) (v2 : Int32) : z_exe z_mt true (d + 1) 182 [.inr (.inr (12, i0)), .inl v1, .inl v2] S = zr_X12_on (z_exe z_mt true d) (999999 + 1) 0 [some (.inr (.inr (12, i0))), some (.inl v1), some (.inl v2), none] [] S := z_exe_eq (q := (yX12_on, cX12_on, 4, (some .int), false, zo_X12_on, zc_X12_on, 12, 3)) rfl rfl
abbrev zr_X12_done (ex : z_Ex) (n pc : Nat) (ls : z_Lc) (st : List z_AV) (S : z_Mem) : Option (Option z_AV × z_Mem) := z_run true ex false zo_X12_done zc_X12_done n pc ls st S
set_option maxRecDepth 100000 in
set_option maxHeartbeats 4000000 in
theorem ze_X12_done_0 (ex : z_Ex) (n : Nat) (S : z_Mem) (i0 : Nat) (v1 : Int32) : zr_X12_done ex (n + 1) 0 [some (.inr (.inr (12, i0))), some (.inl v1), none] [] S =
 z_rI (ex 129 [.inr (.inr (12, i0)), .inl v1] S) (fun r2 S1 =>
 if r2 = 0 then (
  some (some (.inl (-1 : Int32)), S1))
 else (
  z_rV (ex 180 [.inr (.inr (12, i0))] S1) (fun S3 =>
  zr_X12_done ex n 16 [some (.inr (.inr (12, i0))), some (.inl v1), some (.inl (0 : Int32))] [] S3))) := rfl
theorem zx_X12_done (d : Nat) (S : z_Mem) (i0 : Nat) (v1 : Int32) : z_exe z_mt true (d + 1) 183 [.inr (.inr (12, i0)), .inl v1] S = zr_X12_done (z_exe z_mt true d) (999999 + 1) 0 [some (.inr (.inr (12, i0))), some (.inl v1), none] [] S := z_exe_eq (q := (yX12_done, cX12_done, 3, (some .int), false, zo_X12_done, zc_X12_done, 12, 2)) rfl rfl
set_option maxRecDepth 100000 in
set_option maxHeartbeats 4000000 in
theorem ze_X12_done_16 (ex : z_Ex) (n : Nat) (S : z_Mem) (i0 : Nat) (v1 : Int32) (v2 : Int32) : zr_X12_done ex (n + 1) 16 [some (.inr (.inr (12, i0))), some (.inl v1), some (.inl v2)] [] S =
 if (61 : Int32) ≤ v2 then (
  z_rV (ex 181 [.inr (.inr (12, i0))] S) (fun S4 =>
  if (61 : Int32) ≤ v2 then (
   some (some (.inl (-5 : Int32)), S4))
  else (
   some (some (.inl v2), S4))))
 else (
  cond (z_oob v1 6) none (
  if (S.1 39 i0 (Int32.toNatClampNeg v1)) ≤ 0 then (
   z_rV (ex 181 [.inr (.inr (12, i0))] S) (fun S5 =>
   if (61 : Int32) ≤ v2 then (
    some (some (.inl (-5 : Int32)), S5))
   else (
    some (some (.inl v2), S5))))
  else (
   z_rV (ex 175 [.inr (.inr (12, i0))] S) (fun S6 =>
   let x7 : Int32 := (v2 + (1 : Int32))
   zr_X12_done ex n 16 [some (.inr (.inr (12, i0))), some (.inl v1), some (.inl x7)] [] S6)))) := rfl
abbrev zr_X12_night (ex : z_Ex) (n pc : Nat) (ls : z_Lc) (st : List z_AV) (S : z_Mem) : Option (Option z_AV × z_Mem) := z_run true ex false zo_X12_night zc_X12_night n pc ls st S
set_option maxRecDepth 100000 in
set_option maxHeartbeats 4000000 in
theorem ze_X12_night_0 (ex : z_Ex) (n : Nat) (S : z_Mem) (i0 : Nat) (v1 : Int32) : zr_X12_night ex (n + 1) 0 [some (.inr (.inr (12, i0))), some (.inl v1), none] [] S =
 z_rI (ex 124 [.inr (.inr (12, i0)), .inl v1, .inl (0 : Int32), .inl (12 : Int32)] S) (fun r2 S1 =>
 if r2 = 0 then (
  some (some (.inl (-2 : Int32)), S1))
 else (
  z_rV (ex 180 [.inr (.inr (12, i0))] S1) (fun S3 =>
  z_rV (ex 176 [.inr (.inr (12, i0)), .inl v1] S3) (fun S4 =>
  z_rI (ex 173 [.inr (.inr (12, i0))] S4) (fun r6 S5 =>
  z_rI (ex 128 [.inr (.inr (12, i0)), .inl (r6 &&& ((S5.1 12 i0 1) ^^^ (-1 : Int32)))] S5) (fun r8 S7 =>
  z_rV (ex 181 [.inr (.inr (12, i0))] S7) (fun S9 =>
  some (some (.inl r8), S9)))))))) := rfl
theorem zx_X12_night (d : Nat) (S : z_Mem) (i0 : Nat) (v1 : Int32) : z_exe z_mt true (d + 1) 184 [.inr (.inr (12, i0)), .inl v1] S = zr_X12_night (z_exe z_mt true d) (999999 + 1) 0 [some (.inr (.inr (12, i0))), some (.inl v1), none] [] S := z_exe_eq (q := (yX12_night, cX12_night, 3, (some .int), false, zo_X12_night, zc_X12_night, 12, 2)) rfl rfl
abbrev zr_X12_layWets (ex : z_Ex) (n pc : Nat) (ls : z_Lc) (st : List z_AV) (S : z_Mem) : Option (Option z_AV × z_Mem) := z_run true ex false zo_X12_layWets zc_X12_layWets n pc ls st S
set_option maxRecDepth 100000 in
set_option maxHeartbeats 4000000 in
theorem ze_X12_layWets_0 (ex : z_Ex) (n : Nat) (S : z_Mem) (i0 : Nat) (v1 : Int32) : zr_X12_layWets ex (n + 1) 0 [some (.inr (.inr (12, i0))), some (.inl v1), none, none] [] S =
 zr_X12_layWets ex n 2 [some (.inr (.inr (12, i0))), some (.inl v1), some (.inl (0 : Int32)), none] [] S := rfl
theorem zx_X12_layWets (d : Nat) (S : z_Mem) (i0 : Nat) (v1 : Int32) : z_exe z_mt true (d + 1) 185 [.inr (.inr (12, i0)), .inl v1] S = zr_X12_layWets (z_exe z_mt true d) (999999 + 1) 0 [some (.inr (.inr (12, i0))), some (.inl v1), none, none] [] S := z_exe_eq (q := (yX12_layWets, cX12_layWets, 4, none, false, zo_X12_layWets, zc_X12_layWets, 12, 2)) rfl rfl
set_option maxRecDepth 100000 in
set_option maxHeartbeats 4000000 in
theorem ze_X12_layWets_2 (ex : z_Ex) (n : Nat) (S : z_Mem) (i0 : Nat) (v1 : Int32) (v2 : Int32) : zr_X12_layWets ex (n + 1) 2 [some (.inr (.inr (12, i0))), some (.inl v1), some (.inl v2), none] [] S =
 if (6 : Int32) ≤ v2 then (
  some (none, S))
 else (
  z_rV (ex 180 [.inr (.inr (12, i0))] S) (fun S1 =>
  zr_X12_layWets ex n 14 [some (.inr (.inr (12, i0))), some (.inl v1), some (.inl v2), some (.inl (0 : Int32))] [] S1)) := rfl
set_option maxRecDepth 100000 in
set_option maxHeartbeats 4000000 in
theorem ze_X12_layWets_14 (ex : z_Ex) (n : Nat) (S : z_Mem) (i0 : Nat) (v1 : Int32) (v2 : Int32) (v3 : Int32) : zr_X12_layWets ex (n + 1) 14 [some (.inr (.inr (12, i0))), some (.inl v1), some (.inl v2), some (.inl v3)] [] S =
 if (S.1 12 i0 0) ≤ v3 then (
  z_rV (ex 176 [.inr (.inr (12, i0)), .inl v1] S) (fun S2 =>
  zr_X12_layWets ex n 42 [some (.inr (.inr (12, i0))), some (.inl v1), some (.inl v2), some (.inl (0 : Int32))] [] S2))
 else (
  cond (z_oob v3 6) none (
  let S3 : z_Mem := z_sI S 40 i0 (Int32.toNatClampNeg v3) v2
  let x4 : Int32 := (v3 + (1 : Int32))
  zr_X12_layWets ex n 14 [some (.inr (.inr (12, i0))), some (.inl v1), some (.inl v2), some (.inl x4)] [] S3)) := rfl
set_option maxRecDepth 100000 in
set_option maxHeartbeats 4000000 in
theorem ze_X12_layWets_42 (ex : z_Ex) (n : Nat) (S : z_Mem) (i0 : Nat) (v1 : Int32) (v2 : Int32) (v3 : Int32) : zr_X12_layWets ex (n + 1) 42 [some (.inr (.inr (12, i0))), some (.inl v1), some (.inl v2), some (.inl v3)] [] S =
 if (S.1 12 i0 0) ≤ v3 then (
  z_rV (ex 181 [.inr (.inr (12, i0))] S) (fun S5 =>
  let x6 : Int32 := (v2 + (1 : Int32))
  zr_X12_layWets ex n 2 [some (.inr (.inr (12, i0))), some (.inl v1), some (.inl x6), none] [] S5))
 else (
  cond (z_oob v3 6) none (
  cond (z_oob (((6 : Int32) * v3) + v2) 36) none (
  let S7 : z_Mem := z_sI S 56 i0 (Int32.toNatClampNeg (((6 : Int32) * v3) + v2)) (S.1 39 i0 (Int32.toNatClampNeg v3))
  let x8 : Int32 := (v3 + (1 : Int32))
  zr_X12_layWets ex n 42 [some (.inr (.inr (12, i0))), some (.inl v1), some (.inl v2), some (.inl x8)] [] S7))) := rfl
abbrev zr_X12_layPlaces (ex : z_Ex) (n pc : Nat) (ls : z_Lc) (st : List z_AV) (S : z_Mem) : Option (Option z_AV × z_Mem) := z_run true ex true zo_X12_layPlaces zc_X12_layPlaces n pc ls st S
set_option maxRecDepth 100000 in
set_option maxHeartbeats 4000000 in
theorem ze_X12_layPlaces_0 (ex : z_Ex) (n : Nat) (S : z_Mem) (i0 : Nat) (v1 : Int32) : zr_X12_layPlaces ex (n + 1) 0 [some (.inr (.inr (12, i0))), some (.inl v1), none, none, none] [] S =
 let x1 : Int32 := ((S.1 12 i0 0) - (1 : Int32))
 zr_X12_layPlaces ex n 12 [some (.inr (.inr (12, i0))), none, some (.inl v1), some (.inl (0 : Int32)), some (.inl x1)] [] S := rfl
theorem zx_X12_layPlaces (d : Nat) (S : z_Mem) (i0 : Nat) (v1 : Int32) : z_exe z_mt true (d + 1) 186 [.inr (.inr (12, i0)), .inl v1] S = zr_X12_layPlaces (z_exe z_mt true d) (999999 + 1) 0 [some (.inr (.inr (12, i0))), some (.inl v1), none, none, none] [] S := z_exe_eq (q := (yX12_layPlaces, cX12_layPlaces, 5, (some .boolean), true, zo_X12_layPlaces, zc_X12_layPlaces, 12, 2)) rfl rfl
set_option maxRecDepth 100000 in
set_option maxHeartbeats 4000000 in
theorem ze_X12_layPlaces_12 (ex : z_Ex) (n : Nat) (S : z_Mem) (i0 : Nat) (v2 : Int32) (v3 : Int32) (v4 : Int32) : zr_X12_layPlaces ex (n + 1) 12 [some (.inr (.inr (12, i0))), none, some (.inl v2), some (.inl v3), some (.inl v4)] [] S =
 if v4 < 0 then (
  some (some (.inl (1 : Int32)), S))
 else (
  if (6 : Int32) = 0 then none else
  cond (z_oob v4 6) none (
  let S2 : z_Mem := z_sI S 57 i0 (Int32.toNatClampNeg v4) (v2 - v2 / (6 : Int32) * (6 : Int32))
  if (6 : Int32) = 0 then none else
  let x3 : Int32 := (v2 / (6 : Int32))
  cond (z_oob v4 6) none (
  z_rI (ex 125 [.inr (.inr (12, i0)), .inl v3, .inl (S2.1 57 i0 (Int32.toNatClampNeg v4))] S2) (fun r5 S4 =>
  if r5 = 0 then (
   cond (z_oob v4 6) none (
   let x6 : Int32 := (v3 ||| ((1 : Int32) <<< ((S4.1 57 i0 (Int32.toNatClampNeg v4)) &&& 31)))
   let x7 : Int32 := (v4 + (-1 : Int32))
   zr_X12_layPlaces ex n 12 [some (.inr (.inr (12, i0))), none, some (.inl x3), some (.inl x6), some (.inl x7)] [] S4))
  else (
   some (some (.inl (0 : Int32)), S4)))))) := rfl
abbrev zr_X12_layBest (ex : z_Ex) (n pc : Nat) (ls : z_Lc) (st : List z_AV) (S : z_Mem) : Option (Option z_AV × z_Mem) := z_run true ex false zo_X12_layBest zc_X12_layBest n pc ls st S
set_option maxRecDepth 100000 in
set_option maxHeartbeats 4000000 in
theorem ze_X12_layBest_0 (ex : z_Ex) (n : Nat) (S : z_Mem) (i0 : Nat) (v1 : Int32) : zr_X12_layBest ex (n + 1) 0 [some (.inr (.inr (12, i0))), some (.inl v1), none, none, none, none, none, none] [] S =
 z_rV (ex 185 [.inr (.inr (12, i0)), .inl v1] S) (fun S1 =>
 zr_X12_layBest ex n 9 [some (.inr (.inr (12, i0))), none, some (.inl (1 : Int32)), some (.inl (0 : Int32)), none, none, none, none] [] S1) := rfl
theorem zx_X12_layBest (d : Nat) (S : z_Mem) (i0 : Nat) (v1 : Int32) : z_exe z_mt true (d + 1) 187 [.inr (.inr (12, i0)), .inl v1] S = zr_X12_layBest (z_exe z_mt true d) (999999 + 1) 0 [some (.inr (.inr (12, i0))), some (.inl v1), none, none, none, none, none, none] [] S := z_exe_eq (q := (yX12_layBest, cX12_layBest, 8, none, false, zo_X12_layBest, zc_X12_layBest, 12, 2)) rfl rfl
set_option maxRecDepth 100000 in
set_option maxHeartbeats 4000000 in
theorem ze_X12_layBest_9 (ex : z_Ex) (n : Nat) (S : z_Mem) (i0 : Nat) (v2 : Int32) (v3 : Int32) : zr_X12_layBest ex (n + 1) 9 [some (.inr (.inr (12, i0))), none, some (.inl v2), some (.inl v3), none, none, none, none] [] S =
 if (S.1 12 i0 0) ≤ v3 then (
  let S2 : z_Mem := z_sI S 12 i0 40 (0 : Int32)
  let S3 : z_Mem := z_sI S2 12 i0 41 (0 : Int32)
  zr_X12_layBest ex n 43 [some (.inr (.inr (12, i0))), none, some (.inl v2), some (.inl (0 : Int32)), some (.inl (0 : Int32)), none, none, none] [] S3)
 else (
  let x4 : Int32 := (v2 * (6 : Int32))
  let x5 : Int32 := (v3 + (1 : Int32))
  zr_X12_layBest ex n 9 [some (.inr (.inr (12, i0))), none, some (.inl x4), some (.inl x5), none, none, none, none] [] S) := rfl
set_option maxRecDepth 100000 in
set_option maxHeartbeats 4000000 in
theorem ze_X12_layBest_43 (ex : z_Ex) (n : Nat) (S : z_Mem) (i0 : Nat) (v2 : Int32) (v3 : Int32) (v4 : Int32) : zr_X12_layBest ex (n + 1) 43 [some (.inr (.inr (12, i0))), none, some (.inl v2), some (.inl v3), some (.inl v4), none, none, none] [] S =
 if v2 ≤ v4 then (
  some (none, S))
 else (
  z_rI (ex 186 [.inr (.inr (12, i0)), .inl v4] S) (fun r7 S6 =>
  if r7 = 0 then (
   let x8 : Int32 := (v4 + (1 : Int32))
   zr_X12_layBest ex n 43 [some (.inr (.inr (12, i0))), none, some (.inl v2), some (.inl v3), some (.inl x8), none, none, none] [] S6)
  else (
   zr_X12_layBest ex n 70 [some (.inr (.inr (12, i0))), none, some (.inl v2), some (.inl v3), some (.inl v4), some (.inl (0 : Int32)), some (.inl (0 : Int32)), some (.inl (0 : Int32))] [] S6))) := rfl
set_option maxRecDepth 100000 in
set_option maxHeartbeats 4000000 in
theorem ze_X12_layBest_70 (ex : z_Ex) (n : Nat) (S : z_Mem) (i0 : Nat) (v2 : Int32) (v3 : Int32) (v4 : Int32) (v5 : Int32) (v6 : Int32) (v7 : Int32) : zr_X12_layBest ex (n + 1) 70 [some (.inr (.inr (12, i0))), none, some (.inl v2), some (.inl v3), some (.inl v4), some (.inl v5), some (.inl v6), some (.inl v7)] [] S =
 if (S.1 12 i0 0) ≤ v7 then (
  if v3 = 0 then (
   let S9 : z_Mem := z_sI S 12 i0 40 v5
   let S10 : z_Mem := z_sI S9 12 i0 41 v6
   zr_X12_layBest ex n 206 [some (.inr (.inr (12, i0))), none, some (.inl v2), some (.inl (1 : Int32)), some (.inl v4), none, none, some (.inl (0 : Int32))] [] S10)
  else (
   if v5 < (S.1 12 i0 40) then (
    let x11 : Int32 := (v4 + (1 : Int32))
    zr_X12_layBest ex n 43 [some (.inr (.inr (12, i0))), none, some (.inl v2), some (.inl v3), some (.inl x11), none, none, none] [] S)
   else (
    if v5 = (S.1 12 i0 40) then (
     if v6 < (S.1 12 i0 41) then (
      let S12 : z_Mem := z_sI S 12 i0 40 v5
      let S13 : z_Mem := z_sI S12 12 i0 41 v6
      zr_X12_layBest ex n 206 [some (.inr (.inr (12, i0))), none, some (.inl v2), some (.inl (1 : Int32)), some (.inl v4), none, none, some (.inl (0 : Int32))] [] S13)
     else (
      let x14 : Int32 := (v4 + (1 : Int32))
      zr_X12_layBest ex n 43 [some (.inr (.inr (12, i0))), none, some (.inl v2), some (.inl v3), some (.inl x14), none, none, none] [] S))
    else (
     let S15 : z_Mem := z_sI S 12 i0 40 v5
     let S16 : z_Mem := z_sI S15 12 i0 41 v6
     zr_X12_layBest ex n 206 [some (.inr (.inr (12, i0))), none, some (.inl v2), some (.inl (1 : Int32)), some (.inl v4), none, none, some (.inl (0 : Int32))] [] S16))))
 else (
  z_rI (ex 125 [.inr (.inr (12, i0)), .inl (S.1 12 i0 1), .inl v7] S) (fun r18 S17 =>
  if r18 = 0 then (
   cond (z_oob v7 6) none (
   cond (z_oob (((6 : Int32) * v7) + (S17.1 57 i0 (Int32.toNatClampNeg v7))) 36) none (
   if (S17.1 56 i0 (Int32.toNatClampNeg (((6 : Int32) * v7) + (S17.1 57 i0 (Int32.toNatClampNeg v7))))) = 0 then (
    let x19 : Int32 := (v5 + (1 : Int32))
    cond (z_oob v7 6) none (
    cond (z_oob (((6 : Int32) * v7) + (S17.1 57 i0 (Int32.toNatClampNeg v7))) 36) none (
    let x20 : Int32 := (v6 + (S17.1 56 i0 (Int32.toNatClampNeg (((6 : Int32) * v7) + (S17.1 57 i0 (Int32.toNatClampNeg v7))))))
    let x21 : Int32 := (v7 + (1 : Int32))
    zr_X12_layBest ex n 70 [some (.inr (.inr (12, i0))), none, some (.inl v2), some (.inl v3), some (.inl v4), some (.inl x19), some (.inl x20), some (.inl x21)] [] S17)))
   else (
    let x22 : Int32 := (v5 + (0 : Int32))
    cond (z_oob v7 6) none (
    cond (z_oob (((6 : Int32) * v7) + (S17.1 57 i0 (Int32.toNatClampNeg v7))) 36) none (
    let x23 : Int32 := (v6 + (S17.1 56 i0 (Int32.toNatClampNeg (((6 : Int32) * v7) + (S17.1 57 i0 (Int32.toNatClampNeg v7))))))
    let x24 : Int32 := (v7 + (1 : Int32))
    zr_X12_layBest ex n 70 [some (.inr (.inr (12, i0))), none, some (.inl v2), some (.inl v3), some (.inl v4), some (.inl x22), some (.inl x23), some (.inl x24)] [] S17))))))
  else (
   let x25 : Int32 := (v7 + (1 : Int32))
   zr_X12_layBest ex n 70 [some (.inr (.inr (12, i0))), none, some (.inl v2), some (.inl v3), some (.inl v4), some (.inl v5), some (.inl v6), some (.inl x25)] [] S17))) := rfl
set_option maxRecDepth 100000 in
set_option maxHeartbeats 4000000 in
theorem ze_X12_layBest_206 (ex : z_Ex) (n : Nat) (S : z_Mem) (i0 : Nat) (v2 : Int32) (v3 : Int32) (v4 : Int32) (v7 : Int32) : zr_X12_layBest ex (n + 1) 206 [some (.inr (.inr (12, i0))), none, some (.inl v2), some (.inl v3), some (.inl v4), none, none, some (.inl v7)] [] S =
 if (6 : Int32) ≤ v7 then (
  let x26 : Int32 := (v4 + (1 : Int32))
  zr_X12_layBest ex n 43 [some (.inr (.inr (12, i0))), none, some (.inl v2), some (.inl v3), some (.inl x26), none, none, none] [] S)
 else (
  cond (z_oob v7 6) none (
  cond (z_oob v7 6) none (
  let S27 : z_Mem := z_sI S 58 i0 (Int32.toNatClampNeg v7) (S.1 57 i0 (Int32.toNatClampNeg v7))
  let x28 : Int32 := (v7 + (1 : Int32))
  zr_X12_layBest ex n 206 [some (.inr (.inr (12, i0))), none, some (.inl v2), some (.inl v3), some (.inl v4), none, none, some (.inl x28)] [] S27))) := rfl
abbrev zr_X12_placed (ex : z_Ex) (n pc : Nat) (ls : z_Lc) (st : List z_AV) (S : z_Mem) : Option (Option z_AV × z_Mem) := z_run true ex false zo_X12_placed zc_X12_placed n pc ls st S
set_option maxRecDepth 100000 in
set_option maxHeartbeats 4000000 in
theorem ze_X12_placed_0 (ex : z_Ex) (n : Nat) (S : z_Mem) (i0 : Nat) (v1 : Int32) (v2 : Int32) : zr_X12_placed ex (n + 1) 0 [some (.inr (.inr (12, i0))), some (.inl v1), some (.inl v2)] [] S =
 z_rI (ex 124 [.inr (.inr (12, i0)), .inl v2, .inl (0 : Int32), .inl (1 : Int32)] S) (fun r2 S1 =>
 if r2 = 0 then (
  z_rI (ex 124 [.inr (.inr (12, i0)), .inl v2, .inl (10 : Int32), .inl ((9 : Int32) + (S1.1 12 i0 0))] S1) (fun r4 S3 =>
  if r4 = 0 then (
   some (some (.inl (-1 : Int32)), S3))
  else (
   z_rI (ex 124 [.inr (.inr (12, i0)), .inl v1, .inl (1 : Int32), .inl (12 : Int32)] S3) (fun r6 S5 =>
   if r6 = 0 then (
    some (some (.inl (-2 : Int32)), S5))
   else (
    z_rV (ex 187 [.inr (.inr (12, i0)), .inl v1] S5) (fun S7 =>
    if v2 = 0 then (
     some (some (.inl (S7.1 12 i0 40)), S7))
    else (
     if v2 = (1 : Int32) then (
      some (some (.inl (S7.1 12 i0 41)), S7))
     else (
      cond (z_oob (v2 - (10 : Int32)) 6) none (
      some (some (.inl (S7.1 58 i0 (Int32.toNatClampNeg (v2 - (10 : Int32))))), S7))))))))))
 else (
  z_rI (ex 124 [.inr (.inr (12, i0)), .inl v1, .inl (1 : Int32), .inl (12 : Int32)] S1) (fun r9 S8 =>
  if r9 = 0 then (
   some (some (.inl (-2 : Int32)), S8))
  else (
   z_rV (ex 187 [.inr (.inr (12, i0)), .inl v1] S8) (fun S10 =>
   if v2 = 0 then (
    some (some (.inl (S10.1 12 i0 40)), S10))
   else (
    if v2 = (1 : Int32) then (
     some (some (.inl (S10.1 12 i0 41)), S10))
    else (
     cond (z_oob (v2 - (10 : Int32)) 6) none (
     some (some (.inl (S10.1 58 i0 (Int32.toNatClampNeg (v2 - (10 : Int32))))), S10))))))))) := rfl
theorem zx_X12_placed (d : Nat) (S : z_Mem) (i0 : Nat) (v1 : Int32) (v2 : Int32) : z_exe z_mt true (d + 1) 188 [.inr (.inr (12, i0)), .inl v1, .inl v2] S = zr_X12_placed (z_exe z_mt true d) (999999 + 1) 0 [some (.inr (.inr (12, i0))), some (.inl v1), some (.inl v2)] [] S := z_exe_eq (q := (yX12_placed, cX12_placed, 3, (some .int), false, zo_X12_placed, zc_X12_placed, 12, 3)) rfl rfl
abbrev zr_X12_wetBy (ex : z_Ex) (n pc : Nat) (ls : z_Lc) (st : List z_AV) (S : z_Mem) : Option (Option z_AV × z_Mem) := z_run true ex false zo_X12_wetBy zc_X12_wetBy n pc ls st S
set_option maxRecDepth 100000 in
set_option maxHeartbeats 4000000 in
theorem ze_X12_wetBy_0 (ex : z_Ex) (n : Nat) (S : z_Mem) (i0 : Nat) (v1 : Int32) (v2 : Int32) : zr_X12_wetBy ex (n + 1) 0 [some (.inr (.inr (12, i0))), some (.inl v1), some (.inl v2), none, none, none] [] S =
 zr_X12_wetBy ex n 5 [some (.inr (.inr (12, i0))), some (.inl v1), some (.inl v2), some (.inl (0 : Int32)), some (.inl (0 : Int32)), none] [] S := rfl
theorem zx_X12_wetBy (d : Nat) (S : z_Mem) (i0 : Nat) (v1 : Int32) (v2 : Int32) : z_exe z_mt true (d + 1) 189 [.inr (.inr (12, i0)), .inl v1, .inl v2] S = zr_X12_wetBy (z_exe z_mt true d) (999999 + 1) 0 [some (.inr (.inr (12, i0))), some (.inl v1), some (.inl v2), none, none, none] [] S := z_exe_eq (q := (yX12_wetBy, cX12_wetBy, 6, (some .int), false, zo_X12_wetBy, zc_X12_wetBy, 12, 3)) rfl rfl
set_option maxRecDepth 100000 in
set_option maxHeartbeats 4000000 in
theorem ze_X12_wetBy_5 (ex : z_Ex) (n : Nat) (S : z_Mem) (i0 : Nat) (v1 : Int32) (v2 : Int32) (v3 : Int32) (v4 : Int32) : zr_X12_wetBy ex (n + 1) 5 [some (.inr (.inr (12, i0))), some (.inl v1), some (.inl v2), some (.inl v3), some (.inl v4), none] [] S =
 if (S.1 12 i0 0) ≤ v4 then (
  some (some (.inl v3), S))
 else (
  if v4 = v1 then (
   cond (z_oob v2 6) none (
   let x1 : Int32 := (S.1 40 i0 (Int32.toNatClampNeg v2))
   z_rI (ex 125 [.inr (.inr (12, i0)), .inl (S.1 12 i0 1), .inl v4] S) (fun r3 S2 =>
   if r3 = 0 then (
    cond (z_oob (((6 : Int32) * v4) + x1) 36) none (
    let x4 : Int32 := (v3 + (S2.1 56 i0 (Int32.toNatClampNeg (((6 : Int32) * v4) + x1))))
    let x5 : Int32 := (v4 + (1 : Int32))
    zr_X12_wetBy ex n 5 [some (.inr (.inr (12, i0))), some (.inl v1), some (.inl v2), some (.inl x4), some (.inl x5), none] [] S2))
   else (
    let x6 : Int32 := (v3 + (0 : Int32))
    let x7 : Int32 := (v4 + (1 : Int32))
    zr_X12_wetBy ex n 5 [some (.inr (.inr (12, i0))), some (.inl v1), some (.inl v2), some (.inl x6), some (.inl x7), none] [] S2))))
  else (
   if v4 = v2 then (
    cond (z_oob v1 6) none (
    let x8 : Int32 := (S.1 40 i0 (Int32.toNatClampNeg v1))
    z_rI (ex 125 [.inr (.inr (12, i0)), .inl (S.1 12 i0 1), .inl v4] S) (fun r10 S9 =>
    if r10 = 0 then (
     cond (z_oob (((6 : Int32) * v4) + x8) 36) none (
     let x11 : Int32 := (v3 + (S9.1 56 i0 (Int32.toNatClampNeg (((6 : Int32) * v4) + x8))))
     let x12 : Int32 := (v4 + (1 : Int32))
     zr_X12_wetBy ex n 5 [some (.inr (.inr (12, i0))), some (.inl v1), some (.inl v2), some (.inl x11), some (.inl x12), none] [] S9))
    else (
     let x13 : Int32 := (v3 + (0 : Int32))
     let x14 : Int32 := (v4 + (1 : Int32))
     zr_X12_wetBy ex n 5 [some (.inr (.inr (12, i0))), some (.inl v1), some (.inl v2), some (.inl x13), some (.inl x14), none] [] S9))))
   else (
    cond (z_oob v4 6) none (
    let x15 : Int32 := (S.1 40 i0 (Int32.toNatClampNeg v4))
    z_rI (ex 125 [.inr (.inr (12, i0)), .inl (S.1 12 i0 1), .inl v4] S) (fun r17 S16 =>
    if r17 = 0 then (
     cond (z_oob (((6 : Int32) * v4) + x15) 36) none (
     let x18 : Int32 := (v3 + (S16.1 56 i0 (Int32.toNatClampNeg (((6 : Int32) * v4) + x15))))
     let x19 : Int32 := (v4 + (1 : Int32))
     zr_X12_wetBy ex n 5 [some (.inr (.inr (12, i0))), some (.inl v1), some (.inl v2), some (.inl x18), some (.inl x19), none] [] S16))
    else (
     let x20 : Int32 := (v3 + (0 : Int32))
     let x21 : Int32 := (v4 + (1 : Int32))
     zr_X12_wetBy ex n 5 [some (.inr (.inr (12, i0))), some (.inl v1), some (.inl v2), some (.inl x20), some (.inl x21), none] [] S16)))))) := rfl
abbrev zr_X12_change (ex : z_Ex) (n pc : Nat) (ls : z_Lc) (st : List z_AV) (S : z_Mem) : Option (Option z_AV × z_Mem) := z_run true ex false zo_X12_change zc_X12_change n pc ls st S
set_option maxRecDepth 100000 in
set_option maxHeartbeats 4000000 in
theorem ze_X12_change_0 (ex : z_Ex) (n : Nat) (S : z_Mem) (i0 : Nat) : zr_X12_change ex (n + 1) 0 [some (.inr (.inr (12, i0))), none, none, none, none, none] [] S =
 z_rV (ex 185 [.inr (.inr (12, i0)), .inl (6 : Int32)] S) (fun S1 =>
 z_rI (ex 189 [.inr (.inr (12, i0)), .inl (-1 : Int32), .inl (-1 : Int32)] S1) (fun r3 S2 =>
 zr_X12_change ex n 18 [some (.inr (.inr (12, i0))), some (.inl (-5 : Int32)), some (.inl r3), some (.inl (0 : Int32)), none, none] [] S2)) := rfl
theorem zx_X12_change (d : Nat) (S : z_Mem) (i0 : Nat) : z_exe z_mt true (d + 1) 190 [.inr (.inr (12, i0))] S = zr_X12_change (z_exe z_mt true d) (999999 + 1) 0 [some (.inr (.inr (12, i0))), none, none, none, none, none] [] S := z_exe_eq (q := (yX12_change, cX12_change, 6, (some .int), false, zo_X12_change, zc_X12_change, 12, 1)) rfl rfl
set_option maxRecDepth 100000 in
set_option maxHeartbeats 4000000 in
theorem ze_X12_change_18 (ex : z_Ex) (n : Nat) (S : z_Mem) (i0 : Nat) (v1 : Int32) (v2 : Int32) (v3 : Int32) : zr_X12_change ex (n + 1) 18 [some (.inr (.inr (12, i0))), some (.inl v1), some (.inl v2), some (.inl v3), none, none] [] S =
 if (S.1 12 i0 0) ≤ v3 then (
  some (some (.inl v1), S))
 else (
  let x4 : Int32 := (v3 + (1 : Int32))
  zr_X12_change ex n 31 [some (.inr (.inr (12, i0))), some (.inl v1), some (.inl v2), some (.inl v3), some (.inl x4), none] [] S) := rfl
set_option maxRecDepth 100000 in
set_option maxHeartbeats 4000000 in
theorem ze_X12_change_31 (ex : z_Ex) (n : Nat) (S : z_Mem) (i0 : Nat) (v1 : Int32) (v2 : Int32) (v3 : Int32) (v4 : Int32) : zr_X12_change ex (n + 1) 31 [some (.inr (.inr (12, i0))), some (.inl v1), some (.inl v2), some (.inl v3), some (.inl v4), none] [] S =
 if (S.1 12 i0 0) ≤ v4 then (
  let x5 : Int32 := (v3 + (1 : Int32))
  zr_X12_change ex n 18 [some (.inr (.inr (12, i0))), some (.inl v1), some (.inl v2), some (.inl x5), none, none] [] S)
 else (
  z_rI (ex 189 [.inr (.inr (12, i0)), .inl v3, .inl v4] S) (fun r7 S6 =>
  if r7 < v2 then (
   let x8 : Int32 := (((10 : Int32) * v3) + v4)
   let x9 : Int32 := (v4 + (1 : Int32))
   zr_X12_change ex n 31 [some (.inr (.inr (12, i0))), some (.inl x8), some (.inl r7), some (.inl v3), some (.inl x9), none] [] S6)
  else (
   let x10 : Int32 := (v4 + (1 : Int32))
   zr_X12_change ex n 31 [some (.inr (.inr (12, i0))), some (.inl v1), some (.inl v2), some (.inl v3), some (.inl x10), none] [] S6))) := rfl
abbrev zr_X12_wetStoked (ex : z_Ex) (n pc : Nat) (ls : z_Lc) (st : List z_AV) (S : z_Mem) : Option (Option z_AV × z_Mem) := z_run true ex false zo_X12_wetStoked zc_X12_wetStoked n pc ls st S
set_option maxRecDepth 100000 in
set_option maxHeartbeats 4000000 in
theorem ze_X12_wetStoked_0 (ex : z_Ex) (n : Nat) (S : z_Mem) (i0 : Nat) (v1 : Int32) (v2 : Int32) : zr_X12_wetStoked ex (n + 1) 0 [some (.inr (.inr (12, i0))), some (.inl v1), some (.inl v2), none] [] S =
 z_rV (ex 180 [.inr (.inr (12, i0))] S) (fun S1 =>
 zr_X12_wetStoked ex n 6 [some (.inr (.inr (12, i0))), some (.inl v1), some (.inl v2), some (.inl (0 : Int32))] [] S1) := rfl
theorem zx_X12_wetStoked (d : Nat) (S : z_Mem) (i0 : Nat) (v1 : Int32) (v2 : Int32) : z_exe z_mt true (d + 1) 191 [.inr (.inr (12, i0)), .inl v1, .inl v2] S = zr_X12_wetStoked (z_exe z_mt true d) (999999 + 1) 0 [some (.inr (.inr (12, i0))), some (.inl v1), some (.inl v2), none] [] S := z_exe_eq (q := (yX12_wetStoked, cX12_wetStoked, 4, (some .int), false, zo_X12_wetStoked, zc_X12_wetStoked, 12, 3)) rfl rfl
set_option maxRecDepth 100000 in
set_option maxHeartbeats 4000000 in
theorem ze_X12_wetStoked_6 (ex : z_Ex) (n : Nat) (S : z_Mem) (i0 : Nat) (v1 : Int32) (v2 : Int32) (v3 : Int32) : zr_X12_wetStoked ex (n + 1) 6 [some (.inr (.inr (12, i0))), some (.inl v1), some (.inl v2), some (.inl v3)] [] S =
 if v2 ≤ v3 then (
  z_rI (ex 170 [.inr (.inr (12, i0))] S) (fun r3 S2 =>
  z_rV (ex 181 [.inr (.inr (12, i0))] S2) (fun S4 =>
  some (some (.inl r3), S4))))
 else (
  z_rI (ex 125 [.inr (.inr (12, i0)), .inl v1, .inl v3] S) (fun r6 S5 =>
  if r6 = 0 then (
   z_rV (ex 175 [.inr (.inr (12, i0))] S5) (fun S7 =>
   let x8 : Int32 := (v3 + (1 : Int32))
   zr_X12_wetStoked ex n 6 [some (.inr (.inr (12, i0))), some (.inl v1), some (.inl v2), some (.inl x8)] [] S7))
  else (
   z_rV (ex 177 [.inr (.inr (12, i0))] S5) (fun S9 =>
   z_rV (ex 175 [.inr (.inr (12, i0))] S9) (fun S10 =>
   let x11 : Int32 := (v3 + (1 : Int32))
   zr_X12_wetStoked ex n 6 [some (.inr (.inr (12, i0))), some (.inl v1), some (.inl v2), some (.inl x11)] [] S10))))) := rfl
abbrev zr_X12_logs (ex : z_Ex) (n pc : Nat) (ls : z_Lc) (st : List z_AV) (S : z_Mem) : Option (Option z_AV × z_Mem) := z_run true ex false zo_X12_logs zc_X12_logs n pc ls st S
set_option maxRecDepth 100000 in
set_option maxHeartbeats 4000000 in
theorem ze_X12_logs_0 (ex : z_Ex) (n : Nat) (S : z_Mem) (i0 : Nat) (v1 : Int32) (v2 : Int32) : zr_X12_logs ex (n + 1) 0 [some (.inr (.inr (12, i0))), some (.inl v1), some (.inl v2), none, none, none, none] [] S =
 z_rI (ex 124 [.inr (.inr (12, i0)), .inl v2, .inl (0 : Int32), .inl (1 : Int32)] S) (fun r2 S1 =>
 if r2 = 0 then (
  some (some (.inl (-1 : Int32)), S1))
 else (
  z_rI (ex 124 [.inr (.inr (12, i0)), .inl v1, .inl (1 : Int32), .inl (6 : Int32)] S1) (fun r4 S3 =>
  if r4 = 0 then (
   some (some (.inl (-2 : Int32)), S3))
  else (
   let x5 : Int32 := (2000000000 : Int32)
   zr_X12_logs ex n 36 [some (.inr (.inr (12, i0))), some (.inl v1), some (.inl v2), some (.inl (0 : Int32)), some (.inl x5), some (.inl (0 : Int32)), none] [] S3)))) := rfl
theorem zx_X12_logs (d : Nat) (S : z_Mem) (i0 : Nat) (v1 : Int32) (v2 : Int32) : z_exe z_mt true (d + 1) 192 [.inr (.inr (12, i0)), .inl v1, .inl v2] S = zr_X12_logs (z_exe z_mt true d) (999999 + 1) 0 [some (.inr (.inr (12, i0))), some (.inl v1), some (.inl v2), none, none, none, none] [] S := z_exe_eq (q := (yX12_logs, cX12_logs, 7, (some .int), false, zo_X12_logs, zc_X12_logs, 12, 3)) rfl rfl
set_option maxRecDepth 100000 in
set_option maxHeartbeats 4000000 in
theorem ze_X12_logs_36 (ex : z_Ex) (n : Nat) (S : z_Mem) (i0 : Nat) (v1 : Int32) (v2 : Int32) (v3 : Int32) (v4 : Int32) (v5 : Int32) : zr_X12_logs ex (n + 1) 36 [some (.inr (.inr (12, i0))), some (.inl v1), some (.inl v2), some (.inl v3), some (.inl v4), some (.inl v5), none] [] S =
 if ((1 : Int32) <<< (v1 &&& 31)) ≤ v5 then (
  if v2 = 0 then (
   some (some (.inl v3), S))
  else (
   some (some (.inl v4), S)))
 else (
  z_rI (ex 128 [.inr (.inr (12, i0)), .inl v5] S) (fun r7 S6 =>
  if r7 ≤ (S6.1 12 i0 3) then (
   z_rI (ex 191 [.inr (.inr (12, i0)), .inl v5, .inl v1] S6) (fun r9 S8 =>
   if v4 < r9 then (
    let x10 : Int32 := (v5 + (1 : Int32))
    zr_X12_logs ex n 36 [some (.inr (.inr (12, i0))), some (.inl v1), some (.inl v2), some (.inl v3), some (.inl v4), some (.inl x10), none] [] S8)
   else (
    if r9 = v4 then (
     z_rI (ex 128 [.inr (.inr (12, i0)), .inl v5] S8) (fun r12 S11 =>
     z_rI (ex 128 [.inr (.inr (12, i0)), .inl v3] S11) (fun r14 S13 =>
     if r12 < r14 then (
      let x15 : Int32 := (v5 + (1 : Int32))
      zr_X12_logs ex n 36 [some (.inr (.inr (12, i0))), some (.inl v1), some (.inl v2), some (.inl v5), some (.inl r9), some (.inl x15), none] [] S13)
     else (
      let x16 : Int32 := (v5 + (1 : Int32))
      zr_X12_logs ex n 36 [some (.inr (.inr (12, i0))), some (.inl v1), some (.inl v2), some (.inl v3), some (.inl v4), some (.inl x16), none] [] S13))))
    else (
     let x17 : Int32 := (v5 + (1 : Int32))
     zr_X12_logs ex n 36 [some (.inr (.inr (12, i0))), some (.inl v1), some (.inl v2), some (.inl v5), some (.inl r9), some (.inl x17), none] [] S8))))
  else (
   let x18 : Int32 := (v5 + (1 : Int32))
   zr_X12_logs ex n 36 [some (.inr (.inr (12, i0))), some (.inl v1), some (.inl v2), some (.inl v3), some (.inl v4), some (.inl x18), none] [] S6))) := rfl
abbrev zr_X12_see (ex : z_Ex) (n pc : Nat) (ls : z_Lc) (st : List z_AV) (S : z_Mem) : Option (Option z_AV × z_Mem) := z_run true ex false zo_X12_see zc_X12_see n pc ls st S
set_option maxRecDepth 100000 in
set_option maxHeartbeats 4000000 in
theorem ze_X12_see_0 (ex : z_Ex) (n : Nat) (S : z_Mem) (i0 : Nat) (v1 : Int32) (v2 : Int32) (v3 : Int32) : zr_X12_see ex (n + 1) 0 [some (.inr (.inr (12, i0))), some (.inl v1), some (.inl v2), some (.inl v3)] [] S =
 if v1 = (-1 : Int32) then (
  let S1 : z_Mem := z_sI S 12 i0 42 (0 : Int32)
  some (some (.inl (0 : Int32)), S1))
 else (
  z_rI (ex 129 [.inr (.inr (12, i0)), .inl v1] S) (fun r3 S2 =>
  if r3 = 0 then (
   some (some (.inl (-1 : Int32)), S2))
  else (
   z_rI (ex 131 [.inr (.inr (12, i0)), .inl v2] S2) (fun r5 S4 =>
   if r5 = 0 then (
    some (some (.inl (-2 : Int32)), S4))
   else (
    z_rI (ex 124 [.inr (.inr (12, i0)), .inl v3, .inl (0 : Int32), .inl (20 : Int32)] S4) (fun r7 S6 =>
    if r7 = 0 then (
     some (some (.inl (-2 : Int32)), S6))
    else (
     if (S6.1 12 i0 42) = (5 : Int32) then (
      some (some (.inl (-4 : Int32)), S6))
     else (
      cond (z_oob (S6.1 12 i0 42) 5) none (
      let S8 : z_Mem := z_sI S6 59 i0 (Int32.toNatClampNeg (S6.1 12 i0 42)) v1
      cond (z_oob (S8.1 12 i0 42) 5) none (
      let S9 : z_Mem := z_sI S8 60 i0 (Int32.toNatClampNeg (S8.1 12 i0 42)) v2
      cond (z_oob (S9.1 12 i0 42) 5) none (
      let S10 : z_Mem := z_sI S9 61 i0 (Int32.toNatClampNeg (S9.1 12 i0 42)) v3
      let S11 : z_Mem := z_sI S10 12 i0 42 ((S10.1 12 i0 42) + (1 : Int32))
      some (some (.inl (S11.1 12 i0 42)), S11)))))))))))) := rfl
theorem zx_X12_see (d : Nat) (S : z_Mem) (i0 : Nat) (v1 : Int32) (v2 : Int32) (v3 : Int32) : z_exe z_mt true (d + 1) 193 [.inr (.inr (12, i0)), .inl v1, .inl v2, .inl v3] S = zr_X12_see (z_exe z_mt true d) (999999 + 1) 0 [some (.inr (.inr (12, i0))), some (.inl v1), some (.inl v2), some (.inl v3)] [] S := z_exe_eq (q := (yX12_see, cX12_see, 4, (some .int), false, zo_X12_see, zc_X12_see, 12, 4)) rfl rfl
abbrev zr_X12_isSeen (ex : z_Ex) (n pc : Nat) (ls : z_Lc) (st : List z_AV) (S : z_Mem) : Option (Option z_AV × z_Mem) := z_run true ex true zo_X12_isSeen zc_X12_isSeen n pc ls st S
set_option maxRecDepth 100000 in
set_option maxHeartbeats 4000000 in
theorem ze_X12_isSeen_0 (ex : z_Ex) (n : Nat) (S : z_Mem) (i0 : Nat) (v1 : Int32) : zr_X12_isSeen ex (n + 1) 0 [some (.inr (.inr (12, i0))), some (.inl v1), none, none] [] S =
 zr_X12_isSeen ex n 4 [some (.inr (.inr (12, i0))), some (.inl v1), some (.inl (1 : Int32)), some (.inl (0 : Int32))] [] S := rfl
theorem zx_X12_isSeen (d : Nat) (S : z_Mem) (i0 : Nat) (v1 : Int32) : z_exe z_mt true (d + 1) 194 [.inr (.inr (12, i0)), .inl v1] S = zr_X12_isSeen (z_exe z_mt true d) (999999 + 1) 0 [some (.inr (.inr (12, i0))), some (.inl v1), none, none] [] S := z_exe_eq (q := (yX12_isSeen, cX12_isSeen, 4, (some .boolean), true, zo_X12_isSeen, zc_X12_isSeen, 12, 2)) rfl rfl
set_option maxRecDepth 100000 in
set_option maxHeartbeats 4000000 in
theorem ze_X12_isSeen_4 (ex : z_Ex) (n : Nat) (S : z_Mem) (i0 : Nat) (v1 : Int32) (v2 : Int32) (v3 : Int32) : zr_X12_isSeen ex (n + 1) 4 [some (.inr (.inr (12, i0))), some (.inl v1), some (.inl v2), some (.inl v3)] [] S =
 if (S.1 12 i0 42) ≤ v3 then (
  if v2 &&& 1 = v2 then some (some (.inl v2), S) else none)
 else (
  if v2 = 0 then (
   if v2 &&& 1 = v2 then some (some (.inl v2), S) else none)
  else (
   if v1 < 0 then (
    z_rV (ex 180 [.inr (.inr (12, i0))] S) (fun S1 =>
    cond (z_oob v3 5) none (
    z_rV (ex 176 [.inr (.inr (12, i0)), .inl (S1.1 61 i0 (Int32.toNatClampNeg v3))] S1) (fun S2 =>
    cond (z_oob v3 5) none (
    cond (z_oob (S2.1 59 i0 (Int32.toNatClampNeg v3)) 6) none (
    cond (z_oob v3 5) none (
    if (S2.1 39 i0 (Int32.toNatClampNeg (S2.1 59 i0 (Int32.toNatClampNeg v3)))) = (S2.1 60 i0 (Int32.toNatClampNeg v3)) then (
     z_rV (ex 181 [.inr (.inr (12, i0))] S2) (fun S3 =>
     let x4 : Int32 := (v3 + (1 : Int32))
     zr_X12_isSeen ex n 4 [some (.inr (.inr (12, i0))), some (.inl v1), some (.inl (1 : Int32)), some (.inl x4)] [] S3))
    else (
     z_rV (ex 181 [.inr (.inr (12, i0))] S2) (fun S5 =>
     let x6 : Int32 := (v3 + (1 : Int32))
     zr_X12_isSeen ex n 4 [some (.inr (.inr (12, i0))), some (.inl v1), some (.inl (0 : Int32)), some (.inl x6)] [] S5)))))))))
   else (
    cond (z_oob v3 5) none (
    if (S.1 59 i0 (Int32.toNatClampNeg v3)) = v1 then (
     z_rV (ex 180 [.inr (.inr (12, i0))] S) (fun S7 =>
     cond (z_oob v3 5) none (
     z_rV (ex 176 [.inr (.inr (12, i0)), .inl (S7.1 61 i0 (Int32.toNatClampNeg v3))] S7) (fun S8 =>
     cond (z_oob v3 5) none (
     cond (z_oob (S8.1 59 i0 (Int32.toNatClampNeg v3)) 6) none (
     cond (z_oob v3 5) none (
     if (S8.1 39 i0 (Int32.toNatClampNeg (S8.1 59 i0 (Int32.toNatClampNeg v3)))) = (S8.1 60 i0 (Int32.toNatClampNeg v3)) then (
      z_rV (ex 181 [.inr (.inr (12, i0))] S8) (fun S9 =>
      let x10 : Int32 := (v3 + (1 : Int32))
      zr_X12_isSeen ex n 4 [some (.inr (.inr (12, i0))), some (.inl v1), some (.inl (1 : Int32)), some (.inl x10)] [] S9))
     else (
      z_rV (ex 181 [.inr (.inr (12, i0))] S8) (fun S11 =>
      let x12 : Int32 := (v3 + (1 : Int32))
      zr_X12_isSeen ex n 4 [some (.inr (.inr (12, i0))), some (.inl v1), some (.inl (0 : Int32)), some (.inl x12)] [] S11)))))))))
    else (
     let x13 : Int32 := (v3 + (1 : Int32))
     zr_X12_isSeen ex n 4 [some (.inr (.inr (12, i0))), some (.inl v1), some (.inl v2), some (.inl x13)] [] S))))) := rfl
abbrev zr_X12_wets (ex : z_Ex) (n pc : Nat) (ls : z_Lc) (st : List z_AV) (S : z_Mem) : Option (Option z_AV × z_Mem) := z_run true ex false zo_X12_wets zc_X12_wets n pc ls st S
set_option maxRecDepth 100000 in
set_option maxHeartbeats 4000000 in
theorem ze_X12_wets_0 (ex : z_Ex) (n : Nat) (S : z_Mem) (i0 : Nat) (v1 : Int32) (v2 : Int32) : zr_X12_wets ex (n + 1) 0 [some (.inr (.inr (12, i0))), some (.inl v1), some (.inl v2), none, none, none, none] [] S =
 z_rI (ex 129 [.inr (.inr (12, i0)), .inl v1] S) (fun r2 S1 =>
 if r2 = 0 then (
  some (some (.inl (-1 : Int32)), S1))
 else (
  z_rI (ex 124 [.inr (.inr (12, i0)), .inl v2, .inl (0 : Int32), .inl (1 : Int32)] S1) (fun r4 S3 =>
  if r4 = 0 then (
   some (some (.inl (-1 : Int32)), S3))
  else (
   cond (z_oob v1 6) none (
   let x5 : Int32 := (S3.1 39 i0 (Int32.toNatClampNeg v1))
   zr_X12_wets ex n 38 [some (.inr (.inr (12, i0))), some (.inl v1), some (.inl v2), some (.inl x5), some (.inl (0 : Int32)), some (.inl (-5 : Int32)), some (.inl (99 : Int32))] [] S3))))) := rfl
theorem zx_X12_wets (d : Nat) (S : z_Mem) (i0 : Nat) (v1 : Int32) (v2 : Int32) : z_exe z_mt true (d + 1) 195 [.inr (.inr (12, i0)), .inl v1, .inl v2] S = zr_X12_wets (z_exe z_mt true d) (999999 + 1) 0 [some (.inr (.inr (12, i0))), some (.inl v1), some (.inl v2), none, none, none, none] [] S := z_exe_eq (q := (yX12_wets, cX12_wets, 7, (some .int), false, zo_X12_wets, zc_X12_wets, 12, 3)) rfl rfl
set_option maxRecDepth 100000 in
set_option maxHeartbeats 4000000 in
theorem ze_X12_wets_38 (ex : z_Ex) (n : Nat) (S : z_Mem) (i0 : Nat) (v1 : Int32) (v2 : Int32) (v3 : Int32) (v4 : Int32) (v5 : Int32) (v6 : Int32) : zr_X12_wets ex (n + 1) 38 [some (.inr (.inr (12, i0))), some (.inl v1), some (.inl v2), some (.inl v3), some (.inl v4), some (.inl v5), some (.inl v6)] [] S =
 if v6 < 0 then (
  cond (z_oob v1 6) none (
  let S6 : z_Mem := z_sI S 39 i0 (Int32.toNatClampNeg v1) v3
  if v2 = 0 then (
   some (some (.inl v4), S6))
  else (
   some (some (.inl v5), S6))))
 else (
  cond (z_oob v1 6) none (
  let S7 : z_Mem := z_sI S 39 i0 (Int32.toNatClampNeg v1) v6
  z_rI (ex 194 [.inr (.inr (12, i0)), .inl v1] S7) (fun r9 S8 =>
  if r9 = 0 then (
   let x10 : Int32 := (v6 + (-1 : Int32))
   zr_X12_wets ex n 38 [some (.inr (.inr (12, i0))), some (.inl v1), some (.inl v2), some (.inl v3), some (.inl v4), some (.inl v5), some (.inl x10)] [] S8)
  else (
   let x11 : Int32 := (v4 + (1 : Int32))
   let x12 : Int32 := (v6 + (-1 : Int32))
   zr_X12_wets ex n 38 [some (.inr (.inr (12, i0))), some (.inl v1), some (.inl v2), some (.inl v3), some (.inl x11), some (.inl v6), some (.inl x12)] [] S8)))) := rfl
abbrev zr_X12_can (ex : z_Ex) (n pc : Nat) (ls : z_Lc) (st : List z_AV) (S : z_Mem) : Option (Option z_AV × z_Mem) := z_run true ex false zo_X12_can zc_X12_can n pc ls st S
set_option maxRecDepth 100000 in
set_option maxHeartbeats 4000000 in
theorem ze_X12_can_0 (ex : z_Ex) (n : Nat) (S : z_Mem) (i0 : Nat) (v1 : Int32) (v2 : Int32) : zr_X12_can ex (n + 1) 0 [some (.inr (.inr (12, i0))), some (.inl v1), some (.inl v2), none, none, none, none] [] S =
 z_rI (ex 129 [.inr (.inr (12, i0)), .inl v1] S) (fun r2 S1 =>
 if r2 = 0 then (
  some (some (.inl (-1 : Int32)), S1))
 else (
  z_rI (ex 124 [.inr (.inr (12, i0)), .inl v2, .inl (0 : Int32), .inl (1 : Int32)] S1) (fun r4 S3 =>
  if r4 = 0 then (
   some (some (.inl (-1 : Int32)), S3))
  else (
   cond (z_oob v1 6) none (
   let x5 : Int32 := (S3.1 38 i0 (Int32.toNatClampNeg v1))
   zr_X12_can ex n 38 [some (.inr (.inr (12, i0))), some (.inl v1), some (.inl v2), some (.inl x5), some (.inl (0 : Int32)), some (.inl (-5 : Int32)), some (.inl (9 : Int32))] [] S3))))) := rfl
theorem zx_X12_can (d : Nat) (S : z_Mem) (i0 : Nat) (v1 : Int32) (v2 : Int32) : z_exe z_mt true (d + 1) 196 [.inr (.inr (12, i0)), .inl v1, .inl v2] S = zr_X12_can (z_exe z_mt true d) (999999 + 1) 0 [some (.inr (.inr (12, i0))), some (.inl v1), some (.inl v2), none, none, none, none] [] S := z_exe_eq (q := (yX12_can, cX12_can, 7, (some .int), false, zo_X12_can, zc_X12_can, 12, 3)) rfl rfl
set_option maxRecDepth 100000 in
set_option maxHeartbeats 4000000 in
theorem ze_X12_can_38 (ex : z_Ex) (n : Nat) (S : z_Mem) (i0 : Nat) (v1 : Int32) (v2 : Int32) (v3 : Int32) (v4 : Int32) (v5 : Int32) (v6 : Int32) : zr_X12_can ex (n + 1) 38 [some (.inr (.inr (12, i0))), some (.inl v1), some (.inl v2), some (.inl v3), some (.inl v4), some (.inl v5), some (.inl v6)] [] S =
 if v6 < 0 then (
  cond (z_oob v1 6) none (
  let S6 : z_Mem := z_sI S 38 i0 (Int32.toNatClampNeg v1) v3
  if v2 = 0 then (
   some (some (.inl v4), S6))
  else (
   some (some (.inl v5), S6))))
 else (
  cond (z_oob v1 6) none (
  let S7 : z_Mem := z_sI S 38 i0 (Int32.toNatClampNeg v1) v6
  z_rI (ex 194 [.inr (.inr (12, i0)), .inl v1] S7) (fun r9 S8 =>
  if r9 = 0 then (
   let x10 : Int32 := (v6 + (-1 : Int32))
   zr_X12_can ex n 38 [some (.inr (.inr (12, i0))), some (.inl v1), some (.inl v2), some (.inl v3), some (.inl v4), some (.inl v5), some (.inl x10)] [] S8)
  else (
   let x11 : Int32 := (v4 + (1 : Int32))
   let x12 : Int32 := (v6 + (-1 : Int32))
   zr_X12_can ex n 38 [some (.inr (.inr (12, i0))), some (.inl v1), some (.inl v2), some (.inl v3), some (.inl x11), some (.inl v6), some (.inl x12)] [] S8)))) := rfl
abbrev zr_X12_where (ex : z_Ex) (n pc : Nat) (ls : z_Lc) (st : List z_AV) (S : z_Mem) : Option (Option z_AV × z_Mem) := z_run true ex false zo_X12_where zc_X12_where n pc ls st S
set_option maxRecDepth 100000 in
set_option maxHeartbeats 4000000 in
theorem ze_X12_where_0 (ex : z_Ex) (n : Nat) (S : z_Mem) (i0 : Nat) (v1 : Int32) : zr_X12_where ex (n + 1) 0 [some (.inr (.inr (12, i0))), some (.inl v1), none, none, none] [] S =
 z_rI (ex 129 [.inr (.inr (12, i0)), .inl v1] S) (fun r2 S1 =>
 if r2 = 0 then (
  some (some (.inl (-1 : Int32)), S1))
 else (
  zr_X12_where ex n 12 [some (.inr (.inr (12, i0))), some (.inl v1), some (.inl (0 : Int32)), none, none] [] S1)) := rfl
theorem zx_X12_where (d : Nat) (S : z_Mem) (i0 : Nat) (v1 : Int32) : z_exe z_mt true (d + 1) 197 [.inr (.inr (12, i0)), .inl v1] S = zr_X12_where (z_exe z_mt true d) (999999 + 1) 0 [some (.inr (.inr (12, i0))), some (.inl v1), none, none, none] [] S := z_exe_eq (q := (yX12_where, cX12_where, 5, (some .int), false, zo_X12_where, zc_X12_where, 12, 2)) rfl rfl
set_option maxRecDepth 100000 in
set_option maxHeartbeats 4000000 in
theorem ze_X12_where_12 (ex : z_Ex) (n : Nat) (S : z_Mem) (i0 : Nat) (v1 : Int32) (v2 : Int32) : zr_X12_where ex (n + 1) 12 [some (.inr (.inr (12, i0))), some (.inl v1), some (.inl v2), none, none] [] S =
 if (6 : Int32) ≤ v2 then (
  zr_X12_where ex n 40 [some (.inr (.inr (12, i0))), some (.inl v1), some (.inl (0 : Int32)), some (.inl (0 : Int32)), none] [] S)
 else (
  cond (z_oob v2 6) none (
  cond (z_oob v2 6) none (
  let S3 : z_Mem := z_sI S 62 i0 (Int32.toNatClampNeg v2) (S.1 40 i0 (Int32.toNatClampNeg v2))
  let x4 : Int32 := (v2 + (1 : Int32))
  zr_X12_where ex n 12 [some (.inr (.inr (12, i0))), some (.inl v1), some (.inl x4), none, none] [] S3))) := rfl
set_option maxRecDepth 100000 in
set_option maxHeartbeats 4000000 in
theorem ze_X12_where_40 (ex : z_Ex) (n : Nat) (S : z_Mem) (i0 : Nat) (v1 : Int32) (v2 : Int32) (v3 : Int32) : zr_X12_where ex (n + 1) 40 [some (.inr (.inr (12, i0))), some (.inl v1), some (.inl v2), some (.inl v3), none] [] S =
 if (6 : Int32) ≤ v3 then (
  some (some (.inl v2), S))
 else (
  z_rV (ex 136 [.inr (.inr (12, i0)), .inl v1, .inl v3] S) (fun S5 =>
  z_rI (ex 194 [.inr (.inr (12, i0)), .inl (-1 : Int32)] S5) (fun r7 S6 =>
  if r7 = 0 then (
   let x8 : Int32 := (v2 ||| (0 : Int32))
   zr_X12_where ex n 73 [some (.inr (.inr (12, i0))), some (.inl v1), some (.inl x8), some (.inl v3), some (.inl (0 : Int32))] [] S6)
  else (
   let x9 : Int32 := (v2 ||| ((1 : Int32) <<< (v3 &&& 31)))
   zr_X12_where ex n 73 [some (.inr (.inr (12, i0))), some (.inl v1), some (.inl x9), some (.inl v3), some (.inl (0 : Int32))] [] S6)))) := rfl
set_option maxRecDepth 100000 in
set_option maxHeartbeats 4000000 in
theorem ze_X12_where_73 (ex : z_Ex) (n : Nat) (S : z_Mem) (i0 : Nat) (v1 : Int32) (v2 : Int32) (v3 : Int32) (v4 : Int32) : zr_X12_where ex (n + 1) 73 [some (.inr (.inr (12, i0))), some (.inl v1), some (.inl v2), some (.inl v3), some (.inl v4)] [] S =
 if (6 : Int32) ≤ v4 then (
  let x10 : Int32 := (v3 + (1 : Int32))
  zr_X12_where ex n 40 [some (.inr (.inr (12, i0))), some (.inl v1), some (.inl v2), some (.inl x10), none] [] S)
 else (
  cond (z_oob v4 6) none (
  cond (z_oob v4 6) none (
  let S11 : z_Mem := z_sI S 40 i0 (Int32.toNatClampNeg v4) (S.1 62 i0 (Int32.toNatClampNeg v4))
  let x12 : Int32 := (v4 + (1 : Int32))
  zr_X12_where ex n 73 [some (.inr (.inr (12, i0))), some (.inl v1), some (.inl v2), some (.inl v3), some (.inl x12)] [] S11))) := rfl
abbrev zr_X12_divisor (ex : z_Ex) (n pc : Nat) (ls : z_Lc) (st : List z_AV) (S : z_Mem) : Option (Option z_AV × z_Mem) := z_run true ex false zo_X12_divisor zc_X12_divisor n pc ls st S
set_option maxRecDepth 100000 in
set_option maxHeartbeats 4000000 in
theorem ze_X12_divisor_0 (ex : z_Ex) (n : Nat) (S : z_Mem) (i0 : Nat) (v1 : Int32) (v2 : Int32) : zr_X12_divisor ex (n + 1) 0 [some (.inr (.inr (12, i0))), some (.inl v1), some (.inl v2), none, none, none] [] S =
 zr_X12_divisor ex n 5 [none, none, none, some (.inl v1), some (.inl v2), none] [] S := rfl
theorem zx_X12_divisor (d : Nat) (S : z_Mem) (i0 : Nat) (v1 : Int32) (v2 : Int32) : z_exe z_mt true (d + 1) 198 [.inr (.inr (12, i0)), .inl v1, .inl v2] S = zr_X12_divisor (z_exe z_mt true d) (999999 + 1) 0 [some (.inr (.inr (12, i0))), some (.inl v1), some (.inl v2), none, none, none] [] S := z_exe_eq (q := (yX12_divisor, cX12_divisor, 6, (some .int), false, zo_X12_divisor, zc_X12_divisor, 12, 3)) rfl rfl
set_option maxRecDepth 100000 in
set_option maxHeartbeats 4000000 in
theorem ze_X12_divisor_5 (ex : z_Ex) (n : Nat) (S : z_Mem) (v3 : Int32) (v4 : Int32) : zr_X12_divisor ex (n + 1) 5 [none, none, none, some (.inl v3), some (.inl v4), none] [] S =
 if v4 = 0 then (
  some (some (.inl v3), S))
 else (
  if v4 = 0 then none else
  let x1 : Int32 := (v3 - v3 / v4 * v4)
  zr_X12_divisor ex n 5 [none, none, none, some (.inl v4), some (.inl x1), none] [] S) := rfl
abbrev zr_X12_lowest (ex : z_Ex) (n pc : Nat) (ls : z_Lc) (st : List z_AV) (S : z_Mem) : Option (Option z_AV × z_Mem) := z_run true ex false zo_X12_lowest zc_X12_lowest n pc ls st S
set_option maxRecDepth 100000 in
set_option maxHeartbeats 4000000 in
theorem ze_X12_lowest_0 (ex : z_Ex) (n : Nat) (S : z_Mem) (i0 : Nat) (v1 : Int32) (v2 : Int32) (v3 : Int32) : zr_X12_lowest ex (n + 1) 0 [some (.inr (.inr (12, i0))), some (.inl v1), some (.inl v2), some (.inl v3), none] [] S =
 z_rI (ex 198 [.inr (.inr (12, i0)), .inl v1, .inl v2] S) (fun r2 S1 =>
 if v3 = 0 then (
  if r2 = 0 then none else
  some (some (.inr (.inl (Int32.toInt64 (v1 / r2)))), S1))
 else (
  if r2 = 0 then none else
  some (some (.inr (.inl (Int32.toInt64 (v2 / r2)))), S1))) := rfl
theorem zx_X12_lowest (d : Nat) (S : z_Mem) (i0 : Nat) (v1 : Int32) (v2 : Int32) (v3 : Int32) : z_exe z_mt true (d + 1) 199 [.inr (.inr (12, i0)), .inl v1, .inl v2, .inl v3] S = zr_X12_lowest (z_exe z_mt true d) (999999 + 1) 0 [some (.inr (.inr (12, i0))), some (.inl v1), some (.inl v2), some (.inl v3), none] [] S := z_exe_eq (q := (yX12_lowest, cX12_lowest, 5, (some .long), false, zo_X12_lowest, zc_X12_lowest, 12, 4)) rfl rfl
abbrev zr_X12_odds (ex : z_Ex) (n pc : Nat) (ls : z_Lc) (st : List z_AV) (S : z_Mem) : Option (Option z_AV × z_Mem) := z_run true ex false zo_X12_odds zc_X12_odds n pc ls st S
set_option maxRecDepth 100000 in
set_option maxHeartbeats 4000000 in
theorem ze_X12_odds_0 (ex : z_Ex) (n : Nat) (S : z_Mem) (i0 : Nat) (v1 : Int32) (v2 : Int32) (v3 : Int32) : zr_X12_odds ex (n + 1) 0 [some (.inr (.inr (12, i0))), some (.inl v1), some (.inl v2), some (.inl v3), none, none] [] S =
 z_rI (ex 132 [.inr (.inr (12, i0)), .inl v1] S) (fun r2 S1 =>
 if r2 = 0 then (
  some (some (.inr (.inl (Int64.ofNat 9223372036854775808))), S1))
 else (
  z_rI (ex 124 [.inr (.inr (12, i0)), .inl v2, .inl (0 : Int32), .inl (999 : Int32)] S1) (fun r4 S3 =>
  if r4 = 0 then (
   some (some (.inr (.inl (Int64.ofNat 9223372036854775808))), S3))
  else (
   z_rI (ex 124 [.inr (.inr (12, i0)), .inl v3, .inl (0 : Int32), .inl (1 : Int32)] S3) (fun r6 S5 =>
   if r6 = 0 then (
    some (some (.inr (.inl (Int64.ofNat 9223372036854775808))), S5))
   else (
    if (S5.1 12 i0 0) = 0 then (
     some (some (.inr (.inl (Int64.ofNat 9223372036854775808))), S5))
    else (
     zr_X12_odds ex n 47 [some (.inr (.inr (12, i0))), some (.inl v1), some (.inl v2), some (.inl v3), some (.inl (0 : Int32)), some (.inl (0 : Int32))] [] S5))))))) := rfl
theorem zx_X12_odds (d : Nat) (S : z_Mem) (i0 : Nat) (v1 : Int32) (v2 : Int32) (v3 : Int32) : z_exe z_mt true (d + 1) 200 [.inr (.inr (12, i0)), .inl v1, .inl v2, .inl v3] S = zr_X12_odds (z_exe z_mt true d) (999999 + 1) 0 [some (.inr (.inr (12, i0))), some (.inl v1), some (.inl v2), some (.inl v3), none, none] [] S := z_exe_eq (q := (yX12_odds, cX12_odds, 6, (some .long), false, zo_X12_odds, zc_X12_odds, 12, 4)) rfl rfl
set_option maxRecDepth 100000 in
set_option maxHeartbeats 4000000 in
theorem ze_X12_odds_47 (ex : z_Ex) (n : Nat) (S : z_Mem) (i0 : Nat) (v1 : Int32) (v2 : Int32) (v3 : Int32) (v4 : Int32) (v5 : Int32) : zr_X12_odds ex (n + 1) 47 [some (.inr (.inr (12, i0))), some (.inl v1), some (.inl v2), some (.inl v3), some (.inl v4), some (.inl v5)] [] S =
 if (S.1 12 i0 0) ≤ v5 then (
  z_rL (ex 199 [.inr (.inr (12, i0)), .inl v4, .inl (S.1 12 i0 0), .inl v3] S) (fun r8 S7 =>
  some (some (.inr (.inl r8)), S7)))
 else (
  z_rV (ex 180 [.inr (.inr (12, i0))] S) (fun S9 =>
  z_rV (ex 138 [.inr (.inr (12, i0)), .inl v5, .inl (1 : Int32)] S9) (fun S10 =>
  z_rV (ex 176 [.inr (.inr (12, i0)), .inl v1] S10) (fun S11 =>
  z_rI (ex 170 [.inr (.inr (12, i0))] S11) (fun r13 S12 =>
  if v2 < r13 then (
   let x14 : Int32 := (v4 + (0 : Int32))
   z_rV (ex 181 [.inr (.inr (12, i0))] S12) (fun S15 =>
   let x16 : Int32 := (v5 + (1 : Int32))
   zr_X12_odds ex n 47 [some (.inr (.inr (12, i0))), some (.inl v1), some (.inl v2), some (.inl v3), some (.inl x14), some (.inl x16)] [] S15))
  else (
   let x17 : Int32 := (v4 + (1 : Int32))
   z_rV (ex 181 [.inr (.inr (12, i0))] S12) (fun S18 =>
   let x19 : Int32 := (v5 + (1 : Int32))
   zr_X12_odds ex n 47 [some (.inr (.inr (12, i0))), some (.inl v1), some (.inl v2), some (.inl v3), some (.inl x17), some (.inl x19)] [] S18))))))) := rfl
abbrev zr_X12_mean (ex : z_Ex) (n pc : Nat) (ls : z_Lc) (st : List z_AV) (S : z_Mem) : Option (Option z_AV × z_Mem) := z_run true ex false zo_X12_mean zc_X12_mean n pc ls st S
set_option maxRecDepth 100000 in
set_option maxHeartbeats 4000000 in
theorem ze_X12_mean_0 (ex : z_Ex) (n : Nat) (S : z_Mem) (i0 : Nat) (v1 : Int32) (v2 : Int32) : zr_X12_mean ex (n + 1) 0 [some (.inr (.inr (12, i0))), some (.inl v1), some (.inl v2), none] [] S =
 z_rI (ex 132 [.inr (.inr (12, i0)), .inl v1] S) (fun r2 S1 =>
 if r2 = 0 then (
  some (some (.inr (.inl (Int64.ofNat 9223372036854775808))), S1))
 else (
  z_rI (ex 124 [.inr (.inr (12, i0)), .inl v2, .inl (0 : Int32), .inl (1 : Int32)] S1) (fun r4 S3 =>
  if r4 = 0 then (
   some (some (.inr (.inl (Int64.ofNat 9223372036854775808))), S3))
  else (
   if (S3.1 12 i0 0) = 0 then (
    some (some (.inr (.inl (Int64.ofNat 9223372036854775808))), S3))
   else (
    z_rV (ex 180 [.inr (.inr (12, i0))] S3) (fun S5 =>
    z_rV (ex 176 [.inr (.inr (12, i0)), .inl v1] S5) (fun S6 =>
    z_rI (ex 171 [.inr (.inr (12, i0))] S6) (fun r8 S7 =>
    z_rV (ex 181 [.inr (.inr (12, i0))] S7) (fun S9 =>
    z_rL (ex 199 [.inr (.inr (12, i0)), .inl r8, .inl (S9.1 12 i0 0), .inl v2] S9) (fun r11 S10 =>
    some (some (.inr (.inl r11)), S10))))))))))) := rfl
theorem zx_X12_mean (d : Nat) (S : z_Mem) (i0 : Nat) (v1 : Int32) (v2 : Int32) : z_exe z_mt true (d + 1) 201 [.inr (.inr (12, i0)), .inl v1, .inl v2] S = zr_X12_mean (z_exe z_mt true d) (999999 + 1) 0 [some (.inr (.inr (12, i0))), some (.inl v1), some (.inl v2), none] [] S := z_exe_eq (q := (yX12_mean, cX12_mean, 4, (some .long), false, zo_X12_mean, zc_X12_mean, 12, 3)) rfl rfl
abbrev zr_X12_rota (ex : z_Ex) (n pc : Nat) (ls : z_Lc) (st : List z_AV) (S : z_Mem) : Option (Option z_AV × z_Mem) := z_run true ex false zo_X12_rota zc_X12_rota n pc ls st S
set_option maxRecDepth 100000 in
set_option maxHeartbeats 4000000 in
theorem ze_X12_rota_0 (ex : z_Ex) (n : Nat) (S : z_Mem) (i0 : Nat) (v1 : Int32) (v2 : Int32) : zr_X12_rota ex (n + 1) 0 [some (.inr (.inr (12, i0))), some (.inl v1), some (.inl v2)] [] S =
 if v1 = (-1 : Int32) then (
  let S1 : z_Mem := z_sI S 12 i0 47 (0 : Int32)
  some (some (.inl (0 : Int32)), S1))
 else (
  z_rI (ex 124 [.inr (.inr (12, i0)), .inl v1, .inl (0 : Int32), .inl (3 : Int32)] S) (fun r3 S2 =>
  if r3 = 0 then (
   some (some (.inl (-1 : Int32)), S2))
  else (
   if v1 ≤ (1 : Int32) then (
    if (S2.1 12 i0 47) = (10 : Int32) then (
     some (some (.inl (-4 : Int32)), S2))
    else (
     cond (z_oob (S2.1 12 i0 47) 10) none (
     let S4 : z_Mem := z_sI S2 63 i0 (Int32.toNatClampNeg (S2.1 12 i0 47)) v1
     if v1 ≤ (1 : Int32) then (
      cond (z_oob (S4.1 12 i0 47) 10) none (
      let S5 : z_Mem := z_sI S4 64 i0 (Int32.toNatClampNeg (S4.1 12 i0 47)) (0 : Int32)
      let S6 : z_Mem := z_sI S5 12 i0 47 ((S5.1 12 i0 47) + (1 : Int32))
      some (some (.inl (S6.1 12 i0 47)), S6)))
     else (
      cond (z_oob (S4.1 12 i0 47) 10) none (
      let S7 : z_Mem := z_sI S4 64 i0 (Int32.toNatClampNeg (S4.1 12 i0 47)) v2
      let S8 : z_Mem := z_sI S7 12 i0 47 ((S7.1 12 i0 47) + (1 : Int32))
      some (some (.inl (S8.1 12 i0 47)), S8))))))
   else (
    z_rI (ex 129 [.inr (.inr (12, i0)), .inl v2] S2) (fun r10 S9 =>
    if r10 = 0 then (
     some (some (.inl (-1 : Int32)), S9))
    else (
     if (S9.1 12 i0 47) = (10 : Int32) then (
      some (some (.inl (-4 : Int32)), S9))
     else (
      cond (z_oob (S9.1 12 i0 47) 10) none (
      let S11 : z_Mem := z_sI S9 63 i0 (Int32.toNatClampNeg (S9.1 12 i0 47)) v1
      if v1 ≤ (1 : Int32) then (
       cond (z_oob (S11.1 12 i0 47) 10) none (
       let S12 : z_Mem := z_sI S11 64 i0 (Int32.toNatClampNeg (S11.1 12 i0 47)) (0 : Int32)
       let S13 : z_Mem := z_sI S12 12 i0 47 ((S12.1 12 i0 47) + (1 : Int32))
       some (some (.inl (S13.1 12 i0 47)), S13)))
      else (
       cond (z_oob (S11.1 12 i0 47) 10) none (
       let S14 : z_Mem := z_sI S11 64 i0 (Int32.toNatClampNeg (S11.1 12 i0 47)) v2
       let S15 : z_Mem := z_sI S14 12 i0 47 ((S14.1 12 i0 47) + (1 : Int32))
       some (some (.inl (S15.1 12 i0 47)), S15))))))))))) := rfl
theorem zx_X12_rota (d : Nat) (S : z_Mem) (i0 : Nat) (v1 : Int32) (v2 : Int32) : z_exe z_mt true (d + 1) 202 [.inr (.inr (12, i0)), .inl v1, .inl v2] S = zr_X12_rota (z_exe z_mt true d) (999999 + 1) 0 [some (.inr (.inr (12, i0))), some (.inl v1), some (.inl v2)] [] S := z_exe_eq (q := (yX12_rota, cX12_rota, 3, (some .int), false, zo_X12_rota, zc_X12_rota, 12, 3)) rfl rfl
abbrev zr_X12_goRota (ex : z_Ex) (n pc : Nat) (ls : z_Lc) (st : List z_AV) (S : z_Mem) : Option (Option z_AV × z_Mem) := z_run true ex false zo_X12_goRota zc_X12_goRota n pc ls st S
set_option maxRecDepth 100000 in
set_option maxHeartbeats 4000000 in
theorem ze_X12_goRota_0 (ex : z_Ex) (n : Nat) (S : z_Mem) (i0 : Nat) (v1 : Int32) (v2 : Int32) : zr_X12_goRota ex (n + 1) 0 [some (.inr (.inr (12, i0))), some (.inl v1), some (.inl v2)] [] S =
 if v1 = 0 then (
  z_rV (ex 175 [.inr (.inr (12, i0))] S) (fun S1 =>
  if v1 = (1 : Int32) then (
   if (S1.1 12 i0 3) ≤ 0 then (
    if v1 ≤ (1 : Int32) then (
     some (none, S1))
    else (
     if v1 = (2 : Int32) then (
      z_rV (ex 138 [.inr (.inr (12, i0)), .inl v2, .inl (1 : Int32)] S1) (fun S2 =>
      some (none, S2)))
     else (
      z_rV (ex 138 [.inr (.inr (12, i0)), .inl v2, .inl (0 : Int32)] S1) (fun S3 =>
      some (none, S3)))))
   else (
    z_rV (ex 177 [.inr (.inr (12, i0))] S1) (fun S4 =>
    if v1 ≤ (1 : Int32) then (
     some (none, S4))
    else (
     if v1 = (2 : Int32) then (
      z_rV (ex 138 [.inr (.inr (12, i0)), .inl v2, .inl (1 : Int32)] S4) (fun S5 =>
      some (none, S5)))
     else (
      z_rV (ex 138 [.inr (.inr (12, i0)), .inl v2, .inl (0 : Int32)] S4) (fun S6 =>
      some (none, S6)))))))
  else (
   if v1 ≤ (1 : Int32) then (
    some (none, S1))
   else (
    if v1 = (2 : Int32) then (
     z_rV (ex 138 [.inr (.inr (12, i0)), .inl v2, .inl (1 : Int32)] S1) (fun S7 =>
     some (none, S7)))
    else (
     z_rV (ex 138 [.inr (.inr (12, i0)), .inl v2, .inl (0 : Int32)] S1) (fun S8 =>
     some (none, S8)))))))
 else (
  if v1 = (1 : Int32) then (
   if (S.1 12 i0 3) ≤ 0 then (
    if v1 ≤ (1 : Int32) then (
     some (none, S))
    else (
     if v1 = (2 : Int32) then (
      z_rV (ex 138 [.inr (.inr (12, i0)), .inl v2, .inl (1 : Int32)] S) (fun S9 =>
      some (none, S9)))
     else (
      z_rV (ex 138 [.inr (.inr (12, i0)), .inl v2, .inl (0 : Int32)] S) (fun S10 =>
      some (none, S10)))))
   else (
    z_rV (ex 177 [.inr (.inr (12, i0))] S) (fun S11 =>
    if v1 ≤ (1 : Int32) then (
     some (none, S11))
    else (
     if v1 = (2 : Int32) then (
      z_rV (ex 138 [.inr (.inr (12, i0)), .inl v2, .inl (1 : Int32)] S11) (fun S12 =>
      some (none, S12)))
     else (
      z_rV (ex 138 [.inr (.inr (12, i0)), .inl v2, .inl (0 : Int32)] S11) (fun S13 =>
      some (none, S13)))))))
  else (
   if v1 ≤ (1 : Int32) then (
    some (none, S))
   else (
    if v1 = (2 : Int32) then (
     z_rV (ex 138 [.inr (.inr (12, i0)), .inl v2, .inl (1 : Int32)] S) (fun S14 =>
     some (none, S14)))
    else (
     z_rV (ex 138 [.inr (.inr (12, i0)), .inl v2, .inl (0 : Int32)] S) (fun S15 =>
     some (none, S15)))))) := rfl
theorem zx_X12_goRota (d : Nat) (S : z_Mem) (i0 : Nat) (v1 : Int32) (v2 : Int32) : z_exe z_mt true (d + 1) 203 [.inr (.inr (12, i0)), .inl v1, .inl v2] S = zr_X12_goRota (z_exe z_mt true d) (999999 + 1) 0 [some (.inr (.inr (12, i0))), some (.inl v1), some (.inl v2)] [] S := z_exe_eq (q := (yX12_goRota, cX12_goRota, 3, none, false, zo_X12_goRota, zc_X12_goRota, 12, 3)) rfl rfl
abbrev zr_X12_ends (ex : z_Ex) (n pc : Nat) (ls : z_Lc) (st : List z_AV) (S : z_Mem) : Option (Option z_AV × z_Mem) := z_run true ex false zo_X12_ends zc_X12_ends n pc ls st S
set_option maxRecDepth 100000 in
set_option maxHeartbeats 4000000 in
theorem ze_X12_ends_0 (ex : z_Ex) (n : Nat) (S : z_Mem) (i0 : Nat) (v1 : Int32) : zr_X12_ends ex (n + 1) 0 [some (.inr (.inr (12, i0))), some (.inl v1), none] [] S =
 z_rI (ex 124 [.inr (.inr (12, i0)), .inl v1, .inl (0 : Int32), .inl (1 : Int32)] S) (fun r2 S1 =>
 if r2 = 0 then (
  some (some (.inl (-1 : Int32)), S1))
 else (
  z_rV (ex 180 [.inr (.inr (12, i0))] S1) (fun S3 =>
  zr_X12_ends ex n 18 [some (.inr (.inr (12, i0))), some (.inl v1), some (.inl (0 : Int32))] [] S3))) := rfl
theorem zx_X12_ends (d : Nat) (S : z_Mem) (i0 : Nat) (v1 : Int32) : z_exe z_mt true (d + 1) 204 [.inr (.inr (12, i0)), .inl v1] S = zr_X12_ends (z_exe z_mt true d) (999999 + 1) 0 [some (.inr (.inr (12, i0))), some (.inl v1), none] [] S := z_exe_eq (q := (yX12_ends, cX12_ends, 3, (some .int), false, zo_X12_ends, zc_X12_ends, 12, 2)) rfl rfl
set_option maxRecDepth 100000 in
set_option maxHeartbeats 4000000 in
theorem ze_X12_ends_18 (ex : z_Ex) (n : Nat) (S : z_Mem) (i0 : Nat) (v1 : Int32) (v2 : Int32) : zr_X12_ends ex (n + 1) 18 [some (.inr (.inr (12, i0))), some (.inl v1), some (.inl v2)] [] S =
 if (S.1 12 i0 47) ≤ v2 then (
  if v1 = 0 then (
   z_rI (ex 170 [.inr (.inr (12, i0))] S) (fun r5 S4 =>
   z_rV (ex 181 [.inr (.inr (12, i0))] S4) (fun S6 =>
   some (some (.inl r5), S6))))
  else (
   z_rI (ex 172 [.inr (.inr (12, i0))] S) (fun r8 S7 =>
   z_rV (ex 181 [.inr (.inr (12, i0))] S7) (fun S9 =>
   some (some (.inl r8), S9)))))
 else (
  cond (z_oob v2 10) none (
  cond (z_oob v2 10) none (
  z_rV (ex 203 [.inr (.inr (12, i0)), .inl (S.1 63 i0 (Int32.toNatClampNeg v2)), .inl (S.1 64 i0 (Int32.toNatClampNeg v2))] S) (fun S10 =>
  let x11 : Int32 := (v2 + (1 : Int32))
  zr_X12_ends ex n 18 [some (.inr (.inr (12, i0))), some (.inl v1), some (.inl x11)] [] S10)))) := rfl
abbrev zr_X12_book (ex : z_Ex) (n pc : Nat) (ls : z_Lc) (st : List z_AV) (S : z_Mem) : Option (Option z_AV × z_Mem) := z_run true ex false zo_X12_book zc_X12_book n pc ls st S
set_option maxRecDepth 100000 in
set_option maxHeartbeats 4000000 in
theorem ze_X12_book_0 (ex : z_Ex) (n : Nat) (S : z_Mem) (i0 : Nat) (v1 : Int32) (v2 : Int32) : zr_X12_book ex (n + 1) 0 [some (.inr (.inr (12, i0))), some (.inl v1), some (.inl v2)] [] S =
 if v1 = (-1 : Int32) then (
  let S1 : z_Mem := z_sI S 12 i0 48 (0 : Int32)
  some (some (.inl (0 : Int32)), S1))
 else (
  z_rI (ex 129 [.inr (.inr (12, i0)), .inl v1] S) (fun r3 S2 =>
  if r3 = 0 then (
   some (some (.inl (-1 : Int32)), S2))
  else (
   z_rI (ex 131 [.inr (.inr (12, i0)), .inl v2] S2) (fun r5 S4 =>
   if r5 = 0 then (
    some (some (.inl (-2 : Int32)), S4))
   else (
    if (S4.1 12 i0 48) = (8 : Int32) then (
     some (some (.inl (-4 : Int32)), S4))
    else (
     cond (z_oob (S4.1 12 i0 48) 8) none (
     let S6 : z_Mem := z_sI S4 65 i0 (Int32.toNatClampNeg (S4.1 12 i0 48)) v1
     cond (z_oob (S6.1 12 i0 48) 8) none (
     let S7 : z_Mem := z_sI S6 66 i0 (Int32.toNatClampNeg (S6.1 12 i0 48)) v2
     let S8 : z_Mem := z_sI S7 12 i0 48 ((S7.1 12 i0 48) + (1 : Int32))
     some (some (.inl (S8.1 12 i0 48)), S8))))))))) := rfl
theorem zx_X12_book (d : Nat) (S : z_Mem) (i0 : Nat) (v1 : Int32) (v2 : Int32) : z_exe z_mt true (d + 1) 205 [.inr (.inr (12, i0)), .inl v1, .inl v2] S = zr_X12_book (z_exe z_mt true d) (999999 + 1) 0 [some (.inr (.inr (12, i0))), some (.inl v1), some (.inl v2)] [] S := z_exe_eq (q := (yX12_book, cX12_book, 3, (some .int), false, zo_X12_book, zc_X12_book, 12, 3)) rfl rfl
abbrev zr_X12_looked (ex : z_Ex) (n pc : Nat) (ls : z_Lc) (st : List z_AV) (S : z_Mem) : Option (Option z_AV × z_Mem) := z_run true ex false zo_X12_looked zc_X12_looked n pc ls st S
set_option maxRecDepth 100000 in
set_option maxHeartbeats 4000000 in
theorem ze_X12_looked_0 (ex : z_Ex) (n : Nat) (S : z_Mem) (i0 : Nat) : zr_X12_looked ex (n + 1) 0 [some (.inr (.inr (12, i0))), none] [] S =
 zr_X12_looked ex n 2 [some (.inr (.inr (12, i0))), some (.inl (0 : Int32))] [] S := rfl
theorem zx_X12_looked (d : Nat) (S : z_Mem) (i0 : Nat) : z_exe z_mt true (d + 1) 206 [.inr (.inr (12, i0))] S = zr_X12_looked (z_exe z_mt true d) (999999 + 1) 0 [some (.inr (.inr (12, i0))), none] [] S := z_exe_eq (q := (yX12_looked, cX12_looked, 2, (some .int), false, zo_X12_looked, zc_X12_looked, 12, 1)) rfl rfl
set_option maxRecDepth 100000 in
set_option maxHeartbeats 4000000 in
theorem ze_X12_looked_2 (ex : z_Ex) (n : Nat) (S : z_Mem) (i0 : Nat) (v1 : Int32) : zr_X12_looked ex (n + 1) 2 [some (.inr (.inr (12, i0))), some (.inl v1)] [] S =
 if (S.1 12 i0 48) ≤ v1 then (
  some (some (.inl (-5 : Int32)), S))
 else (
  cond (z_oob v1 8) none (
  cond (z_oob (S.1 65 i0 (Int32.toNatClampNeg v1)) 6) none (
  cond (z_oob v1 8) none (
  if (S.1 39 i0 (Int32.toNatClampNeg (S.1 65 i0 (Int32.toNatClampNeg v1)))) = (S.1 66 i0 (Int32.toNatClampNeg v1)) then (
   let x1 : Int32 := (v1 + (1 : Int32))
   zr_X12_looked ex n 2 [some (.inr (.inr (12, i0))), some (.inl x1)] [] S)
  else (
   some (some (.inl v1), S)))))) := rfl
abbrev zr_X12_judge (ex : z_Ex) (n pc : Nat) (ls : z_Lc) (st : List z_AV) (S : z_Mem) : Option (Option z_AV × z_Mem) := z_run true ex false zo_X12_judge zc_X12_judge n pc ls st S
set_option maxRecDepth 100000 in
set_option maxHeartbeats 4000000 in
theorem ze_X12_judge_0 (ex : z_Ex) (n : Nat) (S : z_Mem) (i0 : Nat) (v1 : Int32) (v2 : Int32) : zr_X12_judge ex (n + 1) 0 [some (.inr (.inr (12, i0))), some (.inl v1), some (.inl v2), none] [] S =
 z_rI (ex 222 [.inr (.inr (12, i0)), .inl v1] S) (fun r2 S1 =>
 if r2 = 0 then (
  some (some (.inl (-1 : Int32)), S1))
 else (
  cond (z_oob v1 6) none (
  if (S1.1 81 i0 (Int32.toNatClampNeg v1)) ≤ 0 then (
   zr_X12_judge ex n 24 [some (.inr (.inr (12, i0))), some (.inl v1), some (.inl v2), some (.inl (0 : Int32))] [] S1)
  else (
   some (some (.inl (-12 : Int32)), S1))))) := rfl
theorem zx_X12_judge (d : Nat) (S : z_Mem) (i0 : Nat) (v1 : Int32) (v2 : Int32) : z_exe z_mt true (d + 1) 207 [.inr (.inr (12, i0)), .inl v1, .inl v2] S = zr_X12_judge (z_exe z_mt true d) (999999 + 1) 0 [some (.inr (.inr (12, i0))), some (.inl v1), some (.inl v2), none] [] S := z_exe_eq (q := (yX12_judge, cX12_judge, 4, (some .int), false, zo_X12_judge, zc_X12_judge, 12, 3)) rfl rfl
set_option maxRecDepth 100000 in
set_option maxHeartbeats 4000000 in
theorem ze_X12_judge_24 (ex : z_Ex) (n : Nat) (S : z_Mem) (i0 : Nat) (v1 : Int32) (v2 : Int32) (v3 : Int32) : zr_X12_judge ex (n + 1) 24 [some (.inr (.inr (12, i0))), some (.inl v1), some (.inl v2), some (.inl v3)] [] S =
 if (S.1 12 i0 0) ≤ v3 then (
  some (some (.inl (-5 : Int32)), S))
 else (
  cond (z_oob v1 6) none (
  if (S.1 81 i0 (Int32.toNatClampNeg v1)) < 0 then (
   some (some (.inl ((100 : Int32) + v3)), S))
  else (
   if v2 < 0 then (
    some (some (.inl ((100 : Int32) + v3)), S))
   else (
    cond (z_oob v1 6) none (
    if v2 ≤ (((S.1 82 i0 (Int32.toNatClampNeg v1)) - v3) - (1 : Int32)) then (
     cond (z_oob ((((60 : Int32) * v1) + v2) + v3) 360) none (
     cond (z_oob v3 6) none (
     if (lg_cmp (S.2.1 83 i0 (Int32.toNatClampNeg ((((60 : Int32) * v1) + v2) + v3))) (Int32.toInt64 (S.1 39 i0 (Int32.toNatClampNeg v3)))) = 0 then (
      let x3 : Int32 := (v3 + (1 : Int32))
      zr_X12_judge ex n 24 [some (.inr (.inr (12, i0))), some (.inl v1), some (.inl v2), some (.inl x3)] [] S)
     else (
      some (some (.inl v3), S)))))
    else (
     some (some (.inl ((100 : Int32) + v3)), S))))))) := rfl
abbrev zr_X12_image (ex : z_Ex) (n pc : Nat) (ls : z_Lc) (st : List z_AV) (S : z_Mem) : Option (Option z_AV × z_Mem) := z_run true ex false zo_X12_image zc_X12_image n pc ls st S
set_option maxRecDepth 100000 in
set_option maxHeartbeats 4000000 in
theorem ze_X12_image_0 (ex : z_Ex) (n : Nat) (S : z_Mem) (i0 : Nat) : zr_X12_image ex (n + 1) 0 [some (.inr (.inr (12, i0))), none] [] S =
 if (1 : Int32) &&& 1 = (1 : Int32) then
 let S1 : z_Mem := z_sI S 12 i0 53 (1 : Int32)
 let S2 : z_Mem := z_sI S1 12 i0 54 (S1.1 12 i0 12)
 let S3 : z_Mem := z_sI S2 12 i0 55 (S2.1 12 i0 0)
 let S4 : z_Mem := z_sI S3 12 i0 56 (S3.1 12 i0 1)
 let S5 : z_Mem := z_sI S4 12 i0 57 (S4.1 12 i0 2)
 let S6 : z_Mem := z_sI S5 12 i0 58 (S5.1 12 i0 3)
 let S7 : z_Mem := z_sI S6 12 i0 59 (S6.1 12 i0 4)
 let S8 : z_Mem := z_sI S7 12 i0 60 (S7.1 12 i0 42)
 let S9 : z_Mem := z_sI S8 12 i0 61 (S8.1 12 i0 47)
 let S10 : z_Mem := z_sI S9 12 i0 62 (S9.1 12 i0 48)
 zr_X12_image ex n 79 [some (.inr (.inr (12, i0))), some (.inl (0 : Int32))] [] S10
 else none := rfl
theorem zx_X12_image (d : Nat) (S : z_Mem) (i0 : Nat) : z_exe z_mt true (d + 1) 208 [.inr (.inr (12, i0))] S = zr_X12_image (z_exe z_mt true d) (999999 + 1) 0 [some (.inr (.inr (12, i0))), none] [] S := z_exe_eq (q := (yX12_image, cX12_image, 2, (some .int), false, zo_X12_image, zc_X12_image, 12, 1)) rfl rfl
set_option maxRecDepth 100000 in
set_option maxHeartbeats 4000000 in
theorem ze_X12_image_79 (ex : z_Ex) (n : Nat) (S : z_Mem) (i0 : Nat) (v1 : Int32) : zr_X12_image ex (n + 1) 79 [some (.inr (.inr (12, i0))), some (.inl v1)] [] S =
 if (6 : Int32) ≤ v1 then (
  zr_X12_image ex n 153 [some (.inr (.inr (12, i0))), some (.inl (0 : Int32))] [] S)
 else (
  cond (z_oob v1 6) none (
  cond (z_oob v1 6) none (
  let S11 : z_Mem := z_sI S 67 i0 (Int32.toNatClampNeg v1) (S.1 37 i0 (Int32.toNatClampNeg v1))
  cond (z_oob v1 6) none (
  cond (z_oob v1 6) none (
  let S12 : z_Mem := z_sI S11 68 i0 (Int32.toNatClampNeg v1) (S11.1 38 i0 (Int32.toNatClampNeg v1))
  cond (z_oob v1 6) none (
  cond (z_oob v1 6) none (
  let S13 : z_Mem := z_sI S12 69 i0 (Int32.toNatClampNeg v1) (S12.1 39 i0 (Int32.toNatClampNeg v1))
  cond (z_oob v1 6) none (
  cond (z_oob v1 6) none (
  let S14 : z_Mem := z_sI S13 70 i0 (Int32.toNatClampNeg v1) (S13.1 40 i0 (Int32.toNatClampNeg v1))
  cond (z_oob v1 6) none (
  cond (z_oob v1 6) none (
  let S15 : z_Mem := z_sI S14 71 i0 (Int32.toNatClampNeg v1) (S14.1 41 i0 (Int32.toNatClampNeg v1))
  let x16 : Int32 := (v1 + (1 : Int32))
  zr_X12_image ex n 79 [some (.inr (.inr (12, i0))), some (.inl x16)] [] S15))))))))))) := rfl
set_option maxRecDepth 100000 in
set_option maxHeartbeats 4000000 in
theorem ze_X12_image_153 (ex : z_Ex) (n : Nat) (S : z_Mem) (i0 : Nat) (v1 : Int32) : zr_X12_image ex (n + 1) 153 [some (.inr (.inr (12, i0))), some (.inl v1)] [] S =
 if (24 : Int32) ≤ v1 then (
  zr_X12_image ex n 179 [some (.inr (.inr (12, i0))), some (.inl (0 : Int32))] [] S)
 else (
  cond (z_oob v1 24) none (
  cond (z_oob v1 24) none (
  let S17 : z_Mem := z_sI S 72 i0 (Int32.toNatClampNeg v1) (S.1 42 i0 (Int32.toNatClampNeg v1))
  let x18 : Int32 := (v1 + (1 : Int32))
  zr_X12_image ex n 153 [some (.inr (.inr (12, i0))), some (.inl x18)] [] S17))) := rfl
set_option maxRecDepth 100000 in
set_option maxHeartbeats 4000000 in
theorem ze_X12_image_179 (ex : z_Ex) (n : Nat) (S : z_Mem) (i0 : Nat) (v1 : Int32) : zr_X12_image ex (n + 1) 179 [some (.inr (.inr (12, i0))), some (.inl v1)] [] S =
 if (5 : Int32) ≤ v1 then (
  zr_X12_image ex n 228 [some (.inr (.inr (12, i0))), some (.inl (0 : Int32))] [] S)
 else (
  cond (z_oob v1 5) none (
  cond (z_oob v1 5) none (
  let S19 : z_Mem := z_sI S 73 i0 (Int32.toNatClampNeg v1) (S.1 59 i0 (Int32.toNatClampNeg v1))
  cond (z_oob v1 5) none (
  cond (z_oob v1 5) none (
  let S20 : z_Mem := z_sI S19 74 i0 (Int32.toNatClampNeg v1) (S19.1 60 i0 (Int32.toNatClampNeg v1))
  cond (z_oob v1 5) none (
  cond (z_oob v1 5) none (
  let S21 : z_Mem := z_sI S20 75 i0 (Int32.toNatClampNeg v1) (S20.1 61 i0 (Int32.toNatClampNeg v1))
  let x22 : Int32 := (v1 + (1 : Int32))
  zr_X12_image ex n 179 [some (.inr (.inr (12, i0))), some (.inl x22)] [] S21))))))) := rfl
set_option maxRecDepth 100000 in
set_option maxHeartbeats 4000000 in
theorem ze_X12_image_228 (ex : z_Ex) (n : Nat) (S : z_Mem) (i0 : Nat) (v1 : Int32) : zr_X12_image ex (n + 1) 228 [some (.inr (.inr (12, i0))), some (.inl v1)] [] S =
 if (10 : Int32) ≤ v1 then (
  zr_X12_image ex n 266 [some (.inr (.inr (12, i0))), some (.inl (0 : Int32))] [] S)
 else (
  cond (z_oob v1 10) none (
  cond (z_oob v1 10) none (
  let S23 : z_Mem := z_sI S 76 i0 (Int32.toNatClampNeg v1) (S.1 63 i0 (Int32.toNatClampNeg v1))
  cond (z_oob v1 10) none (
  cond (z_oob v1 10) none (
  let S24 : z_Mem := z_sI S23 77 i0 (Int32.toNatClampNeg v1) (S23.1 64 i0 (Int32.toNatClampNeg v1))
  let x25 : Int32 := (v1 + (1 : Int32))
  zr_X12_image ex n 228 [some (.inr (.inr (12, i0))), some (.inl x25)] [] S24))))) := rfl
set_option maxRecDepth 100000 in
set_option maxHeartbeats 4000000 in
theorem ze_X12_image_266 (ex : z_Ex) (n : Nat) (S : z_Mem) (i0 : Nat) (v1 : Int32) : zr_X12_image ex (n + 1) 266 [some (.inr (.inr (12, i0))), some (.inl v1)] [] S =
 if (8 : Int32) ≤ v1 then (
  some (some (.inl (S.1 12 i0 0)), S))
 else (
  cond (z_oob v1 8) none (
  cond (z_oob v1 8) none (
  let S26 : z_Mem := z_sI S 78 i0 (Int32.toNatClampNeg v1) (S.1 65 i0 (Int32.toNatClampNeg v1))
  cond (z_oob v1 8) none (
  cond (z_oob v1 8) none (
  let S27 : z_Mem := z_sI S26 79 i0 (Int32.toNatClampNeg v1) (S26.1 66 i0 (Int32.toNatClampNeg v1))
  let x28 : Int32 := (v1 + (1 : Int32))
  zr_X12_image ex n 266 [some (.inr (.inr (12, i0))), some (.inl x28)] [] S27))))) := rfl
abbrev zr_X12_undo (ex : z_Ex) (n pc : Nat) (ls : z_Lc) (st : List z_AV) (S : z_Mem) : Option (Option z_AV × z_Mem) := z_run true ex false zo_X12_undo zc_X12_undo n pc ls st S
set_option maxRecDepth 100000 in
set_option maxHeartbeats 4000000 in
theorem ze_X12_undo_0 (ex : z_Ex) (n : Nat) (S : z_Mem) (i0 : Nat) : zr_X12_undo ex (n + 1) 0 [some (.inr (.inr (12, i0))), none] [] S =
 if (S.1 12 i0 53) = 0 then (
  some (some (.inl (-3 : Int32)), S))
 else (
  let S1 : z_Mem := z_sI S 12 i0 12 (S.1 12 i0 54)
  let S2 : z_Mem := z_sI S1 12 i0 0 (S1.1 12 i0 55)
  let S3 : z_Mem := z_sI S2 12 i0 1 (S2.1 12 i0 56)
  let S4 : z_Mem := z_sI S3 12 i0 2 (S3.1 12 i0 57)
  let S5 : z_Mem := z_sI S4 12 i0 3 (S4.1 12 i0 58)
  let S6 : z_Mem := z_sI S5 12 i0 4 (S5.1 12 i0 59)
  let S7 : z_Mem := z_sI S6 12 i0 42 (S6.1 12 i0 60)
  let S8 : z_Mem := z_sI S7 12 i0 47 (S7.1 12 i0 61)
  let S9 : z_Mem := z_sI S8 12 i0 48 (S8.1 12 i0 62)
  zr_X12_undo ex n 84 [some (.inr (.inr (12, i0))), some (.inl (0 : Int32))] [] S9) := rfl
theorem zx_X12_undo (d : Nat) (S : z_Mem) (i0 : Nat) : z_exe z_mt true (d + 1) 209 [.inr (.inr (12, i0))] S = zr_X12_undo (z_exe z_mt true d) (999999 + 1) 0 [some (.inr (.inr (12, i0))), none] [] S := z_exe_eq (q := (yX12_undo, cX12_undo, 2, (some .int), false, zo_X12_undo, zc_X12_undo, 12, 1)) rfl rfl
set_option maxRecDepth 100000 in
set_option maxHeartbeats 4000000 in
theorem ze_X12_undo_84 (ex : z_Ex) (n : Nat) (S : z_Mem) (i0 : Nat) (v1 : Int32) : zr_X12_undo ex (n + 1) 84 [some (.inr (.inr (12, i0))), some (.inl v1)] [] S =
 if (6 : Int32) ≤ v1 then (
  zr_X12_undo ex n 158 [some (.inr (.inr (12, i0))), some (.inl (0 : Int32))] [] S)
 else (
  cond (z_oob v1 6) none (
  cond (z_oob v1 6) none (
  let S10 : z_Mem := z_sI S 37 i0 (Int32.toNatClampNeg v1) (S.1 67 i0 (Int32.toNatClampNeg v1))
  cond (z_oob v1 6) none (
  cond (z_oob v1 6) none (
  let S11 : z_Mem := z_sI S10 38 i0 (Int32.toNatClampNeg v1) (S10.1 68 i0 (Int32.toNatClampNeg v1))
  cond (z_oob v1 6) none (
  cond (z_oob v1 6) none (
  let S12 : z_Mem := z_sI S11 39 i0 (Int32.toNatClampNeg v1) (S11.1 69 i0 (Int32.toNatClampNeg v1))
  cond (z_oob v1 6) none (
  cond (z_oob v1 6) none (
  let S13 : z_Mem := z_sI S12 40 i0 (Int32.toNatClampNeg v1) (S12.1 70 i0 (Int32.toNatClampNeg v1))
  cond (z_oob v1 6) none (
  cond (z_oob v1 6) none (
  let S14 : z_Mem := z_sI S13 41 i0 (Int32.toNatClampNeg v1) (S13.1 71 i0 (Int32.toNatClampNeg v1))
  let x15 : Int32 := (v1 + (1 : Int32))
  zr_X12_undo ex n 84 [some (.inr (.inr (12, i0))), some (.inl x15)] [] S14))))))))))) := rfl
set_option maxRecDepth 100000 in
set_option maxHeartbeats 4000000 in
theorem ze_X12_undo_158 (ex : z_Ex) (n : Nat) (S : z_Mem) (i0 : Nat) (v1 : Int32) : zr_X12_undo ex (n + 1) 158 [some (.inr (.inr (12, i0))), some (.inl v1)] [] S =
 if (24 : Int32) ≤ v1 then (
  zr_X12_undo ex n 184 [some (.inr (.inr (12, i0))), some (.inl (0 : Int32))] [] S)
 else (
  cond (z_oob v1 24) none (
  cond (z_oob v1 24) none (
  let S16 : z_Mem := z_sI S 42 i0 (Int32.toNatClampNeg v1) (S.1 72 i0 (Int32.toNatClampNeg v1))
  let x17 : Int32 := (v1 + (1 : Int32))
  zr_X12_undo ex n 158 [some (.inr (.inr (12, i0))), some (.inl x17)] [] S16))) := rfl
set_option maxRecDepth 100000 in
set_option maxHeartbeats 4000000 in
theorem ze_X12_undo_184 (ex : z_Ex) (n : Nat) (S : z_Mem) (i0 : Nat) (v1 : Int32) : zr_X12_undo ex (n + 1) 184 [some (.inr (.inr (12, i0))), some (.inl v1)] [] S =
 if (5 : Int32) ≤ v1 then (
  zr_X12_undo ex n 233 [some (.inr (.inr (12, i0))), some (.inl (0 : Int32))] [] S)
 else (
  cond (z_oob v1 5) none (
  cond (z_oob v1 5) none (
  let S18 : z_Mem := z_sI S 59 i0 (Int32.toNatClampNeg v1) (S.1 73 i0 (Int32.toNatClampNeg v1))
  cond (z_oob v1 5) none (
  cond (z_oob v1 5) none (
  let S19 : z_Mem := z_sI S18 60 i0 (Int32.toNatClampNeg v1) (S18.1 74 i0 (Int32.toNatClampNeg v1))
  cond (z_oob v1 5) none (
  cond (z_oob v1 5) none (
  let S20 : z_Mem := z_sI S19 61 i0 (Int32.toNatClampNeg v1) (S19.1 75 i0 (Int32.toNatClampNeg v1))
  let x21 : Int32 := (v1 + (1 : Int32))
  zr_X12_undo ex n 184 [some (.inr (.inr (12, i0))), some (.inl x21)] [] S20))))))) := rfl
set_option maxRecDepth 100000 in
set_option maxHeartbeats 4000000 in
theorem ze_X12_undo_233 (ex : z_Ex) (n : Nat) (S : z_Mem) (i0 : Nat) (v1 : Int32) : zr_X12_undo ex (n + 1) 233 [some (.inr (.inr (12, i0))), some (.inl v1)] [] S =
 if (10 : Int32) ≤ v1 then (
  zr_X12_undo ex n 271 [some (.inr (.inr (12, i0))), some (.inl (0 : Int32))] [] S)
 else (
  cond (z_oob v1 10) none (
  cond (z_oob v1 10) none (
  let S22 : z_Mem := z_sI S 63 i0 (Int32.toNatClampNeg v1) (S.1 76 i0 (Int32.toNatClampNeg v1))
  cond (z_oob v1 10) none (
  cond (z_oob v1 10) none (
  let S23 : z_Mem := z_sI S22 64 i0 (Int32.toNatClampNeg v1) (S22.1 77 i0 (Int32.toNatClampNeg v1))
  let x24 : Int32 := (v1 + (1 : Int32))
  zr_X12_undo ex n 233 [some (.inr (.inr (12, i0))), some (.inl x24)] [] S23))))) := rfl
set_option maxRecDepth 100000 in
set_option maxHeartbeats 4000000 in
theorem ze_X12_undo_271 (ex : z_Ex) (n : Nat) (S : z_Mem) (i0 : Nat) (v1 : Int32) : zr_X12_undo ex (n + 1) 271 [some (.inr (.inr (12, i0))), some (.inl v1)] [] S =
 if (8 : Int32) ≤ v1 then (
  some (some (.inl (S.1 12 i0 0)), S))
 else (
  cond (z_oob v1 8) none (
  cond (z_oob v1 8) none (
  let S25 : z_Mem := z_sI S 65 i0 (Int32.toNatClampNeg v1) (S.1 78 i0 (Int32.toNatClampNeg v1))
  cond (z_oob v1 8) none (
  cond (z_oob v1 8) none (
  let S26 : z_Mem := z_sI S25 66 i0 (Int32.toNatClampNeg v1) (S25.1 79 i0 (Int32.toNatClampNeg v1))
  let x27 : Int32 := (v1 + (1 : Int32))
  zr_X12_undo ex n 271 [some (.inr (.inr (12, i0))), some (.inl x27)] [] S26))))) := rfl
abbrev zr_X12_body (ex : z_Ex) (n pc : Nat) (ls : z_Lc) (st : List z_AV) (S : z_Mem) : Option (Option z_AV × z_Mem) := z_run true ex false zo_X12_body zc_X12_body n pc ls st S
set_option maxRecDepth 100000 in
set_option maxHeartbeats 4000000 in
theorem ze_X12_body_0 (ex : z_Ex) (n : Nat) (S : z_Mem) (i0 : Nat) (v1 : Int32) : zr_X12_body ex (n + 1) 0 [some (.inr (.inr (12, i0))), some (.inl v1)] [] S =
 if (20 : Int32) ≤ (S.1 12 i0 76) then (
  let S1 : z_Mem := z_sI S 12 i0 76 ((S.1 12 i0 76) + (1 : Int32))
  some (none, S1))
 else (
  cond (z_oob (S.1 12 i0 76) 20) none (
  let S2 : z_Mem := z_sI S 80 i0 (Int32.toNatClampNeg (S.1 12 i0 76)) v1
  let S3 : z_Mem := z_sI S2 12 i0 76 ((S2.1 12 i0 76) + (1 : Int32))
  some (none, S3))) := rfl
theorem zx_X12_body (d : Nat) (S : z_Mem) (i0 : Nat) (v1 : Int32) : z_exe z_mt true (d + 1) 210 [.inr (.inr (12, i0)), .inl v1] S = zr_X12_body (z_exe z_mt true d) (999999 + 1) 0 [some (.inr (.inr (12, i0))), some (.inl v1)] [] S := z_exe_eq (q := (yX12_body, cX12_body, 2, none, false, zo_X12_body, zc_X12_body, 12, 2)) rfl rfl
abbrev zr_X12_pairDrips (ex : z_Ex) (n pc : Nat) (ls : z_Lc) (st : List z_AV) (S : z_Mem) : Option (Option z_AV × z_Mem) := z_run true ex false zo_X12_pairDrips zc_X12_pairDrips n pc ls st S
set_option maxRecDepth 100000 in
set_option maxHeartbeats 4000000 in
theorem ze_X12_pairDrips_0 (ex : z_Ex) (n : Nat) (S : z_Mem) (i0 : Nat) (v1 : Int32) (v2 : Int32) : zr_X12_pairDrips ex (n + 1) 0 [some (.inr (.inr (12, i0))), some (.inl v1), some (.inl v2)] [] S =
 z_rV (ex 210 [.inr (.inr (12, i0)), .inl (10 : Int32)] S) (fun S1 =>
 some (some (.inl (v2 + v1)), S1)) := rfl
theorem zx_X12_pairDrips (d : Nat) (S : z_Mem) (i0 : Nat) (v1 : Int32) (v2 : Int32) : z_exe z_mt true (d + 1) 211 [.inr (.inr (12, i0)), .inl v1, .inl v2] S = zr_X12_pairDrips (z_exe z_mt true d) (999999 + 1) 0 [some (.inr (.inr (12, i0))), some (.inl v1), some (.inl v2)] [] S := z_exe_eq (q := (yX12_pairDrips, cX12_pairDrips, 3, (some .int), false, zo_X12_pairDrips, zc_X12_pairDrips, 12, 3)) rfl rfl
abbrev zr_X12_dripsAct (ex : z_Ex) (n pc : Nat) (ls : z_Lc) (st : List z_AV) (S : z_Mem) : Option (Option z_AV × z_Mem) := z_run true ex false zo_X12_dripsAct zc_X12_dripsAct n pc ls st S
set_option maxRecDepth 100000 in
set_option maxHeartbeats 4000000 in
theorem ze_X12_dripsAct_0 (ex : z_Ex) (n : Nat) (S : z_Mem) (i0 : Nat) (v1 : Int32) (v2 : Int32) : zr_X12_dripsAct ex (n + 1) 0 [some (.inr (.inr (12, i0))), some (.inl v1), some (.inl v2)] [] S =
 cond (z_oob v1 6) none (
 let x1 : Int32 := (S.1 37 i0 (Int32.toNatClampNeg v1))
 if x1 = (2 : Int32) then (
  z_rV (ex 210 [.inr (.inr (12, i0)), .inl (30 : Int32)] S) (fun S2 =>
  z_rI (ex 211 [.inr (.inr (12, i0)), .inl v1, .inl (v2 * (3 : Int32))] S2) (fun r4 S3 =>
  some (some (.inl r4), S3)))) else
 if x1 = (3 : Int32) then (
  z_rI (ex 211 [.inr (.inr (12, i0)), .inl v1, .inl v2] S) (fun r6 S5 =>
  some (some (.inl r6), S5))) else
 if x1 = (4 : Int32) then (
  z_rV (ex 210 [.inr (.inr (12, i0)), .inl (50 : Int32)] S) (fun S7 =>
  z_rI (ex 211 [.inr (.inr (12, i0)), .inl v1, .inl v2] S7) (fun r9 S8 =>
  some (some (.inl (-r9)), S8)))) else
 if x1 = (5 : Int32) then (
  z_rV (ex 210 [.inr (.inr (12, i0)), .inl (30 : Int32)] S) (fun S10 =>
  z_rI (ex 211 [.inr (.inr (12, i0)), .inl v1, .inl (v2 * (3 : Int32))] S10) (fun r12 S11 =>
  some (some (.inl r12), S11)))) else
 if x1 = (6 : Int32) then (
  z_rV (ex 210 [.inr (.inr (12, i0)), .inl (71 : Int32)] S) (fun S13 =>
  z_rI (ex 211 [.inr (.inr (12, i0)), .inl v1, .inl v2] S13) (fun r15 S14 =>
  cond (z_oob v1 6) none (
  some (some (.inl (r15 ^^^ (S14.1 38 i0 (Int32.toNatClampNeg v1)))), S14))))) else
 z_rI (ex 211 [.inr (.inr (12, i0)), .inl v1, .inl v2] S) (fun r17 S16 =>
 some (some (.inl r17), S16))) := rfl
theorem zx_X12_dripsAct (d : Nat) (S : z_Mem) (i0 : Nat) (v1 : Int32) (v2 : Int32) : z_exe z_mt true (d + 1) 212 [.inr (.inr (12, i0)), .inl v1, .inl v2] S = zr_X12_dripsAct (z_exe z_mt true d) (999999 + 1) 0 [some (.inr (.inr (12, i0))), some (.inl v1), some (.inl v2)] [] S := z_exe_eq (q := (yX12_dripsAct, cX12_dripsAct, 3, (some .int), false, zo_X12_dripsAct, zc_X12_dripsAct, 12, 3)) rfl rfl
abbrev zr_X12_pairSteams (ex : z_Ex) (n pc : Nat) (ls : z_Lc) (st : List z_AV) (S : z_Mem) : Option (Option z_AV × z_Mem) := z_run true ex false zo_X12_pairSteams zc_X12_pairSteams n pc ls st S
set_option maxRecDepth 100000 in
set_option maxHeartbeats 4000000 in
theorem ze_X12_pairSteams_0 (ex : z_Ex) (n : Nat) (S : z_Mem) (i0 : Nat) (v1 : Int32) (v2 : Int32) : zr_X12_pairSteams ex (n + 1) 0 [some (.inr (.inr (12, i0))), some (.inl v1), some (.inl v2)] [] S =
 z_rV (ex 210 [.inr (.inr (12, i0)), .inl (11 : Int32)] S) (fun S1 =>
 z_rI (ex 212 [.inr (.inr (12, i0)), .inl v1, .inl v2] S1) (fun r3 S2 =>
 cond (z_oob v1 6) none (
 some (some (.inl (r3 - (S2.1 38 i0 (Int32.toNatClampNeg v1)))), S2)))) := rfl
theorem zx_X12_pairSteams (d : Nat) (S : z_Mem) (i0 : Nat) (v1 : Int32) (v2 : Int32) : z_exe z_mt true (d + 1) 213 [.inr (.inr (12, i0)), .inl v1, .inl v2] S = zr_X12_pairSteams (z_exe z_mt true d) (999999 + 1) 0 [some (.inr (.inr (12, i0))), some (.inl v1), some (.inl v2)] [] S := z_exe_eq (q := (yX12_pairSteams, cX12_pairSteams, 3, (some .int), false, zo_X12_pairSteams, zc_X12_pairSteams, 12, 3)) rfl rfl
abbrev zr_X12_leatherSteams (ex : z_Ex) (n pc : Nat) (ls : z_Lc) (st : List z_AV) (S : z_Mem) : Option (Option z_AV × z_Mem) := z_run true ex false zo_X12_leatherSteams zc_X12_leatherSteams n pc ls st S
set_option maxRecDepth 100000 in
set_option maxHeartbeats 4000000 in
theorem ze_X12_leatherSteams_0 (ex : z_Ex) (n : Nat) (S : z_Mem) (i0 : Nat) (v1 : Int32) (v2 : Int32) : zr_X12_leatherSteams ex (n + 1) 0 [some (.inr (.inr (12, i0))), some (.inl v1), some (.inl v2)] [] S =
 z_rV (ex 210 [.inr (.inr (12, i0)), .inl (20 : Int32)] S) (fun S1 =>
 z_rI (ex 213 [.inr (.inr (12, i0)), .inl v1, .inl v2] S1) (fun r3 S2 =>
 some (some (.inl (r3 ^^^ (6 : Int32))), S2))) := rfl
theorem zx_X12_leatherSteams (d : Nat) (S : z_Mem) (i0 : Nat) (v1 : Int32) (v2 : Int32) : z_exe z_mt true (d + 1) 214 [.inr (.inr (12, i0)), .inl v1, .inl v2] S = zr_X12_leatherSteams (z_exe z_mt true d) (999999 + 1) 0 [some (.inr (.inr (12, i0))), some (.inl v1), some (.inl v2)] [] S := z_exe_eq (q := (yX12_leatherSteams, cX12_leatherSteams, 3, (some .int), false, zo_X12_leatherSteams, zc_X12_leatherSteams, 12, 3)) rfl rfl
abbrev zr_X12_steamsAct (ex : z_Ex) (n pc : Nat) (ls : z_Lc) (st : List z_AV) (S : z_Mem) : Option (Option z_AV × z_Mem) := z_run true ex false zo_X12_steamsAct zc_X12_steamsAct n pc ls st S
set_option maxRecDepth 100000 in
set_option maxHeartbeats 4000000 in
theorem ze_X12_steamsAct_0 (ex : z_Ex) (n : Nat) (S : z_Mem) (i0 : Nat) (v1 : Int32) (v2 : Int32) : zr_X12_steamsAct ex (n + 1) 0 [some (.inr (.inr (12, i0))), some (.inl v1), some (.inl v2), none] [] S =
 cond (z_oob v1 6) none (
 let x1 : Int32 := (S.1 37 i0 (Int32.toNatClampNeg v1))
 if x1 = (1 : Int32) then (
  z_rI (ex 214 [.inr (.inr (12, i0)), .inl v1, .inl v2] S) (fun r3 S2 =>
  some (some (.inl r3), S2))) else
 if x1 = (4 : Int32) then (
  z_rV (ex 210 [.inr (.inr (12, i0)), .inl (51 : Int32)] S) (fun S4 =>
  z_rI (ex 214 [.inr (.inr (12, i0)), .inl v1, .inl (v2 + (1 : Int32))] S4) (fun r6 S5 =>
  some (some (.inl r6), S5)))) else
 if x1 = (6 : Int32) then (
  z_rV (ex 210 [.inr (.inr (12, i0)), .inl (70 : Int32)] S) (fun S7 =>
  z_rI (ex 213 [.inr (.inr (12, i0)), .inl v1, .inl v2] S7) (fun r9 S8 =>
  z_rI (ex 211 [.inr (.inr (12, i0)), .inl v1, .inl (2 : Int32)] S8) (fun r11 S10 =>
  some (some (.inl (r9 + r11)), S10))))) else
 z_rI (ex 213 [.inr (.inr (12, i0)), .inl v1, .inl v2] S) (fun r13 S12 =>
 some (some (.inl r13), S12))) := rfl
theorem zx_X12_steamsAct (d : Nat) (S : z_Mem) (i0 : Nat) (v1 : Int32) (v2 : Int32) : z_exe z_mt true (d + 1) 215 [.inr (.inr (12, i0)), .inl v1, .inl v2] S = zr_X12_steamsAct (z_exe z_mt true d) (999999 + 1) 0 [some (.inr (.inr (12, i0))), some (.inl v1), some (.inl v2), none] [] S := z_exe_eq (q := (yX12_steamsAct, cX12_steamsAct, 4, (some .int), false, zo_X12_steamsAct, zc_X12_steamsAct, 12, 3)) rfl rfl
abbrev zr_X12_pairTells (ex : z_Ex) (n pc : Nat) (ls : z_Lc) (st : List z_AV) (S : z_Mem) : Option (Option z_AV × z_Mem) := z_run true ex false zo_X12_pairTells zc_X12_pairTells n pc ls st S
set_option maxRecDepth 100000 in
set_option maxHeartbeats 4000000 in
theorem ze_X12_pairTells_0 (ex : z_Ex) (n : Nat) (S : z_Mem) (i0 : Nat) (v1 : Int32) (v2 : Int32) : zr_X12_pairTells ex (n + 1) 0 [some (.inr (.inr (12, i0))), some (.inl v1), some (.inl v2)] [] S =
 z_rV (ex 210 [.inr (.inr (12, i0)), .inl (12 : Int32)] S) (fun S1 =>
 z_rI (ex 215 [.inr (.inr (12, i0)), .inl v1, .inl v2] S1) (fun r3 S2 =>
 some (some (.inl (r3 * (2 : Int32))), S2))) := rfl
theorem zx_X12_pairTells (d : Nat) (S : z_Mem) (i0 : Nat) (v1 : Int32) (v2 : Int32) : z_exe z_mt true (d + 1) 216 [.inr (.inr (12, i0)), .inl v1, .inl v2] S = zr_X12_pairTells (z_exe z_mt true d) (999999 + 1) 0 [some (.inr (.inr (12, i0))), some (.inl v1), some (.inl v2)] [] S := z_exe_eq (q := (yX12_pairTells, cX12_pairTells, 3, (some .int), false, zo_X12_pairTells, zc_X12_pairTells, 12, 3)) rfl rfl
abbrev zr_X12_tellsAct (ex : z_Ex) (n pc : Nat) (ls : z_Lc) (st : List z_AV) (S : z_Mem) : Option (Option z_AV × z_Mem) := z_run true ex false zo_X12_tellsAct zc_X12_tellsAct n pc ls st S
set_option maxRecDepth 100000 in
set_option maxHeartbeats 4000000 in
theorem ze_X12_tellsAct_0 (ex : z_Ex) (n : Nat) (S : z_Mem) (i0 : Nat) (v1 : Int32) (v2 : Int32) : zr_X12_tellsAct ex (n + 1) 0 [some (.inr (.inr (12, i0))), some (.inl v1), some (.inl v2), none] [] S =
 cond (z_oob v1 6) none (
 let x1 : Int32 := (S.1 37 i0 (Int32.toNatClampNeg v1))
 if x1 = (3 : Int32) then (
  z_rV (ex 210 [.inr (.inr (12, i0)), .inl (40 : Int32)] S) (fun S2 =>
  z_rI (ex 216 [.inr (.inr (12, i0)), .inl v1, .inl v2] S2) (fun r4 S3 =>
  z_rI (ex 215 [.inr (.inr (12, i0)), .inl v1, .inl (1 : Int32)] S3) (fun r6 S5 =>
  some (some (.inl (r4 + r6)), S5))))) else
 if x1 = (4 : Int32) then (
  z_rI (ex 216 [.inr (.inr (12, i0)), .inl v1, .inl v2] S) (fun r8 S7 =>
  some (some (.inl r8), S7))) else
 if x1 = (5 : Int32) then (
  z_rV (ex 210 [.inr (.inr (12, i0)), .inl (60 : Int32)] S) (fun S9 =>
  z_rI (ex 216 [.inr (.inr (12, i0)), .inl v1, .inl (v2 - v1)] S9) (fun r11 S10 =>
  some (some (.inl r11), S10)))) else
 if x1 = (6 : Int32) then (
  z_rV (ex 210 [.inr (.inr (12, i0)), .inl (40 : Int32)] S) (fun S12 =>
  z_rI (ex 216 [.inr (.inr (12, i0)), .inl v1, .inl v2] S12) (fun r14 S13 =>
  z_rI (ex 215 [.inr (.inr (12, i0)), .inl v1, .inl (1 : Int32)] S13) (fun r16 S15 =>
  some (some (.inl (r14 + r16)), S15))))) else
 z_rI (ex 216 [.inr (.inr (12, i0)), .inl v1, .inl v2] S) (fun r18 S17 =>
 some (some (.inl r18), S17))) := rfl
theorem zx_X12_tellsAct (d : Nat) (S : z_Mem) (i0 : Nat) (v1 : Int32) (v2 : Int32) : z_exe z_mt true (d + 1) 217 [.inr (.inr (12, i0)), .inl v1, .inl v2] S = zr_X12_tellsAct (z_exe z_mt true d) (999999 + 1) 0 [some (.inr (.inr (12, i0))), some (.inl v1), some (.inl v2), none] [] S := z_exe_eq (q := (yX12_tellsAct, cX12_tellsAct, 4, (some .int), false, zo_X12_tellsAct, zc_X12_tellsAct, 12, 3)) rfl rfl
abbrev zr_X12_act (ex : z_Ex) (n pc : Nat) (ls : z_Lc) (st : List z_AV) (S : z_Mem) : Option (Option z_AV × z_Mem) := z_run true ex false zo_X12_act zc_X12_act n pc ls st S
set_option maxRecDepth 100000 in
set_option maxHeartbeats 4000000 in
theorem ze_X12_act_0 (ex : z_Ex) (n : Nat) (S : z_Mem) (i0 : Nat) (v1 : Int32) (v2 : Int32) (v3 : Int32) : zr_X12_act ex (n + 1) 0 [some (.inr (.inr (12, i0))), some (.inl v1), some (.inl v2), some (.inl v3)] [] S =
 let S1 : z_Mem := z_sI S 12 i0 76 (0 : Int32)
 z_rI (ex 129 [.inr (.inr (12, i0)), .inl v1] S1) (fun r3 S2 =>
 if r3 = 0 then (
  some (some (.inl (0 : Int32)), S2))
 else (
  z_rI (ex 124 [.inr (.inr (12, i0)), .inl v2, .inl (0 : Int32), .inl (2 : Int32)] S2) (fun r5 S4 =>
  if r5 = 0 then (
   some (some (.inl (0 : Int32)), S4))
  else (
   if v2 = 0 then (
    z_rI (ex 212 [.inr (.inr (12, i0)), .inl v1, .inl v3] S4) (fun r7 S6 =>
    some (some (.inl r7), S6)))
   else (
    if v2 = (1 : Int32) then (
     z_rI (ex 215 [.inr (.inr (12, i0)), .inl v1, .inl v3] S4) (fun r9 S8 =>
     some (some (.inl r9), S8)))
    else (
     z_rI (ex 217 [.inr (.inr (12, i0)), .inl v1, .inl v3] S4) (fun r11 S10 =>
     some (some (.inl r11), S10)))))))) := rfl
theorem zx_X12_act (d : Nat) (S : z_Mem) (i0 : Nat) (v1 : Int32) (v2 : Int32) (v3 : Int32) : z_exe z_mt true (d + 1) 218 [.inr (.inr (12, i0)), .inl v1, .inl v2, .inl v3] S = zr_X12_act (z_exe z_mt true d) (999999 + 1) 0 [some (.inr (.inr (12, i0))), some (.inl v1), some (.inl v2), some (.inl v3)] [] S := z_exe_eq (q := (yX12_act, cX12_act, 4, (some .int), false, zo_X12_act, zc_X12_act, 12, 4)) rfl rfl
abbrev zr_X12_trace (ex : z_Ex) (n pc : Nat) (ls : z_Lc) (st : List z_AV) (S : z_Mem) : Option (Option z_AV × z_Mem) := z_run true ex false zo_X12_trace zc_X12_trace n pc ls st S
set_option maxRecDepth 100000 in
set_option maxHeartbeats 4000000 in
theorem ze_X12_trace_0 (ex : z_Ex) (n : Nat) (S : z_Mem) (i0 : Nat) (v1 : Int32) : zr_X12_trace ex (n + 1) 0 [some (.inr (.inr (12, i0))), some (.inl v1)] [] S =
 z_rI (ex 124 [.inr (.inr (12, i0)), .inl v1, .inl (0 : Int32), .inl (19 : Int32)] S) (fun r2 S1 =>
 if r2 = 0 then (
  some (some (.inl (-1 : Int32)), S1))
 else (
  if (S1.1 12 i0 76) ≤ v1 then (
   some (some (.inl (-1 : Int32)), S1))
  else (
   cond (z_oob v1 20) none (
   some (some (.inl (S1.1 80 i0 (Int32.toNatClampNeg v1))), S1))))) := rfl
theorem zx_X12_trace (d : Nat) (S : z_Mem) (i0 : Nat) (v1 : Int32) : z_exe z_mt true (d + 1) 219 [.inr (.inr (12, i0)), .inl v1] S = zr_X12_trace (z_exe z_mt true d) (999999 + 1) 0 [some (.inr (.inr (12, i0))), some (.inl v1)] [] S := z_exe_eq (q := (yX12_trace, cX12_trace, 2, (some .int), false, zo_X12_trace, zc_X12_trace, 12, 2)) rfl rfl
abbrev zr_X12_taken (ex : z_Ex) (n pc : Nat) (ls : z_Lc) (st : List z_AV) (S : z_Mem) : Option (Option z_AV × z_Mem) := z_run true ex false zo_X12_taken zc_X12_taken n pc ls st S
set_option maxRecDepth 100000 in
set_option maxHeartbeats 4000000 in
theorem ze_X12_taken_0 (ex : z_Ex) (n : Nat) (S : z_Mem) (i0 : Nat) (v1 : Int32) (v2 : Int32) : zr_X12_taken ex (n + 1) 0 [some (.inr (.inr (12, i0))), some (.inl v1), some (.inl v2), none] [] S =
 z_rI (ex 124 [.inr (.inr (12, i0)), .inl v2, .inl (0 : Int32), .inl (6 : Int32)] S) (fun r2 S1 =>
 if r2 = 0 then (
  some (some (.inl (-2 : Int32)), S1))
 else (
  z_rI (ex 129 [.inr (.inr (12, i0)), .inl v1] S1) (fun r4 S3 =>
  if r4 = 0 then (
   some (some (.inl (-11 : Int32)), S3))
  else (
   cond (z_oob v1 6) none (
   let x5 : Int32 := (S3.1 37 i0 (Int32.toNatClampNeg v1))
   if v2 = 0 then (
    some (some (.inl x5), S3))
   else (
    if x5 = v2 then (
     some (some (.inl x5), S3))
    else (
     if v2 = (1 : Int32) then (
      if x5 = (4 : Int32) then (
       some (some (.inl x5), S3))
      else (
       if v2 = (2 : Int32) then (
        if x5 = (5 : Int32) then (
         some (some (.inl x5), S3))
        else (
         if v2 = (3 : Int32) then (
          if x5 = (6 : Int32) then (
           some (some (.inl x5), S3))
          else (
           some (some (.inl (-12 : Int32)), S3)))
         else (
          some (some (.inl (-12 : Int32)), S3))))
       else (
        if v2 = (3 : Int32) then (
         if x5 = (6 : Int32) then (
          some (some (.inl x5), S3))
         else (
          some (some (.inl (-12 : Int32)), S3)))
        else (
         some (some (.inl (-12 : Int32)), S3)))))
     else (
      if v2 = (2 : Int32) then (
       if x5 = (5 : Int32) then (
        some (some (.inl x5), S3))
       else (
        if v2 = (3 : Int32) then (
         if x5 = (6 : Int32) then (
          some (some (.inl x5), S3))
         else (
          some (some (.inl (-12 : Int32)), S3)))
        else (
         some (some (.inl (-12 : Int32)), S3))))
      else (
       if v2 = (3 : Int32) then (
        if x5 = (6 : Int32) then (
         some (some (.inl x5), S3))
        else (
         some (some (.inl (-12 : Int32)), S3)))
       else (
        some (some (.inl (-12 : Int32)), S3))))))))))) := rfl
theorem zx_X12_taken (d : Nat) (S : z_Mem) (i0 : Nat) (v1 : Int32) (v2 : Int32) : z_exe z_mt true (d + 1) 220 [.inr (.inr (12, i0)), .inl v1, .inl v2] S = zr_X12_taken (z_exe z_mt true d) (999999 + 1) 0 [some (.inr (.inr (12, i0))), some (.inl v1), some (.inl v2), none] [] S := z_exe_eq (q := (yX12_taken, cX12_taken, 4, (some .int), false, zo_X12_taken, zc_X12_taken, 12, 3)) rfl rfl
abbrev zr_X12_count (ex : z_Ex) (n pc : Nat) (ls : z_Lc) (st : List z_AV) (S : z_Mem) : Option (Option z_AV × z_Mem) := z_run true ex false zo_X12_count zc_X12_count n pc ls st S
set_option maxRecDepth 100000 in
set_option maxHeartbeats 4000000 in
theorem ze_X12_count_0 (ex : z_Ex) (n : Nat) (S : z_Mem) (i0 : Nat) (v1 : Int32) : zr_X12_count ex (n + 1) 0 [some (.inr (.inr (12, i0))), some (.inl v1)] [] S =
 if v1 = (0 : Int32) then (
  some (some (.inl (S.1 12 i0 0)), S)) else
 if v1 = (1 : Int32) then (
  some (some (.inl (S.1 12 i0 11)), S)) else
 if v1 = (2 : Int32) then (
  some (some (.inl (S.1 12 i0 42)), S)) else
 if v1 = (3 : Int32) then (
  some (some (.inl (S.1 12 i0 47)), S)) else
 if v1 = (4 : Int32) then (
  some (some (.inl (S.1 12 i0 48)), S)) else
 if v1 = (5 : Int32) then (
  some (some (.inl (S.1 12 i0 13)), S)) else
 if v1 = (6 : Int32) then (
  some (some (.inl (S.1 12 i0 76)), S)) else
 some (some (.inl (-2 : Int32)), S) := rfl
theorem zx_X12_count (d : Nat) (S : z_Mem) (i0 : Nat) (v1 : Int32) : z_exe z_mt true (d + 1) 221 [.inr (.inr (12, i0)), .inl v1] S = zr_X12_count (z_exe z_mt true d) (999999 + 1) 0 [some (.inr (.inr (12, i0))), some (.inl v1)] [] S := z_exe_eq (q := (yX12_count, cX12_count, 2, (some .int), false, zo_X12_count, zc_X12_count, 12, 2)) rfl rfl
abbrev zr_X12_isTape (ex : z_Ex) (n pc : Nat) (ls : z_Lc) (st : List z_AV) (S : z_Mem) : Option (Option z_AV × z_Mem) := z_run true ex true zo_X12_isTape zc_X12_isTape n pc ls st S
set_option maxRecDepth 100000 in
set_option maxHeartbeats 4000000 in
theorem ze_X12_isTape_0 (ex : z_Ex) (n : Nat) (S : z_Mem) (i0 : Nat) (v1 : Int32) : zr_X12_isTape ex (n + 1) 0 [some (.inr (.inr (12, i0))), some (.inl v1)] [] S =
 z_rI (ex 124 [.inr (.inr (12, i0)), .inl v1, .inl (0 : Int32), .inl (5 : Int32)] S) (fun r2 S1 =>
 if r2 &&& 1 = r2 then some (some (.inl r2), S1) else none) := rfl
theorem zx_X12_isTape (d : Nat) (S : z_Mem) (i0 : Nat) (v1 : Int32) : z_exe z_mt true (d + 1) 222 [.inr (.inr (12, i0)), .inl v1] S = zr_X12_isTape (z_exe z_mt true d) (999999 + 1) 0 [some (.inr (.inr (12, i0))), some (.inl v1)] [] S := z_exe_eq (q := (yX12_isTape, cX12_isTape, 2, (some .boolean), true, zo_X12_isTape, zc_X12_isTape, 12, 2)) rfl rfl
abbrev zr_X12_tape (ex : z_Ex) (n pc : Nat) (ls : z_Lc) (st : List z_AV) (S : z_Mem) : Option (Option z_AV × z_Mem) := z_run true ex false zo_X12_tape zc_X12_tape n pc ls st S
set_option maxRecDepth 100000 in
set_option maxHeartbeats 4000000 in
theorem ze_X12_tape_0 (ex : z_Ex) (n : Nat) (S : z_Mem) (i0 : Nat) (v1 : Int32) (v2 : Int32) (v3 : Int32) : zr_X12_tape ex (n + 1) 0 [some (.inr (.inr (12, i0))), some (.inl v1), some (.inl v2), some (.inl v3), none] [] S =
 z_rI (ex 222 [.inr (.inr (12, i0)), .inl v1] S) (fun r2 S1 =>
 if r2 = 0 then (
  some (some (.inl (-1 : Int32)), S1))
 else (
  z_rI (ex 124 [.inr (.inr (12, i0)), .inl v2, .inl (-1 : Int32), .inl (4 : Int32)] S1) (fun r4 S3 =>
  if r4 = 0 then (
   some (some (.inl (-2 : Int32)), S3))
  else (
   if v2 < 0 then (
    if v2 < 0 then (
     cond (z_oob v1 6) none (
     let S5 : z_Mem := z_sI S3 81 i0 (Int32.toNatClampNeg v1) v2
     if 0 ≤ v2 then (
      cond (z_oob v1 6) none (
      let S6 : z_Mem := z_sI S5 82 i0 (Int32.toNatClampNeg v1) v3
      zr_X12_tape ex n 69 [some (.inr (.inr (12, i0))), some (.inl v1), none, none, some (.inl (0 : Int32))] [] S6))
     else (
      cond (z_oob v1 6) none (
      let S7 : z_Mem := z_sI S5 82 i0 (Int32.toNatClampNeg v1) (0 : Int32)
      zr_X12_tape ex n 69 [some (.inr (.inr (12, i0))), some (.inl v1), none, none, some (.inl (0 : Int32))] [] S7))))
    else (
     if 0 ≤ v3 then (
      cond (z_oob v1 6) none (
      let S8 : z_Mem := z_sI S3 81 i0 (Int32.toNatClampNeg v1) v2
      if 0 ≤ v2 then (
       cond (z_oob v1 6) none (
       let S9 : z_Mem := z_sI S8 82 i0 (Int32.toNatClampNeg v1) v3
       zr_X12_tape ex n 69 [some (.inr (.inr (12, i0))), some (.inl v1), none, none, some (.inl (0 : Int32))] [] S9))
      else (
       cond (z_oob v1 6) none (
       let S10 : z_Mem := z_sI S8 82 i0 (Int32.toNatClampNeg v1) (0 : Int32)
       zr_X12_tape ex n 69 [some (.inr (.inr (12, i0))), some (.inl v1), none, none, some (.inl (0 : Int32))] [] S10))))
     else (
      some (some (.inl (-14 : Int32)), S3))))
   else (
    if v3 ≤ (60 : Int32) then (
     if v2 < 0 then (
      cond (z_oob v1 6) none (
      let S11 : z_Mem := z_sI S3 81 i0 (Int32.toNatClampNeg v1) v2
      if 0 ≤ v2 then (
       cond (z_oob v1 6) none (
       let S12 : z_Mem := z_sI S11 82 i0 (Int32.toNatClampNeg v1) v3
       zr_X12_tape ex n 69 [some (.inr (.inr (12, i0))), some (.inl v1), none, none, some (.inl (0 : Int32))] [] S12))
      else (
       cond (z_oob v1 6) none (
       let S13 : z_Mem := z_sI S11 82 i0 (Int32.toNatClampNeg v1) (0 : Int32)
       zr_X12_tape ex n 69 [some (.inr (.inr (12, i0))), some (.inl v1), none, none, some (.inl (0 : Int32))] [] S13))))
     else (
      if 0 ≤ v3 then (
       cond (z_oob v1 6) none (
       let S14 : z_Mem := z_sI S3 81 i0 (Int32.toNatClampNeg v1) v2
       if 0 ≤ v2 then (
        cond (z_oob v1 6) none (
        let S15 : z_Mem := z_sI S14 82 i0 (Int32.toNatClampNeg v1) v3
        zr_X12_tape ex n 69 [some (.inr (.inr (12, i0))), some (.inl v1), none, none, some (.inl (0 : Int32))] [] S15))
       else (
        cond (z_oob v1 6) none (
        let S16 : z_Mem := z_sI S14 82 i0 (Int32.toNatClampNeg v1) (0 : Int32)
        zr_X12_tape ex n 69 [some (.inr (.inr (12, i0))), some (.inl v1), none, none, some (.inl (0 : Int32))] [] S16))))
      else (
       some (some (.inl (-14 : Int32)), S3))))
    else (
     some (some (.inl (-2 : Int32)), S3))))))) := rfl
theorem zx_X12_tape (d : Nat) (S : z_Mem) (i0 : Nat) (v1 : Int32) (v2 : Int32) (v3 : Int32) : z_exe z_mt true (d + 1) 223 [.inr (.inr (12, i0)), .inl v1, .inl v2, .inl v3] S = zr_X12_tape (z_exe z_mt true d) (999999 + 1) 0 [some (.inr (.inr (12, i0))), some (.inl v1), some (.inl v2), some (.inl v3), none] [] S := z_exe_eq (q := (yX12_tape, cX12_tape, 5, (some .int), false, zo_X12_tape, zc_X12_tape, 12, 4)) rfl rfl
set_option maxRecDepth 100000 in
set_option maxHeartbeats 4000000 in
theorem ze_X12_tape_69 (ex : z_Ex) (n : Nat) (S : z_Mem) (i0 : Nat) (v1 : Int32) (v4 : Int32) : zr_X12_tape ex (n + 1) 69 [some (.inr (.inr (12, i0))), some (.inl v1), none, none, some (.inl v4)] [] S =
 if (60 : Int32) ≤ v4 then (
  some (some (.inl (1 : Int32)), S))
 else (
  cond (z_oob (((60 : Int32) * v1) + v4) 360) none (
  let S17 : z_Mem := z_sL S 83 i0 (Int32.toNatClampNeg (((60 : Int32) * v1) + v4)) (Int64.ofNat 0)
  let x18 : Int32 := (v4 + (1 : Int32))
  zr_X12_tape ex n 69 [some (.inr (.inr (12, i0))), some (.inl v1), none, none, some (.inl x18)] [] S17)) := rfl
abbrev zr_X12_narrow (ex : z_Ex) (n pc : Nat) (ls : z_Lc) (st : List z_AV) (S : z_Mem) : Option (Option z_AV × z_Mem) := z_run true ex false zo_X12_narrow zc_X12_narrow n pc ls st S
set_option maxRecDepth 100000 in
set_option maxHeartbeats 4000000 in
theorem ze_X12_narrow_0 (ex : z_Ex) (n : Nat) (S : z_Mem) (i0 : Nat) (v1 : Int32) (w2 : Int64) : zr_X12_narrow ex (n + 1) 0 [some (.inr (.inr (12, i0))), some (.inl v1), some (.inr (.inl w2)), none] [] S =
 if v1 = 0 then (
  some (some (.inr (.inl (Int32.toInt64 (Int8.toInt32 (Int32.toInt8 (Int64.toInt32 w2)))))), S))
 else (
  if v1 = (1 : Int32) then (
   some (some (.inr (.inl (Int32.toInt64 (Int16.toInt32 (Int32.toInt16 (Int64.toInt32 w2)))))), S))
  else (
   if v1 = (2 : Int32) then (
    some (some (.inr (.inl (Int32.toInt64 (Int64.toInt32 w2)))), S))
   else (
    if v1 = (4 : Int32) then (
     if (lg_cmp w2 (Int64.ofNat 0)) = 0 then (
      some (some (.inr (.inl (Int64.ofNat 0))), S))
     else (
      some (some (.inr (.inl (Int64.ofNat 1))), S)))
    else (
     some (some (.inr (.inl w2)), S))))) := rfl
theorem zx_X12_narrow (d : Nat) (S : z_Mem) (i0 : Nat) (v1 : Int32) (w2 : Int64) : z_exe z_mt true (d + 1) 224 [.inr (.inr (12, i0)), .inl v1, .inr (.inl w2)] S = zr_X12_narrow (z_exe z_mt true d) (999999 + 1) 0 [some (.inr (.inr (12, i0))), some (.inl v1), some (.inr (.inl w2)), none] [] S := z_exe_eq (q := (yX12_narrow, cX12_narrow, 4, (some .long), false, zo_X12_narrow, zc_X12_narrow, 12, 3)) rfl rfl
abbrev zr_X12_item (ex : z_Ex) (n pc : Nat) (ls : z_Lc) (st : List z_AV) (S : z_Mem) : Option (Option z_AV × z_Mem) := z_run true ex false zo_X12_item zc_X12_item n pc ls st S
set_option maxRecDepth 100000 in
set_option maxHeartbeats 4000000 in
theorem ze_X12_item_0 (ex : z_Ex) (n : Nat) (S : z_Mem) (i0 : Nat) (v1 : Int32) (v2 : Int32) (w3 : Int64) : zr_X12_item ex (n + 1) 0 [some (.inr (.inr (12, i0))), some (.inl v1), some (.inl v2), some (.inr (.inl w3)), none] [] S =
 z_rI (ex 222 [.inr (.inr (12, i0)), .inl v1] S) (fun r2 S1 =>
 if r2 = 0 then (
  some (some (.inl (-1 : Int32)), S1))
 else (
  cond (z_oob v1 6) none (
  if 0 ≤ (S1.1 81 i0 (Int32.toNatClampNeg v1)) then (
   cond (z_oob v1 6) none (
   z_rI (ex 124 [.inr (.inr (12, i0)), .inl v2, .inl (0 : Int32), .inl ((S1.1 82 i0 (Int32.toNatClampNeg v1)) - (1 : Int32))] S1) (fun r4 S3 =>
   if r4 = 0 then (
    some (some (.inl (-13 : Int32)), S3))
   else (
    cond (z_oob v1 6) none (
    z_rL (ex 224 [.inr (.inr (12, i0)), .inl (S3.1 81 i0 (Int32.toNatClampNeg v1)), .inr (.inl w3)] S3) (fun r6 S5 =>
    cond (z_oob (((60 : Int32) * v1) + v2) 360) none (
    let S7 : z_Mem := z_sL S5 83 i0 (Int32.toNatClampNeg (((60 : Int32) * v1) + v2)) r6
    some (some (.inl (1 : Int32)), S7))))))))
  else (
   some (some (.inl (-11 : Int32)), S1))))) := rfl
theorem zx_X12_item (d : Nat) (S : z_Mem) (i0 : Nat) (v1 : Int32) (v2 : Int32) (w3 : Int64) : z_exe z_mt true (d + 1) 225 [.inr (.inr (12, i0)), .inl v1, .inl v2, .inr (.inl w3)] S = zr_X12_item (z_exe z_mt true d) (999999 + 1) 0 [some (.inr (.inr (12, i0))), some (.inl v1), some (.inl v2), some (.inr (.inl w3)), none] [] S := z_exe_eq (q := (yX12_item, cX12_item, 5, (some .int), false, zo_X12_item, zc_X12_item, 12, 4)) rfl rfl
abbrev zr_X12_read (ex : z_Ex) (n pc : Nat) (ls : z_Lc) (st : List z_AV) (S : z_Mem) : Option (Option z_AV × z_Mem) := z_run true ex false zo_X12_read zc_X12_read n pc ls st S
set_option maxRecDepth 100000 in
set_option maxHeartbeats 4000000 in
theorem ze_X12_read_0 (ex : z_Ex) (n : Nat) (S : z_Mem) (i0 : Nat) (v1 : Int32) (v2 : Int32) : zr_X12_read ex (n + 1) 0 [some (.inr (.inr (12, i0))), some (.inl v1), some (.inl v2)] [] S =
 z_rI (ex 222 [.inr (.inr (12, i0)), .inl v1] S) (fun r2 S1 =>
 if r2 = 0 then (
  some (some (.inr (.inl (Int64.ofNat 9223372036854775808))), S1))
 else (
  cond (z_oob v1 6) none (
  if (S1.1 81 i0 (Int32.toNatClampNeg v1)) < 0 then (
   some (some (.inr (.inl (Int64.ofNat 9223372036854775808))), S1))
  else (
   cond (z_oob v1 6) none (
   z_rI (ex 124 [.inr (.inr (12, i0)), .inl v2, .inl (0 : Int32), .inl ((S1.1 82 i0 (Int32.toNatClampNeg v1)) - (1 : Int32))] S1) (fun r4 S3 =>
   if r4 = 0 then (
    some (some (.inr (.inl (Int64.ofNat 9223372036854775808))), S3))
   else (
    cond (z_oob (((60 : Int32) * v1) + v2) 360) none (
    some (some (.inr (.inl (S3.2.1 83 i0 (Int32.toNatClampNeg (((60 : Int32) * v1) + v2))))), S3))))))))) := rfl
theorem zx_X12_read (d : Nat) (S : z_Mem) (i0 : Nat) (v1 : Int32) (v2 : Int32) : z_exe z_mt true (d + 1) 226 [.inr (.inr (12, i0)), .inl v1, .inl v2] S = zr_X12_read (z_exe z_mt true d) (999999 + 1) 0 [some (.inr (.inr (12, i0))), some (.inl v1), some (.inl v2)] [] S := z_exe_eq (q := (yX12_read, cX12_read, 3, (some .long), false, zo_X12_read, zc_X12_read, 12, 3)) rfl rfl
abbrev zr_X12_shift (ex : z_Ex) (n pc : Nat) (ls : z_Lc) (st : List z_AV) (S : z_Mem) : Option (Option z_AV × z_Mem) := z_run true ex false zo_X12_shift zc_X12_shift n pc ls st S
set_option maxRecDepth 100000 in
set_option maxHeartbeats 4000000 in
theorem ze_X12_shift_0 (ex : z_Ex) (n : Nat) (S : z_Mem) (i0 : Nat) (v1 : Int32) (v2 : Int32) (v3 : Int32) (v4 : Int32) (v5 : Int32) : zr_X12_shift ex (n + 1) 0 [some (.inr (.inr (12, i0))), some (.inl v1), some (.inl v2), some (.inl v3), some (.inl v4), some (.inl v5), none] [] S =
 z_rI (ex 222 [.inr (.inr (12, i0)), .inl v1] S) (fun r2 S1 =>
 if r2 = 0 then (
  some (some (.inl (-1 : Int32)), S1))
 else (
  z_rI (ex 222 [.inr (.inr (12, i0)), .inl v3] S1) (fun r4 S3 =>
  if r4 = 0 then (
   some (some (.inl (-1 : Int32)), S3))
  else (
   cond (z_oob v1 6) none (
   if (S3.1 81 i0 (Int32.toNatClampNeg v1)) < 0 then (
    some (some (.inl (-11 : Int32)), S3))
   else (
    cond (z_oob v3 6) none (
    if 0 ≤ (S3.1 81 i0 (Int32.toNatClampNeg v3)) then (
     cond (z_oob v1 6) none (
     cond (z_oob v3 6) none (
     if (S3.1 81 i0 (Int32.toNatClampNeg v1)) = (S3.1 81 i0 (Int32.toNatClampNeg v3)) then (
      if v5 < 0 then (
       some (some (.inl (-13 : Int32)), S3))
      else (
       if v2 < 0 then (
        some (some (.inl (-13 : Int32)), S3))
       else (
        if v4 < 0 then (
         some (some (.inl (-13 : Int32)), S3))
        else (
         cond (z_oob v1 6) none (
         if ((S3.1 82 i0 (Int32.toNatClampNeg v1)) - v5) < v2 then (
          some (some (.inl (-13 : Int32)), S3))
         else (
          cond (z_oob v3 6) none (
          if v4 ≤ ((S3.1 82 i0 (Int32.toNatClampNeg v3)) - v5) then (
           zr_X12_shift ex n 104 [some (.inr (.inr (12, i0))), some (.inl v1), some (.inl v2), some (.inl v3), some (.inl v4), some (.inl v5), some (.inl (0 : Int32))] [] S3)
          else (
           some (some (.inl (-13 : Int32)), S3)))))))))
     else (
      some (some (.inl (-12 : Int32)), S3)))))
    else (
     some (some (.inl (-11 : Int32)), S3))))))))) := rfl
theorem zx_X12_shift (d : Nat) (S : z_Mem) (i0 : Nat) (v1 : Int32) (v2 : Int32) (v3 : Int32) (v4 : Int32) (v5 : Int32) : z_exe z_mt true (d + 1) 227 [.inr (.inr (12, i0)), .inl v1, .inl v2, .inl v3, .inl v4, .inl v5] S = zr_X12_shift (z_exe z_mt true d) (999999 + 1) 0 [some (.inr (.inr (12, i0))), some (.inl v1), some (.inl v2), some (.inl v3), some (.inl v4), some (.inl v5), none] [] S := z_exe_eq (q := (yX12_shift, cX12_shift, 7, (some .int), false, zo_X12_shift, zc_X12_shift, 12, 6)) rfl rfl
set_option maxRecDepth 100000 in
set_option maxHeartbeats 4000000 in
theorem ze_X12_shift_104 (ex : z_Ex) (n : Nat) (S : z_Mem) (i0 : Nat) (v1 : Int32) (v2 : Int32) (v3 : Int32) (v4 : Int32) (v5 : Int32) (v6 : Int32) : zr_X12_shift ex (n + 1) 104 [some (.inr (.inr (12, i0))), some (.inl v1), some (.inl v2), some (.inl v3), some (.inl v4), some (.inl v5), some (.inl v6)] [] S =
 if v5 ≤ v6 then (
  zr_X12_shift ex n 141 [some (.inr (.inr (12, i0))), none, none, some (.inl v3), some (.inl v4), some (.inl v5), some (.inl (0 : Int32))] [] S)
 else (
  cond (z_oob ((((60 : Int32) * v1) + v2) + v6) 360) none (
  cond (z_oob v6 60) none (
  let S5 : z_Mem := z_sL S 84 i0 (Int32.toNatClampNeg v6) (S.2.1 83 i0 (Int32.toNatClampNeg ((((60 : Int32) * v1) + v2) + v6)))
  let x6 : Int32 := (v6 + (1 : Int32))
  zr_X12_shift ex n 104 [some (.inr (.inr (12, i0))), some (.inl v1), some (.inl v2), some (.inl v3), some (.inl v4), some (.inl v5), some (.inl x6)] [] S5))) := rfl
set_option maxRecDepth 100000 in
set_option maxHeartbeats 4000000 in
theorem ze_X12_shift_141 (ex : z_Ex) (n : Nat) (S : z_Mem) (i0 : Nat) (v3 : Int32) (v4 : Int32) (v5 : Int32) (v6 : Int32) : zr_X12_shift ex (n + 1) 141 [some (.inr (.inr (12, i0))), none, none, some (.inl v3), some (.inl v4), some (.inl v5), some (.inl v6)] [] S =
 if v5 ≤ v6 then (
  some (some (.inl v5), S))
 else (
  cond (z_oob v6 60) none (
  cond (z_oob ((((60 : Int32) * v3) + v4) + v6) 360) none (
  let S7 : z_Mem := z_sL S 83 i0 (Int32.toNatClampNeg ((((60 : Int32) * v3) + v4) + v6)) (S.2.1 84 i0 (Int32.toNatClampNeg v6))
  let x8 : Int32 := (v6 + (1 : Int32))
  zr_X12_shift ex n 141 [some (.inr (.inr (12, i0))), none, none, some (.inl v3), some (.inl v4), some (.inl v5), some (.inl x8)] [] S7))) := rfl
