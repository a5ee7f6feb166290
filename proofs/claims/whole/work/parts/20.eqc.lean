abbrev zr_X12_in (ex : z_Ex) (n pc : Nat) (ls : z_Lc) (st : List z_AV) (S : z_Mem) : Option (Option z_AV × z_Mem) := z_run true ex true zo_X12_in zc_X12_in n pc ls st S
set_option maxRecDepth 100000 in
set_option maxHeartbeats 4000000 in
theorem ze_X12_in_0 (ex : z_Ex) (n : Nat) (S : z_Mem) (i0 : Nat) (v1 : Int32) (v2 : Int32) (v3 : Int32) : zr_X12_in ex (n + 1) 0 [some (.inr (.inr (12, i0))), some (.inl v1), some (.inl v2), some (.inl v3)] [] S =
 if v1 < v2 then (
  some (some (.inl (0 : Int32)), S))
 else (
  if v3 < v1 then (
   some (some (.inl (0 : Int32)), S))
  else (
   some (some (.inl (1 : Int32)), S))) := rfl
theorem zx_X12_in (d : Nat) (S : z_Mem) (i0 : Nat) (v1 : Int32) (v2 : Int32) (v3 : Int32) : z_exe z_mt true (d + 1) 124 [.inr (.inr (12, i0)), .inl v1, .inl v2, .inl v3] S = zr_X12_in (z_exe z_mt true d) (999999 + 1) 0 [some (.inr (.inr (12, i0))), some (.inl v1), some (.inl v2), some (.inl v3)] [] S := z_exe_eq (q := (yX12_in, cX12_in, 4, (some .boolean), true, zo_X12_in, zc_X12_in, 12, 4)) rfl rfl
abbrev zr_X12_has (ex : z_Ex) (n pc : Nat) (ls : z_Lc) (st : List z_AV) (S : z_Mem) : Option (Option z_AV × z_Mem) := z_run true ex true zo_X12_has zc_X12_has n pc ls st S
set_option maxRecDepth 100000 in
set_option maxHeartbeats 4000000 in
theorem ze_X12_has_0 (ex : z_Ex) (n : Nat) (S : z_Mem) (i0 : Nat) (v1 : Int32) (v2 : Int32) : zr_X12_has ex (n + 1) 0 [some (.inr (.inr (12, i0))), some (.inl v1), some (.inl v2)] [] S =
 if ((v1 >>> (v2 &&& 31)) &&& (1 : Int32)) = (1 : Int32) then (
  some (some (.inl (1 : Int32)), S))
 else (
  some (some (.inl (0 : Int32)), S)) := rfl
theorem zx_X12_has (d : Nat) (S : z_Mem) (i0 : Nat) (v1 : Int32) (v2 : Int32) : z_exe z_mt true (d + 1) 125 [.inr (.inr (12, i0)), .inl v1, .inl v2] S = zr_X12_has (z_exe z_mt true d) (999999 + 1) 0 [some (.inr (.inr (12, i0))), some (.inl v1), some (.inl v2)] [] S := z_exe_eq (q := (yX12_has, cX12_has, 3, (some .boolean), true, zo_X12_has, zc_X12_has, 12, 3)) rfl rfl
abbrev zr_X12_least (ex : z_Ex) (n pc : Nat) (ls : z_Lc) (st : List z_AV) (S : z_Mem) : Option (Option z_AV × z_Mem) := z_run true ex false zo_X12_least zc_X12_least n pc ls st S
set_option maxRecDepth 100000 in
set_option maxHeartbeats 4000000 in
theorem ze_X12_least_0 (ex : z_Ex) (n : Nat) (S : z_Mem) (i0 : Nat) (v1 : Int32) (v2 : Int32) : zr_X12_least ex (n + 1) 0 [some (.inr (.inr (12, i0))), some (.inl v1), some (.inl v2)] [] S =
 if v2 ≤ v1 then (
  some (some (.inl v2), S))
 else (
  some (some (.inl v1), S)) := rfl
theorem zx_X12_least (d : Nat) (S : z_Mem) (i0 : Nat) (v1 : Int32) (v2 : Int32) : z_exe z_mt true (d + 1) 126 [.inr (.inr (12, i0)), .inl v1, .inl v2] S = zr_X12_least (z_exe z_mt true d) (999999 + 1) 0 [some (.inr (.inr (12, i0))), some (.inl v1), some (.inl v2)] [] S := z_exe_eq (q := (yX12_least, cX12_least, 3, (some .int), false, zo_X12_least, zc_X12_least, 12, 3)) rfl rfl
abbrev zr_X12_atLeast0 (ex : z_Ex) (n pc : Nat) (ls : z_Lc) (st : List z_AV) (S : z_Mem) : Option (Option z_AV × z_Mem) := z_run true ex false zo_X12_atLeast0 zc_X12_atLeast0 n pc ls st S
set_option maxRecDepth 100000 in
set_option maxHeartbeats 4000000 in
theorem ze_X12_atLeast0_0 (ex : z_Ex) (n : Nat) (S : z_Mem) (i0 : Nat) (v1 : Int32) : zr_X12_atLeast0 ex (n + 1) 0 [some (.inr (.inr (12, i0))), some (.inl v1)] [] S =
 if 0 ≤ v1 then (
  some (some (.inl v1), S))
 else (
  some (some (.inl (0 : Int32)), S)) := rfl
theorem zx_X12_atLeast0 (d : Nat) (S : z_Mem) (i0 : Nat) (v1 : Int32) : z_exe z_mt true (d + 1) 127 [.inr (.inr (12, i0)), .inl v1] S = zr_X12_atLeast0 (z_exe z_mt true d) (999999 + 1) 0 [some (.inr (.inr (12, i0))), some (.inl v1)] [] S := z_exe_eq (q := (yX12_atLeast0, cX12_atLeast0, 2, (some .int), false, zo_X12_atLeast0, zc_X12_atLeast0, 12, 2)) rfl rfl
abbrev zr_X12_bits (ex : z_Ex) (n pc : Nat) (ls : z_Lc) (st : List z_AV) (S : z_Mem) : Option (Option z_AV × z_Mem) := z_run true ex false zo_X12_bits zc_X12_bits n pc ls st S
set_option maxRecDepth 100000 in
set_option maxHeartbeats 4000000 in
theorem ze_X12_bits_0 (ex : z_Ex) (n : Nat) (S : z_Mem) (i0 : Nat) (v1 : Int32) : zr_X12_bits ex (n + 1) 0 [some (.inr (.inr (12, i0))), some (.inl v1), none, none] [] S =
 zr_X12_bits ex n 4 [some (.inr (.inr (12, i0))), some (.inl v1), some (.inl (0 : Int32)), some (.inl (0 : Int32))] [] S := rfl
theorem zx_X12_bits (d : Nat) (S : z_Mem) (i0 : Nat) (v1 : Int32) : z_exe z_mt true (d + 1) 128 [.inr (.inr (12, i0)), .inl v1] S = zr_X12_bits (z_exe z_mt true d) (999999 + 1) 0 [some (.inr (.inr (12, i0))), some (.inl v1), none, none] [] S := z_exe_eq (q := (yX12_bits, cX12_bits, 4, (some .int), false, zo_X12_bits, zc_X12_bits, 12, 2)) rfl rfl
set_option maxRecDepth 100000 in
set_option maxHeartbeats 4000000 in
theorem ze_X12_bits_4 (ex : z_Ex) (n : Nat) (S : z_Mem) (i0 : Nat) (v1 : Int32) (v2 : Int32) (v3 : Int32) : zr_X12_bits ex (n + 1) 4 [some (.inr (.inr (12, i0))), some (.inl v1), some (.inl v2), some (.inl v3)] [] S =
 if (6 : Int32) ≤ v3 then (
  some (some (.inl v2), S))
 else (
  z_rI (ex 125 [.inr (.inr (12, i0)), .inl v1, .inl v3] S) (fun r2 S1 =>
  if r2 = 0 then (
   let x3 : Int32 := (v2 + (0 : Int32))
   let x4 : Int32 := (v3 + (1 : Int32))
   zr_X12_bits ex n 4 [some (.inr (.inr (12, i0))), some (.inl v1), some (.inl x3), some (.inl x4)] [] S1)
  else (
   let x5 : Int32 := (v2 + (1 : Int32))
   let x6 : Int32 := (v3 + (1 : Int32))
   zr_X12_bits ex n 4 [some (.inr (.inr (12, i0))), some (.inl v1), some (.inl x5), some (.inl x6)] [] S1))) := rfl
abbrev zr_X12_isPair (ex : z_Ex) (n pc : Nat) (ls : z_Lc) (st : List z_AV) (S : z_Mem) : Option (Option z_AV × z_Mem) := z_run true ex true zo_X12_isPair zc_X12_isPair n pc ls st S
set_option maxRecDepth 100000 in
set_option maxHeartbeats 4000000 in
theorem ze_X12_isPair_0 (ex : z_Ex) (n : Nat) (S : z_Mem) (i0 : Nat) (v1 : Int32) : zr_X12_isPair ex (n + 1) 0 [some (.inr (.inr (12, i0))), some (.inl v1)] [] S =
 z_rI (ex 124 [.inr (.inr (12, i0)), .inl v1, .inl (0 : Int32), .inl ((S.1 12 i0 0) - (1 : Int32))] S) (fun r2 S1 =>
 if r2 &&& 1 = r2 then some (some (.inl r2), S1) else none) := rfl
theorem zx_X12_isPair (d : Nat) (S : z_Mem) (i0 : Nat) (v1 : Int32) : z_exe z_mt true (d + 1) 129 [.inr (.inr (12, i0)), .inl v1] S = zr_X12_isPair (z_exe z_mt true d) (999999 + 1) 0 [some (.inr (.inr (12, i0))), some (.inl v1)] [] S := z_exe_eq (q := (yX12_isPair, cX12_isPair, 2, (some .boolean), true, zo_X12_isPair, zc_X12_isPair, 12, 2)) rfl rfl
abbrev zr_X12_isPlace (ex : z_Ex) (n pc : Nat) (ls : z_Lc) (st : List z_AV) (S : z_Mem) : Option (Option z_AV × z_Mem) := z_run true ex true zo_X12_isPlace zc_X12_isPlace n pc ls st S
set_option maxRecDepth 100000 in
set_option maxHeartbeats 4000000 in
theorem ze_X12_isPlace_0 (ex : z_Ex) (n : Nat) (S : z_Mem) (i0 : Nat) (v1 : Int32) : zr_X12_isPlace ex (n + 1) 0 [some (.inr (.inr (12, i0))), some (.inl v1)] [] S =
 z_rI (ex 124 [.inr (.inr (12, i0)), .inl v1, .inl (0 : Int32), .inl (5 : Int32)] S) (fun r2 S1 =>
 if r2 &&& 1 = r2 then some (some (.inl r2), S1) else none) := rfl
theorem zx_X12_isPlace (d : Nat) (S : z_Mem) (i0 : Nat) (v1 : Int32) : z_exe z_mt true (d + 1) 130 [.inr (.inr (12, i0)), .inl v1] S = zr_X12_isPlace (z_exe z_mt true d) (999999 + 1) 0 [some (.inr (.inr (12, i0))), some (.inl v1)] [] S := z_exe_eq (q := (yX12_isPlace, cX12_isPlace, 2, (some .boolean), true, zo_X12_isPlace, zc_X12_isPlace, 12, 2)) rfl rfl
abbrev zr_X12_isWet (ex : z_Ex) (n pc : Nat) (ls : z_Lc) (st : List z_AV) (S : z_Mem) : Option (Option z_AV × z_Mem) := z_run true ex true zo_X12_isWet zc_X12_isWet n pc ls st S
set_option maxRecDepth 100000 in
set_option maxHeartbeats 4000000 in
theorem ze_X12_isWet_0 (ex : z_Ex) (n : Nat) (S : z_Mem) (i0 : Nat) (v1 : Int32) : zr_X12_isWet ex (n + 1) 0 [some (.inr (.inr (12, i0))), some (.inl v1)] [] S =
 z_rI (ex 124 [.inr (.inr (12, i0)), .inl v1, .inl (0 : Int32), .inl (99 : Int32)] S) (fun r2 S1 =>
 if r2 &&& 1 = r2 then some (some (.inl r2), S1) else none) := rfl
theorem zx_X12_isWet (d : Nat) (S : z_Mem) (i0 : Nat) (v1 : Int32) : z_exe z_mt true (d + 1) 131 [.inr (.inr (12, i0)), .inl v1] S = zr_X12_isWet (z_exe z_mt true d) (999999 + 1) 0 [some (.inr (.inr (12, i0))), some (.inl v1)] [] S := z_exe_eq (q := (yX12_isWet, cX12_isWet, 2, (some .boolean), true, zo_X12_isWet, zc_X12_isWet, 12, 2)) rfl rfl
abbrev zr_X12_isHours (ex : z_Ex) (n pc : Nat) (ls : z_Lc) (st : List z_AV) (S : z_Mem) : Option (Option z_AV × z_Mem) := z_run true ex true zo_X12_isHours zc_X12_isHours n pc ls st S
set_option maxRecDepth 100000 in
set_option maxHeartbeats 4000000 in
theorem ze_X12_isHours_0 (ex : z_Ex) (n : Nat) (S : z_Mem) (i0 : Nat) (v1 : Int32) : zr_X12_isHours ex (n + 1) 0 [some (.inr (.inr (12, i0))), some (.inl v1)] [] S =
 z_rI (ex 124 [.inr (.inr (12, i0)), .inl v1, .inl (0 : Int32), .inl (60 : Int32)] S) (fun r2 S1 =>
 if r2 &&& 1 = r2 then some (some (.inl r2), S1) else none) := rfl
theorem zx_X12_isHours (d : Nat) (S : z_Mem) (i0 : Nat) (v1 : Int32) : z_exe z_mt true (d + 1) 132 [.inr (.inr (12, i0)), .inl v1] S = zr_X12_isHours (z_exe z_mt true d) (999999 + 1) 0 [some (.inr (.inr (12, i0))), some (.inl v1)] [] S := z_exe_eq (q := (yX12_isHours, cX12_isHours, 2, (some .boolean), true, zo_X12_isHours, zc_X12_isHours, 12, 2)) rfl rfl
abbrev zr_X12_whoIs (ex : z_Ex) (n pc : Nat) (ls : z_Lc) (st : List z_AV) (S : z_Mem) : Option (Option z_AV × z_Mem) := z_run true ex false zo_X12_whoIs zc_X12_whoIs n pc ls st S
set_option maxRecDepth 100000 in
set_option maxHeartbeats 4000000 in
theorem ze_X12_whoIs_0 (ex : z_Ex) (n : Nat) (S : z_Mem) (i0 : Nat) (v1 : Int32) : zr_X12_whoIs ex (n + 1) 0 [some (.inr (.inr (12, i0))), some (.inl v1), none] [] S =
 zr_X12_whoIs ex n 2 [some (.inr (.inr (12, i0))), some (.inl v1), some (.inl (0 : Int32))] [] S := rfl
theorem zx_X12_whoIs (d : Nat) (S : z_Mem) (i0 : Nat) (v1 : Int32) : z_exe z_mt true (d + 1) 133 [.inr (.inr (12, i0)), .inl v1] S = zr_X12_whoIs (z_exe z_mt true d) (999999 + 1) 0 [some (.inr (.inr (12, i0))), some (.inl v1), none] [] S := z_exe_eq (q := (yX12_whoIs, cX12_whoIs, 3, (some .int), false, zo_X12_whoIs, zc_X12_whoIs, 12, 2)) rfl rfl
set_option maxRecDepth 100000 in
set_option maxHeartbeats 4000000 in
theorem ze_X12_whoIs_2 (ex : z_Ex) (n : Nat) (S : z_Mem) (i0 : Nat) (v1 : Int32) (v2 : Int32) : zr_X12_whoIs ex (n + 1) 2 [some (.inr (.inr (12, i0))), some (.inl v1), some (.inl v2)] [] S =
 if (S.1 12 i0 0) ≤ v2 then (
  some (some (.inl (-5 : Int32)), S))
 else (
  cond (z_oob v2 6) none (
  if (S.1 40 i0 (Int32.toNatClampNeg v2)) = v1 then (
   some (some (.inl v2), S))
  else (
   let x1 : Int32 := (v2 + (1 : Int32))
   zr_X12_whoIs ex n 2 [some (.inr (.inr (12, i0))), some (.inl v1), some (.inl x1)] [] S))) := rfl
abbrev zr_X12_pair (ex : z_Ex) (n pc : Nat) (ls : z_Lc) (st : List z_AV) (S : z_Mem) : Option (Option z_AV × z_Mem) := z_run true ex false zo_X12_pair zc_X12_pair n pc ls st S
set_option maxRecDepth 100000 in
set_option maxHeartbeats 4000000 in
theorem ze_X12_pair_0 (ex : z_Ex) (n : Nat) (S : z_Mem) (i0 : Nat) (v1 : Int32) (v2 : Int32) (v3 : Int32) : zr_X12_pair ex (n + 1) 0 [some (.inr (.inr (12, i0))), some (.inl v1), some (.inl v2), some (.inl v3), none, none] [] S =
 z_rI (ex 124 [.inr (.inr (12, i0)), .inl v1, .inl (0 : Int32), .inl (6 : Int32)] S) (fun r2 S1 =>
 if r2 = 0 then (
  some (some (.inl (-1 : Int32)), S1))
 else (
  z_rI (ex 124 [.inr (.inr (12, i0)), .inl v2, .inl (0 : Int32), .inl (9 : Int32)] S1) (fun r4 S3 =>
  if r4 = 0 then (
   some (some (.inl (-2 : Int32)), S3))
  else (
   z_rI (ex 131 [.inr (.inr (12, i0)), .inl v3] S3) (fun r6 S5 =>
   if r6 = 0 then (
    some (some (.inl (-2 : Int32)), S5))
   else (
    if (S5.1 12 i0 0) = (6 : Int32) then (
     some (some (.inl (-4 : Int32)), S5))
    else (
     zr_X12_pair ex n 50 [some (.inr (.inr (12, i0))), some (.inl v1), some (.inl v2), some (.inl v3), some (.inl (0 : Int32)), none] [] S5))))))) := rfl
theorem zx_X12_pair (d : Nat) (S : z_Mem) (i0 : Nat) (v1 : Int32) (v2 : Int32) (v3 : Int32) : z_exe z_mt true (d + 1) 134 [.inr (.inr (12, i0)), .inl v1, .inl v2, .inl v3] S = zr_X12_pair (z_exe z_mt true d) (999999 + 1) 0 [some (.inr (.inr (12, i0))), some (.inl v1), some (.inl v2), some (.inl v3), none, none] [] S := z_exe_eq (q := (yX12_pair, cX12_pair, 6, (some .int), false, zo_X12_pair, zc_X12_pair, 12, 4)) rfl rfl
set_option maxRecDepth 100000 in
set_option maxHeartbeats 4000000 in
theorem ze_X12_pair_50 (ex : z_Ex) (n : Nat) (S : z_Mem) (i0 : Nat) (v1 : Int32) (v2 : Int32) (v3 : Int32) (v4 : Int32) : zr_X12_pair ex (n + 1) 50 [some (.inr (.inr (12, i0))), some (.inl v1), some (.inl v2), some (.inl v3), some (.inl v4), none] [] S =
 z_rI (ex 133 [.inr (.inr (12, i0)), .inl v4] S) (fun r8 S7 =>
 if r8 < 0 then (
  cond (z_oob (S7.1 12 i0 0) 6) none (
  let S9 : z_Mem := z_sI S7 37 i0 (Int32.toNatClampNeg (S7.1 12 i0 0)) v1
  cond (z_oob (S9.1 12 i0 0) 6) none (
  let S10 : z_Mem := z_sI S9 38 i0 (Int32.toNatClampNeg (S9.1 12 i0 0)) v2
  cond (z_oob (S10.1 12 i0 0) 6) none (
  let S11 : z_Mem := z_sI S10 39 i0 (Int32.toNatClampNeg (S10.1 12 i0 0)) v3
  cond (z_oob (S11.1 12 i0 0) 6) none (
  let S12 : z_Mem := z_sI S11 40 i0 (Int32.toNatClampNeg (S11.1 12 i0 0)) v4
  cond (z_oob (S12.1 12 i0 0) 6) none (
  let S13 : z_Mem := z_sI S12 41 i0 (Int32.toNatClampNeg (S12.1 12 i0 0)) (0 : Int32)
  let S14 : z_Mem := z_sI S13 12 i0 1 ((S13.1 12 i0 1) &&& (((1 : Int32) <<< ((S13.1 12 i0 0) &&& 31)) ^^^ (-1 : Int32)))
  zr_X12_pair ex n 136 [some (.inr (.inr (12, i0))), none, none, none, none, some (.inl (0 : Int32))] [] S14))))))
 else (
  let x15 : Int32 := (v4 + (1 : Int32))
  zr_X12_pair ex n 50 [some (.inr (.inr (12, i0))), some (.inl v1), some (.inl v2), some (.inl v3), some (.inl x15), none] [] S7)) := rfl
set_option maxRecDepth 100000 in
set_option maxHeartbeats 4000000 in
theorem ze_X12_pair_136 (ex : z_Ex) (n : Nat) (S : z_Mem) (i0 : Nat) (v5 : Int32) : zr_X12_pair ex (n + 1) 136 [some (.inr (.inr (12, i0))), none, none, none, none, some (.inl v5)] [] S =
 if (4 : Int32) ≤ v5 then (
  let S16 : z_Mem := z_sI S 12 i0 0 ((S.1 12 i0 0) + (1 : Int32))
  some (some (.inl ((S16.1 12 i0 0) - (1 : Int32))), S16))
 else (
  cond (z_oob (((4 : Int32) * (S.1 12 i0 0)) + v5) 24) none (
  let S17 : z_Mem := z_sI S 42 i0 (Int32.toNatClampNeg (((4 : Int32) * (S.1 12 i0 0)) + v5)) (0 : Int32)
  let x18 : Int32 := (v5 + (1 : Int32))
  zr_X12_pair ex n 136 [some (.inr (.inr (12, i0))), none, none, none, none, some (.inl x18)] [] S17)) := rfl
abbrev zr_X12_wet (ex : z_Ex) (n pc : Nat) (ls : z_Lc) (st : List z_AV) (S : z_Mem) : Option (Option z_AV × z_Mem) := z_run true ex false zo_X12_wet zc_X12_wet n pc ls st S
set_option maxRecDepth 100000 in
set_option maxHeartbeats 4000000 in
theorem ze_X12_wet_0 (ex : z_Ex) (n : Nat) (S : z_Mem) (i0 : Nat) (v1 : Int32) (v2 : Int32) : zr_X12_wet ex (n + 1) 0 [some (.inr (.inr (12, i0))), some (.inl v1), some (.inl v2), none] [] S =
 z_rI (ex 129 [.inr (.inr (12, i0)), .inl v1] S) (fun r2 S1 =>
 if r2 = 0 then (
  some (some (.inl (-1 : Int32)), S1))
 else (
  z_rI (ex 131 [.inr (.inr (12, i0)), .inl v2] S1) (fun r4 S3 =>
  if r4 = 0 then (
   some (some (.inl (-2 : Int32)), S3))
  else (
   cond (z_oob v1 6) none (
   let x5 : Int32 := (S3.1 39 i0 (Int32.toNatClampNeg v1))
   cond (z_oob v1 6) none (
   let S6 : z_Mem := z_sI S3 39 i0 (Int32.toNatClampNeg v1) v2
   some (some (.inl x5), S6))))))) := rfl
theorem zx_X12_wet (d : Nat) (S : z_Mem) (i0 : Nat) (v1 : Int32) (v2 : Int32) : z_exe z_mt true (d + 1) 135 [.inr (.inr (12, i0)), .inl v1, .inl v2] S = zr_X12_wet (z_exe z_mt true d) (999999 + 1) 0 [some (.inr (.inr (12, i0))), some (.inl v1), some (.inl v2), none] [] S := z_exe_eq (q := (yX12_wet, cX12_wet, 4, (some .int), false, zo_X12_wet, zc_X12_wet, 12, 3)) rfl rfl
abbrev zr_X12_comesTo (ex : z_Ex) (n pc : Nat) (ls : z_Lc) (st : List z_AV) (S : z_Mem) : Option (Option z_AV × z_Mem) := z_run true ex false zo_X12_comesTo zc_X12_comesTo n pc ls st S
set_option maxRecDepth 100000 in
set_option maxHeartbeats 4000000 in
theorem ze_X12_comesTo_0 (ex : z_Ex) (n : Nat) (S : z_Mem) (i0 : Nat) (v1 : Int32) (v2 : Int32) : zr_X12_comesTo ex (n + 1) 0 [some (.inr (.inr (12, i0))), some (.inl v1), some (.inl v2), none] [] S =
 z_rI (ex 133 [.inr (.inr (12, i0)), .inl v2] S) (fun r2 S1 =>
 if r2 < 0 then (
  cond (z_oob v1 6) none (
  let S3 : z_Mem := z_sI S1 40 i0 (Int32.toNatClampNeg v1) v2
  some (none, S3)))
 else (
  cond (z_oob v1 6) none (
  cond (z_oob r2 6) none (
  let S4 : z_Mem := z_sI S1 40 i0 (Int32.toNatClampNeg r2) (S1.1 40 i0 (Int32.toNatClampNeg v1))
  cond (z_oob v1 6) none (
  let S5 : z_Mem := z_sI S4 40 i0 (Int32.toNatClampNeg v1) v2
  some (none, S5)))))) := rfl
theorem zx_X12_comesTo (d : Nat) (S : z_Mem) (i0 : Nat) (v1 : Int32) (v2 : Int32) : z_exe z_mt true (d + 1) 136 [.inr (.inr (12, i0)), .inl v1, .inl v2] S = zr_X12_comesTo (z_exe z_mt true d) (999999 + 1) 0 [some (.inr (.inr (12, i0))), some (.inl v1), some (.inl v2), none] [] S := z_exe_eq (q := (yX12_comesTo, cX12_comesTo, 4, none, false, zo_X12_comesTo, zc_X12_comesTo, 12, 3)) rfl rfl
abbrev zr_X12_put (ex : z_Ex) (n pc : Nat) (ls : z_Lc) (st : List z_AV) (S : z_Mem) : Option (Option z_AV × z_Mem) := z_run true ex false zo_X12_put zc_X12_put n pc ls st S
set_option maxRecDepth 100000 in
set_option maxHeartbeats 4000000 in
theorem ze_X12_put_0 (ex : z_Ex) (n : Nat) (S : z_Mem) (i0 : Nat) (v1 : Int32) (v2 : Int32) : zr_X12_put ex (n + 1) 0 [some (.inr (.inr (12, i0))), some (.inl v1), some (.inl v2), none] [] S =
 z_rI (ex 129 [.inr (.inr (12, i0)), .inl v1] S) (fun r2 S1 =>
 if r2 = 0 then (
  some (some (.inl (-1 : Int32)), S1))
 else (
  z_rI (ex 130 [.inr (.inr (12, i0)), .inl v2] S1) (fun r4 S3 =>
  if r4 = 0 then (
   some (some (.inl (-1 : Int32)), S3))
  else (
   cond (z_oob v1 6) none (
   let x5 : Int32 := (S3.1 40 i0 (Int32.toNatClampNeg v1))
   z_rV (ex 136 [.inr (.inr (12, i0)), .inl v1, .inl v2] S3) (fun S6 =>
   some (some (.inl x5), S6))))))) := rfl
theorem zx_X12_put (d : Nat) (S : z_Mem) (i0 : Nat) (v1 : Int32) (v2 : Int32) : z_exe z_mt true (d + 1) 137 [.inr (.inr (12, i0)), .inl v1, .inl v2] S = zr_X12_put (z_exe z_mt true d) (999999 + 1) 0 [some (.inr (.inr (12, i0))), some (.inl v1), some (.inl v2), none] [] S := z_exe_eq (q := (yX12_put, cX12_put, 4, (some .int), false, zo_X12_put, zc_X12_put, 12, 3)) rfl rfl
abbrev zr_X12_goes (ex : z_Ex) (n pc : Nat) (ls : z_Lc) (st : List z_AV) (S : z_Mem) : Option (Option z_AV × z_Mem) := z_run true ex false zo_X12_goes zc_X12_goes n pc ls st S
set_option maxRecDepth 100000 in
set_option maxHeartbeats 4000000 in
theorem ze_X12_goes_0 (ex : z_Ex) (n : Nat) (S : z_Mem) (i0 : Nat) (v1 : Int32) (v2 : Int32) : zr_X12_goes ex (n + 1) 0 [some (.inr (.inr (12, i0))), some (.inl v1), some (.inl v2)] [] S =
 if v2 = 0 then (
  let S1 : z_Mem := z_sI S 12 i0 1 ((S.1 12 i0 1) &&& (((1 : Int32) <<< (v1 &&& 31)) ^^^ (-1 : Int32)))
  some (none, S1))
 else (
  let S2 : z_Mem := z_sI S 12 i0 1 ((S.1 12 i0 1) ||| ((1 : Int32) <<< (v1 &&& 31)))
  some (none, S2)) := rfl
theorem zx_X12_goes (d : Nat) (S : z_Mem) (i0 : Nat) (v1 : Int32) (v2 : Int32) : z_exe z_mt true (d + 1) 138 [.inr (.inr (12, i0)), .inl v1, .inl v2] S = zr_X12_goes (z_exe z_mt true d) (999999 + 1) 0 [some (.inr (.inr (12, i0))), some (.inl v1), some (.inl v2)] [] S := z_exe_eq (q := (yX12_goes, cX12_goes, 3, none, false, zo_X12_goes, zc_X12_goes, 12, 3)) rfl rfl
abbrev zr_X12_take (ex : z_Ex) (n pc : Nat) (ls : z_Lc) (st : List z_AV) (S : z_Mem) : Option (Option z_AV × z_Mem) := z_run true ex false zo_X12_take zc_X12_take n pc ls st S
set_option maxRecDepth 100000 in
set_option maxHeartbeats 4000000 in
theorem ze_X12_take_0 (ex : z_Ex) (n : Nat) (S : z_Mem) (i0 : Nat) (v1 : Int32) (v2 : Int32) : zr_X12_take ex (n + 1) 0 [some (.inr (.inr (12, i0))), some (.inl v1), some (.inl v2), none] [] S =
 z_rI (ex 129 [.inr (.inr (12, i0)), .inl v1] S) (fun r2 S1 =>
 if r2 = 0 then (
  some (some (.inl (-1 : Int32)), S1))
 else (
  z_rI (ex 125 [.inr (.inr (12, i0)), .inl (S1.1 12 i0 1), .inl v1] S1) (fun r4 S3 =>
  if r4 = 0 then (
   z_rV (ex 138 [.inr (.inr (12, i0)), .inl v1, .inl v2] S3) (fun S5 =>
   some (some (.inl (0 : Int32)), S5)))
  else (
   z_rV (ex 138 [.inr (.inr (12, i0)), .inl v1, .inl v2] S3) (fun S6 =>
   some (some (.inl (1 : Int32)), S6)))))) := rfl
theorem zx_X12_take (d : Nat) (S : z_Mem) (i0 : Nat) (v1 : Int32) (v2 : Int32) : z_exe z_mt true (d + 1) 139 [.inr (.inr (12, i0)), .inl v1, .inl v2] S = zr_X12_take (z_exe z_mt true d) (999999 + 1) 0 [some (.inr (.inr (12, i0))), some (.inl v1), some (.inl v2), none] [] S := z_exe_eq (q := (yX12_take, cX12_take, 4, (some .int), false, zo_X12_take, zc_X12_take, 12, 3)) rfl rfl
abbrev zr_X12_set (ex : z_Ex) (n pc : Nat) (ls : z_Lc) (st : List z_AV) (S : z_Mem) : Option (Option z_AV × z_Mem) := z_run true ex false zo_X12_set zc_X12_set n pc ls st S
set_option maxRecDepth 100000 in
set_option maxHeartbeats 4000000 in
theorem ze_X12_set_0 (ex : z_Ex) (n : Nat) (S : z_Mem) (i0 : Nat) (v1 : Int32) (v2 : Int32) : zr_X12_set ex (n + 1) 0 [some (.inr (.inr (12, i0))), some (.inl v1), some (.inl v2), none] [] S =
 z_rI (ex 124 [.inr (.inr (12, i0)), .inl v1, .inl (0 : Int32), .inl (1 : Int32)] S) (fun r2 S1 =>
 if r2 = 0 then (
  some (some (.inl (-1 : Int32)), S1))
 else (
  if v1 = 0 then (
   z_rI (ex 124 [.inr (.inr (12, i0)), .inl v2, .inl (0 : Int32), .inl (30 : Int32)] S1) (fun r4 S3 =>
   if r4 = 0 then (
    some (some (.inl (-2 : Int32)), S3))
   else (
    if v1 = 0 then (
     if v1 = 0 then (
      let S5 : z_Mem := z_sI S3 12 i0 2 v2
      some (some (.inl (S3.1 12 i0 2)), S5))
     else (
      let S6 : z_Mem := z_sI S3 12 i0 3 v2
      some (some (.inl (S3.1 12 i0 2)), S6)))
    else (
     if v1 = 0 then (
      let S7 : z_Mem := z_sI S3 12 i0 2 v2
      some (some (.inl (S3.1 12 i0 3)), S7))
     else (
      let S8 : z_Mem := z_sI S3 12 i0 3 v2
      some (some (.inl (S3.1 12 i0 3)), S8))))))
  else (
   z_rI (ex 124 [.inr (.inr (12, i0)), .inl v2, .inl (0 : Int32), .inl (9 : Int32)] S1) (fun r10 S9 =>
   if r10 = 0 then (
    some (some (.inl (-2 : Int32)), S9))
   else (
    if v1 = 0 then (
     if v1 = 0 then (
      let S11 : z_Mem := z_sI S9 12 i0 2 v2
      some (some (.inl (S9.1 12 i0 2)), S11))
     else (
      let S12 : z_Mem := z_sI S9 12 i0 3 v2
      some (some (.inl (S9.1 12 i0 2)), S12)))
    else (
     if v1 = 0 then (
      let S13 : z_Mem := z_sI S9 12 i0 2 v2
      some (some (.inl (S9.1 12 i0 3)), S13))
     else (
      let S14 : z_Mem := z_sI S9 12 i0 3 v2
      some (some (.inl (S9.1 12 i0 3)), S14)))))))) := rfl
theorem zx_X12_set (d : Nat) (S : z_Mem) (i0 : Nat) (v1 : Int32) (v2 : Int32) : z_exe z_mt true (d + 1) 140 [.inr (.inr (12, i0)), .inl v1, .inl v2] S = zr_X12_set (z_exe z_mt true d) (999999 + 1) 0 [some (.inr (.inr (12, i0))), some (.inl v1), some (.inl v2), none] [] S := z_exe_eq (q := (yX12_set, cX12_set, 4, (some .int), false, zo_X12_set, zc_X12_set, 12, 3)) rfl rfl
abbrev zr_X12_row (ex : z_Ex) (n pc : Nat) (ls : z_Lc) (st : List z_AV) (S : z_Mem) : Option (Option z_AV × z_Mem) := z_run true ex false zo_X12_row zc_X12_row n pc ls st S
set_option maxRecDepth 100000 in
set_option maxHeartbeats 4000000 in
theorem ze_X12_row_0 (ex : z_Ex) (n : Nat) (S : z_Mem) (i0 : Nat) (v1 : Int32) (v2 : Int32) (v3 : Int32) : zr_X12_row ex (n + 1) 0 [some (.inr (.inr (12, i0))), some (.inl v1), some (.inl v2), some (.inl v3), none] [] S =
 z_rI (ex 129 [.inr (.inr (12, i0)), .inl v1] S) (fun r2 S1 =>
 if r2 = 0 then (
  some (some (.inl (-1 : Int32)), S1))
 else (
  z_rI (ex 124 [.inr (.inr (12, i0)), .inl v2, .inl (0 : Int32), .inl (3 : Int32)] S1) (fun r4 S3 =>
  if r4 = 0 then (
   some (some (.inl (-1 : Int32)), S3))
  else (
   z_rI (ex 124 [.inr (.inr (12, i0)), .inl v3, .inl (0 : Int32), .inl (9 : Int32)] S3) (fun r6 S5 =>
   if r6 = 0 then (
    some (some (.inl (-2 : Int32)), S5))
   else (
    cond (z_oob v1 6) none (
    if (S5.1 37 i0 (Int32.toNatClampNeg v1)) = (6 : Int32) then (
     cond (z_oob (((4 : Int32) * v1) + v2) 24) none (
     let x7 : Int32 := (S5.1 42 i0 (Int32.toNatClampNeg (((4 : Int32) * v1) + v2)))
     cond (z_oob (((4 : Int32) * v1) + v2) 24) none (
     let S8 : z_Mem := z_sI S5 42 i0 (Int32.toNatClampNeg (((4 : Int32) * v1) + v2)) v3
     some (some (.inl x7), S8))))
    else (
     some (some (.inl (-3 : Int32)), S5))))))))) := rfl
theorem zx_X12_row (d : Nat) (S : z_Mem) (i0 : Nat) (v1 : Int32) (v2 : Int32) (v3 : Int32) : z_exe z_mt true (d + 1) 141 [.inr (.inr (12, i0)), .inl v1, .inl v2, .inl v3] S = zr_X12_row (z_exe z_mt true d) (999999 + 1) 0 [some (.inr (.inr (12, i0))), some (.inl v1), some (.inl v2), some (.inl v3), none] [] S := z_exe_eq (q := (yX12_row, cX12_row, 5, (some .int), false, zo_X12_row, zc_X12_row, 12, 4)) rfl rfl
abbrev zr_X12_feed (ex : z_Ex) (n pc : Nat) (ls : z_Lc) (st : List z_AV) (S : z_Mem) : Option (Option z_AV × z_Mem) := z_run true ex false zo_X12_feed zc_X12_feed n pc ls st S
set_option maxRecDepth 100000 in
set_option maxHeartbeats 4000000 in
theorem ze_X12_feed_0 (ex : z_Ex) (n : Nat) (S : z_Mem) (i0 : Nat) (v1 : Int32) : zr_X12_feed ex (n + 1) 0 [some (.inr (.inr (12, i0))), some (.inl v1)] [] S =
 z_rI (ex 124 [.inr (.inr (12, i0)), .inl v1, .inl (0 : Int32), .inl (127 : Int32)] S) (fun r2 S1 =>
 if r2 = 0 then (
  some (some (.inl (-2 : Int32)), S1))
 else (
  if (S1.1 12 i0 13) = (100 : Int32) then (
   some (some (.inl (-4 : Int32)), S1))
  else (
   cond (z_oob (S1.1 12 i0 13) 100) none (
   let S3 : z_Mem := z_sI S1 43 i0 (Int32.toNatClampNeg (S1.1 12 i0 13)) v1
   let S4 : z_Mem := z_sI S3 12 i0 13 ((S3.1 12 i0 13) + (1 : Int32))
   some (some (.inl (S4.1 12 i0 13)), S4))))) := rfl
theorem zx_X12_feed (d : Nat) (S : z_Mem) (i0 : Nat) (v1 : Int32) : z_exe z_mt true (d + 1) 142 [.inr (.inr (12, i0)), .inl v1] S = zr_X12_feed (z_exe z_mt true d) (999999 + 1) 0 [some (.inr (.inr (12, i0))), some (.inl v1)] [] S := z_exe_eq (q := (yX12_feed, cX12_feed, 2, (some .int), false, zo_X12_feed, zc_X12_feed, 12, 2)) rfl rfl
abbrev zr_X12_next (ex : z_Ex) (n pc : Nat) (ls : z_Lc) (st : List z_AV) (S : z_Mem) : Option (Option z_AV × z_Mem) := z_run true ex false zo_X12_next zc_X12_next n pc ls st S
set_option maxRecDepth 100000 in
set_option maxHeartbeats 4000000 in
theorem ze_X12_next_0 (ex : z_Ex) (n : Nat) (S : z_Mem) (i0 : Nat) : zr_X12_next ex (n + 1) 0 [some (.inr (.inr (12, i0)))] [] S =
 if (S.1 12 i0 13) ≤ (S.1 12 i0 14) then (
  some (some (.inl (-1 : Int32)), S))
 else (
  cond (z_oob (S.1 12 i0 14) 100) none (
  some (some (.inl (S.1 43 i0 (Int32.toNatClampNeg (S.1 12 i0 14)))), S))) := rfl
theorem zx_X12_next (d : Nat) (S : z_Mem) (i0 : Nat) : z_exe z_mt true (d + 1) 143 [.inr (.inr (12, i0))] S = zr_X12_next (z_exe z_mt true d) (999999 + 1) 0 [some (.inr (.inr (12, i0)))] [] S := z_exe_eq (q := (yX12_next, cX12_next, 1, (some .int), false, zo_X12_next, zc_X12_next, 12, 1)) rfl rfl
abbrev zr_X12_second (ex : z_Ex) (n pc : Nat) (ls : z_Lc) (st : List z_AV) (S : z_Mem) : Option (Option z_AV × z_Mem) := z_run true ex false zo_X12_second zc_X12_second n pc ls st S
set_option maxRecDepth 100000 in
set_option maxHeartbeats 4000000 in
theorem ze_X12_second_0 (ex : z_Ex) (n : Nat) (S : z_Mem) (i0 : Nat) : zr_X12_second ex (n + 1) 0 [some (.inr (.inr (12, i0)))] [] S =
 if (S.1 12 i0 13) ≤ ((S.1 12 i0 14) + (1 : Int32)) then (
  some (some (.inl (-1 : Int32)), S))
 else (
  cond (z_oob ((S.1 12 i0 14) + (1 : Int32)) 100) none (
  some (some (.inl (S.1 43 i0 (Int32.toNatClampNeg ((S.1 12 i0 14) + (1 : Int32))))), S))) := rfl
theorem zx_X12_second (d : Nat) (S : z_Mem) (i0 : Nat) : z_exe z_mt true (d + 1) 144 [.inr (.inr (12, i0))] S = zr_X12_second (z_exe z_mt true d) (999999 + 1) 0 [some (.inr (.inr (12, i0)))] [] S := z_exe_eq (q := (yX12_second, cX12_second, 1, (some .int), false, zo_X12_second, zc_X12_second, 12, 1)) rfl rfl
abbrev zr_X12_takes (ex : z_Ex) (n pc : Nat) (ls : z_Lc) (st : List z_AV) (S : z_Mem) : Option (Option z_AV × z_Mem) := z_run true ex true zo_X12_takes zc_X12_takes n pc ls st S
set_option maxRecDepth 100000 in
set_option maxHeartbeats 4000000 in
theorem ze_X12_takes_0 (ex : z_Ex) (n : Nat) (S : z_Mem) (i0 : Nat) (v1 : Int32) : zr_X12_takes ex (n + 1) 0 [some (.inr (.inr (12, i0))), some (.inl v1)] [] S =
 z_rI (ex 143 [.inr (.inr (12, i0))] S) (fun r2 S1 =>
 if r2 = v1 then (
  let S3 : z_Mem := z_sI S1 12 i0 14 ((S1.1 12 i0 14) + (1 : Int32))
  some (some (.inl (1 : Int32)), S3))
 else (
  some (some (.inl (0 : Int32)), S1))) := rfl
theorem zx_X12_takes (d : Nat) (S : z_Mem) (i0 : Nat) (v1 : Int32) : z_exe z_mt true (d + 1) 145 [.inr (.inr (12, i0)), .inl v1] S = zr_X12_takes (z_exe z_mt true d) (999999 + 1) 0 [some (.inr (.inr (12, i0))), some (.inl v1)] [] S := z_exe_eq (q := (yX12_takes, cX12_takes, 2, (some .boolean), true, zo_X12_takes, zc_X12_takes, 12, 2)) rfl rfl
abbrev zr_X12_takesWord (ex : z_Ex) (n pc : Nat) (ls : z_Lc) (st : List z_AV) (S : z_Mem) : Option (Option z_AV × z_Mem) := z_run true ex true zo_X12_takesWord zc_X12_takesWord n pc ls st S
set_option maxRecDepth 100000 in
set_option maxHeartbeats 4000000 in
theorem ze_X12_takesWord_0 (ex : z_Ex) (n : Nat) (S : z_Mem) (i0 : Nat) (v1 : Int32) (v2 : Int32) : zr_X12_takesWord ex (n + 1) 0 [some (.inr (.inr (12, i0))), some (.inl v1), some (.inl v2), none] [] S =
 zr_X12_takesWord ex n 2 [some (.inr (.inr (12, i0))), some (.inl v1), some (.inl v2), some (.inl (0 : Int32))] [] S := rfl
theorem zx_X12_takesWord (d : Nat) (S : z_Mem) (i0 : Nat) (v1 : Int32) (v2 : Int32) : z_exe z_mt true (d + 1) 146 [.inr (.inr (12, i0)), .inl v1, .inl v2] S = zr_X12_takesWord (z_exe z_mt true d) (999999 + 1) 0 [some (.inr (.inr (12, i0))), some (.inl v1), some (.inl v2), none] [] S := z_exe_eq (q := (yX12_takesWord, cX12_takesWord, 4, (some .boolean), true, zo_X12_takesWord, zc_X12_takesWord, 12, 3)) rfl rfl
set_option maxRecDepth 100000 in
set_option maxHeartbeats 4000000 in
theorem ze_X12_takesWord_2 (ex : z_Ex) (n : Nat) (S : z_Mem) (i0 : Nat) (v1 : Int32) (v2 : Int32) (v3 : Int32) : zr_X12_takesWord ex (n + 1) 2 [some (.inr (.inr (12, i0))), some (.inl v1), some (.inl v2), some (.inl v3)] [] S =
 if v2 ≤ v3 then (
  z_rI (ex 145 [.inr (.inr (12, i0)), .inl (32 : Int32)] S) (fun r2 S1 =>
  if r2 &&& 1 = r2 then some (some (.inl r2), S1) else none))
 else (
  cond (z_oob (v1 + v3) 14) none (
  z_rI (ex 145 [.inr (.inr (12, i0)), .inl (S.1 51 i0 (Int32.toNatClampNeg (v1 + v3)))] S) (fun r4 S3 =>
  if r4 = 0 then (
   some (some (.inl (0 : Int32)), S3))
  else (
   let x5 : Int32 := (v3 + (1 : Int32))
   zr_X12_takesWord ex n 2 [some (.inr (.inr (12, i0))), some (.inl v1), some (.inl v2), some (.inl x5)] [] S3)))) := rfl
abbrev zr_X12_isDigit (ex : z_Ex) (n pc : Nat) (ls : z_Lc) (st : List z_AV) (S : z_Mem) : Option (Option z_AV × z_Mem) := z_run true ex true zo_X12_isDigit zc_X12_isDigit n pc ls st S
set_option maxRecDepth 100000 in
set_option maxHeartbeats 4000000 in
theorem ze_X12_isDigit_0 (ex : z_Ex) (n : Nat) (S : z_Mem) (i0 : Nat) : zr_X12_isDigit ex (n + 1) 0 [some (.inr (.inr (12, i0)))] [] S =
 z_rI (ex 143 [.inr (.inr (12, i0))] S) (fun r2 S1 =>
 z_rI (ex 124 [.inr (.inr (12, i0)), .inl r2, .inl (48 : Int32), .inl (57 : Int32)] S1) (fun r4 S3 =>
 if r4 &&& 1 = r4 then some (some (.inl r4), S3) else none)) := rfl
theorem zx_X12_isDigit (d : Nat) (S : z_Mem) (i0 : Nat) : z_exe z_mt true (d + 1) 147 [.inr (.inr (12, i0))] S = zr_X12_isDigit (z_exe z_mt true d) (999999 + 1) 0 [some (.inr (.inr (12, i0)))] [] S := z_exe_eq (q := (yX12_isDigit, cX12_isDigit, 1, (some .boolean), true, zo_X12_isDigit, zc_X12_isDigit, 12, 1)) rfl rfl
abbrev zr_X12_takesNumber (ex : z_Ex) (n pc : Nat) (ls : z_Lc) (st : List z_AV) (S : z_Mem) : Option (Option z_AV × z_Mem) := z_run true ex true zo_X12_takesNumber zc_X12_takesNumber n pc ls st S
set_option maxRecDepth 100000 in
set_option maxHeartbeats 4000000 in
theorem ze_X12_takesNumber_0 (ex : z_Ex) (n : Nat) (S : z_Mem) (i0 : Nat) : zr_X12_takesNumber ex (n + 1) 0 [some (.inr (.inr (12, i0))), none] [] S =
 z_rI (ex 147 [.inr (.inr (12, i0))] S) (fun r2 S1 =>
 if r2 = 0 then (
  some (some (.inl (0 : Int32)), S1))
 else (
  let S3 : z_Mem := z_sI S1 12 i0 15 (0 : Int32)
  zr_X12_takesNumber ex n 16 [some (.inr (.inr (12, i0))), some (.inl (0 : Int32))] [] S3)) := rfl
theorem zx_X12_takesNumber (d : Nat) (S : z_Mem) (i0 : Nat) : z_exe z_mt true (d + 1) 148 [.inr (.inr (12, i0))] S = zr_X12_takesNumber (z_exe z_mt true d) (999999 + 1) 0 [some (.inr (.inr (12, i0))), none] [] S := z_exe_eq (q := (yX12_takesNumber, cX12_takesNumber, 2, (some .boolean), true, zo_X12_takesNumber, zc_X12_takesNumber, 12, 1)) rfl rfl
set_option maxRecDepth 100000 in
set_option maxHeartbeats 4000000 in
theorem ze_X12_takesNumber_16 (ex : z_Ex) (n : Nat) (S : z_Mem) (i0 : Nat) (v1 : Int32) : zr_X12_takesNumber ex (n + 1) 16 [some (.inr (.inr (12, i0))), some (.inl v1)] [] S =
 if (2 : Int32) ≤ v1 then (
  some (some (.inl (1 : Int32)), S))
 else (
  z_rI (ex 147 [.inr (.inr (12, i0))] S) (fun r5 S4 =>
  if r5 = 0 then (
   some (some (.inl (1 : Int32)), S4))
  else (
   z_rI (ex 143 [.inr (.inr (12, i0))] S4) (fun r7 S6 =>
   let S8 : z_Mem := z_sI S6 12 i0 15 ((((10 : Int32) * (S4.1 12 i0 15)) + r7) - (48 : Int32))
   let S9 : z_Mem := z_sI S8 12 i0 14 ((S8.1 12 i0 14) + (1 : Int32))
   let x10 : Int32 := (v1 + (1 : Int32))
   zr_X12_takesNumber ex n 16 [some (.inr (.inr (12, i0))), some (.inl x10)] [] S9)))) := rfl
abbrev zr_X12_emits (ex : z_Ex) (n pc : Nat) (ls : z_Lc) (st : List z_AV) (S : z_Mem) : Option (Option z_AV × z_Mem) := z_run true ex false zo_X12_emits zc_X12_emits n pc ls st S
set_option maxRecDepth 100000 in
set_option maxHeartbeats 4000000 in
theorem ze_X12_emits_0 (ex : z_Ex) (n : Nat) (S : z_Mem) (i0 : Nat) (v1 : Int32) : zr_X12_emits ex (n + 1) 0 [some (.inr (.inr (12, i0))), some (.inl v1)] [] S =
 cond (z_oob (S.1 12 i0 24) 600) none (
 let S1 : z_Mem := z_sI S 49 i0 (Int32.toNatClampNeg (S.1 12 i0 24)) v1
 let S2 : z_Mem := z_sI S1 12 i0 24 ((S1.1 12 i0 24) + (1 : Int32))
 some (none, S2)) := rfl
theorem zx_X12_emits (d : Nat) (S : z_Mem) (i0 : Nat) (v1 : Int32) : z_exe z_mt true (d + 1) 149 [.inr (.inr (12, i0)), .inl v1] S = zr_X12_emits (z_exe z_mt true d) (999999 + 1) 0 [some (.inr (.inr (12, i0))), some (.inl v1)] [] S := z_exe_eq (q := (yX12_emits, cX12_emits, 2, none, false, zo_X12_emits, zc_X12_emits, 12, 2)) rfl rfl
abbrev zr_X12_whole (ex : z_Ex) (n pc : Nat) (ls : z_Lc) (st : List z_AV) (S : z_Mem) : Option (Option z_AV × z_Mem) := z_run true ex false zo_X12_whole zc_X12_whole n pc ls st S
set_option maxRecDepth 100000 in
set_option maxHeartbeats 4000000 in
theorem ze_X12_whole_0 (ex : z_Ex) (n : Nat) (S : z_Mem) (i0 : Nat) : zr_X12_whole ex (n + 1) 0 [some (.inr (.inr (12, i0)))] [] S =
 if (S.1 12 i0 25) ≤ 0 then (
  some (none, S))
 else (
  cond (z_oob ((S.1 12 i0 25) - (1 : Int32)) 101) none (
  if (S.1 50 i0 (Int32.toNatClampNeg ((S.1 12 i0 25) - (1 : Int32)))) = (33 : Int32) then (
   z_rV (ex 149 [.inr (.inr (12, i0)), .inl (-33 : Int32)] S) (fun S1 =>
   let S2 : z_Mem := z_sI S1 12 i0 25 ((S1.1 12 i0 25) - (1 : Int32))
   let S3 : z_Mem := z_sI S2 12 i0 26 ((S2.1 12 i0 26) - (1 : Int32))
   zr_X12_whole ex n 0 [some (.inr (.inr (12, i0)))] [] S3))
  else (
   some (none, S)))) := rfl
theorem zx_X12_whole (d : Nat) (S : z_Mem) (i0 : Nat) : z_exe z_mt true (d + 1) 150 [.inr (.inr (12, i0))] S = zr_X12_whole (z_exe z_mt true d) (999999 + 1) 0 [some (.inr (.inr (12, i0)))] [] S := z_exe_eq (q := (yX12_whole, cX12_whole, 1, none, false, zo_X12_whole, zc_X12_whole, 12, 1)) rfl rfl
abbrev zr_X12_settle (ex : z_Ex) (n pc : Nat) (ls : z_Lc) (st : List z_AV) (S : z_Mem) : Option (Option z_AV × z_Mem) := z_run true ex false zo_X12_settle zc_X12_settle n pc ls st S
set_option maxRecDepth 100000 in
set_option maxHeartbeats 4000000 in
theorem ze_X12_settle_0 (ex : z_Ex) (n : Nat) (S : z_Mem) (i0 : Nat) (v1 : Int32) : zr_X12_settle ex (n + 1) 0 [some (.inr (.inr (12, i0))), some (.inl v1)] [] S =
 if (S.1 12 i0 25) ≤ 0 then (
  some (none, S))
 else (
  cond (z_oob ((S.1 12 i0 25) - (1 : Int32)) 101) none (
  if (S.1 50 i0 (Int32.toNatClampNeg ((S.1 12 i0 25) - (1 : Int32)))) = (38 : Int32) then (
   let S1 : z_Mem := z_sI S 12 i0 25 ((S.1 12 i0 25) - (1 : Int32))
   cond (z_oob (S1.1 12 i0 25) 101) none (
   z_rV (ex 149 [.inr (.inr (12, i0)), .inl (-(S1.1 50 i0 (Int32.toNatClampNeg (S1.1 12 i0 25))))] S1) (fun S2 =>
   zr_X12_settle ex n 0 [some (.inr (.inr (12, i0))), some (.inl v1)] [] S2)))
  else (
   cond (z_oob ((S.1 12 i0 25) - (1 : Int32)) 101) none (
   if (S.1 50 i0 (Int32.toNatClampNeg ((S.1 12 i0 25) - (1 : Int32)))) = (124 : Int32) then (
    if v1 = (38 : Int32) then (
     some (none, S))
    else (
     let S3 : z_Mem := z_sI S 12 i0 25 ((S.1 12 i0 25) - (1 : Int32))
     cond (z_oob (S3.1 12 i0 25) 101) none (
     z_rV (ex 149 [.inr (.inr (12, i0)), .inl (-(S3.1 50 i0 (Int32.toNatClampNeg (S3.1 12 i0 25))))] S3) (fun S4 =>
     zr_X12_settle ex n 0 [some (.inr (.inr (12, i0))), some (.inl v1)] [] S4))))
   else (
    some (none, S)))))) := rfl
theorem zx_X12_settle (d : Nat) (S : z_Mem) (i0 : Nat) (v1 : Int32) : z_exe z_mt true (d + 1) 151 [.inr (.inr (12, i0)), .inl v1] S = zr_X12_settle (z_exe z_mt true d) (999999 + 1) 0 [some (.inr (.inr (12, i0))), some (.inl v1)] [] S := z_exe_eq (q := (yX12_settle, cX12_settle, 2, none, false, zo_X12_settle, zc_X12_settle, 12, 2)) rfl rfl
abbrev zr_X12_place (ex : z_Ex) (n pc : Nat) (ls : z_Lc) (st : List z_AV) (S : z_Mem) : Option (Option z_AV × z_Mem) := z_run true ex false zo_X12_place zc_X12_place n pc ls st S
set_option maxRecDepth 100000 in
set_option maxHeartbeats 4000000 in
theorem ze_X12_place_0 (ex : z_Ex) (n : Nat) (S : z_Mem) (i0 : Nat) (v1 : Int32) : zr_X12_place ex (n + 1) 0 [some (.inr (.inr (12, i0))), some (.inl v1)] [] S =
 if v1 = (98 : Int32) then (
  some (some (.inl (0 : Int32)), S)) else
 if v1 = (104 : Int32) then (
  some (some (.inl (5 : Int32)), S)) else
 if v1 = (107 : Int32) then (
  some (some (.inl (2 : Int32)), S)) else
 if v1 = (112 : Int32) then (
  some (some (.inl (1 : Int32)), S)) else
 if v1 = (118 : Int32) then (
  some (some (.inl (3 : Int32)), S)) else
 if v1 = (119 : Int32) then (
  some (some (.inl (4 : Int32)), S)) else
 some (some (.inl (-1 : Int32)), S) := rfl
theorem zx_X12_place (d : Nat) (S : z_Mem) (i0 : Nat) (v1 : Int32) : z_exe z_mt true (d + 1) 152 [.inr (.inr (12, i0)), .inl v1] S = zr_X12_place (z_exe z_mt true d) (999999 + 1) 0 [some (.inr (.inr (12, i0))), some (.inl v1)] [] S := z_exe_eq (q := (yX12_place, cX12_place, 2, (some .int), false, zo_X12_place, zc_X12_place, 12, 2)) rfl rfl
abbrev zr_X12_takesTest (ex : z_Ex) (n pc : Nat) (ls : z_Lc) (st : List z_AV) (S : z_Mem) : Option (Option z_AV × z_Mem) := z_run true ex true zo_X12_takesTest zc_X12_takesTest n pc ls st S
set_option maxRecDepth 100000 in
set_option maxHeartbeats 4000000 in
theorem ze_X12_takesTest_0 (ex : z_Ex) (n : Nat) (S : z_Mem) (i0 : Nat) : zr_X12_takesTest ex (n + 1) 0 [some (.inr (.inr (12, i0))), none, none] [] S =
 z_rI (ex 143 [.inr (.inr (12, i0))] S) (fun r2 S1 =>
 z_rI (ex 152 [.inr (.inr (12, i0)), .inl r2] S1) (fun r4 S3 =>
 if 0 ≤ r4 then (
  let S5 : z_Mem := z_sI S3 12 i0 14 ((S3.1 12 i0 14) + (1 : Int32))
  z_rI (ex 143 [.inr (.inr (12, i0))] S5) (fun r7 S6 =>
  z_rI (ex 124 [.inr (.inr (12, i0)), .inl r7, .inl (60 : Int32), .inl (62 : Int32)] S6) (fun r9 S8 =>
  if r9 = 0 then (
   some (some (.inl (0 : Int32)), S8))
  else (
   let S10 : z_Mem := z_sI S8 12 i0 14 ((S8.1 12 i0 14) + (1 : Int32))
   z_rI (ex 148 [.inr (.inr (12, i0))] S10) (fun r12 S11 =>
   if r12 = 0 then (
    some (some (.inl (0 : Int32)), S11))
   else (
    z_rV (ex 149 [.inr (.inr (12, i0)), .inl ((((1000 : Int32) * r4) + ((100 : Int32) * (r7 - (60 : Int32)))) + (S11.1 12 i0 15))] S11) (fun S13 =>
    z_rV (ex 150 [.inr (.inr (12, i0))] S13) (fun S14 =>
    some (some (.inl (1 : Int32)), S14)))))))))
 else (
  some (some (.inl (0 : Int32)), S3)))) := rfl
theorem zx_X12_takesTest (d : Nat) (S : z_Mem) (i0 : Nat) : z_exe z_mt true (d + 1) 153 [.inr (.inr (12, i0))] S = zr_X12_takesTest (z_exe z_mt true d) (999999 + 1) 0 [some (.inr (.inr (12, i0))), none, none] [] S := z_exe_eq (q := (yX12_takesTest, cX12_takesTest, 3, (some .boolean), true, zo_X12_takesTest, zc_X12_takesTest, 12, 1)) rfl rfl
abbrev zr_X12_takesE (ex : z_Ex) (n pc : Nat) (ls : z_Lc) (st : List z_AV) (S : z_Mem) : Option (Option z_AV × z_Mem) := z_run true ex true zo_X12_takesE zc_X12_takesE n pc ls st S
set_option maxRecDepth 100000 in
set_option maxHeartbeats 4000000 in
theorem ze_X12_takesE_0 (ex : z_Ex) (n : Nat) (S : z_Mem) (i0 : Nat) (v1 : Int32) : zr_X12_takesE ex (n + 1) 0 [some (.inr (.inr (12, i0))), some (.inl v1), none, none] [] S =
 let S1 : z_Mem := z_sI S 12 i0 25 (0 : Int32)
 let S2 : z_Mem := z_sI S1 12 i0 26 (0 : Int32)
 cond (z_oob v1 60) none (
 let S3 : z_Mem := z_sI S2 47 i0 (Int32.toNatClampNeg v1) (S2.1 12 i0 24)
 zr_X12_takesE ex n 22 [some (.inr (.inr (12, i0))), some (.inl v1), some (.inl (1 : Int32)), none] [] S3) := rfl
theorem zx_X12_takesE (d : Nat) (S : z_Mem) (i0 : Nat) (v1 : Int32) : z_exe z_mt true (d + 1) 154 [.inr (.inr (12, i0)), .inl v1] S = zr_X12_takesE (z_exe z_mt true d) (999999 + 1) 0 [some (.inr (.inr (12, i0))), some (.inl v1), none, none] [] S := z_exe_eq (q := (yX12_takesE, cX12_takesE, 4, (some .boolean), true, zo_X12_takesE, zc_X12_takesE, 12, 2)) rfl rfl
set_option maxRecDepth 100000 in
set_option maxHeartbeats 4000000 in
theorem ze_X12_takesE_22 (ex : z_Ex) (n : Nat) (S : z_Mem) (i0 : Nat) (v1 : Int32) (v2 : Int32) : zr_X12_takesE ex (n + 1) 22 [some (.inr (.inr (12, i0))), some (.inl v1), some (.inl v2), none] [] S =
 z_rI (ex 143 [.inr (.inr (12, i0))] S) (fun r5 S4 =>
 if v2 = 0 then (
  if r5 = (38 : Int32) then (
   z_rV (ex 151 [.inr (.inr (12, i0)), .inl r5] S4) (fun S6 =>
   cond (z_oob (S6.1 12 i0 25) 101) none (
   let S7 : z_Mem := z_sI S6 50 i0 (Int32.toNatClampNeg (S6.1 12 i0 25)) r5
   let S8 : z_Mem := z_sI S7 12 i0 25 ((S7.1 12 i0 25) + (1 : Int32))
   let S9 : z_Mem := z_sI S8 12 i0 14 ((S8.1 12 i0 14) + (1 : Int32))
   zr_X12_takesE ex n 22 [some (.inr (.inr (12, i0))), some (.inl v1), some (.inl (1 : Int32)), none] [] S9)))
  else (
   if r5 = (124 : Int32) then (
    z_rV (ex 151 [.inr (.inr (12, i0)), .inl r5] S4) (fun S10 =>
    cond (z_oob (S10.1 12 i0 25) 101) none (
    let S11 : z_Mem := z_sI S10 50 i0 (Int32.toNatClampNeg (S10.1 12 i0 25)) r5
    let S12 : z_Mem := z_sI S11 12 i0 25 ((S11.1 12 i0 25) + (1 : Int32))
    let S13 : z_Mem := z_sI S12 12 i0 14 ((S12.1 12 i0 14) + (1 : Int32))
    zr_X12_takesE ex n 22 [some (.inr (.inr (12, i0))), some (.inl v1), some (.inl (1 : Int32)), none] [] S13)))
   else (
    z_rV (ex 151 [.inr (.inr (12, i0)), .inl (124 : Int32)] S4) (fun S14 =>
    cond (z_oob v1 60) none (
    let S15 : z_Mem := z_sI S14 48 i0 (Int32.toNatClampNeg v1) (S14.1 12 i0 24)
    if (S15.1 12 i0 25) = 0 then (
     some (some (.inl (1 : Int32)), S15))
    else (
     if r5 = (41 : Int32) then (
      let S16 : z_Mem := z_sI S15 12 i0 25 ((S15.1 12 i0 25) - (1 : Int32))
      let S17 : z_Mem := z_sI S16 12 i0 26 ((S16.1 12 i0 26) - (1 : Int32))
      let S18 : z_Mem := z_sI S17 12 i0 14 ((S17.1 12 i0 14) + (1 : Int32))
      z_rV (ex 150 [.inr (.inr (12, i0))] S18) (fun S19 =>
      zr_X12_takesE ex n 22 [some (.inr (.inr (12, i0))), some (.inl v1), some (.inl v2), none] [] S19))
     else (
      some (some (.inl (0 : Int32)), S15))))))))
 else (
  if r5 = (33 : Int32) then (
   if (S4.1 12 i0 26) = (4 : Int32) then (
    some (some (.inl (0 : Int32)), S4))
   else (
    let S20 : z_Mem := z_sI S4 12 i0 26 ((S4.1 12 i0 26) + (1 : Int32))
    cond (z_oob (S20.1 12 i0 25) 101) none (
    let S21 : z_Mem := z_sI S20 50 i0 (Int32.toNatClampNeg (S20.1 12 i0 25)) r5
    let S22 : z_Mem := z_sI S21 12 i0 25 ((S21.1 12 i0 25) + (1 : Int32))
    let S23 : z_Mem := z_sI S22 12 i0 14 ((S22.1 12 i0 14) + (1 : Int32))
    zr_X12_takesE ex n 22 [some (.inr (.inr (12, i0))), some (.inl v1), some (.inl v2), none] [] S23)))
  else (
   if r5 = (40 : Int32) then (
    if (S4.1 12 i0 26) = (4 : Int32) then (
     some (some (.inl (0 : Int32)), S4))
    else (
     let S24 : z_Mem := z_sI S4 12 i0 26 ((S4.1 12 i0 26) + (1 : Int32))
     cond (z_oob (S24.1 12 i0 25) 101) none (
     let S25 : z_Mem := z_sI S24 50 i0 (Int32.toNatClampNeg (S24.1 12 i0 25)) r5
     let S26 : z_Mem := z_sI S25 12 i0 25 ((S25.1 12 i0 25) + (1 : Int32))
     let S27 : z_Mem := z_sI S26 12 i0 14 ((S26.1 12 i0 14) + (1 : Int32))
     zr_X12_takesE ex n 22 [some (.inr (.inr (12, i0))), some (.inl v1), some (.inl v2), none] [] S27)))
   else (
    z_rI (ex 153 [.inr (.inr (12, i0))] S4) (fun r29 S28 =>
    if r29 = 0 then (
     some (some (.inl (0 : Int32)), S28))
    else (
     zr_X12_takesE ex n 22 [some (.inr (.inr (12, i0))), some (.inl v1), some (.inl (0 : Int32)), none] [] S28)))))) := rfl
abbrev zr_X12_takesHead (ex : z_Ex) (n pc : Nat) (ls : z_Lc) (st : List z_AV) (S : z_Mem) : Option (Option z_AV × z_Mem) := z_run true ex true zo_X12_takesHead zc_X12_takesHead n pc ls st S
set_option maxRecDepth 100000 in
set_option maxHeartbeats 4000000 in
theorem ze_X12_takesHead_0 (ex : z_Ex) (n : Nat) (S : z_Mem) (i0 : Nat) (v1 : Int32) : zr_X12_takesHead ex (n + 1) 0 [some (.inr (.inr (12, i0))), some (.inl v1)] [] S =
 z_rI (ex 143 [.inr (.inr (12, i0))] S) (fun r2 S1 =>
 if r2 = (99 : Int32) then (
  cond (z_oob v1 60) none (
  let S3 : z_Mem := z_sI S1 45 i0 (Int32.toNatClampNeg v1) (2 : Int32)
  z_rI (ex 146 [.inr (.inr (12, i0)), .inl (7 : Int32), .inl (4 : Int32)] S3) (fun r5 S4 =>
  if r5 &&& 1 = r5 then some (some (.inl r5), S4) else none))) else
 if r2 = (108 : Int32) then (
  cond (z_oob v1 60) none (
  let S6 : z_Mem := z_sI S1 45 i0 (Int32.toNatClampNeg v1) (3 : Int32)
  z_rI (ex 146 [.inr (.inr (12, i0)), .inl (11 : Int32), .inl (3 : Int32)] S6) (fun r8 S7 =>
  if r8 &&& 1 = r8 then some (some (.inl r8), S7) else none))) else
 z_rI (ex 144 [.inr (.inr (12, i0))] S1) (fun r10 S9 =>
 if r10 = (97 : Int32) then (
  cond (z_oob v1 60) none (
  let S11 : z_Mem := z_sI S9 45 i0 (Int32.toNatClampNeg v1) (1 : Int32)
  cond (z_oob v1 60) none (
  if (S11.1 45 i0 (Int32.toNatClampNeg v1)) = (1 : Int32) then (
   z_rI (ex 146 [.inr (.inr (12, i0)), .inl (3 : Int32), .inl (4 : Int32)] S11) (fun r13 S12 =>
   if r13 &&& 1 = r13 then some (some (.inl r13), S12) else none))
  else (
   z_rI (ex 146 [.inr (.inr (12, i0)), .inl (0 : Int32), .inl (3 : Int32)] S11) (fun r15 S14 =>
   if r15 &&& 1 = r15 then some (some (.inl r15), S14) else none)))))
 else (
  cond (z_oob v1 60) none (
  let S16 : z_Mem := z_sI S9 45 i0 (Int32.toNatClampNeg v1) (0 : Int32)
  cond (z_oob v1 60) none (
  if (S16.1 45 i0 (Int32.toNatClampNeg v1)) = (1 : Int32) then (
   z_rI (ex 146 [.inr (.inr (12, i0)), .inl (3 : Int32), .inl (4 : Int32)] S16) (fun r18 S17 =>
   if r18 &&& 1 = r18 then some (some (.inl r18), S17) else none))
  else (
   z_rI (ex 146 [.inr (.inr (12, i0)), .inl (0 : Int32), .inl (3 : Int32)] S16) (fun r20 S19 =>
   if r20 &&& 1 = r20 then some (some (.inl r20), S19) else none))))))) := rfl
theorem zx_X12_takesHead (d : Nat) (S : z_Mem) (i0 : Nat) (v1 : Int32) : z_exe z_mt true (d + 1) 155 [.inr (.inr (12, i0)), .inl v1] S = zr_X12_takesHead (z_exe z_mt true d) (999999 + 1) 0 [some (.inr (.inr (12, i0))), some (.inl v1)] [] S := z_exe_eq (q := (yX12_takesHead, cX12_takesHead, 2, (some .boolean), true, zo_X12_takesHead, zc_X12_takesHead, 12, 2)) rfl rfl
abbrev zr_X12_takesClause (ex : z_Ex) (n pc : Nat) (ls : z_Lc) (st : List z_AV) (S : z_Mem) : Option (Option z_AV × z_Mem) := z_run true ex true zo_X12_takesClause zc_X12_takesClause n pc ls st S
set_option maxRecDepth 100000 in
set_option maxHeartbeats 4000000 in
theorem ze_X12_takesClause_0 (ex : z_Ex) (n : Nat) (S : z_Mem) (i0 : Nat) (v1 : Int32) : zr_X12_takesClause ex (n + 1) 0 [some (.inr (.inr (12, i0))), some (.inl v1)] [] S =
 z_rI (ex 155 [.inr (.inr (12, i0)), .inl v1] S) (fun r2 S1 =>
 if r2 = 0 then (
  some (some (.inl (0 : Int32)), S1))
 else (
  z_rI (ex 148 [.inr (.inr (12, i0))] S1) (fun r4 S3 =>
  if r4 = 0 then (
   some (some (.inl (0 : Int32)), S3))
  else (
   cond (z_oob v1 60) none (
   let S5 : z_Mem := z_sI S3 46 i0 (Int32.toNatClampNeg v1) (S3.1 12 i0 15)
   cond (z_oob v1 60) none (
   if (2 : Int32) ≤ (S5.1 45 i0 (Int32.toNatClampNeg v1)) then (
    some (some (.inl (1 : Int32)), S5))
   else (
    z_rI (ex 145 [.inr (.inr (12, i0)), .inl (32 : Int32)] S5) (fun r7 S6 =>
    if r7 = 0 then (
     some (some (.inl (0 : Int32)), S6))
    else (
     z_rI (ex 154 [.inr (.inr (12, i0)), .inl v1] S6) (fun r9 S8 =>
     if r9 = 0 then (
      some (some (.inl (0 : Int32)), S8))
     else (
      some (some (.inl (1 : Int32)), S8)))))))))))) := rfl
theorem zx_X12_takesClause (d : Nat) (S : z_Mem) (i0 : Nat) (v1 : Int32) : z_exe z_mt true (d + 1) 156 [.inr (.inr (12, i0)), .inl v1] S = zr_X12_takesClause (z_exe z_mt true d) (999999 + 1) 0 [some (.inr (.inr (12, i0))), some (.inl v1)] [] S := z_exe_eq (q := (yX12_takesClause, cX12_takesClause, 2, (some .boolean), true, zo_X12_takesClause, zc_X12_takesClause, 12, 2)) rfl rfl
abbrev zr_X12_goesText (ex : z_Ex) (n pc : Nat) (ls : z_Lc) (st : List z_AV) (S : z_Mem) : Option (Option z_AV × z_Mem) := z_run true ex true zo_X12_goesText zc_X12_goesText n pc ls st S
set_option maxRecDepth 100000 in
set_option maxHeartbeats 4000000 in
theorem ze_X12_goesText_0 (ex : z_Ex) (n : Nat) (S : z_Mem) (i0 : Nat) (v1 : Int32) : zr_X12_goesText ex (n + 1) 0 [some (.inr (.inr (12, i0))), some (.inl v1), none] [] S =
 let S1 : z_Mem := z_sI S 12 i0 14 (0 : Int32)
 let S2 : z_Mem := z_sI S1 12 i0 24 ((100 : Int32) * v1)
 zr_X12_goesText ex n 15 [some (.inr (.inr (12, i0))), some (.inl v1), some (.inl (0 : Int32))] [] S2 := rfl
theorem zx_X12_goesText (d : Nat) (S : z_Mem) (i0 : Nat) (v1 : Int32) : z_exe z_mt true (d + 1) 157 [.inr (.inr (12, i0)), .inl v1] S = zr_X12_goesText (z_exe z_mt true d) (999999 + 1) 0 [some (.inr (.inr (12, i0))), some (.inl v1), none] [] S := z_exe_eq (q := (yX12_goesText, cX12_goesText, 3, (some .boolean), true, zo_X12_goesText, zc_X12_goesText, 12, 2)) rfl rfl
set_option maxRecDepth 100000 in
set_option maxHeartbeats 4000000 in
theorem ze_X12_goesText_15 (ex : z_Ex) (n : Nat) (S : z_Mem) (i0 : Nat) (v1 : Int32) (v2 : Int32) : zr_X12_goesText ex (n + 1) 15 [some (.inr (.inr (12, i0))), some (.inl v1), some (.inl v2)] [] S =
 z_rI (ex 156 [.inr (.inr (12, i0)), .inl (((10 : Int32) * v1) + v2)] S) (fun r4 S3 =>
 if r4 = 0 then (
  some (some (.inl (0 : Int32)), S3))
 else (
  let x5 : Int32 := (v2 + (1 : Int32))
  cond (z_oob v1 6) none (
  let S6 : z_Mem := z_sI S3 44 i0 (Int32.toNatClampNeg v1) x5
  if (S6.1 12 i0 14) = (S6.1 12 i0 13) then (
   some (some (.inl (1 : Int32)), S6))
  else (
   if x5 = (10 : Int32) then (
    some (some (.inl (0 : Int32)), S6))
   else (
    z_rI (ex 145 [.inr (.inr (12, i0)), .inl (59 : Int32)] S6) (fun r8 S7 =>
    if r8 = 0 then (
     some (some (.inl (0 : Int32)), S7))
    else (
     zr_X12_goesText ex n 15 [some (.inr (.inr (12, i0))), some (.inl v1), some (.inl x5)] [] S7))))))) := rfl
abbrev zr_X12_hut (ex : z_Ex) (n pc : Nat) (ls : z_Lc) (st : List z_AV) (S : z_Mem) : Option (Option z_AV × z_Mem) := z_run true ex false zo_X12_hut zc_X12_hut n pc ls st S
set_option maxRecDepth 100000 in
set_option maxHeartbeats 4000000 in
theorem ze_X12_hut_0 (ex : z_Ex) (n : Nat) (S : z_Mem) (i0 : Nat) : zr_X12_hut ex (n + 1) 0 [some (.inr (.inr (12, i0))), none] [] S =
 if (S.1 12 i0 11) = (6 : Int32) then (
  some (some (.inl (-4 : Int32)), S))
 else (
  z_rI (ex 157 [.inr (.inr (12, i0)), .inl (S.1 12 i0 11)] S) (fun r2 S1 =>
  let S3 : z_Mem := z_sI S1 12 i0 13 (0 : Int32)
  if r2 = 0 then (
   some (some (.inl ((-10 : Int32) - (S3.1 12 i0 14))), S3))
  else (
   let S4 : z_Mem := z_sI S3 12 i0 12 (S3.1 12 i0 11)
   let S5 : z_Mem := z_sI S4 12 i0 11 ((S4.1 12 i0 11) + (1 : Int32))
   some (some (.inl (S5.1 12 i0 12)), S5)))) := rfl
theorem zx_X12_hut (d : Nat) (S : z_Mem) (i0 : Nat) : z_exe z_mt true (d + 1) 158 [.inr (.inr (12, i0))] S = zr_X12_hut (z_exe z_mt true d) (999999 + 1) 0 [some (.inr (.inr (12, i0))), none] [] S := z_exe_eq (q := (yX12_hut, cX12_hut, 2, (some .int), false, zo_X12_hut, zc_X12_hut, 12, 1)) rfl rfl
abbrev zr_X12_begin (ex : z_Ex) (n pc : Nat) (ls : z_Lc) (st : List z_AV) (S : z_Mem) : Option (Option z_AV × z_Mem) := z_run true ex false zo_X12_begin zc_X12_begin n pc ls st S
set_option maxRecDepth 100000 in
set_option maxHeartbeats 4000000 in
theorem ze_X12_begin_0 (ex : z_Ex) (n : Nat) (S : z_Mem) (i0 : Nat) : zr_X12_begin ex (n + 1) 0 [some (.inr (.inr (12, i0)))] [] S =
 if 0 ≤ (S.1 12 i0 12) then (
  some (some (.inl ((10 : Int32) * (S.1 12 i0 12))), S))
 else (
  some (some (.inl (0 : Int32)), S)) := rfl
theorem zx_X12_begin (d : Nat) (S : z_Mem) (i0 : Nat) : z_exe z_mt true (d + 1) 159 [.inr (.inr (12, i0))] S = zr_X12_begin (z_exe z_mt true d) (999999 + 1) 0 [some (.inr (.inr (12, i0)))] [] S := z_exe_eq (q := (yX12_begin, cX12_begin, 1, (some .int), false, zo_X12_begin, zc_X12_begin, 12, 1)) rfl rfl
abbrev zr_X12_behind (ex : z_Ex) (n pc : Nat) (ls : z_Lc) (st : List z_AV) (S : z_Mem) : Option (Option z_AV × z_Mem) := z_run true ex false zo_X12_behind zc_X12_behind n pc ls st S
set_option maxRecDepth 100000 in
set_option maxHeartbeats 4000000 in
theorem ze_X12_behind_0 (ex : z_Ex) (n : Nat) (S : z_Mem) (i0 : Nat) : zr_X12_behind ex (n + 1) 0 [some (.inr (.inr (12, i0)))] [] S =
 if 0 ≤ (S.1 12 i0 12) then (
  cond (z_oob (S.1 12 i0 12) 6) none (
  some (some (.inl (((10 : Int32) * (S.1 12 i0 12)) + (S.1 44 i0 (Int32.toNatClampNeg (S.1 12 i0 12))))), S)))
 else (
  some (some (.inl (0 : Int32)), S)) := rfl
theorem zx_X12_behind (d : Nat) (S : z_Mem) (i0 : Nat) : z_exe z_mt true (d + 1) 160 [.inr (.inr (12, i0))] S = zr_X12_behind (z_exe z_mt true d) (999999 + 1) 0 [some (.inr (.inr (12, i0)))] [] S := z_exe_eq (q := (yX12_behind, cX12_behind, 1, (some .int), false, zo_X12_behind, zc_X12_behind, 12, 1)) rfl rfl
abbrev zr_X12_lastOf (ex : z_Ex) (n pc : Nat) (ls : z_Lc) (st : List z_AV) (S : z_Mem) : Option (Option z_AV × z_Mem) := z_run true ex false zo_X12_lastOf zc_X12_lastOf n pc ls st S
set_option maxRecDepth 100000 in
set_option maxHeartbeats 4000000 in
theorem ze_X12_lastOf_0 (ex : z_Ex) (n : Nat) (S : z_Mem) (i0 : Nat) (v1 : Int32) (v2 : Int32) : zr_X12_lastOf ex (n + 1) 0 [some (.inr (.inr (12, i0))), some (.inl v1), some (.inl v2), none, none] [] S =
 z_rI (ex 159 [.inr (.inr (12, i0))] S) (fun r2 S1 =>
 zr_X12_lastOf ex n 8 [some (.inr (.inr (12, i0))), some (.inl v1), none, some (.inl v2), some (.inl r2)] [] S1) := rfl
theorem zx_X12_lastOf (d : Nat) (S : z_Mem) (i0 : Nat) (v1 : Int32) (v2 : Int32) : z_exe z_mt true (d + 1) 161 [.inr (.inr (12, i0)), .inl v1, .inl v2] S = zr_X12_lastOf (z_exe z_mt true d) (999999 + 1) 0 [some (.inr (.inr (12, i0))), some (.inl v1), some (.inl v2), none, none] [] S := z_exe_eq (q := (yX12_lastOf, cX12_lastOf, 5, (some .int), false, zo_X12_lastOf, zc_X12_lastOf, 12, 3)) rfl rfl
set_option maxRecDepth 100000 in
set_option maxHeartbeats 4000000 in
theorem ze_X12_lastOf_8 (ex : z_Ex) (n : Nat) (S : z_Mem) (i0 : Nat) (v1 : Int32) (v3 : Int32) (v4 : Int32) : zr_X12_lastOf ex (n + 1) 8 [some (.inr (.inr (12, i0))), some (.inl v1), none, some (.inl v3), some (.inl v4)] [] S =
 z_rI (ex 160 [.inr (.inr (12, i0))] S) (fun r4 S3 =>
 if r4 ≤ v4 then (
  some (some (.inl v3), S3))
 else (
  cond (z_oob v4 60) none (
  if (S3.1 45 i0 (Int32.toNatClampNeg v4)) = v1 then (
   cond (z_oob v4 60) none (
   let x5 : Int32 := (S3.1 46 i0 (Int32.toNatClampNeg v4))
   let x6 : Int32 := (v4 + (1 : Int32))
   zr_X12_lastOf ex n 8 [some (.inr (.inr (12, i0))), some (.inl v1), none, some (.inl x5), some (.inl x6)] [] S3))
  else (
   let x7 : Int32 := (v4 + (1 : Int32))
   zr_X12_lastOf ex n 8 [some (.inr (.inr (12, i0))), some (.inl v1), none, some (.inl v3), some (.inl x7)] [] S3)))) := rfl
abbrev zr_X12_factOf (ex : z_Ex) (n pc : Nat) (ls : z_Lc) (st : List z_AV) (S : z_Mem) : Option (Option z_AV × z_Mem) := z_run true ex false zo_X12_factOf zc_X12_factOf n pc ls st S
set_option maxRecDepth 100000 in
set_option maxHeartbeats 4000000 in
theorem ze_X12_factOf_0 (ex : z_Ex) (n : Nat) (S : z_Mem) (i0 : Nat) (v1 : Int32) (v2 : Int32) (v3 : Int32) : zr_X12_factOf ex (n + 1) 0 [some (.inr (.inr (12, i0))), some (.inl v1), some (.inl v2), some (.inl v3)] [] S =
 if v1 = (0 : Int32) then (
  some (some (.inl v2), S)) else
 if v1 = (1 : Int32) then (
  some (some (.inl v3), S)) else
 if v1 = (2 : Int32) then (
  cond (z_oob v2 6) none (
  some (some (.inl (S.1 37 i0 (Int32.toNatClampNeg v2))), S))) else
 if v1 = (3 : Int32) then (
  cond (z_oob v2 6) none (
  some (some (.inl (S.1 38 i0 (Int32.toNatClampNeg v2))), S))) else
 if v1 = (4 : Int32) then (
  cond (z_oob v2 6) none (
  if (10 : Int32) = 0 then none else
  some (some (.inl ((S.1 39 i0 (Int32.toNatClampNeg v2)) / (10 : Int32))), S))) else
 if (10 : Int32) = 0 then none else
 some (some (.inl ((S.1 12 i0 4) - (S.1 12 i0 4) / (10 : Int32) * (10 : Int32))), S) := rfl
theorem zx_X12_factOf (d : Nat) (S : z_Mem) (i0 : Nat) (v1 : Int32) (v2 : Int32) (v3 : Int32) : z_exe z_mt true (d + 1) 162 [.inr (.inr (12, i0)), .inl v1, .inl v2, .inl v3] S = zr_X12_factOf (z_exe z_mt true d) (999999 + 1) 0 [some (.inr (.inr (12, i0))), some (.inl v1), some (.inl v2), some (.inl v3)] [] S := z_exe_eq (q := (yX12_factOf, cX12_factOf, 4, (some .int), false, zo_X12_factOf, zc_X12_factOf, 12, 4)) rfl rfl
abbrev zr_X12_holds (ex : z_Ex) (n pc : Nat) (ls : z_Lc) (st : List z_AV) (S : z_Mem) : Option (Option z_AV × z_Mem) := z_run true ex true zo_X12_holds zc_X12_holds n pc ls st S
set_option maxRecDepth 100000 in
set_option maxHeartbeats 4000000 in
theorem ze_X12_holds_0 (ex : z_Ex) (n : Nat) (S : z_Mem) (i0 : Nat) (v1 : Int32) (v2 : Int32) (v3 : Int32) : zr_X12_holds ex (n + 1) 0 [some (.inr (.inr (12, i0))), some (.inl v1), some (.inl v2), some (.inl v3), none, none, none, none, none] [] S =
 cond (z_oob v1 60) none (
 let x1 : Int32 := (S.1 47 i0 (Int32.toNatClampNeg v1))
 zr_X12_holds ex n 11 [some (.inr (.inr (12, i0))), some (.inl v1), some (.inl v2), some (.inl v3), some (.inl (0 : Int32)), some (.inl x1), none, none, none] [] S) := rfl
theorem zx_X12_holds (d : Nat) (S : z_Mem) (i0 : Nat) (v1 : Int32) (v2 : Int32) (v3 : Int32) : z_exe z_mt true (d + 1) 163 [.inr (.inr (12, i0)), .inl v1, .inl v2, .inl v3] S = zr_X12_holds (z_exe z_mt true d) (999999 + 1) 0 [some (.inr (.inr (12, i0))), some (.inl v1), some (.inl v2), some (.inl v3), none, none, none, none, none] [] S := z_exe_eq (q := (yX12_holds, cX12_holds, 9, (some .boolean), true, zo_X12_holds, zc_X12_holds, 12, 4)) rfl rfl
set_option maxRecDepth 100000 in
set_option maxHeartbeats 4000000 in
theorem ze_X12_holds_11 (ex : z_Ex) (n : Nat) (S : z_Mem) (i0 : Nat) (v1 : Int32) (v2 : Int32) (v3 : Int32) (v4 : Int32) (v5 : Int32) : zr_X12_holds ex (n + 1) 11 [some (.inr (.inr (12, i0))), some (.inl v1), some (.inl v2), some (.inl v3), some (.inl v4), some (.inl v5), none, none, none] [] S =
 cond (z_oob v1 60) none (
 if (S.1 48 i0 (Int32.toNatClampNeg v1)) ≤ v5 then (
  cond (z_oob (0 : Int32) 100) none (
  if (S.1 52 i0 (Int32.toNatClampNeg (0 : Int32))) &&& 1 = (S.1 52 i0 (Int32.toNatClampNeg (0 : Int32))) then some (some (.inl (S.1 52 i0 (Int32.toNatClampNeg (0 : Int32)))), S) else none))
 else (
  cond (z_oob v5 600) none (
  let x2 : Int32 := (S.1 49 i0 (Int32.toNatClampNeg v5))
  if x2 = (-33 : Int32) then (
   zr_X12_holds ex n 38 [some (.inr (.inr (12, i0))), some (.inl v1), some (.inl v2), some (.inl v3), some (.inl v4), some (.inl v5), none, none, none] [] S)
  else (
   if 0 ≤ x2 then (
    zr_X12_holds ex n 151 [some (.inr (.inr (12, i0))), some (.inl v1), some (.inl v2), some (.inl v3), some (.inl v4), some (.inl v5), some (.inl x2), none, none] [] S)
   else (
    zr_X12_holds ex n 72 [some (.inr (.inr (12, i0))), some (.inl v1), some (.inl v2), some (.inl v3), some (.inl v4), some (.inl v5), some (.inl x2), none, none] [] S))))) := rfl
set_option maxRecDepth 100000 in
set_option maxHeartbeats 4000000 in
theorem ze_X12_holds_38 (ex : z_Ex) (n : Nat) (S : z_Mem) (i0 : Nat) (v1 : Int32) (v2 : Int32) (v3 : Int32) (v4 : Int32) (v5 : Int32) : zr_X12_holds ex (n + 1) 38 [some (.inr (.inr (12, i0))), some (.inl v1), some (.inl v2), some (.inl v3), some (.inl v4), some (.inl v5), none, none, none] [] S =
 cond (z_oob (v4 - (1 : Int32)) 100) none (
 if (S.1 52 i0 (Int32.toNatClampNeg (v4 - (1 : Int32)))) = 0 then (
  cond (z_oob (v4 - (1 : Int32)) 100) none (
  let S3 : z_Mem := z_sI S 52 i0 (Int32.toNatClampNeg (v4 - (1 : Int32))) (vp_nar .boolean (1 : Int32))
  zr_X12_holds ex n 247 [some (.inr (.inr (12, i0))), some (.inl v1), some (.inl v2), some (.inl v3), some (.inl v4), some (.inl v5), none, none, none] [] S3))
 else (
  cond (z_oob (v4 - (1 : Int32)) 100) none (
  let S4 : z_Mem := z_sI S 52 i0 (Int32.toNatClampNeg (v4 - (1 : Int32))) (vp_nar .boolean (0 : Int32))
  zr_X12_holds ex n 247 [some (.inr (.inr (12, i0))), some (.inl v1), some (.inl v2), some (.inl v3), some (.inl v4), some (.inl v5), none, none, none] [] S4))) := rfl
set_option maxRecDepth 100000 in
set_option maxHeartbeats 4000000 in
theorem ze_X12_holds_151 (ex : z_Ex) (n : Nat) (S : z_Mem) (i0 : Nat) (v1 : Int32) (v2 : Int32) (v3 : Int32) (v4 : Int32) (v5 : Int32) (v6 : Int32) : zr_X12_holds ex (n + 1) 151 [some (.inr (.inr (12, i0))), some (.inl v1), some (.inl v2), some (.inl v3), some (.inl v4), some (.inl v5), some (.inl v6), none, none] [] S =
 if (1000 : Int32) = 0 then none else
 z_rI (ex 162 [.inr (.inr (12, i0)), .inl (v6 / (1000 : Int32)), .inl v2, .inl v3] S) (fun r6 S5 =>
 if (100 : Int32) = 0 then none else
 if (10 : Int32) = 0 then none else
 let x7 : Int32 := ((v6 / (100 : Int32)) - (v6 / (100 : Int32)) / (10 : Int32) * (10 : Int32))
 if x7 = 0 then (
  if (100 : Int32) = 0 then none else
  if (v6 - v6 / (100 : Int32) * (100 : Int32)) ≤ r6 then (
   cond (z_oob v4 100) none (
   let S8 : z_Mem := z_sI S5 52 i0 (Int32.toNatClampNeg v4) (vp_nar .boolean (0 : Int32))
   let x9 : Int32 := (v4 + (1 : Int32))
   zr_X12_holds ex n 247 [some (.inr (.inr (12, i0))), some (.inl v1), some (.inl v2), some (.inl v3), some (.inl x9), some (.inl v5), none, none, none] [] S8))
  else (
   cond (z_oob v4 100) none (
   let S10 : z_Mem := z_sI S5 52 i0 (Int32.toNatClampNeg v4) (vp_nar .boolean (1 : Int32))
   let x11 : Int32 := (v4 + (1 : Int32))
   zr_X12_holds ex n 247 [some (.inr (.inr (12, i0))), some (.inl v1), some (.inl v2), some (.inl v3), some (.inl x11), some (.inl v5), none, none, none] [] S10)))
 else (
  if x7 = (1 : Int32) then (
   if (100 : Int32) = 0 then none else
   if r6 = (v6 - v6 / (100 : Int32) * (100 : Int32)) then (
    cond (z_oob v4 100) none (
    let S12 : z_Mem := z_sI S5 52 i0 (Int32.toNatClampNeg v4) (vp_nar .boolean (1 : Int32))
    let x13 : Int32 := (v4 + (1 : Int32))
    zr_X12_holds ex n 247 [some (.inr (.inr (12, i0))), some (.inl v1), some (.inl v2), some (.inl v3), some (.inl x13), some (.inl v5), none, none, none] [] S12))
   else (
    cond (z_oob v4 100) none (
    let S14 : z_Mem := z_sI S5 52 i0 (Int32.toNatClampNeg v4) (vp_nar .boolean (0 : Int32))
    let x15 : Int32 := (v4 + (1 : Int32))
    zr_X12_holds ex n 247 [some (.inr (.inr (12, i0))), some (.inl v1), some (.inl v2), some (.inl v3), some (.inl x15), some (.inl v5), none, none, none] [] S14)))
  else (
   if (100 : Int32) = 0 then none else
   if r6 ≤ (v6 - v6 / (100 : Int32) * (100 : Int32)) then (
    cond (z_oob v4 100) none (
    let S16 : z_Mem := z_sI S5 52 i0 (Int32.toNatClampNeg v4) (vp_nar .boolean (0 : Int32))
    let x17 : Int32 := (v4 + (1 : Int32))
    zr_X12_holds ex n 247 [some (.inr (.inr (12, i0))), some (.inl v1), some (.inl v2), some (.inl v3), some (.inl x17), some (.inl v5), none, none, none] [] S16))
   else (
    cond (z_oob v4 100) none (
    let S18 : z_Mem := z_sI S5 52 i0 (Int32.toNatClampNeg v4) (vp_nar .boolean (1 : Int32))
    let x19 : Int32 := (v4 + (1 : Int32))
    zr_X12_holds ex n 247 [some (.inr (.inr (12, i0))), some (.inl v1), some (.inl v2), some (.inl v3), some (.inl x19), some (.inl v5), none, none, none] [] S18))))) := rfl
set_option maxRecDepth 100000 in
set_option maxHeartbeats 4000000 in
theorem ze_X12_holds_247 (ex : z_Ex) (n : Nat) (S : z_Mem) (i0 : Nat) (v1 : Int32) (v2 : Int32) (v3 : Int32) (v4 : Int32) (v5 : Int32) : zr_X12_holds ex (n + 1) 247 [some (.inr (.inr (12, i0))), some (.inl v1), some (.inl v2), some (.inl v3), some (.inl v4), some (.inl v5), none, none, none] [] S =
 let x27 : Int32 := (v5 + (1 : Int32))
 zr_X12_holds ex n 11 [some (.inr (.inr (12, i0))), some (.inl v1), some (.inl v2), some (.inl v3), some (.inl v4), some (.inl x27), none, none, none] [] S := rfl
abbrev zr_X12_warm (ex : z_Ex) (n pc : Nat) (ls : z_Lc) (st : List z_AV) (S : z_Mem) : Option (Option z_AV × z_Mem) := z_run true ex false zo_X12_warm zc_X12_warm n pc ls st S
set_option maxRecDepth 100000 in
set_option maxHeartbeats 4000000 in
theorem ze_X12_warm_0 (ex : z_Ex) (n : Nat) (S : z_Mem) (i0 : Nat) (v1 : Int32) : zr_X12_warm ex (n + 1) 0 [some (.inr (.inr (12, i0))), some (.inl v1)] [] S =
 z_rI (ex 127 [.inr (.inr (12, i0)), .inl ((S.1 12 i0 2) - ((3 : Int32) * v1))] S) (fun r2 S1 =>
 some (some (.inl r2), S1)) := rfl
theorem zx_X12_warm (d : Nat) (S : z_Mem) (i0 : Nat) (v1 : Int32) : z_exe z_mt true (d + 1) 164 [.inr (.inr (12, i0)), .inl v1] S = zr_X12_warm (z_exe z_mt true d) (999999 + 1) 0 [some (.inr (.inr (12, i0))), some (.inl v1)] [] S := z_exe_eq (q := (yX12_warm, cX12_warm, 2, (some .int), false, zo_X12_warm, zc_X12_warm, 12, 2)) rfl rfl
abbrev zr_X12_sum (ex : z_Ex) (n pc : Nat) (ls : z_Lc) (st : List z_AV) (S : z_Mem) : Option (Option z_AV × z_Mem) := z_run true ex false zo_X12_sum zc_X12_sum n pc ls st S
set_option maxRecDepth 100000 in
set_option maxHeartbeats 4000000 in
theorem ze_X12_sum_0 (ex : z_Ex) (n : Nat) (S : z_Mem) (i0 : Nat) (v1 : Int32) (v2 : Int32) : zr_X12_sum ex (n + 1) 0 [some (.inr (.inr (12, i0))), some (.inl v1), some (.inl v2), none, none] [] S =
 z_rI (ex 164 [.inr (.inr (12, i0)), .inl v2] S) (fun r2 S1 =>
 z_rI (ex 159 [.inr (.inr (12, i0))] S1) (fun r4 S3 =>
 zr_X12_sum ex n 12 [some (.inr (.inr (12, i0))), some (.inl v1), some (.inl v2), some (.inl r2), some (.inl r4)] [] S3)) := rfl
theorem zx_X12_sum (d : Nat) (S : z_Mem) (i0 : Nat) (v1 : Int32) (v2 : Int32) : z_exe z_mt true (d + 1) 165 [.inr (.inr (12, i0)), .inl v1, .inl v2] S = zr_X12_sum (z_exe z_mt true d) (999999 + 1) 0 [some (.inr (.inr (12, i0))), some (.inl v1), some (.inl v2), none, none] [] S := z_exe_eq (q := (yX12_sum, cX12_sum, 5, (some .int), false, zo_X12_sum, zc_X12_sum, 12, 3)) rfl rfl
set_option maxRecDepth 100000 in
set_option maxHeartbeats 4000000 in
theorem ze_X12_sum_12 (ex : z_Ex) (n : Nat) (S : z_Mem) (i0 : Nat) (v1 : Int32) (v2 : Int32) (v3 : Int32) (v4 : Int32) : zr_X12_sum ex (n + 1) 12 [some (.inr (.inr (12, i0))), some (.inl v1), some (.inl v2), some (.inl v3), some (.inl v4)] [] S =
 z_rI (ex 160 [.inr (.inr (12, i0))] S) (fun r6 S5 =>
 if r6 ≤ v4 then (
  some (some (.inl v3), S5))
 else (
  cond (z_oob v4 60) none (
  if (1 : Int32) < (S5.1 45 i0 (Int32.toNatClampNeg v4)) then (
   let x7 : Int32 := (v4 + (1 : Int32))
   zr_X12_sum ex n 12 [some (.inr (.inr (12, i0))), some (.inl v1), some (.inl v2), some (.inl v3), some (.inl x7)] [] S5)
  else (
   z_rI (ex 163 [.inr (.inr (12, i0)), .inl v4, .inl v1, .inl v2] S5) (fun r9 S8 =>
   if r9 = 0 then (
    let x10 : Int32 := (v4 + (1 : Int32))
    zr_X12_sum ex n 12 [some (.inr (.inr (12, i0))), some (.inl v1), some (.inl v2), some (.inl v3), some (.inl x10)] [] S8)
   else (
    cond (z_oob v4 60) none (
    if (S8.1 45 i0 (Int32.toNatClampNeg v4)) = 0 then (
     cond (z_oob v4 60) none (
     let x11 : Int32 := (v3 + (S8.1 46 i0 (Int32.toNatClampNeg v4)))
     let x12 : Int32 := (v4 + (1 : Int32))
     zr_X12_sum ex n 12 [some (.inr (.inr (12, i0))), some (.inl v1), some (.inl v2), some (.inl x11), some (.inl x12)] [] S8))
    else (
     cond (z_oob v4 60) none (
     let x13 : Int32 := (v3 + (-(S8.1 46 i0 (Int32.toNatClampNeg v4))))
     let x14 : Int32 := (v4 + (1 : Int32))
     zr_X12_sum ex n 12 [some (.inr (.inr (12, i0))), some (.inl v1), some (.inl v2), some (.inl x13), some (.inl x14)] [] S8))))))))) := rfl
abbrev zr_X12_plainDries (ex : z_Ex) (n pc : Nat) (ls : z_Lc) (st : List z_AV) (S : z_Mem) : Option (Option z_AV × z_Mem) := z_run true ex false zo_X12_plainDries zc_X12_plainDries n pc ls st S
set_option maxRecDepth 2000000 in
set_option maxHeartbeats 4000000 in
theorem ze_X12_plainDries_0 (ex : z_Ex) (n : Nat) (S : z_Mem) (i0 : Nat) (v1 : Int32) (v2 : Int32) : zr_X12_plainDries ex (n + 1) 0 [some (.inr (.inr (12, i0))), some (.inl v1), some (.inl v2), none, none, none] [] S =
 z_rI (ex 165 [.inr (.inr (12, i0)), .inl v1, .inl v2] S) (fun r2 S1 =>
 z_rI (ex 164 [.inr (.inr (12, i0)), .inl v2] S1) (fun r4 S3 =>
 if r4 ≤ (8 : Int32) then (
  cond (z_oob v1 6) none (
  if (S3.1 39 i0 (Int32.toNatClampNeg v1)) < (50 : Int32) then (
   cond (z_oob v1 6) none (
   let x5 : Int32 := (S3.1 37 i0 (Int32.toNatClampNeg v1))
   if x5 = (1 : Int32) then (
    some (some (.inl r2), S3)) else
   if x5 = (2 : Int32) then (
    if (2 : Int32) = 0 then none else
    some (some (.inl (r2 / (2 : Int32))), S3)) else
   if x5 = (3 : Int32) then (
    some (some (.inl r2), S3)) else
   if x5 = (4 : Int32) then (
    if (4 : Int32) = 0 then none else
    if ((S3.1 12 i0 4) - (S3.1 12 i0 4) / (4 : Int32) * (4 : Int32)) = 0 then (
     some (some (.inl (r2 + (2 : Int32))), S3))
    else (
     some (some (.inl r2), S3))) else
   if x5 = (5 : Int32) then (
    cond (z_oob v1 6) none (
    cond (z_oob v1 6) none (
    if (S3.1 38 i0 (Int32.toNatClampNeg v1)) ≤ (S3.1 39 i0 (Int32.toNatClampNeg v1)) then (
     if (2 : Int32) = 0 then none else
     some (some (.inl (r2 / (2 : Int32))), S3))
    else (
     some (some (.inl (0 : Int32)), S3))))) else
   if x5 = (6 : Int32) then (
    if (4 : Int32) = 0 then none else
    cond (z_oob (((4 : Int32) * v1) + ((S3.1 12 i0 4) - (S3.1 12 i0 4) / (4 : Int32) * (4 : Int32))) 24) none (
    some (some (.inl (r2 + (S3.1 42 i0 (Int32.toNatClampNeg (((4 : Int32) * v1) + ((S3.1 12 i0 4) - (S3.1 12 i0 4) / (4 : Int32) * (4 : Int32))))))), S3))) else
   some (some (.inl r2), S3)))
  else (
   cond (z_oob v1 6) none (
   let x6 : Int32 := (r2 + (S3.1 38 i0 (Int32.toNatClampNeg v1)))
   cond (z_oob v1 6) none (
   let x7 : Int32 := (S3.1 37 i0 (Int32.toNatClampNeg v1))
   if x7 = (1 : Int32) then (
    some (some (.inl r2), S3)) else
   if x7 = (2 : Int32) then (
    if (2 : Int32) = 0 then none else
    some (some (.inl (r2 / (2 : Int32))), S3)) else
   if x7 = (3 : Int32) then (
    some (some (.inl x6), S3)) else
   if x7 = (4 : Int32) then (
    if (4 : Int32) = 0 then none else
    if ((S3.1 12 i0 4) - (S3.1 12 i0 4) / (4 : Int32) * (4 : Int32)) = 0 then (
     some (some (.inl (r2 + (2 : Int32))), S3))
    else (
     some (some (.inl r2), S3))) else
   if x7 = (5 : Int32) then (
    cond (z_oob v1 6) none (
    cond (z_oob v1 6) none (
    if (S3.1 38 i0 (Int32.toNatClampNeg v1)) ≤ (S3.1 39 i0 (Int32.toNatClampNeg v1)) then (
     if (2 : Int32) = 0 then none else
     some (some (.inl (r2 / (2 : Int32))), S3))
    else (
     some (some (.inl (0 : Int32)), S3))))) else
   if x7 = (6 : Int32) then (
    if (4 : Int32) = 0 then none else
    cond (z_oob (((4 : Int32) * v1) + ((S3.1 12 i0 4) - (S3.1 12 i0 4) / (4 : Int32) * (4 : Int32))) 24) none (
    some (some (.inl (x6 + (S3.1 42 i0 (Int32.toNatClampNeg (((4 : Int32) * v1) + ((S3.1 12 i0 4) - (S3.1 12 i0 4) / (4 : Int32) * (4 : Int32))))))), S3))) else
   some (some (.inl r2), S3))))))
 else (
  if (2 : Int32) = 0 then none else
  let x8 : Int32 := (r2 / (2 : Int32))
  cond (z_oob v1 6) none (
  if (S3.1 39 i0 (Int32.toNatClampNeg v1)) < (50 : Int32) then (
   cond (z_oob v1 6) none (
   let x9 : Int32 := (S3.1 37 i0 (Int32.toNatClampNeg v1))
   if x9 = (1 : Int32) then (
    some (some (.inl x8), S3)) else
   if x9 = (2 : Int32) then (
    if (2 : Int32) = 0 then none else
    some (some (.inl (r2 / (2 : Int32))), S3)) else
   if x9 = (3 : Int32) then (
    some (some (.inl r2), S3)) else
   if x9 = (4 : Int32) then (
    if (4 : Int32) = 0 then none else
    if ((S3.1 12 i0 4) - (S3.1 12 i0 4) / (4 : Int32) * (4 : Int32)) = 0 then (
     some (some (.inl (x8 + (2 : Int32))), S3))
    else (
     some (some (.inl x8), S3))) else
   if x9 = (5 : Int32) then (
    cond (z_oob v1 6) none (
    cond (z_oob v1 6) none (
    if (S3.1 38 i0 (Int32.toNatClampNeg v1)) ≤ (S3.1 39 i0 (Int32.toNatClampNeg v1)) then (
     if (2 : Int32) = 0 then none else
     some (some (.inl (r2 / (2 : Int32))), S3))
    else (
     some (some (.inl (0 : Int32)), S3))))) else
   if x9 = (6 : Int32) then (
    if (4 : Int32) = 0 then none else
    cond (z_oob (((4 : Int32) * v1) + ((S3.1 12 i0 4) - (S3.1 12 i0 4) / (4 : Int32) * (4 : Int32))) 24) none (
    some (some (.inl (r2 + (S3.1 42 i0 (Int32.toNatClampNeg (((4 : Int32) * v1) + ((S3.1 12 i0 4) - (S3.1 12 i0 4) / (4 : Int32) * (4 : Int32))))))), S3))) else
   some (some (.inl r2), S3)))
  else (
   cond (z_oob v1 6) none (
   let x10 : Int32 := (r2 + (S3.1 38 i0 (Int32.toNatClampNeg v1)))
   cond (z_oob v1 6) none (
   let x11 : Int32 := (S3.1 37 i0 (Int32.toNatClampNeg v1))
   if x11 = (1 : Int32) then (
    some (some (.inl x8), S3)) else
   if x11 = (2 : Int32) then (
    if (2 : Int32) = 0 then none else
    some (some (.inl (r2 / (2 : Int32))), S3)) else
   if x11 = (3 : Int32) then (
    some (some (.inl x10), S3)) else
   if x11 = (4 : Int32) then (
    if (4 : Int32) = 0 then none else
    if ((S3.1 12 i0 4) - (S3.1 12 i0 4) / (4 : Int32) * (4 : Int32)) = 0 then (
     some (some (.inl (x8 + (2 : Int32))), S3))
    else (
     some (some (.inl x8), S3))) else
   if x11 = (5 : Int32) then (
    cond (z_oob v1 6) none (
    cond (z_oob v1 6) none (
    if (S3.1 38 i0 (Int32.toNatClampNeg v1)) ≤ (S3.1 39 i0 (Int32.toNatClampNeg v1)) then (
     if (2 : Int32) = 0 then none else
     some (some (.inl (r2 / (2 : Int32))), S3))
    else (
     some (some (.inl (0 : Int32)), S3))))) else
   if x11 = (6 : Int32) then (
    if (4 : Int32) = 0 then none else
    cond (z_oob (((4 : Int32) * v1) + ((S3.1 12 i0 4) - (S3.1 12 i0 4) / (4 : Int32) * (4 : Int32))) 24) none (
    some (some (.inl (x10 + (S3.1 42 i0 (Int32.toNatClampNeg (((4 : Int32) * v1) + ((S3.1 12 i0 4) - (S3.1 12 i0 4) / (4 : Int32) * (4 : Int32))))))), S3))) else
   some (some (.inl r2), S3)))))))) := rfl
theorem zx_X12_plainDries (d : Nat) (S : z_Mem) (i0 : Nat) (v1 : Int32) (v2 : Int32) : z_exe z_mt true (d + 1) 166 [.inr (.inr (12, i0)), .inl v1, .inl v2] S = zr_X12_plainDries (z_exe z_mt true d) (999999 + 1) 0 [some (.inr (.inr (12, i0))), some (.inl v1), some (.inl v2), none, none, none] [] S := z_exe_eq (q := (yX12_plainDries, cX12_plainDries, 6, (some .int), false, zo_X12_plainDries, zc_X12_plainDries, 12, 3)) rfl rfl
abbrev zr_X12_dries (ex : z_Ex) (n pc : Nat) (ls : z_Lc) (st : List z_AV) (S : z_Mem) : Option (Option z_AV × z_Mem) := z_run true ex false zo_X12_dries zc_X12_dries n pc ls st S
set_option maxRecDepth 100000 in
set_option maxHeartbeats 4000000 in
theorem ze_X12_dries_0 (ex : z_Ex) (n : Nat) (S : z_Mem) (i0 : Nat) (v1 : Int32) (v2 : Int32) : zr_X12_dries ex (n + 1) 0 [some (.inr (.inr (12, i0))), some (.inl v1), some (.inl v2)] [] S =
 z_rI (ex 166 [.inr (.inr (12, i0)), .inl v1, .inl v2] S) (fun r2 S1 =>
 z_rI (ex 127 [.inr (.inr (12, i0)), .inl r2] S1) (fun r4 S3 =>
 some (some (.inl r4), S3))) := rfl
theorem zx_X12_dries (d : Nat) (S : z_Mem) (i0 : Nat) (v1 : Int32) (v2 : Int32) : z_exe z_mt true (d + 1) 167 [.inr (.inr (12, i0)), .inl v1, .inl v2] S = zr_X12_dries (z_exe z_mt true d) (999999 + 1) 0 [some (.inr (.inr (12, i0))), some (.inl v1), some (.inl v2)] [] S := z_exe_eq (q := (yX12_dries, cX12_dries, 3, (some .int), false, zo_X12_dries, zc_X12_dries, 12, 3)) rfl rfl
abbrev zr_X12_spoils (ex : z_Ex) (n pc : Nat) (ls : z_Lc) (st : List z_AV) (S : z_Mem) : Option (Option z_AV × z_Mem) := z_run true ex true zo_X12_spoils zc_X12_spoils n pc ls st S
set_option maxRecDepth 100000 in
set_option maxHeartbeats 4000000 in
theorem ze_X12_spoils_0 (ex : z_Ex) (n : Nat) (S : z_Mem) (i0 : Nat) (v1 : Int32) : zr_X12_spoils ex (n + 1) 0 [some (.inr (.inr (12, i0))), some (.inl v1)] [] S =
 cond (z_oob v1 6) none (
 if (S.1 37 i0 (Int32.toNatClampNeg v1)) = (1 : Int32) then (
  cond (z_oob v1 6) none (
  z_rI (ex 164 [.inr (.inr (12, i0)), .inl (S.1 40 i0 (Int32.toNatClampNeg v1))] S) (fun r2 S1 =>
  if r2 ≤ (8 : Int32) then (
   some (some (.inl (0 : Int32)), S1))
  else (
   some (some (.inl (1 : Int32)), S1)))))
 else (
  cond (z_oob v1 6) none (
  if (S.1 37 i0 (Int32.toNatClampNeg v1)) = (4 : Int32) then (
   cond (z_oob v1 6) none (
   z_rI (ex 164 [.inr (.inr (12, i0)), .inl (S.1 40 i0 (Int32.toNatClampNeg v1))] S) (fun r4 S3 =>
   cond (z_oob v1 6) none (
   if r4 ≤ ((8 : Int32) + (S3.1 38 i0 (Int32.toNatClampNeg v1))) then (
    some (some (.inl (0 : Int32)), S3))
   else (
    some (some (.inl (1 : Int32)), S3))))))
  else (
   some (some (.inl (0 : Int32)), S))))) := rfl
theorem zx_X12_spoils (d : Nat) (S : z_Mem) (i0 : Nat) (v1 : Int32) : z_exe z_mt true (d + 1) 168 [.inr (.inr (12, i0)), .inl v1] S = zr_X12_spoils (z_exe z_mt true d) (999999 + 1) 0 [some (.inr (.inr (12, i0))), some (.inl v1)] [] S := z_exe_eq (q := (yX12_spoils, cX12_spoils, 2, (some .boolean), true, zo_X12_spoils, zc_X12_spoils, 12, 2)) rfl rfl
abbrev zr_X12_of (ex : z_Ex) (n pc : Nat) (ls : z_Lc) (st : List z_AV) (S : z_Mem) : Option (Option z_AV × z_Mem) := z_run true ex false zo_X12_of zc_X12_of n pc ls st S
set_option maxRecDepth 100000 in
set_option maxHeartbeats 4000000 in
theorem ze_X12_of_0 (ex : z_Ex) (n : Nat) (S : z_Mem) (i0 : Nat) (v1 : Int32) (v2 : Int32) : zr_X12_of ex (n + 1) 0 [some (.inr (.inr (12, i0))), some (.inl v1), some (.inl v2)] [] S =
 z_rI (ex 129 [.inr (.inr (12, i0)), .inl v1] S) (fun r2 S1 =>
 if r2 = 0 then (
  some (some (.inl (-1 : Int32)), S1))
 else (
  z_rI (ex 124 [.inr (.inr (12, i0)), .inl v2, .inl (10 : Int32), .inl (15 : Int32)] S1) (fun r4 S3 =>
  if r4 = 0 then (
   if v2 = (0 : Int32) then (
    cond (z_oob v1 6) none (
    some (some (.inl (S3.1 37 i0 (Int32.toNatClampNeg v1))), S3))) else
   if v2 = (1 : Int32) then (
    cond (z_oob v1 6) none (
    some (some (.inl (S3.1 38 i0 (Int32.toNatClampNeg v1))), S3))) else
   if v2 = (2 : Int32) then (
    cond (z_oob v1 6) none (
    some (some (.inl (S3.1 39 i0 (Int32.toNatClampNeg v1))), S3))) else
   if v2 = (3 : Int32) then (
    cond (z_oob v1 6) none (
    some (some (.inl (S3.1 40 i0 (Int32.toNatClampNeg v1))), S3))) else
   if v2 = (4 : Int32) then (
    z_rI (ex 125 [.inr (.inr (12, i0)), .inl (S3.1 12 i0 1), .inl v1] S3) (fun r6 S5 =>
    if r6 = 0 then (
     some (some (.inl (0 : Int32)), S5))
    else (
     some (some (.inl (1 : Int32)), S5)))) else
   if v2 = (5 : Int32) then (
    cond (z_oob v1 6) none (
    some (some (.inl (S3.1 41 i0 (Int32.toNatClampNeg v1))), S3))) else
   if v2 = (6 : Int32) then (
    z_rI (ex 168 [.inr (.inr (12, i0)), .inl v1] S3) (fun r8 S7 =>
    if r8 = 0 then (
     some (some (.inl (0 : Int32)), S7))
    else (
     some (some (.inl (1 : Int32)), S7)))) else
   some (some (.inl (-1 : Int32)), S3))
  else (
   z_rI (ex 167 [.inr (.inr (12, i0)), .inl v1, .inl (v2 - (10 : Int32))] S3) (fun r10 S9 =>
   some (some (.inl r10), S9)))))) := rfl
theorem zx_X12_of (d : Nat) (S : z_Mem) (i0 : Nat) (v1 : Int32) (v2 : Int32) : z_exe z_mt true (d + 1) 169 [.inr (.inr (12, i0)), .inl v1, .inl v2] S = zr_X12_of (z_exe z_mt true d) (999999 + 1) 0 [some (.inr (.inr (12, i0))), some (.inl v1), some (.inl v2)] [] S := z_exe_eq (q := (yX12_of, cX12_of, 3, (some .int), false, zo_X12_of, zc_X12_of, 12, 3)) rfl rfl
abbrev zr_X12_wetHere (ex : z_Ex) (n pc : Nat) (ls : z_Lc) (st : List z_AV) (S : z_Mem) : Option (Option z_AV × z_Mem) := z_run true ex false zo_X12_wetHere zc_X12_wetHere n pc ls st S
set_option maxRecDepth 100000 in
set_option maxHeartbeats 4000000 in
theorem ze_X12_wetHere_0 (ex : z_Ex) (n : Nat) (S : z_Mem) (i0 : Nat) : zr_X12_wetHere ex (n + 1) 0 [some (.inr (.inr (12, i0))), none, none] [] S =
 zr_X12_wetHere ex n 4 [some (.inr (.inr (12, i0))), some (.inl (0 : Int32)), some (.inl (0 : Int32))] [] S := rfl
theorem zx_X12_wetHere (d : Nat) (S : z_Mem) (i0 : Nat) : z_exe z_mt true (d + 1) 170 [.inr (.inr (12, i0))] S = zr_X12_wetHere (z_exe z_mt true d) (999999 + 1) 0 [some (.inr (.inr (12, i0))), none, none] [] S := z_exe_eq (q := (yX12_wetHere, cX12_wetHere, 3, (some .int), false, zo_X12_wetHere, zc_X12_wetHere, 12, 1)) rfl rfl
set_option maxRecDepth 100000 in
set_option maxHeartbeats 4000000 in
theorem ze_X12_wetHere_4 (ex : z_Ex) (n : Nat) (S : z_Mem) (i0 : Nat) (v1 : Int32) (v2 : Int32) : zr_X12_wetHere ex (n + 1) 4 [some (.inr (.inr (12, i0))), some (.inl v1), some (.inl v2)] [] S =
 if (S.1 12 i0 0) ≤ v2 then (
  some (some (.inl v1), S))
 else (
  z_rI (ex 125 [.inr (.inr (12, i0)), .inl (S.1 12 i0 1), .inl v2] S) (fun r2 S1 =>
  if r2 = 0 then (
   cond (z_oob v2 6) none (
   let x3 : Int32 := (v1 + (S1.1 39 i0 (Int32.toNatClampNeg v2)))
   let x4 : Int32 := (v2 + (1 : Int32))
   zr_X12_wetHere ex n 4 [some (.inr (.inr (12, i0))), some (.inl x3), some (.inl x4)] [] S1))
  else (
   let x5 : Int32 := (v1 + (0 : Int32))
   let x6 : Int32 := (v2 + (1 : Int32))
   zr_X12_wetHere ex n 4 [some (.inr (.inr (12, i0))), some (.inl x5), some (.inl x6)] [] S1))) := rfl
abbrev zr_X12_wetAll (ex : z_Ex) (n pc : Nat) (ls : z_Lc) (st : List z_AV) (S : z_Mem) : Option (Option z_AV × z_Mem) := z_run true ex false zo_X12_wetAll zc_X12_wetAll n pc ls st S
set_option maxRecDepth 100000 in
set_option maxHeartbeats 4000000 in
theorem ze_X12_wetAll_0 (ex : z_Ex) (n : Nat) (S : z_Mem) (i0 : Nat) : zr_X12_wetAll ex (n + 1) 0 [some (.inr (.inr (12, i0))), none, none] [] S =
 zr_X12_wetAll ex n 4 [some (.inr (.inr (12, i0))), some (.inl (0 : Int32)), some (.inl (0 : Int32))] [] S := rfl
theorem zx_X12_wetAll (d : Nat) (S : z_Mem) (i0 : Nat) : z_exe z_mt true (d + 1) 171 [.inr (.inr (12, i0))] S = zr_X12_wetAll (z_exe z_mt true d) (999999 + 1) 0 [some (.inr (.inr (12, i0))), none, none] [] S := z_exe_eq (q := (yX12_wetAll, cX12_wetAll, 3, (some .int), false, zo_X12_wetAll, zc_X12_wetAll, 12, 1)) rfl rfl
set_option maxRecDepth 100000 in
set_option maxHeartbeats 4000000 in
theorem ze_X12_wetAll_4 (ex : z_Ex) (n : Nat) (S : z_Mem) (i0 : Nat) (v1 : Int32) (v2 : Int32) : zr_X12_wetAll ex (n + 1) 4 [some (.inr (.inr (12, i0))), some (.inl v1), some (.inl v2)] [] S =
 if (S.1 12 i0 0) ≤ v2 then (
  some (some (.inl v1), S))
 else (
  cond (z_oob v2 6) none (
  let x1 : Int32 := (v1 + (S.1 39 i0 (Int32.toNatClampNeg v2)))
  let x2 : Int32 := (v2 + (1 : Int32))
  zr_X12_wetAll ex n 4 [some (.inr (.inr (12, i0))), some (.inl x1), some (.inl x2)] [] S)) := rfl
abbrev zr_X12_allCracks (ex : z_Ex) (n pc : Nat) (ls : z_Lc) (st : List z_AV) (S : z_Mem) : Option (Option z_AV × z_Mem) := z_run true ex false zo_X12_allCracks zc_X12_allCracks n pc ls st S
set_option maxRecDepth 100000 in
set_option maxHeartbeats 4000000 in
theorem ze_X12_allCracks_0 (ex : z_Ex) (n : Nat) (S : z_Mem) (i0 : Nat) : zr_X12_allCracks ex (n + 1) 0 [some (.inr (.inr (12, i0))), none, none] [] S =
 zr_X12_allCracks ex n 4 [some (.inr (.inr (12, i0))), some (.inl (0 : Int32)), some (.inl (0 : Int32))] [] S := rfl
theorem zx_X12_allCracks (d : Nat) (S : z_Mem) (i0 : Nat) : z_exe z_mt true (d + 1) 172 [.inr (.inr (12, i0))] S = zr_X12_allCracks (z_exe z_mt true d) (999999 + 1) 0 [some (.inr (.inr (12, i0))), none, none] [] S := z_exe_eq (q := (yX12_allCracks, cX12_allCracks, 3, (some .int), false, zo_X12_allCracks, zc_X12_allCracks, 12, 1)) rfl rfl
set_option maxRecDepth 100000 in
set_option maxHeartbeats 4000000 in
theorem ze_X12_allCracks_4 (ex : z_Ex) (n : Nat) (S : z_Mem) (i0 : Nat) (v1 : Int32) (v2 : Int32) : zr_X12_allCracks ex (n + 1) 4 [some (.inr (.inr (12, i0))), some (.inl v1), some (.inl v2)] [] S =
 if (S.1 12 i0 0) ≤ v2 then (
  some (some (.inl v1), S))
 else (
  cond (z_oob v2 6) none (
  let x1 : Int32 := (v1 + (S.1 41 i0 (Int32.toNatClampNeg v2)))
  let x2 : Int32 := (v2 + (1 : Int32))
  zr_X12_allCracks ex n 4 [some (.inr (.inr (12, i0))), some (.inl x1), some (.inl x2)] [] S)) := rfl
abbrev zr_X12_drySet (ex : z_Ex) (n pc : Nat) (ls : z_Lc) (st : List z_AV) (S : z_Mem) : Option (Option z_AV × z_Mem) := z_run true ex false zo_X12_drySet zc_X12_drySet n pc ls st S
set_option maxRecDepth 100000 in
set_option maxHeartbeats 4000000 in
theorem ze_X12_drySet_0 (ex : z_Ex) (n : Nat) (S : z_Mem) (i0 : Nat) : zr_X12_drySet ex (n + 1) 0 [some (.inr (.inr (12, i0))), none, none] [] S =
 zr_X12_drySet ex n 4 [some (.inr (.inr (12, i0))), some (.inl (0 : Int32)), some (.inl (0 : Int32))] [] S := rfl
theorem zx_X12_drySet (d : Nat) (S : z_Mem) (i0 : Nat) : z_exe z_mt true (d + 1) 173 [.inr (.inr (12, i0))] S = zr_X12_drySet (z_exe z_mt true d) (999999 + 1) 0 [some (.inr (.inr (12, i0))), none, none] [] S := z_exe_eq (q := (yX12_drySet, cX12_drySet, 3, (some .int), false, zo_X12_drySet, zc_X12_drySet, 12, 1)) rfl rfl
set_option maxRecDepth 100000 in
set_option maxHeartbeats 4000000 in
theorem ze_X12_drySet_4 (ex : z_Ex) (n : Nat) (S : z_Mem) (i0 : Nat) (v1 : Int32) (v2 : Int32) : zr_X12_drySet ex (n + 1) 4 [some (.inr (.inr (12, i0))), some (.inl v1), some (.inl v2)] [] S =
 if (S.1 12 i0 0) ≤ v2 then (
  some (some (.inl v1), S))
 else (
  cond (z_oob v2 6) none (
  if (S.1 39 i0 (Int32.toNatClampNeg v2)) = 0 then (
   let x1 : Int32 := (v1 ||| ((1 : Int32) <<< (v2 &&& 31)))
   let x2 : Int32 := (v2 + (1 : Int32))
   zr_X12_drySet ex n 4 [some (.inr (.inr (12, i0))), some (.inl x1), some (.inl x2)] [] S)
  else (
   let x3 : Int32 := (v1 ||| (0 : Int32))
   let x4 : Int32 := (v2 + (1 : Int32))
   zr_X12_drySet ex n 4 [some (.inr (.inr (12, i0))), some (.inl x3), some (.inl x4)] [] S))) := rfl
abbrev zr_X12_told (ex : z_Ex) (n pc : Nat) (ls : z_Lc) (st : List z_AV) (S : z_Mem) : Option (Option z_AV × z_Mem) := z_run true ex false zo_X12_told zc_X12_told n pc ls st S
set_option maxRecDepth 100000 in
set_option maxHeartbeats 4000000 in
theorem ze_X12_told_0 (ex : z_Ex) (n : Nat) (S : z_Mem) (i0 : Nat) (v1 : Int32) : zr_X12_told ex (n + 1) 0 [some (.inr (.inr (12, i0))), some (.inl v1)] [] S =
 z_rI (ex 124 [.inr (.inr (12, i0)), .inl v1, .inl (10 : Int32), .inl (15 : Int32)] S) (fun r2 S1 =>
 if r2 = 0 then (
  z_rI (ex 124 [.inr (.inr (12, i0)), .inl v1, .inl (20 : Int32), .inl (25 : Int32)] S1) (fun r4 S3 =>
  if r4 = 0 then (
   if v1 = (0 : Int32) then (
    some (some (.inl (S3.1 12 i0 4)), S3)) else
   if v1 = (1 : Int32) then (
    some (some (.inl (S3.1 12 i0 2)), S3)) else
   if v1 = (2 : Int32) then (
    some (some (.inl (S3.1 12 i0 3)), S3)) else
   if v1 = (3 : Int32) then (
    z_rI (ex 161 [.inr (.inr (12, i0)), .inl (2 : Int32), .inl (1 : Int32)] S3) (fun r6 S5 =>
    some (some (.inl r6), S5))) else
   if v1 = (4 : Int32) then (
    z_rI (ex 161 [.inr (.inr (12, i0)), .inl (3 : Int32), .inl (6 : Int32)] S3) (fun r8 S7 =>
    some (some (.inl r8), S7))) else
   if v1 = (5 : Int32) then (
    z_rI (ex 170 [.inr (.inr (12, i0))] S3) (fun r10 S9 =>
    some (some (.inl r10), S9))) else
   if v1 = (6 : Int32) then (
    z_rI (ex 172 [.inr (.inr (12, i0))] S3) (fun r12 S11 =>
    some (some (.inl r12), S11))) else
   if v1 = (7 : Int32) then (
    z_rI (ex 173 [.inr (.inr (12, i0))] S3) (fun r14 S13 =>
    some (some (.inl r14), S13))) else
   some (some (.inl (-1 : Int32)), S3))
  else (
   z_rI (ex 133 [.inr (.inr (12, i0)), .inl (v1 - (20 : Int32))] S3) (fun r16 S15 =>
   some (some (.inl r16), S15)))))
 else (
  z_rI (ex 164 [.inr (.inr (12, i0)), .inl (v1 - (10 : Int32))] S1) (fun r18 S17 =>
  some (some (.inl r18), S17)))) := rfl
theorem zx_X12_told (d : Nat) (S : z_Mem) (i0 : Nat) (v1 : Int32) : z_exe z_mt true (d + 1) 174 [.inr (.inr (12, i0)), .inl v1] S = zr_X12_told (z_exe z_mt true d) (999999 + 1) 0 [some (.inr (.inr (12, i0))), some (.inl v1)] [] S := z_exe_eq (q := (yX12_told, cX12_told, 2, (some .int), false, zo_X12_told, zc_X12_told, 12, 2)) rfl rfl
