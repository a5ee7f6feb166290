abbrev zr_X11_pair (ex : z_Ex) (n pc : Nat) (ls : z_Lc) (st : List z_AV) (S : z_Mem) : Option (Option z_AV × z_Mem) := z_run true ex false zo_X11_pair zc_X11_pair n pc ls st S
set_option maxRecDepth 100000 in
set_option maxHeartbeats 4000000 in
theorem ze_X11_pair_0 (ex : z_Ex) (n : Nat) (S : z_Mem) (i0 : Nat) (v1 : Int32) (v2 : Int32) (v3 : Int32) : zr_X11_pair ex (n + 1) 0 [some (.inr (.inr (11, i0))), some (.inl v1), some (.inl v2), some (.inl v3)] [] S =
 z_rI (ex 115 [.inl v1, .inl (6 : Int32)] S) (fun r2 S1 =>
 if r2 = 0 then (
  z_rI (ex 115 [.inl v2, .inl (9 : Int32)] S1) (fun r4 S3 =>
  if r4 = 0 then (
   z_rI (ex 115 [.inl v3, .inl (99 : Int32)] S3) (fun r6 S5 =>
   if r6 = 0 then (
    if (S5.1 7 0 1) < (6 : Int32) then (
     cond (z_oob (S5.1 7 0 1) 6) none (
     z_rI (ex 53 [.inr (.inr (7, 0))] S5) (fun r8 S7 =>
     z_rV (ex 9 [.inr (.inr (2, (6 * 0 + (Int32.toNatClampNeg (S5.1 7 0 1))))), .inl v1, .inl v2, .inl v3, .inl r8] S7) (fun S9 =>
     let S10 : z_Mem := z_sI S9 7 0 1 ((S9.1 7 0 1) + (1 : Int32))
     some (some (.inl ((S10.1 7 0 1) - (1 : Int32))), S10)))))
    else (
     some (some (.inl (-4 : Int32)), S5)))
   else (
    some (some (.inl (-2 : Int32)), S5))))
  else (
   some (some (.inl (-2 : Int32)), S3))))
 else (
  some (some (.inl (-1 : Int32)), S1))) := rfl
theorem zx_X11_pair (d : Nat) (S : z_Mem) (i0 : Nat) (v1 : Int32) (v2 : Int32) (v3 : Int32) : z_exe z_mt true (d + 1) 76 [.inr (.inr (11, i0)), .inl v1, .inl v2, .inl v3] S = zr_X11_pair (z_exe z_mt true d) (999999 + 1) 0 [some (.inr (.inr (11, i0))), some (.inl v1), some (.inl v2), some (.inl v3)] [] S := z_exe_eq (q := (yX11_pair, cX11_pair, 4, (some .int), false, zo_X11_pair, zc_X11_pair, 11, 4)) rfl rfl
abbrev zr_X11_of (ex : z_Ex) (n pc : Nat) (ls : z_Lc) (st : List z_AV) (S : z_Mem) : Option (Option z_AV × z_Mem) := z_run true ex false zo_X11_of zc_X11_of n pc ls st S
set_option maxRecDepth 100000 in
set_option maxHeartbeats 4000000 in
theorem ze_X11_of_0 (ex : z_Ex) (n : Nat) (S : z_Mem) (i0 : Nat) (v1 : Int32) (v2 : Int32) : zr_X11_of ex (n + 1) 0 [some (.inr (.inr (11, i0))), some (.inl v1), some (.inl v2), none] [] S =
 z_rI (ex 116 [.inr (.inr (11, i0)), .inl v1] S) (fun r2 S1 =>
 if r2 = 0 then (
  cond (z_oob v1 6) none (
  if v2 < (10 : Int32) then (
   if v2 = (0 : Int32) then (
    some (some (.inl (S1.1 2 (6 * 0 + (Int32.toNatClampNeg v1)) 1)), S1)) else
   if v2 = (1 : Int32) then (
    some (some (.inl (S1.1 2 (6 * 0 + (Int32.toNatClampNeg v1)) 2)), S1)) else
   if v2 = (2 : Int32) then (
    some (some (.inl (S1.1 2 (6 * 0 + (Int32.toNatClampNeg v1)) 3)), S1)) else
   if v2 = (3 : Int32) then (
    some (some (.inl (S1.1 2 (6 * 0 + (Int32.toNatClampNeg v1)) 4)), S1)) else
   if v2 = (4 : Int32) then (
    if (S1.1 2 (6 * 0 + (Int32.toNatClampNeg v1)) 5) = 0 then (
     some (some (.inl (0 : Int32)), S1))
    else (
     some (some (.inl (1 : Int32)), S1))) else
   if v2 = (5 : Int32) then (
    some (some (.inl (S1.1 2 (6 * 0 + (Int32.toNatClampNeg v1)) 6)), S1)) else
   if v2 = (6 : Int32) then (
    z_rI (ex 14 [.inr (.inr (2, (6 * 0 + (Int32.toNatClampNeg v1)))), .inr (.inr (9, 0))] S1) (fun r4 S3 =>
    if r4 = 0 then (
     some (some (.inl (0 : Int32)), S3))
    else (
     some (some (.inl (1 : Int32)), S3)))) else
   some (some (.inl (-1 : Int32)), S1))
  else (
   z_rI (ex 115 [.inl (v2 - (10 : Int32)), .inl (5 : Int32)] S1) (fun r6 S5 =>
   if r6 = 0 then (
    z_rI (ex 11 [.inr (.inr (2, (6 * 0 + (Int32.toNatClampNeg v1)))), .inl (v2 - (10 : Int32)), .inr (.inr (9, 0))] S5) (fun r8 S7 =>
    some (some (.inl r8), S7)))
   else (
    some (some (.inl (-1 : Int32)), S5))))))
 else (
  some (some (.inl (-1 : Int32)), S1))) := rfl
theorem zx_X11_of (d : Nat) (S : z_Mem) (i0 : Nat) (v1 : Int32) (v2 : Int32) : z_exe z_mt true (d + 1) 77 [.inr (.inr (11, i0)), .inl v1, .inl v2] S = zr_X11_of (z_exe z_mt true d) (999999 + 1) 0 [some (.inr (.inr (11, i0))), some (.inl v1), some (.inl v2), none] [] S := z_exe_eq (q := (yX11_of, cX11_of, 4, (some .int), false, zo_X11_of, zc_X11_of, 11, 3)) rfl rfl
abbrev zr_X11_wet (ex : z_Ex) (n pc : Nat) (ls : z_Lc) (st : List z_AV) (S : z_Mem) : Option (Option z_AV × z_Mem) := z_run true ex false zo_X11_wet zc_X11_wet n pc ls st S
set_option maxRecDepth 100000 in
set_option maxHeartbeats 4000000 in
theorem ze_X11_wet_0 (ex : z_Ex) (n : Nat) (S : z_Mem) (i0 : Nat) (v1 : Int32) (v2 : Int32) : zr_X11_wet ex (n + 1) 0 [some (.inr (.inr (11, i0))), some (.inl v1), some (.inl v2), none] [] S =
 z_rI (ex 116 [.inr (.inr (11, i0)), .inl v1] S) (fun r2 S1 =>
 if r2 = 0 then (
  z_rI (ex 115 [.inl v2, .inl (99 : Int32)] S1) (fun r4 S3 =>
  if r4 = 0 then (
   cond (z_oob v1 6) none (
   let x5 : Int32 := (S3.1 2 (6 * 0 + (Int32.toNatClampNeg v1)) 3)
   cond (z_oob v1 6) none (
   let S6 : z_Mem := z_sI S3 2 (6 * 0 + (Int32.toNatClampNeg v1)) 3 v2
   some (some (.inl x5), S6))))
  else (
   some (some (.inl (-2 : Int32)), S3))))
 else (
  some (some (.inl (-1 : Int32)), S1))) := rfl
theorem zx_X11_wet (d : Nat) (S : z_Mem) (i0 : Nat) (v1 : Int32) (v2 : Int32) : z_exe z_mt true (d + 1) 78 [.inr (.inr (11, i0)), .inl v1, .inl v2] S = zr_X11_wet (z_exe z_mt true d) (999999 + 1) 0 [some (.inr (.inr (11, i0))), some (.inl v1), some (.inl v2), none] [] S := z_exe_eq (q := (yX11_wet, cX11_wet, 4, (some .int), false, zo_X11_wet, zc_X11_wet, 11, 3)) rfl rfl
abbrev zr_X11_put (ex : z_Ex) (n pc : Nat) (ls : z_Lc) (st : List z_AV) (S : z_Mem) : Option (Option z_AV × z_Mem) := z_run true ex false zo_X11_put zc_X11_put n pc ls st S
set_option maxRecDepth 100000 in
set_option maxHeartbeats 4000000 in
theorem ze_X11_put_0 (ex : z_Ex) (n : Nat) (S : z_Mem) (i0 : Nat) (v1 : Int32) (v2 : Int32) : zr_X11_put ex (n + 1) 0 [some (.inr (.inr (11, i0))), some (.inl v1), some (.inl v2), none, none] [] S =
 z_rI (ex 116 [.inr (.inr (11, i0)), .inl v1] S) (fun r2 S1 =>
 if r2 = 0 then (
  z_rI (ex 115 [.inl v2, .inl (5 : Int32)] S1) (fun r4 S3 =>
  if r4 = 0 then (
   cond (z_oob v1 6) none (
   let x5 : Int32 := (S3.1 2 (6 * 0 + (Int32.toNatClampNeg v1)) 4)
   z_rI (ex 52 [.inr (.inr (7, 0)), .inl v2] S3) (fun r7 S6 =>
   if r7 < 0 then (
    cond (z_oob v1 6) none (
    let S8 : z_Mem := z_sI S6 2 (6 * 0 + (Int32.toNatClampNeg v1)) 4 v2
    some (some (.inl x5), S8)))
   else (
    cond (z_oob r7 6) none (
    let S9 : z_Mem := z_sI S6 2 (6 * 0 + (Int32.toNatClampNeg r7)) 4 x5
    cond (z_oob v1 6) none (
    let S10 : z_Mem := z_sI S9 2 (6 * 0 + (Int32.toNatClampNeg v1)) 4 v2
    some (some (.inl x5), S10)))))))
  else (
   some (some (.inl (-1 : Int32)), S3))))
 else (
  some (some (.inl (-1 : Int32)), S1))) := rfl
theorem zx_X11_put (d : Nat) (S : z_Mem) (i0 : Nat) (v1 : Int32) (v2 : Int32) : z_exe z_mt true (d + 1) 79 [.inr (.inr (11, i0)), .inl v1, .inl v2] S = zr_X11_put (z_exe z_mt true d) (999999 + 1) 0 [some (.inr (.inr (11, i0))), some (.inl v1), some (.inl v2), none, none] [] S := z_exe_eq (q := (yX11_put, cX11_put, 5, (some .int), false, zo_X11_put, zc_X11_put, 11, 3)) rfl rfl
abbrev zr_X11_take (ex : z_Ex) (n pc : Nat) (ls : z_Lc) (st : List z_AV) (S : z_Mem) : Option (Option z_AV × z_Mem) := z_run true ex false zo_X11_take zc_X11_take n pc ls st S
set_option maxRecDepth 100000 in
set_option maxHeartbeats 4000000 in
theorem ze_X11_take_0 (ex : z_Ex) (n : Nat) (S : z_Mem) (i0 : Nat) (v1 : Int32) (v2 : Int32) : zr_X11_take ex (n + 1) 0 [some (.inr (.inr (11, i0))), some (.inl v1), some (.inl v2), none] [] S =
 z_rI (ex 116 [.inr (.inr (11, i0)), .inl v1] S) (fun r2 S1 =>
 if r2 = 0 then (
  cond (z_oob v1 6) none (
  let x3 : Int32 := (S1.1 2 (6 * 0 + (Int32.toNatClampNeg v1)) 5)
  cond (z_oob v1 6) none (
  if v2 &&& 1 = v2 then
  let S4 : z_Mem := z_sI S1 2 (6 * 0 + (Int32.toNatClampNeg v1)) 5 v2
  if x3 = 0 then (
   some (some (.inl (0 : Int32)), S4))
  else (
   some (some (.inl (1 : Int32)), S4))
  else none)))
 else (
  some (some (.inl (-1 : Int32)), S1))) := rfl
theorem zx_X11_take (d : Nat) (S : z_Mem) (i0 : Nat) (v1 : Int32) (v2 : Int32) : z_exe z_mt true (d + 1) 80 [.inr (.inr (11, i0)), .inl v1, .inl v2] S = zr_X11_take (z_exe z_mt true d) (999999 + 1) 0 [some (.inr (.inr (11, i0))), some (.inl v1), some (.inl v2), none] [] S := z_exe_eq (q := (yX11_take, cX11_take, 4, (some .int), false, zo_X11_take, zc_X11_take, 11, 3)) rfl rfl
abbrev zr_X11_stoke (ex : z_Ex) (n pc : Nat) (ls : z_Lc) (st : List z_AV) (S : z_Mem) : Option (Option z_AV × z_Mem) := z_run true ex false zo_X11_stoke zc_X11_stoke n pc ls st S
set_option maxRecDepth 100000 in
set_option maxHeartbeats 4000000 in
theorem ze_X11_stoke_0 (ex : z_Ex) (n : Nat) (S : z_Mem) (i0 : Nat) : zr_X11_stoke ex (n + 1) 0 [some (.inr (.inr (11, i0)))] [] S =
 if 0 < (S.1 9 0 1) then (
  z_rV (ex 69 [.inr (.inr (9, 0))] S) (fun S1 =>
  some (some (.inl (S1.1 9 0 0)), S1)))
 else (
  some (some (.inl (-3 : Int32)), S)) := rfl
theorem zx_X11_stoke (d : Nat) (S : z_Mem) (i0 : Nat) : z_exe z_mt true (d + 1) 81 [.inr (.inr (11, i0))] S = zr_X11_stoke (z_exe z_mt true d) (999999 + 1) 0 [some (.inr (.inr (11, i0)))] [] S := z_exe_eq (q := (yX11_stoke, cX11_stoke, 1, (some .int), false, zo_X11_stoke, zc_X11_stoke, 11, 1)) rfl rfl
abbrev zr_X11_set (ex : z_Ex) (n pc : Nat) (ls : z_Lc) (st : List z_AV) (S : z_Mem) : Option (Option z_AV × z_Mem) := z_run true ex false zo_X11_set zc_X11_set n pc ls st S
set_option maxRecDepth 100000 in
set_option maxHeartbeats 4000000 in
theorem ze_X11_set_0 (ex : z_Ex) (n : Nat) (S : z_Mem) (i0 : Nat) (v1 : Int32) (v2 : Int32) : zr_X11_set ex (n + 1) 0 [some (.inr (.inr (11, i0))), some (.inl v1), some (.inl v2), none, none] [] S =
 z_rI (ex 115 [.inl v1, .inl (1 : Int32)] S) (fun r2 S1 =>
 if r2 = 0 then (
  if v1 = 0 then (
   z_rI (ex 115 [.inl v2, .inl (30 : Int32)] S1) (fun r4 S3 =>
   if r4 = 0 then (
    if v1 = 0 then (
     if v1 = 0 then (
      let S5 : z_Mem := z_sI S3 9 0 0 v2
      some (some (.inl (S3.1 9 0 0)), S5))
     else (
      let S6 : z_Mem := z_sI S3 9 0 1 v2
      some (some (.inl (S3.1 9 0 0)), S6)))
    else (
     if v1 = 0 then (
      let S7 : z_Mem := z_sI S3 9 0 0 v2
      some (some (.inl (S3.1 9 0 1)), S7))
     else (
      let S8 : z_Mem := z_sI S3 9 0 1 v2
      some (some (.inl (S3.1 9 0 1)), S8))))
   else (
    some (some (.inl (-2 : Int32)), S3))))
  else (
   z_rI (ex 115 [.inl v2, .inl (9 : Int32)] S1) (fun r10 S9 =>
   if r10 = 0 then (
    if v1 = 0 then (
     if v1 = 0 then (
      let S11 : z_Mem := z_sI S9 9 0 0 v2
      some (some (.inl (S9.1 9 0 0)), S11))
     else (
      let S12 : z_Mem := z_sI S9 9 0 1 v2
      some (some (.inl (S9.1 9 0 0)), S12)))
    else (
     if v1 = 0 then (
      let S13 : z_Mem := z_sI S9 9 0 0 v2
      some (some (.inl (S9.1 9 0 1)), S13))
     else (
      let S14 : z_Mem := z_sI S9 9 0 1 v2
      some (some (.inl (S9.1 9 0 1)), S14))))
   else (
    some (some (.inl (-2 : Int32)), S9)))))
 else (
  some (some (.inl (-1 : Int32)), S1))) := rfl
theorem zx_X11_set (d : Nat) (S : z_Mem) (i0 : Nat) (v1 : Int32) (v2 : Int32) : z_exe z_mt true (d + 1) 82 [.inr (.inr (11, i0)), .inl v1, .inl v2] S = zr_X11_set (z_exe z_mt true d) (999999 + 1) 0 [some (.inr (.inr (11, i0))), some (.inl v1), some (.inl v2), none, none] [] S := z_exe_eq (q := (yX11_set, cX11_set, 5, (some .int), false, zo_X11_set, zc_X11_set, 11, 3)) rfl rfl
abbrev zr_X11_row (ex : z_Ex) (n pc : Nat) (ls : z_Lc) (st : List z_AV) (S : z_Mem) : Option (Option z_AV × z_Mem) := z_run true ex false zo_X11_row zc_X11_row n pc ls st S
set_option maxRecDepth 100000 in
set_option maxHeartbeats 4000000 in
theorem ze_X11_row_0 (ex : z_Ex) (n : Nat) (S : z_Mem) (i0 : Nat) (v1 : Int32) (v2 : Int32) (v3 : Int32) : zr_X11_row ex (n + 1) 0 [some (.inr (.inr (11, i0))), some (.inl v1), some (.inl v2), some (.inl v3), none, none] [] S =
 z_rI (ex 116 [.inr (.inr (11, i0)), .inl v1] S) (fun r2 S1 =>
 if r2 = 0 then (
  z_rI (ex 115 [.inl v2, .inl (3 : Int32)] S1) (fun r4 S3 =>
  if r4 = 0 then (
   z_rI (ex 115 [.inl v3, .inl (9 : Int32)] S3) (fun r6 S5 =>
   if r6 = 0 then (
    cond (z_oob v1 6) none (
    if (S5.1 2 (6 * 0 + (Int32.toNatClampNeg v1)) 1) = (6 : Int32) then (
     cond (z_oob v2 4) none (
     let x7 : Int32 := (S5.1 21 (6 * 0 + (Int32.toNatClampNeg v1)) (Int32.toNatClampNeg v2))
     cond (z_oob v2 4) none (
     let S8 : z_Mem := z_sI S5 21 (6 * 0 + (Int32.toNatClampNeg v1)) (Int32.toNatClampNeg v2) v3
     some (some (.inl x7), S8))))
    else (
     some (some (.inl (-3 : Int32)), S5))))
   else (
    some (some (.inl (-2 : Int32)), S5))))
  else (
   some (some (.inl (-1 : Int32)), S3))))
 else (
  some (some (.inl (-1 : Int32)), S1))) := rfl
theorem zx_X11_row (d : Nat) (S : z_Mem) (i0 : Nat) (v1 : Int32) (v2 : Int32) (v3 : Int32) : z_exe z_mt true (d + 1) 83 [.inr (.inr (11, i0)), .inl v1, .inl v2, .inl v3] S = zr_X11_row (z_exe z_mt true d) (999999 + 1) 0 [some (.inr (.inr (11, i0))), some (.inl v1), some (.inl v2), some (.inl v3), none, none] [] S := z_exe_eq (q := (yX11_row, cX11_row, 6, (some .int), false, zo_X11_row, zc_X11_row, 11, 4)) rfl rfl
abbrev zr_X11_feed (ex : z_Ex) (n pc : Nat) (ls : z_Lc) (st : List z_AV) (S : z_Mem) : Option (Option z_AV × z_Mem) := z_run true ex false zo_X11_feed zc_X11_feed n pc ls st S
set_option maxRecDepth 100000 in
set_option maxHeartbeats 4000000 in
theorem ze_X11_feed_0 (ex : z_Ex) (n : Nat) (S : z_Mem) (i0 : Nat) (v1 : Int32) : zr_X11_feed ex (n + 1) 0 [some (.inr (.inr (11, i0))), some (.inl v1)] [] S =
 z_rI (ex 115 [.inl v1, .inl (127 : Int32)] S) (fun r2 S1 =>
 if r2 = 0 then (
  if (S1.1 5 0 1) < (100 : Int32) then (
   z_rI (ex 28 [.inr (.inr (5, 0)), .inl v1] S1) (fun r4 S3 =>
   some (some (.inl r4), S3)))
  else (
   some (some (.inl (-4 : Int32)), S1)))
 else (
  some (some (.inl (-2 : Int32)), S1))) := rfl
theorem zx_X11_feed (d : Nat) (S : z_Mem) (i0 : Nat) (v1 : Int32) : z_exe z_mt true (d + 1) 84 [.inr (.inr (11, i0)), .inl v1] S = zr_X11_feed (z_exe z_mt true d) (999999 + 1) 0 [some (.inr (.inr (11, i0))), some (.inl v1)] [] S := z_exe_eq (q := (yX11_feed, cX11_feed, 2, (some .int), false, zo_X11_feed, zc_X11_feed, 11, 2)) rfl rfl
abbrev zr_X11_hut (ex : z_Ex) (n pc : Nat) (ls : z_Lc) (st : List z_AV) (S : z_Mem) : Option (Option z_AV × z_Mem) := z_run true ex false zo_X11_hut zc_X11_hut n pc ls st S
set_option maxRecDepth 100000 in
set_option maxHeartbeats 4000000 in
theorem ze_X11_hut_0 (ex : z_Ex) (n : Nat) (S : z_Mem) (i0 : Nat) : zr_X11_hut ex (n + 1) 0 [some (.inr (.inr (11, i0))), none, none] [] S =
 if (S.1 11 i0 11) < (6 : Int32) then (
  cond (z_oob (S.1 11 i0 11) 6) none (
  z_rI (ex 29 [.inr (.inr (5, 0)), .inr (.inr (4, (Int32.toNatClampNeg (S.1 11 i0 11))))] S) (fun r2 S1 =>
  let S3 : z_Mem := z_sI S1 5 0 1 (0 : Int32)
  if r2 < 0 then (
   let S4 : z_Mem := z_sR S3 9 0 3 (4, (Int32.toNatClampNeg (S.1 11 i0 11)))
   let S5 : z_Mem := z_sI S4 11 i0 11 ((S4.1 11 i0 11) + (1 : Int32))
   some (some (.inl ((S5.1 11 i0 11) - (1 : Int32))), S5))
  else (
   some (some (.inl ((-10 : Int32) - r2)), S3)))))
 else (
  some (some (.inl (-4 : Int32)), S)) := rfl
theorem zx_X11_hut (d : Nat) (S : z_Mem) (i0 : Nat) : z_exe z_mt true (d + 1) 85 [.inr (.inr (11, i0))] S = zr_X11_hut (z_exe z_mt true d) (999999 + 1) 0 [some (.inr (.inr (11, i0))), none, none] [] S := z_exe_eq (q := (yX11_hut, cX11_hut, 3, (some .int), false, zo_X11_hut, zc_X11_hut, 11, 1)) rfl rfl
abbrev zr_X11_told (ex : z_Ex) (n pc : Nat) (ls : z_Lc) (st : List z_AV) (S : z_Mem) : Option (Option z_AV × z_Mem) := z_run true ex false zo_X11_told zc_X11_told n pc ls st S
set_option maxRecDepth 100000 in
set_option maxHeartbeats 4000000 in
theorem ze_X11_told_0 (ex : z_Ex) (n : Nat) (S : z_Mem) (i0 : Nat) (v1 : Int32) : zr_X11_told ex (n + 1) 0 [some (.inr (.inr (11, i0))), some (.inl v1)] [] S =
 if v1 < (20 : Int32) then (
  if v1 < (10 : Int32) then (
   if v1 = (0 : Int32) then (
    some (some (.inl (S.1 9 0 2)), S)) else
   if v1 = (1 : Int32) then (
    some (some (.inl (S.1 9 0 0)), S)) else
   if v1 = (2 : Int32) then (
    some (some (.inl (S.1 9 0 1)), S)) else
   if v1 = (3 : Int32) then (
    some (some (.inl (S.1 4 (S.2.2.1 9 0 3).2 0)), S)) else
   if v1 = (4 : Int32) then (
    some (some (.inl (S.1 4 (S.2.2.1 9 0 3).2 1)), S)) else
   if v1 = (5 : Int32) then (
    z_rI (ex 57 [.inr (.inr (7, 0))] S) (fun r2 S1 =>
    some (some (.inl r2), S1))) else
   if v1 = (6 : Int32) then (
    z_rI (ex 58 [.inr (.inr (7, 0))] S) (fun r4 S3 =>
    some (some (.inl r4), S3))) else
   if v1 = (7 : Int32) then (
    z_rI (ex 60 [.inr (.inr (7, 0))] S) (fun r6 S5 =>
    some (some (.inl r6), S5))) else
   some (some (.inl (-1 : Int32)), S))
  else (
   z_rI (ex 115 [.inl (v1 - (10 : Int32)), .inl (5 : Int32)] S) (fun r8 S7 =>
   if r8 = 0 then (
    z_rI (ex 68 [.inr (.inr (9, 0)), .inl (v1 - (10 : Int32))] S7) (fun r10 S9 =>
    some (some (.inl r10), S9)))
   else (
    some (some (.inl (-1 : Int32)), S7)))))
 else (
  z_rI (ex 115 [.inl (v1 - (20 : Int32)), .inl (5 : Int32)] S) (fun r12 S11 =>
  if r12 = 0 then (
   z_rI (ex 52 [.inr (.inr (7, 0)), .inl (v1 - (20 : Int32))] S11) (fun r14 S13 =>
   some (some (.inl r14), S13)))
  else (
   some (some (.inl (-1 : Int32)), S11)))) := rfl
theorem zx_X11_told (d : Nat) (S : z_Mem) (i0 : Nat) (v1 : Int32) : z_exe z_mt true (d + 1) 86 [.inr (.inr (11, i0)), .inl v1] S = zr_X11_told (z_exe z_mt true d) (999999 + 1) 0 [some (.inr (.inr (11, i0))), some (.inl v1)] [] S := z_exe_eq (q := (yX11_told, cX11_told, 2, (some .int), false, zo_X11_told, zc_X11_told, 11, 2)) rfl rfl
abbrev zr_X11_pass (ex : z_Ex) (n pc : Nat) (ls : z_Lc) (st : List z_AV) (S : z_Mem) : Option (Option z_AV × z_Mem) := z_run true ex false zo_X11_pass zc_X11_pass n pc ls st S
set_option maxRecDepth 100000 in
set_option maxHeartbeats 4000000 in
theorem ze_X11_pass_0 (ex : z_Ex) (n : Nat) (S : z_Mem) (i0 : Nat) (v1 : Int32) : zr_X11_pass ex (n + 1) 0 [some (.inr (.inr (11, i0))), some (.inl v1)] [] S =
 z_rI (ex 115 [.inl v1, .inl (60 : Int32)] S) (fun r2 S1 =>
 if r2 = 0 then (
  if ((S1.1 9 0 2) + v1) ≤ (9999 : Int32) then (
   z_rV (ex 55 [.inr (.inr (7, 0)), .inl v1] S1) (fun S3 =>
   some (some (.inl (S3.1 9 0 2)), S3)))
  else (
   some (some (.inl (-3 : Int32)), S1)))
 else (
  some (some (.inl (-2 : Int32)), S1))) := rfl
theorem zx_X11_pass (d : Nat) (S : z_Mem) (i0 : Nat) (v1 : Int32) : z_exe z_mt true (d + 1) 87 [.inr (.inr (11, i0)), .inl v1] S = zr_X11_pass (z_exe z_mt true d) (999999 + 1) 0 [some (.inr (.inr (11, i0))), some (.inl v1)] [] S := z_exe_eq (q := (yX11_pass, cX11_pass, 2, (some .int), false, zo_X11_pass, zc_X11_pass, 11, 2)) rfl rfl
abbrev zr_X11_on (ex : z_Ex) (n pc : Nat) (ls : z_Lc) (st : List z_AV) (S : z_Mem) : Option (Option z_AV × z_Mem) := z_run true ex false zo_X11_on zc_X11_on n pc ls st S
set_option maxRecDepth 100000 in
set_option maxHeartbeats 4000000 in
theorem ze_X11_on_0 (ex : z_Ex) (n : Nat) (S : z_Mem) (i0 : Nat) (v1 : Int32) (v2 : Int32) : zr_X11_on ex (n + 1) 0 [some (.inr (.inr (11, i0))), some (.inl v1), some (.inl v2), none] [] S =
 z_rI (ex 115 [.inl v2, .inl (2 : Int32)] S) (fun r2 S1 =>
 if r2 = 0 then (
  if (1 : Int32) = 0 then (
   if v2 < (10 : Int32) then (
    some (some (.inl (-1 : Int32)), S1))
   else (
    z_rI (ex 116 [.inr (.inr (11, i0)), .inl (v2 - (10 : Int32))] S1) (fun r4 S3 =>
    if r4 = 0 then (
     z_rI (ex 115 [.inl v1, .inl (60 : Int32)] S3) (fun r6 S5 =>
     if r6 = 0 then (
      z_rV (ex 117 [.inr (.inr (11, i0)), .inl v1] S5) (fun S7 =>
      if v2 = (0 : Int32) then (
       z_rI (ex 57 [.inr (.inr (7, 2))] S7) (fun r9 S8 =>
       some (some (.inl r9), S8))) else
      if v2 = (1 : Int32) then (
       some (some (.inl (S7.1 9 2 0)), S7)) else
      if v2 = (2 : Int32) then (
       z_rI (ex 58 [.inr (.inr (7, 2))] S7) (fun r11 S10 =>
       some (some (.inl r11), S10))) else
      cond (z_oob (v2 - (10 : Int32)) 6) none (
      some (some (.inl (S7.1 2 (6 * 2 + (Int32.toNatClampNeg (v2 - (10 : Int32)))) 3)), S7))))
     else (
      some (some (.inl (-2 : Int32)), S5))))
    else (
     some (some (.inl (-1 : Int32)), S3)))))
  else (
   z_rI (ex 115 [.inl v1, .inl (60 : Int32)] S1) (fun r13 S12 =>
   if r13 = 0 then (
    z_rV (ex 117 [.inr (.inr (11, i0)), .inl v1] S12) (fun S14 =>
    if v2 = (0 : Int32) then (
     z_rI (ex 57 [.inr (.inr (7, 2))] S14) (fun r16 S15 =>
     some (some (.inl r16), S15))) else
    if v2 = (1 : Int32) then (
     some (some (.inl (S14.1 9 2 0)), S14)) else
    if v2 = (2 : Int32) then (
     z_rI (ex 58 [.inr (.inr (7, 2))] S14) (fun r18 S17 =>
     some (some (.inl r18), S17))) else
    cond (z_oob (v2 - (10 : Int32)) 6) none (
    some (some (.inl (S14.1 2 (6 * 2 + (Int32.toNatClampNeg (v2 - (10 : Int32)))) 3)), S14))))
   else (
    some (some (.inl (-2 : Int32)), S12)))))
 else (
  if (0 : Int32) = 0 then (
   if v2 < (10 : Int32) then (
    some (some (.inl (-1 : Int32)), S1))
   else (
    z_rI (ex 116 [.inr (.inr (11, i0)), .inl (v2 - (10 : Int32))] S1) (fun r20 S19 =>
    if r20 = 0 then (
     z_rI (ex 115 [.inl v1, .inl (60 : Int32)] S19) (fun r22 S21 =>
     if r22 = 0 then (
      z_rV (ex 117 [.inr (.inr (11, i0)), .inl v1] S21) (fun S23 =>
      if v2 = (0 : Int32) then (
       z_rI (ex 57 [.inr (.inr (7, 2))] S23) (fun r25 S24 =>
       some (some (.inl r25), S24))) else
      if v2 = (1 : Int32) then (
       some (some (.inl (S23.1 9 2 0)), S23)) else
      if v2 = (2 : Int32) then (
       z_rI (ex 58 [.inr (.inr (7, 2))] S23) (fun r27 S26 =>
       some (some (.inl r27), S26))) else
      cond (z_oob (v2 - (10 : Int32)) 6) none (
      some (some (.inl (S23.1 2 (6 * 2 + (Int32.toNatClampNeg (v2 - (10 : Int32)))) 3)), S23))))
     else (
      some (some (.inl (-2 : Int32)), S21))))
    else (
     some (some (.inl (-1 : Int32)), S19)))))
  else (
   z_rI (ex 115 [.inl v1, .inl (60 : Int32)] S1) (fun r29 S28 =>
   if r29 = 0 then (
    z_rV (ex 117 [.inr (.inr (11, i0)), .inl v1] S28) (fun S30 =>
    if v2 = (0 : Int32) then (
     z_rI (ex 57 [.inr (.inr (7, 2))] S30) (fun r32 S31 =>
     some (some (.inl r32), S31))) else
    if v2 = (1 : Int32) then (
     some (some (.inl (S30.1 9 2 0)), S30)) else
    if v2 = (2 : Int32) then (
     z_rI (ex 58 [.inr (.inr (7, 2))] S30) (fun r34 S33 =>
     some (some (.inl r34), S33))) else
    cond (z_oob (v2 - (10 : Int32)) 6) none (
    some (some (.inl (S30.1 2 (6 * 2 + (Int32.toNatClampNeg (v2 - (10 : Int32)))) 3)), S30))))
   else (
    some (some (.inl (-2 : Int32)), S28)))))) := rfl
theorem zx_X11_on (d : Nat) (S : z_Mem) (i0 : Nat) (v1 : Int32) (v2 : Int32) : z_exe z_mt true (d + 1) 88 [.inr (.inr (11, i0)), .inl v1, .inl v2] S = zr_X11_on (z_exe z_mt true d) (999999 + 1) 0 [some (.inr (.inr (11, i0))), some (.inl v1), some (.inl v2), none] [] S := z_exe_eq (q := (yX11_on, cX11_on, 4, (some .int), false, zo_X11_on, zc_X11_on, 11, 3)) rfl rfl
abbrev zr_X11_done (ex : z_Ex) (n pc : Nat) (ls : z_Lc) (st : List z_AV) (S : z_Mem) : Option (Option z_AV × z_Mem) := z_run true ex false zo_X11_done zc_X11_done n pc ls st S
set_option maxRecDepth 100000 in
set_option maxHeartbeats 4000000 in
theorem ze_X11_done_0 (ex : z_Ex) (n : Nat) (S : z_Mem) (i0 : Nat) (v1 : Int32) : zr_X11_done ex (n + 1) 0 [some (.inr (.inr (11, i0))), some (.inl v1), none] [] S =
 z_rI (ex 116 [.inr (.inr (11, i0)), .inl v1] S) (fun r2 S1 =>
 if r2 = 0 then (
  cond (z_oob v1 6) none (
  z_rV (ex 17 [.inr (.inr (3, 0)), .inr (.inr (2, (6 * 0 + (Int32.toNatClampNeg v1)))), .inr (.inr (9, 0))] S1) (fun S3 =>
  zr_X11_done ex n 35 [some (.inr (.inr (11, i0))), none, some (.inl (0 : Int32))] [] S3)))
 else (
  some (some (.inl (-1 : Int32)), S1))) := rfl
theorem zx_X11_done (d : Nat) (S : z_Mem) (i0 : Nat) (v1 : Int32) : z_exe z_mt true (d + 1) 89 [.inr (.inr (11, i0)), .inl v1] S = zr_X11_done (z_exe z_mt true d) (999999 + 1) 0 [some (.inr (.inr (11, i0))), some (.inl v1), none] [] S := z_exe_eq (q := (yX11_done, cX11_done, 3, (some .int), false, zo_X11_done, zc_X11_done, 11, 2)) rfl rfl
set_option maxRecDepth 100000 in
set_option maxHeartbeats 4000000 in
theorem ze_X11_done_35 (ex : z_Ex) (n : Nat) (S : z_Mem) (i0 : Nat) (v2 : Int32) : zr_X11_done ex (n + 1) 35 [some (.inr (.inr (11, i0))), none, some (.inl v2)] [] S =
 if (60 : Int32) < v2 then (
  some (some (.inl (-5 : Int32)), S))
 else (
  if (S.1 2 18 3) = 0 then (
   some (some (.inl v2), S))
  else (
   z_rV (ex 18 [.inr (.inr (3, 0))] S) (fun S4 =>
   let x5 : Int32 := (v2 + (1 : Int32))
   zr_X11_done ex n 35 [some (.inr (.inr (11, i0))), none, some (.inl x5)] [] S4))) := rfl
abbrev zr_X11_night (ex : z_Ex) (n pc : Nat) (ls : z_Lc) (st : List z_AV) (S : z_Mem) : Option (Option z_AV × z_Mem) := z_run true ex false zo_X11_night zc_X11_night n pc ls st S
set_option maxRecDepth 100000 in
set_option maxHeartbeats 4000000 in
theorem ze_X11_night_0 (ex : z_Ex) (n : Nat) (S : z_Mem) (i0 : Nat) (v1 : Int32) : zr_X11_night ex (n + 1) 0 [some (.inr (.inr (11, i0))), some (.inl v1)] [] S =
 z_rI (ex 115 [.inl v1, .inl (12 : Int32)] S) (fun r2 S1 =>
 if r2 = 0 then (
  z_rV (ex 117 [.inr (.inr (11, i0)), .inl v1] S1) (fun S3 =>
  z_rI (ex 59 [.inr (.inr (7, 2))] S3) (fun r5 S4 =>
  some (some (.inl r5), S4))))
 else (
  some (some (.inl (-2 : Int32)), S1))) := rfl
theorem zx_X11_night (d : Nat) (S : z_Mem) (i0 : Nat) (v1 : Int32) : z_exe z_mt true (d + 1) 90 [.inr (.inr (11, i0)), .inl v1] S = zr_X11_night (z_exe z_mt true d) (999999 + 1) 0 [some (.inr (.inr (11, i0))), some (.inl v1)] [] S := z_exe_eq (q := (yX11_night, cX11_night, 2, (some .int), false, zo_X11_night, zc_X11_night, 11, 2)) rfl rfl
abbrev zr_X11_placed (ex : z_Ex) (n pc : Nat) (ls : z_Lc) (st : List z_AV) (S : z_Mem) : Option (Option z_AV × z_Mem) := z_run true ex false zo_X11_placed zc_X11_placed n pc ls st S
set_option maxRecDepth 100000 in
set_option maxHeartbeats 4000000 in
theorem ze_X11_placed_0 (ex : z_Ex) (n : Nat) (S : z_Mem) (i0 : Nat) (v1 : Int32) (v2 : Int32) : zr_X11_placed ex (n + 1) 0 [some (.inr (.inr (11, i0))), some (.inl v1), some (.inl v2), none] [] S =
 z_rI (ex 115 [.inl v2, .inl (1 : Int32)] S) (fun r2 S1 =>
 if r2 = 0 then (
  if (1 : Int32) = 0 then (
   if v2 < (10 : Int32) then (
    some (some (.inl (-1 : Int32)), S1))
   else (
    z_rI (ex 116 [.inr (.inr (11, i0)), .inl (v2 - (10 : Int32))] S1) (fun r4 S3 =>
    if r4 = 0 then (
     if v1 < (1 : Int32) then (
      some (some (.inl (-2 : Int32)), S3))
     else (
      if v1 ≤ (12 : Int32) then (
       z_rV (ex 44 [.inr (.inr (6, 0)), .inr (.inr (7, 0)), .inr (.inr (3, 0)), .inl v1] S3) (fun S5 =>
       z_rV (ex 47 [.inr (.inr (6, 0))] S5) (fun S6 =>
       if v2 = (0 : Int32) then (
        some (some (.inl (S6.1 6 0 5)), S6)) else
       if v2 = (1 : Int32) then (
        some (some (.inl (S6.1 6 0 6)), S6)) else
       cond (z_oob (v2 - (10 : Int32)) 6) none (
       some (some (.inl (S6.1 29 0 (Int32.toNatClampNeg (v2 - (10 : Int32))))), S6)))))
      else (
       some (some (.inl (-2 : Int32)), S3))))
    else (
     some (some (.inl (-1 : Int32)), S3)))))
  else (
   if v1 < (1 : Int32) then (
    some (some (.inl (-2 : Int32)), S1))
   else (
    if v1 ≤ (12 : Int32) then (
     z_rV (ex 44 [.inr (.inr (6, 0)), .inr (.inr (7, 0)), .inr (.inr (3, 0)), .inl v1] S1) (fun S7 =>
     z_rV (ex 47 [.inr (.inr (6, 0))] S7) (fun S8 =>
     if v2 = (0 : Int32) then (
      some (some (.inl (S8.1 6 0 5)), S8)) else
     if v2 = (1 : Int32) then (
      some (some (.inl (S8.1 6 0 6)), S8)) else
     cond (z_oob (v2 - (10 : Int32)) 6) none (
     some (some (.inl (S8.1 29 0 (Int32.toNatClampNeg (v2 - (10 : Int32))))), S8)))))
    else (
     some (some (.inl (-2 : Int32)), S1)))))
 else (
  if (0 : Int32) = 0 then (
   if v2 < (10 : Int32) then (
    some (some (.inl (-1 : Int32)), S1))
   else (
    z_rI (ex 116 [.inr (.inr (11, i0)), .inl (v2 - (10 : Int32))] S1) (fun r10 S9 =>
    if r10 = 0 then (
     if v1 < (1 : Int32) then (
      some (some (.inl (-2 : Int32)), S9))
     else (
      if v1 ≤ (12 : Int32) then (
       z_rV (ex 44 [.inr (.inr (6, 0)), .inr (.inr (7, 0)), .inr (.inr (3, 0)), .inl v1] S9) (fun S11 =>
       z_rV (ex 47 [.inr (.inr (6, 0))] S11) (fun S12 =>
       if v2 = (0 : Int32) then (
        some (some (.inl (S12.1 6 0 5)), S12)) else
       if v2 = (1 : Int32) then (
        some (some (.inl (S12.1 6 0 6)), S12)) else
       cond (z_oob (v2 - (10 : Int32)) 6) none (
       some (some (.inl (S12.1 29 0 (Int32.toNatClampNeg (v2 - (10 : Int32))))), S12)))))
      else (
       some (some (.inl (-2 : Int32)), S9))))
    else (
     some (some (.inl (-1 : Int32)), S9)))))
  else (
   if v1 < (1 : Int32) then (
    some (some (.inl (-2 : Int32)), S1))
   else (
    if v1 ≤ (12 : Int32) then (
     z_rV (ex 44 [.inr (.inr (6, 0)), .inr (.inr (7, 0)), .inr (.inr (3, 0)), .inl v1] S1) (fun S13 =>
     z_rV (ex 47 [.inr (.inr (6, 0))] S13) (fun S14 =>
     if v2 = (0 : Int32) then (
      some (some (.inl (S14.1 6 0 5)), S14)) else
     if v2 = (1 : Int32) then (
      some (some (.inl (S14.1 6 0 6)), S14)) else
     cond (z_oob (v2 - (10 : Int32)) 6) none (
     some (some (.inl (S14.1 29 0 (Int32.toNatClampNeg (v2 - (10 : Int32))))), S14)))))
    else (
     some (some (.inl (-2 : Int32)), S1)))))) := rfl
theorem zx_X11_placed (d : Nat) (S : z_Mem) (i0 : Nat) (v1 : Int32) (v2 : Int32) : z_exe z_mt true (d + 1) 91 [.inr (.inr (11, i0)), .inl v1, .inl v2] S = zr_X11_placed (z_exe z_mt true d) (999999 + 1) 0 [some (.inr (.inr (11, i0))), some (.inl v1), some (.inl v2), none] [] S := z_exe_eq (q := (yX11_placed, cX11_placed, 4, (some .int), false, zo_X11_placed, zc_X11_placed, 11, 3)) rfl rfl
abbrev zr_X11_change (ex : z_Ex) (n pc : Nat) (ls : z_Lc) (st : List z_AV) (S : z_Mem) : Option (Option z_AV × z_Mem) := z_run true ex false zo_X11_change zc_X11_change n pc ls st S
set_option maxRecDepth 100000 in
set_option maxHeartbeats 4000000 in
theorem ze_X11_change_0 (ex : z_Ex) (n : Nat) (S : z_Mem) (i0 : Nat) : zr_X11_change ex (n + 1) 0 [some (.inr (.inr (11, i0))), none, none, none, none, none] [] S =
 z_rV (ex 44 [.inr (.inr (6, 0)), .inr (.inr (7, 0)), .inr (.inr (3, 0)), .inl (6 : Int32)] S) (fun S1 =>
 zr_X11_change ex n 24 [some (.inr (.inr (11, i0))), some (.inl (0 : Int32)), some (.inl (-5 : Int32)), some (.inl (0 : Int32)), none, none] [] S1) := rfl
theorem zx_X11_change (d : Nat) (S : z_Mem) (i0 : Nat) : z_exe z_mt true (d + 1) 92 [.inr (.inr (11, i0))] S = zr_X11_change (z_exe z_mt true d) (999999 + 1) 0 [some (.inr (.inr (11, i0))), none, none, none, none, none] [] S := z_exe_eq (q := (yX11_change, cX11_change, 6, (some .int), false, zo_X11_change, zc_X11_change, 11, 1)) rfl rfl
set_option maxRecDepth 100000 in
set_option maxHeartbeats 4000000 in
theorem ze_X11_change_24 (ex : z_Ex) (n : Nat) (S : z_Mem) (i0 : Nat) (v1 : Int32) (v2 : Int32) (v3 : Int32) : zr_X11_change ex (n + 1) 24 [some (.inr (.inr (11, i0))), some (.inl v1), some (.inl v2), some (.inl v3), none, none] [] S =
 if (S.1 7 0 1) ≤ v3 then (
  some (some (.inl v2), S))
 else (
  let x2 : Int32 := (v3 + (1 : Int32))
  zr_X11_change ex n 40 [some (.inr (.inr (11, i0))), some (.inl v1), some (.inl v2), some (.inl v3), some (.inl x2), none] [] S) := rfl
set_option maxRecDepth 100000 in
set_option maxHeartbeats 4000000 in
theorem ze_X11_change_40 (ex : z_Ex) (n : Nat) (S : z_Mem) (i0 : Nat) (v1 : Int32) (v2 : Int32) (v3 : Int32) (v4 : Int32) : zr_X11_change ex (n + 1) 40 [some (.inr (.inr (11, i0))), some (.inl v1), some (.inl v2), some (.inl v3), some (.inl v4), none] [] S =
 if (S.1 7 0 1) ≤ v4 then (
  let x3 : Int32 := (v3 + (1 : Int32))
  zr_X11_change ex n 24 [some (.inr (.inr (11, i0))), some (.inl v1), some (.inl v2), some (.inl x3), none, none] [] S)
 else (
  cond (z_oob v3 6) none (
  cond (z_oob v4 6) none (
  z_rI (ex 45 [.inr (.inr (6, 0)), .inr (.inr (2, (6 * 0 + (Int32.toNatClampNeg v3)))), .inr (.inr (2, (6 * 0 + (Int32.toNatClampNeg v4))))] S) (fun r5 S4 =>
  if v1 ≤ r5 then (
   let x6 : Int32 := (v4 + (1 : Int32))
   zr_X11_change ex n 40 [some (.inr (.inr (11, i0))), some (.inl v1), some (.inl v2), some (.inl v3), some (.inl x6), none] [] S4)
  else (
   let x7 : Int32 := (((10 : Int32) * v3) + v4)
   let x8 : Int32 := (v4 + (1 : Int32))
   zr_X11_change ex n 40 [some (.inr (.inr (11, i0))), some (.inl r5), some (.inl x7), some (.inl v3), some (.inl x8), none] [] S4))))) := rfl
abbrev zr_X11_logs (ex : z_Ex) (n pc : Nat) (ls : z_Lc) (st : List z_AV) (S : z_Mem) : Option (Option z_AV × z_Mem) := z_run true ex false zo_X11_logs zc_X11_logs n pc ls st S
set_option maxRecDepth 100000 in
set_option maxHeartbeats 4000000 in
theorem ze_X11_logs_0 (ex : z_Ex) (n : Nat) (S : z_Mem) (i0 : Nat) (v1 : Int32) (v2 : Int32) : zr_X11_logs ex (n + 1) 0 [some (.inr (.inr (11, i0))), some (.inl v1), some (.inl v2), none, none, none, none, none] [] S =
 z_rI (ex 115 [.inl v2, .inl (1 : Int32)] S) (fun r2 S1 =>
 if r2 = 0 then (
  if v1 < (1 : Int32) then (
   some (some (.inl (-2 : Int32)), S1))
  else (
   if v1 ≤ (6 : Int32) then (
    z_rI (ex 118 [.inr (.inr (11, i0)), .inl v1, .inl (0 : Int32)] S1) (fun r4 S3 =>
    zr_X11_logs ex n 37 [some (.inr (.inr (11, i0))), some (.inl v1), some (.inl v2), some (.inl (0 : Int32)), some (.inl r4), some (.inl (1 : Int32)), none, none] [] S3))
   else (
    some (some (.inl (-2 : Int32)), S1))))
 else (
  some (some (.inl (-1 : Int32)), S1))) := rfl
theorem zx_X11_logs (d : Nat) (S : z_Mem) (i0 : Nat) (v1 : Int32) (v2 : Int32) : z_exe z_mt true (d + 1) 93 [.inr (.inr (11, i0)), .inl v1, .inl v2] S = zr_X11_logs (z_exe z_mt true d) (999999 + 1) 0 [some (.inr (.inr (11, i0))), some (.inl v1), some (.inl v2), none, none, none, none, none] [] S := z_exe_eq (q := (yX11_logs, cX11_logs, 8, (some .int), false, zo_X11_logs, zc_X11_logs, 11, 3)) rfl rfl
set_option maxRecDepth 100000 in
set_option maxHeartbeats 4000000 in
theorem ze_X11_logs_37 (ex : z_Ex) (n : Nat) (S : z_Mem) (i0 : Nat) (v1 : Int32) (v2 : Int32) (v3 : Int32) (v4 : Int32) (v5 : Int32) : zr_X11_logs ex (n + 1) 37 [some (.inr (.inr (11, i0))), some (.inl v1), some (.inl v2), some (.inl v3), some (.inl v4), some (.inl v5), none, none] [] S =
 if ((1 : Int32) <<< (v1 &&& 31)) ≤ v5 then (
  if v2 = 0 then (
   some (some (.inl v3), S))
  else (
   some (some (.inl v4), S)))
 else (
  z_rI (ex 228 [.inl v5] S) (fun r6 S5 =>
  if (S5.1 9 0 1) < r6 then (
   let x7 : Int32 := (v5 + (1 : Int32))
   zr_X11_logs ex n 37 [some (.inr (.inr (11, i0))), some (.inl v1), some (.inl v2), some (.inl v3), some (.inl v4), some (.inl x7), none, none] [] S5)
  else (
   z_rI (ex 118 [.inr (.inr (11, i0)), .inl v1, .inl v5] S5) (fun r9 S8 =>
   if r9 < v4 then (
    let x10 : Int32 := (v5 + (1 : Int32))
    zr_X11_logs ex n 37 [some (.inr (.inr (11, i0))), some (.inl v1), some (.inl v2), some (.inl v5), some (.inl r9), some (.inl x10), none, none] [] S8)
   else (
    if r9 = v4 then (
     z_rI (ex 228 [.inl v3] S8) (fun r12 S11 =>
     if r12 ≤ r6 then (
      let x13 : Int32 := (v5 + (1 : Int32))
      zr_X11_logs ex n 37 [some (.inr (.inr (11, i0))), some (.inl v1), some (.inl v2), some (.inl v3), some (.inl v4), some (.inl x13), none, none] [] S11)
     else (
      let x14 : Int32 := (v5 + (1 : Int32))
      zr_X11_logs ex n 37 [some (.inr (.inr (11, i0))), some (.inl v1), some (.inl v2), some (.inl v5), some (.inl r9), some (.inl x14), none, none] [] S11)))
    else (
     let x15 : Int32 := (v5 + (1 : Int32))
     zr_X11_logs ex n 37 [some (.inr (.inr (11, i0))), some (.inl v1), some (.inl v2), some (.inl v3), some (.inl v4), some (.inl x15), none, none] [] S8)))))) := rfl
abbrev zr_X11_see (ex : z_Ex) (n pc : Nat) (ls : z_Lc) (st : List z_AV) (S : z_Mem) : Option (Option z_AV × z_Mem) := z_run true ex false zo_X11_see zc_X11_see n pc ls st S
set_option maxRecDepth 100000 in
set_option maxHeartbeats 4000000 in
theorem ze_X11_see_0 (ex : z_Ex) (n : Nat) (S : z_Mem) (i0 : Nat) (v1 : Int32) (v2 : Int32) (v3 : Int32) : zr_X11_see ex (n + 1) 0 [some (.inr (.inr (11, i0))), some (.inl v1), some (.inl v2), some (.inl v3)] [] S =
 if v1 = (-1 : Int32) then (
  let S1 : z_Mem := z_sI S 8 0 3 (0 : Int32)
  some (some (.inl (0 : Int32)), S1))
 else (
  z_rI (ex 116 [.inr (.inr (11, i0)), .inl v1] S) (fun r3 S2 =>
  if r3 = 0 then (
   z_rI (ex 115 [.inl v2, .inl (99 : Int32)] S2) (fun r5 S4 =>
   if r5 = 0 then (
    z_rI (ex 115 [.inl v3, .inl (20 : Int32)] S4) (fun r7 S6 =>
    if r7 = 0 then (
     z_rI (ex 62 [.inr (.inr (8, 0))] S6) (fun r9 S8 =>
     if r9 = 0 then (
      z_rI (ex 63 [.inr (.inr (8, 0)), .inl v1, .inl v2, .inl v3] S8) (fun r11 S10 =>
      some (some (.inl r11), S10)))
     else (
      some (some (.inl (-4 : Int32)), S8))))
    else (
     some (some (.inl (-2 : Int32)), S6))))
   else (
    some (some (.inl (-2 : Int32)), S4))))
  else (
   some (some (.inl (-1 : Int32)), S2)))) := rfl
theorem zx_X11_see (d : Nat) (S : z_Mem) (i0 : Nat) (v1 : Int32) (v2 : Int32) (v3 : Int32) : z_exe z_mt true (d + 1) 94 [.inr (.inr (11, i0)), .inl v1, .inl v2, .inl v3] S = zr_X11_see (z_exe z_mt true d) (999999 + 1) 0 [some (.inr (.inr (11, i0))), some (.inl v1), some (.inl v2), some (.inl v3)] [] S := z_exe_eq (q := (yX11_see, cX11_see, 4, (some .int), false, zo_X11_see, zc_X11_see, 11, 4)) rfl rfl
abbrev zr_X11_wets (ex : z_Ex) (n pc : Nat) (ls : z_Lc) (st : List z_AV) (S : z_Mem) : Option (Option z_AV × z_Mem) := z_run true ex false zo_X11_wets zc_X11_wets n pc ls st S
set_option maxRecDepth 100000 in
set_option maxHeartbeats 4000000 in
theorem ze_X11_wets_0 (ex : z_Ex) (n : Nat) (S : z_Mem) (i0 : Nat) (v1 : Int32) (v2 : Int32) : zr_X11_wets ex (n + 1) 0 [some (.inr (.inr (11, i0))), some (.inl v1), some (.inl v2), none, none, none] [] S =
 z_rI (ex 116 [.inr (.inr (11, i0)), .inl v1] S) (fun r2 S1 =>
 if r2 = 0 then (
  z_rI (ex 115 [.inl v2, .inl (1 : Int32)] S1) (fun r4 S3 =>
  if r4 = 0 then (
   zr_X11_wets ex n 28 [some (.inr (.inr (11, i0))), some (.inl v1), some (.inl v2), some (.inl (0 : Int32)), some (.inl (-5 : Int32)), some (.inl (99 : Int32))] [] S3)
  else (
   some (some (.inl (-1 : Int32)), S3))))
 else (
  some (some (.inl (-1 : Int32)), S1))) := rfl
theorem zx_X11_wets (d : Nat) (S : z_Mem) (i0 : Nat) (v1 : Int32) (v2 : Int32) : z_exe z_mt true (d + 1) 95 [.inr (.inr (11, i0)), .inl v1, .inl v2] S = zr_X11_wets (z_exe z_mt true d) (999999 + 1) 0 [some (.inr (.inr (11, i0))), some (.inl v1), some (.inl v2), none, none, none] [] S := z_exe_eq (q := (yX11_wets, cX11_wets, 6, (some .int), false, zo_X11_wets, zc_X11_wets, 11, 3)) rfl rfl
set_option maxRecDepth 100000 in
set_option maxHeartbeats 4000000 in
theorem ze_X11_wets_28 (ex : z_Ex) (n : Nat) (S : z_Mem) (i0 : Nat) (v1 : Int32) (v2 : Int32) (v3 : Int32) (v4 : Int32) (v5 : Int32) : zr_X11_wets ex (n + 1) 28 [some (.inr (.inr (11, i0))), some (.inl v1), some (.inl v2), some (.inl v3), some (.inl v4), some (.inl v5)] [] S =
 if v5 < 0 then (
  if v2 = 0 then (
   some (some (.inl v3), S))
  else (
   some (some (.inl v4), S)))
 else (
  cond (z_oob v1 6) none (
  z_rV (ex 17 [.inr (.inr (3, 0)), .inr (.inr (2, (6 * 0 + (Int32.toNatClampNeg v1)))), .inr (.inr (9, 0))] S) (fun S5 =>
  let S6 : z_Mem := z_sI S5 2 18 3 v5
  z_rI (ex 119 [.inr (.inr (11, i0))] S6) (fun r8 S7 =>
  if r8 = 0 then (
   let x9 : Int32 := (v5 + (-1 : Int32))
   zr_X11_wets ex n 28 [some (.inr (.inr (11, i0))), some (.inl v1), some (.inl v2), some (.inl v3), some (.inl v4), some (.inl x9)] [] S7)
  else (
   let x10 : Int32 := (v3 + (1 : Int32))
   let x11 : Int32 := (v5 + (-1 : Int32))
   zr_X11_wets ex n 28 [some (.inr (.inr (11, i0))), some (.inl v1), some (.inl v2), some (.inl x10), some (.inl v5), some (.inl x11)] [] S7))))) := rfl
abbrev zr_X11_can (ex : z_Ex) (n pc : Nat) (ls : z_Lc) (st : List z_AV) (S : z_Mem) : Option (Option z_AV × z_Mem) := z_run true ex false zo_X11_can zc_X11_can n pc ls st S
set_option maxRecDepth 100000 in
set_option maxHeartbeats 4000000 in
theorem ze_X11_can_0 (ex : z_Ex) (n : Nat) (S : z_Mem) (i0 : Nat) (v1 : Int32) (v2 : Int32) : zr_X11_can ex (n + 1) 0 [some (.inr (.inr (11, i0))), some (.inl v1), some (.inl v2), none, none, none] [] S =
 z_rI (ex 116 [.inr (.inr (11, i0)), .inl v1] S) (fun r2 S1 =>
 if r2 = 0 then (
  z_rI (ex 115 [.inl v2, .inl (1 : Int32)] S1) (fun r4 S3 =>
  if r4 = 0 then (
   zr_X11_can ex n 28 [some (.inr (.inr (11, i0))), some (.inl v1), some (.inl v2), some (.inl (0 : Int32)), some (.inl (-5 : Int32)), some (.inl (9 : Int32))] [] S3)
  else (
   some (some (.inl (-1 : Int32)), S3))))
 else (
  some (some (.inl (-1 : Int32)), S1))) := rfl
theorem zx_X11_can (d : Nat) (S : z_Mem) (i0 : Nat) (v1 : Int32) (v2 : Int32) : z_exe z_mt true (d + 1) 96 [.inr (.inr (11, i0)), .inl v1, .inl v2] S = zr_X11_can (z_exe z_mt true d) (999999 + 1) 0 [some (.inr (.inr (11, i0))), some (.inl v1), some (.inl v2), none, none, none] [] S := z_exe_eq (q := (yX11_can, cX11_can, 6, (some .int), false, zo_X11_can, zc_X11_can, 11, 3)) rfl rfl
set_option maxRecDepth 100000 in
set_option maxHeartbeats 4000000 in
theorem ze_X11_can_28 (ex : z_Ex) (n : Nat) (S : z_Mem) (i0 : Nat) (v1 : Int32) (v2 : Int32) (v3 : Int32) (v4 : Int32) (v5 : Int32) : zr_X11_can ex (n + 1) 28 [some (.inr (.inr (11, i0))), some (.inl v1), some (.inl v2), some (.inl v3), some (.inl v4), some (.inl v5)] [] S =
 if v5 < 0 then (
  if v2 = 0 then (
   some (some (.inl v3), S))
  else (
   some (some (.inl v4), S)))
 else (
  cond (z_oob v1 6) none (
  z_rV (ex 17 [.inr (.inr (3, 0)), .inr (.inr (2, (6 * 0 + (Int32.toNatClampNeg v1)))), .inr (.inr (9, 0))] S) (fun S5 =>
  let S6 : z_Mem := z_sI S5 2 18 2 v5
  z_rI (ex 119 [.inr (.inr (11, i0))] S6) (fun r8 S7 =>
  if r8 = 0 then (
   let x9 : Int32 := (v5 + (-1 : Int32))
   zr_X11_can ex n 28 [some (.inr (.inr (11, i0))), some (.inl v1), some (.inl v2), some (.inl v3), some (.inl v4), some (.inl x9)] [] S7)
  else (
   let x10 : Int32 := (v3 + (1 : Int32))
   let x11 : Int32 := (v5 + (-1 : Int32))
   zr_X11_can ex n 28 [some (.inr (.inr (11, i0))), some (.inl v1), some (.inl v2), some (.inl x10), some (.inl v5), some (.inl x11)] [] S7))))) := rfl
abbrev zr_X11_where (ex : z_Ex) (n pc : Nat) (ls : z_Lc) (st : List z_AV) (S : z_Mem) : Option (Option z_AV × z_Mem) := z_run true ex false zo_X11_where zc_X11_where n pc ls st S
set_option maxRecDepth 100000 in
set_option maxHeartbeats 4000000 in
theorem ze_X11_where_0 (ex : z_Ex) (n : Nat) (S : z_Mem) (i0 : Nat) (v1 : Int32) : zr_X11_where ex (n + 1) 0 [some (.inr (.inr (11, i0))), some (.inl v1), none, none] [] S =
 z_rI (ex 116 [.inr (.inr (11, i0)), .inl v1] S) (fun r2 S1 =>
 if r2 = 0 then (
  zr_X11_where ex n 14 [some (.inr (.inr (11, i0))), some (.inl v1), some (.inl (0 : Int32)), some (.inl (0 : Int32))] [] S1)
 else (
  some (some (.inl (-1 : Int32)), S1))) := rfl
theorem zx_X11_where (d : Nat) (S : z_Mem) (i0 : Nat) (v1 : Int32) : z_exe z_mt true (d + 1) 97 [.inr (.inr (11, i0)), .inl v1] S = zr_X11_where (z_exe z_mt true d) (999999 + 1) 0 [some (.inr (.inr (11, i0))), some (.inl v1), none, none] [] S := z_exe_eq (q := (yX11_where, cX11_where, 4, (some .int), false, zo_X11_where, zc_X11_where, 11, 2)) rfl rfl
set_option maxRecDepth 100000 in
set_option maxHeartbeats 4000000 in
theorem ze_X11_where_14 (ex : z_Ex) (n : Nat) (S : z_Mem) (i0 : Nat) (v1 : Int32) (v2 : Int32) (v3 : Int32) : zr_X11_where ex (n + 1) 14 [some (.inr (.inr (11, i0))), some (.inl v1), some (.inl v2), some (.inl v3)] [] S =
 if (6 : Int32) ≤ v3 then (
  some (some (.inl v2), S))
 else (
  z_rI (ex 120 [.inr (.inr (11, i0)), .inl v1, .inl v3] S) (fun r4 S3 =>
  if r4 = 0 then (
   let x5 : Int32 := (v3 + (1 : Int32))
   zr_X11_where ex n 14 [some (.inr (.inr (11, i0))), some (.inl v1), some (.inl v2), some (.inl x5)] [] S3)
  else (
   let x6 : Int32 := (v2 ||| ((1 : Int32) <<< (v3 &&& 31)))
   let x7 : Int32 := (v3 + (1 : Int32))
   zr_X11_where ex n 14 [some (.inr (.inr (11, i0))), some (.inl v1), some (.inl x6), some (.inl x7)] [] S3))) := rfl
abbrev zr_X11_odds (ex : z_Ex) (n pc : Nat) (ls : z_Lc) (st : List z_AV) (S : z_Mem) : Option (Option z_AV × z_Mem) := z_run true ex false zo_X11_odds zc_X11_odds n pc ls st S
set_option maxRecDepth 100000 in
set_option maxHeartbeats 4000000 in
theorem ze_X11_odds_0 (ex : z_Ex) (n : Nat) (S : z_Mem) (i0 : Nat) (v1 : Int32) (v2 : Int32) (v3 : Int32) : zr_X11_odds ex (n + 1) 0 [some (.inr (.inr (11, i0))), some (.inl v1), some (.inl v2), some (.inl v3), none, none, none, none, none] [] S =
 z_rI (ex 115 [.inl v1, .inl (60 : Int32)] S) (fun r2 S1 =>
 if r2 = 0 then (
  z_rI (ex 115 [.inl v2, .inl (999 : Int32)] S1) (fun r4 S3 =>
  if r4 = 0 then (
   z_rI (ex 115 [.inl v3, .inl (1 : Int32)] S3) (fun r6 S5 =>
   if r6 = 0 then (
    if 0 < (S5.1 7 0 1) then (
     z_rV (ex 117 [.inr (.inr (11, i0)), .inl v1] S5) (fun S7 =>
     z_rI (ex 57 [.inr (.inr (7, 2))] S7) (fun r9 S8 =>
     zr_X11_odds ex n 61 [some (.inr (.inr (11, i0))), none, some (.inl v2), some (.inl v3), some (.inl r9), some (.inl (0 : Int32)), some (.inl (0 : Int32)), none, none] [] S8)))
    else (
     some (some (.inr (.inl (Int64.ofNat 9223372036854775808))), S5)))
   else (
    some (some (.inr (.inl (Int64.ofNat 9223372036854775808))), S5))))
  else (
   some (some (.inr (.inl (Int64.ofNat 9223372036854775808))), S3))))
 else (
  some (some (.inr (.inl (Int64.ofNat 9223372036854775808))), S1))) := rfl
theorem zx_X11_odds (d : Nat) (S : z_Mem) (i0 : Nat) (v1 : Int32) (v2 : Int32) (v3 : Int32) : z_exe z_mt true (d + 1) 98 [.inr (.inr (11, i0)), .inl v1, .inl v2, .inl v3] S = zr_X11_odds (z_exe z_mt true d) (999999 + 1) 0 [some (.inr (.inr (11, i0))), some (.inl v1), some (.inl v2), some (.inl v3), none, none, none, none, none] [] S := z_exe_eq (q := (yX11_odds, cX11_odds, 9, (some .long), false, zo_X11_odds, zc_X11_odds, 11, 4)) rfl rfl
set_option maxRecDepth 100000 in
set_option maxHeartbeats 4000000 in
theorem ze_X11_odds_61 (ex : z_Ex) (n : Nat) (S : z_Mem) (i0 : Nat) (v2 : Int32) (v3 : Int32) (v4 : Int32) (v5 : Int32) (v6 : Int32) : zr_X11_odds ex (n + 1) 61 [some (.inr (.inr (11, i0))), none, some (.inl v2), some (.inl v3), some (.inl v4), some (.inl v5), some (.inl v6), none, none] [] S =
 if (S.1 7 2 1) ≤ v6 then (
  z_rL (ex 121 [.inl v5, .inl (S.1 7 0 1), .inl v3] S) (fun r11 S10 =>
  some (some (.inr (.inl r11)), S10)))
 else (
  cond (z_oob v6 6) none (
  if (S.1 2 (6 * 2 + (Int32.toNatClampNeg v6)) 5) = 0 then (
   let x12 : Int32 := (v4 - (S.1 2 (6 * 2 + (Int32.toNatClampNeg v6)) 3))
   if v2 < x12 then (
    let x13 : Int32 := (v6 + (1 : Int32))
    zr_X11_odds ex n 61 [some (.inr (.inr (11, i0))), none, some (.inl v2), some (.inl v3), some (.inl v4), some (.inl v5), some (.inl x13), none, none] [] S)
   else (
    let x14 : Int32 := (v5 + (1 : Int32))
    let x15 : Int32 := (v6 + (1 : Int32))
    zr_X11_odds ex n 61 [some (.inr (.inr (11, i0))), none, some (.inl v2), some (.inl v3), some (.inl v4), some (.inl x14), some (.inl x15), none, none] [] S))
  else (
   if v2 < v4 then (
    let x16 : Int32 := (v6 + (1 : Int32))
    zr_X11_odds ex n 61 [some (.inr (.inr (11, i0))), none, some (.inl v2), some (.inl v3), some (.inl v4), some (.inl v5), some (.inl x16), none, none] [] S)
   else (
    let x17 : Int32 := (v5 + (1 : Int32))
    let x18 : Int32 := (v6 + (1 : Int32))
    zr_X11_odds ex n 61 [some (.inr (.inr (11, i0))), none, some (.inl v2), some (.inl v3), some (.inl v4), some (.inl x17), some (.inl x18), none, none] [] S)))) := rfl
abbrev zr_X11_mean (ex : z_Ex) (n pc : Nat) (ls : z_Lc) (st : List z_AV) (S : z_Mem) : Option (Option z_AV × z_Mem) := z_run true ex false zo_X11_mean zc_X11_mean n pc ls st S
set_option maxRecDepth 100000 in
set_option maxHeartbeats 4000000 in
theorem ze_X11_mean_0 (ex : z_Ex) (n : Nat) (S : z_Mem) (i0 : Nat) (v1 : Int32) (v2 : Int32) : zr_X11_mean ex (n + 1) 0 [some (.inr (.inr (11, i0))), some (.inl v1), some (.inl v2), none, none] [] S =
 z_rI (ex 115 [.inl v1, .inl (60 : Int32)] S) (fun r2 S1 =>
 if r2 = 0 then (
  z_rI (ex 115 [.inl v2, .inl (1 : Int32)] S1) (fun r4 S3 =>
  if r4 = 0 then (
   if 0 < (S3.1 7 0 1) then (
    z_rV (ex 117 [.inr (.inr (11, i0)), .inl v1] S3) (fun S5 =>
    zr_X11_mean ex n 41 [some (.inr (.inr (11, i0))), none, some (.inl v2), some (.inl (0 : Int32)), some (.inl (0 : Int32))] [] S5))
   else (
    some (some (.inr (.inl (Int64.ofNat 9223372036854775808))), S3)))
  else (
   some (some (.inr (.inl (Int64.ofNat 9223372036854775808))), S3))))
 else (
  some (some (.inr (.inl (Int64.ofNat 9223372036854775808))), S1))) := rfl
theorem zx_X11_mean (d : Nat) (S : z_Mem) (i0 : Nat) (v1 : Int32) (v2 : Int32) : z_exe z_mt true (d + 1) 99 [.inr (.inr (11, i0)), .inl v1, .inl v2] S = zr_X11_mean (z_exe z_mt true d) (999999 + 1) 0 [some (.inr (.inr (11, i0))), some (.inl v1), some (.inl v2), none, none] [] S := z_exe_eq (q := (yX11_mean, cX11_mean, 5, (some .long), false, zo_X11_mean, zc_X11_mean, 11, 3)) rfl rfl
set_option maxRecDepth 100000 in
set_option maxHeartbeats 4000000 in
theorem ze_X11_mean_41 (ex : z_Ex) (n : Nat) (S : z_Mem) (i0 : Nat) (v2 : Int32) (v3 : Int32) (v4 : Int32) : zr_X11_mean ex (n + 1) 41 [some (.inr (.inr (11, i0))), none, some (.inl v2), some (.inl v3), some (.inl v4)] [] S =
 if (S.1 7 2 1) ≤ v4 then (
  z_rL (ex 121 [.inl v3, .inl (S.1 7 0 1), .inl v2] S) (fun r7 S6 =>
  some (some (.inr (.inl r7)), S6)))
 else (
  cond (z_oob v4 6) none (
  let x8 : Int32 := (v3 + (S.1 2 (6 * 2 + (Int32.toNatClampNeg v4)) 3))
  let x9 : Int32 := (v4 + (1 : Int32))
  zr_X11_mean ex n 41 [some (.inr (.inr (11, i0))), none, some (.inl v2), some (.inl x8), some (.inl x9)] [] S)) := rfl
abbrev zr_X11_rota (ex : z_Ex) (n pc : Nat) (ls : z_Lc) (st : List z_AV) (S : z_Mem) : Option (Option z_AV × z_Mem) := z_run true ex false zo_X11_rota zc_X11_rota n pc ls st S
set_option maxRecDepth 100000 in
set_option maxHeartbeats 4000000 in
theorem ze_X11_rota_0 (ex : z_Ex) (n : Nat) (S : z_Mem) (i0 : Nat) (v1 : Int32) (v2 : Int32) : zr_X11_rota ex (n + 1) 0 [some (.inr (.inr (11, i0))), some (.inl v1), some (.inl v2), none] [] S =
 if v1 = (-1 : Int32) then (
  let S1 : z_Mem := z_sI S 8 1 3 (0 : Int32)
  some (some (.inl (0 : Int32)), S1))
 else (
  z_rI (ex 115 [.inl v1, .inl (3 : Int32)] S) (fun r3 S2 =>
  if r3 = 0 then (
   if v1 = (2 : Int32) then (
    if (1 : Int32) = 0 then (
     z_rI (ex 62 [.inr (.inr (8, 1))] S2) (fun r5 S4 =>
     if r5 = 0 then (
      if (1 : Int32) = 0 then (
       z_rI (ex 63 [.inr (.inr (8, 1)), .inl v1, .inl (0 : Int32), .inl (0 : Int32)] S4) (fun r7 S6 =>
       some (some (.inl r7), S6)))
      else (
       z_rI (ex 63 [.inr (.inr (8, 1)), .inl v1, .inl v2, .inl (0 : Int32)] S4) (fun r9 S8 =>
       some (some (.inl r9), S8))))
     else (
      some (some (.inl (-4 : Int32)), S4))))
    else (
     z_rI (ex 116 [.inr (.inr (11, i0)), .inl v2] S2) (fun r11 S10 =>
     if r11 = 0 then (
      z_rI (ex 62 [.inr (.inr (8, 1))] S10) (fun r13 S12 =>
      if r13 = 0 then (
       if (1 : Int32) = 0 then (
        z_rI (ex 63 [.inr (.inr (8, 1)), .inl v1, .inl (0 : Int32), .inl (0 : Int32)] S12) (fun r15 S14 =>
        some (some (.inl r15), S14)))
       else (
        z_rI (ex 63 [.inr (.inr (8, 1)), .inl v1, .inl v2, .inl (0 : Int32)] S12) (fun r17 S16 =>
        some (some (.inl r17), S16))))
      else (
       some (some (.inl (-4 : Int32)), S12))))
     else (
      some (some (.inl (-1 : Int32)), S10)))))
   else (
    if v1 = (3 : Int32) then (
     if (1 : Int32) = 0 then (
      z_rI (ex 62 [.inr (.inr (8, 1))] S2) (fun r19 S18 =>
      if r19 = 0 then (
       if (1 : Int32) = 0 then (
        z_rI (ex 63 [.inr (.inr (8, 1)), .inl v1, .inl (0 : Int32), .inl (0 : Int32)] S18) (fun r21 S20 =>
        some (some (.inl r21), S20)))
       else (
        z_rI (ex 63 [.inr (.inr (8, 1)), .inl v1, .inl v2, .inl (0 : Int32)] S18) (fun r23 S22 =>
        some (some (.inl r23), S22))))
      else (
       some (some (.inl (-4 : Int32)), S18))))
     else (
      z_rI (ex 116 [.inr (.inr (11, i0)), .inl v2] S2) (fun r25 S24 =>
      if r25 = 0 then (
       z_rI (ex 62 [.inr (.inr (8, 1))] S24) (fun r27 S26 =>
       if r27 = 0 then (
        if (1 : Int32) = 0 then (
         z_rI (ex 63 [.inr (.inr (8, 1)), .inl v1, .inl (0 : Int32), .inl (0 : Int32)] S26) (fun r29 S28 =>
         some (some (.inl r29), S28)))
        else (
         z_rI (ex 63 [.inr (.inr (8, 1)), .inl v1, .inl v2, .inl (0 : Int32)] S26) (fun r31 S30 =>
         some (some (.inl r31), S30))))
       else (
        some (some (.inl (-4 : Int32)), S26))))
      else (
       some (some (.inl (-1 : Int32)), S24)))))
    else (
     if (0 : Int32) = 0 then (
      z_rI (ex 62 [.inr (.inr (8, 1))] S2) (fun r33 S32 =>
      if r33 = 0 then (
       if (0 : Int32) = 0 then (
        z_rI (ex 63 [.inr (.inr (8, 1)), .inl v1, .inl (0 : Int32), .inl (0 : Int32)] S32) (fun r35 S34 =>
        some (some (.inl r35), S34)))
       else (
        z_rI (ex 63 [.inr (.inr (8, 1)), .inl v1, .inl v2, .inl (0 : Int32)] S32) (fun r37 S36 =>
        some (some (.inl r37), S36))))
      else (
       some (some (.inl (-4 : Int32)), S32))))
     else (
      z_rI (ex 116 [.inr (.inr (11, i0)), .inl v2] S2) (fun r39 S38 =>
      if r39 = 0 then (
       z_rI (ex 62 [.inr (.inr (8, 1))] S38) (fun r41 S40 =>
       if r41 = 0 then (
        if (0 : Int32) = 0 then (
         z_rI (ex 63 [.inr (.inr (8, 1)), .inl v1, .inl (0 : Int32), .inl (0 : Int32)] S40) (fun r43 S42 =>
         some (some (.inl r43), S42)))
        else (
         z_rI (ex 63 [.inr (.inr (8, 1)), .inl v1, .inl v2, .inl (0 : Int32)] S40) (fun r45 S44 =>
         some (some (.inl r45), S44))))
       else (
        some (some (.inl (-4 : Int32)), S40))))
      else (
       some (some (.inl (-1 : Int32)), S38)))))))
  else (
   some (some (.inl (-1 : Int32)), S2)))) := rfl
theorem zx_X11_rota (d : Nat) (S : z_Mem) (i0 : Nat) (v1 : Int32) (v2 : Int32) : z_exe z_mt true (d + 1) 100 [.inr (.inr (11, i0)), .inl v1, .inl v2] S = zr_X11_rota (z_exe z_mt true d) (999999 + 1) 0 [some (.inr (.inr (11, i0))), some (.inl v1), some (.inl v2), none] [] S := z_exe_eq (q := (yX11_rota, cX11_rota, 4, (some .int), false, zo_X11_rota, zc_X11_rota, 11, 3)) rfl rfl
abbrev zr_X11_ends (ex : z_Ex) (n pc : Nat) (ls : z_Lc) (st : List z_AV) (S : z_Mem) : Option (Option z_AV × z_Mem) := z_run true ex false zo_X11_ends zc_X11_ends n pc ls st S
set_option maxRecDepth 100000 in
set_option maxHeartbeats 4000000 in
theorem ze_X11_ends_0 (ex : z_Ex) (n : Nat) (S : z_Mem) (i0 : Nat) (v1 : Int32) : zr_X11_ends ex (n + 1) 0 [some (.inr (.inr (11, i0))), some (.inl v1), none] [] S =
 z_rI (ex 115 [.inl v1, .inl (1 : Int32)] S) (fun r2 S1 =>
 if r2 = 0 then (
  z_rV (ex 51 [.inr (.inr (7, 2)), .inr (.inr (7, 0))] S1) (fun S3 =>
  zr_X11_ends ex n 23 [some (.inr (.inr (11, i0))), some (.inl v1), some (.inl (0 : Int32))] [] S3))
 else (
  some (some (.inl (-1 : Int32)), S1))) := rfl
theorem zx_X11_ends (d : Nat) (S : z_Mem) (i0 : Nat) (v1 : Int32) : z_exe z_mt true (d + 1) 101 [.inr (.inr (11, i0)), .inl v1] S = zr_X11_ends (z_exe z_mt true d) (999999 + 1) 0 [some (.inr (.inr (11, i0))), some (.inl v1), none] [] S := z_exe_eq (q := (yX11_ends, cX11_ends, 3, (some .int), false, zo_X11_ends, zc_X11_ends, 11, 2)) rfl rfl
set_option maxRecDepth 100000 in
set_option maxHeartbeats 4000000 in
theorem ze_X11_ends_23 (ex : z_Ex) (n : Nat) (S : z_Mem) (i0 : Nat) (v1 : Int32) (v2 : Int32) : zr_X11_ends ex (n + 1) 23 [some (.inr (.inr (11, i0))), some (.inl v1), some (.inl v2)] [] S =
 if (S.1 8 1 3) ≤ v2 then (
  if v1 = 0 then (
   z_rI (ex 57 [.inr (.inr (7, 2))] S) (fun r5 S4 =>
   some (some (.inl r5), S4)))
  else (
   z_rI (ex 58 [.inr (.inr (7, 2))] S) (fun r7 S6 =>
   some (some (.inl r7), S6))))
 else (
  cond (z_oob v2 (z_rl 1)) none (
  cond (z_oob v2 (z_rl 1)) none (
  z_rV (ex 56 [.inr (.inr (7, 2)), .inl (S.1 31 1 (Int32.toNatClampNeg v2)), .inl (S.1 32 1 (Int32.toNatClampNeg v2))] S) (fun S8 =>
  let x9 : Int32 := (v2 + (1 : Int32))
  zr_X11_ends ex n 23 [some (.inr (.inr (11, i0))), some (.inl v1), some (.inl x9)] [] S8)))) := rfl
abbrev zr_X11_book (ex : z_Ex) (n pc : Nat) (ls : z_Lc) (st : List z_AV) (S : z_Mem) : Option (Option z_AV × z_Mem) := z_run true ex false zo_X11_book zc_X11_book n pc ls st S
set_option maxRecDepth 100000 in
set_option maxHeartbeats 4000000 in
theorem ze_X11_book_0 (ex : z_Ex) (n : Nat) (S : z_Mem) (i0 : Nat) (v1 : Int32) (v2 : Int32) : zr_X11_book ex (n + 1) 0 [some (.inr (.inr (11, i0))), some (.inl v1), some (.inl v2)] [] S =
 if v1 = (-1 : Int32) then (
  let S1 : z_Mem := z_sI S 8 2 3 (0 : Int32)
  some (some (.inl (0 : Int32)), S1))
 else (
  z_rI (ex 116 [.inr (.inr (11, i0)), .inl v1] S) (fun r3 S2 =>
  if r3 = 0 then (
   z_rI (ex 115 [.inl v2, .inl (99 : Int32)] S2) (fun r5 S4 =>
   if r5 = 0 then (
    z_rI (ex 62 [.inr (.inr (8, 2))] S4) (fun r7 S6 =>
    if r7 = 0 then (
     z_rI (ex 63 [.inr (.inr (8, 2)), .inl v1, .inl v2, .inl (0 : Int32)] S6) (fun r9 S8 =>
     some (some (.inl r9), S8)))
    else (
     some (some (.inl (-4 : Int32)), S6))))
   else (
    some (some (.inl (-2 : Int32)), S4))))
  else (
   some (some (.inl (-1 : Int32)), S2)))) := rfl
theorem zx_X11_book (d : Nat) (S : z_Mem) (i0 : Nat) (v1 : Int32) (v2 : Int32) : z_exe z_mt true (d + 1) 102 [.inr (.inr (11, i0)), .inl v1, .inl v2] S = zr_X11_book (z_exe z_mt true d) (999999 + 1) 0 [some (.inr (.inr (11, i0))), some (.inl v1), some (.inl v2)] [] S := z_exe_eq (q := (yX11_book, cX11_book, 3, (some .int), false, zo_X11_book, zc_X11_book, 11, 3)) rfl rfl
abbrev zr_X11_looked (ex : z_Ex) (n pc : Nat) (ls : z_Lc) (st : List z_AV) (S : z_Mem) : Option (Option z_AV × z_Mem) := z_run true ex false zo_X11_looked zc_X11_looked n pc ls st S
set_option maxRecDepth 100000 in
set_option maxHeartbeats 4000000 in
theorem ze_X11_looked_0 (ex : z_Ex) (n : Nat) (S : z_Mem) (i0 : Nat) : zr_X11_looked ex (n + 1) 0 [some (.inr (.inr (11, i0))), none, none] [] S =
 zr_X11_looked ex n 2 [some (.inr (.inr (11, i0))), some (.inl (0 : Int32)), none] [] S := rfl
theorem zx_X11_looked (d : Nat) (S : z_Mem) (i0 : Nat) : z_exe z_mt true (d + 1) 103 [.inr (.inr (11, i0))] S = zr_X11_looked (z_exe z_mt true d) (999999 + 1) 0 [some (.inr (.inr (11, i0))), none, none] [] S := z_exe_eq (q := (yX11_looked, cX11_looked, 3, (some .int), false, zo_X11_looked, zc_X11_looked, 11, 1)) rfl rfl
set_option maxRecDepth 100000 in
set_option maxHeartbeats 4000000 in
theorem ze_X11_looked_2 (ex : z_Ex) (n : Nat) (S : z_Mem) (i0 : Nat) (v1 : Int32) : zr_X11_looked ex (n + 1) 2 [some (.inr (.inr (11, i0))), some (.inl v1), none] [] S =
 if (S.1 8 2 3) ≤ v1 then (
  some (some (.inl (-5 : Int32)), S))
 else (
  cond (z_oob v1 (z_rl 2)) none (
  let x1 : Int32 := (S.1 31 2 (Int32.toNatClampNeg v1))
  z_rI (ex 116 [.inr (.inr (11, i0)), .inl x1] S) (fun r3 S2 =>
  if r3 = 0 then (
   cond (z_oob x1 6) none (
   cond (z_oob v1 (z_rl 2)) none (
   if (S2.1 2 (6 * 0 + (Int32.toNatClampNeg x1)) 3) = (S2.1 32 2 (Int32.toNatClampNeg v1)) then (
    let x4 : Int32 := (v1 + (1 : Int32))
    zr_X11_looked ex n 2 [some (.inr (.inr (11, i0))), some (.inl x4), none] [] S2)
   else (
    some (some (.inl v1), S2)))))
  else (
   let x5 : Int32 := (v1 + (1 : Int32))
   zr_X11_looked ex n 2 [some (.inr (.inr (11, i0))), some (.inl x5), none] [] S2)))) := rfl
abbrev zr_X11_judge (ex : z_Ex) (n pc : Nat) (ls : z_Lc) (st : List z_AV) (S : z_Mem) : Option (Option z_AV × z_Mem) := z_run true ex false zo_X11_judge zc_X11_judge n pc ls st S
set_option maxRecDepth 100000 in
set_option maxHeartbeats 4000000 in
theorem ze_X11_judge_0 (ex : z_Ex) (n : Nat) (S : z_Mem) (i0 : Nat) (v1 : Int32) (v2 : Int32) : zr_X11_judge ex (n + 1) 0 [some (.inr (.inr (11, i0))), some (.inl v1), some (.inl v2), none, none] [] S =
 z_rI (ex 115 [.inl v1, .inl (5 : Int32)] S) (fun r2 S1 =>
 if r2 = 0 then (
  cond (z_oob v1 6) none (
  if (S1.1 10 (Int32.toNatClampNeg v1) 0) = (-1 : Int32) then (
   zr_X11_judge ex n 38 [some (.inr (.inr (11, i0))), none, some (.inl v2), some (.inr (.inr (10, (Int32.toNatClampNeg v1)))), some (.inl (0 : Int32))] [] S1)
  else (
   if (S1.1 10 (Int32.toNatClampNeg v1) 0) = 0 then (
    zr_X11_judge ex n 38 [some (.inr (.inr (11, i0))), none, some (.inl v2), some (.inr (.inr (10, (Int32.toNatClampNeg v1)))), some (.inl (0 : Int32))] [] S1)
   else (
    some (some (.inl (-12 : Int32)), S1)))))
 else (
  some (some (.inl (-1 : Int32)), S1))) := rfl
theorem zx_X11_judge (d : Nat) (S : z_Mem) (i0 : Nat) (v1 : Int32) (v2 : Int32) : z_exe z_mt true (d + 1) 104 [.inr (.inr (11, i0)), .inl v1, .inl v2] S = zr_X11_judge (z_exe z_mt true d) (999999 + 1) 0 [some (.inr (.inr (11, i0))), some (.inl v1), some (.inl v2), none, none] [] S := z_exe_eq (q := (yX11_judge, cX11_judge, 5, (some .int), false, zo_X11_judge, zc_X11_judge, 11, 3)) rfl rfl
set_option maxRecDepth 100000 in
set_option maxHeartbeats 4000000 in
theorem ze_X11_judge_38 (ex : z_Ex) (n : Nat) (S : z_Mem) (i0 : Nat) (v2 : Int32) (i3 : Nat) (v4 : Int32) : zr_X11_judge ex (n + 1) 38 [some (.inr (.inr (11, i0))), none, some (.inl v2), some (.inr (.inr (10, i3))), some (.inl v4)] [] S =
 if (S.1 7 0 1) ≤ v4 then (
  some (some (.inl (-5 : Int32)), S))
 else (
  if (S.1 10 i3 0) = (-1 : Int32) then (
   some (some (.inl ((100 : Int32) + v4)), S))
  else (
   if v2 < 0 then (
    some (some (.inl ((100 : Int32) + v4)), S))
   else (
    if v4 < ((S.1 10 i3 1) - v2) then (
     cond (z_oob (v2 + v4) 60) none (
     cond (z_oob v4 6) none (
     if (lg_cmp (S.2.1 34 i3 (Int32.toNatClampNeg (v2 + v4))) (Int32.toInt64 (S.1 2 (6 * 0 + (Int32.toNatClampNeg v4)) 3))) = 0 then (
      let x3 : Int32 := (v4 + (1 : Int32))
      zr_X11_judge ex n 38 [some (.inr (.inr (11, i0))), none, some (.inl v2), some (.inr (.inr (10, i3))), some (.inl x3)] [] S)
     else (
      some (some (.inl v4), S)))))
    else (
     some (some (.inl ((100 : Int32) + v4)), S))))) := rfl
abbrev zr_X11_image (ex : z_Ex) (n pc : Nat) (ls : z_Lc) (st : List z_AV) (S : z_Mem) : Option (Option z_AV × z_Mem) := z_run true ex false zo_X11_image zc_X11_image n pc ls st S
set_option maxRecDepth 100000 in
set_option maxHeartbeats 4000000 in
theorem ze_X11_image_0 (ex : z_Ex) (n : Nat) (S : z_Mem) (i0 : Nat) : zr_X11_image ex (n + 1) 0 [some (.inr (.inr (11, i0)))] [] S =
 if (1 : Int32) &&& 1 = (1 : Int32) then
 let S1 : z_Mem := z_sI S 11 i0 4 (1 : Int32)
 z_rV (ex 51 [.inr (.inr (7, 1)), .inr (.inr (7, 0))] S1) (fun S2 =>
 z_rV (ex 64 [.inr (.inr (8, 3)), .inr (.inr (8, 0))] S2) (fun S3 =>
 z_rV (ex 64 [.inr (.inr (8, 4)), .inr (.inr (8, 1))] S3) (fun S4 =>
 z_rV (ex 64 [.inr (.inr (8, 5)), .inr (.inr (8, 2))] S4) (fun S5 =>
 some (some (.inl (S5.1 7 0 1)), S5)))))
 else none := rfl
theorem zx_X11_image (d : Nat) (S : z_Mem) (i0 : Nat) : z_exe z_mt true (d + 1) 105 [.inr (.inr (11, i0))] S = zr_X11_image (z_exe z_mt true d) (999999 + 1) 0 [some (.inr (.inr (11, i0)))] [] S := z_exe_eq (q := (yX11_image, cX11_image, 1, (some .int), false, zo_X11_image, zc_X11_image, 11, 1)) rfl rfl
abbrev zr_X11_undo (ex : z_Ex) (n pc : Nat) (ls : z_Lc) (st : List z_AV) (S : z_Mem) : Option (Option z_AV × z_Mem) := z_run true ex false zo_X11_undo zc_X11_undo n pc ls st S
set_option maxRecDepth 100000 in
set_option maxHeartbeats 4000000 in
theorem ze_X11_undo_0 (ex : z_Ex) (n : Nat) (S : z_Mem) (i0 : Nat) : zr_X11_undo ex (n + 1) 0 [some (.inr (.inr (11, i0)))] [] S =
 if (S.1 11 i0 4) = 0 then (
  some (some (.inl (-3 : Int32)), S))
 else (
  z_rV (ex 51 [.inr (.inr (7, 0)), .inr (.inr (7, 1))] S) (fun S1 =>
  z_rV (ex 64 [.inr (.inr (8, 0)), .inr (.inr (8, 3))] S1) (fun S2 =>
  z_rV (ex 64 [.inr (.inr (8, 1)), .inr (.inr (8, 4))] S2) (fun S3 =>
  z_rV (ex 64 [.inr (.inr (8, 2)), .inr (.inr (8, 5))] S3) (fun S4 =>
  some (some (.inl (S4.1 7 0 1)), S4)))))) := rfl
theorem zx_X11_undo (d : Nat) (S : z_Mem) (i0 : Nat) : z_exe z_mt true (d + 1) 106 [.inr (.inr (11, i0))] S = zr_X11_undo (z_exe z_mt true d) (999999 + 1) 0 [some (.inr (.inr (11, i0)))] [] S := z_exe_eq (q := (yX11_undo, cX11_undo, 1, (some .int), false, zo_X11_undo, zc_X11_undo, 11, 1)) rfl rfl
abbrev zr_X11_act (ex : z_Ex) (n pc : Nat) (ls : z_Lc) (st : List z_AV) (S : z_Mem) : Option (Option z_AV × z_Mem) := z_run true ex false zo_X11_act zc_X11_act n pc ls st S
set_option maxRecDepth 100000 in
set_option maxHeartbeats 4000000 in
theorem ze_X11_act_0 (ex : z_Ex) (n : Nat) (S : z_Mem) (i0 : Nat) (v1 : Int32) (v2 : Int32) (v3 : Int32) : zr_X11_act ex (n + 1) 0 [some (.inr (.inr (11, i0))), some (.inl v1), some (.inl v2), some (.inl v3)] [] S =
 z_rV (ex 1 [.inr (.inr (1, 0))] S) (fun S1 =>
 z_rI (ex 116 [.inr (.inr (11, i0)), .inl v1] S1) (fun r3 S2 =>
 if r3 = 0 then (
  cond (z_oob v1 6) none (
  z_rI (ex 3 [.inr (.inr (1, 0)), .inr (.inr (2, (6 * 0 + (Int32.toNatClampNeg v1)))), .inl v2, .inl v3] S2) (fun r5 S4 =>
  some (some (.inl r5), S4))))
 else (
  some (some (.inl (0 : Int32)), S2)))) := rfl
theorem zx_X11_act (d : Nat) (S : z_Mem) (i0 : Nat) (v1 : Int32) (v2 : Int32) (v3 : Int32) : z_exe z_mt true (d + 1) 107 [.inr (.inr (11, i0)), .inl v1, .inl v2, .inl v3] S = zr_X11_act (z_exe z_mt true d) (999999 + 1) 0 [some (.inr (.inr (11, i0))), some (.inl v1), some (.inl v2), some (.inl v3)] [] S := z_exe_eq (q := (yX11_act, cX11_act, 4, (some .int), false, zo_X11_act, zc_X11_act, 11, 4)) rfl rfl
abbrev zr_X11_trace (ex : z_Ex) (n pc : Nat) (ls : z_Lc) (st : List z_AV) (S : z_Mem) : Option (Option z_AV × z_Mem) := z_run true ex false zo_X11_trace zc_X11_trace n pc ls st S
set_option maxRecDepth 100000 in
set_option maxHeartbeats 4000000 in
theorem ze_X11_trace_0 (ex : z_Ex) (n : Nat) (S : z_Mem) (i0 : Nat) (v1 : Int32) : zr_X11_trace ex (n + 1) 0 [some (.inr (.inr (11, i0))), some (.inl v1)] [] S =
 if v1 < 0 then (
  some (some (.inl (-1 : Int32)), S))
 else (
  z_rI (ex 2 [.inr (.inr (1, 0))] S) (fun r2 S1 =>
  if v1 < r2 then (
   cond (z_oob v1 20) none (
   some (some (.inl (S1.1 20 0 (Int32.toNatClampNeg v1))), S1)))
  else (
   some (some (.inl (-1 : Int32)), S1)))) := rfl
theorem zx_X11_trace (d : Nat) (S : z_Mem) (i0 : Nat) (v1 : Int32) : z_exe z_mt true (d + 1) 108 [.inr (.inr (11, i0)), .inl v1] S = zr_X11_trace (z_exe z_mt true d) (999999 + 1) 0 [some (.inr (.inr (11, i0))), some (.inl v1)] [] S := z_exe_eq (q := (yX11_trace, cX11_trace, 2, (some .int), false, zo_X11_trace, zc_X11_trace, 11, 2)) rfl rfl
abbrev zr_X11_taken (ex : z_Ex) (n pc : Nat) (ls : z_Lc) (st : List z_AV) (S : z_Mem) : Option (Option z_AV × z_Mem) := z_run true ex false zo_X11_taken zc_X11_taken n pc ls st S
set_option maxRecDepth 100000 in
set_option maxHeartbeats 4000000 in
theorem ze_X11_taken_0 (ex : z_Ex) (n : Nat) (S : z_Mem) (i0 : Nat) (v1 : Int32) (v2 : Int32) : zr_X11_taken ex (n + 1) 0 [some (.inr (.inr (11, i0))), some (.inl v1), some (.inl v2), none] [] S =
 z_rI (ex 115 [.inl v2, .inl (6 : Int32)] S) (fun r2 S1 =>
 if r2 = 0 then (
  z_rI (ex 116 [.inr (.inr (11, i0)), .inl v1] S1) (fun r4 S3 =>
  if r4 = 0 then (
   cond (z_oob v1 6) none (
   let x5 : Int32 := (S3.1 2 (6 * 0 + (Int32.toNatClampNeg v1)) 1)
   z_rI (ex 42 [.inl x5, .inl v2] S3) (fun r7 S6 =>
   if r7 = 0 then (
    some (some (.inl (-12 : Int32)), S6))
   else (
    some (some (.inl x5), S6)))))
  else (
   some (some (.inl (-11 : Int32)), S3))))
 else (
  some (some (.inl (-2 : Int32)), S1))) := rfl
theorem zx_X11_taken (d : Nat) (S : z_Mem) (i0 : Nat) (v1 : Int32) (v2 : Int32) : z_exe z_mt true (d + 1) 109 [.inr (.inr (11, i0)), .inl v1, .inl v2] S = zr_X11_taken (z_exe z_mt true d) (999999 + 1) 0 [some (.inr (.inr (11, i0))), some (.inl v1), some (.inl v2), none] [] S := z_exe_eq (q := (yX11_taken, cX11_taken, 4, (some .int), false, zo_X11_taken, zc_X11_taken, 11, 3)) rfl rfl
abbrev zr_X11_count (ex : z_Ex) (n pc : Nat) (ls : z_Lc) (st : List z_AV) (S : z_Mem) : Option (Option z_AV × z_Mem) := z_run true ex false zo_X11_count zc_X11_count n pc ls st S
set_option maxRecDepth 100000 in
set_option maxHeartbeats 4000000 in
theorem ze_X11_count_0 (ex : z_Ex) (n : Nat) (S : z_Mem) (i0 : Nat) (v1 : Int32) : zr_X11_count ex (n + 1) 0 [some (.inr (.inr (11, i0))), some (.inl v1)] [] S =
 if v1 = (0 : Int32) then (
  some (some (.inl (S.1 7 0 1)), S)) else
 if v1 = (1 : Int32) then (
  some (some (.inl (S.1 11 i0 11)), S)) else
 if v1 = (2 : Int32) then (
  some (some (.inl (S.1 8 0 3)), S)) else
 if v1 = (3 : Int32) then (
  some (some (.inl (S.1 8 1 3)), S)) else
 if v1 = (4 : Int32) then (
  some (some (.inl (S.1 8 2 3)), S)) else
 if v1 = (5 : Int32) then (
  some (some (.inl (S.1 5 0 1)), S)) else
 if v1 = (6 : Int32) then (
  some (some (.inl (S.1 1 0 1)), S)) else
 some (some (.inl (-2 : Int32)), S) := rfl
theorem zx_X11_count (d : Nat) (S : z_Mem) (i0 : Nat) (v1 : Int32) : z_exe z_mt true (d + 1) 110 [.inr (.inr (11, i0)), .inl v1] S = zr_X11_count (z_exe z_mt true d) (999999 + 1) 0 [some (.inr (.inr (11, i0))), some (.inl v1)] [] S := z_exe_eq (q := (yX11_count, cX11_count, 2, (some .int), false, zo_X11_count, zc_X11_count, 11, 2)) rfl rfl
abbrev zr_X11_tape (ex : z_Ex) (n pc : Nat) (ls : z_Lc) (st : List z_AV) (S : z_Mem) : Option (Option z_AV × z_Mem) := z_run true ex false zo_X11_tape zc_X11_tape n pc ls st S
set_option maxRecDepth 100000 in
set_option maxHeartbeats 4000000 in
theorem ze_X11_tape_0 (ex : z_Ex) (n : Nat) (S : z_Mem) (i0 : Nat) (v1 : Int32) (v2 : Int32) (v3 : Int32) : zr_X11_tape ex (n + 1) 0 [some (.inr (.inr (11, i0))), some (.inl v1), some (.inl v2), some (.inl v3)] [] S =
 z_rI (ex 115 [.inl v1, .inl (5 : Int32)] S) (fun r2 S1 =>
 if r2 = 0 then (
  if v2 = (-1 : Int32) then (
   cond (z_oob v1 6) none (
   z_rV (ex 72 [.inr (.inr (10, (Int32.toNatClampNeg v1))), .inl (-1 : Int32), .inl (0 : Int32)] S1) (fun S3 =>
   some (some (.inl (1 : Int32)), S3))))
  else (
   z_rI (ex 115 [.inl v2, .inl (4 : Int32)] S1) (fun r5 S4 =>
   if r5 = 0 then (
    if v3 ≤ (60 : Int32) then (
     if 0 ≤ v3 then (
      cond (z_oob v1 6) none (
      z_rV (ex 72 [.inr (.inr (10, (Int32.toNatClampNeg v1))), .inl v2, .inl v3] S4) (fun S6 =>
      some (some (.inl (1 : Int32)), S6))))
     else (
      some (some (.inl (-14 : Int32)), S4)))
    else (
     some (some (.inl (-2 : Int32)), S4)))
   else (
    some (some (.inl (-2 : Int32)), S4)))))
 else (
  some (some (.inl (-1 : Int32)), S1))) := rfl
theorem zx_X11_tape (d : Nat) (S : z_Mem) (i0 : Nat) (v1 : Int32) (v2 : Int32) (v3 : Int32) : z_exe z_mt true (d + 1) 111 [.inr (.inr (11, i0)), .inl v1, .inl v2, .inl v3] S = zr_X11_tape (z_exe z_mt true d) (999999 + 1) 0 [some (.inr (.inr (11, i0))), some (.inl v1), some (.inl v2), some (.inl v3)] [] S := z_exe_eq (q := (yX11_tape, cX11_tape, 4, (some .int), false, zo_X11_tape, zc_X11_tape, 11, 4)) rfl rfl
abbrev zr_X11_item (ex : z_Ex) (n pc : Nat) (ls : z_Lc) (st : List z_AV) (S : z_Mem) : Option (Option z_AV × z_Mem) := z_run true ex false zo_X11_item zc_X11_item n pc ls st S
set_option maxRecDepth 100000 in
set_option maxHeartbeats 4000000 in
theorem ze_X11_item_0 (ex : z_Ex) (n : Nat) (S : z_Mem) (i0 : Nat) (v1 : Int32) (v2 : Int32) (w3 : Int64) : zr_X11_item ex (n + 1) 0 [some (.inr (.inr (11, i0))), some (.inl v1), some (.inl v2), some (.inr (.inl w3)), none, none] [] S =
 z_rI (ex 115 [.inl v1, .inl (5 : Int32)] S) (fun r2 S1 =>
 if r2 = 0 then (
  cond (z_oob v1 6) none (
  if (S1.1 10 (Int32.toNatClampNeg v1) 0) = (-1 : Int32) then (
   some (some (.inl (-11 : Int32)), S1))
  else (
   if v2 < 0 then (
    some (some (.inl (-13 : Int32)), S1))
   else (
    if v2 < (S1.1 10 (Int32.toNatClampNeg v1) 1) then (
     z_rL (ex 74 [.inr (.inr (10, (Int32.toNatClampNeg v1))), .inr (.inl w3)] S1) (fun r4 S3 =>
     cond (z_oob v2 60) none (
     let S5 : z_Mem := z_sL S3 34 (Int32.toNatClampNeg v1) (Int32.toNatClampNeg v2) r4
     some (some (.inl (1 : Int32)), S5))))
    else (
     some (some (.inl (-13 : Int32)), S1))))))
 else (
  some (some (.inl (-1 : Int32)), S1))) := rfl
theorem zx_X11_item (d : Nat) (S : z_Mem) (i0 : Nat) (v1 : Int32) (v2 : Int32) (w3 : Int64) : z_exe z_mt true (d + 1) 112 [.inr (.inr (11, i0)), .inl v1, .inl v2, .inr (.inl w3)] S = zr_X11_item (z_exe z_mt true d) (999999 + 1) 0 [some (.inr (.inr (11, i0))), some (.inl v1), some (.inl v2), some (.inr (.inl w3)), none, none] [] S := z_exe_eq (q := (yX11_item, cX11_item, 6, (some .int), false, zo_X11_item, zc_X11_item, 11, 4)) rfl rfl
abbrev zr_X11_read (ex : z_Ex) (n pc : Nat) (ls : z_Lc) (st : List z_AV) (S : z_Mem) : Option (Option z_AV × z_Mem) := z_run true ex false zo_X11_read zc_X11_read n pc ls st S
set_option maxRecDepth 100000 in
set_option maxHeartbeats 4000000 in
theorem ze_X11_read_0 (ex : z_Ex) (n : Nat) (S : z_Mem) (i0 : Nat) (v1 : Int32) (v2 : Int32) : zr_X11_read ex (n + 1) 0 [some (.inr (.inr (11, i0))), some (.inl v1), some (.inl v2), none] [] S =
 z_rI (ex 115 [.inl v1, .inl (5 : Int32)] S) (fun r2 S1 =>
 if r2 = 0 then (
  cond (z_oob v1 6) none (
  if v2 < 0 then (
   some (some (.inr (.inl (Int64.ofNat 9223372036854775808))), S1))
  else (
   if v2 < (S1.1 10 (Int32.toNatClampNeg v1) 1) then (
    cond (z_oob v2 60) none (
    some (some (.inr (.inl (S1.2.1 34 (Int32.toNatClampNeg v1) (Int32.toNatClampNeg v2)))), S1)))
   else (
    some (some (.inr (.inl (Int64.ofNat 9223372036854775808))), S1)))))
 else (
  some (some (.inr (.inl (Int64.ofNat 9223372036854775808))), S1))) := rfl
theorem zx_X11_read (d : Nat) (S : z_Mem) (i0 : Nat) (v1 : Int32) (v2 : Int32) : z_exe z_mt true (d + 1) 113 [.inr (.inr (11, i0)), .inl v1, .inl v2] S = zr_X11_read (z_exe z_mt true d) (999999 + 1) 0 [some (.inr (.inr (11, i0))), some (.inl v1), some (.inl v2), none] [] S := z_exe_eq (q := (yX11_read, cX11_read, 4, (some .long), false, zo_X11_read, zc_X11_read, 11, 3)) rfl rfl
abbrev zr_X11_shift (ex : z_Ex) (n pc : Nat) (ls : z_Lc) (st : List z_AV) (S : z_Mem) : Option (Option z_AV × z_Mem) := z_run true ex false zo_X11_shift zc_X11_shift n pc ls st S
set_option maxRecDepth 100000 in
set_option maxHeartbeats 4000000 in
theorem ze_X11_shift_0 (ex : z_Ex) (n : Nat) (S : z_Mem) (i0 : Nat) (v1 : Int32) (v2 : Int32) (v3 : Int32) (v4 : Int32) (v5 : Int32) : zr_X11_shift ex (n + 1) 0 [some (.inr (.inr (11, i0))), some (.inl v1), some (.inl v2), some (.inl v3), some (.inl v4), some (.inl v5), none, none] [] S =
 z_rI (ex 115 [.inl v1, .inl (5 : Int32)] S) (fun r2 S1 =>
 if r2 = 0 then (
  z_rI (ex 115 [.inl v3, .inl (5 : Int32)] S1) (fun r4 S3 =>
  if r4 = 0 then (
   cond (z_oob v1 6) none (
   cond (z_oob v3 6) none (
   if (S3.1 10 (Int32.toNatClampNeg v1) 0) = (-1 : Int32) then (
    some (some (.inl (-11 : Int32)), S3))
   else (
    if (S3.1 10 (Int32.toNatClampNeg v3) 0) = (-1 : Int32) then (
     some (some (.inl (-11 : Int32)), S3))
    else (
     if (S3.1 10 (Int32.toNatClampNeg v1) 0) = (S3.1 10 (Int32.toNatClampNeg v3) 0) then (
      z_rI (ex 73 [.inr (.inr (10, (Int32.toNatClampNeg v1))), .inl v2, .inl v5] S3) (fun r6 S5 =>
      if r6 = 0 then (
       some (some (.inl (-13 : Int32)), S5))
      else (
       z_rI (ex 73 [.inr (.inr (10, (Int32.toNatClampNeg v3))), .inl v4, .inl v5] S5) (fun r8 S7 =>
       if r8 = 0 then (
        some (some (.inl (-13 : Int32)), S7))
       else (
        cond (z_rng v2 v5 60 && z_rng v4 v5 60) (
        let S9 : z_Mem := z_acL S7 34 (Int32.toNatClampNeg v1) (Int32.toNatClampNeg v2) 34 (Int32.toNatClampNeg v3) (Int32.toNatClampNeg v4) (Int32.toNatClampNeg v5)
        some (some (.inl v5), S9)) none)))))
     else (
      some (some (.inl (-12 : Int32)), S3)))))))
  else (
   some (some (.inl (-1 : Int32)), S3))))
 else (
  some (some (.inl (-1 : Int32)), S1))) := rfl
theorem zx_X11_shift (d : Nat) (S : z_Mem) (i0 : Nat) (v1 : Int32) (v2 : Int32) (v3 : Int32) (v4 : Int32) (v5 : Int32) : z_exe z_mt true (d + 1) 114 [.inr (.inr (11, i0)), .inl v1, .inl v2, .inl v3, .inl v4, .inl v5] S = zr_X11_shift (z_exe z_mt true d) (999999 + 1) 0 [some (.inr (.inr (11, i0))), some (.inl v1), some (.inl v2), some (.inl v3), some (.inl v4), some (.inl v5), none, none] [] S := z_exe_eq (q := (yX11_shift, cX11_shift, 8, (some .int), false, zo_X11_shift, zc_X11_shift, 11, 6)) rfl rfl
abbrev zr_X11_outside (ex : z_Ex) (n pc : Nat) (ls : z_Lc) (st : List z_AV) (S : z_Mem) : Option (Option z_AV × z_Mem) := z_run true ex true zo_X11_outside zc_X11_outside n pc ls st S
set_option maxRecDepth 100000 in
set_option maxHeartbeats 4000000 in
theorem ze_X11_outside_0 (ex : z_Ex) (n : Nat) (S : z_Mem) (v0 : Int32) (v1 : Int32) : zr_X11_outside ex (n + 1) 0 [some (.inl v0), some (.inl v1)] [] S =
 if v0 < 0 then (
  some (some (.inl (1 : Int32)), S))
 else (
  if v0 ≤ v1 then (
   some (some (.inl (0 : Int32)), S))
  else (
   some (some (.inl (1 : Int32)), S))) := rfl
theorem zx_X11_outside (d : Nat) (S : z_Mem) (v0 : Int32) (v1 : Int32) : z_exe z_mt true (d + 1) 115 [.inl v0, .inl v1] S = zr_X11_outside (z_exe z_mt true d) (999999 + 1) 0 [some (.inl v0), some (.inl v1)] [] S := z_exe_eq (q := (yX11_outside, cX11_outside, 2, (some .boolean), true, zo_X11_outside, zc_X11_outside, 0, 2)) rfl rfl
abbrev zr_X11_noPair (ex : z_Ex) (n pc : Nat) (ls : z_Lc) (st : List z_AV) (S : z_Mem) : Option (Option z_AV × z_Mem) := z_run true ex true zo_X11_noPair zc_X11_noPair n pc ls st S
set_option maxRecDepth 100000 in
set_option maxHeartbeats 4000000 in
theorem ze_X11_noPair_0 (ex : z_Ex) (n : Nat) (S : z_Mem) (i0 : Nat) (v1 : Int32) : zr_X11_noPair ex (n + 1) 0 [some (.inr (.inr (11, i0))), some (.inl v1)] [] S =
 if v1 < 0 then (
  some (some (.inl (1 : Int32)), S))
 else (
  if v1 < (S.1 7 0 1) then (
   some (some (.inl (0 : Int32)), S))
  else (
   some (some (.inl (1 : Int32)), S))) := rfl
theorem zx_X11_noPair (d : Nat) (S : z_Mem) (i0 : Nat) (v1 : Int32) : z_exe z_mt true (d + 1) 116 [.inr (.inr (11, i0)), .inl v1] S = zr_X11_noPair (z_exe z_mt true d) (999999 + 1) 0 [some (.inr (.inr (11, i0))), some (.inl v1)] [] S := z_exe_eq (q := (yX11_noPair, cX11_noPair, 2, (some .boolean), true, zo_X11_noPair, zc_X11_noPair, 11, 2)) rfl rfl
abbrev zr_X11_tryHours (ex : z_Ex) (n pc : Nat) (ls : z_Lc) (st : List z_AV) (S : z_Mem) : Option (Option z_AV × z_Mem) := z_run true ex false zo_X11_tryHours zc_X11_tryHours n pc ls st S
set_option maxRecDepth 100000 in
set_option maxHeartbeats 4000000 in
theorem ze_X11_tryHours_0 (ex : z_Ex) (n : Nat) (S : z_Mem) (i0 : Nat) (v1 : Int32) : zr_X11_tryHours ex (n + 1) 0 [some (.inr (.inr (11, i0))), some (.inl v1)] [] S =
 z_rV (ex 51 [.inr (.inr (7, 2)), .inr (.inr (7, 0))] S) (fun S1 =>
 z_rV (ex 55 [.inr (.inr (7, 2)), .inl v1] S1) (fun S2 =>
 some (none, S2))) := rfl
theorem zx_X11_tryHours (d : Nat) (S : z_Mem) (i0 : Nat) (v1 : Int32) : z_exe z_mt true (d + 1) 117 [.inr (.inr (11, i0)), .inl v1] S = zr_X11_tryHours (z_exe z_mt true d) (999999 + 1) 0 [some (.inr (.inr (11, i0))), some (.inl v1)] [] S := z_exe_eq (q := (yX11_tryHours, cX11_tryHours, 2, none, false, zo_X11_tryHours, zc_X11_tryHours, 11, 2)) rfl rfl
abbrev zr_X11_wetByLogs (ex : z_Ex) (n pc : Nat) (ls : z_Lc) (st : List z_AV) (S : z_Mem) : Option (Option z_AV × z_Mem) := z_run true ex false zo_X11_wetByLogs zc_X11_wetByLogs n pc ls st S
set_option maxRecDepth 100000 in
set_option maxHeartbeats 4000000 in
theorem ze_X11_wetByLogs_0 (ex : z_Ex) (n : Nat) (S : z_Mem) (i0 : Nat) (v1 : Int32) (v2 : Int32) : zr_X11_wetByLogs ex (n + 1) 0 [some (.inr (.inr (11, i0))), some (.inl v1), some (.inl v2), none] [] S =
 z_rV (ex 51 [.inr (.inr (7, 2)), .inr (.inr (7, 0))] S) (fun S1 =>
 zr_X11_wetByLogs ex n 13 [some (.inr (.inr (11, i0))), some (.inl v1), some (.inl v2), some (.inl (0 : Int32))] [] S1) := rfl
theorem zx_X11_wetByLogs (d : Nat) (S : z_Mem) (i0 : Nat) (v1 : Int32) (v2 : Int32) : z_exe z_mt true (d + 1) 118 [.inr (.inr (11, i0)), .inl v1, .inl v2] S = zr_X11_wetByLogs (z_exe z_mt true d) (999999 + 1) 0 [some (.inr (.inr (11, i0))), some (.inl v1), some (.inl v2), none] [] S := z_exe_eq (q := (yX11_wetByLogs, cX11_wetByLogs, 4, (some .int), false, zo_X11_wetByLogs, zc_X11_wetByLogs, 11, 3)) rfl rfl
set_option maxRecDepth 100000 in
set_option maxHeartbeats 4000000 in
theorem ze_X11_wetByLogs_13 (ex : z_Ex) (n : Nat) (S : z_Mem) (i0 : Nat) (v1 : Int32) (v2 : Int32) (v3 : Int32) : zr_X11_wetByLogs ex (n + 1) 13 [some (.inr (.inr (11, i0))), some (.inl v1), some (.inl v2), some (.inl v3)] [] S =
 if v1 ≤ v3 then (
  z_rI (ex 57 [.inr (.inr (7, 2))] S) (fun r3 S2 =>
  some (some (.inl r3), S2)))
 else (
  if ((v2 >>> (v3 &&& 31)) &&& (1 : Int32)) = 0 then (
   z_rV (ex 54 [.inr (.inr (7, 2))] S) (fun S4 =>
   let x5 : Int32 := (v3 + (1 : Int32))
   zr_X11_wetByLogs ex n 13 [some (.inr (.inr (11, i0))), some (.inl v1), some (.inl v2), some (.inl x5)] [] S4))
  else (
   z_rV (ex 69 [.inr (.inr (9, 2))] S) (fun S6 =>
   z_rV (ex 54 [.inr (.inr (7, 2))] S6) (fun S7 =>
   let x8 : Int32 := (v3 + (1 : Int32))
   zr_X11_wetByLogs ex n 13 [some (.inr (.inr (11, i0))), some (.inl v1), some (.inl v2), some (.inl x8)] [] S7)))) := rfl
abbrev zr_X11_courseIsAsSeen (ex : z_Ex) (n pc : Nat) (ls : z_Lc) (st : List z_AV) (S : z_Mem) : Option (Option z_AV × z_Mem) := z_run true ex true zo_X11_courseIsAsSeen zc_X11_courseIsAsSeen n pc ls st S
set_option maxRecDepth 100000 in
set_option maxHeartbeats 4000000 in
theorem ze_X11_courseIsAsSeen_0 (ex : z_Ex) (n : Nat) (S : z_Mem) (i0 : Nat) : zr_X11_courseIsAsSeen ex (n + 1) 0 [some (.inr (.inr (11, i0))), none, none, none, none, none] [] S =
 z_rI (ex 65 [.inr (.inr (8, 0)), .inl (S.1 2 18 0)] S) (fun r2 S1 =>
 zr_X11_courseIsAsSeen ex n 22 [some (.inr (.inr (11, i0))), some (.inl (S.1 2 18 0)), some (.inl r2), some (.inl (0 : Int32)), none, none] [] S1) := rfl
theorem zx_X11_courseIsAsSeen (d : Nat) (S : z_Mem) (i0 : Nat) : z_exe z_mt true (d + 1) 119 [.inr (.inr (11, i0))] S = zr_X11_courseIsAsSeen (z_exe z_mt true d) (999999 + 1) 0 [some (.inr (.inr (11, i0))), none, none, none, none, none] [] S := z_exe_eq (q := (yX11_courseIsAsSeen, cX11_courseIsAsSeen, 6, (some .boolean), true, zo_X11_courseIsAsSeen, zc_X11_courseIsAsSeen, 11, 1)) rfl rfl
set_option maxRecDepth 100000 in
set_option maxHeartbeats 4000000 in
theorem ze_X11_courseIsAsSeen_22 (ex : z_Ex) (n : Nat) (S : z_Mem) (i0 : Nat) (v1 : Int32) (v2 : Int32) (v3 : Int32) : zr_X11_courseIsAsSeen ex (n + 1) 22 [some (.inr (.inr (11, i0))), some (.inl v1), some (.inl v2), some (.inl v3), none, none] [] S =
 if v2 < v3 then (
  some (some (.inl (1 : Int32)), S))
 else (
  zr_X11_courseIsAsSeen ex n 30 [some (.inr (.inr (11, i0))), some (.inl v1), some (.inl v2), some (.inl v3), some (.inl (0 : Int32)), none] [] S) := rfl
set_option maxRecDepth 100000 in
set_option maxHeartbeats 4000000 in
theorem ze_X11_courseIsAsSeen_30 (ex : z_Ex) (n : Nat) (S : z_Mem) (i0 : Nat) (v1 : Int32) (v2 : Int32) (v3 : Int32) (v4 : Int32) : zr_X11_courseIsAsSeen ex (n + 1) 30 [some (.inr (.inr (11, i0))), some (.inl v1), some (.inl v2), some (.inl v3), some (.inl v4), none] [] S =
 if (S.1 8 0 3) ≤ v4 then (
  z_rV (ex 18 [.inr (.inr (3, 0))] S) (fun S3 =>
  let x4 : Int32 := (v3 + (1 : Int32))
  zr_X11_courseIsAsSeen ex n 22 [some (.inr (.inr (11, i0))), some (.inl v1), some (.inl v2), some (.inl x4), none, none] [] S3))
 else (
  cond (z_oob v4 (z_rl 0)) none (
  if (S.1 31 0 (Int32.toNatClampNeg v4)) = v1 then (
   cond (z_oob v4 (z_rl 0)) none (
   if (S.1 33 0 (Int32.toNatClampNeg v4)) = v3 then (
    if (1 : Int32) = 0 then (
     let x5 : Int32 := (v4 + (1 : Int32))
     zr_X11_courseIsAsSeen ex n 30 [some (.inr (.inr (11, i0))), some (.inl v1), some (.inl v2), some (.inl v3), some (.inl x5), none] [] S)
    else (
     cond (z_oob v4 (z_rl 0)) none (
     if (S.1 32 0 (Int32.toNatClampNeg v4)) = (S.1 2 18 3) then (
      let x6 : Int32 := (v4 + (1 : Int32))
      zr_X11_courseIsAsSeen ex n 30 [some (.inr (.inr (11, i0))), some (.inl v1), some (.inl v2), some (.inl v3), some (.inl x6), none] [] S)
     else (
      some (some (.inl (0 : Int32)), S)))))
   else (
    if (0 : Int32) = 0 then (
     let x7 : Int32 := (v4 + (1 : Int32))
     zr_X11_courseIsAsSeen ex n 30 [some (.inr (.inr (11, i0))), some (.inl v1), some (.inl v2), some (.inl v3), some (.inl x7), none] [] S)
    else (
     cond (z_oob v4 (z_rl 0)) none (
     if (S.1 32 0 (Int32.toNatClampNeg v4)) = (S.1 2 18 3) then (
      let x8 : Int32 := (v4 + (1 : Int32))
      zr_X11_courseIsAsSeen ex n 30 [some (.inr (.inr (11, i0))), some (.inl v1), some (.inl v2), some (.inl v3), some (.inl x8), none] [] S)
     else (
      some (some (.inl (0 : Int32)), S)))))))
  else (
   if (0 : Int32) = 0 then (
    let x9 : Int32 := (v4 + (1 : Int32))
    zr_X11_courseIsAsSeen ex n 30 [some (.inr (.inr (11, i0))), some (.inl v1), some (.inl v2), some (.inl v3), some (.inl x9), none] [] S)
   else (
    cond (z_oob v4 (z_rl 0)) none (
    if (S.1 32 0 (Int32.toNatClampNeg v4)) = (S.1 2 18 3) then (
     let x10 : Int32 := (v4 + (1 : Int32))
     zr_X11_courseIsAsSeen ex n 30 [some (.inr (.inr (11, i0))), some (.inl v1), some (.inl v2), some (.inl v3), some (.inl x10), none] [] S)
    else (
     some (some (.inl (0 : Int32)), S))))))) := rfl
abbrev zr_X11_allIsAsSeenWith (ex : z_Ex) (n pc : Nat) (ls : z_Lc) (st : List z_AV) (S : z_Mem) : Option (Option z_AV × z_Mem) := z_run true ex true zo_X11_allIsAsSeenWith zc_X11_allIsAsSeenWith n pc ls st S
set_option maxRecDepth 100000 in
set_option maxHeartbeats 4000000 in
theorem ze_X11_allIsAsSeenWith_0 (ex : z_Ex) (n : Nat) (S : z_Mem) (i0 : Nat) (v1 : Int32) (v2 : Int32) : zr_X11_allIsAsSeenWith ex (n + 1) 0 [some (.inr (.inr (11, i0))), some (.inl v1), some (.inl v2), none, none, none, none, none] [] S =
 cond (z_oob v1 6) none (
 let x1 : Int32 := (S.1 2 (6 * 0 + (Int32.toNatClampNeg v1)) 4)
 z_rI (ex 52 [.inr (.inr (7, 0)), .inl v2] S) (fun r3 S2 =>
 zr_X11_allIsAsSeenWith ex n 26 [some (.inr (.inr (11, i0))), some (.inl v1), some (.inl v2), some (.inl x1), some (.inl r3), some (.inl (0 : Int32)), none, none] [] S2)) := rfl
theorem zx_X11_allIsAsSeenWith (d : Nat) (S : z_Mem) (i0 : Nat) (v1 : Int32) (v2 : Int32) : z_exe z_mt true (d + 1) 120 [.inr (.inr (11, i0)), .inl v1, .inl v2] S = zr_X11_allIsAsSeenWith (z_exe z_mt true d) (999999 + 1) 0 [some (.inr (.inr (11, i0))), some (.inl v1), some (.inl v2), none, none, none, none, none] [] S := z_exe_eq (q := (yX11_allIsAsSeenWith, cX11_allIsAsSeenWith, 8, (some .boolean), true, zo_X11_allIsAsSeenWith, zc_X11_allIsAsSeenWith, 11, 3)) rfl rfl
set_option maxRecDepth 100000 in
set_option maxHeartbeats 4000000 in
theorem ze_X11_allIsAsSeenWith_26 (ex : z_Ex) (n : Nat) (S : z_Mem) (i0 : Nat) (v1 : Int32) (v2 : Int32) (v3 : Int32) (v4 : Int32) (v5 : Int32) : zr_X11_allIsAsSeenWith ex (n + 1) 26 [some (.inr (.inr (11, i0))), some (.inl v1), some (.inl v2), some (.inl v3), some (.inl v4), some (.inl v5), none, none] [] S =
 if (S.1 8 0 3) ≤ v5 then (
  some (some (.inl (1 : Int32)), S))
 else (
  cond (z_oob v5 (z_rl 0)) none (
  z_rI (ex 116 [.inr (.inr (11, i0)), .inl (S.1 31 0 (Int32.toNatClampNeg v5))] S) (fun r5 S4 =>
  if r5 = 0 then (
   cond (z_oob v5 (z_rl 0)) none (
   cond (z_oob (S4.1 31 0 (Int32.toNatClampNeg v5)) 6) none (
   let x6 : Int32 := (S4.1 2 (6 * 0 + (Int32.toNatClampNeg (S4.1 31 0 (Int32.toNatClampNeg v5)))) 4)
   if (S4.1 2 (6 * 0 + (Int32.toNatClampNeg (S4.1 31 0 (Int32.toNatClampNeg v5)))) 0) = v1 then (
    cond (z_oob v5 (z_rl 0)) none (
    z_rI (ex 19 [.inr (.inr (3, 0)), .inl (S4.1 33 0 (Int32.toNatClampNeg v5)), .inr (.inr (2, (6 * 0 + (Int32.toNatClampNeg (S4.1 31 0 (Int32.toNatClampNeg v5)))))), .inl v2, .inr (.inr (9, 0))] S4) (fun r8 S7 =>
    cond (z_oob v5 (z_rl 0)) none (
    if r8 = (S7.1 32 0 (Int32.toNatClampNeg v5)) then (
     let x9 : Int32 := (v5 + (1 : Int32))
     zr_X11_allIsAsSeenWith ex n 26 [some (.inr (.inr (11, i0))), some (.inl v1), some (.inl v2), some (.inl v3), some (.inl v4), some (.inl x9), none, none] [] S7)
    else (
     some (some (.inl (0 : Int32)), S7))))))
   else (
    if (S4.1 2 (6 * 0 + (Int32.toNatClampNeg (S4.1 31 0 (Int32.toNatClampNeg v5)))) 0) = v4 then (
     cond (z_oob v5 (z_rl 0)) none (
     z_rI (ex 19 [.inr (.inr (3, 0)), .inl (S4.1 33 0 (Int32.toNatClampNeg v5)), .inr (.inr (2, (6 * 0 + (Int32.toNatClampNeg (S4.1 31 0 (Int32.toNatClampNeg v5)))))), .inl v3, .inr (.inr (9, 0))] S4) (fun r11 S10 =>
     cond (z_oob v5 (z_rl 0)) none (
     if r11 = (S10.1 32 0 (Int32.toNatClampNeg v5)) then (
      let x12 : Int32 := (v5 + (1 : Int32))
      zr_X11_allIsAsSeenWith ex n 26 [some (.inr (.inr (11, i0))), some (.inl v1), some (.inl v2), some (.inl v3), some (.inl v4), some (.inl x12), none, none] [] S10)
     else (
      some (some (.inl (0 : Int32)), S10))))))
    else (
     cond (z_oob v5 (z_rl 0)) none (
     z_rI (ex 19 [.inr (.inr (3, 0)), .inl (S4.1 33 0 (Int32.toNatClampNeg v5)), .inr (.inr (2, (6 * 0 + (Int32.toNatClampNeg (S4.1 31 0 (Int32.toNatClampNeg v5)))))), .inl x6, .inr (.inr (9, 0))] S4) (fun r14 S13 =>
     cond (z_oob v5 (z_rl 0)) none (
     if r14 = (S13.1 32 0 (Int32.toNatClampNeg v5)) then (
      let x15 : Int32 := (v5 + (1 : Int32))
      zr_X11_allIsAsSeenWith ex n 26 [some (.inr (.inr (11, i0))), some (.inl v1), some (.inl v2), some (.inl v3), some (.inl v4), some (.inl x15), none, none] [] S13)
     else (
      some (some (.inl (0 : Int32)), S13))))))))))
  else (
   some (some (.inl (0 : Int32)), S4))))) := rfl
abbrev zr_X11_partOfFraction (ex : z_Ex) (n pc : Nat) (ls : z_Lc) (st : List z_AV) (S : z_Mem) : Option (Option z_AV × z_Mem) := z_run true ex false zo_X11_partOfFraction zc_X11_partOfFraction n pc ls st S
set_option maxRecDepth 100000 in
set_option maxHeartbeats 4000000 in
theorem ze_X11_partOfFraction_0 (ex : z_Ex) (n : Nat) (S : z_Mem) (v0 : Int32) (v1 : Int32) (v2 : Int32) : zr_X11_partOfFraction ex (n + 1) 0 [some (.inl v0), some (.inl v1), some (.inl v2), none] [] S =
 z_rI (ex 122 [.inl v0, .inl v1] S) (fun r2 S1 =>
 if 0 < r2 then (
  if v2 = 0 then (
   if r2 = 0 then none else
   some (some (.inr (.inl (Int32.toInt64 (v0 / r2)))), S1))
  else (
   if r2 = 0 then none else
   some (some (.inr (.inl (Int32.toInt64 (v1 / r2)))), S1)))
 else (
  some (some (.inr (.inl (Int64.ofNat 9223372036854775808))), S1))) := rfl
theorem zx_X11_partOfFraction (d : Nat) (S : z_Mem) (v0 : Int32) (v1 : Int32) (v2 : Int32) : z_exe z_mt true (d + 1) 121 [.inl v0, .inl v1, .inl v2] S = zr_X11_partOfFraction (z_exe z_mt true d) (999999 + 1) 0 [some (.inl v0), some (.inl v1), some (.inl v2), none] [] S := z_exe_eq (q := (yX11_partOfFraction, cX11_partOfFraction, 4, (some .long), false, zo_X11_partOfFraction, zc_X11_partOfFraction, 0, 3)) rfl rfl
abbrev zr_X11_commonDivisor (ex : z_Ex) (n pc : Nat) (ls : z_Lc) (st : List z_AV) (S : z_Mem) : Option (Option z_AV × z_Mem) := z_run true ex false zo_X11_commonDivisor zc_X11_commonDivisor n pc ls st S
set_option maxRecDepth 100000 in
set_option maxHeartbeats 4000000 in
theorem ze_X11_commonDivisor_0 (ex : z_Ex) (n : Nat) (S : z_Mem) (v0 : Int32) (v1 : Int32) : zr_X11_commonDivisor ex (n + 1) 0 [some (.inl v0), some (.inl v1), none, none, none, none] [] S =
 zr_X11_commonDivisor ex n 7 [none, none, some (.inl v1), some (.inl v0), some (.inl (0 : Int32)), none] [] S := rfl
theorem zx_X11_commonDivisor (d : Nat) (S : z_Mem) (v0 : Int32) (v1 : Int32) : z_exe z_mt true (d + 1) 122 [.inl v0, .inl v1] S = zr_X11_commonDivisor (z_exe z_mt true d) (999999 + 1) 0 [some (.inl v0), some (.inl v1), none, none, none, none] [] S := z_exe_eq (q := (yX11_commonDivisor, cX11_commonDivisor, 6, (some .int), false, zo_X11_commonDivisor, zc_X11_commonDivisor, 0, 2)) rfl rfl
set_option maxRecDepth 100000 in
set_option maxHeartbeats 4000000 in
theorem ze_X11_commonDivisor_7 (ex : z_Ex) (n : Nat) (S : z_Mem) (v2 : Int32) (v3 : Int32) (v4 : Int32) : zr_X11_commonDivisor ex (n + 1) 7 [none, none, some (.inl v2), some (.inl v3), some (.inl v4), none] [] S =
 if (64 : Int32) ≤ v4 then (
  some (some (.inl v2), S))
 else (
  if v3 ≤ 0 then (
   some (some (.inl v2), S))
  else (
   if v3 = 0 then none else
   let x1 : Int32 := (v2 - v2 / v3 * v3)
   let x2 : Int32 := (v4 + (1 : Int32))
   zr_X11_commonDivisor ex n 7 [none, none, some (.inl v3), some (.inl x1), some (.inl x2), none] [] S)) := rfl
