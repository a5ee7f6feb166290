set_option maxRecDepth 100000 in
set_option maxHeartbeats 4000000 in
theorem ze_law_18 (sL : Nat) (sX : Nat → Int32) (ex : z_Ex) (n : Nat) (S : z_Mem) (v3 : Int32) : z_lrun (some (sL, sX)) ex (n + 1) 18 [some (.inr (.inr (90, 0))), some (.inr (.inr (11, 0))), some (.inr (.inr (12, 0))), some (.inl v3)] [] S =
 if ((Int32.ofNat sL) - (6 : Int32)) < v3 then (
  some (some (.inl (1 : Int32)), S))
 else (
  cond (z_oob v3 sL) none (
  let x1 : Int32 := ((sX v3.toNatClampNeg) &&& (63 : Int32))
  if x1 = (0 : Int32) then (
   z_lrun (some (sL, sX)) ex n 204 [some (.inr (.inr (90, 0))), some (.inr (.inr (11, 0))), some (.inr (.inr (12, 0))), some (.inl v3)] [] S) else
  if x1 = (1 : Int32) then (
   z_lrun (some (sL, sX)) ex n 247 [some (.inr (.inr (90, 0))), some (.inr (.inr (11, 0))), some (.inr (.inr (12, 0))), some (.inl v3)] [] S) else
  if x1 = (2 : Int32) then (
   z_lrun (some (sL, sX)) ex n 280 [some (.inr (.inr (90, 0))), some (.inr (.inr (11, 0))), some (.inr (.inr (12, 0))), some (.inl v3)] [] S) else
  if x1 = (3 : Int32) then (
   z_lrun (some (sL, sX)) ex n 313 [some (.inr (.inr (90, 0))), some (.inr (.inr (11, 0))), some (.inr (.inr (12, 0))), some (.inl v3)] [] S) else
  if x1 = (4 : Int32) then (
   z_lrun (some (sL, sX)) ex n 346 [some (.inr (.inr (90, 0))), some (.inr (.inr (11, 0))), some (.inr (.inr (12, 0))), some (.inl v3)] [] S) else
  if x1 = (5 : Int32) then (
   z_lrun (some (sL, sX)) ex n 395 [some (.inr (.inr (90, 0))), some (.inr (.inr (11, 0))), some (.inr (.inr (12, 0))), some (.inl v3)] [] S) else
  if x1 = (6 : Int32) then (
   z_lrun (some (sL, sX)) ex n 408 [some (.inr (.inr (90, 0))), some (.inr (.inr (11, 0))), some (.inr (.inr (12, 0))), some (.inl v3)] [] S) else
  if x1 = (7 : Int32) then (
   z_lrun (some (sL, sX)) ex n 441 [some (.inr (.inr (90, 0))), some (.inr (.inr (11, 0))), some (.inr (.inr (12, 0))), some (.inl v3)] [] S) else
  if x1 = (8 : Int32) then (
   z_lrun (some (sL, sX)) ex n 484 [some (.inr (.inr (90, 0))), some (.inr (.inr (11, 0))), some (.inr (.inr (12, 0))), some (.inl v3)] [] S) else
  if x1 = (9 : Int32) then (
   z_lrun (some (sL, sX)) ex n 507 [some (.inr (.inr (90, 0))), some (.inr (.inr (11, 0))), some (.inr (.inr (12, 0))), some (.inl v3)] [] S) else
  if x1 = (10 : Int32) then (
   z_lrun (some (sL, sX)) ex n 520 [some (.inr (.inr (90, 0))), some (.inr (.inr (11, 0))), some (.inr (.inr (12, 0))), some (.inl v3)] [] S) else
  if x1 = (11 : Int32) then (
   z_lrun (some (sL, sX)) ex n 543 [some (.inr (.inr (90, 0))), some (.inr (.inr (11, 0))), some (.inr (.inr (12, 0))), some (.inl v3)] [] S) else
  if x1 = (12 : Int32) then (
   z_lrun (some (sL, sX)) ex n 566 [some (.inr (.inr (90, 0))), some (.inr (.inr (11, 0))), some (.inr (.inr (12, 0))), some (.inl v3)] [] S) else
  if x1 = (13 : Int32) then (
   z_lrun (some (sL, sX)) ex n 599 [some (.inr (.inr (90, 0))), some (.inr (.inr (11, 0))), some (.inr (.inr (12, 0))), some (.inl v3)] [] S) else
  if x1 = (14 : Int32) then (
   z_lrun (some (sL, sX)) ex n 622 [some (.inr (.inr (90, 0))), some (.inr (.inr (11, 0))), some (.inr (.inr (12, 0))), some (.inl v3)] [] S) else
  if x1 = (15 : Int32) then (
   z_lrun (some (sL, sX)) ex n 645 [some (.inr (.inr (90, 0))), some (.inr (.inr (11, 0))), some (.inr (.inr (12, 0))), some (.inl v3)] [] S) else
  if x1 = (16 : Int32) then (
   z_lrun (some (sL, sX)) ex n 678 [some (.inr (.inr (90, 0))), some (.inr (.inr (11, 0))), some (.inr (.inr (12, 0))), some (.inl v3)] [] S) else
  if x1 = (17 : Int32) then (
   z_lrun (some (sL, sX)) ex n 691 [some (.inr (.inr (90, 0))), some (.inr (.inr (11, 0))), some (.inr (.inr (12, 0))), some (.inl v3)] [] S) else
  if x1 = (18 : Int32) then (
   z_lrun (some (sL, sX)) ex n 724 [some (.inr (.inr (90, 0))), some (.inr (.inr (11, 0))), some (.inr (.inr (12, 0))), some (.inl v3)] [] S) else
  if x1 = (19 : Int32) then (
   z_lrun (some (sL, sX)) ex n 767 [some (.inr (.inr (90, 0))), some (.inr (.inr (11, 0))), some (.inr (.inr (12, 0))), some (.inl v3)] [] S) else
  if x1 = (20 : Int32) then (
   z_lrun (some (sL, sX)) ex n 800 [some (.inr (.inr (90, 0))), some (.inr (.inr (11, 0))), some (.inr (.inr (12, 0))), some (.inl v3)] [] S) else
  if x1 = (21 : Int32) then (
   z_lrun (some (sL, sX)) ex n 833 [some (.inr (.inr (90, 0))), some (.inr (.inr (11, 0))), some (.inr (.inr (12, 0))), some (.inl v3)] [] S) else
  if x1 = (22 : Int32) then (
   z_lrun (some (sL, sX)) ex n 856 [some (.inr (.inr (90, 0))), some (.inr (.inr (11, 0))), some (.inr (.inr (12, 0))), some (.inl v3)] [] S) else
  if x1 = (23 : Int32) then (
   z_lrun (some (sL, sX)) ex n 900 [some (.inr (.inr (90, 0))), some (.inr (.inr (11, 0))), some (.inr (.inr (12, 0))), some (.inl v3)] [] S) else
  if x1 = (24 : Int32) then (
   z_lrun (some (sL, sX)) ex n 934 [some (.inr (.inr (90, 0))), some (.inr (.inr (11, 0))), some (.inr (.inr (12, 0))), some (.inl v3)] [] S) else
  if x1 = (25 : Int32) then (
   z_lrun (some (sL, sX)) ex n 967 [some (.inr (.inr (90, 0))), some (.inr (.inr (11, 0))), some (.inr (.inr (12, 0))), some (.inl v3)] [] S) else
  if x1 = (26 : Int32) then (
   z_lrun (some (sL, sX)) ex n 990 [some (.inr (.inr (90, 0))), some (.inr (.inr (11, 0))), some (.inr (.inr (12, 0))), some (.inl v3)] [] S) else
  if x1 = (27 : Int32) then (
   z_lrun (some (sL, sX)) ex n 1023 [some (.inr (.inr (90, 0))), some (.inr (.inr (11, 0))), some (.inr (.inr (12, 0))), some (.inl v3)] [] S) else
  if x1 = (28 : Int32) then (
   z_lrun (some (sL, sX)) ex n 1036 [some (.inr (.inr (90, 0))), some (.inr (.inr (11, 0))), some (.inr (.inr (12, 0))), some (.inl v3)] [] S) else
  if x1 = (29 : Int32) then (
   z_lrun (some (sL, sX)) ex n 1069 [some (.inr (.inr (90, 0))), some (.inr (.inr (11, 0))), some (.inr (.inr (12, 0))), some (.inl v3)] [] S) else
  if x1 = (30 : Int32) then (
   z_lrun (some (sL, sX)) ex n 1082 [some (.inr (.inr (90, 0))), some (.inr (.inr (11, 0))), some (.inr (.inr (12, 0))), some (.inl v3)] [] S) else
  if x1 = (31 : Int32) then (
   z_lrun (some (sL, sX)) ex n 1095 [some (.inr (.inr (90, 0))), some (.inr (.inr (11, 0))), some (.inr (.inr (12, 0))), some (.inl v3)] [] S) else
  if x1 = (32 : Int32) then (
   z_lrun (some (sL, sX)) ex n 1138 [some (.inr (.inr (90, 0))), some (.inr (.inr (11, 0))), some (.inr (.inr (12, 0))), some (.inl v3)] [] S) else
  if x1 = (33 : Int32) then (
   z_lrun (some (sL, sX)) ex n 1161 [some (.inr (.inr (90, 0))), some (.inr (.inr (11, 0))), some (.inr (.inr (12, 0))), some (.inl v3)] [] S) else
  if x1 = (34 : Int32) then (
   z_lrun (some (sL, sX)) ex n 1194 [some (.inr (.inr (90, 0))), some (.inr (.inr (11, 0))), some (.inr (.inr (12, 0))), some (.inl v3)] [] S) else
  if x1 = (35 : Int32) then (
   z_lrun (some (sL, sX)) ex n 1217 [some (.inr (.inr (90, 0))), some (.inr (.inr (11, 0))), some (.inr (.inr (12, 0))), some (.inl v3)] [] S) else
  if x1 = (36 : Int32) then (
   z_lrun (some (sL, sX)) ex n 1260 [some (.inr (.inr (90, 0))), some (.inr (.inr (11, 0))), some (.inr (.inr (12, 0))), some (.inl v3)] [] S) else
  if x1 = (37 : Int32) then (
   z_lrun (some (sL, sX)) ex n 1333 [some (.inr (.inr (90, 0))), some (.inr (.inr (11, 0))), some (.inr (.inr (12, 0))), some (.inl v3)] [] S) else
  if x1 = (38 : Int32) then (
   z_lrun (some (sL, sX)) ex n 1367 [some (.inr (.inr (90, 0))), some (.inr (.inr (11, 0))), some (.inr (.inr (12, 0))), some (.inl v3)] [] S) else
  z_lrun (some (sL, sX)) ex n 1430 [some (.inr (.inr (90, 0))), some (.inr (.inr (11, 0))), some (.inr (.inr (12, 0))), some (.inl v3)] [] S)) := rfl
set_option maxRecDepth 100000 in
set_option maxHeartbeats 4000000 in
theorem ze_law_204 (sL : Nat) (sX : Nat → Int32) (ex : z_Ex) (n : Nat) (S : z_Mem) (v3 : Int32) : z_lrun (some (sL, sX)) ex (n + 1) 204 [some (.inr (.inr (90, 0))), some (.inr (.inr (11, 0))), some (.inr (.inr (12, 0))), some (.inl v3)] [] S =
 cond (z_oob (v3 + (1 : Int32)) sL) none (
 cond (z_oob (v3 + (2 : Int32)) sL) none (
 cond (z_oob (v3 + (3 : Int32)) sL) none (
 z_rI (ex 76 [.inr (.inr (11, 0)), .inl (sX (v3 + (1 : Int32)).toNatClampNeg), .inl (sX (v3 + (2 : Int32)).toNatClampNeg), .inl (sX (v3 + (3 : Int32)).toNatClampNeg)] S) (fun r3 S2 =>
 cond (z_oob (v3 + (1 : Int32)) sL) none (
 cond (z_oob (v3 + (2 : Int32)) sL) none (
 cond (z_oob (v3 + (3 : Int32)) sL) none (
 z_rI (ex 134 [.inr (.inr (12, 0)), .inl (sX (v3 + (1 : Int32)).toNatClampNeg), .inl (sX (v3 + (2 : Int32)).toNatClampNeg), .inl (sX (v3 + (3 : Int32)).toNatClampNeg)] S2) (fun r5 S4 =>
 if r3 = r5 then (
  z_lrun (some (sL, sX)) ex n 1430 [some (.inr (.inr (90, 0))), some (.inr (.inr (11, 0))), some (.inr (.inr (12, 0))), some (.inl v3)] [] S4)
 else (
  some (some (.inl (0 : Int32)), S4)))))))))) := rfl
set_option maxRecDepth 100000 in
set_option maxHeartbeats 4000000 in
theorem ze_law_247 (sL : Nat) (sX : Nat → Int32) (ex : z_Ex) (n : Nat) (S : z_Mem) (v3 : Int32) : z_lrun (some (sL, sX)) ex (n + 1) 247 [some (.inr (.inr (90, 0))), some (.inr (.inr (11, 0))), some (.inr (.inr (12, 0))), some (.inl v3)] [] S =
 cond (z_oob (v3 + (1 : Int32)) sL) none (
 cond (z_oob (v3 + (2 : Int32)) sL) none (
 z_rI (ex 77 [.inr (.inr (11, 0)), .inl (sX (v3 + (1 : Int32)).toNatClampNeg), .inl (sX (v3 + (2 : Int32)).toNatClampNeg)] S) (fun r7 S6 =>
 cond (z_oob (v3 + (1 : Int32)) sL) none (
 cond (z_oob (v3 + (2 : Int32)) sL) none (
 z_rI (ex 169 [.inr (.inr (12, 0)), .inl (sX (v3 + (1 : Int32)).toNatClampNeg), .inl (sX (v3 + (2 : Int32)).toNatClampNeg)] S6) (fun r9 S8 =>
 if r7 = r9 then (
  z_lrun (some (sL, sX)) ex n 1430 [some (.inr (.inr (90, 0))), some (.inr (.inr (11, 0))), some (.inr (.inr (12, 0))), some (.inl v3)] [] S8)
 else (
  some (some (.inl (0 : Int32)), S8)))))))) := rfl
set_option maxRecDepth 100000 in
set_option maxHeartbeats 4000000 in
theorem ze_law_280 (sL : Nat) (sX : Nat → Int32) (ex : z_Ex) (n : Nat) (S : z_Mem) (v3 : Int32) : z_lrun (some (sL, sX)) ex (n + 1) 280 [some (.inr (.inr (90, 0))), some (.inr (.inr (11, 0))), some (.inr (.inr (12, 0))), some (.inl v3)] [] S =
 cond (z_oob (v3 + (1 : Int32)) sL) none (
 cond (z_oob (v3 + (2 : Int32)) sL) none (
 z_rI (ex 78 [.inr (.inr (11, 0)), .inl (sX (v3 + (1 : Int32)).toNatClampNeg), .inl (sX (v3 + (2 : Int32)).toNatClampNeg)] S) (fun r11 S10 =>
 cond (z_oob (v3 + (1 : Int32)) sL) none (
 cond (z_oob (v3 + (2 : Int32)) sL) none (
 z_rI (ex 135 [.inr (.inr (12, 0)), .inl (sX (v3 + (1 : Int32)).toNatClampNeg), .inl (sX (v3 + (2 : Int32)).toNatClampNeg)] S10) (fun r13 S12 =>
 if r11 = r13 then (
  z_lrun (some (sL, sX)) ex n 1430 [some (.inr (.inr (90, 0))), some (.inr (.inr (11, 0))), some (.inr (.inr (12, 0))), some (.inl v3)] [] S12)
 else (
  some (some (.inl (0 : Int32)), S12)))))))) := rfl
set_option maxRecDepth 100000 in
set_option maxHeartbeats 4000000 in
theorem ze_law_313 (sL : Nat) (sX : Nat → Int32) (ex : z_Ex) (n : Nat) (S : z_Mem) (v3 : Int32) : z_lrun (some (sL, sX)) ex (n + 1) 313 [some (.inr (.inr (90, 0))), some (.inr (.inr (11, 0))), some (.inr (.inr (12, 0))), some (.inl v3)] [] S =
 cond (z_oob (v3 + (1 : Int32)) sL) none (
 cond (z_oob (v3 + (2 : Int32)) sL) none (
 z_rI (ex 79 [.inr (.inr (11, 0)), .inl (sX (v3 + (1 : Int32)).toNatClampNeg), .inl (sX (v3 + (2 : Int32)).toNatClampNeg)] S) (fun r15 S14 =>
 cond (z_oob (v3 + (1 : Int32)) sL) none (
 cond (z_oob (v3 + (2 : Int32)) sL) none (
 z_rI (ex 137 [.inr (.inr (12, 0)), .inl (sX (v3 + (1 : Int32)).toNatClampNeg), .inl (sX (v3 + (2 : Int32)).toNatClampNeg)] S14) (fun r17 S16 =>
 if r15 = r17 then (
  z_lrun (some (sL, sX)) ex n 1430 [some (.inr (.inr (90, 0))), some (.inr (.inr (11, 0))), some (.inr (.inr (12, 0))), some (.inl v3)] [] S16)
 else (
  some (some (.inl (0 : Int32)), S16)))))))) := rfl
set_option maxRecDepth 100000 in
set_option maxHeartbeats 4000000 in
theorem ze_law_346 (sL : Nat) (sX : Nat → Int32) (ex : z_Ex) (n : Nat) (S : z_Mem) (v3 : Int32) : z_lrun (some (sL, sX)) ex (n + 1) 346 [some (.inr (.inr (90, 0))), some (.inr (.inr (11, 0))), some (.inr (.inr (12, 0))), some (.inl v3)] [] S =
 cond (z_oob (v3 + (1 : Int32)) sL) none (
 cond (z_oob (v3 + (2 : Int32)) sL) none (
 if (sX (v3 + (2 : Int32)).toNatClampNeg) = 0 then (
  z_rI (ex 80 [.inr (.inr (11, 0)), .inl (sX (v3 + (1 : Int32)).toNatClampNeg), .inl (0 : Int32)] S) (fun r19 S18 =>
  cond (z_oob (v3 + (1 : Int32)) sL) none (
  cond (z_oob (v3 + (2 : Int32)) sL) none (
  if (sX (v3 + (2 : Int32)).toNatClampNeg) = 0 then (
   z_rI (ex 139 [.inr (.inr (12, 0)), .inl (sX (v3 + (1 : Int32)).toNatClampNeg), .inl (0 : Int32)] S18) (fun r21 S20 =>
   if r19 = r21 then (
    z_lrun (some (sL, sX)) ex n 1430 [some (.inr (.inr (90, 0))), some (.inr (.inr (11, 0))), some (.inr (.inr (12, 0))), some (.inl v3)] [] S20)
   else (
    some (some (.inl (0 : Int32)), S20))))
  else (
   z_rI (ex 139 [.inr (.inr (12, 0)), .inl (sX (v3 + (1 : Int32)).toNatClampNeg), .inl (1 : Int32)] S18) (fun r23 S22 =>
   if r19 = r23 then (
    z_lrun (some (sL, sX)) ex n 1430 [some (.inr (.inr (90, 0))), some (.inr (.inr (11, 0))), some (.inr (.inr (12, 0))), some (.inl v3)] [] S22)
   else (
    some (some (.inl (0 : Int32)), S22))))))))
 else (
  z_rI (ex 80 [.inr (.inr (11, 0)), .inl (sX (v3 + (1 : Int32)).toNatClampNeg), .inl (1 : Int32)] S) (fun r25 S24 =>
  cond (z_oob (v3 + (1 : Int32)) sL) none (
  cond (z_oob (v3 + (2 : Int32)) sL) none (
  if (sX (v3 + (2 : Int32)).toNatClampNeg) = 0 then (
   z_rI (ex 139 [.inr (.inr (12, 0)), .inl (sX (v3 + (1 : Int32)).toNatClampNeg), .inl (0 : Int32)] S24) (fun r27 S26 =>
   if r25 = r27 then (
    z_lrun (some (sL, sX)) ex n 1430 [some (.inr (.inr (90, 0))), some (.inr (.inr (11, 0))), some (.inr (.inr (12, 0))), some (.inl v3)] [] S26)
   else (
    some (some (.inl (0 : Int32)), S26))))
  else (
   z_rI (ex 139 [.inr (.inr (12, 0)), .inl (sX (v3 + (1 : Int32)).toNatClampNeg), .inl (1 : Int32)] S24) (fun r29 S28 =>
   if r25 = r29 then (
    z_lrun (some (sL, sX)) ex n 1430 [some (.inr (.inr (90, 0))), some (.inr (.inr (11, 0))), some (.inr (.inr (12, 0))), some (.inl v3)] [] S28)
   else (
    some (some (.inl (0 : Int32)), S28)))))))))) := rfl
set_option maxRecDepth 100000 in
set_option maxHeartbeats 4000000 in
theorem ze_law_395 (sL : Nat) (sX : Nat → Int32) (ex : z_Ex) (n : Nat) (S : z_Mem) (v3 : Int32) : z_lrun (some (sL, sX)) ex (n + 1) 395 [some (.inr (.inr (90, 0))), some (.inr (.inr (11, 0))), some (.inr (.inr (12, 0))), some (.inl v3)] [] S =
 z_rI (ex 81 [.inr (.inr (11, 0))] S) (fun r31 S30 =>
 z_rI (ex 178 [.inr (.inr (12, 0))] S30) (fun r33 S32 =>
 if r31 = r33 then (
  z_lrun (some (sL, sX)) ex n 1430 [some (.inr (.inr (90, 0))), some (.inr (.inr (11, 0))), some (.inr (.inr (12, 0))), some (.inl v3)] [] S32)
 else (
  some (some (.inl (0 : Int32)), S32)))) := rfl
set_option maxRecDepth 100000 in
set_option maxHeartbeats 4000000 in
theorem ze_law_408 (sL : Nat) (sX : Nat → Int32) (ex : z_Ex) (n : Nat) (S : z_Mem) (v3 : Int32) : z_lrun (some (sL, sX)) ex (n + 1) 408 [some (.inr (.inr (90, 0))), some (.inr (.inr (11, 0))), some (.inr (.inr (12, 0))), some (.inl v3)] [] S =
 cond (z_oob (v3 + (1 : Int32)) sL) none (
 cond (z_oob (v3 + (2 : Int32)) sL) none (
 z_rI (ex 82 [.inr (.inr (11, 0)), .inl (sX (v3 + (1 : Int32)).toNatClampNeg), .inl (sX (v3 + (2 : Int32)).toNatClampNeg)] S) (fun r35 S34 =>
 cond (z_oob (v3 + (1 : Int32)) sL) none (
 cond (z_oob (v3 + (2 : Int32)) sL) none (
 z_rI (ex 140 [.inr (.inr (12, 0)), .inl (sX (v3 + (1 : Int32)).toNatClampNeg), .inl (sX (v3 + (2 : Int32)).toNatClampNeg)] S34) (fun r37 S36 =>
 if r35 = r37 then (
  z_lrun (some (sL, sX)) ex n 1430 [some (.inr (.inr (90, 0))), some (.inr (.inr (11, 0))), some (.inr (.inr (12, 0))), some (.inl v3)] [] S36)
 else (
  some (some (.inl (0 : Int32)), S36)))))))) := rfl
set_option maxRecDepth 100000 in
set_option maxHeartbeats 4000000 in
theorem ze_law_441 (sL : Nat) (sX : Nat → Int32) (ex : z_Ex) (n : Nat) (S : z_Mem) (v3 : Int32) : z_lrun (some (sL, sX)) ex (n + 1) 441 [some (.inr (.inr (90, 0))), some (.inr (.inr (11, 0))), some (.inr (.inr (12, 0))), some (.inl v3)] [] S =
 cond (z_oob (v3 + (1 : Int32)) sL) none (
 cond (z_oob (v3 + (2 : Int32)) sL) none (
 cond (z_oob (v3 + (3 : Int32)) sL) none (
 z_rI (ex 83 [.inr (.inr (11, 0)), .inl (sX (v3 + (1 : Int32)).toNatClampNeg), .inl (sX (v3 + (2 : Int32)).toNatClampNeg), .inl (sX (v3 + (3 : Int32)).toNatClampNeg)] S) (fun r39 S38 =>
 cond (z_oob (v3 + (1 : Int32)) sL) none (
 cond (z_oob (v3 + (2 : Int32)) sL) none (
 cond (z_oob (v3 + (3 : Int32)) sL) none (
 z_rI (ex 141 [.inr (.inr (12, 0)), .inl (sX (v3 + (1 : Int32)).toNatClampNeg), .inl (sX (v3 + (2 : Int32)).toNatClampNeg), .inl (sX (v3 + (3 : Int32)).toNatClampNeg)] S38) (fun r41 S40 =>
 if r39 = r41 then (
  z_lrun (some (sL, sX)) ex n 1430 [some (.inr (.inr (90, 0))), some (.inr (.inr (11, 0))), some (.inr (.inr (12, 0))), some (.inl v3)] [] S40)
 else (
  some (some (.inl (0 : Int32)), S40)))))))))) := rfl
set_option maxRecDepth 100000 in
set_option maxHeartbeats 4000000 in
theorem ze_law_484 (sL : Nat) (sX : Nat → Int32) (ex : z_Ex) (n : Nat) (S : z_Mem) (v3 : Int32) : z_lrun (some (sL, sX)) ex (n + 1) 484 [some (.inr (.inr (90, 0))), some (.inr (.inr (11, 0))), some (.inr (.inr (12, 0))), some (.inl v3)] [] S =
 cond (z_oob (v3 + (1 : Int32)) sL) none (
 z_rI (ex 84 [.inr (.inr (11, 0)), .inl (sX (v3 + (1 : Int32)).toNatClampNeg)] S) (fun r43 S42 =>
 cond (z_oob (v3 + (1 : Int32)) sL) none (
 z_rI (ex 142 [.inr (.inr (12, 0)), .inl (sX (v3 + (1 : Int32)).toNatClampNeg)] S42) (fun r45 S44 =>
 if r43 = r45 then (
  z_lrun (some (sL, sX)) ex n 1430 [some (.inr (.inr (90, 0))), some (.inr (.inr (11, 0))), some (.inr (.inr (12, 0))), some (.inl v3)] [] S44)
 else (
  some (some (.inl (0 : Int32)), S44)))))) := rfl
set_option maxRecDepth 100000 in
set_option maxHeartbeats 4000000 in
theorem ze_law_507 (sL : Nat) (sX : Nat → Int32) (ex : z_Ex) (n : Nat) (S : z_Mem) (v3 : Int32) : z_lrun (some (sL, sX)) ex (n + 1) 507 [some (.inr (.inr (90, 0))), some (.inr (.inr (11, 0))), some (.inr (.inr (12, 0))), some (.inl v3)] [] S =
 z_rI (ex 85 [.inr (.inr (11, 0))] S) (fun r47 S46 =>
 z_rI (ex 158 [.inr (.inr (12, 0))] S46) (fun r49 S48 =>
 if r47 = r49 then (
  z_lrun (some (sL, sX)) ex n 1430 [some (.inr (.inr (90, 0))), some (.inr (.inr (11, 0))), some (.inr (.inr (12, 0))), some (.inl v3)] [] S48)
 else (
  some (some (.inl (0 : Int32)), S48)))) := rfl
set_option maxRecDepth 100000 in
set_option maxHeartbeats 4000000 in
theorem ze_law_520 (sL : Nat) (sX : Nat → Int32) (ex : z_Ex) (n : Nat) (S : z_Mem) (v3 : Int32) : z_lrun (some (sL, sX)) ex (n + 1) 520 [some (.inr (.inr (90, 0))), some (.inr (.inr (11, 0))), some (.inr (.inr (12, 0))), some (.inl v3)] [] S =
 cond (z_oob (v3 + (1 : Int32)) sL) none (
 z_rI (ex 86 [.inr (.inr (11, 0)), .inl (sX (v3 + (1 : Int32)).toNatClampNeg)] S) (fun r51 S50 =>
 cond (z_oob (v3 + (1 : Int32)) sL) none (
 z_rI (ex 174 [.inr (.inr (12, 0)), .inl (sX (v3 + (1 : Int32)).toNatClampNeg)] S50) (fun r53 S52 =>
 if r51 = r53 then (
  z_lrun (some (sL, sX)) ex n 1430 [some (.inr (.inr (90, 0))), some (.inr (.inr (11, 0))), some (.inr (.inr (12, 0))), some (.inl v3)] [] S52)
 else (
  some (some (.inl (0 : Int32)), S52)))))) := rfl
set_option maxRecDepth 100000 in
set_option maxHeartbeats 4000000 in
theorem ze_law_543 (sL : Nat) (sX : Nat → Int32) (ex : z_Ex) (n : Nat) (S : z_Mem) (v3 : Int32) : z_lrun (some (sL, sX)) ex (n + 1) 543 [some (.inr (.inr (90, 0))), some (.inr (.inr (11, 0))), some (.inr (.inr (12, 0))), some (.inl v3)] [] S =
 cond (z_oob (v3 + (1 : Int32)) sL) none (
 z_rI (ex 87 [.inr (.inr (11, 0)), .inl (sX (v3 + (1 : Int32)).toNatClampNeg)] S) (fun r55 S54 =>
 cond (z_oob (v3 + (1 : Int32)) sL) none (
 z_rI (ex 179 [.inr (.inr (12, 0)), .inl (sX (v3 + (1 : Int32)).toNatClampNeg)] S54) (fun r57 S56 =>
 if r55 = r57 then (
  z_lrun (some (sL, sX)) ex n 1430 [some (.inr (.inr (90, 0))), some (.inr (.inr (11, 0))), some (.inr (.inr (12, 0))), some (.inl v3)] [] S56)
 else (
  some (some (.inl (0 : Int32)), S56)))))) := rfl
set_option maxRecDepth 100000 in
set_option maxHeartbeats 4000000 in
theorem ze_law_566 (sL : Nat) (sX : Nat → Int32) (ex : z_Ex) (n : Nat) (S : z_Mem) (v3 : Int32) : z_lrun (some (sL, sX)) ex (n + 1) 566 [some (.inr (.inr (90, 0))), some (.inr (.inr (11, 0))), some (.inr (.inr (12, 0))), some (.inl v3)] [] S =
 cond (z_oob (v3 + (1 : Int32)) sL) none (
 cond (z_oob (v3 + (2 : Int32)) sL) none (
 z_rI (ex 88 [.inr (.inr (11, 0)), .inl (sX (v3 + (1 : Int32)).toNatClampNeg), .inl (sX (v3 + (2 : Int32)).toNatClampNeg)] S) (fun r59 S58 =>
 cond (z_oob (v3 + (1 : Int32)) sL) none (
 cond (z_oob (v3 + (2 : Int32)) sL) none (
 z_rI (ex 182 [.inr (.inr (12, 0)), .inl (sX (v3 + (1 : Int32)).toNatClampNeg), .inl (sX (v3 + (2 : Int32)).toNatClampNeg)] S58) (fun r61 S60 =>
 if r59 = r61 then (
  z_lrun (some (sL, sX)) ex n 1430 [some (.inr (.inr (90, 0))), some (.inr (.inr (11, 0))), some (.inr (.inr (12, 0))), some (.inl v3)] [] S60)
 else (
  some (some (.inl (0 : Int32)), S60)))))))) := rfl
set_option maxRecDepth 100000 in
set_option maxHeartbeats 4000000 in
theorem ze_law_599 (sL : Nat) (sX : Nat → Int32) (ex : z_Ex) (n : Nat) (S : z_Mem) (v3 : Int32) : z_lrun (some (sL, sX)) ex (n + 1) 599 [some (.inr (.inr (90, 0))), some (.inr (.inr (11, 0))), some (.inr (.inr (12, 0))), some (.inl v3)] [] S =
 cond (z_oob (v3 + (1 : Int32)) sL) none (
 z_rI (ex 89 [.inr (.inr (11, 0)), .inl (sX (v3 + (1 : Int32)).toNatClampNeg)] S) (fun r63 S62 =>
 cond (z_oob (v3 + (1 : Int32)) sL) none (
 z_rI (ex 183 [.inr (.inr (12, 0)), .inl (sX (v3 + (1 : Int32)).toNatClampNeg)] S62) (fun r65 S64 =>
 if r63 = r65 then (
  z_lrun (some (sL, sX)) ex n 1430 [some (.inr (.inr (90, 0))), some (.inr (.inr (11, 0))), some (.inr (.inr (12, 0))), some (.inl v3)] [] S64)
 else (
  some (some (.inl (0 : Int32)), S64)))))) := rfl
set_option maxRecDepth 100000 in
set_option maxHeartbeats 4000000 in
theorem ze_law_622 (sL : Nat) (sX : Nat → Int32) (ex : z_Ex) (n : Nat) (S : z_Mem) (v3 : Int32) : z_lrun (some (sL, sX)) ex (n + 1) 622 [some (.inr (.inr (90, 0))), some (.inr (.inr (11, 0))), some (.inr (.inr (12, 0))), some (.inl v3)] [] S =
 cond (z_oob (v3 + (1 : Int32)) sL) none (
 z_rI (ex 90 [.inr (.inr (11, 0)), .inl (sX (v3 + (1 : Int32)).toNatClampNeg)] S) (fun r67 S66 =>
 cond (z_oob (v3 + (1 : Int32)) sL) none (
 z_rI (ex 184 [.inr (.inr (12, 0)), .inl (sX (v3 + (1 : Int32)).toNatClampNeg)] S66) (fun r69 S68 =>
 if r67 = r69 then (
  z_lrun (some (sL, sX)) ex n 1430 [some (.inr (.inr (90, 0))), some (.inr (.inr (11, 0))), some (.inr (.inr (12, 0))), some (.inl v3)] [] S68)
 else (
  some (some (.inl (0 : Int32)), S68)))))) := rfl
set_option maxRecDepth 100000 in
set_option maxHeartbeats 4000000 in
theorem ze_law_645 (sL : Nat) (sX : Nat → Int32) (ex : z_Ex) (n : Nat) (S : z_Mem) (v3 : Int32) : z_lrun (some (sL, sX)) ex (n + 1) 645 [some (.inr (.inr (90, 0))), some (.inr (.inr (11, 0))), some (.inr (.inr (12, 0))), some (.inl v3)] [] S =
 cond (z_oob (v3 + (1 : Int32)) sL) none (
 cond (z_oob (v3 + (2 : Int32)) sL) none (
 z_rI (ex 91 [.inr (.inr (11, 0)), .inl (sX (v3 + (1 : Int32)).toNatClampNeg), .inl (sX (v3 + (2 : Int32)).toNatClampNeg)] S) (fun r71 S70 =>
 cond (z_oob (v3 + (1 : Int32)) sL) none (
 cond (z_oob (v3 + (2 : Int32)) sL) none (
 z_rI (ex 188 [.inr (.inr (12, 0)), .inl (sX (v3 + (1 : Int32)).toNatClampNeg), .inl (sX (v3 + (2 : Int32)).toNatClampNeg)] S70) (fun r73 S72 =>
 if r71 = r73 then (
  z_lrun (some (sL, sX)) ex n 1430 [some (.inr (.inr (90, 0))), some (.inr (.inr (11, 0))), some (.inr (.inr (12, 0))), some (.inl v3)] [] S72)
 else (
  some (some (.inl (0 : Int32)), S72)))))))) := rfl
set_option maxRecDepth 100000 in
set_option maxHeartbeats 4000000 in
theorem ze_law_678 (sL : Nat) (sX : Nat → Int32) (ex : z_Ex) (n : Nat) (S : z_Mem) (v3 : Int32) : z_lrun (some (sL, sX)) ex (n + 1) 678 [some (.inr (.inr (90, 0))), some (.inr (.inr (11, 0))), some (.inr (.inr (12, 0))), some (.inl v3)] [] S =
 z_rI (ex 92 [.inr (.inr (11, 0))] S) (fun r75 S74 =>
 z_rI (ex 190 [.inr (.inr (12, 0))] S74) (fun r77 S76 =>
 if r75 = r77 then (
  z_lrun (some (sL, sX)) ex n 1430 [some (.inr (.inr (90, 0))), some (.inr (.inr (11, 0))), some (.inr (.inr (12, 0))), some (.inl v3)] [] S76)
 else (
  some (some (.inl (0 : Int32)), S76)))) := rfl
set_option maxRecDepth 100000 in
set_option maxHeartbeats 4000000 in
theorem ze_law_691 (sL : Nat) (sX : Nat → Int32) (ex : z_Ex) (n : Nat) (S : z_Mem) (v3 : Int32) : z_lrun (some (sL, sX)) ex (n + 1) 691 [some (.inr (.inr (90, 0))), some (.inr (.inr (11, 0))), some (.inr (.inr (12, 0))), some (.inl v3)] [] S =
 cond (z_oob (v3 + (1 : Int32)) sL) none (
 cond (z_oob (v3 + (2 : Int32)) sL) none (
 z_rI (ex 93 [.inr (.inr (11, 0)), .inl (sX (v3 + (1 : Int32)).toNatClampNeg), .inl (sX (v3 + (2 : Int32)).toNatClampNeg)] S) (fun r79 S78 =>
 cond (z_oob (v3 + (1 : Int32)) sL) none (
 cond (z_oob (v3 + (2 : Int32)) sL) none (
 z_rI (ex 192 [.inr (.inr (12, 0)), .inl (sX (v3 + (1 : Int32)).toNatClampNeg), .inl (sX (v3 + (2 : Int32)).toNatClampNeg)] S78) (fun r81 S80 =>
 if r79 = r81 then (
  z_lrun (some (sL, sX)) ex n 1430 [some (.inr (.inr (90, 0))), some (.inr (.inr (11, 0))), some (.inr (.inr (12, 0))), some (.inl v3)] [] S80)
 else (
  some (some (.inl (0 : Int32)), S80)))))))) := rfl
set_option maxRecDepth 100000 in
set_option maxHeartbeats 4000000 in
theorem ze_law_724 (sL : Nat) (sX : Nat → Int32) (ex : z_Ex) (n : Nat) (S : z_Mem) (v3 : Int32) : z_lrun (some (sL, sX)) ex (n + 1) 724 [some (.inr (.inr (90, 0))), some (.inr (.inr (11, 0))), some (.inr (.inr (12, 0))), some (.inl v3)] [] S =
 cond (z_oob (v3 + (1 : Int32)) sL) none (
 cond (z_oob (v3 + (2 : Int32)) sL) none (
 cond (z_oob (v3 + (3 : Int32)) sL) none (
 z_rI (ex 94 [.inr (.inr (11, 0)), .inl (sX (v3 + (1 : Int32)).toNatClampNeg), .inl (sX (v3 + (2 : Int32)).toNatClampNeg), .inl (sX (v3 + (3 : Int32)).toNatClampNeg)] S) (fun r83 S82 =>
 cond (z_oob (v3 + (1 : Int32)) sL) none (
 cond (z_oob (v3 + (2 : Int32)) sL) none (
 cond (z_oob (v3 + (3 : Int32)) sL) none (
 z_rI (ex 193 [.inr (.inr (12, 0)), .inl (sX (v3 + (1 : Int32)).toNatClampNeg), .inl (sX (v3 + (2 : Int32)).toNatClampNeg), .inl (sX (v3 + (3 : Int32)).toNatClampNeg)] S82) (fun r85 S84 =>
 if r83 = r85 then (
  z_lrun (some (sL, sX)) ex n 1430 [some (.inr (.inr (90, 0))), some (.inr (.inr (11, 0))), some (.inr (.inr (12, 0))), some (.inl v3)] [] S84)
 else (
  some (some (.inl (0 : Int32)), S84)))))))))) := rfl
set_option maxRecDepth 100000 in
set_option maxHeartbeats 4000000 in
theorem ze_law_767 (sL : Nat) (sX : Nat → Int32) (ex : z_Ex) (n : Nat) (S : z_Mem) (v3 : Int32) : z_lrun (some (sL, sX)) ex (n + 1) 767 [some (.inr (.inr (90, 0))), some (.inr (.inr (11, 0))), some (.inr (.inr (12, 0))), some (.inl v3)] [] S =
 cond (z_oob (v3 + (1 : Int32)) sL) none (
 cond (z_oob (v3 + (2 : Int32)) sL) none (
 z_rI (ex 95 [.inr (.inr (11, 0)), .inl (sX (v3 + (1 : Int32)).toNatClampNeg), .inl (sX (v3 + (2 : Int32)).toNatClampNeg)] S) (fun r87 S86 =>
 cond (z_oob (v3 + (1 : Int32)) sL) none (
 cond (z_oob (v3 + (2 : Int32)) sL) none (
 z_rI (ex 195 [.inr (.inr (12, 0)), .inl (sX (v3 + (1 : Int32)).toNatClampNeg), .inl (sX (v3 + (2 : Int32)).toNatClampNeg)] S86) (fun r89 S88 =>
 if r87 = r89 then (
  z_lrun (some (sL, sX)) ex n 1430 [some (.inr (.inr (90, 0))), some (.inr (.inr (11, 0))), some (.inr (.inr (12, 0))), some (.inl v3)] [] S88)
 else (
  some (some (.inl (0 : Int32)), S88)))))))) := rfl
set_option maxRecDepth 100000 in
set_option maxHeartbeats 4000000 in
theorem ze_law_800 (sL : Nat) (sX : Nat → Int32) (ex : z_Ex) (n : Nat) (S : z_Mem) (v3 : Int32) : z_lrun (some (sL, sX)) ex (n + 1) 800 [some (.inr (.inr (90, 0))), some (.inr (.inr (11, 0))), some (.inr (.inr (12, 0))), some (.inl v3)] [] S =
 cond (z_oob (v3 + (1 : Int32)) sL) none (
 cond (z_oob (v3 + (2 : Int32)) sL) none (
 z_rI (ex 96 [.inr (.inr (11, 0)), .inl (sX (v3 + (1 : Int32)).toNatClampNeg), .inl (sX (v3 + (2 : Int32)).toNatClampNeg)] S) (fun r91 S90 =>
 cond (z_oob (v3 + (1 : Int32)) sL) none (
 cond (z_oob (v3 + (2 : Int32)) sL) none (
 z_rI (ex 196 [.inr (.inr (12, 0)), .inl (sX (v3 + (1 : Int32)).toNatClampNeg), .inl (sX (v3 + (2 : Int32)).toNatClampNeg)] S90) (fun r93 S92 =>
 if r91 = r93 then (
  z_lrun (some (sL, sX)) ex n 1430 [some (.inr (.inr (90, 0))), some (.inr (.inr (11, 0))), some (.inr (.inr (12, 0))), some (.inl v3)] [] S92)
 else (
  some (some (.inl (0 : Int32)), S92)))))))) := rfl
set_option maxRecDepth 100000 in
set_option maxHeartbeats 4000000 in
theorem ze_law_833 (sL : Nat) (sX : Nat → Int32) (ex : z_Ex) (n : Nat) (S : z_Mem) (v3 : Int32) : z_lrun (some (sL, sX)) ex (n + 1) 833 [some (.inr (.inr (90, 0))), some (.inr (.inr (11, 0))), some (.inr (.inr (12, 0))), some (.inl v3)] [] S =
 cond (z_oob (v3 + (1 : Int32)) sL) none (
 z_rI (ex 97 [.inr (.inr (11, 0)), .inl (sX (v3 + (1 : Int32)).toNatClampNeg)] S) (fun r95 S94 =>
 cond (z_oob (v3 + (1 : Int32)) sL) none (
 z_rI (ex 197 [.inr (.inr (12, 0)), .inl (sX (v3 + (1 : Int32)).toNatClampNeg)] S94) (fun r97 S96 =>
 if r95 = r97 then (
  z_lrun (some (sL, sX)) ex n 1430 [some (.inr (.inr (90, 0))), some (.inr (.inr (11, 0))), some (.inr (.inr (12, 0))), some (.inl v3)] [] S96)
 else (
  some (some (.inl (0 : Int32)), S96)))))) := rfl
set_option maxRecDepth 100000 in
set_option maxHeartbeats 4000000 in
theorem ze_law_856 (sL : Nat) (sX : Nat → Int32) (ex : z_Ex) (n : Nat) (S : z_Mem) (v3 : Int32) : z_lrun (some (sL, sX)) ex (n + 1) 856 [some (.inr (.inr (90, 0))), some (.inr (.inr (11, 0))), some (.inr (.inr (12, 0))), some (.inl v3)] [] S =
 cond (z_oob (v3 + (1 : Int32)) sL) none (
 cond (z_oob (v3 + (2 : Int32)) sL) none (
 cond (z_oob (v3 + (3 : Int32)) sL) none (
 z_rL (ex 98 [.inr (.inr (11, 0)), .inl (sX (v3 + (1 : Int32)).toNatClampNeg), .inl (sX (v3 + (2 : Int32)).toNatClampNeg), .inl (sX (v3 + (3 : Int32)).toNatClampNeg)] S) (fun r99 S98 =>
 cond (z_oob (v3 + (1 : Int32)) sL) none (
 cond (z_oob (v3 + (2 : Int32)) sL) none (
 cond (z_oob (v3 + (3 : Int32)) sL) none (
 z_rL (ex 200 [.inr (.inr (12, 0)), .inl (sX (v3 + (1 : Int32)).toNatClampNeg), .inl (sX (v3 + (2 : Int32)).toNatClampNeg), .inl (sX (v3 + (3 : Int32)).toNatClampNeg)] S98) (fun r101 S100 =>
 if (lg_cmp r99 r101) = 0 then (
  z_lrun (some (sL, sX)) ex n 1430 [some (.inr (.inr (90, 0))), some (.inr (.inr (11, 0))), some (.inr (.inr (12, 0))), some (.inl v3)] [] S100)
 else (
  some (some (.inl (0 : Int32)), S100)))))))))) := rfl
set_option maxRecDepth 100000 in
set_option maxHeartbeats 4000000 in
theorem ze_law_900 (sL : Nat) (sX : Nat → Int32) (ex : z_Ex) (n : Nat) (S : z_Mem) (v3 : Int32) : z_lrun (some (sL, sX)) ex (n + 1) 900 [some (.inr (.inr (90, 0))), some (.inr (.inr (11, 0))), some (.inr (.inr (12, 0))), some (.inl v3)] [] S =
 cond (z_oob (v3 + (1 : Int32)) sL) none (
 cond (z_oob (v3 + (2 : Int32)) sL) none (
 z_rL (ex 99 [.inr (.inr (11, 0)), .inl (sX (v3 + (1 : Int32)).toNatClampNeg), .inl (sX (v3 + (2 : Int32)).toNatClampNeg)] S) (fun r103 S102 =>
 cond (z_oob (v3 + (1 : Int32)) sL) none (
 cond (z_oob (v3 + (2 : Int32)) sL) none (
 z_rL (ex 201 [.inr (.inr (12, 0)), .inl (sX (v3 + (1 : Int32)).toNatClampNeg), .inl (sX (v3 + (2 : Int32)).toNatClampNeg)] S102) (fun r105 S104 =>
 if (lg_cmp r103 r105) = 0 then (
  z_lrun (some (sL, sX)) ex n 1430 [some (.inr (.inr (90, 0))), some (.inr (.inr (11, 0))), some (.inr (.inr (12, 0))), some (.inl v3)] [] S104)
 else (
  some (some (.inl (0 : Int32)), S104)))))))) := rfl
set_option maxRecDepth 100000 in
set_option maxHeartbeats 4000000 in
theorem ze_law_934 (sL : Nat) (sX : Nat → Int32) (ex : z_Ex) (n : Nat) (S : z_Mem) (v3 : Int32) : z_lrun (some (sL, sX)) ex (n + 1) 934 [some (.inr (.inr (90, 0))), some (.inr (.inr (11, 0))), some (.inr (.inr (12, 0))), some (.inl v3)] [] S =
 cond (z_oob (v3 + (1 : Int32)) sL) none (
 cond (z_oob (v3 + (2 : Int32)) sL) none (
 z_rI (ex 100 [.inr (.inr (11, 0)), .inl (sX (v3 + (1 : Int32)).toNatClampNeg), .inl (sX (v3 + (2 : Int32)).toNatClampNeg)] S) (fun r107 S106 =>
 cond (z_oob (v3 + (1 : Int32)) sL) none (
 cond (z_oob (v3 + (2 : Int32)) sL) none (
 z_rI (ex 202 [.inr (.inr (12, 0)), .inl (sX (v3 + (1 : Int32)).toNatClampNeg), .inl (sX (v3 + (2 : Int32)).toNatClampNeg)] S106) (fun r109 S108 =>
 if r107 = r109 then (
  z_lrun (some (sL, sX)) ex n 1430 [some (.inr (.inr (90, 0))), some (.inr (.inr (11, 0))), some (.inr (.inr (12, 0))), some (.inl v3)] [] S108)
 else (
  some (some (.inl (0 : Int32)), S108)))))))) := rfl
set_option maxRecDepth 100000 in
set_option maxHeartbeats 4000000 in
theorem ze_law_967 (sL : Nat) (sX : Nat → Int32) (ex : z_Ex) (n : Nat) (S : z_Mem) (v3 : Int32) : z_lrun (some (sL, sX)) ex (n + 1) 967 [some (.inr (.inr (90, 0))), some (.inr (.inr (11, 0))), some (.inr (.inr (12, 0))), some (.inl v3)] [] S =
 cond (z_oob (v3 + (1 : Int32)) sL) none (
 z_rI (ex 101 [.inr (.inr (11, 0)), .inl (sX (v3 + (1 : Int32)).toNatClampNeg)] S) (fun r111 S110 =>
 cond (z_oob (v3 + (1 : Int32)) sL) none (
 z_rI (ex 204 [.inr (.inr (12, 0)), .inl (sX (v3 + (1 : Int32)).toNatClampNeg)] S110) (fun r113 S112 =>
 if r111 = r113 then (
  z_lrun (some (sL, sX)) ex n 1430 [some (.inr (.inr (90, 0))), some (.inr (.inr (11, 0))), some (.inr (.inr (12, 0))), some (.inl v3)] [] S112)
 else (
  some (some (.inl (0 : Int32)), S112)))))) := rfl
set_option maxRecDepth 100000 in
set_option maxHeartbeats 4000000 in
theorem ze_law_990 (sL : Nat) (sX : Nat → Int32) (ex : z_Ex) (n : Nat) (S : z_Mem) (v3 : Int32) : z_lrun (some (sL, sX)) ex (n + 1) 990 [some (.inr (.inr (90, 0))), some (.inr (.inr (11, 0))), some (.inr (.inr (12, 0))), some (.inl v3)] [] S =
 cond (z_oob (v3 + (1 : Int32)) sL) none (
 cond (z_oob (v3 + (2 : Int32)) sL) none (
 z_rI (ex 102 [.inr (.inr (11, 0)), .inl (sX (v3 + (1 : Int32)).toNatClampNeg), .inl (sX (v3 + (2 : Int32)).toNatClampNeg)] S) (fun r115 S114 =>
 cond (z_oob (v3 + (1 : Int32)) sL) none (
 cond (z_oob (v3 + (2 : Int32)) sL) none (
 z_rI (ex 205 [.inr (.inr (12, 0)), .inl (sX (v3 + (1 : Int32)).toNatClampNeg), .inl (sX (v3 + (2 : Int32)).toNatClampNeg)] S114) (fun r117 S116 =>
 if r115 = r117 then (
  z_lrun (some (sL, sX)) ex n 1430 [some (.inr (.inr (90, 0))), some (.inr (.inr (11, 0))), some (.inr (.inr (12, 0))), some (.inl v3)] [] S116)
 else (
  some (some (.inl (0 : Int32)), S116)))))))) := rfl
set_option maxRecDepth 100000 in
set_option maxHeartbeats 4000000 in
theorem ze_law_1023 (sL : Nat) (sX : Nat → Int32) (ex : z_Ex) (n : Nat) (S : z_Mem) (v3 : Int32) : z_lrun (some (sL, sX)) ex (n + 1) 1023 [some (.inr (.inr (90, 0))), some (.inr (.inr (11, 0))), some (.inr (.inr (12, 0))), some (.inl v3)] [] S =
 z_rI (ex 103 [.inr (.inr (11, 0))] S) (fun r119 S118 =>
 z_rI (ex 206 [.inr (.inr (12, 0))] S118) (fun r121 S120 =>
 if r119 = r121 then (
  z_lrun (some (sL, sX)) ex n 1430 [some (.inr (.inr (90, 0))), some (.inr (.inr (11, 0))), some (.inr (.inr (12, 0))), some (.inl v3)] [] S120)
 else (
  some (some (.inl (0 : Int32)), S120)))) := rfl
set_option maxRecDepth 100000 in
set_option maxHeartbeats 4000000 in
theorem ze_law_1036 (sL : Nat) (sX : Nat → Int32) (ex : z_Ex) (n : Nat) (S : z_Mem) (v3 : Int32) : z_lrun (some (sL, sX)) ex (n + 1) 1036 [some (.inr (.inr (90, 0))), some (.inr (.inr (11, 0))), some (.inr (.inr (12, 0))), some (.inl v3)] [] S =
 cond (z_oob (v3 + (1 : Int32)) sL) none (
 cond (z_oob (v3 + (2 : Int32)) sL) none (
 z_rI (ex 104 [.inr (.inr (11, 0)), .inl (sX (v3 + (1 : Int32)).toNatClampNeg), .inl (sX (v3 + (2 : Int32)).toNatClampNeg)] S) (fun r123 S122 =>
 cond (z_oob (v3 + (1 : Int32)) sL) none (
 cond (z_oob (v3 + (2 : Int32)) sL) none (
 z_rI (ex 207 [.inr (.inr (12, 0)), .inl (sX (v3 + (1 : Int32)).toNatClampNeg), .inl (sX (v3 + (2 : Int32)).toNatClampNeg)] S122) (fun r125 S124 =>
 if r123 = r125 then (
  z_lrun (some (sL, sX)) ex n 1430 [some (.inr (.inr (90, 0))), some (.inr (.inr (11, 0))), some (.inr (.inr (12, 0))), some (.inl v3)] [] S124)
 else (
  some (some (.inl (0 : Int32)), S124)))))))) := rfl
set_option maxRecDepth 100000 in
set_option maxHeartbeats 4000000 in
theorem ze_law_1069 (sL : Nat) (sX : Nat → Int32) (ex : z_Ex) (n : Nat) (S : z_Mem) (v3 : Int32) : z_lrun (some (sL, sX)) ex (n + 1) 1069 [some (.inr (.inr (90, 0))), some (.inr (.inr (11, 0))), some (.inr (.inr (12, 0))), some (.inl v3)] [] S =
 z_rI (ex 105 [.inr (.inr (11, 0))] S) (fun r127 S126 =>
 z_rI (ex 208 [.inr (.inr (12, 0))] S126) (fun r129 S128 =>
 if r127 = r129 then (
  z_lrun (some (sL, sX)) ex n 1430 [some (.inr (.inr (90, 0))), some (.inr (.inr (11, 0))), some (.inr (.inr (12, 0))), some (.inl v3)] [] S128)
 else (
  some (some (.inl (0 : Int32)), S128)))) := rfl
set_option maxRecDepth 100000 in
set_option maxHeartbeats 4000000 in
theorem ze_law_1082 (sL : Nat) (sX : Nat → Int32) (ex : z_Ex) (n : Nat) (S : z_Mem) (v3 : Int32) : z_lrun (some (sL, sX)) ex (n + 1) 1082 [some (.inr (.inr (90, 0))), some (.inr (.inr (11, 0))), some (.inr (.inr (12, 0))), some (.inl v3)] [] S =
 z_rI (ex 106 [.inr (.inr (11, 0))] S) (fun r131 S130 =>
 z_rI (ex 209 [.inr (.inr (12, 0))] S130) (fun r133 S132 =>
 if r131 = r133 then (
  z_lrun (some (sL, sX)) ex n 1430 [some (.inr (.inr (90, 0))), some (.inr (.inr (11, 0))), some (.inr (.inr (12, 0))), some (.inl v3)] [] S132)
 else (
  some (some (.inl (0 : Int32)), S132)))) := rfl
set_option maxRecDepth 100000 in
set_option maxHeartbeats 4000000 in
theorem ze_law_1095 (sL : Nat) (sX : Nat → Int32) (ex : z_Ex) (n : Nat) (S : z_Mem) (v3 : Int32) : z_lrun (some (sL, sX)) ex (n + 1) 1095 [some (.inr (.inr (90, 0))), some (.inr (.inr (11, 0))), some (.inr (.inr (12, 0))), some (.inl v3)] [] S =
 cond (z_oob (v3 + (1 : Int32)) sL) none (
 cond (z_oob (v3 + (2 : Int32)) sL) none (
 cond (z_oob (v3 + (3 : Int32)) sL) none (
 z_rI (ex 107 [.inr (.inr (11, 0)), .inl (sX (v3 + (1 : Int32)).toNatClampNeg), .inl (sX (v3 + (2 : Int32)).toNatClampNeg), .inl (sX (v3 + (3 : Int32)).toNatClampNeg)] S) (fun r135 S134 =>
 cond (z_oob (v3 + (1 : Int32)) sL) none (
 cond (z_oob (v3 + (2 : Int32)) sL) none (
 cond (z_oob (v3 + (3 : Int32)) sL) none (
 z_rI (ex 218 [.inr (.inr (12, 0)), .inl (sX (v3 + (1 : Int32)).toNatClampNeg), .inl (sX (v3 + (2 : Int32)).toNatClampNeg), .inl (sX (v3 + (3 : Int32)).toNatClampNeg)] S134) (fun r137 S136 =>
 if r135 = r137 then (
  z_lrun (some (sL, sX)) ex n 1430 [some (.inr (.inr (90, 0))), some (.inr (.inr (11, 0))), some (.inr (.inr (12, 0))), some (.inl v3)] [] S136)
 else (
  some (some (.inl (0 : Int32)), S136)))))))))) := rfl
set_option maxRecDepth 100000 in
set_option maxHeartbeats 4000000 in
theorem ze_law_1138 (sL : Nat) (sX : Nat → Int32) (ex : z_Ex) (n : Nat) (S : z_Mem) (v3 : Int32) : z_lrun (some (sL, sX)) ex (n + 1) 1138 [some (.inr (.inr (90, 0))), some (.inr (.inr (11, 0))), some (.inr (.inr (12, 0))), some (.inl v3)] [] S =
 cond (z_oob (v3 + (1 : Int32)) sL) none (
 z_rI (ex 108 [.inr (.inr (11, 0)), .inl (sX (v3 + (1 : Int32)).toNatClampNeg)] S) (fun r139 S138 =>
 cond (z_oob (v3 + (1 : Int32)) sL) none (
 z_rI (ex 219 [.inr (.inr (12, 0)), .inl (sX (v3 + (1 : Int32)).toNatClampNeg)] S138) (fun r141 S140 =>
 if r139 = r141 then (
  z_lrun (some (sL, sX)) ex n 1430 [some (.inr (.inr (90, 0))), some (.inr (.inr (11, 0))), some (.inr (.inr (12, 0))), some (.inl v3)] [] S140)
 else (
  some (some (.inl (0 : Int32)), S140)))))) := rfl
set_option maxRecDepth 100000 in
set_option maxHeartbeats 4000000 in
theorem ze_law_1161 (sL : Nat) (sX : Nat → Int32) (ex : z_Ex) (n : Nat) (S : z_Mem) (v3 : Int32) : z_lrun (some (sL, sX)) ex (n + 1) 1161 [some (.inr (.inr (90, 0))), some (.inr (.inr (11, 0))), some (.inr (.inr (12, 0))), some (.inl v3)] [] S =
 cond (z_oob (v3 + (1 : Int32)) sL) none (
 cond (z_oob (v3 + (2 : Int32)) sL) none (
 z_rI (ex 109 [.inr (.inr (11, 0)), .inl (sX (v3 + (1 : Int32)).toNatClampNeg), .inl (sX (v3 + (2 : Int32)).toNatClampNeg)] S) (fun r143 S142 =>
 cond (z_oob (v3 + (1 : Int32)) sL) none (
 cond (z_oob (v3 + (2 : Int32)) sL) none (
 z_rI (ex 220 [.inr (.inr (12, 0)), .inl (sX (v3 + (1 : Int32)).toNatClampNeg), .inl (sX (v3 + (2 : Int32)).toNatClampNeg)] S142) (fun r145 S144 =>
 if r143 = r145 then (
  z_lrun (some (sL, sX)) ex n 1430 [some (.inr (.inr (90, 0))), some (.inr (.inr (11, 0))), some (.inr (.inr (12, 0))), some (.inl v3)] [] S144)
 else (
  some (some (.inl (0 : Int32)), S144)))))))) := rfl
set_option maxRecDepth 100000 in
set_option maxHeartbeats 4000000 in
theorem ze_law_1194 (sL : Nat) (sX : Nat → Int32) (ex : z_Ex) (n : Nat) (S : z_Mem) (v3 : Int32) : z_lrun (some (sL, sX)) ex (n + 1) 1194 [some (.inr (.inr (90, 0))), some (.inr (.inr (11, 0))), some (.inr (.inr (12, 0))), some (.inl v3)] [] S =
 cond (z_oob (v3 + (1 : Int32)) sL) none (
 z_rI (ex 110 [.inr (.inr (11, 0)), .inl (sX (v3 + (1 : Int32)).toNatClampNeg)] S) (fun r147 S146 =>
 cond (z_oob (v3 + (1 : Int32)) sL) none (
 z_rI (ex 221 [.inr (.inr (12, 0)), .inl (sX (v3 + (1 : Int32)).toNatClampNeg)] S146) (fun r149 S148 =>
 if r147 = r149 then (
  z_lrun (some (sL, sX)) ex n 1430 [some (.inr (.inr (90, 0))), some (.inr (.inr (11, 0))), some (.inr (.inr (12, 0))), some (.inl v3)] [] S148)
 else (
  some (some (.inl (0 : Int32)), S148)))))) := rfl
set_option maxRecDepth 100000 in
set_option maxHeartbeats 4000000 in
theorem ze_law_1217 (sL : Nat) (sX : Nat → Int32) (ex : z_Ex) (n : Nat) (S : z_Mem) (v3 : Int32) : z_lrun (some (sL, sX)) ex (n + 1) 1217 [some (.inr (.inr (90, 0))), some (.inr (.inr (11, 0))), some (.inr (.inr (12, 0))), some (.inl v3)] [] S =
 cond (z_oob (v3 + (1 : Int32)) sL) none (
 cond (z_oob (v3 + (2 : Int32)) sL) none (
 cond (z_oob (v3 + (3 : Int32)) sL) none (
 z_rI (ex 111 [.inr (.inr (11, 0)), .inl (sX (v3 + (1 : Int32)).toNatClampNeg), .inl (sX (v3 + (2 : Int32)).toNatClampNeg), .inl (sX (v3 + (3 : Int32)).toNatClampNeg)] S) (fun r151 S150 =>
 cond (z_oob (v3 + (1 : Int32)) sL) none (
 cond (z_oob (v3 + (2 : Int32)) sL) none (
 cond (z_oob (v3 + (3 : Int32)) sL) none (
 z_rI (ex 223 [.inr (.inr (12, 0)), .inl (sX (v3 + (1 : Int32)).toNatClampNeg), .inl (sX (v3 + (2 : Int32)).toNatClampNeg), .inl (sX (v3 + (3 : Int32)).toNatClampNeg)] S150) (fun r153 S152 =>
 if r151 = r153 then (
  z_lrun (some (sL, sX)) ex n 1430 [some (.inr (.inr (90, 0))), some (.inr (.inr (11, 0))), some (.inr (.inr (12, 0))), some (.inl v3)] [] S152)
 else (
  some (some (.inl (0 : Int32)), S152)))))))))) := rfl
set_option maxRecDepth 100000 in
set_option maxHeartbeats 4000000 in
theorem ze_law_1260 (sL : Nat) (sX : Nat → Int32) (ex : z_Ex) (n : Nat) (S : z_Mem) (v3 : Int32) : z_lrun (some (sL, sX)) ex (n + 1) 1260 [some (.inr (.inr (90, 0))), some (.inr (.inr (11, 0))), some (.inr (.inr (12, 0))), some (.inl v3)] [] S =
 cond (z_oob (v3 + (1 : Int32)) sL) none (
 cond (z_oob (v3 + (2 : Int32)) sL) none (
 cond (z_oob (v3 + (3 : Int32)) sL) none (
 cond (z_oob (v3 + (4 : Int32)) sL) none (
 z_rI (ex 112 [.inr (.inr (11, 0)), .inl (sX (v3 + (1 : Int32)).toNatClampNeg), .inl (sX (v3 + (2 : Int32)).toNatClampNeg), .inr (.inl (((Int32.toInt64 (sX (v3 + (3 : Int32)).toNatClampNeg)) <<< ((32 : Int32).toInt64 &&& 63)) ||| ((Int32.toInt64 (sX (v3 + (4 : Int32)).toNatClampNeg)) &&& (Int64.ofNat 4294967295))))] S) (fun r155 S154 =>
 cond (z_oob (v3 + (1 : Int32)) sL) none (
 cond (z_oob (v3 + (2 : Int32)) sL) none (
 cond (z_oob (v3 + (3 : Int32)) sL) none (
 cond (z_oob (v3 + (4 : Int32)) sL) none (
 z_rI (ex 225 [.inr (.inr (12, 0)), .inl (sX (v3 + (1 : Int32)).toNatClampNeg), .inl (sX (v3 + (2 : Int32)).toNatClampNeg), .inr (.inl (((Int32.toInt64 (sX (v3 + (3 : Int32)).toNatClampNeg)) <<< ((32 : Int32).toInt64 &&& 63)) ||| ((Int32.toInt64 (sX (v3 + (4 : Int32)).toNatClampNeg)) &&& (Int64.ofNat 4294967295))))] S154) (fun r157 S156 =>
 if r155 = r157 then (
  z_lrun (some (sL, sX)) ex n 1430 [some (.inr (.inr (90, 0))), some (.inr (.inr (11, 0))), some (.inr (.inr (12, 0))), some (.inl v3)] [] S156)
 else (
  some (some (.inl (0 : Int32)), S156)))))))))))) := rfl
set_option maxRecDepth 100000 in
set_option maxHeartbeats 4000000 in
theorem ze_law_1333 (sL : Nat) (sX : Nat → Int32) (ex : z_Ex) (n : Nat) (S : z_Mem) (v3 : Int32) : z_lrun (some (sL, sX)) ex (n + 1) 1333 [some (.inr (.inr (90, 0))), some (.inr (.inr (11, 0))), some (.inr (.inr (12, 0))), some (.inl v3)] [] S =
 cond (z_oob (v3 + (1 : Int32)) sL) none (
 cond (z_oob (v3 + (2 : Int32)) sL) none (
 z_rL (ex 113 [.inr (.inr (11, 0)), .inl (sX (v3 + (1 : Int32)).toNatClampNeg), .inl (sX (v3 + (2 : Int32)).toNatClampNeg)] S) (fun r159 S158 =>
 cond (z_oob (v3 + (1 : Int32)) sL) none (
 cond (z_oob (v3 + (2 : Int32)) sL) none (
 z_rL (ex 226 [.inr (.inr (12, 0)), .inl (sX (v3 + (1 : Int32)).toNatClampNeg), .inl (sX (v3 + (2 : Int32)).toNatClampNeg)] S158) (fun r161 S160 =>
 if (lg_cmp r159 r161) = 0 then (
  z_lrun (some (sL, sX)) ex n 1430 [some (.inr (.inr (90, 0))), some (.inr (.inr (11, 0))), some (.inr (.inr (12, 0))), some (.inl v3)] [] S160)
 else (
  some (some (.inl (0 : Int32)), S160)))))))) := rfl
set_option maxRecDepth 100000 in
set_option maxHeartbeats 4000000 in
theorem ze_law_1367 (sL : Nat) (sX : Nat → Int32) (ex : z_Ex) (n : Nat) (S : z_Mem) (v3 : Int32) : z_lrun (some (sL, sX)) ex (n + 1) 1367 [some (.inr (.inr (90, 0))), some (.inr (.inr (11, 0))), some (.inr (.inr (12, 0))), some (.inl v3)] [] S =
 cond (z_oob (v3 + (1 : Int32)) sL) none (
 cond (z_oob (v3 + (2 : Int32)) sL) none (
 cond (z_oob (v3 + (3 : Int32)) sL) none (
 cond (z_oob (v3 + (4 : Int32)) sL) none (
 cond (z_oob (v3 + (5 : Int32)) sL) none (
 z_rI (ex 114 [.inr (.inr (11, 0)), .inl (sX (v3 + (1 : Int32)).toNatClampNeg), .inl (sX (v3 + (2 : Int32)).toNatClampNeg), .inl (sX (v3 + (3 : Int32)).toNatClampNeg), .inl (sX (v3 + (4 : Int32)).toNatClampNeg), .inl (sX (v3 + (5 : Int32)).toNatClampNeg)] S) (fun r163 S162 =>
 cond (z_oob (v3 + (1 : Int32)) sL) none (
 cond (z_oob (v3 + (2 : Int32)) sL) none (
 cond (z_oob (v3 + (3 : Int32)) sL) none (
 cond (z_oob (v3 + (4 : Int32)) sL) none (
 cond (z_oob (v3 + (5 : Int32)) sL) none (
 z_rI (ex 227 [.inr (.inr (12, 0)), .inl (sX (v3 + (1 : Int32)).toNatClampNeg), .inl (sX (v3 + (2 : Int32)).toNatClampNeg), .inl (sX (v3 + (3 : Int32)).toNatClampNeg), .inl (sX (v3 + (4 : Int32)).toNatClampNeg), .inl (sX (v3 + (5 : Int32)).toNatClampNeg)] S162) (fun r165 S164 =>
 if r163 = r165 then (
  z_lrun (some (sL, sX)) ex n 1430 [some (.inr (.inr (90, 0))), some (.inr (.inr (11, 0))), some (.inr (.inr (12, 0))), some (.inl v3)] [] S164)
 else (
  some (some (.inl (0 : Int32)), S164)))))))))))))) := rfl
set_option maxRecDepth 100000 in
set_option maxHeartbeats 4000000 in
theorem ze_law_1430 (sL : Nat) (sX : Nat → Int32) (ex : z_Ex) (n : Nat) (S : z_Mem) (v3 : Int32) : z_lrun (some (sL, sX)) ex (n + 1) 1430 [some (.inr (.inr (90, 0))), some (.inr (.inr (11, 0))), some (.inr (.inr (12, 0))), some (.inl v3)] [] S =
 let x166 : Int32 := (v3 + (6 : Int32))
 z_lrun (some (sL, sX)) ex n 18 [some (.inr (.inr (90, 0))), some (.inr (.inr (11, 0))), some (.inr (.inr (12, 0))), some (.inl x166)] [] S := rfl
