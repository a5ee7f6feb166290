set_option maxRecDepth 100000 in
set_option maxHeartbeats 40000000 in
theorem ze_law (sL : Nat) (sX : Nat → Int32) (ex : z_Ex) (n : Nat) (S : z_Mem) (v3 : Int32) : z_lrun (some (sL, sX)) ex (n + 1) 18 [some (.inr (.inr (90, 0))), some (.inr (.inr (11, 0))), some (.inr (.inr (12, 0))), some (.inl v3)] [] S =
 if ((Int32.ofNat sL) - (6 : Int32)) < v3 then (
  some (some (.inl (1 : Int32)), S))
 else (
  cond (z_oob v3 sL) none (
  let x1 : Int32 := ((sX v3.toNatClampNeg) &&& (63 : Int32))
  if x1 = (0 : Int32) then (
   cond (z_oob (v3 + (1 : Int32)) sL) none (
   cond (z_oob (v3 + (2 : Int32)) sL) none (
   cond (z_oob (v3 + (3 : Int32)) sL) none (
   z_rI (ex 76 [.inr (.inr (11, 0)), .inl (sX (v3 + (1 : Int32)).toNatClampNeg), .inl (sX (v3 + (2 : Int32)).toNatClampNeg), .inl (sX (v3 + (3 : Int32)).toNatClampNeg)] S) (fun r3 S2 =>
   cond (z_oob (v3 + (1 : Int32)) sL) none (
   cond (z_oob (v3 + (2 : Int32)) sL) none (
   cond (z_oob (v3 + (3 : Int32)) sL) none (
   z_rI (ex 134 [.inr (.inr (12, 0)), .inl (sX (v3 + (1 : Int32)).toNatClampNeg), .inl (sX (v3 + (2 : Int32)).toNatClampNeg), .inl (sX (v3 + (3 : Int32)).toNatClampNeg)] S2) (fun r5 S4 =>
   if r3 = r5 then (
    let x6 : Int32 := (v3 + (6 : Int32))
    z_lrun (some (sL, sX)) ex n 18 [some (.inr (.inr (90, 0))), some (.inr (.inr (11, 0))), some (.inr (.inr (12, 0))), some (.inl x6)] [] S4)
   else (
    some (some (.inl (0 : Int32)), S4))))))))))) else
  if x1 = (1 : Int32) then (
   cond (z_oob (v3 + (1 : Int32)) sL) none (
   cond (z_oob (v3 + (2 : Int32)) sL) none (
   z_rI (ex 77 [.inr (.inr (11, 0)), .inl (sX (v3 + (1 : Int32)).toNatClampNeg), .inl (sX (v3 + (2 : Int32)).toNatClampNeg)] S) (fun r8 S7 =>
   cond (z_oob (v3 + (1 : Int32)) sL) none (
   cond (z_oob (v3 + (2 : Int32)) sL) none (
   z_rI (ex 169 [.inr (.inr (12, 0)), .inl (sX (v3 + (1 : Int32)).toNatClampNeg), .inl (sX (v3 + (2 : Int32)).toNatClampNeg)] S7) (fun r10 S9 =>
   if r8 = r10 then (
    let x11 : Int32 := (v3 + (6 : Int32))
    z_lrun (some (sL, sX)) ex n 18 [some (.inr (.inr (90, 0))), some (.inr (.inr (11, 0))), some (.inr (.inr (12, 0))), some (.inl x11)] [] S9)
   else (
    some (some (.inl (0 : Int32)), S9))))))))) else
  if x1 = (2 : Int32) then (
   cond (z_oob (v3 + (1 : Int32)) sL) none (
   cond (z_oob (v3 + (2 : Int32)) sL) none (
   z_rI (ex 78 [.inr (.inr (11, 0)), .inl (sX (v3 + (1 : Int32)).toNatClampNeg), .inl (sX (v3 + (2 : Int32)).toNatClampNeg)] S) (fun r13 S12 =>
   cond (z_oob (v3 + (1 : Int32)) sL) none (
   cond (z_oob (v3 + (2 : Int32)) sL) none (
   z_rI (ex 135 [.inr (.inr (12, 0)), .inl (sX (v3 + (1 : Int32)).toNatClampNeg), .inl (sX (v3 + (2 : Int32)).toNatClampNeg)] S12) (fun r15 S14 =>
   if r13 = r15 then (
    let x16 : Int32 := (v3 + (6 : Int32))
    z_lrun (some (sL, sX)) ex n 18 [some (.inr (.inr (90, 0))), some (.inr (.inr (11, 0))), some (.inr (.inr (12, 0))), some (.inl x16)] [] S14)
   else (
    some (some (.inl (0 : Int32)), S14))))))))) else
  if x1 = (3 : Int32) then (
   cond (z_oob (v3 + (1 : Int32)) sL) none (
   cond (z_oob (v3 + (2 : Int32)) sL) none (
   z_rI (ex 79 [.inr (.inr (11, 0)), .inl (sX (v3 + (1 : Int32)).toNatClampNeg), .inl (sX (v3 + (2 : Int32)).toNatClampNeg)] S) (fun r18 S17 =>
   cond (z_oob (v3 + (1 : Int32)) sL) none (
   cond (z_oob (v3 + (2 : Int32)) sL) none (
   z_rI (ex 137 [.inr (.inr (12, 0)), .inl (sX (v3 + (1 : Int32)).toNatClampNeg), .inl (sX (v3 + (2 : Int32)).toNatClampNeg)] S17) (fun r20 S19 =>
   if r18 = r20 then (
    let x21 : Int32 := (v3 + (6 : Int32))
    z_lrun (some (sL, sX)) ex n 18 [some (.inr (.inr (90, 0))), some (.inr (.inr (11, 0))), some (.inr (.inr (12, 0))), some (.inl x21)] [] S19)
   else (
    some (some (.inl (0 : Int32)), S19))))))))) else
  if x1 = (4 : Int32) then (
   cond (z_oob (v3 + (1 : Int32)) sL) none (
   cond (z_oob (v3 + (2 : Int32)) sL) none (
   if (sX (v3 + (2 : Int32)).toNatClampNeg) = 0 then (
    z_rI (ex 80 [.inr (.inr (11, 0)), .inl (sX (v3 + (1 : Int32)).toNatClampNeg), .inl (0 : Int32)] S) (fun r23 S22 =>
    cond (z_oob (v3 + (1 : Int32)) sL) none (
    cond (z_oob (v3 + (2 : Int32)) sL) none (
    if (sX (v3 + (2 : Int32)).toNatClampNeg) = 0 then (
     z_rI (ex 139 [.inr (.inr (12, 0)), .inl (sX (v3 + (1 : Int32)).toNatClampNeg), .inl (0 : Int32)] S22) (fun r25 S24 =>
     if r23 = r25 then (
      let x26 : Int32 := (v3 + (6 : Int32))
      z_lrun (some (sL, sX)) ex n 18 [some (.inr (.inr (90, 0))), some (.inr (.inr (11, 0))), some (.inr (.inr (12, 0))), some (.inl x26)] [] S24)
     else (
      some (some (.inl (0 : Int32)), S24))))
    else (
     z_rI (ex 139 [.inr (.inr (12, 0)), .inl (sX (v3 + (1 : Int32)).toNatClampNeg), .inl (1 : Int32)] S22) (fun r28 S27 =>
     if r23 = r28 then (
      let x29 : Int32 := (v3 + (6 : Int32))
      z_lrun (some (sL, sX)) ex n 18 [some (.inr (.inr (90, 0))), some (.inr (.inr (11, 0))), some (.inr (.inr (12, 0))), some (.inl x29)] [] S27)
     else (
      some (some (.inl (0 : Int32)), S27))))))))
   else (
    z_rI (ex 80 [.inr (.inr (11, 0)), .inl (sX (v3 + (1 : Int32)).toNatClampNeg), .inl (1 : Int32)] S) (fun r31 S30 =>
    cond (z_oob (v3 + (1 : Int32)) sL) none (
    cond (z_oob (v3 + (2 : Int32)) sL) none (
    if (sX (v3 + (2 : Int32)).toNatClampNeg) = 0 then (
     z_rI (ex 139 [.inr (.inr (12, 0)), .inl (sX (v3 + (1 : Int32)).toNatClampNeg), .inl (0 : Int32)] S30) (fun r33 S32 =>
     if r31 = r33 then (
      let x34 : Int32 := (v3 + (6 : Int32))
      z_lrun (some (sL, sX)) ex n 18 [some (.inr (.inr (90, 0))), some (.inr (.inr (11, 0))), some (.inr (.inr (12, 0))), some (.inl x34)] [] S32)
     else (
      some (some (.inl (0 : Int32)), S32))))
    else (
     z_rI (ex 139 [.inr (.inr (12, 0)), .inl (sX (v3 + (1 : Int32)).toNatClampNeg), .inl (1 : Int32)] S30) (fun r36 S35 =>
     if r31 = r36 then (
      let x37 : Int32 := (v3 + (6 : Int32))
      z_lrun (some (sL, sX)) ex n 18 [some (.inr (.inr (90, 0))), some (.inr (.inr (11, 0))), some (.inr (.inr (12, 0))), some (.inl x37)] [] S35)
     else (
      some (some (.inl (0 : Int32)), S35))))))))))) else
  if x1 = (5 : Int32) then (
   z_rI (ex 81 [.inr (.inr (11, 0))] S) (fun r39 S38 =>
   z_rI (ex 178 [.inr (.inr (12, 0))] S38) (fun r41 S40 =>
   if r39 = r41 then (
    let x42 : Int32 := (v3 + (6 : Int32))
    z_lrun (some (sL, sX)) ex n 18 [some (.inr (.inr (90, 0))), some (.inr (.inr (11, 0))), some (.inr (.inr (12, 0))), some (.inl x42)] [] S40)
   else (
    some (some (.inl (0 : Int32)), S40))))) else
  if x1 = (6 : Int32) then (
   cond (z_oob (v3 + (1 : Int32)) sL) none (
   cond (z_oob (v3 + (2 : Int32)) sL) none (
   z_rI (ex 82 [.inr (.inr (11, 0)), .inl (sX (v3 + (1 : Int32)).toNatClampNeg), .inl (sX (v3 + (2 : Int32)).toNatClampNeg)] S) (fun r44 S43 =>
   cond (z_oob (v3 + (1 : Int32)) sL) none (
   cond (z_oob (v3 + (2 : Int32)) sL) none (
   z_rI (ex 140 [.inr (.inr (12, 0)), .inl (sX (v3 + (1 : Int32)).toNatClampNeg), .inl (sX (v3 + (2 : Int32)).toNatClampNeg)] S43) (fun r46 S45 =>
   if r44 = r46 then (
    let x47 : Int32 := (v3 + (6 : Int32))
    z_lrun (some (sL, sX)) ex n 18 [some (.inr (.inr (90, 0))), some (.inr (.inr (11, 0))), some (.inr (.inr (12, 0))), some (.inl x47)] [] S45)
   else (
    some (some (.inl (0 : Int32)), S45))))))))) else
  if x1 = (7 : Int32) then (
   cond (z_oob (v3 + (1 : Int32)) sL) none (
   cond (z_oob (v3 + (2 : Int32)) sL) none (
   cond (z_oob (v3 + (3 : Int32)) sL) none (
   z_rI (ex 83 [.inr (.inr (11, 0)), .inl (sX (v3 + (1 : Int32)).toNatClampNeg), .inl (sX (v3 + (2 : Int32)).toNatClampNeg), .inl (sX (v3 + (3 : Int32)).toNatClampNeg)] S) (fun r49 S48 =>
   cond (z_oob (v3 + (1 : Int32)) sL) none (
   cond (z_oob (v3 + (2 : Int32)) sL) none (
   cond (z_oob (v3 + (3 : Int32)) sL) none (
   z_rI (ex 141 [.inr (.inr (12, 0)), .inl (sX (v3 + (1 : Int32)).toNatClampNeg), .inl (sX (v3 + (2 : Int32)).toNatClampNeg), .inl (sX (v3 + (3 : Int32)).toNatClampNeg)] S48) (fun r51 S50 =>
   if r49 = r51 then (
    let x52 : Int32 := (v3 + (6 : Int32))
    z_lrun (some (sL, sX)) ex n 18 [some (.inr (.inr (90, 0))), some (.inr (.inr (11, 0))), some (.inr (.inr (12, 0))), some (.inl x52)] [] S50)
   else (
    some (some (.inl (0 : Int32)), S50))))))))))) else
  if x1 = (8 : Int32) then (
   cond (z_oob (v3 + (1 : Int32)) sL) none (
   z_rI (ex 84 [.inr (.inr (11, 0)), .inl (sX (v3 + (1 : Int32)).toNatClampNeg)] S) (fun r54 S53 =>
   cond (z_oob (v3 + (1 : Int32)) sL) none (
   z_rI (ex 142 [.inr (.inr (12, 0)), .inl (sX (v3 + (1 : Int32)).toNatClampNeg)] S53) (fun r56 S55 =>
   if r54 = r56 then (
    let x57 : Int32 := (v3 + (6 : Int32))
    z_lrun (some (sL, sX)) ex n 18 [some (.inr (.inr (90, 0))), some (.inr (.inr (11, 0))), some (.inr (.inr (12, 0))), some (.inl x57)] [] S55)
   else (
    some (some (.inl (0 : Int32)), S55))))))) else
  if x1 = (9 : Int32) then (
   z_rI (ex 85 [.inr (.inr (11, 0))] S) (fun r59 S58 =>
   z_rI (ex 158 [.inr (.inr (12, 0))] S58) (fun r61 S60 =>
   if r59 = r61 then (
    let x62 : Int32 := (v3 + (6 : Int32))
    z_lrun (some (sL, sX)) ex n 18 [some (.inr (.inr (90, 0))), some (.inr (.inr (11, 0))), some (.inr (.inr (12, 0))), some (.inl x62)] [] S60)
   else (
    some (some (.inl (0 : Int32)), S60))))) else
  if x1 = (10 : Int32) then (
   cond (z_oob (v3 + (1 : Int32)) sL) none (
   z_rI (ex 86 [.inr (.inr (11, 0)), .inl (sX (v3 + (1 : Int32)).toNatClampNeg)] S) (fun r64 S63 =>
   cond (z_oob (v3 + (1 : Int32)) sL) none (
   z_rI (ex 174 [.inr (.inr (12, 0)), .inl (sX (v3 + (1 : Int32)).toNatClampNeg)] S63) (fun r66 S65 =>
   if r64 = r66 then (
    let x67 : Int32 := (v3 + (6 : Int32))
    z_lrun (some (sL, sX)) ex n 18 [some (.inr (.inr (90, 0))), some (.inr (.inr (11, 0))), some (.inr (.inr (12, 0))), some (.inl x67)] [] S65)
   else (
    some (some (.inl (0 : Int32)), S65))))))) else
  if x1 = (11 : Int32) then (
   cond (z_oob (v3 + (1 : Int32)) sL) none (
   z_rI (ex 87 [.inr (.inr (11, 0)), .inl (sX (v3 + (1 : Int32)).toNatClampNeg)] S) (fun r69 S68 =>
   cond (z_oob (v3 + (1 : Int32)) sL) none (
   z_rI (ex 179 [.inr (.inr (12, 0)), .inl (sX (v3 + (1 : Int32)).toNatClampNeg)] S68) (fun r71 S70 =>
   if r69 = r71 then (
    let x72 : Int32 := (v3 + (6 : Int32))
    z_lrun (some (sL, sX)) ex n 18 [some (.inr (.inr (90, 0))), some (.inr (.inr (11, 0))), some (.inr (.inr (12, 0))), some (.inl x72)] [] S70)
   else (
    some (some (.inl (0 : Int32)), S70))))))) else
  if x1 = (12 : Int32) then (
   cond (z_oob (v3 + (1 : Int32)) sL) none (
   cond (z_oob (v3 + (2 : Int32)) sL) none (
   z_rI (ex 88 [.inr (.inr (11, 0)), .inl (sX (v3 + (1 : Int32)).toNatClampNeg), .inl (sX (v3 + (2 : Int32)).toNatClampNeg)] S) (fun r74 S73 =>
   cond (z_oob (v3 + (1 : Int32)) sL) none (
   cond (z_oob (v3 + (2 : Int32)) sL) none (
   z_rI (ex 182 [.inr (.inr (12, 0)), .inl (sX (v3 + (1 : Int32)).toNatClampNeg), .inl (sX (v3 + (2 : Int32)).toNatClampNeg)] S73) (fun r76 S75 =>
   if r74 = r76 then (
    let x77 : Int32 := (v3 + (6 : Int32))
    z_lrun (some (sL, sX)) ex n 18 [some (.inr (.inr (90, 0))), some (.inr (.inr (11, 0))), some (.inr (.inr (12, 0))), some (.inl x77)] [] S75)
   else (
    some (some (.inl (0 : Int32)), S75))))))))) else
  if x1 = (13 : Int32) then (
   cond (z_oob (v3 + (1 : Int32)) sL) none (
   z_rI (ex 89 [.inr (.inr (11, 0)), .inl (sX (v3 + (1 : Int32)).toNatClampNeg)] S) (fun r79 S78 =>
   cond (z_oob (v3 + (1 : Int32)) sL) none (
   z_rI (ex 183 [.inr (.inr (12, 0)), .inl (sX (v3 + (1 : Int32)).toNatClampNeg)] S78) (fun r81 S80 =>
   if r79 = r81 then (
    let x82 : Int32 := (v3 + (6 : Int32))
    z_lrun (some (sL, sX)) ex n 18 [some (.inr (.inr (90, 0))), some (.inr (.inr (11, 0))), some (.inr (.inr (12, 0))), some (.inl x82)] [] S80)
   else (
    some (some (.inl (0 : Int32)), S80))))))) else
  if x1 = (14 : Int32) then (
   cond (z_oob (v3 + (1 : Int32)) sL) none (
   z_rI (ex 90 [.inr (.inr (11, 0)), .inl (sX (v3 + (1 : Int32)).toNatClampNeg)] S) (fun r84 S83 =>
   cond (z_oob (v3 + (1 : Int32)) sL) none (
   z_rI (ex 184 [.inr (.inr (12, 0)), .inl (sX (v3 + (1 : Int32)).toNatClampNeg)] S83) (fun r86 S85 =>
   if r84 = r86 then (
    let x87 : Int32 := (v3 + (6 : Int32))
    z_lrun (some (sL, sX)) ex n 18 [some (.inr (.inr (90, 0))), some (.inr (.inr (11, 0))), some (.inr (.inr (12, 0))), some (.inl x87)] [] S85)
   else (
    some (some (.inl (0 : Int32)), S85))))))) else
  if x1 = (15 : Int32) then (
   cond (z_oob (v3 + (1 : Int32)) sL) none (
   cond (z_oob (v3 + (2 : Int32)) sL) none (
   z_rI (ex 91 [.inr (.inr (11, 0)), .inl (sX (v3 + (1 : Int32)).toNatClampNeg), .inl (sX (v3 + (2 : Int32)).toNatClampNeg)] S) (fun r89 S88 =>
   cond (z_oob (v3 + (1 : Int32)) sL) none (
   cond (z_oob (v3 + (2 : Int32)) sL) none (
   z_rI (ex 188 [.inr (.inr (12, 0)), .inl (sX (v3 + (1 : Int32)).toNatClampNeg), .inl (sX (v3 + (2 : Int32)).toNatClampNeg)] S88) (fun r91 S90 =>
   if r89 = r91 then (
    let x92 : Int32 := (v3 + (6 : Int32))
    z_lrun (some (sL, sX)) ex n 18 [some (.inr (.inr (90, 0))), some (.inr (.inr (11, 0))), some (.inr (.inr (12, 0))), some (.inl x92)] [] S90)
   else (
    some (some (.inl (0 : Int32)), S90))))))))) else
  if x1 = (16 : Int32) then (
   z_rI (ex 92 [.inr (.inr (11, 0))] S) (fun r94 S93 =>
   z_rI (ex 190 [.inr (.inr (12, 0))] S93) (fun r96 S95 =>
   if r94 = r96 then (
    let x97 : Int32 := (v3 + (6 : Int32))
    z_lrun (some (sL, sX)) ex n 18 [some (.inr (.inr (90, 0))), some (.inr (.inr (11, 0))), some (.inr (.inr (12, 0))), some (.inl x97)] [] S95)
   else (
    some (some (.inl (0 : Int32)), S95))))) else
  if x1 = (17 : Int32) then (
   cond (z_oob (v3 + (1 : Int32)) sL) none (
   cond (z_oob (v3 + (2 : Int32)) sL) none (
   z_rI (ex 93 [.inr (.inr (11, 0)), .inl (sX (v3 + (1 : Int32)).toNatClampNeg), .inl (sX (v3 + (2 : Int32)).toNatClampNeg)] S) (fun r99 S98 =>
   cond (z_oob (v3 + (1 : Int32)) sL) none (
   cond (z_oob (v3 + (2 : Int32)) sL) none (
   z_rI (ex 192 [.inr (.inr (12, 0)), .inl (sX (v3 + (1 : Int32)).toNatClampNeg), .inl (sX (v3 + (2 : Int32)).toNatClampNeg)] S98) (fun r101 S100 =>
   if r99 = r101 then (
    let x102 : Int32 := (v3 + (6 : Int32))
    z_lrun (some (sL, sX)) ex n 18 [some (.inr (.inr (90, 0))), some (.inr (.inr (11, 0))), some (.inr (.inr (12, 0))), some (.inl x102)] [] S100)
   else (
    some (some (.inl (0 : Int32)), S100))))))))) else
  if x1 = (18 : Int32) then (
   cond (z_oob (v3 + (1 : Int32)) sL) none (
   cond (z_oob (v3 + (2 : Int32)) sL) none (
   cond (z_oob (v3 + (3 : Int32)) sL) none (
   z_rI (ex 94 [.inr (.inr (11, 0)), .inl (sX (v3 + (1 : Int32)).toNatClampNeg), .inl (sX (v3 + (2 : Int32)).toNatClampNeg), .inl (sX (v3 + (3 : Int32)).toNatClampNeg)] S) (fun r104 S103 =>
   cond (z_oob (v3 + (1 : Int32)) sL) none (
   cond (z_oob (v3 + (2 : Int32)) sL) none (
   cond (z_oob (v3 + (3 : Int32)) sL) none (
   z_rI (ex 193 [.inr (.inr (12, 0)), .inl (sX (v3 + (1 : Int32)).toNatClampNeg), .inl (sX (v3 + (2 : Int32)).toNatClampNeg), .inl (sX (v3 + (3 : Int32)).toNatClampNeg)] S103) (fun r106 S105 =>
   if r104 = r106 then (
    let x107 : Int32 := (v3 + (6 : Int32))
    z_lrun (some (sL, sX)) ex n 18 [some (.inr (.inr (90, 0))), some (.inr (.inr (11, 0))), some (.inr (.inr (12, 0))), some (.inl x107)] [] S105)
   else (
    some (some (.inl (0 : Int32)), S105))))))))))) else
  if x1 = (19 : Int32) then (
   cond (z_oob (v3 + (1 : Int32)) sL) none (
   cond (z_oob (v3 + (2 : Int32)) sL) none (
   z_rI (ex 95 [.inr (.inr (11, 0)), .inl (sX (v3 + (1 : Int32)).toNatClampNeg), .inl (sX (v3 + (2 : Int32)).toNatClampNeg)] S) (fun r109 S108 =>
   cond (z_oob (v3 + (1 : Int32)) sL) none (
   cond (z_oob (v3 + (2 : Int32)) sL) none (
   z_rI (ex 195 [.inr (.inr (12, 0)), .inl (sX (v3 + (1 : Int32)).toNatClampNeg), .inl (sX (v3 + (2 : Int32)).toNatClampNeg)] S108) (fun r111 S110 =>
   if r109 = r111 then (
    let x112 : Int32 := (v3 + (6 : Int32))
    z_lrun (some (sL, sX)) ex n 18 [some (.inr (.inr (90, 0))), some (.inr (.inr (11, 0))), some (.inr (.inr (12, 0))), some (.inl x112)] [] S110)
   else (
    some (some (.inl (0 : Int32)), S110))))))))) else
  if x1 = (20 : Int32) then (
   cond (z_oob (v3 + (1 : Int32)) sL) none (
   cond (z_oob (v3 + (2 : Int32)) sL) none (
   z_rI (ex 96 [.inr (.inr (11, 0)), .inl (sX (v3 + (1 : Int32)).toNatClampNeg), .inl (sX (v3 + (2 : Int32)).toNatClampNeg)] S) (fun r114 S113 =>
   cond (z_oob (v3 + (1 : Int32)) sL) none (
   cond (z_oob (v3 + (2 : Int32)) sL) none (
   z_rI (ex 196 [.inr (.inr (12, 0)), .inl (sX (v3 + (1 : Int32)).toNatClampNeg), .inl (sX (v3 + (2 : Int32)).toNatClampNeg)] S113) (fun r116 S115 =>
   if r114 = r116 then (
    let x117 : Int32 := (v3 + (6 : Int32))
    z_lrun (some (sL, sX)) ex n 18 [some (.inr (.inr (90, 0))), some (.inr (.inr (11, 0))), some (.inr (.inr (12, 0))), some (.inl x117)] [] S115)
   else (
    some (some (.inl (0 : Int32)), S115))))))))) else
  if x1 = (21 : Int32) then (
   cond (z_oob (v3 + (1 : Int32)) sL) none (
   z_rI (ex 97 [.inr (.inr (11, 0)), .inl (sX (v3 + (1 : Int32)).toNatClampNeg)] S) (fun r119 S118 =>
   cond (z_oob (v3 + (1 : Int32)) sL) none (
   z_rI (ex 197 [.inr (.inr (12, 0)), .inl (sX (v3 + (1 : Int32)).toNatClampNeg)] S118) (fun r121 S120 =>
   if r119 = r121 then (
    let x122 : Int32 := (v3 + (6 : Int32))
    z_lrun (some (sL, sX)) ex n 18 [some (.inr (.inr (90, 0))), some (.inr (.inr (11, 0))), some (.inr (.inr (12, 0))), some (.inl x122)] [] S120)
   else (
    some (some (.inl (0 : Int32)), S120))))))) else
  if x1 = (22 : Int32) then (
   cond (z_oob (v3 + (1 : Int32)) sL) none (
   cond (z_oob (v3 + (2 : Int32)) sL) none (
   cond (z_oob (v3 + (3 : Int32)) sL) none (
   z_rL (ex 98 [.inr (.inr (11, 0)), .inl (sX (v3 + (1 : Int32)).toNatClampNeg), .inl (sX (v3 + (2 : Int32)).toNatClampNeg), .inl (sX (v3 + (3 : Int32)).toNatClampNeg)] S) (fun r124 S123 =>
   cond (z_oob (v3 + (1 : Int32)) sL) none (
   cond (z_oob (v3 + (2 : Int32)) sL) none (
   cond (z_oob (v3 + (3 : Int32)) sL) none (
   z_rL (ex 200 [.inr (.inr (12, 0)), .inl (sX (v3 + (1 : Int32)).toNatClampNeg), .inl (sX (v3 + (2 : Int32)).toNatClampNeg), .inl (sX (v3 + (3 : Int32)).toNatClampNeg)] S123) (fun r126 S125 =>
   if (lg_cmp r124 r126) = 0 then (
    let x127 : Int32 := (v3 + (6 : Int32))
    z_lrun (some (sL, sX)) ex n 18 [some (.inr (.inr (90, 0))), some (.inr (.inr (11, 0))), some (.inr (.inr (12, 0))), some (.inl x127)] [] S125)
   else (
    some (some (.inl (0 : Int32)), S125))))))))))) else
  if x1 = (23 : Int32) then (
   cond (z_oob (v3 + (1 : Int32)) sL) none (
   cond (z_oob (v3 + (2 : Int32)) sL) none (
   z_rL (ex 99 [.inr (.inr (11, 0)), .inl (sX (v3 + (1 : Int32)).toNatClampNeg), .inl (sX (v3 + (2 : Int32)).toNatClampNeg)] S) (fun r129 S128 =>
   cond (z_oob (v3 + (1 : Int32)) sL) none (
   cond (z_oob (v3 + (2 : Int32)) sL) none (
   z_rL (ex 201 [.inr (.inr (12, 0)), .inl (sX (v3 + (1 : Int32)).toNatClampNeg), .inl (sX (v3 + (2 : Int32)).toNatClampNeg)] S128) (fun r131 S130 =>
   if (lg_cmp r129 r131) = 0 then (
    let x132 : Int32 := (v3 + (6 : Int32))
    z_lrun (some (sL, sX)) ex n 18 [some (.inr (.inr (90, 0))), some (.inr (.inr (11, 0))), some (.inr (.inr (12, 0))), some (.inl x132)] [] S130)
   else (
    some (some (.inl (0 : Int32)), S130))))))))) else
  if x1 = (24 : Int32) then (
   cond (z_oob (v3 + (1 : Int32)) sL) none (
   cond (z_oob (v3 + (2 : Int32)) sL) none (
   z_rI (ex 100 [.inr (.inr (11, 0)), .inl (sX (v3 + (1 : Int32)).toNatClampNeg), .inl (sX (v3 + (2 : Int32)).toNatClampNeg)] S) (fun r134 S133 =>
   cond (z_oob (v3 + (1 : Int32)) sL) none (
   cond (z_oob (v3 + (2 : Int32)) sL) none (
   z_rI (ex 202 [.inr (.inr (12, 0)), .inl (sX (v3 + (1 : Int32)).toNatClampNeg), .inl (sX (v3 + (2 : Int32)).toNatClampNeg)] S133) (fun r136 S135 =>
   if r134 = r136 then (
    let x137 : Int32 := (v3 + (6 : Int32))
    z_lrun (some (sL, sX)) ex n 18 [some (.inr (.inr (90, 0))), some (.inr (.inr (11, 0))), some (.inr (.inr (12, 0))), some (.inl x137)] [] S135)
   else (
    some (some (.inl (0 : Int32)), S135))))))))) else
  if x1 = (25 : Int32) then (
   cond (z_oob (v3 + (1 : Int32)) sL) none (
   z_rI (ex 101 [.inr (.inr (11, 0)), .inl (sX (v3 + (1 : Int32)).toNatClampNeg)] S) (fun r139 S138 =>
   cond (z_oob (v3 + (1 : Int32)) sL) none (
   z_rI (ex 204 [.inr (.inr (12, 0)), .inl (sX (v3 + (1 : Int32)).toNatClampNeg)] S138) (fun r141 S140 =>
   if r139 = r141 then (
    let x142 : Int32 := (v3 + (6 : Int32))
    z_lrun (some (sL, sX)) ex n 18 [some (.inr (.inr (90, 0))), some (.inr (.inr (11, 0))), some (.inr (.inr (12, 0))), some (.inl x142)] [] S140)
   else (
    some (some (.inl (0 : Int32)), S140))))))) else
  if x1 = (26 : Int32) then (
   cond (z_oob (v3 + (1 : Int32)) sL) none (
   cond (z_oob (v3 + (2 : Int32)) sL) none (
   z_rI (ex 102 [.inr (.inr (11, 0)), .inl (sX (v3 + (1 : Int32)).toNatClampNeg), .inl (sX (v3 + (2 : Int32)).toNatClampNeg)] S) (fun r144 S143 =>
   cond (z_oob (v3 + (1 : Int32)) sL) none (
   cond (z_oob (v3 + (2 : Int32)) sL) none (
   z_rI (ex 205 [.inr (.inr (12, 0)), .inl (sX (v3 + (1 : Int32)).toNatClampNeg), .inl (sX (v3 + (2 : Int32)).toNatClampNeg)] S143) (fun r146 S145 =>
   if r144 = r146 then (
    let x147 : Int32 := (v3 + (6 : Int32))
    z_lrun (some (sL, sX)) ex n 18 [some (.inr (.inr (90, 0))), some (.inr (.inr (11, 0))), some (.inr (.inr (12, 0))), some (.inl x147)] [] S145)
   else (
    some (some (.inl (0 : Int32)), S145))))))))) else
  if x1 = (27 : Int32) then (
   z_rI (ex 103 [.inr (.inr (11, 0))] S) (fun r149 S148 =>
   z_rI (ex 206 [.inr (.inr (12, 0))] S148) (fun r151 S150 =>
   if r149 = r151 then (
    let x152 : Int32 := (v3 + (6 : Int32))
    z_lrun (some (sL, sX)) ex n 18 [some (.inr (.inr (90, 0))), some (.inr (.inr (11, 0))), some (.inr (.inr (12, 0))), some (.inl x152)] [] S150)
   else (
    some (some (.inl (0 : Int32)), S150))))) else
  if x1 = (28 : Int32) then (
   cond (z_oob (v3 + (1 : Int32)) sL) none (
   cond (z_oob (v3 + (2 : Int32)) sL) none (
   z_rI (ex 104 [.inr (.inr (11, 0)), .inl (sX (v3 + (1 : Int32)).toNatClampNeg), .inl (sX (v3 + (2 : Int32)).toNatClampNeg)] S) (fun r154 S153 =>
   cond (z_oob (v3 + (1 : Int32)) sL) none (
   cond (z_oob (v3 + (2 : Int32)) sL) none (
   z_rI (ex 207 [.inr (.inr (12, 0)), .inl (sX (v3 + (1 : Int32)).toNatClampNeg), .inl (sX (v3 + (2 : Int32)).toNatClampNeg)] S153) (fun r156 S155 =>
   if r154 = r156 then (
    let x157 : Int32 := (v3 + (6 : Int32))
    z_lrun (some (sL, sX)) ex n 18 [some (.inr (.inr (90, 0))), some (.inr (.inr (11, 0))), some (.inr (.inr (12, 0))), some (.inl x157)] [] S155)
   else (
    some (some (.inl (0 : Int32)), S155))))))))) else
  if x1 = (29 : Int32) then (
   z_rI (ex 105 [.inr (.inr (11, 0))] S) (fun r159 S158 =>
   z_rI (ex 208 [.inr (.inr (12, 0))] S158) (fun r161 S160 =>
   if r159 = r161 then (
    let x162 : Int32 := (v3 + (6 : Int32))
    z_lrun (some (sL, sX)) ex n 18 [some (.inr (.inr (90, 0))), some (.inr (.inr (11, 0))), some (.inr (.inr (12, 0))), some (.inl x162)] [] S160)
   else (
    some (some (.inl (0 : Int32)), S160))))) else
  if x1 = (30 : Int32) then (
   z_rI (ex 106 [.inr (.inr (11, 0))] S) (fun r164 S163 =>
   z_rI (ex 209 [.inr (.inr (12, 0))] S163) (fun r166 S165 =>
   if r164 = r166 then (
    let x167 : Int32 := (v3 + (6 : Int32))
    z_lrun (some (sL, sX)) ex n 18 [some (.inr (.inr (90, 0))), some (.inr (.inr (11, 0))), some (.inr (.inr (12, 0))), some (.inl x167)] [] S165)
   else (
    some (some (.inl (0 : Int32)), S165))))) else
  if x1 = (31 : Int32) then (
   cond (z_oob (v3 + (1 : Int32)) sL) none (
   cond (z_oob (v3 + (2 : Int32)) sL) none (
   cond (z_oob (v3 + (3 : Int32)) sL) none (
   z_rI (ex 107 [.inr (.inr (11, 0)), .inl (sX (v3 + (1 : Int32)).toNatClampNeg), .inl (sX (v3 + (2 : Int32)).toNatClampNeg), .inl (sX (v3 + (3 : Int32)).toNatClampNeg)] S) (fun r169 S168 =>
   cond (z_oob (v3 + (1 : Int32)) sL) none (
   cond (z_oob (v3 + (2 : Int32)) sL) none (
   cond (z_oob (v3 + (3 : Int32)) sL) none (
   z_rI (ex 218 [.inr (.inr (12, 0)), .inl (sX (v3 + (1 : Int32)).toNatClampNeg), .inl (sX (v3 + (2 : Int32)).toNatClampNeg), .inl (sX (v3 + (3 : Int32)).toNatClampNeg)] S168) (fun r171 S170 =>
   if r169 = r171 then (
    let x172 : Int32 := (v3 + (6 : Int32))
    z_lrun (some (sL, sX)) ex n 18 [some (.inr (.inr (90, 0))), some (.inr (.inr (11, 0))), some (.inr (.inr (12, 0))), some (.inl x172)] [] S170)
   else (
    some (some (.inl (0 : Int32)), S170))))))))))) else
  if x1 = (32 : Int32) then (
   cond (z_oob (v3 + (1 : Int32)) sL) none (
   z_rI (ex 108 [.inr (.inr (11, 0)), .inl (sX (v3 + (1 : Int32)).toNatClampNeg)] S) (fun r174 S173 =>
   cond (z_oob (v3 + (1 : Int32)) sL) none (
   z_rI (ex 219 [.inr (.inr (12, 0)), .inl (sX (v3 + (1 : Int32)).toNatClampNeg)] S173) (fun r176 S175 =>
   if r174 = r176 then (
    let x177 : Int32 := (v3 + (6 : Int32))
    z_lrun (some (sL, sX)) ex n 18 [some (.inr (.inr (90, 0))), some (.inr (.inr (11, 0))), some (.inr (.inr (12, 0))), some (.inl x177)] [] S175)
   else (
    some (some (.inl (0 : Int32)), S175))))))) else
  if x1 = (33 : Int32) then (
   cond (z_oob (v3 + (1 : Int32)) sL) none (
   cond (z_oob (v3 + (2 : Int32)) sL) none (
   z_rI (ex 109 [.inr (.inr (11, 0)), .inl (sX (v3 + (1 : Int32)).toNatClampNeg), .inl (sX (v3 + (2 : Int32)).toNatClampNeg)] S) (fun r179 S178 =>
   cond (z_oob (v3 + (1 : Int32)) sL) none (
   cond (z_oob (v3 + (2 : Int32)) sL) none (
   z_rI (ex 220 [.inr (.inr (12, 0)), .inl (sX (v3 + (1 : Int32)).toNatClampNeg), .inl (sX (v3 + (2 : Int32)).toNatClampNeg)] S178) (fun r181 S180 =>
   if r179 = r181 then (
    let x182 : Int32 := (v3 + (6 : Int32))
    z_lrun (some (sL, sX)) ex n 18 [some (.inr (.inr (90, 0))), some (.inr (.inr (11, 0))), some (.inr (.inr (12, 0))), some (.inl x182)] [] S180)
   else (
    some (some (.inl (0 : Int32)), S180))))))))) else
  if x1 = (34 : Int32) then (
   cond (z_oob (v3 + (1 : Int32)) sL) none (
   z_rI (ex 110 [.inr (.inr (11, 0)), .inl (sX (v3 + (1 : Int32)).toNatClampNeg)] S) (fun r184 S183 =>
   cond (z_oob (v3 + (1 : Int32)) sL) none (
   z_rI (ex 221 [.inr (.inr (12, 0)), .inl (sX (v3 + (1 : Int32)).toNatClampNeg)] S183) (fun r186 S185 =>
   if r184 = r186 then (
    let x187 : Int32 := (v3 + (6 : Int32))
    z_lrun (some (sL, sX)) ex n 18 [some (.inr (.inr (90, 0))), some (.inr (.inr (11, 0))), some (.inr (.inr (12, 0))), some (.inl x187)] [] S185)
   else (
    some (some (.inl (0 : Int32)), S185))))))) else
  if x1 = (35 : Int32) then (
   cond (z_oob (v3 + (1 : Int32)) sL) none (
   cond (z_oob (v3 + (2 : Int32)) sL) none (
   cond (z_oob (v3 + (3 : Int32)) sL) none (
   z_rI (ex 111 [.inr (.inr (11, 0)), .inl (sX (v3 + (1 : Int32)).toNatClampNeg), .inl (sX (v3 + (2 : Int32)).toNatClampNeg), .inl (sX (v3 + (3 : Int32)).toNatClampNeg)] S) (fun r189 S188 =>
   cond (z_oob (v3 + (1 : Int32)) sL) none (
   cond (z_oob (v3 + (2 : Int32)) sL) none (
   cond (z_oob (v3 + (3 : Int32)) sL) none (
   z_rI (ex 223 [.inr (.inr (12, 0)), .inl (sX (v3 + (1 : Int32)).toNatClampNeg), .inl (sX (v3 + (2 : Int32)).toNatClampNeg), .inl (sX (v3 + (3 : Int32)).toNatClampNeg)] S188) (fun r191 S190 =>
   if r189 = r191 then (
    let x192 : Int32 := (v3 + (6 : Int32))
    z_lrun (some (sL, sX)) ex n 18 [some (.inr (.inr (90, 0))), some (.inr (.inr (11, 0))), some (.inr (.inr (12, 0))), some (.inl x192)] [] S190)
   else (
    some (some (.inl (0 : Int32)), S190))))))))))) else
  if x1 = (36 : Int32) then (
   cond (z_oob (v3 + (1 : Int32)) sL) none (
   cond (z_oob (v3 + (2 : Int32)) sL) none (
   cond (z_oob (v3 + (3 : Int32)) sL) none (
   cond (z_oob (v3 + (4 : Int32)) sL) none (
   z_rI (ex 112 [.inr (.inr (11, 0)), .inl (sX (v3 + (1 : Int32)).toNatClampNeg), .inl (sX (v3 + (2 : Int32)).toNatClampNeg), .inr (.inl (((Int32.toInt64 (sX (v3 + (3 : Int32)).toNatClampNeg)) <<< ((32 : Int32).toInt64 &&& 63)) ||| ((Int32.toInt64 (sX (v3 + (4 : Int32)).toNatClampNeg)) &&& (Int64.ofNat 4294967295))))] S) (fun r194 S193 =>
   cond (z_oob (v3 + (1 : Int32)) sL) none (
   cond (z_oob (v3 + (2 : Int32)) sL) none (
   cond (z_oob (v3 + (3 : Int32)) sL) none (
   cond (z_oob (v3 + (4 : Int32)) sL) none (
   z_rI (ex 225 [.inr (.inr (12, 0)), .inl (sX (v3 + (1 : Int32)).toNatClampNeg), .inl (sX (v3 + (2 : Int32)).toNatClampNeg), .inr (.inl (((Int32.toInt64 (sX (v3 + (3 : Int32)).toNatClampNeg)) <<< ((32 : Int32).toInt64 &&& 63)) ||| ((Int32.toInt64 (sX (v3 + (4 : Int32)).toNatClampNeg)) &&& (Int64.ofNat 4294967295))))] S193) (fun r196 S195 =>
   if r194 = r196 then (
    let x197 : Int32 := (v3 + (6 : Int32))
    z_lrun (some (sL, sX)) ex n 18 [some (.inr (.inr (90, 0))), some (.inr (.inr (11, 0))), some (.inr (.inr (12, 0))), some (.inl x197)] [] S195)
   else (
    some (some (.inl (0 : Int32)), S195))))))))))))) else
  if x1 = (37 : Int32) then (
   cond (z_oob (v3 + (1 : Int32)) sL) none (
   cond (z_oob (v3 + (2 : Int32)) sL) none (
   z_rL (ex 113 [.inr (.inr (11, 0)), .inl (sX (v3 + (1 : Int32)).toNatClampNeg), .inl (sX (v3 + (2 : Int32)).toNatClampNeg)] S) (fun r199 S198 =>
   cond (z_oob (v3 + (1 : Int32)) sL) none (
   cond (z_oob (v3 + (2 : Int32)) sL) none (
   z_rL (ex 226 [.inr (.inr (12, 0)), .inl (sX (v3 + (1 : Int32)).toNatClampNeg), .inl (sX (v3 + (2 : Int32)).toNatClampNeg)] S198) (fun r201 S200 =>
   if (lg_cmp r199 r201) = 0 then (
    let x202 : Int32 := (v3 + (6 : Int32))
    z_lrun (some (sL, sX)) ex n 18 [some (.inr (.inr (90, 0))), some (.inr (.inr (11, 0))), some (.inr (.inr (12, 0))), some (.inl x202)] [] S200)
   else (
    some (some (.inl (0 : Int32)), S200))))))))) else
  if x1 = (38 : Int32) then (
   cond (z_oob (v3 + (1 : Int32)) sL) none (
   cond (z_oob (v3 + (2 : Int32)) sL) none (
   cond (z_oob (v3 + (3 : Int32)) sL) none (
   cond (z_oob (v3 + (4 : Int32)) sL) none (
   cond (z_oob (v3 + (5 : Int32)) sL) none (
   z_rI (ex 114 [.inr (.inr (11, 0)), .inl (sX (v3 + (1 : Int32)).toNatClampNeg), .inl (sX (v3 + (2 : Int32)).toNatClampNeg), .inl (sX (v3 + (3 : Int32)).toNatClampNeg), .inl (sX (v3 + (4 : Int32)).toNatClampNeg), .inl (sX (v3 + (5 : Int32)).toNatClampNeg)] S) (fun r204 S203 =>
   cond (z_oob (v3 + (1 : Int32)) sL) none (
   cond (z_oob (v3 + (2 : Int32)) sL) none (
   cond (z_oob (v3 + (3 : Int32)) sL) none (
   cond (z_oob (v3 + (4 : Int32)) sL) none (
   cond (z_oob (v3 + (5 : Int32)) sL) none (
   z_rI (ex 227 [.inr (.inr (12, 0)), .inl (sX (v3 + (1 : Int32)).toNatClampNeg), .inl (sX (v3 + (2 : Int32)).toNatClampNeg), .inl (sX (v3 + (3 : Int32)).toNatClampNeg), .inl (sX (v3 + (4 : Int32)).toNatClampNeg), .inl (sX (v3 + (5 : Int32)).toNatClampNeg)] S203) (fun r206 S205 =>
   if r204 = r206 then (
    let x207 : Int32 := (v3 + (6 : Int32))
    z_lrun (some (sL, sX)) ex n 18 [some (.inr (.inr (90, 0))), some (.inr (.inr (11, 0))), some (.inr (.inr (12, 0))), some (.inl x207)] [] S205)
   else (
    some (some (.inl (0 : Int32)), S205))))))))))))))) else
  let x208 : Int32 := (v3 + (6 : Int32))
  z_lrun (some (sL, sX)) ex n 18 [some (.inr (.inr (90, 0))), some (.inr (.inr (11, 0))), some (.inr (.inr (12, 0))), some (.inl x208)] [] S)) := rfl
