set_option maxRecDepth 100000 in
set_option maxHeartbeats 400000 in
theorem zh_90 (ex : z_Ex) (n : Nat) (S : z_Mem) (i0 : Nat) (v1 : Int32) (v2 : Int32) (v3 : Int32) (x20 : Int32) (v5 : Int32) (v6 : Int32) : z_go true none ex true zo_X12_holds zc_X12_holds (fun pc' ls' st' S' => z_run true ex true zo_X12_holds zc_X12_holds n pc' ls' st' S') (fun r S' => some (r, S')) 1991 90 [some (.inr (.inr (12, i0))), some (.inl v1), some (.inl v2), some (.inl v3), some (.inl x20), some (.inl v5), some (.inl v6), none, none] [.inl (x20 - (1 : Int32)), .inr (.inr (52, i0))] S =
  cond (z_oob (x20 - (1 : Int32)) 100) none (
  if (S.1 52 i0 (Int32.toNatClampNeg (x20 - (1 : Int32)))) = 0 then (
   cond (z_oob (x20 - (1 : Int32)) 100) none (
   let S21 : z_Mem := z_sI S 52 i0 (Int32.toNatClampNeg (x20 - (1 : Int32))) (vp_nar .boolean (0 : Int32))
   zr_X12_holds ex n 247 [some (.inr (.inr (12, i0))), some (.inl v1), some (.inl v2), some (.inl v3), some (.inl x20), some (.inl v5), none, none, none] [] S21))
  else (
   cond (z_oob x20 100) none (
   if (S.1 52 i0 (Int32.toNatClampNeg x20)) = 0 then (
    cond (z_oob (x20 - (1 : Int32)) 100) none (
    let S22 : z_Mem := z_sI S 52 i0 (Int32.toNatClampNeg (x20 - (1 : Int32))) (vp_nar .boolean (0 : Int32))
    zr_X12_holds ex n 247 [some (.inr (.inr (12, i0))), some (.inl v1), some (.inl v2), some (.inl v3), some (.inl x20), some (.inl v5), none, none, none] [] S22))
   else (
    cond (z_oob (x20 - (1 : Int32)) 100) none (
    let S23 : z_Mem := z_sI S 52 i0 (Int32.toNatClampNeg (x20 - (1 : Int32))) (vp_nar .boolean (1 : Int32))
    zr_X12_holds ex n 247 [some (.inr (.inr (12, i0))), some (.inl v1), some (.inl v2), some (.inl v3), some (.inl x20), some (.inl v5), none, none, none] [] S23))))) := rfl
set_option maxRecDepth 100000 in
set_option maxHeartbeats 400000 in
theorem zh_120 (ex : z_Ex) (n : Nat) (S : z_Mem) (i0 : Nat) (v1 : Int32) (v2 : Int32) (v3 : Int32) (x20 : Int32) (v5 : Int32) (v6 : Int32) : z_go true none ex true zo_X12_holds zc_X12_holds (fun pc' ls' st' S' => z_run true ex true zo_X12_holds zc_X12_holds n pc' ls' st' S') (fun r S' => some (r, S')) 1991 120 [some (.inr (.inr (12, i0))), some (.inl v1), some (.inl v2), some (.inl v3), some (.inl x20), some (.inl v5), some (.inl v6), none, none] [.inl (x20 - (1 : Int32)), .inr (.inr (52, i0))] S =
  cond (z_oob (x20 - (1 : Int32)) 100) none (
  if (S.1 52 i0 (Int32.toNatClampNeg (x20 - (1 : Int32)))) = 0 then (
   cond (z_oob x20 100) none (
   if (S.1 52 i0 (Int32.toNatClampNeg x20)) = 0 then (
    cond (z_oob (x20 - (1 : Int32)) 100) none (
    let S24 : z_Mem := z_sI S 52 i0 (Int32.toNatClampNeg (x20 - (1 : Int32))) (vp_nar .boolean (0 : Int32))
    zr_X12_holds ex n 247 [some (.inr (.inr (12, i0))), some (.inl v1), some (.inl v2), some (.inl v3), some (.inl x20), some (.inl v5), none, none, none] [] S24))
   else (
    cond (z_oob (x20 - (1 : Int32)) 100) none (
    let S25 : z_Mem := z_sI S 52 i0 (Int32.toNatClampNeg (x20 - (1 : Int32))) (vp_nar .boolean (1 : Int32))
    zr_X12_holds ex n 247 [some (.inr (.inr (12, i0))), some (.inl v1), some (.inl v2), some (.inl v3), some (.inl x20), some (.inl v5), none, none, none] [] S25))))
  else (
   cond (z_oob (x20 - (1 : Int32)) 100) none (
   let S26 : z_Mem := z_sI S 52 i0 (Int32.toNatClampNeg (x20 - (1 : Int32))) (vp_nar .boolean (1 : Int32))
   zr_X12_holds ex n 247 [some (.inr (.inr (12, i0))), some (.inl v1), some (.inl v2), some (.inl v3), some (.inl x20), some (.inl v5), none, none, none] [] S26))) := rfl
set_option maxRecDepth 100000 in
set_option maxHeartbeats 400000 in
theorem zh_75 (ex : z_Ex) (n : Nat) (S : z_Mem) (i0 : Nat) (v1 : Int32) (v2 : Int32) (v3 : Int32) (x20 : Int32) (v5 : Int32) (v6 : Int32) : z_go true none ex true zo_X12_holds zc_X12_holds (fun pc' ls' st' S' => z_run true ex true zo_X12_holds zc_X12_holds n pc' ls' st' S') (fun r S' => some (r, S'))  1999 75 [some (.inr (.inr (12, i0))), some (.inl v1), some (.inl v2), some (.inl v3), some (.inl x20), some (.inl v5), some (.inl v6), none, none] [] S =
 if v6 = (-38 : Int32) then z_go true none ex true zo_X12_holds zc_X12_holds (fun pc' ls' st' S' => z_run true ex true zo_X12_holds zc_X12_holds n pc' ls' st' S') (fun r S' => some (r, S'))  1991 90 [some (.inr (.inr (12, i0))), some (.inl v1), some (.inl v2), some (.inl v3), some (.inl x20), some (.inl v5), some (.inl v6), none, none] [.inl (x20 - (1 : Int32)), .inr (.inr (52, i0))] S else z_go true none ex true zo_X12_holds zc_X12_holds (fun pc' ls' st' S' => z_run true ex true zo_X12_holds zc_X12_holds n pc' ls' st' S') (fun r S' => some (r, S'))  1991 120 [some (.inr (.inr (12, i0))), some (.inl v1), some (.inl v2), some (.inl v3), some (.inl x20), some (.inl v5), some (.inl v6), none, none] [.inl (x20 - (1 : Int32)), .inr (.inr (52, i0))] S := rfl
theorem z_go_iinc {ρ : Type} {md : Bool} {sc : z_Sc} {ex : z_Ex} {bo : Bool} {ops : List z_Op} {cuts : List (Nat × List Bool)} {K : Nat → z_Lc → List z_AV → z_Mem → Option ρ} {Kr : Option z_AV → z_Mem → Option ρ} {k pc a b c i ln : Nat} {cc : Int} {x v : Int32} {sw : List (Int32 × Nat)} {ls l : z_Lc} {st : List z_AV} {S : z_Mem}
    (h : z_lk ops pc = some (.iinc i cc, (ln, (a, (b, (c, (x, sw))))))) (hl : ls.getD a none = some (.inl v)) (hs : z_st ls a (.inl (v + x)) = some l) (hc : z_cut cuts (pc + 3) = none) :
    z_go md sc ex bo ops cuts K Kr (k + 1) pc ls st S = z_go md sc ex bo ops cuts K Kr k (pc + 3) l st S := by
  simp only [z_go, h, z_stp, hl, hs, hc]
set_option maxRecDepth 100000 in
set_option maxHeartbeats 400000 in
theorem zh_72 (ex : z_Ex) (n : Nat) (S : z_Mem) (i0 : Nat) (v1 : Int32) (v2 : Int32) (v3 : Int32) (v4 : Int32) (v5 : Int32) (v6 : Int32) : zr_X12_holds ex (n + 1) 72 [some (.inr (.inr (12, i0))), some (.inl v1), some (.inl v2), some (.inl v3), some (.inl v4), some (.inl v5), some (.inl v6), none, none] [] S = z_go true none ex true zo_X12_holds zc_X12_holds (fun pc' ls' st' S' => z_run true ex true zo_X12_holds zc_X12_holds n pc' ls' st' S') (fun r S' => some (r, S'))  1999 75 [some (.inr (.inr (12, i0))), some (.inl v1), some (.inl v2), some (.inl v3), some (.inl (v4 + (-1 : Int32))), some (.inl v5), some (.inl v6), none, none] [] S := z_go_iinc (k := 1999) (pc := 72) rfl rfl rfl rfl
set_option maxRecDepth 100000 in
set_option maxHeartbeats 4000000 in
theorem ze_X12_holds_72 (ex : z_Ex) (n : Nat) (S : z_Mem) (i0 : Nat) (v1 : Int32) (v2 : Int32) (v3 : Int32) (v4 : Int32) (v5 : Int32) (v6 : Int32) : zr_X12_holds ex (n + 1) 72 [some (.inr (.inr (12, i0))), some (.inl v1), some (.inl v2), some (.inl v3), some (.inl v4), some (.inl v5), some (.inl v6), none, none] [] S =
 let x20 : Int32 := (v4 + (-1 : Int32))
 if v6 = (-38 : Int32) then (
  cond (z_oob (x20 - (1 : Int32)) 100) none (
  if (S.1 52 i0 (Int32.toNatClampNeg (x20 - (1 : Int32)))) = 0 then (
   cond (z_oob (x20 - (1 : Int32)) 100) none (
   let S21 : z_Mem := z_sI S 52 i0 (Int32.toNatClampNeg (x20 - (1 : Int32))) (vp_nar .boolean (0 : Int32))
   zr_X12_holds ex n 247 [some (.inr (.inr (12, i0))), some (.inl v1), some (.inl v2), some (.inl v3), some (.inl x20), some (.inl v5), none, none, none] [] S21))
  else (
   cond (z_oob x20 100) none (
   if (S.1 52 i0 (Int32.toNatClampNeg x20)) = 0 then (
    cond (z_oob (x20 - (1 : Int32)) 100) none (
    let S22 : z_Mem := z_sI S 52 i0 (Int32.toNatClampNeg (x20 - (1 : Int32))) (vp_nar .boolean (0 : Int32))
    zr_X12_holds ex n 247 [some (.inr (.inr (12, i0))), some (.inl v1), some (.inl v2), some (.inl v3), some (.inl x20), some (.inl v5), none, none, none] [] S22))
   else (
    cond (z_oob (x20 - (1 : Int32)) 100) none (
    let S23 : z_Mem := z_sI S 52 i0 (Int32.toNatClampNeg (x20 - (1 : Int32))) (vp_nar .boolean (1 : Int32))
    zr_X12_holds ex n 247 [some (.inr (.inr (12, i0))), some (.inl v1), some (.inl v2), some (.inl v3), some (.inl x20), some (.inl v5), none, none, none] [] S23))))))
 else (
  cond (z_oob (x20 - (1 : Int32)) 100) none (
  if (S.1 52 i0 (Int32.toNatClampNeg (x20 - (1 : Int32)))) = 0 then (
   cond (z_oob x20 100) none (
   if (S.1 52 i0 (Int32.toNatClampNeg x20)) = 0 then (
    cond (z_oob (x20 - (1 : Int32)) 100) none (
    let S24 : z_Mem := z_sI S 52 i0 (Int32.toNatClampNeg (x20 - (1 : Int32))) (vp_nar .boolean (0 : Int32))
    zr_X12_holds ex n 247 [some (.inr (.inr (12, i0))), some (.inl v1), some (.inl v2), some (.inl v3), some (.inl x20), some (.inl v5), none, none, none] [] S24))
   else (
    cond (z_oob (x20 - (1 : Int32)) 100) none (
    let S25 : z_Mem := z_sI S 52 i0 (Int32.toNatClampNeg (x20 - (1 : Int32))) (vp_nar .boolean (1 : Int32))
    zr_X12_holds ex n 247 [some (.inr (.inr (12, i0))), some (.inl v1), some (.inl v2), some (.inl v3), some (.inl x20), some (.inl v5), none, none, none] [] S25))))
  else (
   cond (z_oob (x20 - (1 : Int32)) 100) none (
   let S26 : z_Mem := z_sI S 52 i0 (Int32.toNatClampNeg (x20 - (1 : Int32))) (vp_nar .boolean (1 : Int32))
   zr_X12_holds ex n 247 [some (.inr (.inr (12, i0))), some (.inl v1), some (.inl v2), some (.inl v3), some (.inl x20), some (.inl v5), none, none, none] [] S26)))) := by
  rw [zh_72, zh_75, zh_90, zh_120]
