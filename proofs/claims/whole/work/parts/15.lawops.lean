/-! ===== the law's own instructions ===== -/
set_option maxRecDepth 100000 in
theorem zl_0 : ((zo_L_law.drop (50 * 0)).take 50).all (z_okb code 16 4 false ret true) = true := by decide +kernel
set_option maxRecDepth 100000 in
theorem zl_1 : ((zo_L_law.drop (50 * 1)).take 50).all (z_okb code 16 4 false ret true) = true := by decide +kernel
set_option maxRecDepth 100000 in
theorem zl_2 : ((zo_L_law.drop (50 * 2)).take 50).all (z_okb code 16 4 false ret true) = true := by decide +kernel
set_option maxRecDepth 100000 in
theorem zl_3 : ((zo_L_law.drop (50 * 3)).take 50).all (z_okb code 16 4 false ret true) = true := by decide +kernel
set_option maxRecDepth 100000 in
theorem zl_4 : ((zo_L_law.drop (50 * 4)).take 50).all (z_okb code 16 4 false ret true) = true := by decide +kernel
set_option maxRecDepth 100000 in
theorem zl_5 : ((zo_L_law.drop (50 * 5)).take 50).all (z_okb code 16 4 false ret true) = true := by decide +kernel
set_option maxRecDepth 100000 in
theorem zl_6 : ((zo_L_law.drop (50 * 6)).take 50).all (z_okb code 16 4 false ret true) = true := by decide +kernel
set_option maxRecDepth 100000 in
theorem zl_7 : ((zo_L_law.drop (50 * 7)).take 50).all (z_okb code 16 4 false ret true) = true := by decide +kernel
set_option maxRecDepth 100000 in
theorem zl_8 : ((zo_L_law.drop (50 * 8)).take 50).all (z_okb code 16 4 false ret true) = true := by decide +kernel
set_option maxRecDepth 100000 in
theorem zl_9 : ((zo_L_law.drop (50 * 9)).take 50).all (z_okb code 16 4 false ret true) = true := by decide +kernel
set_option maxRecDepth 100000 in
theorem zl_10 : ((zo_L_law.drop (50 * 10)).take 50).all (z_okb code 16 4 false ret true) = true := by decide +kernel
set_option maxRecDepth 100000 in
theorem zl_11 : ((zo_L_law.drop (50 * 11)).take 50).all (z_okb code 16 4 false ret true) = true := by decide +kernel
set_option maxRecDepth 100000 in
theorem zl_12 : ((zo_L_law.drop (50 * 12)).take 50).all (z_okb code 16 4 false ret true) = true := by decide +kernel
set_option maxRecDepth 100000 in
theorem zl_13 : ((zo_L_law.drop (50 * 13)).take 50).all (z_okb code 16 4 false ret true) = true := by decide +kernel
set_option maxRecDepth 100000 in
theorem zl_14 : ((zo_L_law.drop (50 * 14)).take 50).all (z_okb code 16 4 false ret true) = true := by decide +kernel
set_option maxRecDepth 100000 in
theorem zl_15 : ((zo_L_law.drop (50 * 15)).take 50).all (z_okb code 16 4 false ret true) = true := by decide +kernel
set_option maxRecDepth 100000 in
theorem zl_16 : ((zo_L_law.drop (50 * 16)).take 50).all (z_okb code 16 4 false ret true) = true := by decide +kernel
set_option maxRecDepth 100000 in
theorem zl_17 : ((zo_L_law.drop (50 * 17)).take 50).all (z_okb code 16 4 false ret true) = true := by decide +kernel
set_option maxRecDepth 100000 in
theorem zl_18 : ((zo_L_law.drop (50 * 18)).take 50).all (z_okb code 16 4 false ret true) = true := by decide +kernel
set_option maxRecDepth 100000 in
theorem zl_19 : ((zo_L_law.drop (50 * 19)).take 50).all (z_okb code 16 4 false ret true) = true := by decide +kernel
set_option maxRecDepth 100000 in
theorem zl_20 : ((zo_L_law.drop (50 * 20)).take 50).all (z_okb code 16 4 false ret true) = true := by decide +kernel
theorem zl_all : z_ops code 16 4 false ret true zo_L_law := z_okl (z_all_ch 21 _ (fun k hk => by
  match k, hk with
  | 0, _ => exact zl_0
  | 1, _ => exact zl_1
  | 2, _ => exact zl_2
  | 3, _ => exact zl_3
  | 4, _ => exact zl_4
  | 5, _ => exact zl_5
  | 6, _ => exact zl_6
  | 7, _ => exact zl_7
  | 8, _ => exact zl_8
  | 9, _ => exact zl_9
  | 10, _ => exact zl_10
  | 11, _ => exact zl_11
  | 12, _ => exact zl_12
  | 13, _ => exact zl_13
  | 14, _ => exact zl_14
  | 15, _ => exact zl_15
  | 16, _ => exact zl_16
  | 17, _ => exact zl_17
  | 18, _ => exact zl_18
  | 19, _ => exact zl_19
  | 20, _ => exact zl_20
  | k + 21, hk => omega) (by decide +kernel))
def z_nsw (q : Nat × (Nat × (Nat × (Nat × (Nat × (Nat × Nat)))))) : Cond := .methodLinkNest (z_on q.1) q.2.1 (z_yn q.2.2.1) (z_on q.1)
theorem z_nsw_ok : z_nst.map z_nsw = z_pk [(1, 56), (1, 129), (1, 160), (2, 43)] := rfl
def z_alw (a : Nat) : Cond := .arrayOver (.object (z_cn a))
theorem z_alw_ok : z_al.map z_alw = z_pk [(1, 199), (1, 51), (1, 53)] := rfl
theorem z_nw_of {s : State} {args : Array Value} (hts : ∀ w ∈ lw_tbl, w.before args s = true) : z_NW s := by
  refine ⟨fun q hq => va_Nw.of rfl (hts _ ?_), fun q hq => va_AO.of (hts _ ?_)⟩
  · exact z_pk_in (ps := [(1, 56), (1, 129), (1, 160), (2, 43)]) (by rw [← z_nsw_ok]; exact List.mem_map_of_mem (f := z_nsw) hq)
  · exact z_pk_in (ps := [(1, 199), (1, 51), (1, 53)]) (by rw [← z_alw_ok]; exact List.mem_map_of_mem (f := z_alw) hq)
