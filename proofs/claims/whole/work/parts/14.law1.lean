/-! ===== from the constructors' world to the named one ===== -/
theorem z_shK_lt {t j : Nat} (h : z_shK t j = 2 ∨ z_shK t j = 3) : j < z_nF t := by
  refine Nat.lt_of_not_le (fun hj => ?_)
  have h9 : z_shK t j = 9 := by
    unfold z_shK
    unfold z_nF at hj
    rw [List.getD_eq_getElem?_getD, List.getElem?_eq_none hj]
    rfl
  rw [h9] at h
  rcases h with h | h <;> cases h
theorem z_rv_eq {S : z_Mem} (hrv : z_chkV S = true) {n : Nat} {r : Nat × Nat} (hr : z_ord[n]? = some r) {k : Nat} (hk : z_shK r.1 k = 2 ∨ z_shK r.1 k = 3) : z_rv true S r.1 r.2 k = z_rv false S r.1 r.2 k := by
  unfold z_chkV at hrv
  have h1 := List.all_eq_true.mp (List.all_eq_true.mp hrv r (List.mem_of_getElem? hr)) k (List.mem_range.mpr (z_shK_lt hk))
  rw [Bool.or_eq_true] at h1
  rcases h1 with h1 | h1
  · have h2 := Nat.blt_eq.mp h1
    omega
  · rw [Bool.and_eq_true] at h1
    exact Prod.ext (Nat.eq_of_beq_eq_true h1.1) (Nat.eq_of_beq_eq_true h1.2)
theorem z_re_eq {S : z_Mem} (hre : z_chkE S = true) {n : Nat} {r : Nat × Nat} (hr : z_ord[n]? = some r) (h5 : z_aK r.1 = 5) {k : Nat} (hk : k < z_aN r.1 r.2) : z_re true S r.1 r.2 k = z_re false S r.1 r.2 k := by
  unfold z_chkE at hre
  have h1 := List.all_eq_true.mp hre r (List.mem_of_getElem? hr)
  rw [h5] at h1
  have h2 : (List.range (z_aN r.1 r.2)).all (fun k => Nat.beq (z_re true S r.1 r.2 k).1 (z_re false S r.1 r.2 k).1 && Nat.beq (z_re true S r.1 r.2 k).2 (z_re false S r.1 r.2 k).2) = true := h1
  have h3 := List.all_eq_true.mp h2 k (List.mem_range.mpr hk)
  rw [Bool.and_eq_true] at h3
  exact Prod.ext (Nat.eq_of_beq_eq_true h3.1) (Nat.eq_of_beq_eq_true h3.2)
theorem z_mok_md {S : z_Mem} (hrv : z_chkV S = true)
    (hre : z_chkE S = true) (h : z_mok false S) : z_mok true S := by
  intro k r hk hr
  refine ⟨fun j hj => ?_, fun h5 j hj => ?_⟩
  · rw [z_rv_eq hrv hr hj]
    exact (h k r hk hr).1 j hj
  · rw [z_re_eq hre hr h5 hj]
    exact (h k r hk hr).2 h5 j hj
theorem z_ws_md {S : z_Mem} (hrv : z_chkV S = true)
    (hre : z_chkE S = true) (α : Nat × Nat → Nat) (cA : Nat × Nat → ClassId) : z_ws α cA true S = z_ws α cA false S := by
  unfold z_ws
  refine List.map_congr_left (fun r hr => ?_)
  obtain ⟨n, hn⟩ := List.getElem?_of_mem (List.mem_of_mem_take hr)
  unfold z_cell
  congr 1
  have e1 : (List.range (z_nF r.1)).map (z_fv α true S r.1 r.2) = (List.range (z_nF r.1)).map (z_fv α false S r.1 r.2) := by
    refine List.map_congr_left (fun j hj => ?_)
    unfold z_fv
    split
    · rfl
    · rfl
    · rename_i h0 h1
      have hs : z_shK r.1 j = 2 ∨ z_shK r.1 j = 3 := by
        rcases z_kd (List.mem_range.mp hj) with h | h | h | h
        · exact absurd h h0
        · exact absurd h h1
        · exact Or.inl h
        · exact Or.inr h
      rw [z_rv_eq hrv hn hs]
  unfold z_bd
  split
  · rw [e1]
  · rfl
  · rename_i h5
    have h6 : (fun j => if j < z_aN r.1 r.2 then z_op α (z_re true S r.1 r.2 j) else none) = (fun j => if j < z_aN r.1 r.2 then z_op α (z_re false S r.1 r.2 j) else none) := by
      funext j
      by_cases hj : j < z_aN r.1 r.2
      · rw [if_pos hj, if_pos hj, z_re_eq hre hn h5 hj]
      · rw [if_neg hj, if_neg hj]
    rw [h6]
  · rfl
/-- the law's own loop -/
def z_lrun (sc : z_Sc) (ex : z_Ex) : Nat → Nat → z_Lc → List z_AV → z_Mem → Option (Option z_AV × z_Mem)
  | 0, _, _, _, _ => none
  | n + 1, pc, la, sa, S => z_go true sc ex true zo_L_law zc_L_law (fun pc' la' sa' S' => z_lrun sc ex n pc' la' sa' S') (fun r S' => some (r, S')) 2000 pc la sa S
section ZLW
variable {p : Program} {l : Launch} {e : Env} {R : Room} {s : State} {m : MethodId} {args : Array Value} {below : List Frame} {meth : Method} {c : Code} {Q : State → Prop}
variable {D : va_G} {A : Nat → Prop} {md : Bool} {sc : z_Sc} {α0 : Nat × Nat → Nat} {n0 n1 nL o : Nat} {ini : Bool} {cc : ByteArray}
theorem z_lrun_ok {res : Option z_AV × z_Mem} {ex : z_Ex} {d : Nat} {ret2 : Option FieldType} (C0 : z_Ct p R s m args meth c cc nL o ini n0 n1) (hRd : d + 1 ≤ R.frames ∧ 100 * (d + 1) ≤ R.locals)
    (hops : z_ops cc o nL ini ret2 true zo_L_law) (hex : ∀ j as S r S', ex j as S = some (r, S') → z_Ctr l d true j as S r S')
    (hKr : ∀ pc la, z_rok cc pc ret2 res.1 → z_gw p l e R s m args below meth c Q D A true sc α0 n0 n1 nL pc la res.1.toList res.2) : ∀ (n pc : Nat) (la : z_Lc) (sa : List z_AV) (S : z_Mem), z_lrun sc ex n pc la sa S = some res → z_gw p l e R s m args below meth c Q D A true sc α0 n0 n1 nL pc la sa S := by
  intro n
  induction n with
  | zero => intro pc la sa S h; cases h
  | succ n ih =>
    intro pc la sa S h
    unfold z_lrun at h
    refine z_go_ok C0 hRd hops hex ih (fun pc la r S hr hk => ?_) _ _ _ _ _ h
    have e1 : (r, S) = res := Option.some.inj hr
    subst e1
    exact hKr pc la hk
end ZLW
theorem z_known {s : State} {args : Array Value} (hts : ∀ w ∈ lw_tbl, w.before args s = true) : ∃ D : va_G, va_K D vwCl [] s := by
  have h : ∀ k : Nat, ∃ q : ClassId × (Nat → Nat), ∀ (C : String) (T : u_T) (N : Nat), vwCl[k]? = some (C, T, N) → u_Kn s C T N q.1 q.2 := by
    intro k
    cases hz : vwCl[k]? with
    | none => exact ⟨(0, fun _ => 0), fun C T N e => by cases e⟩
    | some q =>
      obtain ⟨C, T, N⟩ := q
      have hk : k < 12 := (List.getElem?_eq_some_iff.mp hz).1
      obtain ⟨h1, -, -, hN, -, hC, -⟩ := z_cf _ _ _ _ hz
      have h2 := z_it_in (k + 1) (by unfold z_it z_it_0; simp; omega)
      unfold z_itw at h2
      rw [← hC] at h2
      obtain ⟨cC, iS, h3⟩ := u_known (C := C) (T := T) (N := N) hts (fun w hw => (h1 w hw).1) (hts _ h2.1)
      exact ⟨(cC, iS), fun C2 T2 N2 e => by cases e; exact h3⟩
  refine ⟨(fun k => (Classical.choose (h k)).1, fun k => (Classical.choose (h k)).2), fun k q hq => ?_, fun k q hq => by simp at hq⟩
  obtain ⟨C, T, N⟩ := q
  exact Classical.choose_spec (h k) C T N hq
theorem z_sz176 : z_sz 176 ≤ 7302250 := Nat.le_of_ble_eq_true (by decide +kernel)
theorem z_all_ch {β : Type} {f : β → Bool} : ∀ (n : Nat) (l : List β), (∀ k, k < n → ((l.drop (50 * k)).take 50).all f = true) → l.length ≤ 50 * n → l.all f = true
  | 0, l, _, hl => by
    cases l with
    | nil => rfl
    | cons a r => simp at hl
  | n + 1, l, h, hl => by
    rw [← List.take_append_drop 50 l, List.all_append, Bool.and_eq_true]
    refine ⟨h 0 (Nat.succ_pos n), z_all_ch n _ (fun k hk => ?_) (by rw [List.length_drop]; omega)⟩
    rw [List.drop_drop]
    have h1 := h (k + 1) (by omega)
    rw [show 50 * (k + 1) = 50 + 50 * k by omega] at h1
    exact h1
