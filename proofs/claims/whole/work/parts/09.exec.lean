/-! ===== methods ===== -/
def z_Pc (D : va_G) (md : Bool) (α : Nat × Nat → Nat) (cA : Nat × Nat → ClassId) (S : z_Mem) (sz : Nat) (as : List z_AV) : Array Value → State → Prop :=
  va_Pc (as.map (z_cV α)) (fun U => U.heap.size = sz ∧ z_NW U ∧ (∃ tys, va_K D vwCl tys U ∧ z_tok cA S.2.2.2 tys) ∧ va_P D vwCl (z_ws α cA md S) U.heap ∧ va_D (fun _ => True) (z_ws α cA md S))
def z_QB (D : va_G) (md : Bool) (α : Nat × Nat → Nat) (cA : Nat × Nat → ClassId) (S S' : z_Mem) (sz : Nat) (u : (Nat × Nat → Nat) × (Nat × Nat → ClassId)) (t : State) : Prop :=
  S'.2.2.2 ≤ 176 ∧ (∀ r, z_okR S.2.2.2 r → u.1 r = α r) ∧ z_mok md S' ∧ (∃ tys, va_K D vwCl tys t ∧ z_tok u.2 S'.2.2.2 tys) ∧ va_P D vwCl (z_ws u.1 u.2 md S') t.heap ∧ va_D (va_A (z_ws α cA md S) sz) (z_ws u.1 u.2 md S')
def z_Qc (D : va_G) (md : Bool) (α : Nat × Nat → Nat) (cA : Nat × Nat → ClassId) (S : z_Mem) (sz : Nat) (r : Option z_AV) (S' : z_Mem) : Array Value → State → Outcome → State → Prop := match r with
  | none => va_Qv (fun _ => True) (z_QB D md α cA S S' sz) (va_A (z_ws α cA md S) sz)
  | some (.inl x) => va_Qi (fun y _ => y = x) (z_QB D md α cA S S' sz) (va_A (z_ws α cA md S) sz)
  | some (.inr (.inl x)) => va_Ql (fun y _ => y = x) (z_QB D md α cA S S' sz) (va_A (z_ws α cA md S) sz)
  | _ => fun _ _ _ _ => False
def z_Ctr (l : Launch) (d : Nat) (md : Bool) (j : Nat) (as : List z_AV) (S : z_Mem) (r : Option z_AV) (S' : z_Mem) : Prop := ∃ q : z_Mt, z_mt[j]? = some q ∧ S.2.2.2 ≤ S'.2.2.2 ∧ ∀ (D : va_G) (α : Nat × Nat → Nat) (cA : Nat × Nat → ClassId) (sz : Nat), (∀ v ∈ as, z_okV S.2.2.2 v) → z_mok md S → S.2.2.2 ≤ 176 →
  Met l q.1 (Cond.code q.1 q.2.1 q.2.2.1 q.2.2.2.1 :: z_WT) ({ frames := d, cells := S'.2.2.2 - S.2.2.2, slots := z_sz S'.2.2.2 - z_sz S.2.2.2, locals := 100 * d }) (z_Pc D md α cA S sz as) (z_Qc D md α cA S sz r S') (S'.2.2.2 - S.2.2.2) (z_sz S'.2.2.2 - z_sz S.2.2.2) (va_A (z_ws α cA md S) sz)
theorem z_blind (D : va_G) (md : Bool) (α : Nat × Nat → Nat) (cA : Nat × Nat → ClassId) (S : z_Mem) (sz : Nat) (as : List z_AV) : FrameBlind (z_Pc D md α cA S sz as) := by
  intro a U g mk h
  obtain ⟨h0, h1, h2, ⟨tys, h3, h4⟩, h5, h6⟩ := h
  exact ⟨h0, h1, ⟨fun q hq => va_Nw.same rfl (u := U) (U := U.calling g mk a) rfl (h2.1 q hq), fun q hq => va_AO.moved (u := U) (U := U.calling g mk a) (Vm.Alike.refl U.vm) (h2.2 q hq)⟩, ⟨tys, va_K.moved (u := U) (U := U.calling g mk a) (Vm.Alike.refl U.vm) h3, h4⟩, h5, h6⟩
theorem z_tk_ok : ∀ (n : Nat) (st acc as r : List z_AV), z_tk n st acc = some (as, r) → ∃ ys, st = ys ++ r ∧ as = ys.reverse ++ acc ∧ ys.length = n
  | 0, st, acc, as, r, h => by
    have e : (acc, st) = (as, r) := Option.some.inj h
    cases e
    exact ⟨[], rfl, rfl, rfl⟩
  | n + 1, [], acc, as, r, h => by cases h
  | n + 1, v :: st, acc, as, r, h => by
    obtain ⟨ys, h1, h2, h3⟩ := z_tk_ok n st (v :: acc) as r h
    exact ⟨v :: ys, by rw [h1]; rfl, by rw [h2]; simp, by rw [← h3]; rfl⟩
theorem z_mlb_of {o i a b cT xn kd : Nat} {q : z_Mt} (h : z_mlb (o, i, a, b, cT, xn, kd) = true) (hq : z_mt[a]? = some q) : q.2.2.2.2.2.2.2.2 = b ∧ q.2.2.2.2.2.2.2.1 = cT ∧ z_rk q.2.2.2.1 = xn ∧ z_kdb kd a cT = true := by
  unfold z_mlb at h
  dsimp only at h
  rw [hq] at h
  dsimp only at h
  rw [Bool.and_eq_true, Bool.and_eq_true, Bool.and_eq_true] at h
  exact ⟨Nat.eq_of_beq_eq_true h.1, Nat.eq_of_beq_eq_true h.2.1, Nat.eq_of_beq_eq_true h.2.2.1, h.2.2.2⟩
theorem z_mcls {a cT : Nat} {q : z_Mt} (hq : z_mt[a]? = some q) (hc : q.2.2.2.2.2.2.2.1 = cT) (h0 : 0 < cT) (h13 : cT < 13) : ∃ (C : String) (T : u_T) (N : Nat), vwCl[cT - 1]? = some (C, T, N) ∧ z_CF (cT - 1) C T N ∧ q.1.cls = C := by
  obtain ⟨C, T, N, h1, h2, h3⟩ := z_vwC h0 h13
  refine ⟨C, T, N, h1, h2, ?_⟩
  have e1 : (z_mt.map (fun q => q.1.cls))[a]? = some q.1.cls := by rw [List.getElem?_map, hq]; rfl
  rw [z_mo_ok, List.getElem?_map] at e1
  cases hz : z_mo[a]? with
  | none => rw [hz] at e1; cases e1
  | some o =>
    rw [hz] at e1
    have e2 : z_on o = q.1.cls := Option.some.inj e1
    have e3 : (z_mt.zip z_mo)[a]? = some (q, o) := by rw [List.getElem?_zip_eq_some]; exact ⟨hq, hz⟩
    have e4 := List.all_eq_true.mp z_mo_t _ (List.mem_of_getElem? e3)
    dsimp only at e4
    rw [hc, Bool.or_eq_true] at e4
    have e5 : cT = o := by
      rcases e4 with e4 | e4
      · have := Nat.eq_of_beq_eq_true e4; omega
      · exact Nat.eq_of_beq_eq_true e4
    obtain ⟨-, -, -, -, -, -, -, -, e6⟩ := h2
    rw [Nat.sub_add_cancel h0] at e6
    rw [← e2, ← e5, e6]
theorem z_ij_name {j : Nat} (h : j ∈ z_ij) : (z_yn j).name = "<init>" := by
  obtain ⟨k, hk⟩ := List.getElem?_of_mem h
  have h1 : (z_ij.map (fun j => (z_yn j).name))[k]? = some (z_yn j).name := by rw [List.getElem?_map, hk]; rfl
  rw [z_ij_ok, List.getElem?_map, hk] at h1
  exact (Option.some.inj h1).symm
theorem z_rk0 {r : Option FieldType} (h : z_rk r = 0) : r = none := by
  unfold z_rk at h
  split at h
  · rfl
  · cases h
  · cases h
theorem z_rcv_of {cT : Nat} {as : List z_AV} (h : z_rcv cT as = true) (h0 : 0 < cT) : ∃ (rq : Nat × Nat) (as' : List z_AV), as = .inr (.inr rq) :: as' ∧ rq.1 = cT := by
  unfold z_rcv at h
  split at h
  · rename_i rq as'
    rw [Bool.or_eq_true] at h
    rcases h with h | h
    · exact ⟨rq, as', rfl, Nat.eq_of_beq_eq_true h⟩
    · have := Nat.eq_of_beq_eq_true h; omega
  · have := Nat.eq_of_beq_eq_true h; omega
section ZCB
variable {p : Program} {l : Launch} {e : Env} {R : Room} {s : State} {m : MethodId} {args : Array Value} {below : List Frame} {meth : Method} {c : Code} {Q : State → Prop}
variable {D : va_G} {A : Nat → Prop} {md : Bool} {sc : z_Sc} {α0 : Nat × Nat → Nat} {n0 n1 nL o : Nat} {ini : Bool} {cc : ByteArray}
variable {pc pc' : Nat} {la la' : z_Lc} {sa sa' : List z_AV} {S S' : z_Mem}
/-- behind a call -/
theorem z_after {α : Nat × Nat → Nat} {cA : Nat × Nat → ClassId} {ls : Array Slot} {H H1 : Heap} {locs locs1 : List Loc} {u : (Nat × Nat → Nat) × (Nat × Nat → ClassId)} {t : State} {top : List z_AV} (hR : z_Rel s D A md sc α0 n0 α cA S H locs) (hl : z_LV α la ls nL) (hk : z_vok S.2.2.2 la sa) (hn : S.2.2.2 ≤ S'.2.2.2) (ht : t.heap = H1) (hvm : s.vm.Alike t.vm) (hB : z_QB D md α cA S S' H.size u t) (hS1 : va_S A s.heap H1 locs1) (htop : ∀ v ∈ top, z_okV S'.2.2.2 v)
    (hsub : ∀ v ∈ sa', v ∈ sa) (g : z_gw p l e R s m args below meth c Q D A md sc α0 n0 n1 nL pc' la (top ++ sa') S') (htv : top.map (z_cV u.1) = top.map (z_cV α)) : W p l e R s m args below meth c H1 locs1 (S'.2.2.2 - n0) (z_sz S'.2.2.2 - z_sz n0) Q (F0 m pc' ls (top.map (z_cV α) ++ sa'.map (z_cV α))) := by
  obtain ⟨⟨hn0, hn6⟩, hag, hmo, ⟨tys, hK, htk⟩, hP, hD, hS, hA, hsr⟩ := hR
  obtain ⟨b0, b1, b2, ⟨tys1, b3, b4⟩, b5, b6⟩ := hB
  have hal : ∀ v, z_okV S.2.2.2 v → z_cV u.1 v = z_cV α v := by
    intro v hv
    rcases v with x | x | q
    · rfl
    · rfl
    · show z_cR _ q = z_cR _ q
      unfold z_cR
      rw [b1 q hv]
  have hAA : ∀ q, va_A (z_ws α cA md S) H.size q → A q := fun q h => h.elim (fun ⟨k, ee, h⟩ => hD.2 k (q, ee) h) (fun h => hA q (Nat.le_trans hS.1 h))
  have h90 : u.1 (90, 0) = α (90, 0) := b1 _ (Or.inr (Or.inl rfl))
  have g2 := g.2 u.1 u.2 ls H1 locs1 ⟨⟨Nat.le_trans hn0 hn, b0⟩, fun r h => (b1 r (h.mono hn0)).trans (hag r h), b2, ⟨tys1, va_K.moved hvm.symm b3, b4⟩, by rw [← ht]; exact b5, b6.weaken (fun _ q _ h => hAA q.1 h), hS1, hA, by rw [h90]; exact hsr⟩
    ⟨hl.1, hl.2.1, hl.2.2.1, fun i v hi => by rw [hal v (hk.2 v (List.mem_of_getElem? hi))]; exact hl.2.2.2 i v hi⟩
    ⟨fun v hv => (List.mem_append.mp hv).elim (htop v) (fun h => (hk.1 v (hsub v h)).mono hn), fun v hv => (hk.2 v hv).mono hn⟩
  rw [List.map_append, htv, List.map_congr_left (fun v hv => hal v (hk.1 v (hsub v hv)))] at g2
  exact g2
/-- what a call asks of the row it stands in -/
def z_cw (o i a b cT : Nat) (x : Int32) (ins : Instr) : Prop :=
  (ins = .invokevirtual i ∧ (o, i, a, b, cT, x.toNatClampNeg, 0) ∈ z_ml) ∨ (ins = .invokestatic i ∧ (o, i, a, b, cT, x.toNatClampNeg, 1) ∈ z_ml ∧ cT = 0) ∨ (ins = .invokespecial i ∧ (o, i, a, b, cT, x.toNatClampNeg, 2) ∈ z_ml ∧ x = 0) ∨ (ins = .invokespecial i ∧ (o, i, a, b, cT, x.toNatClampNeg, 3) ∈ z_nst ∧ x = 0)
theorem z_run_any {d i a b cT : Nat} {x : Int32} {ins : Instr} {as ys r : List z_AV} {rv : Option z_AV} {q : z_Mt} (C0 : z_Ct p R s m args meth c cc nL o ini n0 n1) (hRd : d + 1 ≤ R.frames ∧ 100 * (d + 1) ≤ R.locals) (hd : decode cc pc = .ok (ins, 3)) (hcw : z_cw o i a b cT x ins) (hq : z_mt[a]? = some q)
    (hM : ∀ (D : va_G) (α : Nat × Nat → Nat) (cA : Nat × Nat → ClassId) (sz : Nat), (∀ v ∈ as, z_okV S.2.2.2 v) → z_mok md S → S.2.2.2 ≤ 176 → Met l q.1 (Cond.code q.1 q.2.1 q.2.2.1 q.2.2.2.1 :: z_WT) ({ frames := d, cells := S'.2.2.2 - S.2.2.2, slots := z_sz S'.2.2.2 - z_sz S.2.2.2, locals := 100 * d }) (z_Pc D md α cA S sz as) (z_Qc D md α cA S sz rv S') (S'.2.2.2 - S.2.2.2) (z_sz S'.2.2.2 - z_sz S.2.2.2) (va_A (z_ws α cA md S) sz))
    (hn1 : S'.2.2.2 ≤ n1) (hn : S.2.2.2 ≤ S'.2.2.2) (hsa : sa = ys ++ r) (hys : as = ys.reverse) (hlen : ys.length = b) (hrcv : z_rcv cT as = true) (hcat : z_cat r ≤ 8)
    {α : Nat × Nat → Nat} {cA : Nat × Nat → ClassId} {ls : Array Slot} {H : Heap} {locs : List Loc} (hR : z_Rel s D A md sc α0 n0 α cA S H locs) (hl : z_LV α la ls nL) (hk : z_vok S.2.2.2 la sa) :
    va_Run p l e R s m args below meth c H locs (S.2.2.2 - n0) (z_sz S.2.2.2 - z_sz n0) (S'.2.2.2 - S.2.2.2) (z_sz S'.2.2.2 - z_sz S.2.2.2) (F0 m pc ls (sa.map (z_cV α))) (r.map (z_cV α)) (z_Qc D md α cA S H.size rv S' (as.map (z_cV α)).toArray) (va_A (z_ws α cA md S) H.size) := by
  obtain ⟨hx, hb, hml, hown, hts, hnw, hini, ⟨hRc, hRs⟩, hRf, hRl⟩ := C0
  obtain ⟨⟨hn0, hn6⟩, hag, hmo, ⟨tys, hK, htk⟩, hP, hD, hS, hA, hsr⟩ := hR
  have has : ∀ v ∈ as, z_okV S.2.2.2 v := fun v hv => hk.1 v (by rw [hsa]; exact List.mem_append_left _ (List.mem_reverse.mp (by rw [← hys]; exact hv)))
  have hMet := hM D α cA H.size has hmo hn6
  obtain ⟨hpl, hmh, hpar, hmx⟩ := z_mt_f q (List.mem_of_getElem? hq)
  have hjl : a < 231 := (List.getElem?_eq_some_iff.mp hq).1
  have hgood : GoodIn z_WT (Cond.code q.1 q.2.1 q.2.2.1 q.2.2.2.1 :: z_WT) := by
    intro w hw
    rcases List.mem_cons.mp hw with h | h
    · have h1 := z_cd_in a (z_cd_all hjl)
      unfold z_cdw at h1
      rw [hq] at h1
      rw [h]
      exact ⟨z_wt h1, good_of_word h1.2⟩
    · exact z_wt_good w h
  have hyn : z_yn a = q.1 := by
    unfold z_yn
    rw [List.getD_eq_getElem?_getD, hq]
    rfl
  have hpc : ∀ U : State, U.heap = H → s.WarmedH U.vm → z_Pc D md α cA S H.size as (as.map (z_cV α)).toArray U := fun U hU hW => ⟨rfl, by rw [hU], hnw.warm hW, ⟨tys, va_K.moved hW.alike hK, htk⟩, by rw [hU]; exact hP, hD.weaken (fun _ _ _ _ => trivial)⟩
  have hRR : d + 1 ≤ R.frames ∧ 8 + (q.2.2.1 + 11) + 100 * d ≤ R.locals := ⟨hRd.1, by omega⟩
  have hroom : S.2.2.2 - n0 + (S'.2.2.2 - S.2.2.2) ≤ R.cells ∧ z_sz S.2.2.2 - z_sz n0 + (z_sz S'.2.2.2 - z_sz S.2.2.2) ≤ R.slots := by
    have e1 := z_sz_le hn0
    have e2 := z_sz_le hn
    have e3 := z_sz_le hn1
    omega
  have hstk : sa.map (z_cV α) = (as.map (z_cV α)).reverse ++ r.map (z_cV α) := by rw [hsa, hys, List.map_append, ← List.map_reverse, List.reverse_reverse]
  have hini2 : (Cond.initialized q.1.cls).before args s = true := hts _ (z_wt (z_mt_ini hq))
  have hW8 : 2 * (F0 m pc ls (sa.map (z_cV α))).monitorRoom + ((r.map (z_cV α)).map fun v => v.category).sum ≤ 8 := lv_room (by rw [z_cat_sum]; exact hcat)
  rcases hcw with ⟨hi, hml1⟩ | ⟨hi, hml1, hc0⟩ | ⟨hi, hml1, hx0⟩ | ⟨hi, hml1, hx0⟩
  · subst hi
    have hlk := z_ml_in _ hml1
    unfold z_mlw at hlk
    dsimp only at hlk
    rw [hyn] at hlk
    obtain ⟨k1, k2, k3, k4⟩ := z_mlb_of (z_ml_b _ hml1) hq
    have k4 : (z_im.elem a && (z_sl.elem a && (Nat.blt 0 cT && Nat.blt cT 13))) = true := k4
    rw [Bool.and_eq_true, Bool.and_eq_true, Bool.and_eq_true] at k4
    have hC0 := Nat.blt_eq.mp k4.2.2.1
    have hC13 := Nat.blt_eq.mp k4.2.2.2
    have him := z_im_in a (List.elem_iff.mp k4.1)
    have hsl := z_sl_in a (List.elem_iff.mp k4.2.1)
    unfold z_imw at him
    unfold z_slw at hsl
    rw [hyn] at him hsl
    have hyl : as.length = b := by rw [hys, List.length_reverse]; exact hlen
    obtain ⟨C, T, N, hvc, hcf, hcls⟩ := z_mcls hq k2 (hC0) (hC13)
    obtain ⟨-, -, -, -, haK, -⟩ := hcf
    rw [Nat.sub_add_cancel hC0] at haK
    obtain ⟨rq, as', e1, e2⟩ := z_rcv_of hrcv hC0
    have hpar2 : (parseMethodDescriptor q.1.desc).map (fun d => d.parameters.length) = some (b - 1) := by
      rw [hpar, k2, k1]
      obtain ⟨z, hz⟩ : ∃ z, cT = z + 1 := ⟨cT - 1, by have := hC0; omega⟩
      rw [hz]
    obtain ⟨kr, hkr, hkq⟩ := z_okR.at (has (.inr (.inr rq)) (by rw [e1]; exact List.mem_cons_self)) (by rw [e2]; exact hC0) (by rw [e2]; have := hC13; omega)
    have hwe := z_ws_get (α := α) (cA := cA) (md := md) hkr hkq
    rw [z_bdO (by rw [e2]; exact haK), e2] at hwe
    have hmap : as.map (z_cV α) = .ref (α rq) :: as'.map (z_cV α) := by
      rw [e1, List.map_cons]
      have e3 : z_cV α (.inr (.inr rq)) = .ref (α rq) := z_cR_ref (by rw [e2]; have := hC0; omega)
      rw [e3]
    have hlen2 : (as'.map (z_cV α)).length = b - 1 := by
      rw [List.length_map]
      rw [e1] at hyl
      have := hyl
      simp at this
      omega
    rw [hmap] at hpc hstk ⊢
    have hst2 : (F0 m pc ls (sa.map (z_cV α))).stack = (as'.map (z_cV α)).reverse ++ .ref (α rq) :: r.map (z_cV α) := by
      show sa.map (z_cV α) = _
      rw [hstk]
      simp
    have hT : GoodIn z_WT (wsV (z_on o) i q.1.cls q.1 (Cond.code q.1 q.2.1 q.2.2.1 q.2.2.2.1 :: z_WT)) := by
      intro w hw
      rcases List.mem_append.mp hw with h | h
      · simp only [List.mem_cons, List.not_mem_nil, or_false] at h
        rcases h with h | h | h | h
        · rw [h]; exact ⟨z_wt hlk, good_of_word hlk.2⟩
        · rw [h]; exact ⟨z_wt him, good_of_word him.2⟩
        · rw [h]; exact ⟨z_wt hsl, good_of_word hsl.2⟩
        · rw [h]; exact ⟨z_wt (z_mt_ini hq), good_of_word (z_mt_ini hq).2⟩
      · exact hgood w h
    have hrecv := va_recv hK hP (ci := cT - 1) (q0 := kr) hvc hwe
    rw [← hcls] at hrecv
    exact va_runV (nL := nL) (As := as'.map (z_cV α)) ⟨hx, hb, hml, hown, hts⟩ hMet (cwV (b - 1) hts hT rfl rfl rfl ⟨rfl, hmh.1, hmh.2, hpar2⟩ hRR) ⟨z_blind _ _ _ _ _ _ _, hrecv, hpc⟩ rfl hlen2 hl.2.1 hst2 hW8 hd hroom
  · subst hi
    have hlk := z_ml_in _ hml1
    unfold z_mlw at hlk
    dsimp only at hlk
    rw [hyn] at hlk
    obtain ⟨k1, k2, k3, k4⟩ := z_mlb_of (z_ml_b _ hml1) hq
    have k4 : z_sm.elem a = true := k4
    have him := z_sm_in a (List.elem_iff.mp k4)
    unfold z_smw at him
    rw [hyn] at him
    have hyl : as.length = b := by rw [hys, List.length_reverse]; exact hlen
    have hpar2 : (parseMethodDescriptor q.1.desc).map (fun d => d.parameters.length) = some b := by
      rw [hpar, k2, hc0, k1]
    have hst2 : (F0 m pc ls (sa.map (z_cV α))).stack = (as.map (z_cV α)).reverse ++ r.map (z_cV α) := hstk
    exact va_runS (nL := nL) (As := as.map (z_cV α)) ⟨hx, hb, hml, hown, hts⟩ hMet ⟨callB_of b hts hgood rfl rfl rfl hini2 (hts _ (z_wt hlk)) ⟨hmh.1, hmh.2, hpar2⟩ hRR, hts _ (z_wt him)⟩ ⟨z_blind _ _ _ _ _ _ _, hpc⟩ rfl (by rw [List.length_map]; exact hyl) hl.2.1 hst2 hW8 hd hroom
  · subst hi
    have hlk := z_ml_in _ hml1
    unfold z_mlw at hlk
    dsimp only at hlk
    rw [hyn] at hlk
    obtain ⟨k1, k2, k3, k4⟩ := z_mlb_of (z_ml_b _ hml1) hq
    have k4 : (z_im.elem a && (Nat.blt 0 cT && Nat.blt cT 13)) = true := k4
    rw [Bool.and_eq_true, Bool.and_eq_true] at k4
    have hC0 := Nat.blt_eq.mp k4.2.1
    have hC13 := Nat.blt_eq.mp k4.2.2
    have him := z_im_in a (List.elem_iff.mp k4.1)
    unfold z_imw at him
    rw [hyn] at him
    have hnm : q.1.name = "<init>" := by
      have h1 := List.all_eq_true.mp z_ij_b _ hml1
      have h2 : z_ij.elem a = true := h1
      have h3 := z_ij_name (List.elem_iff.mp h2)
      rw [hyn] at h3
      exact h3
    have hyl : as.length = b := by rw [hys, List.length_reverse]; exact hlen
    obtain ⟨C, T, N, hvc, hcf, hcls⟩ := z_mcls hq k2 (hC0) (hC13)
    obtain ⟨-, -, -, -, haK, -⟩ := hcf
    rw [Nat.sub_add_cancel hC0] at haK
    obtain ⟨rq, as', e1, e2⟩ := z_rcv_of hrcv hC0
    have hpar2 : (parseMethodDescriptor q.1.desc).map (fun d => d.parameters.length) = some (b - 1) := by
      rw [hpar, k2, k1]
      obtain ⟨z, hz⟩ : ∃ z, cT = z + 1 := ⟨cT - 1, by have := hC0; omega⟩
      rw [hz]
    obtain ⟨kr, hkr, hkq⟩ := z_okR.at (has (.inr (.inr rq)) (by rw [e1]; exact List.mem_cons_self)) (by rw [e2]; exact hC0) (by rw [e2]; have := hC13; omega)
    have hwe := z_ws_get (α := α) (cA := cA) (md := md) hkr hkq
    rw [z_bdO (by rw [e2]; exact haK), e2] at hwe
    have hmap : as.map (z_cV α) = .ref (α rq) :: as'.map (z_cV α) := by
      rw [e1, List.map_cons]
      have e3 : z_cV α (.inr (.inr rq)) = .ref (α rq) := z_cR_ref (by rw [e2]; have := hC0; omega)
      rw [e3]
    have hlen2 : (as'.map (z_cV α)).length = b - 1 := by
      rw [List.length_map]
      rw [e1] at hyl
      have := hyl
      simp at this
      omega
    rw [hmap] at hpc hstk ⊢
    have hst2 : (F0 m pc ls (sa.map (z_cV α))).stack = (as'.map (z_cV α)).reverse ++ .ref (α rq) :: r.map (z_cV α) := by
      show sa.map (z_cV α) = _
      rw [hstk]
      simp
    have hrt : q.2.2.2.1 = none := z_rk0 (by rw [k3, hx0]; rfl)
    rw [hrt] at hMet hgood
    exact va_runI (nL := nL) (As := as'.map (z_cV α)) ⟨hx, hb, hml, hown, hts⟩ hMet ⟨callB_of (b - 1) hts hgood rfl rfl rfl hini2 (hts _ (z_wt hlk)) ⟨hmh.1, hmh.2, hpar2⟩ hRR, hnm, hts _ (z_wt him)⟩ ⟨z_blind _ _ _ _ _ _ _, hpc⟩ rfl hlen2 hl.2.1 hst2 hW8 hd hroom
  · subst hi
    have hnl := hnw.1 _ hml1
    dsimp only at hnl
    rw [hyn] at hnl
    obtain ⟨k1, k2, k3, k4⟩ := z_mlb_of (z_nst_b _ hml1) hq
    have k4 : (z_im.elem a && (Nat.blt 0 cT && Nat.blt cT 13)) = true := k4
    rw [Bool.and_eq_true, Bool.and_eq_true] at k4
    have hC0 := Nat.blt_eq.mp k4.2.1
    have hC13 := Nat.blt_eq.mp k4.2.2
    have him := z_im_in a (List.elem_iff.mp k4.1)
    unfold z_imw at him
    rw [hyn] at him
    have hnm : q.1.name = "<init>" := by
      have h1 := List.all_eq_true.mp z_ij_n _ hml1
      have h2 : z_ij.elem a = true := h1
      have h3 := z_ij_name (List.elem_iff.mp h2)
      rw [hyn] at h3
      exact h3
    have hyl : as.length = b := by rw [hys, List.length_reverse]; exact hlen
    obtain ⟨C, T, N, hvc, hcf, hcls⟩ := z_mcls hq k2 (hC0) (hC13)
    obtain ⟨-, -, -, -, haK, -⟩ := hcf
    rw [Nat.sub_add_cancel hC0] at haK
    obtain ⟨rq, as', e1, e2⟩ := z_rcv_of hrcv hC0
    have hpar2 : (parseMethodDescriptor q.1.desc).map (fun d => d.parameters.length) = some (b - 1) := by
      rw [hpar, k2, k1]
      obtain ⟨z, hz⟩ : ∃ z, cT = z + 1 := ⟨cT - 1, by have := hC0; omega⟩
      rw [hz]
    obtain ⟨kr, hkr, hkq⟩ := z_okR.at (has (.inr (.inr rq)) (by rw [e1]; exact List.mem_cons_self)) (by rw [e2]; exact hC0) (by rw [e2]; have := hC13; omega)
    have hwe := z_ws_get (α := α) (cA := cA) (md := md) hkr hkq
    rw [z_bdO (by rw [e2]; exact haK), e2] at hwe
    have hmap : as.map (z_cV α) = .ref (α rq) :: as'.map (z_cV α) := by
      rw [e1, List.map_cons]
      have e3 : z_cV α (.inr (.inr rq)) = .ref (α rq) := z_cR_ref (by rw [e2]; have := hC0; omega)
      rw [e3]
    have hlen2 : (as'.map (z_cV α)).length = b - 1 := by
      rw [List.length_map]
      rw [e1] at hyl
      have := hyl
      simp at this
      omega
    rw [hmap] at hpc hstk ⊢
    have hst2 : (F0 m pc ls (sa.map (z_cV α))).stack = (as'.map (z_cV α)).reverse ++ .ref (α rq) :: r.map (z_cV α) := by
      show sa.map (z_cV α) = _
      rw [hstk]
      simp
    have hrt : q.2.2.2.1 = none := z_rk0 (by rw [k3, hx0]; rfl)
    rw [hrt] at hMet hgood
    exact va_runIN (nL := nL) (As := as'.map (z_cV α)) ⟨hx, hb, hml, hown, hts⟩ hMet ⟨va_cnB (b - 1) hts hgood rfl rfl rfl hnl hini2 ⟨hmh.1, hmh.2, hpar2⟩ hRR, hnm, hts _ (z_wt him)⟩ ⟨z_blind _ _ _ _ _ _ _, hpc⟩ rfl hlen2 hl.2.1 hst2 hW8 hd hroom
end ZCB
