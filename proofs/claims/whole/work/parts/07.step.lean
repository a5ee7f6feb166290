/-! ===== the step ===== -/
abbrev z_gw (p : Program) (l : Launch) (e : Env) (R : Room) (s : State) (m : MethodId) (args : Array Value) (below : List Frame) (meth : Method) (c : Code) (Q : State → Prop) (D : va_G) (A : Nat → Prop) (md : Bool) (sc : z_Sc) (α0 : Nat × Nat → Nat) (n0 n1 nL pc : Nat) (la : z_Lc) (sa : List z_AV) (S : z_Mem) : Prop :=
  z_GW (fun H locs cells slots g => W p l e R s m args below meth c H locs cells slots Q g) m s D A md sc α0 n0 n1 nL pc la sa S
def z_Ct (p : Program) (R : Room) (s : State) (m : MethodId) (args : Array Value) (meth : Method) (c : Code) (cc : ByteArray) (nL o : Nat) (ini : Bool) (n0 n1 : Nat) : Prop :=
  p.tables.exec = Jvm.exec ∧ c.code = cc ∧ c.maxLocals = nL ∧ s.vm.findClass (z_on o) = some m.cls ∧ (∀ w ∈ z_WT, w.before args s = true) ∧ z_NW s ∧ (ini = true → meth.name = "<init>") ∧ (n1 - n0 ≤ R.cells ∧ z_sz n1 - z_sz n0 ≤ R.slots) ∧ 1 ≤ R.frames ∧ 100 ≤ R.locals
theorem z_vp {n : Nat} {la : z_Lc} {v : z_AV} {sa : List z_AV} (h : z_vok n la (v :: sa)) : z_vok n la sa := ⟨fun u hu => h.1 u (List.mem_cons_of_mem _ hu), h.2⟩
theorem z_vh {n : Nat} {la : z_Lc} {v : z_AV} {sa : List z_AV} (h : z_vok n la (v :: sa)) : z_okV n v := h.1 v List.mem_cons_self
theorem z_vc {n : Nat} {la : z_Lc} {v : z_AV} {sa : List z_AV} (hv : z_okV n v) (h : z_vok n la sa) : z_vok n la (v :: sa) := ⟨fun u hu => (List.mem_cons.mp hu).elim (fun e => e ▸ hv) (h.1 u), h.2⟩
theorem z_br {P : Prop} [Decidable P] {β : Type} {X Y : Option β} {res : β} {G1 G2 : Prop} (h : (if P then X else Y) = some res) (f : X = some res → G1) (g : Y = some res → G2) : (P ∧ G1) ∨ (¬ P ∧ G2) := by
  by_cases hP : P
  · rw [if_pos hP] at h; exact Or.inl ⟨hP, f h⟩
  · rw [if_neg hP] at h; exact Or.inr ⟨hP, g h⟩
theorem z_fl_get {o i a b : Nat} {f : Bool} (h : (o, i, a, b, f) ∈ z_fl) : ∃ (C : String) (T : u_T) (N : Nat), vwCl[a - 1]? = some (C, T, N) ∧ b < N ∧ (T b).2.2.2 = f ∧ 0 < a ∧ a < 13 ∧ Cond.fieldLink (z_on o) i C (T b).2.1 (T b).2.2.1 ∈ z_WT ∧ z_CF (a - 1) C T N := by
  have h1 := z_wt (z_fl_in _ h)
  have h2 := List.all_eq_true.mp z_fl_b _ h
  unfold z_flb at h2
  dsimp only at h2
  split at h2
  · rename_i C T N hv
    simp only [Bool.and_eq_true, Nat.blt_eq, beq_iff_eq, Nat.ble_eq] at h2
    have hcf := z_cf _ _ _ _ hv
    have e1 : z_cn a = C := by
      obtain ⟨-, -, -, -, -, e, -⟩ := hcf
      rw [e, Nat.sub_add_cancel h2.2.2.1]
    have e2 : z_tf a = T := by
      obtain ⟨-, -, -, -, -, -, e, -⟩ := hcf
      rw [e, Nat.sub_add_cancel h2.2.2.1]
    unfold z_flw at h1
    dsimp only at h1
    rw [e1, e2] at h1
    exact ⟨C, T, N, hv, h2.1, h2.2.1, h2.2.2.1, by omega, h1, hcf⟩
  · cases h2
theorem z_sI_ne {S : z_Mem} {t i k : Nat} {x : Int32} {r : Nat × Nat} (h : r ≠ (t, i)) : (z_sI S t i k x).1 r.1 r.2 = S.1 r.1 r.2 := by
  funext j
  have h2 : ¬ (r.1 = t ∧ r.2 = i ∧ j = k) := fun q => h (Prod.ext q.1 q.2.1)
  show (if r.1 = t ∧ r.2 = i ∧ j = k then x else S.1 r.1 r.2 j) = _
  rw [if_neg h2]
theorem z_bd_cong {α : Nat × Nat → Nat} {cA : Nat × Nat → ClassId} {md : Bool} {S S' : z_Mem} {r : Nat × Nat} (h1 : S'.1 r.1 r.2 = S.1 r.1 r.2) (h2 : S'.2.1 r.1 r.2 = S.2.1 r.1 r.2) (h3 : S'.2.2.1 r.1 r.2 = S.2.2.1 r.1 r.2) : z_bd α cA md S' r = z_bd α cA md S r := by
  have e1 : z_rv md S' r.1 r.2 = z_rv md S r.1 r.2 := by
    funext j
    unfold z_rv
    rw [h3]
  have e2 : z_re md S' r.1 r.2 = z_re md S r.1 r.2 := by
    funext j
    unfold z_re
    rw [h3]
  have e3 : z_fv α md S' r.1 r.2 = z_fv α md S r.1 r.2 := by
    funext j
    unfold z_fv
    rw [h1, e1]
  unfold z_bd
  rw [h1, h2, e2, e3]
theorem z_bd_sI {α : Nat × Nat → Nat} {cA : Nat × Nat → ClassId} {md : Bool} {S : z_Mem} {t i k : Nat} {x : Int32} {r : Nat × Nat} (h : r ≠ (t, i)) : z_bd α cA md (z_sI S t i k x) r = z_bd α cA md S r := z_bd_cong (z_sI_ne h) rfl rfl
theorem z_bd_sL {α : Nat × Nat → Nat} {cA : Nat × Nat → ClassId} {md : Bool} {S : z_Mem} {t i k : Nat} {x : Int64} {r : Nat × Nat} (h : r ≠ (t, i)) : z_bd α cA md (z_sL S t i k x) r = z_bd α cA md S r := by
  refine z_bd_cong rfl ?_ rfl
  funext j
  have h2 : ¬ (r.1 = t ∧ r.2 = i ∧ j = k) := fun q => h (Prod.ext q.1 q.2.1)
  show (if r.1 = t ∧ r.2 = i ∧ j = k then x else S.2.1 r.1 r.2 j) = _
  rw [if_neg h2]
theorem z_bd_sR {α : Nat × Nat → Nat} {cA : Nat × Nat → ClassId} {md : Bool} {S : z_Mem} {t i k : Nat} {x : Nat × Nat} {r : Nat × Nat} (h : r ≠ (t, i)) : z_bd α cA md (z_sR S t i k x) r = z_bd α cA md S r := by
  refine z_bd_cong rfl rfl ?_
  funext j
  have h2 : ¬ (r.1 = t ∧ r.2 = i ∧ j = k) := fun q => h (Prod.ext q.1 q.2.1)
  show (if r.1 = t ∧ r.2 = i ∧ j = k then x else S.2.2.1 r.1 r.2 j) = _
  rw [if_neg h2]
section ZST
variable {p : Program} {l : Launch} {e : Env} {R : Room} {s : State} {m : MethodId} {args : Array Value} {below : List Frame} {meth : Method} {c : Code} {Q : State → Prop}
variable {D : va_G} {A : Nat → Prop} {md : Bool} {sc : z_Sc} {α0 : Nat × Nat → Nat} {n0 n1 nL o : Nat} {ini : Bool} {cc : ByteArray}
variable {pc pc' : Nat} {la la' : z_Lc} {sa sa' : List z_AV} {S S' : z_Mem}
/-- memory stays -/
theorem z_op1 (g : z_gw p l e R s m args below meth c Q D A md sc α0 n0 n1 nL pc' la' sa' S) (hv : z_vok S.2.2.2 la sa → z_vok S.2.2.2 la' sa')
    (row : ∀ (α : Nat × Nat → Nat) (cA : Nat × Nat → ClassId) (ls : Array Slot) (H : Heap) (locs : List Loc) (cells slots : Nat), z_Rel s D A md sc α0 n0 α cA S H locs → z_LV α la ls nL → z_vok S.2.2.2 la sa →
      (∀ ls', z_LV α la' ls' nL → W p l e R s m args below meth c H locs cells slots Q (F0 m pc' ls' (sa'.map (z_cV α)))) → W p l e R s m args below meth c H locs cells slots Q (F0 m pc ls (sa.map (z_cV α)))) : z_gw p l e R s m args below meth c Q D A md sc α0 n0 n1 nL pc la sa S :=
  ⟨g.1, fun α cA ls H locs hR hl hk => row α cA ls H locs _ _ hR hl hk (fun ls' hl' => g.2 α cA ls' H locs hR hl' (hv hk))⟩
/-- memory changes, nothing is made -/
theorem z_op2 (g : z_gw p l e R s m args below meth c Q D A md sc α0 n0 n1 nL pc' la sa' S') (hn : S'.2.2.2 = S.2.2.2) (hv : z_vok S.2.2.2 la sa → z_vok S.2.2.2 la sa') (hm : z_vok S.2.2.2 la sa → z_mok md S → z_mok md S')
    (row : ∀ (α : Nat × Nat → Nat) (cA : Nat × Nat → ClassId) (ls : Array Slot) (H : Heap) (locs : List Loc) (cells slots : Nat), z_Rel s D A md sc α0 n0 α cA S H locs → z_LV α la ls nL → z_vok S.2.2.2 la sa →
      (∀ (H1 : Heap) (locs1 : List Loc), va_P D vwCl (z_ws α cA md S') H1 → va_D A (z_ws α cA md S') → va_S A s.heap H1 locs1 → W p l e R s m args below meth c H1 locs1 cells slots Q (F0 m pc' ls (sa'.map (z_cV α)))) → W p l e R s m args below meth c H locs cells slots Q (F0 m pc ls (sa.map (z_cV α)))) : z_gw p l e R s m args below meth c Q D A md sc α0 n0 n1 nL pc la sa S := by
  refine ⟨hn ▸ g.1, fun α cA ls H locs hR hl hk => row α cA ls H locs _ _ hR hl hk (fun H1 locs1 hP hD hS => ?_)⟩
  obtain ⟨h1, h2, h3, h4, h5, h6, h7, h8, h9⟩ := hR
  have h := g.2 α cA ls H1 locs1 ⟨by rw [hn]; exact h1, h2, hm hk h3, by rw [hn]; exact h4, hP, hD, hS, h8, h9⟩ hl (by rw [hn]; exact hv hk)
  rw [hn] at h
  exact h

theorem z_st_eq {la l' : z_Lc} {a : Nat} {v : z_AV} (h : z_st la a v = some l') : la.set a (some v) = l' := by
  unfold z_st at h
  cases a with
  | zero => exact Option.some.inj h
  | succ j =>
    dsimp only at h
    split at h
    · cases h
    · exact Option.some.inj h
theorem z_getD {la : z_Lc} {i : Nat} {v : z_AV} (h : la.getD i none = some v) : la[i]? = some (some v) := by
  rw [List.getD_eq_getElem?_getD] at h
  cases hz : la[i]? with
  | none => rw [hz] at h; cases h
  | some u =>
    rw [hz] at h
    have e : u = some v := h
    rw [e]
theorem z_getf {ρ : Type} {κ : Nat → z_Lc → List z_AV → z_Mem → Option ρ} {res : ρ} {i b : Nat} {q : Nat × Nat} {C : String} {T : u_T} {N : Nat} (hx : p.tables.exec = Jvm.exec) (hb : c.code = cc) (hown : s.vm.findClass (z_on o) = some m.cls) (hts : ∀ w ∈ z_WT, w.before args s = true)
    (hd : decode cc pc = .ok (.getfield i, 3)) (hvc : vwCl[q.1 - 1]? = some (C, T, N)) (hbN : b < N) (hlk : Cond.fieldLink (z_on o) i C (T b).2.1 (T b).2.2.1 ∈ z_WT) (hcf : z_CF (q.1 - 1) C T N) (ha0 : 0 < q.1) (ha13 : q.1 < 13)
    (h : (match z_shK q.1 b with
      | 0 => κ (pc + 3) la (.inl (S.1 q.1 q.2 b) :: sa) S
      | 1 => κ (pc + 3) la (.inl (S.1 q.1 q.2 b) :: sa) S
      | 2 => κ (pc + 3) la (.inr (.inr (z_rv md S q.1 q.2 b)) :: sa) S
      | 3 => κ (pc + 3) la (.inr (.inr (z_rv md S q.1 q.2 b)) :: sa) S
      | _ => none) = some res) (hκ : ∀ pc' la' sa' S', κ pc' la' sa' S' = some res → z_gw p l e R s m args below meth c Q D A md sc α0 n0 n1 nL pc' la' sa' S') : z_gw p l e R s m args below meth c Q D A md sc α0 n0 n1 nL pc la (.inr (.inr q) :: sa) S := by
  obtain ⟨hin, -, -, hN, haK, -, -, hdecl, -⟩ := hcf
  rw [Nat.sub_add_cancel ha0] at hN haK
  have main : ∀ v : z_AV, (∀ α, z_cV α v = z_fv α md S q.1 q.2 b) → (∀ n, (∀ w, (z_shK q.1 b = 2 ∨ z_shK q.1 b = 3) → w = z_rv md S q.1 q.2 b → z_okR n w) → z_okV n v) → z_gw p l e R s m args below meth c Q D A md sc α0 n0 n1 nL (pc + 3) la (v :: sa) S → z_gw p l e R s m args below meth c Q D A md sc α0 n0 n1 nL pc la (.inr (.inr q) :: sa) S := by
    intro v hv hov g
    refine ⟨g.1, fun α cA ls H locs hR hl hk => ?_⟩
    have hR0 := hR
    obtain ⟨-, -, hmo, ⟨tys, hK, -⟩, hP, -⟩ := hR
    obtain ⟨k, hkn, hkq⟩ := z_okR.at (z_vh hk) ha0 (by omega)
    have hbd : z_bd α cA md S q = .inr (q.1 - 1, (List.range (z_nF q.1)).map (z_fv α md S q.1 q.2)) := by unfold z_bd; rw [haK]; rfl
    have he := z_ws_get (α := α) (cA := cA) (md := md) hkn hkq
    rw [hbd] at he
    have g2 := g.2 α cA ls H locs hR0 hl (z_vc (hov _ (fun w hw e => by rw [e]; exact (hmo k q hkn hkq).1 b hw)) (z_vp hk))
    show W p l e R s m args below meth c H locs _ _ Q (F0 m pc ls (z_cR α q :: sa.map (z_cV α)))
    rw [z_cR_ref (by omega)]
    refine va_get hx hb hts (fun w hw => z_wt (hin w hw)) hown hK hP k he hvc b hbN (hts _ hlk) (fun x hh => by rw [hdecl b] at hh; exact hh) (v := z_cV α v) ?_ hd g2
    rw [List.getElem?_map, List.getElem?_range (by omega), hv]
    rfl
  split at h
  · rename_i hs
    exact main (.inl (S.1 q.1 q.2 b)) (fun α => by unfold z_fv; rw [hs]; rfl) (fun n _ => trivial) (hκ _ _ _ _ h)
  · rename_i hs
    exact main (.inl (S.1 q.1 q.2 b)) (fun α => by unfold z_fv; rw [hs]; rfl) (fun n _ => trivial) (hκ _ _ _ _ h)
  · rename_i hs
    exact main (.inr (.inr (z_rv md S q.1 q.2 b))) (fun α => by unfold z_fv; rw [hs]; rfl) (fun n hn => hn _ (Or.inl hs) rfl) (hκ _ _ _ _ h)
  · rename_i hs
    exact main (.inr (.inr (z_rv md S q.1 q.2 b))) (fun α => by unfold z_fv; rw [hs]; rfl) (fun n hn => hn _ (Or.inr hs) rfl) (hκ _ _ _ _ h)
  · cases h

theorem z_vp2 {n : Nat} {la : z_Lc} {v w : z_AV} {sa : List z_AV} (h : z_vok n la (v :: w :: sa)) : z_vok n la sa := z_vp (z_vp h)
/-- an object's cell -/
theorem z_bdO {α : Nat × Nat → Nat} {cA : Nat × Nat → ClassId} {q : Nat × Nat} (h : z_aK q.1 = 0) : z_bd α cA md S q = .inr (q.1 - 1, (List.range (z_nF q.1)).map (z_fv α md S q.1 q.2)) := by unfold z_bd; rw [h]; rfl
theorem z_bdI {α : Nat × Nat → Nat} {cA : Nat × Nat → ClassId} {q : Nat × Nat} (h : z_aK q.1 = 1 ∨ z_aK q.1 = 2 ∨ z_aK q.1 = 3) : z_bd α cA md S q = .inl (cA q, z_aN q.1 q.2, .inl (S.1 q.1 q.2)) := by
  unfold z_bd
  rcases h with h | h | h <;> rw [h] <;> rfl
theorem z_bdL {α : Nat × Nat → Nat} {cA : Nat × Nat → ClassId} {q : Nat × Nat} (h : z_aK q.1 = 4) : z_bd α cA md S q = .inl (cA q, z_aN q.1 q.2, .inr (.inl (S.2.1 q.1 q.2))) := by unfold z_bd; rw [h]; rfl
theorem z_bdR {α : Nat × Nat → Nat} {cA : Nat × Nat → ClassId} {q : Nat × Nat} (h : z_aK q.1 = 5) : z_bd α cA md S q = .inl (cA q, z_aN q.1 q.2, .inr (.inr (.inr (.inr (fun j => if j < z_aN q.1 q.2 then z_op α (z_re md S q.1 q.2 j) else none))))) := by unfold z_bd; rw [h]; rfl
theorem z_fits_and {v : Int32} (h : v &&& 1 = v) : fits .boolean (.int v) = true := by
  have h1 : v = 0 ∨ v = 1 := by
    have h2 : v.toBitVec &&& 1#32 = v.toBitVec := congrArg Int32.toBitVec h
    have h3 : v.toBitVec = 0#32 ∨ v.toBitVec = 1#32 := by
      generalize v.toBitVec = w at h2
      have h4 : w.toNat % 2 = w.toNat := by
        have := congrArg BitVec.toNat h2
        rw [BitVec.toNat_and] at this
        rw [show (1#32).toNat = 1 from rfl, Nat.and_one_is_mod] at this
        exact this
      have h5 : w.toNat < 2 := by omega
      have h6 : w.toNat = 0 ∨ w.toNat = 1 := by omega
      rcases h6 with h6 | h6
      · exact Or.inl (BitVec.eq_of_toNat_eq (by rw [h6]; rfl))
      · exact Or.inr (BitVec.eq_of_toNat_eq (by rw [h6]; rfl))
    rcases h3 with h3 | h3
    · exact Or.inl (Int32.toBitVec_inj.mp h3)
    · exact Or.inr (Int32.toBitVec_inj.mp h3)
  rcases h1 with h1 | h1 <;> subst h1 <;> decide
theorem z_putI {i b : Nat} {q : Nat × Nat} {v : Int32} {C : String} {T : u_T} {N : Nat} {fin : Bool} (hx : p.tables.exec = Jvm.exec) (hb : c.code = cc) (hown : s.vm.findClass (z_on o) = some m.cls) (hts : ∀ w ∈ z_WT, w.before args s = true)
    (hd : decode cc pc = .ok (.putfield i, 3)) (hvc : vwCl[q.1 - 1]? = some (C, T, N)) (hbN : b < N) (hfn : (T b).2.2.2 = fin) (hfi : fin = true → meth.name = "<init>" ∧ o = q.1) (hlk : Cond.fieldLink (z_on o) i C (T b).2.1 (T b).2.2.1 ∈ z_WT) (hcf : z_CF (q.1 - 1) C T N) (ha0 : 0 < q.1) (ha13 : q.1 < 13)
    (hk : z_shK q.1 b = 0 ∨ (z_shK q.1 b = 1 ∧ v &&& 1 = v)) (g : z_gw p l e R s m args below meth c Q D A md sc α0 n0 n1 nL (pc + 3) la sa (z_sI S q.1 q.2 b v)) : z_gw p l e R s m args below meth c Q D A md sc α0 n0 n1 nL pc la (.inl v :: .inr (.inr q) :: sa) S := by
  obtain ⟨hin, ⟨ty, hty, hkd⟩, hnm, hN, haK, -, -, hdecl, hon⟩ := hcf
  rw [Nat.sub_add_cancel ha0] at hN haK hkd hon
  refine z_op2 g rfl (fun hv => z_vp2 hv) (fun _ h => h) (fun α cA ls H locs cells slots hR hl hv k => ?_)
  obtain ⟨-, -, hmo, ⟨tys, hK, -⟩, hP, hD, hS, -⟩ := hR
  obtain ⟨j, hjn, hjq⟩ := z_okR.at (z_vh (z_vp hv)) ha0 (by omega)
  have he := z_ws_get (α := α) (cA := cA) (md := md) hjn hjq
  rw [z_bdO haK] at he
  have hset : ((List.range (z_nF q.1)).map (z_fv α md S q.1 q.2)).set b (.int v) = (List.range (z_nF q.1)).map (z_fv α md (z_sI S q.1 q.2 b v) q.1 q.2) := by
    have e1 : z_fv α md (z_sI S q.1 q.2 b v) q.1 q.2 b = .int v := by
      unfold z_fv
      have e0 : (z_sI S q.1 q.2 b v).1 q.1 q.2 b = v := by simp [z_sI]
      rcases hk with hk | ⟨hk, -⟩ <;> rw [hk, e0] <;> rfl
    rw [← e1]
    refine z_rng_set (by omega) (fun k hkb => ?_)
    unfold z_fv
    have e0 : (z_sI S q.1 q.2 b v).1 q.1 q.2 k = S.1 q.1 q.2 k := by simp [z_sI, hkb]
    rw [e0]
    rfl
  have hws := z_ws_set (α := α) (cA := cA) (md := md) (S := S) (S' := z_sI S q.1 q.2 b v) (r := q) (b := .inr (q.1 - 1, ((List.range (z_nF q.1)).map (z_fv α md S q.1 q.2)).set b (.int v))) rfl hjn hjq (fun r' hr => z_bd_sI hr) (by rw [z_bdO haK, hset])
  have hty2 : (narrow (ty b) (.int v) = .int v) ∧ fits (ty b) (.int v) = true := by
    rcases hkd b hbN with ⟨h0, h1⟩ | ⟨h0, h1⟩ | ⟨h0, -⟩
    · rw [h1]; exact ⟨rfl, rfl⟩
    · rw [h1]
      have h2 : v &&& 1 = v := by
        rcases hk with hk | ⟨-, hk⟩
        · rw [h0] at hk; cases hk
        · exact hk
      exact ⟨by show Value.int (v &&& 1) = _; rw [h2], z_fits_and h2⟩
    · rcases hk with hk | ⟨hk, -⟩ <;> rw [hk] at h0 <;> rcases h0 with h0 | h0 <;> cases h0
  show W p l e R s m args below meth c H locs cells slots Q (F0 m pc ls (.int v :: z_cR α q :: sa.map (z_cV α)))
  rw [z_cR_ref (by omega)]
  have kk : ∀ (H1 : Heap) (locs1 : List Loc), va_P D vwCl ((z_ws α cA md S).set j (α q, .inr (q.1 - 1, ((List.range (z_nF q.1)).map (z_fv α md S q.1 q.2)).set b (.int v)))) H1 → va_D A ((z_ws α cA md S).set j (α q, .inr (q.1 - 1, ((List.range (z_nF q.1)).map (z_fv α md S q.1 q.2)).set b (.int v)))) → va_S A s.heap H1 locs1 → W p l e R s m args below meth c H1 locs1 cells slots Q (F0 m (pc + 3) ls (sa.map (z_cV α))) := by
    intro H1 locs1 hP1 hD1 hS1
    rw [hws] at hP1 hD1
    exact k H1 locs1 hP1 hD1 hS1
  cases hfb : fin with
  | false => exact va_put hx hb hts (fun w hw => z_wt (hin w hw)) ty hty hnm hown hK hP hD hS j he hvc b hbN (hts _ hlk) (fun x hh => by rw [hdecl b] at hh; exact hh) (by rw [hfn, hfb]) (hty b hbN) hty2.1 hty2.2 (by rw [List.length_map, List.length_range]; omega) hd kk
  | true => exact va_putF hx hb hts (fun w hw => z_wt (hin w hw)) ty hty hnm hown hK hP hD hS j he hvc b hbN (hts _ hlk) (fun x hh => by rw [hdecl b] at hh; exact hh) (by rw [hfn, hfb]) (hfi hfb).1 (by rw [hdecl b, hon, (hfi hfb).2]) (hty b hbN) hty2.1 hty2.2 (by rw [List.length_map, List.length_range]; omega) hd kk
theorem z_putR {i b : Nat} {q v : Nat × Nat} {C : String} {T : u_T} {N : Nat} {fin : Bool} (hx : p.tables.exec = Jvm.exec) (hb : c.code = cc) (hown : s.vm.findClass (z_on o) = some m.cls) (hts : ∀ w ∈ z_WT, w.before args s = true)
    (hd : decode cc pc = .ok (.putfield i, 3)) (hvc : vwCl[q.1 - 1]? = some (C, T, N)) (hbN : b < N) (hfn : (T b).2.2.2 = fin) (hfi : fin = true → meth.name = "<init>" ∧ o = q.1) (hlk : Cond.fieldLink (z_on o) i C (T b).2.1 (T b).2.2.1 ∈ z_WT) (hcf : z_CF (q.1 - 1) C T N) (ha0 : 0 < q.1) (ha13 : q.1 < 13)
    (hk : z_shK q.1 b = 2 ∨ z_shK q.1 b = 3) (hmd : md = true → z_shK q.1 b = 3 ∧ v.1 = z_dT q.1 b) (hv0 : v.1 ≠ 0) (g : z_gw p l e R s m args below meth c Q D A md sc α0 n0 n1 nL (pc + 3) la sa (z_sR S q.1 q.2 b v)) : z_gw p l e R s m args below meth c Q D A md sc α0 n0 n1 nL pc la (.inr (.inr v) :: .inr (.inr q) :: sa) S := by
  obtain ⟨hin, ⟨ty, hty, hkd⟩, hnm, hN, haK, -, -, hdecl, hon⟩ := hcf
  rw [Nat.sub_add_cancel ha0] at hN haK hkd hon
  have e1 : z_rv md (z_sR S q.1 q.2 b v) q.1 q.2 b = v := by
    have e0 : (z_sR S q.1 q.2 b v).2.2.1 q.1 q.2 b = v := by simp [z_sR]
    unfold z_rv
    rw [e0]
    cases hm : md with
    | false => rfl
    | true =>
      obtain ⟨h1, h2⟩ := hmd hm
      rw [h1, ← h2]
      rfl
  have e2 : ∀ t i j, ¬ (t = q.1 ∧ i = q.2 ∧ j = b) → z_rv md (z_sR S q.1 q.2 b v) t i j = z_rv md S t i j := by
    intro t i j hne
    have e0 : (z_sR S q.1 q.2 b v).2.2.1 t i j = S.2.2.1 t i j := by
      show (if t = q.1 ∧ i = q.2 ∧ j = b then v else S.2.2.1 t i j) = _
      rw [if_neg hne]
    unfold z_rv
    rw [e0]
  refine z_op2 g rfl (fun hv => z_vp2 hv) (fun hv hm k r hkn hkr => ⟨fun j hj => ?_, fun h5 j hj => ?_⟩) (fun α cA ls H locs cells slots hR hl hv k => ?_)
  · by_cases hne : r.1 = q.1 ∧ r.2 = q.2 ∧ j = b
    · obtain ⟨h1, h2, h3⟩ := hne
      rw [h1, h2, h3, e1]
      exact z_vh hv
    · rw [e2 _ _ _ hne]
      exact (hm k r hkn hkr).1 j hj
  · have hne : r ≠ (q.1, q.2) := fun h => by rw [h] at h5; rw [haK] at h5; cases h5
    have e3 : z_re md (z_sR S q.1 q.2 b v) r.1 r.2 j = z_re md S r.1 r.2 j := by
      have e0 : (z_sR S q.1 q.2 b v).2.2.1 r.1 r.2 j = S.2.2.1 r.1 r.2 j := by
        show (if r.1 = q.1 ∧ r.2 = q.2 ∧ j = b then v else S.2.2.1 r.1 r.2 j) = _
        rw [if_neg (fun h => hne (Prod.ext h.1 h.2.1))]
      unfold z_re
      rw [e0]
    rw [e3]
    exact (hm k r hkn hkr).2 h5 j hj
  obtain ⟨-, -, hmo, ⟨tys, hK, -⟩, hP, hD, hS, -⟩ := hR
  obtain ⟨j, hjn, hjq⟩ := z_okR.at (z_vh (z_vp hv)) ha0 (by omega)
  have he := z_ws_get (α := α) (cA := cA) (md := md) hjn hjq
  rw [z_bdO haK] at he
  have hset : ((List.range (z_nF q.1)).map (z_fv α md S q.1 q.2)).set b (.ref (α v)) = (List.range (z_nF q.1)).map (z_fv α md (z_sR S q.1 q.2 b v) q.1 q.2) := by
    have e4 : z_fv α md (z_sR S q.1 q.2 b v) q.1 q.2 b = .ref (α v) := by
      unfold z_fv
      rcases hk with hk | hk <;> rw [hk, e1] <;> exact z_cR_ref hv0
    rw [← e4]
    refine z_rng_set (by omega) (fun k hkb => ?_)
    unfold z_fv
    rw [e2 _ _ _ (fun h => hkb h.2.2)]
    rfl
  have hws := z_ws_set (α := α) (cA := cA) (md := md) (S := S) (S' := z_sR S q.1 q.2 b v) (r := q) (b := .inr (q.1 - 1, ((List.range (z_nF q.1)).map (z_fv α md S q.1 q.2)).set b (.ref (α v)))) rfl hjn hjq (fun r' hr => z_bd_sR hr) (by rw [z_bdO haK, hset])
  have hty2 : (narrow (ty b) (.ref (α v)) = .ref (α v)) ∧ fits (ty b) (.ref (α v)) = true := by
    rcases hkd b hbN with ⟨h0, h1⟩ | ⟨h0, h1⟩ | ⟨h0, h1⟩
    · rw [h0] at hk; rcases hk with hk | hk <;> cases hk
    · rw [h0] at hk; rcases hk with hk | hk <;> cases hk
    · rcases h1 with ⟨n, h1⟩ | ⟨n, h1⟩ <;> rw [h1] <;> exact ⟨rfl, rfl⟩
  show W p l e R s m args below meth c H locs cells slots Q (F0 m pc ls (z_cR α v :: z_cR α q :: sa.map (z_cV α)))
  rw [z_cR_ref hv0, z_cR_ref (show q.1 ≠ 0 by omega)]
  have kk : ∀ (H1 : Heap) (locs1 : List Loc), va_P D vwCl ((z_ws α cA md S).set j (α q, .inr (q.1 - 1, ((List.range (z_nF q.1)).map (z_fv α md S q.1 q.2)).set b (.ref (α v))))) H1 → va_D A ((z_ws α cA md S).set j (α q, .inr (q.1 - 1, ((List.range (z_nF q.1)).map (z_fv α md S q.1 q.2)).set b (.ref (α v))))) → va_S A s.heap H1 locs1 → W p l e R s m args below meth c H1 locs1 cells slots Q (F0 m (pc + 3) ls (sa.map (z_cV α))) := by
    intro H1 locs1 hP1 hD1 hS1
    rw [hws] at hP1 hD1
    exact k H1 locs1 hP1 hD1 hS1
  cases hfb : fin with
  | false => exact va_put hx hb hts (fun w hw => z_wt (hin w hw)) ty hty hnm hown hK hP hD hS j he hvc b hbN (hts _ hlk) (fun x hh => by rw [hdecl b] at hh; exact hh) (by rw [hfn, hfb]) (hty b hbN) hty2.1 hty2.2 (by rw [List.length_map, List.length_range]; omega) hd kk
  | true => exact va_putF hx hb hts (fun w hw => z_wt (hin w hw)) ty hty hnm hown hK hP hD hS j he hvc b hbN (hts _ hlk) (fun x hh => by rw [hdecl b] at hh; exact hh) (by rw [hfn, hfb]) (hfi hfb).1 (by rw [hdecl b, hon, (hfi hfb).2]) (hty b hbN) hty2.1 hty2.2 (by rw [List.length_map, List.length_range]; omega) hd kk
theorem z_aK_rng {t : Nat} (h : z_aK t ≠ 0) : 0 < t ∧ t < 90 := by
  refine ⟨Nat.pos_of_ne_zero (fun e => h (by rw [e]; rfl)), ?_⟩
  refine Nat.lt_of_not_le (fun h9 => h ?_)
  unfold z_aK
  rw [List.getD_eq_getElem?_getD, List.getElem?_eq_none (show z_aT.length ≤ t from Nat.le_trans (show z_aT.length ≤ 90 by decide +kernel) h9)]
  rfl
theorem z_arr {α : Nat × Nat → Nat} {cA : Nat × Nat → ClassId} {H : Heap} {locs : List Loc} {q : Nat × Nat} (hR : z_Rel s D A md sc α0 n0 α cA S H locs) (hq : z_okR S.2.2.2 q) (ha : z_aK q.1 ≠ 0) :
    ∃ (k t0 : Nat) (tys : List (ClassId × FieldType)), k < S.2.2.2 ∧ z_ord[k]? = some q ∧ va_K D vwCl tys s ∧ tys[t0]? = some (cA q, z_ty q.1) ∧ (z_ws α cA md S)[k]? = some (α q, z_bd α cA md S q) := by
  obtain ⟨h0, h9⟩ := z_aK_rng ha
  obtain ⟨-, -, -, ⟨tys, hK, htk⟩, -⟩ := hR
  obtain ⟨k, hk, hkq⟩ := z_okR.at hq h0 h9
  obtain ⟨t0, ht0⟩ := htk k q hk hkq ha
  exact ⟨k, t0, tys, hk, hkq, hK, ht0, z_ws_get hk hkq⟩
/-- a word of an int, boolean, byte array is read -/
theorem z_aldI {j : Int32} {q : Nat × Nat} {ins : Instr} (hx : p.tables.exec = Jvm.exec) (hb : c.code = cc) (hd : decode cc pc = .ok (ins, 1)) (hk : (z_aK q.1 = 1 ∧ ins = .iaload) ∨ ((z_aK q.1 = 2 ∨ z_aK q.1 = 3) ∧ ins = .baload)) (ho : z_oob j (z_aN q.1 q.2) = false)
    (g : z_gw p l e R s m args below meth c Q D A md sc α0 n0 n1 nL (pc + 1) la (.inl (S.1 q.1 q.2 j.toNatClampNeg) :: sa) S) : z_gw p l e R s m args below meth c Q D A md sc α0 n0 n1 nL pc la (.inl j :: .inr (.inr q) :: sa) S := by
  refine z_op1 g (fun hv => z_vc trivial (z_vp2 hv)) (fun α cA ls H locs cells slots hR hl hv k => ?_)
  have hk0 : z_aK q.1 ≠ 0 := by rcases hk with ⟨h, -⟩ | ⟨h | h, -⟩ <;> rw [h] <;> decide
  have hk1 : z_aK q.1 = 1 ∨ z_aK q.1 = 2 ∨ z_aK q.1 = 3 := by rcases hk with ⟨h, -⟩ | ⟨h | h, -⟩ <;> simp [h]
  obtain ⟨kq, t0, tys, hkn, hkq, hK, ht, he⟩ := z_arr hR (z_vh (z_vp hv)) hk0
  rw [z_bdI hk1] at he
  obtain ⟨-, -, -, -, hP, -⟩ := hR
  have k2 := k ls hl
  show W p l e R s m args below meth c H locs cells slots Q (F0 m pc ls (.int j :: z_cR α q :: sa.map (z_cV α)))
  rw [z_cR_ref (Nat.pos_iff_ne_zero.mp (z_aK_rng hk0).1)]
  rcases hk with ⟨h, h2⟩ | ⟨h | h, h2⟩
  · subst h2; unfold z_ty at ht; rw [h] at ht
    exact va_iald hx hb hK hP kq t0 he ht (z_oob_in ho) hd k2
  · subst h2; unfold z_ty at ht; rw [h] at ht
    exact va_zald hx hb hK hP kq t0 he ht (z_oob_in ho) hd k2
  · subst h2; unfold z_ty at ht; rw [h] at ht
    exact va_bald hx hb hK hP kq t0 he ht (z_oob_in ho) hd k2
theorem z_aldL {j : Int32} {q : Nat × Nat} (hx : p.tables.exec = Jvm.exec) (hb : c.code = cc) (hd : decode cc pc = .ok (.laload, 1)) (hk : z_aK q.1 = 4) (ho : z_oob j (z_aN q.1 q.2) = false)
    (g : z_gw p l e R s m args below meth c Q D A md sc α0 n0 n1 nL (pc + 1) la (.inr (.inl (S.2.1 q.1 q.2 j.toNatClampNeg)) :: sa) S) : z_gw p l e R s m args below meth c Q D A md sc α0 n0 n1 nL pc la (.inl j :: .inr (.inr q) :: sa) S := by
  refine z_op1 g (fun hv => z_vc trivial (z_vp2 hv)) (fun α cA ls H locs cells slots hR hl hv k => ?_)
  have hk0 : z_aK q.1 ≠ 0 := by rw [hk]; decide
  obtain ⟨kq, t0, tys, hkn, hkq, hK, ht, he⟩ := z_arr hR (z_vh (z_vp hv)) hk0
  rw [z_bdL hk] at he
  obtain ⟨-, -, -, -, hP, -⟩ := hR
  have k2 := k ls hl
  show W p l e R s m args below meth c H locs cells slots Q (F0 m pc ls (.int j :: z_cR α q :: sa.map (z_cV α)))
  rw [z_cR_ref (Nat.pos_iff_ne_zero.mp (z_aK_rng hk0).1)]
  unfold z_ty at ht; rw [hk] at ht
  exact va_lald hx hb hK hP kq t0 he ht (z_oob_in ho) hd k2
theorem z_aldR {j : Int32} {q : Nat × Nat} (hx : p.tables.exec = Jvm.exec) (hb : c.code = cc) (hd : decode cc pc = .ok (.aaload, 1)) (hk : z_aK q.1 = 5) (ho : z_oob j (z_aN q.1 q.2) = false)
    (g : z_gw p l e R s m args below meth c Q D A md sc α0 n0 n1 nL (pc + 1) la (.inr (.inr (z_re md S q.1 q.2 j.toNatClampNeg)) :: sa) S) : z_gw p l e R s m args below meth c Q D A md sc α0 n0 n1 nL pc la (.inl j :: .inr (.inr q) :: sa) S := by
  refine ⟨g.1, fun α cA ls H locs hR hl hv => ?_⟩
  have hk0 : z_aK q.1 ≠ 0 := by rw [hk]; decide
  obtain ⟨kq, t0, tys, hkn, hkq, hK, ht, he⟩ := z_arr hR (z_vh (z_vp hv)) hk0
  rw [z_bdR hk] at he
  have hR0 := hR
  obtain ⟨-, -, hmo, -, hP, -⟩ := hR
  have hlt : j.toNatClampNeg < z_aN q.1 q.2 := Nat.not_le.mp (fun h => (z_oob_in ho) (Or.inr h))
  have k2 := g.2 α cA ls H locs hR0 hl (z_vc ((hmo kq q hkn hkq).2 hk _ hlt) (z_vp2 hv))
  show W p l e R s m args below meth c H locs _ _ Q (F0 m pc ls (.int j :: z_cR α q :: sa.map (z_cV α)))
  rw [z_cR_ref (Nat.pos_iff_ne_zero.mp (z_aK_rng hk0).1)]
  unfold z_ty at ht; rw [hk] at ht
  refine va_aldq hx hb hK hP kq t0 he ht (z_oob_in ho) hd ?_
  have e1 : va_rf (if j.toNatClampNeg < z_aN q.1 q.2 then z_op α (z_re md S q.1 q.2 j.toNatClampNeg) else none) = z_cV α (.inr (.inr (z_re md S q.1 q.2 j.toNatClampNeg))) := by
    rw [if_pos hlt]
    show _ = z_cR α _
    unfold z_op z_cR
    split <;> rfl
  rw [e1]
  exact k2
theorem z_astI {j v v' : Int32} {q : Nat × Nat} {ins : Instr} (hx : p.tables.exec = Jvm.exec) (hb : c.code = cc) (hd : decode cc pc = .ok (ins, 1)) (hk : (z_aK q.1 = 1 ∧ ins = .iastore ∧ v' = v) ∨ (z_aK q.1 = 2 ∧ ins = .bastore ∧ v' = vp_nar .boolean v) ∨ (z_aK q.1 = 3 ∧ ins = .bastore ∧ v' = vp_nar .byte v)) (ho : z_oob j (z_aN q.1 q.2) = false)
    (g : z_gw p l e R s m args below meth c Q D A md sc α0 n0 n1 nL (pc + 1) la sa (z_sI S q.1 q.2 j.toNatClampNeg v')) : z_gw p l e R s m args below meth c Q D A md sc α0 n0 n1 nL pc la (.inl v :: .inl j :: .inr (.inr q) :: sa) S := by
  refine z_op2 g rfl (fun hv => z_vp (z_vp2 hv)) (fun _ h => h) (fun α cA ls H locs cells slots hR hl hv k => ?_)
  have hk1 : z_aK q.1 = 1 ∨ z_aK q.1 = 2 ∨ z_aK q.1 = 3 := by rcases hk with ⟨h, -⟩ | ⟨h, -⟩ | ⟨h, -⟩ <;> simp [h]
  have hk0 : z_aK q.1 ≠ 0 := by rcases hk1 with h | h | h <;> rw [h] <;> decide
  obtain ⟨kq, t0, tys, hkn, hkq, hK, ht, he⟩ := z_arr hR (z_vh (z_vp2 hv)) hk0
  rw [z_bdI hk1] at he
  obtain ⟨-, -, -, -, hP, hD, hS, -⟩ := hR
  have e1 : upd (S.1 q.1 q.2) j.toNatClampNeg v' = (z_sI S q.1 q.2 j.toNatClampNeg v').1 q.1 q.2 := by
    funext i
    show (if i = _ then v' else S.1 q.1 q.2 i) = (if q.1 = q.1 ∧ q.2 = q.2 ∧ i = _ then v' else S.1 q.1 q.2 i)
    simp
  have hws := z_ws_set (α := α) (cA := cA) (md := md) (S := S) (S' := z_sI S q.1 q.2 j.toNatClampNeg v') (r := q) (b := .inl (cA q, z_aN q.1 q.2, .inl (upd (S.1 q.1 q.2) j.toNatClampNeg v'))) rfl hkn hkq (fun r' hr => z_bd_sI hr) (by rw [z_bdI hk1, e1])
  have kk : ∀ (H1 : Heap) (locs1 : List Loc), va_P D vwCl ((z_ws α cA md S).set kq (α q, .inl (cA q, z_aN q.1 q.2, .inl (upd (S.1 q.1 q.2) j.toNatClampNeg v')))) H1 → va_D A ((z_ws α cA md S).set kq (α q, .inl (cA q, z_aN q.1 q.2, .inl (upd (S.1 q.1 q.2) j.toNatClampNeg v')))) → va_S A s.heap H1 locs1 → W p l e R s m args below meth c H1 locs1 cells slots Q (F0 m (pc + 1) ls (sa.map (z_cV α))) := by
    intro H1 locs1 hP1 hD1 hS1
    rw [hws] at hP1 hD1
    exact k H1 locs1 hP1 hD1 hS1
  show W p l e R s m args below meth c H locs cells slots Q (F0 m pc ls (.int v :: .int j :: z_cR α q :: sa.map (z_cV α)))
  rw [z_cR_ref (Nat.pos_iff_ne_zero.mp (z_aK_rng hk0).1)]
  rcases hk with ⟨h, h2, h3⟩ | ⟨h, h2, h3⟩ | ⟨h, h2, h3⟩
  · subst h2; subst h3; unfold z_ty at ht; rw [h] at ht
    exact va_iast hx hb hK hP hD hS kq t0 he ht (z_oob_in ho) hd kk
  · subst h2; subst h3; unfold z_ty at ht; rw [h] at ht
    exact va_zast hx hb hK hP hD hS kq t0 he ht (z_oob_in ho) hd kk
  · subst h2; subst h3; unfold z_ty at ht; rw [h] at ht
    exact va_bast hx hb hK hP hD hS kq t0 he ht (z_oob_in ho) hd kk
theorem z_astL {j : Int32} {v : Int64} {q : Nat × Nat} (hx : p.tables.exec = Jvm.exec) (hb : c.code = cc) (hd : decode cc pc = .ok (.lastore, 1)) (hk : z_aK q.1 = 4) (ho : z_oob j (z_aN q.1 q.2) = false)
    (g : z_gw p l e R s m args below meth c Q D A md sc α0 n0 n1 nL (pc + 1) la sa (z_sL S q.1 q.2 j.toNatClampNeg v)) : z_gw p l e R s m args below meth c Q D A md sc α0 n0 n1 nL pc la (.inr (.inl v) :: .inl j :: .inr (.inr q) :: sa) S := by
  refine z_op2 g rfl (fun hv => z_vp (z_vp2 hv)) (fun _ h => h) (fun α cA ls H locs cells slots hR hl hv k => ?_)
  have hk0 : z_aK q.1 ≠ 0 := by rw [hk]; decide
  obtain ⟨kq, t0, tys, hkn, hkq, hK, ht, he⟩ := z_arr hR (z_vh (z_vp2 hv)) hk0
  rw [z_bdL hk] at he
  obtain ⟨-, -, -, -, hP, hD, hS, -⟩ := hR
  have e1 : vp_updL (S.2.1 q.1 q.2) j.toNatClampNeg v = (z_sL S q.1 q.2 j.toNatClampNeg v).2.1 q.1 q.2 := by
    funext i
    show (if i = _ then v else S.2.1 q.1 q.2 i) = (if q.1 = q.1 ∧ q.2 = q.2 ∧ i = _ then v else S.2.1 q.1 q.2 i)
    simp
  have hws := z_ws_set (α := α) (cA := cA) (md := md) (S := S) (S' := z_sL S q.1 q.2 j.toNatClampNeg v) (r := q) (b := .inl (cA q, z_aN q.1 q.2, .inr (.inl (vp_updL (S.2.1 q.1 q.2) j.toNatClampNeg v)))) rfl hkn hkq (fun r' hr => z_bd_sL hr) (by rw [z_bdL hk, e1])
  show W p l e R s m args below meth c H locs cells slots Q (F0 m pc ls (.long v :: .int j :: z_cR α q :: sa.map (z_cV α)))
  rw [z_cR_ref (Nat.pos_iff_ne_zero.mp (z_aK_rng hk0).1)]
  unfold z_ty at ht; rw [hk] at ht
  refine va_last hx hb hK hP hD hS kq t0 he ht (z_oob_in ho) hd (fun H1 locs1 hP1 hD1 hS1 => ?_)
  rw [hws] at hP1 hD1
  exact k H1 locs1 hP1 hD1 hS1
theorem z_sldS {j : Int32} {q : Nat × Nat} {L : Nat} {xs : Nat → Int32} (hx : p.tables.exec = Jvm.exec) (hb : c.code = cc) (hd : decode cc pc = .ok (.iaload, 1)) (hq : q.1 = 90) (hsc : sc = some (L, xs)) (ho : z_oob j L = false)
    (g : z_gw p l e R s m args below meth c Q D A md sc α0 n0 n1 nL (pc + 1) la (.inl (xs j.toNatClampNeg) :: sa) S) : z_gw p l e R s m args below meth c Q D A md sc α0 n0 n1 nL pc la (.inl j :: .inr (.inr q) :: sa) S := by
  refine z_op1 g (fun hv => z_vc trivial (z_vp2 hv)) (fun α cA ls H locs cells slots hR hl hv k => ?_)
  have e1 : q = (90, 0) := by
    rcases z_vh (z_vp hv) with h | h | ⟨k, -, h⟩
    · rw [hq] at h; cases h
    · exact h
    · have h1 := z_ord_at h; omega
  obtain ⟨-, -, -, -, -, -, hS, -, hsr⟩ := hR
  rw [hsc] at hsr
  obtain ⟨hX, hbl, hbA⟩ := hsr
  show W p l e R s m args below meth c H locs cells slots Q (F0 m pc ls (.int j :: z_cR α q :: sa.map (z_cV α)))
  rw [z_cR_ref (show q.1 ≠ 0 by omega), e1]
  exact va_sld hx hb hX hbl hbA hS (z_oob_in ho) hd (k ls hl)
theorem z_slnS {q : Nat × Nat} {L : Nat} {xs : Nat → Int32} (hx : p.tables.exec = Jvm.exec) (hb : c.code = cc) (hd : decode cc pc = .ok (.arraylength, 1)) (hq : q.1 = 90) (hsc : sc = some (L, xs))
    (g : z_gw p l e R s m args below meth c Q D A md sc α0 n0 n1 nL (pc + 1) la (.inl (Int32.ofNat L) :: sa) S) : z_gw p l e R s m args below meth c Q D A md sc α0 n0 n1 nL pc la (.inr (.inr q) :: sa) S := by
  refine z_op1 g (fun hv => z_vc trivial (z_vp hv)) (fun α cA ls H locs cells slots hR hl hv k => ?_)
  have e1 : q = (90, 0) := by
    rcases z_vh hv with h | h | ⟨k, -, h⟩
    · rw [hq] at h; cases h
    · exact h
    · have h1 := z_ord_at h; omega
  obtain ⟨-, -, -, -, -, -, hS, -, hsr⟩ := hR
  rw [hsc] at hsr
  obtain ⟨hX, hbl, hbA⟩ := hsr
  show W p l e R s m args below meth c H locs cells slots Q (F0 m pc ls (z_cR α q :: sa.map (z_cV α)))
  rw [z_cR_ref (show q.1 ≠ 0 by omega), e1]
  exact va_slen hx hb hX hbl hbA hS hd (k ls hl)
theorem z_len {q : Nat × Nat} (hx : p.tables.exec = Jvm.exec) (hb : c.code = cc) (hd : decode cc pc = .ok (.arraylength, 1)) (hk0 : z_aK q.1 ≠ 0)
    (g : z_gw p l e R s m args below meth c Q D A md sc α0 n0 n1 nL (pc + 1) la (.inl (Int32.ofNat (z_aN q.1 q.2)) :: sa) S) : z_gw p l e R s m args below meth c Q D A md sc α0 n0 n1 nL pc la (.inr (.inr q) :: sa) S := by
  refine z_op1 g (fun hv => z_vc trivial (z_vp hv)) (fun α cA ls H locs cells slots hR hl hv k => ?_)
  obtain ⟨kq, t0, tys, hkn, hkq, hK, ht, he⟩ := z_arr hR (z_vh hv) hk0
  obtain ⟨-, -, -, -, hP, -⟩ := hR
  have k2 := k ls hl
  show W p l e R s m args below meth c H locs cells slots Q (F0 m pc ls (z_cR α q :: sa.map (z_cV α)))
  rw [z_cR_ref (Nat.pos_iff_ne_zero.mp (z_aK_rng hk0).1)]
  have e1 : ∃ x : vp_A, z_bd α cA md S q = .inl (cA q, x) ∧ x.1 = z_aN q.1 q.2 := by
    unfold z_bd
    split
    · rename_i h; exact absurd h hk0
    · exact ⟨_, rfl, rfl⟩
    · exact ⟨_, rfl, rfl⟩
    · exact ⟨_, rfl, rfl⟩
  obtain ⟨x, h1, h2⟩ := e1
  rw [h1] at he
  exact va_alen hx hb hK hP kq t0 he ht (v := Int32.ofNat (z_aN q.1 q.2)) (by rw [h2]) hd k2
/-- a new name gets its place -/
def z_up {β : Type} (f : Nat × Nat → β) (r : Nat × Nat) (v : β) : Nat × Nat → β := fun q => if q = r then v else f q
theorem z_up_old {β : Type} {f : Nat × Nat → β} {n : Nat} {r q : Nat × Nat} {v : β} (hr : z_ord[n]? = some r) (h : z_okR n q) : z_up f r v q = f q := by
  have hne : q ≠ r := by
    have h1 := z_ord_at hr
    rcases h with h | h | ⟨k, hk, h⟩
    · intro e; rw [e] at h; omega
    · intro e; rw [e] at h; rw [h] at h1; omega
    · intro e; rw [e] at h; have := z_one h hr; omega
  exact if_neg hne
theorem z_cV_up {α : Nat × Nat → Nat} {n a : Nat} {r : Nat × Nat} {v : z_AV} (hr : z_ord[n]? = some r) (h : z_okV n v) : z_cV (z_up α r a) v = z_cV α v := by
  rcases v with x | x | q
  · rfl
  · rfl
  · show z_cR _ q = z_cR _ q
    unfold z_cR
    rw [z_up_old hr h]
theorem z_rst_ne {t i : Nat} {r : Nat × Nat} (h : r ≠ (t, i)) : (z_rst S t i).1 r.1 r.2 = S.1 r.1 r.2 ∧ (z_rst S t i).2.1 r.1 r.2 = S.2.1 r.1 r.2 ∧ (z_rst S t i).2.2.1 r.1 r.2 = S.2.2.1 r.1 r.2 := by
  have h2 : ¬ (r.1 = t ∧ r.2 = i) := fun q => h (Prod.ext q.1 q.2)
  refine ⟨funext fun j => ?_, funext fun j => ?_, funext fun j => ?_⟩
  · show (if r.1 = t ∧ r.2 = i then 0 else S.1 r.1 r.2 j) = _
    rw [if_neg h2]
  · show (if r.1 = t ∧ r.2 = i then 0 else S.2.1 r.1 r.2 j) = _
    rw [if_neg h2]
  · show (if r.1 = t ∧ r.2 = i then (0, 0) else S.2.2.1 r.1 r.2 j) = _
    rw [if_neg h2]
theorem z_bd_up {α : Nat × Nat → Nat} {cA : Nat × Nat → ClassId} {a k : Nat} {ca : ClassId} {r q : Nat × Nat} (hm : z_mok md S) (hr : z_ord[S.2.2.2]? = some r) (hk : k < S.2.2.2) (hq : z_ord[k]? = some q) : z_bd (z_up α r a) (z_up cA r ca) md S q = z_bd α cA md S q := by
  have hok : z_okR S.2.2.2 q := Or.inr (Or.inr ⟨k, hk, hq⟩)
  have hc : z_up cA r ca q = cA q := z_up_old hr hok
  have h1 : (List.range (z_nF q.1)).map (z_fv (z_up α r a) md S q.1 q.2) = (List.range (z_nF q.1)).map (z_fv α md S q.1 q.2) := by
    refine List.map_congr_left (fun j hj => ?_)
    unfold z_fv
    have hj2 : j < z_nF q.1 := List.mem_range.mp hj
    split
    · rfl
    · rfl
    · rename_i h0 h1
      have hs : z_shK q.1 j = 2 ∨ z_shK q.1 j = 3 := by
        rcases z_kd hj2 with h | h | h | h
        · exact absurd h h0
        · exact absurd h h1
        · exact Or.inl h
        · exact Or.inr h
      unfold z_cR
      rw [z_up_old hr ((hm k q hk hq).1 j hs)]
  have h2 : ∀ j, j < z_aN q.1 q.2 → z_aK q.1 = 5 → z_op (z_up α r a) (z_re md S q.1 q.2 j) = z_op α (z_re md S q.1 q.2 j) := by
    intro j hj h5
    unfold z_op
    rw [z_up_old hr ((hm k q hk hq).2 h5 j hj)]
  unfold z_bd
  rw [hc]
  split
  · rw [h1]
  · rfl
  · rename_i h5
    have h6 : (fun j => if j < z_aN q.1 q.2 then z_op (z_up α r a) (z_re md S q.1 q.2 j) else none) = (fun j => if j < z_aN q.1 q.2 then z_op α (z_re md S q.1 q.2 j) else none) := by
      funext j
      by_cases hj : j < z_aN q.1 q.2
      · rw [if_pos hj, if_pos hj, h2 j hj h5]
      · rw [if_neg hj, if_neg hj]
    rw [h6]
  · rfl
theorem z_lt176 {r : Nat × Nat} {n : Nat} (hr : z_ord[n]? = some r) : n < 176 := by
  have h := (List.getElem?_eq_some_iff.mp hr).1
  rw [z_ord_len] at h
  exact h
/-- something is made -/
theorem z_grow {r : Nat × Nat} {cost : Nat} (hR0 : n1 - n0 ≤ R.cells ∧ z_sz n1 - z_sz n0 ≤ R.slots) (hr : z_ord[S.2.2.2]? = some r) (hmd : md = false) (hcost : z_size r = cost)
    (g : z_gw p l e R s m args below meth c Q D A md sc α0 n0 n1 nL pc' la (.inr (.inr r) :: sa') (z_rst S r.1 r.2)) (hsa : ∃ u, sa = u ++ sa')
    (row : ∀ (α : Nat × Nat → Nat) (cA : Nat × Nat → ClassId) (ls : Array Slot) (H : Heap) (locs : List Loc) (cells slots : Nat), z_Rel s D A md sc α0 n0 α cA S H locs → z_LV α la ls nL → z_vok S.2.2.2 la sa → cells + 1 ≤ R.cells → slots + cost ≤ R.slots →
      (∀ (q : Nat) (cA1 : ClassId) (bd : va_E) (H1 : Heap) (tys : List (ClassId × FieldType)), z_bd (z_up α r q) (z_up cA r cA1) md (z_rst S r.1 r.2) r = bd → va_K D vwCl tys s → z_tok (z_up cA r cA1) (S.2.2.2 + 1) tys → va_P D vwCl (z_ws α cA md S ++ [(q, bd)]) H1 → va_D A (z_ws α cA md S ++ [(q, bd)]) → va_S A s.heap H1 locs →
        W p l e R s m args below meth c H1 locs (cells + 1) (slots + cost) Q (F0 m pc' ls (.ref q :: sa'.map (z_cV α)))) →
      W p l e R s m args below meth c H locs cells slots Q (F0 m pc ls (sa.map (z_cV α)))) : z_gw p l e R s m args below meth c Q D A md sc α0 n0 n1 nL pc la sa S := by
  have hn : S.2.2.2 + 1 ≤ n1 := g.1
  have hn176 := z_lt176 hr
  refine ⟨Nat.le_of_succ_le hn, fun α cA ls H locs hR hl hk => ?_⟩
  obtain ⟨⟨hn0, hn6⟩, hag, hmo, hKt, hP, hD, hS, hA, hsr⟩ := id hR
  have hs1 : z_sz S.2.2.2 + cost ≤ z_sz n1 := by rw [← hcost, ← z_sz_succ hr]; exact z_sz_le hn
  have hs0 : z_sz n0 ≤ z_sz S.2.2.2 := z_sz_le hn0
  refine row α cA ls H locs _ _ hR hl hk (by omega) (by omega) (fun q cA1 bd H1 tys hbd hK1 htk hP1 hD1 hS1 => ?_)
  subst hmd
  have hwsq : z_ws (z_up α r q) (z_up cA r cA1) false (z_rst S r.1 r.2) = z_ws α cA false S ++ [(q, bd)] := by
    apply List.ext_getElem?
    intro j
    have hlen := z_ws_len (α := α) (cA := cA) (md := false) hn6
    rw [List.getElem?_append, hlen]
    by_cases hj : j < S.2.2.2
    · rw [if_pos hj]
      obtain ⟨q2, hq2⟩ : ∃ q2, z_ord[j]? = some q2 := ⟨z_ord[j]'(by rw [z_ord_len]; omega), List.getElem?_eq_getElem _⟩
      rw [z_ws_get (S := S) hj hq2, z_ws_get (S := z_rst S r.1 r.2) (show j < S.2.2.2 + 1 by omega) hq2]
      have hne : q2 ≠ r := fun e => by rw [e] at hq2; have := z_one hq2 hr; omega
      obtain ⟨f1, f2, f3⟩ := z_rst_ne (S := S) (t := r.1) (i := r.2) (r := q2) hne
      rw [z_bd_cong (S := S) (S' := z_rst S r.1 r.2) f1 f2 f3, z_bd_up hmo hr hj hq2]
      have e1 : z_up α r q q2 = α q2 := if_neg hne
      rw [e1]
    · rw [if_neg hj]
      by_cases hj2 : j = S.2.2.2
      · subst hj2
        rw [z_ws_get (S := z_rst S r.1 r.2) (show S.2.2.2 < S.2.2.2 + 1 by omega) hr, hbd, Nat.sub_self]
        have e1 : z_up α r q r = q := if_pos rfl
        rw [e1]
        rfl
      · rw [List.getElem?_eq_none (by rw [z_ws_len (S := z_rst S r.1 r.2) (show S.2.2.2 + 1 ≤ 176 by omega)]; show S.2.2.2 + 1 ≤ j; omega), List.getElem?_eq_none (by simp; omega)]
  have hal : ∀ v, z_okV S.2.2.2 v → z_cV (z_up α r q) v = z_cV α v := fun v hv => z_cV_up hr hv
  obtain ⟨u, hu⟩ := hsa
  have hk' : ∀ v ∈ sa', z_okV S.2.2.2 v := fun v hv => hk.1 v (by rw [hu]; exact List.mem_append_right _ hv)
  have hstk : (Sum.inr (Sum.inr r) :: sa' : List z_AV).map (z_cV (z_up α r q)) = .ref q :: sa'.map (z_cV α) := by
    rw [List.map_cons]
    have h1 := z_ord_at hr
    have e1 : z_cV (z_up α r q) (.inr (.inr r)) = .ref q := by
      show z_cR _ r = _
      rw [z_cR_ref (by omega)]
      have e2 : z_up α r q r = q := if_pos rfl
      rw [e2]
    rw [e1]
    congr 1
    exact List.map_congr_left (fun v hv => hal v (hk' v hv))
  have hmo' : z_mok false (z_rst S r.1 r.2) := by
    intro k q2 hk2 hq2
    have hk3 : k < S.2.2.2 + 1 := hk2
    have hnew : z_okR (z_rst S r.1 r.2).2.2.2 (0, 0) := Or.inl rfl
    by_cases hne : q2 = r
    · subst hne
      have e1 : ∀ j, (z_rst S q2.1 q2.2).2.2.1 q2.1 q2.2 j = (0, 0) := fun j => by simp [z_rst]
      exact ⟨fun j _ => by show z_okR _ ((z_rst S q2.1 q2.2).2.2.1 q2.1 q2.2 j); rw [e1]; exact hnew, fun _ j _ => by show z_okR _ ((z_rst S q2.1 q2.2).2.2.1 q2.1 q2.2 j); rw [e1]; exact hnew⟩
    · have hk4 : k < S.2.2.2 := by
        rcases Nat.lt_or_ge k S.2.2.2 with h | h
        · exact h
        · have e : k = S.2.2.2 := by omega
          subst e
          rw [hr] at hq2
          exact absurd (Option.some.inj hq2).symm hne
      obtain ⟨-, -, f3⟩ := z_rst_ne (S := S) (t := r.1) (i := r.2) (r := q2) hne
      have h5 := hmo k q2 hk4 hq2
      refine ⟨fun j hj => ?_, fun h6 j hj => ?_⟩
      · show z_okR (S.2.2.2 + 1) ((z_rst S r.1 r.2).2.2.1 q2.1 q2.2 j)
        rw [f3]
        exact (h5.1 j hj).mono (Nat.le_succ _)
      · show z_okR (S.2.2.2 + 1) ((z_rst S r.1 r.2).2.2.1 q2.1 q2.2 j)
        rw [f3]
        exact (h5.2 h6 j hj).mono (Nat.le_succ _)
  have hlv : z_LV (z_up α r q) la ls nL := ⟨hl.1, hl.2.1, hl.2.2.1, fun i v hi => by rw [hal v (hk.2 v (List.mem_of_getElem? hi))]; exact hl.2.2.2 i v hi⟩
  have hb90 : z_up α r q (90, 0) = α (90, 0) := z_up_old hr (Or.inr (Or.inl rfl))
  have g2 := g.2 (z_up α r q) (z_up cA r cA1) ls H1 locs ⟨⟨Nat.le_succ_of_le hn0, (show S.2.2.2 + 1 ≤ 176 by omega)⟩, fun r2 h2 => (z_up_old hr (h2.mono hn0)).trans (hag r2 h2), hmo', ⟨tys, hK1, htk⟩, by rw [hwsq]; exact hP1, by rw [hwsq]; exact hD1, hS1, hA, by rw [hb90]; exact hsr⟩ hlv
    ⟨fun v hv => by
      rcases List.mem_cons.mp hv with e | e
      · rw [e]; exact Or.inr (Or.inr ⟨S.2.2.2, (show S.2.2.2 < S.2.2.2 + 1 by omega), hr⟩)
      · exact (hk' v e).mono (Nat.le_succ _), fun v hv => (hk.2 v hv).mono (Nat.le_succ _)⟩
  rw [hstk] at g2
  have e3 : (z_rst S r.1 r.2).2.2.2 - n0 = S.2.2.2 - n0 + 1 := by show S.2.2.2 + 1 - n0 = _; omega
  have e4 : z_sz (z_rst S r.1 r.2).2.2.2 - z_sz n0 = z_sz S.2.2.2 - z_sz n0 + cost := by show z_sz (S.2.2.2 + 1) - z_sz n0 = _; rw [z_sz_succ hr, hcost]; omega
  rw [e3, e4] at g2
  exact g2
theorem z_st_okL {α : Nat × Nat → Nat} {l' : z_Lc} {a : Nat} {v : z_AV} (hl : la.length = nL) (ha : a + 1 < nL) (h : z_st la a v = some l') (ls' : Array Slot) (hls : lv_has ls' nL ((a, z_cV α v) :: (z_asc α la).filter (fun q => !(q.1 == a) && (!(q.1 == a + 1) && !(q.1 + 1 == a && q.2.category == 2))))) : z_LV α (l'.set (a + 1) none) ls' nL := by
  have h0 : l' = la.set a (some v) ∧ ∀ j u, j + 1 = a → la[j]? = some (some u) → ¬ ∃ x, u = .inr (.inl x) := by
    unfold z_st at h
    cases a with
    | zero => exact ⟨(Option.some.inj h).symm, fun j u e => by omega⟩
    | succ j =>
      dsimp only at h
      split at h
      · cases h
      · rename_i hne
        refine ⟨(Option.some.inj h).symm, fun j' u e hu ⟨x, hx⟩ => ?_⟩
        have e2 : j' = j := by omega
        subst e2
        subst hx
        refine hne x ?_
        rw [List.getD_eq_getElem?_getD, hu]
        rfl
  rw [h0.1]
  refine ⟨by rw [List.length_set, List.length_set]; exact hl, hls.1, hls.2.1, fun i u hi => ?_⟩
  rw [List.getElem?_set] at hi
  by_cases e1 : a + 1 = i
  · rw [if_pos e1] at hi
    split at hi <;> cases hi
  · rw [if_neg e1, List.getElem?_set] at hi
    by_cases e : a = i
    · subst e
      rw [if_pos rfl, if_pos (by omega)] at hi
      have e2 : v = u := Option.some.inj (Option.some.inj hi)
      subst e2
      exact hls.2.2 _ List.mem_cons_self
    · rw [if_neg e] at hi
      refine hls.2.2 (i, z_cV α u) (List.mem_cons_of_mem _ (List.mem_filter.mpr ⟨z_asc_in hi, ?_⟩))
      by_cases e3 : i + 1 = a
      · have h3 := h0.2 i u e3 hi
        have h4 : ¬ (z_cV α u).category = 2 := fun q => h3 ((z_cat_of α u).mp q)
        simp [Ne.symm e, Ne.symm e1, h4]
      · simp [Ne.symm e, Ne.symm e1, e3]
theorem z_sw_ok {ρ : Type} (sw : List (Int32 × Nat)) (v : Int32) (f : Nat → ρ) (d : Nat) : (z_sw sw v f d = f d ∧ ∀ q ∈ sw, v ≠ q.1) ∨ ∃ (k : Nat) (q : Int32 × Nat), sw[k]? = some q ∧ v = q.1 ∧ z_sw sw v f d = f q.2 := by
  induction sw with
  | nil => exact Or.inl ⟨rfl, fun q hq => by cases hq⟩
  | cons q r ih =>
    by_cases hv : v = q.1
    · exact Or.inr ⟨0, q, rfl, hv, if_pos hv⟩
    · have e : z_sw (q :: r) v f d = z_sw r v f d := if_neg hv
      rcases ih with ⟨h1, h2⟩ | ⟨k, q2, h1, h2, h3⟩
      · refine Or.inl ⟨e.trans h1, fun q2 hq2 => ?_⟩
        rcases List.mem_cons.mp hq2 with h | h
        · rw [h]; exact hv
        · exact h2 q2 h
      · exact Or.inr ⟨k + 1, q2, h1, h2, e.trans h3⟩
def z_dv (k : Nat) : Value := match k with
  | 0 => .int 0
  | 1 => .int 0
  | _ => .null
theorem z_bd_new {α' : Nat × Nat → Nat} {cA' : Nat × Nat → ClassId} {r : Nat × Nat} (hmd : md = false) (h : z_aK r.1 = 0) : z_bd α' cA' md (z_rst S r.1 r.2) r = .inr (r.1 - 1, (List.range (z_nF r.1)).map (fun j => z_dv (z_shK r.1 j))) := by
  subst hmd
  rw [z_bdO h]
  congr 2
  refine List.map_congr_left (fun j _ => ?_)
  unfold z_fv
  have e1 : (z_rst S r.1 r.2).1 r.1 r.2 j = 0 := by simp [z_rst]
  have e2 : z_rv false (z_rst S r.1 r.2) r.1 r.2 j = (0, 0) := by show (z_rst S r.1 r.2).2.2.1 r.1 r.2 j = _; simp [z_rst]
  rw [e1, e2]
  generalize z_shK r.1 j = k
  match k with
  | 0 => rfl
  | 1 => rfl
  | k + 2 => rfl
theorem z_tok_new0 {cA : Nat × Nat → ClassId} {r : Nat × Nat} {n : Nat} {cA1 : ClassId} {tys : List (ClassId × FieldType)} (hr : z_ord[n]? = some r) (h0 : z_aK r.1 = 0) (h : z_tok cA n tys) : z_tok (z_up cA r cA1) (n + 1) tys := by
  intro k q hk hq ha
  rcases Nat.lt_or_ge k n with h1 | h1
  · rw [z_up_old hr (Or.inr (Or.inr ⟨k, h1, hq⟩))]
    exact h k q h1 hq ha
  · have e : k = n := by omega
    subst e
    rw [hr] at hq
    rw [← Option.some.inj hq] at ha
    exact absurd h0 ha
theorem z_tok_new1 {cA : Nat × Nat → ClassId} {r : Nat × Nat} {n : Nat} {cA1 : ClassId} {tys : List (ClassId × FieldType)} (hr : z_ord[n]? = some r) (h : z_tok cA n tys) : z_tok (z_up cA r cA1) (n + 1) (tys ++ [(cA1, z_ty r.1)]) := by
  intro k q hk hq ha
  rcases Nat.lt_or_ge k n with h1 | h1
  · rw [z_up_old hr (Or.inr (Or.inr ⟨k, h1, hq⟩))]
    obtain ⟨t0, ht⟩ := h k q h1 hq ha
    exact ⟨t0, by rw [List.getElem?_append_left (List.getElem?_eq_some_iff.mp ht).1]; exact ht⟩
  · have e : k = n := by omega
    subst e
    rw [hr] at hq
    have e2 := Option.some.inj hq
    subst e2
    have e3 : z_up cA r cA1 r = cA1 := if_pos rfl
    rw [e3]
    exact ⟨tys.length, by simp⟩
theorem z_ordD {n a : Nat} (h : Nat.beq (z_ord.getD n (0, 0)).1 a = true) (ha : 0 < a) : z_ord[n]? = some (z_ord.getD n (0, 0)) ∧ (z_ord.getD n (0, 0)).1 = a := by
  have h1 := Nat.eq_of_beq_eq_true h
  refine ⟨?_, h1⟩
  rw [List.getD_eq_getElem?_getD] at h1 ⊢
  cases hz : z_ord[n]? with
  | none => rw [hz] at h1; exact absurd h1 (by show (0 : Nat) ≠ a; omega)
  | some r => rfl
theorem z_ordA {n : Nat} (h : z_aK (z_ord.getD n (0, 0)).1 ≠ 0) : z_ord[n]? = some (z_ord.getD n (0, 0)) := by
  rw [List.getD_eq_getElem?_getD] at h ⊢
  cases hz : z_ord[n]? with
  | none => rw [hz] at h; exact absurd rfl h
  | some r => rfl
theorem z_vwC {a : Nat} (h0 : 0 < a) (h1 : a < 13) : ∃ (C : String) (T : u_T) (N : Nat), vwCl[a - 1]? = some (C, T, N) ∧ z_CF (a - 1) C T N ∧ z_cn a = C := by
  have hl : a - 1 < vwCl.length := by show a - 1 < 12; omega
  obtain ⟨⟨C, T, N⟩, hq⟩ : ∃ q, vwCl[a - 1]? = some q := ⟨_, List.getElem?_eq_getElem hl⟩
  have hcf := z_cf _ _ _ _ hq
  refine ⟨C, T, N, hq, hcf, ?_⟩
  obtain ⟨-, -, -, -, -, e, -⟩ := hcf
  rw [e, Nat.sub_add_cancel h0]
theorem z_newO {i a : Nat} (C0 : z_Ct p R s m args meth c cc nL o ini n0 n1) (hd : decode cc pc = .ok (.new i, 3)) (hnl : (o, i, a) ∈ z_nl) (ha0 : 0 < a) (ha13 : a < 13) (hmd : md = false) (hr : z_ord[S.2.2.2]? = some (z_ord.getD S.2.2.2 (0, 0))) (hra : (z_ord.getD S.2.2.2 (0, 0)).1 = a)
    (g : z_gw p l e R s m args below meth c Q D A md sc α0 n0 n1 nL (pc + 3) la (.inr (.inr (z_ord.getD S.2.2.2 (0, 0))) :: sa) (z_rst S (z_ord.getD S.2.2.2 (0, 0)).1 (z_ord.getD S.2.2.2 (0, 0)).2)) : z_gw p l e R s m args below meth c Q D A md sc α0 n0 n1 nL pc la sa S := by
  obtain ⟨hx, hb, hml, hown, hts, hnw, hini, hR0, hRf, hRl⟩ := C0
  generalize z_ord.getD S.2.2.2 (0, 0) = r at hr hra g
  obtain ⟨C, T, N, hvc, hcf, hcn⟩ := z_vwC ha0 ha13
  obtain ⟨hin, ⟨ty, hty, hkd⟩, hnm, hN, haK, -, -, hdecl, hon⟩ := hcf
  rw [Nat.sub_add_cancel ha0] at hN haK hkd hon
  rw [← hra] at hN haK hkd
  refine z_grow hR0 hr hmd (cost := N) (by unfold z_size; rw [haK, hN]; rfl) g ⟨[], rfl⟩ (fun α cA ls H locs cells slots hR hl hk hc1 hc2 k => ?_)
  obtain ⟨-, -, hmo, ⟨tys, hK, htk⟩, hP, hD, hS, hA, -⟩ := hR
  have hw1 := hts _ (z_wt (z_nl_in _ hnl))
  have hw2 := hts _ (z_wt (z_it_in a (by unfold z_it z_it_0; simp; omega)))
  have hw3 := hts _ (z_wt (z_in_in a (by unfold z_in z_in_0; simp; omega)))
  unfold z_nlw at hw1
  unfold z_itw at hw2
  unfold z_inw at hw3
  dsimp only at hw1
  rw [hcn] at hw1 hw2
  rw [← hon] at hw3
  rw [show z_nF a = N by rw [← hra, hN]] at hw2
  refine va_new (ci := a - 1) (fs := (List.range (z_nF r.1)).map (fun j => z_dv (z_shK r.1 j))) hx hb hts (fun w hw => z_wt (hin w hw)) ty hty hown hw1 hw2 hw3 hK hP hD hS hA hvc (fun j hj => ?_) hc1 hc2 hd (fun q H1 hP1 hD1 hS1 => ?_)
  · have e1 : vp_V ((List.range (z_nF r.1)).map (fun j => z_dv (z_shK r.1 j))) j = z_dv (z_shK r.1 j) := by
      unfold vp_V
      rw [List.getD_eq_getElem?_getD, List.getElem?_map, List.getElem?_range (by omega)]
      rfl
    rw [e1]
    rcases hkd j hj with ⟨h0, h1⟩ | ⟨h0, h1⟩ | ⟨h0, h1⟩
    · rw [h0, h1]; rfl
    · rw [h0, h1]; rfl
    · rcases h0 with h0 | h0 <;> rcases h1 with ⟨n, h1⟩ | ⟨n, h1⟩ <;> rw [h0, h1] <;> rfl
  · refine k q 0 (.inr (r.1 - 1, (List.range (z_nF r.1)).map (fun j => z_dv (z_shK r.1 j)))) H1 tys (z_bd_new hmd haK) hK (z_tok_new0 hr haK htk) ?_ ?_ hS1
    · rw [hra]; rw [hra] at hP1; exact hP1
    · rw [hra]; rw [hra] at hD1; exact hD1
theorem z_newA {j : Int32} {a : Nat} {k0 : ArrayType} {ty : FieldType} (C0 : z_Ct p R s m args meth c cc nL o ini n0 n1) (hd : decode cc pc = .ok (.newarray k0, 2)) (hk0 : newarray.typeOf k0 = ty) (hac : Cond.arrayClass ty ∈ z_WT) (hcb : componentBytes ty ≤ 8) (hmd : md = false) (hra : z_aK (z_ord.getD S.2.2.2 (0, 0)).1 = a)
    (hak : (a = 1 ∧ ty = .int) ∨ (a = 2 ∧ ty = .boolean) ∨ (a = 3 ∧ ty = .byte) ∨ (a = 4 ∧ ty = .long)) (hj : j = Int32.ofNat (z_aN (z_ord.getD S.2.2.2 (0, 0)).1 (z_ord.getD S.2.2.2 (0, 0)).2))
    (g : z_gw p l e R s m args below meth c Q D A md sc α0 n0 n1 nL (pc + 2) la (.inr (.inr (z_ord.getD S.2.2.2 (0, 0))) :: sa) (z_rst S (z_ord.getD S.2.2.2 (0, 0)).1 (z_ord.getD S.2.2.2 (0, 0)).2)) : z_gw p l e R s m args below meth c Q D A md sc α0 n0 n1 nL pc la (.inl j :: sa) S := by
  obtain ⟨hx, hb, hml, hown, hts, hnw, hini, hR0, hRf, hRl⟩ := C0
  have ha0 : a ≠ 0 := by rcases hak with ⟨h, -⟩ | ⟨h, -⟩ | ⟨h, -⟩ | ⟨h, -⟩ <;> rw [h] <;> decide
  have hr := z_ordA (n := S.2.2.2) (by rw [hra]; exact ha0)
  generalize z_ord.getD S.2.2.2 (0, 0) = r at hr hra g hj
  have hN : z_aN r.1 r.2 ≤ 600 := by
    have h1 := List.all_eq_true.mp (show (z_ord.all (fun r => Nat.ble (z_aN r.1 r.2) 600)) = true by decide +kernel) r (List.mem_of_getElem? hr)
    exact Nat.le_of_ble_eq_true h1
  have hjn : j.toNatClampNeg = z_aN r.1 r.2 ∧ ¬ j < 0 := by rw [hj]; exact ⟨nI_clamp (Nat.lt_of_le_of_lt hN (by decide)), nI_pos (Nat.lt_of_le_of_lt hN (by decide))⟩
  have hty : z_ty r.1 = ty := by
    unfold z_ty
    rw [hra]
    rcases hak with ⟨h, h2⟩ | ⟨h, h2⟩ | ⟨h, h2⟩ | ⟨h, h2⟩ <;> (rw [h, h2]; try rfl)
  refine z_grow hR0 hr hmd (cost := z_aN r.1 r.2) (by unfold z_size; rw [hra]; cases hb0 : Nat.beq a 0 with | true => exact absurd (Nat.eq_of_beq_eq_true hb0) ha0 | false => rfl) g ⟨[.inl j], rfl⟩ (fun α cA ls H locs cells slots hR hl hk hc1 hc2 k => ?_)
  obtain ⟨-, -, hmo, ⟨tys, hK, htk⟩, hP, hD, hS, hA, -⟩ := hR
  have hw1 := hts _ hac
  have e1 : ∀ i, (z_rst S r.1 r.2).1 r.1 r.2 i = 0 := fun i => by simp [z_rst]
  have e2 : ∀ i, (z_rst S r.1 r.2).2.1 r.1 r.2 i = 0 := fun i => by simp [z_rst]
  show W p l e R s m args below meth c H locs cells slots Q (F0 m pc ls (.int j :: sa.map (z_cV α)))
  by_cases h4 : a = 4
  · have h5 : ty = .long := by rcases hak with ⟨h, h2⟩ | ⟨h, h2⟩ | ⟨h, h2⟩ | ⟨h, h2⟩ <;> first | exact h2 | (rw [h4] at h; cases h)
    subst h5
    refine va_newa (a0 := (z_aN r.1 r.2, .inr (.inl (fun _ => 0)))) hx hb (by rw [hk0]; exact hw1) hk0 hK hP hD hS hA (fun cA1 => rfl) hjn.2 hjn.1 (Nat.le_trans (Nat.mul_le_mul hN hcb) (by decide)) hc1 hc2 hd (fun q cA1 H1 hK1 hP1 hD1 hS1 => ?_)
    refine k q cA1 _ H1 _ (by rw [z_bdL (hra.trans h4)]; rw [show (z_rst S r.1 r.2).2.1 r.1 r.2 = fun _ => 0 from funext e2, show z_up cA r cA1 r = cA1 from if_pos rfl]) hK1 ?_ hP1 hD1 hS1
    rw [← hty]
    exact z_tok_new1 hr htk
  · have h5 : z_aK r.1 = 1 ∨ z_aK r.1 = 2 ∨ z_aK r.1 = 3 := by rw [hra]; rcases hak with ⟨h, -⟩ | ⟨h, -⟩ | ⟨h, -⟩ | ⟨h, -⟩ <;> first | (simp [h]; done) | exact absurd h h4
    have h6 : ∀ cA1 : ClassId, vp_cell cA1 (z_aN r.1 r.2, .inl (fun _ => 0)) = arrV cA1 (z_aN r.1 r.2) (fun _ => defaultValue ty) := by
      intro cA1
      rcases hak with ⟨h, h2⟩ | ⟨h, h2⟩ | ⟨h, h2⟩ | ⟨h, h2⟩
      · rw [h2]; rfl
      · rw [h2]; rfl
      · rw [h2]; rfl
      · exact absurd h h4
    refine va_newa (a0 := (z_aN r.1 r.2, .inl (fun _ => 0))) hx hb (by rw [hk0]; exact hw1) hk0 hK hP hD hS hA h6 hjn.2 hjn.1 (Nat.le_trans (Nat.mul_le_mul hN hcb) (by decide)) hc1 hc2 hd (fun q cA1 H1 hK1 hP1 hD1 hS1 => ?_)
    refine k q cA1 _ H1 _ (by rw [z_bdI h5]; rw [show (z_rst S r.1 r.2).1 r.1 r.2 = fun _ => 0 from funext e1, show z_up cA r cA1 r = cA1 from if_pos rfl]) hK1 ?_ hP1 hD1 hS1
    rw [← hty]
    exact z_tok_new1 hr htk
theorem z_newQ {j : Int32} {i a : Nat} (C0 : z_Ct p R s m args meth c cc nL o ini n0 n1) (hd : decode cc pc = .ok (.anewarray i, 3)) (hnl : (o, i, a) ∈ z_nl) (hal : a ∈ z_al) (hmd : md = false) (hra : z_aK (z_ord.getD S.2.2.2 (0, 0)).1 = 5) (het : z_eT (z_ord.getD S.2.2.2 (0, 0)).1 = a)
    (hj : j = Int32.ofNat (z_aN (z_ord.getD S.2.2.2 (0, 0)).1 (z_ord.getD S.2.2.2 (0, 0)).2))
    (g : z_gw p l e R s m args below meth c Q D A md sc α0 n0 n1 nL (pc + 3) la (.inr (.inr (z_ord.getD S.2.2.2 (0, 0))) :: sa) (z_rst S (z_ord.getD S.2.2.2 (0, 0)).1 (z_ord.getD S.2.2.2 (0, 0)).2)) : z_gw p l e R s m args below meth c Q D A md sc α0 n0 n1 nL pc la (.inl j :: sa) S := by
  obtain ⟨hx, hb, hml, hown, hts, hnw, hini, hR0, hRf, hRl⟩ := C0
  have hr := z_ordA (n := S.2.2.2) (by rw [hra]; decide)
  generalize z_ord.getD S.2.2.2 (0, 0) = r at hr hra g hj het
  have hN : z_aN r.1 r.2 ≤ 600 := by
    have h1 := List.all_eq_true.mp (show (z_ord.all (fun r => Nat.ble (z_aN r.1 r.2) 600)) = true by decide +kernel) r (List.mem_of_getElem? hr)
    exact Nat.le_of_ble_eq_true h1
  have hjn : j.toNatClampNeg = z_aN r.1 r.2 ∧ ¬ j < 0 := by rw [hj]; exact ⟨nI_clamp (Nat.lt_of_le_of_lt hN (by decide)), nI_pos (Nat.lt_of_le_of_lt hN (by decide))⟩
  have hty : z_ty r.1 = .object (z_cn a) := by unfold z_ty; rw [hra, het]; rfl
  refine z_grow hR0 hr hmd (cost := z_aN r.1 r.2) (by unfold z_size; rw [hra]; rfl) g ⟨[.inl j], rfl⟩ (fun α cA ls H locs cells slots hR hl hk hc1 hc2 k => ?_)
  obtain ⟨-, -, hmo, ⟨tys, hK, htk⟩, hP, hD, hS, hA, -⟩ := hR
  have hw1 := hts _ (z_wt (z_nl_in _ hnl))
  unfold z_nlw at hw1
  dsimp only at hw1
  show W p l e R s m args below meth c H locs cells slots Q (F0 m pc ls (.int j :: sa.map (z_cV α)))
  refine va_newq hx hb hown hw1 (hnw.2 a hal) hK hP hD hS hA hjn.2 hjn.1 (Nat.le_trans (Nat.mul_le_mul_right 4 hN) (by decide)) hc1 hc2 hd (fun q cA1 H1 hK1 hP1 hD1 hS1 => ?_)
  refine k q cA1 _ H1 _ ?_ hK1 ?_ hP1 hD1 hS1
  · rw [z_bdR hra, show z_up cA r cA1 r = cA1 from if_pos rfl]
    have e0 : (fun i2 => if i2 < z_aN r.1 r.2 then z_op (z_up α r q) (z_re md (z_rst S r.1 r.2) r.1 r.2 i2) else none) = fun _ => none := by
      funext i2
      have e1 : z_re md (z_rst S r.1 r.2) r.1 r.2 i2 = (0, 0) := by subst hmd; show (z_rst S r.1 r.2).2.2.1 r.1 r.2 i2 = _; simp [z_rst]
      rw [e1]
      split <;> rfl
    rw [e0]
  · rw [← hty]
    exact z_tok_new1 hr htk
theorem z_eT5 {t : Nat} (h : z_aK t = 5) : 0 < z_eT t ∧ z_eT t < 13 := by
  have h1 := (z_aK_rng (show z_aK t ≠ 0 by rw [h]; decide))
  have h2 := List.all_eq_true.mp (show (List.range 90).all (fun t => !Nat.beq (z_aK t) 5 || (Nat.blt 0 (z_eT t) && Nat.blt (z_eT t) 13)) = true by decide +kernel) t (List.mem_range.mpr h1.2)
  rw [h] at h2
  simpa [Nat.blt_eq] using h2
theorem z_astR {j : Int32} {q v : Nat × Nat} (hx : p.tables.exec = Jvm.exec) (hb : c.code = cc) (hd : decode cc pc = .ok (.aastore, 1)) (hmd : md = false) (hk : z_aK q.1 = 5) (hv1 : v.1 = z_eT q.1) (ho : z_oob j (z_aN q.1 q.2) = false)
    (g : z_gw p l e R s m args below meth c Q D A md sc α0 n0 n1 nL (pc + 1) la sa (z_sR S q.1 q.2 j.toNatClampNeg v)) : z_gw p l e R s m args below meth c Q D A md sc α0 n0 n1 nL pc la (.inr (.inr v) :: .inl j :: .inr (.inr q) :: sa) S := by
  subst hmd
  have hv0 := z_eT5 hk
  rw [← hv1] at hv0
  obtain ⟨C, T, N, hvc, hcf, hcn⟩ := z_vwC hv0.1 hv0.2
  obtain ⟨-, -, -, -, haK, -⟩ := hcf
  rw [Nat.sub_add_cancel hv0.1] at haK
  have hne5 : ∀ t, z_aK t = 5 ∨ True := fun _ => Or.inr trivial
  have e2 : ∀ t i k, ¬ (t = q.1 ∧ i = q.2 ∧ k = j.toNatClampNeg) → (z_sR S q.1 q.2 j.toNatClampNeg v).2.2.1 t i k = S.2.2.1 t i k := fun t i k h => if_neg h
  have hlt : j.toNatClampNeg < z_aN q.1 q.2 := Nat.not_le.mp (fun h => (z_oob_in ho) (Or.inr h))
  have hnf : z_nF q.1 = 0 := by
    have h1 := (z_aK_rng (show z_aK q.1 ≠ 0 by rw [hk]; decide))
    have h2 := List.all_eq_true.mp (show (List.range 90).all (fun t => !Nat.beq (z_aK t) 5 || Nat.beq (z_nF t) 0) = true by decide +kernel) q.1 (List.mem_range.mpr h1.2)
    rw [hk] at h2
    simpa using h2
  refine z_op2 g rfl (fun hv => z_vp (z_vp2 hv)) (fun hv hm k r hkn hkr => ⟨fun i hi => ?_, fun h5 i hi => ?_⟩) (fun α cA ls H locs cells slots hR hl hv k => ?_)
  · by_cases hne : r.1 = q.1 ∧ r.2 = q.2 ∧ i = j.toNatClampNeg
    · show z_okR _ ((z_sR S q.1 q.2 j.toNatClampNeg v).2.2.1 r.1 r.2 i)
      have e0 : (z_sR S q.1 q.2 j.toNatClampNeg v).2.2.1 r.1 r.2 i = v := if_pos hne
      rw [e0]
      exact z_vh hv
    · show z_okR _ ((z_sR S q.1 q.2 j.toNatClampNeg v).2.2.1 r.1 r.2 i)
      rw [e2 _ _ _ hne]
      exact (hm k r hkn hkr).1 i hi
  · by_cases hne : r.1 = q.1 ∧ r.2 = q.2 ∧ i = j.toNatClampNeg
    · show z_okR _ ((z_sR S q.1 q.2 j.toNatClampNeg v).2.2.1 r.1 r.2 i)
      have e0 : (z_sR S q.1 q.2 j.toNatClampNeg v).2.2.1 r.1 r.2 i = v := if_pos hne
      rw [e0]
      exact z_vh hv
    · show z_okR _ ((z_sR S q.1 q.2 j.toNatClampNeg v).2.2.1 r.1 r.2 i)
      rw [e2 _ _ _ hne]
      exact (hm k r hkn hkr).2 h5 i hi
  obtain ⟨kq, t0, tys, hkn, hkq, hK, ht, he⟩ := z_arr hR (z_vh (z_vp2 hv)) (show z_aK q.1 ≠ 0 by rw [hk]; decide)
  rw [z_bdR hk] at he
  obtain ⟨-, -, -, -, hP, hD, hS, -⟩ := hR
  obtain ⟨kv, hvn, hvq⟩ := z_okR.at (z_vh hv) hv0.1 (by omega)
  have hev := z_ws_get (α := α) (cA := cA) (md := false) hvn hvq
  rw [z_bdO haK] at hev
  unfold z_ty at ht
  rw [hk] at ht
  have ht : tys[t0]? = some (cA q, .object C) := by rw [← hcn, hv1]; exact ht
  have e3 : va_up (fun i => if i < z_aN q.1 q.2 then z_op α (z_re false S q.1 q.2 i) else none) j.toNatClampNeg (some (α v)) = (fun i => if i < z_aN q.1 q.2 then z_op α (z_re false (z_sR S q.1 q.2 j.toNatClampNeg v) q.1 q.2 i) else none) := by
    funext i
    by_cases hi : i = j.toNatClampNeg
    · subst hi
      rw [va_up_self, if_pos hlt]
      have e0 : z_re false (z_sR S q.1 q.2 j.toNatClampNeg v) q.1 q.2 j.toNatClampNeg = v := by
        show (if q.1 = q.1 ∧ q.2 = q.2 ∧ _ = _ then v else _) = v
        rw [if_pos ⟨rfl, rfl, rfl⟩]
      rw [e0]
      unfold z_op
      rw [if_neg (by omega)]
    · rw [va_up_ne _ _ hi]
      have e0 : z_re false (z_sR S q.1 q.2 j.toNatClampNeg v) q.1 q.2 i = z_re false S q.1 q.2 i := e2 _ _ _ (fun h => hi h.2.2)
      rw [e0]
  have hws := z_ws_set (α := α) (cA := cA) (md := false) (S := S) (S' := z_sR S q.1 q.2 j.toNatClampNeg v) (r := q) (b := .inl (cA q, z_aN q.1 q.2, .inr (.inr (.inr (.inr (va_up (fun i => if i < z_aN q.1 q.2 then z_op α (z_re false S q.1 q.2 i) else none) j.toNatClampNeg (some (α v)))))))) rfl hkn hkq (fun r' hr => z_bd_sR hr) (by rw [z_bdR hk, e3])
  show W p l e R s m args below meth c H locs cells slots Q (F0 m pc ls (z_cR α v :: .int j :: z_cR α q :: sa.map (z_cV α)))
  rw [z_cR_ref (show v.1 ≠ 0 by omega), z_cR_ref (show q.1 ≠ 0 from fun e => by rw [e] at hk; cases hk)]
  refine va_astq (r := (C, T, N)) hx hb hK hP hD hS kq t0 kv (v.1 - 1) he ht hev hvc (z_oob_in ho) hd (fun H1 locs1 hP1 hD1 hS1 => ?_)
  rw [hws] at hP1 hD1
  exact k H1 locs1 hP1 hD1 hS1
set_option maxHeartbeats 4000000 in
theorem z_stp_ok {ρ : Type} {κ : Nat → z_Lc → List z_AV → z_Mem → Option ρ} {res : ρ} {ins : Instr} {len a b k : Nat} {x : Int32} {sw : List (Int32 × Nat)} (C0 : z_Ct p R s m args meth c cc nL o ini n0 n1) (hd : decode cc pc = .ok (ins, len)) (hck : z_ck o nL ini ins len a b k x sw pc = true)
    (h : z_stp md sc ins a b k x sw pc la sa S κ = some res) (hκ : ∀ pc' la' sa' S', κ pc' la' sa' S' = some res → z_gw p l e R s m args below meth c Q D A md sc α0 n0 n1 nL pc' la' sa' S') : z_gw p l e R s m args below meth c Q D A md sc α0 n0 n1 nL pc la sa S := by
  have C1 := C0
  obtain ⟨hx, hb, hml, hown, hts, hnw, hini, ⟨hRc, hRs⟩, hRf, hRl⟩ := C0
  cases ins
  case iconst k =>
    have hck : (Nat.beq len 1 && decide (Int32.ofInt k = x)) = true := hck
    rw [Bool.and_eq_true] at hck
    obtain rfl : len = 1 := Nat.eq_of_beq_eq_true hck.1
    have hck := hck.2
    exact z_op1 (hκ _ _ _ _ h) (fun hv => z_vc trivial hv) (fun α cA ls H locs cells slots hR hl hv k => lv_iconst hx hb hd (of_decide_eq_true hck) (k ls hl))
  case bipush k =>
    have hck : (Nat.beq len 2 && decide ((Int8.ofInt k).toInt32 = x)) = true := hck
    rw [Bool.and_eq_true] at hck
    obtain rfl : len = 2 := Nat.eq_of_beq_eq_true hck.1
    have hck := hck.2
    exact z_op1 (hκ _ _ _ _ h) (fun hv => z_vc trivial hv) (fun α cA ls H locs cells slots hR hl hv k => lv_bipush hx hb hd (of_decide_eq_true hck) (k ls hl))
  case sipush k =>
    have hck : (Nat.beq len 3 && decide ((Int16.ofInt k).toInt32 = x)) = true := hck
    rw [Bool.and_eq_true] at hck
    obtain rfl : len = 3 := Nat.eq_of_beq_eq_true hck.1
    have hck := hck.2
    exact z_op1 (hκ _ _ _ _ h) (fun hv => z_vc trivial hv) (fun α cA ls H locs cells slots hR hl hv k => lv_sipush hx hb hd (of_decide_eq_true hck) (k ls hl))
  case ldc_w i =>
    have hck : (Nat.beq len 3 && decide ((o, i, x) ∈ z_ki)) = true := hck
    rw [Bool.and_eq_true] at hck
    obtain rfl : len = 3 := Nat.eq_of_beq_eq_true hck.1
    have hck := hck.2
    exact z_op1 (hκ _ _ _ _ h) (fun hv => z_vc trivial hv) (fun α cA ls H locs cells slots hR hl hv k => lv_ldcw hx hb hown (hts _ (z_wt (z_ki_in _ (of_decide_eq_true hck)))) hd (k ls hl))
  case ldc2_w i =>
    have hck : (Nat.beq len 3 && decide ((o, i, a) ∈ z_kl)) = true := hck
    rw [Bool.and_eq_true] at hck
    obtain rfl : len = 3 := Nat.eq_of_beq_eq_true hck.1
    have hck := hck.2
    exact z_op1 (hκ _ _ _ _ h) (fun hv => z_vc trivial hv) (fun α cA ls H locs cells slots hR hl hv k => lv_ldc2 hx hb hown (hts _ (z_wt (z_kl_in _ (of_decide_eq_true hck)))) hd (k ls hl))
  case lconst n =>
    have hck : Nat.beq len 1 = true := hck
    obtain rfl : len = 1 := Nat.eq_of_beq_eq_true hck
    exact z_op1 (hκ _ _ _ _ h) (fun hv => z_vc trivial hv) (fun α cA ls H locs cells slots hR hl hv k => lv_lconst hx hb hd rfl (k ls hl))
  case iload n =>
    have hck : (Nat.beq len 2 && Nat.beq n a) = true := hck
    rw [Bool.and_eq_true] at hck
    obtain rfl : len = 2 := Nat.eq_of_beq_eq_true hck.1
    have hck := hck.2
    obtain rfl := Nat.eq_of_beq_eq_true hck
    have h0 := h
    dsimp only [z_stp] at h
    split at h
    · rename_i v hi
      exact z_op1 (hκ _ _ _ _ h) (fun hv => z_vc trivial hv) (fun α cA ls H locs cells slots hR hl hv k => lv_iload hx hb hd (z_lv_get hl hi) (k ls hl))
    · cases h
  case iload_n n =>
    have hck : (Nat.beq len 1 && Nat.beq (n : Nat) a) = true := hck
    rw [Bool.and_eq_true] at hck
    obtain rfl : len = 1 := Nat.eq_of_beq_eq_true hck.1
    have hck := hck.2
    obtain rfl := Nat.eq_of_beq_eq_true hck
    have h0 := h
    dsimp only [z_stp] at h
    split at h
    · rename_i v hi
      exact z_op1 (hκ _ _ _ _ h) (fun hv => z_vc trivial hv) (fun α cA ls H locs cells slots hR hl hv k => lv_iload_n hx hb hd rfl (z_lv_get hl hi) (k ls hl))
    · cases h
  case lload n =>
    have hck : (Nat.beq len 2 && Nat.beq n a) = true := hck
    rw [Bool.and_eq_true] at hck
    obtain rfl : len = 2 := Nat.eq_of_beq_eq_true hck.1
    have hck := hck.2
    obtain rfl := Nat.eq_of_beq_eq_true hck
    have h0 := h
    dsimp only [z_stp] at h
    split at h
    · rename_i v hi
      exact z_op1 (hκ _ _ _ _ h) (fun hv => z_vc trivial hv) (fun α cA ls H locs cells slots hR hl hv k => lv_lload hx hb hd (z_lv_get hl hi) (k ls hl))
    · cases h
  case lload_n n =>
    have hck : (Nat.beq len 1 && Nat.beq (n : Nat) a) = true := hck
    rw [Bool.and_eq_true] at hck
    obtain rfl : len = 1 := Nat.eq_of_beq_eq_true hck.1
    have hck := hck.2
    obtain rfl := Nat.eq_of_beq_eq_true hck
    have h0 := h
    dsimp only [z_stp] at h
    split at h
    · rename_i v hi
      exact z_op1 (hκ _ _ _ _ h) (fun hv => z_vc trivial hv) (fun α cA ls H locs cells slots hR hl hv k => lv_lload_n hx hb hd rfl (z_lv_get hl hi) (k ls hl))
    · cases h
  case aload n =>
    have hck : (Nat.beq len 2 && Nat.beq n a) = true := hck
    rw [Bool.and_eq_true] at hck
    obtain rfl : len = 2 := Nat.eq_of_beq_eq_true hck.1
    have hck := hck.2
    obtain rfl := Nat.eq_of_beq_eq_true hck
    dsimp only [z_stp] at h
    split at h
    · rename_i v hi
      have h := z_b0 h
      exact z_op1 (hκ _ _ _ _ h.2) (fun hv => z_vc (z_nl_of hv hi) hv) (fun α cA ls H locs cells slots hR hl hv k => lv_aload hx hb hd (by rw [z_lv_get hl hi]; show _ = some (Slot.val (Value.ref (α v))); rw [show z_cV α (.inr (.inr v)) = .ref (α v) from z_cR_ref h.1]) (by have q := k ls hl; rw [show (Sum.inr (Sum.inr v) :: sa : List z_AV).map (z_cV α) = .ref (α v) :: sa.map (z_cV α) by rw [List.map_cons, show z_cV α (.inr (.inr v)) = .ref (α v) from z_cR_ref h.1]] at q; exact q))
    · cases h
  case aload_n n =>
    have hck : (Nat.beq len 1 && Nat.beq (n : Nat) a) = true := hck
    rw [Bool.and_eq_true] at hck
    obtain rfl : len = 1 := Nat.eq_of_beq_eq_true hck.1
    have hck := hck.2
    obtain rfl := Nat.eq_of_beq_eq_true hck
    dsimp only [z_stp] at h
    split at h
    · rename_i v hi
      have h := z_b0 h
      exact z_op1 (hκ _ _ _ _ h.2) (fun hv => z_vc (z_nl_of hv hi) hv) (fun α cA ls H locs cells slots hR hl hv k => lv_aload_n hx hb hd rfl (by rw [z_lv_get hl hi]; show _ = some (Slot.val (Value.ref (α v))); rw [show z_cV α (.inr (.inr v)) = .ref (α v) from z_cR_ref h.1]) (by have q := k ls hl; rw [show (Sum.inr (Sum.inr v) :: sa : List z_AV).map (z_cV α) = .ref (α v) :: sa.map (z_cV α) by rw [List.map_cons, show z_cV α (.inr (.inr v)) = .ref (α v) from z_cR_ref h.1]] at q; exact q))
    · cases h
  case istore n =>
    have hck : (Nat.beq len 2 && (Nat.beq n a && Nat.blt a nL)) = true := hck
    rw [Bool.and_eq_true] at hck
    obtain rfl : len = 2 := Nat.eq_of_beq_eq_true hck.1
    have hck := hck.2
    rw [Bool.and_eq_true] at hck
    obtain rfl := Nat.eq_of_beq_eq_true hck.1
    dsimp only [z_stp] at h
    split at h
    · rename_i v r
      split at h
      · rename_i l' hi
        exact z_op1 (hκ _ _ _ _ h) (fun hv => ⟨(z_vp hv).1, (z_st_eq hi) ▸ z_vok_set hv trivial⟩) (fun α cA ls H locs cells slots hR hl hv k => lv_istore hx hb hd (z_lv_has hl) (Nat.blt_eq.mp hck.2) rfl (fun ls' hl' => k ls' ((z_st_ok hl.1 (Nat.blt_eq.mp hck.2) hi).2 ls' hl')))
      · cases h
    · cases h
  case istore_n n =>
    have hck : (Nat.beq len 1 && (Nat.beq (n : Nat) a && Nat.blt a nL)) = true := hck
    rw [Bool.and_eq_true] at hck
    obtain rfl : len = 1 := Nat.eq_of_beq_eq_true hck.1
    have hck := hck.2
    rw [Bool.and_eq_true] at hck
    obtain rfl := Nat.eq_of_beq_eq_true hck.1
    dsimp only [z_stp] at h
    split at h
    · rename_i v r
      split at h
      · rename_i l' hi
        exact z_op1 (hκ _ _ _ _ h) (fun hv => ⟨(z_vp hv).1, (z_st_eq hi) ▸ z_vok_set hv trivial⟩) (fun α cA ls H locs cells slots hR hl hv k => lv_istore_n hx hb hd rfl (z_lv_has hl) (Nat.blt_eq.mp hck.2) rfl (fun ls' hl' => k ls' ((z_st_ok hl.1 (Nat.blt_eq.mp hck.2) hi).2 ls' hl')))
      · cases h
    · cases h
  case astore n =>
    have hck : (Nat.beq len 2 && (Nat.beq n a && Nat.blt a nL)) = true := hck
    rw [Bool.and_eq_true] at hck
    obtain rfl : len = 2 := Nat.eq_of_beq_eq_true hck.1
    have hck := hck.2
    rw [Bool.and_eq_true] at hck
    obtain rfl := Nat.eq_of_beq_eq_true hck.1
    dsimp only [z_stp] at h
    split at h
    · rename_i v r
      have h := z_b0 h
      have h2 := h.2
      split at h2
      · rename_i l' hi
        exact z_op1 (hκ _ _ _ _ h2) (fun hv => ⟨(z_vp hv).1, (z_st_eq hi) ▸ z_vok_set hv (z_vh hv)⟩) (fun α cA ls H locs cells slots hR hl hv k => by
          have e : z_cV α (.inr (.inr v)) = .ref (α v) := z_cR_ref h.1
          rw [List.map_cons, e]
          exact lv_astore hx hb hd (z_lv_has hl) (Nat.blt_eq.mp hck.2) rfl (fun ls' hl' => k ls' ((z_st_ok hl.1 (Nat.blt_eq.mp hck.2) hi).2 ls' (by rw [e]; exact hl'))))
      · cases h2
    · cases h
  case astore_n n =>
    have hck : (Nat.beq len 1 && (Nat.beq (n : Nat) a && Nat.blt a nL)) = true := hck
    rw [Bool.and_eq_true] at hck
    obtain rfl : len = 1 := Nat.eq_of_beq_eq_true hck.1
    have hck := hck.2
    rw [Bool.and_eq_true] at hck
    obtain rfl := Nat.eq_of_beq_eq_true hck.1
    dsimp only [z_stp] at h
    split at h
    · rename_i v r
      have h := z_b0 h
      have h2 := h.2
      split at h2
      · rename_i l' hi
        exact z_op1 (hκ _ _ _ _ h2) (fun hv => ⟨(z_vp hv).1, (z_st_eq hi) ▸ z_vok_set hv (z_vh hv)⟩) (fun α cA ls H locs cells slots hR hl hv k => by
          have e : z_cV α (.inr (.inr v)) = .ref (α v) := z_cR_ref h.1
          rw [List.map_cons, e]
          exact lv_astore_n hx hb hd rfl (z_lv_has hl) (Nat.blt_eq.mp hck.2) rfl (fun ls' hl' => k ls' ((z_st_ok hl.1 (Nat.blt_eq.mp hck.2) hi).2 ls' (by rw [e]; exact hl'))))
      · cases h2
    · cases h
  case lstore n =>
    have hck : (Nat.beq len 2 && (Nat.beq n a && Nat.blt (a + 1) nL)) = true := hck
    rw [Bool.and_eq_true] at hck
    obtain rfl : len = 2 := Nat.eq_of_beq_eq_true hck.1
    have hck := hck.2
    rw [Bool.and_eq_true] at hck
    obtain rfl := Nat.eq_of_beq_eq_true hck.1
    dsimp only [z_stp] at h
    split at h
    · rename_i v r
      split at h
      · rename_i l' hi
        refine z_op1 (hκ _ _ _ _ h) (fun hv => ⟨(z_vp hv).1, fun u hu => ?_⟩) (fun α cA ls H locs cells slots hR hl hv k => lv_lstore hx hb hd (z_lv_has hl) (Nat.blt_eq.mp hck.2) rfl (fun ls' hl' => k ls' (z_st_okL hl.1 (Nat.blt_eq.mp hck.2) hi ls' hl')))
        rcases List.mem_or_eq_of_mem_set hu with e | e
        · rw [← z_st_eq hi] at e
          exact z_vok_set (v := .inr (.inl v)) hv trivial u e
        · cases e
      · cases h
    · cases h
  case iinc n kk =>
    have hck : (Nat.beq len 3 && (Nat.beq n a && (Nat.blt a nL && decide (Int32.ofInt kk = x)))) = true := hck
    rw [Bool.and_eq_true] at hck
    obtain rfl : len = 3 := Nat.eq_of_beq_eq_true hck.1
    have hck := hck.2
    rw [Bool.and_eq_true, Bool.and_eq_true] at hck
    obtain rfl := Nat.eq_of_beq_eq_true hck.1
    dsimp only [z_stp] at h
    split at h
    · rename_i v hi0
      split at h
      · rename_i l' hi
        refine z_op1 (hκ _ _ _ _ h) (fun hv => ⟨hv.1, (z_st_eq hi) ▸ z_vok_set hv trivial⟩) (fun α cA ls H locs cells slots hR hl hv k => ?_)
        obtain ⟨j, hj⟩ := List.getElem?_of_mem (z_asc_in (α := α) (z_getD hi0))
        exact lv_iinc hx hb hd (z_lv_has hl) hj (by rw [of_decide_eq_true hck.2.2]) (Nat.blt_eq.mp hck.2.1) rfl (fun ls' hl' => k ls' ((z_st_ok hl.1 (Nat.blt_eq.mp hck.2.1) hi).2 ls' hl'))
      · cases h
    · cases h
  case iadd =>
    have hck : Nat.beq len 1 = true := hck
    obtain rfl : len = 1 := Nat.eq_of_beq_eq_true hck
    dsimp only [z_stp] at h
    split at h
    · exact z_op1 (hκ _ _ _ _ h) (fun hv => z_vc trivial (z_vp (z_vp hv))) (fun α cA ls H locs cells slots hR hl hv k => lv_iadd hx hb hd (k ls hl))
    · cases h
  case isub =>
    have hck : Nat.beq len 1 = true := hck
    obtain rfl : len = 1 := Nat.eq_of_beq_eq_true hck
    dsimp only [z_stp] at h
    split at h
    · exact z_op1 (hκ _ _ _ _ h) (fun hv => z_vc trivial (z_vp (z_vp hv))) (fun α cA ls H locs cells slots hR hl hv k => lv_isub hx hb hd (k ls hl))
    · cases h
  case imul =>
    have hck : Nat.beq len 1 = true := hck
    obtain rfl : len = 1 := Nat.eq_of_beq_eq_true hck
    dsimp only [z_stp] at h
    split at h
    · exact z_op1 (hκ _ _ _ _ h) (fun hv => z_vc trivial (z_vp (z_vp hv))) (fun α cA ls H locs cells slots hR hl hv k => lv_imul hx hb hd (k ls hl))
    · cases h
  case iand =>
    have hck : Nat.beq len 1 = true := hck
    obtain rfl : len = 1 := Nat.eq_of_beq_eq_true hck
    dsimp only [z_stp] at h
    split at h
    · exact z_op1 (hκ _ _ _ _ h) (fun hv => z_vc trivial (z_vp (z_vp hv))) (fun α cA ls H locs cells slots hR hl hv k => lv_iand hx hb hd (k ls hl))
    · cases h
  case ior =>
    have hck : Nat.beq len 1 = true := hck
    obtain rfl : len = 1 := Nat.eq_of_beq_eq_true hck
    dsimp only [z_stp] at h
    split at h
    · exact z_op1 (hκ _ _ _ _ h) (fun hv => z_vc trivial (z_vp (z_vp hv))) (fun α cA ls H locs cells slots hR hl hv k => lv_ior hx hb hd (k ls hl))
    · cases h
  case ixor =>
    have hck : Nat.beq len 1 = true := hck
    obtain rfl : len = 1 := Nat.eq_of_beq_eq_true hck
    dsimp only [z_stp] at h
    split at h
    · exact z_op1 (hκ _ _ _ _ h) (fun hv => z_vc trivial (z_vp (z_vp hv))) (fun α cA ls H locs cells slots hR hl hv k => lv_ixor hx hb hd (k ls hl))
    · cases h
  case ishl =>
    have hck : Nat.beq len 1 = true := hck
    obtain rfl : len = 1 := Nat.eq_of_beq_eq_true hck
    dsimp only [z_stp] at h
    split at h
    · exact z_op1 (hκ _ _ _ _ h) (fun hv => z_vc trivial (z_vp (z_vp hv))) (fun α cA ls H locs cells slots hR hl hv k => lv_ishl hx hb hd (k ls hl))
    · cases h
  case ishr =>
    have hck : Nat.beq len 1 = true := hck
    obtain rfl : len = 1 := Nat.eq_of_beq_eq_true hck
    dsimp only [z_stp] at h
    split at h
    · exact z_op1 (hκ _ _ _ _ h) (fun hv => z_vc trivial (z_vp (z_vp hv))) (fun α cA ls H locs cells slots hR hl hv k => lv_ishr hx hb hd (k ls hl))
    · cases h
  case iushr =>
    have hck : Nat.beq len 1 = true := hck
    obtain rfl : len = 1 := Nat.eq_of_beq_eq_true hck
    dsimp only [z_stp] at h
    split at h
    · exact z_op1 (hκ _ _ _ _ h) (fun hv => z_vc trivial (z_vp (z_vp hv))) (fun α cA ls H locs cells slots hR hl hv k => lv_iushr hx hb hd rfl (k ls hl))
    · cases h
  case lshl =>
    have hck : Nat.beq len 1 = true := hck
    obtain rfl : len = 1 := Nat.eq_of_beq_eq_true hck
    dsimp only [z_stp] at h
    split at h
    · exact z_op1 (hκ _ _ _ _ h) (fun hv => z_vc trivial (z_vp (z_vp hv))) (fun α cA ls H locs cells slots hR hl hv k => lv_lshl hx hb hd rfl (k ls hl))
    · cases h
  case land =>
    have hck : Nat.beq len 1 = true := hck
    obtain rfl : len = 1 := Nat.eq_of_beq_eq_true hck
    dsimp only [z_stp] at h
    split at h
    · exact z_op1 (hκ _ _ _ _ h) (fun hv => z_vc trivial (z_vp (z_vp hv))) (fun α cA ls H locs cells slots hR hl hv k => lv_land hx hb hd (k ls hl))
    · cases h
  case lor =>
    have hck : Nat.beq len 1 = true := hck
    obtain rfl : len = 1 := Nat.eq_of_beq_eq_true hck
    dsimp only [z_stp] at h
    split at h
    · exact z_op1 (hκ _ _ _ _ h) (fun hv => z_vc trivial (z_vp (z_vp hv))) (fun α cA ls H locs cells slots hR hl hv k => lv_lor hx hb hd (k ls hl))
    · cases h
  case lcmp =>
    have hck : Nat.beq len 1 = true := hck
    obtain rfl : len = 1 := Nat.eq_of_beq_eq_true hck
    dsimp only [z_stp] at h
    split at h
    · exact z_op1 (hκ _ _ _ _ h) (fun hv => z_vc trivial (z_vp (z_vp hv))) (fun α cA ls H locs cells slots hR hl hv k => W.lcmp hx hb hd (k ls hl))
    · cases h
  case idiv =>
    have hck : Nat.beq len 1 = true := hck
    obtain rfl : len = 1 := Nat.eq_of_beq_eq_true hck
    dsimp only [z_stp] at h
    split at h
    · have h := z_if h
      exact z_op1 (hκ _ _ _ _ h.2) (fun hv => z_vc trivial (z_vp (z_vp hv))) (fun α cA ls H locs cells slots hR hl hv k => lv_idiv hx hb hd h.1 (k ls hl))
    · cases h
  case irem =>
    have hck : Nat.beq len 1 = true := hck
    obtain rfl : len = 1 := Nat.eq_of_beq_eq_true hck
    dsimp only [z_stp] at h
    split at h
    · have h := z_if h
      exact z_op1 (hκ _ _ _ _ h.2) (fun hv => z_vc trivial (z_vp (z_vp hv))) (fun α cA ls H locs cells slots hR hl hv k => lv_irem hx hb hd h.1 (k ls hl))
    · cases h
  case ineg =>
    have hck : Nat.beq len 1 = true := hck
    obtain rfl : len = 1 := Nat.eq_of_beq_eq_true hck
    dsimp only [z_stp] at h
    split at h
    · exact z_op1 (hκ _ _ _ _ h) (fun hv => z_vc trivial (z_vp hv)) (fun α cA ls H locs cells slots hR hl hv k => lv_ineg hx hb hd (k ls hl))
    · cases h
  case i2l =>
    have hck : Nat.beq len 1 = true := hck
    obtain rfl : len = 1 := Nat.eq_of_beq_eq_true hck
    dsimp only [z_stp] at h
    split at h
    · exact z_op1 (hκ _ _ _ _ h) (fun hv => z_vc trivial (z_vp hv)) (fun α cA ls H locs cells slots hR hl hv k => lv_i2l hx hb hd rfl (k ls hl))
    · cases h
  case l2i =>
    have hck : Nat.beq len 1 = true := hck
    obtain rfl : len = 1 := Nat.eq_of_beq_eq_true hck
    dsimp only [z_stp] at h
    split at h
    · exact z_op1 (hκ _ _ _ _ h) (fun hv => z_vc trivial (z_vp hv)) (fun α cA ls H locs cells slots hR hl hv k => lv_l2i hx hb hd rfl (k ls hl))
    · cases h
  case i2b =>
    have hck : Nat.beq len 1 = true := hck
    obtain rfl : len = 1 := Nat.eq_of_beq_eq_true hck
    dsimp only [z_stp] at h
    split at h
    · exact z_op1 (hκ _ _ _ _ h) (fun hv => z_vc trivial (z_vp hv)) (fun α cA ls H locs cells slots hR hl hv k => lv_i2b hx hb hd rfl (k ls hl))
    · cases h
  case i2s =>
    have hck : Nat.beq len 1 = true := hck
    obtain rfl : len = 1 := Nat.eq_of_beq_eq_true hck
    dsimp only [z_stp] at h
    split at h
    · exact z_op1 (hκ _ _ _ _ h) (fun hv => z_vc trivial (z_vp hv)) (fun α cA ls H locs cells slots hR hl hv k => lv_i2s hx hb hd rfl (k ls hl))
    · cases h
  case dup =>
    have hck : Nat.beq len 1 = true := hck
    obtain rfl : len = 1 := Nat.eq_of_beq_eq_true hck
    dsimp only [z_stp] at h
    split at h
    · exact z_op1 (hκ _ _ _ _ h) (fun hv => z_vc (z_vh hv) hv) (fun α cA ls H locs cells slots hR hl hv k => lv_dup hx hb hd rfl (k ls hl))
    · have h := z_b0 h
      exact z_op1 (hκ _ _ _ _ h.2) (fun hv => z_vc (z_vh hv) hv) (fun α cA ls H locs cells slots hR hl hv k => lv_dup hx hb hd (by show (z_cR α _).category = 1; rw [z_cR_ref h.1]; rfl) (k ls hl))
    · cases h
  case goto off =>
    have hck : (Nat.beq len 3 && decide ((pc : Int) + off = (a : Int))) = true := hck
    rw [Bool.and_eq_true] at hck
    obtain rfl : len = 3 := Nat.eq_of_beq_eq_true hck.1
    have hck := hck.2
    exact z_op1 (hκ _ _ _ _ h) (fun hv => hv) (fun α cA ls H locs cells slots hR hl hv k => lv_goto hx hb hd (of_decide_eq_true hck) (k ls hl))
  case ifCond cd off =>
    have hck : (Nat.beq len 3 && decide ((pc : Int) + off = (a : Int))) = true := hck
    rw [Bool.and_eq_true] at hck
    obtain rfl : len = 3 := Nat.eq_of_beq_eq_true hck.1
    have hck := hck.2
    cases cd
    case eq =>
      dsimp only [z_stp] at h
      split at h
      · rcases z_br h (hκ _ _ _ _) (hκ _ _ _ _) with ⟨hp, g⟩ | ⟨hp, g⟩
        · exact z_op1 g (fun hv => (z_vp hv)) (fun α cA ls H locs cells slots hR hl hv k => lv_if_eq hx hb hd (of_decide_eq_true hck) (fun _ => k ls hl) (fun q => absurd hp q))
        · exact z_op1 g (fun hv => (z_vp hv)) (fun α cA ls H locs cells slots hR hl hv k => lv_if_eq hx hb hd (of_decide_eq_true hck) (fun q => absurd q hp) (fun _ => k ls hl))
      · cases h
    case ne =>
      dsimp only [z_stp] at h
      split at h
      · rcases z_br h (hκ _ _ _ _) (hκ _ _ _ _) with ⟨hp, g⟩ | ⟨hp, g⟩
        · exact z_op1 g (fun hv => (z_vp hv)) (fun α cA ls H locs cells slots hR hl hv k => lv_if_ne hx hb hd (of_decide_eq_true hck) (fun q => absurd hp q) (fun _ => k ls hl))
        · exact z_op1 g (fun hv => (z_vp hv)) (fun α cA ls H locs cells slots hR hl hv k => lv_if_ne hx hb hd (of_decide_eq_true hck) (fun _ => k ls hl) (fun q => absurd q hp))
      · cases h
    case lt =>
      dsimp only [z_stp] at h
      split at h
      · rcases z_br h (hκ _ _ _ _) (hκ _ _ _ _) with ⟨hp, g⟩ | ⟨hp, g⟩
        · exact z_op1 g (fun hv => (z_vp hv)) (fun α cA ls H locs cells slots hR hl hv k => lv_if_lt hx hb hd (of_decide_eq_true hck) (fun _ => k ls hl) (fun q => absurd hp q))
        · exact z_op1 g (fun hv => (z_vp hv)) (fun α cA ls H locs cells slots hR hl hv k => lv_if_lt hx hb hd (of_decide_eq_true hck) (fun q => absurd q hp) (fun _ => k ls hl))
      · cases h
    case ge =>
      dsimp only [z_stp] at h
      split at h
      · rcases z_br h (hκ _ _ _ _) (hκ _ _ _ _) with ⟨hp, g⟩ | ⟨hp, g⟩
        · exact z_op1 g (fun hv => (z_vp hv)) (fun α cA ls H locs cells slots hR hl hv k => lv_if_ge hx hb hd (of_decide_eq_true hck) (fun _ => k ls hl) (fun q => absurd hp q))
        · exact z_op1 g (fun hv => (z_vp hv)) (fun α cA ls H locs cells slots hR hl hv k => lv_if_ge hx hb hd (of_decide_eq_true hck) (fun q => absurd q hp) (fun _ => k ls hl))
      · cases h
    case gt =>
      dsimp only [z_stp] at h
      split at h
      · rcases z_br h (hκ _ _ _ _) (hκ _ _ _ _) with ⟨hp, g⟩ | ⟨hp, g⟩
        · exact z_op1 g (fun hv => (z_vp hv)) (fun α cA ls H locs cells slots hR hl hv k => lv_if_gt hx hb hd (of_decide_eq_true hck) (fun _ => k ls hl) (fun q => absurd hp q))
        · exact z_op1 g (fun hv => (z_vp hv)) (fun α cA ls H locs cells slots hR hl hv k => lv_if_gt hx hb hd (of_decide_eq_true hck) (fun q => absurd q hp) (fun _ => k ls hl))
      · cases h
    case le =>
      dsimp only [z_stp] at h
      split at h
      · rcases z_br h (hκ _ _ _ _) (hκ _ _ _ _) with ⟨hp, g⟩ | ⟨hp, g⟩
        · exact z_op1 g (fun hv => (z_vp hv)) (fun α cA ls H locs cells slots hR hl hv k => lv_if_le hx hb hd (of_decide_eq_true hck) (fun _ => k ls hl) (fun q => absurd hp q))
        · exact z_op1 g (fun hv => (z_vp hv)) (fun α cA ls H locs cells slots hR hl hv k => lv_if_le hx hb hd (of_decide_eq_true hck) (fun q => absurd q hp) (fun _ => k ls hl))
      · cases h
  case if_icmp cd off =>
    have hck : (Nat.beq len 3 && decide ((pc : Int) + off = (a : Int))) = true := hck
    rw [Bool.and_eq_true] at hck
    obtain rfl : len = 3 := Nat.eq_of_beq_eq_true hck.1
    have hck := hck.2
    cases cd
    case eq =>
      dsimp only [z_stp] at h
      split at h
      · rcases z_br h (hκ _ _ _ _) (hκ _ _ _ _) with ⟨hp, g⟩ | ⟨hp, g⟩
        · exact z_op1 g (fun hv => (z_vp (z_vp hv))) (fun α cA ls H locs cells slots hR hl hv k => lv_icmp_eq hx hb hd (of_decide_eq_true hck) (fun _ => k ls hl) (fun q => absurd hp q))
        · exact z_op1 g (fun hv => (z_vp (z_vp hv))) (fun α cA ls H locs cells slots hR hl hv k => lv_icmp_eq hx hb hd (of_decide_eq_true hck) (fun q => absurd q hp) (fun _ => k ls hl))
      · cases h
    case ne =>
      dsimp only [z_stp] at h
      split at h
      · rcases z_br h (hκ _ _ _ _) (hκ _ _ _ _) with ⟨hp, g⟩ | ⟨hp, g⟩
        · exact z_op1 g (fun hv => (z_vp (z_vp hv))) (fun α cA ls H locs cells slots hR hl hv k => lv_icmp_ne hx hb hd (of_decide_eq_true hck) (fun q => absurd hp q) (fun _ => k ls hl))
        · exact z_op1 g (fun hv => (z_vp (z_vp hv))) (fun α cA ls H locs cells slots hR hl hv k => lv_icmp_ne hx hb hd (of_decide_eq_true hck) (fun _ => k ls hl) (fun q => absurd q hp))
      · cases h
    case lt =>
      dsimp only [z_stp] at h
      split at h
      · rcases z_br h (hκ _ _ _ _) (hκ _ _ _ _) with ⟨hp, g⟩ | ⟨hp, g⟩
        · exact z_op1 g (fun hv => (z_vp (z_vp hv))) (fun α cA ls H locs cells slots hR hl hv k => lv_icmp_lt hx hb hd (of_decide_eq_true hck) (fun _ => k ls hl) (fun q => absurd hp q))
        · exact z_op1 g (fun hv => (z_vp (z_vp hv))) (fun α cA ls H locs cells slots hR hl hv k => lv_icmp_lt hx hb hd (of_decide_eq_true hck) (fun q => absurd q hp) (fun _ => k ls hl))
      · cases h
    case ge =>
      dsimp only [z_stp] at h
      split at h
      · rcases z_br h (hκ _ _ _ _) (hκ _ _ _ _) with ⟨hp, g⟩ | ⟨hp, g⟩
        · exact z_op1 g (fun hv => (z_vp (z_vp hv))) (fun α cA ls H locs cells slots hR hl hv k => lv_icmp_ge hx hb hd (of_decide_eq_true hck) (fun _ => k ls hl) (fun q => absurd hp q))
        · exact z_op1 g (fun hv => (z_vp (z_vp hv))) (fun α cA ls H locs cells slots hR hl hv k => lv_icmp_ge hx hb hd (of_decide_eq_true hck) (fun q => absurd q hp) (fun _ => k ls hl))
      · cases h
    case gt =>
      dsimp only [z_stp] at h
      split at h
      · rcases z_br h (hκ _ _ _ _) (hκ _ _ _ _) with ⟨hp, g⟩ | ⟨hp, g⟩
        · exact z_op1 g (fun hv => (z_vp (z_vp hv))) (fun α cA ls H locs cells slots hR hl hv k => lv_icmp_gt hx hb hd (of_decide_eq_true hck) (fun _ => k ls hl) (fun q => absurd hp q))
        · exact z_op1 g (fun hv => (z_vp (z_vp hv))) (fun α cA ls H locs cells slots hR hl hv k => lv_icmp_gt hx hb hd (of_decide_eq_true hck) (fun q => absurd q hp) (fun _ => k ls hl))
      · cases h
    case le =>
      dsimp only [z_stp] at h
      split at h
      · rcases z_br h (hκ _ _ _ _) (hκ _ _ _ _) with ⟨hp, g⟩ | ⟨hp, g⟩
        · exact z_op1 g (fun hv => (z_vp (z_vp hv))) (fun α cA ls H locs cells slots hR hl hv k => lv_icmp_le hx hb hd (of_decide_eq_true hck) (fun _ => k ls hl) (fun q => absurd hp q))
        · exact z_op1 g (fun hv => (z_vp (z_vp hv))) (fun α cA ls H locs cells slots hR hl hv k => lv_icmp_le hx hb hd (of_decide_eq_true hck) (fun q => absurd q hp) (fun _ => k ls hl))
      · cases h
  case tableswitch dd lo hi offs =>
    have hck : (decide ((pc : Int) + dd = (a : Int)) && (decide ((sw.map (fun q => q.1.toInt)) = (List.range (hi - lo + 1).toNat).map (fun (k : Nat) => lo + (k : Int))) && (decide (sw.map (fun q => ((q.2 : Int) - (pc : Int))) = offs.toList) && decide (lo ≤ hi)))) = true := hck
    rw [Bool.and_eq_true, Bool.and_eq_true, Bool.and_eq_true] at hck
    obtain ⟨h1, h2, h3, h4⟩ := hck
    have h1 := of_decide_eq_true h1
    have h2 := of_decide_eq_true h2
    have h3 := of_decide_eq_true h3
    have h4 := of_decide_eq_true h4
    dsimp only [z_stp] at h
    split at h
    · rename_i v r
      rcases z_sw_ok sw v (fun t => κ t la r S) a with ⟨e1, e2⟩ | ⟨kk, q, e1, e2, e3⟩
      · rw [e1] at h
        refine z_op1 (hκ _ _ _ _ h) (fun hv => z_vp hv) (fun α cA ls H locs cells slots hR hl hv k => lv_tableOut hx hb hd ?_ h1 (k ls hl))
        by_cases hlo : v.toInt < lo
        · exact Or.inl hlo
        · by_cases hhi : hi < v.toInt
          · exact Or.inr hhi
          · exfalso
            have hk : (v.toInt - lo).toNat < (hi - lo + 1).toNat := by omega
            have h5 : (sw.map (fun q => q.1.toInt))[(v.toInt - lo).toNat]? = some v.toInt := by
              rw [h2, List.getElem?_map, List.getElem?_range hk]
              show some (lo + ((v.toInt - lo).toNat : Int)) = _
              rw [Int.toNat_of_nonneg (by omega)]
              congr 1
              omega
            rw [List.getElem?_map] at h5
            cases hz : sw[(v.toInt - lo).toNat]? with
            | none => rw [hz] at h5; cases h5
            | some q =>
              rw [hz] at h5
              have h6 : q.1.toInt = v.toInt := Option.some.inj h5
              exact e2 q (List.mem_of_getElem? hz) (Int32.toInt_inj.mp h6).symm
      · rw [e3] at h
        have hk : kk < (hi - lo + 1).toNat := by
          have h5 : (sw.map (fun q => q.1.toInt)).length = (hi - lo + 1).toNat := by rw [h2, List.length_map, List.length_range]
          rw [List.length_map] at h5
          have h6 := (List.getElem?_eq_some_iff.mp e1).1
          omega
        have h5 : some q.1.toInt = some (lo + (kk : Int)) := by
          have h6 : (sw.map (fun q => q.1.toInt))[kk]? = some q.1.toInt := by rw [List.getElem?_map, e1]; rfl
          rw [h2, List.getElem?_map, List.getElem?_range hk] at h6
          exact h6.symm
        have h7 : v.toInt = lo + (kk : Int) := by rw [e2]; exact Option.some.inj h5
        refine z_op1 (hκ _ _ _ _ h) (fun hv => z_vp hv) (fun α cA ls H locs cells slots hR hl hv k => lv_tableIn (off := (q.2 : Int) - (pc : Int)) hx hb hd (by omega) (by omega) ?_ (by omega) (k ls hl))
        have h8 : (v.toInt - lo).toNat = kk := by omega
        rw [h8, ← Array.getElem?_toList, ← h3, List.getElem?_map, e1]
        rfl
    · cases h
  case lookupswitch dd ps =>
    have hck2 : (decide ((pc : Int) + dd = (a : Int)) && ((ps.toList.zip (ps.toList.drop 1)).all (fun (u, next) => decide (u.1 < next.1)) && decide (sw.map (fun q => (q.1.toInt, ((q.2 : Int) - (pc : Int)))) = ps.toList))) = true := hck
    clear hck
    have hck := hck2
    clear hck2
    rw [Bool.and_eq_true, Bool.and_eq_true] at hck
    have h1 := of_decide_eq_true hck.1
    have h2 := hck.2.1
    have h3 := of_decide_eq_true hck.2.2
    clear hck
    dsimp only [z_stp] at h
    split at h
    · rename_i v r
      obtain ⟨t, ht, htt⟩ : ∃ t, κ t la r S = some res ∧ (pc : Int) + Op.lookupswitch.offset ps.toList dd v.toInt = (t : Int) := by
        rw [← h3]
        clear h2 h3 hd hκ
        induction sw with
        | nil => exact ⟨a, h, h1⟩
        | cons q sw ih =>
          by_cases hv : v = q.1
          · have h4 : κ q.2 la r S = some res := by
              have e : z_sw (q :: sw) v (fun t => κ t la r S) a = κ q.2 la r S := if_pos hv
              rw [← e]; exact h
            refine ⟨q.2, h4, ?_⟩
            simp [Op.lookupswitch.offset, hv]
            omega
          · have h4 : z_sw sw v (fun t => κ t la r S) a = some res := by
              have e : z_sw (q :: sw) v (fun t => κ t la r S) a = z_sw sw v (fun t => κ t la r S) a := if_neg hv
              rw [← e]; exact h
            obtain ⟨t, ht, htt⟩ := ih h4
            refine ⟨t, ht, ?_⟩
            have h5 : ¬ q.1.toInt = v.toInt := fun e => hv (Int32.toInt_inj.mp e).symm
            simpa [Op.lookupswitch.offset, h5] using htt
      exact z_op1 (hκ _ _ _ _ ht) (fun hv => z_vp hv) (fun α cA ls H locs cells slots hR hl hv k => lv_lookup hx hb hd h2 rfl htt (k ls hl))
    · cases h
  case getfield i =>
    have hck : (Nat.beq len 3 && (decide ((o, i, a, b, true) ∈ z_fl) || decide ((o, i, a, b, false) ∈ z_fl))) = true := hck
    rw [Bool.and_eq_true] at hck
    obtain rfl : len = 3 := Nat.eq_of_beq_eq_true hck.1
    have hck := hck.2
    obtain ⟨f, hf⟩ : ∃ f, (o, i, a, b, f) ∈ z_fl := by
      rw [Bool.or_eq_true] at hck
      exact hck.elim (fun q => ⟨_, of_decide_eq_true q⟩) (fun q => ⟨_, of_decide_eq_true q⟩)
    obtain ⟨C, T, N, hvc, hbN, -, ha0, ha13, hlk, hcf⟩ := z_fl_get hf
    dsimp only [z_stp] at h
    split at h
    · rename_i q r
      obtain ⟨hq, h⟩ := z_ht h
      have hq : q.1 = a := Nat.eq_of_beq_eq_true hq
      subst hq
      exact z_getf hx hb hown hts hd hvc hbN hlk hcf ha0 ha13 h hκ
    · cases h
  case putfield i =>
    have hck : (Nat.beq len 3 && (decide ((o, i, a, b, false) ∈ z_fl) || (decide ((o, i, a, b, true) ∈ z_fl) && (ini && Nat.beq o a)))) = true := hck
    rw [Bool.and_eq_true] at hck
    obtain rfl : len = 3 := Nat.eq_of_beq_eq_true hck.1
    have hck := hck.2
    obtain ⟨f, hf, hfi⟩ : ∃ f, (o, i, a, b, f) ∈ z_fl ∧ (f = true → meth.name = "<init>" ∧ o = a) := by
      rw [Bool.or_eq_true] at hck
      rcases hck with hck | hck
      · exact ⟨false, of_decide_eq_true hck, fun q => by cases q⟩
      · rw [Bool.and_eq_true, Bool.and_eq_true] at hck
        exact ⟨true, of_decide_eq_true hck.1, fun _ => ⟨hini hck.2.1, Nat.eq_of_beq_eq_true hck.2.2⟩⟩
    obtain ⟨C, T, N, hvc, hbN, hfn, ha0, ha13, hlk, hcf⟩ := z_fl_get hf
    dsimp only [z_stp] at h
    split at h
    · rename_i v q r
      obtain ⟨hq, h⟩ := z_ht h
      have hq : q.1 = a := Nat.eq_of_beq_eq_true hq
      subst hq
      split at h
      · rename_i hs
        exact z_putI hx hb hown hts hd hvc hbN hfn hfi hlk hcf ha0 ha13 (Or.inl hs) (hκ _ _ _ _ h)
      · rename_i hs
        have h := z_if2 h
        exact z_putI hx hb hown hts hd hvc hbN hfn hfi hlk hcf ha0 ha13 (Or.inr ⟨hs, h.1⟩) (hκ _ _ _ _ h.2)
      · cases h
    · rename_i v q r
      obtain ⟨hq, h⟩ := z_ht h
      have hq : q.1 = a := Nat.eq_of_beq_eq_true hq
      subst hq
      obtain ⟨hv0, h⟩ := z_b0 h
      split at h
      · rename_i hs
        obtain ⟨hmd, h⟩ := z_hf h
        exact z_putR hx hb hown hts hd hvc hbN hfn hfi hlk hcf ha0 ha13 (Or.inl hs) (fun e => by rw [hmd] at e; cases e) hv0 (hκ _ _ _ _ h)
      · rename_i hs
        have h2 : (md = true → z_shK q.1 b = 3 ∧ v.1 = z_dT q.1 b) ∧ κ (pc + 3) la r (z_sR S q.1 q.2 b v) = some res := by
          cases hm : md with
          | false => rw [hm] at h; exact ⟨fun e => (by cases e), h⟩
          | true =>
            rw [hm] at h
            obtain ⟨h3, h4⟩ := z_ht (show cond (Nat.beq v.1 (z_dT q.1 b)) _ none = some res from h)
            exact ⟨fun _ => ⟨hs, Nat.eq_of_beq_eq_true h3⟩, h4⟩
        exact z_putR hx hb hown hts hd hvc hbN hfn hfi hlk hcf ha0 ha13 (Or.inr hs) h2.1 hv0 (hκ _ _ _ _ h2.2)
      · cases h
    · cases h
  case iaload =>
    have hck : Nat.beq len 1 = true := hck
    obtain rfl : len = 1 := Nat.eq_of_beq_eq_true hck
    dsimp only [z_stp] at h
    split at h
    · rename_i j q r
      cases h9 : Nat.beq q.1 90 with
      | true =>
        rw [h9] at h
        dsimp only [cond] at h
        split at h
        · rename_i L xs hsc
          obtain ⟨ho, h⟩ := z_hf h
          exact z_sldS hx hb hd (Nat.eq_of_beq_eq_true h9) rfl ho (hκ _ _ _ _ h)
        · cases h
      | false =>
        rw [h9] at h
        obtain ⟨hk, h⟩ := z_ht (show cond (Nat.beq (z_aK q.1) 1) _ none = some res from h)
        obtain ⟨ho, h⟩ := z_hf h
        exact z_aldI hx hb hd (Or.inl ⟨Nat.eq_of_beq_eq_true hk, rfl⟩) ho (hκ _ _ _ _ h)
    · cases h
  case baload =>
    have hck : Nat.beq len 1 = true := hck
    obtain rfl : len = 1 := Nat.eq_of_beq_eq_true hck
    dsimp only [z_stp] at h
    split at h
    · rename_i j q r
      obtain ⟨hk, h⟩ := z_ht h
      rw [Bool.or_eq_true] at hk
      obtain ⟨ho, h⟩ := z_hf h
      exact z_aldI hx hb hd (Or.inr ⟨hk.elim (fun z => Or.inl (Nat.eq_of_beq_eq_true z)) (fun z => Or.inr (Nat.eq_of_beq_eq_true z)), rfl⟩) ho (hκ _ _ _ _ h)
    · cases h
  case laload =>
    have hck : Nat.beq len 1 = true := hck
    obtain rfl : len = 1 := Nat.eq_of_beq_eq_true hck
    dsimp only [z_stp] at h
    split at h
    · rename_i j q r
      obtain ⟨hk, h⟩ := z_ht h
      obtain ⟨ho, h⟩ := z_hf h
      exact z_aldL hx hb hd (Nat.eq_of_beq_eq_true hk) ho (hκ _ _ _ _ h)
    · cases h
  case aaload =>
    have hck : Nat.beq len 1 = true := hck
    obtain rfl : len = 1 := Nat.eq_of_beq_eq_true hck
    dsimp only [z_stp] at h
    split at h
    · rename_i j q r
      obtain ⟨hk, h⟩ := z_ht h
      obtain ⟨ho, h⟩ := z_hf h
      exact z_aldR hx hb hd (Nat.eq_of_beq_eq_true hk) ho (hκ _ _ _ _ h)
    · cases h
  case iastore =>
    have hck : Nat.beq len 1 = true := hck
    obtain rfl : len = 1 := Nat.eq_of_beq_eq_true hck
    dsimp only [z_stp] at h
    split at h
    · rename_i v j q r
      obtain ⟨hk, h⟩ := z_ht h
      obtain ⟨ho, h⟩ := z_hf h
      exact z_astI hx hb hd (Or.inl ⟨Nat.eq_of_beq_eq_true hk, rfl, rfl⟩) ho (hκ _ _ _ _ h)
    · cases h
  case bastore =>
    have hck : Nat.beq len 1 = true := hck
    obtain rfl : len = 1 := Nat.eq_of_beq_eq_true hck
    dsimp only [z_stp] at h
    split at h
    · rename_i v j q r
      cases h2 : Nat.beq (z_aK q.1) 2 with
      | true =>
        rw [h2] at h
        obtain ⟨ho, h⟩ := z_hf (show cond (z_oob j (z_aN q.1 q.2)) none _ = some res from h)
        exact z_astI hx hb hd (Or.inr (Or.inl ⟨Nat.eq_of_beq_eq_true h2, rfl, rfl⟩)) ho (hκ _ _ _ _ h)
      | false =>
        rw [h2] at h
        obtain ⟨hk, h⟩ := z_ht (show cond (Nat.beq (z_aK q.1) 3) _ none = some res from h)
        obtain ⟨ho, h⟩ := z_hf h
        exact z_astI hx hb hd (Or.inr (Or.inr ⟨Nat.eq_of_beq_eq_true hk, rfl, rfl⟩)) ho (hκ _ _ _ _ h)
    · cases h
  case lastore =>
    have hck : Nat.beq len 1 = true := hck
    obtain rfl : len = 1 := Nat.eq_of_beq_eq_true hck
    dsimp only [z_stp] at h
    split at h
    · rename_i v j q r
      obtain ⟨hk, h⟩ := z_ht h
      obtain ⟨ho, h⟩ := z_hf h
      exact z_astL hx hb hd (Nat.eq_of_beq_eq_true hk) ho (hκ _ _ _ _ h)
    · cases h
  case aastore =>
    have hck : Nat.beq len 1 = true := hck
    obtain rfl : len = 1 := Nat.eq_of_beq_eq_true hck
    dsimp only [z_stp] at h
    split at h
    · rename_i v j q r
      obtain ⟨hmd, h⟩ := z_hf h
      obtain ⟨hk, h⟩ := z_ht h
      rw [Bool.and_eq_true] at hk
      obtain ⟨ho, h⟩ := z_hf h
      exact z_astR hx hb hd hmd (Nat.eq_of_beq_eq_true hk.1) (Nat.eq_of_beq_eq_true hk.2) ho (hκ _ _ _ _ h)
    · cases h
  case arraylength =>
    have hck : Nat.beq len 1 = true := hck
    obtain rfl : len = 1 := Nat.eq_of_beq_eq_true hck
    dsimp only [z_stp] at h
    split at h
    · rename_i q r
      cases h9 : Nat.beq q.1 90 with
      | true =>
        rw [h9] at h
        dsimp only [cond] at h
        split at h
        · rename_i L xs hsc
          exact z_slnS hx hb hd (Nat.eq_of_beq_eq_true h9) rfl (hκ _ _ _ _ h)
        · cases h
      | false =>
        rw [h9] at h
        obtain ⟨hk, h⟩ := z_b0 (show cond (Nat.beq (z_aK q.1) 0) none _ = some res from h)
        exact z_len hx hb hd hk (hκ _ _ _ _ h)
    · cases h
  case new i =>
    have hck : (Nat.beq len 3 && (decide ((o, i, a) ∈ z_nl) && (Nat.blt 0 a && Nat.blt a 13))) = true := hck
    rw [Bool.and_eq_true, Bool.and_eq_true, Bool.and_eq_true] at hck
    obtain ⟨h1, h2, h3, h4⟩ := hck
    obtain rfl : len = 3 := Nat.eq_of_beq_eq_true h1
    dsimp only [z_stp] at h
    obtain ⟨hk, h⟩ := z_ht h
    rw [Bool.and_eq_true] at hk
    have hmd : md = false := by cases md with | true => exact absurd hk.1 (by decide) | false => rfl
    obtain ⟨hr, hra⟩ := z_ordD hk.2 (Nat.blt_eq.mp h3)
    exact z_newO C1 hd (of_decide_eq_true h2) (Nat.blt_eq.mp h3) (Nat.blt_eq.mp h4) hmd hr hra (hκ _ _ _ _ h)
  case newarray k_ =>
    have hck : (Nat.beq len 2 && z_nak a k_) = true := hck
    rw [Bool.and_eq_true] at hck
    obtain ⟨h1, h2⟩ := hck
    obtain rfl : len = 2 := Nat.eq_of_beq_eq_true h1
    dsimp only [z_stp] at h
    split at h
    · rename_i j r
      obtain ⟨hk, h9⟩ := z_ht h
      clear h
      rw [Bool.and_eq_true] at hk
      have hmd : md = false := by cases md with | true => exact absurd hk.1 (by decide) | false => rfl
      obtain ⟨hj, h8⟩ := z_if2 h9
      clear h9
      have hra := Nat.eq_of_beq_eq_true hk.2
      unfold z_nak at h2
      split at h2
      · exact z_newA C1 hd rfl (z_wt (z_ac_in 1 (by decide))) (by decide) hmd hra (Or.inl ⟨rfl, rfl⟩) hj (hκ _ _ _ _ h8)
      · exact z_newA C1 hd rfl (z_wt (z_ac_in 2 (by decide))) (by decide) hmd hra (Or.inr (Or.inl ⟨rfl, rfl⟩)) hj (hκ _ _ _ _ h8)
      · exact z_newA C1 hd rfl (z_wt (z_ac_in 3 (by decide))) (by decide) hmd hra (Or.inr (Or.inr (Or.inl ⟨rfl, rfl⟩))) hj (hκ _ _ _ _ h8)
      · exact z_newA C1 hd rfl (z_wt (z_ac_in 4 (by decide))) (by decide) hmd hra (Or.inr (Or.inr (Or.inr ⟨rfl, rfl⟩))) hj (hκ _ _ _ _ h8)
      · cases h2
    · cases h
  case anewarray i =>
    have hck : (Nat.beq len 3 && (decide ((o, i, a) ∈ z_nl) && decide (a ∈ z_al))) = true := hck
    rw [Bool.and_eq_true, Bool.and_eq_true] at hck
    obtain ⟨h1, h2, h3⟩ := hck
    obtain rfl : len = 3 := Nat.eq_of_beq_eq_true h1
    dsimp only [z_stp] at h
    split at h
    · rename_i j r
      obtain ⟨hk, h⟩ := z_ht h
      rw [Bool.and_eq_true, Bool.and_eq_true] at hk
      have hmd : md = false := by cases md with | true => exact absurd hk.1 (by decide) | false => rfl
      obtain ⟨hj, h⟩ := z_if2 h
      exact z_newQ C1 hd (of_decide_eq_true h2) (of_decide_eq_true h3) hmd (Nat.eq_of_beq_eq_true hk.2.1) (Nat.eq_of_beq_eq_true hk.2.2) hj (hκ _ _ _ _ h)
    · cases h
  all_goals (cases h)
end ZST
