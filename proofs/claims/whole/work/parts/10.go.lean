/-! ===== a stretch of a method, a method ===== -/
def z_rok (cc : ByteArray) (pc : Nat) (ret : Option FieldType) (r : Option z_AV) : Prop := match r with
  | none => decode cc pc = .ok (.return_, 1) ∧ ret = none
  | some (.inl v) => decode cc pc = .ok (.ireturn, 1) ∧ (ret = some .int ∨ (ret = some .boolean ∧ v &&& 1 = v))
  | some (.inr (.inl _)) => decode cc pc = .ok (.lreturn, 1) ∧ ret = some .long
  | _ => False
def z_ckr (ret : Option FieldType) (bo : Bool) (ins : Instr) : Bool := match ins with
  | .ireturn => cond bo (decide (ret = some .boolean)) (decide (ret = some .int))
  | .lreturn => decide (ret = some .long)
  | .return_ => decide (ret = none)
  | _ => true
def z_okb (cc : ByteArray) (o nL : Nat) (ini : Bool) (ret : Option FieldType) (bo : Bool) (q : z_Op) : Bool :=
  decide (decode cc q.1 = .ok (q.2.1, q.2.2.1)) && (z_ck o nL ini q.2.1 q.2.2.1 q.2.2.2.1 q.2.2.2.2.1 q.2.2.2.2.2.1 q.2.2.2.2.2.2.1 q.2.2.2.2.2.2.2 q.1 && z_ckr ret bo q.2.1)
def z_ops (cc : ByteArray) (o nL : Nat) (ini : Bool) (ret : Option FieldType) (bo : Bool) (ops : List z_Op) : Prop := ∀ q ∈ ops, decode cc q.1 = .ok (q.2.1, q.2.2.1) ∧ z_ck o nL ini q.2.1 q.2.2.1 q.2.2.2.1 q.2.2.2.2.1 q.2.2.2.2.2.1 q.2.2.2.2.2.2.1 q.2.2.2.2.2.2.2 q.1 = true ∧ z_ckr ret bo q.2.1 = true
theorem z_okl {cc : ByteArray} {o nL : Nat} {ini : Bool} {ret : Option FieldType} {bo : Bool} {ops : List z_Op} (h : ops.all (z_okb cc o nL ini ret bo) = true) : z_ops cc o nL ini ret bo ops := by
  intro q hq
  have h1 := List.all_eq_true.mp h q hq
  unfold z_okb at h1
  rw [Bool.and_eq_true, Bool.and_eq_true] at h1
  exact ⟨of_decide_eq_true h1.1, h1.2.1, h1.2.2⟩
/-- a method's row holds of its bytes -/
def z_OK (q : z_Mt) : Prop := ∃ (o : Nat) (ini : Bool), z_on o = q.1.cls ∧ (ini = true → q.1.name = "<init>") ∧ z_ops q.2.1 o q.2.2.1 ini q.2.2.2.1 q.2.2.2.2.1 q.2.2.2.2.2.1
theorem z_lk_in {ops : List z_Op} {pc : Nat} {t : Instr × (Nat × (Nat × (Nat × (Nat × (Int32 × List (Int32 × Nat))))))} (h : z_lk ops pc = some t) : (pc, t) ∈ ops := by
  induction ops with
  | nil => cases h
  | cons q r ih =>
    unfold z_lk at h
    cases hb : Nat.beq q.1 pc with
    | true =>
      rw [hb] at h
      have e : q.2 = t := Option.some.inj h
      rw [← e, ← Nat.eq_of_beq_eq_true hb]
      exact List.mem_cons_self
    | false =>
      rw [hb] at h
      exact List.mem_cons_of_mem _ (ih h)
theorem z_msk_len : ∀ (mq : List Bool) (la : z_Lc), (z_msk mq la).length = la.length
  | [], la => by cases la <;> rfl
  | _ :: _, [] => rfl
  | b :: mq, v :: la => by
    show (z_msk mq la).length + 1 = la.length + 1
    rw [z_msk_len mq la]
theorem z_msk_get : ∀ (mq : List Bool) (la : z_Lc) (i : Nat) (v : z_AV), (z_msk mq la)[i]? = some (some v) → la[i]? = some (some v)
  | [], la, i, v, h => by cases la <;> exact h
  | _ :: _, [], i, v, h => h
  | b :: mq, u :: la, 0, v, h => by
    have h1 : some (cond b u none) = some (some v) := h
    cases b with
    | true => exact h1
    | false => cases h1
  | b :: mq, u :: la, i + 1, v, h => z_msk_get mq la i v h
section ZCG
variable {p : Program} {l : Launch} {e : Env} {R : Room} {s : State} {m : MethodId} {args : Array Value} {below : List Frame} {meth : Method} {c : Code} {Q : State → Prop}
variable {D : va_G} {A : Nat → Prop} {md : Bool} {sc : z_Sc} {α0 : Nat × Nat → Nat} {n0 n1 nL o : Nat} {ini : Bool} {cc : ByteArray}
variable {pc pc' : Nat} {la la' : z_Lc} {sa sa' : List z_AV} {S S' : z_Mem}
theorem z_gw_msk {mk : List Bool} (g : z_gw p l e R s m args below meth c Q D A md sc α0 n0 n1 nL pc (z_msk mk la) sa S) : z_gw p l e R s m args below meth c Q D A md sc α0 n0 n1 nL pc la sa S :=
  ⟨g.1, fun α cA ls H locs hR hl hk => g.2 α cA ls H locs hR ⟨by rw [z_msk_len]; exact hl.1, hl.2.1, hl.2.2.1, fun i v hi => hl.2.2.2 i v (z_msk_get mk la i v hi)⟩
    ⟨hk.1, fun v hv => by
      obtain ⟨i, hi⟩ := List.getElem?_of_mem hv
      exact hk.2 v (List.mem_of_getElem? (z_msk_get mk la i v hi))⟩⟩
theorem z_call_ok {ρ : Type} {κ : Nat → z_Lc → List z_AV → z_Mem → Option ρ} {res : ρ} {ex : z_Ex} {d i a b cT : Nat} {x : Int32} {ins : Instr} (C0 : z_Ct p R s m args meth c cc nL o ini n0 n1) (hRd : d + 1 ≤ R.frames ∧ 100 * (d + 1) ≤ R.locals) (hd : decode cc pc = .ok (ins, 3)) (hcw : z_cw o i a b cT x ins)
    (hex : ∀ j as S r S', ex j as S = some (r, S') → z_Ctr l d md j as S r S')
    (h : z_call ex a b cT x pc la sa S κ = some res) (hκ : ∀ pc' la' sa' S', κ pc' la' sa' S' = some res → z_gw p l e R s m args below meth c Q D A md sc α0 n0 n1 nL pc' la' sa' S') : z_gw p l e R s m args below meth c Q D A md sc α0 n0 n1 nL pc la sa S := by
  unfold z_call at h
  split at h
  · cases h
  · rename_i as r htk
    obtain ⟨ys, e1, e2, e3⟩ := z_tk_ok _ _ _ _ _ htk
    rw [List.append_nil] at e2
    obtain ⟨hc, h⟩ := z_ht h
    rw [Bool.and_eq_true] at hc
    have hcat := Nat.le_of_ble_eq_true hc.2
    have key : ∀ (rv : Option z_AV) (S' : z_Mem) (top : List z_AV), ex a as S = some (rv, S') → rv.toList = top → (rv = none ∨ (∃ v, rv = some (.inl v)) ∨ ∃ v, rv = some (.inr (.inl v))) → z_gw p l e R s m args below meth c Q D A md sc α0 n0 n1 nL (pc + 3) la (top ++ r) S' → z_gw p l e R s m args below meth c Q D A md sc α0 n0 n1 nL pc la sa S := by
      intro rv S' top hexe htop hrv g
      obtain ⟨q, hq, hn, hM⟩ := hex a as S rv S' hexe
      refine ⟨Nat.le_trans hn g.1, fun α cA ls H locs hR hl hk => ?_⟩
      have hrun := z_run_any (e := e) (below := below) C0 hRd hd hcw hq hM g.1 hn e1 e2 e3 hc.1 hcat hR hl hk
      obtain ⟨⟨hn0, hn6⟩, hag, hmo, ⟨tys, hK, htk⟩, hP, hD, hS, hA, hsr⟩ := id hR
      have hAA : ∀ q, va_A (z_ws α cA md S) H.size q → A q := fun q h => h.elim (fun ⟨k, ee, h⟩ => hD.2 k (q, ee) h) (fun h => hA q (Nat.le_trans hS.1 h))
      have hc1 : S.2.2.2 - n0 + (S'.2.2.2 - S.2.2.2) = S'.2.2.2 - n0 := by omega
      have hc2 : z_sz S.2.2.2 - z_sz n0 + (z_sz S'.2.2.2 - z_sz S.2.2.2) = z_sz S'.2.2.2 - z_sz n0 := by
        have e1 := z_sz_le hn0
        have e2 := z_sz_le hn
        omega
      have hsub : ∀ v ∈ r, v ∈ sa := fun v hv => by rw [e1]; exact List.mem_append_right _ hv
      rcases hrv with rfl | ⟨v, rfl⟩ | ⟨v, rfl⟩
      · subst htop
        refine va_callv (S := (Nat × Nat → Nat) × (Nat × Nat → ClassId)) (post := fun _ => True) (B := z_QB D md α cA S S' H.size) (a := (as.map (z_cV α)).toArray) hrun hS (fun q _ h => hAA q h) hAA (fun u t H1 locs1 ht hvm hw hB hz1 hk1 hS1 => ?_)
        rw [hc1, hc2]
        exact z_after (top := []) hR hl hk hn ht hvm hB hS1 (fun v hv => by cases hv) hsub g rfl
      · subst htop
        refine va_calli (S := (Nat × Nat → Nat) × (Nat × Nat → ClassId)) (post := fun y _ => y = v) (B := z_QB D md α cA S S' H.size) (a := (as.map (z_cV α)).toArray) hrun hS (fun q _ h => hAA q h) hAA (fun y u t H1 locs1 ht hvm hw hB hz1 hk1 hS1 => ?_)
        rw [hc1, hc2, hw]
        exact z_after (top := [.inl v]) hR hl hk hn ht hvm hB hS1 (fun v hv => by rcases List.mem_cons.mp hv with e | e; rw [e]; exact trivial; cases e) hsub g rfl
      · subst htop
        refine va_calll (S := (Nat × Nat → Nat) × (Nat × Nat → ClassId)) (post := fun y _ => y = v) (B := z_QB D md α cA S S' H.size) (a := (as.map (z_cV α)).toArray) hrun hS (fun q _ h => hAA q h) hAA (fun y u t H1 locs1 ht hvm hw hB hz1 hk1 hS1 => ?_)
        rw [hc1, hc2, hw]
        exact z_after (top := [.inr (.inl v)]) hR hl hk hn ht hvm hB hS1 (fun v hv => by rcases List.mem_cons.mp hv with e | e; rw [e]; exact trivial; cases e) hsub g rfl
    split at h
    · unfold z_rV at h
      split at h
      · rename_i S' hexe
        exact key none S' [] hexe rfl (Or.inl rfl) (hκ _ _ _ _ h)
      · cases h
    · split at h
      · unfold z_rI at h
        split at h
        · rename_i v S' hexe
          exact key (some (.inl v)) S' [.inl v] hexe rfl (Or.inr (Or.inl ⟨v, rfl⟩)) (hκ _ _ _ _ h)
        · cases h
      · unfold z_rL at h
        split at h
        · rename_i v S' hexe
          exact key (some (.inr (.inl v))) S' [.inr (.inl v)] hexe rfl (Or.inr (Or.inr ⟨v, rfl⟩)) (hκ _ _ _ _ h)
        · cases h
theorem z_go_ok {ρ : Type} {K : Nat → z_Lc → List z_AV → z_Mem → Option ρ} {Kr : Option z_AV → z_Mem → Option ρ} {res : ρ} {ex : z_Ex} {d : Nat} {bo : Bool} {ret : Option FieldType} {ops : List z_Op} {cuts : List (Nat × List Bool)} (C0 : z_Ct p R s m args meth c cc nL o ini n0 n1) (hRd : d + 1 ≤ R.frames ∧ 100 * (d + 1) ≤ R.locals)
    (hops : z_ops cc o nL ini ret bo ops) (hex : ∀ j as S r S', ex j as S = some (r, S') → z_Ctr l d md j as S r S')
    (hK : ∀ pc la sa S, K pc la sa S = some res → z_gw p l e R s m args below meth c Q D A md sc α0 n0 n1 nL pc la sa S)
    (hKr : ∀ pc la r S, Kr r S = some res → z_rok cc pc ret r → z_gw p l e R s m args below meth c Q D A md sc α0 n0 n1 nL pc la r.toList S) : ∀ (k pc : Nat) (la : z_Lc) (sa : List z_AV) (S : z_Mem), z_go md sc ex bo ops cuts K Kr k pc la sa S = some res → z_gw p l e R s m args below meth c Q D A md sc α0 n0 n1 nL pc la sa S := by
  intro k
  induction k with
  | zero => intro pc la sa S h; cases h
  | succ k ih =>
    intro pc la sa S h
    unfold z_go at h
    split at h
    · cases h
    · rename_i ins len a b cT x sw hlk
      obtain ⟨hd, hck, hcr⟩ := hops _ (z_lk_in hlk)
      dsimp only at hd hck hcr
      have hκ : ∀ pc' la' sa' S', (match z_cut cuts pc' with | some mq => K pc' (z_msk mq la') sa' S' | none => z_go md sc ex bo ops cuts K Kr k pc' la' sa' S') = some res → z_gw p l e R s m args below meth c Q D A md sc α0 n0 n1 nL pc' la' sa' S' := by
        intro pc' la' sa' S' h'
        split at h'
        · exact z_gw_msk (hK _ _ _ _ h')
        · exact ih _ _ _ _ h'
      split at h
      · have hl1 : len = 1 := Nat.eq_of_beq_eq_true hck
        subst hl1
        split at h
        · rename_i v
          cases bo with
          | true =>
            have h : (if v &&& 1 = v then Kr (some (.inl v)) S else none) = some res := h
            obtain ⟨hv, h⟩ := z_if2 h
            exact hKr pc la (some (.inl v)) S h ⟨hd, Or.inr ⟨of_decide_eq_true hcr, hv⟩⟩
          | false => exact hKr pc la (some (.inl v)) S h ⟨hd, Or.inl (of_decide_eq_true hcr)⟩
        · cases h
      · have hl1 : len = 1 := Nat.eq_of_beq_eq_true hck
        subst hl1
        split at h
        · rename_i v
          exact hKr pc la (some (.inr (.inl v))) S h ⟨hd, of_decide_eq_true hcr⟩
        · cases h
      · have hl1 : len = 1 := Nat.eq_of_beq_eq_true hck
        subst hl1
        split at h
        · exact hKr pc la none S h ⟨hd, of_decide_eq_true hcr⟩
        · cases h
      · rename_i i
        have hck : (Nat.beq len 3 && decide ((o, i, a, b, cT, x.toNatClampNeg, 0) ∈ z_ml) && decide (Int32.ofNat x.toNatClampNeg = x)) = true := hck
        rw [Bool.and_eq_true, Bool.and_eq_true] at hck
        have hl1 : len = 3 := Nat.eq_of_beq_eq_true hck.1.1
        subst hl1
        exact z_call_ok (i := i) C0 hRd hd (Or.inl ⟨rfl, of_decide_eq_true hck.1.2⟩) hex h hκ
      · rename_i i
        have hck : (Nat.beq len 3 && (cond (Nat.ble 1000 a) (decide ((o, i, a) ∈ z_bl) && Nat.blt 1000 a) (decide ((o, i, a, b, cT, x.toNatClampNeg, 1) ∈ z_ml) && (decide (Int32.ofNat x.toNatClampNeg = x) && Nat.beq cT 0)))) = true := hck
        rw [Bool.and_eq_true] at hck
        have hl1 : len = 3 := Nat.eq_of_beq_eq_true hck.1
        subst hl1
        cases hb : Nat.ble 1000 a with
        | true =>
          rw [hb] at h hck
          dsimp only [cond] at h
          have h2 : (decide ((o, i, a) ∈ z_bl) && Nat.blt 1000 a) = true := hck.2
          rw [Bool.and_eq_true] at h2
          exact z_bi_ok (i := i) C0 hd (Or.inr ⟨Nat.blt_eq.mp h2.2, rfl⟩) (of_decide_eq_true h2.1) h hκ
        | false =>
          rw [hb] at h hck
          dsimp only [cond] at h
          have h2 : (decide ((o, i, a, b, cT, x.toNatClampNeg, 1) ∈ z_ml) && (decide (Int32.ofNat x.toNatClampNeg = x) && Nat.beq cT 0)) = true := hck.2
          rw [Bool.and_eq_true, Bool.and_eq_true] at h2
          exact z_call_ok (i := i) C0 hRd hd (Or.inr (Or.inl ⟨rfl, of_decide_eq_true h2.1, Nat.eq_of_beq_eq_true h2.2.2⟩)) hex h hκ
      · rename_i i
        have hck : (Nat.beq len 3 && (cond (Nat.ble 1000 a) (decide ((o, i, a) ∈ z_bl) && Nat.beq a 1000) ((decide ((o, i, a, b, cT, x.toNatClampNeg, 2) ∈ z_ml) || decide ((o, i, a, b, cT, x.toNatClampNeg, 3) ∈ z_nst)) && decide (x = 0)))) = true := hck
        rw [Bool.and_eq_true] at hck
        have hl1 : len = 3 := Nat.eq_of_beq_eq_true hck.1
        subst hl1
        cases hb : Nat.ble 1000 a with
        | true =>
          rw [hb] at h hck
          dsimp only [cond] at h
          have h2 : (decide ((o, i, a) ∈ z_bl) && Nat.beq a 1000) = true := hck.2
          rw [Bool.and_eq_true] at h2
          exact z_bi_ok (i := i) C0 hd (Or.inl ⟨Nat.eq_of_beq_eq_true h2.2, rfl⟩) (of_decide_eq_true h2.1) h hκ
        | false =>
          rw [hb] at h hck
          dsimp only [cond] at h
          have h2 : ((decide ((o, i, a, b, cT, x.toNatClampNeg, 2) ∈ z_ml) || decide ((o, i, a, b, cT, x.toNatClampNeg, 3) ∈ z_nst)) && decide (x = 0)) = true := hck.2
          rw [Bool.and_eq_true, Bool.or_eq_true] at h2
          refine z_call_ok (i := i) C0 hRd hd ?_ hex h hκ
          rcases h2.1 with h3 | h3
          · exact Or.inr (Or.inr (Or.inl ⟨rfl, of_decide_eq_true h3, of_decide_eq_true h2.2⟩))
          · exact Or.inr (Or.inr (Or.inr ⟨rfl, of_decide_eq_true h3, of_decide_eq_true h2.2⟩))
      · exact z_stp_ok C0 hd hck h hκ
theorem z_run_ok {res : Option z_AV × z_Mem} {ex : z_Ex} {d : Nat} {bo : Bool} {ret : Option FieldType} {ops : List z_Op} {cuts : List (Nat × List Bool)} (C0 : z_Ct p R s m args meth c cc nL o ini n0 n1) (hRd : d + 1 ≤ R.frames ∧ 100 * (d + 1) ≤ R.locals)
    (hops : z_ops cc o nL ini ret bo ops) (hex : ∀ j as S r S', ex j as S = some (r, S') → z_Ctr l d md j as S r S') (hsc : sc = none)
    (hKr : ∀ pc la, z_rok cc pc ret res.1 → z_gw p l e R s m args below meth c Q D A md sc α0 n0 n1 nL pc la res.1.toList res.2) : ∀ (n pc : Nat) (la : z_Lc) (sa : List z_AV) (S : z_Mem), z_run md ex bo ops cuts n pc la sa S = some res → z_gw p l e R s m args below meth c Q D A md sc α0 n0 n1 nL pc la sa S := by
  subst hsc
  intro n
  induction n with
  | zero => intro pc la sa S h; cases h
  | succ n ih =>
    intro pc la sa S h
    unfold z_run at h
    refine z_go_ok C0 hRd hops hex ih (fun pc la r S hr hk => ?_) _ _ _ _ _ h
    have e1 : (r, S) = res := Option.some.inj hr
    subst e1
    exact hKr pc la hk
end ZCG
