/-! ===== a method of the abstract machine is a method of the real one ===== -/
theorem z_ent_len (α : Nat × Nat → Nat) (as : List z_AV) : ∀ n, (z_ent n as).length = n → (lg_sl (as.map (z_cV α))).length ≤ n := by
  induction as with
  | nil => intro n _; exact Nat.zero_le _
  | cons v r ih =>
    intro n h
    have e : lg_sl ((v :: r).map (z_cV α)) = (if (z_cV α v).category = 2 then [Slot.val (z_cV α v), .second] else [Slot.val (z_cV α v)]) ++ lg_sl (r.map (z_cV α)) := rfl
    rw [e, List.length_append]
    rcases v with x | x | q
    · have h : (z_ent (n - 1) r).length + 1 = n := h
      have h2 := ih (n - 1) (by omega)
      show 1 + _ ≤ n
      omega
    · have h : (z_ent (n - 2) r).length + 1 + 1 = n := h
      have h2 := ih (n - 2) (by omega)
      show 2 + _ ≤ n
      omega
    · have h : (z_ent (n - 1) r).length + 1 = n := h
      have h2 := ih (n - 1) (by omega)
      have h3 : (if (z_cV α (.inr (.inr q))).category = 2 then [Slot.val (z_cV α (.inr (.inr q))), .second] else [Slot.val (z_cV α (.inr (.inr q)))]).length = 1 := by
        rw [if_neg (fun hc => by obtain ⟨x, hx⟩ := (z_cat_of α _).mp hc; cases hx)]
        rfl
      omega
theorem z_ent_args (α : Nat × Nat → Nat) (as : List z_AV) : ∀ (n k i : Nat) (v : z_AV), (z_ent n as)[i]? = some (some v) → (k + i, z_cV α v) ∈ lv_args k (as.map (z_cV α)) ∧ v ∈ as := by
  induction as with
  | nil =>
    intro n k i v h
    have h : (List.replicate n (none : Option z_AV))[i]? = some (some v) := h
    rw [List.getElem?_replicate] at h
    split at h <;> cases h
  | cons u r ih =>
    intro n k i v h
    have e : lv_args k ((u :: r).map (z_cV α)) = (k, z_cV α u) :: lv_args (if (z_cV α u).category = 2 then k + 2 else k + 1) (r.map (z_cV α)) := rfl
    rw [e]
    rcases u with x | x | q
    · cases i with
      | zero =>
        have h1 : (Sum.inl x : z_AV) = v := Option.some.inj (Option.some.inj h)
        rw [← h1]
        exact ⟨List.mem_cons_self, List.mem_cons_self⟩
      | succ i =>
        obtain ⟨h1, h2⟩ := ih (n - 1) (k + 1) i v h
        refine ⟨List.mem_cons_of_mem _ ?_, List.mem_cons_of_mem _ h2⟩
        show (k + (i + 1), _) ∈ lv_args (k + 1) _
        rw [show k + (i + 1) = k + 1 + i by omega]
        exact h1
    · cases i with
      | zero =>
        have h1 : (Sum.inr (Sum.inl x) : z_AV) = v := Option.some.inj (Option.some.inj h)
        rw [← h1]
        exact ⟨List.mem_cons_self, List.mem_cons_self⟩
      | succ i =>
        cases i with
        | zero => cases h
        | succ i =>
          obtain ⟨h1, h2⟩ := ih (n - 2) (k + 2) i v h
          refine ⟨List.mem_cons_of_mem _ ?_, List.mem_cons_of_mem _ h2⟩
          show (k + (i + 1 + 1), _) ∈ lv_args (k + 2) _
          rw [show k + (i + 1 + 1) = k + 2 + i by omega]
          exact h1
    · cases i with
      | zero =>
        have h1 : (Sum.inr (Sum.inr q) : z_AV) = v := Option.some.inj (Option.some.inj h)
        rw [← h1]
        exact ⟨List.mem_cons_self, List.mem_cons_self⟩
      | succ i =>
        obtain ⟨h1, h2⟩ := ih (n - 1) (k + 1) i v h
        refine ⟨List.mem_cons_of_mem _ ?_, List.mem_cons_of_mem _ h2⟩
        rw [if_neg (fun hc => by obtain ⟨x, hx⟩ := (z_cat_of α _).mp hc; cases hx)]
        rw [show k + (i + 1) = k + 1 + i by omega]
        exact h1
theorem z_exe_ok (l : Launch) (md : Bool) (hOK : ∀ q ∈ z_mt, z_OK q) : ∀ (d j : Nat) (as : List z_AV) (S : z_Mem) (r : Option z_AV) (S' : z_Mem), z_exe z_mt md d j as S = some (r, S') → z_Ctr l d md j as S r S' := by
  intro d
  induction d with
  | zero => intro j as S r S' h; cases h
  | succ d ih =>
    intro j as S r S' h
    unfold z_exe at h
    split at h
    · cases h
    · rename_i q hq
      obtain ⟨hlen, h⟩ := z_ht h
      have hlen := Nat.eq_of_beq_eq_true hlen
      refine ⟨q, hq, z_run_mono (z_exe_mono z_mt md d) _ _ _ _ _ h, fun D α cA sz has hmo h6 => ?_⟩
      obtain ⟨o, ini, hon, hini, hops⟩ := hOK q (List.mem_of_getElem? hq)
      obtain ⟨hpl, hmh, hpar, hmx⟩ := z_mt_f q (List.mem_of_getElem? hq)
      refine Met.ofW (cc := q.2.1) (maxL := q.2.2.1) (ret := q.2.2.2.1) hpl rfl ?_
      intro p e s m args below meth c s₁ B hml hv
      obtain ⟨rfl, hsz, hNW, ⟨tys, hK, htk⟩, hP, hD0⟩ := hv
      have hx := B.exec
      have hb := B.bytes
      have hr := B.returns
      have hts0 := atoms_spec (ws := Cond.code q.1 q.2.1 q.2.2.1 q.2.2.2.1 :: z_WT) B.pre
      have hown : s.vm.findClass q.1.cls = some m.cls := findClass_of_methodNamed B.named
      have hlocks := B.notSynchronized
      have hnm : meth.name = q.1.name := (name_of_methodNamed B.named B.method).1
      subst hsz
      have hl := lv_entry (as.map (z_cV α)) (n := q.2.2.1) (z_ent_len α as _ hlen)
      rw [lg_entry_eq]
      generalize (lg_sl (as.map (z_cV α)) ++ List.replicate (q.2.2.1 - (lg_sl (as.map (z_cV α))).length) Slot.unset).toArray = ls at hl ⊢
      have C0 : z_Ct p ({ frames := d + 1, cells := S'.2.2.2 - S.2.2.2, slots := z_sz S'.2.2.2 - z_sz S.2.2.2, locals := 100 * (d + 1) }) s m (as.map (z_cV α)).toArray meth c q.2.1 q.2.2.1 o ini S.2.2.2 S'.2.2.2 :=
        ⟨hx, hb, hml, by rw [hon]; exact hown, fun w hw => hts0 w (List.mem_cons_of_mem _ hw), hNW, fun hi => by rw [hnm]; exact hini hi, ⟨Nat.le_refl _, Nat.le_refl _⟩, Nat.le_add_left 1 d, (by show 100 ≤ 100 * (d + 1); omega)⟩
      have hD := hD0.self (sz := s.heap.size)
      have g := z_run_ok (l := l) (e := e) (below := below) (Q := MQ below (z_Qc D md α cA S s.heap.size r S') (as.map (z_cV α)).toArray s (S'.2.2.2 - S.2.2.2) (z_sz S'.2.2.2 - z_sz S.2.2.2) (va_A (z_ws α cA md S) s.heap.size)) (D := D) (A := va_A (z_ws α cA md S) s.heap.size) (sc := none) (α0 := α) (res := (r, S')) (d := d) C0 ⟨Nat.le_refl _, Nat.le_refl _⟩ hops ih rfl (fun pc la hk => ?_) _ _ _ _ _ h
      · have hvk : z_vok S.2.2.2 (z_ent q.2.2.1 as) [] := by
          refine ⟨fun v hv => absurd hv List.not_mem_nil, fun v hv => ?_⟩
          obtain ⟨i, hi⟩ := List.getElem?_of_mem hv
          exact has v (z_ent_args α as _ 0 i v hi).2
        have k := g.2 α cA ls s.heap [] ⟨⟨Nat.le_refl _, h6⟩, fun _ _ => rfl, hmo, ⟨tys, hK, htk⟩, hP, hD, va_S.rf, fun q h => Or.inr h, trivial⟩ ⟨hlen, hl.1, hl.2.1, fun i v hi => by
          have h1 := (z_ent_args α as _ 0 i v hi).1
          rw [Nat.zero_add] at h1
          exact hl.2.2 _ h1⟩ hvk
        rw [Nat.sub_self, Nat.sub_self] at k
        exact k
      · refine ⟨Nat.le_refl _, fun α' cA' ls' H' locs' hR hl' hk' => ?_⟩
        obtain ⟨⟨hn0, hn6⟩, hag, hmo', ⟨tys', hK', htk'⟩, hP', hD', hS', hA', -⟩ := hR
        have hQB : ∀ t : State, t.heap = H' → s.WarmedH t.vm → z_QB D md α cA S S' s.heap.size (α', cA') t := fun t ht hW => ⟨hn6, hag, hmo', ⟨tys', va_K.moved hW.alike hK', htk'⟩, by rw [ht]; exact hP', hD'⟩
        rcases r with _ | x | x | x
        · obtain ⟨hd, hret⟩ := hk
          rw [hret] at hr
          exact W.vret hx hb hr (fun t ht hW => ⟨⟨(α', cA'), rfl, trivial, hQB t ht hW⟩, hS'.F ht⟩) (fun q hq => hS'.2.2 q hq) hd hlocks
        · obtain ⟨hd, hret⟩ := hk
          rcases hret with hret | ⟨hret, hv⟩
          · rw [hret] at hr
            exact W.iret hx hb hr (fun t ht hW => ⟨⟨x, (α', cA'), rfl, rfl, hQB t ht hW⟩, hS'.F ht⟩) (fun q hq => hS'.2.2 q hq) hd hlocks
          · rw [hret] at hr
            exact W.zret hx hb hr (by show Value.int (x &&& 1) = _; rw [hv]) (fun t ht hW => ⟨⟨x, (α', cA'), rfl, rfl, hQB t ht hW⟩, hS'.F ht⟩) (fun q hq => hS'.2.2 q hq) hd hlocks
        · obtain ⟨hd, hret⟩ := hk
          rw [hret] at hr
          exact W.lret hx hb hr (fun t ht hW => ⟨⟨x, (α', cA'), rfl, rfl, hQB t ht hW⟩, hS'.F ht⟩) (fun q hq => hS'.2.2 q hq) hd hlocks
        · exact absurd hk (fun h => h)
