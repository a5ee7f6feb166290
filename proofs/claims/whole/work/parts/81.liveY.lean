/-! ===== the law: the kinds of what comes back ===== -/
def z_okI (ins : Instr) : Bool := match ins with | .lreturn => false | .return_ => false | _ => true
def z_okL (ins : Instr) : Bool := match ins with | .ireturn => false | .return_ => false | _ => true
theorem z_lk_all {f : Instr → Bool} : ∀ {ops : List z_Op} {pc : Nat} {q : Instr × (Nat × (Nat × (Nat × (Nat × (Int32 × List (Int32 × Nat))))))}, ops.all (fun o => f o.2.1) = true → z_lk ops pc = some q → f q.1 = true := by
  intro ops
  induction ops with
  | nil => intro pc q _ h; cases h
  | cons o r ih =>
    intro pc q h1 h2
    rw [List.all_cons, Bool.and_eq_true] at h1
    unfold z_lk at h2
    cases hb : Nat.beq o.1 pc with
    | true =>
      rw [hb] at h2
      have h2 : some o.2 = some q := h2
      rw [← Option.some.inj h2]
      exact h1.1
    | false =>
      rw [hb] at h2
      exact ih h1.2 h2
theorem z_go_kd {res : Option z_AV × z_Mem} {P : Option z_AV → Prop} {f : Instr → Bool} {K : Nat → z_Lc → List z_AV → z_Mem → Option (Option z_AV × z_Mem)} {md : Bool} {sc : z_Sc} {ex : z_Ex} {bo : Bool} {ops : List z_Op} {cuts : List (Nat × List Bool)} (hex : ∀ j as S r S', ex j as S = some (r, S') → S.2.2.2 ≤ S'.2.2.2)
    (hf1 : f .ireturn = true → ∀ v, P (some (.inl v))) (hf2 : f .lreturn = true → ∀ v, P (some (.inr (.inl v)))) (hf3 : f .return_ = true → P none) (hops : ops.all (fun o => f o.2.1) = true)
    (hK : ∀ pc la sa S, K pc la sa S = some res → P res.1) : ∀ (k pc : Nat) (la : z_Lc) (sa : List z_AV) (S : z_Mem), z_go md sc ex bo ops cuts K (fun r S' => some (r, S')) k pc la sa S = some res → P res.1 := by
  intro k
  induction k with
  | zero => intro pc la sa S h; cases h
  | succ k ih =>
    intro pc la sa S h
    unfold z_go at h
    split at h
    · cases h
    · rename_i ins len a b cT x sw hlk
      have hfo := z_lk_all hops hlk
      have hκ : ∀ pc' la' sa' S', (match z_cut cuts pc' with | some mq => K pc' (z_msk mq la') sa' S' | none => z_go md sc ex bo ops cuts K (fun r S' => some (r, S')) k pc' la' sa' S') = some res → P res.1 := by
        intro pc' la' sa' S' h'
        split at h'
        · exact hK _ _ _ _ h'
        · exact ih _ _ _ _ h'
      have fin : (∃ pc' la' sa' S', (match z_cut cuts pc' with | some mq => K pc' (z_msk mq la') sa' S' | none => z_go md sc ex bo ops cuts K (fun r S' => some (r, S')) k pc' la' sa' S') = some res ∧ S.2.2.2 ≤ S'.2.2.2) → P res.1 := fun ⟨_, _, _, _, h1, _⟩ => hκ _ _ _ _ h1
      have rr : ∀ {r : Option z_AV} {T : z_Mem}, (some (r, T) : Option (Option z_AV × z_Mem)) = some res → P r → P res.1 := fun e p => by
        rw [← Option.some.inj e]; exact p
      split at h
      · split at h
        · cases bo with
          | true => exact rr (z_if2 (show (if _ then _ else none) = some res from h)).2 (hf1 hfo _)
          | false => exact rr h (hf1 hfo _)
        · cases h
      · split at h
        · exact rr h (hf2 hfo _)
        · cases h
      · split at h
        · exact rr h (hf3 hfo)
        · cases h
      · exact fin (z_call_mono hex h)
      · cases hb : Nat.ble 1000 a with
        | true =>
          rw [hb] at h
          dsimp only [cond] at h
          exact fin (z_bi_mono h)
        | false =>
          rw [hb] at h
          dsimp only [cond] at h
          exact fin (z_call_mono hex h)
      · cases hb : Nat.ble 1000 a with
        | true =>
          rw [hb] at h
          dsimp only [cond] at h
          exact fin (z_bi_mono h)
        | false =>
          rw [hb] at h
          dsimp only [cond] at h
          exact fin (z_call_mono hex h)
      · exact fin (z_stp_mono h)
theorem z_run_kd {res : Option z_AV × z_Mem} {P : Option z_AV → Prop} {f : Instr → Bool} {md : Bool} {ex : z_Ex} {bo : Bool} {ops : List z_Op} {cuts : List (Nat × List Bool)} (hex : ∀ j as S r S', ex j as S = some (r, S') → S.2.2.2 ≤ S'.2.2.2)
    (hf1 : f .ireturn = true → ∀ v, P (some (.inl v))) (hf2 : f .lreturn = true → ∀ v, P (some (.inr (.inl v)))) (hf3 : f .return_ = true → P none) (hops : ops.all (fun o => f o.2.1) = true) : ∀ (n pc : Nat) (la : z_Lc) (sa : List z_AV) (S : z_Mem), z_run md ex bo ops cuts n pc la sa S = some res → P res.1 := by
  intro n
  induction n with
  | zero => intro pc la sa S h; cases h
  | succ n ih =>
    intro pc la sa S h
    unfold z_run at h
    exact z_go_kd hex hf1 hf2 hf3 hops ih _ _ _ _ _ h
def z_tyC (f : Instr → Bool) (j : Nat) : Bool := match z_mt[j]? with | some q => q.2.2.2.2.2.1.all (fun o => f o.2.1) | none => false
theorem z_exe_kd {P : Option z_AV → Prop} {f : Instr → Bool} (hf1 : f .ireturn = true → ∀ v, P (some (.inl v))) (hf2 : f .lreturn = true → ∀ v, P (some (.inr (.inl v)))) (hf3 : f .return_ = true → P none) {d j : Nat} {as : List z_AV} {S S' : z_Mem} {r : Option z_AV} (hj : z_tyC f j = true) (h : z_exe z_mt true (d + 1) j as S = some (r, S')) : P r := by
  unfold z_exe at h
  unfold z_tyC at hj
  split at h
  · cases h
  · rename_i q hq
    rw [hq] at hj
    obtain ⟨-, h⟩ := z_ht h
    exact z_run_kd (res := (r, S')) (z_exe_mono z_mt true d) hf1 hf2 hf3 hj _ _ _ _ _ h
theorem z_both.I {mc mm : Nat} {args : List z_AV} {S : z_Mem} (hk : z_tyC z_okI mc = true) (h : z_both mc mm args S) : ∃ x S1 S2, z_exe z_mt true 40 mc (.inr (.inr (11, 0)) :: args) S = some (some (.inl x), S1) ∧ z_exe z_mt true 40 mm (.inr (.inr (12, 0)) :: args) S1 = some (some (.inl x), S2) ∧ z_RL S2 := by
  obtain ⟨v, S1, S2, e1, e2, hR⟩ := h
  have k : ∃ x, some v = some (.inl x) := z_exe_kd (P := fun r => ∃ x, r = some (.inl x)) (f := z_okI) (d := 39) (fun _ x => ⟨x, rfl⟩) (fun z => absurd z (by decide)) (fun z => absurd z (by decide)) hk e1
  obtain ⟨x, hx⟩ := k
  obtain rfl : v = .inl x := Option.some.inj hx
  exact ⟨x, S1, S2, e1, e2, hR⟩
theorem z_both.J {mc mm : Nat} {args : List z_AV} {S : z_Mem} (hk : z_tyC z_okL mc = true) (h : z_both mc mm args S) : ∃ x S1 S2, z_exe z_mt true 40 mc (.inr (.inr (11, 0)) :: args) S = some (some (.inr (.inl x)), S1) ∧ z_exe z_mt true 40 mm (.inr (.inr (12, 0)) :: args) S1 = some (some (.inr (.inl x)), S2) ∧ z_RL S2 := by
  obtain ⟨v, S1, S2, e1, e2, hR⟩ := h
  have k : ∃ x, some v = some (.inr (.inl x)) := z_exe_kd (P := fun r => ∃ x, r = some (.inr (.inl x))) (f := z_okL) (d := 39) (fun z => absurd z (by decide)) (fun _ x => ⟨x, rfl⟩) (fun z => absurd z (by decide)) hk e1
  obtain ⟨x, hx⟩ := k
  obtain rfl : v = .inr (.inl x) := Option.some.inj hx
  exact ⟨x, S1, S2, e1, e2, hR⟩
theorem z_oobL {k n : Nat} (h : k < n) (hn : n ≤ 100000) : z_oob (nI k) n = false := by
  unfold z_oob
  have h1 : ¬ nI k < 0 := nI_pos (by omega)
  have h2 : (nI k).toNatClampNeg = k := nI_clamp (by omega)
  rw [h2, decide_eq_false h1, Bool.false_or]
  cases hb : Nat.ble n k with
  | false => rfl
  | true => exact absurd (Nat.le_of_ble_eq_true hb) (by omega)
/-! ===== the law: case by case ===== -/
theorem zw_pair (L : Nat) (xs : Nat → Int32) (i n : Nat) (S : z_Mem) (hL : L ≤ 3072) (hi : i + 6 ≤ L) (hR : z_RL S) : ∃ S', z_lrun (some (L, xs)) (z_exe z_mt true 40) (n + 1) 204 [some (.inr (.inr (90, 0))), some (.inr (.inr (11, 0))), some (.inr (.inr (12, 0))), some (.inl (nI i))] [] S = z_lrun (some (L, xs)) (z_exe z_mt true 40) n 1430 [some (.inr (.inr (90, 0))), some (.inr (.inr (11, 0))), some (.inr (.inr (12, 0))), some (.inl (nI i))] [] S' ∧ z_RL S' := by
  have a1 : nI i + (1 : Int32) = nI (i + 1) := nI_add i 1
  have a2 : nI i + (2 : Int32) = nI (i + 2) := nI_add i 2
  have a3 : nI i + (3 : Int32) = nI (i + 3) := nI_add i 3
  have a4 : nI i + (4 : Int32) = nI (i + 4) := nI_add i 4
  have a5 : nI i + (5 : Int32) = nI (i + 5) := nI_add i 5
  have o1 : z_oob (nI (i + 1)) L = false := z_oobL (by omega) (by omega)
  have o2 : z_oob (nI (i + 2)) L = false := z_oobL (by omega) (by omega)
  have o3 : z_oob (nI (i + 3)) L = false := z_oobL (by omega) (by omega)
  have o4 : z_oob (nI (i + 4)) L = false := z_oobL (by omega) (by omega)
  have o5 : z_oob (nI (i + 5)) L = false := z_oobL (by omega) (by omega)
  have c1 : (nI (i + 1)).toNatClampNeg = i + 1 := z_cl (by omega)
  have c2 : (nI (i + 2)).toNatClampNeg = i + 2 := z_cl (by omega)
  have c3 : (nI (i + 3)).toNatClampNeg = i + 3 := z_cl (by omega)
  have c4 : (nI (i + 4)).toNatClampNeg = i + 4 := z_cl (by omega)
  have c5 : (nI (i + 5)).toNatClampNeg = i + 5 := z_cl (by omega)
  obtain ⟨x, S1, S2, e1, e2, hR2⟩ := (c_pair S hR (xs (i + 1)) (xs (i + 2)) (xs (i + 3))).I (by decide +kernel)
  have e0 := ze_law_204 L xs (z_exe z_mt true 40) n S (nI i)
  simp only [a1, a2, a3, a4, a5, o1, o2, o3, o4, o5, c1, c2, c3, c4, c5, z_cnf] at e0
  refine ⟨S2, ?_, hR2⟩
  rw [e0, e1, z_rI_s, e2, z_rI_s, if_pos rfl]
theorem zw_of (L : Nat) (xs : Nat → Int32) (i n : Nat) (S : z_Mem) (hL : L ≤ 3072) (hi : i + 6 ≤ L) (hR : z_RL S) : ∃ S', z_lrun (some (L, xs)) (z_exe z_mt true 40) (n + 1) 247 [some (.inr (.inr (90, 0))), some (.inr (.inr (11, 0))), some (.inr (.inr (12, 0))), some (.inl (nI i))] [] S = z_lrun (some (L, xs)) (z_exe z_mt true 40) n 1430 [some (.inr (.inr (90, 0))), some (.inr (.inr (11, 0))), some (.inr (.inr (12, 0))), some (.inl (nI i))] [] S' ∧ z_RL S' := by
  have a1 : nI i + (1 : Int32) = nI (i + 1) := nI_add i 1
  have a2 : nI i + (2 : Int32) = nI (i + 2) := nI_add i 2
  have a3 : nI i + (3 : Int32) = nI (i + 3) := nI_add i 3
  have a4 : nI i + (4 : Int32) = nI (i + 4) := nI_add i 4
  have a5 : nI i + (5 : Int32) = nI (i + 5) := nI_add i 5
  have o1 : z_oob (nI (i + 1)) L = false := z_oobL (by omega) (by omega)
  have o2 : z_oob (nI (i + 2)) L = false := z_oobL (by omega) (by omega)
  have o3 : z_oob (nI (i + 3)) L = false := z_oobL (by omega) (by omega)
  have o4 : z_oob (nI (i + 4)) L = false := z_oobL (by omega) (by omega)
  have o5 : z_oob (nI (i + 5)) L = false := z_oobL (by omega) (by omega)
  have c1 : (nI (i + 1)).toNatClampNeg = i + 1 := z_cl (by omega)
  have c2 : (nI (i + 2)).toNatClampNeg = i + 2 := z_cl (by omega)
  have c3 : (nI (i + 3)).toNatClampNeg = i + 3 := z_cl (by omega)
  have c4 : (nI (i + 4)).toNatClampNeg = i + 4 := z_cl (by omega)
  have c5 : (nI (i + 5)).toNatClampNeg = i + 5 := z_cl (by omega)
  obtain ⟨x, S1, S2, e1, e2, hR2⟩ := (c_of S hR (xs (i + 1)) (xs (i + 2))).I (by decide +kernel)
  have e0 := ze_law_247 L xs (z_exe z_mt true 40) n S (nI i)
  simp only [a1, a2, a3, a4, a5, o1, o2, o3, o4, o5, c1, c2, c3, c4, c5, z_cnf] at e0
  refine ⟨S2, ?_, hR2⟩
  rw [e0, e1, z_rI_s, e2, z_rI_s, if_pos rfl]
theorem zw_wet (L : Nat) (xs : Nat → Int32) (i n : Nat) (S : z_Mem) (hL : L ≤ 3072) (hi : i + 6 ≤ L) (hR : z_RL S) : ∃ S', z_lrun (some (L, xs)) (z_exe z_mt true 40) (n + 1) 280 [some (.inr (.inr (90, 0))), some (.inr (.inr (11, 0))), some (.inr (.inr (12, 0))), some (.inl (nI i))] [] S = z_lrun (some (L, xs)) (z_exe z_mt true 40) n 1430 [some (.inr (.inr (90, 0))), some (.inr (.inr (11, 0))), some (.inr (.inr (12, 0))), some (.inl (nI i))] [] S' ∧ z_RL S' := by
  have a1 : nI i + (1 : Int32) = nI (i + 1) := nI_add i 1
  have a2 : nI i + (2 : Int32) = nI (i + 2) := nI_add i 2
  have a3 : nI i + (3 : Int32) = nI (i + 3) := nI_add i 3
  have a4 : nI i + (4 : Int32) = nI (i + 4) := nI_add i 4
  have a5 : nI i + (5 : Int32) = nI (i + 5) := nI_add i 5
  have o1 : z_oob (nI (i + 1)) L = false := z_oobL (by omega) (by omega)
  have o2 : z_oob (nI (i + 2)) L = false := z_oobL (by omega) (by omega)
  have o3 : z_oob (nI (i + 3)) L = false := z_oobL (by omega) (by omega)
  have o4 : z_oob (nI (i + 4)) L = false := z_oobL (by omega) (by omega)
  have o5 : z_oob (nI (i + 5)) L = false := z_oobL (by omega) (by omega)
  have c1 : (nI (i + 1)).toNatClampNeg = i + 1 := z_cl (by omega)
  have c2 : (nI (i + 2)).toNatClampNeg = i + 2 := z_cl (by omega)
  have c3 : (nI (i + 3)).toNatClampNeg = i + 3 := z_cl (by omega)
  have c4 : (nI (i + 4)).toNatClampNeg = i + 4 := z_cl (by omega)
  have c5 : (nI (i + 5)).toNatClampNeg = i + 5 := z_cl (by omega)
  obtain ⟨x, S1, S2, e1, e2, hR2⟩ := (c_wet S hR (xs (i + 1)) (xs (i + 2))).I (by decide +kernel)
  have e0 := ze_law_280 L xs (z_exe z_mt true 40) n S (nI i)
  simp only [a1, a2, a3, a4, a5, o1, o2, o3, o4, o5, c1, c2, c3, c4, c5, z_cnf] at e0
  refine ⟨S2, ?_, hR2⟩
  rw [e0, e1, z_rI_s, e2, z_rI_s, if_pos rfl]
theorem zw_put (L : Nat) (xs : Nat → Int32) (i n : Nat) (S : z_Mem) (hL : L ≤ 3072) (hi : i + 6 ≤ L) (hR : z_RL S) : ∃ S', z_lrun (some (L, xs)) (z_exe z_mt true 40) (n + 1) 313 [some (.inr (.inr (90, 0))), some (.inr (.inr (11, 0))), some (.inr (.inr (12, 0))), some (.inl (nI i))] [] S = z_lrun (some (L, xs)) (z_exe z_mt true 40) n 1430 [some (.inr (.inr (90, 0))), some (.inr (.inr (11, 0))), some (.inr (.inr (12, 0))), some (.inl (nI i))] [] S' ∧ z_RL S' := by
  have a1 : nI i + (1 : Int32) = nI (i + 1) := nI_add i 1
  have a2 : nI i + (2 : Int32) = nI (i + 2) := nI_add i 2
  have a3 : nI i + (3 : Int32) = nI (i + 3) := nI_add i 3
  have a4 : nI i + (4 : Int32) = nI (i + 4) := nI_add i 4
  have a5 : nI i + (5 : Int32) = nI (i + 5) := nI_add i 5
  have o1 : z_oob (nI (i + 1)) L = false := z_oobL (by omega) (by omega)
  have o2 : z_oob (nI (i + 2)) L = false := z_oobL (by omega) (by omega)
  have o3 : z_oob (nI (i + 3)) L = false := z_oobL (by omega) (by omega)
  have o4 : z_oob (nI (i + 4)) L = false := z_oobL (by omega) (by omega)
  have o5 : z_oob (nI (i + 5)) L = false := z_oobL (by omega) (by omega)
  have c1 : (nI (i + 1)).toNatClampNeg = i + 1 := z_cl (by omega)
  have c2 : (nI (i + 2)).toNatClampNeg = i + 2 := z_cl (by omega)
  have c3 : (nI (i + 3)).toNatClampNeg = i + 3 := z_cl (by omega)
  have c4 : (nI (i + 4)).toNatClampNeg = i + 4 := z_cl (by omega)
  have c5 : (nI (i + 5)).toNatClampNeg = i + 5 := z_cl (by omega)
  obtain ⟨x, S1, S2, e1, e2, hR2⟩ := (c_put S hR (xs (i + 1)) (xs (i + 2))).I (by decide +kernel)
  have e0 := ze_law_313 L xs (z_exe z_mt true 40) n S (nI i)
  simp only [a1, a2, a3, a4, a5, o1, o2, o3, o4, o5, c1, c2, c3, c4, c5, z_cnf] at e0
  refine ⟨S2, ?_, hR2⟩
  rw [e0, e1, z_rI_s, e2, z_rI_s, if_pos rfl]
theorem zw_take (L : Nat) (xs : Nat → Int32) (i n : Nat) (S : z_Mem) (hL : L ≤ 3072) (hi : i + 6 ≤ L) (hR : z_RL S) : ∃ S', z_lrun (some (L, xs)) (z_exe z_mt true 40) (n + 1) 346 [some (.inr (.inr (90, 0))), some (.inr (.inr (11, 0))), some (.inr (.inr (12, 0))), some (.inl (nI i))] [] S = z_lrun (some (L, xs)) (z_exe z_mt true 40) n 1430 [some (.inr (.inr (90, 0))), some (.inr (.inr (11, 0))), some (.inr (.inr (12, 0))), some (.inl (nI i))] [] S' ∧ z_RL S' := by
  have a1 : nI i + (1 : Int32) = nI (i + 1) := nI_add i 1
  have a2 : nI i + (2 : Int32) = nI (i + 2) := nI_add i 2
  have a3 : nI i + (3 : Int32) = nI (i + 3) := nI_add i 3
  have a4 : nI i + (4 : Int32) = nI (i + 4) := nI_add i 4
  have a5 : nI i + (5 : Int32) = nI (i + 5) := nI_add i 5
  have o1 : z_oob (nI (i + 1)) L = false := z_oobL (by omega) (by omega)
  have o2 : z_oob (nI (i + 2)) L = false := z_oobL (by omega) (by omega)
  have o3 : z_oob (nI (i + 3)) L = false := z_oobL (by omega) (by omega)
  have o4 : z_oob (nI (i + 4)) L = false := z_oobL (by omega) (by omega)
  have o5 : z_oob (nI (i + 5)) L = false := z_oobL (by omega) (by omega)
  have c1 : (nI (i + 1)).toNatClampNeg = i + 1 := z_cl (by omega)
  have c2 : (nI (i + 2)).toNatClampNeg = i + 2 := z_cl (by omega)
  have c3 : (nI (i + 3)).toNatClampNeg = i + 3 := z_cl (by omega)
  have c4 : (nI (i + 4)).toNatClampNeg = i + 4 := z_cl (by omega)
  have c5 : (nI (i + 5)).toNatClampNeg = i + 5 := z_cl (by omega)
  have e0 := ze_law_346 L xs (z_exe z_mt true 40) n S (nI i)
  simp only [a1, a2, a3, a4, a5, o1, o2, o3, o4, o5, c1, c2, c3, c4, c5, z_cnf] at e0
  by_cases h : xs (i + 2) = 0
  · obtain ⟨x, S1, S2, e1, e2, hR2⟩ := (c_take S hR (xs (i + 1)) 0 (Or.inl rfl)).I (by decide +kernel)
    refine ⟨S2, ?_, hR2⟩
    simp only [if_pos h] at e0
    rw [e0, e1, z_rI_s, e2, z_rI_s, if_pos rfl]
  · obtain ⟨x, S1, S2, e1, e2, hR2⟩ := (c_take S hR (xs (i + 1)) 1 (Or.inr rfl)).I (by decide +kernel)
    refine ⟨S2, ?_, hR2⟩
    simp only [if_neg h] at e0
    rw [e0, e1, z_rI_s, e2, z_rI_s, if_pos rfl]
theorem zw_stoke (L : Nat) (xs : Nat → Int32) (i n : Nat) (S : z_Mem) (hL : L ≤ 3072) (hi : i + 6 ≤ L) (hR : z_RL S) : ∃ S', z_lrun (some (L, xs)) (z_exe z_mt true 40) (n + 1) 395 [some (.inr (.inr (90, 0))), some (.inr (.inr (11, 0))), some (.inr (.inr (12, 0))), some (.inl (nI i))] [] S = z_lrun (some (L, xs)) (z_exe z_mt true 40) n 1430 [some (.inr (.inr (90, 0))), some (.inr (.inr (11, 0))), some (.inr (.inr (12, 0))), some (.inl (nI i))] [] S' ∧ z_RL S' := by
  have a1 : nI i + (1 : Int32) = nI (i + 1) := nI_add i 1
  have a2 : nI i + (2 : Int32) = nI (i + 2) := nI_add i 2
  have a3 : nI i + (3 : Int32) = nI (i + 3) := nI_add i 3
  have a4 : nI i + (4 : Int32) = nI (i + 4) := nI_add i 4
  have a5 : nI i + (5 : Int32) = nI (i + 5) := nI_add i 5
  have o1 : z_oob (nI (i + 1)) L = false := z_oobL (by omega) (by omega)
  have o2 : z_oob (nI (i + 2)) L = false := z_oobL (by omega) (by omega)
  have o3 : z_oob (nI (i + 3)) L = false := z_oobL (by omega) (by omega)
  have o4 : z_oob (nI (i + 4)) L = false := z_oobL (by omega) (by omega)
  have o5 : z_oob (nI (i + 5)) L = false := z_oobL (by omega) (by omega)
  have c1 : (nI (i + 1)).toNatClampNeg = i + 1 := z_cl (by omega)
  have c2 : (nI (i + 2)).toNatClampNeg = i + 2 := z_cl (by omega)
  have c3 : (nI (i + 3)).toNatClampNeg = i + 3 := z_cl (by omega)
  have c4 : (nI (i + 4)).toNatClampNeg = i + 4 := z_cl (by omega)
  have c5 : (nI (i + 5)).toNatClampNeg = i + 5 := z_cl (by omega)
  obtain ⟨x, S1, S2, e1, e2, hR2⟩ := (c_stoke S hR).I (by decide +kernel)
  have e0 := ze_law_395 L xs (z_exe z_mt true 40) n S (nI i)
  refine ⟨S2, ?_, hR2⟩
  rw [e0, e1, z_rI_s, e2, z_rI_s, if_pos rfl]
theorem zw_set (L : Nat) (xs : Nat → Int32) (i n : Nat) (S : z_Mem) (hL : L ≤ 3072) (hi : i + 6 ≤ L) (hR : z_RL S) : ∃ S', z_lrun (some (L, xs)) (z_exe z_mt true 40) (n + 1) 408 [some (.inr (.inr (90, 0))), some (.inr (.inr (11, 0))), some (.inr (.inr (12, 0))), some (.inl (nI i))] [] S = z_lrun (some (L, xs)) (z_exe z_mt true 40) n 1430 [some (.inr (.inr (90, 0))), some (.inr (.inr (11, 0))), some (.inr (.inr (12, 0))), some (.inl (nI i))] [] S' ∧ z_RL S' := by
  have a1 : nI i + (1 : Int32) = nI (i + 1) := nI_add i 1
  have a2 : nI i + (2 : Int32) = nI (i + 2) := nI_add i 2
  have a3 : nI i + (3 : Int32) = nI (i + 3) := nI_add i 3
  have a4 : nI i + (4 : Int32) = nI (i + 4) := nI_add i 4
  have a5 : nI i + (5 : Int32) = nI (i + 5) := nI_add i 5
  have o1 : z_oob (nI (i + 1)) L = false := z_oobL (by omega) (by omega)
  have o2 : z_oob (nI (i + 2)) L = false := z_oobL (by omega) (by omega)
  have o3 : z_oob (nI (i + 3)) L = false := z_oobL (by omega) (by omega)
  have o4 : z_oob (nI (i + 4)) L = false := z_oobL (by omega) (by omega)
  have o5 : z_oob (nI (i + 5)) L = false := z_oobL (by omega) (by omega)
  have c1 : (nI (i + 1)).toNatClampNeg = i + 1 := z_cl (by omega)
  have c2 : (nI (i + 2)).toNatClampNeg = i + 2 := z_cl (by omega)
  have c3 : (nI (i + 3)).toNatClampNeg = i + 3 := z_cl (by omega)
  have c4 : (nI (i + 4)).toNatClampNeg = i + 4 := z_cl (by omega)
  have c5 : (nI (i + 5)).toNatClampNeg = i + 5 := z_cl (by omega)
  obtain ⟨x, S1, S2, e1, e2, hR2⟩ := (c_set S hR (xs (i + 1)) (xs (i + 2))).I (by decide +kernel)
  have e0 := ze_law_408 L xs (z_exe z_mt true 40) n S (nI i)
  simp only [a1, a2, a3, a4, a5, o1, o2, o3, o4, o5, c1, c2, c3, c4, c5, z_cnf] at e0
  refine ⟨S2, ?_, hR2⟩
  rw [e0, e1, z_rI_s, e2, z_rI_s, if_pos rfl]
theorem zw_row (L : Nat) (xs : Nat → Int32) (i n : Nat) (S : z_Mem) (hL : L ≤ 3072) (hi : i + 6 ≤ L) (hR : z_RL S) : ∃ S', z_lrun (some (L, xs)) (z_exe z_mt true 40) (n + 1) 441 [some (.inr (.inr (90, 0))), some (.inr (.inr (11, 0))), some (.inr (.inr (12, 0))), some (.inl (nI i))] [] S = z_lrun (some (L, xs)) (z_exe z_mt true 40) n 1430 [some (.inr (.inr (90, 0))), some (.inr (.inr (11, 0))), some (.inr (.inr (12, 0))), some (.inl (nI i))] [] S' ∧ z_RL S' := by
  have a1 : nI i + (1 : Int32) = nI (i + 1) := nI_add i 1
  have a2 : nI i + (2 : Int32) = nI (i + 2) := nI_add i 2
  have a3 : nI i + (3 : Int32) = nI (i + 3) := nI_add i 3
  have a4 : nI i + (4 : Int32) = nI (i + 4) := nI_add i 4
  have a5 : nI i + (5 : Int32) = nI (i + 5) := nI_add i 5
  have o1 : z_oob (nI (i + 1)) L = false := z_oobL (by omega) (by omega)
  have o2 : z_oob (nI (i + 2)) L = false := z_oobL (by omega) (by omega)
  have o3 : z_oob (nI (i + 3)) L = false := z_oobL (by omega) (by omega)
  have o4 : z_oob (nI (i + 4)) L = false := z_oobL (by omega) (by omega)
  have o5 : z_oob (nI (i + 5)) L = false := z_oobL (by omega) (by omega)
  have c1 : (nI (i + 1)).toNatClampNeg = i + 1 := z_cl (by omega)
  have c2 : (nI (i + 2)).toNatClampNeg = i + 2 := z_cl (by omega)
  have c3 : (nI (i + 3)).toNatClampNeg = i + 3 := z_cl (by omega)
  have c4 : (nI (i + 4)).toNatClampNeg = i + 4 := z_cl (by omega)
  have c5 : (nI (i + 5)).toNatClampNeg = i + 5 := z_cl (by omega)
  obtain ⟨x, S1, S2, e1, e2, hR2⟩ := (c_row S hR (xs (i + 1)) (xs (i + 2)) (xs (i + 3))).I (by decide +kernel)
  have e0 := ze_law_441 L xs (z_exe z_mt true 40) n S (nI i)
  simp only [a1, a2, a3, a4, a5, o1, o2, o3, o4, o5, c1, c2, c3, c4, c5, z_cnf] at e0
  refine ⟨S2, ?_, hR2⟩
  rw [e0, e1, z_rI_s, e2, z_rI_s, if_pos rfl]
theorem zw_feed (L : Nat) (xs : Nat → Int32) (i n : Nat) (S : z_Mem) (hL : L ≤ 3072) (hi : i + 6 ≤ L) (hR : z_RL S) : ∃ S', z_lrun (some (L, xs)) (z_exe z_mt true 40) (n + 1) 484 [some (.inr (.inr (90, 0))), some (.inr (.inr (11, 0))), some (.inr (.inr (12, 0))), some (.inl (nI i))] [] S = z_lrun (some (L, xs)) (z_exe z_mt true 40) n 1430 [some (.inr (.inr (90, 0))), some (.inr (.inr (11, 0))), some (.inr (.inr (12, 0))), some (.inl (nI i))] [] S' ∧ z_RL S' := by
  have a1 : nI i + (1 : Int32) = nI (i + 1) := nI_add i 1
  have a2 : nI i + (2 : Int32) = nI (i + 2) := nI_add i 2
  have a3 : nI i + (3 : Int32) = nI (i + 3) := nI_add i 3
  have a4 : nI i + (4 : Int32) = nI (i + 4) := nI_add i 4
  have a5 : nI i + (5 : Int32) = nI (i + 5) := nI_add i 5
  have o1 : z_oob (nI (i + 1)) L = false := z_oobL (by omega) (by omega)
  have o2 : z_oob (nI (i + 2)) L = false := z_oobL (by omega) (by omega)
  have o3 : z_oob (nI (i + 3)) L = false := z_oobL (by omega) (by omega)
  have o4 : z_oob (nI (i + 4)) L = false := z_oobL (by omega) (by omega)
  have o5 : z_oob (nI (i + 5)) L = false := z_oobL (by omega) (by omega)
  have c1 : (nI (i + 1)).toNatClampNeg = i + 1 := z_cl (by omega)
  have c2 : (nI (i + 2)).toNatClampNeg = i + 2 := z_cl (by omega)
  have c3 : (nI (i + 3)).toNatClampNeg = i + 3 := z_cl (by omega)
  have c4 : (nI (i + 4)).toNatClampNeg = i + 4 := z_cl (by omega)
  have c5 : (nI (i + 5)).toNatClampNeg = i + 5 := z_cl (by omega)
  obtain ⟨x, S1, S2, e1, e2, hR2⟩ := (c_feed S hR (xs (i + 1))).I (by decide +kernel)
  have e0 := ze_law_484 L xs (z_exe z_mt true 40) n S (nI i)
  simp only [a1, a2, a3, a4, a5, o1, o2, o3, o4, o5, c1, c2, c3, c4, c5, z_cnf] at e0
  refine ⟨S2, ?_, hR2⟩
  rw [e0, e1, z_rI_s, e2, z_rI_s, if_pos rfl]
theorem zw_hut (L : Nat) (xs : Nat → Int32) (i n : Nat) (S : z_Mem) (hL : L ≤ 3072) (hi : i + 6 ≤ L) (hR : z_RL S) : ∃ S', z_lrun (some (L, xs)) (z_exe z_mt true 40) (n + 1) 507 [some (.inr (.inr (90, 0))), some (.inr (.inr (11, 0))), some (.inr (.inr (12, 0))), some (.inl (nI i))] [] S = z_lrun (some (L, xs)) (z_exe z_mt true 40) n 1430 [some (.inr (.inr (90, 0))), some (.inr (.inr (11, 0))), some (.inr (.inr (12, 0))), some (.inl (nI i))] [] S' ∧ z_RL S' := by
  have a1 : nI i + (1 : Int32) = nI (i + 1) := nI_add i 1
  have a2 : nI i + (2 : Int32) = nI (i + 2) := nI_add i 2
  have a3 : nI i + (3 : Int32) = nI (i + 3) := nI_add i 3
  have a4 : nI i + (4 : Int32) = nI (i + 4) := nI_add i 4
  have a5 : nI i + (5 : Int32) = nI (i + 5) := nI_add i 5
  have o1 : z_oob (nI (i + 1)) L = false := z_oobL (by omega) (by omega)
  have o2 : z_oob (nI (i + 2)) L = false := z_oobL (by omega) (by omega)
  have o3 : z_oob (nI (i + 3)) L = false := z_oobL (by omega) (by omega)
  have o4 : z_oob (nI (i + 4)) L = false := z_oobL (by omega) (by omega)
  have o5 : z_oob (nI (i + 5)) L = false := z_oobL (by omega) (by omega)
  have c1 : (nI (i + 1)).toNatClampNeg = i + 1 := z_cl (by omega)
  have c2 : (nI (i + 2)).toNatClampNeg = i + 2 := z_cl (by omega)
  have c3 : (nI (i + 3)).toNatClampNeg = i + 3 := z_cl (by omega)
  have c4 : (nI (i + 4)).toNatClampNeg = i + 4 := z_cl (by omega)
  have c5 : (nI (i + 5)).toNatClampNeg = i + 5 := z_cl (by omega)
  obtain ⟨x, S1, S2, e1, e2, hR2⟩ := (c_hut S hR).I (by decide +kernel)
  have e0 := ze_law_507 L xs (z_exe z_mt true 40) n S (nI i)
  refine ⟨S2, ?_, hR2⟩
  rw [e0, e1, z_rI_s, e2, z_rI_s, if_pos rfl]
theorem zw_told (L : Nat) (xs : Nat → Int32) (i n : Nat) (S : z_Mem) (hL : L ≤ 3072) (hi : i + 6 ≤ L) (hR : z_RL S) : ∃ S', z_lrun (some (L, xs)) (z_exe z_mt true 40) (n + 1) 520 [some (.inr (.inr (90, 0))), some (.inr (.inr (11, 0))), some (.inr (.inr (12, 0))), some (.inl (nI i))] [] S = z_lrun (some (L, xs)) (z_exe z_mt true 40) n 1430 [some (.inr (.inr (90, 0))), some (.inr (.inr (11, 0))), some (.inr (.inr (12, 0))), some (.inl (nI i))] [] S' ∧ z_RL S' := by
  have a1 : nI i + (1 : Int32) = nI (i + 1) := nI_add i 1
  have a2 : nI i + (2 : Int32) = nI (i + 2) := nI_add i 2
  have a3 : nI i + (3 : Int32) = nI (i + 3) := nI_add i 3
  have a4 : nI i + (4 : Int32) = nI (i + 4) := nI_add i 4
  have a5 : nI i + (5 : Int32) = nI (i + 5) := nI_add i 5
  have o1 : z_oob (nI (i + 1)) L = false := z_oobL (by omega) (by omega)
  have o2 : z_oob (nI (i + 2)) L = false := z_oobL (by omega) (by omega)
  have o3 : z_oob (nI (i + 3)) L = false := z_oobL (by omega) (by omega)
  have o4 : z_oob (nI (i + 4)) L = false := z_oobL (by omega) (by omega)
  have o5 : z_oob (nI (i + 5)) L = false := z_oobL (by omega) (by omega)
  have c1 : (nI (i + 1)).toNatClampNeg = i + 1 := z_cl (by omega)
  have c2 : (nI (i + 2)).toNatClampNeg = i + 2 := z_cl (by omega)
  have c3 : (nI (i + 3)).toNatClampNeg = i + 3 := z_cl (by omega)
  have c4 : (nI (i + 4)).toNatClampNeg = i + 4 := z_cl (by omega)
  have c5 : (nI (i + 5)).toNatClampNeg = i + 5 := z_cl (by omega)
  obtain ⟨x, S1, S2, e1, e2, hR2⟩ := (c_told S hR (xs (i + 1))).I (by decide +kernel)
  have e0 := ze_law_520 L xs (z_exe z_mt true 40) n S (nI i)
  simp only [a1, a2, a3, a4, a5, o1, o2, o3, o4, o5, c1, c2, c3, c4, c5, z_cnf] at e0
  refine ⟨S2, ?_, hR2⟩
  rw [e0, e1, z_rI_s, e2, z_rI_s, if_pos rfl]
theorem zw_pass (L : Nat) (xs : Nat → Int32) (i n : Nat) (S : z_Mem) (hL : L ≤ 3072) (hi : i + 6 ≤ L) (hR : z_RL S) : ∃ S', z_lrun (some (L, xs)) (z_exe z_mt true 40) (n + 1) 543 [some (.inr (.inr (90, 0))), some (.inr (.inr (11, 0))), some (.inr (.inr (12, 0))), some (.inl (nI i))] [] S = z_lrun (some (L, xs)) (z_exe z_mt true 40) n 1430 [some (.inr (.inr (90, 0))), some (.inr (.inr (11, 0))), some (.inr (.inr (12, 0))), some (.inl (nI i))] [] S' ∧ z_RL S' := by
  have a1 : nI i + (1 : Int32) = nI (i + 1) := nI_add i 1
  have a2 : nI i + (2 : Int32) = nI (i + 2) := nI_add i 2
  have a3 : nI i + (3 : Int32) = nI (i + 3) := nI_add i 3
  have a4 : nI i + (4 : Int32) = nI (i + 4) := nI_add i 4
  have a5 : nI i + (5 : Int32) = nI (i + 5) := nI_add i 5
  have o1 : z_oob (nI (i + 1)) L = false := z_oobL (by omega) (by omega)
  have o2 : z_oob (nI (i + 2)) L = false := z_oobL (by omega) (by omega)
  have o3 : z_oob (nI (i + 3)) L = false := z_oobL (by omega) (by omega)
  have o4 : z_oob (nI (i + 4)) L = false := z_oobL (by omega) (by omega)
  have o5 : z_oob (nI (i + 5)) L = false := z_oobL (by omega) (by omega)
  have c1 : (nI (i + 1)).toNatClampNeg = i + 1 := z_cl (by omega)
  have c2 : (nI (i + 2)).toNatClampNeg = i + 2 := z_cl (by omega)
  have c3 : (nI (i + 3)).toNatClampNeg = i + 3 := z_cl (by omega)
  have c4 : (nI (i + 4)).toNatClampNeg = i + 4 := z_cl (by omega)
  have c5 : (nI (i + 5)).toNatClampNeg = i + 5 := z_cl (by omega)
  obtain ⟨x, S1, S2, e1, e2, hR2⟩ := (c_pass S hR (xs (i + 1))).I (by decide +kernel)
  have e0 := ze_law_543 L xs (z_exe z_mt true 40) n S (nI i)
  simp only [a1, a2, a3, a4, a5, o1, o2, o3, o4, o5, c1, c2, c3, c4, c5, z_cnf] at e0
  refine ⟨S2, ?_, hR2⟩
  rw [e0, e1, z_rI_s, e2, z_rI_s, if_pos rfl]
theorem zw_on (L : Nat) (xs : Nat → Int32) (i n : Nat) (S : z_Mem) (hL : L ≤ 3072) (hi : i + 6 ≤ L) (hR : z_RL S) : ∃ S', z_lrun (some (L, xs)) (z_exe z_mt true 40) (n + 1) 566 [some (.inr (.inr (90, 0))), some (.inr (.inr (11, 0))), some (.inr (.inr (12, 0))), some (.inl (nI i))] [] S = z_lrun (some (L, xs)) (z_exe z_mt true 40) n 1430 [some (.inr (.inr (90, 0))), some (.inr (.inr (11, 0))), some (.inr (.inr (12, 0))), some (.inl (nI i))] [] S' ∧ z_RL S' := by
  have a1 : nI i + (1 : Int32) = nI (i + 1) := nI_add i 1
  have a2 : nI i + (2 : Int32) = nI (i + 2) := nI_add i 2
  have a3 : nI i + (3 : Int32) = nI (i + 3) := nI_add i 3
  have a4 : nI i + (4 : Int32) = nI (i + 4) := nI_add i 4
  have a5 : nI i + (5 : Int32) = nI (i + 5) := nI_add i 5
  have o1 : z_oob (nI (i + 1)) L = false := z_oobL (by omega) (by omega)
  have o2 : z_oob (nI (i + 2)) L = false := z_oobL (by omega) (by omega)
  have o3 : z_oob (nI (i + 3)) L = false := z_oobL (by omega) (by omega)
  have o4 : z_oob (nI (i + 4)) L = false := z_oobL (by omega) (by omega)
  have o5 : z_oob (nI (i + 5)) L = false := z_oobL (by omega) (by omega)
  have c1 : (nI (i + 1)).toNatClampNeg = i + 1 := z_cl (by omega)
  have c2 : (nI (i + 2)).toNatClampNeg = i + 2 := z_cl (by omega)
  have c3 : (nI (i + 3)).toNatClampNeg = i + 3 := z_cl (by omega)
  have c4 : (nI (i + 4)).toNatClampNeg = i + 4 := z_cl (by omega)
  have c5 : (nI (i + 5)).toNatClampNeg = i + 5 := z_cl (by omega)
  obtain ⟨x, S1, S2, e1, e2, hR2⟩ := (c_on S hR (xs (i + 1)) (xs (i + 2))).I (by decide +kernel)
  have e0 := ze_law_566 L xs (z_exe z_mt true 40) n S (nI i)
  simp only [a1, a2, a3, a4, a5, o1, o2, o3, o4, o5, c1, c2, c3, c4, c5, z_cnf] at e0
  refine ⟨S2, ?_, hR2⟩
  rw [e0, e1, z_rI_s, e2, z_rI_s, if_pos rfl]
theorem zw_done (L : Nat) (xs : Nat → Int32) (i n : Nat) (S : z_Mem) (hL : L ≤ 3072) (hi : i + 6 ≤ L) (hR : z_RL S) : ∃ S', z_lrun (some (L, xs)) (z_exe z_mt true 40) (n + 1) 599 [some (.inr (.inr (90, 0))), some (.inr (.inr (11, 0))), some (.inr (.inr (12, 0))), some (.inl (nI i))] [] S = z_lrun (some (L, xs)) (z_exe z_mt true 40) n 1430 [some (.inr (.inr (90, 0))), some (.inr (.inr (11, 0))), some (.inr (.inr (12, 0))), some (.inl (nI i))] [] S' ∧ z_RL S' := by
  have a1 : nI i + (1 : Int32) = nI (i + 1) := nI_add i 1
  have a2 : nI i + (2 : Int32) = nI (i + 2) := nI_add i 2
  have a3 : nI i + (3 : Int32) = nI (i + 3) := nI_add i 3
  have a4 : nI i + (4 : Int32) = nI (i + 4) := nI_add i 4
  have a5 : nI i + (5 : Int32) = nI (i + 5) := nI_add i 5
  have o1 : z_oob (nI (i + 1)) L = false := z_oobL (by omega) (by omega)
  have o2 : z_oob (nI (i + 2)) L = false := z_oobL (by omega) (by omega)
  have o3 : z_oob (nI (i + 3)) L = false := z_oobL (by omega) (by omega)
  have o4 : z_oob (nI (i + 4)) L = false := z_oobL (by omega) (by omega)
  have o5 : z_oob (nI (i + 5)) L = false := z_oobL (by omega) (by omega)
  have c1 : (nI (i + 1)).toNatClampNeg = i + 1 := z_cl (by omega)
  have c2 : (nI (i + 2)).toNatClampNeg = i + 2 := z_cl (by omega)
  have c3 : (nI (i + 3)).toNatClampNeg = i + 3 := z_cl (by omega)
  have c4 : (nI (i + 4)).toNatClampNeg = i + 4 := z_cl (by omega)
  have c5 : (nI (i + 5)).toNatClampNeg = i + 5 := z_cl (by omega)
  obtain ⟨x, S1, S2, e1, e2, hR2⟩ := (c_done S hR (xs (i + 1))).I (by decide +kernel)
  have e0 := ze_law_599 L xs (z_exe z_mt true 40) n S (nI i)
  simp only [a1, a2, a3, a4, a5, o1, o2, o3, o4, o5, c1, c2, c3, c4, c5, z_cnf] at e0
  refine ⟨S2, ?_, hR2⟩
  rw [e0, e1, z_rI_s, e2, z_rI_s, if_pos rfl]
theorem zw_night (L : Nat) (xs : Nat → Int32) (i n : Nat) (S : z_Mem) (hL : L ≤ 3072) (hi : i + 6 ≤ L) (hR : z_RL S) : ∃ S', z_lrun (some (L, xs)) (z_exe z_mt true 40) (n + 1) 622 [some (.inr (.inr (90, 0))), some (.inr (.inr (11, 0))), some (.inr (.inr (12, 0))), some (.inl (nI i))] [] S = z_lrun (some (L, xs)) (z_exe z_mt true 40) n 1430 [some (.inr (.inr (90, 0))), some (.inr (.inr (11, 0))), some (.inr (.inr (12, 0))), some (.inl (nI i))] [] S' ∧ z_RL S' := by
  have a1 : nI i + (1 : Int32) = nI (i + 1) := nI_add i 1
  have a2 : nI i + (2 : Int32) = nI (i + 2) := nI_add i 2
  have a3 : nI i + (3 : Int32) = nI (i + 3) := nI_add i 3
  have a4 : nI i + (4 : Int32) = nI (i + 4) := nI_add i 4
  have a5 : nI i + (5 : Int32) = nI (i + 5) := nI_add i 5
  have o1 : z_oob (nI (i + 1)) L = false := z_oobL (by omega) (by omega)
  have o2 : z_oob (nI (i + 2)) L = false := z_oobL (by omega) (by omega)
  have o3 : z_oob (nI (i + 3)) L = false := z_oobL (by omega) (by omega)
  have o4 : z_oob (nI (i + 4)) L = false := z_oobL (by omega) (by omega)
  have o5 : z_oob (nI (i + 5)) L = false := z_oobL (by omega) (by omega)
  have c1 : (nI (i + 1)).toNatClampNeg = i + 1 := z_cl (by omega)
  have c2 : (nI (i + 2)).toNatClampNeg = i + 2 := z_cl (by omega)
  have c3 : (nI (i + 3)).toNatClampNeg = i + 3 := z_cl (by omega)
  have c4 : (nI (i + 4)).toNatClampNeg = i + 4 := z_cl (by omega)
  have c5 : (nI (i + 5)).toNatClampNeg = i + 5 := z_cl (by omega)
  obtain ⟨x, S1, S2, e1, e2, hR2⟩ := (c_night S hR (xs (i + 1))).I (by decide +kernel)
  have e0 := ze_law_622 L xs (z_exe z_mt true 40) n S (nI i)
  simp only [a1, a2, a3, a4, a5, o1, o2, o3, o4, o5, c1, c2, c3, c4, c5, z_cnf] at e0
  refine ⟨S2, ?_, hR2⟩
  rw [e0, e1, z_rI_s, e2, z_rI_s, if_pos rfl]
theorem zw_placed (L : Nat) (xs : Nat → Int32) (i n : Nat) (S : z_Mem) (hL : L ≤ 3072) (hi : i + 6 ≤ L) (hR : z_RL S) : ∃ S', z_lrun (some (L, xs)) (z_exe z_mt true 40) (n + 1) 645 [some (.inr (.inr (90, 0))), some (.inr (.inr (11, 0))), some (.inr (.inr (12, 0))), some (.inl (nI i))] [] S = z_lrun (some (L, xs)) (z_exe z_mt true 40) n 1430 [some (.inr (.inr (90, 0))), some (.inr (.inr (11, 0))), some (.inr (.inr (12, 0))), some (.inl (nI i))] [] S' ∧ z_RL S' := by
  have a1 : nI i + (1 : Int32) = nI (i + 1) := nI_add i 1
  have a2 : nI i + (2 : Int32) = nI (i + 2) := nI_add i 2
  have a3 : nI i + (3 : Int32) = nI (i + 3) := nI_add i 3
  have a4 : nI i + (4 : Int32) = nI (i + 4) := nI_add i 4
  have a5 : nI i + (5 : Int32) = nI (i + 5) := nI_add i 5
  have o1 : z_oob (nI (i + 1)) L = false := z_oobL (by omega) (by omega)
  have o2 : z_oob (nI (i + 2)) L = false := z_oobL (by omega) (by omega)
  have o3 : z_oob (nI (i + 3)) L = false := z_oobL (by omega) (by omega)
  have o4 : z_oob (nI (i + 4)) L = false := z_oobL (by omega) (by omega)
  have o5 : z_oob (nI (i + 5)) L = false := z_oobL (by omega) (by omega)
  have c1 : (nI (i + 1)).toNatClampNeg = i + 1 := z_cl (by omega)
  have c2 : (nI (i + 2)).toNatClampNeg = i + 2 := z_cl (by omega)
  have c3 : (nI (i + 3)).toNatClampNeg = i + 3 := z_cl (by omega)
  have c4 : (nI (i + 4)).toNatClampNeg = i + 4 := z_cl (by omega)
  have c5 : (nI (i + 5)).toNatClampNeg = i + 5 := z_cl (by omega)
  obtain ⟨x, S1, S2, e1, e2, hR2⟩ := (c_placed S hR (xs (i + 1)) (xs (i + 2))).I (by decide +kernel)
  have e0 := ze_law_645 L xs (z_exe z_mt true 40) n S (nI i)
  simp only [a1, a2, a3, a4, a5, o1, o2, o3, o4, o5, c1, c2, c3, c4, c5, z_cnf] at e0
  refine ⟨S2, ?_, hR2⟩
  rw [e0, e1, z_rI_s, e2, z_rI_s, if_pos rfl]
theorem zw_change (L : Nat) (xs : Nat → Int32) (i n : Nat) (S : z_Mem) (hL : L ≤ 3072) (hi : i + 6 ≤ L) (hR : z_RL S) : ∃ S', z_lrun (some (L, xs)) (z_exe z_mt true 40) (n + 1) 678 [some (.inr (.inr (90, 0))), some (.inr (.inr (11, 0))), some (.inr (.inr (12, 0))), some (.inl (nI i))] [] S = z_lrun (some (L, xs)) (z_exe z_mt true 40) n 1430 [some (.inr (.inr (90, 0))), some (.inr (.inr (11, 0))), some (.inr (.inr (12, 0))), some (.inl (nI i))] [] S' ∧ z_RL S' := by
  have a1 : nI i + (1 : Int32) = nI (i + 1) := nI_add i 1
  have a2 : nI i + (2 : Int32) = nI (i + 2) := nI_add i 2
  have a3 : nI i + (3 : Int32) = nI (i + 3) := nI_add i 3
  have a4 : nI i + (4 : Int32) = nI (i + 4) := nI_add i 4
  have a5 : nI i + (5 : Int32) = nI (i + 5) := nI_add i 5
  have o1 : z_oob (nI (i + 1)) L = false := z_oobL (by omega) (by omega)
  have o2 : z_oob (nI (i + 2)) L = false := z_oobL (by omega) (by omega)
  have o3 : z_oob (nI (i + 3)) L = false := z_oobL (by omega) (by omega)
  have o4 : z_oob (nI (i + 4)) L = false := z_oobL (by omega) (by omega)
  have o5 : z_oob (nI (i + 5)) L = false := z_oobL (by omega) (by omega)
  have c1 : (nI (i + 1)).toNatClampNeg = i + 1 := z_cl (by omega)
  have c2 : (nI (i + 2)).toNatClampNeg = i + 2 := z_cl (by omega)
  have c3 : (nI (i + 3)).toNatClampNeg = i + 3 := z_cl (by omega)
  have c4 : (nI (i + 4)).toNatClampNeg = i + 4 := z_cl (by omega)
  have c5 : (nI (i + 5)).toNatClampNeg = i + 5 := z_cl (by omega)
  obtain ⟨x, S1, S2, e1, e2, hR2⟩ := (c_change S hR).I (by decide +kernel)
  have e0 := ze_law_678 L xs (z_exe z_mt true 40) n S (nI i)
  refine ⟨S2, ?_, hR2⟩
  rw [e0, e1, z_rI_s, e2, z_rI_s, if_pos rfl]
theorem zw_logs (L : Nat) (xs : Nat → Int32) (i n : Nat) (S : z_Mem) (hL : L ≤ 3072) (hi : i + 6 ≤ L) (hR : z_RL S) : ∃ S', z_lrun (some (L, xs)) (z_exe z_mt true 40) (n + 1) 691 [some (.inr (.inr (90, 0))), some (.inr (.inr (11, 0))), some (.inr (.inr (12, 0))), some (.inl (nI i))] [] S = z_lrun (some (L, xs)) (z_exe z_mt true 40) n 1430 [some (.inr (.inr (90, 0))), some (.inr (.inr (11, 0))), some (.inr (.inr (12, 0))), some (.inl (nI i))] [] S' ∧ z_RL S' := by
  have a1 : nI i + (1 : Int32) = nI (i + 1) := nI_add i 1
  have a2 : nI i + (2 : Int32) = nI (i + 2) := nI_add i 2
  have a3 : nI i + (3 : Int32) = nI (i + 3) := nI_add i 3
  have a4 : nI i + (4 : Int32) = nI (i + 4) := nI_add i 4
  have a5 : nI i + (5 : Int32) = nI (i + 5) := nI_add i 5
  have o1 : z_oob (nI (i + 1)) L = false := z_oobL (by omega) (by omega)
  have o2 : z_oob (nI (i + 2)) L = false := z_oobL (by omega) (by omega)
  have o3 : z_oob (nI (i + 3)) L = false := z_oobL (by omega) (by omega)
  have o4 : z_oob (nI (i + 4)) L = false := z_oobL (by omega) (by omega)
  have o5 : z_oob (nI (i + 5)) L = false := z_oobL (by omega) (by omega)
  have c1 : (nI (i + 1)).toNatClampNeg = i + 1 := z_cl (by omega)
  have c2 : (nI (i + 2)).toNatClampNeg = i + 2 := z_cl (by omega)
  have c3 : (nI (i + 3)).toNatClampNeg = i + 3 := z_cl (by omega)
  have c4 : (nI (i + 4)).toNatClampNeg = i + 4 := z_cl (by omega)
  have c5 : (nI (i + 5)).toNatClampNeg = i + 5 := z_cl (by omega)
  obtain ⟨x, S1, S2, e1, e2, hR2⟩ := (c_logs S hR (xs (i + 1)) (xs (i + 2))).I (by decide +kernel)
  have e0 := ze_law_691 L xs (z_exe z_mt true 40) n S (nI i)
  simp only [a1, a2, a3, a4, a5, o1, o2, o3, o4, o5, c1, c2, c3, c4, c5, z_cnf] at e0
  refine ⟨S2, ?_, hR2⟩
  rw [e0, e1, z_rI_s, e2, z_rI_s, if_pos rfl]
theorem zw_see (L : Nat) (xs : Nat → Int32) (i n : Nat) (S : z_Mem) (hL : L ≤ 3072) (hi : i + 6 ≤ L) (hR : z_RL S) : ∃ S', z_lrun (some (L, xs)) (z_exe z_mt true 40) (n + 1) 724 [some (.inr (.inr (90, 0))), some (.inr (.inr (11, 0))), some (.inr (.inr (12, 0))), some (.inl (nI i))] [] S = z_lrun (some (L, xs)) (z_exe z_mt true 40) n 1430 [some (.inr (.inr (90, 0))), some (.inr (.inr (11, 0))), some (.inr (.inr (12, 0))), some (.inl (nI i))] [] S' ∧ z_RL S' := by
  have a1 : nI i + (1 : Int32) = nI (i + 1) := nI_add i 1
  have a2 : nI i + (2 : Int32) = nI (i + 2) := nI_add i 2
  have a3 : nI i + (3 : Int32) = nI (i + 3) := nI_add i 3
  have a4 : nI i + (4 : Int32) = nI (i + 4) := nI_add i 4
  have a5 : nI i + (5 : Int32) = nI (i + 5) := nI_add i 5
  have o1 : z_oob (nI (i + 1)) L = false := z_oobL (by omega) (by omega)
  have o2 : z_oob (nI (i + 2)) L = false := z_oobL (by omega) (by omega)
  have o3 : z_oob (nI (i + 3)) L = false := z_oobL (by omega) (by omega)
  have o4 : z_oob (nI (i + 4)) L = false := z_oobL (by omega) (by omega)
  have o5 : z_oob (nI (i + 5)) L = false := z_oobL (by omega) (by omega)
  have c1 : (nI (i + 1)).toNatClampNeg = i + 1 := z_cl (by omega)
  have c2 : (nI (i + 2)).toNatClampNeg = i + 2 := z_cl (by omega)
  have c3 : (nI (i + 3)).toNatClampNeg = i + 3 := z_cl (by omega)
  have c4 : (nI (i + 4)).toNatClampNeg = i + 4 := z_cl (by omega)
  have c5 : (nI (i + 5)).toNatClampNeg = i + 5 := z_cl (by omega)
  obtain ⟨x, S1, S2, e1, e2, hR2⟩ := (c_see S hR (xs (i + 1)) (xs (i + 2)) (xs (i + 3))).I (by decide +kernel)
  have e0 := ze_law_724 L xs (z_exe z_mt true 40) n S (nI i)
  simp only [a1, a2, a3, a4, a5, o1, o2, o3, o4, o5, c1, c2, c3, c4, c5, z_cnf] at e0
  refine ⟨S2, ?_, hR2⟩
  rw [e0, e1, z_rI_s, e2, z_rI_s, if_pos rfl]
theorem zw_wets (L : Nat) (xs : Nat → Int32) (i n : Nat) (S : z_Mem) (hL : L ≤ 3072) (hi : i + 6 ≤ L) (hR : z_RL S) : ∃ S', z_lrun (some (L, xs)) (z_exe z_mt true 40) (n + 1) 767 [some (.inr (.inr (90, 0))), some (.inr (.inr (11, 0))), some (.inr (.inr (12, 0))), some (.inl (nI i))] [] S = z_lrun (some (L, xs)) (z_exe z_mt true 40) n 1430 [some (.inr (.inr (90, 0))), some (.inr (.inr (11, 0))), some (.inr (.inr (12, 0))), some (.inl (nI i))] [] S' ∧ z_RL S' := by
  have a1 : nI i + (1 : Int32) = nI (i + 1) := nI_add i 1
  have a2 : nI i + (2 : Int32) = nI (i + 2) := nI_add i 2
  have a3 : nI i + (3 : Int32) = nI (i + 3) := nI_add i 3
  have a4 : nI i + (4 : Int32) = nI (i + 4) := nI_add i 4
  have a5 : nI i + (5 : Int32) = nI (i + 5) := nI_add i 5
  have o1 : z_oob (nI (i + 1)) L = false := z_oobL (by omega) (by omega)
  have o2 : z_oob (nI (i + 2)) L = false := z_oobL (by omega) (by omega)
  have o3 : z_oob (nI (i + 3)) L = false := z_oobL (by omega) (by omega)
  have o4 : z_oob (nI (i + 4)) L = false := z_oobL (by omega) (by omega)
  have o5 : z_oob (nI (i + 5)) L = false := z_oobL (by omega) (by omega)
  have c1 : (nI (i + 1)).toNatClampNeg = i + 1 := z_cl (by omega)
  have c2 : (nI (i + 2)).toNatClampNeg = i + 2 := z_cl (by omega)
  have c3 : (nI (i + 3)).toNatClampNeg = i + 3 := z_cl (by omega)
  have c4 : (nI (i + 4)).toNatClampNeg = i + 4 := z_cl (by omega)
  have c5 : (nI (i + 5)).toNatClampNeg = i + 5 := z_cl (by omega)
  obtain ⟨x, S1, S2, e1, e2, hR2⟩ := (c_wets S hR (xs (i + 1)) (xs (i + 2))).I (by decide +kernel)
  have e0 := ze_law_767 L xs (z_exe z_mt true 40) n S (nI i)
  simp only [a1, a2, a3, a4, a5, o1, o2, o3, o4, o5, c1, c2, c3, c4, c5, z_cnf] at e0
  refine ⟨S2, ?_, hR2⟩
  rw [e0, e1, z_rI_s, e2, z_rI_s, if_pos rfl]
theorem zw_can (L : Nat) (xs : Nat → Int32) (i n : Nat) (S : z_Mem) (hL : L ≤ 3072) (hi : i + 6 ≤ L) (hR : z_RL S) : ∃ S', z_lrun (some (L, xs)) (z_exe z_mt true 40) (n + 1) 800 [some (.inr (.inr (90, 0))), some (.inr (.inr (11, 0))), some (.inr (.inr (12, 0))), some (.inl (nI i))] [] S = z_lrun (some (L, xs)) (z_exe z_mt true 40) n 1430 [some (.inr (.inr (90, 0))), some (.inr (.inr (11, 0))), some (.inr (.inr (12, 0))), some (.inl (nI i))] [] S' ∧ z_RL S' := by
  have a1 : nI i + (1 : Int32) = nI (i + 1) := nI_add i 1
  have a2 : nI i + (2 : Int32) = nI (i + 2) := nI_add i 2
  have a3 : nI i + (3 : Int32) = nI (i + 3) := nI_add i 3
  have a4 : nI i + (4 : Int32) = nI (i + 4) := nI_add i 4
  have a5 : nI i + (5 : Int32) = nI (i + 5) := nI_add i 5
  have o1 : z_oob (nI (i + 1)) L = false := z_oobL (by omega) (by omega)
  have o2 : z_oob (nI (i + 2)) L = false := z_oobL (by omega) (by omega)
  have o3 : z_oob (nI (i + 3)) L = false := z_oobL (by omega) (by omega)
  have o4 : z_oob (nI (i + 4)) L = false := z_oobL (by omega) (by omega)
  have o5 : z_oob (nI (i + 5)) L = false := z_oobL (by omega) (by omega)
  have c1 : (nI (i + 1)).toNatClampNeg = i + 1 := z_cl (by omega)
  have c2 : (nI (i + 2)).toNatClampNeg = i + 2 := z_cl (by omega)
  have c3 : (nI (i + 3)).toNatClampNeg = i + 3 := z_cl (by omega)
  have c4 : (nI (i + 4)).toNatClampNeg = i + 4 := z_cl (by omega)
  have c5 : (nI (i + 5)).toNatClampNeg = i + 5 := z_cl (by omega)
  obtain ⟨x, S1, S2, e1, e2, hR2⟩ := (c_can S hR (xs (i + 1)) (xs (i + 2))).I (by decide +kernel)
  have e0 := ze_law_800 L xs (z_exe z_mt true 40) n S (nI i)
  simp only [a1, a2, a3, a4, a5, o1, o2, o3, o4, o5, c1, c2, c3, c4, c5, z_cnf] at e0
  refine ⟨S2, ?_, hR2⟩
  rw [e0, e1, z_rI_s, e2, z_rI_s, if_pos rfl]
theorem zw_where (L : Nat) (xs : Nat → Int32) (i n : Nat) (S : z_Mem) (hL : L ≤ 3072) (hi : i + 6 ≤ L) (hR : z_RL S) : ∃ S', z_lrun (some (L, xs)) (z_exe z_mt true 40) (n + 1) 833 [some (.inr (.inr (90, 0))), some (.inr (.inr (11, 0))), some (.inr (.inr (12, 0))), some (.inl (nI i))] [] S = z_lrun (some (L, xs)) (z_exe z_mt true 40) n 1430 [some (.inr (.inr (90, 0))), some (.inr (.inr (11, 0))), some (.inr (.inr (12, 0))), some (.inl (nI i))] [] S' ∧ z_RL S' := by
  have a1 : nI i + (1 : Int32) = nI (i + 1) := nI_add i 1
  have a2 : nI i + (2 : Int32) = nI (i + 2) := nI_add i 2
  have a3 : nI i + (3 : Int32) = nI (i + 3) := nI_add i 3
  have a4 : nI i + (4 : Int32) = nI (i + 4) := nI_add i 4
  have a5 : nI i + (5 : Int32) = nI (i + 5) := nI_add i 5
  have o1 : z_oob (nI (i + 1)) L = false := z_oobL (by omega) (by omega)
  have o2 : z_oob (nI (i + 2)) L = false := z_oobL (by omega) (by omega)
  have o3 : z_oob (nI (i + 3)) L = false := z_oobL (by omega) (by omega)
  have o4 : z_oob (nI (i + 4)) L = false := z_oobL (by omega) (by omega)
  have o5 : z_oob (nI (i + 5)) L = false := z_oobL (by omega) (by omega)
  have c1 : (nI (i + 1)).toNatClampNeg = i + 1 := z_cl (by omega)
  have c2 : (nI (i + 2)).toNatClampNeg = i + 2 := z_cl (by omega)
  have c3 : (nI (i + 3)).toNatClampNeg = i + 3 := z_cl (by omega)
  have c4 : (nI (i + 4)).toNatClampNeg = i + 4 := z_cl (by omega)
  have c5 : (nI (i + 5)).toNatClampNeg = i + 5 := z_cl (by omega)
  obtain ⟨x, S1, S2, e1, e2, hR2⟩ := (c_where S hR (xs (i + 1))).I (by decide +kernel)
  have e0 := ze_law_833 L xs (z_exe z_mt true 40) n S (nI i)
  simp only [a1, a2, a3, a4, a5, o1, o2, o3, o4, o5, c1, c2, c3, c4, c5, z_cnf] at e0
  refine ⟨S2, ?_, hR2⟩
  rw [e0, e1, z_rI_s, e2, z_rI_s, if_pos rfl]
theorem zw_odds (L : Nat) (xs : Nat → Int32) (i n : Nat) (S : z_Mem) (hL : L ≤ 3072) (hi : i + 6 ≤ L) (hR : z_RL S) : ∃ S', z_lrun (some (L, xs)) (z_exe z_mt true 40) (n + 1) 856 [some (.inr (.inr (90, 0))), some (.inr (.inr (11, 0))), some (.inr (.inr (12, 0))), some (.inl (nI i))] [] S = z_lrun (some (L, xs)) (z_exe z_mt true 40) n 1430 [some (.inr (.inr (90, 0))), some (.inr (.inr (11, 0))), some (.inr (.inr (12, 0))), some (.inl (nI i))] [] S' ∧ z_RL S' := by
  have a1 : nI i + (1 : Int32) = nI (i + 1) := nI_add i 1
  have a2 : nI i + (2 : Int32) = nI (i + 2) := nI_add i 2
  have a3 : nI i + (3 : Int32) = nI (i + 3) := nI_add i 3
  have a4 : nI i + (4 : Int32) = nI (i + 4) := nI_add i 4
  have a5 : nI i + (5 : Int32) = nI (i + 5) := nI_add i 5
  have o1 : z_oob (nI (i + 1)) L = false := z_oobL (by omega) (by omega)
  have o2 : z_oob (nI (i + 2)) L = false := z_oobL (by omega) (by omega)
  have o3 : z_oob (nI (i + 3)) L = false := z_oobL (by omega) (by omega)
  have o4 : z_oob (nI (i + 4)) L = false := z_oobL (by omega) (by omega)
  have o5 : z_oob (nI (i + 5)) L = false := z_oobL (by omega) (by omega)
  have c1 : (nI (i + 1)).toNatClampNeg = i + 1 := z_cl (by omega)
  have c2 : (nI (i + 2)).toNatClampNeg = i + 2 := z_cl (by omega)
  have c3 : (nI (i + 3)).toNatClampNeg = i + 3 := z_cl (by omega)
  have c4 : (nI (i + 4)).toNatClampNeg = i + 4 := z_cl (by omega)
  have c5 : (nI (i + 5)).toNatClampNeg = i + 5 := z_cl (by omega)
  obtain ⟨x, S1, S2, e1, e2, hR2⟩ := (c_odds S hR (xs (i + 1)) (xs (i + 2)) (xs (i + 3))).J (by decide +kernel)
  have e0 := ze_law_856 L xs (z_exe z_mt true 40) n S (nI i)
  simp only [a1, a2, a3, a4, a5, o1, o2, o3, o4, o5, c1, c2, c3, c4, c5, z_cnf] at e0
  refine ⟨S2, ?_, hR2⟩
  rw [e0, e1, z_rL_s, e2, z_rL_s, if_pos ((lg_cmp_eq x x).mpr rfl)]
theorem zw_mean (L : Nat) (xs : Nat → Int32) (i n : Nat) (S : z_Mem) (hL : L ≤ 3072) (hi : i + 6 ≤ L) (hR : z_RL S) : ∃ S', z_lrun (some (L, xs)) (z_exe z_mt true 40) (n + 1) 900 [some (.inr (.inr (90, 0))), some (.inr (.inr (11, 0))), some (.inr (.inr (12, 0))), some (.inl (nI i))] [] S = z_lrun (some (L, xs)) (z_exe z_mt true 40) n 1430 [some (.inr (.inr (90, 0))), some (.inr (.inr (11, 0))), some (.inr (.inr (12, 0))), some (.inl (nI i))] [] S' ∧ z_RL S' := by
  have a1 : nI i + (1 : Int32) = nI (i + 1) := nI_add i 1
  have a2 : nI i + (2 : Int32) = nI (i + 2) := nI_add i 2
  have a3 : nI i + (3 : Int32) = nI (i + 3) := nI_add i 3
  have a4 : nI i + (4 : Int32) = nI (i + 4) := nI_add i 4
  have a5 : nI i + (5 : Int32) = nI (i + 5) := nI_add i 5
  have o1 : z_oob (nI (i + 1)) L = false := z_oobL (by omega) (by omega)
  have o2 : z_oob (nI (i + 2)) L = false := z_oobL (by omega) (by omega)
  have o3 : z_oob (nI (i + 3)) L = false := z_oobL (by omega) (by omega)
  have o4 : z_oob (nI (i + 4)) L = false := z_oobL (by omega) (by omega)
  have o5 : z_oob (nI (i + 5)) L = false := z_oobL (by omega) (by omega)
  have c1 : (nI (i + 1)).toNatClampNeg = i + 1 := z_cl (by omega)
  have c2 : (nI (i + 2)).toNatClampNeg = i + 2 := z_cl (by omega)
  have c3 : (nI (i + 3)).toNatClampNeg = i + 3 := z_cl (by omega)
  have c4 : (nI (i + 4)).toNatClampNeg = i + 4 := z_cl (by omega)
  have c5 : (nI (i + 5)).toNatClampNeg = i + 5 := z_cl (by omega)
  obtain ⟨x, S1, S2, e1, e2, hR2⟩ := (c_mean S hR (xs (i + 1)) (xs (i + 2))).J (by decide +kernel)
  have e0 := ze_law_900 L xs (z_exe z_mt true 40) n S (nI i)
  simp only [a1, a2, a3, a4, a5, o1, o2, o3, o4, o5, c1, c2, c3, c4, c5, z_cnf] at e0
  refine ⟨S2, ?_, hR2⟩
  rw [e0, e1, z_rL_s, e2, z_rL_s, if_pos ((lg_cmp_eq x x).mpr rfl)]
theorem zw_rota (L : Nat) (xs : Nat → Int32) (i n : Nat) (S : z_Mem) (hL : L ≤ 3072) (hi : i + 6 ≤ L) (hR : z_RL S) : ∃ S', z_lrun (some (L, xs)) (z_exe z_mt true 40) (n + 1) 934 [some (.inr (.inr (90, 0))), some (.inr (.inr (11, 0))), some (.inr (.inr (12, 0))), some (.inl (nI i))] [] S = z_lrun (some (L, xs)) (z_exe z_mt true 40) n 1430 [some (.inr (.inr (90, 0))), some (.inr (.inr (11, 0))), some (.inr (.inr (12, 0))), some (.inl (nI i))] [] S' ∧ z_RL S' := by
  have a1 : nI i + (1 : Int32) = nI (i + 1) := nI_add i 1
  have a2 : nI i + (2 : Int32) = nI (i + 2) := nI_add i 2
  have a3 : nI i + (3 : Int32) = nI (i + 3) := nI_add i 3
  have a4 : nI i + (4 : Int32) = nI (i + 4) := nI_add i 4
  have a5 : nI i + (5 : Int32) = nI (i + 5) := nI_add i 5
  have o1 : z_oob (nI (i + 1)) L = false := z_oobL (by omega) (by omega)
  have o2 : z_oob (nI (i + 2)) L = false := z_oobL (by omega) (by omega)
  have o3 : z_oob (nI (i + 3)) L = false := z_oobL (by omega) (by omega)
  have o4 : z_oob (nI (i + 4)) L = false := z_oobL (by omega) (by omega)
  have o5 : z_oob (nI (i + 5)) L = false := z_oobL (by omega) (by omega)
  have c1 : (nI (i + 1)).toNatClampNeg = i + 1 := z_cl (by omega)
  have c2 : (nI (i + 2)).toNatClampNeg = i + 2 := z_cl (by omega)
  have c3 : (nI (i + 3)).toNatClampNeg = i + 3 := z_cl (by omega)
  have c4 : (nI (i + 4)).toNatClampNeg = i + 4 := z_cl (by omega)
  have c5 : (nI (i + 5)).toNatClampNeg = i + 5 := z_cl (by omega)
  obtain ⟨x, S1, S2, e1, e2, hR2⟩ := (c_rota S hR (xs (i + 1)) (xs (i + 2))).I (by decide +kernel)
  have e0 := ze_law_934 L xs (z_exe z_mt true 40) n S (nI i)
  simp only [a1, a2, a3, a4, a5, o1, o2, o3, o4, o5, c1, c2, c3, c4, c5, z_cnf] at e0
  refine ⟨S2, ?_, hR2⟩
  rw [e0, e1, z_rI_s, e2, z_rI_s, if_pos rfl]
theorem zw_ends (L : Nat) (xs : Nat → Int32) (i n : Nat) (S : z_Mem) (hL : L ≤ 3072) (hi : i + 6 ≤ L) (hR : z_RL S) : ∃ S', z_lrun (some (L, xs)) (z_exe z_mt true 40) (n + 1) 967 [some (.inr (.inr (90, 0))), some (.inr (.inr (11, 0))), some (.inr (.inr (12, 0))), some (.inl (nI i))] [] S = z_lrun (some (L, xs)) (z_exe z_mt true 40) n 1430 [some (.inr (.inr (90, 0))), some (.inr (.inr (11, 0))), some (.inr (.inr (12, 0))), some (.inl (nI i))] [] S' ∧ z_RL S' := by
  have a1 : nI i + (1 : Int32) = nI (i + 1) := nI_add i 1
  have a2 : nI i + (2 : Int32) = nI (i + 2) := nI_add i 2
  have a3 : nI i + (3 : Int32) = nI (i + 3) := nI_add i 3
  have a4 : nI i + (4 : Int32) = nI (i + 4) := nI_add i 4
  have a5 : nI i + (5 : Int32) = nI (i + 5) := nI_add i 5
  have o1 : z_oob (nI (i + 1)) L = false := z_oobL (by omega) (by omega)
  have o2 : z_oob (nI (i + 2)) L = false := z_oobL (by omega) (by omega)
  have o3 : z_oob (nI (i + 3)) L = false := z_oobL (by omega) (by omega)
  have o4 : z_oob (nI (i + 4)) L = false := z_oobL (by omega) (by omega)
  have o5 : z_oob (nI (i + 5)) L = false := z_oobL (by omega) (by omega)
  have c1 : (nI (i + 1)).toNatClampNeg = i + 1 := z_cl (by omega)
  have c2 : (nI (i + 2)).toNatClampNeg = i + 2 := z_cl (by omega)
  have c3 : (nI (i + 3)).toNatClampNeg = i + 3 := z_cl (by omega)
  have c4 : (nI (i + 4)).toNatClampNeg = i + 4 := z_cl (by omega)
  have c5 : (nI (i + 5)).toNatClampNeg = i + 5 := z_cl (by omega)
  obtain ⟨x, S1, S2, e1, e2, hR2⟩ := (c_ends S hR (xs (i + 1))).I (by decide +kernel)
  have e0 := ze_law_967 L xs (z_exe z_mt true 40) n S (nI i)
  simp only [a1, a2, a3, a4, a5, o1, o2, o3, o4, o5, c1, c2, c3, c4, c5, z_cnf] at e0
  refine ⟨S2, ?_, hR2⟩
  rw [e0, e1, z_rI_s, e2, z_rI_s, if_pos rfl]
theorem zw_book (L : Nat) (xs : Nat → Int32) (i n : Nat) (S : z_Mem) (hL : L ≤ 3072) (hi : i + 6 ≤ L) (hR : z_RL S) : ∃ S', z_lrun (some (L, xs)) (z_exe z_mt true 40) (n + 1) 990 [some (.inr (.inr (90, 0))), some (.inr (.inr (11, 0))), some (.inr (.inr (12, 0))), some (.inl (nI i))] [] S = z_lrun (some (L, xs)) (z_exe z_mt true 40) n 1430 [some (.inr (.inr (90, 0))), some (.inr (.inr (11, 0))), some (.inr (.inr (12, 0))), some (.inl (nI i))] [] S' ∧ z_RL S' := by
  have a1 : nI i + (1 : Int32) = nI (i + 1) := nI_add i 1
  have a2 : nI i + (2 : Int32) = nI (i + 2) := nI_add i 2
  have a3 : nI i + (3 : Int32) = nI (i + 3) := nI_add i 3
  have a4 : nI i + (4 : Int32) = nI (i + 4) := nI_add i 4
  have a5 : nI i + (5 : Int32) = nI (i + 5) := nI_add i 5
  have o1 : z_oob (nI (i + 1)) L = false := z_oobL (by omega) (by omega)
  have o2 : z_oob (nI (i + 2)) L = false := z_oobL (by omega) (by omega)
  have o3 : z_oob (nI (i + 3)) L = false := z_oobL (by omega) (by omega)
  have o4 : z_oob (nI (i + 4)) L = false := z_oobL (by omega) (by omega)
  have o5 : z_oob (nI (i + 5)) L = false := z_oobL (by omega) (by omega)
  have c1 : (nI (i + 1)).toNatClampNeg = i + 1 := z_cl (by omega)
  have c2 : (nI (i + 2)).toNatClampNeg = i + 2 := z_cl (by omega)
  have c3 : (nI (i + 3)).toNatClampNeg = i + 3 := z_cl (by omega)
  have c4 : (nI (i + 4)).toNatClampNeg = i + 4 := z_cl (by omega)
  have c5 : (nI (i + 5)).toNatClampNeg = i + 5 := z_cl (by omega)
  obtain ⟨x, S1, S2, e1, e2, hR2⟩ := (c_book S hR (xs (i + 1)) (xs (i + 2))).I (by decide +kernel)
  have e0 := ze_law_990 L xs (z_exe z_mt true 40) n S (nI i)
  simp only [a1, a2, a3, a4, a5, o1, o2, o3, o4, o5, c1, c2, c3, c4, c5, z_cnf] at e0
  refine ⟨S2, ?_, hR2⟩
  rw [e0, e1, z_rI_s, e2, z_rI_s, if_pos rfl]
theorem zw_looked (L : Nat) (xs : Nat → Int32) (i n : Nat) (S : z_Mem) (hL : L ≤ 3072) (hi : i + 6 ≤ L) (hR : z_RL S) : ∃ S', z_lrun (some (L, xs)) (z_exe z_mt true 40) (n + 1) 1023 [some (.inr (.inr (90, 0))), some (.inr (.inr (11, 0))), some (.inr (.inr (12, 0))), some (.inl (nI i))] [] S = z_lrun (some (L, xs)) (z_exe z_mt true 40) n 1430 [some (.inr (.inr (90, 0))), some (.inr (.inr (11, 0))), some (.inr (.inr (12, 0))), some (.inl (nI i))] [] S' ∧ z_RL S' := by
  have a1 : nI i + (1 : Int32) = nI (i + 1) := nI_add i 1
  have a2 : nI i + (2 : Int32) = nI (i + 2) := nI_add i 2
  have a3 : nI i + (3 : Int32) = nI (i + 3) := nI_add i 3
  have a4 : nI i + (4 : Int32) = nI (i + 4) := nI_add i 4
  have a5 : nI i + (5 : Int32) = nI (i + 5) := nI_add i 5
  have o1 : z_oob (nI (i + 1)) L = false := z_oobL (by omega) (by omega)
  have o2 : z_oob (nI (i + 2)) L = false := z_oobL (by omega) (by omega)
  have o3 : z_oob (nI (i + 3)) L = false := z_oobL (by omega) (by omega)
  have o4 : z_oob (nI (i + 4)) L = false := z_oobL (by omega) (by omega)
  have o5 : z_oob (nI (i + 5)) L = false := z_oobL (by omega) (by omega)
  have c1 : (nI (i + 1)).toNatClampNeg = i + 1 := z_cl (by omega)
  have c2 : (nI (i + 2)).toNatClampNeg = i + 2 := z_cl (by omega)
  have c3 : (nI (i + 3)).toNatClampNeg = i + 3 := z_cl (by omega)
  have c4 : (nI (i + 4)).toNatClampNeg = i + 4 := z_cl (by omega)
  have c5 : (nI (i + 5)).toNatClampNeg = i + 5 := z_cl (by omega)
  obtain ⟨x, S1, S2, e1, e2, hR2⟩ := (c_looked S hR).I (by decide +kernel)
  have e0 := ze_law_1023 L xs (z_exe z_mt true 40) n S (nI i)
  refine ⟨S2, ?_, hR2⟩
  rw [e0, e1, z_rI_s, e2, z_rI_s, if_pos rfl]
theorem zw_judge (L : Nat) (xs : Nat → Int32) (i n : Nat) (S : z_Mem) (hL : L ≤ 3072) (hi : i + 6 ≤ L) (hR : z_RL S) : ∃ S', z_lrun (some (L, xs)) (z_exe z_mt true 40) (n + 1) 1036 [some (.inr (.inr (90, 0))), some (.inr (.inr (11, 0))), some (.inr (.inr (12, 0))), some (.inl (nI i))] [] S = z_lrun (some (L, xs)) (z_exe z_mt true 40) n 1430 [some (.inr (.inr (90, 0))), some (.inr (.inr (11, 0))), some (.inr (.inr (12, 0))), some (.inl (nI i))] [] S' ∧ z_RL S' := by
  have a1 : nI i + (1 : Int32) = nI (i + 1) := nI_add i 1
  have a2 : nI i + (2 : Int32) = nI (i + 2) := nI_add i 2
  have a3 : nI i + (3 : Int32) = nI (i + 3) := nI_add i 3
  have a4 : nI i + (4 : Int32) = nI (i + 4) := nI_add i 4
  have a5 : nI i + (5 : Int32) = nI (i + 5) := nI_add i 5
  have o1 : z_oob (nI (i + 1)) L = false := z_oobL (by omega) (by omega)
  have o2 : z_oob (nI (i + 2)) L = false := z_oobL (by omega) (by omega)
  have o3 : z_oob (nI (i + 3)) L = false := z_oobL (by omega) (by omega)
  have o4 : z_oob (nI (i + 4)) L = false := z_oobL (by omega) (by omega)
  have o5 : z_oob (nI (i + 5)) L = false := z_oobL (by omega) (by omega)
  have c1 : (nI (i + 1)).toNatClampNeg = i + 1 := z_cl (by omega)
  have c2 : (nI (i + 2)).toNatClampNeg = i + 2 := z_cl (by omega)
  have c3 : (nI (i + 3)).toNatClampNeg = i + 3 := z_cl (by omega)
  have c4 : (nI (i + 4)).toNatClampNeg = i + 4 := z_cl (by omega)
  have c5 : (nI (i + 5)).toNatClampNeg = i + 5 := z_cl (by omega)
  obtain ⟨x, S1, S2, e1, e2, hR2⟩ := (c_judge S hR (xs (i + 1)) (xs (i + 2))).I (by decide +kernel)
  have e0 := ze_law_1036 L xs (z_exe z_mt true 40) n S (nI i)
  simp only [a1, a2, a3, a4, a5, o1, o2, o3, o4, o5, c1, c2, c3, c4, c5, z_cnf] at e0
  refine ⟨S2, ?_, hR2⟩
  rw [e0, e1, z_rI_s, e2, z_rI_s, if_pos rfl]
theorem zw_image (L : Nat) (xs : Nat → Int32) (i n : Nat) (S : z_Mem) (hL : L ≤ 3072) (hi : i + 6 ≤ L) (hR : z_RL S) : ∃ S', z_lrun (some (L, xs)) (z_exe z_mt true 40) (n + 1) 1069 [some (.inr (.inr (90, 0))), some (.inr (.inr (11, 0))), some (.inr (.inr (12, 0))), some (.inl (nI i))] [] S = z_lrun (some (L, xs)) (z_exe z_mt true 40) n 1430 [some (.inr (.inr (90, 0))), some (.inr (.inr (11, 0))), some (.inr (.inr (12, 0))), some (.inl (nI i))] [] S' ∧ z_RL S' := by
  have a1 : nI i + (1 : Int32) = nI (i + 1) := nI_add i 1
  have a2 : nI i + (2 : Int32) = nI (i + 2) := nI_add i 2
  have a3 : nI i + (3 : Int32) = nI (i + 3) := nI_add i 3
  have a4 : nI i + (4 : Int32) = nI (i + 4) := nI_add i 4
  have a5 : nI i + (5 : Int32) = nI (i + 5) := nI_add i 5
  have o1 : z_oob (nI (i + 1)) L = false := z_oobL (by omega) (by omega)
  have o2 : z_oob (nI (i + 2)) L = false := z_oobL (by omega) (by omega)
  have o3 : z_oob (nI (i + 3)) L = false := z_oobL (by omega) (by omega)
  have o4 : z_oob (nI (i + 4)) L = false := z_oobL (by omega) (by omega)
  have o5 : z_oob (nI (i + 5)) L = false := z_oobL (by omega) (by omega)
  have c1 : (nI (i + 1)).toNatClampNeg = i + 1 := z_cl (by omega)
  have c2 : (nI (i + 2)).toNatClampNeg = i + 2 := z_cl (by omega)
  have c3 : (nI (i + 3)).toNatClampNeg = i + 3 := z_cl (by omega)
  have c4 : (nI (i + 4)).toNatClampNeg = i + 4 := z_cl (by omega)
  have c5 : (nI (i + 5)).toNatClampNeg = i + 5 := z_cl (by omega)
  obtain ⟨x, S1, S2, e1, e2, hR2⟩ := (c_image S hR).I (by decide +kernel)
  have e0 := ze_law_1069 L xs (z_exe z_mt true 40) n S (nI i)
  refine ⟨S2, ?_, hR2⟩
  rw [e0, e1, z_rI_s, e2, z_rI_s, if_pos rfl]
theorem zw_undo (L : Nat) (xs : Nat → Int32) (i n : Nat) (S : z_Mem) (hL : L ≤ 3072) (hi : i + 6 ≤ L) (hR : z_RL S) : ∃ S', z_lrun (some (L, xs)) (z_exe z_mt true 40) (n + 1) 1082 [some (.inr (.inr (90, 0))), some (.inr (.inr (11, 0))), some (.inr (.inr (12, 0))), some (.inl (nI i))] [] S = z_lrun (some (L, xs)) (z_exe z_mt true 40) n 1430 [some (.inr (.inr (90, 0))), some (.inr (.inr (11, 0))), some (.inr (.inr (12, 0))), some (.inl (nI i))] [] S' ∧ z_RL S' := by
  have a1 : nI i + (1 : Int32) = nI (i + 1) := nI_add i 1
  have a2 : nI i + (2 : Int32) = nI (i + 2) := nI_add i 2
  have a3 : nI i + (3 : Int32) = nI (i + 3) := nI_add i 3
  have a4 : nI i + (4 : Int32) = nI (i + 4) := nI_add i 4
  have a5 : nI i + (5 : Int32) = nI (i + 5) := nI_add i 5
  have o1 : z_oob (nI (i + 1)) L = false := z_oobL (by omega) (by omega)
  have o2 : z_oob (nI (i + 2)) L = false := z_oobL (by omega) (by omega)
  have o3 : z_oob (nI (i + 3)) L = false := z_oobL (by omega) (by omega)
  have o4 : z_oob (nI (i + 4)) L = false := z_oobL (by omega) (by omega)
  have o5 : z_oob (nI (i + 5)) L = false := z_oobL (by omega) (by omega)
  have c1 : (nI (i + 1)).toNatClampNeg = i + 1 := z_cl (by omega)
  have c2 : (nI (i + 2)).toNatClampNeg = i + 2 := z_cl (by omega)
  have c3 : (nI (i + 3)).toNatClampNeg = i + 3 := z_cl (by omega)
  have c4 : (nI (i + 4)).toNatClampNeg = i + 4 := z_cl (by omega)
  have c5 : (nI (i + 5)).toNatClampNeg = i + 5 := z_cl (by omega)
  obtain ⟨x, S1, S2, e1, e2, hR2⟩ := (c_undo S hR).I (by decide +kernel)
  have e0 := ze_law_1082 L xs (z_exe z_mt true 40) n S (nI i)
  refine ⟨S2, ?_, hR2⟩
  rw [e0, e1, z_rI_s, e2, z_rI_s, if_pos rfl]
theorem zw_act (L : Nat) (xs : Nat → Int32) (i n : Nat) (S : z_Mem) (hL : L ≤ 3072) (hi : i + 6 ≤ L) (hR : z_RL S) : ∃ S', z_lrun (some (L, xs)) (z_exe z_mt true 40) (n + 1) 1095 [some (.inr (.inr (90, 0))), some (.inr (.inr (11, 0))), some (.inr (.inr (12, 0))), some (.inl (nI i))] [] S = z_lrun (some (L, xs)) (z_exe z_mt true 40) n 1430 [some (.inr (.inr (90, 0))), some (.inr (.inr (11, 0))), some (.inr (.inr (12, 0))), some (.inl (nI i))] [] S' ∧ z_RL S' := by
  have a1 : nI i + (1 : Int32) = nI (i + 1) := nI_add i 1
  have a2 : nI i + (2 : Int32) = nI (i + 2) := nI_add i 2
  have a3 : nI i + (3 : Int32) = nI (i + 3) := nI_add i 3
  have a4 : nI i + (4 : Int32) = nI (i + 4) := nI_add i 4
  have a5 : nI i + (5 : Int32) = nI (i + 5) := nI_add i 5
  have o1 : z_oob (nI (i + 1)) L = false := z_oobL (by omega) (by omega)
  have o2 : z_oob (nI (i + 2)) L = false := z_oobL (by omega) (by omega)
  have o3 : z_oob (nI (i + 3)) L = false := z_oobL (by omega) (by omega)
  have o4 : z_oob (nI (i + 4)) L = false := z_oobL (by omega) (by omega)
  have o5 : z_oob (nI (i + 5)) L = false := z_oobL (by omega) (by omega)
  have c1 : (nI (i + 1)).toNatClampNeg = i + 1 := z_cl (by omega)
  have c2 : (nI (i + 2)).toNatClampNeg = i + 2 := z_cl (by omega)
  have c3 : (nI (i + 3)).toNatClampNeg = i + 3 := z_cl (by omega)
  have c4 : (nI (i + 4)).toNatClampNeg = i + 4 := z_cl (by omega)
  have c5 : (nI (i + 5)).toNatClampNeg = i + 5 := z_cl (by omega)
  obtain ⟨x, S1, S2, e1, e2, hR2⟩ := (c_act S hR (xs (i + 1)) (xs (i + 2)) (xs (i + 3))).I (by decide +kernel)
  have e0 := ze_law_1095 L xs (z_exe z_mt true 40) n S (nI i)
  simp only [a1, a2, a3, a4, a5, o1, o2, o3, o4, o5, c1, c2, c3, c4, c5, z_cnf] at e0
  refine ⟨S2, ?_, hR2⟩
  rw [e0, e1, z_rI_s, e2, z_rI_s, if_pos rfl]
theorem zw_trace (L : Nat) (xs : Nat → Int32) (i n : Nat) (S : z_Mem) (hL : L ≤ 3072) (hi : i + 6 ≤ L) (hR : z_RL S) : ∃ S', z_lrun (some (L, xs)) (z_exe z_mt true 40) (n + 1) 1138 [some (.inr (.inr (90, 0))), some (.inr (.inr (11, 0))), some (.inr (.inr (12, 0))), some (.inl (nI i))] [] S = z_lrun (some (L, xs)) (z_exe z_mt true 40) n 1430 [some (.inr (.inr (90, 0))), some (.inr (.inr (11, 0))), some (.inr (.inr (12, 0))), some (.inl (nI i))] [] S' ∧ z_RL S' := by
  have a1 : nI i + (1 : Int32) = nI (i + 1) := nI_add i 1
  have a2 : nI i + (2 : Int32) = nI (i + 2) := nI_add i 2
  have a3 : nI i + (3 : Int32) = nI (i + 3) := nI_add i 3
  have a4 : nI i + (4 : Int32) = nI (i + 4) := nI_add i 4
  have a5 : nI i + (5 : Int32) = nI (i + 5) := nI_add i 5
  have o1 : z_oob (nI (i + 1)) L = false := z_oobL (by omega) (by omega)
  have o2 : z_oob (nI (i + 2)) L = false := z_oobL (by omega) (by omega)
  have o3 : z_oob (nI (i + 3)) L = false := z_oobL (by omega) (by omega)
  have o4 : z_oob (nI (i + 4)) L = false := z_oobL (by omega) (by omega)
  have o5 : z_oob (nI (i + 5)) L = false := z_oobL (by omega) (by omega)
  have c1 : (nI (i + 1)).toNatClampNeg = i + 1 := z_cl (by omega)
  have c2 : (nI (i + 2)).toNatClampNeg = i + 2 := z_cl (by omega)
  have c3 : (nI (i + 3)).toNatClampNeg = i + 3 := z_cl (by omega)
  have c4 : (nI (i + 4)).toNatClampNeg = i + 4 := z_cl (by omega)
  have c5 : (nI (i + 5)).toNatClampNeg = i + 5 := z_cl (by omega)
  obtain ⟨x, S1, S2, e1, e2, hR2⟩ := (c_trace S hR (xs (i + 1))).I (by decide +kernel)
  have e0 := ze_law_1138 L xs (z_exe z_mt true 40) n S (nI i)
  simp only [a1, a2, a3, a4, a5, o1, o2, o3, o4, o5, c1, c2, c3, c4, c5, z_cnf] at e0
  refine ⟨S2, ?_, hR2⟩
  rw [e0, e1, z_rI_s, e2, z_rI_s, if_pos rfl]
theorem zw_taken (L : Nat) (xs : Nat → Int32) (i n : Nat) (S : z_Mem) (hL : L ≤ 3072) (hi : i + 6 ≤ L) (hR : z_RL S) : ∃ S', z_lrun (some (L, xs)) (z_exe z_mt true 40) (n + 1) 1161 [some (.inr (.inr (90, 0))), some (.inr (.inr (11, 0))), some (.inr (.inr (12, 0))), some (.inl (nI i))] [] S = z_lrun (some (L, xs)) (z_exe z_mt true 40) n 1430 [some (.inr (.inr (90, 0))), some (.inr (.inr (11, 0))), some (.inr (.inr (12, 0))), some (.inl (nI i))] [] S' ∧ z_RL S' := by
  have a1 : nI i + (1 : Int32) = nI (i + 1) := nI_add i 1
  have a2 : nI i + (2 : Int32) = nI (i + 2) := nI_add i 2
  have a3 : nI i + (3 : Int32) = nI (i + 3) := nI_add i 3
  have a4 : nI i + (4 : Int32) = nI (i + 4) := nI_add i 4
  have a5 : nI i + (5 : Int32) = nI (i + 5) := nI_add i 5
  have o1 : z_oob (nI (i + 1)) L = false := z_oobL (by omega) (by omega)
  have o2 : z_oob (nI (i + 2)) L = false := z_oobL (by omega) (by omega)
  have o3 : z_oob (nI (i + 3)) L = false := z_oobL (by omega) (by omega)
  have o4 : z_oob (nI (i + 4)) L = false := z_oobL (by omega) (by omega)
  have o5 : z_oob (nI (i + 5)) L = false := z_oobL (by omega) (by omega)
  have c1 : (nI (i + 1)).toNatClampNeg = i + 1 := z_cl (by omega)
  have c2 : (nI (i + 2)).toNatClampNeg = i + 2 := z_cl (by omega)
  have c3 : (nI (i + 3)).toNatClampNeg = i + 3 := z_cl (by omega)
  have c4 : (nI (i + 4)).toNatClampNeg = i + 4 := z_cl (by omega)
  have c5 : (nI (i + 5)).toNatClampNeg = i + 5 := z_cl (by omega)
  obtain ⟨x, S1, S2, e1, e2, hR2⟩ := (c_taken S hR (xs (i + 1)) (xs (i + 2))).I (by decide +kernel)
  have e0 := ze_law_1161 L xs (z_exe z_mt true 40) n S (nI i)
  simp only [a1, a2, a3, a4, a5, o1, o2, o3, o4, o5, c1, c2, c3, c4, c5, z_cnf] at e0
  refine ⟨S2, ?_, hR2⟩
  rw [e0, e1, z_rI_s, e2, z_rI_s, if_pos rfl]
theorem zw_count (L : Nat) (xs : Nat → Int32) (i n : Nat) (S : z_Mem) (hL : L ≤ 3072) (hi : i + 6 ≤ L) (hR : z_RL S) : ∃ S', z_lrun (some (L, xs)) (z_exe z_mt true 40) (n + 1) 1194 [some (.inr (.inr (90, 0))), some (.inr (.inr (11, 0))), some (.inr (.inr (12, 0))), some (.inl (nI i))] [] S = z_lrun (some (L, xs)) (z_exe z_mt true 40) n 1430 [some (.inr (.inr (90, 0))), some (.inr (.inr (11, 0))), some (.inr (.inr (12, 0))), some (.inl (nI i))] [] S' ∧ z_RL S' := by
  have a1 : nI i + (1 : Int32) = nI (i + 1) := nI_add i 1
  have a2 : nI i + (2 : Int32) = nI (i + 2) := nI_add i 2
  have a3 : nI i + (3 : Int32) = nI (i + 3) := nI_add i 3
  have a4 : nI i + (4 : Int32) = nI (i + 4) := nI_add i 4
  have a5 : nI i + (5 : Int32) = nI (i + 5) := nI_add i 5
  have o1 : z_oob (nI (i + 1)) L = false := z_oobL (by omega) (by omega)
  have o2 : z_oob (nI (i + 2)) L = false := z_oobL (by omega) (by omega)
  have o3 : z_oob (nI (i + 3)) L = false := z_oobL (by omega) (by omega)
  have o4 : z_oob (nI (i + 4)) L = false := z_oobL (by omega) (by omega)
  have o5 : z_oob (nI (i + 5)) L = false := z_oobL (by omega) (by omega)
  have c1 : (nI (i + 1)).toNatClampNeg = i + 1 := z_cl (by omega)
  have c2 : (nI (i + 2)).toNatClampNeg = i + 2 := z_cl (by omega)
  have c3 : (nI (i + 3)).toNatClampNeg = i + 3 := z_cl (by omega)
  have c4 : (nI (i + 4)).toNatClampNeg = i + 4 := z_cl (by omega)
  have c5 : (nI (i + 5)).toNatClampNeg = i + 5 := z_cl (by omega)
  obtain ⟨x, S1, S2, e1, e2, hR2⟩ := (c_count S hR (xs (i + 1))).I (by decide +kernel)
  have e0 := ze_law_1194 L xs (z_exe z_mt true 40) n S (nI i)
  simp only [a1, a2, a3, a4, a5, o1, o2, o3, o4, o5, c1, c2, c3, c4, c5, z_cnf] at e0
  refine ⟨S2, ?_, hR2⟩
  rw [e0, e1, z_rI_s, e2, z_rI_s, if_pos rfl]
theorem zw_tape (L : Nat) (xs : Nat → Int32) (i n : Nat) (S : z_Mem) (hL : L ≤ 3072) (hi : i + 6 ≤ L) (hR : z_RL S) : ∃ S', z_lrun (some (L, xs)) (z_exe z_mt true 40) (n + 1) 1217 [some (.inr (.inr (90, 0))), some (.inr (.inr (11, 0))), some (.inr (.inr (12, 0))), some (.inl (nI i))] [] S = z_lrun (some (L, xs)) (z_exe z_mt true 40) n 1430 [some (.inr (.inr (90, 0))), some (.inr (.inr (11, 0))), some (.inr (.inr (12, 0))), some (.inl (nI i))] [] S' ∧ z_RL S' := by
  have a1 : nI i + (1 : Int32) = nI (i + 1) := nI_add i 1
  have a2 : nI i + (2 : Int32) = nI (i + 2) := nI_add i 2
  have a3 : nI i + (3 : Int32) = nI (i + 3) := nI_add i 3
  have a4 : nI i + (4 : Int32) = nI (i + 4) := nI_add i 4
  have a5 : nI i + (5 : Int32) = nI (i + 5) := nI_add i 5
  have o1 : z_oob (nI (i + 1)) L = false := z_oobL (by omega) (by omega)
  have o2 : z_oob (nI (i + 2)) L = false := z_oobL (by omega) (by omega)
  have o3 : z_oob (nI (i + 3)) L = false := z_oobL (by omega) (by omega)
  have o4 : z_oob (nI (i + 4)) L = false := z_oobL (by omega) (by omega)
  have o5 : z_oob (nI (i + 5)) L = false := z_oobL (by omega) (by omega)
  have c1 : (nI (i + 1)).toNatClampNeg = i + 1 := z_cl (by omega)
  have c2 : (nI (i + 2)).toNatClampNeg = i + 2 := z_cl (by omega)
  have c3 : (nI (i + 3)).toNatClampNeg = i + 3 := z_cl (by omega)
  have c4 : (nI (i + 4)).toNatClampNeg = i + 4 := z_cl (by omega)
  have c5 : (nI (i + 5)).toNatClampNeg = i + 5 := z_cl (by omega)
  obtain ⟨x, S1, S2, e1, e2, hR2⟩ := (c_tape S hR (xs (i + 1)) (xs (i + 2)) (xs (i + 3))).I (by decide +kernel)
  have e0 := ze_law_1217 L xs (z_exe z_mt true 40) n S (nI i)
  simp only [a1, a2, a3, a4, a5, o1, o2, o3, o4, o5, c1, c2, c3, c4, c5, z_cnf] at e0
  refine ⟨S2, ?_, hR2⟩
  rw [e0, e1, z_rI_s, e2, z_rI_s, if_pos rfl]
theorem zw_item (L : Nat) (xs : Nat → Int32) (i n : Nat) (S : z_Mem) (hL : L ≤ 3072) (hi : i + 6 ≤ L) (hR : z_RL S) : ∃ S', z_lrun (some (L, xs)) (z_exe z_mt true 40) (n + 1) 1260 [some (.inr (.inr (90, 0))), some (.inr (.inr (11, 0))), some (.inr (.inr (12, 0))), some (.inl (nI i))] [] S = z_lrun (some (L, xs)) (z_exe z_mt true 40) n 1430 [some (.inr (.inr (90, 0))), some (.inr (.inr (11, 0))), some (.inr (.inr (12, 0))), some (.inl (nI i))] [] S' ∧ z_RL S' := by
  have a1 : nI i + (1 : Int32) = nI (i + 1) := nI_add i 1
  have a2 : nI i + (2 : Int32) = nI (i + 2) := nI_add i 2
  have a3 : nI i + (3 : Int32) = nI (i + 3) := nI_add i 3
  have a4 : nI i + (4 : Int32) = nI (i + 4) := nI_add i 4
  have a5 : nI i + (5 : Int32) = nI (i + 5) := nI_add i 5
  have o1 : z_oob (nI (i + 1)) L = false := z_oobL (by omega) (by omega)
  have o2 : z_oob (nI (i + 2)) L = false := z_oobL (by omega) (by omega)
  have o3 : z_oob (nI (i + 3)) L = false := z_oobL (by omega) (by omega)
  have o4 : z_oob (nI (i + 4)) L = false := z_oobL (by omega) (by omega)
  have o5 : z_oob (nI (i + 5)) L = false := z_oobL (by omega) (by omega)
  have c1 : (nI (i + 1)).toNatClampNeg = i + 1 := z_cl (by omega)
  have c2 : (nI (i + 2)).toNatClampNeg = i + 2 := z_cl (by omega)
  have c3 : (nI (i + 3)).toNatClampNeg = i + 3 := z_cl (by omega)
  have c4 : (nI (i + 4)).toNatClampNeg = i + 4 := z_cl (by omega)
  have c5 : (nI (i + 5)).toNatClampNeg = i + 5 := z_cl (by omega)
  obtain ⟨x, S1, S2, e1, e2, hR2⟩ := (c_item S hR (xs (i + 1)) (xs (i + 2)) (((Int32.toInt64 (xs (i + 3))) <<< ((32 : Int32).toInt64 &&& 63)) ||| ((Int32.toInt64 (xs (i + 4))) &&& (Int64.ofNat 4294967295)))).I (by decide +kernel)
  have e0 := ze_law_1260 L xs (z_exe z_mt true 40) n S (nI i)
  simp only [a1, a2, a3, a4, a5, o1, o2, o3, o4, o5, c1, c2, c3, c4, c5, z_cnf] at e0
  refine ⟨S2, ?_, hR2⟩
  rw [e0, e1, z_rI_s, e2, z_rI_s, if_pos rfl]
theorem zw_read (L : Nat) (xs : Nat → Int32) (i n : Nat) (S : z_Mem) (hL : L ≤ 3072) (hi : i + 6 ≤ L) (hR : z_RL S) : ∃ S', z_lrun (some (L, xs)) (z_exe z_mt true 40) (n + 1) 1333 [some (.inr (.inr (90, 0))), some (.inr (.inr (11, 0))), some (.inr (.inr (12, 0))), some (.inl (nI i))] [] S = z_lrun (some (L, xs)) (z_exe z_mt true 40) n 1430 [some (.inr (.inr (90, 0))), some (.inr (.inr (11, 0))), some (.inr (.inr (12, 0))), some (.inl (nI i))] [] S' ∧ z_RL S' := by
  have a1 : nI i + (1 : Int32) = nI (i + 1) := nI_add i 1
  have a2 : nI i + (2 : Int32) = nI (i + 2) := nI_add i 2
  have a3 : nI i + (3 : Int32) = nI (i + 3) := nI_add i 3
  have a4 : nI i + (4 : Int32) = nI (i + 4) := nI_add i 4
  have a5 : nI i + (5 : Int32) = nI (i + 5) := nI_add i 5
  have o1 : z_oob (nI (i + 1)) L = false := z_oobL (by omega) (by omega)
  have o2 : z_oob (nI (i + 2)) L = false := z_oobL (by omega) (by omega)
  have o3 : z_oob (nI (i + 3)) L = false := z_oobL (by omega) (by omega)
  have o4 : z_oob (nI (i + 4)) L = false := z_oobL (by omega) (by omega)
  have o5 : z_oob (nI (i + 5)) L = false := z_oobL (by omega) (by omega)
  have c1 : (nI (i + 1)).toNatClampNeg = i + 1 := z_cl (by omega)
  have c2 : (nI (i + 2)).toNatClampNeg = i + 2 := z_cl (by omega)
  have c3 : (nI (i + 3)).toNatClampNeg = i + 3 := z_cl (by omega)
  have c4 : (nI (i + 4)).toNatClampNeg = i + 4 := z_cl (by omega)
  have c5 : (nI (i + 5)).toNatClampNeg = i + 5 := z_cl (by omega)
  obtain ⟨x, S1, S2, e1, e2, hR2⟩ := (c_read S hR (xs (i + 1)) (xs (i + 2))).J (by decide +kernel)
  have e0 := ze_law_1333 L xs (z_exe z_mt true 40) n S (nI i)
  simp only [a1, a2, a3, a4, a5, o1, o2, o3, o4, o5, c1, c2, c3, c4, c5, z_cnf] at e0
  refine ⟨S2, ?_, hR2⟩
  rw [e0, e1, z_rL_s, e2, z_rL_s, if_pos ((lg_cmp_eq x x).mpr rfl)]
theorem zw_shift (L : Nat) (xs : Nat → Int32) (i n : Nat) (S : z_Mem) (hL : L ≤ 3072) (hi : i + 6 ≤ L) (hR : z_RL S) : ∃ S', z_lrun (some (L, xs)) (z_exe z_mt true 40) (n + 1) 1367 [some (.inr (.inr (90, 0))), some (.inr (.inr (11, 0))), some (.inr (.inr (12, 0))), some (.inl (nI i))] [] S = z_lrun (some (L, xs)) (z_exe z_mt true 40) n 1430 [some (.inr (.inr (90, 0))), some (.inr (.inr (11, 0))), some (.inr (.inr (12, 0))), some (.inl (nI i))] [] S' ∧ z_RL S' := by
  have a1 : nI i + (1 : Int32) = nI (i + 1) := nI_add i 1
  have a2 : nI i + (2 : Int32) = nI (i + 2) := nI_add i 2
  have a3 : nI i + (3 : Int32) = nI (i + 3) := nI_add i 3
  have a4 : nI i + (4 : Int32) = nI (i + 4) := nI_add i 4
  have a5 : nI i + (5 : Int32) = nI (i + 5) := nI_add i 5
  have o1 : z_oob (nI (i + 1)) L = false := z_oobL (by omega) (by omega)
  have o2 : z_oob (nI (i + 2)) L = false := z_oobL (by omega) (by omega)
  have o3 : z_oob (nI (i + 3)) L = false := z_oobL (by omega) (by omega)
  have o4 : z_oob (nI (i + 4)) L = false := z_oobL (by omega) (by omega)
  have o5 : z_oob (nI (i + 5)) L = false := z_oobL (by omega) (by omega)
  have c1 : (nI (i + 1)).toNatClampNeg = i + 1 := z_cl (by omega)
  have c2 : (nI (i + 2)).toNatClampNeg = i + 2 := z_cl (by omega)
  have c3 : (nI (i + 3)).toNatClampNeg = i + 3 := z_cl (by omega)
  have c4 : (nI (i + 4)).toNatClampNeg = i + 4 := z_cl (by omega)
  have c5 : (nI (i + 5)).toNatClampNeg = i + 5 := z_cl (by omega)
  obtain ⟨x, S1, S2, e1, e2, hR2⟩ := (c_shift S hR (xs (i + 1)) (xs (i + 2)) (xs (i + 3)) (xs (i + 4)) (xs (i + 5))).I (by decide +kernel)
  have e0 := ze_law_1367 L xs (z_exe z_mt true 40) n S (nI i)
  simp only [a1, a2, a3, a4, a5, o1, o2, o3, o4, o5, c1, c2, c3, c4, c5, z_cnf] at e0
  refine ⟨S2, ?_, hR2⟩
  rw [e0, e1, z_rI_s, e2, z_rI_s, if_pos rfl]
