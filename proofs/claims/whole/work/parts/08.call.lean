/-! ===== calls ===== -/
theorem z_cat_sum (α : Nat × Nat → Nat) (r : List z_AV) : ((r.map (z_cV α)).map fun v => v.category).sum = z_cat r := by
  induction r with
  | nil => rfl
  | cons v r ih =>
    rw [List.map_cons, List.map_cons, List.sum_cons, ih]
    rcases v with x | x | q
    · show 1 + z_cat r = z_cat r + 1
      omega
    · show 2 + z_cat r = z_cat r + 2
      omega
    · show (z_cR α q).category + z_cat r = z_cat r + 1
      have e : (z_cR α q).category = 1 := by unfold z_cR; split <;> rfl
      omega
theorem z_rng_of {sp n : Int32} {N : Nat} (h : z_rng sp n N = true) : ¬ sp < 0 ∧ ¬ n < 0 ∧ sp.toNatClampNeg + n.toNatClampNeg ≤ N := by
  unfold z_rng at h
  rw [Bool.and_eq_true, Bool.and_eq_true] at h
  refine ⟨?_, ?_, Nat.le_of_ble_eq_true h.2.2⟩
  · simpa using h.1
  · simpa using h.2.1
section ZCA
variable {p : Program} {l : Launch} {e : Env} {R : Room} {s : State} {m : MethodId} {args : Array Value} {below : List Frame} {meth : Method} {c : Code} {Q : State → Prop}
variable {D : va_G} {A : Nat → Prop} {md : Bool} {sc : z_Sc} {α0 : Nat × Nat → Nat} {n0 n1 nL o : Nat} {ini : Bool} {cc : ByteArray}
variable {pc pc' : Nat} {la la' : z_Lc} {sa sa' : List z_AV} {S S' : z_Mem}
/-- memory stays, with the room known -/
theorem z_op3 (C0 : z_Ct p R s m args meth c cc nL o ini n0 n1) (g : z_gw p l e R s m args below meth c Q D A md sc α0 n0 n1 nL pc' la sa' S) (hv : z_vok S.2.2.2 la sa → z_vok S.2.2.2 la sa')
    (row : ∀ (α : Nat × Nat → Nat) (cA : Nat × Nat → ClassId) (ls : Array Slot) (H : Heap) (locs : List Loc) (cells slots : Nat), z_Rel s D A md sc α0 n0 α cA S H locs → z_LV α la ls nL → z_vok S.2.2.2 la sa → cells ≤ R.cells → slots ≤ R.slots →
      W p l e R s m args below meth c H locs cells slots Q (F0 m pc' ls (sa'.map (z_cV α))) → W p l e R s m args below meth c H locs cells slots Q (F0 m pc ls (sa.map (z_cV α)))) : z_gw p l e R s m args below meth c Q D A md sc α0 n0 n1 nL pc la sa S := by
  refine ⟨g.1, fun α cA ls H locs hR hl hk => row α cA ls H locs _ _ hR hl hk ?_ ?_ (g.2 α cA ls H locs hR hl (hv hk))⟩
  · exact Nat.le_trans (Nat.sub_le_sub_right g.1 n0) C0.2.2.2.2.2.2.2.1.1
  · exact Nat.le_trans (Nat.sub_le_sub_right (z_sz_le g.1) _) C0.2.2.2.2.2.2.2.1.2
theorem z_bi_ok {ρ : Type} {κ : Nat → z_Lc → List z_AV → z_Mem → Option ρ} {res : ρ} {i a : Nat} {ins : Instr} (C0 : z_Ct p R s m args meth c cc nL o ini n0 n1) (hd : decode cc pc = .ok (ins, 3)) (hins : (a = 1000 ∧ ins = .invokespecial i) ∨ (1000 < a ∧ ins = .invokestatic i)) (hbl : (o, i, a) ∈ z_bl)
    (h : z_bi a pc la sa S κ = some res) (hκ : ∀ pc' la' sa' S', κ pc' la' sa' S' = some res → z_gw p l e R s m args below meth c Q D A md sc α0 n0 n1 nL pc' la' sa' S') : z_gw p l e R s m args below meth c Q D A md sc α0 n0 n1 nL pc la sa S := by
  obtain ⟨hx, hb, hml, hown, hts, hnw, hini, ⟨hRc, hRs⟩, hRf, hRl⟩ := id C0
  have hlk := hts _ (z_wt (z_bl_in _ hbl))
  unfold z_blw at hlk
  dsimp only at hlk
  unfold z_bi at h
  split at h
  · obtain rfl : ins = .invokespecial i := by
      rcases hins with ⟨-, h⟩ | ⟨h, -⟩
      · exact h
      · exact absurd h (by decide)
    split at h
    · rename_i q r
      obtain ⟨hq, h⟩ := z_hf h
      rw [Bool.or_eq_false_iff] at hq
      refine z_op3 C0 (hκ _ _ _ _ h) (fun hv => z_vp hv) (fun α cA ls H locs cells slots hR hl hv hc hs k => ?_)
      have hq0 : q.1 ≠ 0 := fun e => by rw [e] at hq; exact absurd hq.1 (by decide)
      have h8 : z_cat r ≤ 8 := Nat.le_of_not_lt (fun h9 => by rw [Nat.ble_eq_true_of_le h9] at hq; exact absurd hq.2 (by decide))
      refine W.objInit hx hb hown hlk (hts _ (z_wt z_bw_0)) (hts _ (z_wt z_bw_1)) rfl (by show ls.size = _; rw [hl.2.1, hml]) (a := α q) (rest := r.map (z_cV α)) (by show z_cR α q :: _ = _; rw [z_cR_ref hq0]) hd hRf ?_ k
      show 0 + _ + 12 ≤ _
      rw [z_cat_sum]
      omega
    · cases h
  · obtain rfl : ins = .invokestatic i := by
      rcases hins with ⟨h, -⟩ | ⟨-, h⟩
      · exact absurd h (by decide)
      · exact h
    split at h
    · rename_i y w r
      obtain ⟨hq, h⟩ := z_hf h
      have h8 : z_cat r ≤ 8 := Nat.le_of_not_lt (fun h9 => by rw [Nat.ble_eq_true_of_le h9] at hq; exact absurd hq (by decide))
      exact z_op3 C0 (hκ _ _ _ _ h) (fun hv => z_vc trivial (z_vp2 hv)) (fun α cA ls H locs cells slots hR hl hv hc hs k => va_mmax hx hb (by rw [hl.2.1, hml]) hown hlk (hts _ (z_wt z_bw_2)) (hts _ (z_wt z_bw_6)) (hts _ (z_wt z_bw_4)) hRf (by rw [z_cat_sum]; omega) hc hs hd k)
    · cases h
  · obtain rfl : ins = .invokestatic i := by
      rcases hins with ⟨h, -⟩ | ⟨-, h⟩
      · exact absurd h (by decide)
      · exact h
    split at h
    · rename_i y w r
      obtain ⟨hq, h⟩ := z_hf h
      have h8 : z_cat r ≤ 8 := Nat.le_of_not_lt (fun h9 => by rw [Nat.ble_eq_true_of_le h9] at hq; exact absurd hq (by decide))
      exact z_op3 C0 (hκ _ _ _ _ h) (fun hv => z_vc trivial (z_vp2 hv)) (fun α cA ls H locs cells slots hR hl hv hc hs k => va_mmin hx hb (by rw [hl.2.1, hml]) hown hlk (hts _ (z_wt z_bw_3)) (hts _ (z_wt z_bw_6)) (hts _ (z_wt z_bw_5)) hRf (by rw [z_cat_sum]; omega) hc hs hd k)
    · cases h
  · obtain rfl : ins = .invokestatic i := by
      rcases hins with ⟨h, -⟩ | ⟨-, h⟩
      · exact absurd h (by decide)
      · exact h
    split at h
    · rename_i n dp q2 sp q r
      obtain ⟨hq, h⟩ := z_hf h
      have h8 : z_cat r ≤ 8 := Nat.le_of_not_lt (fun h9 => by rw [Nat.ble_eq_true_of_le h9] at hq; exact absurd hq (by decide))
      obtain ⟨hrg, h⟩ := z_ht h
      rw [Bool.and_eq_true] at hrg
      obtain ⟨r1, r2, r3⟩ := z_rng_of hrg.1
      obtain ⟨r4, -, r6⟩ := z_rng_of hrg.2
      cases hk1 : (Nat.beq (z_aK q.1) 1 && Nat.beq (z_aK q2.1) 1) with
      | true =>
        rw [hk1] at h
        rw [Bool.and_eq_true] at hk1
        have ha := Nat.eq_of_beq_eq_true hk1.1
        have hb2 := Nat.eq_of_beq_eq_true hk1.2
        have h : κ (pc + 3) la r (z_acI S q.1 q.2 sp.toNatClampNeg q2.1 q2.2 dp.toNatClampNeg n.toNatClampNeg) = some res := h
        refine z_op2 (hκ _ _ _ _ h) rfl (fun hv => z_vp (z_vp2 (z_vp2 hv))) (fun _ h => h) (fun α cA ls H locs cells slots hR hl hv k => ?_)
        have hka : z_aK q.1 ≠ 0 := by rw [ha]; decide
        have hkb : z_aK q2.1 ≠ 0 := by rw [hb2]; decide
        obtain ⟨-, -, hmo, ⟨tys, hK, htk⟩, hP, hD, hS, -⟩ := hR
        obtain ⟨kq, hkn, hkq⟩ := z_okR.at (z_vh (z_vp2 (z_vp2 hv))) (z_aK_rng hka).1 (z_aK_rng hka).2
        obtain ⟨kq2, hkn2, hkq2⟩ := z_okR.at (z_vh (z_vp2 hv)) (z_aK_rng hkb).1 (z_aK_rng hkb).2
        obtain ⟨t0, ht⟩ := htk kq q hkn hkq hka
        obtain ⟨t2, ht2⟩ := htk kq2 q2 hkn2 hkq2 hkb
        have he := z_ws_get (α := α) (cA := cA) (md := md) hkn hkq
        have he2 := z_ws_get (α := α) (cA := cA) (md := md) hkn2 hkq2
        rw [z_bdI (Or.inl ha)] at he
        rw [z_bdI (Or.inl hb2)] at he2
        unfold z_ty at ht ht2
        rw [ha] at ht
        rw [hb2] at ht2
        have hws := z_ws_set (α := α) (cA := cA) (md := md) (S := S) (S' := z_acI S q.1 q.2 sp.toNatClampNeg q2.1 q2.2 dp.toNatClampNeg n.toNatClampNeg) (r := q2) (b := .inl (cA q2, z_aN q2.1 q2.2, .inl (va_cpy (S.1 q.1 q.2) (S.1 q2.1 q2.2) sp.toNatClampNeg dp.toNatClampNeg n.toNatClampNeg))) rfl hkn2 hkq2 (fun r' hr => ?_) ?_
        · show W p l e R s m args below meth c H locs cells slots Q (F0 m pc ls (.int n :: .int dp :: z_cR α q2 :: .int sp :: z_cR α q :: r.map (z_cV α)))
          rw [z_cR_ref (Nat.pos_iff_ne_zero.mp (z_aK_rng hka).1), z_cR_ref (Nat.pos_iff_ne_zero.mp (z_aK_rng hkb).1)]
          refine va_copyi hx hb (by rw [hl.2.1, hml]) hown hlk (hts _ (z_wt z_bw_8)) (hts _ (z_wt z_bw_9)) (hts _ (z_wt z_bw_7)) hK hP hD hS kq kq2 t0 t2 he he2 ht ht2 rfl r1 r4 r2 r3 r6 (fun i _ => rfl) hRf (by rw [z_cat_sum, show nativeFrameWords "java/lang/System" "arraycopy" 5 = 7 from by decide +kernel]; omega) hd (fun H1 locs1 hP1 hD1 hS1 => ?_)
          rw [hws] at hP1 hD1
          exact k H1 locs1 hP1 hD1 hS1
        · refine z_bd_cong ?_ rfl rfl
          funext j
          show (if r'.1 = q2.1 ∧ r'.2 = q2.2 then _ else S.1 r'.1 r'.2 j) = _
          rw [if_neg (fun hh => hr (Prod.ext hh.1 hh.2))]
        · rw [z_bdI (Or.inl hb2)]
          have e1 : (z_acI S q.1 q.2 sp.toNatClampNeg q2.1 q2.2 dp.toNatClampNeg n.toNatClampNeg).1 q2.1 q2.2 = va_cpy (S.1 q.1 q.2) (S.1 q2.1 q2.2) sp.toNatClampNeg dp.toNatClampNeg n.toNatClampNeg := by
            funext j
            show (if q2.1 = q2.1 ∧ q2.2 = q2.2 then _ else _) = _
            rw [if_pos ⟨rfl, rfl⟩]
          rw [e1]
      | false =>
        rw [hk1] at h
        obtain ⟨hk1, h⟩ := z_ht (show cond (Nat.beq (z_aK q.1) 4 && Nat.beq (z_aK q2.1) 4) _ none = some res from h)
        rw [Bool.and_eq_true] at hk1
        have ha := Nat.eq_of_beq_eq_true hk1.1
        have hb2 := Nat.eq_of_beq_eq_true hk1.2
        have h : κ (pc + 3) la r (z_acL S q.1 q.2 sp.toNatClampNeg q2.1 q2.2 dp.toNatClampNeg n.toNatClampNeg) = some res := h
        refine z_op2 (hκ _ _ _ _ h) rfl (fun hv => z_vp (z_vp2 (z_vp2 hv))) (fun _ h => h) (fun α cA ls H locs cells slots hR hl hv k => ?_)
        have hka : z_aK q.1 ≠ 0 := by rw [ha]; decide
        have hkb : z_aK q2.1 ≠ 0 := by rw [hb2]; decide
        obtain ⟨-, -, hmo, ⟨tys, hK, htk⟩, hP, hD, hS, -⟩ := hR
        obtain ⟨kq, hkn, hkq⟩ := z_okR.at (z_vh (z_vp2 (z_vp2 hv))) (z_aK_rng hka).1 (z_aK_rng hka).2
        obtain ⟨kq2, hkn2, hkq2⟩ := z_okR.at (z_vh (z_vp2 hv)) (z_aK_rng hkb).1 (z_aK_rng hkb).2
        obtain ⟨t0, ht⟩ := htk kq q hkn hkq hka
        obtain ⟨t2, ht2⟩ := htk kq2 q2 hkn2 hkq2 hkb
        have he := z_ws_get (α := α) (cA := cA) (md := md) hkn hkq
        have he2 := z_ws_get (α := α) (cA := cA) (md := md) hkn2 hkq2
        rw [z_bdL ha] at he
        rw [z_bdL hb2] at he2
        unfold z_ty at ht ht2
        rw [ha] at ht
        rw [hb2] at ht2
        have hws := z_ws_set (α := α) (cA := cA) (md := md) (S := S) (S' := z_acL S q.1 q.2 sp.toNatClampNeg q2.1 q2.2 dp.toNatClampNeg n.toNatClampNeg) (r := q2) (b := .inl (cA q2, z_aN q2.1 q2.2, .inr (.inl (va_cpy (S.2.1 q.1 q.2) (S.2.1 q2.1 q2.2) sp.toNatClampNeg dp.toNatClampNeg n.toNatClampNeg)))) rfl hkn2 hkq2 (fun r' hr => ?_) ?_
        · show W p l e R s m args below meth c H locs cells slots Q (F0 m pc ls (.int n :: .int dp :: z_cR α q2 :: .int sp :: z_cR α q :: r.map (z_cV α)))
          rw [z_cR_ref (Nat.pos_iff_ne_zero.mp (z_aK_rng hka).1), z_cR_ref (Nat.pos_iff_ne_zero.mp (z_aK_rng hkb).1)]
          refine va_copyl hx hb (by rw [hl.2.1, hml]) hown hlk (hts _ (z_wt z_bw_8)) (hts _ (z_wt z_bw_9)) (hts _ (z_wt z_bw_7)) hK hP hD hS kq kq2 t0 t2 he he2 ht ht2 rfl r1 r4 r2 r3 r6 (fun i _ => rfl) hRf (by rw [z_cat_sum, show nativeFrameWords "java/lang/System" "arraycopy" 5 = 7 from by decide +kernel]; omega) hd (fun H1 locs1 hP1 hD1 hS1 => ?_)
          rw [hws] at hP1 hD1
          exact k H1 locs1 hP1 hD1 hS1
        · refine z_bd_cong rfl ?_ rfl
          funext j
          show (if r'.1 = q2.1 ∧ r'.2 = q2.2 then _ else S.2.1 r'.1 r'.2 j) = _
          rw [if_neg (fun hh => hr (Prod.ext hh.1 hh.2))]
        · rw [z_bdL hb2]
          have e1 : (z_acL S q.1 q.2 sp.toNatClampNeg q2.1 q2.2 dp.toNatClampNeg n.toNatClampNeg).2.1 q2.1 q2.2 = va_cpy (S.2.1 q.1 q.2) (S.2.1 q2.1 q2.2) sp.toNatClampNeg dp.toNatClampNeg n.toNatClampNeg := by
            funext j
            show (if q2.1 = q2.1 ∧ q2.2 = q2.2 then _ else _) = _
            rw [if_pos ⟨rfl, rfl⟩]
          rw [e1]
    · cases h
  · cases h
end ZCA
