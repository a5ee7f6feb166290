/-! ===== the same with more depth: four nested parts want more than 20 ===== -/
def z_PURE2 : Prop := ∀ (L : Nat) (xs : Nat → Int32), L ≤ 3072 → ∃ (n : Nat) (S' : z_Mem), z_lrun (some (L, xs)) (z_exe z_mt true 40) n 18 z_la1 [] z_S1 = some (some (.inl 1), S') ∧ S'.2.2.2 = 176
theorem whole_start_open2 (hpure : z_PURE2) {p : Program} {e : Env} {s : State} {m : MethodId} {below : List Frame} {meth : Method} {c : Code} (l : Launch) {b L : Nat} {xs : Nat → Int32} (hL : L ≤ 3072) (C0 : lw_At p s m meth c b L xs) : W p l e room_1 s m #[Value.ref b] below meth c s.heap [] 0 0 (lw_Z below #[Value.ref b] s) (entryFrame m ([Value.ref b] : List Value).toArray 4) := by
  obtain ⟨hx, hb, hr, hml, hown, hts, hX, hbl, hlocks, hgv⟩ := id C0
  obtain ⟨D, hK⟩ := z_known hts
  obtain ⟨n, S', hrun, hn'⟩ := hpure L xs hL
  have h176 : z_sz 176 - z_sz 0 ≤ 7302250 := Nat.le_trans (Nat.sub_le _ _) z_sz176
  have C1 : z_Ct p room_1 s m #[Value.ref b] meth c code 4 16 false 0 176 :=
    ⟨hx, hb, hml, hown, fun w hw => hts w (List.mem_filter.mp hw).1, z_nw_of hts, fun h => absurd h (by decide), ⟨Nat.le_of_ble_eq_true rfl, h176⟩, Nat.le_of_ble_eq_true rfl, Nat.le_of_ble_eq_true rfl⟩
  have hb0 : ¬ s.heap.size ≤ b := Nat.not_le.mpr hbl
  obtain ⟨r1, r2, r3, r4, -, -⟩ := z_R1_all
  unfold z_R1 at r1
  generalize z_S1 = S1 at r1 r2 r3 r4 hrun
  generalize z_la1 = la1 at r1 hrun
  have g2 : z_gw p l e room_1 s m #[Value.ref b] below meth c (lw_Z below #[Value.ref b] s) D (fun q => s.heap.size ≤ q) true (some (L, xs)) (fun _ => b) 0 176 4 18 la1 [] S1 := by
    refine z_lrun_ok (d := 40) (res := (some (.inl 1), S')) C1 ⟨Nat.le_of_ble_eq_true rfl, Nat.le_of_ble_eq_true rfl⟩ zl_all (z_exe_ok l true z_mt_k 40) (fun pc la hk => ?_) n 18 la1 [] S1 hrun
    obtain ⟨hd, -⟩ := hk
    refine ⟨Nat.le_of_eq hn', fun α cA ls H locs hR hl hv => ?_⟩
    obtain ⟨-, -, -, -, -, -, hS, -⟩ := hR
    refine va_forget hS.2.2 ?_
    refine W.widen (k := 600000) (n := 7302250) (by rw [hn']; exact Nat.le_of_ble_eq_true rfl) (by rw [hn']; exact h176) ?_
    exact lw_ret hx hb hr hlocks hd
  have g1 : z_gw p l e room_1 s m #[Value.ref b] below meth c (lw_Z below #[Value.ref b] s) D (fun q => s.heap.size ≤ q) false none (fun _ => b) 0 176 4 0 [some (.inr (.inr (90, 0))), none, none, none] [] z_S00 := by
    refine z_go_ok (ρ := z_R1T) (md := false) (sc := none) (ex := z_exe z_mt false 12) (ops := zo_L_law) (ret := ret) (d := 12) (K := z_K0) (Kr := fun _ _ => none) (res := (18, la1, [], S1)) (bo := true) (cuts := zc_L_law) C1 ⟨Nat.le_of_ble_eq_true rfl, Nat.le_of_ble_eq_true rfl⟩ zl_all (z_exe_ok l false z_mt_k 12) (fun pc la sa S hk => ?_) (fun pc la r S hk _ => by cases hk) 2000 0 [some (.inr (.inr (90, 0))), none, none, none] [] z_S00 r1
    have e1 : (pc, la, sa, S) = (18, la1, [], S1) := Option.some.inj hk
    rw [Prod.mk.injEq, Prod.mk.injEq, Prod.mk.injEq] at e1
    obtain ⟨e2, e4, e6, e7⟩ := e1
    rw [e2, e4, e6, e7]
    refine ⟨Nat.le_of_eq r2, fun α cA ls H locs hR hl hv => g2.2 α cA ls H locs ?_ hl hv⟩
    obtain ⟨h1, h2, h3, h4, h5, h6, h7, h8, -⟩ := hR
    have e90 : α (90, 0) = b := h2 (90, 0) (Or.inr (Or.inl rfl))
    exact ⟨h1, h2, z_mok_md r3 r4 h3, h4, by rw [z_ws_md r3 r4]; exact h5, by rw [z_ws_md r3 r4]; exact h6, h7, h8, by rw [e90]; exact ⟨hX, hbl, hb0⟩⟩
  have hl := lv_entry ([.ref b]) (n := 4) (Nat.le_of_ble_eq_true rfl)
  rw [lg_entry_eq]
  generalize (lg_sl ([.ref b]) ++ List.replicate (4 - (lg_sl ([.ref b])).length) Slot.unset).toArray = ls at hl ⊢
  have hl : lv_has ls 4 [(0, .ref b)] := hl
  have hP0 : va_P D vwCl (z_ws (fun _ => b) (fun _ => 0) false z_S00) s.heap := by
    intro k q h
    have h : ([] : va_W)[k]? = some q := h
    simp at h
  have hD0 : va_D (fun q : Nat => s.heap.size ≤ q) (z_ws (fun _ => b) (fun _ => 0) false z_S00) := by
    refine ⟨fun i j p q h => ?_, fun k q h => ?_⟩
    · have h : ([] : va_W)[i]? = some p := h
      simp at h
    · have h : ([] : va_W)[k]? = some q := h
      simp at h
  have k := g1.2 (fun _ => b) (fun _ => 0) ls s.heap [] ⟨⟨Nat.le_refl _, Nat.zero_le _⟩, fun _ _ => rfl, fun k r hk => absurd hk (Nat.not_lt_zero k), ⟨[], hK, fun k r hk => absurd hk (Nat.not_lt_zero k)⟩, hP0, hD0, va_S.rf, fun _ h => h, trivial⟩ ⟨rfl, hl.1, hl.2.1, fun i v hi => ?_⟩ ⟨fun v hv => absurd hv List.not_mem_nil, fun v hv => ?_⟩
  · exact k
  · match i, hi with
    | 0, hi =>
      have e1 : (Sum.inr (Sum.inr (90, 0)) : z_AV) = v := Option.some.inj (Option.some.inj hi)
      subst e1
      exact hl.2.2 (0, .ref b) List.mem_cons_self
    | 1, hi => cases hi
    | 2, hi => cases hi
    | 3, hi => cases hi
    | k + 4, hi => cases hi
  · have hv : some v = some (.inr (.inr (90, 0))) ∨ some v ∈ [(none : Option z_AV), none, none] := List.mem_cons.mp hv
    rcases hv with h | h
    · have e1 : v = .inr (.inr (90, 0)) := Option.some.inj h
      subst e1
      exact Or.inr (Or.inl rfl)
    · simp at h
