/-! ===== of ===== -/
theorem z_Pl_sk {S S' : z_Mem} (h : z_fx z_Pl S S') : z_fx z_Sk S S' := h.wk (fun t i k q => Or.inl q)
theorem z_P52_sk {S S' : z_Mem} (h : z_fx z_P52 S S') : z_fx z_Sk S S' := h.wk (fun t i k q => by
  have q : t = 52 := q
  unfold z_Sk; omega)
theorem z_n15 {v : Int32} (h : ¬ (10 ≤ v ∧ v ≤ 15)) (h2 : ¬ v < 10) : ∃ k : Nat, 16 ≤ k ∧ k < 2 ^ 31 ∧ v = nI k := by
  obtain ⟨k, hk, rfl⟩ := z_ten h2
  refine ⟨10 + k, ?_, hk, rfl⟩
  have h3 : (10 : Int32) ≤ nI (10 + k) := Int32.not_lt.mp h2
  have : ¬ nI (10 + k) ≤ 15 := fun q => h ⟨h3, q⟩
  rw [show (15 : Int32) = nI 15 from rfl, nI_leI hk (by omega)] at this
  omega
theorem z_nj {k j : Nat} (hk : k < 2 ^ 31) (hj : j < 16) (h : 16 ≤ k) : ¬ nI k = nI j := by
  rw [nI_eq hk (by omega)]; omega
/-- what 'of' says of the small numbers -/
def z_ofA (K : z_K) (w c : Int32) (sp : Int32) (v : Int32) : Int32 :=
  if v = 0 then K.2.1 else if v = 1 then K.2.2.1 else if v = 2 then w else if v = 3 then K.2.2.2.1 else if v = 4 then (cond K.2.2.2.2.1 1 0) else if v = 5 then c else if v = 6 then sp else -1
theorem z_ofA_n {K : z_K} {w c sp : Int32} {k : Nat} (hk : k < 2 ^ 31) (h : 16 ≤ k) : z_ofA K w c sp (nI k) = -1 := by
  unfold z_ofA
  rw [if_neg (show ¬ nI k = (0 : Int32) from z_nj (j := 0) hk (by omega) h), if_neg (show ¬ nI k = (1 : Int32) from z_nj (j := 1) hk (by omega) h), if_neg (show ¬ nI k = (2 : Int32) from z_nj (j := 2) hk (by omega) h), if_neg (show ¬ nI k = (3 : Int32) from z_nj (j := 3) hk (by omega) h), if_neg (show ¬ nI k = (4 : Int32) from z_nj (j := 4) hk (by omega) h), if_neg (show ¬ nI k = (5 : Int32) from z_nj (j := 5) hk (by omega) h), if_neg (show ¬ nI k = (6 : Int32) from z_nj (j := 6) hk (by omega) h)]
theorem c_of (S : z_Mem) (hR : z_RL S) (v1 v2 : Int32) : z_both 77 169 [.inl v1, .inl v2] S := by
  obtain ⟨hts, hN, ⟨n, hr, h, c0, ht, wd, H, K, W, C, hA, hB⟩, hI, hT, hP, hAc⟩ := id hR
  obtain ⟨⟨hn, hhr, hwd, hH, hts6⟩, hh6⟩ := hA.1
  have hC := fun b hb => (hA.2.2 b hb).1.2.2
  have c7 : S.1 7 0 1 = nI n := hA.2.1.1.1
  have c12 : S.1 12 0 0 = nI n := hA.2.1.2.1
  by_cases h1 : 0 ≤ v1 ∧ v1 ≤ nI n - 1
  · obtain ⟨b, hb, rfl⟩ := z_isP_of hn h1
    obtain ⟨⟨o1, o2, o3⟩, ⟨p1, p2, p3, p4⟩, q1, q2, q3⟩ := hA.2.2 b hb
    have a2 := hA.2.1.1.2.1
    have a4 := hA.2.1.1.2.2.2.1
    have a5 := hA.2.1.1.2.2.2.2.1
    have a6 := hA.2.1.1.2.2.2.2.2.1
    by_cases h2 : 10 ≤ v2 ∧ v2 ≤ 15
    · obtain ⟨k, hk, rfl⟩ := z_ten (Int32.not_lt.mpr h2.1)
      have hk5 : k ≤ 5 := by
        have := h2.2
        rw [show (15 : Int32) = nI 15 from rfl, nI_leI hk (by omega)] at this
        omega
      have h3 : 0 ≤ nI k ∧ nI k ≤ 5 := ⟨nI_pos' (by omega), by rw [show (5 : Int32) = nI 5 from rfl, nI_leI (by omega) (by omega)]; exact hk5⟩
      refine z_ask (v := .inl (z_dw H (K b) (nI k) ht hr (W b))) hR ?_ (fun S' hf => ?_)
      · have e : z_exe z_mt true 40 77 [.inr (.inr (11, 0)), .inl (nI b), .inl (nI (10 + k))] S = _ := (zx_X11_of 39 S 0 (nI b) (nI (10 + k))).trans (ze_X11_of_0 _ _ _ _ _ _)
        obtain ⟨q, S1, e1, rfl, f1⟩ := s_driesAt2 36 b 0 h hr (nI k) ht H S hH a6 (by omega) a5 a4 a2
        rw [p1, p3] at e1
        refine ⟨S1, ?_, z_Pl_sk f1⟩
        rw [e, s_noPair 38 n _ S hn c7, z_rI_s, z_b1_F (fun z => z h1), if_pos rfl, z_oob_n (k := b) (by omega) (by omega), z_cond_f, if_neg (Int32.not_lt.mpr h2.1), z_m10, s_outside, z_rI_s, z_b1_F (fun z => z h3), if_pos rfl, z_cl (k := b) (by omega), z_60, e1, z_rI_s]
      · have hA' := hA.sk hf
        have hN' := hN.sk hf
        have hB' := hB.sk hf
        have c7' : S'.1 7 0 1 = nI n := hA'.2.1.1.1
        have c12' : S'.1 12 0 0 = nI n := hA'.2.1.2.1
        have e : z_exe z_mt true 40 169 [.inr (.inr (12, 0)), .inl (nI b), .inl (nI (10 + k))] S' = _ := (zx_X12_of 39 S' 0 (nI b) (nI (10 + k))).trans (ze_X12_of_0 _ _ _ _ _ _)
        obtain ⟨o1', -, q1', q2', q3'⟩ := hA'.2.2 b hb
        obtain ⟨q, S1, e1, rfl, f1⟩ := s_dries2 34 c0 b hr (nI k) ht (W b) H S' (by omega) hH (hA'.2.1.2.2.2.2.2.Hu hts6) (by omega) hA'.2.1.2.2.1 hA'.2.1.2.2.2.2.1 q2'
        rw [q1'] at e1
        refine ⟨S1, ?_, z_P52_sk f1⟩
        rw [e, s_isPair 37 n _ S' c12', z_rI_s, z_b1_T h1, if_neg z_01n, s_in, z_rI_s, z_b1_T h2, if_neg z_01n, z_m10, e1, z_rI_s]
    · -- the small numbers
      have hsp : ∃ sp : Int32, z_exe z_mt true 39 14 [.inr (.inr (2, b)), .inr (.inr (9, 0))] S = some (some (.inl sp), S) ∧ (sp = 0 ∨ sp = 1) ∧ (sp = 1 ↔ z_sp1 (K b) ht) := by
        obtain ⟨x, e1, hx⟩ := s_spoils 37 b 0 S
        have e2 : z_sp (S.1 2 b 1) (S.1 2 b 2) (z_mx (S.1 9 0 0 - 3 * S.1 2 b 4)) = z_sp1 (K b) ht := by rw [← p1, a2]; rfl
        rw [e2] at hx
        refine ⟨x, e1, ?_⟩
        rcases hx with ⟨h1, h2⟩ | ⟨h1, h2⟩
        · exact ⟨Or.inr h1, fun _ => h2, fun _ => h1⟩
        · exact ⟨Or.inl h1, fun q => absurd (h1.symm.trans q) (by decide), fun q => absurd q h2⟩
      obtain ⟨sp, es, hs01, hs⟩ := hsp
      have hspn : (if sp = 0 then (some (some (Sum.inl (0 : Int32)), S) : Option (Option z_AV × z_Mem)) else some (some (.inl (1 : Int32)), S)) = some (some (.inl sp), S) := by
        rcases hs01 with q | q <;> rw [q] <;> rfl
      refine z_ask (v := .inl (z_ofA (K b) (W b) (C b) sp v2)) hR ⟨S, ?_, z_fx.rf⟩ (fun S' hf => ⟨S', ?_, z_fx.rf⟩)
      · have e : z_exe z_mt true 40 77 [.inr (.inr (11, 0)), .inl (nI b), .inl v2] S = _ := (zx_X11_of 39 S 0 (nI b) v2).trans (ze_X11_of_0 _ _ _ _ _ _)
        have k1 : S.1 2 b 1 = (K b).2.1 := by rw [← p1]; rfl
        have k2 : S.1 2 b 2 = (K b).2.2.1 := by rw [← p1]; rfl
        have k3 : S.1 2 b 4 = (K b).2.2.2.1 := by rw [← p1]; rfl
        have k4 : (K b).2.2.2.2.1 = !decide (S.1 2 b 5 = 0) := by rw [← p1]; rfl
        rw [e, s_noPair 38 n _ S hn c7, z_rI_s, z_b1_F (fun z => z h1), if_pos rfl, z_oob_n (k := b) (by omega) (by omega), z_cond_f, z_cl (k := b) (by omega), z_60]
        by_cases h3 : v2 < 10
        · rw [if_pos h3]
          unfold z_ofA
          by_cases q0 : v2 = 0
          · rw [if_pos q0, if_pos q0, k1]
          rw [if_neg q0, if_neg q0]
          by_cases q1 : v2 = 1
          · rw [if_pos q1, if_pos q1, k2]
          rw [if_neg q1, if_neg q1]
          by_cases q2 : v2 = 2
          · rw [if_pos q2, if_pos q2, p3]
          rw [if_neg q2, if_neg q2]
          by_cases q3 : v2 = 3
          · rw [if_pos q3, if_pos q3, k3]
          rw [if_neg q3, if_neg q3]
          by_cases q4 : v2 = 4
          · rw [if_pos q4, if_pos q4, k4]
            by_cases z : S.1 2 b 5 = 0
            · rw [if_pos z, decide_eq_true z]; rfl
            · rw [if_neg z, decide_eq_false z]; rfl
          rw [if_neg q4, if_neg q4]
          by_cases q5 : v2 = 5
          · rw [if_pos q5, if_pos q5, p4]
          rw [if_neg q5, if_neg q5]
          by_cases q6 : v2 = 6
          · rw [if_pos q6, if_pos q6, es, z_rI_s]
            exact hspn
          rw [if_neg q6, if_neg q6]
        · obtain ⟨k, hk1, hk2, rfl⟩ := z_n15 h2 h3
          obtain ⟨k', rfl⟩ : ∃ k', k = 10 + k' := ⟨k - 10, by omega⟩
          rw [if_neg h3, z_ofA_n hk2 hk1, z_m10, s_outside, z_rI_s, z_b1_T (c := ¬ (0 ≤ nI k' ∧ nI k' ≤ 5)) (fun z => by
            have := z.2
            rw [show (5 : Int32) = nI 5 from rfl, nI_leI (by omega) (by omega)] at this
            omega), if_neg z_01n]
      · have hA' := hA.sk hf
        have hN' := hN.sk hf
        have hB' := hB.sk hf
        have c7' : S'.1 7 0 1 = nI n := hA'.2.1.1.1
        have c12' : S'.1 12 0 0 = nI n := hA'.2.1.2.1
        have e : z_exe z_mt true 40 169 [.inr (.inr (12, 0)), .inl (nI b), .inl v2] S' = _ := (zx_X12_of 39 S' 0 (nI b) v2).trans (ze_X12_of_0 _ _ _ _ _ _)
        obtain ⟨-, -, q1', q2', q3'⟩ := hA'.2.2 b hb
        have k1 : S'.1 37 0 b = (K b).2.1 := by rw [← q1']; rfl
        have k2 : S'.1 38 0 b = (K b).2.2.1 := by rw [← q1']; rfl
        have k3 : S'.1 40 0 b = (K b).2.2.2.1 := by rw [← q1']; rfl
        have k4 : (K b).2.2.2.2.1 = decide ((S'.1 12 0 1 >>> (nI b &&& 31)) &&& 1 = 1) := by rw [← q1']; rfl
        rw [e, s_isPair 37 n _ S' c12', z_rI_s, z_b1_T h1, if_neg z_01n, s_in, z_rI_s, z_b1_F h2, if_pos rfl, z_oob_n (k := b) (by omega) (by omega)]
        simp only [z_cond_f]
        rw [z_cl (k := b) (by omega), k1, k2, k3, q2', q3']
        unfold z_ofA
        by_cases q0 : v2 = 0
        · rw [if_pos q0, if_pos q0]
        rw [if_neg q0, if_neg q0]
        by_cases q1 : v2 = 1
        · rw [if_pos q1, if_pos q1]
        rw [if_neg q1, if_neg q1]
        by_cases q2 : v2 = 2
        · rw [if_pos q2, if_pos q2]
        rw [if_neg q2, if_neg q2]
        by_cases q3 : v2 = 3
        · rw [if_pos q3, if_pos q3]
        rw [if_neg q3, if_neg q3]
        by_cases q4 : v2 = 4
        · rw [if_pos q4, if_pos q4, k4, s_has 38, z_rI_s]
          by_cases z : (S'.1 12 0 1 >>> (nI b &&& 31)) &&& 1 = 1
          · rw [z_b1_T z, if_neg z_01n, decide_eq_true z]; rfl
          · rw [z_b1_F z, if_pos rfl, decide_eq_false z]; rfl
        rw [if_neg q4, if_neg q4]
        by_cases q5 : v2 = 5
        · rw [if_pos q5, if_pos q5]
        rw [if_neg q5, if_neg q5]
        by_cases q6 : v2 = 6
        · rw [if_pos q6, if_pos q6]
          obtain ⟨x, e1, hx⟩ := s_mspoils 36 b S' (by omega)
          have e2 : z_sp (S'.1 37 0 b) (S'.1 38 0 b) (z_mx (S'.1 12 0 2 - 3 * S'.1 40 0 b)) = z_sp1 (K b) ht := by rw [← q1', hA'.2.1.2.2.1]; rfl
          rw [e2] at hx
          rw [e1, z_rI_s]
          rcases hx with ⟨z1, z2⟩ | ⟨z1, z2⟩
          · rw [z1, hs.mpr z2]; rfl
          · rcases hs01 with q | q
            · rw [z1, q]; rfl
            · exact absurd (hs.mp q) z2
        rw [if_neg q6, if_neg q6]
  · refine z_no (v := .inl (-1)) hR ?_ ?_
    · have e : z_exe z_mt true 40 77 [.inr (.inr (11, 0)), .inl v1, .inl v2] S = _ := (zx_X11_of 39 S 0 v1 v2).trans (ze_X11_of_0 _ _ _ _ _ _)
      rw [e, s_noPair 38 n _ S hn c7, z_rI_s, z_b1_T h1, if_neg z_01n]
    · have e : z_exe z_mt true 40 169 [.inr (.inr (12, 0)), .inl v1, .inl v2] S = _ := (zx_X12_of 39 S 0 v1 v2).trans (ze_X12_of_0 _ _ _ _ _ _)
      rw [e, s_isPair 37 n _ _ c12, z_rI_s, z_b1_F h1, if_pos rfl]
/-! ===== who is at a place ===== -/
theorem z_who_cg {f g : Nat → Int32} {x : Int32} : ∀ (m b : Nat), (∀ k, b ≤ k → k < b + m → f k = g k) → z_who f x b m = z_who g x b m
  | 0, _, _ => rfl
  | m + 1, b, h => by
    unfold z_who
    rw [h b (Nat.le_refl _) (by omega), z_who_cg m (b + 1) (fun k h1 h2 => h k (by omega) (by omega))]
theorem z_who_is {f : Nat → Int32} {x : Int32} : ∀ (m b : Nat), (z_who f x b m = -5 ∧ ∀ k, b ≤ k → k < b + m → f k ≠ x) ∨ ∃ k, b ≤ k ∧ k < b + m ∧ z_who f x b m = nI k ∧ f k = x
  | 0, b => Or.inl ⟨rfl, fun k h1 h2 => absurd h2 (by omega)⟩
  | m + 1, b => by
    unfold z_who
    by_cases q : f b = x
    · rw [if_pos q]
      exact Or.inr ⟨b, Nat.le_refl _, by omega, rfl, q⟩
    · rw [if_neg q]
      rcases z_who_is (f := f) (x := x) m (b + 1) with ⟨h1, h2⟩ | ⟨k, h1, h2, h3, h4⟩
      · refine Or.inl ⟨h1, fun k h3 h4 => ?_⟩
        by_cases e : k = b
        · rw [e]; exact q
        · exact h2 k (by omega) (by omega)
      · exact Or.inr ⟨k, by omega, by omega, h3, h4⟩
def z_pw (K : Nat → z_K) (n : Nat) (p : Int32) : Int32 := z_who (fun b => (K b).2.2.2.1) p 0 n
theorem s_whoC (d : Nat) {hts n hr h c0 : Nat} {ht wd : Int32} {H : z_H} {K : Nat → z_K} {W C : Nat → Int32} {S : z_Mem} (hA : z_LA hts n hr h c0 ht wd H K W C S) (p : Int32) : z_exe z_mt true (d + 1) 52 [.inr (.inr (7, 0)), .inl p] S = some (some (.inl (z_pw K n p)), S) := by
  rw [s_whoIsAt d 0 n p S hA.1.1.1 hA.2.1.1.1]
  unfold z_pw
  rw [z_who_cg (g := fun b => (K b).2.2.2.1) n 0 (fun k _ hk => by
    have := (hA.2.2 k (by omega)).2.1.1
    rw [← this, z_60]
    rfl)]
theorem s_whoM (d : Nat) {hts n hr h c0 : Nat} {ht wd : Int32} {H : z_H} {K : Nat → z_K} {W C : Nat → Int32} {S : z_Mem} (hA : z_LA hts n hr h c0 ht wd H K W C S) (p : Int32) : z_exe z_mt true (d + 1) 133 [.inr (.inr (12, 0)), .inl p] S = some (some (.inl (z_pw K n p)), S) := by
  rw [s_whoIs d n p S hA.1.1.1 hA.2.1.2.1]
  unfold z_pw
  rw [z_who_cg (g := fun b => (K b).2.2.2.1) n 0 (fun k _ hk => by
    have := (hA.2.2 k (by omega)).2.2.1
    rw [← this]
    rfl)]
/-! ===== told ===== -/
theorem z_off {v : Int32} {o m : Nat} (ho : o ≤ 100) (hm : m ≤ 100) (h : nI o ≤ v) : (0 ≤ v - nI o ∧ v - nI o ≤ nI m) ↔ (nI o ≤ v ∧ v ≤ nI (o + m)) := by
  have h0 : ¬ v < 0 := fun q => absurd (Int32.lt_of_le_of_lt h q) (nI_pos (by omega))
  obtain ⟨k, hk, rfl⟩ := nI_of h0
  have hok : o ≤ k := (nI_leI (by omega) hk).mp h
  rw [pk_sub hok, show (0 : Int32) = nI 0 from rfl, nI_leI (by omega) (by omega), nI_leI (by omega) (by omega), nI_leI (by omega) hk, nI_leI hk (by omega)]
  omega
def z_toA (ht wd : Int32) (hr : Nat) (cool lg wet cr ds : Int32) (v : Int32) : Int32 :=
  if v = 0 then nI hr else if v = 1 then ht else if v = 2 then wd else if v = 3 then cool else if v = 4 then lg else if v = 5 then wet else if v = 6 then cr else if v = 7 then ds else -1
theorem z_big {v : Int32} (h : 10 ≤ v) : ∀ j : Nat, j < 10 → ¬ v = nI j := by
  intro j hj q
  rw [q, show (10 : Int32) = nI 10 from rfl, nI_leI (by omega) (by omega)] at h
  omega
theorem z_toA_n {ht wd : Int32} {hr : Nat} {cool lg wet cr ds v : Int32} (h : 10 ≤ v) : z_toA ht wd hr cool lg wet cr ds v = -1 := by
  have hb := z_big h
  unfold z_toA
  rw [if_neg (show ¬ v = (0 : Int32) from hb 0 (by omega)), if_neg (show ¬ v = (1 : Int32) from hb 1 (by omega)), if_neg (show ¬ v = (2 : Int32) from hb 2 (by omega)), if_neg (show ¬ v = (3 : Int32) from hb 3 (by omega)), if_neg (show ¬ v = (4 : Int32) from hb 4 (by omega)), if_neg (show ¬ v = (5 : Int32) from hb 5 (by omega)), if_neg (show ¬ v = (6 : Int32) from hb 6 (by omega)), if_neg (show ¬ v = (7 : Int32) from hb 7 (by omega))]
theorem c_told (S : z_Mem) (hR : z_RL S) (v : Int32) : z_both 86 174 [.inl v] S := by
  obtain ⟨hts, hN, ⟨n, hr, h, c0, ht, wd, H, K, W, C, hA, hB⟩, hI, hT, hP, hAc⟩ := id hR
  obtain ⟨⟨hn, hhr, hwd, hH, hts6⟩, hh6⟩ := hA.1
  have hC := fun b hb => (hA.2.2 b hb).1.2.2
  have c7 : S.1 7 0 1 = nI n := hA.2.1.1.1
  have c12 : S.1 12 0 0 = nI n := hA.2.1.2.1
  obtain ⟨-, a2, a3, a4, a5, a6, -⟩ := hA.2.1.1
  have hRc := hA.Rc
  by_cases h1 : 10 ≤ v ∧ v ≤ 15
  · refine z_ask (v := .inl (z_mx (ht - 3 * (v - 10)))) hR ⟨S, ?_, z_fx.rf⟩ (fun S' hf => ⟨S', ?_, z_fx.rf⟩)
    · have e : z_exe z_mt true 40 86 [.inr (.inr (11, 0)), .inl v] S = _ := (zx_X11_told 39 S 0 v).trans (ze_X11_told_0 _ _ _ _ _)
      have h3 : v < 20 := Int32.lt_of_le_of_lt h1.2 (by decide)
      rw [e, if_pos h3, if_neg (Int32.not_lt.mpr h1.1), s_outside, z_rI_s, z_b1_F (fun z => z ((z_off (o := 10) (m := 5) (by omega) (by omega) h1.1).mpr h1)), if_pos rfl, s_warmAt, z_rI_s, a2]
    · have hA' := hA.sk hf
      have hN' := hN.sk hf
      have hB' := hB.sk hf
      have c7' : S'.1 7 0 1 = nI n := hA'.2.1.1.1
      have c12' : S'.1 12 0 0 = nI n := hA'.2.1.2.1
      have e : z_exe z_mt true 40 174 [.inr (.inr (12, 0)), .inl v] S' = _ := (zx_X12_told 39 S' 0 v).trans (ze_X12_told_0 _ _ _ _ _)
      rw [e, s_in, z_rI_s, z_b1_T h1, if_neg z_01n, s_warm, z_rI_s, hA'.2.1.2.2.1]
  by_cases h2 : 20 ≤ v ∧ v ≤ 25
  · refine z_ask (v := .inl (z_pw K n (v - 20))) hR ⟨S, ?_, z_fx.rf⟩ (fun S' hf => ⟨S', ?_, z_fx.rf⟩)
    · have e : z_exe z_mt true 40 86 [.inr (.inr (11, 0)), .inl v] S = _ := (zx_X11_told 39 S 0 v).trans (ze_X11_told_0 _ _ _ _ _)
      rw [e, if_neg (Int32.not_lt.mpr h2.1), s_outside, z_rI_s, z_b1_F (fun z => z ((z_off (o := 20) (m := 5) (by omega) (by omega) h2.1).mpr h2)), if_pos rfl, s_whoC 38 hA, z_rI_s]
    · have hA' := hA.sk hf
      have hN' := hN.sk hf
      have hB' := hB.sk hf
      have c7' : S'.1 7 0 1 = nI n := hA'.2.1.1.1
      have c12' : S'.1 12 0 0 = nI n := hA'.2.1.2.1
      have e : z_exe z_mt true 40 174 [.inr (.inr (12, 0)), .inl v] S' = _ := (zx_X12_told 39 S' 0 v).trans (ze_X12_told_0 _ _ _ _ _)
      rw [e, s_in, z_rI_s, z_b1_F h1, if_pos rfl, s_in, z_rI_s, z_b1_T h2, if_neg z_01n, s_whoM 38 hA', z_rI_s]
  refine z_ask (v := .inl (z_toA ht wd hr (z_last 2 H 1) (z_last 3 H 6) (z_sg (z_fw K W) 0 n 0) (z_sg C 0 n 0) (z_om (z_fs W) 0 n 0) v)) hR ⟨S, ?_, z_fx.rf⟩ (fun S' hf => ⟨S', ?_, z_fx.rf⟩)
  · have e : z_exe z_mt true 40 86 [.inr (.inr (11, 0)), .inl v] S = _ := (zx_X11_told 39 S 0 v).trans (ze_X11_told_0 _ _ _ _ _)
    rw [e]
    by_cases h10 : v < 10
    · rw [if_pos (Int32.lt_trans h10 (by decide)), if_pos h10]
      unfold z_toA
      by_cases q0 : v = 0
      · rw [if_pos q0, if_pos q0, a4]
      rw [if_neg q0, if_neg q0]
      by_cases q1 : v = 1
      · rw [if_pos q1, if_pos q1, a2]
      rw [if_neg q1, if_neg q1]
      by_cases q2 : v = 2
      · rw [if_pos q2, if_pos q2, a3]
      rw [if_neg q2, if_neg q2]
      by_cases q3 : v = 3
      · rw [if_pos q3, if_pos q3, a5, a6.1.1]
      rw [if_neg q3, if_neg q3]
      by_cases q4 : v = 4
      · rw [if_pos q4, if_pos q4, a5, a6.1.2]
      rw [if_neg q4, if_neg q4]
      by_cases q5 : v = 5
      · rw [if_pos q5, if_pos q5, s_wetOfThoseHere 38 0 h n _ _ H K _ _ S hn c7 hRc, z_rI_s]
      rw [if_neg q5, if_neg q5]
      by_cases q6 : v = 6
      · rw [if_pos q6, if_pos q6, s_cracksOfAll 38 0 h n _ _ H K _ _ S hn c7 hRc, z_rI_s]
      rw [if_neg q6, if_neg q6]
      by_cases q7 : v = 7
      · rw [if_pos q7, if_pos q7, s_dryBits 38 0 h n _ _ H K _ _ S hn c7 hRc, z_rI_s]
      rw [if_neg q7, if_neg q7]
    · rw [z_toA_n (Int32.not_lt.mp h10)]
      by_cases h20 : v < 20
      · rw [if_pos h20, if_neg h10, s_outside, z_rI_s, z_b1_T (c := ¬ (0 ≤ v - 10 ∧ v - 10 ≤ 5)) (fun z => h1 ((z_off (o := 10) (m := 5) (by omega) (by omega) (Int32.not_lt.mp h10)).mp z)), if_neg z_01n]
      · rw [if_neg h20, s_outside, z_rI_s, z_b1_T (c := ¬ (0 ≤ v - 20 ∧ v - 20 ≤ 5)) (fun z => h2 ((z_off (o := 20) (m := 5) (by omega) (by omega) (Int32.not_lt.mp h20)).mp z)), if_neg z_01n]
  · have hA' := hA.sk hf
    have hN' := hN.sk hf
    have hB' := hB.sk hf
    have c7' : S'.1 7 0 1 = nI n := hA'.2.1.1.1
    have c12' : S'.1 12 0 0 = nI n := hA'.2.1.2.1
    have e : z_exe z_mt true 40 174 [.inr (.inr (12, 0)), .inl v] S' = _ := (zx_X12_told 39 S' 0 v).trans (ze_X12_told_0 _ _ _ _ _)
    have hRm := hA'.Rm
    rw [e, s_in, z_rI_s, z_b1_F h1, if_pos rfl, s_in, z_rI_s, z_b1_F h2, if_pos rfl]
    unfold z_toA
    by_cases q0 : v = 0
    · rw [if_pos q0, if_pos q0, hA'.2.1.2.2.2.2.1]
    rw [if_neg q0, if_neg q0]
    by_cases q1 : v = 1
    · rw [if_pos q1, if_pos q1, hA'.2.1.2.2.1]
    rw [if_neg q1, if_neg q1]
    by_cases q2 : v = 2
    · rw [if_pos q2, if_pos q2, hA'.2.1.2.2.2.1]
    rw [if_neg q2, if_neg q2]
    by_cases q3 : v = 3
    · rw [if_pos q3, if_pos q3, s_cool 37 c0 H S' hH hRm.2.1, z_rI_s]
    rw [if_neg q3, if_neg q3]
    by_cases q4 : v = 4
    · rw [if_pos q4, if_pos q4, s_logOf 37 c0 H S' hH hRm.2.1, z_rI_s]
    rw [if_neg q4, if_neg q4]
    by_cases q5 : v = 5
    · rw [if_pos q5, if_pos q5, s_wetHere 37 c0 n _ _ H K _ _ S' hn hRm, z_rI_s]
    rw [if_neg q5, if_neg q5]
    by_cases q6 : v = 6
    · rw [if_pos q6, if_pos q6, s_allCracks 37 c0 n _ _ H K _ _ S' hn hRm, z_rI_s]
    rw [if_neg q6, if_neg q6]
    by_cases q7 : v = 7
    · rw [if_pos q7, if_pos q7, s_drySet 37 c0 n _ _ H K _ _ S' hn hRm, z_rI_s]
    rw [if_neg q7, if_neg q7]
