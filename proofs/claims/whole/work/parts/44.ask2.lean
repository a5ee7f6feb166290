/-! ===== on, mean ===== -/
theorem z_ten {v : Int32} (h : ¬ v < 10) : ∃ k : Nat, 10 + k < 2 ^ 31 ∧ v = nI (10 + k) := by
  have h0 : ¬ v < 0 := fun q => h (Int32.lt_trans q (by decide))
  obtain ⟨k, hk, rfl⟩ := nI_of h0
  have : ¬ k < 10 := fun q => h (nI_lt (b := 10) q (by omega))
  exact ⟨k - 10, by omega, by congr 1; omega⟩
theorem z_m10 (k : Nat) : nI (10 + k) - 10 = nI k := by
  rw [show (10 : Int32) = nI 10 from rfl, pk_sub (by omega)]
  congr 1; omega
theorem z_p9 (n : Nat) : (9 : Int32) + nI n = nI (9 + n) := by rw [show (9 : Int32) = nI 9 from rfl, nI_add]
theorem z_isP_n {n k : Nat} (hn : n ≤ 6) (hk : k < 2 ^ 31) : (0 ≤ nI k ∧ nI k ≤ nI n - 1) ↔ k < n := by
  refine ⟨fun h => ?_, fun h => z_isP_to hn h⟩
  obtain ⟨j, hj, e⟩ := z_isP_of hn h
  rw [(nI_eq hk (by omega)).mp e]
  exact hj
theorem z_in9 {n k : Nat} (hn : n ≤ 6) (hk : 10 + k < 2 ^ 31) : (10 ≤ nI (10 + k) ∧ nI (10 + k) ≤ nI (9 + n)) ↔ k < n := by
  rw [show (10 : Int32) = nI 10 from rfl, nI_leI (by omega) (by omega), nI_leI (by omega) (by omega)]
  omega
/-- the answer of 'on', once it is asked for in range -/
def z_onA (n : Nat) (K : Nat → z_K) (ht' : Int32) (W' C' : Nat → Int32) (v : Int32) : Int32 :=
  if v = 0 then z_sg (z_fw K W') 0 n 0 else if v = 1 then ht' else if v = 2 then z_sg C' 0 n 0 else W' (v - 10).toNatClampNeg
theorem c_on (S : z_Mem) (hR : z_RL S) (v1 v2 : Int32) : z_both 88 182 [.inl v1, .inl v2] S := by
  obtain ⟨hts, hN, ⟨n, hr, h, c0, ht, wd, H, K, W, C, hA, hB⟩, hI, hT, hP, hAc⟩ := id hR
  obtain ⟨⟨hn, hhr, hwd, hH, hts6⟩, hh6⟩ := hA.1
  have hC := fun b hb => (hA.2.2 b hb).1.2.2
  have c7 : S.1 7 0 1 = nI n := hA.2.1.1.1
  have c12 : S.1 12 0 0 = nI n := hA.2.1.2.1
  -- in range or not
  by_cases h2 : (0 ≤ v2 ∧ v2 ≤ 2) ∨ ∃ k : Nat, k < n ∧ v2 = nI (10 + k)
  · have hcl : ∀ (Q : Prop) (X Y : Option (Option z_AV × z_Mem)), True := fun _ _ _ => trivial
    have hm9 : ¬ (0 ≤ v2 ∧ v2 ≤ 2) → (10 ≤ v2 ∧ v2 ≤ 9 + nI n) := by
      intro q
      obtain ⟨k, hk, rfl⟩ := h2.resolve_left q
      rw [z_p9]
      exact (z_in9 hn (by omega)).mpr hk
    have hc9 : ¬ (0 ≤ v2 ∧ v2 ≤ 2) → ¬ v2 < 10 ∧ (0 ≤ v2 - 10 ∧ v2 - 10 ≤ nI n - 1) := by
      intro q
      obtain ⟨k, hk, rfl⟩ := h2.resolve_left q
      rw [z_m10]
      exact ⟨by rw [show (10 : Int32) = nI 10 from rfl, nI_ltI (by omega) (by omega)]; omega, z_isP_to hn hk⟩
    have hix : ¬ v2 = 0 → ¬ v2 = 1 → ¬ v2 = 2 → ∃ k : Nat, k < n ∧ v2 = nI (10 + k) ∧ v2 - 10 = nI k := by
      intro q0 q1 q2
      rcases h2 with h2 | ⟨k, hk, rfl⟩
      · obtain ⟨k, hk, rfl⟩ := z_rg (n := 2) (by omega) h2
        have : k = 0 ∨ k = 1 ∨ k = 2 := by omega
        rcases this with rfl | rfl | rfl
        · exact absurd rfl q0
        · exact absurd rfl q1
        · exact absurd rfl q2
      · exact ⟨k, hk, rfl, z_m10 k⟩
    by_cases hv : 0 ≤ v1 ∧ v1 ≤ 60
    · obtain ⟨M, hM, rfl⟩ := z_rg (n := 60) (by omega) hv
      refine z_ask (v := .inl (z_onA n K (z_htN H M ht) (fun b => z_wN H (K b) M ht hr (W b)) (fun b => z_cN H (K b) M ht (C b)) v2)) hR ?_ (fun S' hf => ?_)
      · have e : z_exe z_mt true 40 88 [.inr (.inr (11, 0)), .inl (nI M), .inl v2] S = _ := (zx_X11_on 39 S 0 (nI M) v2).trans (ze_X11_on_0 _ _ _ _ _ _)
        obtain ⟨q, S1, e1, rfl, k1, k2, k3⟩ := s_tryHours 32 M hts n hr h c0 ht wd H K W C S hA hM
        refine ⟨S1, ?_, z_Ptr_sk k3⟩
        -- the switch, behind the try
        have sw : (if v2 = (0 : Int32) then (z_rI (z_exe z_mt true 39 57 [.inr (.inr (7, 2))] S1) (fun r S8 => some (some (.inl r), S8))) else if v2 = (1 : Int32) then (some (some (.inl (S1.1 9 2 0)), S1)) else if v2 = (2 : Int32) then (z_rI (z_exe z_mt true 39 58 [.inr (.inr (7, 2))] S1) (fun r S8 => some (some (.inl r), S8))) else cond (z_oob (v2 - (10 : Int32)) 6) none (some (some (.inl (S1.1 2 (6 * 2 + (Int32.toNatClampNeg (v2 - (10 : Int32)))) 3)), S1))) = (some (some (Sum.inl (z_onA n K (z_htN H M ht) (fun b => z_wN H (K b) M ht hr (W b)) (fun b => z_cN H (K b) M ht (C b)) v2)), S1) : Option (Option z_AV × z_Mem)) := by
          unfold z_onA
          by_cases q0 : v2 = 0
          · rw [if_pos q0, if_pos q0, s_wetOfThoseHere 38 2 h n _ _ H K _ _ S1 hn k2 k1, z_rI_s]
          rw [if_neg q0, if_neg q0]
          by_cases q1 : v2 = 1
          · rw [if_pos q1, if_pos q1, k1.2.2.1]
          rw [if_neg q1, if_neg q1]
          by_cases q2 : v2 = 2
          · rw [if_pos q2, if_pos q2, s_cracksOfAll 38 2 h n _ _ H K _ _ S1 hn k2 k1, z_rI_s]
          rw [if_neg q2, if_neg q2]
          obtain ⟨k, hk, -, e10⟩ := hix q0 q1 q2
          rw [e10, z_oob_n (k := k) (by omega) (by omega), z_cl (k := k) (by omega), (k1.2.2.2.2 k hk).2.1]
          rfl
        rw [e, s_outside, z_rI_s]
        by_cases q : 0 ≤ v2 ∧ v2 ≤ 2
        · rw [z_b1_F (fun z => z q), if_pos rfl, if_neg z_01n, s_outside, z_rI_s, z_b1_F (fun z => z hv), if_pos rfl, e1, z_rV_s]
          exact sw
        · rw [z_b1_T q, if_neg z_01n, if_pos rfl, if_neg (hc9 q).1, s_noPair 38 n _ S hn c7, z_rI_s, z_b1_F (fun z => z (hc9 q).2), if_pos rfl, s_outside, z_rI_s, z_b1_F (fun z => z hv), if_pos rfl, e1, z_rV_s]
          exact sw
      · have hA' := hA.sk hf
        have hN' := hN.sk hf
        have hB' := hB.sk hf
        have c7' : S'.1 7 0 1 = nI n := hA'.2.1.1.1
        have c12' : S'.1 12 0 0 = nI n := hA'.2.1.2.1
        have e : z_exe z_mt true 40 182 [.inr (.inr (12, 0)), .inl (nI M), .inl v2] S' = _ := (zx_X12_on 39 S' 0 (nI M) v2).trans (ze_X12_on_0 _ _ _ _ _ _)
        obtain ⟨S1, S2, S3, e1, e2, hR2, hg, e3, hf3⟩ := s_mtry 32 M c0 n hr H ht K W C S' hH hn hM hhr hN'.2.2.2.1 hA'.Rm hC
        refine ⟨S3, ?_, z_Psc_sk hf3⟩
        have sw0 : v2 = 0 → z_onA n K (z_htN H M ht) (fun b => z_wN H (K b) M ht hr (W b)) (fun b => z_cN H (K b) M ht (C b)) v2 = z_sg (z_fw K (fun b => z_wN H (K b) M ht hr (W b))) 0 n 0 := fun q => by unfold z_onA; rw [if_pos q]
        rw [e, s_in, z_rI_s]
        by_cases q : 0 ≤ v2 ∧ v2 ≤ 2
        · rw [z_b1_T q, if_neg z_01n, s_isHours, z_rI_s, z_b1_T hv, if_neg z_01n, e1, z_rV_s, e2, z_rV_s]
          unfold z_onA
          by_cases q0 : v2 = 0
          · rw [if_pos q0, if_pos q0, s_wetHere 37 c0 n _ _ H K _ _ S2 hn hR2, z_rI_s, e3, z_rV_s]
          rw [if_neg q0, if_neg q0]
          by_cases q1 : v2 = 1
          · rw [if_pos q1, if_pos q1]
            try dsimp only
            rw [e3, z_rV_s, hR2.2.2.1]
          rw [if_neg q1, if_neg q1]
          by_cases q2 : v2 = 2
          · rw [if_pos q2, if_pos q2, s_allCracks 37 c0 n _ _ H K _ _ S2 hn hR2, z_rI_s, e3, z_rV_s]
          obtain ⟨k, hk, e4, -⟩ := hix q0 q1 q2
          rw [e4] at q
          have := q.2
          rw [show (2 : Int32) = nI 2 from rfl, z_le (by omega) (by omega)] at this
          omega
        · rw [z_b1_F q, if_pos rfl, s_in, z_rI_s, c12', z_b1_T (hm9 q), if_neg z_01n, s_isHours, z_rI_s, z_b1_T hv, if_neg z_01n, e1, z_rV_s, e2, z_rV_s]
          unfold z_onA
          by_cases q0 : v2 = 0
          · exact absurd (by rw [q0]; decide) q
          by_cases q1 : v2 = 1
          · exact absurd (by rw [q1]; decide) q
          by_cases q2 : v2 = 2
          · exact absurd (by rw [q2]; decide) q
          rw [if_neg q0, if_neg q0, if_neg q1, if_neg q1, if_neg q2, if_neg q2]
          obtain ⟨k, hk, -, e10⟩ := hix q0 q1 q2
          rw [e10, z_oob_n (k := k) (by omega) (by omega), z_cl (k := k) (by omega), (hR2.2.2.2.2 k hk).2.1]
          dsimp only [cond]
          rw [e3, z_rV_s]
    · refine z_ask (v := .inl (-2)) hR ⟨S, ?_, z_fx.rf⟩ (fun S' hf => ⟨S', ?_, z_fx.rf⟩)
      · have e : z_exe z_mt true 40 88 [.inr (.inr (11, 0)), .inl v1, .inl v2] S = _ := (zx_X11_on 39 S 0 v1 v2).trans (ze_X11_on_0 _ _ _ _ _ _)
        rw [e, s_outside, z_rI_s]
        by_cases q : 0 ≤ v2 ∧ v2 ≤ 2
        · rw [z_b1_F (fun z => z q), if_pos rfl, if_neg z_01n, s_outside, z_rI_s, z_b1_T hv, if_neg z_01n]
        · rw [z_b1_T q, if_neg z_01n, if_pos rfl, if_neg (hc9 q).1, s_noPair 38 n _ S hn c7, z_rI_s, z_b1_F (fun z => z (hc9 q).2), if_pos rfl, s_outside, z_rI_s, z_b1_T hv, if_neg z_01n]
      · have hA' := hA.sk hf
        have hN' := hN.sk hf
        have hB' := hB.sk hf
        have c7' : S'.1 7 0 1 = nI n := hA'.2.1.1.1
        have c12' : S'.1 12 0 0 = nI n := hA'.2.1.2.1
        have e : z_exe z_mt true 40 182 [.inr (.inr (12, 0)), .inl v1, .inl v2] S' = _ := (zx_X12_on 39 S' 0 v1 v2).trans (ze_X12_on_0 _ _ _ _ _ _)
        rw [e, s_in, z_rI_s]
        by_cases q : 0 ≤ v2 ∧ v2 ≤ 2
        · rw [z_b1_T q, if_neg z_01n, s_isHours, z_rI_s, z_b1_F hv, if_pos rfl]
        · rw [z_b1_F q, if_pos rfl, s_in, z_rI_s, c12', z_b1_T (hm9 q), if_neg z_01n, s_isHours, z_rI_s, z_b1_F hv, if_pos rfl]
  · have q : ¬ (0 ≤ v2 ∧ v2 ≤ 2) := fun q => h2 (Or.inl q)
    refine z_ask (v := .inl (-1)) hR ⟨S, ?_, z_fx.rf⟩ (fun S' hf => ⟨S', ?_, z_fx.rf⟩)
    · have e : z_exe z_mt true 40 88 [.inr (.inr (11, 0)), .inl v1, .inl v2] S = _ := (zx_X11_on 39 S 0 v1 v2).trans (ze_X11_on_0 _ _ _ _ _ _)
      rw [e, s_outside, z_rI_s, z_b1_T q, if_neg z_01n, if_pos rfl]
      by_cases q10 : v2 < 10
      · rw [if_pos q10]
      · obtain ⟨k, hk, rfl⟩ := z_ten q10
        rw [if_neg q10, s_noPair 38 n _ S hn c7, z_rI_s, z_m10, z_b1_T (c := ¬ (0 ≤ nI k ∧ nI k ≤ nI n - 1)) (fun z => h2 (Or.inr ⟨k, (z_isP_n hn (by omega)).mp z, rfl⟩)), if_neg z_01n]
    · have hA' := hA.sk hf
      have hN' := hN.sk hf
      have hB' := hB.sk hf
      have c7' : S'.1 7 0 1 = nI n := hA'.2.1.1.1
      have c12' : S'.1 12 0 0 = nI n := hA'.2.1.2.1
      have e : z_exe z_mt true 40 182 [.inr (.inr (12, 0)), .inl v1, .inl v2] S' = _ := (zx_X12_on 39 S' 0 v1 v2).trans (ze_X12_on_0 _ _ _ _ _ _)
      rw [e, s_in, z_rI_s, z_b1_F q, if_pos rfl, s_in, z_rI_s, c12', z_b1_F, if_pos rfl]
      intro z
      obtain ⟨k, hk, rfl⟩ := z_ten (Int32.not_lt.mpr z.1)
      rw [z_p9] at z
      exact h2 (Or.inr ⟨k, (z_in9 hn hk).mp z, rfl⟩)
