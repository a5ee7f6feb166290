/-! ===== the text: the model's E ===== -/
theorem s_mplace (d : Nat) (v : Int32) (S : z_Mem) : z_exe z_mt true (d + 1) 152 [.inr (.inr (12, 0)), .inl v] S = some (some (.inl (if z_plt v = 9 then -1 else nI (z_plt v))), S) := by
  have e : z_exe z_mt true (d + 1) 152 [.inr (.inr (12, 0)), .inl v] S = _ := (zx_X12_place d S 0 v).trans (ze_X12_place_0 _ _ _ _ _)
  rw [e]
  unfold z_plt
  by_cases h1 : v = 98
  · rw [if_pos h1, if_pos h1]; rfl
  rw [if_neg h1, if_neg h1]
  by_cases h2 : v = 104
  · rw [if_pos h2, if_pos h2]; rfl
  rw [if_neg h2, if_neg h2]
  by_cases h3 : v = 107
  · rw [if_pos h3, if_pos h3]; rfl
  rw [if_neg h3, if_neg h3]
  by_cases h4 : v = 112
  · rw [if_pos h4, if_pos h4]; rfl
  rw [if_neg h4, if_neg h4]
  by_cases h5 : v = 118
  · rw [if_pos h5, if_pos h5]; rfl
  rw [if_neg h5, if_neg h5]
  by_cases h6 : v = 119
  · rw [if_pos h6, if_pos h6]; rfl
  rw [if_neg h6, if_neg h6]; rfl
theorem z_cm_iff {len : Nat} {c : Nat → Int32} (ht : z_tx len c) (p : Nat) : ((60 ≤ c p ∧ c p ≤ 62) ↔ ¬ z_cm (c p) = 9) ∧ (¬ z_cm (c p) = 9 → c p - 60 = nI (z_cm (c p))) := by
  by_cases q : p < len
  · obtain ⟨x, hx, ex⟩ := ht.2.1 p q
    have hcm : z_cm (c p) = if x = 60 then 0 else if x = 61 then 1 else if x = 62 then 2 else 9 := by
      unfold z_cm
      rw [ex, show (60 : Int32) = nI 60 from rfl, show (61 : Int32) = nI 61 from rfl, show (62 : Int32) = nI 62 from rfl]
      simp only [nI_eq (show x < 2 ^ 31 by omega) (show 60 < 2 ^ 31 by omega), nI_eq (show x < 2 ^ 31 by omega) (show 61 < 2 ^ 31 by omega), nI_eq (show x < 2 ^ 31 by omega) (show 62 < 2 ^ 31 by omega)]
    have hin : (60 ≤ c p ∧ c p ≤ 62) ↔ (60 ≤ x ∧ x ≤ 62) := by
      rw [ex, show (60 : Int32) = nI 60 from rfl, show (62 : Int32) = nI 62 from rfl, z_le (by omega) (by omega), z_le (by omega) (by omega)]
    rw [hcm, hin, ex]
    by_cases h1 : x = 60
    · subst h1; decide
    by_cases h2 : x = 61
    · subst h2; decide
    by_cases h3 : x = 62
    · subst h3; decide
    rw [if_neg h1, if_neg h2, if_neg h3]
    exact ⟨⟨fun z => by omega, fun z => absurd rfl z⟩, fun z => absurd rfl z⟩
  · rw [ht.2.2 p (by omega)]
    exact ⟨⟨fun z => absurd z (by decide), fun z => absurd (by decide) z⟩, fun z => absurd (by decide) z⟩
theorem s_mtest (d len A cI p : Nat) (c : Nat → Int32) (ht : z_tx len c) (hA : A ≤ 500) (W : List Nat) (out : List z_Tk) (S : z_Mem) (hc : z_mx2 c len S) (hm : z_ms len A p W out S) :
    ∃ S', z_exe z_mt true (d + 4) 153 [.inr (.inr (12, 0))] S = some (some (.inl (if (z_pt c p).1 = true then 1 else 0)), S') ∧ S'.1 12 0 14 = nI (z_pt c p).2.1 ∧ ((z_pt c p).1 = true → z_ms len A (z_pt c p).2.1 (z_fW W) (out ++ ((z_pt c p).2.2 ++ z_fNs W)) S') ∧ z_fx (z_Pme A cI) S S' := by
  have e : z_exe z_mt true (d + 4) 153 [.inr (.inr (12, 0))] S = _ := (zx_X12_takesTest (d + 3) S 0).trans (ze_X12_takesTest_0 _ _ _ _)
  have hl := ht.1
  obtain ⟨⟨m1, m2⟩, m3, m4, m5, m8, m9, m10⟩ := hm
  rw [e, s_next (d + 2) len p c S ht hc m3 m1, z_rI_s, s_mplace, z_rI_s, m3, nI_1]
  unfold z_pt
  by_cases h1 : z_plt (c p) = 9
  · rw [if_pos h1, if_pos h1, if_neg (by decide)]
    exact ⟨S, rfl, m3, fun q => absurd q Bool.false_ne_true, z_fx.rf⟩
  rw [if_neg h1, if_neg h1]
  obtain ⟨k1, k2⟩ := z_pl_lt ht h1
  have f1 : z_fx (z_Pme A cI) S (z_sI S 12 0 14 (nI (p + 1))) := z_fx.sI ⟨rfl, Or.inl ⟨rfl, by omega⟩⟩
  have hc1 := hc.me f1
  rw [if_pos (nI_pos' (by omega))]
  try dsimp only
  rw [s_next (d + 2) len (p + 1) c _ ht hc1 (z_m14 _ _) (by omega), z_rI_s, s_in, z_rI_s, z_m14, nI_1]
  obtain ⟨i1, i2⟩ := z_cm_iff ht (p + 1)
  by_cases h2 : z_cm (c (p + 1)) = 9
  · rw [if_pos h2, z_b1_F (fun z => i1.mp z h2), if_pos rfl]
    exact ⟨_, rfl, z_m14 _ _, fun q => absurd q Bool.false_ne_true, f1⟩
  rw [if_neg h2, z_b1_T (i1.mpr h2), if_neg z_01n]
  obtain ⟨k3, k4⟩ := z_cm_lt ht h2
  have f2 : z_fx (z_Pme A cI) (z_sI S 12 0 14 (nI (p + 1))) (z_sI (z_sI S 12 0 14 (nI (p + 1))) 12 0 14 (nI (p + 1 + 1))) := z_fx.sI ⟨rfl, Or.inl ⟨rfl, by omega⟩⟩
  have hc2 := hc1.me f2
  try dsimp only
  obtain ⟨S3, e3, a3, b3, f3⟩ := s_mnum d len (p + 1 + 1) c _ ht hc2 (z_m14 _ _) (by omega)
  have f3' : z_fx (z_Pme A cI) (z_sI (z_sI S 12 0 14 (nI (p + 1))) 12 0 14 (nI (p + 1 + 1))) S3 := f3.wk (fun t i k q => by unfold z_Pme; omega)
  have F := (f1.tr f2).tr f3'
  obtain ⟨n1, n2, n3⟩ := z_nm_ok ht (p := p + 1 + 1) (by omega)
  rw [e3, z_rI_s]
  by_cases h3 : (z_nm c (p + 1 + 1)).1 = true
  · have h3' : (z_nm c (p + 2)).1 = true := h3
    rw [if_pos h3, if_pos h3', if_neg z_01n, b3 h3, i2 h2]
    obtain ⟨n4, n5⟩ := n3 h3
    have hG : S3.1 12 0 24 = nI (A + out.length) := by rw [f3.i (by omega), z_sI1, if_neg (by omega), z_sI1, if_neg (by omega)]; exact m9
    rw [s_emits (d + 2) (A + out.length) _ S3 hG (by omega), z_rV_s]
    have ex : (1000 : Int32) * nI (z_plt (c p)) + 100 * nI (z_cm (c (p + 1))) + nI (z_nm c (p + 1 + 1)).2.2 = z_ts (0, (z_plt (c p) * 3 + z_cm (c (p + 1))) * 100 + (z_nm c (p + 2)).2.2) := by
      have h3n : (z_nm c (p + 2)).2.2 < 100 := n5
      show _ = nI (1000 * (((z_plt (c p) * 3 + z_cm (c (p + 1))) * 100 + (z_nm c (p + 2)).2.2) / 300) + 100 * (((z_plt (c p) * 3 + z_cm (c (p + 1))) * 100 + (z_nm c (p + 2)).2.2) / 100 % 3) + ((z_plt (c p) * 3 + z_cm (c (p + 1))) * 100 + (z_nm c (p + 2)).2.2) % 100)
      rw [show (1000 : Int32) * nI (z_plt (c p)) = nI (1000 * z_plt (c p)) from pk_mul 1000 _, show (100 : Int32) * nI (z_cm (c (p + 1))) = nI (100 * z_cm (c (p + 1))) from pk_mul 100 _, nI_add, nI_add]
      congr 1
      show 1000 * z_plt (c p) + 100 * z_cm (c (p + 1)) + (z_nm c (p + 2)).2.2 = _
      omega
    have f4 := z_emfx (A := A) (cI := cI) (G := A + out.length) (by omega) S3 (1000 * nI (z_plt (c p)) + 100 * nI (z_cm (c (p + 1))) + nI (z_nm c (p + 1 + 1)).2.2) (nI (A + out.length + 1))
    have hout : z_tkl (S3.1 49 0) z_ts A out := z_tk_cg m10 (fun k hk => by rw [f3.i (by omega), z_sI1, if_neg (by omega), z_sI1, if_neg (by omega)])
    have hm4 : z_ms len A (z_nm c (p + 2)).2.1 W (out ++ [(0, (z_plt (c p) * 3 + z_cm (c (p + 1))) * 100 + (z_nm c (p + 2)).2.2)]) (z_sI (z_sI S3 49 0 (A + out.length) (1000 * nI (z_plt (c p)) + 100 * nI (z_cm (c (p + 1))) + nI (z_nm c (p + 1 + 1)).2.2)) 12 0 24 (nI (A + out.length + 1))) := by
      have n4' : p + 2 + 1 ≤ (z_nm c (p + 2)).2.1 := n4
      refine ⟨⟨n2, by rw [List.length_append, List.length_singleton]; omega⟩, ?_, ?_, z_wst_cg m5 (fun k hk => ?_), ?_, ?_, z_tk_snoc hout rfl ex⟩
      · rw [z_sI1, if_neg (by omega), z_sI1, if_neg (by omega)]; exact a3
      · rw [z_sI1, if_neg (by omega), z_sI1, if_neg (by omega), f3.i (by omega), z_sI1, if_neg (by omega), z_sI1, if_neg (by omega)]; exact m4
      · rw [z_sI1, if_neg (by omega), z_sI1, if_neg (by omega), f3.i (by omega), z_sI1, if_neg (by omega), z_sI1, if_neg (by omega)]
      · rw [z_sI1, if_neg (by omega), z_sI1, if_neg (by omega), f3.i (by omega), z_sI1, if_neg (by omega), z_sI1, if_neg (by omega)]; exact m8
      · rw [z_sI1, if_pos ⟨rfl, rfl, rfl⟩, List.length_append, List.length_singleton]; rfl
    obtain ⟨S5, e5, h5, f5⟩ := s_whole (d + 1) len A cI hl hA _ W _ _ hm4
    rw [e5, z_rV_s]
    refine ⟨S5, rfl, h5.2.1, fun _ => ?_, (F.tr f4).tr f5⟩
    rw [List.append_assoc] at h5
    exact h5
  · have h3' : ¬ (z_nm c (p + 2)).1 = true := h3
    rw [if_neg h3, if_neg h3', if_pos rfl]
    exact ⟨S3, rfl, a3, fun q => absurd q Bool.false_ne_true, F⟩
/-! the loop of E, step by step -/
theorem z_ms.push {len A p x : Nat} {W : List Nat} {out : List z_Tk} {S : z_Mem} (hm : z_ms len A p W out S) (hx : x = 33 ∨ x = 40 ∨ x = 38 ∨ x = 124) (hp : p < len) (hl : len ≤ 100) {S' : z_Mem} (e14 : S'.1 12 0 14 = nI (p + 1)) (e25 : S'.1 12 0 25 = nI (W.length + 1)) (e50 : S'.1 50 0 W.length = nI x) (e26 : S'.1 12 0 26 = nI (z_opn (x :: W))) (e24 : S'.1 12 0 24 = S.1 12 0 24) (o50 : ∀ k, k < W.length → S'.1 50 0 k = S.1 50 0 k) (o49 : ∀ k, S'.1 49 0 k = S.1 49 0 k) : z_ms len A (p + 1) (x :: W) out S' := by
  obtain ⟨⟨m1, m2⟩, m3, m4, m5, m8, m9, m10⟩ := hm
  exact ⟨⟨hp, by show out.length + (W.length + 1) ≤ p + 1; omega⟩, e14, e25, ⟨hx, e50, z_wst_cg m5 o50⟩, e26, e24.trans m9, z_tk_cg m10 (fun k hk => o49 _)⟩
theorem st_push33 (d len A cI p N : Nat) (c : Nat → Int32) (ht : z_tx len c) (W : List Nat) (out : List z_Tk) (S : z_Mem) (hc : z_mx2 c len S) (hm : z_ms len A p W out S) (hop : z_opn W < 4) (hx : c p = 33) :
    ∃ S', zr_X12_takesE (z_exe z_mt true (d + 4)) (N + 1) 22 [some (.inr (.inr (12, 0))), some (.inl (nI cI)), some (.inl 1), none] [] S = zr_X12_takesE (z_exe z_mt true (d + 4)) N 22 [some (.inr (.inr (12, 0))), some (.inl (nI cI)), some (.inl 1), none] [] S' ∧ z_ms len A (p + 1) (33 :: W) out S' ∧ z_fx (z_Pme A cI) S S' := by
  have hl := ht.1
  have hpl := ht.lt (by decide) hx
  have m := hm.1
  have hopW := z_opn_le W
  have h25 := hm.2.2.1
  have h26 := hm.2.2.2.2.1
  have h14 := hm.2.1
  have e1 : (z_sI S 12 0 26 (nI (z_opn W + 1))).1 12 0 25 = nI W.length := by rw [z_sI1, if_neg (by omega)]; exact h25
  have e2 : (z_sI (z_sI S 12 0 26 (nI (z_opn W + 1))) 50 0 W.length 33).1 12 0 25 = nI W.length := by rw [z_sI1, if_neg (by omega)]; exact e1
  have e3 : (z_sI (z_sI (z_sI S 12 0 26 (nI (z_opn W + 1))) 50 0 W.length 33) 12 0 25 (nI (W.length + 1))).1 12 0 14 = nI p := by rw [z_sI1, if_neg (by omega), z_sI1, if_neg (by omega), z_sI1, if_neg (by omega)]; exact h14
  refine ⟨z_sI (z_sI (z_sI (z_sI S 12 0 26 (nI (z_opn W + 1))) 50 0 W.length 33) 12 0 25 (nI (W.length + 1))) 12 0 14 (nI (p + 1)), ?_, ?_, ?_⟩
  · rw [ze_X12_takesE_22, s_next (d + 3) len p c S ht hc h14 m.1, z_rI_s, hx, if_neg z_01n, if_pos (by decide), h26, if_neg (by rw [show (4 : Int32) = nI 4 from rfl, nI_eq (by omega) (by omega)]; omega)]
    try dsimp only
    rw [nI_1, e1, z_oob_n (k := W.length) (by omega) (by omega), z_cl (k := W.length) (by omega)]
    simp only [z_cnf]
    rw [e2, nI_1, e3, nI_1]
  · refine hm.push (by omega) hpl hl (z_m14 _ _) ?_ ?_ ?_ ?_ (fun k hk => ?_) (fun k => ?_)
    · rw [z_sI1, if_neg (by omega), z_sI1, if_pos ⟨rfl, rfl, rfl⟩]
    · rw [z_sI1, if_neg (by omega), z_sI1, if_neg (by omega), z_sI1, if_pos ⟨rfl, rfl, rfl⟩]; rfl
    · rw [z_sI1, if_neg (by omega), z_sI1, if_neg (by omega), z_sI1, if_neg (by omega), z_sI1, if_pos ⟨rfl, rfl, rfl⟩]; rfl
    · rw [z_sI1, if_neg (by omega), z_sI1, if_neg (by omega), z_sI1, if_neg (by omega), z_sI1, if_neg (by omega)]
    · rw [z_sI1, if_neg (by omega), z_sI1, if_neg (by omega), z_sI1, if_neg (by omega), z_sI1, if_neg (by omega)]
    · rw [z_sI1, if_neg (by omega), z_sI1, if_neg (by omega), z_sI1, if_neg (by omega), z_sI1, if_neg (by omega)]
  · exact (((z_fx.sI ⟨rfl, Or.inl ⟨rfl, by omega⟩⟩).tr (z_fx.sI ⟨rfl, Or.inr (Or.inl rfl)⟩)).tr (z_fx.sI ⟨rfl, Or.inl ⟨rfl, by omega⟩⟩)).tr (z_fx.sI ⟨rfl, Or.inl ⟨rfl, by omega⟩⟩)
theorem st_full33 (d len A cI p N : Nat) (c : Nat → Int32) (ht : z_tx len c) (W : List Nat) (out : List z_Tk) (S : z_Mem) (hc : z_mx2 c len S) (hm : z_ms len A p W out S) (hop : z_opn W = 4) (hx : c p = 33) :
    zr_X12_takesE (z_exe z_mt true (d + 4)) (N + 1) 22 [some (.inr (.inr (12, 0))), some (.inl (nI cI)), some (.inl 1), none] [] S = some (some (.inl 0), S) := by
  have m := hm.1
  rw [ze_X12_takesE_22, s_next (d + 3) len p c S ht hc hm.2.1 m.1, z_rI_s, hx, if_neg z_01n, if_pos (by decide), hm.2.2.2.2.1, if_pos (by rw [hop]; rfl)]
theorem st_push40 (d len A cI p N : Nat) (c : Nat → Int32) (ht : z_tx len c) (W : List Nat) (out : List z_Tk) (S : z_Mem) (hc : z_mx2 c len S) (hm : z_ms len A p W out S) (hop : z_opn W < 4) (hx : c p = 40) :
    ∃ S', zr_X12_takesE (z_exe z_mt true (d + 4)) (N + 1) 22 [some (.inr (.inr (12, 0))), some (.inl (nI cI)), some (.inl 1), none] [] S = zr_X12_takesE (z_exe z_mt true (d + 4)) N 22 [some (.inr (.inr (12, 0))), some (.inl (nI cI)), some (.inl 1), none] [] S' ∧ z_ms len A (p + 1) (40 :: W) out S' ∧ z_fx (z_Pme A cI) S S' := by
  have hl := ht.1
  have hpl := ht.lt (by decide) hx
  have m := hm.1
  have hopW := z_opn_le W
  have h25 := hm.2.2.1
  have h26 := hm.2.2.2.2.1
  have h14 := hm.2.1
  have e1 : (z_sI S 12 0 26 (nI (z_opn W + 1))).1 12 0 25 = nI W.length := by rw [z_sI1, if_neg (by omega)]; exact h25
  have e2 : (z_sI (z_sI S 12 0 26 (nI (z_opn W + 1))) 50 0 W.length 40).1 12 0 25 = nI W.length := by rw [z_sI1, if_neg (by omega)]; exact e1
  have e3 : (z_sI (z_sI (z_sI S 12 0 26 (nI (z_opn W + 1))) 50 0 W.length 40) 12 0 25 (nI (W.length + 1))).1 12 0 14 = nI p := by rw [z_sI1, if_neg (by omega), z_sI1, if_neg (by omega), z_sI1, if_neg (by omega)]; exact h14
  refine ⟨z_sI (z_sI (z_sI (z_sI S 12 0 26 (nI (z_opn W + 1))) 50 0 W.length 40) 12 0 25 (nI (W.length + 1))) 12 0 14 (nI (p + 1)), ?_, ?_, ?_⟩
  · rw [ze_X12_takesE_22, s_next (d + 3) len p c S ht hc h14 m.1, z_rI_s, hx, if_neg z_01n, if_neg (by decide), if_pos (by decide), h26, if_neg (by rw [show (4 : Int32) = nI 4 from rfl, nI_eq (by omega) (by omega)]; omega)]
    try dsimp only
    rw [nI_1, e1, z_oob_n (k := W.length) (by omega) (by omega), z_cl (k := W.length) (by omega)]
    simp only [z_cnf]
    rw [e2, nI_1, e3, nI_1]
  · refine hm.push (by omega) hpl hl (z_m14 _ _) ?_ ?_ ?_ ?_ (fun k hk => ?_) (fun k => ?_)
    · rw [z_sI1, if_neg (by omega), z_sI1, if_pos ⟨rfl, rfl, rfl⟩]
    · rw [z_sI1, if_neg (by omega), z_sI1, if_neg (by omega), z_sI1, if_pos ⟨rfl, rfl, rfl⟩]; rfl
    · rw [z_sI1, if_neg (by omega), z_sI1, if_neg (by omega), z_sI1, if_neg (by omega), z_sI1, if_pos ⟨rfl, rfl, rfl⟩]; rfl
    · rw [z_sI1, if_neg (by omega), z_sI1, if_neg (by omega), z_sI1, if_neg (by omega), z_sI1, if_neg (by omega)]
    · rw [z_sI1, if_neg (by omega), z_sI1, if_neg (by omega), z_sI1, if_neg (by omega), z_sI1, if_neg (by omega)]
    · rw [z_sI1, if_neg (by omega), z_sI1, if_neg (by omega), z_sI1, if_neg (by omega), z_sI1, if_neg (by omega)]
  · exact (((z_fx.sI ⟨rfl, Or.inl ⟨rfl, by omega⟩⟩).tr (z_fx.sI ⟨rfl, Or.inr (Or.inl rfl)⟩)).tr (z_fx.sI ⟨rfl, Or.inl ⟨rfl, by omega⟩⟩)).tr (z_fx.sI ⟨rfl, Or.inl ⟨rfl, by omega⟩⟩)
theorem st_full40 (d len A cI p N : Nat) (c : Nat → Int32) (ht : z_tx len c) (W : List Nat) (out : List z_Tk) (S : z_Mem) (hc : z_mx2 c len S) (hm : z_ms len A p W out S) (hop : z_opn W = 4) (hx : c p = 40) :
    zr_X12_takesE (z_exe z_mt true (d + 4)) (N + 1) 22 [some (.inr (.inr (12, 0))), some (.inl (nI cI)), some (.inl 1), none] [] S = some (some (.inl 0), S) := by
  have m := hm.1
  rw [ze_X12_takesE_22, s_next (d + 3) len p c S ht hc hm.2.1 m.1, z_rI_s, hx, if_neg z_01n, if_neg (by decide), if_pos (by decide), hm.2.2.2.2.1, if_pos (by rw [hop]; rfl)]
theorem st_test (d len A cI p N : Nat) (c : Nat → Int32) (ht : z_tx len c) (hA : A ≤ 500) (W : List Nat) (out : List z_Tk) (S : z_Mem) (hc : z_mx2 c len S) (hm : z_ms len A p W out S) (h33 : ¬ c p = 33) (h40 : ¬ c p = 40) :
    ∃ S', zr_X12_takesE (z_exe z_mt true (d + 4)) (N + 1) 22 [some (.inr (.inr (12, 0))), some (.inl (nI cI)), some (.inl 1), none] [] S = (if (z_pt c p).1 = true then zr_X12_takesE (z_exe z_mt true (d + 4)) N 22 [some (.inr (.inr (12, 0))), some (.inl (nI cI)), some (.inl 0), none] [] S' else some (some (.inl 0), S')) ∧ S'.1 12 0 14 = nI (z_pt c p).2.1 ∧ ((z_pt c p).1 = true → z_ms len A (z_pt c p).2.1 (z_fW W) (out ++ ((z_pt c p).2.2 ++ z_fNs W)) S') ∧ z_fx (z_Pme A cI) S S' := by
  have m := hm.1
  obtain ⟨S', e1, a1, b1, f1⟩ := s_mtest d len A cI p c ht hA W out S hc hm
  refine ⟨S', ?_, a1, b1, f1⟩
  rw [ze_X12_takesE_22, s_next (d + 3) len p c S ht hc hm.2.1 m.1, z_rI_s, if_neg z_01n, if_neg h33, if_neg h40, e1, z_rI_s]
  by_cases q : (z_pt c p).1 = true
  · rw [if_pos q, if_neg z_01n, if_pos q]
  · rw [if_neg q, if_pos rfl, if_neg q]
theorem st_sep38 (d len A cI p N : Nat) (c : Nat → Int32) (ht : z_tx len c) (hA : A ≤ 500) (pd W : List Nat) (out : List z_Tk) (S : z_Mem) (hc : z_mx2 c len S) (hm : z_ms len A p (pd ++ W) out S) (hpd : ∀ x, x ∈ pd → x = 38 ∨ x = 124 ∧ ¬ (38 : Int32) = 38) (hW : z_stop 38 W) (hx : c p = 38) :
    ∃ S', zr_X12_takesE (z_exe z_mt true (d + 4)) (N + 1) 22 [some (.inr (.inr (12, 0))), some (.inl (nI cI)), some (.inl 0), none] [] S = zr_X12_takesE (z_exe z_mt true (d + 4)) N 22 [some (.inr (.inr (12, 0))), some (.inl (nI cI)), some (.inl 1), none] [] S' ∧ z_ms len A (p + 1) (38 :: W) (out ++ pd.map z_opt) S' ∧ z_fx (z_Pme A cI) S S' := by
  have hl := ht.1
  have hpl := ht.lt (by decide) hx
  have m0 := hm.1
  obtain ⟨S1, e1, hm1, f1⟩ := s_settle (d + 2) len A cI hl hA p 38 W pd out S hW hpd hm
  have m := hm1.1
  have h25 := hm1.2.2.1
  have h14 := hm1.2.1
  have g1 : (z_sI S1 50 0 W.length 38).1 12 0 25 = nI W.length := by rw [z_sI1, if_neg (by omega)]; exact h25
  have g2 : (z_sI (z_sI S1 50 0 W.length 38) 12 0 25 (nI (W.length + 1))).1 12 0 14 = nI p := by rw [z_sI1, if_neg (by omega), z_sI1, if_neg (by omega)]; exact h14
  refine ⟨z_sI (z_sI (z_sI S1 50 0 W.length 38) 12 0 25 (nI (W.length + 1))) 12 0 14 (nI (p + 1)), ?_, ?_, f1.tr (((z_fx.sI ⟨rfl, Or.inr (Or.inl rfl)⟩).tr (z_fx.sI ⟨rfl, Or.inl ⟨rfl, by omega⟩⟩)).tr (z_fx.sI ⟨rfl, Or.inl ⟨rfl, by omega⟩⟩))⟩
  · rw [ze_X12_takesE_22, s_next (d + 3) len p c S ht hc hm.2.1 m0.1, z_rI_s, hx, if_pos rfl, if_pos (by decide), e1, z_rV_s, h25, z_oob_n (k := W.length) (by omega) (by omega), z_cl (k := W.length) (by omega)]
    simp only [z_cnf]
    rw [g1, nI_1, g2, nI_1]
  · refine hm1.push (by omega) hpl hl (z_m14 _ _) ?_ ?_ ?_ ?_ (fun k hk => ?_) (fun k => ?_)
    · rw [z_sI1, if_neg (by omega), z_sI1, if_pos ⟨rfl, rfl, rfl⟩]
    · rw [z_sI1, if_neg (by omega), z_sI1, if_neg (by omega), z_sI1, if_pos ⟨rfl, rfl, rfl⟩]; rfl
    · rw [z_sI1, if_neg (by omega), z_sI1, if_neg (by omega), z_sI1, if_neg (by omega)]; exact hm1.2.2.2.2.1
    · rw [z_sI1, if_neg (by omega), z_sI1, if_neg (by omega), z_sI1, if_neg (by omega)]
    · rw [z_sI1, if_neg (by omega), z_sI1, if_neg (by omega), z_sI1, if_neg (by omega)]
    · rw [z_sI1, if_neg (by omega), z_sI1, if_neg (by omega), z_sI1, if_neg (by omega)]
theorem st_sep124 (d len A cI p N : Nat) (c : Nat → Int32) (ht : z_tx len c) (hA : A ≤ 500) (pd W : List Nat) (out : List z_Tk) (S : z_Mem) (hc : z_mx2 c len S) (hm : z_ms len A p (pd ++ W) out S) (hpd : ∀ x, x ∈ pd → x = 38 ∨ x = 124 ∧ ¬ (124 : Int32) = 38) (hW : z_stop 124 W) (hx : c p = 124) :
    ∃ S', zr_X12_takesE (z_exe z_mt true (d + 4)) (N + 1) 22 [some (.inr (.inr (12, 0))), some (.inl (nI cI)), some (.inl 0), none] [] S = zr_X12_takesE (z_exe z_mt true (d + 4)) N 22 [some (.inr (.inr (12, 0))), some (.inl (nI cI)), some (.inl 1), none] [] S' ∧ z_ms len A (p + 1) (124 :: W) (out ++ pd.map z_opt) S' ∧ z_fx (z_Pme A cI) S S' := by
  have hl := ht.1
  have hpl := ht.lt (by decide) hx
  have m0 := hm.1
  obtain ⟨S1, e1, hm1, f1⟩ := s_settle (d + 2) len A cI hl hA p 124 W pd out S hW hpd hm
  have m := hm1.1
  have h25 := hm1.2.2.1
  have h14 := hm1.2.1
  have g1 : (z_sI S1 50 0 W.length 124).1 12 0 25 = nI W.length := by rw [z_sI1, if_neg (by omega)]; exact h25
  have g2 : (z_sI (z_sI S1 50 0 W.length 124) 12 0 25 (nI (W.length + 1))).1 12 0 14 = nI p := by rw [z_sI1, if_neg (by omega), z_sI1, if_neg (by omega)]; exact h14
  refine ⟨z_sI (z_sI (z_sI S1 50 0 W.length 124) 12 0 25 (nI (W.length + 1))) 12 0 14 (nI (p + 1)), ?_, ?_, f1.tr (((z_fx.sI ⟨rfl, Or.inr (Or.inl rfl)⟩).tr (z_fx.sI ⟨rfl, Or.inl ⟨rfl, by omega⟩⟩)).tr (z_fx.sI ⟨rfl, Or.inl ⟨rfl, by omega⟩⟩))⟩
  · rw [ze_X12_takesE_22, s_next (d + 3) len p c S ht hc hm.2.1 m0.1, z_rI_s, hx, if_pos rfl, if_neg (by decide), if_pos (by decide), e1, z_rV_s, h25, z_oob_n (k := W.length) (by omega) (by omega), z_cl (k := W.length) (by omega)]
    simp only [z_cnf]
    rw [g1, nI_1, g2, nI_1]
  · refine hm1.push (by omega) hpl hl (z_m14 _ _) ?_ ?_ ?_ ?_ (fun k hk => ?_) (fun k => ?_)
    · rw [z_sI1, if_neg (by omega), z_sI1, if_pos ⟨rfl, rfl, rfl⟩]
    · rw [z_sI1, if_neg (by omega), z_sI1, if_neg (by omega), z_sI1, if_pos ⟨rfl, rfl, rfl⟩]; rfl
    · rw [z_sI1, if_neg (by omega), z_sI1, if_neg (by omega), z_sI1, if_neg (by omega)]; exact hm1.2.2.2.2.1
    · rw [z_sI1, if_neg (by omega), z_sI1, if_neg (by omega), z_sI1, if_neg (by omega)]
    · rw [z_sI1, if_neg (by omega), z_sI1, if_neg (by omega), z_sI1, if_neg (by omega)]
    · rw [z_sI1, if_neg (by omega), z_sI1, if_neg (by omega), z_sI1, if_neg (by omega)]
/-- what E ends with: nothing more binds -/
theorem st_fin (d len A cI p N : Nat) (c : Nat → Int32) (ht : z_tx len c) (hA : A ≤ 500) (hcI : cI < 60) (pd W : List Nat) (out : List z_Tk) (S : z_Mem) (hc : z_mx2 c len S) (hm : z_ms len A p (pd ++ W) out S) (hpd : ∀ x, x ∈ pd → x = 38 ∨ x = 124) (hW : z_stop 124 W) (h38 : ¬ c p = 38) (h124 : ¬ c p = 124) :
    ∃ S', z_ms len A p W (out ++ pd.map z_opt) S' ∧ S'.1 48 0 cI = nI (A + (out ++ pd.map z_opt).length) ∧ z_fx (z_Pme A cI) S S' ∧
      (W = [] → zr_X12_takesE (z_exe z_mt true (d + 4)) (N + 1) 22 [some (.inr (.inr (12, 0))), some (.inl (nI cI)), some (.inl 0), none] [] S = some (some (.inl 1), S')) ∧
      (∀ r, W = 40 :: r → ¬ c p = 41 → zr_X12_takesE (z_exe z_mt true (d + 4)) (N + 1) 22 [some (.inr (.inr (12, 0))), some (.inl (nI cI)), some (.inl 0), none] [] S = some (some (.inl 0), S')) ∧
      (∀ r, W = 40 :: r → c p = 41 → ∃ S'', zr_X12_takesE (z_exe z_mt true (d + 4)) (N + 1) 22 [some (.inr (.inr (12, 0))), some (.inl (nI cI)), some (.inl 0), none] [] S = zr_X12_takesE (z_exe z_mt true (d + 4)) N 22 [some (.inr (.inr (12, 0))), some (.inl (nI cI)), some (.inl 0), none] [] S'' ∧ z_ms len A (p + 1) (z_fW r) (out ++ (pd.map z_opt ++ z_fNs r)) S'' ∧ z_fx (z_Pme A cI) S S'') := by
  have hl := ht.1
  have m0 := hm.1
  obtain ⟨S1, e1, hm1, f1⟩ := s_settle (d + 2) len A cI hl hA p 124 W pd out S hW (fun x hx => (hpd x hx).elim Or.inl (fun z => Or.inr ⟨z, by decide⟩)) hm
  obtain ⟨⟨m1, m2⟩, m3, m4, m5, m8, m9, m10⟩ := hm1
  have f2 : z_fx (z_Pme A cI) S1 (z_sI S1 48 0 cI (nI (A + (out ++ pd.map z_opt).length))) := z_fx.sI ⟨rfl, Or.inr (Or.inr (Or.inr ⟨rfl, rfl⟩))⟩
  have hm2 : z_ms len A p W (out ++ pd.map z_opt) (z_sI S1 48 0 cI (nI (A + (out ++ pd.map z_opt).length))) := by
    refine ⟨⟨m1, m2⟩, ?_, ?_, z_wst_cg m5 (fun k hk => ?_), ?_, ?_, z_tk_cg m10 (fun k hk => ?_)⟩
    · rw [z_sI1, if_neg (by omega)]; exact m3
    · rw [z_sI1, if_neg (by omega)]; exact m4
    · rw [z_sI1, if_neg (by omega)]
    · rw [z_sI1, if_neg (by omega)]; exact m8
    · rw [z_sI1, if_neg (by omega)]; exact m9
    · rw [z_sI1, if_neg (by omega)]
  have ee : zr_X12_takesE (z_exe z_mt true (d + 4)) (N + 1) 22 [some (.inr (.inr (12, 0))), some (.inl (nI cI)), some (.inl 0), none] [] S = _ := ze_X12_takesE_22 (z_exe z_mt true (d + 4)) N S 0 (nI cI) 0
  rw [s_next (d + 3) len p c S ht hc hm.2.1 m0.1, z_rI_s, if_pos rfl, if_neg h38, if_neg h124, e1, z_rV_s, z_oob_n (k := cI) (by omega) (by omega), z_cl (k := cI) (by omega), m9] at ee
  simp only [z_cnf] at ee
  rw [hm2.2.2.1] at ee
  refine ⟨_, hm2, by rw [z_sI1, if_pos ⟨rfl, rfl, rfl⟩], f1.tr f2, fun hW0 => ?_, fun r hr h41 => ?_, fun r hr h41 => ?_⟩
  · rw [ee, hW0, if_pos (by decide)]
  · have hrl : W.length = r.length + 1 := by rw [hr]; rfl
    rw [ee, if_neg (by rw [hrl]; exact nI_ne0 (by omega) (by omega)), if_neg h41]
  · have hrl : W.length = r.length + 1 := by rw [hr]; rfl
    have hop : z_opn W = z_opn r + 1 := by rw [hr]; show z_opn r + (if 40 = 33 ∨ 40 = 40 then 1 else 0) = _; rw [if_pos (Or.inr rfl)]
    rw [if_neg (by rw [hrl]; exact nI_ne0 (by omega) (by omega)), if_pos h41, hrl, nI_pred] at ee
    have g26 : (z_sI (z_sI S1 48 0 cI (nI (A + (out ++ pd.map z_opt).length))) 12 0 25 (nI r.length)).1 12 0 26 = nI (z_opn r + 1) := by rw [z_sI1, if_neg (by omega), z_sI1, if_neg (by omega), m8, hop]
    have g14 : (z_sI (z_sI (z_sI S1 48 0 cI (nI (A + (out ++ pd.map z_opt).length))) 12 0 25 (nI r.length)) 12 0 26 (nI (z_opn r))).1 12 0 14 = nI p := by rw [z_sI1, if_neg (by omega), z_sI1, if_neg (by omega), z_sI1, if_neg (by omega)]; exact m3
    try dsimp only at ee
    rw [g26, nI_pred, g14, nI_1] at ee
    have hpl := ht.lt (by decide) h41
    rw [hr] at m5
    have hm3 : z_ms len A (p + 1) r (out ++ pd.map z_opt) (z_sI (z_sI (z_sI (z_sI S1 48 0 cI (nI (A + (out ++ pd.map z_opt).length))) 12 0 25 (nI r.length)) 12 0 26 (nI (z_opn r))) 12 0 14 (nI (p + 1))) := by
      refine ⟨⟨hpl, by omega⟩, z_m14 _ _, ?_, z_wst_cg m5.2.2 (fun k hk => ?_), ?_, ?_, z_tk_cg m10 (fun k hk => ?_)⟩
      · rw [z_sI1, if_neg (by omega), z_sI1, if_neg (by omega), z_sI1, if_pos ⟨rfl, rfl, rfl⟩]
      · rw [z_sI1, if_neg (by omega), z_sI1, if_neg (by omega), z_sI1, if_neg (by omega), z_sI1, if_neg (by omega)]
      · rw [z_sI1, if_neg (by omega), z_sI1, if_pos ⟨rfl, rfl, rfl⟩]
      · rw [z_sI1, if_neg (by omega), z_sI1, if_neg (by omega), z_sI1, if_neg (by omega), z_sI1, if_neg (by omega)]; exact m9
      · rw [z_sI1, if_neg (by omega), z_sI1, if_neg (by omega), z_sI1, if_neg (by omega), z_sI1, if_neg (by omega)]
    have f3 : z_fx (z_Pme A cI) (z_sI S1 48 0 cI (nI (A + (out ++ pd.map z_opt).length))) (z_sI (z_sI (z_sI (z_sI S1 48 0 cI (nI (A + (out ++ pd.map z_opt).length))) 12 0 25 (nI r.length)) 12 0 26 (nI (z_opn r))) 12 0 14 (nI (p + 1))) := ((z_fx.sI ⟨rfl, Or.inl ⟨rfl, by omega⟩⟩).tr (z_fx.sI ⟨rfl, Or.inl ⟨rfl, by omega⟩⟩)).tr (z_fx.sI ⟨rfl, Or.inl ⟨rfl, by omega⟩⟩)
    obtain ⟨S4, e4, hm4, f4⟩ := s_whole (d + 2) len A cI hl hA (p + 1) r _ _ hm3
    rw [e4, z_rV_s] at ee
    rw [List.append_assoc] at hm4
    exact ⟨S4, ee, hm4, ((f1.tr f2).tr f3).tr f4⟩
