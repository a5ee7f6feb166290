/-! ===== hut ===== -/
def z_Pht (h : Nat) (t i k : Nat) : Prop := (t = 5 ∧ i = 0) ∨ ((t = 4 ∨ t = 22 ∨ t = 23) ∧ i = h) ∨ (t = 9 ∧ i = 0 ∧ k = 3) ∨ (t = 11 ∧ i = 0 ∧ k = 11) ∨ (i = 0 ∧ ((t = 12 ∧ (11 ≤ k ∧ k ≤ 15 ∨ 24 ≤ k ∧ k ≤ 26)) ∨ t = 50 ∨ (t = 49 ∧ 100 * h ≤ k) ∨ (45 ≤ t ∧ t ≤ 48 ∧ 10 * h ≤ k) ∨ (t = 44 ∧ k = h)))
/-- the same, when the text says no hut -/
def z_Phf (h : Nat) (t i k : Nat) : Prop := (t = 5 ∧ i = 0) ∨ ((t = 4 ∨ t = 22 ∨ t = 23) ∧ i = h) ∨ (i = 0 ∧ ((t = 12 ∧ (13 ≤ k ∧ k ≤ 15 ∨ 24 ≤ k ∧ k ≤ 26)) ∨ t = 50 ∨ (t = 49 ∧ 100 * h ≤ k) ∨ (45 ≤ t ∧ t ≤ 48 ∧ 10 * h ≤ k) ∨ (t = 44 ∧ k = h)))
theorem z_Phf_ht {h : Nat} {S S' : z_Mem} (hf : z_fx (z_Phf h) S S') : z_fx (z_Pht h) S S' := hf.wk (fun t i k q => by unfold z_Phf at q; unfold z_Pht; omega)
theorem z_us_nh {h t i k : Nat} (hq : z_FA t i k ∨ z_FB t i k) (hn : ¬ (t = 4 ∨ t = 22 ∨ t = 23 ∨ (44 ≤ t ∧ t ≤ 49))) : ¬ z_Pht h (z_us t i k).1 (z_us t i k).2.1 (z_us t i k).2.2 := by
  have hq' := hq
  unfold z_FA z_FB at hq'
  unfold z_us
  by_cases c1 : t = 7 ∧ i = 0
  · rw [if_pos c1]; dsimp only; unfold z_Pht; omega
  rw [if_neg c1]
  by_cases c2 : t = 9 ∧ i = 0
  · rw [if_pos c2]; dsimp only; unfold z_Pht; omega
  rw [if_neg c2]
  by_cases c3 : (t = 2 ∨ t = 21) ∧ i < 6
  · rw [if_pos c3]; dsimp only; unfold z_Pht; omega
  rw [if_neg c3]
  by_cases c4 : (t = 8 ∨ (31 ≤ t ∧ t ≤ 33)) ∧ i < 3
  · rw [if_pos c4]; dsimp only; unfold z_Pht; omega
  rw [if_neg c4]
  by_cases c5 : t = 12
  · rw [if_pos c5]
    have hu := z_u12_r (k := k) (by omega)
    dsimp only
    unfold z_Pht
    omega
  rw [if_neg c5]
  by_cases c6 : 37 ≤ t ∧ t ≤ 42
  · rw [if_pos c6]; dsimp only; unfold z_Pht; omega
  rw [if_neg c6]
  by_cases c7 : 59 ≤ t ∧ t ≤ 61
  · rw [if_pos c7]; dsimp only; unfold z_Pht; omega
  rw [if_neg c7]
  by_cases c8 : 63 ≤ t ∧ t ≤ 66
  · rw [if_pos c8]; dsimp only; unfold z_Pht; omega
  rw [if_neg c8]; dsimp only; unfold z_Pht; omega
theorem z_FA_nf {hts h t i k : Nat} (hh : h < hts ∨ h = 6) (h6 : hts < 6) (q : z_FA t i k) (q4 : t = 4 → i = h) (q22 : t = 22 → i = h) (q23 : t = 23 → i = h) (q44 : t = 44 → k < hts) (q45 : 45 ≤ t → t ≤ 48 → k < 10 * hts) (q49 : t = 49 → k < 100 * hts) : ¬ z_Phf hts t i k := by
  intro z
  have hne : ¬ h = hts := by omega
  rcases q with q | q | q | q | q | q | q | q | q
  · clear q4 q22 q23 q44 q45 q49; unfold z_Phf at z; omega
  · clear q4 q22 q23 q44 q45 q49; unfold z_Phf at z; omega
  · clear q4 q22 q23 q44 q45 q49; unfold z_Phf at z; omega
  · have := q4 q; clear q4 q22 q23 q44 q45 q49; unfold z_Phf at z; omega
  · have := q22 q; clear q4 q22 q23 q44 q45 q49; unfold z_Phf at z; omega
  · have := q23 q; clear q4 q22 q23 q44 q45 q49; unfold z_Phf at z; omega
  · clear q4 q22 q23 q44 q45 q49; unfold z_Phf at z; omega
  · clear q4 q22 q23 q44 q45 q49; unfold z_Phf at z; omega
  · clear q4 q22 q23
    obtain ⟨qi, qa, qb⟩ := q
    unfold z_Phf at z
    rcases z with z | z | ⟨-, z | z | z | z | z⟩
    · omega
    · omega
    · omega
    · omega
    · have := q49 z.1; omega
    · have := q45 z.1 z.2.1; omega
    · have := q44 z.1; omega
theorem z_Pmt_ht {h t i k : Nat} (q : z_Pmt h t i k ∨ (t = 12 ∧ i = 0 ∧ 11 ≤ k ∧ k ≤ 13)) : z_Pht h t i k := by
  rcases q with ⟨qi, q | q | q | q | q⟩ | q
  · exact Or.inr (Or.inr (Or.inr (Or.inr ⟨qi, Or.inl ⟨q.1, by omega⟩⟩)))
  · exact Or.inr (Or.inr (Or.inr (Or.inr ⟨qi, Or.inr (Or.inl q)⟩)))
  · exact Or.inr (Or.inr (Or.inr (Or.inr ⟨qi, Or.inr (Or.inr (Or.inl q))⟩)))
  · exact Or.inr (Or.inr (Or.inr (Or.inr ⟨qi, Or.inr (Or.inr (Or.inr (Or.inl q)))⟩)))
  · exact Or.inr (Or.inr (Or.inr (Or.inr ⟨qi, Or.inr (Or.inr (Or.inr (Or.inr q)))⟩)))
  · exact Or.inr (Or.inr (Or.inr (Or.inr ⟨q.2.1, Or.inl ⟨q.1, by omega⟩⟩)))
theorem z_Prh_ht {h t i k : Nat} (q : z_Prh h t i k ∨ (t = 9 ∧ i = 0 ∧ k = 3) ∨ (t = 11 ∧ i = 0 ∧ k = 11)) : z_Pht h t i k := by
  rcases q with (q | q) | q | q
  · exact Or.inl q
  · exact Or.inr (Or.inl q)
  · exact Or.inr (Or.inr (Or.inl q))
  · exact Or.inr (Or.inr (Or.inr (Or.inl q)))
theorem z_Pmt_hf {h t i k : Nat} (q : z_Pmt h t i k ∨ (t = 12 ∧ i = 0 ∧ k = 13)) : z_Phf h t i k := by
  rcases q with ⟨qi, q | q | q | q | q⟩ | q
  · exact Or.inr (Or.inr ⟨qi, Or.inl ⟨q.1, by omega⟩⟩)
  · exact Or.inr (Or.inr ⟨qi, Or.inr (Or.inl q)⟩)
  · exact Or.inr (Or.inr ⟨qi, Or.inr (Or.inr (Or.inl q))⟩)
  · exact Or.inr (Or.inr ⟨qi, Or.inr (Or.inr (Or.inr (Or.inl q)))⟩)
  · exact Or.inr (Or.inr ⟨qi, Or.inr (Or.inr (Or.inr (Or.inr q)))⟩)
  · exact Or.inr (Or.inr ⟨q.2.1, Or.inl ⟨q.1, by omega⟩⟩)
theorem z_Prh_hf {h t i k : Nat} (q : z_Prh h t i k) : z_Phf h t i k := q.elim Or.inl (fun q => Or.inr (Or.inl q))
theorem z_FB_ht {h t i k : Nat} (q : z_FB t i k) : ¬ z_Pht h t i k := by
  intro z
  rcases q with q | q | q | q | q <;> (unfold z_Pht at z; omega)
theorem z_LI.hut {hts : Nat} {S S' : z_Mem} (hI : z_LI hts S) (h6 : hts < 6) (hf : z_fx (z_Pht hts) S S') : z_LI hts S' := by
  obtain ⟨h1, h2, h4⟩ := hI
  have e1 : S'.1 11 0 4 = S.1 11 0 4 := hf.i (by unfold z_Pht; omega)
  have e2 : S'.1 12 0 53 = S.1 12 0 53 := hf.i (by unfold z_Pht; omega)
  refine ⟨by rw [e1, e2]; exact h1, ?_, fun b hb => by rw [hf.i (by unfold z_Pht; omega)]; exact h4 b hb⟩
  rcases h2 with h2 | ⟨h2, n, hr, h, c0, ht, wd, H, K, W, C, hA, hB⟩
  · exact Or.inl (e1.trans h2)
  · refine Or.inr ⟨e1.trans h2, n, hr, h, c0, ht, wd, H, K, W, C, hA.cg (fun t i k hfa q4 q22 q23 q44 q45 q49 => ?_) ?_, hB.cg (fun t i k hfb => ?_)⟩
    · have hh := hA.1.2
      by_cases hn : t = 4 ∨ t = 22 ∨ t = 23 ∨ (44 ≤ t ∧ t ≤ 49)
      · rw [z_unh S' t i k hn, z_unh S t i k hn]
        refine hf.i (fun z => ?_)
        have z' : z_Phf hts t i k := by
          clear q4 q22 q23 q44 q45 q49
          rcases z with z | z | z | z | ⟨zi, z | z⟩
          · exact Or.inl z
          · exact Or.inr (Or.inl z)
          · omega
          · omega
          · omega
          · exact Or.inr (Or.inr ⟨zi, Or.inr z⟩)
        exact z_FA_nf hh h6 hfa q4 q22 q23 q44 q45 q49 z'
      · exact hf.i (z_us_nh (Or.inl hfa) hn)
    · show (S'.2.2.1 9 1 3).2 = (S.2.2.1 9 1 3).2
      rw [hf.r (by unfold z_Pht; omega)]
    · exact hf.i (z_us_nh (Or.inr hfb) (by unfold z_FB at hfb; omega))
theorem z_LA.up {hts n hr h c0 : Nat} {ht wd : Int32} {H : z_H} {K : Nat → z_K} {W C : Nat → Int32} {S : z_Mem} (hA : z_LA hts n hr h c0 ht wd H K W C S) (h6 : hts + 1 ≤ 6) : z_LA (hts + 1) n hr h c0 ht wd H K W C S := by
  obtain ⟨⟨⟨a1, a2, a3, a4, a5⟩, a6⟩, ⟨b1, ⟨m1, m2, m3, m4, m5⟩⟩, hb⟩ := hA
  exact ⟨⟨⟨a1, a2, a3, a4, h6⟩, a6.elim (fun z => Or.inl (by omega)) Or.inr⟩, ⟨b1, ⟨m1, m2, m3, m4, m5.up (Nat.le_succ _)⟩⟩, hb⟩
theorem z_LI.up {hts : Nat} {S : z_Mem} (hI : z_LI hts S) (h6 : hts + 1 ≤ 6) : z_LI (hts + 1) S := by
  obtain ⟨h1, h2, h4⟩ := hI
  refine ⟨h1, ?_, h4⟩
  rcases h2 with h2 | ⟨h2, n, hr, h, c0, ht, wd, H, K, W, C, hA, hB⟩
  · exact Or.inl h2
  · exact Or.inr ⟨h2, n, hr, h, c0, ht, wd, H, K, W, C, hA.up h6, hB⟩
/-- the room, once a new hut is in force -/
theorem z_LA.hut {hts n hr h c0 : Nat} {ht wd : Int32} {H : z_H} {K : Nat → z_K} {W C : Nat → Int32} {S S' : z_Mem} (hA : z_LA hts n hr h c0 ht wd H K W C S) (h6 : hts < 6) (hf : z_fx (z_Pht hts) S S') {H' : z_H} (hw : z_hwf H') (hr3 : (S'.2.2.1 9 0 3).2 = hts) (hc : z_Hc hts H' S') (hq : z_Hq (hts + 1) (10 * hts) H' S') : z_LA (hts + 1) n hr hts (10 * hts) ht wd H' K W C S' := by
  obtain ⟨⟨⟨a1, a2, a3, a4, a5⟩, a6⟩, ⟨⟨b1, b2, b3, b4, b5, b6, b7⟩, ⟨m1, m2, m3, m4, m5⟩⟩, hb⟩ := hA
  refine ⟨⟨⟨a1, a2, a3, hw, h6⟩, Or.inl (Nat.lt_succ_self _)⟩, ⟨⟨(hf.i (by unfold z_Pht; omega)).trans b1, (hf.i (by unfold z_Pht; omega)).trans b2, (hf.i (by unfold z_Pht; omega)).trans b3, (hf.i (by unfold z_Pht; omega)).trans b4, hr3, hc, fun b hb => (hf.i (by unfold z_Pht; omega)).trans (b7 b hb)⟩, ⟨(hf.i (by unfold z_Pht; omega)).trans m1, (hf.i (by unfold z_Pht; omega)).trans m2, (hf.i (by unfold z_Pht; omega)).trans m3, (hf.i (by unfold z_Pht; omega)).trans m4, hq⟩⟩, fun b hb' => ?_⟩
  obtain ⟨o1, ⟨p1, p2, p3, p4⟩, q1, q2, q3⟩ := hb b hb'
  have e2 : ∀ k, S'.1 2 b k = S.1 2 b k := fun k => hf.i (by unfold z_Pht; omega)
  refine ⟨o1, ⟨?_, ?_, ?_, ?_⟩, ?_, ?_, ?_⟩
  · exact (z_kc_cg (fun k _ _ => e2 k) (fun k => hf.i (by unfold z_Pht; omega))).trans p1
  · rw [e2]; exact p2
  · rw [e2]; exact p3
  · rw [e2]; exact p4
  · exact (z_km_cg (hf.i (by unfold z_Pht; omega)) (hf.i (by unfold z_Pht; omega)) (hf.i (by unfold z_Pht; omega)) (hf.i (by unfold z_Pht; omega)) (fun k => hf.i (by unfold z_Pht; omega))).trans q1
  · exact (hf.i (by unfold z_Pht; omega)).trans q2
  · exact (hf.i (by unfold z_Pht; omega)).trans q3
/-- the text as signs -/
def z_sgn (len : Nat) (S : z_Mem) (p : Nat) : Int32 := if p < len then S.1 25 0 p else -1
/-- what the class does with the text: SC after -/
theorem hutC {S : z_Mem} {hts len : Nat} (hh : hts < 6) (n11 : S.1 11 0 11 = nI hts) (htx : z_tx len (z_sgn len S)) (l2 : S.1 5 0 1 = nI len) :
    ∃ SC, z_exe z_mt true 40 85 [.inr (.inr (11, 0))] S = some (some (.inl (if (z_pX (z_sgn len S) len 10 0 []).1 = true then nI hts else -10 - nI (z_pX (z_sgn len S) len 10 0 []).2.1)), SC) ∧ SC.1 5 0 1 = 0 ∧
      ((z_pX (z_sgn len S) len 10 0 []).1 = true → z_Hc hts (z_pX (z_sgn len S) len 10 0 []).2.2 SC ∧ (SC.2.2.1 9 0 3).2 = hts ∧ SC.1 11 0 11 = nI (hts + 1)) ∧ z_fx (fun t i k => z_Prh hts t i k ∨ (t = 9 ∧ i = 0 ∧ k = 3) ∨ (t = 11 ∧ i = 0 ∧ k = 11)) S SC ∧ (¬ (z_pX (z_sgn len S) len 10 0 []).1 = true → z_fx (z_Prh hts) S SC) := by
  have e : z_exe z_mt true 40 85 [.inr (.inr (11, 0))] S = _ := (zx_X11_hut 39 S 0).trans (ze_X11_hut_0 _ _ _ _)
  obtain ⟨S1, e1, h1, f1⟩ := s_reading 19 len hts (z_sgn len S) S htx l2 (fun p hp => (if_pos hp).symm)
  have e1' : z_exe z_mt true 39 29 [.inr (.inr (5, 0)), .inr (.inr (4, hts))] S = _ := e1
  rw [n11, if_pos (by rw [show (6 : Int32) = nI 6 from rfl, z_lt (by omega) (by omega)]; exact hh), z_oob_n (k := hts) (by omega) (by omega), z_cl (k := hts) (by omega), z_cnf, e1', z_rI_s] at e
  have f2 : z_fx (z_Prh hts) S1 (z_sI S1 5 0 1 0) := z_fx.sI (Or.inl ⟨rfl, rfl⟩)
  have F2 := f1.tr f2
  have hp := (z_pX_ok htx 10 0 [] (Nat.zero_le _) rfl (fun c hc => absurd hc List.not_mem_nil)).1
  have hl := htx.1
  by_cases ok : (z_pX (z_sgn len S) len 10 0 []).1 = true
  · have n11' : (z_sR (z_sI S1 5 0 1 0) 9 0 3 (4, hts)).1 11 0 11 = nI hts := by
      rw [z_sR1, F2.i (by unfold z_Prh; omega)]; exact n11
    have g5 : (z_sI (z_sR (z_sI S1 5 0 1 0) 9 0 3 (4, hts)) 11 0 11 (nI (hts + 1))).1 11 0 11 = nI (hts + 1) := by rw [z_sI1, if_pos ⟨rfl, rfl, rfl⟩]
    rw [if_pos ok, if_pos (by decide)] at e
    try dsimp only at e
    rw [n11', nI_1, g5, nI_pred] at e
    rw [if_pos ok]
    refine ⟨_, e, ?_, fun _ => ⟨?_, ?_, g5⟩, ?_, fun z => absurd ok z⟩
    · rw [z_sI1, if_neg (by omega), z_sR1, z_sI1, if_pos ⟨rfl, rfl, rfl⟩]
    · have k := h1 ok
      have ee : ∀ t i k, t ≠ 5 → t ≠ 11 → (z_sI (z_sR (z_sI S1 5 0 1 0) 9 0 3 (4, hts)) 11 0 11 (nI (hts + 1))).1 t i k = S1.1 t i k := fun t i k a b => by
        rw [z_sI1, if_neg (by omega), z_sR1, z_sI1, if_neg (by omega)]
      exact k.cg (fun k => ee 4 _ k (by decide) (by decide)) (fun k => ee 22 _ k (by decide) (by decide)) (fun k => ee 23 _ k (by decide) (by decide))
    · rw [z_sI3, z_sR3, if_pos ⟨rfl, rfl, rfl⟩]
    · have fa : z_fx (fun t i k => z_Prh hts t i k ∨ (t = 9 ∧ i = 0 ∧ k = 3) ∨ (t = 11 ∧ i = 0 ∧ k = 11)) (z_sI S1 5 0 1 0) (z_sR (z_sI S1 5 0 1 0) 9 0 3 (4, hts)) := z_fx.sR (Or.inr (Or.inl ⟨rfl, rfl, rfl⟩)) (by unfold z_LR; omega)
      have fb : z_fx (fun t i k => z_Prh hts t i k ∨ (t = 9 ∧ i = 0 ∧ k = 3) ∨ (t = 11 ∧ i = 0 ∧ k = 11)) (z_sR (z_sI S1 5 0 1 0) 9 0 3 (4, hts)) (z_sI (z_sR (z_sI S1 5 0 1 0) 9 0 3 (4, hts)) 11 0 11 (nI (hts + 1))) := z_fx.sI (Or.inr (Or.inr ⟨rfl, rfl, rfl⟩))
      have fc : z_fx (fun t i k => z_Prh hts t i k ∨ (t = 9 ∧ i = 0 ∧ k = 3) ∨ (t = 11 ∧ i = 0 ∧ k = 11)) S (z_sI S1 5 0 1 0) := F2.wk (fun t i k q => Or.inl q)
      exact (fc.tr fa).tr fb
  · rw [if_neg ok, if_neg (nI_pos (by omega))] at e
    rw [if_neg ok]
    exact ⟨_, e, by rw [z_sI1, if_pos ⟨rfl, rfl, rfl⟩], fun z => absurd z ok, F2.wk (fun t i k q => Or.inl q), fun _ => F2⟩
theorem hutM {S : z_Mem} {hts len : Nat} {c : Nat → Int32} (hh : hts < 6) (n12 : S.1 12 0 11 = nI hts) (htx : z_tx len c) (hlt : z_let S) (hc : z_mx2 c len S) :
    ∃ SM out, z_exe z_mt true 40 158 [.inr (.inr (12, 0))] S = some (some (.inl (if (z_pX c len 10 0 []).1 = true then nI hts else -10 - nI (z_pX c len 10 0 []).2.1)), SM) ∧ SM.1 12 0 13 = 0 ∧
      ((z_pX c len 10 0 []).1 = true → z_Hi hts (100 * hts) (z_pX c len 10 0 []).2.2 out SM ∧ out.length ≤ len ∧ SM.1 44 0 hts = nI (z_pX c len 10 0 []).2.2.length ∧ SM.1 12 0 12 = nI hts ∧ SM.1 12 0 11 = nI (hts + 1)) ∧ z_fx (fun t i k => z_Pmt hts t i k ∨ (t = 12 ∧ i = 0 ∧ 11 ≤ k ∧ k ≤ 13)) S SM ∧ (¬ (z_pX c len 10 0 []).1 = true → z_fx (fun t i k => z_Pmt hts t i k ∨ (t = 12 ∧ i = 0 ∧ k = 13)) S SM) := by
  have e : z_exe z_mt true 40 158 [.inr (.inr (12, 0))] S = _ := (zx_X12_hut 39 S 0).trans (ze_X12_hut_0 _ _ _ _)
  obtain ⟨S1, out, e1, a1, h1, f1⟩ := s_goesText 32 len hts c S htx hh hlt hc
  have e1' : z_exe z_mt true 39 157 [.inr (.inr (12, 0)), .inl (nI hts)] S = _ := e1
  rw [n12, if_neg (by rw [show (6 : Int32) = nI 6 from rfl, z_eq (by omega) (by omega)]; omega), e1', z_rI_s] at e
  have g11 : (z_sI S1 12 0 13 0).1 12 0 11 = nI hts := by rw [z_sI1, if_neg (by omega), f1.i (by unfold z_Pmt; omega)]; exact n12
  have g14 : (z_sI S1 12 0 13 0).1 12 0 14 = nI (z_pX c len 10 0 []).2.1 := by rw [z_sI1, if_neg (by omega)]; exact a1
  have g11' : (z_sI (z_sI S1 12 0 13 0) 12 0 12 (nI hts)).1 12 0 11 = nI hts := by rw [z_sI1, if_neg (by omega)]; exact g11
  have g12' : (z_sI (z_sI (z_sI S1 12 0 13 0) 12 0 12 (nI hts)) 12 0 11 (nI (hts + 1))).1 12 0 12 = nI hts := by rw [z_sI1, if_neg (by omega), z_sI1, if_pos ⟨rfl, rfl, rfl⟩]
  by_cases ok : (z_pX c len 10 0 []).1 = true
  · obtain ⟨⟨i1, i2, i3⟩, o1, o2⟩ := h1 ok
    rw [if_pos ok, if_neg z_01n] at e
    try dsimp only at e
    rw [g11, g11', nI_1, g12'] at e
    rw [if_pos ok]
    have ee : ∀ t k, (t ≠ 12 ∨ 14 ≤ k) → (z_sI (z_sI (z_sI S1 12 0 13 0) 12 0 12 (nI hts)) 12 0 11 (nI (hts + 1))).1 t 0 k = S1.1 t 0 k := fun t k a => by
      rw [z_sI1, if_neg (by omega), z_sI1, if_neg (by omega), z_sI1, if_neg (by omega)]
    refine ⟨_, out, e, ?_, fun _ => ⟨⟨(ee 12 24 (by omega)).trans i1, z_tk_cg i2 (fun k _ => ee 49 _ (by omega)), fun j cl hj => ?_⟩, o1, (ee 44 _ (by omega)).trans o2, g12', by rw [z_sI1, if_pos ⟨rfl, rfl, rfl⟩]⟩, ?_, fun z => absurd ok z⟩
    · rw [z_sI1, if_neg (by omega), z_sI1, if_neg (by omega), z_sI1, if_pos ⟨rfl, rfl, rfl⟩]
    · obtain ⟨j1, j2, j3⟩ := i3 j cl hj
      refine ⟨(ee 45 _ (by omega)).trans j1, (ee 46 _ (by omega)).trans j2, fun z => ?_⟩
      obtain ⟨a, a1, a2, a3, a4, a5⟩ := j3 z
      exact ⟨a, (ee 47 _ (by omega)).trans a1, (ee 48 _ (by omega)).trans a2, a3, a4, z_tk_cg a5 (fun k _ => ee 49 _ (by omega))⟩
    · exact (((f1.wk (fun t i k q => Or.inl q)).tr (z_fx.sI (Or.inr ⟨rfl, rfl, by omega⟩))).tr (z_fx.sI (Or.inr ⟨rfl, rfl, by omega⟩))).tr (z_fx.sI (Or.inr ⟨rfl, rfl, by omega⟩))
  · rw [if_neg ok, if_pos rfl] at e
    try dsimp only at e
    rw [g14] at e
    rw [if_neg ok]
    exact ⟨_, [], e, by rw [z_sI1, if_pos ⟨rfl, rfl, rfl⟩], fun z => absurd z ok, (f1.wk (fun t i k q => Or.inl q)).tr (z_fx.sI (Or.inr ⟨rfl, rfl, by omega⟩)), fun _ => (f1.wk (fun t i k q => Or.inl q)).tr (z_fx.sI (Or.inr ⟨rfl, rfl, rfl⟩))⟩
theorem c_hut (S : z_Mem) (hR : z_RL S) : z_both 85 158 [] S := by
  obtain ⟨hts, hN, ⟨n, hr, h, c0, ht, wd, H, K, W, C, hA, hB⟩, hI, hT, hP, hAc⟩ := id hR
  obtain ⟨⟨hn, hhr, hwd, hH, hts6⟩, hh6⟩ := hA.1
  have hC := fun b hb => (hA.2.2 b hb).1.2.2
  have c7 : S.1 7 0 1 = nI n := hA.2.1.1.1
  have c12 : S.1 12 0 0 = nI n := hA.2.1.2.1
  have hN0 := hN
  obtain ⟨n11, n12, n6, n29, n176, nlt⟩ := hN
  by_cases hh : hts = 6
  · subst hh
    refine z_no (v := .inl (-4)) hR ?_ ?_
    · have e : z_exe z_mt true 40 85 [.inr (.inr (11, 0))] S = _ := (zx_X11_hut 39 S 0).trans (ze_X11_hut_0 _ _ _ _)
      rw [e, n11, if_neg (by decide)]
    · have e : z_exe z_mt true 40 158 [.inr (.inr (12, 0))] S = _ := (zx_X12_hut 39 S 0).trans (ze_X12_hut_0 _ _ _ _)
      rw [e, n12, if_pos (by decide)]
  have hh' : hts < 6 := by omega
  obtain ⟨len, l1, l2, l3, l4⟩ := hT
  have htx : z_tx len (z_sgn len S) := by
    refine ⟨l1, fun p hp => ?_, fun p hp => ?_⟩
    · obtain ⟨x, hx, e1, -⟩ := l4 p hp
      exact ⟨x, hx, (if_pos hp).trans e1⟩
    · exact if_neg (by omega)
  obtain ⟨SC, e1, k1, k2, f1, f1'⟩ := hutC hh' n11 htx l2
  have hc : z_mx2 (z_sgn len S) len SC := by
    refine ⟨by rw [f1.i (by unfold z_Prh; omega)]; exact l3, fun p hp => ?_⟩
    obtain ⟨x, hx, e1, e2⟩ := l4 p hp
    rw [f1.i (by unfold z_Prh; omega)]
    exact e2.trans ((if_pos hp).trans e1).symm
  obtain ⟨SM, out, e2, m1, m2, f2, f2'⟩ := hutM (c := z_sgn len S) hh' (by rw [f1.i (by unfold z_Prh; omega)]; exact n12) htx (z_let_cg nlt (fun k hk => f1.i (by unfold z_Prh; omega))) hc
  obtain ⟨p1, p2⟩ := z_pX_ok htx 10 0 [] (Nat.zero_le _) rfl (fun c hc => absurd hc List.not_mem_nil)
  refine ⟨_, SC, SM, e1, e2, ?_⟩
  have F : z_fx (z_Pht hts) S SM := (f1.wk (fun _ _ _ q => z_Prh_ht q)).tr (f2.wk (fun _ _ _ q => z_Pmt_ht q))
  have g51 : SM.1 5 0 1 = 0 := by rw [f2.i (by unfold z_Pmt; omega)]; exact k1
  have hT2 : z_LT SM := ⟨0, by omega, g51, m1, fun i hi => by omega⟩
  have hP2 : z_LP SM := hP.cg (fun t i k q => F.i (by rcases q with rfl | rfl | rfl <;> (unfold z_Pht; omega))) (fun t i k q => F.l (by rcases q with rfl | rfl <;> (unfold z_Pht; omega)))
  have hC2 : z_LC SM := hAc.cg (fun t i k q => F.i (by rcases q with ⟨rfl, -⟩ | ⟨rfl, rfl, rfl⟩ | rfl | rfl <;> (unfold z_Pht; omega)))
  have hB2 : z_LB n SM := hB.cg (fun t i k q => F.i (z_FB_ht q))
  have hI2 := hI.hut hh' F
  by_cases ok : (z_pX (z_sgn len S) len 10 0 []).1 = true
  · obtain ⟨q1, q2, q3⟩ := k2 ok
    obtain ⟨⟨i1, i2, i3⟩, o1, o2, o3, o4⟩ := m2 ok
    obtain ⟨p3, p4⟩ := p2 ok
    have hHc : z_Hc hts (z_pX (z_sgn len S) len 10 0 []).2.2 SM := q1.fx f2 (fun k => by unfold z_Pmt; omega) (fun k => by unfold z_Pmt; omega) (fun k => by unfold z_Pmt; omega)
    have hHq : z_Hq (hts + 1) (10 * hts) (z_pX (z_sgn len S) len 10 0 []).2.2 SM := by
      refine ⟨Or.inr ⟨hts, Nat.lt_succ_self _, o3, rfl, p3, o2⟩, fun j cl hj => ?_⟩
      obtain ⟨j1, j2, j3⟩ := i3 j cl hj
      refine ⟨j1, j2, fun z => ?_⟩
      obtain ⟨a, a1, a2, a3, a4, a5⟩ := j3 z
      exact ⟨a, a1, a2, by omega, by omega, a5⟩
    have hA2 := hA.hut hh' F p4 (by rw [f2.r (by unfold z_Pmt; omega)]; exact q2) hHc hHq
    exact ⟨hts + 1, ⟨by rw [f2.i (by unfold z_Pmt; omega)]; exact q3, o4, by omega, (F.i (by unfold z_Pht; omega)).trans n29, F.2.1.trans n176, z_let_cg nlt (fun k hk => F.i (by unfold z_Pht; omega))⟩, ⟨n, hr, hts, 10 * hts, ht, wd, _, K, W, C, hA2, hB2⟩, hI2.up (by omega), hT2, hP2, hC2⟩
  · have F' : z_fx (z_Phf hts) S SM := ((f1' ok).wk (fun _ _ _ q => z_Prh_hf q)).tr ((f2' ok).wk (fun _ _ _ q => z_Pmt_hf q))
    have hcond := hA.1.2
    have hA2 : z_LA hts n hr h c0 ht wd H K W C SM := hA.cg (fun t i k q q4 q22 q23 q44 q45 q49 => F'.i (z_FA_nf hcond hh' q q4 q22 q23 q44 q45 q49)) (by rw [F'.r (by unfold z_Phf; omega)])
    exact ⟨hts, hN0.cg (fun t i k q => F'.i (by rcases q with ⟨rfl, rfl⟩ | ⟨rfl, rfl, rfl | rfl⟩ | ⟨rfl, rfl⟩ <;> (unfold z_Phf; omega))) F'.2.1, ⟨n, hr, h, c0, ht, wd, H, K, W, C, hA2, hB2⟩, hI2, hT2, hP2, hC2⟩
