/-- how many of the numbers below m hold, and the least, from above -/
def z_wc (P : Nat → Bool) : Nat → Int32 × Int32 → Int32 × Int32
  | 0, r => r
  | m + 1, r => z_wc P m (if P m then (r.1 + 1, nI m) else r)
def z_kv (K : z_K) (x : Int32) : z_K := (K.1, (K.2.1, (x, K.2.2.2)))
theorem z_fx.un {P P' : Nat → Nat → Nat → Prop} {S S' : z_Mem} (h : z_fx P' S S') (k : ∀ t i k, ¬ P t i k → P' t i k → ¬ z_LR t ∧ S'.1 t i k = S.1 t i k) : z_fx P S S' := by
  refine ⟨fun t i j hn => ?_, h.2⟩
  by_cases q : P' t i j
  · obtain ⟨a, c⟩ := k t i j hn q
    exact ⟨c, h.2.2 t i j a⟩
  · exact h.1 t i j q
theorem z_Rk.wx {h hr : Nat} {H : z_H} {ht : Int32} {K : z_K} {w c : Int32} {S : z_Mem} (hR : z_Rk h H ht hr K w c S) (x : Int32) : z_Rk h H ht hr K x c (z_sI S 2 18 3 x) := by
  obtain ⟨r1, r2, r3, r4, r5⟩ := hR
  have f : z_fx (fun t i k => t = 2 ∧ i = 18 ∧ k = 3) S (z_sI S 2 18 3 x) := z_fx.sI ⟨rfl, rfl, rfl⟩
  refine ⟨r1, r2.fx f (fun k => by omega) (fun k => by omega) (fun k => by omega), (f.i (by omega)).trans r3, (f.i (by omega)).trans r4, fun b hb => ?_⟩
  obtain rfl : b = 0 := by omega
  obtain ⟨o1, o2, o3⟩ := r5 0 (by omega)
  exact ⟨o1, by show (z_sI S 2 18 3 x).1 2 18 3 = x; rw [z_sI1, if_pos ⟨rfl, rfl, rfl⟩], o3⟩
theorem z_Rk.vx {h hr : Nat} {H : z_H} {ht : Int32} {K : z_K} {w c : Int32} {S : z_Mem} (hR : z_Rk h H ht hr K w c S) (x : Int32) : z_Rk h H ht hr (z_kv K x) w c (z_sI S 2 18 2 x) := by
  obtain ⟨r1, r2, r3, r4, r5⟩ := hR
  have f : z_fx (fun t i k => t = 2 ∧ i = 18 ∧ k = 2) S (z_sI S 2 18 2 x) := z_fx.sI ⟨rfl, rfl, rfl⟩
  refine ⟨r1, r2.fx f (fun k => by omega) (fun k => by omega) (fun k => by omega), (f.i (by omega)).trans r3, (f.i (by omega)).trans r4, fun b hb => ?_⟩
  obtain rfl : b = 0 := by omega
  obtain ⟨o1, o2, o3⟩ := r5 0 (by omega)
  have o1' : z_kc 18 S = K := o1
  refine ⟨?_, o2, o3⟩
  show z_kc 18 (z_sI S 2 18 2 x) = z_kv K x
  rw [← o1']
  rfl
theorem z_Rm.wx {c0 n hr b : Nat} {H : z_H} {ht x : Int32} {K : Nat → z_K} {W C : Nat → Int32} {S S' : z_Mem} (hR : z_Rm c0 H n ht hr K W C S) (hb : b < n) (hn : n ≤ 6) (hf : z_fx (fun t i k => z_Psc t i k ∨ (t = 39 ∧ i = 0 ∧ k = b)) S S') (hx : S'.1 39 0 b = x) : z_Rm c0 H n ht hr K (fun o => if o = b then x else W o) C S' := by
  obtain ⟨r1, r2, r3, r4, r5⟩ := hR
  refine ⟨(hf.i (by unfold z_Psc; omega)).trans r1, r2.fx hf (fun t i k a c => by unfold z_Psc; omega) (by unfold z_Psc; omega), (hf.i (by unfold z_Psc; omega)).trans r3, (hf.i (by unfold z_Psc; omega)).trans r4, fun o ho => ?_⟩
  obtain ⟨o1, o2, o3⟩ := r5 o ho
  refine ⟨(z_km_cg (hf.i (by unfold z_Psc; omega)) (hf.i (by unfold z_Psc; omega)) (hf.i (by unfold z_Psc; omega)) (hf.i (by unfold z_Psc; omega)) (fun k => hf.i (by unfold z_Psc; omega))).trans o1, ?_, (hf.i (by unfold z_Psc; omega)).trans o3⟩
  try dsimp only
  by_cases q : o = b
  · rw [if_pos q, q]; exact hx
  · rw [if_neg q, hf.i (by unfold z_Psc; omega)]; exact o2
theorem z_Rm.vx {c0 n hr b : Nat} {H : z_H} {ht x : Int32} {K : Nat → z_K} {W C : Nat → Int32} {S S' : z_Mem} (hR : z_Rm c0 H n ht hr K W C S) (hb : b < n) (hn : n ≤ 6) (hf : z_fx (fun t i k => z_Psc t i k ∨ (t = 38 ∧ i = 0 ∧ k = b)) S S') (hx : S'.1 38 0 b = x) : z_Rm c0 H n ht hr (fun o => if o = b then z_kv (K o) x else K o) W C S' := by
  obtain ⟨r1, r2, r3, r4, r5⟩ := hR
  refine ⟨(hf.i (by unfold z_Psc; omega)).trans r1, r2.fx hf (fun t i k a c => by unfold z_Psc; omega) (by unfold z_Psc; omega), (hf.i (by unfold z_Psc; omega)).trans r3, (hf.i (by unfold z_Psc; omega)).trans r4, fun o ho => ?_⟩
  obtain ⟨o1, o2, o3⟩ := r5 o ho
  refine ⟨?_, (hf.i (by unfold z_Psc; omega)).trans o2, (hf.i (by unfold z_Psc; omega)).trans o3⟩
  show z_km o S' = (if o = b then z_kv (K o) x else K o)
  have h37 : S'.1 37 0 o = S.1 37 0 o := hf.i (by unfold z_Psc; omega)
  have h40 : S'.1 40 0 o = S.1 40 0 o := hf.i (by unfold z_Psc; omega)
  have h1 : S'.1 12 0 1 = S.1 12 0 1 := hf.i (by unfold z_Psc; omega)
  have h42 : ∀ k, S'.1 42 0 k = S.1 42 0 k := fun k => hf.i (by unfold z_Psc; omega)
  rw [← o1]
  by_cases q : o = b
  · rw [if_pos q]
    unfold z_km z_kv
    rw [h37, h40, h1, q, hx]
    simp only [h42]
  · rw [if_neg q]
    exact z_km_cg h37 (hf.i (by unfold z_Psc; omega)) h40 h1 h42
/-! ===== wets ===== -/
theorem l_wetsC (d b c : Nat) (wh wt wn : Nat → Nat) (v2 : Int32) {hts n hr h c0 : Nat} {ht wd : Int32} {H : z_H} {K : Nat → z_K} {W C : Nat → Int32} {S0 : z_Mem} (hA : z_LA hts n hr h c0 ht wd H K W C S0) (hs : z_sn c n wh wt wn S0) (hb : b < n) : ∀ (m N : Nat) (r : Int32 × Int32) (S : z_Mem), m < N → m ≤ 100 → z_fx z_Pco S0 S →
    ∃ S', zr_X11_wets (z_exe z_mt true (d + 6)) N 28 [some (.inr (.inr (11, 0))), some (.inl (nI b)), some (.inl v2), some (.inl r.1), some (.inl r.2), some (.inl (nI m - 1))] [] S = some (some (.inl (if v2 = 0 then (z_wc (fun m => z_dec (∀ j, j < c → wh j = b → z_wN H (K b) (wn j) ht hr (nI m) = nI (wt j))) m r).1 else (z_wc (fun m => z_dec (∀ j, j < c → wh j = b → z_wN H (K b) (wn j) ht hr (nI m) = nI (wt j))) m r).2)), S') ∧ z_fx z_Pco S0 S' := by
  obtain ⟨⟨hn, hhr, -, hH, -⟩, -⟩ := hA.1
  intro m
  induction m with
  | zero =>
    intro N r S hN hm hf
    obtain ⟨N, rfl⟩ : ∃ N', N = N' + 1 := ⟨N - 1, by omega⟩
    refine ⟨S, ?_, hf⟩
    rw [ze_X11_wets_28, if_pos (by decide)]
    by_cases q : v2 = 0
    · rw [if_pos q, if_pos q]; rfl
    · rw [if_neg q, if_neg q]; rfl
  | succ m ih =>
    intro N r S hN hm hf
    obtain ⟨N, rfl⟩ : ∃ N', N = N' + 1 := ⟨N - 1, by omega⟩
    have hA1 := hA.sk (z_Pco_sk hf)
    have hs1 := hs.cgs (fun t i k q => hf.i (by unfold z_FB at q; unfold z_Pco; omega))
    obtain ⟨⟨hK, -⟩, ⟨kb, k01, kw, kc⟩, -⟩ := hA1.2.2 b hb
    have hw0 := hA.W0 b hb
    obtain ⟨q, S1, e1, rfl, k1, f1⟩ := s_cbegin (d + 4) b 0 h hr H ht S (by omega) (by omega) k01 hA1.2.1.1.2.2.2.2.1 hA1.2.1.1.2.2.2.2.2.1 hA1.2.1.1.2.1 hA1.2.1.1.2.2.2.1
    rw [kb, kw] at k1
    have k2 := k1.wx (nI m)
    have f2 : z_fx z_Pco S1 (z_sI S1 2 18 3 (nI m)) := z_fx.sI (Or.inl ⟨Or.inl rfl, by omega, by omega⟩)
    have f12 := (hf.tr f1).tr f2
    obtain ⟨x, S2, e2, hy, f3⟩ := s_cas d h c n b hr wh wt wn H (K b) ht (nI m) _ (z_sI S1 2 18 3 (nI m)) hH hn hb hhr (nI_pos' (by omega)) k2 hK.1 (hs.cgs (fun t i k q => f12.i (by unfold z_FB at q; unfold z_Pco; omega)))
    rw [ze_X11_wets_28, nI_pred, if_neg (nI_pos (by omega)), z_oob_n (k := b) (by omega) (by omega), z_cl (k := b) (by omega), z_60]
    simp only [z_cnf]
    rw [e1, z_rV_s]
    try dsimp only
    rw [e2, z_rI_s, ← Int32.sub_eq_add_neg]
    have hst : z_wc (fun m => z_dec (∀ j, j < c → wh j = b → z_wN H (K b) (wn j) ht hr (nI m) = nI (wt j))) (m + 1) r = z_wc (fun m => z_dec (∀ j, j < c → wh j = b → z_wN H (K b) (wn j) ht hr (nI m) = nI (wt j))) m (if z_dec (∀ j, j < c → wh j = b → z_wN H (K b) (wn j) ht hr (nI m) = nI (wt j)) then (r.1 + 1, nI m) else r) := rfl
    rw [hst]
    rcases hy with ⟨rfl, p⟩ | ⟨rfl, p⟩
    · rw [if_neg z_01n, z_dec_T p, if_pos rfl]
      exact ih N (r.1 + 1, nI m) S2 (by omega) (by omega) (f12.tr f3)
    · rw [if_pos rfl, z_dec_F p, if_neg Bool.false_ne_true]
      exact ih N r S2 (by omega) (by omega) (f12.tr f3)
theorem l_wetsM (d b c : Nat) (wh wt wn : Nat → Nat) (v2 : Int32) {hts n hr h c0 : Nat} {ht wd : Int32} {H : z_H} {K : Nat → z_K} {W C : Nat → Int32} {S0 : z_Mem} (hA : z_LA hts n hr h c0 ht wd H K W C S0) (h29 : S0.1 12 0 29 = 9999) (hs : z_sn c n wh wt wn S0) (hb : b < n) : ∀ (m N : Nat) (r : Int32 × Int32) (S : z_Mem), m < N → m ≤ 100 → z_fx (fun t i k => z_Psc t i k ∨ (t = 39 ∧ i = 0 ∧ k = b)) S0 S →
    ∃ S', zr_X12_wets (z_exe z_mt true (d + 8)) N 38 [some (.inr (.inr (12, 0))), some (.inl (nI b)), some (.inl v2), some (.inl (S0.1 39 0 b)), some (.inl r.1), some (.inl r.2), some (.inl (nI m - 1))] [] S = some (some (.inl (if v2 = 0 then (z_wc (fun m => z_dec (∀ j, j < c → wh j = b → z_wN H (K b) (wn j) ht hr (nI m) = nI (wt j))) m r).1 else (z_wc (fun m => z_dec (∀ j, j < c → wh j = b → z_wN H (K b) (wn j) ht hr (nI m) = nI (wt j))) m r).2)), S') ∧ z_fx z_Psc S0 S' := by
  obtain ⟨⟨hn, hhr, -, hH, -⟩, -⟩ := hA.1
  have hC := fun b hb => (hA.2.2 b hb).1.2.2
  intro m
  induction m with
  | zero =>
    intro N r S hN hm hf
    obtain ⟨N, rfl⟩ : ∃ N', N = N' + 1 := ⟨N - 1, by omega⟩
    refine ⟨z_sI S 39 0 b (S0.1 39 0 b), ?_, (hf.tr (z_fx.sI (Or.inr ⟨rfl, rfl, rfl⟩))).un (fun t i k n1 n2 => ?_)⟩
    · rw [ze_X12_wets_38, if_pos (by decide), z_oob_n (k := b) (by omega) (by omega), z_cl (k := b) (by omega)]
      simp only [z_cnf]
      by_cases q : v2 = 0
      · rw [if_pos q, if_pos q]; rfl
      · rw [if_neg q, if_neg q]; rfl
    · rcases n2 with n2 | ⟨rfl, rfl, rfl⟩
      · exact absurd n2 n1
      · exact ⟨by unfold z_LR; omega, by rw [z_sI1, if_pos ⟨rfl, rfl, rfl⟩]⟩
  | succ m ih =>
    intro N r S hN hm hf
    obtain ⟨N, rfl⟩ : ∃ N', N = N' + 1 := ⟨N - 1, by omega⟩
    have f1 : z_fx (fun t i k => z_Psc t i k ∨ (t = 39 ∧ i = 0 ∧ k = b)) S0 (z_sI S 39 0 b (nI m)) := hf.tr (z_fx.sI (Or.inr ⟨rfl, rfl, rfl⟩))
    have hR1 : z_Rm c0 H n ht hr K (fun o => if o = b then nI m else W o) C (z_sI S 39 0 b (nI m)) := hA.Rm.wx hb hn f1 (by rw [z_sI1, if_pos ⟨rfl, rfl, rfl⟩])
    obtain ⟨x, S2, e2, hy, f3⟩ := s_isSeen d c0 c n hr wh wt wn H ht K (fun o => if o = b then nI m else W o) C (nI b) (z_sI S 39 0 b (nI m)) hH hn hhr hC (by rw [f1.i (by unfold z_Psc; omega)]; exact h29) hR1 (hs.cgs (fun t i k q => f1.i (by unfold z_FB at q; unfold z_Psc; omega)))
    have f12 := f1.tr (f3.wk (fun t i k q => Or.inl q))
    rw [ze_X12_wets_38, nI_pred, if_neg (nI_pos (by omega)), z_oob_n (k := b) (by omega) (by omega), z_cl (k := b) (by omega)]
    simp only [z_cnf]
    rw [e2, z_rI_s, ← Int32.sub_eq_add_neg]
    have hst : z_wc (fun m => z_dec (∀ j, j < c → wh j = b → z_wN H (K b) (wn j) ht hr (nI m) = nI (wt j))) (m + 1) r = z_wc (fun m => z_dec (∀ j, j < c → wh j = b → z_wN H (K b) (wn j) ht hr (nI m) = nI (wt j))) m (if z_dec (∀ j, j < c → wh j = b → z_wN H (K b) (wn j) ht hr (nI m) = nI (wt j)) then (r.1 + 1, nI m) else r) := rfl
    rw [hst]
    have hpp : (∀ j, j < c → (nI b < 0 ∨ nI (wh j) = nI b) → z_wN H (K (wh j)) (wn j) ht hr ((fun o => if o = b then nI m else W o) (wh j)) = nI (wt j)) ↔ (∀ j, j < c → wh j = b → z_wN H (K b) (wn j) ht hr (nI m) = nI (wt j)) := by
      refine forall_congr' (fun j => forall_congr' (fun hj => ?_))
      have hwj := (hs.2.2.2 j hj).1.1
      by_cases q : wh j = b
      · rw [q]
        try dsimp only
        rw [if_pos rfl]
        exact ⟨fun z _ => z (Or.inr rfl), fun z _ => z rfl⟩
      · exact ⟨fun _ z => absurd z q, fun _ z => z.elim (fun z => absurd z (nI_pos (by omega))) (fun z => absurd ((nI_eq (by omega) (by omega)).mp z) q)⟩
    rcases hy with ⟨rfl, p⟩ | ⟨rfl, p⟩
    · rw [if_neg z_01n, z_dec_T (hpp.mp p), if_pos rfl]
      exact ih N (r.1 + 1, nI m) S2 (by omega) (by omega) f12
    · rw [if_pos rfl, z_dec_F (fun z => p (hpp.mpr z)), if_neg Bool.false_ne_true]
      exact ih N r S2 (by omega) (by omega) f12
theorem c_wets (S : z_Mem) (hR : z_RL S) (v1 v2 : Int32) : z_both 95 195 [.inl v1, .inl v2] S := by
  obtain ⟨hts, hN, ⟨n, hr, h, c0, ht, wd, H, K, W, C, hA, hB⟩, hI, hT, hP, hAc⟩ := id hR
  obtain ⟨⟨hn, hhr, hwd, hH, hts6⟩, hh6⟩ := hA.1
  have hC := fun b hb => (hA.2.2 b hb).1.2.2
  have c7 : S.1 7 0 1 = nI n := hA.2.1.1.1
  have c12 : S.1 12 0 0 = nI n := hA.2.1.2.1
  by_cases h1 : 0 ≤ v1 ∧ v1 ≤ nI n - 1
  · obtain ⟨b, hb, rfl⟩ := z_isP_of hn h1
    by_cases h2 : 0 ≤ v2 ∧ v2 ≤ 1
    · obtain ⟨c, wh, wt, wn, hs⟩ := hB.sn hn
      refine z_ask (v := .inl (if v2 = 0 then (z_wc (fun m => z_dec (∀ j, j < c → wh j = b → z_wN H (K b) (wn j) ht hr (nI m) = nI (wt j))) 100 (0, -5)).1 else (z_wc (fun m => z_dec (∀ j, j < c → wh j = b → z_wN H (K b) (wn j) ht hr (nI m) = nI (wt j))) 100 (0, -5)).2)) hR ?_ (fun S' hf => ?_)
      · have e : z_exe z_mt true 40 95 [.inr (.inr (11, 0)), .inl (nI b), .inl v2] S = _ := (zx_X11_wets 39 S 0 (nI b) v2).trans (ze_X11_wets_0 _ _ _ _ _ _)
        obtain ⟨S1, e1, f1⟩ := l_wetsC 33 b c wh wt wn v2 hA hs hb 100 999999 (0, -5) S (by omega) (by omega) z_fx.rf
        rw [show nI 100 - 1 = (99 : Int32) by decide] at e1
        refine ⟨S1, ?_, z_Pco_sk f1⟩
        rw [e, s_noPair 38 n _ S hn c7, z_rI_s, z_b1_F (fun z => z h1), if_pos rfl, s_outside, z_rI_s, z_b1_F (fun z => z h2), if_pos rfl]
        exact e1
      · have hA' := hA.sk hf
        have hN' := hN.sk hf
        have hB' := hB.sk hf
        have c7' : S'.1 7 0 1 = nI n := hA'.2.1.1.1
        have c12' : S'.1 12 0 0 = nI n := hA'.2.1.2.1
        have e : z_exe z_mt true 40 195 [.inr (.inr (12, 0)), .inl (nI b), .inl v2] S' = _ := (zx_X12_wets 39 S' 0 (nI b) v2).trans (ze_X12_wets_0 _ _ _ _ _ _)
        have hs' := hs.cgs (fun t i k q => hf.i (by unfold z_FB at q; unfold z_Sk; omega))
        obtain ⟨S1, e1, f1⟩ := l_wetsM 31 b c wh wt wn v2 hA' hN'.2.2.2.1 hs' hb 100 999999 (0, -5) S' (by omega) (by omega) z_fx.rf
        rw [show nI 100 - 1 = (99 : Int32) by decide] at e1
        refine ⟨S1, ?_, z_Psc_sk f1⟩
        rw [e, s_isPair 37 n _ S' c12', z_rI_s, z_b1_T h1, if_neg z_01n, s_in, z_rI_s, z_b1_T h2, if_neg z_01n, z_oob_n (k := b) (by omega) (by omega), z_cl (k := b) (by omega), z_cnf]
        exact e1
    · refine z_no (v := .inl (-1)) hR ?_ ?_
      · have e : z_exe z_mt true 40 95 [.inr (.inr (11, 0)), .inl (nI b), .inl v2] S = _ := (zx_X11_wets 39 S 0 (nI b) v2).trans (ze_X11_wets_0 _ _ _ _ _ _)
        rw [e, s_noPair 38 n _ S hn c7, z_rI_s, z_b1_F (fun z => z h1), if_pos rfl, s_outside, z_rI_s, z_b1_T h2, if_neg z_01n]
      · have e : z_exe z_mt true 40 195 [.inr (.inr (12, 0)), .inl (nI b), .inl v2] S = _ := (zx_X12_wets 39 S 0 (nI b) v2).trans (ze_X12_wets_0 _ _ _ _ _ _)
        rw [e, s_isPair 37 n _ S c12, z_rI_s, z_b1_T h1, if_neg z_01n, s_in, z_rI_s, z_b1_F h2, if_pos rfl]
  · refine z_no (v := .inl (-1)) hR ?_ ?_
    · have e : z_exe z_mt true 40 95 [.inr (.inr (11, 0)), .inl v1, .inl v2] S = _ := (zx_X11_wets 39 S 0 v1 v2).trans (ze_X11_wets_0 _ _ _ _ _ _)
      rw [e, s_noPair 38 n _ S hn c7, z_rI_s, z_b1_T h1, if_neg z_01n]
    · have e : z_exe z_mt true 40 195 [.inr (.inr (12, 0)), .inl v1, .inl v2] S = _ := (zx_X12_wets 39 S 0 v1 v2).trans (ze_X12_wets_0 _ _ _ _ _ _)
      rw [e, s_isPair 37 n _ S c12, z_rI_s, z_b1_F h1, if_pos rfl]
/-! ===== can ===== -/
theorem l_canC (d b c : Nat) (wh wt wn : Nat → Nat) (v2 : Int32) {hts n hr h c0 : Nat} {ht wd : Int32} {H : z_H} {K : Nat → z_K} {W C : Nat → Int32} {S0 : z_Mem} (hA : z_LA hts n hr h c0 ht wd H K W C S0) (hs : z_sn c n wh wt wn S0) (hb : b < n) : ∀ (m N : Nat) (r : Int32 × Int32) (S : z_Mem), m < N → m ≤ 10 → z_fx z_Pco S0 S →
    ∃ S', zr_X11_can (z_exe z_mt true (d + 6)) N 28 [some (.inr (.inr (11, 0))), some (.inl (nI b)), some (.inl v2), some (.inl r.1), some (.inl r.2), some (.inl (nI m - 1))] [] S = some (some (.inl (if v2 = 0 then (z_wc (fun m => z_dec (∀ j, j < c → wh j = b → z_wN H (z_kv (K b) (nI m)) (wn j) ht hr (W b) = nI (wt j))) m r).1 else (z_wc (fun m => z_dec (∀ j, j < c → wh j = b → z_wN H (z_kv (K b) (nI m)) (wn j) ht hr (W b) = nI (wt j))) m r).2)), S') ∧ z_fx z_Pco S0 S' := by
  obtain ⟨⟨hn, hhr, -, hH, -⟩, -⟩ := hA.1
  intro m
  induction m with
  | zero =>
    intro N r S hN hm hf
    obtain ⟨N, rfl⟩ : ∃ N', N = N' + 1 := ⟨N - 1, by omega⟩
    refine ⟨S, ?_, hf⟩
    rw [ze_X11_can_28, if_pos (by decide)]
    by_cases q : v2 = 0
    · rw [if_pos q, if_pos q]; rfl
    · rw [if_neg q, if_neg q]; rfl
  | succ m ih =>
    intro N r S hN hm hf
    obtain ⟨N, rfl⟩ : ∃ N', N = N' + 1 := ⟨N - 1, by omega⟩
    have hA1 := hA.sk (z_Pco_sk hf)
    have hs1 := hs.cgs (fun t i k q => hf.i (by unfold z_FB at q; unfold z_Pco; omega))
    obtain ⟨⟨hK, -⟩, ⟨kb, k01, kw, kc⟩, -⟩ := hA1.2.2 b hb
    have hw0 := hA.W0 b hb
    obtain ⟨q, S1, e1, rfl, k1, f1⟩ := s_cbegin (d + 4) b 0 h hr H ht S (by omega) (by omega) k01 hA1.2.1.1.2.2.2.2.1 hA1.2.1.1.2.2.2.2.2.1 hA1.2.1.1.2.1 hA1.2.1.1.2.2.2.1
    rw [kb, kw] at k1
    have k2 := k1.vx (nI m)
    have f2 : z_fx z_Pco S1 (z_sI S1 2 18 2 (nI m)) := z_fx.sI (Or.inl ⟨Or.inl rfl, by omega, by omega⟩)
    have f12 := (hf.tr f1).tr f2
    obtain ⟨x, S2, e2, hy, f3⟩ := s_cas d h c n b hr wh wt wn H (z_kv (K b) (nI m)) ht (W b) _ (z_sI S1 2 18 2 (nI m)) hH hn hb hhr hw0 k2 hK.1 (hs.cgs (fun t i k q => f12.i (by unfold z_FB at q; unfold z_Pco; omega)))
    rw [ze_X11_can_28, nI_pred, if_neg (nI_pos (by omega)), z_oob_n (k := b) (by omega) (by omega), z_cl (k := b) (by omega), z_60]
    simp only [z_cnf]
    rw [e1, z_rV_s]
    try dsimp only
    rw [e2, z_rI_s, ← Int32.sub_eq_add_neg]
    have hst : z_wc (fun m => z_dec (∀ j, j < c → wh j = b → z_wN H (z_kv (K b) (nI m)) (wn j) ht hr (W b) = nI (wt j))) (m + 1) r = z_wc (fun m => z_dec (∀ j, j < c → wh j = b → z_wN H (z_kv (K b) (nI m)) (wn j) ht hr (W b) = nI (wt j))) m (if z_dec (∀ j, j < c → wh j = b → z_wN H (z_kv (K b) (nI m)) (wn j) ht hr (W b) = nI (wt j)) then (r.1 + 1, nI m) else r) := rfl
    rw [hst]
    rcases hy with ⟨rfl, p⟩ | ⟨rfl, p⟩
    · rw [if_neg z_01n, z_dec_T p, if_pos rfl]
      exact ih N (r.1 + 1, nI m) S2 (by omega) (by omega) (f12.tr f3)
    · rw [if_pos rfl, z_dec_F p, if_neg Bool.false_ne_true]
      exact ih N r S2 (by omega) (by omega) (f12.tr f3)
theorem l_canM (d b c : Nat) (wh wt wn : Nat → Nat) (v2 : Int32) {hts n hr h c0 : Nat} {ht wd : Int32} {H : z_H} {K : Nat → z_K} {W C : Nat → Int32} {S0 : z_Mem} (hA : z_LA hts n hr h c0 ht wd H K W C S0) (h29 : S0.1 12 0 29 = 9999) (hs : z_sn c n wh wt wn S0) (hb : b < n) : ∀ (m N : Nat) (r : Int32 × Int32) (S : z_Mem), m < N → m ≤ 10 → z_fx (fun t i k => z_Psc t i k ∨ (t = 38 ∧ i = 0 ∧ k = b)) S0 S →
    ∃ S', zr_X12_can (z_exe z_mt true (d + 8)) N 38 [some (.inr (.inr (12, 0))), some (.inl (nI b)), some (.inl v2), some (.inl (S0.1 38 0 b)), some (.inl r.1), some (.inl r.2), some (.inl (nI m - 1))] [] S = some (some (.inl (if v2 = 0 then (z_wc (fun m => z_dec (∀ j, j < c → wh j = b → z_wN H (z_kv (K b) (nI m)) (wn j) ht hr (W b) = nI (wt j))) m r).1 else (z_wc (fun m => z_dec (∀ j, j < c → wh j = b → z_wN H (z_kv (K b) (nI m)) (wn j) ht hr (W b) = nI (wt j))) m r).2)), S') ∧ z_fx z_Psc S0 S' := by
  obtain ⟨⟨hn, hhr, -, hH, -⟩, -⟩ := hA.1
  have hC := fun b hb => (hA.2.2 b hb).1.2.2
  intro m
  induction m with
  | zero =>
    intro N r S hN hm hf
    obtain ⟨N, rfl⟩ : ∃ N', N = N' + 1 := ⟨N - 1, by omega⟩
    refine ⟨z_sI S 38 0 b (S0.1 38 0 b), ?_, (hf.tr (z_fx.sI (Or.inr ⟨rfl, rfl, rfl⟩))).un (fun t i k n1 n2 => ?_)⟩
    · rw [ze_X12_can_38, if_pos (by decide), z_oob_n (k := b) (by omega) (by omega), z_cl (k := b) (by omega)]
      simp only [z_cnf]
      by_cases q : v2 = 0
      · rw [if_pos q, if_pos q]; rfl
      · rw [if_neg q, if_neg q]; rfl
    · rcases n2 with n2 | ⟨rfl, rfl, rfl⟩
      · exact absurd n2 n1
      · exact ⟨by unfold z_LR; omega, by rw [z_sI1, if_pos ⟨rfl, rfl, rfl⟩]⟩
  | succ m ih =>
    intro N r S hN hm hf
    obtain ⟨N, rfl⟩ : ∃ N', N = N' + 1 := ⟨N - 1, by omega⟩
    have f1 : z_fx (fun t i k => z_Psc t i k ∨ (t = 38 ∧ i = 0 ∧ k = b)) S0 (z_sI S 38 0 b (nI m)) := hf.tr (z_fx.sI (Or.inr ⟨rfl, rfl, rfl⟩))
    have hR1 : z_Rm c0 H n ht hr (fun o => if o = b then z_kv (K o) (nI m) else K o) W C (z_sI S 38 0 b (nI m)) := hA.Rm.vx hb hn f1 (by rw [z_sI1, if_pos ⟨rfl, rfl, rfl⟩])
    obtain ⟨x, S2, e2, hy, f3⟩ := s_isSeen d c0 c n hr wh wt wn H ht (fun o => if o = b then z_kv (K o) (nI m) else K o) W C (nI b) (z_sI S 38 0 b (nI m)) hH hn hhr hC (by rw [f1.i (by unfold z_Psc; omega)]; exact h29) hR1 (hs.cgs (fun t i k q => f1.i (by unfold z_FB at q; unfold z_Psc; omega)))
    have f12 := f1.tr (f3.wk (fun t i k q => Or.inl q))
    rw [ze_X12_can_38, nI_pred, if_neg (nI_pos (by omega)), z_oob_n (k := b) (by omega) (by omega), z_cl (k := b) (by omega)]
    simp only [z_cnf]
    rw [e2, z_rI_s, ← Int32.sub_eq_add_neg]
    have hst : z_wc (fun m => z_dec (∀ j, j < c → wh j = b → z_wN H (z_kv (K b) (nI m)) (wn j) ht hr (W b) = nI (wt j))) (m + 1) r = z_wc (fun m => z_dec (∀ j, j < c → wh j = b → z_wN H (z_kv (K b) (nI m)) (wn j) ht hr (W b) = nI (wt j))) m (if z_dec (∀ j, j < c → wh j = b → z_wN H (z_kv (K b) (nI m)) (wn j) ht hr (W b) = nI (wt j)) then (r.1 + 1, nI m) else r) := rfl
    rw [hst]
    have hpp : (∀ j, j < c → (nI b < 0 ∨ nI (wh j) = nI b) → z_wN H ((fun o => if o = b then z_kv (K o) (nI m) else K o) (wh j)) (wn j) ht hr (W (wh j)) = nI (wt j)) ↔ (∀ j, j < c → wh j = b → z_wN H (z_kv (K b) (nI m)) (wn j) ht hr (W b) = nI (wt j)) := by
      refine forall_congr' (fun j => forall_congr' (fun hj => ?_))
      have hwj := (hs.2.2.2 j hj).1.1
      by_cases q : wh j = b
      · rw [q]
        try dsimp only
        rw [if_pos rfl]
        exact ⟨fun z _ => z (Or.inr rfl), fun z _ => z rfl⟩
      · exact ⟨fun _ z => absurd z q, fun _ z => z.elim (fun z => absurd z (nI_pos (by omega))) (fun z => absurd ((nI_eq (by omega) (by omega)).mp z) q)⟩
    rcases hy with ⟨rfl, p⟩ | ⟨rfl, p⟩
    · rw [if_neg z_01n, z_dec_T (hpp.mp p), if_pos rfl]
      exact ih N (r.1 + 1, nI m) S2 (by omega) (by omega) f12
    · rw [if_pos rfl, z_dec_F (fun z => p (hpp.mpr z)), if_neg Bool.false_ne_true]
      exact ih N r S2 (by omega) (by omega) f12
theorem c_can (S : z_Mem) (hR : z_RL S) (v1 v2 : Int32) : z_both 96 196 [.inl v1, .inl v2] S := by
  obtain ⟨hts, hN, ⟨n, hr, h, c0, ht, wd, H, K, W, C, hA, hB⟩, hI, hT, hP, hAc⟩ := id hR
  obtain ⟨⟨hn, hhr, hwd, hH, hts6⟩, hh6⟩ := hA.1
  have hC := fun b hb => (hA.2.2 b hb).1.2.2
  have c7 : S.1 7 0 1 = nI n := hA.2.1.1.1
  have c12 : S.1 12 0 0 = nI n := hA.2.1.2.1
  by_cases h1 : 0 ≤ v1 ∧ v1 ≤ nI n - 1
  · obtain ⟨b, hb, rfl⟩ := z_isP_of hn h1
    by_cases h2 : 0 ≤ v2 ∧ v2 ≤ 1
    · obtain ⟨c, wh, wt, wn, hs⟩ := hB.sn hn
      refine z_ask (v := .inl (if v2 = 0 then (z_wc (fun m => z_dec (∀ j, j < c → wh j = b → z_wN H (z_kv (K b) (nI m)) (wn j) ht hr (W b) = nI (wt j))) 10 (0, -5)).1 else (z_wc (fun m => z_dec (∀ j, j < c → wh j = b → z_wN H (z_kv (K b) (nI m)) (wn j) ht hr (W b) = nI (wt j))) 10 (0, -5)).2)) hR ?_ (fun S' hf => ?_)
      · have e : z_exe z_mt true 40 96 [.inr (.inr (11, 0)), .inl (nI b), .inl v2] S = _ := (zx_X11_can 39 S 0 (nI b) v2).trans (ze_X11_can_0 _ _ _ _ _ _)
        obtain ⟨S1, e1, f1⟩ := l_canC 33 b c wh wt wn v2 hA hs hb 10 999999 (0, -5) S (by omega) (by omega) z_fx.rf
        rw [show nI 10 - 1 = (9 : Int32) by decide] at e1
        refine ⟨S1, ?_, z_Pco_sk f1⟩
        rw [e, s_noPair 38 n _ S hn c7, z_rI_s, z_b1_F (fun z => z h1), if_pos rfl, s_outside, z_rI_s, z_b1_F (fun z => z h2), if_pos rfl]
        exact e1
      · have hA' := hA.sk hf
        have hN' := hN.sk hf
        have hB' := hB.sk hf
        have c7' : S'.1 7 0 1 = nI n := hA'.2.1.1.1
        have c12' : S'.1 12 0 0 = nI n := hA'.2.1.2.1
        have e : z_exe z_mt true 40 196 [.inr (.inr (12, 0)), .inl (nI b), .inl v2] S' = _ := (zx_X12_can 39 S' 0 (nI b) v2).trans (ze_X12_can_0 _ _ _ _ _ _)
        have hs' := hs.cgs (fun t i k q => hf.i (by unfold z_FB at q; unfold z_Sk; omega))
        obtain ⟨S1, e1, f1⟩ := l_canM 31 b c wh wt wn v2 hA' hN'.2.2.2.1 hs' hb 10 999999 (0, -5) S' (by omega) (by omega) z_fx.rf
        rw [show nI 10 - 1 = (9 : Int32) by decide] at e1
        refine ⟨S1, ?_, z_Psc_sk f1⟩
        rw [e, s_isPair 37 n _ S' c12', z_rI_s, z_b1_T h1, if_neg z_01n, s_in, z_rI_s, z_b1_T h2, if_neg z_01n, z_oob_n (k := b) (by omega) (by omega), z_cl (k := b) (by omega), z_cnf]
        exact e1
    · refine z_no (v := .inl (-1)) hR ?_ ?_
      · have e : z_exe z_mt true 40 96 [.inr (.inr (11, 0)), .inl (nI b), .inl v2] S = _ := (zx_X11_can 39 S 0 (nI b) v2).trans (ze_X11_can_0 _ _ _ _ _ _)
        rw [e, s_noPair 38 n _ S hn c7, z_rI_s, z_b1_F (fun z => z h1), if_pos rfl, s_outside, z_rI_s, z_b1_T h2, if_neg z_01n]
      · have e : z_exe z_mt true 40 196 [.inr (.inr (12, 0)), .inl (nI b), .inl v2] S = _ := (zx_X12_can 39 S 0 (nI b) v2).trans (ze_X12_can_0 _ _ _ _ _ _)
        rw [e, s_isPair 37 n _ S c12, z_rI_s, z_b1_T h1, if_neg z_01n, s_in, z_rI_s, z_b1_F h2, if_pos rfl]
  · refine z_no (v := .inl (-1)) hR ?_ ?_
    · have e : z_exe z_mt true 40 96 [.inr (.inr (11, 0)), .inl v1, .inl v2] S = _ := (zx_X11_can 39 S 0 v1 v2).trans (ze_X11_can_0 _ _ _ _ _ _)
      rw [e, s_noPair 38 n _ S hn c7, z_rI_s, z_b1_T h1, if_neg z_01n]
    · have e : z_exe z_mt true 40 196 [.inr (.inr (12, 0)), .inl v1, .inl v2] S = _ := (zx_X12_can 39 S 0 v1 v2).trans (ze_X12_can_0 _ _ _ _ _ _)
      rw [e, s_isPair 37 n _ S c12, z_rI_s, z_b1_F h1, if_pos rfl]
