/-! ===== where ===== -/
/-- a pair's kept part, once pair b goes to p -/
def z_kw (K : Nat → z_K) (n b : Nat) (p : Int32) (o : Nat) : z_K := z_kp (K o) (z_np K n b p o)
theorem l_aas (d c b p : Nat) (wh wt wn : Nat → Nat) {hts n hr h c0 : Nat} {ht wd : Int32} {H : z_H} {K : Nat → z_K} {W C : Nat → Int32} {S0 : z_Mem} (hA : z_LA hts n hr h c0 ht wd H K W C S0) (hs : z_sn c n wh wt wn S0) (hb : b < n) : ∀ (m i N : Nat) (S : z_Mem), i + m = c → m < N → z_fx z_Pco S0 S → (∀ j, j < i → z_wN H (z_kw K n b (nI p) (wh j)) (wn j) ht hr (W (wh j)) = nI (wt j)) →
    ∃ r S', zr_X11_allIsAsSeenWith (z_exe z_mt true (d + 6)) N 26 [some (.inr (.inr (11, 0))), some (.inl (nI b)), some (.inl (nI p)), some (.inl (K b).2.2.2.1), some (.inl (z_pw K n (nI p))), some (.inl (nI i)), none, none] [] S = some (some (.inl r), S') ∧ z_yes r (∀ j, j < c → z_wN H (z_kw K n b (nI p) (wh j)) (wn j) ht hr (W (wh j)) = nI (wt j)) ∧ z_fx z_Pco S0 S' := by
  obtain ⟨⟨hn, hhr, -, hH, -⟩, -⟩ := hA.1
  intro m
  induction m with
  | zero =>
    intro i N S hi hN hf hk
    obtain ⟨N, rfl⟩ : ∃ N', N = N' + 1 := ⟨N - 1, by omega⟩
    have hc := hs.1
    have h8 : S.1 8 0 3 = nI c := (hf.i (by unfold z_Pco; omega)).trans hs.2.1
    refine ⟨1, S, ?_, Or.inl ⟨rfl, fun j a => hk j (by omega)⟩, hf⟩
    rw [ze_X11_allIsAsSeenWith_26, if_pos (by rw [h8, z_le (by omega) (by omega)]; omega)]
  | succ m ih =>
    intro i N S hi hN hf hk
    obtain ⟨N, rfl⟩ : ∃ N', N = N' + 1 := ⟨N - 1, by omega⟩
    have hc := hs.1
    have hs1 := hs.cgs (fun t i k q => hf.i (by unfold z_FB at q; unfold z_Pco; omega))
    obtain ⟨⟨a1, a2, -⟩, ⟨b1, b2, -⟩, ⟨c1, c2, -⟩⟩ := hs1.2.2.2 i (by omega)
    have ho : z_oob (nI i) (z_rl 0) = false := z_oob_n (n := 5) (by omega) (by omega)
    have hA1 := hA.sk (z_Pco_sk hf)
    obtain ⟨⟨hK, -⟩, ⟨kb, k01, kw, kc⟩, -⟩ := hA1.2.2 (wh i) a1
    have hw0 := hA.W0 (wh i) a1
    have h20 : S.1 2 (wh i) 0 = nI (wh i) := by rw [← hK.1, ← kb]; rfl
    have h24 : S.1 2 (wh i) 4 = (K (wh i)).2.2.2.1 := by rw [← kb]; rfl
    -- the course, from the place that it has then
    have go : ∀ at' : Int32, at' = z_np K n b (nI p) (wh i) → ∃ r S', z_rI (z_exe z_mt true (d + 6) 19 [.inr (.inr (3, 0)), .inl (nI (wn i)), .inr (.inr (2, wh i)), .inl at', .inr (.inr (9, 0))] S) (fun r6 S5 =>
        if r6 = (S5.1 32 0 i) then (
         zr_X11_allIsAsSeenWith (z_exe z_mt true (d + 6)) N 26 [some (.inr (.inr (11, 0))), some (.inl (nI b)), some (.inl (nI p)), some (.inl (K b).2.2.2.1), some (.inl (z_pw K n (nI p))), some (.inl (nI (i + 1))), none, none] [] S5)
        else (
         some (some (.inl (0 : Int32)), S5))) = some (some (.inl r), S') ∧ z_yes r (∀ j, j < c → z_wN H (z_kw K n b (nI p) (wh j)) (wn j) ht hr (W (wh j)) = nI (wt j)) ∧ z_fx z_Pco S0 S' := by
      intro at' hat
      obtain ⟨q, S1, e1, rfl, f1⟩ := s_wetBehind d (wh i) 0 h hr (wn i) H ht at' S (by omega) (by omega) k01 hA1.2.1.1.2.2.2.2.1 hA1.2.1.1.2.2.2.2.2.1 hA1.2.1.1.2.1 hA1.2.1.1.2.2.2.1 hH (by omega) (by omega) (by rw [kw]; exact hw0)
      rw [kb, kw, hat] at e1
      have h32 : S1.1 32 0 i = nI (wt i) := (f1.i (by unfold z_Pco; omega)).trans b2
      rw [hat, e1, z_rI_s, h32]
      by_cases g : z_wN H (z_kp (K (wh i)) (z_np K n b (nI p) (wh i))) (wn i) ht hr (W (wh i)) = nI (wt i)
      · rw [if_pos g]
        exact ih (i + 1) N S1 (by omega) (by omega) (hf.tr f1) (fun j q1 => by
          by_cases e : j = i
          · subst e; exact g
          · exact hk j (by omega))
      · rw [if_neg g]
        exact ⟨0, S1, rfl, Or.inr ⟨rfl, fun hall => g (hall i (by omega))⟩, hf.tr f1⟩
    have hz : ¬ ¬ (0 ≤ nI (wh i) ∧ nI (wh i) ≤ nI n - 1) := fun z => z (z_isP_to hn a1)
    rw [ze_X11_allIsAsSeenWith_26, if_neg (by rw [hs1.2.1, z_le (by omega) (by omega)]; omega), ho, z_cnf, z_cl (k := i) (by omega), a2, s_noPair (d + 5) n (nI (wh i)) S hn hA1.2.1.1.1, z_rI_s, z_b1_F hz, if_pos rfl, a2, z_oob_n (k := wh i) (by omega) (by omega), z_cl (k := wh i) (by omega), z_60, h20, h24, c2, nI_1]
    simp only [z_cnf]
    by_cases q1 : nI (wh i) = nI b
    · rw [if_pos q1]
      refine go (nI p) ?_
      unfold z_np
      rw [if_pos ((nI_eq (by omega) (by omega)).mp q1)]
    · rw [if_neg q1]
      by_cases q2 : nI (wh i) = z_pw K n (nI p)
      · rw [if_pos q2]
        refine go (K b).2.2.2.1 ?_
        unfold z_np
        rw [if_neg (fun z => q1 (by rw [z])), if_pos q2]
      · rw [if_neg q2]
        refine go (K (wh i)).2.2.2.1 ?_
        unfold z_np
        rw [if_neg (fun z => q1 (by rw [z])), if_neg q2]
theorem s_aas (d c b p : Nat) (wh wt wn : Nat → Nat) {hts n hr h c0 : Nat} {ht wd : Int32} {H : z_H} {K : Nat → z_K} {W C : Nat → Int32} {S : z_Mem} (hA : z_LA hts n hr h c0 ht wd H K W C S) (hs : z_sn c n wh wt wn S) (hb : b < n) :
    ∃ r S', z_exe z_mt true (d + 7) 120 [.inr (.inr (11, 0)), .inl (nI b), .inl (nI p)] S = some (some (.inl r), S') ∧ z_yes r (∀ j, j < c → z_wN H (z_kw K n b (nI p) (wh j)) (wn j) ht hr (W (wh j)) = nI (wt j)) ∧ z_fx z_Pco S S' := by
  have e : z_exe z_mt true (d + 7) 120 [.inr (.inr (11, 0)), .inl (nI b), .inl (nI p)] S = _ := (zx_X11_allIsAsSeenWith (d + 6) S 0 (nI b) (nI p)).trans (ze_X11_allIsAsSeenWith_0 _ _ _ _ _ _)
  have hn := hA.1.1.1
  have hc := hs.1
  have h24 : S.1 2 b 4 = (K b).2.2.2.1 := by rw [← (hA.2.2 b hb).2.1.1]; rfl
  rw [e, z_oob_n (k := b) (by omega) (by omega), z_cl (k := b) (by omega), z_60, h24]
  simp only [z_cnf]
  rw [s_whoC (d + 5) hA, z_rI_s]
  exact l_aas d c b p wh wt wn hA hs hb c 0 999999 S (by omega) (by omega) z_fx.rf (fun j hj => by omega)
/-- the bits of the places from p on, m of them -/
def z_wb (P : Nat → Bool) : Nat → Nat → Int32 → Int32
  | _, 0, x => x
  | p, m + 1, x => z_wb P (p + 1) m (if P p then x ||| ((1 : Int32) <<< (nI p &&& 31)) else x)
theorem l_whereC (d b c : Nat) (wh wt wn : Nat → Nat) {hts n hr h c0 : Nat} {ht wd : Int32} {H : z_H} {K : Nat → z_K} {W C : Nat → Int32} {S0 : z_Mem} (hA : z_LA hts n hr h c0 ht wd H K W C S0) (hs : z_sn c n wh wt wn S0) (hb : b < n) : ∀ (m p N : Nat) (x : Int32) (S : z_Mem), p + m = 6 → m < N → z_fx z_Pco S0 S →
    ∃ S', zr_X11_where (z_exe z_mt true (d + 7)) N 14 [some (.inr (.inr (11, 0))), some (.inl (nI b)), some (.inl x), some (.inl (nI p))] [] S = some (some (.inl (z_wb (fun p => z_dec (∀ j, j < c → z_wN H (z_kw K n b (nI p) (wh j)) (wn j) ht hr (W (wh j)) = nI (wt j))) p m x)), S') ∧ z_fx z_Pco S0 S' := by
  intro m
  induction m with
  | zero =>
    intro p N x S hp hN hf
    obtain ⟨N, rfl⟩ : ∃ N', N = N' + 1 := ⟨N - 1, by omega⟩
    refine ⟨S, ?_, hf⟩
    rw [ze_X11_where_14, if_pos (by rw [show (6 : Int32) = nI 6 from rfl, z_le (by omega) (by omega)]; omega)]
    rfl
  | succ m ih =>
    intro p N x S hp hN hf
    obtain ⟨N, rfl⟩ : ∃ N', N = N' + 1 := ⟨N - 1, by omega⟩
    obtain ⟨r, S1, e1, hy, f1⟩ := s_aas d c b p wh wt wn (hA.sk (z_Pco_sk hf)) (hs.cgs (fun t i k q => hf.i (by unfold z_FB at q; unfold z_Pco; omega))) hb
    rw [ze_X11_where_14, if_neg (by rw [show (6 : Int32) = nI 6 from rfl, z_le (by omega) (by omega)]; omega), e1, z_rI_s, nI_1]
    have hst : z_wb (fun p => z_dec (∀ j, j < c → z_wN H (z_kw K n b (nI p) (wh j)) (wn j) ht hr (W (wh j)) = nI (wt j))) p (m + 1) x = z_wb (fun p => z_dec (∀ j, j < c → z_wN H (z_kw K n b (nI p) (wh j)) (wn j) ht hr (W (wh j)) = nI (wt j))) (p + 1) m (if z_dec (∀ j, j < c → z_wN H (z_kw K n b (nI p) (wh j)) (wn j) ht hr (W (wh j)) = nI (wt j)) then x ||| ((1 : Int32) <<< (nI p &&& 31)) else x) := rfl
    rw [hst]
    rcases hy with ⟨rfl, y⟩ | ⟨rfl, y⟩
    · rw [if_neg z_01n, z_dec_T y, if_pos rfl]
      exact ih (p + 1) N _ S1 (by omega) (by omega) (hf.tr f1)
    · rw [if_pos rfl, z_dec_F y, if_neg Bool.false_ne_true]
      exact ih (p + 1) N x S1 (by omega) (by omega) (hf.tr f1)
/-! the model -/
def z_P40 (t i k : Nat) : Prop := z_Psc t i k ∨ (t = 40 ∧ i = 0 ∧ k < 6) ∨ (t = 62 ∧ i = 0)
theorem l_whM12 (ex : z_Ex) (b : Nat) (S0 : z_Mem) : ∀ (m o N : Nat) (S : z_Mem), o + m = 6 → z_fx (fun t i _ => t = 62 ∧ i = 0) S0 S → (∀ j, j < o → S.1 62 0 j = S0.1 40 0 j) →
    ∃ S', z_fx (fun t i _ => t = 62 ∧ i = 0) S0 S' ∧ (∀ j, j < 6 → S'.1 62 0 j = S0.1 40 0 j) ∧ zr_X12_where ex (N + (m + 1)) 12 [some (.inr (.inr (12, 0))), some (.inl (nI b)), some (.inl (nI o)), none, none] [] S = zr_X12_where ex N 40 [some (.inr (.inr (12, 0))), some (.inl (nI b)), some (.inl 0), some (.inl (nI 0)), none] [] S' := by
  intro m
  induction m with
  | zero =>
    intro o N S ho hf hk
    refine ⟨S, hf, fun j hj => hk j (by omega), ?_⟩
    show zr_X12_where ex (N + 1) 12 _ [] S = _
    rw [ze_X12_where_12, if_pos (by rw [show (6 : Int32) = nI 6 from rfl, z_le (by omega) (by omega)]; omega)]
    rfl
  | succ m ih =>
    intro o N S ho hf hk
    obtain ⟨S', f2, h2, e2⟩ := ih (o + 1) N (z_sI S 62 0 o (S.1 40 0 o)) (by omega) (hf.tr (z_fx.sI ⟨rfl, rfl⟩)) (fun j hj => by
      rw [z_sI1]
      by_cases q : j = o
      · rw [if_pos ⟨rfl, rfl, q⟩, q]; exact hf.i (by omega)
      · rw [if_neg (by omega)]; exact hk j (by omega))
    refine ⟨S', f2, h2, ?_⟩
    rw [show N + (m + 1 + 1) = N + (m + 1) + 1 from rfl]
    generalize N + (m + 1) = F at e2 ⊢
    rw [ze_X12_where_12, if_neg (by rw [show (6 : Int32) = nI 6 from rfl, z_le (by omega) (by omega)]; omega), z_oob_n (k := o) (by omega) (by omega), z_cl (k := o) (by omega)]
    simp only [z_cnf]
    rw [nI_1]
    exact e2
theorem l_whM73 (ex : z_Ex) (b p : Nat) (x : Int32) (S0 : z_Mem) : ∀ (m o N : Nat) (S : z_Mem), o + m = 6 → z_fx (fun t i k => t = 40 ∧ i = 0 ∧ k < 6) S0 S → (∀ j, j < o → S.1 40 0 j = S0.1 62 0 j) →
    ∃ S', z_fx (fun t i k => t = 40 ∧ i = 0 ∧ k < 6) S0 S' ∧ (∀ j, j < 6 → S'.1 40 0 j = S0.1 62 0 j) ∧ zr_X12_where ex (N + (m + 1)) 73 [some (.inr (.inr (12, 0))), some (.inl (nI b)), some (.inl x), some (.inl (nI p)), some (.inl (nI o))] [] S = zr_X12_where ex N 40 [some (.inr (.inr (12, 0))), some (.inl (nI b)), some (.inl x), some (.inl (nI (p + 1))), none] [] S' := by
  intro m
  induction m with
  | zero =>
    intro o N S ho hf hk
    refine ⟨S, hf, fun j hj => hk j (by omega), ?_⟩
    show zr_X12_where ex (N + 1) 73 _ [] S = _
    rw [ze_X12_where_73, if_pos (by rw [show (6 : Int32) = nI 6 from rfl, z_le (by omega) (by omega)]; omega), nI_1]
  | succ m ih =>
    intro o N S ho hf hk
    obtain ⟨S', f2, h2, e2⟩ := ih (o + 1) N (z_sI S 40 0 o (S.1 62 0 o)) (by omega) (hf.tr (z_fx.sI ⟨rfl, rfl, by omega⟩)) (fun j hj => by
      rw [z_sI1]
      by_cases q : j = o
      · rw [if_pos ⟨rfl, rfl, q⟩, q]; exact hf.i (by omega)
      · rw [if_neg (by omega)]; exact hk j (by omega))
    refine ⟨S', f2, h2, ?_⟩
    rw [show N + (m + 1 + 1) = N + (m + 1) + 1 from rfl]
    generalize N + (m + 1) = F at e2 ⊢
    rw [ze_X12_where_73, if_neg (by rw [show (6 : Int32) = nI 6 from rfl, z_le (by omega) (by omega)]; omega), z_oob_n (k := o) (by omega) (by omega), z_cl (k := o) (by omega)]
    simp only [z_cnf]
    rw [nI_1]
    exact e2
theorem z_Rm.kw {c0 n hr b : Nat} {H : z_H} {ht p : Int32} {K : Nat → z_K} {W C : Nat → Int32} {S S' : z_Mem} (hR : z_Rm c0 H n ht hr K W C S) (hn : n ≤ 6) (hf : z_fx z_P40 S S') (hx : ∀ k, k < n → S'.1 40 0 k = z_np K n b p k) : z_Rm c0 H n ht hr (z_kw K n b p) W C S' := by
  obtain ⟨r1, r2, r3, r4, r5⟩ := hR
  refine ⟨(hf.i (by unfold z_P40 z_Psc; omega)).trans r1, r2.fx hf (fun t i k a c => by unfold z_P40 z_Psc; omega) (by unfold z_P40 z_Psc; omega), (hf.i (by unfold z_P40 z_Psc; omega)).trans r3, (hf.i (by unfold z_P40 z_Psc; omega)).trans r4, fun o ho => ?_⟩
  obtain ⟨o1, o2, o3⟩ := r5 o ho
  refine ⟨?_, (hf.i (by unfold z_P40 z_Psc; omega)).trans o2, (hf.i (by unfold z_P40 z_Psc; omega)).trans o3⟩
  have h37 : S'.1 37 0 o = S.1 37 0 o := hf.i (by unfold z_P40 z_Psc; omega)
  have h38 : S'.1 38 0 o = S.1 38 0 o := hf.i (by unfold z_P40 z_Psc; omega)
  have h1 : S'.1 12 0 1 = S.1 12 0 1 := hf.i (by unfold z_P40 z_Psc; omega)
  have h42 : ∀ k, S'.1 42 0 k = S.1 42 0 k := fun k => hf.i (by unfold z_P40 z_Psc; omega)
  show z_km o S' = z_kp (K o) (z_np K n b p o)
  rw [← hx o ho, ← o1]
  unfold z_km z_kp
  rw [h37, h38, h1]
  simp only [h42]
theorem l_whereM (d b c : Nat) (wh wt wn : Nat → Nat) {hts n hr h c0 : Nat} {ht wd : Int32} {H : z_H} {K : Nat → z_K} {W C : Nat → Int32} {S0 : z_Mem} (hA : z_LA hts n hr h c0 ht wd H K W C S0) (h29 : S0.1 12 0 29 = 9999) (hs : z_sn c n wh wt wn S0) (hb : b < n) : ∀ (m p N : Nat) (x : Int32) (S : z_Mem), p + m = 6 → 8 * m < N → z_fx z_Sk S0 S → (∀ j, j < 6 → S.1 62 0 j = S0.1 40 0 j) →
    ∃ S', zr_X12_where (z_exe z_mt true (d + 8)) N 40 [some (.inr (.inr (12, 0))), some (.inl (nI b)), some (.inl x), some (.inl (nI p)), none] [] S = some (some (.inl (z_wb (fun p => z_dec (∀ j, j < c → z_wN H (z_kw K n b (nI p) (wh j)) (wn j) ht hr (W (wh j)) = nI (wt j))) p m x)), S') ∧ z_fx z_Sk S0 S' := by
  obtain ⟨⟨hn, hhr, -, hH, -⟩, -⟩ := hA.1
  have hC := fun b hb => (hA.2.2 b hb).1.2.2
  intro m
  induction m with
  | zero =>
    intro p N x S hp hN hf h62
    obtain ⟨N, rfl⟩ : ∃ N', N = N' + 1 := ⟨N - 1, by omega⟩
    refine ⟨S, ?_, hf⟩
    rw [ze_X12_where_40, if_pos (by rw [show (6 : Int32) = nI 6 from rfl, z_le (by omega) (by omega)]; omega)]
    rfl
  | succ m ih =>
    intro p N x S hp hN hf h62
    obtain ⟨N, rfl⟩ : ∃ N', N = N' + (6 + 1) + 1 := ⟨N - (6 + 1) - 1, by omega⟩
    have hA1 := hA.sk hf
    have hs1 := hs.cgs (fun t i k q => hf.i (by unfold z_FB at q; unfold z_Sk; omega))
    have h40 : ∀ k, k < n → S.1 40 0 k = (K k).2.2.2.1 := fun k hk => by rw [← (hA1.2.2 k hk).2.2.1]; rfl
    obtain ⟨S1, e1, f1, k1⟩ := s_comesTo (d + 6) n b (nI p) K S hn hb hA1.2.1.2.1 h40
    have f1' : z_fx z_P40 S S1 := f1.wk (fun t i k q => Or.inr (Or.inl q))
    have hR1 := hA1.Rm.kw hn f1' k1
    obtain ⟨r, S2, e2, hy, f2⟩ := s_isSeen d c0 c n hr wh wt wn H ht (z_kw K n b (nI p)) W C (-1) S1 hH hn hhr hC (by rw [f1.i (by omega), hf.i (by unfold z_Sk; omega)]; exact h29) hR1 (hs1.cgs (fun t i k q => f1.i (by unfold z_FB at q; omega)))
    have k62 : ∀ j, S2.1 62 0 j = S.1 62 0 j := fun j => (f2.i (by unfold z_Psc; omega)).trans (f1.i (by omega))
    have hst : z_wb (fun p => z_dec (∀ j, j < c → z_wN H (z_kw K n b (nI p) (wh j)) (wn j) ht hr (W (wh j)) = nI (wt j))) p (m + 1) x = z_wb (fun p => z_dec (∀ j, j < c → z_wN H (z_kw K n b (nI p) (wh j)) (wn j) ht hr (W (wh j)) = nI (wt j))) (p + 1) m (if z_dec (∀ j, j < c → z_wN H (z_kw K n b (nI p) (wh j)) (wn j) ht hr (W (wh j)) = nI (wt j)) then x ||| ((1 : Int32) <<< (nI p &&& 31)) else x) := rfl
    -- the places come back
    have go : ∀ y : Int32, ∃ S', zr_X12_where (z_exe z_mt true (d + 8)) (N + (6 + 1)) 73 [some (.inr (.inr (12, 0))), some (.inl (nI b)), some (.inl y), some (.inl (nI p)), some (.inl (nI 0))] [] S2 = some (some (.inl (z_wb (fun p => z_dec (∀ j, j < c → z_wN H (z_kw K n b (nI p) (wh j)) (wn j) ht hr (W (wh j)) = nI (wt j))) (p + 1) m y)), S') ∧ z_fx z_Sk S0 S' := by
      intro y
      obtain ⟨S3, f3, k3, e3⟩ := l_whM73 (z_exe z_mt true (d + 8)) b p y S2 6 0 N S2 (by omega) z_fx.rf (fun j hj => by omega)
      have f4 : z_fx z_P40 S S3 := (f1'.tr (f2.wk (fun t i k q => Or.inl q))).tr (f3.wk (fun t i k q => Or.inr (Or.inl q)))
      have f5 : z_fx z_Sk S S3 := f4.un (fun t i k q1 q2 => by
        have q3 : t = 40 ∧ i = 0 ∧ k < 6 := by unfold z_P40 z_Psc at q2; unfold z_Sk at q1; omega
        obtain ⟨rfl, rfl, q3⟩ := q3
        exact ⟨by unfold z_LR; omega, by rw [k3 k q3, k62, h62 k q3]; exact (hf.i (by unfold z_Sk; omega)).symm⟩)
      rw [e3]
      refine ih (p + 1) N y S3 (by omega) (by omega) (hf.tr f5) (fun j hj => ?_)
      rw [f3.i (by omega), k62]
      exact h62 j hj
    rw [ze_X12_where_40, if_neg (by rw [show (6 : Int32) = nI 6 from rfl, z_le (by omega) (by omega)]; omega), e1, z_rV_s, e2, z_rI_s, hst]
    have hpp : (∀ j, j < c → ((-1 : Int32) < 0 ∨ nI (wh j) = -1) → z_wN H (z_kw K n b (nI p) (wh j)) (wn j) ht hr (W (wh j)) = nI (wt j)) ↔ (∀ j, j < c → z_wN H (z_kw K n b (nI p) (wh j)) (wn j) ht hr (W (wh j)) = nI (wt j)) := ⟨fun z j hj => z j hj (Or.inl (by decide)), fun z j hj _ => z j hj⟩
    rcases hy with ⟨rfl, y⟩ | ⟨rfl, y⟩
    · rw [if_neg z_01n, z_dec_T (hpp.mp y), if_pos rfl]
      exact go _
    · rw [if_pos rfl, z_dec_F (fun z => y (hpp.mpr z)), if_neg Bool.false_ne_true, show x ||| (0 : Int32) = x from Int32.or_zero]
      exact go x
theorem c_where (S : z_Mem) (hR : z_RL S) (v1 : Int32) : z_both 97 197 [.inl v1] S := by
  obtain ⟨hts, hN, ⟨n, hr, h, c0, ht, wd, H, K, W, C, hA, hB⟩, hI, hT, hP, hAc⟩ := id hR
  obtain ⟨⟨hn, hhr, hwd, hH, hts6⟩, hh6⟩ := hA.1
  have hC := fun b hb => (hA.2.2 b hb).1.2.2
  have c7 : S.1 7 0 1 = nI n := hA.2.1.1.1
  have c12 : S.1 12 0 0 = nI n := hA.2.1.2.1
  by_cases h1 : 0 ≤ v1 ∧ v1 ≤ nI n - 1
  · obtain ⟨b, hb, rfl⟩ := z_isP_of hn h1
    obtain ⟨c, wh, wt, wn, hs⟩ := hB.sn hn
    refine z_ask (v := .inl (z_wb (fun p => z_dec (∀ j, j < c → z_wN H (z_kw K n b (nI p) (wh j)) (wn j) ht hr (W (wh j)) = nI (wt j))) 0 6 0)) hR ?_ (fun S' hf => ?_)
    · have e : z_exe z_mt true 40 97 [.inr (.inr (11, 0)), .inl (nI b)] S = _ := (zx_X11_where 39 S 0 (nI b)).trans (ze_X11_where_0 _ _ _ _ _)
      obtain ⟨S1, e1, f1⟩ := l_whereC 32 b c wh wt wn hA hs hb 6 0 999999 0 S (by omega) (by omega) z_fx.rf
      refine ⟨S1, ?_, z_Pco_sk f1⟩
      rw [e, s_noPair 38 n _ S hn c7, z_rI_s, z_b1_F (fun z => z h1), if_pos rfl]
      exact e1
    · have hA' := hA.sk hf
      have hN' := hN.sk hf
      have hB' := hB.sk hf
      have c7' : S'.1 7 0 1 = nI n := hA'.2.1.1.1
      have c12' : S'.1 12 0 0 = nI n := hA'.2.1.2.1
      have e : z_exe z_mt true 40 197 [.inr (.inr (12, 0)), .inl (nI b)] S' = _ := (zx_X12_where 39 S' 0 (nI b)).trans (ze_X12_where_0 _ _ _ _ _)
      have hs' := hs.cgs (fun t i k q => hf.i (by unfold z_FB at q; unfold z_Sk; omega))
      obtain ⟨S1, f1, k1, e1⟩ := l_whM12 (z_exe z_mt true 39) b S' 6 0 999992 S' (by omega) z_fx.rf (fun j hj => by omega)
      obtain ⟨S2, e2, f2⟩ := l_whereM 31 b c wh wt wn hA' hN'.2.2.2.1 hs' hb 6 0 999992 0 S1 (by omega) (by omega) (f1.wk (fun t i k q => by unfold z_Sk; omega)) k1
      refine ⟨S2, ?_, f2⟩
      rw [e, s_isPair 37 n _ S' c12', z_rI_s, z_b1_T h1, if_neg z_01n]
      exact e1.trans e2
  · refine z_no (v := .inl (-1)) hR ?_ ?_
    · have e : z_exe z_mt true 40 97 [.inr (.inr (11, 0)), .inl v1] S = _ := (zx_X11_where 39 S 0 v1).trans (ze_X11_where_0 _ _ _ _ _)
      rw [e, s_noPair 38 n _ S hn c7, z_rI_s, z_b1_T h1, if_neg z_01n]
    · have e : z_exe z_mt true 40 197 [.inr (.inr (12, 0)), .inl v1] S = _ := (zx_X12_where 39 S 0 v1).trans (ze_X12_where_0 _ _ _ _ _)
      rw [e, s_isPair 37 n _ S c12, z_rI_s, z_b1_F h1, if_pos rfl]
