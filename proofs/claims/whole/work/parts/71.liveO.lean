/-! ===== placed: the model counts through all numbers ===== -/
theorem l_lp12 (d n a : Nat) (hn : n ≤ 6) : ∀ (m R N : Nat) (used : Int32) (S : z_Mem), m ≤ n → m < N → R < 2 ^ 31 → (∀ o, o < m → z_dg n a o = z_dg m R o) → (∀ o, m ≤ o → o < n → S.1 57 0 o = nI (z_dg n a o)) → (∀ x, x < 6 → (z_bt used x = true ↔ ∃ o, m ≤ o ∧ o < n ∧ z_dg n a o = x)) → (∀ o, m ≤ o → o < n → ∀ o', m ≤ o' → o' < o → z_dg n a o' ≠ z_dg n a o) →
    ∃ r S', zr_X12_layPlaces (z_exe z_mt true (d + 1)) N 12 [some (.inr (.inr (12, 0))), none, some (.inl (nI R)), some (.inl used), some (.inl (nI m - 1))] [] S = some (some (.inl r), S') ∧ z_yes r (z_inj n a) ∧ (r = 1 → ∀ o, o < n → S'.1 57 0 o = nI (z_dg n a o)) ∧ z_fx (fun t i _ => t = 57 ∧ i = 0) S S' := by
  intro m
  induction m with
  | zero =>
    intro R N used S hm hN hR hd h57 hu hne
    obtain ⟨N, rfl⟩ : ∃ N', N = N' + 1 := ⟨N - 1, by omega⟩
    refine ⟨1, S, ?_, Or.inl ⟨rfl, fun o ho o' ho' => hne o (Nat.zero_le _) ho o' (Nat.zero_le _) ho'⟩, fun _ o ho => h57 o (Nat.zero_le _) ho, z_fx.rf⟩
    rw [ze_X12_layPlaces_12, if_pos (by decide)]
  | succ m ih =>
    intro R N used S hm hN hR hd h57 hu hne
    obtain ⟨N, rfl⟩ : ∃ N', N = N' + 1 := ⟨N - 1, by omega⟩
    have hdm : z_dg n a m = R % 6 := by rw [hd m (by omega)]; show (if m = m then R % 6 else _) = _; rw [if_pos rfl]
    have h6 : R % 6 < 6 := Nat.mod_lt _ (by decide)
    have f1 : z_fx (fun t i _ => t = 57 ∧ i = 0) S (z_sI S 57 0 m (nI (R % 6))) := z_fx.sI ⟨rfl, rfl⟩
    have hrem : nI R - nI R / 6 * 6 = nI (R % 6) := pk_rem (d := 6) hR (by omega) (by omega)
    have hdiv : nI R / 6 = nI (R / 6) := pk_div (d := 6) hR (by omega) (by omega)
    have g57 : (z_sI S 57 0 m (nI (R % 6))).1 57 0 m = nI (R % 6) := by rw [z_sI1, if_pos ⟨rfl, rfl, rfl⟩]
    rw [ze_X12_layPlaces_12, nI_pred, if_neg (nI_pos (by omega)), if_neg (show ¬ (6 : Int32) = 0 by decide), if_neg (show ¬ (6 : Int32) = 0 by decide), z_oob_n (k := m) (by omega) (by omega), z_cl (k := m) (by omega), hrem, hdiv]
    simp only [z_cnf]
    rw [g57, s_has, z_rI_s]
    have hup := hu (R % 6) h6
    by_cases g : z_bt used (R % 6) = true
    · rw [z_b1_T ((z_has_iff used h6).mpr g), if_neg z_01n]
      refine ⟨0, _, rfl, Or.inr ⟨rfl, fun hij => ?_⟩, fun z => absurd z (by decide), f1⟩
      obtain ⟨o, ho1, ho2, eo⟩ := hup.mp g
      exact hij o ho2 m (by omega) (by rw [hdm, eo])
    · rw [z_b1_F (fun z => g ((z_has_iff used h6).mp z)), if_pos rfl, g57, ← Int32.sub_eq_add_neg]
      obtain ⟨r, S', e2, hy, h2, f2⟩ := ih (R / 6) N (used ||| ((1 : Int32) <<< (nI (R % 6) &&& 31))) (z_sI S 57 0 m (nI (R % 6))) (by omega) (by omega) (by omega) (fun o ho => by
          rw [hd o (by omega)]; show (if o = m then R % 6 else z_dg m (R / 6) o) = _; rw [if_neg (by omega)]) (fun o h1 h2 => by
          rw [z_sI1]
          by_cases q : o = m
          · rw [if_pos ⟨rfl, rfl, q⟩, q, hdm]
          · rw [if_neg (fun z => q z.2.2)]; exact h57 o (by omega) h2) (fun x hx => by
          rw [z_bt_or used h6 hx, Bool.or_eq_true, hu x hx, decide_eq_true_iff]
          constructor
          · rintro (⟨o, h1, h2, eo⟩ | eo)
            · exact ⟨o, by omega, h2, eo⟩
            · exact ⟨m, by omega, by omega, by rw [hdm]; exact eo.symm⟩
          · rintro ⟨o, h1, h2, eo⟩
            by_cases q : o = m
            · rw [q, hdm] at eo; exact Or.inr eo.symm
            · exact Or.inl ⟨o, by omega, h2, eo⟩) (fun o h1 h2 o' h3 h4 => by
          by_cases q : o' = m
          · intro eo
            rw [q, hdm] at eo
            exact g (hup.mpr ⟨o, by omega, h2, eo.symm⟩)
          · exact hne o (by omega) h2 o' (by omega) h4)
      exact ⟨r, S', e2, hy, h2, f1.tr f2⟩
theorem s_layPlaces (d n a : Nat) (hn : n ≤ 6) (ha : a < 2 ^ 31) (S : z_Mem) (h12 : S.1 12 0 0 = nI n) :
    ∃ r S', z_exe z_mt true (d + 2) 186 [.inr (.inr (12, 0)), .inl (nI a)] S = some (some (.inl r), S') ∧ z_yes r (z_inj n a) ∧ (r = 1 → ∀ o, o < n → S'.1 57 0 o = nI (z_dg n a o)) ∧ z_fx (fun t i _ => t = 57 ∧ i = 0) S S' := by
  have e : z_exe z_mt true (d + 2) 186 [.inr (.inr (12, 0)), .inl (nI a)] S = _ := (zx_X12_layPlaces (d + 1) S 0 (nI a)).trans (ze_X12_layPlaces_0 _ _ _ _ _)
  rw [e, h12]
  exact l_lp12 d n a hn n a 999999 0 S (Nat.le_refl _) (by omega) ha (fun o _ => rfl) (fun o h1 h2 => by omega) (fun x hx => by
    rw [z_bt_0 x hx]
    exact ⟨fun z => absurd z (by decide), fun z => by obtain ⟨o, h1, h2, -⟩ := z; omega⟩) (fun o h1 h2 => by omega)
theorem l_lb70 (d M a : Nat) (v2 v3 v4 : Int32) {hts n hr h c0 : Nat} {ht wd : Int32} {H : z_H} {K : Nat → z_K} {W C : Nat → Int32} {S : z_Mem} (hA : z_LA hts n hr h c0 ht wd H K W C S) (hl : ∀ b, b < n → ∀ p', p' < 6 → S.1 56 0 (6 * b + p') = z_ly H K W M ht hr b p') (h57 : ∀ o, o < n → S.1 57 0 o = nI (z_dg n a o)) : ∀ (m o N : Nat) (x y : Int32), o + m = n →
    zr_X12_layBest (z_exe z_mt true (d + 1)) (N + m) 70 [some (.inr (.inr (12, 0))), none, some (.inl v2), some (.inl v3), some (.inl v4), some (.inl x), some (.inl y), some (.inl (nI o))] [] S = zr_X12_layBest (z_exe z_mt true (d + 1)) N 70 [some (.inr (.inr (12, 0))), none, some (.inl v2), some (.inl v3), some (.inl v4), some (.inl (z_sg (z_f1 H K W M ht hr (z_dg n a)) o m x)), some (.inl (z_sg (z_f2 H K W M ht hr (z_dg n a)) o m y)), some (.inl (nI n))] [] S := by
  have hn := hA.1.1.1
  have h12 := hA.2.1.2.1
  intro m
  induction m with
  | zero =>
    intro o N x y ho
    obtain rfl : o = n := by omega
    rfl
  | succ m ih =>
    intro o N x y ho
    have hkm := (hA.2.2 o (by omega)).2.2.1
    have hg : (K o).2.2.2.2.1 = decide ((S.1 12 0 1 >>> (nI o &&& 31)) &&& 1 = 1) := by rw [← hkm]; rfl
    have h6 := z_dg_lt n a o
    have hst1 : z_sg (z_f1 H K W M ht hr (z_dg n a)) o (m + 1) x = z_sg (z_f1 H K W M ht hr (z_dg n a)) (o + 1) m (x + cond (K o).2.2.2.2.1 0 (if z_ly H K W M ht hr o (z_dg n a o) = 0 then 1 else 0)) := rfl
    have hst2 : z_sg (z_f2 H K W M ht hr (z_dg n a)) o (m + 1) y = z_sg (z_f2 H K W M ht hr (z_dg n a)) (o + 1) m (y + cond (K o).2.2.2.2.1 0 (z_ly H K W M ht hr o (z_dg n a o))) := rfl
    rw [hst1, hst2, hg, show N + (m + 1) = (N + m) + 1 from rfl]
    generalize hF : N + m = F
    rw [ze_X12_layBest_70, if_neg (by rw [h12, z_le (by omega) (by omega)]; omega), s_has, z_rI_s, z_oob_n (k := o) (by omega) (by omega), z_cl (k := o) (by omega), h57 o (by omega), z_6x, z_oob_n (k := 6 * o + z_dg n a o) (by omega) (by omega), z_cl (k := 6 * o + z_dg n a o) (by omega), hl o (by omega) _ h6, nI_1]
    simp only [z_cnf]
    unfold z_b1
    by_cases g : (S.1 12 0 1 >>> (nI o &&& 31)) &&& 1 = 1
    · rw [if_pos g, if_neg z_01n, decide_eq_true g]
      have k := ih (o + 1) N (x + 0) (y + 0) (by omega)
      rw [Int32.add_zero, Int32.add_zero] at k
      show _ = zr_X12_layBest (z_exe z_mt true (d + 1)) N 70 [some (.inr (.inr (12, 0))), none, some (.inl v2), some (.inl v3), some (.inl v4), some (.inl (z_sg (z_f1 H K W M ht hr (z_dg n a)) (o + 1) m (x + 0))), some (.inl (z_sg (z_f2 H K W M ht hr (z_dg n a)) (o + 1) m (y + 0))), some (.inl (nI n))] [] S
      rw [Int32.add_zero, Int32.add_zero]
      rw [← hF]
      exact k
    · rw [if_neg g, if_pos rfl, decide_eq_false g]
      simp only [cond]
      by_cases q : z_ly H K W M ht hr o (z_dg n a o) = 0
      · rw [if_pos q, if_pos q]
        rw [← hF]
        exact ih (o + 1) N _ _ (by omega)
      · rw [if_neg q, if_neg q]
        rw [← hF]
        exact ih (o + 1) N _ _ (by omega)
theorem l_lb206 (ex : z_Ex) (v2 v3 : Int32) (a : Nat) : ∀ (m o N : Nat) (S : z_Mem), o + m = 6 →
    ∃ S', zr_X12_layBest ex (N + (m + 1)) 206 [some (.inr (.inr (12, 0))), none, some (.inl v2), some (.inl v3), some (.inl (nI a)), none, none, some (.inl (nI o))] [] S = zr_X12_layBest ex N 43 [some (.inr (.inr (12, 0))), none, some (.inl v2), some (.inl v3), some (.inl (nI (a + 1))), none, none, none] [] S' ∧ (∀ j, o ≤ j → j < 6 → S'.1 58 0 j = S.1 57 0 j) ∧ z_fx (fun t i k => t = 58 ∧ i = 0 ∧ o ≤ k) S S' := by
  intro m
  induction m with
  | zero =>
    intro o N S ho
    refine ⟨S, ?_, fun j h1 h2 => by omega, z_fx.rf⟩
    show zr_X12_layBest ex (N + 1) 206 _ [] S = _
    rw [ze_X12_layBest_206, if_pos (by rw [show (6 : Int32) = nI 6 from rfl, z_le (by omega) (by omega)]; omega), nI_1]
  | succ m ih =>
    intro o N S ho
    obtain ⟨S', e2, h2, f2⟩ := ih (o + 1) N (z_sI S 58 0 o (S.1 57 0 o)) (by omega)
    refine ⟨S', ?_, fun j h1 h3 => ?_, (z_fx.sI (x := S.1 57 0 o) ⟨rfl, rfl, Nat.le_refl _⟩).tr (f2.wk (fun t i k q => ⟨q.1, q.2.1, by omega⟩))⟩
    · rw [show N + (m + 1 + 1) = N + (m + 1) + 1 from rfl]
      generalize N + (m + 1) = F at e2 ⊢
      rw [ze_X12_layBest_206, if_neg (by rw [show (6 : Int32) = nI 6 from rfl, z_le (by omega) (by omega)]; omega), z_oob_n (k := o) (by omega) (by omega), z_cl (k := o) (by omega)]
      simp only [z_cnf]
      rw [nI_1]
      exact e2
    · by_cases q : j = o
      · rw [f2.i (by omega), z_sI1, if_pos ⟨rfl, rfl, q⟩, q]
      · rw [h2 j (by omega) h3, z_sI1, if_neg (by omega)]
/-- the model: the best way so far -/
def z_Mb (n : Nat) (v3 : Int32) (s : z_Bs) (S : z_Mem) : Prop := match s with
  | none => v3 = 0
  | some q => v3 = 1 ∧ S.1 12 0 40 = q.1 ∧ S.1 12 0 41 = q.2.1 ∧ ∀ o, o < n → S.1 58 0 o = nI (z_dg n q.2.2 o)
def z_Plb (t i k : Nat) : Prop := i = 0 ∧ (t = 57 ∨ t = 58 ∨ (t = 12 ∧ (k = 40 ∨ k = 41)))
theorem l_lb43 (d M E : Nat) (hE : E ≤ 50000) {hts n hr h c0 : Nat} {ht wd : Int32} {H : z_H} {K : Nat → z_K} {W C : Nat → Int32} {S0 : z_Mem} (hA : z_LA hts n hr h c0 ht wd H K W C S0) (hl : ∀ b, b < n → ∀ p', p' < 6 → S0.1 56 0 (6 * b + p') = z_ly H K W M ht hr b p') : ∀ (m a N : Nat) (v3 : Int32) (s : z_Bs) (S : z_Mem), a + m = E → 15 * m < N → z_fx z_Plb S0 S → z_Mb n v3 s S →
    ∃ v3' S', zr_X12_layBest (z_exe z_mt true (d + 2)) N 43 [some (.inr (.inr (12, 0))), none, some (.inl (nI E)), some (.inl v3), some (.inl (nI a)), none, none, none] [] S = some (none, S') ∧ z_Mb n v3' (z_nf (z_LF n H K W M ht hr) m a s) S' ∧ z_fx z_Plb S0 S' := by
  have hn := hA.1.1.1
  have h12 := hA.2.1.2.1
  intro m
  induction m with
  | zero =>
    intro a N v3 s S ha hN hf hs
    obtain ⟨N, rfl⟩ : ∃ N', N = N' + 1 := ⟨N - 1, by omega⟩
    refine ⟨v3, S, ?_, hs, hf⟩
    rw [ze_X12_layBest_43, if_pos (by rw [z_le (by omega) (by omega)]; omega)]
  | succ m ih =>
    intro a N v3 s S ha hN hf hs
    obtain ⟨N, rfl⟩ : ∃ N', N = N' + (6 + 1) + 1 + n + 1 := ⟨N - (6 + 1) - 1 - n - 1, by omega⟩
    have hst : z_nf (z_LF n H K W M ht hr) (m + 1) a s = z_nf (z_LF n H K W M ht hr) m (a + 1) (z_LF n H K W M ht hr a s) := rfl
    obtain ⟨r, S1, e1, hy, h57, f1⟩ := s_layPlaces d n a hn (by omega) S ((hf.i (by unfold z_Plb; omega)).trans h12)
    have f1' : z_fx z_Plb S S1 := f1.wk (fun t i k q => ⟨q.2, Or.inl q.1⟩)
    have hs1 : z_Mb n v3 s S1 := by
      cases s with
      | none => exact hs
      | some q =>
        obtain ⟨c1, c2, c3, c4⟩ := hs
        exact ⟨c1, (f1.i (by omega)).trans c2, (f1.i (by omega)).trans c3, fun o ho => (f1.i (by omega)).trans (c4 o ho)⟩
    rw [hst, ze_X12_layBest_43, if_neg (by rw [z_le (by omega) (by omega)]; omega), e1, z_rI_s]
    rcases hy with ⟨rfl, hij⟩ | ⟨rfl, hij⟩
    · rw [if_neg z_01n]
      have hlf : z_LF n H K W M ht hr a s = z_kb (z_sg (z_f1 H K W M ht hr (z_dg n a)) 0 n 0) (z_sg (z_f2 H K W M ht hr (z_dg n a)) 0 n 0) a s := z_lf_T (R := fun D => z_sg (z_f1 H K W M ht hr D) 0 n 0) (V := fun D => z_sg (z_f2 H K W M ht hr D) 0 n 0) hij
      have hA1 := hA.sk ((hf.tr f1').wk (fun t i k q => by unfold z_Plb at q; unfold z_Sk; omega))
      have hl1 : ∀ b, b < n → ∀ p', p' < 6 → S1.1 56 0 (6 * b + p') = z_ly H K W M ht hr b p' := fun b hb p' hp' => ((hf.tr f1').i (by unfold z_Plb; omega)).trans (hl b hb p' hp')
      have k70 := l_lb70 (d + 1) M a (nI E) v3 (nI a) hA1 hl1 (h57 rfl) n 0 (N + (6 + 1) + 1) 0 0 (by omega)
      rw [show (0 : Int32) = nI 0 from rfl] at k70 ⊢
      rw [k70, hlf, ze_X12_layBest_70, if_pos (by rw [hA1.2.1.2.1, z_le (by omega) (by omega)]; omega)]
      rw [show nI 0 = (0 : Int32) from rfl]
      generalize hr1 : z_sg (z_f1 H K W M ht hr (z_dg n a)) 0 n 0 = r1
      generalize hw1 : z_sg (z_f2 H K W M ht hr (z_dg n a)) 0 n 0 = w1
      -- a new best way
      have new : ∃ v3' S', zr_X12_layBest (z_exe z_mt true (d + 2)) (N + (6 + 1)) 206 [some (.inr (.inr (12, 0))), none, some (.inl (nI E)), some (.inl (1 : Int32)), some (.inl (nI a)), none, none, some (.inl (0 : Int32))] [] (z_sI (z_sI S1 12 0 40 r1) 12 0 41 w1) = some (none, S') ∧ z_Mb n v3' (z_nf (z_LF n H K W M ht hr) m (a + 1) (some (r1, w1, a))) S' ∧ z_fx z_Plb S0 S' := by
        have f2 : z_fx z_Plb S1 (z_sI (z_sI S1 12 0 40 r1) 12 0 41 w1) := (z_fx.sI ⟨rfl, Or.inr (Or.inr ⟨rfl, Or.inl rfl⟩)⟩).tr (z_fx.sI ⟨rfl, Or.inr (Or.inr ⟨rfl, Or.inr rfl⟩)⟩)
        obtain ⟨S3, e3, h3, f3⟩ := l_lb206 (z_exe z_mt true (d + 2)) (nI E) 1 a 6 0 N (z_sI (z_sI S1 12 0 40 r1) 12 0 41 w1) (by omega)
        have e3' : zr_X12_layBest (z_exe z_mt true (d + 2)) (N + (6 + 1)) 206 [some (.inr (.inr (12, 0))), none, some (.inl (nI E)), some (.inl (1 : Int32)), some (.inl (nI a)), none, none, some (.inl (0 : Int32))] [] (z_sI (z_sI S1 12 0 40 r1) 12 0 41 w1) = _ := e3
        rw [e3']
        refine ih (a + 1) N 1 (some (r1, w1, a)) S3 (by omega) (by omega) (((hf.tr f1').tr f2).tr (f3.wk (fun t i k q => ⟨q.2.1, Or.inr (Or.inl q.1)⟩))) ⟨rfl, ?_, ?_, fun o ho => ?_⟩
        · rw [f3.i (by omega)]; simp [z_sI1]
        · rw [f3.i (by omega)]; simp [z_sI1]
        · rw [h3 o (by omega) (by omega), z_sI1, if_neg (by omega), z_sI1, if_neg (by omega)]
          exact h57 rfl o ho
      have old : ∀ s', s' = s → ∃ v3' S', zr_X12_layBest (z_exe z_mt true (d + 2)) (N + (6 + 1)) 43 [some (.inr (.inr (12, 0))), none, some (.inl (nI E)), some (.inl v3), some (.inl (nI (a + 1))), none, none, none] [] S1 = some (none, S') ∧ z_Mb n v3' (z_nf (z_LF n H K W M ht hr) m (a + 1) s') S' ∧ z_fx z_Plb S0 S' := by
        intro s' hs'
        rw [hs']
        exact ih (a + 1) (N + (6 + 1)) v3 s S1 (by omega) (by omega) (hf.tr f1') hs1
      cases s with
      | none =>
        have h3 : v3 = 0 := hs1
        rw [if_pos h3]
        exact new
      | some q =>
        obtain ⟨c1, c2, c3, -⟩ := hs1
        have hq : z_kb r1 w1 a (some q) = (if q.1 < r1 then some (r1, w1, a) else if r1 = q.1 then (if q.2.1 ≤ w1 then some q else some (r1, w1, a)) else some q) := rfl
        rw [if_neg (by rw [c1]; exact z_01n), c2, c3, hq, nI_1]
        rcases z_tri r1 q.1 with t | t | t
        · have n1 : ¬ q.1 < r1 := fun z => Int32.lt_irrefl (Int32.lt_trans t z)
          have n2 : ¬ r1 = q.1 := fun z => by rw [z] at t; exact Int32.lt_irrefl t
          rw [if_pos t, if_neg n1, if_neg n2]
          exact old _ rfl
        · have n1 : ¬ q.1 < r1 := fun z => by rw [t] at z; exact Int32.lt_irrefl z
          have n2 : ¬ r1 < q.1 := fun z => by rw [t] at z; exact Int32.lt_irrefl z
          rw [if_neg n2, if_neg n1, if_pos t, if_pos t]
          by_cases z : w1 < q.2.1
          · rw [if_pos z, if_neg (Int32.not_le.mpr z)]
            exact new
          · rw [if_neg z, if_pos (Int32.not_lt.mp z)]
            exact old _ rfl
        · have n1 : ¬ r1 < q.1 := fun z => Int32.lt_irrefl (Int32.lt_trans t z)
          have n2 : ¬ r1 = q.1 := fun z => by rw [z] at t; exact Int32.lt_irrefl t
          rw [if_neg n1, if_neg n2, if_pos t]
          exact new
    · rw [if_pos rfl]
      have hlf : z_LF n H K W M ht hr a s = s := z_lf_F (R := fun D => z_sg (z_f1 H K W M ht hr D) 0 n 0) (V := fun D => z_sg (z_f2 H K W M ht hr D) 0 n 0) hij
      rw [hlf]
      try dsimp only
      rw [nI_1]
      exact ih (a + 1) (N + (6 + 1) + 1 + n) v3 s S1 (by omega) (by omega) (hf.tr f1') hs1
theorem l_lb9 (ex : z_Ex) (n : Nat) (hn : n ≤ 6) (S : z_Mem) (h12 : S.1 12 0 0 = nI n) : ∀ (m b N : Nat), b + m = n →
    zr_X12_layBest ex (N + (m + 1)) 9 [some (.inr (.inr (12, 0))), none, some (.inl (nI (6 ^ b))), some (.inl (nI b)), none, none, none, none] [] S = zr_X12_layBest ex N 43 [some (.inr (.inr (12, 0))), none, some (.inl (nI (6 ^ n))), some (.inl (0 : Int32)), some (.inl (0 : Int32)), none, none, none] [] (z_sI (z_sI S 12 0 40 0) 12 0 41 0) := by
  intro m
  induction m with
  | zero =>
    intro b N hb
    obtain rfl : b = n := by omega
    show zr_X12_layBest ex (N + 1) 9 _ [] S = _
    rw [ze_X12_layBest_9, if_pos (by rw [h12]; exact Int32.le_refl _)]
  | succ m ih =>
    intro b N hb
    rw [show N + (m + 1 + 1) = N + (m + 1) + 1 from rfl]
    generalize hF : N + (m + 1) = F
    rw [ze_X12_layBest_9, if_neg (by rw [h12, z_le (by omega) (by omega)]; omega)]
    try dsimp only
    rw [nI_1, show nI (6 ^ b) * (6 : Int32) = nI (6 ^ (b + 1)) from by rw [Nat.pow_succ]; exact pk_mul (6 ^ b) 6, ← hF]
    exact ih (b + 1) N (by omega)
theorem s_layBest (d M : Nat) {hts n hr h c0 : Nat} {ht wd : Int32} {H : z_H} {K : Nat → z_K} {W C : Nat → Int32} {S : z_Mem} (hA : z_LA hts n hr h c0 ht wd H K W C S) (h29 : S.1 12 0 29 = 9999) (hM : M ≤ 60) :
    ∃ S' v3, z_exe z_mt true (d + 9) 187 [.inr (.inr (12, 0)), .inl (nI M)] S = some (none, S') ∧ z_Mb n v3 (z_nf (z_LF n H K W M ht hr) (6 ^ n) 0 none) S' ∧ z_fx z_Sk S S' := by
  have e : z_exe z_mt true (d + 9) 187 [.inr (.inr (12, 0)), .inl (nI M)] S = _ := (zx_X12_layBest (d + 8) S 0 (nI M)).trans (ze_X12_layBest_0 _ _ _ _ _)
  have hn := hA.1.1.1
  obtain ⟨S1, e1, f1, h1⟩ := s_layWets d M hA h29 hM
  have f1' := z_Psc_sk f1
  have hA1 := hA.sk f1'
  have f2 : z_fx z_Plb S1 (z_sI (z_sI S1 12 0 40 0) 12 0 41 0) := (z_fx.sI ⟨rfl, Or.inr (Or.inr ⟨rfl, Or.inl rfl⟩)⟩).tr (z_fx.sI ⟨rfl, Or.inr (Or.inr ⟨rfl, Or.inr rfl⟩)⟩)
  have h6n : 6 ^ n ≤ 46656 := Nat.pow_le_pow_right (n := 6) (by decide) hn
  obtain ⟨v3, S2, e2, c2, f3⟩ := l_lb43 (d + 6) M (6 ^ n) (by omega) hA1 h1 (6 ^ n) 0 (999999 - (n + 1)) 0 none (z_sI (z_sI S1 12 0 40 0) 12 0 41 0) (by omega) (by omega) f2 rfl
  refine ⟨S2, v3, ?_, c2, f1'.tr (f3.wk (fun t i k q => by unfold z_Plb at q; unfold z_Sk; omega))⟩
  have k9 := l_lb9 (z_exe z_mt true (d + 8)) n hn S1 hA1.2.1.2.1 n 0 (999999 - (n + 1)) (by omega)
  rw [show 999999 - (n + 1) + (n + 1) = 999999 by omega] at k9
  rw [e, e1, z_rV_s]
  exact k9.trans e2
theorem c_placed (S : z_Mem) (hR : z_RL S) (v1 v2 : Int32) : z_both 91 188 [.inl v1, .inl v2] S := by
  obtain ⟨hts, hN, ⟨n, hr, h, c0, ht, wd, H, K, W, C, hA, hB⟩, hI, hT, hP, hAc⟩ := id hR
  obtain ⟨⟨hn, hhr, hwd, hH, hts6⟩, hh6⟩ := hA.1
  have hC := fun b hb => (hA.2.2 b hb).1.2.2
  have c7 : S.1 7 0 1 = nI n := hA.2.1.1.1
  have c12 : S.1 12 0 0 = nI n := hA.2.1.2.1
  by_cases h1 : 1 ≤ v1 ∧ v1 ≤ 12
  · obtain ⟨M, hM, rfl⟩ := z_rg (n := 12) (by omega) ⟨Int32.le_trans (by decide) h1.1, h1.2⟩
    -- what both have laid down
    have hcl : ∃ S1 q, (∃ S0, z_exe z_mt true 39 44 [.inr (.inr (6, 0)), .inr (.inr (7, 0)), .inr (.inr (3, 0)), .inl (nI M)] S = some (none, S0) ∧ z_exe z_mt true 39 47 [.inr (.inr (6, 0))] S0 = some (none, S1)) ∧ z_nf (z_LF n H K W M ht hr) (6 ^ n) 0 none = some q ∧ z_Cb n (some q) S1 ∧ z_fx z_Sk S S1 := by
      obtain ⟨S0, e0, hf0, f0⟩ := s_foresee 32 M hA (by omega)
      obtain ⟨S1, q, e1, hq, c1, f1⟩ := s_findBest (36 - n) n hn H K W M ht hr S0 hf0
      rw [show 36 - n + 3 + n = 39 by omega] at e1
      exact ⟨S1, q, ⟨S0, e0, e1⟩, hq, c1, (z_Pfs_sk f0).tr (z_Pfs_sk f1)⟩
    obtain ⟨S1, q, ⟨S0, e0, e1⟩, hq, c1, f1⟩ := hcl
    have hmo : ∀ S', z_fx z_Sk S S' → ∃ S2, z_exe z_mt true 39 187 [.inr (.inr (12, 0)), .inl (nI M)] S' = some (none, S2) ∧ (S2.1 12 0 40 = q.1 ∧ S2.1 12 0 41 = q.2.1 ∧ ∀ o, o < n → S2.1 58 0 o = nI (z_dg n q.2.2 o)) ∧ z_fx z_Sk S' S2 := by
      intro S' hf
      obtain ⟨S2, v3, e2, c2, f2⟩ := s_layBest 30 M (hA.sk hf) ((hN.sk hf).2.2.2.1) (by omega)
      rw [hq] at c2
      exact ⟨S2, e2, c2.2, f2⟩
    obtain ⟨c1a, c1b, c1c⟩ := c1
    by_cases h2 : 0 ≤ v2 ∧ v2 ≤ 1
    · have hv2 : v2 = 0 ∨ v2 = 1 := by
        obtain ⟨k, hk, rfl⟩ := z_rg (n := 1) (by omega) h2
        have : k = 0 ∨ k = 1 := by omega
        rcases this with rfl | rfl
        · exact Or.inl rfl
        · exact Or.inr rfl
      refine z_ask (v := .inl (if v2 = 0 then q.1 else q.2.1)) hR ⟨S1, ?_, f1⟩ (fun S' hf => ?_)
      · have e : z_exe z_mt true 40 91 [.inr (.inr (11, 0)), .inl (nI M), .inl v2] S = _ := (zx_X11_placed 39 S 0 (nI M) v2).trans (ze_X11_placed_0 _ _ _ _ _ _)
        rw [e, s_outside, z_rI_s, z_b1_F (fun z => z h2), if_pos rfl, if_neg z_01n, if_neg (Int32.not_lt.mpr h1.1), if_pos h1.2, e0, z_rV_s, e1, z_rV_s, c1a, c1b]
        rcases hv2 with rfl | rfl
        · rw [if_pos rfl, if_pos rfl]
        · rw [if_neg z_01n, if_pos rfl, if_neg z_01n]
      · have hA' := hA.sk hf
        have hN' := hN.sk hf
        have hB' := hB.sk hf
        have c7' : S'.1 7 0 1 = nI n := hA'.2.1.1.1
        have c12' : S'.1 12 0 0 = nI n := hA'.2.1.2.1
        have e : z_exe z_mt true 40 188 [.inr (.inr (12, 0)), .inl (nI M), .inl v2] S' = _ := (zx_X12_placed 39 S' 0 (nI M) v2).trans (ze_X12_placed_0 _ _ _ _ _ _)
        obtain ⟨S2, e2, ⟨m1, m2, m3⟩, f2⟩ := hmo S' hf
        refine ⟨S2, ?_, f2⟩
        rw [e, s_in, z_rI_s, z_b1_T h2, if_neg z_01n, s_in, z_rI_s, z_b1_T h1, if_neg z_01n, e2, z_rV_s, m1, m2]
        rcases hv2 with rfl | rfl
        · rw [if_pos rfl, if_pos rfl]
        · rw [if_neg z_01n, if_pos rfl, if_neg z_01n]
    · by_cases h3 : v2 < 10
      · refine z_no (v := .inl (-1)) hR ?_ ?_
        · have e : z_exe z_mt true 40 91 [.inr (.inr (11, 0)), .inl (nI M), .inl v2] S = _ := (zx_X11_placed 39 S 0 (nI M) v2).trans (ze_X11_placed_0 _ _ _ _ _ _)
          rw [e, s_outside, z_rI_s, z_b1_T h2, if_neg z_01n, if_pos rfl, if_pos h3]
        · have e : z_exe z_mt true 40 188 [.inr (.inr (12, 0)), .inl (nI M), .inl v2] S = _ := (zx_X12_placed 39 S 0 (nI M) v2).trans (ze_X12_placed_0 _ _ _ _ _ _)
          rw [e, s_in, z_rI_s, z_b1_F h2, if_pos rfl, s_in, z_rI_s, z_b1_F (fun z => absurd z.1 (Int32.not_le.mpr h3)), if_pos rfl]
      · obtain ⟨k, hk, rfl⟩ := z_ten h3
        have ne0 : ¬ nI (10 + k) = 0 := nI_ne0 (by omega) hk
        have ne1 : ¬ nI (10 + k) = 1 := by rw [show (1 : Int32) = nI 1 from rfl, nI_eq hk (by omega)]; omega
        by_cases h4 : k < n
        · refine z_ask (v := .inl (nI (z_dg n q.2.2 k))) hR ⟨S1, ?_, f1⟩ (fun S' hf => ?_)
          · have e : z_exe z_mt true 40 91 [.inr (.inr (11, 0)), .inl (nI M), .inl (nI (10 + k))] S = _ := (zx_X11_placed 39 S 0 (nI M) (nI (10 + k))).trans (ze_X11_placed_0 _ _ _ _ _ _)
            rw [e, s_outside, z_rI_s, z_b1_T h2, if_neg z_01n, if_pos rfl, if_neg h3, z_m10, s_noPair 38 n _ S hn c7, z_rI_s, z_b1_F (fun z => z ((z_isP_n hn (by omega)).mpr h4)), if_pos rfl, if_neg (Int32.not_lt.mpr h1.1), if_pos h1.2, e0, z_rV_s, e1, z_rV_s, if_neg ne0, if_neg ne1, z_oob_n (k := k) (by omega) (by omega), z_cl (k := k) (by omega)]
            simp only [z_cnf]
            rw [c1c k h4]
          · have hA' := hA.sk hf
            have hN' := hN.sk hf
            have hB' := hB.sk hf
            have c7' : S'.1 7 0 1 = nI n := hA'.2.1.1.1
            have c12' : S'.1 12 0 0 = nI n := hA'.2.1.2.1
            have e : z_exe z_mt true 40 188 [.inr (.inr (12, 0)), .inl (nI M), .inl (nI (10 + k))] S' = _ := (zx_X12_placed 39 S' 0 (nI M) (nI (10 + k))).trans (ze_X12_placed_0 _ _ _ _ _ _)
            obtain ⟨S2, e2, ⟨m1, m2, m3⟩, f2⟩ := hmo S' hf
            refine ⟨S2, ?_, f2⟩
            rw [e, s_in, z_rI_s, z_b1_F h2, if_pos rfl, c12', z_p9, s_in, z_rI_s, z_b1_T ((z_in9 hn hk).mpr h4), if_neg z_01n, s_in, z_rI_s, z_b1_T h1, if_neg z_01n, e2, z_rV_s, if_neg ne0, if_neg ne1, z_m10, z_oob_n (k := k) (by omega) (by omega), z_cl (k := k) (by omega)]
            simp only [z_cnf]
            rw [m3 k h4]
        · refine z_no (v := .inl (-1)) hR ?_ ?_
          · have e : z_exe z_mt true 40 91 [.inr (.inr (11, 0)), .inl (nI M), .inl (nI (10 + k))] S = _ := (zx_X11_placed 39 S 0 (nI M) (nI (10 + k))).trans (ze_X11_placed_0 _ _ _ _ _ _)
            rw [e, s_outside, z_rI_s, z_b1_T h2, if_neg z_01n, if_pos rfl, if_neg h3, z_m10, s_noPair 38 n _ S hn c7, z_rI_s, z_b1_T (show ¬ (0 ≤ nI k ∧ nI k ≤ nI n - 1) from fun z => h4 ((z_isP_n hn (by omega)).mp z)), if_neg z_01n]
          · have e : z_exe z_mt true 40 188 [.inr (.inr (12, 0)), .inl (nI M), .inl (nI (10 + k))] S = _ := (zx_X12_placed 39 S 0 (nI M) (nI (10 + k))).trans (ze_X12_placed_0 _ _ _ _ _ _)
            rw [e, s_in, z_rI_s, z_b1_F h2, if_pos rfl, c12, z_p9, s_in, z_rI_s, z_b1_F (fun z => h4 ((z_in9 hn hk).mp z)), if_pos rfl]
  · have bad1 : v1 < 1 ∨ ¬ v1 < 1 ∧ ¬ v1 ≤ 12 := by
      by_cases q : v1 < 1
      · exact Or.inl q
      · exact Or.inr ⟨q, fun z => h1 ⟨Int32.not_lt.mp q, z⟩⟩
    by_cases h2 : 0 ≤ v2 ∧ v2 ≤ 1
    · refine z_no (v := .inl (-2)) hR ?_ ?_
      · have e : z_exe z_mt true 40 91 [.inr (.inr (11, 0)), .inl v1, .inl v2] S = _ := (zx_X11_placed 39 S 0 v1 v2).trans (ze_X11_placed_0 _ _ _ _ _ _)
        rw [e, s_outside, z_rI_s, z_b1_F (fun z => z h2), if_pos rfl, if_neg z_01n]
        rcases bad1 with q | ⟨q, q2⟩
        · rw [if_pos q]
        · rw [if_neg q, if_neg q2]
      · have e : z_exe z_mt true 40 188 [.inr (.inr (12, 0)), .inl v1, .inl v2] S = _ := (zx_X12_placed 39 S 0 v1 v2).trans (ze_X12_placed_0 _ _ _ _ _ _)
        rw [e, s_in, z_rI_s, z_b1_T h2, if_neg z_01n, s_in, z_rI_s, z_b1_F h1, if_pos rfl]
    · by_cases h3 : v2 < 10
      · refine z_no (v := .inl (-1)) hR ?_ ?_
        · have e : z_exe z_mt true 40 91 [.inr (.inr (11, 0)), .inl v1, .inl v2] S = _ := (zx_X11_placed 39 S 0 v1 v2).trans (ze_X11_placed_0 _ _ _ _ _ _)
          rw [e, s_outside, z_rI_s, z_b1_T h2, if_neg z_01n, if_pos rfl, if_pos h3]
        · have e : z_exe z_mt true 40 188 [.inr (.inr (12, 0)), .inl v1, .inl v2] S = _ := (zx_X12_placed 39 S 0 v1 v2).trans (ze_X12_placed_0 _ _ _ _ _ _)
          rw [e, s_in, z_rI_s, z_b1_F h2, if_pos rfl, s_in, z_rI_s, z_b1_F (fun z => absurd z.1 (Int32.not_le.mpr h3)), if_pos rfl]
      · obtain ⟨k, hk, rfl⟩ := z_ten h3
        by_cases h4 : k < n
        · refine z_no (v := .inl (-2)) hR ?_ ?_
          · have e : z_exe z_mt true 40 91 [.inr (.inr (11, 0)), .inl v1, .inl (nI (10 + k))] S = _ := (zx_X11_placed 39 S 0 v1 (nI (10 + k))).trans (ze_X11_placed_0 _ _ _ _ _ _)
            rw [e, s_outside, z_rI_s, z_b1_T h2, if_neg z_01n, if_pos rfl, if_neg h3, z_m10, s_noPair 38 n _ S hn c7, z_rI_s, z_b1_F (fun z => z ((z_isP_n hn (by omega)).mpr h4)), if_pos rfl]
            rcases bad1 with q | ⟨q, q2⟩
            · rw [if_pos q]
            · rw [if_neg q, if_neg q2]
          · have e : z_exe z_mt true 40 188 [.inr (.inr (12, 0)), .inl v1, .inl (nI (10 + k))] S = _ := (zx_X12_placed 39 S 0 v1 (nI (10 + k))).trans (ze_X12_placed_0 _ _ _ _ _ _)
            rw [e, s_in, z_rI_s, z_b1_F h2, if_pos rfl, c12, z_p9, s_in, z_rI_s, z_b1_T ((z_in9 hn hk).mpr h4), if_neg z_01n, s_in, z_rI_s, z_b1_F h1, if_pos rfl]
        · refine z_no (v := .inl (-1)) hR ?_ ?_
          · have e : z_exe z_mt true 40 91 [.inr (.inr (11, 0)), .inl v1, .inl (nI (10 + k))] S = _ := (zx_X11_placed 39 S 0 v1 (nI (10 + k))).trans (ze_X11_placed_0 _ _ _ _ _ _)
            rw [e, s_outside, z_rI_s, z_b1_T h2, if_neg z_01n, if_pos rfl, if_neg h3, z_m10, s_noPair 38 n _ S hn c7, z_rI_s, z_b1_T (show ¬ (0 ≤ nI k ∧ nI k ≤ nI n - 1) from fun z => h4 ((z_isP_n hn (by omega)).mp z)), if_neg z_01n]
          · have e : z_exe z_mt true 40 188 [.inr (.inr (12, 0)), .inl v1, .inl (nI (10 + k))] S = _ := (zx_X12_placed 39 S 0 v1 (nI (10 + k))).trans (ze_X12_placed_0 _ _ _ _ _ _)
            rw [e, s_in, z_rI_s, z_b1_F h2, if_pos rfl, c12, z_p9, s_in, z_rI_s, z_b1_F (fun z => h4 ((z_in9 hn hk).mp z)), if_pos rfl]
