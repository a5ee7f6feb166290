/-! ===== placed: the class tries all, pair by pair ===== -/
theorem z_for.fx {n : Nat} {H : z_H} {K : Nat → z_K} {W : Nat → Int32} {M : Nat} {ht : Int32} {hr : Nat} {S S' : z_Mem} {P : Nat → Nat → Nat → Prop} (h : z_for n H K W M ht hr S) (hf : z_fx P S S') (h3 : ¬ P 6 0 3) (hp : ∀ t i k, (t = 26 ∨ t = 27) → ¬ P t i k) : z_for n H K W M ht hr S' := by
  obtain ⟨h1, h2⟩ := h
  refine ⟨(hf.i h3).trans h1, fun b hb => ⟨(hf.i (hp 27 0 b (by omega))).trans (h2 b hb).1, fun p hp' => (hf.i (hp 26 0 _ (by omega))).trans ((h2 b hb).2 p hp')⟩⟩
theorem z_and1n (x : Int32) : (x &&& 1 = 0) ↔ ¬ x &&& 1 = 1 := by
  obtain ⟨j, hj, e⟩ := pk_andE x (m := 1) 1 (by decide)
  rw [e, show (0 : Int32) = nI 0 from rfl, show (1 : Int32) = nI 1 from rfl, nI_eq (by omega) (by omega), nI_eq (by omega) (by omega)]
  omega
theorem z_sg_last (f : Nat → Int32) (b : Nat) : z_sg f 0 (b + 1) 0 = z_sg f 0 b 0 + f b := by
  rw [z_sg_ap b 1 0 0, Nat.zero_add]
  rfl
theorem z_f1_cg {H : z_H} {K : Nat → z_K} {W : Nat → Int32} {M : Nat} {ht : Int32} {hr : Nat} {D D' : Nat → Nat} {o : Nat} (h : D o = D' o) : z_f1 H K W M ht hr D o = z_f1 H K W M ht hr D' o := by
  unfold z_f1; rw [h]
theorem z_f2_cg {H : z_H} {K : Nat → z_K} {W : Nat → Int32} {M : Nat} {ht : Int32} {hr : Nat} {D D' : Nat → Nat} {o : Nat} (h : D o = D' o) : z_f2 H K W M ht hr D o = z_f2 H K W M ht hr D' o := by
  unfold z_f2; rw [h]
theorem z_f1_s (H : z_H) (K : Nat → z_K) (W : Nat → Int32) (M : Nat) (ht : Int32) (hr b P p : Nat) (hp : p < 6) : z_sg (z_f1 H K W M ht hr (z_dg (b + 1) (6 * P + p))) 0 (b + 1) 0 = z_sg (z_f1 H K W M ht hr (z_dg b P)) 0 b 0 + cond (K b).2.2.2.2.1 0 (if z_ly H K W M ht hr b p = 0 then 1 else 0) := by
  rw [z_sg_last, z_sg_cg (g := z_f1 H K W M ht hr (z_dg b P)) b 0 0 (fun o _ ho => z_f1_cg (by rw [z_dg_s b P p hp, if_neg (by omega)]))]
  congr 1
  unfold z_f1
  rw [z_dg_s b P p hp, if_pos rfl]
theorem z_f2_s (H : z_H) (K : Nat → z_K) (W : Nat → Int32) (M : Nat) (ht : Int32) (hr b P p : Nat) (hp : p < 6) : z_sg (z_f2 H K W M ht hr (z_dg (b + 1) (6 * P + p))) 0 (b + 1) 0 = z_sg (z_f2 H K W M ht hr (z_dg b P)) 0 b 0 + cond (K b).2.2.2.2.1 0 (z_ly H K W M ht hr b p) := by
  rw [z_sg_last, z_sg_cg (g := z_f2 H K W M ht hr (z_dg b P)) b 0 0 (fun o _ ho => z_f2_cg (by rw [z_dg_s b P p hp, if_neg (by omega)]))]
  congr 1
  unfold z_f2
  rw [z_dg_s b P p hp, if_pos rfl]
theorem z_f1_pos (H : z_H) (K : Nat → z_K) (W : Nat → Int32) (M : Nat) (ht : Int32) (hr b : Nat) (D : Nat → Nat) (hb : b ≤ 6) : 0 ≤ z_sg (z_f1 H K W M ht hr D) 0 b 0 := by
  obtain ⟨j, hj, e⟩ := z_sg_nI (f := z_f1 H K W M ht hr D) (c := 1) b 0 0 (fun k _ _ => by
    unfold z_f1
    cases (K k).2.2.2.2.1 with
    | true => exact ⟨0, by omega, rfl⟩
    | false =>
      show ∃ j : Nat, j ≤ 1 ∧ (if z_ly H K W M ht hr k (D k) = 0 then (1 : Int32) else 0) = nI j
      by_cases q : z_ly H K W M ht hr k (D k) = 0
      · rw [if_pos q]; exact ⟨1, by omega, rfl⟩
      · rw [if_neg q]; exact ⟨0, by omega, rfl⟩)
  have e' : z_sg (z_f1 H K W M ht hr D) 0 b 0 = nI j := e
  rw [e']
  exact nI_pos' (by omega)
noncomputable def z_LF (n : Nat) (H : z_H) (K : Nat → z_K) (W : Nat → Int32) (M : Nat) (ht : Int32) (hr : Nat) : Nat → z_Bs → z_Bs := z_lf n (fun D => z_sg (z_f1 H K W M ht hr D) 0 n 0) (fun D => z_sg (z_f2 H K W M ht hr D) 0 n 0)
theorem l_tf (d n : Nat) (hn : n ≤ 6) (H : z_H) (K : Nat → z_K) (W : Nat → Int32) (M : Nat) (ht : Int32) (hr : Nat) : ∀ (k b P : Nat) (used : Int32) (S : z_Mem) (s : z_Bs), b + k = n → z_inj b P → (∀ x, x < 6 → (z_bt used x = true ↔ ∃ o, o < b ∧ z_dg b P o = x)) → z_for n H K W M ht hr S → (∀ o, o < b → S.1 28 0 o = nI (z_dg b P o)) → z_Cb n s S →
    ∃ S', z_exe z_mt true (d + 2 + k) 48 [.inr (.inr (6, 0)), .inl (nI b), .inl used, .inl (z_sg (z_f1 H K W M ht hr (z_dg b P)) 0 b 0), .inl (z_sg (z_f2 H K W M ht hr (z_dg b P)) 0 b 0)] S = some (none, S') ∧ z_Cb n (z_tr (z_LF n H K W M ht hr) k P s) S' ∧ z_fx (z_Ptf b) S S' := by
  intro k
  induction k with
  | zero =>
    intro b P used S s hb hij hu hfor h28 hs
    obtain rfl : b = n := by omega
    have e : z_exe z_mt true (d + 1 + 1) 48 [.inr (.inr (6, 0)), .inl (nI b), .inl used, .inl (z_sg (z_f1 H K W M ht hr (z_dg b P)) 0 b 0), .inl (z_sg (z_f2 H K W M ht hr (z_dg b P)) 0 b 0)] S = _ := (zx_X6_tryFrom (d + 1) S 0 _ _ _ _).trans (ze_X6_tryFrom_0 _ _ _ _ _ _ _ _)
    obtain ⟨S', e1, c1, f1⟩ := s_keep d b P (z_sg (z_f1 H K W M ht hr (z_dg b P)) 0 b 0) (z_sg (z_f2 H K W M ht hr (z_dg b P)) 0 b 0) s S hn (z_f1_pos H K W M ht hr b _ hn) hfor.1 h28 hs
    refine ⟨S', ?_, ?_, f1⟩
    · show z_exe z_mt true (d + 1 + 1) 48 _ S = _
      rw [e, hfor.1, if_neg (by rw [z_lt (by omega) (by omega)]; omega), e1, z_rV_s]
    · have : z_tr (z_LF b H K W M ht hr) 0 P s = z_kb (z_sg (z_f1 H K W M ht hr (z_dg b P)) 0 b 0) (z_sg (z_f2 H K W M ht hr (z_dg b P)) 0 b 0) P s := z_lf_T (R := fun D => z_sg (z_f1 H K W M ht hr D) 0 b 0) (V := fun D => z_sg (z_f2 H K W M ht hr D) 0 b 0) hij
      rw [this]; exact c1
  | succ k ih =>
    intro b P used S s hb hij hu hfor h28 hs
    have inner : ∀ (m p N : Nat) (S : z_Mem) (s : z_Bs), p + m = 6 → m < N → z_for n H K W M ht hr S → (∀ o, o < b → S.1 28 0 o = nI (z_dg b P o)) → z_Cb n s S →
        ∃ S', zr_X6_tryFrom (z_exe z_mt true (d + 2 + k)) N 19 [some (.inr (.inr (6, 0))), some (.inl (nI b)), some (.inl used), some (.inl (z_sg (z_f1 H K W M ht hr (z_dg b P)) 0 b 0)), some (.inl (z_sg (z_f2 H K W M ht hr (z_dg b P)) 0 b 0)), some (.inl (nI p)), none, none] [] S = some (none, S') ∧ z_Cb n (z_nf (fun p s => z_tr (z_LF n H K W M ht hr) k (6 * P + p) s) m p s) S' ∧ z_fx (z_Ptf b) S S' := by
      intro m
      induction m with
      | zero =>
        intro p N S s hp hN hfor h28 hs
        obtain ⟨N, rfl⟩ : ∃ N', N = N' + 1 := ⟨N - 1, by omega⟩
        refine ⟨S, ?_, hs, z_fx.rf⟩
        rw [ze_X6_tryFrom_19, if_pos (by rw [show (6 : Int32) = nI 6 from rfl, z_le (by omega) (by omega)]; omega)]
      | succ m ihm =>
        intro p N S s hp hN hfor h28 hs
        obtain ⟨N, rfl⟩ : ∃ N', N = N' + 1 := ⟨N - 1, by omega⟩
        have hst : z_nf (fun p s => z_tr (z_LF n H K W M ht hr) k (6 * P + p) s) (m + 1) p s = z_nf (fun p s => z_tr (z_LF n H K W M ht hr) k (6 * P + p) s) m (p + 1) (z_tr (z_LF n H K W M ht hr) k (6 * P + p) s) := rfl
        have hup := hu p (by omega)
        rw [ze_X6_tryFrom_19, if_neg (by rw [show (6 : Int32) = nI 6 from rfl, z_le (by omega) (by omega)]; omega), hst]
        by_cases g : z_bt used p = true
        · rw [if_neg (fun z => (z_and1n _).mp z ((z_has_iff used (by omega)).mpr g))]
          try dsimp only
          rw [nI_1]
          have hno : ¬ z_inj (b + 1) (6 * P + p) := fun z => by
            obtain ⟨o, ho, eo⟩ := hup.mp g
            exact ((z_inj_s b P p (by omega)).mp z).2 o ho eo
          have := z_tr_no n (fun D => z_sg (z_f1 H K W M ht hr D) 0 n 0) (fun D => z_sg (z_f2 H K W M ht hr D) 0 n 0) k (b + 1) (6 * P + p) s (by omega) hno
          have this' : z_tr (z_LF n H K W M ht hr) k (6 * P + p) s = s := this
          rw [this']
          exact ihm (p + 1) N S s (by omega) (by omega) hfor h28 hs
        · rw [if_pos ((z_and1n _).mpr (fun z => g ((z_has_iff used (by omega)).mp z))), z_oob_n (k := b) (by omega) (by omega), z_cl (k := b) (by omega)]
          simp only [z_cnf]
          have f28 : z_fx (z_Ptf b) S (z_sI S 28 0 b (nI p)) := z_fx.sI ⟨rfl, Or.inl ⟨rfl, Nat.le_refl _⟩⟩
          have hfor2 : z_for n H K W M ht hr (z_sI S 28 0 b (nI p)) := hfor.fx f28 (by unfold z_Ptf; omega) (fun t i k q => by unfold z_Ptf; omega)
          have h27 : (z_sI S 28 0 b (nI p)).1 27 0 b = (cond (K b).2.2.2.2.1 0 1) := (hfor2.2 b (by omega)).1
          have h26 : (z_sI S 28 0 b (nI p)).1 26 0 (6 * b + p) = z_ly H K W M ht hr b p := (hfor2.2 b (by omega)).2 p (by omega)
          have hij2 : z_inj (b + 1) (6 * P + p) := (z_inj_s b P p (by omega)).mpr ⟨hij, fun o ho eo => g (hup.mpr ⟨o, ho, eo⟩)⟩
          have hCb2 : z_Cb n s (z_sI S 28 0 b (nI p)) := by
            cases s with
            | none => exact hs
            | some q => exact hs
          have go : ∀ r' w' : Int32, r' = z_sg (z_f1 H K W M ht hr (z_dg b P)) 0 b 0 + cond (K b).2.2.2.2.1 0 (if z_ly H K W M ht hr b p = 0 then 1 else 0) → w' = z_sg (z_f2 H K W M ht hr (z_dg b P)) 0 b 0 + cond (K b).2.2.2.2.1 0 (z_ly H K W M ht hr b p) →
              ∃ S', z_rV (z_exe z_mt true (d + 2 + k) 48 [.inr (.inr (6, 0)), .inl (nI (b + 1)), .inl (used ||| ((1 : Int32) <<< (nI p &&& 31))), .inl r', .inl w'] (z_sI S 28 0 b (nI p))) (fun S3 => zr_X6_tryFrom (z_exe z_mt true (d + 2 + k)) N 19 [some (.inr (.inr (6, 0))), some (.inl (nI b)), some (.inl used), some (.inl (z_sg (z_f1 H K W M ht hr (z_dg b P)) 0 b 0)), some (.inl (z_sg (z_f2 H K W M ht hr (z_dg b P)) 0 b 0)), some (.inl (nI (p + 1))), none, none] [] S3) = some (none, S') ∧ z_Cb n (z_nf (fun p s => z_tr (z_LF n H K W M ht hr) k (6 * P + p) s) m (p + 1) (z_tr (z_LF n H K W M ht hr) k (6 * P + p) s)) S' ∧ z_fx (z_Ptf b) S S' := by
            intro r' w' hr' hw'
            rw [hr', hw', ← z_f1_s H K W M ht hr b P p (by omega), ← z_f2_s H K W M ht hr b P p (by omega)]
            obtain ⟨S3, e3, c3, f3⟩ := ih (b + 1) (6 * P + p) (used ||| ((1 : Int32) <<< (nI p &&& 31))) (z_sI S 28 0 b (nI p)) s (by omega) hij2 (fun x hx => by
              rw [z_bt_or used (by omega) hx, Bool.or_eq_true, hu x hx, decide_eq_true_iff]
              constructor
              · rintro (⟨o, ho, eo⟩ | eo)
                · exact ⟨o, by omega, by rw [z_dg_s b P p (by omega), if_neg (by omega)]; exact eo⟩
                · exact ⟨b, by omega, by rw [z_dg_s b P p (by omega), if_pos rfl]; exact eo.symm⟩
              · rintro ⟨o, ho, eo⟩
                rw [z_dg_s b P p (by omega)] at eo
                by_cases q : o = b
                · rw [if_pos q] at eo; exact Or.inr eo.symm
                · rw [if_neg q] at eo; exact Or.inl ⟨o, by omega, eo⟩) hfor2 (fun o ho => by
              rw [z_sI1, z_dg_s b P p (by omega)]
              by_cases q : o = b
              · rw [if_pos ⟨rfl, rfl, q⟩, if_pos q]
              · rw [if_neg (fun z => q z.2.2), if_neg q]; exact h28 o (by omega)) hCb2
            have f3' : z_fx (z_Ptf b) (z_sI S 28 0 b (nI p)) S3 := f3.wk (fun t i k q => by unfold z_Ptf at q ⊢; omega)
            obtain ⟨S4, e4, c4, f4⟩ := ihm (p + 1) N S3 _ (by omega) (by omega) (hfor2.fx f3 (by unfold z_Ptf; omega) (fun t i k q => by unfold z_Ptf; omega)) (fun o ho => by
              rw [f3.i (by unfold z_Ptf; omega), z_sI1, if_neg (by omega)]; exact h28 o ho) c3
            refine ⟨S4, ?_, c4, (f28.tr f3').tr f4⟩
            rw [e3, z_rV_s]
            exact e4
          rw [h27, z_x6, z_oob_n (k := 6 * b + p) (by omega) (by omega), z_cl (k := 6 * b + p) (by omega), h26, nI_1 b, nI_1 p]
          simp only [z_cnf]
          cases hg : (K b).2.2.2.2.1 with
          | true =>
            rw [hg] at go
            simp only [cond]
            rw [if_pos trivial, if_pos trivial]
            exact go _ _ rfl rfl
          | false =>
            rw [hg] at go
            simp only [cond]
            rw [if_neg z_01n, if_neg z_01n]
            by_cases q : z_ly H K W M ht hr b p = 0
            · rw [if_pos q]
              exact go _ _ (by simp only [cond]; rw [if_pos q]) rfl
            · rw [if_neg q]
              exact go _ _ (by simp only [cond]; rw [if_neg q]) rfl
    obtain ⟨S', e1, c1, f1⟩ := inner 6 0 999999 S s (by omega) (by omega) hfor h28 hs
    have e : z_exe z_mt true (d + 2 + k + 1) 48 [.inr (.inr (6, 0)), .inl (nI b), .inl used, .inl (z_sg (z_f1 H K W M ht hr (z_dg b P)) 0 b 0), .inl (z_sg (z_f2 H K W M ht hr (z_dg b P)) 0 b 0)] S = _ := (zx_X6_tryFrom (d + 2 + k) S 0 _ _ _ _).trans (ze_X6_tryFrom_0 _ _ _ _ _ _ _ _)
    refine ⟨S', ?_, c1, f1⟩
    show z_exe z_mt true (d + 2 + k + 1) 48 _ S = _
    rw [e, hfor.1, if_pos (by rw [z_lt (by omega) (by omega)]; omega)]
    exact e1
theorem s_findBest (d n : Nat) (hn : n ≤ 6) (H : z_H) (K : Nat → z_K) (W : Nat → Int32) (M : Nat) (ht : Int32) (hr : Nat) (S : z_Mem) (hfor : z_for n H K W M ht hr S) :
    ∃ S' q, z_exe z_mt true (d + 3 + n) 47 [.inr (.inr (6, 0))] S = some (none, S') ∧ z_nf (z_LF n H K W M ht hr) (6 ^ n) 0 none = some q ∧ z_Cb n (some q) S' ∧ z_fx z_Pfs S S' := by
  have e : z_exe z_mt true (d + 2 + n + 1) 47 [.inr (.inr (6, 0))] S = _ := (zx_X6_findBest (d + 2 + n) S 0).trans (ze_X6_findBest_0 _ _ _ _)
  have f1 : z_fx (z_Ptf 0) S (z_sI (z_sI S 6 0 5 (-1)) 6 0 6 0) := (z_fx.sI ⟨rfl, Or.inr (Or.inl ⟨rfl, Or.inl rfl⟩)⟩).tr (z_fx.sI ⟨rfl, Or.inr (Or.inl ⟨rfl, Or.inr rfl⟩)⟩)
  obtain ⟨S2, e2, c2, f2⟩ := l_tf d n hn H K W M ht hr n 0 0 0 (z_sI (z_sI S 6 0 5 (-1)) 6 0 6 0) none (by omega) (fun o ho => by omega) (fun x hx => by
    rw [z_bt_0 x hx]
    exact ⟨fun z => absurd z (by decide), fun z => by obtain ⟨o, ho, -⟩ := z; omega⟩) (hfor.fx f1 (by unfold z_Ptf; omega) (fun t i k q => by unfold z_Ptf; omega)) (fun o ho => by omega) ⟨by simp [z_sI1], by simp [z_sI1]⟩
  obtain ⟨q, hq⟩ := z_best_ex hn (fun D => z_sg (z_f1 H K W M ht hr D) 0 n 0) (fun D => z_sg (z_f2 H K W M ht hr D) 0 n 0)
  have hq' : z_nf (z_LF n H K W M ht hr) (6 ^ n) 0 none = some q := hq
  have ht2 := z_nf_tr (z_LF n H K W M ht hr) n 0 none
  rw [Nat.zero_mul, hq'] at ht2
  rw [← ht2] at c2
  refine ⟨S2, q, ?_, hq', c2, (f1.tr f2).wk (fun t i k q => by unfold z_Ptf at q; unfold z_Pfs; omega)⟩
  rw [show d + 3 + n = d + 2 + n + 1 by omega, e]
  have e2' : z_exe z_mt true (d + 2 + n) 48 [.inr (.inr (6, 0)), .inl (0 : Int32), .inl (0 : Int32), .inl (0 : Int32), .inl (0 : Int32)] (z_sI (z_sI S 6 0 5 (-1)) 6 0 6 0) = _ := e2
  try dsimp only
  rw [e2', z_rV_s]
