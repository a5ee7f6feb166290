/-! ===== the text: the model reads what the grammar says ===== -/
def z_mF (c : Nat → Int32) (len A cI d : Nat) (w : Int32) (N p : Nat) (r : z_R) (S : z_Mem) : Prop := ¬ r.1 = true → ∃ S', zr_X12_takesE (z_exe z_mt true (d + 4)) N 22 [some (.inr (.inr (12, 0))), some (.inl (nI cI)), some (.inl w), none] [] S = some (some (.inl 0), S') ∧ S'.1 12 0 14 = nI r.2.1 ∧ z_fx (z_Pme A cI) S S'
def z_mP (c : Nat → Int32) (len A cI d k : Nat) (g : Nat → z_R) : Prop := ∀ (p : Nat) (W : List Nat) (out : List z_Tk) (N : Nat) (S : z_Mem), z_mx2 c len S → z_ms len A p W out S → z_opn W + k = 4 → len + 1 < N + p →
  ((g p).1 = true → ∃ N' S', zr_X12_takesE (z_exe z_mt true (d + 4)) N 22 [some (.inr (.inr (12, 0))), some (.inl (nI cI)), some (.inl 1), none] [] S = zr_X12_takesE (z_exe z_mt true (d + 4)) N' 22 [some (.inr (.inr (12, 0))), some (.inl (nI cI)), some (.inl 0), none] [] S' ∧ N + p ≤ N' + (g p).2.1 ∧ z_ms len A (g p).2.1 (z_fW W) (out ++ ((g p).2.2 ++ z_fNs W)) S' ∧ z_fx (z_Pme A cI) S S') ∧ z_mF c len A cI d 1 N p (g p) S
/-- where E, or a part of it between signs, ends: what still waits is pd -/
def z_mQ (c : Nat → Int32) (len A cI d : Nat) (Q : Nat → Prop) (X : Int32 → Prop) (w : Int32) (N p : Nat) (W : List Nat) (out : List z_Tk) (r : z_R) (S : z_Mem) : Prop := r.1 = true → ∃ N' S' pd out', zr_X12_takesE (z_exe z_mt true (d + 4)) N 22 [some (.inr (.inr (12, 0))), some (.inl (nI cI)), some (.inl w), none] [] S = zr_X12_takesE (z_exe z_mt true (d + 4)) N' 22 [some (.inr (.inr (12, 0))), some (.inl (nI cI)), some (.inl 0), none] [] S' ∧ N + p ≤ N' + r.2.1 ∧ z_ms len A r.2.1 (pd ++ W) out' S' ∧ out' ++ pd.map z_opt = out ++ r.2.2 ∧ (∀ x, x ∈ pd → Q x) ∧ ¬ X (c r.2.1) ∧ z_fx (z_Pme A cI) S S'
def z_Q38 (x : Nat) : Prop := x = 38
def z_QE (x : Nat) : Prop := x = 38 ∨ x = 124
def z_X38 (x : Int32) : Prop := x = 38
def z_XE (x : Int32) : Prop := x = 38 ∨ x = 124
def z_mA (c : Nat → Int32) (len A cI d k : Nat) (g : Nat → z_R) : Prop := ∀ (p : Nat) (W : List Nat) (out : List z_Tk) (N : Nat) (S : z_Mem), z_mx2 c len S → z_ms len A p W out S → z_opn W + k = 4 → (W = [] ∨ ∃ r, W = 40 :: r ∨ W = 124 :: r) → len + 1 < N + p →
  z_mQ c len A cI d z_Q38 z_X38 1 N p W out (g p) S ∧ z_mF c len A cI d 1 N p (g p) S
def z_mE (c : Nat → Int32) (len A cI d k : Nat) (g : Nat → z_R) : Prop := ∀ (p : Nat) (W : List Nat) (out : List z_Tk) (N : Nat) (S : z_Mem), z_mx2 c len S → z_ms len A p W out S → z_opn W + k = 4 → (W = [] ∨ ∃ r, W = 40 :: r) → len + 1 < N + p →
  z_mQ c len A cI d z_QE z_XE 1 N p W out (g p) S ∧ z_mF c len A cI d 1 N p (g p) S
theorem z_fW_n {x : Nat} (h : ¬ x = 33) (r : List Nat) : z_fW (x :: r) = x :: r := if_neg h
theorem z_fNs_n {x : Nat} (h : ¬ x = 33) (r : List Nat) : z_fNs (x :: r) = [] := if_neg h
theorem z_opn_n {x : Nat} (h : ¬ (x = 33 ∨ x = 40)) (r : List Nat) : z_opn (x :: r) = z_opn r := by
  show z_opn r + (if x = 33 ∨ x = 40 then 1 else 0) = _
  rw [if_neg h]; rfl
theorem z_opn_y {x : Nat} (h : x = 33 ∨ x = 40) (r : List Nat) : z_opn (x :: r) = z_opn r + 1 := by
  show z_opn r + (if x = 33 ∨ x = 40 then 1 else 0) = _
  rw [if_pos h]
theorem z_fWq {W : List Nat} (h : W = [] ∨ ∃ r, W = 40 :: r ∨ W = 124 :: r) : z_fW W = W ∧ z_fNs W = [] := by
  rcases h with rfl | ⟨r, rfl | rfl⟩
  · exact ⟨rfl, rfl⟩
  · exact ⟨z_fW_n (by decide) r, z_fNs_n (by decide) r⟩
  · exact ⟨z_fW_n (by decide) r, z_fNs_n (by decide) r⟩
theorem l_sepA (c : Nat → Int32) (len A cI d k : Nat) (g : Nat → z_R) (ht : z_tx len c) (hA : A ≤ 500) (hg : z_gok len g) (hP : z_mP c len A cI d k g) (W : List Nat) (out : List z_Tk) (hW : W = [] ∨ ∃ r, W = 40 :: r ∨ W = 124 :: r) (hop : z_opn W + k = 4) : ∀ (m p N : Nat) (ts : List z_Tk) (pd : List Nat) (out' : List z_Tk) (S : z_Mem), z_mx2 c len S → z_ms len A p (pd ++ W) out' S → out' ++ pd.map z_opt = out ++ ts → (∀ x, x ∈ pd → x = 38) → len + 1 < N + p → len ≤ p + m →
    z_mQ c len A cI d z_Q38 z_X38 0 N p W out (z_sep c 38 2 g m p ts) S ∧ z_mF c len A cI d 0 N p (z_sep c 38 2 g m p ts) S := by
  have hst : z_stop 38 W := by
    rcases hW with rfl | ⟨r, rfl | rfl⟩
    · trivial
    · exact ⟨by decide, fun z => absurd z (by decide)⟩
    · exact ⟨by decide, fun _ => rfl⟩
  intro m
  induction m with
  | zero =>
    intro p N ts pd out' S hc hm ho hpd hN hlp
    refine ⟨fun _ => ⟨N, S, pd, out', rfl, Nat.le_refl _, hm, ho, hpd, fun z => ?_, z_fx.rf⟩, fun z => absurd rfl z⟩
    have z' : c p = 38 := z
    rw [ht.2.2 p (by omega)] at z'
    exact absurd z' (by decide)
  | succ m ih =>
    intro p N ts pd out' S hc hm ho hpd hN hlp
    have hp := hm.1.1
    unfold z_sep
    by_cases h1 : c p = 38
    · rw [if_pos h1]
      obtain ⟨N, rfl⟩ : ∃ N', N = N' + 1 := ⟨N - 1, by omega⟩
      have hpl := ht.lt (by decide) h1
      obtain ⟨g1, g2, g3⟩ := hg (p + 1) (by omega)
      obtain ⟨S1, e1, m1, f1⟩ := st_sep38 d len A cI p N c ht hA pd W out' S hc hm (fun x hx => Or.inl (hpd x hx)) hst h1
      rw [ho] at m1
      obtain ⟨q1, q2⟩ := hP (p + 1) (38 :: W) (out ++ ts) N S1 (hc.me f1) m1 (by rw [z_opn_n (by decide)]; exact hop) (by omega)
      by_cases h2 : (g (p + 1)).1 = true
      · rw [if_pos h2]
        obtain ⟨N2, S2, e2, n2, m2, f2⟩ := q1 h2
        rw [z_fW_n (by decide), z_fNs_n (by decide), List.append_nil] at m2
        obtain ⟨i1, i2⟩ := ih (g (p + 1)).2.1 N2 (ts ++ ((g (p + 1)).2.2 ++ [(2, 0)])) [38] (out ++ ts ++ (g (p + 1)).2.2) S2 ((hc.me f1).me f2) m2 (by
          show (out ++ ts ++ (g (p + 1)).2.2) ++ [(2, 0)] = _
          rw [List.append_assoc, List.append_assoc]) (fun x hx => List.mem_singleton.mp hx) (by omega) (by omega)
        refine ⟨fun z => ?_, fun z => ?_⟩
        · obtain ⟨N3, S3, pd3, out3, e3, n3, m3, o3, p3, x3, f3⟩ := i1 z
          exact ⟨N3, S3, pd3, out3, (e1.trans e2).trans e3, by omega, m3, o3, p3, x3, (f1.tr f2).tr f3⟩
        · obtain ⟨S3, e3, a3, f3⟩ := i2 z
          exact ⟨S3, (e1.trans e2).trans e3, a3, (f1.tr f2).tr f3⟩
      · rw [if_neg h2]
        refine ⟨fun z => absurd z Bool.false_ne_true, fun _ => ?_⟩
        obtain ⟨S3, e3, a3, f3⟩ := q2 h2
        exact ⟨S3, e1.trans e3, a3, f1.tr f3⟩
    · rw [if_neg h1]
      exact ⟨fun _ => ⟨N, S, pd, out', rfl, Nat.le_refl _, hm, ho, hpd, h1, z_fx.rf⟩, fun z => absurd rfl z⟩
theorem M_all (c : Nat → Int32) (len A cI d k : Nat) (g : Nat → z_R) (ht : z_tx len c) (hA : A ≤ 500) (hg : z_gok len g) (hP : z_mP c len A cI d k g) : z_mA c len A cI d k (z_lv c len 38 2 g) := by
  intro p W out N S hc hm hop hW hN
  obtain ⟨w1, w2⟩ := z_fWq hW
  obtain ⟨g1, g2, g3⟩ := hg p hm.1.1
  obtain ⟨q1, q2⟩ := hP p W out N S hc hm hop hN
  unfold z_lv
  by_cases h : (g p).1 = true
  · rw [if_pos h]
    obtain ⟨N1, S1, e1, n1, m1, f1⟩ := q1 h
    rw [w1, w2, List.append_nil] at m1
    obtain ⟨i1, i2⟩ := l_sepA c len A cI d k g ht hA hg hP W out hW hop len (g p).2.1 N1 (g p).2.2 [] (out ++ (g p).2.2) S1 (hc.me f1) m1 (by rw [List.map_nil, List.append_nil]) (fun x hx => absurd hx List.not_mem_nil) (by omega) (by omega)
    refine ⟨fun z => ?_, fun z => ?_⟩
    · obtain ⟨N3, S3, pd3, out3, e3, n3, m3, o3, p3, x3, f3⟩ := i1 z
      exact ⟨N3, S3, pd3, out3, e1.trans e3, by omega, m3, o3, p3, x3, f1.tr f3⟩
    · obtain ⟨S3, e3, a3, f3⟩ := i2 z
      exact ⟨S3, e1.trans e3, a3, f1.tr f3⟩
  · rw [if_neg h]
    exact ⟨fun z => absurd z Bool.false_ne_true, fun _ => q2 h⟩
theorem l_sepE (c : Nat → Int32) (len A cI d k : Nat) (g : Nat → z_R) (ht : z_tx len c) (hA : A ≤ 500) (hg : z_gok len g) (hP : z_mA c len A cI d k g) (W : List Nat) (out : List z_Tk) (hW : W = [] ∨ ∃ r, W = 40 :: r) (hop : z_opn W + k = 4) : ∀ (m p N : Nat) (ts : List z_Tk) (pd : List Nat) (out' : List z_Tk) (S : z_Mem), z_mx2 c len S → z_ms len A p (pd ++ W) out' S → out' ++ pd.map z_opt = out ++ ts → (∀ x, x ∈ pd → z_QE x) → ¬ c p = 38 → len + 1 < N + p → len ≤ p + m →
    z_mQ c len A cI d z_QE z_XE 0 N p W out (z_sep c 124 3 g m p ts) S ∧ z_mF c len A cI d 0 N p (z_sep c 124 3 g m p ts) S := by
  have hst : z_stop 124 W := by
    rcases hW with rfl | ⟨r, rfl⟩
    · trivial
    · exact ⟨by decide, fun z => absurd z (by decide)⟩
  intro m
  induction m with
  | zero =>
    intro p N ts pd out' S hc hm ho hpd h38 hN hlp
    refine ⟨fun _ => ⟨N, S, pd, out', rfl, Nat.le_refl _, hm, ho, hpd, fun z => ?_, z_fx.rf⟩, fun z => absurd rfl z⟩
    have z' : c p = 38 ∨ c p = 124 := z
    rw [ht.2.2 p (by omega)] at z'
    exact absurd z' (by decide)
  | succ m ih =>
    intro p N ts pd out' S hc hm ho hpd h38 hN hlp
    have hp := hm.1.1
    unfold z_sep
    by_cases h1 : c p = 124
    · rw [if_pos h1]
      obtain ⟨N, rfl⟩ : ∃ N', N = N' + 1 := ⟨N - 1, by omega⟩
      have hpl := ht.lt (by decide) h1
      obtain ⟨g1, g2, g3⟩ := hg (p + 1) (by omega)
      obtain ⟨S1, e1, m1, f1⟩ := st_sep124 d len A cI p N c ht hA pd W out' S hc hm (fun x hx => (hpd x hx).elim Or.inl (fun z => Or.inr ⟨z, by decide⟩)) hst h1
      rw [ho] at m1
      obtain ⟨q1, q2⟩ := hP (p + 1) (124 :: W) (out ++ ts) N S1 (hc.me f1) m1 (by rw [z_opn_n (by decide)]; exact hop) (Or.inr ⟨W, Or.inr rfl⟩) (by omega)
      by_cases h2 : (g (p + 1)).1 = true
      · rw [if_pos h2]
        obtain ⟨N2, S2, pd2, out2, e2, n2, m2, o2, p2, x2, f2⟩ := q1 h2
        obtain ⟨i1, i2⟩ := ih (g (p + 1)).2.1 N2 (ts ++ ((g (p + 1)).2.2 ++ [(3, 0)])) (pd2 ++ [124]) out2 S2 ((hc.me f1).me f2) (by rw [List.append_assoc]; exact m2) (by
          rw [List.map_append, ← List.append_assoc, o2]
          show ((out ++ ts) ++ (g (p + 1)).2.2) ++ [(3, 0)] = _
          rw [List.append_assoc, List.append_assoc]) (fun x hx => (List.mem_append.mp hx).elim (fun z => Or.inl (p2 x z)) (fun z => Or.inr (List.mem_singleton.mp z))) x2 (by omega) (by omega)
        refine ⟨fun z => ?_, fun z => ?_⟩
        · obtain ⟨N3, S3, pd3, out3, e3, n3, m3, o3, p3, x3, f3⟩ := i1 z
          exact ⟨N3, S3, pd3, out3, (e1.trans e2).trans e3, by omega, m3, o3, p3, x3, (f1.tr f2).tr f3⟩
        · obtain ⟨S3, e3, a3, f3⟩ := i2 z
          exact ⟨S3, (e1.trans e2).trans e3, a3, (f1.tr f2).tr f3⟩
      · rw [if_neg h2]
        refine ⟨fun z => absurd z Bool.false_ne_true, fun _ => ?_⟩
        obtain ⟨S3, e3, a3, f3⟩ := q2 h2
        exact ⟨S3, e1.trans e3, a3, f1.tr f3⟩
    · rw [if_neg h1]
      exact ⟨fun _ => ⟨N, S, pd, out', rfl, Nat.le_refl _, hm, ho, hpd, fun z => z.elim h38 h1, z_fx.rf⟩, fun z => absurd rfl z⟩
theorem M_any (c : Nat → Int32) (len A cI d k : Nat) (g : Nat → z_R) (ht : z_tx len c) (hA : A ≤ 500) (hg : z_gok len g) (hP : z_mA c len A cI d k g) : z_mE c len A cI d k (z_lv c len 124 3 g) := by
  intro p W out N S hc hm hop hW hN
  obtain ⟨g1, g2, g3⟩ := hg p hm.1.1
  obtain ⟨q1, q2⟩ := hP p W out N S hc hm hop (hW.elim Or.inl (fun z => Or.inr (by obtain ⟨r, z⟩ := z; exact ⟨r, Or.inl z⟩))) hN
  unfold z_lv
  by_cases h : (g p).1 = true
  · rw [if_pos h]
    obtain ⟨N1, S1, pd1, out1, e1, n1, m1, o1, p1, x1, f1⟩ := q1 h
    obtain ⟨i1, i2⟩ := l_sepE c len A cI d k g ht hA hg hP W out hW hop len (g p).2.1 N1 (g p).2.2 pd1 out1 S1 (hc.me f1) m1 o1 (fun x hx => Or.inl (p1 x hx)) x1 (by omega) (by omega)
    refine ⟨fun z => ?_, fun z => ?_⟩
    · obtain ⟨N3, S3, pd3, out3, e3, n3, m3, o3, p3, x3, f3⟩ := i1 z
      exact ⟨N3, S3, pd3, out3, e1.trans e3, by omega, m3, o3, p3, x3, f1.tr f3⟩
    · obtain ⟨S3, e3, a3, f3⟩ := i2 z
      exact ⟨S3, e1.trans e3, a3, f1.tr f3⟩
  · rw [if_neg h]
    exact ⟨fun z => absurd z Bool.false_ne_true, fun _ => q2 h⟩
theorem M_test (c : Nat → Int32) (len A cI d : Nat) (ht : z_tx len c) (hA : A ≤ 500) (p : Nat) (W : List Nat) (out : List z_Tk) (N : Nat) (S : z_Mem) (hc : z_mx2 c len S) (hm : z_ms len A p W out S) (hN : len + 1 < N + p) (h33 : ¬ c p = 33) (h40 : ¬ c p = 40) :
    ((z_pt c p).1 = true → ∃ N' S', zr_X12_takesE (z_exe z_mt true (d + 4)) N 22 [some (.inr (.inr (12, 0))), some (.inl (nI cI)), some (.inl 1), none] [] S = zr_X12_takesE (z_exe z_mt true (d + 4)) N' 22 [some (.inr (.inr (12, 0))), some (.inl (nI cI)), some (.inl 0), none] [] S' ∧ N + p ≤ N' + (z_pt c p).2.1 ∧ z_ms len A (z_pt c p).2.1 (z_fW W) (out ++ ((z_pt c p).2.2 ++ z_fNs W)) S' ∧ z_fx (z_Pme A cI) S S') ∧ z_mF c len A cI d 1 N p (z_pt c p) S := by
  have hp := hm.1.1
  obtain ⟨N, rfl⟩ : ∃ N', N = N' + 1 := ⟨N - 1, by omega⟩
  obtain ⟨S', e1, a1, b1, f1⟩ := st_test d len A cI p N c ht hA W out S hc hm h33 h40
  refine ⟨fun z => ?_, fun z => ?_⟩
  · rw [if_pos z] at e1
    have hlen : p + 1 ≤ (z_pt c p).2.1 := by
      have k := (z_pt_ok ht p hp).2.2 z
      have k2 : (z_pt c p).2.2.length = 1 := by
        revert z
        unfold z_pt
        by_cases h1 : z_plt (c p) = 9
        · rw [if_pos h1]; intro z; exact absurd z Bool.false_ne_true
        rw [if_neg h1]
        by_cases h2 : z_cm (c (p + 1)) = 9
        · rw [if_pos h2]; intro z; exact absurd z Bool.false_ne_true
        rw [if_neg h2]
        by_cases h3 : (z_nm c (p + 2)).1 = true
        · rw [if_pos h3]; intro _; rfl
        · rw [if_neg h3]; intro z; exact absurd z Bool.false_ne_true
      omega
    exact ⟨N, S', e1, by omega, b1 z, f1⟩
  · rw [if_neg z] at e1
    exact ⟨S', e1, a1, f1⟩
theorem z_pt_no {c : Nat → Int32} {p : Nat} (h : c p = 33 ∨ c p = 40) : z_pt c p = (false, p, []) := by
  unfold z_pt
  rcases h with h | h <;> rw [h, if_pos (by decide)]
theorem M_part (c : Nat → Int32) (len A cI d : Nat) (ht : z_tx len c) (hA : A ≤ 500) (hcI : cI < 60) : ∀ k, z_mP c len A cI d k (z_pP c len k) := by
  intro k
  induction k with
  | zero =>
    intro p W out N S hc hm hop hN
    have hp := hm.1.1
    show ((z_pt c p).1 = true → _) ∧ z_mF c len A cI d 1 N p (z_pt c p) S
    by_cases h33 : c p = 33
    · obtain ⟨N, rfl⟩ : ∃ N', N = N' + 1 := ⟨N - 1, by omega⟩
      rw [z_pt_no (Or.inl h33)]
      exact ⟨fun z => absurd z Bool.false_ne_true, fun _ => ⟨S, st_full33 d len A cI p N c ht W out S hc hm (by omega) h33, hm.2.1, z_fx.rf⟩⟩
    · by_cases h40 : c p = 40
      · obtain ⟨N, rfl⟩ : ∃ N', N = N' + 1 := ⟨N - 1, by omega⟩
        rw [z_pt_no (Or.inr h40)]
        exact ⟨fun z => absurd z Bool.false_ne_true, fun _ => ⟨S, st_full40 d len A cI p N c ht W out S hc hm (by omega) h40, hm.2.1, z_fx.rf⟩⟩
      · exact M_test c len A cI d ht hA p W out N S hc hm hN h33 h40
  | succ k ih =>
    intro p W out N S hc hm hop hN
    have hp := hm.1.1
    by_cases h33 : c p = 33
    · have hE : z_pP c len (k + 1) p = if (z_pP c len k (p + 1)).1 = true then (true, (z_pP c len k (p + 1)).2.1, (z_pP c len k (p + 1)).2.2 ++ [(1, 0)]) else (false, (z_pP c len k (p + 1)).2.1, []) := if_pos h33
      rw [hE]
      obtain ⟨N, rfl⟩ : ∃ N', N = N' + 1 := ⟨N - 1, by omega⟩
      have hpl := ht.lt (by decide) h33
      obtain ⟨S1, e1, m1, f1⟩ := st_push33 d len A cI p N c ht W out S hc hm (by omega) h33
      obtain ⟨q1, q2⟩ := ih (p + 1) (33 :: W) out N S1 (hc.me f1) m1 (by rw [z_opn_y (Or.inl rfl)]; omega) (by omega)
      by_cases h2 : (z_pP c len k (p + 1)).1 = true
      · rw [if_pos h2]
        refine ⟨fun _ => ?_, fun z => absurd rfl z⟩
        obtain ⟨N2, S2, e2, n2, m2, f2⟩ := q1 h2
        refine ⟨N2, S2, e1.trans e2, by dsimp only; omega, ?_, f1.tr f2⟩
        have w1 : z_fW (33 :: W) = z_fW W := if_pos rfl
        have w2 : z_fNs (33 :: W) = (1, 0) :: z_fNs W := if_pos rfl
        rw [w1, w2] at m2
        show z_ms len A (z_pP c len k (p + 1)).2.1 (z_fW W) (out ++ (((z_pP c len k (p + 1)).2.2 ++ [(1, 0)]) ++ z_fNs W)) S2
        rw [List.append_assoc]
        exact m2
      · rw [if_neg h2]
        refine ⟨fun z => absurd z Bool.false_ne_true, fun _ => ?_⟩
        obtain ⟨S2, e2, a2, f2⟩ := q2 h2
        exact ⟨S2, e1.trans e2, a2, f1.tr f2⟩
    · by_cases h40 : c p = 40
      · have hE : z_pP c len (k + 1) p = if (z_pE c len (z_pP c len k) (p + 1)).1 = true then (if c (z_pE c len (z_pP c len k) (p + 1)).2.1 = 41 then (true, (z_pE c len (z_pP c len k) (p + 1)).2.1 + 1, (z_pE c len (z_pP c len k) (p + 1)).2.2) else (false, (z_pE c len (z_pP c len k) (p + 1)).2.1, [])) else (false, (z_pE c len (z_pP c len k) (p + 1)).2.1, []) := (if_neg h33).trans (if_pos h40)
        rw [hE]
        obtain ⟨N, rfl⟩ : ∃ N', N = N' + 1 := ⟨N - 1, by omega⟩
        have hpl := ht.lt (by decide) h40
        obtain ⟨S1, e1, m1, f1⟩ := st_push40 d len A cI p N c ht W out S hc hm (by omega) h40
        obtain ⟨q1, q2⟩ := M_any c len A cI d k _ ht hA (z_lv_ok ht (by decide) (z_pP_ok ht k)) (M_all c len A cI d k _ ht hA (z_pP_ok ht k) ih) (p + 1) (40 :: W) out N S1 (hc.me f1) m1 (by rw [z_opn_y (Or.inr rfl)]; omega) (Or.inr ⟨W, rfl⟩) (by omega)
        have q1' : z_mQ c len A cI d z_QE z_XE 1 N (p + 1) (40 :: W) out (z_pE c len (z_pP c len k) (p + 1)) S1 := q1
        have q2' : z_mF c len A cI d 1 N (p + 1) (z_pE c len (z_pP c len k) (p + 1)) S1 := q2
        by_cases h2 : (z_pE c len (z_pP c len k) (p + 1)).1 = true
        · rw [if_pos h2]
          obtain ⟨N2, S2, pd, out', e2, n2, m2, o2, p2, x2, f2⟩ := q1' h2
          have hp2 := m2.1.1
          obtain ⟨N2, rfl⟩ : ∃ N', N2 = N' + 1 := ⟨N2 - 1, by omega⟩
          obtain ⟨S3, m3, -, f3, -, b3, c3⟩ := st_fin d len A cI (z_pE c len (z_pP c len k) (p + 1)).2.1 N2 c ht hA hcI pd (40 :: W) out' S2 ((hc.me f1).me f2) m2 p2 ⟨by decide, fun z => absurd z (by decide)⟩ (fun z => x2 (Or.inl z)) (fun z => x2 (Or.inr z))
          by_cases h4 : c (z_pE c len (z_pP c len k) (p + 1)).2.1 = 41
          · rw [if_pos h4]
            refine ⟨fun _ => ?_, fun z => absurd rfl z⟩
            obtain ⟨S4, e4, m4, f4⟩ := c3 W rfl h4
            refine ⟨N2, S4, (e1.trans e2).trans e4, by dsimp only; omega, ?_, (f1.tr f2).tr f4⟩
            rw [← List.append_assoc, o2, List.append_assoc] at m4
            exact m4
          · rw [if_neg h4]
            refine ⟨fun z => absurd z Bool.false_ne_true, fun _ => ?_⟩
            exact ⟨S3, (e1.trans e2).trans (b3 W rfl h4), m3.2.1, (f1.tr f2).tr f3⟩
        · rw [if_neg h2]
          refine ⟨fun z => absurd z Bool.false_ne_true, fun _ => ?_⟩
          obtain ⟨S2, e2, a2, f2⟩ := q2' h2
          exact ⟨S2, e1.trans e2, a2, f1.tr f2⟩
      · have hE : z_pP c len (k + 1) p = z_pt c p := (if_neg h33).trans (if_neg h40)
        rw [hE]
        exact M_test c len A cI d ht hA p W out N S hc hm hN h33 h40
theorem M_E (c : Nat → Int32) (len A cI d : Nat) (ht : z_tx len c) (hA : A ≤ 500) (hcI : cI < 60) : z_mE c len A cI d 4 (z_pE c len (z_pP c len 4)) := M_any c len A cI d 4 _ ht hA (z_lv_ok ht (by decide) (z_pP_ok ht 4)) (M_all c len A cI d 4 _ ht hA (z_pP_ok ht 4) (M_part c len A cI d ht hA hcI 4))
/-- E as the model reads it -/
def z_PmE (A cI : Nat) (t i k : Nat) : Prop := z_Pme A cI t i k ∨ (t = 47 ∧ i = 0 ∧ k = cI)
theorem s_takesE (c : Nat → Int32) (len A cI d p : Nat) (ht : z_tx len c) (hA : A ≤ 500) (hcI : cI < 60) (out : List z_Tk) (S : z_Mem) (hc : z_mx2 c len S) (hat : S.1 12 0 14 = nI p) (hp : p ≤ len) (ho : out.length ≤ p) (h24 : S.1 12 0 24 = nI (A + out.length)) (htk : z_tkl (S.1 49 0) z_ts A out) :
    ∃ S', z_exe z_mt true (d + 5) 154 [.inr (.inr (12, 0)), .inl (nI cI)] S = some (some (.inl (if (z_pE c len (z_pP c len 4) p).1 = true then 1 else 0)), S') ∧ S'.1 12 0 14 = nI (z_pE c len (z_pP c len 4) p).2.1 ∧
      ((z_pE c len (z_pP c len 4) p).1 = true → S'.1 12 0 24 = nI (A + (out ++ (z_pE c len (z_pP c len 4) p).2.2).length) ∧ z_tkl (S'.1 49 0) z_ts A (out ++ (z_pE c len (z_pP c len 4) p).2.2) ∧ S'.1 47 0 cI = nI (A + out.length) ∧ S'.1 48 0 cI = nI (A + (out ++ (z_pE c len (z_pP c len 4) p).2.2).length)) ∧ z_fx (z_PmE A cI) S S' := by
  have e : z_exe z_mt true (d + 5) 154 [.inr (.inr (12, 0)), .inl (nI cI)] S = _ := (zx_X12_takesE (d + 4) S 0 (nI cI)).trans (ze_X12_takesE_0 _ _ _ _ _)
  have hl := ht.1
  have g24 : (z_sI (z_sI S 12 0 25 0) 12 0 26 0).1 12 0 24 = nI (A + out.length) := by rw [z_sI1, if_neg (by omega), z_sI1, if_neg (by omega)]; exact h24
  have f0 : z_fx (z_PmE A cI) S (z_sI (z_sI (z_sI S 12 0 25 0) 12 0 26 0) 47 0 cI (nI (A + out.length))) := ((z_fx.sI (Or.inl ⟨rfl, Or.inl ⟨rfl, by omega⟩⟩)).tr (z_fx.sI (Or.inl ⟨rfl, Or.inl ⟨rfl, by omega⟩⟩))).tr (z_fx.sI (Or.inr ⟨rfl, rfl, rfl⟩))
  have hc0 := hc.fx f0 (by unfold z_PmE z_Pme; omega) (fun p => by unfold z_PmE z_Pme; omega)
  have m0 : z_ms len A p [] out (z_sI (z_sI (z_sI S 12 0 25 0) 12 0 26 0) 47 0 cI (nI (A + out.length))) := by
    refine ⟨⟨hp, ho⟩, ?_, ?_, trivial, ?_, ?_, z_tk_cg htk (fun k hk => ?_)⟩
    · rw [z_sI1, if_neg (by omega), z_sI1, if_neg (by omega), z_sI1, if_neg (by omega)]; exact hat
    · rw [z_sI1, if_neg (by omega), z_sI1, if_neg (by omega), z_sI1, if_pos ⟨rfl, rfl, rfl⟩]; rfl
    · rw [z_sI1, if_neg (by omega), z_sI1, if_pos ⟨rfl, rfl, rfl⟩]; rfl
    · rw [z_sI1, if_neg (by omega)]; exact g24
    · rw [z_sI1, if_neg (by omega), z_sI1, if_neg (by omega), z_sI1, if_neg (by omega)]
  obtain ⟨q1, q2⟩ := M_E c len A cI d ht hA hcI p [] out 999999 _ hc0 m0 rfl (Or.inl rfl) (by omega)
  try dsimp only at e
  rw [g24, z_oob_n (k := cI) (by omega) (by omega), z_cl (k := cI) (by omega), z_cnf] at e
  by_cases h : (z_pE c len (z_pP c len 4) p).1 = true
  · obtain ⟨N2, S2, pd, out', e2, n2, m2, o2, p2, x2, f2⟩ := q1 h
    have hp2 := m2.1.1
    obtain ⟨N2, rfl⟩ : ∃ N', N2 = N' + 1 := ⟨N2 - 1, by omega⟩
    obtain ⟨S3, m3, k3, f3, a3, -, -⟩ := st_fin d len A cI (z_pE c len (z_pP c len 4) p).2.1 N2 c ht hA hcI pd [] out' S2 (hc0.me f2) m2 p2 trivial (fun z => x2 (Or.inl z)) (fun z => x2 (Or.inr z))
    rw [o2] at m3 k3
    have f23 := f2.tr f3
    rw [if_pos h]
    refine ⟨S3, (e.trans e2).trans (a3 rfl), m3.2.1, fun _ => ⟨m3.2.2.2.2.2.1, m3.2.2.2.2.2.2, ?_, k3⟩, f0.tr (f23.wk (fun t i k q => Or.inl q))⟩
    rw [f23.i (by unfold z_Pme; omega), z_sI1, if_pos ⟨rfl, rfl, rfl⟩]
  · obtain ⟨S2, e2, a2, f2⟩ := q2 h
    rw [if_neg h]
    exact ⟨S2, e.trans e2, a2, fun z => absurd z h, f0.tr (f2.wk (fun t i k q => Or.inl q))⟩
