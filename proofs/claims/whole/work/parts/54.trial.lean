/-! ===== trials step by step: hours, logs, who is away ===== -/
abbrev z_St : Type := Int32 × (Nat × (Int32 × ((Nat → z_K) × ((Nat → Int32) × (Nat → Int32)))))
def z_sB (H : z_H) (s : z_St) : z_St := ((if s.1 + z_last 3 H 6 < 30 then s.1 + z_last 3 H 6 else 30), (s.2.1, (s.2.2.1 - 1, s.2.2.2)))
noncomputable def z_sH (H : z_H) (s : z_St) : z_St := (z_mx (s.1 - z_last 2 H 1), (s.2.1 + 1, (s.2.2.1, (s.2.2.2.1, (fun b => z_w1 H (s.2.2.2.1 b) s.1 s.2.1 (s.2.2.2.2.1 b), fun b => z_c1 (s.2.2.2.1 b) s.1 (s.2.2.2.2.2 b))))))
/-- pair b0 is away, or is not -/
def z_kgo (g : Bool) (K : z_K) : z_K := (K.1, (K.2.1, (K.2.2.1, (K.2.2.2.1, (g, K.2.2.2.2.2)))))
def z_sG (b0 : Nat) (g : Bool) (s : z_St) : z_St := (s.1, (s.2.1, (s.2.2.1, ((fun b => if b = b0 then z_kgo g (s.2.2.2.1 b) else s.2.2.2.1 b), s.2.2.2.2))))
def z_TC (h n : Nat) (H : z_H) (s : z_St) (S : z_Mem) : Prop := z_Rc 2 h H n s.1 s.2.1 s.2.2.2.1 s.2.2.2.2.1 s.2.2.2.2.2 S ∧ S.1 9 2 1 = s.2.2.1 ∧ S.1 7 2 1 = nI n
def z_TM (c0 n : Nat) (H : z_H) (s : z_St) (S : z_Mem) : Prop := z_Rm c0 H n s.1 s.2.1 s.2.2.2.1 s.2.2.2.2.1 s.2.2.2.2.2 S ∧ S.1 12 0 3 = s.2.2.1 ∧ S.1 12 0 29 = nI 2000000000
def z_sok (n B : Nat) (s : z_St) : Prop := s.2.1 ≤ B ∧ (∀ b, b < n → ∃ w : Nat, w ≤ 99 ∧ s.2.2.2.2.1 b = nI w) ∧ ∀ b, b < n → ∃ c : Nat, c ≤ s.2.1 ∧ s.2.2.2.2.2 b = nI c
theorem z_sok_H {n B : Nat} {H : z_H} {s : z_St} (h : z_sok n B s) : z_sok n (B + 1) (z_sH H s) := by
  obtain ⟨h1, h2, h3⟩ := h
  refine ⟨Nat.add_le_add_right h1 1, fun b hb => ?_, fun b hb => ?_⟩
  · obtain ⟨w, hw, e⟩ := h2 b hb
    obtain ⟨j, hj, e'⟩ := z_w1_le (H := H) (K := s.2.2.2.1 b) (ht := s.1) (hr := s.2.1) hw
    exact ⟨j, by omega, by show z_w1 H _ _ _ (s.2.2.2.2.1 b) = _; rw [e]; exact e'⟩
  · obtain ⟨c, hc, e⟩ := h3 b hb
    obtain ⟨j, hj, e'⟩ := z_c1_up (K := s.2.2.2.1 b) (ht := s.1) (k := c)
    exact ⟨j, by show j ≤ s.2.1 + 1; omega, by show z_c1 _ _ (s.2.2.2.2.2 b) = _; rw [e]; exact e'⟩
theorem z_sok_B {n B : Nat} {H : z_H} {s : z_St} (h : z_sok n B s) : z_sok n B (z_sB H s) := h
theorem z_sok_G {n B b0 : Nat} {g : Bool} {s : z_St} (h : z_sok n B s) : z_sok n B (z_sG b0 g s) := h
theorem z_sok.up {n B B' : Nat} {s : z_St} (h : z_sok n B s) (hB : B ≤ B') : z_sok n B' s := ⟨Nat.le_trans h.1 hB, h.2⟩
theorem z_sok.W0 {n B : Nat} {s : z_St} (h : z_sok n B s) : ∀ b, b < n → 0 ≤ s.2.2.2.2.1 b := by
  intro b hb
  obtain ⟨w, hw, e⟩ := h.2.1 b hb
  rw [e]
  exact nI_pos' (by omega)
theorem t_cH (d h n B : Nat) (H : z_H) (s : z_St) (S : z_Mem) (hH : z_hwf H) (hn : n ≤ 6) (hs : z_sok n B s) (hB : B ≤ 20000) (hT : z_TC h n H s S) : ∃ S', z_exe z_mt true (d + 5) 54 [.inr (.inr (7, 2))] S = some (none, S') ∧ z_TC h n H (z_sH H s) S' ∧ z_fx z_Ptr S S' := by
  obtain ⟨t1, t2, t3⟩ := hT
  obtain ⟨q, S', e, rfl, k1, k2⟩ := s_roomHour d 2 h s.2.1 n s.1 H _ _ _ S hH (Nat.le_trans hs.1 hB) hn t3 t1 hs.W0
  exact ⟨S', e, ⟨k1, (k2.i (by unfold z_Pr; omega)).trans t2, (k2.i (by unfold z_Pr; omega)).trans t3⟩, k2.wk (fun t i k q => by unfold z_Pr at q; unfold z_Ptr; omega)⟩
theorem t_cB (d h n : Nat) (H : z_H) (s : z_St) (S : z_Mem) (hT : z_TC h n H s S) : ∃ S', z_exe z_mt true (d + 1) 69 [.inr (.inr (9, 2))] S = some (none, S') ∧ z_TC h n H (z_sB H s) S' ∧ z_fx z_Ptr S S' := by
  obtain ⟨t1, t2, t3⟩ := hT
  have e := s_burnLog d 2 h n s.2.1 s.1 H _ _ _ S t1
  obtain ⟨r1, r2, r3, r4, r5⟩ := t1
  have f : z_fx (fun t i k => t = 9 ∧ i = 2 ∧ k < 2) S (z_sI (z_sI S 9 2 1 (S.1 9 2 1 - 1)) 9 2 0 (if s.1 + z_last 3 H 6 < 30 then s.1 + z_last 3 H 6 else 30)) := (z_fx.sI ⟨rfl, rfl, by omega⟩).tr (z_fx.sI ⟨rfl, rfl, by omega⟩)
  refine ⟨_, e, ⟨⟨?_, r2.fx f (fun k => by omega) (fun k => by omega) (fun k => by omega), ?_, ?_, fun b hb => ?_⟩, ?_, ?_⟩, f.wk (fun t i k q => by unfold z_Ptr; omega)⟩
  · rw [f.r (by omega)]; exact r1
  · rw [z_sI1, if_pos ⟨rfl, rfl, rfl⟩]; rfl
  · rw [f.i (by omega)]; exact r4
  · obtain ⟨o1, o2, o3⟩ := r5 b hb
    exact ⟨(z_kc_cg (fun k _ _ => f.i (by omega)) (fun k => f.i (by omega))).trans o1, (f.i (by omega)).trans o2, (f.i (by omega)).trans o3⟩
  · simp [z_sI1, t2]; rfl
  · rw [f.i (by omega)]; exact t3
theorem t_mH (d c0 n B : Nat) (H : z_H) (s : z_St) (S : z_Mem) (hH : z_hwf H) (hn : n ≤ 6) (hs : z_sok n B s) (hB : B ≤ 20000) (hT : z_TM c0 n H s S) : ∃ S', z_exe z_mt true (d + 6) 175 [.inr (.inr (12, 0))] S = some (none, S') ∧ z_TM c0 n H (z_sH H s) S' ∧ z_fx z_Prn S S' := by
  obtain ⟨t1, t2, t3⟩ := hT
  have := hs.1
  obtain ⟨q, S', e, rfl, k1, k2⟩ := s_mhour d c0 n s.2.1 2000000000 s.1 H _ _ _ S hH (Nat.le_trans hs.1 hB) hn (by omega) (by omega) t3 t1 hs.2.2
  exact ⟨S', e, ⟨k1, (k2.i (by unfold z_Pm; omega)).trans t2, (k2.i (by unfold z_Pm; omega)).trans t3⟩, z_Pm_Prn k2⟩
theorem t_mB (d c0 n : Nat) (H : z_H) (s : z_St) (S : z_Mem) (hH : z_hwf H) (hT : z_TM c0 n H s S) : ∃ S', z_exe z_mt true (d + 3) 177 [.inr (.inr (12, 0))] S = some (none, S') ∧ z_TM c0 n H (z_sB H s) S' ∧ z_fx z_Prn S S' := by
  obtain ⟨t1, t2, t3⟩ := hT
  have e := s_stokes d c0 n s.2.1 s.1 H _ _ _ S hH t1
  have f : z_fx (fun t i k => t = 12 ∧ i = 0 ∧ (k = 2 ∨ k = 3)) S (z_sI (z_sI S 12 0 3 (S.1 12 0 3 - 1)) 12 0 2 (if s.1 + z_last 3 H 6 < 30 then s.1 + z_last 3 H 6 else 30)) := (z_fx.sI ⟨rfl, rfl, by omega⟩).tr (z_fx.sI ⟨rfl, rfl, by omega⟩)
  obtain ⟨r1, r2, r3, r4, r5⟩ := t1
  refine ⟨_, e, ⟨⟨?_, r2.fx f (fun t i k a c => by omega) (by omega), ?_, ?_, fun b hb => ?_⟩, ?_, ?_⟩, f.wk (fun t i k q => by unfold z_Prn; omega)⟩
  · rw [f.i (by omega)]; exact r1
  · rw [z_sI1, if_pos ⟨rfl, rfl, rfl⟩]; rfl
  · rw [f.i (by omega)]; exact r4
  · obtain ⟨o1, o2, o3⟩ := r5 b hb
    exact ⟨(z_km_cg (f.i (by omega)) (f.i (by omega)) (f.i (by omega)) (f.i (by omega)) (fun k => f.i (by omega))).trans o1, (f.i (by omega)).trans o2, (f.i (by omega)).trans o3⟩
  · simp [z_sI1, t2]; rfl
  · rw [f.i (by omega)]; exact t3
def z_sS (ht : Int32) (hr : Nat) (wd : Int32) (K : Nat → z_K) (W C : Nat → Int32) : z_St := (ht, (hr, (wd, (K, (W, C)))))
theorem t_cC (d : Nat) {hts n hr h c0 : Nat} {ht wd : Int32} {H : z_H} {K : Nat → z_K} {W C : Nat → Int32} {S : z_Mem} (hA : z_LA hts n hr h c0 ht wd H K W C S) : ∃ S', z_exe z_mt true (d + 2) 51 [.inr (.inr (7, 2)), .inr (.inr (7, 0))] S = some (none, S') ∧ z_TC h n H (z_sS ht hr wd K W C) S' ∧ z_fx z_Ptr S S' := by
  obtain ⟨x, S', e, rfl, hc⟩ := s_copyRoom d 2 0 n S (by omega) hA.1.1.1 hA.2.1.1.1 hA.z01
  exact ⟨S', e, ⟨hc.Rc hA.Rc, (hc.2.1 1 (by omega)).trans hA.2.1.1.2.2.1, hc.1⟩, hc.2.2.2.2.wk (fun t i k q => by unfold z_Pcp at q; unfold z_Ptr; omega)⟩
theorem t_mS (d : Nat) {hts n hr h c0 : Nat} {ht wd : Int32} {H : z_H} {K : Nat → z_K} {W C : Nat → Int32} {S : z_Mem} (hA : z_LA hts n hr h c0 ht wd H K W C S) : ∃ S1, z_exe z_mt true (d + 1) 180 [.inr (.inr (12, 0))] S = some (none, S1) ∧ z_sav S S1 ∧ z_TM c0 n H (z_sS ht hr wd K W C) S1 := by
  obtain ⟨S1, e, hs, hR1, hmo⟩ := s_mSave d c0 n hr H ht K W C S hA.Rm
  exact ⟨S1, e, hs, ⟨hR1, (hs.1.i (by unfold z_Psv; omega)).trans hA.2.1.2.2.2.1, hmo⟩⟩
theorem z_LA.sok {hts n hr h c0 : Nat} {ht wd : Int32} {H : z_H} {K : Nat → z_K} {W C : Nat → Int32} {S : z_Mem} (hA : z_LA hts n hr h c0 ht wd H K W C S) : z_sok n 9999 (z_sS ht hr wd K W C) := ⟨hA.1.1.2.1, fun b hb => (hA.2.2 b hb).1.2.1, fun b hb => (hA.2.2 b hb).1.2.2⟩
/-! ===== logs ===== -/
def z_lb (v : Int32) (k : Nat) : Bool := decide ((v >>> (nI k &&& 31)) &&& 1 = 1)
/-- hours k, k + 1 .., m of them, a log ahead of those that v names -/
noncomputable def z_lgs (H : z_H) (v : Int32) : Nat → Nat → z_St → z_St
  | _, 0, s => s
  | k, m + 1, s => z_lgs H v (k + 1) m (z_sH H (cond (z_lb v k) (z_sB H s) s))
noncomputable def z_lw (H : z_H) (n m : Nat) (s : z_St) (v : Int32) : Int32 := z_sg (z_fw (z_lgs H v 0 m s).2.2.2.1 (z_lgs H v 0 m s).2.2.2.2.1) 0 n 0
theorem z_and1 (x : Int32) : x &&& 1 = 0 ∨ x &&& 1 = 1 := by
  obtain ⟨j, hj, e⟩ := pk_andE x (m := 1) 1 (by decide)
  have : j = 0 ∨ j = 1 := by omega
  rcases this with rfl | rfl
  · exact Or.inl e
  · exact Or.inr e
theorem l_wetByLogs (d h n M : Nat) (H : z_H) (v : Int32) (hH : z_hwf H) (hn : n ≤ 6) (hM : M ≤ 6) : ∀ (m k N B : Nat) (s : z_St) (S : z_Mem), k + m = M → m < N → z_sok n B s → B + m ≤ 20000 → z_TC h n H s S →
    ∃ S', zr_X11_wetByLogs (z_exe z_mt true (d + 5)) N 13 [some (.inr (.inr (11, 0))), some (.inl (nI M)), some (.inl v), some (.inl (nI k))] [] S = some (some (.inl (z_sg (z_fw (z_lgs H v k m s).2.2.2.1 (z_lgs H v k m s).2.2.2.2.1) 0 n 0)), S') ∧ z_fx z_Ptr S S' := by
  intro m
  induction m with
  | zero =>
    intro k N B s S hk hN hs hB hT
    obtain ⟨N, rfl⟩ : ∃ N', N = N' + 1 := ⟨N - 1, by omega⟩
    rw [ze_X11_wetByLogs_13, if_pos (by rw [z_le (by omega) (by omega)]; omega), s_wetOfThoseHere (d + 4) 2 h n _ _ H _ _ _ S hn hT.2.2 hT.1, z_rI_s]
    exact ⟨S, rfl, z_fx.rf⟩
  | succ m ih =>
    intro k N B s S hk hN hs hB hT
    obtain ⟨N, rfl⟩ : ∃ N', N = N' + 1 := ⟨N - 1, by omega⟩
    rw [ze_X11_wetByLogs_13, if_neg (by rw [z_le (by omega) (by omega)]; omega)]
    have hl : z_lgs H v k (m + 1) s = z_lgs H v (k + 1) m (z_sH H (cond (z_lb v k) (z_sB H s) s)) := rfl
    rw [hl]
    rcases z_and1 (v >>> (nI k &&& 31)) with q | q
    · have hb : z_lb v k = false := decide_eq_false (by rw [q]; decide)
      obtain ⟨S1, e1, T1, f1⟩ := t_cH d h n B H s S hH hn hs (by omega) hT
      rw [if_pos q, e1, z_rV_s, hb]
      dsimp only
      rw [nI_1]
      obtain ⟨S2, e2, f2⟩ := ih (k + 1) N (B + 1) (z_sH H s) S1 (by omega) (by omega) (z_sok_H hs) (by omega) T1
      exact ⟨S2, e2, f1.tr f2⟩
    · have hb : z_lb v k = true := decide_eq_true q
      obtain ⟨S0, e0, T0, f0⟩ := t_cB (d + 4) h n H s S hT
      obtain ⟨S1, e1, T1, f1⟩ := t_cH d h n B H (z_sB H s) S0 hH hn (z_sok_B hs) (by omega) T0
      rw [if_neg (by rw [q]; decide), e0, z_rV_s, e1, z_rV_s, hb]
      dsimp only
      rw [nI_1]
      obtain ⟨S2, e2, f2⟩ := ih (k + 1) N (B + 1) (z_sH H (z_sB H s)) S1 (by omega) (by omega) (z_sok_H (z_sok_B hs)) (by omega) T1
      exact ⟨S2, e2, (f0.tr f1).tr f2⟩
theorem l_wetStoked (d c0 n M : Nat) (H : z_H) (v : Int32) (hH : z_hwf H) (hn : n ≤ 6) (hM : M ≤ 6) (S0 S1 : z_Mem) (h29 : S0.1 12 0 29 = 9999) (hsv : z_sav S0 S1) : ∀ (m k N B : Nat) (s : z_St) (S : z_Mem), k + m = M → m < N → z_sok n B s → B + m ≤ 20000 → z_fx z_Prn S1 S → z_TM c0 n H s S →
    ∃ S', zr_X12_wetStoked (z_exe z_mt true (d + 6)) N 6 [some (.inr (.inr (12, 0))), some (.inl v), some (.inl (nI M)), some (.inl (nI k))] [] S = some (some (.inl (z_sg (z_fw (z_lgs H v k m s).2.2.2.1 (z_lgs H v k m s).2.2.2.2.1) 0 n 0)), S') ∧ z_fx z_Psc S0 S' := by
  intro m
  induction m with
  | zero =>
    intro k N B s S hk hN hs hB hf hT
    obtain ⟨N, rfl⟩ : ∃ N', N = N' + 1 := ⟨N - 1, by omega⟩
    obtain ⟨S3, e3, f3⟩ := s_mBack (d + 5) h29 hsv hf
    rw [ze_X12_wetStoked_6, if_pos (by rw [z_le (by omega) (by omega)]; omega), s_wetHere (d + 4) c0 n _ _ H _ _ _ S hn hT.1, z_rI_s, e3, z_rV_s]
    exact ⟨S3, rfl, f3⟩
  | succ m ih =>
    intro k N B s S hk hN hs hB hf hT
    obtain ⟨N, rfl⟩ : ∃ N', N = N' + 1 := ⟨N - 1, by omega⟩
    rw [ze_X12_wetStoked_6, if_neg (by rw [z_le (by omega) (by omega)]; omega), s_has (d + 5), z_rI_s]
    have hl : z_lgs H v k (m + 1) s = z_lgs H v (k + 1) m (z_sH H (cond (z_lb v k) (z_sB H s) s)) := rfl
    rw [hl]
    by_cases q : (v >>> (nI k &&& 31)) &&& 1 = 1
    · have hb : z_lb v k = true := decide_eq_true q
      obtain ⟨S2, e2, T2, f2⟩ := t_mB (d + 3) c0 n H s S hH hT
      obtain ⟨S3, e3, T3, f3⟩ := t_mH d c0 n B H (z_sB H s) S2 hH hn (z_sok_B hs) (by omega) T2
      rw [z_b1_T q, if_neg z_01n, e2, z_rV_s, e3, z_rV_s, hb]
      dsimp only
      rw [nI_1]
      exact ih (k + 1) N (B + 1) (z_sH H (z_sB H s)) S3 (by omega) (by omega) (z_sok_H (z_sok_B hs)) (by omega) ((hf.tr f2).tr f3) T3
    · have hb : z_lb v k = false := decide_eq_false q
      obtain ⟨S3, e3, T3, f3⟩ := t_mH d c0 n B H s S hH hn hs (by omega) hT
      rw [z_b1_F q, if_pos rfl, e3, z_rV_s, hb]
      dsimp only
      rw [nI_1]
      exact ih (k + 1) N (B + 1) (z_sH H s) S3 (by omega) (by omega) (z_sok_H hs) (by omega) (hf.tr f3) T3
/-- Integer.bitCount, and the model's count, of small sets -/
def z_bc (v : Int32) : Int32 := z_sg (fun k => if z_bt v k then 1 else 0) 0 6 0
def z_jbc (v0 : Int32) : Int32 :=
  let x1 : Int32 := (v0 - (((v0.toUInt32 >>> ((1 : Int32).toUInt32 &&& Int32.toUInt32 31)).toInt32) &&& (1431655765 : Int32)))
  let x2 : Int32 := ((x1 &&& (858993459 : Int32)) + (((x1.toUInt32 >>> ((2 : Int32).toUInt32 &&& Int32.toUInt32 31)).toInt32) &&& (858993459 : Int32)))
  let x3 : Int32 := ((x2 + ((x2.toUInt32 >>> ((4 : Int32).toUInt32 &&& Int32.toUInt32 31)).toInt32)) &&& (252645135 : Int32))
  let x4 : Int32 := (x3 + ((x3.toUInt32 >>> ((8 : Int32).toUInt32 &&& Int32.toUInt32 31)).toInt32))
  let x5 : Int32 := (x4 + ((x4.toUInt32 >>> ((16 : Int32).toUInt32 &&& Int32.toUInt32 31)).toInt32))
  x5 &&& (63 : Int32)
theorem z_bc_is : ∀ a, a < 64 → z_jbc (nI a) = z_bc (nI a) := by decide +kernel
theorem z_bc_0 : ∀ a, a < 64 → 0 ≤ z_bc (nI a) := by decide +kernel
theorem s_bitCount (d a : Nat) (S : z_Mem) (ha : a < 64) : z_exe z_mt true (d + 1) 228 [.inl (nI a)] S = some (some (.inl (z_bc (nI a))), S) := by
  have e : z_exe z_mt true (d + 1) 228 [.inl (nI a)] S = _ := (zx_J6_bitCount_0f7a4 d S (nI a)).trans (ze_J6_bitCount_0f7a4_0 _ _ _ _)
  rw [e, ← z_bc_is a ha]
  rfl
/-- sets a, a + 1 .., m of them: the best so far, and how wet by it -/
noncomputable def z_lbest (f : Nat → Int32) (wd : Int32) : Nat → Nat → Nat × Int32 → Nat × Int32
  | _, 0, r => r
  | a, m + 1, r => z_lbest f wd (a + 1) m (if z_bc (nI a) ≤ wd then (if f a < r.2 then (a, f a) else if f a = r.2 then (if z_bc (nI a) < z_bc (nI r.1) then (a, f a) else r) else r) else r)
theorem z_lshl : ∀ n, n < 7 → (1 : Int32) <<< (nI n &&& 31) = nI (2 ^ n) := by decide
