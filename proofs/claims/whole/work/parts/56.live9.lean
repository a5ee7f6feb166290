/-! ===== the rota, followed ===== -/
theorem t_cG (h n b0 : Nat) (H : z_H) (s : z_St) (S : z_Mem) (g : Bool) (x : Int32) (hx : x = if g then 1 else 0) (hb : b0 < n) (hn : n ≤ 6) (hT : z_TC h n H s S) : z_TC h n H (z_sG b0 g s) (z_sI S 2 (6 * 2 + b0) 5 x) ∧ z_fx z_Ptr S (z_sI S 2 (6 * 2 + b0) 5 x) := by
  obtain ⟨⟨r1, r2, r3, r4, r5⟩, t2, t3⟩ := hT
  have f : z_fx (fun t i k => t = 2 ∧ i = 6 * 2 + b0 ∧ k = 5) S (z_sI S 2 (6 * 2 + b0) 5 x) := z_fx.sI ⟨rfl, rfl, rfl⟩
  refine ⟨⟨⟨?_, r2.fx f (fun k => by omega) (fun k => by omega) (fun k => by omega), (f.i (by omega)).trans r3, (f.i (by omega)).trans r4, fun b hb' => ?_⟩, (f.i (by omega)).trans t2, (f.i (by omega)).trans t3⟩, f.wk (fun t i k q => by unfold z_Ptr; omega)⟩
  · rw [f.r (by omega)]; exact r1
  · obtain ⟨o1, o2, o3⟩ := r5 b hb'
    refine ⟨?_, (f.i (by omega)).trans o2, (f.i (by omega)).trans o3⟩
    show _ = (if b = b0 then z_kgo g (s.2.2.2.1 b) else s.2.2.2.1 b)
    have c21 : ∀ k, (z_sI S 2 (6 * 2 + b0) 5 x).1 21 (6 * 2 + b) k = S.1 21 (6 * 2 + b) k := fun k => f.i (by omega)
    by_cases q : b = b0
    · subst q
      rw [if_pos rfl, ← o1]
      have c5 : (z_sI S 2 (6 * 2 + b) 5 x).1 2 (6 * 2 + b) 5 = x := by rw [z_sI1, if_pos ⟨rfl, rfl, rfl⟩]
      have cx : (!decide (x = 0)) = g := by rw [hx]; cases g <;> decide
      unfold z_kc z_kgo
      rw [f.i (t := 2) (k := 0) (by omega), f.i (t := 2) (k := 1) (by omega), f.i (t := 2) (k := 2) (by omega), f.i (t := 2) (k := 4) (by omega), c5, cx]
      simp only [c21]
    · rw [if_neg q, ← o1]
      have c2 : ∀ k, (z_sI S 2 (6 * 2 + b0) 5 x).1 2 (6 * 2 + b) k = S.1 2 (6 * 2 + b) k := fun k => f.i (by omega)
      unfold z_kc
      simp only [c2, c21]
theorem t_mG (d c0 n b0 : Nat) (H : z_H) (s : z_St) (S : z_Mem) (v : Int32) (hv : v = 0 ∨ v = 1) (hb : b0 < n) (hn : n ≤ 6) (hT : z_TM c0 n H s S) : ∃ S', z_exe z_mt true (d + 1) 138 [.inr (.inr (12, 0)), .inl (nI b0), .inl v] S = some (none, S') ∧ z_TM c0 n H (z_sG b0 (decide (v = 1)) s) S' ∧ z_fx z_Prn S S' := by
  obtain ⟨⟨r1, r2, r3, r4, r5⟩, t2, t3⟩ := hT
  obtain ⟨x, e, hx⟩ := s_goes d b0 v S hv (by omega)
  have f : z_fx (fun t i k => t = 12 ∧ i = 0 ∧ k = 1) S (z_sI S 12 0 1 x) := z_fx.sI ⟨rfl, rfl, rfl⟩
  refine ⟨_, e, ⟨⟨(f.i (by omega)).trans r1, r2.fx f (fun t i k a c => by omega) (by omega), (f.i (by omega)).trans r3, (f.i (by omega)).trans r4, fun b hb' => ?_⟩, (f.i (by omega)).trans t2, (f.i (by omega)).trans t3⟩, f.wk (fun t i k q => by unfold z_Prn; omega)⟩
  obtain ⟨o1, o2, o3⟩ := r5 b hb'
  refine ⟨?_, (f.i (by omega)).trans o2, (f.i (by omega)).trans o3⟩
  show _ = (if b = b0 then z_kgo (decide (v = 1)) (s.2.2.2.1 b) else s.2.2.2.1 b)
  rw [z_km_goes (b := b) (by omega) (hx b (by omega)), o1]
  by_cases q : b = b0
  · rw [if_pos q, if_pos q]; rfl
  · rw [if_neg q, if_neg q, ← z_kmg (by omega), o1]
noncomputable def z_flo (H : z_H) (w b : Nat) (s : z_St) : z_St := if w = 0 then z_sH H s else if w = 1 then (if s.2.2.1 ≤ 0 then s else z_sB H s) else z_sG b (decide (w = 2)) s
noncomputable def z_fN (H : z_H) (wf bf : Nat → Nat) : Nat → Nat → z_St → z_St
  | _, 0, s => s
  | i, m + 1, s => z_fN H wf bf (i + 1) m (z_flo H (wf i) (bf i) s)
theorem z_sok_flo {n B w b : Nat} {H : z_H} {s : z_St} (h : z_sok n B s) : z_sok n (B + 1) (z_flo H w b s) := by
  unfold z_flo
  by_cases q0 : w = 0
  · rw [if_pos q0]; exact z_sok_H h
  rw [if_neg q0]
  by_cases q1 : w = 1
  · rw [if_pos q1]
    by_cases z : s.2.2.1 ≤ 0
    · rw [if_pos z]; exact h.up (by omega)
    · rw [if_neg z]; exact (z_sok_B h).up (by omega)
  rw [if_neg q1]
  exact (z_sok_G h).up (by omega)
theorem s_follow (d h n w b B : Nat) (x : Int32) (H : z_H) (s : z_St) (S : z_Mem) (hH : z_hwf H) (hn : n ≤ 6) (hs : z_sok n B s) (hB : B ≤ 20000) (hw : w ≤ 3) (hb : 2 ≤ w → b < n ∧ x = nI b) (hT : z_TC h n H s S) :
    ∃ S', z_exe z_mt true (d + 6) 56 [.inr (.inr (7, 2)), .inl (nI w), .inl x] S = some (none, S') ∧ z_TC h n H (z_flo H w b s) S' ∧ z_fx z_Ptr S S' := by
  have e : z_exe z_mt true (d + 6) 56 [.inr (.inr (7, 2)), .inl (nI w), .inl x] S = _ := (zx_X7_follow (d + 5) S 2 (nI w) x).trans (ze_X7_follow_0 _ _ _ _ _ _)
  have hc : w = 0 ∨ w = 1 ∨ w = 2 ∨ w = 3 := by omega
  rcases hc with rfl | rfl | rfl | rfl
  · obtain ⟨S1, e1, T1, f1⟩ := t_cH d h n B H s S hH hn hs hB hT
    rw [if_pos (by decide), e1, z_rV_s] at e
    exact ⟨S1, e, T1, f1⟩
  · rw [if_neg (by decide), if_pos (by decide), hT.2.1] at e
    show ∃ S', _ ∧ z_TC h n H (if s.2.2.1 ≤ 0 then s else z_sB H s) S' ∧ _
    by_cases q : s.2.2.1 ≤ 0
    · rw [if_pos q] at e ⊢
      exact ⟨S, e, hT, z_fx.rf⟩
    · obtain ⟨S1, e1, T1, f1⟩ := t_cB (d + 4) h n H s S hT
      rw [if_neg q, e1, z_rV_s] at e
      rw [if_neg q]
      exact ⟨S1, e, T1, f1⟩
  · obtain ⟨hb1, rfl⟩ := hb (by omega)
    obtain ⟨T1, f1⟩ := t_cG h n b H s S true 1 rfl hb1 hn hT
    rw [if_neg (by decide), if_neg (by decide), if_neg (nI_pos (by omega)), hT.2.2, if_neg (by rw [nI_leI (by omega) (by omega)]; omega), z_oob_n (k := b) (by omega) (by omega), z_cond_f, if_pos (by decide), if_pos (by decide), z_cl (k := b) (by omega)] at e
    exact ⟨_, e, T1, f1⟩
  · obtain ⟨hb1, rfl⟩ := hb (by omega)
    obtain ⟨T1, f1⟩ := t_cG h n b H s S false 0 rfl hb1 hn hT
    rw [if_neg (by decide), if_neg (by decide), if_neg (nI_pos (by omega)), hT.2.2, if_neg (by rw [nI_leI (by omega) (by omega)]; omega), z_oob_n (k := b) (by omega) (by omega), z_cond_f, if_neg (by decide), if_pos (by decide), z_cl (k := b) (by omega)] at e
    exact ⟨_, e, T1, f1⟩
theorem s_goRota (d c0 n w b B : Nat) (x : Int32) (H : z_H) (s : z_St) (S : z_Mem) (hH : z_hwf H) (hn : n ≤ 6) (hs : z_sok n B s) (hB : B ≤ 20000) (hw : w ≤ 3) (hb : 2 ≤ w → b < n ∧ x = nI b) (hT : z_TM c0 n H s S) :
    ∃ S', z_exe z_mt true (d + 7) 203 [.inr (.inr (12, 0)), .inl (nI w), .inl x] S = some (none, S') ∧ z_TM c0 n H (z_flo H w b s) S' ∧ z_fx z_Prn S S' := by
  have e : z_exe z_mt true (d + 7) 203 [.inr (.inr (12, 0)), .inl (nI w), .inl x] S = _ := (zx_X12_goRota (d + 6) S 0 (nI w) x).trans (ze_X12_goRota_0 _ _ _ _ _ _)
  have hc : w = 0 ∨ w = 1 ∨ w = 2 ∨ w = 3 := by omega
  rcases hc with rfl | rfl | rfl | rfl
  · obtain ⟨S1, e1, T1, f1⟩ := t_mH d c0 n B H s S hH hn hs hB hT
    rw [if_pos (by decide), e1, z_rV_s, if_neg (by decide), if_pos (by decide)] at e
    exact ⟨S1, e, T1, f1⟩
  · rw [if_neg (by decide), if_pos (by decide), hT.2.1] at e
    show ∃ S', _ ∧ z_TM c0 n H (if s.2.2.1 ≤ 0 then s else z_sB H s) S' ∧ _
    by_cases q : s.2.2.1 ≤ 0
    · rw [if_pos q, if_pos (by decide)] at e
      rw [if_pos q]
      exact ⟨S, e, hT, z_fx.rf⟩
    · obtain ⟨S1, e1, T1, f1⟩ := t_mB (d + 3) c0 n H s S hH hT
      rw [if_neg q, e1, z_rV_s, if_pos (by decide)] at e
      rw [if_neg q]
      exact ⟨S1, e, T1, f1⟩
  · obtain ⟨hb1, rfl⟩ := hb (by omega)
    obtain ⟨S1, e1, T1, f1⟩ := t_mG (d + 5) c0 n b H s S 1 (Or.inr rfl) hb1 hn hT
    rw [if_neg (by decide), if_neg (by decide), if_neg (by decide), if_pos (by decide), e1, z_rV_s] at e
    exact ⟨S1, e, T1, f1⟩
  · obtain ⟨hb1, rfl⟩ := hb (by omega)
    obtain ⟨S1, e1, T1, f1⟩ := t_mG (d + 5) c0 n b H s S 0 (Or.inl rfl) hb1 hn hT
    rw [if_neg (by decide), if_neg (by decide), if_neg (by decide), if_neg (by decide), e1, z_rV_s] at e
    exact ⟨S1, e, T1, f1⟩
/-- what is asked of the end -/
def z_eA (n : Nat) (s : z_St) (v : Int32) : Int32 := if v = 0 then z_sg (z_fw s.2.2.2.1 s.2.2.2.2.1) 0 n 0 else z_sg s.2.2.2.2.2 0 n 0
theorem l_endsC (h n c : Nat) (H : z_H) (v : Int32) (wf bf : Nat → Nat) (S0 : z_Mem) (hH : z_hwf H) (hn : n ≤ 6) (hc : c ≤ 10) (h8 : S0.1 8 1 3 = nI c) (hrow : ∀ i, i < c → wf i ≤ 3 ∧ S0.1 31 1 i = nI (wf i) ∧ (2 ≤ wf i → bf i < n ∧ S0.1 32 1 i = nI (bf i))) : ∀ (m i N B : Nat) (s : z_St) (S : z_Mem), i + m = c → m < N → z_sok n B s → B + m ≤ 20000 → z_fx z_Ptr S0 S → z_TC h n H s S →
    ∃ S', zr_X11_ends (z_exe z_mt true 39) N 23 [some (.inr (.inr (11, 0))), some (.inl v), some (.inl (nI i))] [] S = some (some (.inl (z_eA n (z_fN H wf bf i m s) v)), S') ∧ z_fx z_Ptr S0 S' := by
  intro m
  induction m with
  | zero =>
    intro i N B s S hi hN hs hB hf hT
    obtain ⟨N, rfl⟩ : ∃ N', N = N' + 1 := ⟨N - 1, by omega⟩
    rw [ze_X11_ends_23, hf.i (by unfold z_Ptr; omega), h8, if_pos (by rw [z_le (by omega) (by omega)]; omega)]
    refine ⟨S, ?_, hf⟩
    unfold z_eA
    by_cases q : v = 0
    · rw [if_pos q, if_pos q, s_wetOfThoseHere 38 2 h n _ _ H _ _ _ S hn hT.2.2 hT.1, z_rI_s]; rfl
    · rw [if_neg q, if_neg q, s_cracksOfAll 38 2 h n _ _ H _ _ _ S hn hT.2.2 hT.1, z_rI_s]; rfl
  | succ m ih =>
    intro i N B s S hi hN hs hB hf hT
    obtain ⟨N, rfl⟩ : ∃ N', N = N' + 1 := ⟨N - 1, by omega⟩
    obtain ⟨w1, w2, w3⟩ := hrow i (by omega)
    rw [ze_X11_ends_23, hf.i (t := 8) (by unfold z_Ptr; omega), h8, if_neg (by rw [z_le (by omega) (by omega)]; omega), show z_rl 1 = 10 from rfl, z_oob_n (k := i) (by omega) (by omega), z_cond_f, z_cond_f, z_cl (k := i) (by omega), hf.i (t := 31) (by unfold z_Ptr; omega), w2]
    obtain ⟨S1, e1, T1, f1⟩ := s_follow 33 h n (wf i) (bf i) B (S.1 32 1 i) H s S hH hn hs (by omega) w1 (fun q => ⟨(w3 q).1, (hf.i (by unfold z_Ptr; omega)).trans (w3 q).2⟩) hT
    rw [e1, z_rV_s]
    dsimp only
    rw [nI_1]
    exact ih (i + 1) N (B + 1) _ S1 (by omega) (by omega) (z_sok_flo hs) (by omega) (hf.tr f1) T1
theorem l_endsM (c0 n c : Nat) (H : z_H) (v : Int32) (wf bf : Nat → Nat) (S0 S1 : z_Mem) (hH : z_hwf H) (hn : n ≤ 6) (hc : c ≤ 10) (h29 : S0.1 12 0 29 = 9999) (hsv : z_sav S0 S1) (h8 : S1.1 12 0 47 = nI c) (hrow : ∀ i, i < c → wf i ≤ 3 ∧ S1.1 63 0 i = nI (wf i) ∧ (2 ≤ wf i → bf i < n ∧ S1.1 64 0 i = nI (bf i))) : ∀ (m i N B : Nat) (s : z_St) (S : z_Mem), i + m = c → m < N → z_sok n B s → B + m ≤ 20000 → z_fx z_Prn S1 S → z_TM c0 n H s S →
    ∃ S', zr_X12_ends (z_exe z_mt true 39) N 18 [some (.inr (.inr (12, 0))), some (.inl v), some (.inl (nI i))] [] S = some (some (.inl (z_eA n (z_fN H wf bf i m s) v)), S') ∧ z_fx z_Psc S0 S' := by
  intro m
  induction m with
  | zero =>
    intro i N B s S hi hN hs hB hf hT
    obtain ⟨N, rfl⟩ : ∃ N', N = N' + 1 := ⟨N - 1, by omega⟩
    obtain ⟨S3, e3, f3⟩ := s_mBack 38 h29 hsv hf
    rw [ze_X12_ends_18, hf.i (by unfold z_Prn; omega), h8, if_pos (by rw [z_le (by omega) (by omega)]; omega)]
    refine ⟨S3, ?_, f3⟩
    unfold z_eA
    by_cases q : v = 0
    · rw [if_pos q, if_pos q, s_wetHere 37 c0 n _ _ H _ _ _ S hn hT.1, z_rI_s, e3, z_rV_s]; rfl
    · rw [if_neg q, if_neg q, s_allCracks 37 c0 n _ _ H _ _ _ S hn hT.1, z_rI_s, e3, z_rV_s]; rfl
  | succ m ih =>
    intro i N B s S hi hN hs hB hf hT
    obtain ⟨N, rfl⟩ : ∃ N', N = N' + 1 := ⟨N - 1, by omega⟩
    obtain ⟨w1, w2, w3⟩ := hrow i (by omega)
    rw [ze_X12_ends_18, hf.i (t := 12) (by unfold z_Prn; omega), h8, if_neg (by rw [z_le (by omega) (by omega)]; omega), z_oob_n (k := i) (by omega) (by omega), z_cond_f, z_cond_f, z_cl (k := i) (by omega), hf.i (t := 63) (by unfold z_Prn; omega), w2]
    obtain ⟨S2, e1, T1, f1⟩ := s_goRota 32 c0 n (wf i) (bf i) B (S.1 64 0 i) H s S hH hn hs (by omega) w1 (fun q => ⟨(w3 q).1, (hf.i (by unfold z_Prn; omega)).trans (w3 q).2⟩) hT
    rw [e1, z_rV_s]
    dsimp only
    rw [nI_1]
    exact ih (i + 1) N (B + 1) _ S2 (by omega) (by omega) (z_sok_flo hs) (by omega) (hf.tr f1) T1
theorem c_ends (S : z_Mem) (hR : z_RL S) (v : Int32) : z_both 101 204 [.inl v] S := by
  obtain ⟨hts, hN, ⟨n, hr, h, c0, ht, wd, H, K, W, C, hA, hB⟩, hI, hT, hP, hAc⟩ := id hR
  obtain ⟨⟨hn, hhr, hwd, hH, hts6⟩, hh6⟩ := hA.1
  have hC := fun b hb => (hA.2.2 b hb).1.2.2
  have c7 : S.1 7 0 1 = nI n := hA.2.1.1.1
  have c12 : S.1 12 0 0 = nI n := hA.2.1.2.1
  by_cases h1 : 0 ≤ v ∧ v ≤ 1
  · obtain ⟨-, ⟨c, x1, x2, x3, x4⟩, -⟩ := id hB
    have hrow : ∀ i, i < c → (S.1 63 0 i).toNatClampNeg ≤ 3 ∧ S.1 63 0 i = nI (S.1 63 0 i).toNatClampNeg ∧ (2 ≤ (S.1 63 0 i).toNatClampNeg → (S.1 64 0 i).toNatClampNeg < n ∧ S.1 64 0 i = nI (S.1 64 0 i).toNatClampNeg) := by
      intro i hi
      obtain ⟨-, w, hw, ew, hb⟩ := x4 i hi
      rw [ew, z_cl (by omega)]
      refine ⟨hw, rfl, fun q => ?_⟩
      obtain ⟨b, hb1, eb⟩ := hb q
      rw [eb, z_cl (by omega)]
      exact ⟨hb1, rfl⟩
    refine z_ask (v := .inl (z_eA n (z_fN H (fun i => (S.1 63 0 i).toNatClampNeg) (fun i => (S.1 64 0 i).toNatClampNeg) 0 c (z_sS ht hr wd K W C)) v)) hR ?_ (fun S' hf => ?_)
    · have e : z_exe z_mt true 40 101 [.inr (.inr (11, 0)), .inl v] S = _ := (zx_X11_ends 39 S 0 v).trans (ze_X11_ends_0 _ _ _ _ _)
      obtain ⟨S1, e1, T1, f1⟩ := t_cC 37 hA
      obtain ⟨S2, e2, f2⟩ := l_endsC h n c H v (fun i => (S.1 63 0 i).toNatClampNeg) (fun i => (S.1 64 0 i).toNatClampNeg) S hH hn x1 x2 (fun i hi => by
        obtain ⟨w1, w2, w3⟩ := hrow i hi
        obtain ⟨⟨y1, y2⟩, -⟩ := x4 i hi
        exact ⟨w1, y1.trans w2, fun q => ⟨(w3 q).1, y2.trans (w3 q).2⟩⟩) c 0 999999 9999 (z_sS ht hr wd K W C) S1 (by omega) (by omega) hA.sok (by omega) f1 T1
      refine ⟨S2, ?_, z_Ptr_sk f2⟩
      rw [e, s_outside, z_rI_s, z_b1_F (fun z => z h1), if_pos rfl, e1, z_rV_s]
      exact e2
    · have hA' := hA.sk hf
      have hN' := hN.sk hf
      have hB' := hB.sk hf
      have c7' : S'.1 7 0 1 = nI n := hA'.2.1.1.1
      have c12' : S'.1 12 0 0 = nI n := hA'.2.1.2.1
      have e : z_exe z_mt true 40 204 [.inr (.inr (12, 0)), .inl v] S' = _ := (zx_X12_ends 39 S' 0 v).trans (ze_X12_ends_0 _ _ _ _ _)
      obtain ⟨S1, e1, hs, T1⟩ := t_mS 38 hA'
      have g63 : ∀ i, S1.1 63 0 i = S.1 63 0 i := fun i => (hs.1.i (by unfold z_Psv; omega)).trans (hf.i (by unfold z_Sk; omega))
      have g64 : ∀ i, S1.1 64 0 i = S.1 64 0 i := fun i => (hs.1.i (by unfold z_Psv; omega)).trans (hf.i (by unfold z_Sk; omega))
      obtain ⟨S2, e2, f2⟩ := l_endsM c0 n c H v (fun i => (S.1 63 0 i).toNatClampNeg) (fun i => (S.1 64 0 i).toNatClampNeg) S' S1 hH hn x1 hN'.2.2.2.1 hs ((hs.1.i (by unfold z_Psv; omega)).trans ((hf.i (by unfold z_Sk; omega)).trans x3)) (fun i hi => by
        obtain ⟨w1, w2, w3⟩ := hrow i hi
        exact ⟨w1, (g63 i).trans w2, fun q => ⟨(w3 q).1, (g64 i).trans (w3 q).2⟩⟩) c 0 999999 9999 (z_sS ht hr wd K W C) S1 (by omega) (by omega) hA.sok (by omega) z_fx.rf T1
      refine ⟨S2, ?_, z_Psc_sk f2⟩
      rw [e, s_in, z_rI_s, z_b1_T h1, if_neg z_01n, e1, z_rV_s]
      exact e2
  · refine z_no (v := .inl (-1)) hR ?_ ?_
    · have e : z_exe z_mt true 40 101 [.inr (.inr (11, 0)), .inl v] S = _ := (zx_X11_ends 39 S 0 v).trans (ze_X11_ends_0 _ _ _ _ _)
      rw [e, s_outside, z_rI_s, z_b1_T h1, if_neg z_01n]
    · have e : z_exe z_mt true 40 204 [.inr (.inr (12, 0)), .inl v] S = _ := (zx_X12_ends 39 S 0 v).trans (ze_X12_ends_0 _ _ _ _ _)
      rw [e, s_in, z_rI_s, z_b1_F h1, if_pos rfl]
