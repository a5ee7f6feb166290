/-! ===== sums over a room, of the class and of the model ===== -/
def z_fw (K : Nat → z_K) (W : Nat → Int32) (b : Nat) : Int32 := cond (K b).2.2.2.2.1 0 (W b)
def z_fd (K : Nat → z_K) (W : Nat → Int32) (b : Nat) : Int32 := cond (K b).2.2.2.2.1 0 (if W b = 0 then 1 else 0)
def z_fs (W : Nat → Int32) (b : Nat) : Int32 := if W b = 0 then (1 : Int32) <<< (nI b &&& 31) else 0
theorem l_wetOfThoseHere (ex : z_Ex) (r h n hr : Nat) (ht : Int32) (H : z_H) (K : Nat → z_K) (W C : Nat → Int32) (S : z_Mem) (hn : n ≤ 6) (hc : S.1 7 r 1 = nI n) (hR : z_Rc r h H n ht hr K W C S) : ∀ (m b N : Nat) (x : Int32), b + m = n → m < N →
    zr_X7_wetOfThoseHere ex N 4 [some (.inr (.inr (7, r))), some (.inl x), some (.inl (nI b))] [] S = some (some (.inl (z_sg (z_fw K W) b m x)), S) := by
  intro m
  induction m with
  | zero =>
    intro b N x hb hN
    obtain ⟨N, rfl⟩ : ∃ N', N = N' + 1 := ⟨N - 1, by omega⟩
    rw [ze_X7_wetOfThoseHere_4, if_pos (by rw [hc, z_le (by omega) (by omega)]; omega)]
    rfl
  | succ m ih =>
    intro b N x hb hN
    obtain ⟨N, rfl⟩ : ∃ N', N = N' + 1 := ⟨N - 1, by omega⟩
    obtain ⟨o1, o2, o3⟩ := hR.2.2.2.2 b (by omega)
    have hg : (K b).2.2.2.2.1 = !decide (S.1 2 (6 * r + b) 5 = 0) := by rw [← o1]; rfl
    rw [ze_X7_wetOfThoseHere_4, if_neg (by rw [hc, z_le (by omega) (by omega)]; omega), z_oob_n (k := b) (by omega) (by omega), z_cl (k := b) (by omega)]
    dsimp only [cond]
    show _ = some (some (Sum.inl (z_sg (z_fw K W) (b + 1) m (x + cond (K b).2.2.2.2.1 0 (W b)))), S)
    rw [hg]
    by_cases g : S.1 2 (6 * r + b) 5 = 0
    · rw [if_pos g, decide_eq_true g, nI_1, o2]
      exact ih (b + 1) N (x + W b) (by omega) (by omega)
    · rw [if_neg g, decide_eq_false g, nI_1]
      exact ih (b + 1) N (x + 0) (by omega) (by omega)
theorem s_wetOfThoseHere (d r h n hr : Nat) (ht : Int32) (H : z_H) (K : Nat → z_K) (W C : Nat → Int32) (S : z_Mem) (hn : n ≤ 6) (hc : S.1 7 r 1 = nI n) (hR : z_Rc r h H n ht hr K W C S) : z_exe z_mt true (d + 1) 57 [.inr (.inr (7, r))] S = some (some (.inl (z_sg (z_fw K W) 0 n 0)), S) := by
  have e : z_exe z_mt true (d + 1) 57 [.inr (.inr (7, r))] S = _ := (zx_X7_wetOfThoseHere d S r).trans (ze_X7_wetOfThoseHere_0 _ _ _ _)
  rw [e]
  exact l_wetOfThoseHere _ r h n hr ht H K W C S hn hc hR n 0 999999 0 (by omega) (by omega)
theorem l_cracksOfAll (ex : z_Ex) (r h n hr : Nat) (ht : Int32) (H : z_H) (K : Nat → z_K) (W C : Nat → Int32) (S : z_Mem) (hn : n ≤ 6) (hc : S.1 7 r 1 = nI n) (hR : z_Rc r h H n ht hr K W C S) : ∀ (m b N : Nat) (x : Int32), b + m = n → m < N →
    zr_X7_cracksOfAll ex N 4 [some (.inr (.inr (7, r))), some (.inl x), some (.inl (nI b))] [] S = some (some (.inl (z_sg (C) b m x)), S) := by
  intro m
  induction m with
  | zero =>
    intro b N x hb hN
    obtain ⟨N, rfl⟩ : ∃ N', N = N' + 1 := ⟨N - 1, by omega⟩
    rw [ze_X7_cracksOfAll_4, if_pos (by rw [hc, z_le (by omega) (by omega)]; omega)]
    rfl
  | succ m ih =>
    intro b N x hb hN
    obtain ⟨N, rfl⟩ : ∃ N', N = N' + 1 := ⟨N - 1, by omega⟩
    obtain ⟨o1, o2, o3⟩ := hR.2.2.2.2 b (by omega)
    rw [ze_X7_cracksOfAll_4, if_neg (by rw [hc, z_le (by omega) (by omega)]; omega), z_oob_n (k := b) (by omega) (by omega), z_cl (k := b) (by omega)]
    dsimp only [cond]
    rw [nI_1, o3]
    exact ih (b + 1) N (x + C b) (by omega) (by omega)
theorem s_cracksOfAll (d r h n hr : Nat) (ht : Int32) (H : z_H) (K : Nat → z_K) (W C : Nat → Int32) (S : z_Mem) (hn : n ≤ 6) (hc : S.1 7 r 1 = nI n) (hR : z_Rc r h H n ht hr K W C S) : z_exe z_mt true (d + 1) 58 [.inr (.inr (7, r))] S = some (some (.inl (z_sg (C) 0 n 0)), S) := by
  have e : z_exe z_mt true (d + 1) 58 [.inr (.inr (7, r))] S = _ := (zx_X7_cracksOfAll d S r).trans (ze_X7_cracksOfAll_0 _ _ _ _)
  rw [e]
  exact l_cracksOfAll _ r h n hr ht H K W C S hn hc hR n 0 999999 0 (by omega) (by omega)
theorem l_dryOfThoseHere (ex : z_Ex) (r h n hr : Nat) (ht : Int32) (H : z_H) (K : Nat → z_K) (W C : Nat → Int32) (S : z_Mem) (hn : n ≤ 6) (hc : S.1 7 r 1 = nI n) (hR : z_Rc r h H n ht hr K W C S) : ∀ (m b N : Nat) (x : Int32), b + m = n → m < N →
    zr_X7_dryOfThoseHere ex N 4 [some (.inr (.inr (7, r))), some (.inl x), some (.inl (nI b))] [] S = some (some (.inl (z_sg (z_fd K W) b m x)), S) := by
  intro m
  induction m with
  | zero =>
    intro b N x hb hN
    obtain ⟨N, rfl⟩ : ∃ N', N = N' + 1 := ⟨N - 1, by omega⟩
    rw [ze_X7_dryOfThoseHere_4, if_pos (by rw [hc, z_le (by omega) (by omega)]; omega)]
    rfl
  | succ m ih =>
    intro b N x hb hN
    obtain ⟨N, rfl⟩ : ∃ N', N = N' + 1 := ⟨N - 1, by omega⟩
    obtain ⟨o1, o2, o3⟩ := hR.2.2.2.2 b (by omega)
    have hg : (K b).2.2.2.2.1 = !decide (S.1 2 (6 * r + b) 5 = 0) := by rw [← o1]; rfl
    rw [ze_X7_dryOfThoseHere_4, if_neg (by rw [hc, z_le (by omega) (by omega)]; omega), z_oob_n (k := b) (by omega) (by omega), z_cl (k := b) (by omega)]
    dsimp only [cond]
    show _ = some (some (Sum.inl (z_sg (z_fd K W) (b + 1) m (x + cond (K b).2.2.2.2.1 0 (if W b = 0 then 1 else 0)))), S)
    rw [hg]
    by_cases g : S.1 2 (6 * r + b) 5 = 0
    · rw [if_pos g, decide_eq_true g, nI_1, o2]
      show _ = some (some (Sum.inl (z_sg (z_fd K W) (b + 1) m (x + (if W b = 0 then 1 else 0)))), S)
      by_cases q : W b = 0
      · rw [if_pos q, if_pos q]
        exact ih (b + 1) N (x + 1) (by omega) (by omega)
      · rw [if_neg q, if_neg q]
        exact ih (b + 1) N (x + 0) (by omega) (by omega)
    · rw [if_neg g, decide_eq_false g, nI_1]
      exact ih (b + 1) N (x + 0) (by omega) (by omega)
theorem s_dryOfThoseHere (d r h n hr : Nat) (ht : Int32) (H : z_H) (K : Nat → z_K) (W C : Nat → Int32) (S : z_Mem) (hn : n ≤ 6) (hc : S.1 7 r 1 = nI n) (hR : z_Rc r h H n ht hr K W C S) : z_exe z_mt true (d + 1) 59 [.inr (.inr (7, r))] S = some (some (.inl (z_sg (z_fd K W) 0 n 0)), S) := by
  have e : z_exe z_mt true (d + 1) 59 [.inr (.inr (7, r))] S = _ := (zx_X7_dryOfThoseHere d S r).trans (ze_X7_dryOfThoseHere_0 _ _ _ _)
  rw [e]
  exact l_dryOfThoseHere _ r h n hr ht H K W C S hn hc hR n 0 999999 0 (by omega) (by omega)
theorem l_dryBits (ex : z_Ex) (r h n hr : Nat) (ht : Int32) (H : z_H) (K : Nat → z_K) (W C : Nat → Int32) (S : z_Mem) (hn : n ≤ 6) (hc : S.1 7 r 1 = nI n) (hR : z_Rc r h H n ht hr K W C S) : ∀ (m b N : Nat) (x : Int32), b + m = n → m < N →
    zr_X7_dryBits ex N 4 [some (.inr (.inr (7, r))), some (.inl x), some (.inl (nI b))] [] S = some (some (.inl (z_om (z_fs W) b m x)), S) := by
  intro m
  induction m with
  | zero =>
    intro b N x hb hN
    obtain ⟨N, rfl⟩ : ∃ N', N = N' + 1 := ⟨N - 1, by omega⟩
    rw [ze_X7_dryBits_4, if_pos (by rw [hc, z_le (by omega) (by omega)]; omega)]
    rfl
  | succ m ih =>
    intro b N x hb hN
    obtain ⟨N, rfl⟩ : ∃ N', N = N' + 1 := ⟨N - 1, by omega⟩
    obtain ⟨o1, o2, o3⟩ := hR.2.2.2.2 b (by omega)
    rw [ze_X7_dryBits_4, if_neg (by rw [hc, z_le (by omega) (by omega)]; omega), z_oob_n (k := b) (by omega) (by omega), z_cl (k := b) (by omega)]
    dsimp only [cond]
    rw [nI_1, o2]
    show _ = some (some (Sum.inl (z_om (z_fs W) (b + 1) m (x ||| (if W b = 0 then (1 : Int32) <<< (nI b &&& 31) else 0)))), S)
    by_cases q : W b = 0
    · rw [if_pos q, if_pos q]
      exact ih (b + 1) N _ (by omega) (by omega)
    · rw [if_neg q, if_neg q]
      exact ih (b + 1) N _ (by omega) (by omega)
theorem s_dryBits (d r h n hr : Nat) (ht : Int32) (H : z_H) (K : Nat → z_K) (W C : Nat → Int32) (S : z_Mem) (hn : n ≤ 6) (hc : S.1 7 r 1 = nI n) (hR : z_Rc r h H n ht hr K W C S) : z_exe z_mt true (d + 1) 60 [.inr (.inr (7, r))] S = some (some (.inl (z_om (z_fs W) 0 n 0)), S) := by
  have e : z_exe z_mt true (d + 1) 60 [.inr (.inr (7, r))] S = _ := (zx_X7_dryBits d S r).trans (ze_X7_dryBits_0 _ _ _ _)
  rw [e]
  exact l_dryBits _ r h n hr ht H K W C S hn hc hR n 0 999999 0 (by omega) (by omega)
theorem l_wetHere (d c0 n hr : Nat) (ht : Int32) (H : z_H) (K : Nat → z_K) (W C : Nat → Int32) (S : z_Mem) (hn : n ≤ 6) (hR : z_Rm c0 H n ht hr K W C S) : ∀ (m b N : Nat) (x : Int32), b + m = n → m < N →
    zr_X12_wetHere (z_exe z_mt true (d + 1)) N 4 [some (.inr (.inr (12, 0))), some (.inl x), some (.inl (nI b))] [] S = some (some (.inl (z_sg (z_fw K W) b m x)), S) := by
  intro m
  induction m with
  | zero =>
    intro b N x hb hN
    obtain ⟨N, rfl⟩ : ∃ N', N = N' + 1 := ⟨N - 1, by omega⟩
    rw [ze_X12_wetHere_4, if_pos (by rw [hR.1, z_le (by omega) (by omega)]; omega)]
    rfl
  | succ m ih =>
    intro b N x hb hN
    obtain ⟨N, rfl⟩ : ∃ N', N = N' + 1 := ⟨N - 1, by omega⟩
    obtain ⟨o1, o2, o3⟩ := hR.2.2.2.2 b (by omega)
    have hg : (K b).2.2.2.2.1 = decide ((S.1 12 0 1 >>> (nI b &&& 31)) &&& 1 = 1) := by rw [← o1]; rfl
    rw [ze_X12_wetHere_4, if_neg (by rw [hR.1, z_le (by omega) (by omega)]; omega)]
    show _ = some (some (Sum.inl (z_sg (z_fw K W) (b + 1) m (x + cond (K b).2.2.2.2.1 0 (W b)))), S)
    rw [hg]
    rw [s_has d, z_rI_s]
    by_cases g : (S.1 12 0 1 >>> (nI b &&& 31)) &&& 1 = 1
    · rw [if_neg (fun q => (z_b1_0 _).mp q g), decide_eq_true g, nI_1]
      exact ih (b + 1) N (x + 0) (by omega) (by omega)
    · rw [if_pos ((z_b1_0 _).mpr g), decide_eq_false g, z_oob_n (k := b) (by omega) (by omega), z_cl (k := b) (by omega), nI_1, o2]
      exact ih (b + 1) N (x + W b) (by omega) (by omega)
theorem s_wetHere (d c0 n hr : Nat) (ht : Int32) (H : z_H) (K : Nat → z_K) (W C : Nat → Int32) (S : z_Mem) (hn : n ≤ 6) (hR : z_Rm c0 H n ht hr K W C S) : z_exe z_mt true (d + 2) 170 [.inr (.inr (12, 0))] S = some (some (.inl (z_sg (z_fw K W) 0 n 0)), S) := by
  have e : z_exe z_mt true (d + 2) 170 [.inr (.inr (12, 0))] S = _ := (zx_X12_wetHere (d + 1) S 0).trans (ze_X12_wetHere_0 _ _ _ _)
  rw [e]
  exact l_wetHere d c0 n hr ht H K W C S hn hR n 0 999999 0 (by omega) (by omega)
theorem l_wetAll (d c0 n hr : Nat) (ht : Int32) (H : z_H) (K : Nat → z_K) (W C : Nat → Int32) (S : z_Mem) (hn : n ≤ 6) (hR : z_Rm c0 H n ht hr K W C S) : ∀ (m b N : Nat) (x : Int32), b + m = n → m < N →
    zr_X12_wetAll (z_exe z_mt true (d + 1)) N 4 [some (.inr (.inr (12, 0))), some (.inl x), some (.inl (nI b))] [] S = some (some (.inl (z_sg (W) b m x)), S) := by
  intro m
  induction m with
  | zero =>
    intro b N x hb hN
    obtain ⟨N, rfl⟩ : ∃ N', N = N' + 1 := ⟨N - 1, by omega⟩
    rw [ze_X12_wetAll_4, if_pos (by rw [hR.1, z_le (by omega) (by omega)]; omega)]
    rfl
  | succ m ih =>
    intro b N x hb hN
    obtain ⟨N, rfl⟩ : ∃ N', N = N' + 1 := ⟨N - 1, by omega⟩
    obtain ⟨o1, o2, o3⟩ := hR.2.2.2.2 b (by omega)
    rw [ze_X12_wetAll_4, if_neg (by rw [hR.1, z_le (by omega) (by omega)]; omega)]
    rw [z_oob_n (k := b) (by omega) (by omega), z_cl (k := b) (by omega), nI_1, o2]
    exact ih (b + 1) N (x + W b) (by omega) (by omega)
theorem s_wetAll (d c0 n hr : Nat) (ht : Int32) (H : z_H) (K : Nat → z_K) (W C : Nat → Int32) (S : z_Mem) (hn : n ≤ 6) (hR : z_Rm c0 H n ht hr K W C S) : z_exe z_mt true (d + 2) 171 [.inr (.inr (12, 0))] S = some (some (.inl (z_sg (W) 0 n 0)), S) := by
  have e : z_exe z_mt true (d + 2) 171 [.inr (.inr (12, 0))] S = _ := (zx_X12_wetAll (d + 1) S 0).trans (ze_X12_wetAll_0 _ _ _ _)
  rw [e]
  exact l_wetAll d c0 n hr ht H K W C S hn hR n 0 999999 0 (by omega) (by omega)
theorem l_allCracks (d c0 n hr : Nat) (ht : Int32) (H : z_H) (K : Nat → z_K) (W C : Nat → Int32) (S : z_Mem) (hn : n ≤ 6) (hR : z_Rm c0 H n ht hr K W C S) : ∀ (m b N : Nat) (x : Int32), b + m = n → m < N →
    zr_X12_allCracks (z_exe z_mt true (d + 1)) N 4 [some (.inr (.inr (12, 0))), some (.inl x), some (.inl (nI b))] [] S = some (some (.inl (z_sg (C) b m x)), S) := by
  intro m
  induction m with
  | zero =>
    intro b N x hb hN
    obtain ⟨N, rfl⟩ : ∃ N', N = N' + 1 := ⟨N - 1, by omega⟩
    rw [ze_X12_allCracks_4, if_pos (by rw [hR.1, z_le (by omega) (by omega)]; omega)]
    rfl
  | succ m ih =>
    intro b N x hb hN
    obtain ⟨N, rfl⟩ : ∃ N', N = N' + 1 := ⟨N - 1, by omega⟩
    obtain ⟨o1, o2, o3⟩ := hR.2.2.2.2 b (by omega)
    rw [ze_X12_allCracks_4, if_neg (by rw [hR.1, z_le (by omega) (by omega)]; omega)]
    rw [z_oob_n (k := b) (by omega) (by omega), z_cl (k := b) (by omega), nI_1, o3]
    exact ih (b + 1) N (x + C b) (by omega) (by omega)
theorem s_allCracks (d c0 n hr : Nat) (ht : Int32) (H : z_H) (K : Nat → z_K) (W C : Nat → Int32) (S : z_Mem) (hn : n ≤ 6) (hR : z_Rm c0 H n ht hr K W C S) : z_exe z_mt true (d + 2) 172 [.inr (.inr (12, 0))] S = some (some (.inl (z_sg (C) 0 n 0)), S) := by
  have e : z_exe z_mt true (d + 2) 172 [.inr (.inr (12, 0))] S = _ := (zx_X12_allCracks (d + 1) S 0).trans (ze_X12_allCracks_0 _ _ _ _)
  rw [e]
  exact l_allCracks d c0 n hr ht H K W C S hn hR n 0 999999 0 (by omega) (by omega)
theorem l_drySet (d c0 n hr : Nat) (ht : Int32) (H : z_H) (K : Nat → z_K) (W C : Nat → Int32) (S : z_Mem) (hn : n ≤ 6) (hR : z_Rm c0 H n ht hr K W C S) : ∀ (m b N : Nat) (x : Int32), b + m = n → m < N →
    zr_X12_drySet (z_exe z_mt true (d + 1)) N 4 [some (.inr (.inr (12, 0))), some (.inl x), some (.inl (nI b))] [] S = some (some (.inl (z_om (z_fs W) b m x)), S) := by
  intro m
  induction m with
  | zero =>
    intro b N x hb hN
    obtain ⟨N, rfl⟩ : ∃ N', N = N' + 1 := ⟨N - 1, by omega⟩
    rw [ze_X12_drySet_4, if_pos (by rw [hR.1, z_le (by omega) (by omega)]; omega)]
    rfl
  | succ m ih =>
    intro b N x hb hN
    obtain ⟨N, rfl⟩ : ∃ N', N = N' + 1 := ⟨N - 1, by omega⟩
    obtain ⟨o1, o2, o3⟩ := hR.2.2.2.2 b (by omega)
    rw [ze_X12_drySet_4, if_neg (by rw [hR.1, z_le (by omega) (by omega)]; omega)]
    rw [z_oob_n (k := b) (by omega) (by omega), z_cl (k := b) (by omega), nI_1, o2]
    show _ = some (some (Sum.inl (z_om (z_fs W) (b + 1) m (x ||| (if W b = 0 then (1 : Int32) <<< (nI b &&& 31) else 0)))), S)
    by_cases q : W b = 0
    · dsimp only [cond]
      rw [if_pos q, if_pos q]
      exact ih (b + 1) N _ (by omega) (by omega)
    · dsimp only [cond]
      rw [if_neg q, if_neg q]
      exact ih (b + 1) N _ (by omega) (by omega)
theorem s_drySet (d c0 n hr : Nat) (ht : Int32) (H : z_H) (K : Nat → z_K) (W C : Nat → Int32) (S : z_Mem) (hn : n ≤ 6) (hR : z_Rm c0 H n ht hr K W C S) : z_exe z_mt true (d + 2) 173 [.inr (.inr (12, 0))] S = some (some (.inl (z_om (z_fs W) 0 n 0)), S) := by
  have e : z_exe z_mt true (d + 2) 173 [.inr (.inr (12, 0))] S = _ := (zx_X12_drySet (d + 1) S 0).trans (ze_X12_drySet_0 _ _ _ _)
  rw [e]
  exact l_drySet d c0 n hr ht H K W C S hn hR n 0 999999 0 (by omega) (by omega)
/-- how many of the numbers below 6 are in a set -/
theorem l_bits (d : Nat) (v : Int32) (S : z_Mem) : ∀ (m b N : Nat) (x : Int32), b + m = 6 → m < N →
    zr_X12_bits (z_exe z_mt true (d + 1)) N 4 [some (.inr (.inr (12, 0))), some (.inl v), some (.inl x), some (.inl (nI b))] [] S = some (some (.inl (z_sg (fun k => if z_bt v k then 1 else 0) b m x)), S) := by
  intro m
  induction m with
  | zero =>
    intro b N x hb hN
    obtain ⟨N, rfl⟩ : ∃ N', N = N' + 1 := ⟨N - 1, by omega⟩
    rw [ze_X12_bits_4, if_pos (by rw [show (6 : Int32) = nI 6 from rfl, z_le (by omega) (by omega)]; omega)]
    rfl
  | succ m ih =>
    intro b N x hb hN
    obtain ⟨N, rfl⟩ : ∃ N', N = N' + 1 := ⟨N - 1, by omega⟩
    rw [ze_X12_bits_4, if_neg (by rw [show (6 : Int32) = nI 6 from rfl, z_le (by omega) (by omega)]; omega), s_has d, z_rI_s]
    show _ = some (some (Sum.inl (z_sg (fun k => if z_bt v k then 1 else 0) (b + 1) m (x + if z_bt v b then 1 else 0))), S)
    by_cases g : z_bt v b = true
    · rw [if_neg (fun q => (z_b1_0 _).mp q ((z_has_iff v (by omega)).mpr g)), if_pos g, nI_1]
      exact ih (b + 1) N _ (by omega) (by omega)
    · rw [if_pos ((z_b1_0 _).mpr (fun q => g ((z_has_iff v (by omega)).mp q))), if_neg g, nI_1]
      exact ih (b + 1) N _ (by omega) (by omega)
theorem s_bits (d : Nat) (v : Int32) (S : z_Mem) : z_exe z_mt true (d + 2) 128 [.inr (.inr (12, 0)), .inl v] S = some (some (.inl (z_sg (fun k => if z_bt v k then 1 else 0) 0 6 0)), S) := by
  have e : z_exe z_mt true (d + 2) 128 [.inr (.inr (12, 0)), .inl v] S = _ := (zx_X12_bits (d + 1) S 0 v).trans (ze_X12_bits_0 _ _ _ _ _)
  rw [e]
  exact l_bits d v S 6 0 999999 0 (by omega) (by omega)
/-- those that are dry and here, counted both ways -/
theorem z_dry_eq {n : Nat} {K : Nat → z_K} {W : Nat → Int32} {g : Int32} (hn : n ≤ 6) (hg : ∀ b, b < n → (K b).2.2.2.2.1 = z_bt g b) :
    z_sg (fun k => if z_bt (z_om (z_fs W) 0 n 0 &&& (g ^^^ (-1 : Int32))) k then 1 else 0) 0 6 0 = z_sg (z_fd K W) 0 n 0 := by
  have e6 : (6 : Nat) = n + (6 - n) := by omega
  have hb : ∀ k, k < 6 → z_bt (z_om (z_fs W) 0 n 0) k = (decide (k < n) && decide (W k = 0)) := by
    intro k hk
    rw [z_om_bt (f := z_fs W) (p := fun k => decide (W k = 0)) (fun k _ => by unfold z_fs; simp only [decide_eq_true_eq]) n 0 0 k (by omega) hk, z_bt_0 k hk, Bool.false_or, Nat.zero_add, decide_eq_true (Nat.zero_le k), Bool.true_and]
  rw [e6, z_sg_ap n (6 - n) 0 0, z_sg_0 (6 - n) (0 + n) _ (fun k h1 h2 => by
    rw [z_bt_less _ _ (by omega), hb k (by omega), decide_eq_false (by omega : ¬ k < n)]
    rfl)]
  refine z_sg_cg n 0 0 (fun k h1 h2 => ?_)
  rw [z_bt_less _ _ (by omega), hb k (by omega), decide_eq_true (by omega : k < n), Bool.true_and, ← hg k (by omega)]
  unfold z_fd
  by_cases q : W k = 0
  · rw [decide_eq_true q, if_pos q]
    cases (K k).2.2.2.2.1 <;> rfl
  · rw [decide_eq_false q, if_neg q]
    cases (K k).2.2.2.2.1 <;> rfl
