/-! ===== nothing that was made is forgotten ===== -/
theorem z_stp_mono {ρ : Type} {κ : Nat → z_Lc → List z_AV → z_Mem → Option ρ} {res : ρ} {md : Bool} {sc : z_Sc} {ins : Instr} {a b k : Nat} {x : Int32} {sw : List (Int32 × Nat)} {pc : Nat} {la : z_Lc} {sa : List z_AV} {S : z_Mem}
    (h : z_stp md sc ins a b k x sw pc la sa S κ = some res) : ∃ pc' la' sa' S', κ pc' la' sa' S' = some res ∧ S.2.2.2 ≤ S'.2.2.2 := by
  cases ins <;> dsimp only [z_stp] at h
  case tableswitch =>
    split at h
    · rename_i v r
      rcases z_sw_ok sw v (fun t => κ t la r S) a with ⟨e1, -⟩ | ⟨_, q, -, -, e3⟩
      · rw [e1] at h; exact ⟨_, _, _, _, h, Nat.le_refl _⟩
      · rw [e3] at h; exact ⟨_, _, _, _, h, Nat.le_refl _⟩
    · cases h
  case lookupswitch =>
    split at h
    · rename_i v r
      rcases z_sw_ok sw v (fun t => κ t la r S) a with ⟨e1, -⟩ | ⟨_, q, -, -, e3⟩
      · rw [e1] at h; exact ⟨_, _, _, _, h, Nat.le_refl _⟩
      · rw [e3] at h; exact ⟨_, _, _, _, h, Nat.le_refl _⟩
    · cases h
  case putfield =>
    split at h
    · obtain ⟨-, h⟩ := z_ht h
      split at h
      · exact ⟨_, _, _, _, h, Nat.le_refl _⟩
      · obtain ⟨-, h⟩ := z_if2 h
        exact ⟨_, _, _, _, h, Nat.le_refl _⟩
      · cases h
    · obtain ⟨-, h⟩ := z_ht h
      obtain ⟨-, h⟩ := z_hf h
      split at h
      · obtain ⟨-, h⟩ := z_hf h
        exact ⟨_, _, _, _, h, Nat.le_refl _⟩
      · cases md with
        | false => exact ⟨_, _, _, _, h, Nat.le_refl _⟩
        | true =>
          dsimp only [cond] at h
          obtain ⟨-, h⟩ := z_ht h
          exact ⟨_, _, _, _, h, Nat.le_refl _⟩
      · cases h
    · cases h
  case iaload =>
    split at h
    · rename_i j q r
      cases h9 : Nat.beq q.1 90 with
      | true =>
        rw [h9] at h
        dsimp only [cond] at h
        split at h
        · obtain ⟨-, h⟩ := z_hf h
          exact ⟨_, _, _, _, h, Nat.le_refl _⟩
        · cases h
      | false =>
        rw [h9] at h
        obtain ⟨-, h⟩ := z_ht (show cond (Nat.beq (z_aK q.1) 1) _ none = some res from h)
        obtain ⟨-, h⟩ := z_hf h
        exact ⟨_, _, _, _, h, Nat.le_refl _⟩
    · cases h
  case arraylength =>
    split at h
    · rename_i q r
      cases h9 : Nat.beq q.1 90 with
      | true =>
        rw [h9] at h
        dsimp only [cond] at h
        split at h
        · exact ⟨_, _, _, _, h, Nat.le_refl _⟩
        · cases h
      | false =>
        rw [h9] at h
        obtain ⟨-, h⟩ := z_hf (show cond (Nat.beq (z_aK q.1) 0) none _ = some res from h)
        exact ⟨_, _, _, _, h, Nat.le_refl _⟩
    · cases h
  case bastore =>
    split at h
    · rename_i v j q r
      cases h2 : Nat.beq (z_aK q.1) 2 with
      | true =>
        rw [h2] at h
        obtain ⟨-, h⟩ := z_hf (show cond (z_oob j (z_aN q.1 q.2)) none _ = some res from h)
        exact ⟨_, _, _, _, h, Nat.le_refl _⟩
      | false =>
        rw [h2] at h
        obtain ⟨-, h⟩ := z_ht (show cond (Nat.beq (z_aK q.1) 3) _ none = some res from h)
        obtain ⟨-, h⟩ := z_hf h
        exact ⟨_, _, _, _, h, Nat.le_refl _⟩
    · cases h
  case iload =>
    split at h
    · exact ⟨_, _, _, _, h, Nat.le_refl _⟩
    · cases h
  case iload_n =>
    split at h
    · exact ⟨_, _, _, _, h, Nat.le_refl _⟩
    · cases h
  case lload =>
    split at h
    · exact ⟨_, _, _, _, h, Nat.le_refl _⟩
    · cases h
  case lload_n =>
    split at h
    · exact ⟨_, _, _, _, h, Nat.le_refl _⟩
    · cases h
  case aload =>
    split at h
    · obtain ⟨-, h⟩ := z_hf h
      exact ⟨_, _, _, _, h, Nat.le_refl _⟩
    · cases h
  case aload_n =>
    split at h
    · obtain ⟨-, h⟩ := z_hf h
      exact ⟨_, _, _, _, h, Nat.le_refl _⟩
    · cases h
  case istore =>
    split at h
    · split at h
      · exact ⟨_, _, _, _, h, Nat.le_refl _⟩
      · cases h
    · cases h
  case istore_n =>
    split at h
    · split at h
      · exact ⟨_, _, _, _, h, Nat.le_refl _⟩
      · cases h
    · cases h
  case lstore =>
    split at h
    · split at h
      · exact ⟨_, _, _, _, h, Nat.le_refl _⟩
      · cases h
    · cases h
  case iinc =>
    split at h
    · split at h
      · exact ⟨_, _, _, _, h, Nat.le_refl _⟩
      · cases h
    · cases h
  case astore =>
    split at h
    · obtain ⟨-, h⟩ := z_hf h
      split at h
      · exact ⟨_, _, _, _, h, Nat.le_refl _⟩
      · cases h
    · cases h
  case astore_n =>
    split at h
    · obtain ⟨-, h⟩ := z_hf h
      split at h
      · exact ⟨_, _, _, _, h, Nat.le_refl _⟩
      · cases h
    · cases h
  case iadd =>
    split at h
    · exact ⟨_, _, _, _, h, Nat.le_refl _⟩
    · cases h
  case isub =>
    split at h
    · exact ⟨_, _, _, _, h, Nat.le_refl _⟩
    · cases h
  case imul =>
    split at h
    · exact ⟨_, _, _, _, h, Nat.le_refl _⟩
    · cases h
  case iand =>
    split at h
    · exact ⟨_, _, _, _, h, Nat.le_refl _⟩
    · cases h
  case ior =>
    split at h
    · exact ⟨_, _, _, _, h, Nat.le_refl _⟩
    · cases h
  case ixor =>
    split at h
    · exact ⟨_, _, _, _, h, Nat.le_refl _⟩
    · cases h
  case ishl =>
    split at h
    · exact ⟨_, _, _, _, h, Nat.le_refl _⟩
    · cases h
  case ishr =>
    split at h
    · exact ⟨_, _, _, _, h, Nat.le_refl _⟩
    · cases h
  case iushr =>
    split at h
    · exact ⟨_, _, _, _, h, Nat.le_refl _⟩
    · cases h
  case ineg =>
    split at h
    · exact ⟨_, _, _, _, h, Nat.le_refl _⟩
    · cases h
  case land =>
    split at h
    · exact ⟨_, _, _, _, h, Nat.le_refl _⟩
    · cases h
  case lor =>
    split at h
    · exact ⟨_, _, _, _, h, Nat.le_refl _⟩
    · cases h
  case lshl =>
    split at h
    · exact ⟨_, _, _, _, h, Nat.le_refl _⟩
    · cases h
  case lcmp =>
    split at h
    · exact ⟨_, _, _, _, h, Nat.le_refl _⟩
    · cases h
  case i2l =>
    split at h
    · exact ⟨_, _, _, _, h, Nat.le_refl _⟩
    · cases h
  case l2i =>
    split at h
    · exact ⟨_, _, _, _, h, Nat.le_refl _⟩
    · cases h
  case i2b =>
    split at h
    · exact ⟨_, _, _, _, h, Nat.le_refl _⟩
    · cases h
  case i2s =>
    split at h
    · exact ⟨_, _, _, _, h, Nat.le_refl _⟩
    · cases h
  case idiv =>
    split at h
    · obtain ⟨-, h⟩ := z_if h
      exact ⟨_, _, _, _, h, Nat.le_refl _⟩
    · cases h
  case irem =>
    split at h
    · obtain ⟨-, h⟩ := z_if h
      exact ⟨_, _, _, _, h, Nat.le_refl _⟩
    · cases h
  case dup =>
    split at h
    · exact ⟨_, _, _, _, h, Nat.le_refl _⟩
    · obtain ⟨-, h⟩ := z_hf h
      exact ⟨_, _, _, _, h, Nat.le_refl _⟩
    · cases h
  case goto => exact ⟨_, _, _, _, h, Nat.le_refl _⟩
  case iconst => exact ⟨_, _, _, _, h, Nat.le_refl _⟩
  case bipush => exact ⟨_, _, _, _, h, Nat.le_refl _⟩
  case sipush => exact ⟨_, _, _, _, h, Nat.le_refl _⟩
  case ldc_w => exact ⟨_, _, _, _, h, Nat.le_refl _⟩
  case lconst => exact ⟨_, _, _, _, h, Nat.le_refl _⟩
  case ldc2_w => exact ⟨_, _, _, _, h, Nat.le_refl _⟩
  case ifCond cd off =>
    split at h
    · cases cd <;> dsimp only at h <;> split at h <;> exact ⟨_, _, _, _, h, Nat.le_refl _⟩
    · cases h
  case if_icmp cd off =>
    split at h
    · cases cd <;> dsimp only at h <;> split at h <;> exact ⟨_, _, _, _, h, Nat.le_refl _⟩
    · cases h
  case getfield =>
    split at h
    · obtain ⟨-, h⟩ := z_ht h
      split at h
      · exact ⟨_, _, _, _, h, Nat.le_refl _⟩
      · exact ⟨_, _, _, _, h, Nat.le_refl _⟩
      · exact ⟨_, _, _, _, h, Nat.le_refl _⟩
      · exact ⟨_, _, _, _, h, Nat.le_refl _⟩
      · cases h
    · cases h
  case baload =>
    split at h
    · obtain ⟨-, h⟩ := z_ht h
      obtain ⟨-, h⟩ := z_hf h
      exact ⟨_, _, _, _, h, Nat.le_refl _⟩
    · cases h
  case laload =>
    split at h
    · obtain ⟨-, h⟩ := z_ht h
      obtain ⟨-, h⟩ := z_hf h
      exact ⟨_, _, _, _, h, Nat.le_refl _⟩
    · cases h
  case aaload =>
    split at h
    · obtain ⟨-, h⟩ := z_ht h
      obtain ⟨-, h⟩ := z_hf h
      exact ⟨_, _, _, _, h, Nat.le_refl _⟩
    · cases h
  case iastore =>
    split at h
    · obtain ⟨-, h⟩ := z_ht h
      obtain ⟨-, h⟩ := z_hf h
      exact ⟨_, _, _, _, h, Nat.le_refl _⟩
    · cases h
  case lastore =>
    split at h
    · obtain ⟨-, h⟩ := z_ht h
      obtain ⟨-, h⟩ := z_hf h
      exact ⟨_, _, _, _, h, Nat.le_refl _⟩
    · cases h
  case aastore =>
    split at h
    · obtain ⟨-, h⟩ := z_hf h
      obtain ⟨-, h⟩ := z_ht h
      obtain ⟨-, h⟩ := z_hf h
      exact ⟨_, _, _, _, h, Nat.le_refl _⟩
    · cases h
  case new =>
    obtain ⟨-, h⟩ := z_ht h
    exact ⟨_, _, _, _, h, Nat.le_succ _⟩
  case newarray =>
    split at h
    · obtain ⟨-, h⟩ := z_ht h
      obtain ⟨-, h⟩ := z_if2 h
      exact ⟨_, _, _, _, h, Nat.le_succ _⟩
    · cases h
  case anewarray =>
    split at h
    · obtain ⟨-, h⟩ := z_ht h
      obtain ⟨-, h⟩ := z_if2 h
      exact ⟨_, _, _, _, h, Nat.le_succ _⟩
    · cases h
  all_goals (cases h)
theorem z_bi_mono {ρ : Type} {κ : Nat → z_Lc → List z_AV → z_Mem → Option ρ} {res : ρ} {a pc : Nat} {la : z_Lc} {sa : List z_AV} {S : z_Mem} (h : z_bi a pc la sa S κ = some res) : ∃ pc' la' sa' S', κ pc' la' sa' S' = some res ∧ S.2.2.2 ≤ S'.2.2.2 := by
  unfold z_bi at h
  split at h
  · split at h
    · obtain ⟨-, h⟩ := z_hf h
      exact ⟨_, _, _, _, h, Nat.le_refl _⟩
    · cases h
  · split at h
    · obtain ⟨-, h⟩ := z_hf h
      exact ⟨_, _, _, _, h, Nat.le_refl _⟩
    · cases h
  · split at h
    · obtain ⟨-, h⟩ := z_hf h
      exact ⟨_, _, _, _, h, Nat.le_refl _⟩
    · cases h
  · split at h
    · rename_i n dp q2 sp q r
      obtain ⟨-, h⟩ := z_hf h
      obtain ⟨-, h⟩ := z_ht h
      cases hk1 : (Nat.beq (z_aK q.1) 1 && Nat.beq (z_aK q2.1) 1) with
      | true =>
        rw [hk1] at h
        exact ⟨_, _, _, _, h, Nat.le_refl _⟩
      | false =>
        rw [hk1] at h
        obtain ⟨-, h⟩ := z_ht (show cond (Nat.beq (z_aK q.1) 4 && Nat.beq (z_aK q2.1) 4) _ none = some res from h)
        exact ⟨_, _, _, _, h, Nat.le_refl _⟩
    · cases h
  · cases h
theorem z_call_mono {ρ : Type} {κ : Nat → z_Lc → List z_AV → z_Mem → Option ρ} {res : ρ} {ex : z_Ex} {a b cT pc : Nat} {x : Int32} {la : z_Lc} {sa : List z_AV} {S : z_Mem} (hex : ∀ j as S r S', ex j as S = some (r, S') → S.2.2.2 ≤ S'.2.2.2) (h : z_call ex a b cT x pc la sa S κ = some res) : ∃ pc' la' sa' S', κ pc' la' sa' S' = some res ∧ S.2.2.2 ≤ S'.2.2.2 := by
  unfold z_call at h
  split at h
  · cases h
  · obtain ⟨-, h⟩ := z_ht h
    split at h
    · unfold z_rV at h
      split at h
      · rename_i S' he
        exact ⟨_, _, _, _, h, hex _ _ _ _ _ he⟩
      · cases h
    · split at h
      · unfold z_rI at h
        split at h
        · rename_i v S' he
          exact ⟨_, _, _, _, h, hex _ _ _ _ _ he⟩
        · cases h
      · unfold z_rL at h
        split at h
        · rename_i v S' he
          exact ⟨_, _, _, _, h, hex _ _ _ _ _ he⟩
        · cases h
theorem z_go_mono {ρ : Type} {N : Nat} {K : Nat → z_Lc → List z_AV → z_Mem → Option ρ} {Kr : Option z_AV → z_Mem → Option ρ} {res : ρ} {md : Bool} {sc : z_Sc} {ex : z_Ex} {bo : Bool} {ops : List z_Op} {cuts : List (Nat × List Bool)} (hex : ∀ j as S r S', ex j as S = some (r, S') → S.2.2.2 ≤ S'.2.2.2)
    (hK : ∀ pc la sa S, K pc la sa S = some res → S.2.2.2 ≤ N) (hKr : ∀ r S, Kr r S = some res → S.2.2.2 ≤ N) : ∀ (k pc : Nat) (la : z_Lc) (sa : List z_AV) (S : z_Mem), z_go md sc ex bo ops cuts K Kr k pc la sa S = some res → S.2.2.2 ≤ N := by
  intro k
  induction k with
  | zero => intro pc la sa S h; cases h
  | succ k ih =>
    intro pc la sa S h
    unfold z_go at h
    split at h
    · cases h
    · rename_i ins len a b cT x sw hlk
      have hκ : ∀ pc' la' sa' S', (match z_cut cuts pc' with | some mq => K pc' (z_msk mq la') sa' S' | none => z_go md sc ex bo ops cuts K Kr k pc' la' sa' S') = some res → S'.2.2.2 ≤ N := by
        intro pc' la' sa' S' h'
        split at h'
        · exact hK _ _ _ _ h'
        · exact ih _ _ _ _ h'
      have fin : (∃ pc' la' sa' S', (match z_cut cuts pc' with | some mq => K pc' (z_msk mq la') sa' S' | none => z_go md sc ex bo ops cuts K Kr k pc' la' sa' S') = some res ∧ S.2.2.2 ≤ S'.2.2.2) → S.2.2.2 ≤ N := fun ⟨_, _, _, _, h1, h2⟩ => Nat.le_trans h2 (hκ _ _ _ _ h1)
      split at h
      · split at h
        · cases bo with
          | true => exact hKr _ _ (z_if2 (show (if _ then _ else none) = some res from h)).2
          | false => exact hKr _ _ h
        · cases h
      · split at h
        · exact hKr _ _ h
        · cases h
      · split at h
        · exact hKr _ _ h
        · cases h
      · exact fin (z_call_mono hex h)
      · cases hb : Nat.ble 1000 a with
        | true =>
          rw [hb] at h
          dsimp only [cond] at h
          exact fin (z_bi_mono h)
        | false =>
          rw [hb] at h
          dsimp only [cond] at h
          exact fin (z_call_mono hex h)
      · cases hb : Nat.ble 1000 a with
        | true =>
          rw [hb] at h
          dsimp only [cond] at h
          exact fin (z_bi_mono h)
        | false =>
          rw [hb] at h
          dsimp only [cond] at h
          exact fin (z_call_mono hex h)
      · exact fin (z_stp_mono h)
theorem z_run_mono {res : Option z_AV × z_Mem} {md : Bool} {ex : z_Ex} {bo : Bool} {ops : List z_Op} {cuts : List (Nat × List Bool)} (hex : ∀ j as S r S', ex j as S = some (r, S') → S.2.2.2 ≤ S'.2.2.2) : ∀ (n pc : Nat) (la : z_Lc) (sa : List z_AV) (S : z_Mem), z_run md ex bo ops cuts n pc la sa S = some res → S.2.2.2 ≤ res.2.2.2.2 := by
  intro n
  induction n with
  | zero => intro pc la sa S h; cases h
  | succ n ih =>
    intro pc la sa S h
    unfold z_run at h
    refine z_go_mono hex ih (fun r S hr => ?_) _ _ _ _ _ h
    have e1 : (r, S) = res := Option.some.inj hr
    rw [← e1]
    exact Nat.le_refl _
theorem z_exe_mono (mt : List z_Mt) (md : Bool) : ∀ (d j : Nat) (as : List z_AV) (S : z_Mem) (r : Option z_AV) (S' : z_Mem), z_exe mt md d j as S = some (r, S') → S.2.2.2 ≤ S'.2.2.2 := by
  intro d
  induction d with
  | zero => intro j as S r S' h; cases h
  | succ d ih =>
    intro j as S r S' h
    unfold z_exe at h
    split at h
    · cases h
    · obtain ⟨-, h⟩ := z_ht h
      exact z_run_mono ih _ _ _ _ _ h
