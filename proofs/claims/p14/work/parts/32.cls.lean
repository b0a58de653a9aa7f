theorem ix_of_nle {x : Int32} (L : Nat) (hL : L < 2147483648) (h1 : ¬ x < 0) (h2 : ¬ N L ≤ x) : ix x L := by
  obtain ⟨a, ha, ea⟩ := ex_nle L h1 h2 hL
  rw [ea]
  exact ix_N ha (by omega)
theorem q_X3_append_l3 : ∀ (n k : Nat) (σ : sg_S) (x1 : Int32), k ≤ 4 → k < n → p_X3_append_l3 n σ x1 (N (8 * k) - 8) := by
  intro n
  induction n with
  | zero => intro k σ x1 hk hn; omega
  | succ n ih =>
    intro k σ x1 hk hn
    show p_X3_append_b3 (p_X3_append_l3 n) σ x1 (N (8 * k) - 8)
    unfold p_X3_append_b3
    intro h2
    cases k with
    | zero => exact absurd (show N (8 * 0) - 8 < 0 by decide) h2
    | succ k =>
      have e : N (8 * (k + 1)) - 8 + (-8) = N (8 * k) - 8 := by
        have e2 : N (8 * (k + 1)) = N (8 * k) + 8 := by
          rw [show (8 : Int32) = N 8 from rfl, N_add]
          congr 1
        rw [e2, Int32.add_sub_cancel, Int32.sub_eq_add_neg]
      rw [e]
      refine ⟨fun _ => ih k _ _ (by omega) (by omega), fun g1 => ⟨fun _ => ih k _ _ (by omega) (by omega), fun g2 => ⟨ix_of_nle 500 (by decide) g1 g2, ih k _ _ (by omega) (by omega)⟩⟩⟩
theorem q_X3_append (σ : sg_S) (x0 : Int32) : p_X3_append σ x0 := q_X3_append_l3 600 4 σ x0 (by decide) (by decide)
theorem q_X3_byteAt (σ : sg_S) (x0 : Int32) : p_X3_byteAt σ x0 := fun h1 _ h3 => ix_of_nle 500 (by decide) h1 h3
/-- a byte that is there -/
theorem byteAt_of {σ : sg_S} {x : Int32} (h : ¬ v_X3_byteAt σ x = -1) : ∃ a, a < 500 ∧ x = N a ∧ ¬ σ 5 1 ≤ x := by
  unfold v_X3_byteAt at h
  by_cases h1 : x < 0
  · rw [if_pos h1] at h; exact absurd rfl h
  rw [if_neg h1] at h
  by_cases h2 : σ 5 1 ≤ x
  · rw [if_pos h2] at h; exact absurd rfl h
  rw [if_neg h2] at h
  by_cases h3 : 500 ≤ x
  · rw [if_pos h3] at h; exact absurd rfl h
  obtain ⟨a, ha, ea⟩ := ex_nle 500 h1 h3 (by decide)
  exact ⟨a, ha, ea, h2⟩
theorem q_X3_seek_l0 : ∀ (n k : Nat) (σ : sg_S), σ 5 4 = N k → k ≤ 500 → 500 - k < n → p_X3_seek_l0 n σ := by
  intro n
  induction n with
  | zero => intro k σ h hk hn; omega
  | succ n ih =>
    intro k σ h hk hn
    show p_X3_seek_b0 (p_X3_seek_l0 n) σ
    unfold p_X3_seek_b0
    intro h2
    have key : ¬ v_X3_byteAt σ (σ 5 4) = -1 → p_X3_seek_l0 n (sg_up σ 5 4 (σ 5 4 + 1)) := by
      intro g
      obtain ⟨a, ha, ea, -⟩ := byteAt_of g
      have hka : k = a := (N_eq (by omega) (by omega)).mp (h.symm.trans ea)
      refine ih (k + 1) _ ?_ (by omega) (by omega)
      rw [up_eq, h, N_inc]
    refine ⟨q_X3_byteAt _ _, fun e => key (by rw [e]; decide), fun _ => ⟨q_X3_byteAt _ _, fun e => key ?_⟩⟩
    have e := Decidable.not_not.mp e
    rw [e]; decide
theorem q_X3_seek (σ : sg_S) : p_X3_seek σ := by
  show p_X3_seek_b0 (p_X3_seek_l0 599) σ
  unfold p_X3_seek_b0
  intro h2
  have key : ¬ v_X3_byteAt σ (σ 5 4) = -1 → p_X3_seek_l0 599 (sg_up σ 5 4 (σ 5 4 + 1)) := by
    intro g
    obtain ⟨a, ha, ea, -⟩ := byteAt_of g
    refine q_X3_seek_l0 599 (a + 1) _ ?_ (by omega) (by omega)
    rw [up_eq, ea, N_inc]
  refine ⟨q_X3_byteAt _ _, fun e => key (by rw [e]; decide), fun _ => ⟨q_X3_byteAt _ _, fun e => key ?_⟩⟩
  have e := Decidable.not_not.mp e
  rw [e]; decide
theorem q_X3_takeByte (σ : sg_S) : p_X3_takeByte σ := q_X3_byteAt _ _
theorem q_X3_readByte (σ : sg_S) (x0 : Int32) : p_X3_readByte σ x0 := ⟨q_X3_seek _, fun _ => q_X3_takeByte _⟩
theorem q_X3_readRowWord_a59 (σ : sg_S) : p_X3_readRowWord_a59 σ := fun _ => ⟨q_X3_byteAt _ _, fun _ => ⟨q_X3_byteAt _ _, fun _ => q_X3_byteAt _ _⟩⟩
theorem byteAt_ge {σ : sg_S} {x y : Int32} (hy : -1 < y) (h : ¬ v_X3_byteAt σ x < y) : ¬ v_X3_byteAt σ x = -1 := by
  intro e
  rw [e] at h
  exact h hy
theorem q_X3_readRowWord_b9 {kp : sg_S → Prop} (σ : sg_S) (h : ¬ v_X3_byteAt σ (σ 5 4) = -1 → kp (sg_up σ 5 4 (σ 5 4 + 1))) : p_X3_readRowWord_b9 kp σ :=
  ⟨fun _ => q_X3_readRowWord_a59 _, fun _ => ⟨q_X3_byteAt _ _, fun _ => q_X3_readRowWord_a59 _, fun g => ⟨q_X3_byteAt _ _, fun _ => q_X3_readRowWord_a59 _, fun _ => h (byteAt_ge (by decide) g)⟩⟩⟩
theorem q_X3_readRowWord_l9 : ∀ (n k : Nat) (σ : sg_S), σ 5 4 = N k → k ≤ 500 → 500 - k < n → p_X3_readRowWord_l9 n σ := by
  intro n
  induction n with
  | zero => intro k σ h hk hn; omega
  | succ n ih =>
    intro k σ h hk hn
    refine q_X3_readRowWord_b9 σ (fun g => ?_)
    obtain ⟨a, ha, ea, -⟩ := byteAt_of g
    have hka : k = a := (N_eq (by omega) (by omega)).mp (h.symm.trans ea)
    refine ih (k + 1) _ ?_ (by omega) (by omega)
    rw [up_eq, h, N_inc]
theorem q_X3_readRowWord (σ : sg_S) : p_X3_readRowWord σ := by
  refine ⟨q_X3_seek _, fun _ => q_X3_readRowWord_b9 (kp := p_X3_readRowWord_l9 599) _ (fun g => ?_)⟩
  obtain ⟨a, ha, ea, -⟩ := byteAt_of g
  refine q_X3_readRowWord_l9 599 (a + 1) _ ?_ (by omega) (by omega)
  rw [up_eq, ea, N_inc]
theorem q_X3_readNumber_b10 {kp : sg_S → Prop} (σ : sg_S) (h : ¬ v_X3_byteAt σ (σ 5 4) = -1 → ∀ σ', σ' 5 4 = σ 5 4 + 1 → kp σ') : p_X3_readNumber_b10 kp σ := by
  unfold p_X3_readNumber_b10
  refine fun _ => ⟨q_X3_byteAt _ _, fun g => ⟨q_X3_byteAt _ _, fun _ => ?_⟩⟩
  have h := h (byteAt_ge (by decide) g)
  have e0 : ∀ y, p_X3_readNumber_a65 kp σ y := by
    intro y
    unfold p_X3_readNumber_a65
    refine ⟨fun _ => h _ ?_, fun _ => ⟨q_X3_byteAt _ _, h _ ?_⟩⟩
    · unfold t_X3_readNumber_0
      rw [up_eq, up_ne (by decide)]
    · unfold t_X3_readNumber_2 t_X3_readNumber_1
      rw [up_eq, up_ne (by decide)]
  exact ⟨fun _ => e0 _, fun _ => e0 _⟩
theorem q_X3_readNumber_l10 : ∀ (n k : Nat) (σ : sg_S), σ 5 4 = N k → k ≤ 500 → 500 - k < n → p_X3_readNumber_l10 n σ := by
  intro n
  induction n with
  | zero => intro k σ h hk hn; omega
  | succ n ih =>
    intro k σ h hk hn
    refine q_X3_readNumber_b10 σ (fun g σ' hσ => ?_)
    obtain ⟨a, ha, ea, -⟩ := byteAt_of g
    have hka : k = a := (N_eq (by omega) (by omega)).mp (h.symm.trans ea)
    refine ih (k + 1) _ ?_ (by omega) (by omega)
    rw [hσ, h, N_inc]
theorem q_X3_readNumber (σ : sg_S) : p_X3_readNumber σ := by
  refine ⟨q_X3_seek _, q_X3_readNumber_b10 (kp := p_X3_readNumber_l10 599) _ (fun g σ' hσ => ?_)⟩
  obtain ⟨a, ha, ea, -⟩ := byteAt_of g
  refine q_X3_readNumber_l10 599 (a + 1) _ ?_ (by omega) (by omega)
  rw [hσ, ea, N_inc]
theorem q_X4_feed (σ : sg_S) (x0 x1 x2 x3 x4 : Int32) : p_X4_feed σ x0 x1 x2 x3 x4 := fun _ => ⟨q_X3_append _ _, q_X3_append _ _, q_X3_append _ _, q_X3_append _ _, q_X3_append _ _⟩
theorem q_X4_count (x0 : Int32) : p_X4_count x0 := fun _ _ _ _ _ _ => q_X2_setting _
theorem q_X4_worth (x0 x1 : Int32) : p_X4_worth x0 x1 := fun _ _ _ _ => q_X2_worthOf _ _
theorem q_X4_told (x0 x1 : Int32) : p_X4_told x0 x1 := fun _ _ _ _ => q_X2_number _ _
theorem q_X4_blockNow (σ : sg_S) : p_X4_blockNow σ := fun _ => ⟨q_X2_blockOvers _ _ _, fun _ => q_X2_blockOvers _ _ _⟩
theorem q_X4_commonDivisor_l7 : ∀ (n k : Nat) (x2 x3 : Int32), k ≤ 64 → 64 - k < n → p_X4_commonDivisor_l7 n x2 x3 (N k) := by
  intro n
  induction n with
  | zero => intro k x2 x3 hk hn; omega
  | succ n ih =>
    intro k x2 x3 hk hn
    show p_X4_commonDivisor_b7 (p_X4_commonDivisor_l7 n) x2 x3 (N k)
    unfold p_X4_commonDivisor_b7
    intro h2 h3
    have h2 : ¬ N 64 ≤ N k := h2
    rw [N_le (by decide) (by omega)] at h2
    rw [N_inc]
    exact ⟨h3, ih _ _ _ (by omega) (by omega)⟩
theorem q_X4_commonDivisor (x0 x1 : Int32) : p_X4_commonDivisor x0 x1 := q_X4_commonDivisor_l7 600 0 _ _ (by decide) (by decide)
theorem q_X4_inLeastTerms (x0 x1 x2 : Int32) : p_X4_inLeastTerms x0 x1 x2 := ⟨q_X4_commonDivisor _ _, fun h => ⟨fun _ => pos_nz2 h, fun _ => pos_nz2 h⟩⟩
theorem q_X0_worthLeft (σ : sg_S) (c : Nat) : p_X0_worthLeft σ c := q_X2_worthOf _ _
theorem q_X0_lossByCut (σ : sg_S) (c : Nat) (x0 : Int32) : p_X0_lossByCut σ c x0 := ⟨q_X0_worthLeft _ _, q_X2_worthOf _ _⟩
theorem q_X0_blockFact_l75 (σ : sg_S) (c : Nat) : ∀ (n k : Nat) (x3 : Int32) (r4 : Nat) (x6 x7 : Int32), k ≤ 20 → 20 - k < n → p_X0_blockFact_l75 σ c n x3 r4 x6 x7 (N k) := by
  intro n
  induction n with
  | zero => intro k x3 r4 x6 x7 hk hn; omega
  | succ n ih =>
    intro k x3 r4 x6 x7 hk hn
    show p_X0_blockFact_b75 σ c (p_X0_blockFact_l75 σ c n) x3 r4 x6 x7 (N k)
    unfold p_X0_blockFact_b75
    intro h1 h2
    have h2 : ¬ N 20 ≤ N k := h2
    rw [N_le (by decide) (by omega)] at h2
    rw [N_inc]
    exact ⟨q_X1_overFact _ _ _, ih _ _ _ _ _ (by omega) (by omega)⟩
/-- any start: below 0 some steps more, but these are many: so only starts that are not below -500 -/
theorem q_X0_blockFact_l75b (σ : sg_S) (c : Nat) : ∀ (n k : Nat) (x3 : Int32) (r4 : Nat) (x6 x7 x8 : Int32), x8.toInt = 20 - (k : Int) → k < n → k < 10000 → p_X0_blockFact_l75 σ c n x3 r4 x6 x7 x8 := by
  intro n
  induction n with
  | zero => intro k x3 r4 x6 x7 x8 he hn; omega
  | succ n ih =>
    intro k x3 r4 x6 x7 x8 he hn hk
    show p_X0_blockFact_b75 σ c (p_X0_blockFact_l75 σ c n) x3 r4 x6 x7 x8
    unfold p_X0_blockFact_b75
    intro h1 h2
    rw [Int32.le_iff_toInt_le, show (20 : Int32).toInt = 20 from rfl] at h2
    refine ⟨q_X1_overFact _ _ _, ih (k - 1) _ _ _ _ _ ?_ (by omega) (by omega)⟩
    rw [Int32.toInt_add, he, show (1 : Int32).toInt = 1 from rfl, Int.bmod_def]
    omega
