/-! THE CLASS'S METHODS RETURN ON EVERY STATE -/
theorem ix_3 {a b : Nat} (ha : a < 20) (hb : b < 3) : ix (3 * N a + N b) 60 := by
  rw [show (3 : Int32) = N 3 from rfl, N_mul, N_add]
  exact ix_N (by omega) (by decide)
theorem ix_5 {a b n L : Nat} (ha : a < n) (hb : b < 5) (hL : 5 * n ≤ L) (hL2 : L < 1000) : ix (5 * N a + N b) L := by
  rw [show (5 : Int32) = N 5 from rfl, N_mul, N_add]
  exact ix_N (by omega) (by omega)
theorem q_X1_addToOver (σ : sg_S) (q : Nat) (x0 x1 : Int32) : p_X1_addToOver σ q x0 x1 := by
  unfold p_X1_addToOver
  intro h1 h2 h3 h4
  obtain ⟨a, ha, ea⟩ := ex_nle 20 h1 h2 (by decide)
  obtain ⟨b, hb, eb⟩ := ex_nle 3 h3 h4 (by decide)
  rw [ea, eb]
  exact ⟨ix_3 ha hb, ix_3 ha hb⟩
theorem q_X1_addExtra (σ : sg_S) (q : Nat) : p_X1_addExtra σ q := q_X1_addToOver _ _ _ _
theorem q_X1_addBall (σ : sg_S) (q : Nat) (x0 : Int32) : p_X1_addBall σ q x0 := by
  unfold p_X1_addBall
  intro h1 h2
  obtain ⟨a, ha, ea⟩ := ex_le 6 h1 h2 (by decide)
  have h : ix x0 7 := by rw [ea]; exact ix_N (by omega) (by decide)
  exact ⟨h, h, q_X1_addToOver _ _ _ _, q_X1_addToOver _ _ _ _⟩
theorem addToOver_q {σ : sg_S} {q k : Nat} {x0 x1 : Int32} : s_X1_addToOver σ q x0 x1 q k = σ q k := by
  unfold s_X1_addToOver t_X1_addToOver_0
  repeat' split
  all_goals first | rfl | exact up_ne (by omega)
theorem addBall_q1 {σ : sg_S} {q : Nat} {x0 : Int32} : s_X1_addBall σ q x0 q 1 = σ q 1 := by
  unfold s_X1_addBall
  repeat' split
  all_goals first | rfl | skip
  unfold t_X1_addBall_4
  rw [up_ne (by omega)]
  unfold t_X1_addBall_3
  rw [up_ne (by omega)]
  unfold t_X1_addBall_2
  rw [addToOver_q]
  unfold t_X1_addBall_1
  rw [addToOver_q]
  unfold t_X1_addBall_0
  rw [up_ne (by omega)]
theorem q_X1_addWicket (σ : sg_S) (q : Nat) : p_X1_addWicket σ q := by
  unfold p_X1_addWicket
  intro h1 h2
  obtain ⟨a, ha, ea⟩ := ex_lt 10 h1 h2 (by decide)
  have e0 : t_X1_addWicket_0 σ q q 1 = N a := by
    unfold t_X1_addWicket_0
    rw [addBall_q1, addToOver_q, ea]
  have e1 : t_X1_addWicket_1 σ q q 1 = N a := by
    unfold t_X1_addWicket_1
    rw [up_ne (by omega), e0]
  refine ⟨q_X1_addToOver _ _ _ _, q_X1_addBall _ _ _, ?_, ?_⟩
  · rw [e0]; exact ix_N ha (by decide)
  · rw [e1]; exact ix_N ha (by decide)
theorem q_X1_addCut (σ : sg_S) (q : Nat) (x0 x1 : Int32) : p_X1_addCut σ q x0 x1 := by
  unfold p_X1_addCut
  intro h1 h2
  obtain ⟨a, ha, ea⟩ := ex_lt 19 h1 h2 (by decide)
  rw [ea]
  refine ⟨?_, ix_5 ha (b := 1) (by decide) (by decide) (by decide), ix_5 ha (b := 2) (by decide) (by decide) (by decide), ix_5 ha (b := 3) (by decide) (by decide) (by decide), ix_5 ha (b := 4) (by decide) (by decide) (by decide)⟩
  rw [show (5 : Int32) = N 5 from rfl, N_mul]
  exact ix_N (by omega) (by decide)
theorem hasCut_of {σ : sg_S} {q : Nat} {x0 : Int32} (h : ¬ v_X1_hasCut σ q x0 = 0) : ¬ x0 < 0 ∧ ¬ σ q 5 ≤ x0 ∧ ¬ 19 ≤ x0 := by
  unfold v_X1_hasCut at h
  by_cases h1 : x0 < 0
  · rw [if_pos h1] at h; exact absurd rfl h
  rw [if_neg h1] at h
  by_cases h2 : σ q 5 ≤ x0
  · rw [if_pos h2] at h; exact absurd rfl h
  rw [if_neg h2] at h
  by_cases h3 : 19 ≤ x0
  · rw [if_pos h3] at h; exact absurd rfl h
  exact ⟨h1, h2, h3⟩
theorem q_X1_cutFact (σ : sg_S) (q : Nat) (x0 x1 : Int32) : p_X1_cutFact σ q x0 x1 := by
  unfold p_X1_cutFact
  intro h1 h2 h3
  obtain ⟨g1, g2, g3⟩ := hasCut_of h1
  obtain ⟨a, ha, ea⟩ := ex_nle 19 g1 g3 (by decide)
  obtain ⟨b, hb, eb⟩ := ex_lt 5 h2 h3 (by decide)
  rw [ea, eb]
  exact ix_5 ha hb (by decide) (by decide)
theorem q_X1_overFact (q : Nat) (x0 x1 : Int32) : p_X1_overFact q x0 x1 := by
  unfold p_X1_overFact
  intro h1 h2 h3 h4
  obtain ⟨a, ha, ea⟩ := ex_nle 20 h1 h2 (by decide)
  obtain ⟨b, hb, eb⟩ := ex_lt 3 h3 h4 (by decide)
  rw [ea, eb]
  exact ix_3 ha hb
theorem q_X1_ballsThatMade (q : Nat) (x0 : Int32) : p_X1_ballsThatMade q x0 := by
  unfold p_X1_ballsThatMade
  intro h1 h2
  obtain ⟨a, ha, ea⟩ := ex_nlt 6 h1 h2 (by decide)
  rw [ea]
  exact ix_N (by omega) (by decide)
theorem hasFall_of {σ : sg_S} {q : Nat} {x0 : Int32} (h : ¬ v_X1_hasFall σ q x0 = 0) : ¬ x0 < 0 ∧ ¬ σ q 1 ≤ x0 ∧ ¬ 10 ≤ x0 := by
  unfold v_X1_hasFall at h
  by_cases h1 : x0 < 0
  · rw [if_pos h1] at h; exact absurd rfl h
  rw [if_neg h1] at h
  by_cases h2 : σ q 1 ≤ x0
  · rw [if_pos h2] at h; exact absurd rfl h
  rw [if_neg h2] at h
  by_cases h3 : 10 ≤ x0
  · rw [if_pos h3] at h; exact absurd rfl h
  exact ⟨h1, h2, h3⟩
theorem hasFall_ix {σ : sg_S} {q : Nat} {x0 : Int32} (h : ¬ v_X1_hasFall σ q x0 = 0) : ix x0 10 := by
  obtain ⟨g1, g2, g3⟩ := hasFall_of h
  obtain ⟨a, ha, ea⟩ := ex_nle 10 g1 g3 (by decide)
  rw [ea]
  exact ix_N ha (by decide)
theorem q_X1_runsAtFall (σ : sg_S) (q : Nat) (x0 : Int32) : p_X1_runsAtFall σ q x0 := fun h => hasFall_ix h
theorem q_X1_ballsAtFall (σ : sg_S) (q : Nat) (x0 : Int32) : p_X1_ballsAtFall σ q x0 := fun h => hasFall_ix h
theorem q_X1_standOf (σ : sg_S) (q : Nat) (x0 : Int32) : p_X1_standOf σ q x0 := ⟨q_X1_runsAtFall _ _ _, q_X1_runsAtFall _ _ _⟩
theorem q_X1_openStand (σ : sg_S) (q : Nat) : p_X1_openStand σ q := q_X1_runsAtFall _ _ _
theorem q_X1_greatestStand_l7 (σ : sg_S) (q : Nat) : ∀ (n k : Nat) (x1 : Int32), k ≤ 10 → 10 - k < n → p_X1_greatestStand_l7 σ q n x1 (N k) := by
  intro n
  induction n with
  | zero => intro k x1 hk hn; omega
  | succ n ih =>
    intro k x1 hk hn
    show p_X1_greatestStand_b7 σ q (p_X1_greatestStand_l7 σ q n) x1 (N k)
    unfold p_X1_greatestStand_b7
    intro h1 h2
    have h2 : ¬ N 10 ≤ N k := h2
    rw [N_le (by decide) (by omega)] at h2
    refine ⟨q_X1_standOf _ _ _, ?_⟩
    rw [N_inc]
    exact ih _ _ (by omega) (by omega)
theorem q_X1_greatestStand (σ : sg_S) (q : Nat) : p_X1_greatestStand σ q := ⟨q_X1_openStand _ _, q_X1_greatestStand_l7 σ q 600 0 _ (by decide) (by decide)⟩
theorem q_X1_greatestOver_l4 (σ : sg_S) (q : Nat) : ∀ (n k : Nat) (x1 : Int32), k ≤ 20 → 20 - k < n → p_X1_greatestOver_l4 σ q n x1 (N k) := by
  intro n
  induction n with
  | zero => intro k x1 hk hn; omega
  | succ n ih =>
    intro k x1 hk hn
    show p_X1_greatestOver_b4 σ q (p_X1_greatestOver_l4 σ q n) x1 (N k)
    unfold p_X1_greatestOver_b4
    intro h2
    have h2 : ¬ N 20 ≤ N k := h2
    rw [N_le (by decide) (by omega)] at h2
    refine ⟨q_X1_overFact _ _ _, q_X1_overFact _ _ _, ?_, ?_⟩
    · intro _
      rw [N_inc]
      exact ih _ _ (by omega) (by omega)
    · intro _
      rw [N_inc]
      exact ih _ _ (by omega) (by omega)
theorem q_X1_greatestOver (σ : sg_S) (q : Nat) : p_X1_greatestOver σ q := q_X1_greatestOver_l4 σ q 600 1 _ (by decide) (by decide)
theorem q_X2_number (x0 x1 : Int32) : p_X2_number x0 x1 := by
  unfold p_X2_number
  intro h1 h2 h3 h4
  obtain ⟨a, ha, ea⟩ := ex_nle 10 h1 h2 (by decide)
  obtain ⟨b, hb, eb⟩ := ex_lt 5 h3 h4 (by decide)
  rw [ea, eb]
  exact ix_5 ha hb (by decide) (by decide)
theorem nn_of_npos {x : Int32} (h : ¬ x ≤ 0) : ¬ x < 0 := by
  intro h2
  exact h (Int32.le_of_lt h2)
theorem wix0 {a w : Nat} (ha : a ≤ 120) (hw : w < 10) : ix (5 * N w + N a / 30) 50 := by
  rw [show (5 : Int32) = N 5 from rfl, show (30 : Int32) = N 30 from rfl, N_div (by omega) (by decide), N_mul, N_add]
  exact ix_N (by omega) (by decide)
theorem wix1 {a w : Nat} (ha : a ≤ 120) (hw : w < 10) (hr : ¬ rm (N a) 30 = 0) : ix (5 * N w + N a / 30 + 1) 50 := by
  rw [show (30 : Int32) = N 30 from rfl, N_rm (by omega) (by decide), show (0 : Int32) = N 0 from rfl, N_eq (by omega) (by decide)] at hr
  rw [show (5 : Int32) = N 5 from rfl, show (30 : Int32) = N 30 from rfl, N_div (by omega) (by decide), N_mul, N_add, N_inc]
  exact ix_N (by omega) (by decide)
theorem q_X2_worthOf (x0 x1 : Int32) : p_X2_worthOf x0 x1 := by
  unfold p_X2_worthOf
  intro h1 h2 h3 h4
  obtain ⟨a, ha, ea⟩ := ex_nlt 120 (nn_of_npos h1) h2 (by decide)
  obtain ⟨w, hw, ew⟩ := ex_lt 10 h3 h4 (by decide)
  subst ea ew
  exact ⟨fun h => ⟨wix1 ha hw h, wix0 ha hw, wix0 ha hw⟩, fun _ => wix0 ha hw⟩
theorem q_X2_worthOfOvers (x0 : Int32) : p_X2_worthOfOvers x0 := q_X2_worthOf _ _
theorem ix5_of {x0 : Int32} (h1 : ¬ x0 < 0) (h2 : ¬ 5 ≤ x0) : ix x0 5 := by
  obtain ⟨a, ha, ea⟩ := ex_nle 5 h1 h2 (by decide)
  rw [ea]
  exact ix_N ha (by decide)
theorem q_X2_setting (x0 : Int32) : p_X2_setting x0 := fun h1 h2 => ix5_of h1 h2
theorem q_X2_allows (x0 x1 : Int32) : p_X2_allows x0 x1 := fun h1 h2 => ⟨ix5_of h1 h2, fun _ => ix5_of h1 h2⟩
theorem q_X2_change (x0 x1 : Int32) : p_X2_change x0 x1 := fun h1 h2 => ix5_of h1 h2
theorem q_X2_blockOvers_l17 (σ : sg_S) : ∀ (n k : Nat) (x1 x2 x3 x4 x5 : Int32), k ≤ 3 → 3 - k < n → p_X2_blockOvers_l17 σ n x1 x2 x3 x4 x5 (N k) := by
  intro n
  induction n with
  | zero => intro k x1 x2 x3 x4 x5 hk hn; omega
  | succ n ih =>
    intro k x1 x2 x3 x4 x5 hk hn
    show p_X2_blockOvers_b17 σ (p_X2_blockOvers_l17 σ n) x1 x2 x3 x4 x5 (N k)
    unfold p_X2_blockOvers_b17
    intro h2
    have h2 : ¬ N 3 ≤ N k := h2
    rw [N_le (by decide) (by omega)] at h2
    rw [N_inc]
    exact ⟨fun _ => ih _ _ _ _ _ _ (by omega) (by omega), fun _ => ⟨fun _ => ih _ _ _ _ _ _ (by omega) (by omega), fun _ => ⟨fun _ => ih _ _ _ _ _ _ (by omega) (by omega), fun _ => ih _ _ _ _ _ _ (by omega) (by omega)⟩⟩⟩
theorem q_X2_blockOvers (σ : sg_S) (x0 x1 : Int32) : p_X2_blockOvers σ x0 x1 := q_X2_blockOvers_l17 σ 600 0 _ _ _ _ _ (by decide) (by decide)
theorem q_X2_beginProposal_l2 : ∀ (n k : Nat) (σ : sg_S), k ≤ 50 → 50 - k < n → p_X2_beginProposal_l2 n σ (N k) := by
  intro n
  induction n with
  | zero => intro k σ hk hn; omega
  | succ n ih =>
    intro k σ hk hn
    show p_X2_beginProposal_b2 (p_X2_beginProposal_l2 n) σ (N k)
    unfold p_X2_beginProposal_b2
    intro h2
    have h2 : ¬ N 50 ≤ N k := h2
    rw [N_le (by decide) (by omega)] at h2
    rw [N_inc]
    exact ⟨ix_N (by omega) (by decide), ix_N (by omega) (by decide), ih _ _ (by omega) (by omega)⟩
theorem q_X2_beginProposal (σ : sg_S) : p_X2_beginProposal σ := q_X2_beginProposal_l2 600 0 _ (by decide) (by decide)
theorem q_X2_adoptProposal_l2 : ∀ (n k : Nat) (σ : sg_S), k ≤ 50 → 50 - k < n → p_X2_adoptProposal_l2 n σ (N k) := by
  intro n
  induction n with
  | zero => intro k σ hk hn; omega
  | succ n ih =>
    intro k σ hk hn
    show p_X2_adoptProposal_b2 (p_X2_adoptProposal_l2 n) σ (N k)
    unfold p_X2_adoptProposal_b2
    intro h2
    have h2 : ¬ N 50 ≤ N k := h2
    rw [N_le (by decide) (by omega)] at h2
    rw [N_inc]
    exact ⟨ix_N (by omega) (by decide), ix_N (by omega) (by decide), ih _ _ (by omega) (by omega)⟩
theorem q_X2_adoptProposal (σ : sg_S) : p_X2_adoptProposal σ := q_X2_adoptProposal_l2 600 0 _ (by decide) (by decide)
theorem q_X2_propose (x0 x1 x2 : Int32) : p_X2_propose x0 x1 x2 := by
  unfold p_X2_propose
  intro h1 h2 h3 h4
  obtain ⟨a, ha, ea⟩ := ex_nle 10 h1 h2 (by decide)
  have h3' : ¬ x1 < 0 := by
    intro h
    refine h3 ?_
    rw [Int32.lt_iff_toInt_lt] at h ⊢
    have e0 : (0 : Int32).toInt = 0 := rfl
    have e1 : (1 : Int32).toInt = 1 := rfl
    omega
  obtain ⟨b, hb, eb⟩ := ex_nle 5 h3' h4 (by decide)
  rw [ea, eb]
  exact ix_5 ha hb (by decide) (by decide)
theorem q_X2_proposalHolds_a33 (σ : sg_S) {k : Nat} (hk : k < 50) {kp : Int32 → Prop} (h : kp (N (k + 1))) : p_X2_proposalHolds_a33 σ kp (N k) := by
  unfold p_X2_proposalHolds_a33
  rw [N_inc]
  refine ⟨fun _ => h, fun h5 => ⟨ix_N (by omega) (by decide), ?_, fun _ => h⟩⟩
  have h5 : ¬ N k < N 5 := h5
  rw [N_lt (by omega) (by decide)] at h5
  rw [show (5 : Int32) = N 5 from rfl, N_sub (by omega)]
  exact ix_N (by omega) (by decide)
theorem q_X2_proposalHolds_l2 (σ : sg_S) : ∀ (n k : Nat), k ≤ 50 → 50 - k < n → p_X2_proposalHolds_l2 σ n (N k) := by
  intro n
  induction n with
  | zero => intro k hk hn; omega
  | succ n ih =>
    intro k hk hn
    show p_X2_proposalHolds_b2 σ (p_X2_proposalHolds_l2 σ n) (N k)
    unfold p_X2_proposalHolds_b2
    intro h2
    have h2 : ¬ N 50 ≤ N k := h2
    rw [N_le (by decide) (by omega)] at h2
    have hz := q_X2_proposalHolds_a33 σ (k := k) (by omega) (ih (k + 1) (by omega) (by omega))
    refine ⟨fun _ => hz, fun h5 => ⟨ix_N (by omega) (by decide), ?_, fun _ => hz⟩⟩
    rw [show (5 : Int32) = N 5 from rfl, N_rm (by omega) (by decide), show (0 : Int32) = N 0 from rfl, N_le (by omega) (by decide)] at h5
    rw [show (1 : Int32) = N 1 from rfl, N_sub (by omega)]
    exact ix_N (by omega) (by decide)
theorem q_X2_proposalHolds (σ : sg_S) : p_X2_proposalHolds σ := q_X2_proposalHolds_l2 σ 600 0 (by decide) (by decide)
