/-! THE CLASS'S METHODS RETURN (all but those that add up a block) -/
theorem q_X0_targetBy (σ : sg_S) (c : Nat) (x0 x1 : Int32) : p_X0_targetBy σ c x0 x1 := fun h1 h2 => ⟨fun _ => ⟨q_X2_setting _, pos_nz2 h2⟩, fun _ => pos_nz h1⟩
theorem q_X0_theTarget (σ : sg_S) (c : Nat) : p_X0_theTarget σ c := fun _ => q_X0_targetBy _ _ _ _
theorem q_X0_targetIfCut (σ : sg_S) (c : Nat) (x0 : Int32) : p_X0_targetIfCut σ c x0 := ⟨q_X0_lossByCut _ _ _, q_X0_targetBy _ _ _ _⟩
theorem q_X0_parWithout (σ : sg_S) (c : Nat) (x0 : Int32) : p_X0_parWithout σ c x0 := q_X0_targetBy _ _ _ _
theorem q_X0_parNow (σ : sg_S) (c : Nat) : p_X0_parNow σ c := fun _ _ => ⟨q_X0_worthLeft _ _, q_X0_parWithout _ _ _⟩
theorem q_X0_leadOverTie (σ : sg_S) (c : Nat) (x0 : Int32) : p_X0_leadOverTie σ c x0 := ⟨q_X0_theTarget _ _, fun _ => ⟨fun _ => ⟨q_X0_worthLeft _ _, q_X0_parWithout _ _ _⟩, fun _ => q_X0_parWithout _ _ _⟩⟩
theorem q_X0_outcome (σ : sg_S) (c : Nat) (x0 : Int32) : p_X0_outcome σ c x0 := ⟨q_X2_setting _, fun _ _ => ⟨fun _ => q_X0_leadOverTie _ _ _, fun _ _ => q_X0_leadOverTie _ _ _⟩, fun _ _ => ⟨fun _ => q_X0_leadOverTie _ _ _, fun _ _ => q_X0_leadOverTie _ _ _⟩⟩
theorem q_X0_leadAtEnd (σ : sg_S) (c : Nat) : p_X0_leadAtEnd σ c := ⟨q_X0_outcome _ _ _, fun _ => q_X0_leadOverTie _ _ _, fun _ _ => ⟨q_X0_theTarget _ _, fun _ => q_X0_leadOverTie _ _ _⟩⟩
theorem q_X0_boundaries (q : Nat) : p_X0_boundaries q := ⟨q_X1_ballsThatMade _ _, q_X1_ballsThatMade _ _⟩
theorem q_X0_projection (σ : sg_S) (c : Nat) : p_X0_projection σ c := ⟨q_X0_worthLeft _ _, fun h => pos_nz h⟩
theorem q_X0_targetReached (σ : sg_S) (c : Nat) : p_X0_targetReached σ c := fun _ _ => q_X0_targetBy _ _ _ _
theorem q_X1_restart_l64 (q : Nat) : ∀ (n k : Nat) (σ : sg_S), k ≤ 7 → 7 - k < n → p_X1_restart_l64 q n σ (N k) := by
  intro n
  induction n with
  | zero => intro k σ hk hn; omega
  | succ n ih =>
    intro k σ hk hn
    show p_X1_restart_b64 q (p_X1_restart_l64 q n) σ (N k)
    unfold p_X1_restart_b64
    intro h2
    have h2 : ¬ N 6 < N k := h2
    rw [N_lt (by decide) (by omega)] at h2
    rw [N_inc]
    exact ⟨ix_N (by omega) (by decide), ih _ _ (by omega) (by omega)⟩
theorem q_X1_restart_l43 (q : Nat) : ∀ (n k : Nat) (σ : sg_S), k ≤ 60 → 60 - k < n → p_X1_restart_l43 q n σ (N k) := by
  intro n
  induction n with
  | zero => intro k σ hk hn; omega
  | succ n ih =>
    intro k σ hk hn
    show p_X1_restart_b43 q (p_X1_restart_l43 q n) σ (N k)
    unfold p_X1_restart_b43
    refine ⟨fun _ => q_X1_restart_l64 q 600 0 _ (by decide) (by decide), fun h2 => ?_⟩
    have h2 : ¬ N 60 ≤ N k := h2
    rw [N_le (by decide) (by omega)] at h2
    rw [N_inc]
    exact ⟨ix_N (by omega) (by decide), ih _ _ (by omega) (by omega)⟩
theorem q_X1_restart (σ : sg_S) (q : Nat) (x0 x1 : Int32) : p_X1_restart σ q x0 x1 := q_X1_restart_l43 q 600 0 _ (by decide) (by decide)
theorem q_X0_restart (σ : sg_S) (c : Nat) : p_X0_restart σ c := ⟨q_X2_setting _, q_X2_worthOfOvers _, q_X1_restart _ _ _ _, q_X2_worthOfOvers _, q_X1_restart _ _ _ _⟩
theorem q_X0_take_a121 (c : Nat) (σ : sg_S) (r3 : Nat) : p_X0_take_a121 c σ r3 := fun _ => q_X0_targetReached _ _
theorem q_X0_take_a36 (c : Nat) (σ : sg_S) (x1 x2 : Int32) : p_X0_take_a36 c σ x1 x2 :=
  ⟨fun _ => ⟨fun _ => ⟨fun _ => ⟨fun _ => ⟨q_X1_addExtra _ _, q_X0_take_a121 _ _ _⟩, fun _ => ⟨fun _ => ⟨q_X1_addBall _ _ _, q_X0_take_a121 _ _ _⟩, fun _ => ⟨q_X1_addExtra _ _, q_X0_take_a121 _ _ _⟩⟩⟩, fun _ => ⟨q_X1_addWicket _ _, q_X0_take_a121 _ _ _⟩⟩, fun _ => ⟨q_X0_lossByCut _ _ _, q_X1_addCut _ _ _ _, q_X0_take_a121 _ _ _⟩⟩, fun _ => ⟨q_X0_worthLeft _ _, q_X0_take_a121 _ _ _⟩⟩
theorem q_X0_take (σ : sg_S) (c : Nat) (x0 x1 : Int32) : p_X0_take σ c x0 x1 := ⟨fun _ => ⟨fun _ => q_X0_take_a36 _ _ _ _, fun _ => q_X0_take_a36 _ _ _ _⟩, fun _ => q_X2_worthOfOvers _⟩
theorem q_X4_replay_l6 (c : Nat) : ∀ (n k : Nat) (σ : sg_S) (x2 : Int32), k ≤ 400 → 400 - k < n → p_X4_replay_l6 c n σ x2 (N k) := by
  intro n
  induction n with
  | zero => intro k σ x2 hk hn; omega
  | succ n ih =>
    intro k σ x2 hk hn
    show p_X4_replay_b6 c (p_X4_replay_l6 c n) σ x2 (N k)
    unfold p_X4_replay_b6
    intro _ h2
    have h2 : ¬ N 400 ≤ N k := h2
    rw [N_le (by decide) (by omega)] at h2
    rw [N_inc]
    exact ⟨ix_N (by omega) (by decide), ix_N (by omega) (by decide), q_X0_take _ _ _ _, ih _ _ _ (by omega) (by omega)⟩
theorem q_X4_replay (σ : sg_S) (c : Nat) (x1 : Int32) : p_X4_replay σ c x1 := ⟨q_X0_restart _ _, q_X4_replay_l6 c 600 0 _ _ (by decide) (by decide)⟩
theorem q_X4_record (σ : sg_S) (x0 x1 : Int32) : p_X4_record σ x0 x1 := by
  intro h1 h2
  obtain ⟨a, ha, ea⟩ := ex_lt 400 h1 h2 (by decide)
  have e1 : (sg_up σ 33 (ni (σ 0 6)) x0) 0 6 = σ 0 6 := up_c (by decide)
  refine ⟨?_, ?_, q_X0_take _ _ _ _⟩
  · rw [ea]; exact ix_N ha (by decide)
  · rw [e1, ea]; exact ix_N ha (by decide)
theorem q_X4_emptyLog (σ : sg_S) : p_X4_emptyLog σ := q_X0_restart _ _
theorem q_X4_set (σ : sg_S) (x0 x1 : Int32) : p_X4_set σ x0 x1 := ⟨q_X2_allows _ _, fun _ => ⟨q_X2_setting _, fun _ => ⟨q_X2_change _ _, q_X4_emptyLog _⟩⟩⟩
theorem q_X4_clear (σ : sg_S) : p_X4_clear σ := q_X4_emptyLog _
theorem q_X4_back (σ : sg_S) : p_X4_back σ := fun _ => q_X4_replay _ _ _
theorem q_X4_play (σ : sg_S) (x0 x1 : Int32) : p_X4_play σ x0 x1 := fun _ _ => ⟨fun _ => q_X4_record _ _ _, fun _ _ => q_X4_record _ _ _⟩
theorem q_X4_after (σ : sg_S) (x0 x1 : Int32) : p_X4_after σ x0 x1 := fun _ _ _ _ => ⟨q_X4_replay _ _ _, fun _ _ _ _ => ⟨fun _ => q_X0_theTarget _ _, fun _ => q_X0_parNow _ _⟩⟩
theorem q_X4_firstAhead_l9 : ∀ (n k : Nat) (σ : sg_S), k ≤ 400 → 400 - k < n → p_X4_firstAhead_l9 n σ (N k) := by
  intro n
  induction n with
  | zero => intro k σ hk hn; omega
  | succ n ih =>
    intro k σ hk hn
    show p_X4_firstAhead_b9 (p_X4_firstAhead_l9 n) σ (N k)
    unfold p_X4_firstAhead_b9
    intro _ h2
    have h2 : ¬ N 400 ≤ N k := h2
    rw [N_le (by decide) (by omega)] at h2
    rw [N_inc]
    exact ⟨ix_N (by omega) (by decide), ix_N (by omega) (by decide), q_X0_take _ _ _ _, q_X0_parNow _ _, fun _ => ih _ _ (by omega) (by omega), fun _ _ => ih _ _ (by omega) (by omega)⟩
theorem q_X4_firstAhead (σ : sg_S) : p_X4_firstAhead σ := ⟨q_X0_restart _ _, q_X4_firstAhead_l9 600 0 _ (by decide) (by decide)⟩
theorem q_X4_readRow_l20 : ∀ (n k : Nat) (σ : sg_S) (x1 : Int32), k ≤ 5 → 5 - k < n → p_X4_readRow_l20 n σ x1 (N k) := by
  intro n
  induction n with
  | zero => intro k σ x1 hk hn; omega
  | succ n ih =>
    intro k σ x1 hk hn
    show p_X4_readRow_b20 (p_X4_readRow_l20 n) σ x1 (N k)
    unfold p_X4_readRow_b20
    refine ⟨fun _ => q_X3_readByte _ _, fun h2 => ?_⟩
    have h2 : ¬ N 5 ≤ N k := h2
    rw [N_le (by decide) (by omega)] at h2
    rw [N_inc]
    exact ⟨q_X3_readNumber _, fun _ _ => ⟨fun _ => ⟨q_X2_propose _ _ _, ih _ _ _ (by omega) (by omega)⟩, fun _ => ih _ _ _ (by omega) (by omega)⟩⟩
theorem q_X4_readRow (σ : sg_S) : p_X4_readRow σ := ⟨q_X3_readRowWord _, fun _ => q_X4_readRow_l20 600 0 _ _ (by decide) (by decide)⟩
theorem q_X4_readTable_l21 : ∀ (n k : Nat) (σ : sg_S), k ≤ 500 → 500 - k < n → p_X4_readTable_l21 n σ (N k) := by
  intro n
  induction n with
  | zero => intro k σ hk hn; omega
  | succ n ih =>
    intro k σ hk hn
    show p_X4_readTable_b21 (p_X4_readTable_l21 n) σ (N k)
    unfold p_X4_readTable_b21
    refine ⟨fun _ => q_X2_proposalHolds _, fun h2 => ?_⟩
    have h2 : ¬ N 500 ≤ N k := h2
    rw [N_le (by decide) (by omega)] at h2
    rw [N_inc]
    exact ⟨q_X3_seek _, fun _ => q_X2_proposalHolds _, fun _ => ⟨q_X4_readRow _, fun _ => ih _ _ (by omega) (by omega)⟩⟩
theorem q_X4_readTable (σ : sg_S) : p_X4_readTable σ := ⟨q_X2_beginProposal _, q_X4_readTable_l21 600 0 _ (by decide) (by decide)⟩
theorem q_X4_table (σ : sg_S) : p_X4_table σ := ⟨q_X4_readTable _, fun _ => ⟨q_X2_adoptProposal _, q_X4_emptyLog _⟩⟩
theorem q_X4_readEvent (σ : sg_S) : p_X4_readEvent σ := ⟨q_X3_takeByte _, fun _ _ => ⟨fun _ => q_X4_record _ _ _, fun _ => ⟨q_X3_readNumber _, fun _ _ => q_X4_record _ _ _⟩⟩⟩
theorem q_X4_events_a57 (σ : sg_S) (x1 : Int32) : p_X4_events_a57 σ x1 := fun _ => q_X4_replay _ _ _
theorem q_X4_events_l19 : ∀ (n k : Nat) (σ : sg_S) (x1 : Int32), k ≤ 500 → 500 - k < n → p_X4_events_l19 n σ x1 (N k) := by
  intro n
  induction n with
  | zero => intro k σ x1 hk hn; omega
  | succ n ih =>
    intro k σ x1 hk hn
    show p_X4_events_b19 (p_X4_events_l19 n) σ x1 (N k)
    unfold p_X4_events_b19
    refine ⟨fun _ => q_X4_events_a57 _ _, fun h2 => ?_⟩
    have h2 : ¬ N 500 ≤ N k := h2
    rw [N_le (by decide) (by omega)] at h2
    rw [N_inc]
    exact ⟨fun _ => q_X4_events_a57 _ _, fun _ => ⟨q_X3_seek _, fun _ => q_X4_events_a57 _ _, fun _ => ⟨q_X4_readEvent _, ih _ _ _ (by omega) (by omega)⟩⟩⟩
theorem q_X4_events (σ : sg_S) : p_X4_events σ := q_X4_events_l19 600 0 _ _ (by decide) (by decide)
theorem q_X4_leastCut_l2 (σ : sg_S) : ∀ (n k : Nat) (x1 : Int32), k ≤ 20 → 20 - k < n → p_X4_leastCut_l2 σ n x1 (N k) := by
  intro n
  induction n with
  | zero => intro k x1 hk hn; omega
  | succ n ih =>
    intro k x1 hk hn
    show p_X4_leastCut_b2 σ (p_X4_leastCut_l2 σ n) x1 (N k)
    unfold p_X4_leastCut_b2
    intro h2
    have h2 : ¬ N 20 ≤ N k := h2
    rw [N_le (by decide) (by omega)] at h2
    rw [N_inc]
    exact ⟨fun _ => ih _ _ (by omega) (by omega), fun _ => ⟨q_X0_targetIfCut _ _ _, fun _ => ih _ _ (by omega) (by omega)⟩⟩
theorem q_X4_leastCut (σ : sg_S) (x0 : Int32) : p_X4_leastCut σ x0 := q_X4_leastCut_l2 σ 600 1 _ (by decide) (by decide)
theorem q_X4_cut (σ : sg_S) (x0 x1 x2 : Int32) : p_X4_cut σ x0 x1 x2 := fun _ _ _ _ => q_X1_cutFact _ _ _ _
theorem q_X4_over (x0 x1 x2 : Int32) : p_X4_over x0 x1 x2 := fun _ _ _ _ => q_X1_overFact _ _ _
theorem q_X4_block (σ : sg_S) (x0 x1 : Int32) : p_X4_block σ x0 x1 := fun _ _ => q_X2_blockOvers _ _ _
theorem q_X4_fall (σ : sg_S) (x0 x1 x2 : Int32) : p_X4_fall σ x0 x1 x2 := fun _ _ => ⟨fun _ => q_X1_runsAtFall _ _ _, fun _ => ⟨fun _ => q_X1_ballsAtFall _ _ _, fun _ _ => q_X1_standOf _ _ _⟩⟩
theorem q_X4_lastStand (σ : sg_S) (x0 : Int32) : p_X4_lastStand σ x0 := fun _ _ => q_X1_openStand _ _
theorem q_X4_bestStand (σ : sg_S) (x0 : Int32) : p_X4_bestStand σ x0 := fun _ => q_X1_greatestStand _ _
theorem q_X4_made (x0 x1 : Int32) : p_X4_made x0 x1 := fun _ _ _ => q_X1_ballsThatMade _ _
theorem q_X4_bestOver (σ : sg_S) (x0 : Int32) : p_X4_bestOver σ x0 := fun _ => ⟨fun _ => q_X1_greatestOver _ _, fun _ _ => q_X1_greatestOver _ _⟩
theorem q_X4_projected (σ : sg_S) : p_X4_projected σ := fun _ => q_X0_projection _ _
theorem q_X4_target (σ : sg_S) : p_X4_target σ := q_X0_theTarget _ _
theorem q_X4_result (σ : sg_S) : p_X4_result σ := fun _ => q_X0_outcome _ _ _
theorem q_X4_margin (σ : sg_S) : p_X4_margin σ := fun _ => q_X0_leadAtEnd _ _
theorem q_X4_ifCut (σ : sg_S) (x0 : Int32) : p_X4_ifCut σ x0 := fun _ => q_X0_targetIfCut _ _ _
theorem q_X4_ifClosed (σ : sg_S) : p_X4_ifClosed σ := fun _ => q_X0_outcome _ _ _
theorem q_X4_ifRuns (σ : sg_S) (x0 : Int32) : p_X4_ifRuns σ x0 := fun _ _ _ => q_X0_targetBy _ _ _ _
theorem q_X4_rate (σ : sg_S) (x0 x1 : Int32) : p_X4_rate σ x0 x1 := fun _ _ => q_X4_inLeastTerms _ _ _
theorem q_X4_par (σ : sg_S) : p_X4_par σ := q_X0_parNow _ _
theorem q_X4_needs (σ : sg_S) (x0 : Int32) : p_X4_needs σ x0 := fun _ _ => ⟨q_X0_theTarget _ _, fun _ _ => ⟨fun _ => q_X4_inLeastTerms _ _ _, fun _ _ => q_X4_inLeastTerms _ _ _⟩⟩
