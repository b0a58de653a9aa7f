section
/-! Numbers that are not below 0, as Nats -/
abbrev N (n : Nat) : Int32 := Int32.ofNat n
theorem N_add (a b : Nat) : N a + N b = N (a + b) := (Int32.ofNat_add a b).symm
theorem N_mul (a b : Nat) : N a * N b = N (a * b) := (Int32.ofNat_mul a b).symm
theorem N_sub {a b : Nat} (h : b ≤ a) : N a - N b = N (a - b) := (Int32.ofNat_sub a b h).symm
theorem N_div {a b : Nat} (ha : a < 2147483648) (hb : b < 2147483648) : N a / N b = N (a / b) := (Int32.ofNat_div (by omega) (by omega)).symm
theorem N_rm {a b : Nat} (ha : a < 2147483648) (hb : b < 2147483648) : rm (N a) (N b) = N (a % b) := by
  show N a - N a / N b * N b = N (a % b)
  have h := Nat.div_mul_le_self a b
  rw [N_div ha hb, N_mul, N_sub h]
  congr 1
  have h2 := Nat.div_add_mod a b
  rw [Nat.mul_comm] at h2
  omega
theorem N_toInt {a : Nat} (ha : a < 2147483648) : (N a).toInt = a := Int32.toInt_ofNat_of_lt (by omega)
theorem N_lt {a b : Nat} (ha : a < 2147483648) (hb : b < 2147483648) : N a < N b ↔ a < b := by
  rw [Int32.lt_iff_toInt_lt, N_toInt ha, N_toInt hb]; omega
theorem N_le {a b : Nat} (ha : a < 2147483648) (hb : b < 2147483648) : N a ≤ N b ↔ a ≤ b := by
  rw [Int32.le_iff_toInt_le, N_toInt ha, N_toInt hb]; omega
theorem N_eq {a b : Nat} (ha : a < 2147483648) (hb : b < 2147483648) : N a = N b ↔ a = b := by
  rw [← Int32.toInt_inj, N_toInt ha, N_toInt hb]; omega
theorem N_nn {a : Nat} (ha : a < 2147483648) : ¬ N a < 0 := by
  show ¬ N a < N 0
  rw [N_lt ha (by decide)]; omega
theorem ni_N {a : Nat} (ha : a < 2147483648) : ni (N a) = a := Int32.toNatClampNeg_ofNat_of_lt (by omega)
theorem N_ni {x : Int32} (h : ¬ x < 0) : N (ni x) = x := Int32.ofNat_toNatClampNeg x (Int32.not_lt.mp h)
theorem ix_N {a L : Nat} (h : a < L) (hL : L ≤ 2147483648) : ix (N a) L := ⟨N_nn (by omega), by show ni (N a) < L; rw [ni_N (by omega)]; exact h⟩
theorem ix_ex {x : Int32} {L : Nat} (h : ix x L) : ∃ a, a < L ∧ x = N a := ⟨ni x, h.2, (N_ni h.1).symm⟩
theorem ni_lt {x : Int32} : ni x < 2147483648 := by
  have := Int32.toNatClampNeg_lt x
  omega
theorem ex_nn {x : Int32} (h0 : ¬ x < 0) : ∃ a, a < 2147483648 ∧ x = N a := ⟨ni x, ni_lt, (N_ni h0).symm⟩
theorem ex_lt (L : Nat) {x : Int32} (h0 : ¬ x < 0) (h1 : x < N L) (hL : L < 2147483648) : ∃ a, a < L ∧ x = N a := by
  obtain ⟨a, ha, rfl⟩ := ex_nn h0
  exact ⟨a, (N_lt ha hL).mp h1, rfl⟩
theorem ex_nle (L : Nat) {x : Int32} (h0 : ¬ x < 0) (h1 : ¬ N L ≤ x) (hL : L < 2147483648) : ∃ a, a < L ∧ x = N a := by
  obtain ⟨a, ha, rfl⟩ := ex_nn h0
  rw [N_le hL ha] at h1
  exact ⟨a, by omega, rfl⟩
theorem ex_le (L : Nat) {x : Int32} (h0 : ¬ x < 0) (h1 : x ≤ N L) (hL : L < 2147483648) : ∃ a, a ≤ L ∧ x = N a := by
  obtain ⟨a, ha, rfl⟩ := ex_nn h0
  exact ⟨a, (N_le ha hL).mp h1, rfl⟩
theorem ex_nlt (L : Nat) {x : Int32} (h0 : ¬ x < 0) (h1 : ¬ N L < x) (hL : L < 2147483648) : ∃ a, a ≤ L ∧ x = N a := by
  obtain ⟨a, ha, rfl⟩ := ex_nn h0
  rw [N_lt hL ha] at h1
  exact ⟨a, by omega, rfl⟩
theorem nn_of_le {x y : Int32} (h : ¬ x ≤ y) (hy : ¬ y < 0) : ¬ x < 0 := by
  rw [Int32.le_iff_toInt_le] at h
  rw [Int32.lt_iff_toInt_lt] at hy ⊢
  omega
theorem pos_nz {x : Int32} (h : ¬ x ≤ 0) : ¬ x = 0 := by
  intro e
  rw [e] at h
  exact h (Int32.le_refl _)
theorem pos_nz2 {x : Int32} (h : 0 < x) : ¬ x = 0 := by
  intro e
  rw [e] at h
  exact Int32.lt_irrefl h
theorem N_inc (k : Nat) : N k + 1 = N (k + 1) := N_add k 1
theorem up_eq {σ : sg_S} {q k : Nat} {v : Int32} : sg_up σ q k v q k = v := by simp [sg_up]
theorem up_ne {σ : sg_S} {q k q' k' : Nat} {v : Int32} (h : ¬ (q' = q ∧ k' = k)) : sg_up σ q k v q' k' = σ q' k' := by simp only [sg_up, if_neg h]
end
section
/-! THE CLASS'S METHODS RETURN ON EVERY STATE -/
theorem ix_3 {a b : Nat} (ha : a < 20) (hb : b < 3) : ix (3 * N a + N b) 60 := by
  rw [show (3 : Int32) = N 3 from rfl, N_mul, N_add]
  exact ix_N (by omega) (by decide)
theorem ix_5 {a b n L : Nat} (ha : a < n) (hb : b < 5) (hL : 5 * n ≤ L) (hL2 : L < 1000) : ix (5 * N a + N b) L := by
  rw [show (5 : Int32) = N 5 from rfl, N_mul, N_add]
  exact ix_N (by omega) (by omega)
theorem q_X1_addToOver (σ : sg_S) (q : Nat) (x0 x1 : Int32) : p_X1_addToOver σ q x0 x1 := by
  unfold p_X1_addToOver
  intro h1 h2 h3 h4
  obtain ⟨a, ha, ea⟩ := ex_nle 20 h1 h2 (by decide)
  obtain ⟨b, hb, eb⟩ := ex_nle 3 h3 h4 (by decide)
  rw [ea, eb]
  exact ⟨ix_3 ha hb, ix_3 ha hb⟩
theorem q_X1_addExtra (σ : sg_S) (q : Nat) : p_X1_addExtra σ q := q_X1_addToOver _ _ _ _
theorem q_X1_addBall (σ : sg_S) (q : Nat) (x0 : Int32) : p_X1_addBall σ q x0 := by
  unfold p_X1_addBall
  intro h1 h2
  obtain ⟨a, ha, ea⟩ := ex_le 6 h1 h2 (by decide)
  have h : ix x0 7 := by rw [ea]; exact ix_N (by omega) (by decide)
  exact ⟨h, h, q_X1_addToOver _ _ _ _, q_X1_addToOver _ _ _ _⟩
theorem addToOver_q {σ : sg_S} {q k : Nat} {x0 x1 : Int32} : s_X1_addToOver σ q x0 x1 q k = σ q k := by
  unfold s_X1_addToOver t_X1_addToOver_0
  repeat' split
  all_goals first | rfl | exact up_ne (by omega)
theorem addBall_q1 {σ : sg_S} {q : Nat} {x0 : Int32} : s_X1_addBall σ q x0 q 1 = σ q 1 := by
  unfold s_X1_addBall
  repeat' split
  all_goals first | rfl | skip
  unfold t_X1_addBall_4
  rw [up_ne (by omega)]
  unfold t_X1_addBall_3
  rw [up_ne (by omega)]
  unfold t_X1_addBall_2
  rw [addToOver_q]
  unfold t_X1_addBall_1
  rw [addToOver_q]
  unfold t_X1_addBall_0
  rw [up_ne (by omega)]
theorem q_X1_addWicket (σ : sg_S) (q : Nat) : p_X1_addWicket σ q := by
  unfold p_X1_addWicket
  intro h1 h2
  obtain ⟨a, ha, ea⟩ := ex_lt 10 h1 h2 (by decide)
  have e0 : t_X1_addWicket_0 σ q q 1 = N a := by
    unfold t_X1_addWicket_0
    rw [addBall_q1, addToOver_q, ea]
  have e1 : t_X1_addWicket_1 σ q q 1 = N a := by
    unfold t_X1_addWicket_1
    rw [up_ne (by omega), e0]
  refine ⟨q_X1_addToOver _ _ _ _, q_X1_addBall _ _ _, ?_, ?_⟩
  · rw [e0]; exact ix_N ha (by decide)
  · rw [e1]; exact ix_N ha (by decide)
theorem q_X1_addCut (σ : sg_S) (q : Nat) (x0 x1 : Int32) : p_X1_addCut σ q x0 x1 := by
  unfold p_X1_addCut
  intro h1 h2
  obtain ⟨a, ha, ea⟩ := ex_lt 19 h1 h2 (by decide)
  rw [ea]
  refine ⟨?_, ix_5 ha (b := 1) (by decide) (by decide) (by decide), ix_5 ha (b := 2) (by decide) (by decide) (by decide), ix_5 ha (b := 3) (by decide) (by decide) (by decide), ix_5 ha (b := 4) (by decide) (by decide) (by decide)⟩
  rw [show (5 : Int32) = N 5 from rfl, N_mul]
  exact ix_N (by omega) (by decide)
theorem hasCut_of {σ : sg_S} {q : Nat} {x0 : Int32} (h : ¬ v_X1_hasCut σ q x0 = 0) : ¬ x0 < 0 ∧ ¬ σ q 5 ≤ x0 ∧ ¬ 19 ≤ x0 := by
  unfold v_X1_hasCut at h
  by_cases h1 : x0 < 0
  · rw [if_pos h1] at h; exact absurd rfl h
  rw [if_neg h1] at h
  by_cases h2 : σ q 5 ≤ x0
  · rw [if_pos h2] at h; exact absurd rfl h
  rw [if_neg h2] at h
  by_cases h3 : 19 ≤ x0
  · rw [if_pos h3] at h; exact absurd rfl h
  exact ⟨h1, h2, h3⟩
theorem q_X1_cutFact (σ : sg_S) (q : Nat) (x0 x1 : Int32) : p_X1_cutFact σ q x0 x1 := by
  unfold p_X1_cutFact
  intro h1 h2 h3
  obtain ⟨g1, g2, g3⟩ := hasCut_of h1
  obtain ⟨a, ha, ea⟩ := ex_nle 19 g1 g3 (by decide)
  obtain ⟨b, hb, eb⟩ := ex_lt 5 h2 h3 (by decide)
  rw [ea, eb]
  exact ix_5 ha hb (by decide) (by decide)
theorem q_X1_overFact (q : Nat) (x0 x1 : Int32) : p_X1_overFact q x0 x1 := by
  unfold p_X1_overFact
  intro h1 h2 h3 h4
  obtain ⟨a, ha, ea⟩ := ex_nle 20 h1 h2 (by decide)
  obtain ⟨b, hb, eb⟩ := ex_lt 3 h3 h4 (by decide)
  rw [ea, eb]
  exact ix_3 ha hb
theorem q_X1_ballsThatMade (q : Nat) (x0 : Int32) : p_X1_ballsThatMade q x0 := by
  unfold p_X1_ballsThatMade
  intro h1 h2
  obtain ⟨a, ha, ea⟩ := ex_nlt 6 h1 h2 (by decide)
  rw [ea]
  exact ix_N (by omega) (by decide)
theorem hasFall_of {σ : sg_S} {q : Nat} {x0 : Int32} (h : ¬ v_X1_hasFall σ q x0 = 0) : ¬ x0 < 0 ∧ ¬ σ q 1 ≤ x0 ∧ ¬ 10 ≤ x0 := by
  unfold v_X1_hasFall at h
  by_cases h1 : x0 < 0
  · rw [if_pos h1] at h; exact absurd rfl h
  rw [if_neg h1] at h
  by_cases h2 : σ q 1 ≤ x0
  · rw [if_pos h2] at h; exact absurd rfl h
  rw [if_neg h2] at h
  by_cases h3 : 10 ≤ x0
  · rw [if_pos h3] at h; exact absurd rfl h
  exact ⟨h1, h2, h3⟩
theorem hasFall_ix {σ : sg_S} {q : Nat} {x0 : Int32} (h : ¬ v_X1_hasFall σ q x0 = 0) : ix x0 10 := by
  obtain ⟨g1, g2, g3⟩ := hasFall_of h
  obtain ⟨a, ha, ea⟩ := ex_nle 10 g1 g3 (by decide)
  rw [ea]
  exact ix_N ha (by decide)
theorem q_X1_runsAtFall (σ : sg_S) (q : Nat) (x0 : Int32) : p_X1_runsAtFall σ q x0 := fun h => hasFall_ix h
theorem q_X1_ballsAtFall (σ : sg_S) (q : Nat) (x0 : Int32) : p_X1_ballsAtFall σ q x0 := fun h => hasFall_ix h
theorem q_X1_standOf (σ : sg_S) (q : Nat) (x0 : Int32) : p_X1_standOf σ q x0 := ⟨q_X1_runsAtFall _ _ _, q_X1_runsAtFall _ _ _⟩
theorem q_X1_openStand (σ : sg_S) (q : Nat) : p_X1_openStand σ q := q_X1_runsAtFall _ _ _
theorem q_X1_greatestStand_l7 (σ : sg_S) (q : Nat) : ∀ (n k : Nat) (x1 : Int32), k ≤ 10 → 10 - k < n → p_X1_greatestStand_l7 σ q n x1 (N k) := by
  intro n
  induction n with
  | zero => intro k x1 hk hn; omega
  | succ n ih =>
    intro k x1 hk hn
    show p_X1_greatestStand_b7 σ q (p_X1_greatestStand_l7 σ q n) x1 (N k)
    unfold p_X1_greatestStand_b7
    intro h1 h2
    have h2 : ¬ N 10 ≤ N k := h2
    rw [N_le (by decide) (by omega)] at h2
    refine ⟨q_X1_standOf _ _ _, ?_⟩
    rw [N_inc]
    exact ih _ _ (by omega) (by omega)
theorem q_X1_greatestStand (σ : sg_S) (q : Nat) : p_X1_greatestStand σ q := ⟨q_X1_openStand _ _, q_X1_greatestStand_l7 σ q 600 0 _ (by decide) (by decide)⟩
theorem q_X1_greatestOver_l4 (σ : sg_S) (q : Nat) : ∀ (n k : Nat) (x1 : Int32), k ≤ 20 → 20 - k < n → p_X1_greatestOver_l4 σ q n x1 (N k) := by
  intro n
  induction n with
  | zero => intro k x1 hk hn; omega
  | succ n ih =>
    intro k x1 hk hn
    show p_X1_greatestOver_b4 σ q (p_X1_greatestOver_l4 σ q n) x1 (N k)
    unfold p_X1_greatestOver_b4
    intro h2
    have h2 : ¬ N 20 ≤ N k := h2
    rw [N_le (by decide) (by omega)] at h2
    refine ⟨q_X1_overFact _ _ _, q_X1_overFact _ _ _, ?_, ?_⟩
    · intro _
      rw [N_inc]
      exact ih _ _ (by omega) (by omega)
    · intro _
      rw [N_inc]
      exact ih _ _ (by omega) (by omega)
theorem q_X1_greatestOver (σ : sg_S) (q : Nat) : p_X1_greatestOver σ q := q_X1_greatestOver_l4 σ q 600 1 _ (by decide) (by decide)
theorem q_X2_number (x0 x1 : Int32) : p_X2_number x0 x1 := by
  unfold p_X2_number
  intro h1 h2 h3 h4
  obtain ⟨a, ha, ea⟩ := ex_nle 10 h1 h2 (by decide)
  obtain ⟨b, hb, eb⟩ := ex_lt 5 h3 h4 (by decide)
  rw [ea, eb]
  exact ix_5 ha hb (by decide) (by decide)
theorem nn_of_npos {x : Int32} (h : ¬ x ≤ 0) : ¬ x < 0 := by
  intro h2
  exact h (Int32.le_of_lt h2)
theorem wix0 {a w : Nat} (ha : a ≤ 120) (hw : w < 10) : ix (5 * N w + N a / 30) 50 := by
  rw [show (5 : Int32) = N 5 from rfl, show (30 : Int32) = N 30 from rfl, N_div (by omega) (by decide), N_mul, N_add]
  exact ix_N (by omega) (by decide)
theorem wix1 {a w : Nat} (ha : a ≤ 120) (hw : w < 10) (hr : ¬ rm (N a) 30 = 0) : ix (5 * N w + N a / 30 + 1) 50 := by
  rw [show (30 : Int32) = N 30 from rfl, N_rm (by omega) (by decide), show (0 : Int32) = N 0 from rfl, N_eq (by omega) (by decide)] at hr
  rw [show (5 : Int32) = N 5 from rfl, show (30 : Int32) = N 30 from rfl, N_div (by omega) (by decide), N_mul, N_add, N_inc]
  exact ix_N (by omega) (by decide)
theorem q_X2_worthOf (x0 x1 : Int32) : p_X2_worthOf x0 x1 := by
  unfold p_X2_worthOf
  intro h1 h2 h3 h4
  obtain ⟨a, ha, ea⟩ := ex_nlt 120 (nn_of_npos h1) h2 (by decide)
  obtain ⟨w, hw, ew⟩ := ex_lt 10 h3 h4 (by decide)
  subst ea ew
  exact ⟨fun h => ⟨wix1 ha hw h, wix0 ha hw, wix0 ha hw⟩, fun _ => wix0 ha hw⟩
theorem q_X2_worthOfOvers (x0 : Int32) : p_X2_worthOfOvers x0 := q_X2_worthOf _ _
theorem ix5_of {x0 : Int32} (h1 : ¬ x0 < 0) (h2 : ¬ 5 ≤ x0) : ix x0 5 := by
  obtain ⟨a, ha, ea⟩ := ex_nle 5 h1 h2 (by decide)
  rw [ea]
  exact ix_N ha (by decide)
theorem q_X2_setting (x0 : Int32) : p_X2_setting x0 := fun h1 h2 => ix5_of h1 h2
theorem q_X2_allows (x0 x1 : Int32) : p_X2_allows x0 x1 := fun h1 h2 => ⟨ix5_of h1 h2, fun _ => ix5_of h1 h2⟩
theorem q_X2_change (x0 x1 : Int32) : p_X2_change x0 x1 := fun h1 h2 => ix5_of h1 h2
theorem q_X2_blockOvers_l17 (σ : sg_S) : ∀ (n k : Nat) (x1 x2 x3 x4 x5 : Int32), k ≤ 3 → 3 - k < n → p_X2_blockOvers_l17 σ n x1 x2 x3 x4 x5 (N k) := by
  intro n
  induction n with
  | zero => intro k x1 x2 x3 x4 x5 hk hn; omega
  | succ n ih =>
    intro k x1 x2 x3 x4 x5 hk hn
    show p_X2_blockOvers_b17 σ (p_X2_blockOvers_l17 σ n) x1 x2 x3 x4 x5 (N k)
    unfold p_X2_blockOvers_b17
    intro h2
    have h2 : ¬ N 3 ≤ N k := h2
    rw [N_le (by decide) (by omega)] at h2
    rw [N_inc]
    exact ⟨fun _ => ih _ _ _ _ _ _ (by omega) (by omega), fun _ => ⟨fun _ => ih _ _ _ _ _ _ (by omega) (by omega), fun _ => ⟨fun _ => ih _ _ _ _ _ _ (by omega) (by omega), fun _ => ih _ _ _ _ _ _ (by omega) (by omega)⟩⟩⟩
theorem q_X2_blockOvers (σ : sg_S) (x0 x1 : Int32) : p_X2_blockOvers σ x0 x1 := q_X2_blockOvers_l17 σ 600 0 _ _ _ _ _ (by decide) (by decide)
theorem q_X2_beginProposal_l2 : ∀ (n k : Nat) (σ : sg_S), k ≤ 50 → 50 - k < n → p_X2_beginProposal_l2 n σ (N k) := by
  intro n
  induction n with
  | zero => intro k σ hk hn; omega
  | succ n ih =>
    intro k σ hk hn
    show p_X2_beginProposal_b2 (p_X2_beginProposal_l2 n) σ (N k)
    unfold p_X2_beginProposal_b2
    intro h2
    have h2 : ¬ N 50 ≤ N k := h2
    rw [N_le (by decide) (by omega)] at h2
    rw [N_inc]
    exact ⟨ix_N (by omega) (by decide), ix_N (by omega) (by decide), ih _ _ (by omega) (by omega)⟩
theorem q_X2_beginProposal (σ : sg_S) : p_X2_beginProposal σ := q_X2_beginProposal_l2 600 0 _ (by decide) (by decide)
theorem q_X2_adoptProposal_l2 : ∀ (n k : Nat) (σ : sg_S), k ≤ 50 → 50 - k < n → p_X2_adoptProposal_l2 n σ (N k) := by
  intro n
  induction n with
  | zero => intro k σ hk hn; omega
  | succ n ih =>
    intro k σ hk hn
    show p_X2_adoptProposal_b2 (p_X2_adoptProposal_l2 n) σ (N k)
    unfold p_X2_adoptProposal_b2
    intro h2
    have h2 : ¬ N 50 ≤ N k := h2
    rw [N_le (by decide) (by omega)] at h2
    rw [N_inc]
    exact ⟨ix_N (by omega) (by decide), ix_N (by omega) (by decide), ih _ _ (by omega) (by omega)⟩
theorem q_X2_adoptProposal (σ : sg_S) : p_X2_adoptProposal σ := q_X2_adoptProposal_l2 600 0 _ (by decide) (by decide)
theorem q_X2_propose (x0 x1 x2 : Int32) : p_X2_propose x0 x1 x2 := by
  unfold p_X2_propose
  intro h1 h2 h3 h4
  obtain ⟨a, ha, ea⟩ := ex_nle 10 h1 h2 (by decide)
  have h3' : ¬ x1 < 0 := by
    intro h
    refine h3 ?_
    rw [Int32.lt_iff_toInt_lt] at h ⊢
    have e0 : (0 : Int32).toInt = 0 := rfl
    have e1 : (1 : Int32).toInt = 1 := rfl
    omega
  obtain ⟨b, hb, eb⟩ := ex_nle 5 h3' h4 (by decide)
  rw [ea, eb]
  exact ix_5 ha hb (by decide) (by decide)
theorem q_X2_proposalHolds_a33 (σ : sg_S) {k : Nat} (hk : k < 50) {kp : Int32 → Prop} (h : kp (N (k + 1))) : p_X2_proposalHolds_a33 σ kp (N k) := by
  unfold p_X2_proposalHolds_a33
  rw [N_inc]
  refine ⟨fun _ => h, fun h5 => ⟨ix_N (by omega) (by decide), ?_, fun _ => h⟩⟩
  have h5 : ¬ N k < N 5 := h5
  rw [N_lt (by omega) (by decide)] at h5
  rw [show (5 : Int32) = N 5 from rfl, N_sub (by omega)]
  exact ix_N (by omega) (by decide)
theorem q_X2_proposalHolds_l2 (σ : sg_S) : ∀ (n k : Nat), k ≤ 50 → 50 - k < n → p_X2_proposalHolds_l2 σ n (N k) := by
  intro n
  induction n with
  | zero => intro k hk hn; omega
  | succ n ih =>
    intro k hk hn
    show p_X2_proposalHolds_b2 σ (p_X2_proposalHolds_l2 σ n) (N k)
    unfold p_X2_proposalHolds_b2
    intro h2
    have h2 : ¬ N 50 ≤ N k := h2
    rw [N_le (by decide) (by omega)] at h2
    have hz := q_X2_proposalHolds_a33 σ (k := k) (by omega) (ih (k + 1) (by omega) (by omega))
    refine ⟨fun _ => hz, fun h5 => ⟨ix_N (by omega) (by decide), ?_, fun _ => hz⟩⟩
    rw [show (5 : Int32) = N 5 from rfl, N_rm (by omega) (by decide), show (0 : Int32) = N 0 from rfl, N_le (by omega) (by decide)] at h5
    rw [show (1 : Int32) = N 1 from rfl, N_sub (by omega)]
    exact ix_N (by omega) (by decide)
theorem q_X2_proposalHolds (σ : sg_S) : p_X2_proposalHolds σ := q_X2_proposalHolds_l2 σ 600 0 (by decide) (by decide)
end
section
theorem ix_of_nle {x : Int32} (L : Nat) (hL : L < 2147483648) (h1 : ¬ x < 0) (h2 : ¬ N L ≤ x) : ix x L := by
  obtain ⟨a, ha, ea⟩ := ex_nle L h1 h2 hL
  rw [ea]
  exact ix_N ha (by omega)
theorem q_X3_append_l3 : ∀ (n k : Nat) (σ : sg_S) (x1 : Int32), k ≤ 4 → k < n → p_X3_append_l3 n σ x1 (N (8 * k) - 8) := by
  intro n
  induction n with
  | zero => intro k σ x1 hk hn; omega
  | succ n ih =>
    intro k σ x1 hk hn
    show p_X3_append_b3 (p_X3_append_l3 n) σ x1 (N (8 * k) - 8)
    unfold p_X3_append_b3
    intro h2
    cases k with
    | zero => exact absurd (show N (8 * 0) - 8 < 0 by decide) h2
    | succ k =>
      have e : N (8 * (k + 1)) - 8 + (-8) = N (8 * k) - 8 := by
        have e2 : N (8 * (k + 1)) = N (8 * k) + 8 := by
          rw [show (8 : Int32) = N 8 from rfl, N_add]
          congr 1
        rw [e2, Int32.add_sub_cancel, Int32.sub_eq_add_neg]
      rw [e]
      refine ⟨fun _ => ih k _ _ (by omega) (by omega), fun g1 => ⟨fun _ => ih k _ _ (by omega) (by omega), fun g2 => ⟨ix_of_nle 500 (by decide) g1 g2, ih k _ _ (by omega) (by omega)⟩⟩⟩
theorem q_X3_append (σ : sg_S) (x0 : Int32) : p_X3_append σ x0 := q_X3_append_l3 600 4 σ x0 (by decide) (by decide)
theorem q_X3_byteAt (σ : sg_S) (x0 : Int32) : p_X3_byteAt σ x0 := fun h1 _ h3 => ix_of_nle 500 (by decide) h1 h3
/-- a byte that is there -/
theorem byteAt_of {σ : sg_S} {x : Int32} (h : ¬ v_X3_byteAt σ x = -1) : ∃ a, a < 500 ∧ x = N a ∧ ¬ σ 5 1 ≤ x := by
  unfold v_X3_byteAt at h
  by_cases h1 : x < 0
  · rw [if_pos h1] at h; exact absurd rfl h
  rw [if_neg h1] at h
  by_cases h2 : σ 5 1 ≤ x
  · rw [if_pos h2] at h; exact absurd rfl h
  rw [if_neg h2] at h
  by_cases h3 : 500 ≤ x
  · rw [if_pos h3] at h; exact absurd rfl h
  obtain ⟨a, ha, ea⟩ := ex_nle 500 h1 h3 (by decide)
  exact ⟨a, ha, ea, h2⟩
theorem q_X3_seek_l0 : ∀ (n k : Nat) (σ : sg_S), σ 5 4 = N k → k ≤ 500 → 500 - k < n → p_X3_seek_l0 n σ := by
  intro n
  induction n with
  | zero => intro k σ h hk hn; omega
  | succ n ih =>
    intro k σ h hk hn
    show p_X3_seek_b0 (p_X3_seek_l0 n) σ
    unfold p_X3_seek_b0
    intro h2
    have key : ¬ v_X3_byteAt σ (σ 5 4) = -1 → p_X3_seek_l0 n (sg_up σ 5 4 (σ 5 4 + 1)) := by
      intro g
      obtain ⟨a, ha, ea, -⟩ := byteAt_of g
      have hka : k = a := (N_eq (by omega) (by omega)).mp (h.symm.trans ea)
      refine ih (k + 1) _ ?_ (by omega) (by omega)
      rw [up_eq, h, N_inc]
    refine ⟨q_X3_byteAt _ _, fun e => key (by rw [e]; decide), fun _ => ⟨q_X3_byteAt _ _, fun e => key ?_⟩⟩
    have e := Decidable.not_not.mp e
    rw [e]; decide
theorem q_X3_seek (σ : sg_S) : p_X3_seek σ := by
  show p_X3_seek_b0 (p_X3_seek_l0 599) σ
  unfold p_X3_seek_b0
  intro h2
  have key : ¬ v_X3_byteAt σ (σ 5 4) = -1 → p_X3_seek_l0 599 (sg_up σ 5 4 (σ 5 4 + 1)) := by
    intro g
    obtain ⟨a, ha, ea, -⟩ := byteAt_of g
    refine q_X3_seek_l0 599 (a + 1) _ ?_ (by omega) (by omega)
    rw [up_eq, ea, N_inc]
  refine ⟨q_X3_byteAt _ _, fun e => key (by rw [e]; decide), fun _ => ⟨q_X3_byteAt _ _, fun e => key ?_⟩⟩
  have e := Decidable.not_not.mp e
  rw [e]; decide
theorem q_X3_takeByte (σ : sg_S) : p_X3_takeByte σ := q_X3_byteAt _ _
theorem q_X3_readByte (σ : sg_S) (x0 : Int32) : p_X3_readByte σ x0 := ⟨q_X3_seek _, fun _ => q_X3_takeByte _⟩
theorem q_X3_readRowWord_a59 (σ : sg_S) : p_X3_readRowWord_a59 σ := fun _ => ⟨q_X3_byteAt _ _, fun _ => ⟨q_X3_byteAt _ _, fun _ => q_X3_byteAt _ _⟩⟩
theorem byteAt_ge {σ : sg_S} {x y : Int32} (hy : -1 < y) (h : ¬ v_X3_byteAt σ x < y) : ¬ v_X3_byteAt σ x = -1 := by
  intro e
  rw [e] at h
  exact h hy
theorem q_X3_readRowWord_b9 {kp : sg_S → Prop} (σ : sg_S) (h : ¬ v_X3_byteAt σ (σ 5 4) = -1 → kp (sg_up σ 5 4 (σ 5 4 + 1))) : p_X3_readRowWord_b9 kp σ :=
  ⟨fun _ => q_X3_readRowWord_a59 _, fun _ => ⟨q_X3_byteAt _ _, fun _ => q_X3_readRowWord_a59 _, fun g => ⟨q_X3_byteAt _ _, fun _ => q_X3_readRowWord_a59 _, fun _ => h (byteAt_ge (by decide) g)⟩⟩⟩
theorem q_X3_readRowWord_l9 : ∀ (n k : Nat) (σ : sg_S), σ 5 4 = N k → k ≤ 500 → 500 - k < n → p_X3_readRowWord_l9 n σ := by
  intro n
  induction n with
  | zero => intro k σ h hk hn; omega
  | succ n ih =>
    intro k σ h hk hn
    refine q_X3_readRowWord_b9 σ (fun g => ?_)
    obtain ⟨a, ha, ea, -⟩ := byteAt_of g
    have hka : k = a := (N_eq (by omega) (by omega)).mp (h.symm.trans ea)
    refine ih (k + 1) _ ?_ (by omega) (by omega)
    rw [up_eq, h, N_inc]
theorem q_X3_readRowWord (σ : sg_S) : p_X3_readRowWord σ := by
  refine ⟨q_X3_seek _, fun _ => q_X3_readRowWord_b9 (kp := p_X3_readRowWord_l9 599) _ (fun g => ?_)⟩
  obtain ⟨a, ha, ea, -⟩ := byteAt_of g
  refine q_X3_readRowWord_l9 599 (a + 1) _ ?_ (by omega) (by omega)
  rw [up_eq, ea, N_inc]
theorem q_X3_readNumber_b10 {kp : sg_S → Prop} (σ : sg_S) (h : ¬ v_X3_byteAt σ (σ 5 4) = -1 → ∀ σ', σ' 5 4 = σ 5 4 + 1 → kp σ') : p_X3_readNumber_b10 kp σ := by
  unfold p_X3_readNumber_b10
  refine fun _ => ⟨q_X3_byteAt _ _, fun g => ⟨q_X3_byteAt _ _, fun _ => ?_⟩⟩
  have h := h (byteAt_ge (by decide) g)
  have e0 : ∀ y, p_X3_readNumber_a65 kp σ y := by
    intro y
    unfold p_X3_readNumber_a65
    refine ⟨fun _ => h _ ?_, fun _ => ⟨q_X3_byteAt _ _, h _ ?_⟩⟩
    · unfold t_X3_readNumber_0
      rw [up_eq, up_ne (by decide)]
    · unfold t_X3_readNumber_2 t_X3_readNumber_1
      rw [up_eq, up_ne (by decide)]
  exact ⟨fun _ => e0 _, fun _ => e0 _⟩
theorem q_X3_readNumber_l10 : ∀ (n k : Nat) (σ : sg_S), σ 5 4 = N k → k ≤ 500 → 500 - k < n → p_X3_readNumber_l10 n σ := by
  intro n
  induction n with
  | zero => intro k σ h hk hn; omega
  | succ n ih =>
    intro k σ h hk hn
    refine q_X3_readNumber_b10 σ (fun g σ' hσ => ?_)
    obtain ⟨a, ha, ea, -⟩ := byteAt_of g
    have hka : k = a := (N_eq (by omega) (by omega)).mp (h.symm.trans ea)
    refine ih (k + 1) _ ?_ (by omega) (by omega)
    rw [hσ, h, N_inc]
theorem q_X3_readNumber (σ : sg_S) : p_X3_readNumber σ := by
  refine ⟨q_X3_seek _, q_X3_readNumber_b10 (kp := p_X3_readNumber_l10 599) _ (fun g σ' hσ => ?_)⟩
  obtain ⟨a, ha, ea, -⟩ := byteAt_of g
  refine q_X3_readNumber_l10 599 (a + 1) _ ?_ (by omega) (by omega)
  rw [hσ, ea, N_inc]
theorem q_X4_feed (σ : sg_S) (x0 x1 x2 x3 x4 : Int32) : p_X4_feed σ x0 x1 x2 x3 x4 := fun _ => ⟨q_X3_append _ _, q_X3_append _ _, q_X3_append _ _, q_X3_append _ _, q_X3_append _ _⟩
theorem q_X4_count (x0 : Int32) : p_X4_count x0 := fun _ _ _ _ _ _ => q_X2_setting _
theorem q_X4_worth (x0 x1 : Int32) : p_X4_worth x0 x1 := fun _ _ _ _ => q_X2_worthOf _ _
theorem q_X4_told (x0 x1 : Int32) : p_X4_told x0 x1 := fun _ _ _ _ => q_X2_number _ _
theorem q_X4_blockNow (σ : sg_S) : p_X4_blockNow σ := fun _ => ⟨q_X2_blockOvers _ _ _, fun _ => q_X2_blockOvers _ _ _⟩
theorem q_X4_commonDivisor_l7 : ∀ (n k : Nat) (x2 x3 : Int32), k ≤ 64 → 64 - k < n → p_X4_commonDivisor_l7 n x2 x3 (N k) := by
  intro n
  induction n with
  | zero => intro k x2 x3 hk hn; omega
  | succ n ih =>
    intro k x2 x3 hk hn
    show p_X4_commonDivisor_b7 (p_X4_commonDivisor_l7 n) x2 x3 (N k)
    unfold p_X4_commonDivisor_b7
    intro h2 h3
    have h2 : ¬ N 64 ≤ N k := h2
    rw [N_le (by decide) (by omega)] at h2
    rw [N_inc]
    exact ⟨h3, ih _ _ _ (by omega) (by omega)⟩
theorem q_X4_commonDivisor (x0 x1 : Int32) : p_X4_commonDivisor x0 x1 := q_X4_commonDivisor_l7 600 0 _ _ (by decide) (by decide)
theorem q_X4_inLeastTerms (x0 x1 x2 : Int32) : p_X4_inLeastTerms x0 x1 x2 := ⟨q_X4_commonDivisor _ _, fun h => ⟨fun _ => pos_nz2 h, fun _ => pos_nz2 h⟩⟩
theorem q_X0_worthLeft (σ : sg_S) (c : Nat) : p_X0_worthLeft σ c := q_X2_worthOf _ _
theorem q_X0_lossByCut (σ : sg_S) (c : Nat) (x0 : Int32) : p_X0_lossByCut σ c x0 := ⟨q_X0_worthLeft _ _, q_X2_worthOf _ _⟩
theorem q_X0_blockFact_l75 (σ : sg_S) (c : Nat) : ∀ (n k : Nat) (x3 : Int32) (r4 : Nat) (x6 x7 : Int32), k ≤ 20 → 20 - k < n → p_X0_blockFact_l75 σ c n x3 r4 x6 x7 (N k) := by
  intro n
  induction n with
  | zero => intro k x3 r4 x6 x7 hk hn; omega
  | succ n ih =>
    intro k x3 r4 x6 x7 hk hn
    show p_X0_blockFact_b75 σ c (p_X0_blockFact_l75 σ c n) x3 r4 x6 x7 (N k)
    unfold p_X0_blockFact_b75
    intro h1 h2
    have h2 : ¬ N 20 ≤ N k := h2
    rw [N_le (by decide) (by omega)] at h2
    rw [N_inc]
    exact ⟨q_X1_overFact _ _ _, ih _ _ _ _ _ (by omega) (by omega)⟩
/-- any start: below 0 some steps more, but these are many: so only starts that are not below -500 -/
theorem q_X0_blockFact_l75b (σ : sg_S) (c : Nat) : ∀ (n k : Nat) (x3 : Int32) (r4 : Nat) (x6 x7 x8 : Int32), x8.toInt = 20 - (k : Int) → k < n → k < 10000 → p_X0_blockFact_l75 σ c n x3 r4 x6 x7 x8 := by
  intro n
  induction n with
  | zero => intro k x3 r4 x6 x7 x8 he hn; omega
  | succ n ih =>
    intro k x3 r4 x6 x7 x8 he hn hk
    show p_X0_blockFact_b75 σ c (p_X0_blockFact_l75 σ c n) x3 r4 x6 x7 x8
    unfold p_X0_blockFact_b75
    intro h1 h2
    rw [Int32.le_iff_toInt_le, show (20 : Int32).toInt = 20 from rfl] at h2
    refine ⟨q_X1_overFact _ _ _, ih (k - 1) _ _ _ _ _ ?_ (by omega) (by omega)⟩
    rw [Int32.toInt_add, he, show (1 : Int32).toInt = 1 from rfl, Int.bmod_def]
    omega
end
section
/-! WHAT BALLS ARE WORTH, in Nats -/
def wN (T : Nat → Nat) (b w : Nat) : Nat := if w = 10 then 0 else 30 * T (5 * w + b / 30) + (b % 30) * (T (5 * w + b / 30 + 1) - T (5 * w + b / 30))
/-- a table that can be -/
def TabOK (T : Nat → Nat) : Prop :=
  (∀ w, w < 10 → T (5 * w) = 0 ∧ 1 ≤ T (5 * w + 1) ∧ T (5 * w + 1) ≤ T (5 * w + 2) ∧ T (5 * w + 2) ≤ T (5 * w + 3) ∧ T (5 * w + 3) ≤ T (5 * w + 4) ∧ T (5 * w + 4) ≤ 1000) ∧ ∀ w, w < 9 → ∀ k, k < 5 → T (5 * (w + 1) + k) ≤ T (5 * w + k)
theorem Tab_up {T : Nat → Nat} (h : TabOK T) {w k : Nat} (hw : w < 10) (hk : k < 4) : T (5 * w + k) ≤ T (5 * w + k + 1) := by
  obtain ⟨h0, h1, h2, h3, h4, h5⟩ := h.1 w hw
  rcases (show k = 0 ∨ k = 1 ∨ k = 2 ∨ k = 3 by omega) with rfl | rfl | rfl | rfl
  · rw [Nat.add_zero, h0]; exact Nat.zero_le _
  · exact h2
  · exact h3
  · exact h4
theorem Tab_top {T : Nat → Nat} (h : TabOK T) {w k : Nat} (hw : w < 10) (hk : k < 5) : T (5 * w + k) ≤ T (5 * w + 4) := by
  obtain ⟨h0, h1, h2, h3, h4, h5⟩ := h.1 w hw
  rcases (show k = 0 ∨ k = 1 ∨ k = 2 ∨ k = 3 ∨ k = 4 by omega) with rfl | rfl | rfl | rfl | rfl
  · rw [Nat.add_zero, h0]; exact Nat.zero_le _
  all_goals omega
theorem Tab_1000 {T : Nat → Nat} (h : TabOK T) {w k : Nat} (hw : w < 10) (hk : k < 5) : T (5 * w + k) ≤ 1000 :=
  Nat.le_trans (Tab_top h hw hk) (h.1 w hw).2.2.2.2.2
theorem Tab_all {T : Nat → Nat} (h : TabOK T) {k : Nat} (hk : k < 50) : T k ≤ 1000 := by
  have e : k = 5 * (k / 5) + k % 5 := by omega
  rw [e]
  exact Tab_1000 h (by omega) (by omega)
theorem Tab_down {T : Nat → Nat} (h : TabOK T) {w k : Nat} (hw : w < 9) (hk : k < 5) : T (5 * (w + 1) + k) ≤ T (5 * w + k) := h.2 w hw k hk
theorem Tab_full {T : Nat → Nat} (h : TabOK T) : 1 ≤ T 4 := by
  obtain ⟨h0, h1, h2, h3, h4, h5⟩ := h.1 0 (by decide)
  have h2 : T 1 ≤ T 2 := h2
  have h3 : T 2 ≤ T 3 := h3
  have h4 : T 3 ≤ T 4 := h4
  have h1 : 1 ≤ T 1 := h1
  omega
theorem lin_eq {x y r : Nat} (hxy : x ≤ y) (hr : r ≤ 30) : 30 * x + r * (y - x) = (30 - r) * x + r * y := by
  obtain ⟨d, rfl⟩ := Nat.exists_eq_add_of_le hxy
  obtain ⟨e, he⟩ := Nat.exists_eq_add_of_le hr
  have he2 : 30 - r = e := by omega
  rw [Nat.add_sub_cancel_left, he2, Nat.mul_add]
  have h1 : (r + e) * x = r * x + e * x := Nat.add_mul r e x
  rw [← he] at h1
  omega
theorem wN_le {T : Nat → Nat} (h : TabOK T) {b w : Nat} (hb : b ≤ 120) (hw : w ≤ 10) : wN T b w ≤ 30000 := by
  unfold wN
  by_cases e : w = 10
  · rw [if_pos e]; exact Nat.zero_le _
  rw [if_neg e]
  by_cases hk : b / 30 < 4
  · have h1 := Tab_up h (w := w) (k := b / 30) (by omega) hk
    have h2 := Tab_1000 h (w := w) (k := b / 30 + 1) (by omega) (by omega)
    have h3 : (b % 30) * (T (5 * w + b / 30 + 1) - T (5 * w + b / 30)) ≤ 30 * (T (5 * w + b / 30 + 1) - T (5 * w + b / 30)) := Nat.mul_le_mul_right _ (by omega)
    rw [← Nat.add_assoc] at h2
    omega
  · have hb4 : b / 30 = 4 := by omega
    have hr : b % 30 = 0 := by omega
    have h2 := Tab_1000 h (w := w) (k := 4) (by omega) (by omega)
    rw [hb4, hr, Nat.zero_mul]
    omega
theorem wN_zero {T : Nat → Nat} (h : TabOK T) {w : Nat} (hw : w ≤ 10) : wN T 0 w = 0 := by
  unfold wN
  by_cases e : w = 10
  · rw [if_pos e]
  rw [if_neg e]
  have h0 := (h.1 w (by omega)).1
  simp [h0]
theorem wN_step {T : Nat → Nat} (h : TabOK T) {b w : Nat} (hb : b < 120) (hw : w ≤ 10) : wN T b w ≤ wN T (b + 1) w := by
  unfold wN
  by_cases e : w = 10
  · rw [if_pos e, if_pos e]; exact Nat.le_refl _
  rw [if_neg e, if_neg e]
  have h1 := Tab_up h (w := w) (k := b / 30) (by omega) (by omega)
  by_cases hr : b % 30 = 29
  · have e1 : (b + 1) / 30 = b / 30 + 1 := by omega
    have e2 : (b + 1) % 30 = 0 := by omega
    rw [e1, e2, hr, Nat.zero_mul, ← Nat.add_assoc]
    omega
  · have e1 : (b + 1) / 30 = b / 30 := by omega
    have e2 : (b + 1) % 30 = b % 30 + 1 := by omega
    rw [e1, e2, Nat.add_mul]
    omega
theorem wN_mono {T : Nat → Nat} (h : TabOK T) {w : Nat} (hw : w ≤ 10) : ∀ (d b : Nat), b + d ≤ 120 → wN T b w ≤ wN T (b + d) w := by
  intro d
  induction d with
  | zero => intro b _; exact Nat.le_refl _
  | succ d ih =>
    intro b hb
    exact Nat.le_trans (ih b (by omega)) (wN_step h (by omega) hw)
theorem wN_mono' {T : Nat → Nat} (h : TabOK T) {w a b : Nat} (hw : w ≤ 10) (hab : a ≤ b) (hb : b ≤ 120) : wN T a w ≤ wN T b w := by
  obtain ⟨d, rfl⟩ := Nat.exists_eq_add_of_le hab
  exact wN_mono h hw d a hb
theorem wN_wicket {T : Nat → Nat} (h : TabOK T) {b w : Nat} (hb : b ≤ 120) (hw : w < 10) : wN T b (w + 1) ≤ wN T b w := by
  unfold wN
  by_cases e : w + 1 = 10
  · rw [if_pos e]; exact Nat.zero_le _
  rw [if_neg e, if_neg (by omega)]
  by_cases hk : b / 30 < 4
  · have h1 := Tab_up h (w := w) (k := b / 30) (by omega) hk
    have h1' := Tab_up h (w := w + 1) (k := b / 30) (by omega) hk
    have h2 := Tab_down h (w := w) (k := b / 30) (by omega) (by omega)
    have h3 := Tab_down h (w := w) (k := b / 30 + 1) (by omega) (by omega)
    rw [lin_eq h1 (by omega), lin_eq h1' (by omega)]
    rw [← Nat.add_assoc, ← Nat.add_assoc] at h3
    exact Nat.add_le_add (Nat.mul_le_mul_left _ h2) (Nat.mul_le_mul_left _ h3)
  · have hb4 : b / 30 = 4 := by omega
    have hr : b % 30 = 0 := by omega
    have h2 := Tab_down h (w := w) (k := 4) (by omega) (by omega)
    rw [hb4, hr, Nat.zero_mul, Nat.zero_mul]
    omega
/-- what the tables in the state say -/
def TabAt (σ : sg_S) (q : Nat) (T : Nat → Nat) : Prop := ∀ k, k < 50 → σ q k = N (T k)
theorem ix_w {b w : Nat} (hb : b ≤ 120) (hw : w < 10) : 5 * N w + N b / 30 = N (5 * w + b / 30) := by
  rw [show (5 : Int32) = N 5 from rfl, show (30 : Int32) = N 30 from rfl, N_div (by omega) (by decide), N_mul, N_add]
theorem rm30 {b : Nat} (hb : b ≤ 120) : rm (N b) 30 = N (b % 30) := N_rm (b := 30) (by omega) (by decide)
theorem wv_eq {σ : sg_S} {q : Nat} {T : Nat → Nat} (hT : TabAt σ q T) (h : TabOK T) {b w : Nat} (hb : b ≤ 120) (hw : w < 10) :
    (30 * σ q (ni (5 * N w + N b / 30)) + rm (N b) 30 * (σ q (ni (5 * N w + N b / 30 + 1)) - σ q (ni (5 * N w + N b / 30))) = N (wN T b w) ∨ b % 30 = 0) ∧ (b % 30 = 0 → 30 * σ q (ni (5 * N w + N b / 30)) = N (wN T b w)) := by
  rw [ix_w hb hw, rm30 hb, N_inc, ni_N (by omega), ni_N (by omega), hT _ (by omega)]
  refine ⟨?_, fun hr => ?_⟩
  · by_cases hr : b % 30 = 0
    · exact Or.inr hr
    refine Or.inl ?_
    have hk : b / 30 < 4 := by omega
    have h1 := Tab_up h (w := w) (k := b / 30) (by omega) hk
    rw [hT _ (by omega), show (30 : Int32) = N 30 from rfl, N_sub h1, N_mul, N_mul, N_add]
    unfold wN
    rw [if_neg (by omega)]
  · rw [show (30 : Int32) = N 30 from rfl, N_mul]
    unfold wN
    rw [if_neg (by omega), hr, Nat.zero_mul, Nat.add_zero]
theorem worth5 {σ : sg_S} {T : Nat → Nat} (hT : TabAt σ 37 T) (h : TabOK T) {b w : Nat} (hb : b ≤ 120) (hw : w ≤ 10) : v_X5_worthOf σ (N b) (N w) = N (wN T b w) := by
  unfold v_X5_worthOf
  by_cases e : w = 10
  · subst e
    rw [if_neg (fun h => h rfl)]
    unfold wN
    rw [if_pos rfl]
    rfl
  have e' : ¬ N w = 10 := by
    show ¬ N w = N 10
    rw [N_eq (by omega) (by decide)]
    exact e
  rw [if_pos e']
  obtain ⟨g1, g2⟩ := wv_eq hT h hb (show w < 10 by omega)
  by_cases hr : b % 30 = 0
  · rw [if_neg (by rw [rm30 hb, hr]; exact fun h => h rfl)]
    exact g2 hr
  · rw [if_pos (by
      rw [rm30 hb]
      show ¬ N (b % 30) = N 0
      rw [N_eq (by omega) (by decide)]
      exact hr)]
    rcases g1 with g1 | g1
    · exact g1
    · exact absurd g1 hr
theorem worth2 {σ : sg_S} {T : Nat → Nat} (hT : TabAt σ 2 T) (h : TabOK T) {b w : Nat} (hb : b ≤ 120) (hw : w ≤ 10) : v_X2_worthOf σ (N b) (N w) = N (wN T b w) := by
  unfold v_X2_worthOf
  by_cases hb0 : b = 0
  · subst hb0
    rw [if_pos (by decide), wN_zero h hw]
    rfl
  rw [if_neg (by
    show ¬ N b ≤ N 0
    rw [N_le (by omega) (by decide)]
    omega), if_neg (by
    show ¬ N 120 < N b
    rw [N_lt (by decide) (by omega)]
    omega), if_neg (N_nn (by omega))]
  by_cases e : w = 10
  · subst e
    rw [if_neg (by decide)]
    unfold wN
    rw [if_pos rfl]
    rfl
  rw [if_pos (by
    show N w < N 10
    rw [N_lt (by omega) (by decide)]
    omega)]
  obtain ⟨g1, g2⟩ := wv_eq hT h hb (show w < 10 by omega)
  by_cases hr : b % 30 = 0
  · rw [if_neg (by rw [rm30 hb, hr]; exact fun h => h rfl), rm30 hb, hr, Int32.mul_zero, Int32.add_zero]
    exact g2 hr
  · rw [if_pos (by
      rw [rm30 hb]
      show ¬ N (b % 30) = N 0
      rw [N_eq (by omega) (by decide)]
      exact hr)]
    rcases g1 with g1 | g1
    · exact g1
    · exact absurd g1 hr
theorem pworth5 {b w : Nat} (hb : b ≤ 120) (hw : w ≤ 10) : p_X5_worthOf (N b) (N w) := by
  intro e
  have hw' : w < 10 := by
    have e : ¬ N w = N 10 := e
    rw [N_eq (by omega) (by decide)] at e
    omega
  exact ⟨wix0 hb hw', fun hr => ⟨wix1 hb hw' hr, wix0 hb hw'⟩⟩
end
section
/-! THE REFERENCE'S STEPS: states with their indices as Nats -/
theorem up_c {σ : sg_S} {q k q' k' : Nat} {v : Int32} (h : ¬ q' = q) : sg_up σ q k v q' k' = σ q' k' := up_ne (fun z => h z.1)
theorem up_k {σ : sg_S} {q k q' k' : Nat} {v : Int32} (h : ¬ k' = k) : sg_up σ q k v q' k' = σ q' k' := up_ne (fun z => h z.2)
def du (D : Nat → Nat) (f v : Nat) : Nat → Nat := fun g => if g = f then v else D g
theorem du_eq {D : Nat → Nat} {f v : Nat} : du D f v f = v := by simp [du]
theorem du_ne {D : Nat → Nat} {f v g : Nat} (h : ¬ g = f) : du D f v g = D g := by simp only [du, if_neg h]
def RPic (σ : sg_S) (i : Nat) (D : Nat → Nat) : Prop := σ 41 i = N (D 0) ∧ σ 42 i = N (D 1) ∧ σ 43 i = N (D 2) ∧ σ 44 i = N (D 3) ∧ σ 48 i = N (D 4) ∧ σ 49 i = N (D 5) ∧ σ 47 i = N (D 6) ∧ σ 45 i = N (D 7 - D 8) ∧ σ 46 i = N (D 8)
def uB (σ : sg_S) (i m : Nat) (D : Nat → Nat) : sg_S := sg_up (sg_up (sg_up (sg_up (sg_up σ 53 (20 * i + D 2 / 6) (σ 53 (20 * i + D 2 / 6) + N m)) 55 (20 * i + D 2 / 6) (σ 55 (20 * i + D 2 / 6) + 1)) 56 (7 * i + m) (σ 56 (7 * i + m) + 1)) 41 i (N (D 0 + m))) 43 i (N (D 2 + 1))
def uX (σ : sg_S) (i : Nat) (D : Nat → Nat) : sg_S := sg_up (sg_up (sg_up (sg_up (uB σ i 0 D) 54 (20 * i + D 2 / 6) (σ 54 (20 * i + D 2 / 6) + 1)) 51 (10 * i + D 1) (N (D 0))) 52 (10 * i + D 1) (N (D 2 + 1))) 42 i (N (D 1 + 1))
def uC (σ : sg_S) (i n took : Nat) (D : Nat → Nat) : sg_S := sg_up (sg_up (sg_up (sg_up (sg_up (sg_up (sg_up (sg_up σ 50 (100 * i + 5 * D 5) (N (D 2))) 50 (100 * i + 5 * D 5 + 1) (N (D 1))) 50 (100 * i + 5 * D 5 + 2) (N (D 3))) 50 (100 * i + 5 * D 5 + 3) (N n)) 50 (100 * i + 5 * D 5 + 4) (N took)) 49 i (N (D 5 + 1))) 44 i (N n)) 45 i (N (D 7 - took))
def uS (σ : sg_S) (i took : Nat) (D : Nat → Nat) : sg_S := sg_up (sg_up (sg_up σ 47 i 1) 46 i (N took)) 45 i (N (D 7 - took))
def uE (σ : sg_S) (i : Nat) (D : Nat → Nat) : sg_S := sg_up (sg_up (sg_up σ 41 i (N (D 0 + 1))) 48 i (N (D 4 + 1))) 53 (20 * i + D 2 / 6) (σ 53 (20 * i + D 2 / 6) + 1)
def uD (σ : sg_S) (n p : Nat) : sg_S := sg_up (sg_up σ 44 1 (N n)) 45 1 (N p)
section Ups
variable {σ : sg_S} {i : Nat} {D : Nat → Nat}
theorem o_eq (hi : i < 2) (hP : σ 43 i = N (D 2)) (hb : D 2 ≤ 120) : 20 * N i + σ 43 (ni (N i)) / 6 = N (20 * i + D 2 / 6) := by
  rw [ni_N (by omega), hP, show (20 : Int32) = N 20 from rfl, show (6 : Int32) = N 6 from rfl, N_div (by omega) (by decide), N_mul, N_add]
theorem m_eq {m : Nat} : 7 * N i + N m = N (7 * i + m) := by
  rw [show (7 : Int32) = N 7 from rfl, N_mul, N_add]
theorem t_eq {m : Nat} : 10 * N i + N m = N (10 * i + m) := by
  rw [show (10 : Int32) = N 10 from rfl, N_mul, N_add]
theorem e_m {m : Nat} : N (48 + m) - 48 = N m := by
  rw [show (48 : Int32) = N 48 from rfl, N_sub (by omega), Nat.add_sub_cancel_left]
theorem bowls3 {e : Int32} {m : Nat} (hi : i < 2) (hP : RPic σ i D) (hb : D 2 ≤ 120) (hm : m ≤ 6) : t_X5_bowls_3 σ (N i) e (N (20 * i + D 2 / 6)) (N m) = uB σ i m D := by
  obtain ⟨h0, h1, h2, h3, h4, h5, h6, h7, h8⟩ := hP
  unfold t_X5_bowls_3 t_X5_bowls_2 t_X5_bowls_1 t_X5_bowls_0 uB
  rw [m_eq, ni_N (by omega), ni_N (by omega), ni_N (by omega)]
  simp (decide := true) only [up_c, h0, h2, N_add, N_inc]
theorem bowls7 {e : Int32} (hi : i < 2) (hP : RPic σ i D) (hb : D 2 ≤ 120) (hw : D 1 < 10) : t_X5_bowls_7 σ (N i) e (N (20 * i + D 2 / 6)) 0 = uX σ i D := by
  obtain ⟨h0, h1, h2, h3, h4, h5, h6, h7, h8⟩ := id hP
  have e3 := bowls3 (e := e) (m := 0) hi hP hb (by decide)
  have e3 : t_X5_bowls_3 σ (N i) e (N (20 * i + D 2 / 6)) 0 = uB σ i 0 D := e3
  unfold t_X5_bowls_7 t_X5_bowls_6 t_X5_bowls_5 t_X5_bowls_4
  rw [e3, ni_N (by omega), ni_N (by omega)]
  simp (decide := true) only [up_c]
  unfold uX uB
  simp (decide := true) only [up_c, up_eq, h1, t_eq, N_inc]
  rw [ni_N (by omega)]
  rfl
theorem bowls_run {m : Nat} (hi : i < 2) (hP : RPic σ i D) (hb : D 2 ≤ 120) (hm : m ≤ 6) : s_X5_bowls σ (N i) (N (48 + m)) = uB σ i m D := by
  have he : ¬ N (48 + m) = 120 := by
    show ¬ N (48 + m) = N 120
    rw [N_eq (by omega) (by decide)]
    omega
  unfold s_X5_bowls
  rw [if_pos he, o_eq hi hP.2.2.1 hb, e_m]
  unfold s_X5_bowls_a29
  rw [if_pos he]
  exact bowls3 hi hP hb hm
theorem bowls_x (hi : i < 2) (hP : RPic σ i D) (hb : D 2 ≤ 120) (hw : D 1 < 10) : s_X5_bowls σ (N i) 120 = uX σ i D := by
  unfold s_X5_bowls
  rw [if_neg (fun h => h rfl), o_eq hi hP.2.2.1 hb]
  unfold s_X5_bowls_a29
  rw [if_neg (fun h => h rfl)]
  exact bowls7 hi hP hb hw
theorem c_eq {k a : Nat} (hc : σ 49 i = N k) : 100 * N i + 5 * σ 49 i = N (100 * i + 5 * k) := by
  rw [hc, show (100 : Int32) = N 100 from rfl, show (5 : Int32) = N 5 from rfl, N_mul, N_mul, N_add]
theorem cutsTo_eq {n took : Nat} (hi : i < 2) (hP : RPic σ i D) (hc : D 5 < 20) (h8 : D 8 = 0) (ht : v_X5_takes σ (N i) (N n) = N took) (hle : took ≤ D 7) : s_X5_cutsTo σ (N i) (N n) = uC σ i n took D := by
  obtain ⟨h0, h1, h2, h3, h4, h5, h6, h7, h8'⟩ := hP
  unfold s_X5_cutsTo t_X5_cutsTo_6 t_X5_cutsTo_5 t_X5_cutsTo_4 t_X5_cutsTo_3 t_X5_cutsTo_2 t_X5_cutsTo_1 t_X5_cutsTo_0 uC
  rw [ht, ni_N (by omega), c_eq (a := 0) h5, show (1 : Int32) = N 1 from rfl, show (2 : Int32) = N 2 from rfl, show (3 : Int32) = N 3 from rfl, show (4 : Int32) = N 4 from rfl, N_add, N_add, N_add, N_add, ni_N (by omega), ni_N (by omega), ni_N (by omega), ni_N (by omega), ni_N (by omega)]
  rw [h8, Nat.sub_zero] at h7
  simp (decide := true) only [up_c, h1, h2, h3, h5, h7, N_add, N_sub hle]
theorem extra_eq {y1 x2 x4 : Int32} {e : Int32} (hi : i < 2) (hP : RPic σ i D) (hb : D 2 ≤ 120) : t_X5_goes_2 σ e x2 (N i) x4 y1 = uE (sg_up σ 35 24 y1) i D := by
  obtain ⟨h0, h1, h2, h3, h4, h5, h6, h7, h8⟩ := hP
  have e1 : t_X5_goes_1 σ e x2 (N i) x4 y1 = sg_up (sg_up (sg_up σ 35 24 y1) 41 i (N (D 0 + 1))) 48 i (N (D 4 + 1)) := by
    unfold t_X5_goes_1 t_X5_goes_0
    rw [ni_N (by omega)]
    simp (decide := true) only [up_c, h0, h4, N_inc]
  have e2 : t_X5_goes_1 σ e x2 (N i) x4 y1 43 i = N (D 2) := by
    rw [e1]
    simp (decide := true) only [up_c, h2]
  unfold t_X5_goes_2 uE
  rw [o_eq hi e2 hb, ni_N (by omega), e1]
  simp (decide := true) only [up_c]
theorem close_eq {y1 x2 x4 : Int32} {e : Int32} {took : Nat} (hi : i < 2) (hP : RPic σ i D) (h8 : D 8 = 0) (ht : v_X5_leftWorth (sg_up (sg_up σ 35 24 y1) 47 i 1) (N i) = N took) (hle : took ≤ D 7) : t_X5_goes_5 σ e x2 (N i) x4 y1 = uS (sg_up σ 35 24 y1) i took D := by
  obtain ⟨h0, h1, h2, h3, h4, h5, h6, h7, h8'⟩ := hP
  rw [h8, Nat.sub_zero] at h7
  unfold t_X5_goes_5 t_X5_goes_4 t_X5_goes_3 uS
  rw [ni_N (by omega), ht]
  simp (decide := true) only [up_c, up_eq, h7, N_sub hle]
end Ups
end
section
/-! THE MATCH IN NATS -/
def WL (T : Nat → Nat) (E : Nat → Nat) : Nat := wN T (6 * E 3 - E 2) (E 1)
def tgt (T : Nat → Nat) (mean S P Q : Nat) : Nat := if Q < P then S * Q / P + 1 else S + mean * (Q - P) / (30 * T 4) + 1
def SetOK (S : Nat → Nat) : Prop := 1 ≤ S 0 ∧ S 0 ≤ 20 ∧ 1 ≤ S 1 ∧ S 1 ≤ 400 ∧ 1 ≤ S 2 ∧ S 2 ≤ 20 ∧ S 3 + S 4 ≤ 20
def SetAt (σ : sg_S) (q : Nat) (S : Nat → Nat) : Prop := ∀ k, k < 5 → σ q k = N (S k)
def InnOK (T : Nat → Nat) (k : Nat) (E : Nat → Nat) : Prop := 1 ≤ E 3 ∧ E 3 ≤ 20 ∧ E 2 ≤ 6 * E 3 ∧ E 1 ≤ 10 ∧ E 5 + E 3 ≤ 20 ∧ E 0 ≤ 6 * k ∧ E 6 ≤ 1 ∧ WL T E ≤ E 7 ∧ E 7 ≤ 30000 ∧ E 8 = (if E 6 = 1 then WL T E else 0)
def Live (E : Nat → Nat) : Prop := E 2 < 6 * E 3 ∧ E 1 < 10 ∧ E 6 = 0
def Fresh (T : Nat → Nat) (E : Nat → Nat) : Prop := E 0 = 0 ∧ E 1 = 0 ∧ E 2 = 0 ∧ E 4 = 0 ∧ E 5 = 0 ∧ E 7 = wN T (6 * E 3) 0
def pd (D : Nat → Nat → Nat) (i : Nat) (E : Nat → Nat) : Nat → Nat → Nat := fun j => if j = i then E else D j
theorem pd_eq {D : Nat → Nat → Nat} {i : Nat} {E : Nat → Nat} : pd D i E i = E := by simp [pd]
theorem pd_ne {D : Nat → Nat → Nat} {i j : Nat} {E : Nat → Nat} (h : ¬ j = i) : pd D i E j = D j := by simp only [pd, if_neg h]
def OK (T : Nat → Nat) (mean k now tch : Nat) (D : Nat → Nat → Nat) : Prop := now ≤ 2 ∧ tch ≤ 1 ∧ (now = 0 → tch = 0) ∧ (∀ j, j < 2 → InnOK T k (D j)) ∧ (∀ j, j < 2 → now ≤ j → Live (D j)) ∧ ((now = 0 ∨ now = 1 ∧ tch = 0) → Fresh T (D 1)) ∧ (now = 1 → 0 < D 0 7 - D 0 8 → D 1 0 < tgt T mean (D 0 0) (D 0 7 - D 0 8) (D 1 7))
def ended (T : Nat → Nat) (mean i : Nat) (D : Nat → Nat → Nat) : Prop := D i 6 = 1 ∨ D i 2 = 6 * D i 3 ∨ D i 1 = 10 ∨ (i = 1 ∧ 0 < D 0 7 - D 0 8 ∧ tgt T mean (D 0 0) (D 0 7 - D 0 8) (D 1 7) ≤ D 1 0)
theorem tgt_pos (T : Nat → Nat) (mean S P Q : Nat) : 0 < tgt T mean S P Q := by
  unfold tgt
  split <;> exact Nat.succ_pos _
theorem tgt_le {T : Nat → Nat} (hT : TabOK T) {mean S P Q : Nat} (hm : mean ≤ 400) (hP : 0 < P) (hQ : Q ≤ 30000) (hS : S ≤ 100000) : tgt T mean S P Q ≤ 600000 := by
  unfold tgt
  split
  · rename_i h
    have h1 : S * Q / P ≤ S := by
      have h2 : S * Q ≤ S * P := Nat.mul_le_mul_left _ (by omega)
      have h3 : S * Q / P ≤ S * P / P := Nat.div_le_div_right h2
      rw [Nat.mul_div_cancel _ hP] at h3
      exact h3
    omega
  · have h4 := Tab_full hT
    have h1 : mean * (Q - P) ≤ 400 * 30000 := Nat.mul_le_mul hm (by omega)
    have h2 : mean * (Q - P) / (30 * T 4) ≤ mean * (Q - P) / 30 := Nat.div_le_div_left (by omega) (by decide)
    have h3 : mean * (Q - P) / 30 ≤ 400000 := by omega
    omega
section Vals
variable {σ : sg_S} {T S : Nat → Nat} {i : Nat} {E : Nat → Nat}
theorem left_eq (hi : i < 2) (hP : RPic σ i E) (hb : E 2 ≤ 6 * E 3) : v_X5_left σ (N i) = N (6 * E 3 - E 2) := by
  unfold v_X5_left
  rw [ni_N (by omega), hP.2.2.1, hP.2.2.2.1, show (6 : Int32) = N 6 from rfl, N_mul, N_sub hb]
theorem pleft_eq (hi : i < 2) : p_X5_left (N i) := ⟨ix_N hi (by decide), ix_N hi (by decide)⟩
theorem leftWorth_eq (hi : i < 2) (hP : RPic σ i E) (hT : TabAt σ 37 T) (hK : TabOK T) (hb : E 2 ≤ 6 * E 3) (h3 : E 3 ≤ 20) (hw : E 1 ≤ 10) : v_X5_leftWorth σ (N i) = N (WL T E) := by
  unfold v_X5_leftWorth
  rw [left_eq hi hP hb, ni_N (by omega), hP.2.1, worth5 hT hK (by omega) hw]
  rfl
theorem pleftWorth_eq (hi : i < 2) (hP : RPic σ i E) (hb : E 2 ≤ 6 * E 3) (h3 : E 3 ≤ 20) (hw : E 1 ≤ 10) : p_X5_leftWorth σ (N i) := by
  refine ⟨pleft_eq hi, ix_N hi (by decide), ?_⟩
  rw [left_eq hi hP hb, ni_N (by omega), hP.2.1]
  exact pworth5 (by omega) hw
theorem takes_eq {n : Nat} (hi : i < 2) (hP : RPic σ i E) (hT : TabAt σ 37 T) (hK : TabOK T) (hb : E 2 ≤ 6 * n) (hn : n ≤ E 3) (h3 : E 3 ≤ 20) (hw : E 1 ≤ 10) : v_X5_takes σ (N i) (N n) = N (WL T E - wN T (6 * n - E 2) (E 1)) := by
  unfold v_X5_takes
  rw [leftWorth_eq hi hP hT hK (by omega) h3 hw, ni_N (by omega), hP.2.1, hP.2.2.1, show (6 : Int32) = N 6 from rfl, N_mul, N_sub hb, worth5 hT hK (by omega) hw, N_sub (show wN T (6 * n - E 2) (E 1) ≤ WL T E from wN_mono' hK hw (by omega) (by omega))]
theorem ptakes_eq {n : Nat} (hi : i < 2) (hP : RPic σ i E) (hb : E 2 ≤ 6 * n) (hn : n ≤ E 3) (h3 : E 3 ≤ 20) (hw : E 1 ≤ 10) : p_X5_takes σ (N i) (N n) := by
  refine ⟨pleftWorth_eq hi hP (by omega) h3 hw, ix_N hi (by decide), ix_N hi (by decide), ?_⟩
  rw [ni_N (by omega), hP.2.1, hP.2.2.1, show (6 : Int32) = N 6 from rfl, N_mul, N_sub hb]
  exact pworth5 (by omega) hw
theorem full_eq (hT : TabAt σ 37 T) : v_X5_full σ = N (30 * T 4) := by
  unfold v_X5_full
  rw [hT 4 (by decide), show (30 : Int32) = N 30 from rfl, N_mul]
theorem N_nz {a : Nat} (h : 0 < a) (h2 : a < 2147483648) : ¬ N a = 0 := by
  show ¬ N a = N 0
  rw [N_eq h2 (by decide)]
  omega
theorem full_nz (hT : TabAt σ 37 T) (hK : TabOK T) : ¬ v_X5_full σ = 0 := by
  rw [full_eq hT]
  have h1 := Tab_full hK
  have h2 := Tab_all hK (k := 4) (by decide)
  exact N_nz (by omega) (by omega)
theorem ptarget {P : Nat} {x0 x1 : Int32} (hT : TabAt σ 37 T) (hK : TabOK T) (hP : σ 45 0 = N P) (h0 : 0 < P) (h1 : P ≤ 30000) : p_X5_targetOf σ x0 x1 := by
  refine ⟨fun _ => full_nz hT hK, fun _ => ?_⟩
  rw [hP]
  exact N_nz h0 (by omega)
theorem target_eq {P Q R : Nat} (hT : TabAt σ 37 T) (hK : TabOK T) (hS : SetAt σ 36 S) (hSK : SetOK S) (hP : σ 45 0 = N P) (h0 : 0 < P) (h1 : P ≤ 30000) (hQ : Q ≤ 30000) (hR : R ≤ 10000) : v_X5_targetOf σ (N R) (N Q) = N (tgt T (S 1) R P Q) := by
  unfold v_X5_targetOf tgt
  have hf := Tab_full hK
  have hf2 := Tab_all hK (k := 4) (by decide)
  rw [hP, full_eq hT, hS 1 (by decide)]
  by_cases h : P ≤ Q
  · rw [if_pos ((N_le (by omega) (by omega)).mpr h), if_neg (by omega)]
    have h2 : S 1 * (Q - P) ≤ 400 * 30000 := Nat.mul_le_mul hSK.2.2.2.1 (by omega)
    rw [N_sub h, N_mul, N_div (by omega) (by omega), N_add, N_inc]
  · rw [if_neg (fun z => h ((N_le (by omega) (by omega)).mp z)), if_pos (by omega)]
    have h2 : R * Q ≤ 10000 * 30000 := Nat.mul_le_mul hR hQ
    rw [N_mul, N_div (by omega) (by omega), N_inc]
theorem second_eq (hP : RPic σ 1 E) (h8 : E 8 ≤ E 7) : v_X5_partOfSecond σ = N (E 7) := by
  unfold v_X5_partOfSecond
  rw [hP.2.2.2.2.2.2.2.1, hP.2.2.2.2.2.2.2.2, N_add, Nat.sub_add_cancel h8]
end Vals
theorem InnOK_8 {T : Nat → Nat} {k : Nat} {E : Nat → Nat} (h : InnOK T k E) : E 8 ≤ E 7 := by
  obtain ⟨h1, h2, h3, h4, h5, h6, h7, h8, h9, h10⟩ := h
  rw [h10]
  split <;> omega
/-! the tables, the settings, the numbers: all that a state of the reference shows -/
def RefAt (σ : sg_S) (T S : Nat → Nat) (now tch : Nat) (D : Nat → Nat → Nat) : Prop := TabAt σ 37 T ∧ TabOK T ∧ SetAt σ 36 S ∧ SetOK S ∧ σ 35 23 = N now ∧ σ 35 24 = N tch ∧ RPic σ 0 (D 0) ∧ RPic σ 1 (D 1)
theorem RefAt.pic {σ : sg_S} {T S : Nat → Nat} {now tch : Nat} {D : Nat → Nat → Nat} (h : RefAt σ T S now tch D) {i : Nat} (hi : i < 2) : RPic σ i (D i) := by
  rcases (show i = 0 ∨ i = 1 by omega) with rfl | rfl
  · exact h.2.2.2.2.2.2.1
  · exact h.2.2.2.2.2.2.2
theorem theTarget_eq {σ : sg_S} {T S : Nat → Nat} {now tch k : Nat} {D : Nat → Nat → Nat} (h : RefAt σ T S now tch D) (hk : k ≤ 401) (h0 : InnOK T k (D 0)) (h1 : InnOK T k (D 1)) (hp : 0 < D 0 7 - D 0 8) : v_X5_theTarget σ = N (tgt T (S 1) (D 0 0) (D 0 7 - D 0 8) (D 1 7)) := by
  unfold v_X5_theTarget
  rw [second_eq h.2.2.2.2.2.2.2 (InnOK_8 h1), (h.pic (i := 0) (by decide)).1]
  obtain ⟨a1, a2, a3, a4, a5, a6, a7, a8, a9, a10⟩ := h0
  obtain ⟨b1, b2, b3, b4, b5, b6, b7, b8, b9, b10⟩ := h1
  exact target_eq h.1 h.2.1 h.2.2.1 h.2.2.2.1 (h.pic (i := 0) (by decide)).2.2.2.2.2.2.2.1 hp (by omega) b9 (by omega)
theorem ptheTarget {σ : sg_S} {T S : Nat → Nat} {now tch k : Nat} {D : Nat → Nat → Nat} (h : RefAt σ T S now tch D) (h0 : InnOK T k (D 0)) (hp : 0 < D 0 7 - D 0 8) : p_X5_theTarget σ := by
  obtain ⟨a1, a2, a3, a4, a5, a6, a7, a8, a9, a10⟩ := h0
  exact ptarget h.1 h.2.1 (h.pic (i := 0) (by decide)).2.2.2.2.2.2.2.1 hp (by omega)
end
section
/-! THE REFERENCE GOES ON: each event -/
section Phase2
variable {σ : sg_S} {T S : Nat → Nat} {i tch k : Nat} {D : Nat → Nat → Nat}
theorem a226_1 (h : σ 35 23 = N i) : s_X5_goes_a226 σ 1 = sg_up σ 35 23 (N (i + 1)) := by
  unfold s_X5_goes_a226
  rw [if_neg (by decide), h, N_inc]
theorem a226_0 (h : σ 35 23 = N i) : s_X5_goes_a226 σ 0 = sg_up σ 35 23 (N i) := by
  unfold s_X5_goes_a226
  rw [if_pos rfl, h, Int32.add_zero]
theorem a170_eq (h : RefAt σ T S i tch D) (hi : i < 2) (hk : k ≤ 401) (h0 : InnOK T k (D 0)) (h1 : InnOK T k (D 1)) :
    (ended T (S 1) i D → s_X5_goes_a170 σ (N i) (N (D i 6)) = sg_up σ 35 23 (N (i + 1))) ∧ (¬ ended T (S 1) i D → s_X5_goes_a170 σ (N i) (N (D i 6)) = sg_up σ 35 23 (N i)) ∧ p_X5_goes_a170 σ (N i) (N (D i 6)) := by
  have hI : InnOK T k (D i) := by rcases (show i = 0 ∨ i = 1 by omega) with rfl | rfl <;> assumption
  have hnow : σ 35 23 = N i := h.2.2.2.2.1
  obtain ⟨a1, a2, a3, a4, a5, a6, a7, a8, a9, a10⟩ := hI
  obtain ⟨b1, b2, b3, b4, b5, b6, b7, b8, b9, b10⟩ := id h0
  obtain ⟨c1, c2, c3, c4, c5, c6, c7, c8, c9, c10⟩ := id h1
  have hpic := h.pic hi
  have hP45 : σ 45 0 = N (D 0 7 - D 0 8) := (h.pic (i := 0) (by decide)).2.2.2.2.2.2.2.1
  have hL : v_X5_left σ (N i) = N (6 * D i 3 - D i 2) := left_eq hi hpic a3
  have hW : σ 42 (ni (N i)) = N (D i 1) := by rw [ni_N (by omega)]; exact hpic.2.1
  have e6 : (¬ N (D i 6) = 0) ↔ D i 6 = 1 := by
    show (¬ N (D i 6) = N 0) ↔ _
    rw [N_eq (by omega) (by decide)]
    omega
  have eL : (v_X5_left σ (N i) = 0) ↔ D i 2 = 6 * D i 3 := by
    rw [hL]
    show (N (6 * D i 3 - D i 2) = N 0) ↔ _
    rw [N_eq (by omega) (by decide)]
    omega
  have eW : (σ 42 (ni (N i)) = 10) ↔ D i 1 = 10 := by
    rw [hW]
    show (N (D i 1) = N 10) ↔ _
    rw [N_eq (by omega) (by decide)]
  have e1 : (¬ N i = 1) ↔ ¬ i = 1 := by
    show (¬ N i = N 1) ↔ _
    rw [N_eq (by omega) (by decide)]
  have eP : (σ 45 0 ≤ 0) ↔ ¬ 0 < D 0 7 - D 0 8 := by
    rw [hP45]
    show (N (D 0 7 - D 0 8) ≤ N 0) ↔ _
    rw [N_le (by omega) (by decide)]
    omega
  have eT : 0 < D 0 7 - D 0 8 → ((σ 41 1 < v_X5_theTarget σ) ↔ D 1 0 < tgt T (S 1) (D 0 0) (D 0 7 - D 0 8) (D 1 7)) := by
    intro hp
    have hle := tgt_le h.2.1 (mean := S 1) (S := D 0 0) (P := D 0 7 - D 0 8) (Q := D 1 7) h.2.2.2.1.2.2.2.1 hp c9 (by omega)
    rw [theTarget_eq h hk h0 h1 hp, (h.pic (i := 1) (by decide)).1, N_lt (by omega) (by omega)]
  refine ⟨fun he => ?_, fun he => ?_, ?_⟩
  · unfold s_X5_goes_a170
    by_cases z6 : ¬ N (D i 6) = 0
    · rw [if_pos z6]; exact a226_1 hnow
    rw [if_neg z6]
    by_cases zL : v_X5_left σ (N i) = 0
    · rw [if_pos zL]; exact a226_1 hnow
    rw [if_neg zL]
    by_cases zW : σ 42 (ni (N i)) = 10
    · rw [if_pos zW]; exact a226_1 hnow
    rw [if_neg zW]
    rcases he with he | he | he | he
    · exact absurd (e6.mpr he) z6
    · exact absurd (eL.mpr he) zL
    · exact absurd (eW.mpr he) zW
    · obtain ⟨g1, g2, g3⟩ := he
      rw [if_neg (fun z => e1.mp z g1), if_neg (fun z => eP.mp z g2), if_neg (fun z => by have := (eT g2).mp z; omega)]
      exact a226_1 hnow
  · unfold s_X5_goes_a170
    rw [if_neg (fun z => he (Or.inl (e6.mp z))), if_neg (fun z => he (Or.inr (Or.inl (eL.mp z)))), if_neg (fun z => he (Or.inr (Or.inr (Or.inl (eW.mp z)))))]
    by_cases z1 : ¬ N i = 1
    · rw [if_pos z1]; exact a226_0 hnow
    rw [if_neg z1]
    by_cases zP : σ 45 0 ≤ 0
    · rw [if_pos zP]; exact a226_0 hnow
    rw [if_neg zP]
    have g1 : i = 1 := Decidable.not_not.mp (fun z => z1 (e1.mpr z))
    have g2 : 0 < D 0 7 - D 0 8 := Decidable.not_not.mp (fun z => zP (eP.mpr z))
    rw [if_pos ((eT g2).mpr ?_)]
    · exact a226_0 hnow
    · by_cases g3 : D 1 0 < tgt T (S 1) (D 0 0) (D 0 7 - D 0 8) (D 1 7)
      · exact g3
      · exact absurd (Or.inr (Or.inr (Or.inr ⟨g1, g2, by omega⟩))) he
  · refine fun _ => ⟨pleft_eq hi, fun _ => ⟨ix_N hi (by decide), fun _ _ zP => ?_⟩⟩
    exact ptheTarget h h0 (Decidable.not_not.mp (fun z => zP (eP.mpr z)))
end Phase2
section Forms
variable {σ : sg_S} {T S : Nat → Nat} {i tch : Nat} {D : Nat → Nat → Nat}
theorem RPic_up35 {f : Nat} {v : Int32} {E : Nat → Nat} (h : RPic σ i E) : RPic (sg_up σ 35 f v) i E := by
  unfold RPic
  simp (decide := true) only [up_c]
  exact h
theorem TabAt_up {q : Nat} {q' k' : Nat} {v : Int32} (h : TabAt σ q T) (hq : ¬ q = q') : TabAt (sg_up σ q' k' v) q T := fun k hk => by
  rw [up_c hq]; exact h k hk
theorem SetAt_up {q : Nat} {q' k' : Nat} {v : Int32} (h : SetAt σ q S) (hq : ¬ q = q') : SetAt (sg_up σ q' k' v) q S := fun k hk => by
  rw [up_c hq]; exact h k hk
theorem RefAt_tch {v : Nat} (h : RefAt σ T S i tch D) : RefAt (sg_up σ 35 24 (N v)) T S i v D :=
  ⟨TabAt_up h.1 (by decide), h.2.1, SetAt_up h.2.2.1 (by decide), h.2.2.2.1, by rw [up_k (by decide)]; exact h.2.2.2.2.1, up_eq, RPic_up35 h.2.2.2.2.2.2.1, RPic_up35 h.2.2.2.2.2.2.2⟩
theorem RefAt_now {v : Nat} (h : RefAt σ T S i tch D) : RefAt (sg_up σ 35 23 (N v)) T S v tch D :=
  ⟨TabAt_up h.1 (by decide), h.2.1, SetAt_up h.2.2.1 (by decide), h.2.2.2.1, up_eq, by rw [up_k (by decide)]; exact h.2.2.2.2.2.1, RPic_up35 h.2.2.2.2.2.2.1, RPic_up35 h.2.2.2.2.2.2.2⟩
theorem goes_nd {e n : Int32} (h : RefAt σ T S i tch D) (hi : i < 2) (he : ¬ e = 100) : s_X5_goes σ e n = s_X5_goes_a48 σ e n (N i) 0 (N i) ∧ (p_X5_goes_a48 σ e n (N i) 0 (N i) → p_X5_goes σ e n) := by
  have hn : σ 35 23 = N i := h.2.2.2.2.1
  unfold s_X5_goes p_X5_goes
  rw [if_pos he, hn]
  rcases (show i = 0 ∨ i = 1 by omega) with rfl | rfl
  · rw [if_pos (by decide)]
    exact ⟨rfl, fun hp => ⟨fun _ => ⟨fun _ => hp, fun z => absurd (by decide) z⟩, fun z => absurd he z⟩⟩
  · rw [if_neg (by decide)]
    exact ⟨rfl, fun hp => ⟨fun _ => ⟨fun z => absurd rfl z, fun _ => hp⟩, fun z => absurd he z⟩⟩
theorem RPic_set {σ' : sg_S} {E E' : Nat → Nat} {j : Nat} (h : RPic σ j E) (hs : ∀ q, q = 41 ∨ q = 42 ∨ q = 43 ∨ q = 44 ∨ q = 45 ∨ q = 46 ∨ q = 47 ∨ q = 48 ∨ q = 49 → σ' q j = σ q j) : RPic σ' j E := by
  obtain ⟨h0, h1, h2, h3, h4, h5, h6, h7, h8⟩ := h
  exact ⟨by rw [hs 41 (by decide)]; exact h0, by rw [hs 42 (by decide)]; exact h1, by rw [hs 43 (by decide)]; exact h2, by rw [hs 44 (by decide)]; exact h3, by rw [hs 48 (by decide)]; exact h4, by rw [hs 49 (by decide)]; exact h5, by rw [hs 47 (by decide)]; exact h6, by rw [hs 45 (by decide)]; exact h7, by rw [hs 46 (by decide)]; exact h8⟩
end Forms
end
section
/-! EACH EVENT, IN NATS -/
theorem InnOK_mono {T : Nat → Nat} {k : Nat} {E : Nat → Nat} (h : InnOK T k E) : InnOK T (k + 1) E := by
  obtain ⟨h1, h2, h3, h4, h5, h6, h7, h8, h9, h10⟩ := h
  exact ⟨h1, h2, h3, h4, h5, by omega, h7, h8, h9, h10⟩
theorem OK_next {T : Nat → Nat} {mean k i tch : Nat} {D : Nat → Nat → Nat} {E : Nat → Nat} (h : OK T mean k i tch D) (hi : i < 2) (hE : InnOK T (k + 1) E) :
    (∀ j, j < 2 → InnOK T (k + 1) (pd D i E j)) ∧ (ended T mean i (pd D i E) → OK T mean (k + 1) (i + 1) i (pd D i E)) ∧ (¬ ended T mean i (pd D i E) → OK T mean (k + 1) i i (pd D i E)) := by
  obtain ⟨h1, h2, h3, h4, h5, h6, h7⟩ := h
  have hI : ∀ j, j < 2 → InnOK T (k + 1) (pd D i E j) := by
    intro j hj
    by_cases e : j = i
    · subst e; rw [pd_eq]; exact hE
    · rw [pd_ne e]; exact InnOK_mono (h4 j hj)
  refine ⟨hI, fun he => ?_, fun he => ?_⟩
  · rcases (show i = 0 ∨ i = 1 by omega) with rfl | rfl
    · have ht : tch = 0 := h3 rfl
      have hF := h6 (Or.inl rfl)
      refine ⟨by omega, by omega, fun z => by omega, hI, fun j hj hn => ?_, fun _ => ?_, fun _ _ => ?_⟩
      · rw [pd_ne (by omega)]; exact h5 j hj (by omega)
      · rw [pd_ne (by decide)]; exact hF
      · rw [show pd D 0 E 1 = D 1 from pd_ne (by decide), hF.1]
        exact tgt_pos _ _ _ _ _
    · exact ⟨by omega, by omega, fun z => by omega, hI, fun j hj hn => by omega, fun z => by omega, fun z => by omega⟩
  · have hIi := hI i hi
    have hl : Live (pd D i E i) := by
      obtain ⟨g1, g2, g3, g4, g5, g6, g7, g8, g9, g10⟩ := hIi
      refine ⟨?_, ?_, ?_⟩
      · rcases Nat.lt_or_ge (pd D i E i 2) (6 * pd D i E i 3) with z | z
        · exact z
        · exact absurd (Or.inr (Or.inl (by omega))) he
      · rcases Nat.lt_or_ge (pd D i E i 1) 10 with z | z
        · exact z
        · exact absurd (Or.inr (Or.inr (Or.inl (by omega)))) he
      · rcases (show pd D i E i 6 = 0 ∨ pd D i E i 6 = 1 by omega) with z | z
        · exact z
        · exact absurd (Or.inl z) he
    refine ⟨by omega, by omega, fun z => by omega, hI, fun j hj hn => ?_, fun z => ?_, fun z hp => ?_⟩
    · by_cases e : j = i
      · subst e; exact hl
      · rw [pd_ne e]; exact h5 j hj hn
    · rcases z with rfl | ⟨z1, z2⟩
      · rw [pd_ne (by decide)]; exact h6 (Or.inl rfl)
      · omega
    · rcases Nat.lt_or_ge (pd D i E 1 0) (tgt T mean (pd D i E 0 0) (pd D i E 0 7 - pd D i E 0 8) (pd D i E 1 7)) with g | g
      · exact g
      · exact absurd (Or.inr (Or.inr (Or.inr ⟨z, hp, g⟩))) he
theorem RefAt_pd {σ σ1 : sg_S} {T S : Nat → Nat} {i tch : Nat} {D : Nat → Nat → Nat} {E : Nat → Nat} (h : RefAt σ T S i tch D) (hi : i < 2) (h37 : ∀ q k, q = 37 ∨ q = 36 → σ1 q k = σ q k) (h23 : σ1 35 23 = N i) (h24 : σ1 35 24 = N i) (hpi : RPic σ1 i E) (ho : ∀ q j, (q = 41 ∨ q = 42 ∨ q = 43 ∨ q = 44 ∨ q = 45 ∨ q = 46 ∨ q = 47 ∨ q = 48 ∨ q = 49) → ¬ j = i → σ1 q j = σ q j) : RefAt σ1 T S i i (pd D i E) := by
  refine ⟨fun k hk => by rw [h37 37 k (Or.inl rfl)]; exact h.1 k hk, h.2.1, fun k hk => by rw [h37 36 k (Or.inr rfl)]; exact h.2.2.1 k hk, h.2.2.2.1, h23, h24, ?_, ?_⟩
  · by_cases e : 0 = i
    · subst e; rw [pd_eq]; exact hpi
    · rw [pd_ne e]; exact RPic_set (E' := E) h.2.2.2.2.2.2.1 (fun q hq => ho q 0 hq e)
  · by_cases e : 1 = i
    · subst e; rw [pd_eq]; exact hpi
    · rw [pd_ne e]; exact RPic_set (E' := E) h.2.2.2.2.2.2.2 (fun q hq => ho q 1 hq e)
/-- what one event of an innings makes of its numbers -/
def eB (E : Nat → Nat) (m : Nat) : Nat → Nat := du (du E 0 (E 0 + m)) 2 (E 2 + 1)
def eX (E : Nat → Nat) : Nat → Nat := du (du E 1 (E 1 + 1)) 2 (E 2 + 1)
def eE (E : Nat → Nat) : Nat → Nat := du (du E 0 (E 0 + 1)) 4 (E 4 + 1)
def eC (T : Nat → Nat) (E : Nat → Nat) (n : Nat) : Nat → Nat := du (du (du E 3 n) 5 (E 5 + 1)) 7 (E 7 - (WL T E - wN T (6 * n - E 2) (E 1)))
def eS (T : Nat → Nat) (E : Nat → Nat) : Nat → Nat := du (du E 6 1) 8 (WL T E)
def eD (T : Nat → Nat) (E : Nat → Nat) (n : Nat) : Nat → Nat := du (du E 3 n) 7 (wN T (6 * n) 0)
section EvNum
variable {T : Nat → Nat} {k : Nat} {E : Nat → Nat}
theorem eB_ok {m : Nat} (hT : TabOK T) (h : InnOK T k E) (hl : Live E) (hm : m ≤ 6) : InnOK T (k + 1) (eB E m) := by
  obtain ⟨h1, h2, h3, h4, h5, h6, h7, h8, h9, h10⟩ := h
  obtain ⟨l1, l2, l3⟩ := hl
  have hw : wN T (6 * E 3 - (E 2 + 1)) (E 1) ≤ E 7 := Nat.le_trans (wN_mono' hT h4 (by omega) (by omega)) h8
  unfold InnOK WL eB
  simp (decide := true) only [du_eq, du_ne]
  refine ⟨h1, h2, by omega, h4, h5, by omega, h7, hw, h9, ?_⟩
  rw [h10, if_neg (by omega), if_neg (by omega)]
theorem eX_ok (hT : TabOK T) (h : InnOK T k E) (hl : Live E) : InnOK T (k + 1) (eX E) := by
  obtain ⟨h1, h2, h3, h4, h5, h6, h7, h8, h9, h10⟩ := h
  obtain ⟨l1, l2, l3⟩ := hl
  have hw : wN T (6 * E 3 - (E 2 + 1)) (E 1 + 1) ≤ E 7 := Nat.le_trans (wN_wicket hT (by omega) l2) (Nat.le_trans (wN_mono' hT h4 (by omega) (by omega)) h8)
  unfold InnOK WL eX
  simp (decide := true) only [du_eq, du_ne]
  refine ⟨h1, h2, by omega, by omega, h5, by omega, h7, hw, h9, ?_⟩
  rw [h10, if_neg (by omega), if_neg (by omega)]
theorem eE_ok (h : InnOK T k E) (hl : Live E) : InnOK T (k + 1) (eE E) := by
  obtain ⟨h1, h2, h3, h4, h5, h6, h7, h8, h9, h10⟩ := h
  obtain ⟨l1, l2, l3⟩ := hl
  unfold InnOK WL eE
  unfold WL at h8
  simp (decide := true) only [du_eq, du_ne]
  refine ⟨h1, h2, h3, h4, h5, by omega, h7, h8, h9, ?_⟩
  rw [h10, if_neg (by omega), if_neg (by omega)]
theorem eC_ok {n : Nat} (hT : TabOK T) (h : InnOK T k E) (hl : Live E) (hn : 1 ≤ n) (hn2 : n < E 3) (hb : E 2 ≤ 6 * n) : InnOK T (k + 1) (eC T E n) := by
  obtain ⟨h1, h2, h3, h4, h5, h6, h7, h8, h9, h10⟩ := h
  obtain ⟨l1, l2, l3⟩ := hl
  have hm : wN T (6 * n - E 2) (E 1) ≤ WL T E := wN_mono' hT h4 (by omega) (by omega)
  unfold InnOK eC
  rw [show WL T (du (du (du E 3 n) 5 (E 5 + 1)) 7 (E 7 - (WL T E - wN T (6 * n - E 2) (E 1)))) = wN T (6 * n - E 2) (E 1) by
    unfold WL
    simp (decide := true) only [du_eq, du_ne]]
  simp (decide := true) only [du_eq, du_ne]
  refine ⟨hn, by omega, hb, h4, by omega, by omega, h7, by omega, by omega, ?_⟩
  rw [h10, if_neg (by omega), if_neg (by omega)]
theorem eS_ok (h : InnOK T k E) : InnOK T (k + 1) (eS T E) := by
  obtain ⟨h1, h2, h3, h4, h5, h6, h7, h8, h9, h10⟩ := h
  unfold InnOK eS
  rw [show WL T (du (du E 6 1) 8 (WL T E)) = WL T E by
    unfold WL
    simp (decide := true) only [du_eq, du_ne]]
  simp (decide := true) only [du_eq, du_ne]
  refine ⟨h1, h2, h3, h4, h5, by omega, trivial, h8, h9, ?_⟩
  rw [if_pos trivial]
theorem eD_ok {n : Nat} (hT : TabOK T) (h : InnOK T k E) (hF : Fresh T E) (hl : Live E) (hn : 1 ≤ n) (hn2 : n < E 3) : InnOK T (k + 1) (eD T E n) ∧ Fresh T (eD T E n) ∧ Live (eD T E n) := by
  obtain ⟨h1, h2, h3, h4, h5, h6, h7, h8, h9, h10⟩ := h
  obtain ⟨f0, f1, f2, f4, f5, f7⟩ := hF
  obtain ⟨l1, l2, l3⟩ := hl
  refine ⟨?_, ?_, ?_⟩
  · unfold InnOK eD
    rw [show WL T (du (du E 3 n) 7 (wN T (6 * n) 0)) = wN T (6 * n) 0 by
      unfold WL
      simp (decide := true) only [du_eq, du_ne, f1, f2, Nat.sub_zero]]
    simp (decide := true) only [du_eq, du_ne]
    refine ⟨hn, by omega, by omega, h4, by omega, by omega, h7, Nat.le_refl _, wN_le hT (by omega) (by decide), ?_⟩
    rw [h10, if_neg (by omega), if_neg (by omega)]
  · unfold Fresh eD
    simp (decide := true) only [du_eq, du_ne]
    exact ⟨f0, f1, f2, f4, f5, trivial⟩
  · unfold Live eD
    simp (decide := true) only [du_eq, du_ne]
    exact ⟨by omega, l2, l3⟩
end EvNum
end
section
/-! EACH EVENT, on the reference's state -/
def Res (σ1 : sg_S) (T S : Nat → Nat) (k i : Nat) (D' : Nat → Nat → Nat) (s : sg_S) : Prop :=
  ∃ now', (now' = i ∨ now' = i + 1) ∧ (now' = i + 1 ↔ ended T (S 1) i D') ∧ s = sg_up σ1 35 23 (N now') ∧ RefAt s T S now' i D' ∧ OK T (S 1) (k + 1) now' i D'
section EvRef
variable {σ : sg_S} {T S : Nat → Nat} {k i tch : Nat} {D : Nat → Nat → Nat}
theorem ev_fin {σ1 : sg_S} {E : Nat → Nat} (hok : OK T (S 1) k i tch D) (hi : i < 2) (hk : k ≤ 400) (hE : InnOK T (k + 1) E) (h1 : RefAt σ1 T S i i (pd D i E)) {x4 : Int32} (hx : x4 = N (E 6)) : Res σ1 T S k i (pd D i E) (s_X5_goes_a170 σ1 (N i) x4) ∧ p_X5_goes_a170 σ1 (N i) x4 := by
  obtain ⟨g1, g2, g3⟩ := OK_next hok hi hE
  have e6 : x4 = N (pd D i E i 6) := by rw [pd_eq]; exact hx
  obtain ⟨f1, f2, f3⟩ := a170_eq h1 hi (k := k + 1) (by omega) (g1 0 (by decide)) (g1 1 (by decide))
  rw [e6]
  refine ⟨?_, f3⟩
  by_cases he : ended T (S 1) i (pd D i E)
  · refine ⟨i + 1, Or.inr rfl, ⟨fun _ => he, fun _ => rfl⟩, f1 he, ?_, g2 he⟩
    rw [f1 he]; exact RefAt_now h1
  · refine ⟨i, Or.inl rfl, ⟨fun z => by omega, fun z => absurd z he⟩, f2 he, ?_, g3 he⟩
    rw [f2 he]; exact RefAt_now h1
theorem isBall_m {m : Nat} (hm : m ≤ 6) : v_X5_isBall (N (48 + m)) = 1 := by
  rcases (show m = 0 ∨ m = 1 ∨ m = 2 ∨ m = 3 ∨ m = 4 ∨ m = 5 ∨ m = 6 by omega) with rfl | rfl | rfl | rfl | rfl | rfl | rfl <;> decide
theorem ix2 (hi : i < 2) : ix (N i) 2 := ix_N hi (by decide)
theorem ixo {E : Nat → Nat} (hi : i < 2) (hb : E 2 < 120) : ix (N (20 * i + E 2 / 6)) 40 := ix_N (by omega) (by decide)
theorem pbowls_a29 {E : Nat → Nat} {e : Int32} {m : Nat} (hi : i < 2) (hP : RPic σ i E) (hb : E 2 < 120) (hm : m ≤ 6) (hw : E 1 < 10) : p_X5_bowls_a29 σ (N i) e (N (20 * i + E 2 / 6)) (N m) := by
  have h7 : ix (7 * N i + N m) 14 := by rw [m_eq]; exact ix_N (by omega) (by decide)
  have e3 := bowls3 (e := e) hi hP (Nat.le_of_lt hb) hm
  have e4 : t_X5_bowls_4 σ (N i) e (N (20 * i + E 2 / 6)) (N m) 42 (ni (N i)) = N (E 1) := by
    unfold t_X5_bowls_4
    rw [e3, ni_N (show i < 2147483648 by omega)]
    unfold uB
    simp (decide := true) only [up_c]
    exact hP.2.1
  have e5 : t_X5_bowls_5 σ (N i) e (N (20 * i + E 2 / 6)) (N m) 42 (ni (N i)) = N (E 1) := by
    unfold t_X5_bowls_5
    rw [up_c (by decide)]
    exact e4
  have ht : ix (10 * N i + N (E 1)) 20 := by rw [t_eq]; exact ix_N (by omega) (by decide)
  unfold p_X5_bowls_a29
  rw [e4, e5]
  exact ⟨ixo hi hb, ixo hi hb, ixo hi hb, ixo hi hb, h7, h7, ix2 hi, ix2 hi, ix2 hi, ix2 hi, fun _ => ⟨ixo hi hb, ixo hi hb, ix2 hi, ix2 hi, ht, ix2 hi, ix2 hi, ht, ix2 hi, ix2 hi⟩⟩
theorem pbowls {E : Nat → Nat} {e : Int32} (hi : i < 2) (hP : RPic σ i E) (hb : E 2 < 120) (hw : E 1 < 10) (he : ¬ e = 120 → ∃ m, m ≤ 6 ∧ e = N (48 + m)) : p_X5_bowls σ (N i) e := by
  unfold p_X5_bowls
  rw [o_eq hi hP.2.2.1 (by omega)]
  refine ⟨ix2 hi, fun z => ?_, fun _ => pbowls_a29 (m := 0) hi hP hb (by decide) hw⟩
  obtain ⟨m, hm, e1⟩ := he z
  rw [show e - 48 = N m by rw [e1, e_m]]
  exact pbowls_a29 hi hP hb hm hw
/-- a ball -/
theorem ev_ball {m : Nat} {n : Int32} (h : RefAt σ T S i tch D) (hok : OK T (S 1) k i tch D) (hi : i < 2) (hk : k ≤ 400) (hm : m ≤ 6) : Res (uB (sg_up σ 35 24 (N i)) i m (D i)) T S k i (pd D i (eB (D i) m)) (s_X5_goes σ (N (48 + m)) n) ∧ p_X5_goes σ (N (48 + m)) n := by
  have hI := hok.2.2.2.1 i hi
  have hL := hok.2.2.2.2.1 i hi (Nat.le_refl i)
  obtain ⟨a1, a2, a3, a4, a5, a6, a7, a8, a9, a10⟩ := id hI
  obtain ⟨l1, l2, l3⟩ := id hL
  have h0 := RefAt_tch (v := i) h
  have hP := h0.pic hi
  have he : ¬ N (48 + m) = 100 := by
    show ¬ N (48 + m) = N 100
    rw [N_eq (by omega) (by decide)]; omega
  obtain ⟨g1, g2⟩ := goes_nd (n := n) h hi he
  have hR : RefAt (uB (sg_up σ 35 24 (N i)) i m (D i)) T S i i (pd D i (eB (D i) m)) := by
    refine RefAt_pd h0 hi ?_ ?_ ?_ ?_ ?_
    · intro q kk hq
      rcases hq with rfl | rfl
      all_goals simp (decide := true) only [uB, up_c]
    · simp (decide := true) only [uB, up_c]; exact h0.2.2.2.2.1
    · simp (decide := true) only [uB, up_c]; exact h0.2.2.2.2.2.1
    · obtain ⟨p0, p1, p2, p3, p4, p5, p6, p7, p8⟩ := hP
      unfold RPic eB uB
      simp (decide := true) only [up_c, up_eq, du_eq, du_ne]
      exact ⟨trivial, p1, trivial, p3, p4, p5, p6, p7, p8⟩
    · intro q j hq hj
      rcases hq with rfl | rfl | rfl | rfl | rfl | rfl | rfl | rfl | rfl
      all_goals simp (decide := true) only [uB, up_c, up_k hj]
  obtain ⟨r1, r2⟩ := ev_fin hok hi hk (eB_ok h.2.1 hI hL hm) hR (x4 := 0) (by
    unfold eB
    simp (decide := true) only [du_ne]
    rw [l3]
    rfl)
  have hs : s_X5_goes σ (N (48 + m)) n = s_X5_goes_a170 (uB (sg_up σ 35 24 (N i)) i m (D i)) (N i) 0 := by
    rw [g1]
    unfold s_X5_goes_a48
    rw [if_neg (by rw [isBall_m hm]; decide), bowls_run hi hP (by omega) hm]
  refine ⟨by rw [hs]; exact r1, g2 ⟨?_, fun z => absurd z (by rw [isBall_m hm]; decide), fun _ => ⟨pbowls hi hP (by omega) l2 (fun _ => ⟨m, hm, rfl⟩), ?_⟩⟩⟩
  · rcases (show i = 0 ∨ i = 1 by omega) with rfl | rfl
    · exact Or.inl rfl
    · exact Or.inr rfl
  · rw [bowls_run hi hP (by omega) hm]; exact r2
theorem bt_i (hi : i < 2) : bt (N i) := by
  rcases (show i = 0 ∨ i = 1 by omega) with rfl | rfl
  · exact Or.inl rfl
  · exact Or.inr rfl
/-- a wicket -/
theorem ev_x {n : Int32} (h : RefAt σ T S i tch D) (hok : OK T (S 1) k i tch D) (hi : i < 2) (hk : k ≤ 400) : Res (uX (sg_up σ 35 24 (N i)) i (D i)) T S k i (pd D i (eX (D i))) (s_X5_goes σ 120 n) ∧ p_X5_goes σ 120 n := by
  have hI := hok.2.2.2.1 i hi
  have hL := hok.2.2.2.2.1 i hi (Nat.le_refl i)
  obtain ⟨a1, a2, a3, a4, a5, a6, a7, a8, a9, a10⟩ := id hI
  obtain ⟨l1, l2, l3⟩ := id hL
  have h0 := RefAt_tch (v := i) h
  have hP := h0.pic hi
  obtain ⟨g1, g2⟩ := goes_nd (n := n) (e := 120) h hi (by decide)
  have hR : RefAt (uX (sg_up σ 35 24 (N i)) i (D i)) T S i i (pd D i (eX (D i))) := by
    refine RefAt_pd h0 hi ?_ ?_ ?_ ?_ ?_
    · intro q kk hq
      rcases hq with rfl | rfl
      all_goals simp (decide := true) only [uX, uB, up_c]
    · simp (decide := true) only [uX, uB, up_c]; exact h0.2.2.2.2.1
    · simp (decide := true) only [uX, uB, up_c]; exact h0.2.2.2.2.2.1
    · obtain ⟨p0, p1, p2, p3, p4, p5, p6, p7, p8⟩ := hP
      unfold RPic eX uX uB
      simp (decide := true) only [up_c, up_eq, du_eq, du_ne, Nat.add_zero]
      exact ⟨trivial, trivial, trivial, p3, p4, p5, p6, p7, p8⟩
    · intro q j hq hj
      rcases hq with rfl | rfl | rfl | rfl | rfl | rfl | rfl | rfl | rfl
      all_goals simp (decide := true) only [uX, uB, up_c, up_k hj]
  obtain ⟨r1, r2⟩ := ev_fin hok hi hk (eX_ok h.2.1 hI hL) hR (x4 := 0) (by
    unfold eX
    simp (decide := true) only [du_ne]
    rw [l3]
    rfl)
  have hs : s_X5_goes σ 120 n = s_X5_goes_a170 (uX (sg_up σ 35 24 (N i)) i (D i)) (N i) 0 := by
    rw [g1]
    unfold s_X5_goes_a48
    rw [if_neg (by decide), bowls_x hi hP (by omega) l2]
  refine ⟨by rw [hs]; exact r1, g2 ⟨bt_i hi, fun z => absurd z (by decide), fun _ => ⟨pbowls hi hP (by omega) l2 (fun z => absurd rfl z), ?_⟩⟩⟩
  rw [bowls_x hi hP (by omega) l2]; exact r2
/-- a run that is no ball -/
theorem ev_extra {e n : Int32} (h : RefAt σ T S i tch D) (hok : OK T (S 1) k i tch D) (hi : i < 2) (hk : k ≤ 400) (he : e = 119 ∨ e = 110) : Res (uE (sg_up σ 35 24 (N i)) i (D i)) T S k i (pd D i (eE (D i))) (s_X5_goes σ e n) ∧ p_X5_goes σ e n := by
  have hI := hok.2.2.2.1 i hi
  have hL := hok.2.2.2.2.1 i hi (Nat.le_refl i)
  obtain ⟨a1, a2, a3, a4, a5, a6, a7, a8, a9, a10⟩ := id hI
  obtain ⟨l1, l2, l3⟩ := id hL
  have h0 := RefAt_tch (v := i) h
  have hP := h0.pic hi
  have he1 : ¬ e = 100 := by rcases he with rfl | rfl <;> decide
  have he2 : v_X5_isBall e = 0 := by rcases he with rfl | rfl <;> decide
  have he3 : ¬ e = 99 := by rcases he with rfl | rfl <;> decide
  have he4 : ¬ e = 47 := by rcases he with rfl | rfl <;> decide
  obtain ⟨g1, g2⟩ := goes_nd (n := n) h hi he1
  have hR : RefAt (uE (sg_up σ 35 24 (N i)) i (D i)) T S i i (pd D i (eE (D i))) := by
    refine RefAt_pd h0 hi ?_ ?_ ?_ ?_ ?_
    · intro q kk hq
      rcases hq with rfl | rfl
      all_goals simp (decide := true) only [uE, up_c]
    · simp (decide := true) only [uE, up_c]; exact h0.2.2.2.2.1
    · simp (decide := true) only [uE, up_c]; exact h0.2.2.2.2.2.1
    · obtain ⟨p0, p1, p2, p3, p4, p5, p6, p7, p8⟩ := hP
      unfold RPic eE uE
      simp (decide := true) only [up_c, up_eq, du_eq, du_ne]
      exact ⟨trivial, p1, p2, p3, trivial, p5, p6, p7, p8⟩
    · intro q j hq hj
      rcases hq with rfl | rfl | rfl | rfl | rfl | rfl | rfl | rfl | rfl
      all_goals simp (decide := true) only [uE, up_c, up_k hj]
  obtain ⟨r1, r2⟩ := ev_fin hok hi hk (eE_ok hI hL) hR (x4 := 0) (by
    unfold eE
    simp (decide := true) only [du_ne]
    rw [l3]
    rfl)
  have hx := extra_eq (y1 := N i) (x2 := n) (x4 := 0) (e := e) hi (h.pic hi) (show D i 2 ≤ 120 by omega)
  have hs : s_X5_goes σ e n = s_X5_goes_a170 (uE (sg_up σ 35 24 (N i)) i (D i)) (N i) 0 := by
    rw [g1]
    unfold s_X5_goes_a48
    rw [if_pos he2, if_pos he3, if_pos he4, hx]
  have e1 : t_X5_goes_1 σ e n (N i) 0 (N i) 43 i = N (D i 2) := by
    unfold t_X5_goes_1 t_X5_goes_0
    rw [ni_N (show i < 2147483648 by omega)]
    simp (decide := true) only [up_c]
    exact (h.pic hi).2.2.1
  refine ⟨by rw [hs]; exact r1, g2 ⟨bt_i hi, fun _ => ⟨fun _ => ⟨fun _ => ?_, fun z => absurd he4 z⟩, fun z => absurd he3 z⟩, fun z => absurd he2 z⟩⟩
  rw [o_eq hi e1 (by omega), hx]
  exact ⟨ix2 hi, ix2 hi, ix2 hi, ix2 hi, ix2 hi, ixo hi (by omega), ixo hi (by omega), r2⟩
end EvRef
end
section
section EvRef2
variable {σ : sg_S} {T S : Nat → Nat} {k i tch : Nat} {D : Nat → Nat → Nat}
/-- a cut -/
theorem ev_cut {n : Nat} (h : RefAt σ T S i tch D) (hok : OK T (S 1) k i tch D) (hi : i < 2) (hk : k ≤ 400) (hn : 1 ≤ n) (hn2 : n < D i 3) (hb : D i 2 ≤ 6 * n) : Res (uC (sg_up σ 35 24 (N i)) i n (WL T (D i) - wN T (6 * n - D i 2) (D i 1)) (D i)) T S k i (pd D i (eC T (D i) n)) (s_X5_goes σ 99 (N n)) ∧ p_X5_goes σ 99 (N n) := by
  have hI := hok.2.2.2.1 i hi
  have hL := hok.2.2.2.2.1 i hi (Nat.le_refl i)
  obtain ⟨a1, a2, a3, a4, a5, a6, a7, a8, a9, a10⟩ := id hI
  obtain ⟨l1, l2, l3⟩ := id hL
  have h0 := RefAt_tch (v := i) h
  have hP := h0.pic hi
  have h8 : D i 8 = 0 := by rw [a10, if_neg (by omega)]
  obtain ⟨g1, g2⟩ := goes_nd (n := N n) (e := 99) h hi (by decide)
  have ht := takes_eq (n := n) hi hP h0.1 h0.2.1 hb (by omega) a2 a4
  have hle : WL T (D i) - wN T (6 * n - D i 2) (D i 1) ≤ D i 7 := by omega
  have hc := cutsTo_eq hi hP (by omega) h8 ht hle
  have hR : RefAt (uC (sg_up σ 35 24 (N i)) i n (WL T (D i) - wN T (6 * n - D i 2) (D i 1)) (D i)) T S i i (pd D i (eC T (D i) n)) := by
    refine RefAt_pd h0 hi ?_ ?_ ?_ ?_ ?_
    · intro q kk hq
      rcases hq with rfl | rfl
      all_goals simp (decide := true) only [uC, up_c]
    · simp (decide := true) only [uC, up_c]; exact h0.2.2.2.2.1
    · simp (decide := true) only [uC, up_c]; exact h0.2.2.2.2.2.1
    · obtain ⟨p0, p1, p2, p3, p4, p5, p6, p7, p8⟩ := hP
      unfold RPic eC uC
      simp (decide := true) only [up_c, up_eq, du_eq, du_ne, h8, Nat.sub_zero]
      rw [h8] at p8
      exact ⟨p0, p1, p2, trivial, p4, trivial, p6, trivial, p8⟩
    · intro q j hq hj
      rcases hq with rfl | rfl | rfl | rfl | rfl | rfl | rfl | rfl | rfl
      all_goals simp (decide := true) only [uC, up_c, up_k hj]
  obtain ⟨r1, r2⟩ := ev_fin hok hi hk (eC_ok h.2.1 hI hL hn hn2 hb) hR (x4 := 0) (by
    unfold eC
    simp (decide := true) only [du_ne]
    rw [l3]
    rfl)
  have hs : s_X5_goes σ 99 (N n) = s_X5_goes_a170 (uC (sg_up σ 35 24 (N i)) i n (WL T (D i) - wN T (6 * n - D i 2) (D i 1)) (D i)) (N i) 0 := by
    rw [g1]
    unfold s_X5_goes_a48
    rw [if_pos (by decide), if_neg (fun z => z rfl), hc]
  have hx : ∀ a, a < 5 → ix (N (100 * i + 5 * D i 5) + N a) 200 := fun a ha => by rw [N_add]; exact ix_N (by omega) (by decide)
  refine ⟨by rw [hs]; exact r1, g2 ⟨bt_i hi, fun _ => ⟨fun z => absurd rfl z, fun _ => ⟨?_, ?_⟩⟩, fun z => absurd (by decide) z⟩⟩
  · have e5 : (sg_up σ 35 24 (N i)) 49 (ni (N i)) = N (D i 5) := by rw [ni_N (by omega)]; exact hP.2.2.2.2.2.1
    have ec : 100 * N i + 5 * (sg_up σ 35 24 (N i)) 49 (ni (N i)) = N (100 * i + 5 * D i 5) := by
      rw [e5, show (100 : Int32) = N 100 from rfl, show (5 : Int32) = N 5 from rfl, N_mul, N_mul, N_add]
    unfold p_X5_cutsTo
    rw [ec]
    refine ⟨ix2 hi, ptakes_eq hi hP hb (by omega) a2 a4, ix2 hi, ix_N (by omega) (by decide), ix2 hi, hx 1 (by decide), ix2 hi, hx 2 (by decide), hx 3 (by decide), hx 4 (by decide), ix2 hi, ix2 hi, ix2 hi, ix2 hi, ix2 hi⟩
  · rw [hc]; exact r2
/-- the innings is closed -/
theorem ev_close {n : Int32} (h : RefAt σ T S i tch D) (hok : OK T (S 1) k i tch D) (hi : i < 2) (hk : k ≤ 400) : Res (uS (sg_up σ 35 24 (N i)) i (WL T (D i)) (D i)) T S k i (pd D i (eS T (D i))) (s_X5_goes σ 47 n) ∧ p_X5_goes σ 47 n := by
  have hI := hok.2.2.2.1 i hi
  have hL := hok.2.2.2.2.1 i hi (Nat.le_refl i)
  obtain ⟨a1, a2, a3, a4, a5, a6, a7, a8, a9, a10⟩ := id hI
  obtain ⟨l1, l2, l3⟩ := id hL
  have h0 := RefAt_tch (v := i) h
  have hP := h0.pic hi
  have h8 : D i 8 = 0 := by rw [a10, if_neg (by omega)]
  obtain ⟨g1, g2⟩ := goes_nd (n := n) (e := 47) h hi (by decide)
  have hP2 : RPic (sg_up (sg_up σ 35 24 (N i)) 47 i 1) i (du (D i) 6 1) := by
    obtain ⟨p0, p1, p2, p3, p4, p5, p6, p7, p8⟩ := hP
    unfold RPic
    simp (decide := true) only [up_c, up_eq, du_eq, du_ne] at p0 p1 p2 p3 p4 p5 p6 p7 p8 ⊢
    exact ⟨p0, p1, p2, p3, p4, p5, trivial, p7, p8⟩
  have hT2 : TabAt (sg_up (sg_up σ 35 24 (N i)) 47 i 1) 37 T := TabAt_up h0.1 (by decide)
  have e2 : du (D i) 6 1 2 = D i 2 := du_ne (by decide)
  have e3 : du (D i) 6 1 3 = D i 3 := du_ne (by decide)
  have e1 : du (D i) 6 1 1 = D i 1 := du_ne (by decide)
  have ht : v_X5_leftWorth (sg_up (sg_up σ 35 24 (N i)) 47 i 1) (N i) = N (WL T (D i)) := by
    rw [leftWorth_eq hi hP2 hT2 h.2.1 (by rw [e2, e3]; exact a3) (by rw [e3]; exact a2) (by rw [e1]; exact a4)]
    unfold WL
    rw [e1, e2, e3]
  have hc := close_eq (y1 := N i) (x2 := n) (x4 := 0) (e := 47) hi (h.pic hi) h8 ht a8
  have hR : RefAt (uS (sg_up σ 35 24 (N i)) i (WL T (D i)) (D i)) T S i i (pd D i (eS T (D i))) := by
    refine RefAt_pd h0 hi ?_ ?_ ?_ ?_ ?_
    · intro q kk hq
      rcases hq with rfl | rfl
      all_goals simp (decide := true) only [uS, up_c]
    · simp (decide := true) only [uS, up_c]; exact h0.2.2.2.2.1
    · simp (decide := true) only [uS, up_c]; exact h0.2.2.2.2.2.1
    · obtain ⟨p0, p1, p2, p3, p4, p5, p6, p7, p8⟩ := hP
      unfold RPic eS uS
      simp (decide := true) only [up_c, up_eq, du_eq, du_ne] at p0 p1 p2 p3 p4 p5 ⊢
      exact ⟨p0, p1, p2, p3, p4, p5, trivial⟩
    · intro q j hq hj
      rcases hq with rfl | rfl | rfl | rfl | rfl | rfl | rfl | rfl | rfl
      all_goals simp (decide := true) only [uS, up_c, up_k hj]
  obtain ⟨r1, r2⟩ := ev_fin hok hi hk (eS_ok hI) hR (x4 := 1) (by
    unfold eS
    simp (decide := true) only [du_ne, du_eq])
  have hs : s_X5_goes σ 47 n = s_X5_goes_a170 (uS (sg_up σ 35 24 (N i)) i (WL T (D i)) (D i)) (N i) 1 := by
    rw [g1]
    unfold s_X5_goes_a48
    rw [if_pos (by decide), if_pos (by decide), if_neg (fun z => z rfl), hc]
  refine ⟨by rw [hs]; exact r1, g2 ⟨bt_i hi, fun _ => ⟨fun _ => ⟨fun z => absurd rfl z, fun _ => ⟨ix2 hi, ?_, ix2 hi, ix2 hi, ix2 hi, ix2 hi, ?_⟩⟩, fun z => absurd (by decide) z⟩, fun z => absurd (by decide) z⟩⟩
  · have e9 : t_X5_goes_3 σ 47 n (N i) 0 (N i) = sg_up (sg_up σ 35 24 (N i)) 47 i 1 := by
      unfold t_X5_goes_3
      rw [ni_N (show i < 2147483648 by omega)]
    rw [e9]
    exact pleftWorth_eq hi hP2 (by rw [e2, e3]; exact a3) (by rw [e3]; exact a2) (by rw [e1]; exact a4)
  · rw [hc]; exact r2
/-- fewer overs for the second innings -/
theorem ev_d {n : Nat} (h : RefAt σ T S i tch D) (hok : OK T (S 1) k i tch D) (hk : k ≤ 400) (hE : i = 0 ∨ i = 1 ∧ tch = 0) (hn : 1 ≤ n) (hn2 : n < D 1 3) : s_X5_goes σ 100 (N n) = uD σ n (wN T (6 * n) 0) ∧ RefAt (uD σ n (wN T (6 * n) 0)) T S i tch (pd D 1 (eD T (D 1) n)) ∧ OK T (S 1) (k + 1) i tch (pd D 1 (eD T (D 1) n)) ∧ p_X5_goes σ 100 (N n) := by
  obtain ⟨o1, o2, o3, o4, o5, o6, o7⟩ := id hok
  have hI := o4 1 (by decide)
  have hL := o5 1 (by decide) (by omega)
  have hF := o6 hE
  obtain ⟨a1, a2, a3, a4, a5, a6, a7, a8, a9, a10⟩ := id hI
  obtain ⟨d1, d2, d3⟩ := eD_ok h.2.1 hI hF hL hn hn2
  have h8 : D 1 8 = 0 := by rw [a10, if_neg (by have := hL.2.2; omega)]
  have ew : 6 * N n = N (6 * n) := by rw [show (6 : Int32) = N 6 from rfl, N_mul]
  have hw : v_X5_worthOf (sg_up σ 44 1 (N n)) (N (6 * n)) 0 = N (wN T (6 * n) 0) := worth5 (w := 0) (TabAt_up h.1 (by decide)) h.2.1 (by omega) (by decide)
  have hs : s_X5_goes σ 100 (N n) = uD σ n (wN T (6 * n) 0) := by
    unfold s_X5_goes t_X5_goes_6 uD
    rw [if_neg (fun z => z rfl), ew, hw]
  refine ⟨hs, ?_, ?_, ?_⟩
  · refine ⟨fun kk hkk => ?_, h.2.1, fun kk hkk => ?_, h.2.2.2.1, ?_, ?_, ?_, ?_⟩
    · simp (decide := true) only [uD, up_c]; exact h.1 kk hkk
    · simp (decide := true) only [uD, up_c]; exact h.2.2.1 kk hkk
    · simp (decide := true) only [uD, up_c]; exact h.2.2.2.2.1
    · simp (decide := true) only [uD, up_c]; exact h.2.2.2.2.2.1
    · rw [pd_ne (by decide)]
      refine RPic_set (E' := D 0) h.2.2.2.2.2.2.1 (fun q hq => ?_)
      rcases hq with rfl | rfl | rfl | rfl | rfl | rfl | rfl | rfl | rfl
      all_goals simp (decide := true) only [uD, up_c, up_k]
    · rw [pd_eq]
      obtain ⟨p0, p1, p2, p3, p4, p5, p6, p7, p8⟩ := h.2.2.2.2.2.2.2
      unfold RPic eD uD
      simp (decide := true) only [up_c, up_eq, du_eq, du_ne, h8, Nat.sub_zero]
      rw [h8] at p8
      exact ⟨p0, p1, p2, trivial, p4, p5, p6, trivial, p8⟩
  · refine ⟨o1, o2, o3, fun j hj => ?_, fun j hj hn => ?_, fun _ => ?_, fun _ _ => ?_⟩
    · by_cases e : j = 1
      · subst e; rw [pd_eq]; exact d1
      · rw [pd_ne e]; exact InnOK_mono (o4 j hj)
    · by_cases e : j = 1
      · subst e; rw [pd_eq]; exact d3
      · rw [pd_ne e]; exact o5 j hj hn
    · rw [pd_eq]; exact d2
    · rw [show pd D 1 (eD T (D 1) n) 1 = eD T (D 1) n from pd_eq, d2.1]
      exact tgt_pos _ _ _ _ _
  · refine ⟨fun z => absurd rfl z, fun _ => ?_⟩
    rw [ew]
    exact pworth5 (w := 0) (by omega) (by decide)
end EvRef2
end
section
/-! THE MATCH AS A RUN OF EVENTS -/
abbrev mS : Type := Nat × Nat × (Nat → Nat → Nat)
noncomputable def nxt (T : Nat → Nat) (mean i : Nat) (D : Nat → Nat → Nat) : mS := (@ite Nat (ended T mean i D) (Classical.propDecidable _) (i + 1) i, i, D)
noncomputable def stp (T : Nat → Nat) (mean : Nat) (x : mS) (e n : Int32) : Option mS :=
  if e = 100 then (if (x.1 = 0 ∨ x.1 = 1 ∧ x.2.1 = 0) ∧ 1 ≤ ni n ∧ ni n < x.2.2 1 3 then some (x.1, x.2.1, pd x.2.2 1 (eD T (x.2.2 1) (ni n))) else none)
  else if 2 ≤ x.1 then none
  else if e = 99 then (if 1 ≤ ni n ∧ ni n < x.2.2 x.1 3 ∧ x.2.2 x.1 2 ≤ 6 * ni n then some (nxt T mean x.1 (pd x.2.2 x.1 (eC T (x.2.2 x.1) (ni n)))) else none)
  else if e = 47 then some (nxt T mean x.1 (pd x.2.2 x.1 (eS T (x.2.2 x.1))))
  else if e = 119 ∨ e = 110 then some (nxt T mean x.1 (pd x.2.2 x.1 (eE (x.2.2 x.1))))
  else if e = 120 then some (nxt T mean x.1 (pd x.2.2 x.1 (eX (x.2.2 x.1))))
  else if 48 ≤ ni e ∧ ni e ≤ 54 then some (nxt T mean x.1 (pd x.2.2 x.1 (eB (x.2.2 x.1) (ni e - 48))))
  else none
def bE (T S : Nat → Nat) : Nat → Nat := fun f => if f = 3 then S 0 else if f = 7 then wN T (6 * S 0) 0 else 0
def begn (T S : Nat → Nat) : mS := (0, 0, fun _ => bE T S)
noncomputable def mrun (T S : Nat → Nat) (ev nu : Nat → Int32) (k : Nat) : Option mS := Nat.rec (motive := fun _ => Option mS) (some (begn T S)) (fun j o => o.bind (fun x => stp T (S 1) x (ev j) (nu j))) k
theorem mrun_0 {T S : Nat → Nat} {ev nu : Nat → Int32} : mrun T S ev nu 0 = some (begn T S) := rfl
theorem mrun_s {T S : Nat → Nat} {ev nu : Nat → Int32} {k : Nat} : mrun T S ev nu (k + 1) = (mrun T S ev nu k).bind (fun x => stp T (S 1) x (ev k) (nu k)) := rfl
theorem mrun_some {T S : Nat → Nat} {ev nu : Nat → Int32} {k : Nat} {x : mS} (h : mrun T S ev nu k = some x) : mrun T S ev nu (k + 1) = stp T (S 1) x (ev k) (nu k) := by
  rw [mrun_s, h]
  rfl
theorem mrun_congr {T S : Nat → Nat} {ev nu ev' nu' : Nat → Int32} : ∀ k, (∀ j, j < k → ev j = ev' j ∧ nu j = nu' j) → mrun T S ev nu k = mrun T S ev' nu' k := by
  intro k
  induction k with
  | zero => intro _; rfl
  | succ k ih =>
    intro h
    obtain ⟨h1, h2⟩ := h k (by omega)
    rw [mrun_s, mrun_s, ih (fun j hj => h j (by omega)), h1, h2]
theorem mrun_pre {T S : Nat → Nat} {ev nu : Nat → Int32} {k : Nat} {x : mS} (h : mrun T S ev nu (k + 1) = some x) : ∃ y, mrun T S ev nu k = some y ∧ stp T (S 1) y (ev k) (nu k) = some x := by
  rw [mrun_s] at h
  cases hy : mrun T S ev nu k with
  | none => rw [hy] at h; cases h
  | some y => rw [hy] at h; exact ⟨y, rfl, h⟩
theorem mrun_le {T S : Nat → Nat} {ev nu : Nat → Int32} : ∀ (d k : Nat) {x : mS}, mrun T S ev nu (k + d) = some x → ∃ y, mrun T S ev nu k = some y := by
  intro d
  induction d with
  | zero => intro k x h; exact ⟨x, h⟩
  | succ d ih =>
    intro k x h
    obtain ⟨y, hy, -⟩ := mrun_pre (k := k + d) h
    exact ih k hy
theorem mrun_le' {T S : Nat → Nat} {ev nu : Nat → Int32} {j k : Nat} {x : mS} (h : mrun T S ev nu k = some x) (hj : j ≤ k) : ∃ y, mrun T S ev nu j = some y := by
  obtain ⟨d, rfl⟩ := Nat.exists_eq_add_of_le hj
  exact mrun_le d j h
theorem ni_pos {x : Int32} (h : 1 ≤ ni x) : N (ni x) = x := by
  refine N_ni (fun hx => ?_)
  rw [Int32.lt_iff_toInt_lt, show (0 : Int32).toInt = 0 from rfl] at hx
  have h0 : ni x = x.toInt.toNat := rfl
  omega
/-! the reference goes one event on -/
def RSame (σ σ' : sg_S) : Prop := ∀ q k, ¬ (41 ≤ q ∧ q ≤ 56) → ¬ (q = 35 ∧ (k = 23 ∨ k = 24)) → σ' q k = σ q k
theorem RSame.rf {σ : sg_S} : RSame σ σ := fun _ _ _ _ => rfl
theorem RSame.tr {σ σ1 σ2 : sg_S} (h : RSame σ σ1) (h' : RSame σ1 σ2) : RSame σ σ2 := fun q k a b => (h' q k a b).trans (h q k a b)
theorem RSame.row {σ σ' : sg_S} (h : RSame σ σ') {q : Nat} (h1 : ¬ (41 ≤ q ∧ q ≤ 56)) (h2 : ¬ q = 35) : σ' q = σ q := funext (fun k => h q k h1 (fun z => h2 z.1))
section Goes
variable {σ : sg_S} {T S : Nat → Nat} {k i t : Nat} {D : Nat → Nat → Nat}
theorem RSame_t {v : Int32} : RSame σ (sg_up σ 35 24 v) := fun q k _ h2 => up_ne (by omega)
theorem RSame_n {v : Int32} : RSame σ (sg_up σ 35 23 v) := fun q k _ h2 => up_ne (by omega)
theorem RSame_u {q0 k0 : Nat} {v : Int32} (h : 41 ≤ q0 ∧ q0 ≤ 56) : RSame σ (sg_up σ q0 k0 v) := fun q k h1 _ => up_ne (by omega)
theorem RSame_B {m : Nat} {E : Nat → Nat} : RSame σ (uB σ i m E) := fun q k h1 _ => by
  simp (disch := omega) only [uB, up_c]
theorem RSame_X {E : Nat → Nat} : RSame σ (uX σ i E) := fun q k h1 _ => by
  simp (disch := omega) only [uX, uB, up_c]
theorem RSame_C {n took : Nat} {E : Nat → Nat} : RSame σ (uC σ i n took E) := fun q k h1 _ => by
  simp (disch := omega) only [uC, up_c]
theorem RSame_S {took : Nat} {E : Nat → Nat} : RSame σ (uS σ i took E) := fun q k h1 _ => by
  simp (disch := omega) only [uS, up_c]
theorem RSame_E {E : Nat → Nat} : RSame σ (uE σ i E) := fun q k h1 _ => by
  simp (disch := omega) only [uE, up_c]
theorem RSame_D {n p : Nat} : RSame σ (uD σ n p) := fun q k h1 _ => by
  simp (disch := omega) only [uD, up_c]
theorem nxt_now {now' : Nat} {mean : Nat} (h1 : now' = i ∨ now' = i + 1) (h2 : now' = i + 1 ↔ ended T mean i D) : (nxt T mean i D).1 = now' := by
  unfold nxt
  dsimp only
  by_cases he : ended T mean i D
  · rw [if_pos he]; exact (h2.mpr he).symm
  · rw [if_neg he]
    rcases h1 with h1 | h1
    · exact h1.symm
    · exact absurd (h2.mp h1) he
theorem res_nxt {σ1 s : sg_S} {D' : Nat → Nat → Nat} (h : Res σ1 T S k i D' s) (hs : RSame σ σ1) : RefAt s T S (nxt T (S 1) i D').1 (nxt T (S 1) i D').2.1 (nxt T (S 1) i D').2.2 ∧ OK T (S 1) (k + 1) (nxt T (S 1) i D').1 (nxt T (S 1) i D').2.1 (nxt T (S 1) i D').2.2 ∧ RSame σ s := by
  obtain ⟨now', h1, h2, h3, h4, h5⟩ := h
  have e := nxt_now h1 h2
  rw [e]
  refine ⟨h4, h5, ?_⟩
  rw [h3]
  exact hs.tr RSame_n
theorem goes_ok {e n : Int32} (h : RefAt σ T S i t D) (hok : OK T (S 1) k i t D) (hk : k ≤ 400) {y : mS} (hs : stp T (S 1) (i, t, D) e n = some y) : RefAt (s_X5_goes σ e n) T S y.1 y.2.1 y.2.2 ∧ OK T (S 1) (k + 1) y.1 y.2.1 y.2.2 ∧ p_X5_goes σ e n ∧ RSame σ (s_X5_goes σ e n) := by
  unfold stp at hs
  dsimp only at hs
  by_cases he : e = 100
  · rw [if_pos he] at hs
    by_cases hc : (i = 0 ∨ i = 1 ∧ t = 0) ∧ 1 ≤ ni n ∧ ni n < D 1 3
    · rw [if_pos hc] at hs
      cases hs
      obtain ⟨hE, h1, h2⟩ := hc
      subst he
      obtain ⟨a1, a2, a3, a4⟩ := ev_d (n := ni n) h hok hk hE h1 h2
      rw [ni_pos h1] at a1 a4
      rw [a1]
      exact ⟨a2, a3, a4, RSame_D⟩
    · rw [if_neg hc] at hs; cases hs
  rw [if_neg he] at hs
  by_cases h2 : 2 ≤ i
  · rw [if_pos h2] at hs; cases hs
  rw [if_neg h2] at hs
  have hi : i < 2 := by omega
  by_cases h99 : e = 99
  · rw [if_pos h99] at hs
    by_cases hc : 1 ≤ ni n ∧ ni n < D i 3 ∧ D i 2 ≤ 6 * ni n
    · rw [if_pos hc] at hs
      cases hs
      obtain ⟨g1, g2, g3⟩ := hc
      subst h99
      obtain ⟨a1, a2⟩ := ev_cut (n := ni n) h hok hi hk g1 g2 g3
      rw [ni_pos g1] at a1 a2
      obtain ⟨b1, b2, b3⟩ := res_nxt a1 (RSame_t.tr RSame_C)
      exact ⟨b1, b2, a2, b3⟩
    · rw [if_neg hc] at hs; cases hs
  rw [if_neg h99] at hs
  by_cases h47 : e = 47
  · rw [if_pos h47] at hs
    cases hs
    subst h47
    obtain ⟨a1, a2⟩ := ev_close (n := n) h hok hi hk
    obtain ⟨b1, b2, b3⟩ := res_nxt a1 (RSame_t.tr RSame_S)
    exact ⟨b1, b2, a2, b3⟩
  rw [if_neg h47] at hs
  by_cases hE : e = 119 ∨ e = 110
  · rw [if_pos hE] at hs
    cases hs
    obtain ⟨a1, a2⟩ := ev_extra (n := n) h hok hi hk hE
    obtain ⟨b1, b2, b3⟩ := res_nxt a1 (RSame_t.tr RSame_E)
    exact ⟨b1, b2, a2, b3⟩
  rw [if_neg hE] at hs
  by_cases hX : e = 120
  · rw [if_pos hX] at hs
    cases hs
    subst hX
    obtain ⟨a1, a2⟩ := ev_x (n := n) h hok hi hk
    obtain ⟨b1, b2, b3⟩ := res_nxt a1 (RSame_t.tr RSame_X)
    exact ⟨b1, b2, a2, b3⟩
  rw [if_neg hX] at hs
  by_cases hB : 48 ≤ ni e ∧ ni e ≤ 54
  · rw [if_pos hB] at hs
    cases hs
    have ee : N (48 + (ni e - 48)) = e := by
      rw [show 48 + (ni e - 48) = ni e by omega]
      exact ni_pos (by omega)
    obtain ⟨a1, a2⟩ := ev_ball (n := n) (m := ni e - 48) h hok hi hk (by omega)
    rw [ee] at a1 a2
    obtain ⟨b1, b2, b3⟩ := res_nxt a1 (RSame_t.tr RSame_B)
    exact ⟨b1, b2, a2, b3⟩
  rw [if_neg hB] at hs
  cases hs
end Goes
/-! the reference begins -/
theorem up_ite {σ : sg_S} {q k q' k' : Nat} {v : Int32} : sg_up σ q k v q' k' = if q' = q ∧ k' = k then v else σ q' k' := rfl
theorem N14 {j : Nat} {L : Nat} (hj : j ≤ L) (hL : L < 2147483648) : (N L ≤ N j) ↔ j = L := by
  rw [N_le hL (by omega)]; omega
theorem begins131 : ∀ (n j : Nat) (σ : sg_S), j ≤ 14 → 14 - j < n → p_X5_begins_l131 n σ (N j) ∧ ∀ q k, s_X5_begins_l131 n σ (N j) q k = if q = 56 ∧ j ≤ k ∧ k < 14 then 0 else if q = 35 ∧ (k = 23 ∨ k = 24) then 0 else σ q k := by
  intro n
  induction n with
  | zero => intro j σ _ hn; omega
  | succ n ih =>
    intro j σ hj hn
    by_cases e : j = 14
    · have hc : (14 : Int32) ≤ N j := (N14 (L := 14) hj (by decide)).mpr e
      refine ⟨fun z => absurd hc z, fun q k => ?_⟩
      show s_X5_begins_b131 (s_X5_begins_l131 n) σ (N j) q k = _
      unfold s_X5_begins_b131 t_X5_begins_0
      rw [if_pos hc, up_ite, up_ite]
      repeat' split
      all_goals first | rfl | omega
    · have hc : ¬ (14 : Int32) ≤ N j := fun z => e ((N14 (L := 14) hj (by decide)).mp z)
      obtain ⟨i1, i2⟩ := ih (j + 1) (sg_up σ 56 (ni (N j)) 0) (by omega) (by omega)
      refine ⟨fun _ => ⟨ix_N (by omega) (by decide), by rw [N_inc]; exact i1⟩, fun q k => ?_⟩
      show s_X5_begins_b131 (s_X5_begins_l131 n) σ (N j) q k = _
      unfold s_X5_begins_b131
      rw [if_neg hc, N_inc, i2, ni_N (by omega), up_ite]
      repeat' split
      all_goals first | rfl | omega
theorem begins96 : ∀ (n j : Nat) (σ : sg_S), j ≤ 40 → 40 - j < n → p_X5_begins_l96 n σ (N j) ∧ ∀ q k, s_X5_begins_l96 n σ (N j) q k = if (q = 53 ∨ q = 54 ∨ q = 55) ∧ j ≤ k ∧ k < 40 then 0 else if q = 56 ∧ k < 14 then 0 else if q = 35 ∧ (k = 23 ∨ k = 24) then 0 else σ q k := by
  intro n
  induction n with
  | zero => intro j σ _ hn; omega
  | succ n ih =>
    intro j σ hj hn
    by_cases e : j = 40
    · have hc : (40 : Int32) ≤ N j := (N14 (L := 40) hj (by decide)).mpr e
      obtain ⟨i1, i2⟩ := begins131 600 0 σ (by decide) (by decide)
      refine ⟨⟨fun _ => i1, fun z => absurd hc z⟩, fun q k => ?_⟩
      show s_X5_begins_b96 (s_X5_begins_l96 n) σ (N j) q k = _
      unfold s_X5_begins_b96
      rw [if_pos hc]
      refine (i2 q k).trans ?_
      repeat' split
      all_goals first | rfl | omega
    · have hc : ¬ (40 : Int32) ≤ N j := fun z => e ((N14 (L := 40) hj (by decide)).mp z)
      have hx : ix (N j) 40 := ix_N (by omega) (by decide)
      obtain ⟨i1, i2⟩ := ih (j + 1) (t_X5_begins_2 σ (N j)) (by omega) (by omega)
      refine ⟨⟨fun z => absurd z hc, fun _ => ⟨hx, hx, hx, by rw [N_inc]; exact i1⟩⟩, fun q k => ?_⟩
      show s_X5_begins_b96 (s_X5_begins_l96 n) σ (N j) q k = _
      unfold s_X5_begins_b96
      rw [if_neg hc, N_inc, i2]
      unfold t_X5_begins_2 t_X5_begins_1
      rw [ni_N (by omega), up_ite, up_ite, up_ite]
      repeat' split
      all_goals first | rfl | omega
theorem begins_eq (σ : sg_S) : s_X5_begins σ = s_X5_begins_l96 600 (t_X5_begins_10 (t_X5_begins_10 σ 0) 1) 0 := by
  show s_X5_begins_b2 (s_X5_begins_l2 599) σ 0 = _
  unfold s_X5_begins_b2
  rw [if_neg (by decide)]
  show s_X5_begins_b2 (s_X5_begins_l2 598) (t_X5_begins_10 σ 0) 1 = _
  unfold s_X5_begins_b2
  rw [if_neg (by decide)]
  show s_X5_begins_b2 (s_X5_begins_l2 597) (t_X5_begins_10 (t_X5_begins_10 σ 0) 1) 2 = _
  unfold s_X5_begins_b2
  rw [if_pos (by decide)]
section Begins
variable {σ : sg_S} {T S : Nat → Nat}
theorem t10_at {i : Nat} (hi : i < 2) (hT : TabAt σ 37 T) (hK : TabOK T) (hS : SetAt σ 36 S) (hSK : SetOK S) : ∀ q k, t_X5_begins_10 σ (N i) q k = if 41 ≤ q ∧ q ≤ 49 ∧ k = i then (if q = 44 then N (S 0) else if q = 45 then N (wN T (6 * S 0) 0) else 0) else σ q k := by
  have h5 : t_X5_begins_5 σ (N i) = sg_up (sg_up (sg_up (sg_up σ 41 i 0) 42 i 0) 43 i 0) 44 i (N (S 0)) := by
    unfold t_X5_begins_5 t_X5_begins_4 t_X5_begins_3
    rw [ni_N (by omega)]
    simp (decide := true) only [up_c]
    rw [hS 0 (by decide)]
  have h6 : t_X5_begins_6 σ (N i) = sg_up (sg_up (sg_up (sg_up (sg_up σ 41 i 0) 42 i 0) 43 i 0) 44 i (N (S 0))) 45 i (N (wN T (6 * S 0) 0)) := by
    unfold t_X5_begins_6
    rw [h5, ni_N (by omega)]
    congr 1
    simp (decide := true) only [up_c]
    rw [hS 0 (by decide), show (6 : Int32) = N 6 from rfl, N_mul]
    exact worth5 (w := 0) (by
      intro k hk
      simp (decide := true) only [up_c]
      exact hT k hk) hK (by have := hSK.2.1; omega) (by decide)
  intro q k
  unfold t_X5_begins_10 t_X5_begins_9 t_X5_begins_8 t_X5_begins_7
  rw [h6, ni_N (by omega)]
  simp only [up_ite]
  repeat' split
  all_goals first | rfl | omega
theorem SetOK0 (hSK : SetOK S) : 6 * S 0 ≤ 120 := by have := hSK.2.1; omega
theorem begins_at (hT : TabAt σ 37 T) (hK : TabOK T) (hS : SetAt σ 36 S) (hSK : SetOK S) : p_X5_begins σ ∧ ∀ q k, s_X5_begins σ q k = if 53 ≤ q ∧ q ≤ 55 ∧ k < 40 then 0 else if q = 56 ∧ k < 14 then 0 else if q = 35 ∧ (k = 23 ∨ k = 24) then 0 else if 41 ≤ q ∧ q ≤ 49 ∧ k < 2 then (if q = 44 then N (S 0) else if q = 45 then N (wN T (6 * S 0) 0) else 0) else σ q k := by
  have a0 := t10_at (i := 0) (by decide) hT hK hS hSK
  have hT1 : TabAt (t_X5_begins_10 σ 0) 37 T := fun k hk => by
    rw [show t_X5_begins_10 σ 0 37 k = _ from a0 37 k, if_neg (by omega)]
    exact hT k hk
  have hS1 : SetAt (t_X5_begins_10 σ 0) 36 S := fun k hk => by
    rw [show t_X5_begins_10 σ 0 36 k = _ from a0 36 k, if_neg (by omega)]
    exact hS k hk
  have a1 := t10_at (i := 1) (by decide) hT1 hK hS1 hSK
  obtain ⟨b1, b2⟩ := begins96 600 0 (t_X5_begins_10 (t_X5_begins_10 σ 0) 1) (by decide) (by decide)
  refine ⟨?_, fun q k => ?_⟩
  · have pw : ∀ (τ : sg_S) (x : Int32), (t_X5_begins_5 τ x) 36 0 = τ 36 0 := by
      intro τ x
      unfold t_X5_begins_5 t_X5_begins_4 t_X5_begins_3
      simp (decide := true) only [up_c]
    have p0 : p_X5_worthOf (6 * N (S 0)) 0 := by
      rw [show (6 : Int32) = N 6 from rfl, N_mul]
      exact pworth5 (w := 0) (SetOK0 hSK) (by decide)
    have x0 : ix 0 2 := ix_N (a := 0) (by decide) (by decide)
    have x1 : ix 1 2 := ix_N (a := 1) (by decide) (by decide)
    refine ⟨fun z => absurd z (by decide), fun _ => ⟨x0, x0, x0, x0, ?_, x0, x0, x0, x0, x0, ?_⟩⟩
    · rw [pw, hS 0 (by decide)]; exact p0
    refine ⟨fun z => absurd z (by decide), fun _ => ⟨x1, x1, x1, x1, ?_, x1, x1, x1, x1, x1, ?_⟩⟩
    · rw [pw, hS1 0 (by decide)]; exact p0
    exact ⟨fun _ => b1, fun z => absurd (by decide) z⟩
  · rw [begins_eq]
    refine (b2 q k).trans ?_
    have e1 : t_X5_begins_10 (t_X5_begins_10 σ 0) 1 q k = _ := a1 q k
    rw [e1, show t_X5_begins_10 σ 0 q k = _ from a0 q k]
    repeat' split
    all_goals first | rfl | omega
theorem begn_OK (hK : TabOK T) (hSK : SetOK S) {mean : Nat} : OK T mean 0 0 0 (fun _ => bE T S) := by
  obtain ⟨s1, s2, s3, s4, s5, s6, s7⟩ := hSK
  have e0 : bE T S 0 = 0 := rfl
  have e1 : bE T S 1 = 0 := rfl
  have e2 : bE T S 2 = 0 := rfl
  have e3 : bE T S 3 = S 0 := rfl
  have e4 : bE T S 4 = 0 := rfl
  have e5 : bE T S 5 = 0 := rfl
  have e6 : bE T S 6 = 0 := rfl
  have e7 : bE T S 7 = wN T (6 * S 0) 0 := rfl
  have e8 : bE T S 8 = 0 := rfl
  have hF : Fresh T (bE T S) := ⟨e0, e1, e2, e4, e5, by rw [e3, e7]⟩
  have hI : InnOK T 0 (bE T S) := by
    unfold InnOK WL
    rw [e0, e1, e2, e3, e5, e6, e7, e8]
    refine ⟨s1, s2, by omega, by omega, by omega, by omega, by omega, Nat.le_refl _, wN_le hK (by omega) (by decide), ?_⟩
    rw [if_neg (by decide)]
  have hL : Live (bE T S) := ⟨by rw [e2, e3]; omega, by rw [e1]; decide, e6⟩
  exact ⟨by decide, by decide, fun _ => rfl, fun j _ => hI, fun j _ _ => hL, fun _ => hF, fun z => absurd z (by decide)⟩
theorem begins_ok (hT : TabAt σ 37 T) (hK : TabOK T) (hS : SetAt σ 36 S) (hSK : SetOK S) : p_X5_begins σ ∧ RefAt (s_X5_begins σ) T S 0 0 (fun _ => bE T S) ∧ OK T (S 1) 0 0 0 (fun _ => bE T S) ∧ RSame σ (s_X5_begins σ) := by
  obtain ⟨h1, h2⟩ := begins_at hT hK hS hSK
  have hP : ∀ i, i < 2 → RPic (s_X5_begins σ) i (bE T S) := by
    intro i hi
    unfold RPic
    rw [h2, h2, h2, h2, h2, h2, h2, h2, h2]
    simp (decide := true) only [if_pos, if_neg, hi, true_and, and_true, false_and, and_false, if_true, if_false, false_or, or_false, false_and]
    exact ⟨rfl, rfl, rfl, rfl, rfl, rfl, rfl, rfl, rfl⟩
  refine ⟨h1, ⟨fun k hk => ?_, hK, fun k hk => ?_, hSK, ?_, ?_, hP 0 (by decide), hP 1 (by decide)⟩, begn_OK hK hSK, fun q k a b => ?_⟩
  · rw [h2, if_neg (by omega), if_neg (by omega), if_neg (by omega), if_neg (by omega)]
    exact hT k hk
  · rw [h2, if_neg (by omega), if_neg (by omega), if_neg (by omega), if_neg (by omega)]
    exact hS k hk
  · rw [h2, if_neg (by omega), if_neg (by omega), if_pos (by omega)]; rfl
  · rw [h2, if_neg (by omega), if_neg (by omega), if_pos (by omega)]; rfl
  · rw [h2, if_neg (by omega), if_neg (by omega), if_neg (by omega), if_neg (by omega)]
end Begins
/-! the reference goes to an event -/
theorem goesTo6 {T S : Nat → Nat} {k : Nat} {y : mS} (hk : k ≤ 400) : ∀ (n j : Nat) (σ : sg_S) (x : mS), j ≤ k → k - j < n → RefAt σ T S x.1 x.2.1 x.2.2 → OK T (S 1) j x.1 x.2.1 x.2.2 → mrun T S (σ 39) (σ 40) j = some x → mrun T S (σ 39) (σ 40) k = some y → p_X5_goesTo_l6 n σ (N k) (N j) ∧ RefAt (s_X5_goesTo_l6 n σ (N k) (N j)) T S y.1 y.2.1 y.2.2 ∧ OK T (S 1) k y.1 y.2.1 y.2.2 ∧ RSame σ (s_X5_goesTo_l6 n σ (N k) (N j)) := by
  intro n
  induction n with
  | zero => intro j σ x _ hn; omega
  | succ n ih =>
    intro j σ x hj hn hR hO hx hy
    by_cases e : j = k
    · subst e
      have hc : N j ≤ N j := Int32.le_refl _
      have exy : x = y := Option.some.inj (hx.symm.trans hy)
      subst exy
      have es : s_X5_goesTo_l6 (n + 1) σ (N j) (N j) = σ := by
        show s_X5_goesTo_b6 (s_X5_goesTo_l6 n) σ (N j) (N j) = _
        unfold s_X5_goesTo_b6
        rw [if_pos hc]
      rw [es]
      exact ⟨fun z => absurd hc z, hR, hO, RSame.rf⟩
    · have hc : ¬ N k ≤ N j := by
        rw [N_le (by omega) (by omega)]; omega
      obtain ⟨z, hz⟩ := mrun_le' hy (j := j + 1) (by omega)
      have hst := hz
      rw [mrun_some hx] at hst
      obtain ⟨g1, g2, g3, g4⟩ := goes_ok (y := z) hR hO (by omega) (show stp T (S 1) (x.1, x.2.1, x.2.2) (σ 39 j) (σ 40 j) = some z from hst)
      have r39 := g4.row (q := 39) (by decide) (by decide)
      have r40 := g4.row (q := 40) (by decide) (by decide)
      obtain ⟨i1, i2, i3, i4⟩ := ih (j + 1) (s_X5_goes σ (σ 39 j) (σ 40 j)) z (by omega) (by omega) g1 g2 (by rw [r39, r40]; exact hz) (by rw [r39, r40]; exact hy)
      have es : s_X5_goesTo_l6 (n + 1) σ (N k) (N j) = s_X5_goesTo_l6 n (s_X5_goes σ (σ 39 j) (σ 40 j)) (N k) (N (j + 1)) := by
        show s_X5_goesTo_b6 (s_X5_goesTo_l6 n) σ (N k) (N j) = _
        unfold s_X5_goesTo_b6
        rw [if_neg hc, ni_N (by omega), N_inc]
      rw [es]
      refine ⟨fun _ => ?_, i2, i3, g4.tr i4⟩
      rw [ni_N (by omega), N_inc]
      exact ⟨ix_N (by omega) (by decide), ix_N (by omega) (by decide), g3, i1⟩
theorem goesTo_ok {σ : sg_S} {T S : Nat → Nat} {k : Nat} {y : mS} (hT : TabAt σ 37 T) (hK : TabOK T) (hS : SetAt σ 36 S) (hSK : SetOK S) (hk : k ≤ 400) (hy : mrun T S (σ 39) (σ 40) k = some y) : p_X5_goesTo σ (N k) ∧ RefAt (s_X5_goesTo σ (N k)) T S y.1 y.2.1 y.2.2 ∧ OK T (S 1) k y.1 y.2.1 y.2.2 ∧ RSame σ (s_X5_goesTo σ (N k)) := by
  obtain ⟨b1, b2, b3, b4⟩ := begins_ok hT hK hS hSK
  have r39 := b4.row (q := 39) (by decide) (by decide)
  have r40 := b4.row (q := 40) (by decide) (by decide)
  obtain ⟨g1, g2, g3, g4⟩ := goesTo6 hk 600 0 (s_X5_begins σ) (begn T S) (by omega) (by omega) b2 b3 rfl (by rw [r39, r40]; exact hy)
  exact ⟨⟨b1, g1⟩, g2, g3, b4.tr g4⟩
end
section
/-! THE CLASS'S METHODS RETURN (all but those that add up a block) -/
theorem q_X0_targetBy (σ : sg_S) (c : Nat) (x0 x1 : Int32) : p_X0_targetBy σ c x0 x1 := fun h1 h2 => ⟨fun _ => ⟨q_X2_setting _, pos_nz2 h2⟩, fun _ => pos_nz h1⟩
theorem q_X0_theTarget (σ : sg_S) (c : Nat) : p_X0_theTarget σ c := fun _ => q_X0_targetBy _ _ _ _
theorem q_X0_targetIfCut (σ : sg_S) (c : Nat) (x0 : Int32) : p_X0_targetIfCut σ c x0 := ⟨q_X0_lossByCut _ _ _, q_X0_targetBy _ _ _ _⟩
theorem q_X0_parWithout (σ : sg_S) (c : Nat) (x0 : Int32) : p_X0_parWithout σ c x0 := q_X0_targetBy _ _ _ _
theorem q_X0_parNow (σ : sg_S) (c : Nat) : p_X0_parNow σ c := fun _ _ => ⟨q_X0_worthLeft _ _, q_X0_parWithout _ _ _⟩
theorem q_X0_leadOverTie (σ : sg_S) (c : Nat) (x0 : Int32) : p_X0_leadOverTie σ c x0 := ⟨q_X0_theTarget _ _, fun _ => ⟨fun _ => ⟨q_X0_worthLeft _ _, q_X0_parWithout _ _ _⟩, fun _ => q_X0_parWithout _ _ _⟩⟩
theorem q_X0_outcome (σ : sg_S) (c : Nat) (x0 : Int32) : p_X0_outcome σ c x0 := ⟨q_X2_setting _, fun _ _ => ⟨fun _ => q_X0_leadOverTie _ _ _, fun _ _ => q_X0_leadOverTie _ _ _⟩, fun _ _ => ⟨fun _ => q_X0_leadOverTie _ _ _, fun _ _ => q_X0_leadOverTie _ _ _⟩⟩
theorem q_X0_leadAtEnd (σ : sg_S) (c : Nat) : p_X0_leadAtEnd σ c := ⟨q_X0_outcome _ _ _, fun _ => q_X0_leadOverTie _ _ _, fun _ _ => ⟨q_X0_theTarget _ _, fun _ => q_X0_leadOverTie _ _ _⟩⟩
theorem q_X0_boundaries (q : Nat) : p_X0_boundaries q := ⟨q_X1_ballsThatMade _ _, q_X1_ballsThatMade _ _⟩
theorem q_X0_projection (σ : sg_S) (c : Nat) : p_X0_projection σ c := ⟨q_X0_worthLeft _ _, fun h => pos_nz h⟩
theorem q_X0_targetReached (σ : sg_S) (c : Nat) : p_X0_targetReached σ c := fun _ _ => q_X0_targetBy _ _ _ _
theorem q_X1_restart_l64 (q : Nat) : ∀ (n k : Nat) (σ : sg_S), k ≤ 7 → 7 - k < n → p_X1_restart_l64 q n σ (N k) := by
  intro n
  induction n with
  | zero => intro k σ hk hn; omega
  | succ n ih =>
    intro k σ hk hn
    show p_X1_restart_b64 q (p_X1_restart_l64 q n) σ (N k)
    unfold p_X1_restart_b64
    intro h2
    have h2 : ¬ N 6 < N k := h2
    rw [N_lt (by decide) (by omega)] at h2
    rw [N_inc]
    exact ⟨ix_N (by omega) (by decide), ih _ _ (by omega) (by omega)⟩
theorem q_X1_restart_l43 (q : Nat) : ∀ (n k : Nat) (σ : sg_S), k ≤ 60 → 60 - k < n → p_X1_restart_l43 q n σ (N k) := by
  intro n
  induction n with
  | zero => intro k σ hk hn; omega
  | succ n ih =>
    intro k σ hk hn
    show p_X1_restart_b43 q (p_X1_restart_l43 q n) σ (N k)
    unfold p_X1_restart_b43
    refine ⟨fun _ => q_X1_restart_l64 q 600 0 _ (by decide) (by decide), fun h2 => ?_⟩
    have h2 : ¬ N 60 ≤ N k := h2
    rw [N_le (by decide) (by omega)] at h2
    rw [N_inc]
    exact ⟨ix_N (by omega) (by decide), ih _ _ (by omega) (by omega)⟩
theorem q_X1_restart (σ : sg_S) (q : Nat) (x0 x1 : Int32) : p_X1_restart σ q x0 x1 := q_X1_restart_l43 q 600 0 _ (by decide) (by decide)
theorem q_X0_restart (σ : sg_S) (c : Nat) : p_X0_restart σ c := ⟨q_X2_setting _, q_X2_worthOfOvers _, q_X1_restart _ _ _ _, q_X2_worthOfOvers _, q_X1_restart _ _ _ _⟩
theorem q_X0_take_a121 (c : Nat) (σ : sg_S) (r3 : Nat) : p_X0_take_a121 c σ r3 := fun _ => q_X0_targetReached _ _
theorem q_X0_take_a36 (c : Nat) (σ : sg_S) (x1 x2 : Int32) : p_X0_take_a36 c σ x1 x2 :=
  ⟨fun _ => ⟨fun _ => ⟨fun _ => ⟨fun _ => ⟨q_X1_addExtra _ _, q_X0_take_a121 _ _ _⟩, fun _ => ⟨fun _ => ⟨q_X1_addBall _ _ _, q_X0_take_a121 _ _ _⟩, fun _ => ⟨q_X1_addExtra _ _, q_X0_take_a121 _ _ _⟩⟩⟩, fun _ => ⟨q_X1_addWicket _ _, q_X0_take_a121 _ _ _⟩⟩, fun _ => ⟨q_X0_lossByCut _ _ _, q_X1_addCut _ _ _ _, q_X0_take_a121 _ _ _⟩⟩, fun _ => ⟨q_X0_worthLeft _ _, q_X0_take_a121 _ _ _⟩⟩
theorem q_X0_take (σ : sg_S) (c : Nat) (x0 x1 : Int32) : p_X0_take σ c x0 x1 := ⟨fun _ => ⟨fun _ => q_X0_take_a36 _ _ _ _, fun _ => q_X0_take_a36 _ _ _ _⟩, fun _ => q_X2_worthOfOvers _⟩
theorem q_X4_replay_l6 (c : Nat) : ∀ (n k : Nat) (σ : sg_S) (x2 : Int32), k ≤ 400 → 400 - k < n → p_X4_replay_l6 c n σ x2 (N k) := by
  intro n
  induction n with
  | zero => intro k σ x2 hk hn; omega
  | succ n ih =>
    intro k σ x2 hk hn
    show p_X4_replay_b6 c (p_X4_replay_l6 c n) σ x2 (N k)
    unfold p_X4_replay_b6
    intro _ h2
    have h2 : ¬ N 400 ≤ N k := h2
    rw [N_le (by decide) (by omega)] at h2
    rw [N_inc]
    exact ⟨ix_N (by omega) (by decide), ix_N (by omega) (by decide), q_X0_take _ _ _ _, ih _ _ _ (by omega) (by omega)⟩
theorem q_X4_replay (σ : sg_S) (c : Nat) (x1 : Int32) : p_X4_replay σ c x1 := ⟨q_X0_restart _ _, q_X4_replay_l6 c 600 0 _ _ (by decide) (by decide)⟩
theorem q_X4_record (σ : sg_S) (x0 x1 : Int32) : p_X4_record σ x0 x1 := by
  intro h1 h2
  obtain ⟨a, ha, ea⟩ := ex_lt 400 h1 h2 (by decide)
  have e1 : (sg_up σ 33 (ni (σ 0 6)) x0) 0 6 = σ 0 6 := up_c (by decide)
  refine ⟨?_, ?_, q_X0_take _ _ _ _⟩
  · rw [ea]; exact ix_N ha (by decide)
  · rw [e1, ea]; exact ix_N ha (by decide)
theorem q_X4_emptyLog (σ : sg_S) : p_X4_emptyLog σ := q_X0_restart _ _
theorem q_X4_set (σ : sg_S) (x0 x1 : Int32) : p_X4_set σ x0 x1 := ⟨q_X2_allows _ _, fun _ => ⟨q_X2_setting _, fun _ => ⟨q_X2_change _ _, q_X4_emptyLog _⟩⟩⟩
theorem q_X4_clear (σ : sg_S) : p_X4_clear σ := q_X4_emptyLog _
theorem q_X4_back (σ : sg_S) : p_X4_back σ := fun _ => q_X4_replay _ _ _
theorem q_X4_play (σ : sg_S) (x0 x1 : Int32) : p_X4_play σ x0 x1 := fun _ _ => ⟨fun _ => q_X4_record _ _ _, fun _ _ => q_X4_record _ _ _⟩
theorem q_X4_after (σ : sg_S) (x0 x1 : Int32) : p_X4_after σ x0 x1 := fun _ _ _ _ => ⟨q_X4_replay _ _ _, fun _ _ _ _ => ⟨fun _ => q_X0_theTarget _ _, fun _ => q_X0_parNow _ _⟩⟩
theorem q_X4_firstAhead_l9 : ∀ (n k : Nat) (σ : sg_S), k ≤ 400 → 400 - k < n → p_X4_firstAhead_l9 n σ (N k) := by
  intro n
  induction n with
  | zero => intro k σ hk hn; omega
  | succ n ih =>
    intro k σ hk hn
    show p_X4_firstAhead_b9 (p_X4_firstAhead_l9 n) σ (N k)
    unfold p_X4_firstAhead_b9
    intro _ h2
    have h2 : ¬ N 400 ≤ N k := h2
    rw [N_le (by decide) (by omega)] at h2
    rw [N_inc]
    exact ⟨ix_N (by omega) (by decide), ix_N (by omega) (by decide), q_X0_take _ _ _ _, q_X0_parNow _ _, fun _ => ih _ _ (by omega) (by omega), fun _ _ => ih _ _ (by omega) (by omega)⟩
theorem q_X4_firstAhead (σ : sg_S) : p_X4_firstAhead σ := ⟨q_X0_restart _ _, q_X4_firstAhead_l9 600 0 _ (by decide) (by decide)⟩
theorem q_X4_readRow_l20 : ∀ (n k : Nat) (σ : sg_S) (x1 : Int32), k ≤ 5 → 5 - k < n → p_X4_readRow_l20 n σ x1 (N k) := by
  intro n
  induction n with
  | zero => intro k σ x1 hk hn; omega
  | succ n ih =>
    intro k σ x1 hk hn
    show p_X4_readRow_b20 (p_X4_readRow_l20 n) σ x1 (N k)
    unfold p_X4_readRow_b20
    refine ⟨fun _ => q_X3_readByte _ _, fun h2 => ?_⟩
    have h2 : ¬ N 5 ≤ N k := h2
    rw [N_le (by decide) (by omega)] at h2
    rw [N_inc]
    exact ⟨q_X3_readNumber _, fun _ _ => ⟨fun _ => ⟨q_X2_propose _ _ _, ih _ _ _ (by omega) (by omega)⟩, fun _ => ih _ _ _ (by omega) (by omega)⟩⟩
theorem q_X4_readRow (σ : sg_S) : p_X4_readRow σ := ⟨q_X3_readRowWord _, fun _ => q_X4_readRow_l20 600 0 _ _ (by decide) (by decide)⟩
theorem q_X4_readTable_l21 : ∀ (n k : Nat) (σ : sg_S), k ≤ 500 → 500 - k < n → p_X4_readTable_l21 n σ (N k) := by
  intro n
  induction n with
  | zero => intro k σ hk hn; omega
  | succ n ih =>
    intro k σ hk hn
    show p_X4_readTable_b21 (p_X4_readTable_l21 n) σ (N k)
    unfold p_X4_readTable_b21
    refine ⟨fun _ => q_X2_proposalHolds _, fun h2 => ?_⟩
    have h2 : ¬ N 500 ≤ N k := h2
    rw [N_le (by decide) (by omega)] at h2
    rw [N_inc]
    exact ⟨q_X3_seek _, fun _ => q_X2_proposalHolds _, fun _ => ⟨q_X4_readRow _, fun _ => ih _ _ (by omega) (by omega)⟩⟩
theorem q_X4_readTable (σ : sg_S) : p_X4_readTable σ := ⟨q_X2_beginProposal _, q_X4_readTable_l21 600 0 _ (by decide) (by decide)⟩
theorem q_X4_table (σ : sg_S) : p_X4_table σ := ⟨q_X4_readTable _, fun _ => ⟨q_X2_adoptProposal _, q_X4_emptyLog _⟩⟩
theorem q_X4_readEvent (σ : sg_S) : p_X4_readEvent σ := ⟨q_X3_takeByte _, fun _ _ => ⟨fun _ => q_X4_record _ _ _, fun _ => ⟨q_X3_readNumber _, fun _ _ => q_X4_record _ _ _⟩⟩⟩
theorem q_X4_events_a57 (σ : sg_S) (x1 : Int32) : p_X4_events_a57 σ x1 := fun _ => q_X4_replay _ _ _
theorem q_X4_events_l19 : ∀ (n k : Nat) (σ : sg_S) (x1 : Int32), k ≤ 500 → 500 - k < n → p_X4_events_l19 n σ x1 (N k) := by
  intro n
  induction n with
  | zero => intro k σ x1 hk hn; omega
  | succ n ih =>
    intro k σ x1 hk hn
    show p_X4_events_b19 (p_X4_events_l19 n) σ x1 (N k)
    unfold p_X4_events_b19
    refine ⟨fun _ => q_X4_events_a57 _ _, fun h2 => ?_⟩
    have h2 : ¬ N 500 ≤ N k := h2
    rw [N_le (by decide) (by omega)] at h2
    rw [N_inc]
    exact ⟨fun _ => q_X4_events_a57 _ _, fun _ => ⟨q_X3_seek _, fun _ => q_X4_events_a57 _ _, fun _ => ⟨q_X4_readEvent _, ih _ _ _ (by omega) (by omega)⟩⟩⟩
theorem q_X4_events (σ : sg_S) : p_X4_events σ := q_X4_events_l19 600 0 _ _ (by decide) (by decide)
theorem q_X4_leastCut_l2 (σ : sg_S) : ∀ (n k : Nat) (x1 : Int32), k ≤ 20 → 20 - k < n → p_X4_leastCut_l2 σ n x1 (N k) := by
  intro n
  induction n with
  | zero => intro k x1 hk hn; omega
  | succ n ih =>
    intro k x1 hk hn
    show p_X4_leastCut_b2 σ (p_X4_leastCut_l2 σ n) x1 (N k)
    unfold p_X4_leastCut_b2
    intro h2
    have h2 : ¬ N 20 ≤ N k := h2
    rw [N_le (by decide) (by omega)] at h2
    rw [N_inc]
    exact ⟨fun _ => ih _ _ (by omega) (by omega), fun _ => ⟨q_X0_targetIfCut _ _ _, fun _ => ih _ _ (by omega) (by omega)⟩⟩
theorem q_X4_leastCut (σ : sg_S) (x0 : Int32) : p_X4_leastCut σ x0 := q_X4_leastCut_l2 σ 600 1 _ (by decide) (by decide)
theorem q_X4_cut (σ : sg_S) (x0 x1 x2 : Int32) : p_X4_cut σ x0 x1 x2 := fun _ _ _ _ => q_X1_cutFact _ _ _ _
theorem q_X4_over (x0 x1 x2 : Int32) : p_X4_over x0 x1 x2 := fun _ _ _ _ => q_X1_overFact _ _ _
theorem q_X4_block (σ : sg_S) (x0 x1 : Int32) : p_X4_block σ x0 x1 := fun _ _ => q_X2_blockOvers _ _ _
theorem q_X4_fall (σ : sg_S) (x0 x1 x2 : Int32) : p_X4_fall σ x0 x1 x2 := fun _ _ => ⟨fun _ => q_X1_runsAtFall _ _ _, fun _ => ⟨fun _ => q_X1_ballsAtFall _ _ _, fun _ _ => q_X1_standOf _ _ _⟩⟩
theorem q_X4_lastStand (σ : sg_S) (x0 : Int32) : p_X4_lastStand σ x0 := fun _ _ => q_X1_openStand _ _
theorem q_X4_bestStand (σ : sg_S) (x0 : Int32) : p_X4_bestStand σ x0 := fun _ => q_X1_greatestStand _ _
theorem q_X4_made (x0 x1 : Int32) : p_X4_made x0 x1 := fun _ _ _ => q_X1_ballsThatMade _ _
theorem q_X4_bestOver (σ : sg_S) (x0 : Int32) : p_X4_bestOver σ x0 := fun _ => ⟨fun _ => q_X1_greatestOver _ _, fun _ _ => q_X1_greatestOver _ _⟩
theorem q_X4_projected (σ : sg_S) : p_X4_projected σ := fun _ => q_X0_projection _ _
theorem q_X4_target (σ : sg_S) : p_X4_target σ := q_X0_theTarget _ _
theorem q_X4_result (σ : sg_S) : p_X4_result σ := fun _ => q_X0_outcome _ _ _
theorem q_X4_margin (σ : sg_S) : p_X4_margin σ := fun _ => q_X0_leadAtEnd _ _
theorem q_X4_ifCut (σ : sg_S) (x0 : Int32) : p_X4_ifCut σ x0 := fun _ => q_X0_targetIfCut _ _ _
theorem q_X4_ifClosed (σ : sg_S) : p_X4_ifClosed σ := fun _ => q_X0_outcome _ _ _
theorem q_X4_ifRuns (σ : sg_S) (x0 : Int32) : p_X4_ifRuns σ x0 := fun _ _ _ => q_X0_targetBy _ _ _ _
theorem q_X4_rate (σ : sg_S) (x0 x1 : Int32) : p_X4_rate σ x0 x1 := fun _ _ => q_X4_inLeastTerms _ _ _
theorem q_X4_par (σ : sg_S) : p_X4_par σ := q_X0_parNow _ _
theorem q_X4_needs (σ : sg_S) (x0 : Int32) : p_X4_needs σ x0 := fun _ _ => ⟨q_X0_theTarget _ _, fun _ _ => ⟨fun _ => q_X4_inLeastTerms _ _ _, fun _ _ => q_X4_inLeastTerms _ _ _⟩⟩
end
