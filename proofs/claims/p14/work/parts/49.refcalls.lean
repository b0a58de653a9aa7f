/-! THE REFERENCE'S CALLS THAT ASK -/
theorem inn_ex {x : Int32} (h : ¬ v_X5_isInnings x = 0) : ∃ i, x = N i ∧ i < 2 := by
  obtain ⟨a, e, -, ha⟩ := in_ex (lo := 0) (hi := 1) (by decide) (by decide) h
  exact ⟨a, e, by omega⟩
theorem in_pred {x : Int32} {c : Nat} (hc : c < 1000) (h : ¬ v_X5_in x 0 (N c - 1) = 0) : ∃ a, x = N a ∧ a < c := by
  by_cases e : c = 0
  · subst e
    exfalso
    apply h
    unfold v_X5_in
    by_cases g : x < 0
    · rw [if_pos g]
    · obtain ⟨a, ha, rfl⟩ := ex_nn g
      rw [if_neg g, if_pos (by rw [Int32.lt_iff_toInt_lt, N_toInt ha, show (N 0 - 1).toInt = -1 from rfl]; omega)]
  · rw [show (1 : Int32) = N 1 from rfl, N_sub (by omega)] at h
    obtain ⟨a, e1, -, ha⟩ := in_ex (lo := 0) (hi := c - 1) (by decide) (by omega) h
    exact ⟨a, e1, by omega⟩
section RAsk
variable {σ : sg_S} {T S : Nat → Nat} {k t : Nat}
theorem RQ0 (v : Int32) (h : RInv σ T S k t) : ∃ x : mS, mrun T S (σ 39) (σ 40) k = some x ∧ p_X5_goesOn (sg_up σ 35 0 v) ∧ RefAt (s_X5_goesOn (sg_up σ 35 0 v)) T S x.1 x.2.1 x.2.2 ∧ OK T (S 1) k x.1 x.2.1 x.2.2 ∧ QSame σ (s_X5_goesOn (sg_up σ 35 0 v)) := by
  have h0 := RInv_0 (v := v) h
  obtain ⟨x, hx⟩ := h0.2.2.2.2.2.2.1
  obtain ⟨g1, g2, g3, g4⟩ := goesOn_ok h0 hx
  exact ⟨x, hx, g1, g2, g3, QSame_0.tr g4.q⟩
theorem R_fault : QSame σ (r_X5_fault σ).2 := QSame_0
theorem R_worth {x0 x1 : Int32} : p_X5_worth x0 x1 ∧ QSame σ (r_X5_worth σ x0 x1).2 := by
  refine ⟨fun h1 h2 => ?_, ?_⟩
  · obtain ⟨a, rfl, -, ha⟩ := in_ex (lo := 0) (hi := 120) (by decide) (by decide) h1
    obtain ⟨w, rfl, -, hw⟩ := in_ex (lo := 0) (hi := 10) (by decide) (by decide) h2
    exact pworth5 ha hw
  · unfold r_X5_worth
    repeat' split
    all_goals exact QSame_0
theorem R_told {x0 x1 : Int32} : p_X5_told x0 x1 ∧ QSame σ (r_X5_told σ x0 x1).2 := by
  refine ⟨fun h1 h2 => ?_, ?_⟩
  · obtain ⟨a, rfl, -, ha⟩ := in_ex (lo := 0) (hi := 9) (by decide) (by decide) h1
    obtain ⟨w, rfl, -, hw⟩ := in_ex (lo := 1) (hi := 4) (by decide) (by decide) h2
    exact ix_5 (n := 10) (by omega) (by omega) (by decide) (by decide)
  · unfold r_X5_told
    repeat' split
    all_goals exact QSame_0
theorem R_count {x0 : Int32} (h : RInv σ T S k t) : p_X5_count σ x0 ∧ QSame σ (r_X5_count σ x0).2 := by
  obtain ⟨x, hx, g1, g2, g3, hQ⟩ := RQ0 0 h
  refine ⟨⟨g1, fun z => ?_⟩, ?_⟩
  · obtain ⟨a, rfl, a1, a2⟩ := in_ex (lo := 10) (hi := 14) (by decide) (by decide) z
    rw [show (10 : Int32) = N 10 from rfl, N_sub a1]
    exact ix_N (by omega) (by decide)
  · unfold r_X5_count
    repeat' split
    all_goals exact hQ
theorem R_innings {x0 x1 : Int32} (h : RInv σ T S k t) : p_X5_innings σ x0 x1 ∧ QSame σ (r_X5_innings σ x0 x1).2 := by
  obtain ⟨x, hx, g1, g2, g3, hQ⟩ := RQ0 0 h
  have h1 : ¬ (sg_up σ 35 0 1) 35 0 ≤ 0 := by rw [up_eq]; decide
  refine ⟨⟨fun _ z => absurd z h1, fun hi => ⟨fun _ z => absurd z h1, fun _ _ => ?_⟩⟩, ?_⟩
  · obtain ⟨i, rfl, hi'⟩ := inn_ex hi
    have hi := hi'
    have x2 := ix2 hi
    exact ⟨g1, fun _ => x2, fun _ => ⟨fun _ => x2, fun _ => ⟨fun _ => x2, fun _ => ⟨fun _ => x2, fun _ => ⟨fun _ => x2, fun _ => ⟨fun _ => x2, fun _ => ⟨fun _ => x2, fun _ => ⟨fun _ => x2, fun _ _ => ⟨x2, x2⟩⟩⟩⟩⟩⟩⟩⟩⟩
  · have q1 : QSame σ (r_X5_innings_a23 σ x0 x1 1).2 := by
      unfold r_X5_innings_a23
      rw [if_neg h1]
      exact QSame_0
    have q0 : QSame σ (r_X5_innings_a23 σ x0 x1 0).2 := by
      unfold r_X5_innings_a23
      repeat' split
      all_goals first | exact hQ | exact QSame_0
    unfold r_X5_innings
    repeat' split
    all_goals first | exact q1 | exact q0
theorem R_cut {x0 x1 x2 : Int32} (h : RInv σ T S k t) : p_X5_cut σ x0 x1 x2 ∧ QSame σ (r_X5_cut σ x0 x1 x2).2 := by
  obtain ⟨x, hx⟩ := h.2.2.2.2.2.2.1
  obtain ⟨g1, g2, g3, g4⟩ := goesOn_ok h hx
  have h1 : ¬ (sg_up (s_X5_goesOn σ) 35 0 1) 35 0 ≤ 0 := by rw [up_eq]; decide
  have hq : ∀ y : Int32, QSame σ (r_X5_cut_a53 (s_X5_goesOn σ) x0 x1 x2 y).2 := fun y => by
    unfold r_X5_cut_a53
    split
    all_goals exact g4.q.tr QSame_0
  have hq2 : ∀ y1 y2 y4 : Int32, QSame σ (r_X5_cut_a30 (s_X5_goesOn σ) x0 x1 x2 y1 y2 y4).2 := fun y1 y2 y4 => by
    unfold r_X5_cut_a30
    repeat' split
    all_goals exact hq _
  refine ⟨⟨g1, fun _ z => absurd z h1, fun hi => ⟨fun z => absurd z hi, fun _ => ?_⟩⟩, ?_⟩
  · obtain ⟨i, rfl, hi'⟩ := inn_ex hi
    have hi := hi'
    have hI := g3.2.2.2.1 i hi
    refine ⟨ix2 hi, fun _ z => absurd z h1, fun hk => ⟨fun _ z => absurd z h1, fun hw _ => ?_⟩⟩
    rw [ni_N (by omega), (g2.pic hi).2.2.2.2.2.1] at hk
    have h5 : x.2.2 i 5 ≤ 19 := by have := hI.1; have := hI.2.2.2.2.1; omega
    obtain ⟨a, rfl, ha⟩ := in_pred (by omega) hk
    obtain ⟨w, rfl, -, hw⟩ := in_ex (lo := 0) (hi := 4) (by decide) (by decide) hw
    rw [show (100 : Int32) = N 100 from rfl, show (5 : Int32) = N 5 from rfl, N_mul, N_mul, N_add, N_add]
    exact ix_N (by omega) (by decide)
  · unfold r_X5_cut
    repeat' split
    all_goals first | exact hq _ | exact hq2 _ _ _
theorem R_over {x0 x1 x2 : Int32} (h : RInv σ T S k t) : p_X5_over σ x0 x1 x2 ∧ QSame σ (r_X5_over σ x0 x1 x2).2 := by
  obtain ⟨x, hx, g1, g2, g3, hQ⟩ := RQ0 0 h
  refine ⟨fun hi ho hw => ⟨g1, ?_⟩, ?_⟩
  · obtain ⟨i, rfl, hi'⟩ := inn_ex hi
    have hi := hi'
    obtain ⟨o, rfl, -, ho⟩ := in_ex (lo := 0) (hi := 19) (by decide) (by decide) ho
    rw [show (20 : Int32) = N 20 from rfl, N_mul, N_add]
    exact ofOver_p (by omega)
  · unfold r_X5_over
    repeat' split
    all_goals first | exact hQ | exact QSame_0
theorem R_block {x0 x1 : Int32} (h : RInv σ T S k t) : p_X5_block σ x0 x1 ∧ QSame σ (r_X5_block σ x0 x1).2 := by
  obtain ⟨x, hx, g1, g2, g3, hQ⟩ := RQ0 0 h
  have key : ∀ i, i < 2 → p_X5_laysBlocks (s_X5_goesOn (sg_up σ 35 0 0)) ((s_X5_goesOn (sg_up σ 35 0 0)) 44 (ni (N i))) ∧ QSame σ (t_X5_block_0 σ (N i) x1) := fun i hi => by
    unfold t_X5_block_0
    rw [ni_N (by omega), (g2.pic hi).2.2.2.1]
    obtain ⟨l1, l2, -⟩ := lay_ok g2.2.2.1 g2.2.2.2.1 (g3.2.2.2.1 i hi).2.1
    exact ⟨l1, hQ.tr l2.q⟩
  refine ⟨fun hi hk => ?_, ?_⟩
  · obtain ⟨i, rfl, hi'⟩ := inn_ex hi
    have hi := hi'
    obtain ⟨kk, rfl, -, hk⟩ := in_ex (lo := 0) (hi := 2) (by decide) (by decide) hk
    exact ⟨g1, ix2 hi, (key i hi).1, ix_N (by omega) (by decide)⟩
  · unfold r_X5_block
    by_cases hi : v_X5_isInnings x0 = 0
    · rw [if_pos hi]; exact QSame_0
    rw [if_neg hi]
    obtain ⟨i, rfl, hi'⟩ := inn_ex hi
    have hi := hi'
    split
    · exact (key i hi).2
    · exact QSame_0
theorem R_blockNow (h : RInv σ T S k t) : p_X5_blockNow σ ∧ QSame σ (r_X5_blockNow σ).2 := by
  obtain ⟨x, hx, g1, g2, g3, hQ⟩ := RQ0 0 h
  have hlt : ¬ (s_X5_goesOn (sg_up σ 35 0 0)) 35 23 = 2 → x.1 < 2 := by
    intro hz
    have := g3.1
    rw [g2.2.2.2.2.1] at hz
    rcases (show x.1 = 2 ∨ x.1 < 2 by omega) with e | e
    · rw [e] at hz; exact absurd rfl hz
    · exact e
  have key : x.1 < 2 → p_X5_laysBlocks (s_X5_goesOn (sg_up σ 35 0 0)) ((s_X5_goesOn (sg_up σ 35 0 0)) 44 (ni ((s_X5_goesOn (sg_up σ 35 0 0)) 35 23))) ∧ BSame (s_X5_goesOn (sg_up σ 35 0 0)) (t_X5_blockNow_0 σ) := fun hi => by
    unfold t_X5_blockNow_0
    rw [g2.2.2.2.2.1, ni_N (by omega), (g2.pic hi).2.2.2.1]
    obtain ⟨l1, l2, -⟩ := lay_ok g2.2.2.1 g2.2.2.2.1 (g3.2.2.2.1 x.1 hi).2.1
    exact ⟨l1, l2⟩
  refine ⟨⟨g1, fun hz => ?_⟩, ?_⟩
  · have hi := hlt hz
    obtain ⟨k1, k2⟩ := key hi
    refine ⟨?_, k1, ?_⟩
    · rw [g2.2.2.2.2.1]; exact ix2 hi
    · rw [k2 35 23 (by decide), g2.2.2.2.2.1]; exact ix2 hi
  · unfold r_X5_blockNow
    by_cases hz : ¬ (s_X5_goesOn (sg_up σ 35 0 0)) 35 23 = 2
    · rw [if_pos hz]
      have q := hQ.tr (key (hlt hz)).2.q
      repeat' split
      all_goals exact q
    · rw [if_neg hz]; exact hQ
theorem R_inBlock {x0 x1 x2 : Int32} (h : RInv σ T S k t) : p_X5_inBlock σ x0 x1 x2 ∧ QSame σ (r_X5_inBlock σ x0 x1 x2).2 := by
  obtain ⟨x, hx, g1, g2, g3, hQ⟩ := RQ0 0 h
  have key : ¬ v_X5_isInnings x0 = 0 → ¬ v_X5_in x1 0 2 = 0 → p_X5_ofBlock (s_X5_goesOn (sg_up σ 35 0 0)) x0 x1 x2 ∧ BSame (s_X5_goesOn (sg_up σ 35 0 0)) (r_X5_ofBlock (s_X5_goesOn (sg_up σ 35 0 0)) x0 x1 x2).2 := fun hi hk => by
    obtain ⟨i, rfl, hi'⟩ := inn_ex hi
    have hi := hi'
    obtain ⟨kk, rfl, -, hk⟩ := in_ex (lo := 0) (hi := 2) (by decide) (by decide) hk
    exact ofBlock_ok g2 hi (g3.2.2.2.1 i hi) (by omega)
  refine ⟨fun hi hk _ => ⟨g1, (key hi hk).1⟩, ?_⟩
  unfold r_X5_inBlock
  by_cases hi : v_X5_isInnings x0 = 0
  · rw [if_pos hi]; exact QSame_0
  rw [if_neg hi]
  by_cases hk : v_X5_in x1 0 2 = 0
  · rw [if_pos hk]; exact QSame_0
  rw [if_neg hk]
  split
  · exact hQ.tr (key hi hk).2.q
  · exact QSame_0
theorem R_fall {x0 x1 x2 : Int32} (h : RInv σ T S k t) : p_X5_fall σ x0 x1 x2 ∧ QSame σ (r_X5_fall σ x0 x1 x2).2 := by
  obtain ⟨x, hx, g1, g2, g3, hQ⟩ := RQ0 0 h
  refine ⟨⟨g1, fun hi => ?_⟩, ?_⟩
  · obtain ⟨i, rfl, hi'⟩ := inn_ex hi
    have hi := hi'
    refine ⟨ix2 hi, fun hk _ => ?_⟩
    rw [ni_N (by omega), (g2.pic hi).2.1] at hk
    have hw := (g3.2.2.2.1 i hi).2.2.2.1
    obtain ⟨a, rfl, ha⟩ := in_pred (by omega) hk
    have xa : ix (10 * N i + N a) 20 := by rw [t_eq]; exact ix_N (by omega) (by decide)
    exact ⟨fun _ => ⟨fun _ => stand_p hi (by omega), fun _ => xa⟩, fun _ => xa⟩
  · unfold r_X5_fall
    repeat' split
    all_goals exact hQ
theorem R_lastStand {x0 : Int32} (h : RInv σ T S k t) : p_X5_lastStand σ x0 ∧ QSame σ (r_X5_lastStand σ x0).2 := by
  obtain ⟨x, hx, g1, g2, g3, hQ⟩ := RQ0 0 h
  refine ⟨⟨g1, fun hi => ?_⟩, ?_⟩
  · obtain ⟨i, rfl, hi'⟩ := inn_ex hi
    have hi := hi'
    exact last_p hi (g2.pic hi).2.1 (g3.2.2.2.1 i hi).2.2.2.1
  · unfold r_X5_lastStand
    repeat' split
    all_goals exact hQ
theorem R_bestStand {x0 : Int32} (h : RInv σ T S k t) : p_X5_bestStand σ x0 ∧ QSame σ (r_X5_bestStand σ x0).2 := by
  obtain ⟨x, hx, g1, g2, g3, hQ⟩ := RQ0 0 h
  refine ⟨fun hi => ?_, ?_⟩
  · obtain ⟨i, rfl, hi'⟩ := inn_ex hi
    have hi := hi'
    have hw := (g3.2.2.2.1 i hi).2.2.2.1
    exact ⟨g1, last_p hi (g2.pic hi).2.1 hw, (best26 hi (g2.pic hi).2.1 hw 600 0 _ (by omega) (by omega)).1⟩
  · unfold r_X5_bestStand
    by_cases hi : ¬ v_X5_isInnings x0 = 0
    · rw [if_pos hi]
      obtain ⟨i, rfl, hi'⟩ := inn_ex hi
      have hi := hi'
      have e := (best26 hi (g2.pic hi).2.1 (g3.2.2.2.1 i hi).2.2.2.1 600 0 (v_X5_lastOf (s_X5_goesOn (sg_up σ 35 0 0)) (N i)) (by omega) (by have := (g3.2.2.2.1 i hi).2.2.2.1; omega)).2
      have e : (r_X5_bestStand_l26 600 (s_X5_goesOn (sg_up σ 35 0 0)) (N i) (v_X5_lastOf (s_X5_goesOn (sg_up σ 35 0 0)) (N i)) 0).2 = _ := e
      rw [e]
      exact hQ
    · rw [if_neg hi]; exact QSame_0
theorem R_made {x0 x1 : Int32} (h : RInv σ T S k t) : p_X5_made σ x0 x1 ∧ QSame σ (r_X5_made σ x0 x1).2 := by
  obtain ⟨x, hx, g1, g2, g3, hQ⟩ := RQ0 0 h
  refine ⟨⟨g1, fun hi hr => ?_⟩, ?_⟩
  · obtain ⟨i, rfl, hi'⟩ := inn_ex hi
    have hi := hi'
    obtain ⟨r, rfl, -, hr⟩ := in_ex (lo := 0) (hi := 6) (by decide) (by decide) hr
    rw [m_eq]
    exact ix_N (by omega) (by decide)
  · unfold r_X5_made
    repeat' split
    all_goals exact hQ
theorem R_bestOver {x0 : Int32} (h : RInv σ T S k t) : p_X5_bestOver σ x0 ∧ QSame σ (r_X5_bestOver σ x0).2 := by
  obtain ⟨x, hx, g1, g2, g3, hQ⟩ := RQ0 0 h
  refine ⟨⟨g1, fun hi => ?_⟩, ?_⟩
  · obtain ⟨i, rfl, hi'⟩ := inn_ex hi
    have hi := hi'
    have p := (over_ok (σ := s_X5_goesOn (sg_up σ 35 0 0)) hi).1
    exact ⟨ix2 hi, fun _ => p, fun _ => ⟨ix2 hi, fun _ => p⟩⟩
  · unfold r_X5_bestOver
    repeat' split
    all_goals exact hQ
theorem R_rate {x0 x1 : Int32} (h : RInv σ T S k t) : p_X5_rate σ x0 x1 ∧ QSame σ (r_X5_rate σ x0 x1).2 := by
  obtain ⟨x, hx, g1, g2, g3, hQ⟩ := RQ0 0 h
  refine ⟨⟨g1, fun hi => ?_⟩, ?_⟩
  · obtain ⟨i, rfl, hi'⟩ := inn_ex hi
    have hi := hi'
    have hI := g3.2.2.2.1 i hi
    have hk := h.2.2.2.2.2.1
    refine ⟨ix2 hi, fun hz => ⟨ix2 hi, ix2 hi, ?_⟩⟩
    rw [ni_N (by omega), (g2.pic hi).2.2.1] at hz
    have hb : 0 < x.2.2 i 2 := by
      rcases Nat.eq_zero_or_pos (x.2.2 i 2) with e | e
      · rw [e] at hz; exact absurd rfl hz
      · exact e
    obtain ⟨a1, a2, a3, a4, a5, a6, -⟩ := hI
    rw [ni_N (by omega), (g2.pic hi).2.2.1, (g2.pic hi).1, show (6 : Int32) = N 6 from rfl, N_mul]
    exact rtells (by omega) hb (by omega)
  · unfold r_X5_rate
    repeat' split
    all_goals exact hQ
theorem R_projected (h : RInv σ T S k t) : p_X5_projected σ ∧ QSame σ (r_X5_projected σ).2 := by
  obtain ⟨x, hx, g1, g2, g3, hQ⟩ := RQ0 0 h
  refine ⟨⟨g1, fun _ => ⟨rpleft (j := 0) g2 (by decide) (g3.2.2.2.1 0 (by decide)), fun z => z⟩⟩, ?_⟩
  unfold r_X5_projected
  repeat' split
  all_goals exact hQ
theorem R_target (h : RInv σ T S k t) : p_X5_target σ ∧ QSame σ (r_X5_target σ).2 := by
  obtain ⟨x, hx, g1, g2, g3, hQ⟩ := RQ0 0 h
  have h0 := g3.2.2.2.1 0 (by decide)
  refine ⟨⟨g1, fun z => rptarget g2 h0 (rhas_p g2 g3.1 h0 z).2⟩, ?_⟩
  unfold r_X5_target
  repeat' split
  all_goals exact hQ
theorem R_par (h : RInv σ T S k t) : p_X5_par σ ∧ QSame σ (r_X5_par σ).2 := by
  obtain ⟨x, hx, g1, g2, g3, hQ⟩ := RQ0 0 h
  exact ⟨⟨g1, rpparNow g2 g3.1 (g3.2.2.2.1 0 (by decide)) (g3.2.2.2.1 1 (by decide))⟩, hQ⟩
theorem R_result (h : RInv σ T S k t) : p_X5_result σ ∧ QSame σ (r_X5_result σ).2 := by
  obtain ⟨x, hx, g1, g2, g3, hQ⟩ := RQ0 0 h
  refine ⟨⟨g1, fun _ => rpresult g2 (g3.2.2.2.1 0 (by decide)) (g3.2.2.2.1 1 (by decide))⟩, ?_⟩
  unfold r_X5_result
  repeat' split
  all_goals exact hQ
theorem R_margin (h : RInv σ T S k t) : p_X5_margin σ ∧ QSame σ (r_X5_margin σ).2 := by
  obtain ⟨x, hx, g1, g2, g3, hQ⟩ := RQ0 0 h
  have h0 := g3.2.2.2.1 0 (by decide)
  have h1 := g3.2.2.2.1 1 (by decide)
  refine ⟨⟨g1, fun _ => ⟨rpresult g2 h0 h1, fun _ z => ?_, fun z => ?_⟩⟩, ?_⟩
  · have hp := rp_of_result g2 h0 (by rw [z]; decide)
    exact ⟨rptarget g2 h0 hp, fun _ => rpaim g2 h0 h1 hp⟩
  · have z := Decidable.not_not.mp z
    exact rpaim g2 h0 h1 (rp_of_result g2 h0 (by rw [z]; decide))
  · unfold r_X5_margin
    repeat' split
    all_goals exact hQ
theorem R_needs {x0 : Int32} (h : RInv σ T S k t) : p_X5_needs σ x0 ∧ QSame σ (r_X5_needs σ x0).2 := by
  obtain ⟨x, hx, g1, g2, g3, hQ⟩ := RQ0 0 h
  have h0 := g3.2.2.2.1 0 (by decide)
  have h1 := g3.2.2.2.1 1 (by decide)
  have hk := h.2.2.2.2.2.1
  have l2 : p_X5_left 1 := pleft_eq (i := 1) (by decide)
  refine ⟨⟨g1, fun hn hh _ => ?_⟩, ?_⟩
  · have hn := Decidable.not_not.mp hn
    rw [g2.2.2.2.2.1] at hn
    have e1 : x.1 = 1 := (N_eq (b := 1) (by have := g3.1; omega) (by decide)).mp hn
    have hp := (rhas_p g2 g3.1 h0 hh).2
    obtain ⟨b1, b2, b3, b4, b5, b6, b7, b8, b9, b10⟩ := id h1
    have hlt := g3.2.2.2.2.2.2 e1 hp
    have hL := g3.2.2.2.2.1 1 (by decide) (by omega)
    have a6 := h0.2.2.2.2.2.1
    have hle := tgt_le g2.2.1 (mean := S 1) (S := x.2.2 0 0) (P := x.2.2 0 7 - x.2.2 0 8) (Q := x.2.2 1 7) g2.2.2.2.1.2.2.2.1 hp b9 (by omega)
    have et : ∀ u : Int32, p_X5_tells (6 * ((v_X5_theTarget (s_X5_goesOn (sg_up σ 35 0 0))) - ((s_X5_goesOn (sg_up σ 35 0 0)) 41 1))) (v_X5_left (s_X5_goesOn (sg_up σ 35 0 0)) 1) u := by
      intro u
      rw [theTarget_eq g2 (by omega) h0 h1 hp, (g2.pic (i := 1) (by decide)).1, N_sub (by omega), show (6 : Int32) = N 6 from rfl, N_mul, show v_X5_left (s_X5_goesOn (sg_up σ 35 0 0)) 1 = _ from left_eq (i := 1) (by decide) (g2.pic (i := 1) (by decide)) b3]
      exact rtells (by omega) (by have := hL.1; omega) (by omega)
    exact ⟨rptarget g2 h0 hp, fun _ => ⟨l2, fun _ => et 0, fun _ => et 1⟩, fun _ _ => l2⟩
  · unfold r_X5_needs
    repeat' split
    all_goals exact hQ
theorem R_broken {x0 : Int32} (h : RInv σ T S k t) : p_X5_broken σ x0 ∧ QSame σ (r_X5_broken σ x0).2 := by
  obtain ⟨x, hx, g1, g2, g3, hQ⟩ := RQ0 0 h
  have h0 := g3.2.2.2.1 0 (by decide)
  have h1 := g3.2.2.2.1 1 (by decide)
  obtain ⟨o1, o2⟩ := ofBlock_ok (i := 0) (kk := 0) (x2 := 0) g2 (by decide) h0 (by decide)
  have g2' : RefAt (t_X5_broken_0 σ x0) T S x.1 x.2.1 x.2.2 := RefAt_fr g2 (fun q j hq => o2 q j (by omega))
  obtain ⟨u1, u2⟩ := ofBlock_ok (i := 1) (kk := 0) (x2 := 0) g2' (by decide) h1 (by decide)
  obtain ⟨v1, b0, v2, v3⟩ := over_ok (σ := s_X5_goesOn (sg_up σ 35 0 0)) (i := 0) (by decide)
  obtain ⟨w1, b1, w2, w3⟩ := over_ok (σ := s_X5_goesOn (sg_up σ 35 0 0)) (i := 1) (by decide)
  refine ⟨⟨g1, fun _ => ⟨rpresult g2 h0 h1, fun _ _ _ => ⟨fun _ => ⟨o1, u1⟩, fun _ _ => ⟨v1, ?_, w1, ?_⟩⟩⟩⟩, ?_⟩
  · rw [show v_X5_bestOverOf (s_X5_goesOn (sg_up σ 35 0 0)) 0 = _ from v3]; exact ix_N (by omega) (by decide)
  · rw [show v_X5_bestOverOf (s_X5_goesOn (sg_up σ 35 0 0)) 1 = _ from w3, show (20 : Int32) = N 20 from rfl, N_add]; exact ix_N (by omega) (by decide)
  · have q2 : QSame σ (t_X5_broken_1 σ x0) := hQ.tr (o2.tr u2).q
    unfold r_X5_broken
    split
    · exact hQ
    split
    · exact hQ
    split
    · split
      · exact hQ
      split
      · dsimp only
        exact q2
      split
      · exact hQ
      · exact hQ
    · exact hQ
theorem R_ifCut {x0 : Int32} (h : RInv σ T S k t) : p_X5_ifCut σ x0 ∧ QSame σ (r_X5_ifCut σ x0).2 := by
  obtain ⟨x, hx, g1, g2, g3, hQ⟩ := RQ0 0 h
  have h0 := g3.2.2.2.1 0 (by decide)
  have h1 := g3.2.2.2.1 1 (by decide)
  refine ⟨⟨g1, fun hn hh => ?_⟩, ?_⟩
  · have hn := Decidable.not_not.mp hn
    rw [g2.2.2.2.2.1] at hn
    have e1 : x.1 = 1 := (N_eq (b := 1) (by have := g3.1; omega) (by decide)).mp hn
    have hp := (rhas_p g2 g3.1 h0 hh).2
    obtain ⟨m1, m2⟩ := mayCut_iff (n := x0) g2 (by omega) (g3.2.2.2.1 x.1 (by omega))
    refine ⟨m1, fun hm => ⟨?_, rptarget g2 h0 hp⟩⟩
    obtain ⟨c1, c2, c3⟩ := m2.mp hm
    rw [e1] at c2 c3
    obtain ⟨b1, b2, b3, b4, -⟩ := id h1
    have := ptakes_eq (σ := s_X5_goesOn (sg_up σ 35 0 0)) (i := 1) (n := ni x0) (by decide) (g2.pic (i := 1) (by decide)) c3 (by omega) b2 b4
    rw [ni_pos c1] at this
    exact this
  · unfold r_X5_ifCut
    repeat' split
    all_goals exact hQ
theorem R_ifClosed (h : RInv σ T S k t) : p_X5_ifClosed σ ∧ QSame σ (r_X5_ifClosed σ).2 := by
  obtain ⟨x, hx, g1, g2, g3, hQ⟩ := RQ0 0 h
  have key : (s_X5_goesOn (sg_up σ 35 0 0)) 35 23 = 1 → p_X5_goes (s_X5_goesOn (sg_up σ 35 0 0)) 47 0 ∧ p_X5_resultNow (t_X5_ifClosed_0 σ) ∧ QSame σ (t_X5_ifClosed_0 σ) := by
    intro hn
    rw [g2.2.2.2.2.1] at hn
    have e1 : x.1 = 1 := (N_eq (b := 1) (by have := g3.1; omega) (by decide)).mp hn
    obtain ⟨y, hy⟩ := stp_some (T := T) (mean := S 1) (i := x.1) (t := x.2.1) (D := x.2.2) (e := 47) (n := 0) ⟨Or.inr (Or.inr (Or.inr (Or.inr (Or.inr (Or.inr rfl))))), fun z => absurd z (by decide), fun _ => by omega, fun z => absurd z (by decide)⟩
    obtain ⟨q1, q2, q3, q4⟩ := goes_ok g2 g3 h.2.2.2.2.2.1 hy
    exact ⟨q3, rpresult q1 (q2.2.2.2.1 0 (by decide)) (q2.2.2.2.1 1 (by decide)), hQ.tr q4.q⟩
  refine ⟨⟨g1, fun z => ⟨(key z).1, (key z).2.1⟩⟩, ?_⟩
  unfold r_X5_ifClosed
  by_cases hn : (s_X5_goesOn (sg_up σ 35 0 0)) 35 23 = 1
  · rw [if_pos hn]; exact (key hn).2.2
  · rw [if_neg hn]; exact hQ
theorem R_ifRuns {x0 : Int32} (h : RInv σ T S k t) : p_X5_ifRuns σ x0 ∧ QSame σ (r_X5_ifRuns σ x0).2 := by
  obtain ⟨x, hx, g1, g2, g3, hQ⟩ := RQ0 0 h
  have h0 := g3.2.2.2.1 0 (by decide)
  refine ⟨⟨g1, fun hh _ => rptarget g2 h0 (rhas_p g2 g3.1 h0 hh).2⟩, ?_⟩
  unfold r_X5_ifRuns
  repeat' split
  all_goals exact hQ
theorem least28 {x : mS} {τ : sg_S} {x1 : Int32} (g2 : RefAt τ T S x.1 x.2.1 x.2.2) (g3 : OK T (S 1) k x.1 x.2.1 x.2.2) (e1 : x.1 = 1) (hp : 0 < x.2.2 0 7 - x.2.2 0 8) : ∀ (n m : Nat), 1 ≤ m → m ≤ x.2.2 1 3 → x.2.2 1 3 - m < n → p_X5_leastCut_l28 n τ x1 (N m) ∧ (r_X5_leastCut_l28 n τ x1 (N m)).2 = τ := by
  have h0 := g3.2.2.2.1 0 (by decide)
  have h1 := g3.2.2.2.1 1 (by decide)
  obtain ⟨b1, b2, b3, b4, -⟩ := id h1
  intro n
  induction n with
  | zero => intro m _ _ hn; omega
  | succ n ih =>
    intro m hm1 hm hn
    show p_X5_leastCut_b28 (p_X5_leastCut_l28 n) τ x1 (N m) ∧ (r_X5_leastCut_b28 (r_X5_leastCut_l28 n) τ x1 (N m)).2 = τ
    unfold p_X5_leastCut_b28 r_X5_leastCut_b28
    have e44 : τ 44 1 = N (x.2.2 1 3) := (g2.pic (i := 1) (by decide)).2.2.2.1
    rw [e44]
    by_cases e : x.2.2 1 3 ≤ m
    · have hc : N (x.2.2 1 3) ≤ N m := g_le e (by omega)
      rw [if_pos hc]
      exact ⟨fun z => absurd hc z, rfl⟩
    · have hc : ¬ N (x.2.2 1 3) ≤ N m := g_nle (by omega) (by omega)
      obtain ⟨m1, m2⟩ := mayCut_iff (n := N m) g2 (by omega) (g3.2.2.2.1 x.1 (by omega))
      obtain ⟨i1, i2⟩ := ih (m + 1) (by omega) (by omega) (by omega)
      rw [if_neg hc, N_inc]
      refine ⟨fun _ => ⟨m1, fun _ => i1, fun hz => ⟨?_, rptarget g2 h0 hp, fun _ => i1⟩⟩, ?_⟩
      · obtain ⟨c1, c2, c3⟩ := m2.mp hz
        rw [e1, ni_N (by omega)] at c3
        exact ptakes_eq (i := 1) (by decide) (g2.pic (i := 1) (by decide)) c3 (by omega) b2 b4
      · repeat' split
        all_goals first | exact i2 | rfl
theorem R_leastCut {x0 : Int32} (h : RInv σ T S k t) : p_X5_leastCut σ x0 ∧ QSame σ (r_X5_leastCut σ x0).2 := by
  obtain ⟨x, hx, g1, g2, g3, hQ⟩ := RQ0 0 h
  have h0 := g3.2.2.2.1 0 (by decide)
  have h1 := g3.2.2.2.1 1 (by decide)
  have key : ¬ ¬ (s_X5_goesOn (sg_up σ 35 0 0)) 35 23 = 1 → ¬ v_X5_hasTarget (s_X5_goesOn (sg_up σ 35 0 0)) = 0 → p_X5_leastCut_l28 600 (s_X5_goesOn (sg_up σ 35 0 0)) x0 1 ∧ (r_X5_leastCut_l28 600 (s_X5_goesOn (sg_up σ 35 0 0)) x0 1).2 = s_X5_goesOn (sg_up σ 35 0 0) := by
    intro hn hh
    have hn := Decidable.not_not.mp hn
    rw [g2.2.2.2.2.1] at hn
    have e1 : x.1 = 1 := (N_eq (b := 1) (by have := g3.1; omega) (by decide)).mp hn
    have b1 := h1.1
    have b2 := h1.2.1
    exact least28 g2 g3 e1 (rhas_p g2 g3.1 h0 hh).2 600 1 (by decide) b1 (by omega)
  refine ⟨⟨g1, fun hn hh => (key hn hh).1⟩, ?_⟩
  unfold r_X5_leastCut
  by_cases hn : ¬ (s_X5_goesOn (sg_up σ 35 0 0)) 35 23 = 1
  · rw [if_pos hn]; exact hQ
  rw [if_neg hn]
  by_cases hh : ¬ v_X5_hasTarget (s_X5_goesOn (sg_up σ 35 0 0)) = 0
  · rw [if_pos hh, (key hn hh).2]; exact hQ
  · rw [if_neg hh]; exact hQ
theorem R_after {x0 x1 : Int32} (h : RInv σ T S k t) : p_X5_after σ x0 x1 ∧ QSame σ (r_X5_after σ x0 x1).2 := by
  have h0 := RInv_0 (v := 0) h
  obtain ⟨a1, a2, a3, a4, a5, a6, ⟨x, a7⟩, a8, a9⟩ := id h0
  have key : ¬ v_X5_in x0 0 ((sg_up σ 35 0 0) 35 6) = 0 → ∃ y : mS, p_X5_goesTo (sg_up σ 35 0 0) x0 ∧ RefAt (s_X5_goesTo (sg_up σ 35 0 0) x0) T S y.1 y.2.1 y.2.2 ∧ (∃ j, OK T (S 1) j y.1 y.2.1 y.2.2) ∧ QSame σ (s_X5_goesTo (sg_up σ 35 0 0) x0) := by
    intro hi
    rw [a5] at hi
    obtain ⟨j, rfl, -, hj⟩ := in_ex (lo := 0) (hi := k) (by decide) (by omega) hi
    obtain ⟨y, hy⟩ := mrun_le' a7 hj
    obtain ⟨g1, g2, g3, g4⟩ := goesTo_ok a1 a2 a3 a4 (by omega) hy
    exact ⟨y, g1, g2, ⟨j, g3⟩, QSame_0.tr g4.q⟩
  refine ⟨fun hi _ => ?_, ?_⟩
  · obtain ⟨y, g1, g2, ⟨j, g3⟩, hQ⟩ := key hi
    have h0 := g3.2.2.2.1 0 (by decide)
    have h1 := g3.2.2.2.1 1 (by decide)
    have pa : ∀ i, i < 2 → p_X5_after_a46 (s_X5_goesTo (sg_up σ 35 0 0) x0) x1 (N i) := fun i hi =>
      fun _ => ⟨fun _ => ix2 hi, fun _ => ⟨fun _ => ix2 hi, fun _ => ⟨fun _ => ix2 hi, fun _ => ⟨fun _ hh => rptarget g2 h0 (rhas_p g2 g3.1 h0 hh).2, fun _ => rpparNow g2 g3.1 h0 h1⟩⟩⟩⟩
    exact ⟨g1, fun _ => pa 1 (by decide), fun _ => pa 0 (by decide)⟩
  · unfold r_X5_after
    by_cases hi : v_X5_in x0 0 ((sg_up σ 35 0 0) 35 6) = 0
    · rw [if_pos hi]; exact QSame_0
    rw [if_neg hi]
    obtain ⟨y, g1, g2, g3, hQ⟩ := key hi
    have q : ∀ u : Int32, QSame σ (r_X5_after_a46 (s_X5_goesTo (sg_up σ 35 0 0) x0) x1 u).2 := fun u => by
      unfold r_X5_after_a46
      repeat' split
      all_goals exact hQ
    repeat' split
    all_goals first | exact q _ | exact QSame_0
theorem ahead11 (hK : TabOK T) (hSK : SetOK S) (hk : k ≤ 400) {y : mS} : ∀ (n j : Nat) (τ : sg_S), j ≤ k + 1 → k + 1 - j < n → τ 35 6 = N k → mrun T S (τ 39) (τ 40) k = some y → (j ≤ k → ∃ x : mS, mrun T S (τ 39) (τ 40) j = some x ∧ RefAt τ T S x.1 x.2.1 x.2.2) → p_X5_firstAhead_l11 n τ (N j) ∧ RSame τ (r_X5_firstAhead_l11 n τ (N j)).2 := by
  intro n
  induction n with
  | zero => intro j τ _ hn; omega
  | succ n ih =>
    intro j τ hj hn h6 hy hx
    show p_X5_firstAhead_b11 (p_X5_firstAhead_l11 n) τ (N j) ∧ RSame τ (r_X5_firstAhead_b11 (r_X5_firstAhead_l11 n) τ (N j)).2
    unfold p_X5_firstAhead_b11 r_X5_firstAhead_b11
    rw [h6]
    by_cases e : k < j
    · have hc : N k < N j := g_lt e (by omega)
      rw [if_pos hc]
      exact ⟨fun z => absurd hc z, RSame.rf⟩
    have hc : ¬ N k < N j := g_nlt (by omega) (by omega)
    rw [if_neg hc]
    obtain ⟨x, hx1, hR⟩ := hx (by omega)
    have hO := mrun_OK hK hSK j x hx1
    have h0 := hO.2.2.2.1 0 (by decide)
    have h1 := hO.2.2.2.1 1 (by decide)
    have hA : p_X5_firstAhead_a55 (p_X5_firstAhead_l11 n) τ (N j) ∧ RSame τ (r_X5_firstAhead_a55 (r_X5_firstAhead_l11 n) τ (N j)).2 := by
      unfold p_X5_firstAhead_a55 r_X5_firstAhead_a55
      rw [h6, N_inc]
      by_cases e2 : k ≤ j
      · have hc2 : N k ≤ N j := g_le e2 (by omega)
        rw [if_pos hc2]
        obtain ⟨i1, i2⟩ := ih (j + 1) τ (by omega) (by omega) h6 hy (fun z => by omega)
        exact ⟨⟨fun _ => i1, fun z => absurd hc2 z⟩, i2⟩
      · have hc2 : ¬ N k ≤ N j := g_nle (by omega) (by omega)
        rw [if_neg hc2, ni_N (by omega)]
        obtain ⟨z, hz⟩ := mrun_le' hy (j := j + 1) (by omega)
        have hst := hz
        rw [mrun_some hx1] at hst
        obtain ⟨q1, q2, q3, q4⟩ := goes_ok (y := z) hR hO (by omega) (show stp T (S 1) (x.1, x.2.1, x.2.2) (τ 39 j) (τ 40 j) = some z from hst)
        have r39 := q4.row (q := 39) (by decide) (by decide)
        have r40 := q4.row (q := 40) (by decide) (by decide)
        obtain ⟨i1, i2⟩ := ih (j + 1) (s_X5_goes τ (τ 39 j) (τ 40 j)) (by omega) (by omega) (by rw [q4 35 6 (by decide) (by decide)]; exact h6) (by rw [r39, r40]; exact hy) (fun _ => ⟨z, by rw [r39, r40]; exact hz, q1⟩)
        have xj : ix (N j) 400 := ix_N (by omega) (by decide)
        exact ⟨⟨fun w => absurd w hc2, fun _ => ⟨xj, xj, q3, i1⟩⟩, q4.tr i2⟩
    refine ⟨fun _ => ⟨fun _ => hA.1, fun hh => ⟨fun _ => hA.1, fun _ => ⟨rppar hR h0 h1 (rhas_p hR hO.1 h0 hh).2, fun _ => hA.1⟩⟩⟩, ?_⟩
    repeat' split
    all_goals first | exact hA.2 | exact RSame.rf
theorem R_firstAhead (h : RInv σ T S k t) : p_X5_firstAhead σ ∧ QSame σ (r_X5_firstAhead σ).2 := by
  have h0 := RInv_0 (v := 0) h
  obtain ⟨a1, a2, a3, a4, a5, a6, ⟨x, a7⟩, a8, a9⟩ := id h0
  obtain ⟨b1, b2, b3, b4⟩ := begins_ok a1 a2 a3 a4
  have r39 := b4.row (q := 39) (by decide) (by decide)
  have r40 := b4.row (q := 40) (by decide) (by decide)
  obtain ⟨i1, i2⟩ := ahead11 a2 a4 a6 (y := x) 600 0 (s_X5_begins (sg_up σ 35 0 0)) (by omega) (by omega) (by rw [b4 35 6 (by decide) (by decide)]; exact a5) (by rw [r39, r40]; exact a7) (fun _ => ⟨begn T S, rfl, b2⟩)
  exact ⟨⟨b1, i1⟩, QSame_0.tr (b4.tr i2).q⟩
end RAsk
