/-! BOTH IN STEP -/
def Lg (σ : sg_S) (k : Nat) : Prop := ∀ j, j < k → σ 39 j = σ 33 j ∧ σ 40 j = σ 34 j
def Cpl (σ : sg_S) (T S : Nat → Nat) (k t : Nat) : Prop := CInv σ T S k t ∧ RInv σ T S k t ∧ Tape σ t ∧ Lg σ k ∧ σ 35 27 = σ 0 7
def Inv2 (σ : sg_S) : Prop := ∃ T S k t, Cpl σ T S k t
theorem RInv_hi {σ σ' : sg_S} {T S : Nat → Nat} {k t : Nat} (hr : RInv σ T S k t) (hs : HiS σ σ') : RInv σ' T S k t :=
  RInv_of hr (fun j _ => hs 37 j (by decide)) (fun j _ => hs 36 j (by decide)) (hs 35 6 (by decide)) (fun j _ => ⟨hs 39 j (by decide), hs 40 j (by decide)⟩) (by rw [hs 35 26 (by decide)]; exact hr.2.2.2.2.2.2.2.1) hr.2.2.2.2.2.2.2.2
theorem CInv_lo {σ σ' : sg_S} {T S : Nat → Nat} {k t : Nat} (hc : CInv σ T S k t) (hs : LoS σ σ') : CInv σ' T S k t :=
  ⟨CSt_fr hc.1 (hs 0 6 (by decide)) (fun j _ => ⟨hs 33 j (by decide), hs 34 j (by decide)⟩) (fun q j hq => hs q j (by omega)), by rw [hs 5 1 (by decide)]; exact hc.2.1, hc.2.2⟩
theorem Lg_fr {σ σ' : sg_S} {k : Nat} (h : Lg σ k) (h1 : ∀ j, σ' 39 j = σ 39 j) (h2 : ∀ j, σ' 40 j = σ 40 j) (h3 : ∀ j, σ' 33 j = σ 33 j) (h4 : ∀ j, σ' 34 j = σ 34 j) : Lg σ' k := fun j hj => by
  rw [h1, h2, h3, h4]; exact h j hj
theorem Lg_0 {σ : sg_S} : Lg σ 0 := fun j hj => by omega
theorem Lg_tab {σ : sg_S} {T S : Nat → Nat} {k t : Nat} (hc : CInv σ T S k t) (hr : RInv (r_X4_table σ).2 T S k t) (c4 : HiS σ (r_X4_table σ).2) (b6 : LoS (r_X4_table σ).2 (r_X5_table (r_X4_table σ).2).2) (hL : Lg σ k) : Lg (r_X5_table (r_X4_table σ).2).2 k := by
  obtain ⟨⟨a1, a2, x, a3, a4⟩, ht, h5⟩ := id hc
  obtain ⟨r1, V0, r2, r3⟩ := ctab_ok h5 ht a4.1 a4.2.1
  have hS1 : ∀ q j, ¬ q = 3 → ¬ (q = 5 ∧ 1 ≤ j ∧ j ≤ 4) → ¬ (q = 0 ∧ (j = 7 ∨ j = 8)) → (sg_up (t_X4_table_0 σ) 5 1 0) q j = σ q j := fun q j h1 h2 h3 => by
    unfold t_X4_table_0
    rw [up_ne (by omega), up_ne (by omega), r1 q j h1 (by omega) h3]
  have h3 : ∀ q j, (q = 33 ∨ q = 34) → (r_X4_table σ).2 q j = σ q j := fun q j hq => by
    have hE := hS1 q j (by omega) (by omega) (by omega)
    have h07 : (sg_up (t_X4_table_0 σ) 5 1 0) 0 7 = (r_X4_readTable σ).1 := by
      unfold t_X4_table_0
      rw [up_c (by decide), up_eq]
    unfold r_X4_table
    by_cases g : (sg_up (t_X4_table_0 σ) 5 1 0) 0 7 = 0
    · rw [if_pos g]
      rw [h07] at g
      have hV : TabAt (sg_up (t_X4_table_0 σ) 5 1 0) 3 V0 := by
        unfold t_X4_table_0
        exact TabAt_up (TabAt_up r2 (by decide)) (by decide)
      obtain ⟨c1, c2⟩ := adopt2 600 0 (sg_up (t_X4_table_0 σ) 5 1 0) (by decide) (by decide) hV (fun i hi => by omega)
      have c1 : TabAt (t_X4_table_1 σ) 2 V0 := c1
      have c2 : ∀ q j, ¬ q = 2 → t_X4_table_1 σ q j = (sg_up (t_X4_table_0 σ) 5 1 0) q j := c2
      have hS4 : SetAt (t_X4_table_1 σ) 4 S := fun j hj => by
        rw [c2 4 j (by decide), hS1 4 j (by decide) (by omega) (by omega)]; exact a4.2.2.1 j hj
      obtain ⟨f1, f2⟩ := cempty_ok c1 (r3 g) hS4 a4.2.2.2.1
      dsimp only
      rw [f2 q j (by omega) (by omega), c2 q j (by omega)]
      exact hE
    · rw [if_neg g]; exact hE
  obtain ⟨d1, d2, d3, d4, d5, d6, d7, d8, d9⟩ := id hr
  have h4 : ∀ q j, (q = 39 ∨ q = 40) → (r_X5_table (r_X4_table σ).2).2 q j = (r_X4_table σ).2 q j := fun q j hq => by
    generalize (r_X4_table σ).2 = G at *
    have hb : ∀ q j, ¬ (q = 35 ∧ (j = 0 ∨ j = 28 ∨ j = 29 ∨ j = 31)) → s_X5_beginsText G q j = G q j := fun q j hq => by
      rw [beginsText_eq, up_ne (by omega), up_ne (by omega), up_ne (by omega), up_ne (by omega)]
    have b28 : (s_X5_beginsText G) 35 28 = N 0 := by rw [beginsText_eq, up_k (by decide), up_k (by decide), up_eq]; rfl
    obtain ⟨-, q2, V1, q3, q4⟩ := rtab_ok (σ := s_X5_beginsText G) (a := 0) d9 (by omega) b28 (by rw [hb 35 26 (by decide)]; exact d8) (fun j hj => by rw [hb 37 j (by omega)]; exact d1 j hj) d2
    have hS : (t_X5_table_1 G) q j = G q j := by
      unfold t_X5_table_1 t_X5_table_0
      rw [up_ne (by omega), up_ne (by omega), q2 q j (by omega) (by omega), hb q j (by omega)]
    unfold r_X5_table
    by_cases g : ¬ (r_X5_readTable (s_X5_beginsText G)).1 = 0
    · rw [if_pos g]
      have hV1 : TabAt (t_X5_table_1 G) 38 V1 := by
        unfold t_X5_table_1 t_X5_table_0
        exact TabAt_up (TabAt_up q3 (by decide)) (by decide)
      obtain ⟨-, k2, k3, k4, k5⟩ := tab30 600 0 (t_X5_table_1 G) (by decide) (by decide) hV1 (fun i hi => by omega)
      rw [show (r_X5_table_l30 600 (t_X5_table_1 G) 0).2 q j = _ from k5 q j (by omega) (by omega)]
      exact hS
    · rw [if_neg g]; exact hS
  intro j hj
  rw [h4 39 j (Or.inl rfl), h4 40 j (Or.inr rfl), c4 39 j (by decide), c4 40 j (by decide), b6 33 j (by decide), b6 34 j (by decide), h3 33 j (Or.inl rfl), h3 34 j (Or.inr rfl)]
  exact hL j hj
section Step
variable {σ : sg_S} {T S : Nat → Nat} {k t : Nat}
theorem Cpl_q {σ' : sg_S} (h : Cpl σ T S k t) (hq : QSame σ σ') : Cpl σ' T S k t := by
  obtain ⟨hc, hr, hT, hL, hF⟩ := h
  refine ⟨CInv_lo hc hq.lo, hq.inv hr, Tape_fr hT (Nat.le_refl _) (fun j => hq 57 j (by decide) (by decide) (by omega)) (fun j => hq.lo 6 j (by decide)), Lg_fr hL (fun j => hq 39 j (by decide) (by decide) (by omega)) (fun j => hq 40 j (by decide) (by decide) (by omega)) (fun j => hq.lo 33 j (by decide)) (fun j => hq.lo 34 j (by decide)), ?_⟩
  rw [hq 35 27 (by decide) (by decide) (by decide), hq.lo 0 7 (by decide)]; exact hF
theorem Cpl_20 {σ' : sg_S} (h : Cpl σ T S k t) (hs : CSame 20 σ σ') : Cpl σ' T S k t := by
  obtain ⟨hc, hr, hT, hL, hF⟩ := h
  obtain ⟨c1, c2⟩ := CInv_20 hc hs
  refine ⟨c1, RInv_hi hr c2, Tape_fr hT (Nat.le_refl _) (fun j => hs 57 j (by decide)) (fun j => hs 6 j (by decide)), Lg_fr hL (fun j => hs 39 j (by decide)) (fun j => hs 40 j (by decide)) (fun j => hs 33 j (by decide)) (fun j => hs 34 j (by decide)), ?_⟩
  rw [hs 35 27 (by decide), hs 0 7 (by decide)]; exact hF
theorem Cpl_o {v : Int32} (h : Cpl σ T S k t) : Cpl (sg_up σ 60 0 v) T S k t := by
  obtain ⟨hc, hr, hT, hL, hF⟩ := h
  exact ⟨CInv_lo hc (fun q k h => up_c (by omega)), RInv_of hr (fun j _ => up_c (by decide)) (fun j _ => up_c (by decide)) (up_c (by decide)) (fun j _ => ⟨up_c (by decide), up_c (by decide)⟩) (by rw [up_c (by decide)]; exact hr.2.2.2.2.2.2.2.1) hr.2.2.2.2.2.2.2.2, Tape_fr hT (Nat.le_refl _) (fun j => up_c (by decide)) (fun j => up_c (by decide)), Lg_fr hL (fun j => up_c (by decide)) (fun j => up_c (by decide)) (fun j => up_c (by decide)) (fun j => up_c (by decide)), by rw [up_c (by decide), up_c (by decide)]; exact hF⟩
theorem cpl_feed {x0 x1 x2 x3 x4 : Int32} (h : Cpl σ T S k t) : (r_X4_feed σ x0 x1 x2 x3 x4).1 = (r_X5_feed (r_X4_feed σ x0 x1 x2 x3 x4).2 x0 x1 x2 x3 x4).1 ∧ p_X5_feed (r_X4_feed σ x0 x1 x2 x3 x4).2 x0 x1 x2 x3 x4 ∧ Inv2 (r_X5_feed (r_X4_feed σ x0 x1 x2 x3 x4).2 x0 x1 x2 x3 x4).2 := by
  obtain ⟨hc, hr, hT, hL, hF⟩ := h
  have hA := (C_feed (x0 := x0) (x1 := x1) (x2 := x2) (x3 := x3) (x4 := x4) hc).2.2
  have hr2 := RInv_hi hr hA.hi
  obtain ⟨b0, -, -, hB⟩ := R_feed (x0 := x0) (x1 := x1) (x2 := x2) (x3 := x3) (x4 := x4) hr2
  obtain ⟨e, t', c1, r1, t1⟩ := both_feed (x0 := x0) (x1 := x1) (x2 := x2) (x3 := x3) (x4 := x4) hc hr2 hA.hi rfl hT
  refine ⟨e, b0, T, S, k, t', CInv_lo c1 hB.lo, r1, t1, Lg_fr hL (fun j => (hB 39 j (by decide) (by omega)).trans (hA 39 j (by decide) (by omega))) (fun j => (hB 40 j (by decide) (by omega)).trans (hA 40 j (by decide) (by omega))) (fun j => (hB 33 j (by decide) (by omega)).trans (hA 33 j (by decide) (by omega))) (fun j => (hB 34 j (by decide) (by omega)).trans (hA 34 j (by decide) (by omega))), ?_⟩
  rw [hB 35 27 (by decide) (by decide), hA 35 27 (by decide) (by decide), hB 0 7 (by decide) (by decide), hA 0 7 (by decide) (by decide)]; exact hF
theorem cpl_end {n : Int32} (h : Cpl σ T S k t) : (r_X4_end σ n).1 = (r_X5_end (r_X4_end σ n).2 n).1 ∧ Inv2 (r_X5_end (r_X4_end σ n).2 n).2 := by
  obtain ⟨hc, hr, hT, hL, hF⟩ := h
  have hA := (C_end (n := n) hc).2.2.1
  have hr2 := RInv_hi hr hA.hi
  have hB := (R_end (n := n) hr2).2.2.1
  obtain ⟨e, t', c1, r1, t1⟩ := both_end (n := n) hc hr2 hA.hi rfl hT
  refine ⟨e, T, S, k, t', CInv_lo c1 hB.lo, r1, t1, Lg_fr hL (fun j => (hB 39 j (by decide) (by omega)).trans (hA 39 j (by decide) (by omega))) (fun j => (hB 40 j (by decide) (by omega)).trans (hA 40 j (by decide) (by omega))) (fun j => (hB 33 j (by decide) (by omega)).trans (hA 33 j (by decide) (by omega))) (fun j => (hB 34 j (by decide) (by omega)).trans (hA 34 j (by decide) (by omega))), ?_⟩
  rw [hB 35 27 (by decide) (by decide), hA 35 27 (by decide) (by decide), hB 0 7 (by decide) (by decide), hA 0 7 (by decide) (by decide)]; exact hF
theorem cpl_table (h : Cpl σ T S k t) : (r_X4_table σ).1 = (r_X5_table (r_X4_table σ).2).1 ∧ p_X5_table (r_X4_table σ).2 ∧ Inv2 (r_X5_table (r_X4_table σ).2).2 := by
  obtain ⟨hc, hr, hT, hL, hF⟩ := h
  have c4 := (C_table hc).2
  have hr2 := RInv_hi hr c4
  obtain ⟨b0, -, b6⟩ := R_table hr2
  rcases both_table hc hr2 c4 hT with ⟨V, r, u1, u2, u3, u4, u5, u6⟩ | ⟨f, u1, u2, u3, u4, u5, u6⟩
  · exact ⟨u1.trans u2.symm, b0, V, S, 0, 0, CInv_lo u3 b6, u4, Tape_0, Lg_0, u6.trans (by rw [b6 0 7 (by decide)]; exact u5.symm)⟩
  · refine ⟨u1.trans u2.symm, b0, T, S, k, 0, CInv_lo u3 b6, u4, Tape_0, ?_, u6.trans (by rw [b6 0 7 (by decide)]; exact u5.symm)⟩
    exact Lg_tab hc hr2 c4 b6 hL
theorem cpl_events (h : Cpl σ T S k t) : (r_X4_events σ).1 = (r_X5_events (r_X4_events σ).2).1 ∧ p_X5_events (r_X4_events σ).2 ∧ Inv2 (r_X5_events (r_X4_events σ).2).2 := by
  obtain ⟨hc, hr, hT, hL, hF⟩ := h
  have c4 := (C_events hc).2
  have hr2 := RInv_hi hr c4
  obtain ⟨b0, -, b6⟩ := R_events hr2
  have hl : ∀ m, (∀ j, j < m → (r_X5_events (r_X4_events σ).2).2 39 j = (r_X4_events σ).2 33 j ∧ (r_X5_events (r_X4_events σ).2).2 40 j = (r_X4_events σ).2 34 j) → Lg (r_X5_events (r_X4_events σ).2).2 m := fun m hm j hj => by
    rw [b6 33 j (by decide), b6 34 j (by decide)]; exact hm j hj
  rcases both_events hc hr2 c4 hT hL with ⟨c, u1, u2, u3, u4, u5, u6, u7⟩ | ⟨f, u1, u2, u3, u4, u5, u6, u7⟩
  · exact ⟨u1.trans u2.symm, b0, T, S, k + c, 0, CInv_lo u3 b6, u4, Tape_0, hl _ u7, u6.trans (by rw [b6 0 7 (by decide)]; exact u5.symm)⟩
  · exact ⟨u1.trans u2.symm, b0, T, S, k, 0, CInv_lo u3 b6, u4, Tape_0, hl _ u7, u6.trans (by rw [b6 0 7 (by decide)]; exact u5.symm)⟩
theorem cpl_set {x0 x1 : Int32} (h : Cpl σ T S k t) : (r_X4_set σ x0 x1).1 = (r_X5_set (r_X4_set σ x0 x1).2 x0 x1).1 ∧ p_X5_set (r_X4_set σ x0 x1).2 x0 x1 ∧ Inv2 (r_X5_set (r_X4_set σ x0 x1).2 x0 x1).2 := by
  obtain ⟨hc, hr, hT, hL, hF⟩ := id h
  by_cases g : ∃ s v, x0 = N s ∧ x1 = N v ∧ setC S s v
  · obtain ⟨s, v, rfl, rfl, hs⟩ := g
    obtain ⟨c1, c2, c3, -, c5⟩ := C_setY hc hs
    have hr2 := RInv_hi hr c3
    have b0 := (R_set (x0 := N s) (x1 := N v) hr2).1
    obtain ⟨r1, r2, r3⟩ := R_setY hr2 hs
    refine ⟨c1.trans r1.symm, b0, T, du S s v, 0, t, CInv_lo c2 (fun q j hq => r3 q j (by omega) (by omega)), r2, Tape_fr hT (Nat.le_refl _) (fun j => (r3 57 j (by omega) (by decide)).trans (c3 57 j (by decide))) (fun j => (r3 6 j (by omega) (by decide)).trans (c5 6 j (by decide) (by omega) (by decide))), Lg_0, ?_⟩
    rw [r3 35 27 (by decide) (by decide), c3 35 27 (by decide), r3 0 7 (by decide) (by decide), c5 0 7 (by decide) (by decide) (by decide)]; exact hF
  · have c := C_setN hc g
    rw [c]
    dsimp only
    have r := R_setN hr g
    have b0 := (R_set (x0 := x0) (x1 := x1) hr).1
    refine ⟨by rw [r], b0, T, S, k, t, ?_⟩
    rw [r]
    dsimp only
    exact Cpl_q h QSame_0
theorem cpl_clear (h : Cpl σ T S k t) : (r_X4_clear σ).1 = (r_X5_clear (r_X4_clear σ).2).1 ∧ Inv2 (r_X5_clear (r_X4_clear σ).2).2 := by
  obtain ⟨hc, hr, hT, hL, hF⟩ := id h
  obtain ⟨c1, c2⟩ := C_clear hc
  have hr2 := RInv_hi hr c2
  obtain ⟨r1, r2⟩ := R_clear hr2
  have hR : ∀ q j, ¬ (q = 35 ∧ (j = 0 ∨ j = 6)) → (r_X5_clear (r_X4_clear σ).2).2 q j = (r_X4_clear σ).2 q j := fun q j hq => by
    generalize (r_X4_clear σ).2 = G
    unfold r_X5_clear t_X5_clear_0
    dsimp only
    rw [up_ne (by omega), up_ne (by omega)]
  refine ⟨?_, T, S, 0, t, CInv_lo c1 r2, r1, Tape_fr hT (Nat.le_refl _) (fun j => (hR 57 j (by omega)).trans (c2 57 j (by decide))) (fun j => (hR 6 j (by omega)).trans (Cf_clear hc (by decide) (by omega))), Lg_0, ?_⟩
  · have e4 : (r_X4_clear σ).1 = σ 0 6 := rfl
    have e5 : (r_X5_clear (r_X4_clear σ).2).1 = (r_X4_clear σ).2 35 6 := by
      generalize (r_X4_clear σ).2 = G
      unfold r_X5_clear
      dsimp only
      rw [up_k (by decide)]
    rw [e4, e5, hr2.2.2.2.2.1]
    exact hc.1.1
  · rw [hR 35 27 (by decide), c2 35 27 (by decide), hR 0 7 (by decide), Cf_clear hc (by decide) (by decide)]; exact hF
theorem cpl_back (h : Cpl σ T S k t) : (r_X4_back σ).1 = (r_X5_back (r_X4_back σ).2).1 ∧ Inv2 (r_X5_back (r_X4_back σ).2).2 := by
  obtain ⟨hc, hr, hT, hL, hF⟩ := id h
  cases k with
  | zero =>
    rw [C_backN hc]
    dsimp only
    rw [R_backN hr]
    dsimp only
    exact ⟨rfl, T, S, 0, t, Cpl_q h QSame_0⟩
  | succ k =>
    obtain ⟨c1, c2, c3⟩ := C_backY hc
    have hhi : HiS σ (r_X4_back σ).2 := fun q j hq => c3 q j (by omega) (by omega)
    have hr2 := RInv_hi hr hhi
    obtain ⟨r1, r2⟩ := R_backY hr2
    have hB : ∀ q j, ¬ (q = 35 ∧ (j = 0 ∨ j = 6)) → (sg_up (sg_up (r_X4_back σ).2 35 0 0) 35 6 (N k)) q j = (r_X4_back σ).2 q j := fun q j hq => by rw [up_ne (by omega), up_ne (by omega)]
    rw [r1]
    dsimp only
    refine ⟨c1, T, S, k, t, CInv_lo c2 (fun q j hq => hB q j (by omega)), r2, Tape_fr hT (Nat.le_refl _) (fun j => (hB 57 j (by omega)).trans (hhi 57 j (by decide))) (fun j => (hB 6 j (by omega)).trans (c3 6 j (by decide) (by omega))), fun j hj => ?_, ?_⟩
    · rw [hB 39 j (by omega), hB 40 j (by omega), hB 33 j (by omega), hB 34 j (by omega), hhi 39 j (by decide), hhi 40 j (by decide), c3 33 j (by decide) (by omega), c3 34 j (by decide) (by omega)]; exact hL j (by omega)
    · rw [hB 35 27 (by decide), hhi 35 27 (by decide), hB 0 7 (by decide), c3 0 7 (by decide) (by decide)]; exact hF
theorem cpl_play {x0 x1 : Int32} (h : Cpl σ T S k t) : (r_X4_play σ x0 x1).1 = (r_X5_play (r_X4_play σ x0 x1).2 x0 x1).1 ∧ p_X5_play (r_X4_play σ x0 x1).2 x0 x1 ∧ Inv2 (r_X5_play (r_X4_play σ x0 x1).2 x0 x1).2 := by
  obtain ⟨hc, hr, hT, hL, hF⟩ := id h
  obtain ⟨⟨a1, a2, x, a3, a4⟩, ht, h5⟩ := id hc
  have hxr : mrun T S (σ 39) (σ 40) k = some x := by rw [← a3]; exact mrun_congr k hL
  by_cases g : k < 400 ∧ canS x.1 x.2.1 x.2.2 x0 x1
  · obtain ⟨c1, c2, c3, c4, c5⟩ := C_playY hc a3 g
    rw [c1]
    dsimp only
    have hhi : HiS σ (s_X4_record σ x0 x1) := fun q j hq => c5 q j (by omega) (by omega) (by omega)
    have hr2 := RInv_hi hr hhi
    have hx2 : mrun T S ((s_X4_record σ x0 x1) 39) ((s_X4_record σ x0 x1) 40) k = some x := by
      rw [← hxr]; exact mrun_congr k (fun j _ => ⟨hhi 39 j (by decide), hhi 40 j (by decide)⟩)
    obtain ⟨r1, r2, r3, r4, r5⟩ := R_playY hr2 hx2 g
    have b0 := (R_play (x0 := x0) (x1 := x1) hr2).1
    refine ⟨r1.symm, b0, T, S, k + 1, t, CInv_lo c2 (fun q j hq => r5 q j (by omega) (by omega) (by omega)), r2, Tape_fr hT (Nat.le_refl _) (fun j => (r5 57 j (by decide) (by omega) (by omega)).trans (hhi 57 j (by decide))) (fun j => (r5 6 j (by decide) (by omega) (by omega)).trans (c5 6 j (by decide) (by omega) (by omega))), fun j hj => ?_, ?_⟩
    · rw [r5 33 j (by decide) (by omega) (by omega), r5 34 j (by decide) (by omega) (by omega)]
      by_cases e : j = k
      · subst e
        exact ⟨r3.trans c3.symm, r4.trans c4.symm⟩
      · rw [r5 39 j (by decide) (by omega) (by omega), r5 40 j (by decide) (by omega) (by omega), hhi 39 j (by decide), hhi 40 j (by decide), c5 33 j (by decide) (by omega) (by omega), c5 34 j (by decide) (by omega) (by omega)]
        exact hL j (by omega)
    · rw [r5 35 27 (by decide) (by decide) (by omega), hhi 35 27 (by decide), r5 0 7 (by decide) (by decide) (by omega), c5 0 7 (by decide) (by decide) (by omega)]; exact hF
  · rw [C_playN hc a3 g]
    dsimp only
    obtain ⟨r1, r2⟩ := R_playN hr hxr g
    exact ⟨r1.symm, (R_play (x0 := x0) (x1 := x1) hr).1, T, S, k, t, Cpl_q h r2⟩
end Step
