/-! SET, in full: what it answers, what it leaves -/
section SetFull
variable {σ : sg_S} {T S : Nat → Nat} {k t : Nat}
theorem setC_lt {s v : Nat} (hc : setC S s v) : v < 1000 := by
  obtain ⟨c1, c2, c3, c4, c5, c6⟩ := hc
  rcases (show s = 0 ∨ s = 1 ∨ s = 2 ∨ s = 3 ∨ s = 4 by omega) with rfl | rfl | rfl | rfl | rfl
  · have := c3 (Or.inl rfl); omega
  · have := c4 rfl; omega
  · have := c3 (Or.inr rfl); omega
  · have := c5 rfl; omega
  · have := c6 rfl; omega
theorem C_setY {s v : Nat} (h : CInv σ T S k t) (hc : setC S s v) : (r_X4_set σ (N s) (N v)).1 = 1 ∧ CInv (r_X4_set σ (N s) (N v)).2 T (du S s v) 0 t ∧ HiS σ (r_X4_set σ (N s) (N v)).2 ∧ ASame σ σ ∧ (∀ q j, ¬ (7 ≤ q ∧ q ≤ 19) → ¬ (q = 0 ∧ j = 6) → ¬ q = 4 → (r_X4_set σ (N s) (N v)).2 q j = σ q j) := by
  obtain ⟨⟨a1, a2, x, a3, a4⟩, ht, h5⟩ := id h
  obtain ⟨g1, g2⟩ := (allows_iff (x0 := N s) (x1 := N v) a4.2.2.1 a4.2.2.2.1).mpr ⟨s, v, rfl, rfl, hc⟩
  have es : s_X2_change σ (N s) (N v) = sg_up σ 4 s (N v) := by
    unfold s_X2_change
    rw [if_neg (N_nn (by have := hc.1; omega)), if_neg (by exact g_nle (L := 5) hc.1 (by decide)), ni_N (by have := hc.1; omega)]
  obtain ⟨e1, e2⟩ := cempty_ok (σ := sg_up σ 4 s (N v)) (TabAt_up a4.1 (by decide)) a4.2.1 (SetAt_du a4.2.2.1) (setC_OK a4.2.2.2.1 hc)
  unfold r_X4_set
  rw [if_neg g1, if_pos g2, es]
  dsimp only
  refine ⟨rfl, ⟨e1, ?_, h5⟩, fun q j hq => ?_, fun _ _ _ _ => rfl, fun q j h1 h2 h3 => ?_⟩
  · rw [e2 5 1 (by decide) (by decide), up_c (by decide)]; exact ht
  · rw [e2 q j (by omega) (by omega), up_c (by omega)]
  · rw [e2 q j h1 h2, up_c h3]
theorem C_setN {x0 x1 : Int32} (h : CInv σ T S k t) (hn : ¬ ∃ s v, x0 = N s ∧ x1 = N v ∧ setC S s v) : r_X4_set σ x0 x1 = (0, σ) := by
  obtain ⟨⟨a1, a2, x, a3, a4⟩, ht, h5⟩ := id h
  have ha := allows_iff (x0 := x0) (x1 := x1) a4.2.2.1 a4.2.2.2.1
  unfold r_X4_set
  by_cases g1 : v_X2_allows σ x0 x1 = 0
  · rw [if_pos g1]
  rw [if_neg g1]
  by_cases g2 : ¬ v_X2_setting σ x0 = x1
  · exact absurd (ha.mp ⟨g1, g2⟩) hn
  · rw [if_neg g2]
theorem R_set78Y {s v : Nat} {y0 : Int32} (hs : s < 5) (h : RInv σ T S k t) (hy : ¬ y0 = 0) (hc : setC S s v) : (r_X5_set_a78 σ (N s) (N v) y0).1 = 1 ∧ RInv (r_X5_set_a78 σ (N s) (N v) y0).2 T (du S s v) 0 t ∧ (∀ q j, ¬ (q = 35 ∧ j = 6) → ¬ q = 36 → (r_X5_set_a78 σ (N s) (N v) y0).2 q j = σ q j) := by
  obtain ⟨a1, a2, a3, a4, a5, a6, a7, a8, a9⟩ := id h
  unfold r_X5_set_a78 t_X5_set_0
  rw [if_pos hy, ni_N (by omega)]
  dsimp only
  refine ⟨rfl, ⟨TabAt_up (TabAt_up a1 (by decide)) (by decide), a2, SetAt_up (SetAt_du a3) (by decide), setC_OK a4 hc, up_eq, by decide, ⟨_, mrun_0⟩, by rw [up_k (by decide), up_c (by decide)]; exact a8, a9⟩, fun q j h1 h2 => ?_⟩
  rw [up_ne h1, up_c h2]
theorem R_setY {s v : Nat} (h : RInv σ T S k t) (hc : setC S s v) : (r_X5_set σ (N s) (N v)).1 = 1 ∧ RInv (r_X5_set σ (N s) (N v)).2 T (du S s v) 0 t ∧ (∀ q j, ¬ (q = 35 ∧ (j = 6 ∨ j = 0)) → ¬ q = 36 → (r_X5_set σ (N s) (N v)).2 q j = σ q j) := by
  have h0 := RInv_0 (v := 0) h
  obtain ⟨a1, a2, a3, a4, a5, a6, a7, a8, a9⟩ := id h0
  obtain ⟨s1, s2, s3, s4, s5, s6, s7⟩ := id a4
  obtain ⟨c1, c2, c3, c4, c5, c6⟩ := id hc
  have hv := setC_lt hc
  have key : ∀ y0 : Int32, ¬ y0 = 0 → (r_X5_set_a78 (sg_up σ 35 0 0) (N s) (N v) y0).1 = 1 ∧ RInv (r_X5_set_a78 (sg_up σ 35 0 0) (N s) (N v) y0).2 T (du S s v) 0 t ∧ (∀ q j, ¬ (q = 35 ∧ (j = 6 ∨ j = 0)) → ¬ q = 36 → (r_X5_set_a78 (sg_up σ 35 0 0) (N s) (N v) y0).2 q j = σ q j) := fun y0 hy => by
    obtain ⟨p1, p2, p3⟩ := R_set78Y c1 h0 hy hc
    exact ⟨p1, p2, fun q j q1 q2 => (p3 q j (by omega) q2).trans (up_ne (by omega))⟩
  have hne : ¬ N (S s) = N v := by
    rw [N_eq (by
      rcases (show s = 0 ∨ s = 1 ∨ s = 2 ∨ s = 3 ∨ s = 4 by omega) with rfl | rfl | rfl | rfl | rfl <;> omega) (by omega)]
    exact c2
  have hin : ¬ v_X5_in (N s) 0 4 = 0 := in_nz (lo := 0) (hi := 4) (by omega) (by omega) (by decide)
  unfold r_X5_set
  rw [if_neg hin, ni_N (by omega), a3 s c1, if_pos hne]
  rcases (show s = 0 ∨ s = 1 ∨ s = 2 ∨ s = 3 ∨ s = 4 by omega) with rfl | rfl | rfl | rfl | rfl
  · rw [if_pos (by decide)]
    have c := c3 (Or.inl rfl)
    exact key _ (in_nz (lo := 1) (hi := 20) c.1 c.2 (by decide))
  · rw [if_neg (by decide), if_pos (by decide), if_neg (fun z => z rfl)]
    have c := c4 rfl
    exact key _ (in_nz (lo := 1) (hi := 400) c.1 c.2 (by decide))
  · rw [if_neg (by decide), if_neg (fun z => z rfl)]
    have c := c3 (Or.inr rfl)
    exact key _ (in_nz (lo := 1) (hi := 20) c.1 c.2 (by decide))
  · have e7 : (7 : Int32) - N 3 = N 4 := by decide
    rw [if_neg (by decide), if_pos (by decide), if_pos (by decide), e7, ni_N (by decide), a3 4 (by decide), show (20 : Int32) = N 20 from rfl, N_sub (by omega)]
    have c := c5 rfl
    exact key _ (in_nz (lo := 0) (hi := 20 - S 4) (by omega) (by omega) (by omega))
  · have e7 : (7 : Int32) - N 4 = N 3 := by decide
    rw [if_neg (by decide), if_pos (by decide), if_pos (by decide), e7, ni_N (by decide), a3 3 (by decide), show (20 : Int32) = N 20 from rfl, N_sub (by omega)]
    have c := c6 rfl
    exact key _ (in_nz (lo := 0) (hi := 20 - S 3) (by omega) (by omega) (by omega))
theorem R_setN {x0 x1 : Int32} (h : RInv σ T S k t) (hn : ¬ ∃ s v, x0 = N s ∧ x1 = N v ∧ setC S s v) : r_X5_set σ x0 x1 = (0, sg_up σ 35 0 0) := by
  have h0 := RInv_0 (v := 0) h
  obtain ⟨a1, a2, a3, a4, a5, a6, a7, a8, a9⟩ := id h0
  obtain ⟨s1, s2, s3, s4, s5, s6, s7⟩ := id a4
  unfold r_X5_set
  by_cases g : v_X5_in x0 0 4 = 0
  · rw [if_pos g]
  rw [if_neg g]
  obtain ⟨s, rfl, -, hs⟩ := in_ex (lo := 0) (hi := 4) (by decide) (by decide) g
  rw [ni_N (by omega), a3 s (by omega)]
  by_cases g2 : ¬ N (S s) = x1
  · rw [if_pos g2]
    have key : ∀ y0 : Int32, (¬ y0 = 0 → ∃ v, x1 = N v ∧ setC S s v) → r_X5_set_a78 (sg_up σ 35 0 0) (N s) x1 y0 = (0, sg_up σ 35 0 0) := fun y0 hy => by
      unfold r_X5_set_a78
      by_cases z : ¬ y0 = 0
      · obtain ⟨v, e, hc⟩ := hy z
        exact absurd ⟨s, v, rfl, e, hc⟩ hn
      · rw [if_neg z]
    have hne : ∀ v, x1 = N v → ¬ S s = v := fun v e z => g2 (by rw [z, e])
    rcases (show s = 0 ∨ s = 1 ∨ s = 2 ∨ s = 3 ∨ s = 4 by omega) with rfl | rfl | rfl | rfl | rfl
    · rw [if_pos (by decide)]
      exact key _ (fun z => by
        obtain ⟨v, e, v1, v2⟩ := in_ex (lo := 1) (hi := 20) (by decide) (by decide) z
        exact ⟨v, e, by omega, hne v e, fun _ => ⟨v1, v2⟩, fun z => by omega, fun z => by omega, fun z => by omega⟩)
    · rw [if_neg (by decide), if_pos (by decide), if_neg (fun z => z rfl)]
      exact key _ (fun z => by
        obtain ⟨v, e, v1, v2⟩ := in_ex (lo := 1) (hi := 400) (by decide) (by decide) z
        exact ⟨v, e, by omega, hne v e, fun z => by omega, fun _ => ⟨v1, v2⟩, fun z => by omega, fun z => by omega⟩)
    · rw [if_neg (by decide), if_neg (fun z => z rfl)]
      exact key _ (fun z => by
        obtain ⟨v, e, v1, v2⟩ := in_ex (lo := 1) (hi := 20) (by decide) (by decide) z
        exact ⟨v, e, by omega, hne v e, fun _ => ⟨v1, v2⟩, fun z => by omega, fun z => by omega, fun z => by omega⟩)
    · have e7 : (7 : Int32) - N 3 = N 4 := by decide
      rw [if_neg (by decide), if_pos (by decide), if_pos (by decide), e7, ni_N (by decide), a3 4 (by decide), show (20 : Int32) = N 20 from rfl, N_sub (by omega)]
      exact key _ (fun z => by
        obtain ⟨v, e, v1, v2⟩ := in_ex (lo := 0) (hi := 20 - S 4) (by decide) (by omega) z
        exact ⟨v, e, by omega, hne v e, fun z => by omega, fun z => by omega, fun _ => by omega, fun z => by omega⟩)
    · have e7 : (7 : Int32) - N 4 = N 3 := by decide
      rw [if_neg (by decide), if_pos (by decide), if_pos (by decide), e7, ni_N (by decide), a3 3 (by decide), show (20 : Int32) = N 20 from rfl, N_sub (by omega)]
      exact key _ (fun z => by
        obtain ⟨v, e, v1, v2⟩ := in_ex (lo := 0) (hi := 20 - S 3) (by decide) (by omega) z
        exact ⟨v, e, by omega, hne v e, fun z => by omega, fun z => by omega, fun z => by omega, fun _ => by omega⟩)
  · rw [if_neg g2]
end SetFull
section Loose
variable {σ : sg_S} {T S : Nat → Nat} {k t : Nat}
theorem C_feedI {x0 x1 x2 x3 x4 : Int32} (h : CInv σ T S k t) : (∃ t', CInv (r_X4_feed σ x0 x1 x2 x3 x4).2 T S k t') ∧ HiS σ (r_X4_feed σ x0 x1 x2 x3 x4).2 := by
  obtain ⟨a1, a2, a3⟩ := C_feed (x0 := x0) (x1 := x1) (x2 := x2) (x3 := x3) (x4 := x4) h
  by_cases g : t + 20 ≤ 500
  · exact ⟨⟨_, (a1 g).2.1⟩, a3.hi⟩
  · exact ⟨⟨_, (a2 g).2.1⟩, a3.hi⟩
theorem R_feedI {x0 x1 x2 x3 x4 : Int32} (h : RInv σ T S k t) : p_X5_feed σ x0 x1 x2 x3 x4 ∧ (∃ t', RInv (r_X5_feed σ x0 x1 x2 x3 x4).2 T S k t') ∧ LoS σ (r_X5_feed σ x0 x1 x2 x3 x4).2 := by
  obtain ⟨a0, a1, a2, a3⟩ := R_feed (x0 := x0) (x1 := x1) (x2 := x2) (x3 := x3) (x4 := x4) h
  by_cases g : t + 20 ≤ 500
  · exact ⟨a0, ⟨_, (a1 g).2.1⟩, a3.lo⟩
  · exact ⟨a0, ⟨_, (a2 g).2.1⟩, a3.lo⟩
theorem C_endI {n : Int32} (h : CInv σ T S k t) : (∃ t', CInv (r_X4_end σ n).2 T S k t') ∧ HiS σ (r_X4_end σ n).2 := by
  obtain ⟨a1, a2, a3, -⟩ := C_end (n := n) h
  by_cases g : ∃ a, n = N a ∧ a ≤ t
  · obtain ⟨a, e, ha⟩ := g
    exact ⟨⟨_, (a1 a e ha).2⟩, a3.hi⟩
  · exact ⟨⟨_, (a2 (fun a e ha => g ⟨a, e, ha⟩)).2⟩, a3.hi⟩
theorem R_endI {n : Int32} (h : RInv σ T S k t) : (∃ t', RInv (r_X5_end σ n).2 T S k t') ∧ LoS σ (r_X5_end σ n).2 := by
  obtain ⟨a1, a2, a3, -⟩ := R_end (n := n) h
  by_cases g : ∃ a, n = N a ∧ a ≤ t
  · obtain ⟨a, e, ha⟩ := g
    exact ⟨⟨_, (a1 a e ha).2⟩, a3.lo⟩
  · exact ⟨⟨_, (a2 (fun a e ha => g ⟨a, e, ha⟩)).2⟩, a3.lo⟩
end Loose
