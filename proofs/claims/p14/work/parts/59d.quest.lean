/-! QUESTIONS, both: fault, count; how it was leaves the match -/
section Quest
variable {σ : sg_S} {T S : Nat → Nat} {k t : Nat}
theorem Cs_after {x0 x1 : Int32} (h : CInv σ T S k t) : CSame 20 σ (r_X4_after σ x0 x1).2 := by
  obtain ⟨⟨a1, a2, x, a3, a4⟩, ht, h5⟩ := id h
  unfold r_X4_after
  by_cases g1 : x0 < 0
  · rw [if_pos g1]; exact CSame.rf
  rw [if_neg g1]
  by_cases g2 : σ 0 6 < x0
  · rw [if_pos g2]; exact CSame.rf
  rw [if_neg g2]
  rw [a1] at g2
  obtain ⟨a, ha, rfl⟩ := ex_nlt k g1 g2 (by omega)
  obtain ⟨y, hy⟩ := mrun_le' a3 ha
  obtain ⟨r1, r2⟩ := replay_ok (c := 20) (by decide) (by decide) a4.1 a4.2.1 a4.2.2.1 a4.2.2.2.1 (show a ≤ 400 by omega) hy
  repeat' split
  all_goals first | exact r2 | exact CSame.rf
theorem Cs_firstAhead (h : CInv σ T S k t) : CSame 20 σ (r_X4_firstAhead σ).2 := by
  obtain ⟨⟨a1, a2, x, a3, a4⟩, ht, h5⟩ := id h
  obtain ⟨b2, b4⟩ := crestart_ok (c := 20) (by decide) a4.1 a4.2.1 a4.2.2.1 a4.2.2.2.1
  have r33 := b4.row (q := 33) (by decide)
  have r34 := b4.row (q := 34) (by decide)
  have i : CSame 20 (s_X0_restart σ 20) (r_X4_firstAhead_l9 600 (s_X0_restart σ 20) 0).2 := cahead9 (T := T) (S := S) (y := x) a2 600 0 (s_X0_restart σ 20) (begn T S) (by omega) (by omega) (by rw [b4 0 6 (by decide)]; exact a1) b2 rfl (by rw [r33, r34]; exact a3)
  exact b4.tr i
theorem both_fault (h : Cpl σ T S k t) : v_X4_fault σ = (r_X5_fault σ).1 := by
  unfold v_X4_fault r_X5_fault
  dsimp only
  rw [up_k (by decide)]
  exact h.2.2.2.2.symm
/-- where both stand -/
theorem Cpl_x (h : Cpl σ T S k t) : ∃ x : mS, mrun T S (σ 33) (σ 34) k = some x ∧ mrun T S (σ 39) (σ 40) k = some x ∧ CAt σ 7 T S x.1 x.2.1 x.2.2 ∧ OK T (S 1) k x.1 x.2.1 x.2.2 ∧ RefAt (s_X5_goesOn (sg_up σ 35 0 0)) T S x.1 x.2.1 x.2.2 ∧ RSame σ (sg_up (s_X5_goesOn (sg_up σ 35 0 0)) 35 0 (σ 35 0)) := by
  obtain ⟨hc, hr, hT, hL, hF⟩ := id h
  obtain ⟨⟨a1, a2, x, a3, a4⟩, ht, h5⟩ := id hc
  have hxr : mrun T S (σ 39) (σ 40) k = some x := by rw [← a3]; exact mrun_congr k hL
  have e39 : (sg_up σ 35 0 0) 39 = σ 39 := funext (fun j => up_c (by decide))
  have e40 : (sg_up σ 35 0 0) 40 = σ 40 := funext (fun j => up_c (by decide))
  obtain ⟨g1, g2, g3, g4⟩ := goesOn_ok (x := x) (RInv_0 (v := 0) hr) (by rw [e39, e40]; exact hxr)
  refine ⟨x, a3, hxr, a4, g3, g2, fun q j h1 h2 => ?_⟩
  by_cases e : q = 35 ∧ j = 0
  · obtain ⟨rfl, rfl⟩ := e
    exact up_eq
  · rw [up_ne e, g4 q j h1 h2, up_ne e]
theorem both_count {x0 : Int32} (h : Cpl σ T S k t) : v_X4_count σ x0 = (r_X5_count σ x0).1 := by
  obtain ⟨x, -, -, hA, hO, hR, hs⟩ := Cpl_x h
  obtain ⟨hc, hr, hT, hL, hF⟩ := id h
  have hf : ∀ q j, ¬ (41 ≤ q ∧ q ≤ 56) → ¬ (q = 35 ∧ (j = 0 ∨ j = 23 ∨ j = 24)) → (s_X5_goesOn (sg_up σ 35 0 0)) q j = σ q j := fun q j h1 h2 => by
    have := hs q j h1 (by omega)
    rw [up_ne (by omega)] at this
    exact this
  have z6 : (s_X5_goesOn (sg_up σ 35 0 0)) 35 6 = N k := (hf 35 6 (by decide) (by decide)).trans hr.2.2.2.2.1
  have z26 : (s_X5_goesOn (sg_up σ 35 0 0)) 35 26 = N t := (hf 35 26 (by decide) (by decide)).trans hr.2.2.2.2.2.2.2.1
  unfold v_X4_count r_X5_count
  by_cases g : v_X5_in x0 10 14 = 0
  · rw [if_pos g]
    by_cases g0 : x0 = 0
    · rw [if_pos g0, if_pos g0]; exact hc.1.1.trans z6.symm
    rw [if_neg g0, if_neg g0]
    by_cases g1 : x0 = 1
    · rw [if_pos g1, if_pos g1]; exact hA.2.2.2.2.1.trans hR.2.2.2.2.1.symm
    rw [if_neg g1, if_neg g1]
    by_cases g2 : x0 = 2
    · rw [if_pos g2, if_pos g2]; exact hc.2.1.trans z26.symm
    rw [if_neg g2, if_neg g2]
    by_cases g3 : x0 = 3
    · rw [if_pos g3, if_pos g3]; exact (cfull_eq hA.1).trans (full_eq hR.1).symm
    rw [if_neg g3, if_neg g3]
    by_cases g4 : x0 < 10
    · rw [if_pos g4]
    rw [if_neg g4]
    by_cases g5 : (14 : Int32) < x0
    · rw [if_pos g5]
    · refine absurd g ((in_ni (lo := 10) (hi := 14) (by decide) (by decide) (by decide)).mpr ?_)
      have h1 : ¬ ni x0 < 10 := fun z => g4 ((lt_ni (a := 10) (by decide) (by decide)).mpr z)
      have e3 : N (ni x0) = x0 := ni_pos (by omega)
      have hl := ni_lt (x := x0)
      rw [← e3] at g5
      have g5 : ¬ N 14 < N (ni x0) := g5
      rw [N_lt (by decide) hl] at g5
      omega
  · rw [if_neg g]
    obtain ⟨a, rfl, h1, h2⟩ := in_ex (lo := 10) (hi := 14) (by decide) (by decide) g
    have ne : ∀ b : Nat, b < 10 → ¬ N a = N b := fun b hb => by rw [N_eq (by omega) (by omega)]; omega
    rw [if_neg (by exact ne 0 (by decide)), if_neg (by exact ne 1 (by decide)), if_neg (by exact ne 2 (by decide)), if_neg (by exact ne 3 (by decide)), if_neg (by
      show ¬ N a < N 10
      rw [N_lt (by omega) (by decide)]; omega), if_neg (by exact g_nlt (L := 14) h2 (by decide)), show N a - 10 = N (a - 10) from N_sub (b := 10) h1, setting_k hA.2.2.1 (by omega)]
    dsimp only
    rw [ni_N (by omega), hR.2.2.1 _ (by omega)]
end Quest
