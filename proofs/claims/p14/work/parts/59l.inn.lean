/-! INNINGS, BLOCK, BLOCKNOW: both -/
theorem side_no {x0 : Int32} (g : v_X5_isInnings x0 = 0) : v_X4_isSide x0 = 0 := by
  have n0 : ¬ x0 = 0 := fun w => absurd g (by rw [w]; decide)
  have n1 : ¬ x0 = 1 := fun w => absurd g (by rw [w]; decide)
  unfold v_X4_isSide
  rw [if_neg n0, if_pos n1]
theorem side_yes {i : Nat} (hi : i < 2) : ¬ v_X4_isSide (N i) = 0 := by
  rcases (show i = 0 ∨ i = 1 by omega) with rfl | rfl
  · decide
  · decide
theorem in_of {x : Int32} {hi : Nat} (h : hi < 2147483648) (g : v_X5_in x 0 (N hi) = 0) {b : Nat} (hb : b ≤ hi) : ¬ x = N b := fun w => by
  rw [w] at g
  exact in_nz (lo := 0) (Nat.zero_le b) hb h g
section Inn
variable {σ : sg_S} {T S : Nat → Nat} {k t : Nat}
theorem goes_r0 (h : Cpl σ T S k t) : (s_X5_goesOn (sg_up σ 35 0 0)) 35 0 = 0 := by
  obtain ⟨x, -, hxr, -, -, -, -⟩ := Cpl_x h
  have e39 : (sg_up σ 35 0 0) 39 = σ 39 := funext (fun j => up_c (by decide))
  have e40 : (sg_up σ 35 0 0) 40 = σ 40 := funext (fun j => up_c (by decide))
  obtain ⟨g1, g2, g3, g4⟩ := goesOn_ok (x := x) (RInv_0 (v := 0) h.2.1) (by rw [e39, e40]; exact hxr)
  rw [g4 35 0 (by decide) (by decide), up_eq]
def InnB (v : Option Int32) (r : Int32 × sg_S) : Prop := (∀ d, v = some d → r.1 = d ∧ r.2 35 0 = 0) ∧ (v = none → r.2 35 0 = 1)
theorem InnB_y {v : Option Int32} {r : Int32 × sg_S} {a : Int32} (h1 : v = some a) (h2 : r.1 = a) (h3 : r.2 35 0 = 0) : InnB v r := by
  rw [h1]
  refine ⟨fun d w => ?_, fun w => ?_⟩
  · cases w; exact ⟨h2, h3⟩
  · cases w
theorem InnB_n {v : Option Int32} {r : Int32 × sg_S} (h1 : v = none) (h3 : r.2 35 0 = 1) : InnB v r := by
  rw [h1]
  refine ⟨fun d w => ?_, fun _ => h3⟩
  cases w
theorem both_innings {x0 x1 : Int32} (h : Cpl σ T S k t) : InnB (v_X4_innings σ x0 x1) (r_X5_innings σ x0 x1) := by
  obtain ⟨x, -, -, hA, hO, hR, -⟩ := Cpl_x h
  have r0 := goes_r0 h
  have z1 : ¬ (sg_up σ 35 0 1) 35 0 ≤ 0 := by rw [up_eq]; decide
  have z0 : (sg_up σ 35 0 0) 35 0 ≤ 0 := by rw [up_eq]; decide
  have e1 : ∀ a b : Int32, r_X5_innings_a23 σ a b 1 = (0, sg_up σ 35 0 1) := fun a b => by
    unfold r_X5_innings_a23
    rw [if_neg z1]
  have u1 : ((0 : Int32), sg_up σ 35 0 1).2 35 0 = 1 := by dsimp only; exact up_eq
  by_cases g : v_X5_isInnings x0 = 0
  · refine InnB_n ?_ ?_
    · unfold v_X4_innings
      rw [if_neg (fun w => w (side_no g))]
    · unfold r_X5_innings
      rw [if_pos g, e1]; exact u1
  obtain ⟨i, rfl, hi⟩ := inn_ex g
  have hI := hO.2.2.2.1 i hi
  have hP := hR.pic hi
  have hC := hA.pic hi
  have hv : v_X4_innings σ (N i) x1 = (if x1 = 0 then (some (σ (7 + 1 + 6 * i) 0)) else (if x1 = 1 then (some (σ (7 + 1 + 6 * i) 1)) else (if x1 = 2 then (some (σ (7 + 1 + 6 * i) 2)) else (if x1 = 3 then (some (σ (7 + 1 + 6 * i) 3)) else (if x1 = 4 then (some ((σ (7 + 1 + 6 * i) 7) - (σ (7 + 1 + 6 * i) 8))) else (if x1 = 5 then (some (σ (7 + 1 + 6 * i) 5)) else (if x1 = 6 then (if (σ (7 + 1 + 6 * i) 6) = 0 then (some (0 : Int32)) else (some (1 : Int32))) else (if x1 = 7 then (some (σ (7 + 1 + 6 * i) 4)) else (if x1 = 8 then (some (v_X0_ballsLeft σ 7 (N i))) else (none : Option Int32)))))))))) := by
    unfold v_X4_innings
    rw [if_pos (side_yes hi), side_eq hi]
  have hr : ∀ y, r_X5_innings_a23 σ (N i) y 0 = (if y = 0 then (((s_X5_goesOn (sg_up σ 35 0 0)) 41 (ni (N i))), (s_X5_goesOn (sg_up σ 35 0 0))) else (if y = 1 then (((s_X5_goesOn (sg_up σ 35 0 0)) 42 (ni (N i))), (s_X5_goesOn (sg_up σ 35 0 0))) else (if y = 2 then (((s_X5_goesOn (sg_up σ 35 0 0)) 43 (ni (N i))), (s_X5_goesOn (sg_up σ 35 0 0))) else (if y = 3 then (((s_X5_goesOn (sg_up σ 35 0 0)) 44 (ni (N i))), (s_X5_goesOn (sg_up σ 35 0 0))) else (if y = 4 then (((s_X5_goesOn (sg_up σ 35 0 0)) 45 (ni (N i))), (s_X5_goesOn (sg_up σ 35 0 0))) else (if y = 5 then (((s_X5_goesOn (sg_up σ 35 0 0)) 49 (ni (N i))), (s_X5_goesOn (sg_up σ 35 0 0))) else (if y = 6 then (if ((s_X5_goesOn (sg_up σ 35 0 0)) 47 (ni (N i))) = 0 then ((0 : Int32), (s_X5_goesOn (sg_up σ 35 0 0))) else ((1 : Int32), (s_X5_goesOn (sg_up σ 35 0 0)))) else (if y = 7 then (((s_X5_goesOn (sg_up σ 35 0 0)) 48 (ni (N i))), (s_X5_goesOn (sg_up σ 35 0 0))) else (if ((s_X5_goesOn (sg_up σ 35 0 0)) 35 23) ≤ (N i) then ((v_X5_left (s_X5_goesOn (sg_up σ 35 0 0)) (N i)), (s_X5_goesOn (sg_up σ 35 0 0))) else ((0 : Int32), (s_X5_goesOn (sg_up σ 35 0 0)))))))))))) := fun y => by
    unfold r_X5_innings_a23
    rw [if_pos z0]
  by_cases g8 : v_X5_in x1 0 8 = 0
  · have ne : ∀ b : Nat, b ≤ 8 → ¬ x1 = N b := fun b hb => in_of (hi := 8) (by decide) g8 hb
    refine InnB_n ?_ ?_
    · rw [hv, if_neg (by exact ne 0 (by decide)), if_neg (by exact ne 1 (by decide)), if_neg (by exact ne 2 (by decide)), if_neg (by exact ne 3 (by decide)), if_neg (by exact ne 4 (by decide)), if_neg (by exact ne 5 (by decide)), if_neg (by exact ne 6 (by decide)), if_neg (by exact ne 7 (by decide)), if_neg (by exact ne 8 (by decide))]
    · unfold r_X5_innings
      rw [if_neg g, if_pos g8, e1]; exact u1
  have er : r_X5_innings σ (N i) x1 = r_X5_innings_a23 σ (N i) x1 0 := by
    unfold r_X5_innings
    rw [if_neg g, if_neg g8]
  have ei : ni (N i) = i := ni_N (by omega)
  rw [er, hv, hr, ei]
  obtain ⟨b, rfl, -, hb⟩ := in_ex (lo := 0) (hi := 8) (by decide) (by decide) g8
  obtain ⟨p0, p1, p2, p3, p4, p5, p6, p7, p8⟩ := id hP
  obtain ⟨a1, a2, a3, a4, a5, a6, a7, a8, a9, a10⟩ := id hI
  rcases (show b = 0 ∨ b = 1 ∨ b = 2 ∨ b = 3 ∨ b = 4 ∨ b = 5 ∨ b = 6 ∨ b = 7 ∨ b = 8 by omega) with rfl | rfl | rfl | rfl | rfl | rfl | rfl | rfl | rfl
  · exact InnB_y (a := σ (7 + 1 + 6 * i) 0) rfl (p0.trans (hC 0 (by decide)).symm) r0
  · exact InnB_y (a := σ (7 + 1 + 6 * i) 1) rfl (p1.trans (hC 1 (by decide)).symm) r0
  · exact InnB_y (a := σ (7 + 1 + 6 * i) 2) rfl (p2.trans (hC 2 (by decide)).symm) r0
  · exact InnB_y (a := σ (7 + 1 + 6 * i) 3) rfl (p3.trans (hC 3 (by decide)).symm) r0
  · refine InnB_y (a := (σ (7 + 1 + 6 * i) 7) - (σ (7 + 1 + 6 * i) 8)) rfl ?_ r0
    have h8 : x.2.2 i 8 ≤ x.2.2 i 7 := by
      rw [a10]
      split
      · exact a8
      · omega
    rw [hC 7 (by decide), hC 8 (by decide), N_sub h8]
    exact p7
  · exact InnB_y (a := σ (7 + 1 + 6 * i) 5) rfl (p5.trans (hC 5 (by decide)).symm) r0
  · have c6 := hC 6 (by decide)
    rcases (show x.2.2 i 6 = 0 ∨ x.2.2 i 6 = 1 by omega) with e | e
    · rw [e] at c6 p6
      refine InnB_y (a := 0) ?_ ?_ ?_
      · show (if σ (7 + 1 + 6 * i) 6 = 0 then some (0 : Int32) else some 1) = some 0
        rw [c6]; rfl
      · show (if (s_X5_goesOn (sg_up σ 35 0 0)) 47 i = 0 then ((0 : Int32), (s_X5_goesOn (sg_up σ 35 0 0))) else ((1 : Int32), (s_X5_goesOn (sg_up σ 35 0 0)))).1 = 0
        rw [p6]; rfl
      · show (if (s_X5_goesOn (sg_up σ 35 0 0)) 47 i = 0 then ((0 : Int32), (s_X5_goesOn (sg_up σ 35 0 0))) else ((1 : Int32), (s_X5_goesOn (sg_up σ 35 0 0)))).2 35 0 = 0
        rw [p6]; exact r0
    · rw [e] at c6 p6
      refine InnB_y (a := 1) ?_ ?_ ?_
      · show (if σ (7 + 1 + 6 * i) 6 = 0 then some (0 : Int32) else some 1) = some 1
        rw [c6]; rfl
      · show (if (s_X5_goesOn (sg_up σ 35 0 0)) 47 i = 0 then ((0 : Int32), (s_X5_goesOn (sg_up σ 35 0 0))) else ((1 : Int32), (s_X5_goesOn (sg_up σ 35 0 0)))).1 = 1
        rw [p6]; rfl
      · show (if (s_X5_goesOn (sg_up σ 35 0 0)) 47 i = 0 then ((0 : Int32), (s_X5_goesOn (sg_up σ 35 0 0))) else ((1 : Int32), (s_X5_goesOn (sg_up σ 35 0 0)))).2 35 0 = 0
        rw [p6]; exact r0
  · exact InnB_y (a := σ (7 + 1 + 6 * i) 4) rfl (p4.trans (hC 4 (by decide)).symm) r0
  · refine InnB_y (a := v_X0_ballsLeft σ 7 (N i)) rfl ?_ ?_
    · show (if (s_X5_goesOn (sg_up σ 35 0 0)) 35 23 ≤ N i then ((v_X5_left (s_X5_goesOn (sg_up σ 35 0 0)) (N i)), (s_X5_goesOn (sg_up σ 35 0 0))) else ((0 : Int32), (s_X5_goesOn (sg_up σ 35 0 0)))).1 = v_X0_ballsLeft σ 7 (N i)
      unfold v_X0_ballsLeft
      rw [hA.2.2.2.2.1, hR.2.2.2.2.1, side_eq hi, hC 3 (by decide), hC 2 (by decide), left_eq hi hP a3, show (6 : Int32) * N (x.2.2 i 3) = N (6 * x.2.2 i 3) from N_mul 6 _, N_sub a3]
      split
      · rfl
      · rfl
    · show (if (s_X5_goesOn (sg_up σ 35 0 0)) 35 23 ≤ N i then ((v_X5_left (s_X5_goesOn (sg_up σ 35 0 0)) (N i)), (s_X5_goesOn (sg_up σ 35 0 0))) else ((0 : Int32), (s_X5_goesOn (sg_up σ 35 0 0)))).2 35 0 = 0
      split
      · exact r0
      · exact r0
theorem inn_60 {x0 x1 d : Int32} : v_X4_innings (sg_up σ 60 0 d) x0 x1 = v_X4_innings σ x0 x1 := by
  have hs : ∀ f, (sg_up σ 60 0 d) (v_X0_side 7 x0) f = σ (v_X0_side 7 x0) f := fun f => by
    refine up_c ?_
    unfold v_X0_side
    split
    · decide
    · decide
  unfold v_X4_innings v_X0_ballsLeft
  simp only [hs, up_c (show ¬ 7 = 60 by decide)]
theorem both_block {x0 x1 : Int32} (h : Cpl σ T S k t) : v_X4_block σ x0 x1 = (r_X5_block σ x0 x1).1 := by
  obtain ⟨x, -, -, hA, hO, hR, -⟩ := Cpl_x h
  unfold v_X4_block r_X5_block
  by_cases g : v_X5_isInnings x0 = 0
  · rw [if_pos g, if_pos (side_no g)]
  rw [if_neg g]
  obtain ⟨i, rfl, hi⟩ := inn_ex g
  have hI := hO.2.2.2.1 i hi
  rw [if_neg (side_yes hi), side_eq hi, (hA.pic hi) 3 (by decide)]
  by_cases g2 : v_X5_in x1 0 2 = 0
  · have hb : v_X4_isBlock x1 = 0 := by
      unfold v_X4_isBlock
      by_cases c : x1 < 0
      · rw [if_pos c]
      rw [if_neg c]
      by_cases c2 : (3 : Int32) ≤ x1
      · rw [if_pos c2]
      · obtain ⟨a, ha, rfl⟩ := ex_nle 3 c c2 (by decide)
        exact absurd rfl (in_of (hi := 2) (by decide) g2 (show a ≤ 2 by omega))
    rw [if_neg (fun w => w hb), if_neg (fun w => w g2)]
  · obtain ⟨a, rfl, -, ha⟩ := in_ex (lo := 0) (hi := 2) (by decide) (by decide) g2
    have hb : ¬ v_X4_isBlock (N a) = 0 := by
      unfold v_X4_isBlock
      rw [if_neg (N_nn (by omega)), if_neg (by exact g_nle (L := 3) (by omega) (by decide))]
      exact one_nz
    rw [if_pos hb, if_pos g2]
    unfold t_X5_block_0
    dsimp only
    rw [ni_N (show i < 2147483648 by omega), ni_N (show a < 2147483648 by omega), (hR.pic hi).2.2.2.1, blk_c hA.2.2.1 hA.2.2.2.1 hI.2.1 (by omega), blk_r hR.2.2.1 hR.2.2.2.1 hI.2.1 (by omega)]
theorem both_blockNow (h : Cpl σ T S k t) : v_X4_blockNow σ = (r_X5_blockNow σ).1 := by
  obtain ⟨x, -, -, hA, hO, hR, -⟩ := Cpl_x h
  unfold v_X4_blockNow r_X5_blockNow
  rw [hA.2.2.2.2.1, hR.2.2.2.2.1]
  by_cases e : x.1 = 2
  · rw [e, if_neg (show ¬ N 2 ≤ (1 : Int32) by decide), if_neg (show ¬ ¬ N 2 = (2 : Int32) from fun w => w rfl)]
  · have hi : x.1 < 2 := by have := hO.1; omega
    have hI := hO.2.2.2.1 x.1 hi
    have hl := (lay_ok hR.2.2.1 hR.2.2.2.1 hI.2.1).2.1
    have et : t_X5_blockNow_0 σ = s_X5_laysBlocks (s_X5_goesOn (sg_up σ 35 0 0)) (N (x.2.2 x.1 3)) := by
      unfold t_X5_blockNow_0
      rw [hR.2.2.2.2.1, ni_N (by omega), (hR.pic hi).2.2.2.1]
    have e43 : (t_X5_blockNow_0 σ) 43 (ni ((t_X5_blockNow_0 σ) 35 23)) = N (x.2.2 x.1 2) := by
      rw [et, hl 35 23 (by decide), hR.2.2.2.2.1, ni_N (by omega), hl 43 x.1 (by decide)]
      exact (hR.pic hi).2.2.1
    have b0 : (t_X5_blockNow_0 σ) 58 0 = N (blk S (x.2.2 x.1 3) 0) := by rw [et]; exact blk_r hR.2.2.1 hR.2.2.2.1 hI.2.1 (by decide)
    have b1 : (t_X5_blockNow_0 σ) 58 1 = N (blk S (x.2.2 x.1 3) 1) := by rw [et]; exact blk_r hR.2.2.1 hR.2.2.2.1 hI.2.1 (by decide)
    have c0 : v_X2_blockOvers σ (N (x.2.2 x.1 3)) 0 = N (blk S (x.2.2 x.1 3) 0) := blk_c (kk := 0) hA.2.2.1 hA.2.2.2.1 hI.2.1 (by decide)
    have c1 : v_X2_blockOvers σ (N (x.2.2 x.1 3)) 1 = N (blk S (x.2.2 x.1 3) 1) := blk_c (kk := 1) hA.2.2.1 hA.2.2.2.1 hI.2.1 (by decide)
    rw [if_pos (by exact g_le (L := 1) (by omega) (by decide)), if_pos (show ¬ N x.1 = (2 : Int32) from fun w => e ((N_eq (b := 2) (by omega) (by decide)).mp w)), e43, b0, b1, side_eq hi, (hA.pic hi) 3 (by decide), (hA.pic hi) 2 (by decide), c0, c1]
    split
    · split
      · rfl
      · rfl
    · rfl
end Inn
