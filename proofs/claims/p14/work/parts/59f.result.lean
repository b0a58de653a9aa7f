/-! IFRUNS, RESULT, MARGIN: both -/
theorem sub_toInt {a b : Nat} (ha : a < 1000000000) (hb : b < 1000000000) : (N b - N a).toInt = (b : Int) - a := by
  rw [Int32.toInt_sub, N_toInt (by omega), N_toInt (by omega)]
  exact Int.bmod_eq_of_le (by omega) (by omega)
theorem sub_z {a b : Nat} (ha : a < 1000000000) (hb : b < 1000000000) : (N b - N a = 0) ↔ b = a := by
  rw [← Int32.toInt_inj, sub_toInt ha hb, show (0 : Int32).toInt = 0 from rfl]
  omega
theorem sub_nn {a b : Nat} (ha : a < 1000000000) (hb : b < 1000000000) : (0 ≤ N b - N a) ↔ a ≤ b := by
  rw [Int32.le_iff_toInt_le, sub_toInt ha hb, show (0 : Int32).toInt = 0 from rfl]
  omega
section Results
variable {σ τ : sg_S} {c : Nat} {T S : Nat → Nat} {k i t : Nat} {D : Nat → Nat → Nat}
def aimN (T S : Nat → Nat) (D : Nat → Nat → Nat) : Nat := (if D 1 6 = 0 then tgt T (S 1) (D 0 0) (D 0 7 - D 0 8) (D 1 7) else tgt T (S 1) (D 0 0) (D 0 7 - D 0 8) (D 1 7 - WL T (D 1))) - 1
theorem aimN_lt (hT : TabOK T) (hS : SetOK S) (hk : k ≤ 401) (h0 : InnOK T k (D 0)) (h1 : InnOK T k (D 1)) (hp : 0 < D 0 7 - D 0 8) : aimN T S D < 1000000 := by
  obtain ⟨a1, a2, a3, a4, a5, a6, a7, a8, a9, a10⟩ := id h0
  obtain ⟨b1, b2, b3, b4, b5, b6, b7, b8, b9, b10⟩ := id h1
  obtain ⟨s1, s2, s3, s4, s5, s6, s7⟩ := id hS
  unfold aimN
  split
  · have := tgt_le hT (mean := S 1) (S := D 0 0) (Q := D 1 7) (by omega) hp (by omega) (by omega)
    omega
  · have := tgt_le hT (mean := S 1) (S := D 0 0) (Q := D 1 7 - WL T (D 1)) (by omega) hp (by omega) (by omega)
    omega
theorem raim_eq (hR : RefAt τ T S i t D) (hk : k ≤ 401) (h0 : InnOK T k (D 0)) (h1 : InnOK T k (D 1)) (hp : 0 < D 0 7 - D 0 8) : v_X5_aim τ = N (aimN T S D) := by
  unfold v_X5_aim aimN
  rw [(hR.pic (i := 1) (by decide)).2.2.2.2.2.2.1]
  have h6 := h1.2.2.2.2.2.2.1
  by_cases g : D 1 6 = 0
  · rw [if_pos g, g, if_pos (show N 0 = (0 : Int32) from rfl), theTarget_eq hR hk h0 h1 hp]
    exact N_sub (b := 1) (tgt_pos _ _ _ _ _)
  · rw [if_neg g, if_neg (N_nz (by omega) (by omega)), rpar_eq hR hk h0 h1 hp]
    exact N_sub (b := 1) (tgt_pos _ _ _ _ _)
theorem clead_eq (hA : CAt σ c T S i t D) (hi : 0 < i) (hi2 : i ≤ 2) (hk : k ≤ 401) (h0 : InnOK T k (D 0)) (h1 : InnOK T k (D 1)) (hp : 0 < D 0 7 - D 0 8) : v_X0_leadOverTie σ c (N (D 1 6)) = N (D 1 0) - N (aimN T S D) := by
  have h6 := h1.2.2.2.2.2.2.1
  have h10 := h1.2.2.2.2.2.2.2.2.2
  have et : v_X0_theTarget σ c = N (tgt T (S 1) (D 0 0) (D 0 7 - D 0 8) (D 1 7)) := by
    unfold v_X0_theTarget
    rw [chasTarget_eq hA hi2 h0, if_pos (show 0 < i ∧ 0 < D 0 7 - D 0 8 from ⟨hi, hp⟩), if_neg one_nz, ctheTarget_eq hA hk h0 h1 hp]
  unfold v_X0_leadOverTie aimN
  rw [hA.2.2.2.2.2.2.2 0 (by decide), hA.2.2.2.2.2.2.2 6 (by decide), hA.2.2.2.2.2.2.2 8 (by decide)]
  by_cases g : D 1 6 = 0
  · rw [if_pos g, g, if_pos (show N 0 = (0 : Int32) from rfl), et]
    congr 1
    exact N_sub (b := 1) (tgt_pos _ _ _ _ _)
  · have e1 : D 1 6 = 1 := by omega
    rw [if_neg g, if_neg (N_nz (by omega) (by omega)), if_neg (N_nz (by omega) (by omega)), h10, if_pos e1, cpar_eq hA hk h0 h1 hp h1.2.2.2.2.2.2.2.1]
    congr 1
    exact N_sub (b := 1) (tgt_pos _ _ _ _ _)
theorem out44 (hA : CAt σ c T S i t D) (hR : RefAt τ T S i t D) (hi : 0 < i) (hi2 : i ≤ 2) (hk : k ≤ 401) (h0 : InnOK T k (D 0)) (h1 : InnOK T k (D 1)) (hp : 0 < D 0 7 - D 0 8) : v_X0_outcome_a44 σ c (N (D 1 6)) = v_X5_resultNow_a38 τ := by
  have hl := aimN_lt hA.2.1 hA.2.2.2.1 hk h0 h1 hp
  have hr : D 1 0 ≤ 6 * k := h1.2.2.2.2.2.1
  unfold v_X0_outcome_a44 v_X5_resultNow_a38
  rw [clead_eq hA hi hi2 hk h0 h1 hp, raim_eq hR hk h0 h1 hp, (hR.pic (i := 1) (by decide)).1]
  have z := sub_z (a := aimN T S D) (b := D 1 0) (by omega) (by omega)
  have nn := sub_nn (a := aimN T S D) (b := D 1 0) (by omega) (by omega)
  have l1 := N_le (a := aimN T S D) (b := D 1 0) (by omega) (by omega)
  have l2 := N_le (a := D 1 0) (b := aimN T S D) (by omega) (by omega)
  by_cases g : D 1 0 = aimN T S D
  · rw [if_neg (fun w => w (z.mpr g)), if_pos (l1.mpr (by omega)), if_pos (l2.mpr (by omega))]
  · rw [if_pos (fun w => g (z.mp w))]
    by_cases g2 : aimN T S D ≤ D 1 0
    · rw [if_pos (nn.mpr g2), if_pos (l1.mpr g2), if_neg (fun w => by have := l2.mp w; omega)]
    · rw [if_neg (fun w => g2 (nn.mp w)), if_neg (fun w => g2 (l1.mp w))]
theorem out_both (hA : CAt σ c T S i t D) (hR : RefAt τ T S i t D) (hi : 0 < i) (hi2 : i ≤ 2) (hk : k ≤ 401) (h0 : InnOK T k (D 0)) (h1 : InnOK T k (D 1)) : v_X0_outcome σ c (N (D 1 6)) = v_X5_resultNow τ := by
  have h6 := h1.2.2.2.2.2.2.1
  have hb : D 1 2 ≤ 120 := by have := h1.2.2.1; have := h1.2.1; omega
  have s2 : S 2 ≤ 20 := by
    obtain ⟨s1, s2, s3, s4, s5, s6, s7⟩ := id hA.2.2.2.1
    omega
  have hP0 := (hR.pic (i := 0) (by decide)).2.2.2.2.2.2.2.1
  have hP1 := hR.pic (i := 1) (by decide)
  have a9 : D 0 7 ≤ 30000 := h0.2.2.2.2.2.2.2.2.1
  have e6 : (6 : Int32) * N (S 2) = N (6 * S 2) := N_mul 6 (S 2)
  unfold v_X0_outcome v_X5_resultNow
  rw [show v_X2_setting σ 2 = N (S 2) from setting_k (k := 2) hA.2.2.1 (by decide), hA.2.2.2.2.2.2.2 2 (by decide), chasTarget_eq hA hi2 h0, hP0, hP1.2.2.2.2.2.2.1, hP1.2.2.1, hR.2.2.1 2 (by decide), e6]
  by_cases hp : 0 < D 0 7 - D 0 8
  · rw [if_pos (show 0 < i ∧ 0 < D 0 7 - D 0 8 from ⟨hi, hp⟩), if_neg (show ¬ N (D 0 7 - D 0 8) = 0 from N_nz hp (by omega)), if_neg one_nz]
    have o := out44 hA hR hi hi2 hk h0 h1 hp
    have hle := N_le (a := 6 * S 2) (b := D 1 2) (by omega) (by omega)
    rw [o]
    by_cases g : D 1 6 = 0
    · have gz : N (D 1 6) = 0 := by rw [g]; rfl
      rw [if_pos gz]
      split
      · rfl
      · rfl
    · have gn : ¬ N (D 1 6) = 0 := N_nz (by omega) (by omega)
      rw [if_neg gn]
      by_cases g2 : N (6 * S 2) ≤ N (D 1 2)
      · rw [if_pos g2, if_pos g2, if_neg gn, if_pos (show (0 : Int32) = 0 from rfl)]
      · rw [if_neg g2, if_neg g2, if_neg gn, if_neg gn, if_neg one_nz, if_neg one_nz]
  · have ez : D 0 7 - D 0 8 = 0 := by omega
    rw [if_neg (show ¬ (0 < i ∧ 0 < D 0 7 - D 0 8) from fun w => hp w.2), ez, if_pos (show N 0 = (0 : Int32) from rfl), if_pos (show (0 : Int32) = 0 from rfl)]
    split
    · rfl
    · rfl
end Results
section Results2
variable {σ : sg_S} {T S : Nat → Nat} {k t : Nat}
theorem both_ifRuns {x0 : Int32} (h : Cpl σ T S k t) : v_X4_ifRuns σ x0 = (r_X5_ifRuns σ x0).1 := by
  obtain ⟨x, -, -, hA, hO, hR, -⟩ := Cpl_x h
  have h0 := hO.2.2.2.1 0 (by decide)
  have h1 := hO.2.2.2.1 1 (by decide)
  have a9 : x.2.2 0 7 ≤ 30000 := h0.2.2.2.2.2.2.2.2.1
  have b9 : x.2.2 1 7 ≤ 30000 := h1.2.2.2.2.2.2.2.2.1
  unfold v_X4_ifRuns r_X5_ifRuns
  rw [chasTarget_eq hA hO.1 h0, has5 hR hO.1 h0]
  by_cases g0 : v_X5_in x0 0 999 = 0
  · rw [if_pos g0]
    have hno : ¬ (¬ x0 < 0 ∧ ¬ (999 : Int32) < x0) := fun ⟨z1, z2⟩ => by
      obtain ⟨a, ha, rfl⟩ := ex_nlt 999 z1 z2 (by decide)
      exact absurd g0 (in_nz (lo := 0) (hi := 999) (Nat.zero_le _) ha (by decide))
    have e : (if x0 < 0 then (-1 : Int32) else (if (999 : Int32) < x0 then (-1 : Int32) else (if ¬ (if 0 < x.1 ∧ 0 < x.2.2 0 7 - x.2.2 0 8 then (1 : Int32) else 0) = 0 then (v_X0_targetBy σ 7 x0 (σ 14 7)) else (-1 : Int32)))) = -1 := by
      by_cases z1 : x0 < 0
      · rw [if_pos z1]
      · by_cases z2 : (999 : Int32) < x0
        · rw [if_neg z1, if_pos z2]
        · exact absurd ⟨z1, z2⟩ hno
    rw [e]
    split
    · rfl
    · rfl
  rw [if_neg g0]
  obtain ⟨a, rfl, -, ha⟩ := in_ex (lo := 0) (hi := 999) (by decide) (by decide) g0
  rw [if_neg (N_nn (by omega)), if_neg (by exact g_nlt (L := 999) ha (by decide))]
  by_cases g : 0 < x.1 ∧ 0 < x.2.2 0 7 - x.2.2 0 8
  · rw [if_pos g, if_pos one_nz, if_neg one_nz]
    dsimp only
    rw [second_eq hR.2.2.2.2.2.2.2 (InnOK_8 h1), show σ 14 7 = N (x.2.2 1 7) from hA.2.2.2.2.2.2.2 7 (by decide), ctargetBy_eq hA.1 hA.2.1 hA.2.2.1 hA.2.2.2.1 (cfirstPart_eq hA h0) g.2 (by omega) b9 (by omega), target_eq hR.1 hR.2.1 hR.2.2.1 hR.2.2.2.1 (hR.pic (i := 0) (by decide)).2.2.2.2.2.2.2.1 g.2 (by omega) b9 (by omega)]
  · rw [if_neg g, if_neg nn0, if_pos rfl]
theorem both_result (h : Cpl σ T S k t) : v_X4_result σ = (r_X5_result σ).1 := by
  obtain ⟨x, -, -, hA, hO, hR, -⟩ := Cpl_x h
  have hk : k ≤ 401 := by have := h.1.1.2.1; omega
  have hi := hO.1
  unfold v_X4_result r_X5_result
  rw [hA.2.2.2.2.1, hR.2.2.2.2.1, show σ 14 6 = N (x.2.2 1 6) from hA.2.2.2.2.2.2.2 6 (by decide)]
  by_cases e : x.1 = 2
  · have o := out_both hA hR (by omega) hi hk (hO.2.2.2.1 0 (by decide)) (hO.2.2.2.1 1 (by decide))
    rw [e, if_neg (show ¬ ¬ N 2 = (2 : Int32) from fun w => w rfl), if_pos (show (2 : Int32) ≤ N 2 by decide)]
    exact o
  · rw [if_pos (show ¬ N x.1 = (2 : Int32) from fun w => e ((N_eq (b := 2) (by omega) (by decide)).mp w)), if_neg (by exact g_nle (L := 2) (by omega) (by decide))]
theorem both_margin (h : Cpl σ T S k t) : v_X4_margin σ = (r_X5_margin σ).1 := by
  obtain ⟨x, -, -, hA, hO, hR, -⟩ := Cpl_x h
  have hk : k ≤ 401 := by have := h.1.1.2.1; omega
  have hi := hO.1
  have h0 := hO.2.2.2.1 0 (by decide)
  have h1 := hO.2.2.2.1 1 (by decide)
  unfold v_X4_margin r_X5_margin
  rw [hA.2.2.2.2.1, hR.2.2.2.2.1]
  by_cases e : x.1 = 2
  · have o := out_both hA hR (by omega) hi hk h0 h1
    rw [e, if_neg (show ¬ ¬ N 2 = (2 : Int32) from fun w => w rfl), if_pos (show (2 : Int32) ≤ N 2 by decide)]
    unfold v_X0_leadAtEnd
    have e6 : σ (7 + 7) 6 = N (x.2.2 1 6) := hA.2.2.2.2.2.2.2 6 (by decide)
    rw [e6, o]
    by_cases hp : 0 < x.2.2 0 7 - x.2.2 0 8
    · have et : v_X0_theTarget σ 7 = v_X5_theTarget (s_X5_goesOn (sg_up σ 35 0 0)) := by
        have q := tgt_both hA hR hi hk h0 h1
        rw [has5 hR hi h0, if_pos (show 0 < x.1 ∧ 0 < x.2.2 0 7 - x.2.2 0 8 from ⟨by omega, hp⟩), if_neg one_nz] at q
        exact q
      rw [clead_eq hA (by omega) hi hk h0 h1 hp, raim_eq hR hk h0 h1 hp, et, hA.2.2.2.2.2.2.2 0 (by decide), hA.2.2.2.2.2.2.2 1 (by decide), (hR.pic (i := 1) (by decide)).1, (hR.pic (i := 1) (by decide)).2.1]
      by_cases r1 : v_X5_resultNow (s_X5_goesOn (sg_up σ 35 0 0)) = 1
      · rw [if_pos r1, if_neg (fun w => w r1)]
        exact Int32.neg_sub
      · rw [if_neg r1, if_pos r1]
        by_cases r2 : v_X5_resultNow (s_X5_goesOn (sg_up σ 35 0 0)) = 2
        · rw [if_pos r2, if_pos r2]
          split
          · rfl
          · rfl
        · rw [if_neg r2, if_neg r2]
    · have ez : x.2.2 0 7 - x.2.2 0 8 = 0 := by omega
      have rz : v_X5_resultNow (s_X5_goesOn (sg_up σ 35 0 0)) = 0 := by
        unfold v_X5_resultNow
        rw [(hR.pic (i := 0) (by decide)).2.2.2.2.2.2.2.1, ez, if_pos (show N 0 = (0 : Int32) from rfl)]
      rw [rz, if_neg (by decide), if_neg (by decide), if_pos (by decide), if_neg (by decide)]
  · rw [if_pos (show ¬ N x.1 = (2 : Int32) from fun w => e ((N_eq (b := 2) (by omega) (by decide)).mp w)), if_neg (by exact g_nle (L := 2) (by omega) (by decide))]
end Results2
