/-! IFCLOSED: both -/
theorem cmp3 {R A : Nat} (hR : R < 1000000000) (hA : A < 1000000000) : (if ¬ (N R - N A) = 0 then (if 0 ≤ N R - N A then (2 : Int32) else (1 : Int32)) else (3 : Int32)) = (if N A ≤ N R then (if N R ≤ N A then (3 : Int32) else (2 : Int32)) else (1 : Int32)) := by
  have z := sub_z (a := A) (b := R) (by omega) (by omega)
  have nn := sub_nn (a := A) (b := R) (by omega) (by omega)
  have l1 := N_le (a := A) (b := R) (by omega) (by omega)
  have l2 := N_le (a := R) (b := A) (by omega) (by omega)
  by_cases g : R = A
  · rw [if_neg (fun w => w (z.mpr g)), if_pos (l1.mpr (by omega)), if_pos (l2.mpr (by omega))]
  · rw [if_pos (fun w => g (z.mp w))]
    by_cases g2 : A ≤ R
    · rw [if_pos (nn.mpr g2), if_pos (l1.mpr g2), if_neg (fun w => by have := l2.mp w; omega)]
    · rw [if_neg (fun w => g2 (nn.mp w)), if_neg (fun w => g2 (l1.mp w))]
section Closed
variable {σ : sg_S} {T S : Nat → Nat} {k t : Nat}
theorem both_ifClosed (h : Cpl σ T S k t) : v_X4_ifClosed σ = (r_X5_ifClosed σ).1 := by
  obtain ⟨x, -, -, hA, hO, hR, -⟩ := Cpl_x h
  have hk : k ≤ 400 := h.1.1.2.1
  have h0 := hO.2.2.2.1 0 (by decide)
  have h1 := hO.2.2.2.1 1 (by decide)
  unfold v_X4_ifClosed r_X5_ifClosed
  rw [hA.2.2.2.2.1, hR.2.2.2.2.1]
  by_cases e : x.1 = 1
  · rw [e, if_neg (show ¬ ¬ N 1 = (1 : Int32) from fun w => w rfl), if_pos (show N 1 = (1 : Int32) from rfl)]
    unfold t_X5_ifClosed_0
    dsimp only
    have hcs : canS x.1 x.2.1 x.2.2 47 0 := ⟨Or.inr (Or.inr (Or.inr (Or.inr (Or.inr (Or.inr rfl))))), fun z => absurd z (by decide), fun _ => by omega, fun z => absurd z (by decide)⟩
    have hst : stp T (S 1) (x.1, x.2.1, x.2.2) 47 0 = some (nxt T (S 1) x.1 (pd x.2.2 x.1 (eS T (x.2.2 x.1)))) := by
      unfold stp
      dsimp only
      rw [if_neg (by decide), if_neg (by omega), if_neg (by decide), if_pos (by decide)]
    obtain ⟨q1, q2, q3, q4⟩ := goes_ok hR hO hk hst
    rw [e] at q1 q2
    have q1 : RefAt (s_X5_goes (s_X5_goesOn (sg_up σ 35 0 0)) 47 0) T S (nxt T (S 1) 1 (pd x.2.2 1 (eS T (x.2.2 1)))).1 (nxt T (S 1) 1 (pd x.2.2 1 (eS T (x.2.2 1)))).2.1 (pd x.2.2 1 (eS T (x.2.2 1))) := q1
    have p0 := q2.2.2.2.1 0 (by decide)
    have p1 := q2.2.2.2.1 1 (by decide)
    have p0 : InnOK T (k + 1) (pd x.2.2 1 (eS T (x.2.2 1)) 0) := p0
    have p1 : InnOK T (k + 1) (pd x.2.2 1 (eS T (x.2.2 1)) 1) := p1
    have d0 : pd x.2.2 1 (eS T (x.2.2 1)) 0 = x.2.2 0 := pd_ne (by decide)
    have d1 : pd x.2.2 1 (eS T (x.2.2 1)) 1 = eS T (x.2.2 1) := pd_eq
    have f : ∀ j, ¬ j = 6 → ¬ j = 8 → eS T (x.2.2 1) j = x.2.2 1 j := fun j a b => by
      unfold eS
      rw [du_ne b, du_ne a]
    have f6 : eS T (x.2.2 1) 6 = 1 := by
      unfold eS
      rw [du_ne (by decide), du_eq]
    have fW : WL T (eS T (x.2.2 1)) = WL T (x.2.2 1) := by
      unfold WL
      rw [f 3 (by decide) (by decide), f 2 (by decide) (by decide), f 1 (by decide) (by decide)]
    have hl6 : x.2.2 1 6 = 0 := (hO.2.2.2.2.1 1 (by decide) (by omega)).2.2
    have hb : x.2.2 1 2 ≤ 120 := by have := h1.2.2.1; have := h1.2.1; omega
    have hr : x.2.2 1 0 ≤ 6 * k := h1.2.2.2.2.2.1
    have a9 : x.2.2 0 7 ≤ 30000 := h0.2.2.2.2.2.2.2.2.1
    have s2 : S 2 ≤ 20 := by
      obtain ⟨s1, s2, s3, s4, s5, s6, s7⟩ := id hA.2.2.2.1
      omega
    have hP0 := (q1.pic (i := 0) (by decide)).2.2.2.2.2.2.2.1
    have hP1 := q1.pic (i := 1) (by decide)
    rw [d0] at hP0
    unfold v_X0_outcome v_X5_resultNow
    rw [show v_X2_setting σ 2 = N (S 2) from setting_k (k := 2) hA.2.2.1 (by decide), hA.2.2.2.2.2.2.2 2 (by decide), chasTarget_eq hA hO.1 h0, hP0, hP1.2.2.2.2.2.2.1, hP1.2.2.1, q1.2.2.1 2 (by decide), d1, f6, f 2 (by decide) (by decide), show (6 : Int32) * N (S 2) = N (6 * S 2) from N_mul 6 _]
    by_cases hp : 0 < x.2.2 0 7 - x.2.2 0 8
    · rw [if_pos (show 0 < x.1 ∧ 0 < x.2.2 0 7 - x.2.2 0 8 from ⟨by omega, hp⟩), if_neg (show ¬ N (x.2.2 0 7 - x.2.2 0 8) = 0 from N_nz hp (by omega)), if_neg (show ¬ N 1 = (0 : Int32) by decide)]
      have hp' : 0 < pd x.2.2 1 (eS T (x.2.2 1)) 0 7 - pd x.2.2 1 (eS T (x.2.2 1)) 0 8 := by rw [d0]; exact hp
      have ea : aimN T S (pd x.2.2 1 (eS T (x.2.2 1))) = tgt T (S 1) (x.2.2 0 0) (x.2.2 0 7 - x.2.2 0 8) (x.2.2 1 7 - WL T (x.2.2 1)) - 1 := by
        unfold aimN
        rw [d1, f6, if_neg (by decide), d0, f 7 (by decide) (by decide), fW]
      have hlt := aimN_lt (k := k + 1) q1.2.1 q1.2.2.2.1 (by omega) p0 p1 hp'
      have era := raim_eq (k := k + 1) q1 (by omega) p0 p1 hp'
      have eo : v_X0_outcome_a44 σ 7 1 = v_X5_resultNow_a38 (s_X5_goes (s_X5_goesOn (sg_up σ 35 0 0)) 47 0) := by
        have e6 : σ (7 + 7) 6 = N 0 := by rw [hA.2.2.2.2.2.2.2 6 (by decide), hl6]
        have ew : v_X0_worthLeft σ 7 = N (WL T (x.2.2 1)) := by
          have := cworthLeft_eq hA (by omega) (hO.2.2.2.1 x.1 (by omega))
          rw [this, e]
        have elead : v_X0_leadOverTie σ 7 1 = N (x.2.2 1 0) - N (aimN T S (pd x.2.2 1 (eS T (x.2.2 1)))) := by
          unfold v_X0_leadOverTie
          rw [if_neg one_nz, e6, if_pos (show N 0 = (0 : Int32) from rfl), hA.2.2.2.2.2.2.2 0 (by decide), ew, cpar_eq hA (by omega) h0 h1 hp h1.2.2.2.2.2.2.2.1, ea]
          congr 1
          exact N_sub (b := 1) (tgt_pos _ _ _ _ _)
        unfold v_X0_outcome_a44 v_X5_resultNow_a38
        rw [elead, era, hP1.1, d1, f 0 (by decide) (by decide)]
        exact cmp3 (by omega) (by omega)
      rw [eo]
      by_cases g2 : N (6 * S 2) ≤ N (x.2.2 1 2)
      · rw [if_pos g2, if_pos g2, if_neg one_nz, if_neg one_nz, if_pos (show (0 : Int32) = 0 from rfl)]
      · rw [if_neg g2, if_neg g2, if_neg one_nz, if_neg one_nz, if_neg one_nz]
    · have ez : x.2.2 0 7 - x.2.2 0 8 = 0 := by omega
      rw [if_neg (show ¬ (0 < x.1 ∧ 0 < x.2.2 0 7 - x.2.2 0 8) from fun w => hp w.2), ez, if_pos (show N 0 = (0 : Int32) from rfl), if_pos (show (0 : Int32) = 0 from rfl)]
      split
      · rfl
      · rfl
  · have hn : ¬ N x.1 = (1 : Int32) := fun w => e ((N_eq (b := 1) (by have := hO.1; omega) (by decide)).mp w)
    rw [if_pos hn, if_neg hn]
end Closed
