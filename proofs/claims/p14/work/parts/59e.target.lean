/-! TARGET, PAR, PROJECTED, IFRUNS: both -/
section Targets
variable {σ τ : sg_S} {c : Nat} {T S : Nat → Nat} {k i t : Nat} {D : Nat → Nat → Nat}
theorem has5 (hR : RefAt τ T S i t D) (hi : i ≤ 2) (h0 : InnOK T k (D 0)) : v_X5_hasTarget τ = if 0 < i ∧ 0 < D 0 7 - D 0 8 then 1 else 0 := by
  have a9 : D 0 7 ≤ 30000 := h0.2.2.2.2.2.2.2.2.1
  unfold v_X5_hasTarget
  rw [hR.2.2.2.2.1, (hR.pic (i := 0) (by decide)).2.2.2.2.2.2.2.1]
  by_cases g1 : 0 < i
  · rw [if_neg (by exact g_nle (a := 0) g1 (by omega))]
    by_cases g2 : 0 < D 0 7 - D 0 8
    · rw [if_neg (by exact g_nle (a := 0) g2 (by omega)), if_pos ⟨g1, g2⟩]
    · rw [if_pos (by exact g_le (L := 0) (by omega) (by decide)), if_neg (fun z => g2 z.2)]
  · rw [if_pos (by exact g_le (L := 0) (by omega) (by decide)), if_neg (fun z => g1 z.1)]
theorem tgt_both (hA : CAt σ c T S i t D) (hR : RefAt τ T S i t D) (hi : i ≤ 2) (hk : k ≤ 401) (h0 : InnOK T k (D 0)) (h1 : InnOK T k (D 1)) : v_X0_theTarget σ c = (if v_X5_hasTarget τ = 0 then -1 else v_X5_theTarget τ) := by
  unfold v_X0_theTarget
  rw [chasTarget_eq hA hi h0, has5 hR hi h0]
  by_cases g : 0 < i ∧ 0 < D 0 7 - D 0 8
  · rw [if_pos g, if_neg one_nz, if_neg one_nz, ctheTarget_eq hA hk h0 h1 g.2, theTarget_eq hR hk h0 h1 g.2]
  · rw [if_neg g, if_pos rfl, if_pos rfl]
theorem cpar_eq {w : Nat} (hA : CAt σ c T S i t D) (hk : k ≤ 401) (h0 : InnOK T k (D 0)) (h1 : InnOK T k (D 1)) (hp : 0 < D 0 7 - D 0 8) (hw : w ≤ D 1 7) : v_X0_parWithout σ c (N w) = N (tgt T (S 1) (D 0 0) (D 0 7 - D 0 8) (D 1 7 - w)) - 1 := by
  obtain ⟨a1, a2, a3, a4, a5, a6, a7, a8, a9, a10⟩ := id h0
  obtain ⟨b1, b2, b3, b4, b5, b6, b7, b8, b9, b10⟩ := id h1
  unfold v_X0_parWithout
  rw [hA.2.2.2.2.2.2.1 0 (by decide), hA.2.2.2.2.2.2.2 7 (by decide), N_sub hw, ctargetBy_eq hA.1 hA.2.1 hA.2.2.1 hA.2.2.2.1 (cfirstPart_eq hA h0) hp (by omega) (by omega) (by omega)]
theorem rpar_eq (hR : RefAt τ T S i t D) (hk : k ≤ 401) (h0 : InnOK T k (D 0)) (h1 : InnOK T k (D 1)) (hp : 0 < D 0 7 - D 0 8) : v_X5_thePar τ (τ 41 0) = N (tgt T (S 1) (D 0 0) (D 0 7 - D 0 8) (D 1 7 - WL T (D 1))) - 1 := by
  obtain ⟨a1, a2, a3, a4, a5, a6, a7, a8, a9, a10⟩ := id h0
  obtain ⟨b1, b2, b3, b4, b5, b6, b7, b8, b9, b10⟩ := id h1
  have hP1 := hR.pic (i := 1) (by decide)
  unfold v_X5_thePar
  rw [second_eq hR.2.2.2.2.2.2.2 (InnOK_8 h1), show (1 : Int32) = N 1 from rfl, leftWorth_eq (i := 1) (by decide) hP1 hR.1 hR.2.1 b3 b2 b4, N_sub b8, (hR.pic (i := 0) (by decide)).1, target_eq hR.1 hR.2.1 hR.2.2.1 hR.2.2.2.1 (hR.pic (i := 0) (by decide)).2.2.2.2.2.2.2.1 hp (by omega) (by omega) (by omega)]
theorem par_both (hA : CAt σ c T S i t D) (hR : RefAt τ T S i t D) (hi : i ≤ 2) (hk : k ≤ 401) (h0 : InnOK T k (D 0)) (h1 : InnOK T k (D 1)) : v_X0_parNow σ c = v_X5_parNow τ := by
  unfold v_X0_parNow v_X5_parNow
  rw [chasTarget_eq hA hi h0, has5 hR hi h0, hA.2.2.2.2.1, hR.2.2.2.2.1]
  by_cases e1 : i = 1
  · subst e1
    rw [if_neg (show ¬ ¬ N 1 = (1 : Int32) from fun z => z rfl)]
    by_cases g : 0 < 1 ∧ 0 < D 0 7 - D 0 8
    · rw [if_pos g, if_neg one_nz, if_neg one_nz, if_neg (show ¬ ¬ N 1 = (1 : Int32) from fun z => z rfl), cworthLeft_eq hA (by decide) h1, cpar_eq hA hk h0 h1 g.2 h1.2.2.2.2.2.2.2.1, rpar_eq hR hk h0 h1 g.2]
    · rw [if_neg g, if_pos rfl, if_pos rfl]
  · have hn : ¬ N i = (1 : Int32) := by
      show ¬ N i = N 1
      rw [N_eq (by omega) (by decide)]; exact e1
    rw [if_pos hn, if_pos hn]
    split
    · rfl
    · rfl
end Targets
section Targets2
variable {σ : sg_S} {T S : Nat → Nat} {k t : Nat}
theorem both_target (h : Cpl σ T S k t) : v_X4_target σ = (r_X5_target σ).1 := by
  obtain ⟨x, -, -, hA, hO, hR, -⟩ := Cpl_x h
  have hk : k ≤ 401 := by have := h.1.1.2.1; omega
  have e := tgt_both hA hR hO.1 hk (hO.2.2.2.1 0 (by decide)) (hO.2.2.2.1 1 (by decide))
  unfold v_X4_target r_X5_target
  rw [e]
  split
  · rfl
  · rfl
theorem both_par (h : Cpl σ T S k t) : v_X4_par σ = (r_X5_par σ).1 := by
  obtain ⟨x, -, -, hA, hO, hR, -⟩ := Cpl_x h
  have hk : k ≤ 401 := by have := h.1.1.2.1; omega
  exact par_both hA hR hO.1 hk (hO.2.2.2.1 0 (by decide)) (hO.2.2.2.1 1 (by decide))
theorem both_projected (h : Cpl σ T S k t) : v_X4_projected σ = (r_X5_projected σ).1 := by
  obtain ⟨x, -, -, hA, hO, hR, -⟩ := Cpl_x h
  have h0 := hO.2.2.2.1 0 (by decide)
  unfold v_X4_projected r_X5_projected
  rw [hA.2.2.2.2.1, hR.2.2.2.2.1]
  by_cases e : x.1 = 0
  · have hL := hO.2.2.2.2.1 0 (by decide) (by omega)
    obtain ⟨a1, a2, a3, a4, a5, a6, a7, a8, a9, a10⟩ := id h0
    have h8 : x.2.2 0 8 = 0 := by
      rw [a10, if_neg (by have := hL.2.2; omega)]
    have hP := hR.pic (i := 0) (by decide)
    have e45 : (s_X5_goesOn (sg_up σ 35 0 0)) 45 0 = N (x.2.2 0 7) := by rw [hP.2.2.2.2.2.2.2.1, h8]; rfl
    have eW : v_X5_leftWorth (s_X5_goesOn (sg_up σ 35 0 0)) 0 = N (WL T (x.2.2 0)) := leftWorth_eq (i := 0) (by decide) hP hR.1 hR.2.1 a3 a2 a4
    have cW : v_X0_worthLeft σ 7 = N (WL T (x.2.2 0)) := by
      have := cworthLeft_eq hA (by omega) (hO.2.2.2.1 x.1 (by omega))
      rw [this, e]
    rw [e, if_neg (show ¬ ¬ N 0 = (0 : Int32) from fun z => z rfl), if_pos (show N 0 ≤ (0 : Int32) by decide)]
    unfold v_X0_projection
    rw [cW, hA.2.2.2.2.2.2.1 7 (by decide), hA.2.2.2.2.2.2.1 0 (by decide), e45, eW, hP.1, N_sub a8]
    by_cases g : x.2.2 0 7 - WL T (x.2.2 0) = 0
    · rw [g, if_pos (show N 0 ≤ (0 : Int32) by decide), if_neg (show ¬ ¬ N 0 = (0 : Int32) from fun z => z rfl)]
    · rw [if_neg (by exact g_nle (a := 0) (by omega) (by omega)), if_pos (N_nz (by omega) (by omega))]
  · have hi : x.1 ≤ 2 := hO.1
    rw [if_pos (show ¬ N x.1 = (0 : Int32) from N_nz (by omega) (by omega)), if_neg (by exact g_nle (a := 0) (by omega) (by omega))]
end Targets2
