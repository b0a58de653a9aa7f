abbrev rf (q : Nat) : ip_V Int32 := .inr (.inr (.inl (some q)))
theorem ix_lt {i n : Int32} {N : Nat} (h0 : ¬ i < 0) (h1 : ¬ n ≤ i) (hN : n.toInt = N) : i.toNatClampNeg < N := by
  rw [Int32.lt_iff_toInt_lt] at h0
  rw [Int32.le_iff_toInt_le] at h1
  have e0 : (0 : Int32).toInt = 0 := rfl
  rw [e0] at h0
  show i.toInt.toNat < N
  omega
theorem m_side0 {ro : List (List Int32)} {σ : sg_S} (c : Nat) (x0 : Int32) (hc : c = 7 ∨ c = 20) (hx : x0 = 0) : Rt ro 2 0 [some (rf c), some (.inl x0)] [] σ [rf (c + 1)] σ := by
  rcases hc with rfl | rfl
  all_goals
    refine rt_step rfl rfl rfl ?_
    refine rt_ifP rfl (fun h1 => ?_) (fun h1 => ?_)
    · exact absurd hx h1
    · refine rt_step rfl rfl rfl ?_
      refine rt_gf rfl (by decide) rfl (by decide) ?_
      refine rt_step rfl rfl rfl ?_
      exact rt_end rfl rfl rfl
theorem m_side1 {ro : List (List Int32)} {σ : sg_S} (c : Nat) (x0 : Int32) (hc : c = 7 ∨ c = 20) (hx : ¬ x0 = 0) : Rt ro 2 0 [some (rf c), some (.inl x0)] [] σ [rf (c + 7)] σ := by
  rcases hc with rfl | rfl
  all_goals
    refine rt_step rfl rfl rfl ?_
    refine rt_ifP rfl (fun h1 => ?_) (fun h1 => ?_)
    · refine rt_step rfl rfl rfl ?_
      refine rt_gf rfl (by decide) rfl (by decide) ?_
      exact rt_end rfl rfl rfl
    · exact absurd hx h1
def v_X0_admits (σ : sg_S) (c : Nat) (x0 : Int32) : Int32 := (if (2 : Int32) ≤ (σ c 3) then (0 : Int32) else (if ¬ x0 = (100 : Int32) then (1 : Int32) else (if (σ c 4) = 0 then (0 : Int32) else (1 : Int32))))
theorem m_X0_admits {ro : List (List Int32)} {σ : sg_S} (c : Nat) (x0 : Int32) (hc : c = 7 ∨ c = 20) : Rt ro 3 0 [some (rf c), some (.inl x0)] [] σ [.inl (v_X0_admits σ c x0)] σ := by
  unfold v_X0_admits
  rcases hc with rfl | rfl
  · refine rt_step rfl rfl rfl ?_
    refine rt_gf rfl (by decide) rfl (by decide) ?_
    refine rt_step rfl rfl rfl ?_
    refine rt_icP rfl (fun h5 => ?_) (fun h5 => ?_)
    · have h5 : (2 : Int32) ≤ (σ 7 3) := h5
      rw [if_pos h5]
      refine rt_step rfl rfl rfl ?_
      exact rt_end rfl rfl rfl
    · have h5 : ¬ ((2 : Int32) ≤ (σ 7 3)) := h5
      rw [if_neg h5]
      refine rt_step rfl rfl rfl ?_
      refine rt_step rfl rfl rfl ?_
      refine rt_icP rfl (fun h11 => ?_) (fun h11 => ?_)
      · have h11 : ¬ x0 = (100 : Int32) := h11
        rw [if_pos h11]
        refine rt_step rfl rfl rfl ?_
        refine rt_step rfl rfl rfl ?_
        exact rt_end rfl rfl rfl
      · have h11 : ¬ (¬ x0 = (100 : Int32)) := h11
        rw [if_neg h11]
        refine rt_step rfl rfl rfl ?_
        refine rt_gf rfl (by decide) rfl (by decide) ?_
        refine rt_ifP rfl (fun h18 => ?_) (fun h18 => ?_)
        · have h18 : (σ 7 4) = 0 := h18
          rw [if_pos h18]
          refine rt_step rfl rfl rfl ?_
          exact rt_end rfl rfl rfl
        · have h18 : ¬ ((σ 7 4) = 0) := h18
          rw [if_neg h18]
          refine rt_step rfl rfl rfl ?_
          refine rt_step rfl rfl rfl ?_
          exact rt_end rfl rfl rfl
  · refine rt_step rfl rfl rfl ?_
    refine rt_gf rfl (by decide) rfl (by decide) ?_
    refine rt_step rfl rfl rfl ?_
    refine rt_icP rfl (fun h5 => ?_) (fun h5 => ?_)
    · have h5 : (2 : Int32) ≤ (σ 20 3) := h5
      rw [if_pos h5]
      refine rt_step rfl rfl rfl ?_
      exact rt_end rfl rfl rfl
    · have h5 : ¬ ((2 : Int32) ≤ (σ 20 3)) := h5
      rw [if_neg h5]
      refine rt_step rfl rfl rfl ?_
      refine rt_step rfl rfl rfl ?_
      refine rt_icP rfl (fun h11 => ?_) (fun h11 => ?_)
      · have h11 : ¬ x0 = (100 : Int32) := h11
        rw [if_pos h11]
        refine rt_step rfl rfl rfl ?_
        refine rt_step rfl rfl rfl ?_
        exact rt_end rfl rfl rfl
      · have h11 : ¬ (¬ x0 = (100 : Int32)) := h11
        rw [if_neg h11]
        refine rt_step rfl rfl rfl ?_
        refine rt_gf rfl (by decide) rfl (by decide) ?_
        refine rt_ifP rfl (fun h18 => ?_) (fun h18 => ?_)
        · have h18 : (σ 20 4) = 0 := h18
          rw [if_pos h18]
          refine rt_step rfl rfl rfl ?_
          exact rt_end rfl rfl rfl
        · have h18 : ¬ ((σ 20 4) = 0) := h18
          rw [if_neg h18]
          refine rt_step rfl rfl rfl ?_
          refine rt_step rfl rfl rfl ?_
          exact rt_end rfl rfl rfl
def v_X0_fits (σ : sg_S) (c : Nat) (x0 : Int32) (x1 : Int32) : Int32 := (if x1 < (1 : Int32) then (0 : Int32) else (if x1 ≤ (20 : Int32) then (if ¬ x0 = (100 : Int32) then (if (σ c 3) = 0 then (if (σ (c + 1) 3) ≤ x1 then (0 : Int32) else (if ((6 : Int32) * x1) < (σ (c + 1) 2) then (0 : Int32) else (1 : Int32))) else (if (σ (c + 7) 3) ≤ x1 then (0 : Int32) else (if ((6 : Int32) * x1) < (σ (c + 7) 2) then (0 : Int32) else (1 : Int32)))) else (if (σ (c + 7) 3) ≤ x1 then (0 : Int32) else (1 : Int32))) else (0 : Int32)))
theorem m_X0_fits {ro : List (List Int32)} {σ : sg_S} (c : Nat) (x0 : Int32) (x1 : Int32) (hc : c = 7 ∨ c = 20) : Rt ro 4 0 [some (rf c), some (.inl x0), some (.inl x1), none] [] σ [.inl (v_X0_fits σ c x0 x1)] σ := by
  unfold v_X0_fits
  rcases hc with rfl | rfl
  · refine rt_step rfl rfl rfl ?_
    refine rt_step rfl rfl rfl ?_
    refine rt_icP rfl (fun h2 => ?_) (fun h2 => ?_)
    · have h2 : x1 < (1 : Int32) := h2
      rw [if_pos h2]
      refine rt_step rfl rfl rfl ?_
      exact rt_end rfl rfl rfl
    · have h2 : ¬ (x1 < (1 : Int32)) := h2
      rw [if_neg h2]
      refine rt_step rfl rfl rfl ?_
      refine rt_step rfl rfl rfl ?_
      refine rt_icP rfl (fun h8 => ?_) (fun h8 => ?_)
      · have h8 : x1 ≤ (20 : Int32) := h8
        rw [if_pos h8]
        refine rt_step rfl rfl rfl ?_
        refine rt_step rfl rfl rfl ?_
        refine rt_icP rfl (fun h16 => ?_) (fun h16 => ?_)
        · have h16 : ¬ x0 = (100 : Int32) := h16
          rw [if_pos h16]
          refine rt_step rfl rfl rfl ?_
          refine rt_step rfl rfl rfl ?_
          refine rt_gf rfl (by decide) rfl (by decide) ?_
          by_cases h41 : (σ 7 3) = 0
          · rw [if_pos h41]
            refine rt_call rfl rfl rfl rfl (m_side0 7 (σ 7 3) (by decide) h41) rfl rfl rfl rfl rfl ?_
            refine rt_step rfl rfl rfl ?_
            refine rt_step rfl rfl rfl ?_
            refine rt_step rfl rfl rfl ?_
            refine rt_gf rfl (by decide) rfl (by decide) ?_
            refine rt_icP rfl (fun h50 => ?_) (fun h50 => ?_)
            · have h50 : (σ (7 + 1) 3) ≤ x1 := h50
              rw [if_pos h50]
              refine rt_step rfl rfl rfl ?_
              exact rt_end rfl rfl rfl
            · have h50 : ¬ ((σ (7 + 1) 3) ≤ x1) := h50
              rw [if_neg h50]
              refine rt_step rfl rfl rfl ?_
              refine rt_step rfl rfl rfl ?_
              refine rt_step rfl rfl rfl ?_
              refine rt_step rfl rfl rfl ?_
              refine rt_gf rfl (by decide) rfl (by decide) ?_
              refine rt_icP rfl (fun h61 => ?_) (fun h61 => ?_)
              · have h61 : ((6 : Int32) * x1) < (σ (7 + 1) 2) := h61
                rw [if_pos h61]
                refine rt_step rfl rfl rfl ?_
                exact rt_end rfl rfl rfl
              · have h61 : ¬ (((6 : Int32) * x1) < (σ (7 + 1) 2)) := h61
                rw [if_neg h61]
                refine rt_step rfl rfl rfl ?_
                refine rt_step rfl rfl rfl ?_
                exact rt_end rfl rfl rfl
          · rw [if_neg h41]
            refine rt_call rfl rfl rfl rfl (m_side1 7 (σ 7 3) (by decide) h41) rfl rfl rfl rfl rfl ?_
            refine rt_step rfl rfl rfl ?_
            refine rt_step rfl rfl rfl ?_
            refine rt_step rfl rfl rfl ?_
            refine rt_gf rfl (by decide) rfl (by decide) ?_
            refine rt_icP rfl (fun h50 => ?_) (fun h50 => ?_)
            · have h50 : (σ (7 + 7) 3) ≤ x1 := h50
              rw [if_pos h50]
              refine rt_step rfl rfl rfl ?_
              exact rt_end rfl rfl rfl
            · have h50 : ¬ ((σ (7 + 7) 3) ≤ x1) := h50
              rw [if_neg h50]
              refine rt_step rfl rfl rfl ?_
              refine rt_step rfl rfl rfl ?_
              refine rt_step rfl rfl rfl ?_
              refine rt_step rfl rfl rfl ?_
              refine rt_gf rfl (by decide) rfl (by decide) ?_
              refine rt_icP rfl (fun h61 => ?_) (fun h61 => ?_)
              · have h61 : ((6 : Int32) * x1) < (σ (7 + 7) 2) := h61
                rw [if_pos h61]
                refine rt_step rfl rfl rfl ?_
                exact rt_end rfl rfl rfl
              · have h61 : ¬ (((6 : Int32) * x1) < (σ (7 + 7) 2)) := h61
                rw [if_neg h61]
                refine rt_step rfl rfl rfl ?_
                refine rt_step rfl rfl rfl ?_
                exact rt_end rfl rfl rfl
        · have h16 : ¬ (¬ x0 = (100 : Int32)) := h16
          rw [if_neg h16]
          refine rt_step rfl rfl rfl ?_
          refine rt_step rfl rfl rfl ?_
          refine rt_gf rfl (by decide) rfl (by decide) ?_
          refine rt_gf rfl (by decide) rfl (by decide) ?_
          refine rt_icP rfl (fun h27 => ?_) (fun h27 => ?_)
          · have h27 : (σ (7 + 7) 3) ≤ x1 := h27
            rw [if_pos h27]
            refine rt_step rfl rfl rfl ?_
            exact rt_end rfl rfl rfl
          · have h27 : ¬ ((σ (7 + 7) 3) ≤ x1) := h27
            rw [if_neg h27]
            refine rt_step rfl rfl rfl ?_
            refine rt_step rfl rfl rfl ?_
            exact rt_end rfl rfl rfl
      · have h8 : ¬ (x1 ≤ (20 : Int32)) := h8
        rw [if_neg h8]
        refine rt_step rfl rfl rfl ?_
        exact rt_end rfl rfl rfl
  · refine rt_step rfl rfl rfl ?_
    refine rt_step rfl rfl rfl ?_
    refine rt_icP rfl (fun h2 => ?_) (fun h2 => ?_)
    · have h2 : x1 < (1 : Int32) := h2
      rw [if_pos h2]
      refine rt_step rfl rfl rfl ?_
      exact rt_end rfl rfl rfl
    · have h2 : ¬ (x1 < (1 : Int32)) := h2
      rw [if_neg h2]
      refine rt_step rfl rfl rfl ?_
      refine rt_step rfl rfl rfl ?_
      refine rt_icP rfl (fun h8 => ?_) (fun h8 => ?_)
      · have h8 : x1 ≤ (20 : Int32) := h8
        rw [if_pos h8]
        refine rt_step rfl rfl rfl ?_
        refine rt_step rfl rfl rfl ?_
        refine rt_icP rfl (fun h16 => ?_) (fun h16 => ?_)
        · have h16 : ¬ x0 = (100 : Int32) := h16
          rw [if_pos h16]
          refine rt_step rfl rfl rfl ?_
          refine rt_step rfl rfl rfl ?_
          refine rt_gf rfl (by decide) rfl (by decide) ?_
          by_cases h41 : (σ 20 3) = 0
          · rw [if_pos h41]
            refine rt_call rfl rfl rfl rfl (m_side0 20 (σ 20 3) (by decide) h41) rfl rfl rfl rfl rfl ?_
            refine rt_step rfl rfl rfl ?_
            refine rt_step rfl rfl rfl ?_
            refine rt_step rfl rfl rfl ?_
            refine rt_gf rfl (by decide) rfl (by decide) ?_
            refine rt_icP rfl (fun h50 => ?_) (fun h50 => ?_)
            · have h50 : (σ (20 + 1) 3) ≤ x1 := h50
              rw [if_pos h50]
              refine rt_step rfl rfl rfl ?_
              exact rt_end rfl rfl rfl
            · have h50 : ¬ ((σ (20 + 1) 3) ≤ x1) := h50
              rw [if_neg h50]
              refine rt_step rfl rfl rfl ?_
              refine rt_step rfl rfl rfl ?_
              refine rt_step rfl rfl rfl ?_
              refine rt_step rfl rfl rfl ?_
              refine rt_gf rfl (by decide) rfl (by decide) ?_
              refine rt_icP rfl (fun h61 => ?_) (fun h61 => ?_)
              · have h61 : ((6 : Int32) * x1) < (σ (20 + 1) 2) := h61
                rw [if_pos h61]
                refine rt_step rfl rfl rfl ?_
                exact rt_end rfl rfl rfl
              · have h61 : ¬ (((6 : Int32) * x1) < (σ (20 + 1) 2)) := h61
                rw [if_neg h61]
                refine rt_step rfl rfl rfl ?_
                refine rt_step rfl rfl rfl ?_
                exact rt_end rfl rfl rfl
          · rw [if_neg h41]
            refine rt_call rfl rfl rfl rfl (m_side1 20 (σ 20 3) (by decide) h41) rfl rfl rfl rfl rfl ?_
            refine rt_step rfl rfl rfl ?_
            refine rt_step rfl rfl rfl ?_
            refine rt_step rfl rfl rfl ?_
            refine rt_gf rfl (by decide) rfl (by decide) ?_
            refine rt_icP rfl (fun h50 => ?_) (fun h50 => ?_)
            · have h50 : (σ (20 + 7) 3) ≤ x1 := h50
              rw [if_pos h50]
              refine rt_step rfl rfl rfl ?_
              exact rt_end rfl rfl rfl
            · have h50 : ¬ ((σ (20 + 7) 3) ≤ x1) := h50
              rw [if_neg h50]
              refine rt_step rfl rfl rfl ?_
              refine rt_step rfl rfl rfl ?_
              refine rt_step rfl rfl rfl ?_
              refine rt_step rfl rfl rfl ?_
              refine rt_gf rfl (by decide) rfl (by decide) ?_
              refine rt_icP rfl (fun h61 => ?_) (fun h61 => ?_)
              · have h61 : ((6 : Int32) * x1) < (σ (20 + 7) 2) := h61
                rw [if_pos h61]
                refine rt_step rfl rfl rfl ?_
                exact rt_end rfl rfl rfl
              · have h61 : ¬ (((6 : Int32) * x1) < (σ (20 + 7) 2)) := h61
                rw [if_neg h61]
                refine rt_step rfl rfl rfl ?_
                refine rt_step rfl rfl rfl ?_
                exact rt_end rfl rfl rfl
        · have h16 : ¬ (¬ x0 = (100 : Int32)) := h16
          rw [if_neg h16]
          refine rt_step rfl rfl rfl ?_
          refine rt_step rfl rfl rfl ?_
          refine rt_gf rfl (by decide) rfl (by decide) ?_
          refine rt_gf rfl (by decide) rfl (by decide) ?_
          refine rt_icP rfl (fun h27 => ?_) (fun h27 => ?_)
          · have h27 : (σ (20 + 7) 3) ≤ x1 := h27
            rw [if_pos h27]
            refine rt_step rfl rfl rfl ?_
            exact rt_end rfl rfl rfl
          · have h27 : ¬ ((σ (20 + 7) 3) ≤ x1) := h27
            rw [if_neg h27]
            refine rt_step rfl rfl rfl ?_
            refine rt_step rfl rfl rfl ?_
            exact rt_end rfl rfl rfl
      · have h8 : ¬ (x1 ≤ (20 : Int32)) := h8
        rw [if_neg h8]
        refine rt_step rfl rfl rfl ?_
        exact rt_end rfl rfl rfl
def v_X0_ballsLeft (σ : sg_S) (c : Nat) (x0 : Int32) : Int32 := (if x0 = 0 then (if (σ c 3) ≤ x0 then (((6 : Int32) * (σ (c + 1) 3)) - (σ (c + 1) 2)) else (0 : Int32)) else (if (σ c 3) ≤ x0 then (((6 : Int32) * (σ (c + 7) 3)) - (σ (c + 7) 2)) else (0 : Int32)))
theorem m_X0_ballsLeft {ro : List (List Int32)} {σ : sg_S} (c : Nat) (x0 : Int32) (hc : c = 7 ∨ c = 20) : Rt ro 7 0 [some (rf c), some (.inl x0), none] [] σ [.inl (v_X0_ballsLeft σ c x0)] σ := by
  unfold v_X0_ballsLeft
  rcases hc with rfl | rfl
  · refine rt_step rfl rfl rfl ?_
    refine rt_step rfl rfl rfl ?_
    by_cases h2 : x0 = 0
    · rw [if_pos h2]
      refine rt_call rfl rfl rfl rfl (m_side0 7 x0 (by decide) h2) rfl rfl rfl rfl rfl ?_
      refine rt_step rfl rfl rfl ?_
      refine rt_step rfl rfl rfl ?_
      refine rt_step rfl rfl rfl ?_
      refine rt_gf rfl (by decide) rfl (by decide) ?_
      refine rt_icP rfl (fun h11 => ?_) (fun h11 => ?_)
      · have h11 : (σ 7 3) ≤ x0 := h11
        rw [if_pos h11]
        refine rt_step rfl rfl rfl ?_
        refine rt_step rfl rfl rfl ?_
        refine rt_gf rfl (by decide) rfl (by decide) ?_
        refine rt_step rfl rfl rfl ?_
        refine rt_step rfl rfl rfl ?_
        refine rt_gf rfl (by decide) rfl (by decide) ?_
        refine rt_step rfl rfl rfl ?_
        exact rt_end rfl rfl rfl
      · have h11 : ¬ ((σ 7 3) ≤ x0) := h11
        rw [if_neg h11]
        refine rt_step rfl rfl rfl ?_
        refine rt_step rfl rfl rfl ?_
        exact rt_end rfl rfl rfl
    · rw [if_neg h2]
      refine rt_call rfl rfl rfl rfl (m_side1 7 x0 (by decide) h2) rfl rfl rfl rfl rfl ?_
      refine rt_step rfl rfl rfl ?_
      refine rt_step rfl rfl rfl ?_
      refine rt_step rfl rfl rfl ?_
      refine rt_gf rfl (by decide) rfl (by decide) ?_
      refine rt_icP rfl (fun h11 => ?_) (fun h11 => ?_)
      · have h11 : (σ 7 3) ≤ x0 := h11
        rw [if_pos h11]
        refine rt_step rfl rfl rfl ?_
        refine rt_step rfl rfl rfl ?_
        refine rt_gf rfl (by decide) rfl (by decide) ?_
        refine rt_step rfl rfl rfl ?_
        refine rt_step rfl rfl rfl ?_
        refine rt_gf rfl (by decide) rfl (by decide) ?_
        refine rt_step rfl rfl rfl ?_
        exact rt_end rfl rfl rfl
      · have h11 : ¬ ((σ 7 3) ≤ x0) := h11
        rw [if_neg h11]
        refine rt_step rfl rfl rfl ?_
        refine rt_step rfl rfl rfl ?_
        exact rt_end rfl rfl rfl
  · refine rt_step rfl rfl rfl ?_
    refine rt_step rfl rfl rfl ?_
    by_cases h2 : x0 = 0
    · rw [if_pos h2]
      refine rt_call rfl rfl rfl rfl (m_side0 20 x0 (by decide) h2) rfl rfl rfl rfl rfl ?_
      refine rt_step rfl rfl rfl ?_
      refine rt_step rfl rfl rfl ?_
      refine rt_step rfl rfl rfl ?_
      refine rt_gf rfl (by decide) rfl (by decide) ?_
      refine rt_icP rfl (fun h11 => ?_) (fun h11 => ?_)
      · have h11 : (σ 20 3) ≤ x0 := h11
        rw [if_pos h11]
        refine rt_step rfl rfl rfl ?_
        refine rt_step rfl rfl rfl ?_
        refine rt_gf rfl (by decide) rfl (by decide) ?_
        refine rt_step rfl rfl rfl ?_
        refine rt_step rfl rfl rfl ?_
        refine rt_gf rfl (by decide) rfl (by decide) ?_
        refine rt_step rfl rfl rfl ?_
        exact rt_end rfl rfl rfl
      · have h11 : ¬ ((σ 20 3) ≤ x0) := h11
        rw [if_neg h11]
        refine rt_step rfl rfl rfl ?_
        refine rt_step rfl rfl rfl ?_
        exact rt_end rfl rfl rfl
    · rw [if_neg h2]
      refine rt_call rfl rfl rfl rfl (m_side1 20 x0 (by decide) h2) rfl rfl rfl rfl rfl ?_
      refine rt_step rfl rfl rfl ?_
      refine rt_step rfl rfl rfl ?_
      refine rt_step rfl rfl rfl ?_
      refine rt_gf rfl (by decide) rfl (by decide) ?_
      refine rt_icP rfl (fun h11 => ?_) (fun h11 => ?_)
      · have h11 : (σ 20 3) ≤ x0 := h11
        rw [if_pos h11]
        refine rt_step rfl rfl rfl ?_
        refine rt_step rfl rfl rfl ?_
        refine rt_gf rfl (by decide) rfl (by decide) ?_
        refine rt_step rfl rfl rfl ?_
        refine rt_step rfl rfl rfl ?_
        refine rt_gf rfl (by decide) rfl (by decide) ?_
        refine rt_step rfl rfl rfl ?_
        exact rt_end rfl rfl rfl
      · have h11 : ¬ ((σ 20 3) ≤ x0) := h11
        rw [if_neg h11]
        refine rt_step rfl rfl rfl ?_
        refine rt_step rfl rfl rfl ?_
        exact rt_end rfl rfl rfl
def v_X0_firstPart (σ : sg_S) (c : Nat) : Int32 := ((σ (c + 1) 7) - (σ (c + 1) 8))
theorem m_X0_firstPart {ro : List (List Int32)} {σ : sg_S} (c : Nat) (hc : c = 7 ∨ c = 20) : Rt ro 12 0 [some (rf c)] [] σ [.inl (v_X0_firstPart σ c)] σ := by
  unfold v_X0_firstPart
  rcases hc with rfl | rfl
  · refine rt_step rfl rfl rfl ?_
    refine rt_gf rfl (by decide) rfl (by decide) ?_
    refine rt_gf rfl (by decide) rfl (by decide) ?_
    refine rt_step rfl rfl rfl ?_
    refine rt_gf rfl (by decide) rfl (by decide) ?_
    refine rt_gf rfl (by decide) rfl (by decide) ?_
    refine rt_step rfl rfl rfl ?_
    exact rt_end rfl rfl rfl
  · refine rt_step rfl rfl rfl ?_
    refine rt_gf rfl (by decide) rfl (by decide) ?_
    refine rt_gf rfl (by decide) rfl (by decide) ?_
    refine rt_step rfl rfl rfl ?_
    refine rt_gf rfl (by decide) rfl (by decide) ?_
    refine rt_gf rfl (by decide) rfl (by decide) ?_
    refine rt_step rfl rfl rfl ?_
    exact rt_end rfl rfl rfl
def v_X0_hasTarget (σ : sg_S) (c : Nat) : Int32 := (if (σ c 3) ≤ 0 then (0 : Int32) else (if (v_X0_firstPart σ c) ≤ 0 then (0 : Int32) else (1 : Int32)))
theorem m_X0_hasTarget {ro : List (List Int32)} {σ : sg_S} (c : Nat) (hc : c = 7 ∨ c = 20) : Rt ro 13 0 [some (rf c)] [] σ [.inl (v_X0_hasTarget σ c)] σ := by
  unfold v_X0_hasTarget
  rcases hc with rfl | rfl
  · refine rt_step rfl rfl rfl ?_
    refine rt_gf rfl (by decide) rfl (by decide) ?_
    refine rt_ifP rfl (fun h4 => ?_) (fun h4 => ?_)
    · have h4 : (σ 7 3) ≤ 0 := h4
      rw [if_pos h4]
      refine rt_step rfl rfl rfl ?_
      exact rt_end rfl rfl rfl
    · have h4 : ¬ ((σ 7 3) ≤ 0) := h4
      rw [if_neg h4]
      refine rt_step rfl rfl rfl ?_
      refine rt_call rfl rfl rfl rfl (m_X0_firstPart (7) (by decide)) rfl rfl rfl rfl rfl ?_
      refine rt_ifP rfl (fun h11 => ?_) (fun h11 => ?_)
      · have h11 : (v_X0_firstPart σ 7) ≤ 0 := h11
        rw [if_pos h11]
        refine rt_step rfl rfl rfl ?_
        exact rt_end rfl rfl rfl
      · have h11 : ¬ ((v_X0_firstPart σ 7) ≤ 0) := h11
        rw [if_neg h11]
        refine rt_step rfl rfl rfl ?_
        refine rt_step rfl rfl rfl ?_
        exact rt_end rfl rfl rfl
  · refine rt_step rfl rfl rfl ?_
    refine rt_gf rfl (by decide) rfl (by decide) ?_
    refine rt_ifP rfl (fun h4 => ?_) (fun h4 => ?_)
    · have h4 : (σ 20 3) ≤ 0 := h4
      rw [if_pos h4]
      refine rt_step rfl rfl rfl ?_
      exact rt_end rfl rfl rfl
    · have h4 : ¬ ((σ 20 3) ≤ 0) := h4
      rw [if_neg h4]
      refine rt_step rfl rfl rfl ?_
      refine rt_call rfl rfl rfl rfl (m_X0_firstPart (20) (by decide)) rfl rfl rfl rfl rfl ?_
      refine rt_ifP rfl (fun h11 => ?_) (fun h11 => ?_)
      · have h11 : (v_X0_firstPart σ 20) ≤ 0 := h11
        rw [if_pos h11]
        refine rt_step rfl rfl rfl ?_
        exact rt_end rfl rfl rfl
      · have h11 : ¬ ((v_X0_firstPart σ 20) ≤ 0) := h11
        rw [if_neg h11]
        refine rt_step rfl rfl rfl ?_
        refine rt_step rfl rfl rfl ?_
        exact rt_end rfl rfl rfl
def s_X1_beginWith (σ : sg_S) (q : Nat) (x0 : Int32) (x1 : Int32) : sg_S := (sg_up (sg_up σ q 3 x0) q 7 x1)
theorem m_X1_beginWith {ro : List (List Int32)} {σ : sg_S} (q : Nat) (x0 : Int32) (x1 : Int32) (hq : q = 8 ∨ q = 14 ∨ q = 21 ∨ q = 27) : Rt ro 26 0 [some (rf q), some (.inl x0), some (.inl x1)] [] σ [] (s_X1_beginWith σ q x0 x1) := by
  unfold s_X1_beginWith
  rcases hq with rfl | rfl | rfl | rfl
  · refine rt_step rfl rfl rfl ?_
    refine rt_step rfl rfl rfl ?_
    refine rt_pf rfl (by decide) rfl (by decide) (by decide) rfl ?_
    refine rt_step rfl rfl rfl ?_
    refine rt_step rfl rfl rfl ?_
    refine rt_pf rfl (by decide) rfl (by decide) (by decide) rfl ?_
    exact rt_end rfl rfl rfl
  · refine rt_step rfl rfl rfl ?_
    refine rt_step rfl rfl rfl ?_
    refine rt_pf rfl (by decide) rfl (by decide) (by decide) rfl ?_
    refine rt_step rfl rfl rfl ?_
    refine rt_step rfl rfl rfl ?_
    refine rt_pf rfl (by decide) rfl (by decide) (by decide) rfl ?_
    exact rt_end rfl rfl rfl
  · refine rt_step rfl rfl rfl ?_
    refine rt_step rfl rfl rfl ?_
    refine rt_pf rfl (by decide) rfl (by decide) (by decide) rfl ?_
    refine rt_step rfl rfl rfl ?_
    refine rt_step rfl rfl rfl ?_
    refine rt_pf rfl (by decide) rfl (by decide) (by decide) rfl ?_
    exact rt_end rfl rfl rfl
  · refine rt_step rfl rfl rfl ?_
    refine rt_step rfl rfl rfl ?_
    refine rt_pf rfl (by decide) rfl (by decide) (by decide) rfl ?_
    refine rt_step rfl rfl rfl ?_
    refine rt_step rfl rfl rfl ?_
    refine rt_pf rfl (by decide) rfl (by decide) (by decide) rfl ?_
    exact rt_end rfl rfl rfl
def s_X1_addClose (σ : sg_S) (q : Nat) (x0 : Int32) : sg_S := (sg_up (sg_up σ q 6 (1 : Int32)) q 8 x0)
theorem m_X1_addClose {ro : List (List Int32)} {σ : sg_S} (q : Nat) (x0 : Int32) (hq : q = 8 ∨ q = 14 ∨ q = 21 ∨ q = 27) : Rt ro 32 0 [some (rf q), some (.inl x0)] [] σ [] (s_X1_addClose σ q x0) := by
  unfold s_X1_addClose
  rcases hq with rfl | rfl | rfl | rfl
  · refine rt_step rfl rfl rfl ?_
    refine rt_step rfl rfl rfl ?_
    refine rt_pz rfl (Or.inr rfl) (by decide) rfl (by decide) (by decide) rfl ?_
    refine rt_step rfl rfl rfl ?_
    refine rt_step rfl rfl rfl ?_
    refine rt_pf rfl (by decide) rfl (by decide) (by decide) rfl ?_
    exact rt_end rfl rfl rfl
  · refine rt_step rfl rfl rfl ?_
    refine rt_step rfl rfl rfl ?_
    refine rt_pz rfl (Or.inr rfl) (by decide) rfl (by decide) (by decide) rfl ?_
    refine rt_step rfl rfl rfl ?_
    refine rt_step rfl rfl rfl ?_
    refine rt_pf rfl (by decide) rfl (by decide) (by decide) rfl ?_
    exact rt_end rfl rfl rfl
  · refine rt_step rfl rfl rfl ?_
    refine rt_step rfl rfl rfl ?_
    refine rt_pz rfl (Or.inr rfl) (by decide) rfl (by decide) (by decide) rfl ?_
    refine rt_step rfl rfl rfl ?_
    refine rt_step rfl rfl rfl ?_
    refine rt_pf rfl (by decide) rfl (by decide) (by decide) rfl ?_
    exact rt_end rfl rfl rfl
  · refine rt_step rfl rfl rfl ?_
    refine rt_step rfl rfl rfl ?_
    refine rt_pz rfl (Or.inr rfl) (by decide) rfl (by decide) (by decide) rfl ?_
    refine rt_step rfl rfl rfl ?_
    refine rt_step rfl rfl rfl ?_
    refine rt_pf rfl (by decide) rfl (by decide) (by decide) rfl ?_
    exact rt_end rfl rfl rfl
def v_X1_isWorn (σ : sg_S) (q : Nat) : Int32 := (if ¬ (σ q 6) = 0 then (1 : Int32) else (if (10 : Int32) ≤ (σ q 1) then (1 : Int32) else (if (σ q 2) < ((6 : Int32) * (σ q 3)) then (0 : Int32) else (1 : Int32))))
theorem m_X1_isWorn {ro : List (List Int32)} {σ : sg_S} (q : Nat) (hq : q = 8 ∨ q = 14 ∨ q = 21 ∨ q = 27) : Rt ro 33 0 [some (rf q)] [] σ [.inl (v_X1_isWorn σ q)] σ := by
  unfold v_X1_isWorn
  rcases hq with rfl | rfl | rfl | rfl
  · refine rt_step rfl rfl rfl ?_
    refine rt_gf rfl (by decide) rfl (by decide) ?_
    refine rt_ifP rfl (fun h4 => ?_) (fun h4 => ?_)
    · have h4 : ¬ (σ 8 6) = 0 := h4
      rw [if_pos h4]
      refine rt_step rfl rfl rfl ?_
      refine rt_step rfl rfl rfl ?_
      exact rt_end rfl rfl rfl
    · have h4 : ¬ (¬ (σ 8 6) = 0) := h4
      rw [if_neg h4]
      refine rt_step rfl rfl rfl ?_
      refine rt_gf rfl (by decide) rfl (by decide) ?_
      refine rt_step rfl rfl rfl ?_
      refine rt_icP rfl (fun h13 => ?_) (fun h13 => ?_)
      · have h13 : (10 : Int32) ≤ (σ 8 1) := h13
        rw [if_pos h13]
        refine rt_step rfl rfl rfl ?_
        refine rt_step rfl rfl rfl ?_
        exact rt_end rfl rfl rfl
      · have h13 : ¬ ((10 : Int32) ≤ (σ 8 1)) := h13
        rw [if_neg h13]
        refine rt_step rfl rfl rfl ?_
        refine rt_gf rfl (by decide) rfl (by decide) ?_
        refine rt_step rfl rfl rfl ?_
        refine rt_step rfl rfl rfl ?_
        refine rt_gf rfl (by decide) rfl (by decide) ?_
        refine rt_step rfl rfl rfl ?_
        refine rt_icP rfl (fun h27 => ?_) (fun h27 => ?_)
        · have h27 : (σ 8 2) < ((6 : Int32) * (σ 8 3)) := h27
          rw [if_pos h27]
          refine rt_step rfl rfl rfl ?_
          exact rt_end rfl rfl rfl
        · have h27 : ¬ ((σ 8 2) < ((6 : Int32) * (σ 8 3))) := h27
          rw [if_neg h27]
          refine rt_step rfl rfl rfl ?_
          refine rt_step rfl rfl rfl ?_
          exact rt_end rfl rfl rfl
  · refine rt_step rfl rfl rfl ?_
    refine rt_gf rfl (by decide) rfl (by decide) ?_
    refine rt_ifP rfl (fun h4 => ?_) (fun h4 => ?_)
    · have h4 : ¬ (σ 14 6) = 0 := h4
      rw [if_pos h4]
      refine rt_step rfl rfl rfl ?_
      refine rt_step rfl rfl rfl ?_
      exact rt_end rfl rfl rfl
    · have h4 : ¬ (¬ (σ 14 6) = 0) := h4
      rw [if_neg h4]
      refine rt_step rfl rfl rfl ?_
      refine rt_gf rfl (by decide) rfl (by decide) ?_
      refine rt_step rfl rfl rfl ?_
      refine rt_icP rfl (fun h13 => ?_) (fun h13 => ?_)
      · have h13 : (10 : Int32) ≤ (σ 14 1) := h13
        rw [if_pos h13]
        refine rt_step rfl rfl rfl ?_
        refine rt_step rfl rfl rfl ?_
        exact rt_end rfl rfl rfl
      · have h13 : ¬ ((10 : Int32) ≤ (σ 14 1)) := h13
        rw [if_neg h13]
        refine rt_step rfl rfl rfl ?_
        refine rt_gf rfl (by decide) rfl (by decide) ?_
        refine rt_step rfl rfl rfl ?_
        refine rt_step rfl rfl rfl ?_
        refine rt_gf rfl (by decide) rfl (by decide) ?_
        refine rt_step rfl rfl rfl ?_
        refine rt_icP rfl (fun h27 => ?_) (fun h27 => ?_)
        · have h27 : (σ 14 2) < ((6 : Int32) * (σ 14 3)) := h27
          rw [if_pos h27]
          refine rt_step rfl rfl rfl ?_
          exact rt_end rfl rfl rfl
        · have h27 : ¬ ((σ 14 2) < ((6 : Int32) * (σ 14 3))) := h27
          rw [if_neg h27]
          refine rt_step rfl rfl rfl ?_
          refine rt_step rfl rfl rfl ?_
          exact rt_end rfl rfl rfl
  · refine rt_step rfl rfl rfl ?_
    refine rt_gf rfl (by decide) rfl (by decide) ?_
    refine rt_ifP rfl (fun h4 => ?_) (fun h4 => ?_)
    · have h4 : ¬ (σ 21 6) = 0 := h4
      rw [if_pos h4]
      refine rt_step rfl rfl rfl ?_
      refine rt_step rfl rfl rfl ?_
      exact rt_end rfl rfl rfl
    · have h4 : ¬ (¬ (σ 21 6) = 0) := h4
      rw [if_neg h4]
      refine rt_step rfl rfl rfl ?_
      refine rt_gf rfl (by decide) rfl (by decide) ?_
      refine rt_step rfl rfl rfl ?_
      refine rt_icP rfl (fun h13 => ?_) (fun h13 => ?_)
      · have h13 : (10 : Int32) ≤ (σ 21 1) := h13
        rw [if_pos h13]
        refine rt_step rfl rfl rfl ?_
        refine rt_step rfl rfl rfl ?_
        exact rt_end rfl rfl rfl
      · have h13 : ¬ ((10 : Int32) ≤ (σ 21 1)) := h13
        rw [if_neg h13]
        refine rt_step rfl rfl rfl ?_
        refine rt_gf rfl (by decide) rfl (by decide) ?_
        refine rt_step rfl rfl rfl ?_
        refine rt_step rfl rfl rfl ?_
        refine rt_gf rfl (by decide) rfl (by decide) ?_
        refine rt_step rfl rfl rfl ?_
        refine rt_icP rfl (fun h27 => ?_) (fun h27 => ?_)
        · have h27 : (σ 21 2) < ((6 : Int32) * (σ 21 3)) := h27
          rw [if_pos h27]
          refine rt_step rfl rfl rfl ?_
          exact rt_end rfl rfl rfl
        · have h27 : ¬ ((σ 21 2) < ((6 : Int32) * (σ 21 3))) := h27
          rw [if_neg h27]
          refine rt_step rfl rfl rfl ?_
          refine rt_step rfl rfl rfl ?_
          exact rt_end rfl rfl rfl
  · refine rt_step rfl rfl rfl ?_
    refine rt_gf rfl (by decide) rfl (by decide) ?_
    refine rt_ifP rfl (fun h4 => ?_) (fun h4 => ?_)
    · have h4 : ¬ (σ 27 6) = 0 := h4
      rw [if_pos h4]
      refine rt_step rfl rfl rfl ?_
      refine rt_step rfl rfl rfl ?_
      exact rt_end rfl rfl rfl
    · have h4 : ¬ (¬ (σ 27 6) = 0) := h4
      rw [if_neg h4]
      refine rt_step rfl rfl rfl ?_
      refine rt_gf rfl (by decide) rfl (by decide) ?_
      refine rt_step rfl rfl rfl ?_
      refine rt_icP rfl (fun h13 => ?_) (fun h13 => ?_)
      · have h13 : (10 : Int32) ≤ (σ 27 1) := h13
        rw [if_pos h13]
        refine rt_step rfl rfl rfl ?_
        refine rt_step rfl rfl rfl ?_
        exact rt_end rfl rfl rfl
      · have h13 : ¬ ((10 : Int32) ≤ (σ 27 1)) := h13
        rw [if_neg h13]
        refine rt_step rfl rfl rfl ?_
        refine rt_gf rfl (by decide) rfl (by decide) ?_
        refine rt_step rfl rfl rfl ?_
        refine rt_step rfl rfl rfl ?_
        refine rt_gf rfl (by decide) rfl (by decide) ?_
        refine rt_step rfl rfl rfl ?_
        refine rt_icP rfl (fun h27 => ?_) (fun h27 => ?_)
        · have h27 : (σ 27 2) < ((6 : Int32) * (σ 27 3)) := h27
          rw [if_pos h27]
          refine rt_step rfl rfl rfl ?_
          exact rt_end rfl rfl rfl
        · have h27 : ¬ ((σ 27 2) < ((6 : Int32) * (σ 27 3))) := h27
          rw [if_neg h27]
          refine rt_step rfl rfl rfl ?_
          refine rt_step rfl rfl rfl ?_
          exact rt_end rfl rfl rfl
def v_X1_hasCut (σ : sg_S) (q : Nat) (x0 : Int32) : Int32 := (if x0 < 0 then (0 : Int32) else (if (σ q 5) ≤ x0 then (0 : Int32) else (if (19 : Int32) ≤ x0 then (0 : Int32) else (1 : Int32))))
theorem m_X1_hasCut {ro : List (List Int32)} {σ : sg_S} (q : Nat) (x0 : Int32) (hq : q = 8 ∨ q = 14 ∨ q = 21 ∨ q = 27) : Rt ro 34 0 [some (rf q), some (.inl x0)] [] σ [.inl (v_X1_hasCut σ q x0)] σ := by
  unfold v_X1_hasCut
  rcases hq with rfl | rfl | rfl | rfl
  · refine rt_step rfl rfl rfl ?_
    refine rt_ifP rfl (fun h1 => ?_) (fun h1 => ?_)
    · have h1 : x0 < 0 := h1
      rw [if_pos h1]
      refine rt_step rfl rfl rfl ?_
      exact rt_end rfl rfl rfl
    · have h1 : ¬ (x0 < 0) := h1
      rw [if_neg h1]
      refine rt_step rfl rfl rfl ?_
      refine rt_step rfl rfl rfl ?_
      refine rt_gf rfl (by decide) rfl (by decide) ?_
      refine rt_icP rfl (fun h9 => ?_) (fun h9 => ?_)
      · have h9 : (σ 8 5) ≤ x0 := h9
        rw [if_pos h9]
        refine rt_step rfl rfl rfl ?_
        exact rt_end rfl rfl rfl
      · have h9 : ¬ ((σ 8 5) ≤ x0) := h9
        rw [if_neg h9]
        refine rt_step rfl rfl rfl ?_
        refine rt_step rfl rfl rfl ?_
        refine rt_icP rfl (fun h15 => ?_) (fun h15 => ?_)
        · have h15 : (19 : Int32) ≤ x0 := h15
          rw [if_pos h15]
          refine rt_step rfl rfl rfl ?_
          exact rt_end rfl rfl rfl
        · have h15 : ¬ ((19 : Int32) ≤ x0) := h15
          rw [if_neg h15]
          refine rt_step rfl rfl rfl ?_
          refine rt_step rfl rfl rfl ?_
          exact rt_end rfl rfl rfl
  · refine rt_step rfl rfl rfl ?_
    refine rt_ifP rfl (fun h1 => ?_) (fun h1 => ?_)
    · have h1 : x0 < 0 := h1
      rw [if_pos h1]
      refine rt_step rfl rfl rfl ?_
      exact rt_end rfl rfl rfl
    · have h1 : ¬ (x0 < 0) := h1
      rw [if_neg h1]
      refine rt_step rfl rfl rfl ?_
      refine rt_step rfl rfl rfl ?_
      refine rt_gf rfl (by decide) rfl (by decide) ?_
      refine rt_icP rfl (fun h9 => ?_) (fun h9 => ?_)
      · have h9 : (σ 14 5) ≤ x0 := h9
        rw [if_pos h9]
        refine rt_step rfl rfl rfl ?_
        exact rt_end rfl rfl rfl
      · have h9 : ¬ ((σ 14 5) ≤ x0) := h9
        rw [if_neg h9]
        refine rt_step rfl rfl rfl ?_
        refine rt_step rfl rfl rfl ?_
        refine rt_icP rfl (fun h15 => ?_) (fun h15 => ?_)
        · have h15 : (19 : Int32) ≤ x0 := h15
          rw [if_pos h15]
          refine rt_step rfl rfl rfl ?_
          exact rt_end rfl rfl rfl
        · have h15 : ¬ ((19 : Int32) ≤ x0) := h15
          rw [if_neg h15]
          refine rt_step rfl rfl rfl ?_
          refine rt_step rfl rfl rfl ?_
          exact rt_end rfl rfl rfl
  · refine rt_step rfl rfl rfl ?_
    refine rt_ifP rfl (fun h1 => ?_) (fun h1 => ?_)
    · have h1 : x0 < 0 := h1
      rw [if_pos h1]
      refine rt_step rfl rfl rfl ?_
      exact rt_end rfl rfl rfl
    · have h1 : ¬ (x0 < 0) := h1
      rw [if_neg h1]
      refine rt_step rfl rfl rfl ?_
      refine rt_step rfl rfl rfl ?_
      refine rt_gf rfl (by decide) rfl (by decide) ?_
      refine rt_icP rfl (fun h9 => ?_) (fun h9 => ?_)
      · have h9 : (σ 21 5) ≤ x0 := h9
        rw [if_pos h9]
        refine rt_step rfl rfl rfl ?_
        exact rt_end rfl rfl rfl
      · have h9 : ¬ ((σ 21 5) ≤ x0) := h9
        rw [if_neg h9]
        refine rt_step rfl rfl rfl ?_
        refine rt_step rfl rfl rfl ?_
        refine rt_icP rfl (fun h15 => ?_) (fun h15 => ?_)
        · have h15 : (19 : Int32) ≤ x0 := h15
          rw [if_pos h15]
          refine rt_step rfl rfl rfl ?_
          exact rt_end rfl rfl rfl
        · have h15 : ¬ ((19 : Int32) ≤ x0) := h15
          rw [if_neg h15]
          refine rt_step rfl rfl rfl ?_
          refine rt_step rfl rfl rfl ?_
          exact rt_end rfl rfl rfl
  · refine rt_step rfl rfl rfl ?_
    refine rt_ifP rfl (fun h1 => ?_) (fun h1 => ?_)
    · have h1 : x0 < 0 := h1
      rw [if_pos h1]
      refine rt_step rfl rfl rfl ?_
      exact rt_end rfl rfl rfl
    · have h1 : ¬ (x0 < 0) := h1
      rw [if_neg h1]
      refine rt_step rfl rfl rfl ?_
      refine rt_step rfl rfl rfl ?_
      refine rt_gf rfl (by decide) rfl (by decide) ?_
      refine rt_icP rfl (fun h9 => ?_) (fun h9 => ?_)
      · have h9 : (σ 27 5) ≤ x0 := h9
        rw [if_pos h9]
        refine rt_step rfl rfl rfl ?_
        exact rt_end rfl rfl rfl
      · have h9 : ¬ ((σ 27 5) ≤ x0) := h9
        rw [if_neg h9]
        refine rt_step rfl rfl rfl ?_
        refine rt_step rfl rfl rfl ?_
        refine rt_icP rfl (fun h15 => ?_) (fun h15 => ?_)
        · have h15 : (19 : Int32) ≤ x0 := h15
          rw [if_pos h15]
          refine rt_step rfl rfl rfl ?_
          exact rt_end rfl rfl rfl
        · have h15 : ¬ ((19 : Int32) ≤ x0) := h15
          rw [if_neg h15]
          refine rt_step rfl rfl rfl ?_
          refine rt_step rfl rfl rfl ?_
          exact rt_end rfl rfl rfl
def v_X1_hasFall (σ : sg_S) (q : Nat) (x0 : Int32) : Int32 := (if x0 < 0 then (0 : Int32) else (if (σ q 1) ≤ x0 then (0 : Int32) else (if (10 : Int32) ≤ x0 then (0 : Int32) else (1 : Int32))))
theorem m_X1_hasFall {ro : List (List Int32)} {σ : sg_S} (q : Nat) (x0 : Int32) (hq : q = 8 ∨ q = 14 ∨ q = 21 ∨ q = 27) : Rt ro 38 0 [some (rf q), some (.inl x0)] [] σ [.inl (v_X1_hasFall σ q x0)] σ := by
  unfold v_X1_hasFall
  rcases hq with rfl | rfl | rfl | rfl
  · refine rt_step rfl rfl rfl ?_
    refine rt_ifP rfl (fun h1 => ?_) (fun h1 => ?_)
    · have h1 : x0 < 0 := h1
      rw [if_pos h1]
      refine rt_step rfl rfl rfl ?_
      exact rt_end rfl rfl rfl
    · have h1 : ¬ (x0 < 0) := h1
      rw [if_neg h1]
      refine rt_step rfl rfl rfl ?_
      refine rt_step rfl rfl rfl ?_
      refine rt_gf rfl (by decide) rfl (by decide) ?_
      refine rt_icP rfl (fun h9 => ?_) (fun h9 => ?_)
      · have h9 : (σ 8 1) ≤ x0 := h9
        rw [if_pos h9]
        refine rt_step rfl rfl rfl ?_
        exact rt_end rfl rfl rfl
      · have h9 : ¬ ((σ 8 1) ≤ x0) := h9
        rw [if_neg h9]
        refine rt_step rfl rfl rfl ?_
        refine rt_step rfl rfl rfl ?_
        refine rt_icP rfl (fun h15 => ?_) (fun h15 => ?_)
        · have h15 : (10 : Int32) ≤ x0 := h15
          rw [if_pos h15]
          refine rt_step rfl rfl rfl ?_
          exact rt_end rfl rfl rfl
        · have h15 : ¬ ((10 : Int32) ≤ x0) := h15
          rw [if_neg h15]
          refine rt_step rfl rfl rfl ?_
          refine rt_step rfl rfl rfl ?_
          exact rt_end rfl rfl rfl
  · refine rt_step rfl rfl rfl ?_
    refine rt_ifP rfl (fun h1 => ?_) (fun h1 => ?_)
    · have h1 : x0 < 0 := h1
      rw [if_pos h1]
      refine rt_step rfl rfl rfl ?_
      exact rt_end rfl rfl rfl
    · have h1 : ¬ (x0 < 0) := h1
      rw [if_neg h1]
      refine rt_step rfl rfl rfl ?_
      refine rt_step rfl rfl rfl ?_
      refine rt_gf rfl (by decide) rfl (by decide) ?_
      refine rt_icP rfl (fun h9 => ?_) (fun h9 => ?_)
      · have h9 : (σ 14 1) ≤ x0 := h9
        rw [if_pos h9]
        refine rt_step rfl rfl rfl ?_
        exact rt_end rfl rfl rfl
      · have h9 : ¬ ((σ 14 1) ≤ x0) := h9
        rw [if_neg h9]
        refine rt_step rfl rfl rfl ?_
        refine rt_step rfl rfl rfl ?_
        refine rt_icP rfl (fun h15 => ?_) (fun h15 => ?_)
        · have h15 : (10 : Int32) ≤ x0 := h15
          rw [if_pos h15]
          refine rt_step rfl rfl rfl ?_
          exact rt_end rfl rfl rfl
        · have h15 : ¬ ((10 : Int32) ≤ x0) := h15
          rw [if_neg h15]
          refine rt_step rfl rfl rfl ?_
          refine rt_step rfl rfl rfl ?_
          exact rt_end rfl rfl rfl
  · refine rt_step rfl rfl rfl ?_
    refine rt_ifP rfl (fun h1 => ?_) (fun h1 => ?_)
    · have h1 : x0 < 0 := h1
      rw [if_pos h1]
      refine rt_step rfl rfl rfl ?_
      exact rt_end rfl rfl rfl
    · have h1 : ¬ (x0 < 0) := h1
      rw [if_neg h1]
      refine rt_step rfl rfl rfl ?_
      refine rt_step rfl rfl rfl ?_
      refine rt_gf rfl (by decide) rfl (by decide) ?_
      refine rt_icP rfl (fun h9 => ?_) (fun h9 => ?_)
      · have h9 : (σ 21 1) ≤ x0 := h9
        rw [if_pos h9]
        refine rt_step rfl rfl rfl ?_
        exact rt_end rfl rfl rfl
      · have h9 : ¬ ((σ 21 1) ≤ x0) := h9
        rw [if_neg h9]
        refine rt_step rfl rfl rfl ?_
        refine rt_step rfl rfl rfl ?_
        refine rt_icP rfl (fun h15 => ?_) (fun h15 => ?_)
        · have h15 : (10 : Int32) ≤ x0 := h15
          rw [if_pos h15]
          refine rt_step rfl rfl rfl ?_
          exact rt_end rfl rfl rfl
        · have h15 : ¬ ((10 : Int32) ≤ x0) := h15
          rw [if_neg h15]
          refine rt_step rfl rfl rfl ?_
          refine rt_step rfl rfl rfl ?_
          exact rt_end rfl rfl rfl
  · refine rt_step rfl rfl rfl ?_
    refine rt_ifP rfl (fun h1 => ?_) (fun h1 => ?_)
    · have h1 : x0 < 0 := h1
      rw [if_pos h1]
      refine rt_step rfl rfl rfl ?_
      exact rt_end rfl rfl rfl
    · have h1 : ¬ (x0 < 0) := h1
      rw [if_neg h1]
      refine rt_step rfl rfl rfl ?_
      refine rt_step rfl rfl rfl ?_
      refine rt_gf rfl (by decide) rfl (by decide) ?_
      refine rt_icP rfl (fun h9 => ?_) (fun h9 => ?_)
      · have h9 : (σ 27 1) ≤ x0 := h9
        rw [if_pos h9]
        refine rt_step rfl rfl rfl ?_
        exact rt_end rfl rfl rfl
      · have h9 : ¬ ((σ 27 1) ≤ x0) := h9
        rw [if_neg h9]
        refine rt_step rfl rfl rfl ?_
        refine rt_step rfl rfl rfl ?_
        refine rt_icP rfl (fun h15 => ?_) (fun h15 => ?_)
        · have h15 : (10 : Int32) ≤ x0 := h15
          rw [if_pos h15]
          refine rt_step rfl rfl rfl ?_
          exact rt_end rfl rfl rfl
        · have h15 : ¬ ((10 : Int32) ≤ x0) := h15
          rw [if_neg h15]
          refine rt_step rfl rfl rfl ?_
          refine rt_step rfl rfl rfl ?_
          exact rt_end rfl rfl rfl
def v_X2_full (σ : sg_S) : Int32 := ((30 : Int32) * (σ 2 4))
theorem m_X2_full {ro : List (List Int32)} {σ : sg_S} : Rt ro 48 0 [some (rf 1)] [] σ [.inl (v_X2_full σ)] σ := by
  unfold v_X2_full
  refine rt_step rfl rfl rfl ?_
  refine rt_step rfl rfl rfl ?_
  refine rt_gf rfl (by decide) rfl (by decide) ?_
  refine rt_step rfl rfl rfl ?_
  refine rt_al rfl (by decide) rfl (by decide) (by decide) ?_
  refine rt_step rfl rfl rfl ?_
  exact rt_end rfl rfl rfl
def v_X2_setting (σ : sg_S) (x0 : Int32) : Int32 := (if x0 < 0 then ((-1) : Int32) else (if (5 : Int32) ≤ x0 then ((-1) : Int32) else (σ 4 x0.toNatClampNeg)))
theorem m_X2_setting {ro : List (List Int32)} {σ : sg_S} (x0 : Int32) : Rt ro 50 0 [some (rf 1), some (.inl x0)] [] σ [.inl (v_X2_setting σ x0)] σ := by
  unfold v_X2_setting
  refine rt_step rfl rfl rfl ?_
  refine rt_ifP rfl (fun h1 => ?_) (fun h1 => ?_)
  · have h1 : x0 < 0 := h1
    rw [if_pos h1]
    refine rt_step rfl rfl rfl ?_
    exact rt_end rfl rfl rfl
  · have h1 : ¬ (x0 < 0) := h1
    rw [if_neg h1]
    refine rt_step rfl rfl rfl ?_
    refine rt_step rfl rfl rfl ?_
    refine rt_icP rfl (fun h6 => ?_) (fun h6 => ?_)
    · have h6 : (5 : Int32) ≤ x0 := h6
      rw [if_pos h6]
      refine rt_step rfl rfl rfl ?_
      exact rt_end rfl rfl rfl
    · have h6 : ¬ ((5 : Int32) ≤ x0) := h6
      rw [if_neg h6]
      refine rt_step rfl rfl rfl ?_
      refine rt_gf rfl (by decide) rfl (by decide) ?_
      refine rt_step rfl rfl rfl ?_
      refine rt_al rfl (by decide) rfl h1 (ix_lt h1 h6 rfl) ?_
      refine rt_step rfl rfl rfl ?_
      exact rt_end rfl rfl rfl
def v_X2_shareOf (σ : sg_S) (x0 : Int32) : Int32 := (if ¬ x0 = 0 then (if ¬ x0 = (1 : Int32) then (((20 : Int32) - (σ 4 3)) - (σ 4 4)) else (σ 4 4)) else (σ 4 3))
theorem m_X2_shareOf {ro : List (List Int32)} {σ : sg_S} (x0 : Int32) : Rt ro 53 0 [some (rf 1), some (.inl x0)] [] σ [.inl (v_X2_shareOf σ x0)] σ := by
  unfold v_X2_shareOf
  refine rt_step rfl rfl rfl ?_
  refine rt_ifP rfl (fun h1 => ?_) (fun h1 => ?_)
  · have h1 : ¬ x0 = 0 := h1
    rw [if_pos h1]
    refine rt_step rfl rfl rfl ?_
    refine rt_step rfl rfl rfl ?_
    refine rt_icP rfl (fun h13 => ?_) (fun h13 => ?_)
    · have h13 : ¬ x0 = (1 : Int32) := h13
      rw [if_pos h13]
      refine rt_step rfl rfl rfl ?_
      refine rt_step rfl rfl rfl ?_
      refine rt_gf rfl (by decide) rfl (by decide) ?_
      refine rt_step rfl rfl rfl ?_
      refine rt_al rfl (by decide) rfl (by decide) (by decide) ?_
      refine rt_step rfl rfl rfl ?_
      refine rt_step rfl rfl rfl ?_
      refine rt_gf rfl (by decide) rfl (by decide) ?_
      refine rt_step rfl rfl rfl ?_
      refine rt_al rfl (by decide) rfl (by decide) (by decide) ?_
      refine rt_step rfl rfl rfl ?_
      exact rt_end rfl rfl rfl
    · have h13 : ¬ (¬ x0 = (1 : Int32)) := h13
      rw [if_neg h13]
      refine rt_step rfl rfl rfl ?_
      refine rt_gf rfl (by decide) rfl (by decide) ?_
      refine rt_step rfl rfl rfl ?_
      refine rt_al rfl (by decide) rfl (by decide) (by decide) ?_
      exact rt_end rfl rfl rfl
  · have h1 : ¬ (¬ x0 = 0) := h1
    rw [if_neg h1]
    refine rt_step rfl rfl rfl ?_
    refine rt_gf rfl (by decide) rfl (by decide) ?_
    refine rt_step rfl rfl rfl ?_
    refine rt_al rfl (by decide) rfl (by decide) (by decide) ?_
    exact rt_end rfl rfl rfl
def v_X2_canStandInRow (σ : sg_S) (x0 : Int32) (x1 : Int32) : Int32 := (if ¬ x0 = 0 then (if x1 < (1 : Int32) then (0 : Int32) else (if (1000 : Int32) < x1 then (0 : Int32) else (1 : Int32))) else (if x1 < 0 then (0 : Int32) else (if (10 : Int32) ≤ x1 then (0 : Int32) else (1 : Int32))))
theorem m_X2_canStandInRow {ro : List (List Int32)} {σ : sg_S} (x0 : Int32) (x1 : Int32) : Rt ro 55 0 [some (.inl x0), some (.inl x1)] [] σ [.inl (v_X2_canStandInRow σ x0 x1)] σ := by
  unfold v_X2_canStandInRow
  refine rt_step rfl rfl rfl ?_
  refine rt_ifP rfl (fun h1 => ?_) (fun h1 => ?_)
  · have h1 : ¬ x0 = 0 := h1
    rw [if_pos h1]
    refine rt_step rfl rfl rfl ?_
    refine rt_step rfl rfl rfl ?_
    refine rt_icP rfl (fun h24 => ?_) (fun h24 => ?_)
    · have h24 : x1 < (1 : Int32) := h24
      rw [if_pos h24]
      refine rt_step rfl rfl rfl ?_
      exact rt_end rfl rfl rfl
    · have h24 : ¬ (x1 < (1 : Int32)) := h24
      rw [if_neg h24]
      refine rt_step rfl rfl rfl ?_
      refine rt_step rfl rfl rfl ?_
      refine rt_icP rfl (fun h31 => ?_) (fun h31 => ?_)
      · have h31 : (1000 : Int32) < x1 := h31
        rw [if_pos h31]
        refine rt_step rfl rfl rfl ?_
        exact rt_end rfl rfl rfl
      · have h31 : ¬ ((1000 : Int32) < x1) := h31
        rw [if_neg h31]
        refine rt_step rfl rfl rfl ?_
        refine rt_step rfl rfl rfl ?_
        exact rt_end rfl rfl rfl
  · have h1 : ¬ (¬ x0 = 0) := h1
    rw [if_neg h1]
    refine rt_step rfl rfl rfl ?_
    refine rt_ifP rfl (fun h5 => ?_) (fun h5 => ?_)
    · have h5 : x1 < 0 := h5
      rw [if_pos h5]
      refine rt_step rfl rfl rfl ?_
      refine rt_step rfl rfl rfl ?_
      exact rt_end rfl rfl rfl
    · have h5 : ¬ (x1 < 0) := h5
      rw [if_neg h5]
      refine rt_step rfl rfl rfl ?_
      refine rt_step rfl rfl rfl ?_
      refine rt_icP rfl (fun h11 => ?_) (fun h11 => ?_)
      · have h11 : (10 : Int32) ≤ x1 := h11
        rw [if_pos h11]
        refine rt_step rfl rfl rfl ?_
        refine rt_step rfl rfl rfl ?_
        exact rt_end rfl rfl rfl
      · have h11 : ¬ ((10 : Int32) ≤ x1) := h11
        rw [if_neg h11]
        refine rt_step rfl rfl rfl ?_
        refine rt_step rfl rfl rfl ?_
        exact rt_end rfl rfl rfl
def s_X3_rewind (σ : sg_S) : sg_S := (sg_up (sg_up σ 5 2 (0 : Int32)) 5 4 (0 : Int32))
theorem m_X3_rewind {ro : List (List Int32)} {σ : sg_S} : Rt ro 63 0 [some (rf 5)] [] σ [] (s_X3_rewind σ) := by
  unfold s_X3_rewind
  refine rt_step rfl rfl rfl ?_
  refine rt_step rfl rfl rfl ?_
  refine rt_pf rfl (by decide) rfl (by decide) (by decide) rfl ?_
  refine rt_step rfl rfl rfl ?_
  refine rt_step rfl rfl rfl ?_
  refine rt_pf rfl (by decide) rfl (by decide) (by decide) rfl ?_
  exact rt_end rfl rfl rfl
def v_X4_end (σ : sg_S) (x0 : Int32) : Int32 := (if x0 < 0 then (0 : Int32) else (if x0 ≤ (σ 5 1) then (1 : Int32) else (0 : Int32)))
def s_X4_end (σ : sg_S) (x0 : Int32) : sg_S := (if x0 < 0 then σ else (if x0 ≤ (σ 5 1) then (sg_up σ 5 1 x0) else σ))
theorem m_X4_end {ro : List (List Int32)} {σ : sg_S} (x0 : Int32) : Rt ro 71 0 [some (rf 0), some (.inl x0)] [] σ [.inl (v_X4_end σ x0)] (s_X4_end σ x0) := by
  unfold v_X4_end s_X4_end
  refine rt_step rfl rfl rfl ?_
  refine rt_ifP rfl (fun h1 => ?_) (fun h1 => ?_)
  · have h1 : x0 < 0 := h1
    rw [if_pos h1]
    rw [if_pos h1]
    refine rt_step rfl rfl rfl ?_
    exact rt_end rfl rfl rfl
  · have h1 : ¬ (x0 < 0) := h1
    rw [if_neg h1]
    rw [if_neg h1]
    refine rt_step rfl rfl rfl ?_
    refine rt_step rfl rfl rfl ?_
    refine rt_gf rfl (by decide) rfl (by decide) ?_
    refine rt_gf rfl (by decide) rfl (by decide) ?_
    refine rt_icP rfl (fun h12 => ?_) (fun h12 => ?_)
    · have h12 : x0 ≤ (σ 5 1) := h12
      rw [if_pos h12]
      rw [if_pos h12]
      refine rt_step rfl rfl rfl ?_
      refine rt_gf rfl (by decide) rfl (by decide) ?_
      refine rt_step rfl rfl rfl ?_
      refine rt_pf rfl (by decide) rfl (by decide) (by decide) rfl ?_
      refine rt_step rfl rfl rfl ?_
      exact rt_end rfl rfl rfl
    · have h12 : ¬ (x0 ≤ (σ 5 1)) := h12
      rw [if_neg h12]
      rw [if_neg h12]
      refine rt_step rfl rfl rfl ?_
      exact rt_end rfl rfl rfl
def v_X4_fault (σ : sg_S) : Int32 := (σ 0 7)
theorem m_X4_fault {ro : List (List Int32)} {σ : sg_S} : Rt ro 74 0 [some (rf 0)] [] σ [.inl (v_X4_fault σ)] σ := by
  unfold v_X4_fault
  refine rt_step rfl rfl rfl ?_
  refine rt_gf rfl (by decide) rfl (by decide) ?_
  exact rt_end rfl rfl rfl
def v_X4_canCome (σ : sg_S) (x0 : Int32) : Int32 := (if (400 : Int32) ≤ (σ 0 6) then (0 : Int32) else (if (v_X0_admits σ 7 x0) = 0 then (0 : Int32) else (1 : Int32)))
theorem m_X4_canCome {ro : List (List Int32)} {σ : sg_S} (x0 : Int32) : Rt ro 110 0 [some (rf 0), some (.inl x0)] [] σ [.inl (v_X4_canCome σ x0)] σ := by
  unfold v_X4_canCome
  refine rt_step rfl rfl rfl ?_
  refine rt_gf rfl (by decide) rfl (by decide) ?_
  refine rt_step rfl rfl rfl ?_
  refine rt_icP rfl (fun h7 => ?_) (fun h7 => ?_)
  · have h7 : (400 : Int32) ≤ (σ 0 6) := h7
    rw [if_pos h7]
    refine rt_step rfl rfl rfl ?_
    exact rt_end rfl rfl rfl
  · have h7 : ¬ ((400 : Int32) ≤ (σ 0 6)) := h7
    rw [if_neg h7]
    refine rt_step rfl rfl rfl ?_
    refine rt_gf rfl (by decide) rfl (by decide) ?_
    refine rt_step rfl rfl rfl ?_
    refine rt_call rfl rfl rfl rfl (m_X0_admits (7) (x0) (by decide)) rfl rfl rfl rfl rfl ?_
    refine rt_ifP rfl (fun h18 => ?_) (fun h18 => ?_)
    · have h18 : (v_X0_admits σ 7 x0) = 0 := h18
      rw [if_pos h18]
      refine rt_step rfl rfl rfl ?_
      exact rt_end rfl rfl rfl
    · have h18 : ¬ ((v_X0_admits σ 7 x0) = 0) := h18
      rw [if_neg h18]
      refine rt_step rfl rfl rfl ?_
      refine rt_step rfl rfl rfl ?_
      exact rt_end rfl rfl rfl
def v_X4_secondCanBeCut (σ : sg_S) (x0 : Int32) : Int32 := (if ¬ (σ 7 3) = (1 : Int32) then (0 : Int32) else (if (v_X0_hasTarget σ 7) = 0 then (0 : Int32) else (if (v_X4_canCome σ (99 : Int32)) = 0 then (0 : Int32) else (if (v_X0_fits σ 7 (99 : Int32) x0) = 0 then (0 : Int32) else (1 : Int32)))))
theorem m_X4_secondCanBeCut {ro : List (List Int32)} {σ : sg_S} (x0 : Int32) : Rt ro 111 0 [some (rf 0), some (.inl x0)] [] σ [.inl (v_X4_secondCanBeCut σ x0)] σ := by
  unfold v_X4_secondCanBeCut
  refine rt_step rfl rfl rfl ?_
  refine rt_gf rfl (by decide) rfl (by decide) ?_
  refine rt_gf rfl (by decide) rfl (by decide) ?_
  refine rt_step rfl rfl rfl ?_
  refine rt_icP rfl (fun h8 => ?_) (fun h8 => ?_)
  · have h8 : ¬ (σ 7 3) = (1 : Int32) := h8
    rw [if_pos h8]
    refine rt_step rfl rfl rfl ?_
    exact rt_end rfl rfl rfl
  · have h8 : ¬ (¬ (σ 7 3) = (1 : Int32)) := h8
    rw [if_neg h8]
    refine rt_step rfl rfl rfl ?_
    refine rt_gf rfl (by decide) rfl (by decide) ?_
    refine rt_call rfl rfl rfl rfl (m_X0_hasTarget (7) (by decide)) rfl rfl rfl rfl rfl ?_
    refine rt_ifP rfl (fun h18 => ?_) (fun h18 => ?_)
    · have h18 : (v_X0_hasTarget σ 7) = 0 := h18
      rw [if_pos h18]
      refine rt_step rfl rfl rfl ?_
      exact rt_end rfl rfl rfl
    · have h18 : ¬ ((v_X0_hasTarget σ 7) = 0) := h18
      rw [if_neg h18]
      refine rt_step rfl rfl rfl ?_
      refine rt_step rfl rfl rfl ?_
      refine rt_call rfl rfl rfl rfl (m_X4_canCome (99 : Int32)) rfl rfl rfl rfl rfl ?_
      refine rt_ifP rfl (fun h27 => ?_) (fun h27 => ?_)
      · have h27 : (v_X4_canCome σ (99 : Int32)) = 0 := h27
        rw [if_pos h27]
        refine rt_step rfl rfl rfl ?_
        exact rt_end rfl rfl rfl
      · have h27 : ¬ ((v_X4_canCome σ (99 : Int32)) = 0) := h27
        rw [if_neg h27]
        refine rt_step rfl rfl rfl ?_
        refine rt_gf rfl (by decide) rfl (by decide) ?_
        refine rt_step rfl rfl rfl ?_
        refine rt_step rfl rfl rfl ?_
        refine rt_call rfl rfl rfl rfl (m_X0_fits (7) (99 : Int32) (x0) (by decide)) rfl rfl rfl rfl rfl ?_
        refine rt_ifP rfl (fun h40 => ?_) (fun h40 => ?_)
        · have h40 : (v_X0_fits σ 7 (99 : Int32) x0) = 0 := h40
          rw [if_pos h40]
          refine rt_step rfl rfl rfl ?_
          exact rt_end rfl rfl rfl
        · have h40 : ¬ ((v_X0_fits σ 7 (99 : Int32) x0) = 0) := h40
          rw [if_neg h40]
          refine rt_step rfl rfl rfl ?_
          refine rt_step rfl rfl rfl ?_
          exact rt_end rfl rfl rfl
def v_X4_faultHere (σ : sg_S) (x0 : Int32) : Int32 := (x0 + ((8 : Int32) * (σ 5 2)))
theorem m_X4_faultHere {ro : List (List Int32)} {σ : sg_S} (x0 : Int32) : Rt ro 115 0 [some (rf 0), some (.inl x0)] [] σ [.inl (v_X4_faultHere σ x0)] σ := by
  unfold v_X4_faultHere
  refine rt_step rfl rfl rfl ?_
  refine rt_step rfl rfl rfl ?_
  refine rt_step rfl rfl rfl ?_
  refine rt_gf rfl (by decide) rfl (by decide) ?_
  refine rt_gf rfl (by decide) rfl (by decide) ?_
  refine rt_step rfl rfl rfl ?_
  refine rt_step rfl rfl rfl ?_
  exact rt_end rfl rfl rfl
def v_X4_bearsNumber (σ : sg_S) (x0 : Int32) : Int32 := (if x0 = (99 : Int32) then (1 : Int32) else (if ¬ x0 = (100 : Int32) then (0 : Int32) else (1 : Int32)))
theorem m_X4_bearsNumber {ro : List (List Int32)} {σ : sg_S} (x0 : Int32) : Rt ro 117 0 [some (.inl x0)] [] σ [.inl (v_X4_bearsNumber σ x0)] σ := by
  unfold v_X4_bearsNumber
  refine rt_step rfl rfl rfl ?_
  refine rt_step rfl rfl rfl ?_
  refine rt_icP rfl (fun h3 => ?_) (fun h3 => ?_)
  · have h3 : x0 = (99 : Int32) := h3
    rw [if_pos h3]
    refine rt_step rfl rfl rfl ?_
    refine rt_step rfl rfl rfl ?_
    exact rt_end rfl rfl rfl
  · have h3 : ¬ (x0 = (99 : Int32)) := h3
    rw [if_neg h3]
    refine rt_step rfl rfl rfl ?_
    refine rt_step rfl rfl rfl ?_
    refine rt_icP rfl (fun h9 => ?_) (fun h9 => ?_)
    · have h9 : ¬ x0 = (100 : Int32) := h9
      rw [if_pos h9]
      refine rt_step rfl rfl rfl ?_
      exact rt_end rfl rfl rfl
    · have h9 : ¬ (¬ x0 = (100 : Int32)) := h9
      rw [if_neg h9]
      refine rt_step rfl rfl rfl ?_
      refine rt_step rfl rfl rfl ?_
      exact rt_end rfl rfl rfl
def v_X4_isSide (σ : sg_S) (x0 : Int32) : Int32 := (if x0 = 0 then (1 : Int32) else (if ¬ x0 = (1 : Int32) then (0 : Int32) else (1 : Int32)))
theorem m_X4_isSide {ro : List (List Int32)} {σ : sg_S} (x0 : Int32) : Rt ro 118 0 [some (.inl x0)] [] σ [.inl (v_X4_isSide σ x0)] σ := by
  unfold v_X4_isSide
  refine rt_step rfl rfl rfl ?_
  refine rt_ifP rfl (fun h1 => ?_) (fun h1 => ?_)
  · have h1 : x0 = 0 := h1
    rw [if_pos h1]
    refine rt_step rfl rfl rfl ?_
    refine rt_step rfl rfl rfl ?_
    exact rt_end rfl rfl rfl
  · have h1 : ¬ (x0 = 0) := h1
    rw [if_neg h1]
    refine rt_step rfl rfl rfl ?_
    refine rt_step rfl rfl rfl ?_
    refine rt_icP rfl (fun h6 => ?_) (fun h6 => ?_)
    · have h6 : ¬ x0 = (1 : Int32) := h6
      rw [if_pos h6]
      refine rt_step rfl rfl rfl ?_
      exact rt_end rfl rfl rfl
    · have h6 : ¬ (¬ x0 = (1 : Int32)) := h6
      rw [if_neg h6]
      refine rt_step rfl rfl rfl ?_
      refine rt_step rfl rfl rfl ?_
      exact rt_end rfl rfl rfl
def v_X4_isBlock (σ : sg_S) (x0 : Int32) : Int32 := (if x0 < 0 then (0 : Int32) else (if (3 : Int32) ≤ x0 then (0 : Int32) else (1 : Int32)))
theorem m_X4_isBlock {ro : List (List Int32)} {σ : sg_S} (x0 : Int32) : Rt ro 119 0 [some (.inl x0)] [] σ [.inl (v_X4_isBlock σ x0)] σ := by
  unfold v_X4_isBlock
  refine rt_step rfl rfl rfl ?_
  refine rt_ifP rfl (fun h1 => ?_) (fun h1 => ?_)
  · have h1 : x0 < 0 := h1
    rw [if_pos h1]
    refine rt_step rfl rfl rfl ?_
    exact rt_end rfl rfl rfl
  · have h1 : ¬ (x0 < 0) := h1
    rw [if_neg h1]
    refine rt_step rfl rfl rfl ?_
    refine rt_step rfl rfl rfl ?_
    refine rt_icP rfl (fun h6 => ?_) (fun h6 => ?_)
    · have h6 : (3 : Int32) ≤ x0 := h6
      rw [if_pos h6]
      refine rt_step rfl rfl rfl ?_
      exact rt_end rfl rfl rfl
    · have h6 : ¬ ((3 : Int32) ≤ x0) := h6
      rw [if_neg h6]
      refine rt_step rfl rfl rfl ?_
      refine rt_step rfl rfl rfl ?_
      exact rt_end rfl rfl rfl
def v_X4_isOverFact (σ : sg_S) (x0 : Int32) : Int32 := (if x0 < 0 then (0 : Int32) else (if (3 : Int32) ≤ x0 then (0 : Int32) else (1 : Int32)))
theorem m_X4_isOverFact {ro : List (List Int32)} {σ : sg_S} (x0 : Int32) : Rt ro 120 0 [some (.inl x0)] [] σ [.inl (v_X4_isOverFact σ x0)] σ := by
  unfold v_X4_isOverFact
  refine rt_step rfl rfl rfl ?_
  refine rt_ifP rfl (fun h1 => ?_) (fun h1 => ?_)
  · have h1 : x0 < 0 := h1
    rw [if_pos h1]
    refine rt_step rfl rfl rfl ?_
    exact rt_end rfl rfl rfl
  · have h1 : ¬ (x0 < 0) := h1
    rw [if_neg h1]
    refine rt_step rfl rfl rfl ?_
    refine rt_step rfl rfl rfl ?_
    refine rt_icP rfl (fun h6 => ?_) (fun h6 => ?_)
    · have h6 : (3 : Int32) ≤ x0 := h6
      rw [if_pos h6]
      refine rt_step rfl rfl rfl ?_
      exact rt_end rfl rfl rfl
    · have h6 : ¬ ((3 : Int32) ≤ x0) := h6
      rw [if_neg h6]
      refine rt_step rfl rfl rfl ?_
      refine rt_step rfl rfl rfl ?_
      exact rt_end rfl rfl rfl
def v_X5_in (σ : sg_S) (x0 : Int32) (x1 : Int32) (x2 : Int32) : Int32 := (if x0 < x1 then (0 : Int32) else (if x2 < x0 then (0 : Int32) else (1 : Int32)))
theorem m_X5_in {ro : List (List Int32)} {σ : sg_S} (x0 : Int32) (x1 : Int32) (x2 : Int32) : Rt ro 124 0 [some (.inl x0), some (.inl x1), some (.inl x2)] [] σ [.inl (v_X5_in σ x0 x1 x2)] σ := by
  unfold v_X5_in
  refine rt_step rfl rfl rfl ?_
  refine rt_step rfl rfl rfl ?_
  refine rt_icP rfl (fun h2 => ?_) (fun h2 => ?_)
  · have h2 : x0 < x1 := h2
    rw [if_pos h2]
    refine rt_step rfl rfl rfl ?_
    exact rt_end rfl rfl rfl
  · have h2 : ¬ (x0 < x1) := h2
    rw [if_neg h2]
    refine rt_step rfl rfl rfl ?_
    refine rt_step rfl rfl rfl ?_
    refine rt_icP rfl (fun h7 => ?_) (fun h7 => ?_)
    · have h7 : x2 < x0 := h7
      rw [if_pos h7]
      refine rt_step rfl rfl rfl ?_
      exact rt_end rfl rfl rfl
    · have h7 : ¬ (x2 < x0) := h7
      rw [if_neg h7]
      refine rt_step rfl rfl rfl ?_
      refine rt_step rfl rfl rfl ?_
      exact rt_end rfl rfl rfl
def v_X5_full (σ : sg_S) : Int32 := ((30 : Int32) * (σ 37 4))
theorem m_X5_full {ro : List (List Int32)} {σ : sg_S} : Rt ro 126 0 [some (rf 35)] [] σ [.inl (v_X5_full σ)] σ := by
  unfold v_X5_full
  refine rt_step rfl rfl rfl ?_
  refine rt_step rfl rfl rfl ?_
  refine rt_gf rfl (by decide) rfl (by decide) ?_
  refine rt_step rfl rfl rfl ?_
  refine rt_al rfl (by decide) rfl (by decide) (by decide) ?_
  refine rt_step rfl rfl rfl ?_
  exact rt_end rfl rfl rfl
def v_X5_hasTarget (σ : sg_S) : Int32 := (if (σ 35 23) ≤ 0 then (0 : Int32) else (if (σ 45 0) ≤ 0 then (0 : Int32) else (1 : Int32)))
theorem m_X5_hasTarget {ro : List (List Int32)} {σ : sg_S} : Rt ro 134 0 [some (rf 35)] [] σ [.inl (v_X5_hasTarget σ)] σ := by
  unfold v_X5_hasTarget
  refine rt_step rfl rfl rfl ?_
  refine rt_gf rfl (by decide) rfl (by decide) ?_
  refine rt_ifP rfl (fun h4 => ?_) (fun h4 => ?_)
  · have h4 : (σ 35 23) ≤ 0 := h4
    rw [if_pos h4]
    refine rt_step rfl rfl rfl ?_
    exact rt_end rfl rfl rfl
  · have h4 : ¬ ((σ 35 23) ≤ 0) := h4
    rw [if_neg h4]
    refine rt_step rfl rfl rfl ?_
    refine rt_gf rfl (by decide) rfl (by decide) ?_
    refine rt_step rfl rfl rfl ?_
    refine rt_al rfl (by decide) rfl (by decide) (by decide) ?_
    refine rt_ifP rfl (fun h13 => ?_) (fun h13 => ?_)
    · have h13 : (σ 45 0) ≤ 0 := h13
      rw [if_pos h13]
      refine rt_step rfl rfl rfl ?_
      exact rt_end rfl rfl rfl
    · have h13 : ¬ ((σ 45 0) ≤ 0) := h13
      rw [if_neg h13]
      refine rt_step rfl rfl rfl ?_
      refine rt_step rfl rfl rfl ?_
      exact rt_end rfl rfl rfl
def v_X5_partOfSecond (σ : sg_S) : Int32 := ((σ 45 1) + (σ 46 1))
theorem m_X5_partOfSecond {ro : List (List Int32)} {σ : sg_S} : Rt ro 135 0 [some (rf 35)] [] σ [.inl (v_X5_partOfSecond σ)] σ := by
  unfold v_X5_partOfSecond
  refine rt_step rfl rfl rfl ?_
  refine rt_gf rfl (by decide) rfl (by decide) ?_
  refine rt_step rfl rfl rfl ?_
  refine rt_al rfl (by decide) rfl (by decide) (by decide) ?_
  refine rt_step rfl rfl rfl ?_
  refine rt_gf rfl (by decide) rfl (by decide) ?_
  refine rt_step rfl rfl rfl ?_
  refine rt_al rfl (by decide) rfl (by decide) (by decide) ?_
  refine rt_step rfl rfl rfl ?_
  exact rt_end rfl rfl rfl
def v_X5_mayDrop (σ : sg_S) (x0 : Int32) : Int32 := (if (v_X5_in σ x0 (1 : Int32) (20 : Int32)) = 0 then (0 : Int32) else (if (σ 44 1) ≤ x0 then (0 : Int32) else (1 : Int32)))
theorem m_X5_mayDrop {ro : List (List Int32)} {σ : sg_S} (x0 : Int32) : Rt ro 139 0 [some (rf 35), some (.inl x0)] [] σ [.inl (v_X5_mayDrop σ x0)] σ := by
  unfold v_X5_mayDrop
  refine rt_step rfl rfl rfl ?_
  refine rt_step rfl rfl rfl ?_
  refine rt_step rfl rfl rfl ?_
  refine rt_call rfl rfl rfl rfl (m_X5_in (x0) (1 : Int32) (20 : Int32)) rfl rfl rfl rfl rfl ?_
  refine rt_ifP rfl (fun h7 => ?_) (fun h7 => ?_)
  · have h7 : (v_X5_in σ x0 (1 : Int32) (20 : Int32)) = 0 := h7
    rw [if_pos h7]
    refine rt_step rfl rfl rfl ?_
    exact rt_end rfl rfl rfl
  · have h7 : ¬ ((v_X5_in σ x0 (1 : Int32) (20 : Int32)) = 0) := h7
    rw [if_neg h7]
    refine rt_step rfl rfl rfl ?_
    refine rt_step rfl rfl rfl ?_
    refine rt_gf rfl (by decide) rfl (by decide) ?_
    refine rt_step rfl rfl rfl ?_
    refine rt_al rfl (by decide) rfl (by decide) (by decide) ?_
    refine rt_icP rfl (fun h17 => ?_) (fun h17 => ?_)
    · have h17 : (σ 44 1) ≤ x0 := h17
      rw [if_pos h17]
      refine rt_step rfl rfl rfl ?_
      exact rt_end rfl rfl rfl
    · have h17 : ¬ ((σ 44 1) ≤ x0) := h17
      rw [if_neg h17]
      refine rt_step rfl rfl rfl ?_
      refine rt_step rfl rfl rfl ?_
      exact rt_end rfl rfl rfl
def v_X5_isEarly (σ : sg_S) : Int32 := (if (σ 35 23) = 0 then (1 : Int32) else (if ¬ (σ 35 23) = (1 : Int32) then (0 : Int32) else (if ¬ (σ 35 24) = 0 then (0 : Int32) else (1 : Int32))))
theorem m_X5_isEarly {ro : List (List Int32)} {σ : sg_S} : Rt ro 140 0 [some (rf 35)] [] σ [.inl (v_X5_isEarly σ)] σ := by
  unfold v_X5_isEarly
  refine rt_step rfl rfl rfl ?_
  refine rt_gf rfl (by decide) rfl (by decide) ?_
  refine rt_ifP rfl (fun h4 => ?_) (fun h4 => ?_)
  · have h4 : (σ 35 23) = 0 := h4
    rw [if_pos h4]
    refine rt_step rfl rfl rfl ?_
    refine rt_step rfl rfl rfl ?_
    exact rt_end rfl rfl rfl
  · have h4 : ¬ ((σ 35 23) = 0) := h4
    rw [if_neg h4]
    refine rt_step rfl rfl rfl ?_
    refine rt_gf rfl (by decide) rfl (by decide) ?_
    refine rt_step rfl rfl rfl ?_
    refine rt_icP rfl (fun h12 => ?_) (fun h12 => ?_)
    · have h12 : ¬ (σ 35 23) = (1 : Int32) := h12
      rw [if_pos h12]
      refine rt_step rfl rfl rfl ?_
      exact rt_end rfl rfl rfl
    · have h12 : ¬ (¬ (σ 35 23) = (1 : Int32)) := h12
      rw [if_neg h12]
      refine rt_step rfl rfl rfl ?_
      refine rt_gf rfl (by decide) rfl (by decide) ?_
      refine rt_ifP rfl (fun h19 => ?_) (fun h19 => ?_)
      · have h19 : ¬ (σ 35 24) = 0 := h19
        rw [if_pos h19]
        refine rt_step rfl rfl rfl ?_
        exact rt_end rfl rfl rfl
      · have h19 : ¬ (¬ (σ 35 24) = 0) := h19
        rw [if_neg h19]
        refine rt_step rfl rfl rfl ?_
        refine rt_step rfl rfl rfl ?_
        exact rt_end rfl rfl rfl
def v_X5_isBall (σ : sg_S) (x0 : Int32) : Int32 := (if ¬ (v_X5_in σ x0 (48 : Int32) (54 : Int32)) = 0 then (1 : Int32) else (if ¬ x0 = (120 : Int32) then (0 : Int32) else (1 : Int32)))
theorem m_X5_isBall {ro : List (List Int32)} {σ : sg_S} (x0 : Int32) : Rt ro 141 0 [some (.inl x0)] [] σ [.inl (v_X5_isBall σ x0)] σ := by
  unfold v_X5_isBall
  refine rt_step rfl rfl rfl ?_
  refine rt_step rfl rfl rfl ?_
  refine rt_step rfl rfl rfl ?_
  refine rt_call rfl rfl rfl rfl (m_X5_in (x0) (48 : Int32) (54 : Int32)) rfl rfl rfl rfl rfl ?_
  refine rt_ifP rfl (fun h8 => ?_) (fun h8 => ?_)
  · have h8 : ¬ (v_X5_in σ x0 (48 : Int32) (54 : Int32)) = 0 := h8
    rw [if_pos h8]
    refine rt_step rfl rfl rfl ?_
    refine rt_step rfl rfl rfl ?_
    exact rt_end rfl rfl rfl
  · have h8 : ¬ (¬ (v_X5_in σ x0 (48 : Int32) (54 : Int32)) = 0) := h8
    rw [if_neg h8]
    refine rt_step rfl rfl rfl ?_
    refine rt_step rfl rfl rfl ?_
    refine rt_icP rfl (fun h14 => ?_) (fun h14 => ?_)
    · have h14 : ¬ x0 = (120 : Int32) := h14
      rw [if_pos h14]
      refine rt_step rfl rfl rfl ?_
      exact rt_end rfl rfl rfl
    · have h14 : ¬ (¬ x0 = (120 : Int32)) := h14
      rw [if_neg h14]
      refine rt_step rfl rfl rfl ?_
      refine rt_step rfl rfl rfl ?_
      exact rt_end rfl rfl rfl
def v_X5_isEvent (σ : sg_S) (x0 : Int32) : Int32 := (if ¬ (v_X5_isBall σ x0) = 0 then (1 : Int32) else (if x0 = (119 : Int32) then (1 : Int32) else (if x0 = (110 : Int32) then (1 : Int32) else (if x0 = (99 : Int32) then (1 : Int32) else (if x0 = (100 : Int32) then (1 : Int32) else (if ¬ x0 = (47 : Int32) then (0 : Int32) else (1 : Int32)))))))
theorem m_X5_isEvent {ro : List (List Int32)} {σ : sg_S} (x0 : Int32) : Rt ro 142 0 [some (.inl x0)] [] σ [.inl (v_X5_isEvent σ x0)] σ := by
  unfold v_X5_isEvent
  refine rt_step rfl rfl rfl ?_
  refine rt_call rfl rfl rfl rfl (m_X5_isBall (x0)) rfl rfl rfl rfl rfl ?_
  refine rt_ifP rfl (fun h4 => ?_) (fun h4 => ?_)
  · have h4 : ¬ (v_X5_isBall σ x0) = 0 := h4
    rw [if_pos h4]
    refine rt_step rfl rfl rfl ?_
    refine rt_step rfl rfl rfl ?_
    exact rt_end rfl rfl rfl
  · have h4 : ¬ (¬ (v_X5_isBall σ x0) = 0) := h4
    rw [if_neg h4]
    refine rt_step rfl rfl rfl ?_
    refine rt_step rfl rfl rfl ?_
    refine rt_icP rfl (fun h10 => ?_) (fun h10 => ?_)
    · have h10 : x0 = (119 : Int32) := h10
      rw [if_pos h10]
      refine rt_step rfl rfl rfl ?_
      refine rt_step rfl rfl rfl ?_
      exact rt_end rfl rfl rfl
    · have h10 : ¬ (x0 = (119 : Int32)) := h10
      rw [if_neg h10]
      refine rt_step rfl rfl rfl ?_
      refine rt_step rfl rfl rfl ?_
      refine rt_icP rfl (fun h16 => ?_) (fun h16 => ?_)
      · have h16 : x0 = (110 : Int32) := h16
        rw [if_pos h16]
        refine rt_step rfl rfl rfl ?_
        refine rt_step rfl rfl rfl ?_
        exact rt_end rfl rfl rfl
      · have h16 : ¬ (x0 = (110 : Int32)) := h16
        rw [if_neg h16]
        refine rt_step rfl rfl rfl ?_
        refine rt_step rfl rfl rfl ?_
        refine rt_icP rfl (fun h22 => ?_) (fun h22 => ?_)
        · have h22 : x0 = (99 : Int32) := h22
          rw [if_pos h22]
          refine rt_step rfl rfl rfl ?_
          refine rt_step rfl rfl rfl ?_
          exact rt_end rfl rfl rfl
        · have h22 : ¬ (x0 = (99 : Int32)) := h22
          rw [if_neg h22]
          refine rt_step rfl rfl rfl ?_
          refine rt_step rfl rfl rfl ?_
          refine rt_icP rfl (fun h28 => ?_) (fun h28 => ?_)
          · have h28 : x0 = (100 : Int32) := h28
            rw [if_pos h28]
            refine rt_step rfl rfl rfl ?_
            refine rt_step rfl rfl rfl ?_
            exact rt_end rfl rfl rfl
          · have h28 : ¬ (x0 = (100 : Int32)) := h28
            rw [if_neg h28]
            refine rt_step rfl rfl rfl ?_
            refine rt_step rfl rfl rfl ?_
            refine rt_icP rfl (fun h34 => ?_) (fun h34 => ?_)
            · have h34 : ¬ x0 = (47 : Int32) := h34
              rw [if_pos h34]
              refine rt_step rfl rfl rfl ?_
              exact rt_end rfl rfl rfl
            · have h34 : ¬ (¬ x0 = (47 : Int32)) := h34
              rw [if_neg h34]
              refine rt_step rfl rfl rfl ?_
              refine rt_step rfl rfl rfl ?_
              exact rt_end rfl rfl rfl
def v_X5_end (σ : sg_S) (x0 : Int32) : Int32 := (if ¬ (v_X5_in (sg_up σ 35 0 (0 : Int32)) x0 (0 : Int32) ((sg_up σ 35 0 (0 : Int32)) 35 26)) = 0 then (1 : Int32) else (0 : Int32))
def s_X5_end (σ : sg_S) (x0 : Int32) : sg_S := (if ¬ (v_X5_in (sg_up σ 35 0 (0 : Int32)) x0 (0 : Int32) ((sg_up σ 35 0 (0 : Int32)) 35 26)) = 0 then (sg_up (sg_up σ 35 0 (0 : Int32)) 35 26 x0) else (sg_up σ 35 0 (0 : Int32)))
theorem m_X5_end {ro : List (List Int32)} {σ : sg_S} (x0 : Int32) : Rt ro 150 0 [some (rf 35), some (.inl x0)] [] σ [.inl (v_X5_end σ x0)] (s_X5_end σ x0) := by
  unfold v_X5_end s_X5_end
  refine rt_step rfl rfl rfl ?_
  refine rt_step rfl rfl rfl ?_
  refine rt_pf rfl (by decide) rfl (by decide) (by decide) rfl ?_
  refine rt_step rfl rfl rfl ?_
  refine rt_step rfl rfl rfl ?_
  refine rt_step rfl rfl rfl ?_
  refine rt_gf rfl (by decide) rfl (by decide) ?_
  refine rt_call rfl rfl rfl rfl (m_X5_in (x0) (0 : Int32) ((sg_up σ 35 0 (0 : Int32)) 35 26)) rfl rfl rfl rfl rfl ?_
  refine rt_ifP rfl (fun h14 => ?_) (fun h14 => ?_)
  · have h14 : ¬ (v_X5_in (sg_up σ 35 0 (0 : Int32)) x0 (0 : Int32) ((sg_up σ 35 0 (0 : Int32)) 35 26)) = 0 := h14
    rw [if_pos h14]
    rw [if_pos h14]
    refine rt_step rfl rfl rfl ?_
    refine rt_step rfl rfl rfl ?_
    refine rt_pf rfl (by decide) rfl (by decide) (by decide) rfl ?_
    refine rt_step rfl rfl rfl ?_
    exact rt_end rfl rfl rfl
  · have h14 : ¬ (¬ (v_X5_in (sg_up σ 35 0 (0 : Int32)) x0 (0 : Int32) ((sg_up σ 35 0 (0 : Int32)) 35 26)) = 0) := h14
    rw [if_neg h14]
    rw [if_neg h14]
    refine rt_step rfl rfl rfl ?_
    exact rt_end rfl rfl rfl
def v_X5_fails (σ : sg_S) (x0 : Int32) (x1 : Int32) : Int32 := (0 : Int32)
def s_X5_fails (σ : sg_S) (x0 : Int32) (x1 : Int32) : sg_S := (sg_up σ 35 29 (x0 + ((8 : Int32) * x1)))
theorem m_X5_fails {ro : List (List Int32)} {σ : sg_S} (x0 : Int32) (x1 : Int32) : Rt ro 152 0 [some (rf 35), some (.inl x0), some (.inl x1)] [] σ [.inl (v_X5_fails σ x0 x1)] (s_X5_fails σ x0 x1) := by
  unfold v_X5_fails s_X5_fails
  refine rt_step rfl rfl rfl ?_
  refine rt_step rfl rfl rfl ?_
  refine rt_step rfl rfl rfl ?_
  refine rt_step rfl rfl rfl ?_
  refine rt_step rfl rfl rfl ?_
  refine rt_step rfl rfl rfl ?_
  refine rt_pf rfl (by decide) rfl (by decide) (by decide) rfl ?_
  refine rt_step rfl rfl rfl ?_
  exact rt_end rfl rfl rfl
def s_X5_beginsText (σ : sg_S) : sg_S := (sg_up (sg_up (sg_up (sg_up σ 35 0 (0 : Int32)) 35 28 (0 : Int32)) 35 29 (0 : Int32)) 35 31 (0 : Int32))
theorem m_X5_beginsText {ro : List (List Int32)} {σ : sg_S} : Rt ro 158 0 [some (rf 35)] [] σ [] (s_X5_beginsText σ) := by
  unfold s_X5_beginsText
  refine rt_step rfl rfl rfl ?_
  refine rt_step rfl rfl rfl ?_
  refine rt_pf rfl (by decide) rfl (by decide) (by decide) rfl ?_
  refine rt_step rfl rfl rfl ?_
  refine rt_step rfl rfl rfl ?_
  refine rt_pf rfl (by decide) rfl (by decide) (by decide) rfl ?_
  refine rt_step rfl rfl rfl ?_
  refine rt_step rfl rfl rfl ?_
  refine rt_pf rfl (by decide) rfl (by decide) (by decide) rfl ?_
  refine rt_step rfl rfl rfl ?_
  refine rt_step rfl rfl rfl ?_
  refine rt_pf rfl (by decide) rfl (by decide) (by decide) rfl ?_
  exact rt_end rfl rfl rfl
def v_X5_fault (σ : sg_S) : Int32 := ((sg_up σ 35 0 (0 : Int32)) 35 27)
def s_X5_fault (σ : sg_S) : sg_S := (sg_up σ 35 0 (0 : Int32))
theorem m_X5_fault {ro : List (List Int32)} {σ : sg_S} : Rt ro 161 0 [some (rf 35)] [] σ [.inl (v_X5_fault σ)] (s_X5_fault σ) := by
  unfold v_X5_fault s_X5_fault
  refine rt_step rfl rfl rfl ?_
  refine rt_step rfl rfl rfl ?_
  refine rt_pf rfl (by decide) rfl (by decide) (by decide) rfl ?_
  refine rt_step rfl rfl rfl ?_
  refine rt_gf rfl (by decide) rfl (by decide) ?_
  exact rt_end rfl rfl rfl
def v_X5_back (σ : sg_S) : Int32 := (if ¬ ((sg_up σ 35 0 (0 : Int32)) 35 6) = 0 then ((sg_up (sg_up σ 35 0 (0 : Int32)) 35 6 (((sg_up σ 35 0 (0 : Int32)) 35 6) - (1 : Int32))) 35 6) else ((-1) : Int32))
def s_X5_back (σ : sg_S) : sg_S := (if ¬ ((sg_up σ 35 0 (0 : Int32)) 35 6) = 0 then (sg_up (sg_up σ 35 0 (0 : Int32)) 35 6 (((sg_up σ 35 0 (0 : Int32)) 35 6) - (1 : Int32))) else (sg_up σ 35 0 (0 : Int32)))
theorem m_X5_back {ro : List (List Int32)} {σ : sg_S} : Rt ro 164 0 [some (rf 35)] [] σ [.inl (v_X5_back σ)] (s_X5_back σ) := by
  unfold v_X5_back s_X5_back
  refine rt_step rfl rfl rfl ?_
  refine rt_step rfl rfl rfl ?_
  refine rt_pf rfl (by decide) rfl (by decide) (by decide) rfl ?_
  refine rt_step rfl rfl rfl ?_
  refine rt_gf rfl (by decide) rfl (by decide) ?_
  refine rt_ifP rfl (fun h9 => ?_) (fun h9 => ?_)
  · have h9 : ¬ ((sg_up σ 35 0 (0 : Int32)) 35 6) = 0 := h9
    rw [if_pos h9]
    rw [if_pos h9]
    refine rt_step rfl rfl rfl ?_
    refine rt_step rfl rfl rfl ?_
    refine rt_gf rfl (by decide) rfl (by decide) ?_
    refine rt_step rfl rfl rfl ?_
    refine rt_step rfl rfl rfl ?_
    refine rt_pf rfl (by decide) rfl (by decide) (by decide) rfl ?_
    refine rt_step rfl rfl rfl ?_
    refine rt_gf rfl (by decide) rfl (by decide) ?_
    exact rt_end rfl rfl rfl
  · have h9 : ¬ (¬ ((sg_up σ 35 0 (0 : Int32)) 35 6) = 0) := h9
    rw [if_neg h9]
    rw [if_neg h9]
    refine rt_step rfl rfl rfl ?_
    exact rt_end rfl rfl rfl
def v_X5_clear (σ : sg_S) : Int32 := ((sg_up σ 35 0 (0 : Int32)) 35 6)
def s_X5_clear (σ : sg_S) : sg_S := (sg_up (sg_up σ 35 0 (0 : Int32)) 35 6 (0 : Int32))
theorem m_X5_clear {ro : List (List Int32)} {σ : sg_S} : Rt ro 165 0 [some (rf 35), none] [] σ [.inl (v_X5_clear σ)] (s_X5_clear σ) := by
  unfold v_X5_clear s_X5_clear
  refine rt_step rfl rfl rfl ?_
  refine rt_step rfl rfl rfl ?_
  refine rt_pf rfl (by decide) rfl (by decide) (by decide) rfl ?_
  refine rt_step rfl rfl rfl ?_
  refine rt_gf rfl (by decide) rfl (by decide) ?_
  refine rt_step rfl rfl rfl ?_
  refine rt_step rfl rfl rfl ?_
  refine rt_step rfl rfl rfl ?_
  refine rt_pf rfl (by decide) rfl (by decide) (by decide) rfl ?_
  refine rt_step rfl rfl rfl ?_
  exact rt_end rfl rfl rfl
def v_X5_more (σ : sg_S) (x0 : Int32) (x1 : Int32) : Int32 := (if x0 ≤ x1 then (if x1 ≤ x0 then (0 : Int32) else (2 : Int32)) else (1 : Int32))
theorem m_X5_more {ro : List (List Int32)} {σ : sg_S} (x0 : Int32) (x1 : Int32) : Rt ro 197 0 [some (.inl x0), some (.inl x1)] [] σ [.inl (v_X5_more σ x0 x1)] σ := by
  unfold v_X5_more
  refine rt_step rfl rfl rfl ?_
  refine rt_step rfl rfl rfl ?_
  refine rt_icP rfl (fun h2 => ?_) (fun h2 => ?_)
  · have h2 : x0 ≤ x1 := h2
    rw [if_pos h2]
    refine rt_step rfl rfl rfl ?_
    refine rt_step rfl rfl rfl ?_
    refine rt_icP rfl (fun h11 => ?_) (fun h11 => ?_)
    · have h11 : x1 ≤ x0 := h11
      rw [if_pos h11]
      refine rt_step rfl rfl rfl ?_
      exact rt_end rfl rfl rfl
    · have h11 : ¬ (x1 ≤ x0) := h11
      rw [if_neg h11]
      refine rt_step rfl rfl rfl ?_
      refine rt_step rfl rfl rfl ?_
      exact rt_end rfl rfl rfl
  · have h2 : ¬ (x0 ≤ x1) := h2
    rw [if_neg h2]
    refine rt_step rfl rfl rfl ?_
    refine rt_step rfl rfl rfl ?_
    exact rt_end rfl rfl rfl
def v_X4_isEvent (σ : sg_S) (x0 : Int32) : Int32 := (if x0 < (48 : Int32) then (if x0 = (120 : Int32) then (1 : Int32) else (if x0 = (119 : Int32) then (1 : Int32) else (if x0 = (110 : Int32) then (1 : Int32) else (if x0 = (47 : Int32) then (1 : Int32) else (if (v_X4_bearsNumber σ x0) = 0 then (0 : Int32) else (1 : Int32)))))) else (if x0 ≤ (54 : Int32) then (1 : Int32) else (if x0 = (120 : Int32) then (1 : Int32) else (if x0 = (119 : Int32) then (1 : Int32) else (if x0 = (110 : Int32) then (1 : Int32) else (if x0 = (47 : Int32) then (1 : Int32) else (if (v_X4_bearsNumber σ x0) = 0 then (0 : Int32) else (1 : Int32))))))))
theorem m_X4_isEvent {ro : List (List Int32)} {σ : sg_S} (x0 : Int32) : Rt ro 116 0 [some (.inl x0)] [] σ [.inl (v_X4_isEvent σ x0)] σ := by
  unfold v_X4_isEvent
  refine rt_step rfl rfl rfl ?_
  refine rt_step rfl rfl rfl ?_
  refine rt_icP rfl (fun h3 => ?_) (fun h3 => ?_)
  · have h3 : x0 < (48 : Int32) := h3
    rw [if_pos h3]
    refine rt_step rfl rfl rfl ?_
    refine rt_step rfl rfl rfl ?_
    refine rt_icP rfl (fun h15 => ?_) (fun h15 => ?_)
    · have h15 : x0 = (120 : Int32) := h15
      rw [if_pos h15]
      refine rt_step rfl rfl rfl ?_
      refine rt_step rfl rfl rfl ?_
      exact rt_end rfl rfl rfl
    · have h15 : ¬ (x0 = (120 : Int32)) := h15
      rw [if_neg h15]
      refine rt_step rfl rfl rfl ?_
      refine rt_step rfl rfl rfl ?_
      refine rt_icP rfl (fun h21 => ?_) (fun h21 => ?_)
      · have h21 : x0 = (119 : Int32) := h21
        rw [if_pos h21]
        refine rt_step rfl rfl rfl ?_
        refine rt_step rfl rfl rfl ?_
        exact rt_end rfl rfl rfl
      · have h21 : ¬ (x0 = (119 : Int32)) := h21
        rw [if_neg h21]
        refine rt_step rfl rfl rfl ?_
        refine rt_step rfl rfl rfl ?_
        refine rt_icP rfl (fun h27 => ?_) (fun h27 => ?_)
        · have h27 : x0 = (110 : Int32) := h27
          rw [if_pos h27]
          refine rt_step rfl rfl rfl ?_
          refine rt_step rfl rfl rfl ?_
          exact rt_end rfl rfl rfl
        · have h27 : ¬ (x0 = (110 : Int32)) := h27
          rw [if_neg h27]
          refine rt_step rfl rfl rfl ?_
          refine rt_step rfl rfl rfl ?_
          refine rt_icP rfl (fun h33 => ?_) (fun h33 => ?_)
          · have h33 : x0 = (47 : Int32) := h33
            rw [if_pos h33]
            refine rt_step rfl rfl rfl ?_
            refine rt_step rfl rfl rfl ?_
            exact rt_end rfl rfl rfl
          · have h33 : ¬ (x0 = (47 : Int32)) := h33
            rw [if_neg h33]
            refine rt_step rfl rfl rfl ?_
            refine rt_call rfl rfl rfl rfl (m_X4_bearsNumber (x0)) rfl rfl rfl rfl rfl ?_
            refine rt_ifP rfl (fun h40 => ?_) (fun h40 => ?_)
            · have h40 : (v_X4_bearsNumber σ x0) = 0 := h40
              rw [if_pos h40]
              refine rt_step rfl rfl rfl ?_
              exact rt_end rfl rfl rfl
            · have h40 : ¬ ((v_X4_bearsNumber σ x0) = 0) := h40
              rw [if_neg h40]
              refine rt_step rfl rfl rfl ?_
              refine rt_step rfl rfl rfl ?_
              exact rt_end rfl rfl rfl
  · have h3 : ¬ (x0 < (48 : Int32)) := h3
    rw [if_neg h3]
    refine rt_step rfl rfl rfl ?_
    refine rt_step rfl rfl rfl ?_
    refine rt_icP rfl (fun h9 => ?_) (fun h9 => ?_)
    · have h9 : x0 ≤ (54 : Int32) := h9
      rw [if_pos h9]
      refine rt_step rfl rfl rfl ?_
      refine rt_step rfl rfl rfl ?_
      exact rt_end rfl rfl rfl
    · have h9 : ¬ (x0 ≤ (54 : Int32)) := h9
      rw [if_neg h9]
      refine rt_step rfl rfl rfl ?_
      refine rt_step rfl rfl rfl ?_
      refine rt_icP rfl (fun h15 => ?_) (fun h15 => ?_)
      · have h15 : x0 = (120 : Int32) := h15
        rw [if_pos h15]
        refine rt_step rfl rfl rfl ?_
        refine rt_step rfl rfl rfl ?_
        exact rt_end rfl rfl rfl
      · have h15 : ¬ (x0 = (120 : Int32)) := h15
        rw [if_neg h15]
        refine rt_step rfl rfl rfl ?_
        refine rt_step rfl rfl rfl ?_
        refine rt_icP rfl (fun h21 => ?_) (fun h21 => ?_)
        · have h21 : x0 = (119 : Int32) := h21
          rw [if_pos h21]
          refine rt_step rfl rfl rfl ?_
          refine rt_step rfl rfl rfl ?_
          exact rt_end rfl rfl rfl
        · have h21 : ¬ (x0 = (119 : Int32)) := h21
          rw [if_neg h21]
          refine rt_step rfl rfl rfl ?_
          refine rt_step rfl rfl rfl ?_
          refine rt_icP rfl (fun h27 => ?_) (fun h27 => ?_)
          · have h27 : x0 = (110 : Int32) := h27
            rw [if_pos h27]
            refine rt_step rfl rfl rfl ?_
            refine rt_step rfl rfl rfl ?_
            exact rt_end rfl rfl rfl
          · have h27 : ¬ (x0 = (110 : Int32)) := h27
            rw [if_neg h27]
            refine rt_step rfl rfl rfl ?_
            refine rt_step rfl rfl rfl ?_
            refine rt_icP rfl (fun h33 => ?_) (fun h33 => ?_)
            · have h33 : x0 = (47 : Int32) := h33
              rw [if_pos h33]
              refine rt_step rfl rfl rfl ?_
              refine rt_step rfl rfl rfl ?_
              exact rt_end rfl rfl rfl
            · have h33 : ¬ (x0 = (47 : Int32)) := h33
              rw [if_neg h33]
              refine rt_step rfl rfl rfl ?_
              refine rt_call rfl rfl rfl rfl (m_X4_bearsNumber (x0)) rfl rfl rfl rfl rfl ?_
              refine rt_ifP rfl (fun h40 => ?_) (fun h40 => ?_)
              · have h40 : (v_X4_bearsNumber σ x0) = 0 := h40
                rw [if_pos h40]
                refine rt_step rfl rfl rfl ?_
                exact rt_end rfl rfl rfl
              · have h40 : ¬ ((v_X4_bearsNumber σ x0) = 0) := h40
                rw [if_neg h40]
                refine rt_step rfl rfl rfl ?_
                refine rt_step rfl rfl rfl ?_
                exact rt_end rfl rfl rfl
