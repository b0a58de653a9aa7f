section MRules
variable {ro : List (List Int32)} {σ : sg_S}
abbrev rf (q : Nat) : ip_V Int32 := .inr (.inr (.inl (some q)))
theorem m_full : Rt ro 48 0 [some (rf 1)] [] σ [.inl (30 * σ 2 4)] σ := by
  refine rt_step rfl rfl rfl ?_
  refine rt_step rfl rfl rfl ?_
  refine rt_gf rfl (by decide) rfl (by decide) ?_
  refine rt_step rfl rfl rfl ?_
  refine rt_al rfl (by decide) rfl (by decide) (by decide) ?_
  refine rt_step rfl rfl rfl ?_
  exact rt_end rfl rfl rfl
theorem ix_lt {i n : Int32} {N : Nat} (h0 : ¬ i < 0) (h1 : ¬ n ≤ i) (hN : n.toInt = N) : i.toNatClampNeg < N := by
  rw [Int32.lt_iff_toInt_lt] at h0
  rw [Int32.le_iff_toInt_le] at h1
  have e0 : (0 : Int32).toInt = 0 := rfl
  rw [e0] at h0
  show i.toInt.toNat < N
  omega
def f_setting (σ : sg_S) (s : Int32) : Int32 := if s < 0 then -1 else if 5 ≤ s then -1 else σ 4 s.toNatClampNeg
theorem m_setting (s : Int32) : Rt ro 50 0 [some (rf 1), some (.inl s)] [] σ [.inl (f_setting σ s)] σ := by
  unfold f_setting
  refine rt_step rfl rfl rfl ?_
  refine rt_ifP rfl (fun h => ?_) (fun h => ?_)
  · have h : s < 0 := h
    rw [if_pos h]
    refine rt_step rfl rfl rfl ?_
    exact rt_end rfl rfl rfl
  · have h : ¬ s < 0 := h
    rw [if_neg h]
    refine rt_step rfl rfl rfl ?_
    refine rt_step rfl rfl rfl ?_
    refine rt_icP rfl (fun h2 => ?_) (fun h2 => ?_)
    · have h2 : 5 ≤ s := h2
      rw [if_pos h2]
      refine rt_step rfl rfl rfl ?_
      exact rt_end rfl rfl rfl
    · have h2 : ¬ 5 ≤ s := h2
      rw [if_neg h2]
      refine rt_step rfl rfl rfl ?_
      refine rt_gf rfl (by decide) rfl (by decide) ?_
      refine rt_step rfl rfl rfl ?_
      refine rt_al rfl (by decide) rfl h (ix_lt h h2 rfl) ?_
      refine rt_step rfl rfl rfl ?_
      exact rt_end rfl rfl rfl
end MRules
