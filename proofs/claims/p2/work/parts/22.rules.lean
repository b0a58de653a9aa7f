section Meths
variable {ro : List (List Int32)} {σ : sg_S}
theorem m_full : Rt ro 48 0 [some (.inr (.inr (.inl (some 1))))] [] σ [.inl (30 * σ 2 4)] σ := by
  refine rt_step rfl rfl rfl ?_
  refine rt_step rfl rfl rfl ?_
  refine rt_gf rfl (by decide) rfl (by decide) ?_
  refine rt_step rfl rfl rfl ?_
  refine rt_al rfl (by decide) rfl (by decide) (by decide) ?_
  refine rt_step rfl rfl rfl ?_
  exact rt_end rfl rfl rfl
end Meths
