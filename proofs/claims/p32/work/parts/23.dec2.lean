noncomputable def v_X5_targetOf (σ : sg_S) (x0 : Int32) (x1 : Int32) : Int32 := (if (σ 45 0) ≤ x1 then ((x0 + (((σ 36 1) * (x1 - (σ 45 0))) / (v_X5_full σ))) + (1 : Int32)) else (((x0 * x1) / (σ 45 0)) + (1 : Int32)))
noncomputable def p_X5_targetOf (σ : sg_S) (x0 : Int32) (x1 : Int32) : Prop := (((σ 45 0) ≤ x1 → ¬ (v_X5_full σ) = 0) ∧ (¬ ((σ 45 0) ≤ x1) → ¬ (σ 45 0) = 0))
theorem m_X5_targetOf {s : List Int32} {σ : sg_S} (x0 : Int32) (x1 : Int32) (hp : p_X5_targetOf σ x0 x1) : Ct s 133 [rf 35, .inl x0, .inl x1] σ [.inl (v_X5_targetOf σ x0 x1)] σ := by
  refine ct_v (la := [some (rf 35), some (.inl x0), some (.inl x1), none]) Kq_35 rfl rfl rfl rfl rfl rfl rfl (cgV ?_)
  unfold v_X5_targetOf
  unfold p_X5_targetOf at hp
  refine rt_lna rfl rfl ?_
  refine rt_gfr rfl Kq_35 (by decide) rfl ?_
  refine rt_k1 rfl ck1_0 ?_
  refine rt_al (k0 := 0) rfl Kq_45 ⟨by decide, by decide⟩ rfl ?_
  refine rt_sn (la1 := [some (rf 35), some (.inl x0), some (.inl x1), some (.inl (σ 45 0))]) rfl rfl rfl ?_
  refine rt_ln rfl rfl ?_
  refine rt_ln rfl rfl ?_
  refine rt_ic rfl rfl (fun h => ?_) (fun h => ?_)
  · replace hp := hp.1 h
    refine rt_ln rfl rfl ?_
    refine rt_lna rfl rfl ?_
    refine rt_gfr rfl Kq_35 (by decide) rfl ?_
    refine rt_k1 rfl ck1_1 ?_
    refine rt_al (k0 := 1) rfl Kq_36 ⟨by decide, by decide⟩ rfl ?_
    refine rt_ln rfl rfl ?_
    refine rt_ln rfl rfl ?_
    refine rt_sub rfl ?_
    refine rt_mul rfl ?_
    refine rt_lna rfl rfl ?_
    refine rt_iv (σ1 := σ) rfl rfl rfl (m_X5_full) ?_
    show RtF bk (fV σ) s 133 37 [some (rf 35), some (.inl x0), some (.inl x1), some (.inl (σ 45 0))] [.inl (v_X5_full σ), .inl ((σ 36 1) * (x1 - (σ 45 0))), .inl x0] σ _
    refine rt_div rfl hp ?_
    refine rt_add rfl ?_
    refine rt_k1 rfl ck1_1 ?_
    refine rt_add rfl ?_
    exact rt_eV rfl
  · replace hp := hp.2 h
    refine rt_ln rfl rfl ?_
    refine rt_ln rfl rfl ?_
    refine rt_mul rfl ?_
    refine rt_ln rfl rfl ?_
    refine rt_div rfl hp ?_
    refine rt_k1 rfl ck1_1 ?_
    refine rt_add rfl ?_
    refine rt_go rfl ?_
    exact rt_eV rfl
noncomputable def v_X5_hasTarget (σ : sg_S) : Int32 := (if (σ 35 23) ≤ 0 then (0 : Int32) else (if (σ 45 0) ≤ 0 then (0 : Int32) else (1 : Int32)))
theorem m_X5_hasTarget {s : List Int32} {σ : sg_S} : Ct s 134 [rf 35] σ [.inl (v_X5_hasTarget σ)] σ := by
  refine ct_v (la := [some (rf 35)]) Kq_35 rfl rfl rfl rfl rfl rfl rfl (cgV ?_)
  unfold v_X5_hasTarget
  refine rt_lna rfl rfl ?_
  refine rt_gfi rfl Kq_35 (by decide) rfl rfl ?_
  refine rt_if rfl rfl (fun h => ?_) (fun h => ?_)
  · refine rt_k1 rfl ck1_0 ?_
    exact rt_eVb rfl (Or.inl rfl)
  · refine rt_lna rfl rfl ?_
    refine rt_gfr rfl Kq_35 (by decide) rfl ?_
    refine rt_k1 rfl ck1_0 ?_
    refine rt_al (k0 := 0) rfl Kq_45 ⟨by decide, by decide⟩ rfl ?_
    refine rt_if rfl rfl (fun h => ?_) (fun h => ?_)
    · refine rt_k1 rfl ck1_0 ?_
      exact rt_eVb rfl (Or.inl rfl)
    · refine rt_k1 rfl ck1_1 ?_
      refine rt_go rfl ?_
      exact rt_eVb rfl (Or.inr rfl)
noncomputable def v_X5_partOfSecond (σ : sg_S) : Int32 := ((σ 45 1) + (σ 46 1))
theorem m_X5_partOfSecond {s : List Int32} {σ : sg_S} : Ct s 135 [rf 35] σ [.inl (v_X5_partOfSecond σ)] σ := by
  refine ct_v (la := [some (rf 35)]) Kq_35 rfl rfl rfl rfl rfl rfl rfl (cgV ?_)
  unfold v_X5_partOfSecond
  refine rt_lna rfl rfl ?_
  refine rt_gfr rfl Kq_35 (by decide) rfl ?_
  refine rt_k1 rfl ck1_1 ?_
  refine rt_al (k0 := 1) rfl Kq_45 ⟨by decide, by decide⟩ rfl ?_
  refine rt_lna rfl rfl ?_
  refine rt_gfr rfl Kq_35 (by decide) rfl ?_
  refine rt_k1 rfl ck1_1 ?_
  refine rt_al (k0 := 1) rfl Kq_46 ⟨by decide, by decide⟩ rfl ?_
  refine rt_add rfl ?_
  exact rt_eV rfl
noncomputable def v_X5_theTarget (σ : sg_S) : Int32 := (v_X5_targetOf σ (σ 41 0) (v_X5_partOfSecond σ))
noncomputable def p_X5_theTarget (σ : sg_S) : Prop := p_X5_targetOf σ (σ 41 0) (v_X5_partOfSecond σ)
theorem m_X5_theTarget {s : List Int32} {σ : sg_S} (hp : p_X5_theTarget σ) : Ct s 136 [rf 35] σ [.inl (v_X5_theTarget σ)] σ := by
  refine ct_v (la := [some (rf 35)]) Kq_35 rfl rfl rfl rfl rfl rfl rfl (cgV ?_)
  unfold v_X5_theTarget
  unfold p_X5_theTarget at hp
  refine rt_lna rfl rfl ?_
  refine rt_lna rfl rfl ?_
  refine rt_gfr rfl Kq_35 (by decide) rfl ?_
  refine rt_k1 rfl ck1_0 ?_
  refine rt_al (k0 := 0) rfl Kq_41 ⟨by decide, by decide⟩ rfl ?_
  refine rt_lna rfl rfl ?_
  refine rt_iv (σ1 := σ) rfl rfl rfl (m_X5_partOfSecond) ?_
  show RtF bk (fV σ) s 136 11 [some (rf 35)] [.inl (v_X5_partOfSecond σ), .inl (σ 41 0), rf 35] σ _
  refine rt_iv (σ1 := σ) rfl rfl rfl (m_X5_targetOf (σ 41 0) (v_X5_partOfSecond σ) hp) ?_
  show RtF bk (fV σ) s 136 14 [some (rf 35)] [.inl (v_X5_targetOf σ (σ 41 0) (v_X5_partOfSecond σ))] σ _
  exact rt_eV rfl
noncomputable def v_X5_thePar (σ : sg_S) (x0 : Int32) : Int32 := ((v_X5_targetOf σ x0 ((v_X5_partOfSecond σ) - (v_X5_leftWorth σ (1 : Int32)))) - (1 : Int32))
noncomputable def p_X5_thePar (σ : sg_S) (x0 : Int32) : Prop := (p_X5_leftWorth σ (1 : Int32) ∧ p_X5_targetOf σ x0 ((v_X5_partOfSecond σ) - (v_X5_leftWorth σ (1 : Int32))))
theorem m_X5_thePar {s : List Int32} {σ : sg_S} (x0 : Int32) (hp : p_X5_thePar σ x0) : Ct s 137 [rf 35, .inl x0] σ [.inl (v_X5_thePar σ x0)] σ := by
  refine ct_v (la := [some (rf 35), some (.inl x0)]) Kq_35 rfl rfl rfl rfl rfl rfl rfl (cgV ?_)
  unfold v_X5_thePar
  unfold p_X5_thePar at hp
  refine rt_lna rfl rfl ?_
  refine rt_ln rfl rfl ?_
  refine rt_lna rfl rfl ?_
  refine rt_iv (σ1 := σ) rfl rfl rfl (m_X5_partOfSecond) ?_
  show RtF bk (fV σ) s 137 6 [some (rf 35), some (.inl x0)] [.inl (v_X5_partOfSecond σ), .inl x0, rf 35] σ _
  refine rt_lna rfl rfl ?_
  refine rt_k1 rfl ck1_1 ?_
  refine rt_iv (σ1 := σ) rfl rfl rfl (m_X5_leftWorth (1 : Int32) hp.1) ?_
  show RtF bk (fV σ) s 137 11 [some (rf 35), some (.inl x0)] [.inl (v_X5_leftWorth σ (1 : Int32)), .inl (v_X5_partOfSecond σ), .inl x0, rf 35] σ _
  replace hp := hp.2
  refine rt_sub rfl ?_
  refine rt_iv (σ1 := σ) rfl rfl rfl (m_X5_targetOf x0 ((v_X5_partOfSecond σ) - (v_X5_leftWorth σ (1 : Int32))) hp) ?_
  show RtF bk (fV σ) s 137 15 [some (rf 35), some (.inl x0)] [.inl (v_X5_targetOf σ x0 ((v_X5_partOfSecond σ) - (v_X5_leftWorth σ (1 : Int32))))] σ _
  refine rt_k1 rfl ck1_1 ?_
  refine rt_sub rfl ?_
  exact rt_eV rfl
noncomputable def v_X5_mayCut (σ : sg_S) (x0 : Int32) : Int32 := (if x0 < (1 : Int32) then (0 : Int32) else (if (σ 44 (ni (σ 35 23))) ≤ x0 then (0 : Int32) else (if ((6 : Int32) * x0) < (σ 43 (ni (σ 35 23))) then (0 : Int32) else (1 : Int32))))
noncomputable def p_X5_mayCut (σ : sg_S) (x0 : Int32) : Prop := (¬ (x0 < (1 : Int32)) → (ix (σ 35 23) 2 ∧ (¬ ((σ 44 (ni (σ 35 23))) ≤ x0) → ix (σ 35 23) 2)))
theorem m_X5_mayCut {s : List Int32} {σ : sg_S} (x0 : Int32) (hp : p_X5_mayCut σ x0) : Ct s 138 [rf 35, .inl x0] σ [.inl (v_X5_mayCut σ x0)] σ := by
  refine ct_v (la := [some (rf 35), some (.inl x0)]) Kq_35 rfl rfl rfl rfl rfl rfl rfl (cgV ?_)
  unfold v_X5_mayCut
  unfold p_X5_mayCut at hp
  refine rt_ln rfl rfl ?_
  refine rt_k1 rfl ck1_1 ?_
  refine rt_ic rfl rfl (fun h => ?_) (fun h => ?_)
  · refine rt_k1 rfl ck1_0 ?_
    exact rt_eVb rfl (Or.inl rfl)
  · replace hp := hp h
    refine rt_ln rfl rfl ?_
    refine rt_lna rfl rfl ?_
    refine rt_gfr rfl Kq_35 (by decide) rfl ?_
    refine rt_lna rfl rfl ?_
    refine rt_gfi rfl Kq_35 (by decide) rfl rfl ?_
    refine rt_al rfl Kq_44 hp.1 rfl ?_
    replace hp := hp.2
    refine rt_ic rfl rfl (fun h => ?_) (fun h => ?_)
    · refine rt_k1 rfl ck1_0 ?_
      exact rt_eVb rfl (Or.inl rfl)
    · replace hp := hp h
      refine rt_k2 rfl ck2_6 ?_
      refine rt_ln rfl rfl ?_
      refine rt_mul rfl ?_
      refine rt_lna rfl rfl ?_
      refine rt_gfr rfl Kq_35 (by decide) rfl ?_
      refine rt_lna rfl rfl ?_
      refine rt_gfi rfl Kq_35 (by decide) rfl rfl ?_
      refine rt_al rfl Kq_43 hp rfl ?_
      refine rt_ic rfl rfl (fun h => ?_) (fun h => ?_)
      · refine rt_k1 rfl ck1_0 ?_
        exact rt_eVb rfl (Or.inl rfl)
      · refine rt_k1 rfl ck1_1 ?_
        refine rt_go rfl ?_
        exact rt_eVb rfl (Or.inr rfl)
noncomputable def v_X5_mayDrop (σ : sg_S) (x0 : Int32) : Int32 := (if (v_X5_in x0 (1 : Int32) (20 : Int32)) = 0 then (0 : Int32) else (if (σ 44 1) ≤ x0 then (0 : Int32) else (1 : Int32)))
theorem m_X5_mayDrop {s : List Int32} {σ : sg_S} (x0 : Int32) : Ct s 139 [rf 35, .inl x0] σ [.inl (v_X5_mayDrop σ x0)] σ := by
  refine ct_v (la := [some (rf 35), some (.inl x0)]) Kq_35 rfl rfl rfl rfl rfl rfl rfl (cgV ?_)
  unfold v_X5_mayDrop
  refine rt_ln rfl rfl ?_
  refine rt_k1 rfl ck1_1 ?_
  refine rt_k2 rfl ck2_20 ?_
  refine rt_is (σ1 := σ) rfl rfl rfl (m_X5_in x0 (1 : Int32) (20 : Int32)) ?_
  show RtF bk (fV σ) s 139 7 [some (rf 35), some (.inl x0)] [.inl (v_X5_in x0 (1 : Int32) (20 : Int32))] σ _
  refine rt_if rfl rfl (fun h => ?_) (fun h => ?_)
  · refine rt_k1 rfl ck1_0 ?_
    exact rt_eVb rfl (Or.inl rfl)
  · refine rt_ln rfl rfl ?_
    refine rt_lna rfl rfl ?_
    refine rt_gfr rfl Kq_35 (by decide) rfl ?_
    refine rt_k1 rfl ck1_1 ?_
    refine rt_al (k0 := 1) rfl Kq_44 ⟨by decide, by decide⟩ rfl ?_
    refine rt_ic rfl rfl (fun h => ?_) (fun h => ?_)
    · refine rt_k1 rfl ck1_0 ?_
      exact rt_eVb rfl (Or.inl rfl)
    · refine rt_k1 rfl ck1_1 ?_
      refine rt_go rfl ?_
      exact rt_eVb rfl (Or.inr rfl)
noncomputable def v_X5_isEarly (σ : sg_S) : Int32 := (if (σ 35 23) = 0 then (1 : Int32) else (if ¬ (σ 35 23) = (1 : Int32) then (0 : Int32) else (if ¬ (σ 35 24) = 0 then (0 : Int32) else (1 : Int32))))
theorem m_X5_isEarly {s : List Int32} {σ : sg_S} : Ct s 140 [rf 35] σ [.inl (v_X5_isEarly σ)] σ := by
  refine ct_v (la := [some (rf 35)]) Kq_35 rfl rfl rfl rfl rfl rfl rfl (cgV ?_)
  unfold v_X5_isEarly
  refine rt_lna rfl rfl ?_
  refine rt_gfi rfl Kq_35 (by decide) rfl rfl ?_
  refine rt_if rfl rfl (fun h => ?_) (fun h => ?_)
  · refine rt_k1 rfl ck1_1 ?_
    refine rt_go rfl ?_
    exact rt_eVb rfl (Or.inr rfl)
  · refine rt_lna rfl rfl ?_
    refine rt_gfi rfl Kq_35 (by decide) rfl rfl ?_
    refine rt_k1 rfl ck1_1 ?_
    refine rt_ic rfl rfl (fun h => ?_) (fun h => ?_)
    · refine rt_k1 rfl ck1_0 ?_
      exact rt_eVb rfl (Or.inl rfl)
    · refine rt_lna rfl rfl ?_
      refine rt_gfi rfl Kq_35 (by decide) rfl rfl ?_
      refine rt_if rfl rfl (fun h => ?_) (fun h => ?_)
      · refine rt_k1 rfl ck1_0 ?_
        exact rt_eVb rfl (Or.inl rfl)
      · refine rt_k1 rfl ck1_1 ?_
        refine rt_go rfl ?_
        exact rt_eVb rfl (Or.inr rfl)
noncomputable def v_X5_isBall (x0 : Int32) : Int32 := (if ¬ (v_X5_in x0 (48 : Int32) (54 : Int32)) = 0 then (1 : Int32) else (if ¬ x0 = (120 : Int32) then (0 : Int32) else (1 : Int32)))
theorem m_X5_isBall {s : List Int32} {σ : sg_S} (x0 : Int32) : Ct s 141 [.inl x0] σ [.inl (v_X5_isBall x0)] σ := by
  refine ct_s (la := [some (.inl x0)]) rfl rfl rfl rfl rfl (cgV ?_)
  unfold v_X5_isBall
  refine rt_ln rfl rfl ?_
  refine rt_k2 rfl ck2_48 ?_
  refine rt_k2 rfl ck2_54 ?_
  refine rt_is (σ1 := σ) rfl rfl rfl (m_X5_in x0 (48 : Int32) (54 : Int32)) ?_
  show RtF bk (fV σ) s 141 8 [some (.inl x0)] [.inl (v_X5_in x0 (48 : Int32) (54 : Int32))] σ _
  refine rt_if rfl rfl (fun h => ?_) (fun h => ?_)
  · refine rt_k1 rfl ck1_1 ?_
    refine rt_go rfl ?_
    exact rt_eVb rfl (Or.inr rfl)
  · refine rt_ln rfl rfl ?_
    refine rt_k2 rfl ck2_120 ?_
    refine rt_ic rfl rfl (fun h => ?_) (fun h => ?_)
    · refine rt_k1 rfl ck1_0 ?_
      exact rt_eVb rfl (Or.inl rfl)
    · refine rt_k1 rfl ck1_1 ?_
      refine rt_go rfl ?_
      exact rt_eVb rfl (Or.inr rfl)
noncomputable def v_X5_isEvent (x0 : Int32) : Int32 := (if ¬ (v_X5_isBall x0) = 0 then (1 : Int32) else (if x0 = (119 : Int32) then (1 : Int32) else (if x0 = (110 : Int32) then (1 : Int32) else (if x0 = (99 : Int32) then (1 : Int32) else (if x0 = (100 : Int32) then (1 : Int32) else (if ¬ x0 = (47 : Int32) then (0 : Int32) else (1 : Int32)))))))
theorem m_X5_isEvent {s : List Int32} {σ : sg_S} (x0 : Int32) : Ct s 142 [.inl x0] σ [.inl (v_X5_isEvent x0)] σ := by
  refine ct_s (la := [some (.inl x0)]) rfl rfl rfl rfl rfl (cgV ?_)
  unfold v_X5_isEvent
  refine rt_ln rfl rfl ?_
  refine rt_is (σ1 := σ) rfl rfl rfl (m_X5_isBall x0) ?_
  show RtF bk (fV σ) s 142 4 [some (.inl x0)] [.inl (v_X5_isBall x0)] σ _
  refine rt_if rfl rfl (fun h => ?_) (fun h => ?_)
  · refine rt_k1 rfl ck1_1 ?_
    refine rt_go rfl ?_
    exact rt_eVb rfl (Or.inr rfl)
  · refine rt_ln rfl rfl ?_
    refine rt_k2 rfl ck2_119 ?_
    refine rt_ic rfl rfl (fun h => ?_) (fun h => ?_)
    · refine rt_k1 rfl ck1_1 ?_
      refine rt_go rfl ?_
      exact rt_eVb rfl (Or.inr rfl)
    · refine rt_ln rfl rfl ?_
      refine rt_k2 rfl ck2_110 ?_
      refine rt_ic rfl rfl (fun h => ?_) (fun h => ?_)
      · refine rt_k1 rfl ck1_1 ?_
        refine rt_go rfl ?_
        exact rt_eVb rfl (Or.inr rfl)
      · refine rt_ln rfl rfl ?_
        refine rt_k2 rfl ck2_99 ?_
        refine rt_ic rfl rfl (fun h => ?_) (fun h => ?_)
        · refine rt_k1 rfl ck1_1 ?_
          refine rt_go rfl ?_
          exact rt_eVb rfl (Or.inr rfl)
        · refine rt_ln rfl rfl ?_
          refine rt_k2 rfl ck2_100 ?_
          refine rt_ic rfl rfl (fun h => ?_) (fun h => ?_)
          · refine rt_k1 rfl ck1_1 ?_
            refine rt_go rfl ?_
            exact rt_eVb rfl (Or.inr rfl)
          · refine rt_ln rfl rfl ?_
            refine rt_k2 rfl ck2_47 ?_
            refine rt_ic rfl rfl (fun h => ?_) (fun h => ?_)
            · refine rt_k1 rfl ck1_0 ?_
              exact rt_eVb rfl (Or.inl rfl)
            · refine rt_k1 rfl ck1_1 ?_
              refine rt_go rfl ?_
              exact rt_eVb rfl (Or.inr rfl)
noncomputable def t_X5_bowls_0 (σ : sg_S) (x1_ : Int32) (x2_ : Int32) (x3_ : Int32) (y0_ : Int32) : sg_S := (sg_up (sg_up σ 53 (ni x3_) ((σ 53 (ni x3_)) + y0_)) 55 (ni x3_) (((sg_up σ 53 (ni x3_) ((σ 53 (ni x3_)) + y0_)) 55 (ni x3_)) + (1 : Int32)))
noncomputable def t_X5_bowls_1 (σ : sg_S) (x1_ : Int32) (x2_ : Int32) (x3_ : Int32) (y0_ : Int32) : sg_S := (sg_up (t_X5_bowls_0 σ x1_ x2_ x3_ y0_) 56 (ni (((7 : Int32) * x1_) + y0_)) (((t_X5_bowls_0 σ x1_ x2_ x3_ y0_) 56 (ni (((7 : Int32) * x1_) + y0_))) + (1 : Int32)))
noncomputable def t_X5_bowls_2 (σ : sg_S) (x1_ : Int32) (x2_ : Int32) (x3_ : Int32) (y0_ : Int32) : sg_S := (sg_up (t_X5_bowls_1 σ x1_ x2_ x3_ y0_) 41 (ni x1_) (((t_X5_bowls_1 σ x1_ x2_ x3_ y0_) 41 (ni x1_)) + y0_))
noncomputable def t_X5_bowls_3 (σ : sg_S) (x1_ : Int32) (x2_ : Int32) (x3_ : Int32) (y0_ : Int32) : sg_S := (sg_up (t_X5_bowls_2 σ x1_ x2_ x3_ y0_) 43 (ni x1_) (((t_X5_bowls_2 σ x1_ x2_ x3_ y0_) 43 (ni x1_)) + (1 : Int32)))
noncomputable def t_X5_bowls_4 (σ : sg_S) (x1_ : Int32) (x2_ : Int32) (x3_ : Int32) (y0_ : Int32) : sg_S := (sg_up (t_X5_bowls_3 σ x1_ x2_ x3_ y0_) 54 (ni x3_) (((t_X5_bowls_3 σ x1_ x2_ x3_ y0_) 54 (ni x3_)) + (1 : Int32)))
noncomputable def t_X5_bowls_5 (σ : sg_S) (x1_ : Int32) (x2_ : Int32) (x3_ : Int32) (y0_ : Int32) : sg_S := (sg_up (t_X5_bowls_4 σ x1_ x2_ x3_ y0_) 51 (ni (((10 : Int32) * x1_) + ((t_X5_bowls_4 σ x1_ x2_ x3_ y0_) 42 (ni x1_)))) ((t_X5_bowls_4 σ x1_ x2_ x3_ y0_) 41 (ni x1_)))
noncomputable def t_X5_bowls_6 (σ : sg_S) (x1_ : Int32) (x2_ : Int32) (x3_ : Int32) (y0_ : Int32) : sg_S := (sg_up (t_X5_bowls_5 σ x1_ x2_ x3_ y0_) 52 (ni (((10 : Int32) * x1_) + ((t_X5_bowls_5 σ x1_ x2_ x3_ y0_) 42 (ni x1_)))) ((t_X5_bowls_5 σ x1_ x2_ x3_ y0_) 43 (ni x1_)))
noncomputable def t_X5_bowls_7 (σ : sg_S) (x1_ : Int32) (x2_ : Int32) (x3_ : Int32) (y0_ : Int32) : sg_S := (sg_up (t_X5_bowls_6 σ x1_ x2_ x3_ y0_) 42 (ni x1_) (((t_X5_bowls_6 σ x1_ x2_ x3_ y0_) 42 (ni x1_)) + (1 : Int32)))
noncomputable def s_X5_bowls_a29 (σ : sg_S) (x1_ : Int32) (x2_ : Int32) (x3_ : Int32) (y0_ : Int32) : sg_S := (if ¬ x2_ = (120 : Int32) then (t_X5_bowls_3 σ x1_ x2_ x3_ y0_) else (t_X5_bowls_7 σ x1_ x2_ x3_ y0_))
noncomputable def p_X5_bowls_a29 (σ : sg_S) (x1_ : Int32) (x2_ : Int32) (x3_ : Int32) (y0_ : Int32) : Prop := (ix x3_ 40 ∧ (ix x3_ 40 ∧ (ix x3_ 40 ∧ (ix x3_ 40 ∧ (ix (((7 : Int32) * x1_) + y0_) 14 ∧ (ix (((7 : Int32) * x1_) + y0_) 14 ∧ (ix x1_ 2 ∧ (ix x1_ 2 ∧ (ix x1_ 2 ∧ (ix x1_ 2 ∧ (¬ (¬ x2_ = (120 : Int32)) → (ix x3_ 40 ∧ (ix x3_ 40 ∧ (ix x1_ 2 ∧ (ix x1_ 2 ∧ (ix (((10 : Int32) * x1_) + ((t_X5_bowls_4 σ x1_ x2_ x3_ y0_) 42 (ni x1_))) 20 ∧ (ix x1_ 2 ∧ (ix x1_ 2 ∧ (ix (((10 : Int32) * x1_) + ((t_X5_bowls_5 σ x1_ x2_ x3_ y0_) 42 (ni x1_))) 20 ∧ (ix x1_ 2 ∧ ix x1_ 2))))))))))))))))))))
theorem m_X5_bowls_a29 {s : List Int32} (σ : sg_S) (x1_ : Int32) (x2_ : Int32) (x3_ : Int32) (y0_ : Int32) (o4_ : Option (ip_V Int32)) (hp : p_X5_bowls_a29 σ x1_ x2_ x3_ y0_) : RtF bk fS s 143 29 [some (rf 35), some (.inl x1_), some (.inl x2_), some (.inl x3_), o4_] [.inl y0_] σ (s_X5_bowls_a29 σ x1_ x2_ x3_ y0_) := by
  unfold s_X5_bowls_a29
  unfold p_X5_bowls_a29 at hp
  refine rt_st (la1 := [some (rf 35), some (.inl x1_), some (.inl x2_), some (.inl x3_), some (.inl y0_)]) rfl rfl rfl ?_
  refine rt_lna rfl rfl ?_
  refine rt_gfr rfl Kq_35 (by decide) rfl ?_
  refine rt_ln rfl rfl ?_
  refine rt_du2 rfl rfl rfl ?_
  refine rt_al rfl Kq_53 hp.1 rfl ?_
  replace hp := hp.2
  refine rt_ld rfl rfl ?_
  refine rt_add rfl ?_
  refine rt_as (k0 := (ni x3_)) (σ1 := (sg_up σ 53 (ni x3_) ((σ 53 (ni x3_)) + y0_))) rfl Kq_53 hp.1 rfl rfl ?_
  replace hp := hp.2
  refine rt_lna rfl rfl ?_
  refine rt_gfr rfl Kq_35 (by decide) rfl ?_
  refine rt_ln rfl rfl ?_
  refine rt_du2 rfl rfl rfl ?_
  refine rt_al rfl Kq_55 hp.1 rfl ?_
  replace hp := hp.2
  refine rt_k1 rfl ck1_1 ?_
  refine rt_add rfl ?_
  refine rt_as (k0 := (ni x3_)) (σ1 := (t_X5_bowls_0 σ x1_ x2_ x3_ y0_)) rfl Kq_55 hp.1 rfl rfl ?_
  replace hp := hp.2
  refine rt_lna rfl rfl ?_
  refine rt_gfr rfl Kq_35 (by decide) rfl ?_
  refine rt_k2 rfl ck2_7 ?_
  refine rt_ln rfl rfl ?_
  refine rt_mul rfl ?_
  refine rt_ld rfl rfl ?_
  refine rt_add rfl ?_
  refine rt_du2 rfl rfl rfl ?_
  refine rt_al rfl Kq_56 hp.1 rfl ?_
  replace hp := hp.2
  refine rt_k1 rfl ck1_1 ?_
  refine rt_add rfl ?_
  refine rt_as (k0 := (ni (((7 : Int32) * x1_) + y0_))) (σ1 := (t_X5_bowls_1 σ x1_ x2_ x3_ y0_)) rfl Kq_56 hp.1 rfl rfl ?_
  replace hp := hp.2
  refine rt_lna rfl rfl ?_
  refine rt_gfr rfl Kq_35 (by decide) rfl ?_
  refine rt_ln rfl rfl ?_
  refine rt_du2 rfl rfl rfl ?_
  refine rt_al rfl Kq_41 hp.1 rfl ?_
  replace hp := hp.2
  refine rt_ld rfl rfl ?_
  refine rt_add rfl ?_
  refine rt_as (k0 := (ni x1_)) (σ1 := (t_X5_bowls_2 σ x1_ x2_ x3_ y0_)) rfl Kq_41 hp.1 rfl rfl ?_
  replace hp := hp.2
  refine rt_lna rfl rfl ?_
  refine rt_gfr rfl Kq_35 (by decide) rfl ?_
  refine rt_ln rfl rfl ?_
  refine rt_du2 rfl rfl rfl ?_
  refine rt_al rfl Kq_43 hp.1 rfl ?_
  replace hp := hp.2
  refine rt_k1 rfl ck1_1 ?_
  refine rt_add rfl ?_
  refine rt_as (k0 := (ni x1_)) (σ1 := (t_X5_bowls_3 σ x1_ x2_ x3_ y0_)) rfl Kq_43 hp.1 rfl rfl ?_
  replace hp := hp.2
  refine rt_ln rfl rfl ?_
  refine rt_k2 rfl ck2_120 ?_
  refine rt_ic rfl rfl (fun h => ?_) (fun h => ?_)
  · exact rt_eS rfl
  · replace hp := hp h
    refine rt_lna rfl rfl ?_
    refine rt_gfr rfl Kq_35 (by decide) rfl ?_
    refine rt_ln rfl rfl ?_
    refine rt_du2 rfl rfl rfl ?_
    refine rt_al rfl Kq_54 hp.1 rfl ?_
    replace hp := hp.2
    refine rt_k1 rfl ck1_1 ?_
    refine rt_add rfl ?_
    refine rt_as (k0 := (ni x3_)) (σ1 := (t_X5_bowls_4 σ x1_ x2_ x3_ y0_)) rfl Kq_54 hp.1 rfl rfl ?_
    replace hp := hp.2
    refine rt_lna rfl rfl ?_
    refine rt_gfr rfl Kq_35 (by decide) rfl ?_
    refine rt_k2 rfl ck2_10 ?_
    refine rt_ln rfl rfl ?_
    refine rt_mul rfl ?_
    refine rt_lna rfl rfl ?_
    refine rt_gfr rfl Kq_35 (by decide) rfl ?_
    refine rt_ln rfl rfl ?_
    refine rt_al rfl Kq_42 hp.1 rfl ?_
    replace hp := hp.2
    refine rt_add rfl ?_
    refine rt_lna rfl rfl ?_
    refine rt_gfr rfl Kq_35 (by decide) rfl ?_
    refine rt_ln rfl rfl ?_
    refine rt_al rfl Kq_41 hp.1 rfl ?_
    replace hp := hp.2
    refine rt_as (k0 := (ni (((10 : Int32) * x1_) + ((t_X5_bowls_4 σ x1_ x2_ x3_ y0_) 42 (ni x1_))))) (σ1 := (t_X5_bowls_5 σ x1_ x2_ x3_ y0_)) rfl Kq_51 hp.1 rfl rfl ?_
    replace hp := hp.2
    refine rt_lna rfl rfl ?_
    refine rt_gfr rfl Kq_35 (by decide) rfl ?_
    refine rt_k2 rfl ck2_10 ?_
    refine rt_ln rfl rfl ?_
    refine rt_mul rfl ?_
    refine rt_lna rfl rfl ?_
    refine rt_gfr rfl Kq_35 (by decide) rfl ?_
    refine rt_ln rfl rfl ?_
    refine rt_al rfl Kq_42 hp.1 rfl ?_
    replace hp := hp.2
    refine rt_add rfl ?_
    refine rt_lna rfl rfl ?_
    refine rt_gfr rfl Kq_35 (by decide) rfl ?_
    refine rt_ln rfl rfl ?_
    refine rt_al rfl Kq_43 hp.1 rfl ?_
    replace hp := hp.2
    refine rt_as (k0 := (ni (((10 : Int32) * x1_) + ((t_X5_bowls_5 σ x1_ x2_ x3_ y0_) 42 (ni x1_))))) (σ1 := (t_X5_bowls_6 σ x1_ x2_ x3_ y0_)) rfl Kq_52 hp.1 rfl rfl ?_
    replace hp := hp.2
    refine rt_lna rfl rfl ?_
    refine rt_gfr rfl Kq_35 (by decide) rfl ?_
    refine rt_ln rfl rfl ?_
    refine rt_du2 rfl rfl rfl ?_
    refine rt_al rfl Kq_42 hp.1 rfl ?_
    replace hp := hp.2
    refine rt_k1 rfl ck1_1 ?_
    refine rt_add rfl ?_
    refine rt_as (k0 := (ni x1_)) (σ1 := (t_X5_bowls_7 σ x1_ x2_ x3_ y0_)) rfl Kq_42 hp rfl rfl ?_
    exact rt_eS rfl
noncomputable def s_X5_bowls (σ : sg_S) (x0 : Int32) (x1 : Int32) : sg_S := (if ¬ x1 = (120 : Int32) then (s_X5_bowls_a29 σ x0 x1 (((20 : Int32) * x0) + ((σ 43 (ni x0)) / (6 : Int32))) (x1 - (48 : Int32))) else (s_X5_bowls_a29 σ x0 x1 (((20 : Int32) * x0) + ((σ 43 (ni x0)) / (6 : Int32))) (0 : Int32)))
noncomputable def p_X5_bowls (σ : sg_S) (x0 : Int32) (x1 : Int32) : Prop := (ix x0 2 ∧ ((¬ x1 = (120 : Int32) → (p_X5_bowls_a29 σ x0 x1 (((20 : Int32) * x0) + ((σ 43 (ni x0)) / (6 : Int32))) (x1 - (48 : Int32)))) ∧ (¬ (¬ x1 = (120 : Int32)) → (p_X5_bowls_a29 σ x0 x1 (((20 : Int32) * x0) + ((σ 43 (ni x0)) / (6 : Int32))) (0 : Int32)))))
theorem m_X5_bowls {s : List Int32} {σ : sg_S} (x0 : Int32) (x1 : Int32) (hp : p_X5_bowls σ x0 x1) : Ct s 143 [rf 35, .inl x0, .inl x1] σ [] (s_X5_bowls σ x0 x1) := by
  refine ct_v (la := [some (rf 35), some (.inl x0), some (.inl x1), none, none]) Kq_35 rfl rfl rfl rfl rfl rfl rfl (cgS ?_)
  unfold s_X5_bowls
  unfold p_X5_bowls at hp
  refine rt_k2 rfl ck2_20 ?_
  refine rt_ln rfl rfl ?_
  refine rt_mul rfl ?_
  refine rt_lna rfl rfl ?_
  refine rt_gfr rfl Kq_35 (by decide) rfl ?_
  refine rt_ln rfl rfl ?_
  refine rt_al rfl Kq_43 hp.1 rfl ?_
  replace hp := hp.2
  refine rt_k2 rfl ck2_6 ?_
  refine rt_div rfl (by decide) ?_
  refine rt_add rfl ?_
  refine rt_sn (la1 := [some (rf 35), some (.inl x0), some (.inl x1), some (.inl (((20 : Int32) * x0) + ((σ 43 (ni x0)) / (6 : Int32)))), none]) rfl rfl rfl ?_
  refine rt_ln rfl rfl ?_
  refine rt_k2 rfl ck2_120 ?_
  refine rt_ic rfl rfl (fun h => ?_) (fun h => ?_)
  · replace hp := hp.1 h
    refine rt_ln rfl rfl ?_
    refine rt_k2 rfl ck2_48 ?_
    refine rt_sub rfl ?_
    exact m_X5_bowls_a29 σ x0 x1 (((20 : Int32) * x0) + ((σ 43 (ni x0)) / (6 : Int32))) (x1 - (48 : Int32)) _ hp
  · replace hp := hp.2 h
    refine rt_k1 rfl ck1_0 ?_
    refine rt_go rfl ?_
    exact m_X5_bowls_a29 σ x0 x1 (((20 : Int32) * x0) + ((σ 43 (ni x0)) / (6 : Int32))) (0 : Int32) _ hp
noncomputable def t_X5_cutsTo_0 (σ : sg_S) (x0 : Int32) (x1 : Int32) : sg_S := (sg_up σ 50 (ni (((100 : Int32) * x0) + ((5 : Int32) * (σ 49 (ni x0))))) (σ 43 (ni x0)))
noncomputable def t_X5_cutsTo_1 (σ : sg_S) (x0 : Int32) (x1 : Int32) : sg_S := (sg_up (t_X5_cutsTo_0 σ x0 x1) 50 (ni ((((100 : Int32) * x0) + ((5 : Int32) * (σ 49 (ni x0)))) + (1 : Int32))) ((t_X5_cutsTo_0 σ x0 x1) 42 (ni x0)))
noncomputable def t_X5_cutsTo_2 (σ : sg_S) (x0 : Int32) (x1 : Int32) : sg_S := (sg_up (t_X5_cutsTo_1 σ x0 x1) 50 (ni ((((100 : Int32) * x0) + ((5 : Int32) * (σ 49 (ni x0)))) + (2 : Int32))) ((t_X5_cutsTo_1 σ x0 x1) 44 (ni x0)))
noncomputable def t_X5_cutsTo_3 (σ : sg_S) (x0 : Int32) (x1 : Int32) : sg_S := (sg_up (t_X5_cutsTo_2 σ x0 x1) 50 (ni ((((100 : Int32) * x0) + ((5 : Int32) * (σ 49 (ni x0)))) + (3 : Int32))) x1)
noncomputable def t_X5_cutsTo_4 (σ : sg_S) (x0 : Int32) (x1 : Int32) : sg_S := (sg_up (t_X5_cutsTo_3 σ x0 x1) 50 (ni ((((100 : Int32) * x0) + ((5 : Int32) * (σ 49 (ni x0)))) + (4 : Int32))) (v_X5_takes σ x0 x1))
noncomputable def t_X5_cutsTo_5 (σ : sg_S) (x0 : Int32) (x1 : Int32) : sg_S := (sg_up (t_X5_cutsTo_4 σ x0 x1) 49 (ni x0) (((t_X5_cutsTo_4 σ x0 x1) 49 (ni x0)) + (1 : Int32)))
noncomputable def t_X5_cutsTo_6 (σ : sg_S) (x0 : Int32) (x1 : Int32) : sg_S := (sg_up (sg_up (t_X5_cutsTo_5 σ x0 x1) 44 (ni x0) x1) 45 (ni x0) (((sg_up (t_X5_cutsTo_5 σ x0 x1) 44 (ni x0) x1) 45 (ni x0)) - (v_X5_takes σ x0 x1)))
noncomputable def s_X5_cutsTo (σ : sg_S) (x0 : Int32) (x1 : Int32) : sg_S := (t_X5_cutsTo_6 σ x0 x1)
noncomputable def p_X5_cutsTo (σ : sg_S) (x0 : Int32) (x1 : Int32) : Prop := (ix x0 2 ∧ (p_X5_takes σ x0 x1 ∧ (ix x0 2 ∧ (ix (((100 : Int32) * x0) + ((5 : Int32) * (σ 49 (ni x0)))) 200 ∧ (ix x0 2 ∧ (ix ((((100 : Int32) * x0) + ((5 : Int32) * (σ 49 (ni x0)))) + (1 : Int32)) 200 ∧ (ix x0 2 ∧ (ix ((((100 : Int32) * x0) + ((5 : Int32) * (σ 49 (ni x0)))) + (2 : Int32)) 200 ∧ (ix ((((100 : Int32) * x0) + ((5 : Int32) * (σ 49 (ni x0)))) + (3 : Int32)) 200 ∧ (ix ((((100 : Int32) * x0) + ((5 : Int32) * (σ 49 (ni x0)))) + (4 : Int32)) 200 ∧ (ix x0 2 ∧ (ix x0 2 ∧ (ix x0 2 ∧ (ix x0 2 ∧ ix x0 2))))))))))))))
theorem m_X5_cutsTo {s : List Int32} {σ : sg_S} (x0 : Int32) (x1 : Int32) (hp : p_X5_cutsTo σ x0 x1) : Ct s 144 [rf 35, .inl x0, .inl x1] σ [] (s_X5_cutsTo σ x0 x1) := by
  refine ct_v (la := [some (rf 35), some (.inl x0), some (.inl x1), none, none]) Kq_35 rfl rfl rfl rfl rfl rfl rfl (cgS ?_)
  unfold s_X5_cutsTo
  unfold p_X5_cutsTo at hp
  refine rt_k2 rfl ck2_100 ?_
  refine rt_ln rfl rfl ?_
  refine rt_mul rfl ?_
  refine rt_k1 rfl ck1_5 ?_
  refine rt_lna rfl rfl ?_
  refine rt_gfr rfl Kq_35 (by decide) rfl ?_
  refine rt_ln rfl rfl ?_
  refine rt_al rfl Kq_49 hp.1 rfl ?_
  replace hp := hp.2
  refine rt_mul rfl ?_
  refine rt_add rfl ?_
  refine rt_sn (la1 := [some (rf 35), some (.inl x0), some (.inl x1), some (.inl (((100 : Int32) * x0) + ((5 : Int32) * (σ 49 (ni x0))))), none]) rfl rfl rfl ?_
  refine rt_lna rfl rfl ?_
  refine rt_ln rfl rfl ?_
  refine rt_ln rfl rfl ?_
  refine rt_iv (σ1 := σ) rfl rfl rfl (m_X5_takes x0 x1 hp.1) ?_
  show RtF bk fS s 144 20 [some (rf 35), some (.inl x0), some (.inl x1), some (.inl (((100 : Int32) * x0) + ((5 : Int32) * (σ 49 (ni x0))))), none] [.inl (v_X5_takes σ x0 x1)] σ _
  replace hp := hp.2
  refine rt_st (la1 := [some (rf 35), some (.inl x0), some (.inl x1), some (.inl (((100 : Int32) * x0) + ((5 : Int32) * (σ 49 (ni x0))))), some (.inl (v_X5_takes σ x0 x1))]) rfl rfl rfl ?_
  refine rt_lna rfl rfl ?_
  refine rt_gfr rfl Kq_35 (by decide) rfl ?_
  refine rt_ln rfl rfl ?_
  refine rt_lna rfl rfl ?_
  refine rt_gfr rfl Kq_35 (by decide) rfl ?_
  refine rt_ln rfl rfl ?_
  refine rt_al rfl Kq_43 hp.1 rfl ?_
  replace hp := hp.2
  refine rt_as (k0 := (ni (((100 : Int32) * x0) + ((5 : Int32) * (σ 49 (ni x0)))))) (σ1 := (t_X5_cutsTo_0 σ x0 x1)) rfl Kq_50 hp.1 rfl rfl ?_
  replace hp := hp.2
  refine rt_lna rfl rfl ?_
  refine rt_gfr rfl Kq_35 (by decide) rfl ?_
  refine rt_ln rfl rfl ?_
  refine rt_k1 rfl ck1_1 ?_
  refine rt_add rfl ?_
  refine rt_lna rfl rfl ?_
  refine rt_gfr rfl Kq_35 (by decide) rfl ?_
  refine rt_ln rfl rfl ?_
  refine rt_al rfl Kq_42 hp.1 rfl ?_
  replace hp := hp.2
  refine rt_as (k0 := (ni ((((100 : Int32) * x0) + ((5 : Int32) * (σ 49 (ni x0)))) + (1 : Int32)))) (σ1 := (t_X5_cutsTo_1 σ x0 x1)) rfl Kq_50 hp.1 rfl rfl ?_
  replace hp := hp.2
  refine rt_lna rfl rfl ?_
  refine rt_gfr rfl Kq_35 (by decide) rfl ?_
  refine rt_ln rfl rfl ?_
  refine rt_k1 rfl ck1_2 ?_
  refine rt_add rfl ?_
  refine rt_lna rfl rfl ?_
  refine rt_gfr rfl Kq_35 (by decide) rfl ?_
  refine rt_ln rfl rfl ?_
  refine rt_al rfl Kq_44 hp.1 rfl ?_
  replace hp := hp.2
  refine rt_as (k0 := (ni ((((100 : Int32) * x0) + ((5 : Int32) * (σ 49 (ni x0)))) + (2 : Int32)))) (σ1 := (t_X5_cutsTo_2 σ x0 x1)) rfl Kq_50 hp.1 rfl rfl ?_
  replace hp := hp.2
  refine rt_lna rfl rfl ?_
  refine rt_gfr rfl Kq_35 (by decide) rfl ?_
  refine rt_ln rfl rfl ?_
  refine rt_k1 rfl ck1_3 ?_
  refine rt_add rfl ?_
  refine rt_ln rfl rfl ?_
  refine rt_as (k0 := (ni ((((100 : Int32) * x0) + ((5 : Int32) * (σ 49 (ni x0)))) + (3 : Int32)))) (σ1 := (t_X5_cutsTo_3 σ x0 x1)) rfl Kq_50 hp.1 rfl rfl ?_
  replace hp := hp.2
  refine rt_lna rfl rfl ?_
  refine rt_gfr rfl Kq_35 (by decide) rfl ?_
  refine rt_ln rfl rfl ?_
  refine rt_k1 rfl ck1_4 ?_
  refine rt_add rfl ?_
  refine rt_ld rfl rfl ?_
  refine rt_as (k0 := (ni ((((100 : Int32) * x0) + ((5 : Int32) * (σ 49 (ni x0)))) + (4 : Int32)))) (σ1 := (t_X5_cutsTo_4 σ x0 x1)) rfl Kq_50 hp.1 rfl rfl ?_
  replace hp := hp.2
  refine rt_lna rfl rfl ?_
  refine rt_gfr rfl Kq_35 (by decide) rfl ?_
  refine rt_ln rfl rfl ?_
  refine rt_du2 rfl rfl rfl ?_
  refine rt_al rfl Kq_49 hp.1 rfl ?_
  replace hp := hp.2
  refine rt_k1 rfl ck1_1 ?_
  refine rt_add rfl ?_
  refine rt_as (k0 := (ni x0)) (σ1 := (t_X5_cutsTo_5 σ x0 x1)) rfl Kq_49 hp.1 rfl rfl ?_
  replace hp := hp.2
  refine rt_lna rfl rfl ?_
  refine rt_gfr rfl Kq_35 (by decide) rfl ?_
  refine rt_ln rfl rfl ?_
  refine rt_ln rfl rfl ?_
  refine rt_as (k0 := (ni x0)) (σ1 := (sg_up (t_X5_cutsTo_5 σ x0 x1) 44 (ni x0) x1)) rfl Kq_44 hp.1 rfl rfl ?_
  replace hp := hp.2
  refine rt_lna rfl rfl ?_
  refine rt_gfr rfl Kq_35 (by decide) rfl ?_
  refine rt_ln rfl rfl ?_
  refine rt_du2 rfl rfl rfl ?_
  refine rt_al rfl Kq_45 hp.1 rfl ?_
  replace hp := hp.2
  refine rt_ld rfl rfl ?_
  refine rt_sub rfl ?_
  refine rt_as (k0 := (ni x0)) (σ1 := (t_X5_cutsTo_6 σ x0 x1)) rfl Kq_45 hp rfl rfl ?_
  exact rt_eS rfl
noncomputable def t_X5_goes_0 (σ : sg_S) (x1_ : Int32) (x2_ : Int32) (x3_ : Int32) (x4_ : Int32) (y1_ : Int32) : sg_S := (sg_up (sg_up σ 35 24 y1_) 41 (ni x3_) (((sg_up σ 35 24 y1_) 41 (ni x3_)) + (1 : Int32)))
noncomputable def t_X5_goes_1 (σ : sg_S) (x1_ : Int32) (x2_ : Int32) (x3_ : Int32) (x4_ : Int32) (y1_ : Int32) : sg_S := (sg_up (t_X5_goes_0 σ x1_ x2_ x3_ x4_ y1_) 48 (ni x3_) (((t_X5_goes_0 σ x1_ x2_ x3_ x4_ y1_) 48 (ni x3_)) + (1 : Int32)))
noncomputable def t_X5_goes_2 (σ : sg_S) (x1_ : Int32) (x2_ : Int32) (x3_ : Int32) (x4_ : Int32) (y1_ : Int32) : sg_S := (sg_up (t_X5_goes_1 σ x1_ x2_ x3_ x4_ y1_) 53 (ni (((20 : Int32) * x3_) + (((t_X5_goes_1 σ x1_ x2_ x3_ x4_ y1_) 43 (ni x3_)) / (6 : Int32)))) (((t_X5_goes_1 σ x1_ x2_ x3_ x4_ y1_) 53 (ni (((20 : Int32) * x3_) + (((t_X5_goes_1 σ x1_ x2_ x3_ x4_ y1_) 43 (ni x3_)) / (6 : Int32))))) + (1 : Int32)))
noncomputable def s_X5_goes_a226 (σ : sg_S) (y0_ : Int32) : sg_S := (if y0_ = 0 then (sg_up σ 35 23 ((σ 35 23) + (0 : Int32))) else (sg_up σ 35 23 ((σ 35 23) + (1 : Int32))))
theorem m_X5_goes_a226 {s : List Int32} (σ : sg_S) (y0_ : Int32) (o1_ : Option (ip_V Int32)) (o2_ : Option (ip_V Int32)) (o3_ : Option (ip_V Int32)) (o4_ : Option (ip_V Int32)) : RtF bk fS s 145 226 [some (rf 35), o1_, o2_, o3_, o4_] [.inl y0_] σ (s_X5_goes_a226 σ y0_) := by
  unfold s_X5_goes_a226
  refine rt_st (la1 := [some (rf 35), o1_, o2_, o3_, some (.inl y0_)]) rfl rfl rfl ?_
  refine rt_lna rfl rfl ?_
  refine rt_dup rfl rfl ?_
  refine rt_gfi rfl Kq_35 (by decide) rfl rfl ?_
  refine rt_ld rfl rfl ?_
  refine rt_if rfl rfl (fun h => ?_) (fun h => ?_)
  · refine rt_k1 rfl ck1_0 ?_
    refine rt_add rfl ?_
    refine rt_pf (σ1 := (sg_up σ 35 23 ((σ 35 23) + (0 : Int32)))) rfl Kq_35 (by decide) rfl rfl rfl ?_
    exact rt_eS rfl
  · refine rt_k1 rfl ck1_1 ?_
    refine rt_go rfl ?_
    refine rt_add rfl ?_
    refine rt_pf (σ1 := (sg_up σ 35 23 ((σ 35 23) + (1 : Int32)))) rfl Kq_35 (by decide) rfl rfl rfl ?_
    exact rt_eS rfl
noncomputable def s_X5_goes_a170 (σ : sg_S) (x3_ : Int32) (x4_ : Int32) : sg_S := (if ¬ x4_ = 0 then (s_X5_goes_a226 σ (1 : Int32)) else (if (v_X5_left σ x3_) = 0 then (s_X5_goes_a226 σ (1 : Int32)) else (if (σ 42 (ni x3_)) = (10 : Int32) then (s_X5_goes_a226 σ (1 : Int32)) else (if ¬ x3_ = (1 : Int32) then (s_X5_goes_a226 σ (0 : Int32)) else (if (σ 45 0) ≤ 0 then (s_X5_goes_a226 σ (0 : Int32)) else (if (σ 41 1) < (v_X5_theTarget σ) then (s_X5_goes_a226 σ (0 : Int32)) else (s_X5_goes_a226 σ (1 : Int32))))))))
noncomputable def p_X5_goes_a170 (σ : sg_S) (x3_ : Int32) (x4_ : Int32) : Prop := (¬ (¬ x4_ = 0) → (p_X5_left x3_ ∧ (¬ ((v_X5_left σ x3_) = 0) → (ix x3_ 2 ∧ (¬ ((σ 42 (ni x3_)) = (10 : Int32)) → (¬ (¬ x3_ = (1 : Int32)) → (¬ ((σ 45 0) ≤ 0) → p_X5_theTarget σ)))))))
theorem m_X5_goes_a170 {s : List Int32} (σ : sg_S) (x3_ : Int32) (x4_ : Int32) (o1_ : Option (ip_V Int32)) (o2_ : Option (ip_V Int32)) (hp : p_X5_goes_a170 σ x3_ x4_) : RtF bk fS s 145 170 [some (rf 35), o1_, o2_, some (.inl x3_), some (.inl x4_)] [] σ (s_X5_goes_a170 σ x3_ x4_) := by
  unfold s_X5_goes_a170
  unfold p_X5_goes_a170 at hp
  refine rt_ld rfl rfl ?_
  refine rt_if rfl rfl (fun h => ?_) (fun h => ?_)
  · refine rt_k1 rfl ck1_1 ?_
    refine rt_go rfl ?_
    exact m_X5_goes_a226 σ (1 : Int32) _ _ _ _
  · replace hp := hp h
    refine rt_lna rfl rfl ?_
    refine rt_ln rfl rfl ?_
    refine rt_iv (σ1 := σ) rfl rfl rfl (m_X5_left x3_ hp.1) ?_
    show RtF bk fS s 145 180 [some (rf 35), o1_, o2_, some (.inl x3_), some (.inl x4_)] [.inl (v_X5_left σ x3_)] σ _
    replace hp := hp.2
    refine rt_if rfl rfl (fun h => ?_) (fun h => ?_)
    · refine rt_k1 rfl ck1_1 ?_
      refine rt_go rfl ?_
      exact m_X5_goes_a226 σ (1 : Int32) _ _ _ _
    · replace hp := hp h
      refine rt_lna rfl rfl ?_
      refine rt_gfr rfl Kq_35 (by decide) rfl ?_
      refine rt_ln rfl rfl ?_
      refine rt_al rfl Kq_42 hp.1 rfl ?_
      replace hp := hp.2
      refine rt_k2 rfl ck2_10 ?_
      refine rt_ic rfl rfl (fun h => ?_) (fun h => ?_)
      · refine rt_k1 rfl ck1_1 ?_
        refine rt_go rfl ?_
        exact m_X5_goes_a226 σ (1 : Int32) _ _ _ _
      · replace hp := hp h
        refine rt_ln rfl rfl ?_
        refine rt_k1 rfl ck1_1 ?_
        refine rt_ic rfl rfl (fun h => ?_) (fun h => ?_)
        · refine rt_k1 rfl ck1_0 ?_
          exact m_X5_goes_a226 σ (0 : Int32) _ _ _ _
        · replace hp := hp h
          refine rt_lna rfl rfl ?_
          refine rt_gfr rfl Kq_35 (by decide) rfl ?_
          refine rt_k1 rfl ck1_0 ?_
          refine rt_al (k0 := 0) rfl Kq_45 ⟨by decide, by decide⟩ rfl ?_
          refine rt_if rfl rfl (fun h => ?_) (fun h => ?_)
          · refine rt_k1 rfl ck1_0 ?_
            exact m_X5_goes_a226 σ (0 : Int32) _ _ _ _
          · replace hp := hp h
            refine rt_lna rfl rfl ?_
            refine rt_gfr rfl Kq_35 (by decide) rfl ?_
            refine rt_k1 rfl ck1_1 ?_
            refine rt_al (k0 := 1) rfl Kq_41 ⟨by decide, by decide⟩ rfl ?_
            refine rt_lna rfl rfl ?_
            refine rt_iv (σ1 := σ) rfl rfl rfl (m_X5_theTarget hp) ?_
            show RtF bk fS s 145 218 [some (rf 35), o1_, o2_, some (.inl x3_), some (.inl x4_)] [.inl (v_X5_theTarget σ), .inl (σ 41 1)] σ _
            refine rt_ic rfl rfl (fun h => ?_) (fun h => ?_)
            · refine rt_k1 rfl ck1_0 ?_
              exact m_X5_goes_a226 σ (0 : Int32) _ _ _ _
            · refine rt_k1 rfl ck1_1 ?_
              refine rt_go rfl ?_
              exact m_X5_goes_a226 σ (1 : Int32) _ _ _ _
noncomputable def t_X5_goes_3 (σ : sg_S) (x1_ : Int32) (x2_ : Int32) (x3_ : Int32) (x4_ : Int32) (y1_ : Int32) : sg_S := (sg_up (sg_up σ 35 24 y1_) 47 (ni x3_) (1 : Int32))
noncomputable def t_X5_goes_4 (σ : sg_S) (x1_ : Int32) (x2_ : Int32) (x3_ : Int32) (x4_ : Int32) (y1_ : Int32) : sg_S := (sg_up (t_X5_goes_3 σ x1_ x2_ x3_ x4_ y1_) 46 (ni x3_) (v_X5_leftWorth (t_X5_goes_3 σ x1_ x2_ x3_ x4_ y1_) x3_))
noncomputable def t_X5_goes_5 (σ : sg_S) (x1_ : Int32) (x2_ : Int32) (x3_ : Int32) (x4_ : Int32) (y1_ : Int32) : sg_S := (sg_up (t_X5_goes_4 σ x1_ x2_ x3_ x4_ y1_) 45 (ni x3_) (((t_X5_goes_4 σ x1_ x2_ x3_ x4_ y1_) 45 (ni x3_)) - ((t_X5_goes_4 σ x1_ x2_ x3_ x4_ y1_) 46 (ni x3_))))
noncomputable def s_X5_goes_a48 (σ : sg_S) (x1_ : Int32) (x2_ : Int32) (x3_ : Int32) (x4_ : Int32) (y1_ : Int32) : sg_S := (if (v_X5_isBall x1_) = 0 then (if ¬ x1_ = (99 : Int32) then (if ¬ x1_ = (47 : Int32) then (s_X5_goes_a170 (t_X5_goes_2 σ x1_ x2_ x3_ x4_ y1_) x3_ x4_) else (s_X5_goes_a170 (t_X5_goes_5 σ x1_ x2_ x3_ x4_ y1_) x3_ (1 : Int32))) else (s_X5_goes_a170 (s_X5_cutsTo (sg_up σ 35 24 y1_) x3_ x2_) x3_ x4_)) else (s_X5_goes_a170 (s_X5_bowls (sg_up σ 35 24 y1_) x3_ x1_) x3_ x4_))
noncomputable def p_X5_goes_a48 (σ : sg_S) (x1_ : Int32) (x2_ : Int32) (x3_ : Int32) (x4_ : Int32) (y1_ : Int32) : Prop := (bt y1_ ∧ (((v_X5_isBall x1_) = 0 → ((¬ x1_ = (99 : Int32) → ((¬ x1_ = (47 : Int32) → (ix x3_ 2 ∧ (ix x3_ 2 ∧ (ix x3_ 2 ∧ (ix x3_ 2 ∧ (ix x3_ 2 ∧ (ix (((20 : Int32) * x3_) + (((t_X5_goes_1 σ x1_ x2_ x3_ x4_ y1_) 43 (ni x3_)) / (6 : Int32))) 40 ∧ (ix (((20 : Int32) * x3_) + (((t_X5_goes_1 σ x1_ x2_ x3_ x4_ y1_) 43 (ni x3_)) / (6 : Int32))) 40 ∧ (p_X5_goes_a170 (t_X5_goes_2 σ x1_ x2_ x3_ x4_ y1_) x3_ x4_))))))))) ∧ (¬ (¬ x1_ = (47 : Int32)) → (ix x3_ 2 ∧ (p_X5_leftWorth (t_X5_goes_3 σ x1_ x2_ x3_ x4_ y1_) x3_ ∧ (ix x3_ 2 ∧ (ix x3_ 2 ∧ (ix x3_ 2 ∧ (ix x3_ 2 ∧ (p_X5_goes_a170 (t_X5_goes_5 σ x1_ x2_ x3_ x4_ y1_) x3_ (1 : Int32))))))))))) ∧ (¬ (¬ x1_ = (99 : Int32)) → (p_X5_cutsTo (sg_up σ 35 24 y1_) x3_ x2_ ∧ (p_X5_goes_a170 (s_X5_cutsTo (sg_up σ 35 24 y1_) x3_ x2_) x3_ x4_))))) ∧ (¬ ((v_X5_isBall x1_) = 0) → (p_X5_bowls (sg_up σ 35 24 y1_) x3_ x1_ ∧ (p_X5_goes_a170 (s_X5_bowls (sg_up σ 35 24 y1_) x3_ x1_) x3_ x4_)))))
theorem m_X5_goes_a48 {s : List Int32} (σ : sg_S) (x1_ : Int32) (x2_ : Int32) (x3_ : Int32) (x4_ : Int32) (y1_ : Int32) (hp : p_X5_goes_a48 σ x1_ x2_ x3_ x4_ y1_) : RtF bk fS s 145 48 [some (rf 35), some (.inl x1_), some (.inl x2_), some (.inl x3_), some (.inl x4_)] [.inl y1_, rf 35] σ (s_X5_goes_a48 σ x1_ x2_ x3_ x4_ y1_) := by
  unfold s_X5_goes_a48
  unfold p_X5_goes_a48 at hp
  refine rt_pz (σ1 := (sg_up σ 35 24 y1_)) rfl Kq_35 hp.1 (by decide) rfl rfl rfl ?_
  replace hp := hp.2
  refine rt_ln rfl rfl ?_
  refine rt_is (σ1 := (sg_up σ 35 24 y1_)) rfl rfl rfl (m_X5_isBall x1_) ?_
  show RtF bk fS s 145 55 [some (rf 35), some (.inl x1_), some (.inl x2_), some (.inl x3_), some (.inl x4_)] [.inl (v_X5_isBall x1_)] (sg_up σ 35 24 y1_) _
  refine rt_if rfl rfl (fun h => ?_) (fun h => ?_)
  · replace hp := hp.1 h
    refine rt_ln rfl rfl ?_
    refine rt_k2 rfl ck2_99 ?_
    refine rt_ic rfl rfl (fun h => ?_) (fun h => ?_)
    · replace hp := hp.1 h
      refine rt_ln rfl rfl ?_
      refine rt_k2 rfl ck2_47 ?_
      refine rt_ic rfl rfl (fun h => ?_) (fun h => ?_)
      · replace hp := hp.1 h
        refine rt_lna rfl rfl ?_
        refine rt_gfr rfl Kq_35 (by decide) rfl ?_
        refine rt_ln rfl rfl ?_
        refine rt_du2 rfl rfl rfl ?_
        refine rt_al rfl Kq_41 hp.1 rfl ?_
        replace hp := hp.2
        refine rt_k1 rfl ck1_1 ?_
        refine rt_add rfl ?_
        refine rt_as (k0 := (ni x3_)) (σ1 := (t_X5_goes_0 σ x1_ x2_ x3_ x4_ y1_)) rfl Kq_41 hp.1 rfl rfl ?_
        replace hp := hp.2
        refine rt_lna rfl rfl ?_
        refine rt_gfr rfl Kq_35 (by decide) rfl ?_
        refine rt_ln rfl rfl ?_
        refine rt_du2 rfl rfl rfl ?_
        refine rt_al rfl Kq_48 hp.1 rfl ?_
        replace hp := hp.2
        refine rt_k1 rfl ck1_1 ?_
        refine rt_add rfl ?_
        refine rt_as (k0 := (ni x3_)) (σ1 := (t_X5_goes_1 σ x1_ x2_ x3_ x4_ y1_)) rfl Kq_48 hp.1 rfl rfl ?_
        replace hp := hp.2
        refine rt_lna rfl rfl ?_
        refine rt_gfr rfl Kq_35 (by decide) rfl ?_
        refine rt_k2 rfl ck2_20 ?_
        refine rt_ln rfl rfl ?_
        refine rt_mul rfl ?_
        refine rt_lna rfl rfl ?_
        refine rt_gfr rfl Kq_35 (by decide) rfl ?_
        refine rt_ln rfl rfl ?_
        refine rt_al rfl Kq_43 hp.1 rfl ?_
        replace hp := hp.2
        refine rt_k2 rfl ck2_6 ?_
        refine rt_div rfl (by decide) ?_
        refine rt_add rfl ?_
        refine rt_du2 rfl rfl rfl ?_
        refine rt_al rfl Kq_53 hp.1 rfl ?_
        replace hp := hp.2
        refine rt_k1 rfl ck1_1 ?_
        refine rt_add rfl ?_
        refine rt_as (k0 := (ni (((20 : Int32) * x3_) + (((t_X5_goes_1 σ x1_ x2_ x3_ x4_ y1_) 43 (ni x3_)) / (6 : Int32))))) (σ1 := (t_X5_goes_2 σ x1_ x2_ x3_ x4_ y1_)) rfl Kq_53 hp.1 rfl rfl ?_
        replace hp := hp.2
        exact m_X5_goes_a170 (t_X5_goes_2 σ x1_ x2_ x3_ x4_ y1_) x3_ x4_ _ _ hp
      · replace hp := hp.2 h
        refine rt_lna rfl rfl ?_
        refine rt_gfr rfl Kq_35 (by decide) rfl ?_
        refine rt_ln rfl rfl ?_
        refine rt_k1 rfl ck1_1 ?_
        refine rt_zs (k0 := (ni x3_)) (σ1 := (t_X5_goes_3 σ x1_ x2_ x3_ x4_ y1_)) rfl Kq_47 (Or.inr rfl) hp.1 rfl rfl ?_
        replace hp := hp.2
        refine rt_lna rfl rfl ?_
        refine rt_gfr rfl Kq_35 (by decide) rfl ?_
        refine rt_ln rfl rfl ?_
        refine rt_lna rfl rfl ?_
        refine rt_ln rfl rfl ?_
        refine rt_iv (σ1 := (t_X5_goes_3 σ x1_ x2_ x3_ x4_ y1_)) rfl rfl rfl (m_X5_leftWorth x3_ hp.1) ?_
        show RtF bk fS s 145 105 [some (rf 35), some (.inl x1_), some (.inl x2_), some (.inl x3_), some (.inl x4_)] [.inl (v_X5_leftWorth (t_X5_goes_3 σ x1_ x2_ x3_ x4_ y1_) x3_), .inl x3_, rf 46] (t_X5_goes_3 σ x1_ x2_ x3_ x4_ y1_) _
        replace hp := hp.2
        refine rt_as (k0 := (ni x3_)) (σ1 := (t_X5_goes_4 σ x1_ x2_ x3_ x4_ y1_)) rfl Kq_46 hp.1 rfl rfl ?_
        replace hp := hp.2
        refine rt_lna rfl rfl ?_
        refine rt_gfr rfl Kq_35 (by decide) rfl ?_
        refine rt_ln rfl rfl ?_
        refine rt_du2 rfl rfl rfl ?_
        refine rt_al rfl Kq_45 hp.1 rfl ?_
        replace hp := hp.2
        refine rt_lna rfl rfl ?_
        refine rt_gfr rfl Kq_35 (by decide) rfl ?_
        refine rt_ln rfl rfl ?_
        refine rt_al rfl Kq_46 hp.1 rfl ?_
        replace hp := hp.2
        refine rt_sub rfl ?_
        refine rt_as (k0 := (ni x3_)) (σ1 := (t_X5_goes_5 σ x1_ x2_ x3_ x4_ y1_)) rfl Kq_45 hp.1 rfl rfl ?_
        replace hp := hp.2
        refine rt_k1 rfl ck1_1 ?_
        refine rt_st (la1 := [some (rf 35), some (.inl x1_), some (.inl x2_), some (.inl x3_), some (.inl (1 : Int32))]) rfl rfl rfl ?_
        refine rt_go rfl ?_
        exact m_X5_goes_a170 (t_X5_goes_5 σ x1_ x2_ x3_ x4_ y1_) x3_ (1 : Int32) _ _ hp
    · replace hp := hp.2 h
      refine rt_lna rfl rfl ?_
      refine rt_ln rfl rfl ?_
      refine rt_ln rfl rfl ?_
      refine rt_iv (σ1 := (s_X5_cutsTo (sg_up σ 35 24 y1_) x3_ x2_)) rfl rfl rfl (m_X5_cutsTo x3_ x2_ hp.1) ?_
      show RtF bk fS s 145 79 [some (rf 35), some (.inl x1_), some (.inl x2_), some (.inl x3_), some (.inl x4_)] [] (s_X5_cutsTo (sg_up σ 35 24 y1_) x3_ x2_) _
      replace hp := hp.2
      refine rt_go rfl ?_
      exact m_X5_goes_a170 (s_X5_cutsTo (sg_up σ 35 24 y1_) x3_ x2_) x3_ x4_ _ _ hp
  · replace hp := hp.2 h
    refine rt_lna rfl rfl ?_
    refine rt_ln rfl rfl ?_
    refine rt_ln rfl rfl ?_
    refine rt_iv (σ1 := (s_X5_bowls (sg_up σ 35 24 y1_) x3_ x1_)) rfl rfl rfl (m_X5_bowls x3_ x1_ hp.1) ?_
    show RtF bk fS s 145 64 [some (rf 35), some (.inl x1_), some (.inl x2_), some (.inl x3_), some (.inl x4_)] [] (s_X5_bowls (sg_up σ 35 24 y1_) x3_ x1_) _
    replace hp := hp.2
    refine rt_go rfl ?_
    exact m_X5_goes_a170 (s_X5_bowls (sg_up σ 35 24 y1_) x3_ x1_) x3_ x4_ _ _ hp
noncomputable def t_X5_goes_6 (σ : sg_S) (x0 : Int32) (x1 : Int32) : sg_S := (sg_up (sg_up σ 44 1 x1) 45 1 (v_X5_worthOf (sg_up σ 44 1 x1) ((6 : Int32) * x1) (0 : Int32)))
noncomputable def s_X5_goes (σ : sg_S) (x0 : Int32) (x1 : Int32) : sg_S := (if ¬ x0 = (100 : Int32) then (if ¬ (σ 35 23) = (1 : Int32) then (s_X5_goes_a48 σ x0 x1 (σ 35 23) (0 : Int32) (0 : Int32)) else (s_X5_goes_a48 σ x0 x1 (σ 35 23) (0 : Int32) (1 : Int32))) else (t_X5_goes_6 σ x0 x1))
noncomputable def p_X5_goes (σ : sg_S) (x0 : Int32) (x1 : Int32) : Prop := ((¬ x0 = (100 : Int32) → ((¬ (σ 35 23) = (1 : Int32) → (p_X5_goes_a48 σ x0 x1 (σ 35 23) (0 : Int32) (0 : Int32))) ∧ (¬ (¬ (σ 35 23) = (1 : Int32)) → (p_X5_goes_a48 σ x0 x1 (σ 35 23) (0 : Int32) (1 : Int32))))) ∧ (¬ (¬ x0 = (100 : Int32)) → p_X5_worthOf ((6 : Int32) * x1) (0 : Int32)))
theorem m_X5_goes {s : List Int32} {σ : sg_S} (x0 : Int32) (x1 : Int32) (hp : p_X5_goes σ x0 x1) : Ct s 145 [rf 35, .inl x0, .inl x1] σ [] (s_X5_goes σ x0 x1) := by
  refine ct_v (la := [some (rf 35), some (.inl x0), some (.inl x1), none, none]) Kq_35 rfl rfl rfl rfl rfl rfl rfl (cgS ?_)
  unfold s_X5_goes
  unfold p_X5_goes at hp
  refine rt_lna rfl rfl ?_
  refine rt_gfi rfl Kq_35 (by decide) rfl rfl ?_
  refine rt_sn (la1 := [some (rf 35), some (.inl x0), some (.inl x1), some (.inl (σ 35 23)), none]) rfl rfl rfl ?_
  refine rt_k1 rfl ck1_0 ?_
  refine rt_st (la1 := [some (rf 35), some (.inl x0), some (.inl x1), some (.inl (σ 35 23)), some (.inl (0 : Int32))]) rfl rfl rfl ?_
  refine rt_ln rfl rfl ?_
  refine rt_k2 rfl ck2_100 ?_
  refine rt_ic rfl rfl (fun h => ?_) (fun h => ?_)
  · replace hp := hp.1 h
    refine rt_lna rfl rfl ?_
    refine rt_ln rfl rfl ?_
    refine rt_k1 rfl ck1_1 ?_
    refine rt_ic rfl rfl (fun h => ?_) (fun h => ?_)
    · replace hp := hp.1 h
      refine rt_k1 rfl ck1_0 ?_
      exact m_X5_goes_a48 σ x0 x1 (σ 35 23) (0 : Int32) (0 : Int32) hp
    · replace hp := hp.2 h
      refine rt_k1 rfl ck1_1 ?_
      refine rt_go rfl ?_
      exact m_X5_goes_a48 σ x0 x1 (σ 35 23) (0 : Int32) (1 : Int32) hp
  · replace hp := hp.2 h
    refine rt_lna rfl rfl ?_
    refine rt_gfr rfl Kq_35 (by decide) rfl ?_
    refine rt_k1 rfl ck1_1 ?_
    refine rt_ln rfl rfl ?_
    refine rt_as (k0 := 1) (σ1 := (sg_up σ 44 1 x1)) rfl Kq_44 ⟨by decide, by decide⟩ rfl rfl ?_
    refine rt_lna rfl rfl ?_
    refine rt_gfr rfl Kq_35 (by decide) rfl ?_
    refine rt_k1 rfl ck1_1 ?_
    refine rt_lna rfl rfl ?_
    refine rt_k2 rfl ck2_6 ?_
    refine rt_ln rfl rfl ?_
    refine rt_mul rfl ?_
    refine rt_k1 rfl ck1_0 ?_
    refine rt_iv (σ1 := (sg_up σ 44 1 x1)) rfl rfl rfl (m_X5_worthOf ((6 : Int32) * x1) (0 : Int32) hp) ?_
    show RtF bk fS s 145 35 [some (rf 35), some (.inl x0), some (.inl x1), some (.inl (σ 35 23)), some (.inl (0 : Int32))] [.inl (v_X5_worthOf (sg_up σ 44 1 x1) ((6 : Int32) * x1) (0 : Int32)), .inl (1 : Int32), rf 45] (sg_up σ 44 1 x1) _
    refine rt_as (k0 := 1) (σ1 := (t_X5_goes_6 σ x0 x1)) rfl Kq_45 ⟨by decide, by decide⟩ rfl rfl ?_
    exact rt_eS rfl
noncomputable def s_X5_goesTo_b6 (k6 : sg_S → Int32 → Int32 → sg_S) (σ : sg_S) (x1_ : Int32) (x2_ : Int32) : sg_S := (if x1_ ≤ x2_ then σ else (k6 (s_X5_goes σ (σ 39 (ni x2_)) (σ 40 (ni x2_))) x1_ (x2_ + (1 : Int32))))
noncomputable def p_X5_goesTo_b6 (kp6 : sg_S → Int32 → Int32 → Prop) (σ : sg_S) (x1_ : Int32) (x2_ : Int32) : Prop := (¬ (x1_ ≤ x2_) → (ix x2_ 400 ∧ (ix x2_ 400 ∧ (p_X5_goes σ (σ 39 (ni x2_)) (σ 40 (ni x2_)) ∧ (kp6 (s_X5_goes σ (σ 39 (ni x2_)) (σ 40 (ni x2_))) x1_ (x2_ + (1 : Int32)))))))
theorem m_X5_goesTo_b6 {s : List Int32} (k6 : sg_S → Int32 → Int32 → sg_S) (kp6 : sg_S → Int32 → Int32 → Prop) (hk6 : ∀ (σ : sg_S) (x1_ : Int32) (x2_ : Int32), kp6 σ x1_ x2_ → RtF bk fS s 146 6 [some (rf 35), some (.inl x1_), some (.inl x2_)] [] σ (k6 σ x1_ x2_)) (σ : sg_S) (x1_ : Int32) (x2_ : Int32) (hp : p_X5_goesTo_b6 kp6 σ x1_ x2_) : RtF bk fS s 146 6 [some (rf 35), some (.inl x1_), some (.inl x2_)] [] σ (s_X5_goesTo_b6 k6 σ x1_ x2_) := by
  unfold s_X5_goesTo_b6
  unfold p_X5_goesTo_b6 at hp
  refine rt_ln rfl rfl ?_
  refine rt_ln rfl rfl ?_
  refine rt_ic rfl rfl (fun h => ?_) (fun h => ?_)
  · exact rt_eS rfl
  · replace hp := hp h
    refine rt_lna rfl rfl ?_
    refine rt_lna rfl rfl ?_
    refine rt_gfr rfl Kq_35 (by decide) rfl ?_
    refine rt_ln rfl rfl ?_
    refine rt_al rfl Kq_39 hp.1 rfl ?_
    replace hp := hp.2
    refine rt_lna rfl rfl ?_
    refine rt_gfr rfl Kq_35 (by decide) rfl ?_
    refine rt_ln rfl rfl ?_
    refine rt_al rfl Kq_40 hp.1 rfl ?_
    replace hp := hp.2
    refine rt_iv (σ1 := (s_X5_goes σ (σ 39 (ni x2_)) (σ 40 (ni x2_)))) rfl rfl rfl (m_X5_goes (σ 39 (ni x2_)) (σ 40 (ni x2_)) hp.1) ?_
    show RtF bk fS s 146 27 [some (rf 35), some (.inl x1_), some (.inl x2_)] [] (s_X5_goes σ (σ 39 (ni x2_)) (σ 40 (ni x2_))) _
    replace hp := hp.2
    refine rt_inc (la1 := [some (rf 35), some (.inl x1_), some (.inl (x2_ + (1 : Int32)))]) rfl rfl ck1_1 rfl ?_
    refine rt_go rfl ?_
    exact hk6 (s_X5_goes σ (σ 39 (ni x2_)) (σ 40 (ni x2_))) x1_ (x2_ + (1 : Int32)) hp
noncomputable def s_X5_goesTo_l6 (n : Nat) : sg_S → Int32 → Int32 → sg_S := Nat.rec (motive := fun _ => sg_S → Int32 → Int32 → sg_S) (fun σ _ _ => σ) (fun _ ih => s_X5_goesTo_b6 ih) n
noncomputable def p_X5_goesTo_l6 (n : Nat) : sg_S → Int32 → Int32 → Prop := Nat.rec (motive := fun _ => sg_S → Int32 → Int32 → Prop) (fun _ _ _ => False) (fun _ ih => p_X5_goesTo_b6 ih) n
theorem m_X5_goesTo_l6 {s : List Int32} : ∀ (n : Nat), ∀ (σ : sg_S) (x1_ : Int32) (x2_ : Int32), p_X5_goesTo_l6 n σ x1_ x2_ → RtF bk fS s 146 6 [some (rf 35), some (.inl x1_), some (.inl x2_)] [] σ (s_X5_goesTo_l6 n σ x1_ x2_) := by
  intro n
  induction n with
  | zero =>
    intro σ x1_ x2_ hp
    exact hp.elim
  | succ n ih =>
    intro σ x1_ x2_ hp
    exact m_X5_goesTo_b6 (s_X5_goesTo_l6 n) (p_X5_goesTo_l6 n) ih σ x1_ x2_ hp
noncomputable def s_X5_goesTo (σ : sg_S) (x0 : Int32) : sg_S := (s_X5_goesTo_l6 600 (s_X5_begins σ) x0 (0 : Int32))
noncomputable def p_X5_goesTo (σ : sg_S) (x0 : Int32) : Prop := (p_X5_begins σ ∧ (p_X5_goesTo_l6 600 (s_X5_begins σ) x0 (0 : Int32)))
theorem m_X5_goesTo {s : List Int32} {σ : sg_S} (x0 : Int32) (hp : p_X5_goesTo σ x0) : Ct s 146 [rf 35, .inl x0] σ [] (s_X5_goesTo σ x0) := by
  refine ct_v (la := [some (rf 35), some (.inl x0), none]) Kq_35 rfl rfl rfl rfl rfl rfl rfl (cgS ?_)
  unfold s_X5_goesTo
  unfold p_X5_goesTo at hp
  refine rt_lna rfl rfl ?_
  refine rt_iv (σ1 := (s_X5_begins σ)) rfl rfl rfl (m_X5_begins hp.1) ?_
  show RtF bk fS s 146 4 [some (rf 35), some (.inl x0), none] [] (s_X5_begins σ) _
  replace hp := hp.2
  refine rt_k1 rfl ck1_0 ?_
  refine rt_sn (la1 := [some (rf 35), some (.inl x0), some (.inl (0 : Int32))]) rfl rfl rfl ?_
  exact m_X5_goesTo_l6 600 (s_X5_begins σ) x0 (0 : Int32) hp
noncomputable def s_X5_goesOn (σ : sg_S) : sg_S := (s_X5_goesTo σ (σ 35 6))
noncomputable def p_X5_goesOn (σ : sg_S) : Prop := p_X5_goesTo σ (σ 35 6)
theorem m_X5_goesOn {s : List Int32} {σ : sg_S} (hp : p_X5_goesOn σ) : Ct s 147 [rf 35] σ [] (s_X5_goesOn σ) := by
  refine ct_v (la := [some (rf 35)]) Kq_35 rfl rfl rfl rfl rfl rfl rfl (cgS ?_)
  unfold s_X5_goesOn
  unfold p_X5_goesOn at hp
  refine rt_lna rfl rfl ?_
  refine rt_lna rfl rfl ?_
  refine rt_gfi rfl Kq_35 (by decide) rfl rfl ?_
  refine rt_iv (σ1 := (s_X5_goesTo σ (σ 35 6))) rfl rfl rfl (m_X5_goesTo (σ 35 6) hp) ?_
  show RtF bk fS s 147 8 [some (rf 35)] [] (s_X5_goesTo σ (σ 35 6)) _
  exact rt_eS rfl
noncomputable def t_X5_four_0 (σ : sg_S) (x1_ : Int32) (x2_ : Int32) : sg_S := (sg_up σ 57 (ni (σ 35 26)) ((ip_bI 6 x1_ x2_) &&& (255 : Int32)))
noncomputable def t_X5_four_1 (σ : sg_S) (x1_ : Int32) (x2_ : Int32) : sg_S := (sg_up (t_X5_four_0 σ x1_ x2_) 35 26 (((t_X5_four_0 σ x1_ x2_) 35 26) + (1 : Int32)))
noncomputable def s_X5_four_b3 (k3 : sg_S → Int32 → Int32 → sg_S) (σ : sg_S) (x1_ : Int32) (x2_ : Int32) : sg_S := (if x2_ < 0 then σ else (k3 (t_X5_four_1 σ x1_ x2_) x1_ (x2_ + (-8 : Int32))))
noncomputable def p_X5_four_b3 (kp3 : sg_S → Int32 → Int32 → Prop) (σ : sg_S) (x1_ : Int32) (x2_ : Int32) : Prop := (¬ (x2_ < 0) → (ix (σ 35 26) 500 ∧ (kp3 (t_X5_four_1 σ x1_ x2_) x1_ (x2_ + (-8 : Int32)))))
theorem m_X5_four_b3 {s : List Int32} (k3 : sg_S → Int32 → Int32 → sg_S) (kp3 : sg_S → Int32 → Int32 → Prop) (hk3 : ∀ (σ : sg_S) (x1_ : Int32) (x2_ : Int32), kp3 σ x1_ x2_ → RtF bk fS s 148 3 [some (rf 35), some (.inl x1_), some (.inl x2_)] [] σ (k3 σ x1_ x2_)) (σ : sg_S) (x1_ : Int32) (x2_ : Int32) (hp : p_X5_four_b3 kp3 σ x1_ x2_) : RtF bk fS s 148 3 [some (rf 35), some (.inl x1_), some (.inl x2_)] [] σ (s_X5_four_b3 k3 σ x1_ x2_) := by
  unfold s_X5_four_b3
  unfold p_X5_four_b3 at hp
  refine rt_ln rfl rfl ?_
  refine rt_if rfl rfl (fun h => ?_) (fun h => ?_)
  · exact rt_eS rfl
  · replace hp := hp h
    refine rt_lna rfl rfl ?_
    refine rt_gfr rfl Kq_35 (by decide) rfl ?_
    refine rt_lna rfl rfl ?_
    refine rt_gfi rfl Kq_35 (by decide) rfl rfl ?_
    refine rt_ln rfl rfl ?_
    refine rt_ln rfl rfl ?_
    refine rt_shr rfl ?_
    refine rt_k3 rfl ck3_255 ?_
    refine rt_and rfl ?_
    refine rt_as (k0 := (ni (σ 35 26))) (σ1 := (t_X5_four_0 σ x1_ x2_)) rfl Kq_57 hp.1 rfl rfl ?_
    replace hp := hp.2
    refine rt_lna rfl rfl ?_
    refine rt_dup rfl rfl ?_
    refine rt_gfi rfl Kq_35 (by decide) rfl rfl ?_
    refine rt_k1 rfl ck1_1 ?_
    refine rt_add rfl ?_
    refine rt_pf (σ1 := (t_X5_four_1 σ x1_ x2_)) rfl Kq_35 (by decide) rfl rfl rfl ?_
    refine rt_inc (la1 := [some (rf 35), some (.inl x1_), some (.inl (x2_ + (-8 : Int32)))]) rfl rfl ck1_m8 rfl ?_
    refine rt_go rfl ?_
    exact hk3 (t_X5_four_1 σ x1_ x2_) x1_ (x2_ + (-8 : Int32)) hp
noncomputable def s_X5_four_l3 (n : Nat) : sg_S → Int32 → Int32 → sg_S := Nat.rec (motive := fun _ => sg_S → Int32 → Int32 → sg_S) (fun σ _ _ => σ) (fun _ ih => s_X5_four_b3 ih) n
noncomputable def p_X5_four_l3 (n : Nat) : sg_S → Int32 → Int32 → Prop := Nat.rec (motive := fun _ => sg_S → Int32 → Int32 → Prop) (fun _ _ _ => False) (fun _ ih => p_X5_four_b3 ih) n
theorem m_X5_four_l3 {s : List Int32} : ∀ (n : Nat), ∀ (σ : sg_S) (x1_ : Int32) (x2_ : Int32), p_X5_four_l3 n σ x1_ x2_ → RtF bk fS s 148 3 [some (rf 35), some (.inl x1_), some (.inl x2_)] [] σ (s_X5_four_l3 n σ x1_ x2_) := by
  intro n
  induction n with
  | zero =>
    intro σ x1_ x2_ hp
    exact hp.elim
  | succ n ih =>
    intro σ x1_ x2_ hp
    exact m_X5_four_b3 (s_X5_four_l3 n) (p_X5_four_l3 n) ih σ x1_ x2_ hp
noncomputable def s_X5_four (σ : sg_S) (x0 : Int32) : sg_S := (s_X5_four_l3 600 σ x0 (24 : Int32))
noncomputable def p_X5_four (σ : sg_S) (x0 : Int32) : Prop := (p_X5_four_l3 600 σ x0 (24 : Int32))
theorem m_X5_four {s : List Int32} {σ : sg_S} (x0 : Int32) (hp : p_X5_four σ x0) : Ct s 148 [rf 35, .inl x0] σ [] (s_X5_four σ x0) := by
  refine ct_v (la := [some (rf 35), some (.inl x0), none]) Kq_35 rfl rfl rfl rfl rfl rfl rfl (cgS ?_)
  unfold s_X5_four
  unfold p_X5_four at hp
  refine rt_k2 rfl ck2_24 ?_
  refine rt_sn (la1 := [some (rf 35), some (.inl x0), some (.inl (24 : Int32))]) rfl rfl rfl ?_
  exact m_X5_four_l3 600 σ x0 (24 : Int32) hp
noncomputable def t_X5_feed_0 (σ : sg_S) (x0 : Int32) (x1 : Int32) (x2 : Int32) (x3 : Int32) (x4 : Int32) : sg_S := (s_X5_four (s_X5_four (sg_up σ 35 0 (0 : Int32)) x0) x1)
noncomputable def t_X5_feed_1 (σ : sg_S) (x0 : Int32) (x1 : Int32) (x2 : Int32) (x3 : Int32) (x4 : Int32) : sg_S := (s_X5_four (s_X5_four (t_X5_feed_0 σ x0 x1 x2 x3 x4) x2) x3)
noncomputable def r_X5_feed (σ : sg_S) (x0 : Int32) (x1 : Int32) (x2 : Int32) (x3 : Int32) (x4 : Int32) : Int32 × sg_S := (if (((sg_up σ 35 0 (0 : Int32)) 35 26) + (20 : Int32)) ≤ (500 : Int32) then (((s_X5_four (t_X5_feed_1 σ x0 x1 x2 x3 x4) x4) 35 26), (s_X5_four (t_X5_feed_1 σ x0 x1 x2 x3 x4) x4)) else ((-1 : Int32), (sg_up σ 35 0 (0 : Int32))))
noncomputable def p_X5_feed (σ : sg_S) (x0 : Int32) (x1 : Int32) (x2 : Int32) (x3 : Int32) (x4 : Int32) : Prop := ((((sg_up σ 35 0 (0 : Int32)) 35 26) + (20 : Int32)) ≤ (500 : Int32) → (p_X5_four (sg_up σ 35 0 (0 : Int32)) x0 ∧ (p_X5_four (s_X5_four (sg_up σ 35 0 (0 : Int32)) x0) x1 ∧ (p_X5_four (t_X5_feed_0 σ x0 x1 x2 x3 x4) x2 ∧ (p_X5_four (s_X5_four (t_X5_feed_0 σ x0 x1 x2 x3 x4) x2) x3 ∧ p_X5_four (t_X5_feed_1 σ x0 x1 x2 x3 x4) x4)))))
theorem m_X5_feed {s : List Int32} {σ : sg_S} (x0 : Int32) (x1 : Int32) (x2 : Int32) (x3 : Int32) (x4 : Int32) (hp : p_X5_feed σ x0 x1 x2 x3 x4) : Ct s 149 [rf 35, .inl x0, .inl x1, .inl x2, .inl x3, .inl x4] σ [.inl (r_X5_feed σ x0 x1 x2 x3 x4).1] (r_X5_feed σ x0 x1 x2 x3 x4).2 := by
  refine ct_v (la := [some (rf 35), some (.inl x0), some (.inl x1), some (.inl x2), some (.inl x3), some (.inl x4)]) Kq_35 rfl rfl rfl rfl rfl rfl rfl (cgR ?_)
  unfold r_X5_feed
  unfold p_X5_feed at hp
  refine rt_lna rfl rfl ?_
  refine rt_k1 rfl ck1_0 ?_
  refine rt_pf (σ1 := (sg_up σ 35 0 (0 : Int32))) rfl Kq_35 (by decide) rfl rfl rfl ?_
  refine rt_lna rfl rfl ?_
  refine rt_gfi rfl Kq_35 (by decide) rfl rfl ?_
  refine rt_k2 rfl ck2_20 ?_
  refine rt_add rfl ?_
  refine rt_k3 rfl ck3_500 ?_
  refine rt_ic rfl rfl (fun h => ?_) (fun h => ?_)
  · replace hp := hp h
    refine rt_lna rfl rfl ?_
    refine rt_ln rfl rfl ?_
    refine rt_iv (σ1 := (s_X5_four (sg_up σ 35 0 (0 : Int32)) x0)) rfl rfl rfl (m_X5_four x0 hp.1) ?_
    show RtF bk fR s 149 25 [some (rf 35), some (.inl x0), some (.inl x1), some (.inl x2), some (.inl x3), some (.inl x4)] [] (s_X5_four (sg_up σ 35 0 (0 : Int32)) x0) _
    replace hp := hp.2
    refine rt_lna rfl rfl ?_
    refine rt_ln rfl rfl ?_
    refine rt_iv (σ1 := (t_X5_feed_0 σ x0 x1 x2 x3 x4)) rfl rfl rfl (m_X5_four x1 hp.1) ?_
    show RtF bk fR s 149 30 [some (rf 35), some (.inl x0), some (.inl x1), some (.inl x2), some (.inl x3), some (.inl x4)] [] (t_X5_feed_0 σ x0 x1 x2 x3 x4) _
    replace hp := hp.2
    refine rt_lna rfl rfl ?_
    refine rt_ln rfl rfl ?_
    refine rt_iv (σ1 := (s_X5_four (t_X5_feed_0 σ x0 x1 x2 x3 x4) x2)) rfl rfl rfl (m_X5_four x2 hp.1) ?_
    show RtF bk fR s 149 35 [some (rf 35), some (.inl x0), some (.inl x1), some (.inl x2), some (.inl x3), some (.inl x4)] [] (s_X5_four (t_X5_feed_0 σ x0 x1 x2 x3 x4) x2) _
    replace hp := hp.2
    refine rt_lna rfl rfl ?_
    refine rt_ld rfl rfl ?_
    refine rt_iv (σ1 := (t_X5_feed_1 σ x0 x1 x2 x3 x4)) rfl rfl rfl (m_X5_four x3 hp.1) ?_
    show RtF bk fR s 149 41 [some (rf 35), some (.inl x0), some (.inl x1), some (.inl x2), some (.inl x3), some (.inl x4)] [] (t_X5_feed_1 σ x0 x1 x2 x3 x4) _
    replace hp := hp.2
    refine rt_lna rfl rfl ?_
    refine rt_ld rfl rfl ?_
    refine rt_iv (σ1 := (s_X5_four (t_X5_feed_1 σ x0 x1 x2 x3 x4) x4)) rfl rfl rfl (m_X5_four x4 hp) ?_
    show RtF bk fR s 149 47 [some (rf 35), some (.inl x0), some (.inl x1), some (.inl x2), some (.inl x3), some (.inl x4)] [] (s_X5_four (t_X5_feed_1 σ x0 x1 x2 x3 x4) x4) _
    refine rt_lna rfl rfl ?_
    refine rt_gfi rfl Kq_35 (by decide) rfl rfl ?_
    exact rt_eR rfl
  · refine rt_k1 rfl ck1_m1 ?_
    exact rt_eR rfl
noncomputable def r_X5_end (σ : sg_S) (x0 : Int32) : Int32 × sg_S := (if ¬ (v_X5_in x0 (0 : Int32) ((sg_up σ 35 0 (0 : Int32)) 35 26)) = 0 then ((1 : Int32), (sg_up (sg_up σ 35 0 (0 : Int32)) 35 26 x0)) else ((0 : Int32), (sg_up σ 35 0 (0 : Int32))))
theorem m_X5_end {s : List Int32} {σ : sg_S} (x0 : Int32) : Ct s 150 [rf 35, .inl x0] σ [.inl (r_X5_end σ x0).1] (r_X5_end σ x0).2 := by
  refine ct_v (la := [some (rf 35), some (.inl x0)]) Kq_35 rfl rfl rfl rfl rfl rfl rfl (cgR ?_)
  unfold r_X5_end
  refine rt_lna rfl rfl ?_
  refine rt_k1 rfl ck1_0 ?_
  refine rt_pf (σ1 := (sg_up σ 35 0 (0 : Int32))) rfl Kq_35 (by decide) rfl rfl rfl ?_
  refine rt_ln rfl rfl ?_
  refine rt_k1 rfl ck1_0 ?_
  refine rt_lna rfl rfl ?_
  refine rt_gfi rfl Kq_35 (by decide) rfl rfl ?_
  refine rt_is (σ1 := (sg_up σ 35 0 (0 : Int32))) rfl rfl rfl (m_X5_in x0 (0 : Int32) ((sg_up σ 35 0 (0 : Int32)) 35 26)) ?_
  show RtF bk fR s 150 14 [some (rf 35), some (.inl x0)] [.inl (v_X5_in x0 (0 : Int32) ((sg_up σ 35 0 (0 : Int32)) 35 26))] (sg_up σ 35 0 (0 : Int32)) _
  refine rt_if rfl rfl (fun h => ?_) (fun h => ?_)
  · refine rt_lna rfl rfl ?_
    refine rt_ln rfl rfl ?_
    refine rt_pf (σ1 := (sg_up (sg_up σ 35 0 (0 : Int32)) 35 26 x0)) rfl Kq_35 (by decide) rfl rfl rfl ?_
    refine rt_k1 rfl ck1_1 ?_
    exact rt_eRb rfl (Or.inr rfl)
  · refine rt_k1 rfl ck1_0 ?_
    exact rt_eRb rfl (Or.inl rfl)
noncomputable def r_X5_here_b0 (k0 : sg_S → Int32 × sg_S) (σ : sg_S) : Int32 × sg_S := (if (σ 35 26) ≤ (σ 35 28) then (if (σ 35 26) ≤ (σ 35 28) then ((-1 : Int32), σ) else ((σ 57 (ni (σ 35 28))), σ)) else (if (σ 57 (ni (σ 35 28))) = (32 : Int32) then (k0 (sg_up σ 35 28 ((σ 35 28) + (1 : Int32)))) else (if ¬ (σ 57 (ni (σ 35 28))) = (10 : Int32) then (if (σ 35 26) ≤ (σ 35 28) then ((-1 : Int32), σ) else ((σ 57 (ni (σ 35 28))), σ)) else (k0 (sg_up σ 35 28 ((σ 35 28) + (1 : Int32)))))))
noncomputable def p_X5_here_b0 (kp0 : sg_S → Prop) (σ : sg_S) : Prop := (((σ 35 26) ≤ (σ 35 28) → (¬ ((σ 35 26) ≤ (σ 35 28)) → ix (σ 35 28) 500)) ∧ (¬ ((σ 35 26) ≤ (σ 35 28)) → (ix (σ 35 28) 500 ∧ (((σ 57 (ni (σ 35 28))) = (32 : Int32) → (kp0 (sg_up σ 35 28 ((σ 35 28) + (1 : Int32))))) ∧ (¬ ((σ 57 (ni (σ 35 28))) = (32 : Int32)) → (ix (σ 35 28) 500 ∧ ((¬ (σ 57 (ni (σ 35 28))) = (10 : Int32) → (¬ ((σ 35 26) ≤ (σ 35 28)) → ix (σ 35 28) 500)) ∧ (¬ (¬ (σ 57 (ni (σ 35 28))) = (10 : Int32)) → (kp0 (sg_up σ 35 28 ((σ 35 28) + (1 : Int32))))))))))))
theorem m_X5_here_b0 {s : List Int32} (k0 : sg_S → Int32 × sg_S) (kp0 : sg_S → Prop) (hk0 : ∀ (σ : sg_S), kp0 σ → RtF bk fR s 151 0 [some (rf 35)] [] σ (k0 σ)) (σ : sg_S) (hp : p_X5_here_b0 kp0 σ) : RtF bk fR s 151 0 [some (rf 35)] [] σ (r_X5_here_b0 k0 σ) := by
  unfold r_X5_here_b0
  unfold p_X5_here_b0 at hp
  refine rt_lna rfl rfl ?_
  refine rt_gfi rfl Kq_35 (by decide) rfl rfl ?_
  refine rt_lna rfl rfl ?_
  refine rt_gfi rfl Kq_35 (by decide) rfl rfl ?_
  refine rt_ic rfl rfl (fun h => ?_) (fun h => ?_)
  · replace hp := hp.1 h
    refine rt_lna rfl rfl ?_
    refine rt_gfi rfl Kq_35 (by decide) rfl rfl ?_
    refine rt_lna rfl rfl ?_
    refine rt_gfi rfl Kq_35 (by decide) rfl rfl ?_
    refine rt_ic rfl rfl (fun h => ?_) (fun h => ?_)
    · refine rt_k1 rfl ck1_m1 ?_
      exact rt_eR rfl
    · replace hp := hp h
      refine rt_lna rfl rfl ?_
      refine rt_gfr rfl Kq_35 (by decide) rfl ?_
      refine rt_lna rfl rfl ?_
      refine rt_gfi rfl Kq_35 (by decide) rfl rfl ?_
      refine rt_al rfl Kq_57 hp rfl ?_
      refine rt_go rfl ?_
      exact rt_eR rfl
  · replace hp := hp.2 h
    refine rt_lna rfl rfl ?_
    refine rt_gfr rfl Kq_35 (by decide) rfl ?_
    refine rt_lna rfl rfl ?_
    refine rt_gfi rfl Kq_35 (by decide) rfl rfl ?_
    refine rt_al rfl Kq_57 hp.1 rfl ?_
    replace hp := hp.2
    refine rt_k2 rfl ck2_32 ?_
    refine rt_ic rfl rfl (fun h => ?_) (fun h => ?_)
    · replace hp := hp.1 h
      refine rt_lna rfl rfl ?_
      refine rt_dup rfl rfl ?_
      refine rt_gfi rfl Kq_35 (by decide) rfl rfl ?_
      refine rt_k1 rfl ck1_1 ?_
      refine rt_add rfl ?_
      refine rt_pf (σ1 := (sg_up σ 35 28 ((σ 35 28) + (1 : Int32)))) rfl Kq_35 (by decide) rfl rfl rfl ?_
      refine rt_go rfl ?_
      exact hk0 (sg_up σ 35 28 ((σ 35 28) + (1 : Int32))) hp
    · replace hp := hp.2 h
      refine rt_lna rfl rfl ?_
      refine rt_gfr rfl Kq_35 (by decide) rfl ?_
      refine rt_lna rfl rfl ?_
      refine rt_gfi rfl Kq_35 (by decide) rfl rfl ?_
      refine rt_al rfl Kq_57 hp.1 rfl ?_
      replace hp := hp.2
      refine rt_k2 rfl ck2_10 ?_
      refine rt_ic rfl rfl (fun h => ?_) (fun h => ?_)
      · replace hp := hp.1 h
        refine rt_lna rfl rfl ?_
        refine rt_gfi rfl Kq_35 (by decide) rfl rfl ?_
        refine rt_lna rfl rfl ?_
        refine rt_gfi rfl Kq_35 (by decide) rfl rfl ?_
        refine rt_ic rfl rfl (fun h => ?_) (fun h => ?_)
        · refine rt_k1 rfl ck1_m1 ?_
          exact rt_eR rfl
        · replace hp := hp h
          refine rt_lna rfl rfl ?_
          refine rt_gfr rfl Kq_35 (by decide) rfl ?_
          refine rt_lna rfl rfl ?_
          refine rt_gfi rfl Kq_35 (by decide) rfl rfl ?_
          refine rt_al rfl Kq_57 hp rfl ?_
          refine rt_go rfl ?_
          exact rt_eR rfl
      · replace hp := hp.2 h
        refine rt_lna rfl rfl ?_
        refine rt_dup rfl rfl ?_
        refine rt_gfi rfl Kq_35 (by decide) rfl rfl ?_
        refine rt_k1 rfl ck1_1 ?_
        refine rt_add rfl ?_
        refine rt_pf (σ1 := (sg_up σ 35 28 ((σ 35 28) + (1 : Int32)))) rfl Kq_35 (by decide) rfl rfl rfl ?_
        refine rt_go rfl ?_
        exact hk0 (sg_up σ 35 28 ((σ 35 28) + (1 : Int32))) hp
noncomputable def r_X5_here_l0 (n : Nat) : sg_S → Int32 × sg_S := Nat.rec (motive := fun _ => sg_S → Int32 × sg_S) (fun σ => (0, σ)) (fun _ ih => r_X5_here_b0 ih) n
noncomputable def p_X5_here_l0 (n : Nat) : sg_S → Prop := Nat.rec (motive := fun _ => sg_S → Prop) (fun _ => False) (fun _ ih => p_X5_here_b0 ih) n
theorem m_X5_here_l0 {s : List Int32} : ∀ (n : Nat), ∀ (σ : sg_S), p_X5_here_l0 n σ → RtF bk fR s 151 0 [some (rf 35)] [] σ (r_X5_here_l0 n σ) := by
  intro n
  induction n with
  | zero =>
    intro σ hp
    exact hp.elim
  | succ n ih =>
    intro σ hp
    exact m_X5_here_b0 (r_X5_here_l0 n) (p_X5_here_l0 n) ih σ hp
noncomputable def r_X5_here (σ : sg_S) : Int32 × sg_S := (r_X5_here_l0 600 σ)
noncomputable def p_X5_here (σ : sg_S) : Prop := (p_X5_here_l0 600 σ)
theorem m_X5_here {s : List Int32} {σ : sg_S} (hp : p_X5_here σ) : Ct s 151 [rf 35] σ [.inl (r_X5_here σ).1] (r_X5_here σ).2 := by
  refine ct_v (la := [some (rf 35)]) Kq_35 rfl rfl rfl rfl rfl rfl rfl (cgR ?_)
  unfold r_X5_here
  unfold p_X5_here at hp
  exact m_X5_here_l0 600 σ hp
noncomputable def r_X5_fails (σ : sg_S) (x0 : Int32) (x1 : Int32) : Int32 × sg_S := ((0 : Int32), (sg_up σ 35 29 (x0 + ((8 : Int32) * x1))))
theorem m_X5_fails {s : List Int32} {σ : sg_S} (x0 : Int32) (x1 : Int32) : Ct s 152 [rf 35, .inl x0, .inl x1] σ [.inl (r_X5_fails σ x0 x1).1] (r_X5_fails σ x0 x1).2 := by
  refine ct_v (la := [some (rf 35), some (.inl x0), some (.inl x1)]) Kq_35 rfl rfl rfl rfl rfl rfl rfl (cgR ?_)
  unfold r_X5_fails
  refine rt_lna rfl rfl ?_
  refine rt_ln rfl rfl ?_
  refine rt_k2 rfl ck2_8 ?_
  refine rt_ln rfl rfl ?_
  refine rt_mul rfl ?_
  refine rt_add rfl ?_
  refine rt_pf (σ1 := (sg_up σ 35 29 (x0 + ((8 : Int32) * x1)))) rfl Kq_35 (by decide) rfl rfl rfl ?_
  refine rt_k1 rfl ck1_0 ?_
  exact rt_eRb rfl (Or.inl rfl)
theorem bt_fails {σ : sg_S} {x0 x1 : Int32} : bt (r_X5_fails σ x0 x1).1 := Or.inl rfl
noncomputable def t_X5_readNumber_0 (σ : sg_S) : sg_S := (sg_up (r_X5_here σ).2 35 32 ((r_X5_here σ).2 35 28))
noncomputable def r_X5_readNumber_a124 (σ : sg_S) : Int32 × sg_S := (if ((σ 35 28) - (σ 35 32)) ≤ (4 : Int32) then ((1 : Int32), σ) else (if (r_X5_fails σ (2 : Int32) (σ 35 32)).1 = 0 then ((0 : Int32), (r_X5_fails σ (2 : Int32) (σ 35 32)).2) else ((1 : Int32), (r_X5_fails σ (2 : Int32) (σ 35 32)).2)))
theorem m_X5_readNumber_a124 {s : List Int32} (σ : sg_S) : RtF bk fR s 153 124 [some (rf 35)] [] σ (r_X5_readNumber_a124 σ) := by
  unfold r_X5_readNumber_a124
  refine rt_lna rfl rfl ?_
  refine rt_gfi rfl Kq_35 (by decide) rfl rfl ?_
  refine rt_lna rfl rfl ?_
  refine rt_gfi rfl Kq_35 (by decide) rfl rfl ?_
  refine rt_sub rfl ?_
  refine rt_k1 rfl ck1_4 ?_
  refine rt_ic rfl rfl (fun h => ?_) (fun h => ?_)
  · refine rt_k1 rfl ck1_1 ?_
    refine rt_go rfl ?_
    exact rt_eRb rfl (Or.inr rfl)
  · refine rt_lna rfl rfl ?_
    refine rt_k1 rfl ck1_2 ?_
    refine rt_lna rfl rfl ?_
    refine rt_gfi rfl Kq_35 (by decide) rfl rfl ?_
    refine rt_iv (σ1 := (r_X5_fails σ (2 : Int32) (σ 35 32)).2) rfl rfl rfl (m_X5_fails (2 : Int32) (σ 35 32)) ?_
    show RtF bk fR s 153 146 [some (rf 35)] [.inl (r_X5_fails σ (2 : Int32) (σ 35 32)).1] (r_X5_fails σ (2 : Int32) (σ 35 32)).2 _
    refine rt_if rfl rfl (fun h => ?_) (fun h => ?_)
    · refine rt_k1 rfl ck1_0 ?_
      exact rt_eRb rfl (Or.inl rfl)
    · refine rt_k1 rfl ck1_1 ?_
      refine rt_go rfl ?_
      exact rt_eRb rfl (Or.inr rfl)
noncomputable def t_X5_readNumber_1 (σ : sg_S) : sg_S := (sg_up (sg_up σ 35 30 (σ 35 30)) 35 28 (((sg_up σ 35 30 (σ 35 30)) 35 28) + (1 : Int32)))
noncomputable def t_X5_readNumber_2 (σ : sg_S) : sg_S := (sg_up σ 35 30 ((((10 : Int32) * (σ 35 30)) + (σ 57 (ni (σ 35 28)))) - (48 : Int32)))
noncomputable def t_X5_readNumber_3 (σ : sg_S) : sg_S := (sg_up (t_X5_readNumber_2 σ) 35 28 (((t_X5_readNumber_2 σ) 35 28) + (1 : Int32)))
noncomputable def r_X5_readNumber_b37 (k37 : sg_S → Int32 × sg_S) (σ : sg_S) : Int32 × sg_S := (if (σ 35 26) ≤ (σ 35 28) then (r_X5_readNumber_a124 σ) else (if (v_X5_in (σ 57 (ni (σ 35 28))) (48 : Int32) (57 : Int32)) = 0 then (r_X5_readNumber_a124 σ) else (if (4 : Int32) ≤ ((σ 35 28) - (σ 35 32)) then (k37 (t_X5_readNumber_1 σ)) else (k37 (t_X5_readNumber_3 σ)))))
noncomputable def p_X5_readNumber_b37 (kp37 : sg_S → Prop) (σ : sg_S) : Prop := (¬ ((σ 35 26) ≤ (σ 35 28)) → (ix (σ 35 28) 500 ∧ (¬ ((v_X5_in (σ 57 (ni (σ 35 28))) (48 : Int32) (57 : Int32)) = 0) → (((4 : Int32) ≤ ((σ 35 28) - (σ 35 32)) → (kp37 (t_X5_readNumber_1 σ))) ∧ (¬ ((4 : Int32) ≤ ((σ 35 28) - (σ 35 32))) → (ix (σ 35 28) 500 ∧ (kp37 (t_X5_readNumber_3 σ))))))))
theorem m_X5_readNumber_b37 {s : List Int32} (k37 : sg_S → Int32 × sg_S) (kp37 : sg_S → Prop) (hk37 : ∀ (σ : sg_S), kp37 σ → RtF bk fR s 153 37 [some (rf 35)] [] σ (k37 σ)) (σ : sg_S) (hp : p_X5_readNumber_b37 kp37 σ) : RtF bk fR s 153 37 [some (rf 35)] [] σ (r_X5_readNumber_b37 k37 σ) := by
  unfold r_X5_readNumber_b37
  unfold p_X5_readNumber_b37 at hp
  refine rt_lna rfl rfl ?_
  refine rt_gfi rfl Kq_35 (by decide) rfl rfl ?_
  refine rt_lna rfl rfl ?_
  refine rt_gfi rfl Kq_35 (by decide) rfl rfl ?_
  refine rt_ic rfl rfl (fun h => ?_) (fun h => ?_)
  · exact m_X5_readNumber_a124 σ
  · replace hp := hp h
    refine rt_lna rfl rfl ?_
    refine rt_gfr rfl Kq_35 (by decide) rfl ?_
    refine rt_lna rfl rfl ?_
    refine rt_gfi rfl Kq_35 (by decide) rfl rfl ?_
    refine rt_al rfl Kq_57 hp.1 rfl ?_
    replace hp := hp.2
    refine rt_k2 rfl ck2_48 ?_
    refine rt_k2 rfl ck2_57 ?_
    refine rt_is (σ1 := σ) rfl rfl rfl (m_X5_in (σ 57 (ni (σ 35 28))) (48 : Int32) (57 : Int32)) ?_
    show RtF bk fR s 153 64 [some (rf 35)] [.inl (v_X5_in (σ 57 (ni (σ 35 28))) (48 : Int32) (57 : Int32))] σ _
    refine rt_if rfl rfl (fun h => ?_) (fun h => ?_)
    · exact m_X5_readNumber_a124 σ
    · replace hp := hp h
      refine rt_lna rfl rfl ?_
      refine rt_lna rfl rfl ?_
      refine rt_gfi rfl Kq_35 (by decide) rfl rfl ?_
      refine rt_lna rfl rfl ?_
      refine rt_gfi rfl Kq_35 (by decide) rfl rfl ?_
      refine rt_sub rfl ?_
      refine rt_k1 rfl ck1_4 ?_
      refine rt_ic rfl rfl (fun h => ?_) (fun h => ?_)
      · replace hp := hp.1 h
        refine rt_lna rfl rfl ?_
        refine rt_gfi rfl Kq_35 (by decide) rfl rfl ?_
        refine rt_pf (σ1 := (sg_up σ 35 30 (σ 35 30))) rfl Kq_35 (by decide) rfl rfl rfl ?_
        refine rt_lna rfl rfl ?_
        refine rt_dup rfl rfl ?_
        refine rt_gfi rfl Kq_35 (by decide) rfl rfl ?_
        refine rt_k1 rfl ck1_1 ?_
        refine rt_add rfl ?_
        refine rt_pf (σ1 := (t_X5_readNumber_1 σ)) rfl Kq_35 (by decide) rfl rfl rfl ?_
        refine rt_go rfl ?_
        exact hk37 (t_X5_readNumber_1 σ) hp
      · replace hp := hp.2 h
        refine rt_k2 rfl ck2_10 ?_
        refine rt_lna rfl rfl ?_
        refine rt_gfi rfl Kq_35 (by decide) rfl rfl ?_
        refine rt_mul rfl ?_
        refine rt_lna rfl rfl ?_
        refine rt_gfr rfl Kq_35 (by decide) rfl ?_
        refine rt_lna rfl rfl ?_
        refine rt_gfi rfl Kq_35 (by decide) rfl rfl ?_
        refine rt_al rfl Kq_57 hp.1 rfl ?_
        replace hp := hp.2
        refine rt_add rfl ?_
        refine rt_k2 rfl ck2_48 ?_
        refine rt_sub rfl ?_
        refine rt_go rfl ?_
        refine rt_pf (σ1 := (t_X5_readNumber_2 σ)) rfl Kq_35 (by decide) rfl rfl rfl ?_
        refine rt_lna rfl rfl ?_
        refine rt_dup rfl rfl ?_
        refine rt_gfi rfl Kq_35 (by decide) rfl rfl ?_
        refine rt_k1 rfl ck1_1 ?_
        refine rt_add rfl ?_
        refine rt_pf (σ1 := (t_X5_readNumber_3 σ)) rfl Kq_35 (by decide) rfl rfl rfl ?_
        refine rt_go rfl ?_
        exact hk37 (t_X5_readNumber_3 σ) hp
noncomputable def r_X5_readNumber_l37 (n : Nat) : sg_S → Int32 × sg_S := Nat.rec (motive := fun _ => sg_S → Int32 × sg_S) (fun σ => (0, σ)) (fun _ ih => r_X5_readNumber_b37 ih) n
noncomputable def p_X5_readNumber_l37 (n : Nat) : sg_S → Prop := Nat.rec (motive := fun _ => sg_S → Prop) (fun _ => False) (fun _ ih => p_X5_readNumber_b37 ih) n
theorem m_X5_readNumber_l37 {s : List Int32} : ∀ (n : Nat), ∀ (σ : sg_S), p_X5_readNumber_l37 n σ → RtF bk fR s 153 37 [some (rf 35)] [] σ (r_X5_readNumber_l37 n σ) := by
  intro n
  induction n with
  | zero =>
    intro σ hp
    exact hp.elim
  | succ n ih =>
    intro σ hp
    exact m_X5_readNumber_b37 (r_X5_readNumber_l37 n) (p_X5_readNumber_l37 n) ih σ hp
noncomputable def t_X5_readNumber_4 (σ : sg_S) : sg_S := (r_X5_fails (r_X5_here σ).2 (1 : Int32) ((r_X5_here σ).2 35 28)).2
noncomputable def r_X5_readNumber (σ : sg_S) : Int32 × sg_S := (if ¬ (v_X5_in (r_X5_here σ).1 (48 : Int32) (57 : Int32)) = 0 then (r_X5_readNumber_l37 600 (sg_up (t_X5_readNumber_0 σ) 35 30 (0 : Int32))) else ((r_X5_fails (r_X5_here σ).2 (1 : Int32) ((r_X5_here σ).2 35 28)).1, (t_X5_readNumber_4 σ)))
noncomputable def p_X5_readNumber (σ : sg_S) : Prop := (p_X5_here σ ∧ (¬ (v_X5_in (r_X5_here σ).1 (48 : Int32) (57 : Int32)) = 0 → (p_X5_readNumber_l37 600 (sg_up (t_X5_readNumber_0 σ) 35 30 (0 : Int32)))))
theorem m_X5_readNumber {s : List Int32} {σ : sg_S} (hp : p_X5_readNumber σ) : Ct s 153 [rf 35] σ [.inl (r_X5_readNumber σ).1] (r_X5_readNumber σ).2 := by
  refine ct_v (la := [some (rf 35)]) Kq_35 rfl rfl rfl rfl rfl rfl rfl (cgR ?_)
  unfold r_X5_readNumber
  unfold p_X5_readNumber at hp
  refine rt_lna rfl rfl ?_
  refine rt_iv (σ1 := (r_X5_here σ).2) rfl rfl rfl (m_X5_here hp.1) ?_
  show RtF bk fR s 153 4 [some (rf 35)] [.inl (r_X5_here σ).1] (r_X5_here σ).2 _
  replace hp := hp.2
  refine rt_k2 rfl ck2_48 ?_
  refine rt_k2 rfl ck2_57 ?_
  refine rt_is (σ1 := (r_X5_here σ).2) rfl rfl rfl (m_X5_in (r_X5_here σ).1 (48 : Int32) (57 : Int32)) ?_
  show RtF bk fR s 153 11 [some (rf 35)] [.inl (v_X5_in (r_X5_here σ).1 (48 : Int32) (57 : Int32))] (r_X5_here σ).2 _
  refine rt_if rfl rfl (fun h => ?_) (fun h => ?_)
  · replace hp := hp h
    refine rt_lna rfl rfl ?_
    refine rt_lna rfl rfl ?_
    refine rt_gfi rfl Kq_35 (by decide) rfl rfl ?_
    refine rt_pf (σ1 := (t_X5_readNumber_0 σ)) rfl Kq_35 (by decide) rfl rfl rfl ?_
    refine rt_lna rfl rfl ?_
    refine rt_k1 rfl ck1_0 ?_
    refine rt_pf (σ1 := (sg_up (t_X5_readNumber_0 σ) 35 30 (0 : Int32))) rfl Kq_35 (by decide) rfl rfl rfl ?_
    exact m_X5_readNumber_l37 600 (sg_up (t_X5_readNumber_0 σ) 35 30 (0 : Int32)) hp
  · refine rt_lna rfl rfl ?_
    refine rt_k1 rfl ck1_1 ?_
    refine rt_lna rfl rfl ?_
    refine rt_gfi rfl Kq_35 (by decide) rfl rfl ?_
    refine rt_iv (σ1 := (t_X5_readNumber_4 σ)) rfl rfl rfl (m_X5_fails (1 : Int32) ((r_X5_here σ).2 35 28)) ?_
    show RtF bk fR s 153 23 [some (rf 35)] [.inl (r_X5_fails (r_X5_here σ).2 (1 : Int32) ((r_X5_here σ).2 35 28)).1] (t_X5_readNumber_4 σ) _
    exact rt_eRb rfl bt_fails
noncomputable def t_X5_readRow_0 (σ : sg_S) (x2_ : Int32) (x3_ : Int32) : sg_S := (sg_up (r_X5_here σ).2 35 28 (((r_X5_here σ).2 35 28) + (1 : Int32)))
noncomputable def t_X5_readRow_1 (σ : sg_S) (x2_ : Int32) (x3_ : Int32) : sg_S := (sg_up (t_X5_readRow_0 σ x2_ x3_) 35 31 (((t_X5_readRow_0 σ x2_ x3_) 35 31) + (1 : Int32)))
noncomputable def t_X5_readRow_2 (σ : sg_S) (x2_ : Int32) (x3_ : Int32) : sg_S := (r_X5_fails (r_X5_here σ).2 (1 : Int32) ((r_X5_here σ).2 35 28)).2
noncomputable def t_X5_readRow_3 (σ : sg_S) (x2_ : Int32) (x3_ : Int32) : sg_S := (sg_up (r_X5_readNumber σ).2 38 (ni (((5 : Int32) * x2_) + x3_)) ((r_X5_readNumber σ).2 35 30))
noncomputable def t_X5_readRow_4 (σ : sg_S) (x2_ : Int32) (x3_ : Int32) : sg_S := (r_X5_fails (r_X5_readNumber σ).2 (2 : Int32) ((r_X5_readNumber σ).2 35 32)).2
noncomputable def r_X5_readRow_b158 (k158 : sg_S → Int32 → Int32 → Int32 × sg_S) (σ : sg_S) (x2_ : Int32) (x3_ : Int32) : Int32 × sg_S := (if (4 : Int32) < x3_ then (if (r_X5_here σ).1 = (59 : Int32) then ((1 : Int32), (t_X5_readRow_1 σ x2_ x3_)) else ((r_X5_fails (r_X5_here σ).2 (1 : Int32) ((r_X5_here σ).2 35 28)).1, (t_X5_readRow_2 σ x2_ x3_))) else (if ¬ (r_X5_readNumber σ).1 = 0 then (if ¬ (v_X5_in ((r_X5_readNumber σ).2 35 30) (1 : Int32) (1000 : Int32)) = 0 then (k158 (t_X5_readRow_3 σ x2_ x3_) x2_ (x3_ + (1 : Int32))) else ((r_X5_fails (r_X5_readNumber σ).2 (2 : Int32) ((r_X5_readNumber σ).2 35 32)).1, (t_X5_readRow_4 σ x2_ x3_))) else ((0 : Int32), (r_X5_readNumber σ).2)))
noncomputable def p_X5_readRow_b158 (kp158 : sg_S → Int32 → Int32 → Prop) (σ : sg_S) (x2_ : Int32) (x3_ : Int32) : Prop := (((4 : Int32) < x3_ → p_X5_here σ) ∧ (¬ ((4 : Int32) < x3_) → (p_X5_readNumber σ ∧ (¬ (r_X5_readNumber σ).1 = 0 → (¬ (v_X5_in ((r_X5_readNumber σ).2 35 30) (1 : Int32) (1000 : Int32)) = 0 → (ix (((5 : Int32) * x2_) + x3_) 50 ∧ (kp158 (t_X5_readRow_3 σ x2_ x3_) x2_ (x3_ + (1 : Int32)))))))))
theorem m_X5_readRow_b158 {s : List Int32} (k158 : sg_S → Int32 → Int32 → Int32 × sg_S) (kp158 : sg_S → Int32 → Int32 → Prop) (hk158 : ∀ (σ : sg_S) (x2_ : Int32) (x3_ : Int32) (o1_ : Option (ip_V Int32)), kp158 σ x2_ x3_ → RtF bk fR s 154 158 [some (rf 35), o1_, some (.inl x2_), some (.inl x3_)] [] σ (k158 σ x2_ x3_)) (σ : sg_S) (x2_ : Int32) (x3_ : Int32) (o1_ : Option (ip_V Int32)) (hp : p_X5_readRow_b158 kp158 σ x2_ x3_) : RtF bk fR s 154 158 [some (rf 35), o1_, some (.inl x2_), some (.inl x3_)] [] σ (r_X5_readRow_b158 k158 σ x2_ x3_) := by
  unfold r_X5_readRow_b158
  unfold p_X5_readRow_b158 at hp
  refine rt_ln rfl rfl ?_
  refine rt_k1 rfl ck1_4 ?_
  refine rt_ic rfl rfl (fun h => ?_) (fun h => ?_)
  · replace hp := hp.1 h
    refine rt_lna rfl rfl ?_
    refine rt_iv (σ1 := (r_X5_here σ).2) rfl rfl rfl (m_X5_here hp) ?_
    show RtF bk fR s 154 220 [some (rf 35), o1_, some (.inl x2_), some (.inl x3_)] [.inl (r_X5_here σ).1] (r_X5_here σ).2 _
    refine rt_k2 rfl ck2_59 ?_
    refine rt_ic rfl rfl (fun h => ?_) (fun h => ?_)
    · refine rt_lna rfl rfl ?_
      refine rt_dup rfl rfl ?_
      refine rt_gfi rfl Kq_35 (by decide) rfl rfl ?_
      refine rt_k1 rfl ck1_1 ?_
      refine rt_add rfl ?_
      refine rt_pf (σ1 := (t_X5_readRow_0 σ x2_ x3_)) rfl Kq_35 (by decide) rfl rfl rfl ?_
      refine rt_lna rfl rfl ?_
      refine rt_dup rfl rfl ?_
      refine rt_gfi rfl Kq_35 (by decide) rfl rfl ?_
      refine rt_k1 rfl ck1_1 ?_
      refine rt_add rfl ?_
      refine rt_pf (σ1 := (t_X5_readRow_1 σ x2_ x3_)) rfl Kq_35 (by decide) rfl rfl rfl ?_
      refine rt_k1 rfl ck1_1 ?_
      exact rt_eRb rfl (Or.inr rfl)
    · refine rt_lna rfl rfl ?_
      refine rt_k1 rfl ck1_1 ?_
      refine rt_lna rfl rfl ?_
      refine rt_gfi rfl Kq_35 (by decide) rfl rfl ?_
      refine rt_iv (σ1 := (t_X5_readRow_2 σ x2_ x3_)) rfl rfl rfl (m_X5_fails (1 : Int32) ((r_X5_here σ).2 35 28)) ?_
      show RtF bk fR s 154 234 [some (rf 35), o1_, some (.inl x2_), some (.inl x3_)] [.inl (r_X5_fails (r_X5_here σ).2 (1 : Int32) ((r_X5_here σ).2 35 28)).1] (t_X5_readRow_2 σ x2_ x3_) _
      exact rt_eRb rfl bt_fails
  · replace hp := hp.2 h
    refine rt_lna rfl rfl ?_
    refine rt_iv (σ1 := (r_X5_readNumber σ).2) rfl rfl rfl (m_X5_readNumber hp.1) ?_
    show RtF bk fR s 154 167 [some (rf 35), o1_, some (.inl x2_), some (.inl x3_)] [.inl (r_X5_readNumber σ).1] (r_X5_readNumber σ).2 _
    replace hp := hp.2
    refine rt_if rfl rfl (fun h => ?_) (fun h => ?_)
    · replace hp := hp h
      refine rt_lna rfl rfl ?_
      refine rt_gfi rfl Kq_35 (by decide) rfl rfl ?_
      refine rt_k1 rfl ck1_1 ?_
      refine rt_k3 rfl ck3_1000 ?_
      refine rt_is (σ1 := (r_X5_readNumber σ).2) rfl rfl rfl (m_X5_in ((r_X5_readNumber σ).2 35 30) (1 : Int32) (1000 : Int32)) ?_
      show RtF bk fR s 154 183 [some (rf 35), o1_, some (.inl x2_), some (.inl x3_)] [.inl (v_X5_in ((r_X5_readNumber σ).2 35 30) (1 : Int32) (1000 : Int32))] (r_X5_readNumber σ).2 _
      refine rt_if rfl rfl (fun h => ?_) (fun h => ?_)
      · replace hp := hp h
        refine rt_lna rfl rfl ?_
        refine rt_gfr rfl Kq_35 (by decide) rfl ?_
        refine rt_k1 rfl ck1_5 ?_
        refine rt_ln rfl rfl ?_
        refine rt_mul rfl ?_
        refine rt_ln rfl rfl ?_
        refine rt_add rfl ?_
        refine rt_lna rfl rfl ?_
        refine rt_gfi rfl Kq_35 (by decide) rfl rfl ?_
        refine rt_as (k0 := (ni (((5 : Int32) * x2_) + x3_))) (σ1 := (t_X5_readRow_3 σ x2_ x3_)) rfl Kq_38 hp.1 rfl rfl ?_
        replace hp := hp.2
        refine rt_inc (la1 := [some (rf 35), o1_, some (.inl x2_), some (.inl (x3_ + (1 : Int32)))]) rfl rfl ck1_1 rfl ?_
        refine rt_go rfl ?_
        exact hk158 (t_X5_readRow_3 σ x2_ x3_) x2_ (x3_ + (1 : Int32)) _ hp
      · refine rt_lna rfl rfl ?_
        refine rt_k1 rfl ck1_2 ?_
        refine rt_lna rfl rfl ?_
        refine rt_gfi rfl Kq_35 (by decide) rfl rfl ?_
        refine rt_iv (σ1 := (t_X5_readRow_4 σ x2_ x3_)) rfl rfl rfl (m_X5_fails (2 : Int32) ((r_X5_readNumber σ).2 35 32)) ?_
        show RtF bk fR s 154 195 [some (rf 35), o1_, some (.inl x2_), some (.inl x3_)] [.inl (r_X5_fails (r_X5_readNumber σ).2 (2 : Int32) ((r_X5_readNumber σ).2 35 32)).1] (t_X5_readRow_4 σ x2_ x3_) _
        exact rt_eRb rfl bt_fails
    · refine rt_k1 rfl ck1_0 ?_
      exact rt_eRb rfl (Or.inl rfl)
noncomputable def r_X5_readRow_l158 (n : Nat) : sg_S → Int32 → Int32 → Int32 × sg_S := Nat.rec (motive := fun _ => sg_S → Int32 → Int32 → Int32 × sg_S) (fun σ _ _ => (0, σ)) (fun _ ih => r_X5_readRow_b158 ih) n
noncomputable def p_X5_readRow_l158 (n : Nat) : sg_S → Int32 → Int32 → Prop := Nat.rec (motive := fun _ => sg_S → Int32 → Int32 → Prop) (fun _ _ _ => False) (fun _ ih => p_X5_readRow_b158 ih) n
theorem m_X5_readRow_l158 {s : List Int32} : ∀ (n : Nat), ∀ (σ : sg_S) (x2_ : Int32) (x3_ : Int32) (o1_ : Option (ip_V Int32)), p_X5_readRow_l158 n σ x2_ x3_ → RtF bk fR s 154 158 [some (rf 35), o1_, some (.inl x2_), some (.inl x3_)] [] σ (r_X5_readRow_l158 n σ x2_ x3_) := by
  intro n
  induction n with
  | zero =>
    intro σ x2_ x3_ o1_ hp
    exact hp.elim
  | succ n ih =>
    intro σ x2_ x3_ o1_ hp
    exact m_X5_readRow_b158 (r_X5_readRow_l158 n) (p_X5_readRow_l158 n) ih σ x2_ x3_ o1_ hp
noncomputable def t_X5_readRow_5 (σ : sg_S) (x1_ : Int32) : sg_S := (r_X5_fails (r_X5_readNumber σ).2 (2 : Int32) ((r_X5_readNumber σ).2 35 32)).2
noncomputable def r_X5_readRow_a72 (σ : sg_S) (x1_ : Int32) : Int32 × sg_S := (if ¬ ((σ 35 28) - x1_) = (3 : Int32) then ((r_X5_fails σ (1 : Int32) x1_).1, (r_X5_fails σ (1 : Int32) x1_).2) else (if ¬ (σ 57 (ni x1_)) = (114 : Int32) then ((r_X5_fails σ (1 : Int32) x1_).1, (r_X5_fails σ (1 : Int32) x1_).2) else (if ¬ (σ 57 (ni (x1_ + (1 : Int32)))) = (111 : Int32) then ((r_X5_fails σ (1 : Int32) x1_).1, (r_X5_fails σ (1 : Int32) x1_).2) else (if (σ 57 (ni (x1_ + (2 : Int32)))) = (119 : Int32) then (if ¬ (r_X5_readNumber σ).1 = 0 then (if ((r_X5_readNumber σ).2 35 30) < (10 : Int32) then (r_X5_readRow_l158 600 (r_X5_readNumber σ).2 ((r_X5_readNumber σ).2 35 30) (1 : Int32)) else ((r_X5_fails (r_X5_readNumber σ).2 (2 : Int32) ((r_X5_readNumber σ).2 35 32)).1, (t_X5_readRow_5 σ x1_))) else ((0 : Int32), (r_X5_readNumber σ).2)) else ((r_X5_fails σ (1 : Int32) x1_).1, (r_X5_fails σ (1 : Int32) x1_).2)))))
noncomputable def p_X5_readRow_a72 (σ : sg_S) (x1_ : Int32) : Prop := (¬ (¬ ((σ 35 28) - x1_) = (3 : Int32)) → (ix x1_ 500 ∧ (¬ (¬ (σ 57 (ni x1_)) = (114 : Int32)) → (ix (x1_ + (1 : Int32)) 500 ∧ (¬ (¬ (σ 57 (ni (x1_ + (1 : Int32)))) = (111 : Int32)) → (ix (x1_ + (2 : Int32)) 500 ∧ ((σ 57 (ni (x1_ + (2 : Int32)))) = (119 : Int32) → (p_X5_readNumber σ ∧ (¬ (r_X5_readNumber σ).1 = 0 → (((r_X5_readNumber σ).2 35 30) < (10 : Int32) → (p_X5_readRow_l158 600 (r_X5_readNumber σ).2 ((r_X5_readNumber σ).2 35 30) (1 : Int32))))))))))))
theorem m_X5_readRow_a72 {s : List Int32} (σ : sg_S) (x1_ : Int32) (o2_ : Option (ip_V Int32)) (o3_ : Option (ip_V Int32)) (hp : p_X5_readRow_a72 σ x1_) : RtF bk fR s 154 72 [some (rf 35), some (.inl x1_), o2_, o3_] [] σ (r_X5_readRow_a72 σ x1_) := by
  unfold r_X5_readRow_a72
  unfold p_X5_readRow_a72 at hp
  refine rt_lna rfl rfl ?_
  refine rt_gfi rfl Kq_35 (by decide) rfl rfl ?_
  refine rt_ln rfl rfl ?_
  refine rt_sub rfl ?_
  refine rt_k1 rfl ck1_3 ?_
  refine rt_ic rfl rfl (fun h => ?_) (fun h => ?_)
  · refine rt_lna rfl rfl ?_
    refine rt_k1 rfl ck1_1 ?_
    refine rt_ln rfl rfl ?_
    refine rt_iv (σ1 := (r_X5_fails σ (1 : Int32) x1_).2) rfl rfl rfl (m_X5_fails (1 : Int32) x1_) ?_
    show RtF bk fR s 154 125 [some (rf 35), some (.inl x1_), o2_, o3_] [.inl (r_X5_fails σ (1 : Int32) x1_).1] (r_X5_fails σ (1 : Int32) x1_).2 _
    exact rt_eRb rfl bt_fails
  · replace hp := hp h
    refine rt_lna rfl rfl ?_
    refine rt_gfr rfl Kq_35 (by decide) rfl ?_
    refine rt_ln rfl rfl ?_
    refine rt_al rfl Kq_57 hp.1 rfl ?_
    replace hp := hp.2
    refine rt_k2 rfl ck2_114 ?_
    refine rt_ic rfl rfl (fun h => ?_) (fun h => ?_)
    · refine rt_lna rfl rfl ?_
      refine rt_k1 rfl ck1_1 ?_
      refine rt_ln rfl rfl ?_
      refine rt_iv (σ1 := (r_X5_fails σ (1 : Int32) x1_).2) rfl rfl rfl (m_X5_fails (1 : Int32) x1_) ?_
      show RtF bk fR s 154 125 [some (rf 35), some (.inl x1_), o2_, o3_] [.inl (r_X5_fails σ (1 : Int32) x1_).1] (r_X5_fails σ (1 : Int32) x1_).2 _
      exact rt_eRb rfl bt_fails
    · replace hp := hp h
      refine rt_lna rfl rfl ?_
      refine rt_gfr rfl Kq_35 (by decide) rfl ?_
      refine rt_ln rfl rfl ?_
      refine rt_k1 rfl ck1_1 ?_
      refine rt_add rfl ?_
      refine rt_al rfl Kq_57 hp.1 rfl ?_
      replace hp := hp.2
      refine rt_k2 rfl ck2_111 ?_
      refine rt_ic rfl rfl (fun h => ?_) (fun h => ?_)
      · refine rt_lna rfl rfl ?_
        refine rt_k1 rfl ck1_1 ?_
        refine rt_ln rfl rfl ?_
        refine rt_iv (σ1 := (r_X5_fails σ (1 : Int32) x1_).2) rfl rfl rfl (m_X5_fails (1 : Int32) x1_) ?_
        show RtF bk fR s 154 125 [some (rf 35), some (.inl x1_), o2_, o3_] [.inl (r_X5_fails σ (1 : Int32) x1_).1] (r_X5_fails σ (1 : Int32) x1_).2 _
        exact rt_eRb rfl bt_fails
      · replace hp := hp h
        refine rt_lna rfl rfl ?_
        refine rt_gfr rfl Kq_35 (by decide) rfl ?_
        refine rt_ln rfl rfl ?_
        refine rt_k1 rfl ck1_2 ?_
        refine rt_add rfl ?_
        refine rt_al rfl Kq_57 hp.1 rfl ?_
        replace hp := hp.2
        refine rt_k2 rfl ck2_119 ?_
        refine rt_ic rfl rfl (fun h => ?_) (fun h => ?_)
        · replace hp := hp h
          refine rt_lna rfl rfl ?_
          refine rt_iv (σ1 := (r_X5_readNumber σ).2) rfl rfl rfl (m_X5_readNumber hp.1) ?_
          show RtF bk fR s 154 130 [some (rf 35), some (.inl x1_), o2_, o3_] [.inl (r_X5_readNumber σ).1] (r_X5_readNumber σ).2 _
          replace hp := hp.2
          refine rt_if rfl rfl (fun h => ?_) (fun h => ?_)
          · replace hp := hp h
            refine rt_lna rfl rfl ?_
            refine rt_gfi rfl Kq_35 (by decide) rfl rfl ?_
            refine rt_sn (la1 := [some (rf 35), some (.inl x1_), some (.inl ((r_X5_readNumber σ).2 35 30)), o3_]) rfl rfl rfl ?_
            refine rt_ln rfl rfl ?_
            refine rt_k2 rfl ck2_10 ?_
            refine rt_ic rfl rfl (fun h => ?_) (fun h => ?_)
            · replace hp := hp h
              refine rt_k1 rfl ck1_1 ?_
              refine rt_sn (la1 := [some (rf 35), some (.inl x1_), some (.inl ((r_X5_readNumber σ).2 35 30)), some (.inl (1 : Int32))]) rfl rfl rfl ?_
              exact m_X5_readRow_l158 600 (r_X5_readNumber σ).2 ((r_X5_readNumber σ).2 35 30) (1 : Int32) _ hp
            · refine rt_lna rfl rfl ?_
              refine rt_k1 rfl ck1_2 ?_
              refine rt_lna rfl rfl ?_
              refine rt_gfi rfl Kq_35 (by decide) rfl rfl ?_
              refine rt_iv (σ1 := (t_X5_readRow_5 σ x1_)) rfl rfl rfl (m_X5_fails (2 : Int32) ((r_X5_readNumber σ).2 35 32)) ?_
              show RtF bk fR s 154 155 [some (rf 35), some (.inl x1_), some (.inl ((r_X5_readNumber σ).2 35 30)), o3_] [.inl (r_X5_fails (r_X5_readNumber σ).2 (2 : Int32) ((r_X5_readNumber σ).2 35 32)).1] (t_X5_readRow_5 σ x1_) _
              exact rt_eRb rfl bt_fails
          · refine rt_k1 rfl ck1_0 ?_
            exact rt_eRb rfl (Or.inl rfl)
        · refine rt_lna rfl rfl ?_
          refine rt_k1 rfl ck1_1 ?_
          refine rt_ln rfl rfl ?_
          refine rt_iv (σ1 := (r_X5_fails σ (1 : Int32) x1_).2) rfl rfl rfl (m_X5_fails (1 : Int32) x1_) ?_
          show RtF bk fR s 154 125 [some (rf 35), some (.inl x1_), o2_, o3_] [.inl (r_X5_fails σ (1 : Int32) x1_).1] (r_X5_fails σ (1 : Int32) x1_).2 _
          exact rt_eRb rfl bt_fails
noncomputable def r_X5_readRow_b29 (k29 : sg_S → Int32 → Int32 × sg_S) (σ : sg_S) (x1_ : Int32) : Int32 × sg_S := (if (σ 35 26) ≤ (σ 35 28) then (r_X5_readRow_a72 σ x1_) else (if (v_X5_in (σ 57 (ni (σ 35 28))) (97 : Int32) (122 : Int32)) = 0 then (r_X5_readRow_a72 σ x1_) else (k29 (sg_up σ 35 28 ((σ 35 28) + (1 : Int32))) x1_)))
noncomputable def p_X5_readRow_b29 (kp29 : sg_S → Int32 → Prop) (σ : sg_S) (x1_ : Int32) : Prop := (((σ 35 26) ≤ (σ 35 28) → (p_X5_readRow_a72 σ x1_)) ∧ (¬ ((σ 35 26) ≤ (σ 35 28)) → (ix (σ 35 28) 500 ∧ (((v_X5_in (σ 57 (ni (σ 35 28))) (97 : Int32) (122 : Int32)) = 0 → (p_X5_readRow_a72 σ x1_)) ∧ (¬ ((v_X5_in (σ 57 (ni (σ 35 28))) (97 : Int32) (122 : Int32)) = 0) → (kp29 (sg_up σ 35 28 ((σ 35 28) + (1 : Int32))) x1_))))))
theorem m_X5_readRow_b29 {s : List Int32} (k29 : sg_S → Int32 → Int32 × sg_S) (kp29 : sg_S → Int32 → Prop) (hk29 : ∀ (σ : sg_S) (x1_ : Int32) (o2_ : Option (ip_V Int32)) (o3_ : Option (ip_V Int32)), kp29 σ x1_ → RtF bk fR s 154 29 [some (rf 35), some (.inl x1_), o2_, o3_] [] σ (k29 σ x1_)) (σ : sg_S) (x1_ : Int32) (o2_ : Option (ip_V Int32)) (o3_ : Option (ip_V Int32)) (hp : p_X5_readRow_b29 kp29 σ x1_) : RtF bk fR s 154 29 [some (rf 35), some (.inl x1_), o2_, o3_] [] σ (r_X5_readRow_b29 k29 σ x1_) := by
  unfold r_X5_readRow_b29
  unfold p_X5_readRow_b29 at hp
  refine rt_lna rfl rfl ?_
  refine rt_gfi rfl Kq_35 (by decide) rfl rfl ?_
  refine rt_lna rfl rfl ?_
  refine rt_gfi rfl Kq_35 (by decide) rfl rfl ?_
  refine rt_ic rfl rfl (fun h => ?_) (fun h => ?_)
  · replace hp := hp.1 h
    exact m_X5_readRow_a72 σ x1_ _ _ hp
  · replace hp := hp.2 h
    refine rt_lna rfl rfl ?_
    refine rt_gfr rfl Kq_35 (by decide) rfl ?_
    refine rt_lna rfl rfl ?_
    refine rt_gfi rfl Kq_35 (by decide) rfl rfl ?_
    refine rt_al rfl Kq_57 hp.1 rfl ?_
    replace hp := hp.2
    refine rt_k2 rfl ck2_97 ?_
    refine rt_k2 rfl ck2_122 ?_
    refine rt_is (σ1 := σ) rfl rfl rfl (m_X5_in (σ 57 (ni (σ 35 28))) (97 : Int32) (122 : Int32)) ?_
    show RtF bk fR s 154 56 [some (rf 35), some (.inl x1_), o2_, o3_] [.inl (v_X5_in (σ 57 (ni (σ 35 28))) (97 : Int32) (122 : Int32))] σ _
    refine rt_if rfl rfl (fun h => ?_) (fun h => ?_)
    · replace hp := hp.1 h
      exact m_X5_readRow_a72 σ x1_ _ _ hp
    · replace hp := hp.2 h
      refine rt_lna rfl rfl ?_
      refine rt_dup rfl rfl ?_
      refine rt_gfi rfl Kq_35 (by decide) rfl rfl ?_
      refine rt_k1 rfl ck1_1 ?_
      refine rt_add rfl ?_
      refine rt_pf (σ1 := (sg_up σ 35 28 ((σ 35 28) + (1 : Int32)))) rfl Kq_35 (by decide) rfl rfl rfl ?_
      refine rt_go rfl ?_
      exact hk29 (sg_up σ 35 28 ((σ 35 28) + (1 : Int32))) x1_ _ _ hp
noncomputable def r_X5_readRow_l29 (n : Nat) : sg_S → Int32 → Int32 × sg_S := Nat.rec (motive := fun _ => sg_S → Int32 → Int32 × sg_S) (fun σ _ => (0, σ)) (fun _ ih => r_X5_readRow_b29 ih) n
noncomputable def p_X5_readRow_l29 (n : Nat) : sg_S → Int32 → Prop := Nat.rec (motive := fun _ => sg_S → Int32 → Prop) (fun _ _ => False) (fun _ ih => p_X5_readRow_b29 ih) n
theorem m_X5_readRow_l29 {s : List Int32} : ∀ (n : Nat), ∀ (σ : sg_S) (x1_ : Int32) (o2_ : Option (ip_V Int32)) (o3_ : Option (ip_V Int32)), p_X5_readRow_l29 n σ x1_ → RtF bk fR s 154 29 [some (rf 35), some (.inl x1_), o2_, o3_] [] σ (r_X5_readRow_l29 n σ x1_) := by
  intro n
  induction n with
  | zero =>
    intro σ x1_ o2_ o3_ hp
    exact hp.elim
  | succ n ih =>
    intro σ x1_ o2_ o3_ hp
    exact m_X5_readRow_b29 (r_X5_readRow_l29 n) (p_X5_readRow_l29 n) ih σ x1_ o2_ o3_ hp
noncomputable def t_X5_readRow_6 (σ : sg_S) : sg_S := (r_X5_fails (r_X5_here σ).2 (1 : Int32) ((r_X5_here σ).2 35 28)).2
noncomputable def r_X5_readRow (σ : sg_S) : Int32 × sg_S := (if ¬ (v_X5_in (r_X5_here σ).1 (97 : Int32) (122 : Int32)) = 0 then (r_X5_readRow_l29 600 (r_X5_here σ).2 ((r_X5_here σ).2 35 28)) else ((r_X5_fails (r_X5_here σ).2 (1 : Int32) ((r_X5_here σ).2 35 28)).1, (t_X5_readRow_6 σ)))
noncomputable def p_X5_readRow (σ : sg_S) : Prop := (p_X5_here σ ∧ (¬ (v_X5_in (r_X5_here σ).1 (97 : Int32) (122 : Int32)) = 0 → (p_X5_readRow_l29 600 (r_X5_here σ).2 ((r_X5_here σ).2 35 28))))
theorem m_X5_readRow {s : List Int32} {σ : sg_S} (hp : p_X5_readRow σ) : Ct s 154 [rf 35] σ [.inl (r_X5_readRow σ).1] (r_X5_readRow σ).2 := by
  refine ct_v (la := [some (rf 35), none, none, none]) Kq_35 rfl rfl rfl rfl rfl rfl rfl (cgR ?_)
  unfold r_X5_readRow
  unfold p_X5_readRow at hp
  refine rt_lna rfl rfl ?_
  refine rt_iv (σ1 := (r_X5_here σ).2) rfl rfl rfl (m_X5_here hp.1) ?_
  show RtF bk fR s 154 4 [some (rf 35), none, none, none] [.inl (r_X5_here σ).1] (r_X5_here σ).2 _
  replace hp := hp.2
  refine rt_k2 rfl ck2_97 ?_
  refine rt_k2 rfl ck2_122 ?_
  refine rt_is (σ1 := (r_X5_here σ).2) rfl rfl rfl (m_X5_in (r_X5_here σ).1 (97 : Int32) (122 : Int32)) ?_
  show RtF bk fR s 154 11 [some (rf 35), none, none, none] [.inl (v_X5_in (r_X5_here σ).1 (97 : Int32) (122 : Int32))] (r_X5_here σ).2 _
  refine rt_if rfl rfl (fun h => ?_) (fun h => ?_)
  · replace hp := hp h
    refine rt_lna rfl rfl ?_
    refine rt_gfi rfl Kq_35 (by decide) rfl rfl ?_
    refine rt_sn (la1 := [some (rf 35), some (.inl ((r_X5_here σ).2 35 28)), none, none]) rfl rfl rfl ?_
    exact m_X5_readRow_l29 600 (r_X5_here σ).2 ((r_X5_here σ).2 35 28) _ _ hp
  · refine rt_lna rfl rfl ?_
    refine rt_k1 rfl ck1_1 ?_
    refine rt_lna rfl rfl ?_
    refine rt_gfi rfl Kq_35 (by decide) rfl rfl ?_
    refine rt_iv (σ1 := (t_X5_readRow_6 σ)) rfl rfl rfl (m_X5_fails (1 : Int32) ((r_X5_here σ).2 35 28)) ?_
    show RtF bk fR s 154 23 [some (rf 35), none, none, none] [.inl (r_X5_fails (r_X5_here σ).2 (1 : Int32) ((r_X5_here σ).2 35 28)).1] (t_X5_readRow_6 σ) _
    exact rt_eRb rfl bt_fails
noncomputable def r_X5_readTable_b53 (k45 : sg_S → Int32 → Int32 × sg_S) (k53 : sg_S → Int32 → Int32 → Int32 × sg_S) (σ : sg_S) (x1_ : Int32) (x2_ : Int32) : Int32 × sg_S := (if (4 : Int32) < x2_ then (k45 σ (x1_ + (1 : Int32))) else (if (σ 38 (ni (((5 : Int32) * x1_) + x2_))) < (σ 38 (ni ((((5 : Int32) * x1_) + x2_) - (1 : Int32)))) then ((r_X5_fails σ (4 : Int32) (σ 35 26)).1, (r_X5_fails σ (4 : Int32) (σ 35 26)).2) else (if x1_ ≤ 0 then (k53 σ x1_ (x2_ + (1 : Int32))) else (if (σ 38 (ni (((5 : Int32) * x1_) + x2_))) ≤ (σ 38 (ni ((((5 : Int32) * x1_) - (5 : Int32)) + x2_))) then (k53 σ x1_ (x2_ + (1 : Int32))) else ((r_X5_fails σ (4 : Int32) (σ 35 26)).1, (r_X5_fails σ (4 : Int32) (σ 35 26)).2)))))
noncomputable def p_X5_readTable_b53 (kp45 : sg_S → Int32 → Prop) (kp53 : sg_S → Int32 → Int32 → Prop) (σ : sg_S) (x1_ : Int32) (x2_ : Int32) : Prop := (((4 : Int32) < x2_ → (kp45 σ (x1_ + (1 : Int32)))) ∧ (¬ ((4 : Int32) < x2_) → (ix (((5 : Int32) * x1_) + x2_) 50 ∧ (ix ((((5 : Int32) * x1_) + x2_) - (1 : Int32)) 50 ∧ (¬ ((σ 38 (ni (((5 : Int32) * x1_) + x2_))) < (σ 38 (ni ((((5 : Int32) * x1_) + x2_) - (1 : Int32))))) → ((x1_ ≤ 0 → (kp53 σ x1_ (x2_ + (1 : Int32)))) ∧ (¬ (x1_ ≤ 0) → (ix ((((5 : Int32) * x1_) - (5 : Int32)) + x2_) 50 ∧ ((σ 38 (ni (((5 : Int32) * x1_) + x2_))) ≤ (σ 38 (ni ((((5 : Int32) * x1_) - (5 : Int32)) + x2_))) → (kp53 σ x1_ (x2_ + (1 : Int32))))))))))))
theorem m_X5_readTable_b53 {s : List Int32} (k45 : sg_S → Int32 → Int32 × sg_S) (k53 : sg_S → Int32 → Int32 → Int32 × sg_S) (kp45 : sg_S → Int32 → Prop) (kp53 : sg_S → Int32 → Int32 → Prop) (hk45 : ∀ (σ : sg_S) (x1_ : Int32) (o2_ : Option (ip_V Int32)) (o3_ : Option (ip_V Int32)), kp45 σ x1_ → RtF bk fR s 155 45 [some (rf 35), some (.inl x1_), o2_, o3_] [] σ (k45 σ x1_)) (hk53 : ∀ (σ : sg_S) (x1_ : Int32) (x2_ : Int32) (o3_ : Option (ip_V Int32)), kp53 σ x1_ x2_ → RtF bk fR s 155 53 [some (rf 35), some (.inl x1_), some (.inl x2_), o3_] [] σ (k53 σ x1_ x2_)) (σ : sg_S) (x1_ : Int32) (x2_ : Int32) (o3_ : Option (ip_V Int32)) (hp : p_X5_readTable_b53 kp45 kp53 σ x1_ x2_) : RtF bk fR s 155 53 [some (rf 35), some (.inl x1_), some (.inl x2_), o3_] [] σ (r_X5_readTable_b53 k45 k53 σ x1_ x2_) := by
  unfold r_X5_readTable_b53
  unfold p_X5_readTable_b53 at hp
  refine rt_ln rfl rfl ?_
  refine rt_k1 rfl ck1_4 ?_
  refine rt_ic rfl rfl (fun h => ?_) (fun h => ?_)
  · replace hp := hp.1 h
    refine rt_inc (la1 := [some (rf 35), some (.inl (x1_ + (1 : Int32))), some (.inl x2_), o3_]) rfl rfl ck1_1 rfl ?_
    refine rt_go rfl ?_
    exact hk45 σ (x1_ + (1 : Int32)) _ _ hp
  · replace hp := hp.2 h
    refine rt_lna rfl rfl ?_
    refine rt_gfr rfl Kq_35 (by decide) rfl ?_
    refine rt_k1 rfl ck1_5 ?_
    refine rt_ln rfl rfl ?_
    refine rt_mul rfl ?_
    refine rt_ln rfl rfl ?_
    refine rt_add rfl ?_
    refine rt_al rfl Kq_38 hp.1 rfl ?_
    replace hp := hp.2
    refine rt_sn (la1 := [some (rf 35), some (.inl x1_), some (.inl x2_), some (.inl (σ 38 (ni (((5 : Int32) * x1_) + x2_))))]) rfl rfl rfl ?_
    refine rt_ln rfl rfl ?_
    refine rt_lna rfl rfl ?_
    refine rt_gfr rfl Kq_35 (by decide) rfl ?_
    refine rt_k1 rfl ck1_5 ?_
    refine rt_ln rfl rfl ?_
    refine rt_mul rfl ?_
    refine rt_ln rfl rfl ?_
    refine rt_add rfl ?_
    refine rt_k1 rfl ck1_1 ?_
    refine rt_sub rfl ?_
    refine rt_al rfl Kq_38 hp.1 rfl ?_
    replace hp := hp.2
    refine rt_ic rfl rfl (fun h => ?_) (fun h => ?_)
    · refine rt_lna rfl rfl ?_
      refine rt_k1 rfl ck1_4 ?_
      refine rt_lna rfl rfl ?_
      refine rt_gfi rfl Kq_35 (by decide) rfl rfl ?_
      refine rt_iv (σ1 := (r_X5_fails σ (4 : Int32) (σ 35 26)).2) rfl rfl rfl (m_X5_fails (4 : Int32) (σ 35 26)) ?_
      show RtF bk fR s 155 114 [some (rf 35), some (.inl x1_), some (.inl x2_), some (.inl (σ 38 (ni (((5 : Int32) * x1_) + x2_))))] [.inl (r_X5_fails σ (4 : Int32) (σ 35 26)).1] (r_X5_fails σ (4 : Int32) (σ 35 26)).2 _
      exact rt_eRb rfl bt_fails
    · replace hp := hp h
      refine rt_ln rfl rfl ?_
      refine rt_if rfl rfl (fun h => ?_) (fun h => ?_)
      · replace hp := hp.1 h
        refine rt_inc (la1 := [some (rf 35), some (.inl x1_), some (.inl (x2_ + (1 : Int32))), some (.inl (σ 38 (ni (((5 : Int32) * x1_) + x2_))))]) rfl rfl ck1_1 rfl ?_
        refine rt_go rfl ?_
        exact hk53 σ x1_ (x2_ + (1 : Int32)) _ hp
      · replace hp := hp.2 h
        refine rt_ln rfl rfl ?_
        refine rt_lna rfl rfl ?_
        refine rt_gfr rfl Kq_35 (by decide) rfl ?_
        refine rt_k1 rfl ck1_5 ?_
        refine rt_ln rfl rfl ?_
        refine rt_mul rfl ?_
        refine rt_k1 rfl ck1_5 ?_
        refine rt_sub rfl ?_
        refine rt_ln rfl rfl ?_
        refine rt_add rfl ?_
        refine rt_al rfl Kq_38 hp.1 rfl ?_
        replace hp := hp.2
        refine rt_ic rfl rfl (fun h => ?_) (fun h => ?_)
        · replace hp := hp h
          refine rt_inc (la1 := [some (rf 35), some (.inl x1_), some (.inl (x2_ + (1 : Int32))), some (.inl (σ 38 (ni (((5 : Int32) * x1_) + x2_))))]) rfl rfl ck1_1 rfl ?_
          refine rt_go rfl ?_
          exact hk53 σ x1_ (x2_ + (1 : Int32)) _ hp
        · refine rt_lna rfl rfl ?_
          refine rt_k1 rfl ck1_4 ?_
          refine rt_lna rfl rfl ?_
          refine rt_gfi rfl Kq_35 (by decide) rfl rfl ?_
          refine rt_iv (σ1 := (r_X5_fails σ (4 : Int32) (σ 35 26)).2) rfl rfl rfl (m_X5_fails (4 : Int32) (σ 35 26)) ?_
          show RtF bk fR s 155 114 [some (rf 35), some (.inl x1_), some (.inl x2_), some (.inl (σ 38 (ni (((5 : Int32) * x1_) + x2_))))] [.inl (r_X5_fails σ (4 : Int32) (σ 35 26)).1] (r_X5_fails σ (4 : Int32) (σ 35 26)).2 _
          exact rt_eRb rfl bt_fails
noncomputable def r_X5_readTable_l53 (k45 : sg_S → Int32 → Int32 × sg_S) (n : Nat) : sg_S → Int32 → Int32 → Int32 × sg_S := Nat.rec (motive := fun _ => sg_S → Int32 → Int32 → Int32 × sg_S) (fun σ _ _ => (0, σ)) (fun _ ih => r_X5_readTable_b53 k45 ih) n
noncomputable def p_X5_readTable_l53 (kp45 : sg_S → Int32 → Prop) (n : Nat) : sg_S → Int32 → Int32 → Prop := Nat.rec (motive := fun _ => sg_S → Int32 → Int32 → Prop) (fun _ _ _ => False) (fun _ ih => p_X5_readTable_b53 kp45 ih) n
theorem m_X5_readTable_l53 {s : List Int32} (k45 : sg_S → Int32 → Int32 × sg_S) (kp45 : sg_S → Int32 → Prop) (hk45 : ∀ (σ : sg_S) (x1_ : Int32) (o2_ : Option (ip_V Int32)) (o3_ : Option (ip_V Int32)), kp45 σ x1_ → RtF bk fR s 155 45 [some (rf 35), some (.inl x1_), o2_, o3_] [] σ (k45 σ x1_)) : ∀ (n : Nat), ∀ (σ : sg_S) (x1_ : Int32) (x2_ : Int32) (o3_ : Option (ip_V Int32)), p_X5_readTable_l53 kp45 n σ x1_ x2_ → RtF bk fR s 155 53 [some (rf 35), some (.inl x1_), some (.inl x2_), o3_] [] σ (r_X5_readTable_l53 k45 n σ x1_ x2_) := by
  intro n
  induction n with
  | zero =>
    intro σ x1_ x2_ o3_ hp
    exact hp.elim
  | succ n ih =>
    intro σ x1_ x2_ o3_ hp
    exact m_X5_readTable_b53 k45 (r_X5_readTable_l53 k45 n) kp45 (p_X5_readTable_l53 kp45 n) hk45 ih σ x1_ x2_ o3_ hp
noncomputable def r_X5_readTable_b45 (k45 : sg_S → Int32 → Int32 × sg_S) (σ : sg_S) (x1_ : Int32) : Int32 × sg_S := (if (10 : Int32) ≤ x1_ then ((1 : Int32), σ) else (r_X5_readTable_l53 k45 600 σ x1_ (1 : Int32)))
noncomputable def p_X5_readTable_b45 (kp45 : sg_S → Int32 → Prop) (σ : sg_S) (x1_ : Int32) : Prop := (¬ ((10 : Int32) ≤ x1_) → (p_X5_readTable_l53 kp45 600 σ x1_ (1 : Int32)))
theorem m_X5_readTable_b45 {s : List Int32} (k45 : sg_S → Int32 → Int32 × sg_S) (kp45 : sg_S → Int32 → Prop) (hk45 : ∀ (σ : sg_S) (x1_ : Int32) (o2_ : Option (ip_V Int32)) (o3_ : Option (ip_V Int32)), kp45 σ x1_ → RtF bk fR s 155 45 [some (rf 35), some (.inl x1_), o2_, o3_] [] σ (k45 σ x1_)) (σ : sg_S) (x1_ : Int32) (o2_ : Option (ip_V Int32)) (o3_ : Option (ip_V Int32)) (hp : p_X5_readTable_b45 kp45 σ x1_) : RtF bk fR s 155 45 [some (rf 35), some (.inl x1_), o2_, o3_] [] σ (r_X5_readTable_b45 k45 σ x1_) := by
  unfold r_X5_readTable_b45
  unfold p_X5_readTable_b45 at hp
  refine rt_ln rfl rfl ?_
  refine rt_k2 rfl ck2_10 ?_
  refine rt_ic rfl rfl (fun h => ?_) (fun h => ?_)
  · refine rt_k1 rfl ck1_1 ?_
    exact rt_eRb rfl (Or.inr rfl)
  · replace hp := hp h
    refine rt_k1 rfl ck1_1 ?_
    refine rt_sn (la1 := [some (rf 35), some (.inl x1_), some (.inl (1 : Int32)), o3_]) rfl rfl rfl ?_
    exact m_X5_readTable_l53 k45 kp45 hk45 600 σ x1_ (1 : Int32) _ hp
noncomputable def r_X5_readTable_l45 (n : Nat) : sg_S → Int32 → Int32 × sg_S := Nat.rec (motive := fun _ => sg_S → Int32 → Int32 × sg_S) (fun σ _ => (0, σ)) (fun _ ih => r_X5_readTable_b45 ih) n
noncomputable def p_X5_readTable_l45 (n : Nat) : sg_S → Int32 → Prop := Nat.rec (motive := fun _ => sg_S → Int32 → Prop) (fun _ _ => False) (fun _ ih => p_X5_readTable_b45 ih) n
theorem m_X5_readTable_l45 {s : List Int32} : ∀ (n : Nat), ∀ (σ : sg_S) (x1_ : Int32) (o2_ : Option (ip_V Int32)) (o3_ : Option (ip_V Int32)), p_X5_readTable_l45 n σ x1_ → RtF bk fR s 155 45 [some (rf 35), some (.inl x1_), o2_, o3_] [] σ (r_X5_readTable_l45 n σ x1_) := by
  intro n
  induction n with
  | zero =>
    intro σ x1_ o2_ o3_ hp
    exact hp.elim
  | succ n ih =>
    intro σ x1_ o2_ o3_ hp
    exact m_X5_readTable_b45 (r_X5_readTable_l45 n) (p_X5_readTable_l45 n) ih σ x1_ o2_ o3_ hp
noncomputable def r_X5_readTable_b26 (k26 : sg_S → Int32 × sg_S) (σ : sg_S) : Int32 × sg_S := (if (r_X5_here σ).1 = (-1 : Int32) then (r_X5_readTable_l45 600 (r_X5_here σ).2 (0 : Int32)) else (if ¬ (r_X5_readRow (r_X5_here σ).2).1 = 0 then (k26 (r_X5_readRow (r_X5_here σ).2).2) else ((0 : Int32), (r_X5_readRow (r_X5_here σ).2).2)))
noncomputable def p_X5_readTable_b26 (kp26 : sg_S → Prop) (σ : sg_S) : Prop := (p_X5_here σ ∧ (((r_X5_here σ).1 = (-1 : Int32) → (p_X5_readTable_l45 600 (r_X5_here σ).2 (0 : Int32))) ∧ (¬ ((r_X5_here σ).1 = (-1 : Int32)) → (p_X5_readRow (r_X5_here σ).2 ∧ (¬ (r_X5_readRow (r_X5_here σ).2).1 = 0 → (kp26 (r_X5_readRow (r_X5_here σ).2).2))))))
theorem m_X5_readTable_b26 {s : List Int32} (k26 : sg_S → Int32 × sg_S) (kp26 : sg_S → Prop) (hk26 : ∀ (σ : sg_S) (o1_ : Option (ip_V Int32)) (o2_ : Option (ip_V Int32)) (o3_ : Option (ip_V Int32)), kp26 σ → RtF bk fR s 155 26 [some (rf 35), o1_, o2_, o3_] [] σ (k26 σ)) (σ : sg_S) (o1_ : Option (ip_V Int32)) (o2_ : Option (ip_V Int32)) (o3_ : Option (ip_V Int32)) (hp : p_X5_readTable_b26 kp26 σ) : RtF bk fR s 155 26 [some (rf 35), o1_, o2_, o3_] [] σ (r_X5_readTable_b26 k26 σ) := by
  unfold r_X5_readTable_b26
  unfold p_X5_readTable_b26 at hp
  refine rt_lna rfl rfl ?_
  refine rt_iv (σ1 := (r_X5_here σ).2) rfl rfl rfl (m_X5_here hp.1) ?_
  show RtF bk fR s 155 30 [some (rf 35), o1_, o2_, o3_] [.inl (r_X5_here σ).1] (r_X5_here σ).2 _
  replace hp := hp.2
  refine rt_k1 rfl ck1_m1 ?_
  refine rt_ic rfl rfl (fun h => ?_) (fun h => ?_)
  · replace hp := hp.1 h
    refine rt_k1 rfl ck1_0 ?_
    refine rt_sn (la1 := [some (rf 35), some (.inl (0 : Int32)), o2_, o3_]) rfl rfl rfl ?_
    exact m_X5_readTable_l45 600 (r_X5_here σ).2 (0 : Int32) _ _ hp
  · replace hp := hp.2 h
    refine rt_lna rfl rfl ?_
    refine rt_iv (σ1 := (r_X5_readRow (r_X5_here σ).2).2) rfl rfl rfl (m_X5_readRow hp.1) ?_
    show RtF bk fR s 155 38 [some (rf 35), o1_, o2_, o3_] [.inl (r_X5_readRow (r_X5_here σ).2).1] (r_X5_readRow (r_X5_here σ).2).2 _
    replace hp := hp.2
    refine rt_if rfl rfl (fun h => ?_) (fun h => ?_)
    · replace hp := hp h
      exact hk26 (r_X5_readRow (r_X5_here σ).2).2 _ _ _ hp
    · refine rt_k1 rfl ck1_0 ?_
      exact rt_eRb rfl (Or.inl rfl)
noncomputable def r_X5_readTable_l26 (n : Nat) : sg_S → Int32 × sg_S := Nat.rec (motive := fun _ => sg_S → Int32 × sg_S) (fun σ => (0, σ)) (fun _ ih => r_X5_readTable_b26 ih) n
noncomputable def p_X5_readTable_l26 (n : Nat) : sg_S → Prop := Nat.rec (motive := fun _ => sg_S → Prop) (fun _ => False) (fun _ ih => p_X5_readTable_b26 ih) n
theorem m_X5_readTable_l26 {s : List Int32} : ∀ (n : Nat), ∀ (σ : sg_S) (o1_ : Option (ip_V Int32)) (o2_ : Option (ip_V Int32)) (o3_ : Option (ip_V Int32)), p_X5_readTable_l26 n σ → RtF bk fR s 155 26 [some (rf 35), o1_, o2_, o3_] [] σ (r_X5_readTable_l26 n σ) := by
  intro n
  induction n with
  | zero =>
    intro σ o1_ o2_ o3_ hp
    exact hp.elim
  | succ n ih =>
    intro σ o1_ o2_ o3_ hp
    exact m_X5_readTable_b26 (r_X5_readTable_l26 n) (p_X5_readTable_l26 n) ih σ o1_ o2_ o3_ hp
noncomputable def r_X5_readTable_b2 (k2 : sg_S → Int32 → Int32 × sg_S) (σ : sg_S) (x1_ : Int32) : Int32 × sg_S := (if (50 : Int32) ≤ x1_ then (r_X5_readTable_l26 600 σ) else (k2 (sg_up σ 38 (ni x1_) (σ 37 (ni x1_))) (x1_ + (1 : Int32))))
noncomputable def p_X5_readTable_b2 (kp2 : sg_S → Int32 → Prop) (σ : sg_S) (x1_ : Int32) : Prop := (((50 : Int32) ≤ x1_ → (p_X5_readTable_l26 600 σ)) ∧ (¬ ((50 : Int32) ≤ x1_) → (ix x1_ 50 ∧ (ix x1_ 50 ∧ (kp2 (sg_up σ 38 (ni x1_) (σ 37 (ni x1_))) (x1_ + (1 : Int32)))))))
theorem m_X5_readTable_b2 {s : List Int32} (k2 : sg_S → Int32 → Int32 × sg_S) (kp2 : sg_S → Int32 → Prop) (hk2 : ∀ (σ : sg_S) (x1_ : Int32) (o2_ : Option (ip_V Int32)) (o3_ : Option (ip_V Int32)), kp2 σ x1_ → RtF bk fR s 155 2 [some (rf 35), some (.inl x1_), o2_, o3_] [] σ (k2 σ x1_)) (σ : sg_S) (x1_ : Int32) (o2_ : Option (ip_V Int32)) (o3_ : Option (ip_V Int32)) (hp : p_X5_readTable_b2 kp2 σ x1_) : RtF bk fR s 155 2 [some (rf 35), some (.inl x1_), o2_, o3_] [] σ (r_X5_readTable_b2 k2 σ x1_) := by
  unfold r_X5_readTable_b2
  unfold p_X5_readTable_b2 at hp
  refine rt_ln rfl rfl ?_
  refine rt_k2 rfl ck2_50 ?_
  refine rt_ic rfl rfl (fun h => ?_) (fun h => ?_)
  · replace hp := hp.1 h
    exact m_X5_readTable_l26 600 σ _ _ _ hp
  · replace hp := hp.2 h
    refine rt_lna rfl rfl ?_
    refine rt_gfr rfl Kq_35 (by decide) rfl ?_
    refine rt_ln rfl rfl ?_
    refine rt_lna rfl rfl ?_
    refine rt_gfr rfl Kq_35 (by decide) rfl ?_
    refine rt_ln rfl rfl ?_
    refine rt_al rfl Kq_37 hp.1 rfl ?_
    replace hp := hp.2
    refine rt_as (k0 := (ni x1_)) (σ1 := (sg_up σ 38 (ni x1_) (σ 37 (ni x1_)))) rfl Kq_38 hp.1 rfl rfl ?_
    replace hp := hp.2
    refine rt_inc (la1 := [some (rf 35), some (.inl (x1_ + (1 : Int32))), o2_, o3_]) rfl rfl ck1_1 rfl ?_
    refine rt_go rfl ?_
    exact hk2 (sg_up σ 38 (ni x1_) (σ 37 (ni x1_))) (x1_ + (1 : Int32)) _ _ hp
noncomputable def r_X5_readTable_l2 (n : Nat) : sg_S → Int32 → Int32 × sg_S := Nat.rec (motive := fun _ => sg_S → Int32 → Int32 × sg_S) (fun σ _ => (0, σ)) (fun _ ih => r_X5_readTable_b2 ih) n
noncomputable def p_X5_readTable_l2 (n : Nat) : sg_S → Int32 → Prop := Nat.rec (motive := fun _ => sg_S → Int32 → Prop) (fun _ _ => False) (fun _ ih => p_X5_readTable_b2 ih) n
theorem m_X5_readTable_l2 {s : List Int32} : ∀ (n : Nat), ∀ (σ : sg_S) (x1_ : Int32) (o2_ : Option (ip_V Int32)) (o3_ : Option (ip_V Int32)), p_X5_readTable_l2 n σ x1_ → RtF bk fR s 155 2 [some (rf 35), some (.inl x1_), o2_, o3_] [] σ (r_X5_readTable_l2 n σ x1_) := by
  intro n
  induction n with
  | zero =>
    intro σ x1_ o2_ o3_ hp
    exact hp.elim
  | succ n ih =>
    intro σ x1_ o2_ o3_ hp
    exact m_X5_readTable_b2 (r_X5_readTable_l2 n) (p_X5_readTable_l2 n) ih σ x1_ o2_ o3_ hp
noncomputable def r_X5_readTable (σ : sg_S) : Int32 × sg_S := (r_X5_readTable_l2 600 σ (0 : Int32))
noncomputable def p_X5_readTable (σ : sg_S) : Prop := (p_X5_readTable_l2 600 σ (0 : Int32))
theorem m_X5_readTable {s : List Int32} {σ : sg_S} (hp : p_X5_readTable σ) : Ct s 155 [rf 35] σ [.inl (r_X5_readTable σ).1] (r_X5_readTable σ).2 := by
  refine ct_v (la := [some (rf 35), none, none, none]) Kq_35 rfl rfl rfl rfl rfl rfl rfl (cgR ?_)
  unfold r_X5_readTable
  unfold p_X5_readTable at hp
  refine rt_k1 rfl ck1_0 ?_
  refine rt_sn (la1 := [some (rf 35), some (.inl (0 : Int32)), none, none]) rfl rfl rfl ?_
  exact m_X5_readTable_l2 600 σ (0 : Int32) _ _ hp
noncomputable def t_X5_readEvent_0 (σ : sg_S) : sg_S := (sg_up (r_X5_here σ).2 35 28 (((r_X5_here σ).2 35 28) + (1 : Int32)))
noncomputable def t_X5_readEvent_1 (σ : sg_S) (x1_ : Int32) (x4_ : Int32) : sg_S := (sg_up (sg_up σ 39 (ni ((σ 35 6) + (σ 35 31))) x1_) 40 (ni (((sg_up σ 39 (ni ((σ 35 6) + (σ 35 31))) x1_) 35 6) + ((sg_up σ 39 (ni ((σ 35 6) + (σ 35 31))) x1_) 35 31))) x4_)
noncomputable def t_X5_readEvent_2 (σ : sg_S) (x1_ : Int32) (x4_ : Int32) : sg_S := (sg_up (t_X5_readEvent_1 σ x1_ x4_) 35 31 (((t_X5_readEvent_1 σ x1_ x4_) 35 31) + (1 : Int32)))
noncomputable def r_X5_readEvent_a157 (σ : sg_S) (x1_ : Int32) (x4_ : Int32) : Int32 × sg_S := ((1 : Int32), (s_X5_goes (t_X5_readEvent_2 σ x1_ x4_) x1_ x4_))
noncomputable def p_X5_readEvent_a157 (σ : sg_S) (x1_ : Int32) (x4_ : Int32) : Prop := (ix ((σ 35 6) + (σ 35 31)) 400 ∧ (ix (((sg_up σ 39 (ni ((σ 35 6) + (σ 35 31))) x1_) 35 6) + ((sg_up σ 39 (ni ((σ 35 6) + (σ 35 31))) x1_) 35 31)) 400 ∧ p_X5_goes (t_X5_readEvent_2 σ x1_ x4_) x1_ x4_))
theorem m_X5_readEvent_a157 {s : List Int32} (σ : sg_S) (x1_ : Int32) (x4_ : Int32) (o2_ : Option (ip_V Int32)) (o3_ : Option (ip_V Int32)) (hp : p_X5_readEvent_a157 σ x1_ x4_) : RtF bk fR s 156 157 [some (rf 35), some (.inl x1_), o2_, o3_, some (.inl x4_)] [] σ (r_X5_readEvent_a157 σ x1_ x4_) := by
  unfold r_X5_readEvent_a157
  unfold p_X5_readEvent_a157 at hp
  refine rt_lna rfl rfl ?_
  refine rt_gfr rfl Kq_35 (by decide) rfl ?_
  refine rt_lna rfl rfl ?_
  refine rt_gfi rfl Kq_35 (by decide) rfl rfl ?_
  refine rt_lna rfl rfl ?_
  refine rt_gfi rfl Kq_35 (by decide) rfl rfl ?_
  refine rt_add rfl ?_
  refine rt_ln rfl rfl ?_
  refine rt_as (k0 := (ni ((σ 35 6) + (σ 35 31)))) (σ1 := (sg_up σ 39 (ni ((σ 35 6) + (σ 35 31))) x1_)) rfl Kq_39 hp.1 rfl rfl ?_
  replace hp := hp.2
  refine rt_lna rfl rfl ?_
  refine rt_gfr rfl Kq_35 (by decide) rfl ?_
  refine rt_lna rfl rfl ?_
  refine rt_gfi rfl Kq_35 (by decide) rfl rfl ?_
  refine rt_lna rfl rfl ?_
  refine rt_gfi rfl Kq_35 (by decide) rfl rfl ?_
  refine rt_add rfl ?_
  refine rt_ld rfl rfl ?_
  refine rt_as (k0 := (ni (((sg_up σ 39 (ni ((σ 35 6) + (σ 35 31))) x1_) 35 6) + ((sg_up σ 39 (ni ((σ 35 6) + (σ 35 31))) x1_) 35 31)))) (σ1 := (t_X5_readEvent_1 σ x1_ x4_)) rfl Kq_40 hp.1 rfl rfl ?_
  replace hp := hp.2
  refine rt_lna rfl rfl ?_
  refine rt_dup rfl rfl ?_
  refine rt_gfi rfl Kq_35 (by decide) rfl rfl ?_
  refine rt_k1 rfl ck1_1 ?_
  refine rt_add rfl ?_
  refine rt_pf (σ1 := (t_X5_readEvent_2 σ x1_ x4_)) rfl Kq_35 (by decide) rfl rfl rfl ?_
  refine rt_lna rfl rfl ?_
  refine rt_ln rfl rfl ?_
  refine rt_ld rfl rfl ?_
  refine rt_iv (σ1 := (s_X5_goes (t_X5_readEvent_2 σ x1_ x4_) x1_ x4_)) rfl rfl rfl (m_X5_goes x1_ x4_ hp) ?_
  show RtF bk fR s 156 205 [some (rf 35), some (.inl x1_), o2_, o3_, some (.inl x4_)] [] (s_X5_goes (t_X5_readEvent_2 σ x1_ x4_) x1_ x4_) _
  refine rt_k1 rfl ck1_1 ?_
  exact rt_eRb rfl (Or.inr rfl)
noncomputable def t_X5_readEvent_3 (σ : sg_S) (x1_ : Int32) : sg_S := (r_X5_fails (r_X5_readNumber σ).2 (2 : Int32) ((r_X5_readNumber σ).2 35 32)).2
noncomputable def t_X5_readEvent_4 (σ : sg_S) (x1_ : Int32) : sg_S := (r_X5_fails (r_X5_readNumber σ).2 (2 : Int32) ((r_X5_readNumber σ).2 35 32)).2
noncomputable def r_X5_readEvent_a105 (σ : sg_S) (x1_ : Int32) : Int32 × sg_S := (if ¬ (r_X5_readNumber σ).1 = 0 then (if ¬ x1_ = (99 : Int32) then (if ¬ (v_X5_mayDrop (r_X5_readNumber σ).2 ((r_X5_readNumber σ).2 35 30)) = 0 then (r_X5_readEvent_a157 (r_X5_readNumber σ).2 x1_ ((r_X5_readNumber σ).2 35 30)) else ((r_X5_fails (r_X5_readNumber σ).2 (2 : Int32) ((r_X5_readNumber σ).2 35 32)).1, (t_X5_readEvent_3 σ x1_))) else (if ¬ (v_X5_mayCut (r_X5_readNumber σ).2 ((r_X5_readNumber σ).2 35 30)) = 0 then (r_X5_readEvent_a157 (r_X5_readNumber σ).2 x1_ ((r_X5_readNumber σ).2 35 30)) else ((r_X5_fails (r_X5_readNumber σ).2 (2 : Int32) ((r_X5_readNumber σ).2 35 32)).1, (t_X5_readEvent_4 σ x1_)))) else ((0 : Int32), (r_X5_readNumber σ).2))
noncomputable def p_X5_readEvent_a105 (σ : sg_S) (x1_ : Int32) : Prop := (p_X5_readNumber σ ∧ (¬ (r_X5_readNumber σ).1 = 0 → ((¬ x1_ = (99 : Int32) → (¬ (v_X5_mayDrop (r_X5_readNumber σ).2 ((r_X5_readNumber σ).2 35 30)) = 0 → (p_X5_readEvent_a157 (r_X5_readNumber σ).2 x1_ ((r_X5_readNumber σ).2 35 30)))) ∧ (¬ (¬ x1_ = (99 : Int32)) → (p_X5_mayCut (r_X5_readNumber σ).2 ((r_X5_readNumber σ).2 35 30) ∧ (¬ (v_X5_mayCut (r_X5_readNumber σ).2 ((r_X5_readNumber σ).2 35 30)) = 0 → (p_X5_readEvent_a157 (r_X5_readNumber σ).2 x1_ ((r_X5_readNumber σ).2 35 30))))))))
theorem m_X5_readEvent_a105 {s : List Int32} (σ : sg_S) (x1_ : Int32) (o2_ : Option (ip_V Int32)) (o3_ : Option (ip_V Int32)) (o4_ : Option (ip_V Int32)) (hp : p_X5_readEvent_a105 σ x1_) : RtF bk fR s 156 105 [some (rf 35), some (.inl x1_), o2_, o3_, o4_] [] σ (r_X5_readEvent_a105 σ x1_) := by
  unfold r_X5_readEvent_a105
  unfold p_X5_readEvent_a105 at hp
  refine rt_lna rfl rfl ?_
  refine rt_iv (σ1 := (r_X5_readNumber σ).2) rfl rfl rfl (m_X5_readNumber hp.1) ?_
  show RtF bk fR s 156 109 [some (rf 35), some (.inl x1_), o2_, o3_, o4_] [.inl (r_X5_readNumber σ).1] (r_X5_readNumber σ).2 _
  replace hp := hp.2
  refine rt_if rfl rfl (fun h => ?_) (fun h => ?_)
  · replace hp := hp h
    refine rt_lna rfl rfl ?_
    refine rt_gfi rfl Kq_35 (by decide) rfl rfl ?_
    refine rt_st (la1 := [some (rf 35), some (.inl x1_), o2_, o3_, some (.inl ((r_X5_readNumber σ).2 35 30))]) rfl rfl rfl ?_
    refine rt_ln rfl rfl ?_
    refine rt_k2 rfl ck2_99 ?_
    refine rt_ic rfl rfl (fun h => ?_) (fun h => ?_)
    · replace hp := hp.1 h
      refine rt_lna rfl rfl ?_
      refine rt_ld rfl rfl ?_
      refine rt_iv (σ1 := (r_X5_readNumber σ).2) rfl rfl rfl (m_X5_mayDrop ((r_X5_readNumber σ).2 35 30)) ?_
      show RtF bk fR s 156 144 [some (rf 35), some (.inl x1_), o2_, o3_, some (.inl ((r_X5_readNumber σ).2 35 30))] [.inl (v_X5_mayDrop (r_X5_readNumber σ).2 ((r_X5_readNumber σ).2 35 30))] (r_X5_readNumber σ).2 _
      refine rt_if rfl rfl (fun h => ?_) (fun h => ?_)
      · replace hp := hp h
        exact m_X5_readEvent_a157 (r_X5_readNumber σ).2 x1_ ((r_X5_readNumber σ).2 35 30) _ _ hp
      · refine rt_lna rfl rfl ?_
        refine rt_k1 rfl ck1_2 ?_
        refine rt_lna rfl rfl ?_
        refine rt_gfi rfl Kq_35 (by decide) rfl rfl ?_
        refine rt_iv (σ1 := (t_X5_readEvent_3 σ x1_)) rfl rfl rfl (m_X5_fails (2 : Int32) ((r_X5_readNumber σ).2 35 32)) ?_
        show RtF bk fR s 156 156 [some (rf 35), some (.inl x1_), o2_, o3_, some (.inl ((r_X5_readNumber σ).2 35 30))] [.inl (r_X5_fails (r_X5_readNumber σ).2 (2 : Int32) ((r_X5_readNumber σ).2 35 32)).1] (t_X5_readEvent_3 σ x1_) _
        exact rt_eRb rfl bt_fails
    · replace hp := hp.2 h
      refine rt_lna rfl rfl ?_
      refine rt_ld rfl rfl ?_
      refine rt_iv (σ1 := (r_X5_readNumber σ).2) rfl rfl rfl (m_X5_mayCut ((r_X5_readNumber σ).2 35 30) hp.1) ?_
      show RtF bk fR s 156 132 [some (rf 35), some (.inl x1_), o2_, o3_, some (.inl ((r_X5_readNumber σ).2 35 30))] [.inl (v_X5_mayCut (r_X5_readNumber σ).2 ((r_X5_readNumber σ).2 35 30))] (r_X5_readNumber σ).2 _
      replace hp := hp.2
      refine rt_if rfl rfl (fun h => ?_) (fun h => ?_)
      · replace hp := hp h
        exact m_X5_readEvent_a157 (r_X5_readNumber σ).2 x1_ ((r_X5_readNumber σ).2 35 30) _ _ hp
      · refine rt_go rfl ?_
        refine rt_lna rfl rfl ?_
        refine rt_k1 rfl ck1_2 ?_
        refine rt_lna rfl rfl ?_
        refine rt_gfi rfl Kq_35 (by decide) rfl rfl ?_
        refine rt_iv (σ1 := (t_X5_readEvent_4 σ x1_)) rfl rfl rfl (m_X5_fails (2 : Int32) ((r_X5_readNumber σ).2 35 32)) ?_
        show RtF bk fR s 156 156 [some (rf 35), some (.inl x1_), o2_, o3_, some (.inl ((r_X5_readNumber σ).2 35 30))] [.inl (r_X5_fails (r_X5_readNumber σ).2 (2 : Int32) ((r_X5_readNumber σ).2 35 32)).1] (t_X5_readEvent_4 σ x1_) _
        exact rt_eRb rfl bt_fails
  · refine rt_k1 rfl ck1_0 ?_
    exact rt_eRb rfl (Or.inl rfl)
noncomputable def r_X5_readEvent_a78 (σ : sg_S) (x1_ : Int32) (x2_ : Int32) (y0_ : Int32) : Int32 × sg_S := (if ¬ y0_ = 0 then (if x1_ = (99 : Int32) then (r_X5_readEvent_a105 σ x1_) else (if ¬ x1_ = (100 : Int32) then (r_X5_readEvent_a157 σ x1_ (0 : Int32)) else (r_X5_readEvent_a105 σ x1_))) else ((r_X5_fails σ (3 : Int32) x2_).1, (r_X5_fails σ (3 : Int32) x2_).2))
noncomputable def p_X5_readEvent_a78 (σ : sg_S) (x1_ : Int32) (x2_ : Int32) (y0_ : Int32) : Prop := (¬ y0_ = 0 → ((x1_ = (99 : Int32) → (p_X5_readEvent_a105 σ x1_)) ∧ (¬ (x1_ = (99 : Int32)) → ((¬ x1_ = (100 : Int32) → (p_X5_readEvent_a157 σ x1_ (0 : Int32))) ∧ (¬ (¬ x1_ = (100 : Int32)) → (p_X5_readEvent_a105 σ x1_))))))
theorem m_X5_readEvent_a78 {s : List Int32} (σ : sg_S) (x1_ : Int32) (x2_ : Int32) (y0_ : Int32) (o3_ : Option (ip_V Int32)) (o4_ : Option (ip_V Int32)) (hp : p_X5_readEvent_a78 σ x1_ x2_ y0_) : RtF bk fR s 156 78 [some (rf 35), some (.inl x1_), some (.inl x2_), o3_, o4_] [.inl y0_] σ (r_X5_readEvent_a78 σ x1_ x2_ y0_) := by
  unfold r_X5_readEvent_a78
  unfold p_X5_readEvent_a78 at hp
  refine rt_sn (la1 := [some (rf 35), some (.inl x1_), some (.inl x2_), some (.inl y0_), o4_]) rfl rfl rfl ?_
  refine rt_ln rfl rfl ?_
  refine rt_if rfl rfl (fun h => ?_) (fun h => ?_)
  · replace hp := hp h
    refine rt_k1 rfl ck1_0 ?_
    refine rt_st (la1 := [some (rf 35), some (.inl x1_), some (.inl x2_), some (.inl y0_), some (.inl (0 : Int32))]) rfl rfl rfl ?_
    refine rt_ln rfl rfl ?_
    refine rt_k2 rfl ck2_99 ?_
    refine rt_ic rfl rfl (fun h => ?_) (fun h => ?_)
    · replace hp := hp.1 h
      exact m_X5_readEvent_a105 σ x1_ _ _ _ hp
    · replace hp := hp.2 h
      refine rt_ln rfl rfl ?_
      refine rt_k2 rfl ck2_100 ?_
      refine rt_ic rfl rfl (fun h => ?_) (fun h => ?_)
      · replace hp := hp.1 h
        exact m_X5_readEvent_a157 σ x1_ (0 : Int32) _ _ hp
      · replace hp := hp.2 h
        exact m_X5_readEvent_a105 σ x1_ _ _ _ hp
  · refine rt_lna rfl rfl ?_
    refine rt_k1 rfl ck1_3 ?_
    refine rt_ln rfl rfl ?_
    refine rt_iv (σ1 := (r_X5_fails σ (3 : Int32) x2_).2) rfl rfl rfl (m_X5_fails (3 : Int32) x2_) ?_
    show RtF bk fR s 156 89 [some (rf 35), some (.inl x1_), some (.inl x2_), some (.inl y0_), o4_] [.inl (r_X5_fails σ (3 : Int32) x2_).1] (r_X5_fails σ (3 : Int32) x2_).2 _
    exact rt_eRb rfl bt_fails
noncomputable def t_X5_readEvent_5 (σ : sg_S) : sg_S := (r_X5_fails (r_X5_here σ).2 (1 : Int32) ((r_X5_here σ).2 35 28)).2
noncomputable def r_X5_readEvent (σ : sg_S) : Int32 × sg_S := (if ¬ (v_X5_isEvent (r_X5_here σ).1) = 0 then (if (400 : Int32) ≤ (((t_X5_readEvent_0 σ) 35 6) + ((t_X5_readEvent_0 σ) 35 31)) then (r_X5_readEvent_a78 (t_X5_readEvent_0 σ) (r_X5_here σ).1 ((r_X5_here σ).2 35 28) (0 : Int32)) else (if ¬ (r_X5_here σ).1 = (100 : Int32) then (if (2 : Int32) ≤ ((t_X5_readEvent_0 σ) 35 23) then (r_X5_readEvent_a78 (t_X5_readEvent_0 σ) (r_X5_here σ).1 ((r_X5_here σ).2 35 28) (0 : Int32)) else (r_X5_readEvent_a78 (t_X5_readEvent_0 σ) (r_X5_here σ).1 ((r_X5_here σ).2 35 28) (1 : Int32))) else (if (v_X5_isEarly (t_X5_readEvent_0 σ)) = 0 then (r_X5_readEvent_a78 (t_X5_readEvent_0 σ) (r_X5_here σ).1 ((r_X5_here σ).2 35 28) (0 : Int32)) else (r_X5_readEvent_a78 (t_X5_readEvent_0 σ) (r_X5_here σ).1 ((r_X5_here σ).2 35 28) (1 : Int32))))) else ((r_X5_fails (r_X5_here σ).2 (1 : Int32) ((r_X5_here σ).2 35 28)).1, (t_X5_readEvent_5 σ)))
noncomputable def p_X5_readEvent (σ : sg_S) : Prop := (p_X5_here σ ∧ (¬ (v_X5_isEvent (r_X5_here σ).1) = 0 → (((400 : Int32) ≤ (((t_X5_readEvent_0 σ) 35 6) + ((t_X5_readEvent_0 σ) 35 31)) → (p_X5_readEvent_a78 (t_X5_readEvent_0 σ) (r_X5_here σ).1 ((r_X5_here σ).2 35 28) (0 : Int32))) ∧ (¬ ((400 : Int32) ≤ (((t_X5_readEvent_0 σ) 35 6) + ((t_X5_readEvent_0 σ) 35 31))) → ((¬ (r_X5_here σ).1 = (100 : Int32) → (((2 : Int32) ≤ ((t_X5_readEvent_0 σ) 35 23) → (p_X5_readEvent_a78 (t_X5_readEvent_0 σ) (r_X5_here σ).1 ((r_X5_here σ).2 35 28) (0 : Int32))) ∧ (¬ ((2 : Int32) ≤ ((t_X5_readEvent_0 σ) 35 23)) → (p_X5_readEvent_a78 (t_X5_readEvent_0 σ) (r_X5_here σ).1 ((r_X5_here σ).2 35 28) (1 : Int32))))) ∧ (¬ (¬ (r_X5_here σ).1 = (100 : Int32)) → (((v_X5_isEarly (t_X5_readEvent_0 σ)) = 0 → (p_X5_readEvent_a78 (t_X5_readEvent_0 σ) (r_X5_here σ).1 ((r_X5_here σ).2 35 28) (0 : Int32))) ∧ (¬ ((v_X5_isEarly (t_X5_readEvent_0 σ)) = 0) → (p_X5_readEvent_a78 (t_X5_readEvent_0 σ) (r_X5_here σ).1 ((r_X5_here σ).2 35 28) (1 : Int32))))))))))
theorem m_X5_readEvent {s : List Int32} {σ : sg_S} (hp : p_X5_readEvent σ) : Ct s 156 [rf 35] σ [.inl (r_X5_readEvent σ).1] (r_X5_readEvent σ).2 := by
  refine ct_v (la := [some (rf 35), none, none, none, none]) Kq_35 rfl rfl rfl rfl rfl rfl rfl (cgR ?_)
  unfold r_X5_readEvent
  unfold p_X5_readEvent at hp
  refine rt_lna rfl rfl ?_
  refine rt_iv (σ1 := (r_X5_here σ).2) rfl rfl rfl (m_X5_here hp.1) ?_
  show RtF bk fR s 156 4 [some (rf 35), none, none, none, none] [.inl (r_X5_here σ).1] (r_X5_here σ).2 _
  replace hp := hp.2
  refine rt_sn (la1 := [some (rf 35), some (.inl (r_X5_here σ).1), none, none, none]) rfl rfl rfl ?_
  refine rt_lna rfl rfl ?_
  refine rt_gfi rfl Kq_35 (by decide) rfl rfl ?_
  refine rt_sn (la1 := [some (rf 35), some (.inl (r_X5_here σ).1), some (.inl ((r_X5_here σ).2 35 28)), none, none]) rfl rfl rfl ?_
  refine rt_ln rfl rfl ?_
  refine rt_is (σ1 := (r_X5_here σ).2) rfl rfl rfl (m_X5_isEvent (r_X5_here σ).1) ?_
  show RtF bk fR s 156 14 [some (rf 35), some (.inl (r_X5_here σ).1), some (.inl ((r_X5_here σ).2 35 28)), none, none] [.inl (v_X5_isEvent (r_X5_here σ).1)] (r_X5_here σ).2 _
  refine rt_if rfl rfl (fun h => ?_) (fun h => ?_)
  · replace hp := hp h
    refine rt_lna rfl rfl ?_
    refine rt_dup rfl rfl ?_
    refine rt_gfi rfl Kq_35 (by decide) rfl rfl ?_
    refine rt_k1 rfl ck1_1 ?_
    refine rt_add rfl ?_
    refine rt_pf (σ1 := (t_X5_readEvent_0 σ)) rfl Kq_35 (by decide) rfl rfl rfl ?_
    refine rt_lna rfl rfl ?_
    refine rt_gfi rfl Kq_35 (by decide) rfl rfl ?_
    refine rt_lna rfl rfl ?_
    refine rt_gfi rfl Kq_35 (by decide) rfl rfl ?_
    refine rt_add rfl ?_
    refine rt_k3 rfl ck3_400 ?_
    refine rt_ic rfl rfl (fun h => ?_) (fun h => ?_)
    · replace hp := hp.1 h
      refine rt_k1 rfl ck1_0 ?_
      exact m_X5_readEvent_a78 (t_X5_readEvent_0 σ) (r_X5_here σ).1 ((r_X5_here σ).2 35 28) (0 : Int32) _ _ hp
    · replace hp := hp.2 h
      refine rt_ln rfl rfl ?_
      refine rt_k2 rfl ck2_100 ?_
      refine rt_ic rfl rfl (fun h => ?_) (fun h => ?_)
      · replace hp := hp.1 h
        refine rt_lna rfl rfl ?_
        refine rt_gfi rfl Kq_35 (by decide) rfl rfl ?_
        refine rt_k1 rfl ck1_2 ?_
        refine rt_ic rfl rfl (fun h => ?_) (fun h => ?_)
        · replace hp := hp.1 h
          refine rt_k1 rfl ck1_0 ?_
          exact m_X5_readEvent_a78 (t_X5_readEvent_0 σ) (r_X5_here σ).1 ((r_X5_here σ).2 35 28) (0 : Int32) _ _ hp
        · replace hp := hp.2 h
          refine rt_k1 rfl ck1_1 ?_
          refine rt_go rfl ?_
          exact m_X5_readEvent_a78 (t_X5_readEvent_0 σ) (r_X5_here σ).1 ((r_X5_here σ).2 35 28) (1 : Int32) _ _ hp
      · replace hp := hp.2 h
        refine rt_lna rfl rfl ?_
        refine rt_iv (σ1 := (t_X5_readEvent_0 σ)) rfl rfl rfl (m_X5_isEarly) ?_
        show RtF bk fR s 156 59 [some (rf 35), some (.inl (r_X5_here σ).1), some (.inl ((r_X5_here σ).2 35 28)), none, none] [.inl (v_X5_isEarly (t_X5_readEvent_0 σ))] (t_X5_readEvent_0 σ) _
        refine rt_if rfl rfl (fun h => ?_) (fun h => ?_)
        · replace hp := hp.1 h
          refine rt_k1 rfl ck1_0 ?_
          exact m_X5_readEvent_a78 (t_X5_readEvent_0 σ) (r_X5_here σ).1 ((r_X5_here σ).2 35 28) (0 : Int32) _ _ hp
        · replace hp := hp.2 h
          refine rt_go rfl ?_
          refine rt_k1 rfl ck1_1 ?_
          refine rt_go rfl ?_
          exact m_X5_readEvent_a78 (t_X5_readEvent_0 σ) (r_X5_here σ).1 ((r_X5_here σ).2 35 28) (1 : Int32) _ _ hp
  · refine rt_lna rfl rfl ?_
    refine rt_k1 rfl ck1_1 ?_
    refine rt_ln rfl rfl ?_
    refine rt_iv (σ1 := (t_X5_readEvent_5 σ)) rfl rfl rfl (m_X5_fails (1 : Int32) ((r_X5_here σ).2 35 28)) ?_
    show RtF bk fR s 156 23 [some (rf 35), some (.inl (r_X5_here σ).1), some (.inl ((r_X5_here σ).2 35 28)), none, none] [.inl (r_X5_fails (r_X5_here σ).2 (1 : Int32) ((r_X5_here σ).2 35 28)).1] (t_X5_readEvent_5 σ) _
    exact rt_eRb rfl bt_fails
noncomputable def r_X5_readEvents_b4 (k4 : sg_S → Int32 × sg_S) (σ : sg_S) : Int32 × sg_S := (if (r_X5_here σ).1 = (-1 : Int32) then ((1 : Int32), (r_X5_here σ).2) else (if ¬ (r_X5_readEvent (r_X5_here σ).2).1 = 0 then (k4 (r_X5_readEvent (r_X5_here σ).2).2) else ((0 : Int32), (r_X5_readEvent (r_X5_here σ).2).2)))
noncomputable def p_X5_readEvents_b4 (kp4 : sg_S → Prop) (σ : sg_S) : Prop := (p_X5_here σ ∧ (¬ ((r_X5_here σ).1 = (-1 : Int32)) → (p_X5_readEvent (r_X5_here σ).2 ∧ (¬ (r_X5_readEvent (r_X5_here σ).2).1 = 0 → (kp4 (r_X5_readEvent (r_X5_here σ).2).2)))))
theorem m_X5_readEvents_b4 {s : List Int32} (k4 : sg_S → Int32 × sg_S) (kp4 : sg_S → Prop) (hk4 : ∀ (σ : sg_S), kp4 σ → RtF bk fR s 157 4 [some (rf 35)] [] σ (k4 σ)) (σ : sg_S) (hp : p_X5_readEvents_b4 kp4 σ) : RtF bk fR s 157 4 [some (rf 35)] [] σ (r_X5_readEvents_b4 k4 σ) := by
  unfold r_X5_readEvents_b4
  unfold p_X5_readEvents_b4 at hp
  refine rt_lna rfl rfl ?_
  refine rt_iv (σ1 := (r_X5_here σ).2) rfl rfl rfl (m_X5_here hp.1) ?_
  show RtF bk fR s 157 8 [some (rf 35)] [.inl (r_X5_here σ).1] (r_X5_here σ).2 _
  replace hp := hp.2
  refine rt_k1 rfl ck1_m1 ?_
  refine rt_ic rfl rfl (fun h => ?_) (fun h => ?_)
  · refine rt_k1 rfl ck1_1 ?_
    exact rt_eRb rfl (Or.inr rfl)
  · replace hp := hp h
    refine rt_lna rfl rfl ?_
    refine rt_iv (σ1 := (r_X5_readEvent (r_X5_here σ).2).2) rfl rfl rfl (m_X5_readEvent hp.1) ?_
    show RtF bk fR s 157 16 [some (rf 35)] [.inl (r_X5_readEvent (r_X5_here σ).2).1] (r_X5_readEvent (r_X5_here σ).2).2 _
    replace hp := hp.2
    refine rt_if rfl rfl (fun h => ?_) (fun h => ?_)
    · replace hp := hp h
      exact hk4 (r_X5_readEvent (r_X5_here σ).2).2 hp
    · refine rt_k1 rfl ck1_0 ?_
      exact rt_eRb rfl (Or.inl rfl)
noncomputable def r_X5_readEvents_l4 (n : Nat) : sg_S → Int32 × sg_S := Nat.rec (motive := fun _ => sg_S → Int32 × sg_S) (fun σ => (0, σ)) (fun _ ih => r_X5_readEvents_b4 ih) n
noncomputable def p_X5_readEvents_l4 (n : Nat) : sg_S → Prop := Nat.rec (motive := fun _ => sg_S → Prop) (fun _ => False) (fun _ ih => p_X5_readEvents_b4 ih) n
theorem m_X5_readEvents_l4 {s : List Int32} : ∀ (n : Nat), ∀ (σ : sg_S), p_X5_readEvents_l4 n σ → RtF bk fR s 157 4 [some (rf 35)] [] σ (r_X5_readEvents_l4 n σ) := by
  intro n
  induction n with
  | zero =>
    intro σ hp
    exact hp.elim
  | succ n ih =>
    intro σ hp
    exact m_X5_readEvents_b4 (r_X5_readEvents_l4 n) (p_X5_readEvents_l4 n) ih σ hp
noncomputable def r_X5_readEvents (σ : sg_S) : Int32 × sg_S := (r_X5_readEvents_l4 600 (s_X5_goesOn σ))
noncomputable def p_X5_readEvents (σ : sg_S) : Prop := (p_X5_goesOn σ ∧ (p_X5_readEvents_l4 600 (s_X5_goesOn σ)))
theorem m_X5_readEvents {s : List Int32} {σ : sg_S} (hp : p_X5_readEvents σ) : Ct s 157 [rf 35] σ [.inl (r_X5_readEvents σ).1] (r_X5_readEvents σ).2 := by
  refine ct_v (la := [some (rf 35)]) Kq_35 rfl rfl rfl rfl rfl rfl rfl (cgR ?_)
  unfold r_X5_readEvents
  unfold p_X5_readEvents at hp
  refine rt_lna rfl rfl ?_
  refine rt_iv (σ1 := (s_X5_goesOn σ)) rfl rfl rfl (m_X5_goesOn hp.1) ?_
  show RtF bk fR s 157 4 [some (rf 35)] [] (s_X5_goesOn σ) _
  replace hp := hp.2
  exact m_X5_readEvents_l4 600 (s_X5_goesOn σ) hp
noncomputable def t_X5_beginsText_0 (σ : sg_S) : sg_S := (sg_up (sg_up σ 35 0 (0 : Int32)) 35 28 (0 : Int32))
noncomputable def t_X5_beginsText_1 (σ : sg_S) : sg_S := (sg_up (sg_up (t_X5_beginsText_0 σ) 35 29 (0 : Int32)) 35 31 (0 : Int32))
noncomputable def s_X5_beginsText (σ : sg_S) : sg_S := (t_X5_beginsText_1 σ)
theorem m_X5_beginsText {s : List Int32} {σ : sg_S} : Ct s 158 [rf 35] σ [] (s_X5_beginsText σ) := by
  refine ct_v (la := [some (rf 35)]) Kq_35 rfl rfl rfl rfl rfl rfl rfl (cgS ?_)
  unfold s_X5_beginsText
  refine rt_lna rfl rfl ?_
  refine rt_k1 rfl ck1_0 ?_
  refine rt_pf (σ1 := (sg_up σ 35 0 (0 : Int32))) rfl Kq_35 (by decide) rfl rfl rfl ?_
  refine rt_lna rfl rfl ?_
  refine rt_k1 rfl ck1_0 ?_
  refine rt_pf (σ1 := (t_X5_beginsText_0 σ)) rfl Kq_35 (by decide) rfl rfl rfl ?_
  refine rt_lna rfl rfl ?_
  refine rt_k1 rfl ck1_0 ?_
  refine rt_pf (σ1 := (sg_up (t_X5_beginsText_0 σ) 35 29 (0 : Int32))) rfl Kq_35 (by decide) rfl rfl rfl ?_
  refine rt_lna rfl rfl ?_
  refine rt_k1 rfl ck1_0 ?_
  refine rt_pf (σ1 := (t_X5_beginsText_1 σ)) rfl Kq_35 (by decide) rfl rfl rfl ?_
  exact rt_eS rfl
noncomputable def t_X5_table_0 (σ : sg_S) : sg_S := (sg_up (r_X5_readTable (s_X5_beginsText σ)).2 35 26 (0 : Int32))
noncomputable def t_X5_table_1 (σ : sg_S) : sg_S := (sg_up (t_X5_table_0 σ) 35 27 ((t_X5_table_0 σ) 35 29))
noncomputable def r_X5_table_b30 (k30 : sg_S → Int32 → Int32 × sg_S) (σ : sg_S) (x2_ : Int32) : Int32 × sg_S := (if (50 : Int32) ≤ x2_ then (((sg_up σ 35 6 (0 : Int32)) 35 31), (sg_up σ 35 6 (0 : Int32))) else (k30 (sg_up σ 37 (ni x2_) (σ 38 (ni x2_))) (x2_ + (1 : Int32))))
noncomputable def p_X5_table_b30 (kp30 : sg_S → Int32 → Prop) (σ : sg_S) (x2_ : Int32) : Prop := (¬ ((50 : Int32) ≤ x2_) → (ix x2_ 50 ∧ (ix x2_ 50 ∧ (kp30 (sg_up σ 37 (ni x2_) (σ 38 (ni x2_))) (x2_ + (1 : Int32))))))
theorem m_X5_table_b30 {s : List Int32} (k30 : sg_S → Int32 → Int32 × sg_S) (kp30 : sg_S → Int32 → Prop) (hk30 : ∀ (σ : sg_S) (x2_ : Int32) (o1_ : Option (ip_V Int32)), kp30 σ x2_ → RtF bk fR s 159 30 [some (rf 35), o1_, some (.inl x2_)] [] σ (k30 σ x2_)) (σ : sg_S) (x2_ : Int32) (o1_ : Option (ip_V Int32)) (hp : p_X5_table_b30 kp30 σ x2_) : RtF bk fR s 159 30 [some (rf 35), o1_, some (.inl x2_)] [] σ (r_X5_table_b30 k30 σ x2_) := by
  unfold r_X5_table_b30
  unfold p_X5_table_b30 at hp
  refine rt_ln rfl rfl ?_
  refine rt_k2 rfl ck2_50 ?_
  refine rt_ic rfl rfl (fun h => ?_) (fun h => ?_)
  · refine rt_lna rfl rfl ?_
    refine rt_k1 rfl ck1_0 ?_
    refine rt_pf (σ1 := (sg_up σ 35 6 (0 : Int32))) rfl Kq_35 (by decide) rfl rfl rfl ?_
    refine rt_lna rfl rfl ?_
    refine rt_gfi rfl Kq_35 (by decide) rfl rfl ?_
    exact rt_eR rfl
  · replace hp := hp h
    refine rt_lna rfl rfl ?_
    refine rt_gfr rfl Kq_35 (by decide) rfl ?_
    refine rt_ln rfl rfl ?_
    refine rt_lna rfl rfl ?_
    refine rt_gfr rfl Kq_35 (by decide) rfl ?_
    refine rt_ln rfl rfl ?_
    refine rt_al rfl Kq_38 hp.1 rfl ?_
    replace hp := hp.2
    refine rt_as (k0 := (ni x2_)) (σ1 := (sg_up σ 37 (ni x2_) (σ 38 (ni x2_)))) rfl Kq_37 hp.1 rfl rfl ?_
    replace hp := hp.2
    refine rt_inc (la1 := [some (rf 35), o1_, some (.inl (x2_ + (1 : Int32)))]) rfl rfl ck1_1 rfl ?_
    refine rt_go rfl ?_
    exact hk30 (sg_up σ 37 (ni x2_) (σ 38 (ni x2_))) (x2_ + (1 : Int32)) _ hp
noncomputable def r_X5_table_l30 (n : Nat) : sg_S → Int32 → Int32 × sg_S := Nat.rec (motive := fun _ => sg_S → Int32 → Int32 × sg_S) (fun σ _ => (0, σ)) (fun _ ih => r_X5_table_b30 ih) n
noncomputable def p_X5_table_l30 (n : Nat) : sg_S → Int32 → Prop := Nat.rec (motive := fun _ => sg_S → Int32 → Prop) (fun _ _ => False) (fun _ ih => p_X5_table_b30 ih) n
theorem m_X5_table_l30 {s : List Int32} : ∀ (n : Nat), ∀ (σ : sg_S) (x2_ : Int32) (o1_ : Option (ip_V Int32)), p_X5_table_l30 n σ x2_ → RtF bk fR s 159 30 [some (rf 35), o1_, some (.inl x2_)] [] σ (r_X5_table_l30 n σ x2_) := by
  intro n
  induction n with
  | zero =>
    intro σ x2_ o1_ hp
    exact hp.elim
  | succ n ih =>
    intro σ x2_ o1_ hp
    exact m_X5_table_b30 (r_X5_table_l30 n) (p_X5_table_l30 n) ih σ x2_ o1_ hp
noncomputable def r_X5_table (σ : sg_S) : Int32 × sg_S := (if ¬ (r_X5_readTable (s_X5_beginsText σ)).1 = 0 then (r_X5_table_l30 600 (t_X5_table_1 σ) (0 : Int32)) else ((-1 : Int32), (t_X5_table_1 σ)))
noncomputable def p_X5_table (σ : sg_S) : Prop := (p_X5_readTable (s_X5_beginsText σ) ∧ (¬ (r_X5_readTable (s_X5_beginsText σ)).1 = 0 → (p_X5_table_l30 600 (t_X5_table_1 σ) (0 : Int32))))
theorem m_X5_table {s : List Int32} {σ : sg_S} (hp : p_X5_table σ) : Ct s 159 [rf 35] σ [.inl (r_X5_table σ).1] (r_X5_table σ).2 := by
  refine ct_v (la := [some (rf 35), none, none]) Kq_35 rfl rfl rfl rfl rfl rfl rfl (cgR ?_)
  unfold r_X5_table
  unfold p_X5_table at hp
  refine rt_lna rfl rfl ?_
  refine rt_iv (σ1 := (s_X5_beginsText σ)) rfl rfl rfl (m_X5_beginsText) ?_
  show RtF bk fR s 159 4 [some (rf 35), none, none] [] (s_X5_beginsText σ) _
  refine rt_lna rfl rfl ?_
  refine rt_iv (σ1 := (r_X5_readTable (s_X5_beginsText σ)).2) rfl rfl rfl (m_X5_readTable hp.1) ?_
  show RtF bk fR s 159 8 [some (rf 35), none, none] [.inl (r_X5_readTable (s_X5_beginsText σ)).1] (r_X5_readTable (s_X5_beginsText σ)).2 _
  replace hp := hp.2
  refine rt_sn (la1 := [some (rf 35), some (.inl (r_X5_readTable (s_X5_beginsText σ)).1), none]) rfl rfl rfl ?_
  refine rt_lna rfl rfl ?_
  refine rt_k1 rfl ck1_0 ?_
  refine rt_pf (σ1 := (t_X5_table_0 σ)) rfl Kq_35 (by decide) rfl rfl rfl ?_
  refine rt_lna rfl rfl ?_
  refine rt_lna rfl rfl ?_
  refine rt_gfi rfl Kq_35 (by decide) rfl rfl ?_
  refine rt_pf (σ1 := (t_X5_table_1 σ)) rfl Kq_35 (by decide) rfl rfl rfl ?_
  refine rt_ln rfl rfl ?_
  refine rt_if rfl rfl (fun h => ?_) (fun h => ?_)
  · replace hp := hp h
    refine rt_k1 rfl ck1_0 ?_
    refine rt_sn (la1 := [some (rf 35), some (.inl (r_X5_readTable (s_X5_beginsText σ)).1), some (.inl (0 : Int32))]) rfl rfl rfl ?_
    exact m_X5_table_l30 600 (t_X5_table_1 σ) (0 : Int32) _ hp
  · refine rt_k1 rfl ck1_m1 ?_
    exact rt_eR rfl
noncomputable def t_X5_events_0 (σ : sg_S) : sg_S := (sg_up (r_X5_readEvents (s_X5_beginsText σ)).2 35 26 (0 : Int32))
noncomputable def t_X5_events_1 (σ : sg_S) : sg_S := (sg_up (t_X5_events_0 σ) 35 27 ((t_X5_events_0 σ) 35 29))
noncomputable def t_X5_events_2 (σ : sg_S) : sg_S := (sg_up (t_X5_events_1 σ) 35 6 (((t_X5_events_1 σ) 35 6) + ((t_X5_events_1 σ) 35 31)))
noncomputable def r_X5_events (σ : sg_S) : Int32 × sg_S := (if ¬ (r_X5_readEvents (s_X5_beginsText σ)).1 = 0 then (((t_X5_events_2 σ) 35 31), (t_X5_events_2 σ)) else ((-1 : Int32), (t_X5_events_1 σ)))
noncomputable def p_X5_events (σ : sg_S) : Prop := p_X5_readEvents (s_X5_beginsText σ)
theorem m_X5_events {s : List Int32} {σ : sg_S} (hp : p_X5_events σ) : Ct s 160 [rf 35] σ [.inl (r_X5_events σ).1] (r_X5_events σ).2 := by
  refine ct_v (la := [some (rf 35), none]) Kq_35 rfl rfl rfl rfl rfl rfl rfl (cgR ?_)
  unfold r_X5_events
  unfold p_X5_events at hp
  refine rt_lna rfl rfl ?_
  refine rt_iv (σ1 := (s_X5_beginsText σ)) rfl rfl rfl (m_X5_beginsText) ?_
  show RtF bk fR s 160 4 [some (rf 35), none] [] (s_X5_beginsText σ) _
  refine rt_lna rfl rfl ?_
  refine rt_iv (σ1 := (r_X5_readEvents (s_X5_beginsText σ)).2) rfl rfl rfl (m_X5_readEvents hp) ?_
  show RtF bk fR s 160 8 [some (rf 35), none] [.inl (r_X5_readEvents (s_X5_beginsText σ)).1] (r_X5_readEvents (s_X5_beginsText σ)).2 _
  refine rt_sn (la1 := [some (rf 35), some (.inl (r_X5_readEvents (s_X5_beginsText σ)).1)]) rfl rfl rfl ?_
  refine rt_lna rfl rfl ?_
  refine rt_k1 rfl ck1_0 ?_
  refine rt_pf (σ1 := (t_X5_events_0 σ)) rfl Kq_35 (by decide) rfl rfl rfl ?_
  refine rt_lna rfl rfl ?_
  refine rt_lna rfl rfl ?_
  refine rt_gfi rfl Kq_35 (by decide) rfl rfl ?_
  refine rt_pf (σ1 := (t_X5_events_1 σ)) rfl Kq_35 (by decide) rfl rfl rfl ?_
  refine rt_ln rfl rfl ?_
  refine rt_if rfl rfl (fun h => ?_) (fun h => ?_)
  · refine rt_lna rfl rfl ?_
    refine rt_dup rfl rfl ?_
    refine rt_gfi rfl Kq_35 (by decide) rfl rfl ?_
    refine rt_lna rfl rfl ?_
    refine rt_gfi rfl Kq_35 (by decide) rfl rfl ?_
    refine rt_add rfl ?_
    refine rt_pf (σ1 := (t_X5_events_2 σ)) rfl Kq_35 (by decide) rfl rfl rfl ?_
    refine rt_lna rfl rfl ?_
    refine rt_gfi rfl Kq_35 (by decide) rfl rfl ?_
    exact rt_eR rfl
  · refine rt_k1 rfl ck1_m1 ?_
    exact rt_eR rfl
noncomputable def r_X5_fault (σ : sg_S) : Int32 × sg_S := (((sg_up σ 35 0 (0 : Int32)) 35 27), (sg_up σ 35 0 (0 : Int32)))
theorem m_X5_fault {s : List Int32} {σ : sg_S} : Ct s 161 [rf 35] σ [.inl (r_X5_fault σ).1] (r_X5_fault σ).2 := by
  refine ct_v (la := [some (rf 35)]) Kq_35 rfl rfl rfl rfl rfl rfl rfl (cgR ?_)
  unfold r_X5_fault
  refine rt_lna rfl rfl ?_
  refine rt_k1 rfl ck1_0 ?_
  refine rt_pf (σ1 := (sg_up σ 35 0 (0 : Int32))) rfl Kq_35 (by decide) rfl rfl rfl ?_
  refine rt_lna rfl rfl ?_
  refine rt_gfi rfl Kq_35 (by decide) rfl rfl ?_
  exact rt_eR rfl
noncomputable def t_X5_set_0 (σ : sg_S) (x1_ : Int32) (x2_ : Int32) (y0_ : Int32) : sg_S := (sg_up (sg_up σ 36 (ni x1_) x2_) 35 6 (0 : Int32))
noncomputable def r_X5_set_a78 (σ : sg_S) (x1_ : Int32) (x2_ : Int32) (y0_ : Int32) : Int32 × sg_S := (if ¬ y0_ = 0 then ((1 : Int32), (t_X5_set_0 σ x1_ x2_ y0_)) else ((0 : Int32), σ))
noncomputable def p_X5_set_a78 (σ : sg_S) (x1_ : Int32) (x2_ : Int32) (y0_ : Int32) : Prop := (¬ y0_ = 0 → ix x1_ 5)
theorem m_X5_set_a78 {s : List Int32} (σ : sg_S) (x1_ : Int32) (x2_ : Int32) (y0_ : Int32) (o3_ : Option (ip_V Int32)) (hp : p_X5_set_a78 σ x1_ x2_ y0_) : RtF bk fR s 162 78 [some (rf 35), some (.inl x1_), some (.inl x2_), o3_] [.inl y0_] σ (r_X5_set_a78 σ x1_ x2_ y0_) := by
  unfold r_X5_set_a78
  unfold p_X5_set_a78 at hp
  refine rt_sn (la1 := [some (rf 35), some (.inl x1_), some (.inl x2_), some (.inl y0_)]) rfl rfl rfl ?_
  refine rt_ln rfl rfl ?_
  refine rt_if rfl rfl (fun h => ?_) (fun h => ?_)
  · replace hp := hp h
    refine rt_lna rfl rfl ?_
    refine rt_gfr rfl Kq_35 (by decide) rfl ?_
    refine rt_ln rfl rfl ?_
    refine rt_ln rfl rfl ?_
    refine rt_as (k0 := (ni x1_)) (σ1 := (sg_up σ 36 (ni x1_) x2_)) rfl Kq_36 hp rfl rfl ?_
    refine rt_lna rfl rfl ?_
    refine rt_k1 rfl ck1_0 ?_
    refine rt_pf (σ1 := (t_X5_set_0 σ x1_ x2_ y0_)) rfl Kq_35 (by decide) rfl rfl rfl ?_
    refine rt_k1 rfl ck1_1 ?_
    exact rt_eRb rfl (Or.inr rfl)
  · refine rt_k1 rfl ck1_0 ?_
    exact rt_eRb rfl (Or.inl rfl)
noncomputable def r_X5_set (σ : sg_S) (x0 : Int32) (x1 : Int32) : Int32 × sg_S := (if (v_X5_in x0 (0 : Int32) (4 : Int32)) = 0 then ((0 : Int32), (sg_up σ 35 0 (0 : Int32))) else (if ¬ ((sg_up σ 35 0 (0 : Int32)) 36 (ni x0)) = x1 then (if x0 = 0 then (r_X5_set_a78 (sg_up σ 35 0 (0 : Int32)) x0 x1 (v_X5_in x1 (1 : Int32) (20 : Int32))) else (if ¬ x0 = (2 : Int32) then (if ¬ x0 = (1 : Int32) then (r_X5_set_a78 (sg_up σ 35 0 (0 : Int32)) x0 x1 (v_X5_in x1 (0 : Int32) ((20 : Int32) - ((sg_up σ 35 0 (0 : Int32)) 36 (ni ((7 : Int32) - x0)))))) else (r_X5_set_a78 (sg_up σ 35 0 (0 : Int32)) x0 x1 (v_X5_in x1 (1 : Int32) (400 : Int32)))) else (r_X5_set_a78 (sg_up σ 35 0 (0 : Int32)) x0 x1 (v_X5_in x1 (1 : Int32) (20 : Int32))))) else ((0 : Int32), (sg_up σ 35 0 (0 : Int32)))))
noncomputable def p_X5_set (σ : sg_S) (x0 : Int32) (x1 : Int32) : Prop := (¬ ((v_X5_in x0 (0 : Int32) (4 : Int32)) = 0) → (ix x0 5 ∧ (¬ ((sg_up σ 35 0 (0 : Int32)) 36 (ni x0)) = x1 → ((x0 = 0 → (p_X5_set_a78 (sg_up σ 35 0 (0 : Int32)) x0 x1 (v_X5_in x1 (1 : Int32) (20 : Int32)))) ∧ (¬ (x0 = 0) → ((¬ x0 = (2 : Int32) → ((¬ x0 = (1 : Int32) → (ix ((7 : Int32) - x0) 5 ∧ (p_X5_set_a78 (sg_up σ 35 0 (0 : Int32)) x0 x1 (v_X5_in x1 (0 : Int32) ((20 : Int32) - ((sg_up σ 35 0 (0 : Int32)) 36 (ni ((7 : Int32) - x0)))))))) ∧ (¬ (¬ x0 = (1 : Int32)) → (p_X5_set_a78 (sg_up σ 35 0 (0 : Int32)) x0 x1 (v_X5_in x1 (1 : Int32) (400 : Int32)))))) ∧ (¬ (¬ x0 = (2 : Int32)) → (p_X5_set_a78 (sg_up σ 35 0 (0 : Int32)) x0 x1 (v_X5_in x1 (1 : Int32) (20 : Int32))))))))))
theorem m_X5_set {s : List Int32} {σ : sg_S} (x0 : Int32) (x1 : Int32) (hp : p_X5_set σ x0 x1) : Ct s 162 [rf 35, .inl x0, .inl x1] σ [.inl (r_X5_set σ x0 x1).1] (r_X5_set σ x0 x1).2 := by
  refine ct_v (la := [some (rf 35), some (.inl x0), some (.inl x1), none]) Kq_35 rfl rfl rfl rfl rfl rfl rfl (cgR ?_)
  unfold r_X5_set
  unfold p_X5_set at hp
  refine rt_lna rfl rfl ?_
  refine rt_k1 rfl ck1_0 ?_
  refine rt_pf (σ1 := (sg_up σ 35 0 (0 : Int32))) rfl Kq_35 (by decide) rfl rfl rfl ?_
  refine rt_ln rfl rfl ?_
  refine rt_k1 rfl ck1_0 ?_
  refine rt_k1 rfl ck1_4 ?_
  refine rt_is (σ1 := (sg_up σ 35 0 (0 : Int32))) rfl rfl rfl (m_X5_in x0 (0 : Int32) (4 : Int32)) ?_
  show RtF bk fR s 162 11 [some (rf 35), some (.inl x0), some (.inl x1), none] [.inl (v_X5_in x0 (0 : Int32) (4 : Int32))] (sg_up σ 35 0 (0 : Int32)) _
  refine rt_if rfl rfl (fun h => ?_) (fun h => ?_)
  · refine rt_k1 rfl ck1_0 ?_
    exact rt_eRb rfl (Or.inl rfl)
  · replace hp := hp h
    refine rt_lna rfl rfl ?_
    refine rt_gfr rfl Kq_35 (by decide) rfl ?_
    refine rt_ln rfl rfl ?_
    refine rt_al rfl Kq_36 hp.1 rfl ?_
    replace hp := hp.2
    refine rt_ln rfl rfl ?_
    refine rt_ic rfl rfl (fun h => ?_) (fun h => ?_)
    · replace hp := hp h
      refine rt_ln rfl rfl ?_
      refine rt_if rfl rfl (fun h => ?_) (fun h => ?_)
      · replace hp := hp.1 h
        refine rt_ln rfl rfl ?_
        refine rt_k1 rfl ck1_1 ?_
        refine rt_k2 rfl ck2_20 ?_
        refine rt_is (σ1 := (sg_up σ 35 0 (0 : Int32))) rfl rfl rfl (m_X5_in x1 (1 : Int32) (20 : Int32)) ?_
        show RtF bk fR s 162 42 [some (rf 35), some (.inl x0), some (.inl x1), none] [.inl (v_X5_in x1 (1 : Int32) (20 : Int32))] (sg_up σ 35 0 (0 : Int32)) _
        refine rt_go rfl ?_
        exact m_X5_set_a78 (sg_up σ 35 0 (0 : Int32)) x0 x1 (v_X5_in x1 (1 : Int32) (20 : Int32)) _ hp
      · replace hp := hp.2 h
        refine rt_ln rfl rfl ?_
        refine rt_k1 rfl ck1_2 ?_
        refine rt_ic rfl rfl (fun h => ?_) (fun h => ?_)
        · replace hp := hp.1 h
          refine rt_ln rfl rfl ?_
          refine rt_k1 rfl ck1_1 ?_
          refine rt_ic rfl rfl (fun h => ?_) (fun h => ?_)
          · replace hp := hp.1 h
            refine rt_ln rfl rfl ?_
            refine rt_k1 rfl ck1_0 ?_
            refine rt_k2 rfl ck2_20 ?_
            refine rt_lna rfl rfl ?_
            refine rt_gfr rfl Kq_35 (by decide) rfl ?_
            refine rt_k2 rfl ck2_7 ?_
            refine rt_ln rfl rfl ?_
            refine rt_sub rfl ?_
            refine rt_al rfl Kq_36 hp.1 rfl ?_
            replace hp := hp.2
            refine rt_sub rfl ?_
            refine rt_is (σ1 := (sg_up σ 35 0 (0 : Int32))) rfl rfl rfl (m_X5_in x1 (0 : Int32) ((20 : Int32) - ((sg_up σ 35 0 (0 : Int32)) 36 (ni ((7 : Int32) - x0))))) ?_
            show RtF bk fR s 162 78 [some (rf 35), some (.inl x0), some (.inl x1), none] [.inl (v_X5_in x1 (0 : Int32) ((20 : Int32) - ((sg_up σ 35 0 (0 : Int32)) 36 (ni ((7 : Int32) - x0)))))] (sg_up σ 35 0 (0 : Int32)) _
            exact m_X5_set_a78 (sg_up σ 35 0 (0 : Int32)) x0 x1 (v_X5_in x1 (0 : Int32) ((20 : Int32) - ((sg_up σ 35 0 (0 : Int32)) 36 (ni ((7 : Int32) - x0))))) _ hp
          · replace hp := hp.2 h
            refine rt_ln rfl rfl ?_
            refine rt_k1 rfl ck1_1 ?_
            refine rt_k3 rfl ck3_400 ?_
            refine rt_is (σ1 := (sg_up σ 35 0 (0 : Int32))) rfl rfl rfl (m_X5_in x1 (1 : Int32) (400 : Int32)) ?_
            show RtF bk fR s 162 58 [some (rf 35), some (.inl x0), some (.inl x1), none] [.inl (v_X5_in x1 (1 : Int32) (400 : Int32))] (sg_up σ 35 0 (0 : Int32)) _
            refine rt_go rfl ?_
            exact m_X5_set_a78 (sg_up σ 35 0 (0 : Int32)) x0 x1 (v_X5_in x1 (1 : Int32) (400 : Int32)) _ hp
        · replace hp := hp.2 h
          refine rt_ln rfl rfl ?_
          refine rt_k1 rfl ck1_1 ?_
          refine rt_k2 rfl ck2_20 ?_
          refine rt_is (σ1 := (sg_up σ 35 0 (0 : Int32))) rfl rfl rfl (m_X5_in x1 (1 : Int32) (20 : Int32)) ?_
          show RtF bk fR s 162 42 [some (rf 35), some (.inl x0), some (.inl x1), none] [.inl (v_X5_in x1 (1 : Int32) (20 : Int32))] (sg_up σ 35 0 (0 : Int32)) _
          refine rt_go rfl ?_
          exact m_X5_set_a78 (sg_up σ 35 0 (0 : Int32)) x0 x1 (v_X5_in x1 (1 : Int32) (20 : Int32)) _ hp
    · refine rt_k1 rfl ck1_0 ?_
      exact rt_eRb rfl (Or.inl rfl)
noncomputable def t_X5_play_0 (σ : sg_S) (x1_ : Int32) (x2_ : Int32) (y0_ : Int32) : sg_S := (sg_up (sg_up σ 39 (ni (σ 35 6)) x1_) 40 (ni ((sg_up σ 39 (ni (σ 35 6)) x1_) 35 6)) x2_)
noncomputable def t_X5_play_1 (σ : sg_S) (x1_ : Int32) (x2_ : Int32) (y0_ : Int32) : sg_S := (sg_up (t_X5_play_0 σ x1_ x2_ y0_) 35 6 (((t_X5_play_0 σ x1_ x2_ y0_) 35 6) + (1 : Int32)))
noncomputable def r_X5_play_a77 (σ : sg_S) (x1_ : Int32) (x2_ : Int32) (y0_ : Int32) : Int32 × sg_S := (if ¬ y0_ = 0 then (((t_X5_play_1 σ x1_ x2_ y0_) 35 6), (t_X5_play_1 σ x1_ x2_ y0_)) else ((-1 : Int32), σ))
noncomputable def p_X5_play_a77 (σ : sg_S) (x1_ : Int32) (x2_ : Int32) (y0_ : Int32) : Prop := (¬ y0_ = 0 → (ix (σ 35 6) 400 ∧ ix ((sg_up σ 39 (ni (σ 35 6)) x1_) 35 6) 400))
theorem m_X5_play_a77 {s : List Int32} (σ : sg_S) (x1_ : Int32) (x2_ : Int32) (y0_ : Int32) (o3_ : Option (ip_V Int32)) (hp : p_X5_play_a77 σ x1_ x2_ y0_) : RtF bk fR s 163 77 [some (rf 35), some (.inl x1_), some (.inl x2_), o3_] [.inl y0_] σ (r_X5_play_a77 σ x1_ x2_ y0_) := by
  unfold r_X5_play_a77
  unfold p_X5_play_a77 at hp
  refine rt_sn (la1 := [some (rf 35), some (.inl x1_), some (.inl x2_), some (.inl y0_)]) rfl rfl rfl ?_
  refine rt_ln rfl rfl ?_
  refine rt_if rfl rfl (fun h => ?_) (fun h => ?_)
  · replace hp := hp h
    refine rt_lna rfl rfl ?_
    refine rt_gfr rfl Kq_35 (by decide) rfl ?_
    refine rt_lna rfl rfl ?_
    refine rt_gfi rfl Kq_35 (by decide) rfl rfl ?_
    refine rt_ln rfl rfl ?_
    refine rt_as (k0 := (ni (σ 35 6))) (σ1 := (sg_up σ 39 (ni (σ 35 6)) x1_)) rfl Kq_39 hp.1 rfl rfl ?_
    replace hp := hp.2
    refine rt_lna rfl rfl ?_
    refine rt_gfr rfl Kq_35 (by decide) rfl ?_
    refine rt_lna rfl rfl ?_
    refine rt_gfi rfl Kq_35 (by decide) rfl rfl ?_
    refine rt_ln rfl rfl ?_
    refine rt_as (k0 := (ni ((sg_up σ 39 (ni (σ 35 6)) x1_) 35 6))) (σ1 := (t_X5_play_0 σ x1_ x2_ y0_)) rfl Kq_40 hp rfl rfl ?_
    refine rt_lna rfl rfl ?_
    refine rt_dup rfl rfl ?_
    refine rt_gfi rfl Kq_35 (by decide) rfl rfl ?_
    refine rt_k1 rfl ck1_1 ?_
    refine rt_add rfl ?_
    refine rt_pf (σ1 := (t_X5_play_1 σ x1_ x2_ y0_)) rfl Kq_35 (by decide) rfl rfl rfl ?_
    refine rt_lna rfl rfl ?_
    refine rt_gfi rfl Kq_35 (by decide) rfl rfl ?_
    exact rt_eR rfl
  · refine rt_k1 rfl ck1_m1 ?_
    exact rt_eR rfl
noncomputable def r_X5_play (σ : sg_S) (x0 : Int32) (x1 : Int32) : Int32 × sg_S := (if (v_X5_isEvent x0) = 0 then (r_X5_play_a77 (s_X5_goesOn (sg_up σ 35 0 (0 : Int32))) x0 x1 (0 : Int32)) else (if (400 : Int32) ≤ ((s_X5_goesOn (sg_up σ 35 0 (0 : Int32))) 35 6) then (r_X5_play_a77 (s_X5_goesOn (sg_up σ 35 0 (0 : Int32))) x0 x1 (0 : Int32)) else (if ¬ x0 = (100 : Int32) then (if (2 : Int32) ≤ ((s_X5_goesOn (sg_up σ 35 0 (0 : Int32))) 35 23) then (r_X5_play_a77 (s_X5_goesOn (sg_up σ 35 0 (0 : Int32))) x0 x1 (0 : Int32)) else (if ¬ x0 = (99 : Int32) then (r_X5_play_a77 (s_X5_goesOn (sg_up σ 35 0 (0 : Int32))) x0 x1 (1 : Int32)) else (if (v_X5_mayCut (s_X5_goesOn (sg_up σ 35 0 (0 : Int32))) x1) = 0 then (r_X5_play_a77 (s_X5_goesOn (sg_up σ 35 0 (0 : Int32))) x0 x1 (0 : Int32)) else (r_X5_play_a77 (s_X5_goesOn (sg_up σ 35 0 (0 : Int32))) x0 x1 (1 : Int32))))) else (if (v_X5_isEarly (s_X5_goesOn (sg_up σ 35 0 (0 : Int32)))) = 0 then (r_X5_play_a77 (s_X5_goesOn (sg_up σ 35 0 (0 : Int32))) x0 x1 (0 : Int32)) else (if (v_X5_mayDrop (s_X5_goesOn (sg_up σ 35 0 (0 : Int32))) x1) = 0 then (r_X5_play_a77 (s_X5_goesOn (sg_up σ 35 0 (0 : Int32))) x0 x1 (0 : Int32)) else (r_X5_play_a77 (s_X5_goesOn (sg_up σ 35 0 (0 : Int32))) x0 x1 (1 : Int32)))))))
noncomputable def p_X5_play (σ : sg_S) (x0 : Int32) (x1 : Int32) : Prop := (p_X5_goesOn (sg_up σ 35 0 (0 : Int32)) ∧ (((v_X5_isEvent x0) = 0 → (p_X5_play_a77 (s_X5_goesOn (sg_up σ 35 0 (0 : Int32))) x0 x1 (0 : Int32))) ∧ (¬ ((v_X5_isEvent x0) = 0) → (((400 : Int32) ≤ ((s_X5_goesOn (sg_up σ 35 0 (0 : Int32))) 35 6) → (p_X5_play_a77 (s_X5_goesOn (sg_up σ 35 0 (0 : Int32))) x0 x1 (0 : Int32))) ∧ (¬ ((400 : Int32) ≤ ((s_X5_goesOn (sg_up σ 35 0 (0 : Int32))) 35 6)) → ((¬ x0 = (100 : Int32) → (((2 : Int32) ≤ ((s_X5_goesOn (sg_up σ 35 0 (0 : Int32))) 35 23) → (p_X5_play_a77 (s_X5_goesOn (sg_up σ 35 0 (0 : Int32))) x0 x1 (0 : Int32))) ∧ (¬ ((2 : Int32) ≤ ((s_X5_goesOn (sg_up σ 35 0 (0 : Int32))) 35 23)) → ((¬ x0 = (99 : Int32) → (p_X5_play_a77 (s_X5_goesOn (sg_up σ 35 0 (0 : Int32))) x0 x1 (1 : Int32))) ∧ (¬ (¬ x0 = (99 : Int32)) → (p_X5_mayCut (s_X5_goesOn (sg_up σ 35 0 (0 : Int32))) x1 ∧ (((v_X5_mayCut (s_X5_goesOn (sg_up σ 35 0 (0 : Int32))) x1) = 0 → (p_X5_play_a77 (s_X5_goesOn (sg_up σ 35 0 (0 : Int32))) x0 x1 (0 : Int32))) ∧ (¬ ((v_X5_mayCut (s_X5_goesOn (sg_up σ 35 0 (0 : Int32))) x1) = 0) → (p_X5_play_a77 (s_X5_goesOn (sg_up σ 35 0 (0 : Int32))) x0 x1 (1 : Int32)))))))))) ∧ (¬ (¬ x0 = (100 : Int32)) → (((v_X5_isEarly (s_X5_goesOn (sg_up σ 35 0 (0 : Int32)))) = 0 → (p_X5_play_a77 (s_X5_goesOn (sg_up σ 35 0 (0 : Int32))) x0 x1 (0 : Int32))) ∧ (¬ ((v_X5_isEarly (s_X5_goesOn (sg_up σ 35 0 (0 : Int32)))) = 0) → (((v_X5_mayDrop (s_X5_goesOn (sg_up σ 35 0 (0 : Int32))) x1) = 0 → (p_X5_play_a77 (s_X5_goesOn (sg_up σ 35 0 (0 : Int32))) x0 x1 (0 : Int32))) ∧ (¬ ((v_X5_mayDrop (s_X5_goesOn (sg_up σ 35 0 (0 : Int32))) x1) = 0) → (p_X5_play_a77 (s_X5_goesOn (sg_up σ 35 0 (0 : Int32))) x0 x1 (1 : Int32)))))))))))))
theorem m_X5_play {s : List Int32} {σ : sg_S} (x0 : Int32) (x1 : Int32) (hp : p_X5_play σ x0 x1) : Ct s 163 [rf 35, .inl x0, .inl x1] σ [.inl (r_X5_play σ x0 x1).1] (r_X5_play σ x0 x1).2 := by
  refine ct_v (la := [some (rf 35), some (.inl x0), some (.inl x1), none]) Kq_35 rfl rfl rfl rfl rfl rfl rfl (cgR ?_)
  unfold r_X5_play
  unfold p_X5_play at hp
  refine rt_lna rfl rfl ?_
  refine rt_k1 rfl ck1_0 ?_
  refine rt_pf (σ1 := (sg_up σ 35 0 (0 : Int32))) rfl Kq_35 (by decide) rfl rfl rfl ?_
  refine rt_lna rfl rfl ?_
  refine rt_iv (σ1 := (s_X5_goesOn (sg_up σ 35 0 (0 : Int32)))) rfl rfl rfl (m_X5_goesOn hp.1) ?_
  show RtF bk fR s 163 9 [some (rf 35), some (.inl x0), some (.inl x1), none] [] (s_X5_goesOn (sg_up σ 35 0 (0 : Int32))) _
  replace hp := hp.2
  refine rt_ln rfl rfl ?_
  refine rt_is (σ1 := (s_X5_goesOn (sg_up σ 35 0 (0 : Int32)))) rfl rfl rfl (m_X5_isEvent x0) ?_
  show RtF bk fR s 163 13 [some (rf 35), some (.inl x0), some (.inl x1), none] [.inl (v_X5_isEvent x0)] (s_X5_goesOn (sg_up σ 35 0 (0 : Int32))) _
  refine rt_if rfl rfl (fun h => ?_) (fun h => ?_)
  · replace hp := hp.1 h
    refine rt_k1 rfl ck1_0 ?_
    exact m_X5_play_a77 (s_X5_goesOn (sg_up σ 35 0 (0 : Int32))) x0 x1 (0 : Int32) _ hp
  · replace hp := hp.2 h
    refine rt_lna rfl rfl ?_
    refine rt_gfi rfl Kq_35 (by decide) rfl rfl ?_
    refine rt_k3 rfl ck3_400 ?_
    refine rt_ic rfl rfl (fun h => ?_) (fun h => ?_)
    · replace hp := hp.1 h
      refine rt_k1 rfl ck1_0 ?_
      exact m_X5_play_a77 (s_X5_goesOn (sg_up σ 35 0 (0 : Int32))) x0 x1 (0 : Int32) _ hp
    · replace hp := hp.2 h
      refine rt_ln rfl rfl ?_
      refine rt_k2 rfl ck2_100 ?_
      refine rt_ic rfl rfl (fun h => ?_) (fun h => ?_)
      · replace hp := hp.1 h
        refine rt_lna rfl rfl ?_
        refine rt_gfi rfl Kq_35 (by decide) rfl rfl ?_
        refine rt_k1 rfl ck1_2 ?_
        refine rt_ic rfl rfl (fun h => ?_) (fun h => ?_)
        · replace hp := hp.1 h
          refine rt_k1 rfl ck1_0 ?_
          exact m_X5_play_a77 (s_X5_goesOn (sg_up σ 35 0 (0 : Int32))) x0 x1 (0 : Int32) _ hp
        · replace hp := hp.2 h
          refine rt_ln rfl rfl ?_
          refine rt_k2 rfl ck2_99 ?_
          refine rt_ic rfl rfl (fun h => ?_) (fun h => ?_)
          · replace hp := hp.1 h
            refine rt_k1 rfl ck1_1 ?_
            refine rt_go rfl ?_
            exact m_X5_play_a77 (s_X5_goesOn (sg_up σ 35 0 (0 : Int32))) x0 x1 (1 : Int32) _ hp
          · replace hp := hp.2 h
            refine rt_lna rfl rfl ?_
            refine rt_ln rfl rfl ?_
            refine rt_iv (σ1 := (s_X5_goesOn (sg_up σ 35 0 (0 : Int32)))) rfl rfl rfl (m_X5_mayCut x1 hp.1) ?_
            show RtF bk fR s 163 69 [some (rf 35), some (.inl x0), some (.inl x1), none] [.inl (v_X5_mayCut (s_X5_goesOn (sg_up σ 35 0 (0 : Int32))) x1)] (s_X5_goesOn (sg_up σ 35 0 (0 : Int32))) _
            replace hp := hp.2
            refine rt_if rfl rfl (fun h => ?_) (fun h => ?_)
            · replace hp := hp.1 h
              refine rt_k1 rfl ck1_0 ?_
              exact m_X5_play_a77 (s_X5_goesOn (sg_up σ 35 0 (0 : Int32))) x0 x1 (0 : Int32) _ hp
            · replace hp := hp.2 h
              refine rt_k1 rfl ck1_1 ?_
              refine rt_go rfl ?_
              exact m_X5_play_a77 (s_X5_goesOn (sg_up σ 35 0 (0 : Int32))) x0 x1 (1 : Int32) _ hp
      · replace hp := hp.2 h
        refine rt_lna rfl rfl ?_
        refine rt_iv (σ1 := (s_X5_goesOn (sg_up σ 35 0 (0 : Int32)))) rfl rfl rfl (m_X5_isEarly) ?_
        show RtF bk fR s 163 36 [some (rf 35), some (.inl x0), some (.inl x1), none] [.inl (v_X5_isEarly (s_X5_goesOn (sg_up σ 35 0 (0 : Int32))))] (s_X5_goesOn (sg_up σ 35 0 (0 : Int32))) _
        refine rt_if rfl rfl (fun h => ?_) (fun h => ?_)
        · replace hp := hp.1 h
          refine rt_k1 rfl ck1_0 ?_
          exact m_X5_play_a77 (s_X5_goesOn (sg_up σ 35 0 (0 : Int32))) x0 x1 (0 : Int32) _ hp
        · replace hp := hp.2 h
          refine rt_lna rfl rfl ?_
          refine rt_ln rfl rfl ?_
          refine rt_iv (σ1 := (s_X5_goesOn (sg_up σ 35 0 (0 : Int32)))) rfl rfl rfl (m_X5_mayDrop x1) ?_
          show RtF bk fR s 163 44 [some (rf 35), some (.inl x0), some (.inl x1), none] [.inl (v_X5_mayDrop (s_X5_goesOn (sg_up σ 35 0 (0 : Int32))) x1)] (s_X5_goesOn (sg_up σ 35 0 (0 : Int32))) _
          refine rt_if rfl rfl (fun h => ?_) (fun h => ?_)
          · replace hp := hp.1 h
            refine rt_k1 rfl ck1_0 ?_
            exact m_X5_play_a77 (s_X5_goesOn (sg_up σ 35 0 (0 : Int32))) x0 x1 (0 : Int32) _ hp
          · replace hp := hp.2 h
            refine rt_go rfl ?_
            refine rt_k1 rfl ck1_1 ?_
            refine rt_go rfl ?_
            exact m_X5_play_a77 (s_X5_goesOn (sg_up σ 35 0 (0 : Int32))) x0 x1 (1 : Int32) _ hp
noncomputable def t_X5_back_0 (σ : sg_S) : sg_S := (sg_up (sg_up σ 35 0 (0 : Int32)) 35 6 (((sg_up σ 35 0 (0 : Int32)) 35 6) - (1 : Int32)))
noncomputable def r_X5_back (σ : sg_S) : Int32 × sg_S := (if ¬ ((sg_up σ 35 0 (0 : Int32)) 35 6) = 0 then (((t_X5_back_0 σ) 35 6), (t_X5_back_0 σ)) else ((-1 : Int32), (sg_up σ 35 0 (0 : Int32))))
theorem m_X5_back {s : List Int32} {σ : sg_S} : Ct s 164 [rf 35] σ [.inl (r_X5_back σ).1] (r_X5_back σ).2 := by
  refine ct_v (la := [some (rf 35)]) Kq_35 rfl rfl rfl rfl rfl rfl rfl (cgR ?_)
  unfold r_X5_back
  refine rt_lna rfl rfl ?_
  refine rt_k1 rfl ck1_0 ?_
  refine rt_pf (σ1 := (sg_up σ 35 0 (0 : Int32))) rfl Kq_35 (by decide) rfl rfl rfl ?_
  refine rt_lna rfl rfl ?_
  refine rt_gfi rfl Kq_35 (by decide) rfl rfl ?_
  refine rt_if rfl rfl (fun h => ?_) (fun h => ?_)
  · refine rt_lna rfl rfl ?_
    refine rt_dup rfl rfl ?_
    refine rt_gfi rfl Kq_35 (by decide) rfl rfl ?_
    refine rt_k1 rfl ck1_1 ?_
    refine rt_sub rfl ?_
    refine rt_pf (σ1 := (t_X5_back_0 σ)) rfl Kq_35 (by decide) rfl rfl rfl ?_
    refine rt_lna rfl rfl ?_
    refine rt_gfi rfl Kq_35 (by decide) rfl rfl ?_
    exact rt_eR rfl
  · refine rt_k1 rfl ck1_m1 ?_
    exact rt_eR rfl
noncomputable def t_X5_clear_0 (σ : sg_S) : sg_S := (sg_up (sg_up σ 35 0 (0 : Int32)) 35 6 (0 : Int32))
noncomputable def r_X5_clear (σ : sg_S) : Int32 × sg_S := (((sg_up σ 35 0 (0 : Int32)) 35 6), (t_X5_clear_0 σ))
theorem m_X5_clear {s : List Int32} {σ : sg_S} : Ct s 165 [rf 35] σ [.inl (r_X5_clear σ).1] (r_X5_clear σ).2 := by
  refine ct_v (la := [some (rf 35), none]) Kq_35 rfl rfl rfl rfl rfl rfl rfl (cgR ?_)
  unfold r_X5_clear
  refine rt_lna rfl rfl ?_
  refine rt_k1 rfl ck1_0 ?_
  refine rt_pf (σ1 := (sg_up σ 35 0 (0 : Int32))) rfl Kq_35 (by decide) rfl rfl rfl ?_
  refine rt_lna rfl rfl ?_
  refine rt_gfi rfl Kq_35 (by decide) rfl rfl ?_
  refine rt_sn (la1 := [some (rf 35), some (.inl ((sg_up σ 35 0 (0 : Int32)) 35 6))]) rfl rfl rfl ?_
  refine rt_lna rfl rfl ?_
  refine rt_k1 rfl ck1_0 ?_
  refine rt_pf (σ1 := (t_X5_clear_0 σ)) rfl Kq_35 (by decide) rfl rfl rfl ?_
  refine rt_ln rfl rfl ?_
  exact rt_eR rfl
noncomputable def r_X5_count (σ : sg_S) (x0 : Int32) : Int32 × sg_S := (if (v_X5_in x0 (10 : Int32) (14 : Int32)) = 0 then (if x0 = 0 then (((s_X5_goesOn (sg_up σ 35 0 (0 : Int32))) 35 6), (s_X5_goesOn (sg_up σ 35 0 (0 : Int32)))) else (if x0 = 1 then (((s_X5_goesOn (sg_up σ 35 0 (0 : Int32))) 35 23), (s_X5_goesOn (sg_up σ 35 0 (0 : Int32)))) else (if x0 = 2 then (((s_X5_goesOn (sg_up σ 35 0 (0 : Int32))) 35 26), (s_X5_goesOn (sg_up σ 35 0 (0 : Int32)))) else (if x0 = 3 then ((v_X5_full (s_X5_goesOn (sg_up σ 35 0 (0 : Int32)))), (s_X5_goesOn (sg_up σ 35 0 (0 : Int32)))) else ((-1 : Int32), (s_X5_goesOn (sg_up σ 35 0 (0 : Int32)))))))) else (((s_X5_goesOn (sg_up σ 35 0 (0 : Int32))) 36 (ni (x0 - (10 : Int32)))), (s_X5_goesOn (sg_up σ 35 0 (0 : Int32)))))
noncomputable def p_X5_count (σ : sg_S) (x0 : Int32) : Prop := (p_X5_goesOn (sg_up σ 35 0 (0 : Int32)) ∧ (¬ ((v_X5_in x0 (10 : Int32) (14 : Int32)) = 0) → ix (x0 - (10 : Int32)) 5))
theorem m_X5_count {s : List Int32} {σ : sg_S} (x0 : Int32) (hp : p_X5_count σ x0) : Ct s 166 [rf 35, .inl x0] σ [.inl (r_X5_count σ x0).1] (r_X5_count σ x0).2 := by
  refine ct_v (la := [some (rf 35), some (.inl x0)]) Kq_35 rfl rfl rfl rfl rfl rfl rfl (cgR ?_)
  unfold r_X5_count
  unfold p_X5_count at hp
  refine rt_lna rfl rfl ?_
  refine rt_k1 rfl ck1_0 ?_
  refine rt_pf (σ1 := (sg_up σ 35 0 (0 : Int32))) rfl Kq_35 (by decide) rfl rfl rfl ?_
  refine rt_lna rfl rfl ?_
  refine rt_iv (σ1 := (s_X5_goesOn (sg_up σ 35 0 (0 : Int32)))) rfl rfl rfl (m_X5_goesOn hp.1) ?_
  show RtF bk fR s 166 9 [some (rf 35), some (.inl x0)] [] (s_X5_goesOn (sg_up σ 35 0 (0 : Int32))) _
  replace hp := hp.2
  refine rt_ln rfl rfl ?_
  refine rt_k2 rfl ck2_10 ?_
  refine rt_k2 rfl ck2_14 ?_
  refine rt_is (σ1 := (s_X5_goesOn (sg_up σ 35 0 (0 : Int32)))) rfl rfl rfl (m_X5_in x0 (10 : Int32) (14 : Int32)) ?_
  show RtF bk fR s 166 17 [some (rf 35), some (.inl x0)] [.inl (v_X5_in x0 (10 : Int32) (14 : Int32))] (s_X5_goesOn (sg_up σ 35 0 (0 : Int32))) _
  refine rt_if rfl rfl (fun h => ?_) (fun h => ?_)
  · refine rt_ln rfl rfl ?_
    refine rt_ite (fun h => ?_) (fun h => ?_)
    · refine rt_eq h ?_
      refine rt_step rfl rfl rfl ?_
      refine rt_lna rfl rfl ?_
      refine rt_gfi rfl Kq_35 (by decide) rfl rfl ?_
      exact rt_eR rfl
    · have e0 := h
      refine rt_ite (fun h => ?_) (fun h => ?_)
      · refine rt_eq h ?_
        refine rt_step rfl rfl rfl ?_
        refine rt_lna rfl rfl ?_
        refine rt_gfi rfl Kq_35 (by decide) rfl rfl ?_
        exact rt_eR rfl
      · have e1 := h
        refine rt_ite (fun h => ?_) (fun h => ?_)
        · refine rt_eq h ?_
          refine rt_step rfl rfl rfl ?_
          refine rt_lna rfl rfl ?_
          refine rt_gfi rfl Kq_35 (by decide) rfl rfl ?_
          exact rt_eR rfl
        · have e2 := h
          refine rt_ite (fun h => ?_) (fun h => ?_)
          · refine rt_eq h ?_
            refine rt_step rfl rfl rfl ?_
            refine rt_lna rfl rfl ?_
            refine rt_iv (σ1 := (s_X5_goesOn (sg_up σ 35 0 (0 : Int32)))) rfl rfl rfl (m_X5_full) ?_
            show RtF bk fR s 166 79 [some (rf 35), some (.inl x0)] [.inl (v_X5_full (s_X5_goesOn (sg_up σ 35 0 (0 : Int32))))] (s_X5_goesOn (sg_up σ 35 0 (0 : Int32))) _
            exact rt_eR rfl
          · have e3 := h
            refine rt_tsd (pc1 := 80) rfl (ts_out (n := 4) (by decide) (fun k hk => match k, hk with | 0, _ => e0 | 1, _ => e1 | 2, _ => e2 | 3, _ => e3 | k + 4, hk => absurd hk (by omega))) rfl ?_
            refine rt_k1 rfl ck1_m1 ?_
            exact rt_eR rfl
  · replace hp := hp h
    refine rt_lna rfl rfl ?_
    refine rt_gfr rfl Kq_35 (by decide) rfl ?_
    refine rt_ln rfl rfl ?_
    refine rt_k2 rfl ck2_10 ?_
    refine rt_sub rfl ?_
    refine rt_al rfl Kq_36 hp rfl ?_
    exact rt_eR rfl
noncomputable def v_X5_isInnings (x0 : Int32) : Int32 := (v_X5_in x0 (0 : Int32) (1 : Int32))
theorem m_X5_isInnings {s : List Int32} {σ : sg_S} (x0 : Int32) : Ct s 167 [.inl x0] σ [.inl (v_X5_isInnings x0)] σ := by
  refine ct_s (la := [some (.inl x0)]) rfl rfl rfl rfl rfl (cgV ?_)
  unfold v_X5_isInnings
  refine rt_ln rfl rfl ?_
  refine rt_k1 rfl ck1_0 ?_
  refine rt_k1 rfl ck1_1 ?_
  refine rt_is (σ1 := σ) rfl rfl rfl (m_X5_in x0 (0 : Int32) (1 : Int32)) ?_
  show RtF bk (fV σ) s 167 6 [some (.inl x0)] [.inl (v_X5_in x0 (0 : Int32) (1 : Int32))] σ _
  exact rt_eVb rfl bt_in
noncomputable def r_X5_innings_a23 (σ : sg_S) (x1_ : Int32) (x2_ : Int32) (y1_ : Int32) : Int32 × sg_S := (if ((sg_up σ 35 0 y1_) 35 0) ≤ 0 then (if x2_ = 0 then (((s_X5_goesOn (sg_up σ 35 0 y1_)) 41 (ni x1_)), (s_X5_goesOn (sg_up σ 35 0 y1_))) else (if x2_ = 1 then (((s_X5_goesOn (sg_up σ 35 0 y1_)) 42 (ni x1_)), (s_X5_goesOn (sg_up σ 35 0 y1_))) else (if x2_ = 2 then (((s_X5_goesOn (sg_up σ 35 0 y1_)) 43 (ni x1_)), (s_X5_goesOn (sg_up σ 35 0 y1_))) else (if x2_ = 3 then (((s_X5_goesOn (sg_up σ 35 0 y1_)) 44 (ni x1_)), (s_X5_goesOn (sg_up σ 35 0 y1_))) else (if x2_ = 4 then (((s_X5_goesOn (sg_up σ 35 0 y1_)) 45 (ni x1_)), (s_X5_goesOn (sg_up σ 35 0 y1_))) else (if x2_ = 5 then (((s_X5_goesOn (sg_up σ 35 0 y1_)) 49 (ni x1_)), (s_X5_goesOn (sg_up σ 35 0 y1_))) else (if x2_ = 6 then (if ((s_X5_goesOn (sg_up σ 35 0 y1_)) 47 (ni x1_)) = 0 then ((0 : Int32), (s_X5_goesOn (sg_up σ 35 0 y1_))) else ((1 : Int32), (s_X5_goesOn (sg_up σ 35 0 y1_)))) else (if x2_ = 7 then (((s_X5_goesOn (sg_up σ 35 0 y1_)) 48 (ni x1_)), (s_X5_goesOn (sg_up σ 35 0 y1_))) else (if ((s_X5_goesOn (sg_up σ 35 0 y1_)) 35 23) ≤ x1_ then ((v_X5_left (s_X5_goesOn (sg_up σ 35 0 y1_)) x1_), (s_X5_goesOn (sg_up σ 35 0 y1_))) else ((0 : Int32), (s_X5_goesOn (sg_up σ 35 0 y1_)))))))))))) else ((0 : Int32), (sg_up σ 35 0 y1_)))
noncomputable def p_X5_innings_a23 (σ : sg_S) (x1_ : Int32) (x2_ : Int32) (y1_ : Int32) : Prop := (((sg_up σ 35 0 y1_) 35 0) ≤ 0 → (p_X5_goesOn (sg_up σ 35 0 y1_) ∧ ((x2_ = 0 → ix x1_ 2) ∧ (¬ (x2_ = 0) → ((x2_ = 1 → ix x1_ 2) ∧ (¬ (x2_ = 1) → ((x2_ = 2 → ix x1_ 2) ∧ (¬ (x2_ = 2) → ((x2_ = 3 → ix x1_ 2) ∧ (¬ (x2_ = 3) → ((x2_ = 4 → ix x1_ 2) ∧ (¬ (x2_ = 4) → ((x2_ = 5 → ix x1_ 2) ∧ (¬ (x2_ = 5) → ((x2_ = 6 → ix x1_ 2) ∧ (¬ (x2_ = 6) → ((x2_ = 7 → ix x1_ 2) ∧ (¬ (x2_ = 7) → (((s_X5_goesOn (sg_up σ 35 0 y1_)) 35 23) ≤ x1_ → p_X5_left x1_)))))))))))))))))))
theorem m_X5_innings_a23 {s : List Int32} (σ : sg_S) (x1_ : Int32) (x2_ : Int32) (y1_ : Int32) (hp : p_X5_innings_a23 σ x1_ x2_ y1_) : RtF bk fR s 168 23 [some (rf 35), some (.inl x1_), some (.inl x2_)] [.inl y1_, rf 35] σ (r_X5_innings_a23 σ x1_ x2_ y1_) := by
  unfold r_X5_innings_a23
  unfold p_X5_innings_a23 at hp
  refine rt_pf (σ1 := (sg_up σ 35 0 y1_)) rfl Kq_35 (by decide) rfl rfl rfl ?_
  refine rt_lna rfl rfl ?_
  refine rt_gfi rfl Kq_35 (by decide) rfl rfl ?_
  refine rt_if rfl rfl (fun h => ?_) (fun h => ?_)
  · replace hp := hp h
    refine rt_lna rfl rfl ?_
    refine rt_iv (σ1 := (s_X5_goesOn (sg_up σ 35 0 y1_))) rfl rfl rfl (m_X5_goesOn hp.1) ?_
    show RtF bk fR s 168 39 [some (rf 35), some (.inl x1_), some (.inl x2_)] [] (s_X5_goesOn (sg_up σ 35 0 y1_)) _
    replace hp := hp.2
    refine rt_ln rfl rfl ?_
    refine rt_ite (fun h => ?_) (fun h => ?_)
    · replace hp := hp.1 h
      refine rt_eq h ?_
      refine rt_step rfl rfl rfl ?_
      refine rt_lna rfl rfl ?_
      refine rt_gfr rfl Kq_35 (by decide) rfl ?_
      refine rt_ln rfl rfl ?_
      refine rt_al rfl Kq_41 hp rfl ?_
      exact rt_eR rfl
    · have e0 := h
      replace hp := hp.2 h
      refine rt_ite (fun h => ?_) (fun h => ?_)
      · replace hp := hp.1 h
        refine rt_eq h ?_
        refine rt_step rfl rfl rfl ?_
        refine rt_lna rfl rfl ?_
        refine rt_gfr rfl Kq_35 (by decide) rfl ?_
        refine rt_ln rfl rfl ?_
        refine rt_al rfl Kq_42 hp rfl ?_
        exact rt_eR rfl
      · have e1 := h
        replace hp := hp.2 h
        refine rt_ite (fun h => ?_) (fun h => ?_)
        · replace hp := hp.1 h
          refine rt_eq h ?_
          refine rt_step rfl rfl rfl ?_
          refine rt_lna rfl rfl ?_
          refine rt_gfr rfl Kq_35 (by decide) rfl ?_
          refine rt_ln rfl rfl ?_
          refine rt_al rfl Kq_43 hp rfl ?_
          exact rt_eR rfl
        · have e2 := h
          replace hp := hp.2 h
          refine rt_ite (fun h => ?_) (fun h => ?_)
          · replace hp := hp.1 h
            refine rt_eq h ?_
            refine rt_step rfl rfl rfl ?_
            refine rt_lna rfl rfl ?_
            refine rt_gfr rfl Kq_35 (by decide) rfl ?_
            refine rt_ln rfl rfl ?_
            refine rt_al rfl Kq_44 hp rfl ?_
            exact rt_eR rfl
          · have e3 := h
            replace hp := hp.2 h
            refine rt_ite (fun h => ?_) (fun h => ?_)
            · replace hp := hp.1 h
              refine rt_eq h ?_
              refine rt_step rfl rfl rfl ?_
              refine rt_lna rfl rfl ?_
              refine rt_gfr rfl Kq_35 (by decide) rfl ?_
              refine rt_ln rfl rfl ?_
              refine rt_al rfl Kq_45 hp rfl ?_
              exact rt_eR rfl
            · have e4 := h
              replace hp := hp.2 h
              refine rt_ite (fun h => ?_) (fun h => ?_)
              · replace hp := hp.1 h
                refine rt_eq h ?_
                refine rt_step rfl rfl rfl ?_
                refine rt_lna rfl rfl ?_
                refine rt_gfr rfl Kq_35 (by decide) rfl ?_
                refine rt_ln rfl rfl ?_
                refine rt_al rfl Kq_49 hp rfl ?_
                exact rt_eR rfl
              · have e5 := h
                replace hp := hp.2 h
                refine rt_ite (fun h => ?_) (fun h => ?_)
                · replace hp := hp.1 h
                  refine rt_eq h ?_
                  refine rt_step rfl rfl rfl ?_
                  refine rt_lna rfl rfl ?_
                  refine rt_gfr rfl Kq_35 (by decide) rfl ?_
                  refine rt_ln rfl rfl ?_
                  refine rt_zl rfl Kq_47 hp rfl ?_
                  refine rt_if rfl rfl (fun h => ?_) (fun h => ?_)
                  · refine rt_k1 rfl ck1_0 ?_
                    exact rt_eR rfl
                  · refine rt_k1 rfl ck1_1 ?_
                    refine rt_go rfl ?_
                    exact rt_eR rfl
                · have e6 := h
                  replace hp := hp.2 h
                  refine rt_ite (fun h => ?_) (fun h => ?_)
                  · replace hp := hp.1 h
                    refine rt_eq h ?_
                    refine rt_step rfl rfl rfl ?_
                    refine rt_lna rfl rfl ?_
                    refine rt_gfr rfl Kq_35 (by decide) rfl ?_
                    refine rt_ln rfl rfl ?_
                    refine rt_al rfl Kq_48 hp rfl ?_
                    exact rt_eR rfl
                  · have e7 := h
                    replace hp := hp.2 h
                    refine rt_tsd (pc1 := 152) rfl (ts_out (n := 8) (by decide) (fun k hk => match k, hk with | 0, _ => e0 | 1, _ => e1 | 2, _ => e2 | 3, _ => e3 | 4, _ => e4 | 5, _ => e5 | 6, _ => e6 | 7, _ => e7 | k + 8, hk => absurd hk (by omega))) rfl ?_
                    refine rt_lna rfl rfl ?_
                    refine rt_gfi rfl Kq_35 (by decide) rfl rfl ?_
                    refine rt_ln rfl rfl ?_
                    refine rt_ic rfl rfl (fun h => ?_) (fun h => ?_)
                    · replace hp := hp h
                      refine rt_lna rfl rfl ?_
                      refine rt_ln rfl rfl ?_
                      refine rt_iv (σ1 := (s_X5_goesOn (sg_up σ 35 0 y1_))) rfl rfl rfl (m_X5_left x1_ hp) ?_
                      show RtF bk fR s 168 169 [some (rf 35), some (.inl x1_), some (.inl x2_)] [.inl (v_X5_left (s_X5_goesOn (sg_up σ 35 0 y1_)) x1_)] (s_X5_goesOn (sg_up σ 35 0 y1_)) _
                      exact rt_eR rfl
                    · refine rt_k1 rfl ck1_0 ?_
                      refine rt_go rfl ?_
                      exact rt_eR rfl
  · refine rt_k1 rfl ck1_0 ?_
    exact rt_eR rfl
noncomputable def r_X5_innings (σ : sg_S) (x0 : Int32) (x1 : Int32) : Int32 × sg_S := (if (v_X5_isInnings x0) = 0 then (r_X5_innings_a23 σ x0 x1 (1 : Int32)) else (if (v_X5_in x1 (0 : Int32) (8 : Int32)) = 0 then (r_X5_innings_a23 σ x0 x1 (1 : Int32)) else (r_X5_innings_a23 σ x0 x1 (0 : Int32))))
noncomputable def p_X5_innings (σ : sg_S) (x0 : Int32) (x1 : Int32) : Prop := (((v_X5_isInnings x0) = 0 → (p_X5_innings_a23 σ x0 x1 (1 : Int32))) ∧ (¬ ((v_X5_isInnings x0) = 0) → (((v_X5_in x1 (0 : Int32) (8 : Int32)) = 0 → (p_X5_innings_a23 σ x0 x1 (1 : Int32))) ∧ (¬ ((v_X5_in x1 (0 : Int32) (8 : Int32)) = 0) → (p_X5_innings_a23 σ x0 x1 (0 : Int32))))))
theorem m_X5_innings {s : List Int32} {σ : sg_S} (x0 : Int32) (x1 : Int32) (hp : p_X5_innings σ x0 x1) : Ct s 168 [rf 35, .inl x0, .inl x1] σ [.inl (r_X5_innings σ x0 x1).1] (r_X5_innings σ x0 x1).2 := by
  refine ct_v (la := [some (rf 35), some (.inl x0), some (.inl x1)]) Kq_35 rfl rfl rfl rfl rfl rfl rfl (cgR ?_)
  unfold r_X5_innings
  unfold p_X5_innings at hp
  refine rt_lna rfl rfl ?_
  refine rt_ln rfl rfl ?_
  refine rt_is (σ1 := σ) rfl rfl rfl (m_X5_isInnings x0) ?_
  show RtF bk fR s 168 5 [some (rf 35), some (.inl x0), some (.inl x1)] [.inl (v_X5_isInnings x0), rf 35] σ _
  refine rt_if rfl rfl (fun h => ?_) (fun h => ?_)
  · replace hp := hp.1 h
    refine rt_k1 rfl ck1_1 ?_
    exact m_X5_innings_a23 σ x0 x1 (1 : Int32) hp
  · replace hp := hp.2 h
    refine rt_ln rfl rfl ?_
    refine rt_k1 rfl ck1_0 ?_
    refine rt_k2 rfl ck2_8 ?_
    refine rt_is (σ1 := σ) rfl rfl rfl (m_X5_in x1 (0 : Int32) (8 : Int32)) ?_
    show RtF bk fR s 168 15 [some (rf 35), some (.inl x0), some (.inl x1)] [.inl (v_X5_in x1 (0 : Int32) (8 : Int32)), rf 35] σ _
    refine rt_if rfl rfl (fun h => ?_) (fun h => ?_)
    · replace hp := hp.1 h
      refine rt_k1 rfl ck1_1 ?_
      exact m_X5_innings_a23 σ x0 x1 (1 : Int32) hp
    · replace hp := hp.2 h
      refine rt_k1 rfl ck1_0 ?_
      refine rt_go rfl ?_
      exact m_X5_innings_a23 σ x0 x1 (0 : Int32) hp
noncomputable def r_X5_cut_a53 (σ : sg_S) (x1_ : Int32) (x2_ : Int32) (x3_ : Int32) (y1_ : Int32) : Int32 × sg_S := (if ((sg_up σ 35 0 y1_) 35 0) ≤ 0 then (((sg_up σ 35 0 y1_) 50 (ni ((((100 : Int32) * x1_) + ((5 : Int32) * x2_)) + x3_))), (sg_up σ 35 0 y1_)) else ((0 : Int32), (sg_up σ 35 0 y1_)))
noncomputable def p_X5_cut_a53 (σ : sg_S) (x1_ : Int32) (x2_ : Int32) (x3_ : Int32) (y1_ : Int32) : Prop := (((sg_up σ 35 0 y1_) 35 0) ≤ 0 → ix ((((100 : Int32) * x1_) + ((5 : Int32) * x2_)) + x3_) 200)
theorem m_X5_cut_a53 {s : List Int32} (σ : sg_S) (x1_ : Int32) (x2_ : Int32) (x3_ : Int32) (y1_ : Int32) (hp : p_X5_cut_a53 σ x1_ x2_ x3_ y1_) : RtF bk fR s 169 53 [some (rf 35), some (.inl x1_), some (.inl x2_), some (.inl x3_)] [.inl y1_, rf 35] σ (r_X5_cut_a53 σ x1_ x2_ x3_ y1_) := by
  unfold r_X5_cut_a53
  unfold p_X5_cut_a53 at hp
  refine rt_pf (σ1 := (sg_up σ 35 0 y1_)) rfl Kq_35 (by decide) rfl rfl rfl ?_
  refine rt_lna rfl rfl ?_
  refine rt_gfi rfl Kq_35 (by decide) rfl rfl ?_
  refine rt_if rfl rfl (fun h => ?_) (fun h => ?_)
  · replace hp := hp h
    refine rt_lna rfl rfl ?_
    refine rt_gfr rfl Kq_35 (by decide) rfl ?_
    refine rt_k2 rfl ck2_100 ?_
    refine rt_ln rfl rfl ?_
    refine rt_mul rfl ?_
    refine rt_k1 rfl ck1_5 ?_
    refine rt_ln rfl rfl ?_
    refine rt_mul rfl ?_
    refine rt_add rfl ?_
    refine rt_ln rfl rfl ?_
    refine rt_add rfl ?_
    refine rt_al rfl Kq_50 hp rfl ?_
    exact rt_eR rfl
  · refine rt_k1 rfl ck1_0 ?_
    refine rt_go rfl ?_
    exact rt_eR rfl
noncomputable def r_X5_cut_a30 (σ : sg_S) (x1_ : Int32) (x2_ : Int32) (x3_ : Int32) (y1_ : Int32) (y2_ : Int32) (y4_ : Int32) : Int32 × sg_S := (if (v_X5_in y1_ y2_ ((σ 49 (ni y4_)) - (1 : Int32))) = 0 then (r_X5_cut_a53 σ x1_ x2_ x3_ (1 : Int32)) else (if (v_X5_in x3_ (0 : Int32) (4 : Int32)) = 0 then (r_X5_cut_a53 σ x1_ x2_ x3_ (1 : Int32)) else (r_X5_cut_a53 σ x1_ x2_ x3_ (0 : Int32))))
noncomputable def p_X5_cut_a30 (σ : sg_S) (x1_ : Int32) (x2_ : Int32) (x3_ : Int32) (y1_ : Int32) (y2_ : Int32) (y4_ : Int32) : Prop := (ix y4_ 2 ∧ (((v_X5_in y1_ y2_ ((σ 49 (ni y4_)) - (1 : Int32))) = 0 → (p_X5_cut_a53 σ x1_ x2_ x3_ (1 : Int32))) ∧ (¬ ((v_X5_in y1_ y2_ ((σ 49 (ni y4_)) - (1 : Int32))) = 0) → (((v_X5_in x3_ (0 : Int32) (4 : Int32)) = 0 → (p_X5_cut_a53 σ x1_ x2_ x3_ (1 : Int32))) ∧ (¬ ((v_X5_in x3_ (0 : Int32) (4 : Int32)) = 0) → (p_X5_cut_a53 σ x1_ x2_ x3_ (0 : Int32)))))))
theorem m_X5_cut_a30 {s : List Int32} (σ : sg_S) (x1_ : Int32) (x2_ : Int32) (x3_ : Int32) (y1_ : Int32) (y2_ : Int32) (y4_ : Int32) (hp : p_X5_cut_a30 σ x1_ x2_ x3_ y1_ y2_ y4_) : RtF bk fR s 169 30 [some (rf 35), some (.inl x1_), some (.inl x2_), some (.inl x3_)] [.inl y4_, rf 49, .inl y2_, .inl y1_, rf 35] σ (r_X5_cut_a30 σ x1_ x2_ x3_ y1_ y2_ y4_) := by
  unfold r_X5_cut_a30
  unfold p_X5_cut_a30 at hp
  refine rt_al rfl Kq_49 hp.1 rfl ?_
  replace hp := hp.2
  refine rt_k1 rfl ck1_1 ?_
  refine rt_sub rfl ?_
  refine rt_is (σ1 := σ) rfl rfl rfl (m_X5_in y1_ y2_ ((σ 49 (ni y4_)) - (1 : Int32))) ?_
  show RtF bk fR s 169 36 [some (rf 35), some (.inl x1_), some (.inl x2_), some (.inl x3_)] [.inl (v_X5_in y1_ y2_ ((σ 49 (ni y4_)) - (1 : Int32))), rf 35] σ _
  refine rt_if rfl rfl (fun h => ?_) (fun h => ?_)
  · replace hp := hp.1 h
    refine rt_k1 rfl ck1_1 ?_
    exact m_X5_cut_a53 σ x1_ x2_ x3_ (1 : Int32) hp
  · replace hp := hp.2 h
    refine rt_ln rfl rfl ?_
    refine rt_k1 rfl ck1_0 ?_
    refine rt_k1 rfl ck1_4 ?_
    refine rt_is (σ1 := σ) rfl rfl rfl (m_X5_in x3_ (0 : Int32) (4 : Int32)) ?_
    show RtF bk fR s 169 45 [some (rf 35), some (.inl x1_), some (.inl x2_), some (.inl x3_)] [.inl (v_X5_in x3_ (0 : Int32) (4 : Int32)), rf 35] σ _
    refine rt_if rfl rfl (fun h => ?_) (fun h => ?_)
    · replace hp := hp.1 h
      refine rt_k1 rfl ck1_1 ?_
      exact m_X5_cut_a53 σ x1_ x2_ x3_ (1 : Int32) hp
    · replace hp := hp.2 h
      refine rt_k1 rfl ck1_0 ?_
      refine rt_go rfl ?_
      exact m_X5_cut_a53 σ x1_ x2_ x3_ (0 : Int32) hp
noncomputable def r_X5_cut (σ : sg_S) (x0 : Int32) (x1 : Int32) (x2 : Int32) : Int32 × sg_S := (if (v_X5_isInnings x0) = 0 then (r_X5_cut_a53 (s_X5_goesOn σ) x0 x1 x2 (1 : Int32)) else (if (v_X5_isInnings x0) = 0 then (r_X5_cut_a30 (s_X5_goesOn σ) x0 x1 x2 x1 (0 : Int32) (0 : Int32)) else (r_X5_cut_a30 (s_X5_goesOn σ) x0 x1 x2 x1 (0 : Int32) x0)))
noncomputable def p_X5_cut (σ : sg_S) (x0 : Int32) (x1 : Int32) (x2 : Int32) : Prop := (p_X5_goesOn σ ∧ (((v_X5_isInnings x0) = 0 → (p_X5_cut_a53 (s_X5_goesOn σ) x0 x1 x2 (1 : Int32))) ∧ (¬ ((v_X5_isInnings x0) = 0) → (((v_X5_isInnings x0) = 0 → (p_X5_cut_a30 (s_X5_goesOn σ) x0 x1 x2 x1 (0 : Int32) (0 : Int32))) ∧ (¬ ((v_X5_isInnings x0) = 0) → (p_X5_cut_a30 (s_X5_goesOn σ) x0 x1 x2 x1 (0 : Int32) x0))))))
theorem m_X5_cut {s : List Int32} {σ : sg_S} (x0 : Int32) (x1 : Int32) (x2 : Int32) (hp : p_X5_cut σ x0 x1 x2) : Ct s 169 [rf 35, .inl x0, .inl x1, .inl x2] σ [.inl (r_X5_cut σ x0 x1 x2).1] (r_X5_cut σ x0 x1 x2).2 := by
  refine ct_v (la := [some (rf 35), some (.inl x0), some (.inl x1), some (.inl x2)]) Kq_35 rfl rfl rfl rfl rfl rfl rfl (cgR ?_)
  unfold r_X5_cut
  unfold p_X5_cut at hp
  refine rt_lna rfl rfl ?_
  refine rt_iv (σ1 := (s_X5_goesOn σ)) rfl rfl rfl (m_X5_goesOn hp.1) ?_
  show RtF bk fR s 169 4 [some (rf 35), some (.inl x0), some (.inl x1), some (.inl x2)] [] (s_X5_goesOn σ) _
  replace hp := hp.2
  refine rt_lna rfl rfl ?_
  refine rt_ln rfl rfl ?_
  refine rt_is (σ1 := (s_X5_goesOn σ)) rfl rfl rfl (m_X5_isInnings x0) ?_
  show RtF bk fR s 169 9 [some (rf 35), some (.inl x0), some (.inl x1), some (.inl x2)] [.inl (v_X5_isInnings x0), rf 35] (s_X5_goesOn σ) _
  refine rt_if rfl rfl (fun h => ?_) (fun h => ?_)
  · replace hp := hp.1 h
    refine rt_k1 rfl ck1_1 ?_
    exact m_X5_cut_a53 (s_X5_goesOn σ) x0 x1 x2 (1 : Int32) hp
  · replace hp := hp.2 h
    refine rt_ln rfl rfl ?_
    refine rt_k1 rfl ck1_0 ?_
    refine rt_lna rfl rfl ?_
    refine rt_gfr rfl Kq_35 (by decide) rfl ?_
    refine rt_ln rfl rfl ?_
    refine rt_is (σ1 := (s_X5_goesOn σ)) rfl rfl rfl (m_X5_isInnings x0) ?_
    show RtF bk fR s 169 22 [some (rf 35), some (.inl x0), some (.inl x1), some (.inl x2)] [.inl (v_X5_isInnings x0), rf 49, .inl (0 : Int32), .inl x1, rf 35] (s_X5_goesOn σ) _
    refine rt_if rfl rfl (fun h => ?_) (fun h => ?_)
    · replace hp := hp.1 h
      refine rt_k1 rfl ck1_0 ?_
      exact m_X5_cut_a30 (s_X5_goesOn σ) x0 x1 x2 x1 (0 : Int32) (0 : Int32) hp
    · replace hp := hp.2 h
      refine rt_ln rfl rfl ?_
      refine rt_go rfl ?_
      exact m_X5_cut_a30 (s_X5_goesOn σ) x0 x1 x2 x1 (0 : Int32) x0 hp
