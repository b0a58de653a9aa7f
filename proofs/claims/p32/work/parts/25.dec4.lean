noncomputable def v_X0_theTarget (σ : sg_S) (c : Nat) : Int32 := (if (v_X0_hasTarget σ c) = 0 then (-1 : Int32) else (v_X0_targetBy σ c (σ (c + 1) 0) (σ (c + 7) 7)))
noncomputable def p_X0_theTarget (σ : sg_S) (c : Nat) : Prop := (¬ ((v_X0_hasTarget σ c) = 0) → p_X0_targetBy σ c (σ (c + 1) 0) (σ (c + 7) 7))
theorem m_X0_theTarget {s : List Int32} {σ : sg_S} (c : Nat) (hc : Kd c 0 5) (hp : p_X0_theTarget σ c) : Ct s 15 [rf c] σ [.inl (v_X0_theTarget σ c)] σ := by
  refine ct_v (la := [some (rf c)]) hc rfl rfl rfl rfl rfl rfl rfl (cgV ?_)
  unfold v_X0_theTarget
  unfold p_X0_theTarget at hp
  refine rt_lna rfl rfl ?_
  refine rt_iv (σ1 := σ) rfl rfl rfl (m_X0_hasTarget c hc) ?_
  show RtF bk (fV σ) s 15 4 [some (rf c)] [.inl (v_X0_hasTarget σ c)] σ _
  refine rt_if rfl rfl (fun h => ?_) (fun h => ?_)
  · refine rt_k1 rfl ck1_m1 ?_
    exact rt_eV rfl
  · replace hp := hp h
    refine rt_lna rfl rfl ?_
    refine rt_lna rfl rfl ?_
    refine rt_gfr rfl hc (by decide) rfl ?_
    refine rt_gfi rfl (K0_1 hc) (by decide) rfl rfl ?_
    refine rt_lna rfl rfl ?_
    refine rt_gfr rfl hc (by decide) rfl ?_
    refine rt_gfi rfl (K0_2 hc) (by decide) rfl rfl ?_
    refine rt_iv (σ1 := σ) rfl rfl rfl (m_X0_targetBy c (σ (c + 1) 0) (σ (c + 7) 7) hc hp) ?_
    show RtF bk (fV σ) s 15 25 [some (rf c)] [.inl (v_X0_targetBy σ c (σ (c + 1) 0) (σ (c + 7) 7))] σ _
    refine rt_go rfl ?_
    exact rt_eV rfl
noncomputable def v_X0_targetIfCut (σ : sg_S) (c : Nat) (x0 : Int32) : Int32 := (v_X0_targetBy σ c (σ (c + 1) 0) ((σ (c + 7) 7) - (v_X0_lossByCut σ c x0)))
noncomputable def p_X0_targetIfCut (σ : sg_S) (c : Nat) (x0 : Int32) : Prop := (p_X0_lossByCut σ c x0 ∧ p_X0_targetBy σ c (σ (c + 1) 0) ((σ (c + 7) 7) - (v_X0_lossByCut σ c x0)))
theorem m_X0_targetIfCut {s : List Int32} {σ : sg_S} (c : Nat) (x0 : Int32) (hc : Kd c 0 5) (hp : p_X0_targetIfCut σ c x0) : Ct s 16 [rf c, .inl x0] σ [.inl (v_X0_targetIfCut σ c x0)] σ := by
  refine ct_v (la := [some (rf c), some (.inl x0)]) hc rfl rfl rfl rfl rfl rfl rfl (cgV ?_)
  unfold v_X0_targetIfCut
  unfold p_X0_targetIfCut at hp
  refine rt_lna rfl rfl ?_
  refine rt_lna rfl rfl ?_
  refine rt_gfr rfl hc (by decide) rfl ?_
  refine rt_gfi rfl (K0_1 hc) (by decide) rfl rfl ?_
  refine rt_lna rfl rfl ?_
  refine rt_gfr rfl hc (by decide) rfl ?_
  refine rt_gfi rfl (K0_2 hc) (by decide) rfl rfl ?_
  refine rt_lna rfl rfl ?_
  refine rt_ln rfl rfl ?_
  refine rt_iv (σ1 := σ) rfl rfl rfl (m_X0_lossByCut c x0 hc hp.1) ?_
  show RtF bk (fV σ) s 16 20 [some (rf c), some (.inl x0)] [.inl (v_X0_lossByCut σ c x0), .inl (σ (c + 7) 7), .inl (σ (c + 1) 0), rf c] σ _
  replace hp := hp.2
  refine rt_sub rfl ?_
  refine rt_iv (σ1 := σ) rfl rfl rfl (m_X0_targetBy c (σ (c + 1) 0) ((σ (c + 7) 7) - (v_X0_lossByCut σ c x0)) hc hp) ?_
  show RtF bk (fV σ) s 16 24 [some (rf c), some (.inl x0)] [.inl (v_X0_targetBy σ c (σ (c + 1) 0) ((σ (c + 7) 7) - (v_X0_lossByCut σ c x0)))] σ _
  exact rt_eV rfl
noncomputable def v_X0_parWithout (σ : sg_S) (c : Nat) (x0 : Int32) : Int32 := ((v_X0_targetBy σ c (σ (c + 1) 0) ((σ (c + 7) 7) - x0)) - (1 : Int32))
noncomputable def p_X0_parWithout (σ : sg_S) (c : Nat) (x0 : Int32) : Prop := p_X0_targetBy σ c (σ (c + 1) 0) ((σ (c + 7) 7) - x0)
theorem m_X0_parWithout {s : List Int32} {σ : sg_S} (c : Nat) (x0 : Int32) (hc : Kd c 0 5) (hp : p_X0_parWithout σ c x0) : Ct s 18 [rf c, .inl x0] σ [.inl (v_X0_parWithout σ c x0)] σ := by
  refine ct_v (la := [some (rf c), some (.inl x0)]) hc rfl rfl rfl rfl rfl rfl rfl (cgV ?_)
  unfold v_X0_parWithout
  unfold p_X0_parWithout at hp
  refine rt_lna rfl rfl ?_
  refine rt_lna rfl rfl ?_
  refine rt_gfr rfl hc (by decide) rfl ?_
  refine rt_gfi rfl (K0_1 hc) (by decide) rfl rfl ?_
  refine rt_lna rfl rfl ?_
  refine rt_gfr rfl hc (by decide) rfl ?_
  refine rt_gfi rfl (K0_2 hc) (by decide) rfl rfl ?_
  refine rt_ln rfl rfl ?_
  refine rt_sub rfl ?_
  refine rt_iv (σ1 := σ) rfl rfl rfl (m_X0_targetBy c (σ (c + 1) 0) ((σ (c + 7) 7) - x0) hc hp) ?_
  show RtF bk (fV σ) s 18 20 [some (rf c), some (.inl x0)] [.inl (v_X0_targetBy σ c (σ (c + 1) 0) ((σ (c + 7) 7) - x0))] σ _
  refine rt_k1 rfl ck1_1 ?_
  refine rt_sub rfl ?_
  exact rt_eV rfl
noncomputable def v_X0_leadOverTie (σ : sg_S) (c : Nat) (x0 : Int32) : Int32 := (if x0 = 0 then ((σ (c + 7) 0) - ((v_X0_theTarget σ c) - (1 : Int32))) else (if (σ (c + 7) 6) = 0 then ((σ (c + 7) 0) - (v_X0_parWithout σ c (v_X0_worthLeft σ c))) else ((σ (c + 7) 0) - (v_X0_parWithout σ c (σ (c + 7) 8)))))
noncomputable def p_X0_leadOverTie (σ : sg_S) (c : Nat) (x0 : Int32) : Prop := (p_X0_theTarget σ c ∧ (¬ (x0 = 0) → (((σ (c + 7) 6) = 0 → (p_X0_worthLeft σ c ∧ p_X0_parWithout σ c (v_X0_worthLeft σ c))) ∧ (¬ ((σ (c + 7) 6) = 0) → p_X0_parWithout σ c (σ (c + 7) 8)))))
theorem m_X0_leadOverTie {s : List Int32} {σ : sg_S} (c : Nat) (x0 : Int32) (hc : Kd c 0 5) (hp : p_X0_leadOverTie σ c x0) : Ct s 19 [rf c, .inl x0] σ [.inl (v_X0_leadOverTie σ c x0)] σ := by
  refine ct_v (la := [some (rf c), some (.inl x0), none]) hc rfl rfl rfl rfl rfl rfl rfl (cgV ?_)
  unfold v_X0_leadOverTie
  unfold p_X0_leadOverTie at hp
  refine rt_lna rfl rfl ?_
  refine rt_iv (σ1 := σ) rfl rfl rfl (m_X0_theTarget c hc hp.1) ?_
  show RtF bk (fV σ) s 19 4 [some (rf c), some (.inl x0), none] [.inl (v_X0_theTarget σ c)] σ _
  replace hp := hp.2
  refine rt_k1 rfl ck1_1 ?_
  refine rt_sub rfl ?_
  refine rt_sn (la1 := [some (rf c), some (.inl x0), some (.inl ((v_X0_theTarget σ c) - (1 : Int32)))]) rfl rfl rfl ?_
  refine rt_ln rfl rfl ?_
  refine rt_if rfl rfl (fun h => ?_) (fun h => ?_)
  · refine rt_lna rfl rfl ?_
    refine rt_gfr rfl hc (by decide) rfl ?_
    refine rt_gfi rfl (K0_2 hc) (by decide) rfl rfl ?_
    refine rt_ln rfl rfl ?_
    refine rt_sub rfl ?_
    exact rt_eV rfl
  · replace hp := hp h
    refine rt_lna rfl rfl ?_
    refine rt_lna rfl rfl ?_
    refine rt_gfr rfl hc (by decide) rfl ?_
    refine rt_gfi rfl (K0_2 hc) (by decide) rfl rfl ?_
    refine rt_if rfl rfl (fun h => ?_) (fun h => ?_)
    · replace hp := hp.1 h
      refine rt_lna rfl rfl ?_
      refine rt_iv (σ1 := σ) rfl rfl rfl (m_X0_worthLeft c hc hp.1) ?_
      show RtF bk (fV σ) s 19 36 [some (rf c), some (.inl x0), some (.inl ((v_X0_theTarget σ c) - (1 : Int32)))] [.inl (v_X0_worthLeft σ c), rf c] σ _
      replace hp := hp.2
      refine rt_iv (σ1 := σ) rfl rfl rfl (m_X0_parWithout c (v_X0_worthLeft σ c) hc hp) ?_
      show RtF bk (fV σ) s 19 39 [some (rf c), some (.inl x0), some (.inl ((v_X0_theTarget σ c) - (1 : Int32)))] [.inl (v_X0_parWithout σ c (v_X0_worthLeft σ c))] σ _
      refine rt_sn (la1 := [some (rf c), some (.inl x0), some (.inl (v_X0_parWithout σ c (v_X0_worthLeft σ c)))]) rfl rfl rfl ?_
      refine rt_lna rfl rfl ?_
      refine rt_gfr rfl hc (by decide) rfl ?_
      refine rt_gfi rfl (K0_2 hc) (by decide) rfl rfl ?_
      refine rt_ln rfl rfl ?_
      refine rt_sub rfl ?_
      exact rt_eV rfl
    · replace hp := hp.2 h
      refine rt_lna rfl rfl ?_
      refine rt_gfr rfl hc (by decide) rfl ?_
      refine rt_gfi rfl (K0_2 hc) (by decide) rfl rfl ?_
      refine rt_go rfl ?_
      refine rt_iv (σ1 := σ) rfl rfl rfl (m_X0_parWithout c (σ (c + 7) 8) hc hp) ?_
      show RtF bk (fV σ) s 19 39 [some (rf c), some (.inl x0), some (.inl ((v_X0_theTarget σ c) - (1 : Int32)))] [.inl (v_X0_parWithout σ c (σ (c + 7) 8))] σ _
      refine rt_sn (la1 := [some (rf c), some (.inl x0), some (.inl (v_X0_parWithout σ c (σ (c + 7) 8)))]) rfl rfl rfl ?_
      refine rt_lna rfl rfl ?_
      refine rt_gfr rfl hc (by decide) rfl ?_
      refine rt_gfi rfl (K0_2 hc) (by decide) rfl rfl ?_
      refine rt_ln rfl rfl ?_
      refine rt_sub rfl ?_
      exact rt_eV rfl
noncomputable def v_X0_outcome_a44 (σ : sg_S) (c : Nat) (x1_ : Int32) : Int32 := (if ¬ (v_X0_leadOverTie σ c x1_) = 0 then (if 0 ≤ (v_X0_leadOverTie σ c x1_) then (2 : Int32) else (1 : Int32)) else (3 : Int32))
noncomputable def p_X0_outcome_a44 (σ : sg_S) (c : Nat) (x1_ : Int32) : Prop := p_X0_leadOverTie σ c x1_
theorem m_X0_outcome_a44 {s : List Int32} {σ : sg_S} (c : Nat) (hc : Kd c 0 5) (x1_ : Int32) (o2_ : Option (ip_V Int32)) (o3_ : Option (ip_V Int32)) (hp : p_X0_outcome_a44 σ c x1_) : RtF bk (fV σ) s 20 44 [some (rf c), some (.inl x1_), o2_, o3_] [] σ (v_X0_outcome_a44 σ c x1_) := by
  unfold v_X0_outcome_a44
  unfold p_X0_outcome_a44 at hp
  refine rt_lna rfl rfl ?_
  refine rt_ln rfl rfl ?_
  refine rt_iv (σ1 := σ) rfl rfl rfl (m_X0_leadOverTie c x1_ hc hp) ?_
  show RtF bk (fV σ) s 20 49 [some (rf c), some (.inl x1_), o2_, o3_] [.inl (v_X0_leadOverTie σ c x1_)] σ _
  refine rt_sn (la1 := [some (rf c), some (.inl x1_), o2_, some (.inl (v_X0_leadOverTie σ c x1_))]) rfl rfl rfl ?_
  refine rt_ln rfl rfl ?_
  refine rt_if rfl rfl (fun h => ?_) (fun h => ?_)
  · refine rt_ln rfl rfl ?_
    refine rt_if rfl rfl (fun h => ?_) (fun h => ?_)
    · refine rt_k1 rfl ck1_2 ?_
      exact rt_eV rfl
    · refine rt_k1 rfl ck1_1 ?_
      refine rt_go rfl ?_
      exact rt_eV rfl
  · refine rt_k1 rfl ck1_3 ?_
    exact rt_eV rfl
noncomputable def v_X0_outcome (σ : sg_S) (c : Nat) (x0 : Int32) : Int32 := (if ((6 : Int32) * (v_X2_setting σ (2 : Int32))) ≤ (σ (c + 7) 2) then (if (v_X0_hasTarget σ c) = 0 then (0 : Int32) else (if x0 = 0 then (v_X0_outcome_a44 σ c x0) else (if (0 : Int32) = 0 then (v_X0_outcome_a44 σ c x0) else (0 : Int32)))) else (if (v_X0_hasTarget σ c) = 0 then (0 : Int32) else (if x0 = 0 then (v_X0_outcome_a44 σ c x0) else (if (1 : Int32) = 0 then (v_X0_outcome_a44 σ c x0) else (0 : Int32)))))
noncomputable def p_X0_outcome (σ : sg_S) (c : Nat) (x0 : Int32) : Prop := (p_X2_setting (2 : Int32) ∧ ((((6 : Int32) * (v_X2_setting σ (2 : Int32))) ≤ (σ (c + 7) 2) → (¬ ((v_X0_hasTarget σ c) = 0) → ((x0 = 0 → (p_X0_outcome_a44 σ c x0)) ∧ (¬ (x0 = 0) → ((0 : Int32) = 0 → (p_X0_outcome_a44 σ c x0)))))) ∧ (¬ (((6 : Int32) * (v_X2_setting σ (2 : Int32))) ≤ (σ (c + 7) 2)) → (¬ ((v_X0_hasTarget σ c) = 0) → ((x0 = 0 → (p_X0_outcome_a44 σ c x0)) ∧ (¬ (x0 = 0) → ((1 : Int32) = 0 → (p_X0_outcome_a44 σ c x0))))))))
theorem m_X0_outcome {s : List Int32} {σ : sg_S} (c : Nat) (x0 : Int32) (hc : Kd c 0 5) (hp : p_X0_outcome σ c x0) : Ct s 20 [rf c, .inl x0] σ [.inl (v_X0_outcome σ c x0)] σ := by
  refine ct_v (la := [some (rf c), some (.inl x0), none, none]) hc rfl rfl rfl rfl rfl rfl rfl (cgV ?_)
  unfold v_X0_outcome
  unfold p_X0_outcome at hp
  refine rt_lna rfl rfl ?_
  refine rt_gfr rfl hc (by decide) rfl ?_
  refine rt_gfi rfl (K0_2 hc) (by decide) rfl rfl ?_
  refine rt_k2 rfl ck2_6 ?_
  refine rt_lna rfl rfl ?_
  refine rt_gfr rfl hc (by decide) rfl ?_
  refine rt_k1 rfl ck1_2 ?_
  refine rt_iv (σ1 := σ) rfl rfl rfl (m_X2_setting (2 : Int32) hp.1) ?_
  show RtF bk (fV σ) s 20 17 [some (rf c), some (.inl x0), none, none] [.inl (v_X2_setting σ (2 : Int32)), .inl (6 : Int32), .inl (σ (c + 7) 2)] σ _
  replace hp := hp.2
  refine rt_mul rfl ?_
  refine rt_ic rfl rfl (fun h => ?_) (fun h => ?_)
  · replace hp := hp.1 h
    refine rt_k1 rfl ck1_0 ?_
    refine rt_sn (la1 := [some (rf c), some (.inl x0), some (.inl (0 : Int32)), none]) rfl rfl rfl ?_
    refine rt_lna rfl rfl ?_
    refine rt_iv (σ1 := σ) rfl rfl rfl (m_X0_hasTarget c hc) ?_
    show RtF bk (fV σ) s 20 31 [some (rf c), some (.inl x0), some (.inl (0 : Int32)), none] [.inl (v_X0_hasTarget σ c)] σ _
    refine rt_if rfl rfl (fun h => ?_) (fun h => ?_)
    · refine rt_k1 rfl ck1_0 ?_
      exact rt_eV rfl
    · replace hp := hp h
      refine rt_ln rfl rfl ?_
      refine rt_if rfl rfl (fun h => ?_) (fun h => ?_)
      · replace hp := hp.1 h
        exact m_X0_outcome_a44 c hc x0 _ _ hp
      · replace hp := hp.2 h
        refine rt_ln rfl rfl ?_
        refine rt_if rfl rfl (fun h => ?_) (fun h => ?_)
        · replace hp := hp h
          exact m_X0_outcome_a44 c hc x0 _ _ hp
        · refine rt_k1 rfl ck1_0 ?_
          exact rt_eV rfl
  · replace hp := hp.2 h
    refine rt_k1 rfl ck1_1 ?_
    refine rt_go rfl ?_
    refine rt_sn (la1 := [some (rf c), some (.inl x0), some (.inl (1 : Int32)), none]) rfl rfl rfl ?_
    refine rt_lna rfl rfl ?_
    refine rt_iv (σ1 := σ) rfl rfl rfl (m_X0_hasTarget c hc) ?_
    show RtF bk (fV σ) s 20 31 [some (rf c), some (.inl x0), some (.inl (1 : Int32)), none] [.inl (v_X0_hasTarget σ c)] σ _
    refine rt_if rfl rfl (fun h => ?_) (fun h => ?_)
    · refine rt_k1 rfl ck1_0 ?_
      exact rt_eV rfl
    · replace hp := hp h
      refine rt_ln rfl rfl ?_
      refine rt_if rfl rfl (fun h => ?_) (fun h => ?_)
      · replace hp := hp.1 h
        exact m_X0_outcome_a44 c hc x0 _ _ hp
      · replace hp := hp.2 h
        refine rt_ln rfl rfl ?_
        refine rt_if rfl rfl (fun h => ?_) (fun h => ?_)
        · replace hp := hp h
          exact m_X0_outcome_a44 c hc x0 _ _ hp
        · refine rt_k1 rfl ck1_0 ?_
          exact rt_eV rfl
noncomputable def v_X0_leadAtEnd (σ : sg_S) (c : Nat) : Int32 := (if (v_X0_outcome σ c (σ (c + 7) 6)) = 1 then (-(v_X0_leadOverTie σ c (σ (c + 7) 6))) else (if (v_X0_outcome σ c (σ (c + 7) 6)) = 2 then (if (σ (c + 7) 0) < (v_X0_theTarget σ c) then (v_X0_leadOverTie σ c (σ (c + 7) 6)) else ((10 : Int32) - (σ (c + 7) 1))) else (0 : Int32)))
noncomputable def p_X0_leadAtEnd (σ : sg_S) (c : Nat) : Prop := (p_X0_outcome σ c (σ (c + 7) 6) ∧ (((v_X0_outcome σ c (σ (c + 7) 6)) = 1 → p_X0_leadOverTie σ c (σ (c + 7) 6)) ∧ (¬ ((v_X0_outcome σ c (σ (c + 7) 6)) = 1) → ((v_X0_outcome σ c (σ (c + 7) 6)) = 2 → (p_X0_theTarget σ c ∧ ((σ (c + 7) 0) < (v_X0_theTarget σ c) → p_X0_leadOverTie σ c (σ (c + 7) 6)))))))
theorem m_X0_leadAtEnd {s : List Int32} {σ : sg_S} (c : Nat) (hc : Kd c 0 5) (hp : p_X0_leadAtEnd σ c) : Ct s 21 [rf c] σ [.inl (v_X0_leadAtEnd σ c)] σ := by
  refine ct_v (la := [some (rf c)]) hc rfl rfl rfl rfl rfl rfl rfl (cgV ?_)
  unfold v_X0_leadAtEnd
  unfold p_X0_leadAtEnd at hp
  refine rt_lna rfl rfl ?_
  refine rt_lna rfl rfl ?_
  refine rt_gfr rfl hc (by decide) rfl ?_
  refine rt_gfi rfl (K0_2 hc) (by decide) rfl rfl ?_
  refine rt_iv (σ1 := σ) rfl rfl rfl (m_X0_outcome c (σ (c + 7) 6) hc hp.1) ?_
  show RtF bk (fV σ) s 21 11 [some (rf c)] [.inl (v_X0_outcome σ c (σ (c + 7) 6))] σ _
  replace hp := hp.2
  refine rt_ite (fun h => ?_) (fun h => ?_)
  · replace hp := hp.1 h
    refine rt_eq h ?_
    refine rt_step rfl rfl rfl ?_
    refine rt_lna rfl rfl ?_
    refine rt_lna rfl rfl ?_
    refine rt_gfr rfl hc (by decide) rfl ?_
    refine rt_gfi rfl (K0_2 hc) (by decide) rfl rfl ?_
    refine rt_iv (σ1 := σ) rfl rfl rfl (m_X0_leadOverTie c (σ (c + 7) 6) hc hp) ?_
    show RtF bk (fV σ) s 21 47 [some (rf c)] [.inl (v_X0_leadOverTie σ c (σ (c + 7) 6))] σ _
    refine rt_neg rfl ?_
    exact rt_eV rfl
  · replace hp := hp.2 h
    have e1 := h
    refine rt_ite (fun h => ?_) (fun h => ?_)
    · replace hp := hp h
      refine rt_eq h ?_
      refine rt_step rfl rfl rfl ?_
      refine rt_lna rfl rfl ?_
      refine rt_gfr rfl hc (by decide) rfl ?_
      refine rt_gfi rfl (K0_2 hc) (by decide) rfl rfl ?_
      refine rt_lna rfl rfl ?_
      refine rt_iv (σ1 := σ) rfl rfl rfl (m_X0_theTarget c hc hp.1) ?_
      show RtF bk (fV σ) s 21 60 [some (rf c)] [.inl (v_X0_theTarget σ c), .inl (σ (c + 7) 0)] σ _
      replace hp := hp.2
      refine rt_ic rfl rfl (fun h => ?_) (fun h => ?_)
      · replace hp := hp h
        refine rt_lna rfl rfl ?_
        refine rt_lna rfl rfl ?_
        refine rt_gfr rfl hc (by decide) rfl ?_
        refine rt_gfi rfl (K0_2 hc) (by decide) rfl rfl ?_
        refine rt_iv (σ1 := σ) rfl rfl rfl (m_X0_leadOverTie c (σ (c + 7) 6) hc hp) ?_
        show RtF bk (fV σ) s 21 87 [some (rf c)] [.inl (v_X0_leadOverTie σ c (σ (c + 7) 6))] σ _
        exact rt_eV rfl
      · refine rt_k2 rfl ck2_10 ?_
        refine rt_lna rfl rfl ?_
        refine rt_gfr rfl hc (by decide) rfl ?_
        refine rt_gfi rfl (K0_2 hc) (by decide) rfl rfl ?_
        refine rt_sub rfl ?_
        refine rt_go rfl ?_
        exact rt_eV rfl
    · refine rt_ls2 (pc1 := 88) rfl e1 h rfl ?_
      refine rt_k1 rfl ck1_0 ?_
      exact rt_eV rfl
noncomputable def v_X0_boundaries (σ : sg_S) (q : Nat) : Int32 := ((v_X1_ballsThatMade σ q (4 : Int32)) + (v_X1_ballsThatMade σ q (6 : Int32)))
noncomputable def p_X0_boundaries (q : Nat) : Prop := (p_X1_ballsThatMade q (4 : Int32) ∧ p_X1_ballsThatMade q (6 : Int32))
theorem m_X0_boundaries {s : List Int32} {σ : sg_S} (q : Nat) (hq : Kd q 1 14) (hp : p_X0_boundaries q) : Ct s 23 [rf q] σ [.inl (v_X0_boundaries σ q)] σ := by
  refine ct_s (la := [some (rf q)]) rfl rfl rfl rfl rfl (cgV ?_)
  unfold v_X0_boundaries
  unfold p_X0_boundaries at hp
  refine rt_lna rfl rfl ?_
  refine rt_k1 rfl ck1_4 ?_
  refine rt_iv (σ1 := σ) rfl rfl rfl (m_X1_ballsThatMade q (4 : Int32) hq hp.1) ?_
  show RtF bk (fV σ) s 23 5 [some (rf q)] [.inl (v_X1_ballsThatMade σ q (4 : Int32))] σ _
  replace hp := hp.2
  refine rt_lna rfl rfl ?_
  refine rt_k2 rfl ck2_6 ?_
  refine rt_iv (σ1 := σ) rfl rfl rfl (m_X1_ballsThatMade q (6 : Int32) hq hp) ?_
  show RtF bk (fV σ) s 23 11 [some (rf q)] [.inl (v_X1_ballsThatMade σ q (6 : Int32)), .inl (v_X1_ballsThatMade σ q (4 : Int32))] σ _
  refine rt_add rfl ?_
  exact rt_eV rfl
noncomputable def t_X1_restart_0 (σ : sg_S) (q : Nat) (x0 : Int32) (x1 : Int32) : sg_S := (sg_up (sg_up σ q 0 (0 : Int32)) q 1 (0 : Int32))
noncomputable def t_X1_restart_1 (σ : sg_S) (q : Nat) (x0 : Int32) (x1 : Int32) : sg_S := (sg_up (t_X1_restart_0 σ q x0 x1) q 2 (0 : Int32))
noncomputable def t_X1_restart_2 (σ : sg_S) (q : Nat) (x0 : Int32) (x1 : Int32) : sg_S := (sg_up (t_X1_restart_1 σ q x0 x1) q 4 (0 : Int32))
noncomputable def t_X1_restart_3 (σ : sg_S) (q : Nat) (x0 : Int32) (x1 : Int32) : sg_S := (sg_up (t_X1_restart_2 σ q x0 x1) q 5 (0 : Int32))
noncomputable def t_X1_restart_4 (σ : sg_S) (q : Nat) (x0 : Int32) (x1 : Int32) : sg_S := (sg_up (t_X1_restart_3 σ q x0 x1) q 6 (0 : Int32))
noncomputable def t_X1_restart_5 (σ : sg_S) (q : Nat) (x0 : Int32) (x1 : Int32) : sg_S := (sg_up (t_X1_restart_4 σ q x0 x1) q 8 (0 : Int32))
noncomputable def t_X1_restart_6 (σ : sg_S) (q : Nat) (x0 : Int32) (x1 : Int32) : sg_S := (s_X1_beginWith (t_X1_restart_5 σ q x0 x1) q x0 x1)
noncomputable def s_X1_restart_b64 (q : Nat) (k64 : sg_S → Int32 → sg_S) (σ : sg_S) (x3_ : Int32) : sg_S := (if (6 : Int32) < x3_ then σ else (k64 (sg_up σ (q + 3) (ni x3_) (0 : Int32)) (x3_ + (1 : Int32))))
noncomputable def p_X1_restart_b64 (q : Nat) (kp64 : sg_S → Int32 → Prop) (σ : sg_S) (x3_ : Int32) : Prop := (¬ ((6 : Int32) < x3_) → (ix x3_ 7 ∧ (kp64 (sg_up σ (q + 3) (ni x3_) (0 : Int32)) (x3_ + (1 : Int32)))))
theorem m_X1_restart_b64 {s : List Int32} (q : Nat) (hq : Kd q 1 14) (k64 : sg_S → Int32 → sg_S) (kp64 : sg_S → Int32 → Prop) (hk64 : ∀ (σ : sg_S) (x3_ : Int32) (o1_ : Option (ip_V Int32)) (o2_ : Option (ip_V Int32)), kp64 σ x3_ → RtF bk fS s 25 64 [some (rf q), o1_, o2_, some (.inl x3_)] [] σ (k64 σ x3_)) (σ : sg_S) (x3_ : Int32) (o1_ : Option (ip_V Int32)) (o2_ : Option (ip_V Int32)) (hp : p_X1_restart_b64 q kp64 σ x3_) : RtF bk fS s 25 64 [some (rf q), o1_, o2_, some (.inl x3_)] [] σ (s_X1_restart_b64 q k64 σ x3_) := by
  unfold s_X1_restart_b64
  unfold p_X1_restart_b64 at hp
  refine rt_ln rfl rfl ?_
  refine rt_k2 rfl ck2_6 ?_
  refine rt_ic rfl rfl (fun h => ?_) (fun h => ?_)
  · exact rt_eS rfl
  · replace hp := hp h
    refine rt_lna rfl rfl ?_
    refine rt_gfr rfl hq (by decide) rfl ?_
    refine rt_ln rfl rfl ?_
    refine rt_k1 rfl ck1_0 ?_
    refine rt_as (k0 := (ni x3_)) (σ1 := (sg_up σ (q + 3) (ni x3_) (0 : Int32))) rfl (K1_11 hq) hp.1 rfl rfl ?_
    replace hp := hp.2
    refine rt_inc (la1 := [some (rf q), o1_, o2_, some (.inl (x3_ + (1 : Int32)))]) rfl rfl ck1_1 rfl ?_
    refine rt_go rfl ?_
    exact hk64 (sg_up σ (q + 3) (ni x3_) (0 : Int32)) (x3_ + (1 : Int32)) _ _ hp
noncomputable def s_X1_restart_l64 (q : Nat) (n : Nat) : sg_S → Int32 → sg_S := Nat.rec (motive := fun _ => sg_S → Int32 → sg_S) (fun σ _ => σ) (fun _ ih => s_X1_restart_b64 q ih) n
noncomputable def p_X1_restart_l64 (q : Nat) (n : Nat) : sg_S → Int32 → Prop := Nat.rec (motive := fun _ => sg_S → Int32 → Prop) (fun _ _ => False) (fun _ ih => p_X1_restart_b64 q ih) n
theorem m_X1_restart_l64 {s : List Int32} (q : Nat) (hq : Kd q 1 14) : ∀ (n : Nat), ∀ (σ : sg_S) (x3_ : Int32) (o1_ : Option (ip_V Int32)) (o2_ : Option (ip_V Int32)), p_X1_restart_l64 q n σ x3_ → RtF bk fS s 25 64 [some (rf q), o1_, o2_, some (.inl x3_)] [] σ (s_X1_restart_l64 q n σ x3_) := by
  intro n
  induction n with
  | zero =>
    intro σ x3_ o1_ o2_ hp
    exact hp.elim
  | succ n ih =>
    intro σ x3_ o1_ o2_ hp
    exact m_X1_restart_b64 q hq (s_X1_restart_l64 q n) (p_X1_restart_l64 q n) ih σ x3_ o1_ o2_ hp
noncomputable def s_X1_restart_b43 (q : Nat) (k43 : sg_S → Int32 → sg_S) (σ : sg_S) (x3_ : Int32) : sg_S := (if (60 : Int32) ≤ x3_ then (s_X1_restart_l64 q 600 σ (0 : Int32)) else (k43 (sg_up σ (q + 1) (ni x3_) (0 : Int32)) (x3_ + (1 : Int32))))
noncomputable def p_X1_restart_b43 (q : Nat) (kp43 : sg_S → Int32 → Prop) (σ : sg_S) (x3_ : Int32) : Prop := (((60 : Int32) ≤ x3_ → (p_X1_restart_l64 q 600 σ (0 : Int32))) ∧ (¬ ((60 : Int32) ≤ x3_) → (ix x3_ 60 ∧ (kp43 (sg_up σ (q + 1) (ni x3_) (0 : Int32)) (x3_ + (1 : Int32))))))
theorem m_X1_restart_b43 {s : List Int32} (q : Nat) (hq : Kd q 1 14) (k43 : sg_S → Int32 → sg_S) (kp43 : sg_S → Int32 → Prop) (hk43 : ∀ (σ : sg_S) (x3_ : Int32) (o1_ : Option (ip_V Int32)) (o2_ : Option (ip_V Int32)), kp43 σ x3_ → RtF bk fS s 25 43 [some (rf q), o1_, o2_, some (.inl x3_)] [] σ (k43 σ x3_)) (σ : sg_S) (x3_ : Int32) (o1_ : Option (ip_V Int32)) (o2_ : Option (ip_V Int32)) (hp : p_X1_restart_b43 q kp43 σ x3_) : RtF bk fS s 25 43 [some (rf q), o1_, o2_, some (.inl x3_)] [] σ (s_X1_restart_b43 q k43 σ x3_) := by
  unfold s_X1_restart_b43
  unfold p_X1_restart_b43 at hp
  refine rt_ln rfl rfl ?_
  refine rt_k2 rfl ck2_60 ?_
  refine rt_ic rfl rfl (fun h => ?_) (fun h => ?_)
  · replace hp := hp.1 h
    refine rt_k1 rfl ck1_0 ?_
    refine rt_sn (la1 := [some (rf q), o1_, o2_, some (.inl (0 : Int32))]) rfl rfl rfl ?_
    exact m_X1_restart_l64 q hq 600 σ (0 : Int32) _ _ hp
  · replace hp := hp.2 h
    refine rt_lna rfl rfl ?_
    refine rt_gfr rfl hq (by decide) rfl ?_
    refine rt_ln rfl rfl ?_
    refine rt_k1 rfl ck1_0 ?_
    refine rt_as (k0 := (ni x3_)) (σ1 := (sg_up σ (q + 1) (ni x3_) (0 : Int32))) rfl (K1_9 hq) hp.1 rfl rfl ?_
    replace hp := hp.2
    refine rt_inc (la1 := [some (rf q), o1_, o2_, some (.inl (x3_ + (1 : Int32)))]) rfl rfl ck1_1 rfl ?_
    refine rt_go rfl ?_
    exact hk43 (sg_up σ (q + 1) (ni x3_) (0 : Int32)) (x3_ + (1 : Int32)) _ _ hp
noncomputable def s_X1_restart_l43 (q : Nat) (n : Nat) : sg_S → Int32 → sg_S := Nat.rec (motive := fun _ => sg_S → Int32 → sg_S) (fun σ _ => σ) (fun _ ih => s_X1_restart_b43 q ih) n
noncomputable def p_X1_restart_l43 (q : Nat) (n : Nat) : sg_S → Int32 → Prop := Nat.rec (motive := fun _ => sg_S → Int32 → Prop) (fun _ _ => False) (fun _ ih => p_X1_restart_b43 q ih) n
theorem m_X1_restart_l43 {s : List Int32} (q : Nat) (hq : Kd q 1 14) : ∀ (n : Nat), ∀ (σ : sg_S) (x3_ : Int32) (o1_ : Option (ip_V Int32)) (o2_ : Option (ip_V Int32)), p_X1_restart_l43 q n σ x3_ → RtF bk fS s 25 43 [some (rf q), o1_, o2_, some (.inl x3_)] [] σ (s_X1_restart_l43 q n σ x3_) := by
  intro n
  induction n with
  | zero =>
    intro σ x3_ o1_ o2_ hp
    exact hp.elim
  | succ n ih =>
    intro σ x3_ o1_ o2_ hp
    exact m_X1_restart_b43 q hq (s_X1_restart_l43 q n) (p_X1_restart_l43 q n) ih σ x3_ o1_ o2_ hp
noncomputable def s_X1_restart (σ : sg_S) (q : Nat) (x0 : Int32) (x1 : Int32) : sg_S := (s_X1_restart_l43 q 600 (t_X1_restart_6 σ q x0 x1) (0 : Int32))
noncomputable def p_X1_restart (σ : sg_S) (q : Nat) (x0 : Int32) (x1 : Int32) : Prop := (p_X1_restart_l43 q 600 (t_X1_restart_6 σ q x0 x1) (0 : Int32))
theorem m_X1_restart {s : List Int32} {σ : sg_S} (q : Nat) (x0 : Int32) (x1 : Int32) (hq : Kd q 1 14) (hp : p_X1_restart σ q x0 x1) : Ct s 25 [rf q, .inl x0, .inl x1] σ [] (s_X1_restart σ q x0 x1) := by
  refine ct_v (la := [some (rf q), some (.inl x0), some (.inl x1), none]) hq rfl rfl rfl rfl rfl rfl rfl (cgS ?_)
  unfold s_X1_restart
  unfold p_X1_restart at hp
  refine rt_lna rfl rfl ?_
  refine rt_k1 rfl ck1_0 ?_
  refine rt_pf (σ1 := (sg_up σ q 0 (0 : Int32))) rfl hq (by decide) rfl rfl rfl ?_
  refine rt_lna rfl rfl ?_
  refine rt_k1 rfl ck1_0 ?_
  refine rt_pf (σ1 := (t_X1_restart_0 σ q x0 x1)) rfl hq (by decide) rfl rfl rfl ?_
  refine rt_lna rfl rfl ?_
  refine rt_k1 rfl ck1_0 ?_
  refine rt_pf (σ1 := (t_X1_restart_1 σ q x0 x1)) rfl hq (by decide) rfl rfl rfl ?_
  refine rt_lna rfl rfl ?_
  refine rt_k1 rfl ck1_0 ?_
  refine rt_pf (σ1 := (t_X1_restart_2 σ q x0 x1)) rfl hq (by decide) rfl rfl rfl ?_
  refine rt_lna rfl rfl ?_
  refine rt_k1 rfl ck1_0 ?_
  refine rt_pf (σ1 := (t_X1_restart_3 σ q x0 x1)) rfl hq (by decide) rfl rfl rfl ?_
  refine rt_lna rfl rfl ?_
  refine rt_k1 rfl ck1_0 ?_
  refine rt_pz (σ1 := (t_X1_restart_4 σ q x0 x1)) rfl hq (Or.inl rfl) (by decide) rfl rfl rfl ?_
  refine rt_lna rfl rfl ?_
  refine rt_k1 rfl ck1_0 ?_
  refine rt_pf (σ1 := (t_X1_restart_5 σ q x0 x1)) rfl hq (by decide) rfl rfl rfl ?_
  refine rt_lna rfl rfl ?_
  refine rt_ln rfl rfl ?_
  refine rt_ln rfl rfl ?_
  refine rt_iv (σ1 := (t_X1_restart_6 σ q x0 x1)) rfl rfl rfl (m_X1_beginWith q x0 x1 hq) ?_
  show RtF bk fS s 25 41 [some (rf q), some (.inl x0), some (.inl x1), none] [] (t_X1_restart_6 σ q x0 x1) _
  refine rt_k1 rfl ck1_0 ?_
  refine rt_sn (la1 := [some (rf q), some (.inl x0), some (.inl x1), some (.inl (0 : Int32))]) rfl rfl rfl ?_
  exact m_X1_restart_l43 q hq 600 (t_X1_restart_6 σ q x0 x1) (0 : Int32) _ _ hp
noncomputable def v_X4_innings (σ : sg_S) (x0 : Int32) (x1 : Int32) : Option Int32 := (if ¬ (v_X4_isSide x0) = 0 then (if x1 = 0 then (some (σ (v_X0_side 7 x0) 0)) else (if x1 = 1 then (some (σ (v_X0_side 7 x0) 1)) else (if x1 = 2 then (some (σ (v_X0_side 7 x0) 2)) else (if x1 = 3 then (some (σ (v_X0_side 7 x0) 3)) else (if x1 = 4 then (some ((σ (v_X0_side 7 x0) 7) - (σ (v_X0_side 7 x0) 8))) else (if x1 = 5 then (some (σ (v_X0_side 7 x0) 5)) else (if x1 = 6 then (if (σ (v_X0_side 7 x0) 6) = 0 then (some (0 : Int32)) else (some (1 : Int32))) else (if x1 = 7 then (some (σ (v_X0_side 7 x0) 4)) else (if x1 = 8 then (some (v_X0_ballsLeft σ 7 x0)) else (none : Option Int32)))))))))) else (none : Option Int32))
theorem m_X4_innings {s : List Int32} {σ : sg_S} (x0 : Int32) (x1 : Int32) : RtF thB (fT σ) s 82 0 [some (rf 0), some (.inl x0), some (.inl x1), none] [] σ (v_X4_innings σ x0 x1) := by
  unfold v_X4_innings
  refine rt_ln rfl rfl ?_
  refine rt_is (σ1 := σ) rfl rfl rfl (m_X4_isSide x0) ?_
  show RtF thB (fT σ) s 82 4 [some (rf 0), some (.inl x0), some (.inl x1), none] [.inl (v_X4_isSide x0)] σ _
  refine rt_if rfl rfl (fun h => ?_) (fun h => ?_)
  · refine rt_lna rfl rfl ?_
    refine rt_gfr rfl Kq_0 (by decide) rfl ?_
    refine rt_ln rfl rfl ?_
    refine rt_iv (σ1 := σ) rfl rfl rfl (m_X0_side 7 x0 Kq_7) ?_
    show RtF thB (fT σ) s 82 25 [some (rf 0), some (.inl x0), some (.inl x1), none] [rf (v_X0_side 7 x0)] σ _
    refine rt_sna (la1 := [some (rf 0), some (.inl x0), some (.inl x1), some (rf (v_X0_side 7 x0))]) rfl rfl rfl ?_
    refine rt_ln rfl rfl ?_
    refine rt_ite (fun h => ?_) (fun h => ?_)
    · refine rt_eq h ?_
      refine rt_step rfl rfl rfl ?_
      refine rt_lna rfl rfl ?_
      refine rt_gfi rfl (Kside Kq_7) (by decide) rfl rfl ?_
      exact rt_eT rfl
    · have e0 := h
      refine rt_ite (fun h => ?_) (fun h => ?_)
      · refine rt_eq h ?_
        refine rt_step rfl rfl rfl ?_
        refine rt_lna rfl rfl ?_
        refine rt_gfi rfl (Kside Kq_7) (by decide) rfl rfl ?_
        exact rt_eT rfl
      · have e1 := h
        refine rt_ite (fun h => ?_) (fun h => ?_)
        · refine rt_eq h ?_
          refine rt_step rfl rfl rfl ?_
          refine rt_lna rfl rfl ?_
          refine rt_gfi rfl (Kside Kq_7) (by decide) rfl rfl ?_
          exact rt_eT rfl
        · have e2 := h
          refine rt_ite (fun h => ?_) (fun h => ?_)
          · refine rt_eq h ?_
            refine rt_step rfl rfl rfl ?_
            refine rt_lna rfl rfl ?_
            refine rt_gfi rfl (Kside Kq_7) (by decide) rfl rfl ?_
            exact rt_eT rfl
          · have e3 := h
            refine rt_ite (fun h => ?_) (fun h => ?_)
            · refine rt_eq h ?_
              refine rt_step rfl rfl rfl ?_
              refine rt_lna rfl rfl ?_
              refine rt_gfi rfl (Kside Kq_7) (by decide) rfl rfl ?_
              refine rt_lna rfl rfl ?_
              refine rt_gfi rfl (Kside Kq_7) (by decide) rfl rfl ?_
              refine rt_sub rfl ?_
              exact rt_eT rfl
            · have e4 := h
              refine rt_ite (fun h => ?_) (fun h => ?_)
              · refine rt_eq h ?_
                refine rt_step rfl rfl rfl ?_
                refine rt_lna rfl rfl ?_
                refine rt_gfi rfl (Kside Kq_7) (by decide) rfl rfl ?_
                exact rt_eT rfl
              · have e5 := h
                refine rt_ite (fun h => ?_) (fun h => ?_)
                · refine rt_eq h ?_
                  refine rt_step rfl rfl rfl ?_
                  refine rt_lna rfl rfl ?_
                  refine rt_gfi rfl (Kside Kq_7) (by decide) rfl rfl ?_
                  refine rt_if rfl rfl (fun h => ?_) (fun h => ?_)
                  · refine rt_k1 rfl ck1_0 ?_
                    exact rt_eT rfl
                  · refine rt_k1 rfl ck1_1 ?_
                    refine rt_go rfl ?_
                    exact rt_eT rfl
                · have e6 := h
                  refine rt_ite (fun h => ?_) (fun h => ?_)
                  · refine rt_eq h ?_
                    refine rt_step rfl rfl rfl ?_
                    refine rt_lna rfl rfl ?_
                    refine rt_gfi rfl (Kside Kq_7) (by decide) rfl rfl ?_
                    exact rt_eT rfl
                  · have e7 := h
                    refine rt_ite (fun h => ?_) (fun h => ?_)
                    · refine rt_eq h ?_
                      refine rt_step rfl rfl rfl ?_
                      refine rt_lna rfl rfl ?_
                      refine rt_gfr rfl Kq_0 (by decide) rfl ?_
                      refine rt_ln rfl rfl ?_
                      refine rt_iv (σ1 := σ) rfl rfl rfl (m_X0_ballsLeft 7 x0 Kq_7) ?_
                      show RtF thB (fT σ) s 82 137 [some (rf 0), some (.inl x0), some (.inl x1), some (rf (v_X0_side 7 x0))] [.inl (v_X0_ballsLeft σ 7 x0)] σ _
                      exact rt_eT rfl
                    · have e8 := h
                      refine rt_tsd (pc1 := 138) rfl (ts_out (n := 9) (by decide) (fun k hk => match k, hk with | 0, _ => e0 | 1, _ => e1 | 2, _ => e2 | 3, _ => e3 | 4, _ => e4 | 5, _ => e5 | 6, _ => e6 | 7, _ => e7 | 8, _ => e8 | k + 9, hk => absurd hk (by omega))) rfl ?_
                      exact rt_eN rfl
  · exact rt_eN rfl
noncomputable def v_X4_cut (σ : sg_S) (x0 : Int32) (x1 : Int32) (x2 : Int32) : Option Int32 := (if (v_X4_isSide x0) = 0 then (none : Option Int32) else (if (v_X1_hasCut σ (v_X0_side 7 x0) x1) = 0 then (none : Option Int32) else (if x2 < 0 then (none : Option Int32) else (if x2 < (5 : Int32) then (some (v_X1_cutFact σ (v_X0_side 7 x0) x1 x2)) else (none : Option Int32)))))
noncomputable def p_X4_cut (σ : sg_S) (x0 : Int32) (x1 : Int32) (x2 : Int32) : Prop := (¬ ((v_X4_isSide x0) = 0) → (¬ ((v_X1_hasCut σ (v_X0_side 7 x0) x1) = 0) → (¬ (x2 < 0) → (x2 < (5 : Int32) → p_X1_cutFact σ (v_X0_side 7 x0) x1 x2))))
theorem m_X4_cut {s : List Int32} {σ : sg_S} (x0 : Int32) (x1 : Int32) (x2 : Int32) (hp : p_X4_cut σ x0 x1 x2) : RtF thB (fT σ) s 83 0 [some (rf 0), some (.inl x0), some (.inl x1), some (.inl x2)] [] σ (v_X4_cut σ x0 x1 x2) := by
  unfold v_X4_cut
  unfold p_X4_cut at hp
  refine rt_ln rfl rfl ?_
  refine rt_is (σ1 := σ) rfl rfl rfl (m_X4_isSide x0) ?_
  show RtF thB (fT σ) s 83 4 [some (rf 0), some (.inl x0), some (.inl x1), some (.inl x2)] [.inl (v_X4_isSide x0)] σ _
  refine rt_if rfl rfl (fun h => ?_) (fun h => ?_)
  · exact rt_eN rfl
  · replace hp := hp h
    refine rt_lna rfl rfl ?_
    refine rt_gfr rfl Kq_0 (by decide) rfl ?_
    refine rt_ln rfl rfl ?_
    refine rt_iv (σ1 := σ) rfl rfl rfl (m_X0_side 7 x0 Kq_7) ?_
    show RtF thB (fT σ) s 83 15 [some (rf 0), some (.inl x0), some (.inl x1), some (.inl x2)] [rf (v_X0_side 7 x0)] σ _
    refine rt_ln rfl rfl ?_
    refine rt_iv (σ1 := σ) rfl rfl rfl (m_X1_hasCut (v_X0_side 7 x0) x1 (Kside Kq_7)) ?_
    show RtF thB (fT σ) s 83 19 [some (rf 0), some (.inl x0), some (.inl x1), some (.inl x2)] [.inl (v_X1_hasCut σ (v_X0_side 7 x0) x1)] σ _
    refine rt_if rfl rfl (fun h => ?_) (fun h => ?_)
    · exact rt_eN rfl
    · replace hp := hp h
      refine rt_ln rfl rfl ?_
      refine rt_if rfl rfl (fun h => ?_) (fun h => ?_)
      · exact rt_eN rfl
      · replace hp := hp h
        refine rt_ln rfl rfl ?_
        refine rt_k1 rfl ck1_5 ?_
        refine rt_ic rfl rfl (fun h => ?_) (fun h => ?_)
        · replace hp := hp h
          refine rt_lna rfl rfl ?_
          refine rt_gfr rfl Kq_0 (by decide) rfl ?_
          refine rt_ln rfl rfl ?_
          refine rt_iv (σ1 := σ) rfl rfl rfl (m_X0_side 7 x0 Kq_7) ?_
          show RtF thB (fT σ) s 83 49 [some (rf 0), some (.inl x0), some (.inl x1), some (.inl x2)] [rf (v_X0_side 7 x0)] σ _
          refine rt_ln rfl rfl ?_
          refine rt_ln rfl rfl ?_
          refine rt_iv (σ1 := σ) rfl rfl rfl (m_X1_cutFact (v_X0_side 7 x0) x1 x2 (Kside Kq_7) hp) ?_
          show RtF thB (fT σ) s 83 54 [some (rf 0), some (.inl x0), some (.inl x1), some (.inl x2)] [.inl (v_X1_cutFact σ (v_X0_side 7 x0) x1 x2)] σ _
          exact rt_eT rfl
        · exact rt_eN rfl
noncomputable def v_X4_over (σ : sg_S) (x0 : Int32) (x1 : Int32) (x2 : Int32) : Int32 := (if (v_X4_isSide x0) = 0 then (-1 : Int32) else (if x1 < 0 then (-1 : Int32) else (if (20 : Int32) ≤ x1 then (-1 : Int32) else (if ¬ (v_X4_isOverFact x2) = 0 then (v_X1_overFact σ (v_X0_side 7 x0) x1 x2) else (-1 : Int32)))))
noncomputable def p_X4_over (x0 : Int32) (x1 : Int32) (x2 : Int32) : Prop := (¬ ((v_X4_isSide x0) = 0) → (¬ (x1 < 0) → (¬ ((20 : Int32) ≤ x1) → (¬ (v_X4_isOverFact x2) = 0 → p_X1_overFact (v_X0_side 7 x0) x1 x2))))
theorem m_X4_over {s : List Int32} {σ : sg_S} (x0 : Int32) (x1 : Int32) (x2 : Int32) (hp : p_X4_over x0 x1 x2) : Ct s 84 [rf 0, .inl x0, .inl x1, .inl x2] σ [.inl (v_X4_over σ x0 x1 x2)] σ := by
  refine ct_v (la := [some (rf 0), some (.inl x0), some (.inl x1), some (.inl x2)]) Kq_0 rfl rfl rfl rfl rfl rfl rfl (cgV ?_)
  unfold v_X4_over
  unfold p_X4_over at hp
  refine rt_ln rfl rfl ?_
  refine rt_is (σ1 := σ) rfl rfl rfl (m_X4_isSide x0) ?_
  show RtF bk (fV σ) s 84 4 [some (rf 0), some (.inl x0), some (.inl x1), some (.inl x2)] [.inl (v_X4_isSide x0)] σ _
  refine rt_if rfl rfl (fun h => ?_) (fun h => ?_)
  · refine rt_k1 rfl ck1_m1 ?_
    exact rt_eV rfl
  · replace hp := hp h
    refine rt_ln rfl rfl ?_
    refine rt_if rfl rfl (fun h => ?_) (fun h => ?_)
    · refine rt_k1 rfl ck1_m1 ?_
      exact rt_eV rfl
    · replace hp := hp h
      refine rt_ln rfl rfl ?_
      refine rt_k2 rfl ck2_20 ?_
      refine rt_ic rfl rfl (fun h => ?_) (fun h => ?_)
      · refine rt_k1 rfl ck1_m1 ?_
        exact rt_eV rfl
      · replace hp := hp h
        refine rt_ln rfl rfl ?_
        refine rt_is (σ1 := σ) rfl rfl rfl (m_X4_isOverFact x2) ?_
        show RtF bk (fV σ) s 84 21 [some (rf 0), some (.inl x0), some (.inl x1), some (.inl x2)] [.inl (v_X4_isOverFact x2)] σ _
        refine rt_if rfl rfl (fun h => ?_) (fun h => ?_)
        · replace hp := hp h
          refine rt_lna rfl rfl ?_
          refine rt_gfr rfl Kq_0 (by decide) rfl ?_
          refine rt_ln rfl rfl ?_
          refine rt_iv (σ1 := σ) rfl rfl rfl (m_X0_side 7 x0 Kq_7) ?_
          show RtF bk (fV σ) s 84 34 [some (rf 0), some (.inl x0), some (.inl x1), some (.inl x2)] [rf (v_X0_side 7 x0)] σ _
          refine rt_ln rfl rfl ?_
          refine rt_ln rfl rfl ?_
          refine rt_iv (σ1 := σ) rfl rfl rfl (m_X1_overFact (v_X0_side 7 x0) x1 x2 (Kside Kq_7) hp) ?_
          show RtF bk (fV σ) s 84 39 [some (rf 0), some (.inl x0), some (.inl x1), some (.inl x2)] [.inl (v_X1_overFact σ (v_X0_side 7 x0) x1 x2)] σ _
          exact rt_eV rfl
        · refine rt_k1 rfl ck1_m1 ?_
          exact rt_eV rfl
noncomputable def v_X4_block (σ : sg_S) (x0 : Int32) (x1 : Int32) : Int32 := (if (v_X4_isSide x0) = 0 then (-1 : Int32) else (if ¬ (v_X4_isBlock x1) = 0 then (v_X2_blockOvers σ (σ (v_X0_side 7 x0) 3) x1) else (-1 : Int32)))
noncomputable def p_X4_block (σ : sg_S) (x0 : Int32) (x1 : Int32) : Prop := (¬ ((v_X4_isSide x0) = 0) → (¬ (v_X4_isBlock x1) = 0 → p_X2_blockOvers σ (σ (v_X0_side 7 x0) 3) x1))
theorem m_X4_block {s : List Int32} {σ : sg_S} (x0 : Int32) (x1 : Int32) (hp : p_X4_block σ x0 x1) : Ct s 85 [rf 0, .inl x0, .inl x1] σ [.inl (v_X4_block σ x0 x1)] σ := by
  refine ct_v (la := [some (rf 0), some (.inl x0), some (.inl x1)]) Kq_0 rfl rfl rfl rfl rfl rfl rfl (cgV ?_)
  unfold v_X4_block
  unfold p_X4_block at hp
  refine rt_ln rfl rfl ?_
  refine rt_is (σ1 := σ) rfl rfl rfl (m_X4_isSide x0) ?_
  show RtF bk (fV σ) s 85 4 [some (rf 0), some (.inl x0), some (.inl x1)] [.inl (v_X4_isSide x0)] σ _
  refine rt_if rfl rfl (fun h => ?_) (fun h => ?_)
  · refine rt_k1 rfl ck1_m1 ?_
    exact rt_eV rfl
  · replace hp := hp h
    refine rt_ln rfl rfl ?_
    refine rt_is (σ1 := σ) rfl rfl rfl (m_X4_isBlock x1) ?_
    show RtF bk (fV σ) s 85 11 [some (rf 0), some (.inl x0), some (.inl x1)] [.inl (v_X4_isBlock x1)] σ _
    refine rt_if rfl rfl (fun h => ?_) (fun h => ?_)
    · replace hp := hp h
      refine rt_lna rfl rfl ?_
      refine rt_gfr rfl Kq_0 (by decide) rfl ?_
      refine rt_lna rfl rfl ?_
      refine rt_gfr rfl Kq_0 (by decide) rfl ?_
      refine rt_ln rfl rfl ?_
      refine rt_iv (σ1 := σ) rfl rfl rfl (m_X0_side 7 x0 Kq_7) ?_
      show RtF bk (fV σ) s 85 28 [some (rf 0), some (.inl x0), some (.inl x1)] [rf (v_X0_side 7 x0), rf 1] σ _
      refine rt_gfi rfl (Kside Kq_7) (by decide) rfl rfl ?_
      refine rt_ln rfl rfl ?_
      refine rt_iv (σ1 := σ) rfl rfl rfl (m_X2_blockOvers (σ (v_X0_side 7 x0) 3) x1 hp) ?_
      show RtF bk (fV σ) s 85 35 [some (rf 0), some (.inl x0), some (.inl x1)] [.inl (v_X2_blockOvers σ (σ (v_X0_side 7 x0) 3) x1)] σ _
      exact rt_eV rfl
    · refine rt_k1 rfl ck1_m1 ?_
      exact rt_eV rfl
noncomputable def v_X4_inBlock (σ : sg_S) (x0 : Int32) (x1 : Int32) (x2 : Int32) : Int32 := (if (v_X4_isSide x0) = 0 then (-1 : Int32) else (if (v_X4_isBlock x1) = 0 then (-1 : Int32) else (if ¬ (v_X4_isOverFact x2) = 0 then (v_X0_blockFact σ 7 x0 x1 x2) else (-1 : Int32))))
noncomputable def p_X4_inBlock (σ : sg_S) (x0 : Int32) (x1 : Int32) (x2 : Int32) : Prop := (¬ ((v_X4_isSide x0) = 0) → (¬ ((v_X4_isBlock x1) = 0) → (¬ (v_X4_isOverFact x2) = 0 → p_X0_blockFact σ 7 x0 x1 x2)))
theorem m_X4_inBlock {s : List Int32} {σ : sg_S} (x0 : Int32) (x1 : Int32) (x2 : Int32) (hp : p_X4_inBlock σ x0 x1 x2) : Ct s 87 [rf 0, .inl x0, .inl x1, .inl x2] σ [.inl (v_X4_inBlock σ x0 x1 x2)] σ := by
  refine ct_v (la := [some (rf 0), some (.inl x0), some (.inl x1), some (.inl x2)]) Kq_0 rfl rfl rfl rfl rfl rfl rfl (cgV ?_)
  unfold v_X4_inBlock
  unfold p_X4_inBlock at hp
  refine rt_ln rfl rfl ?_
  refine rt_is (σ1 := σ) rfl rfl rfl (m_X4_isSide x0) ?_
  show RtF bk (fV σ) s 87 4 [some (rf 0), some (.inl x0), some (.inl x1), some (.inl x2)] [.inl (v_X4_isSide x0)] σ _
  refine rt_if rfl rfl (fun h => ?_) (fun h => ?_)
  · refine rt_k1 rfl ck1_m1 ?_
    exact rt_eV rfl
  · replace hp := hp h
    refine rt_ln rfl rfl ?_
    refine rt_is (σ1 := σ) rfl rfl rfl (m_X4_isBlock x1) ?_
    show RtF bk (fV σ) s 87 11 [some (rf 0), some (.inl x0), some (.inl x1), some (.inl x2)] [.inl (v_X4_isBlock x1)] σ _
    refine rt_if rfl rfl (fun h => ?_) (fun h => ?_)
    · refine rt_k1 rfl ck1_m1 ?_
      exact rt_eV rfl
    · replace hp := hp h
      refine rt_ln rfl rfl ?_
      refine rt_is (σ1 := σ) rfl rfl rfl (m_X4_isOverFact x2) ?_
      show RtF bk (fV σ) s 87 18 [some (rf 0), some (.inl x0), some (.inl x1), some (.inl x2)] [.inl (v_X4_isOverFact x2)] σ _
      refine rt_if rfl rfl (fun h => ?_) (fun h => ?_)
      · replace hp := hp h
        refine rt_lna rfl rfl ?_
        refine rt_gfr rfl Kq_0 (by decide) rfl ?_
        refine rt_ln rfl rfl ?_
        refine rt_ln rfl rfl ?_
        refine rt_ln rfl rfl ?_
        refine rt_iv (σ1 := σ) rfl rfl rfl (m_X0_blockFact 7 x0 x1 x2 Kq_7 hp) ?_
        show RtF bk (fV σ) s 87 33 [some (rf 0), some (.inl x0), some (.inl x1), some (.inl x2)] [.inl (v_X0_blockFact σ 7 x0 x1 x2)] σ _
        exact rt_eV rfl
      · refine rt_k1 rfl ck1_m1 ?_
        exact rt_eV rfl
noncomputable def v_X4_fall (σ : sg_S) (x0 : Int32) (x1 : Int32) (x2 : Int32) : Int32 := (if (v_X4_isSide x0) = 0 then (-1 : Int32) else (if ¬ (v_X1_hasFall σ (v_X0_side 7 x0) x1) = 0 then (if x2 = 0 then (v_X1_runsAtFall σ (v_X0_side 7 x0) x1) else (if x2 = 1 then (v_X1_ballsAtFall σ (v_X0_side 7 x0) x1) else (if x2 = 2 then (v_X1_standOf σ (v_X0_side 7 x0) x1) else (-1 : Int32)))) else (-1 : Int32)))
noncomputable def p_X4_fall (σ : sg_S) (x0 : Int32) (x1 : Int32) (x2 : Int32) : Prop := (¬ ((v_X4_isSide x0) = 0) → (¬ (v_X1_hasFall σ (v_X0_side 7 x0) x1) = 0 → ((x2 = 0 → p_X1_runsAtFall σ (v_X0_side 7 x0) x1) ∧ (¬ (x2 = 0) → ((x2 = 1 → p_X1_ballsAtFall σ (v_X0_side 7 x0) x1) ∧ (¬ (x2 = 1) → (x2 = 2 → p_X1_standOf σ (v_X0_side 7 x0) x1)))))))
theorem m_X4_fall {s : List Int32} {σ : sg_S} (x0 : Int32) (x1 : Int32) (x2 : Int32) (hp : p_X4_fall σ x0 x1 x2) : Ct s 88 [rf 0, .inl x0, .inl x1, .inl x2] σ [.inl (v_X4_fall σ x0 x1 x2)] σ := by
  refine ct_v (la := [some (rf 0), some (.inl x0), some (.inl x1), some (.inl x2), none]) Kq_0 rfl rfl rfl rfl rfl rfl rfl (cgV ?_)
  unfold v_X4_fall
  unfold p_X4_fall at hp
  refine rt_ln rfl rfl ?_
  refine rt_is (σ1 := σ) rfl rfl rfl (m_X4_isSide x0) ?_
  show RtF bk (fV σ) s 88 4 [some (rf 0), some (.inl x0), some (.inl x1), some (.inl x2), none] [.inl (v_X4_isSide x0)] σ _
  refine rt_if rfl rfl (fun h => ?_) (fun h => ?_)
  · refine rt_k1 rfl ck1_m1 ?_
    exact rt_eV rfl
  · replace hp := hp h
    refine rt_lna rfl rfl ?_
    refine rt_gfr rfl Kq_0 (by decide) rfl ?_
    refine rt_ln rfl rfl ?_
    refine rt_iv (σ1 := σ) rfl rfl rfl (m_X0_side 7 x0 Kq_7) ?_
    show RtF bk (fV σ) s 88 15 [some (rf 0), some (.inl x0), some (.inl x1), some (.inl x2), none] [rf (v_X0_side 7 x0)] σ _
    refine rt_ln rfl rfl ?_
    refine rt_iv (σ1 := σ) rfl rfl rfl (m_X1_hasFall (v_X0_side 7 x0) x1 (Kside Kq_7)) ?_
    show RtF bk (fV σ) s 88 19 [some (rf 0), some (.inl x0), some (.inl x1), some (.inl x2), none] [.inl (v_X1_hasFall σ (v_X0_side 7 x0) x1)] σ _
    refine rt_if rfl rfl (fun h => ?_) (fun h => ?_)
    · replace hp := hp h
      refine rt_lna rfl rfl ?_
      refine rt_gfr rfl Kq_0 (by decide) rfl ?_
      refine rt_ln rfl rfl ?_
      refine rt_iv (σ1 := σ) rfl rfl rfl (m_X0_side 7 x0 Kq_7) ?_
      show RtF bk (fV σ) s 88 32 [some (rf 0), some (.inl x0), some (.inl x1), some (.inl x2), none] [rf (v_X0_side 7 x0)] σ _
      refine rt_sta (la1 := [some (rf 0), some (.inl x0), some (.inl x1), some (.inl x2), some (rf (v_X0_side 7 x0))]) rfl rfl rfl ?_
      refine rt_ln rfl rfl ?_
      refine rt_ite (fun h => ?_) (fun h => ?_)
      · replace hp := hp.1 h
        refine rt_eq h ?_
        refine rt_step rfl rfl rfl ?_
        refine rt_lda rfl rfl ?_
        refine rt_ln rfl rfl ?_
        refine rt_iv (σ1 := σ) rfl rfl rfl (m_X1_runsAtFall (v_X0_side 7 x0) x1 (Kside Kq_7) hp) ?_
        show RtF bk (fV σ) s 88 66 [some (rf 0), some (.inl x0), some (.inl x1), some (.inl x2), some (rf (v_X0_side 7 x0))] [.inl (v_X1_runsAtFall σ (v_X0_side 7 x0) x1)] σ _
        exact rt_eV rfl
      · have e0 := h
        replace hp := hp.2 h
        refine rt_ite (fun h => ?_) (fun h => ?_)
        · replace hp := hp.1 h
          refine rt_eq h ?_
          refine rt_step rfl rfl rfl ?_
          refine rt_lda rfl rfl ?_
          refine rt_ln rfl rfl ?_
          refine rt_iv (σ1 := σ) rfl rfl rfl (m_X1_ballsAtFall (v_X0_side 7 x0) x1 (Kside Kq_7) hp) ?_
          show RtF bk (fV σ) s 88 73 [some (rf 0), some (.inl x0), some (.inl x1), some (.inl x2), some (rf (v_X0_side 7 x0))] [.inl (v_X1_ballsAtFall σ (v_X0_side 7 x0) x1)] σ _
          exact rt_eV rfl
        · have e1 := h
          replace hp := hp.2 h
          refine rt_ite (fun h => ?_) (fun h => ?_)
          · replace hp := hp h
            refine rt_eq h ?_
            refine rt_step rfl rfl rfl ?_
            refine rt_lda rfl rfl ?_
            refine rt_ln rfl rfl ?_
            refine rt_iv (σ1 := σ) rfl rfl rfl (m_X1_standOf (v_X0_side 7 x0) x1 (Kside Kq_7) hp) ?_
            show RtF bk (fV σ) s 88 80 [some (rf 0), some (.inl x0), some (.inl x1), some (.inl x2), some (rf (v_X0_side 7 x0))] [.inl (v_X1_standOf σ (v_X0_side 7 x0) x1)] σ _
            exact rt_eV rfl
          · have e2 := h
            refine rt_tsd (pc1 := 81) rfl (ts_out (n := 3) (by decide) (fun k hk => match k, hk with | 0, _ => e0 | 1, _ => e1 | 2, _ => e2 | k + 3, hk => absurd hk (by omega))) rfl ?_
            refine rt_k1 rfl ck1_m1 ?_
            exact rt_eV rfl
    · refine rt_k1 rfl ck1_m1 ?_
      exact rt_eV rfl
noncomputable def v_X4_lastStand (σ : sg_S) (x0 : Int32) : Int32 := (if (v_X4_isSide x0) = 0 then (-1 : Int32) else (if (σ (v_X0_side 7 x0) 1) < (10 : Int32) then (v_X1_openStand σ (v_X0_side 7 x0)) else (-1 : Int32)))
noncomputable def p_X4_lastStand (σ : sg_S) (x0 : Int32) : Prop := (¬ ((v_X4_isSide x0) = 0) → ((σ (v_X0_side 7 x0) 1) < (10 : Int32) → p_X1_openStand σ (v_X0_side 7 x0)))
theorem m_X4_lastStand {s : List Int32} {σ : sg_S} (x0 : Int32) (hp : p_X4_lastStand σ x0) : Ct s 89 [rf 0, .inl x0] σ [.inl (v_X4_lastStand σ x0)] σ := by
  refine ct_v (la := [some (rf 0), some (.inl x0)]) Kq_0 rfl rfl rfl rfl rfl rfl rfl (cgV ?_)
  unfold v_X4_lastStand
  unfold p_X4_lastStand at hp
  refine rt_ln rfl rfl ?_
  refine rt_is (σ1 := σ) rfl rfl rfl (m_X4_isSide x0) ?_
  show RtF bk (fV σ) s 89 4 [some (rf 0), some (.inl x0)] [.inl (v_X4_isSide x0)] σ _
  refine rt_if rfl rfl (fun h => ?_) (fun h => ?_)
  · refine rt_k1 rfl ck1_m1 ?_
    exact rt_eV rfl
  · replace hp := hp h
    refine rt_lna rfl rfl ?_
    refine rt_gfr rfl Kq_0 (by decide) rfl ?_
    refine rt_ln rfl rfl ?_
    refine rt_iv (σ1 := σ) rfl rfl rfl (m_X0_side 7 x0 Kq_7) ?_
    show RtF bk (fV σ) s 89 15 [some (rf 0), some (.inl x0)] [rf (v_X0_side 7 x0)] σ _
    refine rt_gfi rfl (Kside Kq_7) (by decide) rfl rfl ?_
    refine rt_k2 rfl ck2_10 ?_
    refine rt_ic rfl rfl (fun h => ?_) (fun h => ?_)
    · replace hp := hp h
      refine rt_lna rfl rfl ?_
      refine rt_gfr rfl Kq_0 (by decide) rfl ?_
      refine rt_ln rfl rfl ?_
      refine rt_iv (σ1 := σ) rfl rfl rfl (m_X0_side 7 x0 Kq_7) ?_
      show RtF bk (fV σ) s 89 33 [some (rf 0), some (.inl x0)] [rf (v_X0_side 7 x0)] σ _
      refine rt_iv (σ1 := σ) rfl rfl rfl (m_X1_openStand (v_X0_side 7 x0) (Kside Kq_7) hp) ?_
      show RtF bk (fV σ) s 89 36 [some (rf 0), some (.inl x0)] [.inl (v_X1_openStand σ (v_X0_side 7 x0))] σ _
      exact rt_eV rfl
    · refine rt_k1 rfl ck1_m1 ?_
      exact rt_eV rfl
noncomputable def v_X4_bestStand (σ : sg_S) (x0 : Int32) : Int32 := (if (v_X4_isSide x0) = 0 then (-1 : Int32) else (v_X1_greatestStand σ (v_X0_side 7 x0)))
noncomputable def p_X4_bestStand (σ : sg_S) (x0 : Int32) : Prop := (¬ ((v_X4_isSide x0) = 0) → p_X1_greatestStand σ (v_X0_side 7 x0))
theorem m_X4_bestStand {s : List Int32} {σ : sg_S} (x0 : Int32) (hp : p_X4_bestStand σ x0) : Ct s 90 [rf 0, .inl x0] σ [.inl (v_X4_bestStand σ x0)] σ := by
  refine ct_v (la := [some (rf 0), some (.inl x0)]) Kq_0 rfl rfl rfl rfl rfl rfl rfl (cgV ?_)
  unfold v_X4_bestStand
  unfold p_X4_bestStand at hp
  refine rt_ln rfl rfl ?_
  refine rt_is (σ1 := σ) rfl rfl rfl (m_X4_isSide x0) ?_
  show RtF bk (fV σ) s 90 4 [some (rf 0), some (.inl x0)] [.inl (v_X4_isSide x0)] σ _
  refine rt_if rfl rfl (fun h => ?_) (fun h => ?_)
  · refine rt_k1 rfl ck1_m1 ?_
    exact rt_eV rfl
  · replace hp := hp h
    refine rt_lna rfl rfl ?_
    refine rt_gfr rfl Kq_0 (by decide) rfl ?_
    refine rt_ln rfl rfl ?_
    refine rt_iv (σ1 := σ) rfl rfl rfl (m_X0_side 7 x0 Kq_7) ?_
    show RtF bk (fV σ) s 90 15 [some (rf 0), some (.inl x0)] [rf (v_X0_side 7 x0)] σ _
    refine rt_iv (σ1 := σ) rfl rfl rfl (m_X1_greatestStand (v_X0_side 7 x0) (Kside Kq_7) hp) ?_
    show RtF bk (fV σ) s 90 18 [some (rf 0), some (.inl x0)] [.inl (v_X1_greatestStand σ (v_X0_side 7 x0))] σ _
    refine rt_go rfl ?_
    exact rt_eV rfl
noncomputable def v_X4_made (σ : sg_S) (x0 : Int32) (x1 : Int32) : Int32 := (if (v_X4_isSide x0) = 0 then (-1 : Int32) else (if x1 < 0 then (-1 : Int32) else (if x1 ≤ (6 : Int32) then (v_X1_ballsThatMade σ (v_X0_side 7 x0) x1) else (-1 : Int32))))
noncomputable def p_X4_made (x0 : Int32) (x1 : Int32) : Prop := (¬ ((v_X4_isSide x0) = 0) → (¬ (x1 < 0) → (x1 ≤ (6 : Int32) → p_X1_ballsThatMade (v_X0_side 7 x0) x1)))
theorem m_X4_made {s : List Int32} {σ : sg_S} (x0 : Int32) (x1 : Int32) (hp : p_X4_made x0 x1) : Ct s 91 [rf 0, .inl x0, .inl x1] σ [.inl (v_X4_made σ x0 x1)] σ := by
  refine ct_v (la := [some (rf 0), some (.inl x0), some (.inl x1)]) Kq_0 rfl rfl rfl rfl rfl rfl rfl (cgV ?_)
  unfold v_X4_made
  unfold p_X4_made at hp
  refine rt_ln rfl rfl ?_
  refine rt_is (σ1 := σ) rfl rfl rfl (m_X4_isSide x0) ?_
  show RtF bk (fV σ) s 91 4 [some (rf 0), some (.inl x0), some (.inl x1)] [.inl (v_X4_isSide x0)] σ _
  refine rt_if rfl rfl (fun h => ?_) (fun h => ?_)
  · refine rt_k1 rfl ck1_m1 ?_
    exact rt_eV rfl
  · replace hp := hp h
    refine rt_ln rfl rfl ?_
    refine rt_if rfl rfl (fun h => ?_) (fun h => ?_)
    · refine rt_k1 rfl ck1_m1 ?_
      exact rt_eV rfl
    · replace hp := hp h
      refine rt_ln rfl rfl ?_
      refine rt_k2 rfl ck2_6 ?_
      refine rt_ic rfl rfl (fun h => ?_) (fun h => ?_)
      · replace hp := hp h
        refine rt_lna rfl rfl ?_
        refine rt_gfr rfl Kq_0 (by decide) rfl ?_
        refine rt_ln rfl rfl ?_
        refine rt_iv (σ1 := σ) rfl rfl rfl (m_X0_side 7 x0 Kq_7) ?_
        show RtF bk (fV σ) s 91 27 [some (rf 0), some (.inl x0), some (.inl x1)] [rf (v_X0_side 7 x0)] σ _
        refine rt_ln rfl rfl ?_
        refine rt_iv (σ1 := σ) rfl rfl rfl (m_X1_ballsThatMade (v_X0_side 7 x0) x1 (Kside Kq_7) hp) ?_
        show RtF bk (fV σ) s 91 31 [some (rf 0), some (.inl x0), some (.inl x1)] [.inl (v_X1_ballsThatMade σ (v_X0_side 7 x0) x1)] σ _
        exact rt_eV rfl
      · refine rt_k1 rfl ck1_m1 ?_
        exact rt_eV rfl
noncomputable def v_X4_bestOver (σ : sg_S) (x0 : Int32) : Int32 := (if ¬ (v_X4_isSide x0) = 0 then (if ¬ (σ (v_X0_side 7 x0) 2) = 0 then (v_X1_greatestOver σ (v_X0_side 7 x0)) else (if ¬ (σ (v_X0_side 7 x0) 0) = 0 then (v_X1_greatestOver σ (v_X0_side 7 x0)) else (-1 : Int32))) else (-1 : Int32))
noncomputable def p_X4_bestOver (σ : sg_S) (x0 : Int32) : Prop := (¬ (v_X4_isSide x0) = 0 → ((¬ (σ (v_X0_side 7 x0) 2) = 0 → p_X1_greatestOver σ (v_X0_side 7 x0)) ∧ (¬ (¬ (σ (v_X0_side 7 x0) 2) = 0) → (¬ (σ (v_X0_side 7 x0) 0) = 0 → p_X1_greatestOver σ (v_X0_side 7 x0)))))
theorem m_X4_bestOver {s : List Int32} {σ : sg_S} (x0 : Int32) (hp : p_X4_bestOver σ x0) : Ct s 92 [rf 0, .inl x0] σ [.inl (v_X4_bestOver σ x0)] σ := by
  refine ct_v (la := [some (rf 0), some (.inl x0), none]) Kq_0 rfl rfl rfl rfl rfl rfl rfl (cgV ?_)
  unfold v_X4_bestOver
  unfold p_X4_bestOver at hp
  refine rt_ln rfl rfl ?_
  refine rt_is (σ1 := σ) rfl rfl rfl (m_X4_isSide x0) ?_
  show RtF bk (fV σ) s 92 4 [some (rf 0), some (.inl x0), none] [.inl (v_X4_isSide x0)] σ _
  refine rt_if rfl rfl (fun h => ?_) (fun h => ?_)
  · replace hp := hp h
    refine rt_lna rfl rfl ?_
    refine rt_gfr rfl Kq_0 (by decide) rfl ?_
    refine rt_ln rfl rfl ?_
    refine rt_iv (σ1 := σ) rfl rfl rfl (m_X0_side 7 x0 Kq_7) ?_
    show RtF bk (fV σ) s 92 17 [some (rf 0), some (.inl x0), none] [rf (v_X0_side 7 x0)] σ _
    refine rt_sna (la1 := [some (rf 0), some (.inl x0), some (rf (v_X0_side 7 x0))]) rfl rfl rfl ?_
    refine rt_lna rfl rfl ?_
    refine rt_gfi rfl (Kside Kq_7) (by decide) rfl rfl ?_
    refine rt_if rfl rfl (fun h => ?_) (fun h => ?_)
    · replace hp := hp.1 h
      refine rt_lna rfl rfl ?_
      refine rt_iv (σ1 := σ) rfl rfl rfl (m_X1_greatestOver (v_X0_side 7 x0) (Kside Kq_7) hp) ?_
      show RtF bk (fV σ) s 92 40 [some (rf 0), some (.inl x0), some (rf (v_X0_side 7 x0))] [.inl (v_X1_greatestOver σ (v_X0_side 7 x0))] σ _
      exact rt_eV rfl
    · replace hp := hp.2 h
      refine rt_lna rfl rfl ?_
      refine rt_gfi rfl (Kside Kq_7) (by decide) rfl rfl ?_
      refine rt_if rfl rfl (fun h => ?_) (fun h => ?_)
      · replace hp := hp h
        refine rt_lna rfl rfl ?_
        refine rt_iv (σ1 := σ) rfl rfl rfl (m_X1_greatestOver (v_X0_side 7 x0) (Kside Kq_7) hp) ?_
        show RtF bk (fV σ) s 92 40 [some (rf 0), some (.inl x0), some (rf (v_X0_side 7 x0))] [.inl (v_X1_greatestOver σ (v_X0_side 7 x0))] σ _
        exact rt_eV rfl
      · refine rt_k1 rfl ck1_m1 ?_
        refine rt_go rfl ?_
        exact rt_eV rfl
  · refine rt_k1 rfl ck1_m1 ?_
    exact rt_eV rfl
noncomputable def v_X4_projected (σ : sg_S) : Int32 := (if ¬ (σ 7 3) = 0 then (-1 : Int32) else (v_X0_projection σ 7))
noncomputable def p_X4_projected (σ : sg_S) : Prop := (¬ (¬ (σ 7 3) = 0) → p_X0_projection σ 7)
theorem m_X4_projected {s : List Int32} {σ : sg_S} (hp : p_X4_projected σ) : Ct s 94 [rf 0] σ [.inl (v_X4_projected σ)] σ := by
  refine ct_v (la := [some (rf 0)]) Kq_0 rfl rfl rfl rfl rfl rfl rfl (cgV ?_)
  unfold v_X4_projected
  unfold p_X4_projected at hp
  refine rt_lna rfl rfl ?_
  refine rt_gfr rfl Kq_0 (by decide) rfl ?_
  refine rt_gfi rfl Kq_7 (by decide) rfl rfl ?_
  refine rt_if rfl rfl (fun h => ?_) (fun h => ?_)
  · refine rt_k1 rfl ck1_m1 ?_
    exact rt_eV rfl
  · replace hp := hp h
    refine rt_lna rfl rfl ?_
    refine rt_gfr rfl Kq_0 (by decide) rfl ?_
    refine rt_iv (σ1 := σ) rfl rfl rfl (m_X0_projection 7 Kq_7 hp) ?_
    show RtF bk (fV σ) s 94 17 [some (rf 0)] [.inl (v_X0_projection σ 7)] σ _
    refine rt_go rfl ?_
    exact rt_eV rfl
noncomputable def v_X4_target (σ : sg_S) : Int32 := (v_X0_theTarget σ 7)
noncomputable def p_X4_target (σ : sg_S) : Prop := p_X0_theTarget σ 7
theorem m_X4_target {s : List Int32} {σ : sg_S} (hp : p_X4_target σ) : Ct s 95 [rf 0] σ [.inl (v_X4_target σ)] σ := by
  refine ct_v (la := [some (rf 0)]) Kq_0 rfl rfl rfl rfl rfl rfl rfl (cgV ?_)
  unfold v_X4_target
  unfold p_X4_target at hp
  refine rt_lna rfl rfl ?_
  refine rt_gfr rfl Kq_0 (by decide) rfl ?_
  refine rt_iv (σ1 := σ) rfl rfl rfl (m_X0_theTarget 7 Kq_7 hp) ?_
  show RtF bk (fV σ) s 95 7 [some (rf 0)] [.inl (v_X0_theTarget σ 7)] σ _
  exact rt_eV rfl
noncomputable def v_X4_result (σ : sg_S) : Int32 := (if ¬ (σ 7 3) = (2 : Int32) then (-1 : Int32) else (v_X0_outcome σ 7 (σ 14 6)))
noncomputable def p_X4_result (σ : sg_S) : Prop := (¬ (¬ (σ 7 3) = (2 : Int32)) → p_X0_outcome σ 7 (σ 14 6))
theorem m_X4_result {s : List Int32} {σ : sg_S} (hp : p_X4_result σ) : Ct s 97 [rf 0] σ [.inl (v_X4_result σ)] σ := by
  refine ct_v (la := [some (rf 0)]) Kq_0 rfl rfl rfl rfl rfl rfl rfl (cgV ?_)
  unfold v_X4_result
  unfold p_X4_result at hp
  refine rt_lna rfl rfl ?_
  refine rt_gfr rfl Kq_0 (by decide) rfl ?_
  refine rt_gfi rfl Kq_7 (by decide) rfl rfl ?_
  refine rt_k1 rfl ck1_2 ?_
  refine rt_ic rfl rfl (fun h => ?_) (fun h => ?_)
  · refine rt_k1 rfl ck1_m1 ?_
    exact rt_eV rfl
  · replace hp := hp h
    refine rt_lna rfl rfl ?_
    refine rt_gfr rfl Kq_0 (by decide) rfl ?_
    refine rt_lna rfl rfl ?_
    refine rt_gfr rfl Kq_0 (by decide) rfl ?_
    refine rt_gfr rfl Kq_7 (by decide) rfl ?_
    refine rt_gfi rfl Kq_14 (by decide) rfl rfl ?_
    refine rt_iv (σ1 := σ) rfl rfl rfl (m_X0_outcome 7 (σ 14 6) Kq_7 hp) ?_
    show RtF bk (fV σ) s 97 28 [some (rf 0)] [.inl (v_X0_outcome σ 7 (σ 14 6))] σ _
    refine rt_go rfl ?_
    exact rt_eV rfl
noncomputable def v_X4_margin (σ : sg_S) : Int32 := (if ¬ (σ 7 3) = (2 : Int32) then (-1 : Int32) else (v_X0_leadAtEnd σ 7))
noncomputable def p_X4_margin (σ : sg_S) : Prop := (¬ (¬ (σ 7 3) = (2 : Int32)) → p_X0_leadAtEnd σ 7)
theorem m_X4_margin {s : List Int32} {σ : sg_S} (hp : p_X4_margin σ) : Ct s 98 [rf 0] σ [.inl (v_X4_margin σ)] σ := by
  refine ct_v (la := [some (rf 0)]) Kq_0 rfl rfl rfl rfl rfl rfl rfl (cgV ?_)
  unfold v_X4_margin
  unfold p_X4_margin at hp
  refine rt_lna rfl rfl ?_
  refine rt_gfr rfl Kq_0 (by decide) rfl ?_
  refine rt_gfi rfl Kq_7 (by decide) rfl rfl ?_
  refine rt_k1 rfl ck1_2 ?_
  refine rt_ic rfl rfl (fun h => ?_) (fun h => ?_)
  · refine rt_k1 rfl ck1_m1 ?_
    exact rt_eV rfl
  · replace hp := hp h
    refine rt_lna rfl rfl ?_
    refine rt_gfr rfl Kq_0 (by decide) rfl ?_
    refine rt_iv (σ1 := σ) rfl rfl rfl (m_X0_leadAtEnd 7 Kq_7 hp) ?_
    show RtF bk (fV σ) s 98 18 [some (rf 0)] [.inl (v_X0_leadAtEnd σ 7)] σ _
    refine rt_go rfl ?_
    exact rt_eV rfl
noncomputable def v_X4_ifCut (σ : sg_S) (x0 : Int32) : Int32 := (if ¬ (v_X4_secondCanBeCut σ x0) = 0 then (v_X0_targetIfCut σ 7 x0) else (-1 : Int32))
noncomputable def p_X4_ifCut (σ : sg_S) (x0 : Int32) : Prop := (¬ (v_X4_secondCanBeCut σ x0) = 0 → p_X0_targetIfCut σ 7 x0)
theorem m_X4_ifCut {s : List Int32} {σ : sg_S} (x0 : Int32) (hp : p_X4_ifCut σ x0) : Ct s 101 [rf 0, .inl x0] σ [.inl (v_X4_ifCut σ x0)] σ := by
  refine ct_v (la := [some (rf 0), some (.inl x0)]) Kq_0 rfl rfl rfl rfl rfl rfl rfl (cgV ?_)
  unfold v_X4_ifCut
  unfold p_X4_ifCut at hp
  refine rt_lna rfl rfl ?_
  refine rt_ln rfl rfl ?_
  refine rt_iv (σ1 := σ) rfl rfl rfl (m_X4_secondCanBeCut x0) ?_
  show RtF bk (fV σ) s 101 5 [some (rf 0), some (.inl x0)] [.inl (v_X4_secondCanBeCut σ x0)] σ _
  refine rt_if rfl rfl (fun h => ?_) (fun h => ?_)
  · replace hp := hp h
    refine rt_lna rfl rfl ?_
    refine rt_gfr rfl Kq_0 (by decide) rfl ?_
    refine rt_ln rfl rfl ?_
    refine rt_iv (σ1 := σ) rfl rfl rfl (m_X0_targetIfCut 7 x0 Kq_7 hp) ?_
    show RtF bk (fV σ) s 101 18 [some (rf 0), some (.inl x0)] [.inl (v_X0_targetIfCut σ 7 x0)] σ _
    exact rt_eV rfl
  · refine rt_k1 rfl ck1_m1 ?_
    exact rt_eV rfl
noncomputable def v_X4_ifClosed (σ : sg_S) : Int32 := (if ¬ (σ 7 3) = (1 : Int32) then (-1 : Int32) else (v_X0_outcome σ 7 (1 : Int32)))
noncomputable def p_X4_ifClosed (σ : sg_S) : Prop := (¬ (¬ (σ 7 3) = (1 : Int32)) → p_X0_outcome σ 7 (1 : Int32))
theorem m_X4_ifClosed {s : List Int32} {σ : sg_S} (hp : p_X4_ifClosed σ) : Ct s 102 [rf 0] σ [.inl (v_X4_ifClosed σ)] σ := by
  refine ct_v (la := [some (rf 0)]) Kq_0 rfl rfl rfl rfl rfl rfl rfl (cgV ?_)
  unfold v_X4_ifClosed
  unfold p_X4_ifClosed at hp
  refine rt_lna rfl rfl ?_
  refine rt_gfr rfl Kq_0 (by decide) rfl ?_
  refine rt_gfi rfl Kq_7 (by decide) rfl rfl ?_
  refine rt_k1 rfl ck1_1 ?_
  refine rt_ic rfl rfl (fun h => ?_) (fun h => ?_)
  · refine rt_k1 rfl ck1_m1 ?_
    exact rt_eV rfl
  · replace hp := hp h
    refine rt_lna rfl rfl ?_
    refine rt_gfr rfl Kq_0 (by decide) rfl ?_
    refine rt_k1 rfl ck1_1 ?_
    refine rt_iv (σ1 := σ) rfl rfl rfl (m_X0_outcome 7 (1 : Int32) Kq_7 hp) ?_
    show RtF bk (fV σ) s 102 19 [some (rf 0)] [.inl (v_X0_outcome σ 7 (1 : Int32))] σ _
    refine rt_go rfl ?_
    exact rt_eV rfl
noncomputable def v_X4_ifRuns (σ : sg_S) (x0 : Int32) : Int32 := (if x0 < 0 then (-1 : Int32) else (if (999 : Int32) < x0 then (-1 : Int32) else (if ¬ (v_X0_hasTarget σ 7) = 0 then (v_X0_targetBy σ 7 x0 (σ 14 7)) else (-1 : Int32))))
noncomputable def p_X4_ifRuns (σ : sg_S) (x0 : Int32) : Prop := (¬ (x0 < 0) → (¬ ((999 : Int32) < x0) → (¬ (v_X0_hasTarget σ 7) = 0 → p_X0_targetBy σ 7 x0 (σ 14 7))))
theorem m_X4_ifRuns {s : List Int32} {σ : sg_S} (x0 : Int32) (hp : p_X4_ifRuns σ x0) : Ct s 103 [rf 0, .inl x0] σ [.inl (v_X4_ifRuns σ x0)] σ := by
  refine ct_v (la := [some (rf 0), some (.inl x0)]) Kq_0 rfl rfl rfl rfl rfl rfl rfl (cgV ?_)
  unfold v_X4_ifRuns
  unfold p_X4_ifRuns at hp
  refine rt_ln rfl rfl ?_
  refine rt_if rfl rfl (fun h => ?_) (fun h => ?_)
  · refine rt_k1 rfl ck1_m1 ?_
    exact rt_eV rfl
  · replace hp := hp h
    refine rt_ln rfl rfl ?_
    refine rt_k3 rfl ck3_999 ?_
    refine rt_ic rfl rfl (fun h => ?_) (fun h => ?_)
    · refine rt_k1 rfl ck1_m1 ?_
      exact rt_eV rfl
    · replace hp := hp h
      refine rt_lna rfl rfl ?_
      refine rt_gfr rfl Kq_0 (by decide) rfl ?_
      refine rt_iv (σ1 := σ) rfl rfl rfl (m_X0_hasTarget 7 Kq_7) ?_
      show RtF bk (fV σ) s 103 18 [some (rf 0), some (.inl x0)] [.inl (v_X0_hasTarget σ 7)] σ _
      refine rt_if rfl rfl (fun h => ?_) (fun h => ?_)
      · replace hp := hp h
        refine rt_lna rfl rfl ?_
        refine rt_gfr rfl Kq_0 (by decide) rfl ?_
        refine rt_ln rfl rfl ?_
        refine rt_lna rfl rfl ?_
        refine rt_gfr rfl Kq_0 (by decide) rfl ?_
        refine rt_gfr rfl Kq_7 (by decide) rfl ?_
        refine rt_gfi rfl Kq_14 (by decide) rfl rfl ?_
        refine rt_iv (σ1 := σ) rfl rfl rfl (m_X0_targetBy 7 x0 (σ 14 7) Kq_7 hp) ?_
        show RtF bk (fV σ) s 103 41 [some (rf 0), some (.inl x0)] [.inl (v_X0_targetBy σ 7 x0 (σ 14 7))] σ _
        exact rt_eV rfl
      · refine rt_k1 rfl ck1_m1 ?_
        exact rt_eV rfl
noncomputable def v_X4_leastCut_b2 (σ : sg_S) (k2 : Int32 → Int32 → Int32) (x1_ : Int32) (x2_ : Int32) : Int32 := (if (20 : Int32) ≤ x2_ then (-1 : Int32) else (if (v_X4_secondCanBeCut σ x2_) = 0 then (k2 x1_ (x2_ + (1 : Int32))) else (if ((v_X0_targetIfCut σ 7 x2_) - (σ 14 0)) < x1_ then (k2 x1_ (x2_ + (1 : Int32))) else x2_)))
noncomputable def p_X4_leastCut_b2 (σ : sg_S) (kp2 : Int32 → Int32 → Prop) (x1_ : Int32) (x2_ : Int32) : Prop := (¬ ((20 : Int32) ≤ x2_) → (((v_X4_secondCanBeCut σ x2_) = 0 → (kp2 x1_ (x2_ + (1 : Int32)))) ∧ (¬ ((v_X4_secondCanBeCut σ x2_) = 0) → (p_X0_targetIfCut σ 7 x2_ ∧ (((v_X0_targetIfCut σ 7 x2_) - (σ 14 0)) < x1_ → (kp2 x1_ (x2_ + (1 : Int32))))))))
theorem m_X4_leastCut_b2 {s : List Int32} {σ : sg_S} (k2 : Int32 → Int32 → Int32) (kp2 : Int32 → Int32 → Prop) (hk2 : ∀ (x1_ : Int32) (x2_ : Int32), kp2 x1_ x2_ → RtF bk (fV σ) s 104 2 [some (rf 0), some (.inl x1_), some (.inl x2_)] [] σ (k2 x1_ x2_)) (x1_ : Int32) (x2_ : Int32) (hp : p_X4_leastCut_b2 σ kp2 x1_ x2_) : RtF bk (fV σ) s 104 2 [some (rf 0), some (.inl x1_), some (.inl x2_)] [] σ (v_X4_leastCut_b2 σ k2 x1_ x2_) := by
  unfold v_X4_leastCut_b2
  unfold p_X4_leastCut_b2 at hp
  refine rt_ln rfl rfl ?_
  refine rt_k2 rfl ck2_20 ?_
  refine rt_ic rfl rfl (fun h => ?_) (fun h => ?_)
  · refine rt_k1 rfl ck1_m1 ?_
    exact rt_eV rfl
  · replace hp := hp h
    refine rt_lna rfl rfl ?_
    refine rt_ln rfl rfl ?_
    refine rt_iv (σ1 := σ) rfl rfl rfl (m_X4_secondCanBeCut x2_) ?_
    show RtF bk (fV σ) s 104 13 [some (rf 0), some (.inl x1_), some (.inl x2_)] [.inl (v_X4_secondCanBeCut σ x2_)] σ _
    refine rt_if rfl rfl (fun h => ?_) (fun h => ?_)
    · replace hp := hp.1 h
      refine rt_inc (la1 := [some (rf 0), some (.inl x1_), some (.inl (x2_ + (1 : Int32)))]) rfl rfl ck1_1 rfl ?_
      refine rt_go rfl ?_
      exact hk2 x1_ (x2_ + (1 : Int32)) hp
    · replace hp := hp.2 h
      refine rt_lna rfl rfl ?_
      refine rt_gfr rfl Kq_0 (by decide) rfl ?_
      refine rt_ln rfl rfl ?_
      refine rt_iv (σ1 := σ) rfl rfl rfl (m_X0_targetIfCut 7 x2_ Kq_7 hp.1) ?_
      show RtF bk (fV σ) s 104 24 [some (rf 0), some (.inl x1_), some (.inl x2_)] [.inl (v_X0_targetIfCut σ 7 x2_)] σ _
      replace hp := hp.2
      refine rt_lna rfl rfl ?_
      refine rt_gfr rfl Kq_0 (by decide) rfl ?_
      refine rt_gfr rfl Kq_7 (by decide) rfl ?_
      refine rt_gfi rfl Kq_14 (by decide) rfl rfl ?_
      refine rt_sub rfl ?_
      refine rt_ln rfl rfl ?_
      refine rt_ic rfl rfl (fun h => ?_) (fun h => ?_)
      · replace hp := hp h
        refine rt_inc (la1 := [some (rf 0), some (.inl x1_), some (.inl (x2_ + (1 : Int32)))]) rfl rfl ck1_1 rfl ?_
        refine rt_go rfl ?_
        exact hk2 x1_ (x2_ + (1 : Int32)) hp
      · refine rt_ln rfl rfl ?_
        exact rt_eV rfl
noncomputable def v_X4_leastCut_l2 (σ : sg_S) (n : Nat) : Int32 → Int32 → Int32 := Nat.rec (motive := fun _ => Int32 → Int32 → Int32) (fun _ _ => 0) (fun _ ih => v_X4_leastCut_b2 σ ih) n
noncomputable def p_X4_leastCut_l2 (σ : sg_S) (n : Nat) : Int32 → Int32 → Prop := Nat.rec (motive := fun _ => Int32 → Int32 → Prop) (fun _ _ => False) (fun _ ih => p_X4_leastCut_b2 σ ih) n
theorem m_X4_leastCut_l2 {s : List Int32} {σ : sg_S} : ∀ (n : Nat), ∀ (x1_ : Int32) (x2_ : Int32), p_X4_leastCut_l2 σ n x1_ x2_ → RtF bk (fV σ) s 104 2 [some (rf 0), some (.inl x1_), some (.inl x2_)] [] σ (v_X4_leastCut_l2 σ n x1_ x2_) := by
  intro n
  induction n with
  | zero =>
    intro x1_ x2_ hp
    exact hp.elim
  | succ n ih =>
    intro x1_ x2_ hp
    exact m_X4_leastCut_b2 (v_X4_leastCut_l2 σ n) (p_X4_leastCut_l2 σ n) ih x1_ x2_ hp
noncomputable def v_X4_leastCut (σ : sg_S) (x0 : Int32) : Int32 := (v_X4_leastCut_l2 σ 600 x0 (1 : Int32))
noncomputable def p_X4_leastCut (σ : sg_S) (x0 : Int32) : Prop := (p_X4_leastCut_l2 σ 600 x0 (1 : Int32))
theorem m_X4_leastCut {s : List Int32} {σ : sg_S} (x0 : Int32) (hp : p_X4_leastCut σ x0) : Ct s 104 [rf 0, .inl x0] σ [.inl (v_X4_leastCut σ x0)] σ := by
  refine ct_v (la := [some (rf 0), some (.inl x0), none]) Kq_0 rfl rfl rfl rfl rfl rfl rfl (cgV ?_)
  unfold v_X4_leastCut
  unfold p_X4_leastCut at hp
  refine rt_k1 rfl ck1_1 ?_
  refine rt_sn (la1 := [some (rf 0), some (.inl x0), some (.inl (1 : Int32))]) rfl rfl rfl ?_
  exact m_X4_leastCut_l2 600 x0 (1 : Int32) hp
noncomputable def t_X4_readRow_0 (σ : sg_S) (x1_ : Int32) (x2_ : Int32) : sg_S := (s_X2_propose (r_X3_readNumber σ).2 x1_ x2_ ((r_X3_readNumber σ).2 5 3))
noncomputable def r_X4_readRow_b20 (k20 : sg_S → Int32 → Int32 → Int32 × sg_S) (σ : sg_S) (x1_ : Int32) (x2_ : Int32) : Int32 × sg_S := (if (5 : Int32) ≤ x2_ then (if (r_X3_readByte σ (59 : Int32)).1 = 0 then ((v_X4_faultHere (r_X3_readByte σ (59 : Int32)).2 (1 : Int32)), (r_X3_readByte σ (59 : Int32)).2) else ((0 : Int32), (r_X3_readByte σ (59 : Int32)).2)) else (if ¬ (r_X3_readNumber σ).1 = 0 then (if ¬ (v_X2_canStandInRow x2_ ((r_X3_readNumber σ).2 5 3)) = 0 then (if ¬ x2_ = 0 then (k20 (t_X4_readRow_0 σ x1_ x2_) x1_ (x2_ + (1 : Int32))) else (k20 (r_X3_readNumber σ).2 ((r_X3_readNumber σ).2 5 3) (x2_ + (1 : Int32)))) else ((v_X4_faultHere (r_X3_readNumber σ).2 (2 : Int32)), (r_X3_readNumber σ).2)) else ((v_X4_faultHere (r_X3_readNumber σ).2 (1 : Int32)), (r_X3_readNumber σ).2)))
noncomputable def p_X4_readRow_b20 (kp20 : sg_S → Int32 → Int32 → Prop) (σ : sg_S) (x1_ : Int32) (x2_ : Int32) : Prop := (((5 : Int32) ≤ x2_ → p_X3_readByte σ (59 : Int32)) ∧ (¬ ((5 : Int32) ≤ x2_) → (p_X3_readNumber σ ∧ (¬ (r_X3_readNumber σ).1 = 0 → (¬ (v_X2_canStandInRow x2_ ((r_X3_readNumber σ).2 5 3)) = 0 → ((¬ x2_ = 0 → (p_X2_propose x1_ x2_ ((r_X3_readNumber σ).2 5 3) ∧ (kp20 (t_X4_readRow_0 σ x1_ x2_) x1_ (x2_ + (1 : Int32))))) ∧ (¬ (¬ x2_ = 0) → (kp20 (r_X3_readNumber σ).2 ((r_X3_readNumber σ).2 5 3) (x2_ + (1 : Int32))))))))))
theorem m_X4_readRow_b20 {s : List Int32} (k20 : sg_S → Int32 → Int32 → Int32 × sg_S) (kp20 : sg_S → Int32 → Int32 → Prop) (hk20 : ∀ (σ : sg_S) (x1_ : Int32) (x2_ : Int32), kp20 σ x1_ x2_ → RtF bk fR s 113 20 [some (rf 0), some (.inl x1_), some (.inl x2_)] [] σ (k20 σ x1_ x2_)) (σ : sg_S) (x1_ : Int32) (x2_ : Int32) (hp : p_X4_readRow_b20 kp20 σ x1_ x2_) : RtF bk fR s 113 20 [some (rf 0), some (.inl x1_), some (.inl x2_)] [] σ (r_X4_readRow_b20 k20 σ x1_ x2_) := by
  unfold r_X4_readRow_b20
  unfold p_X4_readRow_b20 at hp
  refine rt_ln rfl rfl ?_
  refine rt_k1 rfl ck1_5 ?_
  refine rt_ic rfl rfl (fun h => ?_) (fun h => ?_)
  · replace hp := hp.1 h
    refine rt_lna rfl rfl ?_
    refine rt_gfr rfl Kq_0 (by decide) rfl ?_
    refine rt_k2 rfl ck2_59 ?_
    refine rt_iv (σ1 := (r_X3_readByte σ (59 : Int32)).2) rfl rfl rfl (m_X3_readByte (59 : Int32) hp) ?_
    show RtF bk fR s 113 107 [some (rf 0), some (.inl x1_), some (.inl x2_)] [.inl (r_X3_readByte σ (59 : Int32)).1] (r_X3_readByte σ (59 : Int32)).2 _
    refine rt_if rfl rfl (fun h => ?_) (fun h => ?_)
    · refine rt_lna rfl rfl ?_
      refine rt_k1 rfl ck1_1 ?_
      refine rt_iv (σ1 := (r_X3_readByte σ (59 : Int32)).2) rfl rfl rfl (m_X4_faultHere (1 : Int32)) ?_
      show RtF bk fR s 113 119 [some (rf 0), some (.inl x1_), some (.inl x2_)] [.inl (v_X4_faultHere (r_X3_readByte σ (59 : Int32)).2 (1 : Int32))] (r_X3_readByte σ (59 : Int32)).2 _
      exact rt_eR rfl
    · refine rt_k1 rfl ck1_0 ?_
      refine rt_go rfl ?_
      exact rt_eR rfl
  · replace hp := hp.2 h
    refine rt_lna rfl rfl ?_
    refine rt_gfr rfl Kq_0 (by decide) rfl ?_
    refine rt_iv (σ1 := (r_X3_readNumber σ).2) rfl rfl rfl (m_X3_readNumber hp.1) ?_
    show RtF bk fR s 113 32 [some (rf 0), some (.inl x1_), some (.inl x2_)] [.inl (r_X3_readNumber σ).1] (r_X3_readNumber σ).2 _
    replace hp := hp.2
    refine rt_if rfl rfl (fun h => ?_) (fun h => ?_)
    · replace hp := hp h
      refine rt_ln rfl rfl ?_
      refine rt_lna rfl rfl ?_
      refine rt_gfr rfl Kq_0 (by decide) rfl ?_
      refine rt_gfi rfl Kq_5 (by decide) rfl rfl ?_
      refine rt_is (σ1 := (r_X3_readNumber σ).2) rfl rfl rfl (m_X2_canStandInRow x2_ ((r_X3_readNumber σ).2 5 3)) ?_
      show RtF bk fR s 113 52 [some (rf 0), some (.inl x1_), some (.inl x2_)] [.inl (v_X2_canStandInRow x2_ ((r_X3_readNumber σ).2 5 3))] (r_X3_readNumber σ).2 _
      refine rt_if rfl rfl (fun h => ?_) (fun h => ?_)
      · replace hp := hp h
        refine rt_ln rfl rfl ?_
        refine rt_if rfl rfl (fun h => ?_) (fun h => ?_)
        · replace hp := hp.1 h
          refine rt_lna rfl rfl ?_
          refine rt_gfr rfl Kq_0 (by decide) rfl ?_
          refine rt_ln rfl rfl ?_
          refine rt_ln rfl rfl ?_
          refine rt_lna rfl rfl ?_
          refine rt_gfr rfl Kq_0 (by decide) rfl ?_
          refine rt_gfi rfl Kq_5 (by decide) rfl rfl ?_
          refine rt_iv (σ1 := (t_X4_readRow_0 σ x1_ x2_)) rfl rfl rfl (m_X2_propose x1_ x2_ ((r_X3_readNumber σ).2 5 3) hp.1) ?_
          show RtF bk fR s 113 92 [some (rf 0), some (.inl x1_), some (.inl x2_)] [] (t_X4_readRow_0 σ x1_ x2_) _
          replace hp := hp.2
          refine rt_inc (la1 := [some (rf 0), some (.inl x1_), some (.inl (x2_ + (1 : Int32)))]) rfl rfl ck1_1 rfl ?_
          refine rt_go rfl ?_
          exact hk20 (t_X4_readRow_0 σ x1_ x2_) x1_ (x2_ + (1 : Int32)) hp
        · replace hp := hp.2 h
          refine rt_lna rfl rfl ?_
          refine rt_gfr rfl Kq_0 (by decide) rfl ?_
          refine rt_gfi rfl Kq_5 (by decide) rfl rfl ?_
          refine rt_sn (la1 := [some (rf 0), some (.inl ((r_X3_readNumber σ).2 5 3)), some (.inl x2_)]) rfl rfl rfl ?_
          refine rt_go rfl ?_
          refine rt_inc (la1 := [some (rf 0), some (.inl ((r_X3_readNumber σ).2 5 3)), some (.inl (x2_ + (1 : Int32)))]) rfl rfl ck1_1 rfl ?_
          refine rt_go rfl ?_
          exact hk20 (r_X3_readNumber σ).2 ((r_X3_readNumber σ).2 5 3) (x2_ + (1 : Int32)) hp
      · refine rt_lna rfl rfl ?_
        refine rt_k1 rfl ck1_2 ?_
        refine rt_iv (σ1 := (r_X3_readNumber σ).2) rfl rfl rfl (m_X4_faultHere (2 : Int32)) ?_
        show RtF bk fR s 113 60 [some (rf 0), some (.inl x1_), some (.inl x2_)] [.inl (v_X4_faultHere (r_X3_readNumber σ).2 (2 : Int32))] (r_X3_readNumber σ).2 _
        exact rt_eR rfl
    · refine rt_lna rfl rfl ?_
      refine rt_k1 rfl ck1_1 ?_
      refine rt_iv (σ1 := (r_X3_readNumber σ).2) rfl rfl rfl (m_X4_faultHere (1 : Int32)) ?_
      show RtF bk fR s 113 40 [some (rf 0), some (.inl x1_), some (.inl x2_)] [.inl (v_X4_faultHere (r_X3_readNumber σ).2 (1 : Int32))] (r_X3_readNumber σ).2 _
      exact rt_eR rfl
noncomputable def r_X4_readRow_l20 (n : Nat) : sg_S → Int32 → Int32 → Int32 × sg_S := Nat.rec (motive := fun _ => sg_S → Int32 → Int32 → Int32 × sg_S) (fun σ _ _ => (0, σ)) (fun _ ih => r_X4_readRow_b20 ih) n
noncomputable def p_X4_readRow_l20 (n : Nat) : sg_S → Int32 → Int32 → Prop := Nat.rec (motive := fun _ => sg_S → Int32 → Int32 → Prop) (fun _ _ _ => False) (fun _ ih => p_X4_readRow_b20 ih) n
theorem m_X4_readRow_l20 {s : List Int32} : ∀ (n : Nat), ∀ (σ : sg_S) (x1_ : Int32) (x2_ : Int32), p_X4_readRow_l20 n σ x1_ x2_ → RtF bk fR s 113 20 [some (rf 0), some (.inl x1_), some (.inl x2_)] [] σ (r_X4_readRow_l20 n σ x1_ x2_) := by
  intro n
  induction n with
  | zero =>
    intro σ x1_ x2_ hp
    exact hp.elim
  | succ n ih =>
    intro σ x1_ x2_ hp
    exact m_X4_readRow_b20 (r_X4_readRow_l20 n) (p_X4_readRow_l20 n) ih σ x1_ x2_ hp
noncomputable def r_X4_readRow (σ : sg_S) : Int32 × sg_S := (if ¬ (r_X3_readRowWord σ).1 = 0 then (r_X4_readRow_l20 600 (r_X3_readRowWord σ).2 (0 : Int32) (0 : Int32)) else ((v_X4_faultHere (r_X3_readRowWord σ).2 (1 : Int32)), (r_X3_readRowWord σ).2))
noncomputable def p_X4_readRow (σ : sg_S) : Prop := (p_X3_readRowWord σ ∧ (¬ (r_X3_readRowWord σ).1 = 0 → (p_X4_readRow_l20 600 (r_X3_readRowWord σ).2 (0 : Int32) (0 : Int32))))
theorem m_X4_readRow {s : List Int32} {σ : sg_S} (hp : p_X4_readRow σ) : Ct s 113 [rf 0] σ [.inl (r_X4_readRow σ).1] (r_X4_readRow σ).2 := by
  refine ct_v (la := [some (rf 0), none, none]) Kq_0 rfl rfl rfl rfl rfl rfl rfl (cgR ?_)
  unfold r_X4_readRow
  unfold p_X4_readRow at hp
  refine rt_lna rfl rfl ?_
  refine rt_gfr rfl Kq_0 (by decide) rfl ?_
  refine rt_iv (σ1 := (r_X3_readRowWord σ).2) rfl rfl rfl (m_X3_readRowWord hp.1) ?_
  show RtF bk fR s 113 7 [some (rf 0), none, none] [.inl (r_X3_readRowWord σ).1] (r_X3_readRowWord σ).2 _
  replace hp := hp.2
  refine rt_if rfl rfl (fun h => ?_) (fun h => ?_)
  · replace hp := hp h
    refine rt_k1 rfl ck1_0 ?_
    refine rt_sn (la1 := [some (rf 0), some (.inl (0 : Int32)), none]) rfl rfl rfl ?_
    refine rt_k1 rfl ck1_0 ?_
    refine rt_sn (la1 := [some (rf 0), some (.inl (0 : Int32)), some (.inl (0 : Int32))]) rfl rfl rfl ?_
    exact m_X4_readRow_l20 600 (r_X3_readRowWord σ).2 (0 : Int32) (0 : Int32) hp
  · refine rt_lna rfl rfl ?_
    refine rt_k1 rfl ck1_1 ?_
    refine rt_iv (σ1 := (r_X3_readRowWord σ).2) rfl rfl rfl (m_X4_faultHere (1 : Int32)) ?_
    show RtF bk fR s 113 15 [some (rf 0), none, none] [.inl (v_X4_faultHere (r_X3_readRowWord σ).2 (1 : Int32))] (r_X3_readRowWord σ).2 _
    exact rt_eR rfl
noncomputable def v_X4_isEvent_a12 (x0_ : Int32) : Int32 := (if x0_ = (120 : Int32) then (1 : Int32) else (if x0_ = (119 : Int32) then (1 : Int32) else (if x0_ = (110 : Int32) then (1 : Int32) else (if x0_ = (47 : Int32) then (1 : Int32) else (if (v_X4_bearsNumber x0_) = 0 then (0 : Int32) else (1 : Int32))))))
theorem m_X4_isEvent_a12 {s : List Int32} {σ : sg_S} (x0_ : Int32) : RtF bk (fV σ) s 116 12 [some (.inl x0_)] [] σ (v_X4_isEvent_a12 x0_) := by
  unfold v_X4_isEvent_a12
  refine rt_ln rfl rfl ?_
  refine rt_k2 rfl ck2_120 ?_
  refine rt_ic rfl rfl (fun h => ?_) (fun h => ?_)
  · refine rt_k1 rfl ck1_1 ?_
    refine rt_go rfl ?_
    exact rt_eVb rfl (Or.inr rfl)
  · refine rt_ln rfl rfl ?_
    refine rt_k2 rfl ck2_119 ?_
    refine rt_ic rfl rfl (fun h => ?_) (fun h => ?_)
    · refine rt_k1 rfl ck1_1 ?_
      refine rt_go rfl ?_
      exact rt_eVb rfl (Or.inr rfl)
    · refine rt_ln rfl rfl ?_
      refine rt_k2 rfl ck2_110 ?_
      refine rt_ic rfl rfl (fun h => ?_) (fun h => ?_)
      · refine rt_k1 rfl ck1_1 ?_
        refine rt_go rfl ?_
        exact rt_eVb rfl (Or.inr rfl)
      · refine rt_ln rfl rfl ?_
        refine rt_k2 rfl ck2_47 ?_
        refine rt_ic rfl rfl (fun h => ?_) (fun h => ?_)
        · refine rt_k1 rfl ck1_1 ?_
          refine rt_go rfl ?_
          exact rt_eVb rfl (Or.inr rfl)
        · refine rt_ln rfl rfl ?_
          refine rt_is (σ1 := σ) rfl rfl rfl (m_X4_bearsNumber x0_) ?_
          show RtF bk (fV σ) s 116 40 [some (.inl x0_)] [.inl (v_X4_bearsNumber x0_)] σ _
          refine rt_if rfl rfl (fun h => ?_) (fun h => ?_)
          · refine rt_k1 rfl ck1_0 ?_
            exact rt_eVb rfl (Or.inl rfl)
          · refine rt_k1 rfl ck1_1 ?_
            refine rt_go rfl ?_
            exact rt_eVb rfl (Or.inr rfl)
noncomputable def v_X4_isEvent (x0 : Int32) : Int32 := (if x0 < (48 : Int32) then (v_X4_isEvent_a12 x0) else (if x0 ≤ (54 : Int32) then (1 : Int32) else (v_X4_isEvent_a12 x0)))
theorem m_X4_isEvent {s : List Int32} {σ : sg_S} (x0 : Int32) : Ct s 116 [.inl x0] σ [.inl (v_X4_isEvent x0)] σ := by
  refine ct_s (la := [some (.inl x0)]) rfl rfl rfl rfl rfl (cgV ?_)
  unfold v_X4_isEvent
  refine rt_ln rfl rfl ?_
  refine rt_k2 rfl ck2_48 ?_
  refine rt_ic rfl rfl (fun h => ?_) (fun h => ?_)
  · exact m_X4_isEvent_a12 x0
  · refine rt_ln rfl rfl ?_
    refine rt_k2 rfl ck2_54 ?_
    refine rt_ic rfl rfl (fun h => ?_) (fun h => ?_)
    · refine rt_k1 rfl ck1_1 ?_
      refine rt_go rfl ?_
      exact rt_eVb rfl (Or.inr rfl)
    · exact m_X4_isEvent_a12 x0
noncomputable def v_X4_inLeastTerms (x0 : Int32) (x1 : Int32) (x2 : Int32) : Int32 := (if 0 < (v_X4_commonDivisor x0 x1) then (if x2 = 0 then (x0 / (v_X4_commonDivisor x0 x1)) else (x1 / (v_X4_commonDivisor x0 x1))) else (-1 : Int32))
noncomputable def p_X4_inLeastTerms (x0 : Int32) (x1 : Int32) (x2 : Int32) : Prop := (p_X4_commonDivisor x0 x1 ∧ (0 < (v_X4_commonDivisor x0 x1) → ((x2 = 0 → ¬ (v_X4_commonDivisor x0 x1) = 0) ∧ (¬ (x2 = 0) → ¬ (v_X4_commonDivisor x0 x1) = 0))))
theorem m_X4_inLeastTerms {s : List Int32} {σ : sg_S} (x0 : Int32) (x1 : Int32) (x2 : Int32) (hp : p_X4_inLeastTerms x0 x1 x2) : Ct s 121 [.inl x0, .inl x1, .inl x2] σ [.inl (v_X4_inLeastTerms x0 x1 x2)] σ := by
  refine ct_s (la := [some (.inl x0), some (.inl x1), some (.inl x2), none]) rfl rfl rfl rfl rfl (cgV ?_)
  unfold v_X4_inLeastTerms
  unfold p_X4_inLeastTerms at hp
  refine rt_ln rfl rfl ?_
  refine rt_ln rfl rfl ?_
  refine rt_is (σ1 := σ) rfl rfl rfl (m_X4_commonDivisor x0 x1 hp.1) ?_
  show RtF bk (fV σ) s 121 5 [some (.inl x0), some (.inl x1), some (.inl x2), none] [.inl (v_X4_commonDivisor x0 x1)] σ _
  replace hp := hp.2
  refine rt_sn (la1 := [some (.inl x0), some (.inl x1), some (.inl x2), some (.inl (v_X4_commonDivisor x0 x1))]) rfl rfl rfl ?_
  refine rt_ln rfl rfl ?_
  refine rt_if rfl rfl (fun h => ?_) (fun h => ?_)
  · replace hp := hp h
    refine rt_ln rfl rfl ?_
    refine rt_if rfl rfl (fun h => ?_) (fun h => ?_)
    · replace hp := hp.1 h
      refine rt_ln rfl rfl ?_
      refine rt_ln rfl rfl ?_
      refine rt_div rfl hp ?_
      exact rt_eV rfl
    · replace hp := hp.2 h
      refine rt_ln rfl rfl ?_
      refine rt_go rfl ?_
      refine rt_ln rfl rfl ?_
      refine rt_div rfl hp ?_
      exact rt_eV rfl
  · refine rt_k1 rfl ck1_m1 ?_
    exact rt_eV rfl
noncomputable def r_X5_over (σ : sg_S) (x0 : Int32) (x1 : Int32) (x2 : Int32) : Int32 × sg_S := (if (v_X5_isInnings x0) = 0 then ((-1 : Int32), (sg_up σ 35 0 (0 : Int32))) else (if (v_X5_in x1 (0 : Int32) (19 : Int32)) = 0 then ((-1 : Int32), (sg_up σ 35 0 (0 : Int32))) else (if ¬ (v_X5_in x2 (0 : Int32) (2 : Int32)) = 0 then ((v_X5_ofOver (s_X5_goesOn (sg_up σ 35 0 (0 : Int32))) (((20 : Int32) * x0) + x1) x2), (s_X5_goesOn (sg_up σ 35 0 (0 : Int32)))) else ((-1 : Int32), (sg_up σ 35 0 (0 : Int32))))))
noncomputable def p_X5_over (σ : sg_S) (x0 : Int32) (x1 : Int32) (x2 : Int32) : Prop := (¬ ((v_X5_isInnings x0) = 0) → (¬ ((v_X5_in x1 (0 : Int32) (19 : Int32)) = 0) → (¬ (v_X5_in x2 (0 : Int32) (2 : Int32)) = 0 → (p_X5_goesOn (sg_up σ 35 0 (0 : Int32)) ∧ p_X5_ofOver (((20 : Int32) * x0) + x1) x2))))
theorem m_X5_over {s : List Int32} {σ : sg_S} (x0 : Int32) (x1 : Int32) (x2 : Int32) (hp : p_X5_over σ x0 x1 x2) : Ct s 170 [rf 35, .inl x0, .inl x1, .inl x2] σ [.inl (r_X5_over σ x0 x1 x2).1] (r_X5_over σ x0 x1 x2).2 := by
  refine ct_v (la := [some (rf 35), some (.inl x0), some (.inl x1), some (.inl x2)]) Kq_35 rfl rfl rfl rfl rfl rfl rfl (cgR ?_)
  unfold r_X5_over
  unfold p_X5_over at hp
  refine rt_lna rfl rfl ?_
  refine rt_k1 rfl ck1_0 ?_
  refine rt_pf (σ1 := (sg_up σ 35 0 (0 : Int32))) rfl Kq_35 (by decide) rfl rfl rfl ?_
  refine rt_ln rfl rfl ?_
  refine rt_is (σ1 := (sg_up σ 35 0 (0 : Int32))) rfl rfl rfl (m_X5_isInnings x0) ?_
  show RtF bk fR s 170 9 [some (rf 35), some (.inl x0), some (.inl x1), some (.inl x2)] [.inl (v_X5_isInnings x0)] (sg_up σ 35 0 (0 : Int32)) _
  refine rt_if rfl rfl (fun h => ?_) (fun h => ?_)
  · refine rt_k1 rfl ck1_m1 ?_
    exact rt_eR rfl
  · replace hp := hp h
    refine rt_ln rfl rfl ?_
    refine rt_k1 rfl ck1_0 ?_
    refine rt_k2 rfl ck2_19 ?_
    refine rt_is (σ1 := (sg_up σ 35 0 (0 : Int32))) rfl rfl rfl (m_X5_in x1 (0 : Int32) (19 : Int32)) ?_
    show RtF bk fR s 170 19 [some (rf 35), some (.inl x0), some (.inl x1), some (.inl x2)] [.inl (v_X5_in x1 (0 : Int32) (19 : Int32))] (sg_up σ 35 0 (0 : Int32)) _
    refine rt_if rfl rfl (fun h => ?_) (fun h => ?_)
    · refine rt_k1 rfl ck1_m1 ?_
      exact rt_eR rfl
    · replace hp := hp h
      refine rt_ln rfl rfl ?_
      refine rt_k1 rfl ck1_0 ?_
      refine rt_k1 rfl ck1_2 ?_
      refine rt_is (σ1 := (sg_up σ 35 0 (0 : Int32))) rfl rfl rfl (m_X5_in x2 (0 : Int32) (2 : Int32)) ?_
      show RtF bk fR s 170 28 [some (rf 35), some (.inl x0), some (.inl x1), some (.inl x2)] [.inl (v_X5_in x2 (0 : Int32) (2 : Int32))] (sg_up σ 35 0 (0 : Int32)) _
      refine rt_if rfl rfl (fun h => ?_) (fun h => ?_)
      · replace hp := hp h
        refine rt_lna rfl rfl ?_
        refine rt_iv (σ1 := (s_X5_goesOn (sg_up σ 35 0 (0 : Int32)))) rfl rfl rfl (m_X5_goesOn hp.1) ?_
        show RtF bk fR s 170 37 [some (rf 35), some (.inl x0), some (.inl x1), some (.inl x2)] [] (s_X5_goesOn (sg_up σ 35 0 (0 : Int32))) _
        replace hp := hp.2
        refine rt_lna rfl rfl ?_
        refine rt_k2 rfl ck2_20 ?_
        refine rt_ln rfl rfl ?_
        refine rt_mul rfl ?_
        refine rt_ln rfl rfl ?_
        refine rt_add rfl ?_
        refine rt_ln rfl rfl ?_
        refine rt_iv (σ1 := (s_X5_goesOn (sg_up σ 35 0 (0 : Int32)))) rfl rfl rfl (m_X5_ofOver (((20 : Int32) * x0) + x1) x2 hp) ?_
        show RtF bk fR s 170 48 [some (rf 35), some (.inl x0), some (.inl x1), some (.inl x2)] [.inl (v_X5_ofOver (s_X5_goesOn (sg_up σ 35 0 (0 : Int32))) (((20 : Int32) * x0) + x1) x2)] (s_X5_goesOn (sg_up σ 35 0 (0 : Int32))) _
        exact rt_eR rfl
      · refine rt_k1 rfl ck1_m1 ?_
        exact rt_eR rfl
noncomputable def t_X0_restart_0 (σ : sg_S) (c : Nat) : sg_S := (s_X1_restart σ (c + 1) (v_X2_setting σ (0 : Int32)) (v_X2_worthOfOvers σ (v_X2_setting σ (0 : Int32))))
noncomputable def t_X0_restart_1 (σ : sg_S) (c : Nat) : sg_S := (s_X1_restart (t_X0_restart_0 σ c) (c + 7) (v_X2_setting σ (0 : Int32)) (v_X2_worthOfOvers (t_X0_restart_0 σ c) (v_X2_setting σ (0 : Int32))))
noncomputable def t_X0_restart_2 (σ : sg_S) (c : Nat) : sg_S := (sg_up (sg_up (t_X0_restart_1 σ c) c 3 (0 : Int32)) c 4 (1 : Int32))
noncomputable def s_X0_restart (σ : sg_S) (c : Nat) : sg_S := (t_X0_restart_2 σ c)
noncomputable def p_X0_restart (σ : sg_S) (c : Nat) : Prop := (p_X2_setting (0 : Int32) ∧ (p_X2_worthOfOvers (v_X2_setting σ (0 : Int32)) ∧ (p_X1_restart σ (c + 1) (v_X2_setting σ (0 : Int32)) (v_X2_worthOfOvers σ (v_X2_setting σ (0 : Int32))) ∧ (p_X2_worthOfOvers (v_X2_setting σ (0 : Int32)) ∧ p_X1_restart (t_X0_restart_0 σ c) (c + 7) (v_X2_setting σ (0 : Int32)) (v_X2_worthOfOvers (t_X0_restart_0 σ c) (v_X2_setting σ (0 : Int32)))))))
theorem m_X0_restart {s : List Int32} {σ : sg_S} (c : Nat) (hc : Kd c 0 5) (hp : p_X0_restart σ c) : Ct s 1 [rf c] σ [] (s_X0_restart σ c) := by
  refine ct_v (la := [some (rf c), none]) hc rfl rfl rfl rfl rfl rfl rfl (cgS ?_)
  unfold s_X0_restart
  unfold p_X0_restart at hp
  refine rt_lna rfl rfl ?_
  refine rt_gfr rfl hc (by decide) rfl ?_
  refine rt_k1 rfl ck1_0 ?_
  refine rt_iv (σ1 := σ) rfl rfl rfl (m_X2_setting (0 : Int32) hp.1) ?_
  show RtF bk fS s 1 8 [some (rf c), none] [.inl (v_X2_setting σ (0 : Int32))] σ _
  replace hp := hp.2
  refine rt_sn (la1 := [some (rf c), some (.inl (v_X2_setting σ (0 : Int32)))]) rfl rfl rfl ?_
  refine rt_lna rfl rfl ?_
  refine rt_gfr rfl hc (by decide) rfl ?_
  refine rt_ln rfl rfl ?_
  refine rt_lna rfl rfl ?_
  refine rt_gfr rfl hc (by decide) rfl ?_
  refine rt_ln rfl rfl ?_
  refine rt_iv (σ1 := σ) rfl rfl rfl (m_X2_worthOfOvers (v_X2_setting σ (0 : Int32)) hp.1) ?_
  show RtF bk fS s 1 22 [some (rf c), some (.inl (v_X2_setting σ (0 : Int32)))] [.inl (v_X2_worthOfOvers σ (v_X2_setting σ (0 : Int32))), .inl (v_X2_setting σ (0 : Int32)), rf (c + 1)] σ _
  replace hp := hp.2
  refine rt_iv (σ1 := (t_X0_restart_0 σ c)) rfl rfl rfl (m_X1_restart (c + 1) (v_X2_setting σ (0 : Int32)) (v_X2_worthOfOvers σ (v_X2_setting σ (0 : Int32))) (K0_1 hc) hp.1) ?_
  show RtF bk fS s 1 25 [some (rf c), some (.inl (v_X2_setting σ (0 : Int32)))] [] (t_X0_restart_0 σ c) _
  replace hp := hp.2
  refine rt_lna rfl rfl ?_
  refine rt_gfr rfl hc (by decide) rfl ?_
  refine rt_ln rfl rfl ?_
  refine rt_lna rfl rfl ?_
  refine rt_gfr rfl hc (by decide) rfl ?_
  refine rt_ln rfl rfl ?_
  refine rt_iv (σ1 := (t_X0_restart_0 σ c)) rfl rfl rfl (m_X2_worthOfOvers (v_X2_setting σ (0 : Int32)) hp.1) ?_
  show RtF bk fS s 1 38 [some (rf c), some (.inl (v_X2_setting σ (0 : Int32)))] [.inl (v_X2_worthOfOvers (t_X0_restart_0 σ c) (v_X2_setting σ (0 : Int32))), .inl (v_X2_setting σ (0 : Int32)), rf (c + 7)] (t_X0_restart_0 σ c) _
  replace hp := hp.2
  refine rt_iv (σ1 := (t_X0_restart_1 σ c)) rfl rfl rfl (m_X1_restart (c + 7) (v_X2_setting σ (0 : Int32)) (v_X2_worthOfOvers (t_X0_restart_0 σ c) (v_X2_setting σ (0 : Int32))) (K0_2 hc) hp) ?_
  show RtF bk fS s 1 41 [some (rf c), some (.inl (v_X2_setting σ (0 : Int32)))] [] (t_X0_restart_1 σ c) _
  refine rt_lna rfl rfl ?_
  refine rt_k1 rfl ck1_0 ?_
  refine rt_pf (σ1 := (sg_up (t_X0_restart_1 σ c) c 3 (0 : Int32))) rfl hc (by decide) rfl rfl rfl ?_
  refine rt_lna rfl rfl ?_
  refine rt_k1 rfl ck1_1 ?_
  refine rt_pz (σ1 := (t_X0_restart_2 σ c)) rfl hc (Or.inr rfl) (by decide) rfl rfl rfl ?_
  exact rt_eS rfl
noncomputable def v_X0_targetReached (σ : sg_S) (c : Nat) : Int32 := (if ¬ (σ c 3) = (1 : Int32) then (0 : Int32) else (if (v_X0_hasTarget σ c) = 0 then (0 : Int32) else (if (σ (c + 7) 0) < (v_X0_targetBy σ c (σ (c + 1) 0) (σ (c + 7) 7)) then (0 : Int32) else (1 : Int32))))
noncomputable def p_X0_targetReached (σ : sg_S) (c : Nat) : Prop := (¬ (¬ (σ c 3) = (1 : Int32)) → (¬ ((v_X0_hasTarget σ c) = 0) → p_X0_targetBy σ c (σ (c + 1) 0) (σ (c + 7) 7)))
theorem m_X0_targetReached {s : List Int32} {σ : sg_S} (c : Nat) (hc : Kd c 0 5) (hp : p_X0_targetReached σ c) : Ct s 6 [rf c] σ [.inl (v_X0_targetReached σ c)] σ := by
  refine ct_v (la := [some (rf c)]) hc rfl rfl rfl rfl rfl rfl rfl (cgV ?_)
  unfold v_X0_targetReached
  unfold p_X0_targetReached at hp
  refine rt_lna rfl rfl ?_
  refine rt_gfi rfl hc (by decide) rfl rfl ?_
  refine rt_k1 rfl ck1_1 ?_
  refine rt_ic rfl rfl (fun h => ?_) (fun h => ?_)
  · refine rt_k1 rfl ck1_0 ?_
    exact rt_eVb rfl (Or.inl rfl)
  · replace hp := hp h
    refine rt_lna rfl rfl ?_
    refine rt_iv (σ1 := σ) rfl rfl rfl (m_X0_hasTarget c hc) ?_
    show RtF bk (fV σ) s 6 12 [some (rf c)] [.inl (v_X0_hasTarget σ c)] σ _
    refine rt_if rfl rfl (fun h => ?_) (fun h => ?_)
    · refine rt_k1 rfl ck1_0 ?_
      exact rt_eVb rfl (Or.inl rfl)
    · replace hp := hp h
      refine rt_lna rfl rfl ?_
      refine rt_gfr rfl hc (by decide) rfl ?_
      refine rt_gfi rfl (K0_2 hc) (by decide) rfl rfl ?_
      refine rt_lna rfl rfl ?_
      refine rt_lna rfl rfl ?_
      refine rt_gfr rfl hc (by decide) rfl ?_
      refine rt_gfi rfl (K0_1 hc) (by decide) rfl rfl ?_
      refine rt_lna rfl rfl ?_
      refine rt_gfr rfl hc (by decide) rfl ?_
      refine rt_gfi rfl (K0_2 hc) (by decide) rfl rfl ?_
      refine rt_iv (σ1 := σ) rfl rfl rfl (m_X0_targetBy c (σ (c + 1) 0) (σ (c + 7) 7) hc hp) ?_
      show RtF bk (fV σ) s 6 40 [some (rf c)] [.inl (v_X0_targetBy σ c (σ (c + 1) 0) (σ (c + 7) 7)), .inl (σ (c + 7) 0)] σ _
      refine rt_ic rfl rfl (fun h => ?_) (fun h => ?_)
      · refine rt_k1 rfl ck1_0 ?_
        exact rt_eVb rfl (Or.inl rfl)
      · refine rt_k1 rfl ck1_1 ?_
        refine rt_go rfl ?_
        exact rt_eVb rfl (Or.inr rfl)
noncomputable def v_X0_parNow (σ : sg_S) (c : Nat) : Int32 := (if ¬ (σ c 3) = (1 : Int32) then (-1 : Int32) else (if (v_X0_hasTarget σ c) = 0 then (-1 : Int32) else (v_X0_parWithout σ c (v_X0_worthLeft σ c))))
noncomputable def p_X0_parNow (σ : sg_S) (c : Nat) : Prop := (¬ (¬ (σ c 3) = (1 : Int32)) → (¬ ((v_X0_hasTarget σ c) = 0) → (p_X0_worthLeft σ c ∧ p_X0_parWithout σ c (v_X0_worthLeft σ c))))
theorem m_X0_parNow {s : List Int32} {σ : sg_S} (c : Nat) (hc : Kd c 0 5) (hp : p_X0_parNow σ c) : Ct s 17 [rf c] σ [.inl (v_X0_parNow σ c)] σ := by
  refine ct_v (la := [some (rf c)]) hc rfl rfl rfl rfl rfl rfl rfl (cgV ?_)
  unfold v_X0_parNow
  unfold p_X0_parNow at hp
  refine rt_lna rfl rfl ?_
  refine rt_gfi rfl hc (by decide) rfl rfl ?_
  refine rt_k1 rfl ck1_1 ?_
  refine rt_ic rfl rfl (fun h => ?_) (fun h => ?_)
  · refine rt_k1 rfl ck1_m1 ?_
    exact rt_eV rfl
  · replace hp := hp h
    refine rt_lna rfl rfl ?_
    refine rt_iv (σ1 := σ) rfl rfl rfl (m_X0_hasTarget c hc) ?_
    show RtF bk (fV σ) s 17 12 [some (rf c)] [.inl (v_X0_hasTarget σ c)] σ _
    refine rt_if rfl rfl (fun h => ?_) (fun h => ?_)
    · refine rt_k1 rfl ck1_m1 ?_
      exact rt_eV rfl
    · replace hp := hp h
      refine rt_lna rfl rfl ?_
      refine rt_lna rfl rfl ?_
      refine rt_iv (σ1 := σ) rfl rfl rfl (m_X0_worthLeft c hc hp.1) ?_
      show RtF bk (fV σ) s 17 20 [some (rf c)] [.inl (v_X0_worthLeft σ c), rf c] σ _
      replace hp := hp.2
      refine rt_iv (σ1 := σ) rfl rfl rfl (m_X0_parWithout c (v_X0_worthLeft σ c) hc hp) ?_
      show RtF bk (fV σ) s 17 23 [some (rf c)] [.inl (v_X0_parWithout σ c (v_X0_worthLeft σ c))] σ _
      refine rt_go rfl ?_
      exact rt_eV rfl
noncomputable def v_X0_leadByRule (σ : sg_S) (c : Nat) (x0 : Int32) : Int32 := (if x0 = 0 then ((σ (c + 7) 1) - (σ (c + 1) 1)) else (if x0 = 1 then ((v_X0_blockFact σ c (0 : Int32) (0 : Int32) (0 : Int32)) - (v_X0_blockFact σ c (1 : Int32) (0 : Int32) (0 : Int32))) else (if x0 = 2 then ((v_X0_boundaries σ (c + 1)) - (v_X0_boundaries σ (c + 7))) else ((v_X1_overFact σ (c + 1) (v_X1_greatestOver σ (c + 1)) (0 : Int32)) - (v_X1_overFact σ (c + 7) (v_X1_greatestOver σ (c + 7)) (0 : Int32))))))
noncomputable def p_X0_leadByRule (σ : sg_S) (c : Nat) (x0 : Int32) : Prop := (¬ (x0 = 0) → ((x0 = 1 → (p_X0_blockFact σ c (0 : Int32) (0 : Int32) (0 : Int32) ∧ p_X0_blockFact σ c (1 : Int32) (0 : Int32) (0 : Int32))) ∧ (¬ (x0 = 1) → ((x0 = 2 → (p_X0_boundaries (c + 1) ∧ p_X0_boundaries (c + 7))) ∧ (¬ (x0 = 2) → (p_X1_greatestOver σ (c + 1) ∧ (p_X1_overFact (c + 1) (v_X1_greatestOver σ (c + 1)) (0 : Int32) ∧ (p_X1_greatestOver σ (c + 7) ∧ p_X1_overFact (c + 7) (v_X1_greatestOver σ (c + 7)) (0 : Int32)))))))))
theorem m_X0_leadByRule {s : List Int32} {σ : sg_S} (c : Nat) (x0 : Int32) (hc : Kd c 0 5) (hp : p_X0_leadByRule σ c x0) : Ct s 22 [rf c, .inl x0] σ [.inl (v_X0_leadByRule σ c x0)] σ := by
  refine ct_v (la := [some (rf c), some (.inl x0)]) hc rfl rfl rfl rfl rfl rfl rfl (cgV ?_)
  unfold v_X0_leadByRule
  unfold p_X0_leadByRule at hp
  refine rt_ln rfl rfl ?_
  refine rt_ite (fun h => ?_) (fun h => ?_)
  · refine rt_eq h ?_
    refine rt_step rfl rfl rfl ?_
    refine rt_lna rfl rfl ?_
    refine rt_gfr rfl hc (by decide) rfl ?_
    refine rt_gfi rfl (K0_2 hc) (by decide) rfl rfl ?_
    refine rt_lna rfl rfl ?_
    refine rt_gfr rfl hc (by decide) rfl ?_
    refine rt_gfi rfl (K0_1 hc) (by decide) rfl rfl ?_
    refine rt_sub rfl ?_
    exact rt_eV rfl
  · have e0 := h
    replace hp := hp h
    refine rt_ite (fun h => ?_) (fun h => ?_)
    · replace hp := hp.1 h
      refine rt_eq h ?_
      refine rt_step rfl rfl rfl ?_
      refine rt_lna rfl rfl ?_
      refine rt_k1 rfl ck1_0 ?_
      refine rt_k1 rfl ck1_0 ?_
      refine rt_k1 rfl ck1_0 ?_
      refine rt_iv (σ1 := σ) rfl rfl rfl (m_X0_blockFact c (0 : Int32) (0 : Int32) (0 : Int32) hc hp.1) ?_
      show RtF bk (fV σ) s 22 51 [some (rf c), some (.inl x0)] [.inl (v_X0_blockFact σ c (0 : Int32) (0 : Int32) (0 : Int32))] σ _
      replace hp := hp.2
      refine rt_lna rfl rfl ?_
      refine rt_k1 rfl ck1_1 ?_
      refine rt_k1 rfl ck1_0 ?_
      refine rt_k1 rfl ck1_0 ?_
      refine rt_iv (σ1 := σ) rfl rfl rfl (m_X0_blockFact c (1 : Int32) (0 : Int32) (0 : Int32) hc hp) ?_
      show RtF bk (fV σ) s 22 58 [some (rf c), some (.inl x0)] [.inl (v_X0_blockFact σ c (1 : Int32) (0 : Int32) (0 : Int32)), .inl (v_X0_blockFact σ c (0 : Int32) (0 : Int32) (0 : Int32))] σ _
      refine rt_sub rfl ?_
      exact rt_eV rfl
    · have e1 := h
      replace hp := hp.2 h
      refine rt_ite (fun h => ?_) (fun h => ?_)
      · replace hp := hp.1 h
        refine rt_eq h ?_
        refine rt_step rfl rfl rfl ?_
        refine rt_lna rfl rfl ?_
        refine rt_gfr rfl hc (by decide) rfl ?_
        refine rt_is (σ1 := σ) rfl rfl rfl (m_X0_boundaries (c + 1) (K0_1 hc) hp.1) ?_
        show RtF bk (fV σ) s 22 67 [some (rf c), some (.inl x0)] [.inl (v_X0_boundaries σ (c + 1))] σ _
        replace hp := hp.2
        refine rt_lna rfl rfl ?_
        refine rt_gfr rfl hc (by decide) rfl ?_
        refine rt_is (σ1 := σ) rfl rfl rfl (m_X0_boundaries (c + 7) (K0_2 hc) hp) ?_
        show RtF bk (fV σ) s 22 74 [some (rf c), some (.inl x0)] [.inl (v_X0_boundaries σ (c + 7)), .inl (v_X0_boundaries σ (c + 1))] σ _
        refine rt_sub rfl ?_
        exact rt_eV rfl
      · have e2 := h
        replace hp := hp.2 h
        refine rt_tsd (pc1 := 76) rfl (ts_out (n := 3) (by decide) (fun k hk => match k, hk with | 0, _ => e0 | 1, _ => e1 | 2, _ => e2 | k + 3, hk => absurd hk (by omega))) rfl ?_
        refine rt_lna rfl rfl ?_
        refine rt_gfr rfl hc (by decide) rfl ?_
        refine rt_lna rfl rfl ?_
        refine rt_gfr rfl hc (by decide) rfl ?_
        refine rt_iv (σ1 := σ) rfl rfl rfl (m_X1_greatestOver (c + 1) (K0_1 hc) hp.1) ?_
        show RtF bk (fV σ) s 22 87 [some (rf c), some (.inl x0)] [.inl (v_X1_greatestOver σ (c + 1)), rf (c + 1)] σ _
        replace hp := hp.2
        refine rt_k1 rfl ck1_0 ?_
        refine rt_iv (σ1 := σ) rfl rfl rfl (m_X1_overFact (c + 1) (v_X1_greatestOver σ (c + 1)) (0 : Int32) (K0_1 hc) hp.1) ?_
        show RtF bk (fV σ) s 22 91 [some (rf c), some (.inl x0)] [.inl (v_X1_overFact σ (c + 1) (v_X1_greatestOver σ (c + 1)) (0 : Int32))] σ _
        replace hp := hp.2
        refine rt_lna rfl rfl ?_
        refine rt_gfr rfl hc (by decide) rfl ?_
        refine rt_lna rfl rfl ?_
        refine rt_gfr rfl hc (by decide) rfl ?_
        refine rt_iv (σ1 := σ) rfl rfl rfl (m_X1_greatestOver (c + 7) (K0_2 hc) hp.1) ?_
        show RtF bk (fV σ) s 22 102 [some (rf c), some (.inl x0)] [.inl (v_X1_greatestOver σ (c + 7)), rf (c + 7), .inl (v_X1_overFact σ (c + 1) (v_X1_greatestOver σ (c + 1)) (0 : Int32))] σ _
        replace hp := hp.2
        refine rt_k1 rfl ck1_0 ?_
        refine rt_iv (σ1 := σ) rfl rfl rfl (m_X1_overFact (c + 7) (v_X1_greatestOver σ (c + 7)) (0 : Int32) (K0_2 hc) hp) ?_
        show RtF bk (fV σ) s 22 106 [some (rf c), some (.inl x0)] [.inl (v_X1_overFact σ (c + 7) (v_X1_greatestOver σ (c + 7)) (0 : Int32)), .inl (v_X1_overFact σ (c + 1) (v_X1_greatestOver σ (c + 1)) (0 : Int32))] σ _
        refine rt_sub rfl ?_
        exact rt_eV rfl
noncomputable def v_X4_rate (σ : sg_S) (x0 : Int32) (x1 : Int32) : Int32 := (if (v_X4_isSide x0) = 0 then (-1 : Int32) else (if 0 < (σ (v_X0_side 7 x0) 2) then (v_X4_inLeastTerms ((6 : Int32) * (σ (v_X0_side 7 x0) 0)) (σ (v_X0_side 7 x0) 2) x1) else (-1 : Int32)))
noncomputable def p_X4_rate (σ : sg_S) (x0 : Int32) (x1 : Int32) : Prop := (¬ ((v_X4_isSide x0) = 0) → (0 < (σ (v_X0_side 7 x0) 2) → p_X4_inLeastTerms ((6 : Int32) * (σ (v_X0_side 7 x0) 0)) (σ (v_X0_side 7 x0) 2) x1))
theorem m_X4_rate {s : List Int32} {σ : sg_S} (x0 : Int32) (x1 : Int32) (hp : p_X4_rate σ x0 x1) : Ct s 93 [rf 0, .inl x0, .inl x1] σ [.inl (v_X4_rate σ x0 x1)] σ := by
  refine ct_v (la := [some (rf 0), some (.inl x0), some (.inl x1), none]) Kq_0 rfl rfl rfl rfl rfl rfl rfl (cgV ?_)
  unfold v_X4_rate
  unfold p_X4_rate at hp
  refine rt_ln rfl rfl ?_
  refine rt_is (σ1 := σ) rfl rfl rfl (m_X4_isSide x0) ?_
  show RtF bk (fV σ) s 93 4 [some (rf 0), some (.inl x0), some (.inl x1), none] [.inl (v_X4_isSide x0)] σ _
  refine rt_if rfl rfl (fun h => ?_) (fun h => ?_)
  · refine rt_k1 rfl ck1_m1 ?_
    exact rt_eV rfl
  · replace hp := hp h
    refine rt_lna rfl rfl ?_
    refine rt_gfr rfl Kq_0 (by decide) rfl ?_
    refine rt_ln rfl rfl ?_
    refine rt_iv (σ1 := σ) rfl rfl rfl (m_X0_side 7 x0 Kq_7) ?_
    show RtF bk (fV σ) s 93 15 [some (rf 0), some (.inl x0), some (.inl x1), none] [rf (v_X0_side 7 x0)] σ _
    refine rt_gfi rfl (Kside Kq_7) (by decide) rfl rfl ?_
    refine rt_if rfl rfl (fun h => ?_) (fun h => ?_)
    · replace hp := hp h
      refine rt_lna rfl rfl ?_
      refine rt_gfr rfl Kq_0 (by decide) rfl ?_
      refine rt_ln rfl rfl ?_
      refine rt_iv (σ1 := σ) rfl rfl rfl (m_X0_side 7 x0 Kq_7) ?_
      show RtF bk (fV σ) s 93 31 [some (rf 0), some (.inl x0), some (.inl x1), none] [rf (v_X0_side 7 x0)] σ _
      refine rt_sna (la1 := [some (rf 0), some (.inl x0), some (.inl x1), some (rf (v_X0_side 7 x0))]) rfl rfl rfl ?_
      refine rt_k2 rfl ck2_6 ?_
      refine rt_lna rfl rfl ?_
      refine rt_gfi rfl (Kside Kq_7) (by decide) rfl rfl ?_
      refine rt_mul rfl ?_
      refine rt_lna rfl rfl ?_
      refine rt_gfi rfl (Kside Kq_7) (by decide) rfl rfl ?_
      refine rt_ln rfl rfl ?_
      refine rt_is (σ1 := σ) rfl rfl rfl (m_X4_inLeastTerms ((6 : Int32) * (σ (v_X0_side 7 x0) 0)) (σ (v_X0_side 7 x0) 2) x1 hp) ?_
      show RtF bk (fV σ) s 93 47 [some (rf 0), some (.inl x0), some (.inl x1), some (rf (v_X0_side 7 x0))] [.inl (v_X4_inLeastTerms ((6 : Int32) * (σ (v_X0_side 7 x0) 0)) (σ (v_X0_side 7 x0) 2) x1)] σ _
      exact rt_eV rfl
    · refine rt_k1 rfl ck1_m1 ?_
      exact rt_eV rfl
noncomputable def v_X4_par (σ : sg_S) : Int32 := (v_X0_parNow σ 7)
noncomputable def p_X4_par (σ : sg_S) : Prop := p_X0_parNow σ 7
theorem m_X4_par {s : List Int32} {σ : sg_S} (hp : p_X4_par σ) : Ct s 96 [rf 0] σ [.inl (v_X4_par σ)] σ := by
  refine ct_v (la := [some (rf 0)]) Kq_0 rfl rfl rfl rfl rfl rfl rfl (cgV ?_)
  unfold v_X4_par
  unfold p_X4_par at hp
  refine rt_lna rfl rfl ?_
  refine rt_gfr rfl Kq_0 (by decide) rfl ?_
  refine rt_iv (σ1 := σ) rfl rfl rfl (m_X0_parNow 7 Kq_7 hp) ?_
  show RtF bk (fV σ) s 96 7 [some (rf 0)] [.inl (v_X0_parNow σ 7)] σ _
  exact rt_eV rfl
noncomputable def v_X4_needs (σ : sg_S) (x0 : Int32) : Int32 := (if ¬ (σ 7 3) = (1 : Int32) then (-1 : Int32) else (if ¬ (v_X0_hasTarget σ 7) = 0 then (if x0 = 0 then ((v_X0_theTarget σ 7) - (σ 14 0)) else (if x0 = 1 then (v_X0_ballsLeft σ 7 (1 : Int32)) else (if x0 = 2 then (v_X4_inLeastTerms ((6 : Int32) * ((v_X0_theTarget σ 7) - (σ 14 0))) (v_X0_ballsLeft σ 7 (1 : Int32)) (0 : Int32)) else (if x0 = 3 then (v_X4_inLeastTerms ((6 : Int32) * ((v_X0_theTarget σ 7) - (σ 14 0))) (v_X0_ballsLeft σ 7 (1 : Int32)) (1 : Int32)) else (-1 : Int32))))) else (-1 : Int32)))
noncomputable def p_X4_needs (σ : sg_S) (x0 : Int32) : Prop := (¬ (¬ (σ 7 3) = (1 : Int32)) → (¬ (v_X0_hasTarget σ 7) = 0 → (p_X0_theTarget σ 7 ∧ (¬ (x0 = 0) → (¬ (x0 = 1) → ((x0 = 2 → p_X4_inLeastTerms ((6 : Int32) * ((v_X0_theTarget σ 7) - (σ 14 0))) (v_X0_ballsLeft σ 7 (1 : Int32)) (0 : Int32)) ∧ (¬ (x0 = 2) → (x0 = 3 → p_X4_inLeastTerms ((6 : Int32) * ((v_X0_theTarget σ 7) - (σ 14 0))) (v_X0_ballsLeft σ 7 (1 : Int32)) (1 : Int32)))))))))
theorem m_X4_needs {s : List Int32} {σ : sg_S} (x0 : Int32) (hp : p_X4_needs σ x0) : Ct s 99 [rf 0, .inl x0] σ [.inl (v_X4_needs σ x0)] σ := by
  refine ct_v (la := [some (rf 0), some (.inl x0), none, none]) Kq_0 rfl rfl rfl rfl rfl rfl rfl (cgV ?_)
  unfold v_X4_needs
  unfold p_X4_needs at hp
  refine rt_lna rfl rfl ?_
  refine rt_gfr rfl Kq_0 (by decide) rfl ?_
  refine rt_gfi rfl Kq_7 (by decide) rfl rfl ?_
  refine rt_k1 rfl ck1_1 ?_
  refine rt_ic rfl rfl (fun h => ?_) (fun h => ?_)
  · refine rt_k1 rfl ck1_m1 ?_
    exact rt_eV rfl
  · replace hp := hp h
    refine rt_lna rfl rfl ?_
    refine rt_gfr rfl Kq_0 (by decide) rfl ?_
    refine rt_iv (σ1 := σ) rfl rfl rfl (m_X0_hasTarget 7 Kq_7) ?_
    show RtF bk (fV σ) s 99 18 [some (rf 0), some (.inl x0), none, none] [.inl (v_X0_hasTarget σ 7)] σ _
    refine rt_if rfl rfl (fun h => ?_) (fun h => ?_)
    · replace hp := hp h
      refine rt_lna rfl rfl ?_
      refine rt_gfr rfl Kq_0 (by decide) rfl ?_
      refine rt_iv (σ1 := σ) rfl rfl rfl (m_X0_theTarget 7 Kq_7 hp.1) ?_
      show RtF bk (fV σ) s 99 30 [some (rf 0), some (.inl x0), none, none] [.inl (v_X0_theTarget σ 7)] σ _
      replace hp := hp.2
      refine rt_lna rfl rfl ?_
      refine rt_gfr rfl Kq_0 (by decide) rfl ?_
      refine rt_gfr rfl Kq_7 (by decide) rfl ?_
      refine rt_gfi rfl Kq_14 (by decide) rfl rfl ?_
      refine rt_sub rfl ?_
      refine rt_sn (la1 := [some (rf 0), some (.inl x0), some (.inl ((v_X0_theTarget σ 7) - (σ 14 0))), none]) rfl rfl rfl ?_
      refine rt_lna rfl rfl ?_
      refine rt_gfr rfl Kq_0 (by decide) rfl ?_
      refine rt_k1 rfl ck1_1 ?_
      refine rt_iv (σ1 := σ) rfl rfl rfl (m_X0_ballsLeft 7 (1 : Int32) Kq_7) ?_
      show RtF bk (fV σ) s 99 50 [some (rf 0), some (.inl x0), some (.inl ((v_X0_theTarget σ 7) - (σ 14 0))), none] [.inl (v_X0_ballsLeft σ 7 (1 : Int32))] σ _
      refine rt_sn (la1 := [some (rf 0), some (.inl x0), some (.inl ((v_X0_theTarget σ 7) - (σ 14 0))), some (.inl (v_X0_ballsLeft σ 7 (1 : Int32)))]) rfl rfl rfl ?_
      refine rt_ln rfl rfl ?_
      refine rt_ite (fun h => ?_) (fun h => ?_)
      · refine rt_eq h ?_
        refine rt_step rfl rfl rfl ?_
        refine rt_ln rfl rfl ?_
        exact rt_eV rfl
      · have e0 := h
        replace hp := hp h
        refine rt_ite (fun h => ?_) (fun h => ?_)
        · refine rt_eq h ?_
          refine rt_step rfl rfl rfl ?_
          refine rt_ln rfl rfl ?_
          exact rt_eV rfl
        · have e1 := h
          replace hp := hp h
          refine rt_ite (fun h => ?_) (fun h => ?_)
          · replace hp := hp.1 h
            refine rt_eq h ?_
            refine rt_step rfl rfl rfl ?_
            refine rt_k2 rfl ck2_6 ?_
            refine rt_ln rfl rfl ?_
            refine rt_mul rfl ?_
            refine rt_ln rfl rfl ?_
            refine rt_k1 rfl ck1_0 ?_
            refine rt_is (σ1 := σ) rfl rfl rfl (m_X4_inLeastTerms ((6 : Int32) * ((v_X0_theTarget σ 7) - (σ 14 0))) (v_X0_ballsLeft σ 7 (1 : Int32)) (0 : Int32) hp) ?_
            show RtF bk (fV σ) s 99 97 [some (rf 0), some (.inl x0), some (.inl ((v_X0_theTarget σ 7) - (σ 14 0))), some (.inl (v_X0_ballsLeft σ 7 (1 : Int32)))] [.inl (v_X4_inLeastTerms ((6 : Int32) * ((v_X0_theTarget σ 7) - (σ 14 0))) (v_X0_ballsLeft σ 7 (1 : Int32)) (0 : Int32))] σ _
            exact rt_eV rfl
          · have e2 := h
            replace hp := hp.2 h
            refine rt_ite (fun h => ?_) (fun h => ?_)
            · replace hp := hp h
              refine rt_eq h ?_
              refine rt_step rfl rfl rfl ?_
              refine rt_k2 rfl ck2_6 ?_
              refine rt_ln rfl rfl ?_
              refine rt_mul rfl ?_
              refine rt_ln rfl rfl ?_
              refine rt_k1 rfl ck1_1 ?_
              refine rt_is (σ1 := σ) rfl rfl rfl (m_X4_inLeastTerms ((6 : Int32) * ((v_X0_theTarget σ 7) - (σ 14 0))) (v_X0_ballsLeft σ 7 (1 : Int32)) (1 : Int32) hp) ?_
              show RtF bk (fV σ) s 99 107 [some (rf 0), some (.inl x0), some (.inl ((v_X0_theTarget σ 7) - (σ 14 0))), some (.inl (v_X0_ballsLeft σ 7 (1 : Int32)))] [.inl (v_X4_inLeastTerms ((6 : Int32) * ((v_X0_theTarget σ 7) - (σ 14 0))) (v_X0_ballsLeft σ 7 (1 : Int32)) (1 : Int32))] σ _
              exact rt_eV rfl
            · have e3 := h
              refine rt_tsd (pc1 := 108) rfl (ts_out (n := 4) (by decide) (fun k hk => match k, hk with | 0, _ => e0 | 1, _ => e1 | 2, _ => e2 | 3, _ => e3 | k + 4, hk => absurd hk (by omega))) rfl ?_
              refine rt_k1 rfl ck1_m1 ?_
              exact rt_eV rfl
    · refine rt_k1 rfl ck1_m1 ?_
      exact rt_eV rfl
noncomputable def v_X4_broken (σ : sg_S) (x0 : Int32) : Int32 := (if x0 < 0 then (-1 : Int32) else (if (3 : Int32) < x0 then (-1 : Int32) else (if (v_X4_result σ) = (3 : Int32) then (if ¬ (v_X0_leadByRule σ 7 x0) = 0 then (if (v_X0_leadByRule σ 7 x0) ≤ 0 then (2 : Int32) else (1 : Int32)) else (0 : Int32)) else (-1 : Int32))))
noncomputable def p_X4_broken (σ : sg_S) (x0 : Int32) : Prop := (¬ (x0 < 0) → (¬ ((3 : Int32) < x0) → (p_X4_result σ ∧ ((v_X4_result σ) = (3 : Int32) → p_X0_leadByRule σ 7 x0))))
theorem m_X4_broken {s : List Int32} {σ : sg_S} (x0 : Int32) (hp : p_X4_broken σ x0) : Ct s 100 [rf 0, .inl x0] σ [.inl (v_X4_broken σ x0)] σ := by
  refine ct_v (la := [some (rf 0), some (.inl x0), none]) Kq_0 rfl rfl rfl rfl rfl rfl rfl (cgV ?_)
  unfold v_X4_broken
  unfold p_X4_broken at hp
  refine rt_ln rfl rfl ?_
  refine rt_if rfl rfl (fun h => ?_) (fun h => ?_)
  · refine rt_k1 rfl ck1_m1 ?_
    exact rt_eV rfl
  · replace hp := hp h
    refine rt_ln rfl rfl ?_
    refine rt_k1 rfl ck1_3 ?_
    refine rt_ic rfl rfl (fun h => ?_) (fun h => ?_)
    · refine rt_k1 rfl ck1_m1 ?_
      exact rt_eV rfl
    · replace hp := hp h
      refine rt_lna rfl rfl ?_
      refine rt_iv (σ1 := σ) rfl rfl rfl (m_X4_result hp.1) ?_
      show RtF bk (fV σ) s 100 13 [some (rf 0), some (.inl x0), none] [.inl (v_X4_result σ)] σ _
      replace hp := hp.2
      refine rt_k1 rfl ck1_3 ?_
      refine rt_ic rfl rfl (fun h => ?_) (fun h => ?_)
      · replace hp := hp h
        refine rt_lna rfl rfl ?_
        refine rt_gfr rfl Kq_0 (by decide) rfl ?_
        refine rt_ln rfl rfl ?_
        refine rt_iv (σ1 := σ) rfl rfl rfl (m_X0_leadByRule 7 x0 Kq_7 hp) ?_
        show RtF bk (fV σ) s 100 27 [some (rf 0), some (.inl x0), none] [.inl (v_X0_leadByRule σ 7 x0)] σ _
        refine rt_sn (la1 := [some (rf 0), some (.inl x0), some (.inl (v_X0_leadByRule σ 7 x0))]) rfl rfl rfl ?_
        refine rt_ln rfl rfl ?_
        refine rt_if rfl rfl (fun h => ?_) (fun h => ?_)
        · refine rt_ln rfl rfl ?_
          refine rt_if rfl rfl (fun h => ?_) (fun h => ?_)
          · refine rt_k1 rfl ck1_2 ?_
            exact rt_eV rfl
          · refine rt_k1 rfl ck1_1 ?_
            refine rt_go rfl ?_
            exact rt_eV rfl
        · refine rt_k1 rfl ck1_0 ?_
          exact rt_eV rfl
      · refine rt_k1 rfl ck1_m1 ?_
        exact rt_eV rfl
noncomputable def s_X4_emptyLog (σ : sg_S) : sg_S := (s_X0_restart (sg_up σ 0 6 (0 : Int32)) 7)
noncomputable def p_X4_emptyLog (σ : sg_S) : Prop := p_X0_restart (sg_up σ 0 6 (0 : Int32)) 7
theorem m_X4_emptyLog {s : List Int32} {σ : sg_S} (hp : p_X4_emptyLog σ) : Ct s 107 [rf 0] σ [] (s_X4_emptyLog σ) := by
  refine ct_v (la := [some (rf 0)]) Kq_0 rfl rfl rfl rfl rfl rfl rfl (cgS ?_)
  unfold s_X4_emptyLog
  unfold p_X4_emptyLog at hp
  refine rt_lna rfl rfl ?_
  refine rt_k1 rfl ck1_0 ?_
  refine rt_pf (σ1 := (sg_up σ 0 6 (0 : Int32))) rfl Kq_0 (by decide) rfl rfl rfl ?_
  refine rt_lna rfl rfl ?_
  refine rt_gfr rfl Kq_0 (by decide) rfl ?_
  refine rt_iv (σ1 := (s_X0_restart (sg_up σ 0 6 (0 : Int32)) 7)) rfl rfl rfl (m_X0_restart 7 Kq_7 hp) ?_
  show RtF bk fS s 107 12 [some (rf 0)] [] (s_X0_restart (sg_up σ 0 6 (0 : Int32)) 7) _
  exact rt_eS rfl
noncomputable def t_X4_readTable_0 (σ : sg_S) : sg_S := (s_X3_rewind (s_X2_beginProposal (sg_up σ 0 8 (0 : Int32))))
noncomputable def r_X4_readTable_a65 (σ : sg_S) : Int32 × sg_S := (if (v_X2_proposalHolds σ) = 0 then (((4 : Int32) + ((8 : Int32) * (σ 5 1))), σ) else ((0 : Int32), σ))
noncomputable def p_X4_readTable_a65 (σ : sg_S) : Prop := p_X2_proposalHolds σ
theorem m_X4_readTable_a65 {s : List Int32} (σ : sg_S) (o1_ : Option (ip_V Int32)) (o2_ : Option (ip_V Int32)) (hp : p_X4_readTable_a65 σ) : RtF bk fR s 112 65 [some (rf 0), o1_, o2_] [] σ (r_X4_readTable_a65 σ) := by
  unfold r_X4_readTable_a65
  unfold p_X4_readTable_a65 at hp
  refine rt_lna rfl rfl ?_
  refine rt_gfr rfl Kq_0 (by decide) rfl ?_
  refine rt_iv (σ1 := σ) rfl rfl rfl (m_X2_proposalHolds hp) ?_
  show RtF bk fR s 112 72 [some (rf 0), o1_, o2_] [.inl (v_X2_proposalHolds σ)] σ _
  refine rt_if rfl rfl (fun h => ?_) (fun h => ?_)
  · refine rt_k1 rfl ck1_4 ?_
    refine rt_k2 rfl ck2_8 ?_
    refine rt_lna rfl rfl ?_
    refine rt_gfr rfl Kq_0 (by decide) rfl ?_
    refine rt_gfi rfl Kq_5 (by decide) rfl rfl ?_
    refine rt_mul rfl ?_
    refine rt_add rfl ?_
    exact rt_eR rfl
  · refine rt_k1 rfl ck1_0 ?_
    refine rt_go rfl ?_
    exact rt_eR rfl
noncomputable def t_X4_readTable_1 (σ : sg_S) (x1_ : Int32) : sg_S := (sg_up (r_X4_readRow (r_X3_seek σ).2).2 0 8 (((r_X4_readRow (r_X3_seek σ).2).2 0 8) + (1 : Int32)))
noncomputable def r_X4_readTable_b21 (k21 : sg_S → Int32 → Int32 × sg_S) (σ : sg_S) (x1_ : Int32) : Int32 × sg_S := (if (500 : Int32) ≤ x1_ then (r_X4_readTable_a65 σ) else (if (r_X3_seek σ).1 = 0 then (r_X4_readTable_a65 (r_X3_seek σ).2) else (if (r_X4_readRow (r_X3_seek σ).2).1 = 0 then (k21 (t_X4_readTable_1 σ x1_) (x1_ + (1 : Int32))) else ((r_X4_readRow (r_X3_seek σ).2).1, (r_X4_readRow (r_X3_seek σ).2).2))))
noncomputable def p_X4_readTable_b21 (kp21 : sg_S → Int32 → Prop) (σ : sg_S) (x1_ : Int32) : Prop := (((500 : Int32) ≤ x1_ → (p_X4_readTable_a65 σ)) ∧ (¬ ((500 : Int32) ≤ x1_) → (p_X3_seek σ ∧ (((r_X3_seek σ).1 = 0 → (p_X4_readTable_a65 (r_X3_seek σ).2)) ∧ (¬ ((r_X3_seek σ).1 = 0) → (p_X4_readRow (r_X3_seek σ).2 ∧ ((r_X4_readRow (r_X3_seek σ).2).1 = 0 → (kp21 (t_X4_readTable_1 σ x1_) (x1_ + (1 : Int32))))))))))
theorem m_X4_readTable_b21 {s : List Int32} (k21 : sg_S → Int32 → Int32 × sg_S) (kp21 : sg_S → Int32 → Prop) (hk21 : ∀ (σ : sg_S) (x1_ : Int32) (o2_ : Option (ip_V Int32)), kp21 σ x1_ → RtF bk fR s 112 21 [some (rf 0), some (.inl x1_), o2_] [] σ (k21 σ x1_)) (σ : sg_S) (x1_ : Int32) (o2_ : Option (ip_V Int32)) (hp : p_X4_readTable_b21 kp21 σ x1_) : RtF bk fR s 112 21 [some (rf 0), some (.inl x1_), o2_] [] σ (r_X4_readTable_b21 k21 σ x1_) := by
  unfold r_X4_readTable_b21
  unfold p_X4_readTable_b21 at hp
  refine rt_ln rfl rfl ?_
  refine rt_k3 rfl ck3_500 ?_
  refine rt_ic rfl rfl (fun h => ?_) (fun h => ?_)
  · replace hp := hp.1 h
    exact m_X4_readTable_a65 σ _ _ hp
  · replace hp := hp.2 h
    refine rt_lna rfl rfl ?_
    refine rt_gfr rfl Kq_0 (by decide) rfl ?_
    refine rt_iv (σ1 := (r_X3_seek σ).2) rfl rfl rfl (m_X3_seek hp.1) ?_
    show RtF bk fR s 112 35 [some (rf 0), some (.inl x1_), o2_] [.inl (r_X3_seek σ).1] (r_X3_seek σ).2 _
    replace hp := hp.2
    refine rt_if rfl rfl (fun h => ?_) (fun h => ?_)
    · replace hp := hp.1 h
      exact m_X4_readTable_a65 (r_X3_seek σ).2 _ _ hp
    · replace hp := hp.2 h
      refine rt_lna rfl rfl ?_
      refine rt_iv (σ1 := (r_X4_readRow (r_X3_seek σ).2).2) rfl rfl rfl (m_X4_readRow hp.1) ?_
      show RtF bk fR s 112 42 [some (rf 0), some (.inl x1_), o2_] [.inl (r_X4_readRow (r_X3_seek σ).2).1] (r_X4_readRow (r_X3_seek σ).2).2 _
      replace hp := hp.2
      refine rt_sn (la1 := [some (rf 0), some (.inl x1_), some (.inl (r_X4_readRow (r_X3_seek σ).2).1)]) rfl rfl rfl ?_
      refine rt_ln rfl rfl ?_
      refine rt_if rfl rfl (fun h => ?_) (fun h => ?_)
      · replace hp := hp h
        refine rt_lna rfl rfl ?_
        refine rt_dup rfl rfl ?_
        refine rt_gfi rfl Kq_0 (by decide) rfl rfl ?_
        refine rt_k1 rfl ck1_1 ?_
        refine rt_add rfl ?_
        refine rt_pf (σ1 := (t_X4_readTable_1 σ x1_)) rfl Kq_0 (by decide) rfl rfl rfl ?_
        refine rt_inc (la1 := [some (rf 0), some (.inl (x1_ + (1 : Int32))), some (.inl (r_X4_readRow (r_X3_seek σ).2).1)]) rfl rfl ck1_1 rfl ?_
        refine rt_go rfl ?_
        exact hk21 (t_X4_readTable_1 σ x1_) (x1_ + (1 : Int32)) _ hp
      · refine rt_ln rfl rfl ?_
        exact rt_eR rfl
noncomputable def r_X4_readTable_l21 (n : Nat) : sg_S → Int32 → Int32 × sg_S := Nat.rec (motive := fun _ => sg_S → Int32 → Int32 × sg_S) (fun σ _ => (0, σ)) (fun _ ih => r_X4_readTable_b21 ih) n
noncomputable def p_X4_readTable_l21 (n : Nat) : sg_S → Int32 → Prop := Nat.rec (motive := fun _ => sg_S → Int32 → Prop) (fun _ _ => False) (fun _ ih => p_X4_readTable_b21 ih) n
theorem m_X4_readTable_l21 {s : List Int32} : ∀ (n : Nat), ∀ (σ : sg_S) (x1_ : Int32) (o2_ : Option (ip_V Int32)), p_X4_readTable_l21 n σ x1_ → RtF bk fR s 112 21 [some (rf 0), some (.inl x1_), o2_] [] σ (r_X4_readTable_l21 n σ x1_) := by
  intro n
  induction n with
  | zero =>
    intro σ x1_ o2_ hp
    exact hp.elim
  | succ n ih =>
    intro σ x1_ o2_ hp
    exact m_X4_readTable_b21 (r_X4_readTable_l21 n) (p_X4_readTable_l21 n) ih σ x1_ o2_ hp
noncomputable def r_X4_readTable (σ : sg_S) : Int32 × sg_S := (r_X4_readTable_l21 600 (t_X4_readTable_0 σ) (0 : Int32))
noncomputable def p_X4_readTable (σ : sg_S) : Prop := (p_X2_beginProposal (sg_up σ 0 8 (0 : Int32)) ∧ (p_X4_readTable_l21 600 (t_X4_readTable_0 σ) (0 : Int32)))
theorem m_X4_readTable {s : List Int32} {σ : sg_S} (hp : p_X4_readTable σ) : Ct s 112 [rf 0] σ [.inl (r_X4_readTable σ).1] (r_X4_readTable σ).2 := by
  refine ct_v (la := [some (rf 0), none, none]) Kq_0 rfl rfl rfl rfl rfl rfl rfl (cgR ?_)
  unfold r_X4_readTable
  unfold p_X4_readTable at hp
  refine rt_lna rfl rfl ?_
  refine rt_k1 rfl ck1_0 ?_
  refine rt_pf (σ1 := (sg_up σ 0 8 (0 : Int32))) rfl Kq_0 (by decide) rfl rfl rfl ?_
  refine rt_lna rfl rfl ?_
  refine rt_gfr rfl Kq_0 (by decide) rfl ?_
  refine rt_iv (σ1 := (s_X2_beginProposal (sg_up σ 0 8 (0 : Int32)))) rfl rfl rfl (m_X2_beginProposal hp.1) ?_
  show RtF bk fR s 112 12 [some (rf 0), none, none] [] (s_X2_beginProposal (sg_up σ 0 8 (0 : Int32))) _
  replace hp := hp.2
  refine rt_lna rfl rfl ?_
  refine rt_gfr rfl Kq_0 (by decide) rfl ?_
  refine rt_iv (σ1 := (t_X4_readTable_0 σ)) rfl rfl rfl (m_X3_rewind) ?_
  show RtF bk fR s 112 19 [some (rf 0), none, none] [] (t_X4_readTable_0 σ) _
  refine rt_k1 rfl ck1_0 ?_
  refine rt_sn (la1 := [some (rf 0), some (.inl (0 : Int32)), none]) rfl rfl rfl ?_
  exact m_X4_readTable_l21 600 (t_X4_readTable_0 σ) (0 : Int32) _ hp
noncomputable def s_X0_take_a121 (c : Nat) (σ : sg_S) (r3_ : Nat) : sg_S := (if ¬ (v_X1_isWorn σ r3_) = 0 then (sg_up σ c 3 ((σ c 3) + (1 : Int32))) else (if (v_X0_targetReached σ c) = 0 then σ else (sg_up σ c 3 ((σ c 3) + (1 : Int32)))))
noncomputable def p_X0_take_a121 (c : Nat) (σ : sg_S) (r3_ : Nat) : Prop := (¬ (¬ (v_X1_isWorn σ r3_) = 0) → p_X0_targetReached σ c)
theorem m_X0_take_a121 {s : List Int32} (c : Nat) (hc : Kd c 0 5) (σ : sg_S) (r3_ : Nat) (hr3_ : Kd r3_ 1 14) (o1_ : Option (ip_V Int32)) (o2_ : Option (ip_V Int32)) (hp : p_X0_take_a121 c σ r3_) : RtF bk fS s 5 121 [some (rf c), o1_, o2_, some (rf r3_)] [] σ (s_X0_take_a121 c σ r3_) := by
  unfold s_X0_take_a121
  unfold p_X0_take_a121 at hp
  refine rt_lna rfl rfl ?_
  refine rt_iv (σ1 := σ) rfl rfl rfl (m_X1_isWorn r3_ hr3_) ?_
  show RtF bk fS s 5 125 [some (rf c), o1_, o2_, some (rf r3_)] [.inl (v_X1_isWorn σ r3_)] σ _
  refine rt_if rfl rfl (fun h => ?_) (fun h => ?_)
  · refine rt_lna rfl rfl ?_
    refine rt_dup rfl rfl ?_
    refine rt_gfi rfl hc (by decide) rfl rfl ?_
    refine rt_k1 rfl ck1_1 ?_
    refine rt_add rfl ?_
    refine rt_pf (σ1 := (sg_up σ c 3 ((σ c 3) + (1 : Int32)))) rfl hc (by decide) rfl rfl rfl ?_
    exact rt_eS rfl
  · replace hp := hp h
    refine rt_lna rfl rfl ?_
    refine rt_iv (σ1 := σ) rfl rfl rfl (m_X0_targetReached c hc hp) ?_
    show RtF bk fS s 5 132 [some (rf c), o1_, o2_, some (rf r3_)] [.inl (v_X0_targetReached σ c)] σ _
    refine rt_if rfl rfl (fun h => ?_) (fun h => ?_)
    · exact rt_eS rfl
    · refine rt_lna rfl rfl ?_
      refine rt_dup rfl rfl ?_
      refine rt_gfi rfl hc (by decide) rfl rfl ?_
      refine rt_k1 rfl ck1_1 ?_
      refine rt_add rfl ?_
      refine rt_pf (σ1 := (sg_up σ c 3 ((σ c 3) + (1 : Int32)))) rfl hc (by decide) rfl rfl rfl ?_
      exact rt_eS rfl
noncomputable def t_X0_take_0 (σ : sg_S) (c : Nat) (x1_ : Int32) (x2_ : Int32) : sg_S := (s_X1_addBall σ (v_X0_side c (σ c 3)) (x1_ - (48 : Int32)))
noncomputable def t_X0_take_1 (σ : sg_S) (c : Nat) (x1_ : Int32) (x2_ : Int32) : sg_S := (s_X1_addCut σ (v_X0_side c (σ c 3)) x2_ (v_X0_lossByCut σ c x2_))
noncomputable def t_X0_take_2 (σ : sg_S) (c : Nat) (x1_ : Int32) (x2_ : Int32) : sg_S := (s_X1_addClose σ (v_X0_side c (σ c 3)) (v_X0_worthLeft σ c))
noncomputable def s_X0_take_a36 (c : Nat) (σ : sg_S) (x1_ : Int32) (x2_ : Int32) : sg_S := (if ¬ x1_ = (47 : Int32) then (if ¬ x1_ = (99 : Int32) then (if ¬ x1_ = (120 : Int32) then (if x1_ = (119 : Int32) then (s_X0_take_a121 c (s_X1_addExtra σ (v_X0_side c (σ c 3))) (v_X0_side c (σ c 3))) else (if ¬ x1_ = (110 : Int32) then (s_X0_take_a121 c (t_X0_take_0 σ c x1_ x2_) (v_X0_side c (σ c 3))) else (s_X0_take_a121 c (s_X1_addExtra σ (v_X0_side c (σ c 3))) (v_X0_side c (σ c 3))))) else (s_X0_take_a121 c (s_X1_addWicket σ (v_X0_side c (σ c 3))) (v_X0_side c (σ c 3)))) else (s_X0_take_a121 c (t_X0_take_1 σ c x1_ x2_) (v_X0_side c (σ c 3)))) else (s_X0_take_a121 c (t_X0_take_2 σ c x1_ x2_) (v_X0_side c (σ c 3))))
noncomputable def p_X0_take_a36 (c : Nat) (σ : sg_S) (x1_ : Int32) (x2_ : Int32) : Prop := ((¬ x1_ = (47 : Int32) → ((¬ x1_ = (99 : Int32) → ((¬ x1_ = (120 : Int32) → ((x1_ = (119 : Int32) → (p_X1_addExtra σ (v_X0_side c (σ c 3)) ∧ (p_X0_take_a121 c (s_X1_addExtra σ (v_X0_side c (σ c 3))) (v_X0_side c (σ c 3))))) ∧ (¬ (x1_ = (119 : Int32)) → ((¬ x1_ = (110 : Int32) → (p_X1_addBall σ (v_X0_side c (σ c 3)) (x1_ - (48 : Int32)) ∧ (p_X0_take_a121 c (t_X0_take_0 σ c x1_ x2_) (v_X0_side c (σ c 3))))) ∧ (¬ (¬ x1_ = (110 : Int32)) → (p_X1_addExtra σ (v_X0_side c (σ c 3)) ∧ (p_X0_take_a121 c (s_X1_addExtra σ (v_X0_side c (σ c 3))) (v_X0_side c (σ c 3))))))))) ∧ (¬ (¬ x1_ = (120 : Int32)) → (p_X1_addWicket σ (v_X0_side c (σ c 3)) ∧ (p_X0_take_a121 c (s_X1_addWicket σ (v_X0_side c (σ c 3))) (v_X0_side c (σ c 3))))))) ∧ (¬ (¬ x1_ = (99 : Int32)) → (p_X0_lossByCut σ c x2_ ∧ (p_X1_addCut σ (v_X0_side c (σ c 3)) x2_ (v_X0_lossByCut σ c x2_) ∧ (p_X0_take_a121 c (t_X0_take_1 σ c x1_ x2_) (v_X0_side c (σ c 3)))))))) ∧ (¬ (¬ x1_ = (47 : Int32)) → (p_X0_worthLeft σ c ∧ (p_X0_take_a121 c (t_X0_take_2 σ c x1_ x2_) (v_X0_side c (σ c 3))))))
theorem m_X0_take_a36 {s : List Int32} (c : Nat) (hc : Kd c 0 5) (σ : sg_S) (x1_ : Int32) (x2_ : Int32) (o3_ : Option (ip_V Int32)) (hp : p_X0_take_a36 c σ x1_ x2_) : RtF bk fS s 5 36 [some (rf c), some (.inl x1_), some (.inl x2_), o3_] [] σ (s_X0_take_a36 c σ x1_ x2_) := by
  unfold s_X0_take_a36
  unfold p_X0_take_a36 at hp
  refine rt_lna rfl rfl ?_
  refine rt_lna rfl rfl ?_
  refine rt_gfi rfl hc (by decide) rfl rfl ?_
  refine rt_iv (σ1 := σ) rfl rfl rfl (m_X0_side c (σ c 3) hc) ?_
  show RtF bk fS s 5 44 [some (rf c), some (.inl x1_), some (.inl x2_), o3_] [rf (v_X0_side c (σ c 3))] σ _
  refine rt_sna (la1 := [some (rf c), some (.inl x1_), some (.inl x2_), some (rf (v_X0_side c (σ c 3)))]) rfl rfl rfl ?_
  refine rt_ln rfl rfl ?_
  refine rt_k2 rfl ck2_47 ?_
  refine rt_ic rfl rfl (fun h => ?_) (fun h => ?_)
  · replace hp := hp.1 h
    refine rt_ln rfl rfl ?_
    refine rt_k2 rfl ck2_99 ?_
    refine rt_ic rfl rfl (fun h => ?_) (fun h => ?_)
    · replace hp := hp.1 h
      refine rt_ln rfl rfl ?_
      refine rt_k2 rfl ck2_120 ?_
      refine rt_ic rfl rfl (fun h => ?_) (fun h => ?_)
      · replace hp := hp.1 h
        refine rt_ln rfl rfl ?_
        refine rt_k2 rfl ck2_119 ?_
        refine rt_ic rfl rfl (fun h => ?_) (fun h => ?_)
        · replace hp := hp.1 h
          refine rt_lna rfl rfl ?_
          refine rt_iv (σ1 := (s_X1_addExtra σ (v_X0_side c (σ c 3)))) rfl rfl rfl (m_X1_addExtra (v_X0_side c (σ c 3)) (Kside hc) hp.1) ?_
          show RtF bk fS s 5 110 [some (rf c), some (.inl x1_), some (.inl x2_), some (rf (v_X0_side c (σ c 3)))] [] (s_X1_addExtra σ (v_X0_side c (σ c 3))) _
          replace hp := hp.2
          refine rt_go rfl ?_
          exact m_X0_take_a121 c hc (s_X1_addExtra σ (v_X0_side c (σ c 3))) (v_X0_side c (σ c 3)) (Kside hc) _ _ hp
        · replace hp := hp.2 h
          refine rt_ln rfl rfl ?_
          refine rt_k2 rfl ck2_110 ?_
          refine rt_ic rfl rfl (fun h => ?_) (fun h => ?_)
          · replace hp := hp.1 h
            refine rt_lna rfl rfl ?_
            refine rt_ln rfl rfl ?_
            refine rt_k2 rfl ck2_48 ?_
            refine rt_sub rfl ?_
            refine rt_iv (σ1 := (t_X0_take_0 σ c x1_ x2_)) rfl rfl rfl (m_X1_addBall (v_X0_side c (σ c 3)) (x1_ - (48 : Int32)) (Kside hc) hp.1) ?_
            show RtF bk fS s 5 121 [some (rf c), some (.inl x1_), some (.inl x2_), some (rf (v_X0_side c (σ c 3)))] [] (t_X0_take_0 σ c x1_ x2_) _
            replace hp := hp.2
            exact m_X0_take_a121 c hc (t_X0_take_0 σ c x1_ x2_) (v_X0_side c (σ c 3)) (Kside hc) _ _ hp
          · replace hp := hp.2 h
            refine rt_lna rfl rfl ?_
            refine rt_iv (σ1 := (s_X1_addExtra σ (v_X0_side c (σ c 3)))) rfl rfl rfl (m_X1_addExtra (v_X0_side c (σ c 3)) (Kside hc) hp.1) ?_
            show RtF bk fS s 5 110 [some (rf c), some (.inl x1_), some (.inl x2_), some (rf (v_X0_side c (σ c 3)))] [] (s_X1_addExtra σ (v_X0_side c (σ c 3))) _
            replace hp := hp.2
            refine rt_go rfl ?_
            exact m_X0_take_a121 c hc (s_X1_addExtra σ (v_X0_side c (σ c 3))) (v_X0_side c (σ c 3)) (Kside hc) _ _ hp
      · replace hp := hp.2 h
        refine rt_lna rfl rfl ?_
        refine rt_iv (σ1 := (s_X1_addWicket σ (v_X0_side c (σ c 3)))) rfl rfl rfl (m_X1_addWicket (v_X0_side c (σ c 3)) (Kside hc) hp.1) ?_
        show RtF bk fS s 5 91 [some (rf c), some (.inl x1_), some (.inl x2_), some (rf (v_X0_side c (σ c 3)))] [] (s_X1_addWicket σ (v_X0_side c (σ c 3))) _
        replace hp := hp.2
        refine rt_go rfl ?_
        exact m_X0_take_a121 c hc (s_X1_addWicket σ (v_X0_side c (σ c 3))) (v_X0_side c (σ c 3)) (Kside hc) _ _ hp
    · replace hp := hp.2 h
      refine rt_lna rfl rfl ?_
      refine rt_ln rfl rfl ?_
      refine rt_lna rfl rfl ?_
      refine rt_ln rfl rfl ?_
      refine rt_iv (σ1 := σ) rfl rfl rfl (m_X0_lossByCut c x2_ hc hp.1) ?_
      show RtF bk fS s 5 75 [some (rf c), some (.inl x1_), some (.inl x2_), some (rf (v_X0_side c (σ c 3)))] [.inl (v_X0_lossByCut σ c x2_), .inl x2_, rf (v_X0_side c (σ c 3))] σ _
      replace hp := hp.2
      refine rt_iv (σ1 := (t_X0_take_1 σ c x1_ x2_)) rfl rfl rfl (m_X1_addCut (v_X0_side c (σ c 3)) x2_ (v_X0_lossByCut σ c x2_) (Kside hc) hp.1) ?_
      show RtF bk fS s 5 78 [some (rf c), some (.inl x1_), some (.inl x2_), some (rf (v_X0_side c (σ c 3)))] [] (t_X0_take_1 σ c x1_ x2_) _
      replace hp := hp.2
      refine rt_go rfl ?_
      exact m_X0_take_a121 c hc (t_X0_take_1 σ c x1_ x2_) (v_X0_side c (σ c 3)) (Kside hc) _ _ hp
  · replace hp := hp.2 h
    refine rt_lna rfl rfl ?_
    refine rt_lna rfl rfl ?_
    refine rt_iv (σ1 := σ) rfl rfl rfl (m_X0_worthLeft c hc hp.1) ?_
    show RtF bk fS s 5 56 [some (rf c), some (.inl x1_), some (.inl x2_), some (rf (v_X0_side c (σ c 3)))] [.inl (v_X0_worthLeft σ c), rf (v_X0_side c (σ c 3))] σ _
    replace hp := hp.2
    refine rt_iv (σ1 := (t_X0_take_2 σ c x1_ x2_)) rfl rfl rfl (m_X1_addClose (v_X0_side c (σ c 3)) (v_X0_worthLeft σ c) (Kside hc)) ?_
    show RtF bk fS s 5 59 [some (rf c), some (.inl x1_), some (.inl x2_), some (rf (v_X0_side c (σ c 3)))] [] (t_X0_take_2 σ c x1_ x2_) _
    refine rt_go rfl ?_
    exact m_X0_take_a121 c hc (t_X0_take_2 σ c x1_ x2_) (v_X0_side c (σ c 3)) (Kside hc) _ _ hp
noncomputable def t_X0_take_3 (σ : sg_S) (c : Nat) (x0 : Int32) (x1 : Int32) : sg_S := (s_X1_beginWith σ (c + 7) x1 (v_X2_worthOfOvers σ x1))
noncomputable def s_X0_take (σ : sg_S) (c : Nat) (x0 : Int32) (x1 : Int32) : sg_S := (if ¬ x0 = (100 : Int32) then (if ¬ (σ c 3) = (1 : Int32) then (s_X0_take_a36 c σ x0 x1) else (s_X0_take_a36 c (sg_up σ c 4 (0 : Int32)) x0 x1)) else (t_X0_take_3 σ c x0 x1))
noncomputable def p_X0_take (σ : sg_S) (c : Nat) (x0 : Int32) (x1 : Int32) : Prop := ((¬ x0 = (100 : Int32) → ((¬ (σ c 3) = (1 : Int32) → (p_X0_take_a36 c σ x0 x1)) ∧ (¬ (¬ (σ c 3) = (1 : Int32)) → (p_X0_take_a36 c (sg_up σ c 4 (0 : Int32)) x0 x1)))) ∧ (¬ (¬ x0 = (100 : Int32)) → p_X2_worthOfOvers x1))
theorem m_X0_take {s : List Int32} {σ : sg_S} (c : Nat) (x0 : Int32) (x1 : Int32) (hc : Kd c 0 5) (hp : p_X0_take σ c x0 x1) : Ct s 5 [rf c, .inl x0, .inl x1] σ [] (s_X0_take σ c x0 x1) := by
  refine ct_v (la := [some (rf c), some (.inl x0), some (.inl x1), none]) hc rfl rfl rfl rfl rfl rfl rfl (cgS ?_)
  unfold s_X0_take
  unfold p_X0_take at hp
  refine rt_ln rfl rfl ?_
  refine rt_k2 rfl ck2_100 ?_
  refine rt_ic rfl rfl (fun h => ?_) (fun h => ?_)
  · replace hp := hp.1 h
    refine rt_lna rfl rfl ?_
    refine rt_gfi rfl hc (by decide) rfl rfl ?_
    refine rt_k1 rfl ck1_1 ?_
    refine rt_ic rfl rfl (fun h => ?_) (fun h => ?_)
    · replace hp := hp.1 h
      exact m_X0_take_a36 c hc σ x0 x1 _ hp
    · replace hp := hp.2 h
      refine rt_lna rfl rfl ?_
      refine rt_k1 rfl ck1_0 ?_
      refine rt_pz (σ1 := (sg_up σ c 4 (0 : Int32))) rfl hc (Or.inl rfl) (by decide) rfl rfl rfl ?_
      exact m_X0_take_a36 c hc (sg_up σ c 4 (0 : Int32)) x0 x1 _ hp
  · replace hp := hp.2 h
    refine rt_lna rfl rfl ?_
    refine rt_gfr rfl hc (by decide) rfl ?_
    refine rt_ln rfl rfl ?_
    refine rt_lna rfl rfl ?_
    refine rt_gfr rfl hc (by decide) rfl ?_
    refine rt_ln rfl rfl ?_
    refine rt_iv (σ1 := σ) rfl rfl rfl (m_X2_worthOfOvers x1 hp) ?_
    show RtF bk fS s 5 19 [some (rf c), some (.inl x0), some (.inl x1), none] [.inl (v_X2_worthOfOvers σ x1), .inl x1, rf (c + 7)] σ _
    refine rt_iv (σ1 := (t_X0_take_3 σ c x0 x1)) rfl rfl rfl (m_X1_beginWith (c + 7) x1 (v_X2_worthOfOvers σ x1) (K0_2 hc)) ?_
    show RtF bk fS s 5 22 [some (rf c), some (.inl x0), some (.inl x1), none] [] (t_X0_take_3 σ c x0 x1) _
    exact rt_eS rfl
noncomputable def t_X4_table_0 (σ : sg_S) : sg_S := (sg_up (r_X4_readTable σ).2 0 7 (r_X4_readTable σ).1)
noncomputable def t_X4_table_1 (σ : sg_S) : sg_S := (s_X2_adoptProposal (sg_up (t_X4_table_0 σ) 5 1 (0 : Int32)))
noncomputable def r_X4_table (σ : sg_S) : Int32 × sg_S := (if ((sg_up (t_X4_table_0 σ) 5 1 (0 : Int32)) 0 7) = 0 then (((s_X4_emptyLog (t_X4_table_1 σ)) 0 8), (s_X4_emptyLog (t_X4_table_1 σ))) else ((-1 : Int32), (sg_up (t_X4_table_0 σ) 5 1 (0 : Int32))))
noncomputable def p_X4_table (σ : sg_S) : Prop := (p_X4_readTable σ ∧ (((sg_up (t_X4_table_0 σ) 5 1 (0 : Int32)) 0 7) = 0 → (p_X2_adoptProposal (sg_up (t_X4_table_0 σ) 5 1 (0 : Int32)) ∧ p_X4_emptyLog (t_X4_table_1 σ))))
theorem m_X4_table {s : List Int32} {σ : sg_S} (hp : p_X4_table σ) : Ct s 72 [rf 0] σ [.inl (r_X4_table σ).1] (r_X4_table σ).2 := by
  refine ct_v (la := [some (rf 0)]) Kq_0 rfl rfl rfl rfl rfl rfl rfl (cgR ?_)
  unfold r_X4_table
  unfold p_X4_table at hp
  refine rt_lna rfl rfl ?_
  refine rt_lna rfl rfl ?_
  refine rt_iv (σ1 := (r_X4_readTable σ).2) rfl rfl rfl (m_X4_readTable hp.1) ?_
  show RtF bk fR s 72 5 [some (rf 0)] [.inl (r_X4_readTable σ).1, rf 0] (r_X4_readTable σ).2 _
  replace hp := hp.2
  refine rt_pf (σ1 := (t_X4_table_0 σ)) rfl Kq_0 (by decide) rfl rfl rfl ?_
  refine rt_lna rfl rfl ?_
  refine rt_gfr rfl Kq_0 (by decide) rfl ?_
  refine rt_k1 rfl ck1_0 ?_
  refine rt_pf (σ1 := (sg_up (t_X4_table_0 σ) 5 1 (0 : Int32))) rfl Kq_5 (by decide) rfl rfl rfl ?_
  refine rt_lna rfl rfl ?_
  refine rt_gfi rfl Kq_0 (by decide) rfl rfl ?_
  refine rt_if rfl rfl (fun h => ?_) (fun h => ?_)
  · replace hp := hp h
    refine rt_lna rfl rfl ?_
    refine rt_gfr rfl Kq_0 (by decide) rfl ?_
    refine rt_iv (σ1 := (t_X4_table_1 σ)) rfl rfl rfl (m_X2_adoptProposal hp.1) ?_
    show RtF bk fR s 72 32 [some (rf 0)] [] (t_X4_table_1 σ) _
    replace hp := hp.2
    refine rt_lna rfl rfl ?_
    refine rt_iv (σ1 := (s_X4_emptyLog (t_X4_table_1 σ))) rfl rfl rfl (m_X4_emptyLog hp) ?_
    show RtF bk fR s 72 36 [some (rf 0)] [] (s_X4_emptyLog (t_X4_table_1 σ)) _
    refine rt_lna rfl rfl ?_
    refine rt_gfi rfl Kq_0 (by decide) rfl rfl ?_
    exact rt_eR rfl
  · refine rt_k1 rfl ck1_m1 ?_
    exact rt_eR rfl
noncomputable def r_X4_set (σ : sg_S) (x0 : Int32) (x1 : Int32) : Int32 × sg_S := (if (v_X2_allows σ x0 x1) = 0 then ((0 : Int32), σ) else (if ¬ (v_X2_setting σ x0) = x1 then ((1 : Int32), (s_X4_emptyLog (s_X2_change σ x0 x1))) else ((0 : Int32), σ)))
noncomputable def p_X4_set (σ : sg_S) (x0 : Int32) (x1 : Int32) : Prop := (p_X2_allows x0 x1 ∧ (¬ ((v_X2_allows σ x0 x1) = 0) → (p_X2_setting x0 ∧ (¬ (v_X2_setting σ x0) = x1 → (p_X2_change x0 x1 ∧ p_X4_emptyLog (s_X2_change σ x0 x1))))))
theorem m_X4_set {s : List Int32} {σ : sg_S} (x0 : Int32) (x1 : Int32) (hp : p_X4_set σ x0 x1) : Ct s 75 [rf 0, .inl x0, .inl x1] σ [.inl (r_X4_set σ x0 x1).1] (r_X4_set σ x0 x1).2 := by
  refine ct_v (la := [some (rf 0), some (.inl x0), some (.inl x1)]) Kq_0 rfl rfl rfl rfl rfl rfl rfl (cgR ?_)
  unfold r_X4_set
  unfold p_X4_set at hp
  refine rt_lna rfl rfl ?_
  refine rt_gfr rfl Kq_0 (by decide) rfl ?_
  refine rt_ln rfl rfl ?_
  refine rt_ln rfl rfl ?_
  refine rt_iv (σ1 := σ) rfl rfl rfl (m_X2_allows x0 x1 hp.1) ?_
  show RtF bk fR s 75 9 [some (rf 0), some (.inl x0), some (.inl x1)] [.inl (v_X2_allows σ x0 x1)] σ _
  replace hp := hp.2
  refine rt_if rfl rfl (fun h => ?_) (fun h => ?_)
  · refine rt_k1 rfl ck1_0 ?_
    exact rt_eRb rfl (Or.inl rfl)
  · replace hp := hp h
    refine rt_lna rfl rfl ?_
    refine rt_gfr rfl Kq_0 (by decide) rfl ?_
    refine rt_ln rfl rfl ?_
    refine rt_iv (σ1 := σ) rfl rfl rfl (m_X2_setting x0 hp.1) ?_
    show RtF bk fR s 75 20 [some (rf 0), some (.inl x0), some (.inl x1)] [.inl (v_X2_setting σ x0)] σ _
    replace hp := hp.2
    refine rt_ln rfl rfl ?_
    refine rt_ic rfl rfl (fun h => ?_) (fun h => ?_)
    · replace hp := hp h
      refine rt_lna rfl rfl ?_
      refine rt_gfr rfl Kq_0 (by decide) rfl ?_
      refine rt_ln rfl rfl ?_
      refine rt_ln rfl rfl ?_
      refine rt_iv (σ1 := (s_X2_change σ x0 x1)) rfl rfl rfl (m_X2_change x0 x1 hp.1) ?_
      show RtF bk fR s 75 35 [some (rf 0), some (.inl x0), some (.inl x1)] [] (s_X2_change σ x0 x1) _
      replace hp := hp.2
      refine rt_lna rfl rfl ?_
      refine rt_iv (σ1 := (s_X4_emptyLog (s_X2_change σ x0 x1))) rfl rfl rfl (m_X4_emptyLog hp) ?_
      show RtF bk fR s 75 39 [some (rf 0), some (.inl x0), some (.inl x1)] [] (s_X4_emptyLog (s_X2_change σ x0 x1)) _
      refine rt_k1 rfl ck1_1 ?_
      exact rt_eRb rfl (Or.inr rfl)
    · refine rt_k1 rfl ck1_0 ?_
      exact rt_eRb rfl (Or.inl rfl)
noncomputable def r_X4_clear (σ : sg_S) : Int32 × sg_S := ((σ 0 6), (s_X4_emptyLog σ))
noncomputable def p_X4_clear (σ : sg_S) : Prop := p_X4_emptyLog σ
theorem m_X4_clear {s : List Int32} {σ : sg_S} (hp : p_X4_clear σ) : Ct s 78 [rf 0] σ [.inl (r_X4_clear σ).1] (r_X4_clear σ).2 := by
  refine ct_v (la := [some (rf 0), none]) Kq_0 rfl rfl rfl rfl rfl rfl rfl (cgR ?_)
  unfold r_X4_clear
  unfold p_X4_clear at hp
  refine rt_lna rfl rfl ?_
  refine rt_gfi rfl Kq_0 (by decide) rfl rfl ?_
  refine rt_sn (la1 := [some (rf 0), some (.inl (σ 0 6))]) rfl rfl rfl ?_
  refine rt_lna rfl rfl ?_
  refine rt_iv (σ1 := (s_X4_emptyLog σ)) rfl rfl rfl (m_X4_emptyLog hp) ?_
  show RtF bk fR s 78 9 [some (rf 0), some (.inl (σ 0 6))] [] (s_X4_emptyLog σ) _
  refine rt_ln rfl rfl ?_
  exact rt_eR rfl
noncomputable def r_X4_firstAhead_b9 (k9 : sg_S → Int32 → Int32 × sg_S) (σ : sg_S) (x1_ : Int32) : Int32 × sg_S := (if (σ 0 6) ≤ x1_ then ((-1 : Int32), σ) else (if (400 : Int32) ≤ x1_ then ((-1 : Int32), σ) else (if (v_X0_parNow (s_X0_take σ 20 (σ 33 (ni x1_)) (σ 34 (ni x1_))) 20) = (-1 : Int32) then (k9 (s_X0_take σ 20 (σ 33 (ni x1_)) (σ 34 (ni x1_))) (x1_ + (1 : Int32))) else (if ((s_X0_take σ 20 (σ 33 (ni x1_)) (σ 34 (ni x1_))) 27 0) ≤ (v_X0_parNow (s_X0_take σ 20 (σ 33 (ni x1_)) (σ 34 (ni x1_))) 20) then (k9 (s_X0_take σ 20 (σ 33 (ni x1_)) (σ 34 (ni x1_))) (x1_ + (1 : Int32))) else ((x1_ + (1 : Int32)), (s_X0_take σ 20 (σ 33 (ni x1_)) (σ 34 (ni x1_))))))))
noncomputable def p_X4_firstAhead_b9 (kp9 : sg_S → Int32 → Prop) (σ : sg_S) (x1_ : Int32) : Prop := (¬ ((σ 0 6) ≤ x1_) → (¬ ((400 : Int32) ≤ x1_) → (ix x1_ 400 ∧ (ix x1_ 400 ∧ (p_X0_take σ 20 (σ 33 (ni x1_)) (σ 34 (ni x1_)) ∧ (p_X0_parNow (s_X0_take σ 20 (σ 33 (ni x1_)) (σ 34 (ni x1_))) 20 ∧ (((v_X0_parNow (s_X0_take σ 20 (σ 33 (ni x1_)) (σ 34 (ni x1_))) 20) = (-1 : Int32) → (kp9 (s_X0_take σ 20 (σ 33 (ni x1_)) (σ 34 (ni x1_))) (x1_ + (1 : Int32)))) ∧ (¬ ((v_X0_parNow (s_X0_take σ 20 (σ 33 (ni x1_)) (σ 34 (ni x1_))) 20) = (-1 : Int32)) → (((s_X0_take σ 20 (σ 33 (ni x1_)) (σ 34 (ni x1_))) 27 0) ≤ (v_X0_parNow (s_X0_take σ 20 (σ 33 (ni x1_)) (σ 34 (ni x1_))) 20) → (kp9 (s_X0_take σ 20 (σ 33 (ni x1_)) (σ 34 (ni x1_))) (x1_ + (1 : Int32))))))))))))
theorem m_X4_firstAhead_b9 {s : List Int32} (k9 : sg_S → Int32 → Int32 × sg_S) (kp9 : sg_S → Int32 → Prop) (hk9 : ∀ (σ : sg_S) (x1_ : Int32) (o2_ : Option (ip_V Int32)), kp9 σ x1_ → RtF bk fR s 106 9 [some (rf 0), some (.inl x1_), o2_] [] σ (k9 σ x1_)) (σ : sg_S) (x1_ : Int32) (o2_ : Option (ip_V Int32)) (hp : p_X4_firstAhead_b9 kp9 σ x1_) : RtF bk fR s 106 9 [some (rf 0), some (.inl x1_), o2_] [] σ (r_X4_firstAhead_b9 k9 σ x1_) := by
  unfold r_X4_firstAhead_b9
  unfold p_X4_firstAhead_b9 at hp
  refine rt_ln rfl rfl ?_
  refine rt_lna rfl rfl ?_
  refine rt_gfi rfl Kq_0 (by decide) rfl rfl ?_
  refine rt_ic rfl rfl (fun h => ?_) (fun h => ?_)
  · refine rt_k1 rfl ck1_m1 ?_
    exact rt_eR rfl
  · replace hp := hp h
    refine rt_ln rfl rfl ?_
    refine rt_k3 rfl ck3_400 ?_
    refine rt_ic rfl rfl (fun h => ?_) (fun h => ?_)
    · refine rt_k1 rfl ck1_m1 ?_
      exact rt_eR rfl
    · replace hp := hp h
      refine rt_lna rfl rfl ?_
      refine rt_gfr rfl Kq_0 (by decide) rfl ?_
      refine rt_lna rfl rfl ?_
      refine rt_gfr rfl Kq_0 (by decide) rfl ?_
      refine rt_ln rfl rfl ?_
      refine rt_al rfl Kq_33 hp.1 rfl ?_
      replace hp := hp.2
      refine rt_lna rfl rfl ?_
      refine rt_gfr rfl Kq_0 (by decide) rfl ?_
      refine rt_ln rfl rfl ?_
      refine rt_al rfl Kq_34 hp.1 rfl ?_
      replace hp := hp.2
      refine rt_iv (σ1 := (s_X0_take σ 20 (σ 33 (ni x1_)) (σ 34 (ni x1_)))) rfl rfl rfl (m_X0_take 20 (σ 33 (ni x1_)) (σ 34 (ni x1_)) Kq_20 hp.1) ?_
      show RtF bk fR s 106 43 [some (rf 0), some (.inl x1_), o2_] [] (s_X0_take σ 20 (σ 33 (ni x1_)) (σ 34 (ni x1_))) _
      replace hp := hp.2
      refine rt_lna rfl rfl ?_
      refine rt_gfr rfl Kq_0 (by decide) rfl ?_
      refine rt_iv (σ1 := (s_X0_take σ 20 (σ 33 (ni x1_)) (σ 34 (ni x1_)))) rfl rfl rfl (m_X0_parNow 20 Kq_20 hp.1) ?_
      show RtF bk fR s 106 50 [some (rf 0), some (.inl x1_), o2_] [.inl (v_X0_parNow (s_X0_take σ 20 (σ 33 (ni x1_)) (σ 34 (ni x1_))) 20)] (s_X0_take σ 20 (σ 33 (ni x1_)) (σ 34 (ni x1_))) _
      replace hp := hp.2
      refine rt_sn (la1 := [some (rf 0), some (.inl x1_), some (.inl (v_X0_parNow (s_X0_take σ 20 (σ 33 (ni x1_)) (σ 34 (ni x1_))) 20))]) rfl rfl rfl ?_
      refine rt_ln rfl rfl ?_
      refine rt_k1 rfl ck1_m1 ?_
      refine rt_ic rfl rfl (fun h => ?_) (fun h => ?_)
      · replace hp := hp.1 h
        refine rt_inc (la1 := [some (rf 0), some (.inl (x1_ + (1 : Int32))), some (.inl (v_X0_parNow (s_X0_take σ 20 (σ 33 (ni x1_)) (σ 34 (ni x1_))) 20))]) rfl rfl ck1_1 rfl ?_
        refine rt_go rfl ?_
        exact hk9 (s_X0_take σ 20 (σ 33 (ni x1_)) (σ 34 (ni x1_))) (x1_ + (1 : Int32)) _ hp
      · replace hp := hp.2 h
        refine rt_lna rfl rfl ?_
        refine rt_gfr rfl Kq_0 (by decide) rfl ?_
        refine rt_gfr rfl Kq_20 (by decide) rfl ?_
        refine rt_gfi rfl Kq_27 (by decide) rfl rfl ?_
        refine rt_ln rfl rfl ?_
        refine rt_ic rfl rfl (fun h => ?_) (fun h => ?_)
        · replace hp := hp h
          refine rt_inc (la1 := [some (rf 0), some (.inl (x1_ + (1 : Int32))), some (.inl (v_X0_parNow (s_X0_take σ 20 (σ 33 (ni x1_)) (σ 34 (ni x1_))) 20))]) rfl rfl ck1_1 rfl ?_
          refine rt_go rfl ?_
          exact hk9 (s_X0_take σ 20 (σ 33 (ni x1_)) (σ 34 (ni x1_))) (x1_ + (1 : Int32)) _ hp
        · refine rt_ln rfl rfl ?_
          refine rt_k1 rfl ck1_1 ?_
          refine rt_add rfl ?_
          exact rt_eR rfl
noncomputable def r_X4_firstAhead_l9 (n : Nat) : sg_S → Int32 → Int32 × sg_S := Nat.rec (motive := fun _ => sg_S → Int32 → Int32 × sg_S) (fun σ _ => (0, σ)) (fun _ ih => r_X4_firstAhead_b9 ih) n
noncomputable def p_X4_firstAhead_l9 (n : Nat) : sg_S → Int32 → Prop := Nat.rec (motive := fun _ => sg_S → Int32 → Prop) (fun _ _ => False) (fun _ ih => p_X4_firstAhead_b9 ih) n
theorem m_X4_firstAhead_l9 {s : List Int32} : ∀ (n : Nat), ∀ (σ : sg_S) (x1_ : Int32) (o2_ : Option (ip_V Int32)), p_X4_firstAhead_l9 n σ x1_ → RtF bk fR s 106 9 [some (rf 0), some (.inl x1_), o2_] [] σ (r_X4_firstAhead_l9 n σ x1_) := by
  intro n
  induction n with
  | zero =>
    intro σ x1_ o2_ hp
    exact hp.elim
  | succ n ih =>
    intro σ x1_ o2_ hp
    exact m_X4_firstAhead_b9 (r_X4_firstAhead_l9 n) (p_X4_firstAhead_l9 n) ih σ x1_ o2_ hp
noncomputable def r_X4_firstAhead (σ : sg_S) : Int32 × sg_S := (r_X4_firstAhead_l9 600 (s_X0_restart σ 20) (0 : Int32))
noncomputable def p_X4_firstAhead (σ : sg_S) : Prop := (p_X0_restart σ 20 ∧ (p_X4_firstAhead_l9 600 (s_X0_restart σ 20) (0 : Int32)))
theorem m_X4_firstAhead {s : List Int32} {σ : sg_S} (hp : p_X4_firstAhead σ) : Ct s 106 [rf 0] σ [.inl (r_X4_firstAhead σ).1] (r_X4_firstAhead σ).2 := by
  refine ct_v (la := [some (rf 0), none, none]) Kq_0 rfl rfl rfl rfl rfl rfl rfl (cgR ?_)
  unfold r_X4_firstAhead
  unfold p_X4_firstAhead at hp
  refine rt_lna rfl rfl ?_
  refine rt_gfr rfl Kq_0 (by decide) rfl ?_
  refine rt_iv (σ1 := (s_X0_restart σ 20)) rfl rfl rfl (m_X0_restart 20 Kq_20 hp.1) ?_
  show RtF bk fR s 106 7 [some (rf 0), none, none] [] (s_X0_restart σ 20) _
  replace hp := hp.2
  refine rt_k1 rfl ck1_0 ?_
  refine rt_sn (la1 := [some (rf 0), some (.inl (0 : Int32)), none]) rfl rfl rfl ?_
  exact m_X4_firstAhead_l9 600 (s_X0_restart σ 20) (0 : Int32) _ hp
noncomputable def s_X4_replay_b6 (c : Nat) (k6 : sg_S → Int32 → Int32 → sg_S) (σ : sg_S) (x2_ : Int32) (x3_ : Int32) : sg_S := (if x2_ ≤ x3_ then σ else (if (400 : Int32) ≤ x3_ then σ else (k6 (s_X0_take σ c (σ 33 (ni x3_)) (σ 34 (ni x3_))) x2_ (x3_ + (1 : Int32)))))
noncomputable def p_X4_replay_b6 (c : Nat) (kp6 : sg_S → Int32 → Int32 → Prop) (σ : sg_S) (x2_ : Int32) (x3_ : Int32) : Prop := (¬ (x2_ ≤ x3_) → (¬ ((400 : Int32) ≤ x3_) → (ix x3_ 400 ∧ (ix x3_ 400 ∧ (p_X0_take σ c (σ 33 (ni x3_)) (σ 34 (ni x3_)) ∧ (kp6 (s_X0_take σ c (σ 33 (ni x3_)) (σ 34 (ni x3_))) x2_ (x3_ + (1 : Int32))))))))
theorem m_X4_replay_b6 {s : List Int32} (c : Nat) (hc : Kd c 0 5) (k6 : sg_S → Int32 → Int32 → sg_S) (kp6 : sg_S → Int32 → Int32 → Prop) (hk6 : ∀ (σ : sg_S) (x2_ : Int32) (x3_ : Int32), kp6 σ x2_ x3_ → RtF bk fS s 108 6 [some (rf 0), some (rf c), some (.inl x2_), some (.inl x3_)] [] σ (k6 σ x2_ x3_)) (σ : sg_S) (x2_ : Int32) (x3_ : Int32) (hp : p_X4_replay_b6 c kp6 σ x2_ x3_) : RtF bk fS s 108 6 [some (rf 0), some (rf c), some (.inl x2_), some (.inl x3_)] [] σ (s_X4_replay_b6 c k6 σ x2_ x3_) := by
  unfold s_X4_replay_b6
  unfold p_X4_replay_b6 at hp
  refine rt_ln rfl rfl ?_
  refine rt_ln rfl rfl ?_
  refine rt_ic rfl rfl (fun h => ?_) (fun h => ?_)
  · exact rt_eS rfl
  · replace hp := hp h
    refine rt_ln rfl rfl ?_
    refine rt_k3 rfl ck3_400 ?_
    refine rt_ic rfl rfl (fun h => ?_) (fun h => ?_)
    · exact rt_eS rfl
    · replace hp := hp h
      refine rt_lna rfl rfl ?_
      refine rt_lna rfl rfl ?_
      refine rt_gfr rfl Kq_0 (by decide) rfl ?_
      refine rt_ln rfl rfl ?_
      refine rt_al rfl Kq_33 hp.1 rfl ?_
      replace hp := hp.2
      refine rt_lna rfl rfl ?_
      refine rt_gfr rfl Kq_0 (by decide) rfl ?_
      refine rt_ln rfl rfl ?_
      refine rt_al rfl Kq_34 hp.1 rfl ?_
      replace hp := hp.2
      refine rt_iv (σ1 := (s_X0_take σ c (σ 33 (ni x3_)) (σ 34 (ni x3_)))) rfl rfl rfl (m_X0_take c (σ 33 (ni x3_)) (σ 34 (ni x3_)) hc hp.1) ?_
      show RtF bk fS s 108 34 [some (rf 0), some (rf c), some (.inl x2_), some (.inl x3_)] [] (s_X0_take σ c (σ 33 (ni x3_)) (σ 34 (ni x3_))) _
      replace hp := hp.2
      refine rt_inc (la1 := [some (rf 0), some (rf c), some (.inl x2_), some (.inl (x3_ + (1 : Int32)))]) rfl rfl ck1_1 rfl ?_
      refine rt_go rfl ?_
      exact hk6 (s_X0_take σ c (σ 33 (ni x3_)) (σ 34 (ni x3_))) x2_ (x3_ + (1 : Int32)) hp
noncomputable def s_X4_replay_l6 (c : Nat) (n : Nat) : sg_S → Int32 → Int32 → sg_S := Nat.rec (motive := fun _ => sg_S → Int32 → Int32 → sg_S) (fun σ _ _ => σ) (fun _ ih => s_X4_replay_b6 c ih) n
noncomputable def p_X4_replay_l6 (c : Nat) (n : Nat) : sg_S → Int32 → Int32 → Prop := Nat.rec (motive := fun _ => sg_S → Int32 → Int32 → Prop) (fun _ _ _ => False) (fun _ ih => p_X4_replay_b6 c ih) n
theorem m_X4_replay_l6 {s : List Int32} (c : Nat) (hc : Kd c 0 5) : ∀ (n : Nat), ∀ (σ : sg_S) (x2_ : Int32) (x3_ : Int32), p_X4_replay_l6 c n σ x2_ x3_ → RtF bk fS s 108 6 [some (rf 0), some (rf c), some (.inl x2_), some (.inl x3_)] [] σ (s_X4_replay_l6 c n σ x2_ x3_) := by
  intro n
  induction n with
  | zero =>
    intro σ x2_ x3_ hp
    exact hp.elim
  | succ n ih =>
    intro σ x2_ x3_ hp
    exact m_X4_replay_b6 c hc (s_X4_replay_l6 c n) (p_X4_replay_l6 c n) ih σ x2_ x3_ hp
noncomputable def s_X4_replay (σ : sg_S) (c : Nat) (x1 : Int32) : sg_S := (s_X4_replay_l6 c 600 (s_X0_restart σ c) x1 (0 : Int32))
noncomputable def p_X4_replay (σ : sg_S) (c : Nat) (x1 : Int32) : Prop := (p_X0_restart σ c ∧ (p_X4_replay_l6 c 600 (s_X0_restart σ c) x1 (0 : Int32)))
theorem m_X4_replay {s : List Int32} {σ : sg_S} (c : Nat) (x1 : Int32) (hc : Kd c 0 5) (hp : p_X4_replay σ c x1) : Ct s 108 [rf 0, rf c, .inl x1] σ [] (s_X4_replay σ c x1) := by
  refine ct_v (la := [some (rf 0), some (rf c), some (.inl x1), none]) Kq_0 rfl rfl rfl rfl rfl rfl rfl (cgS ?_)
  unfold s_X4_replay
  unfold p_X4_replay at hp
  refine rt_lna rfl rfl ?_
  refine rt_iv (σ1 := (s_X0_restart σ c)) rfl rfl rfl (m_X0_restart c hc hp.1) ?_
  show RtF bk fS s 108 4 [some (rf 0), some (rf c), some (.inl x1), none] [] (s_X0_restart σ c) _
  replace hp := hp.2
  refine rt_k1 rfl ck1_0 ?_
  refine rt_sn (la1 := [some (rf 0), some (rf c), some (.inl x1), some (.inl (0 : Int32))]) rfl rfl rfl ?_
  exact m_X4_replay_l6 c hc 600 (s_X0_restart σ c) x1 (0 : Int32) hp
noncomputable def t_X4_record_0 (σ : sg_S) (x0 : Int32) (x1 : Int32) : sg_S := (sg_up (sg_up σ 33 (ni (σ 0 6)) x0) 34 (ni ((sg_up σ 33 (ni (σ 0 6)) x0) 0 6)) x1)
noncomputable def t_X4_record_1 (σ : sg_S) (x0 : Int32) (x1 : Int32) : sg_S := (sg_up (t_X4_record_0 σ x0 x1) 0 6 (((t_X4_record_0 σ x0 x1) 0 6) + (1 : Int32)))
noncomputable def s_X4_record (σ : sg_S) (x0 : Int32) (x1 : Int32) : sg_S := (if (σ 0 6) < 0 then σ else (if (σ 0 6) < (400 : Int32) then (s_X0_take (t_X4_record_1 σ x0 x1) 7 x0 x1) else σ))
noncomputable def p_X4_record (σ : sg_S) (x0 : Int32) (x1 : Int32) : Prop := (¬ ((σ 0 6) < 0) → ((σ 0 6) < (400 : Int32) → (ix (σ 0 6) 400 ∧ (ix ((sg_up σ 33 (ni (σ 0 6)) x0) 0 6) 400 ∧ p_X0_take (t_X4_record_1 σ x0 x1) 7 x0 x1))))
theorem m_X4_record {s : List Int32} {σ : sg_S} (x0 : Int32) (x1 : Int32) (hp : p_X4_record σ x0 x1) : Ct s 109 [rf 0, .inl x0, .inl x1] σ [] (s_X4_record σ x0 x1) := by
  refine ct_v (la := [some (rf 0), some (.inl x0), some (.inl x1)]) Kq_0 rfl rfl rfl rfl rfl rfl rfl (cgS ?_)
  unfold s_X4_record
  unfold p_X4_record at hp
  refine rt_lna rfl rfl ?_
  refine rt_gfi rfl Kq_0 (by decide) rfl rfl ?_
  refine rt_if rfl rfl (fun h => ?_) (fun h => ?_)
  · exact rt_eS rfl
  · replace hp := hp h
    refine rt_lna rfl rfl ?_
    refine rt_gfi rfl Kq_0 (by decide) rfl rfl ?_
    refine rt_k3 rfl ck3_400 ?_
    refine rt_ic rfl rfl (fun h => ?_) (fun h => ?_)
    · replace hp := hp h
      refine rt_lna rfl rfl ?_
      refine rt_gfr rfl Kq_0 (by decide) rfl ?_
      refine rt_lna rfl rfl ?_
      refine rt_gfi rfl Kq_0 (by decide) rfl rfl ?_
      refine rt_ln rfl rfl ?_
      refine rt_as (k0 := (ni (σ 0 6))) (σ1 := (sg_up σ 33 (ni (σ 0 6)) x0)) rfl Kq_33 hp.1 rfl rfl ?_
      replace hp := hp.2
      refine rt_lna rfl rfl ?_
      refine rt_gfr rfl Kq_0 (by decide) rfl ?_
      refine rt_lna rfl rfl ?_
      refine rt_gfi rfl Kq_0 (by decide) rfl rfl ?_
      refine rt_ln rfl rfl ?_
      refine rt_as (k0 := (ni ((sg_up σ 33 (ni (σ 0 6)) x0) 0 6))) (σ1 := (t_X4_record_0 σ x0 x1)) rfl Kq_34 hp.1 rfl rfl ?_
      replace hp := hp.2
      refine rt_lna rfl rfl ?_
      refine rt_dup rfl rfl ?_
      refine rt_gfi rfl Kq_0 (by decide) rfl rfl ?_
      refine rt_k1 rfl ck1_1 ?_
      refine rt_add rfl ?_
      refine rt_pf (σ1 := (t_X4_record_1 σ x0 x1)) rfl Kq_0 (by decide) rfl rfl rfl ?_
      refine rt_lna rfl rfl ?_
      refine rt_gfr rfl Kq_0 (by decide) rfl ?_
      refine rt_ln rfl rfl ?_
      refine rt_ln rfl rfl ?_
      refine rt_iv (σ1 := (s_X0_take (t_X4_record_1 σ x0 x1) 7 x0 x1)) rfl rfl rfl (m_X0_take 7 x0 x1 Kq_7 hp) ?_
      show RtF bk fS s 109 57 [some (rf 0), some (.inl x0), some (.inl x1)] [] (s_X0_take (t_X4_record_1 σ x0 x1) 7 x0 x1) _
      exact rt_eS rfl
    · exact rt_eS rfl
noncomputable def t_X4_readEvent_0 (σ : sg_S) : sg_S := (s_X4_record (r_X3_takeByte σ).2 (r_X3_takeByte σ).1 (0 : Int32))
noncomputable def t_X4_readEvent_1 (σ : sg_S) : sg_S := (s_X4_record (r_X3_readNumber (r_X3_takeByte σ).2).2 (r_X3_takeByte σ).1 ((r_X3_readNumber (r_X3_takeByte σ).2).2 5 3))
noncomputable def r_X4_readEvent (σ : sg_S) : Int32 × sg_S := (if ¬ (v_X4_isEvent (r_X3_takeByte σ).1) = 0 then (if ¬ (v_X4_canCome (r_X3_takeByte σ).2 (r_X3_takeByte σ).1) = 0 then (if (v_X4_bearsNumber (r_X3_takeByte σ).1) = 0 then ((0 : Int32), (t_X4_readEvent_0 σ)) else (if ¬ (r_X3_readNumber (r_X3_takeByte σ).2).1 = 0 then (if ¬ (v_X0_fits (r_X3_readNumber (r_X3_takeByte σ).2).2 7 (r_X3_takeByte σ).1 ((r_X3_readNumber (r_X3_takeByte σ).2).2 5 3)) = 0 then ((0 : Int32), (t_X4_readEvent_1 σ)) else ((v_X4_faultHere (r_X3_readNumber (r_X3_takeByte σ).2).2 (2 : Int32)), (r_X3_readNumber (r_X3_takeByte σ).2).2)) else ((v_X4_faultHere (r_X3_readNumber (r_X3_takeByte σ).2).2 (1 : Int32)), (r_X3_readNumber (r_X3_takeByte σ).2).2))) else ((v_X4_faultHere (r_X3_takeByte σ).2 (3 : Int32)), (r_X3_takeByte σ).2)) else ((v_X4_faultHere (r_X3_takeByte σ).2 (1 : Int32)), (r_X3_takeByte σ).2))
noncomputable def p_X4_readEvent (σ : sg_S) : Prop := (p_X3_takeByte σ ∧ (¬ (v_X4_isEvent (r_X3_takeByte σ).1) = 0 → (¬ (v_X4_canCome (r_X3_takeByte σ).2 (r_X3_takeByte σ).1) = 0 → (((v_X4_bearsNumber (r_X3_takeByte σ).1) = 0 → p_X4_record (r_X3_takeByte σ).2 (r_X3_takeByte σ).1 (0 : Int32)) ∧ (¬ ((v_X4_bearsNumber (r_X3_takeByte σ).1) = 0) → (p_X3_readNumber (r_X3_takeByte σ).2 ∧ (¬ (r_X3_readNumber (r_X3_takeByte σ).2).1 = 0 → (¬ (v_X0_fits (r_X3_readNumber (r_X3_takeByte σ).2).2 7 (r_X3_takeByte σ).1 ((r_X3_readNumber (r_X3_takeByte σ).2).2 5 3)) = 0 → p_X4_record (r_X3_readNumber (r_X3_takeByte σ).2).2 (r_X3_takeByte σ).1 ((r_X3_readNumber (r_X3_takeByte σ).2).2 5 3)))))))))
theorem m_X4_readEvent {s : List Int32} {σ : sg_S} (hp : p_X4_readEvent σ) : Ct s 114 [rf 0] σ [.inl (r_X4_readEvent σ).1] (r_X4_readEvent σ).2 := by
  refine ct_v (la := [some (rf 0), none, none]) Kq_0 rfl rfl rfl rfl rfl rfl rfl (cgR ?_)
  unfold r_X4_readEvent
  unfold p_X4_readEvent at hp
  refine rt_lna rfl rfl ?_
  refine rt_gfr rfl Kq_0 (by decide) rfl ?_
  refine rt_iv (σ1 := (r_X3_takeByte σ).2) rfl rfl rfl (m_X3_takeByte hp.1) ?_
  show RtF bk fR s 114 7 [some (rf 0), none, none] [.inl (r_X3_takeByte σ).1] (r_X3_takeByte σ).2 _
  replace hp := hp.2
  refine rt_sn (la1 := [some (rf 0), some (.inl (r_X3_takeByte σ).1), none]) rfl rfl rfl ?_
  refine rt_ln rfl rfl ?_
  refine rt_is (σ1 := (r_X3_takeByte σ).2) rfl rfl rfl (m_X4_isEvent (r_X3_takeByte σ).1) ?_
  show RtF bk fR s 114 12 [some (rf 0), some (.inl (r_X3_takeByte σ).1), none] [.inl (v_X4_isEvent (r_X3_takeByte σ).1)] (r_X3_takeByte σ).2 _
  refine rt_if rfl rfl (fun h => ?_) (fun h => ?_)
  · replace hp := hp h
    refine rt_lna rfl rfl ?_
    refine rt_ln rfl rfl ?_
    refine rt_iv (σ1 := (r_X3_takeByte σ).2) rfl rfl rfl (m_X4_canCome (r_X3_takeByte σ).1) ?_
    show RtF bk fR s 114 26 [some (rf 0), some (.inl (r_X3_takeByte σ).1), none] [.inl (v_X4_canCome (r_X3_takeByte σ).2 (r_X3_takeByte σ).1)] (r_X3_takeByte σ).2 _
    refine rt_if rfl rfl (fun h => ?_) (fun h => ?_)
    · replace hp := hp h
      refine rt_k1 rfl ck1_0 ?_
      refine rt_sn (la1 := [some (rf 0), some (.inl (r_X3_takeByte σ).1), some (.inl (0 : Int32))]) rfl rfl rfl ?_
      refine rt_ln rfl rfl ?_
      refine rt_is (σ1 := (r_X3_takeByte σ).2) rfl rfl rfl (m_X4_bearsNumber (r_X3_takeByte σ).1) ?_
      show RtF bk fR s 114 41 [some (rf 0), some (.inl (r_X3_takeByte σ).1), some (.inl (0 : Int32))] [.inl (v_X4_bearsNumber (r_X3_takeByte σ).1)] (r_X3_takeByte σ).2 _
      refine rt_if rfl rfl (fun h => ?_) (fun h => ?_)
      · replace hp := hp.1 h
        refine rt_lna rfl rfl ?_
        refine rt_ln rfl rfl ?_
        refine rt_ln rfl rfl ?_
        refine rt_iv (σ1 := (t_X4_readEvent_0 σ)) rfl rfl rfl (m_X4_record (r_X3_takeByte σ).1 (0 : Int32) hp) ?_
        show RtF bk fR s 114 92 [some (rf 0), some (.inl (r_X3_takeByte σ).1), some (.inl (0 : Int32))] [] (t_X4_readEvent_0 σ) _
        refine rt_k1 rfl ck1_0 ?_
        exact rt_eR rfl
      · replace hp := hp.2 h
        refine rt_lna rfl rfl ?_
        refine rt_gfr rfl Kq_0 (by decide) rfl ?_
        refine rt_iv (σ1 := (r_X3_readNumber (r_X3_takeByte σ).2).2) rfl rfl rfl (m_X3_readNumber hp.1) ?_
        show RtF bk fR s 114 51 [some (rf 0), some (.inl (r_X3_takeByte σ).1), some (.inl (0 : Int32))] [.inl (r_X3_readNumber (r_X3_takeByte σ).2).1] (r_X3_readNumber (r_X3_takeByte σ).2).2 _
        replace hp := hp.2
        refine rt_if rfl rfl (fun h => ?_) (fun h => ?_)
        · replace hp := hp h
          refine rt_lna rfl rfl ?_
          refine rt_gfr rfl Kq_0 (by decide) rfl ?_
          refine rt_gfi rfl Kq_5 (by decide) rfl rfl ?_
          refine rt_sn (la1 := [some (rf 0), some (.inl (r_X3_takeByte σ).1), some (.inl ((r_X3_readNumber (r_X3_takeByte σ).2).2 5 3))]) rfl rfl rfl ?_
          refine rt_lna rfl rfl ?_
          refine rt_gfr rfl Kq_0 (by decide) rfl ?_
          refine rt_ln rfl rfl ?_
          refine rt_ln rfl rfl ?_
          refine rt_iv (σ1 := (r_X3_readNumber (r_X3_takeByte σ).2).2) rfl rfl rfl (m_X0_fits 7 (r_X3_takeByte σ).1 ((r_X3_readNumber (r_X3_takeByte σ).2).2 5 3) Kq_7) ?_
          show RtF bk fR s 114 77 [some (rf 0), some (.inl (r_X3_takeByte σ).1), some (.inl ((r_X3_readNumber (r_X3_takeByte σ).2).2 5 3))] [.inl (v_X0_fits (r_X3_readNumber (r_X3_takeByte σ).2).2 7 (r_X3_takeByte σ).1 ((r_X3_readNumber (r_X3_takeByte σ).2).2 5 3))] (r_X3_readNumber (r_X3_takeByte σ).2).2 _
          refine rt_if rfl rfl (fun h => ?_) (fun h => ?_)
          · replace hp := hp h
            refine rt_lna rfl rfl ?_
            refine rt_ln rfl rfl ?_
            refine rt_ln rfl rfl ?_
            refine rt_iv (σ1 := (t_X4_readEvent_1 σ)) rfl rfl rfl (m_X4_record (r_X3_takeByte σ).1 ((r_X3_readNumber (r_X3_takeByte σ).2).2 5 3) hp) ?_
            show RtF bk fR s 114 92 [some (rf 0), some (.inl (r_X3_takeByte σ).1), some (.inl ((r_X3_readNumber (r_X3_takeByte σ).2).2 5 3))] [] (t_X4_readEvent_1 σ) _
            refine rt_k1 rfl ck1_0 ?_
            exact rt_eR rfl
          · refine rt_lna rfl rfl ?_
            refine rt_k1 rfl ck1_2 ?_
            refine rt_iv (σ1 := (r_X3_readNumber (r_X3_takeByte σ).2).2) rfl rfl rfl (m_X4_faultHere (2 : Int32)) ?_
            show RtF bk fR s 114 85 [some (rf 0), some (.inl (r_X3_takeByte σ).1), some (.inl ((r_X3_readNumber (r_X3_takeByte σ).2).2 5 3))] [.inl (v_X4_faultHere (r_X3_readNumber (r_X3_takeByte σ).2).2 (2 : Int32))] (r_X3_readNumber (r_X3_takeByte σ).2).2 _
            exact rt_eR rfl
        · refine rt_lna rfl rfl ?_
          refine rt_k1 rfl ck1_1 ?_
          refine rt_iv (σ1 := (r_X3_readNumber (r_X3_takeByte σ).2).2) rfl rfl rfl (m_X4_faultHere (1 : Int32)) ?_
          show RtF bk fR s 114 59 [some (rf 0), some (.inl (r_X3_takeByte σ).1), some (.inl (0 : Int32))] [.inl (v_X4_faultHere (r_X3_readNumber (r_X3_takeByte σ).2).2 (1 : Int32))] (r_X3_readNumber (r_X3_takeByte σ).2).2 _
          exact rt_eR rfl
    · refine rt_lna rfl rfl ?_
      refine rt_k1 rfl ck1_3 ?_
      refine rt_iv (σ1 := (r_X3_takeByte σ).2) rfl rfl rfl (m_X4_faultHere (3 : Int32)) ?_
      show RtF bk fR s 114 34 [some (rf 0), some (.inl (r_X3_takeByte σ).1), none] [.inl (v_X4_faultHere (r_X3_takeByte σ).2 (3 : Int32))] (r_X3_takeByte σ).2 _
      exact rt_eR rfl
  · refine rt_lna rfl rfl ?_
    refine rt_k1 rfl ck1_1 ?_
    refine rt_iv (σ1 := (r_X3_takeByte σ).2) rfl rfl rfl (m_X4_faultHere (1 : Int32)) ?_
    show RtF bk fR s 114 20 [some (rf 0), some (.inl (r_X3_takeByte σ).1), none] [.inl (v_X4_faultHere (r_X3_takeByte σ).2 (1 : Int32))] (r_X3_takeByte σ).2 _
    exact rt_eR rfl
noncomputable def t_X4_events_0 (σ : sg_S) (x1_ : Int32) : sg_S := (s_X4_replay (sg_up (sg_up σ 5 1 (0 : Int32)) 0 6 x1_) 7 x1_)
noncomputable def r_X4_events_a57 (σ : sg_S) (x1_ : Int32) : Int32 × sg_S := (if ((sg_up σ 5 1 (0 : Int32)) 0 7) = 0 then ((((sg_up σ 5 1 (0 : Int32)) 0 6) - x1_), (sg_up σ 5 1 (0 : Int32))) else ((-1 : Int32), (t_X4_events_0 σ x1_)))
noncomputable def p_X4_events_a57 (σ : sg_S) (x1_ : Int32) : Prop := (¬ (((sg_up σ 5 1 (0 : Int32)) 0 7) = 0) → p_X4_replay (sg_up (sg_up σ 5 1 (0 : Int32)) 0 6 x1_) 7 x1_)
theorem m_X4_events_a57 {s : List Int32} (σ : sg_S) (x1_ : Int32) (o2_ : Option (ip_V Int32)) (hp : p_X4_events_a57 σ x1_) : RtF bk fR s 73 57 [some (rf 0), some (.inl x1_), o2_] [] σ (r_X4_events_a57 σ x1_) := by
  unfold r_X4_events_a57
  unfold p_X4_events_a57 at hp
  refine rt_lna rfl rfl ?_
  refine rt_gfr rfl Kq_0 (by decide) rfl ?_
  refine rt_k1 rfl ck1_0 ?_
  refine rt_pf (σ1 := (sg_up σ 5 1 (0 : Int32))) rfl Kq_5 (by decide) rfl rfl rfl ?_
  refine rt_lna rfl rfl ?_
  refine rt_gfi rfl Kq_0 (by decide) rfl rfl ?_
  refine rt_if rfl rfl (fun h => ?_) (fun h => ?_)
  · refine rt_lna rfl rfl ?_
    refine rt_gfi rfl Kq_0 (by decide) rfl rfl ?_
    refine rt_ln rfl rfl ?_
    refine rt_sub rfl ?_
    exact rt_eR rfl
  · replace hp := hp h
    refine rt_lna rfl rfl ?_
    refine rt_ln rfl rfl ?_
    refine rt_pf (σ1 := (sg_up (sg_up σ 5 1 (0 : Int32)) 0 6 x1_)) rfl Kq_0 (by decide) rfl rfl rfl ?_
    refine rt_lna rfl rfl ?_
    refine rt_lna rfl rfl ?_
    refine rt_gfr rfl Kq_0 (by decide) rfl ?_
    refine rt_ln rfl rfl ?_
    refine rt_iv (σ1 := (t_X4_events_0 σ x1_)) rfl rfl rfl (m_X4_replay 7 x1_ Kq_7 hp) ?_
    show RtF bk fR s 73 86 [some (rf 0), some (.inl x1_), o2_] [] (t_X4_events_0 σ x1_) _
    refine rt_k1 rfl ck1_m1 ?_
    exact rt_eR rfl
noncomputable def t_X4_events_1 (σ : sg_S) (x1_ : Int32) (x2_ : Int32) : sg_S := (sg_up (r_X4_readEvent (r_X3_seek σ).2).2 0 7 (r_X4_readEvent (r_X3_seek σ).2).1)
noncomputable def r_X4_events_b19 (k19 : sg_S → Int32 → Int32 → Int32 × sg_S) (σ : sg_S) (x1_ : Int32) (x2_ : Int32) : Int32 × sg_S := (if (500 : Int32) ≤ x2_ then (r_X4_events_a57 σ x1_) else (if ¬ (σ 0 7) = 0 then (r_X4_events_a57 σ x1_) else (if (r_X3_seek σ).1 = 0 then (r_X4_events_a57 (r_X3_seek σ).2 x1_) else (k19 (t_X4_events_1 σ x1_ x2_) x1_ (x2_ + (1 : Int32))))))
noncomputable def p_X4_events_b19 (kp19 : sg_S → Int32 → Int32 → Prop) (σ : sg_S) (x1_ : Int32) (x2_ : Int32) : Prop := (((500 : Int32) ≤ x2_ → (p_X4_events_a57 σ x1_)) ∧ (¬ ((500 : Int32) ≤ x2_) → ((¬ (σ 0 7) = 0 → (p_X4_events_a57 σ x1_)) ∧ (¬ (¬ (σ 0 7) = 0) → (p_X3_seek σ ∧ (((r_X3_seek σ).1 = 0 → (p_X4_events_a57 (r_X3_seek σ).2 x1_)) ∧ (¬ ((r_X3_seek σ).1 = 0) → (p_X4_readEvent (r_X3_seek σ).2 ∧ (kp19 (t_X4_events_1 σ x1_ x2_) x1_ (x2_ + (1 : Int32)))))))))))
theorem m_X4_events_b19 {s : List Int32} (k19 : sg_S → Int32 → Int32 → Int32 × sg_S) (kp19 : sg_S → Int32 → Int32 → Prop) (hk19 : ∀ (σ : sg_S) (x1_ : Int32) (x2_ : Int32), kp19 σ x1_ x2_ → RtF bk fR s 73 19 [some (rf 0), some (.inl x1_), some (.inl x2_)] [] σ (k19 σ x1_ x2_)) (σ : sg_S) (x1_ : Int32) (x2_ : Int32) (hp : p_X4_events_b19 kp19 σ x1_ x2_) : RtF bk fR s 73 19 [some (rf 0), some (.inl x1_), some (.inl x2_)] [] σ (r_X4_events_b19 k19 σ x1_ x2_) := by
  unfold r_X4_events_b19
  unfold p_X4_events_b19 at hp
  refine rt_ln rfl rfl ?_
  refine rt_k3 rfl ck3_500 ?_
  refine rt_ic rfl rfl (fun h => ?_) (fun h => ?_)
  · replace hp := hp.1 h
    exact m_X4_events_a57 σ x1_ _ hp
  · replace hp := hp.2 h
    refine rt_lna rfl rfl ?_
    refine rt_gfi rfl Kq_0 (by decide) rfl rfl ?_
    refine rt_if rfl rfl (fun h => ?_) (fun h => ?_)
    · replace hp := hp.1 h
      exact m_X4_events_a57 σ x1_ _ hp
    · replace hp := hp.2 h
      refine rt_lna rfl rfl ?_
      refine rt_gfr rfl Kq_0 (by decide) rfl ?_
      refine rt_iv (σ1 := (r_X3_seek σ).2) rfl rfl rfl (m_X3_seek hp.1) ?_
      show RtF bk fR s 73 40 [some (rf 0), some (.inl x1_), some (.inl x2_)] [.inl (r_X3_seek σ).1] (r_X3_seek σ).2 _
      replace hp := hp.2
      refine rt_if rfl rfl (fun h => ?_) (fun h => ?_)
      · replace hp := hp.1 h
        exact m_X4_events_a57 (r_X3_seek σ).2 x1_ _ hp
      · replace hp := hp.2 h
        refine rt_lna rfl rfl ?_
        refine rt_lna rfl rfl ?_
        refine rt_iv (σ1 := (r_X4_readEvent (r_X3_seek σ).2).2) rfl rfl rfl (m_X4_readEvent hp.1) ?_
        show RtF bk fR s 73 48 [some (rf 0), some (.inl x1_), some (.inl x2_)] [.inl (r_X4_readEvent (r_X3_seek σ).2).1, rf 0] (r_X4_readEvent (r_X3_seek σ).2).2 _
        replace hp := hp.2
        refine rt_pf (σ1 := (t_X4_events_1 σ x1_ x2_)) rfl Kq_0 (by decide) rfl rfl rfl ?_
        refine rt_inc (la1 := [some (rf 0), some (.inl x1_), some (.inl (x2_ + (1 : Int32)))]) rfl rfl ck1_1 rfl ?_
        refine rt_go rfl ?_
        exact hk19 (t_X4_events_1 σ x1_ x2_) x1_ (x2_ + (1 : Int32)) hp
noncomputable def r_X4_events_l19 (n : Nat) : sg_S → Int32 → Int32 → Int32 × sg_S := Nat.rec (motive := fun _ => sg_S → Int32 → Int32 → Int32 × sg_S) (fun σ _ _ => (0, σ)) (fun _ ih => r_X4_events_b19 ih) n
noncomputable def p_X4_events_l19 (n : Nat) : sg_S → Int32 → Int32 → Prop := Nat.rec (motive := fun _ => sg_S → Int32 → Int32 → Prop) (fun _ _ _ => False) (fun _ ih => p_X4_events_b19 ih) n
theorem m_X4_events_l19 {s : List Int32} : ∀ (n : Nat), ∀ (σ : sg_S) (x1_ : Int32) (x2_ : Int32), p_X4_events_l19 n σ x1_ x2_ → RtF bk fR s 73 19 [some (rf 0), some (.inl x1_), some (.inl x2_)] [] σ (r_X4_events_l19 n σ x1_ x2_) := by
  intro n
  induction n with
  | zero =>
    intro σ x1_ x2_ hp
    exact hp.elim
  | succ n ih =>
    intro σ x1_ x2_ hp
    exact m_X4_events_b19 (r_X4_events_l19 n) (p_X4_events_l19 n) ih σ x1_ x2_ hp
noncomputable def r_X4_events (σ : sg_S) : Int32 × sg_S := (r_X4_events_l19 600 (s_X3_rewind (sg_up σ 0 7 (0 : Int32))) (σ 0 6) (0 : Int32))
noncomputable def p_X4_events (σ : sg_S) : Prop := (p_X4_events_l19 600 (s_X3_rewind (sg_up σ 0 7 (0 : Int32))) (σ 0 6) (0 : Int32))
theorem m_X4_events {s : List Int32} {σ : sg_S} (hp : p_X4_events σ) : Ct s 73 [rf 0] σ [.inl (r_X4_events σ).1] (r_X4_events σ).2 := by
  refine ct_v (la := [some (rf 0), none, none]) Kq_0 rfl rfl rfl rfl rfl rfl rfl (cgR ?_)
  unfold r_X4_events
  unfold p_X4_events at hp
  refine rt_lna rfl rfl ?_
  refine rt_gfi rfl Kq_0 (by decide) rfl rfl ?_
  refine rt_sn (la1 := [some (rf 0), some (.inl (σ 0 6)), none]) rfl rfl rfl ?_
  refine rt_lna rfl rfl ?_
  refine rt_k1 rfl ck1_0 ?_
  refine rt_pf (σ1 := (sg_up σ 0 7 (0 : Int32))) rfl Kq_0 (by decide) rfl rfl rfl ?_
  refine rt_lna rfl rfl ?_
  refine rt_gfr rfl Kq_0 (by decide) rfl ?_
  refine rt_iv (σ1 := (s_X3_rewind (sg_up σ 0 7 (0 : Int32)))) rfl rfl rfl (m_X3_rewind) ?_
  show RtF bk fR s 73 17 [some (rf 0), some (.inl (σ 0 6)), none] [] (s_X3_rewind (sg_up σ 0 7 (0 : Int32))) _
  refine rt_k1 rfl ck1_0 ?_
  refine rt_sn (la1 := [some (rf 0), some (.inl (σ 0 6)), some (.inl (0 : Int32))]) rfl rfl rfl ?_
  exact m_X4_events_l19 600 (s_X3_rewind (sg_up σ 0 7 (0 : Int32))) (σ 0 6) (0 : Int32) hp
noncomputable def r_X4_play (σ : sg_S) (x0 : Int32) (x1 : Int32) : Int32 × sg_S := (if (v_X4_isEvent x0) = 0 then ((-1 : Int32), σ) else (if ¬ (v_X4_canCome σ x0) = 0 then (if (v_X4_bearsNumber x0) = 0 then (((s_X4_record σ x0 x1) 0 6), (s_X4_record σ x0 x1)) else (if ¬ (v_X0_fits σ 7 x0 x1) = 0 then (((s_X4_record σ x0 x1) 0 6), (s_X4_record σ x0 x1)) else ((-1 : Int32), σ))) else ((-1 : Int32), σ)))
noncomputable def p_X4_play (σ : sg_S) (x0 : Int32) (x1 : Int32) : Prop := (¬ ((v_X4_isEvent x0) = 0) → (¬ (v_X4_canCome σ x0) = 0 → (((v_X4_bearsNumber x0) = 0 → p_X4_record σ x0 x1) ∧ (¬ ((v_X4_bearsNumber x0) = 0) → (¬ (v_X0_fits σ 7 x0 x1) = 0 → p_X4_record σ x0 x1)))))
theorem m_X4_play {s : List Int32} {σ : sg_S} (x0 : Int32) (x1 : Int32) (hp : p_X4_play σ x0 x1) : Ct s 76 [rf 0, .inl x0, .inl x1] σ [.inl (r_X4_play σ x0 x1).1] (r_X4_play σ x0 x1).2 := by
  refine ct_v (la := [some (rf 0), some (.inl x0), some (.inl x1)]) Kq_0 rfl rfl rfl rfl rfl rfl rfl (cgR ?_)
  unfold r_X4_play
  unfold p_X4_play at hp
  refine rt_ln rfl rfl ?_
  refine rt_is (σ1 := σ) rfl rfl rfl (m_X4_isEvent x0) ?_
  show RtF bk fR s 76 4 [some (rf 0), some (.inl x0), some (.inl x1)] [.inl (v_X4_isEvent x0)] σ _
  refine rt_if rfl rfl (fun h => ?_) (fun h => ?_)
  · refine rt_k1 rfl ck1_m1 ?_
    exact rt_eR rfl
  · replace hp := hp h
    refine rt_lna rfl rfl ?_
    refine rt_ln rfl rfl ?_
    refine rt_iv (σ1 := σ) rfl rfl rfl (m_X4_canCome x0) ?_
    show RtF bk fR s 76 12 [some (rf 0), some (.inl x0), some (.inl x1)] [.inl (v_X4_canCome σ x0)] σ _
    refine rt_if rfl rfl (fun h => ?_) (fun h => ?_)
    · replace hp := hp h
      refine rt_ln rfl rfl ?_
      refine rt_is (σ1 := σ) rfl rfl rfl (m_X4_bearsNumber x0) ?_
      show RtF bk fR s 76 21 [some (rf 0), some (.inl x0), some (.inl x1)] [.inl (v_X4_bearsNumber x0)] σ _
      refine rt_if rfl rfl (fun h => ?_) (fun h => ?_)
      · replace hp := hp.1 h
        refine rt_lna rfl rfl ?_
        refine rt_ln rfl rfl ?_
        refine rt_ln rfl rfl ?_
        refine rt_iv (σ1 := (s_X4_record σ x0 x1)) rfl rfl rfl (m_X4_record x0 x1 hp) ?_
        show RtF bk fR s 76 44 [some (rf 0), some (.inl x0), some (.inl x1)] [] (s_X4_record σ x0 x1) _
        refine rt_lna rfl rfl ?_
        refine rt_gfi rfl Kq_0 (by decide) rfl rfl ?_
        exact rt_eR rfl
      · replace hp := hp.2 h
        refine rt_lna rfl rfl ?_
        refine rt_gfr rfl Kq_0 (by decide) rfl ?_
        refine rt_ln rfl rfl ?_
        refine rt_ln rfl rfl ?_
        refine rt_iv (σ1 := σ) rfl rfl rfl (m_X0_fits 7 x0 x1 Kq_7) ?_
        show RtF bk fR s 76 33 [some (rf 0), some (.inl x0), some (.inl x1)] [.inl (v_X0_fits σ 7 x0 x1)] σ _
        refine rt_if rfl rfl (fun h => ?_) (fun h => ?_)
        · replace hp := hp h
          refine rt_lna rfl rfl ?_
          refine rt_ln rfl rfl ?_
          refine rt_ln rfl rfl ?_
          refine rt_iv (σ1 := (s_X4_record σ x0 x1)) rfl rfl rfl (m_X4_record x0 x1 hp) ?_
          show RtF bk fR s 76 44 [some (rf 0), some (.inl x0), some (.inl x1)] [] (s_X4_record σ x0 x1) _
          refine rt_lna rfl rfl ?_
          refine rt_gfi rfl Kq_0 (by decide) rfl rfl ?_
          exact rt_eR rfl
        · refine rt_k1 rfl ck1_m1 ?_
          exact rt_eR rfl
    · refine rt_k1 rfl ck1_m1 ?_
      exact rt_eR rfl
noncomputable def t_X4_back_0 (σ : sg_S) : sg_S := (s_X4_replay (sg_up σ 0 6 ((σ 0 6) - (1 : Int32))) 7 ((sg_up σ 0 6 ((σ 0 6) - (1 : Int32))) 0 6))
noncomputable def r_X4_back (σ : sg_S) : Int32 × sg_S := (if 0 < (σ 0 6) then (((t_X4_back_0 σ) 0 6), (t_X4_back_0 σ)) else ((-1 : Int32), σ))
noncomputable def p_X4_back (σ : sg_S) : Prop := (0 < (σ 0 6) → p_X4_replay (sg_up σ 0 6 ((σ 0 6) - (1 : Int32))) 7 ((sg_up σ 0 6 ((σ 0 6) - (1 : Int32))) 0 6))
theorem m_X4_back {s : List Int32} {σ : sg_S} (hp : p_X4_back σ) : Ct s 77 [rf 0] σ [.inl (r_X4_back σ).1] (r_X4_back σ).2 := by
  refine ct_v (la := [some (rf 0)]) Kq_0 rfl rfl rfl rfl rfl rfl rfl (cgR ?_)
  unfold r_X4_back
  unfold p_X4_back at hp
  refine rt_lna rfl rfl ?_
  refine rt_gfi rfl Kq_0 (by decide) rfl rfl ?_
  refine rt_if rfl rfl (fun h => ?_) (fun h => ?_)
  · replace hp := hp h
    refine rt_lna rfl rfl ?_
    refine rt_dup rfl rfl ?_
    refine rt_gfi rfl Kq_0 (by decide) rfl rfl ?_
    refine rt_k1 rfl ck1_1 ?_
    refine rt_sub rfl ?_
    refine rt_pf (σ1 := (sg_up σ 0 6 ((σ 0 6) - (1 : Int32)))) rfl Kq_0 (by decide) rfl rfl rfl ?_
    refine rt_lna rfl rfl ?_
    refine rt_lna rfl rfl ?_
    refine rt_gfr rfl Kq_0 (by decide) rfl ?_
    refine rt_lna rfl rfl ?_
    refine rt_gfi rfl Kq_0 (by decide) rfl rfl ?_
    refine rt_iv (σ1 := (t_X4_back_0 σ)) rfl rfl rfl (m_X4_replay 7 ((sg_up σ 0 6 ((σ 0 6) - (1 : Int32))) 0 6) Kq_7 hp) ?_
    show RtF bk fR s 77 31 [some (rf 0)] [] (t_X4_back_0 σ) _
    refine rt_lna rfl rfl ?_
    refine rt_gfi rfl Kq_0 (by decide) rfl rfl ?_
    exact rt_eR rfl
  · refine rt_k1 rfl ck1_m1 ?_
    exact rt_eR rfl
noncomputable def r_X4_after (σ : sg_S) (x0 : Int32) (x1 : Int32) : Int32 × sg_S := (if x0 < 0 then ((-2 : Int32), σ) else (if (σ 0 6) < x0 then ((-2 : Int32), σ) else (if x1 < 0 then ((-2 : Int32), σ) else (if x1 ≤ (5 : Int32) then (if x1 = 0 then (((s_X4_replay σ 20 x0) 20 3), (s_X4_replay σ 20 x0)) else (if x1 = 1 then (((s_X4_replay σ 20 x0) (v_X0_side 20 ((s_X4_replay σ 20 x0) 20 3)) 0), (s_X4_replay σ 20 x0)) else (if x1 = 2 then (((s_X4_replay σ 20 x0) (v_X0_side 20 ((s_X4_replay σ 20 x0) 20 3)) 1), (s_X4_replay σ 20 x0)) else (if x1 = 3 then (((s_X4_replay σ 20 x0) (v_X0_side 20 ((s_X4_replay σ 20 x0) 20 3)) 2), (s_X4_replay σ 20 x0)) else (if x1 = 4 then ((v_X0_theTarget (s_X4_replay σ 20 x0) 20), (s_X4_replay σ 20 x0)) else ((v_X0_parNow (s_X4_replay σ 20 x0) 20), (s_X4_replay σ 20 x0))))))) else ((-2 : Int32), σ)))))
noncomputable def p_X4_after (σ : sg_S) (x0 : Int32) (x1 : Int32) : Prop := (¬ (x0 < 0) → (¬ ((σ 0 6) < x0) → (¬ (x1 < 0) → (x1 ≤ (5 : Int32) → (p_X4_replay σ 20 x0 ∧ (¬ (x1 = 0) → (¬ (x1 = 1) → (¬ (x1 = 2) → (¬ (x1 = 3) → ((x1 = 4 → p_X0_theTarget (s_X4_replay σ 20 x0) 20) ∧ (¬ (x1 = 4) → p_X0_parNow (s_X4_replay σ 20 x0) 20)))))))))))
theorem m_X4_after {s : List Int32} {σ : sg_S} (x0 : Int32) (x1 : Int32) (hp : p_X4_after σ x0 x1) : Ct s 105 [rf 0, .inl x0, .inl x1] σ [.inl (r_X4_after σ x0 x1).1] (r_X4_after σ x0 x1).2 := by
  refine ct_v (la := [some (rf 0), some (.inl x0), some (.inl x1), none]) Kq_0 rfl rfl rfl rfl rfl rfl rfl (cgR ?_)
  unfold r_X4_after
  unfold p_X4_after at hp
  refine rt_ln rfl rfl ?_
  refine rt_if rfl rfl (fun h => ?_) (fun h => ?_)
  · refine rt_k2 rfl ck2_m2 ?_
    exact rt_eR rfl
  · replace hp := hp h
    refine rt_ln rfl rfl ?_
    refine rt_lna rfl rfl ?_
    refine rt_gfi rfl Kq_0 (by decide) rfl rfl ?_
    refine rt_ic rfl rfl (fun h => ?_) (fun h => ?_)
    · refine rt_k2 rfl ck2_m2 ?_
      exact rt_eR rfl
    · replace hp := hp h
      refine rt_ln rfl rfl ?_
      refine rt_if rfl rfl (fun h => ?_) (fun h => ?_)
      · refine rt_k2 rfl ck2_m2 ?_
        exact rt_eR rfl
      · replace hp := hp h
        refine rt_ln rfl rfl ?_
        refine rt_k1 rfl ck1_5 ?_
        refine rt_ic rfl rfl (fun h => ?_) (fun h => ?_)
        · replace hp := hp h
          refine rt_lna rfl rfl ?_
          refine rt_lna rfl rfl ?_
          refine rt_gfr rfl Kq_0 (by decide) rfl ?_
          refine rt_ln rfl rfl ?_
          refine rt_iv (σ1 := (s_X4_replay σ 20 x0)) rfl rfl rfl (m_X4_replay 20 x0 Kq_20 hp.1) ?_
          show RtF bk fR s 105 33 [some (rf 0), some (.inl x0), some (.inl x1), none] [] (s_X4_replay σ 20 x0) _
          replace hp := hp.2
          refine rt_lna rfl rfl ?_
          refine rt_gfr rfl Kq_0 (by decide) rfl ?_
          refine rt_lna rfl rfl ?_
          refine rt_gfr rfl Kq_0 (by decide) rfl ?_
          refine rt_gfi rfl Kq_20 (by decide) rfl rfl ?_
          refine rt_iv (σ1 := (s_X4_replay σ 20 x0)) rfl rfl rfl (m_X0_side 20 ((s_X4_replay σ 20 x0) 20 3) Kq_20) ?_
          show RtF bk fR s 105 47 [some (rf 0), some (.inl x0), some (.inl x1), none] [rf (v_X0_side 20 ((s_X4_replay σ 20 x0) 20 3))] (s_X4_replay σ 20 x0) _
          refine rt_sna (la1 := [some (rf 0), some (.inl x0), some (.inl x1), some (rf (v_X0_side 20 ((s_X4_replay σ 20 x0) 20 3)))]) rfl rfl rfl ?_
          refine rt_ln rfl rfl ?_
          refine rt_ite (fun h => ?_) (fun h => ?_)
          · refine rt_eq h ?_
            refine rt_step rfl rfl rfl ?_
            refine rt_lna rfl rfl ?_
            refine rt_gfr rfl Kq_0 (by decide) rfl ?_
            refine rt_gfi rfl Kq_20 (by decide) rfl rfl ?_
            exact rt_eR rfl
          · have e0 := h
            replace hp := hp h
            refine rt_ite (fun h => ?_) (fun h => ?_)
            · refine rt_eq h ?_
              refine rt_step rfl rfl rfl ?_
              refine rt_lna rfl rfl ?_
              refine rt_gfi rfl (Kside Kq_20) (by decide) rfl rfl ?_
              exact rt_eR rfl
            · have e1 := h
              replace hp := hp h
              refine rt_ite (fun h => ?_) (fun h => ?_)
              · refine rt_eq h ?_
                refine rt_step rfl rfl rfl ?_
                refine rt_lna rfl rfl ?_
                refine rt_gfi rfl (Kside Kq_20) (by decide) rfl rfl ?_
                exact rt_eR rfl
              · have e2 := h
                replace hp := hp h
                refine rt_ite (fun h => ?_) (fun h => ?_)
                · refine rt_eq h ?_
                  refine rt_step rfl rfl rfl ?_
                  refine rt_lna rfl rfl ?_
                  refine rt_gfi rfl (Kside Kq_20) (by decide) rfl rfl ?_
                  exact rt_eR rfl
                · have e3 := h
                  replace hp := hp h
                  refine rt_ite (fun h => ?_) (fun h => ?_)
                  · replace hp := hp.1 h
                    refine rt_eq h ?_
                    refine rt_step rfl rfl rfl ?_
                    refine rt_lna rfl rfl ?_
                    refine rt_gfr rfl Kq_0 (by decide) rfl ?_
                    refine rt_iv (σ1 := (s_X4_replay σ 20 x0)) rfl rfl rfl (m_X0_theTarget 20 Kq_20 hp) ?_
                    show RtF bk fR s 105 114 [some (rf 0), some (.inl x0), some (.inl x1), some (rf (v_X0_side 20 ((s_X4_replay σ 20 x0) 20 3)))] [.inl (v_X0_theTarget (s_X4_replay σ 20 x0) 20)] (s_X4_replay σ 20 x0) _
                    exact rt_eR rfl
                  · have e4 := h
                    replace hp := hp.2 h
                    refine rt_tsd (pc1 := 115) rfl (ts_out (n := 5) (by decide) (fun k hk => match k, hk with | 0, _ => e0 | 1, _ => e1 | 2, _ => e2 | 3, _ => e3 | 4, _ => e4 | k + 5, hk => absurd hk (by omega))) rfl ?_
                    refine rt_lna rfl rfl ?_
                    refine rt_gfr rfl Kq_0 (by decide) rfl ?_
                    refine rt_iv (σ1 := (s_X4_replay σ 20 x0)) rfl rfl rfl (m_X0_parNow 20 Kq_20 hp) ?_
                    show RtF bk fR s 105 122 [some (rf 0), some (.inl x0), some (.inl x1), some (rf (v_X0_side 20 ((s_X4_replay σ 20 x0) 20 3)))] [.inl (v_X0_parNow (s_X4_replay σ 20 x0) 20)] (s_X4_replay σ 20 x0) _
                    exact rt_eR rfl
        · refine rt_k2 rfl ck2_m2 ?_
          exact rt_eR rfl
