noncomputable def v_X5_ofOver (σ : sg_S) (x0 : Int32) (x1 : Int32) : Int32 := (if ¬ x1 = 0 then (if ¬ x1 = (1 : Int32) then (σ 55 (ni x0)) else (σ 54 (ni x0))) else (σ 53 (ni x0)))
noncomputable def p_X5_ofOver (x0 : Int32) (x1 : Int32) : Prop := ((¬ x1 = 0 → ((¬ x1 = (1 : Int32) → ix x0 40) ∧ (¬ (¬ x1 = (1 : Int32)) → ix x0 40))) ∧ (¬ (¬ x1 = 0) → ix x0 40))
theorem m_X5_ofOver {s : List Int32} {σ : sg_S} (x0 : Int32) (x1 : Int32) (hp : p_X5_ofOver x0 x1) : Ct s 171 [rf 35, .inl x0, .inl x1] σ [.inl (v_X5_ofOver σ x0 x1)] σ := by
  refine ct_v (la := [some (rf 35), some (.inl x0), some (.inl x1)]) Kq_35 rfl rfl rfl rfl rfl rfl rfl (cgV ?_)
  unfold v_X5_ofOver
  unfold p_X5_ofOver at hp
  refine rt_ln rfl rfl ?_
  refine rt_if rfl rfl (fun h => ?_) (fun h => ?_)
  · replace hp := hp.1 h
    refine rt_ln rfl rfl ?_
    refine rt_k1 rfl ck1_1 ?_
    refine rt_ic rfl rfl (fun h => ?_) (fun h => ?_)
    · replace hp := hp.1 h
      refine rt_lna rfl rfl ?_
      refine rt_gfr rfl Kq_35 (by decide) rfl ?_
      refine rt_ln rfl rfl ?_
      refine rt_al rfl Kq_55 hp rfl ?_
      exact rt_eV rfl
    · replace hp := hp.2 h
      refine rt_lna rfl rfl ?_
      refine rt_gfr rfl Kq_35 (by decide) rfl ?_
      refine rt_ln rfl rfl ?_
      refine rt_al rfl Kq_54 hp rfl ?_
      refine rt_go rfl ?_
      exact rt_eV rfl
  · replace hp := hp.2 h
    refine rt_lna rfl rfl ?_
    refine rt_gfr rfl Kq_35 (by decide) rfl ?_
    refine rt_ln rfl rfl ?_
    refine rt_al rfl Kq_53 hp rfl ?_
    refine rt_go rfl ?_
    exact rt_eV rfl
noncomputable def t_X5_laysBlocks_0 (σ : sg_S) (x2_ : Int32) (x3_ : Int32) (x4_ : Int32) : sg_S := (sg_up σ 58 (ni x3_) ((σ 58 (ni x3_)) + (1 : Int32)))
noncomputable def t_X5_laysBlocks_1 (σ : sg_S) (x2_ : Int32) (x3_ : Int32) (x4_ : Int32) : sg_S := (sg_up (t_X5_laysBlocks_0 σ x2_ x3_ x4_) 59 (ni x3_) (-1 : Int32))
noncomputable def s_X5_laysBlocks_b93 (k84 : sg_S → Int32 → sg_S) (k93 : sg_S → Int32 → Int32 → Int32 → sg_S) (σ : sg_S) (x2_ : Int32) (x3_ : Int32) (x4_ : Int32) : sg_S := (if (3 : Int32) ≤ x4_ then (k84 (t_X5_laysBlocks_1 σ x2_ x3_ x4_) (x2_ + (-1 : Int32))) else (if (σ 59 (ni x4_)) ≤ (σ 59 (ni x3_)) then (k93 σ x2_ x3_ (x4_ + (1 : Int32))) else (k93 σ x2_ x4_ (x4_ + (1 : Int32)))))
noncomputable def p_X5_laysBlocks_b93 (kp84 : sg_S → Int32 → Prop) (kp93 : sg_S → Int32 → Int32 → Int32 → Prop) (σ : sg_S) (x2_ : Int32) (x3_ : Int32) (x4_ : Int32) : Prop := (((3 : Int32) ≤ x4_ → (ix x3_ 3 ∧ (ix x3_ 3 ∧ (ix x3_ 3 ∧ (kp84 (t_X5_laysBlocks_1 σ x2_ x3_ x4_) (x2_ + (-1 : Int32))))))) ∧ (¬ ((3 : Int32) ≤ x4_) → (ix x4_ 3 ∧ (ix x3_ 3 ∧ (((σ 59 (ni x4_)) ≤ (σ 59 (ni x3_)) → (kp93 σ x2_ x3_ (x4_ + (1 : Int32)))) ∧ (¬ ((σ 59 (ni x4_)) ≤ (σ 59 (ni x3_))) → (kp93 σ x2_ x4_ (x4_ + (1 : Int32)))))))))
theorem m_X5_laysBlocks_b93 {s : List Int32} (k84 : sg_S → Int32 → sg_S) (k93 : sg_S → Int32 → Int32 → Int32 → sg_S) (kp84 : sg_S → Int32 → Prop) (kp93 : sg_S → Int32 → Int32 → Int32 → Prop) (hk84 : ∀ (σ : sg_S) (x2_ : Int32) (o1_ : Option (ip_V Int32)) (o3_ : Option (ip_V Int32)) (o4_ : Option (ip_V Int32)), kp84 σ x2_ → RtF bk fS s 172 84 [some (rf 35), o1_, some (.inl x2_), o3_, o4_] [] σ (k84 σ x2_)) (hk93 : ∀ (σ : sg_S) (x2_ : Int32) (x3_ : Int32) (x4_ : Int32) (o1_ : Option (ip_V Int32)), kp93 σ x2_ x3_ x4_ → RtF bk fS s 172 93 [some (rf 35), o1_, some (.inl x2_), some (.inl x3_), some (.inl x4_)] [] σ (k93 σ x2_ x3_ x4_)) (σ : sg_S) (x2_ : Int32) (x3_ : Int32) (x4_ : Int32) (o1_ : Option (ip_V Int32)) (hp : p_X5_laysBlocks_b93 kp84 kp93 σ x2_ x3_ x4_) : RtF bk fS s 172 93 [some (rf 35), o1_, some (.inl x2_), some (.inl x3_), some (.inl x4_)] [] σ (s_X5_laysBlocks_b93 k84 k93 σ x2_ x3_ x4_) := by
  unfold s_X5_laysBlocks_b93
  unfold p_X5_laysBlocks_b93 at hp
  refine rt_ld rfl rfl ?_
  refine rt_k1 rfl ck1_3 ?_
  refine rt_ic rfl rfl (fun h => ?_) (fun h => ?_)
  · replace hp := hp.1 h
    refine rt_lna rfl rfl ?_
    refine rt_gfr rfl Kq_35 (by decide) rfl ?_
    refine rt_ln rfl rfl ?_
    refine rt_du2 rfl rfl rfl ?_
    refine rt_al rfl Kq_58 hp.1 rfl ?_
    replace hp := hp.2
    refine rt_k1 rfl ck1_1 ?_
    refine rt_add rfl ?_
    refine rt_as (k0 := (ni x3_)) (σ1 := (t_X5_laysBlocks_0 σ x2_ x3_ x4_)) rfl Kq_58 hp.1 rfl rfl ?_
    replace hp := hp.2
    refine rt_lna rfl rfl ?_
    refine rt_gfr rfl Kq_35 (by decide) rfl ?_
    refine rt_ln rfl rfl ?_
    refine rt_k1 rfl ck1_m1 ?_
    refine rt_as (k0 := (ni x3_)) (σ1 := (t_X5_laysBlocks_1 σ x2_ x3_ x4_)) rfl Kq_59 hp.1 rfl rfl ?_
    replace hp := hp.2
    refine rt_inc (la1 := [some (rf 35), o1_, some (.inl (x2_ + (-1 : Int32))), some (.inl x3_), some (.inl x4_)]) rfl rfl ck1_m1 rfl ?_
    refine rt_go rfl ?_
    exact hk84 (t_X5_laysBlocks_1 σ x2_ x3_ x4_) (x2_ + (-1 : Int32)) _ _ _ hp
  · replace hp := hp.2 h
    refine rt_lna rfl rfl ?_
    refine rt_gfr rfl Kq_35 (by decide) rfl ?_
    refine rt_ld rfl rfl ?_
    refine rt_al rfl Kq_59 hp.1 rfl ?_
    replace hp := hp.2
    refine rt_lna rfl rfl ?_
    refine rt_gfr rfl Kq_35 (by decide) rfl ?_
    refine rt_ln rfl rfl ?_
    refine rt_al rfl Kq_59 hp.1 rfl ?_
    replace hp := hp.2
    refine rt_ic rfl rfl (fun h => ?_) (fun h => ?_)
    · replace hp := hp.1 h
      refine rt_ln rfl rfl ?_
      refine rt_sn (la1 := [some (rf 35), o1_, some (.inl x2_), some (.inl x3_), some (.inl x4_)]) rfl rfl rfl ?_
      refine rt_inc (la1 := [some (rf 35), o1_, some (.inl x2_), some (.inl x3_), some (.inl (x4_ + (1 : Int32)))]) rfl rfl ck1_1 rfl ?_
      refine rt_go rfl ?_
      exact hk93 σ x2_ x3_ (x4_ + (1 : Int32)) _ hp
    · replace hp := hp.2 h
      refine rt_ld rfl rfl ?_
      refine rt_go rfl ?_
      refine rt_sn (la1 := [some (rf 35), o1_, some (.inl x2_), some (.inl x4_), some (.inl x4_)]) rfl rfl rfl ?_
      refine rt_inc (la1 := [some (rf 35), o1_, some (.inl x2_), some (.inl x4_), some (.inl (x4_ + (1 : Int32)))]) rfl rfl ck1_1 rfl ?_
      refine rt_go rfl ?_
      exact hk93 σ x2_ x4_ (x4_ + (1 : Int32)) _ hp
noncomputable def s_X5_laysBlocks_l93 (k84 : sg_S → Int32 → sg_S) (n : Nat) : sg_S → Int32 → Int32 → Int32 → sg_S := Nat.rec (motive := fun _ => sg_S → Int32 → Int32 → Int32 → sg_S) (fun σ _ _ _ => σ) (fun _ ih => s_X5_laysBlocks_b93 k84 ih) n
noncomputable def p_X5_laysBlocks_l93 (kp84 : sg_S → Int32 → Prop) (n : Nat) : sg_S → Int32 → Int32 → Int32 → Prop := Nat.rec (motive := fun _ => sg_S → Int32 → Int32 → Int32 → Prop) (fun _ _ _ _ => False) (fun _ ih => p_X5_laysBlocks_b93 kp84 ih) n
theorem m_X5_laysBlocks_l93 {s : List Int32} (k84 : sg_S → Int32 → sg_S) (kp84 : sg_S → Int32 → Prop) (hk84 : ∀ (σ : sg_S) (x2_ : Int32) (o1_ : Option (ip_V Int32)) (o3_ : Option (ip_V Int32)) (o4_ : Option (ip_V Int32)), kp84 σ x2_ → RtF bk fS s 172 84 [some (rf 35), o1_, some (.inl x2_), o3_, o4_] [] σ (k84 σ x2_)) : ∀ (n : Nat), ∀ (σ : sg_S) (x2_ : Int32) (x3_ : Int32) (x4_ : Int32) (o1_ : Option (ip_V Int32)), p_X5_laysBlocks_l93 kp84 n σ x2_ x3_ x4_ → RtF bk fS s 172 93 [some (rf 35), o1_, some (.inl x2_), some (.inl x3_), some (.inl x4_)] [] σ (s_X5_laysBlocks_l93 k84 n σ x2_ x3_ x4_) := by
  intro n
  induction n with
  | zero =>
    intro σ x2_ x3_ x4_ o1_ hp
    exact hp.elim
  | succ n ih =>
    intro σ x2_ x3_ x4_ o1_ hp
    exact m_X5_laysBlocks_b93 k84 (s_X5_laysBlocks_l93 k84 n) kp84 (p_X5_laysBlocks_l93 kp84 n) hk84 ih σ x2_ x3_ x4_ o1_ hp
noncomputable def s_X5_laysBlocks_b84 (k84 : sg_S → Int32 → sg_S) (σ : sg_S) (x2_ : Int32) : sg_S := (if x2_ ≤ 0 then σ else (s_X5_laysBlocks_l93 k84 600 σ x2_ (0 : Int32) (1 : Int32)))
noncomputable def p_X5_laysBlocks_b84 (kp84 : sg_S → Int32 → Prop) (σ : sg_S) (x2_ : Int32) : Prop := (¬ (x2_ ≤ 0) → (p_X5_laysBlocks_l93 kp84 600 σ x2_ (0 : Int32) (1 : Int32)))
theorem m_X5_laysBlocks_b84 {s : List Int32} (k84 : sg_S → Int32 → sg_S) (kp84 : sg_S → Int32 → Prop) (hk84 : ∀ (σ : sg_S) (x2_ : Int32) (o1_ : Option (ip_V Int32)) (o3_ : Option (ip_V Int32)) (o4_ : Option (ip_V Int32)), kp84 σ x2_ → RtF bk fS s 172 84 [some (rf 35), o1_, some (.inl x2_), o3_, o4_] [] σ (k84 σ x2_)) (σ : sg_S) (x2_ : Int32) (o1_ : Option (ip_V Int32)) (o3_ : Option (ip_V Int32)) (o4_ : Option (ip_V Int32)) (hp : p_X5_laysBlocks_b84 kp84 σ x2_) : RtF bk fS s 172 84 [some (rf 35), o1_, some (.inl x2_), o3_, o4_] [] σ (s_X5_laysBlocks_b84 k84 σ x2_) := by
  unfold s_X5_laysBlocks_b84
  unfold p_X5_laysBlocks_b84 at hp
  refine rt_ln rfl rfl ?_
  refine rt_if rfl rfl (fun h => ?_) (fun h => ?_)
  · exact rt_eS rfl
  · replace hp := hp h
    refine rt_k1 rfl ck1_0 ?_
    refine rt_sn (la1 := [some (rf 35), o1_, some (.inl x2_), some (.inl (0 : Int32)), o4_]) rfl rfl rfl ?_
    refine rt_k1 rfl ck1_1 ?_
    refine rt_st (la1 := [some (rf 35), o1_, some (.inl x2_), some (.inl (0 : Int32)), some (.inl (1 : Int32))]) rfl rfl rfl ?_
    exact m_X5_laysBlocks_l93 k84 kp84 hk84 600 σ x2_ (0 : Int32) (1 : Int32) _ hp
noncomputable def s_X5_laysBlocks_l84 (n : Nat) : sg_S → Int32 → sg_S := Nat.rec (motive := fun _ => sg_S → Int32 → sg_S) (fun σ _ => σ) (fun _ ih => s_X5_laysBlocks_b84 ih) n
noncomputable def p_X5_laysBlocks_l84 (n : Nat) : sg_S → Int32 → Prop := Nat.rec (motive := fun _ => sg_S → Int32 → Prop) (fun _ _ => False) (fun _ ih => p_X5_laysBlocks_b84 ih) n
theorem m_X5_laysBlocks_l84 {s : List Int32} : ∀ (n : Nat), ∀ (σ : sg_S) (x2_ : Int32) (o1_ : Option (ip_V Int32)) (o3_ : Option (ip_V Int32)) (o4_ : Option (ip_V Int32)), p_X5_laysBlocks_l84 n σ x2_ → RtF bk fS s 172 84 [some (rf 35), o1_, some (.inl x2_), o3_, o4_] [] σ (s_X5_laysBlocks_l84 n σ x2_) := by
  intro n
  induction n with
  | zero =>
    intro σ x2_ o1_ o3_ o4_ hp
    exact hp.elim
  | succ n ih =>
    intro σ x2_ o1_ o3_ o4_ hp
    exact m_X5_laysBlocks_b84 (s_X5_laysBlocks_l84 n) (p_X5_laysBlocks_l84 n) ih σ x2_ o1_ o3_ o4_ hp
noncomputable def t_X5_laysBlocks_2 (σ : sg_S) (x1_ : Int32) (x2_ : Int32) (x3_ : Int32) (y0_ : Int32) : sg_S := (sg_up σ 58 (ni x3_) ((x1_ * y0_) / (20 : Int32)))
noncomputable def t_X5_laysBlocks_3 (σ : sg_S) (x1_ : Int32) (x2_ : Int32) (x3_ : Int32) (y0_ : Int32) : sg_S := (sg_up (t_X5_laysBlocks_2 σ x1_ x2_ x3_ y0_) 59 (ni x3_) (rm (x1_ * y0_) (20 : Int32)))
noncomputable def s_X5_laysBlocks_a41 (k4 : sg_S → Int32 → Int32 → Int32 → sg_S) (σ : sg_S) (x1_ : Int32) (x2_ : Int32) (x3_ : Int32) (y0_ : Int32) : sg_S := (k4 (t_X5_laysBlocks_3 σ x1_ x2_ x3_ y0_) x1_ (x2_ - ((t_X5_laysBlocks_3 σ x1_ x2_ x3_ y0_) 58 (ni x3_))) (x3_ + (1 : Int32)))
noncomputable def p_X5_laysBlocks_a41 (kp4 : sg_S → Int32 → Int32 → Int32 → Prop) (σ : sg_S) (x1_ : Int32) (x2_ : Int32) (x3_ : Int32) (y0_ : Int32) : Prop := (ix x3_ 3 ∧ (ix x3_ 3 ∧ (ix x3_ 3 ∧ (kp4 (t_X5_laysBlocks_3 σ x1_ x2_ x3_ y0_) x1_ (x2_ - ((t_X5_laysBlocks_3 σ x1_ x2_ x3_ y0_) 58 (ni x3_))) (x3_ + (1 : Int32))))))
theorem m_X5_laysBlocks_a41 {s : List Int32} (k4 : sg_S → Int32 → Int32 → Int32 → sg_S) (kp4 : sg_S → Int32 → Int32 → Int32 → Prop) (hk4 : ∀ (σ : sg_S) (x1_ : Int32) (x2_ : Int32) (x3_ : Int32) (o4_ : Option (ip_V Int32)), kp4 σ x1_ x2_ x3_ → RtF bk fS s 172 4 [some (rf 35), some (.inl x1_), some (.inl x2_), some (.inl x3_), o4_] [] σ (k4 σ x1_ x2_ x3_)) (σ : sg_S) (x1_ : Int32) (x2_ : Int32) (x3_ : Int32) (y0_ : Int32) (o4_ : Option (ip_V Int32)) (hp : p_X5_laysBlocks_a41 kp4 σ x1_ x2_ x3_ y0_) : RtF bk fS s 172 41 [some (rf 35), some (.inl x1_), some (.inl x2_), some (.inl x3_), o4_] [.inl y0_] σ (s_X5_laysBlocks_a41 k4 σ x1_ x2_ x3_ y0_) := by
  unfold s_X5_laysBlocks_a41
  unfold p_X5_laysBlocks_a41 at hp
  refine rt_st (la1 := [some (rf 35), some (.inl x1_), some (.inl x2_), some (.inl x3_), some (.inl y0_)]) rfl rfl rfl ?_
  refine rt_lna rfl rfl ?_
  refine rt_gfr rfl Kq_35 (by decide) rfl ?_
  refine rt_ln rfl rfl ?_
  refine rt_ln rfl rfl ?_
  refine rt_ld rfl rfl ?_
  refine rt_mul rfl ?_
  refine rt_k2 rfl ck2_20 ?_
  refine rt_div rfl (by decide) ?_
  refine rt_as (k0 := (ni x3_)) (σ1 := (t_X5_laysBlocks_2 σ x1_ x2_ x3_ y0_)) rfl Kq_58 hp.1 rfl rfl ?_
  replace hp := hp.2
  refine rt_lna rfl rfl ?_
  refine rt_gfr rfl Kq_35 (by decide) rfl ?_
  refine rt_ln rfl rfl ?_
  refine rt_ln rfl rfl ?_
  refine rt_ld rfl rfl ?_
  refine rt_mul rfl ?_
  refine rt_k2 rfl ck2_20 ?_
  refine rt_rem rfl (by decide) ?_
  refine rt_as (k0 := (ni x3_)) (σ1 := (t_X5_laysBlocks_3 σ x1_ x2_ x3_ y0_)) rfl Kq_59 hp.1 rfl rfl ?_
  replace hp := hp.2
  refine rt_ln rfl rfl ?_
  refine rt_lna rfl rfl ?_
  refine rt_gfr rfl Kq_35 (by decide) rfl ?_
  refine rt_ln rfl rfl ?_
  refine rt_al rfl Kq_58 hp.1 rfl ?_
  replace hp := hp.2
  refine rt_sub rfl ?_
  refine rt_sn (la1 := [some (rf 35), some (.inl x1_), some (.inl (x2_ - ((t_X5_laysBlocks_3 σ x1_ x2_ x3_ y0_) 58 (ni x3_)))), some (.inl x3_), some (.inl y0_)]) rfl rfl rfl ?_
  refine rt_inc (la1 := [some (rf 35), some (.inl x1_), some (.inl (x2_ - ((t_X5_laysBlocks_3 σ x1_ x2_ x3_ y0_) 58 (ni x3_)))), some (.inl (x3_ + (1 : Int32))), some (.inl y0_)]) rfl rfl ck1_1 rfl ?_
  refine rt_go rfl ?_
  exact hk4 (t_X5_laysBlocks_3 σ x1_ x2_ x3_ y0_) x1_ (x2_ - ((t_X5_laysBlocks_3 σ x1_ x2_ x3_ y0_) 58 (ni x3_))) (x3_ + (1 : Int32)) _ hp
noncomputable def s_X5_laysBlocks_b4 (k4 : sg_S → Int32 → Int32 → Int32 → sg_S) (σ : sg_S) (x1_ : Int32) (x2_ : Int32) (x3_ : Int32) : sg_S := (if (3 : Int32) ≤ x3_ then (s_X5_laysBlocks_l84 600 σ x2_) else (if (2 : Int32) ≤ x3_ then (s_X5_laysBlocks_a41 k4 σ x1_ x2_ x3_ (((20 : Int32) - (σ 36 3)) - (σ 36 4))) else (s_X5_laysBlocks_a41 k4 σ x1_ x2_ x3_ (σ 36 (ni ((3 : Int32) + x3_))))))
noncomputable def p_X5_laysBlocks_b4 (kp4 : sg_S → Int32 → Int32 → Int32 → Prop) (σ : sg_S) (x1_ : Int32) (x2_ : Int32) (x3_ : Int32) : Prop := (((3 : Int32) ≤ x3_ → (p_X5_laysBlocks_l84 600 σ x2_)) ∧ (¬ ((3 : Int32) ≤ x3_) → (((2 : Int32) ≤ x3_ → (p_X5_laysBlocks_a41 kp4 σ x1_ x2_ x3_ (((20 : Int32) - (σ 36 3)) - (σ 36 4)))) ∧ (¬ ((2 : Int32) ≤ x3_) → (ix ((3 : Int32) + x3_) 5 ∧ (p_X5_laysBlocks_a41 kp4 σ x1_ x2_ x3_ (σ 36 (ni ((3 : Int32) + x3_)))))))))
theorem m_X5_laysBlocks_b4 {s : List Int32} (k4 : sg_S → Int32 → Int32 → Int32 → sg_S) (kp4 : sg_S → Int32 → Int32 → Int32 → Prop) (hk4 : ∀ (σ : sg_S) (x1_ : Int32) (x2_ : Int32) (x3_ : Int32) (o4_ : Option (ip_V Int32)), kp4 σ x1_ x2_ x3_ → RtF bk fS s 172 4 [some (rf 35), some (.inl x1_), some (.inl x2_), some (.inl x3_), o4_] [] σ (k4 σ x1_ x2_ x3_)) (σ : sg_S) (x1_ : Int32) (x2_ : Int32) (x3_ : Int32) (o4_ : Option (ip_V Int32)) (hp : p_X5_laysBlocks_b4 kp4 σ x1_ x2_ x3_) : RtF bk fS s 172 4 [some (rf 35), some (.inl x1_), some (.inl x2_), some (.inl x3_), o4_] [] σ (s_X5_laysBlocks_b4 k4 σ x1_ x2_ x3_) := by
  unfold s_X5_laysBlocks_b4
  unfold p_X5_laysBlocks_b4 at hp
  refine rt_ln rfl rfl ?_
  refine rt_k1 rfl ck1_3 ?_
  refine rt_ic rfl rfl (fun h => ?_) (fun h => ?_)
  · replace hp := hp.1 h
    exact m_X5_laysBlocks_l84 600 σ x2_ _ _ _ hp
  · replace hp := hp.2 h
    refine rt_ln rfl rfl ?_
    refine rt_k1 rfl ck1_2 ?_
    refine rt_ic rfl rfl (fun h => ?_) (fun h => ?_)
    · replace hp := hp.1 h
      refine rt_k2 rfl ck2_20 ?_
      refine rt_lna rfl rfl ?_
      refine rt_gfr rfl Kq_35 (by decide) rfl ?_
      refine rt_k1 rfl ck1_3 ?_
      refine rt_al (k0 := 3) rfl Kq_36 ⟨by decide, by decide⟩ rfl ?_
      refine rt_sub rfl ?_
      refine rt_lna rfl rfl ?_
      refine rt_gfr rfl Kq_35 (by decide) rfl ?_
      refine rt_k1 rfl ck1_4 ?_
      refine rt_al (k0 := 4) rfl Kq_36 ⟨by decide, by decide⟩ rfl ?_
      refine rt_sub rfl ?_
      exact m_X5_laysBlocks_a41 k4 kp4 hk4 σ x1_ x2_ x3_ (((20 : Int32) - (σ 36 3)) - (σ 36 4)) _ hp
    · replace hp := hp.2 h
      refine rt_lna rfl rfl ?_
      refine rt_gfr rfl Kq_35 (by decide) rfl ?_
      refine rt_k1 rfl ck1_3 ?_
      refine rt_ln rfl rfl ?_
      refine rt_add rfl ?_
      refine rt_al rfl Kq_36 hp.1 rfl ?_
      replace hp := hp.2
      refine rt_go rfl ?_
      exact m_X5_laysBlocks_a41 k4 kp4 hk4 σ x1_ x2_ x3_ (σ 36 (ni ((3 : Int32) + x3_))) _ hp
noncomputable def s_X5_laysBlocks_l4 (n : Nat) : sg_S → Int32 → Int32 → Int32 → sg_S := Nat.rec (motive := fun _ => sg_S → Int32 → Int32 → Int32 → sg_S) (fun σ _ _ _ => σ) (fun _ ih => s_X5_laysBlocks_b4 ih) n
noncomputable def p_X5_laysBlocks_l4 (n : Nat) : sg_S → Int32 → Int32 → Int32 → Prop := Nat.rec (motive := fun _ => sg_S → Int32 → Int32 → Int32 → Prop) (fun _ _ _ _ => False) (fun _ ih => p_X5_laysBlocks_b4 ih) n
theorem m_X5_laysBlocks_l4 {s : List Int32} : ∀ (n : Nat), ∀ (σ : sg_S) (x1_ : Int32) (x2_ : Int32) (x3_ : Int32) (o4_ : Option (ip_V Int32)), p_X5_laysBlocks_l4 n σ x1_ x2_ x3_ → RtF bk fS s 172 4 [some (rf 35), some (.inl x1_), some (.inl x2_), some (.inl x3_), o4_] [] σ (s_X5_laysBlocks_l4 n σ x1_ x2_ x3_) := by
  intro n
  induction n with
  | zero =>
    intro σ x1_ x2_ x3_ o4_ hp
    exact hp.elim
  | succ n ih =>
    intro σ x1_ x2_ x3_ o4_ hp
    exact m_X5_laysBlocks_b4 (s_X5_laysBlocks_l4 n) (p_X5_laysBlocks_l4 n) ih σ x1_ x2_ x3_ o4_ hp
noncomputable def s_X5_laysBlocks (σ : sg_S) (x0 : Int32) : sg_S := (s_X5_laysBlocks_l4 600 σ x0 x0 (0 : Int32))
noncomputable def p_X5_laysBlocks (σ : sg_S) (x0 : Int32) : Prop := (p_X5_laysBlocks_l4 600 σ x0 x0 (0 : Int32))
theorem m_X5_laysBlocks {s : List Int32} {σ : sg_S} (x0 : Int32) (hp : p_X5_laysBlocks σ x0) : Ct s 172 [rf 35, .inl x0] σ [] (s_X5_laysBlocks σ x0) := by
  refine ct_v (la := [some (rf 35), some (.inl x0), none, none, none]) Kq_35 rfl rfl rfl rfl rfl rfl rfl (cgS ?_)
  unfold s_X5_laysBlocks
  unfold p_X5_laysBlocks at hp
  refine rt_ln rfl rfl ?_
  refine rt_sn (la1 := [some (rf 35), some (.inl x0), some (.inl x0), none, none]) rfl rfl rfl ?_
  refine rt_k1 rfl ck1_0 ?_
  refine rt_sn (la1 := [some (rf 35), some (.inl x0), some (.inl x0), some (.inl (0 : Int32)), none]) rfl rfl rfl ?_
  exact m_X5_laysBlocks_l4 600 σ x0 x0 (0 : Int32) _ hp
noncomputable def t_X5_block_0 (σ : sg_S) (x0 : Int32) (x1 : Int32) : sg_S := (s_X5_laysBlocks (s_X5_goesOn (sg_up σ 35 0 (0 : Int32))) ((s_X5_goesOn (sg_up σ 35 0 (0 : Int32))) 44 (ni x0)))
noncomputable def r_X5_block (σ : sg_S) (x0 : Int32) (x1 : Int32) : Int32 × sg_S := (if (v_X5_isInnings x0) = 0 then ((-1 : Int32), (sg_up σ 35 0 (0 : Int32))) else (if ¬ (v_X5_in x1 (0 : Int32) (2 : Int32)) = 0 then (((t_X5_block_0 σ x0 x1) 58 (ni x1)), (t_X5_block_0 σ x0 x1)) else ((-1 : Int32), (sg_up σ 35 0 (0 : Int32)))))
noncomputable def p_X5_block (σ : sg_S) (x0 : Int32) (x1 : Int32) : Prop := (¬ ((v_X5_isInnings x0) = 0) → (¬ (v_X5_in x1 (0 : Int32) (2 : Int32)) = 0 → (p_X5_goesOn (sg_up σ 35 0 (0 : Int32)) ∧ (ix x0 2 ∧ (p_X5_laysBlocks (s_X5_goesOn (sg_up σ 35 0 (0 : Int32))) ((s_X5_goesOn (sg_up σ 35 0 (0 : Int32))) 44 (ni x0)) ∧ ix x1 3)))))
theorem m_X5_block {s : List Int32} {σ : sg_S} (x0 : Int32) (x1 : Int32) (hp : p_X5_block σ x0 x1) : Ct s 173 [rf 35, .inl x0, .inl x1] σ [.inl (r_X5_block σ x0 x1).1] (r_X5_block σ x0 x1).2 := by
  refine ct_v (la := [some (rf 35), some (.inl x0), some (.inl x1)]) Kq_35 rfl rfl rfl rfl rfl rfl rfl (cgR ?_)
  unfold r_X5_block
  unfold p_X5_block at hp
  refine rt_lna rfl rfl ?_
  refine rt_k1 rfl ck1_0 ?_
  refine rt_pf (σ1 := (sg_up σ 35 0 (0 : Int32))) rfl Kq_35 (by decide) rfl rfl rfl ?_
  refine rt_ln rfl rfl ?_
  refine rt_is (σ1 := (sg_up σ 35 0 (0 : Int32))) rfl rfl rfl (m_X5_isInnings x0) ?_
  show RtF bk fR s 173 9 [some (rf 35), some (.inl x0), some (.inl x1)] [.inl (v_X5_isInnings x0)] (sg_up σ 35 0 (0 : Int32)) _
  refine rt_if rfl rfl (fun h => ?_) (fun h => ?_)
  · refine rt_k1 rfl ck1_m1 ?_
    exact rt_eR rfl
  · replace hp := hp h
    refine rt_ln rfl rfl ?_
    refine rt_k1 rfl ck1_0 ?_
    refine rt_k1 rfl ck1_2 ?_
    refine rt_is (σ1 := (sg_up σ 35 0 (0 : Int32))) rfl rfl rfl (m_X5_in x1 (0 : Int32) (2 : Int32)) ?_
    show RtF bk fR s 173 18 [some (rf 35), some (.inl x0), some (.inl x1)] [.inl (v_X5_in x1 (0 : Int32) (2 : Int32))] (sg_up σ 35 0 (0 : Int32)) _
    refine rt_if rfl rfl (fun h => ?_) (fun h => ?_)
    · replace hp := hp h
      refine rt_lna rfl rfl ?_
      refine rt_iv (σ1 := (s_X5_goesOn (sg_up σ 35 0 (0 : Int32)))) rfl rfl rfl (m_X5_goesOn hp.1) ?_
      show RtF bk fR s 173 27 [some (rf 35), some (.inl x0), some (.inl x1)] [] (s_X5_goesOn (sg_up σ 35 0 (0 : Int32))) _
      replace hp := hp.2
      refine rt_lna rfl rfl ?_
      refine rt_lna rfl rfl ?_
      refine rt_gfr rfl Kq_35 (by decide) rfl ?_
      refine rt_ln rfl rfl ?_
      refine rt_al rfl Kq_44 hp.1 rfl ?_
      replace hp := hp.2
      refine rt_iv (σ1 := (t_X5_block_0 σ x0 x1)) rfl rfl rfl (m_X5_laysBlocks ((s_X5_goesOn (sg_up σ 35 0 (0 : Int32))) 44 (ni x0)) hp.1) ?_
      show RtF bk fR s 173 37 [some (rf 35), some (.inl x0), some (.inl x1)] [] (t_X5_block_0 σ x0 x1) _
      replace hp := hp.2
      refine rt_lna rfl rfl ?_
      refine rt_gfr rfl Kq_35 (by decide) rfl ?_
      refine rt_ln rfl rfl ?_
      refine rt_al rfl Kq_58 hp rfl ?_
      exact rt_eR rfl
    · refine rt_k1 rfl ck1_m1 ?_
      exact rt_eR rfl
noncomputable def t_X5_blockNow_0 (σ : sg_S) : sg_S := (s_X5_laysBlocks (s_X5_goesOn (sg_up σ 35 0 (0 : Int32))) ((s_X5_goesOn (sg_up σ 35 0 (0 : Int32))) 44 (ni ((s_X5_goesOn (sg_up σ 35 0 (0 : Int32))) 35 23))))
noncomputable def r_X5_blockNow (σ : sg_S) : Int32 × sg_S := (if ¬ ((s_X5_goesOn (sg_up σ 35 0 (0 : Int32))) 35 23) = (2 : Int32) then (if ((t_X5_blockNow_0 σ) 58 0) ≤ (((t_X5_blockNow_0 σ) 43 (ni ((t_X5_blockNow_0 σ) 35 23))) / (6 : Int32)) then (if (((t_X5_blockNow_0 σ) 58 0) + ((t_X5_blockNow_0 σ) 58 1)) ≤ (((t_X5_blockNow_0 σ) 43 (ni ((t_X5_blockNow_0 σ) 35 23))) / (6 : Int32)) then ((2 : Int32), (t_X5_blockNow_0 σ)) else ((1 : Int32), (t_X5_blockNow_0 σ))) else ((0 : Int32), (t_X5_blockNow_0 σ))) else ((-1 : Int32), (s_X5_goesOn (sg_up σ 35 0 (0 : Int32)))))
noncomputable def p_X5_blockNow (σ : sg_S) : Prop := (p_X5_goesOn (sg_up σ 35 0 (0 : Int32)) ∧ (¬ ((s_X5_goesOn (sg_up σ 35 0 (0 : Int32))) 35 23) = (2 : Int32) → (ix ((s_X5_goesOn (sg_up σ 35 0 (0 : Int32))) 35 23) 2 ∧ (p_X5_laysBlocks (s_X5_goesOn (sg_up σ 35 0 (0 : Int32))) ((s_X5_goesOn (sg_up σ 35 0 (0 : Int32))) 44 (ni ((s_X5_goesOn (sg_up σ 35 0 (0 : Int32))) 35 23))) ∧ ix ((t_X5_blockNow_0 σ) 35 23) 2))))
theorem m_X5_blockNow {s : List Int32} {σ : sg_S} (hp : p_X5_blockNow σ) : Ct s 174 [rf 35] σ [.inl (r_X5_blockNow σ).1] (r_X5_blockNow σ).2 := by
  refine ct_v (la := [some (rf 35), none]) Kq_35 rfl rfl rfl rfl rfl rfl rfl (cgR ?_)
  unfold r_X5_blockNow
  unfold p_X5_blockNow at hp
  refine rt_lna rfl rfl ?_
  refine rt_k1 rfl ck1_0 ?_
  refine rt_pf (σ1 := (sg_up σ 35 0 (0 : Int32))) rfl Kq_35 (by decide) rfl rfl rfl ?_
  refine rt_lna rfl rfl ?_
  refine rt_iv (σ1 := (s_X5_goesOn (sg_up σ 35 0 (0 : Int32)))) rfl rfl rfl (m_X5_goesOn hp.1) ?_
  show RtF bk fR s 174 9 [some (rf 35), none] [] (s_X5_goesOn (sg_up σ 35 0 (0 : Int32))) _
  replace hp := hp.2
  refine rt_lna rfl rfl ?_
  refine rt_gfi rfl Kq_35 (by decide) rfl rfl ?_
  refine rt_k1 rfl ck1_2 ?_
  refine rt_ic rfl rfl (fun h => ?_) (fun h => ?_)
  · replace hp := hp h
    refine rt_lna rfl rfl ?_
    refine rt_lna rfl rfl ?_
    refine rt_gfr rfl Kq_35 (by decide) rfl ?_
    refine rt_lna rfl rfl ?_
    refine rt_gfi rfl Kq_35 (by decide) rfl rfl ?_
    refine rt_al rfl Kq_44 hp.1 rfl ?_
    replace hp := hp.2
    refine rt_iv (σ1 := (t_X5_blockNow_0 σ)) rfl rfl rfl (m_X5_laysBlocks ((s_X5_goesOn (sg_up σ 35 0 (0 : Int32))) 44 (ni ((s_X5_goesOn (sg_up σ 35 0 (0 : Int32))) 35 23))) hp.1) ?_
    show RtF bk fR s 174 32 [some (rf 35), none] [] (t_X5_blockNow_0 σ) _
    replace hp := hp.2
    refine rt_lna rfl rfl ?_
    refine rt_gfr rfl Kq_35 (by decide) rfl ?_
    refine rt_lna rfl rfl ?_
    refine rt_gfi rfl Kq_35 (by decide) rfl rfl ?_
    refine rt_al rfl Kq_43 hp rfl ?_
    refine rt_k2 rfl ck2_6 ?_
    refine rt_div rfl (by decide) ?_
    refine rt_sn (la1 := [some (rf 35), some (.inl (((t_X5_blockNow_0 σ) 43 (ni ((t_X5_blockNow_0 σ) 35 23))) / (6 : Int32)))]) rfl rfl rfl ?_
    refine rt_ln rfl rfl ?_
    refine rt_lna rfl rfl ?_
    refine rt_gfr rfl Kq_35 (by decide) rfl ?_
    refine rt_k1 rfl ck1_0 ?_
    refine rt_al (k0 := 0) rfl Kq_58 ⟨by decide, by decide⟩ rfl ?_
    refine rt_ic rfl rfl (fun h => ?_) (fun h => ?_)
    · refine rt_ln rfl rfl ?_
      refine rt_lna rfl rfl ?_
      refine rt_gfr rfl Kq_35 (by decide) rfl ?_
      refine rt_k1 rfl ck1_0 ?_
      refine rt_al (k0 := 0) rfl Kq_58 ⟨by decide, by decide⟩ rfl ?_
      refine rt_lna rfl rfl ?_
      refine rt_gfr rfl Kq_35 (by decide) rfl ?_
      refine rt_k1 rfl ck1_1 ?_
      refine rt_al (k0 := 1) rfl Kq_58 ⟨by decide, by decide⟩ rfl ?_
      refine rt_add rfl ?_
      refine rt_ic rfl rfl (fun h => ?_) (fun h => ?_)
      · refine rt_k1 rfl ck1_2 ?_
        exact rt_eR rfl
      · refine rt_k1 rfl ck1_1 ?_
        refine rt_go rfl ?_
        exact rt_eR rfl
    · refine rt_k1 rfl ck1_0 ?_
      refine rt_go rfl ?_
      exact rt_eR rfl
  · refine rt_k1 rfl ck1_m1 ?_
    exact rt_eR rfl
noncomputable def r_X5_ofBlock_b54 (k54 : sg_S → Int32 → Int32 → Int32 → Int32 → Int32 → Int32 → Int32 × sg_S) (σ : sg_S) (x1_ : Int32) (x2_ : Int32) (x3_ : Int32) (x4_ : Int32) (x5_ : Int32) (x6_ : Int32) : Int32 × sg_S := (if (x4_ + (σ 58 (ni x2_))) ≤ x6_ then (x5_, σ) else (k54 σ x1_ x2_ x3_ x4_ (x5_ + (v_X5_ofOver σ (((20 : Int32) * x1_) + x6_) x3_)) (x6_ + (1 : Int32))))
noncomputable def p_X5_ofBlock_b54 (kp54 : sg_S → Int32 → Int32 → Int32 → Int32 → Int32 → Int32 → Prop) (σ : sg_S) (x1_ : Int32) (x2_ : Int32) (x3_ : Int32) (x4_ : Int32) (x5_ : Int32) (x6_ : Int32) : Prop := (ix x2_ 3 ∧ (¬ ((x4_ + (σ 58 (ni x2_))) ≤ x6_) → (p_X5_ofOver (((20 : Int32) * x1_) + x6_) x3_ ∧ (kp54 σ x1_ x2_ x3_ x4_ (x5_ + (v_X5_ofOver σ (((20 : Int32) * x1_) + x6_) x3_)) (x6_ + (1 : Int32))))))
theorem m_X5_ofBlock_b54 {s : List Int32} (k54 : sg_S → Int32 → Int32 → Int32 → Int32 → Int32 → Int32 → Int32 × sg_S) (kp54 : sg_S → Int32 → Int32 → Int32 → Int32 → Int32 → Int32 → Prop) (hk54 : ∀ (σ : sg_S) (x1_ : Int32) (x2_ : Int32) (x3_ : Int32) (x4_ : Int32) (x5_ : Int32) (x6_ : Int32), kp54 σ x1_ x2_ x3_ x4_ x5_ x6_ → RtF bk fR s 175 54 [some (rf 35), some (.inl x1_), some (.inl x2_), some (.inl x3_), some (.inl x4_), some (.inl x5_), some (.inl x6_)] [] σ (k54 σ x1_ x2_ x3_ x4_ x5_ x6_)) (σ : sg_S) (x1_ : Int32) (x2_ : Int32) (x3_ : Int32) (x4_ : Int32) (x5_ : Int32) (x6_ : Int32) (hp : p_X5_ofBlock_b54 kp54 σ x1_ x2_ x3_ x4_ x5_ x6_) : RtF bk fR s 175 54 [some (rf 35), some (.inl x1_), some (.inl x2_), some (.inl x3_), some (.inl x4_), some (.inl x5_), some (.inl x6_)] [] σ (r_X5_ofBlock_b54 k54 σ x1_ x2_ x3_ x4_ x5_ x6_) := by
  unfold r_X5_ofBlock_b54
  unfold p_X5_ofBlock_b54 at hp
  refine rt_ld rfl rfl ?_
  refine rt_ld rfl rfl ?_
  refine rt_lna rfl rfl ?_
  refine rt_gfr rfl Kq_35 (by decide) rfl ?_
  refine rt_ln rfl rfl ?_
  refine rt_al rfl Kq_58 hp.1 rfl ?_
  replace hp := hp.2
  refine rt_add rfl ?_
  refine rt_ic rfl rfl (fun h => ?_) (fun h => ?_)
  · refine rt_ld rfl rfl ?_
    exact rt_eR rfl
  · replace hp := hp h
    refine rt_ld rfl rfl ?_
    refine rt_lna rfl rfl ?_
    refine rt_k2 rfl ck2_20 ?_
    refine rt_ln rfl rfl ?_
    refine rt_mul rfl ?_
    refine rt_ld rfl rfl ?_
    refine rt_add rfl ?_
    refine rt_ln rfl rfl ?_
    refine rt_iv (σ1 := σ) rfl rfl rfl (m_X5_ofOver (((20 : Int32) * x1_) + x6_) x3_ hp.1) ?_
    show RtF bk fR s 175 82 [some (rf 35), some (.inl x1_), some (.inl x2_), some (.inl x3_), some (.inl x4_), some (.inl x5_), some (.inl x6_)] [.inl (v_X5_ofOver σ (((20 : Int32) * x1_) + x6_) x3_), .inl x5_] σ _
    replace hp := hp.2
    refine rt_add rfl ?_
    refine rt_st (la1 := [some (rf 35), some (.inl x1_), some (.inl x2_), some (.inl x3_), some (.inl x4_), some (.inl (x5_ + (v_X5_ofOver σ (((20 : Int32) * x1_) + x6_) x3_))), some (.inl x6_)]) rfl rfl rfl ?_
    refine rt_inc (la1 := [some (rf 35), some (.inl x1_), some (.inl x2_), some (.inl x3_), some (.inl x4_), some (.inl (x5_ + (v_X5_ofOver σ (((20 : Int32) * x1_) + x6_) x3_))), some (.inl (x6_ + (1 : Int32)))]) rfl rfl ck1_1 rfl ?_
    refine rt_go rfl ?_
    exact hk54 σ x1_ x2_ x3_ x4_ (x5_ + (v_X5_ofOver σ (((20 : Int32) * x1_) + x6_) x3_)) (x6_ + (1 : Int32)) hp
noncomputable def r_X5_ofBlock_l54 (n : Nat) : sg_S → Int32 → Int32 → Int32 → Int32 → Int32 → Int32 → Int32 × sg_S := Nat.rec (motive := fun _ => sg_S → Int32 → Int32 → Int32 → Int32 → Int32 → Int32 → Int32 × sg_S) (fun σ _ _ _ _ _ _ => (0, σ)) (fun _ ih => r_X5_ofBlock_b54 ih) n
noncomputable def p_X5_ofBlock_l54 (n : Nat) : sg_S → Int32 → Int32 → Int32 → Int32 → Int32 → Int32 → Prop := Nat.rec (motive := fun _ => sg_S → Int32 → Int32 → Int32 → Int32 → Int32 → Int32 → Prop) (fun _ _ _ _ _ _ _ => False) (fun _ ih => p_X5_ofBlock_b54 ih) n
theorem m_X5_ofBlock_l54 {s : List Int32} : ∀ (n : Nat), ∀ (σ : sg_S) (x1_ : Int32) (x2_ : Int32) (x3_ : Int32) (x4_ : Int32) (x5_ : Int32) (x6_ : Int32), p_X5_ofBlock_l54 n σ x1_ x2_ x3_ x4_ x5_ x6_ → RtF bk fR s 175 54 [some (rf 35), some (.inl x1_), some (.inl x2_), some (.inl x3_), some (.inl x4_), some (.inl x5_), some (.inl x6_)] [] σ (r_X5_ofBlock_l54 n σ x1_ x2_ x3_ x4_ x5_ x6_) := by
  intro n
  induction n with
  | zero =>
    intro σ x1_ x2_ x3_ x4_ x5_ x6_ hp
    exact hp.elim
  | succ n ih =>
    intro σ x1_ x2_ x3_ x4_ x5_ x6_ hp
    exact m_X5_ofBlock_b54 (r_X5_ofBlock_l54 n) (p_X5_ofBlock_l54 n) ih σ x1_ x2_ x3_ x4_ x5_ x6_ hp
noncomputable def r_X5_ofBlock (σ : sg_S) (x0 : Int32) (x1 : Int32) (x2 : Int32) : Int32 × sg_S := (if ¬ x1 = 0 then (if ¬ x1 = (1 : Int32) then (r_X5_ofBlock_l54 600 (s_X5_laysBlocks σ (σ 44 (ni x0))) x0 x1 x2 (((s_X5_laysBlocks σ (σ 44 (ni x0))) 58 0) + ((s_X5_laysBlocks σ (σ 44 (ni x0))) 58 1)) (0 : Int32) (((s_X5_laysBlocks σ (σ 44 (ni x0))) 58 0) + ((s_X5_laysBlocks σ (σ 44 (ni x0))) 58 1))) else (r_X5_ofBlock_l54 600 (s_X5_laysBlocks σ (σ 44 (ni x0))) x0 x1 x2 ((s_X5_laysBlocks σ (σ 44 (ni x0))) 58 0) (0 : Int32) ((s_X5_laysBlocks σ (σ 44 (ni x0))) 58 0))) else (r_X5_ofBlock_l54 600 (s_X5_laysBlocks σ (σ 44 (ni x0))) x0 x1 x2 (0 : Int32) (0 : Int32) (0 : Int32)))
noncomputable def p_X5_ofBlock (σ : sg_S) (x0 : Int32) (x1 : Int32) (x2 : Int32) : Prop := (ix x0 2 ∧ (p_X5_laysBlocks σ (σ 44 (ni x0)) ∧ ((¬ x1 = 0 → ((¬ x1 = (1 : Int32) → (p_X5_ofBlock_l54 600 (s_X5_laysBlocks σ (σ 44 (ni x0))) x0 x1 x2 (((s_X5_laysBlocks σ (σ 44 (ni x0))) 58 0) + ((s_X5_laysBlocks σ (σ 44 (ni x0))) 58 1)) (0 : Int32) (((s_X5_laysBlocks σ (σ 44 (ni x0))) 58 0) + ((s_X5_laysBlocks σ (σ 44 (ni x0))) 58 1)))) ∧ (¬ (¬ x1 = (1 : Int32)) → (p_X5_ofBlock_l54 600 (s_X5_laysBlocks σ (σ 44 (ni x0))) x0 x1 x2 ((s_X5_laysBlocks σ (σ 44 (ni x0))) 58 0) (0 : Int32) ((s_X5_laysBlocks σ (σ 44 (ni x0))) 58 0))))) ∧ (¬ (¬ x1 = 0) → (p_X5_ofBlock_l54 600 (s_X5_laysBlocks σ (σ 44 (ni x0))) x0 x1 x2 (0 : Int32) (0 : Int32) (0 : Int32))))))
theorem m_X5_ofBlock {s : List Int32} {σ : sg_S} (x0 : Int32) (x1 : Int32) (x2 : Int32) (hp : p_X5_ofBlock σ x0 x1 x2) : Ct s 175 [rf 35, .inl x0, .inl x1, .inl x2] σ [.inl (r_X5_ofBlock σ x0 x1 x2).1] (r_X5_ofBlock σ x0 x1 x2).2 := by
  refine ct_v (la := [some (rf 35), some (.inl x0), some (.inl x1), some (.inl x2), none, none, none]) Kq_35 rfl rfl rfl rfl rfl rfl rfl (cgR ?_)
  unfold r_X5_ofBlock
  unfold p_X5_ofBlock at hp
  refine rt_lna rfl rfl ?_
  refine rt_lna rfl rfl ?_
  refine rt_gfr rfl Kq_35 (by decide) rfl ?_
  refine rt_ln rfl rfl ?_
  refine rt_al rfl Kq_44 hp.1 rfl ?_
  replace hp := hp.2
  refine rt_iv (σ1 := (s_X5_laysBlocks σ (σ 44 (ni x0)))) rfl rfl rfl (m_X5_laysBlocks (σ 44 (ni x0)) hp.1) ?_
  show RtF bk fR s 175 10 [some (rf 35), some (.inl x0), some (.inl x1), some (.inl x2), none, none, none] [] (s_X5_laysBlocks σ (σ 44 (ni x0))) _
  replace hp := hp.2
  refine rt_ln rfl rfl ?_
  refine rt_if rfl rfl (fun h => ?_) (fun h => ?_)
  · replace hp := hp.1 h
    refine rt_ln rfl rfl ?_
    refine rt_k1 rfl ck1_1 ?_
    refine rt_ic rfl rfl (fun h => ?_) (fun h => ?_)
    · replace hp := hp.1 h
      refine rt_lna rfl rfl ?_
      refine rt_gfr rfl Kq_35 (by decide) rfl ?_
      refine rt_k1 rfl ck1_0 ?_
      refine rt_al (k0 := 0) rfl Kq_58 ⟨by decide, by decide⟩ rfl ?_
      refine rt_lna rfl rfl ?_
      refine rt_gfr rfl Kq_35 (by decide) rfl ?_
      refine rt_k1 rfl ck1_1 ?_
      refine rt_al (k0 := 1) rfl Kq_58 ⟨by decide, by decide⟩ rfl ?_
      refine rt_add rfl ?_
      refine rt_st (la1 := [some (rf 35), some (.inl x0), some (.inl x1), some (.inl x2), some (.inl (((s_X5_laysBlocks σ (σ 44 (ni x0))) 58 0) + ((s_X5_laysBlocks σ (σ 44 (ni x0))) 58 1))), none, none]) rfl rfl rfl ?_
      refine rt_k1 rfl ck1_0 ?_
      refine rt_st (la1 := [some (rf 35), some (.inl x0), some (.inl x1), some (.inl x2), some (.inl (((s_X5_laysBlocks σ (σ 44 (ni x0))) 58 0) + ((s_X5_laysBlocks σ (σ 44 (ni x0))) 58 1))), some (.inl (0 : Int32)), none]) rfl rfl rfl ?_
      refine rt_ld rfl rfl ?_
      refine rt_st (la1 := [some (rf 35), some (.inl x0), some (.inl x1), some (.inl x2), some (.inl (((s_X5_laysBlocks σ (σ 44 (ni x0))) 58 0) + ((s_X5_laysBlocks σ (σ 44 (ni x0))) 58 1))), some (.inl (0 : Int32)), some (.inl (((s_X5_laysBlocks σ (σ 44 (ni x0))) 58 0) + ((s_X5_laysBlocks σ (σ 44 (ni x0))) 58 1)))]) rfl rfl rfl ?_
      exact m_X5_ofBlock_l54 600 (s_X5_laysBlocks σ (σ 44 (ni x0))) x0 x1 x2 (((s_X5_laysBlocks σ (σ 44 (ni x0))) 58 0) + ((s_X5_laysBlocks σ (σ 44 (ni x0))) 58 1)) (0 : Int32) (((s_X5_laysBlocks σ (σ 44 (ni x0))) 58 0) + ((s_X5_laysBlocks σ (σ 44 (ni x0))) 58 1)) hp
    · replace hp := hp.2 h
      refine rt_lna rfl rfl ?_
      refine rt_gfr rfl Kq_35 (by decide) rfl ?_
      refine rt_k1 rfl ck1_0 ?_
      refine rt_al (k0 := 0) rfl Kq_58 ⟨by decide, by decide⟩ rfl ?_
      refine rt_go rfl ?_
      refine rt_st (la1 := [some (rf 35), some (.inl x0), some (.inl x1), some (.inl x2), some (.inl ((s_X5_laysBlocks σ (σ 44 (ni x0))) 58 0)), none, none]) rfl rfl rfl ?_
      refine rt_k1 rfl ck1_0 ?_
      refine rt_st (la1 := [some (rf 35), some (.inl x0), some (.inl x1), some (.inl x2), some (.inl ((s_X5_laysBlocks σ (σ 44 (ni x0))) 58 0)), some (.inl (0 : Int32)), none]) rfl rfl rfl ?_
      refine rt_ld rfl rfl ?_
      refine rt_st (la1 := [some (rf 35), some (.inl x0), some (.inl x1), some (.inl x2), some (.inl ((s_X5_laysBlocks σ (σ 44 (ni x0))) 58 0)), some (.inl (0 : Int32)), some (.inl ((s_X5_laysBlocks σ (σ 44 (ni x0))) 58 0))]) rfl rfl rfl ?_
      exact m_X5_ofBlock_l54 600 (s_X5_laysBlocks σ (σ 44 (ni x0))) x0 x1 x2 ((s_X5_laysBlocks σ (σ 44 (ni x0))) 58 0) (0 : Int32) ((s_X5_laysBlocks σ (σ 44 (ni x0))) 58 0) hp
  · replace hp := hp.2 h
    refine rt_k1 rfl ck1_0 ?_
    refine rt_go rfl ?_
    refine rt_st (la1 := [some (rf 35), some (.inl x0), some (.inl x1), some (.inl x2), some (.inl (0 : Int32)), none, none]) rfl rfl rfl ?_
    refine rt_k1 rfl ck1_0 ?_
    refine rt_st (la1 := [some (rf 35), some (.inl x0), some (.inl x1), some (.inl x2), some (.inl (0 : Int32)), some (.inl (0 : Int32)), none]) rfl rfl rfl ?_
    refine rt_ld rfl rfl ?_
    refine rt_st (la1 := [some (rf 35), some (.inl x0), some (.inl x1), some (.inl x2), some (.inl (0 : Int32)), some (.inl (0 : Int32)), some (.inl (0 : Int32))]) rfl rfl rfl ?_
    exact m_X5_ofBlock_l54 600 (s_X5_laysBlocks σ (σ 44 (ni x0))) x0 x1 x2 (0 : Int32) (0 : Int32) (0 : Int32) hp
noncomputable def t_X5_inBlock_0 (σ : sg_S) (x0 : Int32) (x1 : Int32) (x2 : Int32) : sg_S := (r_X5_ofBlock (s_X5_goesOn (sg_up σ 35 0 (0 : Int32))) x0 x1 x2).2
noncomputable def r_X5_inBlock (σ : sg_S) (x0 : Int32) (x1 : Int32) (x2 : Int32) : Int32 × sg_S := (if (v_X5_isInnings x0) = 0 then ((-1 : Int32), (sg_up σ 35 0 (0 : Int32))) else (if (v_X5_in x1 (0 : Int32) (2 : Int32)) = 0 then ((-1 : Int32), (sg_up σ 35 0 (0 : Int32))) else (if ¬ (v_X5_in x2 (0 : Int32) (2 : Int32)) = 0 then ((r_X5_ofBlock (s_X5_goesOn (sg_up σ 35 0 (0 : Int32))) x0 x1 x2).1, (t_X5_inBlock_0 σ x0 x1 x2)) else ((-1 : Int32), (sg_up σ 35 0 (0 : Int32))))))
noncomputable def p_X5_inBlock (σ : sg_S) (x0 : Int32) (x1 : Int32) (x2 : Int32) : Prop := (¬ ((v_X5_isInnings x0) = 0) → (¬ ((v_X5_in x1 (0 : Int32) (2 : Int32)) = 0) → (¬ (v_X5_in x2 (0 : Int32) (2 : Int32)) = 0 → (p_X5_goesOn (sg_up σ 35 0 (0 : Int32)) ∧ p_X5_ofBlock (s_X5_goesOn (sg_up σ 35 0 (0 : Int32))) x0 x1 x2))))
theorem m_X5_inBlock {s : List Int32} {σ : sg_S} (x0 : Int32) (x1 : Int32) (x2 : Int32) (hp : p_X5_inBlock σ x0 x1 x2) : Ct s 176 [rf 35, .inl x0, .inl x1, .inl x2] σ [.inl (r_X5_inBlock σ x0 x1 x2).1] (r_X5_inBlock σ x0 x1 x2).2 := by
  refine ct_v (la := [some (rf 35), some (.inl x0), some (.inl x1), some (.inl x2)]) Kq_35 rfl rfl rfl rfl rfl rfl rfl (cgR ?_)
  unfold r_X5_inBlock
  unfold p_X5_inBlock at hp
  refine rt_lna rfl rfl ?_
  refine rt_k1 rfl ck1_0 ?_
  refine rt_pf (σ1 := (sg_up σ 35 0 (0 : Int32))) rfl Kq_35 (by decide) rfl rfl rfl ?_
  refine rt_ln rfl rfl ?_
  refine rt_is (σ1 := (sg_up σ 35 0 (0 : Int32))) rfl rfl rfl (m_X5_isInnings x0) ?_
  show RtF bk fR s 176 9 [some (rf 35), some (.inl x0), some (.inl x1), some (.inl x2)] [.inl (v_X5_isInnings x0)] (sg_up σ 35 0 (0 : Int32)) _
  refine rt_if rfl rfl (fun h => ?_) (fun h => ?_)
  · refine rt_k1 rfl ck1_m1 ?_
    exact rt_eR rfl
  · replace hp := hp h
    refine rt_ln rfl rfl ?_
    refine rt_k1 rfl ck1_0 ?_
    refine rt_k1 rfl ck1_2 ?_
    refine rt_is (σ1 := (sg_up σ 35 0 (0 : Int32))) rfl rfl rfl (m_X5_in x1 (0 : Int32) (2 : Int32)) ?_
    show RtF bk fR s 176 18 [some (rf 35), some (.inl x0), some (.inl x1), some (.inl x2)] [.inl (v_X5_in x1 (0 : Int32) (2 : Int32))] (sg_up σ 35 0 (0 : Int32)) _
    refine rt_if rfl rfl (fun h => ?_) (fun h => ?_)
    · refine rt_k1 rfl ck1_m1 ?_
      exact rt_eR rfl
    · replace hp := hp h
      refine rt_ln rfl rfl ?_
      refine rt_k1 rfl ck1_0 ?_
      refine rt_k1 rfl ck1_2 ?_
      refine rt_is (σ1 := (sg_up σ 35 0 (0 : Int32))) rfl rfl rfl (m_X5_in x2 (0 : Int32) (2 : Int32)) ?_
      show RtF bk fR s 176 27 [some (rf 35), some (.inl x0), some (.inl x1), some (.inl x2)] [.inl (v_X5_in x2 (0 : Int32) (2 : Int32))] (sg_up σ 35 0 (0 : Int32)) _
      refine rt_if rfl rfl (fun h => ?_) (fun h => ?_)
      · replace hp := hp h
        refine rt_lna rfl rfl ?_
        refine rt_iv (σ1 := (s_X5_goesOn (sg_up σ 35 0 (0 : Int32)))) rfl rfl rfl (m_X5_goesOn hp.1) ?_
        show RtF bk fR s 176 36 [some (rf 35), some (.inl x0), some (.inl x1), some (.inl x2)] [] (s_X5_goesOn (sg_up σ 35 0 (0 : Int32))) _
        replace hp := hp.2
        refine rt_lna rfl rfl ?_
        refine rt_ln rfl rfl ?_
        refine rt_ln rfl rfl ?_
        refine rt_ln rfl rfl ?_
        refine rt_iv (σ1 := (t_X5_inBlock_0 σ x0 x1 x2)) rfl rfl rfl (m_X5_ofBlock x0 x1 x2 hp) ?_
        show RtF bk fR s 176 43 [some (rf 35), some (.inl x0), some (.inl x1), some (.inl x2)] [.inl (r_X5_ofBlock (s_X5_goesOn (sg_up σ 35 0 (0 : Int32))) x0 x1 x2).1] (t_X5_inBlock_0 σ x0 x1 x2) _
        exact rt_eR rfl
      · refine rt_k1 rfl ck1_m1 ?_
        exact rt_eR rfl
noncomputable def v_X5_standOf (σ : sg_S) (x0 : Int32) (x1 : Int32) : Int32 := (if ¬ x1 = 0 then ((σ 51 (ni (((10 : Int32) * x0) + x1))) - (σ 51 (ni ((((10 : Int32) * x0) + x1) - (1 : Int32))))) else ((σ 51 (ni (((10 : Int32) * x0) + x1))) - (0 : Int32)))
noncomputable def p_X5_standOf (x0 : Int32) (x1 : Int32) : Prop := (ix (((10 : Int32) * x0) + x1) 20 ∧ (¬ x1 = 0 → ix ((((10 : Int32) * x0) + x1) - (1 : Int32)) 20))
theorem m_X5_standOf {s : List Int32} {σ : sg_S} (x0 : Int32) (x1 : Int32) (hp : p_X5_standOf x0 x1) : Ct s 177 [rf 35, .inl x0, .inl x1] σ [.inl (v_X5_standOf σ x0 x1)] σ := by
  refine ct_v (la := [some (rf 35), some (.inl x0), some (.inl x1)]) Kq_35 rfl rfl rfl rfl rfl rfl rfl (cgV ?_)
  unfold v_X5_standOf
  unfold p_X5_standOf at hp
  refine rt_lna rfl rfl ?_
  refine rt_gfr rfl Kq_35 (by decide) rfl ?_
  refine rt_k2 rfl ck2_10 ?_
  refine rt_ln rfl rfl ?_
  refine rt_mul rfl ?_
  refine rt_ln rfl rfl ?_
  refine rt_add rfl ?_
  refine rt_al rfl Kq_51 hp.1 rfl ?_
  replace hp := hp.2
  refine rt_ln rfl rfl ?_
  refine rt_if rfl rfl (fun h => ?_) (fun h => ?_)
  · replace hp := hp h
    refine rt_lna rfl rfl ?_
    refine rt_gfr rfl Kq_35 (by decide) rfl ?_
    refine rt_k2 rfl ck2_10 ?_
    refine rt_ln rfl rfl ?_
    refine rt_mul rfl ?_
    refine rt_ln rfl rfl ?_
    refine rt_add rfl ?_
    refine rt_k1 rfl ck1_1 ?_
    refine rt_sub rfl ?_
    refine rt_al rfl Kq_51 hp rfl ?_
    refine rt_sub rfl ?_
    exact rt_eV rfl
  · refine rt_k1 rfl ck1_0 ?_
    refine rt_go rfl ?_
    refine rt_sub rfl ?_
    exact rt_eV rfl
noncomputable def v_X5_lastOf (σ : sg_S) (x0 : Int32) : Int32 := (if ¬ (σ 42 (ni x0)) = (10 : Int32) then (if ¬ (σ 42 (ni x0)) = 0 then ((σ 41 (ni x0)) - (σ 51 (ni ((((10 : Int32) * x0) + (σ 42 (ni x0))) - (1 : Int32))))) else ((σ 41 (ni x0)) - (0 : Int32))) else (-1 : Int32))
noncomputable def p_X5_lastOf (σ : sg_S) (x0 : Int32) : Prop := (ix x0 2 ∧ (¬ (σ 42 (ni x0)) = (10 : Int32) → (ix x0 2 ∧ (ix x0 2 ∧ (¬ (σ 42 (ni x0)) = 0 → (ix x0 2 ∧ ix ((((10 : Int32) * x0) + (σ 42 (ni x0))) - (1 : Int32)) 20))))))
theorem m_X5_lastOf {s : List Int32} {σ : sg_S} (x0 : Int32) (hp : p_X5_lastOf σ x0) : Ct s 178 [rf 35, .inl x0] σ [.inl (v_X5_lastOf σ x0)] σ := by
  refine ct_v (la := [some (rf 35), some (.inl x0)]) Kq_35 rfl rfl rfl rfl rfl rfl rfl (cgV ?_)
  unfold v_X5_lastOf
  unfold p_X5_lastOf at hp
  refine rt_lna rfl rfl ?_
  refine rt_gfr rfl Kq_35 (by decide) rfl ?_
  refine rt_ln rfl rfl ?_
  refine rt_al rfl Kq_42 hp.1 rfl ?_
  replace hp := hp.2
  refine rt_k2 rfl ck2_10 ?_
  refine rt_ic rfl rfl (fun h => ?_) (fun h => ?_)
  · replace hp := hp h
    refine rt_lna rfl rfl ?_
    refine rt_gfr rfl Kq_35 (by decide) rfl ?_
    refine rt_ln rfl rfl ?_
    refine rt_al rfl Kq_41 hp.1 rfl ?_
    replace hp := hp.2
    refine rt_lna rfl rfl ?_
    refine rt_gfr rfl Kq_35 (by decide) rfl ?_
    refine rt_ln rfl rfl ?_
    refine rt_al rfl Kq_42 hp.1 rfl ?_
    replace hp := hp.2
    refine rt_if rfl rfl (fun h => ?_) (fun h => ?_)
    · replace hp := hp h
      refine rt_lna rfl rfl ?_
      refine rt_gfr rfl Kq_35 (by decide) rfl ?_
      refine rt_k2 rfl ck2_10 ?_
      refine rt_ln rfl rfl ?_
      refine rt_mul rfl ?_
      refine rt_lna rfl rfl ?_
      refine rt_gfr rfl Kq_35 (by decide) rfl ?_
      refine rt_ln rfl rfl ?_
      refine rt_al rfl Kq_42 hp.1 rfl ?_
      replace hp := hp.2
      refine rt_add rfl ?_
      refine rt_k1 rfl ck1_1 ?_
      refine rt_sub rfl ?_
      refine rt_al rfl Kq_51 hp rfl ?_
      refine rt_sub rfl ?_
      exact rt_eV rfl
    · refine rt_k1 rfl ck1_0 ?_
      refine rt_go rfl ?_
      refine rt_sub rfl ?_
      exact rt_eV rfl
  · refine rt_k1 rfl ck1_m1 ?_
    refine rt_go rfl ?_
    exact rt_eV rfl
noncomputable def r_X5_fall (σ : sg_S) (x0 : Int32) (x1 : Int32) (x2 : Int32) : Int32 × sg_S := (if (v_X5_isInnings x0) = 0 then ((-1 : Int32), (s_X5_goesOn (sg_up σ 35 0 (0 : Int32)))) else (if (v_X5_in x1 (0 : Int32) (((s_X5_goesOn (sg_up σ 35 0 (0 : Int32))) 42 (ni x0)) - (1 : Int32))) = 0 then ((-1 : Int32), (s_X5_goesOn (sg_up σ 35 0 (0 : Int32)))) else (if ¬ (v_X5_in x2 (0 : Int32) (2 : Int32)) = 0 then (if ¬ x2 = 0 then (if ¬ x2 = (1 : Int32) then ((v_X5_standOf (s_X5_goesOn (sg_up σ 35 0 (0 : Int32))) x0 x1), (s_X5_goesOn (sg_up σ 35 0 (0 : Int32)))) else (((s_X5_goesOn (sg_up σ 35 0 (0 : Int32))) 52 (ni (((10 : Int32) * x0) + x1))), (s_X5_goesOn (sg_up σ 35 0 (0 : Int32))))) else (((s_X5_goesOn (sg_up σ 35 0 (0 : Int32))) 51 (ni (((10 : Int32) * x0) + x1))), (s_X5_goesOn (sg_up σ 35 0 (0 : Int32))))) else ((-1 : Int32), (s_X5_goesOn (sg_up σ 35 0 (0 : Int32)))))))
noncomputable def p_X5_fall (σ : sg_S) (x0 : Int32) (x1 : Int32) (x2 : Int32) : Prop := (p_X5_goesOn (sg_up σ 35 0 (0 : Int32)) ∧ (¬ ((v_X5_isInnings x0) = 0) → (ix x0 2 ∧ (¬ ((v_X5_in x1 (0 : Int32) (((s_X5_goesOn (sg_up σ 35 0 (0 : Int32))) 42 (ni x0)) - (1 : Int32))) = 0) → (¬ (v_X5_in x2 (0 : Int32) (2 : Int32)) = 0 → ((¬ x2 = 0 → ((¬ x2 = (1 : Int32) → p_X5_standOf x0 x1) ∧ (¬ (¬ x2 = (1 : Int32)) → ix (((10 : Int32) * x0) + x1) 20))) ∧ (¬ (¬ x2 = 0) → ix (((10 : Int32) * x0) + x1) 20)))))))
theorem m_X5_fall {s : List Int32} {σ : sg_S} (x0 : Int32) (x1 : Int32) (x2 : Int32) (hp : p_X5_fall σ x0 x1 x2) : Ct s 179 [rf 35, .inl x0, .inl x1, .inl x2] σ [.inl (r_X5_fall σ x0 x1 x2).1] (r_X5_fall σ x0 x1 x2).2 := by
  refine ct_v (la := [some (rf 35), some (.inl x0), some (.inl x1), some (.inl x2)]) Kq_35 rfl rfl rfl rfl rfl rfl rfl (cgR ?_)
  unfold r_X5_fall
  unfold p_X5_fall at hp
  refine rt_lna rfl rfl ?_
  refine rt_k1 rfl ck1_0 ?_
  refine rt_pf (σ1 := (sg_up σ 35 0 (0 : Int32))) rfl Kq_35 (by decide) rfl rfl rfl ?_
  refine rt_lna rfl rfl ?_
  refine rt_iv (σ1 := (s_X5_goesOn (sg_up σ 35 0 (0 : Int32)))) rfl rfl rfl (m_X5_goesOn hp.1) ?_
  show RtF bk fR s 179 9 [some (rf 35), some (.inl x0), some (.inl x1), some (.inl x2)] [] (s_X5_goesOn (sg_up σ 35 0 (0 : Int32))) _
  replace hp := hp.2
  refine rt_ln rfl rfl ?_
  refine rt_is (σ1 := (s_X5_goesOn (sg_up σ 35 0 (0 : Int32)))) rfl rfl rfl (m_X5_isInnings x0) ?_
  show RtF bk fR s 179 13 [some (rf 35), some (.inl x0), some (.inl x1), some (.inl x2)] [.inl (v_X5_isInnings x0)] (s_X5_goesOn (sg_up σ 35 0 (0 : Int32))) _
  refine rt_if rfl rfl (fun h => ?_) (fun h => ?_)
  · refine rt_k1 rfl ck1_m1 ?_
    exact rt_eR rfl
  · replace hp := hp h
    refine rt_ln rfl rfl ?_
    refine rt_k1 rfl ck1_0 ?_
    refine rt_lna rfl rfl ?_
    refine rt_gfr rfl Kq_35 (by decide) rfl ?_
    refine rt_ln rfl rfl ?_
    refine rt_al rfl Kq_42 hp.1 rfl ?_
    replace hp := hp.2
    refine rt_k1 rfl ck1_1 ?_
    refine rt_sub rfl ?_
    refine rt_is (σ1 := (s_X5_goesOn (sg_up σ 35 0 (0 : Int32)))) rfl rfl rfl (m_X5_in x1 (0 : Int32) (((s_X5_goesOn (sg_up σ 35 0 (0 : Int32))) 42 (ni x0)) - (1 : Int32))) ?_
    show RtF bk fR s 179 29 [some (rf 35), some (.inl x0), some (.inl x1), some (.inl x2)] [.inl (v_X5_in x1 (0 : Int32) (((s_X5_goesOn (sg_up σ 35 0 (0 : Int32))) 42 (ni x0)) - (1 : Int32)))] (s_X5_goesOn (sg_up σ 35 0 (0 : Int32))) _
    refine rt_if rfl rfl (fun h => ?_) (fun h => ?_)
    · refine rt_k1 rfl ck1_m1 ?_
      exact rt_eR rfl
    · replace hp := hp h
      refine rt_ln rfl rfl ?_
      refine rt_k1 rfl ck1_0 ?_
      refine rt_k1 rfl ck1_2 ?_
      refine rt_is (σ1 := (s_X5_goesOn (sg_up σ 35 0 (0 : Int32)))) rfl rfl rfl (m_X5_in x2 (0 : Int32) (2 : Int32)) ?_
      show RtF bk fR s 179 38 [some (rf 35), some (.inl x0), some (.inl x1), some (.inl x2)] [.inl (v_X5_in x2 (0 : Int32) (2 : Int32))] (s_X5_goesOn (sg_up σ 35 0 (0 : Int32))) _
      refine rt_if rfl rfl (fun h => ?_) (fun h => ?_)
      · replace hp := hp h
        refine rt_ln rfl rfl ?_
        refine rt_if rfl rfl (fun h => ?_) (fun h => ?_)
        · replace hp := hp.1 h
          refine rt_ln rfl rfl ?_
          refine rt_k1 rfl ck1_1 ?_
          refine rt_ic rfl rfl (fun h => ?_) (fun h => ?_)
          · replace hp := hp.1 h
            refine rt_lna rfl rfl ?_
            refine rt_ln rfl rfl ?_
            refine rt_ln rfl rfl ?_
            refine rt_iv (σ1 := (s_X5_goesOn (sg_up σ 35 0 (0 : Int32)))) rfl rfl rfl (m_X5_standOf x0 x1 hp) ?_
            show RtF bk fR s 179 86 [some (rf 35), some (.inl x0), some (.inl x1), some (.inl x2)] [.inl (v_X5_standOf (s_X5_goesOn (sg_up σ 35 0 (0 : Int32))) x0 x1)] (s_X5_goesOn (sg_up σ 35 0 (0 : Int32))) _
            exact rt_eR rfl
          · replace hp := hp.2 h
            refine rt_lna rfl rfl ?_
            refine rt_gfr rfl Kq_35 (by decide) rfl ?_
            refine rt_k2 rfl ck2_10 ?_
            refine rt_ln rfl rfl ?_
            refine rt_mul rfl ?_
            refine rt_ln rfl rfl ?_
            refine rt_add rfl ?_
            refine rt_al rfl Kq_52 hp rfl ?_
            refine rt_go rfl ?_
            exact rt_eR rfl
        · replace hp := hp.2 h
          refine rt_lna rfl rfl ?_
          refine rt_gfr rfl Kq_35 (by decide) rfl ?_
          refine rt_k2 rfl ck2_10 ?_
          refine rt_ln rfl rfl ?_
          refine rt_mul rfl ?_
          refine rt_ln rfl rfl ?_
          refine rt_add rfl ?_
          refine rt_al rfl Kq_51 hp rfl ?_
          refine rt_go rfl ?_
          exact rt_eR rfl
      · refine rt_k1 rfl ck1_m1 ?_
        exact rt_eR rfl
noncomputable def r_X5_lastStand (σ : sg_S) (x0 : Int32) : Int32 × sg_S := (if (v_X5_isInnings x0) = 0 then ((-1 : Int32), (s_X5_goesOn (sg_up σ 35 0 (0 : Int32)))) else ((v_X5_lastOf (s_X5_goesOn (sg_up σ 35 0 (0 : Int32))) x0), (s_X5_goesOn (sg_up σ 35 0 (0 : Int32)))))
noncomputable def p_X5_lastStand (σ : sg_S) (x0 : Int32) : Prop := (p_X5_goesOn (sg_up σ 35 0 (0 : Int32)) ∧ (¬ ((v_X5_isInnings x0) = 0) → p_X5_lastOf (s_X5_goesOn (sg_up σ 35 0 (0 : Int32))) x0))
theorem m_X5_lastStand {s : List Int32} {σ : sg_S} (x0 : Int32) (hp : p_X5_lastStand σ x0) : Ct s 180 [rf 35, .inl x0] σ [.inl (r_X5_lastStand σ x0).1] (r_X5_lastStand σ x0).2 := by
  refine ct_v (la := [some (rf 35), some (.inl x0)]) Kq_35 rfl rfl rfl rfl rfl rfl rfl (cgR ?_)
  unfold r_X5_lastStand
  unfold p_X5_lastStand at hp
  refine rt_lna rfl rfl ?_
  refine rt_k1 rfl ck1_0 ?_
  refine rt_pf (σ1 := (sg_up σ 35 0 (0 : Int32))) rfl Kq_35 (by decide) rfl rfl rfl ?_
  refine rt_lna rfl rfl ?_
  refine rt_iv (σ1 := (s_X5_goesOn (sg_up σ 35 0 (0 : Int32)))) rfl rfl rfl (m_X5_goesOn hp.1) ?_
  show RtF bk fR s 180 9 [some (rf 35), some (.inl x0)] [] (s_X5_goesOn (sg_up σ 35 0 (0 : Int32))) _
  replace hp := hp.2
  refine rt_ln rfl rfl ?_
  refine rt_is (σ1 := (s_X5_goesOn (sg_up σ 35 0 (0 : Int32)))) rfl rfl rfl (m_X5_isInnings x0) ?_
  show RtF bk fR s 180 13 [some (rf 35), some (.inl x0)] [.inl (v_X5_isInnings x0)] (s_X5_goesOn (sg_up σ 35 0 (0 : Int32))) _
  refine rt_if rfl rfl (fun h => ?_) (fun h => ?_)
  · refine rt_k1 rfl ck1_m1 ?_
    exact rt_eR rfl
  · replace hp := hp h
    refine rt_lna rfl rfl ?_
    refine rt_ln rfl rfl ?_
    refine rt_iv (σ1 := (s_X5_goesOn (sg_up σ 35 0 (0 : Int32)))) rfl rfl rfl (m_X5_lastOf x0 hp) ?_
    show RtF bk fR s 180 21 [some (rf 35), some (.inl x0)] [.inl (v_X5_lastOf (s_X5_goesOn (sg_up σ 35 0 (0 : Int32))) x0)] (s_X5_goesOn (sg_up σ 35 0 (0 : Int32))) _
    refine rt_go rfl ?_
    exact rt_eR rfl
noncomputable def r_X5_bestStand_b26 (k26 : sg_S → Int32 → Int32 → Int32 → Int32 × sg_S) (σ : sg_S) (x1_ : Int32) (x2_ : Int32) (x3_ : Int32) : Int32 × sg_S := (if (σ 42 (ni x1_)) ≤ x3_ then (x2_, σ) else (if (v_X5_standOf σ x1_ x3_) ≤ x2_ then (k26 σ x1_ x2_ (x3_ + (1 : Int32))) else (k26 σ x1_ (v_X5_standOf σ x1_ x3_) (x3_ + (1 : Int32)))))
noncomputable def p_X5_bestStand_b26 (kp26 : sg_S → Int32 → Int32 → Int32 → Prop) (σ : sg_S) (x1_ : Int32) (x2_ : Int32) (x3_ : Int32) : Prop := (ix x1_ 2 ∧ (¬ ((σ 42 (ni x1_)) ≤ x3_) → (p_X5_standOf x1_ x3_ ∧ (((v_X5_standOf σ x1_ x3_) ≤ x2_ → (kp26 σ x1_ x2_ (x3_ + (1 : Int32)))) ∧ (¬ ((v_X5_standOf σ x1_ x3_) ≤ x2_) → (p_X5_standOf x1_ x3_ ∧ (kp26 σ x1_ (v_X5_standOf σ x1_ x3_) (x3_ + (1 : Int32)))))))))
theorem m_X5_bestStand_b26 {s : List Int32} (k26 : sg_S → Int32 → Int32 → Int32 → Int32 × sg_S) (kp26 : sg_S → Int32 → Int32 → Int32 → Prop) (hk26 : ∀ (σ : sg_S) (x1_ : Int32) (x2_ : Int32) (x3_ : Int32), kp26 σ x1_ x2_ x3_ → RtF bk fR s 181 26 [some (rf 35), some (.inl x1_), some (.inl x2_), some (.inl x3_)] [] σ (k26 σ x1_ x2_ x3_)) (σ : sg_S) (x1_ : Int32) (x2_ : Int32) (x3_ : Int32) (hp : p_X5_bestStand_b26 kp26 σ x1_ x2_ x3_) : RtF bk fR s 181 26 [some (rf 35), some (.inl x1_), some (.inl x2_), some (.inl x3_)] [] σ (r_X5_bestStand_b26 k26 σ x1_ x2_ x3_) := by
  unfold r_X5_bestStand_b26
  unfold p_X5_bestStand_b26 at hp
  refine rt_ln rfl rfl ?_
  refine rt_lna rfl rfl ?_
  refine rt_gfr rfl Kq_35 (by decide) rfl ?_
  refine rt_ln rfl rfl ?_
  refine rt_al rfl Kq_42 hp.1 rfl ?_
  replace hp := hp.2
  refine rt_ic rfl rfl (fun h => ?_) (fun h => ?_)
  · refine rt_ln rfl rfl ?_
    exact rt_eR rfl
  · replace hp := hp h
    refine rt_lna rfl rfl ?_
    refine rt_ln rfl rfl ?_
    refine rt_ln rfl rfl ?_
    refine rt_iv (σ1 := σ) rfl rfl rfl (m_X5_standOf x1_ x3_ hp.1) ?_
    show RtF bk fR s 181 42 [some (rf 35), some (.inl x1_), some (.inl x2_), some (.inl x3_)] [.inl (v_X5_standOf σ x1_ x3_)] σ _
    replace hp := hp.2
    refine rt_ln rfl rfl ?_
    refine rt_ic rfl rfl (fun h => ?_) (fun h => ?_)
    · replace hp := hp.1 h
      refine rt_ln rfl rfl ?_
      refine rt_sn (la1 := [some (rf 35), some (.inl x1_), some (.inl x2_), some (.inl x3_)]) rfl rfl rfl ?_
      refine rt_inc (la1 := [some (rf 35), some (.inl x1_), some (.inl x2_), some (.inl (x3_ + (1 : Int32)))]) rfl rfl ck1_1 rfl ?_
      refine rt_go rfl ?_
      exact hk26 σ x1_ x2_ (x3_ + (1 : Int32)) hp
    · replace hp := hp.2 h
      refine rt_lna rfl rfl ?_
      refine rt_ln rfl rfl ?_
      refine rt_ln rfl rfl ?_
      refine rt_iv (σ1 := σ) rfl rfl rfl (m_X5_standOf x1_ x3_ hp.1) ?_
      show RtF bk fR s 181 52 [some (rf 35), some (.inl x1_), some (.inl x2_), some (.inl x3_)] [.inl (v_X5_standOf σ x1_ x3_)] σ _
      replace hp := hp.2
      refine rt_go rfl ?_
      refine rt_sn (la1 := [some (rf 35), some (.inl x1_), some (.inl (v_X5_standOf σ x1_ x3_)), some (.inl x3_)]) rfl rfl rfl ?_
      refine rt_inc (la1 := [some (rf 35), some (.inl x1_), some (.inl (v_X5_standOf σ x1_ x3_)), some (.inl (x3_ + (1 : Int32)))]) rfl rfl ck1_1 rfl ?_
      refine rt_go rfl ?_
      exact hk26 σ x1_ (v_X5_standOf σ x1_ x3_) (x3_ + (1 : Int32)) hp
noncomputable def r_X5_bestStand_l26 (n : Nat) : sg_S → Int32 → Int32 → Int32 → Int32 × sg_S := Nat.rec (motive := fun _ => sg_S → Int32 → Int32 → Int32 → Int32 × sg_S) (fun σ _ _ _ => (0, σ)) (fun _ ih => r_X5_bestStand_b26 ih) n
noncomputable def p_X5_bestStand_l26 (n : Nat) : sg_S → Int32 → Int32 → Int32 → Prop := Nat.rec (motive := fun _ => sg_S → Int32 → Int32 → Int32 → Prop) (fun _ _ _ _ => False) (fun _ ih => p_X5_bestStand_b26 ih) n
theorem m_X5_bestStand_l26 {s : List Int32} : ∀ (n : Nat), ∀ (σ : sg_S) (x1_ : Int32) (x2_ : Int32) (x3_ : Int32), p_X5_bestStand_l26 n σ x1_ x2_ x3_ → RtF bk fR s 181 26 [some (rf 35), some (.inl x1_), some (.inl x2_), some (.inl x3_)] [] σ (r_X5_bestStand_l26 n σ x1_ x2_ x3_) := by
  intro n
  induction n with
  | zero =>
    intro σ x1_ x2_ x3_ hp
    exact hp.elim
  | succ n ih =>
    intro σ x1_ x2_ x3_ hp
    exact m_X5_bestStand_b26 (r_X5_bestStand_l26 n) (p_X5_bestStand_l26 n) ih σ x1_ x2_ x3_ hp
noncomputable def r_X5_bestStand (σ : sg_S) (x0 : Int32) : Int32 × sg_S := (if ¬ (v_X5_isInnings x0) = 0 then (r_X5_bestStand_l26 600 (s_X5_goesOn (sg_up σ 35 0 (0 : Int32))) x0 (v_X5_lastOf (s_X5_goesOn (sg_up σ 35 0 (0 : Int32))) x0) (0 : Int32)) else ((-1 : Int32), (sg_up σ 35 0 (0 : Int32))))
noncomputable def p_X5_bestStand (σ : sg_S) (x0 : Int32) : Prop := (¬ (v_X5_isInnings x0) = 0 → (p_X5_goesOn (sg_up σ 35 0 (0 : Int32)) ∧ (p_X5_lastOf (s_X5_goesOn (sg_up σ 35 0 (0 : Int32))) x0 ∧ (p_X5_bestStand_l26 600 (s_X5_goesOn (sg_up σ 35 0 (0 : Int32))) x0 (v_X5_lastOf (s_X5_goesOn (sg_up σ 35 0 (0 : Int32))) x0) (0 : Int32)))))
theorem m_X5_bestStand {s : List Int32} {σ : sg_S} (x0 : Int32) (hp : p_X5_bestStand σ x0) : Ct s 181 [rf 35, .inl x0] σ [.inl (r_X5_bestStand σ x0).1] (r_X5_bestStand σ x0).2 := by
  refine ct_v (la := [some (rf 35), some (.inl x0), none, none]) Kq_35 rfl rfl rfl rfl rfl rfl rfl (cgR ?_)
  unfold r_X5_bestStand
  unfold p_X5_bestStand at hp
  refine rt_lna rfl rfl ?_
  refine rt_k1 rfl ck1_0 ?_
  refine rt_pf (σ1 := (sg_up σ 35 0 (0 : Int32))) rfl Kq_35 (by decide) rfl rfl rfl ?_
  refine rt_ln rfl rfl ?_
  refine rt_is (σ1 := (sg_up σ 35 0 (0 : Int32))) rfl rfl rfl (m_X5_isInnings x0) ?_
  show RtF bk fR s 181 9 [some (rf 35), some (.inl x0), none, none] [.inl (v_X5_isInnings x0)] (sg_up σ 35 0 (0 : Int32)) _
  refine rt_if rfl rfl (fun h => ?_) (fun h => ?_)
  · replace hp := hp h
    refine rt_lna rfl rfl ?_
    refine rt_iv (σ1 := (s_X5_goesOn (sg_up σ 35 0 (0 : Int32)))) rfl rfl rfl (m_X5_goesOn hp.1) ?_
    show RtF bk fR s 181 18 [some (rf 35), some (.inl x0), none, none] [] (s_X5_goesOn (sg_up σ 35 0 (0 : Int32))) _
    replace hp := hp.2
    refine rt_lna rfl rfl ?_
    refine rt_ln rfl rfl ?_
    refine rt_iv (σ1 := (s_X5_goesOn (sg_up σ 35 0 (0 : Int32)))) rfl rfl rfl (m_X5_lastOf x0 hp.1) ?_
    show RtF bk fR s 181 23 [some (rf 35), some (.inl x0), none, none] [.inl (v_X5_lastOf (s_X5_goesOn (sg_up σ 35 0 (0 : Int32))) x0)] (s_X5_goesOn (sg_up σ 35 0 (0 : Int32))) _
    replace hp := hp.2
    refine rt_sn (la1 := [some (rf 35), some (.inl x0), some (.inl (v_X5_lastOf (s_X5_goesOn (sg_up σ 35 0 (0 : Int32))) x0)), none]) rfl rfl rfl ?_
    refine rt_k1 rfl ck1_0 ?_
    refine rt_sn (la1 := [some (rf 35), some (.inl x0), some (.inl (v_X5_lastOf (s_X5_goesOn (sg_up σ 35 0 (0 : Int32))) x0)), some (.inl (0 : Int32))]) rfl rfl rfl ?_
    exact m_X5_bestStand_l26 600 (s_X5_goesOn (sg_up σ 35 0 (0 : Int32))) x0 (v_X5_lastOf (s_X5_goesOn (sg_up σ 35 0 (0 : Int32))) x0) (0 : Int32) hp
  · refine rt_k1 rfl ck1_m1 ?_
    exact rt_eR rfl
noncomputable def r_X5_made (σ : sg_S) (x0 : Int32) (x1 : Int32) : Int32 × sg_S := (if (v_X5_isInnings x0) = 0 then ((-1 : Int32), (s_X5_goesOn (sg_up σ 35 0 (0 : Int32)))) else (if (v_X5_in x1 (0 : Int32) (6 : Int32)) = 0 then ((-1 : Int32), (s_X5_goesOn (sg_up σ 35 0 (0 : Int32)))) else (((s_X5_goesOn (sg_up σ 35 0 (0 : Int32))) 56 (ni (((7 : Int32) * x0) + x1))), (s_X5_goesOn (sg_up σ 35 0 (0 : Int32))))))
noncomputable def p_X5_made (σ : sg_S) (x0 : Int32) (x1 : Int32) : Prop := (p_X5_goesOn (sg_up σ 35 0 (0 : Int32)) ∧ (¬ ((v_X5_isInnings x0) = 0) → (¬ ((v_X5_in x1 (0 : Int32) (6 : Int32)) = 0) → ix (((7 : Int32) * x0) + x1) 14)))
theorem m_X5_made {s : List Int32} {σ : sg_S} (x0 : Int32) (x1 : Int32) (hp : p_X5_made σ x0 x1) : Ct s 182 [rf 35, .inl x0, .inl x1] σ [.inl (r_X5_made σ x0 x1).1] (r_X5_made σ x0 x1).2 := by
  refine ct_v (la := [some (rf 35), some (.inl x0), some (.inl x1)]) Kq_35 rfl rfl rfl rfl rfl rfl rfl (cgR ?_)
  unfold r_X5_made
  unfold p_X5_made at hp
  refine rt_lna rfl rfl ?_
  refine rt_k1 rfl ck1_0 ?_
  refine rt_pf (σ1 := (sg_up σ 35 0 (0 : Int32))) rfl Kq_35 (by decide) rfl rfl rfl ?_
  refine rt_lna rfl rfl ?_
  refine rt_iv (σ1 := (s_X5_goesOn (sg_up σ 35 0 (0 : Int32)))) rfl rfl rfl (m_X5_goesOn hp.1) ?_
  show RtF bk fR s 182 9 [some (rf 35), some (.inl x0), some (.inl x1)] [] (s_X5_goesOn (sg_up σ 35 0 (0 : Int32))) _
  replace hp := hp.2
  refine rt_ln rfl rfl ?_
  refine rt_is (σ1 := (s_X5_goesOn (sg_up σ 35 0 (0 : Int32)))) rfl rfl rfl (m_X5_isInnings x0) ?_
  show RtF bk fR s 182 13 [some (rf 35), some (.inl x0), some (.inl x1)] [.inl (v_X5_isInnings x0)] (s_X5_goesOn (sg_up σ 35 0 (0 : Int32))) _
  refine rt_if rfl rfl (fun h => ?_) (fun h => ?_)
  · refine rt_k1 rfl ck1_m1 ?_
    exact rt_eR rfl
  · replace hp := hp h
    refine rt_ln rfl rfl ?_
    refine rt_k1 rfl ck1_0 ?_
    refine rt_k2 rfl ck2_6 ?_
    refine rt_is (σ1 := (s_X5_goesOn (sg_up σ 35 0 (0 : Int32)))) rfl rfl rfl (m_X5_in x1 (0 : Int32) (6 : Int32)) ?_
    show RtF bk fR s 182 23 [some (rf 35), some (.inl x0), some (.inl x1)] [.inl (v_X5_in x1 (0 : Int32) (6 : Int32))] (s_X5_goesOn (sg_up σ 35 0 (0 : Int32))) _
    refine rt_if rfl rfl (fun h => ?_) (fun h => ?_)
    · refine rt_k1 rfl ck1_m1 ?_
      exact rt_eR rfl
    · replace hp := hp h
      refine rt_lna rfl rfl ?_
      refine rt_gfr rfl Kq_35 (by decide) rfl ?_
      refine rt_k2 rfl ck2_7 ?_
      refine rt_ln rfl rfl ?_
      refine rt_mul rfl ?_
      refine rt_ln rfl rfl ?_
      refine rt_add rfl ?_
      refine rt_al rfl Kq_56 hp rfl ?_
      refine rt_go rfl ?_
      exact rt_eR rfl
noncomputable def v_X5_bestOverOf_b4 (σ : sg_S) (k4 : Int32 → Int32 → Int32 → Int32) (x1_ : Int32) (x2_ : Int32) (x3_ : Int32) : Int32 := (if (20 : Int32) ≤ x3_ then x2_ else (if (σ 53 (ni (((20 : Int32) * x1_) + x3_))) ≤ (σ 53 (ni (((20 : Int32) * x1_) + x2_))) then (k4 x1_ x2_ (x3_ + (1 : Int32))) else (k4 x1_ x3_ (x3_ + (1 : Int32)))))
noncomputable def p_X5_bestOverOf_b4 (σ : sg_S) (kp4 : Int32 → Int32 → Int32 → Prop) (x1_ : Int32) (x2_ : Int32) (x3_ : Int32) : Prop := (¬ ((20 : Int32) ≤ x3_) → (ix (((20 : Int32) * x1_) + x3_) 40 ∧ (ix (((20 : Int32) * x1_) + x2_) 40 ∧ (((σ 53 (ni (((20 : Int32) * x1_) + x3_))) ≤ (σ 53 (ni (((20 : Int32) * x1_) + x2_))) → (kp4 x1_ x2_ (x3_ + (1 : Int32)))) ∧ (¬ ((σ 53 (ni (((20 : Int32) * x1_) + x3_))) ≤ (σ 53 (ni (((20 : Int32) * x1_) + x2_)))) → (kp4 x1_ x3_ (x3_ + (1 : Int32))))))))
theorem m_X5_bestOverOf_b4 {s : List Int32} {σ : sg_S} (k4 : Int32 → Int32 → Int32 → Int32) (kp4 : Int32 → Int32 → Int32 → Prop) (hk4 : ∀ (x1_ : Int32) (x2_ : Int32) (x3_ : Int32), kp4 x1_ x2_ x3_ → RtF bk (fV σ) s 183 4 [some (rf 35), some (.inl x1_), some (.inl x2_), some (.inl x3_)] [] σ (k4 x1_ x2_ x3_)) (x1_ : Int32) (x2_ : Int32) (x3_ : Int32) (hp : p_X5_bestOverOf_b4 σ kp4 x1_ x2_ x3_) : RtF bk (fV σ) s 183 4 [some (rf 35), some (.inl x1_), some (.inl x2_), some (.inl x3_)] [] σ (v_X5_bestOverOf_b4 σ k4 x1_ x2_ x3_) := by
  unfold v_X5_bestOverOf_b4
  unfold p_X5_bestOverOf_b4 at hp
  refine rt_ln rfl rfl ?_
  refine rt_k2 rfl ck2_20 ?_
  refine rt_ic rfl rfl (fun h => ?_) (fun h => ?_)
  · refine rt_ln rfl rfl ?_
    exact rt_eV rfl
  · replace hp := hp h
    refine rt_lna rfl rfl ?_
    refine rt_gfr rfl Kq_35 (by decide) rfl ?_
    refine rt_k2 rfl ck2_20 ?_
    refine rt_ln rfl rfl ?_
    refine rt_mul rfl ?_
    refine rt_ln rfl rfl ?_
    refine rt_add rfl ?_
    refine rt_al rfl Kq_53 hp.1 rfl ?_
    replace hp := hp.2
    refine rt_lna rfl rfl ?_
    refine rt_gfr rfl Kq_35 (by decide) rfl ?_
    refine rt_k2 rfl ck2_20 ?_
    refine rt_ln rfl rfl ?_
    refine rt_mul rfl ?_
    refine rt_ln rfl rfl ?_
    refine rt_add rfl ?_
    refine rt_al rfl Kq_53 hp.1 rfl ?_
    replace hp := hp.2
    refine rt_ic rfl rfl (fun h => ?_) (fun h => ?_)
    · replace hp := hp.1 h
      refine rt_ln rfl rfl ?_
      refine rt_sn (la1 := [some (rf 35), some (.inl x1_), some (.inl x2_), some (.inl x3_)]) rfl rfl rfl ?_
      refine rt_inc (la1 := [some (rf 35), some (.inl x1_), some (.inl x2_), some (.inl (x3_ + (1 : Int32)))]) rfl rfl ck1_1 rfl ?_
      refine rt_go rfl ?_
      exact hk4 x1_ x2_ (x3_ + (1 : Int32)) hp
    · replace hp := hp.2 h
      refine rt_ln rfl rfl ?_
      refine rt_go rfl ?_
      refine rt_sn (la1 := [some (rf 35), some (.inl x1_), some (.inl x3_), some (.inl x3_)]) rfl rfl rfl ?_
      refine rt_inc (la1 := [some (rf 35), some (.inl x1_), some (.inl x3_), some (.inl (x3_ + (1 : Int32)))]) rfl rfl ck1_1 rfl ?_
      refine rt_go rfl ?_
      exact hk4 x1_ x3_ (x3_ + (1 : Int32)) hp
noncomputable def v_X5_bestOverOf_l4 (σ : sg_S) (n : Nat) : Int32 → Int32 → Int32 → Int32 := Nat.rec (motive := fun _ => Int32 → Int32 → Int32 → Int32) (fun _ _ _ => 0) (fun _ ih => v_X5_bestOverOf_b4 σ ih) n
noncomputable def p_X5_bestOverOf_l4 (σ : sg_S) (n : Nat) : Int32 → Int32 → Int32 → Prop := Nat.rec (motive := fun _ => Int32 → Int32 → Int32 → Prop) (fun _ _ _ => False) (fun _ ih => p_X5_bestOverOf_b4 σ ih) n
theorem m_X5_bestOverOf_l4 {s : List Int32} {σ : sg_S} : ∀ (n : Nat), ∀ (x1_ : Int32) (x2_ : Int32) (x3_ : Int32), p_X5_bestOverOf_l4 σ n x1_ x2_ x3_ → RtF bk (fV σ) s 183 4 [some (rf 35), some (.inl x1_), some (.inl x2_), some (.inl x3_)] [] σ (v_X5_bestOverOf_l4 σ n x1_ x2_ x3_) := by
  intro n
  induction n with
  | zero =>
    intro x1_ x2_ x3_ hp
    exact hp.elim
  | succ n ih =>
    intro x1_ x2_ x3_ hp
    exact m_X5_bestOverOf_b4 (v_X5_bestOverOf_l4 σ n) (p_X5_bestOverOf_l4 σ n) ih x1_ x2_ x3_ hp
noncomputable def v_X5_bestOverOf (σ : sg_S) (x0 : Int32) : Int32 := (v_X5_bestOverOf_l4 σ 600 x0 (0 : Int32) (1 : Int32))
noncomputable def p_X5_bestOverOf (σ : sg_S) (x0 : Int32) : Prop := (p_X5_bestOverOf_l4 σ 600 x0 (0 : Int32) (1 : Int32))
theorem m_X5_bestOverOf {s : List Int32} {σ : sg_S} (x0 : Int32) (hp : p_X5_bestOverOf σ x0) : Ct s 183 [rf 35, .inl x0] σ [.inl (v_X5_bestOverOf σ x0)] σ := by
  refine ct_v (la := [some (rf 35), some (.inl x0), none, none]) Kq_35 rfl rfl rfl rfl rfl rfl rfl (cgV ?_)
  unfold v_X5_bestOverOf
  unfold p_X5_bestOverOf at hp
  refine rt_k1 rfl ck1_0 ?_
  refine rt_sn (la1 := [some (rf 35), some (.inl x0), some (.inl (0 : Int32)), none]) rfl rfl rfl ?_
  refine rt_k1 rfl ck1_1 ?_
  refine rt_sn (la1 := [some (rf 35), some (.inl x0), some (.inl (0 : Int32)), some (.inl (1 : Int32))]) rfl rfl rfl ?_
  exact m_X5_bestOverOf_l4 600 x0 (0 : Int32) (1 : Int32) hp
noncomputable def r_X5_bestOver (σ : sg_S) (x0 : Int32) : Int32 × sg_S := (if (v_X5_isInnings x0) = 0 then ((-1 : Int32), (s_X5_goesOn (sg_up σ 35 0 (0 : Int32)))) else (if ¬ ((s_X5_goesOn (sg_up σ 35 0 (0 : Int32))) 43 (ni x0)) = 0 then ((v_X5_bestOverOf (s_X5_goesOn (sg_up σ 35 0 (0 : Int32))) x0), (s_X5_goesOn (sg_up σ 35 0 (0 : Int32)))) else (if ¬ ((s_X5_goesOn (sg_up σ 35 0 (0 : Int32))) 41 (ni x0)) = 0 then ((v_X5_bestOverOf (s_X5_goesOn (sg_up σ 35 0 (0 : Int32))) x0), (s_X5_goesOn (sg_up σ 35 0 (0 : Int32)))) else ((-1 : Int32), (s_X5_goesOn (sg_up σ 35 0 (0 : Int32)))))))
noncomputable def p_X5_bestOver (σ : sg_S) (x0 : Int32) : Prop := (p_X5_goesOn (sg_up σ 35 0 (0 : Int32)) ∧ (¬ ((v_X5_isInnings x0) = 0) → (ix x0 2 ∧ ((¬ ((s_X5_goesOn (sg_up σ 35 0 (0 : Int32))) 43 (ni x0)) = 0 → p_X5_bestOverOf (s_X5_goesOn (sg_up σ 35 0 (0 : Int32))) x0) ∧ (¬ (¬ ((s_X5_goesOn (sg_up σ 35 0 (0 : Int32))) 43 (ni x0)) = 0) → (ix x0 2 ∧ (¬ ((s_X5_goesOn (sg_up σ 35 0 (0 : Int32))) 41 (ni x0)) = 0 → p_X5_bestOverOf (s_X5_goesOn (sg_up σ 35 0 (0 : Int32))) x0)))))))
theorem m_X5_bestOver {s : List Int32} {σ : sg_S} (x0 : Int32) (hp : p_X5_bestOver σ x0) : Ct s 184 [rf 35, .inl x0] σ [.inl (r_X5_bestOver σ x0).1] (r_X5_bestOver σ x0).2 := by
  refine ct_v (la := [some (rf 35), some (.inl x0)]) Kq_35 rfl rfl rfl rfl rfl rfl rfl (cgR ?_)
  unfold r_X5_bestOver
  unfold p_X5_bestOver at hp
  refine rt_lna rfl rfl ?_
  refine rt_k1 rfl ck1_0 ?_
  refine rt_pf (σ1 := (sg_up σ 35 0 (0 : Int32))) rfl Kq_35 (by decide) rfl rfl rfl ?_
  refine rt_lna rfl rfl ?_
  refine rt_iv (σ1 := (s_X5_goesOn (sg_up σ 35 0 (0 : Int32)))) rfl rfl rfl (m_X5_goesOn hp.1) ?_
  show RtF bk fR s 184 9 [some (rf 35), some (.inl x0)] [] (s_X5_goesOn (sg_up σ 35 0 (0 : Int32))) _
  replace hp := hp.2
  refine rt_ln rfl rfl ?_
  refine rt_is (σ1 := (s_X5_goesOn (sg_up σ 35 0 (0 : Int32)))) rfl rfl rfl (m_X5_isInnings x0) ?_
  show RtF bk fR s 184 13 [some (rf 35), some (.inl x0)] [.inl (v_X5_isInnings x0)] (s_X5_goesOn (sg_up σ 35 0 (0 : Int32))) _
  refine rt_if rfl rfl (fun h => ?_) (fun h => ?_)
  · refine rt_k1 rfl ck1_m1 ?_
    refine rt_go rfl ?_
    exact rt_eR rfl
  · replace hp := hp h
    refine rt_lna rfl rfl ?_
    refine rt_gfr rfl Kq_35 (by decide) rfl ?_
    refine rt_ln rfl rfl ?_
    refine rt_al rfl Kq_43 hp.1 rfl ?_
    replace hp := hp.2
    refine rt_if rfl rfl (fun h => ?_) (fun h => ?_)
    · replace hp := hp.1 h
      refine rt_lna rfl rfl ?_
      refine rt_ln rfl rfl ?_
      refine rt_iv (σ1 := (s_X5_goesOn (sg_up σ 35 0 (0 : Int32)))) rfl rfl rfl (m_X5_bestOverOf x0 hp) ?_
      show RtF bk fR s 184 43 [some (rf 35), some (.inl x0)] [.inl (v_X5_bestOverOf (s_X5_goesOn (sg_up σ 35 0 (0 : Int32))) x0)] (s_X5_goesOn (sg_up σ 35 0 (0 : Int32))) _
      exact rt_eR rfl
    · replace hp := hp.2 h
      refine rt_lna rfl rfl ?_
      refine rt_gfr rfl Kq_35 (by decide) rfl ?_
      refine rt_ln rfl rfl ?_
      refine rt_al rfl Kq_41 hp.1 rfl ?_
      replace hp := hp.2
      refine rt_if rfl rfl (fun h => ?_) (fun h => ?_)
      · replace hp := hp h
        refine rt_lna rfl rfl ?_
        refine rt_ln rfl rfl ?_
        refine rt_iv (σ1 := (s_X5_goesOn (sg_up σ 35 0 (0 : Int32)))) rfl rfl rfl (m_X5_bestOverOf x0 hp) ?_
        show RtF bk fR s 184 43 [some (rf 35), some (.inl x0)] [.inl (v_X5_bestOverOf (s_X5_goesOn (sg_up σ 35 0 (0 : Int32))) x0)] (s_X5_goesOn (sg_up σ 35 0 (0 : Int32))) _
        exact rt_eR rfl
      · refine rt_k1 rfl ck1_m1 ?_
        refine rt_go rfl ?_
        exact rt_eR rfl
noncomputable def v_X5_divisor_b4 (k4 : Int32 → Int32 → Int32) (x2_ : Int32) (x3_ : Int32) : Int32 := (if x3_ = 0 then x2_ else (k4 x3_ (rm x2_ x3_)))
noncomputable def p_X5_divisor_b4 (kp4 : Int32 → Int32 → Prop) (x2_ : Int32) (x3_ : Int32) : Prop := (¬ (x3_ = 0) → (¬ x3_ = 0 ∧ (kp4 x3_ (rm x2_ x3_))))
theorem m_X5_divisor_b4 {s : List Int32} {σ : sg_S} (k4 : Int32 → Int32 → Int32) (kp4 : Int32 → Int32 → Prop) (hk4 : ∀ (x2_ : Int32) (x3_ : Int32) (o0_ : Option (ip_V Int32)) (o1_ : Option (ip_V Int32)) (o4_ : Option (ip_V Int32)), kp4 x2_ x3_ → RtF bk (fV σ) s 185 4 [o0_, o1_, some (.inl x2_), some (.inl x3_), o4_] [] σ (k4 x2_ x3_)) (x2_ : Int32) (x3_ : Int32) (o0_ : Option (ip_V Int32)) (o1_ : Option (ip_V Int32)) (o4_ : Option (ip_V Int32)) (hp : p_X5_divisor_b4 kp4 x2_ x3_) : RtF bk (fV σ) s 185 4 [o0_, o1_, some (.inl x2_), some (.inl x3_), o4_] [] σ (v_X5_divisor_b4 k4 x2_ x3_) := by
  unfold v_X5_divisor_b4
  unfold p_X5_divisor_b4 at hp
  refine rt_ln rfl rfl ?_
  refine rt_if rfl rfl (fun h => ?_) (fun h => ?_)
  · refine rt_ln rfl rfl ?_
    exact rt_eV rfl
  · replace hp := hp h
    refine rt_ln rfl rfl ?_
    refine rt_ln rfl rfl ?_
    refine rt_rem rfl hp.1 ?_
    replace hp := hp.2
    refine rt_st (la1 := [o0_, o1_, some (.inl x2_), some (.inl x3_), some (.inl (rm x2_ x3_))]) rfl rfl rfl ?_
    refine rt_ln rfl rfl ?_
    refine rt_sn (la1 := [o0_, o1_, some (.inl x3_), some (.inl x3_), some (.inl (rm x2_ x3_))]) rfl rfl rfl ?_
    refine rt_ld rfl rfl ?_
    refine rt_sn (la1 := [o0_, o1_, some (.inl x3_), some (.inl (rm x2_ x3_)), some (.inl (rm x2_ x3_))]) rfl rfl rfl ?_
    refine rt_go rfl ?_
    exact hk4 x3_ (rm x2_ x3_) _ _ _ hp
noncomputable def v_X5_divisor_l4 (n : Nat) : Int32 → Int32 → Int32 := Nat.rec (motive := fun _ => Int32 → Int32 → Int32) (fun _ _ => 0) (fun _ ih => v_X5_divisor_b4 ih) n
noncomputable def p_X5_divisor_l4 (n : Nat) : Int32 → Int32 → Prop := Nat.rec (motive := fun _ => Int32 → Int32 → Prop) (fun _ _ => False) (fun _ ih => p_X5_divisor_b4 ih) n
theorem m_X5_divisor_l4 {s : List Int32} {σ : sg_S} : ∀ (n : Nat), ∀ (x2_ : Int32) (x3_ : Int32) (o0_ : Option (ip_V Int32)) (o1_ : Option (ip_V Int32)) (o4_ : Option (ip_V Int32)), p_X5_divisor_l4 n x2_ x3_ → RtF bk (fV σ) s 185 4 [o0_, o1_, some (.inl x2_), some (.inl x3_), o4_] [] σ (v_X5_divisor_l4 n x2_ x3_) := by
  intro n
  induction n with
  | zero =>
    intro x2_ x3_ o0_ o1_ o4_ hp
    exact hp.elim
  | succ n ih =>
    intro x2_ x3_ o0_ o1_ o4_ hp
    exact m_X5_divisor_b4 (v_X5_divisor_l4 n) (p_X5_divisor_l4 n) ih x2_ x3_ o0_ o1_ o4_ hp
noncomputable def v_X5_divisor (x0 : Int32) (x1 : Int32) : Int32 := (v_X5_divisor_l4 600 x0 x1)
noncomputable def p_X5_divisor (x0 : Int32) (x1 : Int32) : Prop := (p_X5_divisor_l4 600 x0 x1)
theorem m_X5_divisor {s : List Int32} {σ : sg_S} (x0 : Int32) (x1 : Int32) (hp : p_X5_divisor x0 x1) : Ct s 185 [.inl x0, .inl x1] σ [.inl (v_X5_divisor x0 x1)] σ := by
  refine ct_s (la := [some (.inl x0), some (.inl x1), none, none, none]) rfl rfl rfl rfl rfl (cgV ?_)
  unfold v_X5_divisor
  unfold p_X5_divisor at hp
  refine rt_ln rfl rfl ?_
  refine rt_sn (la1 := [some (.inl x0), some (.inl x1), some (.inl x0), none, none]) rfl rfl rfl ?_
  refine rt_ln rfl rfl ?_
  refine rt_sn (la1 := [some (.inl x0), some (.inl x1), some (.inl x0), some (.inl x1), none]) rfl rfl rfl ?_
  exact m_X5_divisor_l4 600 x0 x1 _ _ _ hp
noncomputable def v_X5_tells (x0 : Int32) (x1 : Int32) (x2 : Int32) : Int32 := (if x2 = 0 then (x0 / (v_X5_divisor x0 x1)) else (x1 / (v_X5_divisor x0 x1)))
noncomputable def p_X5_tells (x0 : Int32) (x1 : Int32) (x2 : Int32) : Prop := (p_X5_divisor x0 x1 ∧ ((x2 = 0 → ¬ (v_X5_divisor x0 x1) = 0) ∧ (¬ (x2 = 0) → ¬ (v_X5_divisor x0 x1) = 0)))
theorem m_X5_tells {s : List Int32} {σ : sg_S} (x0 : Int32) (x1 : Int32) (x2 : Int32) (hp : p_X5_tells x0 x1 x2) : Ct s 186 [.inl x0, .inl x1, .inl x2] σ [.inl (v_X5_tells x0 x1 x2)] σ := by
  refine ct_s (la := [some (.inl x0), some (.inl x1), some (.inl x2), none]) rfl rfl rfl rfl rfl (cgV ?_)
  unfold v_X5_tells
  unfold p_X5_tells at hp
  refine rt_ln rfl rfl ?_
  refine rt_ln rfl rfl ?_
  refine rt_is (σ1 := σ) rfl rfl rfl (m_X5_divisor x0 x1 hp.1) ?_
  show RtF bk (fV σ) s 186 5 [some (.inl x0), some (.inl x1), some (.inl x2), none] [.inl (v_X5_divisor x0 x1)] σ _
  replace hp := hp.2
  refine rt_sn (la1 := [some (.inl x0), some (.inl x1), some (.inl x2), some (.inl (v_X5_divisor x0 x1))]) rfl rfl rfl ?_
  refine rt_ln rfl rfl ?_
  refine rt_if rfl rfl (fun h => ?_) (fun h => ?_)
  · replace hp := hp.1 h
    refine rt_ln rfl rfl ?_
    refine rt_ln rfl rfl ?_
    refine rt_div rfl hp ?_
    exact rt_eV rfl
  · replace hp := hp.2 h
    refine rt_ln rfl rfl ?_
    refine rt_ln rfl rfl ?_
    refine rt_div rfl hp ?_
    refine rt_go rfl ?_
    exact rt_eV rfl
noncomputable def r_X5_rate (σ : sg_S) (x0 : Int32) (x1 : Int32) : Int32 × sg_S := (if (v_X5_isInnings x0) = 0 then ((-1 : Int32), (s_X5_goesOn (sg_up σ 35 0 (0 : Int32)))) else (if ¬ ((s_X5_goesOn (sg_up σ 35 0 (0 : Int32))) 43 (ni x0)) = 0 then ((v_X5_tells ((6 : Int32) * ((s_X5_goesOn (sg_up σ 35 0 (0 : Int32))) 41 (ni x0))) ((s_X5_goesOn (sg_up σ 35 0 (0 : Int32))) 43 (ni x0)) x1), (s_X5_goesOn (sg_up σ 35 0 (0 : Int32)))) else ((-1 : Int32), (s_X5_goesOn (sg_up σ 35 0 (0 : Int32))))))
noncomputable def p_X5_rate (σ : sg_S) (x0 : Int32) (x1 : Int32) : Prop := (p_X5_goesOn (sg_up σ 35 0 (0 : Int32)) ∧ (¬ ((v_X5_isInnings x0) = 0) → (ix x0 2 ∧ (¬ ((s_X5_goesOn (sg_up σ 35 0 (0 : Int32))) 43 (ni x0)) = 0 → (ix x0 2 ∧ (ix x0 2 ∧ p_X5_tells ((6 : Int32) * ((s_X5_goesOn (sg_up σ 35 0 (0 : Int32))) 41 (ni x0))) ((s_X5_goesOn (sg_up σ 35 0 (0 : Int32))) 43 (ni x0)) x1))))))
theorem m_X5_rate {s : List Int32} {σ : sg_S} (x0 : Int32) (x1 : Int32) (hp : p_X5_rate σ x0 x1) : Ct s 187 [rf 35, .inl x0, .inl x1] σ [.inl (r_X5_rate σ x0 x1).1] (r_X5_rate σ x0 x1).2 := by
  refine ct_v (la := [some (rf 35), some (.inl x0), some (.inl x1)]) Kq_35 rfl rfl rfl rfl rfl rfl rfl (cgR ?_)
  unfold r_X5_rate
  unfold p_X5_rate at hp
  refine rt_lna rfl rfl ?_
  refine rt_k1 rfl ck1_0 ?_
  refine rt_pf (σ1 := (sg_up σ 35 0 (0 : Int32))) rfl Kq_35 (by decide) rfl rfl rfl ?_
  refine rt_lna rfl rfl ?_
  refine rt_iv (σ1 := (s_X5_goesOn (sg_up σ 35 0 (0 : Int32)))) rfl rfl rfl (m_X5_goesOn hp.1) ?_
  show RtF bk fR s 187 9 [some (rf 35), some (.inl x0), some (.inl x1)] [] (s_X5_goesOn (sg_up σ 35 0 (0 : Int32))) _
  replace hp := hp.2
  refine rt_ln rfl rfl ?_
  refine rt_is (σ1 := (s_X5_goesOn (sg_up σ 35 0 (0 : Int32)))) rfl rfl rfl (m_X5_isInnings x0) ?_
  show RtF bk fR s 187 13 [some (rf 35), some (.inl x0), some (.inl x1)] [.inl (v_X5_isInnings x0)] (s_X5_goesOn (sg_up σ 35 0 (0 : Int32))) _
  refine rt_if rfl rfl (fun h => ?_) (fun h => ?_)
  · refine rt_k1 rfl ck1_m1 ?_
    refine rt_go rfl ?_
    exact rt_eR rfl
  · replace hp := hp h
    refine rt_lna rfl rfl ?_
    refine rt_gfr rfl Kq_35 (by decide) rfl ?_
    refine rt_ln rfl rfl ?_
    refine rt_al rfl Kq_43 hp.1 rfl ?_
    replace hp := hp.2
    refine rt_if rfl rfl (fun h => ?_) (fun h => ?_)
    · replace hp := hp h
      refine rt_k2 rfl ck2_6 ?_
      refine rt_lna rfl rfl ?_
      refine rt_gfr rfl Kq_35 (by decide) rfl ?_
      refine rt_ln rfl rfl ?_
      refine rt_al rfl Kq_41 hp.1 rfl ?_
      replace hp := hp.2
      refine rt_mul rfl ?_
      refine rt_lna rfl rfl ?_
      refine rt_gfr rfl Kq_35 (by decide) rfl ?_
      refine rt_ln rfl rfl ?_
      refine rt_al rfl Kq_43 hp.1 rfl ?_
      replace hp := hp.2
      refine rt_ln rfl rfl ?_
      refine rt_is (σ1 := (s_X5_goesOn (sg_up σ 35 0 (0 : Int32)))) rfl rfl rfl (m_X5_tells ((6 : Int32) * ((s_X5_goesOn (sg_up σ 35 0 (0 : Int32))) 41 (ni x0))) ((s_X5_goesOn (sg_up σ 35 0 (0 : Int32))) 43 (ni x0)) x1 hp) ?_
      show RtF bk fR s 187 48 [some (rf 35), some (.inl x0), some (.inl x1)] [.inl (v_X5_tells ((6 : Int32) * ((s_X5_goesOn (sg_up σ 35 0 (0 : Int32))) 41 (ni x0))) ((s_X5_goesOn (sg_up σ 35 0 (0 : Int32))) 43 (ni x0)) x1)] (s_X5_goesOn (sg_up σ 35 0 (0 : Int32))) _
      exact rt_eR rfl
    · refine rt_k1 rfl ck1_m1 ?_
      refine rt_go rfl ?_
      exact rt_eR rfl
noncomputable def r_X5_projected (σ : sg_S) : Int32 × sg_S := (if ((s_X5_goesOn (sg_up σ 35 0 (0 : Int32))) 35 23) ≤ 0 then (if ¬ (((s_X5_goesOn (sg_up σ 35 0 (0 : Int32))) 45 0) - (v_X5_leftWorth (s_X5_goesOn (sg_up σ 35 0 (0 : Int32))) (0 : Int32))) = 0 then (((((s_X5_goesOn (sg_up σ 35 0 (0 : Int32))) 41 0) * ((s_X5_goesOn (sg_up σ 35 0 (0 : Int32))) 45 0)) / (((s_X5_goesOn (sg_up σ 35 0 (0 : Int32))) 45 0) - (v_X5_leftWorth (s_X5_goesOn (sg_up σ 35 0 (0 : Int32))) (0 : Int32)))), (s_X5_goesOn (sg_up σ 35 0 (0 : Int32)))) else ((-1 : Int32), (s_X5_goesOn (sg_up σ 35 0 (0 : Int32))))) else ((-1 : Int32), (s_X5_goesOn (sg_up σ 35 0 (0 : Int32)))))
noncomputable def p_X5_projected (σ : sg_S) : Prop := (p_X5_goesOn (sg_up σ 35 0 (0 : Int32)) ∧ (((s_X5_goesOn (sg_up σ 35 0 (0 : Int32))) 35 23) ≤ 0 → (p_X5_leftWorth (s_X5_goesOn (sg_up σ 35 0 (0 : Int32))) (0 : Int32) ∧ (¬ (((s_X5_goesOn (sg_up σ 35 0 (0 : Int32))) 45 0) - (v_X5_leftWorth (s_X5_goesOn (sg_up σ 35 0 (0 : Int32))) (0 : Int32))) = 0 → ¬ (((s_X5_goesOn (sg_up σ 35 0 (0 : Int32))) 45 0) - (v_X5_leftWorth (s_X5_goesOn (sg_up σ 35 0 (0 : Int32))) (0 : Int32))) = 0))))
theorem m_X5_projected {s : List Int32} {σ : sg_S} (hp : p_X5_projected σ) : Ct s 188 [rf 35] σ [.inl (r_X5_projected σ).1] (r_X5_projected σ).2 := by
  refine ct_v (la := [some (rf 35), none]) Kq_35 rfl rfl rfl rfl rfl rfl rfl (cgR ?_)
  unfold r_X5_projected
  unfold p_X5_projected at hp
  refine rt_lna rfl rfl ?_
  refine rt_k1 rfl ck1_0 ?_
  refine rt_pf (σ1 := (sg_up σ 35 0 (0 : Int32))) rfl Kq_35 (by decide) rfl rfl rfl ?_
  refine rt_lna rfl rfl ?_
  refine rt_iv (σ1 := (s_X5_goesOn (sg_up σ 35 0 (0 : Int32)))) rfl rfl rfl (m_X5_goesOn hp.1) ?_
  show RtF bk fR s 188 9 [some (rf 35), none] [] (s_X5_goesOn (sg_up σ 35 0 (0 : Int32))) _
  replace hp := hp.2
  refine rt_lna rfl rfl ?_
  refine rt_gfi rfl Kq_35 (by decide) rfl rfl ?_
  refine rt_if rfl rfl (fun h => ?_) (fun h => ?_)
  · replace hp := hp h
    refine rt_lna rfl rfl ?_
    refine rt_gfr rfl Kq_35 (by decide) rfl ?_
    refine rt_k1 rfl ck1_0 ?_
    refine rt_al (k0 := 0) rfl Kq_45 ⟨by decide, by decide⟩ rfl ?_
    refine rt_lna rfl rfl ?_
    refine rt_k1 rfl ck1_0 ?_
    refine rt_iv (σ1 := (s_X5_goesOn (sg_up σ 35 0 (0 : Int32)))) rfl rfl rfl (m_X5_leftWorth (0 : Int32) hp.1) ?_
    show RtF bk fR s 188 29 [some (rf 35), none] [.inl (v_X5_leftWorth (s_X5_goesOn (sg_up σ 35 0 (0 : Int32))) (0 : Int32)), .inl ((s_X5_goesOn (sg_up σ 35 0 (0 : Int32))) 45 0)] (s_X5_goesOn (sg_up σ 35 0 (0 : Int32))) _
    replace hp := hp.2
    refine rt_sub rfl ?_
    refine rt_sn (la1 := [some (rf 35), some (.inl (((s_X5_goesOn (sg_up σ 35 0 (0 : Int32))) 45 0) - (v_X5_leftWorth (s_X5_goesOn (sg_up σ 35 0 (0 : Int32))) (0 : Int32))))]) rfl rfl rfl ?_
    refine rt_ln rfl rfl ?_
    refine rt_if rfl rfl (fun h => ?_) (fun h => ?_)
    · replace hp := hp h
      refine rt_lna rfl rfl ?_
      refine rt_gfr rfl Kq_35 (by decide) rfl ?_
      refine rt_k1 rfl ck1_0 ?_
      refine rt_al (k0 := 0) rfl Kq_41 ⟨by decide, by decide⟩ rfl ?_
      refine rt_lna rfl rfl ?_
      refine rt_gfr rfl Kq_35 (by decide) rfl ?_
      refine rt_k1 rfl ck1_0 ?_
      refine rt_al (k0 := 0) rfl Kq_45 ⟨by decide, by decide⟩ rfl ?_
      refine rt_mul rfl ?_
      refine rt_ln rfl rfl ?_
      refine rt_div rfl hp ?_
      exact rt_eR rfl
    · refine rt_k1 rfl ck1_m1 ?_
      refine rt_go rfl ?_
      exact rt_eR rfl
  · refine rt_k1 rfl ck1_m1 ?_
    exact rt_eR rfl
noncomputable def r_X5_target (σ : sg_S) : Int32 × sg_S := (if (v_X5_hasTarget (s_X5_goesOn (sg_up σ 35 0 (0 : Int32)))) = 0 then ((-1 : Int32), (s_X5_goesOn (sg_up σ 35 0 (0 : Int32)))) else ((v_X5_theTarget (s_X5_goesOn (sg_up σ 35 0 (0 : Int32)))), (s_X5_goesOn (sg_up σ 35 0 (0 : Int32)))))
noncomputable def p_X5_target (σ : sg_S) : Prop := (p_X5_goesOn (sg_up σ 35 0 (0 : Int32)) ∧ (¬ ((v_X5_hasTarget (s_X5_goesOn (sg_up σ 35 0 (0 : Int32)))) = 0) → p_X5_theTarget (s_X5_goesOn (sg_up σ 35 0 (0 : Int32)))))
theorem m_X5_target {s : List Int32} {σ : sg_S} (hp : p_X5_target σ) : Ct s 189 [rf 35] σ [.inl (r_X5_target σ).1] (r_X5_target σ).2 := by
  refine ct_v (la := [some (rf 35)]) Kq_35 rfl rfl rfl rfl rfl rfl rfl (cgR ?_)
  unfold r_X5_target
  unfold p_X5_target at hp
  refine rt_lna rfl rfl ?_
  refine rt_k1 rfl ck1_0 ?_
  refine rt_pf (σ1 := (sg_up σ 35 0 (0 : Int32))) rfl Kq_35 (by decide) rfl rfl rfl ?_
  refine rt_lna rfl rfl ?_
  refine rt_iv (σ1 := (s_X5_goesOn (sg_up σ 35 0 (0 : Int32)))) rfl rfl rfl (m_X5_goesOn hp.1) ?_
  show RtF bk fR s 189 9 [some (rf 35)] [] (s_X5_goesOn (sg_up σ 35 0 (0 : Int32))) _
  replace hp := hp.2
  refine rt_lna rfl rfl ?_
  refine rt_iv (σ1 := (s_X5_goesOn (sg_up σ 35 0 (0 : Int32)))) rfl rfl rfl (m_X5_hasTarget) ?_
  show RtF bk fR s 189 13 [some (rf 35)] [.inl (v_X5_hasTarget (s_X5_goesOn (sg_up σ 35 0 (0 : Int32))))] (s_X5_goesOn (sg_up σ 35 0 (0 : Int32))) _
  refine rt_if rfl rfl (fun h => ?_) (fun h => ?_)
  · refine rt_k1 rfl ck1_m1 ?_
    exact rt_eR rfl
  · replace hp := hp h
    refine rt_lna rfl rfl ?_
    refine rt_iv (σ1 := (s_X5_goesOn (sg_up σ 35 0 (0 : Int32)))) rfl rfl rfl (m_X5_theTarget hp) ?_
    show RtF bk fR s 189 20 [some (rf 35)] [.inl (v_X5_theTarget (s_X5_goesOn (sg_up σ 35 0 (0 : Int32))))] (s_X5_goesOn (sg_up σ 35 0 (0 : Int32))) _
    refine rt_go rfl ?_
    exact rt_eR rfl
noncomputable def v_X5_parNow (σ : sg_S) : Int32 := (if (v_X5_hasTarget σ) = 0 then (-1 : Int32) else (if ¬ (σ 35 23) = (1 : Int32) then (-1 : Int32) else (v_X5_thePar σ (σ 41 0))))
noncomputable def p_X5_parNow (σ : sg_S) : Prop := (¬ ((v_X5_hasTarget σ) = 0) → (¬ (¬ (σ 35 23) = (1 : Int32)) → p_X5_thePar σ (σ 41 0)))
theorem m_X5_parNow {s : List Int32} {σ : sg_S} (hp : p_X5_parNow σ) : Ct s 190 [rf 35] σ [.inl (v_X5_parNow σ)] σ := by
  refine ct_v (la := [some (rf 35)]) Kq_35 rfl rfl rfl rfl rfl rfl rfl (cgV ?_)
  unfold v_X5_parNow
  unfold p_X5_parNow at hp
  refine rt_lna rfl rfl ?_
  refine rt_iv (σ1 := σ) rfl rfl rfl (m_X5_hasTarget) ?_
  show RtF bk (fV σ) s 190 4 [some (rf 35)] [.inl (v_X5_hasTarget σ)] σ _
  refine rt_if rfl rfl (fun h => ?_) (fun h => ?_)
  · refine rt_k1 rfl ck1_m1 ?_
    exact rt_eV rfl
  · replace hp := hp h
    refine rt_lna rfl rfl ?_
    refine rt_gfi rfl Kq_35 (by decide) rfl rfl ?_
    refine rt_k1 rfl ck1_1 ?_
    refine rt_ic rfl rfl (fun h => ?_) (fun h => ?_)
    · refine rt_k1 rfl ck1_m1 ?_
      exact rt_eV rfl
    · replace hp := hp h
      refine rt_lna rfl rfl ?_
      refine rt_lna rfl rfl ?_
      refine rt_gfr rfl Kq_35 (by decide) rfl ?_
      refine rt_k1 rfl ck1_0 ?_
      refine rt_al (k0 := 0) rfl Kq_41 ⟨by decide, by decide⟩ rfl ?_
      refine rt_iv (σ1 := σ) rfl rfl rfl (m_X5_thePar (σ 41 0) hp) ?_
      show RtF bk (fV σ) s 190 25 [some (rf 35)] [.inl (v_X5_thePar σ (σ 41 0))] σ _
      refine rt_go rfl ?_
      exact rt_eV rfl
noncomputable def r_X5_par (σ : sg_S) : Int32 × sg_S := ((v_X5_parNow (s_X5_goesOn (sg_up σ 35 0 (0 : Int32)))), (s_X5_goesOn (sg_up σ 35 0 (0 : Int32))))
noncomputable def p_X5_par (σ : sg_S) : Prop := (p_X5_goesOn (sg_up σ 35 0 (0 : Int32)) ∧ p_X5_parNow (s_X5_goesOn (sg_up σ 35 0 (0 : Int32))))
theorem m_X5_par {s : List Int32} {σ : sg_S} (hp : p_X5_par σ) : Ct s 191 [rf 35] σ [.inl (r_X5_par σ).1] (r_X5_par σ).2 := by
  refine ct_v (la := [some (rf 35)]) Kq_35 rfl rfl rfl rfl rfl rfl rfl (cgR ?_)
  unfold r_X5_par
  unfold p_X5_par at hp
  refine rt_lna rfl rfl ?_
  refine rt_k1 rfl ck1_0 ?_
  refine rt_pf (σ1 := (sg_up σ 35 0 (0 : Int32))) rfl Kq_35 (by decide) rfl rfl rfl ?_
  refine rt_lna rfl rfl ?_
  refine rt_iv (σ1 := (s_X5_goesOn (sg_up σ 35 0 (0 : Int32)))) rfl rfl rfl (m_X5_goesOn hp.1) ?_
  show RtF bk fR s 191 9 [some (rf 35)] [] (s_X5_goesOn (sg_up σ 35 0 (0 : Int32))) _
  replace hp := hp.2
  refine rt_lna rfl rfl ?_
  refine rt_iv (σ1 := (s_X5_goesOn (sg_up σ 35 0 (0 : Int32)))) rfl rfl rfl (m_X5_parNow hp) ?_
  show RtF bk fR s 191 13 [some (rf 35)] [.inl (v_X5_parNow (s_X5_goesOn (sg_up σ 35 0 (0 : Int32))))] (s_X5_goesOn (sg_up σ 35 0 (0 : Int32))) _
  exact rt_eR rfl
noncomputable def v_X5_aim (σ : sg_S) : Int32 := (if (σ 47 1) = 0 then ((v_X5_theTarget σ) - (1 : Int32)) else (v_X5_thePar σ (σ 41 0)))
noncomputable def p_X5_aim (σ : sg_S) : Prop := (((σ 47 1) = 0 → p_X5_theTarget σ) ∧ (¬ ((σ 47 1) = 0) → p_X5_thePar σ (σ 41 0)))
theorem m_X5_aim {s : List Int32} {σ : sg_S} (hp : p_X5_aim σ) : Ct s 192 [rf 35] σ [.inl (v_X5_aim σ)] σ := by
  refine ct_v (la := [some (rf 35)]) Kq_35 rfl rfl rfl rfl rfl rfl rfl (cgV ?_)
  unfold v_X5_aim
  unfold p_X5_aim at hp
  refine rt_lna rfl rfl ?_
  refine rt_gfr rfl Kq_35 (by decide) rfl ?_
  refine rt_k1 rfl ck1_1 ?_
  refine rt_zl (k0 := 1) rfl Kq_47 ⟨by decide, by decide⟩ rfl ?_
  refine rt_if rfl rfl (fun h => ?_) (fun h => ?_)
  · replace hp := hp.1 h
    refine rt_lna rfl rfl ?_
    refine rt_iv (σ1 := σ) rfl rfl rfl (m_X5_theTarget hp) ?_
    show RtF bk (fV σ) s 192 26 [some (rf 35)] [.inl (v_X5_theTarget σ)] σ _
    refine rt_k1 rfl ck1_1 ?_
    refine rt_sub rfl ?_
    exact rt_eV rfl
  · replace hp := hp.2 h
    refine rt_lna rfl rfl ?_
    refine rt_lna rfl rfl ?_
    refine rt_gfr rfl Kq_35 (by decide) rfl ?_
    refine rt_k1 rfl ck1_0 ?_
    refine rt_al (k0 := 0) rfl Kq_41 ⟨by decide, by decide⟩ rfl ?_
    refine rt_iv (σ1 := σ) rfl rfl rfl (m_X5_thePar (σ 41 0) hp) ?_
    show RtF bk (fV σ) s 192 19 [some (rf 35)] [.inl (v_X5_thePar σ (σ 41 0))] σ _
    refine rt_go rfl ?_
    exact rt_eV rfl
noncomputable def v_X5_resultNow_a38 (σ : sg_S) : Int32 := (if (v_X5_aim σ) ≤ (σ 41 1) then (if (σ 41 1) ≤ (v_X5_aim σ) then (3 : Int32) else (2 : Int32)) else (1 : Int32))
noncomputable def p_X5_resultNow_a38 (σ : sg_S) : Prop := p_X5_aim σ
theorem m_X5_resultNow_a38 {s : List Int32} {σ : sg_S} (o1_ : Option (ip_V Int32)) (hp : p_X5_resultNow_a38 σ) : RtF bk (fV σ) s 193 38 [some (rf 35), o1_] [] σ (v_X5_resultNow_a38 σ) := by
  unfold v_X5_resultNow_a38
  unfold p_X5_resultNow_a38 at hp
  refine rt_lna rfl rfl ?_
  refine rt_iv (σ1 := σ) rfl rfl rfl (m_X5_aim hp) ?_
  show RtF bk (fV σ) s 193 42 [some (rf 35), o1_] [.inl (v_X5_aim σ)] σ _
  refine rt_sn (la1 := [some (rf 35), some (.inl (v_X5_aim σ))]) rfl rfl rfl ?_
  refine rt_lna rfl rfl ?_
  refine rt_gfr rfl Kq_35 (by decide) rfl ?_
  refine rt_k1 rfl ck1_1 ?_
  refine rt_al (k0 := 1) rfl Kq_41 ⟨by decide, by decide⟩ rfl ?_
  refine rt_ln rfl rfl ?_
  refine rt_ic rfl rfl (fun h => ?_) (fun h => ?_)
  · refine rt_lna rfl rfl ?_
    refine rt_gfr rfl Kq_35 (by decide) rfl ?_
    refine rt_k1 rfl ck1_1 ?_
    refine rt_al (k0 := 1) rfl Kq_41 ⟨by decide, by decide⟩ rfl ?_
    refine rt_ln rfl rfl ?_
    refine rt_ic rfl rfl (fun h => ?_) (fun h => ?_)
    · refine rt_k1 rfl ck1_3 ?_
      exact rt_eV rfl
    · refine rt_k1 rfl ck1_2 ?_
      refine rt_go rfl ?_
      exact rt_eV rfl
  · refine rt_k1 rfl ck1_1 ?_
    refine rt_go rfl ?_
    exact rt_eV rfl
noncomputable def v_X5_resultNow (σ : sg_S) : Int32 := (if (σ 45 0) = 0 then (0 : Int32) else (if (σ 47 1) = 0 then (v_X5_resultNow_a38 σ) else (if ((6 : Int32) * (σ 36 2)) ≤ (σ 43 1) then (v_X5_resultNow_a38 σ) else (0 : Int32))))
noncomputable def p_X5_resultNow (σ : sg_S) : Prop := (¬ ((σ 45 0) = 0) → (((σ 47 1) = 0 → (p_X5_resultNow_a38 σ)) ∧ (¬ ((σ 47 1) = 0) → (((6 : Int32) * (σ 36 2)) ≤ (σ 43 1) → (p_X5_resultNow_a38 σ)))))
theorem m_X5_resultNow {s : List Int32} {σ : sg_S} (hp : p_X5_resultNow σ) : Ct s 193 [rf 35] σ [.inl (v_X5_resultNow σ)] σ := by
  refine ct_v (la := [some (rf 35), none]) Kq_35 rfl rfl rfl rfl rfl rfl rfl (cgV ?_)
  unfold v_X5_resultNow
  unfold p_X5_resultNow at hp
  refine rt_lna rfl rfl ?_
  refine rt_gfr rfl Kq_35 (by decide) rfl ?_
  refine rt_k1 rfl ck1_0 ?_
  refine rt_al (k0 := 0) rfl Kq_45 ⟨by decide, by decide⟩ rfl ?_
  refine rt_if rfl rfl (fun h => ?_) (fun h => ?_)
  · refine rt_k1 rfl ck1_0 ?_
    exact rt_eV rfl
  · replace hp := hp h
    refine rt_lna rfl rfl ?_
    refine rt_gfr rfl Kq_35 (by decide) rfl ?_
    refine rt_k1 rfl ck1_1 ?_
    refine rt_zl (k0 := 1) rfl Kq_47 ⟨by decide, by decide⟩ rfl ?_
    refine rt_if rfl rfl (fun h => ?_) (fun h => ?_)
    · replace hp := hp.1 h
      exact m_X5_resultNow_a38 _ hp
    · replace hp := hp.2 h
      refine rt_lna rfl rfl ?_
      refine rt_gfr rfl Kq_35 (by decide) rfl ?_
      refine rt_k1 rfl ck1_1 ?_
      refine rt_al (k0 := 1) rfl Kq_43 ⟨by decide, by decide⟩ rfl ?_
      refine rt_k2 rfl ck2_6 ?_
      refine rt_lna rfl rfl ?_
      refine rt_gfr rfl Kq_35 (by decide) rfl ?_
      refine rt_k1 rfl ck1_2 ?_
      refine rt_al (k0 := 2) rfl Kq_36 ⟨by decide, by decide⟩ rfl ?_
      refine rt_mul rfl ?_
      refine rt_ic rfl rfl (fun h => ?_) (fun h => ?_)
      · replace hp := hp h
        exact m_X5_resultNow_a38 _ hp
      · refine rt_k1 rfl ck1_0 ?_
        exact rt_eV rfl
noncomputable def r_X5_result (σ : sg_S) : Int32 × sg_S := (if (2 : Int32) ≤ ((s_X5_goesOn (sg_up σ 35 0 (0 : Int32))) 35 23) then ((v_X5_resultNow (s_X5_goesOn (sg_up σ 35 0 (0 : Int32)))), (s_X5_goesOn (sg_up σ 35 0 (0 : Int32)))) else ((-1 : Int32), (s_X5_goesOn (sg_up σ 35 0 (0 : Int32)))))
noncomputable def p_X5_result (σ : sg_S) : Prop := (p_X5_goesOn (sg_up σ 35 0 (0 : Int32)) ∧ ((2 : Int32) ≤ ((s_X5_goesOn (sg_up σ 35 0 (0 : Int32))) 35 23) → p_X5_resultNow (s_X5_goesOn (sg_up σ 35 0 (0 : Int32)))))
theorem m_X5_result {s : List Int32} {σ : sg_S} (hp : p_X5_result σ) : Ct s 194 [rf 35] σ [.inl (r_X5_result σ).1] (r_X5_result σ).2 := by
  refine ct_v (la := [some (rf 35)]) Kq_35 rfl rfl rfl rfl rfl rfl rfl (cgR ?_)
  unfold r_X5_result
  unfold p_X5_result at hp
  refine rt_lna rfl rfl ?_
  refine rt_k1 rfl ck1_0 ?_
  refine rt_pf (σ1 := (sg_up σ 35 0 (0 : Int32))) rfl Kq_35 (by decide) rfl rfl rfl ?_
  refine rt_lna rfl rfl ?_
  refine rt_iv (σ1 := (s_X5_goesOn (sg_up σ 35 0 (0 : Int32)))) rfl rfl rfl (m_X5_goesOn hp.1) ?_
  show RtF bk fR s 194 9 [some (rf 35)] [] (s_X5_goesOn (sg_up σ 35 0 (0 : Int32))) _
  replace hp := hp.2
  refine rt_lna rfl rfl ?_
  refine rt_gfi rfl Kq_35 (by decide) rfl rfl ?_
  refine rt_k1 rfl ck1_2 ?_
  refine rt_ic rfl rfl (fun h => ?_) (fun h => ?_)
  · replace hp := hp h
    refine rt_lna rfl rfl ?_
    refine rt_iv (σ1 := (s_X5_goesOn (sg_up σ 35 0 (0 : Int32)))) rfl rfl rfl (m_X5_resultNow hp) ?_
    show RtF bk fR s 194 25 [some (rf 35)] [.inl (v_X5_resultNow (s_X5_goesOn (sg_up σ 35 0 (0 : Int32))))] (s_X5_goesOn (sg_up σ 35 0 (0 : Int32))) _
    exact rt_eR rfl
  · refine rt_k1 rfl ck1_m1 ?_
    refine rt_go rfl ?_
    exact rt_eR rfl
noncomputable def r_X5_margin (σ : sg_S) : Int32 × sg_S := (if (2 : Int32) ≤ ((s_X5_goesOn (sg_up σ 35 0 (0 : Int32))) 35 23) then (if ¬ (v_X5_resultNow (s_X5_goesOn (sg_up σ 35 0 (0 : Int32)))) = (1 : Int32) then (if (v_X5_resultNow (s_X5_goesOn (sg_up σ 35 0 (0 : Int32)))) = (2 : Int32) then (if ((s_X5_goesOn (sg_up σ 35 0 (0 : Int32))) 41 1) < (v_X5_theTarget (s_X5_goesOn (sg_up σ 35 0 (0 : Int32)))) then ((((s_X5_goesOn (sg_up σ 35 0 (0 : Int32))) 41 1) - (v_X5_aim (s_X5_goesOn (sg_up σ 35 0 (0 : Int32))))), (s_X5_goesOn (sg_up σ 35 0 (0 : Int32)))) else (((10 : Int32) - ((s_X5_goesOn (sg_up σ 35 0 (0 : Int32))) 42 1)), (s_X5_goesOn (sg_up σ 35 0 (0 : Int32))))) else ((0 : Int32), (s_X5_goesOn (sg_up σ 35 0 (0 : Int32))))) else (((v_X5_aim (s_X5_goesOn (sg_up σ 35 0 (0 : Int32)))) - ((s_X5_goesOn (sg_up σ 35 0 (0 : Int32))) 41 1)), (s_X5_goesOn (sg_up σ 35 0 (0 : Int32))))) else ((-1 : Int32), (s_X5_goesOn (sg_up σ 35 0 (0 : Int32)))))
noncomputable def p_X5_margin (σ : sg_S) : Prop := (p_X5_goesOn (sg_up σ 35 0 (0 : Int32)) ∧ ((2 : Int32) ≤ ((s_X5_goesOn (sg_up σ 35 0 (0 : Int32))) 35 23) → (p_X5_resultNow (s_X5_goesOn (sg_up σ 35 0 (0 : Int32))) ∧ ((¬ (v_X5_resultNow (s_X5_goesOn (sg_up σ 35 0 (0 : Int32)))) = (1 : Int32) → ((v_X5_resultNow (s_X5_goesOn (sg_up σ 35 0 (0 : Int32)))) = (2 : Int32) → (p_X5_theTarget (s_X5_goesOn (sg_up σ 35 0 (0 : Int32))) ∧ (((s_X5_goesOn (sg_up σ 35 0 (0 : Int32))) 41 1) < (v_X5_theTarget (s_X5_goesOn (sg_up σ 35 0 (0 : Int32)))) → p_X5_aim (s_X5_goesOn (sg_up σ 35 0 (0 : Int32))))))) ∧ (¬ (¬ (v_X5_resultNow (s_X5_goesOn (sg_up σ 35 0 (0 : Int32)))) = (1 : Int32)) → p_X5_aim (s_X5_goesOn (sg_up σ 35 0 (0 : Int32))))))))
theorem m_X5_margin {s : List Int32} {σ : sg_S} (hp : p_X5_margin σ) : Ct s 195 [rf 35] σ [.inl (r_X5_margin σ).1] (r_X5_margin σ).2 := by
  refine ct_v (la := [some (rf 35), none]) Kq_35 rfl rfl rfl rfl rfl rfl rfl (cgR ?_)
  unfold r_X5_margin
  unfold p_X5_margin at hp
  refine rt_lna rfl rfl ?_
  refine rt_k1 rfl ck1_0 ?_
  refine rt_pf (σ1 := (sg_up σ 35 0 (0 : Int32))) rfl Kq_35 (by decide) rfl rfl rfl ?_
  refine rt_lna rfl rfl ?_
  refine rt_iv (σ1 := (s_X5_goesOn (sg_up σ 35 0 (0 : Int32)))) rfl rfl rfl (m_X5_goesOn hp.1) ?_
  show RtF bk fR s 195 9 [some (rf 35), none] [] (s_X5_goesOn (sg_up σ 35 0 (0 : Int32))) _
  replace hp := hp.2
  refine rt_lna rfl rfl ?_
  refine rt_gfi rfl Kq_35 (by decide) rfl rfl ?_
  refine rt_k1 rfl ck1_2 ?_
  refine rt_ic rfl rfl (fun h => ?_) (fun h => ?_)
  · replace hp := hp h
    refine rt_lna rfl rfl ?_
    refine rt_iv (σ1 := (s_X5_goesOn (sg_up σ 35 0 (0 : Int32)))) rfl rfl rfl (m_X5_resultNow hp.1) ?_
    show RtF bk fR s 195 23 [some (rf 35), none] [.inl (v_X5_resultNow (s_X5_goesOn (sg_up σ 35 0 (0 : Int32))))] (s_X5_goesOn (sg_up σ 35 0 (0 : Int32))) _
    replace hp := hp.2
    refine rt_sn (la1 := [some (rf 35), some (.inl (v_X5_resultNow (s_X5_goesOn (sg_up σ 35 0 (0 : Int32)))))]) rfl rfl rfl ?_
    refine rt_ln rfl rfl ?_
    refine rt_k1 rfl ck1_1 ?_
    refine rt_ic rfl rfl (fun h => ?_) (fun h => ?_)
    · replace hp := hp.1 h
      refine rt_ln rfl rfl ?_
      refine rt_k1 rfl ck1_2 ?_
      refine rt_ic rfl rfl (fun h => ?_) (fun h => ?_)
      · replace hp := hp h
        refine rt_lna rfl rfl ?_
        refine rt_gfr rfl Kq_35 (by decide) rfl ?_
        refine rt_k1 rfl ck1_1 ?_
        refine rt_al (k0 := 1) rfl Kq_41 ⟨by decide, by decide⟩ rfl ?_
        refine rt_lna rfl rfl ?_
        refine rt_iv (σ1 := (s_X5_goesOn (sg_up σ 35 0 (0 : Int32)))) rfl rfl rfl (m_X5_theTarget hp.1) ?_
        show RtF bk fR s 195 60 [some (rf 35), some (.inl (v_X5_resultNow (s_X5_goesOn (sg_up σ 35 0 (0 : Int32)))))] [.inl (v_X5_theTarget (s_X5_goesOn (sg_up σ 35 0 (0 : Int32)))), .inl ((s_X5_goesOn (sg_up σ 35 0 (0 : Int32))) 41 1)] (s_X5_goesOn (sg_up σ 35 0 (0 : Int32))) _
        replace hp := hp.2
        refine rt_ic rfl rfl (fun h => ?_) (fun h => ?_)
        · replace hp := hp h
          refine rt_lna rfl rfl ?_
          refine rt_gfr rfl Kq_35 (by decide) rfl ?_
          refine rt_k1 rfl ck1_1 ?_
          refine rt_al (k0 := 1) rfl Kq_41 ⟨by decide, by decide⟩ rfl ?_
          refine rt_lna rfl rfl ?_
          refine rt_iv (σ1 := (s_X5_goesOn (sg_up σ 35 0 (0 : Int32)))) rfl rfl rfl (m_X5_aim hp) ?_
          show RtF bk fR s 195 85 [some (rf 35), some (.inl (v_X5_resultNow (s_X5_goesOn (sg_up σ 35 0 (0 : Int32)))))] [.inl (v_X5_aim (s_X5_goesOn (sg_up σ 35 0 (0 : Int32)))), .inl ((s_X5_goesOn (sg_up σ 35 0 (0 : Int32))) 41 1)] (s_X5_goesOn (sg_up σ 35 0 (0 : Int32))) _
          refine rt_sub rfl ?_
          exact rt_eR rfl
        · refine rt_k2 rfl ck2_10 ?_
          refine rt_lna rfl rfl ?_
          refine rt_gfr rfl Kq_35 (by decide) rfl ?_
          refine rt_k1 rfl ck1_1 ?_
          refine rt_al (k0 := 1) rfl Kq_42 ⟨by decide, by decide⟩ rfl ?_
          refine rt_sub rfl ?_
          refine rt_go rfl ?_
          exact rt_eR rfl
      · refine rt_k1 rfl ck1_0 ?_
        refine rt_go rfl ?_
        exact rt_eR rfl
    · replace hp := hp.2 h
      refine rt_lna rfl rfl ?_
      refine rt_iv (σ1 := (s_X5_goesOn (sg_up σ 35 0 (0 : Int32)))) rfl rfl rfl (m_X5_aim hp) ?_
      show RtF bk fR s 195 33 [some (rf 35), some (.inl (v_X5_resultNow (s_X5_goesOn (sg_up σ 35 0 (0 : Int32)))))] [.inl (v_X5_aim (s_X5_goesOn (sg_up σ 35 0 (0 : Int32))))] (s_X5_goesOn (sg_up σ 35 0 (0 : Int32))) _
      refine rt_lna rfl rfl ?_
      refine rt_gfr rfl Kq_35 (by decide) rfl ?_
      refine rt_k1 rfl ck1_1 ?_
      refine rt_al (k0 := 1) rfl Kq_41 ⟨by decide, by decide⟩ rfl ?_
      refine rt_sub rfl ?_
      exact rt_eR rfl
  · refine rt_k1 rfl ck1_m1 ?_
    exact rt_eR rfl
noncomputable def r_X5_needs (σ : sg_S) (x0 : Int32) : Int32 × sg_S := (if ¬ ((s_X5_goesOn (sg_up σ 35 0 (0 : Int32))) 35 23) = (1 : Int32) then ((-1 : Int32), (s_X5_goesOn (sg_up σ 35 0 (0 : Int32)))) else (if (v_X5_hasTarget (s_X5_goesOn (sg_up σ 35 0 (0 : Int32)))) = 0 then ((-1 : Int32), (s_X5_goesOn (sg_up σ 35 0 (0 : Int32)))) else (if ¬ (v_X5_in x0 (0 : Int32) (3 : Int32)) = 0 then (if (2 : Int32) ≤ x0 then (if ¬ x0 = (3 : Int32) then ((v_X5_tells ((6 : Int32) * ((v_X5_theTarget (s_X5_goesOn (sg_up σ 35 0 (0 : Int32)))) - ((s_X5_goesOn (sg_up σ 35 0 (0 : Int32))) 41 1))) (v_X5_left (s_X5_goesOn (sg_up σ 35 0 (0 : Int32))) (1 : Int32)) (0 : Int32)), (s_X5_goesOn (sg_up σ 35 0 (0 : Int32)))) else ((v_X5_tells ((6 : Int32) * ((v_X5_theTarget (s_X5_goesOn (sg_up σ 35 0 (0 : Int32)))) - ((s_X5_goesOn (sg_up σ 35 0 (0 : Int32))) 41 1))) (v_X5_left (s_X5_goesOn (sg_up σ 35 0 (0 : Int32))) (1 : Int32)) (1 : Int32)), (s_X5_goesOn (sg_up σ 35 0 (0 : Int32))))) else (if ¬ x0 = 0 then ((v_X5_left (s_X5_goesOn (sg_up σ 35 0 (0 : Int32))) (1 : Int32)), (s_X5_goesOn (sg_up σ 35 0 (0 : Int32)))) else (((v_X5_theTarget (s_X5_goesOn (sg_up σ 35 0 (0 : Int32)))) - ((s_X5_goesOn (sg_up σ 35 0 (0 : Int32))) 41 1)), (s_X5_goesOn (sg_up σ 35 0 (0 : Int32)))))) else ((-1 : Int32), (s_X5_goesOn (sg_up σ 35 0 (0 : Int32)))))))
noncomputable def p_X5_needs (σ : sg_S) (x0 : Int32) : Prop := (p_X5_goesOn (sg_up σ 35 0 (0 : Int32)) ∧ (¬ (¬ ((s_X5_goesOn (sg_up σ 35 0 (0 : Int32))) 35 23) = (1 : Int32)) → (¬ ((v_X5_hasTarget (s_X5_goesOn (sg_up σ 35 0 (0 : Int32)))) = 0) → (¬ (v_X5_in x0 (0 : Int32) (3 : Int32)) = 0 → (p_X5_theTarget (s_X5_goesOn (sg_up σ 35 0 (0 : Int32))) ∧ (((2 : Int32) ≤ x0 → (p_X5_left (1 : Int32) ∧ ((¬ x0 = (3 : Int32) → p_X5_tells ((6 : Int32) * ((v_X5_theTarget (s_X5_goesOn (sg_up σ 35 0 (0 : Int32)))) - ((s_X5_goesOn (sg_up σ 35 0 (0 : Int32))) 41 1))) (v_X5_left (s_X5_goesOn (sg_up σ 35 0 (0 : Int32))) (1 : Int32)) (0 : Int32)) ∧ (¬ (¬ x0 = (3 : Int32)) → p_X5_tells ((6 : Int32) * ((v_X5_theTarget (s_X5_goesOn (sg_up σ 35 0 (0 : Int32)))) - ((s_X5_goesOn (sg_up σ 35 0 (0 : Int32))) 41 1))) (v_X5_left (s_X5_goesOn (sg_up σ 35 0 (0 : Int32))) (1 : Int32)) (1 : Int32))))) ∧ (¬ ((2 : Int32) ≤ x0) → (¬ x0 = 0 → p_X5_left (1 : Int32)))))))))
theorem m_X5_needs {s : List Int32} {σ : sg_S} (x0 : Int32) (hp : p_X5_needs σ x0) : Ct s 196 [rf 35, .inl x0] σ [.inl (r_X5_needs σ x0).1] (r_X5_needs σ x0).2 := by
  refine ct_v (la := [some (rf 35), some (.inl x0), none]) Kq_35 rfl rfl rfl rfl rfl rfl rfl (cgR ?_)
  unfold r_X5_needs
  unfold p_X5_needs at hp
  refine rt_lna rfl rfl ?_
  refine rt_k1 rfl ck1_0 ?_
  refine rt_pf (σ1 := (sg_up σ 35 0 (0 : Int32))) rfl Kq_35 (by decide) rfl rfl rfl ?_
  refine rt_lna rfl rfl ?_
  refine rt_iv (σ1 := (s_X5_goesOn (sg_up σ 35 0 (0 : Int32)))) rfl rfl rfl (m_X5_goesOn hp.1) ?_
  show RtF bk fR s 196 9 [some (rf 35), some (.inl x0), none] [] (s_X5_goesOn (sg_up σ 35 0 (0 : Int32))) _
  replace hp := hp.2
  refine rt_lna rfl rfl ?_
  refine rt_gfi rfl Kq_35 (by decide) rfl rfl ?_
  refine rt_k1 rfl ck1_1 ?_
  refine rt_ic rfl rfl (fun h => ?_) (fun h => ?_)
  · refine rt_k1 rfl ck1_m1 ?_
    exact rt_eR rfl
  · replace hp := hp h
    refine rt_lna rfl rfl ?_
    refine rt_iv (σ1 := (s_X5_goesOn (sg_up σ 35 0 (0 : Int32)))) rfl rfl rfl (m_X5_hasTarget) ?_
    show RtF bk fR s 196 21 [some (rf 35), some (.inl x0), none] [.inl (v_X5_hasTarget (s_X5_goesOn (sg_up σ 35 0 (0 : Int32))))] (s_X5_goesOn (sg_up σ 35 0 (0 : Int32))) _
    refine rt_if rfl rfl (fun h => ?_) (fun h => ?_)
    · refine rt_k1 rfl ck1_m1 ?_
      exact rt_eR rfl
    · replace hp := hp h
      refine rt_ln rfl rfl ?_
      refine rt_k1 rfl ck1_0 ?_
      refine rt_k1 rfl ck1_3 ?_
      refine rt_is (σ1 := (s_X5_goesOn (sg_up σ 35 0 (0 : Int32)))) rfl rfl rfl (m_X5_in x0 (0 : Int32) (3 : Int32)) ?_
      show RtF bk fR s 196 30 [some (rf 35), some (.inl x0), none] [.inl (v_X5_in x0 (0 : Int32) (3 : Int32))] (s_X5_goesOn (sg_up σ 35 0 (0 : Int32))) _
      refine rt_if rfl rfl (fun h => ?_) (fun h => ?_)
      · replace hp := hp h
        refine rt_lna rfl rfl ?_
        refine rt_iv (σ1 := (s_X5_goesOn (sg_up σ 35 0 (0 : Int32)))) rfl rfl rfl (m_X5_theTarget hp.1) ?_
        show RtF bk fR s 196 39 [some (rf 35), some (.inl x0), none] [.inl (v_X5_theTarget (s_X5_goesOn (sg_up σ 35 0 (0 : Int32))))] (s_X5_goesOn (sg_up σ 35 0 (0 : Int32))) _
        replace hp := hp.2
        refine rt_lna rfl rfl ?_
        refine rt_gfr rfl Kq_35 (by decide) rfl ?_
        refine rt_k1 rfl ck1_1 ?_
        refine rt_al (k0 := 1) rfl Kq_41 ⟨by decide, by decide⟩ rfl ?_
        refine rt_sub rfl ?_
        refine rt_sn (la1 := [some (rf 35), some (.inl x0), some (.inl ((v_X5_theTarget (s_X5_goesOn (sg_up σ 35 0 (0 : Int32)))) - ((s_X5_goesOn (sg_up σ 35 0 (0 : Int32))) 41 1)))]) rfl rfl rfl ?_
        refine rt_ln rfl rfl ?_
        refine rt_k1 rfl ck1_2 ?_
        refine rt_ic rfl rfl (fun h => ?_) (fun h => ?_)
        · replace hp := hp.1 h
          refine rt_k2 rfl ck2_6 ?_
          refine rt_ln rfl rfl ?_
          refine rt_mul rfl ?_
          refine rt_lna rfl rfl ?_
          refine rt_k1 rfl ck1_1 ?_
          refine rt_iv (σ1 := (s_X5_goesOn (sg_up σ 35 0 (0 : Int32)))) rfl rfl rfl (m_X5_left (1 : Int32) hp.1) ?_
          show RtF bk fR s 196 75 [some (rf 35), some (.inl x0), some (.inl ((v_X5_theTarget (s_X5_goesOn (sg_up σ 35 0 (0 : Int32)))) - ((s_X5_goesOn (sg_up σ 35 0 (0 : Int32))) 41 1)))] [.inl (v_X5_left (s_X5_goesOn (sg_up σ 35 0 (0 : Int32))) (1 : Int32)), .inl ((6 : Int32) * ((v_X5_theTarget (s_X5_goesOn (sg_up σ 35 0 (0 : Int32)))) - ((s_X5_goesOn (sg_up σ 35 0 (0 : Int32))) 41 1)))] (s_X5_goesOn (sg_up σ 35 0 (0 : Int32))) _
          replace hp := hp.2
          refine rt_ln rfl rfl ?_
          refine rt_k1 rfl ck1_3 ?_
          refine rt_ic rfl rfl (fun h => ?_) (fun h => ?_)
          · replace hp := hp.1 h
            refine rt_k1 rfl ck1_0 ?_
            refine rt_is (σ1 := (s_X5_goesOn (sg_up σ 35 0 (0 : Int32)))) rfl rfl rfl (m_X5_tells ((6 : Int32) * ((v_X5_theTarget (s_X5_goesOn (sg_up σ 35 0 (0 : Int32)))) - ((s_X5_goesOn (sg_up σ 35 0 (0 : Int32))) 41 1))) (v_X5_left (s_X5_goesOn (sg_up σ 35 0 (0 : Int32))) (1 : Int32)) (0 : Int32) hp) ?_
            show RtF bk fR s 196 88 [some (rf 35), some (.inl x0), some (.inl ((v_X5_theTarget (s_X5_goesOn (sg_up σ 35 0 (0 : Int32)))) - ((s_X5_goesOn (sg_up σ 35 0 (0 : Int32))) 41 1)))] [.inl (v_X5_tells ((6 : Int32) * ((v_X5_theTarget (s_X5_goesOn (sg_up σ 35 0 (0 : Int32)))) - ((s_X5_goesOn (sg_up σ 35 0 (0 : Int32))) 41 1))) (v_X5_left (s_X5_goesOn (sg_up σ 35 0 (0 : Int32))) (1 : Int32)) (0 : Int32))] (s_X5_goesOn (sg_up σ 35 0 (0 : Int32))) _
            exact rt_eR rfl
          · replace hp := hp.2 h
            refine rt_k1 rfl ck1_1 ?_
            refine rt_go rfl ?_
            refine rt_is (σ1 := (s_X5_goesOn (sg_up σ 35 0 (0 : Int32)))) rfl rfl rfl (m_X5_tells ((6 : Int32) * ((v_X5_theTarget (s_X5_goesOn (sg_up σ 35 0 (0 : Int32)))) - ((s_X5_goesOn (sg_up σ 35 0 (0 : Int32))) 41 1))) (v_X5_left (s_X5_goesOn (sg_up σ 35 0 (0 : Int32))) (1 : Int32)) (1 : Int32) hp) ?_
            show RtF bk fR s 196 88 [some (rf 35), some (.inl x0), some (.inl ((v_X5_theTarget (s_X5_goesOn (sg_up σ 35 0 (0 : Int32)))) - ((s_X5_goesOn (sg_up σ 35 0 (0 : Int32))) 41 1)))] [.inl (v_X5_tells ((6 : Int32) * ((v_X5_theTarget (s_X5_goesOn (sg_up σ 35 0 (0 : Int32)))) - ((s_X5_goesOn (sg_up σ 35 0 (0 : Int32))) 41 1))) (v_X5_left (s_X5_goesOn (sg_up σ 35 0 (0 : Int32))) (1 : Int32)) (1 : Int32))] (s_X5_goesOn (sg_up σ 35 0 (0 : Int32))) _
            exact rt_eR rfl
        · replace hp := hp.2 h
          refine rt_ln rfl rfl ?_
          refine rt_if rfl rfl (fun h => ?_) (fun h => ?_)
          · replace hp := hp h
            refine rt_lna rfl rfl ?_
            refine rt_k1 rfl ck1_1 ?_
            refine rt_iv (σ1 := (s_X5_goesOn (sg_up σ 35 0 (0 : Int32)))) rfl rfl rfl (m_X5_left (1 : Int32) hp) ?_
            show RtF bk fR s 196 65 [some (rf 35), some (.inl x0), some (.inl ((v_X5_theTarget (s_X5_goesOn (sg_up σ 35 0 (0 : Int32)))) - ((s_X5_goesOn (sg_up σ 35 0 (0 : Int32))) 41 1)))] [.inl (v_X5_left (s_X5_goesOn (sg_up σ 35 0 (0 : Int32))) (1 : Int32))] (s_X5_goesOn (sg_up σ 35 0 (0 : Int32))) _
            exact rt_eR rfl
          · refine rt_ln rfl rfl ?_
            refine rt_go rfl ?_
            exact rt_eR rfl
      · refine rt_k1 rfl ck1_m1 ?_
        exact rt_eR rfl
noncomputable def v_X5_more (x0 : Int32) (x1 : Int32) : Int32 := (if x0 ≤ x1 then (if x1 ≤ x0 then (0 : Int32) else (2 : Int32)) else (1 : Int32))
theorem m_X5_more {s : List Int32} {σ : sg_S} (x0 : Int32) (x1 : Int32) : Ct s 197 [.inl x0, .inl x1] σ [.inl (v_X5_more x0 x1)] σ := by
  refine ct_s (la := [some (.inl x0), some (.inl x1)]) rfl rfl rfl rfl rfl (cgV ?_)
  unfold v_X5_more
  refine rt_ln rfl rfl ?_
  refine rt_ln rfl rfl ?_
  refine rt_ic rfl rfl (fun h => ?_) (fun h => ?_)
  · refine rt_ln rfl rfl ?_
    refine rt_ln rfl rfl ?_
    refine rt_ic rfl rfl (fun h => ?_) (fun h => ?_)
    · refine rt_k1 rfl ck1_0 ?_
      exact rt_eV rfl
    · refine rt_k1 rfl ck1_2 ?_
      refine rt_go rfl ?_
      exact rt_eV rfl
  · refine rt_k1 rfl ck1_1 ?_
    refine rt_go rfl ?_
    exact rt_eV rfl
noncomputable def t_X5_broken_0 (σ : sg_S) (x0 : Int32) : sg_S := (r_X5_ofBlock (s_X5_goesOn (sg_up σ 35 0 (0 : Int32))) (0 : Int32) (0 : Int32) (0 : Int32)).2
noncomputable def t_X5_broken_1 (σ : sg_S) (x0 : Int32) : sg_S := (r_X5_ofBlock (t_X5_broken_0 σ x0) (1 : Int32) (0 : Int32) (0 : Int32)).2
noncomputable def r_X5_broken (σ : sg_S) (x0 : Int32) : Int32 × sg_S := (if ((s_X5_goesOn (sg_up σ 35 0 (0 : Int32))) 35 23) < (2 : Int32) then ((-1 : Int32), (s_X5_goesOn (sg_up σ 35 0 (0 : Int32)))) else (if ¬ (v_X5_resultNow (s_X5_goesOn (sg_up σ 35 0 (0 : Int32)))) = (3 : Int32) then ((-1 : Int32), (s_X5_goesOn (sg_up σ 35 0 (0 : Int32)))) else (if ¬ (v_X5_in x0 (0 : Int32) (3 : Int32)) = 0 then (if x0 = 0 then ((v_X5_more ((s_X5_goesOn (sg_up σ 35 0 (0 : Int32))) 42 1) ((s_X5_goesOn (sg_up σ 35 0 (0 : Int32))) 42 0)), (s_X5_goesOn (sg_up σ 35 0 (0 : Int32)))) else (if x0 = 1 then ((v_X5_more (r_X5_ofBlock (s_X5_goesOn (sg_up σ 35 0 (0 : Int32))) (0 : Int32) (0 : Int32) (0 : Int32)).1 (r_X5_ofBlock (t_X5_broken_0 σ x0) (1 : Int32) (0 : Int32) (0 : Int32)).1), (t_X5_broken_1 σ x0)) else (if x0 = 2 then ((v_X5_more (((s_X5_goesOn (sg_up σ 35 0 (0 : Int32))) 56 4) + ((s_X5_goesOn (sg_up σ 35 0 (0 : Int32))) 56 6)) (((s_X5_goesOn (sg_up σ 35 0 (0 : Int32))) 56 11) + ((s_X5_goesOn (sg_up σ 35 0 (0 : Int32))) 56 13))), (s_X5_goesOn (sg_up σ 35 0 (0 : Int32)))) else ((v_X5_more ((s_X5_goesOn (sg_up σ 35 0 (0 : Int32))) 53 (ni (v_X5_bestOverOf (s_X5_goesOn (sg_up σ 35 0 (0 : Int32))) (0 : Int32)))) ((s_X5_goesOn (sg_up σ 35 0 (0 : Int32))) 53 (ni ((20 : Int32) + (v_X5_bestOverOf (s_X5_goesOn (sg_up σ 35 0 (0 : Int32))) (1 : Int32)))))), (s_X5_goesOn (sg_up σ 35 0 (0 : Int32))))))) else ((-1 : Int32), (s_X5_goesOn (sg_up σ 35 0 (0 : Int32)))))))
noncomputable def p_X5_broken (σ : sg_S) (x0 : Int32) : Prop := (p_X5_goesOn (sg_up σ 35 0 (0 : Int32)) ∧ (¬ (((s_X5_goesOn (sg_up σ 35 0 (0 : Int32))) 35 23) < (2 : Int32)) → (p_X5_resultNow (s_X5_goesOn (sg_up σ 35 0 (0 : Int32))) ∧ (¬ (¬ (v_X5_resultNow (s_X5_goesOn (sg_up σ 35 0 (0 : Int32)))) = (3 : Int32)) → (¬ (v_X5_in x0 (0 : Int32) (3 : Int32)) = 0 → (¬ (x0 = 0) → ((x0 = 1 → (p_X5_ofBlock (s_X5_goesOn (sg_up σ 35 0 (0 : Int32))) (0 : Int32) (0 : Int32) (0 : Int32) ∧ p_X5_ofBlock (t_X5_broken_0 σ x0) (1 : Int32) (0 : Int32) (0 : Int32))) ∧ (¬ (x0 = 1) → (¬ (x0 = 2) → (p_X5_bestOverOf (s_X5_goesOn (sg_up σ 35 0 (0 : Int32))) (0 : Int32) ∧ (ix (v_X5_bestOverOf (s_X5_goesOn (sg_up σ 35 0 (0 : Int32))) (0 : Int32)) 40 ∧ (p_X5_bestOverOf (s_X5_goesOn (sg_up σ 35 0 (0 : Int32))) (1 : Int32) ∧ ix ((20 : Int32) + (v_X5_bestOverOf (s_X5_goesOn (sg_up σ 35 0 (0 : Int32))) (1 : Int32))) 40))))))))))))
theorem m_X5_broken {s : List Int32} {σ : sg_S} (x0 : Int32) (hp : p_X5_broken σ x0) : Ct s 198 [rf 35, .inl x0] σ [.inl (r_X5_broken σ x0).1] (r_X5_broken σ x0).2 := by
  refine ct_v (la := [some (rf 35), some (.inl x0)]) Kq_35 rfl rfl rfl rfl rfl rfl rfl (cgR ?_)
  unfold r_X5_broken
  unfold p_X5_broken at hp
  refine rt_lna rfl rfl ?_
  refine rt_k1 rfl ck1_0 ?_
  refine rt_pf (σ1 := (sg_up σ 35 0 (0 : Int32))) rfl Kq_35 (by decide) rfl rfl rfl ?_
  refine rt_lna rfl rfl ?_
  refine rt_iv (σ1 := (s_X5_goesOn (sg_up σ 35 0 (0 : Int32)))) rfl rfl rfl (m_X5_goesOn hp.1) ?_
  show RtF bk fR s 198 9 [some (rf 35), some (.inl x0)] [] (s_X5_goesOn (sg_up σ 35 0 (0 : Int32))) _
  replace hp := hp.2
  refine rt_lna rfl rfl ?_
  refine rt_gfi rfl Kq_35 (by decide) rfl rfl ?_
  refine rt_k1 rfl ck1_2 ?_
  refine rt_ic rfl rfl (fun h => ?_) (fun h => ?_)
  · refine rt_k1 rfl ck1_m1 ?_
    exact rt_eR rfl
  · replace hp := hp h
    refine rt_lna rfl rfl ?_
    refine rt_iv (σ1 := (s_X5_goesOn (sg_up σ 35 0 (0 : Int32)))) rfl rfl rfl (m_X5_resultNow hp.1) ?_
    show RtF bk fR s 198 21 [some (rf 35), some (.inl x0)] [.inl (v_X5_resultNow (s_X5_goesOn (sg_up σ 35 0 (0 : Int32))))] (s_X5_goesOn (sg_up σ 35 0 (0 : Int32))) _
    replace hp := hp.2
    refine rt_k1 rfl ck1_3 ?_
    refine rt_ic rfl rfl (fun h => ?_) (fun h => ?_)
    · refine rt_k1 rfl ck1_m1 ?_
      exact rt_eR rfl
    · replace hp := hp h
      refine rt_ln rfl rfl ?_
      refine rt_k1 rfl ck1_0 ?_
      refine rt_k1 rfl ck1_3 ?_
      refine rt_is (σ1 := (s_X5_goesOn (sg_up σ 35 0 (0 : Int32)))) rfl rfl rfl (m_X5_in x0 (0 : Int32) (3 : Int32)) ?_
      show RtF bk fR s 198 31 [some (rf 35), some (.inl x0)] [.inl (v_X5_in x0 (0 : Int32) (3 : Int32))] (s_X5_goesOn (sg_up σ 35 0 (0 : Int32))) _
      refine rt_if rfl rfl (fun h => ?_) (fun h => ?_)
      · replace hp := hp h
        refine rt_ln rfl rfl ?_
        refine rt_ite (fun h => ?_) (fun h => ?_)
        · refine rt_eq h ?_
          refine rt_step rfl rfl rfl ?_
          refine rt_lna rfl rfl ?_
          refine rt_gfr rfl Kq_35 (by decide) rfl ?_
          refine rt_k1 rfl ck1_1 ?_
          refine rt_al (k0 := 1) rfl Kq_42 ⟨by decide, by decide⟩ rfl ?_
          refine rt_lna rfl rfl ?_
          refine rt_gfr rfl Kq_35 (by decide) rfl ?_
          refine rt_k1 rfl ck1_0 ?_
          refine rt_al (k0 := 0) rfl Kq_42 ⟨by decide, by decide⟩ rfl ?_
          refine rt_is (σ1 := (s_X5_goesOn (sg_up σ 35 0 (0 : Int32)))) rfl rfl rfl (m_X5_more ((s_X5_goesOn (sg_up σ 35 0 (0 : Int32))) 42 1) ((s_X5_goesOn (sg_up σ 35 0 (0 : Int32))) 42 0)) ?_
          show RtF bk fR s 198 79 [some (rf 35), some (.inl x0)] [.inl (v_X5_more ((s_X5_goesOn (sg_up σ 35 0 (0 : Int32))) 42 1) ((s_X5_goesOn (sg_up σ 35 0 (0 : Int32))) 42 0))] (s_X5_goesOn (sg_up σ 35 0 (0 : Int32))) _
          exact rt_eR rfl
        · have e0 := h
          replace hp := hp h
          refine rt_ite (fun h => ?_) (fun h => ?_)
          · replace hp := hp.1 h
            refine rt_eq h ?_
            refine rt_step rfl rfl rfl ?_
            refine rt_lna rfl rfl ?_
            refine rt_k1 rfl ck1_0 ?_
            refine rt_k1 rfl ck1_0 ?_
            refine rt_k1 rfl ck1_0 ?_
            refine rt_iv (σ1 := (t_X5_broken_0 σ x0)) rfl rfl rfl (m_X5_ofBlock (0 : Int32) (0 : Int32) (0 : Int32) hp.1) ?_
            show RtF bk fR s 198 87 [some (rf 35), some (.inl x0)] [.inl (r_X5_ofBlock (s_X5_goesOn (sg_up σ 35 0 (0 : Int32))) (0 : Int32) (0 : Int32) (0 : Int32)).1] (t_X5_broken_0 σ x0) _
            replace hp := hp.2
            refine rt_lna rfl rfl ?_
            refine rt_k1 rfl ck1_1 ?_
            refine rt_k1 rfl ck1_0 ?_
            refine rt_k1 rfl ck1_0 ?_
            refine rt_iv (σ1 := (t_X5_broken_1 σ x0)) rfl rfl rfl (m_X5_ofBlock (1 : Int32) (0 : Int32) (0 : Int32) hp) ?_
            show RtF bk fR s 198 94 [some (rf 35), some (.inl x0)] [.inl (r_X5_ofBlock (t_X5_broken_0 σ x0) (1 : Int32) (0 : Int32) (0 : Int32)).1, .inl (r_X5_ofBlock (s_X5_goesOn (sg_up σ 35 0 (0 : Int32))) (0 : Int32) (0 : Int32) (0 : Int32)).1] (t_X5_broken_1 σ x0) _
            refine rt_is (σ1 := (t_X5_broken_1 σ x0)) rfl rfl rfl (m_X5_more (r_X5_ofBlock (s_X5_goesOn (sg_up σ 35 0 (0 : Int32))) (0 : Int32) (0 : Int32) (0 : Int32)).1 (r_X5_ofBlock (t_X5_broken_0 σ x0) (1 : Int32) (0 : Int32) (0 : Int32)).1) ?_
            show RtF bk fR s 198 97 [some (rf 35), some (.inl x0)] [.inl (v_X5_more (r_X5_ofBlock (s_X5_goesOn (sg_up σ 35 0 (0 : Int32))) (0 : Int32) (0 : Int32) (0 : Int32)).1 (r_X5_ofBlock (t_X5_broken_0 σ x0) (1 : Int32) (0 : Int32) (0 : Int32)).1)] (t_X5_broken_1 σ x0) _
            exact rt_eR rfl
          · have e1 := h
            replace hp := hp.2 h
            refine rt_ite (fun h => ?_) (fun h => ?_)
            · refine rt_eq h ?_
              refine rt_step rfl rfl rfl ?_
              refine rt_lna rfl rfl ?_
              refine rt_gfr rfl Kq_35 (by decide) rfl ?_
              refine rt_k1 rfl ck1_4 ?_
              refine rt_al (k0 := 4) rfl Kq_56 ⟨by decide, by decide⟩ rfl ?_
              refine rt_lna rfl rfl ?_
              refine rt_gfr rfl Kq_35 (by decide) rfl ?_
              refine rt_k2 rfl ck2_6 ?_
              refine rt_al (k0 := 6) rfl Kq_56 ⟨by decide, by decide⟩ rfl ?_
              refine rt_add rfl ?_
              refine rt_lna rfl rfl ?_
              refine rt_gfr rfl Kq_35 (by decide) rfl ?_
              refine rt_k2 rfl ck2_11 ?_
              refine rt_al (k0 := 11) rfl Kq_56 ⟨by decide, by decide⟩ rfl ?_
              refine rt_lna rfl rfl ?_
              refine rt_gfr rfl Kq_35 (by decide) rfl ?_
              refine rt_k2 rfl ck2_13 ?_
              refine rt_al (k0 := 13) rfl Kq_56 ⟨by decide, by decide⟩ rfl ?_
              refine rt_add rfl ?_
              refine rt_is (σ1 := (s_X5_goesOn (sg_up σ 35 0 (0 : Int32)))) rfl rfl rfl (m_X5_more (((s_X5_goesOn (sg_up σ 35 0 (0 : Int32))) 56 4) + ((s_X5_goesOn (sg_up σ 35 0 (0 : Int32))) 56 6)) (((s_X5_goesOn (sg_up σ 35 0 (0 : Int32))) 56 11) + ((s_X5_goesOn (sg_up σ 35 0 (0 : Int32))) 56 13))) ?_
              show RtF bk fR s 198 130 [some (rf 35), some (.inl x0)] [.inl (v_X5_more (((s_X5_goesOn (sg_up σ 35 0 (0 : Int32))) 56 4) + ((s_X5_goesOn (sg_up σ 35 0 (0 : Int32))) 56 6)) (((s_X5_goesOn (sg_up σ 35 0 (0 : Int32))) 56 11) + ((s_X5_goesOn (sg_up σ 35 0 (0 : Int32))) 56 13)))] (s_X5_goesOn (sg_up σ 35 0 (0 : Int32))) _
              exact rt_eR rfl
            · have e2 := h
              replace hp := hp h
              refine rt_tsd (pc1 := 131) rfl (ts_out (n := 3) (by decide) (fun k hk => match k, hk with | 0, _ => e0 | 1, _ => e1 | 2, _ => e2 | k + 3, hk => absurd hk (by omega))) rfl ?_
              refine rt_lna rfl rfl ?_
              refine rt_gfr rfl Kq_35 (by decide) rfl ?_
              refine rt_lna rfl rfl ?_
              refine rt_k1 rfl ck1_0 ?_
              refine rt_iv (σ1 := (s_X5_goesOn (sg_up σ 35 0 (0 : Int32)))) rfl rfl rfl (m_X5_bestOverOf (0 : Int32) hp.1) ?_
              show RtF bk fR s 198 140 [some (rf 35), some (.inl x0)] [.inl (v_X5_bestOverOf (s_X5_goesOn (sg_up σ 35 0 (0 : Int32))) (0 : Int32)), rf 53] (s_X5_goesOn (sg_up σ 35 0 (0 : Int32))) _
              replace hp := hp.2
              refine rt_al rfl Kq_53 hp.1 rfl ?_
              replace hp := hp.2
              refine rt_lna rfl rfl ?_
              refine rt_gfr rfl Kq_35 (by decide) rfl ?_
              refine rt_k2 rfl ck2_20 ?_
              refine rt_lna rfl rfl ?_
              refine rt_k1 rfl ck1_1 ?_
              refine rt_iv (σ1 := (s_X5_goesOn (sg_up σ 35 0 (0 : Int32)))) rfl rfl rfl (m_X5_bestOverOf (1 : Int32) hp.1) ?_
              show RtF bk fR s 198 152 [some (rf 35), some (.inl x0)] [.inl (v_X5_bestOverOf (s_X5_goesOn (sg_up σ 35 0 (0 : Int32))) (1 : Int32)), .inl (20 : Int32), rf 53, .inl ((s_X5_goesOn (sg_up σ 35 0 (0 : Int32))) 53 (ni (v_X5_bestOverOf (s_X5_goesOn (sg_up σ 35 0 (0 : Int32))) (0 : Int32))))] (s_X5_goesOn (sg_up σ 35 0 (0 : Int32))) _
              replace hp := hp.2
              refine rt_add rfl ?_
              refine rt_al rfl Kq_53 hp rfl ?_
              refine rt_is (σ1 := (s_X5_goesOn (sg_up σ 35 0 (0 : Int32)))) rfl rfl rfl (m_X5_more ((s_X5_goesOn (sg_up σ 35 0 (0 : Int32))) 53 (ni (v_X5_bestOverOf (s_X5_goesOn (sg_up σ 35 0 (0 : Int32))) (0 : Int32)))) ((s_X5_goesOn (sg_up σ 35 0 (0 : Int32))) 53 (ni ((20 : Int32) + (v_X5_bestOverOf (s_X5_goesOn (sg_up σ 35 0 (0 : Int32))) (1 : Int32)))))) ?_
              show RtF bk fR s 198 157 [some (rf 35), some (.inl x0)] [.inl (v_X5_more ((s_X5_goesOn (sg_up σ 35 0 (0 : Int32))) 53 (ni (v_X5_bestOverOf (s_X5_goesOn (sg_up σ 35 0 (0 : Int32))) (0 : Int32)))) ((s_X5_goesOn (sg_up σ 35 0 (0 : Int32))) 53 (ni ((20 : Int32) + (v_X5_bestOverOf (s_X5_goesOn (sg_up σ 35 0 (0 : Int32))) (1 : Int32))))))] (s_X5_goesOn (sg_up σ 35 0 (0 : Int32))) _
              exact rt_eR rfl
      · refine rt_k1 rfl ck1_m1 ?_
        exact rt_eR rfl
noncomputable def r_X5_ifCut (σ : sg_S) (x0 : Int32) : Int32 × sg_S := (if ¬ ((s_X5_goesOn (sg_up σ 35 0 (0 : Int32))) 35 23) = (1 : Int32) then ((-1 : Int32), (s_X5_goesOn (sg_up σ 35 0 (0 : Int32)))) else (if (v_X5_hasTarget (s_X5_goesOn (sg_up σ 35 0 (0 : Int32)))) = 0 then ((-1 : Int32), (s_X5_goesOn (sg_up σ 35 0 (0 : Int32)))) else (if (v_X5_mayCut (s_X5_goesOn (sg_up σ 35 0 (0 : Int32))) x0) = 0 then ((-1 : Int32), (s_X5_goesOn (sg_up σ 35 0 (0 : Int32)))) else ((v_X5_targetOf (s_X5_goesOn (sg_up σ 35 0 (0 : Int32))) ((s_X5_goesOn (sg_up σ 35 0 (0 : Int32))) 41 0) (((s_X5_goesOn (sg_up σ 35 0 (0 : Int32))) 45 1) - (v_X5_takes (s_X5_goesOn (sg_up σ 35 0 (0 : Int32))) (1 : Int32) x0))), (s_X5_goesOn (sg_up σ 35 0 (0 : Int32)))))))
noncomputable def p_X5_ifCut (σ : sg_S) (x0 : Int32) : Prop := (p_X5_goesOn (sg_up σ 35 0 (0 : Int32)) ∧ (¬ (¬ ((s_X5_goesOn (sg_up σ 35 0 (0 : Int32))) 35 23) = (1 : Int32)) → (¬ ((v_X5_hasTarget (s_X5_goesOn (sg_up σ 35 0 (0 : Int32)))) = 0) → (p_X5_mayCut (s_X5_goesOn (sg_up σ 35 0 (0 : Int32))) x0 ∧ (¬ ((v_X5_mayCut (s_X5_goesOn (sg_up σ 35 0 (0 : Int32))) x0) = 0) → (p_X5_takes (s_X5_goesOn (sg_up σ 35 0 (0 : Int32))) (1 : Int32) x0 ∧ p_X5_targetOf (s_X5_goesOn (sg_up σ 35 0 (0 : Int32))) ((s_X5_goesOn (sg_up σ 35 0 (0 : Int32))) 41 0) (((s_X5_goesOn (sg_up σ 35 0 (0 : Int32))) 45 1) - (v_X5_takes (s_X5_goesOn (sg_up σ 35 0 (0 : Int32))) (1 : Int32) x0))))))))
theorem m_X5_ifCut {s : List Int32} {σ : sg_S} (x0 : Int32) (hp : p_X5_ifCut σ x0) : Ct s 199 [rf 35, .inl x0] σ [.inl (r_X5_ifCut σ x0).1] (r_X5_ifCut σ x0).2 := by
  refine ct_v (la := [some (rf 35), some (.inl x0)]) Kq_35 rfl rfl rfl rfl rfl rfl rfl (cgR ?_)
  unfold r_X5_ifCut
  unfold p_X5_ifCut at hp
  refine rt_lna rfl rfl ?_
  refine rt_k1 rfl ck1_0 ?_
  refine rt_pf (σ1 := (sg_up σ 35 0 (0 : Int32))) rfl Kq_35 (by decide) rfl rfl rfl ?_
  refine rt_lna rfl rfl ?_
  refine rt_iv (σ1 := (s_X5_goesOn (sg_up σ 35 0 (0 : Int32)))) rfl rfl rfl (m_X5_goesOn hp.1) ?_
  show RtF bk fR s 199 9 [some (rf 35), some (.inl x0)] [] (s_X5_goesOn (sg_up σ 35 0 (0 : Int32))) _
  replace hp := hp.2
  refine rt_lna rfl rfl ?_
  refine rt_gfi rfl Kq_35 (by decide) rfl rfl ?_
  refine rt_k1 rfl ck1_1 ?_
  refine rt_ic rfl rfl (fun h => ?_) (fun h => ?_)
  · refine rt_k1 rfl ck1_m1 ?_
    exact rt_eR rfl
  · replace hp := hp h
    refine rt_lna rfl rfl ?_
    refine rt_iv (σ1 := (s_X5_goesOn (sg_up σ 35 0 (0 : Int32)))) rfl rfl rfl (m_X5_hasTarget) ?_
    show RtF bk fR s 199 21 [some (rf 35), some (.inl x0)] [.inl (v_X5_hasTarget (s_X5_goesOn (sg_up σ 35 0 (0 : Int32))))] (s_X5_goesOn (sg_up σ 35 0 (0 : Int32))) _
    refine rt_if rfl rfl (fun h => ?_) (fun h => ?_)
    · refine rt_k1 rfl ck1_m1 ?_
      exact rt_eR rfl
    · replace hp := hp h
      refine rt_lna rfl rfl ?_
      refine rt_ln rfl rfl ?_
      refine rt_iv (σ1 := (s_X5_goesOn (sg_up σ 35 0 (0 : Int32)))) rfl rfl rfl (m_X5_mayCut x0 hp.1) ?_
      show RtF bk fR s 199 29 [some (rf 35), some (.inl x0)] [.inl (v_X5_mayCut (s_X5_goesOn (sg_up σ 35 0 (0 : Int32))) x0)] (s_X5_goesOn (sg_up σ 35 0 (0 : Int32))) _
      replace hp := hp.2
      refine rt_if rfl rfl (fun h => ?_) (fun h => ?_)
      · refine rt_k1 rfl ck1_m1 ?_
        exact rt_eR rfl
      · replace hp := hp h
        refine rt_lna rfl rfl ?_
        refine rt_lna rfl rfl ?_
        refine rt_gfr rfl Kq_35 (by decide) rfl ?_
        refine rt_k1 rfl ck1_0 ?_
        refine rt_al (k0 := 0) rfl Kq_41 ⟨by decide, by decide⟩ rfl ?_
        refine rt_lna rfl rfl ?_
        refine rt_gfr rfl Kq_35 (by decide) rfl ?_
        refine rt_k1 rfl ck1_1 ?_
        refine rt_al (k0 := 1) rfl Kq_45 ⟨by decide, by decide⟩ rfl ?_
        refine rt_lna rfl rfl ?_
        refine rt_k1 rfl ck1_1 ?_
        refine rt_ln rfl rfl ?_
        refine rt_iv (σ1 := (s_X5_goesOn (sg_up σ 35 0 (0 : Int32)))) rfl rfl rfl (m_X5_takes (1 : Int32) x0 hp.1) ?_
        show RtF bk fR s 199 51 [some (rf 35), some (.inl x0)] [.inl (v_X5_takes (s_X5_goesOn (sg_up σ 35 0 (0 : Int32))) (1 : Int32) x0), .inl ((s_X5_goesOn (sg_up σ 35 0 (0 : Int32))) 45 1), .inl ((s_X5_goesOn (sg_up σ 35 0 (0 : Int32))) 41 0), rf 35] (s_X5_goesOn (sg_up σ 35 0 (0 : Int32))) _
        replace hp := hp.2
        refine rt_sub rfl ?_
        refine rt_iv (σ1 := (s_X5_goesOn (sg_up σ 35 0 (0 : Int32)))) rfl rfl rfl (m_X5_targetOf ((s_X5_goesOn (sg_up σ 35 0 (0 : Int32))) 41 0) (((s_X5_goesOn (sg_up σ 35 0 (0 : Int32))) 45 1) - (v_X5_takes (s_X5_goesOn (sg_up σ 35 0 (0 : Int32))) (1 : Int32) x0)) hp) ?_
        show RtF bk fR s 199 55 [some (rf 35), some (.inl x0)] [.inl (v_X5_targetOf (s_X5_goesOn (sg_up σ 35 0 (0 : Int32))) ((s_X5_goesOn (sg_up σ 35 0 (0 : Int32))) 41 0) (((s_X5_goesOn (sg_up σ 35 0 (0 : Int32))) 45 1) - (v_X5_takes (s_X5_goesOn (sg_up σ 35 0 (0 : Int32))) (1 : Int32) x0)))] (s_X5_goesOn (sg_up σ 35 0 (0 : Int32))) _
        refine rt_go rfl ?_
        exact rt_eR rfl
noncomputable def t_X5_ifClosed_0 (σ : sg_S) : sg_S := (s_X5_goes (s_X5_goesOn (sg_up σ 35 0 (0 : Int32))) (47 : Int32) (0 : Int32))
noncomputable def r_X5_ifClosed (σ : sg_S) : Int32 × sg_S := (if ((s_X5_goesOn (sg_up σ 35 0 (0 : Int32))) 35 23) = (1 : Int32) then ((v_X5_resultNow (t_X5_ifClosed_0 σ)), (t_X5_ifClosed_0 σ)) else ((-1 : Int32), (s_X5_goesOn (sg_up σ 35 0 (0 : Int32)))))
noncomputable def p_X5_ifClosed (σ : sg_S) : Prop := (p_X5_goesOn (sg_up σ 35 0 (0 : Int32)) ∧ (((s_X5_goesOn (sg_up σ 35 0 (0 : Int32))) 35 23) = (1 : Int32) → (p_X5_goes (s_X5_goesOn (sg_up σ 35 0 (0 : Int32))) (47 : Int32) (0 : Int32) ∧ p_X5_resultNow (t_X5_ifClosed_0 σ))))
theorem m_X5_ifClosed {s : List Int32} {σ : sg_S} (hp : p_X5_ifClosed σ) : Ct s 200 [rf 35] σ [.inl (r_X5_ifClosed σ).1] (r_X5_ifClosed σ).2 := by
  refine ct_v (la := [some (rf 35)]) Kq_35 rfl rfl rfl rfl rfl rfl rfl (cgR ?_)
  unfold r_X5_ifClosed
  unfold p_X5_ifClosed at hp
  refine rt_lna rfl rfl ?_
  refine rt_k1 rfl ck1_0 ?_
  refine rt_pf (σ1 := (sg_up σ 35 0 (0 : Int32))) rfl Kq_35 (by decide) rfl rfl rfl ?_
  refine rt_lna rfl rfl ?_
  refine rt_iv (σ1 := (s_X5_goesOn (sg_up σ 35 0 (0 : Int32)))) rfl rfl rfl (m_X5_goesOn hp.1) ?_
  show RtF bk fR s 200 9 [some (rf 35)] [] (s_X5_goesOn (sg_up σ 35 0 (0 : Int32))) _
  replace hp := hp.2
  refine rt_lna rfl rfl ?_
  refine rt_gfi rfl Kq_35 (by decide) rfl rfl ?_
  refine rt_k1 rfl ck1_1 ?_
  refine rt_ic rfl rfl (fun h => ?_) (fun h => ?_)
  · replace hp := hp h
    refine rt_lna rfl rfl ?_
    refine rt_k2 rfl ck2_47 ?_
    refine rt_k1 rfl ck1_0 ?_
    refine rt_iv (σ1 := (t_X5_ifClosed_0 σ)) rfl rfl rfl (m_X5_goes (47 : Int32) (0 : Int32) hp.1) ?_
    show RtF bk fR s 200 26 [some (rf 35)] [] (t_X5_ifClosed_0 σ) _
    replace hp := hp.2
    refine rt_lna rfl rfl ?_
    refine rt_iv (σ1 := (t_X5_ifClosed_0 σ)) rfl rfl rfl (m_X5_resultNow hp) ?_
    show RtF bk fR s 200 30 [some (rf 35)] [.inl (v_X5_resultNow (t_X5_ifClosed_0 σ))] (t_X5_ifClosed_0 σ) _
    exact rt_eR rfl
  · refine rt_k1 rfl ck1_m1 ?_
    exact rt_eR rfl
noncomputable def r_X5_ifRuns (σ : sg_S) (x0 : Int32) : Int32 × sg_S := (if (v_X5_hasTarget (s_X5_goesOn (sg_up σ 35 0 (0 : Int32)))) = 0 then ((-1 : Int32), (s_X5_goesOn (sg_up σ 35 0 (0 : Int32)))) else (if (v_X5_in x0 (0 : Int32) (999 : Int32)) = 0 then ((-1 : Int32), (s_X5_goesOn (sg_up σ 35 0 (0 : Int32)))) else ((v_X5_targetOf (s_X5_goesOn (sg_up σ 35 0 (0 : Int32))) x0 (v_X5_partOfSecond (s_X5_goesOn (sg_up σ 35 0 (0 : Int32))))), (s_X5_goesOn (sg_up σ 35 0 (0 : Int32))))))
noncomputable def p_X5_ifRuns (σ : sg_S) (x0 : Int32) : Prop := (p_X5_goesOn (sg_up σ 35 0 (0 : Int32)) ∧ (¬ ((v_X5_hasTarget (s_X5_goesOn (sg_up σ 35 0 (0 : Int32)))) = 0) → (¬ ((v_X5_in x0 (0 : Int32) (999 : Int32)) = 0) → p_X5_targetOf (s_X5_goesOn (sg_up σ 35 0 (0 : Int32))) x0 (v_X5_partOfSecond (s_X5_goesOn (sg_up σ 35 0 (0 : Int32)))))))
theorem m_X5_ifRuns {s : List Int32} {σ : sg_S} (x0 : Int32) (hp : p_X5_ifRuns σ x0) : Ct s 201 [rf 35, .inl x0] σ [.inl (r_X5_ifRuns σ x0).1] (r_X5_ifRuns σ x0).2 := by
  refine ct_v (la := [some (rf 35), some (.inl x0)]) Kq_35 rfl rfl rfl rfl rfl rfl rfl (cgR ?_)
  unfold r_X5_ifRuns
  unfold p_X5_ifRuns at hp
  refine rt_lna rfl rfl ?_
  refine rt_k1 rfl ck1_0 ?_
  refine rt_pf (σ1 := (sg_up σ 35 0 (0 : Int32))) rfl Kq_35 (by decide) rfl rfl rfl ?_
  refine rt_lna rfl rfl ?_
  refine rt_iv (σ1 := (s_X5_goesOn (sg_up σ 35 0 (0 : Int32)))) rfl rfl rfl (m_X5_goesOn hp.1) ?_
  show RtF bk fR s 201 9 [some (rf 35), some (.inl x0)] [] (s_X5_goesOn (sg_up σ 35 0 (0 : Int32))) _
  replace hp := hp.2
  refine rt_lna rfl rfl ?_
  refine rt_iv (σ1 := (s_X5_goesOn (sg_up σ 35 0 (0 : Int32)))) rfl rfl rfl (m_X5_hasTarget) ?_
  show RtF bk fR s 201 13 [some (rf 35), some (.inl x0)] [.inl (v_X5_hasTarget (s_X5_goesOn (sg_up σ 35 0 (0 : Int32))))] (s_X5_goesOn (sg_up σ 35 0 (0 : Int32))) _
  refine rt_if rfl rfl (fun h => ?_) (fun h => ?_)
  · refine rt_k1 rfl ck1_m1 ?_
    exact rt_eR rfl
  · replace hp := hp h
    refine rt_ln rfl rfl ?_
    refine rt_k1 rfl ck1_0 ?_
    refine rt_k3 rfl ck3_999 ?_
    refine rt_is (σ1 := (s_X5_goesOn (sg_up σ 35 0 (0 : Int32)))) rfl rfl rfl (m_X5_in x0 (0 : Int32) (999 : Int32)) ?_
    show RtF bk fR s 201 24 [some (rf 35), some (.inl x0)] [.inl (v_X5_in x0 (0 : Int32) (999 : Int32))] (s_X5_goesOn (sg_up σ 35 0 (0 : Int32))) _
    refine rt_if rfl rfl (fun h => ?_) (fun h => ?_)
    · refine rt_k1 rfl ck1_m1 ?_
      exact rt_eR rfl
    · replace hp := hp h
      refine rt_lna rfl rfl ?_
      refine rt_ln rfl rfl ?_
      refine rt_lna rfl rfl ?_
      refine rt_iv (σ1 := (s_X5_goesOn (sg_up σ 35 0 (0 : Int32)))) rfl rfl rfl (m_X5_partOfSecond) ?_
      show RtF bk fR s 201 33 [some (rf 35), some (.inl x0)] [.inl (v_X5_partOfSecond (s_X5_goesOn (sg_up σ 35 0 (0 : Int32)))), .inl x0, rf 35] (s_X5_goesOn (sg_up σ 35 0 (0 : Int32))) _
      refine rt_iv (σ1 := (s_X5_goesOn (sg_up σ 35 0 (0 : Int32)))) rfl rfl rfl (m_X5_targetOf x0 (v_X5_partOfSecond (s_X5_goesOn (sg_up σ 35 0 (0 : Int32)))) hp) ?_
      show RtF bk fR s 201 36 [some (rf 35), some (.inl x0)] [.inl (v_X5_targetOf (s_X5_goesOn (sg_up σ 35 0 (0 : Int32))) x0 (v_X5_partOfSecond (s_X5_goesOn (sg_up σ 35 0 (0 : Int32)))))] (s_X5_goesOn (sg_up σ 35 0 (0 : Int32))) _
      refine rt_go rfl ?_
      exact rt_eR rfl
noncomputable def r_X5_leastCut_b28 (k28 : sg_S → Int32 → Int32 → Int32 × sg_S) (σ : sg_S) (x1_ : Int32) (x2_ : Int32) : Int32 × sg_S := (if (σ 44 1) ≤ x2_ then ((-1 : Int32), σ) else (if (v_X5_mayCut σ x2_) = 0 then (k28 σ x1_ (x2_ + (1 : Int32))) else (if ((v_X5_targetOf σ (σ 41 0) ((σ 45 1) - (v_X5_takes σ (1 : Int32) x2_))) - (σ 41 1)) < x1_ then (k28 σ x1_ (x2_ + (1 : Int32))) else (x2_, σ))))
noncomputable def p_X5_leastCut_b28 (kp28 : sg_S → Int32 → Int32 → Prop) (σ : sg_S) (x1_ : Int32) (x2_ : Int32) : Prop := (¬ ((σ 44 1) ≤ x2_) → (p_X5_mayCut σ x2_ ∧ (((v_X5_mayCut σ x2_) = 0 → (kp28 σ x1_ (x2_ + (1 : Int32)))) ∧ (¬ ((v_X5_mayCut σ x2_) = 0) → (p_X5_takes σ (1 : Int32) x2_ ∧ (p_X5_targetOf σ (σ 41 0) ((σ 45 1) - (v_X5_takes σ (1 : Int32) x2_)) ∧ (((v_X5_targetOf σ (σ 41 0) ((σ 45 1) - (v_X5_takes σ (1 : Int32) x2_))) - (σ 41 1)) < x1_ → (kp28 σ x1_ (x2_ + (1 : Int32))))))))))
theorem m_X5_leastCut_b28 {s : List Int32} (k28 : sg_S → Int32 → Int32 → Int32 × sg_S) (kp28 : sg_S → Int32 → Int32 → Prop) (hk28 : ∀ (σ : sg_S) (x1_ : Int32) (x2_ : Int32), kp28 σ x1_ x2_ → RtF bk fR s 202 28 [some (rf 35), some (.inl x1_), some (.inl x2_)] [] σ (k28 σ x1_ x2_)) (σ : sg_S) (x1_ : Int32) (x2_ : Int32) (hp : p_X5_leastCut_b28 kp28 σ x1_ x2_) : RtF bk fR s 202 28 [some (rf 35), some (.inl x1_), some (.inl x2_)] [] σ (r_X5_leastCut_b28 k28 σ x1_ x2_) := by
  unfold r_X5_leastCut_b28
  unfold p_X5_leastCut_b28 at hp
  refine rt_ln rfl rfl ?_
  refine rt_lna rfl rfl ?_
  refine rt_gfr rfl Kq_35 (by decide) rfl ?_
  refine rt_k1 rfl ck1_1 ?_
  refine rt_al (k0 := 1) rfl Kq_44 ⟨by decide, by decide⟩ rfl ?_
  refine rt_ic rfl rfl (fun h => ?_) (fun h => ?_)
  · refine rt_k1 rfl ck1_m1 ?_
    exact rt_eR rfl
  · replace hp := hp h
    refine rt_lna rfl rfl ?_
    refine rt_ln rfl rfl ?_
    refine rt_iv (σ1 := σ) rfl rfl rfl (m_X5_mayCut x2_ hp.1) ?_
    show RtF bk fR s 202 43 [some (rf 35), some (.inl x1_), some (.inl x2_)] [.inl (v_X5_mayCut σ x2_)] σ _
    replace hp := hp.2
    refine rt_if rfl rfl (fun h => ?_) (fun h => ?_)
    · replace hp := hp.1 h
      refine rt_inc (la1 := [some (rf 35), some (.inl x1_), some (.inl (x2_ + (1 : Int32)))]) rfl rfl ck1_1 rfl ?_
      refine rt_go rfl ?_
      exact hk28 σ x1_ (x2_ + (1 : Int32)) hp
    · replace hp := hp.2 h
      refine rt_lna rfl rfl ?_
      refine rt_lna rfl rfl ?_
      refine rt_gfr rfl Kq_35 (by decide) rfl ?_
      refine rt_k1 rfl ck1_0 ?_
      refine rt_al (k0 := 0) rfl Kq_41 ⟨by decide, by decide⟩ rfl ?_
      refine rt_lna rfl rfl ?_
      refine rt_gfr rfl Kq_35 (by decide) rfl ?_
      refine rt_k1 rfl ck1_1 ?_
      refine rt_al (k0 := 1) rfl Kq_45 ⟨by decide, by decide⟩ rfl ?_
      refine rt_lna rfl rfl ?_
      refine rt_k1 rfl ck1_1 ?_
      refine rt_ln rfl rfl ?_
      refine rt_iv (σ1 := σ) rfl rfl rfl (m_X5_takes (1 : Int32) x2_ hp.1) ?_
      show RtF bk fR s 202 65 [some (rf 35), some (.inl x1_), some (.inl x2_)] [.inl (v_X5_takes σ (1 : Int32) x2_), .inl (σ 45 1), .inl (σ 41 0), rf 35] σ _
      replace hp := hp.2
      refine rt_sub rfl ?_
      refine rt_iv (σ1 := σ) rfl rfl rfl (m_X5_targetOf (σ 41 0) ((σ 45 1) - (v_X5_takes σ (1 : Int32) x2_)) hp.1) ?_
      show RtF bk fR s 202 69 [some (rf 35), some (.inl x1_), some (.inl x2_)] [.inl (v_X5_targetOf σ (σ 41 0) ((σ 45 1) - (v_X5_takes σ (1 : Int32) x2_)))] σ _
      replace hp := hp.2
      refine rt_lna rfl rfl ?_
      refine rt_gfr rfl Kq_35 (by decide) rfl ?_
      refine rt_k1 rfl ck1_1 ?_
      refine rt_al (k0 := 1) rfl Kq_41 ⟨by decide, by decide⟩ rfl ?_
      refine rt_sub rfl ?_
      refine rt_ln rfl rfl ?_
      refine rt_ic rfl rfl (fun h => ?_) (fun h => ?_)
      · replace hp := hp h
        refine rt_inc (la1 := [some (rf 35), some (.inl x1_), some (.inl (x2_ + (1 : Int32)))]) rfl rfl ck1_1 rfl ?_
        refine rt_go rfl ?_
        exact hk28 σ x1_ (x2_ + (1 : Int32)) hp
      · refine rt_ln rfl rfl ?_
        exact rt_eR rfl
noncomputable def r_X5_leastCut_l28 (n : Nat) : sg_S → Int32 → Int32 → Int32 × sg_S := Nat.rec (motive := fun _ => sg_S → Int32 → Int32 → Int32 × sg_S) (fun σ _ _ => (0, σ)) (fun _ ih => r_X5_leastCut_b28 ih) n
noncomputable def p_X5_leastCut_l28 (n : Nat) : sg_S → Int32 → Int32 → Prop := Nat.rec (motive := fun _ => sg_S → Int32 → Int32 → Prop) (fun _ _ _ => False) (fun _ ih => p_X5_leastCut_b28 ih) n
theorem m_X5_leastCut_l28 {s : List Int32} : ∀ (n : Nat), ∀ (σ : sg_S) (x1_ : Int32) (x2_ : Int32), p_X5_leastCut_l28 n σ x1_ x2_ → RtF bk fR s 202 28 [some (rf 35), some (.inl x1_), some (.inl x2_)] [] σ (r_X5_leastCut_l28 n σ x1_ x2_) := by
  intro n
  induction n with
  | zero =>
    intro σ x1_ x2_ hp
    exact hp.elim
  | succ n ih =>
    intro σ x1_ x2_ hp
    exact m_X5_leastCut_b28 (r_X5_leastCut_l28 n) (p_X5_leastCut_l28 n) ih σ x1_ x2_ hp
noncomputable def r_X5_leastCut (σ : sg_S) (x0 : Int32) : Int32 × sg_S := (if ¬ ((s_X5_goesOn (sg_up σ 35 0 (0 : Int32))) 35 23) = (1 : Int32) then ((-1 : Int32), (s_X5_goesOn (sg_up σ 35 0 (0 : Int32)))) else (if ¬ (v_X5_hasTarget (s_X5_goesOn (sg_up σ 35 0 (0 : Int32)))) = 0 then (r_X5_leastCut_l28 600 (s_X5_goesOn (sg_up σ 35 0 (0 : Int32))) x0 (1 : Int32)) else ((-1 : Int32), (s_X5_goesOn (sg_up σ 35 0 (0 : Int32))))))
noncomputable def p_X5_leastCut (σ : sg_S) (x0 : Int32) : Prop := (p_X5_goesOn (sg_up σ 35 0 (0 : Int32)) ∧ (¬ (¬ ((s_X5_goesOn (sg_up σ 35 0 (0 : Int32))) 35 23) = (1 : Int32)) → (¬ (v_X5_hasTarget (s_X5_goesOn (sg_up σ 35 0 (0 : Int32)))) = 0 → (p_X5_leastCut_l28 600 (s_X5_goesOn (sg_up σ 35 0 (0 : Int32))) x0 (1 : Int32)))))
theorem m_X5_leastCut {s : List Int32} {σ : sg_S} (x0 : Int32) (hp : p_X5_leastCut σ x0) : Ct s 202 [rf 35, .inl x0] σ [.inl (r_X5_leastCut σ x0).1] (r_X5_leastCut σ x0).2 := by
  refine ct_v (la := [some (rf 35), some (.inl x0), none]) Kq_35 rfl rfl rfl rfl rfl rfl rfl (cgR ?_)
  unfold r_X5_leastCut
  unfold p_X5_leastCut at hp
  refine rt_lna rfl rfl ?_
  refine rt_k1 rfl ck1_0 ?_
  refine rt_pf (σ1 := (sg_up σ 35 0 (0 : Int32))) rfl Kq_35 (by decide) rfl rfl rfl ?_
  refine rt_lna rfl rfl ?_
  refine rt_iv (σ1 := (s_X5_goesOn (sg_up σ 35 0 (0 : Int32)))) rfl rfl rfl (m_X5_goesOn hp.1) ?_
  show RtF bk fR s 202 9 [some (rf 35), some (.inl x0), none] [] (s_X5_goesOn (sg_up σ 35 0 (0 : Int32))) _
  replace hp := hp.2
  refine rt_lna rfl rfl ?_
  refine rt_gfi rfl Kq_35 (by decide) rfl rfl ?_
  refine rt_k1 rfl ck1_1 ?_
  refine rt_ic rfl rfl (fun h => ?_) (fun h => ?_)
  · refine rt_k1 rfl ck1_m1 ?_
    exact rt_eR rfl
  · replace hp := hp h
    refine rt_lna rfl rfl ?_
    refine rt_iv (σ1 := (s_X5_goesOn (sg_up σ 35 0 (0 : Int32)))) rfl rfl rfl (m_X5_hasTarget) ?_
    show RtF bk fR s 202 21 [some (rf 35), some (.inl x0), none] [.inl (v_X5_hasTarget (s_X5_goesOn (sg_up σ 35 0 (0 : Int32))))] (s_X5_goesOn (sg_up σ 35 0 (0 : Int32))) _
    refine rt_if rfl rfl (fun h => ?_) (fun h => ?_)
    · replace hp := hp h
      refine rt_k1 rfl ck1_1 ?_
      refine rt_sn (la1 := [some (rf 35), some (.inl x0), some (.inl (1 : Int32))]) rfl rfl rfl ?_
      exact m_X5_leastCut_l28 600 (s_X5_goesOn (sg_up σ 35 0 (0 : Int32))) x0 (1 : Int32) hp
    · refine rt_k1 rfl ck1_m1 ?_
      exact rt_eR rfl
noncomputable def r_X5_after_a46 (σ : sg_S) (x2_ : Int32) (y0_ : Int32) : Int32 × sg_S := (if x2_ = 0 then ((σ 35 23), σ) else (if x2_ = 1 then ((σ 41 (ni y0_)), σ) else (if x2_ = 2 then ((σ 42 (ni y0_)), σ) else (if x2_ = 3 then ((σ 43 (ni y0_)), σ) else (if x2_ = 4 then (if (v_X5_hasTarget σ) = 0 then ((-1 : Int32), σ) else ((v_X5_theTarget σ), σ)) else ((v_X5_parNow σ), σ))))))
noncomputable def p_X5_after_a46 (σ : sg_S) (x2_ : Int32) (y0_ : Int32) : Prop := (¬ (x2_ = 0) → ((x2_ = 1 → ix y0_ 2) ∧ (¬ (x2_ = 1) → ((x2_ = 2 → ix y0_ 2) ∧ (¬ (x2_ = 2) → ((x2_ = 3 → ix y0_ 2) ∧ (¬ (x2_ = 3) → ((x2_ = 4 → (¬ ((v_X5_hasTarget σ) = 0) → p_X5_theTarget σ)) ∧ (¬ (x2_ = 4) → p_X5_parNow σ)))))))))
theorem m_X5_after_a46 {s : List Int32} (σ : sg_S) (x2_ : Int32) (y0_ : Int32) (o1_ : Option (ip_V Int32)) (o3_ : Option (ip_V Int32)) (hp : p_X5_after_a46 σ x2_ y0_) : RtF bk fR s 203 46 [some (rf 35), o1_, some (.inl x2_), o3_] [.inl y0_] σ (r_X5_after_a46 σ x2_ y0_) := by
  unfold r_X5_after_a46
  unfold p_X5_after_a46 at hp
  refine rt_sn (la1 := [some (rf 35), o1_, some (.inl x2_), some (.inl y0_)]) rfl rfl rfl ?_
  refine rt_ln rfl rfl ?_
  refine rt_ite (fun h => ?_) (fun h => ?_)
  · refine rt_eq h ?_
    refine rt_step rfl rfl rfl ?_
    refine rt_lna rfl rfl ?_
    refine rt_gfi rfl Kq_35 (by decide) rfl rfl ?_
    exact rt_eR rfl
  · have e0 := h
    replace hp := hp h
    refine rt_ite (fun h => ?_) (fun h => ?_)
    · replace hp := hp.1 h
      refine rt_eq h ?_
      refine rt_step rfl rfl rfl ?_
      refine rt_lna rfl rfl ?_
      refine rt_gfr rfl Kq_35 (by decide) rfl ?_
      refine rt_ln rfl rfl ?_
      refine rt_al rfl Kq_41 hp rfl ?_
      exact rt_eR rfl
    · have e1 := h
      replace hp := hp.2 h
      refine rt_ite (fun h => ?_) (fun h => ?_)
      · replace hp := hp.1 h
        refine rt_eq h ?_
        refine rt_step rfl rfl rfl ?_
        refine rt_lna rfl rfl ?_
        refine rt_gfr rfl Kq_35 (by decide) rfl ?_
        refine rt_ln rfl rfl ?_
        refine rt_al rfl Kq_42 hp rfl ?_
        exact rt_eR rfl
      · have e2 := h
        replace hp := hp.2 h
        refine rt_ite (fun h => ?_) (fun h => ?_)
        · replace hp := hp.1 h
          refine rt_eq h ?_
          refine rt_step rfl rfl rfl ?_
          refine rt_lna rfl rfl ?_
          refine rt_gfr rfl Kq_35 (by decide) rfl ?_
          refine rt_ln rfl rfl ?_
          refine rt_al rfl Kq_43 hp rfl ?_
          exact rt_eR rfl
        · have e3 := h
          replace hp := hp.2 h
          refine rt_ite (fun h => ?_) (fun h => ?_)
          · replace hp := hp.1 h
            refine rt_eq h ?_
            refine rt_step rfl rfl rfl ?_
            refine rt_lna rfl rfl ?_
            refine rt_iv (σ1 := σ) rfl rfl rfl (m_X5_hasTarget) ?_
            show RtF bk fR s 203 114 [some (rf 35), o1_, some (.inl x2_), some (.inl y0_)] [.inl (v_X5_hasTarget σ)] σ _
            refine rt_if rfl rfl (fun h => ?_) (fun h => ?_)
            · refine rt_k1 rfl ck1_m1 ?_
              exact rt_eR rfl
            · replace hp := hp h
              refine rt_lna rfl rfl ?_
              refine rt_iv (σ1 := σ) rfl rfl rfl (m_X5_theTarget hp) ?_
              show RtF bk fR s 203 121 [some (rf 35), o1_, some (.inl x2_), some (.inl y0_)] [.inl (v_X5_theTarget σ)] σ _
              refine rt_go rfl ?_
              exact rt_eR rfl
          · have e4 := h
            replace hp := hp.2 h
            refine rt_tsd (pc1 := 126) rfl (ts_out (n := 5) (by decide) (fun k hk => match k, hk with | 0, _ => e0 | 1, _ => e1 | 2, _ => e2 | 3, _ => e3 | 4, _ => e4 | k + 5, hk => absurd hk (by omega))) rfl ?_
            refine rt_lna rfl rfl ?_
            refine rt_iv (σ1 := σ) rfl rfl rfl (m_X5_parNow hp) ?_
            show RtF bk fR s 203 130 [some (rf 35), o1_, some (.inl x2_), some (.inl y0_)] [.inl (v_X5_parNow σ)] σ _
            exact rt_eR rfl
noncomputable def r_X5_after (σ : sg_S) (x0 : Int32) (x1 : Int32) : Int32 × sg_S := (if (v_X5_in x0 (0 : Int32) ((sg_up σ 35 0 (0 : Int32)) 35 6)) = 0 then ((-2 : Int32), (sg_up σ 35 0 (0 : Int32))) else (if ¬ (v_X5_in x1 (0 : Int32) (5 : Int32)) = 0 then (if ¬ ((s_X5_goesTo (sg_up σ 35 0 (0 : Int32)) x0) 35 23) = 0 then (r_X5_after_a46 (s_X5_goesTo (sg_up σ 35 0 (0 : Int32)) x0) x1 (1 : Int32)) else (r_X5_after_a46 (s_X5_goesTo (sg_up σ 35 0 (0 : Int32)) x0) x1 (0 : Int32))) else ((-2 : Int32), (sg_up σ 35 0 (0 : Int32)))))
noncomputable def p_X5_after (σ : sg_S) (x0 : Int32) (x1 : Int32) : Prop := (¬ ((v_X5_in x0 (0 : Int32) ((sg_up σ 35 0 (0 : Int32)) 35 6)) = 0) → (¬ (v_X5_in x1 (0 : Int32) (5 : Int32)) = 0 → (p_X5_goesTo (sg_up σ 35 0 (0 : Int32)) x0 ∧ ((¬ ((s_X5_goesTo (sg_up σ 35 0 (0 : Int32)) x0) 35 23) = 0 → (p_X5_after_a46 (s_X5_goesTo (sg_up σ 35 0 (0 : Int32)) x0) x1 (1 : Int32))) ∧ (¬ (¬ ((s_X5_goesTo (sg_up σ 35 0 (0 : Int32)) x0) 35 23) = 0) → (p_X5_after_a46 (s_X5_goesTo (sg_up σ 35 0 (0 : Int32)) x0) x1 (0 : Int32)))))))
theorem m_X5_after {s : List Int32} {σ : sg_S} (x0 : Int32) (x1 : Int32) (hp : p_X5_after σ x0 x1) : Ct s 203 [rf 35, .inl x0, .inl x1] σ [.inl (r_X5_after σ x0 x1).1] (r_X5_after σ x0 x1).2 := by
  refine ct_v (la := [some (rf 35), some (.inl x0), some (.inl x1), none]) Kq_35 rfl rfl rfl rfl rfl rfl rfl (cgR ?_)
  unfold r_X5_after
  unfold p_X5_after at hp
  refine rt_lna rfl rfl ?_
  refine rt_k1 rfl ck1_0 ?_
  refine rt_pf (σ1 := (sg_up σ 35 0 (0 : Int32))) rfl Kq_35 (by decide) rfl rfl rfl ?_
  refine rt_ln rfl rfl ?_
  refine rt_k1 rfl ck1_0 ?_
  refine rt_lna rfl rfl ?_
  refine rt_gfi rfl Kq_35 (by decide) rfl rfl ?_
  refine rt_is (σ1 := (sg_up σ 35 0 (0 : Int32))) rfl rfl rfl (m_X5_in x0 (0 : Int32) ((sg_up σ 35 0 (0 : Int32)) 35 6)) ?_
  show RtF bk fR s 203 14 [some (rf 35), some (.inl x0), some (.inl x1), none] [.inl (v_X5_in x0 (0 : Int32) ((sg_up σ 35 0 (0 : Int32)) 35 6))] (sg_up σ 35 0 (0 : Int32)) _
  refine rt_if rfl rfl (fun h => ?_) (fun h => ?_)
  · refine rt_k2 rfl ck2_m2 ?_
    exact rt_eR rfl
  · replace hp := hp h
    refine rt_ln rfl rfl ?_
    refine rt_k1 rfl ck1_0 ?_
    refine rt_k1 rfl ck1_5 ?_
    refine rt_is (σ1 := (sg_up σ 35 0 (0 : Int32))) rfl rfl rfl (m_X5_in x1 (0 : Int32) (5 : Int32)) ?_
    show RtF bk fR s 203 23 [some (rf 35), some (.inl x0), some (.inl x1), none] [.inl (v_X5_in x1 (0 : Int32) (5 : Int32))] (sg_up σ 35 0 (0 : Int32)) _
    refine rt_if rfl rfl (fun h => ?_) (fun h => ?_)
    · replace hp := hp h
      refine rt_lna rfl rfl ?_
      refine rt_ln rfl rfl ?_
      refine rt_iv (σ1 := (s_X5_goesTo (sg_up σ 35 0 (0 : Int32)) x0)) rfl rfl rfl (m_X5_goesTo x0 hp.1) ?_
      show RtF bk fR s 203 34 [some (rf 35), some (.inl x0), some (.inl x1), none] [] (s_X5_goesTo (sg_up σ 35 0 (0 : Int32)) x0) _
      replace hp := hp.2
      refine rt_lna rfl rfl ?_
      refine rt_gfi rfl Kq_35 (by decide) rfl rfl ?_
      refine rt_if rfl rfl (fun h => ?_) (fun h => ?_)
      · replace hp := hp.1 h
        refine rt_k1 rfl ck1_1 ?_
        exact m_X5_after_a46 (s_X5_goesTo (sg_up σ 35 0 (0 : Int32)) x0) x1 (1 : Int32) _ _ hp
      · replace hp := hp.2 h
        refine rt_k1 rfl ck1_0 ?_
        refine rt_go rfl ?_
        exact m_X5_after_a46 (s_X5_goesTo (sg_up σ 35 0 (0 : Int32)) x0) x1 (0 : Int32) _ _ hp
    · refine rt_k2 rfl ck2_m2 ?_
      exact rt_eR rfl
noncomputable def r_X5_firstAhead_a55 (k11 : sg_S → Int32 → Int32 × sg_S) (σ : sg_S) (x1_ : Int32) : Int32 × sg_S := (if (σ 35 6) ≤ x1_ then (k11 σ (x1_ + (1 : Int32))) else (k11 (s_X5_goes σ (σ 39 (ni x1_)) (σ 40 (ni x1_))) (x1_ + (1 : Int32))))
noncomputable def p_X5_firstAhead_a55 (kp11 : sg_S → Int32 → Prop) (σ : sg_S) (x1_ : Int32) : Prop := (((σ 35 6) ≤ x1_ → (kp11 σ (x1_ + (1 : Int32)))) ∧ (¬ ((σ 35 6) ≤ x1_) → (ix x1_ 400 ∧ (ix x1_ 400 ∧ (p_X5_goes σ (σ 39 (ni x1_)) (σ 40 (ni x1_)) ∧ (kp11 (s_X5_goes σ (σ 39 (ni x1_)) (σ 40 (ni x1_))) (x1_ + (1 : Int32))))))))
theorem m_X5_firstAhead_a55 {s : List Int32} (k11 : sg_S → Int32 → Int32 × sg_S) (kp11 : sg_S → Int32 → Prop) (hk11 : ∀ (σ : sg_S) (x1_ : Int32), kp11 σ x1_ → RtF bk fR s 204 11 [some (rf 35), some (.inl x1_)] [] σ (k11 σ x1_)) (σ : sg_S) (x1_ : Int32) (hp : p_X5_firstAhead_a55 kp11 σ x1_) : RtF bk fR s 204 55 [some (rf 35), some (.inl x1_)] [] σ (r_X5_firstAhead_a55 k11 σ x1_) := by
  unfold r_X5_firstAhead_a55
  unfold p_X5_firstAhead_a55 at hp
  refine rt_ln rfl rfl ?_
  refine rt_lna rfl rfl ?_
  refine rt_gfi rfl Kq_35 (by decide) rfl rfl ?_
  refine rt_ic rfl rfl (fun h => ?_) (fun h => ?_)
  · replace hp := hp.1 h
    refine rt_inc (la1 := [some (rf 35), some (.inl (x1_ + (1 : Int32)))]) rfl rfl ck1_1 rfl ?_
    refine rt_go rfl ?_
    exact hk11 σ (x1_ + (1 : Int32)) hp
  · replace hp := hp.2 h
    refine rt_lna rfl rfl ?_
    refine rt_lna rfl rfl ?_
    refine rt_gfr rfl Kq_35 (by decide) rfl ?_
    refine rt_ln rfl rfl ?_
    refine rt_al rfl Kq_39 hp.1 rfl ?_
    replace hp := hp.2
    refine rt_lna rfl rfl ?_
    refine rt_gfr rfl Kq_35 (by decide) rfl ?_
    refine rt_ln rfl rfl ?_
    refine rt_al rfl Kq_40 hp.1 rfl ?_
    replace hp := hp.2
    refine rt_iv (σ1 := (s_X5_goes σ (σ 39 (ni x1_)) (σ 40 (ni x1_)))) rfl rfl rfl (m_X5_goes (σ 39 (ni x1_)) (σ 40 (ni x1_)) hp.1) ?_
    show RtF bk fR s 204 79 [some (rf 35), some (.inl x1_)] [] (s_X5_goes σ (σ 39 (ni x1_)) (σ 40 (ni x1_))) _
    replace hp := hp.2
    refine rt_inc (la1 := [some (rf 35), some (.inl (x1_ + (1 : Int32)))]) rfl rfl ck1_1 rfl ?_
    refine rt_go rfl ?_
    exact hk11 (s_X5_goes σ (σ 39 (ni x1_)) (σ 40 (ni x1_))) (x1_ + (1 : Int32)) hp
noncomputable def r_X5_firstAhead_b11 (k11 : sg_S → Int32 → Int32 × sg_S) (σ : sg_S) (x1_ : Int32) : Int32 × sg_S := (if (σ 35 6) < x1_ then ((-1 : Int32), σ) else (if (v_X5_hasTarget σ) = 0 then (r_X5_firstAhead_a55 k11 σ x1_) else (if ¬ (σ 35 23) = (1 : Int32) then (r_X5_firstAhead_a55 k11 σ x1_) else (if (σ 41 1) ≤ (v_X5_thePar σ (σ 41 0)) then (r_X5_firstAhead_a55 k11 σ x1_) else (x1_, σ)))))
noncomputable def p_X5_firstAhead_b11 (kp11 : sg_S → Int32 → Prop) (σ : sg_S) (x1_ : Int32) : Prop := (¬ ((σ 35 6) < x1_) → (((v_X5_hasTarget σ) = 0 → (p_X5_firstAhead_a55 kp11 σ x1_)) ∧ (¬ ((v_X5_hasTarget σ) = 0) → ((¬ (σ 35 23) = (1 : Int32) → (p_X5_firstAhead_a55 kp11 σ x1_)) ∧ (¬ (¬ (σ 35 23) = (1 : Int32)) → (p_X5_thePar σ (σ 41 0) ∧ ((σ 41 1) ≤ (v_X5_thePar σ (σ 41 0)) → (p_X5_firstAhead_a55 kp11 σ x1_))))))))
theorem m_X5_firstAhead_b11 {s : List Int32} (k11 : sg_S → Int32 → Int32 × sg_S) (kp11 : sg_S → Int32 → Prop) (hk11 : ∀ (σ : sg_S) (x1_ : Int32), kp11 σ x1_ → RtF bk fR s 204 11 [some (rf 35), some (.inl x1_)] [] σ (k11 σ x1_)) (σ : sg_S) (x1_ : Int32) (hp : p_X5_firstAhead_b11 kp11 σ x1_) : RtF bk fR s 204 11 [some (rf 35), some (.inl x1_)] [] σ (r_X5_firstAhead_b11 k11 σ x1_) := by
  unfold r_X5_firstAhead_b11
  unfold p_X5_firstAhead_b11 at hp
  refine rt_ln rfl rfl ?_
  refine rt_lna rfl rfl ?_
  refine rt_gfi rfl Kq_35 (by decide) rfl rfl ?_
  refine rt_ic rfl rfl (fun h => ?_) (fun h => ?_)
  · refine rt_k1 rfl ck1_m1 ?_
    exact rt_eR rfl
  · replace hp := hp h
    refine rt_lna rfl rfl ?_
    refine rt_iv (σ1 := σ) rfl rfl rfl (m_X5_hasTarget) ?_
    show RtF bk fR s 204 23 [some (rf 35), some (.inl x1_)] [.inl (v_X5_hasTarget σ)] σ _
    refine rt_if rfl rfl (fun h => ?_) (fun h => ?_)
    · replace hp := hp.1 h
      exact m_X5_firstAhead_a55 k11 kp11 hk11 σ x1_ hp
    · replace hp := hp.2 h
      refine rt_lna rfl rfl ?_
      refine rt_gfi rfl Kq_35 (by decide) rfl rfl ?_
      refine rt_k1 rfl ck1_1 ?_
      refine rt_ic rfl rfl (fun h => ?_) (fun h => ?_)
      · replace hp := hp.1 h
        exact m_X5_firstAhead_a55 k11 kp11 hk11 σ x1_ hp
      · replace hp := hp.2 h
        refine rt_lna rfl rfl ?_
        refine rt_gfr rfl Kq_35 (by decide) rfl ?_
        refine rt_k1 rfl ck1_1 ?_
        refine rt_al (k0 := 1) rfl Kq_41 ⟨by decide, by decide⟩ rfl ?_
        refine rt_lna rfl rfl ?_
        refine rt_lna rfl rfl ?_
        refine rt_gfr rfl Kq_35 (by decide) rfl ?_
        refine rt_k1 rfl ck1_0 ?_
        refine rt_al (k0 := 0) rfl Kq_41 ⟨by decide, by decide⟩ rfl ?_
        refine rt_iv (σ1 := σ) rfl rfl rfl (m_X5_thePar (σ 41 0) hp.1) ?_
        show RtF bk fR s 204 50 [some (rf 35), some (.inl x1_)] [.inl (v_X5_thePar σ (σ 41 0)), .inl (σ 41 1)] σ _
        replace hp := hp.2
        refine rt_ic rfl rfl (fun h => ?_) (fun h => ?_)
        · replace hp := hp h
          exact m_X5_firstAhead_a55 k11 kp11 hk11 σ x1_ hp
        · refine rt_ln rfl rfl ?_
          exact rt_eR rfl
noncomputable def r_X5_firstAhead_l11 (n : Nat) : sg_S → Int32 → Int32 × sg_S := Nat.rec (motive := fun _ => sg_S → Int32 → Int32 × sg_S) (fun σ _ => (0, σ)) (fun _ ih => r_X5_firstAhead_b11 ih) n
noncomputable def p_X5_firstAhead_l11 (n : Nat) : sg_S → Int32 → Prop := Nat.rec (motive := fun _ => sg_S → Int32 → Prop) (fun _ _ => False) (fun _ ih => p_X5_firstAhead_b11 ih) n
theorem m_X5_firstAhead_l11 {s : List Int32} : ∀ (n : Nat), ∀ (σ : sg_S) (x1_ : Int32), p_X5_firstAhead_l11 n σ x1_ → RtF bk fR s 204 11 [some (rf 35), some (.inl x1_)] [] σ (r_X5_firstAhead_l11 n σ x1_) := by
  intro n
  induction n with
  | zero =>
    intro σ x1_ hp
    exact hp.elim
  | succ n ih =>
    intro σ x1_ hp
    exact m_X5_firstAhead_b11 (r_X5_firstAhead_l11 n) (p_X5_firstAhead_l11 n) ih σ x1_ hp
noncomputable def r_X5_firstAhead (σ : sg_S) : Int32 × sg_S := (r_X5_firstAhead_l11 600 (s_X5_begins (sg_up σ 35 0 (0 : Int32))) (0 : Int32))
noncomputable def p_X5_firstAhead (σ : sg_S) : Prop := (p_X5_begins (sg_up σ 35 0 (0 : Int32)) ∧ (p_X5_firstAhead_l11 600 (s_X5_begins (sg_up σ 35 0 (0 : Int32))) (0 : Int32)))
theorem m_X5_firstAhead {s : List Int32} {σ : sg_S} (hp : p_X5_firstAhead σ) : Ct s 204 [rf 35] σ [.inl (r_X5_firstAhead σ).1] (r_X5_firstAhead σ).2 := by
  refine ct_v (la := [some (rf 35), none]) Kq_35 rfl rfl rfl rfl rfl rfl rfl (cgR ?_)
  unfold r_X5_firstAhead
  unfold p_X5_firstAhead at hp
  refine rt_lna rfl rfl ?_
  refine rt_k1 rfl ck1_0 ?_
  refine rt_pf (σ1 := (sg_up σ 35 0 (0 : Int32))) rfl Kq_35 (by decide) rfl rfl rfl ?_
  refine rt_lna rfl rfl ?_
  refine rt_iv (σ1 := (s_X5_begins (sg_up σ 35 0 (0 : Int32)))) rfl rfl rfl (m_X5_begins hp.1) ?_
  show RtF bk fR s 204 9 [some (rf 35), none] [] (s_X5_begins (sg_up σ 35 0 (0 : Int32))) _
  replace hp := hp.2
  refine rt_k1 rfl ck1_0 ?_
  refine rt_sn (la1 := [some (rf 35), some (.inl (0 : Int32))]) rfl rfl rfl ?_
  exact m_X5_firstAhead_l11 600 (s_X5_begins (sg_up σ 35 0 (0 : Int32))) (0 : Int32) hp
noncomputable def v_X0_worthLeft (σ : sg_S) (c : Nat) : Int32 := (v_X2_worthOf σ (((6 : Int32) * (σ (v_X0_side c (σ c 3)) 3)) - (σ (v_X0_side c (σ c 3)) 2)) (σ (v_X0_side c (σ c 3)) 1))
noncomputable def p_X0_worthLeft (σ : sg_S) (c : Nat) : Prop := p_X2_worthOf (((6 : Int32) * (σ (v_X0_side c (σ c 3)) 3)) - (σ (v_X0_side c (σ c 3)) 2)) (σ (v_X0_side c (σ c 3)) 1)
theorem m_X0_worthLeft {s : List Int32} {σ : sg_S} (c : Nat) (hc : Kd c 0 5) (hp : p_X0_worthLeft σ c) : Ct s 8 [rf c] σ [.inl (v_X0_worthLeft σ c)] σ := by
  refine ct_v (la := [some (rf c), none]) hc rfl rfl rfl rfl rfl rfl rfl (cgV ?_)
  unfold v_X0_worthLeft
  unfold p_X0_worthLeft at hp
  refine rt_lna rfl rfl ?_
  refine rt_lna rfl rfl ?_
  refine rt_gfi rfl hc (by decide) rfl rfl ?_
  refine rt_iv (σ1 := σ) rfl rfl rfl (m_X0_side c (σ c 3) hc) ?_
  show RtF bk (fV σ) s 8 8 [some (rf c), none] [rf (v_X0_side c (σ c 3))] σ _
  refine rt_sna (la1 := [some (rf c), some (rf (v_X0_side c (σ c 3)))]) rfl rfl rfl ?_
  refine rt_lna rfl rfl ?_
  refine rt_gfr rfl hc (by decide) rfl ?_
  refine rt_k2 rfl ck2_6 ?_
  refine rt_lna rfl rfl ?_
  refine rt_gfi rfl (Kside hc) (by decide) rfl rfl ?_
  refine rt_mul rfl ?_
  refine rt_lna rfl rfl ?_
  refine rt_gfi rfl (Kside hc) (by decide) rfl rfl ?_
  refine rt_sub rfl ?_
  refine rt_lna rfl rfl ?_
  refine rt_gfi rfl (Kside hc) (by decide) rfl rfl ?_
  refine rt_iv (σ1 := σ) rfl rfl rfl (m_X2_worthOf (((6 : Int32) * (σ (v_X0_side c (σ c 3)) 3)) - (σ (v_X0_side c (σ c 3)) 2)) (σ (v_X0_side c (σ c 3)) 1) hp) ?_
  show RtF bk (fV σ) s 8 32 [some (rf c), some (rf (v_X0_side c (σ c 3)))] [.inl (v_X2_worthOf σ (((6 : Int32) * (σ (v_X0_side c (σ c 3)) 3)) - (σ (v_X0_side c (σ c 3)) 2)) (σ (v_X0_side c (σ c 3)) 1))] σ _
  exact rt_eV rfl
noncomputable def v_X0_lossByCut (σ : sg_S) (c : Nat) (x0 : Int32) : Int32 := ((v_X0_worthLeft σ c) - (v_X2_worthOf σ (((6 : Int32) * x0) - (σ (v_X0_side c (σ c 3)) 2)) (σ (v_X0_side c (σ c 3)) 1)))
noncomputable def p_X0_lossByCut (σ : sg_S) (c : Nat) (x0 : Int32) : Prop := (p_X0_worthLeft σ c ∧ p_X2_worthOf (((6 : Int32) * x0) - (σ (v_X0_side c (σ c 3)) 2)) (σ (v_X0_side c (σ c 3)) 1))
theorem m_X0_lossByCut {s : List Int32} {σ : sg_S} (c : Nat) (x0 : Int32) (hc : Kd c 0 5) (hp : p_X0_lossByCut σ c x0) : Ct s 9 [rf c, .inl x0] σ [.inl (v_X0_lossByCut σ c x0)] σ := by
  refine ct_v (la := [some (rf c), some (.inl x0), none]) hc rfl rfl rfl rfl rfl rfl rfl (cgV ?_)
  unfold v_X0_lossByCut
  unfold p_X0_lossByCut at hp
  refine rt_lna rfl rfl ?_
  refine rt_lna rfl rfl ?_
  refine rt_gfi rfl hc (by decide) rfl rfl ?_
  refine rt_iv (σ1 := σ) rfl rfl rfl (m_X0_side c (σ c 3) hc) ?_
  show RtF bk (fV σ) s 9 8 [some (rf c), some (.inl x0), none] [rf (v_X0_side c (σ c 3))] σ _
  refine rt_sna (la1 := [some (rf c), some (.inl x0), some (rf (v_X0_side c (σ c 3)))]) rfl rfl rfl ?_
  refine rt_lna rfl rfl ?_
  refine rt_iv (σ1 := σ) rfl rfl rfl (m_X0_worthLeft c hc hp.1) ?_
  show RtF bk (fV σ) s 9 13 [some (rf c), some (.inl x0), some (rf (v_X0_side c (σ c 3)))] [.inl (v_X0_worthLeft σ c)] σ _
  replace hp := hp.2
  refine rt_lna rfl rfl ?_
  refine rt_gfr rfl hc (by decide) rfl ?_
  refine rt_k2 rfl ck2_6 ?_
  refine rt_ln rfl rfl ?_
  refine rt_mul rfl ?_
  refine rt_lna rfl rfl ?_
  refine rt_gfi rfl (Kside hc) (by decide) rfl rfl ?_
  refine rt_sub rfl ?_
  refine rt_lna rfl rfl ?_
  refine rt_gfi rfl (Kside hc) (by decide) rfl rfl ?_
  refine rt_iv (σ1 := σ) rfl rfl rfl (m_X2_worthOf (((6 : Int32) * x0) - (σ (v_X0_side c (σ c 3)) 2)) (σ (v_X0_side c (σ c 3)) 1) hp) ?_
  show RtF bk (fV σ) s 9 33 [some (rf c), some (.inl x0), some (rf (v_X0_side c (σ c 3)))] [.inl (v_X2_worthOf σ (((6 : Int32) * x0) - (σ (v_X0_side c (σ c 3)) 2)) (σ (v_X0_side c (σ c 3)) 1)), .inl (v_X0_worthLeft σ c)] σ _
  refine rt_sub rfl ?_
  exact rt_eV rfl
noncomputable def v_X0_blockFact_b75 (σ : sg_S) (c : Nat) (k75 : Int32 → Nat → Int32 → Int32 → Int32 → Int32) (x3_ : Int32) (r4_ : Nat) (x6_ : Int32) (x7_ : Int32) (x8_ : Int32) : Int32 := (if x6_ ≤ x8_ then x7_ else (if (20 : Int32) ≤ x8_ then x7_ else (k75 x3_ r4_ x6_ (x7_ + (v_X1_overFact σ r4_ x8_ x3_)) (x8_ + (1 : Int32)))))
noncomputable def p_X0_blockFact_b75 (σ : sg_S) (c : Nat) (kp75 : Int32 → Nat → Int32 → Int32 → Int32 → Prop) (x3_ : Int32) (r4_ : Nat) (x6_ : Int32) (x7_ : Int32) (x8_ : Int32) : Prop := (¬ (x6_ ≤ x8_) → (¬ ((20 : Int32) ≤ x8_) → (p_X1_overFact r4_ x8_ x3_ ∧ (kp75 x3_ r4_ x6_ (x7_ + (v_X1_overFact σ r4_ x8_ x3_)) (x8_ + (1 : Int32))))))
theorem m_X0_blockFact_b75 {s : List Int32} {σ : sg_S} (c : Nat) (hc : Kd c 0 5) (k75 : Int32 → Nat → Int32 → Int32 → Int32 → Int32) (kp75 : Int32 → Nat → Int32 → Int32 → Int32 → Prop) (hk75 : ∀ (x3_ : Int32) (r4_ : Nat) (x6_ : Int32) (x7_ : Int32) (x8_ : Int32) (hr4_ : Kd r4_ 1 14) (o0_ : Option (ip_V Int32)) (o1_ : Option (ip_V Int32)) (o2_ : Option (ip_V Int32)) (o5_ : Option (ip_V Int32)), kp75 x3_ r4_ x6_ x7_ x8_ → RtF bk (fV σ) s 10 75 [o0_, o1_, o2_, some (.inl x3_), some (rf r4_), o5_, some (.inl x6_), some (.inl x7_), some (.inl x8_)] [] σ (k75 x3_ r4_ x6_ x7_ x8_)) (x3_ : Int32) (r4_ : Nat) (x6_ : Int32) (x7_ : Int32) (x8_ : Int32) (hr4_ : Kd r4_ 1 14) (o0_ : Option (ip_V Int32)) (o1_ : Option (ip_V Int32)) (o2_ : Option (ip_V Int32)) (o5_ : Option (ip_V Int32)) (hp : p_X0_blockFact_b75 σ c kp75 x3_ r4_ x6_ x7_ x8_) : RtF bk (fV σ) s 10 75 [o0_, o1_, o2_, some (.inl x3_), some (rf r4_), o5_, some (.inl x6_), some (.inl x7_), some (.inl x8_)] [] σ (v_X0_blockFact_b75 σ c k75 x3_ r4_ x6_ x7_ x8_) := by
  unfold v_X0_blockFact_b75
  unfold p_X0_blockFact_b75 at hp
  refine rt_ld rfl rfl ?_
  refine rt_ld rfl rfl ?_
  refine rt_ic rfl rfl (fun h => ?_) (fun h => ?_)
  · refine rt_ld rfl rfl ?_
    exact rt_eV rfl
  · replace hp := hp h
    refine rt_ld rfl rfl ?_
    refine rt_k2 rfl ck2_20 ?_
    refine rt_ic rfl rfl (fun h => ?_) (fun h => ?_)
    · refine rt_ld rfl rfl ?_
      exact rt_eV rfl
    · replace hp := hp h
      refine rt_ld rfl rfl ?_
      refine rt_lda rfl rfl ?_
      refine rt_ld rfl rfl ?_
      refine rt_ln rfl rfl ?_
      refine rt_iv (σ1 := σ) rfl rfl rfl (m_X1_overFact r4_ x8_ x3_ hr4_ hp.1) ?_
      show RtF bk (fV σ) s 10 99 [o0_, o1_, o2_, some (.inl x3_), some (rf r4_), o5_, some (.inl x6_), some (.inl x7_), some (.inl x8_)] [.inl (v_X1_overFact σ r4_ x8_ x3_), .inl x7_] σ _
      replace hp := hp.2
      refine rt_add rfl ?_
      refine rt_st (la1 := [o0_, o1_, o2_, some (.inl x3_), some (rf r4_), o5_, some (.inl x6_), some (.inl (x7_ + (v_X1_overFact σ r4_ x8_ x3_))), some (.inl x8_)]) rfl rfl rfl ?_
      refine rt_inc (la1 := [o0_, o1_, o2_, some (.inl x3_), some (rf r4_), o5_, some (.inl x6_), some (.inl (x7_ + (v_X1_overFact σ r4_ x8_ x3_))), some (.inl (x8_ + (1 : Int32)))]) rfl rfl ck1_1 rfl ?_
      refine rt_go rfl ?_
      exact hk75 x3_ r4_ x6_ (x7_ + (v_X1_overFact σ r4_ x8_ x3_)) (x8_ + (1 : Int32)) hr4_ _ _ _ _ hp
noncomputable def v_X0_blockFact_l75 (σ : sg_S) (c : Nat) (n : Nat) : Int32 → Nat → Int32 → Int32 → Int32 → Int32 := Nat.rec (motive := fun _ => Int32 → Nat → Int32 → Int32 → Int32 → Int32) (fun _ _ _ _ _ => 0) (fun _ ih => v_X0_blockFact_b75 σ c ih) n
noncomputable def p_X0_blockFact_l75 (σ : sg_S) (c : Nat) (n : Nat) : Int32 → Nat → Int32 → Int32 → Int32 → Prop := Nat.rec (motive := fun _ => Int32 → Nat → Int32 → Int32 → Int32 → Prop) (fun _ _ _ _ _ => False) (fun _ ih => p_X0_blockFact_b75 σ c ih) n
theorem m_X0_blockFact_l75 {s : List Int32} {σ : sg_S} (c : Nat) (hc : Kd c 0 5) : ∀ (n : Nat), ∀ (x3_ : Int32) (r4_ : Nat) (x6_ : Int32) (x7_ : Int32) (x8_ : Int32) (hr4_ : Kd r4_ 1 14) (o0_ : Option (ip_V Int32)) (o1_ : Option (ip_V Int32)) (o2_ : Option (ip_V Int32)) (o5_ : Option (ip_V Int32)), p_X0_blockFact_l75 σ c n x3_ r4_ x6_ x7_ x8_ → RtF bk (fV σ) s 10 75 [o0_, o1_, o2_, some (.inl x3_), some (rf r4_), o5_, some (.inl x6_), some (.inl x7_), some (.inl x8_)] [] σ (v_X0_blockFact_l75 σ c n x3_ r4_ x6_ x7_ x8_) := by
  intro n
  induction n with
  | zero =>
    intro x3_ r4_ x6_ x7_ x8_ hr4_ o0_ o1_ o2_ o5_ hp
    exact hp.elim
  | succ n ih =>
    intro x3_ r4_ x6_ x7_ x8_ hr4_ o0_ o1_ o2_ o5_ hp
    exact m_X0_blockFact_b75 c hc (v_X0_blockFact_l75 σ c n) (p_X0_blockFact_l75 σ c n) ih x3_ r4_ x6_ x7_ x8_ hr4_ o0_ o1_ o2_ o5_ hp
noncomputable def v_X0_blockFact_b13 (σ : sg_S) (c : Nat) (k13 : Int32 → Int32 → Nat → Int32 → Int32 → Int32) (x2_ : Int32) (x3_ : Int32) (r4_ : Nat) (x5_ : Int32) (x6_ : Int32) : Int32 := (if x2_ ≤ x6_ then (v_X0_blockFact_l75 σ c 600 x3_ r4_ (x5_ + (v_X2_blockOvers σ (σ r4_ 3) x2_)) (0 : Int32) x5_) else (if (3 : Int32) ≤ x6_ then (v_X0_blockFact_l75 σ c 600 x3_ r4_ (x5_ + (v_X2_blockOvers σ (σ r4_ 3) x2_)) (0 : Int32) x5_) else (k13 x2_ x3_ r4_ (x5_ + (v_X2_blockOvers σ (σ r4_ 3) x6_)) (x6_ + (1 : Int32)))))
noncomputable def p_X0_blockFact_b13 (σ : sg_S) (c : Nat) (kp13 : Int32 → Int32 → Nat → Int32 → Int32 → Prop) (x2_ : Int32) (x3_ : Int32) (r4_ : Nat) (x5_ : Int32) (x6_ : Int32) : Prop := ((x2_ ≤ x6_ → (p_X2_blockOvers σ (σ r4_ 3) x2_ ∧ (p_X0_blockFact_l75 σ c 600 x3_ r4_ (x5_ + (v_X2_blockOvers σ (σ r4_ 3) x2_)) (0 : Int32) x5_))) ∧ (¬ (x2_ ≤ x6_) → (((3 : Int32) ≤ x6_ → (p_X2_blockOvers σ (σ r4_ 3) x2_ ∧ (p_X0_blockFact_l75 σ c 600 x3_ r4_ (x5_ + (v_X2_blockOvers σ (σ r4_ 3) x2_)) (0 : Int32) x5_))) ∧ (¬ ((3 : Int32) ≤ x6_) → (p_X2_blockOvers σ (σ r4_ 3) x6_ ∧ (kp13 x2_ x3_ r4_ (x5_ + (v_X2_blockOvers σ (σ r4_ 3) x6_)) (x6_ + (1 : Int32))))))))
theorem m_X0_blockFact_b13 {s : List Int32} {σ : sg_S} (c : Nat) (hc : Kd c 0 5) (k13 : Int32 → Int32 → Nat → Int32 → Int32 → Int32) (kp13 : Int32 → Int32 → Nat → Int32 → Int32 → Prop) (hk13 : ∀ (x2_ : Int32) (x3_ : Int32) (r4_ : Nat) (x5_ : Int32) (x6_ : Int32) (hr4_ : Kd r4_ 1 14) (o1_ : Option (ip_V Int32)) (o7_ : Option (ip_V Int32)) (o8_ : Option (ip_V Int32)), kp13 x2_ x3_ r4_ x5_ x6_ → RtF bk (fV σ) s 10 13 [some (rf c), o1_, some (.inl x2_), some (.inl x3_), some (rf r4_), some (.inl x5_), some (.inl x6_), o7_, o8_] [] σ (k13 x2_ x3_ r4_ x5_ x6_)) (x2_ : Int32) (x3_ : Int32) (r4_ : Nat) (x5_ : Int32) (x6_ : Int32) (hr4_ : Kd r4_ 1 14) (o1_ : Option (ip_V Int32)) (o7_ : Option (ip_V Int32)) (o8_ : Option (ip_V Int32)) (hp : p_X0_blockFact_b13 σ c kp13 x2_ x3_ r4_ x5_ x6_) : RtF bk (fV σ) s 10 13 [some (rf c), o1_, some (.inl x2_), some (.inl x3_), some (rf r4_), some (.inl x5_), some (.inl x6_), o7_, o8_] [] σ (v_X0_blockFact_b13 σ c k13 x2_ x3_ r4_ x5_ x6_) := by
  unfold v_X0_blockFact_b13
  unfold p_X0_blockFact_b13 at hp
  refine rt_ld rfl rfl ?_
  refine rt_ln rfl rfl ?_
  refine rt_ic rfl rfl (fun h => ?_) (fun h => ?_)
  · replace hp := hp.1 h
    refine rt_ld rfl rfl ?_
    refine rt_lna rfl rfl ?_
    refine rt_gfr rfl hc (by decide) rfl ?_
    refine rt_lda rfl rfl ?_
    refine rt_gfi rfl hr4_ (by decide) rfl rfl ?_
    refine rt_ln rfl rfl ?_
    refine rt_iv (σ1 := σ) rfl rfl rfl (m_X2_blockOvers (σ r4_ 3) x2_ hp.1) ?_
    show RtF bk (fV σ) s 10 65 [some (rf c), o1_, some (.inl x2_), some (.inl x3_), some (rf r4_), some (.inl x5_), some (.inl x6_), o7_, o8_] [.inl (v_X2_blockOvers σ (σ r4_ 3) x2_), .inl x5_] σ _
    replace hp := hp.2
    refine rt_add rfl ?_
    refine rt_st (la1 := [some (rf c), o1_, some (.inl x2_), some (.inl x3_), some (rf r4_), some (.inl x5_), some (.inl (x5_ + (v_X2_blockOvers σ (σ r4_ 3) x2_))), o7_, o8_]) rfl rfl rfl ?_
    refine rt_k1 rfl ck1_0 ?_
    refine rt_st (la1 := [some (rf c), o1_, some (.inl x2_), some (.inl x3_), some (rf r4_), some (.inl x5_), some (.inl (x5_ + (v_X2_blockOvers σ (σ r4_ 3) x2_))), some (.inl (0 : Int32)), o8_]) rfl rfl rfl ?_
    refine rt_ld rfl rfl ?_
    refine rt_st (la1 := [some (rf c), o1_, some (.inl x2_), some (.inl x3_), some (rf r4_), some (.inl x5_), some (.inl (x5_ + (v_X2_blockOvers σ (σ r4_ 3) x2_))), some (.inl (0 : Int32)), some (.inl x5_)]) rfl rfl rfl ?_
    exact m_X0_blockFact_l75 c hc 600 x3_ r4_ (x5_ + (v_X2_blockOvers σ (σ r4_ 3) x2_)) (0 : Int32) x5_ hr4_ _ _ _ _ hp
  · replace hp := hp.2 h
    refine rt_ld rfl rfl ?_
    refine rt_k1 rfl ck1_3 ?_
    refine rt_ic rfl rfl (fun h => ?_) (fun h => ?_)
    · replace hp := hp.1 h
      refine rt_ld rfl rfl ?_
      refine rt_lna rfl rfl ?_
      refine rt_gfr rfl hc (by decide) rfl ?_
      refine rt_lda rfl rfl ?_
      refine rt_gfi rfl hr4_ (by decide) rfl rfl ?_
      refine rt_ln rfl rfl ?_
      refine rt_iv (σ1 := σ) rfl rfl rfl (m_X2_blockOvers (σ r4_ 3) x2_ hp.1) ?_
      show RtF bk (fV σ) s 10 65 [some (rf c), o1_, some (.inl x2_), some (.inl x3_), some (rf r4_), some (.inl x5_), some (.inl x6_), o7_, o8_] [.inl (v_X2_blockOvers σ (σ r4_ 3) x2_), .inl x5_] σ _
      replace hp := hp.2
      refine rt_add rfl ?_
      refine rt_st (la1 := [some (rf c), o1_, some (.inl x2_), some (.inl x3_), some (rf r4_), some (.inl x5_), some (.inl (x5_ + (v_X2_blockOvers σ (σ r4_ 3) x2_))), o7_, o8_]) rfl rfl rfl ?_
      refine rt_k1 rfl ck1_0 ?_
      refine rt_st (la1 := [some (rf c), o1_, some (.inl x2_), some (.inl x3_), some (rf r4_), some (.inl x5_), some (.inl (x5_ + (v_X2_blockOvers σ (σ r4_ 3) x2_))), some (.inl (0 : Int32)), o8_]) rfl rfl rfl ?_
      refine rt_ld rfl rfl ?_
      refine rt_st (la1 := [some (rf c), o1_, some (.inl x2_), some (.inl x3_), some (rf r4_), some (.inl x5_), some (.inl (x5_ + (v_X2_blockOvers σ (σ r4_ 3) x2_))), some (.inl (0 : Int32)), some (.inl x5_)]) rfl rfl rfl ?_
      exact m_X0_blockFact_l75 c hc 600 x3_ r4_ (x5_ + (v_X2_blockOvers σ (σ r4_ 3) x2_)) (0 : Int32) x5_ hr4_ _ _ _ _ hp
    · replace hp := hp.2 h
      refine rt_ld rfl rfl ?_
      refine rt_lna rfl rfl ?_
      refine rt_gfr rfl hc (by decide) rfl ?_
      refine rt_lda rfl rfl ?_
      refine rt_gfi rfl hr4_ (by decide) rfl rfl ?_
      refine rt_ld rfl rfl ?_
      refine rt_iv (σ1 := σ) rfl rfl rfl (m_X2_blockOvers (σ r4_ 3) x6_ hp.1) ?_
      show RtF bk (fV σ) s 10 41 [some (rf c), o1_, some (.inl x2_), some (.inl x3_), some (rf r4_), some (.inl x5_), some (.inl x6_), o7_, o8_] [.inl (v_X2_blockOvers σ (σ r4_ 3) x6_), .inl x5_] σ _
      replace hp := hp.2
      refine rt_add rfl ?_
      refine rt_st (la1 := [some (rf c), o1_, some (.inl x2_), some (.inl x3_), some (rf r4_), some (.inl (x5_ + (v_X2_blockOvers σ (σ r4_ 3) x6_))), some (.inl x6_), o7_, o8_]) rfl rfl rfl ?_
      refine rt_inc (la1 := [some (rf c), o1_, some (.inl x2_), some (.inl x3_), some (rf r4_), some (.inl (x5_ + (v_X2_blockOvers σ (σ r4_ 3) x6_))), some (.inl (x6_ + (1 : Int32))), o7_, o8_]) rfl rfl ck1_1 rfl ?_
      refine rt_go rfl ?_
      exact hk13 x2_ x3_ r4_ (x5_ + (v_X2_blockOvers σ (σ r4_ 3) x6_)) (x6_ + (1 : Int32)) hr4_ _ _ _ hp
noncomputable def v_X0_blockFact_l13 (σ : sg_S) (c : Nat) (n : Nat) : Int32 → Int32 → Nat → Int32 → Int32 → Int32 := Nat.rec (motive := fun _ => Int32 → Int32 → Nat → Int32 → Int32 → Int32) (fun _ _ _ _ _ => 0) (fun _ ih => v_X0_blockFact_b13 σ c ih) n
noncomputable def p_X0_blockFact_l13 (σ : sg_S) (c : Nat) (n : Nat) : Int32 → Int32 → Nat → Int32 → Int32 → Prop := Nat.rec (motive := fun _ => Int32 → Int32 → Nat → Int32 → Int32 → Prop) (fun _ _ _ _ _ => False) (fun _ ih => p_X0_blockFact_b13 σ c ih) n
theorem m_X0_blockFact_l13 {s : List Int32} {σ : sg_S} (c : Nat) (hc : Kd c 0 5) : ∀ (n : Nat), ∀ (x2_ : Int32) (x3_ : Int32) (r4_ : Nat) (x5_ : Int32) (x6_ : Int32) (hr4_ : Kd r4_ 1 14) (o1_ : Option (ip_V Int32)) (o7_ : Option (ip_V Int32)) (o8_ : Option (ip_V Int32)), p_X0_blockFact_l13 σ c n x2_ x3_ r4_ x5_ x6_ → RtF bk (fV σ) s 10 13 [some (rf c), o1_, some (.inl x2_), some (.inl x3_), some (rf r4_), some (.inl x5_), some (.inl x6_), o7_, o8_] [] σ (v_X0_blockFact_l13 σ c n x2_ x3_ r4_ x5_ x6_) := by
  intro n
  induction n with
  | zero =>
    intro x2_ x3_ r4_ x5_ x6_ hr4_ o1_ o7_ o8_ hp
    exact hp.elim
  | succ n ih =>
    intro x2_ x3_ r4_ x5_ x6_ hr4_ o1_ o7_ o8_ hp
    exact m_X0_blockFact_b13 c hc (v_X0_blockFact_l13 σ c n) (p_X0_blockFact_l13 σ c n) ih x2_ x3_ r4_ x5_ x6_ hr4_ o1_ o7_ o8_ hp
noncomputable def v_X0_blockFact (σ : sg_S) (c : Nat) (x0 : Int32) (x1 : Int32) (x2 : Int32) : Int32 := (v_X0_blockFact_l13 σ c 600 x1 x2 (v_X0_side c x0) (0 : Int32) (0 : Int32))
noncomputable def p_X0_blockFact (σ : sg_S) (c : Nat) (x0 : Int32) (x1 : Int32) (x2 : Int32) : Prop := (p_X0_blockFact_l13 σ c 600 x1 x2 (v_X0_side c x0) (0 : Int32) (0 : Int32))
theorem m_X0_blockFact {s : List Int32} {σ : sg_S} (c : Nat) (x0 : Int32) (x1 : Int32) (x2 : Int32) (hc : Kd c 0 5) (hp : p_X0_blockFact σ c x0 x1 x2) : Ct s 10 [rf c, .inl x0, .inl x1, .inl x2] σ [.inl (v_X0_blockFact σ c x0 x1 x2)] σ := by
  refine ct_v (la := [some (rf c), some (.inl x0), some (.inl x1), some (.inl x2), none, none, none, none, none]) hc rfl rfl rfl rfl rfl rfl rfl (cgV ?_)
  unfold v_X0_blockFact
  unfold p_X0_blockFact at hp
  refine rt_lna rfl rfl ?_
  refine rt_ln rfl rfl ?_
  refine rt_iv (σ1 := σ) rfl rfl rfl (m_X0_side c x0 hc) ?_
  show RtF bk (fV σ) s 10 5 [some (rf c), some (.inl x0), some (.inl x1), some (.inl x2), none, none, none, none, none] [rf (v_X0_side c x0)] σ _
  refine rt_sta (la1 := [some (rf c), some (.inl x0), some (.inl x1), some (.inl x2), some (rf (v_X0_side c x0)), none, none, none, none]) rfl rfl rfl ?_
  refine rt_k1 rfl ck1_0 ?_
  refine rt_st (la1 := [some (rf c), some (.inl x0), some (.inl x1), some (.inl x2), some (rf (v_X0_side c x0)), some (.inl (0 : Int32)), none, none, none]) rfl rfl rfl ?_
  refine rt_k1 rfl ck1_0 ?_
  refine rt_st (la1 := [some (rf c), some (.inl x0), some (.inl x1), some (.inl x2), some (rf (v_X0_side c x0)), some (.inl (0 : Int32)), some (.inl (0 : Int32)), none, none]) rfl rfl rfl ?_
  exact m_X0_blockFact_l13 c hc 600 x1 x2 (v_X0_side c x0) (0 : Int32) (0 : Int32) (Kside hc) _ _ _ hp
noncomputable def v_X0_projection (σ : sg_S) (c : Nat) : Int32 := (if ((σ (c + 1) 7) - (v_X0_worthLeft σ c)) ≤ 0 then (-1 : Int32) else (((σ (c + 1) 0) * (σ (c + 1) 7)) / ((σ (c + 1) 7) - (v_X0_worthLeft σ c))))
noncomputable def p_X0_projection (σ : sg_S) (c : Nat) : Prop := (p_X0_worthLeft σ c ∧ (¬ (((σ (c + 1) 7) - (v_X0_worthLeft σ c)) ≤ 0) → ¬ ((σ (c + 1) 7) - (v_X0_worthLeft σ c)) = 0))
theorem m_X0_projection {s : List Int32} {σ : sg_S} (c : Nat) (hc : Kd c 0 5) (hp : p_X0_projection σ c) : Ct s 11 [rf c] σ [.inl (v_X0_projection σ c)] σ := by
  refine ct_v (la := [some (rf c), none]) hc rfl rfl rfl rfl rfl rfl rfl (cgV ?_)
  unfold v_X0_projection
  unfold p_X0_projection at hp
  refine rt_lna rfl rfl ?_
  refine rt_gfr rfl hc (by decide) rfl ?_
  refine rt_gfi rfl (K0_1 hc) (by decide) rfl rfl ?_
  refine rt_lna rfl rfl ?_
  refine rt_iv (σ1 := σ) rfl rfl rfl (m_X0_worthLeft c hc hp.1) ?_
  show RtF bk (fV σ) s 11 11 [some (rf c), none] [.inl (v_X0_worthLeft σ c), .inl (σ (c + 1) 7)] σ _
  replace hp := hp.2
  refine rt_sub rfl ?_
  refine rt_sn (la1 := [some (rf c), some (.inl ((σ (c + 1) 7) - (v_X0_worthLeft σ c)))]) rfl rfl rfl ?_
  refine rt_ln rfl rfl ?_
  refine rt_if rfl rfl (fun h => ?_) (fun h => ?_)
  · refine rt_k1 rfl ck1_m1 ?_
    exact rt_eV rfl
  · replace hp := hp h
    refine rt_lna rfl rfl ?_
    refine rt_gfr rfl hc (by decide) rfl ?_
    refine rt_gfi rfl (K0_1 hc) (by decide) rfl rfl ?_
    refine rt_lna rfl rfl ?_
    refine rt_gfr rfl hc (by decide) rfl ?_
    refine rt_gfi rfl (K0_1 hc) (by decide) rfl rfl ?_
    refine rt_mul rfl ?_
    refine rt_ln rfl rfl ?_
    refine rt_div rfl hp ?_
    refine rt_go rfl ?_
    exact rt_eV rfl
noncomputable def v_X0_targetBy (σ : sg_S) (c : Nat) (x0 : Int32) (x1 : Int32) : Int32 := (if (v_X0_firstPart σ c) ≤ 0 then (-1 : Int32) else (if 0 < (v_X2_full σ) then (if (v_X0_firstPart σ c) ≤ x1 then ((x0 + (((v_X2_setting σ (1 : Int32)) * (x1 - (v_X0_firstPart σ c))) / (v_X2_full σ))) + (1 : Int32)) else (((x0 * x1) / (v_X0_firstPart σ c)) + (1 : Int32))) else (-1 : Int32)))
noncomputable def p_X0_targetBy (σ : sg_S) (c : Nat) (x0 : Int32) (x1 : Int32) : Prop := (¬ ((v_X0_firstPart σ c) ≤ 0) → (0 < (v_X2_full σ) → (((v_X0_firstPart σ c) ≤ x1 → (p_X2_setting (1 : Int32) ∧ ¬ (v_X2_full σ) = 0)) ∧ (¬ ((v_X0_firstPart σ c) ≤ x1) → ¬ (v_X0_firstPart σ c) = 0))))
theorem m_X0_targetBy {s : List Int32} {σ : sg_S} (c : Nat) (x0 : Int32) (x1 : Int32) (hc : Kd c 0 5) (hp : p_X0_targetBy σ c x0 x1) : Ct s 14 [rf c, .inl x0, .inl x1] σ [.inl (v_X0_targetBy σ c x0 x1)] σ := by
  refine ct_v (la := [some (rf c), some (.inl x0), some (.inl x1), none, none]) hc rfl rfl rfl rfl rfl rfl rfl (cgV ?_)
  unfold v_X0_targetBy
  unfold p_X0_targetBy at hp
  refine rt_lna rfl rfl ?_
  refine rt_iv (σ1 := σ) rfl rfl rfl (m_X0_firstPart c hc) ?_
  show RtF bk (fV σ) s 14 4 [some (rf c), some (.inl x0), some (.inl x1), none, none] [.inl (v_X0_firstPart σ c)] σ _
  refine rt_sn (la1 := [some (rf c), some (.inl x0), some (.inl x1), some (.inl (v_X0_firstPart σ c)), none]) rfl rfl rfl ?_
  refine rt_lna rfl rfl ?_
  refine rt_gfr rfl hc (by decide) rfl ?_
  refine rt_iv (σ1 := σ) rfl rfl rfl (m_X2_full) ?_
  show RtF bk (fV σ) s 14 12 [some (rf c), some (.inl x0), some (.inl x1), some (.inl (v_X0_firstPart σ c)), none] [.inl (v_X2_full σ)] σ _
  refine rt_st (la1 := [some (rf c), some (.inl x0), some (.inl x1), some (.inl (v_X0_firstPart σ c)), some (.inl (v_X2_full σ))]) rfl rfl rfl ?_
  refine rt_ln rfl rfl ?_
  refine rt_if rfl rfl (fun h => ?_) (fun h => ?_)
  · refine rt_k1 rfl ck1_m1 ?_
    exact rt_eV rfl
  · replace hp := hp h
    refine rt_ld rfl rfl ?_
    refine rt_if rfl rfl (fun h => ?_) (fun h => ?_)
    · replace hp := hp h
      refine rt_ln rfl rfl ?_
      refine rt_ln rfl rfl ?_
      refine rt_ic rfl rfl (fun h => ?_) (fun h => ?_)
      · replace hp := hp.1 h
        refine rt_ln rfl rfl ?_
        refine rt_lna rfl rfl ?_
        refine rt_gfr rfl hc (by decide) rfl ?_
        refine rt_k1 rfl ck1_1 ?_
        refine rt_iv (σ1 := σ) rfl rfl rfl (m_X2_setting (1 : Int32) hp.1) ?_
        show RtF bk (fV σ) s 14 47 [some (rf c), some (.inl x0), some (.inl x1), some (.inl (v_X0_firstPart σ c)), some (.inl (v_X2_full σ))] [.inl (v_X2_setting σ (1 : Int32)), .inl x0] σ _
        replace hp := hp.2
        refine rt_ln rfl rfl ?_
        refine rt_ln rfl rfl ?_
        refine rt_sub rfl ?_
        refine rt_mul rfl ?_
        refine rt_ld rfl rfl ?_
        refine rt_div rfl hp ?_
        refine rt_add rfl ?_
        refine rt_k1 rfl ck1_1 ?_
        refine rt_add rfl ?_
        exact rt_eV rfl
      · replace hp := hp.2 h
        refine rt_ln rfl rfl ?_
        refine rt_ln rfl rfl ?_
        refine rt_mul rfl ?_
        refine rt_ln rfl rfl ?_
        refine rt_div rfl hp ?_
        refine rt_k1 rfl ck1_1 ?_
        refine rt_add rfl ?_
        exact rt_eV rfl
    · refine rt_k1 rfl ck1_m1 ?_
      exact rt_eV rfl
