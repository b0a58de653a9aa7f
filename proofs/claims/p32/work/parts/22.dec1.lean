theorem Kq_0 : Kd 0 4 9 := ⟨by decide, rfl, rfl⟩
theorem Kq_1 : Kd 1 2 3 := ⟨by decide, rfl, rfl⟩
theorem Kq_2 : Kd 2 20 50 := ⟨by decide, rfl, rfl⟩
theorem Kq_3 : Kd 3 20 50 := ⟨by decide, rfl, rfl⟩
theorem Kq_4 : Kd 4 20 5 := ⟨by decide, rfl, rfl⟩
theorem Kq_5 : Kd 5 3 5 := ⟨by decide, rfl, rfl⟩
theorem Kq_6 : Kd 6 20 500 := ⟨by decide, rfl, rfl⟩
theorem Kq_7 : Kd 7 0 5 := ⟨by decide, rfl, rfl⟩
theorem Kq_8 : Kd 8 1 14 := ⟨by decide, rfl, rfl⟩
theorem Kq_9 : Kd 9 20 60 := ⟨by decide, rfl, rfl⟩
theorem Kq_10 : Kd 10 20 95 := ⟨by decide, rfl, rfl⟩
theorem Kq_11 : Kd 11 20 7 := ⟨by decide, rfl, rfl⟩
theorem Kq_12 : Kd 12 20 10 := ⟨by decide, rfl, rfl⟩
theorem Kq_13 : Kd 13 20 10 := ⟨by decide, rfl, rfl⟩
theorem Kq_14 : Kd 14 1 14 := ⟨by decide, rfl, rfl⟩
theorem Kq_15 : Kd 15 20 60 := ⟨by decide, rfl, rfl⟩
theorem Kq_16 : Kd 16 20 95 := ⟨by decide, rfl, rfl⟩
theorem Kq_17 : Kd 17 20 7 := ⟨by decide, rfl, rfl⟩
theorem Kq_18 : Kd 18 20 10 := ⟨by decide, rfl, rfl⟩
theorem Kq_19 : Kd 19 20 10 := ⟨by decide, rfl, rfl⟩
theorem Kq_20 : Kd 20 0 5 := ⟨by decide, rfl, rfl⟩
theorem Kq_21 : Kd 21 1 14 := ⟨by decide, rfl, rfl⟩
theorem Kq_22 : Kd 22 20 60 := ⟨by decide, rfl, rfl⟩
theorem Kq_23 : Kd 23 20 95 := ⟨by decide, rfl, rfl⟩
theorem Kq_24 : Kd 24 20 7 := ⟨by decide, rfl, rfl⟩
theorem Kq_25 : Kd 25 20 10 := ⟨by decide, rfl, rfl⟩
theorem Kq_26 : Kd 26 20 10 := ⟨by decide, rfl, rfl⟩
theorem Kq_27 : Kd 27 1 14 := ⟨by decide, rfl, rfl⟩
theorem Kq_28 : Kd 28 20 60 := ⟨by decide, rfl, rfl⟩
theorem Kq_29 : Kd 29 20 95 := ⟨by decide, rfl, rfl⟩
theorem Kq_30 : Kd 30 20 7 := ⟨by decide, rfl, rfl⟩
theorem Kq_31 : Kd 31 20 10 := ⟨by decide, rfl, rfl⟩
theorem Kq_32 : Kd 32 20 10 := ⟨by decide, rfl, rfl⟩
theorem Kq_33 : Kd 33 20 400 := ⟨by decide, rfl, rfl⟩
theorem Kq_34 : Kd 34 20 400 := ⟨by decide, rfl, rfl⟩
theorem Kq_35 : Kd 35 5 35 := ⟨by decide, rfl, rfl⟩
theorem Kq_36 : Kd 36 20 5 := ⟨by decide, rfl, rfl⟩
theorem Kq_37 : Kd 37 20 50 := ⟨by decide, rfl, rfl⟩
theorem Kq_38 : Kd 38 20 50 := ⟨by decide, rfl, rfl⟩
theorem Kq_39 : Kd 39 20 400 := ⟨by decide, rfl, rfl⟩
theorem Kq_40 : Kd 40 20 400 := ⟨by decide, rfl, rfl⟩
theorem Kq_41 : Kd 41 20 2 := ⟨by decide, rfl, rfl⟩
theorem Kq_42 : Kd 42 20 2 := ⟨by decide, rfl, rfl⟩
theorem Kq_43 : Kd 43 20 2 := ⟨by decide, rfl, rfl⟩
theorem Kq_44 : Kd 44 20 2 := ⟨by decide, rfl, rfl⟩
theorem Kq_45 : Kd 45 20 2 := ⟨by decide, rfl, rfl⟩
theorem Kq_46 : Kd 46 20 2 := ⟨by decide, rfl, rfl⟩
theorem Kq_47 : Kd 47 21 2 := ⟨by decide, rfl, rfl⟩
theorem Kq_48 : Kd 48 20 2 := ⟨by decide, rfl, rfl⟩
theorem Kq_49 : Kd 49 20 2 := ⟨by decide, rfl, rfl⟩
theorem Kq_50 : Kd 50 20 200 := ⟨by decide, rfl, rfl⟩
theorem Kq_51 : Kd 51 20 20 := ⟨by decide, rfl, rfl⟩
theorem Kq_52 : Kd 52 20 20 := ⟨by decide, rfl, rfl⟩
theorem Kq_53 : Kd 53 20 40 := ⟨by decide, rfl, rfl⟩
theorem Kq_54 : Kd 54 20 40 := ⟨by decide, rfl, rfl⟩
theorem Kq_55 : Kd 55 20 40 := ⟨by decide, rfl, rfl⟩
theorem Kq_56 : Kd 56 20 14 := ⟨by decide, rfl, rfl⟩
theorem Kq_57 : Kd 57 20 500 := ⟨by decide, rfl, rfl⟩
theorem Kq_58 : Kd 58 20 3 := ⟨by decide, rfl, rfl⟩
theorem Kq_59 : Kd 59 20 3 := ⟨by decide, rfl, rfl⟩
theorem Kq_60 : Kd 60 22 1 := ⟨by decide, rfl, rfl⟩
theorem ck1_0 : Int32.ofInt (0) = 0 := rfl
theorem ck1_1 : Int32.ofInt (1) = 1 := rfl
theorem ck1_2 : Int32.ofInt (2) = 2 := rfl
theorem ck1_3 : Int32.ofInt (3) = 3 := rfl
theorem ck1_4 : Int32.ofInt (4) = 4 := rfl
theorem ck1_5 : Int32.ofInt (5) = 5 := rfl
theorem ck1_m1 : Int32.ofInt (-1) = (-1) := rfl
theorem ck1_m8 : Int32.ofInt (-8) = (-8) := rfl
theorem ck2_10 : (Int8.ofInt (10)).toInt32 = 10 := rfl
theorem ck2_100 : (Int8.ofInt (100)).toInt32 = 100 := rfl
theorem ck2_11 : (Int8.ofInt (11)).toInt32 = 11 := rfl
theorem ck2_110 : (Int8.ofInt (110)).toInt32 = 110 := rfl
theorem ck2_111 : (Int8.ofInt (111)).toInt32 = 111 := rfl
theorem ck2_114 : (Int8.ofInt (114)).toInt32 = 114 := rfl
theorem ck2_119 : (Int8.ofInt (119)).toInt32 = 119 := rfl
theorem ck2_120 : (Int8.ofInt (120)).toInt32 = 120 := rfl
theorem ck2_122 : (Int8.ofInt (122)).toInt32 = 122 := rfl
theorem ck2_13 : (Int8.ofInt (13)).toInt32 = 13 := rfl
theorem ck2_14 : (Int8.ofInt (14)).toInt32 = 14 := rfl
theorem ck2_19 : (Int8.ofInt (19)).toInt32 = 19 := rfl
theorem ck2_20 : (Int8.ofInt (20)).toInt32 = 20 := rfl
theorem ck2_24 : (Int8.ofInt (24)).toInt32 = 24 := rfl
theorem ck2_30 : (Int8.ofInt (30)).toInt32 = 30 := rfl
theorem ck2_32 : (Int8.ofInt (32)).toInt32 = 32 := rfl
theorem ck2_40 : (Int8.ofInt (40)).toInt32 = 40 := rfl
theorem ck2_47 : (Int8.ofInt (47)).toInt32 = 47 := rfl
theorem ck2_48 : (Int8.ofInt (48)).toInt32 = 48 := rfl
theorem ck2_50 : (Int8.ofInt (50)).toInt32 = 50 := rfl
theorem ck2_54 : (Int8.ofInt (54)).toInt32 = 54 := rfl
theorem ck2_57 : (Int8.ofInt (57)).toInt32 = 57 := rfl
theorem ck2_59 : (Int8.ofInt (59)).toInt32 = 59 := rfl
theorem ck2_6 : (Int8.ofInt (6)).toInt32 = 6 := rfl
theorem ck2_60 : (Int8.ofInt (60)).toInt32 = 60 := rfl
theorem ck2_64 : (Int8.ofInt (64)).toInt32 = 64 := rfl
theorem ck2_7 : (Int8.ofInt (7)).toInt32 = 7 := rfl
theorem ck2_8 : (Int8.ofInt (8)).toInt32 = 8 := rfl
theorem ck2_9 : (Int8.ofInt (9)).toInt32 = 9 := rfl
theorem ck2_97 : (Int8.ofInt (97)).toInt32 = 97 := rfl
theorem ck2_99 : (Int8.ofInt (99)).toInt32 = 99 := rfl
theorem ck2_m2 : (Int8.ofInt (-2)).toInt32 = (-2) := rfl
theorem ck3_1000 : (Int16.ofInt (1000)).toInt32 = 1000 := rfl
theorem ck3_255 : (Int16.ofInt (255)).toInt32 = 255 := rfl
theorem ck3_400 : (Int16.ofInt (400)).toInt32 = 400 := rfl
theorem ck3_500 : (Int16.ofInt (500)).toInt32 = 500 := rfl
theorem ck3_999 : (Int16.ofInt (999)).toInt32 = 999 := rfl
theorem rt_ls2 {E' : ip_E → List (ip_V Int32) → Option (List (ip_V Int32))} {X : Type} {F : X → List (ip_V Int32) × sg_S} {s : List Int32} {j pc nx a b c0 pc1 : Nat} {la : List (Option (ip_V Int32))} {st : List (ip_V Int32)} {σ : sg_S} {r : X} {d o1 o2 : Int} {v : Int32} (hT : ip_T j pc = some (.lookupswitch d #[(1, o1), (2, o2)], nx, a, b, c0)) (h1 : ¬ v = 1) (h2 : ¬ v = 2) (hp : (pc : Int) + d = (pc1 : Int)) (k : RtF E' F s j pc1 la st σ r) : RtF E' F s j pc la (.inl v :: st) σ r := by
  refine rt_step hT rfl ?_ k
  have g1 : ¬ v.toInt = 1 := fun h => h1 (Int32.toInt_inj.mp (by rw [h]; rfl))
  have g2 : ¬ v.toInt = 2 := fun h => h2 (Int32.toInt_inj.mp (by rw [h]; rfl))
  have ho : Op.lookupswitch.offset ([(1, o1), (2, o2)] : List (Int × Int)) d v.toInt = d := by
    simp [Op.lookupswitch.offset, Ne.symm g1, Ne.symm g2]
  show ip_sLs ex_ops d #[(1, o1), (2, o2)] (sgF pc la (.inl v :: st) σ) = _
  unfold ip_sLs
  dsimp only [ex_ops]
  rw [ho, hp, if_pos ⟨rfl, by omega⟩]
  rfl
theorem rt_bb {x : ip_E} {v : Int32} {nx a b : Nat} (hx : x = (.ireturn, nx, a, b, 1)) (hv : bt v) : bk x [.inl v] = some [.inl v] := by
  subst hx
  show (bif ip_bit (ex_ops.2.2.2 v) then some [(Sum.inl v : ip_V Int32)] else none) = _
  rw [bt_bit hv]
  rfl
theorem rt_eV {s : List Int32} {j pc nx a b : Nat} {la : List (Option (ip_V Int32))} {σ : sg_S} {v : Int32} (hT : ip_T j pc = some (.ireturn, nx, a, b, 0)) : RtF bk (fV σ) s j pc la [.inl v] σ v := rt_end hT rfl rfl rfl
theorem rt_eR {s : List Int32} {j pc nx a b : Nat} {la : List (Option (ip_V Int32))} {σ : sg_S} {v : Int32} (hT : ip_T j pc = some (.ireturn, nx, a, b, 0)) : RtF bk fR s j pc la [.inl v] σ (v, σ) := rt_end hT rfl rfl rfl
theorem rt_eVb {s : List Int32} {j pc nx a b : Nat} {la : List (Option (ip_V Int32))} {σ : sg_S} {v : Int32} (hT : ip_T j pc = some (.ireturn, nx, a, b, 1)) (hv : bt v) : RtF bk (fV σ) s j pc la [.inl v] σ v := rt_end hT rfl (rt_bb rfl hv) rfl
theorem rt_eRb {s : List Int32} {j pc nx a b : Nat} {la : List (Option (ip_V Int32))} {σ : sg_S} {v : Int32} (hT : ip_T j pc = some (.ireturn, nx, a, b, 1)) (hv : bt v) : RtF bk fR s j pc la [.inl v] σ (v, σ) := rt_end hT rfl (rt_bb rfl hv) rfl
theorem rt_eS {s : List Int32} {j pc nx a b c0 : Nat} {la : List (Option (ip_V Int32))} {σ : sg_S} (hT : ip_T j pc = some (.return_, nx, a, b, c0)) : RtF bk fS s j pc la [] σ σ := rt_end hT rfl rfl rfl
theorem rt_eQ {s : List Int32} {j pc nx a b c0 : Nat} {la : List (Option (ip_V Int32))} {σ : sg_S} {q : Nat} (hT : ip_T j pc = some (.areturn, nx, a, b, c0)) : RtF bk (fQ σ) s j pc la [rf q] σ q := rt_end hT rfl rfl rfl
theorem rt_eT {s : List Int32} {j pc nx a b : Nat} {la : List (Option (ip_V Int32))} {σ : sg_S} {v : Int32} (hT : ip_T j pc = some (.ireturn, nx, a, b, 0)) : RtF thB (fT σ) s j pc la [.inl v] σ (some v) := rt_end hT rfl rfl rfl
theorem rt_eN {s : List Int32} {j pc nx a b : Nat} {la : List (Option (ip_V Int32))} {σ : sg_S} {i : Nat} (hT : ip_T j pc = some (.new i, nx, a, b, 9)) : RtF thB (fT σ) s j pc la [] σ none := rt_end hT rfl rfl rfl
theorem cgV {s : List Int32} {j pc : Nat} {la : List (Option (ip_V Int32))} {st : List (ip_V Int32)} {σ : sg_S} {v : Int32} (k : RtF bk (fV σ) s j pc la st σ v) : RtG bk s j pc la st σ [.inl v] σ := k
theorem cgS {s : List Int32} {j pc : Nat} {la : List (Option (ip_V Int32))} {st : List (ip_V Int32)} {σ : sg_S} {S : sg_S} (k : RtF bk fS s j pc la st σ S) : RtG bk s j pc la st σ [] S := k
theorem cgR {s : List Int32} {j pc : Nat} {la : List (Option (ip_V Int32))} {st : List (ip_V Int32)} {σ : sg_S} {r : Int32 × sg_S} (k : RtF bk fR s j pc la st σ r) : RtG bk s j pc la st σ [.inl r.1] r.2 := k
theorem cgQ {s : List Int32} {j pc : Nat} {la : List (Option (ip_V Int32))} {st : List (ip_V Int32)} {σ : sg_S} {q : Nat} (k : RtF bk (fQ σ) s j pc la st σ q) : RtG bk s j pc la st σ [rf q] σ := k
noncomputable def v_X0_side (c : Nat) (x0 : Int32) : Nat := (if ¬ x0 = 0 then (c + 7) else (c + 1))
theorem m_X0_side {s : List Int32} {σ : sg_S} (c : Nat) (x0 : Int32) (hc : Kd c 0 5) : Ct s 2 [rf c, .inl x0] σ [rf (v_X0_side c x0)] σ := by
  refine ct_v (la := [some (rf c), some (.inl x0)]) hc rfl rfl rfl rfl rfl rfl rfl (cgQ ?_)
  unfold v_X0_side
  refine rt_ln rfl rfl ?_
  refine rt_if rfl rfl (fun h => ?_) (fun h => ?_)
  · refine rt_lna rfl rfl ?_
    refine rt_gfr rfl hc (by decide) rfl ?_
    exact rt_eQ rfl
  · refine rt_lna rfl rfl ?_
    refine rt_gfr rfl hc (by decide) rfl ?_
    refine rt_go rfl ?_
    exact rt_eQ rfl
theorem Kside {c : Nat} {x : Int32} (h : Kd c 0 5) : Kd (v_X0_side c x) 1 14 := by
  unfold v_X0_side
  split
  · exact K0_2 h
  · exact K0_1 h
noncomputable def v_X0_admits (σ : sg_S) (c : Nat) (x0 : Int32) : Int32 := (if (2 : Int32) ≤ (σ c 3) then (0 : Int32) else (if ¬ x0 = (100 : Int32) then (1 : Int32) else (if (σ c 4) = 0 then (0 : Int32) else (1 : Int32))))
theorem m_X0_admits {s : List Int32} {σ : sg_S} (c : Nat) (x0 : Int32) (hc : Kd c 0 5) : Ct s 3 [rf c, .inl x0] σ [.inl (v_X0_admits σ c x0)] σ := by
  refine ct_v (la := [some (rf c), some (.inl x0)]) hc rfl rfl rfl rfl rfl rfl rfl (cgV ?_)
  unfold v_X0_admits
  refine rt_lna rfl rfl ?_
  refine rt_gfi rfl hc (by decide) rfl rfl ?_
  refine rt_k1 rfl ck1_2 ?_
  refine rt_ic rfl rfl (fun h => ?_) (fun h => ?_)
  · refine rt_k1 rfl ck1_0 ?_
    exact rt_eVb rfl (Or.inl rfl)
  · refine rt_ln rfl rfl ?_
    refine rt_k2 rfl ck2_100 ?_
    refine rt_ic rfl rfl (fun h => ?_) (fun h => ?_)
    · refine rt_k1 rfl ck1_1 ?_
      refine rt_go rfl ?_
      exact rt_eVb rfl (Or.inr rfl)
    · refine rt_lna rfl rfl ?_
      refine rt_gfi rfl hc (by decide) rfl rfl ?_
      refine rt_if rfl rfl (fun h => ?_) (fun h => ?_)
      · refine rt_k1 rfl ck1_0 ?_
        exact rt_eVb rfl (Or.inl rfl)
      · refine rt_k1 rfl ck1_1 ?_
        refine rt_go rfl ?_
        exact rt_eVb rfl (Or.inr rfl)
noncomputable def v_X0_fits (σ : sg_S) (c : Nat) (x0 : Int32) (x1 : Int32) : Int32 := (if x1 < (1 : Int32) then (0 : Int32) else (if x1 ≤ (20 : Int32) then (if ¬ x0 = (100 : Int32) then (if (σ (v_X0_side c (σ c 3)) 3) ≤ x1 then (0 : Int32) else (if ((6 : Int32) * x1) < (σ (v_X0_side c (σ c 3)) 2) then (0 : Int32) else (1 : Int32))) else (if (σ (c + 7) 3) ≤ x1 then (0 : Int32) else (1 : Int32))) else (0 : Int32)))
theorem m_X0_fits {s : List Int32} {σ : sg_S} (c : Nat) (x0 : Int32) (x1 : Int32) (hc : Kd c 0 5) : Ct s 4 [rf c, .inl x0, .inl x1] σ [.inl (v_X0_fits σ c x0 x1)] σ := by
  refine ct_v (la := [some (rf c), some (.inl x0), some (.inl x1), none]) hc rfl rfl rfl rfl rfl rfl rfl (cgV ?_)
  unfold v_X0_fits
  refine rt_ln rfl rfl ?_
  refine rt_k1 rfl ck1_1 ?_
  refine rt_ic rfl rfl (fun h => ?_) (fun h => ?_)
  · refine rt_k1 rfl ck1_0 ?_
    exact rt_eVb rfl (Or.inl rfl)
  · refine rt_ln rfl rfl ?_
    refine rt_k2 rfl ck2_20 ?_
    refine rt_ic rfl rfl (fun h => ?_) (fun h => ?_)
    · refine rt_ln rfl rfl ?_
      refine rt_k2 rfl ck2_100 ?_
      refine rt_ic rfl rfl (fun h => ?_) (fun h => ?_)
      · refine rt_lna rfl rfl ?_
        refine rt_lna rfl rfl ?_
        refine rt_gfi rfl hc (by decide) rfl rfl ?_
        refine rt_iv (σ1 := σ) rfl rfl rfl (m_X0_side c (σ c 3) hc) ?_
        show RtF bk (fV σ) s 4 44 [some (rf c), some (.inl x0), some (.inl x1), none] [rf (v_X0_side c (σ c 3))] σ _
        refine rt_sna (la1 := [some (rf c), some (.inl x0), some (.inl x1), some (rf (v_X0_side c (σ c 3)))]) rfl rfl rfl ?_
        refine rt_ln rfl rfl ?_
        refine rt_lna rfl rfl ?_
        refine rt_gfi rfl (Kside hc) (by decide) rfl rfl ?_
        refine rt_ic rfl rfl (fun h => ?_) (fun h => ?_)
        · refine rt_k1 rfl ck1_0 ?_
          exact rt_eVb rfl (Or.inl rfl)
        · refine rt_k2 rfl ck2_6 ?_
          refine rt_ln rfl rfl ?_
          refine rt_mul rfl ?_
          refine rt_lna rfl rfl ?_
          refine rt_gfi rfl (Kside hc) (by decide) rfl rfl ?_
          refine rt_ic rfl rfl (fun h => ?_) (fun h => ?_)
          · refine rt_k1 rfl ck1_0 ?_
            exact rt_eVb rfl (Or.inl rfl)
          · refine rt_k1 rfl ck1_1 ?_
            refine rt_go rfl ?_
            exact rt_eVb rfl (Or.inr rfl)
      · refine rt_ln rfl rfl ?_
        refine rt_lna rfl rfl ?_
        refine rt_gfr rfl hc (by decide) rfl ?_
        refine rt_gfi rfl (K0_2 hc) (by decide) rfl rfl ?_
        refine rt_ic rfl rfl (fun h => ?_) (fun h => ?_)
        · refine rt_k1 rfl ck1_0 ?_
          exact rt_eVb rfl (Or.inl rfl)
        · refine rt_k1 rfl ck1_1 ?_
          refine rt_go rfl ?_
          exact rt_eVb rfl (Or.inr rfl)
    · refine rt_k1 rfl ck1_0 ?_
      exact rt_eVb rfl (Or.inl rfl)
noncomputable def v_X0_ballsLeft (σ : sg_S) (c : Nat) (x0 : Int32) : Int32 := (if (σ c 3) ≤ x0 then (((6 : Int32) * (σ (v_X0_side c x0) 3)) - (σ (v_X0_side c x0) 2)) else (0 : Int32))
theorem m_X0_ballsLeft {s : List Int32} {σ : sg_S} (c : Nat) (x0 : Int32) (hc : Kd c 0 5) : Ct s 7 [rf c, .inl x0] σ [.inl (v_X0_ballsLeft σ c x0)] σ := by
  refine ct_v (la := [some (rf c), some (.inl x0), none]) hc rfl rfl rfl rfl rfl rfl rfl (cgV ?_)
  unfold v_X0_ballsLeft
  refine rt_lna rfl rfl ?_
  refine rt_ln rfl rfl ?_
  refine rt_iv (σ1 := σ) rfl rfl rfl (m_X0_side c x0 hc) ?_
  show RtF bk (fV σ) s 7 5 [some (rf c), some (.inl x0), none] [rf (v_X0_side c x0)] σ _
  refine rt_sna (la1 := [some (rf c), some (.inl x0), some (rf (v_X0_side c x0))]) rfl rfl rfl ?_
  refine rt_ln rfl rfl ?_
  refine rt_lna rfl rfl ?_
  refine rt_gfi rfl hc (by decide) rfl rfl ?_
  refine rt_ic rfl rfl (fun h => ?_) (fun h => ?_)
  · refine rt_k2 rfl ck2_6 ?_
    refine rt_lna rfl rfl ?_
    refine rt_gfi rfl (Kside hc) (by decide) rfl rfl ?_
    refine rt_mul rfl ?_
    refine rt_lna rfl rfl ?_
    refine rt_gfi rfl (Kside hc) (by decide) rfl rfl ?_
    refine rt_sub rfl ?_
    exact rt_eV rfl
  · refine rt_k1 rfl ck1_0 ?_
    refine rt_go rfl ?_
    exact rt_eV rfl
noncomputable def v_X0_firstPart (σ : sg_S) (c : Nat) : Int32 := ((σ (c + 1) 7) - (σ (c + 1) 8))
theorem m_X0_firstPart {s : List Int32} {σ : sg_S} (c : Nat) (hc : Kd c 0 5) : Ct s 12 [rf c] σ [.inl (v_X0_firstPart σ c)] σ := by
  refine ct_v (la := [some (rf c)]) hc rfl rfl rfl rfl rfl rfl rfl (cgV ?_)
  unfold v_X0_firstPart
  refine rt_lna rfl rfl ?_
  refine rt_gfr rfl hc (by decide) rfl ?_
  refine rt_gfi rfl (K0_1 hc) (by decide) rfl rfl ?_
  refine rt_lna rfl rfl ?_
  refine rt_gfr rfl hc (by decide) rfl ?_
  refine rt_gfi rfl (K0_1 hc) (by decide) rfl rfl ?_
  refine rt_sub rfl ?_
  exact rt_eV rfl
noncomputable def v_X0_hasTarget (σ : sg_S) (c : Nat) : Int32 := (if (σ c 3) ≤ 0 then (0 : Int32) else (if (v_X0_firstPart σ c) ≤ 0 then (0 : Int32) else (1 : Int32)))
theorem m_X0_hasTarget {s : List Int32} {σ : sg_S} (c : Nat) (hc : Kd c 0 5) : Ct s 13 [rf c] σ [.inl (v_X0_hasTarget σ c)] σ := by
  refine ct_v (la := [some (rf c)]) hc rfl rfl rfl rfl rfl rfl rfl (cgV ?_)
  unfold v_X0_hasTarget
  refine rt_lna rfl rfl ?_
  refine rt_gfi rfl hc (by decide) rfl rfl ?_
  refine rt_if rfl rfl (fun h => ?_) (fun h => ?_)
  · refine rt_k1 rfl ck1_0 ?_
    exact rt_eVb rfl (Or.inl rfl)
  · refine rt_lna rfl rfl ?_
    refine rt_iv (σ1 := σ) rfl rfl rfl (m_X0_firstPart c hc) ?_
    show RtF bk (fV σ) s 13 11 [some (rf c)] [.inl (v_X0_firstPart σ c)] σ _
    refine rt_if rfl rfl (fun h => ?_) (fun h => ?_)
    · refine rt_k1 rfl ck1_0 ?_
      exact rt_eVb rfl (Or.inl rfl)
    · refine rt_k1 rfl ck1_1 ?_
      refine rt_go rfl ?_
      exact rt_eVb rfl (Or.inr rfl)
noncomputable def s_X1_beginWith (σ : sg_S) (q : Nat) (x0 : Int32) (x1 : Int32) : sg_S := (sg_up (sg_up σ q 3 x0) q 7 x1)
theorem m_X1_beginWith {s : List Int32} {σ : sg_S} (q : Nat) (x0 : Int32) (x1 : Int32) (hq : Kd q 1 14) : Ct s 26 [rf q, .inl x0, .inl x1] σ [] (s_X1_beginWith σ q x0 x1) := by
  refine ct_v (la := [some (rf q), some (.inl x0), some (.inl x1)]) hq rfl rfl rfl rfl rfl rfl rfl (cgS ?_)
  unfold s_X1_beginWith
  refine rt_lna rfl rfl ?_
  refine rt_ln rfl rfl ?_
  refine rt_pf (σ1 := (sg_up σ q 3 x0)) rfl hq (by decide) rfl rfl rfl ?_
  refine rt_lna rfl rfl ?_
  refine rt_ln rfl rfl ?_
  refine rt_pf (σ1 := (sg_up (sg_up σ q 3 x0) q 7 x1)) rfl hq (by decide) rfl rfl rfl ?_
  exact rt_eS rfl
noncomputable def t_X1_addToOver_0 (σ : sg_S) (q : Nat) (x0 : Int32) (x1 : Int32) : sg_S := (sg_up σ (q + 1) (ni (((3 : Int32) * ((σ q 2) / (6 : Int32))) + x0)) ((σ (q + 1) (ni (((3 : Int32) * ((σ q 2) / (6 : Int32))) + x0))) + x1))
noncomputable def s_X1_addToOver (σ : sg_S) (q : Nat) (x0 : Int32) (x1 : Int32) : sg_S := (if ((σ q 2) / (6 : Int32)) < 0 then σ else (if (20 : Int32) ≤ ((σ q 2) / (6 : Int32)) then σ else (if x0 < 0 then σ else (if (3 : Int32) ≤ x0 then σ else (t_X1_addToOver_0 σ q x0 x1)))))
noncomputable def p_X1_addToOver (σ : sg_S) (q : Nat) (x0 : Int32) (x1 : Int32) : Prop := (¬ (((σ q 2) / (6 : Int32)) < 0) → (¬ ((20 : Int32) ≤ ((σ q 2) / (6 : Int32))) → (¬ (x0 < 0) → (¬ ((3 : Int32) ≤ x0) → (ix (((3 : Int32) * ((σ q 2) / (6 : Int32))) + x0) 60 ∧ ix (((3 : Int32) * ((σ q 2) / (6 : Int32))) + x0) 60)))))
theorem m_X1_addToOver {s : List Int32} {σ : sg_S} (q : Nat) (x0 : Int32) (x1 : Int32) (hq : Kd q 1 14) (hp : p_X1_addToOver σ q x0 x1) : Ct s 27 [rf q, .inl x0, .inl x1] σ [] (s_X1_addToOver σ q x0 x1) := by
  refine ct_v (la := [some (rf q), some (.inl x0), some (.inl x1), none]) hq rfl rfl rfl rfl rfl rfl rfl (cgS ?_)
  unfold s_X1_addToOver
  unfold p_X1_addToOver at hp
  refine rt_lna rfl rfl ?_
  refine rt_gfi rfl hq (by decide) rfl rfl ?_
  refine rt_k2 rfl ck2_6 ?_
  refine rt_div rfl (by decide) ?_
  refine rt_sn (la1 := [some (rf q), some (.inl x0), some (.inl x1), some (.inl ((σ q 2) / (6 : Int32)))]) rfl rfl rfl ?_
  refine rt_ln rfl rfl ?_
  refine rt_if rfl rfl (fun h => ?_) (fun h => ?_)
  · exact rt_eS rfl
  · replace hp := hp h
    refine rt_ln rfl rfl ?_
    refine rt_k2 rfl ck2_20 ?_
    refine rt_ic rfl rfl (fun h => ?_) (fun h => ?_)
    · exact rt_eS rfl
    · replace hp := hp h
      refine rt_ln rfl rfl ?_
      refine rt_if rfl rfl (fun h => ?_) (fun h => ?_)
      · exact rt_eS rfl
      · replace hp := hp h
        refine rt_ln rfl rfl ?_
        refine rt_k1 rfl ck1_3 ?_
        refine rt_ic rfl rfl (fun h => ?_) (fun h => ?_)
        · exact rt_eS rfl
        · replace hp := hp h
          refine rt_lna rfl rfl ?_
          refine rt_gfr rfl hq (by decide) rfl ?_
          refine rt_k1 rfl ck1_3 ?_
          refine rt_ln rfl rfl ?_
          refine rt_mul rfl ?_
          refine rt_ln rfl rfl ?_
          refine rt_add rfl ?_
          refine rt_du2 rfl rfl rfl ?_
          refine rt_al rfl (K1_9 hq) hp.1 rfl ?_
          replace hp := hp.2
          refine rt_ln rfl rfl ?_
          refine rt_add rfl ?_
          refine rt_as (k0 := (ni (((3 : Int32) * ((σ q 2) / (6 : Int32))) + x0))) (σ1 := (t_X1_addToOver_0 σ q x0 x1)) rfl (K1_9 hq) hp rfl rfl ?_
          exact rt_eS rfl
noncomputable def t_X1_addExtra_0 (σ : sg_S) (q : Nat) : sg_S := (sg_up (s_X1_addToOver σ q (0 : Int32) (1 : Int32)) q 4 (((s_X1_addToOver σ q (0 : Int32) (1 : Int32)) q 4) + (1 : Int32)))
noncomputable def t_X1_addExtra_1 (σ : sg_S) (q : Nat) : sg_S := (sg_up (t_X1_addExtra_0 σ q) q 0 (((t_X1_addExtra_0 σ q) q 0) + (1 : Int32)))
noncomputable def s_X1_addExtra (σ : sg_S) (q : Nat) : sg_S := (t_X1_addExtra_1 σ q)
noncomputable def p_X1_addExtra (σ : sg_S) (q : Nat) : Prop := p_X1_addToOver σ q (0 : Int32) (1 : Int32)
theorem m_X1_addExtra {s : List Int32} {σ : sg_S} (q : Nat) (hq : Kd q 1 14) (hp : p_X1_addExtra σ q) : Ct s 28 [rf q] σ [] (s_X1_addExtra σ q) := by
  refine ct_v (la := [some (rf q)]) hq rfl rfl rfl rfl rfl rfl rfl (cgS ?_)
  unfold s_X1_addExtra
  unfold p_X1_addExtra at hp
  refine rt_lna rfl rfl ?_
  refine rt_k1 rfl ck1_0 ?_
  refine rt_k1 rfl ck1_1 ?_
  refine rt_iv (σ1 := (s_X1_addToOver σ q (0 : Int32) (1 : Int32))) rfl rfl rfl (m_X1_addToOver q (0 : Int32) (1 : Int32) hq hp) ?_
  show RtF bk fS s 28 6 [some (rf q)] [] (s_X1_addToOver σ q (0 : Int32) (1 : Int32)) _
  refine rt_lna rfl rfl ?_
  refine rt_dup rfl rfl ?_
  refine rt_gfi rfl hq (by decide) rfl rfl ?_
  refine rt_k1 rfl ck1_1 ?_
  refine rt_add rfl ?_
  refine rt_pf (σ1 := (t_X1_addExtra_0 σ q)) rfl hq (by decide) rfl rfl rfl ?_
  refine rt_lna rfl rfl ?_
  refine rt_dup rfl rfl ?_
  refine rt_gfi rfl hq (by decide) rfl rfl ?_
  refine rt_k1 rfl ck1_1 ?_
  refine rt_add rfl ?_
  refine rt_pf (σ1 := (t_X1_addExtra_1 σ q)) rfl hq (by decide) rfl rfl rfl ?_
  exact rt_eS rfl
noncomputable def t_X1_addBall_0 (σ : sg_S) (q : Nat) (x0 : Int32) : sg_S := (sg_up σ (q + 3) (ni x0) ((σ (q + 3) (ni x0)) + (1 : Int32)))
noncomputable def t_X1_addBall_1 (σ : sg_S) (q : Nat) (x0 : Int32) : sg_S := (s_X1_addToOver (t_X1_addBall_0 σ q x0) q (0 : Int32) x0)
noncomputable def t_X1_addBall_2 (σ : sg_S) (q : Nat) (x0 : Int32) : sg_S := (s_X1_addToOver (t_X1_addBall_1 σ q x0) q (2 : Int32) (1 : Int32))
noncomputable def t_X1_addBall_3 (σ : sg_S) (q : Nat) (x0 : Int32) : sg_S := (sg_up (t_X1_addBall_2 σ q x0) q 0 (((t_X1_addBall_2 σ q x0) q 0) + x0))
noncomputable def t_X1_addBall_4 (σ : sg_S) (q : Nat) (x0 : Int32) : sg_S := (sg_up (t_X1_addBall_3 σ q x0) q 2 (((t_X1_addBall_3 σ q x0) q 2) + (1 : Int32)))
noncomputable def s_X1_addBall (σ : sg_S) (q : Nat) (x0 : Int32) : sg_S := (if x0 < 0 then σ else (if x0 ≤ (6 : Int32) then (t_X1_addBall_4 σ q x0) else σ))
noncomputable def p_X1_addBall (σ : sg_S) (q : Nat) (x0 : Int32) : Prop := (¬ (x0 < 0) → (x0 ≤ (6 : Int32) → (ix x0 7 ∧ (ix x0 7 ∧ (p_X1_addToOver (t_X1_addBall_0 σ q x0) q (0 : Int32) x0 ∧ p_X1_addToOver (t_X1_addBall_1 σ q x0) q (2 : Int32) (1 : Int32))))))
theorem m_X1_addBall {s : List Int32} {σ : sg_S} (q : Nat) (x0 : Int32) (hq : Kd q 1 14) (hp : p_X1_addBall σ q x0) : Ct s 29 [rf q, .inl x0] σ [] (s_X1_addBall σ q x0) := by
  refine ct_v (la := [some (rf q), some (.inl x0)]) hq rfl rfl rfl rfl rfl rfl rfl (cgS ?_)
  unfold s_X1_addBall
  unfold p_X1_addBall at hp
  refine rt_ln rfl rfl ?_
  refine rt_if rfl rfl (fun h => ?_) (fun h => ?_)
  · exact rt_eS rfl
  · replace hp := hp h
    refine rt_ln rfl rfl ?_
    refine rt_k2 rfl ck2_6 ?_
    refine rt_ic rfl rfl (fun h => ?_) (fun h => ?_)
    · replace hp := hp h
      refine rt_lna rfl rfl ?_
      refine rt_gfr rfl hq (by decide) rfl ?_
      refine rt_ln rfl rfl ?_
      refine rt_du2 rfl rfl rfl ?_
      refine rt_al rfl (K1_11 hq) hp.1 rfl ?_
      replace hp := hp.2
      refine rt_k1 rfl ck1_1 ?_
      refine rt_add rfl ?_
      refine rt_as (k0 := (ni x0)) (σ1 := (t_X1_addBall_0 σ q x0)) rfl (K1_11 hq) hp.1 rfl rfl ?_
      replace hp := hp.2
      refine rt_lna rfl rfl ?_
      refine rt_k1 rfl ck1_0 ?_
      refine rt_ln rfl rfl ?_
      refine rt_iv (σ1 := (t_X1_addBall_1 σ q x0)) rfl rfl rfl (m_X1_addToOver q (0 : Int32) x0 hq hp.1) ?_
      show RtF bk fS s 29 27 [some (rf q), some (.inl x0)] [] (t_X1_addBall_1 σ q x0) _
      replace hp := hp.2
      refine rt_lna rfl rfl ?_
      refine rt_k1 rfl ck1_2 ?_
      refine rt_k1 rfl ck1_1 ?_
      refine rt_iv (σ1 := (t_X1_addBall_2 σ q x0)) rfl rfl rfl (m_X1_addToOver q (2 : Int32) (1 : Int32) hq hp) ?_
      show RtF bk fS s 29 33 [some (rf q), some (.inl x0)] [] (t_X1_addBall_2 σ q x0) _
      refine rt_lna rfl rfl ?_
      refine rt_dup rfl rfl ?_
      refine rt_gfi rfl hq (by decide) rfl rfl ?_
      refine rt_ln rfl rfl ?_
      refine rt_add rfl ?_
      refine rt_pf (σ1 := (t_X1_addBall_3 σ q x0)) rfl hq (by decide) rfl rfl rfl ?_
      refine rt_lna rfl rfl ?_
      refine rt_dup rfl rfl ?_
      refine rt_gfi rfl hq (by decide) rfl rfl ?_
      refine rt_k1 rfl ck1_1 ?_
      refine rt_add rfl ?_
      refine rt_pf (σ1 := (t_X1_addBall_4 σ q x0)) rfl hq (by decide) rfl rfl rfl ?_
      exact rt_eS rfl
    · exact rt_eS rfl
noncomputable def t_X1_addWicket_0 (σ : sg_S) (q : Nat) : sg_S := (s_X1_addBall (s_X1_addToOver σ q (1 : Int32) (1 : Int32)) q (0 : Int32))
noncomputable def t_X1_addWicket_1 (σ : sg_S) (q : Nat) : sg_S := (sg_up (t_X1_addWicket_0 σ q) (q + 4) (ni ((t_X1_addWicket_0 σ q) q 1)) ((t_X1_addWicket_0 σ q) q 0))
noncomputable def t_X1_addWicket_2 (σ : sg_S) (q : Nat) : sg_S := (sg_up (t_X1_addWicket_1 σ q) (q + 5) (ni ((t_X1_addWicket_1 σ q) q 1)) ((t_X1_addWicket_1 σ q) q 2))
noncomputable def t_X1_addWicket_3 (σ : sg_S) (q : Nat) : sg_S := (sg_up (t_X1_addWicket_2 σ q) q 1 (((t_X1_addWicket_2 σ q) q 1) + (1 : Int32)))
noncomputable def s_X1_addWicket (σ : sg_S) (q : Nat) : sg_S := (if (σ q 1) < 0 then σ else (if (σ q 1) < (10 : Int32) then (t_X1_addWicket_3 σ q) else σ))
noncomputable def p_X1_addWicket (σ : sg_S) (q : Nat) : Prop := (¬ ((σ q 1) < 0) → ((σ q 1) < (10 : Int32) → (p_X1_addToOver σ q (1 : Int32) (1 : Int32) ∧ (p_X1_addBall (s_X1_addToOver σ q (1 : Int32) (1 : Int32)) q (0 : Int32) ∧ (ix ((t_X1_addWicket_0 σ q) q 1) 10 ∧ ix ((t_X1_addWicket_1 σ q) q 1) 10)))))
theorem m_X1_addWicket {s : List Int32} {σ : sg_S} (q : Nat) (hq : Kd q 1 14) (hp : p_X1_addWicket σ q) : Ct s 30 [rf q] σ [] (s_X1_addWicket σ q) := by
  refine ct_v (la := [some (rf q)]) hq rfl rfl rfl rfl rfl rfl rfl (cgS ?_)
  unfold s_X1_addWicket
  unfold p_X1_addWicket at hp
  refine rt_lna rfl rfl ?_
  refine rt_gfi rfl hq (by decide) rfl rfl ?_
  refine rt_if rfl rfl (fun h => ?_) (fun h => ?_)
  · exact rt_eS rfl
  · replace hp := hp h
    refine rt_lna rfl rfl ?_
    refine rt_gfi rfl hq (by decide) rfl rfl ?_
    refine rt_k2 rfl ck2_10 ?_
    refine rt_ic rfl rfl (fun h => ?_) (fun h => ?_)
    · replace hp := hp h
      refine rt_lna rfl rfl ?_
      refine rt_k1 rfl ck1_1 ?_
      refine rt_k1 rfl ck1_1 ?_
      refine rt_iv (σ1 := (s_X1_addToOver σ q (1 : Int32) (1 : Int32))) rfl rfl rfl (m_X1_addToOver q (1 : Int32) (1 : Int32) hq hp.1) ?_
      show RtF bk fS s 30 23 [some (rf q)] [] (s_X1_addToOver σ q (1 : Int32) (1 : Int32)) _
      replace hp := hp.2
      refine rt_lna rfl rfl ?_
      refine rt_k1 rfl ck1_0 ?_
      refine rt_iv (σ1 := (t_X1_addWicket_0 σ q)) rfl rfl rfl (m_X1_addBall q (0 : Int32) hq hp.1) ?_
      show RtF bk fS s 30 28 [some (rf q)] [] (t_X1_addWicket_0 σ q) _
      replace hp := hp.2
      refine rt_lna rfl rfl ?_
      refine rt_gfr rfl hq (by decide) rfl ?_
      refine rt_lna rfl rfl ?_
      refine rt_gfi rfl hq (by decide) rfl rfl ?_
      refine rt_lna rfl rfl ?_
      refine rt_gfi rfl hq (by decide) rfl rfl ?_
      refine rt_as (k0 := (ni ((t_X1_addWicket_0 σ q) q 1))) (σ1 := (t_X1_addWicket_1 σ q)) rfl (K1_12 hq) hp.1 rfl rfl ?_
      replace hp := hp.2
      refine rt_lna rfl rfl ?_
      refine rt_gfr rfl hq (by decide) rfl ?_
      refine rt_lna rfl rfl ?_
      refine rt_gfi rfl hq (by decide) rfl rfl ?_
      refine rt_lna rfl rfl ?_
      refine rt_gfi rfl hq (by decide) rfl rfl ?_
      refine rt_as (k0 := (ni ((t_X1_addWicket_1 σ q) q 1))) (σ1 := (t_X1_addWicket_2 σ q)) rfl (K1_13 hq) hp rfl rfl ?_
      refine rt_lna rfl rfl ?_
      refine rt_dup rfl rfl ?_
      refine rt_gfi rfl hq (by decide) rfl rfl ?_
      refine rt_k1 rfl ck1_1 ?_
      refine rt_add rfl ?_
      refine rt_pf (σ1 := (t_X1_addWicket_3 σ q)) rfl hq (by decide) rfl rfl rfl ?_
      exact rt_eS rfl
    · exact rt_eS rfl
noncomputable def t_X1_addCut_0 (σ : sg_S) (q : Nat) (x0 : Int32) (x1 : Int32) : sg_S := (sg_up σ (q + 2) (ni ((5 : Int32) * (σ q 5))) (σ q 2))
noncomputable def t_X1_addCut_1 (σ : sg_S) (q : Nat) (x0 : Int32) (x1 : Int32) : sg_S := (sg_up (t_X1_addCut_0 σ q x0 x1) (q + 2) (ni (((5 : Int32) * (σ q 5)) + (1 : Int32))) ((t_X1_addCut_0 σ q x0 x1) q 1))
noncomputable def t_X1_addCut_2 (σ : sg_S) (q : Nat) (x0 : Int32) (x1 : Int32) : sg_S := (sg_up (t_X1_addCut_1 σ q x0 x1) (q + 2) (ni (((5 : Int32) * (σ q 5)) + (2 : Int32))) ((t_X1_addCut_1 σ q x0 x1) q 3))
noncomputable def t_X1_addCut_3 (σ : sg_S) (q : Nat) (x0 : Int32) (x1 : Int32) : sg_S := (sg_up (t_X1_addCut_2 σ q x0 x1) (q + 2) (ni (((5 : Int32) * (σ q 5)) + (3 : Int32))) x0)
noncomputable def t_X1_addCut_4 (σ : sg_S) (q : Nat) (x0 : Int32) (x1 : Int32) : sg_S := (sg_up (t_X1_addCut_3 σ q x0 x1) (q + 2) (ni (((5 : Int32) * (σ q 5)) + (4 : Int32))) x1)
noncomputable def t_X1_addCut_5 (σ : sg_S) (q : Nat) (x0 : Int32) (x1 : Int32) : sg_S := (sg_up (t_X1_addCut_4 σ q x0 x1) q 5 (((t_X1_addCut_4 σ q x0 x1) q 5) + (1 : Int32)))
noncomputable def t_X1_addCut_6 (σ : sg_S) (q : Nat) (x0 : Int32) (x1 : Int32) : sg_S := (sg_up (sg_up (t_X1_addCut_5 σ q x0 x1) q 3 x0) q 7 (((sg_up (t_X1_addCut_5 σ q x0 x1) q 3 x0) q 7) - x1))
noncomputable def s_X1_addCut (σ : sg_S) (q : Nat) (x0 : Int32) (x1 : Int32) : sg_S := (if (σ q 5) < 0 then σ else (if (σ q 5) < (19 : Int32) then (t_X1_addCut_6 σ q x0 x1) else σ))
noncomputable def p_X1_addCut (σ : sg_S) (q : Nat) (x0 : Int32) (x1 : Int32) : Prop := (¬ ((σ q 5) < 0) → ((σ q 5) < (19 : Int32) → (ix ((5 : Int32) * (σ q 5)) 95 ∧ (ix (((5 : Int32) * (σ q 5)) + (1 : Int32)) 95 ∧ (ix (((5 : Int32) * (σ q 5)) + (2 : Int32)) 95 ∧ (ix (((5 : Int32) * (σ q 5)) + (3 : Int32)) 95 ∧ ix (((5 : Int32) * (σ q 5)) + (4 : Int32)) 95))))))
theorem m_X1_addCut {s : List Int32} {σ : sg_S} (q : Nat) (x0 : Int32) (x1 : Int32) (hq : Kd q 1 14) (hp : p_X1_addCut σ q x0 x1) : Ct s 31 [rf q, .inl x0, .inl x1] σ [] (s_X1_addCut σ q x0 x1) := by
  refine ct_v (la := [some (rf q), some (.inl x0), some (.inl x1), none]) hq rfl rfl rfl rfl rfl rfl rfl (cgS ?_)
  unfold s_X1_addCut
  unfold p_X1_addCut at hp
  refine rt_lna rfl rfl ?_
  refine rt_gfi rfl hq (by decide) rfl rfl ?_
  refine rt_if rfl rfl (fun h => ?_) (fun h => ?_)
  · exact rt_eS rfl
  · replace hp := hp h
    refine rt_lna rfl rfl ?_
    refine rt_gfi rfl hq (by decide) rfl rfl ?_
    refine rt_k2 rfl ck2_19 ?_
    refine rt_ic rfl rfl (fun h => ?_) (fun h => ?_)
    · replace hp := hp h
      refine rt_k1 rfl ck1_5 ?_
      refine rt_lna rfl rfl ?_
      refine rt_gfi rfl hq (by decide) rfl rfl ?_
      refine rt_mul rfl ?_
      refine rt_sn (la1 := [some (rf q), some (.inl x0), some (.inl x1), some (.inl ((5 : Int32) * (σ q 5)))]) rfl rfl rfl ?_
      refine rt_lna rfl rfl ?_
      refine rt_gfr rfl hq (by decide) rfl ?_
      refine rt_ln rfl rfl ?_
      refine rt_lna rfl rfl ?_
      refine rt_gfi rfl hq (by decide) rfl rfl ?_
      refine rt_as (k0 := (ni ((5 : Int32) * (σ q 5)))) (σ1 := (t_X1_addCut_0 σ q x0 x1)) rfl (K1_10 hq) hp.1 rfl rfl ?_
      replace hp := hp.2
      refine rt_lna rfl rfl ?_
      refine rt_gfr rfl hq (by decide) rfl ?_
      refine rt_ln rfl rfl ?_
      refine rt_k1 rfl ck1_1 ?_
      refine rt_add rfl ?_
      refine rt_lna rfl rfl ?_
      refine rt_gfi rfl hq (by decide) rfl rfl ?_
      refine rt_as (k0 := (ni (((5 : Int32) * (σ q 5)) + (1 : Int32)))) (σ1 := (t_X1_addCut_1 σ q x0 x1)) rfl (K1_10 hq) hp.1 rfl rfl ?_
      replace hp := hp.2
      refine rt_lna rfl rfl ?_
      refine rt_gfr rfl hq (by decide) rfl ?_
      refine rt_ln rfl rfl ?_
      refine rt_k1 rfl ck1_2 ?_
      refine rt_add rfl ?_
      refine rt_lna rfl rfl ?_
      refine rt_gfi rfl hq (by decide) rfl rfl ?_
      refine rt_as (k0 := (ni (((5 : Int32) * (σ q 5)) + (2 : Int32)))) (σ1 := (t_X1_addCut_2 σ q x0 x1)) rfl (K1_10 hq) hp.1 rfl rfl ?_
      replace hp := hp.2
      refine rt_lna rfl rfl ?_
      refine rt_gfr rfl hq (by decide) rfl ?_
      refine rt_ln rfl rfl ?_
      refine rt_k1 rfl ck1_3 ?_
      refine rt_add rfl ?_
      refine rt_ln rfl rfl ?_
      refine rt_as (k0 := (ni (((5 : Int32) * (σ q 5)) + (3 : Int32)))) (σ1 := (t_X1_addCut_3 σ q x0 x1)) rfl (K1_10 hq) hp.1 rfl rfl ?_
      replace hp := hp.2
      refine rt_lna rfl rfl ?_
      refine rt_gfr rfl hq (by decide) rfl ?_
      refine rt_ln rfl rfl ?_
      refine rt_k1 rfl ck1_4 ?_
      refine rt_add rfl ?_
      refine rt_ln rfl rfl ?_
      refine rt_as (k0 := (ni (((5 : Int32) * (σ q 5)) + (4 : Int32)))) (σ1 := (t_X1_addCut_4 σ q x0 x1)) rfl (K1_10 hq) hp rfl rfl ?_
      refine rt_lna rfl rfl ?_
      refine rt_dup rfl rfl ?_
      refine rt_gfi rfl hq (by decide) rfl rfl ?_
      refine rt_k1 rfl ck1_1 ?_
      refine rt_add rfl ?_
      refine rt_pf (σ1 := (t_X1_addCut_5 σ q x0 x1)) rfl hq (by decide) rfl rfl rfl ?_
      refine rt_lna rfl rfl ?_
      refine rt_ln rfl rfl ?_
      refine rt_pf (σ1 := (sg_up (t_X1_addCut_5 σ q x0 x1) q 3 x0)) rfl hq (by decide) rfl rfl rfl ?_
      refine rt_lna rfl rfl ?_
      refine rt_dup rfl rfl ?_
      refine rt_gfi rfl hq (by decide) rfl rfl ?_
      refine rt_ln rfl rfl ?_
      refine rt_sub rfl ?_
      refine rt_pf (σ1 := (t_X1_addCut_6 σ q x0 x1)) rfl hq (by decide) rfl rfl rfl ?_
      exact rt_eS rfl
    · exact rt_eS rfl
noncomputable def s_X1_addClose (σ : sg_S) (q : Nat) (x0 : Int32) : sg_S := (sg_up (sg_up σ q 6 (1 : Int32)) q 8 x0)
theorem m_X1_addClose {s : List Int32} {σ : sg_S} (q : Nat) (x0 : Int32) (hq : Kd q 1 14) : Ct s 32 [rf q, .inl x0] σ [] (s_X1_addClose σ q x0) := by
  refine ct_v (la := [some (rf q), some (.inl x0)]) hq rfl rfl rfl rfl rfl rfl rfl (cgS ?_)
  unfold s_X1_addClose
  refine rt_lna rfl rfl ?_
  refine rt_k1 rfl ck1_1 ?_
  refine rt_pz (σ1 := (sg_up σ q 6 (1 : Int32))) rfl hq (Or.inr rfl) (by decide) rfl rfl rfl ?_
  refine rt_lna rfl rfl ?_
  refine rt_ln rfl rfl ?_
  refine rt_pf (σ1 := (sg_up (sg_up σ q 6 (1 : Int32)) q 8 x0)) rfl hq (by decide) rfl rfl rfl ?_
  exact rt_eS rfl
noncomputable def v_X1_isWorn (σ : sg_S) (q : Nat) : Int32 := (if ¬ (σ q 6) = 0 then (1 : Int32) else (if (10 : Int32) ≤ (σ q 1) then (1 : Int32) else (if (σ q 2) < ((6 : Int32) * (σ q 3)) then (0 : Int32) else (1 : Int32))))
theorem m_X1_isWorn {s : List Int32} {σ : sg_S} (q : Nat) (hq : Kd q 1 14) : Ct s 33 [rf q] σ [.inl (v_X1_isWorn σ q)] σ := by
  refine ct_v (la := [some (rf q)]) hq rfl rfl rfl rfl rfl rfl rfl (cgV ?_)
  unfold v_X1_isWorn
  refine rt_lna rfl rfl ?_
  refine rt_gfi rfl hq (by decide) rfl rfl ?_
  refine rt_if rfl rfl (fun h => ?_) (fun h => ?_)
  · refine rt_k1 rfl ck1_1 ?_
    refine rt_go rfl ?_
    exact rt_eVb rfl (Or.inr rfl)
  · refine rt_lna rfl rfl ?_
    refine rt_gfi rfl hq (by decide) rfl rfl ?_
    refine rt_k2 rfl ck2_10 ?_
    refine rt_ic rfl rfl (fun h => ?_) (fun h => ?_)
    · refine rt_k1 rfl ck1_1 ?_
      refine rt_go rfl ?_
      exact rt_eVb rfl (Or.inr rfl)
    · refine rt_lna rfl rfl ?_
      refine rt_gfi rfl hq (by decide) rfl rfl ?_
      refine rt_k2 rfl ck2_6 ?_
      refine rt_lna rfl rfl ?_
      refine rt_gfi rfl hq (by decide) rfl rfl ?_
      refine rt_mul rfl ?_
      refine rt_ic rfl rfl (fun h => ?_) (fun h => ?_)
      · refine rt_k1 rfl ck1_0 ?_
        exact rt_eVb rfl (Or.inl rfl)
      · refine rt_k1 rfl ck1_1 ?_
        refine rt_go rfl ?_
        exact rt_eVb rfl (Or.inr rfl)
noncomputable def v_X1_hasCut (σ : sg_S) (q : Nat) (x0 : Int32) : Int32 := (if x0 < 0 then (0 : Int32) else (if (σ q 5) ≤ x0 then (0 : Int32) else (if (19 : Int32) ≤ x0 then (0 : Int32) else (1 : Int32))))
theorem m_X1_hasCut {s : List Int32} {σ : sg_S} (q : Nat) (x0 : Int32) (hq : Kd q 1 14) : Ct s 34 [rf q, .inl x0] σ [.inl (v_X1_hasCut σ q x0)] σ := by
  refine ct_v (la := [some (rf q), some (.inl x0)]) hq rfl rfl rfl rfl rfl rfl rfl (cgV ?_)
  unfold v_X1_hasCut
  refine rt_ln rfl rfl ?_
  refine rt_if rfl rfl (fun h => ?_) (fun h => ?_)
  · refine rt_k1 rfl ck1_0 ?_
    exact rt_eVb rfl (Or.inl rfl)
  · refine rt_ln rfl rfl ?_
    refine rt_lna rfl rfl ?_
    refine rt_gfi rfl hq (by decide) rfl rfl ?_
    refine rt_ic rfl rfl (fun h => ?_) (fun h => ?_)
    · refine rt_k1 rfl ck1_0 ?_
      exact rt_eVb rfl (Or.inl rfl)
    · refine rt_ln rfl rfl ?_
      refine rt_k2 rfl ck2_19 ?_
      refine rt_ic rfl rfl (fun h => ?_) (fun h => ?_)
      · refine rt_k1 rfl ck1_0 ?_
        exact rt_eVb rfl (Or.inl rfl)
      · refine rt_k1 rfl ck1_1 ?_
        refine rt_go rfl ?_
        exact rt_eVb rfl (Or.inr rfl)
noncomputable def v_X1_cutFact (σ : sg_S) (q : Nat) (x0 : Int32) (x1 : Int32) : Int32 := (if (v_X1_hasCut σ q x0) = 0 then (-1 : Int32) else (if x1 < 0 then (-1 : Int32) else (if x1 < (5 : Int32) then (σ (q + 2) (ni (((5 : Int32) * x0) + x1))) else (-1 : Int32))))
noncomputable def p_X1_cutFact (σ : sg_S) (q : Nat) (x0 : Int32) (x1 : Int32) : Prop := (¬ ((v_X1_hasCut σ q x0) = 0) → (¬ (x1 < 0) → (x1 < (5 : Int32) → ix (((5 : Int32) * x0) + x1) 95)))
theorem m_X1_cutFact {s : List Int32} {σ : sg_S} (q : Nat) (x0 : Int32) (x1 : Int32) (hq : Kd q 1 14) (hp : p_X1_cutFact σ q x0 x1) : Ct s 35 [rf q, .inl x0, .inl x1] σ [.inl (v_X1_cutFact σ q x0 x1)] σ := by
  refine ct_v (la := [some (rf q), some (.inl x0), some (.inl x1)]) hq rfl rfl rfl rfl rfl rfl rfl (cgV ?_)
  unfold v_X1_cutFact
  unfold p_X1_cutFact at hp
  refine rt_lna rfl rfl ?_
  refine rt_ln rfl rfl ?_
  refine rt_iv (σ1 := σ) rfl rfl rfl (m_X1_hasCut q x0 hq) ?_
  show RtF bk (fV σ) s 35 5 [some (rf q), some (.inl x0), some (.inl x1)] [.inl (v_X1_hasCut σ q x0)] σ _
  refine rt_if rfl rfl (fun h => ?_) (fun h => ?_)
  · refine rt_k1 rfl ck1_m1 ?_
    exact rt_eV rfl
  · replace hp := hp h
    refine rt_ln rfl rfl ?_
    refine rt_if rfl rfl (fun h => ?_) (fun h => ?_)
    · refine rt_k1 rfl ck1_m1 ?_
      exact rt_eV rfl
    · replace hp := hp h
      refine rt_ln rfl rfl ?_
      refine rt_k1 rfl ck1_5 ?_
      refine rt_ic rfl rfl (fun h => ?_) (fun h => ?_)
      · replace hp := hp h
        refine rt_lna rfl rfl ?_
        refine rt_gfr rfl hq (by decide) rfl ?_
        refine rt_k1 rfl ck1_5 ?_
        refine rt_ln rfl rfl ?_
        refine rt_mul rfl ?_
        refine rt_ln rfl rfl ?_
        refine rt_add rfl ?_
        refine rt_al rfl (K1_10 hq) hp rfl ?_
        exact rt_eV rfl
      · refine rt_k1 rfl ck1_m1 ?_
        exact rt_eV rfl
noncomputable def v_X1_overFact (σ : sg_S) (q : Nat) (x0 : Int32) (x1 : Int32) : Int32 := (if x0 < 0 then (0 : Int32) else (if (20 : Int32) ≤ x0 then (0 : Int32) else (if x1 < 0 then (0 : Int32) else (if x1 < (3 : Int32) then (σ (q + 1) (ni (((3 : Int32) * x0) + x1))) else (0 : Int32)))))
noncomputable def p_X1_overFact (q : Nat) (x0 : Int32) (x1 : Int32) : Prop := (¬ (x0 < 0) → (¬ ((20 : Int32) ≤ x0) → (¬ (x1 < 0) → (x1 < (3 : Int32) → ix (((3 : Int32) * x0) + x1) 60))))
theorem m_X1_overFact {s : List Int32} {σ : sg_S} (q : Nat) (x0 : Int32) (x1 : Int32) (hq : Kd q 1 14) (hp : p_X1_overFact q x0 x1) : Ct s 36 [rf q, .inl x0, .inl x1] σ [.inl (v_X1_overFact σ q x0 x1)] σ := by
  refine ct_v (la := [some (rf q), some (.inl x0), some (.inl x1)]) hq rfl rfl rfl rfl rfl rfl rfl (cgV ?_)
  unfold v_X1_overFact
  unfold p_X1_overFact at hp
  refine rt_ln rfl rfl ?_
  refine rt_if rfl rfl (fun h => ?_) (fun h => ?_)
  · refine rt_k1 rfl ck1_0 ?_
    exact rt_eV rfl
  · replace hp := hp h
    refine rt_ln rfl rfl ?_
    refine rt_k2 rfl ck2_20 ?_
    refine rt_ic rfl rfl (fun h => ?_) (fun h => ?_)
    · refine rt_k1 rfl ck1_0 ?_
      exact rt_eV rfl
    · replace hp := hp h
      refine rt_ln rfl rfl ?_
      refine rt_if rfl rfl (fun h => ?_) (fun h => ?_)
      · refine rt_k1 rfl ck1_0 ?_
        exact rt_eV rfl
      · replace hp := hp h
        refine rt_ln rfl rfl ?_
        refine rt_k1 rfl ck1_3 ?_
        refine rt_ic rfl rfl (fun h => ?_) (fun h => ?_)
        · replace hp := hp h
          refine rt_lna rfl rfl ?_
          refine rt_gfr rfl hq (by decide) rfl ?_
          refine rt_k1 rfl ck1_3 ?_
          refine rt_ln rfl rfl ?_
          refine rt_mul rfl ?_
          refine rt_ln rfl rfl ?_
          refine rt_add rfl ?_
          refine rt_al rfl (K1_9 hq) hp rfl ?_
          exact rt_eV rfl
        · refine rt_k1 rfl ck1_0 ?_
          exact rt_eV rfl
noncomputable def v_X1_ballsThatMade (σ : sg_S) (q : Nat) (x0 : Int32) : Int32 := (if x0 < 0 then (0 : Int32) else (if (6 : Int32) < x0 then (0 : Int32) else (σ (q + 3) (ni x0))))
noncomputable def p_X1_ballsThatMade (q : Nat) (x0 : Int32) : Prop := (¬ (x0 < 0) → (¬ ((6 : Int32) < x0) → ix x0 7))
theorem m_X1_ballsThatMade {s : List Int32} {σ : sg_S} (q : Nat) (x0 : Int32) (hq : Kd q 1 14) (hp : p_X1_ballsThatMade q x0) : Ct s 37 [rf q, .inl x0] σ [.inl (v_X1_ballsThatMade σ q x0)] σ := by
  refine ct_v (la := [some (rf q), some (.inl x0)]) hq rfl rfl rfl rfl rfl rfl rfl (cgV ?_)
  unfold v_X1_ballsThatMade
  unfold p_X1_ballsThatMade at hp
  refine rt_ln rfl rfl ?_
  refine rt_if rfl rfl (fun h => ?_) (fun h => ?_)
  · refine rt_k1 rfl ck1_0 ?_
    exact rt_eV rfl
  · replace hp := hp h
    refine rt_ln rfl rfl ?_
    refine rt_k2 rfl ck2_6 ?_
    refine rt_ic rfl rfl (fun h => ?_) (fun h => ?_)
    · refine rt_k1 rfl ck1_0 ?_
      exact rt_eV rfl
    · replace hp := hp h
      refine rt_lna rfl rfl ?_
      refine rt_gfr rfl hq (by decide) rfl ?_
      refine rt_ln rfl rfl ?_
      refine rt_al rfl (K1_11 hq) hp rfl ?_
      refine rt_go rfl ?_
      exact rt_eV rfl
noncomputable def v_X1_hasFall (σ : sg_S) (q : Nat) (x0 : Int32) : Int32 := (if x0 < 0 then (0 : Int32) else (if (σ q 1) ≤ x0 then (0 : Int32) else (if (10 : Int32) ≤ x0 then (0 : Int32) else (1 : Int32))))
theorem m_X1_hasFall {s : List Int32} {σ : sg_S} (q : Nat) (x0 : Int32) (hq : Kd q 1 14) : Ct s 38 [rf q, .inl x0] σ [.inl (v_X1_hasFall σ q x0)] σ := by
  refine ct_v (la := [some (rf q), some (.inl x0)]) hq rfl rfl rfl rfl rfl rfl rfl (cgV ?_)
  unfold v_X1_hasFall
  refine rt_ln rfl rfl ?_
  refine rt_if rfl rfl (fun h => ?_) (fun h => ?_)
  · refine rt_k1 rfl ck1_0 ?_
    exact rt_eVb rfl (Or.inl rfl)
  · refine rt_ln rfl rfl ?_
    refine rt_lna rfl rfl ?_
    refine rt_gfi rfl hq (by decide) rfl rfl ?_
    refine rt_ic rfl rfl (fun h => ?_) (fun h => ?_)
    · refine rt_k1 rfl ck1_0 ?_
      exact rt_eVb rfl (Or.inl rfl)
    · refine rt_ln rfl rfl ?_
      refine rt_k2 rfl ck2_10 ?_
      refine rt_ic rfl rfl (fun h => ?_) (fun h => ?_)
      · refine rt_k1 rfl ck1_0 ?_
        exact rt_eVb rfl (Or.inl rfl)
      · refine rt_k1 rfl ck1_1 ?_
        refine rt_go rfl ?_
        exact rt_eVb rfl (Or.inr rfl)
noncomputable def v_X1_runsAtFall (σ : sg_S) (q : Nat) (x0 : Int32) : Int32 := (if (v_X1_hasFall σ q x0) = 0 then (0 : Int32) else (σ (q + 4) (ni x0)))
noncomputable def p_X1_runsAtFall (σ : sg_S) (q : Nat) (x0 : Int32) : Prop := (¬ ((v_X1_hasFall σ q x0) = 0) → ix x0 10)
theorem m_X1_runsAtFall {s : List Int32} {σ : sg_S} (q : Nat) (x0 : Int32) (hq : Kd q 1 14) (hp : p_X1_runsAtFall σ q x0) : Ct s 39 [rf q, .inl x0] σ [.inl (v_X1_runsAtFall σ q x0)] σ := by
  refine ct_v (la := [some (rf q), some (.inl x0)]) hq rfl rfl rfl rfl rfl rfl rfl (cgV ?_)
  unfold v_X1_runsAtFall
  unfold p_X1_runsAtFall at hp
  refine rt_lna rfl rfl ?_
  refine rt_ln rfl rfl ?_
  refine rt_iv (σ1 := σ) rfl rfl rfl (m_X1_hasFall q x0 hq) ?_
  show RtF bk (fV σ) s 39 5 [some (rf q), some (.inl x0)] [.inl (v_X1_hasFall σ q x0)] σ _
  refine rt_if rfl rfl (fun h => ?_) (fun h => ?_)
  · refine rt_k1 rfl ck1_0 ?_
    exact rt_eV rfl
  · replace hp := hp h
    refine rt_lna rfl rfl ?_
    refine rt_gfr rfl hq (by decide) rfl ?_
    refine rt_ln rfl rfl ?_
    refine rt_al rfl (K1_12 hq) hp rfl ?_
    refine rt_go rfl ?_
    exact rt_eV rfl
noncomputable def v_X1_ballsAtFall (σ : sg_S) (q : Nat) (x0 : Int32) : Int32 := (if (v_X1_hasFall σ q x0) = 0 then (0 : Int32) else (σ (q + 5) (ni x0)))
noncomputable def p_X1_ballsAtFall (σ : sg_S) (q : Nat) (x0 : Int32) : Prop := (¬ ((v_X1_hasFall σ q x0) = 0) → ix x0 10)
theorem m_X1_ballsAtFall {s : List Int32} {σ : sg_S} (q : Nat) (x0 : Int32) (hq : Kd q 1 14) (hp : p_X1_ballsAtFall σ q x0) : Ct s 40 [rf q, .inl x0] σ [.inl (v_X1_ballsAtFall σ q x0)] σ := by
  refine ct_v (la := [some (rf q), some (.inl x0)]) hq rfl rfl rfl rfl rfl rfl rfl (cgV ?_)
  unfold v_X1_ballsAtFall
  unfold p_X1_ballsAtFall at hp
  refine rt_lna rfl rfl ?_
  refine rt_ln rfl rfl ?_
  refine rt_iv (σ1 := σ) rfl rfl rfl (m_X1_hasFall q x0 hq) ?_
  show RtF bk (fV σ) s 40 5 [some (rf q), some (.inl x0)] [.inl (v_X1_hasFall σ q x0)] σ _
  refine rt_if rfl rfl (fun h => ?_) (fun h => ?_)
  · refine rt_k1 rfl ck1_0 ?_
    exact rt_eV rfl
  · replace hp := hp h
    refine rt_lna rfl rfl ?_
    refine rt_gfr rfl hq (by decide) rfl ?_
    refine rt_ln rfl rfl ?_
    refine rt_al rfl (K1_13 hq) hp rfl ?_
    refine rt_go rfl ?_
    exact rt_eV rfl
noncomputable def v_X1_standOf (σ : sg_S) (q : Nat) (x0 : Int32) : Int32 := ((v_X1_runsAtFall σ q x0) - (v_X1_runsAtFall σ q (x0 - (1 : Int32))))
noncomputable def p_X1_standOf (σ : sg_S) (q : Nat) (x0 : Int32) : Prop := (p_X1_runsAtFall σ q x0 ∧ p_X1_runsAtFall σ q (x0 - (1 : Int32)))
theorem m_X1_standOf {s : List Int32} {σ : sg_S} (q : Nat) (x0 : Int32) (hq : Kd q 1 14) (hp : p_X1_standOf σ q x0) : Ct s 41 [rf q, .inl x0] σ [.inl (v_X1_standOf σ q x0)] σ := by
  refine ct_v (la := [some (rf q), some (.inl x0)]) hq rfl rfl rfl rfl rfl rfl rfl (cgV ?_)
  unfold v_X1_standOf
  unfold p_X1_standOf at hp
  refine rt_lna rfl rfl ?_
  refine rt_ln rfl rfl ?_
  refine rt_iv (σ1 := σ) rfl rfl rfl (m_X1_runsAtFall q x0 hq hp.1) ?_
  show RtF bk (fV σ) s 41 5 [some (rf q), some (.inl x0)] [.inl (v_X1_runsAtFall σ q x0)] σ _
  replace hp := hp.2
  refine rt_lna rfl rfl ?_
  refine rt_ln rfl rfl ?_
  refine rt_k1 rfl ck1_1 ?_
  refine rt_sub rfl ?_
  refine rt_iv (σ1 := σ) rfl rfl rfl (m_X1_runsAtFall q (x0 - (1 : Int32)) hq hp) ?_
  show RtF bk (fV σ) s 41 12 [some (rf q), some (.inl x0)] [.inl (v_X1_runsAtFall σ q (x0 - (1 : Int32))), .inl (v_X1_runsAtFall σ q x0)] σ _
  refine rt_sub rfl ?_
  exact rt_eV rfl
noncomputable def v_X1_openStand (σ : sg_S) (q : Nat) : Int32 := ((σ q 0) - (v_X1_runsAtFall σ q ((σ q 1) - (1 : Int32))))
noncomputable def p_X1_openStand (σ : sg_S) (q : Nat) : Prop := p_X1_runsAtFall σ q ((σ q 1) - (1 : Int32))
theorem m_X1_openStand {s : List Int32} {σ : sg_S} (q : Nat) (hq : Kd q 1 14) (hp : p_X1_openStand σ q) : Ct s 42 [rf q] σ [.inl (v_X1_openStand σ q)] σ := by
  refine ct_v (la := [some (rf q)]) hq rfl rfl rfl rfl rfl rfl rfl (cgV ?_)
  unfold v_X1_openStand
  unfold p_X1_openStand at hp
  refine rt_lna rfl rfl ?_
  refine rt_gfi rfl hq (by decide) rfl rfl ?_
  refine rt_lna rfl rfl ?_
  refine rt_lna rfl rfl ?_
  refine rt_gfi rfl hq (by decide) rfl rfl ?_
  refine rt_k1 rfl ck1_1 ?_
  refine rt_sub rfl ?_
  refine rt_iv (σ1 := σ) rfl rfl rfl (m_X1_runsAtFall q ((σ q 1) - (1 : Int32)) hq hp) ?_
  show RtF bk (fV σ) s 42 14 [some (rf q)] [.inl (v_X1_runsAtFall σ q ((σ q 1) - (1 : Int32))), .inl (σ q 0)] σ _
  refine rt_sub rfl ?_
  exact rt_eV rfl
noncomputable def v_X1_greatestStand_b7 (σ : sg_S) (q : Nat) (k7 : Int32 → Int32 → Int32) (x1_ : Int32) (x2_ : Int32) : Int32 := (if (σ q 1) ≤ x2_ then x1_ else (if (10 : Int32) ≤ x2_ then x1_ else (k7 (if x1_ < (v_X1_standOf σ q x2_) then (v_X1_standOf σ q x2_) else x1_) (x2_ + (1 : Int32)))))
noncomputable def p_X1_greatestStand_b7 (σ : sg_S) (q : Nat) (kp7 : Int32 → Int32 → Prop) (x1_ : Int32) (x2_ : Int32) : Prop := (¬ ((σ q 1) ≤ x2_) → (¬ ((10 : Int32) ≤ x2_) → (p_X1_standOf σ q x2_ ∧ (kp7 (if x1_ < (v_X1_standOf σ q x2_) then (v_X1_standOf σ q x2_) else x1_) (x2_ + (1 : Int32))))))
theorem m_X1_greatestStand_b7 {s : List Int32} {σ : sg_S} (q : Nat) (hq : Kd q 1 14) (k7 : Int32 → Int32 → Int32) (kp7 : Int32 → Int32 → Prop) (hk7 : ∀ (x1_ : Int32) (x2_ : Int32), kp7 x1_ x2_ → RtF bk (fV σ) s 43 7 [some (rf q), some (.inl x1_), some (.inl x2_)] [] σ (k7 x1_ x2_)) (x1_ : Int32) (x2_ : Int32) (hp : p_X1_greatestStand_b7 σ q kp7 x1_ x2_) : RtF bk (fV σ) s 43 7 [some (rf q), some (.inl x1_), some (.inl x2_)] [] σ (v_X1_greatestStand_b7 σ q k7 x1_ x2_) := by
  unfold v_X1_greatestStand_b7
  unfold p_X1_greatestStand_b7 at hp
  refine rt_ln rfl rfl ?_
  refine rt_lna rfl rfl ?_
  refine rt_gfi rfl hq (by decide) rfl rfl ?_
  refine rt_ic rfl rfl (fun h => ?_) (fun h => ?_)
  · refine rt_ln rfl rfl ?_
    exact rt_eV rfl
  · replace hp := hp h
    refine rt_ln rfl rfl ?_
    refine rt_k2 rfl ck2_10 ?_
    refine rt_ic rfl rfl (fun h => ?_) (fun h => ?_)
    · refine rt_ln rfl rfl ?_
      exact rt_eV rfl
    · replace hp := hp h
      refine rt_ln rfl rfl ?_
      refine rt_lna rfl rfl ?_
      refine rt_ln rfl rfl ?_
      refine rt_iv (σ1 := σ) rfl rfl rfl (m_X1_standOf q x2_ hq hp.1) ?_
      show RtF bk (fV σ) s 43 27 [some (rf q), some (.inl x1_), some (.inl x2_)] [.inl (v_X1_standOf σ q x2_), .inl x1_] σ _
      replace hp := hp.2
      refine rt_max rfl rfl ?_
      refine rt_sn (la1 := [some (rf q), some (.inl (if x1_ < (v_X1_standOf σ q x2_) then (v_X1_standOf σ q x2_) else x1_)), some (.inl x2_)]) rfl rfl rfl ?_
      refine rt_inc (la1 := [some (rf q), some (.inl (if x1_ < (v_X1_standOf σ q x2_) then (v_X1_standOf σ q x2_) else x1_)), some (.inl (x2_ + (1 : Int32)))]) rfl rfl ck1_1 rfl ?_
      refine rt_go rfl ?_
      exact hk7 (if x1_ < (v_X1_standOf σ q x2_) then (v_X1_standOf σ q x2_) else x1_) (x2_ + (1 : Int32)) hp
noncomputable def v_X1_greatestStand_l7 (σ : sg_S) (q : Nat) (n : Nat) : Int32 → Int32 → Int32 := Nat.rec (motive := fun _ => Int32 → Int32 → Int32) (fun _ _ => 0) (fun _ ih => v_X1_greatestStand_b7 σ q ih) n
noncomputable def p_X1_greatestStand_l7 (σ : sg_S) (q : Nat) (n : Nat) : Int32 → Int32 → Prop := Nat.rec (motive := fun _ => Int32 → Int32 → Prop) (fun _ _ => False) (fun _ ih => p_X1_greatestStand_b7 σ q ih) n
theorem m_X1_greatestStand_l7 {s : List Int32} {σ : sg_S} (q : Nat) (hq : Kd q 1 14) : ∀ (n : Nat), ∀ (x1_ : Int32) (x2_ : Int32), p_X1_greatestStand_l7 σ q n x1_ x2_ → RtF bk (fV σ) s 43 7 [some (rf q), some (.inl x1_), some (.inl x2_)] [] σ (v_X1_greatestStand_l7 σ q n x1_ x2_) := by
  intro n
  induction n with
  | zero =>
    intro x1_ x2_ hp
    exact hp.elim
  | succ n ih =>
    intro x1_ x2_ hp
    exact m_X1_greatestStand_b7 q hq (v_X1_greatestStand_l7 σ q n) (p_X1_greatestStand_l7 σ q n) ih x1_ x2_ hp
noncomputable def v_X1_greatestStand (σ : sg_S) (q : Nat) : Int32 := (v_X1_greatestStand_l7 σ q 600 (v_X1_openStand σ q) (0 : Int32))
noncomputable def p_X1_greatestStand (σ : sg_S) (q : Nat) : Prop := (p_X1_openStand σ q ∧ (p_X1_greatestStand_l7 σ q 600 (v_X1_openStand σ q) (0 : Int32)))
theorem m_X1_greatestStand {s : List Int32} {σ : sg_S} (q : Nat) (hq : Kd q 1 14) (hp : p_X1_greatestStand σ q) : Ct s 43 [rf q] σ [.inl (v_X1_greatestStand σ q)] σ := by
  refine ct_v (la := [some (rf q), none, none]) hq rfl rfl rfl rfl rfl rfl rfl (cgV ?_)
  unfold v_X1_greatestStand
  unfold p_X1_greatestStand at hp
  refine rt_lna rfl rfl ?_
  refine rt_iv (σ1 := σ) rfl rfl rfl (m_X1_openStand q hq hp.1) ?_
  show RtF bk (fV σ) s 43 4 [some (rf q), none, none] [.inl (v_X1_openStand σ q)] σ _
  replace hp := hp.2
  refine rt_sn (la1 := [some (rf q), some (.inl (v_X1_openStand σ q)), none]) rfl rfl rfl ?_
  refine rt_k1 rfl ck1_0 ?_
  refine rt_sn (la1 := [some (rf q), some (.inl (v_X1_openStand σ q)), some (.inl (0 : Int32))]) rfl rfl rfl ?_
  exact m_X1_greatestStand_l7 q hq 600 (v_X1_openStand σ q) (0 : Int32) hp
noncomputable def v_X1_greatestOver_b4 (σ : sg_S) (q : Nat) (k4 : Int32 → Int32 → Int32) (x1_ : Int32) (x2_ : Int32) : Int32 := (if (20 : Int32) ≤ x2_ then x1_ else (if (v_X1_overFact σ q x2_ (0 : Int32)) ≤ (v_X1_overFact σ q x1_ (0 : Int32)) then (k4 x1_ (x2_ + (1 : Int32))) else (k4 x2_ (x2_ + (1 : Int32)))))
noncomputable def p_X1_greatestOver_b4 (σ : sg_S) (q : Nat) (kp4 : Int32 → Int32 → Prop) (x1_ : Int32) (x2_ : Int32) : Prop := (¬ ((20 : Int32) ≤ x2_) → (p_X1_overFact q x2_ (0 : Int32) ∧ (p_X1_overFact q x1_ (0 : Int32) ∧ (((v_X1_overFact σ q x2_ (0 : Int32)) ≤ (v_X1_overFact σ q x1_ (0 : Int32)) → (kp4 x1_ (x2_ + (1 : Int32)))) ∧ (¬ ((v_X1_overFact σ q x2_ (0 : Int32)) ≤ (v_X1_overFact σ q x1_ (0 : Int32))) → (kp4 x2_ (x2_ + (1 : Int32))))))))
theorem m_X1_greatestOver_b4 {s : List Int32} {σ : sg_S} (q : Nat) (hq : Kd q 1 14) (k4 : Int32 → Int32 → Int32) (kp4 : Int32 → Int32 → Prop) (hk4 : ∀ (x1_ : Int32) (x2_ : Int32), kp4 x1_ x2_ → RtF bk (fV σ) s 44 4 [some (rf q), some (.inl x1_), some (.inl x2_)] [] σ (k4 x1_ x2_)) (x1_ : Int32) (x2_ : Int32) (hp : p_X1_greatestOver_b4 σ q kp4 x1_ x2_) : RtF bk (fV σ) s 44 4 [some (rf q), some (.inl x1_), some (.inl x2_)] [] σ (v_X1_greatestOver_b4 σ q k4 x1_ x2_) := by
  unfold v_X1_greatestOver_b4
  unfold p_X1_greatestOver_b4 at hp
  refine rt_ln rfl rfl ?_
  refine rt_k2 rfl ck2_20 ?_
  refine rt_ic rfl rfl (fun h => ?_) (fun h => ?_)
  · refine rt_ln rfl rfl ?_
    exact rt_eV rfl
  · replace hp := hp h
    refine rt_lna rfl rfl ?_
    refine rt_ln rfl rfl ?_
    refine rt_k1 rfl ck1_0 ?_
    refine rt_iv (σ1 := σ) rfl rfl rfl (m_X1_overFact q x2_ (0 : Int32) hq hp.1) ?_
    show RtF bk (fV σ) s 44 16 [some (rf q), some (.inl x1_), some (.inl x2_)] [.inl (v_X1_overFact σ q x2_ (0 : Int32))] σ _
    replace hp := hp.2
    refine rt_lna rfl rfl ?_
    refine rt_ln rfl rfl ?_
    refine rt_k1 rfl ck1_0 ?_
    refine rt_iv (σ1 := σ) rfl rfl rfl (m_X1_overFact q x1_ (0 : Int32) hq hp.1) ?_
    show RtF bk (fV σ) s 44 22 [some (rf q), some (.inl x1_), some (.inl x2_)] [.inl (v_X1_overFact σ q x1_ (0 : Int32)), .inl (v_X1_overFact σ q x2_ (0 : Int32))] σ _
    replace hp := hp.2
    refine rt_ic rfl rfl (fun h => ?_) (fun h => ?_)
    · replace hp := hp.1 h
      refine rt_inc (la1 := [some (rf q), some (.inl x1_), some (.inl (x2_ + (1 : Int32)))]) rfl rfl ck1_1 rfl ?_
      refine rt_go rfl ?_
      exact hk4 x1_ (x2_ + (1 : Int32)) hp
    · replace hp := hp.2 h
      refine rt_ln rfl rfl ?_
      refine rt_sn (la1 := [some (rf q), some (.inl x2_), some (.inl x2_)]) rfl rfl rfl ?_
      refine rt_inc (la1 := [some (rf q), some (.inl x2_), some (.inl (x2_ + (1 : Int32)))]) rfl rfl ck1_1 rfl ?_
      refine rt_go rfl ?_
      exact hk4 x2_ (x2_ + (1 : Int32)) hp
noncomputable def v_X1_greatestOver_l4 (σ : sg_S) (q : Nat) (n : Nat) : Int32 → Int32 → Int32 := Nat.rec (motive := fun _ => Int32 → Int32 → Int32) (fun _ _ => 0) (fun _ ih => v_X1_greatestOver_b4 σ q ih) n
noncomputable def p_X1_greatestOver_l4 (σ : sg_S) (q : Nat) (n : Nat) : Int32 → Int32 → Prop := Nat.rec (motive := fun _ => Int32 → Int32 → Prop) (fun _ _ => False) (fun _ ih => p_X1_greatestOver_b4 σ q ih) n
theorem m_X1_greatestOver_l4 {s : List Int32} {σ : sg_S} (q : Nat) (hq : Kd q 1 14) : ∀ (n : Nat), ∀ (x1_ : Int32) (x2_ : Int32), p_X1_greatestOver_l4 σ q n x1_ x2_ → RtF bk (fV σ) s 44 4 [some (rf q), some (.inl x1_), some (.inl x2_)] [] σ (v_X1_greatestOver_l4 σ q n x1_ x2_) := by
  intro n
  induction n with
  | zero =>
    intro x1_ x2_ hp
    exact hp.elim
  | succ n ih =>
    intro x1_ x2_ hp
    exact m_X1_greatestOver_b4 q hq (v_X1_greatestOver_l4 σ q n) (p_X1_greatestOver_l4 σ q n) ih x1_ x2_ hp
noncomputable def v_X1_greatestOver (σ : sg_S) (q : Nat) : Int32 := (v_X1_greatestOver_l4 σ q 600 (0 : Int32) (1 : Int32))
noncomputable def p_X1_greatestOver (σ : sg_S) (q : Nat) : Prop := (p_X1_greatestOver_l4 σ q 600 (0 : Int32) (1 : Int32))
theorem m_X1_greatestOver {s : List Int32} {σ : sg_S} (q : Nat) (hq : Kd q 1 14) (hp : p_X1_greatestOver σ q) : Ct s 44 [rf q] σ [.inl (v_X1_greatestOver σ q)] σ := by
  refine ct_v (la := [some (rf q), none, none]) hq rfl rfl rfl rfl rfl rfl rfl (cgV ?_)
  unfold v_X1_greatestOver
  unfold p_X1_greatestOver at hp
  refine rt_k1 rfl ck1_0 ?_
  refine rt_sn (la1 := [some (rf q), some (.inl (0 : Int32)), none]) rfl rfl rfl ?_
  refine rt_k1 rfl ck1_1 ?_
  refine rt_sn (la1 := [some (rf q), some (.inl (0 : Int32)), some (.inl (1 : Int32))]) rfl rfl rfl ?_
  exact m_X1_greatestOver_l4 q hq 600 (0 : Int32) (1 : Int32) hp
noncomputable def v_X2_number (σ : sg_S) (x0 : Int32) (x1 : Int32) : Int32 := (if x0 < 0 then (0 : Int32) else (if (10 : Int32) ≤ x0 then (0 : Int32) else (if x1 < 0 then (0 : Int32) else (if x1 < (5 : Int32) then (σ 2 (ni (((5 : Int32) * x0) + x1))) else (0 : Int32)))))
noncomputable def p_X2_number (x0 : Int32) (x1 : Int32) : Prop := (¬ (x0 < 0) → (¬ ((10 : Int32) ≤ x0) → (¬ (x1 < 0) → (x1 < (5 : Int32) → ix (((5 : Int32) * x0) + x1) 50))))
theorem m_X2_number {s : List Int32} {σ : sg_S} (x0 : Int32) (x1 : Int32) (hp : p_X2_number x0 x1) : Ct s 46 [rf 1, .inl x0, .inl x1] σ [.inl (v_X2_number σ x0 x1)] σ := by
  refine ct_v (la := [some (rf 1), some (.inl x0), some (.inl x1)]) Kq_1 rfl rfl rfl rfl rfl rfl rfl (cgV ?_)
  unfold v_X2_number
  unfold p_X2_number at hp
  refine rt_ln rfl rfl ?_
  refine rt_if rfl rfl (fun h => ?_) (fun h => ?_)
  · refine rt_k1 rfl ck1_0 ?_
    exact rt_eV rfl
  · replace hp := hp h
    refine rt_ln rfl rfl ?_
    refine rt_k2 rfl ck2_10 ?_
    refine rt_ic rfl rfl (fun h => ?_) (fun h => ?_)
    · refine rt_k1 rfl ck1_0 ?_
      exact rt_eV rfl
    · replace hp := hp h
      refine rt_ln rfl rfl ?_
      refine rt_if rfl rfl (fun h => ?_) (fun h => ?_)
      · refine rt_k1 rfl ck1_0 ?_
        exact rt_eV rfl
      · replace hp := hp h
        refine rt_ln rfl rfl ?_
        refine rt_k1 rfl ck1_5 ?_
        refine rt_ic rfl rfl (fun h => ?_) (fun h => ?_)
        · replace hp := hp h
          refine rt_lna rfl rfl ?_
          refine rt_gfr rfl Kq_1 (by decide) rfl ?_
          refine rt_k1 rfl ck1_5 ?_
          refine rt_ln rfl rfl ?_
          refine rt_mul rfl ?_
          refine rt_ln rfl rfl ?_
          refine rt_add rfl ?_
          refine rt_al rfl Kq_2 hp rfl ?_
          exact rt_eV rfl
        · refine rt_k1 rfl ck1_0 ?_
          exact rt_eV rfl
noncomputable def v_X2_worthOf (σ : sg_S) (x0 : Int32) (x1 : Int32) : Int32 := (if x0 ≤ 0 then (0 : Int32) else (if (120 : Int32) < x0 then (0 : Int32) else (if x1 < 0 then (0 : Int32) else (if x1 < (10 : Int32) then (if ¬ (rm x0 (30 : Int32)) = 0 then (((30 : Int32) * (σ 2 (ni (((5 : Int32) * x1) + (x0 / (30 : Int32)))))) + ((rm x0 (30 : Int32)) * ((σ 2 (ni ((((5 : Int32) * x1) + (x0 / (30 : Int32))) + (1 : Int32)))) - (σ 2 (ni (((5 : Int32) * x1) + (x0 / (30 : Int32)))))))) else (((30 : Int32) * (σ 2 (ni (((5 : Int32) * x1) + (x0 / (30 : Int32)))))) + ((rm x0 (30 : Int32)) * (0 : Int32)))) else (0 : Int32)))))
noncomputable def p_X2_worthOf (x0 : Int32) (x1 : Int32) : Prop := (¬ (x0 ≤ 0) → (¬ ((120 : Int32) < x0) → (¬ (x1 < 0) → (x1 < (10 : Int32) → ((¬ (rm x0 (30 : Int32)) = 0 → (ix ((((5 : Int32) * x1) + (x0 / (30 : Int32))) + (1 : Int32)) 50 ∧ (ix (((5 : Int32) * x1) + (x0 / (30 : Int32))) 50 ∧ ix (((5 : Int32) * x1) + (x0 / (30 : Int32))) 50))) ∧ (¬ (¬ (rm x0 (30 : Int32)) = 0) → ix (((5 : Int32) * x1) + (x0 / (30 : Int32))) 50))))))
theorem m_X2_worthOf {s : List Int32} {σ : sg_S} (x0 : Int32) (x1 : Int32) (hp : p_X2_worthOf x0 x1) : Ct s 47 [rf 1, .inl x0, .inl x1] σ [.inl (v_X2_worthOf σ x0 x1)] σ := by
  refine ct_v (la := [some (rf 1), some (.inl x0), some (.inl x1), none, none, none]) Kq_1 rfl rfl rfl rfl rfl rfl rfl (cgV ?_)
  unfold v_X2_worthOf
  unfold p_X2_worthOf at hp
  refine rt_ln rfl rfl ?_
  refine rt_if rfl rfl (fun h => ?_) (fun h => ?_)
  · refine rt_k1 rfl ck1_0 ?_
    exact rt_eV rfl
  · replace hp := hp h
    refine rt_ln rfl rfl ?_
    refine rt_k2 rfl ck2_120 ?_
    refine rt_ic rfl rfl (fun h => ?_) (fun h => ?_)
    · refine rt_k1 rfl ck1_0 ?_
      exact rt_eV rfl
    · replace hp := hp h
      refine rt_ln rfl rfl ?_
      refine rt_if rfl rfl (fun h => ?_) (fun h => ?_)
      · refine rt_k1 rfl ck1_0 ?_
        exact rt_eV rfl
      · replace hp := hp h
        refine rt_ln rfl rfl ?_
        refine rt_k2 rfl ck2_10 ?_
        refine rt_ic rfl rfl (fun h => ?_) (fun h => ?_)
        · replace hp := hp h
          refine rt_k1 rfl ck1_5 ?_
          refine rt_ln rfl rfl ?_
          refine rt_mul rfl ?_
          refine rt_ln rfl rfl ?_
          refine rt_k2 rfl ck2_30 ?_
          refine rt_div rfl (by decide) ?_
          refine rt_add rfl ?_
          refine rt_sn (la1 := [some (rf 1), some (.inl x0), some (.inl x1), some (.inl (((5 : Int32) * x1) + (x0 / (30 : Int32)))), none, none]) rfl rfl rfl ?_
          refine rt_ln rfl rfl ?_
          refine rt_k2 rfl ck2_30 ?_
          refine rt_rem rfl (by decide) ?_
          refine rt_st (la1 := [some (rf 1), some (.inl x0), some (.inl x1), some (.inl (((5 : Int32) * x1) + (x0 / (30 : Int32)))), some (.inl (rm x0 (30 : Int32))), none]) rfl rfl rfl ?_
          refine rt_ld rfl rfl ?_
          refine rt_if rfl rfl (fun h => ?_) (fun h => ?_)
          · replace hp := hp.1 h
            refine rt_lna rfl rfl ?_
            refine rt_gfr rfl Kq_1 (by decide) rfl ?_
            refine rt_ln rfl rfl ?_
            refine rt_k1 rfl ck1_1 ?_
            refine rt_add rfl ?_
            refine rt_al rfl Kq_2 hp.1 rfl ?_
            replace hp := hp.2
            refine rt_lna rfl rfl ?_
            refine rt_gfr rfl Kq_1 (by decide) rfl ?_
            refine rt_ln rfl rfl ?_
            refine rt_al rfl Kq_2 hp.1 rfl ?_
            replace hp := hp.2
            refine rt_sub rfl ?_
            refine rt_st (la1 := [some (rf 1), some (.inl x0), some (.inl x1), some (.inl (((5 : Int32) * x1) + (x0 / (30 : Int32)))), some (.inl (rm x0 (30 : Int32))), some (.inl ((σ 2 (ni ((((5 : Int32) * x1) + (x0 / (30 : Int32))) + (1 : Int32)))) - (σ 2 (ni (((5 : Int32) * x1) + (x0 / (30 : Int32)))))))]) rfl rfl rfl ?_
            refine rt_k2 rfl ck2_30 ?_
            refine rt_lna rfl rfl ?_
            refine rt_gfr rfl Kq_1 (by decide) rfl ?_
            refine rt_ln rfl rfl ?_
            refine rt_al rfl Kq_2 hp rfl ?_
            refine rt_mul rfl ?_
            refine rt_ld rfl rfl ?_
            refine rt_ld rfl rfl ?_
            refine rt_mul rfl ?_
            refine rt_add rfl ?_
            exact rt_eV rfl
          · replace hp := hp.2 h
            refine rt_k1 rfl ck1_0 ?_
            refine rt_go rfl ?_
            refine rt_st (la1 := [some (rf 1), some (.inl x0), some (.inl x1), some (.inl (((5 : Int32) * x1) + (x0 / (30 : Int32)))), some (.inl (rm x0 (30 : Int32))), some (.inl (0 : Int32))]) rfl rfl rfl ?_
            refine rt_k2 rfl ck2_30 ?_
            refine rt_lna rfl rfl ?_
            refine rt_gfr rfl Kq_1 (by decide) rfl ?_
            refine rt_ln rfl rfl ?_
            refine rt_al rfl Kq_2 hp rfl ?_
            refine rt_mul rfl ?_
            refine rt_ld rfl rfl ?_
            refine rt_ld rfl rfl ?_
            refine rt_mul rfl ?_
            refine rt_add rfl ?_
            exact rt_eV rfl
        · refine rt_k1 rfl ck1_0 ?_
          exact rt_eV rfl
noncomputable def v_X2_full (σ : sg_S) : Int32 := ((30 : Int32) * (σ 2 4))
theorem m_X2_full {s : List Int32} {σ : sg_S} : Ct s 48 [rf 1] σ [.inl (v_X2_full σ)] σ := by
  refine ct_v (la := [some (rf 1)]) Kq_1 rfl rfl rfl rfl rfl rfl rfl (cgV ?_)
  unfold v_X2_full
  refine rt_k2 rfl ck2_30 ?_
  refine rt_lna rfl rfl ?_
  refine rt_gfr rfl Kq_1 (by decide) rfl ?_
  refine rt_k1 rfl ck1_4 ?_
  refine rt_al (k0 := 4) rfl Kq_2 ⟨by decide, by decide⟩ rfl ?_
  refine rt_mul rfl ?_
  exact rt_eV rfl
noncomputable def v_X2_worthOfOvers (σ : sg_S) (x0 : Int32) : Int32 := (v_X2_worthOf σ ((6 : Int32) * x0) (0 : Int32))
noncomputable def p_X2_worthOfOvers (x0 : Int32) : Prop := p_X2_worthOf ((6 : Int32) * x0) (0 : Int32)
theorem m_X2_worthOfOvers {s : List Int32} {σ : sg_S} (x0 : Int32) (hp : p_X2_worthOfOvers x0) : Ct s 49 [rf 1, .inl x0] σ [.inl (v_X2_worthOfOvers σ x0)] σ := by
  refine ct_v (la := [some (rf 1), some (.inl x0)]) Kq_1 rfl rfl rfl rfl rfl rfl rfl (cgV ?_)
  unfold v_X2_worthOfOvers
  unfold p_X2_worthOfOvers at hp
  refine rt_lna rfl rfl ?_
  refine rt_k2 rfl ck2_6 ?_
  refine rt_ln rfl rfl ?_
  refine rt_mul rfl ?_
  refine rt_k1 rfl ck1_0 ?_
  refine rt_iv (σ1 := σ) rfl rfl rfl (m_X2_worthOf ((6 : Int32) * x0) (0 : Int32) hp) ?_
  show RtF bk (fV σ) s 49 9 [some (rf 1), some (.inl x0)] [.inl (v_X2_worthOf σ ((6 : Int32) * x0) (0 : Int32))] σ _
  exact rt_eV rfl
noncomputable def v_X2_setting (σ : sg_S) (x0 : Int32) : Int32 := (if x0 < 0 then (-1 : Int32) else (if (5 : Int32) ≤ x0 then (-1 : Int32) else (σ 4 (ni x0))))
noncomputable def p_X2_setting (x0 : Int32) : Prop := (¬ (x0 < 0) → (¬ ((5 : Int32) ≤ x0) → ix x0 5))
theorem m_X2_setting {s : List Int32} {σ : sg_S} (x0 : Int32) (hp : p_X2_setting x0) : Ct s 50 [rf 1, .inl x0] σ [.inl (v_X2_setting σ x0)] σ := by
  refine ct_v (la := [some (rf 1), some (.inl x0)]) Kq_1 rfl rfl rfl rfl rfl rfl rfl (cgV ?_)
  unfold v_X2_setting
  unfold p_X2_setting at hp
  refine rt_ln rfl rfl ?_
  refine rt_if rfl rfl (fun h => ?_) (fun h => ?_)
  · refine rt_k1 rfl ck1_m1 ?_
    exact rt_eV rfl
  · replace hp := hp h
    refine rt_ln rfl rfl ?_
    refine rt_k1 rfl ck1_5 ?_
    refine rt_ic rfl rfl (fun h => ?_) (fun h => ?_)
    · refine rt_k1 rfl ck1_m1 ?_
      exact rt_eV rfl
    · replace hp := hp h
      refine rt_lna rfl rfl ?_
      refine rt_gfr rfl Kq_1 (by decide) rfl ?_
      refine rt_ln rfl rfl ?_
      refine rt_al rfl Kq_4 hp rfl ?_
      refine rt_go rfl ?_
      exact rt_eV rfl
noncomputable def v_X2_allows (σ : sg_S) (x0 : Int32) (x1 : Int32) : Int32 := (if x0 < 0 then (0 : Int32) else (if (5 : Int32) ≤ x0 then (0 : Int32) else (if x1 < (([1, 1, 1, 0, 0] : List Int32).getD (ni x0) 0) then (0 : Int32) else (if x1 ≤ (([20, 400, 20, 20, 20] : List Int32).getD (ni x0) 0) then (if ¬ x0 = (3 : Int32) then (if ¬ x0 = (4 : Int32) then (1 : Int32) else (if (20 : Int32) < (x1 + (σ 4 3)) then (0 : Int32) else (1 : Int32))) else (if (20 : Int32) < (x1 + (σ 4 4)) then (0 : Int32) else (1 : Int32))) else (0 : Int32)))))
noncomputable def p_X2_allows (x0 : Int32) (x1 : Int32) : Prop := (¬ (x0 < 0) → (¬ ((5 : Int32) ≤ x0) → (ix x0 5 ∧ (¬ (x1 < (([1, 1, 1, 0, 0] : List Int32).getD (ni x0) 0)) → ix x0 5))))
theorem m_X2_allows {s : List Int32} {σ : sg_S} (x0 : Int32) (x1 : Int32) (hp : p_X2_allows x0 x1) : Ct s 51 [rf 1, .inl x0, .inl x1] σ [.inl (v_X2_allows σ x0 x1)] σ := by
  refine ct_v (la := [some (rf 1), some (.inl x0), some (.inl x1)]) Kq_1 rfl rfl rfl rfl rfl rfl rfl (cgV ?_)
  unfold v_X2_allows
  unfold p_X2_allows at hp
  refine rt_ln rfl rfl ?_
  refine rt_if rfl rfl (fun h => ?_) (fun h => ?_)
  · refine rt_k1 rfl ck1_0 ?_
    exact rt_eVb rfl (Or.inl rfl)
  · replace hp := hp h
    refine rt_ln rfl rfl ?_
    refine rt_k1 rfl ck1_5 ?_
    refine rt_ic rfl rfl (fun h => ?_) (fun h => ?_)
    · refine rt_k1 rfl ck1_0 ?_
      exact rt_eVb rfl (Or.inl rfl)
    · replace hp := hp h
      refine rt_ln rfl rfl ?_
      refine rt_gs rfl ?_
      refine rt_ln rfl rfl ?_
      refine rt_rl rfl rfl hp.1 ?_
      replace hp := hp.2
      refine rt_ic rfl rfl (fun h => ?_) (fun h => ?_)
      · refine rt_k1 rfl ck1_0 ?_
        exact rt_eVb rfl (Or.inl rfl)
      · replace hp := hp h
        refine rt_ln rfl rfl ?_
        refine rt_gs rfl ?_
        refine rt_ln rfl rfl ?_
        refine rt_rl rfl rfl hp ?_
        refine rt_ic rfl rfl (fun h => ?_) (fun h => ?_)
        · refine rt_ln rfl rfl ?_
          refine rt_k1 rfl ck1_3 ?_
          refine rt_ic rfl rfl (fun h => ?_) (fun h => ?_)
          · refine rt_ln rfl rfl ?_
            refine rt_k1 rfl ck1_4 ?_
            refine rt_ic rfl rfl (fun h => ?_) (fun h => ?_)
            · refine rt_k1 rfl ck1_1 ?_
              refine rt_go rfl ?_
              exact rt_eVb rfl (Or.inr rfl)
            · refine rt_ln rfl rfl ?_
              refine rt_lna rfl rfl ?_
              refine rt_gfr rfl Kq_1 (by decide) rfl ?_
              refine rt_k1 rfl ck1_3 ?_
              refine rt_al (k0 := 3) rfl Kq_4 ⟨by decide, by decide⟩ rfl ?_
              refine rt_add rfl ?_
              refine rt_k2 rfl ck2_20 ?_
              refine rt_ic rfl rfl (fun h => ?_) (fun h => ?_)
              · refine rt_k1 rfl ck1_0 ?_
                exact rt_eVb rfl (Or.inl rfl)
              · refine rt_k1 rfl ck1_1 ?_
                refine rt_go rfl ?_
                exact rt_eVb rfl (Or.inr rfl)
          · refine rt_ln rfl rfl ?_
            refine rt_lna rfl rfl ?_
            refine rt_gfr rfl Kq_1 (by decide) rfl ?_
            refine rt_k1 rfl ck1_4 ?_
            refine rt_al (k0 := 4) rfl Kq_4 ⟨by decide, by decide⟩ rfl ?_
            refine rt_add rfl ?_
            refine rt_k2 rfl ck2_20 ?_
            refine rt_ic rfl rfl (fun h => ?_) (fun h => ?_)
            · refine rt_k1 rfl ck1_0 ?_
              exact rt_eVb rfl (Or.inl rfl)
            · refine rt_k1 rfl ck1_1 ?_
              refine rt_go rfl ?_
              exact rt_eVb rfl (Or.inr rfl)
        · refine rt_k1 rfl ck1_0 ?_
          exact rt_eVb rfl (Or.inl rfl)
noncomputable def s_X2_change (σ : sg_S) (x0 : Int32) (x1 : Int32) : sg_S := (if x0 < 0 then σ else (if (5 : Int32) ≤ x0 then σ else (sg_up σ 4 (ni x0) x1)))
noncomputable def p_X2_change (x0 : Int32) (x1 : Int32) : Prop := (¬ (x0 < 0) → (¬ ((5 : Int32) ≤ x0) → ix x0 5))
theorem m_X2_change {s : List Int32} {σ : sg_S} (x0 : Int32) (x1 : Int32) (hp : p_X2_change x0 x1) : Ct s 52 [rf 1, .inl x0, .inl x1] σ [] (s_X2_change σ x0 x1) := by
  refine ct_v (la := [some (rf 1), some (.inl x0), some (.inl x1)]) Kq_1 rfl rfl rfl rfl rfl rfl rfl (cgS ?_)
  unfold s_X2_change
  unfold p_X2_change at hp
  refine rt_ln rfl rfl ?_
  refine rt_if rfl rfl (fun h => ?_) (fun h => ?_)
  · exact rt_eS rfl
  · replace hp := hp h
    refine rt_ln rfl rfl ?_
    refine rt_k1 rfl ck1_5 ?_
    refine rt_ic rfl rfl (fun h => ?_) (fun h => ?_)
    · exact rt_eS rfl
    · replace hp := hp h
      refine rt_lna rfl rfl ?_
      refine rt_gfr rfl Kq_1 (by decide) rfl ?_
      refine rt_ln rfl rfl ?_
      refine rt_ln rfl rfl ?_
      refine rt_as (k0 := (ni x0)) (σ1 := (sg_up σ 4 (ni x0) x1)) rfl Kq_4 hp rfl rfl ?_
      exact rt_eS rfl
noncomputable def v_X2_shareOf (σ : sg_S) (x0 : Int32) : Int32 := (if ¬ x0 = 0 then (if ¬ x0 = (1 : Int32) then (((20 : Int32) - (σ 4 3)) - (σ 4 4)) else (σ 4 4)) else (σ 4 3))
theorem m_X2_shareOf {s : List Int32} {σ : sg_S} (x0 : Int32) : Ct s 53 [rf 1, .inl x0] σ [.inl (v_X2_shareOf σ x0)] σ := by
  refine ct_v (la := [some (rf 1), some (.inl x0)]) Kq_1 rfl rfl rfl rfl rfl rfl rfl (cgV ?_)
  unfold v_X2_shareOf
  refine rt_ln rfl rfl ?_
  refine rt_if rfl rfl (fun h => ?_) (fun h => ?_)
  · refine rt_ln rfl rfl ?_
    refine rt_k1 rfl ck1_1 ?_
    refine rt_ic rfl rfl (fun h => ?_) (fun h => ?_)
    · refine rt_k2 rfl ck2_20 ?_
      refine rt_lna rfl rfl ?_
      refine rt_gfr rfl Kq_1 (by decide) rfl ?_
      refine rt_k1 rfl ck1_3 ?_
      refine rt_al (k0 := 3) rfl Kq_4 ⟨by decide, by decide⟩ rfl ?_
      refine rt_sub rfl ?_
      refine rt_lna rfl rfl ?_
      refine rt_gfr rfl Kq_1 (by decide) rfl ?_
      refine rt_k1 rfl ck1_4 ?_
      refine rt_al (k0 := 4) rfl Kq_4 ⟨by decide, by decide⟩ rfl ?_
      refine rt_sub rfl ?_
      exact rt_eV rfl
    · refine rt_lna rfl rfl ?_
      refine rt_gfr rfl Kq_1 (by decide) rfl ?_
      refine rt_k1 rfl ck1_4 ?_
      refine rt_al (k0 := 4) rfl Kq_4 ⟨by decide, by decide⟩ rfl ?_
      exact rt_eV rfl
  · refine rt_lna rfl rfl ?_
    refine rt_gfr rfl Kq_1 (by decide) rfl ?_
    refine rt_k1 rfl ck1_3 ?_
    refine rt_al (k0 := 3) rfl Kq_4 ⟨by decide, by decide⟩ rfl ?_
    exact rt_eV rfl
noncomputable def v_X2_blockOvers_b17 (σ : sg_S) (k17 : Int32 → Int32 → Int32 → Int32 → Int32 → Int32 → Int32) (x1_ : Int32) (x2_ : Int32) (x3_ : Int32) (x4_ : Int32) (x5_ : Int32) (x6_ : Int32) : Int32 := (if (3 : Int32) ≤ x6_ then (if x4_ ≤ x5_ then ((x3_ / (20 : Int32)) + (0 : Int32)) else ((x3_ / (20 : Int32)) + (1 : Int32))) else (if 0 < ((rm (x1_ * (v_X2_shareOf σ x6_)) (20 : Int32)) - (rm x3_ (20 : Int32))) then (k17 x1_ x2_ x3_ (x4_ - ((x1_ * (v_X2_shareOf σ x6_)) / (20 : Int32))) (x5_ + (1 : Int32)) (x6_ + (1 : Int32))) else (if ¬ ((rm (x1_ * (v_X2_shareOf σ x6_)) (20 : Int32)) - (rm x3_ (20 : Int32))) = 0 then (k17 x1_ x2_ x3_ (x4_ - ((x1_ * (v_X2_shareOf σ x6_)) / (20 : Int32))) x5_ (x6_ + (1 : Int32))) else (if x2_ ≤ x6_ then (k17 x1_ x2_ x3_ (x4_ - ((x1_ * (v_X2_shareOf σ x6_)) / (20 : Int32))) x5_ (x6_ + (1 : Int32))) else (k17 x1_ x2_ x3_ (x4_ - ((x1_ * (v_X2_shareOf σ x6_)) / (20 : Int32))) (x5_ + (1 : Int32)) (x6_ + (1 : Int32)))))))
noncomputable def p_X2_blockOvers_b17 (σ : sg_S) (kp17 : Int32 → Int32 → Int32 → Int32 → Int32 → Int32 → Prop) (x1_ : Int32) (x2_ : Int32) (x3_ : Int32) (x4_ : Int32) (x5_ : Int32) (x6_ : Int32) : Prop := (¬ ((3 : Int32) ≤ x6_) → ((0 < ((rm (x1_ * (v_X2_shareOf σ x6_)) (20 : Int32)) - (rm x3_ (20 : Int32))) → (kp17 x1_ x2_ x3_ (x4_ - ((x1_ * (v_X2_shareOf σ x6_)) / (20 : Int32))) (x5_ + (1 : Int32)) (x6_ + (1 : Int32)))) ∧ (¬ (0 < ((rm (x1_ * (v_X2_shareOf σ x6_)) (20 : Int32)) - (rm x3_ (20 : Int32)))) → ((¬ ((rm (x1_ * (v_X2_shareOf σ x6_)) (20 : Int32)) - (rm x3_ (20 : Int32))) = 0 → (kp17 x1_ x2_ x3_ (x4_ - ((x1_ * (v_X2_shareOf σ x6_)) / (20 : Int32))) x5_ (x6_ + (1 : Int32)))) ∧ (¬ (¬ ((rm (x1_ * (v_X2_shareOf σ x6_)) (20 : Int32)) - (rm x3_ (20 : Int32))) = 0) → ((x2_ ≤ x6_ → (kp17 x1_ x2_ x3_ (x4_ - ((x1_ * (v_X2_shareOf σ x6_)) / (20 : Int32))) x5_ (x6_ + (1 : Int32)))) ∧ (¬ (x2_ ≤ x6_) → (kp17 x1_ x2_ x3_ (x4_ - ((x1_ * (v_X2_shareOf σ x6_)) / (20 : Int32))) (x5_ + (1 : Int32)) (x6_ + (1 : Int32))))))))))
theorem m_X2_blockOvers_b17 {s : List Int32} {σ : sg_S} (k17 : Int32 → Int32 → Int32 → Int32 → Int32 → Int32 → Int32) (kp17 : Int32 → Int32 → Int32 → Int32 → Int32 → Int32 → Prop) (hk17 : ∀ (x1_ : Int32) (x2_ : Int32) (x3_ : Int32) (x4_ : Int32) (x5_ : Int32) (x6_ : Int32) (o7_ : Option (ip_V Int32)) (o8_ : Option (ip_V Int32)), kp17 x1_ x2_ x3_ x4_ x5_ x6_ → RtF bk (fV σ) s 54 17 [some (rf 1), some (.inl x1_), some (.inl x2_), some (.inl x3_), some (.inl x4_), some (.inl x5_), some (.inl x6_), o7_, o8_] [] σ (k17 x1_ x2_ x3_ x4_ x5_ x6_)) (x1_ : Int32) (x2_ : Int32) (x3_ : Int32) (x4_ : Int32) (x5_ : Int32) (x6_ : Int32) (o7_ : Option (ip_V Int32)) (o8_ : Option (ip_V Int32)) (hp : p_X2_blockOvers_b17 σ kp17 x1_ x2_ x3_ x4_ x5_ x6_) : RtF bk (fV σ) s 54 17 [some (rf 1), some (.inl x1_), some (.inl x2_), some (.inl x3_), some (.inl x4_), some (.inl x5_), some (.inl x6_), o7_, o8_] [] σ (v_X2_blockOvers_b17 σ k17 x1_ x2_ x3_ x4_ x5_ x6_) := by
  unfold v_X2_blockOvers_b17
  unfold p_X2_blockOvers_b17 at hp
  refine rt_ld rfl rfl ?_
  refine rt_k1 rfl ck1_3 ?_
  refine rt_ic rfl rfl (fun h => ?_) (fun h => ?_)
  · refine rt_ln rfl rfl ?_
    refine rt_k2 rfl ck2_20 ?_
    refine rt_div rfl (by decide) ?_
    refine rt_ld rfl rfl ?_
    refine rt_ld rfl rfl ?_
    refine rt_ic rfl rfl (fun h => ?_) (fun h => ?_)
    · refine rt_k1 rfl ck1_0 ?_
      refine rt_add rfl ?_
      exact rt_eV rfl
    · refine rt_k1 rfl ck1_1 ?_
      refine rt_go rfl ?_
      refine rt_add rfl ?_
      exact rt_eV rfl
  · replace hp := hp h
    refine rt_ln rfl rfl ?_
    refine rt_lna rfl rfl ?_
    refine rt_ld rfl rfl ?_
    refine rt_iv (σ1 := σ) rfl rfl rfl (m_X2_shareOf x6_) ?_
    show RtF bk (fV σ) s 54 30 [some (rf 1), some (.inl x1_), some (.inl x2_), some (.inl x3_), some (.inl x4_), some (.inl x5_), some (.inl x6_), o7_, o8_] [.inl (v_X2_shareOf σ x6_), .inl x1_] σ _
    refine rt_mul rfl ?_
    refine rt_st (la1 := [some (rf 1), some (.inl x1_), some (.inl x2_), some (.inl x3_), some (.inl x4_), some (.inl x5_), some (.inl x6_), some (.inl (x1_ * (v_X2_shareOf σ x6_))), o8_]) rfl rfl rfl ?_
    refine rt_ld rfl rfl ?_
    refine rt_k2 rfl ck2_20 ?_
    refine rt_rem rfl (by decide) ?_
    refine rt_ln rfl rfl ?_
    refine rt_k2 rfl ck2_20 ?_
    refine rt_rem rfl (by decide) ?_
    refine rt_sub rfl ?_
    refine rt_st (la1 := [some (rf 1), some (.inl x1_), some (.inl x2_), some (.inl x3_), some (.inl x4_), some (.inl x5_), some (.inl x6_), some (.inl (x1_ * (v_X2_shareOf σ x6_))), some (.inl ((rm (x1_ * (v_X2_shareOf σ x6_)) (20 : Int32)) - (rm x3_ (20 : Int32))))]) rfl rfl rfl ?_
    refine rt_ld rfl rfl ?_
    refine rt_ld rfl rfl ?_
    refine rt_k2 rfl ck2_20 ?_
    refine rt_div rfl (by decide) ?_
    refine rt_sub rfl ?_
    refine rt_st (la1 := [some (rf 1), some (.inl x1_), some (.inl x2_), some (.inl x3_), some (.inl (x4_ - ((x1_ * (v_X2_shareOf σ x6_)) / (20 : Int32)))), some (.inl x5_), some (.inl x6_), some (.inl (x1_ * (v_X2_shareOf σ x6_))), some (.inl ((rm (x1_ * (v_X2_shareOf σ x6_)) (20 : Int32)) - (rm x3_ (20 : Int32))))]) rfl rfl rfl ?_
    refine rt_ld rfl rfl ?_
    refine rt_if rfl rfl (fun h => ?_) (fun h => ?_)
    · replace hp := hp.1 h
      refine rt_inc (la1 := [some (rf 1), some (.inl x1_), some (.inl x2_), some (.inl x3_), some (.inl (x4_ - ((x1_ * (v_X2_shareOf σ x6_)) / (20 : Int32)))), some (.inl (x5_ + (1 : Int32))), some (.inl x6_), some (.inl (x1_ * (v_X2_shareOf σ x6_))), some (.inl ((rm (x1_ * (v_X2_shareOf σ x6_)) (20 : Int32)) - (rm x3_ (20 : Int32))))]) rfl rfl ck1_1 rfl ?_
      refine rt_inc (la1 := [some (rf 1), some (.inl x1_), some (.inl x2_), some (.inl x3_), some (.inl (x4_ - ((x1_ * (v_X2_shareOf σ x6_)) / (20 : Int32)))), some (.inl (x5_ + (1 : Int32))), some (.inl (x6_ + (1 : Int32))), some (.inl (x1_ * (v_X2_shareOf σ x6_))), some (.inl ((rm (x1_ * (v_X2_shareOf σ x6_)) (20 : Int32)) - (rm x3_ (20 : Int32))))]) rfl rfl ck1_1 rfl ?_
      refine rt_go rfl ?_
      exact hk17 x1_ x2_ x3_ (x4_ - ((x1_ * (v_X2_shareOf σ x6_)) / (20 : Int32))) (x5_ + (1 : Int32)) (x6_ + (1 : Int32)) _ _ hp
    · replace hp := hp.2 h
      refine rt_ld rfl rfl ?_
      refine rt_if rfl rfl (fun h => ?_) (fun h => ?_)
      · replace hp := hp.1 h
        refine rt_inc (la1 := [some (rf 1), some (.inl x1_), some (.inl x2_), some (.inl x3_), some (.inl (x4_ - ((x1_ * (v_X2_shareOf σ x6_)) / (20 : Int32)))), some (.inl x5_), some (.inl (x6_ + (1 : Int32))), some (.inl (x1_ * (v_X2_shareOf σ x6_))), some (.inl ((rm (x1_ * (v_X2_shareOf σ x6_)) (20 : Int32)) - (rm x3_ (20 : Int32))))]) rfl rfl ck1_1 rfl ?_
        refine rt_go rfl ?_
        exact hk17 x1_ x2_ x3_ (x4_ - ((x1_ * (v_X2_shareOf σ x6_)) / (20 : Int32))) x5_ (x6_ + (1 : Int32)) _ _ hp
      · replace hp := hp.2 h
        refine rt_ld rfl rfl ?_
        refine rt_ln rfl rfl ?_
        refine rt_ic rfl rfl (fun h => ?_) (fun h => ?_)
        · replace hp := hp.1 h
          refine rt_inc (la1 := [some (rf 1), some (.inl x1_), some (.inl x2_), some (.inl x3_), some (.inl (x4_ - ((x1_ * (v_X2_shareOf σ x6_)) / (20 : Int32)))), some (.inl x5_), some (.inl (x6_ + (1 : Int32))), some (.inl (x1_ * (v_X2_shareOf σ x6_))), some (.inl ((rm (x1_ * (v_X2_shareOf σ x6_)) (20 : Int32)) - (rm x3_ (20 : Int32))))]) rfl rfl ck1_1 rfl ?_
          refine rt_go rfl ?_
          exact hk17 x1_ x2_ x3_ (x4_ - ((x1_ * (v_X2_shareOf σ x6_)) / (20 : Int32))) x5_ (x6_ + (1 : Int32)) _ _ hp
        · replace hp := hp.2 h
          refine rt_inc (la1 := [some (rf 1), some (.inl x1_), some (.inl x2_), some (.inl x3_), some (.inl (x4_ - ((x1_ * (v_X2_shareOf σ x6_)) / (20 : Int32)))), some (.inl (x5_ + (1 : Int32))), some (.inl x6_), some (.inl (x1_ * (v_X2_shareOf σ x6_))), some (.inl ((rm (x1_ * (v_X2_shareOf σ x6_)) (20 : Int32)) - (rm x3_ (20 : Int32))))]) rfl rfl ck1_1 rfl ?_
          refine rt_inc (la1 := [some (rf 1), some (.inl x1_), some (.inl x2_), some (.inl x3_), some (.inl (x4_ - ((x1_ * (v_X2_shareOf σ x6_)) / (20 : Int32)))), some (.inl (x5_ + (1 : Int32))), some (.inl (x6_ + (1 : Int32))), some (.inl (x1_ * (v_X2_shareOf σ x6_))), some (.inl ((rm (x1_ * (v_X2_shareOf σ x6_)) (20 : Int32)) - (rm x3_ (20 : Int32))))]) rfl rfl ck1_1 rfl ?_
          refine rt_go rfl ?_
          exact hk17 x1_ x2_ x3_ (x4_ - ((x1_ * (v_X2_shareOf σ x6_)) / (20 : Int32))) (x5_ + (1 : Int32)) (x6_ + (1 : Int32)) _ _ hp
noncomputable def v_X2_blockOvers_l17 (σ : sg_S) (n : Nat) : Int32 → Int32 → Int32 → Int32 → Int32 → Int32 → Int32 := Nat.rec (motive := fun _ => Int32 → Int32 → Int32 → Int32 → Int32 → Int32 → Int32) (fun _ _ _ _ _ _ => 0) (fun _ ih => v_X2_blockOvers_b17 σ ih) n
noncomputable def p_X2_blockOvers_l17 (σ : sg_S) (n : Nat) : Int32 → Int32 → Int32 → Int32 → Int32 → Int32 → Prop := Nat.rec (motive := fun _ => Int32 → Int32 → Int32 → Int32 → Int32 → Int32 → Prop) (fun _ _ _ _ _ _ => False) (fun _ ih => p_X2_blockOvers_b17 σ ih) n
theorem m_X2_blockOvers_l17 {s : List Int32} {σ : sg_S} : ∀ (n : Nat), ∀ (x1_ : Int32) (x2_ : Int32) (x3_ : Int32) (x4_ : Int32) (x5_ : Int32) (x6_ : Int32) (o7_ : Option (ip_V Int32)) (o8_ : Option (ip_V Int32)), p_X2_blockOvers_l17 σ n x1_ x2_ x3_ x4_ x5_ x6_ → RtF bk (fV σ) s 54 17 [some (rf 1), some (.inl x1_), some (.inl x2_), some (.inl x3_), some (.inl x4_), some (.inl x5_), some (.inl x6_), o7_, o8_] [] σ (v_X2_blockOvers_l17 σ n x1_ x2_ x3_ x4_ x5_ x6_) := by
  intro n
  induction n with
  | zero =>
    intro x1_ x2_ x3_ x4_ x5_ x6_ o7_ o8_ hp
    exact hp.elim
  | succ n ih =>
    intro x1_ x2_ x3_ x4_ x5_ x6_ o7_ o8_ hp
    exact m_X2_blockOvers_b17 (v_X2_blockOvers_l17 σ n) (p_X2_blockOvers_l17 σ n) ih x1_ x2_ x3_ x4_ x5_ x6_ o7_ o8_ hp
noncomputable def v_X2_blockOvers (σ : sg_S) (x0 : Int32) (x1 : Int32) : Int32 := (v_X2_blockOvers_l17 σ 600 x0 x1 (x0 * (v_X2_shareOf σ x1)) x0 (0 : Int32) (0 : Int32))
noncomputable def p_X2_blockOvers (σ : sg_S) (x0 : Int32) (x1 : Int32) : Prop := (p_X2_blockOvers_l17 σ 600 x0 x1 (x0 * (v_X2_shareOf σ x1)) x0 (0 : Int32) (0 : Int32))
theorem m_X2_blockOvers {s : List Int32} {σ : sg_S} (x0 : Int32) (x1 : Int32) (hp : p_X2_blockOvers σ x0 x1) : Ct s 54 [rf 1, .inl x0, .inl x1] σ [.inl (v_X2_blockOvers σ x0 x1)] σ := by
  refine ct_v (la := [some (rf 1), some (.inl x0), some (.inl x1), none, none, none, none, none, none]) Kq_1 rfl rfl rfl rfl rfl rfl rfl (cgV ?_)
  unfold v_X2_blockOvers
  unfold p_X2_blockOvers at hp
  refine rt_ln rfl rfl ?_
  refine rt_lna rfl rfl ?_
  refine rt_ln rfl rfl ?_
  refine rt_iv (σ1 := σ) rfl rfl rfl (m_X2_shareOf x1) ?_
  show RtF bk (fV σ) s 54 6 [some (rf 1), some (.inl x0), some (.inl x1), none, none, none, none, none, none] [.inl (v_X2_shareOf σ x1), .inl x0] σ _
  refine rt_mul rfl ?_
  refine rt_sn (la1 := [some (rf 1), some (.inl x0), some (.inl x1), some (.inl (x0 * (v_X2_shareOf σ x1))), none, none, none, none, none]) rfl rfl rfl ?_
  refine rt_ln rfl rfl ?_
  refine rt_st (la1 := [some (rf 1), some (.inl x0), some (.inl x1), some (.inl (x0 * (v_X2_shareOf σ x1))), some (.inl x0), none, none, none, none]) rfl rfl rfl ?_
  refine rt_k1 rfl ck1_0 ?_
  refine rt_st (la1 := [some (rf 1), some (.inl x0), some (.inl x1), some (.inl (x0 * (v_X2_shareOf σ x1))), some (.inl x0), some (.inl (0 : Int32)), none, none, none]) rfl rfl rfl ?_
  refine rt_k1 rfl ck1_0 ?_
  refine rt_st (la1 := [some (rf 1), some (.inl x0), some (.inl x1), some (.inl (x0 * (v_X2_shareOf σ x1))), some (.inl x0), some (.inl (0 : Int32)), some (.inl (0 : Int32)), none, none]) rfl rfl rfl ?_
  exact m_X2_blockOvers_l17 600 x0 x1 (x0 * (v_X2_shareOf σ x1)) x0 (0 : Int32) (0 : Int32) _ _ hp
noncomputable def v_X2_canStandInRow (x0 : Int32) (x1 : Int32) : Int32 := (if ¬ x0 = 0 then (if x1 < (1 : Int32) then (0 : Int32) else (if (1000 : Int32) < x1 then (0 : Int32) else (1 : Int32))) else (if x1 < 0 then (0 : Int32) else (if (10 : Int32) ≤ x1 then (0 : Int32) else (1 : Int32))))
theorem m_X2_canStandInRow {s : List Int32} {σ : sg_S} (x0 : Int32) (x1 : Int32) : Ct s 55 [.inl x0, .inl x1] σ [.inl (v_X2_canStandInRow x0 x1)] σ := by
  refine ct_s (la := [some (.inl x0), some (.inl x1)]) rfl rfl rfl rfl rfl (cgV ?_)
  unfold v_X2_canStandInRow
  refine rt_ln rfl rfl ?_
  refine rt_if rfl rfl (fun h => ?_) (fun h => ?_)
  · refine rt_ln rfl rfl ?_
    refine rt_k1 rfl ck1_1 ?_
    refine rt_ic rfl rfl (fun h => ?_) (fun h => ?_)
    · refine rt_k1 rfl ck1_0 ?_
      exact rt_eVb rfl (Or.inl rfl)
    · refine rt_ln rfl rfl ?_
      refine rt_k3 rfl ck3_1000 ?_
      refine rt_ic rfl rfl (fun h => ?_) (fun h => ?_)
      · refine rt_k1 rfl ck1_0 ?_
        exact rt_eVb rfl (Or.inl rfl)
      · refine rt_k1 rfl ck1_1 ?_
        refine rt_go rfl ?_
        exact rt_eVb rfl (Or.inr rfl)
  · refine rt_ln rfl rfl ?_
    refine rt_if rfl rfl (fun h => ?_) (fun h => ?_)
    · refine rt_k1 rfl ck1_0 ?_
      refine rt_go rfl ?_
      exact rt_eVb rfl (Or.inl rfl)
    · refine rt_ln rfl rfl ?_
      refine rt_k2 rfl ck2_10 ?_
      refine rt_ic rfl rfl (fun h => ?_) (fun h => ?_)
      · refine rt_k1 rfl ck1_0 ?_
        refine rt_go rfl ?_
        exact rt_eVb rfl (Or.inl rfl)
      · refine rt_k1 rfl ck1_1 ?_
        refine rt_go rfl ?_
        exact rt_eVb rfl (Or.inr rfl)
noncomputable def s_X2_beginProposal_b2 (k2 : sg_S → Int32 → sg_S) (σ : sg_S) (x1_ : Int32) : sg_S := (if (50 : Int32) ≤ x1_ then σ else (k2 (sg_up σ 3 (ni x1_) (σ 2 (ni x1_))) (x1_ + (1 : Int32))))
noncomputable def p_X2_beginProposal_b2 (kp2 : sg_S → Int32 → Prop) (σ : sg_S) (x1_ : Int32) : Prop := (¬ ((50 : Int32) ≤ x1_) → (ix x1_ 50 ∧ (ix x1_ 50 ∧ (kp2 (sg_up σ 3 (ni x1_) (σ 2 (ni x1_))) (x1_ + (1 : Int32))))))
theorem m_X2_beginProposal_b2 {s : List Int32} (k2 : sg_S → Int32 → sg_S) (kp2 : sg_S → Int32 → Prop) (hk2 : ∀ (σ : sg_S) (x1_ : Int32), kp2 σ x1_ → RtF bk fS s 56 2 [some (rf 1), some (.inl x1_)] [] σ (k2 σ x1_)) (σ : sg_S) (x1_ : Int32) (hp : p_X2_beginProposal_b2 kp2 σ x1_) : RtF bk fS s 56 2 [some (rf 1), some (.inl x1_)] [] σ (s_X2_beginProposal_b2 k2 σ x1_) := by
  unfold s_X2_beginProposal_b2
  unfold p_X2_beginProposal_b2 at hp
  refine rt_ln rfl rfl ?_
  refine rt_k2 rfl ck2_50 ?_
  refine rt_ic rfl rfl (fun h => ?_) (fun h => ?_)
  · exact rt_eS rfl
  · replace hp := hp h
    refine rt_lna rfl rfl ?_
    refine rt_gfr rfl Kq_1 (by decide) rfl ?_
    refine rt_ln rfl rfl ?_
    refine rt_lna rfl rfl ?_
    refine rt_gfr rfl Kq_1 (by decide) rfl ?_
    refine rt_ln rfl rfl ?_
    refine rt_al rfl Kq_2 hp.1 rfl ?_
    replace hp := hp.2
    refine rt_as (k0 := (ni x1_)) (σ1 := (sg_up σ 3 (ni x1_) (σ 2 (ni x1_)))) rfl Kq_3 hp.1 rfl rfl ?_
    replace hp := hp.2
    refine rt_inc (la1 := [some (rf 1), some (.inl (x1_ + (1 : Int32)))]) rfl rfl ck1_1 rfl ?_
    refine rt_go rfl ?_
    exact hk2 (sg_up σ 3 (ni x1_) (σ 2 (ni x1_))) (x1_ + (1 : Int32)) hp
noncomputable def s_X2_beginProposal_l2 (n : Nat) : sg_S → Int32 → sg_S := Nat.rec (motive := fun _ => sg_S → Int32 → sg_S) (fun σ _ => σ) (fun _ ih => s_X2_beginProposal_b2 ih) n
noncomputable def p_X2_beginProposal_l2 (n : Nat) : sg_S → Int32 → Prop := Nat.rec (motive := fun _ => sg_S → Int32 → Prop) (fun _ _ => False) (fun _ ih => p_X2_beginProposal_b2 ih) n
theorem m_X2_beginProposal_l2 {s : List Int32} : ∀ (n : Nat), ∀ (σ : sg_S) (x1_ : Int32), p_X2_beginProposal_l2 n σ x1_ → RtF bk fS s 56 2 [some (rf 1), some (.inl x1_)] [] σ (s_X2_beginProposal_l2 n σ x1_) := by
  intro n
  induction n with
  | zero =>
    intro σ x1_ hp
    exact hp.elim
  | succ n ih =>
    intro σ x1_ hp
    exact m_X2_beginProposal_b2 (s_X2_beginProposal_l2 n) (p_X2_beginProposal_l2 n) ih σ x1_ hp
noncomputable def s_X2_beginProposal (σ : sg_S) : sg_S := (s_X2_beginProposal_l2 600 σ (0 : Int32))
noncomputable def p_X2_beginProposal (σ : sg_S) : Prop := (p_X2_beginProposal_l2 600 σ (0 : Int32))
theorem m_X2_beginProposal {s : List Int32} {σ : sg_S} (hp : p_X2_beginProposal σ) : Ct s 56 [rf 1] σ [] (s_X2_beginProposal σ) := by
  refine ct_v (la := [some (rf 1), none]) Kq_1 rfl rfl rfl rfl rfl rfl rfl (cgS ?_)
  unfold s_X2_beginProposal
  unfold p_X2_beginProposal at hp
  refine rt_k1 rfl ck1_0 ?_
  refine rt_sn (la1 := [some (rf 1), some (.inl (0 : Int32))]) rfl rfl rfl ?_
  exact m_X2_beginProposal_l2 600 σ (0 : Int32) hp
noncomputable def s_X2_propose (σ : sg_S) (x0 : Int32) (x1 : Int32) (x2 : Int32) : sg_S := (if x0 < 0 then σ else (if (10 : Int32) ≤ x0 then σ else (if x1 < (1 : Int32) then σ else (if (5 : Int32) ≤ x1 then σ else (sg_up σ 3 (ni (((5 : Int32) * x0) + x1)) x2)))))
noncomputable def p_X2_propose (x0 : Int32) (x1 : Int32) (x2 : Int32) : Prop := (¬ (x0 < 0) → (¬ ((10 : Int32) ≤ x0) → (¬ (x1 < (1 : Int32)) → (¬ ((5 : Int32) ≤ x1) → ix (((5 : Int32) * x0) + x1) 50))))
theorem m_X2_propose {s : List Int32} {σ : sg_S} (x0 : Int32) (x1 : Int32) (x2 : Int32) (hp : p_X2_propose x0 x1 x2) : Ct s 57 [rf 1, .inl x0, .inl x1, .inl x2] σ [] (s_X2_propose σ x0 x1 x2) := by
  refine ct_v (la := [some (rf 1), some (.inl x0), some (.inl x1), some (.inl x2)]) Kq_1 rfl rfl rfl rfl rfl rfl rfl (cgS ?_)
  unfold s_X2_propose
  unfold p_X2_propose at hp
  refine rt_ln rfl rfl ?_
  refine rt_if rfl rfl (fun h => ?_) (fun h => ?_)
  · exact rt_eS rfl
  · replace hp := hp h
    refine rt_ln rfl rfl ?_
    refine rt_k2 rfl ck2_10 ?_
    refine rt_ic rfl rfl (fun h => ?_) (fun h => ?_)
    · exact rt_eS rfl
    · replace hp := hp h
      refine rt_ln rfl rfl ?_
      refine rt_k1 rfl ck1_1 ?_
      refine rt_ic rfl rfl (fun h => ?_) (fun h => ?_)
      · exact rt_eS rfl
      · replace hp := hp h
        refine rt_ln rfl rfl ?_
        refine rt_k1 rfl ck1_5 ?_
        refine rt_ic rfl rfl (fun h => ?_) (fun h => ?_)
        · exact rt_eS rfl
        · replace hp := hp h
          refine rt_lna rfl rfl ?_
          refine rt_gfr rfl Kq_1 (by decide) rfl ?_
          refine rt_k1 rfl ck1_5 ?_
          refine rt_ln rfl rfl ?_
          refine rt_mul rfl ?_
          refine rt_ln rfl rfl ?_
          refine rt_add rfl ?_
          refine rt_ln rfl rfl ?_
          refine rt_as (k0 := (ni (((5 : Int32) * x0) + x1))) (σ1 := (sg_up σ 3 (ni (((5 : Int32) * x0) + x1)) x2)) rfl Kq_3 hp rfl rfl ?_
          exact rt_eS rfl
noncomputable def v_X2_proposalHolds_a33 (σ : sg_S) (k2 : Int32 → Int32) (x1_ : Int32) : Int32 := (if x1_ < (5 : Int32) then (k2 (x1_ + (1 : Int32))) else (if (σ 3 (ni x1_)) ≤ (σ 3 (ni (x1_ - (5 : Int32)))) then (k2 (x1_ + (1 : Int32))) else (0 : Int32)))
noncomputable def p_X2_proposalHolds_a33 (σ : sg_S) (kp2 : Int32 → Prop) (x1_ : Int32) : Prop := ((x1_ < (5 : Int32) → (kp2 (x1_ + (1 : Int32)))) ∧ (¬ (x1_ < (5 : Int32)) → (ix x1_ 50 ∧ (ix (x1_ - (5 : Int32)) 50 ∧ ((σ 3 (ni x1_)) ≤ (σ 3 (ni (x1_ - (5 : Int32)))) → (kp2 (x1_ + (1 : Int32))))))))
theorem m_X2_proposalHolds_a33 {s : List Int32} {σ : sg_S} (k2 : Int32 → Int32) (kp2 : Int32 → Prop) (hk2 : ∀ (x1_ : Int32), kp2 x1_ → RtF bk (fV σ) s 58 2 [some (rf 1), some (.inl x1_)] [] σ (k2 x1_)) (x1_ : Int32) (hp : p_X2_proposalHolds_a33 σ kp2 x1_) : RtF bk (fV σ) s 58 33 [some (rf 1), some (.inl x1_)] [] σ (v_X2_proposalHolds_a33 σ k2 x1_) := by
  unfold v_X2_proposalHolds_a33
  unfold p_X2_proposalHolds_a33 at hp
  refine rt_ln rfl rfl ?_
  refine rt_k1 rfl ck1_5 ?_
  refine rt_ic rfl rfl (fun h => ?_) (fun h => ?_)
  · replace hp := hp.1 h
    refine rt_inc (la1 := [some (rf 1), some (.inl (x1_ + (1 : Int32)))]) rfl rfl ck1_1 rfl ?_
    refine rt_go rfl ?_
    exact hk2 (x1_ + (1 : Int32)) hp
  · replace hp := hp.2 h
    refine rt_lna rfl rfl ?_
    refine rt_gfr rfl Kq_1 (by decide) rfl ?_
    refine rt_ln rfl rfl ?_
    refine rt_al rfl Kq_3 hp.1 rfl ?_
    replace hp := hp.2
    refine rt_lna rfl rfl ?_
    refine rt_gfr rfl Kq_1 (by decide) rfl ?_
    refine rt_ln rfl rfl ?_
    refine rt_k1 rfl ck1_5 ?_
    refine rt_sub rfl ?_
    refine rt_al rfl Kq_3 hp.1 rfl ?_
    replace hp := hp.2
    refine rt_ic rfl rfl (fun h => ?_) (fun h => ?_)
    · replace hp := hp h
      refine rt_inc (la1 := [some (rf 1), some (.inl (x1_ + (1 : Int32)))]) rfl rfl ck1_1 rfl ?_
      refine rt_go rfl ?_
      exact hk2 (x1_ + (1 : Int32)) hp
    · refine rt_k1 rfl ck1_0 ?_
      exact rt_eVb rfl (Or.inl rfl)
noncomputable def v_X2_proposalHolds_b2 (σ : sg_S) (k2 : Int32 → Int32) (x1_ : Int32) : Int32 := (if (50 : Int32) ≤ x1_ then (1 : Int32) else (if (rm x1_ (5 : Int32)) ≤ 0 then (v_X2_proposalHolds_a33 σ k2 x1_) else (if (σ 3 (ni (x1_ - (1 : Int32)))) ≤ (σ 3 (ni x1_)) then (v_X2_proposalHolds_a33 σ k2 x1_) else (0 : Int32))))
noncomputable def p_X2_proposalHolds_b2 (σ : sg_S) (kp2 : Int32 → Prop) (x1_ : Int32) : Prop := (¬ ((50 : Int32) ≤ x1_) → (((rm x1_ (5 : Int32)) ≤ 0 → (p_X2_proposalHolds_a33 σ kp2 x1_)) ∧ (¬ ((rm x1_ (5 : Int32)) ≤ 0) → (ix x1_ 50 ∧ (ix (x1_ - (1 : Int32)) 50 ∧ ((σ 3 (ni (x1_ - (1 : Int32)))) ≤ (σ 3 (ni x1_)) → (p_X2_proposalHolds_a33 σ kp2 x1_)))))))
theorem m_X2_proposalHolds_b2 {s : List Int32} {σ : sg_S} (k2 : Int32 → Int32) (kp2 : Int32 → Prop) (hk2 : ∀ (x1_ : Int32), kp2 x1_ → RtF bk (fV σ) s 58 2 [some (rf 1), some (.inl x1_)] [] σ (k2 x1_)) (x1_ : Int32) (hp : p_X2_proposalHolds_b2 σ kp2 x1_) : RtF bk (fV σ) s 58 2 [some (rf 1), some (.inl x1_)] [] σ (v_X2_proposalHolds_b2 σ k2 x1_) := by
  unfold v_X2_proposalHolds_b2
  unfold p_X2_proposalHolds_b2 at hp
  refine rt_ln rfl rfl ?_
  refine rt_k2 rfl ck2_50 ?_
  refine rt_ic rfl rfl (fun h => ?_) (fun h => ?_)
  · refine rt_k1 rfl ck1_1 ?_
    exact rt_eVb rfl (Or.inr rfl)
  · replace hp := hp h
    refine rt_ln rfl rfl ?_
    refine rt_k1 rfl ck1_5 ?_
    refine rt_rem rfl (by decide) ?_
    refine rt_if rfl rfl (fun h => ?_) (fun h => ?_)
    · replace hp := hp.1 h
      exact m_X2_proposalHolds_a33 k2 kp2 hk2 x1_ hp
    · replace hp := hp.2 h
      refine rt_lna rfl rfl ?_
      refine rt_gfr rfl Kq_1 (by decide) rfl ?_
      refine rt_ln rfl rfl ?_
      refine rt_al rfl Kq_3 hp.1 rfl ?_
      replace hp := hp.2
      refine rt_lna rfl rfl ?_
      refine rt_gfr rfl Kq_1 (by decide) rfl ?_
      refine rt_ln rfl rfl ?_
      refine rt_k1 rfl ck1_1 ?_
      refine rt_sub rfl ?_
      refine rt_al rfl Kq_3 hp.1 rfl ?_
      replace hp := hp.2
      refine rt_ic rfl rfl (fun h => ?_) (fun h => ?_)
      · replace hp := hp h
        exact m_X2_proposalHolds_a33 k2 kp2 hk2 x1_ hp
      · refine rt_k1 rfl ck1_0 ?_
        exact rt_eVb rfl (Or.inl rfl)
noncomputable def v_X2_proposalHolds_l2 (σ : sg_S) (n : Nat) : Int32 → Int32 := Nat.rec (motive := fun _ => Int32 → Int32) (fun _ => 0) (fun _ ih => v_X2_proposalHolds_b2 σ ih) n
noncomputable def p_X2_proposalHolds_l2 (σ : sg_S) (n : Nat) : Int32 → Prop := Nat.rec (motive := fun _ => Int32 → Prop) (fun _ => False) (fun _ ih => p_X2_proposalHolds_b2 σ ih) n
theorem m_X2_proposalHolds_l2 {s : List Int32} {σ : sg_S} : ∀ (n : Nat), ∀ (x1_ : Int32), p_X2_proposalHolds_l2 σ n x1_ → RtF bk (fV σ) s 58 2 [some (rf 1), some (.inl x1_)] [] σ (v_X2_proposalHolds_l2 σ n x1_) := by
  intro n
  induction n with
  | zero =>
    intro x1_ hp
    exact hp.elim
  | succ n ih =>
    intro x1_ hp
    exact m_X2_proposalHolds_b2 (v_X2_proposalHolds_l2 σ n) (p_X2_proposalHolds_l2 σ n) ih x1_ hp
noncomputable def v_X2_proposalHolds (σ : sg_S) : Int32 := (v_X2_proposalHolds_l2 σ 600 (0 : Int32))
noncomputable def p_X2_proposalHolds (σ : sg_S) : Prop := (p_X2_proposalHolds_l2 σ 600 (0 : Int32))
theorem m_X2_proposalHolds {s : List Int32} {σ : sg_S} (hp : p_X2_proposalHolds σ) : Ct s 58 [rf 1] σ [.inl (v_X2_proposalHolds σ)] σ := by
  refine ct_v (la := [some (rf 1), none]) Kq_1 rfl rfl rfl rfl rfl rfl rfl (cgV ?_)
  unfold v_X2_proposalHolds
  unfold p_X2_proposalHolds at hp
  refine rt_k1 rfl ck1_0 ?_
  refine rt_sn (la1 := [some (rf 1), some (.inl (0 : Int32))]) rfl rfl rfl ?_
  exact m_X2_proposalHolds_l2 600 (0 : Int32) hp
noncomputable def s_X2_adoptProposal_b2 (k2 : sg_S → Int32 → sg_S) (σ : sg_S) (x1_ : Int32) : sg_S := (if (50 : Int32) ≤ x1_ then σ else (k2 (sg_up σ 2 (ni x1_) (σ 3 (ni x1_))) (x1_ + (1 : Int32))))
noncomputable def p_X2_adoptProposal_b2 (kp2 : sg_S → Int32 → Prop) (σ : sg_S) (x1_ : Int32) : Prop := (¬ ((50 : Int32) ≤ x1_) → (ix x1_ 50 ∧ (ix x1_ 50 ∧ (kp2 (sg_up σ 2 (ni x1_) (σ 3 (ni x1_))) (x1_ + (1 : Int32))))))
theorem m_X2_adoptProposal_b2 {s : List Int32} (k2 : sg_S → Int32 → sg_S) (kp2 : sg_S → Int32 → Prop) (hk2 : ∀ (σ : sg_S) (x1_ : Int32), kp2 σ x1_ → RtF bk fS s 59 2 [some (rf 1), some (.inl x1_)] [] σ (k2 σ x1_)) (σ : sg_S) (x1_ : Int32) (hp : p_X2_adoptProposal_b2 kp2 σ x1_) : RtF bk fS s 59 2 [some (rf 1), some (.inl x1_)] [] σ (s_X2_adoptProposal_b2 k2 σ x1_) := by
  unfold s_X2_adoptProposal_b2
  unfold p_X2_adoptProposal_b2 at hp
  refine rt_ln rfl rfl ?_
  refine rt_k2 rfl ck2_50 ?_
  refine rt_ic rfl rfl (fun h => ?_) (fun h => ?_)
  · exact rt_eS rfl
  · replace hp := hp h
    refine rt_lna rfl rfl ?_
    refine rt_gfr rfl Kq_1 (by decide) rfl ?_
    refine rt_ln rfl rfl ?_
    refine rt_lna rfl rfl ?_
    refine rt_gfr rfl Kq_1 (by decide) rfl ?_
    refine rt_ln rfl rfl ?_
    refine rt_al rfl Kq_3 hp.1 rfl ?_
    replace hp := hp.2
    refine rt_as (k0 := (ni x1_)) (σ1 := (sg_up σ 2 (ni x1_) (σ 3 (ni x1_)))) rfl Kq_2 hp.1 rfl rfl ?_
    replace hp := hp.2
    refine rt_inc (la1 := [some (rf 1), some (.inl (x1_ + (1 : Int32)))]) rfl rfl ck1_1 rfl ?_
    refine rt_go rfl ?_
    exact hk2 (sg_up σ 2 (ni x1_) (σ 3 (ni x1_))) (x1_ + (1 : Int32)) hp
noncomputable def s_X2_adoptProposal_l2 (n : Nat) : sg_S → Int32 → sg_S := Nat.rec (motive := fun _ => sg_S → Int32 → sg_S) (fun σ _ => σ) (fun _ ih => s_X2_adoptProposal_b2 ih) n
noncomputable def p_X2_adoptProposal_l2 (n : Nat) : sg_S → Int32 → Prop := Nat.rec (motive := fun _ => sg_S → Int32 → Prop) (fun _ _ => False) (fun _ ih => p_X2_adoptProposal_b2 ih) n
theorem m_X2_adoptProposal_l2 {s : List Int32} : ∀ (n : Nat), ∀ (σ : sg_S) (x1_ : Int32), p_X2_adoptProposal_l2 n σ x1_ → RtF bk fS s 59 2 [some (rf 1), some (.inl x1_)] [] σ (s_X2_adoptProposal_l2 n σ x1_) := by
  intro n
  induction n with
  | zero =>
    intro σ x1_ hp
    exact hp.elim
  | succ n ih =>
    intro σ x1_ hp
    exact m_X2_adoptProposal_b2 (s_X2_adoptProposal_l2 n) (p_X2_adoptProposal_l2 n) ih σ x1_ hp
noncomputable def s_X2_adoptProposal (σ : sg_S) : sg_S := (s_X2_adoptProposal_l2 600 σ (0 : Int32))
noncomputable def p_X2_adoptProposal (σ : sg_S) : Prop := (p_X2_adoptProposal_l2 600 σ (0 : Int32))
theorem m_X2_adoptProposal {s : List Int32} {σ : sg_S} (hp : p_X2_adoptProposal σ) : Ct s 59 [rf 1] σ [] (s_X2_adoptProposal σ) := by
  refine ct_v (la := [some (rf 1), none]) Kq_1 rfl rfl rfl rfl rfl rfl rfl (cgS ?_)
  unfold s_X2_adoptProposal
  unfold p_X2_adoptProposal at hp
  refine rt_k1 rfl ck1_0 ?_
  refine rt_sn (la1 := [some (rf 1), some (.inl (0 : Int32))]) rfl rfl rfl ?_
  exact m_X2_adoptProposal_l2 600 σ (0 : Int32) hp
noncomputable def t_X3_append_0 (σ : sg_S) (x1_ : Int32) (x2_ : Int32) : sg_S := (sg_up σ 6 (ni (σ 5 1)) ((ip_bI 7 x1_ x2_) &&& (255 : Int32)))
noncomputable def t_X3_append_1 (σ : sg_S) (x1_ : Int32) (x2_ : Int32) : sg_S := (sg_up (t_X3_append_0 σ x1_ x2_) 5 1 (((t_X3_append_0 σ x1_ x2_) 5 1) + (1 : Int32)))
noncomputable def s_X3_append_b3 (k3 : sg_S → Int32 → Int32 → sg_S) (σ : sg_S) (x1_ : Int32) (x2_ : Int32) : sg_S := (if x2_ < 0 then σ else (if (σ 5 1) < 0 then (k3 σ x1_ (x2_ + (-8 : Int32))) else (if (500 : Int32) ≤ (σ 5 1) then (k3 σ x1_ (x2_ + (-8 : Int32))) else (k3 (t_X3_append_1 σ x1_ x2_) x1_ (x2_ + (-8 : Int32))))))
noncomputable def p_X3_append_b3 (kp3 : sg_S → Int32 → Int32 → Prop) (σ : sg_S) (x1_ : Int32) (x2_ : Int32) : Prop := (¬ (x2_ < 0) → (((σ 5 1) < 0 → (kp3 σ x1_ (x2_ + (-8 : Int32)))) ∧ (¬ ((σ 5 1) < 0) → (((500 : Int32) ≤ (σ 5 1) → (kp3 σ x1_ (x2_ + (-8 : Int32)))) ∧ (¬ ((500 : Int32) ≤ (σ 5 1)) → (ix (σ 5 1) 500 ∧ (kp3 (t_X3_append_1 σ x1_ x2_) x1_ (x2_ + (-8 : Int32)))))))))
theorem m_X3_append_b3 {s : List Int32} (k3 : sg_S → Int32 → Int32 → sg_S) (kp3 : sg_S → Int32 → Int32 → Prop) (hk3 : ∀ (σ : sg_S) (x1_ : Int32) (x2_ : Int32), kp3 σ x1_ x2_ → RtF bk fS s 61 3 [some (rf 5), some (.inl x1_), some (.inl x2_)] [] σ (k3 σ x1_ x2_)) (σ : sg_S) (x1_ : Int32) (x2_ : Int32) (hp : p_X3_append_b3 kp3 σ x1_ x2_) : RtF bk fS s 61 3 [some (rf 5), some (.inl x1_), some (.inl x2_)] [] σ (s_X3_append_b3 k3 σ x1_ x2_) := by
  unfold s_X3_append_b3
  unfold p_X3_append_b3 at hp
  refine rt_ln rfl rfl ?_
  refine rt_if rfl rfl (fun h => ?_) (fun h => ?_)
  · exact rt_eS rfl
  · replace hp := hp h
    refine rt_lna rfl rfl ?_
    refine rt_gfi rfl Kq_5 (by decide) rfl rfl ?_
    refine rt_if rfl rfl (fun h => ?_) (fun h => ?_)
    · replace hp := hp.1 h
      refine rt_inc (la1 := [some (rf 5), some (.inl x1_), some (.inl (x2_ + (-8 : Int32)))]) rfl rfl ck1_m8 rfl ?_
      refine rt_go rfl ?_
      exact hk3 σ x1_ (x2_ + (-8 : Int32)) hp
    · replace hp := hp.2 h
      refine rt_lna rfl rfl ?_
      refine rt_gfi rfl Kq_5 (by decide) rfl rfl ?_
      refine rt_k3 rfl ck3_500 ?_
      refine rt_ic rfl rfl (fun h => ?_) (fun h => ?_)
      · replace hp := hp.1 h
        refine rt_inc (la1 := [some (rf 5), some (.inl x1_), some (.inl (x2_ + (-8 : Int32)))]) rfl rfl ck1_m8 rfl ?_
        refine rt_go rfl ?_
        exact hk3 σ x1_ (x2_ + (-8 : Int32)) hp
      · replace hp := hp.2 h
        refine rt_lna rfl rfl ?_
        refine rt_gfr rfl Kq_5 (by decide) rfl ?_
        refine rt_lna rfl rfl ?_
        refine rt_gfi rfl Kq_5 (by decide) rfl rfl ?_
        refine rt_ln rfl rfl ?_
        refine rt_ln rfl rfl ?_
        refine rt_ushr rfl ?_
        refine rt_k3 rfl ck3_255 ?_
        refine rt_and rfl ?_
        refine rt_as (k0 := (ni (σ 5 1))) (σ1 := (t_X3_append_0 σ x1_ x2_)) rfl Kq_6 hp.1 rfl rfl ?_
        replace hp := hp.2
        refine rt_lna rfl rfl ?_
        refine rt_dup rfl rfl ?_
        refine rt_gfi rfl Kq_5 (by decide) rfl rfl ?_
        refine rt_k1 rfl ck1_1 ?_
        refine rt_add rfl ?_
        refine rt_pf (σ1 := (t_X3_append_1 σ x1_ x2_)) rfl Kq_5 (by decide) rfl rfl rfl ?_
        refine rt_inc (la1 := [some (rf 5), some (.inl x1_), some (.inl (x2_ + (-8 : Int32)))]) rfl rfl ck1_m8 rfl ?_
        refine rt_go rfl ?_
        exact hk3 (t_X3_append_1 σ x1_ x2_) x1_ (x2_ + (-8 : Int32)) hp
noncomputable def s_X3_append_l3 (n : Nat) : sg_S → Int32 → Int32 → sg_S := Nat.rec (motive := fun _ => sg_S → Int32 → Int32 → sg_S) (fun σ _ _ => σ) (fun _ ih => s_X3_append_b3 ih) n
noncomputable def p_X3_append_l3 (n : Nat) : sg_S → Int32 → Int32 → Prop := Nat.rec (motive := fun _ => sg_S → Int32 → Int32 → Prop) (fun _ _ _ => False) (fun _ ih => p_X3_append_b3 ih) n
theorem m_X3_append_l3 {s : List Int32} : ∀ (n : Nat), ∀ (σ : sg_S) (x1_ : Int32) (x2_ : Int32), p_X3_append_l3 n σ x1_ x2_ → RtF bk fS s 61 3 [some (rf 5), some (.inl x1_), some (.inl x2_)] [] σ (s_X3_append_l3 n σ x1_ x2_) := by
  intro n
  induction n with
  | zero =>
    intro σ x1_ x2_ hp
    exact hp.elim
  | succ n ih =>
    intro σ x1_ x2_ hp
    exact m_X3_append_b3 (s_X3_append_l3 n) (p_X3_append_l3 n) ih σ x1_ x2_ hp
noncomputable def s_X3_append (σ : sg_S) (x0 : Int32) : sg_S := (s_X3_append_l3 600 σ x0 (24 : Int32))
noncomputable def p_X3_append (σ : sg_S) (x0 : Int32) : Prop := (p_X3_append_l3 600 σ x0 (24 : Int32))
theorem m_X3_append {s : List Int32} {σ : sg_S} (x0 : Int32) (hp : p_X3_append σ x0) : Ct s 61 [rf 5, .inl x0] σ [] (s_X3_append σ x0) := by
  refine ct_v (la := [some (rf 5), some (.inl x0), none]) Kq_5 rfl rfl rfl rfl rfl rfl rfl (cgS ?_)
  unfold s_X3_append
  unfold p_X3_append at hp
  refine rt_k2 rfl ck2_24 ?_
  refine rt_sn (la1 := [some (rf 5), some (.inl x0), some (.inl (24 : Int32))]) rfl rfl rfl ?_
  exact m_X3_append_l3 600 σ x0 (24 : Int32) hp
noncomputable def v_X3_byteAt (σ : sg_S) (x0 : Int32) : Int32 := (if x0 < 0 then (-1 : Int32) else (if (σ 5 1) ≤ x0 then (-1 : Int32) else (if (500 : Int32) ≤ x0 then (-1 : Int32) else (σ 6 (ni x0)))))
noncomputable def p_X3_byteAt (σ : sg_S) (x0 : Int32) : Prop := (¬ (x0 < 0) → (¬ ((σ 5 1) ≤ x0) → (¬ ((500 : Int32) ≤ x0) → ix x0 500)))
theorem m_X3_byteAt {s : List Int32} {σ : sg_S} (x0 : Int32) (hp : p_X3_byteAt σ x0) : Ct s 62 [rf 5, .inl x0] σ [.inl (v_X3_byteAt σ x0)] σ := by
  refine ct_v (la := [some (rf 5), some (.inl x0)]) Kq_5 rfl rfl rfl rfl rfl rfl rfl (cgV ?_)
  unfold v_X3_byteAt
  unfold p_X3_byteAt at hp
  refine rt_ln rfl rfl ?_
  refine rt_if rfl rfl (fun h => ?_) (fun h => ?_)
  · refine rt_k1 rfl ck1_m1 ?_
    exact rt_eV rfl
  · replace hp := hp h
    refine rt_ln rfl rfl ?_
    refine rt_lna rfl rfl ?_
    refine rt_gfi rfl Kq_5 (by decide) rfl rfl ?_
    refine rt_ic rfl rfl (fun h => ?_) (fun h => ?_)
    · refine rt_k1 rfl ck1_m1 ?_
      exact rt_eV rfl
    · replace hp := hp h
      refine rt_ln rfl rfl ?_
      refine rt_k3 rfl ck3_500 ?_
      refine rt_ic rfl rfl (fun h => ?_) (fun h => ?_)
      · refine rt_k1 rfl ck1_m1 ?_
        exact rt_eV rfl
      · replace hp := hp h
        refine rt_lna rfl rfl ?_
        refine rt_gfr rfl Kq_5 (by decide) rfl ?_
        refine rt_ln rfl rfl ?_
        refine rt_al rfl Kq_6 hp rfl ?_
        refine rt_go rfl ?_
        exact rt_eV rfl
noncomputable def t_X3_rewind_0 (σ : sg_S) : sg_S := (sg_up (sg_up σ 5 2 (0 : Int32)) 5 4 (0 : Int32))
noncomputable def s_X3_rewind (σ : sg_S) : sg_S := (t_X3_rewind_0 σ)
theorem m_X3_rewind {s : List Int32} {σ : sg_S} : Ct s 63 [rf 5] σ [] (s_X3_rewind σ) := by
  refine ct_v (la := [some (rf 5)]) Kq_5 rfl rfl rfl rfl rfl rfl rfl (cgS ?_)
  unfold s_X3_rewind
  refine rt_lna rfl rfl ?_
  refine rt_k1 rfl ck1_0 ?_
  refine rt_pf (σ1 := (sg_up σ 5 2 (0 : Int32))) rfl Kq_5 (by decide) rfl rfl rfl ?_
  refine rt_lna rfl rfl ?_
  refine rt_k1 rfl ck1_0 ?_
  refine rt_pf (σ1 := (t_X3_rewind_0 σ)) rfl Kq_5 (by decide) rfl rfl rfl ?_
  exact rt_eS rfl
noncomputable def r_X3_seek_b0 (k0 : sg_S → Int32 × sg_S) (σ : sg_S) : Int32 × sg_S := (if (σ 5 1) ≤ (σ 5 4) then (if ((sg_up σ 5 2 (σ 5 4)) 5 1) ≤ ((sg_up σ 5 2 (σ 5 4)) 5 2) then ((0 : Int32), (sg_up σ 5 2 (σ 5 4))) else ((1 : Int32), (sg_up σ 5 2 (σ 5 4)))) else (if (v_X3_byteAt σ (σ 5 4)) = (32 : Int32) then (k0 (sg_up σ 5 4 ((σ 5 4) + (1 : Int32)))) else (if ¬ (v_X3_byteAt σ (σ 5 4)) = (10 : Int32) then (if ((sg_up σ 5 2 (σ 5 4)) 5 1) ≤ ((sg_up σ 5 2 (σ 5 4)) 5 2) then ((0 : Int32), (sg_up σ 5 2 (σ 5 4))) else ((1 : Int32), (sg_up σ 5 2 (σ 5 4)))) else (k0 (sg_up σ 5 4 ((σ 5 4) + (1 : Int32)))))))
noncomputable def p_X3_seek_b0 (kp0 : sg_S → Prop) (σ : sg_S) : Prop := (¬ ((σ 5 1) ≤ (σ 5 4)) → (p_X3_byteAt σ (σ 5 4) ∧ (((v_X3_byteAt σ (σ 5 4)) = (32 : Int32) → (kp0 (sg_up σ 5 4 ((σ 5 4) + (1 : Int32))))) ∧ (¬ ((v_X3_byteAt σ (σ 5 4)) = (32 : Int32)) → (p_X3_byteAt σ (σ 5 4) ∧ (¬ (¬ (v_X3_byteAt σ (σ 5 4)) = (10 : Int32)) → (kp0 (sg_up σ 5 4 ((σ 5 4) + (1 : Int32))))))))))
theorem m_X3_seek_b0 {s : List Int32} (k0 : sg_S → Int32 × sg_S) (kp0 : sg_S → Prop) (hk0 : ∀ (σ : sg_S), kp0 σ → RtF bk fR s 64 0 [some (rf 5)] [] σ (k0 σ)) (σ : sg_S) (hp : p_X3_seek_b0 kp0 σ) : RtF bk fR s 64 0 [some (rf 5)] [] σ (r_X3_seek_b0 k0 σ) := by
  unfold r_X3_seek_b0
  unfold p_X3_seek_b0 at hp
  refine rt_lna rfl rfl ?_
  refine rt_gfi rfl Kq_5 (by decide) rfl rfl ?_
  refine rt_lna rfl rfl ?_
  refine rt_gfi rfl Kq_5 (by decide) rfl rfl ?_
  refine rt_ic rfl rfl (fun h => ?_) (fun h => ?_)
  · refine rt_lna rfl rfl ?_
    refine rt_lna rfl rfl ?_
    refine rt_gfi rfl Kq_5 (by decide) rfl rfl ?_
    refine rt_pf (σ1 := (sg_up σ 5 2 (σ 5 4))) rfl Kq_5 (by decide) rfl rfl rfl ?_
    refine rt_lna rfl rfl ?_
    refine rt_gfi rfl Kq_5 (by decide) rfl rfl ?_
    refine rt_lna rfl rfl ?_
    refine rt_gfi rfl Kq_5 (by decide) rfl rfl ?_
    refine rt_ic rfl rfl (fun h => ?_) (fun h => ?_)
    · refine rt_k1 rfl ck1_0 ?_
      exact rt_eRb rfl (Or.inl rfl)
    · refine rt_k1 rfl ck1_1 ?_
      refine rt_go rfl ?_
      exact rt_eRb rfl (Or.inr rfl)
  · replace hp := hp h
    refine rt_lna rfl rfl ?_
    refine rt_lna rfl rfl ?_
    refine rt_gfi rfl Kq_5 (by decide) rfl rfl ?_
    refine rt_iv (σ1 := σ) rfl rfl rfl (m_X3_byteAt (σ 5 4) hp.1) ?_
    show RtF bk fR s 64 19 [some (rf 5)] [.inl (v_X3_byteAt σ (σ 5 4))] σ _
    replace hp := hp.2
    refine rt_k2 rfl ck2_32 ?_
    refine rt_ic rfl rfl (fun h => ?_) (fun h => ?_)
    · replace hp := hp.1 h
      refine rt_lna rfl rfl ?_
      refine rt_dup rfl rfl ?_
      refine rt_gfi rfl Kq_5 (by decide) rfl rfl ?_
      refine rt_k1 rfl ck1_1 ?_
      refine rt_add rfl ?_
      refine rt_pf (σ1 := (sg_up σ 5 4 ((σ 5 4) + (1 : Int32)))) rfl Kq_5 (by decide) rfl rfl rfl ?_
      refine rt_go rfl ?_
      exact hk0 (sg_up σ 5 4 ((σ 5 4) + (1 : Int32))) hp
    · replace hp := hp.2 h
      refine rt_lna rfl rfl ?_
      refine rt_lna rfl rfl ?_
      refine rt_gfi rfl Kq_5 (by decide) rfl rfl ?_
      refine rt_iv (σ1 := σ) rfl rfl rfl (m_X3_byteAt (σ 5 4) hp.1) ?_
      show RtF bk fR s 64 32 [some (rf 5)] [.inl (v_X3_byteAt σ (σ 5 4))] σ _
      replace hp := hp.2
      refine rt_k2 rfl ck2_10 ?_
      refine rt_ic rfl rfl (fun h => ?_) (fun h => ?_)
      · refine rt_lna rfl rfl ?_
        refine rt_lna rfl rfl ?_
        refine rt_gfi rfl Kq_5 (by decide) rfl rfl ?_
        refine rt_pf (σ1 := (sg_up σ 5 2 (σ 5 4))) rfl Kq_5 (by decide) rfl rfl rfl ?_
        refine rt_lna rfl rfl ?_
        refine rt_gfi rfl Kq_5 (by decide) rfl rfl ?_
        refine rt_lna rfl rfl ?_
        refine rt_gfi rfl Kq_5 (by decide) rfl rfl ?_
        refine rt_ic rfl rfl (fun h => ?_) (fun h => ?_)
        · refine rt_k1 rfl ck1_0 ?_
          exact rt_eRb rfl (Or.inl rfl)
        · refine rt_k1 rfl ck1_1 ?_
          refine rt_go rfl ?_
          exact rt_eRb rfl (Or.inr rfl)
      · replace hp := hp h
        refine rt_lna rfl rfl ?_
        refine rt_dup rfl rfl ?_
        refine rt_gfi rfl Kq_5 (by decide) rfl rfl ?_
        refine rt_k1 rfl ck1_1 ?_
        refine rt_add rfl ?_
        refine rt_pf (σ1 := (sg_up σ 5 4 ((σ 5 4) + (1 : Int32)))) rfl Kq_5 (by decide) rfl rfl rfl ?_
        refine rt_go rfl ?_
        exact hk0 (sg_up σ 5 4 ((σ 5 4) + (1 : Int32))) hp
noncomputable def r_X3_seek_l0 (n : Nat) : sg_S → Int32 × sg_S := Nat.rec (motive := fun _ => sg_S → Int32 × sg_S) (fun σ => (0, σ)) (fun _ ih => r_X3_seek_b0 ih) n
noncomputable def p_X3_seek_l0 (n : Nat) : sg_S → Prop := Nat.rec (motive := fun _ => sg_S → Prop) (fun _ => False) (fun _ ih => p_X3_seek_b0 ih) n
theorem m_X3_seek_l0 {s : List Int32} : ∀ (n : Nat), ∀ (σ : sg_S), p_X3_seek_l0 n σ → RtF bk fR s 64 0 [some (rf 5)] [] σ (r_X3_seek_l0 n σ) := by
  intro n
  induction n with
  | zero =>
    intro σ hp
    exact hp.elim
  | succ n ih =>
    intro σ hp
    exact m_X3_seek_b0 (r_X3_seek_l0 n) (p_X3_seek_l0 n) ih σ hp
noncomputable def r_X3_seek (σ : sg_S) : Int32 × sg_S := (r_X3_seek_l0 600 σ)
noncomputable def p_X3_seek (σ : sg_S) : Prop := (p_X3_seek_l0 600 σ)
theorem m_X3_seek {s : List Int32} {σ : sg_S} (hp : p_X3_seek σ) : Ct s 64 [rf 5] σ [.inl (r_X3_seek σ).1] (r_X3_seek σ).2 := by
  refine ct_v (la := [some (rf 5)]) Kq_5 rfl rfl rfl rfl rfl rfl rfl (cgR ?_)
  unfold r_X3_seek
  unfold p_X3_seek at hp
  exact m_X3_seek_l0 600 σ hp
noncomputable def r_X3_takeByte (σ : sg_S) : Int32 × sg_S := (if (σ 5 1) ≤ (σ 5 4) then ((v_X3_byteAt σ (σ 5 4)), σ) else ((v_X3_byteAt σ (σ 5 4)), (sg_up σ 5 4 ((σ 5 4) + (1 : Int32)))))
noncomputable def p_X3_takeByte (σ : sg_S) : Prop := p_X3_byteAt σ (σ 5 4)
theorem m_X3_takeByte {s : List Int32} {σ : sg_S} (hp : p_X3_takeByte σ) : Ct s 65 [rf 5] σ [.inl (r_X3_takeByte σ).1] (r_X3_takeByte σ).2 := by
  refine ct_v (la := [some (rf 5), none]) Kq_5 rfl rfl rfl rfl rfl rfl rfl (cgR ?_)
  unfold r_X3_takeByte
  unfold p_X3_takeByte at hp
  refine rt_lna rfl rfl ?_
  refine rt_lna rfl rfl ?_
  refine rt_gfi rfl Kq_5 (by decide) rfl rfl ?_
  refine rt_iv (σ1 := σ) rfl rfl rfl (m_X3_byteAt (σ 5 4) hp) ?_
  show RtF bk fR s 65 8 [some (rf 5), none] [.inl (v_X3_byteAt σ (σ 5 4))] σ _
  refine rt_sn (la1 := [some (rf 5), some (.inl (v_X3_byteAt σ (σ 5 4)))]) rfl rfl rfl ?_
  refine rt_lna rfl rfl ?_
  refine rt_gfi rfl Kq_5 (by decide) rfl rfl ?_
  refine rt_lna rfl rfl ?_
  refine rt_gfi rfl Kq_5 (by decide) rfl rfl ?_
  refine rt_ic rfl rfl (fun h => ?_) (fun h => ?_)
  · refine rt_ln rfl rfl ?_
    exact rt_eR rfl
  · refine rt_lna rfl rfl ?_
    refine rt_dup rfl rfl ?_
    refine rt_gfi rfl Kq_5 (by decide) rfl rfl ?_
    refine rt_k1 rfl ck1_1 ?_
    refine rt_add rfl ?_
    refine rt_pf (σ1 := (sg_up σ 5 4 ((σ 5 4) + (1 : Int32)))) rfl Kq_5 (by decide) rfl rfl rfl ?_
    refine rt_ln rfl rfl ?_
    exact rt_eR rfl
noncomputable def r_X3_readByte (σ : sg_S) (x0 : Int32) : Int32 × sg_S := (if (r_X3_seek σ).1 = 0 then ((0 : Int32), (r_X3_seek σ).2) else (if ¬ (r_X3_takeByte (r_X3_seek σ).2).1 = x0 then ((0 : Int32), (r_X3_takeByte (r_X3_seek σ).2).2) else ((1 : Int32), (r_X3_takeByte (r_X3_seek σ).2).2)))
noncomputable def p_X3_readByte (σ : sg_S) (x0 : Int32) : Prop := (p_X3_seek σ ∧ (¬ ((r_X3_seek σ).1 = 0) → p_X3_takeByte (r_X3_seek σ).2))
theorem m_X3_readByte {s : List Int32} {σ : sg_S} (x0 : Int32) (hp : p_X3_readByte σ x0) : Ct s 66 [rf 5, .inl x0] σ [.inl (r_X3_readByte σ x0).1] (r_X3_readByte σ x0).2 := by
  refine ct_v (la := [some (rf 5), some (.inl x0)]) Kq_5 rfl rfl rfl rfl rfl rfl rfl (cgR ?_)
  unfold r_X3_readByte
  unfold p_X3_readByte at hp
  refine rt_lna rfl rfl ?_
  refine rt_iv (σ1 := (r_X3_seek σ).2) rfl rfl rfl (m_X3_seek hp.1) ?_
  show RtF bk fR s 66 4 [some (rf 5), some (.inl x0)] [.inl (r_X3_seek σ).1] (r_X3_seek σ).2 _
  replace hp := hp.2
  refine rt_if rfl rfl (fun h => ?_) (fun h => ?_)
  · refine rt_k1 rfl ck1_0 ?_
    exact rt_eRb rfl (Or.inl rfl)
  · replace hp := hp h
    refine rt_lna rfl rfl ?_
    refine rt_iv (σ1 := (r_X3_takeByte (r_X3_seek σ).2).2) rfl rfl rfl (m_X3_takeByte hp) ?_
    show RtF bk fR s 66 11 [some (rf 5), some (.inl x0)] [.inl (r_X3_takeByte (r_X3_seek σ).2).1] (r_X3_takeByte (r_X3_seek σ).2).2 _
    refine rt_ln rfl rfl ?_
    refine rt_ic rfl rfl (fun h => ?_) (fun h => ?_)
    · refine rt_k1 rfl ck1_0 ?_
      exact rt_eRb rfl (Or.inl rfl)
    · refine rt_k1 rfl ck1_1 ?_
      refine rt_go rfl ?_
      exact rt_eRb rfl (Or.inr rfl)
noncomputable def r_X3_readRowWord_a59 (σ : sg_S) : Int32 × sg_S := (if ¬ ((σ 5 4) - (σ 5 2)) = (3 : Int32) then ((0 : Int32), σ) else (if ¬ (v_X3_byteAt σ (σ 5 2)) = (114 : Int32) then ((0 : Int32), σ) else (if ¬ (v_X3_byteAt σ ((σ 5 2) + (1 : Int32))) = (111 : Int32) then ((0 : Int32), σ) else (if ¬ (v_X3_byteAt σ ((σ 5 2) + (2 : Int32))) = (119 : Int32) then ((0 : Int32), σ) else ((1 : Int32), σ)))))
noncomputable def p_X3_readRowWord_a59 (σ : sg_S) : Prop := (¬ (¬ ((σ 5 4) - (σ 5 2)) = (3 : Int32)) → (p_X3_byteAt σ (σ 5 2) ∧ (¬ (¬ (v_X3_byteAt σ (σ 5 2)) = (114 : Int32)) → (p_X3_byteAt σ ((σ 5 2) + (1 : Int32)) ∧ (¬ (¬ (v_X3_byteAt σ ((σ 5 2) + (1 : Int32))) = (111 : Int32)) → p_X3_byteAt σ ((σ 5 2) + (2 : Int32)))))))
theorem m_X3_readRowWord_a59 {s : List Int32} (σ : sg_S) (hp : p_X3_readRowWord_a59 σ) : RtF bk fR s 67 59 [some (rf 5)] [] σ (r_X3_readRowWord_a59 σ) := by
  unfold r_X3_readRowWord_a59
  unfold p_X3_readRowWord_a59 at hp
  refine rt_lna rfl rfl ?_
  refine rt_gfi rfl Kq_5 (by decide) rfl rfl ?_
  refine rt_lna rfl rfl ?_
  refine rt_gfi rfl Kq_5 (by decide) rfl rfl ?_
  refine rt_sub rfl ?_
  refine rt_k1 rfl ck1_3 ?_
  refine rt_ic rfl rfl (fun h => ?_) (fun h => ?_)
  · refine rt_k1 rfl ck1_0 ?_
    exact rt_eRb rfl (Or.inl rfl)
  · replace hp := hp h
    refine rt_lna rfl rfl ?_
    refine rt_lna rfl rfl ?_
    refine rt_gfi rfl Kq_5 (by decide) rfl rfl ?_
    refine rt_iv (σ1 := σ) rfl rfl rfl (m_X3_byteAt (σ 5 2) hp.1) ?_
    show RtF bk fR s 67 80 [some (rf 5)] [.inl (v_X3_byteAt σ (σ 5 2))] σ _
    replace hp := hp.2
    refine rt_k2 rfl ck2_114 ?_
    refine rt_ic rfl rfl (fun h => ?_) (fun h => ?_)
    · refine rt_k1 rfl ck1_0 ?_
      exact rt_eRb rfl (Or.inl rfl)
    · replace hp := hp h
      refine rt_lna rfl rfl ?_
      refine rt_lna rfl rfl ?_
      refine rt_gfi rfl Kq_5 (by decide) rfl rfl ?_
      refine rt_k1 rfl ck1_1 ?_
      refine rt_add rfl ?_
      refine rt_iv (σ1 := σ) rfl rfl rfl (m_X3_byteAt ((σ 5 2) + (1 : Int32)) hp.1) ?_
      show RtF bk fR s 67 95 [some (rf 5)] [.inl (v_X3_byteAt σ ((σ 5 2) + (1 : Int32)))] σ _
      replace hp := hp.2
      refine rt_k2 rfl ck2_111 ?_
      refine rt_ic rfl rfl (fun h => ?_) (fun h => ?_)
      · refine rt_k1 rfl ck1_0 ?_
        exact rt_eRb rfl (Or.inl rfl)
      · replace hp := hp h
        refine rt_lna rfl rfl ?_
        refine rt_lna rfl rfl ?_
        refine rt_gfi rfl Kq_5 (by decide) rfl rfl ?_
        refine rt_k1 rfl ck1_2 ?_
        refine rt_add rfl ?_
        refine rt_iv (σ1 := σ) rfl rfl rfl (m_X3_byteAt ((σ 5 2) + (2 : Int32)) hp) ?_
        show RtF bk fR s 67 110 [some (rf 5)] [.inl (v_X3_byteAt σ ((σ 5 2) + (2 : Int32)))] σ _
        refine rt_k2 rfl ck2_119 ?_
        refine rt_ic rfl rfl (fun h => ?_) (fun h => ?_)
        · refine rt_k1 rfl ck1_0 ?_
          exact rt_eRb rfl (Or.inl rfl)
        · refine rt_k1 rfl ck1_1 ?_
          refine rt_go rfl ?_
          exact rt_eRb rfl (Or.inr rfl)
noncomputable def r_X3_readRowWord_b9 (k9 : sg_S → Int32 × sg_S) (σ : sg_S) : Int32 × sg_S := (if (σ 5 1) ≤ (σ 5 4) then (r_X3_readRowWord_a59 σ) else (if (v_X3_byteAt σ (σ 5 4)) < (97 : Int32) then (r_X3_readRowWord_a59 σ) else (if (122 : Int32) < (v_X3_byteAt σ (σ 5 4)) then (r_X3_readRowWord_a59 σ) else (k9 (sg_up σ 5 4 ((σ 5 4) + (1 : Int32)))))))
noncomputable def p_X3_readRowWord_b9 (kp9 : sg_S → Prop) (σ : sg_S) : Prop := (((σ 5 1) ≤ (σ 5 4) → (p_X3_readRowWord_a59 σ)) ∧ (¬ ((σ 5 1) ≤ (σ 5 4)) → (p_X3_byteAt σ (σ 5 4) ∧ (((v_X3_byteAt σ (σ 5 4)) < (97 : Int32) → (p_X3_readRowWord_a59 σ)) ∧ (¬ ((v_X3_byteAt σ (σ 5 4)) < (97 : Int32)) → (p_X3_byteAt σ (σ 5 4) ∧ (((122 : Int32) < (v_X3_byteAt σ (σ 5 4)) → (p_X3_readRowWord_a59 σ)) ∧ (¬ ((122 : Int32) < (v_X3_byteAt σ (σ 5 4))) → (kp9 (sg_up σ 5 4 ((σ 5 4) + (1 : Int32))))))))))))
theorem m_X3_readRowWord_b9 {s : List Int32} (k9 : sg_S → Int32 × sg_S) (kp9 : sg_S → Prop) (hk9 : ∀ (σ : sg_S), kp9 σ → RtF bk fR s 67 9 [some (rf 5)] [] σ (k9 σ)) (σ : sg_S) (hp : p_X3_readRowWord_b9 kp9 σ) : RtF bk fR s 67 9 [some (rf 5)] [] σ (r_X3_readRowWord_b9 k9 σ) := by
  unfold r_X3_readRowWord_b9
  unfold p_X3_readRowWord_b9 at hp
  refine rt_lna rfl rfl ?_
  refine rt_gfi rfl Kq_5 (by decide) rfl rfl ?_
  refine rt_lna rfl rfl ?_
  refine rt_gfi rfl Kq_5 (by decide) rfl rfl ?_
  refine rt_ic rfl rfl (fun h => ?_) (fun h => ?_)
  · replace hp := hp.1 h
    exact m_X3_readRowWord_a59 σ hp
  · replace hp := hp.2 h
    refine rt_lna rfl rfl ?_
    refine rt_lna rfl rfl ?_
    refine rt_gfi rfl Kq_5 (by decide) rfl rfl ?_
    refine rt_iv (σ1 := σ) rfl rfl rfl (m_X3_byteAt (σ 5 4) hp.1) ?_
    show RtF bk fR s 67 28 [some (rf 5)] [.inl (v_X3_byteAt σ (σ 5 4))] σ _
    replace hp := hp.2
    refine rt_k2 rfl ck2_97 ?_
    refine rt_ic rfl rfl (fun h => ?_) (fun h => ?_)
    · replace hp := hp.1 h
      exact m_X3_readRowWord_a59 σ hp
    · replace hp := hp.2 h
      refine rt_lna rfl rfl ?_
      refine rt_lna rfl rfl ?_
      refine rt_gfi rfl Kq_5 (by decide) rfl rfl ?_
      refine rt_iv (σ1 := σ) rfl rfl rfl (m_X3_byteAt (σ 5 4) hp.1) ?_
      show RtF bk fR s 67 41 [some (rf 5)] [.inl (v_X3_byteAt σ (σ 5 4))] σ _
      replace hp := hp.2
      refine rt_k2 rfl ck2_122 ?_
      refine rt_ic rfl rfl (fun h => ?_) (fun h => ?_)
      · replace hp := hp.1 h
        exact m_X3_readRowWord_a59 σ hp
      · replace hp := hp.2 h
        refine rt_lna rfl rfl ?_
        refine rt_dup rfl rfl ?_
        refine rt_gfi rfl Kq_5 (by decide) rfl rfl ?_
        refine rt_k1 rfl ck1_1 ?_
        refine rt_add rfl ?_
        refine rt_pf (σ1 := (sg_up σ 5 4 ((σ 5 4) + (1 : Int32)))) rfl Kq_5 (by decide) rfl rfl rfl ?_
        refine rt_go rfl ?_
        exact hk9 (sg_up σ 5 4 ((σ 5 4) + (1 : Int32))) hp
noncomputable def r_X3_readRowWord_l9 (n : Nat) : sg_S → Int32 × sg_S := Nat.rec (motive := fun _ => sg_S → Int32 × sg_S) (fun σ => (0, σ)) (fun _ ih => r_X3_readRowWord_b9 ih) n
noncomputable def p_X3_readRowWord_l9 (n : Nat) : sg_S → Prop := Nat.rec (motive := fun _ => sg_S → Prop) (fun _ => False) (fun _ ih => p_X3_readRowWord_b9 ih) n
theorem m_X3_readRowWord_l9 {s : List Int32} : ∀ (n : Nat), ∀ (σ : sg_S), p_X3_readRowWord_l9 n σ → RtF bk fR s 67 9 [some (rf 5)] [] σ (r_X3_readRowWord_l9 n σ) := by
  intro n
  induction n with
  | zero =>
    intro σ hp
    exact hp.elim
  | succ n ih =>
    intro σ hp
    exact m_X3_readRowWord_b9 (r_X3_readRowWord_l9 n) (p_X3_readRowWord_l9 n) ih σ hp
noncomputable def r_X3_readRowWord (σ : sg_S) : Int32 × sg_S := (if ¬ (r_X3_seek σ).1 = 0 then (r_X3_readRowWord_l9 600 (r_X3_seek σ).2) else ((0 : Int32), (r_X3_seek σ).2))
noncomputable def p_X3_readRowWord (σ : sg_S) : Prop := (p_X3_seek σ ∧ (¬ (r_X3_seek σ).1 = 0 → (p_X3_readRowWord_l9 600 (r_X3_seek σ).2)))
theorem m_X3_readRowWord {s : List Int32} {σ : sg_S} (hp : p_X3_readRowWord σ) : Ct s 67 [rf 5] σ [.inl (r_X3_readRowWord σ).1] (r_X3_readRowWord σ).2 := by
  refine ct_v (la := [some (rf 5)]) Kq_5 rfl rfl rfl rfl rfl rfl rfl (cgR ?_)
  unfold r_X3_readRowWord
  unfold p_X3_readRowWord at hp
  refine rt_lna rfl rfl ?_
  refine rt_iv (σ1 := (r_X3_seek σ).2) rfl rfl rfl (m_X3_seek hp.1) ?_
  show RtF bk fR s 67 4 [some (rf 5)] [.inl (r_X3_seek σ).1] (r_X3_seek σ).2 _
  replace hp := hp.2
  refine rt_if rfl rfl (fun h => ?_) (fun h => ?_)
  · replace hp := hp h
    exact m_X3_readRowWord_l9 600 (r_X3_seek σ).2 hp
  · refine rt_k1 rfl ck1_0 ?_
    exact rt_eRb rfl (Or.inl rfl)
noncomputable def t_X3_readNumber_0 (σ : sg_S) (y0_ : Int32) : sg_S := (sg_up (sg_up σ 5 3 (-1 : Int32)) 5 4 (((sg_up σ 5 3 (-1 : Int32)) 5 4) + (1 : Int32)))
noncomputable def t_X3_readNumber_1 (σ : sg_S) (y0_ : Int32) : sg_S := (sg_up σ 5 3 ((((10 : Int32) * (σ 5 3)) + (v_X3_byteAt σ (σ 5 4))) - (48 : Int32)))
noncomputable def t_X3_readNumber_2 (σ : sg_S) (y0_ : Int32) : sg_S := (sg_up (t_X3_readNumber_1 σ y0_) 5 4 (((t_X3_readNumber_1 σ y0_) 5 4) + (1 : Int32)))
noncomputable def r_X3_readNumber_a65 (k10 : sg_S → Int32 × sg_S) (σ : sg_S) (y0_ : Int32) : Int32 × sg_S := (if y0_ = 0 then (k10 (t_X3_readNumber_0 σ y0_)) else (k10 (t_X3_readNumber_2 σ y0_)))
noncomputable def p_X3_readNumber_a65 (kp10 : sg_S → Prop) (σ : sg_S) (y0_ : Int32) : Prop := ((y0_ = 0 → (kp10 (t_X3_readNumber_0 σ y0_))) ∧ (¬ (y0_ = 0) → (p_X3_byteAt σ (σ 5 4) ∧ (kp10 (t_X3_readNumber_2 σ y0_)))))
theorem m_X3_readNumber_a65 {s : List Int32} (k10 : sg_S → Int32 × sg_S) (kp10 : sg_S → Prop) (hk10 : ∀ (σ : sg_S) (o1_ : Option (ip_V Int32)), kp10 σ → RtF bk fR s 68 10 [some (rf 5), o1_] [] σ (k10 σ)) (σ : sg_S) (y0_ : Int32) (o1_ : Option (ip_V Int32)) (hp : p_X3_readNumber_a65 kp10 σ y0_) : RtF bk fR s 68 65 [some (rf 5), o1_] [.inl y0_] σ (r_X3_readNumber_a65 k10 σ y0_) := by
  unfold r_X3_readNumber_a65
  unfold p_X3_readNumber_a65 at hp
  refine rt_sn (la1 := [some (rf 5), some (.inl y0_)]) rfl rfl rfl ?_
  refine rt_lna rfl rfl ?_
  refine rt_ln rfl rfl ?_
  refine rt_if rfl rfl (fun h => ?_) (fun h => ?_)
  · replace hp := hp.1 h
    refine rt_k1 rfl ck1_m1 ?_
    refine rt_pf (σ1 := (sg_up σ 5 3 (-1 : Int32))) rfl Kq_5 (by decide) rfl rfl rfl ?_
    refine rt_lna rfl rfl ?_
    refine rt_dup rfl rfl ?_
    refine rt_gfi rfl Kq_5 (by decide) rfl rfl ?_
    refine rt_k1 rfl ck1_1 ?_
    refine rt_add rfl ?_
    refine rt_pf (σ1 := (t_X3_readNumber_0 σ y0_)) rfl Kq_5 (by decide) rfl rfl rfl ?_
    refine rt_go rfl ?_
    exact hk10 (t_X3_readNumber_0 σ y0_) _ hp
  · replace hp := hp.2 h
    refine rt_k2 rfl ck2_10 ?_
    refine rt_lna rfl rfl ?_
    refine rt_gfi rfl Kq_5 (by decide) rfl rfl ?_
    refine rt_mul rfl ?_
    refine rt_lna rfl rfl ?_
    refine rt_lna rfl rfl ?_
    refine rt_gfi rfl Kq_5 (by decide) rfl rfl ?_
    refine rt_iv (σ1 := σ) rfl rfl rfl (m_X3_byteAt (σ 5 4) hp.1) ?_
    show RtF bk fR s 68 86 [some (rf 5), some (.inl y0_)] [.inl (v_X3_byteAt σ (σ 5 4)), .inl ((10 : Int32) * (σ 5 3)), rf 5] σ _
    replace hp := hp.2
    refine rt_add rfl ?_
    refine rt_k2 rfl ck2_48 ?_
    refine rt_sub rfl ?_
    refine rt_go rfl ?_
    refine rt_pf (σ1 := (t_X3_readNumber_1 σ y0_)) rfl Kq_5 (by decide) rfl rfl rfl ?_
    refine rt_lna rfl rfl ?_
    refine rt_dup rfl rfl ?_
    refine rt_gfi rfl Kq_5 (by decide) rfl rfl ?_
    refine rt_k1 rfl ck1_1 ?_
    refine rt_add rfl ?_
    refine rt_pf (σ1 := (t_X3_readNumber_2 σ y0_)) rfl Kq_5 (by decide) rfl rfl rfl ?_
    refine rt_go rfl ?_
    exact hk10 (t_X3_readNumber_2 σ y0_) _ hp
noncomputable def r_X3_readNumber_b10 (k10 : sg_S → Int32 × sg_S) (σ : sg_S) : Int32 × sg_S := (if (σ 5 1) ≤ (σ 5 4) then (if (σ 5 4) ≤ (σ 5 2) then ((0 : Int32), σ) else ((1 : Int32), σ)) else (if (v_X3_byteAt σ (σ 5 4)) < (48 : Int32) then (if (σ 5 4) ≤ (σ 5 2) then ((0 : Int32), σ) else ((1 : Int32), σ)) else (if (57 : Int32) < (v_X3_byteAt σ (σ 5 4)) then (if (σ 5 4) ≤ (σ 5 2) then ((0 : Int32), σ) else ((1 : Int32), σ)) else (if (4 : Int32) ≤ ((σ 5 4) - (σ 5 2)) then (r_X3_readNumber_a65 k10 σ (0 : Int32)) else (r_X3_readNumber_a65 k10 σ (1 : Int32))))))
noncomputable def p_X3_readNumber_b10 (kp10 : sg_S → Prop) (σ : sg_S) : Prop := (¬ ((σ 5 1) ≤ (σ 5 4)) → (p_X3_byteAt σ (σ 5 4) ∧ (¬ ((v_X3_byteAt σ (σ 5 4)) < (48 : Int32)) → (p_X3_byteAt σ (σ 5 4) ∧ (¬ ((57 : Int32) < (v_X3_byteAt σ (σ 5 4))) → (((4 : Int32) ≤ ((σ 5 4) - (σ 5 2)) → (p_X3_readNumber_a65 kp10 σ (0 : Int32))) ∧ (¬ ((4 : Int32) ≤ ((σ 5 4) - (σ 5 2))) → (p_X3_readNumber_a65 kp10 σ (1 : Int32)))))))))
theorem m_X3_readNumber_b10 {s : List Int32} (k10 : sg_S → Int32 × sg_S) (kp10 : sg_S → Prop) (hk10 : ∀ (σ : sg_S) (o1_ : Option (ip_V Int32)), kp10 σ → RtF bk fR s 68 10 [some (rf 5), o1_] [] σ (k10 σ)) (σ : sg_S) (o1_ : Option (ip_V Int32)) (hp : p_X3_readNumber_b10 kp10 σ) : RtF bk fR s 68 10 [some (rf 5), o1_] [] σ (r_X3_readNumber_b10 k10 σ) := by
  unfold r_X3_readNumber_b10
  unfold p_X3_readNumber_b10 at hp
  refine rt_lna rfl rfl ?_
  refine rt_gfi rfl Kq_5 (by decide) rfl rfl ?_
  refine rt_lna rfl rfl ?_
  refine rt_gfi rfl Kq_5 (by decide) rfl rfl ?_
  refine rt_ic rfl rfl (fun h => ?_) (fun h => ?_)
  · refine rt_lna rfl rfl ?_
    refine rt_gfi rfl Kq_5 (by decide) rfl rfl ?_
    refine rt_lna rfl rfl ?_
    refine rt_gfi rfl Kq_5 (by decide) rfl rfl ?_
    refine rt_ic rfl rfl (fun h => ?_) (fun h => ?_)
    · refine rt_k1 rfl ck1_0 ?_
      exact rt_eRb rfl (Or.inl rfl)
    · refine rt_k1 rfl ck1_1 ?_
      refine rt_go rfl ?_
      exact rt_eRb rfl (Or.inr rfl)
  · replace hp := hp h
    refine rt_lna rfl rfl ?_
    refine rt_lna rfl rfl ?_
    refine rt_gfi rfl Kq_5 (by decide) rfl rfl ?_
    refine rt_iv (σ1 := σ) rfl rfl rfl (m_X3_byteAt (σ 5 4) hp.1) ?_
    show RtF bk fR s 68 29 [some (rf 5), o1_] [.inl (v_X3_byteAt σ (σ 5 4))] σ _
    replace hp := hp.2
    refine rt_k2 rfl ck2_48 ?_
    refine rt_ic rfl rfl (fun h => ?_) (fun h => ?_)
    · refine rt_lna rfl rfl ?_
      refine rt_gfi rfl Kq_5 (by decide) rfl rfl ?_
      refine rt_lna rfl rfl ?_
      refine rt_gfi rfl Kq_5 (by decide) rfl rfl ?_
      refine rt_ic rfl rfl (fun h => ?_) (fun h => ?_)
      · refine rt_k1 rfl ck1_0 ?_
        exact rt_eRb rfl (Or.inl rfl)
      · refine rt_k1 rfl ck1_1 ?_
        refine rt_go rfl ?_
        exact rt_eRb rfl (Or.inr rfl)
    · replace hp := hp h
      refine rt_lna rfl rfl ?_
      refine rt_lna rfl rfl ?_
      refine rt_gfi rfl Kq_5 (by decide) rfl rfl ?_
      refine rt_iv (σ1 := σ) rfl rfl rfl (m_X3_byteAt (σ 5 4) hp.1) ?_
      show RtF bk fR s 68 42 [some (rf 5), o1_] [.inl (v_X3_byteAt σ (σ 5 4))] σ _
      replace hp := hp.2
      refine rt_k2 rfl ck2_57 ?_
      refine rt_ic rfl rfl (fun h => ?_) (fun h => ?_)
      · refine rt_lna rfl rfl ?_
        refine rt_gfi rfl Kq_5 (by decide) rfl rfl ?_
        refine rt_lna rfl rfl ?_
        refine rt_gfi rfl Kq_5 (by decide) rfl rfl ?_
        refine rt_ic rfl rfl (fun h => ?_) (fun h => ?_)
        · refine rt_k1 rfl ck1_0 ?_
          exact rt_eRb rfl (Or.inl rfl)
        · refine rt_k1 rfl ck1_1 ?_
          refine rt_go rfl ?_
          exact rt_eRb rfl (Or.inr rfl)
      · replace hp := hp h
        refine rt_lna rfl rfl ?_
        refine rt_gfi rfl Kq_5 (by decide) rfl rfl ?_
        refine rt_lna rfl rfl ?_
        refine rt_gfi rfl Kq_5 (by decide) rfl rfl ?_
        refine rt_sub rfl ?_
        refine rt_k1 rfl ck1_4 ?_
        refine rt_ic rfl rfl (fun h => ?_) (fun h => ?_)
        · replace hp := hp.1 h
          refine rt_k1 rfl ck1_0 ?_
          exact m_X3_readNumber_a65 k10 kp10 hk10 σ (0 : Int32) _ hp
        · replace hp := hp.2 h
          refine rt_k1 rfl ck1_1 ?_
          refine rt_go rfl ?_
          exact m_X3_readNumber_a65 k10 kp10 hk10 σ (1 : Int32) _ hp
noncomputable def r_X3_readNumber_l10 (n : Nat) : sg_S → Int32 × sg_S := Nat.rec (motive := fun _ => sg_S → Int32 × sg_S) (fun σ => (0, σ)) (fun _ ih => r_X3_readNumber_b10 ih) n
noncomputable def p_X3_readNumber_l10 (n : Nat) : sg_S → Prop := Nat.rec (motive := fun _ => sg_S → Prop) (fun _ => False) (fun _ ih => p_X3_readNumber_b10 ih) n
theorem m_X3_readNumber_l10 {s : List Int32} : ∀ (n : Nat), ∀ (σ : sg_S) (o1_ : Option (ip_V Int32)), p_X3_readNumber_l10 n σ → RtF bk fR s 68 10 [some (rf 5), o1_] [] σ (r_X3_readNumber_l10 n σ) := by
  intro n
  induction n with
  | zero =>
    intro σ o1_ hp
    exact hp.elim
  | succ n ih =>
    intro σ o1_ hp
    exact m_X3_readNumber_b10 (r_X3_readNumber_l10 n) (p_X3_readNumber_l10 n) ih σ o1_ hp
noncomputable def r_X3_readNumber (σ : sg_S) : Int32 × sg_S := (r_X3_readNumber_l10 600 (sg_up (r_X3_seek σ).2 5 3 (0 : Int32)))
noncomputable def p_X3_readNumber (σ : sg_S) : Prop := (p_X3_seek σ ∧ (p_X3_readNumber_l10 600 (sg_up (r_X3_seek σ).2 5 3 (0 : Int32))))
theorem m_X3_readNumber {s : List Int32} {σ : sg_S} (hp : p_X3_readNumber σ) : Ct s 68 [rf 5] σ [.inl (r_X3_readNumber σ).1] (r_X3_readNumber σ).2 := by
  refine ct_v (la := [some (rf 5), none]) Kq_5 rfl rfl rfl rfl rfl rfl rfl (cgR ?_)
  unfold r_X3_readNumber
  unfold p_X3_readNumber at hp
  refine rt_lna rfl rfl ?_
  refine rt_iv (σ1 := (r_X3_seek σ).2) rfl rfl rfl (m_X3_seek hp.1) ?_
  show RtF bk fR s 68 4 [some (rf 5), none] [.inl (r_X3_seek σ).1] (r_X3_seek σ).2 _
  replace hp := hp.2
  refine rt_pop rfl rfl ?_
  refine rt_lna rfl rfl ?_
  refine rt_k1 rfl ck1_0 ?_
  refine rt_pf (σ1 := (sg_up (r_X3_seek σ).2 5 3 (0 : Int32))) rfl Kq_5 (by decide) rfl rfl rfl ?_
  exact m_X3_readNumber_l10 600 (sg_up (r_X3_seek σ).2 5 3 (0 : Int32)) _ hp
noncomputable def t_X4_feed_0 (σ : sg_S) (x0 : Int32) (x1 : Int32) (x2 : Int32) (x3 : Int32) (x4 : Int32) : sg_S := (s_X3_append (s_X3_append (s_X3_append σ x0) x1) x2)
noncomputable def t_X4_feed_1 (σ : sg_S) (x0 : Int32) (x1 : Int32) (x2 : Int32) (x3 : Int32) (x4 : Int32) : sg_S := (s_X3_append (s_X3_append (t_X4_feed_0 σ x0 x1 x2 x3 x4) x3) x4)
noncomputable def r_X4_feed (σ : sg_S) (x0 : Int32) (x1 : Int32) (x2 : Int32) (x3 : Int32) (x4 : Int32) : Int32 × sg_S := (if ((σ 5 1) + (20 : Int32)) ≤ (500 : Int32) then (((t_X4_feed_1 σ x0 x1 x2 x3 x4) 5 1), (t_X4_feed_1 σ x0 x1 x2 x3 x4)) else ((-1 : Int32), σ))
noncomputable def p_X4_feed (σ : sg_S) (x0 : Int32) (x1 : Int32) (x2 : Int32) (x3 : Int32) (x4 : Int32) : Prop := (((σ 5 1) + (20 : Int32)) ≤ (500 : Int32) → (p_X3_append σ x0 ∧ (p_X3_append (s_X3_append σ x0) x1 ∧ (p_X3_append (s_X3_append (s_X3_append σ x0) x1) x2 ∧ (p_X3_append (t_X4_feed_0 σ x0 x1 x2 x3 x4) x3 ∧ p_X3_append (s_X3_append (t_X4_feed_0 σ x0 x1 x2 x3 x4) x3) x4)))))
theorem m_X4_feed {s : List Int32} {σ : sg_S} (x0 : Int32) (x1 : Int32) (x2 : Int32) (x3 : Int32) (x4 : Int32) (hp : p_X4_feed σ x0 x1 x2 x3 x4) : Ct s 70 [rf 0, .inl x0, .inl x1, .inl x2, .inl x3, .inl x4] σ [.inl (r_X4_feed σ x0 x1 x2 x3 x4).1] (r_X4_feed σ x0 x1 x2 x3 x4).2 := by
  refine ct_v (la := [some (rf 0), some (.inl x0), some (.inl x1), some (.inl x2), some (.inl x3), some (.inl x4)]) Kq_0 rfl rfl rfl rfl rfl rfl rfl (cgR ?_)
  unfold r_X4_feed
  unfold p_X4_feed at hp
  refine rt_lna rfl rfl ?_
  refine rt_gfr rfl Kq_0 (by decide) rfl ?_
  refine rt_gfi rfl Kq_5 (by decide) rfl rfl ?_
  refine rt_k2 rfl ck2_20 ?_
  refine rt_add rfl ?_
  refine rt_k3 rfl ck3_500 ?_
  refine rt_ic rfl rfl (fun h => ?_) (fun h => ?_)
  · replace hp := hp h
    refine rt_lna rfl rfl ?_
    refine rt_gfr rfl Kq_0 (by decide) rfl ?_
    refine rt_ln rfl rfl ?_
    refine rt_iv (σ1 := (s_X3_append σ x0)) rfl rfl rfl (m_X3_append x0 hp.1) ?_
    show RtF bk fR s 70 26 [some (rf 0), some (.inl x0), some (.inl x1), some (.inl x2), some (.inl x3), some (.inl x4)] [] (s_X3_append σ x0) _
    replace hp := hp.2
    refine rt_lna rfl rfl ?_
    refine rt_gfr rfl Kq_0 (by decide) rfl ?_
    refine rt_ln rfl rfl ?_
    refine rt_iv (σ1 := (s_X3_append (s_X3_append σ x0) x1)) rfl rfl rfl (m_X3_append x1 hp.1) ?_
    show RtF bk fR s 70 34 [some (rf 0), some (.inl x0), some (.inl x1), some (.inl x2), some (.inl x3), some (.inl x4)] [] (s_X3_append (s_X3_append σ x0) x1) _
    replace hp := hp.2
    refine rt_lna rfl rfl ?_
    refine rt_gfr rfl Kq_0 (by decide) rfl ?_
    refine rt_ln rfl rfl ?_
    refine rt_iv (σ1 := (t_X4_feed_0 σ x0 x1 x2 x3 x4)) rfl rfl rfl (m_X3_append x2 hp.1) ?_
    show RtF bk fR s 70 42 [some (rf 0), some (.inl x0), some (.inl x1), some (.inl x2), some (.inl x3), some (.inl x4)] [] (t_X4_feed_0 σ x0 x1 x2 x3 x4) _
    replace hp := hp.2
    refine rt_lna rfl rfl ?_
    refine rt_gfr rfl Kq_0 (by decide) rfl ?_
    refine rt_ld rfl rfl ?_
    refine rt_iv (σ1 := (s_X3_append (t_X4_feed_0 σ x0 x1 x2 x3 x4) x3)) rfl rfl rfl (m_X3_append x3 hp.1) ?_
    show RtF bk fR s 70 51 [some (rf 0), some (.inl x0), some (.inl x1), some (.inl x2), some (.inl x3), some (.inl x4)] [] (s_X3_append (t_X4_feed_0 σ x0 x1 x2 x3 x4) x3) _
    replace hp := hp.2
    refine rt_lna rfl rfl ?_
    refine rt_gfr rfl Kq_0 (by decide) rfl ?_
    refine rt_ld rfl rfl ?_
    refine rt_iv (σ1 := (t_X4_feed_1 σ x0 x1 x2 x3 x4)) rfl rfl rfl (m_X3_append x4 hp) ?_
    show RtF bk fR s 70 60 [some (rf 0), some (.inl x0), some (.inl x1), some (.inl x2), some (.inl x3), some (.inl x4)] [] (t_X4_feed_1 σ x0 x1 x2 x3 x4) _
    refine rt_lna rfl rfl ?_
    refine rt_gfr rfl Kq_0 (by decide) rfl ?_
    refine rt_gfi rfl Kq_5 (by decide) rfl rfl ?_
    exact rt_eR rfl
  · refine rt_k1 rfl ck1_m1 ?_
    exact rt_eR rfl
noncomputable def r_X4_end (σ : sg_S) (x0 : Int32) : Int32 × sg_S := (if x0 < 0 then ((0 : Int32), σ) else (if x0 ≤ (σ 5 1) then ((1 : Int32), (sg_up σ 5 1 x0)) else ((0 : Int32), σ)))
theorem m_X4_end {s : List Int32} {σ : sg_S} (x0 : Int32) : Ct s 71 [rf 0, .inl x0] σ [.inl (r_X4_end σ x0).1] (r_X4_end σ x0).2 := by
  refine ct_v (la := [some (rf 0), some (.inl x0)]) Kq_0 rfl rfl rfl rfl rfl rfl rfl (cgR ?_)
  unfold r_X4_end
  refine rt_ln rfl rfl ?_
  refine rt_if rfl rfl (fun h => ?_) (fun h => ?_)
  · refine rt_k1 rfl ck1_0 ?_
    exact rt_eRb rfl (Or.inl rfl)
  · refine rt_ln rfl rfl ?_
    refine rt_lna rfl rfl ?_
    refine rt_gfr rfl Kq_0 (by decide) rfl ?_
    refine rt_gfi rfl Kq_5 (by decide) rfl rfl ?_
    refine rt_ic rfl rfl (fun h => ?_) (fun h => ?_)
    · refine rt_lna rfl rfl ?_
      refine rt_gfr rfl Kq_0 (by decide) rfl ?_
      refine rt_ln rfl rfl ?_
      refine rt_pf (σ1 := (sg_up σ 5 1 x0)) rfl Kq_5 (by decide) rfl rfl rfl ?_
      refine rt_k1 rfl ck1_1 ?_
      exact rt_eRb rfl (Or.inr rfl)
    · refine rt_k1 rfl ck1_0 ?_
      exact rt_eRb rfl (Or.inl rfl)
noncomputable def v_X4_fault (σ : sg_S) : Int32 := (σ 0 7)
theorem m_X4_fault {s : List Int32} {σ : sg_S} : Ct s 74 [rf 0] σ [.inl (v_X4_fault σ)] σ := by
  refine ct_v (la := [some (rf 0)]) Kq_0 rfl rfl rfl rfl rfl rfl rfl (cgV ?_)
  unfold v_X4_fault
  refine rt_lna rfl rfl ?_
  refine rt_gfi rfl Kq_0 (by decide) rfl rfl ?_
  exact rt_eV rfl
noncomputable def v_X4_count (σ : sg_S) (x0 : Int32) : Int32 := (if x0 = 0 then (σ 0 6) else (if x0 = 1 then (σ 7 3) else (if x0 = 2 then (σ 5 1) else (if x0 = 3 then (v_X2_full σ) else (if x0 < (10 : Int32) then (-1 : Int32) else (if (14 : Int32) < x0 then (-1 : Int32) else (v_X2_setting σ (x0 - (10 : Int32)))))))))
noncomputable def p_X4_count (x0 : Int32) : Prop := (¬ (x0 = 0) → (¬ (x0 = 1) → (¬ (x0 = 2) → (¬ (x0 = 3) → (¬ (x0 < (10 : Int32)) → (¬ ((14 : Int32) < x0) → p_X2_setting (x0 - (10 : Int32))))))))
theorem m_X4_count {s : List Int32} {σ : sg_S} (x0 : Int32) (hp : p_X4_count x0) : Ct s 79 [rf 0, .inl x0] σ [.inl (v_X4_count σ x0)] σ := by
  refine ct_v (la := [some (rf 0), some (.inl x0)]) Kq_0 rfl rfl rfl rfl rfl rfl rfl (cgV ?_)
  unfold v_X4_count
  unfold p_X4_count at hp
  refine rt_ln rfl rfl ?_
  refine rt_ite (fun h => ?_) (fun h => ?_)
  · refine rt_eq h ?_
    refine rt_step rfl rfl rfl ?_
    refine rt_lna rfl rfl ?_
    refine rt_gfi rfl Kq_0 (by decide) rfl rfl ?_
    exact rt_eV rfl
  · have e0 := h
    replace hp := hp h
    refine rt_ite (fun h => ?_) (fun h => ?_)
    · refine rt_eq h ?_
      refine rt_step rfl rfl rfl ?_
      refine rt_lna rfl rfl ?_
      refine rt_gfr rfl Kq_0 (by decide) rfl ?_
      refine rt_gfi rfl Kq_7 (by decide) rfl rfl ?_
      exact rt_eV rfl
    · have e1 := h
      replace hp := hp h
      refine rt_ite (fun h => ?_) (fun h => ?_)
      · refine rt_eq h ?_
        refine rt_step rfl rfl rfl ?_
        refine rt_lna rfl rfl ?_
        refine rt_gfr rfl Kq_0 (by decide) rfl ?_
        refine rt_gfi rfl Kq_5 (by decide) rfl rfl ?_
        exact rt_eV rfl
      · have e2 := h
        replace hp := hp h
        refine rt_ite (fun h => ?_) (fun h => ?_)
        · refine rt_eq h ?_
          refine rt_step rfl rfl rfl ?_
          refine rt_lna rfl rfl ?_
          refine rt_gfr rfl Kq_0 (by decide) rfl ?_
          refine rt_iv (σ1 := σ) rfl rfl rfl (m_X2_full) ?_
          show RtF bk (fV σ) s 79 60 [some (rf 0), some (.inl x0)] [.inl (v_X2_full σ)] σ _
          exact rt_eV rfl
        · have e3 := h
          replace hp := hp h
          refine rt_tsd (pc1 := 61) rfl (ts_out (n := 4) (by decide) (fun k hk => match k, hk with | 0, _ => e0 | 1, _ => e1 | 2, _ => e2 | 3, _ => e3 | k + 4, hk => absurd hk (by omega))) rfl ?_
          refine rt_ln rfl rfl ?_
          refine rt_k2 rfl ck2_10 ?_
          refine rt_ic rfl rfl (fun h => ?_) (fun h => ?_)
          · refine rt_k1 rfl ck1_m1 ?_
            exact rt_eV rfl
          · replace hp := hp h
            refine rt_ln rfl rfl ?_
            refine rt_k2 rfl ck2_14 ?_
            refine rt_ic rfl rfl (fun h => ?_) (fun h => ?_)
            · refine rt_k1 rfl ck1_m1 ?_
              exact rt_eV rfl
            · replace hp := hp h
              refine rt_lna rfl rfl ?_
              refine rt_gfr rfl Kq_0 (by decide) rfl ?_
              refine rt_ln rfl rfl ?_
              refine rt_k2 rfl ck2_10 ?_
              refine rt_sub rfl ?_
              refine rt_iv (σ1 := σ) rfl rfl rfl (m_X2_setting (x0 - (10 : Int32)) hp) ?_
              show RtF bk (fV σ) s 79 84 [some (rf 0), some (.inl x0)] [.inl (v_X2_setting σ (x0 - (10 : Int32)))] σ _
              refine rt_go rfl ?_
              exact rt_eV rfl
noncomputable def v_X4_worth (σ : sg_S) (x0 : Int32) (x1 : Int32) : Int32 := (if x0 < 0 then (-1 : Int32) else (if (120 : Int32) < x0 then (-1 : Int32) else (if x1 < 0 then (-1 : Int32) else (if x1 ≤ (10 : Int32) then (v_X2_worthOf σ x0 x1) else (-1 : Int32)))))
noncomputable def p_X4_worth (x0 : Int32) (x1 : Int32) : Prop := (¬ (x0 < 0) → (¬ ((120 : Int32) < x0) → (¬ (x1 < 0) → (x1 ≤ (10 : Int32) → p_X2_worthOf x0 x1))))
theorem m_X4_worth {s : List Int32} {σ : sg_S} (x0 : Int32) (x1 : Int32) (hp : p_X4_worth x0 x1) : Ct s 80 [rf 0, .inl x0, .inl x1] σ [.inl (v_X4_worth σ x0 x1)] σ := by
  refine ct_v (la := [some (rf 0), some (.inl x0), some (.inl x1)]) Kq_0 rfl rfl rfl rfl rfl rfl rfl (cgV ?_)
  unfold v_X4_worth
  unfold p_X4_worth at hp
  refine rt_ln rfl rfl ?_
  refine rt_if rfl rfl (fun h => ?_) (fun h => ?_)
  · refine rt_k1 rfl ck1_m1 ?_
    exact rt_eV rfl
  · replace hp := hp h
    refine rt_ln rfl rfl ?_
    refine rt_k2 rfl ck2_120 ?_
    refine rt_ic rfl rfl (fun h => ?_) (fun h => ?_)
    · refine rt_k1 rfl ck1_m1 ?_
      exact rt_eV rfl
    · replace hp := hp h
      refine rt_ln rfl rfl ?_
      refine rt_if rfl rfl (fun h => ?_) (fun h => ?_)
      · refine rt_k1 rfl ck1_m1 ?_
        exact rt_eV rfl
      · replace hp := hp h
        refine rt_ln rfl rfl ?_
        refine rt_k2 rfl ck2_10 ?_
        refine rt_ic rfl rfl (fun h => ?_) (fun h => ?_)
        · replace hp := hp h
          refine rt_lna rfl rfl ?_
          refine rt_gfr rfl Kq_0 (by decide) rfl ?_
          refine rt_ln rfl rfl ?_
          refine rt_ln rfl rfl ?_
          refine rt_iv (σ1 := σ) rfl rfl rfl (m_X2_worthOf x0 x1 hp) ?_
          show RtF bk (fV σ) s 80 31 [some (rf 0), some (.inl x0), some (.inl x1)] [.inl (v_X2_worthOf σ x0 x1)] σ _
          exact rt_eV rfl
        · refine rt_k1 rfl ck1_m1 ?_
          exact rt_eV rfl
noncomputable def v_X4_told (σ : sg_S) (x0 : Int32) (x1 : Int32) : Int32 := (if x0 < 0 then (-1 : Int32) else (if (10 : Int32) ≤ x0 then (-1 : Int32) else (if x1 < (1 : Int32) then (-1 : Int32) else (if x1 < (5 : Int32) then (v_X2_number σ x0 x1) else (-1 : Int32)))))
noncomputable def p_X4_told (x0 : Int32) (x1 : Int32) : Prop := (¬ (x0 < 0) → (¬ ((10 : Int32) ≤ x0) → (¬ (x1 < (1 : Int32)) → (x1 < (5 : Int32) → p_X2_number x0 x1))))
theorem m_X4_told {s : List Int32} {σ : sg_S} (x0 : Int32) (x1 : Int32) (hp : p_X4_told x0 x1) : Ct s 81 [rf 0, .inl x0, .inl x1] σ [.inl (v_X4_told σ x0 x1)] σ := by
  refine ct_v (la := [some (rf 0), some (.inl x0), some (.inl x1)]) Kq_0 rfl rfl rfl rfl rfl rfl rfl (cgV ?_)
  unfold v_X4_told
  unfold p_X4_told at hp
  refine rt_ln rfl rfl ?_
  refine rt_if rfl rfl (fun h => ?_) (fun h => ?_)
  · refine rt_k1 rfl ck1_m1 ?_
    exact rt_eV rfl
  · replace hp := hp h
    refine rt_ln rfl rfl ?_
    refine rt_k2 rfl ck2_10 ?_
    refine rt_ic rfl rfl (fun h => ?_) (fun h => ?_)
    · refine rt_k1 rfl ck1_m1 ?_
      exact rt_eV rfl
    · replace hp := hp h
      refine rt_ln rfl rfl ?_
      refine rt_k1 rfl ck1_1 ?_
      refine rt_ic rfl rfl (fun h => ?_) (fun h => ?_)
      · refine rt_k1 rfl ck1_m1 ?_
        exact rt_eV rfl
      · replace hp := hp h
        refine rt_ln rfl rfl ?_
        refine rt_k1 rfl ck1_5 ?_
        refine rt_ic rfl rfl (fun h => ?_) (fun h => ?_)
        · replace hp := hp h
          refine rt_lna rfl rfl ?_
          refine rt_gfr rfl Kq_0 (by decide) rfl ?_
          refine rt_ln rfl rfl ?_
          refine rt_ln rfl rfl ?_
          refine rt_iv (σ1 := σ) rfl rfl rfl (m_X2_number x0 x1 hp) ?_
          show RtF bk (fV σ) s 81 31 [some (rf 0), some (.inl x0), some (.inl x1)] [.inl (v_X2_number σ x0 x1)] σ _
          exact rt_eV rfl
        · refine rt_k1 rfl ck1_m1 ?_
          exact rt_eV rfl
noncomputable def v_X4_blockNow (σ : sg_S) : Int32 := (if (σ 7 3) ≤ (1 : Int32) then (if (v_X2_blockOvers σ (σ (v_X0_side 7 (σ 7 3)) 3) (0 : Int32)) ≤ ((σ (v_X0_side 7 (σ 7 3)) 2) / (6 : Int32)) then (if ((v_X2_blockOvers σ (σ (v_X0_side 7 (σ 7 3)) 3) (0 : Int32)) + (v_X2_blockOvers σ (σ (v_X0_side 7 (σ 7 3)) 3) (1 : Int32))) ≤ ((σ (v_X0_side 7 (σ 7 3)) 2) / (6 : Int32)) then (2 : Int32) else (1 : Int32)) else (0 : Int32)) else (-1 : Int32))
noncomputable def p_X4_blockNow (σ : sg_S) : Prop := ((σ 7 3) ≤ (1 : Int32) → (p_X2_blockOvers σ (σ (v_X0_side 7 (σ 7 3)) 3) (0 : Int32) ∧ ((v_X2_blockOvers σ (σ (v_X0_side 7 (σ 7 3)) 3) (0 : Int32)) ≤ ((σ (v_X0_side 7 (σ 7 3)) 2) / (6 : Int32)) → p_X2_blockOvers σ (σ (v_X0_side 7 (σ 7 3)) 3) (1 : Int32))))
theorem m_X4_blockNow {s : List Int32} {σ : sg_S} (hp : p_X4_blockNow σ) : Ct s 86 [rf 0] σ [.inl (v_X4_blockNow σ)] σ := by
  refine ct_v (la := [some (rf 0), none, none, none]) Kq_0 rfl rfl rfl rfl rfl rfl rfl (cgV ?_)
  unfold v_X4_blockNow
  unfold p_X4_blockNow at hp
  refine rt_lna rfl rfl ?_
  refine rt_gfr rfl Kq_0 (by decide) rfl ?_
  refine rt_gfi rfl Kq_7 (by decide) rfl rfl ?_
  refine rt_k1 rfl ck1_1 ?_
  refine rt_ic rfl rfl (fun h => ?_) (fun h => ?_)
  · replace hp := hp h
    refine rt_lna rfl rfl ?_
    refine rt_gfr rfl Kq_0 (by decide) rfl ?_
    refine rt_lna rfl rfl ?_
    refine rt_gfr rfl Kq_0 (by decide) rfl ?_
    refine rt_gfi rfl Kq_7 (by decide) rfl rfl ?_
    refine rt_iv (σ1 := σ) rfl rfl rfl (m_X0_side 7 (σ 7 3) Kq_7) ?_
    show RtF bk (fV σ) s 86 27 [some (rf 0), none, none, none] [rf (v_X0_side 7 (σ 7 3))] σ _
    refine rt_sna (la1 := [some (rf 0), some (rf (v_X0_side 7 (σ 7 3))), none, none]) rfl rfl rfl ?_
    refine rt_lna rfl rfl ?_
    refine rt_gfr rfl Kq_0 (by decide) rfl ?_
    refine rt_lna rfl rfl ?_
    refine rt_gfi rfl (Kside Kq_7) (by decide) rfl rfl ?_
    refine rt_k1 rfl ck1_0 ?_
    refine rt_iv (σ1 := σ) rfl rfl rfl (m_X2_blockOvers (σ (v_X0_side 7 (σ 7 3)) 3) (0 : Int32) hp.1) ?_
    show RtF bk (fV σ) s 86 40 [some (rf 0), some (rf (v_X0_side 7 (σ 7 3))), none, none] [.inl (v_X2_blockOvers σ (σ (v_X0_side 7 (σ 7 3)) 3) (0 : Int32))] σ _
    replace hp := hp.2
    refine rt_sn (la1 := [some (rf 0), some (rf (v_X0_side 7 (σ 7 3))), some (.inl (v_X2_blockOvers σ (σ (v_X0_side 7 (σ 7 3)) 3) (0 : Int32))), none]) rfl rfl rfl ?_
    refine rt_lna rfl rfl ?_
    refine rt_gfi rfl (Kside Kq_7) (by decide) rfl rfl ?_
    refine rt_k2 rfl ck2_6 ?_
    refine rt_div rfl (by decide) ?_
    refine rt_sn (la1 := [some (rf 0), some (rf (v_X0_side 7 (σ 7 3))), some (.inl (v_X2_blockOvers σ (σ (v_X0_side 7 (σ 7 3)) 3) (0 : Int32))), some (.inl ((σ (v_X0_side 7 (σ 7 3)) 2) / (6 : Int32)))]) rfl rfl rfl ?_
    refine rt_ln rfl rfl ?_
    refine rt_ln rfl rfl ?_
    refine rt_ic rfl rfl (fun h => ?_) (fun h => ?_)
    · replace hp := hp h
      refine rt_ln rfl rfl ?_
      refine rt_lna rfl rfl ?_
      refine rt_gfr rfl Kq_0 (by decide) rfl ?_
      refine rt_lna rfl rfl ?_
      refine rt_gfi rfl (Kside Kq_7) (by decide) rfl rfl ?_
      refine rt_k1 rfl ck1_1 ?_
      refine rt_iv (σ1 := σ) rfl rfl rfl (m_X2_blockOvers (σ (v_X0_side 7 (σ 7 3)) 3) (1 : Int32) hp) ?_
      show RtF bk (fV σ) s 86 69 [some (rf 0), some (rf (v_X0_side 7 (σ 7 3))), some (.inl (v_X2_blockOvers σ (σ (v_X0_side 7 (σ 7 3)) 3) (0 : Int32))), some (.inl ((σ (v_X0_side 7 (σ 7 3)) 2) / (6 : Int32)))] [.inl (v_X2_blockOvers σ (σ (v_X0_side 7 (σ 7 3)) 3) (1 : Int32)), .inl (v_X2_blockOvers σ (σ (v_X0_side 7 (σ 7 3)) 3) (0 : Int32))] σ _
      refine rt_add rfl ?_
      refine rt_sn (la1 := [some (rf 0), some (rf (v_X0_side 7 (σ 7 3))), some (.inl ((v_X2_blockOvers σ (σ (v_X0_side 7 (σ 7 3)) 3) (0 : Int32)) + (v_X2_blockOvers σ (σ (v_X0_side 7 (σ 7 3)) 3) (1 : Int32)))), some (.inl ((σ (v_X0_side 7 (σ 7 3)) 2) / (6 : Int32)))]) rfl rfl rfl ?_
      refine rt_ln rfl rfl ?_
      refine rt_ln rfl rfl ?_
      refine rt_ic rfl rfl (fun h => ?_) (fun h => ?_)
      · refine rt_k1 rfl ck1_2 ?_
        exact rt_eV rfl
      · refine rt_k1 rfl ck1_1 ?_
        refine rt_go rfl ?_
        exact rt_eV rfl
    · refine rt_k1 rfl ck1_0 ?_
      exact rt_eV rfl
  · refine rt_k1 rfl ck1_m1 ?_
    exact rt_eV rfl
noncomputable def v_X4_canCome (σ : sg_S) (x0 : Int32) : Int32 := (if (400 : Int32) ≤ (σ 0 6) then (0 : Int32) else (if (v_X0_admits σ 7 x0) = 0 then (0 : Int32) else (1 : Int32)))
theorem m_X4_canCome {s : List Int32} {σ : sg_S} (x0 : Int32) : Ct s 110 [rf 0, .inl x0] σ [.inl (v_X4_canCome σ x0)] σ := by
  refine ct_v (la := [some (rf 0), some (.inl x0)]) Kq_0 rfl rfl rfl rfl rfl rfl rfl (cgV ?_)
  unfold v_X4_canCome
  refine rt_lna rfl rfl ?_
  refine rt_gfi rfl Kq_0 (by decide) rfl rfl ?_
  refine rt_k3 rfl ck3_400 ?_
  refine rt_ic rfl rfl (fun h => ?_) (fun h => ?_)
  · refine rt_k1 rfl ck1_0 ?_
    exact rt_eVb rfl (Or.inl rfl)
  · refine rt_lna rfl rfl ?_
    refine rt_gfr rfl Kq_0 (by decide) rfl ?_
    refine rt_ln rfl rfl ?_
    refine rt_iv (σ1 := σ) rfl rfl rfl (m_X0_admits 7 x0 Kq_7) ?_
    show RtF bk (fV σ) s 110 18 [some (rf 0), some (.inl x0)] [.inl (v_X0_admits σ 7 x0)] σ _
    refine rt_if rfl rfl (fun h => ?_) (fun h => ?_)
    · refine rt_k1 rfl ck1_0 ?_
      exact rt_eVb rfl (Or.inl rfl)
    · refine rt_k1 rfl ck1_1 ?_
      refine rt_go rfl ?_
      exact rt_eVb rfl (Or.inr rfl)
noncomputable def v_X4_secondCanBeCut (σ : sg_S) (x0 : Int32) : Int32 := (if ¬ (σ 7 3) = (1 : Int32) then (0 : Int32) else (if (v_X0_hasTarget σ 7) = 0 then (0 : Int32) else (if (v_X4_canCome σ (99 : Int32)) = 0 then (0 : Int32) else (if (v_X0_fits σ 7 (99 : Int32) x0) = 0 then (0 : Int32) else (1 : Int32)))))
theorem m_X4_secondCanBeCut {s : List Int32} {σ : sg_S} (x0 : Int32) : Ct s 111 [rf 0, .inl x0] σ [.inl (v_X4_secondCanBeCut σ x0)] σ := by
  refine ct_v (la := [some (rf 0), some (.inl x0)]) Kq_0 rfl rfl rfl rfl rfl rfl rfl (cgV ?_)
  unfold v_X4_secondCanBeCut
  refine rt_lna rfl rfl ?_
  refine rt_gfr rfl Kq_0 (by decide) rfl ?_
  refine rt_gfi rfl Kq_7 (by decide) rfl rfl ?_
  refine rt_k1 rfl ck1_1 ?_
  refine rt_ic rfl rfl (fun h => ?_) (fun h => ?_)
  · refine rt_k1 rfl ck1_0 ?_
    exact rt_eVb rfl (Or.inl rfl)
  · refine rt_lna rfl rfl ?_
    refine rt_gfr rfl Kq_0 (by decide) rfl ?_
    refine rt_iv (σ1 := σ) rfl rfl rfl (m_X0_hasTarget 7 Kq_7) ?_
    show RtF bk (fV σ) s 111 18 [some (rf 0), some (.inl x0)] [.inl (v_X0_hasTarget σ 7)] σ _
    refine rt_if rfl rfl (fun h => ?_) (fun h => ?_)
    · refine rt_k1 rfl ck1_0 ?_
      exact rt_eVb rfl (Or.inl rfl)
    · refine rt_lna rfl rfl ?_
      refine rt_k2 rfl ck2_99 ?_
      refine rt_iv (σ1 := σ) rfl rfl rfl (m_X4_canCome (99 : Int32)) ?_
      show RtF bk (fV σ) s 111 27 [some (rf 0), some (.inl x0)] [.inl (v_X4_canCome σ (99 : Int32))] σ _
      refine rt_if rfl rfl (fun h => ?_) (fun h => ?_)
      · refine rt_k1 rfl ck1_0 ?_
        exact rt_eVb rfl (Or.inl rfl)
      · refine rt_lna rfl rfl ?_
        refine rt_gfr rfl Kq_0 (by decide) rfl ?_
        refine rt_k2 rfl ck2_99 ?_
        refine rt_ln rfl rfl ?_
        refine rt_iv (σ1 := σ) rfl rfl rfl (m_X0_fits 7 (99 : Int32) x0 Kq_7) ?_
        show RtF bk (fV σ) s 111 40 [some (rf 0), some (.inl x0)] [.inl (v_X0_fits σ 7 (99 : Int32) x0)] σ _
        refine rt_if rfl rfl (fun h => ?_) (fun h => ?_)
        · refine rt_k1 rfl ck1_0 ?_
          exact rt_eVb rfl (Or.inl rfl)
        · refine rt_k1 rfl ck1_1 ?_
          refine rt_go rfl ?_
          exact rt_eVb rfl (Or.inr rfl)
noncomputable def v_X4_faultHere (σ : sg_S) (x0 : Int32) : Int32 := (x0 + ((8 : Int32) * (σ 5 2)))
theorem m_X4_faultHere {s : List Int32} {σ : sg_S} (x0 : Int32) : Ct s 115 [rf 0, .inl x0] σ [.inl (v_X4_faultHere σ x0)] σ := by
  refine ct_v (la := [some (rf 0), some (.inl x0)]) Kq_0 rfl rfl rfl rfl rfl rfl rfl (cgV ?_)
  unfold v_X4_faultHere
  refine rt_ln rfl rfl ?_
  refine rt_k2 rfl ck2_8 ?_
  refine rt_lna rfl rfl ?_
  refine rt_gfr rfl Kq_0 (by decide) rfl ?_
  refine rt_gfi rfl Kq_5 (by decide) rfl rfl ?_
  refine rt_mul rfl ?_
  refine rt_add rfl ?_
  exact rt_eV rfl
noncomputable def v_X4_bearsNumber (x0 : Int32) : Int32 := (if x0 = (99 : Int32) then (1 : Int32) else (if ¬ x0 = (100 : Int32) then (0 : Int32) else (1 : Int32)))
theorem m_X4_bearsNumber {s : List Int32} {σ : sg_S} (x0 : Int32) : Ct s 117 [.inl x0] σ [.inl (v_X4_bearsNumber x0)] σ := by
  refine ct_s (la := [some (.inl x0)]) rfl rfl rfl rfl rfl (cgV ?_)
  unfold v_X4_bearsNumber
  refine rt_ln rfl rfl ?_
  refine rt_k2 rfl ck2_99 ?_
  refine rt_ic rfl rfl (fun h => ?_) (fun h => ?_)
  · refine rt_k1 rfl ck1_1 ?_
    refine rt_go rfl ?_
    exact rt_eVb rfl (Or.inr rfl)
  · refine rt_ln rfl rfl ?_
    refine rt_k2 rfl ck2_100 ?_
    refine rt_ic rfl rfl (fun h => ?_) (fun h => ?_)
    · refine rt_k1 rfl ck1_0 ?_
      exact rt_eVb rfl (Or.inl rfl)
    · refine rt_k1 rfl ck1_1 ?_
      refine rt_go rfl ?_
      exact rt_eVb rfl (Or.inr rfl)
noncomputable def v_X4_isSide (x0 : Int32) : Int32 := (if x0 = 0 then (1 : Int32) else (if ¬ x0 = (1 : Int32) then (0 : Int32) else (1 : Int32)))
theorem m_X4_isSide {s : List Int32} {σ : sg_S} (x0 : Int32) : Ct s 118 [.inl x0] σ [.inl (v_X4_isSide x0)] σ := by
  refine ct_s (la := [some (.inl x0)]) rfl rfl rfl rfl rfl (cgV ?_)
  unfold v_X4_isSide
  refine rt_ln rfl rfl ?_
  refine rt_if rfl rfl (fun h => ?_) (fun h => ?_)
  · refine rt_k1 rfl ck1_1 ?_
    refine rt_go rfl ?_
    exact rt_eVb rfl (Or.inr rfl)
  · refine rt_ln rfl rfl ?_
    refine rt_k1 rfl ck1_1 ?_
    refine rt_ic rfl rfl (fun h => ?_) (fun h => ?_)
    · refine rt_k1 rfl ck1_0 ?_
      exact rt_eVb rfl (Or.inl rfl)
    · refine rt_k1 rfl ck1_1 ?_
      refine rt_go rfl ?_
      exact rt_eVb rfl (Or.inr rfl)
noncomputable def v_X4_isBlock (x0 : Int32) : Int32 := (if x0 < 0 then (0 : Int32) else (if (3 : Int32) ≤ x0 then (0 : Int32) else (1 : Int32)))
theorem m_X4_isBlock {s : List Int32} {σ : sg_S} (x0 : Int32) : Ct s 119 [.inl x0] σ [.inl (v_X4_isBlock x0)] σ := by
  refine ct_s (la := [some (.inl x0)]) rfl rfl rfl rfl rfl (cgV ?_)
  unfold v_X4_isBlock
  refine rt_ln rfl rfl ?_
  refine rt_if rfl rfl (fun h => ?_) (fun h => ?_)
  · refine rt_k1 rfl ck1_0 ?_
    exact rt_eVb rfl (Or.inl rfl)
  · refine rt_ln rfl rfl ?_
    refine rt_k1 rfl ck1_3 ?_
    refine rt_ic rfl rfl (fun h => ?_) (fun h => ?_)
    · refine rt_k1 rfl ck1_0 ?_
      exact rt_eVb rfl (Or.inl rfl)
    · refine rt_k1 rfl ck1_1 ?_
      refine rt_go rfl ?_
      exact rt_eVb rfl (Or.inr rfl)
noncomputable def v_X4_isOverFact (x0 : Int32) : Int32 := (if x0 < 0 then (0 : Int32) else (if (3 : Int32) ≤ x0 then (0 : Int32) else (1 : Int32)))
theorem m_X4_isOverFact {s : List Int32} {σ : sg_S} (x0 : Int32) : Ct s 120 [.inl x0] σ [.inl (v_X4_isOverFact x0)] σ := by
  refine ct_s (la := [some (.inl x0)]) rfl rfl rfl rfl rfl (cgV ?_)
  unfold v_X4_isOverFact
  refine rt_ln rfl rfl ?_
  refine rt_if rfl rfl (fun h => ?_) (fun h => ?_)
  · refine rt_k1 rfl ck1_0 ?_
    exact rt_eVb rfl (Or.inl rfl)
  · refine rt_ln rfl rfl ?_
    refine rt_k1 rfl ck1_3 ?_
    refine rt_ic rfl rfl (fun h => ?_) (fun h => ?_)
    · refine rt_k1 rfl ck1_0 ?_
      exact rt_eVb rfl (Or.inl rfl)
    · refine rt_k1 rfl ck1_1 ?_
      refine rt_go rfl ?_
      exact rt_eVb rfl (Or.inr rfl)
noncomputable def v_X4_commonDivisor_b7 (k7 : Int32 → Int32 → Int32 → Int32) (x2_ : Int32) (x3_ : Int32) (x4_ : Int32) : Int32 := (if (64 : Int32) ≤ x4_ then x2_ else (if x3_ = 0 then x2_ else (k7 x3_ (rm x2_ x3_) (x4_ + (1 : Int32)))))
noncomputable def p_X4_commonDivisor_b7 (kp7 : Int32 → Int32 → Int32 → Prop) (x2_ : Int32) (x3_ : Int32) (x4_ : Int32) : Prop := (¬ ((64 : Int32) ≤ x4_) → (¬ (x3_ = 0) → (¬ x3_ = 0 ∧ (kp7 x3_ (rm x2_ x3_) (x4_ + (1 : Int32))))))
theorem m_X4_commonDivisor_b7 {s : List Int32} {σ : sg_S} (k7 : Int32 → Int32 → Int32 → Int32) (kp7 : Int32 → Int32 → Int32 → Prop) (hk7 : ∀ (x2_ : Int32) (x3_ : Int32) (x4_ : Int32) (o0_ : Option (ip_V Int32)) (o1_ : Option (ip_V Int32)) (o5_ : Option (ip_V Int32)), kp7 x2_ x3_ x4_ → RtF bk (fV σ) s 122 7 [o0_, o1_, some (.inl x2_), some (.inl x3_), some (.inl x4_), o5_] [] σ (k7 x2_ x3_ x4_)) (x2_ : Int32) (x3_ : Int32) (x4_ : Int32) (o0_ : Option (ip_V Int32)) (o1_ : Option (ip_V Int32)) (o5_ : Option (ip_V Int32)) (hp : p_X4_commonDivisor_b7 kp7 x2_ x3_ x4_) : RtF bk (fV σ) s 122 7 [o0_, o1_, some (.inl x2_), some (.inl x3_), some (.inl x4_), o5_] [] σ (v_X4_commonDivisor_b7 k7 x2_ x3_ x4_) := by
  unfold v_X4_commonDivisor_b7
  unfold p_X4_commonDivisor_b7 at hp
  refine rt_ld rfl rfl ?_
  refine rt_k2 rfl ck2_64 ?_
  refine rt_ic rfl rfl (fun h => ?_) (fun h => ?_)
  · refine rt_ln rfl rfl ?_
    exact rt_eV rfl
  · replace hp := hp h
    refine rt_ln rfl rfl ?_
    refine rt_if rfl rfl (fun h => ?_) (fun h => ?_)
    · refine rt_ln rfl rfl ?_
      exact rt_eV rfl
    · replace hp := hp h
      refine rt_ln rfl rfl ?_
      refine rt_ln rfl rfl ?_
      refine rt_rem rfl hp.1 ?_
      replace hp := hp.2
      refine rt_st (la1 := [o0_, o1_, some (.inl x2_), some (.inl x3_), some (.inl x4_), some (.inl (rm x2_ x3_))]) rfl rfl rfl ?_
      refine rt_ln rfl rfl ?_
      refine rt_sn (la1 := [o0_, o1_, some (.inl x3_), some (.inl x3_), some (.inl x4_), some (.inl (rm x2_ x3_))]) rfl rfl rfl ?_
      refine rt_ld rfl rfl ?_
      refine rt_sn (la1 := [o0_, o1_, some (.inl x3_), some (.inl (rm x2_ x3_)), some (.inl x4_), some (.inl (rm x2_ x3_))]) rfl rfl rfl ?_
      refine rt_inc (la1 := [o0_, o1_, some (.inl x3_), some (.inl (rm x2_ x3_)), some (.inl (x4_ + (1 : Int32))), some (.inl (rm x2_ x3_))]) rfl rfl ck1_1 rfl ?_
      refine rt_go rfl ?_
      exact hk7 x3_ (rm x2_ x3_) (x4_ + (1 : Int32)) _ _ _ hp
noncomputable def v_X4_commonDivisor_l7 (n : Nat) : Int32 → Int32 → Int32 → Int32 := Nat.rec (motive := fun _ => Int32 → Int32 → Int32 → Int32) (fun _ _ _ => 0) (fun _ ih => v_X4_commonDivisor_b7 ih) n
noncomputable def p_X4_commonDivisor_l7 (n : Nat) : Int32 → Int32 → Int32 → Prop := Nat.rec (motive := fun _ => Int32 → Int32 → Int32 → Prop) (fun _ _ _ => False) (fun _ ih => p_X4_commonDivisor_b7 ih) n
theorem m_X4_commonDivisor_l7 {s : List Int32} {σ : sg_S} : ∀ (n : Nat), ∀ (x2_ : Int32) (x3_ : Int32) (x4_ : Int32) (o0_ : Option (ip_V Int32)) (o1_ : Option (ip_V Int32)) (o5_ : Option (ip_V Int32)), p_X4_commonDivisor_l7 n x2_ x3_ x4_ → RtF bk (fV σ) s 122 7 [o0_, o1_, some (.inl x2_), some (.inl x3_), some (.inl x4_), o5_] [] σ (v_X4_commonDivisor_l7 n x2_ x3_ x4_) := by
  intro n
  induction n with
  | zero =>
    intro x2_ x3_ x4_ o0_ o1_ o5_ hp
    exact hp.elim
  | succ n ih =>
    intro x2_ x3_ x4_ o0_ o1_ o5_ hp
    exact m_X4_commonDivisor_b7 (v_X4_commonDivisor_l7 n) (p_X4_commonDivisor_l7 n) ih x2_ x3_ x4_ o0_ o1_ o5_ hp
noncomputable def v_X4_commonDivisor (x0 : Int32) (x1 : Int32) : Int32 := (v_X4_commonDivisor_l7 600 x0 x1 (0 : Int32))
noncomputable def p_X4_commonDivisor (x0 : Int32) (x1 : Int32) : Prop := (p_X4_commonDivisor_l7 600 x0 x1 (0 : Int32))
theorem m_X4_commonDivisor {s : List Int32} {σ : sg_S} (x0 : Int32) (x1 : Int32) (hp : p_X4_commonDivisor x0 x1) : Ct s 122 [.inl x0, .inl x1] σ [.inl (v_X4_commonDivisor x0 x1)] σ := by
  refine ct_s (la := [some (.inl x0), some (.inl x1), none, none, none, none]) rfl rfl rfl rfl rfl (cgV ?_)
  unfold v_X4_commonDivisor
  unfold p_X4_commonDivisor at hp
  refine rt_ln rfl rfl ?_
  refine rt_sn (la1 := [some (.inl x0), some (.inl x1), some (.inl x0), none, none, none]) rfl rfl rfl ?_
  refine rt_ln rfl rfl ?_
  refine rt_sn (la1 := [some (.inl x0), some (.inl x1), some (.inl x0), some (.inl x1), none, none]) rfl rfl rfl ?_
  refine rt_k1 rfl ck1_0 ?_
  refine rt_st (la1 := [some (.inl x0), some (.inl x1), some (.inl x0), some (.inl x1), some (.inl (0 : Int32)), none]) rfl rfl rfl ?_
  exact m_X4_commonDivisor_l7 600 x0 x1 (0 : Int32) _ _ _ hp
noncomputable def v_X5_in (x0 : Int32) (x1 : Int32) (x2 : Int32) : Int32 := (if x0 < x1 then (0 : Int32) else (if x2 < x0 then (0 : Int32) else (1 : Int32)))
theorem m_X5_in {s : List Int32} {σ : sg_S} (x0 : Int32) (x1 : Int32) (x2 : Int32) : Ct s 124 [.inl x0, .inl x1, .inl x2] σ [.inl (v_X5_in x0 x1 x2)] σ := by
  refine ct_s (la := [some (.inl x0), some (.inl x1), some (.inl x2)]) rfl rfl rfl rfl rfl (cgV ?_)
  unfold v_X5_in
  refine rt_ln rfl rfl ?_
  refine rt_ln rfl rfl ?_
  refine rt_ic rfl rfl (fun h => ?_) (fun h => ?_)
  · refine rt_k1 rfl ck1_0 ?_
    exact rt_eVb rfl (Or.inl rfl)
  · refine rt_ln rfl rfl ?_
    refine rt_ln rfl rfl ?_
    refine rt_ic rfl rfl (fun h => ?_) (fun h => ?_)
    · refine rt_k1 rfl ck1_0 ?_
      exact rt_eVb rfl (Or.inl rfl)
    · refine rt_k1 rfl ck1_1 ?_
      refine rt_go rfl ?_
      exact rt_eVb rfl (Or.inr rfl)
theorem bt_in {x0 x1 x2 : Int32} : bt (v_X5_in x0 x1 x2) := by
  unfold v_X5_in
  split
  · exact Or.inl rfl
  · split
    · exact Or.inl rfl
    · exact Or.inr rfl
noncomputable def v_X5_worthOf (σ : sg_S) (x0 : Int32) (x1 : Int32) : Int32 := (if ¬ x1 = (10 : Int32) then (if ¬ (rm x0 (30 : Int32)) = 0 then (((30 : Int32) * (σ 37 (ni (((5 : Int32) * x1) + (x0 / (30 : Int32)))))) + ((rm x0 (30 : Int32)) * ((σ 37 (ni ((((5 : Int32) * x1) + (x0 / (30 : Int32))) + (1 : Int32)))) - (σ 37 (ni (((5 : Int32) * x1) + (x0 / (30 : Int32)))))))) else ((30 : Int32) * (σ 37 (ni (((5 : Int32) * x1) + (x0 / (30 : Int32))))))) else (0 : Int32))
noncomputable def p_X5_worthOf (x0 : Int32) (x1 : Int32) : Prop := (¬ x1 = (10 : Int32) → (ix (((5 : Int32) * x1) + (x0 / (30 : Int32))) 50 ∧ (¬ (rm x0 (30 : Int32)) = 0 → (ix ((((5 : Int32) * x1) + (x0 / (30 : Int32))) + (1 : Int32)) 50 ∧ ix (((5 : Int32) * x1) + (x0 / (30 : Int32))) 50))))
theorem m_X5_worthOf {s : List Int32} {σ : sg_S} (x0 : Int32) (x1 : Int32) (hp : p_X5_worthOf x0 x1) : Ct s 125 [rf 35, .inl x0, .inl x1] σ [.inl (v_X5_worthOf σ x0 x1)] σ := by
  refine ct_v (la := [some (rf 35), some (.inl x0), some (.inl x1), none, none, none]) Kq_35 rfl rfl rfl rfl rfl rfl rfl (cgV ?_)
  unfold v_X5_worthOf
  unfold p_X5_worthOf at hp
  refine rt_ln rfl rfl ?_
  refine rt_k2 rfl ck2_10 ?_
  refine rt_ic rfl rfl (fun h => ?_) (fun h => ?_)
  · replace hp := hp h
    refine rt_ln rfl rfl ?_
    refine rt_k2 rfl ck2_30 ?_
    refine rt_div rfl (by decide) ?_
    refine rt_sn (la1 := [some (rf 35), some (.inl x0), some (.inl x1), some (.inl (x0 / (30 : Int32))), none, none]) rfl rfl rfl ?_
    refine rt_ln rfl rfl ?_
    refine rt_k2 rfl ck2_30 ?_
    refine rt_rem rfl (by decide) ?_
    refine rt_st (la1 := [some (rf 35), some (.inl x0), some (.inl x1), some (.inl (x0 / (30 : Int32))), some (.inl (rm x0 (30 : Int32))), none]) rfl rfl rfl ?_
    refine rt_k2 rfl ck2_30 ?_
    refine rt_lna rfl rfl ?_
    refine rt_gfr rfl Kq_35 (by decide) rfl ?_
    refine rt_k1 rfl ck1_5 ?_
    refine rt_ln rfl rfl ?_
    refine rt_mul rfl ?_
    refine rt_ln rfl rfl ?_
    refine rt_add rfl ?_
    refine rt_al rfl Kq_37 hp.1 rfl ?_
    replace hp := hp.2
    refine rt_mul rfl ?_
    refine rt_st (la1 := [some (rf 35), some (.inl x0), some (.inl x1), some (.inl (x0 / (30 : Int32))), some (.inl (rm x0 (30 : Int32))), some (.inl ((30 : Int32) * (σ 37 (ni (((5 : Int32) * x1) + (x0 / (30 : Int32)))))))]) rfl rfl rfl ?_
    refine rt_ld rfl rfl ?_
    refine rt_if rfl rfl (fun h => ?_) (fun h => ?_)
    · replace hp := hp h
      refine rt_ld rfl rfl ?_
      refine rt_ld rfl rfl ?_
      refine rt_lna rfl rfl ?_
      refine rt_gfr rfl Kq_35 (by decide) rfl ?_
      refine rt_k1 rfl ck1_5 ?_
      refine rt_ln rfl rfl ?_
      refine rt_mul rfl ?_
      refine rt_ln rfl rfl ?_
      refine rt_add rfl ?_
      refine rt_k1 rfl ck1_1 ?_
      refine rt_add rfl ?_
      refine rt_al rfl Kq_37 hp.1 rfl ?_
      replace hp := hp.2
      refine rt_lna rfl rfl ?_
      refine rt_gfr rfl Kq_35 (by decide) rfl ?_
      refine rt_k1 rfl ck1_5 ?_
      refine rt_ln rfl rfl ?_
      refine rt_mul rfl ?_
      refine rt_ln rfl rfl ?_
      refine rt_add rfl ?_
      refine rt_al rfl Kq_37 hp rfl ?_
      refine rt_sub rfl ?_
      refine rt_mul rfl ?_
      refine rt_add rfl ?_
      exact rt_eV rfl
    · refine rt_ld rfl rfl ?_
      refine rt_go rfl ?_
      exact rt_eV rfl
  · refine rt_k1 rfl ck1_0 ?_
    exact rt_eV rfl
noncomputable def v_X5_full (σ : sg_S) : Int32 := ((30 : Int32) * (σ 37 4))
theorem m_X5_full {s : List Int32} {σ : sg_S} : Ct s 126 [rf 35] σ [.inl (v_X5_full σ)] σ := by
  refine ct_v (la := [some (rf 35)]) Kq_35 rfl rfl rfl rfl rfl rfl rfl (cgV ?_)
  unfold v_X5_full
  refine rt_k2 rfl ck2_30 ?_
  refine rt_lna rfl rfl ?_
  refine rt_gfr rfl Kq_35 (by decide) rfl ?_
  refine rt_k1 rfl ck1_4 ?_
  refine rt_al (k0 := 4) rfl Kq_37 ⟨by decide, by decide⟩ rfl ?_
  refine rt_mul rfl ?_
  exact rt_eV rfl
noncomputable def r_X5_worth (σ : sg_S) (x0 : Int32) (x1 : Int32) : Int32 × sg_S := (if (v_X5_in x0 (0 : Int32) (120 : Int32)) = 0 then ((-1 : Int32), (sg_up σ 35 0 (0 : Int32))) else (if (v_X5_in x1 (0 : Int32) (10 : Int32)) = 0 then ((-1 : Int32), (sg_up σ 35 0 (0 : Int32))) else ((v_X5_worthOf (sg_up σ 35 0 (0 : Int32)) x0 x1), (sg_up σ 35 0 (0 : Int32)))))
noncomputable def p_X5_worth (x0 : Int32) (x1 : Int32) : Prop := (¬ ((v_X5_in x0 (0 : Int32) (120 : Int32)) = 0) → (¬ ((v_X5_in x1 (0 : Int32) (10 : Int32)) = 0) → p_X5_worthOf x0 x1))
theorem m_X5_worth {s : List Int32} {σ : sg_S} (x0 : Int32) (x1 : Int32) (hp : p_X5_worth x0 x1) : Ct s 127 [rf 35, .inl x0, .inl x1] σ [.inl (r_X5_worth σ x0 x1).1] (r_X5_worth σ x0 x1).2 := by
  refine ct_v (la := [some (rf 35), some (.inl x0), some (.inl x1)]) Kq_35 rfl rfl rfl rfl rfl rfl rfl (cgR ?_)
  unfold r_X5_worth
  unfold p_X5_worth at hp
  refine rt_lna rfl rfl ?_
  refine rt_k1 rfl ck1_0 ?_
  refine rt_pf (σ1 := (sg_up σ 35 0 (0 : Int32))) rfl Kq_35 (by decide) rfl rfl rfl ?_
  refine rt_ln rfl rfl ?_
  refine rt_k1 rfl ck1_0 ?_
  refine rt_k2 rfl ck2_120 ?_
  refine rt_is (σ1 := (sg_up σ 35 0 (0 : Int32))) rfl rfl rfl (m_X5_in x0 (0 : Int32) (120 : Int32)) ?_
  show RtF bk fR s 127 12 [some (rf 35), some (.inl x0), some (.inl x1)] [.inl (v_X5_in x0 (0 : Int32) (120 : Int32))] (sg_up σ 35 0 (0 : Int32)) _
  refine rt_if rfl rfl (fun h => ?_) (fun h => ?_)
  · refine rt_k1 rfl ck1_m1 ?_
    exact rt_eR rfl
  · replace hp := hp h
    refine rt_ln rfl rfl ?_
    refine rt_k1 rfl ck1_0 ?_
    refine rt_k2 rfl ck2_10 ?_
    refine rt_is (σ1 := (sg_up σ 35 0 (0 : Int32))) rfl rfl rfl (m_X5_in x1 (0 : Int32) (10 : Int32)) ?_
    show RtF bk fR s 127 22 [some (rf 35), some (.inl x0), some (.inl x1)] [.inl (v_X5_in x1 (0 : Int32) (10 : Int32))] (sg_up σ 35 0 (0 : Int32)) _
    refine rt_if rfl rfl (fun h => ?_) (fun h => ?_)
    · refine rt_k1 rfl ck1_m1 ?_
      exact rt_eR rfl
    · replace hp := hp h
      refine rt_lna rfl rfl ?_
      refine rt_ln rfl rfl ?_
      refine rt_ln rfl rfl ?_
      refine rt_iv (σ1 := (sg_up σ 35 0 (0 : Int32))) rfl rfl rfl (m_X5_worthOf x0 x1 hp) ?_
      show RtF bk fR s 127 31 [some (rf 35), some (.inl x0), some (.inl x1)] [.inl (v_X5_worthOf (sg_up σ 35 0 (0 : Int32)) x0 x1)] (sg_up σ 35 0 (0 : Int32)) _
      refine rt_go rfl ?_
      exact rt_eR rfl
noncomputable def r_X5_told (σ : sg_S) (x0 : Int32) (x1 : Int32) : Int32 × sg_S := (if (v_X5_in x0 (0 : Int32) (9 : Int32)) = 0 then ((-1 : Int32), (sg_up σ 35 0 (0 : Int32))) else (if (v_X5_in x1 (1 : Int32) (4 : Int32)) = 0 then ((-1 : Int32), (sg_up σ 35 0 (0 : Int32))) else (((sg_up σ 35 0 (0 : Int32)) 37 (ni (((5 : Int32) * x0) + x1))), (sg_up σ 35 0 (0 : Int32)))))
noncomputable def p_X5_told (x0 : Int32) (x1 : Int32) : Prop := (¬ ((v_X5_in x0 (0 : Int32) (9 : Int32)) = 0) → (¬ ((v_X5_in x1 (1 : Int32) (4 : Int32)) = 0) → ix (((5 : Int32) * x0) + x1) 50))
theorem m_X5_told {s : List Int32} {σ : sg_S} (x0 : Int32) (x1 : Int32) (hp : p_X5_told x0 x1) : Ct s 128 [rf 35, .inl x0, .inl x1] σ [.inl (r_X5_told σ x0 x1).1] (r_X5_told σ x0 x1).2 := by
  refine ct_v (la := [some (rf 35), some (.inl x0), some (.inl x1)]) Kq_35 rfl rfl rfl rfl rfl rfl rfl (cgR ?_)
  unfold r_X5_told
  unfold p_X5_told at hp
  refine rt_lna rfl rfl ?_
  refine rt_k1 rfl ck1_0 ?_
  refine rt_pf (σ1 := (sg_up σ 35 0 (0 : Int32))) rfl Kq_35 (by decide) rfl rfl rfl ?_
  refine rt_ln rfl rfl ?_
  refine rt_k1 rfl ck1_0 ?_
  refine rt_k2 rfl ck2_9 ?_
  refine rt_is (σ1 := (sg_up σ 35 0 (0 : Int32))) rfl rfl rfl (m_X5_in x0 (0 : Int32) (9 : Int32)) ?_
  show RtF bk fR s 128 12 [some (rf 35), some (.inl x0), some (.inl x1)] [.inl (v_X5_in x0 (0 : Int32) (9 : Int32))] (sg_up σ 35 0 (0 : Int32)) _
  refine rt_if rfl rfl (fun h => ?_) (fun h => ?_)
  · refine rt_k1 rfl ck1_m1 ?_
    exact rt_eR rfl
  · replace hp := hp h
    refine rt_ln rfl rfl ?_
    refine rt_k1 rfl ck1_1 ?_
    refine rt_k1 rfl ck1_4 ?_
    refine rt_is (σ1 := (sg_up σ 35 0 (0 : Int32))) rfl rfl rfl (m_X5_in x1 (1 : Int32) (4 : Int32)) ?_
    show RtF bk fR s 128 21 [some (rf 35), some (.inl x0), some (.inl x1)] [.inl (v_X5_in x1 (1 : Int32) (4 : Int32))] (sg_up σ 35 0 (0 : Int32)) _
    refine rt_if rfl rfl (fun h => ?_) (fun h => ?_)
    · refine rt_k1 rfl ck1_m1 ?_
      exact rt_eR rfl
    · replace hp := hp h
      refine rt_lna rfl rfl ?_
      refine rt_gfr rfl Kq_35 (by decide) rfl ?_
      refine rt_k1 rfl ck1_5 ?_
      refine rt_ln rfl rfl ?_
      refine rt_mul rfl ?_
      refine rt_ln rfl rfl ?_
      refine rt_add rfl ?_
      refine rt_al rfl Kq_37 hp rfl ?_
      refine rt_go rfl ?_
      exact rt_eR rfl
noncomputable def t_X5_begins_0 (σ : sg_S) (x1_ : Int32) : sg_S := (sg_up (sg_up σ 35 23 (0 : Int32)) 35 24 (0 : Int32))
noncomputable def s_X5_begins_b131 (k131 : sg_S → Int32 → sg_S) (σ : sg_S) (x1_ : Int32) : sg_S := (if (14 : Int32) ≤ x1_ then (t_X5_begins_0 σ x1_) else (k131 (sg_up σ 56 (ni x1_) (0 : Int32)) (x1_ + (1 : Int32))))
noncomputable def p_X5_begins_b131 (kp131 : sg_S → Int32 → Prop) (σ : sg_S) (x1_ : Int32) : Prop := (¬ ((14 : Int32) ≤ x1_) → (ix x1_ 14 ∧ (kp131 (sg_up σ 56 (ni x1_) (0 : Int32)) (x1_ + (1 : Int32)))))
theorem m_X5_begins_b131 {s : List Int32} (k131 : sg_S → Int32 → sg_S) (kp131 : sg_S → Int32 → Prop) (hk131 : ∀ (σ : sg_S) (x1_ : Int32), kp131 σ x1_ → RtF bk fS s 129 131 [some (rf 35), some (.inl x1_)] [] σ (k131 σ x1_)) (σ : sg_S) (x1_ : Int32) (hp : p_X5_begins_b131 kp131 σ x1_) : RtF bk fS s 129 131 [some (rf 35), some (.inl x1_)] [] σ (s_X5_begins_b131 k131 σ x1_) := by
  unfold s_X5_begins_b131
  unfold p_X5_begins_b131 at hp
  refine rt_ln rfl rfl ?_
  refine rt_k2 rfl ck2_14 ?_
  refine rt_ic rfl rfl (fun h => ?_) (fun h => ?_)
  · refine rt_lna rfl rfl ?_
    refine rt_k1 rfl ck1_0 ?_
    refine rt_pf (σ1 := (sg_up σ 35 23 (0 : Int32))) rfl Kq_35 (by decide) rfl rfl rfl ?_
    refine rt_lna rfl rfl ?_
    refine rt_k1 rfl ck1_0 ?_
    refine rt_pz (σ1 := (t_X5_begins_0 σ x1_)) rfl Kq_35 (Or.inl rfl) (by decide) rfl rfl rfl ?_
    exact rt_eS rfl
  · replace hp := hp h
    refine rt_lna rfl rfl ?_
    refine rt_gfr rfl Kq_35 (by decide) rfl ?_
    refine rt_ln rfl rfl ?_
    refine rt_k1 rfl ck1_0 ?_
    refine rt_as (k0 := (ni x1_)) (σ1 := (sg_up σ 56 (ni x1_) (0 : Int32))) rfl Kq_56 hp.1 rfl rfl ?_
    replace hp := hp.2
    refine rt_inc (la1 := [some (rf 35), some (.inl (x1_ + (1 : Int32)))]) rfl rfl ck1_1 rfl ?_
    refine rt_go rfl ?_
    exact hk131 (sg_up σ 56 (ni x1_) (0 : Int32)) (x1_ + (1 : Int32)) hp
noncomputable def s_X5_begins_l131 (n : Nat) : sg_S → Int32 → sg_S := Nat.rec (motive := fun _ => sg_S → Int32 → sg_S) (fun σ _ => σ) (fun _ ih => s_X5_begins_b131 ih) n
noncomputable def p_X5_begins_l131 (n : Nat) : sg_S → Int32 → Prop := Nat.rec (motive := fun _ => sg_S → Int32 → Prop) (fun _ _ => False) (fun _ ih => p_X5_begins_b131 ih) n
theorem m_X5_begins_l131 {s : List Int32} : ∀ (n : Nat), ∀ (σ : sg_S) (x1_ : Int32), p_X5_begins_l131 n σ x1_ → RtF bk fS s 129 131 [some (rf 35), some (.inl x1_)] [] σ (s_X5_begins_l131 n σ x1_) := by
  intro n
  induction n with
  | zero =>
    intro σ x1_ hp
    exact hp.elim
  | succ n ih =>
    intro σ x1_ hp
    exact m_X5_begins_b131 (s_X5_begins_l131 n) (p_X5_begins_l131 n) ih σ x1_ hp
noncomputable def t_X5_begins_1 (σ : sg_S) (x1_ : Int32) : sg_S := (sg_up (sg_up σ 53 (ni x1_) (0 : Int32)) 54 (ni x1_) (0 : Int32))
noncomputable def t_X5_begins_2 (σ : sg_S) (x1_ : Int32) : sg_S := (sg_up (t_X5_begins_1 σ x1_) 55 (ni x1_) (0 : Int32))
noncomputable def s_X5_begins_b96 (k96 : sg_S → Int32 → sg_S) (σ : sg_S) (x1_ : Int32) : sg_S := (if (40 : Int32) ≤ x1_ then (s_X5_begins_l131 600 σ (0 : Int32)) else (k96 (t_X5_begins_2 σ x1_) (x1_ + (1 : Int32))))
noncomputable def p_X5_begins_b96 (kp96 : sg_S → Int32 → Prop) (σ : sg_S) (x1_ : Int32) : Prop := (((40 : Int32) ≤ x1_ → (p_X5_begins_l131 600 σ (0 : Int32))) ∧ (¬ ((40 : Int32) ≤ x1_) → (ix x1_ 40 ∧ (ix x1_ 40 ∧ (ix x1_ 40 ∧ (kp96 (t_X5_begins_2 σ x1_) (x1_ + (1 : Int32))))))))
theorem m_X5_begins_b96 {s : List Int32} (k96 : sg_S → Int32 → sg_S) (kp96 : sg_S → Int32 → Prop) (hk96 : ∀ (σ : sg_S) (x1_ : Int32), kp96 σ x1_ → RtF bk fS s 129 96 [some (rf 35), some (.inl x1_)] [] σ (k96 σ x1_)) (σ : sg_S) (x1_ : Int32) (hp : p_X5_begins_b96 kp96 σ x1_) : RtF bk fS s 129 96 [some (rf 35), some (.inl x1_)] [] σ (s_X5_begins_b96 k96 σ x1_) := by
  unfold s_X5_begins_b96
  unfold p_X5_begins_b96 at hp
  refine rt_ln rfl rfl ?_
  refine rt_k2 rfl ck2_40 ?_
  refine rt_ic rfl rfl (fun h => ?_) (fun h => ?_)
  · replace hp := hp.1 h
    refine rt_k1 rfl ck1_0 ?_
    refine rt_sn (la1 := [some (rf 35), some (.inl (0 : Int32))]) rfl rfl rfl ?_
    exact m_X5_begins_l131 600 σ (0 : Int32) hp
  · replace hp := hp.2 h
    refine rt_lna rfl rfl ?_
    refine rt_gfr rfl Kq_35 (by decide) rfl ?_
    refine rt_ln rfl rfl ?_
    refine rt_k1 rfl ck1_0 ?_
    refine rt_as (k0 := (ni x1_)) (σ1 := (sg_up σ 53 (ni x1_) (0 : Int32))) rfl Kq_53 hp.1 rfl rfl ?_
    replace hp := hp.2
    refine rt_lna rfl rfl ?_
    refine rt_gfr rfl Kq_35 (by decide) rfl ?_
    refine rt_ln rfl rfl ?_
    refine rt_k1 rfl ck1_0 ?_
    refine rt_as (k0 := (ni x1_)) (σ1 := (t_X5_begins_1 σ x1_)) rfl Kq_54 hp.1 rfl rfl ?_
    replace hp := hp.2
    refine rt_lna rfl rfl ?_
    refine rt_gfr rfl Kq_35 (by decide) rfl ?_
    refine rt_ln rfl rfl ?_
    refine rt_k1 rfl ck1_0 ?_
    refine rt_as (k0 := (ni x1_)) (σ1 := (t_X5_begins_2 σ x1_)) rfl Kq_55 hp.1 rfl rfl ?_
    replace hp := hp.2
    refine rt_inc (la1 := [some (rf 35), some (.inl (x1_ + (1 : Int32)))]) rfl rfl ck1_1 rfl ?_
    refine rt_go rfl ?_
    exact hk96 (t_X5_begins_2 σ x1_) (x1_ + (1 : Int32)) hp
noncomputable def s_X5_begins_l96 (n : Nat) : sg_S → Int32 → sg_S := Nat.rec (motive := fun _ => sg_S → Int32 → sg_S) (fun σ _ => σ) (fun _ ih => s_X5_begins_b96 ih) n
noncomputable def p_X5_begins_l96 (n : Nat) : sg_S → Int32 → Prop := Nat.rec (motive := fun _ => sg_S → Int32 → Prop) (fun _ _ => False) (fun _ ih => p_X5_begins_b96 ih) n
theorem m_X5_begins_l96 {s : List Int32} : ∀ (n : Nat), ∀ (σ : sg_S) (x1_ : Int32), p_X5_begins_l96 n σ x1_ → RtF bk fS s 129 96 [some (rf 35), some (.inl x1_)] [] σ (s_X5_begins_l96 n σ x1_) := by
  intro n
  induction n with
  | zero =>
    intro σ x1_ hp
    exact hp.elim
  | succ n ih =>
    intro σ x1_ hp
    exact m_X5_begins_b96 (s_X5_begins_l96 n) (p_X5_begins_l96 n) ih σ x1_ hp
noncomputable def t_X5_begins_3 (σ : sg_S) (x1_ : Int32) : sg_S := (sg_up (sg_up σ 41 (ni x1_) (0 : Int32)) 42 (ni x1_) (0 : Int32))
noncomputable def t_X5_begins_4 (σ : sg_S) (x1_ : Int32) : sg_S := (sg_up (t_X5_begins_3 σ x1_) 43 (ni x1_) (0 : Int32))
noncomputable def t_X5_begins_5 (σ : sg_S) (x1_ : Int32) : sg_S := (sg_up (t_X5_begins_4 σ x1_) 44 (ni x1_) ((t_X5_begins_4 σ x1_) 36 0))
noncomputable def t_X5_begins_6 (σ : sg_S) (x1_ : Int32) : sg_S := (sg_up (t_X5_begins_5 σ x1_) 45 (ni x1_) (v_X5_worthOf (t_X5_begins_5 σ x1_) ((6 : Int32) * ((t_X5_begins_5 σ x1_) 36 0)) (0 : Int32)))
noncomputable def t_X5_begins_7 (σ : sg_S) (x1_ : Int32) : sg_S := (sg_up (t_X5_begins_6 σ x1_) 46 (ni x1_) (0 : Int32))
noncomputable def t_X5_begins_8 (σ : sg_S) (x1_ : Int32) : sg_S := (sg_up (t_X5_begins_7 σ x1_) 47 (ni x1_) (0 : Int32))
noncomputable def t_X5_begins_9 (σ : sg_S) (x1_ : Int32) : sg_S := (sg_up (t_X5_begins_8 σ x1_) 48 (ni x1_) (0 : Int32))
noncomputable def t_X5_begins_10 (σ : sg_S) (x1_ : Int32) : sg_S := (sg_up (t_X5_begins_9 σ x1_) 49 (ni x1_) (0 : Int32))
noncomputable def s_X5_begins_b2 (k2 : sg_S → Int32 → sg_S) (σ : sg_S) (x1_ : Int32) : sg_S := (if (2 : Int32) ≤ x1_ then (s_X5_begins_l96 600 σ (0 : Int32)) else (k2 (t_X5_begins_10 σ x1_) (x1_ + (1 : Int32))))
noncomputable def p_X5_begins_b2 (kp2 : sg_S → Int32 → Prop) (σ : sg_S) (x1_ : Int32) : Prop := (((2 : Int32) ≤ x1_ → (p_X5_begins_l96 600 σ (0 : Int32))) ∧ (¬ ((2 : Int32) ≤ x1_) → (ix x1_ 2 ∧ (ix x1_ 2 ∧ (ix x1_ 2 ∧ (ix x1_ 2 ∧ (p_X5_worthOf ((6 : Int32) * ((t_X5_begins_5 σ x1_) 36 0)) (0 : Int32) ∧ (ix x1_ 2 ∧ (ix x1_ 2 ∧ (ix x1_ 2 ∧ (ix x1_ 2 ∧ (ix x1_ 2 ∧ (kp2 (t_X5_begins_10 σ x1_) (x1_ + (1 : Int32)))))))))))))))
theorem m_X5_begins_b2 {s : List Int32} (k2 : sg_S → Int32 → sg_S) (kp2 : sg_S → Int32 → Prop) (hk2 : ∀ (σ : sg_S) (x1_ : Int32), kp2 σ x1_ → RtF bk fS s 129 2 [some (rf 35), some (.inl x1_)] [] σ (k2 σ x1_)) (σ : sg_S) (x1_ : Int32) (hp : p_X5_begins_b2 kp2 σ x1_) : RtF bk fS s 129 2 [some (rf 35), some (.inl x1_)] [] σ (s_X5_begins_b2 k2 σ x1_) := by
  unfold s_X5_begins_b2
  unfold p_X5_begins_b2 at hp
  refine rt_ln rfl rfl ?_
  refine rt_k1 rfl ck1_2 ?_
  refine rt_ic rfl rfl (fun h => ?_) (fun h => ?_)
  · replace hp := hp.1 h
    refine rt_k1 rfl ck1_0 ?_
    refine rt_sn (la1 := [some (rf 35), some (.inl (0 : Int32))]) rfl rfl rfl ?_
    exact m_X5_begins_l96 600 σ (0 : Int32) hp
  · replace hp := hp.2 h
    refine rt_lna rfl rfl ?_
    refine rt_gfr rfl Kq_35 (by decide) rfl ?_
    refine rt_ln rfl rfl ?_
    refine rt_k1 rfl ck1_0 ?_
    refine rt_as (k0 := (ni x1_)) (σ1 := (sg_up σ 41 (ni x1_) (0 : Int32))) rfl Kq_41 hp.1 rfl rfl ?_
    replace hp := hp.2
    refine rt_lna rfl rfl ?_
    refine rt_gfr rfl Kq_35 (by decide) rfl ?_
    refine rt_ln rfl rfl ?_
    refine rt_k1 rfl ck1_0 ?_
    refine rt_as (k0 := (ni x1_)) (σ1 := (t_X5_begins_3 σ x1_)) rfl Kq_42 hp.1 rfl rfl ?_
    replace hp := hp.2
    refine rt_lna rfl rfl ?_
    refine rt_gfr rfl Kq_35 (by decide) rfl ?_
    refine rt_ln rfl rfl ?_
    refine rt_k1 rfl ck1_0 ?_
    refine rt_as (k0 := (ni x1_)) (σ1 := (t_X5_begins_4 σ x1_)) rfl Kq_43 hp.1 rfl rfl ?_
    replace hp := hp.2
    refine rt_lna rfl rfl ?_
    refine rt_gfr rfl Kq_35 (by decide) rfl ?_
    refine rt_ln rfl rfl ?_
    refine rt_lna rfl rfl ?_
    refine rt_gfr rfl Kq_35 (by decide) rfl ?_
    refine rt_k1 rfl ck1_0 ?_
    refine rt_al (k0 := 0) rfl Kq_36 ⟨by decide, by decide⟩ rfl ?_
    refine rt_as (k0 := (ni x1_)) (σ1 := (t_X5_begins_5 σ x1_)) rfl Kq_44 hp.1 rfl rfl ?_
    replace hp := hp.2
    refine rt_lna rfl rfl ?_
    refine rt_gfr rfl Kq_35 (by decide) rfl ?_
    refine rt_ln rfl rfl ?_
    refine rt_lna rfl rfl ?_
    refine rt_k2 rfl ck2_6 ?_
    refine rt_lna rfl rfl ?_
    refine rt_gfr rfl Kq_35 (by decide) rfl ?_
    refine rt_k1 rfl ck1_0 ?_
    refine rt_al (k0 := 0) rfl Kq_36 ⟨by decide, by decide⟩ rfl ?_
    refine rt_mul rfl ?_
    refine rt_k1 rfl ck1_0 ?_
    refine rt_iv (σ1 := (t_X5_begins_5 σ x1_)) rfl rfl rfl (m_X5_worthOf ((6 : Int32) * ((t_X5_begins_5 σ x1_) 36 0)) (0 : Int32) hp.1) ?_
    show RtF bk fS s 129 59 [some (rf 35), some (.inl x1_)] [.inl (v_X5_worthOf (t_X5_begins_5 σ x1_) ((6 : Int32) * ((t_X5_begins_5 σ x1_) 36 0)) (0 : Int32)), .inl x1_, rf 45] (t_X5_begins_5 σ x1_) _
    replace hp := hp.2
    refine rt_as (k0 := (ni x1_)) (σ1 := (t_X5_begins_6 σ x1_)) rfl Kq_45 hp.1 rfl rfl ?_
    replace hp := hp.2
    refine rt_lna rfl rfl ?_
    refine rt_gfr rfl Kq_35 (by decide) rfl ?_
    refine rt_ln rfl rfl ?_
    refine rt_k1 rfl ck1_0 ?_
    refine rt_as (k0 := (ni x1_)) (σ1 := (t_X5_begins_7 σ x1_)) rfl Kq_46 hp.1 rfl rfl ?_
    replace hp := hp.2
    refine rt_lna rfl rfl ?_
    refine rt_gfr rfl Kq_35 (by decide) rfl ?_
    refine rt_ln rfl rfl ?_
    refine rt_k1 rfl ck1_0 ?_
    refine rt_zs (k0 := (ni x1_)) (σ1 := (t_X5_begins_8 σ x1_)) rfl Kq_47 (Or.inl rfl) hp.1 rfl rfl ?_
    replace hp := hp.2
    refine rt_lna rfl rfl ?_
    refine rt_gfr rfl Kq_35 (by decide) rfl ?_
    refine rt_ln rfl rfl ?_
    refine rt_k1 rfl ck1_0 ?_
    refine rt_as (k0 := (ni x1_)) (σ1 := (t_X5_begins_9 σ x1_)) rfl Kq_48 hp.1 rfl rfl ?_
    replace hp := hp.2
    refine rt_lna rfl rfl ?_
    refine rt_gfr rfl Kq_35 (by decide) rfl ?_
    refine rt_ln rfl rfl ?_
    refine rt_k1 rfl ck1_0 ?_
    refine rt_as (k0 := (ni x1_)) (σ1 := (t_X5_begins_10 σ x1_)) rfl Kq_49 hp.1 rfl rfl ?_
    replace hp := hp.2
    refine rt_inc (la1 := [some (rf 35), some (.inl (x1_ + (1 : Int32)))]) rfl rfl ck1_1 rfl ?_
    refine rt_go rfl ?_
    exact hk2 (t_X5_begins_10 σ x1_) (x1_ + (1 : Int32)) hp
noncomputable def s_X5_begins_l2 (n : Nat) : sg_S → Int32 → sg_S := Nat.rec (motive := fun _ => sg_S → Int32 → sg_S) (fun σ _ => σ) (fun _ ih => s_X5_begins_b2 ih) n
noncomputable def p_X5_begins_l2 (n : Nat) : sg_S → Int32 → Prop := Nat.rec (motive := fun _ => sg_S → Int32 → Prop) (fun _ _ => False) (fun _ ih => p_X5_begins_b2 ih) n
theorem m_X5_begins_l2 {s : List Int32} : ∀ (n : Nat), ∀ (σ : sg_S) (x1_ : Int32), p_X5_begins_l2 n σ x1_ → RtF bk fS s 129 2 [some (rf 35), some (.inl x1_)] [] σ (s_X5_begins_l2 n σ x1_) := by
  intro n
  induction n with
  | zero =>
    intro σ x1_ hp
    exact hp.elim
  | succ n ih =>
    intro σ x1_ hp
    exact m_X5_begins_b2 (s_X5_begins_l2 n) (p_X5_begins_l2 n) ih σ x1_ hp
noncomputable def s_X5_begins (σ : sg_S) : sg_S := (s_X5_begins_l2 600 σ (0 : Int32))
noncomputable def p_X5_begins (σ : sg_S) : Prop := (p_X5_begins_l2 600 σ (0 : Int32))
theorem m_X5_begins {s : List Int32} {σ : sg_S} (hp : p_X5_begins σ) : Ct s 129 [rf 35] σ [] (s_X5_begins σ) := by
  refine ct_v (la := [some (rf 35), none]) Kq_35 rfl rfl rfl rfl rfl rfl rfl (cgS ?_)
  unfold s_X5_begins
  unfold p_X5_begins at hp
  refine rt_k1 rfl ck1_0 ?_
  refine rt_sn (la1 := [some (rf 35), some (.inl (0 : Int32))]) rfl rfl rfl ?_
  exact m_X5_begins_l2 600 σ (0 : Int32) hp
noncomputable def v_X5_left (σ : sg_S) (x0 : Int32) : Int32 := (((6 : Int32) * (σ 44 (ni x0))) - (σ 43 (ni x0)))
noncomputable def p_X5_left (x0 : Int32) : Prop := (ix x0 2 ∧ ix x0 2)
theorem m_X5_left {s : List Int32} {σ : sg_S} (x0 : Int32) (hp : p_X5_left x0) : Ct s 130 [rf 35, .inl x0] σ [.inl (v_X5_left σ x0)] σ := by
  refine ct_v (la := [some (rf 35), some (.inl x0)]) Kq_35 rfl rfl rfl rfl rfl rfl rfl (cgV ?_)
  unfold v_X5_left
  unfold p_X5_left at hp
  refine rt_k2 rfl ck2_6 ?_
  refine rt_lna rfl rfl ?_
  refine rt_gfr rfl Kq_35 (by decide) rfl ?_
  refine rt_ln rfl rfl ?_
  refine rt_al rfl Kq_44 hp.1 rfl ?_
  replace hp := hp.2
  refine rt_mul rfl ?_
  refine rt_lna rfl rfl ?_
  refine rt_gfr rfl Kq_35 (by decide) rfl ?_
  refine rt_ln rfl rfl ?_
  refine rt_al rfl Kq_43 hp rfl ?_
  refine rt_sub rfl ?_
  exact rt_eV rfl
noncomputable def v_X5_leftWorth (σ : sg_S) (x0 : Int32) : Int32 := (v_X5_worthOf σ (v_X5_left σ x0) (σ 42 (ni x0)))
noncomputable def p_X5_leftWorth (σ : sg_S) (x0 : Int32) : Prop := (p_X5_left x0 ∧ (ix x0 2 ∧ p_X5_worthOf (v_X5_left σ x0) (σ 42 (ni x0))))
theorem m_X5_leftWorth {s : List Int32} {σ : sg_S} (x0 : Int32) (hp : p_X5_leftWorth σ x0) : Ct s 131 [rf 35, .inl x0] σ [.inl (v_X5_leftWorth σ x0)] σ := by
  refine ct_v (la := [some (rf 35), some (.inl x0)]) Kq_35 rfl rfl rfl rfl rfl rfl rfl (cgV ?_)
  unfold v_X5_leftWorth
  unfold p_X5_leftWorth at hp
  refine rt_lna rfl rfl ?_
  refine rt_lna rfl rfl ?_
  refine rt_ln rfl rfl ?_
  refine rt_iv (σ1 := σ) rfl rfl rfl (m_X5_left x0 hp.1) ?_
  show RtF bk (fV σ) s 131 6 [some (rf 35), some (.inl x0)] [.inl (v_X5_left σ x0), rf 35] σ _
  replace hp := hp.2
  refine rt_lna rfl rfl ?_
  refine rt_gfr rfl Kq_35 (by decide) rfl ?_
  refine rt_ln rfl rfl ?_
  refine rt_al rfl Kq_42 hp.1 rfl ?_
  replace hp := hp.2
  refine rt_iv (σ1 := σ) rfl rfl rfl (m_X5_worthOf (v_X5_left σ x0) (σ 42 (ni x0)) hp) ?_
  show RtF bk (fV σ) s 131 15 [some (rf 35), some (.inl x0)] [.inl (v_X5_worthOf σ (v_X5_left σ x0) (σ 42 (ni x0)))] σ _
  exact rt_eV rfl
noncomputable def v_X5_takes (σ : sg_S) (x0 : Int32) (x1 : Int32) : Int32 := ((v_X5_leftWorth σ x0) - (v_X5_worthOf σ (((6 : Int32) * x1) - (σ 43 (ni x0))) (σ 42 (ni x0))))
noncomputable def p_X5_takes (σ : sg_S) (x0 : Int32) (x1 : Int32) : Prop := (p_X5_leftWorth σ x0 ∧ (ix x0 2 ∧ (ix x0 2 ∧ p_X5_worthOf (((6 : Int32) * x1) - (σ 43 (ni x0))) (σ 42 (ni x0)))))
theorem m_X5_takes {s : List Int32} {σ : sg_S} (x0 : Int32) (x1 : Int32) (hp : p_X5_takes σ x0 x1) : Ct s 132 [rf 35, .inl x0, .inl x1] σ [.inl (v_X5_takes σ x0 x1)] σ := by
  refine ct_v (la := [some (rf 35), some (.inl x0), some (.inl x1)]) Kq_35 rfl rfl rfl rfl rfl rfl rfl (cgV ?_)
  unfold v_X5_takes
  unfold p_X5_takes at hp
  refine rt_lna rfl rfl ?_
  refine rt_ln rfl rfl ?_
  refine rt_iv (σ1 := σ) rfl rfl rfl (m_X5_leftWorth x0 hp.1) ?_
  show RtF bk (fV σ) s 132 5 [some (rf 35), some (.inl x0), some (.inl x1)] [.inl (v_X5_leftWorth σ x0)] σ _
  replace hp := hp.2
  refine rt_lna rfl rfl ?_
  refine rt_k2 rfl ck2_6 ?_
  refine rt_ln rfl rfl ?_
  refine rt_mul rfl ?_
  refine rt_lna rfl rfl ?_
  refine rt_gfr rfl Kq_35 (by decide) rfl ?_
  refine rt_ln rfl rfl ?_
  refine rt_al rfl Kq_43 hp.1 rfl ?_
  replace hp := hp.2
  refine rt_sub rfl ?_
  refine rt_lna rfl rfl ?_
  refine rt_gfr rfl Kq_35 (by decide) rfl ?_
  refine rt_ln rfl rfl ?_
  refine rt_al rfl Kq_42 hp.1 rfl ?_
  replace hp := hp.2
  refine rt_iv (σ1 := σ) rfl rfl rfl (m_X5_worthOf (((6 : Int32) * x1) - (σ 43 (ni x0))) (σ 42 (ni x0)) hp) ?_
  show RtF bk (fV σ) s 132 26 [some (rf 35), some (.inl x0), some (.inl x1)] [.inl (v_X5_worthOf σ (((6 : Int32) * x1) - (σ 43 (ni x0))) (σ 42 (ni x0))), .inl (v_X5_leftWorth σ x0)] σ _
  refine rt_sub rfl ?_
  exact rt_eV rfl
