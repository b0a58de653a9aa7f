/-! BOTH READ THE SAME EVENTS -/
def EvI (T S : Nat → Nat) (k c t a : Nat) (σ τ : sg_S) (x : mS) : Prop :=
  CAt σ 7 T S x.1 x.2.1 x.2.2 ∧ σ 0 6 = N (k + c) ∧ k + c ≤ 400 ∧ mrun T S (σ 33) (σ 34) (k + c) = some x ∧ RefAt τ T S x.1 x.2.1 x.2.2 ∧ τ 35 6 = N k ∧ τ 35 31 = N c ∧ mrun T S (τ 39) (τ 40) (k + c) = some x ∧ (∀ j, j < k + c → τ 39 j = σ 33 j ∧ τ 40 j = σ 34 j) ∧ Pos σ τ t a
theorem EvI_fr {T S : Nat → Nat} {k c t a a' : Nat} {σ τ σ' τ' : sg_S} {x : mS} (h : EvI T S k c t a σ τ x) (hk : KSame σ σ') (hn : ∀ q j, ¬ (q = 35 ∧ (j = 28 ∨ j = 29 ∨ j = 30 ∨ j = 32)) → τ' q j = τ q j) (h1 : σ' 5 4 = N a') (h2 : τ' 35 28 = N a') (ha : a' ≤ t) : EvI T S k c t a' σ' τ' x := by
  obtain ⟨a1, a2, a3, a4, a5, a6, a7, a8, a9, p1, p2, p3, p4, p5, p6, p7⟩ := h
  have r33 : σ' 33 = σ 33 := hk.row (by decide)
  have r34 : σ' 34 = σ 34 := hk.row (by decide)
  have r39 : τ' 39 = τ 39 := funext (fun j => hn 39 j (by omega))
  have r40 : τ' 40 = τ 40 := funext (fun j => hn 40 j (by omega))
  refine ⟨CAt_fr a1 (fun q j hq => hk q j (by omega)), by rw [hk 0 6 (by decide)]; exact a2, a3, by rw [r33, r34]; exact a4, RefAt_fr a5 (fun q j hq => hn q j (by omega)), by rw [hn 35 6 (by decide)]; exact a6, by rw [hn 35 31 (by decide)]; exact a7, by rw [r39, r40]; exact a8, by rw [r33, r34, r39, r40]; exact a9, h1, by rw [hk 5 1 (by decide)]; exact p2, h2, by rw [hn 35 26 (by decide)]; exact p4, ha, p6, fun j hj => ?_⟩
  rw [hn 57 j (by omega), hk 6 j (by omega)]
  exact p7 j hj
theorem EvI_st {T S : Nat → Nat} {k c t a : Nat} {σ τ : sg_S} {x : mS} (h : EvI T S k c t a σ τ x) : CSt T S σ (k + c) := ⟨h.2.1, h.2.2.1, x, h.2.2.2.1, h.1⟩
theorem crec_5 {σ : sg_S} {T S : Nat → Nat} {k : Nat} {x y : mS} {e n : Int32} (h6 : σ 0 6 = N k) (hk : k < 400) (hA : CAt σ 7 T S x.1 x.2.1 x.2.2) (hx : mrun T S (σ 33) (σ 34) k = some x) (hs : stp T (S 1) x e n = some y) (j : Nat) : (s_X4_record σ e n) 5 j = σ 5 j := by
  have e1 : (sg_up σ 33 k e) 0 6 = N k := by rw [up_c (by decide)]; exact h6
  have et : t_X4_record_1 σ e n = sg_up (sg_up (sg_up σ 33 k e) 34 k n) 0 6 (N (k + 1)) := by
    unfold t_X4_record_1 t_X4_record_0
    rw [h6, ni_N (by omega), e1, ni_N (by omega), up_c (by decide), e1, N_inc]
  have er : s_X4_record σ e n = s_X0_take (sg_up (sg_up (sg_up σ 33 k e) 34 k n) 0 6 (N (k + 1))) 7 e n := by
    unfold s_X4_record
    rw [h6, if_neg (N_nn (by omega)), if_pos (by exact g_lt (L := 400) hk (by decide)), et]
  have hA1 : CAt (sg_up (sg_up (sg_up σ 33 k e) 34 k n) 0 6 (N (k + 1))) 7 T S x.1 x.2.1 x.2.2 := CAt_fr hA (fun q j hq => by
    rw [up_ne (by omega), up_ne (by omega), up_ne (by omega)])
  obtain ⟨t1, t2⟩ := take_ok (y := y) (by decide) hA1 (mrun_OK hA.2.1 hA.2.2.2.1 k x hx) (by omega) (show stp T (S 1) (x.1, x.2.1, x.2.2) e n = some y from hs)
  rw [er, t2 5 j (by decide), up_c (by decide), up_c (by decide), up_c (by decide)]
theorem rev157_lo {τ : sg_S} {T S : Nat → Nat} {k c : Nat} {x y : mS} {e n : Int32} (hR : RefAt τ T S x.1 x.2.1 x.2.2) (hO : OK T (S 1) (k + c) x.1 x.2.1 x.2.2) (h6 : τ 35 6 = N k) (h31 : τ 35 31 = N c) (hkc : k + c < 400) (hs : stp T (S 1) x e n = some y) {j : Nat} (hj : j < k + c) : (r_X5_readEvent_a157 τ e n).2 39 j = τ 39 j ∧ (r_X5_readEvent_a157 τ e n).2 40 j = τ 40 j := by
  have e1 : (sg_up τ 39 (k + c) e) 35 6 = N k := by rw [up_c (by decide)]; exact h6
  have e2 : (sg_up τ 39 (k + c) e) 35 31 = N c := by rw [up_c (by decide)]; exact h31
  have et : t_X5_readEvent_2 τ e n = sg_up (sg_up (sg_up τ 39 (k + c) e) 40 (k + c) n) 35 31 (N (c + 1)) := by
    unfold t_X5_readEvent_2 t_X5_readEvent_1
    rw [h6, h31, N_add, ni_N (by omega), e1, e2, N_add, ni_N (by omega), up_c (by decide), e2, N_inc]
  have hR3 : RefAt (sg_up (sg_up (sg_up τ 39 (k + c) e) 40 (k + c) n) 35 31 (N (c + 1))) T S x.1 x.2.1 x.2.2 := RefAt_fr hR (fun q j hq => by
    rw [up_ne (by omega), up_ne (by omega), up_ne (by omega)])
  obtain ⟨g1, g2, g3, g4⟩ := goes_ok (y := y) hR3 hO (by omega) (show stp T (S 1) (x.1, x.2.1, x.2.2) e n = some y from hs)
  unfold r_X5_readEvent_a157
  rw [et]
  dsimp only
  rw [g4 39 j (by decide) (by omega), g4 40 j (by decide) (by omega)]
  exact ⟨by rw [up_c (by decide), up_c (by decide), up_k (by omega)], by rw [up_c (by decide), up_k (by omega), up_c (by decide)]⟩
theorem ev_rec {T S : Nat → Nat} {k c t a : Nat} {σ τ : sg_S} {x : mS} {e n : Int32} (h : EvI T S k c t a σ τ x) (hkc : k + c < 400) (hc : canS x.1 x.2.1 x.2.2 e n) : ∃ y, EvI T S k (c + 1) t a (s_X4_record σ e n) (r_X5_readEvent_a157 τ e n).2 y ∧ (r_X5_readEvent_a157 τ e n).1 = 1 ∧ (r_X5_readEvent_a157 τ e n).2 35 29 = τ 35 29 := by
  obtain ⟨y, hy⟩ := stp_some (T := T) (mean := S 1) hc
  obtain ⟨a1, a2, a3, a4, a5, a6, a7, a8, a9, p1, p2, p3, p4, p5, p6, p7⟩ := h
  have hO := mrun_OK a1.2.1 a1.2.2.2.1 (k + c) x a4
  have r5 := crec_5 (y := y) a2 hkc a1 a4 hy
  obtain ⟨c1, c2, c3, c4, c5, c6⟩ := crec_ok (y := y) a2 hkc a1 a4 hy
  obtain ⟨-, q2, q3, q4, q5, q6, q7, q8, q9, q10⟩ := rev157 (y := y) a5 hO a6 a7 hkc a8 hy
  refine ⟨y, ⟨c3, c1, by omega, c2, q4, ?_, q5, q7, fun j hj => ?_, ?_, ?_, ?_, ?_, p5, p6, fun j hj => ?_⟩, q2, q8⟩
  · rw [q3 35 6 (by decide) (by decide) (by omega)]; exact a6
  · by_cases e2 : j = k + c
    · subst e2; exact ⟨q9.trans c5.symm, q10.trans c6.symm⟩
    · have hj2 : j < k + c := by omega
      rw [c4 33 j (by decide) (by omega) (by omega) (by omega), c4 34 j (by decide) (by omega) (by omega) (by omega)]
      have e1 : (r_X5_readEvent_a157 τ e n).2 39 j = τ 39 j ∧ (r_X5_readEvent_a157 τ e n).2 40 j = τ 40 j := rev157_lo a5 hO a6 a7 hkc hy hj2
      rw [e1.1, e1.2]
      exact a9 j hj2
  · rw [r5]; exact p1
  · rw [r5]; exact p2
  · rw [q6]; exact p3
  · rw [q3 35 26 (by decide) (by decide) (by omega)]; exact p4
  · rw [q3 57 j (by decide) (by omega) (by omega), c4 6 j (by decide) (by omega) (by omega) (by omega)]; exact p7 j hj
/-- what an event leaves in both -/
def EvO (T S : Nat → Nat) (k c t a : Nat) (z : Int32) (rc rr : Int32 × sg_S) : Prop :=
  (∃ a' y, rc.1 = 0 ∧ rr.1 = 1 ∧ EvI T S k (c + 1) t a' rc.2 rr.2 y ∧ a < a' ∧ rr.2 35 29 = z) ∨ (∃ f, 0 < f ∧ f < 10000 ∧ rc.1 = N f ∧ rr.1 = 0 ∧ rr.2 35 29 = N f ∧ CSt T S rc.2 (k + c))
theorem num_K {σ : sg_S} : KSame σ (r_X3_readNumber σ).2 := K_num
theorem ev105 {T S : Nat → Nat} {k c t a p : Nat} {z : Int32} {σ τ : sg_S} {x : mS} {e : Int32} (h : EvI T S k c t a σ τ x) (hkc : k + c < 400) (hi : x.1 < 2) (hp : p < a) (hz : τ 35 29 = z) (hev : isEv e) (he : (e = 99 ∨ e = 100 ∧ (x.1 = 0 ∨ x.1 = 1 ∧ x.2.1 = 0))) :
    EvO T S k c t p z (if ¬ (r_X3_readNumber σ).1 = 0 then (if ¬ (v_X0_fits (r_X3_readNumber σ).2 7 e ((r_X3_readNumber σ).2 5 3)) = 0 then ((0 : Int32), (s_X4_record (r_X3_readNumber σ).2 e ((r_X3_readNumber σ).2 5 3))) else ((v_X4_faultHere (r_X3_readNumber σ).2 (2 : Int32)), (r_X3_readNumber σ).2)) else ((v_X4_faultHere (r_X3_readNumber σ).2 (1 : Int32)), (r_X3_readNumber σ).2)) (r_X5_readEvent_a105 τ e) := by
  obtain ⟨a1, a2, a3, a4, a5, a6, a7, a8, a9, hP⟩ := id h
  have hO := mrun_OK a1.2.1 a1.2.2.2.1 (k + c) x a4
  have n2 := (rnum_ok hP.2.2.1 hP.2.2.2.1 hP.2.2.2.2.1 hP.2.2.2.2.2.1 rfl rfl rfl).2.1
  have hSt := CSt_K (EvI_st h) (K_num (σ := σ))
  obtain ⟨p', e', v, q1, q2, q3, q4, q⟩ := num_both hP
  have h5 := hP.2.2.2.2.2.1
  unfold r_X5_readEvent_a105
  rcases q with ⟨s1, s2, s3, s4, s5, s6, s7, s8, s10, s9⟩ | ⟨s1, s2, s3, s4, s5, s6, s7⟩ | ⟨s3, s5, s6, s7⟩
  · have hI : EvI T S k c t e' (r_X3_readNumber σ).2 (r_X5_readNumber τ).2 x := EvI_fr h K_num (fun q j hq => n2 q j hq) s9.1 s9.2.2.1 q3
    rw [s3, if_pos one_nz, s6, if_pos one_nz, s4, s7]
    have hfi := fits_iff (e := e) (n := N v) hI.1 hi (hO.2.2.2.1 x.1 hi) (hO.2.2.2.1 1 (by decide))
    have hmc := (mayCut_iff (n := N v) hI.2.2.2.2.1 hi (hO.2.2.2.1 x.1 hi)).2
    have hmd := mayDrop_iff (n := N v) hI.2.2.2.2.1 (hO.2.2.2.1 1 (by decide))
    have hok : canS x.1 x.2.1 x.2.2 e (N v) → EvO T S k c t p z (0, s_X4_record (r_X3_readNumber σ).2 e (N v)) (r_X5_readEvent_a157 (r_X5_readNumber τ).2 e (N v)) := fun hc => by
      obtain ⟨y, y1, y2, y3⟩ := ev_rec hI hkc hc
      exact Or.inl ⟨e', y, rfl, y2, y1, by omega, y3.trans (s10.trans hz)⟩
    have hno : EvO T S k c t p z (v_X4_faultHere (r_X3_readNumber σ).2 2, (r_X3_readNumber σ).2) ((r_X5_fails (r_X5_readNumber τ).2 2 ((r_X5_readNumber τ).2 35 32)).1, (r_X5_fails (r_X5_readNumber τ).2 2 ((r_X5_readNumber τ).2 35 32)).2) := by
      rw [s8, show (2 : Int32) = N 2 from rfl, rfails_eq]
      exact Or.inr ⟨2 + 8 * p', by omega, by omega, faultHere_eq (kd := 2) s5, rfl, by dsimp only; exact up_eq, hSt⟩
    by_cases e99 : e = 99
    · rw [if_neg (show ¬ ¬ e = 99 from fun z => z e99)]
      by_cases g : 1 ≤ ni (N v) ∧ ni (N v) < x.2.2 x.1 3 ∧ x.2.2 x.1 2 ≤ 6 * ni (N v)
      · rw [if_pos (hfi.mpr ⟨fun w => absurd (e99.symm.trans w) (by decide), fun _ => g⟩), if_pos (hmc.mpr g)]
        exact hok ⟨hev, fun w => absurd (e99.symm.trans w) (by decide), fun _ => hi, fun _ => g⟩
      · rw [if_neg (fun w => g ((hfi.mp w).2 (by rw [e99]; decide))), if_neg (fun w => g (hmc.mp w))]
        exact hno
    · obtain ⟨e100, hE⟩ := he.resolve_left e99
      rw [if_pos e99]
      by_cases g : 1 ≤ ni (N v) ∧ ni (N v) < x.2.2 1 3
      · rw [if_pos (hfi.mpr ⟨fun _ => g, fun w => absurd e100 w⟩), if_pos (hmd.mpr g)]
        exact hok ⟨hev, fun _ => ⟨hE, g⟩, fun w => absurd e100 w, fun w => absurd w e99⟩
      · rw [if_neg (fun w => g ((hfi.mp w).1 e100)), if_neg (fun w => g (hmd.mp w))]
        exact hno
  · have hfz : v_X0_fits (r_X3_readNumber σ).2 7 e (-1) = 0 := by
      unfold v_X0_fits
      rw [if_pos (by decide)]
    rw [s3, if_pos one_nz, s6, if_neg nn0, s4, if_neg (fun w => w hfz)]
    exact Or.inr ⟨2 + 8 * p', by omega, by omega, faultHere_eq (kd := 2) s5, rfl, s7, hSt⟩
  · rw [s3, if_neg nn0, s6, if_neg nn0]
    exact Or.inr ⟨1 + 8 * p', by omega, by omega, faultHere_eq (kd := 1) s5, rfl, s7, hSt⟩
theorem ev_both {T S : Nat → Nat} {k c t p : Nat} {z : Int32} {σ τ : sg_S} {x : mS} (h : EvI T S k c t p σ τ x) (hp : p < t) (h52 : σ 5 2 = N p) (hsp : skp (τ 57) (t - p) p = p) (hz : τ 35 29 = z) : EvO T S k c t p z (r_X4_readEvent σ) (r_X5_readEvent τ) := by
  obtain ⟨a1, a2, a3, a4, a5, a6, a7, a8, a9, p1, p2, p3, p4, p5, p6, p7⟩ := id h
  have hO := mrun_OK a1.2.1 a1.2.2.2.1 (k + c) x a4
  obtain ⟨k1, k2, k3⟩ := ctake_ok p1 p2 hp p6
  obtain ⟨-, g2, g3⟩ := here_ok p3 p4 p5 p6
  rw [hsp] at g2 g3
  rw [if_pos hp, p7 p hp] at g2
  rw [up_self p3] at g3
  have et : t_X5_readEvent_0 τ = sg_up τ 35 28 (N (p + 1)) := by
    unfold t_X5_readEvent_0
    rw [g3, p3, N_inc]
  have hI : EvI T S k c t (p + 1) (r_X3_takeByte σ).2 (sg_up τ 35 28 (N (p + 1))) x := EvI_fr h K_take (fun q j hq => up_ne (by omega)) k2 up_eq (by omega)
  have hSt := CSt_K (EvI_st h) (K_take (σ := σ))
  have hz1 : (sg_up τ 35 28 (N (p + 1))) 35 29 = z := by rw [up_k (by decide)]; exact hz
  have h2 : (r_X3_takeByte σ).2 5 2 = N p := k3.trans h52
  have hcc := canCome_iff (e := σ 6 p) hI.2.1 hI.2.2.1 hI.1 hO.1 hO.2.1
  have hno := now_lt hI.2.2.2.2.1 hO.1
  have hea := isEarly_iff hI.2.2.2.2.1 hO.1 hO.2.1
  have hb := bears_iff (e := σ 6 p)
  unfold r_X4_readEvent r_X5_readEvent
  rw [k1, g2, et, g3, p3]
  have hc4 : ((400 : Int32) ≤ (sg_up τ 35 28 (N (p + 1))) 35 6 + (sg_up τ 35 28 (N (p + 1))) 35 31) ↔ ¬ k + c < 400 := by
    rw [hI.2.2.2.2.2.1, hI.2.2.2.2.2.2.1, N_add]
    show (N 400 ≤ N (k + c)) ↔ _
    rw [N_le (by decide) (by omega)]; omega
  by_cases hev : isEv (σ 6 p)
  · rw [if_pos (isEvent4.mpr hev), if_pos (isEvent5.mpr hev)]
    -- the flag of the reference
    have key : ∀ y0 : Int32, (¬ y0 = 0 ↔ (k + c < 400 ∧ x.1 < 2 ∧ (σ 6 p = 100 → x.2.1 = 0))) → EvO T S k c t p z (if ¬ (v_X4_canCome (r_X3_takeByte σ).2 (σ 6 p)) = 0 then (if (v_X4_bearsNumber (σ 6 p)) = 0 then ((0 : Int32), (t_X4_readEvent_0 σ)) else (if ¬ (r_X3_readNumber (r_X3_takeByte σ).2).1 = 0 then (if ¬ (v_X0_fits (r_X3_readNumber (r_X3_takeByte σ).2).2 7 (σ 6 p) ((r_X3_readNumber (r_X3_takeByte σ).2).2 5 3)) = 0 then ((0 : Int32), (t_X4_readEvent_1 σ)) else ((v_X4_faultHere (r_X3_readNumber (r_X3_takeByte σ).2).2 (2 : Int32)), (r_X3_readNumber (r_X3_takeByte σ).2).2)) else ((v_X4_faultHere (r_X3_readNumber (r_X3_takeByte σ).2).2 (1 : Int32)), (r_X3_readNumber (r_X3_takeByte σ).2).2))) else ((v_X4_faultHere (r_X3_takeByte σ).2 (3 : Int32)), (r_X3_takeByte σ).2)) (r_X5_readEvent_a78 (sg_up τ 35 28 (N (p + 1))) (σ 6 p) (N p) y0) := by
      intro y0 hy
      unfold r_X5_readEvent_a78
      by_cases g : k + c < 400 ∧ x.1 < 2 ∧ (σ 6 p = 100 → x.2.1 = 0)
      · rw [if_pos (hcc.mpr g), if_pos (hy.mpr g)]
        unfold t_X4_readEvent_1 t_X4_readEvent_0
        rw [k1]
        by_cases e99 : σ 6 p = 99
        · rw [if_neg (show ¬ v_X4_bearsNumber (σ 6 p) = 0 from fun w => (hb.mp w).1 e99), if_pos e99]
          exact ev105 hI g.1 g.2.1 (by omega) hz1 hev (Or.inl e99)
        · by_cases e100 : σ 6 p = 100
          · rw [if_neg (show ¬ v_X4_bearsNumber (σ 6 p) = 0 from fun w => (hb.mp w).2 e100), if_neg e99, if_neg (show ¬ ¬ σ 6 p = 100 from fun w => w e100)]
            exact ev105 hI g.1 g.2.1 (by omega) hz1 hev (Or.inr ⟨e100, early_of hO g.2.1 (g.2.2 e100)⟩)
          · rw [if_pos (hb.mpr ⟨e99, e100⟩), if_neg e99, if_pos e100]
            obtain ⟨y, y1, y2, y3⟩ := ev_rec (e := σ 6 p) (n := 0) hI g.1 ⟨hev, fun w => absurd w e100, fun _ => g.2.1, fun w => absurd w e99⟩
            exact Or.inl ⟨p + 1, y, rfl, y2, y1, by omega, y3.trans hz1⟩
      · rw [if_neg (fun w => g (hcc.mp w)), if_neg (fun w => g (hy.mp w)), show (3 : Int32) = N 3 from rfl, rfails_eq]
        exact Or.inr ⟨3 + 8 * p, by omega, by omega, faultHere_eq (kd := 3) h2, rfl, by dsimp only; exact up_eq, hSt⟩
    by_cases c4 : (400 : Int32) ≤ (sg_up τ 35 28 (N (p + 1))) 35 6 + (sg_up τ 35 28 (N (p + 1))) 35 31
    · rw [if_pos c4]
      exact key 0 ⟨fun w => absurd rfl w, fun w => absurd w.1 (hc4.mp c4)⟩
    rw [if_neg c4]
    have c4' : k + c < 400 := Decidable.not_not.mp (fun w => c4 (hc4.mpr w))
    by_cases h100 : σ 6 p = 100
    · rw [if_neg (show ¬ ¬ σ 6 p = 100 from fun w => w h100)]
      by_cases hy : v_X5_isEarly (sg_up τ 35 28 (N (p + 1))) = 0
      · rw [if_pos hy]
        exact key 0 ⟨fun w => absurd rfl w, fun w => absurd hy (hea.mpr (early_of hO w.2.1 (w.2.2 h100)))⟩
      · rw [if_neg hy]
        have := hea.mp hy
        have h3 := hO.2.2.1
        exact key 1 ⟨fun _ => ⟨c4', by omega, fun _ => by omega⟩, fun _ => one_nz⟩
    · rw [if_pos h100]
      by_cases hy : (2 : Int32) ≤ (sg_up τ 35 28 (N (p + 1))) 35 23
      · rw [if_pos hy]
        exact key 0 ⟨fun w => absurd rfl w, fun w => absurd w.2.1 (hno.mp hy)⟩
      · rw [if_neg hy]
        exact key 1 ⟨fun _ => ⟨c4', Decidable.not_not.mp (fun w => hy (hno.mpr w)), fun w => absurd w h100⟩, fun _ => one_nz⟩
  · rw [if_neg (fun w => hev (isEvent4.mp w)), if_neg (fun w => hev (isEvent5.mp w))]
    have e5 : t_X5_readEvent_5 τ = (r_X5_fails τ 1 (N p)).2 := by
      unfold t_X5_readEvent_5
      rw [g3, p3]
    rw [e5, show (1 : Int32) = N 1 from rfl, rfails_eq]
    exact Or.inr ⟨1 + 8 * p, by omega, by omega, faultHere_eq (kd := 1) h2, rfl, by dsimp only; exact up_eq, hSt⟩
