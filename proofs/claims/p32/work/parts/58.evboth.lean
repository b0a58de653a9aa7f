section
/-! BOTH READ THE SAME EVENTS -/
def EvI (T S : Nat → Nat) (k c t a : Nat) (σ τ : sg_S) (x : mS) : Prop :=
  CAt σ 7 T S x.1 x.2.1 x.2.2 ∧ σ 0 6 = N (k + c) ∧ k + c ≤ 400 ∧ mrun T S (σ 33) (σ 34) (k + c) = some x ∧ RefAt τ T S x.1 x.2.1 x.2.2 ∧ τ 35 6 = N k ∧ τ 35 31 = N c ∧ mrun T S (τ 39) (τ 40) (k + c) = some x ∧ (∀ j, j < k + c → τ 39 j = σ 33 j ∧ τ 40 j = σ 34 j) ∧ Pos σ τ t a
theorem EvI_fr {T S : Nat → Nat} {k c t a a' : Nat} {σ τ σ' τ' : sg_S} {x : mS} (h : EvI T S k c t a σ τ x) (hk : KSame σ σ') (hn : ∀ q j, ¬ (q = 35 ∧ (j = 28 ∨ j = 29 ∨ j = 30 ∨ j = 32)) → τ' q j = τ q j) (h1 : σ' 5 4 = N a') (h2 : τ' 35 28 = N a') (ha : a' ≤ t) : EvI T S k c t a' σ' τ' x := by
  obtain ⟨a1, a2, a3, a4, a5, a6, a7, a8, a9, p1, p2, p3, p4, p5, p6, p7⟩ := h
  have r33 : σ' 33 = σ 33 := hk.row (by decide)
  have r34 : σ' 34 = σ 34 := hk.row (by decide)
  have r39 : τ' 39 = τ 39 := funext (fun j => hn 39 j (by omega))
  have r40 : τ' 40 = τ 40 := funext (fun j => hn 40 j (by omega))
  refine ⟨CAt_fr a1 (fun q j hq => hk q j (by omega)), by rw [hk 0 6 (by decide)]; exact a2, a3, by rw [r33, r34]; exact a4, RefAt_fr a5 (fun q j hq => hn q j (by omega)), by rw [hn 35 6 (by decide)]; exact a6, by rw [hn 35 31 (by decide)]; exact a7, by rw [r39, r40]; exact a8, by rw [r33, r34, r39, r40]; exact a9, h1, by rw [hk 5 1 (by decide)]; exact p2, h2, by rw [hn 35 26 (by decide)]; exact p4, ha, p6, fun j hj => ?_⟩
  rw [hn 57 j (by omega), hk 6 j (by omega)]
  exact p7 j hj
theorem EvI_st {T S : Nat → Nat} {k c t a : Nat} {σ τ : sg_S} {x : mS} (h : EvI T S k c t a σ τ x) : CSt T S σ (k + c) := ⟨h.2.1, h.2.2.1, x, h.2.2.2.1, h.1⟩
theorem crec_5 {σ : sg_S} {T S : Nat → Nat} {k : Nat} {x y : mS} {e n : Int32} (h6 : σ 0 6 = N k) (hk : k < 400) (hA : CAt σ 7 T S x.1 x.2.1 x.2.2) (hx : mrun T S (σ 33) (σ 34) k = some x) (hs : stp T (S 1) x e n = some y) (j : Nat) : (s_X4_record σ e n) 5 j = σ 5 j := by
  have e1 : (sg_up σ 33 k e) 0 6 = N k := by rw [up_c (by decide)]; exact h6
  have et : t_X4_record_1 σ e n = sg_up (sg_up (sg_up σ 33 k e) 34 k n) 0 6 (N (k + 1)) := by
    unfold t_X4_record_1 t_X4_record_0
    rw [h6, ni_N (by omega), e1, ni_N (by omega), up_c (by decide), e1, N_inc]
  have er : s_X4_record σ e n = s_X0_take (sg_up (sg_up (sg_up σ 33 k e) 34 k n) 0 6 (N (k + 1))) 7 e n := by
    unfold s_X4_record
    rw [h6, if_neg (N_nn (by omega)), if_pos (by exact g_lt (L := 400) hk (by decide)), et]
  have hA1 : CAt (sg_up (sg_up (sg_up σ 33 k e) 34 k n) 0 6 (N (k + 1))) 7 T S x.1 x.2.1 x.2.2 := CAt_fr hA (fun q j hq => by
    rw [up_ne (by omega), up_ne (by omega), up_ne (by omega)])
  obtain ⟨t1, t2⟩ := take_ok (y := y) (by decide) hA1 (mrun_OK hA.2.1 hA.2.2.2.1 k x hx) (by omega) (show stp T (S 1) (x.1, x.2.1, x.2.2) e n = some y from hs)
  rw [er, t2 5 j (by decide), up_c (by decide), up_c (by decide), up_c (by decide)]
theorem rev157_lo {τ : sg_S} {T S : Nat → Nat} {k c : Nat} {x y : mS} {e n : Int32} (hR : RefAt τ T S x.1 x.2.1 x.2.2) (hO : OK T (S 1) (k + c) x.1 x.2.1 x.2.2) (h6 : τ 35 6 = N k) (h31 : τ 35 31 = N c) (hkc : k + c < 400) (hs : stp T (S 1) x e n = some y) {j : Nat} (hj : j < k + c) : (r_X5_readEvent_a157 τ e n).2 39 j = τ 39 j ∧ (r_X5_readEvent_a157 τ e n).2 40 j = τ 40 j := by
  have e1 : (sg_up τ 39 (k + c) e) 35 6 = N k := by rw [up_c (by decide)]; exact h6
  have e2 : (sg_up τ 39 (k + c) e) 35 31 = N c := by rw [up_c (by decide)]; exact h31
  have et : t_X5_readEvent_2 τ e n = sg_up (sg_up (sg_up τ 39 (k + c) e) 40 (k + c) n) 35 31 (N (c + 1)) := by
    unfold t_X5_readEvent_2 t_X5_readEvent_1
    rw [h6, h31, N_add, ni_N (by omega), e1, e2, N_add, ni_N (by omega), up_c (by decide), e2, N_inc]
  have hR3 : RefAt (sg_up (sg_up (sg_up τ 39 (k + c) e) 40 (k + c) n) 35 31 (N (c + 1))) T S x.1 x.2.1 x.2.2 := RefAt_fr hR (fun q j hq => by
    rw [up_ne (by omega), up_ne (by omega), up_ne (by omega)])
  obtain ⟨g1, g2, g3, g4⟩ := goes_ok (y := y) hR3 hO (by omega) (show stp T (S 1) (x.1, x.2.1, x.2.2) e n = some y from hs)
  unfold r_X5_readEvent_a157
  rw [et]
  dsimp only
  rw [g4 39 j (by decide) (by omega), g4 40 j (by decide) (by omega)]
  exact ⟨by rw [up_c (by decide), up_c (by decide), up_k (by omega)], by rw [up_c (by decide), up_k (by omega), up_c (by decide)]⟩
theorem ev_rec {T S : Nat → Nat} {k c t a : Nat} {σ τ : sg_S} {x : mS} {e n : Int32} (h : EvI T S k c t a σ τ x) (hkc : k + c < 400) (hc : canS x.1 x.2.1 x.2.2 e n) : ∃ y, EvI T S k (c + 1) t a (s_X4_record σ e n) (r_X5_readEvent_a157 τ e n).2 y ∧ (r_X5_readEvent_a157 τ e n).1 = 1 ∧ (r_X5_readEvent_a157 τ e n).2 35 29 = τ 35 29 := by
  obtain ⟨y, hy⟩ := stp_some (T := T) (mean := S 1) hc
  obtain ⟨a1, a2, a3, a4, a5, a6, a7, a8, a9, p1, p2, p3, p4, p5, p6, p7⟩ := h
  have hO := mrun_OK a1.2.1 a1.2.2.2.1 (k + c) x a4
  have r5 := crec_5 (y := y) a2 hkc a1 a4 hy
  obtain ⟨c1, c2, c3, c4, c5, c6⟩ := crec_ok (y := y) a2 hkc a1 a4 hy
  obtain ⟨-, q2, q3, q4, q5, q6, q7, q8, q9, q10⟩ := rev157 (y := y) a5 hO a6 a7 hkc a8 hy
  refine ⟨y, ⟨c3, c1, by omega, c2, q4, ?_, q5, q7, fun j hj => ?_, ?_, ?_, ?_, ?_, p5, p6, fun j hj => ?_⟩, q2, q8⟩
  · rw [q3 35 6 (by decide) (by decide) (by omega)]; exact a6
  · by_cases e2 : j = k + c
    · subst e2; exact ⟨q9.trans c5.symm, q10.trans c6.symm⟩
    · have hj2 : j < k + c := by omega
      rw [c4 33 j (by decide) (by omega) (by omega) (by omega), c4 34 j (by decide) (by omega) (by omega) (by omega)]
      have e1 : (r_X5_readEvent_a157 τ e n).2 39 j = τ 39 j ∧ (r_X5_readEvent_a157 τ e n).2 40 j = τ 40 j := rev157_lo a5 hO a6 a7 hkc hy hj2
      rw [e1.1, e1.2]
      exact a9 j hj2
  · rw [r5]; exact p1
  · rw [r5]; exact p2
  · rw [q6]; exact p3
  · rw [q3 35 26 (by decide) (by decide) (by omega)]; exact p4
  · rw [q3 57 j (by decide) (by omega) (by omega), c4 6 j (by decide) (by omega) (by omega) (by omega)]; exact p7 j hj
/-- what an event leaves in both -/
def EvO (T S : Nat → Nat) (k c t a : Nat) (z : Int32) (rc rr : Int32 × sg_S) : Prop :=
  (∃ a' y, rc.1 = 0 ∧ rr.1 = 1 ∧ EvI T S k (c + 1) t a' rc.2 rr.2 y ∧ a < a' ∧ rr.2 35 29 = z) ∨ (∃ f, 0 < f ∧ f < 10000 ∧ rc.1 = N f ∧ rr.1 = 0 ∧ rr.2 35 29 = N f ∧ CSt T S rc.2 (k + c))
theorem num_K {σ : sg_S} : KSame σ (r_X3_readNumber σ).2 := K_num
theorem ev105 {T S : Nat → Nat} {k c t a p : Nat} {z : Int32} {σ τ : sg_S} {x : mS} {e : Int32} (h : EvI T S k c t a σ τ x) (hkc : k + c < 400) (hi : x.1 < 2) (hp : p < a) (hz : τ 35 29 = z) (hev : isEv e) (he : (e = 99 ∨ e = 100 ∧ (x.1 = 0 ∨ x.1 = 1 ∧ x.2.1 = 0))) :
    EvO T S k c t p z (if ¬ (r_X3_readNumber σ).1 = 0 then (if ¬ (v_X0_fits (r_X3_readNumber σ).2 7 e ((r_X3_readNumber σ).2 5 3)) = 0 then ((0 : Int32), (s_X4_record (r_X3_readNumber σ).2 e ((r_X3_readNumber σ).2 5 3))) else ((v_X4_faultHere (r_X3_readNumber σ).2 (2 : Int32)), (r_X3_readNumber σ).2)) else ((v_X4_faultHere (r_X3_readNumber σ).2 (1 : Int32)), (r_X3_readNumber σ).2)) (r_X5_readEvent_a105 τ e) := by
  obtain ⟨a1, a2, a3, a4, a5, a6, a7, a8, a9, hP⟩ := id h
  have hO := mrun_OK a1.2.1 a1.2.2.2.1 (k + c) x a4
  have n2 := (rnum_ok hP.2.2.1 hP.2.2.2.1 hP.2.2.2.2.1 hP.2.2.2.2.2.1 rfl rfl rfl).2.1
  have hSt := CSt_K (EvI_st h) (K_num (σ := σ))
  obtain ⟨p', e', v, q1, q2, q3, q4, q⟩ := num_both hP
  have h5 := hP.2.2.2.2.2.1
  unfold r_X5_readEvent_a105
  rcases q with ⟨s1, s2, s3, s4, s5, s6, s7, s8, s10, s9⟩ | ⟨s1, s2, s3, s4, s5, s6, s7⟩ | ⟨s3, s5, s6, s7⟩
  · have hI : EvI T S k c t e' (r_X3_readNumber σ).2 (r_X5_readNumber τ).2 x := EvI_fr h K_num (fun q j hq => n2 q j hq) s9.1 s9.2.2.1 q3
    rw [s3, if_pos one_nz, s6, if_pos one_nz, s4, s7]
    have hfi := fits_iff (e := e) (n := N v) hI.1 hi (hO.2.2.2.1 x.1 hi) (hO.2.2.2.1 1 (by decide))
    have hmc := (mayCut_iff (n := N v) hI.2.2.2.2.1 hi (hO.2.2.2.1 x.1 hi)).2
    have hmd := mayDrop_iff (n := N v) hI.2.2.2.2.1 (hO.2.2.2.1 1 (by decide))
    have hok : canS x.1 x.2.1 x.2.2 e (N v) → EvO T S k c t p z (0, s_X4_record (r_X3_readNumber σ).2 e (N v)) (r_X5_readEvent_a157 (r_X5_readNumber τ).2 e (N v)) := fun hc => by
      obtain ⟨y, y1, y2, y3⟩ := ev_rec hI hkc hc
      exact Or.inl ⟨e', y, rfl, y2, y1, by omega, y3.trans (s10.trans hz)⟩
    have hno : EvO T S k c t p z (v_X4_faultHere (r_X3_readNumber σ).2 2, (r_X3_readNumber σ).2) ((r_X5_fails (r_X5_readNumber τ).2 2 ((r_X5_readNumber τ).2 35 32)).1, (r_X5_fails (r_X5_readNumber τ).2 2 ((r_X5_readNumber τ).2 35 32)).2) := by
      rw [s8, show (2 : Int32) = N 2 from rfl, rfails_eq]
      exact Or.inr ⟨2 + 8 * p', by omega, by omega, faultHere_eq (kd := 2) s5, rfl, by dsimp only; exact up_eq, hSt⟩
    by_cases e99 : e = 99
    · rw [if_neg (show ¬ ¬ e = 99 from fun z => z e99)]
      by_cases g : 1 ≤ ni (N v) ∧ ni (N v) < x.2.2 x.1 3 ∧ x.2.2 x.1 2 ≤ 6 * ni (N v)
      · rw [if_pos (hfi.mpr ⟨fun w => absurd (e99.symm.trans w) (by decide), fun _ => g⟩), if_pos (hmc.mpr g)]
        exact hok ⟨hev, fun w => absurd (e99.symm.trans w) (by decide), fun _ => hi, fun _ => g⟩
      · rw [if_neg (fun w => g ((hfi.mp w).2 (by rw [e99]; decide))), if_neg (fun w => g (hmc.mp w))]
        exact hno
    · obtain ⟨e100, hE⟩ := he.resolve_left e99
      rw [if_pos e99]
      by_cases g : 1 ≤ ni (N v) ∧ ni (N v) < x.2.2 1 3
      · rw [if_pos (hfi.mpr ⟨fun _ => g, fun w => absurd e100 w⟩), if_pos (hmd.mpr g)]
        exact hok ⟨hev, fun _ => ⟨hE, g⟩, fun w => absurd e100 w, fun w => absurd w e99⟩
      · rw [if_neg (fun w => g ((hfi.mp w).1 e100)), if_neg (fun w => g (hmd.mp w))]
        exact hno
  · have hfz : v_X0_fits (r_X3_readNumber σ).2 7 e (-1) = 0 := by
      unfold v_X0_fits
      rw [if_pos (by decide)]
    rw [s3, if_pos one_nz, s6, if_neg nn0, s4, if_neg (fun w => w hfz)]
    exact Or.inr ⟨2 + 8 * p', by omega, by omega, faultHere_eq (kd := 2) s5, rfl, s7, hSt⟩
  · rw [s3, if_neg nn0, s6, if_neg nn0]
    exact Or.inr ⟨1 + 8 * p', by omega, by omega, faultHere_eq (kd := 1) s5, rfl, s7, hSt⟩
theorem ev_both {T S : Nat → Nat} {k c t p : Nat} {z : Int32} {σ τ : sg_S} {x : mS} (h : EvI T S k c t p σ τ x) (hp : p < t) (h52 : σ 5 2 = N p) (hsp : skp (τ 57) (t - p) p = p) (hz : τ 35 29 = z) : EvO T S k c t p z (r_X4_readEvent σ) (r_X5_readEvent τ) := by
  obtain ⟨a1, a2, a3, a4, a5, a6, a7, a8, a9, p1, p2, p3, p4, p5, p6, p7⟩ := id h
  have hO := mrun_OK a1.2.1 a1.2.2.2.1 (k + c) x a4
  obtain ⟨k1, k2, k3⟩ := ctake_ok p1 p2 hp p6
  obtain ⟨-, g2, g3⟩ := here_ok p3 p4 p5 p6
  rw [hsp] at g2 g3
  rw [if_pos hp, p7 p hp] at g2
  rw [up_self p3] at g3
  have et : t_X5_readEvent_0 τ = sg_up τ 35 28 (N (p + 1)) := by
    unfold t_X5_readEvent_0
    rw [g3, p3, N_inc]
  have hI : EvI T S k c t (p + 1) (r_X3_takeByte σ).2 (sg_up τ 35 28 (N (p + 1))) x := EvI_fr h K_take (fun q j hq => up_ne (by omega)) k2 up_eq (by omega)
  have hSt := CSt_K (EvI_st h) (K_take (σ := σ))
  have hz1 : (sg_up τ 35 28 (N (p + 1))) 35 29 = z := by rw [up_k (by decide)]; exact hz
  have h2 : (r_X3_takeByte σ).2 5 2 = N p := k3.trans h52
  have hcc := canCome_iff (e := σ 6 p) hI.2.1 hI.2.2.1 hI.1 hO.1 hO.2.1
  have hno := now_lt hI.2.2.2.2.1 hO.1
  have hea := isEarly_iff hI.2.2.2.2.1 hO.1 hO.2.1
  have hb := bears_iff (e := σ 6 p)
  unfold r_X4_readEvent r_X5_readEvent
  rw [k1, g2, et, g3, p3]
  have hc4 : ((400 : Int32) ≤ (sg_up τ 35 28 (N (p + 1))) 35 6 + (sg_up τ 35 28 (N (p + 1))) 35 31) ↔ ¬ k + c < 400 := by
    rw [hI.2.2.2.2.2.1, hI.2.2.2.2.2.2.1, N_add]
    show (N 400 ≤ N (k + c)) ↔ _
    rw [N_le (by decide) (by omega)]; omega
  by_cases hev : isEv (σ 6 p)
  · rw [if_pos (isEvent4.mpr hev), if_pos (isEvent5.mpr hev)]
    -- the flag of the reference
    have key : ∀ y0 : Int32, (¬ y0 = 0 ↔ (k + c < 400 ∧ x.1 < 2 ∧ (σ 6 p = 100 → x.2.1 = 0))) → EvO T S k c t p z (if ¬ (v_X4_canCome (r_X3_takeByte σ).2 (σ 6 p)) = 0 then (if (v_X4_bearsNumber (σ 6 p)) = 0 then ((0 : Int32), (t_X4_readEvent_0 σ)) else (if ¬ (r_X3_readNumber (r_X3_takeByte σ).2).1 = 0 then (if ¬ (v_X0_fits (r_X3_readNumber (r_X3_takeByte σ).2).2 7 (σ 6 p) ((r_X3_readNumber (r_X3_takeByte σ).2).2 5 3)) = 0 then ((0 : Int32), (t_X4_readEvent_1 σ)) else ((v_X4_faultHere (r_X3_readNumber (r_X3_takeByte σ).2).2 (2 : Int32)), (r_X3_readNumber (r_X3_takeByte σ).2).2)) else ((v_X4_faultHere (r_X3_readNumber (r_X3_takeByte σ).2).2 (1 : Int32)), (r_X3_readNumber (r_X3_takeByte σ).2).2))) else ((v_X4_faultHere (r_X3_takeByte σ).2 (3 : Int32)), (r_X3_takeByte σ).2)) (r_X5_readEvent_a78 (sg_up τ 35 28 (N (p + 1))) (σ 6 p) (N p) y0) := by
      intro y0 hy
      unfold r_X5_readEvent_a78
      by_cases g : k + c < 400 ∧ x.1 < 2 ∧ (σ 6 p = 100 → x.2.1 = 0)
      · rw [if_pos (hcc.mpr g), if_pos (hy.mpr g)]
        unfold t_X4_readEvent_1 t_X4_readEvent_0
        rw [k1]
        by_cases e99 : σ 6 p = 99
        · rw [if_neg (show ¬ v_X4_bearsNumber (σ 6 p) = 0 from fun w => (hb.mp w).1 e99), if_pos e99]
          exact ev105 hI g.1 g.2.1 (by omega) hz1 hev (Or.inl e99)
        · by_cases e100 : σ 6 p = 100
          · rw [if_neg (show ¬ v_X4_bearsNumber (σ 6 p) = 0 from fun w => (hb.mp w).2 e100), if_neg e99, if_neg (show ¬ ¬ σ 6 p = 100 from fun w => w e100)]
            exact ev105 hI g.1 g.2.1 (by omega) hz1 hev (Or.inr ⟨e100, early_of hO g.2.1 (g.2.2 e100)⟩)
          · rw [if_pos (hb.mpr ⟨e99, e100⟩), if_neg e99, if_pos e100]
            obtain ⟨y, y1, y2, y3⟩ := ev_rec (e := σ 6 p) (n := 0) hI g.1 ⟨hev, fun w => absurd w e100, fun _ => g.2.1, fun w => absurd w e99⟩
            exact Or.inl ⟨p + 1, y, rfl, y2, y1, by omega, y3.trans hz1⟩
      · rw [if_neg (fun w => g (hcc.mp w)), if_neg (fun w => g (hy.mp w)), show (3 : Int32) = N 3 from rfl, rfails_eq]
        exact Or.inr ⟨3 + 8 * p, by omega, by omega, faultHere_eq (kd := 3) h2, rfl, by dsimp only; exact up_eq, hSt⟩
    by_cases c4 : (400 : Int32) ≤ (sg_up τ 35 28 (N (p + 1))) 35 6 + (sg_up τ 35 28 (N (p + 1))) 35 31
    · rw [if_pos c4]
      exact key 0 ⟨fun w => absurd rfl w, fun w => absurd w.1 (hc4.mp c4)⟩
    rw [if_neg c4]
    have c4' : k + c < 400 := Decidable.not_not.mp (fun w => c4 (hc4.mpr w))
    by_cases h100 : σ 6 p = 100
    · rw [if_neg (show ¬ ¬ σ 6 p = 100 from fun w => w h100)]
      by_cases hy : v_X5_isEarly (sg_up τ 35 28 (N (p + 1))) = 0
      · rw [if_pos hy]
        exact key 0 ⟨fun w => absurd rfl w, fun w => absurd hy (hea.mpr (early_of hO w.2.1 (w.2.2 h100)))⟩
      · rw [if_neg hy]
        have := hea.mp hy
        have h3 := hO.2.2.1
        exact key 1 ⟨fun _ => ⟨c4', by omega, fun _ => by omega⟩, fun _ => one_nz⟩
    · rw [if_pos h100]
      by_cases hy : (2 : Int32) ≤ (sg_up τ 35 28 (N (p + 1))) 35 23
      · rw [if_pos hy]
        exact key 0 ⟨fun w => absurd rfl w, fun w => absurd w.2.1 (hno.mp hy)⟩
      · rw [if_neg hy]
        exact key 1 ⟨fun _ => ⟨c4', Decidable.not_not.mp (fun w => hy (hno.mpr w)), fun w => absurd w h100⟩, fun _ => one_nz⟩
  · rw [if_neg (fun w => hev (isEvent4.mp w)), if_neg (fun w => hev (isEvent5.mp w))]
    have e5 : t_X5_readEvent_5 τ = (r_X5_fails τ 1 (N p)).2 := by
      unfold t_X5_readEvent_5
      rw [g3, p3]
    rw [e5, show (1 : Int32) = N 1 from rfl, rfails_eq]
    exact Or.inr ⟨1 + 8 * p, by omega, by omega, faultHere_eq (kd := 1) h2, rfl, by dsimp only; exact up_eq, hSt⟩
end
section
/-! BOTH READ ALL EVENTS -/
theorem cev57Y {σ : sg_S} {T S : Nat → Nat} {k c : Nat} (h : CSt T S σ (k + c)) (h7 : σ 0 7 = 0) : r_X4_events_a57 σ (N k) = (N c, sg_up σ 5 1 0) ∧ CInv (sg_up σ 5 1 0) T S (k + c) 0 := by
  unfold r_X4_events_a57
  have e7 : (sg_up σ 5 1 0) 0 7 = 0 := by rw [up_c (by decide)]; exact h7
  have e6 : (sg_up σ 5 1 0) 0 6 = N (k + c) := by rw [up_c (by decide)]; exact h.1
  rw [if_pos e7, e6, N_sub (by omega), show k + c - k = c by omega]
  exact ⟨rfl, CSt_fr h (by rw [up_c (by decide)]) (fun j _ => ⟨by rw [up_c (by decide)], by rw [up_c (by decide)]⟩) (fun q j hq => by rw [up_c (by omega)]), by rw [up_eq]; rfl, by decide⟩
theorem cev57N {σ : sg_S} {T S : Nat → Nat} {k m f : Nat} (h : CSt T S σ m) (hk : k ≤ m) (h7 : σ 0 7 = N f) (hf : 0 < f) (hf2 : f < 10000) : (r_X4_events_a57 σ (N k)).1 = -1 ∧ CInv (r_X4_events_a57 σ (N k)).2 T S k 0 ∧ (r_X4_events_a57 σ (N k)).2 0 7 = N f ∧ ∀ j, (r_X4_events_a57 σ (N k)).2 33 j = σ 33 j ∧ (r_X4_events_a57 σ (N k)).2 34 j = σ 34 j := by
  obtain ⟨a1, a2, x, a3, a4⟩ := h
  obtain ⟨x0, hx0⟩ := mrun_le' a3 hk
  unfold r_X4_events_a57
  have e7 : ¬ (sg_up σ 5 1 0) 0 7 = 0 := by rw [up_c (by decide), h7]; exact N_nz hf (by omega)
  rw [if_neg e7]
  have e33 : (sg_up (sg_up σ 5 1 0) 0 6 (N k)) 33 = σ 33 := funext (fun j => by rw [up_c (by decide), up_c (by decide)])
  have e34 : (sg_up (sg_up σ 5 1 0) 0 6 (N k)) 34 = σ 34 := funext (fun j => by rw [up_c (by decide), up_c (by decide)])
  obtain ⟨r1, r2⟩ := replay_ok (σ := sg_up (sg_up σ 5 1 0) 0 6 (N k)) (c := 7) (y := x0) (by decide) (by decide) (TabAt_up (TabAt_up a4.1 (by decide)) (by decide)) a4.2.1 (SetAt_up (SetAt_up a4.2.2.1 (by decide)) (by decide)) a4.2.2.2.1 (show k ≤ 400 by omega) (by rw [e33, e34]; exact hx0)
  have r33 := r2.row (q := 33) (by decide)
  have r34 := r2.row (q := 34) (by decide)
  dsimp only
  unfold t_X4_events_0
  refine ⟨rfl, ⟨⟨?_, by omega, x0, ?_, r1⟩, ?_, by decide⟩, ?_, fun j => ⟨by rw [r33, e33], by rw [r34, e34]⟩⟩
  · rw [r2 0 6 (by decide), up_eq]
  · rw [r33, r34, e33, e34]; exact hx0
  · rw [r2 5 1 (by decide), up_c (by decide), up_eq]; rfl
  · rw [r2 0 7 (by decide), up_k (by decide), up_c (by decide)]; exact h7
/-- what the events leave in both -/
def EvsO (T S : Nat → Nat) (k : Nat) (A B : Nat → Int32) (z : Int32) (rc rr : Int32 × sg_S) : Prop :=
  (∃ c, k + c ≤ 400 ∧ rc.1 = N c ∧ rr.1 = 1 ∧ rr.2 35 31 = N c ∧ CInv rc.2 T S (k + c) 0 ∧ rc.2 0 7 = 0 ∧ rr.2 35 29 = z ∧ (∀ j, j < k + c → rr.2 39 j = rc.2 33 j ∧ rr.2 40 j = rc.2 34 j)) ∨ (∃ f, rc.1 = -1 ∧ rr.1 = 0 ∧ rr.2 35 29 = N f ∧ rc.2 0 7 = N f ∧ CInv rc.2 T S k 0 ∧ (∀ j, j < k → rc.2 33 j = A j ∧ rc.2 34 j = B j))
theorem skp_two {B : Nat → Int32} {t : Nat} : ∀ (n a : Nat), a + n = t → skp B (t - skp B n a) (skp B n a) = skp B n a := by
  intro n
  induction n with
  | zero => intro a h; rw [show skp B 0 a = a from rfl, show t - a = 0 by omega]; rfl
  | succ n ih =>
    intro a h
    rw [skp_s]
    by_cases g : B a = 32 ∨ B a = 10
    · rw [if_pos g]; exact ih (a + 1) (by omega)
    · rw [if_neg g]; exact skp_id (fun _ => g)
theorem evs_loop {T S : Nat → Nat} {k t : Nat} {A B : Nat → Int32} {z : Int32} : ∀ (m n j c a : Nat) (σ τ : sg_S) (x : mS), t - a < m → t - a < n → j ≤ a → EvI T S k c t a σ τ x → (∀ i, i < t → ¬ σ 6 i = -1) → σ 0 7 = 0 → τ 35 29 = z → (∀ i, i < k → σ 33 i = A i ∧ σ 34 i = B i) → EvsO T S k A B z (r_X4_events_l19 m σ (N k) (N j)) (r_X5_readEvents_l4 n τ) := by
  intro m
  induction m with
  | zero => intro n j c a σ τ x hm; omega
  | succ m ih =>
    intro n j c a σ τ x hm hn hj hI hB h7 hz hA
    cases n with
    | zero => omega
    | succ n =>
    show EvsO T S k A B z (r_X4_events_b19 (r_X4_events_l19 m) σ (N k) (N j)) (r_X5_readEvents_b4 (r_X5_readEvents_l4 n) τ)
    unfold r_X4_events_b19 r_X5_readEvents_b4
    obtain ⟨a1, a2, a3, a4, a5, a6, a7, a8, a9, p1, p2, p3, p4, p5, p6, p7⟩ := id hI
    have ep : skp (τ 57) (t - a) a = skp (σ 6) (t - a) a := skp_congr _ _ (fun j hj => p7 j (by omega))
    have hpl := skp_le (B := σ 6) (t - a) a
    have hss := skp_two (B := τ 57) (t := t) (t - a) a (by omega)
    obtain ⟨s1, s2, s3, -⟩ := cseek_ok p1 p2 p5 p6
    obtain ⟨-, g2, g3⟩ := here_ok p3 p4 p5 p6
    rw [ep] at g2 g3 hss
    generalize hp : skp (σ 6) (t - a) a = p at *
    have h70 : ¬ ¬ σ 0 7 = 0 := fun w => w h7
    by_cases g : p < t
    · have hI1 : EvI T S k c t p (r_X3_seek σ).2 (r_X5_here τ).2 x := EvI_fr hI K_seek (fun q j hq => by rw [g3]; exact up_ne (by omega)) s2 (by rw [g3]; exact up_eq) (by omega)
      have hne : ¬ (r_X5_here τ).1 = -1 := by rw [g2, if_pos g, p7 p g]; exact hB p g
      have hz1 : (r_X5_here τ).2 35 29 = z := by rw [g3, up_k (by decide)]; exact hz
      have e57 : (r_X5_here τ).2 57 = τ 57 := by rw [g3]; exact funext (fun j => up_c (by decide))
      rw [if_neg (by exact g_nle (L := 500) (by omega) (by decide)), if_neg h70, s1, if_pos g, if_neg one_nz, if_neg hne, N_inc]
      have hV := (cev_ok (EvI_st hI1))
      obtain ⟨kk, -, -, hv⟩ := hV
      have hA1 : ∀ i, i < k → (r_X4_readEvent (r_X3_seek σ).2).2 33 i = A i ∧ (r_X4_readEvent (r_X3_seek σ).2).2 34 i = B i := fun i hi => by
        rw [hv 33 i (by decide) (by omega) (by omega) (by omega), hv 34 i (by decide) (by omega) (by omega) (by omega), K_seek 33 i (by omega), K_seek 34 i (by omega)]
        exact hA i hi
      rcases ev_both hI1 g s3 (by rw [e57]; exact hss) hz1 with ⟨a', y, y1, y2, y3, y4, y5⟩ | ⟨f, y1, y2, y3, y4, y5, y6⟩
      · rw [y2, if_pos one_nz]
        obtain ⟨b1, b2, b3, b4, b5, b6, b7, b8, b9, q1, q2, q3, q4, q5, q6, q7⟩ := id y3
        refine ih n (j + 1) (c + 1) a' (t_X4_events_1 σ (N k) (N j)) _ y (by omega) (by omega) (by omega) ?_ (fun i hi => ?_) ?_ y5 (fun i hi => ?_)
        · unfold t_X4_events_1
          exact ⟨CAt_fr b1 (fun q i hq => by rw [up_c (by omega)]), by rw [up_k (by decide)]; exact b2, b3, by rw [show (sg_up (r_X4_readEvent (r_X3_seek σ).2).2 0 7 (r_X4_readEvent (r_X3_seek σ).2).1) 33 = (r_X4_readEvent (r_X3_seek σ).2).2 33 from funext (fun i => up_c (by decide)), show (sg_up (r_X4_readEvent (r_X3_seek σ).2).2 0 7 (r_X4_readEvent (r_X3_seek σ).2).1) 34 = (r_X4_readEvent (r_X3_seek σ).2).2 34 from funext (fun i => up_c (by decide))]; exact b4, b5, b6, b7, b8, fun i hi => by rw [up_c (by decide), up_c (by decide)]; exact b9 i hi, by rw [up_c (by decide)]; exact q1, by rw [up_c (by decide)]; exact q2, q3, q4, q5, q6, fun i hi => by rw [up_c (by decide)]; exact q7 i hi⟩
        · unfold t_X4_events_1
          rw [up_c (by decide), hv 6 i (by decide) (by omega) (by omega) (by omega), K_seek 6 i (by omega)]
          exact hB i hi
        · unfold t_X4_events_1
          rw [up_eq]; exact y1
        · unfold t_X4_events_1
          rw [up_c (by decide), up_c (by decide)]
          exact hA1 i hi
      · rw [y4, if_neg nn0]
        have h7f : (t_X4_events_1 σ (N k) (N j)) 0 7 = N f := by
          unfold t_X4_events_1
          rw [up_eq]; exact y3
        have hSt : CSt T S (t_X4_events_1 σ (N k) (N j)) (k + c) := by
          unfold t_X4_events_1
          exact CSt_fr y6 (by rw [up_k (by decide)]) (fun i _ => ⟨by rw [up_c (by decide)], by rw [up_c (by decide)]⟩) (fun q i hq => by rw [up_c (by omega)])
        have h7n : ¬ (t_X4_events_1 σ (N k) (N j)) 0 7 = 0 := by rw [h7f]; exact N_nz y1 (by omega)
        obtain ⟨m', rfl⟩ : ∃ m', m = m' + 1 := ⟨m - 1, by omega⟩
        have e19 : r_X4_events_l19 (m' + 1) (t_X4_events_1 σ (N k) (N j)) (N k) (N (j + 1)) = r_X4_events_a57 (t_X4_events_1 σ (N k) (N j)) (N k) := by
          show r_X4_events_b19 (r_X4_events_l19 m') (t_X4_events_1 σ (N k) (N j)) (N k) (N (j + 1)) = _
          unfold r_X4_events_b19
          rw [if_pos h7n]
          split
          · rfl
          · rfl
        rw [e19]
        obtain ⟨u1, u2, u3, u4⟩ := cev57N hSt (Nat.le_add_right k c) h7f y1 y2
        refine Or.inr ⟨f, u1, rfl, by dsimp only; exact y5, u3, u2, fun i hi => ?_⟩
        rw [(u4 i).1, (u4 i).2]
        unfold t_X4_events_1
        rw [up_c (by decide), up_c (by decide)]
        exact hA1 i hi
    · have hep : (r_X5_here τ).1 = -1 := by rw [g2, if_neg g]
      have s1' : (r_X3_seek σ).1 = 0 := by rw [s1, if_neg g]
      rw [if_pos hep]
      have fin : ∀ σ' : sg_S, KSame σ σ' → EvsO T S k A B z (r_X4_events_a57 σ' (N k)) (1, (r_X5_here τ).2) := fun σ' hk => by
        have h7' : σ' 0 7 = 0 := by rw [hk 0 7 (by decide)]; exact h7
        obtain ⟨u1, u2⟩ := cev57Y (CSt_K (EvI_st hI) hk) h7'
        rw [u1]
        refine Or.inl ⟨c, a3, rfl, rfl, ?_, u2, ?_, ?_, fun i hi => ?_⟩
        · dsimp only; rw [g3, up_k (by decide)]; exact a7
        · dsimp only; rw [up_c (by decide)]; exact h7'
        · dsimp only; rw [g3, up_k (by decide)]; exact hz
        · dsimp only; rw [g3, up_c (by decide), up_c (by decide), up_c (by decide), up_c (by decide), hk 33 i (by omega), hk 34 i (by omega)]; exact a9 i hi
      by_cases hc5 : (500 : Int32) ≤ N j
      · rw [if_pos hc5]; exact fin σ KSame.rf
      · rw [if_neg hc5, if_neg h70, if_pos s1']; exact fin _ K_seek
/-- the answers of events, and what both hold behind it -/
def EvB (T S : Nat → Nat) (k : Nat) (rc rr : Int32 × sg_S) : Prop :=
  (∃ c, rc.1 = N c ∧ rr.1 = N c ∧ CInv rc.2 T S (k + c) 0 ∧ RInv rr.2 T S (k + c) 0 ∧ rc.2 0 7 = 0 ∧ rr.2 35 27 = 0 ∧ (∀ j, j < k + c → rr.2 39 j = rc.2 33 j ∧ rr.2 40 j = rc.2 34 j)) ∨ (∃ f, rc.1 = -1 ∧ rr.1 = -1 ∧ CInv rc.2 T S k 0 ∧ RInv rr.2 T S k 0 ∧ rc.2 0 7 = N f ∧ rr.2 35 27 = N f ∧ (∀ j, j < k → rr.2 39 j = rc.2 33 j ∧ rr.2 40 j = rc.2 34 j))
theorem both_events {σ σ2 : sg_S} {T S : Nat → Nat} {k t : Nat} (hc : CInv σ T S k t) (hr : RInv σ2 T S k t) (hh : HiS σ σ2) (hT : Tape σ t) (hL : ∀ j, j < k → σ 39 j = σ 33 j ∧ σ 40 j = σ 34 j) : EvB T S k (r_X4_events σ) (r_X5_events σ2) := by
  obtain ⟨⟨c1, c2, xc, c3, c4⟩, ct, c5⟩ := id hc
  obtain ⟨a1, a2, a3, a4, a5, a6, ⟨x, a7⟩, a8, a9⟩ := id hr
  have hx : xc = x := by
    have : mrun T S (σ2 39) (σ2 40) k = mrun T S (σ 33) (σ 34) k := mrun_congr k (fun j hj => by
      rw [hh 39 j (by decide), hh 40 j (by decide)]; exact hL j hj)
    rw [a7, c3] at this
    exact (Option.some.inj this).symm
  subst hx
  have hb : ∀ q j, ¬ (q = 35 ∧ (j = 0 ∨ j = 28 ∨ j = 29 ∨ j = 31)) → s_X5_beginsText σ2 q j = σ2 q j := fun q j hq => by
    rw [beginsText_eq, up_ne (by omega), up_ne (by omega), up_ne (by omega), up_ne (by omega)]
  have b28 : (s_X5_beginsText σ2) 35 28 = N 0 := by rw [beginsText_eq, up_k (by decide), up_k (by decide), up_eq]; rfl
  have b29 : (s_X5_beginsText σ2) 35 29 = 0 := by rw [beginsText_eq, up_k (by decide), up_eq]
  have b31 : (s_X5_beginsText σ2) 35 31 = N 0 := by rw [beginsText_eq, up_eq]; rfl
  have hI : RInv (s_X5_beginsText σ2) T S k t := RInv_of hr (fun j _ => hb 37 j (by omega)) (fun j _ => hb 36 j (by omega)) (hb 35 6 (by decide)) (fun j _ => ⟨hb 39 j (by omega), hb 40 j (by omega)⟩) (by rw [hb 35 26 (by decide)]; exact a8) a9
  have r39 : (s_X5_beginsText σ2) 39 = σ2 39 := funext (fun j => hb 39 j (by omega))
  have r40 : (s_X5_beginsText σ2) 40 = σ2 40 := funext (fun j => hb 40 j (by omega))
  obtain ⟨g1, g2, g3, g4⟩ := goesOn_ok (x := xc) hI (by rw [r39, r40]; exact a7)
  have q39 := g4.row (q := 39) (by decide) (by decide)
  have q40 := g4.row (q := 40) (by decide) (by decide)
  obtain ⟨e1, e2, e3⟩ := revs4 (T := T) (S := S) (k := k) a9 600 0 0 (s_X5_goesOn (s_X5_beginsText σ2)) xc (by omega) (by rw [g4 35 28 (by decide) (by decide)]; exact b28) (by rw [g4 35 26 (by decide) (by decide)]; exact hI.2.2.2.2.2.2.2.1) (by omega) g2 (by rw [g4 35 6 (by decide) (by decide)]; exact hI.2.2.2.2.1) (by rw [g4 35 31 (by decide) (by decide)]; exact b31) (by omega) (by rw [q39, q40, r39, r40]; exact a7)
  have hS : ∀ q j, ¬ (41 ≤ q ∧ q ≤ 56) → ¬ (q = 35 ∧ (j = 0 ∨ j = 23 ∨ j = 24 ∨ (26 ≤ j ∧ j ≤ 32))) → ¬ ((q = 39 ∨ q = 40) ∧ k ≤ j) → (t_X5_events_1 σ2) q j = σ2 q j := fun q j h1 h2 h3 => by
    unfold t_X5_events_1 t_X5_events_0
    rw [up_ne (by omega), up_ne (by omega)]
    refine (e2 q j h1 (by omega) h3).trans ?_
    rw [g4 q j h1 (by omega), hb q j (by omega)]
  have hf : ∀ q j, ¬ (q = 35 ∧ (j = 26 ∨ j = 27)) → (t_X5_events_1 σ2) q j = (r_X5_readEvents (s_X5_beginsText σ2)).2 q j := fun q j h1 => by
    unfold t_X5_events_1 t_X5_events_0
    rw [up_ne (by omega), up_ne (by omega)]
  have h26 : (t_X5_events_1 σ2) 35 26 = N 0 := by
    unfold t_X5_events_1 t_X5_events_0
    rw [up_k (by decide), up_eq]; rfl
  have h27 : (t_X5_events_1 σ2) 35 27 = (r_X5_readEvents (s_X5_beginsText σ2)).2 35 29 := by
    unfold t_X5_events_1 t_X5_events_0
    rw [up_eq, up_k (by decide)]
  have hbad : RInv (t_X5_events_1 σ2) T S k 0 := RInv_of hr (fun j _ => hS 37 j (by decide) (by omega) (by omega)) (fun j _ => hS 36 j (by decide) (by omega) (by omega)) (hS 35 6 (by decide) (by decide) (by omega)) (fun j hj => ⟨hS 39 j (by decide) (by omega) (by omega), hS 40 j (by decide) (by omega) (by omega)⟩) h26 (by decide)
  -- the start of the class
  have k0 : KSame (sg_up σ 0 7 0) (s_X3_rewind (sg_up σ 0 7 0)) := K_rewind
  have hs0 : ∀ q j, ¬ (q = 0 ∧ j = 7) → ¬ (q = 5 ∧ 2 ≤ j ∧ j ≤ 4) → (s_X3_rewind (sg_up σ 0 7 0)) q j = σ q j := fun q j h1 h2 => by
    rw [k0 q j h2, up_ne h1]
  have e54 : (s_X3_rewind (sg_up σ 0 7 0)) 5 4 = N 0 := by
    unfold s_X3_rewind t_X3_rewind_0
    rw [up_eq]; rfl
  have e07 : (s_X3_rewind (sg_up σ 0 7 0)) 0 7 = 0 := by rw [k0 0 7 (by decide), up_eq]
  have z33 : (s_X3_rewind (sg_up σ 0 7 0)) 33 = σ 33 := funext (fun j => hs0 33 j (by omega) (by omega))
  have z34 : (s_X3_rewind (sg_up σ 0 7 0)) 34 = σ 34 := funext (fun j => hs0 34 j (by omega) (by omega))
  have hE : EvI T S k 0 t 0 (s_X3_rewind (sg_up σ 0 7 0)) (s_X5_goesOn (s_X5_beginsText σ2)) xc := by
    refine ⟨CAt_fr c4 (fun q j hq => hs0 q j (by omega) (by omega)), by rw [hs0 0 6 (by decide) (by decide)]; exact c1, by omega, by rw [z33, z34]; exact c3, g2, by rw [g4 35 6 (by decide) (by decide)]; exact hI.2.2.2.2.1, by rw [g4 35 31 (by decide) (by decide)]; exact b31, by rw [q39, q40, r39, r40]; exact a7, fun j hj => ?_, e54, by rw [hs0 5 1 (by decide) (by decide)]; exact ct, by rw [g4 35 28 (by decide) (by decide)]; exact b28, by rw [g4 35 26 (by decide) (by decide)]; exact hI.2.2.2.2.2.2.2.1, by omega, c5, fun j hj => ?_⟩
    · rw [q39, q40, r39, r40, z33, z34, hh 39 j (by decide), hh 40 j (by decide)]; exact hL j (by omega)
    · rw [g4 57 j (by decide) (by omega), hb 57 j (by omega), hh 57 j (by decide), hs0 6 j (by omega) (by omega)]; exact (hT j hj).1
  have hO : EvsO T S k (σ 33) (σ 34) 0 (r_X4_events σ) (r_X5_readEvents (s_X5_beginsText σ2)) := by
    have i := evs_loop (T := T) (S := S) (k := k) (t := t) (A := σ 33) (B := σ 34) (z := 0) 600 600 0 0 0 _ _ xc (by omega) (by omega) (by omega) hE (fun j hj => by rw [hs0 6 j (by omega) (by omega)]; exact (hT j hj).2) e07 (by rw [g4 35 29 (by decide) (by decide)]; exact b29) (fun j hj => ⟨by rw [z33], by rw [z34]⟩)
    unfold r_X4_events r_X5_readEvents
    rw [c1]
    exact i
  unfold r_X5_events
  rcases hO with ⟨c, u1, u2, u3, u4, u5, u6, u7, u8⟩ | ⟨f, u1, u2, u3, u4, u5, u6⟩
  · rw [if_pos (show ¬ (r_X5_readEvents (s_X5_beginsText σ2)).1 = 0 by rw [u3]; exact one_nz)]
    have et : t_X5_events_2 σ2 = sg_up (t_X5_events_1 σ2) 35 6 (N (k + c)) := by
      unfold t_X5_events_2
      rw [hS 35 6 (by decide) (by decide) (by omega), a5, hf 35 31 (by decide), u4, N_add]
    have l39 : ∀ j, (sg_up (t_X5_events_1 σ2) 35 6 (N (k + c))) 39 j = (r_X5_readEvents (s_X5_beginsText σ2)).2 39 j := fun j => by rw [up_c (by decide)]; exact hf 39 j (by omega)
    have l40 : ∀ j, (sg_up (t_X5_events_1 σ2) 35 6 (N (k + c))) 40 j = (r_X5_readEvents (s_X5_beginsText σ2)).2 40 j := fun j => by rw [up_c (by decide)]; exact hf 40 j (by omega)
    have hlog : ∀ j, j < k + c → (sg_up (t_X5_events_1 σ2) 35 6 (N (k + c))) 39 j = (r_X4_events σ).2 33 j ∧ (sg_up (t_X5_events_1 σ2) 35 6 (N (k + c))) 40 j = (r_X4_events σ).2 34 j := fun j hj => by
      rw [l39, l40]; exact u8 j hj
    rw [et]
    refine Or.inl ⟨c, u2, ?_, u5, ⟨TabAt_up hbad.1 (by decide), a2, SetAt_up hbad.2.2.1 (by decide), a4, by dsimp only; rw [up_eq], u1, ?_, by dsimp only; rw [up_k (by decide)]; exact h26, by decide⟩, u6, ?_, hlog⟩
    · dsimp only; rw [up_k (by decide), hf 35 31 (by decide)]; exact u4
    · obtain ⟨-, -, y, y3, -⟩ := u5.1
      exact ⟨y, by rw [← y3]; exact mrun_congr (k + c) hlog⟩
    · dsimp only; rw [up_k (by decide), h27]; exact u7
  · rw [if_neg (fun w => w u2)]
    refine Or.inr ⟨f, u1, rfl, u5, hbad, u4, by dsimp only; rw [h27]; exact u3, fun j hj => ?_⟩
    dsimp only
    rw [hS 39 j (by decide) (by omega) (by omega), hS 40 j (by decide) (by omega) (by omega), hh 39 j (by decide), hh 40 j (by decide), (u6 j hj).1, (u6 j hj).2]
    exact hL j hj
end
section
/-! BACK, CLEAR, PLAY in full, and what all calls leave -/
section CallsFull
variable {σ : sg_S} {T S : Nat → Nat} {k t : Nat}
theorem Cf_clear (h : CInv σ T S k t) {q j : Nat} (h1 : ¬ (7 ≤ q ∧ q ≤ 19)) (h2 : ¬ (q = 0 ∧ j = 6)) : (r_X4_clear σ).2 q j = σ q j := by
  obtain ⟨⟨a1, a2, x, a3, a4⟩, ht, h5⟩ := id h
  have e := (cempty_ok a4.1 a4.2.1 a4.2.2.1 a4.2.2.2.1).2 q j h1 h2
  unfold r_X4_clear
  dsimp only
  exact e
theorem C_backY (h : CInv σ T S (k + 1) t) : (r_X4_back σ).1 = N k ∧ CInv (r_X4_back σ).2 T S k t ∧ (∀ q j, ¬ (7 ≤ q ∧ q ≤ 19) → ¬ (q = 0 ∧ j = 6) → (r_X4_back σ).2 q j = σ q j) := by
  obtain ⟨⟨a1, a2, x, a3, a4⟩, ht, h5⟩ := id h
  unfold r_X4_back
  have g : (0 : Int32) < σ 0 6 := by
    rw [a1]
    exact g_lt (a := 0) (by omega) (by omega)
  rw [if_pos g]
  obtain ⟨y, hy⟩ := mrun_le' a3 (j := k) (by omega)
  have e1 : σ 0 6 - 1 = N k := by rw [a1]; exact N_sub (b := 1) (by omega)
  have e33 : (sg_up σ 0 6 (N k)) 33 = σ 33 := funext (fun j => by rw [up_c (by decide)])
  have e34 : (sg_up σ 0 6 (N k)) 34 = σ 34 := funext (fun j => by rw [up_c (by decide)])
  have et : t_X4_back_0 σ = s_X4_replay (sg_up σ 0 6 (N k)) 7 (N k) := by
    unfold t_X4_back_0
    rw [e1, up_eq]
  obtain ⟨r1, r2⟩ := replay_ok (σ := sg_up σ 0 6 (N k)) (c := 7) (y := y) (by decide) (by decide) (TabAt_up a4.1 (by decide)) a4.2.1 (SetAt_up a4.2.2.1 (by decide)) a4.2.2.2.1 (show k ≤ 400 by omega) (by rw [e33, e34]; exact hy)
  dsimp only
  rw [et]
  have e06 : (s_X4_replay (sg_up σ 0 6 (N k)) 7 (N k)) 0 6 = N k := by rw [r2 0 6 (by decide), up_eq]
  refine ⟨e06, ⟨⟨e06, by omega, y, ?_, r1⟩, ?_, h5⟩, fun q j h1 h2 => ?_⟩
  · rw [r2.row (q := 33) (by decide), r2.row (q := 34) (by decide), e33, e34]; exact hy
  · rw [r2 5 1 (by decide), up_c (by decide)]; exact ht
  · rw [r2 q j (by omega), up_ne h2]
theorem C_backN (h : CInv σ T S 0 t) : r_X4_back σ = (-1, σ) := by
  unfold r_X4_back
  rw [show σ 0 6 = N 0 from h.1.1, if_neg (by decide)]
theorem R_backY (h : RInv σ T S (k + 1) t) : r_X5_back σ = (N k, sg_up (sg_up σ 35 0 0) 35 6 (N k)) ∧ RInv (sg_up (sg_up σ 35 0 0) 35 6 (N k)) T S k t := by
  have h0 := RInv_0 (v := 0) h
  obtain ⟨a1, a2, a3, a4, a5, a6, ⟨x, a7⟩, a8, a9⟩ := id h0
  obtain ⟨y, hy⟩ := mrun_le' a7 (j := k) (by omega)
  have et : t_X5_back_0 σ = sg_up (sg_up σ 35 0 0) 35 6 (N k) := by
    unfold t_X5_back_0
    rw [a5, show (1 : Int32) = N 1 from rfl, N_sub (by omega)]
    rfl
  unfold r_X5_back
  rw [if_pos (by rw [a5]; exact N_nz (by omega) (by omega)), et, up_eq]
  exact ⟨rfl, TabAt_up a1 (by decide), a2, SetAt_up a3 (by decide), a4, up_eq, by omega, ⟨y, hy⟩, by rw [up_k (by decide)]; exact a8, a9⟩
theorem R_backN (h : RInv σ T S 0 t) : r_X5_back σ = (-1, sg_up σ 35 0 0) := by
  have h0 := RInv_0 (v := 0) h
  unfold r_X5_back
  rw [if_neg (fun w => w (by rw [h0.2.2.2.2.1]; rfl))]
/-! play -/
theorem crec_f {x y : mS} {e n : Int32} (h6 : σ 0 6 = N k) (hk : k < 400) (hA : CAt σ 7 T S x.1 x.2.1 x.2.2) (hx : mrun T S (σ 33) (σ 34) k = some x) (hs : stp T (S 1) x e n = some y) {q j : Nat} (h1 : ¬ (7 ≤ q ∧ q ≤ 19)) (h2 : ¬ (q = 0 ∧ j = 6)) (h3 : ¬ ((q = 33 ∨ q = 34) ∧ j = k)) : (s_X4_record σ e n) q j = σ q j := by
  have e1 : (sg_up σ 33 k e) 0 6 = N k := by rw [up_c (by decide)]; exact h6
  have et : t_X4_record_1 σ e n = sg_up (sg_up (sg_up σ 33 k e) 34 k n) 0 6 (N (k + 1)) := by
    unfold t_X4_record_1 t_X4_record_0
    rw [h6, ni_N (by omega), e1, ni_N (by omega), up_c (by decide), e1, N_inc]
  have er : s_X4_record σ e n = s_X0_take (sg_up (sg_up (sg_up σ 33 k e) 34 k n) 0 6 (N (k + 1))) 7 e n := by
    unfold s_X4_record
    rw [h6, if_neg (N_nn (by omega)), if_pos (by exact g_lt (L := 400) hk (by decide)), et]
  have hA1 : CAt (sg_up (sg_up (sg_up σ 33 k e) 34 k n) 0 6 (N (k + 1))) 7 T S x.1 x.2.1 x.2.2 := CAt_fr hA (fun q j hq => by
    rw [up_ne (by omega), up_ne (by omega), up_ne (by omega)])
  obtain ⟨t1, t2⟩ := take_ok (y := y) (by decide) hA1 (mrun_OK hA.2.1 hA.2.2.2.1 k x hx) (by omega) (show stp T (S 1) (x.1, x.2.1, x.2.2) e n = some y from hs)
  rw [er, t2 q j (by omega), up_ne h2, up_ne (by omega), up_ne (by omega)]
theorem cplay_iff {x : mS} {e n : Int32} (h6 : σ 0 6 = N k) (hk : k ≤ 400) (hA : CAt σ 7 T S x.1 x.2.1 x.2.2) (hx : mrun T S (σ 33) (σ 34) k = some x) : (k < 400 ∧ canS x.1 x.2.1 x.2.2 e n → ¬ v_X4_isEvent e = 0 ∧ ¬ v_X4_canCome σ e = 0 ∧ (¬ v_X4_bearsNumber e = 0 → ¬ v_X0_fits σ 7 e n = 0)) := by
  have hO := mrun_OK hA.2.1 hA.2.2.2.1 k x hx
  intro ⟨h1, h2, h3, h4, h5⟩
  have hi : x.1 < 2 := by
    by_cases w : e = 100
    · have := (h3 w).1; omega
    · exact h4 w
  have hfi := fits_iff (e := e) (n := n) hA hi (hO.2.2.2.1 x.1 hi) (hO.2.2.2.1 1 (by decide))
  have h0 := hO.2.2.1
  refine ⟨isEvent4.mpr h2, (canCome_iff h6 hk hA hO.1 hO.2.1).mpr ⟨h1, hi, fun w => ?_⟩, fun w => hfi.mpr ⟨fun v => (h3 v).2, fun v => ?_⟩⟩
  · have := (h3 w).1; omega
  · have hb := bears_iff (e := e)
    have e99 : e = 99 := Decidable.not_not.mp (fun u => w (hb.mpr ⟨u, v⟩))
    exact h5 e99
theorem C_playY {x : mS} {e n : Int32} (h : CInv σ T S k t) (hx : mrun T S (σ 33) (σ 34) k = some x) (hc : k < 400 ∧ canS x.1 x.2.1 x.2.2 e n) : r_X4_play σ e n = (N (k + 1), s_X4_record σ e n) ∧ CInv (s_X4_record σ e n) T S (k + 1) t ∧ (s_X4_record σ e n) 33 k = e ∧ (s_X4_record σ e n) 34 k = n ∧ (∀ q j, ¬ (7 ≤ q ∧ q ≤ 19) → ¬ (q = 0 ∧ j = 6) → ¬ ((q = 33 ∨ q = 34) ∧ j = k) → (s_X4_record σ e n) q j = σ q j) := by
  obtain ⟨⟨a1, a2, x', a3, a4⟩, ht, h5⟩ := id h
  have ex : x' = x := Option.some.inj (a3.symm.trans hx)
  subst ex
  obtain ⟨g1, g2, g3⟩ := cplay_iff a1 a2 a4 a3 hc
  obtain ⟨y, hy⟩ := stp_some (T := T) (mean := S 1) hc.2
  obtain ⟨c1, c2, c3, c4, c5, c6⟩ := crec_ok (y := y) a1 hc.1 a4 a3 hy
  have hf := fun (q j : Nat) => crec_f (q := q) (j := j) (y := y) a1 hc.1 a4 a3 hy
  refine ⟨?_, ⟨⟨c1, by omega, y, c2, c3⟩, by rw [hf 5 1 (by decide) (by decide) (by omega)]; exact ht, h5⟩, c5, c6, fun q j => hf q j⟩
  unfold r_X4_play
  rw [if_neg g1, if_pos g2, c1]
  by_cases g4 : v_X4_bearsNumber e = 0
  · rw [if_pos g4]
  · rw [if_neg g4, if_pos (g3 g4)]
theorem C_playN {x : mS} {e n : Int32} (h : CInv σ T S k t) (hx : mrun T S (σ 33) (σ 34) k = some x) (hc : ¬ (k < 400 ∧ canS x.1 x.2.1 x.2.2 e n)) : r_X4_play σ e n = (-1, σ) := by
  obtain ⟨⟨a1, a2, x', a3, a4⟩, ht, h5⟩ := id h
  have ex : x' = x := Option.some.inj (a3.symm.trans hx)
  subst ex
  unfold r_X4_play
  by_cases g1 : v_X4_isEvent e = 0
  · rw [if_pos g1]
  rw [if_neg g1]
  by_cases g2 : ¬ v_X4_canCome σ e = 0
  · rw [if_pos g2]
    by_cases g3 : v_X4_bearsNumber e = 0
    · exact absurd (cplay_can (n := n) a1 a2 a4 a3 g1 g2 (fun z => absurd g3 z)) hc
    · rw [if_neg g3]
      by_cases g4 : ¬ v_X0_fits σ 7 e n = 0
      · exact absurd (cplay_can (n := n) a1 a2 a4 a3 g1 g2 (fun _ => g4)) hc
      · rw [if_neg g4]
  · rw [if_neg g2]
/-- the reference's flag: the event can come -/
theorem R_playF {x : mS} {e n : Int32} (h : RInv σ T S k t) (hx : mrun T S (σ 39) (σ 40) k = some x) : ∃ y0 : Int32, (¬ y0 = 0 ↔ (k < 400 ∧ canS x.1 x.2.1 x.2.2 e n)) ∧ r_X5_play σ e n = r_X5_play_a77 (s_X5_goesOn (sg_up σ 35 0 0)) e n y0 := by
  have h0 := RInv_0 (v := 0) h
  have e39 : (sg_up σ 35 0 0) 39 = σ 39 := funext (fun j => up_c (by decide))
  have e40 : (sg_up σ 35 0 0) 40 = σ 40 := funext (fun j => up_c (by decide))
  obtain ⟨g1, g2, g3, g4⟩ := goesOn_ok (x := x) h0 (by rw [e39, e40]; exact hx)
  have hI := g4.q.inv h0
  have h6 : (s_X5_goesOn (sg_up σ 35 0 0)) 35 6 = N k := hI.2.2.2.2.1
  have hk : k ≤ 400 := h.2.2.2.2.2.1
  have hc4 : ((400 : Int32) ≤ (s_X5_goesOn (sg_up σ 35 0 0)) 35 6) ↔ ¬ k < 400 := by
    rw [h6]
    show (N 400 ≤ N k) ↔ _
    rw [N_le (by decide) (by omega)]; omega
  have hno := now_lt g2 g3.1
  have hea := isEarly_iff g2 g3.1 g3.2.1
  have hmd := mayDrop_iff (n := n) g2 (g3.2.2.2.1 1 (by decide))
  have z0 : ¬ ¬ (0 : Int32) = 0 := nn0
  unfold r_X5_play
  by_cases c0 : v_X5_isEvent e = 0
  · rw [if_pos c0]
    exact ⟨0, ⟨fun w => absurd w z0, fun w => absurd c0 (isEvent5.mpr w.2.1)⟩, rfl⟩
  rw [if_neg c0]
  have hev := isEvent5.mp c0
  by_cases c4 : (400 : Int32) ≤ (s_X5_goesOn (sg_up σ 35 0 0)) 35 6
  · rw [if_pos c4]
    exact ⟨0, ⟨fun w => absurd w z0, fun w => absurd w.1 (hc4.mp c4)⟩, rfl⟩
  rw [if_neg c4]
  have c4' : k < 400 := Decidable.not_not.mp (fun w => c4 (hc4.mpr w))
  by_cases h100 : e = 100
  · rw [if_neg (show ¬ ¬ e = 100 from fun w => w h100)]
    by_cases hy : v_X5_isEarly (s_X5_goesOn (sg_up σ 35 0 0)) = 0
    · rw [if_pos hy]
      exact ⟨0, ⟨fun w => absurd w z0, fun w => absurd hy (hea.mpr (w.2.2.1 h100).1)⟩, rfl⟩
    rw [if_neg hy]
    by_cases hm : v_X5_mayDrop (s_X5_goesOn (sg_up σ 35 0 0)) n = 0
    · rw [if_pos hm]
      exact ⟨0, ⟨fun w => absurd w z0, fun w => absurd hm (hmd.mpr (w.2.2.1 h100).2)⟩, rfl⟩
    · rw [if_neg hm]
      exact ⟨1, ⟨fun _ => ⟨c4', hev, fun _ => ⟨hea.mp hy, hmd.mp hm⟩, fun w => absurd h100 w, fun w => absurd (h100.symm.trans w) (by decide)⟩, fun _ => one_nz⟩, rfl⟩
  · rw [if_pos h100]
    by_cases hy : (2 : Int32) ≤ (s_X5_goesOn (sg_up σ 35 0 0)) 35 23
    · rw [if_pos hy]
      exact ⟨0, ⟨fun w => absurd w z0, fun w => absurd (w.2.2.2.1 h100) (hno.mp hy)⟩, rfl⟩
    rw [if_neg hy]
    have hi : x.1 < 2 := Decidable.not_not.mp (fun w => hy (hno.mpr w))
    have hmc := (mayCut_iff (n := n) g2 hi (g3.2.2.2.1 x.1 hi)).2
    by_cases h99 : e = 99
    · rw [if_neg (show ¬ ¬ e = 99 from fun w => w h99)]
      by_cases hm : v_X5_mayCut (s_X5_goesOn (sg_up σ 35 0 0)) n = 0
      · rw [if_pos hm]
        exact ⟨0, ⟨fun w => absurd w z0, fun w => absurd hm (hmc.mpr (w.2.2.2.2 h99))⟩, rfl⟩
      · rw [if_neg hm]
        exact ⟨1, ⟨fun _ => ⟨c4', hev, fun w => absurd w h100, fun _ => hi, fun _ => hmc.mp hm⟩, fun _ => one_nz⟩, rfl⟩
    · rw [if_pos h99]
      exact ⟨1, ⟨fun _ => ⟨c4', hev, fun w => absurd w h100, fun _ => hi, fun w => absurd w h99⟩, fun _ => one_nz⟩, rfl⟩
theorem R_playY {x : mS} {e n : Int32} (h : RInv σ T S k t) (hx : mrun T S (σ 39) (σ 40) k = some x) (hc : k < 400 ∧ canS x.1 x.2.1 x.2.2 e n) : (r_X5_play σ e n).1 = N (k + 1) ∧ RInv (r_X5_play σ e n).2 T S (k + 1) t ∧ (r_X5_play σ e n).2 39 k = e ∧ (r_X5_play σ e n).2 40 k = n ∧ (∀ q j, ¬ (41 ≤ q ∧ q ≤ 56) → ¬ (q = 35 ∧ (j = 0 ∨ j = 6 ∨ j = 23 ∨ j = 24)) → ¬ ((q = 39 ∨ q = 40) ∧ j = k) → (r_X5_play σ e n).2 q j = σ q j) := by
  have h0 := RInv_0 (v := 0) h
  have e39 : (sg_up σ 35 0 0) 39 = σ 39 := funext (fun j => up_c (by decide))
  have e40 : (sg_up σ 35 0 0) 40 = σ 40 := funext (fun j => up_c (by decide))
  obtain ⟨g1, g2, g3, g4⟩ := goesOn_ok (x := x) h0 (by rw [e39, e40]; exact hx)
  have hI := g4.q.inv h0
  obtain ⟨a1, a2, a3, a4, a5, a6, -, a8, a9⟩ := id hI
  obtain ⟨y0, f1, f2⟩ := R_playF (e := e) (n := n) h hx
  rw [f2]
  have hx1 : mrun T S ((s_X5_goesOn (sg_up σ 35 0 0)) 39) ((s_X5_goesOn (sg_up σ 35 0 0)) 40) k = some x := by
    rw [g4.row (q := 39) (by decide) (by decide), g4.row (q := 40) (by decide) (by decide), e39, e40]; exact hx
  have hfr : ∀ q j, ¬ (41 ≤ q ∧ q ≤ 56) → ¬ (q = 35 ∧ (j = 0 ∨ j = 23 ∨ j = 24)) → (s_X5_goesOn (sg_up σ 35 0 0)) q j = σ q j := fun q j h1 h2 => by
    rw [g4 q j h1 (by omega), up_ne (by omega)]
  generalize s_X5_goesOn (sg_up σ 35 0 0) = G at *
  unfold r_X5_play_a77
  rw [if_pos (f1.mpr hc)]
  obtain ⟨y, hs⟩ := stp_some (T := T) (mean := S 1) hc.2
  have e1 : (sg_up G 39 k e) 35 6 = N k := by rw [up_c (by decide)]; exact a5
  have et : t_X5_play_1 G e n y0 = sg_up (sg_up (sg_up G 39 k e) 40 k n) 35 6 (N (k + 1)) := by
    unfold t_X5_play_1 t_X5_play_0
    rw [a5, ni_N (by omega), e1, ni_N (by omega), up_c (by decide), e1, N_inc]
  dsimp only
  rw [et]
  refine ⟨up_eq, ⟨TabAt_up (TabAt_up (TabAt_up a1 (by decide)) (by decide)) (by decide), a2, SetAt_up (SetAt_up (SetAt_up a3 (by decide)) (by decide)) (by decide), a4, up_eq, by omega, ⟨y, ?_⟩, by rw [up_k (by decide), up_c (by decide), up_c (by decide)]; exact a8, a9⟩, by rw [up_c (by decide), up_c (by decide), up_eq], by rw [up_c (by decide), up_eq], fun q j h1 h2 h3 => ?_⟩
  · have hc : mrun T S ((sg_up (sg_up (sg_up G 39 k e) 40 k n) 35 6 (N (k + 1))) 39) ((sg_up (sg_up (sg_up G 39 k e) 40 k n) 35 6 (N (k + 1))) 40) k = some x := by
      rw [← hx1]
      refine mrun_congr k (fun j hj => ⟨?_, ?_⟩)
      · rw [up_c (by decide), up_c (by decide), up_k (by omega)]
      · rw [up_c (by decide), up_k (by omega), up_c (by decide)]
    rw [mrun_some hc, up_c (by decide), up_c (by decide), up_eq, up_c (by decide), up_eq]
    exact hs
  · rw [up_ne (by omega), up_ne (by omega), up_ne (by omega)]
    exact hfr q j h1 (by omega)
theorem R_playN {x : mS} {e n : Int32} (h : RInv σ T S k t) (hx : mrun T S (σ 39) (σ 40) k = some x) (hc : ¬ (k < 400 ∧ canS x.1 x.2.1 x.2.2 e n)) : (r_X5_play σ e n).1 = -1 ∧ QSame σ (r_X5_play σ e n).2 := by
  have h0 := RInv_0 (v := 0) h
  have e39 : (sg_up σ 35 0 0) 39 = σ 39 := funext (fun j => up_c (by decide))
  have e40 : (sg_up σ 35 0 0) 40 = σ 40 := funext (fun j => up_c (by decide))
  obtain ⟨g1, g2, g3, g4⟩ := goesOn_ok (x := x) h0 (by rw [e39, e40]; exact hx)
  obtain ⟨y0, f1, f2⟩ := R_playF (e := e) (n := n) h hx
  rw [f2]
  unfold r_X5_play_a77
  rw [if_neg (fun w => hc (f1.mp w))]
  exact ⟨rfl, QSame_0.tr g4.q⟩
end CallsFull
end
section
/-! BOTH IN STEP -/
def Lg (σ : sg_S) (k : Nat) : Prop := ∀ j, j < k → σ 39 j = σ 33 j ∧ σ 40 j = σ 34 j
def Cpl (σ : sg_S) (T S : Nat → Nat) (k t : Nat) : Prop := CInv σ T S k t ∧ RInv σ T S k t ∧ Tape σ t ∧ Lg σ k ∧ σ 35 27 = σ 0 7
def Inv2 (σ : sg_S) : Prop := ∃ T S k t, Cpl σ T S k t
theorem RInv_hi {σ σ' : sg_S} {T S : Nat → Nat} {k t : Nat} (hr : RInv σ T S k t) (hs : HiS σ σ') : RInv σ' T S k t :=
  RInv_of hr (fun j _ => hs 37 j (by decide)) (fun j _ => hs 36 j (by decide)) (hs 35 6 (by decide)) (fun j _ => ⟨hs 39 j (by decide), hs 40 j (by decide)⟩) (by rw [hs 35 26 (by decide)]; exact hr.2.2.2.2.2.2.2.1) hr.2.2.2.2.2.2.2.2
theorem CInv_lo {σ σ' : sg_S} {T S : Nat → Nat} {k t : Nat} (hc : CInv σ T S k t) (hs : LoS σ σ') : CInv σ' T S k t :=
  ⟨CSt_fr hc.1 (hs 0 6 (by decide)) (fun j _ => ⟨hs 33 j (by decide), hs 34 j (by decide)⟩) (fun q j hq => hs q j (by omega)), by rw [hs 5 1 (by decide)]; exact hc.2.1, hc.2.2⟩
theorem Lg_fr {σ σ' : sg_S} {k : Nat} (h : Lg σ k) (h1 : ∀ j, σ' 39 j = σ 39 j) (h2 : ∀ j, σ' 40 j = σ 40 j) (h3 : ∀ j, σ' 33 j = σ 33 j) (h4 : ∀ j, σ' 34 j = σ 34 j) : Lg σ' k := fun j hj => by
  rw [h1, h2, h3, h4]; exact h j hj
theorem Lg_0 {σ : sg_S} : Lg σ 0 := fun j hj => by omega
theorem Lg_tab {σ : sg_S} {T S : Nat → Nat} {k t : Nat} (hc : CInv σ T S k t) (hr : RInv (r_X4_table σ).2 T S k t) (c4 : HiS σ (r_X4_table σ).2) (b6 : LoS (r_X4_table σ).2 (r_X5_table (r_X4_table σ).2).2) (hL : Lg σ k) : Lg (r_X5_table (r_X4_table σ).2).2 k := by
  obtain ⟨⟨a1, a2, x, a3, a4⟩, ht, h5⟩ := id hc
  obtain ⟨r1, V0, r2, r3⟩ := ctab_ok h5 ht a4.1 a4.2.1
  have hS1 : ∀ q j, ¬ q = 3 → ¬ (q = 5 ∧ 1 ≤ j ∧ j ≤ 4) → ¬ (q = 0 ∧ (j = 7 ∨ j = 8)) → (sg_up (t_X4_table_0 σ) 5 1 0) q j = σ q j := fun q j h1 h2 h3 => by
    unfold t_X4_table_0
    rw [up_ne (by omega), up_ne (by omega), r1 q j h1 (by omega) h3]
  have h3 : ∀ q j, (q = 33 ∨ q = 34) → (r_X4_table σ).2 q j = σ q j := fun q j hq => by
    have hE := hS1 q j (by omega) (by omega) (by omega)
    have h07 : (sg_up (t_X4_table_0 σ) 5 1 0) 0 7 = (r_X4_readTable σ).1 := by
      unfold t_X4_table_0
      rw [up_c (by decide), up_eq]
    unfold r_X4_table
    by_cases g : (sg_up (t_X4_table_0 σ) 5 1 0) 0 7 = 0
    · rw [if_pos g]
      rw [h07] at g
      have hV : TabAt (sg_up (t_X4_table_0 σ) 5 1 0) 3 V0 := by
        unfold t_X4_table_0
        exact TabAt_up (TabAt_up r2 (by decide)) (by decide)
      obtain ⟨c1, c2⟩ := adopt2 600 0 (sg_up (t_X4_table_0 σ) 5 1 0) (by decide) (by decide) hV (fun i hi => by omega)
      have c1 : TabAt (t_X4_table_1 σ) 2 V0 := c1
      have c2 : ∀ q j, ¬ q = 2 → t_X4_table_1 σ q j = (sg_up (t_X4_table_0 σ) 5 1 0) q j := c2
      have hS4 : SetAt (t_X4_table_1 σ) 4 S := fun j hj => by
        rw [c2 4 j (by decide), hS1 4 j (by decide) (by omega) (by omega)]; exact a4.2.2.1 j hj
      obtain ⟨f1, f2⟩ := cempty_ok c1 (r3 g) hS4 a4.2.2.2.1
      dsimp only
      rw [f2 q j (by omega) (by omega), c2 q j (by omega)]
      exact hE
    · rw [if_neg g]; exact hE
  obtain ⟨d1, d2, d3, d4, d5, d6, d7, d8, d9⟩ := id hr
  have h4 : ∀ q j, (q = 39 ∨ q = 40) → (r_X5_table (r_X4_table σ).2).2 q j = (r_X4_table σ).2 q j := fun q j hq => by
    generalize (r_X4_table σ).2 = G at *
    have hb : ∀ q j, ¬ (q = 35 ∧ (j = 0 ∨ j = 28 ∨ j = 29 ∨ j = 31)) → s_X5_beginsText G q j = G q j := fun q j hq => by
      rw [beginsText_eq, up_ne (by omega), up_ne (by omega), up_ne (by omega), up_ne (by omega)]
    have b28 : (s_X5_beginsText G) 35 28 = N 0 := by rw [beginsText_eq, up_k (by decide), up_k (by decide), up_eq]; rfl
    obtain ⟨-, q2, V1, q3, q4⟩ := rtab_ok (σ := s_X5_beginsText G) (a := 0) d9 (by omega) b28 (by rw [hb 35 26 (by decide)]; exact d8) (fun j hj => by rw [hb 37 j (by omega)]; exact d1 j hj) d2
    have hS : (t_X5_table_1 G) q j = G q j := by
      unfold t_X5_table_1 t_X5_table_0
      rw [up_ne (by omega), up_ne (by omega), q2 q j (by omega) (by omega), hb q j (by omega)]
    unfold r_X5_table
    by_cases g : ¬ (r_X5_readTable (s_X5_beginsText G)).1 = 0
    · rw [if_pos g]
      have hV1 : TabAt (t_X5_table_1 G) 38 V1 := by
        unfold t_X5_table_1 t_X5_table_0
        exact TabAt_up (TabAt_up q3 (by decide)) (by decide)
      obtain ⟨-, k2, k3, k4, k5⟩ := tab30 600 0 (t_X5_table_1 G) (by decide) (by decide) hV1 (fun i hi => by omega)
      rw [show (r_X5_table_l30 600 (t_X5_table_1 G) 0).2 q j = _ from k5 q j (by omega) (by omega)]
      exact hS
    · rw [if_neg g]; exact hS
  intro j hj
  rw [h4 39 j (Or.inl rfl), h4 40 j (Or.inr rfl), c4 39 j (by decide), c4 40 j (by decide), b6 33 j (by decide), b6 34 j (by decide), h3 33 j (Or.inl rfl), h3 34 j (Or.inr rfl)]
  exact hL j hj
section Step
variable {σ : sg_S} {T S : Nat → Nat} {k t : Nat}
theorem Cpl_q {σ' : sg_S} (h : Cpl σ T S k t) (hq : QSame σ σ') : Cpl σ' T S k t := by
  obtain ⟨hc, hr, hT, hL, hF⟩ := h
  refine ⟨CInv_lo hc hq.lo, hq.inv hr, Tape_fr hT (Nat.le_refl _) (fun j => hq 57 j (by decide) (by decide) (by omega)) (fun j => hq.lo 6 j (by decide)), Lg_fr hL (fun j => hq 39 j (by decide) (by decide) (by omega)) (fun j => hq 40 j (by decide) (by decide) (by omega)) (fun j => hq.lo 33 j (by decide)) (fun j => hq.lo 34 j (by decide)), ?_⟩
  rw [hq 35 27 (by decide) (by decide) (by decide), hq.lo 0 7 (by decide)]; exact hF
theorem Cpl_20 {σ' : sg_S} (h : Cpl σ T S k t) (hs : CSame 20 σ σ') : Cpl σ' T S k t := by
  obtain ⟨hc, hr, hT, hL, hF⟩ := h
  obtain ⟨c1, c2⟩ := CInv_20 hc hs
  refine ⟨c1, RInv_hi hr c2, Tape_fr hT (Nat.le_refl _) (fun j => hs 57 j (by decide)) (fun j => hs 6 j (by decide)), Lg_fr hL (fun j => hs 39 j (by decide)) (fun j => hs 40 j (by decide)) (fun j => hs 33 j (by decide)) (fun j => hs 34 j (by decide)), ?_⟩
  rw [hs 35 27 (by decide), hs 0 7 (by decide)]; exact hF
theorem Cpl_o {v : Int32} (h : Cpl σ T S k t) : Cpl (sg_up σ 60 0 v) T S k t := by
  obtain ⟨hc, hr, hT, hL, hF⟩ := h
  exact ⟨CInv_lo hc (fun q k h => up_c (by omega)), RInv_of hr (fun j _ => up_c (by decide)) (fun j _ => up_c (by decide)) (up_c (by decide)) (fun j _ => ⟨up_c (by decide), up_c (by decide)⟩) (by rw [up_c (by decide)]; exact hr.2.2.2.2.2.2.2.1) hr.2.2.2.2.2.2.2.2, Tape_fr hT (Nat.le_refl _) (fun j => up_c (by decide)) (fun j => up_c (by decide)), Lg_fr hL (fun j => up_c (by decide)) (fun j => up_c (by decide)) (fun j => up_c (by decide)) (fun j => up_c (by decide)), by rw [up_c (by decide), up_c (by decide)]; exact hF⟩
theorem cpl_feed {x0 x1 x2 x3 x4 : Int32} (h : Cpl σ T S k t) : (r_X4_feed σ x0 x1 x2 x3 x4).1 = (r_X5_feed (r_X4_feed σ x0 x1 x2 x3 x4).2 x0 x1 x2 x3 x4).1 ∧ p_X5_feed (r_X4_feed σ x0 x1 x2 x3 x4).2 x0 x1 x2 x3 x4 ∧ Inv2 (r_X5_feed (r_X4_feed σ x0 x1 x2 x3 x4).2 x0 x1 x2 x3 x4).2 := by
  obtain ⟨hc, hr, hT, hL, hF⟩ := h
  have hA := (C_feed (x0 := x0) (x1 := x1) (x2 := x2) (x3 := x3) (x4 := x4) hc).2.2
  have hr2 := RInv_hi hr hA.hi
  obtain ⟨b0, -, -, hB⟩ := R_feed (x0 := x0) (x1 := x1) (x2 := x2) (x3 := x3) (x4 := x4) hr2
  obtain ⟨e, t', c1, r1, t1⟩ := both_feed (x0 := x0) (x1 := x1) (x2 := x2) (x3 := x3) (x4 := x4) hc hr2 hA.hi rfl hT
  refine ⟨e, b0, T, S, k, t', CInv_lo c1 hB.lo, r1, t1, Lg_fr hL (fun j => (hB 39 j (by decide) (by omega)).trans (hA 39 j (by decide) (by omega))) (fun j => (hB 40 j (by decide) (by omega)).trans (hA 40 j (by decide) (by omega))) (fun j => (hB 33 j (by decide) (by omega)).trans (hA 33 j (by decide) (by omega))) (fun j => (hB 34 j (by decide) (by omega)).trans (hA 34 j (by decide) (by omega))), ?_⟩
  rw [hB 35 27 (by decide) (by decide), hA 35 27 (by decide) (by decide), hB 0 7 (by decide) (by decide), hA 0 7 (by decide) (by decide)]; exact hF
theorem cpl_end {n : Int32} (h : Cpl σ T S k t) : (r_X4_end σ n).1 = (r_X5_end (r_X4_end σ n).2 n).1 ∧ Inv2 (r_X5_end (r_X4_end σ n).2 n).2 := by
  obtain ⟨hc, hr, hT, hL, hF⟩ := h
  have hA := (C_end (n := n) hc).2.2.1
  have hr2 := RInv_hi hr hA.hi
  have hB := (R_end (n := n) hr2).2.2.1
  obtain ⟨e, t', c1, r1, t1⟩ := both_end (n := n) hc hr2 hA.hi rfl hT
  refine ⟨e, T, S, k, t', CInv_lo c1 hB.lo, r1, t1, Lg_fr hL (fun j => (hB 39 j (by decide) (by omega)).trans (hA 39 j (by decide) (by omega))) (fun j => (hB 40 j (by decide) (by omega)).trans (hA 40 j (by decide) (by omega))) (fun j => (hB 33 j (by decide) (by omega)).trans (hA 33 j (by decide) (by omega))) (fun j => (hB 34 j (by decide) (by omega)).trans (hA 34 j (by decide) (by omega))), ?_⟩
  rw [hB 35 27 (by decide) (by decide), hA 35 27 (by decide) (by decide), hB 0 7 (by decide) (by decide), hA 0 7 (by decide) (by decide)]; exact hF
theorem cpl_table (h : Cpl σ T S k t) : (r_X4_table σ).1 = (r_X5_table (r_X4_table σ).2).1 ∧ p_X5_table (r_X4_table σ).2 ∧ Inv2 (r_X5_table (r_X4_table σ).2).2 := by
  obtain ⟨hc, hr, hT, hL, hF⟩ := h
  have c4 := (C_table hc).2
  have hr2 := RInv_hi hr c4
  obtain ⟨b0, -, b6⟩ := R_table hr2
  rcases both_table hc hr2 c4 hT with ⟨V, r, u1, u2, u3, u4, u5, u6⟩ | ⟨f, u1, u2, u3, u4, u5, u6⟩
  · exact ⟨u1.trans u2.symm, b0, V, S, 0, 0, CInv_lo u3 b6, u4, Tape_0, Lg_0, u6.trans (by rw [b6 0 7 (by decide)]; exact u5.symm)⟩
  · refine ⟨u1.trans u2.symm, b0, T, S, k, 0, CInv_lo u3 b6, u4, Tape_0, ?_, u6.trans (by rw [b6 0 7 (by decide)]; exact u5.symm)⟩
    exact Lg_tab hc hr2 c4 b6 hL
theorem cpl_events (h : Cpl σ T S k t) : (r_X4_events σ).1 = (r_X5_events (r_X4_events σ).2).1 ∧ p_X5_events (r_X4_events σ).2 ∧ Inv2 (r_X5_events (r_X4_events σ).2).2 := by
  obtain ⟨hc, hr, hT, hL, hF⟩ := h
  have c4 := (C_events hc).2
  have hr2 := RInv_hi hr c4
  obtain ⟨b0, -, b6⟩ := R_events hr2
  have hl : ∀ m, (∀ j, j < m → (r_X5_events (r_X4_events σ).2).2 39 j = (r_X4_events σ).2 33 j ∧ (r_X5_events (r_X4_events σ).2).2 40 j = (r_X4_events σ).2 34 j) → Lg (r_X5_events (r_X4_events σ).2).2 m := fun m hm j hj => by
    rw [b6 33 j (by decide), b6 34 j (by decide)]; exact hm j hj
  rcases both_events hc hr2 c4 hT hL with ⟨c, u1, u2, u3, u4, u5, u6, u7⟩ | ⟨f, u1, u2, u3, u4, u5, u6, u7⟩
  · exact ⟨u1.trans u2.symm, b0, T, S, k + c, 0, CInv_lo u3 b6, u4, Tape_0, hl _ u7, u6.trans (by rw [b6 0 7 (by decide)]; exact u5.symm)⟩
  · exact ⟨u1.trans u2.symm, b0, T, S, k, 0, CInv_lo u3 b6, u4, Tape_0, hl _ u7, u6.trans (by rw [b6 0 7 (by decide)]; exact u5.symm)⟩
theorem cpl_set {x0 x1 : Int32} (h : Cpl σ T S k t) : (r_X4_set σ x0 x1).1 = (r_X5_set (r_X4_set σ x0 x1).2 x0 x1).1 ∧ p_X5_set (r_X4_set σ x0 x1).2 x0 x1 ∧ Inv2 (r_X5_set (r_X4_set σ x0 x1).2 x0 x1).2 := by
  obtain ⟨hc, hr, hT, hL, hF⟩ := id h
  by_cases g : ∃ s v, x0 = N s ∧ x1 = N v ∧ setC S s v
  · obtain ⟨s, v, rfl, rfl, hs⟩ := g
    obtain ⟨c1, c2, c3, -, c5⟩ := C_setY hc hs
    have hr2 := RInv_hi hr c3
    have b0 := (R_set (x0 := N s) (x1 := N v) hr2).1
    obtain ⟨r1, r2, r3⟩ := R_setY hr2 hs
    refine ⟨c1.trans r1.symm, b0, T, du S s v, 0, t, CInv_lo c2 (fun q j hq => r3 q j (by omega) (by omega)), r2, Tape_fr hT (Nat.le_refl _) (fun j => (r3 57 j (by omega) (by decide)).trans (c3 57 j (by decide))) (fun j => (r3 6 j (by omega) (by decide)).trans (c5 6 j (by decide) (by omega) (by decide))), Lg_0, ?_⟩
    rw [r3 35 27 (by decide) (by decide), c3 35 27 (by decide), r3 0 7 (by decide) (by decide), c5 0 7 (by decide) (by decide) (by decide)]; exact hF
  · have c := C_setN hc g
    rw [c]
    dsimp only
    have r := R_setN hr g
    have b0 := (R_set (x0 := x0) (x1 := x1) hr).1
    refine ⟨by rw [r], b0, T, S, k, t, ?_⟩
    rw [r]
    dsimp only
    exact Cpl_q h QSame_0
theorem cpl_clear (h : Cpl σ T S k t) : (r_X4_clear σ).1 = (r_X5_clear (r_X4_clear σ).2).1 ∧ Inv2 (r_X5_clear (r_X4_clear σ).2).2 := by
  obtain ⟨hc, hr, hT, hL, hF⟩ := id h
  obtain ⟨c1, c2⟩ := C_clear hc
  have hr2 := RInv_hi hr c2
  obtain ⟨r1, r2⟩ := R_clear hr2
  have hR : ∀ q j, ¬ (q = 35 ∧ (j = 0 ∨ j = 6)) → (r_X5_clear (r_X4_clear σ).2).2 q j = (r_X4_clear σ).2 q j := fun q j hq => by
    generalize (r_X4_clear σ).2 = G
    unfold r_X5_clear t_X5_clear_0
    dsimp only
    rw [up_ne (by omega), up_ne (by omega)]
  refine ⟨?_, T, S, 0, t, CInv_lo c1 r2, r1, Tape_fr hT (Nat.le_refl _) (fun j => (hR 57 j (by omega)).trans (c2 57 j (by decide))) (fun j => (hR 6 j (by omega)).trans (Cf_clear hc (by decide) (by omega))), Lg_0, ?_⟩
  · have e4 : (r_X4_clear σ).1 = σ 0 6 := rfl
    have e5 : (r_X5_clear (r_X4_clear σ).2).1 = (r_X4_clear σ).2 35 6 := by
      generalize (r_X4_clear σ).2 = G
      unfold r_X5_clear
      dsimp only
      rw [up_k (by decide)]
    rw [e4, e5, hr2.2.2.2.2.1]
    exact hc.1.1
  · rw [hR 35 27 (by decide), c2 35 27 (by decide), hR 0 7 (by decide), Cf_clear hc (by decide) (by decide)]; exact hF
theorem cpl_back (h : Cpl σ T S k t) : (r_X4_back σ).1 = (r_X5_back (r_X4_back σ).2).1 ∧ Inv2 (r_X5_back (r_X4_back σ).2).2 := by
  obtain ⟨hc, hr, hT, hL, hF⟩ := id h
  cases k with
  | zero =>
    rw [C_backN hc]
    dsimp only
    rw [R_backN hr]
    dsimp only
    exact ⟨rfl, T, S, 0, t, Cpl_q h QSame_0⟩
  | succ k =>
    obtain ⟨c1, c2, c3⟩ := C_backY hc
    have hhi : HiS σ (r_X4_back σ).2 := fun q j hq => c3 q j (by omega) (by omega)
    have hr2 := RInv_hi hr hhi
    obtain ⟨r1, r2⟩ := R_backY hr2
    have hB : ∀ q j, ¬ (q = 35 ∧ (j = 0 ∨ j = 6)) → (sg_up (sg_up (r_X4_back σ).2 35 0 0) 35 6 (N k)) q j = (r_X4_back σ).2 q j := fun q j hq => by rw [up_ne (by omega), up_ne (by omega)]
    rw [r1]
    dsimp only
    refine ⟨c1, T, S, k, t, CInv_lo c2 (fun q j hq => hB q j (by omega)), r2, Tape_fr hT (Nat.le_refl _) (fun j => (hB 57 j (by omega)).trans (hhi 57 j (by decide))) (fun j => (hB 6 j (by omega)).trans (c3 6 j (by decide) (by omega))), fun j hj => ?_, ?_⟩
    · rw [hB 39 j (by omega), hB 40 j (by omega), hB 33 j (by omega), hB 34 j (by omega), hhi 39 j (by decide), hhi 40 j (by decide), c3 33 j (by decide) (by omega), c3 34 j (by decide) (by omega)]; exact hL j (by omega)
    · rw [hB 35 27 (by decide), hhi 35 27 (by decide), hB 0 7 (by decide), c3 0 7 (by decide) (by decide)]; exact hF
theorem cpl_play {x0 x1 : Int32} (h : Cpl σ T S k t) : (r_X4_play σ x0 x1).1 = (r_X5_play (r_X4_play σ x0 x1).2 x0 x1).1 ∧ p_X5_play (r_X4_play σ x0 x1).2 x0 x1 ∧ Inv2 (r_X5_play (r_X4_play σ x0 x1).2 x0 x1).2 := by
  obtain ⟨hc, hr, hT, hL, hF⟩ := id h
  obtain ⟨⟨a1, a2, x, a3, a4⟩, ht, h5⟩ := id hc
  have hxr : mrun T S (σ 39) (σ 40) k = some x := by rw [← a3]; exact mrun_congr k hL
  by_cases g : k < 400 ∧ canS x.1 x.2.1 x.2.2 x0 x1
  · obtain ⟨c1, c2, c3, c4, c5⟩ := C_playY hc a3 g
    rw [c1]
    dsimp only
    have hhi : HiS σ (s_X4_record σ x0 x1) := fun q j hq => c5 q j (by omega) (by omega) (by omega)
    have hr2 := RInv_hi hr hhi
    have hx2 : mrun T S ((s_X4_record σ x0 x1) 39) ((s_X4_record σ x0 x1) 40) k = some x := by
      rw [← hxr]; exact mrun_congr k (fun j _ => ⟨hhi 39 j (by decide), hhi 40 j (by decide)⟩)
    obtain ⟨r1, r2, r3, r4, r5⟩ := R_playY hr2 hx2 g
    have b0 := (R_play (x0 := x0) (x1 := x1) hr2).1
    refine ⟨r1.symm, b0, T, S, k + 1, t, CInv_lo c2 (fun q j hq => r5 q j (by omega) (by omega) (by omega)), r2, Tape_fr hT (Nat.le_refl _) (fun j => (r5 57 j (by decide) (by omega) (by omega)).trans (hhi 57 j (by decide))) (fun j => (r5 6 j (by decide) (by omega) (by omega)).trans (c5 6 j (by decide) (by omega) (by omega))), fun j hj => ?_, ?_⟩
    · rw [r5 33 j (by decide) (by omega) (by omega), r5 34 j (by decide) (by omega) (by omega)]
      by_cases e : j = k
      · subst e
        exact ⟨r3.trans c3.symm, r4.trans c4.symm⟩
      · rw [r5 39 j (by decide) (by omega) (by omega), r5 40 j (by decide) (by omega) (by omega), hhi 39 j (by decide), hhi 40 j (by decide), c5 33 j (by decide) (by omega) (by omega), c5 34 j (by decide) (by omega) (by omega)]
        exact hL j (by omega)
    · rw [r5 35 27 (by decide) (by decide) (by omega), hhi 35 27 (by decide), r5 0 7 (by decide) (by decide) (by omega), c5 0 7 (by decide) (by decide) (by omega)]; exact hF
  · rw [C_playN hc a3 g]
    dsimp only
    obtain ⟨r1, r2⟩ := R_playN hr hxr g
    exact ⟨r1.symm, (R_play (x0 := x0) (x1 := x1) hr).1, T, S, k, t, Cpl_q h r2⟩
end Step
end
section
/-! QUESTIONS, both: fault, count; how it was leaves the match -/
section Quest
variable {σ : sg_S} {T S : Nat → Nat} {k t : Nat}
theorem Cs_after {x0 x1 : Int32} (h : CInv σ T S k t) : CSame 20 σ (r_X4_after σ x0 x1).2 := by
  obtain ⟨⟨a1, a2, x, a3, a4⟩, ht, h5⟩ := id h
  unfold r_X4_after
  by_cases g1 : x0 < 0
  · rw [if_pos g1]; exact CSame.rf
  rw [if_neg g1]
  by_cases g2 : σ 0 6 < x0
  · rw [if_pos g2]; exact CSame.rf
  rw [if_neg g2]
  rw [a1] at g2
  obtain ⟨a, ha, rfl⟩ := ex_nlt k g1 g2 (by omega)
  obtain ⟨y, hy⟩ := mrun_le' a3 ha
  obtain ⟨r1, r2⟩ := replay_ok (c := 20) (by decide) (by decide) a4.1 a4.2.1 a4.2.2.1 a4.2.2.2.1 (show a ≤ 400 by omega) hy
  repeat' split
  all_goals first | exact r2 | exact CSame.rf
theorem Cs_firstAhead (h : CInv σ T S k t) : CSame 20 σ (r_X4_firstAhead σ).2 := by
  obtain ⟨⟨a1, a2, x, a3, a4⟩, ht, h5⟩ := id h
  obtain ⟨b2, b4⟩ := crestart_ok (c := 20) (by decide) a4.1 a4.2.1 a4.2.2.1 a4.2.2.2.1
  have r33 := b4.row (q := 33) (by decide)
  have r34 := b4.row (q := 34) (by decide)
  have i : CSame 20 (s_X0_restart σ 20) (r_X4_firstAhead_l9 600 (s_X0_restart σ 20) 0).2 := cahead9 (T := T) (S := S) (y := x) a2 600 0 (s_X0_restart σ 20) (begn T S) (by omega) (by omega) (by rw [b4 0 6 (by decide)]; exact a1) b2 rfl (by rw [r33, r34]; exact a3)
  exact b4.tr i
theorem both_fault (h : Cpl σ T S k t) : v_X4_fault σ = (r_X5_fault σ).1 := by
  unfold v_X4_fault r_X5_fault
  dsimp only
  rw [up_k (by decide)]
  exact h.2.2.2.2.symm
/-- where both stand -/
theorem Cpl_x (h : Cpl σ T S k t) : ∃ x : mS, mrun T S (σ 33) (σ 34) k = some x ∧ mrun T S (σ 39) (σ 40) k = some x ∧ CAt σ 7 T S x.1 x.2.1 x.2.2 ∧ OK T (S 1) k x.1 x.2.1 x.2.2 ∧ RefAt (s_X5_goesOn (sg_up σ 35 0 0)) T S x.1 x.2.1 x.2.2 ∧ RSame σ (sg_up (s_X5_goesOn (sg_up σ 35 0 0)) 35 0 (σ 35 0)) := by
  obtain ⟨hc, hr, hT, hL, hF⟩ := id h
  obtain ⟨⟨a1, a2, x, a3, a4⟩, ht, h5⟩ := id hc
  have hxr : mrun T S (σ 39) (σ 40) k = some x := by rw [← a3]; exact mrun_congr k hL
  have e39 : (sg_up σ 35 0 0) 39 = σ 39 := funext (fun j => up_c (by decide))
  have e40 : (sg_up σ 35 0 0) 40 = σ 40 := funext (fun j => up_c (by decide))
  obtain ⟨g1, g2, g3, g4⟩ := goesOn_ok (x := x) (RInv_0 (v := 0) hr) (by rw [e39, e40]; exact hxr)
  refine ⟨x, a3, hxr, a4, g3, g2, fun q j h1 h2 => ?_⟩
  by_cases e : q = 35 ∧ j = 0
  · obtain ⟨rfl, rfl⟩ := e
    exact up_eq
  · rw [up_ne e, g4 q j h1 h2, up_ne e]
theorem both_count {x0 : Int32} (h : Cpl σ T S k t) : v_X4_count σ x0 = (r_X5_count σ x0).1 := by
  obtain ⟨x, -, -, hA, hO, hR, hs⟩ := Cpl_x h
  obtain ⟨hc, hr, hT, hL, hF⟩ := id h
  have hf : ∀ q j, ¬ (41 ≤ q ∧ q ≤ 56) → ¬ (q = 35 ∧ (j = 0 ∨ j = 23 ∨ j = 24)) → (s_X5_goesOn (sg_up σ 35 0 0)) q j = σ q j := fun q j h1 h2 => by
    have := hs q j h1 (by omega)
    rw [up_ne (by omega)] at this
    exact this
  have z6 : (s_X5_goesOn (sg_up σ 35 0 0)) 35 6 = N k := (hf 35 6 (by decide) (by decide)).trans hr.2.2.2.2.1
  have z26 : (s_X5_goesOn (sg_up σ 35 0 0)) 35 26 = N t := (hf 35 26 (by decide) (by decide)).trans hr.2.2.2.2.2.2.2.1
  unfold v_X4_count r_X5_count
  by_cases g : v_X5_in x0 10 14 = 0
  · rw [if_pos g]
    by_cases g0 : x0 = 0
    · rw [if_pos g0, if_pos g0]; exact hc.1.1.trans z6.symm
    rw [if_neg g0, if_neg g0]
    by_cases g1 : x0 = 1
    · rw [if_pos g1, if_pos g1]; exact hA.2.2.2.2.1.trans hR.2.2.2.2.1.symm
    rw [if_neg g1, if_neg g1]
    by_cases g2 : x0 = 2
    · rw [if_pos g2, if_pos g2]; exact hc.2.1.trans z26.symm
    rw [if_neg g2, if_neg g2]
    by_cases g3 : x0 = 3
    · rw [if_pos g3, if_pos g3]; exact (cfull_eq hA.1).trans (full_eq hR.1).symm
    rw [if_neg g3, if_neg g3]
    by_cases g4 : x0 < 10
    · rw [if_pos g4]
    rw [if_neg g4]
    by_cases g5 : (14 : Int32) < x0
    · rw [if_pos g5]
    · refine absurd g ((in_ni (lo := 10) (hi := 14) (by decide) (by decide) (by decide)).mpr ?_)
      have h1 : ¬ ni x0 < 10 := fun z => g4 ((lt_ni (a := 10) (by decide) (by decide)).mpr z)
      have e3 : N (ni x0) = x0 := ni_pos (by omega)
      have hl := ni_lt (x := x0)
      rw [← e3] at g5
      have g5 : ¬ N 14 < N (ni x0) := g5
      rw [N_lt (by decide) hl] at g5
      omega
  · rw [if_neg g]
    obtain ⟨a, rfl, h1, h2⟩ := in_ex (lo := 10) (hi := 14) (by decide) (by decide) g
    have ne : ∀ b : Nat, b < 10 → ¬ N a = N b := fun b hb => by rw [N_eq (by omega) (by omega)]; omega
    rw [if_neg (by exact ne 0 (by decide)), if_neg (by exact ne 1 (by decide)), if_neg (by exact ne 2 (by decide)), if_neg (by exact ne 3 (by decide)), if_neg (by
      show ¬ N a < N 10
      rw [N_lt (by omega) (by decide)]; omega), if_neg (by exact g_nlt (L := 14) h2 (by decide)), show N a - 10 = N (a - 10) from N_sub (b := 10) h1, setting_k hA.2.2.1 (by omega)]
    dsimp only
    rw [ni_N (by omega), hR.2.2.1 _ (by omega)]
end Quest
end
section
/-! TARGET, PAR, PROJECTED, IFRUNS: both -/
section Targets
variable {σ τ : sg_S} {c : Nat} {T S : Nat → Nat} {k i t : Nat} {D : Nat → Nat → Nat}
theorem has5 (hR : RefAt τ T S i t D) (hi : i ≤ 2) (h0 : InnOK T k (D 0)) : v_X5_hasTarget τ = if 0 < i ∧ 0 < D 0 7 - D 0 8 then 1 else 0 := by
  have a9 : D 0 7 ≤ 30000 := h0.2.2.2.2.2.2.2.2.1
  unfold v_X5_hasTarget
  rw [hR.2.2.2.2.1, (hR.pic (i := 0) (by decide)).2.2.2.2.2.2.2.1]
  by_cases g1 : 0 < i
  · rw [if_neg (by exact g_nle (a := 0) g1 (by omega))]
    by_cases g2 : 0 < D 0 7 - D 0 8
    · rw [if_neg (by exact g_nle (a := 0) g2 (by omega)), if_pos ⟨g1, g2⟩]
    · rw [if_pos (by exact g_le (L := 0) (by omega) (by decide)), if_neg (fun z => g2 z.2)]
  · rw [if_pos (by exact g_le (L := 0) (by omega) (by decide)), if_neg (fun z => g1 z.1)]
theorem tgt_both (hA : CAt σ c T S i t D) (hR : RefAt τ T S i t D) (hi : i ≤ 2) (hk : k ≤ 401) (h0 : InnOK T k (D 0)) (h1 : InnOK T k (D 1)) : v_X0_theTarget σ c = (if v_X5_hasTarget τ = 0 then -1 else v_X5_theTarget τ) := by
  unfold v_X0_theTarget
  rw [chasTarget_eq hA hi h0, has5 hR hi h0]
  by_cases g : 0 < i ∧ 0 < D 0 7 - D 0 8
  · rw [if_pos g, if_neg one_nz, if_neg one_nz, ctheTarget_eq hA hk h0 h1 g.2, theTarget_eq hR hk h0 h1 g.2]
  · rw [if_neg g, if_pos rfl, if_pos rfl]
theorem cpar_eq {w : Nat} (hA : CAt σ c T S i t D) (hk : k ≤ 401) (h0 : InnOK T k (D 0)) (h1 : InnOK T k (D 1)) (hp : 0 < D 0 7 - D 0 8) (hw : w ≤ D 1 7) : v_X0_parWithout σ c (N w) = N (tgt T (S 1) (D 0 0) (D 0 7 - D 0 8) (D 1 7 - w)) - 1 := by
  obtain ⟨a1, a2, a3, a4, a5, a6, a7, a8, a9, a10⟩ := id h0
  obtain ⟨b1, b2, b3, b4, b5, b6, b7, b8, b9, b10⟩ := id h1
  unfold v_X0_parWithout
  rw [hA.2.2.2.2.2.2.1 0 (by decide), hA.2.2.2.2.2.2.2 7 (by decide), N_sub hw, ctargetBy_eq hA.1 hA.2.1 hA.2.2.1 hA.2.2.2.1 (cfirstPart_eq hA h0) hp (by omega) (by omega) (by omega)]
theorem rpar_eq (hR : RefAt τ T S i t D) (hk : k ≤ 401) (h0 : InnOK T k (D 0)) (h1 : InnOK T k (D 1)) (hp : 0 < D 0 7 - D 0 8) : v_X5_thePar τ (τ 41 0) = N (tgt T (S 1) (D 0 0) (D 0 7 - D 0 8) (D 1 7 - WL T (D 1))) - 1 := by
  obtain ⟨a1, a2, a3, a4, a5, a6, a7, a8, a9, a10⟩ := id h0
  obtain ⟨b1, b2, b3, b4, b5, b6, b7, b8, b9, b10⟩ := id h1
  have hP1 := hR.pic (i := 1) (by decide)
  unfold v_X5_thePar
  rw [second_eq hR.2.2.2.2.2.2.2 (InnOK_8 h1), show (1 : Int32) = N 1 from rfl, leftWorth_eq (i := 1) (by decide) hP1 hR.1 hR.2.1 b3 b2 b4, N_sub b8, (hR.pic (i := 0) (by decide)).1, target_eq hR.1 hR.2.1 hR.2.2.1 hR.2.2.2.1 (hR.pic (i := 0) (by decide)).2.2.2.2.2.2.2.1 hp (by omega) (by omega) (by omega)]
theorem par_both (hA : CAt σ c T S i t D) (hR : RefAt τ T S i t D) (hi : i ≤ 2) (hk : k ≤ 401) (h0 : InnOK T k (D 0)) (h1 : InnOK T k (D 1)) : v_X0_parNow σ c = v_X5_parNow τ := by
  unfold v_X0_parNow v_X5_parNow
  rw [chasTarget_eq hA hi h0, has5 hR hi h0, hA.2.2.2.2.1, hR.2.2.2.2.1]
  by_cases e1 : i = 1
  · subst e1
    rw [if_neg (show ¬ ¬ N 1 = (1 : Int32) from fun z => z rfl)]
    by_cases g : 0 < 1 ∧ 0 < D 0 7 - D 0 8
    · rw [if_pos g, if_neg one_nz, if_neg one_nz, if_neg (show ¬ ¬ N 1 = (1 : Int32) from fun z => z rfl), cworthLeft_eq hA (by decide) h1, cpar_eq hA hk h0 h1 g.2 h1.2.2.2.2.2.2.2.1, rpar_eq hR hk h0 h1 g.2]
    · rw [if_neg g, if_pos rfl, if_pos rfl]
  · have hn : ¬ N i = (1 : Int32) := by
      show ¬ N i = N 1
      rw [N_eq (by omega) (by decide)]; exact e1
    rw [if_pos hn, if_pos hn]
    split
    · rfl
    · rfl
end Targets
section Targets2
variable {σ : sg_S} {T S : Nat → Nat} {k t : Nat}
theorem both_target (h : Cpl σ T S k t) : v_X4_target σ = (r_X5_target σ).1 := by
  obtain ⟨x, -, -, hA, hO, hR, -⟩ := Cpl_x h
  have hk : k ≤ 401 := by have := h.1.1.2.1; omega
  have e := tgt_both hA hR hO.1 hk (hO.2.2.2.1 0 (by decide)) (hO.2.2.2.1 1 (by decide))
  unfold v_X4_target r_X5_target
  rw [e]
  split
  · rfl
  · rfl
theorem both_par (h : Cpl σ T S k t) : v_X4_par σ = (r_X5_par σ).1 := by
  obtain ⟨x, -, -, hA, hO, hR, -⟩ := Cpl_x h
  have hk : k ≤ 401 := by have := h.1.1.2.1; omega
  exact par_both hA hR hO.1 hk (hO.2.2.2.1 0 (by decide)) (hO.2.2.2.1 1 (by decide))
theorem both_projected (h : Cpl σ T S k t) : v_X4_projected σ = (r_X5_projected σ).1 := by
  obtain ⟨x, -, -, hA, hO, hR, -⟩ := Cpl_x h
  have h0 := hO.2.2.2.1 0 (by decide)
  unfold v_X4_projected r_X5_projected
  rw [hA.2.2.2.2.1, hR.2.2.2.2.1]
  by_cases e : x.1 = 0
  · have hL := hO.2.2.2.2.1 0 (by decide) (by omega)
    obtain ⟨a1, a2, a3, a4, a5, a6, a7, a8, a9, a10⟩ := id h0
    have h8 : x.2.2 0 8 = 0 := by
      rw [a10, if_neg (by have := hL.2.2; omega)]
    have hP := hR.pic (i := 0) (by decide)
    have e45 : (s_X5_goesOn (sg_up σ 35 0 0)) 45 0 = N (x.2.2 0 7) := by rw [hP.2.2.2.2.2.2.2.1, h8]; rfl
    have eW : v_X5_leftWorth (s_X5_goesOn (sg_up σ 35 0 0)) 0 = N (WL T (x.2.2 0)) := leftWorth_eq (i := 0) (by decide) hP hR.1 hR.2.1 a3 a2 a4
    have cW : v_X0_worthLeft σ 7 = N (WL T (x.2.2 0)) := by
      have := cworthLeft_eq hA (by omega) (hO.2.2.2.1 x.1 (by omega))
      rw [this, e]
    rw [e, if_neg (show ¬ ¬ N 0 = (0 : Int32) from fun z => z rfl), if_pos (show N 0 ≤ (0 : Int32) by decide)]
    unfold v_X0_projection
    rw [cW, hA.2.2.2.2.2.2.1 7 (by decide), hA.2.2.2.2.2.2.1 0 (by decide), e45, eW, hP.1, N_sub a8]
    by_cases g : x.2.2 0 7 - WL T (x.2.2 0) = 0
    · rw [g, if_pos (show N 0 ≤ (0 : Int32) by decide), if_neg (show ¬ ¬ N 0 = (0 : Int32) from fun z => z rfl)]
    · rw [if_neg (by exact g_nle (a := 0) (by omega) (by omega)), if_pos (N_nz (by omega) (by omega))]
  · have hi : x.1 ≤ 2 := hO.1
    rw [if_pos (show ¬ N x.1 = (0 : Int32) from N_nz (by omega) (by omega)), if_neg (by exact g_nle (a := 0) (by omega) (by omega))]
end Targets2
end
section
/-! IFRUNS, RESULT, MARGIN: both -/
theorem sub_toInt {a b : Nat} (ha : a < 1000000000) (hb : b < 1000000000) : (N b - N a).toInt = (b : Int) - a := by
  rw [Int32.toInt_sub, N_toInt (by omega), N_toInt (by omega)]
  exact Int.bmod_eq_of_le (by omega) (by omega)
theorem sub_z {a b : Nat} (ha : a < 1000000000) (hb : b < 1000000000) : (N b - N a = 0) ↔ b = a := by
  rw [← Int32.toInt_inj, sub_toInt ha hb, show (0 : Int32).toInt = 0 from rfl]
  omega
theorem sub_nn {a b : Nat} (ha : a < 1000000000) (hb : b < 1000000000) : (0 ≤ N b - N a) ↔ a ≤ b := by
  rw [Int32.le_iff_toInt_le, sub_toInt ha hb, show (0 : Int32).toInt = 0 from rfl]
  omega
section Results
variable {σ τ : sg_S} {c : Nat} {T S : Nat → Nat} {k i t : Nat} {D : Nat → Nat → Nat}
def aimN (T S : Nat → Nat) (D : Nat → Nat → Nat) : Nat := (if D 1 6 = 0 then tgt T (S 1) (D 0 0) (D 0 7 - D 0 8) (D 1 7) else tgt T (S 1) (D 0 0) (D 0 7 - D 0 8) (D 1 7 - WL T (D 1))) - 1
theorem aimN_lt (hT : TabOK T) (hS : SetOK S) (hk : k ≤ 401) (h0 : InnOK T k (D 0)) (h1 : InnOK T k (D 1)) (hp : 0 < D 0 7 - D 0 8) : aimN T S D < 1000000 := by
  obtain ⟨a1, a2, a3, a4, a5, a6, a7, a8, a9, a10⟩ := id h0
  obtain ⟨b1, b2, b3, b4, b5, b6, b7, b8, b9, b10⟩ := id h1
  obtain ⟨s1, s2, s3, s4, s5, s6, s7⟩ := id hS
  unfold aimN
  split
  · have := tgt_le hT (mean := S 1) (S := D 0 0) (Q := D 1 7) (by omega) hp (by omega) (by omega)
    omega
  · have := tgt_le hT (mean := S 1) (S := D 0 0) (Q := D 1 7 - WL T (D 1)) (by omega) hp (by omega) (by omega)
    omega
theorem raim_eq (hR : RefAt τ T S i t D) (hk : k ≤ 401) (h0 : InnOK T k (D 0)) (h1 : InnOK T k (D 1)) (hp : 0 < D 0 7 - D 0 8) : v_X5_aim τ = N (aimN T S D) := by
  unfold v_X5_aim aimN
  rw [(hR.pic (i := 1) (by decide)).2.2.2.2.2.2.1]
  have h6 := h1.2.2.2.2.2.2.1
  by_cases g : D 1 6 = 0
  · rw [if_pos g, g, if_pos (show N 0 = (0 : Int32) from rfl), theTarget_eq hR hk h0 h1 hp]
    exact N_sub (b := 1) (tgt_pos _ _ _ _ _)
  · rw [if_neg g, if_neg (N_nz (by omega) (by omega)), rpar_eq hR hk h0 h1 hp]
    exact N_sub (b := 1) (tgt_pos _ _ _ _ _)
theorem clead_eq (hA : CAt σ c T S i t D) (hi : 0 < i) (hi2 : i ≤ 2) (hk : k ≤ 401) (h0 : InnOK T k (D 0)) (h1 : InnOK T k (D 1)) (hp : 0 < D 0 7 - D 0 8) : v_X0_leadOverTie σ c (N (D 1 6)) = N (D 1 0) - N (aimN T S D) := by
  have h6 := h1.2.2.2.2.2.2.1
  have h10 := h1.2.2.2.2.2.2.2.2.2
  have et : v_X0_theTarget σ c = N (tgt T (S 1) (D 0 0) (D 0 7 - D 0 8) (D 1 7)) := by
    unfold v_X0_theTarget
    rw [chasTarget_eq hA hi2 h0, if_pos (show 0 < i ∧ 0 < D 0 7 - D 0 8 from ⟨hi, hp⟩), if_neg one_nz, ctheTarget_eq hA hk h0 h1 hp]
  unfold v_X0_leadOverTie aimN
  rw [hA.2.2.2.2.2.2.2 0 (by decide), hA.2.2.2.2.2.2.2 6 (by decide), hA.2.2.2.2.2.2.2 8 (by decide)]
  by_cases g : D 1 6 = 0
  · rw [if_pos g, g, if_pos (show N 0 = (0 : Int32) from rfl), et]
    congr 1
    exact N_sub (b := 1) (tgt_pos _ _ _ _ _)
  · have e1 : D 1 6 = 1 := by omega
    rw [if_neg g, if_neg (N_nz (by omega) (by omega)), if_neg (N_nz (by omega) (by omega)), h10, if_pos e1, cpar_eq hA hk h0 h1 hp h1.2.2.2.2.2.2.2.1]
    congr 1
    exact N_sub (b := 1) (tgt_pos _ _ _ _ _)
theorem out44 (hA : CAt σ c T S i t D) (hR : RefAt τ T S i t D) (hi : 0 < i) (hi2 : i ≤ 2) (hk : k ≤ 401) (h0 : InnOK T k (D 0)) (h1 : InnOK T k (D 1)) (hp : 0 < D 0 7 - D 0 8) : v_X0_outcome_a44 σ c (N (D 1 6)) = v_X5_resultNow_a38 τ := by
  have hl := aimN_lt hA.2.1 hA.2.2.2.1 hk h0 h1 hp
  have hr : D 1 0 ≤ 6 * k := h1.2.2.2.2.2.1
  unfold v_X0_outcome_a44 v_X5_resultNow_a38
  rw [clead_eq hA hi hi2 hk h0 h1 hp, raim_eq hR hk h0 h1 hp, (hR.pic (i := 1) (by decide)).1]
  have z := sub_z (a := aimN T S D) (b := D 1 0) (by omega) (by omega)
  have nn := sub_nn (a := aimN T S D) (b := D 1 0) (by omega) (by omega)
  have l1 := N_le (a := aimN T S D) (b := D 1 0) (by omega) (by omega)
  have l2 := N_le (a := D 1 0) (b := aimN T S D) (by omega) (by omega)
  by_cases g : D 1 0 = aimN T S D
  · rw [if_neg (fun w => w (z.mpr g)), if_pos (l1.mpr (by omega)), if_pos (l2.mpr (by omega))]
  · rw [if_pos (fun w => g (z.mp w))]
    by_cases g2 : aimN T S D ≤ D 1 0
    · rw [if_pos (nn.mpr g2), if_pos (l1.mpr g2), if_neg (fun w => by have := l2.mp w; omega)]
    · rw [if_neg (fun w => g2 (nn.mp w)), if_neg (fun w => g2 (l1.mp w))]
theorem out_both (hA : CAt σ c T S i t D) (hR : RefAt τ T S i t D) (hi : 0 < i) (hi2 : i ≤ 2) (hk : k ≤ 401) (h0 : InnOK T k (D 0)) (h1 : InnOK T k (D 1)) : v_X0_outcome σ c (N (D 1 6)) = v_X5_resultNow τ := by
  have h6 := h1.2.2.2.2.2.2.1
  have hb : D 1 2 ≤ 120 := by have := h1.2.2.1; have := h1.2.1; omega
  have s2 : S 2 ≤ 20 := by
    obtain ⟨s1, s2, s3, s4, s5, s6, s7⟩ := id hA.2.2.2.1
    omega
  have hP0 := (hR.pic (i := 0) (by decide)).2.2.2.2.2.2.2.1
  have hP1 := hR.pic (i := 1) (by decide)
  have a9 : D 0 7 ≤ 30000 := h0.2.2.2.2.2.2.2.2.1
  have e6 : (6 : Int32) * N (S 2) = N (6 * S 2) := N_mul 6 (S 2)
  unfold v_X0_outcome v_X5_resultNow
  rw [show v_X2_setting σ 2 = N (S 2) from setting_k (k := 2) hA.2.2.1 (by decide), hA.2.2.2.2.2.2.2 2 (by decide), chasTarget_eq hA hi2 h0, hP0, hP1.2.2.2.2.2.2.1, hP1.2.2.1, hR.2.2.1 2 (by decide), e6]
  by_cases hp : 0 < D 0 7 - D 0 8
  · rw [if_pos (show 0 < i ∧ 0 < D 0 7 - D 0 8 from ⟨hi, hp⟩), if_neg (show ¬ N (D 0 7 - D 0 8) = 0 from N_nz hp (by omega)), if_neg one_nz]
    have o := out44 hA hR hi hi2 hk h0 h1 hp
    have hle := N_le (a := 6 * S 2) (b := D 1 2) (by omega) (by omega)
    rw [o]
    by_cases g : D 1 6 = 0
    · have gz : N (D 1 6) = 0 := by rw [g]; rfl
      rw [if_pos gz]
      split
      · rfl
      · rfl
    · have gn : ¬ N (D 1 6) = 0 := N_nz (by omega) (by omega)
      rw [if_neg gn]
      by_cases g2 : N (6 * S 2) ≤ N (D 1 2)
      · rw [if_pos g2, if_pos g2, if_neg gn, if_pos (show (0 : Int32) = 0 from rfl)]
      · rw [if_neg g2, if_neg g2, if_neg gn, if_neg gn, if_neg one_nz, if_neg one_nz]
  · have ez : D 0 7 - D 0 8 = 0 := by omega
    rw [if_neg (show ¬ (0 < i ∧ 0 < D 0 7 - D 0 8) from fun w => hp w.2), ez, if_pos (show N 0 = (0 : Int32) from rfl), if_pos (show (0 : Int32) = 0 from rfl)]
    split
    · rfl
    · rfl
end Results
section Results2
variable {σ : sg_S} {T S : Nat → Nat} {k t : Nat}
theorem both_ifRuns {x0 : Int32} (h : Cpl σ T S k t) : v_X4_ifRuns σ x0 = (r_X5_ifRuns σ x0).1 := by
  obtain ⟨x, -, -, hA, hO, hR, -⟩ := Cpl_x h
  have h0 := hO.2.2.2.1 0 (by decide)
  have h1 := hO.2.2.2.1 1 (by decide)
  have a9 : x.2.2 0 7 ≤ 30000 := h0.2.2.2.2.2.2.2.2.1
  have b9 : x.2.2 1 7 ≤ 30000 := h1.2.2.2.2.2.2.2.2.1
  unfold v_X4_ifRuns r_X5_ifRuns
  rw [chasTarget_eq hA hO.1 h0, has5 hR hO.1 h0]
  by_cases g0 : v_X5_in x0 0 999 = 0
  · rw [if_pos g0]
    have hno : ¬ (¬ x0 < 0 ∧ ¬ (999 : Int32) < x0) := fun ⟨z1, z2⟩ => by
      obtain ⟨a, ha, rfl⟩ := ex_nlt 999 z1 z2 (by decide)
      exact absurd g0 (in_nz (lo := 0) (hi := 999) (Nat.zero_le _) ha (by decide))
    have e : (if x0 < 0 then (-1 : Int32) else (if (999 : Int32) < x0 then (-1 : Int32) else (if ¬ (if 0 < x.1 ∧ 0 < x.2.2 0 7 - x.2.2 0 8 then (1 : Int32) else 0) = 0 then (v_X0_targetBy σ 7 x0 (σ 14 7)) else (-1 : Int32)))) = -1 := by
      by_cases z1 : x0 < 0
      · rw [if_pos z1]
      · by_cases z2 : (999 : Int32) < x0
        · rw [if_neg z1, if_pos z2]
        · exact absurd ⟨z1, z2⟩ hno
    rw [e]
    split
    · rfl
    · rfl
  rw [if_neg g0]
  obtain ⟨a, rfl, -, ha⟩ := in_ex (lo := 0) (hi := 999) (by decide) (by decide) g0
  rw [if_neg (N_nn (by omega)), if_neg (by exact g_nlt (L := 999) ha (by decide))]
  by_cases g : 0 < x.1 ∧ 0 < x.2.2 0 7 - x.2.2 0 8
  · rw [if_pos g, if_pos one_nz, if_neg one_nz]
    dsimp only
    rw [second_eq hR.2.2.2.2.2.2.2 (InnOK_8 h1), show σ 14 7 = N (x.2.2 1 7) from hA.2.2.2.2.2.2.2 7 (by decide), ctargetBy_eq hA.1 hA.2.1 hA.2.2.1 hA.2.2.2.1 (cfirstPart_eq hA h0) g.2 (by omega) b9 (by omega), target_eq hR.1 hR.2.1 hR.2.2.1 hR.2.2.2.1 (hR.pic (i := 0) (by decide)).2.2.2.2.2.2.2.1 g.2 (by omega) b9 (by omega)]
  · rw [if_neg g, if_neg nn0, if_pos rfl]
theorem both_result (h : Cpl σ T S k t) : v_X4_result σ = (r_X5_result σ).1 := by
  obtain ⟨x, -, -, hA, hO, hR, -⟩ := Cpl_x h
  have hk : k ≤ 401 := by have := h.1.1.2.1; omega
  have hi := hO.1
  unfold v_X4_result r_X5_result
  rw [hA.2.2.2.2.1, hR.2.2.2.2.1, show σ 14 6 = N (x.2.2 1 6) from hA.2.2.2.2.2.2.2 6 (by decide)]
  by_cases e : x.1 = 2
  · have o := out_both hA hR (by omega) hi hk (hO.2.2.2.1 0 (by decide)) (hO.2.2.2.1 1 (by decide))
    rw [e, if_neg (show ¬ ¬ N 2 = (2 : Int32) from fun w => w rfl), if_pos (show (2 : Int32) ≤ N 2 by decide)]
    exact o
  · rw [if_pos (show ¬ N x.1 = (2 : Int32) from fun w => e ((N_eq (b := 2) (by omega) (by decide)).mp w)), if_neg (by exact g_nle (L := 2) (by omega) (by decide))]
theorem both_margin (h : Cpl σ T S k t) : v_X4_margin σ = (r_X5_margin σ).1 := by
  obtain ⟨x, -, -, hA, hO, hR, -⟩ := Cpl_x h
  have hk : k ≤ 401 := by have := h.1.1.2.1; omega
  have hi := hO.1
  have h0 := hO.2.2.2.1 0 (by decide)
  have h1 := hO.2.2.2.1 1 (by decide)
  unfold v_X4_margin r_X5_margin
  rw [hA.2.2.2.2.1, hR.2.2.2.2.1]
  by_cases e : x.1 = 2
  · have o := out_both hA hR (by omega) hi hk h0 h1
    rw [e, if_neg (show ¬ ¬ N 2 = (2 : Int32) from fun w => w rfl), if_pos (show (2 : Int32) ≤ N 2 by decide)]
    unfold v_X0_leadAtEnd
    have e6 : σ (7 + 7) 6 = N (x.2.2 1 6) := hA.2.2.2.2.2.2.2 6 (by decide)
    rw [e6, o]
    by_cases hp : 0 < x.2.2 0 7 - x.2.2 0 8
    · have et : v_X0_theTarget σ 7 = v_X5_theTarget (s_X5_goesOn (sg_up σ 35 0 0)) := by
        have q := tgt_both hA hR hi hk h0 h1
        rw [has5 hR hi h0, if_pos (show 0 < x.1 ∧ 0 < x.2.2 0 7 - x.2.2 0 8 from ⟨by omega, hp⟩), if_neg one_nz] at q
        exact q
      rw [clead_eq hA (by omega) hi hk h0 h1 hp, raim_eq hR hk h0 h1 hp, et, hA.2.2.2.2.2.2.2 0 (by decide), hA.2.2.2.2.2.2.2 1 (by decide), (hR.pic (i := 1) (by decide)).1, (hR.pic (i := 1) (by decide)).2.1]
      by_cases r1 : v_X5_resultNow (s_X5_goesOn (sg_up σ 35 0 0)) = 1
      · rw [if_pos r1, if_neg (fun w => w r1)]
        exact Int32.neg_sub
      · rw [if_neg r1, if_pos r1]
        by_cases r2 : v_X5_resultNow (s_X5_goesOn (sg_up σ 35 0 0)) = 2
        · rw [if_pos r2, if_pos r2]
          split
          · rfl
          · rfl
        · rw [if_neg r2, if_neg r2]
    · have ez : x.2.2 0 7 - x.2.2 0 8 = 0 := by omega
      have rz : v_X5_resultNow (s_X5_goesOn (sg_up σ 35 0 0)) = 0 := by
        unfold v_X5_resultNow
        rw [(hR.pic (i := 0) (by decide)).2.2.2.2.2.2.2.1, ez, if_pos (show N 0 = (0 : Int32) from rfl)]
      rw [rz, if_neg (by decide), if_neg (by decide), if_pos (by decide), if_neg (by decide)]
  · rw [if_pos (show ¬ N x.1 = (2 : Int32) from fun w => e ((N_eq (b := 2) (by omega) (by decide)).mp w)), if_neg (by exact g_nle (L := 2) (by omega) (by decide))]
end Results2
end
section
/-! BLOCKS: both lay them alike -/
theorem shr_le {S : Nat → Nat} (hK : SetOK S) {j : Nat} : shr S j ≤ 20 := by
  have h34 : S 3 + S 4 ≤ 20 := hK.2.2.2.2.2.2
  unfold shr
  repeat' split
  all_goals omega
theorem shr_sum {S : Nat → Nat} (hK : SetOK S) : shr S 0 + shr S 1 + shr S 2 = 20 := by
  have h34 : S 3 + S 4 ≤ 20 := hK.2.2.2.2.2.2
  have e0 : shr S 0 = S 3 := rfl
  have e1 : shr S 1 = S 4 := rfl
  have e2 : shr S 2 = 20 - S 3 - S 4 := rfl
  omega
def svd (S : Nat → Nat) (n kk j : Nat) : Nat := if n * shr S kk % 20 < n * shr S j % 20 then 1 else if n * shr S j % 20 = n * shr S kk % 20 ∧ j < kk then 1 else 0
def spr (S : Nat → Nat) (n : Nat) : Nat := n - n * shr S 0 / 20 - n * shr S 1 / 20 - n * shr S 2 / 20
def blk (S : Nat → Nat) (n kk : Nat) : Nat := if svd S n kk 0 + svd S n kk 1 + svd S n kk 2 < spr S n then n * shr S kk / 20 + 1 else n * shr S kk / 20
theorem shr_c {σ : sg_S} {S : Nat → Nat} (hS : SetAt σ 4 S) (hK : SetOK S) {j : Nat} (hj : j < 3) : v_X2_shareOf σ (N j) = N (shr S j) := by
  have h34 : S 3 + S 4 ≤ 20 := hK.2.2.2.2.2.2
  unfold v_X2_shareOf
  rw [hS 3 (by decide), hS 4 (by decide)]
  rcases (show j = 0 ∨ j = 1 ∨ j = 2 by omega) with rfl | rfl | rfl
  · rfl
  · rfl
  · rw [if_pos (by decide), if_pos (by decide), show (20 : Int32) = N 20 from rfl, N_sub (by omega), N_sub (by omega)]
    rfl
theorem sub_pos {a b : Nat} (ha : a < 1000000000) (hb : b < 1000000000) : ((0 : Int32) < N b - N a) ↔ a < b := by
  rw [Int32.lt_iff_toInt_lt, sub_toInt ha hb, show (0 : Int32).toInt = 0 from rfl]
  omega
section ClsBlocks
variable {σ : sg_S} {S : Nat → Nat} {n kk : Nat}
theorem bo_step {m sp se j : Nat} (hS : SetAt σ 4 S) (hK : SetOK S) (hn : n ≤ 20) (hk : kk < 3) (hj : j < 3) (hsp : n * shr S j / 20 ≤ sp) : v_X2_blockOvers_l17 σ (m + 1) (N n) (N kk) (N (n * shr S kk)) (N sp) (N se) (N j) = v_X2_blockOvers_l17 σ m (N n) (N kk) (N (n * shr S kk)) (N (sp - n * shr S j / 20)) (N (se + svd S n kk j)) (N (j + 1)) := by
  have m1 : n * shr S j ≤ 20 * 20 := Nat.mul_le_mul hn (shr_le hK)
  have m2 : n * shr S kk ≤ 20 * 20 := Nat.mul_le_mul hn (shr_le hK)
  have e1 : rm (N n * N (shr S j)) 20 = N (n * shr S j % 20) := by
    rw [N_mul]
    exact N_rm (b := 20) (by omega) (by decide)
  have e2 : rm (N (n * shr S kk)) 20 = N (n * shr S kk % 20) := N_rm (b := 20) (by omega) (by decide)
  have e3 : N n * N (shr S j) / 20 = N (n * shr S j / 20) := by
    rw [N_mul]
    exact N_div (b := 20) (by omega) (by decide)
  have hd := sub_pos (a := n * shr S kk % 20) (b := n * shr S j % 20) (by omega) (by omega)
  have he := sub_z (a := n * shr S kk % 20) (b := n * shr S j % 20) (by omega) (by omega)
  show v_X2_blockOvers_b17 σ (v_X2_blockOvers_l17 σ m) (N n) (N kk) (N (n * shr S kk)) (N sp) (N se) (N j) = _
  unfold v_X2_blockOvers_b17 svd
  rw [if_neg (by exact g_nle (L := 3) hj (by decide)), shr_c hS hK hj, e1, e2, e3, N_sub hsp]
  by_cases c1 : n * shr S kk % 20 < n * shr S j % 20
  · rw [if_pos (hd.mpr c1), if_pos c1, N_inc, N_inc]
  rw [if_neg (fun w => c1 (hd.mp w)), if_neg c1]
  by_cases c2 : n * shr S j % 20 = n * shr S kk % 20
  · rw [if_neg (fun w => w (he.mpr c2))]
    by_cases c3 : j < kk
    · rw [if_neg (g_nle c3 (by omega)), if_pos ⟨c2, c3⟩, N_inc, N_inc]
    · rw [if_pos (g_le (by omega) (by omega)), if_neg (fun w => c3 w.2), Nat.add_zero, N_inc]
  · rw [if_pos (fun w => c2 (he.mp w)), if_neg (fun w => c2 w.1), Nat.add_zero, N_inc]
theorem blk_c (hS : SetAt σ 4 S) (hK : SetOK S) (hn : n ≤ 20) (hk : kk < 3) : v_X2_blockOvers σ (N n) (N kk) = N (blk S n kk) := by
  have m2 : n * shr S kk ≤ 20 * 20 := Nat.mul_le_mul hn (shr_le hK)
  have f := fl_le (n := n) (shr_sum hK)
  have l0 : ∀ j, svd S n kk j ≤ 1 := fun j => by
    unfold svd
    repeat' split
    all_goals omega
  have a0 := l0 0
  have a1 := l0 1
  have a2 := l0 2
  have e0 : v_X2_blockOvers σ (N n) (N kk) = v_X2_blockOvers_l17 σ 600 (N n) (N kk) (N (n * shr S kk)) (N n) (N 0) (N 0) := by
    unfold v_X2_blockOvers
    rw [shr_c hS hK hk, N_mul]
    rfl
  refine e0.trans ((bo_step (m := 599) (sp := n) (se := 0) (j := 0) hS hK hn hk (by decide) (by omega)).trans ((bo_step (m := 598) (sp := n - n * shr S 0 / 20) (se := 0 + svd S n kk 0) (j := 1) hS hK hn hk (by decide) (by omega)).trans ((bo_step (m := 597) (sp := n - n * shr S 0 / 20 - n * shr S 1 / 20) (se := 0 + svd S n kk 0 + svd S n kk 1) (j := 2) hS hK hn hk (by decide) (by omega)).trans ?_)))
  show v_X2_blockOvers_b17 σ (v_X2_blockOvers_l17 σ 596) (N n) (N kk) (N (n * shr S kk)) (N (n - n * shr S 0 / 20 - n * shr S 1 / 20 - n * shr S 2 / 20)) (N (0 + svd S n kk 0 + svd S n kk 1 + svd S n kk 2)) (N 3) = _
  unfold v_X2_blockOvers_b17 blk spr
  rw [if_pos (by decide), show (20 : Int32) = N 20 from rfl, N_div (by omega) (by decide), Nat.zero_add]
  by_cases c : svd S n kk 0 + svd S n kk 1 + svd S n kk 2 < n - n * shr S 0 / 20 - n * shr S 1 / 20 - n * shr S 2 / 20
  · rw [if_neg (g_nle c (by omega)), if_pos c, N_inc]
  · rw [if_pos (g_le (by omega) (by omega)), if_neg c]
    exact N_add _ 0
end ClsBlocks
/-! the reference's picking -/
def pk (a b c : Int32) : Nat := if b ≤ a then (if c ≤ a then 0 else 2) else (if c ≤ b then 1 else 2)
theorem pk_0 {a b c : Int32} (h1 : b ≤ a) (h2 : c ≤ a) : pk a b c = 0 := by
  unfold pk
  rw [if_pos h1, if_pos h2]
theorem pk_1 {a b c : Int32} (h1 : ¬ b ≤ a) (h2 : c ≤ b) : pk a b c = 1 := by
  unfold pk
  rw [if_neg h1, if_pos h2]
theorem pk_2a {a b c : Int32} (h1 : b ≤ a) (h2 : ¬ c ≤ a) : pk a b c = 2 := by
  unfold pk
  rw [if_pos h1, if_neg h2]
theorem pk_2b {a b c : Int32} (h1 : ¬ b ≤ a) (h2 : ¬ c ≤ b) : pk a b c = 2 := by
  unfold pk
  rw [if_neg h1, if_neg h2]
def pku (σ : sg_S) (b : Nat) : sg_S := sg_up (sg_up σ 58 b (σ 58 b + 1)) 59 b (-1)
theorem lay_pick {σ : sg_S} {x2 : Int32} {k84 : sg_S → Int32 → sg_S} : s_X5_laysBlocks_l93 k84 600 σ x2 0 1 = k84 (pku σ (pk (σ 59 0) (σ 59 1) (σ 59 2))) (x2 + -1) := by
  have step : ∀ (m b : Nat), b < 3 → s_X5_laysBlocks_l93 k84 (m + 1) σ x2 (N b) (N 3) = k84 (pku σ b) (x2 + -1) := fun m b hb => by
    show s_X5_laysBlocks_b93 k84 (s_X5_laysBlocks_l93 k84 m) σ x2 (N b) (N 3) = _
    unfold s_X5_laysBlocks_b93
    rw [if_pos (by decide)]
    unfold t_X5_laysBlocks_1 t_X5_laysBlocks_0 pku
    rw [ni_N (by omega)]
  have two : ∀ (m b : Nat), b < 3 → s_X5_laysBlocks_l93 k84 (m + 2) σ x2 (N b) (N 2) = k84 (pku σ (if σ 59 2 ≤ σ 59 b then b else 2)) (x2 + -1) := fun m b hb => by
    show s_X5_laysBlocks_b93 k84 (s_X5_laysBlocks_l93 k84 (m + 1)) σ x2 (N b) (N 2) = _
    unfold s_X5_laysBlocks_b93
    rw [if_neg (by decide), ni_N (by omega), ni_N (by omega), N_inc]
    by_cases c : σ 59 2 ≤ σ 59 b
    · rw [if_pos c, if_pos c]; exact step m b hb
    · rw [if_neg c, if_neg c]; exact step m 2 (by decide)
  show s_X5_laysBlocks_b93 k84 (s_X5_laysBlocks_l93 k84 599) σ x2 (N 0) (N 1) = _
  unfold s_X5_laysBlocks_b93 pk
  rw [if_neg (by decide), ni_N (by omega), ni_N (by omega), N_inc]
  by_cases c : σ 59 1 ≤ σ 59 0
  · rw [if_pos c, if_pos c]; exact two 597 0 (by decide)
  · rw [if_neg c, if_neg c]; exact two 597 1 (by decide)
theorem lay1 {τ : sg_S} {m : Nat} {x : Int32} (hx : ¬ x ≤ 0) : s_X5_laysBlocks_l84 (m + 1) τ x = s_X5_laysBlocks_l84 m (pku τ (pk (τ 59 0) (τ 59 1) (τ 59 2))) (x + -1) := by
  show s_X5_laysBlocks_b84 (s_X5_laysBlocks_l84 m) τ x = _
  unfold s_X5_laysBlocks_b84
  rw [if_neg hx]
  exact lay_pick
theorem lay0 {τ : sg_S} {m : Nat} {x : Int32} (hx : x ≤ 0) : s_X5_laysBlocks_l84 (m + 1) τ x = τ := by
  show s_X5_laysBlocks_b84 (s_X5_laysBlocks_l84 m) τ x = _
  unfold s_X5_laysBlocks_b84
  rw [if_pos hx]
theorem m1_le {r : Nat} (h : r < 1000) : (-1 : Int32) ≤ N r := by
  rw [Int32.le_iff_toInt_le, N_toInt (by omega), show (-1 : Int32).toInt = -1 from rfl]
  omega
theorem m1_nle {r : Nat} (h : r < 1000) : ¬ N r ≤ (-1 : Int32) := by
  rw [Int32.le_iff_toInt_le, N_toInt (by omega), show (-1 : Int32).toInt = -1 from rfl]
  omega
theorem pku_58 {τ : sg_S} {b j : Nat} : pku τ b 58 j = if j = b then τ 58 b + 1 else τ 58 j := by
  unfold pku
  rw [up_c (by decide)]
  by_cases e : j = b
  · subst e; rw [up_eq, if_pos rfl]
  · rw [up_k e, if_neg e]
theorem pku_59 {τ : sg_S} {b j : Nat} : pku τ b 59 j = if j = b then -1 else τ 59 j := by
  unfold pku
  by_cases e : j = b
  · subst e; rw [up_eq, if_pos rfl]
  · rw [up_k e, if_neg e, up_c (by decide)]
/-- one over that is left -/
theorem one_left {τ : sg_S} {f0 f1 f2 r0 r1 r2 : Nat} (h0 : τ 58 0 = N f0 ∧ τ 59 0 = N r0) (h1 : τ 58 1 = N f1 ∧ τ 59 1 = N r1) (h2 : τ 58 2 = N f2 ∧ τ 59 2 = N r2) (l0 : r0 < 20) (l1 : r1 < 20) (l2 : r2 < 20) :
    (r1 ≤ r0 → r2 ≤ r0 → pk (τ 59 0) (τ 59 1) (τ 59 2) = 0) ∧ (¬ r1 ≤ r0 → r2 ≤ r1 → pk (τ 59 0) (τ 59 1) (τ 59 2) = 1) ∧ (¬ r2 ≤ r0 → ¬ r2 ≤ r1 → pk (τ 59 0) (τ 59 1) (τ 59 2) = 2) := by
  have p10 := N_le (a := r1) (b := r0) (by omega) (by omega)
  have p20 := N_le (a := r2) (b := r0) (by omega) (by omega)
  have p21 := N_le (a := r2) (b := r1) (by omega) (by omega)
  rw [h0.2, h1.2, h2.2]
  refine ⟨fun a b => pk_0 (p10.mpr a) (p20.mpr b), fun a b => pk_1 (fun w => a (p10.mp w)) (p21.mpr b), fun a b => ?_⟩
  by_cases c : r1 ≤ r0
  · exact pk_2a (p10.mpr c) (fun w => a (p20.mp w))
  · exact pk_2b (fun w => c (p10.mp w)) (fun w => b (p21.mp w))
theorem two_left {τ : sg_S} {r0 r1 r2 : Nat} (h0 : τ 59 0 = N r0) (h1 : τ 59 1 = N r1) (h2 : τ 59 2 = N r2) (l0 : r0 < 20) (l1 : r1 < 20) (l2 : r2 < 20) :
    ((r2 ≤ r1 → pk (pku τ 0 59 0) (pku τ 0 59 1) (pku τ 0 59 2) = 1) ∧ (¬ r2 ≤ r1 → pk (pku τ 0 59 0) (pku τ 0 59 1) (pku τ 0 59 2) = 2)) ∧ ((r2 ≤ r0 → pk (pku τ 1 59 0) (pku τ 1 59 1) (pku τ 1 59 2) = 0) ∧ (¬ r2 ≤ r0 → pk (pku τ 1 59 0) (pku τ 1 59 1) (pku τ 1 59 2) = 2)) ∧ ((r1 ≤ r0 → pk (pku τ 2 59 0) (pku τ 2 59 1) (pku τ 2 59 2) = 0) ∧ (¬ r1 ≤ r0 → pk (pku τ 2 59 0) (pku τ 2 59 1) (pku τ 2 59 2) = 1)) := by
  have p10 := N_le (a := r1) (b := r0) (by omega) (by omega)
  have p20 := N_le (a := r2) (b := r0) (by omega) (by omega)
  have p21 := N_le (a := r2) (b := r1) (by omega) (by omega)
  rw [pku_59, pku_59, pku_59, pku_59, pku_59, pku_59, pku_59, pku_59, pku_59, if_pos rfl, if_pos rfl, if_pos rfl, if_neg (by decide), if_neg (by decide), if_neg (by decide), if_neg (by decide), if_neg (by decide), if_neg (by decide), h0, h1, h2]
  refine ⟨⟨fun a => pk_1 (m1_nle (by omega)) (p21.mpr a), fun a => pk_2b (m1_nle (by omega)) (fun w => a (p21.mp w))⟩, ⟨fun a => pk_0 (m1_le (by omega)) (p20.mpr a), fun a => pk_2a (m1_le (by omega)) (fun w => a (p20.mp w))⟩, ⟨fun a => pk_0 (p10.mpr a) (m1_le (by omega)), fun a => pk_1 (fun w => a (p10.mp w)) (m1_le (by omega))⟩⟩
theorem blk_r {σ : sg_S} {S : Nat → Nat} {n kk : Nat} (hS : SetAt σ 36 S) (hK : SetOK S) (hn : n ≤ 20) (hk : kk < 3) : (s_X5_laysBlocks σ (N n)) 58 kk = N (blk S n kk) := by
  obtain ⟨-, -, b, -, -, σ3, h3, hall⟩ := lay_ok hS hK hn
  have f := fl_le (n := n) (shr_sum hK)
  have sm : n * shr S 0 + n * shr S 1 + n * shr S 2 = n * 20 := by rw [← Nat.mul_add, ← Nat.mul_add, shr_sum hK]
  have a0 := h3 0 (by decide)
  have a1 := h3 1 (by decide)
  have a2 := h3 2 (by decide)
  have m0 := Nat.div_add_mod (n * shr S 0) 20
  have m1 := Nat.div_add_mod (n * shr S 1) 20
  have m2 := Nat.div_add_mod (n * shr S 2) 20
  have l0 := Nat.mod_lt (n * shr S 0) (show 0 < 20 by decide)
  have l1 := Nat.mod_lt (n * shr S 1) (show 0 < 20 by decide)
  have l2 := Nat.mod_lt (n * shr S 2) (show 0 < 20 by decide)
  obtain ⟨o1, o2, o3⟩ := one_left a0 a1 a2 l0 l1 l2
  obtain ⟨⟨t1, t2⟩, ⟨t3, t4⟩, ⟨t5, t6⟩⟩ := two_left a0.2 a1.2 a2.2 l0 l1 l2
  have d1 : N 1 + -1 = (0 : Int32) := by decide
  have d2 : N 2 + -1 = N 1 := by decide
  rw [hall]
  unfold blk spr
  rcases (show n - n * shr S 0 / 20 - n * shr S 1 / 20 - n * shr S 2 / 20 = 0 ∨ n - n * shr S 0 / 20 - n * shr S 1 / 20 - n * shr S 2 / 20 = 1 ∨ n - n * shr S 0 / 20 - n * shr S 1 / 20 - n * shr S 2 / 20 = 2 by omega) with e | e | e
  · rw [e, lay0 (by decide), if_neg (by omega)]
    exact (h3 kk hk).1
  · rw [e, lay1 (by decide), d1, lay0 (by decide), pku_58]
    rcases (show kk = 0 ∨ kk = 1 ∨ kk = 2 by omega) with rfl | rfl | rfl
    · by_cases c : n * shr S 1 % 20 ≤ n * shr S 0 % 20 ∧ n * shr S 2 % 20 ≤ n * shr S 0 % 20
      · rw [o1 c.1 c.2, if_pos rfl, a0.1, N_inc, if_pos (by
          unfold svd
          repeat' split
          all_goals omega)]
      · have hz : ¬ 0 = pk (σ3 59 0) (σ3 59 1) (σ3 59 2) := by
          by_cases c1 : n * shr S 1 % 20 ≤ n * shr S 0 % 20
          · rw [o3 (fun w => c ⟨c1, w⟩) (by omega)]; decide
          · by_cases c2 : n * shr S 2 % 20 ≤ n * shr S 1 % 20
            · rw [o2 c1 c2]; decide
            · rw [o3 (by omega) c2]; decide
        rw [if_neg hz, a0.1, if_neg (by
          unfold svd
          repeat' split
          all_goals omega)]
    · by_cases c : ¬ n * shr S 1 % 20 ≤ n * shr S 0 % 20 ∧ n * shr S 2 % 20 ≤ n * shr S 1 % 20
      · rw [o2 c.1 c.2, if_pos rfl, a1.1, N_inc, if_pos (by
          unfold svd
          repeat' split
          all_goals omega)]
      · have hz : ¬ 1 = pk (σ3 59 0) (σ3 59 1) (σ3 59 2) := by
          by_cases c1 : n * shr S 1 % 20 ≤ n * shr S 0 % 20
          · by_cases c2 : n * shr S 2 % 20 ≤ n * shr S 0 % 20
            · rw [o1 c1 c2]; decide
            · rw [o3 c2 (by omega)]; decide
          · rw [o3 (by omega) (fun w => c ⟨c1, w⟩)]; decide
        rw [if_neg hz, a1.1, if_neg (by
          unfold svd
          repeat' split
          all_goals omega)]
    · by_cases c : ¬ n * shr S 2 % 20 ≤ n * shr S 0 % 20 ∧ ¬ n * shr S 2 % 20 ≤ n * shr S 1 % 20
      · rw [o3 c.1 c.2, if_pos rfl, a2.1, N_inc, if_pos (by
          unfold svd
          repeat' split
          all_goals omega)]
      · have hz : ¬ 2 = pk (σ3 59 0) (σ3 59 1) (σ3 59 2) := by
          by_cases c1 : n * shr S 1 % 20 ≤ n * shr S 0 % 20
          · by_cases c2 : n * shr S 2 % 20 ≤ n * shr S 0 % 20
            · rw [o1 c1 c2]; decide
            · exact absurd ⟨c2, by omega⟩ c
          · by_cases c2 : n * shr S 2 % 20 ≤ n * shr S 1 % 20
            · rw [o2 c1 c2]; decide
            · exact absurd ⟨by omega, c2⟩ c
        rw [if_neg hz, a2.1, if_neg (by
          unfold svd
          repeat' split
          all_goals omega)]
  · have fin : ∀ b c : Nat, pk (σ3 59 0) (σ3 59 1) (σ3 59 2) = b → pk (pku σ3 b 59 0) (pku σ3 b 59 1) (pku σ3 b 59 2) = c → ¬ b = c → s_X5_laysBlocks_l84 600 σ3 (N 2) 58 kk = if kk = b ∨ kk = c then σ3 58 kk + 1 else σ3 58 kk := fun b c hb hc hbc => by
      rw [lay1 (by decide), d2, hb, lay1 (by decide), d1, lay0 (by decide), hc, pku_58, pku_58, pku_58]
      by_cases e1 : kk = c
      · subst e1
        rw [if_pos rfl, if_neg (fun w => hbc w.symm), if_pos (Or.inr rfl)]
      · rw [if_neg e1]
        by_cases e2 : kk = b
        · subst e2
          rw [if_pos rfl, if_pos (Or.inl rfl)]
        · rw [if_neg e2, if_neg (fun w => w.elim e2 e1)]
    rw [e]
    have key : ∀ b c : Nat, s_X5_laysBlocks_l84 600 σ3 (N 2) 58 kk = (if kk = b ∨ kk = c then σ3 58 kk + 1 else σ3 58 kk) → ((kk = b ∨ kk = c) ↔ svd S n kk 0 + svd S n kk 1 + svd S n kk 2 < 2) → s_X5_laysBlocks_l84 600 σ3 (N 2) 58 kk = N (if svd S n kk 0 + svd S n kk 1 + svd S n kk 2 < 2 then n * shr S kk / 20 + 1 else n * shr S kk / 20) := fun b c h1 h2 => by
      rw [h1]
      by_cases g : kk = b ∨ kk = c
      · rw [if_pos g, if_pos (h2.mp g), (h3 kk hk).1, N_inc]
      · rw [if_neg g, if_neg (fun w => g (h2.mpr w)), (h3 kk hk).1]
    by_cases c10 : n * shr S 1 % 20 ≤ n * shr S 0 % 20
    · by_cases c20 : n * shr S 2 % 20 ≤ n * shr S 0 % 20
      · by_cases c21 : n * shr S 2 % 20 ≤ n * shr S 1 % 20
        · refine key 0 1 (fin 0 1 (o1 c10 c20) (t1 c21) (by decide)) ?_
          unfold svd
          rcases (show kk = 0 ∨ kk = 1 ∨ kk = 2 by omega) with rfl | rfl | rfl
          all_goals (repeat' split)
          all_goals omega
        · refine key 0 2 (fin 0 2 (o1 c10 c20) (t2 c21) (by decide)) ?_
          unfold svd
          rcases (show kk = 0 ∨ kk = 1 ∨ kk = 2 by omega) with rfl | rfl | rfl
          all_goals (repeat' split)
          all_goals omega
      · refine key 2 0 (fin 2 0 (o3 c20 (by omega)) (t5 c10) (by decide)) ?_
        unfold svd
        rcases (show kk = 0 ∨ kk = 1 ∨ kk = 2 by omega) with rfl | rfl | rfl
        all_goals (repeat' split)
        all_goals omega
    · by_cases c21 : n * shr S 2 % 20 ≤ n * shr S 1 % 20
      · by_cases c20 : n * shr S 2 % 20 ≤ n * shr S 0 % 20
        · refine key 1 0 (fin 1 0 (o2 c10 c21) (t3 c20) (by decide)) ?_
          unfold svd
          rcases (show kk = 0 ∨ kk = 1 ∨ kk = 2 by omega) with rfl | rfl | rfl
          all_goals (repeat' split)
          all_goals omega
        · refine key 1 2 (fin 1 2 (o2 c10 c21) (t4 c20) (by decide)) ?_
          unfold svd
          rcases (show kk = 0 ∨ kk = 1 ∨ kk = 2 by omega) with rfl | rfl | rfl
          all_goals (repeat' split)
          all_goals omega
      · refine key 2 1 (fin 2 1 (o3 (by omega) c21) (t6 c10) (by decide)) ?_
        unfold svd
        rcases (show kk = 0 ∨ kk = 1 ∨ kk = 2 by omega) with rfl | rfl | rfl
        all_goals (repeat' split)
        all_goals omega
end
section
/-! INNINGS, BLOCK, BLOCKNOW: both -/
theorem side_no {x0 : Int32} (g : v_X5_isInnings x0 = 0) : v_X4_isSide x0 = 0 := by
  have n0 : ¬ x0 = 0 := fun w => absurd g (by rw [w]; decide)
  have n1 : ¬ x0 = 1 := fun w => absurd g (by rw [w]; decide)
  unfold v_X4_isSide
  rw [if_neg n0, if_pos n1]
theorem side_yes {i : Nat} (hi : i < 2) : ¬ v_X4_isSide (N i) = 0 := by
  rcases (show i = 0 ∨ i = 1 by omega) with rfl | rfl
  · decide
  · decide
theorem in_of {x : Int32} {hi : Nat} (h : hi < 2147483648) (g : v_X5_in x 0 (N hi) = 0) {b : Nat} (hb : b ≤ hi) : ¬ x = N b := fun w => by
  rw [w] at g
  exact in_nz (lo := 0) (Nat.zero_le b) hb h g
section Inn
variable {σ : sg_S} {T S : Nat → Nat} {k t : Nat}
theorem goes_r0 (h : Cpl σ T S k t) : (s_X5_goesOn (sg_up σ 35 0 0)) 35 0 = 0 := by
  obtain ⟨x, -, hxr, -, -, -, -⟩ := Cpl_x h
  have e39 : (sg_up σ 35 0 0) 39 = σ 39 := funext (fun j => up_c (by decide))
  have e40 : (sg_up σ 35 0 0) 40 = σ 40 := funext (fun j => up_c (by decide))
  obtain ⟨g1, g2, g3, g4⟩ := goesOn_ok (x := x) (RInv_0 (v := 0) h.2.1) (by rw [e39, e40]; exact hxr)
  rw [g4 35 0 (by decide) (by decide), up_eq]
def InnB (v : Option Int32) (r : Int32 × sg_S) : Prop := (∀ d, v = some d → r.1 = d ∧ r.2 35 0 = 0) ∧ (v = none → r.2 35 0 = 1)
theorem InnB_y {v : Option Int32} {r : Int32 × sg_S} {a : Int32} (h1 : v = some a) (h2 : r.1 = a) (h3 : r.2 35 0 = 0) : InnB v r := by
  rw [h1]
  refine ⟨fun d w => ?_, fun w => ?_⟩
  · cases w; exact ⟨h2, h3⟩
  · cases w
theorem InnB_n {v : Option Int32} {r : Int32 × sg_S} (h1 : v = none) (h3 : r.2 35 0 = 1) : InnB v r := by
  rw [h1]
  refine ⟨fun d w => ?_, fun _ => h3⟩
  cases w
theorem both_innings {x0 x1 : Int32} (h : Cpl σ T S k t) : InnB (v_X4_innings σ x0 x1) (r_X5_innings σ x0 x1) := by
  obtain ⟨x, -, -, hA, hO, hR, -⟩ := Cpl_x h
  have r0 := goes_r0 h
  have z1 : ¬ (sg_up σ 35 0 1) 35 0 ≤ 0 := by rw [up_eq]; decide
  have z0 : (sg_up σ 35 0 0) 35 0 ≤ 0 := by rw [up_eq]; decide
  have e1 : ∀ a b : Int32, r_X5_innings_a23 σ a b 1 = (0, sg_up σ 35 0 1) := fun a b => by
    unfold r_X5_innings_a23
    rw [if_neg z1]
  have u1 : ((0 : Int32), sg_up σ 35 0 1).2 35 0 = 1 := by dsimp only; exact up_eq
  by_cases g : v_X5_isInnings x0 = 0
  · refine InnB_n ?_ ?_
    · unfold v_X4_innings
      rw [if_neg (fun w => w (side_no g))]
    · unfold r_X5_innings
      rw [if_pos g, e1]; exact u1
  obtain ⟨i, rfl, hi⟩ := inn_ex g
  have hI := hO.2.2.2.1 i hi
  have hP := hR.pic hi
  have hC := hA.pic hi
  have hv : v_X4_innings σ (N i) x1 = (if x1 = 0 then (some (σ (7 + 1 + 6 * i) 0)) else (if x1 = 1 then (some (σ (7 + 1 + 6 * i) 1)) else (if x1 = 2 then (some (σ (7 + 1 + 6 * i) 2)) else (if x1 = 3 then (some (σ (7 + 1 + 6 * i) 3)) else (if x1 = 4 then (some ((σ (7 + 1 + 6 * i) 7) - (σ (7 + 1 + 6 * i) 8))) else (if x1 = 5 then (some (σ (7 + 1 + 6 * i) 5)) else (if x1 = 6 then (if (σ (7 + 1 + 6 * i) 6) = 0 then (some (0 : Int32)) else (some (1 : Int32))) else (if x1 = 7 then (some (σ (7 + 1 + 6 * i) 4)) else (if x1 = 8 then (some (v_X0_ballsLeft σ 7 (N i))) else (none : Option Int32)))))))))) := by
    unfold v_X4_innings
    rw [if_pos (side_yes hi), side_eq hi]
  have hr : ∀ y, r_X5_innings_a23 σ (N i) y 0 = (if y = 0 then (((s_X5_goesOn (sg_up σ 35 0 0)) 41 (ni (N i))), (s_X5_goesOn (sg_up σ 35 0 0))) else (if y = 1 then (((s_X5_goesOn (sg_up σ 35 0 0)) 42 (ni (N i))), (s_X5_goesOn (sg_up σ 35 0 0))) else (if y = 2 then (((s_X5_goesOn (sg_up σ 35 0 0)) 43 (ni (N i))), (s_X5_goesOn (sg_up σ 35 0 0))) else (if y = 3 then (((s_X5_goesOn (sg_up σ 35 0 0)) 44 (ni (N i))), (s_X5_goesOn (sg_up σ 35 0 0))) else (if y = 4 then (((s_X5_goesOn (sg_up σ 35 0 0)) 45 (ni (N i))), (s_X5_goesOn (sg_up σ 35 0 0))) else (if y = 5 then (((s_X5_goesOn (sg_up σ 35 0 0)) 49 (ni (N i))), (s_X5_goesOn (sg_up σ 35 0 0))) else (if y = 6 then (if ((s_X5_goesOn (sg_up σ 35 0 0)) 47 (ni (N i))) = 0 then ((0 : Int32), (s_X5_goesOn (sg_up σ 35 0 0))) else ((1 : Int32), (s_X5_goesOn (sg_up σ 35 0 0)))) else (if y = 7 then (((s_X5_goesOn (sg_up σ 35 0 0)) 48 (ni (N i))), (s_X5_goesOn (sg_up σ 35 0 0))) else (if ((s_X5_goesOn (sg_up σ 35 0 0)) 35 23) ≤ (N i) then ((v_X5_left (s_X5_goesOn (sg_up σ 35 0 0)) (N i)), (s_X5_goesOn (sg_up σ 35 0 0))) else ((0 : Int32), (s_X5_goesOn (sg_up σ 35 0 0)))))))))))) := fun y => by
    unfold r_X5_innings_a23
    rw [if_pos z0]
  by_cases g8 : v_X5_in x1 0 8 = 0
  · have ne : ∀ b : Nat, b ≤ 8 → ¬ x1 = N b := fun b hb => in_of (hi := 8) (by decide) g8 hb
    refine InnB_n ?_ ?_
    · rw [hv, if_neg (by exact ne 0 (by decide)), if_neg (by exact ne 1 (by decide)), if_neg (by exact ne 2 (by decide)), if_neg (by exact ne 3 (by decide)), if_neg (by exact ne 4 (by decide)), if_neg (by exact ne 5 (by decide)), if_neg (by exact ne 6 (by decide)), if_neg (by exact ne 7 (by decide)), if_neg (by exact ne 8 (by decide))]
    · unfold r_X5_innings
      rw [if_neg g, if_pos g8, e1]; exact u1
  have er : r_X5_innings σ (N i) x1 = r_X5_innings_a23 σ (N i) x1 0 := by
    unfold r_X5_innings
    rw [if_neg g, if_neg g8]
  have ei : ni (N i) = i := ni_N (by omega)
  rw [er, hv, hr, ei]
  obtain ⟨b, rfl, -, hb⟩ := in_ex (lo := 0) (hi := 8) (by decide) (by decide) g8
  obtain ⟨p0, p1, p2, p3, p4, p5, p6, p7, p8⟩ := id hP
  obtain ⟨a1, a2, a3, a4, a5, a6, a7, a8, a9, a10⟩ := id hI
  rcases (show b = 0 ∨ b = 1 ∨ b = 2 ∨ b = 3 ∨ b = 4 ∨ b = 5 ∨ b = 6 ∨ b = 7 ∨ b = 8 by omega) with rfl | rfl | rfl | rfl | rfl | rfl | rfl | rfl | rfl
  · exact InnB_y (a := σ (7 + 1 + 6 * i) 0) rfl (p0.trans (hC 0 (by decide)).symm) r0
  · exact InnB_y (a := σ (7 + 1 + 6 * i) 1) rfl (p1.trans (hC 1 (by decide)).symm) r0
  · exact InnB_y (a := σ (7 + 1 + 6 * i) 2) rfl (p2.trans (hC 2 (by decide)).symm) r0
  · exact InnB_y (a := σ (7 + 1 + 6 * i) 3) rfl (p3.trans (hC 3 (by decide)).symm) r0
  · refine InnB_y (a := (σ (7 + 1 + 6 * i) 7) - (σ (7 + 1 + 6 * i) 8)) rfl ?_ r0
    have h8 : x.2.2 i 8 ≤ x.2.2 i 7 := by
      rw [a10]
      split
      · exact a8
      · omega
    rw [hC 7 (by decide), hC 8 (by decide), N_sub h8]
    exact p7
  · exact InnB_y (a := σ (7 + 1 + 6 * i) 5) rfl (p5.trans (hC 5 (by decide)).symm) r0
  · have c6 := hC 6 (by decide)
    rcases (show x.2.2 i 6 = 0 ∨ x.2.2 i 6 = 1 by omega) with e | e
    · rw [e] at c6 p6
      refine InnB_y (a := 0) ?_ ?_ ?_
      · show (if σ (7 + 1 + 6 * i) 6 = 0 then some (0 : Int32) else some 1) = some 0
        rw [c6]; rfl
      · show (if (s_X5_goesOn (sg_up σ 35 0 0)) 47 i = 0 then ((0 : Int32), (s_X5_goesOn (sg_up σ 35 0 0))) else ((1 : Int32), (s_X5_goesOn (sg_up σ 35 0 0)))).1 = 0
        rw [p6]; rfl
      · show (if (s_X5_goesOn (sg_up σ 35 0 0)) 47 i = 0 then ((0 : Int32), (s_X5_goesOn (sg_up σ 35 0 0))) else ((1 : Int32), (s_X5_goesOn (sg_up σ 35 0 0)))).2 35 0 = 0
        rw [p6]; exact r0
    · rw [e] at c6 p6
      refine InnB_y (a := 1) ?_ ?_ ?_
      · show (if σ (7 + 1 + 6 * i) 6 = 0 then some (0 : Int32) else some 1) = some 1
        rw [c6]; rfl
      · show (if (s_X5_goesOn (sg_up σ 35 0 0)) 47 i = 0 then ((0 : Int32), (s_X5_goesOn (sg_up σ 35 0 0))) else ((1 : Int32), (s_X5_goesOn (sg_up σ 35 0 0)))).1 = 1
        rw [p6]; rfl
      · show (if (s_X5_goesOn (sg_up σ 35 0 0)) 47 i = 0 then ((0 : Int32), (s_X5_goesOn (sg_up σ 35 0 0))) else ((1 : Int32), (s_X5_goesOn (sg_up σ 35 0 0)))).2 35 0 = 0
        rw [p6]; exact r0
  · exact InnB_y (a := σ (7 + 1 + 6 * i) 4) rfl (p4.trans (hC 4 (by decide)).symm) r0
  · refine InnB_y (a := v_X0_ballsLeft σ 7 (N i)) rfl ?_ ?_
    · show (if (s_X5_goesOn (sg_up σ 35 0 0)) 35 23 ≤ N i then ((v_X5_left (s_X5_goesOn (sg_up σ 35 0 0)) (N i)), (s_X5_goesOn (sg_up σ 35 0 0))) else ((0 : Int32), (s_X5_goesOn (sg_up σ 35 0 0)))).1 = v_X0_ballsLeft σ 7 (N i)
      unfold v_X0_ballsLeft
      rw [hA.2.2.2.2.1, hR.2.2.2.2.1, side_eq hi, hC 3 (by decide), hC 2 (by decide), left_eq hi hP a3, show (6 : Int32) * N (x.2.2 i 3) = N (6 * x.2.2 i 3) from N_mul 6 _, N_sub a3]
      split
      · rfl
      · rfl
    · show (if (s_X5_goesOn (sg_up σ 35 0 0)) 35 23 ≤ N i then ((v_X5_left (s_X5_goesOn (sg_up σ 35 0 0)) (N i)), (s_X5_goesOn (sg_up σ 35 0 0))) else ((0 : Int32), (s_X5_goesOn (sg_up σ 35 0 0)))).2 35 0 = 0
      split
      · exact r0
      · exact r0
theorem inn_60 {x0 x1 d : Int32} : v_X4_innings (sg_up σ 60 0 d) x0 x1 = v_X4_innings σ x0 x1 := by
  have hs : ∀ f, (sg_up σ 60 0 d) (v_X0_side 7 x0) f = σ (v_X0_side 7 x0) f := fun f => by
    refine up_c ?_
    unfold v_X0_side
    split
    · decide
    · decide
  unfold v_X4_innings v_X0_ballsLeft
  simp only [hs, up_c (show ¬ 7 = 60 by decide)]
theorem both_block {x0 x1 : Int32} (h : Cpl σ T S k t) : v_X4_block σ x0 x1 = (r_X5_block σ x0 x1).1 := by
  obtain ⟨x, -, -, hA, hO, hR, -⟩ := Cpl_x h
  unfold v_X4_block r_X5_block
  by_cases g : v_X5_isInnings x0 = 0
  · rw [if_pos g, if_pos (side_no g)]
  rw [if_neg g]
  obtain ⟨i, rfl, hi⟩ := inn_ex g
  have hI := hO.2.2.2.1 i hi
  rw [if_neg (side_yes hi), side_eq hi, (hA.pic hi) 3 (by decide)]
  by_cases g2 : v_X5_in x1 0 2 = 0
  · have hb : v_X4_isBlock x1 = 0 := by
      unfold v_X4_isBlock
      by_cases c : x1 < 0
      · rw [if_pos c]
      rw [if_neg c]
      by_cases c2 : (3 : Int32) ≤ x1
      · rw [if_pos c2]
      · obtain ⟨a, ha, rfl⟩ := ex_nle 3 c c2 (by decide)
        exact absurd rfl (in_of (hi := 2) (by decide) g2 (show a ≤ 2 by omega))
    rw [if_neg (fun w => w hb), if_neg (fun w => w g2)]
  · obtain ⟨a, rfl, -, ha⟩ := in_ex (lo := 0) (hi := 2) (by decide) (by decide) g2
    have hb : ¬ v_X4_isBlock (N a) = 0 := by
      unfold v_X4_isBlock
      rw [if_neg (N_nn (by omega)), if_neg (by exact g_nle (L := 3) (by omega) (by decide))]
      exact one_nz
    rw [if_pos hb, if_pos g2]
    unfold t_X5_block_0
    dsimp only
    rw [ni_N (show i < 2147483648 by omega), ni_N (show a < 2147483648 by omega), (hR.pic hi).2.2.2.1, blk_c hA.2.2.1 hA.2.2.2.1 hI.2.1 (by omega), blk_r hR.2.2.1 hR.2.2.2.1 hI.2.1 (by omega)]
theorem both_blockNow (h : Cpl σ T S k t) : v_X4_blockNow σ = (r_X5_blockNow σ).1 := by
  obtain ⟨x, -, -, hA, hO, hR, -⟩ := Cpl_x h
  unfold v_X4_blockNow r_X5_blockNow
  rw [hA.2.2.2.2.1, hR.2.2.2.2.1]
  by_cases e : x.1 = 2
  · rw [e, if_neg (show ¬ N 2 ≤ (1 : Int32) by decide), if_neg (show ¬ ¬ N 2 = (2 : Int32) from fun w => w rfl)]
  · have hi : x.1 < 2 := by have := hO.1; omega
    have hI := hO.2.2.2.1 x.1 hi
    have hl := (lay_ok hR.2.2.1 hR.2.2.2.1 hI.2.1).2.1
    have et : t_X5_blockNow_0 σ = s_X5_laysBlocks (s_X5_goesOn (sg_up σ 35 0 0)) (N (x.2.2 x.1 3)) := by
      unfold t_X5_blockNow_0
      rw [hR.2.2.2.2.1, ni_N (by omega), (hR.pic hi).2.2.2.1]
    have e43 : (t_X5_blockNow_0 σ) 43 (ni ((t_X5_blockNow_0 σ) 35 23)) = N (x.2.2 x.1 2) := by
      rw [et, hl 35 23 (by decide), hR.2.2.2.2.1, ni_N (by omega), hl 43 x.1 (by decide)]
      exact (hR.pic hi).2.2.1
    have b0 : (t_X5_blockNow_0 σ) 58 0 = N (blk S (x.2.2 x.1 3) 0) := by rw [et]; exact blk_r hR.2.2.1 hR.2.2.2.1 hI.2.1 (by decide)
    have b1 : (t_X5_blockNow_0 σ) 58 1 = N (blk S (x.2.2 x.1 3) 1) := by rw [et]; exact blk_r hR.2.2.1 hR.2.2.2.1 hI.2.1 (by decide)
    have c0 : v_X2_blockOvers σ (N (x.2.2 x.1 3)) 0 = N (blk S (x.2.2 x.1 3) 0) := blk_c (kk := 0) hA.2.2.1 hA.2.2.2.1 hI.2.1 (by decide)
    have c1 : v_X2_blockOvers σ (N (x.2.2 x.1 3)) 1 = N (blk S (x.2.2 x.1 3) 1) := blk_c (kk := 1) hA.2.2.1 hA.2.2.2.1 hI.2.1 (by decide)
    rw [if_pos (by exact g_le (L := 1) (by omega) (by decide)), if_pos (show ¬ N x.1 = (2 : Int32) from fun w => e ((N_eq (b := 2) (by omega) (by decide)).mp w)), e43, b0, b1, side_eq hi, (hA.pic hi) 3 (by decide), (hA.pic hi) 2 (by decide), c0, c1]
    split
    · split
      · rfl
      · rfl
    · rfl
end Inn
end
section
/-! ROWS OF AN INNINGS: overs, CUTs, balls by their runs, wickets; bank and place -/
abbrev aI : Type := Nat → Nat → Nat
def au (A : aI) (b j v : Nat) : aI := fun b' j' => if b' = b ∧ j' = j then v else A b' j'
theorem au_ite {A : aI} {b j v b' j' : Nat} : au A b j v b' j' = if b' = b ∧ j' = j then v else A b' j' := rfl
def aB (A : aI) (E : Nat → Nat) (m : Nat) : aI := au (au (au A 2 m (A 2 m + 1)) 0 (3 * (E 2 / 6) + 0) (A 0 (3 * (E 2 / 6) + 0) + m)) 0 (3 * (E 2 / 6) + 2) (A 0 (3 * (E 2 / 6) + 2) + 1)
def aX (A : aI) (E : Nat → Nat) : aI := au (au (aB (au A 0 (3 * (E 2 / 6) + 1) (A 0 (3 * (E 2 / 6) + 1) + 1)) E 0) 3 (E 1) (E 0)) 4 (E 1) (E 2 + 1)
def aE (A : aI) (E : Nat → Nat) : aI := au A 0 (3 * (E 2 / 6) + 0) (A 0 (3 * (E 2 / 6) + 0) + 1)
def aC (A : aI) (E : Nat → Nat) (n took : Nat) : aI := au (au (au (au (au A 1 (5 * E 5) (E 2)) 1 (5 * E 5 + 1) (E 1)) 1 (5 * E 5 + 2) (E 3)) 1 (5 * E 5 + 3) n) 1 (5 * E 5 + 4) took
/-- the places that count -/
def aL (E : Nat → Nat) (b j : Nat) : Prop := (b = 0 ∧ j < 60) ∨ (b = 1 ∧ j < 5 * E 5) ∨ (b = 2 ∧ j < 7) ∨ ((b = 3 ∨ b = 4) ∧ j < E 1)
theorem aL_of {E E' : Nat → Nat} {b j : Nat} (h : aL E b j) (h1 : E 1 ≤ E' 1) (h5 : E 5 ≤ E' 5) : aL E' b j := by
  unfold aL at *
  omega
def CArr (σ : sg_S) (q : Nat) (E : Nat → Nat) (A : aI) : Prop := ∀ b j, aL E b j → σ (q + 1 + b) j = N (A b j)
theorem CArr_fr {σ σ' : sg_S} {q : Nat} {E : Nat → Nat} {A : aI} (h : CArr σ q E A) (hs : ∀ b j, b < 5 → σ' (q + 1 + b) j = σ (q + 1 + b) j) : CArr σ' q E A := fun b j hL => by
  rw [hs b j (by unfold aL at hL; omega)]
  exact h b j hL
section CArrs
variable {σ : sg_S} {q : Nat} {E : Nat → Nat} {A : aI}
theorem cB_arr {m : Nat} (h : CArr σ q E A) (hb : E 2 < 120) (hm : m ≤ 6) : CArr (cB σ q m E) q (eB E m) (aB A E m) := by
  intro b j hL
  have hL' : aL E b j := aL_of hL (by unfold eB; simp (decide := true) only [du_ne]; exact Nat.le_refl _) (by unfold eB; simp (decide := true) only [du_ne]; exact Nat.le_refl _)
  have hv := h b j hL'
  have v2 : σ (q + 3) m = N (A 2 m) := h 2 m (Or.inr (Or.inr (Or.inl ⟨rfl, by omega⟩)))
  have v0 : σ (q + 1) (3 * (E 2 / 6) + 0) = N (A 0 (3 * (E 2 / 6) + 0)) := h 0 _ (Or.inl ⟨rfl, by omega⟩)
  have v1 : σ (q + 1) (3 * (E 2 / 6) + 2) = N (A 0 (3 * (E 2 / 6) + 2)) := h 0 _ (Or.inl ⟨rfl, by omega⟩)
  unfold cB aB
  rw [up_c (by omega), up_c (by omega), v2, v0, v1, N_inc, N_add, N_inc]
  repeat rw [up_ite]
  repeat rw [au_ite]
  repeat' split
  all_goals first | exact hv | omega | rfl
theorem cX_arr (h : CArr σ q E A) (hb : E 2 < 120) : CArr (cX σ q E) q (eX E) (aX A E) := by
  have v1 : σ (q + 1) (3 * (E 2 / 6) + 1) = N (A 0 (3 * (E 2 / 6) + 1)) := h 0 _ (Or.inl ⟨rfl, by omega⟩)
  have h1 : CArr (sg_up σ (q + 1) (3 * (E 2 / 6) + 1) (σ (q + 1) (3 * (E 2 / 6) + 1) + 1)) q E (au A 0 (3 * (E 2 / 6) + 1) (A 0 (3 * (E 2 / 6) + 1) + 1)) := by
    intro b j hL
    have hv := h b j hL
    rw [v1, N_inc]
    repeat rw [up_ite]
    repeat rw [au_ite]
    repeat' split
    all_goals first | exact hv | omega | rfl
  have h2 := cB_arr (m := 0) h1 hb (by decide)
  have e1 : eX E 1 = E 1 + 1 := by unfold eX; simp (decide := true) only [du_ne, du_eq]
  have e5 : eX E 5 = E 5 := by unfold eX; simp (decide := true) only [du_ne]
  have f1 : eB E 0 1 = E 1 := by unfold eB; simp (decide := true) only [du_ne]
  have f5 : eB E 0 5 = E 5 := by unfold eB; simp (decide := true) only [du_ne]
  intro b j hL
  unfold aL at hL
  rw [e1, e5] at hL
  unfold cX aX
  rw [up_c (by omega), up_ite, up_ite, au_ite, au_ite]
  by_cases c : aL (eB E 0) b j
  · have hv := h2 b j c
    unfold aL at c
    rw [f1, f5] at c
    rw [if_neg (by omega), if_neg (by omega), if_neg (by omega), if_neg (by omega)]
    exact hv
  · unfold aL at c
    rw [f1, f5] at c
    have ej : j = E 1 := by omega
    subst ej
    by_cases c3 : b = 3
    · subst c3
      rw [if_neg (by omega), if_pos (by omega), if_neg (by omega), if_pos (by omega)]
    · have c4 : b = 4 := by omega
      subst c4
      rw [if_pos (by omega), if_pos (by omega)]
theorem cE_arr (h : CArr σ q E A) (hb : E 2 < 120) : CArr (cE σ q E) q (eE E) (aE A E) := by
  intro b j hL
  have hL' : aL E b j := aL_of hL (by unfold eE; simp (decide := true) only [du_ne]; exact Nat.le_refl _) (by unfold eE; simp (decide := true) only [du_ne]; exact Nat.le_refl _)
  have hv := h b j hL'
  have v0 : σ (q + 1) (3 * (E 2 / 6) + 0) = N (A 0 (3 * (E 2 / 6) + 0)) := h 0 _ (Or.inl ⟨rfl, by omega⟩)
  unfold cE aE
  rw [up_c (by omega), up_c (by omega), v0, N_inc]
  repeat rw [up_ite]
  repeat rw [au_ite]
  repeat' split
  all_goals first | exact hv | omega | rfl
theorem cC_arr {T : Nat → Nat} {n took : Nat} (h : CArr σ q E A) : CArr (cC σ q n took E) q (eC T E n) (aC A E n took) := by
  have e1 : eC T E n 1 = E 1 := by unfold eC; simp (decide := true) only [du_ne]
  have e5 : eC T E n 5 = E 5 + 1 := by unfold eC; simp (decide := true) only [du_ne, du_eq]
  intro b j hL
  unfold aL at hL
  rw [e1, e5] at hL
  unfold cC aC
  rw [up_c (by omega), up_c (by omega), up_c (by omega)]
  by_cases c : aL E b j
  · have hv := h b j c
    unfold aL at c
    rw [up_ne (by omega), up_ne (by omega), up_ne (by omega), up_ne (by omega), up_ne (by omega), au_ite, au_ite, au_ite, au_ite, au_ite, if_neg (by omega), if_neg (by omega), if_neg (by omega), if_neg (by omega), if_neg (by omega)]
    exact hv
  · unfold aL at c
    have eb : b = 1 := by omega
    subst eb
    rcases (show j = 5 * E 5 ∨ j = 5 * E 5 + 1 ∨ j = 5 * E 5 + 2 ∨ j = 5 * E 5 + 3 ∨ j = 5 * E 5 + 4 by omega) with rfl | rfl | rfl | rfl | rfl
    all_goals (repeat rw [up_ite])
    all_goals (repeat rw [au_ite])
    all_goals (repeat' split)
    all_goals first | omega | rfl
theorem cS_arr {T : Nat → Nat} {took : Nat} (h : CArr σ q E A) : CArr (cS σ q took) q (eS T E) A := by
  intro b j hL
  have hL' : aL E b j := aL_of hL (by unfold eS; simp (decide := true) only [du_ne]; exact Nat.le_refl _) (by unfold eS; simp (decide := true) only [du_ne]; exact Nat.le_refl _)
  unfold cS
  rw [up_c (by omega), up_c (by omega)]
  exact h b j hL'
theorem cD_arr {T : Nat → Nat} {n p : Nat} (h : CArr σ q E A) : CArr (cD σ q n p) q (eD T E n) A := by
  intro b j hL
  have hL' : aL E b j := aL_of hL (by unfold eD; simp (decide := true) only [du_ne]; exact Nat.le_refl _) (by unfold eD; simp (decide := true) only [du_ne]; exact Nat.le_refl _)
  unfold cD
  rw [up_c (by omega), up_c (by omega)]
  exact h b j hL'
end CArrs
/-! the same rows in the reference -/
def RArr (σ : sg_S) (i : Nat) (E : Nat → Nat) (A : aI) : Prop := (∀ j, j < 60 → σ (53 + j % 3) (20 * i + j / 3) = N (A 0 j)) ∧ (∀ j, j < 5 * E 5 → σ 50 (100 * i + j) = N (A 1 j)) ∧ (∀ j, j < 7 → σ 56 (7 * i + j) = N (A 2 j)) ∧ (∀ j, j < E 1 → σ 51 (10 * i + j) = N (A 3 j)) ∧ (∀ j, j < E 1 → σ 52 (10 * i + j) = N (A 4 j))
def own (i q j : Nat) : Prop := (53 ≤ q ∧ q ≤ 55 ∧ 20 * i ≤ j ∧ j < 20 * i + 20) ∨ (q = 50 ∧ 100 * i ≤ j ∧ j < 100 * i + 100) ∨ (q = 56 ∧ 7 * i ≤ j ∧ j < 7 * i + 7) ∨ ((q = 51 ∨ q = 52) ∧ 10 * i ≤ j ∧ j < 10 * i + 10)
theorem RArr_fr {σ σ' : sg_S} {i : Nat} {E : Nat → Nat} {A : aI} (h : RArr σ i E A) (h1 : E 1 ≤ 10) (h5 : E 5 ≤ 20) (hs : ∀ q j, own i q j → σ' q j = σ q j) : RArr σ' i E A := by
  obtain ⟨a, b, c, d, e⟩ := h
  refine ⟨fun j hj => ?_, fun j hj => ?_, fun j hj => ?_, fun j hj => ?_, fun j hj => ?_⟩
  · rw [hs _ _ (by unfold own; omega)]; exact a j hj
  · rw [hs _ _ (by unfold own; omega)]; exact b j hj
  · rw [hs _ _ (by unfold own; omega)]; exact c j hj
  · rw [hs _ _ (by unfold own; omega)]; exact d j hj
  · rw [hs _ _ (by unfold own; omega)]; exact e j hj
theorem RArr_E {σ : sg_S} {i : Nat} {E E' : Nat → Nat} {A : aI} (h : RArr σ i E A) (h1 : E' 1 = E 1) (h5 : E' 5 = E 5) : RArr σ i E' A := by
  obtain ⟨a, b, c, d, e⟩ := h
  refine ⟨a, fun j hj => b j (by omega), c, fun j hj => d j (by omega), fun j hj => e j (by omega)⟩
section RArrs
variable {σ : sg_S} {i : Nat} {E : Nat → Nat} {A : aI}
theorem uB_arr {m : Nat} (h : RArr σ i E A) (hb : E 2 < 120) (hm : m ≤ 6) : RArr (uB σ i m E) i (eB E m) (aB A E m) := by
  have f1 : eB E m 1 = E 1 := by unfold eB; simp (decide := true) only [du_ne]
  have f5 : eB E m 5 = E 5 := by unfold eB; simp (decide := true) only [du_ne]
  obtain ⟨a, b, c, d, e⟩ := h
  have v0 : σ 53 (20 * i + E 2 / 6) = N (A 0 (3 * (E 2 / 6) + 0)) := by
    have := a (3 * (E 2 / 6) + 0) (by omega)
    rw [show 53 + (3 * (E 2 / 6) + 0) % 3 = 53 by omega, show (3 * (E 2 / 6) + 0) / 3 = E 2 / 6 by omega] at this
    exact this
  have v2 : σ 55 (20 * i + E 2 / 6) = N (A 0 (3 * (E 2 / 6) + 2)) := by
    have := a (3 * (E 2 / 6) + 2) (by omega)
    rw [show 53 + (3 * (E 2 / 6) + 2) % 3 = 55 by omega, show (3 * (E 2 / 6) + 2) / 3 = E 2 / 6 by omega] at this
    exact this
  have v6 := c m (by omega)
  unfold uB aB
  rw [v0, v2, v6, N_add, N_inc, N_inc]
  refine RArr_E (E := E) ⟨fun j hj => ?_, fun j hj => ?_, fun j hj => ?_, fun j hj => ?_, fun j hj => ?_⟩ f1 f5
  · have hv := a j hj
    rw [up_ne (by omega), up_ne (by omega), up_ne (by omega), up_ite, up_ite, au_ite, au_ite, au_ite, if_neg (show ¬ (0 = 2 ∧ j = m) by omega)]
    repeat' split
    all_goals first | exact hv | omega | rfl
  · have hv := b j hj
    rw [up_ne (by omega), up_ne (by omega), up_ne (by omega), up_ne (by omega), up_ne (by omega), au_ite, au_ite, au_ite, if_neg (by omega), if_neg (by omega), if_neg (by omega)]
    exact hv
  · have hv := c j hj
    rw [up_ne (by omega), up_ne (by omega), up_ite, up_ne (by omega), up_ne (by omega), au_ite, au_ite, au_ite, if_neg (show ¬ (2 = 0 ∧ j = 3 * (E 2 / 6) + 2) by omega), if_neg (show ¬ (2 = 0 ∧ j = 3 * (E 2 / 6) + 0) by omega)]
    repeat' split
    all_goals first | exact hv | omega | rfl
  · have hv := d j hj
    rw [up_ne (by omega), up_ne (by omega), up_ne (by omega), up_ne (by omega), up_ne (by omega), au_ite, au_ite, au_ite, if_neg (by omega), if_neg (by omega), if_neg (by omega)]
    exact hv
  · have hv := e j hj
    rw [up_ne (by omega), up_ne (by omega), up_ne (by omega), up_ne (by omega), up_ne (by omega), au_ite, au_ite, au_ite, if_neg (by omega), if_neg (by omega), if_neg (by omega)]
    exact hv
theorem uX_arr (h : RArr σ i E A) (hb : E 2 < 120) (hw : E 1 < 10) : RArr (uX σ i E) i (eX E) (aX A E) := by
  have e1 : eX E 1 = E 1 + 1 := by unfold eX; simp (decide := true) only [du_ne, du_eq]
  have e5 : eX E 5 = E 5 := by unfold eX; simp (decide := true) only [du_ne]
  have f1 : eB E 0 1 = E 1 := by unfold eB; simp (decide := true) only [du_ne]
  have f5 : eB E 0 5 = E 5 := by unfold eB; simp (decide := true) only [du_ne]
  have v1 : σ 54 (20 * i + E 2 / 6) = N (A 0 (3 * (E 2 / 6) + 1)) := by
    have := h.1 (3 * (E 2 / 6) + 1) (by omega)
    rw [show 53 + (3 * (E 2 / 6) + 1) % 3 = 54 by omega, show (3 * (E 2 / 6) + 1) / 3 = E 2 / 6 by omega] at this
    exact this
  have hA : aB (au A 0 (3 * (E 2 / 6) + 1) (A 0 (3 * (E 2 / 6) + 1) + 1)) E 0 = au (aB A E 0) 0 (3 * (E 2 / 6) + 1) (A 0 (3 * (E 2 / 6) + 1) + 1) := by
    funext b j
    unfold aB
    repeat rw [au_ite]
    repeat' split
    all_goals first | omega | rfl
  have h2 := uB_arr (m := 0) h hb (by decide)
  obtain ⟨a, b, c, d, e⟩ := h2
  rw [f5] at b
  rw [f1] at d e
  unfold uX aX
  rw [hA, v1, N_inc]
  unfold RArr
  rw [e1, e5]
  refine ⟨fun j hj => ?_, fun j hj => ?_, fun j hj => ?_, fun j hj => ?_, fun j hj => ?_⟩
  · have hv := a j hj
    rw [up_ne (by omega), up_ne (by omega), up_ne (by omega), up_ite, au_ite, au_ite, au_ite, if_neg (show ¬ (0 = 4 ∧ j = E 1) by omega), if_neg (show ¬ (0 = 3 ∧ j = E 1) by omega)]
    by_cases c1 : j = 3 * (E 2 / 6) + 1
    · rw [if_pos (by omega), if_pos (by omega)]
    · rw [if_neg (by omega), if_neg (by omega)]; exact hv
  · have hv := b j hj
    rw [up_ne (by omega), up_ne (by omega), up_ne (by omega), up_ne (by omega), au_ite, au_ite, au_ite, if_neg (by omega), if_neg (by omega), if_neg (by omega)]
    exact hv
  · have hv := c j hj
    rw [up_ne (by omega), up_ne (by omega), up_ne (by omega), up_ne (by omega), au_ite, au_ite, au_ite, if_neg (by omega), if_neg (by omega), if_neg (by omega)]
    exact hv
  · by_cases ej : j = E 1
    · subst ej
      rw [up_ne (by omega), up_ne (by omega), up_eq, au_ite, au_ite, if_neg (by omega), if_pos (by omega)]
    · have hv := d j (by omega)
      rw [up_ne (by omega), up_ne (by omega), up_ne (by omega), up_ne (by omega), au_ite, au_ite, au_ite, if_neg (by omega), if_neg (by omega), if_neg (by omega)]
      exact hv
  · by_cases ej : j = E 1
    · subst ej
      rw [up_ne (by omega), up_eq, au_ite, if_pos (by omega)]
    · have hv := e j (by omega)
      rw [up_ne (by omega), up_ne (by omega), up_ne (by omega), up_ne (by omega), au_ite, au_ite, au_ite, if_neg (by omega), if_neg (by omega), if_neg (by omega)]
      exact hv
theorem uE_arr (h : RArr σ i E A) (hb : E 2 < 120) : RArr (uE σ i E) i (eE E) (aE A E) := by
  have f1 : eE E 1 = E 1 := by unfold eE; simp (decide := true) only [du_ne]
  have f5 : eE E 5 = E 5 := by unfold eE; simp (decide := true) only [du_ne]
  obtain ⟨a, b, c, d, e⟩ := h
  have v0 : σ 53 (20 * i + E 2 / 6) = N (A 0 (3 * (E 2 / 6) + 0)) := by
    have := a (3 * (E 2 / 6) + 0) (by omega)
    rw [show 53 + (3 * (E 2 / 6) + 0) % 3 = 53 by omega, show (3 * (E 2 / 6) + 0) / 3 = E 2 / 6 by omega] at this
    exact this
  unfold uE aE
  rw [v0, N_inc]
  refine RArr_E (E := E) ⟨fun j hj => ?_, fun j hj => ?_, fun j hj => ?_, fun j hj => ?_, fun j hj => ?_⟩ f1 f5
  · have hv := a j hj
    rw [up_ite, up_ne (by omega), up_ne (by omega), au_ite]
    repeat' split
    all_goals first | exact hv | omega | rfl
  · have hv := b j hj
    rw [up_ne (by omega), up_ne (by omega), up_ne (by omega), au_ite, if_neg (by omega)]
    exact hv
  · have hv := c j hj
    rw [up_ne (by omega), up_ne (by omega), up_ne (by omega), au_ite, if_neg (by omega)]
    exact hv
  · have hv := d j hj
    rw [up_ne (by omega), up_ne (by omega), up_ne (by omega), au_ite, if_neg (by omega)]
    exact hv
  · have hv := e j hj
    rw [up_ne (by omega), up_ne (by omega), up_ne (by omega), au_ite, if_neg (by omega)]
    exact hv
theorem uC_arr {T : Nat → Nat} {n took : Nat} (h : RArr σ i E A) : RArr (uC σ i n took E) i (eC T E n) (aC A E n took) := by
  have e1 : eC T E n 1 = E 1 := by unfold eC; simp (decide := true) only [du_ne]
  have e5 : eC T E n 5 = E 5 + 1 := by unfold eC; simp (decide := true) only [du_ne, du_eq]
  obtain ⟨a, b, c, d, e⟩ := h
  unfold RArr
  rw [e1, e5]
  unfold uC aC
  refine ⟨fun j hj => ?_, fun j hj => ?_, fun j hj => ?_, fun j hj => ?_, fun j hj => ?_⟩
  · have hv := a j hj
    rw [up_ne (by omega), up_ne (by omega), up_ne (by omega), up_ne (by omega), up_ne (by omega), up_ne (by omega), up_ne (by omega), up_ne (by omega), au_ite, au_ite, au_ite, au_ite, au_ite, if_neg (by omega), if_neg (by omega), if_neg (by omega), if_neg (by omega), if_neg (by omega)]
    exact hv
  · by_cases ej : j < 5 * E 5
    · have hv := b j ej
      rw [up_ne (by omega), up_ne (by omega), up_ne (by omega), up_ne (by omega), up_ne (by omega), up_ne (by omega), up_ne (by omega), up_ne (by omega), au_ite, au_ite, au_ite, au_ite, au_ite, if_neg (by omega), if_neg (by omega), if_neg (by omega), if_neg (by omega), if_neg (by omega)]
      exact hv
    · rcases (show j = 5 * E 5 ∨ j = 5 * E 5 + 1 ∨ j = 5 * E 5 + 2 ∨ j = 5 * E 5 + 3 ∨ j = 5 * E 5 + 4 by omega) with rfl | rfl | rfl | rfl | rfl
      all_goals (repeat rw [up_ite])
      all_goals (repeat rw [au_ite])
      all_goals (repeat' split)
      all_goals first | omega | rfl
  · have hv := c j hj
    rw [up_ne (by omega), up_ne (by omega), up_ne (by omega), up_ne (by omega), up_ne (by omega), up_ne (by omega), up_ne (by omega), up_ne (by omega), au_ite, au_ite, au_ite, au_ite, au_ite, if_neg (by omega), if_neg (by omega), if_neg (by omega), if_neg (by omega), if_neg (by omega)]
    exact hv
  · have hv := d j hj
    rw [up_ne (by omega), up_ne (by omega), up_ne (by omega), up_ne (by omega), up_ne (by omega), up_ne (by omega), up_ne (by omega), up_ne (by omega), au_ite, au_ite, au_ite, au_ite, au_ite, if_neg (by omega), if_neg (by omega), if_neg (by omega), if_neg (by omega), if_neg (by omega)]
    exact hv
  · have hv := e j hj
    rw [up_ne (by omega), up_ne (by omega), up_ne (by omega), up_ne (by omega), up_ne (by omega), up_ne (by omega), up_ne (by omega), up_ne (by omega), au_ite, au_ite, au_ite, au_ite, au_ite, if_neg (by omega), if_neg (by omega), if_neg (by omega), if_neg (by omega), if_neg (by omega)]
    exact hv
end RArrs
end
section
/-! ROWS ALONG A RUN OF EVENTS -/
def pdA (A : Nat → aI) (i : Nat) (B : aI) : Nat → aI := fun j => if j = i then B else A j
theorem pdA_eq {A : Nat → aI} {i : Nat} {B : aI} : pdA A i B i = B := if_pos rfl
theorem pdA_ne {A : Nat → aI} {i j : Nat} {B : aI} (h : ¬ j = i) : pdA A i B j = A j := if_neg h
noncomputable def astp (T : Nat → Nat) (x : mS) (A : Nat → aI) (e n : Int32) : Nat → aI :=
  if e = 100 then A
  else if e = 99 then pdA A x.1 (aC (A x.1) (x.2.2 x.1) (ni n) (WL T (x.2.2 x.1) - wN T (6 * ni n - x.2.2 x.1 2) (x.2.2 x.1 1)))
  else if e = 47 then A
  else if e = 119 ∨ e = 110 then pdA A x.1 (aE (A x.1) (x.2.2 x.1))
  else if e = 120 then pdA A x.1 (aX (A x.1) (x.2.2 x.1))
  else pdA A x.1 (aB (A x.1) (x.2.2 x.1) (ni e - 48))
noncomputable def arun (T S : Nat → Nat) (ev nu : Nat → Int32) (k : Nat) : Nat → aI := Nat.rec (motive := fun _ => Nat → aI) (fun _ _ _ => 0) (fun j A => (mrun T S ev nu j).elim A (fun x => astp T x A (ev j) (nu j))) k
theorem arun_s {T S : Nat → Nat} {ev nu : Nat → Int32} {k : Nat} {x : mS} (h : mrun T S ev nu k = some x) : arun T S ev nu (k + 1) = astp T x (arun T S ev nu k) (ev k) (nu k) := by
  show (mrun T S ev nu k).elim (arun T S ev nu k) (fun x => astp T x (arun T S ev nu k) (ev k) (nu k)) = _
  rw [h]
  rfl
theorem arun_congr {T S : Nat → Nat} {ev nu ev' nu' : Nat → Int32} : ∀ k, (∀ j, j < k → ev j = ev' j ∧ nu j = nu' j) → arun T S ev nu k = arun T S ev' nu' k := by
  intro k
  induction k with
  | zero => intro _; rfl
  | succ k ih =>
    intro h
    obtain ⟨h1, h2⟩ := h k (by omega)
    show (mrun T S ev nu k).elim (arun T S ev nu k) (fun x => astp T x (arun T S ev nu k) (ev k) (nu k)) = (mrun T S ev' nu' k).elim (arun T S ev' nu' k) (fun x => astp T x (arun T S ev' nu' k) (ev' k) (nu' k))
    rw [mrun_congr k (fun j hj => h j (by omega)), ih (fun j hj => h j (by omega)), h1, h2]
/-! the class -/
def Ca (σ : sg_S) (c : Nat) (D : Nat → Nat → Nat) (A : Nat → aI) : Prop := CArr σ (c + 1) (D 0) (A 0) ∧ CArr σ (c + 7) (D 1) (A 1)
section CaS
variable {σ σ1 : sg_S} {c i t k : Nat} {T S : Nat → Nat} {D : Nat → Nat → Nat} {A : Nat → aI}
theorem Ca.pic (h : Ca σ c D A) (hi : i < 2) : CArr σ (c + 1 + 6 * i) (D i) (A i) := by
  rcases (show i = 0 ∨ i = 1 by omega) with rfl | rfl
  · exact h.1
  · exact h.2
theorem Ca_fr (h : Ca σ c D A) (hs : ∀ q j, c + 2 ≤ q → q ≤ c + 12 → σ1 q j = σ q j) : Ca σ1 c D A :=
  ⟨CArr_fr h.1 (fun b j hb => hs _ _ (by omega) (by omega)), CArr_fr h.2 (fun b j hb => hs _ _ (by omega) (by omega))⟩
theorem Ca_pd {E : Nat → Nat} {B : aI} (h : Ca σ c D A) (hi : i < 2) (hs : ∀ q j, ¬ (c + 1 + 6 * i ≤ q ∧ q ≤ c + 6 + 6 * i) → σ1 q j = σ q j) (hE : CArr σ1 (c + 1 + 6 * i) E B) : Ca σ1 c (pd D i E) (pdA A i B) := by
  rcases (show i = 0 ∨ i = 1 by omega) with rfl | rfl
  · refine ⟨?_, ?_⟩
    · rw [pd_eq, pdA_eq]; exact hE
    · rw [pd_ne (by decide), pdA_ne (by decide)]; exact CArr_fr h.2 (fun b j hb => hs _ _ (by omega))
  · refine ⟨?_, ?_⟩
    · rw [pd_ne (by decide), pdA_ne (by decide)]; exact CArr_fr h.1 (fun b j hb => hs _ _ (by omega))
    · rw [pd_eq, pdA_eq]; exact hE
theorem a121_q {q j r : Nat} (hq : ¬ q = c) : s_X0_take_a121 c σ r q j = σ q j := by
  unfold s_X0_take_a121
  split
  · exact up_c hq
  split
  · rfl
  · exact up_c hq
theorem Ca_121 {r : Nat} (h : Ca σ c D A) : Ca (s_X0_take_a121 c σ r) c D A := Ca_fr h (fun q j h1 _ => a121_q (by omega))
theorem pdA_self {i : Nat} : pdA A i (A i) = A := by
  funext j
  by_cases e : j = i
  · subst e; exact pdA_eq
  · exact pdA_ne e
theorem take_arr {e n : Int32} (hc : 5 ≤ c) (h : CAt σ c T S i t D) (hok : OK T (S 1) k i t D) (hk : k ≤ 400) {y : mS} (hs : stp T (S 1) (i, t, D) e n = some y) (hR : Ca σ c D A) : Ca (s_X0_take σ c e n) c y.2.2 (astp T (i, t, D) A e n) := by
  have hT := h.2.1
  obtain ⟨o1, o2, o3, o4, o5, o6, o7⟩ := id hok
  unfold stp at hs
  unfold astp
  dsimp only at hs ⊢
  by_cases he : e = 100
  · rw [if_pos he] at hs ⊢
    by_cases hd : (i = 0 ∨ i = 1 ∧ t = 0) ∧ 1 ≤ ni n ∧ ni n < D 1 3
    · rw [if_pos hd] at hs
      cases hs
      dsimp only
      obtain ⟨hE, h1, h2⟩ := hd
      have hn20 : ni n ≤ 20 := by have := (o4 1 (by decide)).2.1; omega
      have es : s_X0_take σ c e n = cD σ (c + 7) (ni n) (wN T (6 * ni n) 0) := by
        unfold s_X0_take t_X0_take_3 s_X1_beginWith cD
        rw [if_neg (fun z => z he), ← overs_w h.1 hT hn20, ni_pos h1]
      rw [es, ← pdA_self (A := A) (i := 1)]
      exact Ca_pd (i := 1) hR (by decide) (fun q j hq => by unfold cD; rw [up_c (by omega), up_c (by omega)]) (cD_arr hR.2)
    · rw [if_neg hd] at hs; cases hs
  rw [if_neg he] at hs ⊢
  by_cases h2 : 2 ≤ i
  · rw [if_pos h2] at hs; cases hs
  rw [if_neg h2] at hs
  have hi : i < 2 := by omega
  have hI := o4 i hi
  have hL := o5 i hi (Nat.le_refl i)
  obtain ⟨a1, a2, a3, a4, a5, a6, a7, a8, a9, a10⟩ := id hI
  obtain ⟨l1, l2, l3⟩ := id hL
  obtain ⟨σ0, e0, hA, hS0, hq0⟩ := take_nd (n := n) hc h hok hi he
  have hR0 : Ca σ0 c D A := Ca_fr hR (fun q j h1 _ => hq0 q j (by omega))
  have hP := hA.pic hi
  have hsd : v_X0_side c (σ0 c 3) = c + 1 + 6 * i := by rw [hA.2.2.2.2.1]; exact side_eq hi
  have hRi := hR0.pic hi
  rw [e0]
  by_cases h99 : e = 99
  · rw [if_pos h99] at hs ⊢
    by_cases hd : 1 ≤ ni n ∧ ni n < D i 3 ∧ D i 2 ≤ 6 * ni n
    · rw [if_pos hd] at hs
      cases hs
      obtain ⟨g1, g2, g3⟩ := hd
      have hl := clossByCut_eq (n := ni n) hA hi hI (by omega) g3
      rw [ni_pos g1] at hl
      have es : s_X0_take_a36 c σ0 e n = s_X0_take_a121 c (cC σ0 (c + 1 + 6 * i) (ni n) (WL T (D i) - wN T (6 * ni n - D i 2) (D i 1)) (D i)) (c + 1 + 6 * i) := by
        unfold s_X0_take_a36 t_X0_take_1
        rw [if_pos (by rw [h99]; decide), if_neg (fun z => z h99), hsd, hl, ← addCut_eq hP (by omega) (by omega), ni_pos g1]
      rw [es]
      exact Ca_121 (Ca_pd hR0 hi (fun q j hq => by simp (disch := omega) only [cC, up_c]) (cC_arr hRi))
    · rw [if_neg hd] at hs; cases hs
  rw [if_neg h99] at hs ⊢
  by_cases h47 : e = 47
  · rw [if_pos h47] at hs ⊢
    cases hs
    have es : s_X0_take_a36 c σ0 e n = s_X0_take_a121 c (cS σ0 (c + 1 + 6 * i) (WL T (D i))) (c + 1 + 6 * i) := by
      unfold s_X0_take_a36 t_X0_take_2 s_X1_addClose cS
      rw [if_neg (fun z => z h47), hsd, cworthLeft_eq hA hi hI]
    rw [es, ← pdA_self (A := A) (i := i)]
    exact Ca_121 (Ca_pd hR0 hi (fun q j hq => by simp (disch := omega) only [cS, up_c]) (cS_arr hRi))
  rw [if_neg h47] at hs ⊢
  by_cases hE : e = 119 ∨ e = 110
  · rw [if_pos hE] at hs ⊢
    cases hs
    have es : s_X0_take_a36 c σ0 e n = s_X0_take_a121 c (cE σ0 (c + 1 + 6 * i) (D i)) (c + 1 + 6 * i) := by
      unfold s_X0_take_a36
      rw [if_pos h47, if_pos h99, if_pos (by rcases hE with rfl | rfl <;> decide), hsd, addExtra_eq hP (by omega)]
      rcases hE with rfl | rfl
      · rw [if_pos rfl]
      · rw [if_neg (by decide), if_neg (fun z => z rfl)]
    rw [es]
    exact Ca_121 (Ca_pd hR0 hi (fun q j hq => by simp (disch := omega) only [cE, up_c]) (cE_arr hRi (by omega)))
  rw [if_neg hE] at hs ⊢
  by_cases hX : e = 120
  · rw [if_pos hX] at hs ⊢
    cases hs
    have es : s_X0_take_a36 c σ0 e n = s_X0_take_a121 c (cX σ0 (c + 1 + 6 * i) (D i)) (c + 1 + 6 * i) := by
      unfold s_X0_take_a36
      rw [if_pos h47, if_pos h99, if_neg (fun z => z hX), hsd, addWicket_eq hP (by omega) l2]
    rw [es]
    exact Ca_121 (Ca_pd hR0 hi (fun q j hq => by simp (disch := omega) only [cX, cB, up_c]) (cX_arr hRi (by omega)))
  rw [if_neg hX] at hs ⊢
  by_cases hB : 48 ≤ ni e ∧ ni e ≤ 54
  · rw [if_pos hB] at hs
    cases hs
    have ee : N (48 + (ni e - 48)) = e := by
      rw [show 48 + (ni e - 48) = ni e by omega]
      exact ni_pos (by omega)
    have em : e - 48 = N (ni e - 48) := by
      have := e_m (m := ni e - 48)
      rw [ee] at this
      exact this
    have es : s_X0_take_a36 c σ0 e n = s_X0_take_a121 c (cB σ0 (c + 1 + 6 * i) (ni e - 48) (D i)) (c + 1 + 6 * i) := by
      unfold s_X0_take_a36 t_X0_take_0
      rw [if_pos h47, if_pos h99, if_pos hX, if_neg (fun z => hE (Or.inl z)), if_pos (fun z => hE (Or.inr z)), hsd, em, addBall_eq hP (by omega) (by omega)]
    rw [es]
    exact Ca_121 (Ca_pd hR0 hi (fun q j hq => by simp (disch := omega) only [cB, up_c]) (cB_arr hRi (by omega) (by omega)))
  rw [if_neg hB] at hs
  cases hs
theorem CArr_E {q : Nat} {E E' : Nat → Nat} {B : aI} (h : CArr σ q E B) (h1 : E' 1 ≤ E 1) (h5 : E' 5 ≤ E 5) : CArr σ q E' B := fun b j hL => h b j (aL_of hL h1 h5)
/-- where a course begins anew all rows are empty -/
theorem restart_Z : Ca (s_X0_restart σ c) c (fun _ _ => 0) (fun _ _ _ => 0) := by
  have key : ∀ q j, ¬ q = c → ((q = c + 2 ∨ q = c + 8) ∧ j < 60) ∨ ((q = c + 4 ∨ q = c + 10) ∧ j < 7) → s_X0_restart σ c q j = 0 := fun q j hq hj => by
    show t_X0_restart_2 σ c q j = 0
    unfold t_X0_restart_2 t_X0_restart_1
    rw [up_c hq, up_c hq, restart_at]
    by_cases g1 : q = c + 8 ∨ q = c + 10
    · by_cases g2 : q = c + 8
      · rw [if_neg (by omega), if_pos (by omega)]
      · rw [if_neg (by omega), if_neg (by omega), if_pos (by omega)]
    · rw [if_neg (by omega), if_neg (by omega), if_neg (by omega)]
      unfold t_X0_restart_0
      rw [restart_at]
      by_cases g2 : q = c + 2
      · rw [if_neg (by omega), if_pos (by omega)]
      · rw [if_neg (by omega), if_neg (by omega), if_pos (by omega)]
  refine ⟨fun b j hL => ?_, fun b j hL => ?_⟩
  · have hL : (b = 0 ∧ j < 60) ∨ (b = 1 ∧ j < 5 * 0) ∨ (b = 2 ∧ j < 7) ∨ ((b = 3 ∨ b = 4) ∧ j < 0) := hL
    exact key _ _ (by omega) (by omega)
  · have hL : (b = 0 ∧ j < 60) ∨ (b = 1 ∧ j < 5 * 0) ∨ (b = 2 ∧ j < 7) ∨ ((b = 3 ∨ b = 4) ∧ j < 0) := hL
    exact key _ _ (by omega) (by omega)
theorem crestart_arr : Ca (s_X0_restart σ c) c (fun _ => bE T S) (fun _ _ _ => 0) := ⟨CArr_E restart_Z.1 (Nat.le_refl 0) (Nat.le_refl 0), CArr_E restart_Z.2 (Nat.le_refl 0) (Nat.le_refl 0)⟩
end CaS
theorem replay6A {c : Nat} {T S : Nat → Nat} {k : Nat} {y : mS} (hc : 5 ≤ c) (hc2 : c + 12 < 33) (hk : k ≤ 400) : ∀ (n j : Nat) (σ : sg_S) (x : mS), j ≤ k → k - j < n → CAt σ c T S x.1 x.2.1 x.2.2 → mrun T S (σ 33) (σ 34) j = some x → mrun T S (σ 33) (σ 34) k = some y → Ca σ c x.2.2 (arun T S (σ 33) (σ 34) j) → Ca (s_X4_replay_l6 c n σ (N k) (N j)) c y.2.2 (arun T S (σ 33) (σ 34) k) := by
  intro n
  induction n with
  | zero => intro j σ x _ hn; omega
  | succ n ih =>
    intro j σ x hj hn hR hx hy hA
    by_cases e : j = k
    · subst e
      have exy : x = y := Option.some.inj (hx.symm.trans hy)
      subst exy
      have es : s_X4_replay_l6 c (n + 1) σ (N j) (N j) = σ := by
        show s_X4_replay_b6 c (s_X4_replay_l6 c n) σ (N j) (N j) = _
        unfold s_X4_replay_b6
        rw [if_pos (Int32.le_refl _)]
      rw [es]
      exact hA
    · obtain ⟨z, hz⟩ := mrun_le' hy (j := j + 1) (by omega)
      have hst := hz
      rw [mrun_some hx] at hst
      have hO := mrun_OK hR.2.1 hR.2.2.2.1 j x hx
      obtain ⟨g1, g4⟩ := take_ok (y := z) hc hR hO (by omega) (show stp T (S 1) (x.1, x.2.1, x.2.2) (σ 33 j) (σ 34 j) = some z from hst)
      have gA := take_arr (y := z) hc hR hO (by omega) (show stp T (S 1) (x.1, x.2.1, x.2.2) (σ 33 j) (σ 34 j) = some z from hst) hA
      have r33 := g4.row (q := 33) (by omega)
      have r34 := g4.row (q := 34) (by omega)
      have gA2 : Ca (s_X0_take σ c (σ 33 j) (σ 34 j)) c z.2.2 (arun T S (σ 33) (σ 34) (j + 1)) := by
        rw [arun_s hx]; exact gA
      have i2 := ih (j + 1) (s_X0_take σ c (σ 33 j) (σ 34 j)) z (by omega) (by omega) g1 (by rw [r33, r34]; exact hz) (by rw [r33, r34]; exact hy) (by rw [r33, r34]; exact gA2)
      rw [r33, r34] at i2
      have es : s_X4_replay_l6 c (n + 1) σ (N k) (N j) = s_X4_replay_l6 c n (s_X0_take σ c (σ 33 j) (σ 34 j)) (N k) (N (j + 1)) := by
        show s_X4_replay_b6 c (s_X4_replay_l6 c n) σ (N k) (N j) = _
        unfold s_X4_replay_b6
        rw [if_neg (by rw [N_le (by omega) (by omega)]; omega), if_neg (by exact g_nle (L := 400) (by omega) (by decide)), ni_N (by omega), N_inc]
      rw [es]
      exact i2
theorem replay_arr {σ : sg_S} {c : Nat} {T S : Nat → Nat} {k : Nat} {y : mS} (hc : 5 ≤ c) (hc2 : c + 12 < 33) (hT : TabAt σ 2 T) (hK : TabOK T) (hS : SetAt σ 4 S) (hSK : SetOK S) (hk : k ≤ 400) (hy : mrun T S (σ 33) (σ 34) k = some y) : Ca (s_X4_replay σ c (N k)) c y.2.2 (arun T S (σ 33) (σ 34) k) := by
  obtain ⟨b2, b4⟩ := crestart_ok hc hT hK hS hSK
  have r33 := b4.row (q := 33) (by omega)
  have r34 := b4.row (q := 34) (by omega)
  have g2 := replay6A hc hc2 hk 600 0 (s_X0_restart σ c) (begn T S) (by omega) (by omega) b2 rfl (by rw [r33, r34]; exact hy) crestart_arr
  rw [r33, r34] at g2
  exact g2
/-! the reference -/
def Ra (σ : sg_S) (D : Nat → Nat → Nat) (A : Nat → aI) : Prop := RArr σ 0 (D 0) (A 0) ∧ RArr σ 1 (D 1) (A 1)
section RaS
variable {σ σ1 : sg_S} {i t k : Nat} {T S : Nat → Nat} {D : Nat → Nat → Nat} {A : Nat → aI}
theorem Ra.pic (h : Ra σ D A) (hi : i < 2) : RArr σ i (D i) (A i) := by
  rcases (show i = 0 ∨ i = 1 by omega) with rfl | rfl
  · exact h.1
  · exact h.2
theorem Ra_fr (h : Ra σ D A) (hI : ∀ j, j < 2 → InnOK T k (D j)) (hs : ∀ q j, 50 ≤ q → q ≤ 56 → σ1 q j = σ q j) : Ra σ1 D A := by
  have i0 := hI 0 (by decide)
  have i1 := hI 1 (by decide)
  exact ⟨RArr_fr h.1 i0.2.2.2.1 (by have := i0.2.2.2.2.1; omega) (fun q j hq => hs q j (by unfold own at hq; omega) (by unfold own at hq; omega)), RArr_fr h.2 i1.2.2.2.1 (by have := i1.2.2.2.2.1; omega) (fun q j hq => hs q j (by unfold own at hq; omega) (by unfold own at hq; omega))⟩
theorem Ra_pd {E : Nat → Nat} {B : aI} (h : Ra σ D A) (hI : ∀ j, j < 2 → InnOK T k (D j)) (hi : i < 2) (hs : ∀ q j, own (1 - i) q j → σ1 q j = σ q j) (hE : RArr σ1 i E B) : Ra σ1 (pd D i E) (pdA A i B) := by
  have i0 := hI 0 (by decide)
  have i1 := hI 1 (by decide)
  rcases (show i = 0 ∨ i = 1 by omega) with rfl | rfl
  · refine ⟨?_, ?_⟩
    · rw [pd_eq, pdA_eq]; exact hE
    · rw [pd_ne (by decide), pdA_ne (by decide)]; exact RArr_fr h.2 i1.2.2.2.1 (by have := i1.2.2.2.2.1; omega) hs
  · refine ⟨?_, ?_⟩
    · rw [pd_ne (by decide), pdA_ne (by decide)]; exact RArr_fr h.1 i0.2.2.2.1 (by have := i0.2.2.2.2.1; omega) hs
    · rw [pd_eq, pdA_eq]; exact hE
theorem Res_arr {D' : Nat → Nat → Nat} {s : sg_S} {B : Nat → aI} (hr : Res σ1 T S k i D' s) (h : Ra σ1 D' B) : Ra s D' B := by
  obtain ⟨now', h1, h2, h3, h4, h5⟩ := hr
  refine Ra_fr (T := T) (k := k + 1) h h5.2.2.2.1 (fun q j a b => ?_)
  rw [h3, up_c (by omega)]
theorem goes_arr {e n : Int32} (h : RefAt σ T S i t D) (hok : OK T (S 1) k i t D) (hk : k ≤ 400) {y : mS} (hs : stp T (S 1) (i, t, D) e n = some y) (hA : Ra σ D A) : Ra (s_X5_goes σ e n) y.2.2 (astp T (i, t, D) A e n) := by
  have hI := hok.2.2.2.1
  have h24 : ∀ v, Ra (sg_up σ 35 24 v) D A := fun v => Ra_fr hA hI (fun q j a b => up_c (by omega))
  unfold stp at hs
  unfold astp
  dsimp only at hs ⊢
  by_cases he : e = 100
  · rw [if_pos he] at hs ⊢
    by_cases hc : (i = 0 ∨ i = 1 ∧ t = 0) ∧ 1 ≤ ni n ∧ ni n < D 1 3
    · rw [if_pos hc] at hs
      cases hs
      dsimp only
      obtain ⟨hE, h1, h2⟩ := hc
      subst he
      obtain ⟨a1, a2, a3, a4⟩ := ev_d (n := ni n) h hok hk hE h1 h2
      rw [ni_pos h1] at a1
      rw [a1, ← pdA_self (A := A) (i := 1)]
      have f1 : eD T (D 1) (ni n) 1 = D 1 1 := by unfold eD; simp (decide := true) only [du_ne]
      have f5 : eD T (D 1) (ni n) 5 = D 1 5 := by unfold eD; simp (decide := true) only [du_ne]
      have hu : Ra (uD σ (ni n) (wN T (6 * ni n) 0)) D A := Ra_fr hA hI (fun q j a b => by unfold uD; rw [up_c (by omega), up_c (by omega)])
      exact Ra_pd hA hI (by decide) (fun q j hq => by unfold own at hq; unfold uD; rw [up_c (by omega), up_c (by omega)]) (RArr_E hu.2 f1 f5)
    · rw [if_neg hc] at hs; cases hs
  rw [if_neg he] at hs ⊢
  by_cases h2 : 2 ≤ i
  · rw [if_pos h2] at hs; cases hs
  rw [if_neg h2] at hs
  have hi : i < 2 := by omega
  have hL := hok.2.2.2.2.1 i hi (Nat.le_refl i)
  obtain ⟨a1, a2, a3, a4, a5, a6, a7, a8, a9, a10⟩ := hI i hi
  obtain ⟨l1, l2, l3⟩ := id hL
  by_cases h99 : e = 99
  · rw [if_pos h99] at hs ⊢
    by_cases hc : 1 ≤ ni n ∧ ni n < D i 3 ∧ D i 2 ≤ 6 * ni n
    · rw [if_pos hc] at hs
      cases hs
      obtain ⟨g1, g2, g3⟩ := hc
      subst h99
      obtain ⟨b1, b2⟩ := ev_cut (n := ni n) h hok hi hk g1 g2 g3
      rw [ni_pos g1] at b1
      exact Res_arr b1 (Ra_pd (h24 _) hI hi (fun q j hq => by unfold own at hq; unfold uC; rw [up_c (by omega), up_c (by omega), up_c (by omega), up_ne (by omega), up_ne (by omega), up_ne (by omega), up_ne (by omega), up_ne (by omega)]) (uC_arr ((h24 _).pic hi)))
    · rw [if_neg hc] at hs; cases hs
  rw [if_neg h99] at hs ⊢
  by_cases h47 : e = 47
  · rw [if_pos h47] at hs ⊢
    cases hs
    subst h47
    obtain ⟨b1, b2⟩ := ev_close (n := n) h hok hi hk
    have f1 : eS T (D i) 1 = D i 1 := by unfold eS; simp (decide := true) only [du_ne]
    have f5 : eS T (D i) 5 = D i 5 := by unfold eS; simp (decide := true) only [du_ne]
    have hu : Ra (uS (sg_up σ 35 24 (N i)) i (WL T (D i)) (D i)) D A := Ra_fr (h24 _) hI (fun q j a b => by unfold uS; rw [up_c (by omega), up_c (by omega), up_c (by omega)])
    rw [← pdA_self (A := A) (i := i)]
    exact Res_arr b1 (Ra_pd hu hI hi (fun q j hq => rfl) (RArr_E (hu.pic hi) f1 f5))
  rw [if_neg h47] at hs ⊢
  by_cases hE : e = 119 ∨ e = 110
  · rw [if_pos hE] at hs ⊢
    cases hs
    obtain ⟨b1, b2⟩ := ev_extra (n := n) h hok hi hk hE
    exact Res_arr b1 (Ra_pd (h24 _) hI hi (fun q j hq => by unfold own at hq; unfold uE; rw [up_ne (by omega), up_c (by omega), up_c (by omega)]) (uE_arr ((h24 _).pic hi) (by omega)))
  rw [if_neg hE] at hs ⊢
  by_cases hX : e = 120
  · rw [if_pos hX] at hs ⊢
    cases hs
    subst hX
    obtain ⟨b1, b2⟩ := ev_x (n := n) h hok hi hk
    exact Res_arr b1 (Ra_pd (h24 _) hI hi (fun q j hq => by unfold own at hq; unfold uX uB; rw [up_c (by omega), up_ne (by omega), up_ne (by omega), up_ne (by omega), up_c (by omega), up_c (by omega), up_ne (by omega), up_ne (by omega), up_ne (by omega)]) (uX_arr ((h24 _).pic hi) (by omega) l2))
  rw [if_neg hX] at hs ⊢
  by_cases hB : 48 ≤ ni e ∧ ni e ≤ 54
  · rw [if_pos hB] at hs
    cases hs
    have ee : N (48 + (ni e - 48)) = e := by
      rw [show 48 + (ni e - 48) = ni e by omega]
      exact ni_pos (by omega)
    obtain ⟨b1, b2⟩ := ev_ball (n := n) (m := ni e - 48) h hok hi hk (by omega)
    rw [ee] at b1
    exact Res_arr b1 (Ra_pd (h24 _) hI hi (fun q j hq => by unfold own at hq; unfold uB; rw [up_c (by omega), up_c (by omega), up_ne (by omega), up_ne (by omega), up_ne (by omega)]) (uB_arr ((h24 _).pic hi) (by omega) (by omega)))
  rw [if_neg hB] at hs
  cases hs
theorem begins_arr (hT : TabAt σ 37 T) (hK : TabOK T) (hS : SetAt σ 36 S) (hSK : SetOK S) : Ra (s_X5_begins σ) (fun _ => bE T S) (fun _ _ _ => 0) := by
  have h2 := (begins_at hT hK hS hSK).2
  have b1 : bE T S 1 = 0 := rfl
  have b5 : bE T S 5 = 0 := rfl
  have key : ∀ i, i < 2 → RArr (s_X5_begins σ) i (bE T S) (fun _ _ => 0) := fun i hi => by
    unfold RArr
    rw [b1, b5]
    refine ⟨fun j hj => ?_, fun j hj => by omega, fun j hj => ?_, fun j hj => by omega, fun j hj => by omega⟩
    · rw [h2, if_pos (by omega)]; rfl
    · rw [h2, if_neg (by omega), if_pos (by omega)]; rfl
  exact ⟨key 0 (by decide), key 1 (by decide)⟩
end RaS
theorem goesTo6A {T S : Nat → Nat} {k : Nat} {y : mS} (hk : k ≤ 400) : ∀ (n j : Nat) (σ : sg_S) (x : mS), j ≤ k → k - j < n → RefAt σ T S x.1 x.2.1 x.2.2 → OK T (S 1) j x.1 x.2.1 x.2.2 → mrun T S (σ 39) (σ 40) j = some x → mrun T S (σ 39) (σ 40) k = some y → Ra σ x.2.2 (arun T S (σ 39) (σ 40) j) → Ra (s_X5_goesTo_l6 n σ (N k) (N j)) y.2.2 (arun T S (σ 39) (σ 40) k) := by
  intro n
  induction n with
  | zero => intro j σ x _ hn; omega
  | succ n ih =>
    intro j σ x hj hn hR hO hx hy hA
    by_cases e : j = k
    · subst e
      have hc : N j ≤ N j := Int32.le_refl _
      have exy : x = y := Option.some.inj (hx.symm.trans hy)
      subst exy
      have es : s_X5_goesTo_l6 (n + 1) σ (N j) (N j) = σ := by
        show s_X5_goesTo_b6 (s_X5_goesTo_l6 n) σ (N j) (N j) = _
        unfold s_X5_goesTo_b6
        rw [if_pos hc]
      rw [es]
      exact hA
    · have hc : ¬ N k ≤ N j := by
        rw [N_le (by omega) (by omega)]; omega
      obtain ⟨z, hz⟩ := mrun_le' hy (j := j + 1) (by omega)
      have hst := hz
      rw [mrun_some hx] at hst
      obtain ⟨g1, g2, g3, g4⟩ := goes_ok (y := z) hR hO (by omega) (show stp T (S 1) (x.1, x.2.1, x.2.2) (σ 39 j) (σ 40 j) = some z from hst)
      have gA := goes_arr (y := z) hR hO (by omega) (show stp T (S 1) (x.1, x.2.1, x.2.2) (σ 39 j) (σ 40 j) = some z from hst) hA
      have r39 := g4.row (q := 39) (by decide) (by decide)
      have r40 := g4.row (q := 40) (by decide) (by decide)
      have gA2 : Ra (s_X5_goes σ (σ 39 j) (σ 40 j)) z.2.2 (arun T S (σ 39) (σ 40) (j + 1)) := by
        rw [arun_s hx]; exact gA
      have i2 := ih (j + 1) (s_X5_goes σ (σ 39 j) (σ 40 j)) z (by omega) (by omega) g1 g2 (by rw [r39, r40]; exact hz) (by rw [r39, r40]; exact hy) (by rw [r39, r40]; exact gA2)
      rw [r39, r40] at i2
      have es : s_X5_goesTo_l6 (n + 1) σ (N k) (N j) = s_X5_goesTo_l6 n (s_X5_goes σ (σ 39 j) (σ 40 j)) (N k) (N (j + 1)) := by
        show s_X5_goesTo_b6 (s_X5_goesTo_l6 n) σ (N k) (N j) = _
        unfold s_X5_goesTo_b6
        rw [if_neg hc, ni_N (by omega), N_inc]
      rw [es]
      exact i2
theorem goesTo_arr {σ : sg_S} {T S : Nat → Nat} {k : Nat} {y : mS} (hT : TabAt σ 37 T) (hK : TabOK T) (hS : SetAt σ 36 S) (hSK : SetOK S) (hk : k ≤ 400) (hy : mrun T S (σ 39) (σ 40) k = some y) : Ra (s_X5_goesTo σ (N k)) y.2.2 (arun T S (σ 39) (σ 40) k) := by
  obtain ⟨b1, b2, b3, b4⟩ := begins_ok hT hK hS hSK
  have r39 := b4.row (q := 39) (by decide) (by decide)
  have r40 := b4.row (q := 40) (by decide) (by decide)
  have g2 := goesTo6A hk 600 0 (s_X5_begins σ) (begn T S) (by omega) (by omega) b2 b3 rfl (by rw [r39, r40]; exact hy) (begins_arr hT hK hS hSK)
  rw [r39, r40] at g2
  exact g2
end
section
/-! THE CLASS'S ROWS BETWEEN CALLS -/
def LA (σ : sg_S) (T S : Nat → Nat) (k : Nat) : Prop := ∃ x : mS, mrun T S (σ 33) (σ 34) k = some x ∧ Ca σ 7 x.2.2 (arun T S (σ 33) (σ 34) k)
def Zr (σ : sg_S) : Prop := Ca σ 7 (fun _ _ => 0) (fun _ _ _ => 0)
theorem LA_Z {σ : sg_S} {T S : Nat → Nat} (h : Zr σ) : LA σ T S 0 := ⟨begn T S, rfl, CArr_E h.1 (Nat.le_refl 0) (Nat.le_refl 0), CArr_E h.2 (Nat.le_refl 0) (Nat.le_refl 0)⟩
theorem empty_Z {σ : sg_S} : Zr (s_X4_emptyLog σ) := restart_Z (σ := sg_up σ 0 6 0) (c := 7)
section RowsS
variable {σ σ' : sg_S} {T S : Nat → Nat} {k t : Nat}
theorem LA_of (h : LA σ T S k) (hl : ∀ j, j < k → σ' 33 j = σ 33 j ∧ σ' 34 j = σ 34 j) (hs : ∀ q j, 9 ≤ q → q ≤ 19 → σ' q j = σ q j) : LA σ' T S k := by
  obtain ⟨x, hx, hA⟩ := h
  exact ⟨x, by rw [← hx]; exact mrun_congr k hl, by rw [arun_congr k hl]; exact Ca_fr hA (fun q j h1 h2 => hs q j h1 h2)⟩
theorem LA_fr (h : LA σ T S k) (hs : ∀ q j, (9 ≤ q ∧ q ≤ 19) ∨ q = 33 ∨ q = 34 → σ' q j = σ q j) : LA σ' T S k :=
  LA_of h (fun j _ => ⟨hs 33 j (by omega), hs 34 j (by omega)⟩) (fun q j h1 h2 => hs q j (by omega))
theorem LA_K (h : LA σ T S k) (hs : KSame σ σ') : LA σ' T S k := LA_fr h (fun q j hq => hs q j (by omega))
theorem LA_lo (h : LA σ T S k) (hs : LoS σ σ') : LA σ' T S k := LA_fr h (fun q j hq => hs q j (by omega))
theorem crec_arr {x y : mS} {e n : Int32} (h6 : σ 0 6 = N k) (hk : k < 400) (hA : CAt σ 7 T S x.1 x.2.1 x.2.2) (hx : mrun T S (σ 33) (σ 34) k = some x) (hs : stp T (S 1) x e n = some y) (hY : LA σ T S k) : LA (s_X4_record σ e n) T S (k + 1) := by
  obtain ⟨x', hx', hR⟩ := hY
  have ex : x' = x := Option.some.inj (hx'.symm.trans hx)
  subst ex
  have c2 := (crec_ok (y := y) h6 hk hA hx hs).2.1
  have e1 : (sg_up σ 33 k e) 0 6 = N k := by rw [up_c (by decide)]; exact h6
  have et : t_X4_record_1 σ e n = sg_up (sg_up (sg_up σ 33 k e) 34 k n) 0 6 (N (k + 1)) := by
    unfold t_X4_record_1 t_X4_record_0
    rw [h6, ni_N (by omega), e1, ni_N (by omega), up_c (by decide), e1, N_inc]
  have er : s_X4_record σ e n = s_X0_take (sg_up (sg_up (sg_up σ 33 k e) 34 k n) 0 6 (N (k + 1))) 7 e n := by
    unfold s_X4_record
    rw [h6, if_neg (N_nn (by omega)), if_pos (by exact g_lt (L := 400) hk (by decide)), et]
  have hA1 : CAt (sg_up (sg_up (sg_up σ 33 k e) 34 k n) 0 6 (N (k + 1))) 7 T S x'.1 x'.2.1 x'.2.2 := CAt_fr hA (fun q j hq => by
    rw [up_ne (by omega), up_ne (by omega), up_ne (by omega)])
  have hR1 : Ca (sg_up (sg_up (sg_up σ 33 k e) 34 k n) 0 6 (N (k + 1))) 7 x'.2.2 (arun T S (σ 33) (σ 34) k) := Ca_fr hR (fun q j h1 h2 => by
    rw [up_ne (by omega), up_ne (by omega), up_ne (by omega)])
  have hO := mrun_OK hA.2.1 hA.2.2.2.1 k x' hx
  have hs' : stp T (S 1) (x'.1, x'.2.1, x'.2.2) e n = some y := hs
  obtain ⟨t1, t2⟩ := take_ok (y := y) (by decide) hA1 hO (by omega) hs'
  have t3 := take_arr (y := y) (by decide) hA1 hO (by omega) hs' hR1
  have r33 := t2.row (q := 33) (by decide)
  have r34 := t2.row (q := 34) (by decide)
  have f33 : (sg_up (sg_up (sg_up σ 33 k e) 34 k n) 0 6 (N (k + 1))) 33 k = e := by rw [up_c (by decide), up_c (by decide), up_eq]
  have f34 : (sg_up (sg_up (sg_up σ 33 k e) 34 k n) 0 6 (N (k + 1))) 34 k = n := by rw [up_c (by decide), up_eq]
  have hcg : ∀ j, j < k → (sg_up (sg_up (sg_up σ 33 k e) 34 k n) 0 6 (N (k + 1))) 33 j = σ 33 j ∧ (sg_up (sg_up (sg_up σ 33 k e) 34 k n) 0 6 (N (k + 1))) 34 j = σ 34 j := fun j hj => ⟨by rw [up_c (by decide), up_c (by decide), up_k (by omega)], by rw [up_c (by decide), up_k (by omega), up_c (by decide)]⟩
  have hc : mrun T S ((sg_up (sg_up (sg_up σ 33 k e) 34 k n) 0 6 (N (k + 1))) 33) ((sg_up (sg_up (sg_up σ 33 k e) 34 k n) 0 6 (N (k + 1))) 34) k = some x' := by
    rw [← hx]; exact mrun_congr k hcg
  refine ⟨y, c2, ?_⟩
  rw [er, r33, r34, arun_s hc, f33, f34, arun_congr k hcg]
  exact t3
theorem cev_arr (h : CSt T S σ k) (hY : LA σ T S k) : ∃ k', k ≤ k' ∧ CSt T S (r_X4_readEvent σ).2 k' ∧ VSame k σ (r_X4_readEvent σ).2 ∧ LA (r_X4_readEvent σ).2 T S k' := by
  have h1 := CSt_K h (K_take (σ := σ))
  have y1 := LA_K hY (K_take (σ := σ))
  obtain ⟨a1, a2, x, a3, a4⟩ := id h1
  unfold r_X4_readEvent
  by_cases g1 : ¬ v_X4_isEvent (r_X3_takeByte σ).1 = 0
  · rw [if_pos g1]
    by_cases g2 : ¬ v_X4_canCome (r_X3_takeByte σ).2 (r_X3_takeByte σ).1 = 0
    · rw [if_pos g2]
      by_cases g3 : v_X4_bearsNumber (r_X3_takeByte σ).1 = 0
      · rw [if_pos g3]
        obtain ⟨c1, c2⟩ := cplay_can (n := 0) a1 a2 a4 a3 g1 g2 (fun z => absurd g3 z)
        obtain ⟨r1, r2⟩ := crec_st a1 c1 a4 a3 c2
        obtain ⟨y, hy⟩ := stp_some (T := T) (mean := S 1) c2
        exact ⟨k + 1, by omega, r1, K_take.v.tr r2, crec_arr a1 c1 a4 a3 hy y1⟩
      · rw [if_neg g3]
        have h2 := CSt_K h1 (K_num (σ := (r_X3_takeByte σ).2))
        have y2 := LA_K y1 (K_num (σ := (r_X3_takeByte σ).2))
        obtain ⟨b1, b2, x', b3, b4⟩ := id h2
        by_cases g4 : ¬ (r_X3_readNumber (r_X3_takeByte σ).2).1 = 0
        · rw [if_pos g4]
          by_cases g5 : ¬ v_X0_fits (r_X3_readNumber (r_X3_takeByte σ).2).2 7 (r_X3_takeByte σ).1 ((r_X3_readNumber (r_X3_takeByte σ).2).2 5 3) = 0
          · rw [if_pos g5]
            have hO := mrun_OK a4.2.1 a4.2.2.2.1 k x a3
            have g2' := (canCome_iff a1 a2 a4 hO.1 hO.2.1).mp g2
            have exx : x' = x := by
              rw [K_num.row (σ := (r_X3_takeByte σ).2) (q := 33) (by decide), K_num.row (σ := (r_X3_takeByte σ).2) (q := 34) (by decide)] at b3
              exact Option.some.inj (b3.symm.trans a3)
            subst exx
            obtain ⟨c1, c2⟩ := cplay_can (n := (r_X3_readNumber (r_X3_takeByte σ).2).2 5 3) b1 b2 b4 b3 g1 ((canCome_iff b1 b2 b4 hO.1 hO.2.1).mpr g2') (fun _ => g5)
            obtain ⟨r1, r2⟩ := crec_st b1 c1 b4 b3 c2
            obtain ⟨y, hy⟩ := stp_some (T := T) (mean := S 1) c2
            exact ⟨k + 1, by omega, r1, (K_take.tr K_num).v.tr r2, crec_arr b1 c1 b4 b3 hy y2⟩
          · rw [if_neg g5]; exact ⟨k, Nat.le_refl _, h2, (K_take.tr K_num).v, y2⟩
        · rw [if_neg g4]; exact ⟨k, Nat.le_refl _, h2, (K_take.tr K_num).v, y2⟩
    · rw [if_neg g2]; exact ⟨k, Nat.le_refl _, h1, K_take.v, y1⟩
  · rw [if_neg g1]; exact ⟨k, Nat.le_refl _, h1, K_take.v, y1⟩
theorem cev57_arr {k0 : Nat} {x0 : mS} (h : CSt T S σ k) (hY : LA σ T S k) (hk : k0 ≤ 400) (hx0 : mrun T S (σ 33) (σ 34) k0 = some x0) : ∃ k', CInv (r_X4_events_a57 σ (N k0)).2 T S k' 0 ∧ LA (r_X4_events_a57 σ (N k0)).2 T S k' := by
  unfold r_X4_events_a57
  by_cases g : (sg_up σ 5 1 0) 0 7 = 0
  · rw [if_pos g]
    dsimp only
    exact ⟨k, ⟨CSt_fr h (by rw [up_c (by decide)]) (fun j _ => ⟨by rw [up_c (by decide)], by rw [up_c (by decide)]⟩) (fun q j hq => by rw [up_c (by omega)]), up_eq, by decide⟩, LA_fr hY (fun q j hq => up_c (by omega))⟩
  · rw [if_neg g]
    obtain ⟨a1, a2, x, a3, a4⟩ := h
    have e33 : (sg_up (sg_up σ 5 1 0) 0 6 (N k0)) 33 = σ 33 := funext (fun j => by rw [up_c (by decide), up_c (by decide)])
    have e34 : (sg_up (sg_up σ 5 1 0) 0 6 (N k0)) 34 = σ 34 := funext (fun j => by rw [up_c (by decide), up_c (by decide)])
    have hT := TabAt_up (q' := 0) (k' := 6) (v := N k0) (TabAt_up (q' := 5) (k' := 1) (v := 0) a4.1 (by decide)) (by decide)
    have hS := SetAt_up (q' := 0) (k' := 6) (v := N k0) (SetAt_up (q' := 5) (k' := 1) (v := 0) a4.2.2.1 (by decide)) (by decide)
    obtain ⟨r1, r2⟩ := replay_ok (σ := sg_up (sg_up σ 5 1 0) 0 6 (N k0)) (c := 7) (y := x0) (by decide) (by decide) hT a4.2.1 hS a4.2.2.2.1 hk (by rw [e33, e34]; exact hx0)
    have r3 := replay_arr (σ := sg_up (sg_up σ 5 1 0) 0 6 (N k0)) (c := 7) (y := x0) (by decide) (by decide) hT a4.2.1 hS a4.2.2.2.1 hk (by rw [e33, e34]; exact hx0)
    have r33 := r2.row (q := 33) (by decide)
    have r34 := r2.row (q := 34) (by decide)
    dsimp only
    unfold t_X4_events_0
    refine ⟨k0, ⟨⟨?_, hk, x0, ?_, r1⟩, ?_, by decide⟩, x0, ?_, ?_⟩
    · rw [r2 0 6 (by decide), up_eq]
    · rw [r33, r34, e33, e34]; exact hx0
    · rw [r2 5 1 (by decide), up_c (by decide), up_eq]; rfl
    · rw [r33, r34, e33, e34]; exact hx0
    · rw [r33, r34]; exact r3
end RowsS
theorem cev19_arr {T S : Nat → Nat} {k0 : Nat} (hk0 : k0 ≤ 400) {x0 : mS} : ∀ (n j k : Nat) (σ : sg_S), j ≤ 500 → 500 - j < n → k0 ≤ k → CSt T S σ k → LA σ T S k → mrun T S (σ 33) (σ 34) k0 = some x0 → ∃ k', CInv (r_X4_events_l19 n σ (N k0) (N j)).2 T S k' 0 ∧ LA (r_X4_events_l19 n σ (N k0) (N j)).2 T S k' := by
  intro n
  induction n with
  | zero => intro j k σ _ hn; omega
  | succ n ih =>
    intro j k σ hj hn hk h hY hx0
    show ∃ k', CInv (r_X4_events_b19 (r_X4_events_l19 n) σ (N k0) (N j)).2 T S k' 0 ∧ LA (r_X4_events_b19 (r_X4_events_l19 n) σ (N k0) (N j)).2 T S k'
    unfold r_X4_events_b19
    by_cases e : j = 500
    · have hc : (500 : Int32) ≤ N j := (N14 (L := 500) hj (by decide)).mpr e
      rw [if_pos hc]
      exact cev57_arr h hY hk0 hx0
    have hc : ¬ (500 : Int32) ≤ N j := fun z => e ((N14 (L := 500) hj (by decide)).mp z)
    rw [if_neg hc]
    by_cases g1 : ¬ σ 0 7 = 0
    · rw [if_pos g1]; exact cev57_arr h hY hk0 hx0
    rw [if_neg g1]
    have h1 := CSt_K h (K_seek (σ := σ))
    have y1 := LA_K hY (K_seek (σ := σ))
    have hx1 : mrun T S ((r_X3_seek σ).2 33) ((r_X3_seek σ).2 34) k0 = some x0 := by
      rw [K_seek.row (σ := σ) (q := 33) (by decide), K_seek.row (σ := σ) (q := 34) (by decide)]; exact hx0
    by_cases g2 : (r_X3_seek σ).1 = 0
    · rw [if_pos g2]
      exact cev57_arr h1 y1 hk0 hx1
    rw [if_neg g2, N_inc]
    obtain ⟨k', v1, v2, v3, v4⟩ := cev_arr h1 y1
    have h3 : CSt T S (t_X4_events_1 σ (N k0) (N j)) k' := by
      unfold t_X4_events_1
      exact CSt_fr v2 (by rw [up_k (by decide)]) (fun i _ => ⟨by rw [up_c (by decide)], by rw [up_c (by decide)]⟩) (fun q i hq => by rw [up_c (by omega)])
    have y3 : LA (t_X4_events_1 σ (N k0) (N j)) T S k' := by
      unfold t_X4_events_1
      exact LA_fr v4 (fun q i hq => up_c (by omega))
    have hx3 : mrun T S ((t_X4_events_1 σ (N k0) (N j)) 33) ((t_X4_events_1 σ (N k0) (N j)) 34) k0 = some x0 := by
      rw [← hx1]
      refine mrun_congr k0 (fun i hi => ⟨?_, ?_⟩)
      · unfold t_X4_events_1
        rw [up_c (by decide)]
        exact v3 33 i (by decide) (by omega) (by omega) (by omega)
      · unfold t_X4_events_1
        rw [up_c (by decide)]
        exact v3 34 i (by decide) (by omega) (by omega) (by omega)
    exact ih (j + 1) k' (t_X4_events_1 σ (N k0) (N j)) (by omega) (by omega) (by omega) h3 y3 hx3
/-! BOTH IN STEP, with the rows -/
def Inv3 (σ : sg_S) : Prop := ∃ T S k t, LA σ T S k ∧ Cpl σ T S k t
section StepA
variable {σ : sg_S} {T S : Nat → Nat} {k t : Nat}
theorem LA_q {σ' : sg_S} (h : LA σ T S k) (hq : QSame σ σ') : LA σ' T S k := LA_lo h hq.lo
theorem LA_20 {σ' : sg_S} (h : LA σ T S k) (hs : CSame 20 σ σ') : LA σ' T S k := LA_fr h (fun q j hq => hs q j (by omega))
theorem LA_o {v : Int32} (h : LA σ T S k) : LA (sg_up σ 60 0 v) T S k := LA_fr h (fun q j hq => up_c (by omega))
theorem C_eventsA (h : CInv σ T S k t) (hY : LA σ T S k) : ∃ k', CInv (r_X4_events σ).2 T S k' 0 ∧ LA (r_X4_events σ).2 T S k' := by
  obtain ⟨hst, ht, h5⟩ := id h
  have h1 : CSt T S (s_X3_rewind (sg_up σ 0 7 0)) k := CSt_K (CSt_fr hst (by rw [up_k (by decide)]) (fun j _ => ⟨by rw [up_c (by decide)], by rw [up_c (by decide)]⟩) (fun q j hq => by rw [up_c (by omega)])) K_rewind
  have y1 : LA (s_X3_rewind (sg_up σ 0 7 0)) T S k := LA_K (LA_fr hY (fun q j hq => up_c (by omega))) K_rewind
  obtain ⟨b1, b2, x, b3, b4⟩ := id h1
  have h6 : σ 0 6 = N k := hst.1
  have i := cev19_arr (T := T) (S := S) (k0 := k) b2 (x0 := x) 600 0 k (s_X3_rewind (sg_up σ 0 7 0)) (by decide) (by decide) (Nat.le_refl _) h1 y1 b3
  unfold r_X4_events
  rw [h6]
  exact i
theorem CInv_k {T' S' : Nat → Nat} {k' t' : Nat} (h : CInv σ T S k t) (h' : CInv σ T' S' k' t') : k = k' :=
  (N_eq (by have := h.1.2.1; omega) (by have := h'.1.2.1; omega)).mp (h.1.1.symm.trans h'.1.1)
theorem cplA_feed {x0 x1 x2 x3 x4 : Int32} (h : Cpl σ T S k t) (hY : LA σ T S k) : (r_X4_feed σ x0 x1 x2 x3 x4).1 = (r_X5_feed (r_X4_feed σ x0 x1 x2 x3 x4).2 x0 x1 x2 x3 x4).1 ∧ p_X5_feed (r_X4_feed σ x0 x1 x2 x3 x4).2 x0 x1 x2 x3 x4 ∧ Inv3 (r_X5_feed (r_X4_feed σ x0 x1 x2 x3 x4).2 x0 x1 x2 x3 x4).2 := by
  obtain ⟨hc, hr, hT, hL, hF⟩ := h
  have hA := (C_feed (x0 := x0) (x1 := x1) (x2 := x2) (x3 := x3) (x4 := x4) hc).2.2
  have hr2 := RInv_hi hr hA.hi
  obtain ⟨b0, -, -, hB⟩ := R_feed (x0 := x0) (x1 := x1) (x2 := x2) (x3 := x3) (x4 := x4) hr2
  obtain ⟨e, t', c1, r1, t1⟩ := both_feed (x0 := x0) (x1 := x1) (x2 := x2) (x3 := x3) (x4 := x4) hc hr2 hA.hi rfl hT
  refine ⟨e, b0, T, S, k, t', LA_lo (LA_fr hY (fun q j hq => hA q j (by omega) (by omega))) hB.lo, CInv_lo c1 hB.lo, r1, t1, Lg_fr hL (fun j => (hB 39 j (by decide) (by omega)).trans (hA 39 j (by decide) (by omega))) (fun j => (hB 40 j (by decide) (by omega)).trans (hA 40 j (by decide) (by omega))) (fun j => (hB 33 j (by decide) (by omega)).trans (hA 33 j (by decide) (by omega))) (fun j => (hB 34 j (by decide) (by omega)).trans (hA 34 j (by decide) (by omega))), ?_⟩
  rw [hB 35 27 (by decide) (by decide), hA 35 27 (by decide) (by decide), hB 0 7 (by decide) (by decide), hA 0 7 (by decide) (by decide)]; exact hF
theorem cplA_end {n : Int32} (h : Cpl σ T S k t) (hY : LA σ T S k) : (r_X4_end σ n).1 = (r_X5_end (r_X4_end σ n).2 n).1 ∧ Inv3 (r_X5_end (r_X4_end σ n).2 n).2 := by
  obtain ⟨hc, hr, hT, hL, hF⟩ := h
  have hA := (C_end (n := n) hc).2.2.1
  have hr2 := RInv_hi hr hA.hi
  have hB := (R_end (n := n) hr2).2.2.1
  obtain ⟨e, t', c1, r1, t1⟩ := both_end (n := n) hc hr2 hA.hi rfl hT
  refine ⟨e, T, S, k, t', LA_lo (LA_fr hY (fun q j hq => hA q j (by omega) (by omega))) hB.lo, CInv_lo c1 hB.lo, r1, t1, Lg_fr hL (fun j => (hB 39 j (by decide) (by omega)).trans (hA 39 j (by decide) (by omega))) (fun j => (hB 40 j (by decide) (by omega)).trans (hA 40 j (by decide) (by omega))) (fun j => (hB 33 j (by decide) (by omega)).trans (hA 33 j (by decide) (by omega))) (fun j => (hB 34 j (by decide) (by omega)).trans (hA 34 j (by decide) (by omega))), ?_⟩
  rw [hB 35 27 (by decide) (by decide), hA 35 27 (by decide) (by decide), hB 0 7 (by decide) (by decide), hA 0 7 (by decide) (by decide)]; exact hF
theorem tab_rows (h : CInv σ T S k t) (hY : LA σ T S k) : ((r_X4_table σ).2 0 7 = 0 → Zr (r_X4_table σ).2) ∧ (∀ k' t' T' S', CInv (r_X4_table σ).2 T' S' k' t' → k' = k → LA (r_X4_table σ).2 T S k) := by
  obtain ⟨⟨a1, a2, x, a3, a4⟩, ht, h5⟩ := id h
  obtain ⟨r1, V0, r2, r3⟩ := ctab_ok h5 ht a4.1 a4.2.1
  have hS1 : ∀ q j, ¬ q = 3 → ¬ (q = 5 ∧ 1 ≤ j ∧ j ≤ 4) → ¬ (q = 0 ∧ (j = 7 ∨ j = 8)) → (sg_up (t_X4_table_0 σ) 5 1 0) q j = σ q j := fun q j h1 h2 h3 => by
    unfold t_X4_table_0
    rw [up_ne (by omega), up_ne (by omega), r1 q j h1 (by omega) h3]
  unfold r_X4_table
  by_cases g : (sg_up (t_X4_table_0 σ) 5 1 0) 0 7 = 0
  · rw [if_pos g]
    dsimp only
    refine ⟨fun _ => empty_Z, fun k' t' T' S' hc he => ?_⟩
    have z6 : (s_X4_emptyLog (t_X4_table_1 σ)) 0 6 = N 0 := by
      have hc1 := hc.1.2.2
      obtain ⟨x1, -, hC⟩ := hc1
      show s_X0_restart (sg_up (t_X4_table_1 σ) 0 6 0) 7 0 6 = N 0
      show t_X0_restart_2 (sg_up (t_X4_table_1 σ) 0 6 0) 7 0 6 = N 0
      unfold t_X0_restart_2 t_X0_restart_1
      rw [up_c (by decide), up_c (by decide), restart_at, if_neg (by omega), if_neg (by omega), if_neg (by omega)]
      unfold t_X0_restart_0
      rw [restart_at, if_neg (by omega), if_neg (by omega), if_neg (by omega), up_eq]
      rfl
    have k0 : k' = 0 := (N_eq (by have := hc.1.2.1; omega) (by decide)).mp (hc.1.1.symm.trans z6)
    have e0 : k = 0 := he.symm.trans k0
    subst e0
    exact LA_Z empty_Z
  · rw [if_neg g]
    dsimp only
    exact ⟨fun w => absurd w g, fun _ _ _ _ _ _ => LA_fr hY (fun q j hq => hS1 q j (by omega) (by omega) (by omega))⟩
theorem cplA_table (h : Cpl σ T S k t) (hY : LA σ T S k) : (r_X4_table σ).1 = (r_X5_table (r_X4_table σ).2).1 ∧ p_X5_table (r_X4_table σ).2 ∧ Inv3 (r_X5_table (r_X4_table σ).2).2 := by
  obtain ⟨hc, hr, hT, hL, hF⟩ := h
  have c4 := (C_table hc).2
  have hr2 := RInv_hi hr c4
  obtain ⟨b0, -, b6⟩ := R_table hr2
  obtain ⟨w1, w2⟩ := tab_rows hc hY
  rcases both_table hc hr2 c4 hT with ⟨V, r, u1, u2, u3, u4, u5, u6⟩ | ⟨f, u1, u2, u3, u4, u5, u6⟩
  · exact ⟨u1.trans u2.symm, b0, V, S, 0, 0, LA_lo (LA_Z (w1 u5)) b6, CInv_lo u3 b6, u4, Tape_0, Lg_0, u6.trans (by rw [b6 0 7 (by decide)]; exact u5.symm)⟩
  · refine ⟨u1.trans u2.symm, b0, T, S, k, 0, LA_lo (w2 _ _ _ _ u3 rfl) b6, CInv_lo u3 b6, u4, Tape_0, ?_, u6.trans (by rw [b6 0 7 (by decide)]; exact u5.symm)⟩
    exact Lg_tab hc hr2 c4 b6 hL
theorem cplA_events (h : Cpl σ T S k t) (hY : LA σ T S k) : (r_X4_events σ).1 = (r_X5_events (r_X4_events σ).2).1 ∧ p_X5_events (r_X4_events σ).2 ∧ Inv3 (r_X5_events (r_X4_events σ).2).2 := by
  obtain ⟨hc, hr, hT, hL, hF⟩ := h
  have c4 := (C_events hc).2
  have hr2 := RInv_hi hr c4
  obtain ⟨b0, -, b6⟩ := R_events hr2
  obtain ⟨k', w1, w2⟩ := C_eventsA hc hY
  have hl : ∀ m, (∀ j, j < m → (r_X5_events (r_X4_events σ).2).2 39 j = (r_X4_events σ).2 33 j ∧ (r_X5_events (r_X4_events σ).2).2 40 j = (r_X4_events σ).2 34 j) → Lg (r_X5_events (r_X4_events σ).2).2 m := fun m hm j hj => by
    rw [b6 33 j (by decide), b6 34 j (by decide)]; exact hm j hj
  rcases both_events hc hr2 c4 hT hL with ⟨c, u1, u2, u3, u4, u5, u6, u7⟩ | ⟨f, u1, u2, u3, u4, u5, u6, u7⟩
  · have ek := CInv_k w1 u3
    rw [ek] at w2
    exact ⟨u1.trans u2.symm, b0, T, S, k + c, 0, LA_lo w2 b6, CInv_lo u3 b6, u4, Tape_0, hl _ u7, u6.trans (by rw [b6 0 7 (by decide)]; exact u5.symm)⟩
  · have ek := CInv_k w1 u3
    rw [ek] at w2
    exact ⟨u1.trans u2.symm, b0, T, S, k, 0, LA_lo w2 b6, CInv_lo u3 b6, u4, Tape_0, hl _ u7, u6.trans (by rw [b6 0 7 (by decide)]; exact u5.symm)⟩
theorem set_Z {x0 x1 : Int32} (h : (r_X4_set σ x0 x1).1 = 1) : Zr (r_X4_set σ x0 x1).2 := by
  unfold r_X4_set at h ⊢
  by_cases g1 : v_X2_allows σ x0 x1 = 0
  · rw [if_pos g1] at h
    exact absurd (show (0 : Int32) = 1 from h) (by decide)
  rw [if_neg g1] at h ⊢
  by_cases g2 : ¬ v_X2_setting σ x0 = x1
  · rw [if_pos g2]; exact empty_Z
  · rw [if_neg g2] at h
    exact absurd (show (0 : Int32) = 1 from h) (by decide)
theorem cplA_set {x0 x1 : Int32} (h : Cpl σ T S k t) (hY : LA σ T S k) : (r_X4_set σ x0 x1).1 = (r_X5_set (r_X4_set σ x0 x1).2 x0 x1).1 ∧ p_X5_set (r_X4_set σ x0 x1).2 x0 x1 ∧ Inv3 (r_X5_set (r_X4_set σ x0 x1).2 x0 x1).2 := by
  obtain ⟨hc, hr, hT, hL, hF⟩ := id h
  by_cases g : ∃ s v, x0 = N s ∧ x1 = N v ∧ setC S s v
  · obtain ⟨s, v, rfl, rfl, hs⟩ := g
    obtain ⟨c1, c2, c3, -, c5⟩ := C_setY hc hs
    have hr2 := RInv_hi hr c3
    have b0 := (R_set (x0 := N s) (x1 := N v) hr2).1
    obtain ⟨r1, r2, r3⟩ := R_setY hr2 hs
    have lo : LoS (r_X4_set σ (N s) (N v)).2 (r_X5_set (r_X4_set σ (N s) (N v)).2 (N s) (N v)).2 := fun q j hq => r3 q j (by omega) (by omega)
    refine ⟨c1.trans r1.symm, b0, T, du S s v, 0, t, LA_lo (LA_Z (set_Z c1)) lo, CInv_lo c2 lo, r2, Tape_fr hT (Nat.le_refl _) (fun j => (r3 57 j (by omega) (by decide)).trans (c3 57 j (by decide))) (fun j => (r3 6 j (by omega) (by decide)).trans (c5 6 j (by decide) (by omega) (by decide))), Lg_0, ?_⟩
    rw [r3 35 27 (by decide) (by decide), c3 35 27 (by decide), r3 0 7 (by decide) (by decide), c5 0 7 (by decide) (by decide) (by decide)]; exact hF
  · have c := C_setN hc g
    rw [c]
    dsimp only
    have r := R_setN hr g
    have b0 := (R_set (x0 := x0) (x1 := x1) hr).1
    refine ⟨by rw [r], b0, T, S, k, t, ?_, ?_⟩
    · rw [r]
      dsimp only
      exact LA_q hY QSame_0
    · rw [r]
      dsimp only
      exact Cpl_q h QSame_0
theorem cplA_clear (h : Cpl σ T S k t) (hY : LA σ T S k) : (r_X4_clear σ).1 = (r_X5_clear (r_X4_clear σ).2).1 ∧ Inv3 (r_X5_clear (r_X4_clear σ).2).2 := by
  obtain ⟨hc, hr, hT, hL, hF⟩ := id h
  obtain ⟨c1, c2⟩ := C_clear hc
  have hr2 := RInv_hi hr c2
  obtain ⟨r1, r2⟩ := R_clear hr2
  have hR : ∀ q j, ¬ (q = 35 ∧ (j = 0 ∨ j = 6)) → (r_X5_clear (r_X4_clear σ).2).2 q j = (r_X4_clear σ).2 q j := fun q j hq => by
    generalize (r_X4_clear σ).2 = G
    unfold r_X5_clear t_X5_clear_0
    dsimp only
    rw [up_ne (by omega), up_ne (by omega)]
  have hz : Zr (r_X4_clear σ).2 := empty_Z (σ := σ)
  refine ⟨?_, T, S, 0, t, LA_lo (LA_Z hz) r2, CInv_lo c1 r2, r1, Tape_fr hT (Nat.le_refl _) (fun j => (hR 57 j (by omega)).trans (c2 57 j (by decide))) (fun j => (hR 6 j (by omega)).trans (Cf_clear hc (by decide) (by omega))), Lg_0, ?_⟩
  · have e4 : (r_X4_clear σ).1 = σ 0 6 := rfl
    have e5 : (r_X5_clear (r_X4_clear σ).2).1 = (r_X4_clear σ).2 35 6 := by
      generalize (r_X4_clear σ).2 = G
      unfold r_X5_clear
      dsimp only
      rw [up_k (by decide)]
    rw [e4, e5, hr2.2.2.2.2.1]
    exact hc.1.1
  · rw [hR 35 27 (by decide), c2 35 27 (by decide), hR 0 7 (by decide), Cf_clear hc (by decide) (by decide)]; exact hF
theorem back_arr (h : CInv σ T S (k + 1) t) : LA (r_X4_back σ).2 T S k := by
  obtain ⟨⟨a1, a2, x, a3, a4⟩, ht, h5⟩ := id h
  obtain ⟨y, hy⟩ := mrun_le' a3 (j := k) (by omega)
  have e1 : σ 0 6 - 1 = N k := by rw [a1]; exact N_sub (b := 1) (by omega)
  have e33 : (sg_up σ 0 6 (N k)) 33 = σ 33 := funext (fun j => by rw [up_c (by decide)])
  have e34 : (sg_up σ 0 6 (N k)) 34 = σ 34 := funext (fun j => by rw [up_c (by decide)])
  have et : t_X4_back_0 σ = s_X4_replay (sg_up σ 0 6 (N k)) 7 (N k) := by
    unfold t_X4_back_0
    rw [e1, up_eq]
  have hT := TabAt_up (q' := 0) (k' := 6) (v := N k) a4.1 (by decide)
  have hS := SetAt_up (q' := 0) (k' := 6) (v := N k) a4.2.2.1 (by decide)
  obtain ⟨r1, r2⟩ := replay_ok (σ := sg_up σ 0 6 (N k)) (c := 7) (y := y) (by decide) (by decide) hT a4.2.1 hS a4.2.2.2.1 (show k ≤ 400 by omega) (by rw [e33, e34]; exact hy)
  have r3 := replay_arr (σ := sg_up σ 0 6 (N k)) (c := 7) (y := y) (by decide) (by decide) hT a4.2.1 hS a4.2.2.2.1 (show k ≤ 400 by omega) (by rw [e33, e34]; exact hy)
  have g : (0 : Int32) < σ 0 6 := by
    rw [a1]
    exact g_lt (a := 0) (by omega) (by omega)
  unfold r_X4_back
  rw [if_pos g, et]
  dsimp only
  refine ⟨y, ?_, ?_⟩
  · rw [r2.row (q := 33) (by decide), r2.row (q := 34) (by decide), e33, e34]; exact hy
  · rw [r2.row (q := 33) (by decide), r2.row (q := 34) (by decide)]; exact r3
theorem cplA_back (h : Cpl σ T S k t) (hY : LA σ T S k) : (r_X4_back σ).1 = (r_X5_back (r_X4_back σ).2).1 ∧ Inv3 (r_X5_back (r_X4_back σ).2).2 := by
  obtain ⟨hc, hr, hT, hL, hF⟩ := id h
  cases k with
  | zero =>
    rw [C_backN hc]
    dsimp only
    rw [R_backN hr]
    dsimp only
    exact ⟨rfl, T, S, 0, t, LA_q hY QSame_0, Cpl_q h QSame_0⟩
  | succ k =>
    obtain ⟨c1, c2, c3⟩ := C_backY hc
    have hhi : HiS σ (r_X4_back σ).2 := fun q j hq => c3 q j (by omega) (by omega)
    have hr2 := RInv_hi hr hhi
    obtain ⟨r1, r2⟩ := R_backY hr2
    have hB : ∀ q j, ¬ (q = 35 ∧ (j = 0 ∨ j = 6)) → (sg_up (sg_up (r_X4_back σ).2 35 0 0) 35 6 (N k)) q j = (r_X4_back σ).2 q j := fun q j hq => by rw [up_ne (by omega), up_ne (by omega)]
    rw [r1]
    dsimp only
    refine ⟨c1, T, S, k, t, LA_fr (back_arr hc) (fun q j hq => hB q j (by omega)), CInv_lo c2 (fun q j hq => hB q j (by omega)), r2, Tape_fr hT (Nat.le_refl _) (fun j => (hB 57 j (by omega)).trans (hhi 57 j (by decide))) (fun j => (hB 6 j (by omega)).trans (c3 6 j (by decide) (by omega))), fun j hj => ?_, ?_⟩
    · rw [hB 39 j (by omega), hB 40 j (by omega), hB 33 j (by omega), hB 34 j (by omega), hhi 39 j (by decide), hhi 40 j (by decide), c3 33 j (by decide) (by omega), c3 34 j (by decide) (by omega)]; exact hL j (by omega)
    · rw [hB 35 27 (by decide), hhi 35 27 (by decide), hB 0 7 (by decide), c3 0 7 (by decide) (by decide)]; exact hF
theorem cplA_play {x0 x1 : Int32} (h : Cpl σ T S k t) (hY : LA σ T S k) : (r_X4_play σ x0 x1).1 = (r_X5_play (r_X4_play σ x0 x1).2 x0 x1).1 ∧ p_X5_play (r_X4_play σ x0 x1).2 x0 x1 ∧ Inv3 (r_X5_play (r_X4_play σ x0 x1).2 x0 x1).2 := by
  obtain ⟨hc, hr, hT, hL, hF⟩ := id h
  obtain ⟨⟨a1, a2, x, a3, a4⟩, ht, h5⟩ := id hc
  have hxr : mrun T S (σ 39) (σ 40) k = some x := by rw [← a3]; exact mrun_congr k hL
  by_cases g : k < 400 ∧ canS x.1 x.2.1 x.2.2 x0 x1
  · obtain ⟨c1, c2, c3, c4, c5⟩ := C_playY hc a3 g
    obtain ⟨y, hy⟩ := stp_some (T := T) (mean := S 1) g.2
    have cA : LA (s_X4_record σ x0 x1) T S (k + 1) := crec_arr a1 g.1 a4 a3 hy hY
    rw [c1]
    dsimp only
    have hhi : HiS σ (s_X4_record σ x0 x1) := fun q j hq => c5 q j (by omega) (by omega) (by omega)
    have hr2 := RInv_hi hr hhi
    have hx2 : mrun T S ((s_X4_record σ x0 x1) 39) ((s_X4_record σ x0 x1) 40) k = some x := by
      rw [← hxr]; exact mrun_congr k (fun j _ => ⟨hhi 39 j (by decide), hhi 40 j (by decide)⟩)
    obtain ⟨r1, r2, r3, r4, r5⟩ := R_playY hr2 hx2 g
    have b0 := (R_play (x0 := x0) (x1 := x1) hr2).1
    refine ⟨r1.symm, b0, T, S, k + 1, t, LA_fr cA (fun q j hq => r5 q j (by omega) (by omega) (by omega)), CInv_lo c2 (fun q j hq => r5 q j (by omega) (by omega) (by omega)), r2, Tape_fr hT (Nat.le_refl _) (fun j => (r5 57 j (by decide) (by omega) (by omega)).trans (hhi 57 j (by decide))) (fun j => (r5 6 j (by decide) (by omega) (by omega)).trans (c5 6 j (by decide) (by omega) (by omega))), fun j hj => ?_, ?_⟩
    · rw [r5 33 j (by decide) (by omega) (by omega), r5 34 j (by decide) (by omega) (by omega)]
      by_cases e : j = k
      · subst e
        exact ⟨r3.trans c3.symm, r4.trans c4.symm⟩
      · rw [r5 39 j (by decide) (by omega) (by omega), r5 40 j (by decide) (by omega) (by omega), hhi 39 j (by decide), hhi 40 j (by decide), c5 33 j (by decide) (by omega) (by omega), c5 34 j (by decide) (by omega) (by omega)]
        exact hL j (by omega)
    · rw [r5 35 27 (by decide) (by decide) (by omega), hhi 35 27 (by decide), r5 0 7 (by decide) (by decide) (by omega), c5 0 7 (by decide) (by decide) (by omega)]; exact hF
  · rw [C_playN hc a3 g]
    dsimp only
    obtain ⟨r1, r2⟩ := R_playN hr hxr g
    exact ⟨r1.symm, (R_play (x0 := x0) (x1 := x1) hr).1, T, S, k, t, LA_q hY r2, Cpl_q h r2⟩
end StepA
end
section
/-! QUESTIONS TO THE ROWS: both -/
section AOKs
variable {T S : Nat → Nat} {k : Nat}
/-- what is known of the rows' numbers -/
def AOK (k : Nat) (D : Nat → Nat → Nat) (A : Nat → aI) : Prop := ∀ i, i < 2 → (∀ j, j < D i 1 → A i 3 j ≤ D i 0) ∧ (D i 1 = 10 → A i 3 9 = D i 0) ∧ (∀ b j, b = 0 ∨ b = 2 → A i b j ≤ 6 * k)
theorem AOK_pd {D : Nat → Nat → Nat} {A : Nat → aI} {i : Nat} {E : Nat → Nat} {B : aI} (h : AOK k D A) (h1 : ∀ j, j < E 1 → B 3 j ≤ E 0) (h2 : E 1 = 10 → B 3 9 = E 0) (h3 : ∀ b j, b = 0 ∨ b = 2 → B b j ≤ 6 * (k + 1)) : AOK (k + 1) (pd D i E) (pdA A i B) := by
  intro j hj
  by_cases e : j = i
  · subst e
    rw [pd_eq, pdA_eq]
    exact ⟨h1, h2, h3⟩
  · rw [pd_ne e, pdA_ne e]
    obtain ⟨a, b, c⟩ := h j hj
    exact ⟨a, b, fun b j hb => by have := c b j hb; omega⟩
theorem astp_ok {mean i t : Nat} {D : Nat → Nat → Nat} {A : Nat → aI} {e n : Int32} {y : mS} (hok : OK T mean k i t D) (hs : stp T mean (i, t, D) e n = some y) (h : AOK k D A) : AOK (k + 1) y.2.2 (astp T (i, t, D) A e n) := by
  obtain ⟨o1, o2, o3, o4, o5, o6, o7⟩ := id hok
  unfold stp at hs
  unfold astp
  dsimp only at hs ⊢
  by_cases he : e = 100
  · rw [if_pos he] at hs ⊢
    by_cases hd : (i = 0 ∨ i = 1 ∧ t = 0) ∧ 1 ≤ ni n ∧ ni n < D 1 3
    · rw [if_pos hd] at hs
      cases hs
      dsimp only
      obtain ⟨a, b, c⟩ := h 1 (by decide)
      have f0 : eD T (D 1) (ni n) 0 = D 1 0 := by unfold eD; simp (decide := true) only [du_ne]
      have f1 : eD T (D 1) (ni n) 1 = D 1 1 := by unfold eD; simp (decide := true) only [du_ne]
      rw [← pdA_self (A := A) (i := 1)]
      exact AOK_pd h (by rw [f0, f1]; exact a) (by rw [f0, f1]; exact b) (fun b j hb => by have := c b j hb; omega)
    · rw [if_neg hd] at hs; cases hs
  rw [if_neg he] at hs ⊢
  by_cases h2 : 2 ≤ i
  · rw [if_pos h2] at hs; cases hs
  rw [if_neg h2] at hs
  have hi : i < 2 := by omega
  obtain ⟨l1, l2, l3⟩ := o5 i hi (Nat.le_refl i)
  obtain ⟨a, b, c⟩ := h i hi
  by_cases h99 : e = 99
  · rw [if_pos h99] at hs ⊢
    by_cases hd : 1 ≤ ni n ∧ ni n < D i 3 ∧ D i 2 ≤ 6 * ni n
    · rw [if_pos hd] at hs
      cases hs
      have f0 : eC T (D i) (ni n) 0 = D i 0 := by unfold eC; simp (decide := true) only [du_ne]
      have f1 : eC T (D i) (ni n) 1 = D i 1 := by unfold eC; simp (decide := true) only [du_ne]
      have g : ∀ b j took, ¬ b = 1 → aC (A i) (D i) (ni n) took b j = A i b j := fun b j took hb => by
        unfold aC
        rw [au_ite, au_ite, au_ite, au_ite, au_ite, if_neg (by omega), if_neg (by omega), if_neg (by omega), if_neg (by omega), if_neg (by omega)]
      refine AOK_pd h (fun j hj => ?_) (fun hw => ?_) (fun b j hb => ?_)
      · rw [f1] at hj; rw [g 3 j _ (by decide), f0]; exact a j hj
      · rw [f1] at hw; omega
      · rw [g b j _ (by omega)]; have := c b j hb; omega
    · rw [if_neg hd] at hs; cases hs
  rw [if_neg h99] at hs ⊢
  by_cases h47 : e = 47
  · rw [if_pos h47] at hs ⊢
    cases hs
    have f0 : eS T (D i) 0 = D i 0 := by unfold eS; simp (decide := true) only [du_ne]
    have f1 : eS T (D i) 1 = D i 1 := by unfold eS; simp (decide := true) only [du_ne]
    rw [← pdA_self (A := A) (i := i)]
    exact AOK_pd h (by rw [f0, f1]; exact a) (by rw [f0, f1]; exact b) (fun b j hb => by have := c b j hb; omega)
  rw [if_neg h47] at hs ⊢
  by_cases hE : e = 119 ∨ e = 110
  · rw [if_pos hE] at hs ⊢
    cases hs
    have f0 : eE (D i) 0 = D i 0 + 1 := by unfold eE; simp (decide := true) only [du_ne, du_eq]
    have f1 : eE (D i) 1 = D i 1 := by unfold eE; simp (decide := true) only [du_ne]
    refine AOK_pd h (fun j hj => ?_) (fun hw => ?_) (fun b j hb => ?_)
    · rw [f1] at hj
      have := a j hj
      rw [f0]
      unfold aE
      rw [au_ite, if_neg (by omega)]
      omega
    · rw [f1] at hw; omega
    · have c1 := c b j hb
      have c2 := c 0 (3 * (D i 2 / 6) + 0) (Or.inl rfl)
      unfold aE
      rw [au_ite]
      split
      · omega
      · omega
  rw [if_neg hE] at hs ⊢
  have hB3 : ∀ (B : aI) (m j : Nat), aB B (D i) m 3 j = B 3 j := fun B m j => by
    unfold aB
    rw [au_ite, au_ite, au_ite, if_neg (by omega), if_neg (by omega), if_neg (by omega)]
  have hBb : ∀ (B : aI) (m q b j : Nat), m ≤ 6 → (∀ b j, b = 0 ∨ b = 2 → B b j ≤ q) → b = 0 ∨ b = 2 → aB B (D i) m b j ≤ q + 6 := fun B m q b j hm hq hb => by
    have c1 := hq b j hb
    have c2 := hq 0 (3 * (D i 2 / 6) + 0) (Or.inl rfl)
    have c3 := hq 0 (3 * (D i 2 / 6) + 2) (Or.inl rfl)
    have c4 := hq 2 m (Or.inr rfl)
    unfold aB
    rw [au_ite, au_ite, au_ite]
    repeat' split
    all_goals omega
  by_cases hX : e = 120
  · rw [if_pos hX] at hs ⊢
    cases hs
    have f0 : eX (D i) 0 = D i 0 := by unfold eX; simp (decide := true) only [du_ne]
    have f1 : eX (D i) 1 = D i 1 + 1 := by unfold eX; simp (decide := true) only [du_ne, du_eq]
    have hX3 : ∀ j, aX (A i) (D i) 3 j = if j = D i 1 then D i 0 else A i 3 j := fun j => by
      unfold aX
      rw [au_ite, au_ite, if_neg (show ¬ (3 = 4 ∧ j = D i 1) by omega), hB3, au_ite, if_neg (show ¬ (3 = 0 ∧ j = 3 * (D i 2 / 6) + 1) by omega)]
      by_cases ej : j = D i 1
      · rw [if_pos ⟨rfl, ej⟩, if_pos ej]
      · rw [if_neg (fun w => ej w.2), if_neg ej]
    refine AOK_pd h (fun j hj => ?_) (fun hw => ?_) (fun b j hb => ?_)
    · rw [f1] at hj
      rw [f0, hX3]
      by_cases ej : j = D i 1
      · rw [if_pos ej]; exact Nat.le_refl _
      · rw [if_neg ej]; exact a j (by omega)
    · rw [f1] at hw
      rw [f0, hX3, if_pos (by omega)]
    · have hq : ∀ b j, b = 0 ∨ b = 2 → (au (A i) 0 (3 * (D i 2 / 6) + 1) (A i 0 (3 * (D i 2 / 6) + 1) + 1)) b j ≤ 6 * k + 1 := fun b j hb => by
        have c1 := c b j hb
        have c2 := c 0 (3 * (D i 2 / 6) + 1) (Or.inl rfl)
        rw [au_ite]
        split
        · omega
        · omega
      have hz : aX (A i) (D i) b j ≤ 6 * k + 2 := by
        have c1 := hq b j hb
        have c2 := hq 0 (3 * (D i 2 / 6) + 0) (Or.inl rfl)
        have c3 := hq 0 (3 * (D i 2 / 6) + 2) (Or.inl rfl)
        have c4 := hq 2 0 (Or.inr rfl)
        unfold aX
        rw [au_ite, au_ite, if_neg (by omega), if_neg (by omega)]
        generalize au (A i) 0 (3 * (D i 2 / 6) + 1) (A i 0 (3 * (D i 2 / 6) + 1) + 1) = B at *
        unfold aB
        rw [au_ite, au_ite, au_ite]
        repeat' split
        all_goals omega
      omega
  rw [if_neg hX] at hs ⊢
  by_cases hB : 48 ≤ ni e ∧ ni e ≤ 54
  · rw [if_pos hB] at hs
    cases hs
    have f0 : eB (D i) (ni e - 48) 0 = D i 0 + (ni e - 48) := by unfold eB; simp (decide := true) only [du_ne, du_eq]
    have f1 : eB (D i) (ni e - 48) 1 = D i 1 := by unfold eB; simp (decide := true) only [du_ne]
    refine AOK_pd h (fun j hj => ?_) (fun hw => ?_) (fun b j hb => ?_)
    · rw [f1] at hj
      have := a j hj
      rw [f0, hB3]
      omega
    · rw [f1] at hw; omega
    · have := hBb (A i) (ni e - 48) (6 * k) b j (by omega) c hb
      omega
  rw [if_neg hB] at hs
  cases hs
theorem arun_ok {ev nu : Nat → Int32} (hK : TabOK T) (hSK : SetOK S) : ∀ (k : Nat) (x : mS), mrun T S ev nu k = some x → AOK k x.2.2 (arun T S ev nu k) := by
  intro k
  induction k with
  | zero =>
    intro x hx
    cases hx
    intro i hi
    exact ⟨fun j hj => absurd hj (Nat.not_lt_zero j), fun w => absurd (show (0 : Nat) = 10 from w) (by decide), fun b j hb => Nat.le_refl 0⟩
  | succ k ih =>
    intro x hx
    obtain ⟨y, hy, hs⟩ := mrun_pre hx
    rw [arun_s hy]
    exact astp_ok (mrun_OK hK hSK k y hy) (show stp T (S 1) (y.1, y.2.1, y.2.2) (ev k) (nu k) = some x from hs) (ih y hy)
end AOKs
theorem m1_nleB {r : Nat} (h : r < 1000000) : ¬ N r ≤ (-1 : Int32) := by
  rw [Int32.le_iff_toInt_le, N_toInt (by omega), show (-1 : Int32).toInt = -1 from rfl]
  omega
section RowQ
variable {σ τ : sg_S} {T S : Nat → Nat} {k t : Nat}
theorem Rows_at (hY : LA σ T S k) (h : Cpl σ T S k t) (hτ : RInv τ T S k t) (h39 : τ 39 = σ 39) (h40 : τ 40 = σ 40) : ∃ (x : mS) (A : Nat → aI), CAt σ 7 T S x.1 x.2.1 x.2.2 ∧ OK T (S 1) k x.1 x.2.1 x.2.2 ∧ RefAt (s_X5_goesOn τ) T S x.1 x.2.1 x.2.2 ∧ Ca σ 7 x.2.2 A ∧ Ra (s_X5_goesOn τ) x.2.2 A ∧ AOK k x.2.2 A ∧ RSame τ (s_X5_goesOn τ) := by
  obtain ⟨hc, hr, hT, hL, hF⟩ := id h
  obtain ⟨⟨a1, a2, x, a3, a4⟩, ht, h5⟩ := id hc
  obtain ⟨x', hx', hA⟩ := hY
  have ex : x' = x := Option.some.inj (hx'.symm.trans a3)
  subst ex
  have hxr : mrun T S (τ 39) (τ 40) k = some x' := by rw [h39, h40, ← a3]; exact mrun_congr k hL
  obtain ⟨g1, g2, g3, g4⟩ := goesOn_ok (x := x') hτ hxr
  obtain ⟨b1, b2, b3, b4, b5, b6, -, b8, b9⟩ := id hτ
  have hRa := goesTo_arr b1 b2 b3 b4 b6 hxr
  have eg : s_X5_goesOn τ = s_X5_goesTo τ (N k) := by
    unfold s_X5_goesOn
    rw [b5]
  have ea : arun T S (τ 39) (τ 40) k = arun T S (σ 33) (σ 34) k := by rw [h39, h40]; exact arun_congr k hL
  rw [ea, ← eg] at hRa
  exact ⟨x', arun T S (σ 33) (σ 34) k, a4, g3, g2, hA, hRa, arun_ok b2 b4 k x' a3, g4⟩
theorem Rows_x (hY : LA σ T S k) (h : Cpl σ T S k t) : ∃ (x : mS) (A : Nat → aI), CAt σ 7 T S x.1 x.2.1 x.2.2 ∧ OK T (S 1) k x.1 x.2.1 x.2.2 ∧ RefAt (s_X5_goesOn (sg_up σ 35 0 0)) T S x.1 x.2.1 x.2.2 ∧ Ca σ 7 x.2.2 A ∧ Ra (s_X5_goesOn (sg_up σ 35 0 0)) x.2.2 A ∧ AOK k x.2.2 A := by
  obtain ⟨x, A, a, b, c, d, e, f, -⟩ := Rows_at hY h (RInv_0 (v := 0) h.2.1) (funext (fun j => up_c (by decide))) (funext (fun j => up_c (by decide)))
  exact ⟨x, A, a, b, c, d, e, f⟩
theorem three_no {x : Int32} (g : v_X5_in x 0 2 = 0) : (if x < 0 then (0 : Int32) else (if (3 : Int32) ≤ x then (0 : Int32) else (1 : Int32))) = 0 := by
  by_cases c : x < 0
  · rw [if_pos c]
  rw [if_neg c]
  by_cases c2 : (3 : Int32) ≤ x
  · rw [if_pos c2]
  · obtain ⟨a, ha, rfl⟩ := ex_nle 3 c c2 (by decide)
    exact absurd rfl (in_of (hi := 2) (by decide) g (show a ≤ 2 by omega))
theorem fact_no {x : Int32} (g : v_X5_in x 0 2 = 0) : v_X4_isOverFact x = 0 := three_no g
theorem block_no {x : Int32} (g : v_X5_in x 0 2 = 0) : v_X4_isBlock x = 0 := three_no g
theorem fact_yes {a : Nat} (ha : a ≤ 2) : ¬ v_X4_isOverFact (N a) = 0 := by
  unfold v_X4_isOverFact
  rw [if_neg (N_nn (by omega)), if_neg (by exact g_nle (L := 3) (by omega) (by decide))]
  exact one_nz
theorem block_yes {a : Nat} (ha : a ≤ 2) : ¬ v_X4_isBlock (N a) = 0 := by
  unfold v_X4_isBlock
  rw [if_neg (N_nn (by omega)), if_neg (by exact g_nle (L := 3) (by omega) (by decide))]
  exact one_nz
/-! overs -/
section OverF
variable {q i : Nat} {E : Nat → Nat} {B : aI}
theorem over_c {a w : Nat} (h : CArr σ q E B) (ha : a < 20) (hw : w < 3) : v_X1_overFact σ q (N a) (N w) = N (B 0 (3 * a + w)) := by
  unfold v_X1_overFact
  rw [if_neg (N_nn (by omega)), if_neg (by exact g_nle (L := 20) ha (by decide)), if_neg (N_nn (by omega)), if_pos (by exact g_lt (L := 3) hw (by decide)), show (3 : Int32) * N a + N w = N (3 * a + w) by rw [show (3 : Int32) = N 3 from rfl, N_mul, N_add], ni_N (by omega)]
  exact h 0 (3 * a + w) (Or.inl ⟨rfl, by omega⟩)
theorem row_r {a w : Nat} (h : RArr τ i E B) (ha : a < 20) (hw : w < 3) : τ (53 + w) (20 * i + a) = N (B 0 (3 * a + w)) := by
  have := h.1 (3 * a + w) (by omega)
  rw [show 53 + (3 * a + w) % 3 = 53 + w by omega, show (3 * a + w) / 3 = a by omega] at this
  exact this
theorem ix20 {a : Nat} : (20 : Int32) * N i + N a = N (20 * i + a) := by rw [show (20 : Int32) = N 20 from rfl, N_mul, N_add]
theorem over_r {a w : Nat} (h : RArr τ i E B) (hi : i < 2) (ha : a < 20) (hw : w < 3) : v_X5_ofOver τ (N (20 * i + a)) (N w) = N (B 0 (3 * a + w)) := by
  have hr := row_r h ha hw
  unfold v_X5_ofOver
  rw [ni_N (by omega)]
  rcases (show w = 0 ∨ w = 1 ∨ w = 2 by omega) with rfl | rfl | rfl
  · rw [if_neg (show ¬ ¬ N 0 = (0 : Int32) from fun z => z rfl)]; exact hr
  · rw [if_pos (by decide), if_neg (show ¬ ¬ N 1 = (1 : Int32) from fun z => z rfl)]; exact hr
  · rw [if_pos (by decide), if_pos (by decide)]; exact hr
end OverF
theorem both_over {x0 x1 x2 : Int32} (hY : LA σ T S k) (h : Cpl σ T S k t) : v_X4_over σ x0 x1 x2 = (r_X5_over σ x0 x1 x2).1 := by
  obtain ⟨x, A, hA, hO, hR, hC, hRa, -⟩ := Rows_x hY h
  unfold v_X4_over r_X5_over
  by_cases g : v_X5_isInnings x0 = 0
  · rw [if_pos g, if_pos (side_no g)]
  rw [if_neg g]
  obtain ⟨i, rfl, hi⟩ := inn_ex g
  rw [if_neg (side_yes hi), side_eq hi]
  by_cases g1 : v_X5_in x1 0 19 = 0
  · rw [if_pos g1]
    by_cases c : x1 < 0
    · rw [if_pos c]
    rw [if_neg c]
    by_cases c2 : (20 : Int32) ≤ x1
    · rw [if_pos c2]
    · obtain ⟨a, ha, rfl⟩ := ex_nle 20 c c2 (by decide)
      exact absurd rfl (in_of (hi := 19) (by decide) g1 (show a ≤ 19 by omega))
  · rw [if_neg g1]
    obtain ⟨a, rfl, -, ha⟩ := in_ex (lo := 0) (hi := 19) (by decide) (by decide) g1
    rw [if_neg (N_nn (by omega)), if_neg (by exact g_nle (L := 20) (by omega) (by decide))]
    by_cases g2 : v_X5_in x2 0 2 = 0
    · rw [if_neg (fun w => w (fact_no g2)), if_neg (fun w => w g2)]
    · obtain ⟨w, rfl, -, hw⟩ := in_ex (lo := 0) (hi := 2) (by decide) (by decide) g2
      rw [if_pos (fact_yes hw), if_pos g2]
      dsimp only
      rw [ix20, over_c (hC.pic hi) (by omega) (by omega), over_r (hRa.pic hi) hi (by omega) (by omega)]
/-! made -/
theorem made_c {q r : Nat} {E : Nat → Nat} {B : aI} (h : CArr σ q E B) (hr : r < 7) : v_X1_ballsThatMade σ q (N r) = N (B 2 r) := by
  unfold v_X1_ballsThatMade
  rw [if_neg (N_nn (by omega)), if_neg (by exact g_nlt (L := 6) (by omega) (by decide)), ni_N (by omega)]
  exact h 2 r (Or.inr (Or.inr (Or.inl ⟨rfl, hr⟩)))
theorem both_made {x0 x1 : Int32} (hY : LA σ T S k) (h : Cpl σ T S k t) : v_X4_made σ x0 x1 = (r_X5_made σ x0 x1).1 := by
  obtain ⟨x, A, hA, hO, hR, hC, hRa, -⟩ := Rows_x hY h
  unfold v_X4_made r_X5_made
  by_cases g : v_X5_isInnings x0 = 0
  · rw [if_pos g, if_pos (side_no g)]
  rw [if_neg g]
  obtain ⟨i, rfl, hi⟩ := inn_ex g
  rw [if_neg (side_yes hi), side_eq hi]
  by_cases g1 : v_X5_in x1 0 6 = 0
  · rw [if_pos g1]
    by_cases c : x1 < 0
    · rw [if_pos c]
    rw [if_neg c]
    by_cases c2 : x1 ≤ (6 : Int32)
    · obtain ⟨a, ha, rfl⟩ := ex_le 6 c c2 (by decide)
      exact absurd rfl (in_of (hi := 6) (by decide) g1 ha)
    · rw [if_neg c2]
  · rw [if_neg g1]
    obtain ⟨a, rfl, -, ha⟩ := in_ex (lo := 0) (hi := 6) (by decide) (by decide) g1
    rw [if_neg (N_nn (by omega)), if_pos (by exact g_le (L := 6) ha (by decide)), made_c (hC.pic hi) (by omega), m_eq, ni_N (by omega)]
    exact ((hRa.pic hi).2.2.1 a (by omega)).symm
/-! the greatest over -/
theorem great_both {q i : Nat} {E : Nat → Nat} {B : aI} (h : CArr σ q E B) (hr : RArr τ i E B) (hi : i < 2) : ∀ (n kk b : Nat), kk ≤ 20 → b < 20 → 20 - kk < n → v_X1_greatestOver_l4 σ q n (N b) (N kk) = v_X5_bestOverOf_l4 τ n (N i) (N b) (N kk) ∧ ∃ b', b' < 20 ∧ v_X5_bestOverOf_l4 τ n (N i) (N b) (N kk) = N b' := by
  intro n
  induction n with
  | zero => intro kk b _ _ hn; omega
  | succ n ih =>
    intro kk b hk hb hn
    show v_X1_greatestOver_b4 σ q (v_X1_greatestOver_l4 σ q n) (N b) (N kk) = v_X5_bestOverOf_b4 τ (v_X5_bestOverOf_l4 τ n) (N i) (N b) (N kk) ∧ ∃ b', b' < 20 ∧ v_X5_bestOverOf_b4 τ (v_X5_bestOverOf_l4 τ n) (N i) (N b) (N kk) = N b'
    unfold v_X1_greatestOver_b4 v_X5_bestOverOf_b4
    by_cases e : kk = 20
    · have hc : (20 : Int32) ≤ N kk := (N14 (L := 20) hk (by decide)).mpr e
      rw [if_pos hc, if_pos hc]
      exact ⟨rfl, b, hb, rfl⟩
    · have hc : ¬ (20 : Int32) ≤ N kk := fun z => e ((N14 (L := 20) hk (by decide)).mp z)
      have c1 : v_X1_overFact σ q (N kk) 0 = N (B 0 (3 * kk + 0)) := over_c (w := 0) h (by omega) (by decide)
      have c2 : v_X1_overFact σ q (N b) 0 = N (B 0 (3 * b + 0)) := over_c (w := 0) h hb (by decide)
      have d1 : τ 53 (20 * i + kk) = N (B 0 (3 * kk + 0)) := row_r (w := 0) hr (by omega) (by decide)
      have d2 : τ 53 (20 * i + b) = N (B 0 (3 * b + 0)) := row_r (w := 0) hr hb (by decide)
      rw [if_neg hc, if_neg hc, ix20, ix20, ni_N (by omega), ni_N (by omega), c1, c2, d1, d2, N_inc]
      by_cases c : N (B 0 (3 * kk + 0)) ≤ N (B 0 (3 * b + 0))
      · rw [if_pos c, if_pos c]; exact ih (kk + 1) b (by omega) hb (by omega)
      · rw [if_neg c, if_neg c]; exact ih (kk + 1) kk (by omega) (by omega) (by omega)
theorem great_eq {q i : Nat} {E : Nat → Nat} {B : aI} (h : CArr σ q E B) (hr : RArr τ i E B) (hi : i < 2) : v_X1_greatestOver σ q = v_X5_bestOverOf τ (N i) ∧ ∃ b', b' < 20 ∧ v_X5_bestOverOf τ (N i) = N b' := great_both h hr hi 600 1 0 (by decide) (by decide) (by decide)
theorem both_bestOver {x0 : Int32} (hY : LA σ T S k) (h : Cpl σ T S k t) : v_X4_bestOver σ x0 = (r_X5_bestOver σ x0).1 := by
  obtain ⟨x, A, hA, hO, hR, hC, hRa, -⟩ := Rows_x hY h
  unfold v_X4_bestOver r_X5_bestOver
  by_cases g : v_X5_isInnings x0 = 0
  · rw [if_pos g, if_neg (fun w => w (side_no g))]
  rw [if_neg g]
  obtain ⟨i, rfl, hi⟩ := inn_ex g
  rw [if_pos (side_yes hi), side_eq hi, (hA.pic hi) 2 (by decide), (hA.pic hi) 0 (by decide), ni_N (by omega), (hR.pic hi).2.2.1, (hR.pic hi).1, (great_eq (hC.pic hi) (hRa.pic hi) hi).1]
  split
  · rfl
  split
  · rfl
  · rfl
/-! wickets -/
def stnd (B : aI) (a : Nat) : Int32 := N (B 3 a) - (if a = 0 then 0 else N (B 3 (a - 1)))
def opn (B : aI) (E : Nat → Nat) : Int32 := N (E 0) - (if E 1 = 0 then 0 else N (B 3 (E 1 - 1)))
section Falls
variable {q i : Nat} {E : Nat → Nat} {B : aI}
theorem hasF {a : Nat} (hw : σ q 1 = N (E 1)) (hE : E 1 ≤ 10) (ha : a < E 1) : v_X1_hasFall σ q (N a) = 1 := by
  unfold v_X1_hasFall
  rw [hw, if_neg (N_nn (by omega)), if_neg (g_nle ha (by omega)), if_neg (by exact g_nle (L := 10) (by omega) (by decide))]
theorem hasF_n {x1 : Int32} (hw : σ q 1 = N (E 1)) (hE : E 1 ≤ 10) (hx : ∀ a, a < E 1 → ¬ x1 = N a) : v_X1_hasFall σ q x1 = 0 := by
  unfold v_X1_hasFall
  by_cases c : x1 < 0
  · rw [if_pos c]
  obtain ⟨a, ha, rfl⟩ := ex_nn c
  have h1 : ¬ a < E 1 := fun z => hx a z rfl
  rw [if_neg c, hw, if_pos (g_le (by omega) ha)]
theorem runs_c {a : Nat} (h : CArr σ q E B) (hw : σ q 1 = N (E 1)) (hE : E 1 ≤ 10) (ha : a < E 1) : v_X1_runsAtFall σ q (N a) = N (B 3 a) := by
  unfold v_X1_runsAtFall
  rw [hasF hw hE ha, if_neg one_nz, ni_N (by omega)]
  exact h 3 a (Or.inr (Or.inr (Or.inr ⟨Or.inl rfl, ha⟩)))
theorem balls_c {a : Nat} (h : CArr σ q E B) (hw : σ q 1 = N (E 1)) (hE : E 1 ≤ 10) (ha : a < E 1) : v_X1_ballsAtFall σ q (N a) = N (B 4 a) := by
  unfold v_X1_ballsAtFall
  rw [hasF hw hE ha, if_neg one_nz, ni_N (by omega)]
  exact h 4 a (Or.inr (Or.inr (Or.inr ⟨Or.inr rfl, ha⟩)))
theorem runs_m : v_X1_runsAtFall σ q (N 0 - 1) = 0 := by
  unfold v_X1_runsAtFall v_X1_hasFall
  rw [if_pos (show N 0 - 1 < (0 : Int32) by decide), if_pos rfl]
theorem stand_c {a : Nat} (h : CArr σ q E B) (hw : σ q 1 = N (E 1)) (hE : E 1 ≤ 10) (ha : a < E 1) : v_X1_standOf σ q (N a) = stnd B a := by
  unfold v_X1_standOf stnd
  rw [runs_c h hw hE ha]
  by_cases e : a = 0
  · subst e; rw [runs_m, if_pos rfl]
  · rw [if_neg e, show N a - 1 = N (a - 1) from N_sub (b := 1) (by omega), runs_c h hw hE (by omega)]
theorem open_c (h : CArr σ q E B) (hr : σ q 0 = N (E 0)) (hw : σ q 1 = N (E 1)) (hE : E 1 ≤ 10) : v_X1_openStand σ q = opn B E := by
  unfold v_X1_openStand opn
  rw [hr, hw]
  by_cases e : E 1 = 0
  · rw [e, runs_m, if_pos rfl]
  · rw [if_neg e, show N (E 1) - 1 = N (E 1 - 1) from N_sub (b := 1) (by omega), runs_c h hw hE (by omega)]
theorem stand_r {a : Nat} (h : RArr τ i E B) (hi : i < 2) (hE : E 1 ≤ 10) (ha : a < E 1) : v_X5_standOf τ (N i) (N a) = stnd B a := by
  have h1 := h.2.2.2.1 a ha
  unfold v_X5_standOf stnd
  rw [t_eq, ni_N (by omega), h1]
  by_cases e : a = 0
  · subst e
    rw [if_neg (show ¬ ¬ N 0 = (0 : Int32) from fun z => z rfl), if_pos rfl]
  · rw [if_pos (N_nz (by omega) (by omega)), if_neg e, show N (10 * i + a) - 1 = N (10 * i + (a - 1)) by rw [show N (10 * i + a) - 1 = N (10 * i + a - 1) from N_sub (b := 1) (by omega), show 10 * i + a - 1 = 10 * i + (a - 1) by omega], ni_N (by omega), h.2.2.2.1 (a - 1) (by omega)]
theorem last_r (h : RArr τ i E B) (hi : i < 2) (hr : τ 41 i = N (E 0)) (hw : τ 42 i = N (E 1)) (hE : E 1 ≤ 10) : v_X5_lastOf τ (N i) = if E 1 = 10 then -1 else opn B E := by
  unfold v_X5_lastOf opn
  rw [ni_N (show i < 2147483648 by omega), hr, hw]
  by_cases e : E 1 = 10
  · rw [e, if_neg (show ¬ ¬ N 10 = (10 : Int32) from fun z => z rfl), if_pos rfl]
  · rw [if_pos (show ¬ N (E 1) = (10 : Int32) from fun z => e ((N_eq (b := 10) (by omega) (by decide)).mp z)), if_neg e]
    by_cases e0 : E 1 = 0
    · rw [e0, if_neg (show ¬ ¬ N 0 = (0 : Int32) from fun z => z rfl), if_pos rfl]
    · rw [if_pos (N_nz (by omega) (by omega)), if_neg e0, t_eq, show N (10 * i + E 1) - 1 = N (10 * i + (E 1 - 1)) by rw [show N (10 * i + E 1) - 1 = N (10 * i + E 1 - 1) from N_sub (b := 1) (by omega), show 10 * i + E 1 - 1 = 10 * i + (E 1 - 1) by omega], ni_N (by omega), h.2.2.2.1 (E 1 - 1) (by omega)]
end Falls
theorem in_lt {a c : Nat} (h : a < c) (hc : c < 1000) : ¬ v_X5_in (N a) 0 (N c - 1) = 0 := by
  rw [show N c - 1 = N (c - 1) from N_sub (b := 1) (by omega)]
  exact in_nz (lo := 0) (hi := c - 1) (Nat.zero_le a) (by omega) (by omega)
theorem both_fall {x0 x1 x2 : Int32} (hY : LA σ T S k) (h : Cpl σ T S k t) : v_X4_fall σ x0 x1 x2 = (r_X5_fall σ x0 x1 x2).1 := by
  obtain ⟨x, A, hA, hO, hR, hC, hRa, -⟩ := Rows_x hY h
  unfold v_X4_fall r_X5_fall
  by_cases g : v_X5_isInnings x0 = 0
  · rw [if_pos g, if_pos (side_no g)]
  rw [if_neg g]
  obtain ⟨i, rfl, hi⟩ := inn_ex g
  have hI := hO.2.2.2.1 i hi
  have hE : x.2.2 i 1 ≤ 10 := hI.2.2.2.1
  have hw := (hA.pic hi) 1 (by decide)
  have hCi := hC.pic hi
  have hRi := hRa.pic hi
  rw [if_neg (side_yes hi), side_eq hi, ni_N (show i < 2147483648 by omega), (hR.pic hi).2.1]
  by_cases g1 : v_X5_in x1 0 (N (x.2.2 i 1) - 1) = 0
  · rw [if_pos g1, if_neg (fun w => w (hasF_n hw hE (fun a ha e => by rw [e] at g1; exact in_lt ha (by omega) g1)))]
  · rw [if_neg g1]
    obtain ⟨a, rfl, ha⟩ := in_pred (by omega) g1
    rw [if_pos (show ¬ v_X1_hasFall σ (7 + 1 + 6 * i) (N a) = 0 by rw [hasF hw hE ha]; exact one_nz), runs_c hCi hw hE ha, balls_c hCi hw hE ha, stand_c hCi hw hE ha, t_eq, ni_N (show 10 * i + a < 2147483648 by omega), stand_r hRi hi hE ha, hRi.2.2.2.1 a ha, hRi.2.2.2.2 a ha]
    by_cases g2 : v_X5_in x2 0 2 = 0
    · have ne : ∀ b : Nat, b ≤ 2 → ¬ x2 = N b := fun b hb => in_of (hi := 2) (by decide) g2 hb
      rw [if_neg (show ¬ ¬ v_X5_in x2 0 2 = 0 from fun w => w g2), if_neg (by exact ne 0 (by decide)), if_neg (by exact ne 1 (by decide)), if_neg (by exact ne 2 (by decide))]
    · rw [if_pos g2]
      obtain ⟨w, rfl, -, hw2⟩ := in_ex (lo := 0) (hi := 2) (by decide) (by decide) g2
      rcases (show w = 0 ∨ w = 1 ∨ w = 2 by omega) with rfl | rfl | rfl
      · rfl
      · rfl
      · rfl
theorem both_lastStand {x0 : Int32} (hY : LA σ T S k) (h : Cpl σ T S k t) : v_X4_lastStand σ x0 = (r_X5_lastStand σ x0).1 := by
  obtain ⟨x, A, hA, hO, hR, hC, hRa, -⟩ := Rows_x hY h
  unfold v_X4_lastStand r_X5_lastStand
  by_cases g : v_X5_isInnings x0 = 0
  · rw [if_pos g, if_pos (side_no g)]
  rw [if_neg g]
  obtain ⟨i, rfl, hi⟩ := inn_ex g
  have hI := hO.2.2.2.1 i hi
  have hE : x.2.2 i 1 ≤ 10 := hI.2.2.2.1
  have hw := (hA.pic hi) 1 (by decide)
  rw [if_neg (side_yes hi), side_eq hi, last_r (hRa.pic hi) hi (hR.pic hi).1 (hR.pic hi).2.1 hE, open_c (hC.pic hi) ((hA.pic hi) 0 (by decide)) hw hE, hw]
  by_cases e : x.2.2 i 1 = 10
  · rw [e, if_neg (by decide), if_pos rfl]
  · rw [if_pos (by exact g_lt (L := 10) (by omega) (by decide)), if_neg e]
/-! the greatest stand -/
theorem gst_both {q i : Nat} {E : Nat → Nat} {B : aI} (h : CArr σ q E B) (hr : RArr τ i E B) (hi : i < 2) (hw : σ q 1 = N (E 1)) (hw5 : τ 42 i = N (E 1)) (hE : E 1 ≤ 10) : ∀ (n kk : Nat) (v : Int32), kk ≤ E 1 → E 1 - kk < n → v_X1_greatestStand_l7 σ q n v (N kk) = (r_X5_bestStand_l26 n τ (N i) v (N kk)).1 := by
  intro n
  induction n with
  | zero => intro kk v _ hn; omega
  | succ n ih =>
    intro kk v hk hn
    show v_X1_greatestStand_b7 σ q (v_X1_greatestStand_l7 σ q n) v (N kk) = (r_X5_bestStand_b26 (r_X5_bestStand_l26 n) τ (N i) v (N kk)).1
    unfold v_X1_greatestStand_b7 r_X5_bestStand_b26
    rw [ni_N (by omega), hw, hw5]
    by_cases e : kk = E 1
    · rw [if_pos (show N (E 1) ≤ N kk by rw [e]; exact Int32.le_refl _), if_pos (show N (E 1) ≤ N kk by rw [e]; exact Int32.le_refl _)]
    · rw [if_neg (g_nle (show kk < E 1 by omega) (by omega)), if_neg (show ¬ N (E 1) ≤ N kk from g_nle (by omega) (by omega)), if_neg (by exact g_nle (L := 10) (by omega) (by decide)), stand_c h hw hE (by omega), stand_r hr hi hE (by omega), N_inc]
      by_cases c : stnd B kk ≤ v
      · rw [if_neg (Int32.not_lt.mpr c), if_pos c]; exact ih (kk + 1) v (by omega) (by omega)
      · rw [if_pos (Int32.not_le.mp c), if_neg c]; exact ih (kk + 1) (stnd B kk) (by omega) (by omega)
theorem both_bestStand {x0 : Int32} (hY : LA σ T S k) (h : Cpl σ T S k t) : v_X4_bestStand σ x0 = (r_X5_bestStand σ x0).1 := by
  obtain ⟨x, A, hA, hO, hR, hC, hRa, hK⟩ := Rows_x hY h
  have hk : k ≤ 400 := h.1.1.2.1
  unfold v_X4_bestStand r_X5_bestStand
  by_cases g : v_X5_isInnings x0 = 0
  · rw [if_pos (side_no g), if_neg (show ¬ ¬ v_X5_isInnings x0 = 0 from fun w => w g)]
  rw [if_pos g]
  obtain ⟨i, rfl, hi⟩ := inn_ex g
  have hI := hO.2.2.2.1 i hi
  have hE : x.2.2 i 1 ≤ 10 := hI.2.2.2.1
  have h6 : x.2.2 i 0 ≤ 6 * k := hI.2.2.2.2.2.1
  have hw := (hA.pic hi) 1 (by decide)
  have hw5 := (hR.pic hi).2.1
  have hCi := hC.pic hi
  have hRi := hRa.pic hi
  have gb := gst_both hCi hRi hi hw hw5 hE
  rw [if_neg (side_yes hi), side_eq hi, last_r hRi hi (hR.pic hi).1 hw5 hE]
  unfold v_X1_greatestStand
  rw [open_c hCi ((hA.pic hi) 0 (by decide)) hw hE]
  by_cases e : x.2.2 i 1 = 10
  · obtain ⟨a1, a2, a3⟩ := hK i hi
    have ho : opn (A i) (x.2.2 i) = 0 := by
      unfold opn
      rw [e, if_neg (by decide), show 10 - 1 = 9 from rfl, a2 e]
      exact (sub_z (by omega) (by omega)).mpr rfl
    have hs : stnd (A i) 0 = N (A i 3 0) := by
      unfold stnd
      rw [if_pos rfl]
      exact Int32.sub_zero _
    have hb := a1 0 (by omega)
    rw [ho, if_pos e]
    have u : ∀ (n : Nat) (v : Int32), r_X5_bestStand_l26 (n + 1) (s_X5_goesOn (sg_up σ 35 0 0)) (N i) v (N 0) = (if N (A i 3 0) ≤ v then r_X5_bestStand_l26 n (s_X5_goesOn (sg_up σ 35 0 0)) (N i) v (N 1) else r_X5_bestStand_l26 n (s_X5_goesOn (sg_up σ 35 0 0)) (N i) (N (A i 3 0)) (N 1)) := fun n v => by
      show r_X5_bestStand_b26 (r_X5_bestStand_l26 n) (s_X5_goesOn (sg_up σ 35 0 0)) (N i) v (N 0) = _
      unfold r_X5_bestStand_b26
      rw [ni_N (by omega), hw5, e, if_neg (by decide), stand_r hRi hi hE (by omega), hs]
      rfl
    have gb0 : v_X1_greatestStand_l7 σ (7 + 1 + 6 * i) 600 0 0 = (r_X5_bestStand_l26 600 (s_X5_goesOn (sg_up σ 35 0 0)) (N i) 0 (N 0)).1 := gb 600 0 0 (by omega) (by omega)
    rw [gb0]
    show (r_X5_bestStand_l26 (599 + 1) (s_X5_goesOn (sg_up σ 35 0 0)) (N i) 0 (N 0)).1 = (r_X5_bestStand_l26 (599 + 1) (s_X5_goesOn (sg_up σ 35 0 0)) (N i) (-1) (N 0)).1
    rw [u, u, if_neg (m1_nleB (show A i 3 0 < 1000000 by omega))]
    by_cases c : A i 3 0 = 0
    · rw [c, if_pos (by decide)]
      rfl
    · rw [if_neg (show ¬ N (A i 3 0) ≤ (0 : Int32) from g_nle (a := 0) (by omega) (by omega))]
  · rw [if_neg e]
    exact gb 600 0 _ (by omega) (by omega)
/-! a block's overs together -/
def sumO (B : aI) (w : Nat) (m o : Nat) : Nat := Nat.rec (motive := fun _ => Nat → Nat) (fun _ => 0) (fun _ ih o => B 0 (3 * o + w) + ih (o + 1)) m o
theorem sumO_s {B : aI} {w m o : Nat} : sumO B w (m + 1) o = B 0 (3 * o + w) + sumO B w m (o + 1) := rfl
theorem sumO_le {B : aI} {w v : Nat} (h : ∀ j, B 0 j ≤ v) : ∀ m o, sumO B w m o ≤ m * v := by
  intro m
  induction m with
  | zero => intro o; exact Nat.zero_le _
  | succ m ih =>
    intro o
    rw [sumO_s]
    have h1 := h (3 * o + w)
    have h2 := ih (o + 1)
    have h3 : (m + 1) * v = m * v + v := Nat.succ_mul m v
    rw [h3]
    omega
theorem sum_c {q w : Nat} {E : Nat → Nat} {B : aI} (h : CArr σ q E B) (hw : w < 3) : ∀ (n m o acc : Nat), o + m ≤ 20 → m < n → v_X0_blockFact_l75 σ 7 n (N w) q (N (o + m)) (N acc) (N o) = N (acc + sumO B w m o) := by
  intro n
  induction n with
  | zero => intro m o acc _ hn; omega
  | succ n ih =>
    intro m o acc hm hn
    show v_X0_blockFact_b75 σ 7 (v_X0_blockFact_l75 σ 7 n) (N w) q (N (o + m)) (N acc) (N o) = _
    unfold v_X0_blockFact_b75
    cases m with
    | zero =>
      rw [if_pos (show N (o + 0) ≤ N o from Int32.le_refl _)]
      rfl
    | succ m =>
      rw [if_neg (g_nle (by omega) (by omega)), if_neg (by exact g_nle (L := 20) (by omega) (by decide)), over_c h (by omega) hw, N_add, N_inc, sumO_s, show o + (m + 1) = o + 1 + m by omega, ih m (o + 1) _ (by omega) (by omega), Nat.add_assoc]
theorem sum_r {i kk w b f : Nat} {E : Nat → Nat} {B : aI} (h : RArr τ i E B) (hi : i < 2) (hk : kk < 3) (hw : w < 3) (hb : τ 58 kk = N b) (hf : f + b ≤ 20) : ∀ (n m o acc : Nat), o + m = f + b → f ≤ o → m < n → (r_X5_ofBlock_l54 n τ (N i) (N kk) (N w) (N f) (N acc) (N o)).1 = N (acc + sumO B w m o) := by
  intro n
  induction n with
  | zero => intro m o acc _ _ hn; omega
  | succ n ih =>
    intro m o acc hm ho hn
    show (r_X5_ofBlock_b54 (r_X5_ofBlock_l54 n) τ (N i) (N kk) (N w) (N f) (N acc) (N o)).1 = _
    unfold r_X5_ofBlock_b54
    rw [ni_N (by omega), hb, N_add, ← hm]
    cases m with
    | zero =>
      rw [if_pos (show N (o + 0) ≤ N o from Int32.le_refl _)]
      rfl
    | succ m =>
      rw [if_neg (g_nle (by omega) (by omega)), ix20, over_r h hi (by omega) hw, N_add, N_inc, sumO_s, ih m (o + 1) _ (by omega) (by omega) (by omega), Nat.add_assoc]
def frm (S : Nat → Nat) (n kk : Nat) : Nat := if kk = 0 then 0 else if kk = 1 then blk S n 0 else blk S n 0 + blk S n 1
theorem blk_sum {n : Nat} (hS : SetAt τ 36 S) (hK : SetOK S) (hn : n ≤ 20) : blk S n 0 + blk S n 1 + blk S n 2 = n := by
  obtain ⟨-, -, b, h3, h4, -⟩ := lay_ok hS hK hn
  have hl : ∀ j, j < 3 → blk S n j = b j := fun j hj => by
    have e := (blk_r hS hK hn hj).symm.trans (h3 j hj)
    have m1 : n * shr S j ≤ 20 * 20 := Nat.mul_le_mul hn (shr_le hK)
    have hb : blk S n j ≤ 400 := by
      unfold blk
      split
      · omega
      · omega
    have hb2 : b j ≤ 20 := by
      rcases (show j = 0 ∨ j = 1 ∨ j = 2 by omega) with rfl | rfl | rfl
      · omega
      · omega
      · omega
    exact (N_eq (by omega) (by omega)).mp e
  rw [hl 0 (by decide), hl 1 (by decide), hl 2 (by decide)]
  exact h4
theorem frm_le {n kk : Nat} (hS : SetAt τ 36 S) (hK : SetOK S) (hn : n ≤ 20) (hk : kk < 3) : frm S n kk + blk S n kk ≤ 20 := by
  have hs := blk_sum hS hK hn
  unfold frm
  rcases (show kk = 0 ∨ kk = 1 ∨ kk = 2 by omega) with rfl | rfl | rfl
  · rw [if_pos rfl]; omega
  · rw [if_neg (by decide), if_pos rfl]; omega
  · rw [if_neg (by decide), if_neg (by decide)]; omega
theorem block_c {i kk w now u : Nat} {D : Nat → Nat → Nat} {B : aI} (hA : CAt σ 7 T S now u D) (hi : i < 2) (hI : InnOK T k (D i)) (h : CArr σ (7 + 1 + 6 * i) (D i) B) (hk : kk < 3) (hw : w < 3) (hf : frm S (D i 3) kk + blk S (D i 3) kk ≤ 20) : v_X0_blockFact σ 7 (N i) (N kk) (N w) = N (sumO B w (blk S (D i 3) kk) (frm S (D i 3) kk)) := by
  have hn : D i 3 ≤ 20 := hI.2.1
  have e3 := (hA.pic hi) 3 (by decide)
  have bo : ∀ j, j < 3 → v_X2_blockOvers σ (N (D i 3)) (N j) = N (blk S (D i 3) j) := fun j hj => blk_c hA.2.2.1 hA.2.2.2.1 hn hj
  have fin : v_X0_blockFact_l75 σ 7 600 (N w) (7 + 1 + 6 * i) (N (frm S (D i 3) kk + blk S (D i 3) kk)) (N 0) (N (frm S (D i 3) kk)) = N (sumO B w (blk S (D i 3) kk) (frm S (D i 3) kk)) := by
    rw [sum_c h hw 600 (blk S (D i 3) kk) (frm S (D i 3) kk) 0 hf (by omega), Nat.zero_add]
  unfold v_X0_blockFact
  rw [side_eq hi]
  have s13 : ∀ (n x5 x6 : Nat), x6 < kk → v_X0_blockFact_l13 σ 7 (n + 1) (N kk) (N w) (7 + 1 + 6 * i) (N x5) (N x6) = v_X0_blockFact_l13 σ 7 n (N kk) (N w) (7 + 1 + 6 * i) (N (x5 + blk S (D i 3) x6)) (N (x6 + 1)) := fun n x5 x6 hx => by
    show v_X0_blockFact_b13 σ 7 (v_X0_blockFact_l13 σ 7 n) (N kk) (N w) (7 + 1 + 6 * i) (N x5) (N x6) = _
    unfold v_X0_blockFact_b13
    rw [if_neg (g_nle hx (by omega)), if_neg (by exact g_nle (L := 3) (by omega) (by decide)), e3, bo x6 (by omega), N_add, N_inc]
  have f13 : ∀ (n x5 : Nat), x5 = frm S (D i 3) kk → v_X0_blockFact_l13 σ 7 (n + 1) (N kk) (N w) (7 + 1 + 6 * i) (N x5) (N kk) = N (sumO B w (blk S (D i 3) kk) (frm S (D i 3) kk)) := fun n x5 hx => by
    show v_X0_blockFact_b13 σ 7 (v_X0_blockFact_l13 σ 7 n) (N kk) (N w) (7 + 1 + 6 * i) (N x5) (N kk) = _
    unfold v_X0_blockFact_b13
    rw [if_pos (Int32.le_refl _), e3, bo kk hk, N_add, hx]
    exact fin
  rcases (show kk = 0 ∨ kk = 1 ∨ kk = 2 by omega) with rfl | rfl | rfl
  · exact f13 599 0 rfl
  · exact (s13 599 0 0 (by decide)).trans (f13 598 (0 + blk S (D i 3) 0) (Nat.zero_add _))
  · exact (s13 599 0 0 (by decide)).trans ((s13 598 (0 + blk S (D i 3) 0) 1 (by decide)).trans (f13 597 (0 + blk S (D i 3) 0 + blk S (D i 3) 1) (by rw [Nat.zero_add]; rfl)))
theorem block_r {i kk w now u : Nat} {D : Nat → Nat → Nat} {B : aI} (hR : RefAt τ T S now u D) (hi : i < 2) (hI : InnOK T k (D i)) (h : RArr τ i (D i) B) (hk : kk < 3) (hw : w < 3) : (r_X5_ofBlock τ (N i) (N kk) (N w)).1 = N (sumO B w (blk S (D i 3) kk) (frm S (D i 3) kk)) := by
  have hn : D i 3 ≤ 20 := hI.2.1
  have hf := frm_le hR.2.2.1 hR.2.2.2.1 hn hk
  have e44 : τ 44 (ni (N i)) = N (D i 3) := by rw [ni_N (by omega)]; exact (hR.pic hi).2.2.2.1
  obtain ⟨l1, l2, -⟩ := lay_ok hR.2.2.1 hR.2.2.2.1 hn
  have b : ∀ j, j < 3 → (s_X5_laysBlocks τ (N (D i 3))) 58 j = N (blk S (D i 3) j) := fun j hj => blk_r hR.2.2.1 hR.2.2.2.1 hn hj
  have h' : RArr (s_X5_laysBlocks τ (N (D i 3))) i (D i) B := RArr_fr h hI.2.2.2.1 (by have := hI.2.2.2.2.1; omega) (fun q j hq => l2 q j (by unfold own at hq; omega))
  have fin : (r_X5_ofBlock_l54 600 (s_X5_laysBlocks τ (N (D i 3))) (N i) (N kk) (N w) (N (frm S (D i 3) kk)) (N 0) (N (frm S (D i 3) kk))).1 = N (sumO B w (blk S (D i 3) kk) (frm S (D i 3) kk)) := by
    rw [sum_r h' hi hk hw (b kk hk) hf 600 (blk S (D i 3) kk) (frm S (D i 3) kk) 0 rfl (Nat.le_refl _) (by omega), Nat.zero_add]
  unfold r_X5_ofBlock
  rw [e44, b 0 (by decide), b 1 (by decide), N_add]
  rcases (show kk = 0 ∨ kk = 1 ∨ kk = 2 by omega) with rfl | rfl | rfl
  · rw [if_neg (show ¬ ¬ N 0 = (0 : Int32) from fun z => z rfl)]; exact fin
  · rw [if_pos (by decide), if_neg (show ¬ ¬ N 1 = (1 : Int32) from fun z => z rfl)]; exact fin
  · rw [if_pos (by decide), if_pos (by decide)]; exact fin
theorem both_inBlock {x0 x1 x2 : Int32} (hY : LA σ T S k) (h : Cpl σ T S k t) : v_X4_inBlock σ x0 x1 x2 = (r_X5_inBlock σ x0 x1 x2).1 := by
  obtain ⟨x, A, hA, hO, hR, hC, hRa, -⟩ := Rows_x hY h
  unfold v_X4_inBlock r_X5_inBlock
  by_cases g : v_X5_isInnings x0 = 0
  · rw [if_pos g, if_pos (side_no g)]
  rw [if_neg g]
  obtain ⟨i, rfl, hi⟩ := inn_ex g
  have hI := hO.2.2.2.1 i hi
  rw [if_neg (side_yes hi)]
  by_cases g1 : v_X5_in x1 0 2 = 0
  · rw [if_pos g1, if_pos (block_no g1)]
  rw [if_neg g1]
  obtain ⟨a, rfl, -, ha⟩ := in_ex (lo := 0) (hi := 2) (by decide) (by decide) g1
  rw [if_neg (block_yes ha)]
  by_cases g2 : v_X5_in x2 0 2 = 0
  · rw [if_neg (fun w => w (fact_no g2)), if_neg (fun w => w g2)]
  · obtain ⟨w, rfl, -, hw⟩ := in_ex (lo := 0) (hi := 2) (by decide) (by decide) g2
    rw [if_pos (fact_yes hw), if_pos g2]
    dsimp only
    rw [block_c hA hi hI (hC.pic hi) (by omega) (by omega) (frm_le hR.2.2.1 hR.2.2.2.1 hI.2.1 (by omega)), block_r hR hi hI (hRa.pic hi) (by omega) (by omega)]
end RowQ
end
section
/-! CUT, BROKEN: both -/
theorem sub_np {a b : Nat} (ha : a < 1000000000) (hb : b < 1000000000) : (N b - N a ≤ (0 : Int32)) ↔ b ≤ a := by
  rw [Int32.le_iff_toInt_le, sub_toInt ha hb, show (0 : Int32).toInt = 0 from rfl]
  omega
theorem more_eq {a b : Nat} (ha : a < 1000000000) (hb : b < 1000000000) : (if ¬ (N a - N b) = 0 then (if N a - N b ≤ 0 then (2 : Int32) else (1 : Int32)) else (0 : Int32)) = v_X5_more (N a) (N b) := by
  have z := sub_z (a := b) (b := a) hb ha
  have np := sub_np (a := b) (b := a) hb ha
  have l1 := N_le (a := a) (b := b) (by omega) (by omega)
  have l2 := N_le (a := b) (b := a) (by omega) (by omega)
  unfold v_X5_more
  by_cases g : a = b
  · rw [if_neg (show ¬ ¬ N a - N b = 0 from fun w => w (z.mpr g)), if_pos (l1.mpr (by omega)), if_pos (l2.mpr (by omega))]
  · rw [if_pos (show ¬ N a - N b = 0 from fun w => g (z.mp w))]
    by_cases g2 : a ≤ b
    · rw [if_pos (np.mpr g2), if_pos (l1.mpr g2), if_neg (fun w => by have := l2.mp w; omega)]
    · rw [if_neg (fun w => g2 (np.mp w)), if_neg (fun w => g2 (l1.mp w))]
section CutBrk
variable {σ : sg_S} {T S : Nat → Nat} {k t : Nat}
theorem hasC {q a : Nat} {E : Nat → Nat} (hw : σ q 5 = N (E 5)) (hE : E 5 ≤ 19) (ha : a < E 5) : v_X1_hasCut σ q (N a) = 1 := by
  unfold v_X1_hasCut
  rw [hw, if_neg (N_nn (by omega)), if_neg (g_nle ha (by omega)), if_neg (by exact g_nle (L := 19) (by omega) (by decide))]
theorem hasC_n {q : Nat} {E : Nat → Nat} {x1 : Int32} (hw : σ q 5 = N (E 5)) (hE : E 5 ≤ 19) (hx : ∀ a, a < E 5 → ¬ x1 = N a) : v_X1_hasCut σ q x1 = 0 := by
  unfold v_X1_hasCut
  by_cases c : x1 < 0
  · rw [if_pos c]
  obtain ⟨a, ha, rfl⟩ := ex_nn c
  have h1 : ¬ a < E 5 := fun z => hx a z rfl
  rw [if_neg c, hw, if_pos (g_le (by omega) ha)]
theorem both_cut {x0 x1 x2 : Int32} (hY : LA σ T S k) (h : Cpl σ T S k t) : InnB (v_X4_cut σ x0 x1 x2) (r_X5_cut σ x0 x1 x2) := by
  obtain ⟨x, A, hA, hO, hR, hC, hRa, -, -⟩ := Rows_at hY h h.2.1 rfl rfl
  have z1 : ∀ (τ : sg_S) (a b c : Int32), r_X5_cut_a53 τ a b c 1 = (0, sg_up τ 35 0 1) := fun τ a b c => by
    unfold r_X5_cut_a53
    rw [if_neg (by rw [up_eq]; decide)]
  have z0 : ∀ (τ : sg_S) (a b c : Int32), r_X5_cut_a53 τ a b c 0 = ((sg_up τ 35 0 0) 50 (ni (((100 : Int32) * a + (5 : Int32) * b) + c)), sg_up τ 35 0 0) := fun τ a b c => by
    unfold r_X5_cut_a53
    rw [if_pos (by rw [up_eq]; decide)]
  have u1 : ∀ τ : sg_S, ((0 : Int32), sg_up τ 35 0 1).2 35 0 = 1 := fun τ => by dsimp only; exact up_eq
  by_cases g : v_X5_isInnings x0 = 0
  · refine InnB_n ?_ ?_
    · unfold v_X4_cut
      rw [if_pos (side_no g)]
    · unfold r_X5_cut
      rw [if_pos g, z1]; exact u1 _
  obtain ⟨i, rfl, hi⟩ := inn_ex g
  have hI := hO.2.2.2.1 i hi
  have h5 : x.2.2 i 5 ≤ 19 := by have := hI.1; have := hI.2.2.2.2.1; omega
  have c5 := (hA.pic hi) 5 (by decide)
  have hv : v_X4_cut σ (N i) x1 x2 = (if (v_X1_hasCut σ (7 + 1 + 6 * i) x1) = 0 then (none : Option Int32) else (if x2 < 0 then (none : Option Int32) else (if x2 < (5 : Int32) then (some (v_X1_cutFact σ (7 + 1 + 6 * i) x1 x2)) else (none : Option Int32)))) := by
    unfold v_X4_cut
    rw [if_neg (side_yes hi), side_eq hi]
  have hr : r_X5_cut σ (N i) x1 x2 = r_X5_cut_a30 (s_X5_goesOn σ) (N i) x1 x2 x1 0 (N i) := by
    unfold r_X5_cut
    rw [if_neg g, if_neg g]
  have e49 : (s_X5_goesOn σ) 49 (ni (N i)) = N (x.2.2 i 5) := by rw [ni_N (by omega)]; exact (hR.pic hi).2.2.2.2.2.1
  rw [hv, hr]
  unfold r_X5_cut_a30
  rw [e49]
  by_cases g1 : v_X5_in x1 0 (N (x.2.2 i 5) - 1) = 0
  · have hc : v_X1_hasCut σ (7 + 1 + 6 * i) x1 = 0 := hasC_n (E := x.2.2 i) c5 h5 (fun a ha e => by rw [e] at g1; exact in_lt ha (by omega) g1)
    rw [if_pos g1, z1, if_pos hc]
    exact InnB_n rfl (u1 _)
  rw [if_neg g1]
  obtain ⟨a, rfl, ha⟩ := in_pred (by omega) g1
  have hc : v_X1_hasCut σ (7 + 1 + 6 * i) (N a) = 1 := hasC (E := x.2.2 i) c5 h5 ha
  rw [hc, if_neg one_nz]
  by_cases g2 : v_X5_in x2 0 4 = 0
  · rw [if_pos g2, z1]
    refine InnB_n ?_ (u1 _)
    by_cases c : x2 < 0
    · rw [if_pos c]
    rw [if_neg c]
    by_cases c2 : x2 < (5 : Int32)
    · obtain ⟨b, hb, rfl⟩ := ex_lt 5 c c2 (by decide)
      exact absurd rfl (in_of (hi := 4) (by decide) g2 (show b ≤ 4 by omega))
    · rw [if_neg c2]
  · obtain ⟨w, rfl, -, hw⟩ := in_ex (lo := 0) (hi := 4) (by decide) (by decide) g2
    rw [if_neg g2, z0, if_neg (N_nn (by omega)), if_pos (by exact g_lt (L := 5) (by omega) (by decide))]
    have ec : v_X1_cutFact σ (7 + 1 + 6 * i) (N a) (N w) = N (A i 1 (5 * a + w)) := by
      unfold v_X1_cutFact
      rw [hc, if_neg one_nz, if_neg (N_nn (by omega)), if_pos (by exact g_lt (L := 5) (by omega) (by decide)), show (5 : Int32) * N a + N w = N (5 * a + w) by rw [show (5 : Int32) = N 5 from rfl, N_mul, N_add], ni_N (by omega)]
      exact (hC.pic hi) 1 (5 * a + w) (Or.inr (Or.inl ⟨rfl, by omega⟩))
    have er : (sg_up (s_X5_goesOn σ) 35 0 0) 50 (ni (((100 : Int32) * N i + (5 : Int32) * N a) + N w)) = N (A i 1 (5 * a + w)) := by
      rw [up_c (by decide), show (100 : Int32) * N i + (5 : Int32) * N a + N w = N (100 * i + (5 * a + w)) by rw [show (100 : Int32) = N 100 from rfl, show (5 : Int32) = N 5 from rfl, N_mul, N_mul, N_add, N_add, Nat.add_assoc], ni_N (by omega)]
      exact (hRa.pic hi).2.1 (5 * a + w) (by omega)
    refine InnB_y (a := N (A i 1 (5 * a + w))) (by rw [ec]) er ?_
    dsimp only
    exact up_eq
theorem cut_60 {x0 x1 x2 d : Int32} : v_X4_cut (sg_up σ 60 0 d) x0 x1 x2 = v_X4_cut σ x0 x1 x2 := by
  have hq : v_X0_side 7 x0 = 14 ∨ v_X0_side 7 x0 = 8 := by
    unfold v_X0_side
    split
    · exact Or.inl rfl
    · exact Or.inr rfl
  have h0 : ∀ f, (sg_up σ 60 0 d) (v_X0_side 7 x0) f = σ (v_X0_side 7 x0) f := fun f => up_c (by omega)
  have h2 : ∀ f, (sg_up σ 60 0 d) (v_X0_side 7 x0 + 2) f = σ (v_X0_side 7 x0 + 2) f := fun f => up_c (by omega)
  unfold v_X4_cut v_X1_cutFact v_X1_hasCut
  simp only [h0, h2]
theorem both_broken {x0 : Int32} (hY : LA σ T S k) (h : Cpl σ T S k t) : v_X4_broken σ x0 = (r_X5_broken σ x0).1 := by
  obtain ⟨x, A, hA, hO, hR, hC, hRa, hK⟩ := Rows_x hY h
  have hk : k ≤ 400 := h.1.1.2.1
  have hI0 := hO.2.2.2.1 0 (by decide)
  have hI1 := hO.2.2.2.1 1 (by decide)
  obtain ⟨-, -, k0⟩ := hK 0 (by decide)
  obtain ⟨-, -, k1⟩ := hK 1 (by decide)
  have hres := both_result h
  have hr5 : (r_X5_result σ).1 = if (s_X5_goesOn (sg_up σ 35 0 0)) 35 23 < 2 then -1 else v_X5_resultNow (s_X5_goesOn (sg_up σ 35 0 0)) := by
    unfold r_X5_result
    by_cases c : (s_X5_goesOn (sg_up σ 35 0 0)) 35 23 < (2 : Int32)
    · rw [if_pos c, if_neg (Int32.not_le.mpr c)]
    · rw [if_neg c, if_pos (Int32.not_lt.mp c)]
  unfold v_X4_broken r_X5_broken
  rw [hres, hr5]
  by_cases c1 : (s_X5_goesOn (sg_up σ 35 0 0)) 35 23 < (2 : Int32)
  · rw [if_pos c1, if_pos c1, if_neg (show ¬ (-1 : Int32) = 3 by decide)]
    split
    · rfl
    split
    · rfl
    · rfl
  rw [if_neg c1, if_neg c1]
  by_cases c2 : v_X5_resultNow (s_X5_goesOn (sg_up σ 35 0 0)) = 3
  · rw [if_pos c2, if_neg (show ¬ ¬ v_X5_resultNow (s_X5_goesOn (sg_up σ 35 0 0)) = 3 from fun w => w c2)]
    by_cases g : v_X5_in x0 0 3 = 0
    · rw [if_neg (show ¬ ¬ v_X5_in x0 0 3 = 0 from fun w => w g)]
      by_cases d : x0 < 0
      · rw [if_pos d]
      rw [if_neg d]
      by_cases d2 : (3 : Int32) < x0
      · rw [if_pos d2]
      · obtain ⟨a, ha, rfl⟩ := ex_nlt 3 d d2 (by decide)
        exact absurd rfl (in_of (hi := 3) (by decide) g ha)
    · rw [if_pos g]
      obtain ⟨r, rfl, -, hr⟩ := in_ex (lo := 0) (hi := 3) (by decide) (by decide) g
      rw [if_neg (N_nn (by omega)), if_neg (by exact g_nlt (L := 3) hr (by decide))]
      rcases (show r = 0 ∨ r = 1 ∨ r = 2 ∨ r = 3 by omega) with rfl | rfl | rfl | rfl
      · have el : v_X0_leadByRule σ 7 (N 0) = N (x.2.2 1 1) - N (x.2.2 0 1) := by
          unfold v_X0_leadByRule
          rw [if_pos (show N 0 = (0 : Int32) from rfl), hA.2.2.2.2.2.2.2 1 (by decide), hA.2.2.2.2.2.2.1 1 (by decide)]
        have w0 := hI0.2.2.2.1
        have w1 := hI1.2.2.2.1
        rw [el, more_eq (by omega) (by omega), if_pos (show N 0 = (0 : Int32) from rfl), (hR.pic (i := 1) (by decide)).2.1, (hR.pic (i := 0) (by decide)).2.1]
      · have f0 := frm_le (kk := 0) hR.2.2.1 hR.2.2.2.1 hI0.2.1 (by decide)
        have f1 := frm_le (kk := 0) hR.2.2.1 hR.2.2.2.1 hI1.2.1 (by decide)
        have b0 : v_X0_blockFact σ 7 0 0 0 = N (sumO (A 0) 0 (blk S (x.2.2 0 3) 0) (frm S (x.2.2 0 3) 0)) := block_c (i := 0) (kk := 0) (w := 0) hA (by decide) hI0 hC.1 (by decide) (by decide) f0
        have b1 : v_X0_blockFact σ 7 1 0 0 = N (sumO (A 1) 0 (blk S (x.2.2 1 3) 0) (frm S (x.2.2 1 3) 0)) := block_c (i := 1) (kk := 0) (w := 0) hA (by decide) hI1 hC.2 (by decide) (by decide) f1
        have s0 := sumO_le (w := 0) (fun j => k0 0 j (Or.inl rfl)) (blk S (x.2.2 0 3) 0) (frm S (x.2.2 0 3) 0)
        have s1 := sumO_le (w := 0) (fun j => k1 0 j (Or.inl rfl)) (blk S (x.2.2 1 3) 0) (frm S (x.2.2 1 3) 0)
        have m0 : blk S (x.2.2 0 3) 0 * (6 * k) ≤ 20 * 2400 := Nat.mul_le_mul (by omega) (by omega)
        have m1 : blk S (x.2.2 1 3) 0 * (6 * k) ≤ 20 * 2400 := Nat.mul_le_mul (by omega) (by omega)
        have o2 := (ofBlock_ok (i := 0) (kk := 0) (x2 := 0) hR (by decide) hI0 (by decide)).2
        have o2 : BSame (s_X5_goesOn (sg_up σ 35 0 0)) (t_X5_broken_0 σ (N 1)) := o2
        have hR' : RefAt (t_X5_broken_0 σ (N 1)) T S x.1 x.2.1 x.2.2 := RefAt_fr hR (fun q j hq => o2 q j (by omega))
        have hA1 : RArr (t_X5_broken_0 σ (N 1)) 1 (x.2.2 1) (A 1) := RArr_fr hRa.2 hI1.2.2.2.1 (by have := hI1.2.2.2.2.1; omega) (fun q j hq => o2 q j (by unfold own at hq; omega))
        have r0 : (r_X5_ofBlock (s_X5_goesOn (sg_up σ 35 0 0)) 0 0 0).1 = N (sumO (A 0) 0 (blk S (x.2.2 0 3) 0) (frm S (x.2.2 0 3) 0)) := block_r (i := 0) (kk := 0) (w := 0) hR (by decide) hI0 hRa.1 (by decide) (by decide)
        have r1 : (r_X5_ofBlock (t_X5_broken_0 σ (N 1)) 1 0 0).1 = N (sumO (A 1) 0 (blk S (x.2.2 1 3) 0) (frm S (x.2.2 1 3) 0)) := block_r (i := 1) (kk := 0) (w := 0) hR' (by decide) hI1 hA1 (by decide) (by decide)
        have el : v_X0_leadByRule σ 7 (N 1) = N (sumO (A 0) 0 (blk S (x.2.2 0 3) 0) (frm S (x.2.2 0 3) 0)) - N (sumO (A 1) 0 (blk S (x.2.2 1 3) 0) (frm S (x.2.2 1 3) 0)) := by
          unfold v_X0_leadByRule
          rw [if_neg (show ¬ N 1 = (0 : Int32) by decide), if_pos (show N 1 = (1 : Int32) from rfl), b0, b1]
        rw [el, more_eq (by omega) (by omega), if_neg (show ¬ N 1 = (0 : Int32) by decide), if_pos (show N 1 = (1 : Int32) from rfl)]
        dsimp only
        rw [r0, r1]
      · have a4 := k0 2 4 (Or.inr rfl)
        have a6 := k0 2 6 (Or.inr rfl)
        have b4 := k1 2 4 (Or.inr rfl)
        have b6 := k1 2 6 (Or.inr rfl)
        have c04 : v_X1_ballsThatMade σ (7 + 1) 4 = N (A 0 2 4) := made_c (r := 4) hC.1 (by decide)
        have c06 : v_X1_ballsThatMade σ (7 + 1) 6 = N (A 0 2 6) := made_c (r := 6) hC.1 (by decide)
        have c14 : v_X1_ballsThatMade σ (7 + 7) 4 = N (A 1 2 4) := made_c (r := 4) hC.2 (by decide)
        have c16 : v_X1_ballsThatMade σ (7 + 7) 6 = N (A 1 2 6) := made_c (r := 6) hC.2 (by decide)
        have r04 : (s_X5_goesOn (sg_up σ 35 0 0)) 56 4 = N (A 0 2 4) := hRa.1.2.2.1 4 (by decide)
        have r06 : (s_X5_goesOn (sg_up σ 35 0 0)) 56 6 = N (A 0 2 6) := hRa.1.2.2.1 6 (by decide)
        have r14 : (s_X5_goesOn (sg_up σ 35 0 0)) 56 11 = N (A 1 2 4) := hRa.2.2.2.1 4 (by decide)
        have r16 : (s_X5_goesOn (sg_up σ 35 0 0)) 56 13 = N (A 1 2 6) := hRa.2.2.2.1 6 (by decide)
        have el : v_X0_leadByRule σ 7 (N 2) = N (A 0 2 4 + A 0 2 6) - N (A 1 2 4 + A 1 2 6) := by
          unfold v_X0_leadByRule v_X0_boundaries
          rw [if_neg (show ¬ N 2 = (0 : Int32) by decide), if_neg (show ¬ N 2 = (1 : Int32) by decide), if_pos (show N 2 = (2 : Int32) from rfl), c04, c06, c14, c16, N_add, N_add]
        rw [el, more_eq (by omega) (by omega), if_neg (show ¬ N 2 = (0 : Int32) by decide), if_neg (show ¬ N 2 = (1 : Int32) by decide), if_pos (show N 2 = (2 : Int32) from rfl)]
        dsimp only
        rw [r04, r06, r14, r16, N_add, N_add]
      · obtain ⟨e0, b0, hb0, g0⟩ := great_eq hC.1 hRa.1 (by decide)
        obtain ⟨e1, b1, hb1, g1⟩ := great_eq hC.2 hRa.2 (by decide)
        have g0 : v_X5_bestOverOf (s_X5_goesOn (sg_up σ 35 0 0)) 0 = N b0 := g0
        have g1 : v_X5_bestOverOf (s_X5_goesOn (sg_up σ 35 0 0)) 1 = N b1 := g1
        have e0 : v_X1_greatestOver σ (7 + 1) = N b0 := e0.trans g0
        have e1 : v_X1_greatestOver σ (7 + 7) = N b1 := e1.trans g1
        have c0 : v_X1_overFact σ (7 + 1) (N b0) 0 = N (A 0 0 (3 * b0 + 0)) := over_c (w := 0) hC.1 hb0 (by decide)
        have c3 : v_X1_overFact σ (7 + 7) (N b1) 0 = N (A 1 0 (3 * b1 + 0)) := over_c (w := 0) hC.2 hb1 (by decide)
        have r0 : (s_X5_goesOn (sg_up σ 35 0 0)) 53 (20 * 0 + b0) = N (A 0 0 (3 * b0 + 0)) := row_r (w := 0) hRa.1 hb0 (by decide)
        have r1 : (s_X5_goesOn (sg_up σ 35 0 0)) 53 (20 * 1 + b1) = N (A 1 0 (3 * b1 + 0)) := row_r (w := 0) hRa.2 hb1 (by decide)
        have q0 := k0 0 (3 * b0 + 0) (Or.inl rfl)
        have q1 := k1 0 (3 * b1 + 0) (Or.inl rfl)
        have el : v_X0_leadByRule σ 7 (N 3) = N (A 0 0 (3 * b0 + 0)) - N (A 1 0 (3 * b1 + 0)) := by
          unfold v_X0_leadByRule
          rw [if_neg (show ¬ N 3 = (0 : Int32) by decide), if_neg (show ¬ N 3 = (1 : Int32) by decide), if_neg (show ¬ N 3 = (2 : Int32) by decide), e0, e1, c0, c3]
        rw [el, more_eq (by omega) (by omega), if_neg (show ¬ N 3 = (0 : Int32) by decide), if_neg (show ¬ N 3 = (1 : Int32) by decide), if_neg (show ¬ N 3 = (2 : Int32) by decide)]
        dsimp only
        rw [g0, g1, show (20 : Int32) + N b1 = N (20 * 1 + b1) from N_add 20 b1, ni_N (by omega), ni_N (by omega), r1, show (s_X5_goesOn (sg_up σ 35 0 0)) 53 b0 = (s_X5_goesOn (sg_up σ 35 0 0)) 53 (20 * 0 + b0) by rw [show 20 * 0 + b0 = b0 by omega], r0]
  · rw [if_neg c2, if_pos c2]
    split
    · rfl
    split
    · rfl
    · rfl
end CutBrk
end
