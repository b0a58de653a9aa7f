/-! BACK, CLEAR, PLAY in full, and what all calls leave -/
section CallsFull
variable {σ : sg_S} {T S : Nat → Nat} {k t : Nat}
theorem Cf_clear (h : CInv σ T S k t) {q j : Nat} (h1 : ¬ (7 ≤ q ∧ q ≤ 19)) (h2 : ¬ (q = 0 ∧ j = 6)) : (r_X4_clear σ).2 q j = σ q j := by
  obtain ⟨⟨a1, a2, x, a3, a4⟩, ht, h5⟩ := id h
  have e := (cempty_ok a4.1 a4.2.1 a4.2.2.1 a4.2.2.2.1).2 q j h1 h2
  unfold r_X4_clear
  dsimp only
  exact e
theorem C_backY (h : CInv σ T S (k + 1) t) : (r_X4_back σ).1 = N k ∧ CInv (r_X4_back σ).2 T S k t ∧ (∀ q j, ¬ (7 ≤ q ∧ q ≤ 19) → ¬ (q = 0 ∧ j = 6) → (r_X4_back σ).2 q j = σ q j) := by
  obtain ⟨⟨a1, a2, x, a3, a4⟩, ht, h5⟩ := id h
  unfold r_X4_back
  have g : (0 : Int32) < σ 0 6 := by
    rw [a1]
    exact g_lt (a := 0) (by omega) (by omega)
  rw [if_pos g]
  obtain ⟨y, hy⟩ := mrun_le' a3 (j := k) (by omega)
  have e1 : σ 0 6 - 1 = N k := by rw [a1]; exact N_sub (b := 1) (by omega)
  have e33 : (sg_up σ 0 6 (N k)) 33 = σ 33 := funext (fun j => by rw [up_c (by decide)])
  have e34 : (sg_up σ 0 6 (N k)) 34 = σ 34 := funext (fun j => by rw [up_c (by decide)])
  have et : t_X4_back_0 σ = s_X4_replay (sg_up σ 0 6 (N k)) 7 (N k) := by
    unfold t_X4_back_0
    rw [e1, up_eq]
  obtain ⟨r1, r2⟩ := replay_ok (σ := sg_up σ 0 6 (N k)) (c := 7) (y := y) (by decide) (by decide) (TabAt_up a4.1 (by decide)) a4.2.1 (SetAt_up a4.2.2.1 (by decide)) a4.2.2.2.1 (show k ≤ 400 by omega) (by rw [e33, e34]; exact hy)
  dsimp only
  rw [et]
  have e06 : (s_X4_replay (sg_up σ 0 6 (N k)) 7 (N k)) 0 6 = N k := by rw [r2 0 6 (by decide), up_eq]
  refine ⟨e06, ⟨⟨e06, by omega, y, ?_, r1⟩, ?_, h5⟩, fun q j h1 h2 => ?_⟩
  · rw [r2.row (q := 33) (by decide), r2.row (q := 34) (by decide), e33, e34]; exact hy
  · rw [r2 5 1 (by decide), up_c (by decide)]; exact ht
  · rw [r2 q j (by omega), up_ne h2]
theorem C_backN (h : CInv σ T S 0 t) : r_X4_back σ = (-1, σ) := by
  unfold r_X4_back
  rw [show σ 0 6 = N 0 from h.1.1, if_neg (by decide)]
theorem R_backY (h : RInv σ T S (k + 1) t) : r_X5_back σ = (N k, sg_up (sg_up σ 35 0 0) 35 6 (N k)) ∧ RInv (sg_up (sg_up σ 35 0 0) 35 6 (N k)) T S k t := by
  have h0 := RInv_0 (v := 0) h
  obtain ⟨a1, a2, a3, a4, a5, a6, ⟨x, a7⟩, a8, a9⟩ := id h0
  obtain ⟨y, hy⟩ := mrun_le' a7 (j := k) (by omega)
  have et : t_X5_back_0 σ = sg_up (sg_up σ 35 0 0) 35 6 (N k) := by
    unfold t_X5_back_0
    rw [a5, show (1 : Int32) = N 1 from rfl, N_sub (by omega)]
    rfl
  unfold r_X5_back
  rw [if_pos (by rw [a5]; exact N_nz (by omega) (by omega)), et, up_eq]
  exact ⟨rfl, TabAt_up a1 (by decide), a2, SetAt_up a3 (by decide), a4, up_eq, by omega, ⟨y, hy⟩, by rw [up_k (by decide)]; exact a8, a9⟩
theorem R_backN (h : RInv σ T S 0 t) : r_X5_back σ = (-1, sg_up σ 35 0 0) := by
  have h0 := RInv_0 (v := 0) h
  unfold r_X5_back
  rw [if_neg (fun w => w (by rw [h0.2.2.2.2.1]; rfl))]
/-! play -/
theorem crec_f {x y : mS} {e n : Int32} (h6 : σ 0 6 = N k) (hk : k < 400) (hA : CAt σ 7 T S x.1 x.2.1 x.2.2) (hx : mrun T S (σ 33) (σ 34) k = some x) (hs : stp T (S 1) x e n = some y) {q j : Nat} (h1 : ¬ (7 ≤ q ∧ q ≤ 19)) (h2 : ¬ (q = 0 ∧ j = 6)) (h3 : ¬ ((q = 33 ∨ q = 34) ∧ j = k)) : (s_X4_record σ e n) q j = σ q j := by
  have e1 : (sg_up σ 33 k e) 0 6 = N k := by rw [up_c (by decide)]; exact h6
  have et : t_X4_record_1 σ e n = sg_up (sg_up (sg_up σ 33 k e) 34 k n) 0 6 (N (k + 1)) := by
    unfold t_X4_record_1 t_X4_record_0
    rw [h6, ni_N (by omega), e1, ni_N (by omega), up_c (by decide), e1, N_inc]
  have er : s_X4_record σ e n = s_X0_take (sg_up (sg_up (sg_up σ 33 k e) 34 k n) 0 6 (N (k + 1))) 7 e n := by
    unfold s_X4_record
    rw [h6, if_neg (N_nn (by omega)), if_pos (by exact g_lt (L := 400) hk (by decide)), et]
  have hA1 : CAt (sg_up (sg_up (sg_up σ 33 k e) 34 k n) 0 6 (N (k + 1))) 7 T S x.1 x.2.1 x.2.2 := CAt_fr hA (fun q j hq => by
    rw [up_ne (by omega), up_ne (by omega), up_ne (by omega)])
  obtain ⟨t1, t2⟩ := take_ok (y := y) (by decide) hA1 (mrun_OK hA.2.1 hA.2.2.2.1 k x hx) (by omega) (show stp T (S 1) (x.1, x.2.1, x.2.2) e n = some y from hs)
  rw [er, t2 q j (by omega), up_ne h2, up_ne (by omega), up_ne (by omega)]
theorem cplay_iff {x : mS} {e n : Int32} (h6 : σ 0 6 = N k) (hk : k ≤ 400) (hA : CAt σ 7 T S x.1 x.2.1 x.2.2) (hx : mrun T S (σ 33) (σ 34) k = some x) : (k < 400 ∧ canS x.1 x.2.1 x.2.2 e n → ¬ v_X4_isEvent e = 0 ∧ ¬ v_X4_canCome σ e = 0 ∧ (¬ v_X4_bearsNumber e = 0 → ¬ v_X0_fits σ 7 e n = 0)) := by
  have hO := mrun_OK hA.2.1 hA.2.2.2.1 k x hx
  intro ⟨h1, h2, h3, h4, h5⟩
  have hi : x.1 < 2 := by
    by_cases w : e = 100
    · have := (h3 w).1; omega
    · exact h4 w
  have hfi := fits_iff (e := e) (n := n) hA hi (hO.2.2.2.1 x.1 hi) (hO.2.2.2.1 1 (by decide))
  have h0 := hO.2.2.1
  refine ⟨isEvent4.mpr h2, (canCome_iff h6 hk hA hO.1 hO.2.1).mpr ⟨h1, hi, fun w => ?_⟩, fun w => hfi.mpr ⟨fun v => (h3 v).2, fun v => ?_⟩⟩
  · have := (h3 w).1; omega
  · have hb := bears_iff (e := e)
    have e99 : e = 99 := Decidable.not_not.mp (fun u => w (hb.mpr ⟨u, v⟩))
    exact h5 e99
theorem C_playY {x : mS} {e n : Int32} (h : CInv σ T S k t) (hx : mrun T S (σ 33) (σ 34) k = some x) (hc : k < 400 ∧ canS x.1 x.2.1 x.2.2 e n) : r_X4_play σ e n = (N (k + 1), s_X4_record σ e n) ∧ CInv (s_X4_record σ e n) T S (k + 1) t ∧ (s_X4_record σ e n) 33 k = e ∧ (s_X4_record σ e n) 34 k = n ∧ (∀ q j, ¬ (7 ≤ q ∧ q ≤ 19) → ¬ (q = 0 ∧ j = 6) → ¬ ((q = 33 ∨ q = 34) ∧ j = k) → (s_X4_record σ e n) q j = σ q j) := by
  obtain ⟨⟨a1, a2, x', a3, a4⟩, ht, h5⟩ := id h
  have ex : x' = x := Option.some.inj (a3.symm.trans hx)
  subst ex
  obtain ⟨g1, g2, g3⟩ := cplay_iff a1 a2 a4 a3 hc
  obtain ⟨y, hy⟩ := stp_some (T := T) (mean := S 1) hc.2
  obtain ⟨c1, c2, c3, c4, c5, c6⟩ := crec_ok (y := y) a1 hc.1 a4 a3 hy
  have hf := fun (q j : Nat) => crec_f (q := q) (j := j) (y := y) a1 hc.1 a4 a3 hy
  refine ⟨?_, ⟨⟨c1, by omega, y, c2, c3⟩, by rw [hf 5 1 (by decide) (by decide) (by omega)]; exact ht, h5⟩, c5, c6, fun q j => hf q j⟩
  unfold r_X4_play
  rw [if_neg g1, if_pos g2, c1]
  by_cases g4 : v_X4_bearsNumber e = 0
  · rw [if_pos g4]
  · rw [if_neg g4, if_pos (g3 g4)]
theorem C_playN {x : mS} {e n : Int32} (h : CInv σ T S k t) (hx : mrun T S (σ 33) (σ 34) k = some x) (hc : ¬ (k < 400 ∧ canS x.1 x.2.1 x.2.2 e n)) : r_X4_play σ e n = (-1, σ) := by
  obtain ⟨⟨a1, a2, x', a3, a4⟩, ht, h5⟩ := id h
  have ex : x' = x := Option.some.inj (a3.symm.trans hx)
  subst ex
  unfold r_X4_play
  by_cases g1 : v_X4_isEvent e = 0
  · rw [if_pos g1]
  rw [if_neg g1]
  by_cases g2 : ¬ v_X4_canCome σ e = 0
  · rw [if_pos g2]
    by_cases g3 : v_X4_bearsNumber e = 0
    · exact absurd (cplay_can (n := n) a1 a2 a4 a3 g1 g2 (fun z => absurd g3 z)) hc
    · rw [if_neg g3]
      by_cases g4 : ¬ v_X0_fits σ 7 e n = 0
      · exact absurd (cplay_can (n := n) a1 a2 a4 a3 g1 g2 (fun _ => g4)) hc
      · rw [if_neg g4]
  · rw [if_neg g2]
/-- the reference's flag: the event can come -/
theorem R_playF {x : mS} {e n : Int32} (h : RInv σ T S k t) (hx : mrun T S (σ 39) (σ 40) k = some x) : ∃ y0 : Int32, (¬ y0 = 0 ↔ (k < 400 ∧ canS x.1 x.2.1 x.2.2 e n)) ∧ r_X5_play σ e n = r_X5_play_a77 (s_X5_goesOn (sg_up σ 35 0 0)) e n y0 := by
  have h0 := RInv_0 (v := 0) h
  have e39 : (sg_up σ 35 0 0) 39 = σ 39 := funext (fun j => up_c (by decide))
  have e40 : (sg_up σ 35 0 0) 40 = σ 40 := funext (fun j => up_c (by decide))
  obtain ⟨g1, g2, g3, g4⟩ := goesOn_ok (x := x) h0 (by rw [e39, e40]; exact hx)
  have hI := g4.q.inv h0
  have h6 : (s_X5_goesOn (sg_up σ 35 0 0)) 35 6 = N k := hI.2.2.2.2.1
  have hk : k ≤ 400 := h.2.2.2.2.2.1
  have hc4 : ((400 : Int32) ≤ (s_X5_goesOn (sg_up σ 35 0 0)) 35 6) ↔ ¬ k < 400 := by
    rw [h6]
    show (N 400 ≤ N k) ↔ _
    rw [N_le (by decide) (by omega)]; omega
  have hno := now_lt g2 g3.1
  have hea := isEarly_iff g2 g3.1 g3.2.1
  have hmd := mayDrop_iff (n := n) g2 (g3.2.2.2.1 1 (by decide))
  have z0 : ¬ ¬ (0 : Int32) = 0 := nn0
  unfold r_X5_play
  by_cases c0 : v_X5_isEvent e = 0
  · rw [if_pos c0]
    exact ⟨0, ⟨fun w => absurd w z0, fun w => absurd c0 (isEvent5.mpr w.2.1)⟩, rfl⟩
  rw [if_neg c0]
  have hev := isEvent5.mp c0
  by_cases c4 : (400 : Int32) ≤ (s_X5_goesOn (sg_up σ 35 0 0)) 35 6
  · rw [if_pos c4]
    exact ⟨0, ⟨fun w => absurd w z0, fun w => absurd w.1 (hc4.mp c4)⟩, rfl⟩
  rw [if_neg c4]
  have c4' : k < 400 := Decidable.not_not.mp (fun w => c4 (hc4.mpr w))
  by_cases h100 : e = 100
  · rw [if_neg (show ¬ ¬ e = 100 from fun w => w h100)]
    by_cases hy : v_X5_isEarly (s_X5_goesOn (sg_up σ 35 0 0)) = 0
    · rw [if_pos hy]
      exact ⟨0, ⟨fun w => absurd w z0, fun w => absurd hy (hea.mpr (w.2.2.1 h100).1)⟩, rfl⟩
    rw [if_neg hy]
    by_cases hm : v_X5_mayDrop (s_X5_goesOn (sg_up σ 35 0 0)) n = 0
    · rw [if_pos hm]
      exact ⟨0, ⟨fun w => absurd w z0, fun w => absurd hm (hmd.mpr (w.2.2.1 h100).2)⟩, rfl⟩
    · rw [if_neg hm]
      exact ⟨1, ⟨fun _ => ⟨c4', hev, fun _ => ⟨hea.mp hy, hmd.mp hm⟩, fun w => absurd h100 w, fun w => absurd (h100.symm.trans w) (by decide)⟩, fun _ => one_nz⟩, rfl⟩
  · rw [if_pos h100]
    by_cases hy : (2 : Int32) ≤ (s_X5_goesOn (sg_up σ 35 0 0)) 35 23
    · rw [if_pos hy]
      exact ⟨0, ⟨fun w => absurd w z0, fun w => absurd (w.2.2.2.1 h100) (hno.mp hy)⟩, rfl⟩
    rw [if_neg hy]
    have hi : x.1 < 2 := Decidable.not_not.mp (fun w => hy (hno.mpr w))
    have hmc := (mayCut_iff (n := n) g2 hi (g3.2.2.2.1 x.1 hi)).2
    by_cases h99 : e = 99
    · rw [if_neg (show ¬ ¬ e = 99 from fun w => w h99)]
      by_cases hm : v_X5_mayCut (s_X5_goesOn (sg_up σ 35 0 0)) n = 0
      · rw [if_pos hm]
        exact ⟨0, ⟨fun w => absurd w z0, fun w => absurd hm (hmc.mpr (w.2.2.2.2 h99))⟩, rfl⟩
      · rw [if_neg hm]
        exact ⟨1, ⟨fun _ => ⟨c4', hev, fun w => absurd w h100, fun _ => hi, fun _ => hmc.mp hm⟩, fun _ => one_nz⟩, rfl⟩
    · rw [if_pos h99]
      exact ⟨1, ⟨fun _ => ⟨c4', hev, fun w => absurd w h100, fun _ => hi, fun w => absurd w h99⟩, fun _ => one_nz⟩, rfl⟩
theorem R_playY {x : mS} {e n : Int32} (h : RInv σ T S k t) (hx : mrun T S (σ 39) (σ 40) k = some x) (hc : k < 400 ∧ canS x.1 x.2.1 x.2.2 e n) : (r_X5_play σ e n).1 = N (k + 1) ∧ RInv (r_X5_play σ e n).2 T S (k + 1) t ∧ (r_X5_play σ e n).2 39 k = e ∧ (r_X5_play σ e n).2 40 k = n ∧ (∀ q j, ¬ (41 ≤ q ∧ q ≤ 56) → ¬ (q = 35 ∧ (j = 0 ∨ j = 6 ∨ j = 23 ∨ j = 24)) → ¬ ((q = 39 ∨ q = 40) ∧ j = k) → (r_X5_play σ e n).2 q j = σ q j) := by
  have h0 := RInv_0 (v := 0) h
  have e39 : (sg_up σ 35 0 0) 39 = σ 39 := funext (fun j => up_c (by decide))
  have e40 : (sg_up σ 35 0 0) 40 = σ 40 := funext (fun j => up_c (by decide))
  obtain ⟨g1, g2, g3, g4⟩ := goesOn_ok (x := x) h0 (by rw [e39, e40]; exact hx)
  have hI := g4.q.inv h0
  obtain ⟨a1, a2, a3, a4, a5, a6, -, a8, a9⟩ := id hI
  obtain ⟨y0, f1, f2⟩ := R_playF (e := e) (n := n) h hx
  rw [f2]
  have hx1 : mrun T S ((s_X5_goesOn (sg_up σ 35 0 0)) 39) ((s_X5_goesOn (sg_up σ 35 0 0)) 40) k = some x := by
    rw [g4.row (q := 39) (by decide) (by decide), g4.row (q := 40) (by decide) (by decide), e39, e40]; exact hx
  have hfr : ∀ q j, ¬ (41 ≤ q ∧ q ≤ 56) → ¬ (q = 35 ∧ (j = 0 ∨ j = 23 ∨ j = 24)) → (s_X5_goesOn (sg_up σ 35 0 0)) q j = σ q j := fun q j h1 h2 => by
    rw [g4 q j h1 (by omega), up_ne (by omega)]
  generalize s_X5_goesOn (sg_up σ 35 0 0) = G at *
  unfold r_X5_play_a77
  rw [if_pos (f1.mpr hc)]
  obtain ⟨y, hs⟩ := stp_some (T := T) (mean := S 1) hc.2
  have e1 : (sg_up G 39 k e) 35 6 = N k := by rw [up_c (by decide)]; exact a5
  have et : t_X5_play_1 G e n y0 = sg_up (sg_up (sg_up G 39 k e) 40 k n) 35 6 (N (k + 1)) := by
    unfold t_X5_play_1 t_X5_play_0
    rw [a5, ni_N (by omega), e1, ni_N (by omega), up_c (by decide), e1, N_inc]
  dsimp only
  rw [et]
  refine ⟨up_eq, ⟨TabAt_up (TabAt_up (TabAt_up a1 (by decide)) (by decide)) (by decide), a2, SetAt_up (SetAt_up (SetAt_up a3 (by decide)) (by decide)) (by decide), a4, up_eq, by omega, ⟨y, ?_⟩, by rw [up_k (by decide), up_c (by decide), up_c (by decide)]; exact a8, a9⟩, by rw [up_c (by decide), up_c (by decide), up_eq], by rw [up_c (by decide), up_eq], fun q j h1 h2 h3 => ?_⟩
  · have hc : mrun T S ((sg_up (sg_up (sg_up G 39 k e) 40 k n) 35 6 (N (k + 1))) 39) ((sg_up (sg_up (sg_up G 39 k e) 40 k n) 35 6 (N (k + 1))) 40) k = some x := by
      rw [← hx1]
      refine mrun_congr k (fun j hj => ⟨?_, ?_⟩)
      · rw [up_c (by decide), up_c (by decide), up_k (by omega)]
      · rw [up_c (by decide), up_k (by omega), up_c (by decide)]
    rw [mrun_some hc, up_c (by decide), up_c (by decide), up_eq, up_c (by decide), up_eq]
    exact hs
  · rw [up_ne (by omega), up_ne (by omega), up_ne (by omega)]
    exact hfr q j h1 (by omega)
theorem R_playN {x : mS} {e n : Int32} (h : RInv σ T S k t) (hx : mrun T S (σ 39) (σ 40) k = some x) (hc : ¬ (k < 400 ∧ canS x.1 x.2.1 x.2.2 e n)) : (r_X5_play σ e n).1 = -1 ∧ QSame σ (r_X5_play σ e n).2 := by
  have h0 := RInv_0 (v := 0) h
  have e39 : (sg_up σ 35 0 0) 39 = σ 39 := funext (fun j => up_c (by decide))
  have e40 : (sg_up σ 35 0 0) 40 = σ 40 := funext (fun j => up_c (by decide))
  obtain ⟨g1, g2, g3, g4⟩ := goesOn_ok (x := x) h0 (by rw [e39, e40]; exact hx)
  obtain ⟨y0, f1, f2⟩ := R_playF (e := e) (n := n) h hx
  rw [f2]
  unfold r_X5_play_a77
  rw [if_neg (fun w => hc (f1.mp w))]
  exact ⟨rfl, QSame_0.tr g4.q⟩
end CallsFull
