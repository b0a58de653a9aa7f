/-! THE LAW RUNS, whatever the script -/
def CI (σ : sg_S) (T : Nat → Nat) (t : Nat) : Prop := ∃ S k, CInv σ T S k t
def RI (σ : sg_S) (T : Nat → Nat) (t : Nat) : Prop := ∃ S k, RInv σ T S k t
def Inv2 (σ : sg_S) : Prop := ∃ T t, CI σ T t ∧ RI σ T t ∧ Tape σ t
theorem RI_hi {σ σ' : sg_S} {T : Nat → Nat} {t : Nat} (h : RI σ T t) (hs : HiS σ σ') : RI σ' T t := by
  obtain ⟨S, k, hr⟩ := h
  refine ⟨S, k, RInv_of hr (fun j _ => hs 37 j (by decide)) (fun j _ => hs 36 j (by decide)) (hs 35 6 (by decide)) (fun j _ => ⟨hs 39 j (by decide), hs 40 j (by decide)⟩) ?_ hr.2.2.2.2.2.2.2.2⟩
  rw [hs 35 26 (by decide)]; exact hr.2.2.2.2.2.2.2.1
theorem CI_lo {σ σ' : sg_S} {T : Nat → Nat} {t : Nat} (h : CI σ T t) (hs : LoS σ σ') : CI σ' T t := by
  obtain ⟨S, k, hc⟩ := h
  exact ⟨S, k, CSt_fr hc.1 (hs 0 6 (by decide)) (fun j _ => ⟨hs 33 j (by decide), hs 34 j (by decide)⟩) (fun q j hq => hs q j (by omega)), by rw [hs 5 1 (by decide)]; exact hc.2.1, hc.2.2⟩
theorem Tape_q {σ σ' : sg_S} {t : Nat} (h : Tape σ t) (hq : QSame σ σ') : Tape σ' t := Tape_fr h (Nat.le_refl _) (fun j => hq 57 j (by decide) (by decide) (by omega)) (fun j => hq.lo 6 j (by decide))
theorem Inv2_q {σ1 σ2 : sg_S} {T : Nat → Nat} {t : Nat} (hc : CI σ1 T t) (hr : RI σ1 T t) (hT : Tape σ1 t) (hq : QSame σ1 σ2) : Inv2 σ2 := by
  obtain ⟨S, k, hr⟩ := hr
  exact ⟨T, t, CI_lo hc hq.lo, ⟨S, k, hq.inv hr⟩, Tape_q hT hq⟩
theorem o_lo {σ : sg_S} {v : Int32} : LoS σ (sg_up σ 60 0 v) := fun q k h => up_c (by omega)
theorem o_T {σ : sg_S} {t : Nat} {v : Int32} (h : Tape σ t) : Tape (sg_up σ 60 0 v) t := Tape_fr h (Nat.le_refl _) (fun j => up_c (by decide)) (fun j => up_c (by decide))
theorem o_RI {σ : sg_S} {T : Nat → Nat} {t : Nat} {v : Int32} (h : RI σ T t) : RI (sg_up σ 60 0 v) T t := by
  obtain ⟨S, k, hr⟩ := h
  exact ⟨S, k, RInv_of hr (fun j _ => up_c (by decide)) (fun j _ => up_c (by decide)) (up_c (by decide)) (fun j _ => ⟨up_c (by decide), up_c (by decide)⟩) (by rw [up_c (by decide)]; exact hr.2.2.2.2.2.2.2.1) hr.2.2.2.2.2.2.2.2⟩
section LawRuns
variable {s : List Int32} {i mc ms : Nat} {σ : sg_S} {l5 l6 : Option (ip_V Int32)}
def HK (s : List Int32) (i mc ms : Nat) : Prop := ∀ (σ' : sg_S) (l5 l6 : Option (ip_V Int32)) (mc' ms' : Nat), Inv2 σ' → mc' ≤ mc + 1 → ms' ≤ ms + 6 → LR s (LF 1247 i l5 l6 [] σ' mc' ms')
theorem st_0 (hs : s.length ≤ 3072) (hi : i + 6 ≤ s.length) (hmc : mc + 1 ≤ ip_bc 207) (hms : ms + 6 ≤ ip_bs 207) (h : Inv2 σ) (hk : HK s i mc ms) : LR s (LF 204 i l5 l6 [] σ mc ms) := by
  obtain ⟨T, t, hc, hr, hT⟩ := h
  obtain ⟨S, k, hr0⟩ := id hr
  obtain ⟨S1, k1, hc1⟩ := hc
  have c4 : HiS σ (r_X4_feed σ (s.getD (i + 1) 0) (s.getD (i + 2) 0) (s.getD (i + 3) 0) (s.getD (i + 4) 0) (s.getD (i + 5) 0)).2 := (C_feedI (x0 := (s.getD (i + 1) 0)) (x1 := (s.getD (i + 2) 0)) (x2 := (s.getD (i + 3) 0)) (x3 := (s.getD (i + 4) 0)) (x4 := (s.getD (i + 5) 0)) hc1).2
  obtain ⟨S2, k2, hr2⟩ := RI_hi hr c4
  obtain ⟨e9, t9, c9, r9, T9⟩ := both_feed (x0 := (s.getD (i + 1) 0)) (x1 := (s.getD (i + 2) 0)) (x2 := (s.getD (i + 3) 0)) (x3 := (s.getD (i + 4) 0)) (x4 := (s.getD (i + 5) 0)) hc1 hr2 c4 rfl hT
  have b0 := (R_feedI (x0 := (s.getD (i + 1) 0)) (x1 := (s.getD (i + 2) 0)) (x2 := (s.getD (i + 3) 0)) (x3 := (s.getD (i + 4) 0)) (x4 := (s.getD (i + 5) 0)) hr2).1
  have b6 : LoS _ _ := (R_feedI (x0 := (s.getD (i + 1) 0)) (x1 := (s.getD (i + 2) 0)) (x2 := (s.getD (i + 3) 0)) (x3 := (s.getD (i + 4) 0)) (x4 := (s.getD (i + 5) 0)) hr2).2.2
  exact lc_0 hs hi (by omega) (by omega) (m_X4_feed (s.getD (i + 1) 0) (s.getD (i + 2) 0) (s.getD (i + 3) 0) (s.getD (i + 4) 0) (s.getD (i + 5) 0) (q_X4_feed _ _ _ _ _ _)) (m_X5_feed (s.getD (i + 1) 0) (s.getD (i + 2) 0) (s.getD (i + 3) 0) (s.getD (i + 4) 0) (s.getD (i + 5) 0) b0) (hk _ l5 l6 mc ms ⟨T, t9, CI_lo ⟨_, _, c9⟩ b6, ⟨_, _, r9⟩, T9⟩ (by omega) (by omega))
theorem st_1 (hs : s.length ≤ 3072) (hi : i + 6 ≤ s.length) (hmc : mc + 1 ≤ ip_bc 207) (hms : ms + 6 ≤ ip_bs 207) (h : Inv2 σ) (hk : HK s i mc ms) : LR s (LF 277 i l5 l6 [] σ mc ms) := by
  obtain ⟨T, t, hc, hr, hT⟩ := h
  obtain ⟨S, k, hr0⟩ := id hr
  obtain ⟨S1, k1, hc1⟩ := hc
  have c4 : HiS σ (r_X4_end σ (s.getD (i + 1) 0)).2 := (C_endI (n := (s.getD (i + 1) 0)) hc1).2
  obtain ⟨S2, k2, hr2⟩ := RI_hi hr c4
  obtain ⟨e9, t9, c9, r9, T9⟩ := both_end (n := (s.getD (i + 1) 0)) hc1 hr2 c4 rfl hT
  have b0 := True.intro
  have b6 : LoS _ _ := (R_endI (n := (s.getD (i + 1) 0)) hr2).2
  exact lc_1 hs hi (by omega) (by omega) (m_X4_end (s.getD (i + 1) 0)) (m_X5_end (s.getD (i + 1) 0)) (hk _ l5 l6 mc ms ⟨T, t9, CI_lo ⟨_, _, c9⟩ b6, ⟨_, _, r9⟩, T9⟩ (by omega) (by omega))
theorem st_2 (hs : s.length ≤ 3072) (hi : i + 6 ≤ s.length) (hmc : mc + 1 ≤ ip_bc 207) (hms : ms + 6 ≤ ip_bs 207) (h : Inv2 σ) (hk : HK s i mc ms) : LR s (LF 302 i l5 l6 [] σ mc ms) := by
  obtain ⟨T, t, hc, hr, hT⟩ := h
  obtain ⟨S, k, hr0⟩ := id hr
  obtain ⟨S1, k1, hc1⟩ := hc
  have c4 := (C_table hc1).2
  obtain ⟨S2, k2, hr2⟩ := RI_hi hr c4
  obtain ⟨b0, -, b6⟩ := R_table hr2
  rcases both_table hc1 hr2 c4 hT with ⟨V9, r9, u1, u2, u3, u4, -, -⟩ | ⟨f9, u1, u2, u3, u4, -, -⟩
  · exact lc_2 hs hi (by omega) (by omega) (m_X4_table  (q_X4_table _)) (m_X5_table  b0) (hk _ l5 l6 mc ms ⟨V9, 0, CI_lo ⟨_, _, u3⟩ b6, ⟨_, _, u4⟩, Tape_0⟩ (by omega) (by omega))
  · exact lc_2 hs hi (by omega) (by omega) (m_X4_table  (q_X4_table _)) (m_X5_table  b0) (hk _ l5 l6 mc ms ⟨T, 0, CI_lo ⟨_, _, u3⟩ b6, ⟨_, _, u4⟩, Tape_0⟩ (by omega) (by omega))
theorem st_3 (hs : s.length ≤ 3072) (hi : i + 6 ≤ s.length) (hmc : mc + 1 ≤ ip_bc 207) (hms : ms + 6 ≤ ip_bs 207) (h : Inv2 σ) (hk : HK s i mc ms) : LR s (LF 315 i l5 l6 [] σ mc ms) := by
  obtain ⟨T, t, hc, hr, hT⟩ := h
  obtain ⟨S, k, hr0⟩ := id hr
  obtain ⟨S1, k1, hc1⟩ := hc
  obtain ⟨⟨k3, c3⟩, c4⟩ := C_events  hc1
  obtain ⟨S2, k2, hr2⟩ := RI_hi hr c4
  obtain ⟨b0, ⟨k4, b5⟩, b6⟩ := R_events  hr2
  exact lc_3 hs hi (by omega) (by omega) (m_X4_events  (q_X4_events _)) (m_X5_events  b0) (hk _ l5 l6 mc ms ⟨T, 0, CI_lo ⟨_, _, c3⟩ b6, ⟨_, _, b5⟩, Tape_0⟩ (by omega) (by omega))
theorem st_4 (hs : s.length ≤ 3072) (hi : i + 6 ≤ s.length) (hmc : mc + 1 ≤ ip_bc 207) (hms : ms + 6 ≤ ip_bs 207) (h : Inv2 σ) (hk : HK s i mc ms) : LR s (LF 328 i l5 l6 [] σ mc ms) := by
  obtain ⟨T, t, hc, hr, hT⟩ := h
  obtain ⟨S, k, hr0⟩ := id hr
  exact lc_4 hs hi (by omega) (by omega) (m_X4_fault ) (m_X5_fault ) (hk _ l5 l6 mc ms (Inv2_q hc hr hT R_fault) (by omega) (by omega))
theorem st_5 (hs : s.length ≤ 3072) (hi : i + 6 ≤ s.length) (hmc : mc + 1 ≤ ip_bc 207) (hms : ms + 6 ≤ ip_bs 207) (h : Inv2 σ) (hk : HK s i mc ms) : LR s (LF 341 i l5 l6 [] σ mc ms) := by
  obtain ⟨T, t, hc, hr, hT⟩ := h
  obtain ⟨S, k, hr0⟩ := id hr
  obtain ⟨S1, k1, hc1⟩ := hc
  obtain ⟨⟨S3, k3, c3⟩, c4⟩ := C_set (x0 := (s.getD (i + 1) 0)) (x1 := (s.getD (i + 2) 0)) hc1
  obtain ⟨S2, k2, hr2⟩ := RI_hi hr c4
  obtain ⟨b0, ⟨S4, k4, b5⟩, b6⟩ := R_set (x0 := (s.getD (i + 1) 0)) (x1 := (s.getD (i + 2) 0)) hr2
  exact lc_5 hs hi (by omega) (by omega) (m_X4_set (s.getD (i + 1) 0) (s.getD (i + 2) 0) (q_X4_set _ _ _)) (m_X5_set (s.getD (i + 1) 0) (s.getD (i + 2) 0) b0) (hk _ l5 l6 mc ms ⟨T, t, CI_lo ⟨_, _, c3⟩ b6, ⟨_, _, b5⟩, (Tape_fr hT (Nat.le_refl _) (fun j => (R57_set j).trans (c4 57 j (by decide))) (fun j => (b6 6 j (by decide)).trans (C6_set hc1 j)))⟩ (by omega) (by omega))
theorem st_6 (hs : s.length ≤ 3072) (hi : i + 6 ≤ s.length) (hmc : mc + 1 ≤ ip_bc 207) (hms : ms + 6 ≤ ip_bs 207) (h : Inv2 σ) (hk : HK s i mc ms) : LR s (LF 378 i l5 l6 [] σ mc ms) := by
  obtain ⟨T, t, hc, hr, hT⟩ := h
  obtain ⟨S, k, hr0⟩ := id hr
  obtain ⟨S1, k1, hc1⟩ := hc
  obtain ⟨⟨k3, c3⟩, c4⟩ := C_play (x0 := (s.getD (i + 1) 0)) (x1 := (s.getD (i + 2) 0)) hc1
  obtain ⟨S2, k2, hr2⟩ := RI_hi hr c4
  obtain ⟨b0, ⟨k4, b5⟩, b6⟩ := R_play (x0 := (s.getD (i + 1) 0)) (x1 := (s.getD (i + 2) 0)) hr2
  exact lc_6 hs hi (by omega) (by omega) (m_X4_play (s.getD (i + 1) 0) (s.getD (i + 2) 0) (q_X4_play _ _ _)) (m_X5_play (s.getD (i + 1) 0) (s.getD (i + 2) 0) b0) (hk _ l5 l6 mc ms ⟨T, t, CI_lo ⟨_, _, c3⟩ b6, ⟨_, _, b5⟩, (Tape_fr hT (Nat.le_refl _) (fun j => (R57_play hr2 j).trans (c4 57 j (by decide))) (fun j => (b6 6 j (by decide)).trans (C6_play hc1 j)))⟩ (by omega) (by omega))
theorem st_7 (hs : s.length ≤ 3072) (hi : i + 6 ≤ s.length) (hmc : mc + 1 ≤ ip_bc 207) (hms : ms + 6 ≤ ip_bs 207) (h : Inv2 σ) (hk : HK s i mc ms) : LR s (LF 415 i l5 l6 [] σ mc ms) := by
  obtain ⟨T, t, hc, hr, hT⟩ := h
  obtain ⟨S, k, hr0⟩ := id hr
  obtain ⟨S1, k1, hc1⟩ := hc
  obtain ⟨⟨k3, c3⟩, c4⟩ := C_back  hc1
  obtain ⟨S2, k2, hr2⟩ := RI_hi hr c4
  obtain ⟨⟨k4, b5⟩, b6⟩ := R_back  hr2
  exact lc_7 hs hi (by omega) (by omega) (m_X4_back  (q_X4_back _)) (m_X5_back ) (hk _ l5 l6 mc ms ⟨T, t, CI_lo ⟨_, _, c3⟩ b6, ⟨_, _, b5⟩, (Tape_fr hT (Nat.le_refl _) (fun j => (R57_back j).trans (c4 57 j (by decide))) (fun j => (b6 6 j (by decide)).trans (C6_back hc1 j)))⟩ (by omega) (by omega))
theorem st_8 (hs : s.length ≤ 3072) (hi : i + 6 ≤ s.length) (hmc : mc + 1 ≤ ip_bc 207) (hms : ms + 6 ≤ ip_bs 207) (h : Inv2 σ) (hk : HK s i mc ms) : LR s (LF 428 i l5 l6 [] σ mc ms) := by
  obtain ⟨T, t, hc, hr, hT⟩ := h
  obtain ⟨S, k, hr0⟩ := id hr
  obtain ⟨S1, k1, hc1⟩ := hc
  obtain ⟨c3, c4⟩ := C_clear  hc1
  obtain ⟨S2, k2, hr2⟩ := RI_hi hr c4
  obtain ⟨b5, b6⟩ := R_clear  hr2
  exact lc_8 hs hi (by omega) (by omega) (m_X4_clear  (q_X4_clear _)) (m_X5_clear ) (hk _ l5 l6 mc ms ⟨T, t, CI_lo ⟨_, _, c3⟩ b6, ⟨_, _, b5⟩, (Tape_fr hT (Nat.le_refl _) (fun j => (R57_clear j).trans (c4 57 j (by decide))) (fun j => (b6 6 j (by decide)).trans (C6_clear hc1 j)))⟩ (by omega) (by omega))
theorem st_9 (hs : s.length ≤ 3072) (hi : i + 6 ≤ s.length) (hmc : mc + 1 ≤ ip_bc 207) (hms : ms + 6 ≤ ip_bs 207) (h : Inv2 σ) (hk : HK s i mc ms) : LR s (LF 441 i l5 l6 [] σ mc ms) := by
  obtain ⟨T, t, hc, hr, hT⟩ := h
  obtain ⟨S, k, hr0⟩ := id hr
  have r := R_count (x0 := (s.getD (i + 1) 0)) hr0
  exact lc_9 hs hi (by omega) (by omega) (m_X4_count (s.getD (i + 1) 0) (q_X4_count _)) (m_X5_count (s.getD (i + 1) 0) r.1) (hk _ l5 l6 mc ms (Inv2_q hc hr hT r.2) (by omega) (by omega))
theorem st_10 (hs : s.length ≤ 3072) (hi : i + 6 ≤ s.length) (hmc : mc + 1 ≤ ip_bc 207) (hms : ms + 6 ≤ ip_bs 207) (h : Inv2 σ) (hk : HK s i mc ms) : LR s (LF 466 i l5 l6 [] σ mc ms) := by
  obtain ⟨T, t, hc, hr, hT⟩ := h
  obtain ⟨S, k, hr0⟩ := id hr
  obtain ⟨S1, k1, hc1⟩ := id hc
  obtain ⟨⟨z1, z2, z3, z4, z5⟩, -, -⟩ := hc1
  have r := R_worth (x0 := (s.getD (i + 1) 0)) (x1 := (s.getD (i + 2) 0)) (σ := σ)
  exact lc_10 hs hi (by omega) (by omega) (m_X4_worth (s.getD (i + 1) 0) (s.getD (i + 2) 0) (q_X4_worth _ _)) (m_X5_worth (s.getD (i + 1) 0) (s.getD (i + 2) 0) r.1) (both_worth z5.1 z5.2.1 hr0.1) (hk _ l5 l6 mc ms (Inv2_q hc hr hT r.2) (by omega) (by omega))
theorem st_11 (hs : s.length ≤ 3072) (hi : i + 6 ≤ s.length) (hmc : mc + 1 ≤ ip_bc 207) (hms : ms + 6 ≤ ip_bs 207) (h : Inv2 σ) (hk : HK s i mc ms) : LR s (LF 503 i l5 l6 [] σ mc ms) := by
  obtain ⟨T, t, hc, hr, hT⟩ := h
  obtain ⟨S, k, hr0⟩ := id hr
  have r := R_told (x0 := (s.getD (i + 1) 0)) (x1 := (s.getD (i + 2) 0)) (σ := σ)
  exact lc_11 hs hi (by omega) (by omega) (m_X4_told (s.getD (i + 1) 0) (s.getD (i + 2) 0) (q_X4_told _ _)) (m_X5_told (s.getD (i + 1) 0) (s.getD (i + 2) 0) r.1) (hk _ l5 l6 mc ms (Inv2_q hc hr hT r.2) (by omega) (by omega))
theorem st_12 (hs : s.length ≤ 3072) (hi : i + 6 ≤ s.length) (hmc : mc + 1 ≤ ip_bc 207) (hms : ms + 6 ≤ ip_bs 207) (h : Inv2 σ) (hk : HK s i mc ms) : LR s (LF 540 i l5 l6 [] σ mc ms) := by
  obtain ⟨T, t, hc, hr, hT⟩ := h
  have hc1 : CI (o_innings σ (v_X4_innings σ (s.getD (i + 1) 0) (s.getD (i + 2) 0))) T t := by
    cases v_X4_innings σ (s.getD (i + 1) 0) (s.getD (i + 2) 0) with
    | none => exact hc
    | some d => exact CI_lo hc o_lo
  have hr1 : RI (o_innings σ (v_X4_innings σ (s.getD (i + 1) 0) (s.getD (i + 2) 0))) T t := by
    cases v_X4_innings σ (s.getD (i + 1) 0) (s.getD (i + 2) 0) with
    | none => exact hr
    | some d => exact o_RI hr
  have hT1 : Tape (o_innings σ (v_X4_innings σ (s.getD (i + 1) 0) (s.getD (i + 2) 0))) t := by
    cases v_X4_innings σ (s.getD (i + 1) 0) (s.getD (i + 2) 0) with
    | none => exact hT
    | some d => exact o_T hT
  obtain ⟨S, k, hr2⟩ := hr1
  have r := R_innings (x0 := (s.getD (i + 1) 0)) (x1 := (s.getD (i + 2) 0)) hr2
  exact lc_12 hs hi (by omega) (by omega) hmc hms (m_X5_innings (s.getD (i + 1) 0) (s.getD (i + 2) 0) r.1) (hk _ _ _ (mc + 1) (ms + 6) (Inv2_q hc1 ⟨S, k, hr2⟩ hT1 r.2) (by omega) (by omega))
theorem st_13 (hs : s.length ≤ 3072) (hi : i + 6 ≤ s.length) (hmc : mc + 1 ≤ ip_bc 207) (hms : ms + 6 ≤ ip_bs 207) (h : Inv2 σ) (hk : HK s i mc ms) : LR s (LF 580 i l5 l6 [] σ mc ms) := by
  obtain ⟨T, t, hc, hr, hT⟩ := h
  have hc1 : CI (o_cut σ (v_X4_cut σ (s.getD (i + 1) 0) (s.getD (i + 2) 0) (s.getD (i + 3) 0))) T t := by
    cases v_X4_cut σ (s.getD (i + 1) 0) (s.getD (i + 2) 0) (s.getD (i + 3) 0) with
    | none => exact hc
    | some d => exact CI_lo hc o_lo
  have hr1 : RI (o_cut σ (v_X4_cut σ (s.getD (i + 1) 0) (s.getD (i + 2) 0) (s.getD (i + 3) 0))) T t := by
    cases v_X4_cut σ (s.getD (i + 1) 0) (s.getD (i + 2) 0) (s.getD (i + 3) 0) with
    | none => exact hr
    | some d => exact o_RI hr
  have hT1 : Tape (o_cut σ (v_X4_cut σ (s.getD (i + 1) 0) (s.getD (i + 2) 0) (s.getD (i + 3) 0))) t := by
    cases v_X4_cut σ (s.getD (i + 1) 0) (s.getD (i + 2) 0) (s.getD (i + 3) 0) with
    | none => exact hT
    | some d => exact o_T hT
  obtain ⟨S, k, hr2⟩ := hr1
  have r := R_cut (x0 := (s.getD (i + 1) 0)) (x1 := (s.getD (i + 2) 0)) (x2 := (s.getD (i + 3) 0)) hr2
  exact lc_13 hs hi (by omega) (by omega) (q_X4_cut _ _ _ _) hmc hms (m_X5_cut (s.getD (i + 1) 0) (s.getD (i + 2) 0) (s.getD (i + 3) 0) r.1) (hk _ _ _ (mc + 1) (ms + 6) (Inv2_q hc1 ⟨S, k, hr2⟩ hT1 r.2) (by omega) (by omega))
theorem st_14 (hs : s.length ≤ 3072) (hi : i + 6 ≤ s.length) (hmc : mc + 1 ≤ ip_bc 207) (hms : ms + 6 ≤ ip_bs 207) (h : Inv2 σ) (hk : HK s i mc ms) : LR s (LF 632 i l5 l6 [] σ mc ms) := by
  obtain ⟨T, t, hc, hr, hT⟩ := h
  obtain ⟨S, k, hr0⟩ := id hr
  have r := R_over (x0 := (s.getD (i + 1) 0)) (x1 := (s.getD (i + 2) 0)) (x2 := (s.getD (i + 3) 0)) hr0
  exact lc_14 hs hi (by omega) (by omega) (m_X4_over (s.getD (i + 1) 0) (s.getD (i + 2) 0) (s.getD (i + 3) 0) (q_X4_over _ _ _)) (m_X5_over (s.getD (i + 1) 0) (s.getD (i + 2) 0) (s.getD (i + 3) 0) r.1) (hk _ l5 l6 mc ms (Inv2_q hc hr hT r.2) (by omega) (by omega))
theorem st_15 (hs : s.length ≤ 3072) (hi : i + 6 ≤ s.length) (hmc : mc + 1 ≤ ip_bc 207) (hms : ms + 6 ≤ ip_bs 207) (h : Inv2 σ) (hk : HK s i mc ms) : LR s (LF 681 i l5 l6 [] σ mc ms) := by
  obtain ⟨T, t, hc, hr, hT⟩ := h
  obtain ⟨S, k, hr0⟩ := id hr
  have r := R_block (x0 := (s.getD (i + 1) 0)) (x1 := (s.getD (i + 2) 0)) hr0
  exact lc_15 hs hi (by omega) (by omega) (m_X4_block (s.getD (i + 1) 0) (s.getD (i + 2) 0) (q_X4_block _ _ _)) (m_X5_block (s.getD (i + 1) 0) (s.getD (i + 2) 0) r.1) (hk _ l5 l6 mc ms (Inv2_q hc hr hT r.2) (by omega) (by omega))
theorem st_16 (hs : s.length ≤ 3072) (hi : i + 6 ≤ s.length) (hmc : mc + 1 ≤ ip_bc 207) (hms : ms + 6 ≤ ip_bs 207) (h : Inv2 σ) (hk : HK s i mc ms) : LR s (LF 718 i l5 l6 [] σ mc ms) := by
  obtain ⟨T, t, hc, hr, hT⟩ := h
  obtain ⟨S, k, hr0⟩ := id hr
  have r := R_blockNow  hr0
  exact lc_16 hs hi (by omega) (by omega) (m_X4_blockNow  (q_X4_blockNow _)) (m_X5_blockNow  r.1) (hk _ l5 l6 mc ms (Inv2_q hc hr hT r.2) (by omega) (by omega))
theorem st_17 (hs : s.length ≤ 3072) (hi : i + 6 ≤ s.length) (hmc : mc + 1 ≤ ip_bc 207) (hms : ms + 6 ≤ ip_bs 207) (h : Inv2 σ) (hk : HK s i mc ms) : LR s (LF 731 i l5 l6 [] σ mc ms) := by
  obtain ⟨T, t, hc, hr, hT⟩ := h
  obtain ⟨S0, k0, hc0⟩ := id hc
  obtain ⟨S, k, hr0⟩ := id hr
  have r := R_inBlock (x0 := (s.getD (i + 1) 0)) (x1 := (s.getD (i + 2) 0)) (x2 := (s.getD (i + 3) 0)) hr0
  exact lc_17 hs hi (by omega) (by omega) (m_X4_inBlock (s.getD (i + 1) 0) (s.getD (i + 2) 0) (s.getD (i + 3) 0) (C_inBlock hc0)) (m_X5_inBlock (s.getD (i + 1) 0) (s.getD (i + 2) 0) (s.getD (i + 3) 0) r.1) (hk _ l5 l6 mc ms (Inv2_q hc hr hT r.2) (by omega) (by omega))
theorem st_18 (hs : s.length ≤ 3072) (hi : i + 6 ≤ s.length) (hmc : mc + 1 ≤ ip_bc 207) (hms : ms + 6 ≤ ip_bs 207) (h : Inv2 σ) (hk : HK s i mc ms) : LR s (LF 780 i l5 l6 [] σ mc ms) := by
  obtain ⟨T, t, hc, hr, hT⟩ := h
  obtain ⟨S, k, hr0⟩ := id hr
  have r := R_fall (x0 := (s.getD (i + 1) 0)) (x1 := (s.getD (i + 2) 0)) (x2 := (s.getD (i + 3) 0)) hr0
  exact lc_18 hs hi (by omega) (by omega) (m_X4_fall (s.getD (i + 1) 0) (s.getD (i + 2) 0) (s.getD (i + 3) 0) (q_X4_fall _ _ _ _)) (m_X5_fall (s.getD (i + 1) 0) (s.getD (i + 2) 0) (s.getD (i + 3) 0) r.1) (hk _ l5 l6 mc ms (Inv2_q hc hr hT r.2) (by omega) (by omega))
theorem st_19 (hs : s.length ≤ 3072) (hi : i + 6 ≤ s.length) (hmc : mc + 1 ≤ ip_bc 207) (hms : ms + 6 ≤ ip_bs 207) (h : Inv2 σ) (hk : HK s i mc ms) : LR s (LF 829 i l5 l6 [] σ mc ms) := by
  obtain ⟨T, t, hc, hr, hT⟩ := h
  obtain ⟨S, k, hr0⟩ := id hr
  have r := R_lastStand (x0 := (s.getD (i + 1) 0)) hr0
  exact lc_19 hs hi (by omega) (by omega) (m_X4_lastStand (s.getD (i + 1) 0) (q_X4_lastStand _ _)) (m_X5_lastStand (s.getD (i + 1) 0) r.1) (hk _ l5 l6 mc ms (Inv2_q hc hr hT r.2) (by omega) (by omega))
theorem st_20 (hs : s.length ≤ 3072) (hi : i + 6 ≤ s.length) (hmc : mc + 1 ≤ ip_bc 207) (hms : ms + 6 ≤ ip_bs 207) (h : Inv2 σ) (hk : HK s i mc ms) : LR s (LF 854 i l5 l6 [] σ mc ms) := by
  obtain ⟨T, t, hc, hr, hT⟩ := h
  obtain ⟨S, k, hr0⟩ := id hr
  have r := R_bestStand (x0 := (s.getD (i + 1) 0)) hr0
  exact lc_20 hs hi (by omega) (by omega) (m_X4_bestStand (s.getD (i + 1) 0) (q_X4_bestStand _ _)) (m_X5_bestStand (s.getD (i + 1) 0) r.1) (hk _ l5 l6 mc ms (Inv2_q hc hr hT r.2) (by omega) (by omega))
theorem st_21 (hs : s.length ≤ 3072) (hi : i + 6 ≤ s.length) (hmc : mc + 1 ≤ ip_bc 207) (hms : ms + 6 ≤ ip_bs 207) (h : Inv2 σ) (hk : HK s i mc ms) : LR s (LF 879 i l5 l6 [] σ mc ms) := by
  obtain ⟨T, t, hc, hr, hT⟩ := h
  obtain ⟨S, k, hr0⟩ := id hr
  have r := R_made (x0 := (s.getD (i + 1) 0)) (x1 := (s.getD (i + 2) 0)) hr0
  exact lc_21 hs hi (by omega) (by omega) (m_X4_made (s.getD (i + 1) 0) (s.getD (i + 2) 0) (q_X4_made _ _)) (m_X5_made (s.getD (i + 1) 0) (s.getD (i + 2) 0) r.1) (hk _ l5 l6 mc ms (Inv2_q hc hr hT r.2) (by omega) (by omega))
theorem st_22 (hs : s.length ≤ 3072) (hi : i + 6 ≤ s.length) (hmc : mc + 1 ≤ ip_bc 207) (hms : ms + 6 ≤ ip_bs 207) (h : Inv2 σ) (hk : HK s i mc ms) : LR s (LF 916 i l5 l6 [] σ mc ms) := by
  obtain ⟨T, t, hc, hr, hT⟩ := h
  obtain ⟨S, k, hr0⟩ := id hr
  have r := R_bestOver (x0 := (s.getD (i + 1) 0)) hr0
  exact lc_22 hs hi (by omega) (by omega) (m_X4_bestOver (s.getD (i + 1) 0) (q_X4_bestOver _ _)) (m_X5_bestOver (s.getD (i + 1) 0) r.1) (hk _ l5 l6 mc ms (Inv2_q hc hr hT r.2) (by omega) (by omega))
theorem st_23 (hs : s.length ≤ 3072) (hi : i + 6 ≤ s.length) (hmc : mc + 1 ≤ ip_bc 207) (hms : ms + 6 ≤ ip_bs 207) (h : Inv2 σ) (hk : HK s i mc ms) : LR s (LF 941 i l5 l6 [] σ mc ms) := by
  obtain ⟨T, t, hc, hr, hT⟩ := h
  obtain ⟨S, k, hr0⟩ := id hr
  have r := R_rate (x0 := (s.getD (i + 1) 0)) (x1 := (if s.getD (i + 2) 0 = 0 then 0 else 1)) hr0
  exact lc_23 hs hi (by omega) (by omega) (m_X4_rate (s.getD (i + 1) 0) (if s.getD (i + 2) 0 = 0 then 0 else 1) (q_X4_rate _ _ _)) (m_X5_rate (s.getD (i + 1) 0) (if s.getD (i + 2) 0 = 0 then 0 else 1) r.1) (hk _ l5 l6 mc ms (Inv2_q hc hr hT r.2) (by omega) (by omega))
theorem st_24 (hs : s.length ≤ 3072) (hi : i + 6 ≤ s.length) (hmc : mc + 1 ≤ ip_bc 207) (hms : ms + 6 ≤ ip_bs 207) (h : Inv2 σ) (hk : HK s i mc ms) : LR s (LF 994 i l5 l6 [] σ mc ms) := by
  obtain ⟨T, t, hc, hr, hT⟩ := h
  obtain ⟨S, k, hr0⟩ := id hr
  have r := R_projected  hr0
  exact lc_24 hs hi (by omega) (by omega) (m_X4_projected  (q_X4_projected _)) (m_X5_projected  r.1) (hk _ l5 l6 mc ms (Inv2_q hc hr hT r.2) (by omega) (by omega))
theorem st_25 (hs : s.length ≤ 3072) (hi : i + 6 ≤ s.length) (hmc : mc + 1 ≤ ip_bc 207) (hms : ms + 6 ≤ ip_bs 207) (h : Inv2 σ) (hk : HK s i mc ms) : LR s (LF 1007 i l5 l6 [] σ mc ms) := by
  obtain ⟨T, t, hc, hr, hT⟩ := h
  obtain ⟨S, k, hr0⟩ := id hr
  have r := R_target  hr0
  exact lc_25 hs hi (by omega) (by omega) (m_X4_target  (q_X4_target _)) (m_X5_target  r.1) (hk _ l5 l6 mc ms (Inv2_q hc hr hT r.2) (by omega) (by omega))
theorem st_26 (hs : s.length ≤ 3072) (hi : i + 6 ≤ s.length) (hmc : mc + 1 ≤ ip_bc 207) (hms : ms + 6 ≤ ip_bs 207) (h : Inv2 σ) (hk : HK s i mc ms) : LR s (LF 1020 i l5 l6 [] σ mc ms) := by
  obtain ⟨T, t, hc, hr, hT⟩ := h
  obtain ⟨S, k, hr0⟩ := id hr
  have r := R_par  hr0
  exact lc_26 hs hi (by omega) (by omega) (m_X4_par  (q_X4_par _)) (m_X5_par  r.1) (hk _ l5 l6 mc ms (Inv2_q hc hr hT r.2) (by omega) (by omega))
theorem st_27 (hs : s.length ≤ 3072) (hi : i + 6 ≤ s.length) (hmc : mc + 1 ≤ ip_bc 207) (hms : ms + 6 ≤ ip_bs 207) (h : Inv2 σ) (hk : HK s i mc ms) : LR s (LF 1033 i l5 l6 [] σ mc ms) := by
  obtain ⟨T, t, hc, hr, hT⟩ := h
  obtain ⟨S, k, hr0⟩ := id hr
  have r := R_result  hr0
  exact lc_27 hs hi (by omega) (by omega) (m_X4_result  (q_X4_result _)) (m_X5_result  r.1) (hk _ l5 l6 mc ms (Inv2_q hc hr hT r.2) (by omega) (by omega))
theorem st_28 (hs : s.length ≤ 3072) (hi : i + 6 ≤ s.length) (hmc : mc + 1 ≤ ip_bc 207) (hms : ms + 6 ≤ ip_bs 207) (h : Inv2 σ) (hk : HK s i mc ms) : LR s (LF 1046 i l5 l6 [] σ mc ms) := by
  obtain ⟨T, t, hc, hr, hT⟩ := h
  obtain ⟨S, k, hr0⟩ := id hr
  have r := R_margin  hr0
  exact lc_28 hs hi (by omega) (by omega) (m_X4_margin  (q_X4_margin _)) (m_X5_margin  r.1) (hk _ l5 l6 mc ms (Inv2_q hc hr hT r.2) (by omega) (by omega))
theorem st_29 (hs : s.length ≤ 3072) (hi : i + 6 ≤ s.length) (hmc : mc + 1 ≤ ip_bc 207) (hms : ms + 6 ≤ ip_bs 207) (h : Inv2 σ) (hk : HK s i mc ms) : LR s (LF 1059 i l5 l6 [] σ mc ms) := by
  obtain ⟨T, t, hc, hr, hT⟩ := h
  obtain ⟨S, k, hr0⟩ := id hr
  have r := R_needs (x0 := (s.getD (i + 1) 0)) hr0
  exact lc_29 hs hi (by omega) (by omega) (m_X4_needs (s.getD (i + 1) 0) (q_X4_needs _ _)) (m_X5_needs (s.getD (i + 1) 0) r.1) (hk _ l5 l6 mc ms (Inv2_q hc hr hT r.2) (by omega) (by omega))
theorem st_30 (hs : s.length ≤ 3072) (hi : i + 6 ≤ s.length) (hmc : mc + 1 ≤ ip_bc 207) (hms : ms + 6 ≤ ip_bs 207) (h : Inv2 σ) (hk : HK s i mc ms) : LR s (LF 1084 i l5 l6 [] σ mc ms) := by
  obtain ⟨T, t, hc, hr, hT⟩ := h
  obtain ⟨S0, k0, hc0⟩ := id hc
  obtain ⟨S, k, hr0⟩ := id hr
  have r := R_broken (x0 := (s.getD (i + 1) 0)) hr0
  exact lc_30 hs hi (by omega) (by omega) (m_X4_broken (s.getD (i + 1) 0) (C_broken hc0)) (m_X5_broken (s.getD (i + 1) 0) r.1) (hk _ l5 l6 mc ms (Inv2_q hc hr hT r.2) (by omega) (by omega))
theorem st_31 (hs : s.length ≤ 3072) (hi : i + 6 ≤ s.length) (hmc : mc + 1 ≤ ip_bc 207) (hms : ms + 6 ≤ ip_bs 207) (h : Inv2 σ) (hk : HK s i mc ms) : LR s (LF 1109 i l5 l6 [] σ mc ms) := by
  obtain ⟨T, t, hc, hr, hT⟩ := h
  obtain ⟨S, k, hr0⟩ := id hr
  have r := R_ifCut (x0 := (s.getD (i + 1) 0)) hr0
  exact lc_31 hs hi (by omega) (by omega) (m_X4_ifCut (s.getD (i + 1) 0) (q_X4_ifCut _ _)) (m_X5_ifCut (s.getD (i + 1) 0) r.1) (hk _ l5 l6 mc ms (Inv2_q hc hr hT r.2) (by omega) (by omega))
theorem st_32 (hs : s.length ≤ 3072) (hi : i + 6 ≤ s.length) (hmc : mc + 1 ≤ ip_bc 207) (hms : ms + 6 ≤ ip_bs 207) (h : Inv2 σ) (hk : HK s i mc ms) : LR s (LF 1134 i l5 l6 [] σ mc ms) := by
  obtain ⟨T, t, hc, hr, hT⟩ := h
  obtain ⟨S, k, hr0⟩ := id hr
  have r := R_ifClosed  hr0
  exact lc_32 hs hi (by omega) (by omega) (m_X4_ifClosed  (q_X4_ifClosed _)) (m_X5_ifClosed  r.1) (hk _ l5 l6 mc ms (Inv2_q hc hr hT r.2) (by omega) (by omega))
theorem st_33 (hs : s.length ≤ 3072) (hi : i + 6 ≤ s.length) (hmc : mc + 1 ≤ ip_bc 207) (hms : ms + 6 ≤ ip_bs 207) (h : Inv2 σ) (hk : HK s i mc ms) : LR s (LF 1147 i l5 l6 [] σ mc ms) := by
  obtain ⟨T, t, hc, hr, hT⟩ := h
  obtain ⟨S, k, hr0⟩ := id hr
  have r := R_ifRuns (x0 := (s.getD (i + 1) 0)) hr0
  exact lc_33 hs hi (by omega) (by omega) (m_X4_ifRuns (s.getD (i + 1) 0) (q_X4_ifRuns _ _)) (m_X5_ifRuns (s.getD (i + 1) 0) r.1) (hk _ l5 l6 mc ms (Inv2_q hc hr hT r.2) (by omega) (by omega))
theorem st_34 (hs : s.length ≤ 3072) (hi : i + 6 ≤ s.length) (hmc : mc + 1 ≤ ip_bc 207) (hms : ms + 6 ≤ ip_bs 207) (h : Inv2 σ) (hk : HK s i mc ms) : LR s (LF 1172 i l5 l6 [] σ mc ms) := by
  obtain ⟨T, t, hc, hr, hT⟩ := h
  obtain ⟨S, k, hr0⟩ := id hr
  have r := R_leastCut (x0 := (s.getD (i + 1) 0)) hr0
  exact lc_34 hs hi (by omega) (by omega) (m_X4_leastCut (s.getD (i + 1) 0) (q_X4_leastCut _ _)) (m_X5_leastCut (s.getD (i + 1) 0) r.1) (hk _ l5 l6 mc ms (Inv2_q hc hr hT r.2) (by omega) (by omega))
theorem st_35 (hs : s.length ≤ 3072) (hi : i + 6 ≤ s.length) (hmc : mc + 1 ≤ ip_bc 207) (hms : ms + 6 ≤ ip_bs 207) (h : Inv2 σ) (hk : HK s i mc ms) : LR s (LF 1197 i l5 l6 [] σ mc ms) := by
  obtain ⟨T, t, hc, hr, hT⟩ := h
  obtain ⟨S, k, hr0⟩ := id hr
  obtain ⟨S1, k1, hc1⟩ := hc
  obtain ⟨c3, c4⟩ := C_after (x0 := (s.getD (i + 1) 0)) (x1 := (s.getD (i + 2) 0)) hc1
  obtain ⟨S2, k2, hr2⟩ := RI_hi hr c4
  have T9 : Tape (r_X4_after σ (s.getD (i + 1) 0) (s.getD (i + 2) 0)).2 t := Tape_fr hT (Nat.le_refl _) (fun j => c4 57 j (by decide)) (fun j => C6_after hc1 j)
  have r := R_after (x0 := (s.getD (i + 1) 0)) (x1 := (s.getD (i + 2) 0)) hr2
  exact lc_35 hs hi (by omega) (by omega) (m_X4_after (s.getD (i + 1) 0) (s.getD (i + 2) 0) (q_X4_after _ _ _)) (m_X5_after (s.getD (i + 1) 0) (s.getD (i + 2) 0) r.1) (hk _ l5 l6 mc ms (Inv2_q ⟨_, _, c3⟩ ⟨_, _, hr2⟩ T9 r.2) (by omega) (by omega))
theorem st_36 (hs : s.length ≤ 3072) (hi : i + 6 ≤ s.length) (hmc : mc + 1 ≤ ip_bc 207) (hms : ms + 6 ≤ ip_bs 207) (h : Inv2 σ) (hk : HK s i mc ms) : LR s (LF 1234 i l5 l6 [] σ mc ms) := by
  obtain ⟨T, t, hc, hr, hT⟩ := h
  obtain ⟨S, k, hr0⟩ := id hr
  obtain ⟨S1, k1, hc1⟩ := hc
  obtain ⟨c3, c4⟩ := C_firstAhead  hc1
  obtain ⟨S2, k2, hr2⟩ := RI_hi hr c4
  have T9 : Tape (r_X4_firstAhead σ ).2 t := Tape_fr hT (Nat.le_refl _) (fun j => c4 57 j (by decide)) (fun j => C6_firstAhead hc1 j)
  have r := R_firstAhead  hr2
  exact lc_36 hs hi (by omega) (by omega) (m_X4_firstAhead  (q_X4_firstAhead _)) (m_X5_firstAhead  r.1) (hk _ l5 l6 mc ms (Inv2_q ⟨_, _, c3⟩ ⟨_, _, hr2⟩ T9 r.2) (by omega) (by omega))
theorem law_sw {u : Int32} (hs : s.length ≤ 3072) (hi : i + 6 ≤ s.length) (hmc : mc + 1 ≤ ip_bc 207) (hms : ms + 6 ≤ ip_bs 207) (h : Inv2 σ) (hk : HK s i mc ms) : LR s (LF 40 i l5 l6 [.inl u] σ mc ms) := by
  by_cases hout : u.toInt < 0 ∨ 36 < u.toInt
  · exact lr_tsd (pc1 := 1247) rfl hout rfl (hk _ l5 l6 mc ms h (by omega) (by omega))
  obtain ⟨c, hc⟩ : ∃ c : Nat, u.toInt = (c : Int) := ⟨u.toInt.toNat, by omega⟩
  have hc37 : c < 37 := by omega
  rcases (show c = 0 ∨ c = 1 ∨ c = 2 ∨ c = 3 ∨ c = 4 ∨ c = 5 ∨ c = 6 ∨ c = 7 ∨ c = 8 ∨ c = 9 ∨ c = 10 ∨ c = 11 ∨ c = 12 ∨ c = 13 ∨ c = 14 ∨ c = 15 ∨ c = 16 ∨ c = 17 ∨ c = 18 ∨ c = 19 ∨ c = 20 ∨ c = 21 ∨ c = 22 ∨ c = 23 ∨ c = 24 ∨ c = 25 ∨ c = 26 ∨ c = 27 ∨ c = 28 ∨ c = 29 ∨ c = 30 ∨ c = 31 ∨ c = 32 ∨ c = 33 ∨ c = 34 ∨ c = 35 ∨ c = 36 by omega) with rfl | rfl | rfl | rfl | rfl | rfl | rfl | rfl | rfl | rfl | rfl | rfl | rfl | rfl | rfl | rfl | rfl | rfl | rfl | rfl | rfl | rfl | rfl | rfl | rfl | rfl | rfl | rfl | rfl | rfl | rfl | rfl | rfl | rfl | rfl | rfl | rfl
  · exact lr_ts (pc1 := 204) (o := 164) rfl hout (by rw [hc]; rfl) rfl (st_0 hs hi hmc hms h hk)
  · exact lr_ts (pc1 := 277) (o := 237) rfl hout (by rw [hc]; rfl) rfl (st_1 hs hi hmc hms h hk)
  · exact lr_ts (pc1 := 302) (o := 262) rfl hout (by rw [hc]; rfl) rfl (st_2 hs hi hmc hms h hk)
  · exact lr_ts (pc1 := 315) (o := 275) rfl hout (by rw [hc]; rfl) rfl (st_3 hs hi hmc hms h hk)
  · exact lr_ts (pc1 := 328) (o := 288) rfl hout (by rw [hc]; rfl) rfl (st_4 hs hi hmc hms h hk)
  · exact lr_ts (pc1 := 341) (o := 301) rfl hout (by rw [hc]; rfl) rfl (st_5 hs hi hmc hms h hk)
  · exact lr_ts (pc1 := 378) (o := 338) rfl hout (by rw [hc]; rfl) rfl (st_6 hs hi hmc hms h hk)
  · exact lr_ts (pc1 := 415) (o := 375) rfl hout (by rw [hc]; rfl) rfl (st_7 hs hi hmc hms h hk)
  · exact lr_ts (pc1 := 428) (o := 388) rfl hout (by rw [hc]; rfl) rfl (st_8 hs hi hmc hms h hk)
  · exact lr_ts (pc1 := 441) (o := 401) rfl hout (by rw [hc]; rfl) rfl (st_9 hs hi hmc hms h hk)
  · exact lr_ts (pc1 := 466) (o := 426) rfl hout (by rw [hc]; rfl) rfl (st_10 hs hi hmc hms h hk)
  · exact lr_ts (pc1 := 503) (o := 463) rfl hout (by rw [hc]; rfl) rfl (st_11 hs hi hmc hms h hk)
  · exact lr_ts (pc1 := 540) (o := 500) rfl hout (by rw [hc]; rfl) rfl (st_12 hs hi hmc hms h hk)
  · exact lr_ts (pc1 := 580) (o := 540) rfl hout (by rw [hc]; rfl) rfl (st_13 hs hi hmc hms h hk)
  · exact lr_ts (pc1 := 632) (o := 592) rfl hout (by rw [hc]; rfl) rfl (st_14 hs hi hmc hms h hk)
  · exact lr_ts (pc1 := 681) (o := 641) rfl hout (by rw [hc]; rfl) rfl (st_15 hs hi hmc hms h hk)
  · exact lr_ts (pc1 := 718) (o := 678) rfl hout (by rw [hc]; rfl) rfl (st_16 hs hi hmc hms h hk)
  · exact lr_ts (pc1 := 731) (o := 691) rfl hout (by rw [hc]; rfl) rfl (st_17 hs hi hmc hms h hk)
  · exact lr_ts (pc1 := 780) (o := 740) rfl hout (by rw [hc]; rfl) rfl (st_18 hs hi hmc hms h hk)
  · exact lr_ts (pc1 := 829) (o := 789) rfl hout (by rw [hc]; rfl) rfl (st_19 hs hi hmc hms h hk)
  · exact lr_ts (pc1 := 854) (o := 814) rfl hout (by rw [hc]; rfl) rfl (st_20 hs hi hmc hms h hk)
  · exact lr_ts (pc1 := 879) (o := 839) rfl hout (by rw [hc]; rfl) rfl (st_21 hs hi hmc hms h hk)
  · exact lr_ts (pc1 := 916) (o := 876) rfl hout (by rw [hc]; rfl) rfl (st_22 hs hi hmc hms h hk)
  · exact lr_ts (pc1 := 941) (o := 901) rfl hout (by rw [hc]; rfl) rfl (st_23 hs hi hmc hms h hk)
  · exact lr_ts (pc1 := 994) (o := 954) rfl hout (by rw [hc]; rfl) rfl (st_24 hs hi hmc hms h hk)
  · exact lr_ts (pc1 := 1007) (o := 967) rfl hout (by rw [hc]; rfl) rfl (st_25 hs hi hmc hms h hk)
  · exact lr_ts (pc1 := 1020) (o := 980) rfl hout (by rw [hc]; rfl) rfl (st_26 hs hi hmc hms h hk)
  · exact lr_ts (pc1 := 1033) (o := 993) rfl hout (by rw [hc]; rfl) rfl (st_27 hs hi hmc hms h hk)
  · exact lr_ts (pc1 := 1046) (o := 1006) rfl hout (by rw [hc]; rfl) rfl (st_28 hs hi hmc hms h hk)
  · exact lr_ts (pc1 := 1059) (o := 1019) rfl hout (by rw [hc]; rfl) rfl (st_29 hs hi hmc hms h hk)
  · exact lr_ts (pc1 := 1084) (o := 1044) rfl hout (by rw [hc]; rfl) rfl (st_30 hs hi hmc hms h hk)
  · exact lr_ts (pc1 := 1109) (o := 1069) rfl hout (by rw [hc]; rfl) rfl (st_31 hs hi hmc hms h hk)
  · exact lr_ts (pc1 := 1134) (o := 1094) rfl hout (by rw [hc]; rfl) rfl (st_32 hs hi hmc hms h hk)
  · exact lr_ts (pc1 := 1147) (o := 1107) rfl hout (by rw [hc]; rfl) rfl (st_33 hs hi hmc hms h hk)
  · exact lr_ts (pc1 := 1172) (o := 1132) rfl hout (by rw [hc]; rfl) rfl (st_34 hs hi hmc hms h hk)
  · exact lr_ts (pc1 := 1197) (o := 1157) rfl hout (by rw [hc]; rfl) rfl (st_35 hs hi hmc hms h hk)
  · exact lr_ts (pc1 := 1234) (o := 1194) rfl hout (by rw [hc]; rfl) rfl (st_36 hs hi hmc hms h hk)
theorem law_loop (hs : s.length ≤ 3072) : ∀ (n i : Nat) (σ : sg_S) (l5 l6 : Option (ip_V Int32)) (mc ms : Nat), s.length < i + 6 * n → i ≤ 3072 → Inv2 σ → mc + n ≤ ip_bc 207 → ms + 6 * n ≤ ip_bs 207 → LR s (LF 23 i l5 l6 [] σ mc ms) := by
  intro n
  induction n with
  | zero =>
    intro i σ l5 l6 mc ms hl hi h hmc hms
    exact lr_no hs hi (by omega) (by omega) (by omega)
  | succ n ih =>
    intro i σ l5 l6 mc ms hl hi h hmc hms
    by_cases g : i + 6 ≤ s.length
    · refine lr_yes hs g (law_sw hs g (by omega) (by omega) h (fun σ' l5' l6' mc' ms' h' h1 h2 => lr_next23 ?_))
      exact ih (i + 6) σ' l5' l6' mc' ms' (by omega) (by omega) h' (by omega) (by omega)
    · exact lr_no hs hi (by omega) (by omega) (by omega)
end LawRuns
