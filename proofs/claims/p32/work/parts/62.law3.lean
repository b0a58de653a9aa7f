/-! THE LAW RUNS, whatever the script -/
section LawRuns
variable {s : List Int32} {i mc ms : Nat} {σ : sg_S} {l5 l6 : Option (ip_V Int32)}
def HK (s : List Int32) (i mc ms : Nat) : Prop := ∀ (σ' : sg_S) (l5 l6 : Option (ip_V Int32)) (mc' ms' : Nat), Inv3 σ' → mc' ≤ mc + 1 → ms' ≤ ms + 6 → LR s (LF 1247 i l5 l6 [] σ' mc' ms')
theorem st_0 (hs : s.length ≤ 3072) (hi : i + 6 ≤ s.length) (hmc : mc + 1 ≤ ip_bc 207) (hms : ms + 6 ≤ ip_bs 207) (h : Inv3 σ) (hk : HK s i mc ms) : LR s (LF 204 i l5 l6 [] σ mc ms) := by
  obtain ⟨T, S, k, t, hY, h⟩ := h
  obtain ⟨e9, b0, iv⟩ := cplA_feed (x0 := (s.getD (i + 1) 0)) (x1 := (s.getD (i + 2) 0)) (x2 := (s.getD (i + 3) 0)) (x3 := (s.getD (i + 4) 0)) (x4 := (s.getD (i + 5) 0)) h hY
  exact lc_0 hs hi (by omega) (by omega) (m_X4_feed (s.getD (i + 1) 0) (s.getD (i + 2) 0) (s.getD (i + 3) 0) (s.getD (i + 4) 0) (s.getD (i + 5) 0) (q_X4_feed _ _ _ _ _ _)) (m_X5_feed (s.getD (i + 1) 0) (s.getD (i + 2) 0) (s.getD (i + 3) 0) (s.getD (i + 4) 0) (s.getD (i + 5) 0) b0) (hk _ l5 l6 mc ms iv (by omega) (by omega))
theorem st_1 (hs : s.length ≤ 3072) (hi : i + 6 ≤ s.length) (hmc : mc + 1 ≤ ip_bc 207) (hms : ms + 6 ≤ ip_bs 207) (h : Inv3 σ) (hk : HK s i mc ms) : LR s (LF 277 i l5 l6 [] σ mc ms) := by
  obtain ⟨T, S, k, t, hY, h⟩ := h
  obtain ⟨e9, iv⟩ := cplA_end (n := (s.getD (i + 1) 0)) h hY
  exact lc_1 hs hi (by omega) (by omega) (m_X4_end (s.getD (i + 1) 0)) (m_X5_end (s.getD (i + 1) 0)) (hk _ l5 l6 mc ms iv (by omega) (by omega))
theorem st_2 (hs : s.length ≤ 3072) (hi : i + 6 ≤ s.length) (hmc : mc + 1 ≤ ip_bc 207) (hms : ms + 6 ≤ ip_bs 207) (h : Inv3 σ) (hk : HK s i mc ms) : LR s (LF 302 i l5 l6 [] σ mc ms) := by
  obtain ⟨T, S, k, t, hY, h⟩ := h
  obtain ⟨e9, b0, iv⟩ := cplA_table  h hY
  exact lc_2 hs hi (by omega) (by omega) (m_X4_table  (q_X4_table _)) (m_X5_table  b0) (hk _ l5 l6 mc ms iv (by omega) (by omega))
theorem st_3 (hs : s.length ≤ 3072) (hi : i + 6 ≤ s.length) (hmc : mc + 1 ≤ ip_bc 207) (hms : ms + 6 ≤ ip_bs 207) (h : Inv3 σ) (hk : HK s i mc ms) : LR s (LF 315 i l5 l6 [] σ mc ms) := by
  obtain ⟨T, S, k, t, hY, h⟩ := h
  obtain ⟨e9, b0, iv⟩ := cplA_events  h hY
  exact lc_3 hs hi (by omega) (by omega) (m_X4_events  (q_X4_events _)) (m_X5_events  b0) (hk _ l5 l6 mc ms iv (by omega) (by omega))
theorem st_4 (hs : s.length ≤ 3072) (hi : i + 6 ≤ s.length) (hmc : mc + 1 ≤ ip_bc 207) (hms : ms + 6 ≤ ip_bs 207) (h : Inv3 σ) (hk : HK s i mc ms) : LR s (LF 328 i l5 l6 [] σ mc ms) := by
  obtain ⟨T, S, k, t, hY, h⟩ := h
  exact lc_4 hs hi (by omega) (by omega) (m_X4_fault ) (m_X5_fault ) (hk _ l5 l6 mc ms ⟨T, S, k, t, LA_q hY R_fault, Cpl_q h R_fault⟩ (by omega) (by omega))
theorem st_5 (hs : s.length ≤ 3072) (hi : i + 6 ≤ s.length) (hmc : mc + 1 ≤ ip_bc 207) (hms : ms + 6 ≤ ip_bs 207) (h : Inv3 σ) (hk : HK s i mc ms) : LR s (LF 341 i l5 l6 [] σ mc ms) := by
  obtain ⟨T, S, k, t, hY, h⟩ := h
  obtain ⟨e9, b0, iv⟩ := cplA_set (x0 := (s.getD (i + 1) 0)) (x1 := (s.getD (i + 2) 0)) h hY
  exact lc_5 hs hi (by omega) (by omega) (m_X4_set (s.getD (i + 1) 0) (s.getD (i + 2) 0) (q_X4_set _ _ _)) (m_X5_set (s.getD (i + 1) 0) (s.getD (i + 2) 0) b0) (hk _ l5 l6 mc ms iv (by omega) (by omega))
theorem st_6 (hs : s.length ≤ 3072) (hi : i + 6 ≤ s.length) (hmc : mc + 1 ≤ ip_bc 207) (hms : ms + 6 ≤ ip_bs 207) (h : Inv3 σ) (hk : HK s i mc ms) : LR s (LF 378 i l5 l6 [] σ mc ms) := by
  obtain ⟨T, S, k, t, hY, h⟩ := h
  obtain ⟨e9, b0, iv⟩ := cplA_play (x0 := (s.getD (i + 1) 0)) (x1 := (s.getD (i + 2) 0)) h hY
  exact lc_6 hs hi (by omega) (by omega) (m_X4_play (s.getD (i + 1) 0) (s.getD (i + 2) 0) (q_X4_play _ _ _)) (m_X5_play (s.getD (i + 1) 0) (s.getD (i + 2) 0) b0) (hk _ l5 l6 mc ms iv (by omega) (by omega))
theorem st_7 (hs : s.length ≤ 3072) (hi : i + 6 ≤ s.length) (hmc : mc + 1 ≤ ip_bc 207) (hms : ms + 6 ≤ ip_bs 207) (h : Inv3 σ) (hk : HK s i mc ms) : LR s (LF 415 i l5 l6 [] σ mc ms) := by
  obtain ⟨T, S, k, t, hY, h⟩ := h
  obtain ⟨e9, iv⟩ := cplA_back  h hY
  exact lc_7 hs hi (by omega) (by omega) (m_X4_back  (q_X4_back _)) (m_X5_back ) (hk _ l5 l6 mc ms iv (by omega) (by omega))
theorem st_8 (hs : s.length ≤ 3072) (hi : i + 6 ≤ s.length) (hmc : mc + 1 ≤ ip_bc 207) (hms : ms + 6 ≤ ip_bs 207) (h : Inv3 σ) (hk : HK s i mc ms) : LR s (LF 428 i l5 l6 [] σ mc ms) := by
  obtain ⟨T, S, k, t, hY, h⟩ := h
  obtain ⟨e9, iv⟩ := cplA_clear  h hY
  exact lc_8 hs hi (by omega) (by omega) (m_X4_clear  (q_X4_clear _)) (m_X5_clear ) (hk _ l5 l6 mc ms iv (by omega) (by omega))
theorem st_9 (hs : s.length ≤ 3072) (hi : i + 6 ≤ s.length) (hmc : mc + 1 ≤ ip_bc 207) (hms : ms + 6 ≤ ip_bs 207) (h : Inv3 σ) (hk : HK s i mc ms) : LR s (LF 441 i l5 l6 [] σ mc ms) := by
  obtain ⟨T, S, k, t, hY, h⟩ := h
  have r := R_count (x0 := (s.getD (i + 1) 0)) h.2.1
  exact lc_9 hs hi (by omega) (by omega) (m_X4_count (s.getD (i + 1) 0) (q_X4_count _)) (m_X5_count (s.getD (i + 1) 0) r.1) (hk _ l5 l6 mc ms ⟨T, S, k, t, LA_q hY r.2, Cpl_q h r.2⟩ (by omega) (by omega))
theorem st_10 (hs : s.length ≤ 3072) (hi : i + 6 ≤ s.length) (hmc : mc + 1 ≤ ip_bc 207) (hms : ms + 6 ≤ ip_bs 207) (h : Inv3 σ) (hk : HK s i mc ms) : LR s (LF 466 i l5 l6 [] σ mc ms) := by
  obtain ⟨T, S, k, t, hY, h⟩ := h
  have r := R_worth (x0 := (s.getD (i + 1) 0)) (x1 := (s.getD (i + 2) 0)) (σ := σ)
  exact lc_10 hs hi (by omega) (by omega) (m_X4_worth (s.getD (i + 1) 0) (s.getD (i + 2) 0) (q_X4_worth _ _)) (m_X5_worth (s.getD (i + 1) 0) (s.getD (i + 2) 0) r.1) (hk _ l5 l6 mc ms ⟨T, S, k, t, LA_q hY r.2, Cpl_q h r.2⟩ (by omega) (by omega))
theorem st_11 (hs : s.length ≤ 3072) (hi : i + 6 ≤ s.length) (hmc : mc + 1 ≤ ip_bc 207) (hms : ms + 6 ≤ ip_bs 207) (h : Inv3 σ) (hk : HK s i mc ms) : LR s (LF 503 i l5 l6 [] σ mc ms) := by
  obtain ⟨T, S, k, t, hY, h⟩ := h
  have r := R_told (x0 := (s.getD (i + 1) 0)) (x1 := (s.getD (i + 2) 0)) (σ := σ)
  exact lc_11 hs hi (by omega) (by omega) (m_X4_told (s.getD (i + 1) 0) (s.getD (i + 2) 0) (q_X4_told _ _)) (m_X5_told (s.getD (i + 1) 0) (s.getD (i + 2) 0) r.1) (hk _ l5 l6 mc ms ⟨T, S, k, t, LA_q hY r.2, Cpl_q h r.2⟩ (by omega) (by omega))
theorem st_12 (hs : s.length ≤ 3072) (hi : i + 6 ≤ s.length) (hmc : mc + 1 ≤ ip_bc 207) (hms : ms + 6 ≤ ip_bs 207) (h : Inv3 σ) (hk : HK s i mc ms) : LR s (LF 540 i l5 l6 [] σ mc ms) := by
  obtain ⟨T, S, k, t, hY, h⟩ := h
  have h1 : Cpl (o_innings σ (v_X4_innings σ (s.getD (i + 1) 0) (s.getD (i + 2) 0))) T S k t := by
    cases v_X4_innings σ (s.getD (i + 1) 0) (s.getD (i + 2) 0) with
    | none => exact h
    | some d => exact Cpl_o h
  have hY1 : LA (o_innings σ (v_X4_innings σ (s.getD (i + 1) 0) (s.getD (i + 2) 0))) T S k := by
    cases v_X4_innings σ (s.getD (i + 1) 0) (s.getD (i + 2) 0) with
    | none => exact hY
    | some d => exact LA_o hY
  have r := R_innings (x0 := (s.getD (i + 1) 0)) (x1 := (s.getD (i + 2) 0)) h1.2.1
  exact lc_12 hs hi (by omega) (by omega) hmc hms (m_X5_innings (s.getD (i + 1) 0) (s.getD (i + 2) 0) r.1) (hk _ _ _ (mc + 1) (ms + 6) ⟨T, S, k, t, LA_q hY1 r.2, Cpl_q h1 r.2⟩ (by omega) (by omega))
theorem st_13 (hs : s.length ≤ 3072) (hi : i + 6 ≤ s.length) (hmc : mc + 1 ≤ ip_bc 207) (hms : ms + 6 ≤ ip_bs 207) (h : Inv3 σ) (hk : HK s i mc ms) : LR s (LF 580 i l5 l6 [] σ mc ms) := by
  obtain ⟨T, S, k, t, hY, h⟩ := h
  have h1 : Cpl (o_cut σ (v_X4_cut σ (s.getD (i + 1) 0) (s.getD (i + 2) 0) (s.getD (i + 3) 0))) T S k t := by
    cases v_X4_cut σ (s.getD (i + 1) 0) (s.getD (i + 2) 0) (s.getD (i + 3) 0) with
    | none => exact h
    | some d => exact Cpl_o h
  have hY1 : LA (o_cut σ (v_X4_cut σ (s.getD (i + 1) 0) (s.getD (i + 2) 0) (s.getD (i + 3) 0))) T S k := by
    cases v_X4_cut σ (s.getD (i + 1) 0) (s.getD (i + 2) 0) (s.getD (i + 3) 0) with
    | none => exact hY
    | some d => exact LA_o hY
  have r := R_cut (x0 := (s.getD (i + 1) 0)) (x1 := (s.getD (i + 2) 0)) (x2 := (s.getD (i + 3) 0)) h1.2.1
  exact lc_13 hs hi (by omega) (by omega) (q_X4_cut _ _ _ _) hmc hms (m_X5_cut (s.getD (i + 1) 0) (s.getD (i + 2) 0) (s.getD (i + 3) 0) r.1) (hk _ _ _ (mc + 1) (ms + 6) ⟨T, S, k, t, LA_q hY1 r.2, Cpl_q h1 r.2⟩ (by omega) (by omega))
theorem st_14 (hs : s.length ≤ 3072) (hi : i + 6 ≤ s.length) (hmc : mc + 1 ≤ ip_bc 207) (hms : ms + 6 ≤ ip_bs 207) (h : Inv3 σ) (hk : HK s i mc ms) : LR s (LF 632 i l5 l6 [] σ mc ms) := by
  obtain ⟨T, S, k, t, hY, h⟩ := h
  have r := R_over (x0 := (s.getD (i + 1) 0)) (x1 := (s.getD (i + 2) 0)) (x2 := (s.getD (i + 3) 0)) h.2.1
  exact lc_14 hs hi (by omega) (by omega) (m_X4_over (s.getD (i + 1) 0) (s.getD (i + 2) 0) (s.getD (i + 3) 0) (q_X4_over _ _ _)) (m_X5_over (s.getD (i + 1) 0) (s.getD (i + 2) 0) (s.getD (i + 3) 0) r.1) (hk _ l5 l6 mc ms ⟨T, S, k, t, LA_q hY r.2, Cpl_q h r.2⟩ (by omega) (by omega))
theorem st_15 (hs : s.length ≤ 3072) (hi : i + 6 ≤ s.length) (hmc : mc + 1 ≤ ip_bc 207) (hms : ms + 6 ≤ ip_bs 207) (h : Inv3 σ) (hk : HK s i mc ms) : LR s (LF 681 i l5 l6 [] σ mc ms) := by
  obtain ⟨T, S, k, t, hY, h⟩ := h
  have r := R_block (x0 := (s.getD (i + 1) 0)) (x1 := (s.getD (i + 2) 0)) h.2.1
  exact lc_15 hs hi (by omega) (by omega) (m_X4_block (s.getD (i + 1) 0) (s.getD (i + 2) 0) (q_X4_block _ _ _)) (m_X5_block (s.getD (i + 1) 0) (s.getD (i + 2) 0) r.1) (hk _ l5 l6 mc ms ⟨T, S, k, t, LA_q hY r.2, Cpl_q h r.2⟩ (by omega) (by omega))
theorem st_16 (hs : s.length ≤ 3072) (hi : i + 6 ≤ s.length) (hmc : mc + 1 ≤ ip_bc 207) (hms : ms + 6 ≤ ip_bs 207) (h : Inv3 σ) (hk : HK s i mc ms) : LR s (LF 718 i l5 l6 [] σ mc ms) := by
  obtain ⟨T, S, k, t, hY, h⟩ := h
  have r := R_blockNow  h.2.1
  exact lc_16 hs hi (by omega) (by omega) (m_X4_blockNow  (q_X4_blockNow _)) (m_X5_blockNow  r.1) (hk _ l5 l6 mc ms ⟨T, S, k, t, LA_q hY r.2, Cpl_q h r.2⟩ (by omega) (by omega))
theorem st_17 (hs : s.length ≤ 3072) (hi : i + 6 ≤ s.length) (hmc : mc + 1 ≤ ip_bc 207) (hms : ms + 6 ≤ ip_bs 207) (h : Inv3 σ) (hk : HK s i mc ms) : LR s (LF 731 i l5 l6 [] σ mc ms) := by
  obtain ⟨T, S, k, t, hY, h⟩ := h
  have r := R_inBlock (x0 := (s.getD (i + 1) 0)) (x1 := (s.getD (i + 2) 0)) (x2 := (s.getD (i + 3) 0)) h.2.1
  exact lc_17 hs hi (by omega) (by omega) (m_X4_inBlock (s.getD (i + 1) 0) (s.getD (i + 2) 0) (s.getD (i + 3) 0) (C_inBlock h.1)) (m_X5_inBlock (s.getD (i + 1) 0) (s.getD (i + 2) 0) (s.getD (i + 3) 0) r.1) (hk _ l5 l6 mc ms ⟨T, S, k, t, LA_q hY r.2, Cpl_q h r.2⟩ (by omega) (by omega))
theorem st_18 (hs : s.length ≤ 3072) (hi : i + 6 ≤ s.length) (hmc : mc + 1 ≤ ip_bc 207) (hms : ms + 6 ≤ ip_bs 207) (h : Inv3 σ) (hk : HK s i mc ms) : LR s (LF 780 i l5 l6 [] σ mc ms) := by
  obtain ⟨T, S, k, t, hY, h⟩ := h
  have r := R_fall (x0 := (s.getD (i + 1) 0)) (x1 := (s.getD (i + 2) 0)) (x2 := (s.getD (i + 3) 0)) h.2.1
  exact lc_18 hs hi (by omega) (by omega) (m_X4_fall (s.getD (i + 1) 0) (s.getD (i + 2) 0) (s.getD (i + 3) 0) (q_X4_fall _ _ _ _)) (m_X5_fall (s.getD (i + 1) 0) (s.getD (i + 2) 0) (s.getD (i + 3) 0) r.1) (hk _ l5 l6 mc ms ⟨T, S, k, t, LA_q hY r.2, Cpl_q h r.2⟩ (by omega) (by omega))
theorem st_19 (hs : s.length ≤ 3072) (hi : i + 6 ≤ s.length) (hmc : mc + 1 ≤ ip_bc 207) (hms : ms + 6 ≤ ip_bs 207) (h : Inv3 σ) (hk : HK s i mc ms) : LR s (LF 829 i l5 l6 [] σ mc ms) := by
  obtain ⟨T, S, k, t, hY, h⟩ := h
  have r := R_lastStand (x0 := (s.getD (i + 1) 0)) h.2.1
  exact lc_19 hs hi (by omega) (by omega) (m_X4_lastStand (s.getD (i + 1) 0) (q_X4_lastStand _ _)) (m_X5_lastStand (s.getD (i + 1) 0) r.1) (hk _ l5 l6 mc ms ⟨T, S, k, t, LA_q hY r.2, Cpl_q h r.2⟩ (by omega) (by omega))
theorem st_20 (hs : s.length ≤ 3072) (hi : i + 6 ≤ s.length) (hmc : mc + 1 ≤ ip_bc 207) (hms : ms + 6 ≤ ip_bs 207) (h : Inv3 σ) (hk : HK s i mc ms) : LR s (LF 854 i l5 l6 [] σ mc ms) := by
  obtain ⟨T, S, k, t, hY, h⟩ := h
  have r := R_bestStand (x0 := (s.getD (i + 1) 0)) h.2.1
  exact lc_20 hs hi (by omega) (by omega) (m_X4_bestStand (s.getD (i + 1) 0) (q_X4_bestStand _ _)) (m_X5_bestStand (s.getD (i + 1) 0) r.1) (hk _ l5 l6 mc ms ⟨T, S, k, t, LA_q hY r.2, Cpl_q h r.2⟩ (by omega) (by omega))
theorem st_21 (hs : s.length ≤ 3072) (hi : i + 6 ≤ s.length) (hmc : mc + 1 ≤ ip_bc 207) (hms : ms + 6 ≤ ip_bs 207) (h : Inv3 σ) (hk : HK s i mc ms) : LR s (LF 879 i l5 l6 [] σ mc ms) := by
  obtain ⟨T, S, k, t, hY, h⟩ := h
  have r := R_made (x0 := (s.getD (i + 1) 0)) (x1 := (s.getD (i + 2) 0)) h.2.1
  exact lc_21 hs hi (by omega) (by omega) (m_X4_made (s.getD (i + 1) 0) (s.getD (i + 2) 0) (q_X4_made _ _)) (m_X5_made (s.getD (i + 1) 0) (s.getD (i + 2) 0) r.1) (hk _ l5 l6 mc ms ⟨T, S, k, t, LA_q hY r.2, Cpl_q h r.2⟩ (by omega) (by omega))
theorem st_22 (hs : s.length ≤ 3072) (hi : i + 6 ≤ s.length) (hmc : mc + 1 ≤ ip_bc 207) (hms : ms + 6 ≤ ip_bs 207) (h : Inv3 σ) (hk : HK s i mc ms) : LR s (LF 916 i l5 l6 [] σ mc ms) := by
  obtain ⟨T, S, k, t, hY, h⟩ := h
  have r := R_bestOver (x0 := (s.getD (i + 1) 0)) h.2.1
  exact lc_22 hs hi (by omega) (by omega) (m_X4_bestOver (s.getD (i + 1) 0) (q_X4_bestOver _ _)) (m_X5_bestOver (s.getD (i + 1) 0) r.1) (hk _ l5 l6 mc ms ⟨T, S, k, t, LA_q hY r.2, Cpl_q h r.2⟩ (by omega) (by omega))
theorem st_23 (hs : s.length ≤ 3072) (hi : i + 6 ≤ s.length) (hmc : mc + 1 ≤ ip_bc 207) (hms : ms + 6 ≤ ip_bs 207) (h : Inv3 σ) (hk : HK s i mc ms) : LR s (LF 941 i l5 l6 [] σ mc ms) := by
  obtain ⟨T, S, k, t, hY, h⟩ := h
  have r := R_rate (x0 := (s.getD (i + 1) 0)) (x1 := (if s.getD (i + 2) 0 = 0 then 0 else 1)) h.2.1
  exact lc_23 hs hi (by omega) (by omega) (m_X4_rate (s.getD (i + 1) 0) (if s.getD (i + 2) 0 = 0 then 0 else 1) (q_X4_rate _ _ _)) (m_X5_rate (s.getD (i + 1) 0) (if s.getD (i + 2) 0 = 0 then 0 else 1) r.1) (hk _ l5 l6 mc ms ⟨T, S, k, t, LA_q hY r.2, Cpl_q h r.2⟩ (by omega) (by omega))
theorem st_24 (hs : s.length ≤ 3072) (hi : i + 6 ≤ s.length) (hmc : mc + 1 ≤ ip_bc 207) (hms : ms + 6 ≤ ip_bs 207) (h : Inv3 σ) (hk : HK s i mc ms) : LR s (LF 994 i l5 l6 [] σ mc ms) := by
  obtain ⟨T, S, k, t, hY, h⟩ := h
  have r := R_projected  h.2.1
  exact lc_24 hs hi (by omega) (by omega) (m_X4_projected  (q_X4_projected _)) (m_X5_projected  r.1) (hk _ l5 l6 mc ms ⟨T, S, k, t, LA_q hY r.2, Cpl_q h r.2⟩ (by omega) (by omega))
theorem st_25 (hs : s.length ≤ 3072) (hi : i + 6 ≤ s.length) (hmc : mc + 1 ≤ ip_bc 207) (hms : ms + 6 ≤ ip_bs 207) (h : Inv3 σ) (hk : HK s i mc ms) : LR s (LF 1007 i l5 l6 [] σ mc ms) := by
  obtain ⟨T, S, k, t, hY, h⟩ := h
  have r := R_target  h.2.1
  exact lc_25 hs hi (by omega) (by omega) (m_X4_target  (q_X4_target _)) (m_X5_target  r.1) (hk _ l5 l6 mc ms ⟨T, S, k, t, LA_q hY r.2, Cpl_q h r.2⟩ (by omega) (by omega))
theorem st_26 (hs : s.length ≤ 3072) (hi : i + 6 ≤ s.length) (hmc : mc + 1 ≤ ip_bc 207) (hms : ms + 6 ≤ ip_bs 207) (h : Inv3 σ) (hk : HK s i mc ms) : LR s (LF 1020 i l5 l6 [] σ mc ms) := by
  obtain ⟨T, S, k, t, hY, h⟩ := h
  have r := R_par  h.2.1
  exact lc_26 hs hi (by omega) (by omega) (m_X4_par  (q_X4_par _)) (m_X5_par  r.1) (hk _ l5 l6 mc ms ⟨T, S, k, t, LA_q hY r.2, Cpl_q h r.2⟩ (by omega) (by omega))
theorem st_27 (hs : s.length ≤ 3072) (hi : i + 6 ≤ s.length) (hmc : mc + 1 ≤ ip_bc 207) (hms : ms + 6 ≤ ip_bs 207) (h : Inv3 σ) (hk : HK s i mc ms) : LR s (LF 1033 i l5 l6 [] σ mc ms) := by
  obtain ⟨T, S, k, t, hY, h⟩ := h
  have r := R_result  h.2.1
  exact lc_27 hs hi (by omega) (by omega) (m_X4_result  (q_X4_result _)) (m_X5_result  r.1) (hk _ l5 l6 mc ms ⟨T, S, k, t, LA_q hY r.2, Cpl_q h r.2⟩ (by omega) (by omega))
theorem st_28 (hs : s.length ≤ 3072) (hi : i + 6 ≤ s.length) (hmc : mc + 1 ≤ ip_bc 207) (hms : ms + 6 ≤ ip_bs 207) (h : Inv3 σ) (hk : HK s i mc ms) : LR s (LF 1046 i l5 l6 [] σ mc ms) := by
  obtain ⟨T, S, k, t, hY, h⟩ := h
  have r := R_margin  h.2.1
  exact lc_28 hs hi (by omega) (by omega) (m_X4_margin  (q_X4_margin _)) (m_X5_margin  r.1) (hk _ l5 l6 mc ms ⟨T, S, k, t, LA_q hY r.2, Cpl_q h r.2⟩ (by omega) (by omega))
theorem st_29 (hs : s.length ≤ 3072) (hi : i + 6 ≤ s.length) (hmc : mc + 1 ≤ ip_bc 207) (hms : ms + 6 ≤ ip_bs 207) (h : Inv3 σ) (hk : HK s i mc ms) : LR s (LF 1059 i l5 l6 [] σ mc ms) := by
  obtain ⟨T, S, k, t, hY, h⟩ := h
  have r := R_needs (x0 := (s.getD (i + 1) 0)) h.2.1
  exact lc_29 hs hi (by omega) (by omega) (m_X4_needs (s.getD (i + 1) 0) (q_X4_needs _ _)) (m_X5_needs (s.getD (i + 1) 0) r.1) (hk _ l5 l6 mc ms ⟨T, S, k, t, LA_q hY r.2, Cpl_q h r.2⟩ (by omega) (by omega))
theorem st_30 (hs : s.length ≤ 3072) (hi : i + 6 ≤ s.length) (hmc : mc + 1 ≤ ip_bc 207) (hms : ms + 6 ≤ ip_bs 207) (h : Inv3 σ) (hk : HK s i mc ms) : LR s (LF 1084 i l5 l6 [] σ mc ms) := by
  obtain ⟨T, S, k, t, hY, h⟩ := h
  have r := R_broken (x0 := (s.getD (i + 1) 0)) h.2.1
  exact lc_30 hs hi (by omega) (by omega) (m_X4_broken (s.getD (i + 1) 0) (C_broken h.1)) (m_X5_broken (s.getD (i + 1) 0) r.1) (both_broken hY h) (hk _ l5 l6 mc ms ⟨T, S, k, t, LA_q hY r.2, Cpl_q h r.2⟩ (by omega) (by omega))
theorem st_31 (hs : s.length ≤ 3072) (hi : i + 6 ≤ s.length) (hmc : mc + 1 ≤ ip_bc 207) (hms : ms + 6 ≤ ip_bs 207) (h : Inv3 σ) (hk : HK s i mc ms) : LR s (LF 1109 i l5 l6 [] σ mc ms) := by
  obtain ⟨T, S, k, t, hY, h⟩ := h
  have r := R_ifCut (x0 := (s.getD (i + 1) 0)) h.2.1
  exact lc_31 hs hi (by omega) (by omega) (m_X4_ifCut (s.getD (i + 1) 0) (q_X4_ifCut _ _)) (m_X5_ifCut (s.getD (i + 1) 0) r.1) (hk _ l5 l6 mc ms ⟨T, S, k, t, LA_q hY r.2, Cpl_q h r.2⟩ (by omega) (by omega))
theorem st_32 (hs : s.length ≤ 3072) (hi : i + 6 ≤ s.length) (hmc : mc + 1 ≤ ip_bc 207) (hms : ms + 6 ≤ ip_bs 207) (h : Inv3 σ) (hk : HK s i mc ms) : LR s (LF 1134 i l5 l6 [] σ mc ms) := by
  obtain ⟨T, S, k, t, hY, h⟩ := h
  have r := R_ifClosed  h.2.1
  exact lc_32 hs hi (by omega) (by omega) (m_X4_ifClosed  (q_X4_ifClosed _)) (m_X5_ifClosed  r.1) (hk _ l5 l6 mc ms ⟨T, S, k, t, LA_q hY r.2, Cpl_q h r.2⟩ (by omega) (by omega))
theorem st_33 (hs : s.length ≤ 3072) (hi : i + 6 ≤ s.length) (hmc : mc + 1 ≤ ip_bc 207) (hms : ms + 6 ≤ ip_bs 207) (h : Inv3 σ) (hk : HK s i mc ms) : LR s (LF 1147 i l5 l6 [] σ mc ms) := by
  obtain ⟨T, S, k, t, hY, h⟩ := h
  have r := R_ifRuns (x0 := (s.getD (i + 1) 0)) h.2.1
  exact lc_33 hs hi (by omega) (by omega) (m_X4_ifRuns (s.getD (i + 1) 0) (q_X4_ifRuns _ _)) (m_X5_ifRuns (s.getD (i + 1) 0) r.1) (hk _ l5 l6 mc ms ⟨T, S, k, t, LA_q hY r.2, Cpl_q h r.2⟩ (by omega) (by omega))
theorem st_34 (hs : s.length ≤ 3072) (hi : i + 6 ≤ s.length) (hmc : mc + 1 ≤ ip_bc 207) (hms : ms + 6 ≤ ip_bs 207) (h : Inv3 σ) (hk : HK s i mc ms) : LR s (LF 1172 i l5 l6 [] σ mc ms) := by
  obtain ⟨T, S, k, t, hY, h⟩ := h
  have r := R_leastCut (x0 := (s.getD (i + 1) 0)) h.2.1
  exact lc_34 hs hi (by omega) (by omega) (m_X4_leastCut (s.getD (i + 1) 0) (q_X4_leastCut _ _)) (m_X5_leastCut (s.getD (i + 1) 0) r.1) (hk _ l5 l6 mc ms ⟨T, S, k, t, LA_q hY r.2, Cpl_q h r.2⟩ (by omega) (by omega))
theorem st_35 (hs : s.length ≤ 3072) (hi : i + 6 ≤ s.length) (hmc : mc + 1 ≤ ip_bc 207) (hms : ms + 6 ≤ ip_bs 207) (h : Inv3 σ) (hk : HK s i mc ms) : LR s (LF 1197 i l5 l6 [] σ mc ms) := by
  obtain ⟨T, S, k, t, hY, h⟩ := h
  have h1 := Cpl_20 h (Cs_after (x0 := (s.getD (i + 1) 0)) (x1 := (s.getD (i + 2) 0)) h.1)
  have hY1 := LA_20 hY (Cs_after (x0 := (s.getD (i + 1) 0)) (x1 := (s.getD (i + 2) 0)) h.1)
  have r := R_after (x0 := (s.getD (i + 1) 0)) (x1 := (s.getD (i + 2) 0)) h1.2.1
  exact lc_35 hs hi (by omega) (by omega) (m_X4_after (s.getD (i + 1) 0) (s.getD (i + 2) 0) (q_X4_after _ _ _)) (m_X5_after (s.getD (i + 1) 0) (s.getD (i + 2) 0) r.1) (hk _ l5 l6 mc ms ⟨T, S, k, t, LA_q hY1 r.2, Cpl_q h1 r.2⟩ (by omega) (by omega))
theorem st_36 (hs : s.length ≤ 3072) (hi : i + 6 ≤ s.length) (hmc : mc + 1 ≤ ip_bc 207) (hms : ms + 6 ≤ ip_bs 207) (h : Inv3 σ) (hk : HK s i mc ms) : LR s (LF 1234 i l5 l6 [] σ mc ms) := by
  obtain ⟨T, S, k, t, hY, h⟩ := h
  have h1 := Cpl_20 h (Cs_firstAhead  h.1)
  have hY1 := LA_20 hY (Cs_firstAhead  h.1)
  have r := R_firstAhead  h1.2.1
  exact lc_36 hs hi (by omega) (by omega) (m_X4_firstAhead  (q_X4_firstAhead _)) (m_X5_firstAhead  r.1) (hk _ l5 l6 mc ms ⟨T, S, k, t, LA_q hY1 r.2, Cpl_q h1 r.2⟩ (by omega) (by omega))
theorem law_sw {u : Int32} (hs : s.length ≤ 3072) (hi : i + 6 ≤ s.length) (hmc : mc + 1 ≤ ip_bc 207) (hms : ms + 6 ≤ ip_bs 207) (h : Inv3 σ) (hk : HK s i mc ms) : LR s (LF 40 i l5 l6 [.inl u] σ mc ms) := by
  by_cases hout : u.toInt < 0 ∨ 36 < u.toInt
  · exact lr_tsd (pc1 := 1247) rfl hout rfl (hk _ l5 l6 mc ms h (by omega) (by omega))
  obtain ⟨c, hc⟩ : ∃ c : Nat, u.toInt = (c : Int) := ⟨u.toInt.toNat, by omega⟩
  have hc37 : c < 37 := by omega
  rcases (show c = 0 ∨ c = 1 ∨ c = 2 ∨ c = 3 ∨ c = 4 ∨ c = 5 ∨ c = 6 ∨ c = 7 ∨ c = 8 ∨ c = 9 ∨ c = 10 ∨ c = 11 ∨ c = 12 ∨ c = 13 ∨ c = 14 ∨ c = 15 ∨ c = 16 ∨ c = 17 ∨ c = 18 ∨ c = 19 ∨ c = 20 ∨ c = 21 ∨ c = 22 ∨ c = 23 ∨ c = 24 ∨ c = 25 ∨ c = 26 ∨ c = 27 ∨ c = 28 ∨ c = 29 ∨ c = 30 ∨ c = 31 ∨ c = 32 ∨ c = 33 ∨ c = 34 ∨ c = 35 ∨ c = 36 by omega) with rfl | rfl | rfl | rfl | rfl | rfl | rfl | rfl | rfl | rfl | rfl | rfl | rfl | rfl | rfl | rfl | rfl | rfl | rfl | rfl | rfl | rfl | rfl | rfl | rfl | rfl | rfl | rfl | rfl | rfl | rfl | rfl | rfl | rfl | rfl | rfl | rfl
  · exact lr_ts (pc1 := 204) (o := 164) rfl hout (by rw [hc]; rfl) rfl (st_0 hs hi hmc hms h hk)
  · exact lr_ts (pc1 := 277) (o := 237) rfl hout (by rw [hc]; rfl) rfl (st_1 hs hi hmc hms h hk)
  · exact lr_ts (pc1 := 302) (o := 262) rfl hout (by rw [hc]; rfl) rfl (st_2 hs hi hmc hms h hk)
  · exact lr_ts (pc1 := 315) (o := 275) rfl hout (by rw [hc]; rfl) rfl (st_3 hs hi hmc hms h hk)
  · exact lr_ts (pc1 := 328) (o := 288) rfl hout (by rw [hc]; rfl) rfl (st_4 hs hi hmc hms h hk)
  · exact lr_ts (pc1 := 341) (o := 301) rfl hout (by rw [hc]; rfl) rfl (st_5 hs hi hmc hms h hk)
  · exact lr_ts (pc1 := 378) (o := 338) rfl hout (by rw [hc]; rfl) rfl (st_6 hs hi hmc hms h hk)
  · exact lr_ts (pc1 := 415) (o := 375) rfl hout (by rw [hc]; rfl) rfl (st_7 hs hi hmc hms h hk)
  · exact lr_ts (pc1 := 428) (o := 388) rfl hout (by rw [hc]; rfl) rfl (st_8 hs hi hmc hms h hk)
  · exact lr_ts (pc1 := 441) (o := 401) rfl hout (by rw [hc]; rfl) rfl (st_9 hs hi hmc hms h hk)
  · exact lr_ts (pc1 := 466) (o := 426) rfl hout (by rw [hc]; rfl) rfl (st_10 hs hi hmc hms h hk)
  · exact lr_ts (pc1 := 503) (o := 463) rfl hout (by rw [hc]; rfl) rfl (st_11 hs hi hmc hms h hk)
  · exact lr_ts (pc1 := 540) (o := 500) rfl hout (by rw [hc]; rfl) rfl (st_12 hs hi hmc hms h hk)
  · exact lr_ts (pc1 := 580) (o := 540) rfl hout (by rw [hc]; rfl) rfl (st_13 hs hi hmc hms h hk)
  · exact lr_ts (pc1 := 632) (o := 592) rfl hout (by rw [hc]; rfl) rfl (st_14 hs hi hmc hms h hk)
  · exact lr_ts (pc1 := 681) (o := 641) rfl hout (by rw [hc]; rfl) rfl (st_15 hs hi hmc hms h hk)
  · exact lr_ts (pc1 := 718) (o := 678) rfl hout (by rw [hc]; rfl) rfl (st_16 hs hi hmc hms h hk)
  · exact lr_ts (pc1 := 731) (o := 691) rfl hout (by rw [hc]; rfl) rfl (st_17 hs hi hmc hms h hk)
  · exact lr_ts (pc1 := 780) (o := 740) rfl hout (by rw [hc]; rfl) rfl (st_18 hs hi hmc hms h hk)
  · exact lr_ts (pc1 := 829) (o := 789) rfl hout (by rw [hc]; rfl) rfl (st_19 hs hi hmc hms h hk)
  · exact lr_ts (pc1 := 854) (o := 814) rfl hout (by rw [hc]; rfl) rfl (st_20 hs hi hmc hms h hk)
  · exact lr_ts (pc1 := 879) (o := 839) rfl hout (by rw [hc]; rfl) rfl (st_21 hs hi hmc hms h hk)
  · exact lr_ts (pc1 := 916) (o := 876) rfl hout (by rw [hc]; rfl) rfl (st_22 hs hi hmc hms h hk)
  · exact lr_ts (pc1 := 941) (o := 901) rfl hout (by rw [hc]; rfl) rfl (st_23 hs hi hmc hms h hk)
  · exact lr_ts (pc1 := 994) (o := 954) rfl hout (by rw [hc]; rfl) rfl (st_24 hs hi hmc hms h hk)
  · exact lr_ts (pc1 := 1007) (o := 967) rfl hout (by rw [hc]; rfl) rfl (st_25 hs hi hmc hms h hk)
  · exact lr_ts (pc1 := 1020) (o := 980) rfl hout (by rw [hc]; rfl) rfl (st_26 hs hi hmc hms h hk)
  · exact lr_ts (pc1 := 1033) (o := 993) rfl hout (by rw [hc]; rfl) rfl (st_27 hs hi hmc hms h hk)
  · exact lr_ts (pc1 := 1046) (o := 1006) rfl hout (by rw [hc]; rfl) rfl (st_28 hs hi hmc hms h hk)
  · exact lr_ts (pc1 := 1059) (o := 1019) rfl hout (by rw [hc]; rfl) rfl (st_29 hs hi hmc hms h hk)
  · exact lr_ts (pc1 := 1084) (o := 1044) rfl hout (by rw [hc]; rfl) rfl (st_30 hs hi hmc hms h hk)
  · exact lr_ts (pc1 := 1109) (o := 1069) rfl hout (by rw [hc]; rfl) rfl (st_31 hs hi hmc hms h hk)
  · exact lr_ts (pc1 := 1134) (o := 1094) rfl hout (by rw [hc]; rfl) rfl (st_32 hs hi hmc hms h hk)
  · exact lr_ts (pc1 := 1147) (o := 1107) rfl hout (by rw [hc]; rfl) rfl (st_33 hs hi hmc hms h hk)
  · exact lr_ts (pc1 := 1172) (o := 1132) rfl hout (by rw [hc]; rfl) rfl (st_34 hs hi hmc hms h hk)
  · exact lr_ts (pc1 := 1197) (o := 1157) rfl hout (by rw [hc]; rfl) rfl (st_35 hs hi hmc hms h hk)
  · exact lr_ts (pc1 := 1234) (o := 1194) rfl hout (by rw [hc]; rfl) rfl (st_36 hs hi hmc hms h hk)
theorem law_loop (hs : s.length ≤ 3072) : ∀ (n i : Nat) (σ : sg_S) (l5 l6 : Option (ip_V Int32)) (mc ms : Nat), s.length < i + 6 * n → i ≤ 3072 → Inv3 σ → mc + n ≤ ip_bc 207 → ms + 6 * n ≤ ip_bs 207 → LR s (LF 23 i l5 l6 [] σ mc ms) := by
  intro n
  induction n with
  | zero =>
    intro i σ l5 l6 mc ms hl hi h hmc hms
    exact lr_no hs hi (by omega) (by omega) (by omega)
  | succ n ih =>
    intro i σ l5 l6 mc ms hl hi h hmc hms
    by_cases g : i + 6 ≤ s.length
    · refine lr_yes hs g (law_sw hs g (by omega) (by omega) h (fun σ' l5' l6' mc' ms' h' h1 h2 => lr_next23 ?_))
      exact ih (i + 6) σ' l5' l6' mc' ms' (by omega) (by omega) h' (by omega) (by omega)
    · exact lr_no hs hi (by omega) (by omega) (by omega)
end LawRuns
