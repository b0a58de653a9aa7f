/-! THE CLASS'S CALLS -/
section CCalls
variable {σ : sg_S} {T S : Nat → Nat} {k t : Nat}
/-! feed -/
def gb (x s : Int32) : Int32 := (ip_bI 7 x s) &&& 255
theorem astep {a : Nat} {x s : Int32} (ha : σ 5 1 = N a) (h5 : a < 500) : t_X3_append_1 σ x s = sg_up (sg_up σ 6 a (gb x s)) 5 1 (N (a + 1)) := by
  unfold t_X3_append_1 t_X3_append_0
  rw [ha, ni_N (by omega), up_c (by decide), ha, N_inc]
  rfl
theorem ap_l3 {n a : Nat} {x s : Int32} (ha : σ 5 1 = N a) (h5 : a < 500) (hs : ¬ s < 0) : s_X3_append_l3 (n + 1) σ x s = s_X3_append_l3 n (sg_up (sg_up σ 6 a (gb x s)) 5 1 (N (a + 1))) x (s + -8) := by
  show s_X3_append_b3 (s_X3_append_l3 n) σ x s = _
  unfold s_X3_append_b3
  rw [if_neg hs, ha, if_neg (N_nn (by omega)), if_neg (by exact g_nle (L := 500) h5 (by decide)), astep ha h5]
def ASame (σ σ' : sg_S) : Prop := ∀ q k, ¬ q = 6 → ¬ (q = 5 ∧ k = 1) → σ' q k = σ q k
theorem ASame.tr {σ σ1 σ2 : sg_S} (h : ASame σ σ1) (h' : ASame σ1 σ2) : ASame σ σ2 := fun q k a b => (h' q k a b).trans (h q k a b)
theorem ASame.hi {σ σ' : sg_S} (h : ASame σ σ') : HiS σ σ' := fun q k h1 => h q k (by omega) (by omega)
def gB4 (x : Int32) (j : Nat) : Int32 := if j = 0 then gb x 24 else if j = 1 then gb x 16 else if j = 2 then gb x 8 else gb x 0
theorem append_ok {a : Nat} {x : Int32} (ha : σ 5 1 = N a) (h5 : a + 4 ≤ 500) : (s_X3_append σ x) 5 1 = N (a + 4) ∧ ASame σ (s_X3_append σ x) ∧ (∀ j, (s_X3_append σ x) 6 j = if a ≤ j ∧ j < a + 4 then gB4 x (j - a) else σ 6 j) := by
  have e : s_X3_append σ x = sg_up (sg_up (sg_up (sg_up (sg_up (sg_up (sg_up (sg_up σ 6 a (gb x 24)) 5 1 (N (a + 1))) 6 (a + 1) (gb x 16)) 5 1 (N (a + 1 + 1))) 6 (a + 1 + 1) (gb x 8)) 5 1 (N (a + 1 + 1 + 1))) 6 (a + 1 + 1 + 1) (gb x 0)) 5 1 (N (a + 1 + 1 + 1 + 1)) := by
    show s_X3_append_l3 (599 + 1) σ x 24 = _
    rw [ap_l3 ha (by omega) (by decide)]
    show s_X3_append_l3 (598 + 1) _ x 16 = _
    rw [ap_l3 (a := a + 1) up_eq (by omega) (by decide)]
    show s_X3_append_l3 (597 + 1) _ x 8 = _
    rw [ap_l3 (a := a + 1 + 1) up_eq (by omega) (by decide)]
    show s_X3_append_l3 (596 + 1) _ x 0 = _
    rw [ap_l3 (a := a + 1 + 1 + 1) up_eq (by omega) (by decide)]
    show s_X3_append_b3 (s_X3_append_l3 595) _ x (-8) = _
    unfold s_X3_append_b3
    rw [if_pos (by decide)]
  rw [e]
  refine ⟨up_eq, fun q k h1 h2 => ?_, fun j => ?_⟩
  · simp (disch := omega) only [up_ne]
  · rw [up_c (by decide), up_ite, up_c (by decide), up_ite, up_c (by decide), up_ite, up_c (by decide), up_ite]
    unfold gB4
    repeat' split
    all_goals first | rfl | omega
theorem CInv_A {σ' : sg_S} {t' : Nat} (h : CInv σ T S k t) (hs : ASame σ σ') (ht : σ' 5 1 = N t') (h5 : t' ≤ 500) : CInv σ' T S k t' :=
  ⟨CSt_fr h.1 (hs 0 6 (by decide) (by decide)) (fun j _ => ⟨hs 33 j (by decide) (by omega), hs 34 j (by decide) (by omega)⟩) (fun q j hq => hs q j (by omega) (by omega)), ht, h5⟩
def gB20 (a b c d e : Int32) (j : Nat) : Int32 := if j < 4 then gB4 a j else if j < 8 then gB4 b (j - 4) else if j < 12 then gB4 c (j - 8) else if j < 16 then gB4 d (j - 12) else gB4 e (j - 16)
theorem C_feed {x0 x1 x2 x3 x4 : Int32} (h : CInv σ T S k t) : (t + 20 ≤ 500 → (r_X4_feed σ x0 x1 x2 x3 x4).1 = N (t + 20) ∧ CInv (r_X4_feed σ x0 x1 x2 x3 x4).2 T S k (t + 20) ∧ (∀ j, (r_X4_feed σ x0 x1 x2 x3 x4).2 6 j = if t ≤ j ∧ j < t + 20 then gB20 x0 x1 x2 x3 x4 (j - t) else σ 6 j)) ∧ (¬ t + 20 ≤ 500 → (r_X4_feed σ x0 x1 x2 x3 x4).1 = -1 ∧ CInv (r_X4_feed σ x0 x1 x2 x3 x4).2 T S k t ∧ (∀ j, (r_X4_feed σ x0 x1 x2 x3 x4).2 6 j = σ 6 j)) ∧ ASame σ (r_X4_feed σ x0 x1 x2 x3 x4).2 := by
  have ht : σ 5 1 = N t := h.2.1
  have h5 : t ≤ 500 := h.2.2
  have hc : (σ 5 1 + 20 ≤ 500) ↔ t + 20 ≤ 500 := by
    rw [ht]
    show (N t + N 20 ≤ N 500) ↔ _
    rw [N_add, N_le (by omega) (by decide)]
  unfold r_X4_feed
  by_cases g : t + 20 ≤ 500
  · have e1 : t_X4_feed_1 σ x0 x1 x2 x3 x4 = s_X3_append (s_X3_append (s_X3_append (s_X3_append (s_X3_append σ x0) x1) x2) x3) x4 := rfl
    rw [if_pos (hc.mpr g), e1]
    obtain ⟨b1, c1, d1⟩ := append_ok (x := x0) ht (by omega)
    obtain ⟨b2, c2, d2⟩ := append_ok (x := x1) b1 (by omega)
    obtain ⟨b3, c3, d3⟩ := append_ok (x := x2) b2 (by omega)
    obtain ⟨b4, c4, d4⟩ := append_ok (x := x3) b3 (by omega)
    obtain ⟨b5, c5, d5⟩ := append_ok (x := x4) b4 (by omega)
    have hF := (((c1.tr c2).tr c3).tr c4).tr c5
    have b5' : (s_X3_append (s_X3_append (s_X3_append (s_X3_append (s_X3_append σ x0) x1) x2) x3) x4) 5 1 = N (t + 20) := b5
    dsimp only
    refine ⟨fun _ => ⟨b5', CInv_A h hF b5' g, fun j => ?_⟩, fun z => absurd g z, hF⟩
    rw [d5, d4, d3, d2, d1]
    unfold gB20
    repeat' split
    all_goals first | rfl | omega | (congr 1; omega)
  · rw [if_neg (fun z => g (hc.mp z))]
    exact ⟨fun z => absurd z g, fun _ => ⟨rfl, h, fun _ => rfl⟩, fun _ _ _ _ => rfl⟩
theorem C_end {n : Int32} (h : CInv σ T S k t) : (∀ a, n = N a → a ≤ t → (r_X4_end σ n).1 = 1 ∧ CInv (r_X4_end σ n).2 T S k a) ∧ ((∀ a, n = N a → ¬ a ≤ t) → (r_X4_end σ n).1 = 0 ∧ CInv (r_X4_end σ n).2 T S k t) ∧ ASame σ (r_X4_end σ n).2 ∧ (∀ j, (r_X4_end σ n).2 6 j = σ 6 j) := by
  have ht : σ 5 1 = N t := h.2.1
  have h5 : t ≤ 500 := h.2.2
  unfold r_X4_end
  by_cases g : n < 0
  · rw [if_pos g]
    refine ⟨fun a e ha => absurd g (by rw [e]; exact N_nn (by omega)), fun _ => ⟨rfl, h⟩, fun _ _ _ _ => rfl, fun _ => rfl⟩
  rw [if_neg g, ht]
  obtain ⟨a, ha, rfl⟩ := ex_nn g
  by_cases g2 : a ≤ t
  · rw [if_pos (g_le g2 (by omega))]
    dsimp only
    have hF : ASame σ (sg_up σ 5 1 (N a)) := fun q k _ h2 => up_ne h2
    refine ⟨fun b e hb => ?_, fun z => absurd g2 (z a rfl), hF, fun j => by rw [up_c (by decide)]⟩
    have eb : a = b := (N_eq ha (by omega)).mp e
    subst eb
    exact ⟨rfl, CInv_A h hF up_eq (by omega)⟩
  · rw [if_neg (g_nle (by omega) ha)]
    refine ⟨fun b e hb => ?_, fun _ => ⟨rfl, h⟩, fun _ _ _ _ => rfl, fun _ => rfl⟩
    have eb : a = b := (N_eq ha (by omega)).mp e
    omega
/-! the LOG is emptied -/
theorem cempty_ok {T' S' : Nat → Nat} (hT : TabAt σ 2 T') (hK : TabOK T') (hS : SetAt σ 4 S') (hSK : SetOK S') : CSt T' S' (s_X4_emptyLog σ) 0 ∧ (∀ q j, ¬ (7 ≤ q ∧ q ≤ 19) → ¬ (q = 0 ∧ j = 6) → s_X4_emptyLog σ q j = σ q j) := by
  obtain ⟨r1, r2⟩ := crestart_ok (σ := sg_up σ 0 6 0) (c := 7) (by decide) (TabAt_up hT (by decide)) hK (SetAt_up hS (by decide)) hSK
  have hs : ∀ q j, ¬ (7 ≤ q ∧ q ≤ 19) → ¬ (q = 0 ∧ j = 6) → s_X4_emptyLog σ q j = σ q j := fun q j h1 h2 => (r2 q j h1).trans (up_ne h2)
  exact ⟨⟨(r2 0 6 (by decide)).trans up_eq, by decide, begn T' S', rfl, r1⟩, hs⟩
theorem C_table (h : CInv σ T S k t) : (∃ T' k', CInv (r_X4_table σ).2 T' S k' 0) ∧ HiS σ (r_X4_table σ).2 := by
  obtain ⟨⟨a1, a2, x, a3, a4⟩, ht, h5⟩ := id h
  obtain ⟨r1, V, r2, r3⟩ := ctab_ok h5 ht a4.1 a4.2.1
  have hS1 : ∀ q j, ¬ q = 3 → ¬ (q = 5 ∧ 1 ≤ j ∧ j ≤ 4) → ¬ (q = 0 ∧ (j = 7 ∨ j = 8)) → (sg_up (t_X4_table_0 σ) 5 1 0) q j = σ q j := fun q j h1 h2 h3 => by
    unfold t_X4_table_0
    rw [up_ne (by omega), up_ne (by omega), r1 q j h1 (by omega) h3]
  have h07 : (sg_up (t_X4_table_0 σ) 5 1 0) 0 7 = (r_X4_readTable σ).1 := by
    unfold t_X4_table_0
    rw [up_c (by decide), up_eq]
  have hhi : HiS σ (sg_up (t_X4_table_0 σ) 5 1 0) := fun q j hq => hS1 q j (by omega) (by omega) (by omega)
  unfold r_X4_table
  by_cases g : (sg_up (t_X4_table_0 σ) 5 1 0) 0 7 = 0
  · rw [if_pos g]
    rw [h07] at g
    have hV : TabAt (sg_up (t_X4_table_0 σ) 5 1 0) 3 V := by
      unfold t_X4_table_0
      exact TabAt_up (TabAt_up r2 (by decide)) (by decide)
    obtain ⟨c1, c2⟩ := adopt2 600 0 (sg_up (t_X4_table_0 σ) 5 1 0) (by decide) (by decide) hV (fun i hi => by omega)
    have c1 : TabAt (t_X4_table_1 σ) 2 V := c1
    have c2 : ∀ q j, ¬ q = 2 → t_X4_table_1 σ q j = (sg_up (t_X4_table_0 σ) 5 1 0) q j := c2
    have hS4 : SetAt (t_X4_table_1 σ) 4 S := fun j hj => by
      rw [c2 4 j (by decide), hS1 4 j (by decide) (by omega) (by omega)]; exact a4.2.2.1 j hj
    obtain ⟨e1, e2⟩ := cempty_ok c1 (r3 g) hS4 a4.2.2.2.1
    dsimp only
    refine ⟨⟨V, 0, e1, ?_, by decide⟩, fun q j hq => ?_⟩
    · rw [e2 5 1 (by decide) (by decide), c2 5 1 (by decide), up_eq]; rfl
    · rw [e2 q j (by omega) (by omega), c2 q j (by omega)]; exact hhi q j hq
  · rw [if_neg g]
    dsimp only
    refine ⟨⟨T, k, CSt_fr h.1 (hS1 0 6 (by decide) (by decide) (by decide)) (fun j _ => ⟨hS1 33 j (by decide) (by omega) (by omega), hS1 34 j (by decide) (by omega) (by omega)⟩) (fun q j hq => hS1 q j (by omega) (by omega) (by omega)), up_eq, by decide⟩, hhi⟩
theorem C_events (h : CInv σ T S k t) : (∃ k', CInv (r_X4_events σ).2 T S k' 0) ∧ HiS σ (r_X4_events σ).2 := by
  obtain ⟨hst, ht, h5⟩ := id h
  have h1 : CSt T S (s_X3_rewind (sg_up σ 0 7 0)) k := CSt_K (CSt_fr hst (by rw [up_k (by decide)]) (fun j _ => ⟨by rw [up_c (by decide)], by rw [up_c (by decide)]⟩) (fun q j hq => by rw [up_c (by omega)])) K_rewind
  obtain ⟨b1, b2, x, b3, b4⟩ := id h1
  have h6 : σ 0 6 = N k := hst.1
  obtain ⟨i1, i2⟩ := cev19 (T := T) (S := S) (k0 := k) b2 (x0 := x) 600 0 k (s_X3_rewind (sg_up σ 0 7 0)) (by decide) (by decide) (Nat.le_refl _) h1 b3
  unfold r_X4_events
  rw [h6]
  exact ⟨i1, ((HiS_u (by decide)).tr K_rewind.hi).tr i2⟩
/-! set -/
theorem allows_iff {x0 x1 : Int32} (hS : SetAt σ 4 S) (hSK : SetOK S) : (¬ v_X2_allows σ x0 x1 = 0 ∧ ¬ v_X2_setting σ x0 = x1) ↔ ∃ s v, x0 = N s ∧ x1 = N v ∧ setC S s v := by
  obtain ⟨s1, s2, s3, s4, s5, s6, s7⟩ := id hSK
  have key : ∀ s v : Nat, s < 5 → v < 2147483648 → (¬ v_X2_allows σ (N s) (N v) = 0 ↔ ((s = 0 ∨ s = 2 → 1 ≤ v ∧ v ≤ 20) ∧ (s = 1 → 1 ≤ v ∧ v ≤ 400) ∧ (s = 3 → v + S 4 ≤ 20) ∧ (s = 4 → v + S 3 ≤ 20))) := by
    intro s v hs hv
    unfold v_X2_allows
    rw [if_neg (N_nn (by omega)), if_neg (by exact g_nle (L := 5) hs (by decide)), ni_N (by omega), hS 3 (by decide), hS 4 (by decide)]
    have lo1 : (N v < N 1) ↔ v < 1 := N_lt hv (by decide)
    have lo0 : (N v < N 0) ↔ v < 0 := N_lt hv (by decide)
    have hi20 : (N v ≤ N 20) ↔ v ≤ 20 := N_le hv (by decide)
    have hi400 : (N v ≤ N 400) ↔ v ≤ 400 := N_le hv (by decide)
    rcases (show s = 0 ∨ s = 1 ∨ s = 2 ∨ s = 3 ∨ s = 4 by omega) with rfl | rfl | rfl | rfl | rfl
    · show ¬ (if N v < N 1 then (0 : Int32) else (if N v ≤ N 20 then (if ¬ N 0 = 3 then (if ¬ N 0 = 4 then 1 else _) else _) else 0)) = 0 ↔ _
      by_cases g1 : N v < N 1
      · rw [if_pos g1]; rw [lo1] at g1; exact ⟨fun z => absurd rfl z, fun z => by omega⟩
      rw [if_neg g1]; rw [lo1] at g1
      by_cases g2 : N v ≤ N 20
      · rw [if_pos g2, if_pos (by decide), if_pos (by decide)]; rw [hi20] at g2
        exact ⟨fun _ => ⟨fun _ => by omega, fun z => by omega, fun z => by omega, fun z => by omega⟩, fun _ => one_nz⟩
      · rw [if_neg g2]; rw [hi20] at g2; exact ⟨fun z => absurd rfl z, fun z => by omega⟩
    · show ¬ (if N v < N 1 then (0 : Int32) else (if N v ≤ N 400 then (if ¬ N 1 = 3 then (if ¬ N 1 = 4 then 1 else _) else _) else 0)) = 0 ↔ _
      by_cases g1 : N v < N 1
      · rw [if_pos g1]; rw [lo1] at g1; exact ⟨fun z => absurd rfl z, fun z => by omega⟩
      rw [if_neg g1]; rw [lo1] at g1
      by_cases g2 : N v ≤ N 400
      · rw [if_pos g2, if_pos (by decide), if_pos (by decide)]; rw [hi400] at g2
        exact ⟨fun _ => ⟨fun z => by omega, fun _ => by omega, fun z => by omega, fun z => by omega⟩, fun _ => one_nz⟩
      · rw [if_neg g2]; rw [hi400] at g2; exact ⟨fun z => absurd rfl z, fun z => by omega⟩
    · show ¬ (if N v < N 1 then (0 : Int32) else (if N v ≤ N 20 then (if ¬ N 2 = 3 then (if ¬ N 2 = 4 then 1 else _) else _) else 0)) = 0 ↔ _
      by_cases g1 : N v < N 1
      · rw [if_pos g1]; rw [lo1] at g1; exact ⟨fun z => absurd rfl z, fun z => by omega⟩
      rw [if_neg g1]; rw [lo1] at g1
      by_cases g2 : N v ≤ N 20
      · rw [if_pos g2, if_pos (by decide), if_pos (by decide)]; rw [hi20] at g2
        exact ⟨fun _ => ⟨fun _ => by omega, fun z => by omega, fun z => by omega, fun z => by omega⟩, fun _ => one_nz⟩
      · rw [if_neg g2]; rw [hi20] at g2; exact ⟨fun z => absurd rfl z, fun z => by omega⟩
    · show ¬ (if N v < N 0 then (0 : Int32) else (if N v ≤ N 20 then (if ¬ N 3 = 3 then _ else (if N 20 < N v + N (S 4) then 0 else 1)) else 0)) = 0 ↔ _
      rw [if_neg (by rw [lo0]; omega)]
      by_cases g2 : N v ≤ N 20
      · rw [if_pos g2, if_neg (fun z => z rfl), N_add]; rw [hi20] at g2
        by_cases g3 : 20 < v + S 4
        · rw [if_pos (g_lt g3 (by omega))]; exact ⟨fun z => absurd rfl z, fun z => by omega⟩
        · rw [if_neg (g_nlt (by omega) (by decide))]
          exact ⟨fun _ => ⟨fun z => by omega, fun z => by omega, fun _ => by omega, fun z => by omega⟩, fun _ => one_nz⟩
      · rw [if_neg g2]; rw [hi20] at g2; exact ⟨fun z => absurd rfl z, fun z => by omega⟩
    · show ¬ (if N v < N 0 then (0 : Int32) else (if N v ≤ N 20 then (if ¬ N 4 = 3 then (if ¬ N 4 = 4 then 1 else (if N 20 < N v + N (S 3) then 0 else 1)) else _) else 0)) = 0 ↔ _
      rw [if_neg (by rw [lo0]; omega)]
      by_cases g2 : N v ≤ N 20
      · rw [if_pos g2, if_pos (by decide), if_neg (fun z => z rfl), N_add]; rw [hi20] at g2
        by_cases g3 : 20 < v + S 3
        · rw [if_pos (g_lt g3 (by omega))]; exact ⟨fun z => absurd rfl z, fun z => by omega⟩
        · rw [if_neg (g_nlt (by omega) (by decide))]
          exact ⟨fun _ => ⟨fun z => by omega, fun z => by omega, fun z => by omega, fun _ => by omega⟩, fun _ => one_nz⟩
      · rw [if_neg g2]; rw [hi20] at g2; exact ⟨fun z => absurd rfl z, fun z => by omega⟩
  have low : ¬ v_X2_allows σ x0 x1 = 0 → ∃ s v, x0 = N s ∧ s < 5 ∧ x1 = N v ∧ v < 2147483648 := by
    intro h
    unfold v_X2_allows at h
    by_cases g1 : x0 < 0
    · rw [if_pos g1] at h; exact absurd rfl h
    rw [if_neg g1] at h
    by_cases g2 : (5 : Int32) ≤ x0
    · rw [if_pos g2] at h; exact absurd rfl h
    rw [if_neg g2] at h
    obtain ⟨s, hs, rfl⟩ := ex_nle 5 g1 g2 (by decide)
    have hx : ¬ x1 < 0 := by
      intro hz
      rw [if_pos ?_] at h
      · exact absurd rfl h
      · rw [ni_N (by omega)]
        rcases (show s = 0 ∨ s = 1 ∨ s = 2 ∨ s = 3 ∨ s = 4 by omega) with rfl | rfl | rfl | rfl | rfl
        · exact Int32.lt_trans hz (show (0 : Int32) < 1 by decide)
        · exact Int32.lt_trans hz (show (0 : Int32) < 1 by decide)
        · exact Int32.lt_trans hz (show (0 : Int32) < 1 by decide)
        · exact hz
        · exact hz
    obtain ⟨v, hv, rfl⟩ := ex_nn hx
    exact ⟨s, v, rfl, hs, rfl, hv⟩
  constructor
  · rintro ⟨h1, h2⟩
    obtain ⟨s, v, rfl, hs, rfl, hv⟩ := low h1
    have hk := (key s v hs hv).mp h1
    rw [setting_k hS hs] at h2
    exact ⟨s, v, rfl, rfl, hs, fun z => h2 (by rw [z]), hk⟩
  · rintro ⟨s, v, rfl, rfl, hs, hne, hc⟩
    have hb : v < 2147483648 := by
      rcases (show s = 0 ∨ s = 1 ∨ s = 2 ∨ s = 3 ∨ s = 4 by omega) with rfl | rfl | rfl | rfl | rfl
      · have := hc.1 (Or.inl rfl); omega
      · have := hc.2.1 rfl; omega
      · have := hc.1 (Or.inr rfl); omega
      · have := hc.2.2.1 rfl; omega
      · have := hc.2.2.2 rfl; omega
    refine ⟨(key s v hs hb).mpr hc, ?_⟩
    rw [setting_k hS hs]
    have hSs : S s ≤ 400 := by
      rcases (show s = 0 ∨ s = 1 ∨ s = 2 ∨ s = 3 ∨ s = 4 by omega) with rfl | rfl | rfl | rfl | rfl <;> omega
    rw [N_eq (by omega) hb]
    exact hne
theorem C_set {x0 x1 : Int32} (h : CInv σ T S k t) : (∃ S' k', CInv (r_X4_set σ x0 x1).2 T S' k' t) ∧ HiS σ (r_X4_set σ x0 x1).2 := by
  obtain ⟨⟨a1, a2, x, a3, a4⟩, ht, h5⟩ := id h
  have ha := allows_iff (x0 := x0) (x1 := x1) a4.2.2.1 a4.2.2.2.1
  unfold r_X4_set
  by_cases g1 : v_X2_allows σ x0 x1 = 0
  · rw [if_pos g1]; exact ⟨⟨S, k, h⟩, HiS.rf⟩
  rw [if_neg g1]
  by_cases g2 : ¬ v_X2_setting σ x0 = x1
  · rw [if_pos g2]
    obtain ⟨s, v, rfl, rfl, hc⟩ := ha.mp ⟨g1, g2⟩
    have es : s_X2_change σ (N s) (N v) = sg_up σ 4 s (N v) := by
      unfold s_X2_change
      rw [if_neg (N_nn (by have := hc.1; omega)), if_neg (by exact g_nle (L := 5) hc.1 (by decide)), ni_N (by have := hc.1; omega)]
    rw [es]
    obtain ⟨e1, e2⟩ := cempty_ok (σ := sg_up σ 4 s (N v)) (TabAt_up a4.1 (by decide)) a4.2.1 (SetAt_du a4.2.2.1) (setC_OK a4.2.2.2.1 hc)
    dsimp only
    refine ⟨⟨_, 0, e1, ?_, h5⟩, fun q j hq => ?_⟩
    · rw [e2 5 1 (by decide) (by decide), up_c (by decide)]; exact ht
    · rw [e2 q j (by omega) (by omega), up_c (by omega)]
  · rw [if_neg g2]; exact ⟨⟨S, k, h⟩, HiS.rf⟩
theorem C_clear (h : CInv σ T S k t) : CInv (r_X4_clear σ).2 T S 0 t ∧ HiS σ (r_X4_clear σ).2 := by
  obtain ⟨⟨a1, a2, x, a3, a4⟩, ht, h5⟩ := id h
  obtain ⟨e1, e2⟩ := cempty_ok a4.1 a4.2.1 a4.2.2.1 a4.2.2.2.1
  unfold r_X4_clear
  dsimp only
  exact ⟨⟨e1, by rw [e2 5 1 (by decide) (by decide)]; exact ht, h5⟩, fun q j hq => e2 q j (by omega) (by omega)⟩
theorem C_back (h : CInv σ T S k t) : (∃ k', CInv (r_X4_back σ).2 T S k' t) ∧ HiS σ (r_X4_back σ).2 := by
  obtain ⟨⟨a1, a2, x, a3, a4⟩, ht, h5⟩ := id h
  unfold r_X4_back
  by_cases g : (0 : Int32) < σ 0 6
  · rw [if_pos g]
    have hk : 1 ≤ k := by
      rw [a1] at g
      exact (N_lt (a := 0) (by decide) (by omega)).mp g
    obtain ⟨y, hy⟩ := mrun_le' a3 (j := k - 1) (by omega)
    have e1 : σ 0 6 - 1 = N (k - 1) := by rw [a1]; exact N_sub (b := 1) hk
    have e33 : (sg_up σ 0 6 (N (k - 1))) 33 = σ 33 := funext (fun j => by rw [up_c (by decide)])
    have e34 : (sg_up σ 0 6 (N (k - 1))) 34 = σ 34 := funext (fun j => by rw [up_c (by decide)])
    have et : t_X4_back_0 σ = s_X4_replay (sg_up σ 0 6 (N (k - 1))) 7 (N (k - 1)) := by
      unfold t_X4_back_0
      rw [e1, up_eq]
    obtain ⟨r1, r2⟩ := replay_ok (σ := sg_up σ 0 6 (N (k - 1))) (c := 7) (y := y) (by decide) (by decide) (TabAt_up a4.1 (by decide)) a4.2.1 (SetAt_up a4.2.2.1 (by decide)) a4.2.2.2.1 (show k - 1 ≤ 400 by omega) (by rw [e33, e34]; exact hy)
    dsimp only
    rw [et]
    refine ⟨⟨k - 1, ⟨?_, by omega, y, ?_, r1⟩, ?_, h5⟩, (HiS_u (by decide)).tr (r2.hi (by decide))⟩
    · rw [r2 0 6 (by decide), up_eq]
    · rw [r2.row (q := 33) (by decide), r2.row (q := 34) (by decide), e33, e34]; exact hy
    · rw [r2 5 1 (by decide), up_c (by decide)]; exact ht
  · rw [if_neg g]; exact ⟨⟨k, h⟩, HiS.rf⟩
theorem C_play {x0 x1 : Int32} (h : CInv σ T S k t) : (∃ k', CInv (r_X4_play σ x0 x1).2 T S k' t) ∧ HiS σ (r_X4_play σ x0 x1).2 := by
  obtain ⟨⟨a1, a2, x, a3, a4⟩, ht, h5⟩ := id h
  have key : ¬ v_X4_isEvent x0 = 0 → ¬ v_X4_canCome σ x0 = 0 → (¬ v_X4_bearsNumber x0 = 0 → ¬ v_X0_fits σ 7 x0 x1 = 0) → (∃ k', CInv (s_X4_record σ x0 x1) T S k' t) ∧ HiS σ (s_X4_record σ x0 x1) := fun g1 g2 g3 => by
    obtain ⟨c1, c2⟩ := cplay_can (n := x1) a1 a2 a4 a3 g1 g2 g3
    obtain ⟨r1, r2⟩ := crec_st a1 c1 a4 a3 c2
    exact ⟨⟨k + 1, r1, by rw [r2 5 1 (by decide) (by omega) (by decide) (by decide)]; exact ht, h5⟩, r2.hi⟩
  unfold r_X4_play
  by_cases g1 : v_X4_isEvent x0 = 0
  · rw [if_pos g1]; exact ⟨⟨k, h⟩, HiS.rf⟩
  rw [if_neg g1]
  by_cases g2 : ¬ v_X4_canCome σ x0 = 0
  · rw [if_pos g2]
    by_cases g3 : v_X4_bearsNumber x0 = 0
    · rw [if_pos g3]; exact key g1 g2 (fun z => absurd g3 z)
    · rw [if_neg g3]
      by_cases g4 : ¬ v_X0_fits σ 7 x0 x1 = 0
      · rw [if_pos g4]; exact key g1 g2 (fun _ => g4)
      · rw [if_neg g4]; exact ⟨⟨k, h⟩, HiS.rf⟩
  · rw [if_neg g2]; exact ⟨⟨k, h⟩, HiS.rf⟩
/-! how it was -/
theorem CInv_20 {σ' : sg_S} (h : CInv σ T S k t) (hs : CSame 20 σ σ') : CInv σ' T S k t ∧ HiS σ σ' :=
  ⟨⟨CSt_fr h.1 (hs 0 6 (by decide)) (fun j _ => ⟨hs 33 j (by decide), hs 34 j (by decide)⟩) (fun q j hq => hs q j (by omega)), by rw [hs 5 1 (by decide)]; exact h.2.1, h.2.2⟩, hs.hi (by decide)⟩
theorem C_after {x0 x1 : Int32} (h : CInv σ T S k t) : CInv (r_X4_after σ x0 x1).2 T S k t ∧ HiS σ (r_X4_after σ x0 x1).2 := by
  obtain ⟨⟨a1, a2, x, a3, a4⟩, ht, h5⟩ := id h
  unfold r_X4_after
  by_cases g1 : x0 < 0
  · rw [if_pos g1]; exact ⟨h, HiS.rf⟩
  rw [if_neg g1]
  by_cases g2 : σ 0 6 < x0
  · rw [if_pos g2]; exact ⟨h, HiS.rf⟩
  rw [if_neg g2]
  rw [a1] at g2
  obtain ⟨a, ha, rfl⟩ := ex_nlt k g1 g2 (by omega)
  obtain ⟨y, hy⟩ := mrun_le' a3 ha
  obtain ⟨r1, r2⟩ := replay_ok (c := 20) (by decide) (by decide) a4.1 a4.2.1 a4.2.2.1 a4.2.2.2.1 (show a ≤ 400 by omega) hy
  have hq := CInv_20 h r2
  repeat' split
  all_goals first | exact hq | exact ⟨h, HiS.rf⟩
theorem cahead9 {y : mS} (hk : k ≤ 400) : ∀ (n j : Nat) (σ : sg_S) (x : mS), j ≤ k → k - j < n → σ 0 6 = N k → CAt σ 20 T S x.1 x.2.1 x.2.2 → mrun T S (σ 33) (σ 34) j = some x → mrun T S (σ 33) (σ 34) k = some y → CSame 20 σ (r_X4_firstAhead_l9 n σ (N j)).2 := by
  intro n
  induction n with
  | zero => intro j σ x _ hn; omega
  | succ n ih =>
    intro j σ x hj hn h6 hR hx hy
    show CSame 20 σ (r_X4_firstAhead_b9 (r_X4_firstAhead_l9 n) σ (N j)).2
    unfold r_X4_firstAhead_b9
    rw [h6]
    by_cases e : j = k
    · rw [if_pos (by rw [e]; exact Int32.le_refl _)]; exact CSame.rf
    · rw [if_neg (g_nle (by omega) (by omega)), if_neg (by exact g_nle (L := 400) (by omega) (by decide)), ni_N (by omega), N_inc]
      obtain ⟨z, hz⟩ := mrun_le' hy (j := j + 1) (by omega)
      have hst := hz
      rw [mrun_some hx] at hst
      obtain ⟨g1, g4⟩ := take_ok (y := z) (by decide) hR (mrun_OK hR.2.1 hR.2.2.2.1 j x hx) (by omega) (show stp T (S 1) (x.1, x.2.1, x.2.2) (σ 33 j) (σ 34 j) = some z from hst)
      have r33 := g4.row (q := 33) (by decide)
      have r34 := g4.row (q := 34) (by decide)
      have i := g4.tr (ih (j + 1) (s_X0_take σ 20 (σ 33 j) (σ 34 j)) z (by omega) (by omega) (by rw [g4 0 6 (by decide)]; exact h6) g1 (by rw [r33, r34]; exact hz) (by rw [r33, r34]; exact hy))
      repeat' split
      all_goals first | exact i | exact g4
theorem C_firstAhead (h : CInv σ T S k t) : CInv (r_X4_firstAhead σ).2 T S k t ∧ HiS σ (r_X4_firstAhead σ).2 := by
  obtain ⟨⟨a1, a2, x, a3, a4⟩, ht, h5⟩ := id h
  obtain ⟨b2, b4⟩ := crestart_ok (c := 20) (by decide) a4.1 a4.2.1 a4.2.2.1 a4.2.2.2.1
  have r33 := b4.row (q := 33) (by decide)
  have r34 := b4.row (q := 34) (by decide)
  have i := cahead9 (T := T) (S := S) (y := x) a2 600 0 (s_X0_restart σ 20) (begn T S) (by omega) (by omega) (by rw [b4 0 6 (by decide)]; exact a1) b2 rfl (by rw [r33, r34]; exact a3)
  exact CInv_20 h (b4.tr i)
/-! blocks -/
theorem bo17 {x1 x2 x3 : Int32} : ∀ (n j : Nat) (x4 x5 : Int32), j ≤ 3 → 3 - j < n → v_X2_blockOvers_l17 σ n x1 x2 x3 x4 x5 (N j) = x3 / 20 + 0 ∨ v_X2_blockOvers_l17 σ n x1 x2 x3 x4 x5 (N j) = x3 / 20 + 1 := by
  intro n
  induction n with
  | zero => intro j x4 x5 _ hn; omega
  | succ n ih =>
    intro j x4 x5 hj hn
    show v_X2_blockOvers_b17 σ (v_X2_blockOvers_l17 σ n) x1 x2 x3 x4 x5 (N j) = _ ∨ v_X2_blockOvers_b17 σ (v_X2_blockOvers_l17 σ n) x1 x2 x3 x4 x5 (N j) = _
    unfold v_X2_blockOvers_b17
    by_cases e : j = 3
    · have hc : (3 : Int32) ≤ N j := (N14 (L := 3) hj (by decide)).mpr e
      rw [if_pos hc]
      split
      · exact Or.inl rfl
      · exact Or.inr rfl
    · have hc : ¬ (3 : Int32) ≤ N j := fun z => e ((N14 (L := 3) hj (by decide)).mp z)
      rw [if_neg hc, N_inc]
      repeat' split
      all_goals exact ih (j + 1) _ _ (by omega) (by omega)
theorem share_eq {j : Nat} (hS : SetAt σ 4 S) (hSK : SetOK S) (hj : j < 3) : v_X2_shareOf σ (N j) = N (shr S j) := by
  have h34 := hSK.2.2.2.2.2.2
  unfold v_X2_shareOf shr
  rw [hS 3 (by decide), hS 4 (by decide)]
  rcases (show j = 0 ∨ j = 1 ∨ j = 2 by omega) with rfl | rfl | rfl
  · rw [if_neg (fun z => z rfl), if_pos rfl]
  · rw [if_pos (by decide), if_neg (fun z => z rfl), if_neg (by decide), if_pos rfl]
  · rw [if_pos (by decide), if_pos (by decide), if_neg (by decide), if_neg (by decide), show (20 : Int32) = N 20 from rfl, N_sub (by omega), N_sub (by omega)]
theorem bo_N {o j : Nat} (hS : SetAt σ 4 S) (hSK : SetOK S) (ho : o ≤ 20) (hj : j < 3) : ∃ b, b ≤ 21 ∧ v_X2_blockOvers σ (N o) (N j) = N b := by
  have hsh : shr S j ≤ 20 := by
    have h34 := hSK.2.2.2.2.2.2
    unfold shr
    repeat' split
    all_goals omega
  have hm : o * shr S j ≤ 20 * 20 := Nat.mul_le_mul ho hsh
  have e : N o * v_X2_shareOf σ (N j) = N (o * shr S j) := by rw [share_eq hS hSK hj, N_mul]
  have ed : N (o * shr S j) / 20 = N (o * shr S j / 20) := N_div (b := 20) (by omega) (by decide)
  have h := bo17 (σ := σ) (x1 := N o) (x2 := N j) (x3 := N (o * shr S j)) 600 0 (N o) 0 (by decide) (by decide)
  unfold v_X2_blockOvers
  rw [e]
  rcases h with h | h
  · exact ⟨o * shr S j / 20, by omega, h.trans (by rw [ed, Int32.add_zero])⟩
  · exact ⟨o * shr S j / 20 + 1, by omega, h.trans (by rw [ed, N_inc])⟩
theorem bf75 {c f r4 : Nat} {x3 x6 : Int32} (hf : f < 1000) : p_X0_blockFact_l75 σ c 600 x3 r4 x6 0 (N f) := by
  by_cases e : f ≤ 20
  · exact q_X0_blockFact_l75 σ c 600 f x3 r4 x6 0 e (by omega)
  · show p_X0_blockFact_b75 σ c (p_X0_blockFact_l75 σ c 599) x3 r4 x6 0 (N f)
    intro _ z
    exact absurd (show (20 : Int32) ≤ N f from g_le (a := 20) (by omega) (by omega)) z
theorem bf13 {c o kk r4 : Nat} {x3 : Int32} (hS : SetAt σ 4 S) (hSK : SetOK S) (ho : o ≤ 20) (hr : σ r4 3 = N o) (hk : kk < 3) : ∀ (n j f : Nat), j ≤ 3 → 3 - j < n → f ≤ 21 * j → p_X0_blockFact_l13 σ c n (N kk) x3 r4 (N f) (N j) := by
  intro n
  induction n with
  | zero => intro j f _ hn; omega
  | succ n ih =>
    intro j f hj hn hf
    show p_X0_blockFact_b13 σ c (p_X0_blockFact_l13 σ c n) (N kk) x3 r4 (N f) (N j)
    unfold p_X0_blockFact_b13
    rw [hr]
    have h1 : p_X2_blockOvers σ (N o) (N kk) ∧ p_X0_blockFact_l75 σ c 600 x3 r4 (N f + v_X2_blockOvers σ (N o) (N kk)) 0 (N f) := ⟨q_X2_blockOvers _ _ _, bf75 (by omega)⟩
    refine ⟨fun _ => h1, fun _ => ⟨fun _ => h1, fun z => ⟨q_X2_blockOvers _ _ _, ?_⟩⟩⟩
    have z : ¬ N 3 ≤ N j := z
    rw [N_le (by decide) (by omega)] at z
    obtain ⟨b, hb, eb⟩ := bo_N (j := j) hS hSK ho (by omega)
    rw [eb, N_add, N_inc]
    exact ih (j + 1) (f + b) (by omega) (by omega) (by omega)
theorem blockFact_p {c i kk : Nat} {x2 : Int32} {now t' : Nat} {D : Nat → Nat → Nat} (h : CAt σ c T S now t' D) (hi : i < 2) (hI : InnOK T k (D i)) (hk : kk < 3) : p_X0_blockFact σ c (N i) (N kk) x2 := by
  unfold p_X0_blockFact
  rw [side_eq hi]
  exact bf13 h.2.2.1 h.2.2.2.1 hI.2.1 (h.pic hi 3 (by decide)) hk 600 0 0 (by decide) (by decide) (by decide)
theorem C_inBlock {x0 x1 x2 : Int32} (h : CInv σ T S k t) : p_X4_inBlock σ x0 x1 x2 := by
  obtain ⟨⟨a1, a2, x, a3, a4⟩, ht, h5⟩ := id h
  have hO := mrun_OK a4.2.1 a4.2.2.2.1 k x a3
  intro hi hk _
  have hi' : ∃ i, x0 = N i ∧ i < 2 := by
    unfold v_X4_isSide at hi
    by_cases g1 : x0 = 0
    · exact ⟨0, g1, by decide⟩
    rw [if_neg g1] at hi
    by_cases g2 : x0 = 1
    · exact ⟨1, g2, by decide⟩
    · rw [if_pos g2] at hi; exact absurd rfl hi
  have hk' : ∃ j, x1 = N j ∧ j < 3 := by
    unfold v_X4_isBlock at hk
    by_cases g1 : x1 < 0
    · rw [if_pos g1] at hk; exact absurd rfl hk
    rw [if_neg g1] at hk
    by_cases g2 : (3 : Int32) ≤ x1
    · rw [if_pos g2] at hk; exact absurd rfl hk
    obtain ⟨j, hj, e⟩ := ex_nle 3 g1 g2 (by decide)
    exact ⟨j, e, hj⟩
  obtain ⟨i, rfl, hi2⟩ := hi'
  obtain ⟨j, rfl, hj⟩ := hk'
  exact blockFact_p a4 hi2 (hO.2.2.2.1 i hi2) hj
theorem C_broken {x0 : Int32} (h : CInv σ T S k t) : p_X4_broken σ x0 := by
  obtain ⟨⟨a1, a2, x, a3, a4⟩, ht, h5⟩ := id h
  have hO := mrun_OK a4.2.1 a4.2.2.2.1 k x a3
  refine fun _ _ => ⟨q_X4_result _, fun _ => fun _ => ⟨fun _ => ⟨?_, ?_⟩, fun _ => ⟨fun _ => ⟨q_X0_boundaries _, q_X0_boundaries _⟩, fun _ => ⟨q_X1_greatestOver _ _, q_X1_overFact _ _ _, q_X1_greatestOver _ _, q_X1_overFact _ _ _⟩⟩⟩⟩
  · exact blockFact_p (i := 0) (kk := 0) a4 (by decide) (hO.2.2.2.1 0 (by decide)) (by decide)
  · exact blockFact_p (i := 1) (kk := 0) a4 (by decide) (hO.2.2.2.1 1 (by decide)) (by decide)
end CCalls
