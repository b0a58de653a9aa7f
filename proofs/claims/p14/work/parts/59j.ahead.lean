/-! FIRSTAHEAD: both -/
def NotA (τ : sg_S) : Prop := v_X5_hasTarget τ = 0 ∨ ¬ τ 35 23 = 1 ∨ τ 41 1 ≤ v_X5_thePar τ (τ 41 0)
theorem ahead_go {τ : sg_S} {n j k : Nat} (h6 : τ 35 6 = N k) (hj : j ≤ k) (hk : k ≤ 400) (hN : NotA τ) : r_X5_firstAhead_l11 (n + 1) τ (N j) = r_X5_firstAhead_a55 (r_X5_firstAhead_l11 n) τ (N j) := by
  show r_X5_firstAhead_b11 (r_X5_firstAhead_l11 n) τ (N j) = _
  unfold r_X5_firstAhead_b11
  rw [h6, if_neg (g_nlt hj (by omega))]
  by_cases g1 : v_X5_hasTarget τ = 0
  · rw [if_pos g1]
  rw [if_neg g1]
  by_cases g2 : ¬ τ 35 23 = 1
  · rw [if_pos g2]
  rw [if_neg g2, if_pos ((hN.resolve_left g1).resolve_left g2)]
theorem ahead_yes {τ : sg_S} {n j k : Nat} (h6 : τ 35 6 = N k) (hj : j ≤ k) (hk : k ≤ 400) (hN : ¬ NotA τ) : r_X5_firstAhead_l11 (n + 1) τ (N j) = (N j, τ) := by
  show r_X5_firstAhead_b11 (r_X5_firstAhead_l11 n) τ (N j) = _
  unfold r_X5_firstAhead_b11
  rw [h6, if_neg (g_nlt hj (by omega)), if_neg (fun w => hN (Or.inl w)), if_neg (fun w => hN (Or.inr (Or.inl w))), if_neg (fun w => hN (Or.inr (Or.inr w)))]
theorem ahead_iff {P τ : sg_S} {T S : Nat → Nat} {j i u : Nat} {D : Nat → Nat → Nat} (hA : CAt P 20 T S i u D) (hR : RefAt τ T S i u D) (hO : OK T (S 1) j i u D) (hj : j ≤ 401) : NotA τ ↔ (v_X0_parNow P 20 = -1 ∨ P 27 0 ≤ v_X0_parNow P 20) := by
  have hi := hO.1
  have h0 := hO.2.2.2.1 0 (by decide)
  have h1 := hO.2.2.2.1 1 (by decide)
  have hp := par_both hA hR hi hj h0 h1
  rw [hp, show P 27 0 = N (D 1 0) from hA.2.2.2.2.2.2.2 0 (by decide)]
  unfold NotA v_X5_parNow
  rw [(hR.pic (i := 1) (by decide)).1]
  by_cases g1 : v_X5_hasTarget τ = 0
  · rw [if_pos g1]; exact ⟨fun _ => Or.inl rfl, fun _ => Or.inl g1⟩
  rw [if_neg g1]
  by_cases g2 : ¬ τ 35 23 = 1
  · rw [if_pos g2]; exact ⟨fun _ => Or.inl rfl, fun _ => Or.inr (Or.inl g2)⟩
  rw [if_neg g2]
  have hpp := (rhas_p hR hi h0 g1).2
  obtain ⟨s1, s2, s3, s4, s5, s6, s7⟩ := id hR.2.2.2.1
  have hne : ¬ v_X5_thePar τ (τ 41 0) = -1 := by
    have b9 : D 1 7 ≤ 30000 := h1.2.2.2.2.2.2.2.2.1
    have hr0 : D 0 0 ≤ 6 * j := h0.2.2.2.2.2.1
    have hl := tgt_le hR.2.1 (mean := S 1) (S := D 0 0) (Q := D 1 7 - WL T (D 1)) (by omega) hpp (by omega) (by omega)
    have ht := tgt_pos T (S 1) (D 0 0) (D 0 7 - D 0 8) (D 1 7 - WL T (D 1))
    rw [rpar_eq hR hj h0 h1 hpp, show N (tgt T (S 1) (D 0 0) (D 0 7 - D 0 8) (D 1 7 - WL T (D 1))) - 1 = N (tgt T (S 1) (D 0 0) (D 0 7 - D 0 8) (D 1 7 - WL T (D 1)) - 1) from N_sub (b := 1) ht]
    intro w
    have : (N (tgt T (S 1) (D 0 0) (D 0 7 - D 0 8) (D 1 7 - WL T (D 1)) - 1)) < 0 := by rw [w]; decide
    exact N_nn (by omega) this
  exact ⟨fun w => Or.inr ((w.resolve_left g1).resolve_left g2), fun w => Or.inr (Or.inr (w.resolve_left hne))⟩
theorem ahead_loop {T S : Nat → Nat} {k : Nat} (hk : k ≤ 400) {y : mS} : ∀ (m n j : Nat) (P τ : sg_S) (x : mS), j ≤ k → k - j < m → k - j + 1 < n → P 0 6 = N k → CAt P 20 T S x.1 x.2.1 x.2.2 → mrun T S (P 33) (P 34) j = some x → mrun T S (P 33) (P 34) k = some y → τ 35 6 = N k → RefAt τ T S x.1 x.2.1 x.2.2 → (∀ i, i < k → τ 39 i = P 33 i ∧ τ 40 i = P 34 i) → NotA τ → (r_X4_firstAhead_l9 m P (N j)).1 = (r_X5_firstAhead_l11 n τ (N j)).1 := by
  intro m
  induction m with
  | zero => intro n j P τ x _ hm; omega
  | succ m ih =>
    intro n j P τ x hj hm hn h6 hA hx hy h6r hR hL hN
    obtain ⟨n, rfl⟩ : ∃ n', n = n' + 2 := ⟨n - 2, by omega⟩
    rw [ahead_go h6r hj hk hN]
    show (r_X4_firstAhead_b9 (r_X4_firstAhead_l9 m) P (N j)).1 = _
    unfold r_X4_firstAhead_b9 r_X5_firstAhead_a55
    rw [h6, h6r]
    by_cases e : j = k
    · rw [if_pos (show N k ≤ N j by rw [e]; exact Int32.le_refl _), if_pos (show N k ≤ N j by rw [e]; exact Int32.le_refl _), N_inc]
      show (-1 : Int32) = (r_X5_firstAhead_b11 (r_X5_firstAhead_l11 n) τ (N (j + 1))).1
      unfold r_X5_firstAhead_b11
      rw [h6r, if_pos (g_lt (by omega) (by omega))]
    · obtain ⟨z, hz⟩ := mrun_le' hy (j := j + 1) (by omega)
      have hst := hz
      rw [mrun_some hx] at hst
      have hO := mrun_OK hA.2.1 hA.2.2.2.1 j x hx
      have hOz := mrun_OK hA.2.1 hA.2.2.2.1 (j + 1) z hz
      obtain ⟨g1, g4⟩ := take_ok (y := z) (by decide) hA hO (by omega) (show stp T (S 1) (x.1, x.2.1, x.2.2) (P 33 j) (P 34 j) = some z from hst)
      obtain ⟨q1, q2, q3, q4⟩ := goes_ok (y := z) hR hO (by omega) (show stp T (S 1) (x.1, x.2.1, x.2.2) (P 33 j) (P 34 j) = some z from hst)
      have r33 := g4.row (q := 33) (by decide)
      have r34 := g4.row (q := 34) (by decide)
      rw [if_neg (g_nle (by omega) (by omega)), if_neg (show ¬ N k ≤ N j from g_nle (by omega) (by omega)), if_neg (by exact g_nle (L := 400) (by omega) (by decide)), ni_N (by omega), N_inc, (hL j (by omega)).1, (hL j (by omega)).2]
      have hi := ahead_iff g1 q1 hOz (by omega)
      have h6' : (s_X5_goes τ (P 33 j) (P 34 j)) 35 6 = N k := by rw [q4 35 6 (by decide) (by decide)]; exact h6r
      have next : NotA (s_X5_goes τ (P 33 j) (P 34 j)) → (r_X4_firstAhead_l9 m (s_X0_take P 20 (P 33 j) (P 34 j)) (N (j + 1))).1 = (r_X5_firstAhead_l11 (n + 1) (s_X5_goes τ (P 33 j) (P 34 j)) (N (j + 1))).1 := fun hN' =>
        ih (n + 1) (j + 1) _ _ z (by omega) (by omega) (by omega) (by rw [g4 0 6 (by decide)]; exact h6) g1 (by rw [r33, r34]; exact hz) (by rw [r33, r34]; exact hy) h6' q1 (fun i hik => by rw [q4 39 i (by decide) (by omega), q4 40 i (by decide) (by omega), r33, r34]; exact hL i hik) hN'
      by_cases c1 : v_X0_parNow (s_X0_take P 20 (P 33 j) (P 34 j)) 20 = -1
      · rw [if_pos c1]; exact next (hi.mpr (Or.inl c1))
      rw [if_neg c1]
      by_cases c2 : (s_X0_take P 20 (P 33 j) (P 34 j)) 27 0 ≤ v_X0_parNow (s_X0_take P 20 (P 33 j) (P 34 j)) 20
      · rw [if_pos c2]; exact next (hi.mpr (Or.inr c2))
      · rw [if_neg c2, ahead_yes h6' (by omega) hk (fun w => (hi.mp w).elim c1 c2)]
theorem both_firstAhead {σ : sg_S} {T S : Nat → Nat} {k t : Nat} (h : Cpl σ T S k t) : (r_X4_firstAhead σ).1 = (r_X5_firstAhead (r_X4_firstAhead σ).2).1 := by
  obtain ⟨hc, hr, hT, hL, hF⟩ := id h
  obtain ⟨⟨a1, a2, x, a3, a4⟩, ht, h5⟩ := id hc
  have hs := Cs_firstAhead hc
  have hr1 := (Cpl_20 h hs).2.1
  have h0 := RInv_0 (v := 0) hr1
  obtain ⟨b2, b4⟩ := crestart_ok (c := 20) (by decide) a4.1 a4.2.1 a4.2.2.1 a4.2.2.2.1
  have r33 := b4.row (q := 33) (by decide)
  have r34 := b4.row (q := 34) (by decide)
  have hG : ∀ j, j < k → (sg_up (r_X4_firstAhead σ).2 35 0 0) 39 j = σ 33 j ∧ (sg_up (r_X4_firstAhead σ).2 35 0 0) 40 j = σ 34 j := fun j hj => by
    rw [up_c (by decide), up_c (by decide), hs 39 j (by decide), hs 40 j (by decide)]; exact hL j hj
  generalize hg : (r_X4_firstAhead σ).2 = G at *
  obtain ⟨d1, d2, d3, d4⟩ := begins_ok h0.1 h0.2.1 h0.2.2.1 h0.2.2.2.1
  unfold r_X4_firstAhead r_X5_firstAhead
  have i := ahead_loop (T := T) (S := S) (k := k) a2 (y := x) 600 600 0 (s_X0_restart σ 20) (s_X5_begins (sg_up G 35 0 0)) (begn T S) (by omega) (by omega) (by omega) (by rw [b4 0 6 (by decide)]; exact a1) b2 rfl (by rw [r33, r34]; exact a3) (by rw [d4 35 6 (by decide) (by decide)]; exact h0.2.2.2.2.1) d2 (fun j hj => by rw [d4 39 j (by decide) (by omega), d4 40 j (by decide) (by omega), r33, r34]; exact hG j hj) (Or.inl (by rw [has5 d2 d3.1 (d3.2.2.2.1 0 (by decide))]; exact if_neg (fun w => absurd w.1 (Nat.lt_irrefl 0))))
  exact i
