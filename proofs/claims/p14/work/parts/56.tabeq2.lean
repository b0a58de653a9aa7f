/-! BOTH READ THE SAME TABLE: its rows hold, or don't, in both -/
theorem rchk53f {σ : sg_S} {V : Nat → Nat} {w : Nat} {k45 : sg_S → Int32 → Int32 × sg_S} (hV : TabAt σ 38 V) (hG : GoodV V) (hw : w < 10) : ∀ (n k : Nat), 1 ≤ k → k ≤ 5 → 5 - k < n → (r_X5_readTable_l53 k45 n σ (N w) (N k) = k45 σ (N (w + 1)) ∧ ∀ k', k ≤ k' → k' < 5 → Chk V w k') ∨ (r_X5_readTable_l53 k45 n σ (N w) (N k) = (0, sg_up σ 35 29 (4 + 8 * σ 35 26)) ∧ ∃ k', k ≤ k' ∧ k' < 5 ∧ ¬ Chk V w k') := by
  intro n
  induction n with
  | zero => intro k _ _ hn; omega
  | succ n ih =>
    intro k hk1 hk5 hn
    show (r_X5_readTable_b53 k45 (r_X5_readTable_l53 k45 n) σ (N w) (N k) = k45 σ (N (w + 1)) ∧ ∀ k', k ≤ k' → k' < 5 → Chk V w k') ∨ (r_X5_readTable_b53 k45 (r_X5_readTable_l53 k45 n) σ (N w) (N k) = (0, sg_up σ 35 29 (4 + 8 * σ 35 26)) ∧ ∃ k', k ≤ k' ∧ k' < 5 ∧ ¬ Chk V w k')
    unfold r_X5_readTable_b53
    by_cases e : k = 5
    · have hc : (4 : Int32) < N k := by
        show N 4 < N k
        exact g_lt (by omega) (by omega)
      rw [if_pos hc, N_inc]
      exact Or.inl ⟨rfl, fun k' h1 h2 => by omega⟩
    · have hc : ¬ (4 : Int32) < N k := by
        show ¬ N 4 < N k
        exact g_nlt (by omega) (by decide)
      have ex : 5 * N w + N k = N (5 * w + k) := by rw [show (5 : Int32) = N 5 from rfl, N_mul, N_add]
      have ex1 : N (5 * w + k) - 1 = N (5 * w + k - 1) := N_sub (b := 1) (by omega)
      have i2 := ih (k + 1) (by omega) (by omega) (by omega)
      have i3 : Chk V w k → (r_X5_readTable_l53 k45 n σ (N w) (N (k + 1)) = k45 σ (N (w + 1)) ∧ ∀ k', k ≤ k' → k' < 5 → Chk V w k') ∨ (r_X5_readTable_l53 k45 n σ (N w) (N (k + 1)) = (0, sg_up σ 35 29 (4 + 8 * σ 35 26)) ∧ ∃ k', k ≤ k' ∧ k' < 5 ∧ ¬ Chk V w k') := by
        intro hck
        rcases i2 with ⟨h, h'⟩ | ⟨h, k', h1, h2, h3⟩
        · refine Or.inl ⟨h, fun k' g1 g2 => ?_⟩
          by_cases e2 : k' = k
          · subst e2; exact hck
          · exact h' k' (by omega) g2
        · exact Or.inr ⟨h, k', by omega, h2, h3⟩
      rw [if_neg hc, N_inc k, ex, ex1, ni_N (by omega), ni_N (by omega), hV _ (by omega), hV _ (by omega)]
      by_cases c1 : V (5 * w + k) < V (5 * w + k - 1)
      · rw [if_pos (g_lt c1 (GoodV_lt hG (by omega)))]
        exact Or.inr ⟨rfl, k, Nat.le_refl _, by omega, fun z => by have := z.1; omega⟩
      rw [if_neg (g_nlt (by omega) (GoodV_lt hG (by omega)))]
      by_cases c2 : w = 0
      · rw [if_pos (by rw [c2]; decide)]
        exact i3 ⟨by omega, fun z => by omega⟩
      have ex2 : 5 * N w - 5 + N k = N (5 * w - 5 + k) := by
        rw [show (5 : Int32) = N 5 from rfl, N_mul, N_sub (by omega), N_add]
      rw [if_neg (by exact g_nle (a := 0) (by omega) (by omega)), ex2, ni_N (by omega), hV _ (by omega)]
      by_cases c3 : V (5 * w + k) ≤ V (5 * w - 5 + k)
      · rw [if_pos (g_le c3 (GoodV_lt hG (by omega)))]
        exact i3 ⟨by omega, fun _ => c3⟩
      · rw [if_neg (g_nle (by omega) (GoodV_lt hG (by omega)))]
        exact Or.inr ⟨rfl, k, Nat.le_refl _, by omega, fun z => c3 (z.2 (by omega))⟩
theorem rchk45f {σ : sg_S} {V : Nat → Nat} (hV : TabAt σ 38 V) (hG : GoodV V) : ∀ (n w : Nat), w ≤ 10 → 10 - w < n → (r_X5_readTable_l45 n σ (N w) = (1, σ) ∧ ∀ w', w ≤ w' → w' < 10 → ∀ k', 1 ≤ k' → k' < 5 → Chk V w' k') ∨ (r_X5_readTable_l45 n σ (N w) = (0, sg_up σ 35 29 (4 + 8 * σ 35 26)) ∧ ∃ w' k', w' < 10 ∧ 1 ≤ k' ∧ k' < 5 ∧ ¬ Chk V w' k') := by
  intro n
  induction n with
  | zero => intro w _ hn; omega
  | succ n ih =>
    intro w hw hn
    show (r_X5_readTable_b45 (r_X5_readTable_l45 n) σ (N w) = (1, σ) ∧ ∀ w', w ≤ w' → w' < 10 → ∀ k', 1 ≤ k' → k' < 5 → Chk V w' k') ∨ (r_X5_readTable_b45 (r_X5_readTable_l45 n) σ (N w) = (0, sg_up σ 35 29 (4 + 8 * σ 35 26)) ∧ ∃ w' k', w' < 10 ∧ 1 ≤ k' ∧ k' < 5 ∧ ¬ Chk V w' k')
    unfold r_X5_readTable_b45
    by_cases e : w = 10
    · rw [if_pos (by rw [e]; decide)]
      exact Or.inl ⟨rfl, fun w' h1 h2 => by omega⟩
    · have hc : ¬ (10 : Int32) ≤ N w := by
        show ¬ N 10 ≤ N w
        exact g_nle (by omega) (by decide)
      have i2 := ih (w + 1) (by omega) (by omega)
      have j2 : (r_X5_readTable_l53 (r_X5_readTable_l45 n) 600 σ (N w) 1 = r_X5_readTable_l45 n σ (N (w + 1)) ∧ ∀ k', 1 ≤ k' → k' < 5 → Chk V w k') ∨ (r_X5_readTable_l53 (r_X5_readTable_l45 n) 600 σ (N w) 1 = (0, sg_up σ 35 29 (4 + 8 * σ 35 26)) ∧ ∃ k', 1 ≤ k' ∧ k' < 5 ∧ ¬ Chk V w k') := rchk53f (k45 := r_X5_readTable_l45 n) hV hG (w := w) (by omega) 600 1 (by decide) (by decide) (by decide)
      rw [if_neg hc]
      rcases j2 with ⟨j2, j3⟩ | ⟨j2, k', j3, j4, j5⟩
      · rw [j2]
        rcases i2 with ⟨i2, i3⟩ | ⟨i2, w', k', i3, i4, i5, i6⟩
        · refine Or.inl ⟨i2, fun w' h1 h2 k' h3 h4 => ?_⟩
          by_cases e2 : w' = w
          · subst e2; exact j3 k' h3 h4
          · exact i3 w' (by omega) h2 k' h3 h4
        · exact Or.inr ⟨i2, w', k', i3, i4, i5, i6⟩
      · exact Or.inr ⟨j2, w, k', by omega, j3, j4, j5⟩
theorem Chk_Chk2 {V : Nat → Nat} (hG : GoodV V) (h : ∀ w, w < 10 → ∀ k, 1 ≤ k → k < 5 → Chk V w k) : ∀ j, j < 50 → Chk2 V j := by
  intro j hj
  by_cases e : j % 5 = 0
  · refine ⟨fun z => absurd e z, fun _ => ?_⟩
    rw [(hG j hj).1 e]; exact Nat.zero_le _
  · have c := h (j / 5) (by omega) (j % 5) (by omega) (by omega)
    rw [show Chk V (j / 5) (j % 5) = (V (5 * (j / 5) + j % 5 - 1) ≤ V (5 * (j / 5) + j % 5) ∧ (0 < j / 5 → V (5 * (j / 5) + j % 5) ≤ V (5 * (j / 5) - 5 + j % 5))) from rfl, show 5 * (j / 5) + j % 5 = j by omega] at c
    refine ⟨fun _ => c.1, fun h5 => ?_⟩
    have := c.2 (by omega)
    rw [show 5 * (j / 5) - 5 + j % 5 = j - 5 by omega] at this
    exact this
/-! the class's row leaves the count of rows -/
theorem prop08 {σ : sg_S} {x0 x1 x2 : Int32} : s_X2_propose σ x0 x1 x2 0 8 = σ 0 8 := by
  unfold s_X2_propose
  repeat' split
  all_goals first | rfl | exact up_c (by decide)
theorem row08_l : ∀ (n : Nat) (σ : sg_S) (x1 x2 : Int32), (r_X4_readRow_l20 n σ x1 x2).2 0 8 = σ 0 8 := by
  intro n
  induction n with
  | zero => intro σ x1 x2; rfl
  | succ n ih =>
    intro σ x1 x2
    show (r_X4_readRow_b20 (r_X4_readRow_l20 n) σ x1 x2).2 0 8 = σ 0 8
    unfold r_X4_readRow_b20
    have h1 : (r_X3_readByte σ 59).2 0 8 = σ 0 8 := K_readByte 0 8 (by decide)
    have h2 : (r_X3_readNumber σ).2 0 8 = σ 0 8 := K_num 0 8 (by decide)
    have h3 : (r_X4_readRow_l20 n (t_X4_readRow_0 σ x1 x2) x1 (x2 + 1)).2 0 8 = σ 0 8 := by
      rw [ih]
      unfold t_X4_readRow_0
      rw [prop08]
      exact h2
    have h4 : (r_X4_readRow_l20 n (r_X3_readNumber σ).2 ((r_X3_readNumber σ).2 5 3) (x2 + 1)).2 0 8 = σ 0 8 := by
      rw [ih]
      exact h2
    repeat' split
    all_goals first | exact h1 | exact h2 | exact h3 | exact h4
theorem row08 {σ : sg_S} : (r_X4_readRow σ).2 0 8 = σ 0 8 := by
  unfold r_X4_readRow
  split
  · rw [row08_l]; exact K_word 0 8 (by decide)
  · exact K_word 0 8 (by decide)
/-- what a table's text leaves in both -/
def TabO (z : Int32) (rc rr : Int32 × sg_S) : Prop :=
  (∃ V r, rc.1 = 0 ∧ rr.1 = 1 ∧ TabAt rc.2 3 V ∧ TabAt rr.2 38 V ∧ TabOK V ∧ rc.2 0 8 = N r ∧ rr.2 35 31 = N r ∧ rr.2 35 29 = z) ∨ (∃ f, 0 < f ∧ f < 10000 ∧ rc.1 = N f ∧ rr.1 = 0 ∧ rr.2 35 29 = N f)
theorem tab_loop {t : Nat} {z : Int32} : ∀ (m n j a c : Nat) (σ τ : sg_S) (V : Nat → Nat), t - a < m → t - a < n → 3 * j ≤ a → Pos σ τ t a → (∀ i, i < t → ¬ σ 6 i = -1) → TabAt σ 3 V → TabAt τ 38 V → GoodV V → σ 0 8 = N c → τ 35 31 = N c → τ 35 29 = z → TabO z (r_X4_readTable_l21 m σ (N j)) (r_X5_readTable_l26 n τ) := by
  intro m
  induction m with
  | zero => intro n j a c σ τ V hm; omega
  | succ m ih =>
    intro n j a c σ τ V hm hn hj hP hB hV hW hG h8 hc hz
    cases n with
    | zero => omega
    | succ n =>
    show TabO z (r_X4_readTable_b21 (r_X4_readTable_l21 m) σ (N j)) (r_X5_readTable_b26 (r_X5_readTable_l26 n) τ)
    unfold r_X4_readTable_b21 r_X5_readTable_b26
    obtain ⟨h1, h2, h3, h4, h5, h6, h7⟩ := id hP
    have ep : skp (τ 57) (t - a) a = skp (σ 6) (t - a) a := skp_congr _ _ (fun j hj => h7 j (by omega))
    have hpl := skp_le (B := σ 6) (t - a) a
    obtain ⟨s1, s2, s3, -⟩ := cseek_ok h1 h2 h5 h6
    obtain ⟨g1, g2, g3⟩ := here_ok h3 h4 h5 h6
    rw [ep] at g2 g3
    generalize hp : skp (σ 6) (t - a) a = p at *
    have hP1 : Pos (r_X3_seek σ).2 (r_X5_here τ).2 t p := by
      refine ⟨s2, ?_, ?_, ?_, by omega, h6, fun i hi => ?_⟩
      · rw [K_seek 5 1 (by decide)]; exact h2
      · rw [g3]; exact up_eq
      · rw [g3, up_k (by decide)]; exact h4
      · rw [g3, up_c (by decide), K_seek.row (σ := σ) (q := 6) (by decide)]; exact h7 i hi
    have hV1 : TabAt (r_X3_seek σ).2 3 V := TabAt_row hV (K_seek.row (by decide))
    have hW1 : TabAt (r_X5_here τ).2 38 V := by rw [g3]; exact TabAt_up hW (by decide)
    have hc1 : (r_X5_here τ).2 35 31 = N c := by rw [g3, up_k (by decide)]; exact hc
    have hz1 : (r_X5_here τ).2 35 29 = z := by rw [g3, up_k (by decide)]; exact hz
    have h81 : (r_X3_seek σ).2 0 8 = N c := by rw [K_seek 0 8 (by decide)]; exact h8
    rw [if_neg (by exact g_nle (L := 500) (by omega) (by decide)), s1, g2]
    by_cases g : p < t
    · rw [if_pos g, if_neg one_nz, if_pos g, if_neg (show ¬ τ 57 p = -1 from by rw [h7 p g]; exact hB p g), N_inc]
      obtain ⟨q1, q2⟩ := row_both hP1 hV1 hW1 hG hc1 hz1
      by_cases gr : (r_X4_readRow (r_X3_seek σ).2).1 = 0
      · rw [if_pos gr]
        rcases q2 gr with ⟨V', a', k1, k2, k3, k4, k5, k6, k7, k8, k9⟩ | ⟨f, k1, k2, k3, k4, k5⟩
        · rw [k2, if_pos one_nz]
          have hT := (crow_ok hV1 hG).1
          have h83 : (r_X4_readRow (r_X3_seek σ).2).2 0 8 = N c ∨ True := Or.inr trivial
          obtain ⟨u1, u2, u3, u4, u5, u6, u7⟩ := id k6
          refine ih n (j + 1) a' (c + 1) (t_X4_readTable_1 σ (N j)) _ V' (by omega) (by omega) (by omega) ?_ (fun i hi => ?_) ?_ k4 k5 ?_ k8 k9
          · unfold t_X4_readTable_1
            exact ⟨by rw [up_c (by decide)]; exact u1, by rw [up_c (by decide)]; exact u2, u3, u4, u5, u6, fun i hi => by rw [up_c (by decide)]; exact u7 i hi⟩
          · unfold t_X4_readTable_1
            rw [up_c (by decide), hT 6 i (by decide) (by omega) (by omega), K_seek.row (σ := σ) (q := 6) (by decide)]
            exact hB i hi
          · unfold t_X4_readTable_1
            exact TabAt_up k3 (by decide)
          · unfold t_X4_readTable_1
            rw [up_eq, row08, h81, N_inc]
        · rw [gr] at k3
          exact absurd k3.symm (N_nz k1 (by omega))
      · rw [if_neg gr]
        rcases q1 with ⟨V', a', k1, k2, k3, k4, k5, k6, k7, k8, k9⟩ | ⟨f, k1, k2, k3, k4, k5⟩
        · exact absurd k1 gr
        · rw [k4, if_neg nn0]
          exact Or.inr ⟨f, k1, k2, k3, rfl, k5⟩
    · rw [if_neg g, if_pos rfl, if_neg g, if_pos rfl]
      have e26 : (r_X5_here τ).2 35 26 = N t := hP1.2.2.2.1
      have hcl := holds2 hV1 hG 600 0 (by decide) (by decide)
      have hrf : (r_X5_readTable_l45 600 (r_X5_here τ).2 0 = (1, (r_X5_here τ).2) ∧ ∀ w', 0 ≤ w' → w' < 10 → ∀ k', 1 ≤ k' → k' < 5 → Chk V w' k') ∨ (r_X5_readTable_l45 600 (r_X5_here τ).2 0 = (0, sg_up (r_X5_here τ).2 35 29 (4 + 8 * (r_X5_here τ).2 35 26)) ∧ ∃ w' k', w' < 10 ∧ 1 ≤ k' ∧ k' < 5 ∧ ¬ Chk V w' k') := rchk45f hW1 hG 600 0 (by decide) (by decide)
      unfold r_X4_readTable_a65
      rcases hrf with ⟨e1, e2⟩ | ⟨e1, w', k', e2, e3, e4, e5⟩
      · have hall : ∀ w, w < 10 → ∀ k, 1 ≤ k → k < 5 → Chk V w k := fun w hw k k1 k2 => e2 w (by omega) hw k k1 k2
        have hh : ¬ v_X2_proposalHolds (r_X3_seek σ).2 = 0 := hcl.mpr (fun i _ hi => Chk_Chk2 hG hall i hi)
        rw [if_neg hh, e1]
        exact Or.inl ⟨V, c, rfl, rfl, hV1, hW1, Chk_OK hG hall, h81, hc1, hz1⟩
      · have hh : v_X2_proposalHolds (r_X3_seek σ).2 = 0 := by
          refine Decidable.not_not.mp (fun z => e5 ?_)
          have h2 := hcl.mp z
          have c := h2 (5 * w' + k') (by omega) (by omega)
          refine ⟨c.1 (by omega), fun hw0 => ?_⟩
          have := c.2 (by omega)
          rw [show 5 * w' + k' - 5 = 5 * w' - 5 + k' by omega] at this
          exact this
        rw [if_pos hh, e1, hP1.2.1, e26]
        refine Or.inr ⟨4 + 8 * t, by omega, by omega, ?_, rfl, ?_⟩
        · show (4 : Int32) + 8 * N t = _
          rw [show (8 : Int32) = N 8 from rfl, show (4 : Int32) = N 4 from rfl, N_mul, N_add]
        · show (sg_up (r_X5_here τ).2 35 29 (4 + 8 * N t)) 35 29 = _
          rw [up_eq, show (8 : Int32) = N 8 from rfl, show (4 : Int32) = N 4 from rfl, N_mul, N_add]
