/-! RATE, NEEDS: both, in least terms -/
theorem cdiv7 : ∀ (m n a b j : Nat), a < 2147483648 → b < 2147483648 → b < 2 ^ m → j + 2 * m < 64 → 2 * m < n → v_X4_commonDivisor_l7 n (N a) (N b) (N j) = N (Nat.gcd a b) := by
  intro m
  induction m with
  | zero =>
    intro n a b j ha hb h2 hj hn
    obtain ⟨n, rfl⟩ : ∃ n', n = n' + 1 := ⟨n - 1, by omega⟩
    have e : b = 0 := by simpa using h2
    subst e
    show v_X4_commonDivisor_b7 (v_X4_commonDivisor_l7 n) (N a) (N 0) (N j) = _
    unfold v_X4_commonDivisor_b7
    rw [if_neg (by exact g_nle (L := 64) (by omega) (by decide)), if_pos (show N 0 = (0 : Int32) from rfl), Nat.gcd_zero_right]
  | succ m ih =>
    intro n a b j ha hb h2 hj hn
    obtain ⟨n, rfl⟩ : ∃ n', n = n' + 2 := ⟨n - 2, by omega⟩
    have hp : 2 ^ (m + 1) = 2 * 2 ^ m := by rw [Nat.pow_succ, Nat.mul_comm]
    show v_X4_commonDivisor_b7 (v_X4_commonDivisor_l7 (n + 1)) (N a) (N b) (N j) = _
    unfold v_X4_commonDivisor_b7
    rw [if_neg (by exact g_nle (L := 64) (by omega) (by decide))]
    by_cases e : b = 0
    · rw [e, if_pos (show N 0 = (0 : Int32) from rfl), Nat.gcd_zero_right]
    have hr := Nat.mod_lt a (show 0 < b by omega)
    rw [if_neg (N_nz (by omega) hb), N_rm ha hb, N_inc, gcd_step (show 0 < b by omega)]
    generalize a % b = r at *
    show v_X4_commonDivisor_b7 (v_X4_commonDivisor_l7 n) (N b) (N r) (N (j + 1)) = _
    unfold v_X4_commonDivisor_b7
    rw [if_neg (by exact g_nle (L := 64) (by omega) (by decide))]
    by_cases e2 : r = 0
    · rw [e2, if_pos (show N 0 = (0 : Int32) from rfl), Nat.gcd_zero_right]
    rw [if_neg (N_nz (by omega) (by omega)), N_rm hb (by omega), N_inc, gcd_step (show 0 < r by omega)]
    have hs : b % r < 2 ^ m := by
      have h1 := Nat.mod_lt b (show 0 < r by omega)
      by_cases g : 2 * r ≤ b
      · omega
      · have h3 : b % r = b - r := by
          rw [Nat.mod_eq_sub_mod (by omega), Nat.mod_eq_of_lt (by omega)]
        omega
    exact ih n r (b % r) (j + 1 + 1) (by omega) (by have := Nat.mod_lt b (show 0 < r by omega); omega) hs (by omega) (by omega)
theorem terms_both {a b : Nat} {x : Int32} (ha : a < 2147483648) (hb : 0 < b) (hb2 : b ≤ 120) : v_X4_inLeastTerms (N a) (N b) x = v_X5_tells (N a) (N b) x := by
  have hg : 0 < Nat.gcd a b := Nat.gcd_pos_of_pos_right a hb
  have hl : Nat.gcd a b ≤ b := Nat.gcd_le_right a hb
  have e4 : v_X4_commonDivisor (N a) (N b) = N (Nat.gcd a b) := cdiv7 7 600 a b 0 ha (by omega) (by omega) (by omega) (by omega)
  have e5 : v_X5_divisor (N a) (N b) = N (Nat.gcd a b) := (rdiv4 600 a b ha (by omega) (by omega)).2
  unfold v_X4_inLeastTerms v_X5_tells
  rw [e4, e5, if_pos (show (0 : Int32) < N (Nat.gcd a b) from g_lt (a := 0) hg (by omega))]
section Rates
variable {σ : sg_S} {T S : Nat → Nat} {k t : Nat}
theorem both_rate {x0 x1 : Int32} (h : Cpl σ T S k t) : v_X4_rate σ x0 x1 = (r_X5_rate σ x0 x1).1 := by
  obtain ⟨x, -, -, hA, hO, hR, -⟩ := Cpl_x h
  have hk : k ≤ 400 := h.1.1.2.1
  unfold v_X4_rate r_X5_rate v_X4_isSide
  by_cases g : v_X5_isInnings x0 = 0
  · rw [if_pos g]
    have n0 : ¬ x0 = 0 := fun w => absurd g (by rw [w]; decide)
    have n1 : ¬ x0 = 1 := fun w => absurd g (by rw [w]; decide)
    rw [if_neg n0, if_pos n1, if_pos rfl]
  · rw [if_neg g]
    obtain ⟨i, rfl, hi⟩ := inn_ex g
    have hI := hO.2.2.2.1 i hi
    have hs : ¬ (if N i = 0 then (1 : Int32) else (if ¬ N i = (1 : Int32) then (0 : Int32) else (1 : Int32))) = 0 := by
      rcases (show i = 0 ∨ i = 1 by omega) with rfl | rfl
      · decide
      · decide
    have hb : x.2.2 i 2 ≤ 120 := by have := hI.2.2.1; have := hI.2.1; omega
    have hr : x.2.2 i 0 ≤ 6 * k := hI.2.2.2.2.2.1
    have hP := hR.pic hi
    have hC := hA.pic hi
    rw [if_neg hs, side_eq hi, hC 2 (by decide), hC 0 (by decide), ni_N (by omega), hP.2.2.1, hP.1, show (6 : Int32) * N (x.2.2 i 0) = N (6 * x.2.2 i 0) from N_mul 6 _]
    by_cases g2 : x.2.2 i 2 = 0
    · rw [g2, if_neg (show ¬ (0 : Int32) < N 0 by decide), if_neg (show ¬ ¬ N 0 = (0 : Int32) from fun w => w rfl)]
    · rw [if_pos (show (0 : Int32) < N (x.2.2 i 2) from g_lt (a := 0) (by omega) (by omega)), if_pos (show ¬ N (x.2.2 i 2) = (0 : Int32) from N_nz (by omega) (by omega))]
      exact terms_both (by omega) (by omega) hb
theorem both_needs {x0 : Int32} (h : Cpl σ T S k t) : v_X4_needs σ x0 = (r_X5_needs σ x0).1 := by
  obtain ⟨x, -, -, hA, hO, hR, -⟩ := Cpl_x h
  have hk : k ≤ 400 := h.1.1.2.1
  have h0 := hO.2.2.2.1 0 (by decide)
  have h1 := hO.2.2.2.1 1 (by decide)
  unfold v_X4_needs r_X5_needs
  rw [hA.2.2.2.2.1, hR.2.2.2.2.1]
  by_cases e : x.1 = 1
  · rw [e, if_neg (show ¬ ¬ N 1 = (1 : Int32) from fun w => w rfl), if_neg (show ¬ ¬ N 1 = (1 : Int32) from fun w => w rfl), chasTarget_eq hA hO.1 h0, has5 hR hO.1 h0]
    by_cases hp : 0 < x.1 ∧ 0 < x.2.2 0 7 - x.2.2 0 8
    · rw [if_pos hp, if_pos one_nz, if_neg one_nz]
      have et := theTarget_eq hR (by omega) h0 h1 hp.2
      have ec : v_X0_theTarget σ 7 = N (tgt T (S 1) (x.2.2 0 0) (x.2.2 0 7 - x.2.2 0 8) (x.2.2 1 7)) := by
        unfold v_X0_theTarget
        rw [chasTarget_eq hA hO.1 h0, if_pos hp, if_neg one_nz, ctheTarget_eq hA (by omega) h0 h1 hp.2]
      have hlt := hO.2.2.2.2.2.2 e hp.2
      have hlv := hO.2.2.2.2.1 1 (by decide) (by omega)
      have hb : x.2.2 1 2 < 6 * x.2.2 1 3 := hlv.1
      have h3 : x.2.2 1 3 ≤ 20 := h1.2.1
      have h30 : x.2.2 1 7 ≤ 30000 := h1.2.2.2.2.2.2.2.2.1
      have hr0 : x.2.2 0 0 ≤ 6 * k := h0.2.2.2.2.2.1
      obtain ⟨s1, s2, s3, s4, s5, s6, s7⟩ := id hA.2.2.2.1
      have hl := tgt_le hA.2.1 (mean := S 1) (S := x.2.2 0 0) (Q := x.2.2 1 7) (by omega) hp.2 h30 (by omega)
      have hP := hR.pic (i := 1) (by decide)
      have eb : v_X0_ballsLeft σ 7 1 = N (6 * x.2.2 1 3 - x.2.2 1 2) := by
        unfold v_X0_ballsLeft
        rw [hA.2.2.2.2.1, e, if_pos (show N 1 ≤ (1 : Int32) by decide), show v_X0_side 7 1 = 7 + 7 from rfl, hA.2.2.2.2.2.2.2 3 (by decide), hA.2.2.2.2.2.2.2 2 (by decide), show (6 : Int32) * N (x.2.2 1 3) = N (6 * x.2.2 1 3) from N_mul 6 _, N_sub (by omega)]
      have el : v_X5_left (s_X5_goesOn (sg_up σ 35 0 0)) 1 = N (6 * x.2.2 1 3 - x.2.2 1 2) := left_eq (i := 1) (by decide) hP (by omega)
      rw [ec, et, eb, el, show σ 14 0 = N (x.2.2 1 0) from hA.2.2.2.2.2.2.2 0 (by decide), hP.1, N_sub (by omega)]
      generalize tgt T (S 1) (x.2.2 0 0) (x.2.2 0 7 - x.2.2 0 8) (x.2.2 1 7) = G at *
      rw [show (6 : Int32) * N (G - x.2.2 1 0) = N (6 * (G - x.2.2 1 0)) from N_mul 6 _, terms_both (by omega) (by omega) (by omega), terms_both (by omega) (by omega) (by omega)]
      by_cases g : v_X5_in x0 0 3 = 0
      · rw [if_neg (show ¬ ¬ v_X5_in x0 0 3 = 0 from fun w => w g), if_neg (fun w => absurd g (by rw [w]; decide)), if_neg (fun w => absurd g (by rw [w]; decide)), if_neg (fun w => absurd g (by rw [w]; decide)), if_neg (fun w => absurd g (by rw [w]; decide))]
      · rw [if_pos g]
        obtain ⟨b, rfl, -, hb3⟩ := in_ex (lo := 0) (hi := 3) (by decide) (by decide) g
        rcases (show b = 0 ∨ b = 1 ∨ b = 2 ∨ b = 3 by omega) with rfl | rfl | rfl | rfl
        · rfl
        · rfl
        · rfl
        · rfl
    · rw [if_neg hp, if_neg nn0, if_pos rfl]
  · have hn : ¬ N x.1 = (1 : Int32) := fun w => e ((N_eq (b := 1) (by have := hO.1; omega) (by decide)).mp w)
    rw [if_pos hn, if_pos hn]
end Rates
