/-! THE REFERENCE ANSWERS: it returns, and leaves what holds between calls -/
section QV
variable {σ : sg_S} {T S : Nat → Nat} {k i t : Nat} {D : Nat → Nat → Nat}
theorem rhas_eq (h : RefAt σ T S i t D) (hi : i ≤ 2) (h0 : InnOK T k (D 0)) : v_X5_hasTarget σ = if 0 < i ∧ 0 < D 0 7 - D 0 8 then 1 else 0 := by
  have a9 : D 0 7 ≤ 30000 := h0.2.2.2.2.2.2.2.2.1
  unfold v_X5_hasTarget
  rw [h.2.2.2.2.1, (h.pic (i := 0) (by decide)).2.2.2.2.2.2.2.1]
  by_cases g1 : 0 < i
  · rw [if_neg (by exact g_nle (a := 0) g1 (by omega))]
    by_cases g2 : 0 < D 0 7 - D 0 8
    · rw [if_neg (by exact g_nle (a := 0) g2 (by omega)), if_pos ⟨g1, g2⟩]
    · rw [if_pos (by exact g_le (L := 0) (by omega) (by decide)), if_neg (fun z => g2 z.2)]
  · rw [if_pos (by exact g_le (L := 0) (by omega) (by decide)), if_neg (fun z => g1 z.1)]
theorem rhas_p (h : RefAt σ T S i t D) (hi : i ≤ 2) (h0 : InnOK T k (D 0)) (hh : ¬ v_X5_hasTarget σ = 0) : 0 < i ∧ 0 < D 0 7 - D 0 8 := by
  rw [rhas_eq h hi h0] at hh
  by_cases g : 0 < i ∧ 0 < D 0 7 - D 0 8
  · exact g
  · rw [if_neg g] at hh; exact absurd rfl hh
theorem rptarget {x0 x1 : Int32} (h : RefAt σ T S i t D) (h0 : InnOK T k (D 0)) (hp : 0 < D 0 7 - D 0 8) : p_X5_targetOf σ x0 x1 := by
  obtain ⟨a1, a2, a3, a4, a5, a6, a7, a8, a9, a10⟩ := h0
  exact ptarget h.1 h.2.1 (h.pic (i := 0) (by decide)).2.2.2.2.2.2.2.1 hp (by omega)
theorem rpleft {j : Nat} (h : RefAt σ T S i t D) (hj : j < 2) (hI : InnOK T k (D j)) : p_X5_leftWorth σ (N j) := by
  obtain ⟨a1, a2, a3, a4, -⟩ := hI
  exact pleftWorth_eq hj (h.pic hj) a3 a2 a4
theorem rppar {x0 : Int32} (h : RefAt σ T S i t D) (h0 : InnOK T k (D 0)) (h1 : InnOK T k (D 1)) (hp : 0 < D 0 7 - D 0 8) : p_X5_thePar σ x0 := ⟨rpleft (j := 1) h (by decide) h1, rptarget h h0 hp⟩
theorem rpparNow (h : RefAt σ T S i t D) (hi : i ≤ 2) (h0 : InnOK T k (D 0)) (h1 : InnOK T k (D 1)) : p_X5_parNow σ := fun hh _ => rppar h h0 h1 (rhas_p h hi h0 hh).2
theorem rpos (h : RefAt σ T S i t D) (h0 : InnOK T k (D 0)) (hz : ¬ σ 45 0 = 0) : 0 < D 0 7 - D 0 8 := by
  rw [(h.pic (i := 0) (by decide)).2.2.2.2.2.2.2.1] at hz
  rcases Nat.eq_zero_or_pos (D 0 7 - D 0 8) with e | e
  · rw [e] at hz; exact absurd rfl hz
  · exact e
theorem rpaim (h : RefAt σ T S i t D) (h0 : InnOK T k (D 0)) (h1 : InnOK T k (D 1)) (hp : 0 < D 0 7 - D 0 8) : p_X5_aim σ := ⟨fun _ => rptarget h h0 hp, fun _ => rppar h h0 h1 hp⟩
theorem rpresult (h : RefAt σ T S i t D) (h0 : InnOK T k (D 0)) (h1 : InnOK T k (D 1)) : p_X5_resultNow σ := fun hz => ⟨fun _ => rpaim h h0 h1 (rpos h h0 hz), fun _ _ => rpaim h h0 h1 (rpos h h0 hz)⟩
theorem rp_of_result (h : RefAt σ T S i t D) (h0 : InnOK T k (D 0)) (hr : ¬ v_X5_resultNow σ = 0) : 0 < D 0 7 - D 0 8 := by
  refine rpos h h0 (fun z => hr ?_)
  unfold v_X5_resultNow
  rw [if_pos z]
end QV
/-! the greatest common divisor -/
theorem gcd_step {x y : Nat} (h : 0 < y) : Nat.gcd x y = Nat.gcd y (x % y) := by
  rw [Nat.gcd_comm y (x % y), ← Nat.gcd_rec, Nat.gcd_comm]
theorem rdiv4 : ∀ (n x y : Nat), x < 2147483648 → y < 2147483648 → y < n → p_X5_divisor_l4 n (N x) (N y) ∧ v_X5_divisor_l4 n (N x) (N y) = N (Nat.gcd x y) := by
  intro n
  induction n with
  | zero => intro x y _ _ h; omega
  | succ n ih =>
    intro x y hx hy hn
    show p_X5_divisor_b4 (p_X5_divisor_l4 n) (N x) (N y) ∧ v_X5_divisor_b4 (v_X5_divisor_l4 n) (N x) (N y) = _
    unfold p_X5_divisor_b4 v_X5_divisor_b4
    by_cases e : y = 0
    · subst e
      rw [if_pos (by decide), Nat.gcd_zero_right]
      exact ⟨fun z => absurd rfl z, rfl⟩
    · have hz : ¬ N y = 0 := N_nz (by omega) hy
      have hlt : x % y < y := Nat.mod_lt _ (by omega)
      rw [if_neg hz, N_rm hx hy]
      obtain ⟨i1, i2⟩ := ih y (x % y) hy (by omega) (by omega)
      exact ⟨fun _ => ⟨hz, i1⟩, by rw [i2, ← gcd_step (by omega)]⟩
theorem rtells {x y : Nat} {u : Int32} (hx : x < 2147483648) (hy : 0 < y) (hy2 : y < 600) : p_X5_tells (N x) (N y) u := by
  obtain ⟨h1, h2⟩ := rdiv4 600 x y hx (by omega) hy2
  have hg : 0 < Nat.gcd x y := Nat.gcd_pos_of_pos_right x hy
  have hl : Nat.gcd x y ≤ y := Nat.gcd_le_right x hy
  have hz : ¬ v_X5_divisor (N x) (N y) = 0 := by
    show ¬ v_X5_divisor_l4 600 (N x) (N y) = 0
    rw [h2]
    exact N_nz hg (by omega)
  exact ⟨h1, fun _ => hz, fun _ => hz⟩
/-! blocks -/
def BSame (σ σ' : sg_S) : Prop := ∀ q k, ¬ (q = 58 ∨ q = 59) → σ' q k = σ q k
theorem BSame.tr {σ σ1 σ2 : sg_S} (h : BSame σ σ1) (h' : BSame σ1 σ2) : BSame σ σ2 := fun q k a => (h' q k a).trans (h q k a)
theorem BSame_u {σ : sg_S} {q0 k0 : Nat} {v : Int32} (h : q0 = 58 ∨ q0 = 59) : BSame σ (sg_up σ q0 k0 v) := fun q k h1 => up_ne (by omega)
theorem BSame.q {σ σ' : sg_S} (h : BSame σ σ') : QSame σ σ' := fun q k _ h2 _ => h q k h2
theorem BSame.row {σ σ' : sg_S} (h : BSame σ σ') {q : Nat} (h1 : ¬ (q = 58 ∨ q = 59)) : σ' q = σ q := funext (fun k => h q k h1)
theorem lay93 {σ : sg_S} {x2 : Int32} {k84 : sg_S → Int32 → sg_S} {kp84 : sg_S → Int32 → Prop} (hp : ∀ b, b < 3 → kp84 (sg_up (sg_up σ 58 b (σ 58 b + 1)) 59 b (-1)) (x2 + -1)) : ∀ (n k b : Nat), k ≤ 3 → b < 3 → 3 - k < n → p_X5_laysBlocks_l93 kp84 n σ x2 (N b) (N k) ∧ ∃ b', b' < 3 ∧ s_X5_laysBlocks_l93 k84 n σ x2 (N b) (N k) = k84 (sg_up (sg_up σ 58 b' (σ 58 b' + 1)) 59 b' (-1)) (x2 + -1) := by
  intro n
  induction n with
  | zero => intro k b _ _ hn; omega
  | succ n ih =>
    intro k b hk hb hn
    show p_X5_laysBlocks_b93 kp84 (p_X5_laysBlocks_l93 kp84 n) σ x2 (N b) (N k) ∧ ∃ b', b' < 3 ∧ s_X5_laysBlocks_b93 k84 (s_X5_laysBlocks_l93 k84 n) σ x2 (N b) (N k) = k84 (sg_up (sg_up σ 58 b' (σ 58 b' + 1)) 59 b' (-1)) (x2 + -1)
    have xb : ix (N b) 3 := ix_N hb (by decide)
    have et : t_X5_laysBlocks_1 σ x2 (N b) (N k) = sg_up (sg_up σ 58 b (σ 58 b + 1)) 59 b (-1) := by
      unfold t_X5_laysBlocks_1 t_X5_laysBlocks_0
      rw [ni_N (by omega)]
    unfold p_X5_laysBlocks_b93 s_X5_laysBlocks_b93
    by_cases e : k = 3
    · have hc : (3 : Int32) ≤ N k := (N14 (L := 3) hk (by decide)).mpr e
      rw [if_pos hc, et]
      exact ⟨⟨fun _ => ⟨xb, xb, xb, hp b hb⟩, fun z => absurd hc z⟩, b, hb, rfl⟩
    · have hc : ¬ (3 : Int32) ≤ N k := fun z => e ((N14 (L := 3) hk (by decide)).mp z)
      have xk : ix (N k) 3 := ix_N (by omega) (by decide)
      obtain ⟨i1, i2⟩ := ih (k + 1) b (by omega) hb (by omega)
      obtain ⟨j1, j2⟩ := ih (k + 1) k (by omega) (by omega) (by omega)
      rw [if_neg hc, N_inc]
      refine ⟨⟨fun z => absurd z hc, fun _ => ⟨xk, xb, fun _ => i1, fun _ => j1⟩⟩, ?_⟩
      by_cases g : σ 59 (ni (N k)) ≤ σ 59 (ni (N b))
      · rw [if_pos g]; exact i2
      · rw [if_neg g]; exact j2
theorem lay84 : ∀ (n ov : Nat) (σ : sg_S) (b : Nat → Nat), ov < n → ov < 1000 → (∀ j, j < 3 → σ 58 j = N (b j)) → p_X5_laysBlocks_l84 n σ (N ov) ∧ BSame σ (s_X5_laysBlocks_l84 n σ (N ov)) ∧ ∃ b' : Nat → Nat, (∀ j, j < 3 → (s_X5_laysBlocks_l84 n σ (N ov)) 58 j = N (b' j)) ∧ b' 0 + b' 1 + b' 2 = b 0 + b 1 + b 2 + ov := by
  intro n
  induction n with
  | zero => intro ov σ b h; omega
  | succ n ih =>
    intro ov σ b hn ho hb
    show p_X5_laysBlocks_b84 (p_X5_laysBlocks_l84 n) σ (N ov) ∧ BSame σ (s_X5_laysBlocks_b84 (s_X5_laysBlocks_l84 n) σ (N ov)) ∧ ∃ b' : Nat → Nat, (∀ j, j < 3 → (s_X5_laysBlocks_b84 (s_X5_laysBlocks_l84 n) σ (N ov)) 58 j = N (b' j)) ∧ b' 0 + b' 1 + b' 2 = b 0 + b 1 + b 2 + ov
    unfold p_X5_laysBlocks_b84 s_X5_laysBlocks_b84
    by_cases e : ov = 0
    · have hc : N ov ≤ 0 := by rw [e]; decide
      rw [if_pos hc]
      exact ⟨fun z => absurd hc z, fun _ _ _ => rfl, b, hb, by omega⟩
    · have hc : ¬ N ov ≤ 0 := g_nle (a := 0) (by omega) (by omega)
      have e1 : N ov + -1 = N (ov - 1) := by
        rw [← Int32.sub_eq_add_neg]
        exact N_sub (b := 1) (by omega)
      rw [if_neg hc]
      have hstep : ∀ j, j < 3 → ∀ i, i < 3 → (sg_up (sg_up σ 58 j (σ 58 j + 1)) 59 j (-1)) 58 i = N (du b j (b j + 1) i) := by
        intro j hj i hi
        rw [up_c (by decide)]
        by_cases e2 : i = j
        · subst e2; rw [up_eq, du_eq, hb i hi, N_inc]
        · rw [up_k e2, du_ne e2]; exact hb i hi
      obtain ⟨p1, b', hb', es⟩ := lay93 (σ := σ) (x2 := N ov) (k84 := s_X5_laysBlocks_l84 n) (kp84 := p_X5_laysBlocks_l84 n) (fun j hj => by rw [e1]; exact (ih (ov - 1) _ _ (by omega) (by omega) (hstep j hj)).1) 600 1 0 (by decide) (by decide) (by decide)
      have es : s_X5_laysBlocks_l93 (s_X5_laysBlocks_l84 n) 600 σ (N ov) 0 1 = _ := es
      rw [es, e1]
      obtain ⟨i1, i2, b2, i3, i4⟩ := ih (ov - 1) _ _ (by omega) (by omega) (hstep b' hb')
      refine ⟨fun _ => p1, ((BSame_u (Or.inl rfl)).tr (BSame_u (Or.inr rfl))).tr i2, b2, i3, ?_⟩
      rcases (show b' = 0 ∨ b' = 1 ∨ b' = 2 by omega) with rfl | rfl | rfl
      all_goals (simp (decide := true) only [du_eq, du_ne] at i4; omega)
/-- the shares of 20 -/
def shr (S : Nat → Nat) (j : Nat) : Nat := if j = 0 then S 3 else if j = 1 then S 4 else 20 - S 3 - S 4
theorem fl_le {n a b c : Nat} (h : a + b + c = 20) : n * a / 20 + n * b / 20 + n * c / 20 ≤ n := by
  have h1 : n * a + n * b + n * c = n * 20 := by rw [← Nat.mul_add, ← Nat.mul_add, h]
  omega
theorem lay41 {σ : sg_S} {n ov j y : Nat} {k4 : sg_S → Int32 → Int32 → Int32 → sg_S} {kp4 : sg_S → Int32 → Int32 → Int32 → Prop} (hj : j < 3) (hn : n ≤ 20) (hy : y ≤ 20) (hov : n * y / 20 ≤ ov) : s_X5_laysBlocks_a41 k4 σ (N n) (N ov) (N j) (N y) = k4 (sg_up (sg_up σ 58 j (N (n * y / 20))) 59 j (N (n * y % 20))) (N n) (N (ov - n * y / 20)) (N (j + 1)) ∧ (kp4 (sg_up (sg_up σ 58 j (N (n * y / 20))) 59 j (N (n * y % 20))) (N n) (N (ov - n * y / 20)) (N (j + 1)) → p_X5_laysBlocks_a41 kp4 σ (N n) (N ov) (N j) (N y)) := by
  have hm : n * y ≤ 20 * 20 := Nat.mul_le_mul hn hy
  have et : t_X5_laysBlocks_3 σ (N n) (N ov) (N j) (N y) = sg_up (sg_up σ 58 j (N (n * y / 20))) 59 j (N (n * y % 20)) := by
    unfold t_X5_laysBlocks_3 t_X5_laysBlocks_2
    rw [N_mul, ni_N (by omega), show (20 : Int32) = N 20 from rfl, N_div (by omega) (by decide), N_rm (by omega) (by decide)]
  have e58 : (sg_up (sg_up σ 58 j (N (n * y / 20))) 59 j (N (n * y % 20))) 58 j = N (n * y / 20) := by rw [up_c (by decide), up_eq]
  unfold s_X5_laysBlocks_a41 p_X5_laysBlocks_a41
  rw [et, ni_N (by omega), e58, N_sub hov, N_inc]
  have x : ix (N j) 3 := ix_N hj (by decide)
  exact ⟨rfl, fun h => ⟨x, x, x, h⟩⟩
theorem lay_ok {σ : sg_S} {S : Nat → Nat} {n : Nat} (hS : SetAt σ 36 S) (hK : SetOK S) (hn : n ≤ 20) : p_X5_laysBlocks σ (N n) ∧ BSame σ (s_X5_laysBlocks σ (N n)) ∧ ∃ b : Nat → Nat, (∀ j, j < 3 → (s_X5_laysBlocks σ (N n)) 58 j = N (b j)) ∧ b 0 + b 1 + b 2 = n ∧ ∃ σ3 : sg_S, (∀ j, j < 3 → σ3 58 j = N (n * shr S j / 20) ∧ σ3 59 j = N (n * shr S j % 20)) ∧ s_X5_laysBlocks σ (N n) = s_X5_laysBlocks_l84 600 σ3 (N (n - n * shr S 0 / 20 - n * shr S 1 / 20 - n * shr S 2 / 20)) := by
  have h34 : S 3 + S 4 ≤ 20 := hK.2.2.2.2.2.2
  have f := fl_le (n := n) (a := S 3) (b := S 4) (c := 20 - S 3 - S 4) (by omega)
  have e33 : (3 : Int32) + N 0 = N 3 := by decide
  have e34 : (3 : Int32) + N 1 = N 4 := by decide
  -- the third
  have B2 : ∀ (m : Nat) (τ : sg_S), SetAt τ 36 S → s_X5_laysBlocks_l4 (m + 2) τ (N n) (N (n - n * S 3 / 20 - n * S 4 / 20)) (N 2) = s_X5_laysBlocks_l84 600 (sg_up (sg_up τ 58 2 (N (n * (20 - S 3 - S 4) / 20))) 59 2 (N (n * (20 - S 3 - S 4) % 20))) (N (n - n * S 3 / 20 - n * S 4 / 20 - n * (20 - S 3 - S 4) / 20)) ∧ (p_X5_laysBlocks_l84 600 (sg_up (sg_up τ 58 2 (N (n * (20 - S 3 - S 4) / 20))) 59 2 (N (n * (20 - S 3 - S 4) % 20))) (N (n - n * S 3 / 20 - n * S 4 / 20 - n * (20 - S 3 - S 4) / 20)) → p_X5_laysBlocks_l4 (m + 2) τ (N n) (N (n - n * S 3 / 20 - n * S 4 / 20)) (N 2)) := by
    intro m τ hτ
    have ey : (20 : Int32) - τ 36 3 - τ 36 4 = N (20 - S 3 - S 4) := by
      rw [hτ 3 (by decide), hτ 4 (by decide), show (20 : Int32) = N 20 from rfl, N_sub (by omega), N_sub (by omega)]
    obtain ⟨l1, l2⟩ := lay41 (σ := τ) (n := n) (ov := n - n * S 3 / 20 - n * S 4 / 20) (j := 2) (y := 20 - S 3 - S 4) (k4 := s_X5_laysBlocks_l4 (m + 1)) (kp4 := p_X5_laysBlocks_l4 (m + 1)) (by decide) hn (by omega) (by omega)
    have e3 : ∀ (τ' : sg_S) (o : Int32), s_X5_laysBlocks_l4 (m + 1) τ' (N n) o (N 3) = s_X5_laysBlocks_l84 600 τ' o ∧ (p_X5_laysBlocks_l84 600 τ' o → p_X5_laysBlocks_l4 (m + 1) τ' (N n) o (N 3)) := by
      intro τ' o
      refine ⟨?_, fun hp => ⟨fun _ => hp, fun z => absurd (by decide) z⟩⟩
      show s_X5_laysBlocks_b4 (s_X5_laysBlocks_l4 m) τ' (N n) o (N 3) = _
      unfold s_X5_laysBlocks_b4
      rw [if_pos (by decide)]
    refine ⟨?_, fun hp => ?_⟩
    · show s_X5_laysBlocks_b4 (s_X5_laysBlocks_l4 (m + 1)) τ (N n) _ (N 2) = _
      unfold s_X5_laysBlocks_b4
      rw [if_neg (by decide), if_pos (by decide), ey, l1]
      exact (e3 _ _).1
    · show p_X5_laysBlocks_b4 (p_X5_laysBlocks_l4 (m + 1)) τ (N n) _ (N 2)
      unfold p_X5_laysBlocks_b4
      rw [ey]
      exact ⟨fun z => absurd z (by decide), fun _ => ⟨fun _ => l2 ((e3 _ _).2 hp), fun z => absurd (by decide) z⟩⟩
  have B1 : ∀ (m : Nat) (τ : sg_S), SetAt τ 36 S → s_X5_laysBlocks_l4 (m + 3) τ (N n) (N (n - n * S 3 / 20)) (N 1) = s_X5_laysBlocks_l4 (m + 2) (sg_up (sg_up τ 58 1 (N (n * S 4 / 20))) 59 1 (N (n * S 4 % 20))) (N n) (N (n - n * S 3 / 20 - n * S 4 / 20)) (N 2) ∧ (p_X5_laysBlocks_l4 (m + 2) (sg_up (sg_up τ 58 1 (N (n * S 4 / 20))) 59 1 (N (n * S 4 % 20))) (N n) (N (n - n * S 3 / 20 - n * S 4 / 20)) (N 2) → p_X5_laysBlocks_l4 (m + 3) τ (N n) (N (n - n * S 3 / 20)) (N 1)) := by
    intro m τ hτ
    obtain ⟨l1, l2⟩ := lay41 (σ := τ) (n := n) (ov := n - n * S 3 / 20) (j := 1) (y := S 4) (k4 := s_X5_laysBlocks_l4 (m + 2)) (kp4 := p_X5_laysBlocks_l4 (m + 2)) (by decide) hn (by omega) (by omega)
    refine ⟨?_, fun hp => ?_⟩
    · show s_X5_laysBlocks_b4 (s_X5_laysBlocks_l4 (m + 2)) τ (N n) _ (N 1) = _
      unfold s_X5_laysBlocks_b4
      rw [if_neg (by decide), if_neg (by decide), e34, ni_N (by decide), hτ 4 (by decide), l1]
    · show p_X5_laysBlocks_b4 (p_X5_laysBlocks_l4 (m + 2)) τ (N n) _ (N 1)
      unfold p_X5_laysBlocks_b4
      rw [e34, ni_N (by decide), hτ 4 (by decide)]
      exact ⟨fun z => absurd z (by decide), fun _ => ⟨fun z => absurd z (by decide), fun _ => ⟨ix_N (by decide) (by decide), l2 hp⟩⟩⟩
  have B0 : s_X5_laysBlocks σ (N n) = s_X5_laysBlocks_l4 599 (sg_up (sg_up σ 58 0 (N (n * S 3 / 20))) 59 0 (N (n * S 3 % 20))) (N n) (N (n - n * S 3 / 20)) (N 1) ∧ (p_X5_laysBlocks_l4 599 (sg_up (sg_up σ 58 0 (N (n * S 3 / 20))) 59 0 (N (n * S 3 % 20))) (N n) (N (n - n * S 3 / 20)) (N 1) → p_X5_laysBlocks σ (N n)) := by
    obtain ⟨l1, l2⟩ := lay41 (σ := σ) (n := n) (ov := n) (j := 0) (y := S 3) (k4 := s_X5_laysBlocks_l4 599) (kp4 := p_X5_laysBlocks_l4 599) (by decide) hn (by omega) (by omega)
    refine ⟨?_, fun hp => ?_⟩
    · show s_X5_laysBlocks_b4 (s_X5_laysBlocks_l4 599) σ (N n) (N n) (N 0) = _
      unfold s_X5_laysBlocks_b4
      rw [if_neg (by decide), if_neg (by decide), e33, ni_N (by decide), hS 3 (by decide), l1]
    · show p_X5_laysBlocks_b4 (p_X5_laysBlocks_l4 599) σ (N n) (N n) (N 0)
      unfold p_X5_laysBlocks_b4
      rw [e33, ni_N (by decide), hS 3 (by decide)]
      exact ⟨fun z => absurd z (by decide), fun _ => ⟨fun z => absurd z (by decide), fun _ => ⟨ix_N (by decide) (by decide), l2 hp⟩⟩⟩
  have s1 : SetAt (sg_up (sg_up σ 58 0 (N (n * S 3 / 20))) 59 0 (N (n * S 3 % 20))) 36 S := SetAt_up (SetAt_up hS (by decide)) (by decide)
  have s2 : SetAt (sg_up (sg_up (sg_up (sg_up σ 58 0 (N (n * S 3 / 20))) 59 0 (N (n * S 3 % 20))) 58 1 (N (n * S 4 / 20))) 59 1 (N (n * S 4 % 20))) 36 S := SetAt_up (SetAt_up s1 (by decide)) (by decide)
  obtain ⟨b0, b0'⟩ := B0
  obtain ⟨b1, b1'⟩ := B1 596 _ s1
  obtain ⟨b2, b2'⟩ := B2 596 _ s2
  have hall := (b0.trans b1).trans b2
  have h58 : ∀ j, j < 3 → (sg_up (sg_up (sg_up (sg_up (sg_up (sg_up σ 58 0 (N (n * S 3 / 20))) 59 0 (N (n * S 3 % 20))) 58 1 (N (n * S 4 / 20))) 59 1 (N (n * S 4 % 20))) 58 2 (N (n * (20 - S 3 - S 4) / 20))) 59 2 (N (n * (20 - S 3 - S 4) % 20))) 58 j = N (n * shr S j / 20) := by
    intro j hj
    rcases (show j = 0 ∨ j = 1 ∨ j = 2 by omega) with rfl | rfl | rfl
    all_goals (simp (decide := true) only [up_eq, up_c, up_k]; rfl)
  have h59 : ∀ j, j < 3 → (sg_up (sg_up (sg_up (sg_up (sg_up (sg_up σ 58 0 (N (n * S 3 / 20))) 59 0 (N (n * S 3 % 20))) 58 1 (N (n * S 4 / 20))) 59 1 (N (n * S 4 % 20))) 58 2 (N (n * (20 - S 3 - S 4) / 20))) 59 2 (N (n * (20 - S 3 - S 4) % 20))) 59 j = N (n * shr S j % 20) := by
    intro j hj
    rcases (show j = 0 ∨ j = 1 ∨ j = 2 by omega) with rfl | rfl | rfl
    all_goals (simp (decide := true) only [up_eq, up_c, up_k]; rfl)
  obtain ⟨c1, c2, b, c3, c4⟩ := lay84 600 (n - n * S 3 / 20 - n * S 4 / 20 - n * (20 - S 3 - S 4) / 20) _ (fun j => n * shr S j / 20) (by omega) (by omega) h58
  refine ⟨b0' (b1' (b2' c1)), ?_, b, ?_, ?_, ⟨_, fun j hj => ⟨h58 j hj, h59 j hj⟩, hall⟩⟩
  · rw [hall]
    exact ((((((BSame_u (Or.inl rfl)).tr (BSame_u (Or.inr rfl))).tr (BSame_u (Or.inl rfl))).tr (BSame_u (Or.inr rfl))).tr (BSame_u (Or.inl rfl))).tr (BSame_u (Or.inr rfl))).tr c2
  · intro j hj
    rw [hall]
    exact c3 j hj
  · have e0 : shr S 0 = S 3 := rfl
    have e1 : shr S 1 = S 4 := rfl
    have e2 : shr S 2 = 20 - S 3 - S 4 := rfl
    rw [e0, e1, e2] at c4
    omega
theorem ofOver_p {x1 : Int32} {a : Nat} (ha : a < 40) : p_X5_ofOver (N a) x1 := by
  have x : ix (N a) 40 := ix_N ha (by decide)
  exact ⟨fun _ => ⟨fun _ => x, fun _ => x⟩, fun _ => x⟩
theorem blk54 {σ : sg_S} {i kk f b : Nat} {x3 : Int32} (hi : i < 2) (hk : kk < 3) (hb : σ 58 kk = N b) (hf : f + b ≤ 20) : ∀ (n o : Nat) (x5 : Int32), f ≤ o → o ≤ f + b → f + b - o < n → p_X5_ofBlock_l54 n σ (N i) (N kk) x3 (N f) x5 (N o) ∧ (r_X5_ofBlock_l54 n σ (N i) (N kk) x3 (N f) x5 (N o)).2 = σ := by
  intro n
  induction n with
  | zero => intro o x5 _ _ hn; omega
  | succ n ih =>
    intro o x5 h1 h2 hn
    show p_X5_ofBlock_b54 (p_X5_ofBlock_l54 n) σ (N i) (N kk) x3 (N f) x5 (N o) ∧ (r_X5_ofBlock_b54 (r_X5_ofBlock_l54 n) σ (N i) (N kk) x3 (N f) x5 (N o)).2 = σ
    unfold p_X5_ofBlock_b54 r_X5_ofBlock_b54
    rw [ni_N (by omega), hb, N_add]
    have xk : ix (N kk) 3 := ix_N hk (by decide)
    by_cases e : f + b ≤ o
    · have hc : N (f + b) ≤ N o := g_le e (by omega)
      rw [if_pos hc]
      exact ⟨⟨xk, fun z => absurd hc z⟩, rfl⟩
    · have hc : ¬ N (f + b) ≤ N o := g_nle (by omega) (by omega)
      have ea : 20 * N i + N o = N (20 * i + o) := by rw [show (20 : Int32) = N 20 from rfl, N_mul, N_add]
      obtain ⟨i1, i2⟩ := ih (o + 1) (x5 + v_X5_ofOver σ (N (20 * i + o)) x3) (by omega) (by omega) (by omega)
      rw [if_neg hc, ea, N_inc]
      exact ⟨⟨xk, fun _ => ⟨ofOver_p (by omega), i1⟩⟩, i2⟩
theorem ofBlock_ok {σ : sg_S} {T S : Nat → Nat} {now t k i kk : Nat} {x2 : Int32} {D : Nat → Nat → Nat} (h : RefAt σ T S now t D) (hi : i < 2) (hI : InnOK T k (D i)) (hk : kk < 3) : p_X5_ofBlock σ (N i) (N kk) x2 ∧ BSame σ (r_X5_ofBlock σ (N i) (N kk) x2).2 := by
  have e44 : σ 44 (ni (N i)) = N (D i 3) := by rw [ni_N (by omega)]; exact (h.pic hi).2.2.2.1
  obtain ⟨l1, l2, b, l3, l4, -⟩ := lay_ok h.2.2.1 h.2.2.2.1 hI.2.1
  have h20 := hI.2.1
  unfold p_X5_ofBlock r_X5_ofBlock
  rw [e44, l3 0 (by decide), l3 1 (by decide), N_add]
  rcases (show kk = 0 ∨ kk = 1 ∨ kk = 2 by omega) with rfl | rfl | rfl
  · obtain ⟨p1, p2⟩ := blk54 (x3 := x2) (f := 0) hi (by decide) (l3 0 (by decide)) (by omega) 600 0 0 (by omega) (by omega) (by omega)
    rw [if_neg (fun z => z rfl)]
    exact ⟨⟨ix2 hi, l1, fun z => absurd rfl z, fun _ => p1⟩, by rw [show (r_X5_ofBlock_l54 600 (s_X5_laysBlocks σ (N (D i 3))) (N i) (N 0) x2 0 0 0).2 = _ from p2]; exact l2⟩
  · obtain ⟨p1, p2⟩ := blk54 (x3 := x2) (f := b 0) hi (by decide) (l3 1 (by decide)) (by omega) 600 (b 0) 0 (by omega) (by omega) (by omega)
    rw [if_pos (by decide), if_neg (fun z => z rfl)]
    exact ⟨⟨ix2 hi, l1, fun _ => ⟨fun z => absurd rfl z, fun _ => p1⟩, fun z => absurd (by decide) z⟩, by rw [p2]; exact l2⟩
  · obtain ⟨p1, p2⟩ := blk54 (x3 := x2) (f := b 0 + b 1) hi (by decide) (l3 2 (by decide)) (by omega) 600 (b 0 + b 1) 0 (by omega) (by omega) (by omega)
    rw [if_pos (by decide), if_pos (by decide)]
    exact ⟨⟨ix2 hi, l1, fun _ => ⟨fun _ => p1, fun z => absurd (by decide) z⟩, fun z => absurd (by decide) z⟩, by rw [p2]; exact l2⟩
/-! stands, overs -/
theorem stand_p {i kk : Nat} (hi : i < 2) (hk : kk < 10) : p_X5_standOf (N i) (N kk) := by
  refine ⟨by rw [t_eq]; exact ix_N (by omega) (by decide), fun hz => ?_⟩
  have hk0 : 1 ≤ kk := by
    rcases Nat.eq_zero_or_pos kk with e | e
    · rw [e] at hz; exact absurd rfl hz
    · exact e
  rw [t_eq, show (1 : Int32) = N 1 from rfl, N_sub (by omega)]
  exact ix_N (by omega) (by decide)
theorem last_p {σ : sg_S} {i w : Nat} (hi : i < 2) (hw : σ 42 i = N w) (hw2 : w ≤ 10) : p_X5_lastOf σ (N i) := by
  refine ⟨ix2 hi, fun _ => ⟨ix2 hi, ix2 hi, fun hz => ⟨ix2 hi, ?_⟩⟩⟩
  rw [ni_N (by omega), hw] at hz ⊢
  have hk0 : 1 ≤ w := by
    rcases Nat.eq_zero_or_pos w with e | e
    · rw [e] at hz; exact absurd rfl hz
    · exact e
  rw [t_eq, show (1 : Int32) = N 1 from rfl, N_sub (by omega)]
  exact ix_N (by omega) (by decide)
theorem best26 {σ : sg_S} {i w : Nat} (hi : i < 2) (hw : σ 42 i = N w) (hw2 : w ≤ 10) : ∀ (n kk : Nat) (x2 : Int32), kk ≤ w → w - kk < n → p_X5_bestStand_l26 n σ (N i) x2 (N kk) ∧ (r_X5_bestStand_l26 n σ (N i) x2 (N kk)).2 = σ := by
  intro n
  induction n with
  | zero => intro kk x2 _ hn; omega
  | succ n ih =>
    intro kk x2 hk hn
    show p_X5_bestStand_b26 (p_X5_bestStand_l26 n) σ (N i) x2 (N kk) ∧ (r_X5_bestStand_b26 (r_X5_bestStand_l26 n) σ (N i) x2 (N kk)).2 = σ
    unfold p_X5_bestStand_b26 r_X5_bestStand_b26
    rw [ni_N (by omega), hw]
    by_cases e : w ≤ kk
    · have hc : N w ≤ N kk := g_le e (by omega)
      rw [if_pos hc]
      exact ⟨⟨ix2 hi, fun z => absurd hc z⟩, rfl⟩
    · have hc : ¬ N w ≤ N kk := g_nle (by omega) (by omega)
      have sp := stand_p (kk := kk) hi (by omega)
      rw [if_neg hc, N_inc]
      refine ⟨⟨ix2 hi, fun _ => ⟨sp, fun _ => (ih _ _ (by omega) (by omega)).1, fun _ => ⟨sp, (ih _ _ (by omega) (by omega)).1⟩⟩⟩, ?_⟩
      split
      · exact (ih _ _ (by omega) (by omega)).2
      · exact (ih _ _ (by omega) (by omega)).2
theorem over4 {σ : sg_S} {i : Nat} (hi : i < 2) : ∀ (n kk b : Nat), kk ≤ 20 → b < 20 → 20 - kk < n → p_X5_bestOverOf_l4 σ n (N i) (N b) (N kk) ∧ ∃ b', b' < 20 ∧ v_X5_bestOverOf_l4 σ n (N i) (N b) (N kk) = N b' := by
  intro n
  induction n with
  | zero => intro kk b _ _ hn; omega
  | succ n ih =>
    intro kk b hk hb hn
    show p_X5_bestOverOf_b4 σ (p_X5_bestOverOf_l4 σ n) (N i) (N b) (N kk) ∧ ∃ b', b' < 20 ∧ v_X5_bestOverOf_b4 σ (v_X5_bestOverOf_l4 σ n) (N i) (N b) (N kk) = N b'
    unfold p_X5_bestOverOf_b4 v_X5_bestOverOf_b4
    have ea : ∀ o, 20 * N i + N o = N (20 * i + o) := fun o => by rw [show (20 : Int32) = N 20 from rfl, N_mul, N_add]
    by_cases e : kk = 20
    · have hc : (20 : Int32) ≤ N kk := (N14 (L := 20) hk (by decide)).mpr e
      rw [if_pos hc]
      exact ⟨fun z => absurd hc z, b, hb, rfl⟩
    · have hc : ¬ (20 : Int32) ≤ N kk := fun z => e ((N14 (L := 20) hk (by decide)).mp z)
      obtain ⟨i1, i2⟩ := ih (kk + 1) b (by omega) hb (by omega)
      obtain ⟨j1, j2⟩ := ih (kk + 1) kk (by omega) (by omega) (by omega)
      rw [if_neg hc, N_inc, ea, ea]
      refine ⟨fun _ => ⟨ix_N (by omega) (by decide), ix_N (by omega) (by decide), fun _ => i1, fun _ => j1⟩, ?_⟩
      split
      · exact i2
      · exact j2
theorem over_ok {σ : sg_S} {i : Nat} (hi : i < 2) : p_X5_bestOverOf σ (N i) ∧ ∃ b', b' < 20 ∧ v_X5_bestOverOf σ (N i) = N b' := over4 hi 600 1 0 (by decide) (by decide) (by decide)
