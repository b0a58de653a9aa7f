/-! BLOCKS: both lay them alike -/
theorem shr_le {S : Nat → Nat} (hK : SetOK S) {j : Nat} : shr S j ≤ 20 := by
  have h34 : S 3 + S 4 ≤ 20 := hK.2.2.2.2.2.2
  unfold shr
  repeat' split
  all_goals omega
theorem shr_sum {S : Nat → Nat} (hK : SetOK S) : shr S 0 + shr S 1 + shr S 2 = 20 := by
  have h34 : S 3 + S 4 ≤ 20 := hK.2.2.2.2.2.2
  have e0 : shr S 0 = S 3 := rfl
  have e1 : shr S 1 = S 4 := rfl
  have e2 : shr S 2 = 20 - S 3 - S 4 := rfl
  omega
def svd (S : Nat → Nat) (n kk j : Nat) : Nat := if n * shr S kk % 20 < n * shr S j % 20 then 1 else if n * shr S j % 20 = n * shr S kk % 20 ∧ j < kk then 1 else 0
def spr (S : Nat → Nat) (n : Nat) : Nat := n - n * shr S 0 / 20 - n * shr S 1 / 20 - n * shr S 2 / 20
def blk (S : Nat → Nat) (n kk : Nat) : Nat := if svd S n kk 0 + svd S n kk 1 + svd S n kk 2 < spr S n then n * shr S kk / 20 + 1 else n * shr S kk / 20
theorem shr_c {σ : sg_S} {S : Nat → Nat} (hS : SetAt σ 4 S) (hK : SetOK S) {j : Nat} (hj : j < 3) : v_X2_shareOf σ (N j) = N (shr S j) := by
  have h34 : S 3 + S 4 ≤ 20 := hK.2.2.2.2.2.2
  unfold v_X2_shareOf
  rw [hS 3 (by decide), hS 4 (by decide)]
  rcases (show j = 0 ∨ j = 1 ∨ j = 2 by omega) with rfl | rfl | rfl
  · rfl
  · rfl
  · rw [if_pos (by decide), if_pos (by decide), show (20 : Int32) = N 20 from rfl, N_sub (by omega), N_sub (by omega)]
    rfl
theorem sub_pos {a b : Nat} (ha : a < 1000000000) (hb : b < 1000000000) : ((0 : Int32) < N b - N a) ↔ a < b := by
  rw [Int32.lt_iff_toInt_lt, sub_toInt ha hb, show (0 : Int32).toInt = 0 from rfl]
  omega
section ClsBlocks
variable {σ : sg_S} {S : Nat → Nat} {n kk : Nat}
theorem bo_step {m sp se j : Nat} (hS : SetAt σ 4 S) (hK : SetOK S) (hn : n ≤ 20) (hk : kk < 3) (hj : j < 3) (hsp : n * shr S j / 20 ≤ sp) : v_X2_blockOvers_l17 σ (m + 1) (N n) (N kk) (N (n * shr S kk)) (N sp) (N se) (N j) = v_X2_blockOvers_l17 σ m (N n) (N kk) (N (n * shr S kk)) (N (sp - n * shr S j / 20)) (N (se + svd S n kk j)) (N (j + 1)) := by
  have m1 : n * shr S j ≤ 20 * 20 := Nat.mul_le_mul hn (shr_le hK)
  have m2 : n * shr S kk ≤ 20 * 20 := Nat.mul_le_mul hn (shr_le hK)
  have e1 : rm (N n * N (shr S j)) 20 = N (n * shr S j % 20) := by
    rw [N_mul]
    exact N_rm (b := 20) (by omega) (by decide)
  have e2 : rm (N (n * shr S kk)) 20 = N (n * shr S kk % 20) := N_rm (b := 20) (by omega) (by decide)
  have e3 : N n * N (shr S j) / 20 = N (n * shr S j / 20) := by
    rw [N_mul]
    exact N_div (b := 20) (by omega) (by decide)
  have hd := sub_pos (a := n * shr S kk % 20) (b := n * shr S j % 20) (by omega) (by omega)
  have he := sub_z (a := n * shr S kk % 20) (b := n * shr S j % 20) (by omega) (by omega)
  show v_X2_blockOvers_b17 σ (v_X2_blockOvers_l17 σ m) (N n) (N kk) (N (n * shr S kk)) (N sp) (N se) (N j) = _
  unfold v_X2_blockOvers_b17 svd
  rw [if_neg (by exact g_nle (L := 3) hj (by decide)), shr_c hS hK hj, e1, e2, e3, N_sub hsp]
  by_cases c1 : n * shr S kk % 20 < n * shr S j % 20
  · rw [if_pos (hd.mpr c1), if_pos c1, N_inc, N_inc]
  rw [if_neg (fun w => c1 (hd.mp w)), if_neg c1]
  by_cases c2 : n * shr S j % 20 = n * shr S kk % 20
  · rw [if_neg (fun w => w (he.mpr c2))]
    by_cases c3 : j < kk
    · rw [if_neg (g_nle c3 (by omega)), if_pos ⟨c2, c3⟩, N_inc, N_inc]
    · rw [if_pos (g_le (by omega) (by omega)), if_neg (fun w => c3 w.2), Nat.add_zero, N_inc]
  · rw [if_pos (fun w => c2 (he.mp w)), if_neg (fun w => c2 w.1), Nat.add_zero, N_inc]
theorem blk_c (hS : SetAt σ 4 S) (hK : SetOK S) (hn : n ≤ 20) (hk : kk < 3) : v_X2_blockOvers σ (N n) (N kk) = N (blk S n kk) := by
  have m2 : n * shr S kk ≤ 20 * 20 := Nat.mul_le_mul hn (shr_le hK)
  have f := fl_le (n := n) (shr_sum hK)
  have l0 : ∀ j, svd S n kk j ≤ 1 := fun j => by
    unfold svd
    repeat' split
    all_goals omega
  have a0 := l0 0
  have a1 := l0 1
  have a2 := l0 2
  have e0 : v_X2_blockOvers σ (N n) (N kk) = v_X2_blockOvers_l17 σ 600 (N n) (N kk) (N (n * shr S kk)) (N n) (N 0) (N 0) := by
    unfold v_X2_blockOvers
    rw [shr_c hS hK hk, N_mul]
    rfl
  refine e0.trans ((bo_step (m := 599) (sp := n) (se := 0) (j := 0) hS hK hn hk (by decide) (by omega)).trans ((bo_step (m := 598) (sp := n - n * shr S 0 / 20) (se := 0 + svd S n kk 0) (j := 1) hS hK hn hk (by decide) (by omega)).trans ((bo_step (m := 597) (sp := n - n * shr S 0 / 20 - n * shr S 1 / 20) (se := 0 + svd S n kk 0 + svd S n kk 1) (j := 2) hS hK hn hk (by decide) (by omega)).trans ?_)))
  show v_X2_blockOvers_b17 σ (v_X2_blockOvers_l17 σ 596) (N n) (N kk) (N (n * shr S kk)) (N (n - n * shr S 0 / 20 - n * shr S 1 / 20 - n * shr S 2 / 20)) (N (0 + svd S n kk 0 + svd S n kk 1 + svd S n kk 2)) (N 3) = _
  unfold v_X2_blockOvers_b17 blk spr
  rw [if_pos (by decide), show (20 : Int32) = N 20 from rfl, N_div (by omega) (by decide), Nat.zero_add]
  by_cases c : svd S n kk 0 + svd S n kk 1 + svd S n kk 2 < n - n * shr S 0 / 20 - n * shr S 1 / 20 - n * shr S 2 / 20
  · rw [if_neg (g_nle c (by omega)), if_pos c, N_inc]
  · rw [if_pos (g_le (by omega) (by omega)), if_neg c]
    exact N_add _ 0
end ClsBlocks
/-! the reference's picking -/
def pk (a b c : Int32) : Nat := if b ≤ a then (if c ≤ a then 0 else 2) else (if c ≤ b then 1 else 2)
theorem pk_0 {a b c : Int32} (h1 : b ≤ a) (h2 : c ≤ a) : pk a b c = 0 := by
  unfold pk
  rw [if_pos h1, if_pos h2]
theorem pk_1 {a b c : Int32} (h1 : ¬ b ≤ a) (h2 : c ≤ b) : pk a b c = 1 := by
  unfold pk
  rw [if_neg h1, if_pos h2]
theorem pk_2a {a b c : Int32} (h1 : b ≤ a) (h2 : ¬ c ≤ a) : pk a b c = 2 := by
  unfold pk
  rw [if_pos h1, if_neg h2]
theorem pk_2b {a b c : Int32} (h1 : ¬ b ≤ a) (h2 : ¬ c ≤ b) : pk a b c = 2 := by
  unfold pk
  rw [if_neg h1, if_neg h2]
def pku (σ : sg_S) (b : Nat) : sg_S := sg_up (sg_up σ 58 b (σ 58 b + 1)) 59 b (-1)
theorem lay_pick {σ : sg_S} {x2 : Int32} {k84 : sg_S → Int32 → sg_S} : s_X5_laysBlocks_l93 k84 600 σ x2 0 1 = k84 (pku σ (pk (σ 59 0) (σ 59 1) (σ 59 2))) (x2 + -1) := by
  have step : ∀ (m b : Nat), b < 3 → s_X5_laysBlocks_l93 k84 (m + 1) σ x2 (N b) (N 3) = k84 (pku σ b) (x2 + -1) := fun m b hb => by
    show s_X5_laysBlocks_b93 k84 (s_X5_laysBlocks_l93 k84 m) σ x2 (N b) (N 3) = _
    unfold s_X5_laysBlocks_b93
    rw [if_pos (by decide)]
    unfold t_X5_laysBlocks_1 t_X5_laysBlocks_0 pku
    rw [ni_N (by omega)]
  have two : ∀ (m b : Nat), b < 3 → s_X5_laysBlocks_l93 k84 (m + 2) σ x2 (N b) (N 2) = k84 (pku σ (if σ 59 2 ≤ σ 59 b then b else 2)) (x2 + -1) := fun m b hb => by
    show s_X5_laysBlocks_b93 k84 (s_X5_laysBlocks_l93 k84 (m + 1)) σ x2 (N b) (N 2) = _
    unfold s_X5_laysBlocks_b93
    rw [if_neg (by decide), ni_N (by omega), ni_N (by omega), N_inc]
    by_cases c : σ 59 2 ≤ σ 59 b
    · rw [if_pos c, if_pos c]; exact step m b hb
    · rw [if_neg c, if_neg c]; exact step m 2 (by decide)
  show s_X5_laysBlocks_b93 k84 (s_X5_laysBlocks_l93 k84 599) σ x2 (N 0) (N 1) = _
  unfold s_X5_laysBlocks_b93 pk
  rw [if_neg (by decide), ni_N (by omega), ni_N (by omega), N_inc]
  by_cases c : σ 59 1 ≤ σ 59 0
  · rw [if_pos c, if_pos c]; exact two 597 0 (by decide)
  · rw [if_neg c, if_neg c]; exact two 597 1 (by decide)
theorem lay1 {τ : sg_S} {m : Nat} {x : Int32} (hx : ¬ x ≤ 0) : s_X5_laysBlocks_l84 (m + 1) τ x = s_X5_laysBlocks_l84 m (pku τ (pk (τ 59 0) (τ 59 1) (τ 59 2))) (x + -1) := by
  show s_X5_laysBlocks_b84 (s_X5_laysBlocks_l84 m) τ x = _
  unfold s_X5_laysBlocks_b84
  rw [if_neg hx]
  exact lay_pick
theorem lay0 {τ : sg_S} {m : Nat} {x : Int32} (hx : x ≤ 0) : s_X5_laysBlocks_l84 (m + 1) τ x = τ := by
  show s_X5_laysBlocks_b84 (s_X5_laysBlocks_l84 m) τ x = _
  unfold s_X5_laysBlocks_b84
  rw [if_pos hx]
theorem m1_le {r : Nat} (h : r < 1000) : (-1 : Int32) ≤ N r := by
  rw [Int32.le_iff_toInt_le, N_toInt (by omega), show (-1 : Int32).toInt = -1 from rfl]
  omega
theorem m1_nle {r : Nat} (h : r < 1000) : ¬ N r ≤ (-1 : Int32) := by
  rw [Int32.le_iff_toInt_le, N_toInt (by omega), show (-1 : Int32).toInt = -1 from rfl]
  omega
theorem pku_58 {τ : sg_S} {b j : Nat} : pku τ b 58 j = if j = b then τ 58 b + 1 else τ 58 j := by
  unfold pku
  rw [up_c (by decide)]
  by_cases e : j = b
  · subst e; rw [up_eq, if_pos rfl]
  · rw [up_k e, if_neg e]
theorem pku_59 {τ : sg_S} {b j : Nat} : pku τ b 59 j = if j = b then -1 else τ 59 j := by
  unfold pku
  by_cases e : j = b
  · subst e; rw [up_eq, if_pos rfl]
  · rw [up_k e, if_neg e, up_c (by decide)]
/-- one over that is left -/
theorem one_left {τ : sg_S} {f0 f1 f2 r0 r1 r2 : Nat} (h0 : τ 58 0 = N f0 ∧ τ 59 0 = N r0) (h1 : τ 58 1 = N f1 ∧ τ 59 1 = N r1) (h2 : τ 58 2 = N f2 ∧ τ 59 2 = N r2) (l0 : r0 < 20) (l1 : r1 < 20) (l2 : r2 < 20) :
    (r1 ≤ r0 → r2 ≤ r0 → pk (τ 59 0) (τ 59 1) (τ 59 2) = 0) ∧ (¬ r1 ≤ r0 → r2 ≤ r1 → pk (τ 59 0) (τ 59 1) (τ 59 2) = 1) ∧ (¬ r2 ≤ r0 → ¬ r2 ≤ r1 → pk (τ 59 0) (τ 59 1) (τ 59 2) = 2) := by
  have p10 := N_le (a := r1) (b := r0) (by omega) (by omega)
  have p20 := N_le (a := r2) (b := r0) (by omega) (by omega)
  have p21 := N_le (a := r2) (b := r1) (by omega) (by omega)
  rw [h0.2, h1.2, h2.2]
  refine ⟨fun a b => pk_0 (p10.mpr a) (p20.mpr b), fun a b => pk_1 (fun w => a (p10.mp w)) (p21.mpr b), fun a b => ?_⟩
  by_cases c : r1 ≤ r0
  · exact pk_2a (p10.mpr c) (fun w => a (p20.mp w))
  · exact pk_2b (fun w => c (p10.mp w)) (fun w => b (p21.mp w))
theorem two_left {τ : sg_S} {r0 r1 r2 : Nat} (h0 : τ 59 0 = N r0) (h1 : τ 59 1 = N r1) (h2 : τ 59 2 = N r2) (l0 : r0 < 20) (l1 : r1 < 20) (l2 : r2 < 20) :
    ((r2 ≤ r1 → pk (pku τ 0 59 0) (pku τ 0 59 1) (pku τ 0 59 2) = 1) ∧ (¬ r2 ≤ r1 → pk (pku τ 0 59 0) (pku τ 0 59 1) (pku τ 0 59 2) = 2)) ∧ ((r2 ≤ r0 → pk (pku τ 1 59 0) (pku τ 1 59 1) (pku τ 1 59 2) = 0) ∧ (¬ r2 ≤ r0 → pk (pku τ 1 59 0) (pku τ 1 59 1) (pku τ 1 59 2) = 2)) ∧ ((r1 ≤ r0 → pk (pku τ 2 59 0) (pku τ 2 59 1) (pku τ 2 59 2) = 0) ∧ (¬ r1 ≤ r0 → pk (pku τ 2 59 0) (pku τ 2 59 1) (pku τ 2 59 2) = 1)) := by
  have p10 := N_le (a := r1) (b := r0) (by omega) (by omega)
  have p20 := N_le (a := r2) (b := r0) (by omega) (by omega)
  have p21 := N_le (a := r2) (b := r1) (by omega) (by omega)
  rw [pku_59, pku_59, pku_59, pku_59, pku_59, pku_59, pku_59, pku_59, pku_59, if_pos rfl, if_pos rfl, if_pos rfl, if_neg (by decide), if_neg (by decide), if_neg (by decide), if_neg (by decide), if_neg (by decide), if_neg (by decide), h0, h1, h2]
  refine ⟨⟨fun a => pk_1 (m1_nle (by omega)) (p21.mpr a), fun a => pk_2b (m1_nle (by omega)) (fun w => a (p21.mp w))⟩, ⟨fun a => pk_0 (m1_le (by omega)) (p20.mpr a), fun a => pk_2a (m1_le (by omega)) (fun w => a (p20.mp w))⟩, ⟨fun a => pk_0 (p10.mpr a) (m1_le (by omega)), fun a => pk_1 (fun w => a (p10.mp w)) (m1_le (by omega))⟩⟩
theorem blk_r {σ : sg_S} {S : Nat → Nat} {n kk : Nat} (hS : SetAt σ 36 S) (hK : SetOK S) (hn : n ≤ 20) (hk : kk < 3) : (s_X5_laysBlocks σ (N n)) 58 kk = N (blk S n kk) := by
  obtain ⟨-, -, b, -, -, σ3, h3, hall⟩ := lay_ok hS hK hn
  have f := fl_le (n := n) (shr_sum hK)
  have sm : n * shr S 0 + n * shr S 1 + n * shr S 2 = n * 20 := by rw [← Nat.mul_add, ← Nat.mul_add, shr_sum hK]
  have a0 := h3 0 (by decide)
  have a1 := h3 1 (by decide)
  have a2 := h3 2 (by decide)
  have m0 := Nat.div_add_mod (n * shr S 0) 20
  have m1 := Nat.div_add_mod (n * shr S 1) 20
  have m2 := Nat.div_add_mod (n * shr S 2) 20
  have l0 := Nat.mod_lt (n * shr S 0) (show 0 < 20 by decide)
  have l1 := Nat.mod_lt (n * shr S 1) (show 0 < 20 by decide)
  have l2 := Nat.mod_lt (n * shr S 2) (show 0 < 20 by decide)
  obtain ⟨o1, o2, o3⟩ := one_left a0 a1 a2 l0 l1 l2
  obtain ⟨⟨t1, t2⟩, ⟨t3, t4⟩, ⟨t5, t6⟩⟩ := two_left a0.2 a1.2 a2.2 l0 l1 l2
  have d1 : N 1 + -1 = (0 : Int32) := by decide
  have d2 : N 2 + -1 = N 1 := by decide
  rw [hall]
  unfold blk spr
  rcases (show n - n * shr S 0 / 20 - n * shr S 1 / 20 - n * shr S 2 / 20 = 0 ∨ n - n * shr S 0 / 20 - n * shr S 1 / 20 - n * shr S 2 / 20 = 1 ∨ n - n * shr S 0 / 20 - n * shr S 1 / 20 - n * shr S 2 / 20 = 2 by omega) with e | e | e
  · rw [e, lay0 (by decide), if_neg (by omega)]
    exact (h3 kk hk).1
  · rw [e, lay1 (by decide), d1, lay0 (by decide), pku_58]
    rcases (show kk = 0 ∨ kk = 1 ∨ kk = 2 by omega) with rfl | rfl | rfl
    · by_cases c : n * shr S 1 % 20 ≤ n * shr S 0 % 20 ∧ n * shr S 2 % 20 ≤ n * shr S 0 % 20
      · rw [o1 c.1 c.2, if_pos rfl, a0.1, N_inc, if_pos (by
          unfold svd
          repeat' split
          all_goals omega)]
      · have hz : ¬ 0 = pk (σ3 59 0) (σ3 59 1) (σ3 59 2) := by
          by_cases c1 : n * shr S 1 % 20 ≤ n * shr S 0 % 20
          · rw [o3 (fun w => c ⟨c1, w⟩) (by omega)]; decide
          · by_cases c2 : n * shr S 2 % 20 ≤ n * shr S 1 % 20
            · rw [o2 c1 c2]; decide
            · rw [o3 (by omega) c2]; decide
        rw [if_neg hz, a0.1, if_neg (by
          unfold svd
          repeat' split
          all_goals omega)]
    · by_cases c : ¬ n * shr S 1 % 20 ≤ n * shr S 0 % 20 ∧ n * shr S 2 % 20 ≤ n * shr S 1 % 20
      · rw [o2 c.1 c.2, if_pos rfl, a1.1, N_inc, if_pos (by
          unfold svd
          repeat' split
          all_goals omega)]
      · have hz : ¬ 1 = pk (σ3 59 0) (σ3 59 1) (σ3 59 2) := by
          by_cases c1 : n * shr S 1 % 20 ≤ n * shr S 0 % 20
          · by_cases c2 : n * shr S 2 % 20 ≤ n * shr S 0 % 20
            · rw [o1 c1 c2]; decide
            · rw [o3 c2 (by omega)]; decide
          · rw [o3 (by omega) (fun w => c ⟨c1, w⟩)]; decide
        rw [if_neg hz, a1.1, if_neg (by
          unfold svd
          repeat' split
          all_goals omega)]
    · by_cases c : ¬ n * shr S 2 % 20 ≤ n * shr S 0 % 20 ∧ ¬ n * shr S 2 % 20 ≤ n * shr S 1 % 20
      · rw [o3 c.1 c.2, if_pos rfl, a2.1, N_inc, if_pos (by
          unfold svd
          repeat' split
          all_goals omega)]
      · have hz : ¬ 2 = pk (σ3 59 0) (σ3 59 1) (σ3 59 2) := by
          by_cases c1 : n * shr S 1 % 20 ≤ n * shr S 0 % 20
          · by_cases c2 : n * shr S 2 % 20 ≤ n * shr S 0 % 20
            · rw [o1 c1 c2]; decide
            · exact absurd ⟨c2, by omega⟩ c
          · by_cases c2 : n * shr S 2 % 20 ≤ n * shr S 1 % 20
            · rw [o2 c1 c2]; decide
            · exact absurd ⟨by omega, c2⟩ c
        rw [if_neg hz, a2.1, if_neg (by
          unfold svd
          repeat' split
          all_goals omega)]
  · have fin : ∀ b c : Nat, pk (σ3 59 0) (σ3 59 1) (σ3 59 2) = b → pk (pku σ3 b 59 0) (pku σ3 b 59 1) (pku σ3 b 59 2) = c → ¬ b = c → s_X5_laysBlocks_l84 600 σ3 (N 2) 58 kk = if kk = b ∨ kk = c then σ3 58 kk + 1 else σ3 58 kk := fun b c hb hc hbc => by
      rw [lay1 (by decide), d2, hb, lay1 (by decide), d1, lay0 (by decide), hc, pku_58, pku_58, pku_58]
      by_cases e1 : kk = c
      · subst e1
        rw [if_pos rfl, if_neg (fun w => hbc w.symm), if_pos (Or.inr rfl)]
      · rw [if_neg e1]
        by_cases e2 : kk = b
        · subst e2
          rw [if_pos rfl, if_pos (Or.inl rfl)]
        · rw [if_neg e2, if_neg (fun w => w.elim e2 e1)]
    rw [e]
    have key : ∀ b c : Nat, s_X5_laysBlocks_l84 600 σ3 (N 2) 58 kk = (if kk = b ∨ kk = c then σ3 58 kk + 1 else σ3 58 kk) → ((kk = b ∨ kk = c) ↔ svd S n kk 0 + svd S n kk 1 + svd S n kk 2 < 2) → s_X5_laysBlocks_l84 600 σ3 (N 2) 58 kk = N (if svd S n kk 0 + svd S n kk 1 + svd S n kk 2 < 2 then n * shr S kk / 20 + 1 else n * shr S kk / 20) := fun b c h1 h2 => by
      rw [h1]
      by_cases g : kk = b ∨ kk = c
      · rw [if_pos g, if_pos (h2.mp g), (h3 kk hk).1, N_inc]
      · rw [if_neg g, if_neg (fun w => g (h2.mpr w)), (h3 kk hk).1]
    by_cases c10 : n * shr S 1 % 20 ≤ n * shr S 0 % 20
    · by_cases c20 : n * shr S 2 % 20 ≤ n * shr S 0 % 20
      · by_cases c21 : n * shr S 2 % 20 ≤ n * shr S 1 % 20
        · refine key 0 1 (fin 0 1 (o1 c10 c20) (t1 c21) (by decide)) ?_
          unfold svd
          rcases (show kk = 0 ∨ kk = 1 ∨ kk = 2 by omega) with rfl | rfl | rfl
          all_goals (repeat' split)
          all_goals omega
        · refine key 0 2 (fin 0 2 (o1 c10 c20) (t2 c21) (by decide)) ?_
          unfold svd
          rcases (show kk = 0 ∨ kk = 1 ∨ kk = 2 by omega) with rfl | rfl | rfl
          all_goals (repeat' split)
          all_goals omega
      · refine key 2 0 (fin 2 0 (o3 c20 (by omega)) (t5 c10) (by decide)) ?_
        unfold svd
        rcases (show kk = 0 ∨ kk = 1 ∨ kk = 2 by omega) with rfl | rfl | rfl
        all_goals (repeat' split)
        all_goals omega
    · by_cases c21 : n * shr S 2 % 20 ≤ n * shr S 1 % 20
      · by_cases c20 : n * shr S 2 % 20 ≤ n * shr S 0 % 20
        · refine key 1 0 (fin 1 0 (o2 c10 c21) (t3 c20) (by decide)) ?_
          unfold svd
          rcases (show kk = 0 ∨ kk = 1 ∨ kk = 2 by omega) with rfl | rfl | rfl
          all_goals (repeat' split)
          all_goals omega
        · refine key 1 2 (fin 1 2 (o2 c10 c21) (t4 c20) (by decide)) ?_
          unfold svd
          rcases (show kk = 0 ∨ kk = 1 ∨ kk = 2 by omega) with rfl | rfl | rfl
          all_goals (repeat' split)
          all_goals omega
      · refine key 2 1 (fin 2 1 (o3 (by omega) c21) (t6 c10) (by decide)) ?_
        unfold svd
        rcases (show kk = 0 ∨ kk = 1 ∨ kk = 2 by omega) with rfl | rfl | rfl
        all_goals (repeat' split)
        all_goals omega
