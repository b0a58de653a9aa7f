section
/-! SET, in full: what it answers, what it leaves -/
section SetFull
variable {σ : sg_S} {T S : Nat → Nat} {k t : Nat}
theorem setC_lt {s v : Nat} (hc : setC S s v) : v < 1000 := by
  obtain ⟨c1, c2, c3, c4, c5, c6⟩ := hc
  rcases (show s = 0 ∨ s = 1 ∨ s = 2 ∨ s = 3 ∨ s = 4 by omega) with rfl | rfl | rfl | rfl | rfl
  · have := c3 (Or.inl rfl); omega
  · have := c4 rfl; omega
  · have := c3 (Or.inr rfl); omega
  · have := c5 rfl; omega
  · have := c6 rfl; omega
theorem C_setY {s v : Nat} (h : CInv σ T S k t) (hc : setC S s v) : (r_X4_set σ (N s) (N v)).1 = 1 ∧ CInv (r_X4_set σ (N s) (N v)).2 T (du S s v) 0 t ∧ HiS σ (r_X4_set σ (N s) (N v)).2 ∧ ASame σ σ ∧ (∀ q j, ¬ (7 ≤ q ∧ q ≤ 19) → ¬ (q = 0 ∧ j = 6) → ¬ q = 4 → (r_X4_set σ (N s) (N v)).2 q j = σ q j) := by
  obtain ⟨⟨a1, a2, x, a3, a4⟩, ht, h5⟩ := id h
  obtain ⟨g1, g2⟩ := (allows_iff (x0 := N s) (x1 := N v) a4.2.2.1 a4.2.2.2.1).mpr ⟨s, v, rfl, rfl, hc⟩
  have es : s_X2_change σ (N s) (N v) = sg_up σ 4 s (N v) := by
    unfold s_X2_change
    rw [if_neg (N_nn (by have := hc.1; omega)), if_neg (by exact g_nle (L := 5) hc.1 (by decide)), ni_N (by have := hc.1; omega)]
  obtain ⟨e1, e2⟩ := cempty_ok (σ := sg_up σ 4 s (N v)) (TabAt_up a4.1 (by decide)) a4.2.1 (SetAt_du a4.2.2.1) (setC_OK a4.2.2.2.1 hc)
  unfold r_X4_set
  rw [if_neg g1, if_pos g2, es]
  dsimp only
  refine ⟨rfl, ⟨e1, ?_, h5⟩, fun q j hq => ?_, fun _ _ _ _ => rfl, fun q j h1 h2 h3 => ?_⟩
  · rw [e2 5 1 (by decide) (by decide), up_c (by decide)]; exact ht
  · rw [e2 q j (by omega) (by omega), up_c (by omega)]
  · rw [e2 q j h1 h2, up_c h3]
theorem C_setN {x0 x1 : Int32} (h : CInv σ T S k t) (hn : ¬ ∃ s v, x0 = N s ∧ x1 = N v ∧ setC S s v) : r_X4_set σ x0 x1 = (0, σ) := by
  obtain ⟨⟨a1, a2, x, a3, a4⟩, ht, h5⟩ := id h
  have ha := allows_iff (x0 := x0) (x1 := x1) a4.2.2.1 a4.2.2.2.1
  unfold r_X4_set
  by_cases g1 : v_X2_allows σ x0 x1 = 0
  · rw [if_pos g1]
  rw [if_neg g1]
  by_cases g2 : ¬ v_X2_setting σ x0 = x1
  · exact absurd (ha.mp ⟨g1, g2⟩) hn
  · rw [if_neg g2]
theorem R_set78Y {s v : Nat} {y0 : Int32} (hs : s < 5) (h : RInv σ T S k t) (hy : ¬ y0 = 0) (hc : setC S s v) : (r_X5_set_a78 σ (N s) (N v) y0).1 = 1 ∧ RInv (r_X5_set_a78 σ (N s) (N v) y0).2 T (du S s v) 0 t ∧ (∀ q j, ¬ (q = 35 ∧ j = 6) → ¬ q = 36 → (r_X5_set_a78 σ (N s) (N v) y0).2 q j = σ q j) := by
  obtain ⟨a1, a2, a3, a4, a5, a6, a7, a8, a9⟩ := id h
  unfold r_X5_set_a78 t_X5_set_0
  rw [if_pos hy, ni_N (by omega)]
  dsimp only
  refine ⟨rfl, ⟨TabAt_up (TabAt_up a1 (by decide)) (by decide), a2, SetAt_up (SetAt_du a3) (by decide), setC_OK a4 hc, up_eq, by decide, ⟨_, mrun_0⟩, by rw [up_k (by decide), up_c (by decide)]; exact a8, a9⟩, fun q j h1 h2 => ?_⟩
  rw [up_ne h1, up_c h2]
theorem R_setY {s v : Nat} (h : RInv σ T S k t) (hc : setC S s v) : (r_X5_set σ (N s) (N v)).1 = 1 ∧ RInv (r_X5_set σ (N s) (N v)).2 T (du S s v) 0 t ∧ (∀ q j, ¬ (q = 35 ∧ (j = 6 ∨ j = 0)) → ¬ q = 36 → (r_X5_set σ (N s) (N v)).2 q j = σ q j) := by
  have h0 := RInv_0 (v := 0) h
  obtain ⟨a1, a2, a3, a4, a5, a6, a7, a8, a9⟩ := id h0
  obtain ⟨s1, s2, s3, s4, s5, s6, s7⟩ := id a4
  obtain ⟨c1, c2, c3, c4, c5, c6⟩ := id hc
  have hv := setC_lt hc
  have key : ∀ y0 : Int32, ¬ y0 = 0 → (r_X5_set_a78 (sg_up σ 35 0 0) (N s) (N v) y0).1 = 1 ∧ RInv (r_X5_set_a78 (sg_up σ 35 0 0) (N s) (N v) y0).2 T (du S s v) 0 t ∧ (∀ q j, ¬ (q = 35 ∧ (j = 6 ∨ j = 0)) → ¬ q = 36 → (r_X5_set_a78 (sg_up σ 35 0 0) (N s) (N v) y0).2 q j = σ q j) := fun y0 hy => by
    obtain ⟨p1, p2, p3⟩ := R_set78Y c1 h0 hy hc
    exact ⟨p1, p2, fun q j q1 q2 => (p3 q j (by omega) q2).trans (up_ne (by omega))⟩
  have hne : ¬ N (S s) = N v := by
    rw [N_eq (by
      rcases (show s = 0 ∨ s = 1 ∨ s = 2 ∨ s = 3 ∨ s = 4 by omega) with rfl | rfl | rfl | rfl | rfl <;> omega) (by omega)]
    exact c2
  have hin : ¬ v_X5_in (N s) 0 4 = 0 := in_nz (lo := 0) (hi := 4) (by omega) (by omega) (by decide)
  unfold r_X5_set
  rw [if_neg hin, ni_N (by omega), a3 s c1, if_pos hne]
  rcases (show s = 0 ∨ s = 1 ∨ s = 2 ∨ s = 3 ∨ s = 4 by omega) with rfl | rfl | rfl | rfl | rfl
  · rw [if_pos (by decide)]
    have c := c3 (Or.inl rfl)
    exact key _ (in_nz (lo := 1) (hi := 20) c.1 c.2 (by decide))
  · rw [if_neg (by decide), if_pos (by decide), if_neg (fun z => z rfl)]
    have c := c4 rfl
    exact key _ (in_nz (lo := 1) (hi := 400) c.1 c.2 (by decide))
  · rw [if_neg (by decide), if_neg (fun z => z rfl)]
    have c := c3 (Or.inr rfl)
    exact key _ (in_nz (lo := 1) (hi := 20) c.1 c.2 (by decide))
  · have e7 : (7 : Int32) - N 3 = N 4 := by decide
    rw [if_neg (by decide), if_pos (by decide), if_pos (by decide), e7, ni_N (by decide), a3 4 (by decide), show (20 : Int32) = N 20 from rfl, N_sub (by omega)]
    have c := c5 rfl
    exact key _ (in_nz (lo := 0) (hi := 20 - S 4) (by omega) (by omega) (by omega))
  · have e7 : (7 : Int32) - N 4 = N 3 := by decide
    rw [if_neg (by decide), if_pos (by decide), if_pos (by decide), e7, ni_N (by decide), a3 3 (by decide), show (20 : Int32) = N 20 from rfl, N_sub (by omega)]
    have c := c6 rfl
    exact key _ (in_nz (lo := 0) (hi := 20 - S 3) (by omega) (by omega) (by omega))
theorem R_setN {x0 x1 : Int32} (h : RInv σ T S k t) (hn : ¬ ∃ s v, x0 = N s ∧ x1 = N v ∧ setC S s v) : r_X5_set σ x0 x1 = (0, sg_up σ 35 0 0) := by
  have h0 := RInv_0 (v := 0) h
  obtain ⟨a1, a2, a3, a4, a5, a6, a7, a8, a9⟩ := id h0
  obtain ⟨s1, s2, s3, s4, s5, s6, s7⟩ := id a4
  unfold r_X5_set
  by_cases g : v_X5_in x0 0 4 = 0
  · rw [if_pos g]
  rw [if_neg g]
  obtain ⟨s, rfl, -, hs⟩ := in_ex (lo := 0) (hi := 4) (by decide) (by decide) g
  rw [ni_N (by omega), a3 s (by omega)]
  by_cases g2 : ¬ N (S s) = x1
  · rw [if_pos g2]
    have key : ∀ y0 : Int32, (¬ y0 = 0 → ∃ v, x1 = N v ∧ setC S s v) → r_X5_set_a78 (sg_up σ 35 0 0) (N s) x1 y0 = (0, sg_up σ 35 0 0) := fun y0 hy => by
      unfold r_X5_set_a78
      by_cases z : ¬ y0 = 0
      · obtain ⟨v, e, hc⟩ := hy z
        exact absurd ⟨s, v, rfl, e, hc⟩ hn
      · rw [if_neg z]
    have hne : ∀ v, x1 = N v → ¬ S s = v := fun v e z => g2 (by rw [z, e])
    rcases (show s = 0 ∨ s = 1 ∨ s = 2 ∨ s = 3 ∨ s = 4 by omega) with rfl | rfl | rfl | rfl | rfl
    · rw [if_pos (by decide)]
      exact key _ (fun z => by
        obtain ⟨v, e, v1, v2⟩ := in_ex (lo := 1) (hi := 20) (by decide) (by decide) z
        exact ⟨v, e, by omega, hne v e, fun _ => ⟨v1, v2⟩, fun z => by omega, fun z => by omega, fun z => by omega⟩)
    · rw [if_neg (by decide), if_pos (by decide), if_neg (fun z => z rfl)]
      exact key _ (fun z => by
        obtain ⟨v, e, v1, v2⟩ := in_ex (lo := 1) (hi := 400) (by decide) (by decide) z
        exact ⟨v, e, by omega, hne v e, fun z => by omega, fun _ => ⟨v1, v2⟩, fun z => by omega, fun z => by omega⟩)
    · rw [if_neg (by decide), if_neg (fun z => z rfl)]
      exact key _ (fun z => by
        obtain ⟨v, e, v1, v2⟩ := in_ex (lo := 1) (hi := 20) (by decide) (by decide) z
        exact ⟨v, e, by omega, hne v e, fun _ => ⟨v1, v2⟩, fun z => by omega, fun z => by omega, fun z => by omega⟩)
    · have e7 : (7 : Int32) - N 3 = N 4 := by decide
      rw [if_neg (by decide), if_pos (by decide), if_pos (by decide), e7, ni_N (by decide), a3 4 (by decide), show (20 : Int32) = N 20 from rfl, N_sub (by omega)]
      exact key _ (fun z => by
        obtain ⟨v, e, v1, v2⟩ := in_ex (lo := 0) (hi := 20 - S 4) (by decide) (by omega) z
        exact ⟨v, e, by omega, hne v e, fun z => by omega, fun z => by omega, fun _ => by omega, fun z => by omega⟩)
    · have e7 : (7 : Int32) - N 4 = N 3 := by decide
      rw [if_neg (by decide), if_pos (by decide), if_pos (by decide), e7, ni_N (by decide), a3 3 (by decide), show (20 : Int32) = N 20 from rfl, N_sub (by omega)]
      exact key _ (fun z => by
        obtain ⟨v, e, v1, v2⟩ := in_ex (lo := 0) (hi := 20 - S 3) (by decide) (by omega) z
        exact ⟨v, e, by omega, hne v e, fun z => by omega, fun z => by omega, fun z => by omega, fun _ => by omega⟩)
  · rw [if_neg g2]
end SetFull
section Loose
variable {σ : sg_S} {T S : Nat → Nat} {k t : Nat}
theorem C_feedI {x0 x1 x2 x3 x4 : Int32} (h : CInv σ T S k t) : (∃ t', CInv (r_X4_feed σ x0 x1 x2 x3 x4).2 T S k t') ∧ HiS σ (r_X4_feed σ x0 x1 x2 x3 x4).2 := by
  obtain ⟨a1, a2, a3⟩ := C_feed (x0 := x0) (x1 := x1) (x2 := x2) (x3 := x3) (x4 := x4) h
  by_cases g : t + 20 ≤ 500
  · exact ⟨⟨_, (a1 g).2.1⟩, a3.hi⟩
  · exact ⟨⟨_, (a2 g).2.1⟩, a3.hi⟩
theorem R_feedI {x0 x1 x2 x3 x4 : Int32} (h : RInv σ T S k t) : p_X5_feed σ x0 x1 x2 x3 x4 ∧ (∃ t', RInv (r_X5_feed σ x0 x1 x2 x3 x4).2 T S k t') ∧ LoS σ (r_X5_feed σ x0 x1 x2 x3 x4).2 := by
  obtain ⟨a0, a1, a2, a3⟩ := R_feed (x0 := x0) (x1 := x1) (x2 := x2) (x3 := x3) (x4 := x4) h
  by_cases g : t + 20 ≤ 500
  · exact ⟨a0, ⟨_, (a1 g).2.1⟩, a3.lo⟩
  · exact ⟨a0, ⟨_, (a2 g).2.1⟩, a3.lo⟩
theorem C_endI {n : Int32} (h : CInv σ T S k t) : (∃ t', CInv (r_X4_end σ n).2 T S k t') ∧ HiS σ (r_X4_end σ n).2 := by
  obtain ⟨a1, a2, a3, -⟩ := C_end (n := n) h
  by_cases g : ∃ a, n = N a ∧ a ≤ t
  · obtain ⟨a, e, ha⟩ := g
    exact ⟨⟨_, (a1 a e ha).2⟩, a3.hi⟩
  · exact ⟨⟨_, (a2 (fun a e ha => g ⟨a, e, ha⟩)).2⟩, a3.hi⟩
theorem R_endI {n : Int32} (h : RInv σ T S k t) : (∃ t', RInv (r_X5_end σ n).2 T S k t') ∧ LoS σ (r_X5_end σ n).2 := by
  obtain ⟨a1, a2, a3, -⟩ := R_end (n := n) h
  by_cases g : ∃ a, n = N a ∧ a ≤ t
  · obtain ⟨a, e, ha⟩ := g
    exact ⟨⟨_, (a1 a e ha).2⟩, a3.lo⟩
  · exact ⟨⟨_, (a2 (fun a e ha => g ⟨a, e, ha⟩)).2⟩, a3.lo⟩
end Loose
end
section
/-! THE CLASS'S TOKENS, in full -/
theorem byteAt_in {σ : sg_S} {a t : Nat} (ht : σ 5 1 = N t) (h5 : t ≤ 500) (ha : a < t) : v_X3_byteAt σ (N a) = σ 6 a := by
  unfold v_X3_byteAt
  rw [if_neg (N_nn (by omega)), ht, if_neg (g_nle ha (by omega)), if_neg (by exact g_nle (L := 500) (by omega) (by decide)), ni_N (by omega)]
theorem byteAt_out {σ : sg_S} {a t : Nat} (ht : σ 5 1 = N t) (h5 : t ≤ 500) (ha : t ≤ a) (ha2 : a < 10000) : v_X3_byteAt σ (N a) = -1 := by
  unfold v_X3_byteAt
  rw [if_neg (N_nn (by omega)), ht, if_pos (g_le ha (by omega))]
theorem cseek_l0 {t : Nat} (h5 : t ≤ 500) : ∀ (n a : Nat) (σ : sg_S), σ 5 4 = N a → σ 5 1 = N t → a ≤ t → t - a < n → r_X3_seek_l0 n σ = (if skp (σ 6) (t - a) a < t then 1 else 0, sg_up (sg_up σ 5 4 (N (skp (σ 6) (t - a) a))) 5 2 (N (skp (σ 6) (t - a) a))) := by
  intro n
  induction n with
  | zero => intro a σ _ _ _ hn; omega
  | succ n ih =>
    intro a σ ha ht hat hn
    show r_X3_seek_b0 (r_X3_seek_l0 n) σ = _
    unfold r_X3_seek_b0
    have e1 : (sg_up σ 5 2 (N a)) 5 1 = N t := by rw [up_k (by decide)]; exact ht
    have e2 : (sg_up σ 5 2 (N a)) 5 2 = N a := up_eq
    rw [ha, ht, e1, e2]
    by_cases e : a = t
    · subst e
      have hc : N a ≤ N a := Int32.le_refl _
      rw [if_pos hc, if_pos hc, Nat.sub_self, show skp (σ 6) 0 a = a from rfl, if_neg (Nat.lt_irrefl _), up_self ha]
    · have hc : ¬ N t ≤ N a := g_nle (by omega) (by omega)
      obtain ⟨d, hd⟩ : ∃ d, t - a = d + 1 := ⟨t - a - 1, by omega⟩
      have hd2 : t - (a + 1) = d := by omega
      rw [if_neg hc, byteAt_in ht h5 (by omega), if_neg hc]
      have hb : (σ 6 a = 32 ∨ σ 6 a = 10) → r_X3_seek_l0 n (sg_up σ 5 4 (N a + 1)) = (if skp (σ 6) (t - a) a < t then 1 else 0, sg_up (sg_up σ 5 4 (N (skp (σ 6) (t - a) a))) 5 2 (N (skp (σ 6) (t - a) a))) := by
        intro hbl
        rw [N_inc]
        have i2 := ih (a + 1) (sg_up σ 5 4 (N (a + 1))) up_eq (by rw [up_k (by decide)]; exact ht) (by omega) (by omega)
        have e6 : (sg_up σ 5 4 (N (a + 1))) 6 = σ 6 := funext (fun k => up_c (by decide))
        rw [i2, e6, hd2, hd, skp_s, if_pos hbl, up_up]
      by_cases g1 : σ 6 a = 32
      · rw [if_pos g1]; exact hb (Or.inl g1)
      · rw [if_neg g1]
        by_cases g2 : σ 6 a = 10
        · rw [if_neg (fun z => z g2)]; exact hb (Or.inr g2)
        · have hs : skp (σ 6) (t - a) a = a := skp_id (fun _ z => z.elim g1 g2)
          rw [if_pos g2, hs, if_pos (by omega), up_self ha]
theorem cseek_ok {σ : sg_S} {a t : Nat} (ha : σ 5 4 = N a) (ht : σ 5 1 = N t) (hat : a ≤ t) (h5 : t ≤ 500) : (r_X3_seek σ).1 = (if skp (σ 6) (t - a) a < t then 1 else 0) ∧ (r_X3_seek σ).2 5 4 = N (skp (σ 6) (t - a) a) ∧ (r_X3_seek σ).2 5 2 = N (skp (σ 6) (t - a) a) ∧ (r_X3_seek σ).2 5 3 = σ 5 3 := by
  have h : r_X3_seek σ = _ := cseek_l0 h5 600 a σ ha ht hat (by omega)
  rw [h]
  dsimp only
  exact ⟨rfl, by rw [up_k (by decide), up_eq], up_eq, by rw [up_k (by decide), up_k (by decide)]⟩
theorem ctake_ok {σ : sg_S} {a t : Nat} (ha : σ 5 4 = N a) (ht : σ 5 1 = N t) (hat : a < t) (h5 : t ≤ 500) : (r_X3_takeByte σ).1 = σ 6 a ∧ (r_X3_takeByte σ).2 5 4 = N (a + 1) ∧ (r_X3_takeByte σ).2 5 2 = σ 5 2 := by
  unfold r_X3_takeByte
  rw [ht, ha, if_neg (g_nle hat (by omega)), byteAt_in ht h5 hat]
  dsimp only
  exact ⟨rfl, by rw [up_eq, N_inc], by rw [up_k (by decide)]⟩
theorem cbyte_ok {σ : sg_S} {a t : Nat} {x : Int32} (ha : σ 5 4 = N a) (ht : σ 5 1 = N t) (hat : a ≤ t) (h5 : t ≤ 500) : (r_X3_readByte σ x).2 5 2 = N (skp (σ 6) (t - a) a) ∧ (skp (σ 6) (t - a) a < t → σ 6 (skp (σ 6) (t - a) a) = x → (r_X3_readByte σ x).1 = 1 ∧ (r_X3_readByte σ x).2 5 4 = N (skp (σ 6) (t - a) a + 1)) ∧ (¬ (skp (σ 6) (t - a) a < t ∧ σ 6 (skp (σ 6) (t - a) a) = x) → (r_X3_readByte σ x).1 = 0) := by
  obtain ⟨s1, s2, s3, -⟩ := cseek_ok ha ht hat h5
  have e6 : (r_X3_seek σ).2 6 = σ 6 := K_seek.row (by decide)
  have t1 : (r_X3_seek σ).2 5 1 = N t := by rw [K_seek 5 1 (by decide)]; exact ht
  unfold r_X3_readByte
  by_cases g : skp (σ 6) (t - a) a < t
  · rw [if_pos g] at s1
    rw [s1, if_neg one_nz]
    obtain ⟨k1, k2, k3⟩ := ctake_ok s2 t1 g h5
    rw [e6] at k1
    by_cases g2 : σ 6 (skp (σ 6) (t - a) a) = x
    · rw [k1, if_neg (fun z => z g2)]
      exact ⟨k3.trans s3, fun _ _ => ⟨rfl, k2⟩, fun z => absurd ⟨g, g2⟩ z⟩
    · rw [k1, if_pos g2]
      exact ⟨k3.trans s3, fun _ z => absurd z g2, fun _ => rfl⟩
  · rw [if_neg g] at s1
    rw [s1, if_pos rfl]
    exact ⟨s3, fun z => absurd z g, fun _ => rfl⟩
/-! the class reads a number -/
theorem cnum10 {t p : Nat} (h5 : t ≤ 500) : ∀ (n a v : Nat) (σ : sg_S), σ 5 4 = N a → σ 5 1 = N t → σ 5 2 = N p → (a - p ≤ 4 → σ 5 3 = N v) → (¬ a - p ≤ 4 → σ 5 3 = -1) → p ≤ a → a ≤ t → t - a < n →
    (r_X3_readNumber_l10 n σ).1 = (if p < dgE (σ 6) (t - a) a then 1 else 0) ∧ (r_X3_readNumber_l10 n σ).2 5 4 = N (dgE (σ 6) (t - a) a) ∧ (r_X3_readNumber_l10 n σ).2 5 2 = N p ∧ (dgE (σ 6) (t - a) a - p ≤ 4 → (r_X3_readNumber_l10 n σ).2 5 3 = N (dgV (σ 6) p (t - a) a v)) ∧ (¬ dgE (σ 6) (t - a) a - p ≤ 4 → (r_X3_readNumber_l10 n σ).2 5 3 = -1) := by
  intro n
  induction n with
  | zero => intro a v σ _ _ _ _ _ _ _ hn; omega
  | succ n ih =>
    intro a v σ ha ht hp hv hv2 hpa hat hn
    show (r_X3_readNumber_b10 (r_X3_readNumber_l10 n) σ).1 = _ ∧ (r_X3_readNumber_b10 (r_X3_readNumber_l10 n) σ).2 5 4 = _ ∧ (r_X3_readNumber_b10 (r_X3_readNumber_l10 n) σ).2 5 2 = _ ∧ (_ → (r_X3_readNumber_b10 (r_X3_readNumber_l10 n) σ).2 5 3 = _) ∧ (_ → (r_X3_readNumber_b10 (r_X3_readNumber_l10 n) σ).2 5 3 = _)
    unfold r_X3_readNumber_b10
    have hstop : dgE (σ 6) (t - a) a = a → dgV (σ 6) p (t - a) a v = v → (if N a ≤ N p then ((0 : Int32), σ) else (1, σ)).1 = (if p < dgE (σ 6) (t - a) a then 1 else 0) ∧ (if N a ≤ N p then ((0 : Int32), σ) else (1, σ)).2 5 4 = N (dgE (σ 6) (t - a) a) ∧ (if N a ≤ N p then ((0 : Int32), σ) else (1, σ)).2 5 2 = N p ∧ (dgE (σ 6) (t - a) a - p ≤ 4 → (if N a ≤ N p then ((0 : Int32), σ) else (1, σ)).2 5 3 = N (dgV (σ 6) p (t - a) a v)) ∧ (¬ dgE (σ 6) (t - a) a - p ≤ 4 → (if N a ≤ N p then ((0 : Int32), σ) else (1, σ)).2 5 3 = -1) := by
      intro e1 e2
      rw [e1, e2]
      by_cases g : p < a
      · rw [if_neg (g_nle g (by omega)), if_pos g]
        exact ⟨rfl, ha, hp, hv, hv2⟩
      · rw [if_pos (g_le (by omega) (by omega)), if_neg g]
        exact ⟨rfl, ha, hp, hv, hv2⟩
    rw [ha, ht, hp]
    by_cases e : a = t
    · rw [if_pos (by rw [e]; exact Int32.le_refl _)]
      exact hstop (by rw [e, Nat.sub_self]; rfl) (by rw [e, Nat.sub_self]; rfl)
    obtain ⟨d, hd⟩ : ∃ d, t - a = d + 1 := ⟨t - a - 1, by omega⟩
    have hd2 : t - (a + 1) = d := by omega
    rw [if_neg (g_nle (by omega) (by omega)), byteAt_in ht h5 (by omega)]
    have l1 := lt_ni (x := σ 6 a) (a := 48) (by decide) (by decide)
    by_cases hD : 48 ≤ ni (σ 6 a) ∧ ni (σ 6 a) ≤ 57
    · have eb0 := ni_pos (x := σ 6 a) (by omega)
      rw [if_neg (fun z => by have := l1.mp z; omega), if_neg (by
        rw [← eb0]
        exact g_nlt (L := 57) hD.2 (by decide)), N_sub hpa]
      have eE : dgE (σ 6) (t - a) a = dgE (σ 6) (t - (a + 1)) (a + 1) := by rw [hd, dgE_s, if_pos hD, hd2]
      have eV : dgV (σ 6) p (t - a) a v = dgV (σ 6) p (t - (a + 1)) (a + 1) (if 4 ≤ a - p then v else 10 * v + (ni (σ 6 a) - 48)) := by rw [hd, dgV_s, if_pos hD, hd2]
      rw [eE, eV]
      unfold r_X3_readNumber_a65
      by_cases g4 : 4 ≤ a - p
      · rw [if_pos (by exact g_le (a := 4) g4 (by omega)), if_pos rfl, if_pos g4]
        have et : t_X3_readNumber_0 σ 0 = sg_up (sg_up σ 5 3 (-1)) 5 4 (N (a + 1)) := by
          unfold t_X3_readNumber_0
          rw [up_k (by decide), ha, N_inc]
        have e6 : (sg_up (sg_up σ 5 3 (-1)) 5 4 (N (a + 1))) 6 = σ 6 := funext (fun k => by rw [up_c (by decide), up_c (by decide)])
        have i := ih (a + 1) v (sg_up (sg_up σ 5 3 (-1)) 5 4 (N (a + 1))) up_eq (by rw [up_k (by decide), up_k (by decide)]; exact ht) (by rw [up_k (by decide), up_k (by decide)]; exact hp) (fun z => by omega) (fun _ => by rw [up_k (by decide), up_eq]) (by omega) (by omega) (by omega)
        rw [e6] at i
        rw [et]
        exact i
      · rw [if_neg (by exact g_nle (L := 4) (by omega) (by decide)), if_neg one_nz, if_neg g4]
        have eb : σ 6 a = N (48 + (ni (σ 6 a) - 48)) := by
          rw [show 48 + (ni (σ 6 a) - 48) = ni (σ 6 a) by omega]
          exact eb0.symm
        have ev : 10 * N v + σ 6 a - 48 = N (10 * v + (ni (σ 6 a) - 48)) := by
          rw [show (10 : Int32) = N 10 from rfl, show (48 : Int32) = N 48 from rfl, N_mul]
          rw [show N (10 * v) + σ 6 a = N (10 * v + (48 + (ni (σ 6 a) - 48))) by rw [← N_add, ← eb], N_sub (by omega)]
          congr 1
          omega
        have et : t_X3_readNumber_2 σ 1 = sg_up (sg_up σ 5 3 (N (10 * v + (ni (σ 6 a) - 48)))) 5 4 (N (a + 1)) := by
          unfold t_X3_readNumber_2 t_X3_readNumber_1
          rw [hv (by omega), ha, byteAt_in ht h5 (by omega), ev, up_k (by decide), ha, N_inc]
        have e6 : (sg_up (sg_up σ 5 3 (N (10 * v + (ni (σ 6 a) - 48)))) 5 4 (N (a + 1))) 6 = σ 6 := funext (fun k => by rw [up_c (by decide), up_c (by decide)])
        have i := ih (a + 1) (10 * v + (ni (σ 6 a) - 48)) (sg_up (sg_up σ 5 3 (N (10 * v + (ni (σ 6 a) - 48)))) 5 4 (N (a + 1))) up_eq (by rw [up_k (by decide), up_k (by decide)]; exact ht) (by rw [up_k (by decide), up_k (by decide)]; exact hp) (fun _ => by rw [up_k (by decide), up_eq]) (fun z => by omega) (by omega) (by omega) (by omega)
        rw [e6] at i
        rw [et]
        exact i
    · have hz : dgE (σ 6) (t - a) a = a ∧ dgV (σ 6) p (t - a) a v = v := by
        rw [hd, dgE_s, if_neg hD, dgV_s, if_neg hD]
        exact ⟨rfl, rfl⟩
      by_cases g1 : σ 6 a < 48
      · rw [if_pos g1]; exact hstop hz.1 hz.2
      · rw [if_neg g1]
        have h48 : 48 ≤ ni (σ 6 a) := by
          have hz : ¬ ni (σ 6 a) < 48 := fun z => g1 (l1.mpr z)
          omega
        rw [if_pos (by
          rw [← ni_pos (x := σ 6 a) (by omega)]
          exact g_lt (a := 57) (by omega) ni_lt)]
        exact hstop hz.1 hz.2
theorem cnum_ok {σ : sg_S} {a t : Nat} (ha : σ 5 4 = N a) (ht : σ 5 1 = N t) (hat : a ≤ t) (h5 : t ≤ 500) {p e v : Nat} (hp : skp (σ 6) (t - a) a = p) (he : dgE (σ 6) (t - p) p = e) (hv : dgV (σ 6) p (t - p) p 0 = v) :
    (r_X3_readNumber σ).1 = (if p < e then 1 else 0) ∧ (r_X3_readNumber σ).2 5 4 = N e ∧ (r_X3_readNumber σ).2 5 2 = N p ∧ (e - p ≤ 4 → (r_X3_readNumber σ).2 5 3 = N v) ∧ (¬ e - p ≤ 4 → (r_X3_readNumber σ).2 5 3 = -1) := by
  obtain ⟨s1, s2, s3, -⟩ := cseek_ok ha ht hat h5
  have e6 : (sg_up (r_X3_seek σ).2 5 3 0) 6 = σ 6 := funext (fun k => by rw [up_c (by decide), K_seek.row (σ := σ) (q := 6) (by decide)])
  have hpl := skp_le (B := σ 6) (t - a) a
  rw [hp] at s2 s3 hpl
  have i := cnum10 (p := p) h5 600 p 0 (sg_up (r_X3_seek σ).2 5 3 0) (by rw [up_k (by decide)]; exact s2) (by rw [up_k (by decide), K_seek 5 1 (by decide)]; exact ht) (by rw [up_k (by decide)]; exact s3) (fun _ => up_eq) (fun z => absurd (by omega) z) (Nat.le_refl _) (by omega) (by omega)
  rw [e6, he, hv] at i
  exact i
/-! the word row -/
theorem cword9 {t : Nat} (h5 : t ≤ 500) : ∀ (n a : Nat) (σ : sg_S), σ 5 4 = N a → σ 5 1 = N t → a ≤ t → t - a < n → r_X3_readRowWord_l9 n σ = r_X3_readRowWord_a59 (sg_up σ 5 4 (N (lwE (σ 6) (t - a) a))) := by
  intro n
  induction n with
  | zero => intro a σ _ _ _ hn; omega
  | succ n ih =>
    intro a σ ha ht hat hn
    show r_X3_readRowWord_b9 (r_X3_readRowWord_l9 n) σ = _
    unfold r_X3_readRowWord_b9
    rw [ha, ht]
    by_cases e : a = t
    · rw [if_pos (by rw [e]; exact Int32.le_refl _), e, Nat.sub_self, show lwE (σ 6) 0 t = t from rfl, up_self (by rw [ha, e])]
    obtain ⟨d, hd⟩ : ∃ d, t - a = d + 1 := ⟨t - a - 1, by omega⟩
    have hd2 : t - (a + 1) = d := by omega
    rw [if_neg (g_nle (by omega) (by omega)), byteAt_in ht h5 (by omega)]
    have l1 := lt_ni (x := σ 6 a) (a := 97) (by decide) (by decide)
    by_cases hD : 97 ≤ ni (σ 6 a) ∧ ni (σ 6 a) ≤ 122
    · have eb0 := ni_pos (x := σ 6 a) (by omega)
      rw [if_neg (fun z => by have := l1.mp z; omega), if_neg (by
        rw [← eb0]
        exact g_nlt (L := 122) hD.2 (by decide)), N_inc]
      have e6 : (sg_up σ 5 4 (N (a + 1))) 6 = σ 6 := funext (fun k => up_c (by decide))
      have i := ih (a + 1) (sg_up σ 5 4 (N (a + 1))) up_eq (by rw [up_k (by decide)]; exact ht) (by omega) (by omega)
      rw [e6, up_up, hd2] at i
      rw [hd, lwE_s, if_pos hD]
      exact i
    · rw [hd, lwE_s, if_neg hD, up_self ha]
      by_cases g1 : σ 6 a < 97
      · rw [if_pos g1]
      · rw [if_neg g1]
        have h97 : 97 ≤ ni (σ 6 a) := by
          have hz : ¬ ni (σ 6 a) < 97 := fun z => g1 (l1.mpr z)
          omega
        rw [if_pos (by
          rw [← ni_pos (x := σ 6 a) (by omega)]
          exact g_lt (a := 122) (by omega) ni_lt)]
/-- a word that is row -/
def isRow (B : Nat → Int32) (p le : Nat) : Prop := le - p = 3 ∧ B p = 114 ∧ B (p + 1) = 111 ∧ B (p + 2) = 119
theorem cword_ok {σ : sg_S} {a t : Nat} (ha : σ 5 4 = N a) (ht : σ 5 1 = N t) (hat : a ≤ t) (h5 : t ≤ 500) {p le : Nat} (hp : skp (σ 6) (t - a) a = p) (hle : lwE (σ 6) (t - p) p = le) :
    (r_X3_readRowWord σ).2 5 2 = N p ∧ (isRow (σ 6) p le → (r_X3_readRowWord σ).1 = 1 ∧ (r_X3_readRowWord σ).2 5 4 = N le) ∧ (¬ isRow (σ 6) p le → (r_X3_readRowWord σ).1 = 0) := by
  obtain ⟨s1, s2, s3, -⟩ := cseek_ok ha ht hat h5
  have hpl := skp_le (B := σ 6) (t - a) a
  rw [hp] at s1 s2 s3 hpl
  have hll := lwE_le (B := σ 6) (t - p) p
  rw [hle] at hll
  have e6 : (r_X3_seek σ).2 6 = σ 6 := K_seek.row (by decide)
  have t1 : (r_X3_seek σ).2 5 1 = N t := by rw [K_seek 5 1 (by decide)]; exact ht
  unfold r_X3_readRowWord
  by_cases g : p < t
  · rw [if_pos g] at s1
    rw [s1, if_pos one_nz]
    have i := cword9 h5 600 p (r_X3_seek σ).2 s2 t1 (by omega) (by omega)
    rw [e6, hle] at i
    rw [i]
    have f4 : (sg_up (r_X3_seek σ).2 5 4 (N le)) 5 4 = N le := up_eq
    have f2 : (sg_up (r_X3_seek σ).2 5 4 (N le)) 5 2 = N p := by rw [up_k (by decide)]; exact s3
    have f1 : (sg_up (r_X3_seek σ).2 5 4 (N le)) 5 1 = N t := by rw [up_k (by decide)]; exact t1
    have f6 : (sg_up (r_X3_seek σ).2 5 4 (N le)) 6 = σ 6 := funext (fun k => by rw [up_c (by decide), e6])
    refine ⟨by rw [K_word_a59]; exact f2, fun hr => ?_, fun hr => ?_⟩
    · obtain ⟨r1, r2, r3, r4⟩ := hr
      refine ⟨?_, by rw [K_word_a59]; exact f4⟩
      unfold r_X3_readRowWord_a59
      rw [f4, f2, N_sub hll.1, if_neg (by rw [r1]; exact fun z => z rfl), byteAt_in f1 h5 (by omega), f6, if_neg (fun z => z r2), show N p + 1 = N (p + 1) from N_add p 1, byteAt_in f1 h5 (by omega), f6, if_neg (fun z => z r3), show N p + 2 = N (p + 2) from N_add p 2, byteAt_in f1 h5 (by omega), f6, if_neg (fun z => z r4)]
    · unfold r_X3_readRowWord_a59
      rw [f4, f2, N_sub hll.1]
      by_cases r1 : le - p = 3
      · rw [if_neg (by rw [r1]; exact fun z => z rfl), byteAt_in f1 h5 (by omega), f6]
        by_cases r2 : σ 6 p = 114
        · rw [if_neg (fun z => z r2), show N p + 1 = N (p + 1) from N_add p 1, byteAt_in f1 h5 (by omega), f6]
          by_cases r3 : σ 6 (p + 1) = 111
          · rw [if_neg (fun z => z r3), show N p + 2 = N (p + 2) from N_add p 2, byteAt_in f1 h5 (by omega), f6]
            by_cases r4 : σ 6 (p + 2) = 119
            · exact absurd ⟨r1, r2, r3, r4⟩ hr
            · rw [if_pos r4]
          · rw [if_pos r3]
        · rw [if_pos r2]
      · rw [if_pos (by
          show ¬ N (le - p) = N 3
          rw [N_eq (by omega) (by decide)]; exact r1)]
  · rw [if_neg g] at s1
    rw [s1, if_neg (fun z => z rfl)]
    exact ⟨s3, fun hr => absurd hr.1 (by omega), fun _ => rfl⟩
end
section
/-! BOTH READ THE SAME TABLE -/
theorem nn0 : ¬ ¬ (0 : Int32) = 0 := fun z => z rfl
theorem skp_congr {B B' : Nat → Int32} : ∀ (n a : Nat), (∀ j, j < a + n → B j = B' j) → skp B n a = skp B' n a := by
  intro n
  induction n with
  | zero => intro a _; rfl
  | succ n ih =>
    intro a h
    rw [skp_s, skp_s, h a (by omega), ih (a + 1) (fun j hj => h j (by omega))]
theorem dgE_congr {B B' : Nat → Int32} : ∀ (n a : Nat), (∀ j, j < a + n → B j = B' j) → dgE B n a = dgE B' n a := by
  intro n
  induction n with
  | zero => intro a _; rfl
  | succ n ih =>
    intro a h
    rw [dgE_s, dgE_s, h a (by omega), ih (a + 1) (fun j hj => h j (by omega))]
theorem dgV_congr {B B' : Nat → Int32} {p : Nat} : ∀ (n a v : Nat), (∀ j, j < a + n → B j = B' j) → dgV B p n a v = dgV B' p n a v := by
  intro n
  induction n with
  | zero => intro a v _; rfl
  | succ n ih =>
    intro a v h
    rw [dgV_s, dgV_s, h a (by omega), ih (a + 1) _ (fun j hj => h j (by omega))]
theorem lwE_congr {B B' : Nat → Int32} : ∀ (n a : Nat), (∀ j, j < a + n → B j = B' j) → lwE B n a = lwE B' n a := by
  intro n
  induction n with
  | zero => intro a _; rfl
  | succ n ih =>
    intro a h
    rw [lwE_s, lwE_s, h a (by omega), ih (a + 1) (fun j hj => h j (by omega))]
/-- both stand at the same place of the same text -/
def Pos (σ τ : sg_S) (t a : Nat) : Prop := σ 5 4 = N a ∧ σ 5 1 = N t ∧ τ 35 28 = N a ∧ τ 35 26 = N t ∧ a ≤ t ∧ t ≤ 500 ∧ ∀ j, j < t → τ 57 j = σ 6 j
theorem faultHere_eq {σ : sg_S} {kd p : Nat} (h : σ 5 2 = N p) : v_X4_faultHere σ (N kd) = N (kd + 8 * p) := by
  unfold v_X4_faultHere
  rw [h, show (8 : Int32) = N 8 from rfl, N_mul, N_add]
/-- a number, read by both -/
theorem num_both {σ τ : sg_S} {t a : Nat} (h : Pos σ τ t a) : ∃ p e v, a ≤ p ∧ p ≤ e ∧ e ≤ t ∧ v < 10000 ∧
    ((p < e ∧ e - p ≤ 4 ∧ (r_X3_readNumber σ).1 = 1 ∧ (r_X3_readNumber σ).2 5 3 = N v ∧ (r_X3_readNumber σ).2 5 2 = N p ∧ (r_X5_readNumber τ).1 = 1 ∧ (r_X5_readNumber τ).2 35 30 = N v ∧ (r_X5_readNumber τ).2 35 32 = N p ∧ (r_X5_readNumber τ).2 35 29 = τ 35 29 ∧ Pos (r_X3_readNumber σ).2 (r_X5_readNumber τ).2 t e) ∨
     (p < e ∧ ¬ e - p ≤ 4 ∧ (r_X3_readNumber σ).1 = 1 ∧ (r_X3_readNumber σ).2 5 3 = -1 ∧ (r_X3_readNumber σ).2 5 2 = N p ∧ (r_X5_readNumber τ).1 = 0 ∧ (r_X5_readNumber τ).2 35 29 = N (2 + 8 * p)) ∨
     ((r_X3_readNumber σ).1 = 0 ∧ (r_X3_readNumber σ).2 5 2 = N p ∧ (r_X5_readNumber τ).1 = 0 ∧ (r_X5_readNumber τ).2 35 29 = N (1 + 8 * p))) := by
  obtain ⟨h1, h2, h3, h4, h5, h6, h7⟩ := h
  have eB : ∀ j, j < t → σ 6 j = τ 57 j := fun j hj => (h7 j hj).symm
  have hpl := skp_le (B := σ 6) (t - a) a
  have hel := dgE_le (B := σ 6) (t - skp (σ 6) (t - a) a) (skp (σ 6) (t - a) a)
  have ep : skp (τ 57) (t - a) a = skp (σ 6) (t - a) a := skp_congr _ _ (fun j hj => h7 j (by omega))
  have ee : dgE (τ 57) (t - skp (σ 6) (t - a) a) (skp (σ 6) (t - a) a) = dgE (σ 6) (t - skp (σ 6) (t - a) a) (skp (σ 6) (t - a) a) := dgE_congr _ _ (fun j hj => h7 j (by omega))
  have ev : dgV (τ 57) (skp (σ 6) (t - a) a) (t - skp (σ 6) (t - a) a) (skp (σ 6) (t - a) a) 0 = dgV (σ 6) (skp (σ 6) (t - a) a) (t - skp (σ 6) (t - a) a) (skp (σ 6) (t - a) a) 0 := dgV_congr _ _ _ (fun j hj => h7 j (by omega))
  obtain ⟨c1, c2, c3, c4, c5⟩ := cnum_ok h1 h2 h5 h6 rfl rfl rfl
  obtain ⟨n1, n2, n3, n4, n5, n6⟩ := rnum_ok h3 h4 h5 h6 ep ee ev
  refine ⟨skp (σ 6) (t - a) a, dgE (σ 6) (t - skp (σ 6) (t - a) a) (skp (σ 6) (t - a) a), dgV (σ 6) (skp (σ 6) (t - a) a) (t - skp (σ 6) (t - a) a) (skp (σ 6) (t - a) a) 0, hpl.1, hel.1, by omega, dgV_9999, ?_⟩
  by_cases g : skp (σ 6) (t - a) a < dgE (σ 6) (t - skp (σ 6) (t - a) a) (skp (σ 6) (t - a) a)
  · rw [if_pos g] at c1
    by_cases g4 : dgE (σ 6) (t - skp (σ 6) (t - a) a) (skp (σ 6) (t - a) a) - skp (σ 6) (t - a) a ≤ 4
    · obtain ⟨m1, m2, m3, m4⟩ := n4 g g4
      refine Or.inl ⟨g, g4, c1, c4 g4, c3, m1, m2, m3, m4, c2, ?_, n3, ?_, by omega, h6, fun j hj => ?_⟩
      · rw [K_num 5 1 (by decide)]; exact h2
      · rw [n2 35 26 (by decide)]; exact h4
      · rw [n2.row (q := 57) (by decide), K_num.row (σ := σ) (q := 6) (by decide)]; exact h7 j hj
    · obtain ⟨m1, m2⟩ := n5 g g4
      exact Or.inr (Or.inl ⟨g, g4, c1, c5 g4, c3, m1, m2⟩)
  · rw [if_neg g] at c1
    obtain ⟨m1, m2⟩ := n6 g
    exact Or.inr (Or.inr ⟨c1, c3, m1, m2⟩)
/-- what a row leaves in both -/
def RowO (t a c : Nat) (z : Int32) (rc rr : Int32 × sg_S) : Prop :=
  (∃ V a', rc.1 = 0 ∧ rr.1 = 1 ∧ TabAt rc.2 3 V ∧ TabAt rr.2 38 V ∧ GoodV V ∧ Pos rc.2 rr.2 t a' ∧ a ≤ a' ∧ rr.2 35 31 = N (c + 1) ∧ rr.2 35 29 = z) ∨ (∃ f, 0 < f ∧ f < 10000 ∧ rc.1 = N f ∧ rr.1 = 0 ∧ rr.2 35 29 = N f)
theorem RowO.le {t a a1 c : Nat} {z : Int32} {rc rr : Int32 × sg_S} (h : RowO t a1 c z rc rr) (ha : a ≤ a1) : RowO t a c z rc rr := by
  rcases h with ⟨V, a', h1, h2, h3, h4, h5, h6, h7, h8⟩ | h
  · exact Or.inl ⟨V, a', h1, h2, h3, h4, h5, h6, by omega, h8⟩
  · exact Or.inr h
theorem stand1 {k v : Nat} (hk : 1 ≤ k) (hk5 : k < 5) (hv : v < 10000) : (¬ v_X2_canStandInRow (N k) (N v) = 0) ↔ (1 ≤ v ∧ v ≤ 1000) := by
  unfold v_X2_canStandInRow
  rw [if_pos (N_nz (by omega) (by omega))]
  by_cases g1 : v < 1
  · rw [if_pos (by exact g_lt (L := 1) g1 (by decide))]; exact ⟨fun z => absurd rfl z, fun z => by omega⟩
  · rw [if_neg (by
      show ¬ N v < N 1
      rw [N_lt (by omega) (by decide)]; exact g1)]
    by_cases g2 : 1000 < v
    · rw [if_pos (by exact g_lt (a := 1000) g2 (by omega))]; exact ⟨fun z => absurd rfl z, fun z => by omega⟩
    · rw [if_neg (by exact g_nlt (L := 1000) (by omega) (by decide))]; exact ⟨fun _ => by omega, fun _ => one_nz⟩
theorem row_k {t w c : Nat} {z : Int32} (hw : w < 10) : ∀ (m n k a : Nat) (σ τ : sg_S) (V : Nat → Nat), 1 ≤ k → k ≤ 5 → 5 - k < m → 5 - k < n → Pos σ τ t a → TabAt σ 3 V → TabAt τ 38 V → GoodV V → τ 35 31 = N c → τ 35 29 = z → RowO t a c z (r_X4_readRow_l20 m σ (N w) (N k)) (r_X5_readRow_l158 n τ (N w) (N k)) := by
  intro m
  induction m with
  | zero => intro n k a σ τ V _ _ hm; omega
  | succ m ih =>
    intro n k a σ τ V hk1 hk5 hm hn hP hV hW hG hc hzz
    cases n with
    | zero => omega
    | succ n =>
    show RowO t a c z (r_X4_readRow_b20 (r_X4_readRow_l20 m) σ (N w) (N k)) (r_X5_readRow_b158 (r_X5_readRow_l158 n) τ (N w) (N k))
    unfold r_X4_readRow_b20 r_X5_readRow_b158
    obtain ⟨h1, h2, h3, h4, h5, h6, h7⟩ := id hP
    by_cases e : k = 5
    · have hc5 : (5 : Int32) ≤ N k := (N14 (L := 5) hk5 (by decide)).mpr e
      have hc4 : (4 : Int32) < N k := by
        show N 4 < N k
        exact g_lt (by omega) (by omega)
      rw [if_pos hc5, if_pos hc4]
      have ep : skp (τ 57) (t - a) a = skp (σ 6) (t - a) a := skp_congr _ _ (fun j hj => h7 j (by omega))
      have hpl := skp_le (B := σ 6) (t - a) a
      obtain ⟨b1, b2, b3⟩ := cbyte_ok (x := 59) h1 h2 h5 h6
      obtain ⟨g1, g2, g3⟩ := here_ok h3 h4 h5 h6
      rw [ep] at g2 g3
      have e28 : (r_X5_here τ).2 35 28 = N (skp (σ 6) (t - a) a) := by rw [g3]; exact up_eq
      by_cases g : skp (σ 6) (t - a) a < t ∧ σ 6 (skp (σ 6) (t - a) a) = 59
      · obtain ⟨c1, c2⟩ := b2 g.1 g.2
        rw [c1, if_neg one_nz, g2, if_pos g.1, h7 _ g.1, if_pos g.2]
        have et : t_X5_readRow_1 τ (N w) (N k) = sg_up (sg_up τ 35 28 (N (skp (σ 6) (t - a) a + 1))) 35 31 (N (c + 1)) := by
          unfold t_X5_readRow_1 t_X5_readRow_0
          rw [e28, g3, up_up, N_inc, up_k (by decide), hc, N_inc]
        refine Or.inl ⟨V, skp (σ 6) (t - a) a + 1, rfl, rfl, TabAt_row hV (K_readByte.row (by decide)), ?_, hG, ⟨c2, ?_, ?_, ?_, by omega, h6, fun j hj => ?_⟩, by omega, ?_, ?_⟩
        · dsimp only; rw [et]; exact TabAt_up (TabAt_up hW (by decide)) (by decide)
        · rw [K_readByte 5 1 (by decide)]; exact h2
        · dsimp only; rw [et, up_k (by decide), up_eq]
        · dsimp only; rw [et, up_k (by decide), up_k (by decide)]; exact h4
        · dsimp only; rw [et, up_c (by decide), up_c (by decide), K_readByte.row (σ := σ) (q := 6) (by decide)]; exact h7 j hj
        · dsimp only; rw [et, up_eq]
        · dsimp only; rw [et, up_k (by decide), up_k (by decide)]; exact hzz
      · have c1 := b3 g
        have hne : ¬ (r_X5_here τ).1 = 59 := by
          rw [g2]
          by_cases gt : skp (σ 6) (t - a) a < t
          · rw [if_pos gt, h7 _ gt]; exact fun z => g ⟨gt, z⟩
          · rw [if_neg gt]; decide
        rw [c1, if_pos rfl, if_neg hne, e28]
        refine Or.inr ⟨1 + 8 * skp (σ 6) (t - a) a, by omega, by omega, faultHere_eq (kd := 1) b1, rfl, ?_⟩
        show (r_X5_fails (r_X5_here τ).2 1 ((r_X5_here τ).2 35 28)).2 35 29 = _
        rw [e28, show (1 : Int32) = N 1 from rfl, rfails_eq]
        dsimp only; exact up_eq
    · have hc5 : ¬ (5 : Int32) ≤ N k := fun z => e ((N14 (L := 5) hk5 (by decide)).mp z)
      have hc4 : ¬ (4 : Int32) < N k := by
        show ¬ N 4 < N k
        exact g_nlt (by omega) (by decide)
      rw [if_neg hc5, if_neg hc4, N_inc]
      obtain ⟨p, e', v, q1, q2, q3, q4, q⟩ := num_both hP
      rcases q with ⟨r1, r2, r3, r4, r5, r6, r7, r8, r10, r9⟩ | ⟨r1, r2, r3, r4, r5, r6, r7⟩ | ⟨r3, r5, r6, r7⟩
      · rw [r3, if_pos one_nz, r6, if_pos one_nz, r4, r7]
        have hst := stand1 hk1 (by omega) q4
        have hin := in_ni (x := N v) (lo := 1) (hi := 1000) (by decide) (by decide) (by decide)
        rw [ni_N (by omega)] at hin
        have hin : (¬ v_X5_in (N v) 1 1000 = 0) ↔ (1 ≤ v ∧ v ≤ 1000) := hin
        by_cases g : 1 ≤ v ∧ v ≤ 1000
        · rw [if_pos (hst.mpr g), if_pos (hin.mpr g), if_pos (N_nz (by omega) (by omega))]
          have hV1 : TabAt (r_X3_readNumber σ).2 3 V := TabAt_row hV (K_num.row (by decide))
          have ec : t_X4_readRow_0 σ (N w) (N k) = sg_up (r_X3_readNumber σ).2 3 (5 * w + k) (N v) := by
            unfold t_X4_readRow_0 s_X2_propose
            rw [r4, if_neg (N_nn (by omega)), if_neg (by exact g_nle (L := 10) hw (by decide)), if_neg (by
              show ¬ N k < N 1
              rw [N_lt (by omega) (by decide)]; omega), if_neg hc5, show 5 * N w + N k = N (5 * w + k) by rw [show (5 : Int32) = N 5 from rfl, N_mul, N_add], ni_N (by omega)]
          have er : t_X5_readRow_3 τ (N w) (N k) = sg_up (r_X5_readNumber τ).2 38 (5 * w + k) (N v) := by
            unfold t_X5_readRow_3
            rw [r7, show 5 * N w + N k = N (5 * w + k) by rw [show (5 : Int32) = N 5 from rfl, N_mul, N_add], ni_N (by omega)]
          obtain ⟨p1, p2, p3, p4, p5, p6, p7⟩ := id r9
          have n2 := (rnum_ok h3 h4 h5 h6 rfl rfl rfl).2.1
          have i := ih n (k + 1) e' (t_X4_readRow_0 σ (N w) (N k)) (t_X5_readRow_3 τ (N w) (N k)) (du V (5 * w + k) v) (by omega) (by omega) (by omega) (by omega) (by
            rw [ec, er]
            exact ⟨by rw [up_c (by decide)]; exact p1, by rw [up_c (by decide)]; exact p2, by rw [up_c (by decide)]; exact p3, by rw [up_c (by decide)]; exact p4, p5, p6, fun j hj => by rw [up_c (by decide), up_c (by decide)]; exact p7 j hj⟩) (by rw [ec]; exact TabAt_du hV1) (by rw [er]; exact TabAt_du (TabAt_row hW (n2.row (by decide)))) (GoodV_du hG hw hk1 (by omega) g.1 g.2) (by rw [er, up_c (by decide), n2 35 31 (by decide)]; exact hc) (by rw [er, up_c (by decide), r10]; exact hzz)
          exact i.le (by omega)
        · rw [if_neg (fun z => g (hst.mp z)), if_neg (fun z => g (hin.mp z))]
          refine Or.inr ⟨2 + 8 * p, by omega, by omega, faultHere_eq (kd := 2) r5, rfl, ?_⟩
          show (r_X5_fails (r_X5_readNumber τ).2 2 ((r_X5_readNumber τ).2 35 32)).2 35 29 = _
          rw [r8, show (2 : Int32) = N 2 from rfl, rfails_eq]
          dsimp only; exact up_eq
      · rw [r3, if_pos one_nz, r6, if_neg nn0, r4, if_neg (by
          unfold v_X2_canStandInRow
          rw [if_pos (N_nz (by omega) (by omega)), if_pos (by decide)]
          exact fun z => z rfl)]
        exact Or.inr ⟨2 + 8 * p, by omega, by omega, faultHere_eq (kd := 2) r5, rfl, r7⟩
      · rw [r3, if_neg nn0, r6, if_neg nn0]
        exact Or.inr ⟨1 + 8 * p, by omega, by omega, faultHere_eq (kd := 1) r5, rfl, r7⟩
/-- a row, read by both -/
theorem row_both {σ τ : sg_S} {t a c : Nat} {z : Int32} {V : Nat → Nat} (hP : Pos σ τ t a) (hV : TabAt σ 3 V) (hW : TabAt τ 38 V) (hG : GoodV V) (hc : τ 35 31 = N c) (hzz : τ 35 29 = z) : RowO t a c z (r_X4_readRow σ) (r_X5_readRow τ) ∧ ((r_X4_readRow σ).1 = 0 → RowO t (a + 3) c z (r_X4_readRow σ) (r_X5_readRow τ)) := by
  obtain ⟨h1, h2, h3, h4, h5, h6, h7⟩ := id hP
  have ep : skp (τ 57) (t - a) a = skp (σ 6) (t - a) a := skp_congr _ _ (fun j hj => h7 j (by omega))
  have hpl := skp_le (B := σ 6) (t - a) a
  obtain ⟨g1, g2, g3⟩ := here_ok h3 h4 h5 h6
  rw [ep] at g2 g3
  generalize hp : skp (σ 6) (t - a) a = p at *
  have elw : lwE (τ 57) (t - p) p = lwE (σ 6) (t - p) p := lwE_congr _ _ (fun j hj => h7 j (by omega))
  have hll := lwE_le (B := σ 6) (t - p) p
  generalize hle : lwE (σ 6) (t - p) p = le at *
  have e28 : (r_X5_here τ).2 35 28 = N p := by rw [g3]; exact up_eq
  have e26 : (r_X5_here τ).2 35 26 = N t := by rw [g3, up_k (by decide)]; exact h4
  have e57 : (r_X5_here τ).2 57 = τ 57 := by rw [g3]; exact funext (fun j => up_c (by decide))
  obtain ⟨w1, w2, w3⟩ := cword_ok h1 h2 h5 h6 hp hle
  have hfail : ∀ rr : Int32 × sg_S, rr.1 = 0 → rr.2 35 29 = N (1 + 8 * p) → (r_X3_readRowWord σ).1 = 0 → RowO t a c z (r_X4_readRow σ) rr ∧ ((r_X4_readRow σ).1 = 0 → RowO t (a + 3) c z (r_X4_readRow σ) rr) := by
    intro rr z1 z2 z3
    have ec : (r_X4_readRow σ).1 = N (1 + 8 * p) := by
      unfold r_X4_readRow
      rw [z3, if_neg nn0]
      exact faultHere_eq (kd := 1) w1
    refine ⟨Or.inr ⟨1 + 8 * p, by omega, by omega, ec, z1, z2⟩, fun z => ?_⟩
    rw [ec] at z
    exact absurd z (N_nz (by omega) (by omega))
  have hin := in_ni (x := τ 57 p) (lo := 97) (hi := 122) (by decide) (by decide) (by decide)
  by_cases gl : p < t ∧ (97 ≤ ni (τ 57 p) ∧ ni (τ 57 p) ≤ 122)
  · have hz : ¬ v_X5_in (r_X5_here τ).1 97 122 = 0 := by
      rw [g2, if_pos gl.1]; exact hin.mpr gl.2
    have er : r_X5_readRow τ = r_X5_readRow_a72 (sg_up (r_X5_here τ).2 35 28 (N le)) (N p) := by
      unfold r_X5_readRow
      rw [if_pos hz, e28]
      have l2 := (lw29 (x1 := N p) h6 600 p (r_X5_here τ).2 e28 e26 (by omega) (by omega)).2
      rw [e57, elw] at l2
      exact l2
    rw [er]
    have f28 : (sg_up (r_X5_here τ).2 35 28 (N le)) 35 28 = N le := up_eq
    have f26 : (sg_up (r_X5_here τ).2 35 28 (N le)) 35 26 = N t := by rw [up_k (by decide)]; exact e26
    have f57 : (sg_up (r_X5_here τ).2 35 28 (N le)) 57 = τ 57 := funext (fun j => by rw [up_c (by decide), e57])
    by_cases hr : isRow (σ 6) p le
    · obtain ⟨w4, w5⟩ := w2 hr
      obtain ⟨r1, r2, r3, r4⟩ := hr
      have b1 : τ 57 p = 114 := by rw [h7 p (by omega)]; exact r2
      have b2 : τ 57 (p + 1) = 111 := by rw [h7 _ (by omega)]; exact r3
      have b3 : τ 57 (p + 2) = 119 := by rw [h7 _ (by omega)]; exact r4
      have hP1 : Pos (r_X3_readRowWord σ).2 (sg_up (r_X5_here τ).2 35 28 (N le)) t le := by
        refine ⟨w5, ?_, f28, f26, by omega, h6, fun j hj => ?_⟩
        · rw [K_word 5 1 (by decide)]; exact h2
        · rw [f57, K_word.row (σ := σ) (q := 6) (by decide)]; exact h7 j hj
      have hV1 : TabAt (r_X3_readRowWord σ).2 3 V := TabAt_row hV (K_word.row (by decide))
      have hW1 : TabAt (sg_up (r_X5_here τ).2 35 28 (N le)) 38 V := by rw [g3]; exact TabAt_up (TabAt_up hW (by decide)) (by decide)
      have hz1 : (sg_up (r_X5_here τ).2 35 28 (N le)) 35 29 = z := by rw [up_k (by decide), g3, up_k (by decide)]; exact hzz
      have hc1 : (sg_up (r_X5_here τ).2 35 28 (N le)) 35 31 = N c := by rw [up_k (by decide), g3, up_k (by decide)]; exact hc
      have ec : r_X4_readRow σ = r_X4_readRow_l20 600 (r_X3_readRowWord σ).2 0 0 := by
        unfold r_X4_readRow
        rw [w4, if_pos one_nz]
      have key : RowO t le c z (r_X4_readRow σ) (r_X5_readRow_a72 (sg_up (r_X5_here τ).2 35 28 (N le)) (N p)) := by
        rw [ec]
        show RowO t le c z (r_X4_readRow_b20 (r_X4_readRow_l20 599) (r_X3_readRowWord σ).2 0 0) _
        unfold r_X4_readRow_b20 r_X5_readRow_a72
        rw [if_neg (by decide), f28, N_sub hll.1, r1, if_neg (show ¬ ¬ N 3 = (3 : Int32) from fun z => z rfl), f57, ni_N (by omega), if_neg (show ¬ ¬ τ 57 p = 114 from fun z => z b1), show N p + 1 = N (p + 1) from N_add p 1, ni_N (by omega), if_neg (show ¬ ¬ τ 57 (p + 1) = 111 from fun z => z b2), show N p + 2 = N (p + 2) from N_add p 2, ni_N (by omega), if_pos b3]
        obtain ⟨p', e', v, q1, q2, q3, q4, q⟩ := num_both hP1
        rcases q with ⟨s1, s2, s3, s4, s5, s6, s7, s8, s10, s9⟩ | ⟨s1, s2, s3, s4, s5, s6, s7⟩ | ⟨s3, s5, s6, s7⟩
        · rw [s3, if_pos one_nz, s6, if_pos one_nz, s4, s7]
          by_cases g : v < 10
          · have hst : ¬ v_X2_canStandInRow 0 (N v) = 0 := by
              unfold v_X2_canStandInRow
              rw [if_neg nn0, if_neg (N_nn (by omega)), if_neg (by exact g_nle (L := 10) g (by decide))]
              exact one_nz
            rw [if_pos hst, if_neg nn0, if_pos (by exact g_lt (L := 10) g (by decide))]
            have n2 := (rnum_ok (σ := sg_up (r_X5_here τ).2 35 28 (N le)) f28 f26 (by omega) h6 rfl rfl rfl).2.1
            have key1 : ∀ o o' : Int32, o = N 1 → o' = N 1 → RowO t e' c z (r_X4_readRow_l20 599 (r_X3_readNumber (r_X3_readRowWord σ).2).2 (N v) o) (r_X5_readRow_l158 600 (r_X5_readNumber (sg_up (r_X5_here τ).2 35 28 (N le))).2 (N v) o') := by
              intro o o' ho ho'
              rw [ho, ho']
              exact row_k (c := c) (z := z) g 599 600 1 e' _ _ V (by decide) (by decide) (by decide) (by decide) s9 (TabAt_row hV1 (K_num.row (by decide))) (TabAt_row hW1 (n2.row (by decide))) hG (by rw [n2 35 31 (by decide)]; exact hc1) (by rw [s10]; exact hz1)
            exact (key1 (0 + 1) 1 (by decide) rfl).le (by omega)
          · have hst : v_X2_canStandInRow 0 (N v) = 0 := by
              unfold v_X2_canStandInRow
              rw [if_neg nn0, if_neg (N_nn (by omega)), if_pos (by exact g_le (a := 10) (by omega) (by omega))]
            rw [if_neg (fun z => z hst), if_neg (by
              show ¬ N v < N 10
              rw [N_lt (by omega) (by decide)]; exact g)]
            refine Or.inr ⟨2 + 8 * p', by omega, by omega, faultHere_eq (kd := 2) s5, rfl, ?_⟩
            show (r_X5_fails (r_X5_readNumber (sg_up (r_X5_here τ).2 35 28 (N le))).2 2 ((r_X5_readNumber (sg_up (r_X5_here τ).2 35 28 (N le))).2 35 32)).2 35 29 = _
            rw [s8, show (2 : Int32) = N 2 from rfl, rfails_eq]
            dsimp only; exact up_eq
        · rw [s3, if_pos one_nz, s6, if_neg nn0, s4, if_neg (by
            unfold v_X2_canStandInRow
            rw [if_neg nn0, if_pos (by decide)]
            exact fun z => z rfl)]
          exact Or.inr ⟨2 + 8 * p', by omega, by omega, faultHere_eq (kd := 2) s5, rfl, s7⟩
        · rw [s3, if_neg nn0, s6, if_neg nn0]
          exact Or.inr ⟨1 + 8 * p', by omega, by omega, faultHere_eq (kd := 1) s5, rfl, s7⟩
      exact ⟨key.le (by omega), fun _ => key.le (by omega)⟩
    · have w4 := w3 hr
      refine hfail _ ?_ ?_ w4
      · unfold r_X5_readRow_a72
        rw [f28, N_sub hll.1, f57, ni_N (by omega), show N p + 1 = N (p + 1) from N_add p 1, ni_N (by omega), show N p + 2 = N (p + 2) from N_add p 2, ni_N (by omega)]
        by_cases q1 : le - p = 3
        · rw [if_neg (by rw [q1]; exact fun z => z rfl)]
          by_cases q2 : τ 57 p = 114
          · rw [if_neg (fun z => z q2)]
            by_cases q3 : τ 57 (p + 1) = 111
            · rw [if_neg (fun z => z q3)]
              by_cases q4 : τ 57 (p + 2) = 119
              · exact absurd ⟨q1, by rw [← h7 p (by omega)]; exact q2, by rw [← h7 _ (by omega)]; exact q3, by rw [← h7 _ (by omega)]; exact q4⟩ hr
              · rw [if_neg q4]; rfl
            · rw [if_pos q3]; rfl
          · rw [if_pos q2]; rfl
        · rw [if_pos (by
            show ¬ N (le - p) = N 3
            rw [N_eq (by omega) (by decide)]; exact q1)]
          rfl
      · have ef : (r_X5_fails (sg_up (r_X5_here τ).2 35 28 (N le)) 1 (N p)).2 35 29 = N (1 + 8 * p) := by
          rw [show (1 : Int32) = N 1 from rfl, rfails_eq]
          dsimp only; exact up_eq
        unfold r_X5_readRow_a72
        rw [f28, N_sub hll.1, f57, ni_N (by omega), show N p + 1 = N (p + 1) from N_add p 1, ni_N (by omega), show N p + 2 = N (p + 2) from N_add p 2, ni_N (by omega)]
        by_cases q1 : le - p = 3
        · rw [if_neg (by rw [q1]; exact fun z => z rfl)]
          by_cases q2 : τ 57 p = 114
          · rw [if_neg (fun z => z q2)]
            by_cases q3 : τ 57 (p + 1) = 111
            · rw [if_neg (fun z => z q3)]
              by_cases q4 : τ 57 (p + 2) = 119
              · exact absurd ⟨q1, by rw [← h7 p (by omega)]; exact q2, by rw [← h7 _ (by omega)]; exact q3, by rw [← h7 _ (by omega)]; exact q4⟩ hr
              · rw [if_neg q4]; exact ef
            · rw [if_pos q3]; exact ef
          · rw [if_pos q2]; exact ef
        · rw [if_pos (by
            show ¬ N (le - p) = N 3
            rw [N_eq (by omega) (by decide)]; exact q1)]
          exact ef
  · have hz : v_X5_in (r_X5_here τ).1 97 122 = 0 := by
      rw [g2]
      by_cases gt : p < t
      · rw [if_pos gt]
        exact Decidable.not_not.mp (fun z => gl ⟨gt, hin.mp z⟩)
      · rw [if_neg gt]; decide
    have hnr : ¬ isRow (σ 6) p le := by
      intro hr
      have hlp : le = p := by
        rw [← hle]
        by_cases gt : p < t
        · obtain ⟨d, hd⟩ : ∃ d, t - p = d + 1 := ⟨t - p - 1, by omega⟩
          rw [hd, lwE_s, if_neg (fun z => gl ⟨gt, by rw [h7 p gt]; exact z⟩)]
        · rw [show t - p = 0 by omega]; rfl
      have := hr.1
      omega
    have er : r_X5_readRow τ = (0, sg_up (r_X5_here τ).2 35 29 (N (1 + 8 * p))) := by
      unfold r_X5_readRow t_X5_readRow_6
      rw [if_neg (fun z => z hz), e28, show (1 : Int32) = N 1 from rfl, rfails_eq]
    rw [er]
    exact hfail _ rfl (by dsimp only; exact up_eq) (w3 hnr)
end
section
/-! BOTH READ THE SAME TABLE: its rows hold, or don't, in both -/
theorem rchk53f {σ : sg_S} {V : Nat → Nat} {w : Nat} {k45 : sg_S → Int32 → Int32 × sg_S} (hV : TabAt σ 38 V) (hG : GoodV V) (hw : w < 10) : ∀ (n k : Nat), 1 ≤ k → k ≤ 5 → 5 - k < n → (r_X5_readTable_l53 k45 n σ (N w) (N k) = k45 σ (N (w + 1)) ∧ ∀ k', k ≤ k' → k' < 5 → Chk V w k') ∨ (r_X5_readTable_l53 k45 n σ (N w) (N k) = (0, sg_up σ 35 29 (4 + 8 * σ 35 26)) ∧ ∃ k', k ≤ k' ∧ k' < 5 ∧ ¬ Chk V w k') := by
  intro n
  induction n with
  | zero => intro k _ _ hn; omega
  | succ n ih =>
    intro k hk1 hk5 hn
    show (r_X5_readTable_b53 k45 (r_X5_readTable_l53 k45 n) σ (N w) (N k) = k45 σ (N (w + 1)) ∧ ∀ k', k ≤ k' → k' < 5 → Chk V w k') ∨ (r_X5_readTable_b53 k45 (r_X5_readTable_l53 k45 n) σ (N w) (N k) = (0, sg_up σ 35 29 (4 + 8 * σ 35 26)) ∧ ∃ k', k ≤ k' ∧ k' < 5 ∧ ¬ Chk V w k')
    unfold r_X5_readTable_b53
    by_cases e : k = 5
    · have hc : (4 : Int32) < N k := by
        show N 4 < N k
        exact g_lt (by omega) (by omega)
      rw [if_pos hc, N_inc]
      exact Or.inl ⟨rfl, fun k' h1 h2 => by omega⟩
    · have hc : ¬ (4 : Int32) < N k := by
        show ¬ N 4 < N k
        exact g_nlt (by omega) (by decide)
      have ex : 5 * N w + N k = N (5 * w + k) := by rw [show (5 : Int32) = N 5 from rfl, N_mul, N_add]
      have ex1 : N (5 * w + k) - 1 = N (5 * w + k - 1) := N_sub (b := 1) (by omega)
      have i2 := ih (k + 1) (by omega) (by omega) (by omega)
      have i3 : Chk V w k → (r_X5_readTable_l53 k45 n σ (N w) (N (k + 1)) = k45 σ (N (w + 1)) ∧ ∀ k', k ≤ k' → k' < 5 → Chk V w k') ∨ (r_X5_readTable_l53 k45 n σ (N w) (N (k + 1)) = (0, sg_up σ 35 29 (4 + 8 * σ 35 26)) ∧ ∃ k', k ≤ k' ∧ k' < 5 ∧ ¬ Chk V w k') := by
        intro hck
        rcases i2 with ⟨h, h'⟩ | ⟨h, k', h1, h2, h3⟩
        · refine Or.inl ⟨h, fun k' g1 g2 => ?_⟩
          by_cases e2 : k' = k
          · subst e2; exact hck
          · exact h' k' (by omega) g2
        · exact Or.inr ⟨h, k', by omega, h2, h3⟩
      rw [if_neg hc, N_inc k, ex, ex1, ni_N (by omega), ni_N (by omega), hV _ (by omega), hV _ (by omega)]
      by_cases c1 : V (5 * w + k) < V (5 * w + k - 1)
      · rw [if_pos (g_lt c1 (GoodV_lt hG (by omega)))]
        exact Or.inr ⟨rfl, k, Nat.le_refl _, by omega, fun z => by have := z.1; omega⟩
      rw [if_neg (g_nlt (by omega) (GoodV_lt hG (by omega)))]
      by_cases c2 : w = 0
      · rw [if_pos (by rw [c2]; decide)]
        exact i3 ⟨by omega, fun z => by omega⟩
      have ex2 : 5 * N w - 5 + N k = N (5 * w - 5 + k) := by
        rw [show (5 : Int32) = N 5 from rfl, N_mul, N_sub (by omega), N_add]
      rw [if_neg (by exact g_nle (a := 0) (by omega) (by omega)), ex2, ni_N (by omega), hV _ (by omega)]
      by_cases c3 : V (5 * w + k) ≤ V (5 * w - 5 + k)
      · rw [if_pos (g_le c3 (GoodV_lt hG (by omega)))]
        exact i3 ⟨by omega, fun _ => c3⟩
      · rw [if_neg (g_nle (by omega) (GoodV_lt hG (by omega)))]
        exact Or.inr ⟨rfl, k, Nat.le_refl _, by omega, fun z => c3 (z.2 (by omega))⟩
theorem rchk45f {σ : sg_S} {V : Nat → Nat} (hV : TabAt σ 38 V) (hG : GoodV V) : ∀ (n w : Nat), w ≤ 10 → 10 - w < n → (r_X5_readTable_l45 n σ (N w) = (1, σ) ∧ ∀ w', w ≤ w' → w' < 10 → ∀ k', 1 ≤ k' → k' < 5 → Chk V w' k') ∨ (r_X5_readTable_l45 n σ (N w) = (0, sg_up σ 35 29 (4 + 8 * σ 35 26)) ∧ ∃ w' k', w' < 10 ∧ 1 ≤ k' ∧ k' < 5 ∧ ¬ Chk V w' k') := by
  intro n
  induction n with
  | zero => intro w _ hn; omega
  | succ n ih =>
    intro w hw hn
    show (r_X5_readTable_b45 (r_X5_readTable_l45 n) σ (N w) = (1, σ) ∧ ∀ w', w ≤ w' → w' < 10 → ∀ k', 1 ≤ k' → k' < 5 → Chk V w' k') ∨ (r_X5_readTable_b45 (r_X5_readTable_l45 n) σ (N w) = (0, sg_up σ 35 29 (4 + 8 * σ 35 26)) ∧ ∃ w' k', w' < 10 ∧ 1 ≤ k' ∧ k' < 5 ∧ ¬ Chk V w' k')
    unfold r_X5_readTable_b45
    by_cases e : w = 10
    · rw [if_pos (by rw [e]; decide)]
      exact Or.inl ⟨rfl, fun w' h1 h2 => by omega⟩
    · have hc : ¬ (10 : Int32) ≤ N w := by
        show ¬ N 10 ≤ N w
        exact g_nle (by omega) (by decide)
      have i2 := ih (w + 1) (by omega) (by omega)
      have j2 : (r_X5_readTable_l53 (r_X5_readTable_l45 n) 600 σ (N w) 1 = r_X5_readTable_l45 n σ (N (w + 1)) ∧ ∀ k', 1 ≤ k' → k' < 5 → Chk V w k') ∨ (r_X5_readTable_l53 (r_X5_readTable_l45 n) 600 σ (N w) 1 = (0, sg_up σ 35 29 (4 + 8 * σ 35 26)) ∧ ∃ k', 1 ≤ k' ∧ k' < 5 ∧ ¬ Chk V w k') := rchk53f (k45 := r_X5_readTable_l45 n) hV hG (w := w) (by omega) 600 1 (by decide) (by decide) (by decide)
      rw [if_neg hc]
      rcases j2 with ⟨j2, j3⟩ | ⟨j2, k', j3, j4, j5⟩
      · rw [j2]
        rcases i2 with ⟨i2, i3⟩ | ⟨i2, w', k', i3, i4, i5, i6⟩
        · refine Or.inl ⟨i2, fun w' h1 h2 k' h3 h4 => ?_⟩
          by_cases e2 : w' = w
          · subst e2; exact j3 k' h3 h4
          · exact i3 w' (by omega) h2 k' h3 h4
        · exact Or.inr ⟨i2, w', k', i3, i4, i5, i6⟩
      · exact Or.inr ⟨j2, w, k', by omega, j3, j4, j5⟩
theorem Chk_Chk2 {V : Nat → Nat} (hG : GoodV V) (h : ∀ w, w < 10 → ∀ k, 1 ≤ k → k < 5 → Chk V w k) : ∀ j, j < 50 → Chk2 V j := by
  intro j hj
  by_cases e : j % 5 = 0
  · refine ⟨fun z => absurd e z, fun _ => ?_⟩
    rw [(hG j hj).1 e]; exact Nat.zero_le _
  · have c := h (j / 5) (by omega) (j % 5) (by omega) (by omega)
    rw [show Chk V (j / 5) (j % 5) = (V (5 * (j / 5) + j % 5 - 1) ≤ V (5 * (j / 5) + j % 5) ∧ (0 < j / 5 → V (5 * (j / 5) + j % 5) ≤ V (5 * (j / 5) - 5 + j % 5))) from rfl, show 5 * (j / 5) + j % 5 = j by omega] at c
    refine ⟨fun _ => c.1, fun h5 => ?_⟩
    have := c.2 (by omega)
    rw [show 5 * (j / 5) - 5 + j % 5 = j - 5 by omega] at this
    exact this
/-! the class's row leaves the count of rows -/
theorem prop08 {σ : sg_S} {x0 x1 x2 : Int32} : s_X2_propose σ x0 x1 x2 0 8 = σ 0 8 := by
  unfold s_X2_propose
  repeat' split
  all_goals first | rfl | exact up_c (by decide)
theorem row08_l : ∀ (n : Nat) (σ : sg_S) (x1 x2 : Int32), (r_X4_readRow_l20 n σ x1 x2).2 0 8 = σ 0 8 := by
  intro n
  induction n with
  | zero => intro σ x1 x2; rfl
  | succ n ih =>
    intro σ x1 x2
    show (r_X4_readRow_b20 (r_X4_readRow_l20 n) σ x1 x2).2 0 8 = σ 0 8
    unfold r_X4_readRow_b20
    have h1 : (r_X3_readByte σ 59).2 0 8 = σ 0 8 := K_readByte 0 8 (by decide)
    have h2 : (r_X3_readNumber σ).2 0 8 = σ 0 8 := K_num 0 8 (by decide)
    have h3 : (r_X4_readRow_l20 n (t_X4_readRow_0 σ x1 x2) x1 (x2 + 1)).2 0 8 = σ 0 8 := by
      rw [ih]
      unfold t_X4_readRow_0
      rw [prop08]
      exact h2
    have h4 : (r_X4_readRow_l20 n (r_X3_readNumber σ).2 ((r_X3_readNumber σ).2 5 3) (x2 + 1)).2 0 8 = σ 0 8 := by
      rw [ih]
      exact h2
    repeat' split
    all_goals first | exact h1 | exact h2 | exact h3 | exact h4
theorem row08 {σ : sg_S} : (r_X4_readRow σ).2 0 8 = σ 0 8 := by
  unfold r_X4_readRow
  split
  · rw [row08_l]; exact K_word 0 8 (by decide)
  · exact K_word 0 8 (by decide)
/-- what a table's text leaves in both -/
def TabO (z : Int32) (rc rr : Int32 × sg_S) : Prop :=
  (∃ V r, rc.1 = 0 ∧ rr.1 = 1 ∧ TabAt rc.2 3 V ∧ TabAt rr.2 38 V ∧ TabOK V ∧ rc.2 0 8 = N r ∧ rr.2 35 31 = N r ∧ rr.2 35 29 = z) ∨ (∃ f, 0 < f ∧ f < 10000 ∧ rc.1 = N f ∧ rr.1 = 0 ∧ rr.2 35 29 = N f)
theorem tab_loop {t : Nat} {z : Int32} : ∀ (m n j a c : Nat) (σ τ : sg_S) (V : Nat → Nat), t - a < m → t - a < n → 3 * j ≤ a → Pos σ τ t a → (∀ i, i < t → ¬ σ 6 i = -1) → TabAt σ 3 V → TabAt τ 38 V → GoodV V → σ 0 8 = N c → τ 35 31 = N c → τ 35 29 = z → TabO z (r_X4_readTable_l21 m σ (N j)) (r_X5_readTable_l26 n τ) := by
  intro m
  induction m with
  | zero => intro n j a c σ τ V hm; omega
  | succ m ih =>
    intro n j a c σ τ V hm hn hj hP hB hV hW hG h8 hc hz
    cases n with
    | zero => omega
    | succ n =>
    show TabO z (r_X4_readTable_b21 (r_X4_readTable_l21 m) σ (N j)) (r_X5_readTable_b26 (r_X5_readTable_l26 n) τ)
    unfold r_X4_readTable_b21 r_X5_readTable_b26
    obtain ⟨h1, h2, h3, h4, h5, h6, h7⟩ := id hP
    have ep : skp (τ 57) (t - a) a = skp (σ 6) (t - a) a := skp_congr _ _ (fun j hj => h7 j (by omega))
    have hpl := skp_le (B := σ 6) (t - a) a
    obtain ⟨s1, s2, s3, -⟩ := cseek_ok h1 h2 h5 h6
    obtain ⟨g1, g2, g3⟩ := here_ok h3 h4 h5 h6
    rw [ep] at g2 g3
    generalize hp : skp (σ 6) (t - a) a = p at *
    have hP1 : Pos (r_X3_seek σ).2 (r_X5_here τ).2 t p := by
      refine ⟨s2, ?_, ?_, ?_, by omega, h6, fun i hi => ?_⟩
      · rw [K_seek 5 1 (by decide)]; exact h2
      · rw [g3]; exact up_eq
      · rw [g3, up_k (by decide)]; exact h4
      · rw [g3, up_c (by decide), K_seek.row (σ := σ) (q := 6) (by decide)]; exact h7 i hi
    have hV1 : TabAt (r_X3_seek σ).2 3 V := TabAt_row hV (K_seek.row (by decide))
    have hW1 : TabAt (r_X5_here τ).2 38 V := by rw [g3]; exact TabAt_up hW (by decide)
    have hc1 : (r_X5_here τ).2 35 31 = N c := by rw [g3, up_k (by decide)]; exact hc
    have hz1 : (r_X5_here τ).2 35 29 = z := by rw [g3, up_k (by decide)]; exact hz
    have h81 : (r_X3_seek σ).2 0 8 = N c := by rw [K_seek 0 8 (by decide)]; exact h8
    rw [if_neg (by exact g_nle (L := 500) (by omega) (by decide)), s1, g2]
    by_cases g : p < t
    · rw [if_pos g, if_neg one_nz, if_pos g, if_neg (show ¬ τ 57 p = -1 from by rw [h7 p g]; exact hB p g), N_inc]
      obtain ⟨q1, q2⟩ := row_both hP1 hV1 hW1 hG hc1 hz1
      by_cases gr : (r_X4_readRow (r_X3_seek σ).2).1 = 0
      · rw [if_pos gr]
        rcases q2 gr with ⟨V', a', k1, k2, k3, k4, k5, k6, k7, k8, k9⟩ | ⟨f, k1, k2, k3, k4, k5⟩
        · rw [k2, if_pos one_nz]
          have hT := (crow_ok hV1 hG).1
          have h83 : (r_X4_readRow (r_X3_seek σ).2).2 0 8 = N c ∨ True := Or.inr trivial
          obtain ⟨u1, u2, u3, u4, u5, u6, u7⟩ := id k6
          refine ih n (j + 1) a' (c + 1) (t_X4_readTable_1 σ (N j)) _ V' (by omega) (by omega) (by omega) ?_ (fun i hi => ?_) ?_ k4 k5 ?_ k8 k9
          · unfold t_X4_readTable_1
            exact ⟨by rw [up_c (by decide)]; exact u1, by rw [up_c (by decide)]; exact u2, u3, u4, u5, u6, fun i hi => by rw [up_c (by decide)]; exact u7 i hi⟩
          · unfold t_X4_readTable_1
            rw [up_c (by decide), hT 6 i (by decide) (by omega) (by omega), K_seek.row (σ := σ) (q := 6) (by decide)]
            exact hB i hi
          · unfold t_X4_readTable_1
            exact TabAt_up k3 (by decide)
          · unfold t_X4_readTable_1
            rw [up_eq, row08, h81, N_inc]
        · rw [gr] at k3
          exact absurd k3.symm (N_nz k1 (by omega))
      · rw [if_neg gr]
        rcases q1 with ⟨V', a', k1, k2, k3, k4, k5, k6, k7, k8, k9⟩ | ⟨f, k1, k2, k3, k4, k5⟩
        · exact absurd k1 gr
        · rw [k4, if_neg nn0]
          exact Or.inr ⟨f, k1, k2, k3, rfl, k5⟩
    · rw [if_neg g, if_pos rfl, if_neg g, if_pos rfl]
      have e26 : (r_X5_here τ).2 35 26 = N t := hP1.2.2.2.1
      have hcl := holds2 hV1 hG 600 0 (by decide) (by decide)
      have hrf : (r_X5_readTable_l45 600 (r_X5_here τ).2 0 = (1, (r_X5_here τ).2) ∧ ∀ w', 0 ≤ w' → w' < 10 → ∀ k', 1 ≤ k' → k' < 5 → Chk V w' k') ∨ (r_X5_readTable_l45 600 (r_X5_here τ).2 0 = (0, sg_up (r_X5_here τ).2 35 29 (4 + 8 * (r_X5_here τ).2 35 26)) ∧ ∃ w' k', w' < 10 ∧ 1 ≤ k' ∧ k' < 5 ∧ ¬ Chk V w' k') := rchk45f hW1 hG 600 0 (by decide) (by decide)
      unfold r_X4_readTable_a65
      rcases hrf with ⟨e1, e2⟩ | ⟨e1, w', k', e2, e3, e4, e5⟩
      · have hall : ∀ w, w < 10 → ∀ k, 1 ≤ k → k < 5 → Chk V w k := fun w hw k k1 k2 => e2 w (by omega) hw k k1 k2
        have hh : ¬ v_X2_proposalHolds (r_X3_seek σ).2 = 0 := hcl.mpr (fun i _ hi => Chk_Chk2 hG hall i hi)
        rw [if_neg hh, e1]
        exact Or.inl ⟨V, c, rfl, rfl, hV1, hW1, Chk_OK hG hall, h81, hc1, hz1⟩
      · have hh : v_X2_proposalHolds (r_X3_seek σ).2 = 0 := by
          refine Decidable.not_not.mp (fun z => e5 ?_)
          have h2 := hcl.mp z
          have c := h2 (5 * w' + k') (by omega) (by omega)
          refine ⟨c.1 (by omega), fun hw0 => ?_⟩
          have := c.2 (by omega)
          rw [show 5 * w' + k' - 5 = 5 * w' - 5 + k' by omega] at this
          exact this
        rw [if_pos hh, e1, hP1.2.1, e26]
        refine Or.inr ⟨4 + 8 * t, by omega, by omega, ?_, rfl, ?_⟩
        · show (4 : Int32) + 8 * N t = _
          rw [show (8 : Int32) = N 8 from rfl, show (4 : Int32) = N 4 from rfl, N_mul, N_add]
        · show (sg_up (r_X5_here τ).2 35 29 (4 + 8 * N t)) 35 29 = _
          rw [up_eq, show (8 : Int32) = N 8 from rfl, show (4 : Int32) = N 4 from rfl, N_mul, N_add]
end
section
/-! THE SAME BYTES -/
theorem bvx (x : BitVec 32) : ∀ n, n ≤ 24 → (x.sshiftRight n) &&& 255#32 = (x >>> n) &&& 255#32 := by
  intro n hn
  apply BitVec.eq_of_getLsbD_eq
  intro i hi
  rw [BitVec.getLsbD_and, BitVec.getLsbD_and, BitVec.getLsbD_sshiftRight, BitVec.getLsbD_ushiftRight]
  by_cases h : i < 8
  · rw [if_pos (by omega)]
    simp [show ¬ 32 ≤ i by omega]
  · have : (255#32).getLsbD i = false := by
      rcases (show i = 8 ∨ i = 9 ∨ i = 10 ∨ i = 11 ∨ i = 12 ∨ i = 13 ∨ i = 14 ∨ i = 15 ∨ i = 16 ∨ i = 17 ∨ i = 18 ∨ i = 19 ∨ i = 20 ∨ i = 21 ∨ i = 22 ∨ i = 23 ∨ i = 24 ∨ i = 25 ∨ i = 26 ∨ i = 27 ∨ i = 28 ∨ i = 29 ∨ i = 30 ∨ i = 31 by omega) with h | h | h | h | h | h | h | h | h | h | h | h | h | h | h | h | h | h | h | h | h | h | h | h <;> subst h <;> rfl
    rw [this, Bool.and_false, Bool.and_false]
theorem fb24 (x : Int32) : fb x 24 = gb x 24 := Int32.toBitVec_inj.mp (by
  show (x.toBitVec.sshiftRight 24) &&& 255#32 = (x.toBitVec >>> 24) &&& 255#32
  exact bvx _ 24 (by decide))
theorem fb16 (x : Int32) : fb x 16 = gb x 16 := Int32.toBitVec_inj.mp (by
  show (x.toBitVec.sshiftRight 16) &&& 255#32 = (x.toBitVec >>> 16) &&& 255#32
  exact bvx _ 16 (by decide))
theorem fb8 (x : Int32) : fb x 8 = gb x 8 := Int32.toBitVec_inj.mp (by
  show (x.toBitVec.sshiftRight 8) &&& 255#32 = (x.toBitVec >>> 8) &&& 255#32
  exact bvx _ 8 (by decide))
theorem fb0 (x : Int32) : fb x 0 = gb x 0 := Int32.toBitVec_inj.mp (by
  show (x.toBitVec.sshiftRight 0) &&& 255#32 = (x.toBitVec >>> 0) &&& 255#32
  exact bvx _ 0 (by decide))
theorem gb_ne {x s : Int32} : ¬ gb x s = -1 := fun h => by
  have h1 := congrArg Int32.toBitVec h
  have h2 : ((ip_bI 7 x s).toBitVec &&& 255#32).getLsbD 31 = (-1#32).getLsbD 31 := congrArg (fun z => BitVec.getLsbD z 31) h1
  rw [BitVec.getLsbD_and, show (255#32).getLsbD 31 = false from rfl, Bool.and_false] at h2
  exact absurd h2 (by decide)
theorem fB4_eq {x : Int32} {j : Nat} : fB4 x j = gB4 x j := by
  unfold fB4 gB4
  rw [fb24, fb16, fb8, fb0]
theorem gB4_ne {x : Int32} {j : Nat} : ¬ gB4 x j = -1 := by
  unfold gB4
  repeat' split
  all_goals exact gb_ne
theorem fB20_eq {a b c d e : Int32} {j : Nat} : fB20 a b c d e j = gB20 a b c d e j := by
  unfold fB20 gB20
  rw [fB4_eq, fB4_eq, fB4_eq, fB4_eq, fB4_eq]
theorem gB20_ne {a b c d e : Int32} {j : Nat} : ¬ gB20 a b c d e j = -1 := by
  unfold gB20
  repeat' split
  all_goals exact gB4_ne
/-- both tapes hold the same bytes -/
def Tape (σ : sg_S) (t : Nat) : Prop := ∀ j, j < t → σ 57 j = σ 6 j ∧ ¬ σ 6 j = -1
theorem Tape_0 {σ : sg_S} : Tape σ 0 := fun j hj => by omega
theorem Tape_fr {σ σ' : sg_S} {t t' : Nat} (h : Tape σ t) (ht : t' ≤ t) (h57 : ∀ j, σ' 57 j = σ 57 j) (h6 : ∀ j, σ' 6 j = σ 6 j) : Tape σ' t' := fun j hj => by
  rw [h57, h6]; exact h j (by omega)
section Both
variable {σ : sg_S} {T S S' : Nat → Nat} {k k' t : Nat}
theorem both_feed {x0 x1 x2 x3 x4 : Int32} {σ2 : sg_S} (hc : CInv σ T S k t) (hr : RInv σ2 T S' k' t) (hh : HiS σ σ2) (h2 : σ2 = (r_X4_feed σ x0 x1 x2 x3 x4).2) (hT : Tape σ t) : (r_X4_feed σ x0 x1 x2 x3 x4).1 = (r_X5_feed σ2 x0 x1 x2 x3 x4).1 ∧ ∃ t', CInv σ2 T S k t' ∧ RInv (r_X5_feed σ2 x0 x1 x2 x3 x4).2 T S' k' t' ∧ Tape (r_X5_feed σ2 x0 x1 x2 x3 x4).2 t' := by
  obtain ⟨a1, a2, a3⟩ := C_feed (x0 := x0) (x1 := x1) (x2 := x2) (x3 := x3) (x4 := x4) hc
  obtain ⟨b0, b1, b2, b3⟩ := R_feed (x0 := x0) (x1 := x1) (x2 := x2) (x3 := x3) (x4 := x4) hr
  rw [← h2] at a1 a2 a3
  have e6 : ∀ j, (r_X5_feed σ2 x0 x1 x2 x3 x4).2 6 j = σ2 6 j := fun j => b3 6 j (by decide) (by omega)
  by_cases g : t + 20 ≤ 500
  · obtain ⟨c1, c2, c3⟩ := a1 g
    obtain ⟨d1, d2, d3⟩ := b1 g
    refine ⟨c1.trans d1.symm, t + 20, c2, d2, fun j hj => ?_⟩
    rw [e6, d3, c3]
    by_cases gj : t ≤ j ∧ j < t + 20
    · rw [if_pos gj, if_pos gj, fB20_eq]; exact ⟨rfl, gB20_ne⟩
    · rw [if_neg gj, if_neg gj, hh 57 j (by decide)]; exact hT j (by omega)
  · obtain ⟨c1, c2, c3⟩ := a2 g
    obtain ⟨d1, d2, d3⟩ := b2 g
    refine ⟨c1.trans d1.symm, t, c2, d2, fun j hj => ?_⟩
    rw [e6, d3, c3, hh 57 j (by decide)]; exact hT j hj
/-! end, both -/
theorem both_end {n : Int32} {σ2 : sg_S} (hc : CInv σ T S k t) (hr : RInv σ2 T S' k' t) (hh : HiS σ σ2) (h2 : σ2 = (r_X4_end σ n).2) (hT : Tape σ t) : (r_X4_end σ n).1 = (r_X5_end σ2 n).1 ∧ ∃ t', CInv σ2 T S k t' ∧ RInv (r_X5_end σ2 n).2 T S' k' t' ∧ Tape (r_X5_end σ2 n).2 t' := by
  obtain ⟨a1, a2, a3, a4⟩ := C_end (n := n) hc
  obtain ⟨b1, b2, b3, b4⟩ := R_end (n := n) hr
  rw [← h2] at a1 a2 a3 a4
  have e6 : ∀ j, (r_X5_end σ2 n).2 6 j = σ 6 j := fun j => (b3 6 j (by decide) (by omega)).trans (a4 j)
  have e57 : ∀ j, (r_X5_end σ2 n).2 57 j = σ 57 j := fun j => (b4 j).trans (hh 57 j (by decide))
  by_cases g : ∃ a, n = N a ∧ a ≤ t
  · obtain ⟨a, e, ha⟩ := g
    obtain ⟨c1, c2⟩ := a1 a e ha
    obtain ⟨d1, d2⟩ := b1 a e ha
    exact ⟨c1.trans d1.symm, a, c2, d2, Tape_fr hT ha e57 e6⟩
  · obtain ⟨c1, c2⟩ := a2 (fun a e ha => g ⟨a, e, ha⟩)
    obtain ⟨d1, d2⟩ := b2 (fun a e ha => g ⟨a, e, ha⟩)
    exact ⟨c1.trans d1.symm, t, c2, d2, Tape_fr hT (Nat.le_refl _) e57 e6⟩
/-! table, both -/
theorem rcopy {T : Nat → Nat} : ∀ (n j : Nat) (τ : sg_S), j ≤ 50 → 50 - j < n → TabAt τ 37 T → (∀ i, i < j → τ 38 i = N (T i)) → ∃ τ', r_X5_readTable_l2 n τ (N j) = r_X5_readTable_l26 600 τ' ∧ TabAt τ' 38 T ∧ (∀ q i, ¬ q = 38 → τ' q i = τ q i) := by
  intro n
  induction n with
  | zero => intro j τ _ hn; omega
  | succ n ih =>
    intro j τ hj hn hT hd
    show ∃ τ', r_X5_readTable_b2 (r_X5_readTable_l2 n) τ (N j) = r_X5_readTable_l26 600 τ' ∧ TabAt τ' 38 T ∧ (∀ q i, ¬ q = 38 → τ' q i = τ q i)
    unfold r_X5_readTable_b2
    by_cases e : j = 50
    · have hc : (50 : Int32) ≤ N j := (N14 (L := 50) hj (by decide)).mpr e
      rw [if_pos hc]
      exact ⟨τ, rfl, fun i hi => hd i (by omega), fun _ _ _ => rfl⟩
    · have hc : ¬ (50 : Int32) ≤ N j := fun z => e ((N14 (L := 50) hj (by decide)).mp z)
      rw [if_neg hc, N_inc, ni_N (by omega), hT j (by omega)]
      obtain ⟨τ', i1, i2, i3⟩ := ih (j + 1) (sg_up τ 38 j (N (T j))) (by omega) (by omega) (TabAt_up hT (by decide)) (fun i hi => by
        by_cases e2 : i = j
        · subst e2; exact up_eq
        · rw [up_k e2]; exact hd i (by omega))
      exact ⟨τ', i1, i2, fun q i hq => (i3 q i hq).trans (up_c hq)⟩
theorem both_read {σ2 : sg_S} (hc : CInv σ T S k t) (hr : RInv σ2 T S' k' t) (hh : HiS σ σ2) (hT : Tape σ t) : TabO 0 (r_X4_readTable σ) (r_X5_readTable (s_X5_beginsText σ2)) := by
  obtain ⟨⟨a1, a2, x, a3, a4⟩, ht, h5⟩ := id hc
  obtain ⟨b1, b2⟩ := beg2 600 0 (sg_up σ 0 8 0) (by decide) (by decide) (TabAt_up a4.1 (by decide)) (fun i hi => by omega)
  have hb : ∀ q j, ¬ (q = 35 ∧ (j = 0 ∨ j = 28 ∨ j = 29 ∨ j = 31)) → s_X5_beginsText σ2 q j = σ2 q j := fun q j hq => by
    rw [beginsText_eq, up_ne (by omega), up_ne (by omega), up_ne (by omega), up_ne (by omega)]
  have b28 : (s_X5_beginsText σ2) 35 28 = N 0 := by rw [beginsText_eq, up_k (by decide), up_k (by decide), up_eq]; rfl
  have b29 : (s_X5_beginsText σ2) 35 29 = 0 := by rw [beginsText_eq, up_k (by decide), up_eq]
  have b31 : (s_X5_beginsText σ2) 35 31 = N 0 := by rw [beginsText_eq, up_eq]; rfl
  obtain ⟨τ', c1, c2, c3⟩ := rcopy 600 0 (s_X5_beginsText σ2) (by decide) (by decide) (fun j hj => by rw [hb 37 j (by omega)]; exact hr.1 j hj) (fun i hi => by omega)
  have hS : ∀ q i, ¬ q = 3 → ¬ (q = 5 ∧ 2 ≤ i ∧ i ≤ 4) → ¬ (q = 0 ∧ i = 8) → (t_X4_readTable_0 σ) q i = σ q i := fun q i h1 h2 h3 => by
    unfold t_X4_readTable_0
    rw [K_rewind q i h2]
    exact (b2 q i h1).trans (up_ne h3)
  have e08 : (t_X4_readTable_0 σ) 0 8 = N 0 := by
    unfold t_X4_readTable_0
    rw [K_rewind 0 8 (by decide)]
    exact (b2 0 8 (by decide)).trans up_eq
  have e54 : (t_X4_readTable_0 σ) 5 4 = N 0 := by
    unfold t_X4_readTable_0 s_X3_rewind t_X3_rewind_0
    rw [up_eq]; rfl
  have hV : TabAt (t_X4_readTable_0 σ) 3 T := by
    unfold t_X4_readTable_0
    exact TabAt_row b1 (K_rewind.row (by decide))
  have h : TabO 0 (r_X4_readTable_l21 600 (t_X4_readTable_0 σ) (N 0)) (r_X5_readTable_l26 600 τ') := by
    refine tab_loop (t := t) 600 600 0 0 0 (t_X4_readTable_0 σ) τ' T (by omega) (by omega) (by omega) ⟨e54, ?_, ?_, ?_, by omega, h5, fun j hj => ?_⟩ (fun j hj => ?_) hV c2 (Tab_good a4.2.1) e08 ?_ ?_
    · rw [hS 5 1 (by decide) (by decide) (by decide)]; exact ht
    · rw [c3 35 28 (by decide)]; exact b28
    · rw [c3 35 26 (by decide), hb 35 26 (by decide)]; exact hr.2.2.2.2.2.2.2.1
    · rw [c3 57 j (by decide), hb 57 j (by omega), hh 57 j (by decide), hS 6 j (by decide) (by omega) (by omega)]; exact (hT j hj).1
    · rw [hS 6 j (by decide) (by omega) (by omega)]; exact (hT j hj).2
    · rw [c3 35 31 (by decide)]; exact b31
    · rw [c3 35 29 (by decide)]; exact b29
  have c1 : r_X5_readTable (s_X5_beginsText σ2) = r_X5_readTable_l26 600 τ' := c1
  rw [c1]
  exact h
/-- the answers of table, and what both hold behind it: both took it, or both told the same fault -/
def TabB (T S S' : Nat → Nat) (k k' : Nat) (rc rr : Int32 × sg_S) : Prop :=
  (∃ V r, rc.1 = N r ∧ rr.1 = N r ∧ CInv rc.2 V S 0 0 ∧ RInv rr.2 V S' 0 0 ∧ rc.2 0 7 = 0 ∧ rr.2 35 27 = 0) ∨ (∃ f, rc.1 = -1 ∧ rr.1 = -1 ∧ CInv rc.2 T S k 0 ∧ RInv rr.2 T S' k' 0 ∧ rc.2 0 7 = N f ∧ rr.2 35 27 = N f)
theorem both_table {σ2 : sg_S} (hc : CInv σ T S k t) (hr : RInv σ2 T S' k' t) (hh : HiS σ σ2) (hT : Tape σ t) : TabB T S S' k k' (r_X4_table σ) (r_X5_table σ2) := by
  have hO := both_read hc hr hh hT
  obtain ⟨⟨a1, a2, x, a3, a4⟩, ht, h5⟩ := id hc
  obtain ⟨r1, V0, r2, r3⟩ := ctab_ok h5 ht a4.1 a4.2.1
  have hS1 : ∀ q j, ¬ q = 3 → ¬ (q = 5 ∧ 1 ≤ j ∧ j ≤ 4) → ¬ (q = 0 ∧ (j = 7 ∨ j = 8)) → (sg_up (t_X4_table_0 σ) 5 1 0) q j = σ q j := fun q j h1 h2 h3 => by
    unfold t_X4_table_0
    rw [up_ne (by omega), up_ne (by omega), r1 q j h1 (by omega) h3]
  have h07 : (sg_up (t_X4_table_0 σ) 5 1 0) 0 7 = (r_X4_readTable σ).1 := by
    unfold t_X4_table_0
    rw [up_c (by decide), up_eq]
  have h08 : (sg_up (t_X4_table_0 σ) 5 1 0) 0 8 = (r_X4_readTable σ).2 0 8 := by
    unfold t_X4_table_0
    rw [up_c (by decide), up_k (by decide)]
  obtain ⟨d1, d2, d3, d4, d5, d6, d7, d8, d9⟩ := id hr
  have hb : ∀ q j, ¬ (q = 35 ∧ (j = 0 ∨ j = 28 ∨ j = 29 ∨ j = 31)) → s_X5_beginsText σ2 q j = σ2 q j := fun q j hq => by
    rw [beginsText_eq, up_ne (by omega), up_ne (by omega), up_ne (by omega), up_ne (by omega)]
  have b28 : (s_X5_beginsText σ2) 35 28 = N 0 := by rw [beginsText_eq, up_k (by decide), up_k (by decide), up_eq]; rfl
  obtain ⟨-, q2, V1, q3, q4⟩ := rtab_ok (σ := s_X5_beginsText σ2) (a := 0) d9 (by omega) b28 (by rw [hb 35 26 (by decide)]; exact d8) (fun j hj => by rw [hb 37 j (by omega)]; exact d1 j hj) d2
  have hS : ∀ q j, ¬ q = 38 → ¬ (q = 35 ∧ (j = 0 ∨ (26 ≤ j ∧ j ≤ 32))) → (t_X5_table_1 σ2) q j = σ2 q j := fun q j h1 h2 => by
    unfold t_X5_table_1 t_X5_table_0
    rw [up_ne (by omega), up_ne (by omega), q2 q j h1 (by omega), hb q j (by omega)]
  have h26 : (t_X5_table_1 σ2) 35 26 = N 0 := by
    unfold t_X5_table_1 t_X5_table_0
    rw [up_k (by decide), up_eq]; rfl
  have h27 : (t_X5_table_1 σ2) 35 27 = (r_X5_readTable (s_X5_beginsText σ2)).2 35 29 := by
    unfold t_X5_table_1 t_X5_table_0
    rw [up_eq, up_k (by decide)]
  have h31 : (t_X5_table_1 σ2) 35 31 = (r_X5_readTable (s_X5_beginsText σ2)).2 35 31 := by
    unfold t_X5_table_1 t_X5_table_0
    rw [up_k (by decide), up_k (by decide)]
  unfold r_X4_table r_X5_table
  rcases hO with ⟨V, r, e1, e2, e3, e4, e5, e6, e7, e8⟩ | ⟨f, e1, e2, e3, e4, e5⟩
  · have g : (sg_up (t_X4_table_0 σ) 5 1 0) 0 7 = 0 := h07.trans e1
    have g2 : ¬ (r_X5_readTable (s_X5_beginsText σ2)).1 = 0 := by rw [e2]; exact one_nz
    rw [if_pos g, if_pos g2]
    have hV : TabAt (sg_up (t_X4_table_0 σ) 5 1 0) 3 V := by
      unfold t_X4_table_0
      exact TabAt_up (TabAt_up e3 (by decide)) (by decide)
    obtain ⟨c1, c2⟩ := adopt2 600 0 (sg_up (t_X4_table_0 σ) 5 1 0) (by decide) (by decide) hV (fun i hi => by omega)
    have c1 : TabAt (t_X4_table_1 σ) 2 V := c1
    have c2 : ∀ q j, ¬ q = 2 → t_X4_table_1 σ q j = (sg_up (t_X4_table_0 σ) 5 1 0) q j := c2
    have hS4 : SetAt (t_X4_table_1 σ) 4 S := fun j hj => by
      rw [c2 4 j (by decide), hS1 4 j (by decide) (by omega) (by omega)]; exact a4.2.2.1 j hj
    obtain ⟨f1, f2⟩ := cempty_ok c1 e5 hS4 a4.2.2.2.1
    have hV1 : TabAt (t_X5_table_1 σ2) 38 V := by
      unfold t_X5_table_1 t_X5_table_0
      exact TabAt_up (TabAt_up e4 (by decide)) (by decide)
    obtain ⟨-, k2, k3, k4, k5⟩ := tab30 600 0 (t_X5_table_1 σ2) (by decide) (by decide) hV1 (fun i hi => by omega)
    refine Or.inl ⟨V, r, ?_, ?_, ⟨f1, ?_, by decide⟩, ⟨k4, e5, fun j hj => ?_, d4, k3, by decide, ⟨_, mrun_0⟩, ?_, by decide⟩, ?_, ?_⟩
    · dsimp only
      rw [f2 0 8 (by decide) (by decide), c2 0 8 (by decide), h08]; exact e6
    · exact (show (r_X5_table_l30 600 (t_X5_table_1 σ2) 0).1 = _ from k2).trans (h31.trans e7)
    · dsimp only
      rw [f2 5 1 (by decide) (by decide), c2 5 1 (by decide), up_eq]; rfl
    · rw [show (r_X5_table_l30 600 (t_X5_table_1 σ2) 0).2 36 j = _ from k5 36 j (by decide) (by omega), hS 36 j (by decide) (by omega)]; exact d3 j hj
    · rw [show (r_X5_table_l30 600 (t_X5_table_1 σ2) 0).2 35 26 = _ from k5 35 26 (by decide) (by decide)]; exact h26
    · dsimp only
      rw [f2 0 7 (by decide) (by decide), c2 0 7 (by decide)]; exact g
    · rw [show (r_X5_table_l30 600 (t_X5_table_1 σ2) 0).2 35 27 = _ from k5 35 27 (by decide) (by decide), h27]; exact e8
  · have g : ¬ (sg_up (t_X4_table_0 σ) 5 1 0) 0 7 = 0 := by rw [h07, e3]; exact N_nz e1 (by omega)
    have g2 : ¬ ¬ (r_X5_readTable (s_X5_beginsText σ2)).1 = 0 := fun z => z e4
    rw [if_neg g, if_neg g2]
    refine Or.inr ⟨f, rfl, rfl, ⟨CSt_fr hc.1 (hS1 0 6 (by decide) (by decide) (by decide)) (fun j _ => ⟨hS1 33 j (by decide) (by omega) (by omega), hS1 34 j (by decide) (by omega) (by omega)⟩) (fun q j hq => hS1 q j (by omega) (by omega) (by omega)), by dsimp only; rw [up_eq]; rfl, by decide⟩, RInv_of hr (fun j _ => hS 37 j (by decide) (by omega)) (fun j _ => hS 36 j (by decide) (by omega)) (hS 35 6 (by decide) (by decide)) (fun j _ => ⟨hS 39 j (by decide) (by omega), hS 40 j (by decide) (by omega)⟩) h26 (by decide), h07.trans e3, h27.trans e5⟩
/-! worth and told, both -/
theorem both_worth {x0 x1 : Int32} (h2 : TabAt σ 2 T) (hK : TabOK T) (h37 : TabAt σ 37 T) : v_X4_worth σ x0 x1 = (r_X5_worth σ x0 x1).1 := by
  unfold v_X4_worth r_X5_worth
  have h37' : TabAt (sg_up σ 35 0 0) 37 T := TabAt_up h37 (by decide)
  by_cases g0 : v_X5_in x0 0 120 = 0
  · rw [if_pos g0]
    have hno : ¬ (¬ x0 < 0 ∧ ¬ (120 : Int32) < x0) := fun ⟨z1, z2⟩ => by
      obtain ⟨a, ha, rfl⟩ := ex_nlt 120 z1 z2 (by decide)
      exact absurd g0 (in_nz (lo := 0) (hi := 120) (Nat.zero_le _) ha (by decide))
    dsimp only
    repeat' split
    all_goals first | rfl | exact absurd ⟨by assumption, by assumption⟩ hno
  rw [if_neg g0]
  obtain ⟨a, rfl, -, ha⟩ := in_ex (lo := 0) (hi := 120) (by decide) (by decide) g0
  rw [if_neg (N_nn (by omega)), if_neg (by exact g_nlt (L := 120) ha (by decide))]
  by_cases g1 : v_X5_in x1 0 10 = 0
  · rw [if_pos g1]
    have hno : ¬ (¬ x1 < 0 ∧ x1 ≤ (10 : Int32)) := fun ⟨z1, z2⟩ => by
      obtain ⟨b, hb, rfl⟩ := ex_nlt 10 z1 (Int32.not_lt.mpr z2) (by decide)
      exact absurd g1 (in_nz (lo := 0) (hi := 10) (Nat.zero_le _) hb (by decide))
    dsimp only
    repeat' split
    all_goals first | rfl | exact absurd ⟨by assumption, by assumption⟩ hno
  rw [if_neg g1]
  obtain ⟨b, rfl, -, hb⟩ := in_ex (lo := 0) (hi := 10) (by decide) (by decide) g1
  rw [if_neg (N_nn (by omega)), if_pos (by exact g_le (L := 10) hb (by decide)), worth2 h2 hK ha hb]
  exact (worth5 h37' hK ha hb).symm
theorem both_told {x0 x1 : Int32} (h2 : TabAt σ 2 T) (h37 : TabAt σ 37 T) : v_X4_told σ x0 x1 = (r_X5_told σ x0 x1).1 := by
  unfold v_X4_told r_X5_told
  by_cases g0 : v_X5_in x0 0 9 = 0
  · rw [if_pos g0]
    have hno : ¬ (¬ x0 < 0 ∧ ¬ (10 : Int32) ≤ x0) := fun ⟨z1, z2⟩ => by
      obtain ⟨a, ha, rfl⟩ := ex_nle 10 z1 z2 (by decide)
      exact absurd g0 (in_nz (lo := 0) (hi := 9) (Nat.zero_le _) (by omega) (by decide))
    dsimp only
    repeat' split
    all_goals first | rfl | exact absurd ⟨by assumption, by assumption⟩ hno
  rw [if_neg g0]
  obtain ⟨a, rfl, -, ha⟩ := in_ex (lo := 0) (hi := 9) (by decide) (by decide) g0
  rw [if_neg (N_nn (by omega)), if_neg (by exact g_nle (L := 10) (by omega) (by decide))]
  by_cases g1 : v_X5_in x1 1 4 = 0
  · rw [if_pos g1]
    have hno : ¬ (¬ x1 < (1 : Int32) ∧ x1 < (5 : Int32)) := fun ⟨z1, z2⟩ => by
      have hn : 1 ≤ ni x1 := by
        have hz : ¬ ni x1 < 1 := fun z => z1 ((lt_ni (a := 1) (by decide) (by decide)).mpr z)
        omega
      have h5 : ni x1 < 5 := (lt_ni (a := 5) (by decide) (by decide)).mp z2
      exact absurd g1 ((in_ni (lo := 1) (hi := 4) (by decide) (by decide) (by decide)).mpr ⟨hn, by omega⟩)
    dsimp only
    repeat' split
    all_goals first | rfl | exact absurd ⟨by assumption, by assumption⟩ hno
  rw [if_neg g1]
  obtain ⟨b, rfl, hb1, hb⟩ := in_ex (lo := 1) (hi := 4) (by decide) (by decide) g1
  have ex : 5 * N a + N b = N (5 * a + b) := by rw [show (5 : Int32) = N 5 from rfl, N_mul, N_add]
  rw [if_neg (by
    show ¬ N b < N 1
    rw [N_lt (by omega) (by decide)]; omega), if_pos (by exact g_lt (L := 5) (by omega) (by decide))]
  dsimp only
  rw [ex, ni_N (by omega), up_c (by decide), h37 _ (by omega)]
  unfold v_X2_number
  rw [if_neg (N_nn (by omega)), if_neg (by exact g_nle (L := 10) (by omega) (by decide)), if_neg (N_nn (by omega)), if_pos (by exact g_lt (L := 5) (by omega) (by decide)), ex, ni_N (by omega), h2 _ (by omega)]
end Both
end
