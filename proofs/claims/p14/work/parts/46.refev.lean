/-! WHICH EVENTS CAN COME -/
def isEv (e : Int32) : Prop := (48 ≤ ni e ∧ ni e ≤ 54) ∨ e = 120 ∨ e = 119 ∨ e = 110 ∨ e = 99 ∨ e = 100 ∨ e = 47
theorem isBall5 {e : Int32} : (¬ v_X5_isBall e = 0) ↔ ((48 ≤ ni e ∧ ni e ≤ 54) ∨ e = 120) := by
  have hin := in_ni (x := e) (lo := 48) (hi := 54) (by decide) (by decide) (by decide)
  unfold v_X5_isBall
  by_cases g : ¬ v_X5_in e 48 54 = 0
  · rw [if_pos g]
    exact ⟨fun _ => Or.inl (hin.mp g), fun _ => one_nz⟩
  · rw [if_neg g]
    by_cases g2 : e = 120
    · rw [if_neg (fun z => z g2)]
      exact ⟨fun _ => Or.inr g2, fun _ => one_nz⟩
    · rw [if_pos g2]
      exact ⟨fun z => absurd rfl z, fun z => z.elim (fun z => absurd (hin.mpr z) g) (fun z => absurd z g2)⟩
theorem isEvent5 {e : Int32} : (¬ v_X5_isEvent e = 0) ↔ isEv e := by
  have hb := isBall5 (e := e)
  unfold v_X5_isEvent isEv
  by_cases g : ¬ v_X5_isBall e = 0
  · rw [if_pos g]
    refine ⟨fun _ => ?_, fun _ => one_nz⟩
    rcases hb.mp g with h | h
    · exact Or.inl h
    · exact Or.inr (Or.inl h)
  rw [if_neg g]
  have gn : ¬ ((48 ≤ ni e ∧ ni e ≤ 54) ∨ e = 120) := fun z => g (hb.mpr z)
  by_cases g1 : e = 119
  · rw [if_pos g1]; exact ⟨fun _ => Or.inr (Or.inr (Or.inl g1)), fun _ => one_nz⟩
  rw [if_neg g1]
  by_cases g2 : e = 110
  · rw [if_pos g2]; exact ⟨fun _ => Or.inr (Or.inr (Or.inr (Or.inl g2))), fun _ => one_nz⟩
  rw [if_neg g2]
  by_cases g3 : e = 99
  · rw [if_pos g3]; exact ⟨fun _ => Or.inr (Or.inr (Or.inr (Or.inr (Or.inl g3)))), fun _ => one_nz⟩
  rw [if_neg g3]
  by_cases g4 : e = 100
  · rw [if_pos g4]; exact ⟨fun _ => Or.inr (Or.inr (Or.inr (Or.inr (Or.inr (Or.inl g4))))), fun _ => one_nz⟩
  rw [if_neg g4]
  by_cases g5 : e = 47
  · rw [if_neg (fun z => z g5)]; exact ⟨fun _ => Or.inr (Or.inr (Or.inr (Or.inr (Or.inr (Or.inr g5))))), fun _ => one_nz⟩
  rw [if_pos g5]
  refine ⟨fun z => absurd rfl z, fun z => ?_⟩
  rcases z with z | z | z | z | z | z | z
  · exact absurd (Or.inl z) gn
  · exact absurd (Or.inr z) gn
  · exact absurd z g1
  · exact absurd z g2
  · exact absurd z g3
  · exact absurd z g4
  · exact absurd z g5
/-- what a step asks -/
def canS (i t : Nat) (D : Nat → Nat → Nat) (e n : Int32) : Prop := isEv e ∧ (e = 100 → (i = 0 ∨ i = 1 ∧ t = 0) ∧ 1 ≤ ni n ∧ ni n < D 1 3) ∧ (¬ e = 100 → i < 2) ∧ (e = 99 → 1 ≤ ni n ∧ ni n < D i 3 ∧ D i 2 ≤ 6 * ni n)
theorem stp_some {T : Nat → Nat} {mean i t : Nat} {D : Nat → Nat → Nat} {e n : Int32} (h : canS i t D e n) : ∃ y, stp T mean (i, t, D) e n = some y := by
  obtain ⟨h1, h2, h3, h4⟩ := h
  unfold stp
  dsimp only
  by_cases g0 : e = 100
  · rw [if_pos g0, if_pos (h2 g0)]; exact ⟨_, rfl⟩
  rw [if_neg g0, if_neg (by have := h3 g0; omega)]
  by_cases g1 : e = 99
  · rw [if_pos g1, if_pos (h4 g1)]; exact ⟨_, rfl⟩
  rw [if_neg g1]
  by_cases g2 : e = 47
  · rw [if_pos g2]; exact ⟨_, rfl⟩
  rw [if_neg g2]
  by_cases g3 : e = 119 ∨ e = 110
  · rw [if_pos g3]; exact ⟨_, rfl⟩
  rw [if_neg g3]
  by_cases g4 : e = 120
  · rw [if_pos g4]; exact ⟨_, rfl⟩
  rw [if_neg g4]
  rcases h1 with z | z | z | z | z | z | z
  · rw [if_pos z]; exact ⟨_, rfl⟩
  · exact absurd z g4
  · exact absurd (Or.inl z) g3
  · exact absurd (Or.inr z) g3
  · exact absurd z g1
  · exact absurd z g0
  · exact absurd z g2
theorem stp_can {T : Nat → Nat} {mean i t : Nat} {D : Nat → Nat → Nat} {e n : Int32} {y : mS} (h : stp T mean (i, t, D) e n = some y) : canS i t D e n := by
  unfold stp at h
  dsimp only at h
  by_cases g0 : e = 100
  · rw [if_pos g0] at h
    by_cases hc : (i = 0 ∨ i = 1 ∧ t = 0) ∧ 1 ≤ ni n ∧ ni n < D 1 3
    · exact ⟨Or.inr (Or.inr (Or.inr (Or.inr (Or.inr (Or.inl g0))))), fun _ => hc, fun z => absurd g0 z, fun z => by rw [g0] at z; exact absurd z (by decide)⟩
    · rw [if_neg hc] at h; cases h
  rw [if_neg g0] at h
  by_cases h2 : 2 ≤ i
  · rw [if_pos h2] at h; cases h
  rw [if_neg h2] at h
  have h3 : ¬ e = 100 → i < 2 := fun _ => by omega
  by_cases g1 : e = 99
  · rw [if_pos g1] at h
    by_cases hc : 1 ≤ ni n ∧ ni n < D i 3 ∧ D i 2 ≤ 6 * ni n
    · exact ⟨Or.inr (Or.inr (Or.inr (Or.inr (Or.inl g1)))), fun z => absurd z g0, h3, fun _ => hc⟩
    · rw [if_neg hc] at h; cases h
  rw [if_neg g1] at h
  have key : isEv e → canS i t D e n := fun z => ⟨z, fun z => absurd z g0, h3, fun z => absurd z g1⟩
  by_cases g2 : e = 47
  · exact key (Or.inr (Or.inr (Or.inr (Or.inr (Or.inr (Or.inr g2))))))
  rw [if_neg g2] at h
  by_cases g3 : e = 119 ∨ e = 110
  · rcases g3 with g3 | g3
    · exact key (Or.inr (Or.inr (Or.inl g3)))
    · exact key (Or.inr (Or.inr (Or.inr (Or.inl g3))))
  rw [if_neg g3] at h
  by_cases g4 : e = 120
  · exact key (Or.inr (Or.inl g4))
  rw [if_neg g4] at h
  by_cases g5 : 48 ≤ ni e ∧ ni e ≤ 54
  · exact key (Or.inl g5)
  rw [if_neg g5] at h
  cases h
theorem lt_ni {x : Int32} {a : Nat} (h1 : 1 ≤ a) (ha : a < 2147483648) : (x < N a) ↔ ni x < a := by
  have hx : ni x = x.toInt.toNat := rfl
  rw [Int32.lt_iff_toInt_lt, N_toInt ha]
  omega
theorem le_ni {x : Int32} {a : Nat} (h1 : 1 ≤ a) (ha : a < 2147483648) : (N a ≤ x) ↔ a ≤ ni x := by
  have hx : ni x = x.toInt.toNat := rfl
  rw [Int32.le_iff_toInt_le, N_toInt ha]
  omega
section May
variable {σ : sg_S} {T S : Nat → Nat} {k i t : Nat} {D : Nat → Nat → Nat}
theorem mayCut_iff {n : Int32} (h : RefAt σ T S i t D) (hi : i < 2) (hI : InnOK T k (D i)) : p_X5_mayCut σ n ∧ ((¬ v_X5_mayCut σ n = 0) ↔ (1 ≤ ni n ∧ ni n < D i 3 ∧ D i 2 ≤ 6 * ni n)) := by
  obtain ⟨a1, a2, a3, -⟩ := hI
  have hP := h.pic hi
  unfold p_X5_mayCut v_X5_mayCut
  rw [h.2.2.2.2.1, ni_N (by omega), hP.2.2.1, hP.2.2.2.1]
  refine ⟨fun _ => ⟨ix2 hi, fun _ => ix2 hi⟩, ?_⟩
  have l1 := lt_ni (x := n) (a := 1) (by decide) (by decide)
  have l2 := le_ni (x := n) (a := D i 3) a1 (by omega)
  by_cases g1 : n < 1
  · rw [if_pos g1]
    have := l1.mp g1
    exact ⟨fun z => absurd rfl z, fun z => by omega⟩
  rw [if_neg g1]
  have g1' : 1 ≤ ni n := by
    have hz : ¬ ni n < 1 := fun z => g1 (l1.mpr z)
    omega
  by_cases g2 : N (D i 3) ≤ n
  · rw [if_pos g2]
    have := l2.mp g2
    exact ⟨fun z => absurd rfl z, fun z => by omega⟩
  rw [if_neg g2]
  have g2' : ni n < D i 3 := by
    have hz : ¬ D i 3 ≤ ni n := fun z => g2 (l2.mpr z)
    omega
  have e6 : 6 * n = N (6 * ni n) := by
    have := ni_pos g1'
    rw [← N_mul, this]
    rfl
  rw [e6]
  by_cases g3 : N (6 * ni n) < N (D i 2)
  · rw [if_pos g3]
    rw [N_lt (by omega) (by omega)] at g3
    exact ⟨fun z => absurd rfl z, fun z => by omega⟩
  · rw [if_neg g3]
    rw [N_lt (by omega) (by omega)] at g3
    exact ⟨fun _ => ⟨g1', g2', by omega⟩, fun _ => one_nz⟩
theorem mayDrop_iff {n : Int32} (h : RefAt σ T S i t D) (hI : InnOK T k (D 1)) : (¬ v_X5_mayDrop σ n = 0) ↔ (1 ≤ ni n ∧ ni n < D 1 3) := by
  obtain ⟨a1, a2, -⟩ := hI
  have hin := in_ni (x := n) (lo := 1) (hi := 20) (by decide) (by decide) (by decide)
  unfold v_X5_mayDrop
  rw [(h.pic (i := 1) (by decide)).2.2.2.1]
  have l2 := le_ni (x := n) (a := D 1 3) a1 (by omega)
  by_cases g1 : v_X5_in n 1 20 = 0
  · rw [if_pos g1]
    exact ⟨fun z => absurd rfl z, fun z => absurd g1 (hin.mpr (by omega))⟩
  rw [if_neg g1]
  have g1' := hin.mp g1
  by_cases g2 : N (D 1 3) ≤ n
  · rw [if_pos g2]
    have := l2.mp g2
    exact ⟨fun z => absurd rfl z, fun z => by omega⟩
  · rw [if_neg g2]
    have hz : ¬ D 1 3 ≤ ni n := fun z => g2 (l2.mpr z)
    exact ⟨fun _ => by omega, fun _ => one_nz⟩
theorem isEarly_iff (h : RefAt σ T S i t D) (hi : i ≤ 2) (ht : t ≤ 1) : (¬ v_X5_isEarly σ = 0) ↔ (i = 0 ∨ i = 1 ∧ t = 0) := by
  unfold v_X5_isEarly
  rw [h.2.2.2.2.1, h.2.2.2.2.2.1]
  rcases (show i = 0 ∨ i = 1 ∨ i = 2 by omega) with rfl | rfl | rfl
  · rw [if_pos (by decide)]; exact ⟨fun _ => Or.inl rfl, fun _ => one_nz⟩
  · rw [if_neg (by decide), if_neg (fun z => z rfl)]
    rcases (show t = 0 ∨ t = 1 by omega) with rfl | rfl
    · rw [if_neg (fun z => z rfl)]; exact ⟨fun _ => Or.inr ⟨rfl, rfl⟩, fun _ => one_nz⟩
    · rw [if_pos (by decide)]; exact ⟨fun z => absurd rfl z, fun z => by omega⟩
  · rw [if_neg (by decide), if_pos (by decide)]; exact ⟨fun z => absurd rfl z, fun z => by omega⟩
theorem now_lt (h : RefAt σ T S i t D) (hi : i ≤ 2) : ((2 : Int32) ≤ σ 35 23) ↔ ¬ i < 2 := by
  rw [h.2.2.2.2.1]
  show (N 2 ≤ N i) ↔ _
  rw [N_le (by decide) (by omega)]
  omega
end May
theorem RefAt_fr {σ σ' : sg_S} {T S : Nat → Nat} {i t : Nat} {D : Nat → Nat → Nat} (h : RefAt σ T S i t D) (hs : ∀ q j, (q = 37 ∨ q = 36 ∨ (q = 35 ∧ (j = 23 ∨ j = 24)) ∨ (41 ≤ q ∧ q ≤ 49)) → σ' q j = σ q j) : RefAt σ' T S i t D :=
  ⟨fun k hk => by rw [hs 37 k (by omega)]; exact h.1 k hk, h.2.1, fun k hk => by rw [hs 36 k (by omega)]; exact h.2.2.1 k hk, h.2.2.2.1, by rw [hs 35 23 (by omega)]; exact h.2.2.2.2.1, by rw [hs 35 24 (by omega)]; exact h.2.2.2.2.2.1, RPic_set (E' := D 0) h.2.2.2.2.2.2.1 (fun q hq => hs q 0 (by omega)), RPic_set (E' := D 1) h.2.2.2.2.2.2.2 (fun q hq => hs q 1 (by omega))⟩
/-! THE REFERENCE READS EVENTS -/
def ESame (k : Nat) (σ σ' : sg_S) : Prop := ∀ q j, ¬ (41 ≤ q ∧ q ≤ 56) → ¬ (q = 35 ∧ (j = 23 ∨ j = 24 ∨ (28 ≤ j ∧ j ≤ 32))) → ¬ ((q = 39 ∨ q = 40) ∧ k ≤ j) → σ' q j = σ q j
theorem ESame.tr {k : Nat} {σ σ1 σ2 : sg_S} (h : ESame k σ σ1) (h' : ESame k σ1 σ2) : ESame k σ σ2 := fun q j a b c => (h' q j a b c).trans (h q j a b c)
theorem NSame.e {k : Nat} {σ σ' : sg_S} (h : NSame σ σ') : ESame k σ σ' := fun q j _ h2 _ => h q j (by omega)
theorem RSame.e {k : Nat} {σ σ' : sg_S} (h : RSame σ σ') : ESame k σ σ' := fun q j h1 h2 _ => h q j h1 (by omega)
theorem ESame_u {k : Nat} {σ : sg_S} {k0 : Nat} {v : Int32} (h : 28 ≤ k0 ∧ k0 ≤ 32) : ESame k σ (sg_up σ 35 k0 v) := fun q j _ h1 _ => up_ne (by omega)
theorem ESame_l {k j0 q0 : Nat} {σ : sg_S} {v : Int32} (h : q0 = 39 ∨ q0 = 40) (hj : k ≤ j0) : ESame k σ (sg_up σ q0 j0 v) := fun q j _ _ h1 => up_ne (by omega)
section REv
variable {σ : sg_S} {T S : Nat → Nat} {k c : Nat} {x : mS}
/-- an event that can come goes into the LOG -/
theorem rev157 {e n : Int32} {y : mS} (hR : RefAt σ T S x.1 x.2.1 x.2.2) (hO : OK T (S 1) (k + c) x.1 x.2.1 x.2.2) (h6 : σ 35 6 = N k) (h31 : σ 35 31 = N c) (hkc : k + c < 400) (hx : mrun T S (σ 39) (σ 40) (k + c) = some x) (hs : stp T (S 1) x e n = some y) :
    p_X5_readEvent_a157 σ e n ∧ (r_X5_readEvent_a157 σ e n).1 = 1 ∧ ESame k σ (r_X5_readEvent_a157 σ e n).2 ∧ RefAt (r_X5_readEvent_a157 σ e n).2 T S y.1 y.2.1 y.2.2 ∧ (r_X5_readEvent_a157 σ e n).2 35 31 = N (c + 1) ∧ (r_X5_readEvent_a157 σ e n).2 35 28 = σ 35 28 ∧ mrun T S ((r_X5_readEvent_a157 σ e n).2 39) ((r_X5_readEvent_a157 σ e n).2 40) (k + c + 1) = some y ∧ (r_X5_readEvent_a157 σ e n).2 35 29 = σ 35 29 ∧ (r_X5_readEvent_a157 σ e n).2 39 (k + c) = e ∧ (r_X5_readEvent_a157 σ e n).2 40 (k + c) = n := by
  have e1 : (sg_up σ 39 (k + c) e) 35 6 = N k := by rw [up_c (by decide)]; exact h6
  have e2 : (sg_up σ 39 (k + c) e) 35 31 = N c := by rw [up_c (by decide)]; exact h31
  have et : t_X5_readEvent_2 σ e n = sg_up (sg_up (sg_up σ 39 (k + c) e) 40 (k + c) n) 35 31 (N (c + 1)) := by
    unfold t_X5_readEvent_2 t_X5_readEvent_1
    rw [h6, h31, N_add, ni_N (by omega), e1, e2, N_add, ni_N (by omega), up_c (by decide), e2, N_inc]
  have hR3 : RefAt (sg_up (sg_up (sg_up σ 39 (k + c) e) 40 (k + c) n) 35 31 (N (c + 1))) T S x.1 x.2.1 x.2.2 := RefAt_fr hR (fun q j hq => by
    rw [up_ne (by omega), up_ne (by omega), up_ne (by omega)])
  obtain ⟨g1, g2, g3, g4⟩ := goes_ok (y := y) hR3 hO (by omega) (show stp T (S 1) (x.1, x.2.1, x.2.2) e n = some y from hs)
  have er : r_X5_readEvent_a157 σ e n = (1, s_X5_goes (sg_up (sg_up (sg_up σ 39 (k + c) e) 40 (k + c) n) 35 31 (N (c + 1))) e n) := by
    unfold r_X5_readEvent_a157
    rw [et]
  rw [er]
  dsimp only
  have r39 := g4.row (q := 39) (by decide) (by decide)
  have r40 := g4.row (q := 40) (by decide) (by decide)
  have f39 : (sg_up (sg_up (sg_up σ 39 (k + c) e) 40 (k + c) n) 35 31 (N (c + 1))) 39 (k + c) = e := by rw [up_c (by decide), up_c (by decide), up_eq]
  have f40 : (sg_up (sg_up (sg_up σ 39 (k + c) e) 40 (k + c) n) 35 31 (N (c + 1))) 40 (k + c) = n := by rw [up_c (by decide), up_eq]
  refine ⟨⟨?_, ?_, ?_⟩, rfl, ?_, g1, ?_, ?_, ?_, ?_, ?_, ?_⟩
  · rw [h6, h31, N_add]; exact ix_N (by omega) (by decide)
  · rw [h6, h31, N_add, ni_N (by omega), e1, e2, N_add]; exact ix_N (by omega) (by decide)
  · rw [et]; exact g3
  · exact (((ESame_l (Or.inl rfl) (by omega)).tr (ESame_l (Or.inr rfl) (by omega))).tr (ESame_u (by decide))).tr g4.e
  · rw [g4 35 31 (by decide) (by decide), up_eq]
  · rw [g4 35 28 (by decide) (by decide), up_k (by decide), up_c (by decide), up_c (by decide)]
  · rw [r39, r40]
    have hc : mrun T S ((sg_up (sg_up (sg_up σ 39 (k + c) e) 40 (k + c) n) 35 31 (N (c + 1))) 39) ((sg_up (sg_up (sg_up σ 39 (k + c) e) 40 (k + c) n) 35 31 (N (c + 1))) 40) (k + c) = some x := by
      rw [← hx]
      refine mrun_congr (k + c) (fun j hj => ⟨?_, ?_⟩)
      · rw [up_c (by decide), up_c (by decide), up_k (by omega)]
      · rw [up_c (by decide), up_k (by omega), up_c (by decide)]
    rw [mrun_some hc, f39, f40]
    exact hs
  · rw [g4 35 29 (by decide) (by decide), up_k (by decide), up_c (by decide), up_c (by decide)]
  · rw [r39]; exact f39
  · rw [r40]; exact f40
/-- what a reading of an event leaves -/
def EvR (T S : Nat → Nat) (σ : sg_S) (k c t a : Nat) (r : Int32 × sg_S) : Prop := ESame k σ r.2 ∧ ∃ a', r.2 35 28 = N a' ∧ a ≤ a' ∧ a' ≤ t ∧ (¬ r.1 = 0 → r.2 35 31 = N (c + 1) ∧ k + c + 1 ≤ 400 ∧ ∃ y : mS, RefAt r.2 T S y.1 y.2.1 y.2.2 ∧ mrun T S (r.2 39) (r.2 40) (k + c + 1) = some y)
theorem EvR.of {σ σ1 : sg_S} {k c t a a1 : Nat} {r : Int32 × sg_S} (h : EvR T S σ1 k c t a1 r) (ha : a ≤ a1) (hs : ESame k σ σ1) : EvR T S σ k c t a r := by
  obtain ⟨h1, a', h2, h3, h4, h5⟩ := h
  exact ⟨hs.tr h1, a', h2, by omega, h4, h5⟩
theorem EvR_fail {t a : Nat} {x y : Int32} (ha : σ 35 28 = N a) (hat : a ≤ t) : EvR T S σ k c t a ((r_X5_fails σ x y).1, (r_X5_fails σ x y).2) :=
  ⟨ESame_u (by decide), a, by show sg_up σ 35 29 (x + 8 * y) 35 28 = N a; rw [up_k (by decide)]; exact ha, Nat.le_refl _, hat, fun z => absurd rfl z⟩
theorem EvR_157 {t a : Nat} {e n : Int32} (ha : σ 35 28 = N a) (hat : a ≤ t) (hR : RefAt σ T S x.1 x.2.1 x.2.2) (hO : OK T (S 1) (k + c) x.1 x.2.1 x.2.2) (h6 : σ 35 6 = N k) (h31 : σ 35 31 = N c) (hkc : k + c < 400) (hx : mrun T S (σ 39) (σ 40) (k + c) = some x) (hc : canS x.1 x.2.1 x.2.2 e n) :
    p_X5_readEvent_a157 σ e n ∧ EvR T S σ k c t a (r_X5_readEvent_a157 σ e n) := by
  obtain ⟨y, hy⟩ := stp_some (T := T) (mean := S 1) hc
  obtain ⟨q1, q2, q3, q4, q5, q6, q7, -⟩ := rev157 (y := y) hR hO h6 h31 hkc hx hy
  exact ⟨q1, q3, a, by rw [q6]; exact ha, Nat.le_refl _, hat, fun _ => ⟨q5, by omega, y, q4, q7⟩⟩
theorem rev105 {t a : Nat} {e : Int32} (h5 : t ≤ 500) (ha : σ 35 28 = N a) (ht : σ 35 26 = N t) (hat : a ≤ t) (hR : RefAt σ T S x.1 x.2.1 x.2.2) (hO : OK T (S 1) (k + c) x.1 x.2.1 x.2.2) (h6 : σ 35 6 = N k) (h31 : σ 35 31 = N c) (hkc : k + c < 400) (hx : mrun T S (σ 39) (σ 40) (k + c) = some x) (he : e = 99 ∧ x.1 < 2 ∨ e = 100 ∧ (x.1 = 0 ∨ x.1 = 1 ∧ x.2.1 = 0)) :
    p_X5_readEvent_a105 σ e ∧ EvR T S σ k c t a (r_X5_readEvent_a105 σ e) := by
  have hpl := skp_le (B := σ 57) (t - a) a
  have hel := dgE_le (B := σ 57) (t - skp (σ 57) (t - a) a) (skp (σ 57) (t - a) a)
  obtain ⟨n1, n2, n3, n4, n5, n6⟩ := rnum_ok ha ht hat h5 rfl rfl rfl
  have hR1 : RefAt (r_X5_readNumber σ).2 T S x.1 x.2.1 x.2.2 := RefAt_fr hR (fun q j hq => n2 q j (by omega))
  have h61 : (r_X5_readNumber σ).2 35 6 = N k := by rw [n2 35 6 (by decide)]; exact h6
  have h311 : (r_X5_readNumber σ).2 35 31 = N c := by rw [n2 35 31 (by decide)]; exact h31
  have hx1 : mrun T S ((r_X5_readNumber σ).2 39) ((r_X5_readNumber σ).2 40) (k + c) = some x := by
    rw [n2.row (q := 39) (by decide), n2.row (q := 40) (by decide)]; exact hx
  unfold p_X5_readEvent_a105 r_X5_readEvent_a105
  by_cases hr : ¬ (r_X5_readNumber σ).1 = 0
  · rw [if_pos hr]
    rcases he with ⟨he, hx2⟩ | ⟨he, hE⟩
    · subst he
      rw [if_neg (fun z => z rfl)]
      obtain ⟨m1, m2⟩ := mayCut_iff (n := (r_X5_readNumber σ).2 35 30) hR1 hx2 (hO.2.2.2.1 x.1 hx2)
      by_cases hm : ¬ v_X5_mayCut (r_X5_readNumber σ).2 ((r_X5_readNumber σ).2 35 30) = 0
      · rw [if_pos hm]
        obtain ⟨q1, q2⟩ := EvR_157 (e := 99) (n := (r_X5_readNumber σ).2 35 30) n3 (by omega : _ ≤ t) hR1 hO h61 h311 hkc hx1 ⟨Or.inr (Or.inr (Or.inr (Or.inr (Or.inl rfl)))), fun z => absurd z (by decide), fun _ => hx2, fun _ => m2.mp hm⟩
        exact ⟨⟨n1, fun _ => ⟨fun z => absurd rfl z, fun _ => ⟨m1, fun _ => q1⟩⟩⟩, q2.of (by omega) n2.e⟩
      · rw [if_neg hm]
        exact ⟨⟨n1, fun _ => ⟨fun z => absurd rfl z, fun _ => ⟨m1, fun z => absurd z hm⟩⟩⟩, (EvR_fail n3 (by omega)).of (by omega) n2.e⟩
    · subst he
      rw [if_pos (by decide)]
      have m2 := mayDrop_iff (n := (r_X5_readNumber σ).2 35 30) hR1 (hO.2.2.2.1 1 (by decide))
      by_cases hm : ¬ v_X5_mayDrop (r_X5_readNumber σ).2 ((r_X5_readNumber σ).2 35 30) = 0
      · rw [if_pos hm]
        obtain ⟨q1, q2⟩ := EvR_157 (e := 100) (n := (r_X5_readNumber σ).2 35 30) n3 (by omega : _ ≤ t) hR1 hO h61 h311 hkc hx1 ⟨Or.inr (Or.inr (Or.inr (Or.inr (Or.inr (Or.inl rfl))))), fun _ => ⟨hE, m2.mp hm⟩, fun z => absurd rfl z, fun z => absurd z (by decide)⟩
        exact ⟨⟨n1, fun _ => ⟨fun _ _ => q1, fun z => absurd (by decide) z⟩⟩, q2.of (by omega) n2.e⟩
      · rw [if_neg hm]
        exact ⟨⟨n1, fun _ => ⟨fun _ z => absurd z hm, fun z => absurd (by decide) z⟩⟩, (EvR_fail n3 (by omega)).of (by omega) n2.e⟩
  · rw [if_neg hr]
    exact ⟨⟨n1, fun z => absurd z hr⟩, n2.e, _, n3, by omega, by omega, fun z => absurd rfl z⟩
theorem rev78 {t a : Nat} {e w y0 : Int32} (h5 : t ≤ 500) (ha : σ 35 28 = N a) (ht : σ 35 26 = N t) (hat : a ≤ t) (hR : RefAt σ T S x.1 x.2.1 x.2.2) (hO : OK T (S 1) (k + c) x.1 x.2.1 x.2.2) (h6 : σ 35 6 = N k) (h31 : σ 35 31 = N c) (hkc : ¬ y0 = 0 → k + c < 400) (hx : mrun T S (σ 39) (σ 40) (k + c) = some x) (he : isEv e) (hy : ¬ y0 = 0 → (¬ e = 100 → x.1 < 2) ∧ (e = 100 → (x.1 = 0 ∨ x.1 = 1 ∧ x.2.1 = 0))) :
    p_X5_readEvent_a78 σ e w y0 ∧ EvR T S σ k c t a (r_X5_readEvent_a78 σ e w y0) := by
  unfold p_X5_readEvent_a78 r_X5_readEvent_a78
  by_cases h0 : ¬ y0 = 0
  · rw [if_pos h0]
    obtain ⟨y1, y2⟩ := hy h0
    by_cases h99 : e = 99
    · rw [if_pos h99]
      obtain ⟨q1, q2⟩ := rev105 (e := e) h5 ha ht hat hR hO h6 h31 (hkc h0) hx (Or.inl ⟨h99, y1 (by rw [h99]; decide)⟩)
      exact ⟨fun _ => ⟨fun _ => q1, fun z => absurd h99 z⟩, q2⟩
    rw [if_neg h99]
    by_cases h100 : e = 100
    · rw [if_neg (fun z => z h100)]
      obtain ⟨q1, q2⟩ := rev105 (e := e) h5 ha ht hat hR hO h6 h31 (hkc h0) hx (Or.inr ⟨h100, y2 h100⟩)
      exact ⟨fun _ => ⟨fun z => absurd z h99, fun _ => ⟨fun z => absurd h100 z, fun _ => q1⟩⟩, q2⟩
    · rw [if_pos h100]
      obtain ⟨q1, q2⟩ := EvR_157 (e := e) (n := 0) ha hat hR hO h6 h31 (hkc h0) hx ⟨he, fun z => absurd z h100, y1, fun z => absurd z h99⟩
      exact ⟨fun _ => ⟨fun z => absurd z h99, fun _ => ⟨fun _ => q1, fun z => absurd h100 z⟩⟩, q2⟩
  · rw [if_neg h0]
    exact ⟨fun z => absurd z h0, EvR_fail ha hat⟩
theorem rev_ok {t a : Nat} (h5 : t ≤ 500) (ha : σ 35 28 = N a) (ht : σ 35 26 = N t) (hat : a ≤ t) (hR : RefAt σ T S x.1 x.2.1 x.2.2) (hO : OK T (S 1) (k + c) x.1 x.2.1 x.2.2) (h6 : σ 35 6 = N k) (h31 : σ 35 31 = N c) (hkc : k + c ≤ 400) (hx : mrun T S (σ 39) (σ 40) (k + c) = some x) :
    p_X5_readEvent σ ∧ EvR T S σ k c t a (r_X5_readEvent σ) ∧ (¬ (r_X5_readEvent σ).1 = 0 → EvR T S σ k c t (a + 1) (r_X5_readEvent σ)) := by
  obtain ⟨h1, h2, h3⟩ := here_ok ha ht hat h5
  have hl := skp_le (B := σ 57) (t - a) a
  have h28 : (r_X5_here σ).2 35 28 = N (skp (σ 57) (t - a) a) := by rw [h3]; exact up_eq
  have hE1 : ESame k σ (r_X5_here σ).2 := by rw [h3]; exact ESame_u (by decide)
  unfold p_X5_readEvent r_X5_readEvent
  by_cases g : ¬ v_X5_isEvent (r_X5_here σ).1 = 0
  · rw [if_pos g]
    have hev := isEvent5.mp g
    have hlt : skp (σ 57) (t - a) a < t := by
      by_cases z : skp (σ 57) (t - a) a < t
      · exact z
      · rw [h2, if_neg z] at g
        exact absurd (by decide) g
    have et : t_X5_readEvent_0 σ = sg_up σ 35 28 (N (skp (σ 57) (t - a) a + 1)) := by
      unfold t_X5_readEvent_0
      rw [h28, h3, up_up, N_inc]
    rw [et]
    have ha2 : (sg_up σ 35 28 (N (skp (σ 57) (t - a) a + 1))) 35 28 = N (skp (σ 57) (t - a) a + 1) := up_eq
    have ht2 : (sg_up σ 35 28 (N (skp (σ 57) (t - a) a + 1))) 35 26 = N t := by rw [up_k (by decide)]; exact ht
    have hR2 : RefAt (sg_up σ 35 28 (N (skp (σ 57) (t - a) a + 1))) T S x.1 x.2.1 x.2.2 := RefAt_fr hR (fun q j hq => up_ne (by omega))
    have h62 : (sg_up σ 35 28 (N (skp (σ 57) (t - a) a + 1))) 35 6 = N k := by rw [up_k (by decide)]; exact h6
    have h312 : (sg_up σ 35 28 (N (skp (σ 57) (t - a) a + 1))) 35 31 = N c := by rw [up_k (by decide)]; exact h31
    have hx2 : mrun T S ((sg_up σ 35 28 (N (skp (σ 57) (t - a) a + 1))) 39) ((sg_up σ 35 28 (N (skp (σ 57) (t - a) a + 1))) 40) (k + c) = some x := by
      rw [show (sg_up σ 35 28 (N (skp (σ 57) (t - a) a + 1))) 39 = σ 39 from funext (fun j => up_c (by decide)), show (sg_up σ 35 28 (N (skp (σ 57) (t - a) a + 1))) 40 = σ 40 from funext (fun j => up_c (by decide))]
      exact hx
    have hES : ESame k σ (sg_up σ 35 28 (N (skp (σ 57) (t - a) a + 1))) := ESame_u (by decide)
    have hc4 : ((400 : Int32) ≤ (sg_up σ 35 28 (N (skp (σ 57) (t - a) a + 1))) 35 6 + (sg_up σ 35 28 (N (skp (σ 57) (t - a) a + 1))) 35 31) ↔ ¬ k + c < 400 := by
      rw [h62, h312, N_add]
      show (N 400 ≤ N (k + c)) ↔ _
      rw [N_le (by decide) (by omega)]; omega
    have hno := now_lt hR2 hO.1
    have hea := isEarly_iff hR2 hO.1 hO.2.1
    have key : ∀ y0 : Int32, (¬ y0 = 0 → k + c < 400) → (¬ y0 = 0 → (¬ (r_X5_here σ).1 = 100 → x.1 < 2) ∧ ((r_X5_here σ).1 = 100 → (x.1 = 0 ∨ x.1 = 1 ∧ x.2.1 = 0))) → p_X5_readEvent_a78 (sg_up σ 35 28 (N (skp (σ 57) (t - a) a + 1))) (r_X5_here σ).1 ((r_X5_here σ).2 35 28) y0 ∧ EvR T S σ k c t a (r_X5_readEvent_a78 (sg_up σ 35 28 (N (skp (σ 57) (t - a) a + 1))) (r_X5_here σ).1 ((r_X5_here σ).2 35 28) y0) ∧ (¬ (r_X5_readEvent_a78 (sg_up σ 35 28 (N (skp (σ 57) (t - a) a + 1))) (r_X5_here σ).1 ((r_X5_here σ).2 35 28) y0).1 = 0 → EvR T S σ k c t (a + 1) (r_X5_readEvent_a78 (sg_up σ 35 28 (N (skp (σ 57) (t - a) a + 1))) (r_X5_here σ).1 ((r_X5_here σ).2 35 28) y0)) := by
      intro y0 k1 k2
      obtain ⟨q1, q2⟩ := rev78 (w := (r_X5_here σ).2 35 28) (y0 := y0) h5 ha2 ht2 (by omega) hR2 hO h62 h312 k1 hx2 hev k2
      exact ⟨q1, q2.of (by omega) hES, fun _ => q2.of (by omega) hES⟩
    have key0 := key 0 (fun z => absurd rfl z) (fun z => absurd rfl z)
    by_cases c4 : (400 : Int32) ≤ (sg_up σ 35 28 (N (skp (σ 57) (t - a) a + 1))) 35 6 + (sg_up σ 35 28 (N (skp (σ 57) (t - a) a + 1))) 35 31
    · rw [if_pos c4]
      exact ⟨⟨h1, fun _ => ⟨fun _ => key0.1, fun z => absurd c4 z⟩⟩, key0.2⟩
    rw [if_neg c4]
    have c4' : k + c < 400 := Decidable.not_not.mp (fun z => c4 (hc4.mpr z))
    by_cases h100 : (r_X5_here σ).1 = 100
    · rw [if_neg (fun z => z h100)]
      by_cases hy : v_X5_isEarly (sg_up σ 35 28 (N (skp (σ 57) (t - a) a + 1))) = 0
      · rw [if_pos hy]
        exact ⟨⟨h1, fun _ => ⟨fun z => absurd z c4, fun _ => ⟨fun z => absurd h100 z, fun _ => ⟨fun _ => key0.1, fun z => absurd hy z⟩⟩⟩⟩, key0.2⟩
      · rw [if_neg hy]
        have key1 := key 1 (fun _ => c4') (fun _ => ⟨fun z => absurd h100 z, fun _ => hea.mp hy⟩)
        exact ⟨⟨h1, fun _ => ⟨fun z => absurd z c4, fun _ => ⟨fun z => absurd h100 z, fun _ => ⟨fun z => absurd z hy, fun _ => key1.1⟩⟩⟩⟩, key1.2⟩
    · rw [if_pos h100]
      by_cases hy : (2 : Int32) ≤ (sg_up σ 35 28 (N (skp (σ 57) (t - a) a + 1))) 35 23
      · rw [if_pos hy]
        exact ⟨⟨h1, fun _ => ⟨fun z => absurd z c4, fun _ => ⟨fun _ => ⟨fun _ => key0.1, fun z => absurd hy z⟩, fun z => absurd h100 z⟩⟩⟩, key0.2⟩
      · rw [if_neg hy]
        have key1 := key 1 (fun _ => c4') (fun _ => ⟨fun _ => Decidable.not_not.mp (fun z => hy (hno.mpr z)), fun z => absurd z h100⟩)
        exact ⟨⟨h1, fun _ => ⟨fun z => absurd z c4, fun _ => ⟨fun _ => ⟨fun z => absurd z hy, fun _ => key1.1⟩, fun z => absurd h100 z⟩⟩⟩, key1.2⟩
  · rw [if_neg g]
    exact ⟨⟨h1, fun z => absurd z g⟩, (EvR_fail h28 (by omega)).of (by omega) hE1, fun z => absurd rfl z⟩
end REv
/-- what a reading of all events leaves -/
def EvsR (T S : Nat → Nat) (σ : sg_S) (k : Nat) (r : Int32 × sg_S) : Prop := ESame k σ r.2 ∧ (¬ r.1 = 0 → ∃ c, r.2 35 31 = N c ∧ k + c ≤ 400 ∧ ∃ y : mS, mrun T S (r.2 39) (r.2 40) (k + c) = some y)
theorem revs4 {T S : Nat → Nat} {t k : Nat} (h5 : t ≤ 500) : ∀ (n a c : Nat) (σ : sg_S) (x : mS), t - a < n → σ 35 28 = N a → σ 35 26 = N t → a ≤ t → RefAt σ T S x.1 x.2.1 x.2.2 → σ 35 6 = N k → σ 35 31 = N c → k + c ≤ 400 → mrun T S (σ 39) (σ 40) (k + c) = some x → p_X5_readEvents_l4 n σ ∧ EvsR T S σ k (r_X5_readEvents_l4 n σ) := by
  intro n
  induction n with
  | zero => intro a c σ x hn; omega
  | succ n ih =>
    intro a c σ x hn ha ht hat hR h6 h31 hkc hx
    show p_X5_readEvents_b4 (p_X5_readEvents_l4 n) σ ∧ EvsR T S σ k (r_X5_readEvents_b4 (r_X5_readEvents_l4 n) σ)
    unfold p_X5_readEvents_b4 r_X5_readEvents_b4
    obtain ⟨h1, h2, h3⟩ := here_ok ha ht hat h5
    have hl := skp_le (B := σ 57) (t - a) a
    have hO := mrun_OK hR.2.1 hR.2.2.2.1 (k + c) x hx
    have h28 : (r_X5_here σ).2 35 28 = N (skp (σ 57) (t - a) a) := by rw [h3]; exact up_eq
    have h26 : (r_X5_here σ).2 35 26 = N t := by rw [h3, up_k (by decide)]; exact ht
    have hR1 : RefAt (r_X5_here σ).2 T S x.1 x.2.1 x.2.2 := by rw [h3]; exact RefAt_fr hR (fun q j hq => up_ne (by omega))
    have h61 : (r_X5_here σ).2 35 6 = N k := by rw [h3, up_k (by decide)]; exact h6
    have h311 : (r_X5_here σ).2 35 31 = N c := by rw [h3, up_k (by decide)]; exact h31
    have hE1 : ESame k σ (r_X5_here σ).2 := by rw [h3]; exact ESame_u (by decide)
    have hx1 : mrun T S ((r_X5_here σ).2 39) ((r_X5_here σ).2 40) (k + c) = some x := by
      rw [h3, show (sg_up σ 35 28 (N (skp (σ 57) (t - a) a))) 39 = σ 39 from funext (fun j => up_c (by decide)), show (sg_up σ 35 28 (N (skp (σ 57) (t - a) a))) 40 = σ 40 from funext (fun j => up_c (by decide))]
      exact hx
    by_cases g : (r_X5_here σ).1 = -1
    · rw [if_pos g]
      exact ⟨⟨h1, fun z => absurd g z⟩, hE1, fun _ => ⟨c, h311, hkc, x, hx1⟩⟩
    · rw [if_neg g]
      obtain ⟨r1, r2, r3⟩ := rev_ok h5 h28 h26 (by omega) hR1 hO h61 h311 hkc hx1
      by_cases hr : ¬ (r_X5_readEvent (r_X5_here σ).2).1 = 0
      · rw [if_pos hr]
        obtain ⟨v1, a', v2, v3, v4, v5⟩ := r3 hr
        obtain ⟨w1, w2, y, w3, w4⟩ := v5 hr
        obtain ⟨i1, i2, i3⟩ := ih a' (c + 1) _ y (by omega) v2 (by rw [v1 35 26 (by decide) (by decide) (by omega)]; exact h26) v4 w3 (by rw [v1 35 6 (by decide) (by decide) (by omega)]; exact h61) w1 w2 w4
        exact ⟨⟨h1, fun _ => ⟨r1, fun _ => i1⟩⟩, (hE1.tr v1).tr i2, i3⟩
      · rw [if_neg hr]
        obtain ⟨v1, -⟩ := r2
        refine ⟨⟨h1, fun _ => ⟨r1, fun z => absurd z hr⟩⟩, ?_, fun z => absurd rfl z⟩
        dsimp only
        exact hE1.tr v1
