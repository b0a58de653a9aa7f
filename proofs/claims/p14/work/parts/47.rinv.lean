/-! WHAT HOLDS OF THE REFERENCE BETWEEN CALLS -/
def RInv (σ : sg_S) (T S : Nat → Nat) (k t : Nat) : Prop := TabAt σ 37 T ∧ TabOK T ∧ SetAt σ 36 S ∧ SetOK S ∧ σ 35 6 = N k ∧ k ≤ 400 ∧ (∃ x, mrun T S (σ 39) (σ 40) k = some x) ∧ σ 35 26 = N t ∧ t ≤ 500
def LoS (σ σ' : sg_S) : Prop := ∀ q k, q < 35 → σ' q k = σ q k
theorem LoS.rf {σ : sg_S} : LoS σ σ := fun _ _ _ => rfl
theorem LoS.tr {σ σ1 σ2 : sg_S} (h : LoS σ σ1) (h' : LoS σ1 σ2) : LoS σ σ2 := fun q k a => (h' q k a).trans (h q k a)
theorem LoS_u {σ : sg_S} {q0 k0 : Nat} {v : Int32} (h : 35 ≤ q0) : LoS σ (sg_up σ q0 k0 v) := fun q k h1 => up_c (by omega)
theorem RSame.lo {σ σ' : sg_S} (h : RSame σ σ') : LoS σ σ' := fun q k h1 => h q k (by omega) (by omega)
theorem XSame.lo {σ σ' : sg_S} (h : XSame σ σ') : LoS σ σ' := fun q k h1 => h q k (by omega) (by omega)
theorem ESame.lo {k : Nat} {σ σ' : sg_S} (h : ESame k σ σ') : LoS σ σ' := fun q j h1 => h q j (by omega) (by omega) (by omega)
theorem RInv_of {σ σ' : sg_S} {T S : Nat → Nat} {k t t' : Nat} (h : RInv σ T S k t) (h37 : ∀ j, j < 50 → σ' 37 j = σ 37 j) (h36 : ∀ j, j < 5 → σ' 36 j = σ 36 j) (h6 : σ' 35 6 = σ 35 6) (hl : ∀ j, j < k → σ' 39 j = σ 39 j ∧ σ' 40 j = σ 40 j) (ht : σ' 35 26 = N t') (h5 : t' ≤ 500) : RInv σ' T S k t' := by
  obtain ⟨a1, a2, a3, a4, a5, a6, ⟨x, a7⟩, a8, a9⟩ := h
  exact ⟨fun j hj => by rw [h37 j hj]; exact a1 j hj, a2, fun j hj => by rw [h36 j hj]; exact a3 j hj, a4, by rw [h6]; exact a5, a6, ⟨x, by rw [← a7]; exact mrun_congr k hl⟩, ht, h5⟩
/-- a call that asks: cells of the match, raised, blocks and rests change -/
def QSame (σ σ' : sg_S) : Prop := ∀ q k, ¬ (41 ≤ q ∧ q ≤ 56) → ¬ (q = 58 ∨ q = 59) → ¬ (q = 35 ∧ (k = 0 ∨ k = 23 ∨ k = 24)) → σ' q k = σ q k
theorem QSame.rf {σ : sg_S} : QSame σ σ := fun _ _ _ _ _ => rfl
theorem QSame.tr {σ σ1 σ2 : sg_S} (h : QSame σ σ1) (h' : QSame σ1 σ2) : QSame σ σ2 := fun q k a b c => (h' q k a b c).trans (h q k a b c)
theorem RSame.q {σ σ' : sg_S} (h : RSame σ σ') : QSame σ σ' := fun q k h1 _ h3 => h q k h1 (by omega)
theorem QSame_0 {σ : sg_S} {v : Int32} : QSame σ (sg_up σ 35 0 v) := fun q k _ _ h3 => up_ne (by omega)
theorem QSame_b {σ : sg_S} {q0 k0 : Nat} {v : Int32} (h : q0 = 58 ∨ q0 = 59) : QSame σ (sg_up σ q0 k0 v) := fun q k _ h2 _ => up_ne (by omega)
theorem QSame.lo {σ σ' : sg_S} (h : QSame σ σ') : LoS σ σ' := fun q k h1 => h q k (by omega) (by omega) (by omega)
theorem QSame.inv {σ σ' : sg_S} {T S : Nat → Nat} {k t : Nat} (hs : QSame σ σ') (h : RInv σ T S k t) : RInv σ' T S k t :=
  RInv_of h (fun j _ => hs 37 j (by decide) (by decide) (by omega)) (fun j _ => hs 36 j (by decide) (by decide) (by omega)) (hs 35 6 (by decide) (by decide) (by decide)) (fun j _ => ⟨hs 39 j (by decide) (by decide) (by omega), hs 40 j (by decide) (by decide) (by omega)⟩) (by rw [hs 35 26 (by decide) (by decide) (by decide)]; exact h.2.2.2.2.2.2.2.1) h.2.2.2.2.2.2.2.2
section RCalls
variable {σ : sg_S} {T S : Nat → Nat} {k t : Nat}
theorem RInv_0 {v : Int32} (h : RInv σ T S k t) : RInv (sg_up σ 35 0 v) T S k t := QSame_0.inv h
/-- the reference goes on, from between calls -/
theorem goesOn_ok {x : mS} (h : RInv σ T S k t) (hx : mrun T S (σ 39) (σ 40) k = some x) : p_X5_goesOn σ ∧ RefAt (s_X5_goesOn σ) T S x.1 x.2.1 x.2.2 ∧ OK T (S 1) k x.1 x.2.1 x.2.2 ∧ RSame σ (s_X5_goesOn σ) := by
  obtain ⟨a1, a2, a3, a4, a5, a6, -, a8, a9⟩ := h
  unfold p_X5_goesOn s_X5_goesOn
  rw [a5]
  exact goesTo_ok a1 a2 a3 a4 a6 hx
/-! feed -/
theorem four_eq {x : Int32} : s_X5_four σ x = t_X5_four_1 (t_X5_four_1 (t_X5_four_1 (t_X5_four_1 σ x 24) x 16) x 8) x 0 := by
  show s_X5_four_b3 (s_X5_four_l3 599) σ x 24 = _
  unfold s_X5_four_b3
  rw [if_neg (by decide)]
  show s_X5_four_b3 (s_X5_four_l3 598) (t_X5_four_1 σ x 24) x 16 = _
  unfold s_X5_four_b3
  rw [if_neg (by decide)]
  show s_X5_four_b3 (s_X5_four_l3 597) (t_X5_four_1 (t_X5_four_1 σ x 24) x 16) x 8 = _
  unfold s_X5_four_b3
  rw [if_neg (by decide)]
  show s_X5_four_b3 (s_X5_four_l3 596) (t_X5_four_1 (t_X5_four_1 (t_X5_four_1 σ x 24) x 16) x 8) x 0 = _
  unfold s_X5_four_b3
  rw [if_neg (by decide)]
  show s_X5_four_b3 (s_X5_four_l3 595) (t_X5_four_1 (t_X5_four_1 (t_X5_four_1 (t_X5_four_1 σ x 24) x 16) x 8) x 0) x (-8) = _
  unfold s_X5_four_b3
  rw [if_pos (by decide)]
theorem pfour_of {x : Int32} (h0 : ix (σ 35 26) 500) (h1 : ix ((t_X5_four_1 σ x 24) 35 26) 500) (h2 : ix ((t_X5_four_1 (t_X5_four_1 σ x 24) x 16) 35 26) 500) (h3 : ix ((t_X5_four_1 (t_X5_four_1 (t_X5_four_1 σ x 24) x 16) x 8) 35 26) 500) : p_X5_four σ x :=
  fun _ => ⟨h0, fun _ => ⟨h1, fun _ => ⟨h2, fun _ => ⟨h3, fun z => absurd (show (-8 : Int32) < 0 by decide) z⟩⟩⟩⟩
def fb (x s : Int32) : Int32 := (ip_bI 6 x s) &&& 255
theorem fstep {a : Nat} {x s : Int32} (ha : σ 35 26 = N a) (h5 : a < 500) : t_X5_four_1 σ x s = sg_up (sg_up σ 57 a (fb x s)) 35 26 (N (a + 1)) := by
  unfold t_X5_four_1 t_X5_four_0
  rw [ha, ni_N (by omega), up_c (by decide), ha, N_inc]
  rfl
def FSame (σ σ' : sg_S) : Prop := ∀ q k, ¬ q = 57 → ¬ (q = 35 ∧ (k = 26 ∨ k = 0)) → σ' q k = σ q k
theorem FSame.tr {σ σ1 σ2 : sg_S} (h : FSame σ σ1) (h' : FSame σ1 σ2) : FSame σ σ2 := fun q k a b => (h' q k a b).trans (h q k a b)
theorem FSame.lo {σ σ' : sg_S} (h : FSame σ σ') : LoS σ σ' := fun q k h1 => h q k (by omega) (by omega)
/-- four bytes of a word -/
def fB4 (x : Int32) (j : Nat) : Int32 := if j = 0 then fb x 24 else if j = 1 then fb x 16 else if j = 2 then fb x 8 else fb x 0
theorem four_ok {a : Nat} {x : Int32} (ha : σ 35 26 = N a) (h5 : a + 4 ≤ 500) : p_X5_four σ x ∧ (s_X5_four σ x) 35 26 = N (a + 4) ∧ FSame σ (s_X5_four σ x) ∧ (∀ j, (s_X5_four σ x) 57 j = if a ≤ j ∧ j < a + 4 then fB4 x (j - a) else σ 57 j) := by
  have e1 := fstep (x := x) (s := 24) ha (by omega)
  have a1 : (t_X5_four_1 σ x 24) 35 26 = N (a + 1) := by rw [e1]; exact up_eq
  have e2 := fstep (x := x) (s := 16) a1 (by omega)
  have a2 : (t_X5_four_1 (t_X5_four_1 σ x 24) x 16) 35 26 = N (a + 1 + 1) := by rw [e2]; exact up_eq
  have e3 := fstep (x := x) (s := 8) a2 (by omega)
  have a3 : (t_X5_four_1 (t_X5_four_1 (t_X5_four_1 σ x 24) x 16) x 8) 35 26 = N (a + 1 + 1 + 1) := by rw [e3]; exact up_eq
  have e4 := fstep (x := x) (s := 0) a3 (by omega)
  refine ⟨pfour_of (by rw [ha]; exact ix_N (by omega) (by decide)) (by rw [a1]; exact ix_N (by omega) (by decide)) (by rw [a2]; exact ix_N (by omega) (by decide)) (by rw [a3]; exact ix_N (by omega) (by decide)), ?_, ?_, ?_⟩
  · rw [four_eq, e4, up_eq]
  · intro q k h1 h2
    rw [four_eq, e4, e3, e2, e1]
    simp (disch := omega) only [up_ne]
  · intro j
    rw [four_eq, e4, up_c (by decide), e3, up_ite, up_c (by decide), e2, up_ite, up_c (by decide), e1, up_ite, up_c (by decide), up_ite]
    unfold fB4
    repeat' split
    all_goals first | rfl | omega
theorem RInv_F {σ' : sg_S} {t' : Nat} (h : RInv σ T S k t) (hs : FSame σ σ') (ht : σ' 35 26 = N t') (h5 : t' ≤ 500) : RInv σ' T S k t' :=
  RInv_of h (fun j _ => hs 37 j (by decide) (by omega)) (fun j _ => hs 36 j (by decide) (by omega)) (hs 35 6 (by decide) (by decide)) (fun j _ => ⟨hs 39 j (by decide) (by omega), hs 40 j (by decide) (by omega)⟩) ht h5
def fB20 (a b c d e : Int32) (j : Nat) : Int32 := if j < 4 then fB4 a j else if j < 8 then fB4 b (j - 4) else if j < 12 then fB4 c (j - 8) else if j < 16 then fB4 d (j - 12) else fB4 e (j - 16)
theorem R_feed {x0 x1 x2 x3 x4 : Int32} (h : RInv σ T S k t) : p_X5_feed σ x0 x1 x2 x3 x4 ∧ (t + 20 ≤ 500 → (r_X5_feed σ x0 x1 x2 x3 x4).1 = N (t + 20) ∧ RInv (r_X5_feed σ x0 x1 x2 x3 x4).2 T S k (t + 20) ∧ (∀ j, (r_X5_feed σ x0 x1 x2 x3 x4).2 57 j = if t ≤ j ∧ j < t + 20 then fB20 x0 x1 x2 x3 x4 (j - t) else σ 57 j)) ∧ (¬ t + 20 ≤ 500 → (r_X5_feed σ x0 x1 x2 x3 x4).1 = -1 ∧ RInv (r_X5_feed σ x0 x1 x2 x3 x4).2 T S k t ∧ (∀ j, (r_X5_feed σ x0 x1 x2 x3 x4).2 57 j = σ 57 j)) ∧ FSame σ (r_X5_feed σ x0 x1 x2 x3 x4).2 := by
  have ht : σ 35 26 = N t := h.2.2.2.2.2.2.2.1
  have h5 : t ≤ 500 := h.2.2.2.2.2.2.2.2
  have ht0 : (sg_up σ 35 0 0) 35 26 = N t := by rw [up_k (by decide)]; exact ht
  have hF0 : FSame σ (sg_up σ 35 0 0) := fun q k _ h2 => up_ne (by omega)
  have hc : ((sg_up σ 35 0 0) 35 26 + 20 ≤ 500) ↔ t + 20 ≤ 500 := by
    rw [ht0]
    show (N t + N 20 ≤ N 500) ↔ _
    rw [N_add, N_le (by omega) (by decide)]
  unfold p_X5_feed r_X5_feed
  by_cases g : t + 20 ≤ 500
  · have g' := hc.mpr g
    rw [if_pos g']
    obtain ⟨p1, b1, c1, d1⟩ := four_ok (x := x0) ht0 (by omega)
    obtain ⟨p2, b2, c2, d2⟩ := four_ok (x := x1) b1 (by omega)
    obtain ⟨p3, b3, c3, d3⟩ := four_ok (σ := t_X5_feed_0 σ x0 x1 x2 x3 x4) (x := x2) b2 (by omega)
    obtain ⟨p4, b4, c4, d4⟩ := four_ok (x := x3) b3 (by omega)
    obtain ⟨p5, b5, c5, d5⟩ := four_ok (σ := t_X5_feed_1 σ x0 x1 x2 x3 x4) (x := x4) b4 (by omega)
    have hF : FSame σ (s_X5_four (t_X5_feed_1 σ x0 x1 x2 x3 x4) x4) := ((((hF0.tr c1).tr c2).tr c3).tr c4).tr c5
    refine ⟨fun _ => ⟨p1, p2, p3, p4, p5⟩, fun _ => ⟨b5, RInv_F h hF b5 g, fun j => ?_⟩, fun z => absurd g z, hF⟩
    refine (d5 j).trans ?_
    rw [show (t_X5_feed_1 σ x0 x1 x2 x3 x4) 57 j = _ from d4 j, d3, show (t_X5_feed_0 σ x0 x1 x2 x3 x4) 57 j = _ from d2 j, d1, up_c (by decide)]
    unfold fB20
    repeat' split
    all_goals first | rfl | omega | (congr 1; omega)
  · have g' : ¬ ((sg_up σ 35 0 0) 35 26 + 20 ≤ 500) := fun z => g (hc.mp z)
    rw [if_neg g']
    exact ⟨fun z => absurd z g', fun z => absurd z g, fun _ => ⟨rfl, RInv_F h hF0 ht0 h5, fun j => by dsimp only; rw [up_c (by decide)]⟩, hF0⟩
/-! end -/
theorem R_end {n : Int32} (h : RInv σ T S k t) : (∀ a, n = N a → a ≤ t → (r_X5_end σ n).1 = 1 ∧ RInv (r_X5_end σ n).2 T S k a) ∧ ((∀ a, n = N a → ¬ a ≤ t) → (r_X5_end σ n).1 = 0 ∧ RInv (r_X5_end σ n).2 T S k t) ∧ FSame σ (r_X5_end σ n).2 ∧ (∀ j, (r_X5_end σ n).2 57 j = σ 57 j) := by
  have ht : σ 35 26 = N t := h.2.2.2.2.2.2.2.1
  have h5 : t ≤ 500 := h.2.2.2.2.2.2.2.2
  have ht0 : (sg_up σ 35 0 0) 35 26 = N t := by rw [up_k (by decide)]; exact ht
  have hF0 : FSame σ (sg_up σ 35 0 0) := fun q k _ h2 => up_ne (by omega)
  unfold r_X5_end
  rw [ht0]
  by_cases g : ¬ v_X5_in n 0 (N t) = 0
  · rw [if_pos g]
    obtain ⟨a, rfl, -, ha⟩ := in_ex (lo := 0) (by decide) (by omega) g
    have hF : FSame σ (sg_up (sg_up σ 35 0 0) 35 26 (N a)) := hF0.tr (fun q k _ h2 => up_ne (by omega))
    refine ⟨fun b e hb => ?_, fun z => absurd ha (z a rfl), hF, fun j => by dsimp only; rw [up_c (by decide), up_c (by decide)]⟩
    dsimp only
    rw [e] at hF ⊢
    exact ⟨rfl, RInv_F h hF up_eq (by omega)⟩
  · rw [if_neg g]
    refine ⟨fun a e ha => ?_, fun _ => ⟨rfl, RInv_F h hF0 ht0 h5⟩, hF0, fun j => by dsimp only; rw [up_c (by decide)]⟩
    subst e
    exact absurd (in_nz (lo := 0) (Nat.zero_le _) ha (by omega)) g
/-! table -/
theorem beginsText_eq : s_X5_beginsText σ = sg_up (sg_up (sg_up (sg_up σ 35 0 0) 35 28 0) 35 29 0) 35 31 0 := rfl
theorem tab30 {V : Nat → Nat} : ∀ (n j : Nat) (σ : sg_S), j ≤ 50 → 50 - j < n → TabAt σ 38 V → (∀ i, i < j → σ 37 i = N (V i)) → p_X5_table_l30 n σ (N j) ∧ (r_X5_table_l30 n σ (N j)).1 = σ 35 31 ∧ (r_X5_table_l30 n σ (N j)).2 35 6 = 0 ∧ TabAt (r_X5_table_l30 n σ (N j)).2 37 V ∧ (∀ q i, ¬ q = 37 → ¬ (q = 35 ∧ i = 6) → (r_X5_table_l30 n σ (N j)).2 q i = σ q i) := by
  intro n
  induction n with
  | zero => intro j σ _ hn; omega
  | succ n ih =>
    intro j σ hj hn hV hd
    show p_X5_table_b30 (p_X5_table_l30 n) σ (N j) ∧ (r_X5_table_b30 (r_X5_table_l30 n) σ (N j)).1 = σ 35 31 ∧ (r_X5_table_b30 (r_X5_table_l30 n) σ (N j)).2 35 6 = 0 ∧ TabAt (r_X5_table_b30 (r_X5_table_l30 n) σ (N j)).2 37 V ∧ (∀ q i, ¬ q = 37 → ¬ (q = 35 ∧ i = 6) → (r_X5_table_b30 (r_X5_table_l30 n) σ (N j)).2 q i = σ q i)
    unfold p_X5_table_b30 r_X5_table_b30
    by_cases e : j = 50
    · have hc : (50 : Int32) ≤ N j := (N14 (L := 50) hj (by decide)).mpr e
      rw [if_pos hc]
      dsimp only
      exact ⟨fun z => absurd hc z, up_k (by decide), up_eq, fun i hi => by rw [up_c (by decide)]; exact hd i (by omega), fun q i h1 h2 => up_ne h2⟩
    · have hc : ¬ (50 : Int32) ≤ N j := fun z => e ((N14 (L := 50) hj (by decide)).mp z)
      have hx : ix (N j) 50 := ix_N (by omega) (by decide)
      rw [if_neg hc, N_inc, ni_N (by omega)]
      obtain ⟨i1, i2, i3, i4, i5⟩ := ih (j + 1) (sg_up σ 37 j (σ 38 j)) (by omega) (by omega) (TabAt_up hV (by decide)) (fun i hi => by
        by_cases e2 : i = j
        · subst e2; rw [up_eq]; exact hV i (by omega)
        · rw [up_k e2]; exact hd i (by omega))
      refine ⟨fun _ => ⟨hx, hx, i1⟩, i2.trans (up_c (by decide)), i3, i4, fun q i h1 h2 => (i5 q i h1 h2).trans (up_c h1)⟩
theorem R_table (h : RInv σ T S k t) : p_X5_table σ ∧ (∃ T' k', RInv (r_X5_table σ).2 T' S k' 0) ∧ LoS σ (r_X5_table σ).2 := by
  obtain ⟨a1, a2, a3, a4, a5, a6, a7, a8, a9⟩ := id h
  have hb : ∀ q j, ¬ (q = 35 ∧ (j = 0 ∨ j = 28 ∨ j = 29 ∨ j = 31)) → s_X5_beginsText σ q j = σ q j := fun q j hq => by
    rw [beginsText_eq, up_ne (by omega), up_ne (by omega), up_ne (by omega), up_ne (by omega)]
  have b28 : (s_X5_beginsText σ) 35 28 = N 0 := by rw [beginsText_eq, up_k (by decide), up_k (by decide), up_eq]; rfl
  obtain ⟨r1, r2, V, r3, r4⟩ := rtab_ok (σ := s_X5_beginsText σ) (a := 0) a9 (by omega) b28 (by rw [hb 35 26 (by decide)]; exact a8) (fun j hj => by rw [hb 37 j (by omega)]; exact a1 j hj) a2
  have hS : ∀ q j, ¬ q = 38 → ¬ (q = 35 ∧ (j = 0 ∨ (26 ≤ j ∧ j ≤ 32))) → (t_X5_table_1 σ) q j = σ q j := fun q j h1 h2 => by
    unfold t_X5_table_1 t_X5_table_0
    rw [up_ne (by omega), up_ne (by omega), r2 q j h1 (by omega), hb q j (by omega)]
  have h26 : (t_X5_table_1 σ) 35 26 = N 0 := by
    unfold t_X5_table_1 t_X5_table_0
    rw [up_k (by decide), up_eq]; rfl
  unfold p_X5_table r_X5_table
  by_cases g : ¬ (r_X5_readTable (s_X5_beginsText σ)).1 = 0
  · rw [if_pos g]
    have hV1 : TabAt (t_X5_table_1 σ) 38 V := by
      unfold t_X5_table_1 t_X5_table_0
      exact TabAt_up (TabAt_up r3 (by decide)) (by decide)
    obtain ⟨c1, c2, c3, c4, c5⟩ := tab30 600 0 (t_X5_table_1 σ) (by decide) (by decide) hV1 (fun i hi => by omega)
    refine ⟨⟨r1, fun _ => c1⟩, ⟨V, 0, c4, r4 g, fun j hj => ?_, a4, c3, by decide, ⟨_, mrun_0⟩, ?_, by decide⟩, fun q j hq => ?_⟩
    · rw [show (r_X5_table_l30 600 (t_X5_table_1 σ) 0).2 36 j = _ from c5 36 j (by decide) (by omega), hS 36 j (by decide) (by omega)]; exact a3 j hj
    · rw [show (r_X5_table_l30 600 (t_X5_table_1 σ) 0).2 35 26 = _ from c5 35 26 (by decide) (by decide)]; exact h26
    · rw [show (r_X5_table_l30 600 (t_X5_table_1 σ) 0).2 q j = _ from c5 q j (by omega) (by omega), hS q j (by omega) (by omega)]
  · rw [if_neg g]
    exact ⟨⟨r1, fun z => absurd z g⟩, ⟨T, k, RInv_of h (fun j _ => hS 37 j (by decide) (by omega)) (fun j _ => hS 36 j (by decide) (by omega)) (hS 35 6 (by decide) (by decide)) (fun j _ => ⟨hS 39 j (by decide) (by omega), hS 40 j (by decide) (by omega)⟩) h26 (by decide)⟩, fun q j hq => hS q j (by omega) (by omega)⟩
/-! events -/
theorem R_events (h : RInv σ T S k t) : p_X5_events σ ∧ (∃ k', RInv (r_X5_events σ).2 T S k' 0) ∧ LoS σ (r_X5_events σ).2 := by
  obtain ⟨a1, a2, a3, a4, a5, a6, ⟨x, a7⟩, a8, a9⟩ := id h
  have hb : ∀ q j, ¬ (q = 35 ∧ (j = 0 ∨ j = 28 ∨ j = 29 ∨ j = 31)) → s_X5_beginsText σ q j = σ q j := fun q j hq => by
    rw [beginsText_eq, up_ne (by omega), up_ne (by omega), up_ne (by omega), up_ne (by omega)]
  have b28 : (s_X5_beginsText σ) 35 28 = N 0 := by rw [beginsText_eq, up_k (by decide), up_k (by decide), up_eq]; rfl
  have b31 : (s_X5_beginsText σ) 35 31 = N 0 := by rw [beginsText_eq, up_eq]; rfl
  have hI : RInv (s_X5_beginsText σ) T S k t := RInv_of h (fun j _ => hb 37 j (by omega)) (fun j _ => hb 36 j (by omega)) (hb 35 6 (by decide)) (fun j _ => ⟨hb 39 j (by omega), hb 40 j (by omega)⟩) (by rw [hb 35 26 (by decide)]; exact a8) a9
  have r39 : (s_X5_beginsText σ) 39 = σ 39 := funext (fun j => hb 39 j (by omega))
  have r40 : (s_X5_beginsText σ) 40 = σ 40 := funext (fun j => hb 40 j (by omega))
  obtain ⟨g1, g2, g3, g4⟩ := goesOn_ok (x := x) hI (by rw [r39, r40]; exact a7)
  have q39 := g4.row (q := 39) (by decide) (by decide)
  have q40 := g4.row (q := 40) (by decide) (by decide)
  obtain ⟨e1, e2, e3⟩ := revs4 (T := T) (S := S) (k := k) a9 600 0 0 (s_X5_goesOn (s_X5_beginsText σ)) x (by omega) (by rw [g4 35 28 (by decide) (by decide)]; exact b28) (by rw [g4 35 26 (by decide) (by decide)]; exact hI.2.2.2.2.2.2.2.1) (by omega) g2 (by rw [g4 35 6 (by decide) (by decide)]; exact hI.2.2.2.2.1) (by rw [g4 35 31 (by decide) (by decide)]; exact b31) (by omega) (by rw [q39, q40, r39, r40]; exact a7)
  have hS : ∀ q j, ¬ (41 ≤ q ∧ q ≤ 56) → ¬ (q = 35 ∧ (j = 0 ∨ j = 23 ∨ j = 24 ∨ (26 ≤ j ∧ j ≤ 32))) → ¬ ((q = 39 ∨ q = 40) ∧ k ≤ j) → (t_X5_events_1 σ) q j = σ q j := fun q j h1 h2 h3 => by
    unfold t_X5_events_1 t_X5_events_0
    rw [up_ne (by omega), up_ne (by omega)]
    refine (e2 q j h1 (by omega) h3).trans ?_
    rw [g4 q j h1 (by omega), hb q j (by omega)]
  have hf : ∀ q j, ¬ (q = 35 ∧ (j = 26 ∨ j = 27)) → (t_X5_events_1 σ) q j = (r_X5_readEvents (s_X5_beginsText σ)).2 q j := fun q j h1 => by
    unfold t_X5_events_1 t_X5_events_0
    rw [up_ne (by omega), up_ne (by omega)]
  have h26 : (t_X5_events_1 σ) 35 26 = N 0 := by
    unfold t_X5_events_1 t_X5_events_0
    rw [up_k (by decide), up_eq]; rfl
  have hbad : RInv (t_X5_events_1 σ) T S k 0 := RInv_of h (fun j _ => hS 37 j (by decide) (by omega) (by omega)) (fun j _ => hS 36 j (by decide) (by omega) (by omega)) (hS 35 6 (by decide) (by decide) (by omega)) (fun j hj => ⟨hS 39 j (by decide) (by omega) (by omega), hS 40 j (by decide) (by omega) (by omega)⟩) h26 (by decide)
  have hlo : LoS σ (t_X5_events_1 σ) := fun q j hq => hS q j (by omega) (by omega) (by omega)
  refine ⟨⟨g1, e1⟩, ?_, ?_⟩
  · unfold r_X5_events
    by_cases g : ¬ (r_X5_readEvents (s_X5_beginsText σ)).1 = 0
    · rw [if_pos g]
      obtain ⟨c, c1, c2, y, c3⟩ := e3 g
      have c1 : (r_X5_readEvents (s_X5_beginsText σ)).2 35 31 = N c := c1
      have et : t_X5_events_2 σ = sg_up (t_X5_events_1 σ) 35 6 (N (k + c)) := by
        unfold t_X5_events_2
        rw [hS 35 6 (by decide) (by decide) (by omega), a5, hf 35 31 (by decide), c1, N_add]
      refine ⟨k + c, ?_⟩
      dsimp only
      rw [et]
      refine ⟨TabAt_up hbad.1 (by decide), a2, SetAt_up hbad.2.2.1 (by decide), a4, up_eq, c2, ⟨y, ?_⟩, by rw [up_k (by decide)]; exact h26, by decide⟩
      rw [show (sg_up (t_X5_events_1 σ) 35 6 (N (k + c))) 39 = (r_X5_readEvents (s_X5_beginsText σ)).2 39 from funext (fun j => by rw [up_c (by decide)]; exact hf 39 j (by omega)), show (sg_up (t_X5_events_1 σ) 35 6 (N (k + c))) 40 = (r_X5_readEvents (s_X5_beginsText σ)).2 40 from funext (fun j => by rw [up_c (by decide)]; exact hf 40 j (by omega))]
      exact c3
    · rw [if_neg g]
      exact ⟨k, hbad⟩
  · unfold r_X5_events
    by_cases g : ¬ (r_X5_readEvents (s_X5_beginsText σ)).1 = 0
    · rw [if_pos g]
      dsimp only
      unfold t_X5_events_2
      exact hlo.tr (LoS_u (by decide))
    · rw [if_neg g]
      exact hlo
/-! set -/
def su (S : Nat → Nat) (j v : Nat) : Nat → Nat := du S j v
theorem SetAt_du {j v : Nat} {q : Nat} (h : SetAt σ q S) : SetAt (sg_up σ q j (N v)) q (du S j v) := by
  intro k hk
  by_cases e : k = j
  · subst e; rw [up_eq, du_eq]
  · rw [up_k e, du_ne e]; exact h k hk
/-- which settings can be -/
def setC (S : Nat → Nat) (s v : Nat) : Prop := s < 5 ∧ ¬ S s = v ∧ (s = 0 ∨ s = 2 → 1 ≤ v ∧ v ≤ 20) ∧ (s = 1 → 1 ≤ v ∧ v ≤ 400) ∧ (s = 3 → v + S 4 ≤ 20) ∧ (s = 4 → v + S 3 ≤ 20)
theorem setC_OK {s v : Nat} (h : SetOK S) (hc : setC S s v) : SetOK (du S s v) := by
  obtain ⟨c1, c2, c3, c4, c5, c6⟩ := hc
  obtain ⟨s1, s2, s3, s4, s5, s6, s7⟩ := h
  unfold SetOK
  rcases (show s = 0 ∨ s = 1 ∨ s = 2 ∨ s = 3 ∨ s = 4 by omega) with rfl | rfl | rfl | rfl | rfl
  · have := c3 (Or.inl rfl)
    simp (decide := true) only [du_eq, du_ne]
    exact ⟨this.1, this.2, s3, s4, s5, s6, s7⟩
  · have := c4 rfl
    simp (decide := true) only [du_eq, du_ne]
    exact ⟨s1, s2, this.1, this.2, s5, s6, s7⟩
  · have := c3 (Or.inr rfl)
    simp (decide := true) only [du_eq, du_ne]
    exact ⟨s1, s2, s3, s4, this.1, this.2, s7⟩
  · have := c5 rfl
    simp (decide := true) only [du_eq, du_ne]
    exact ⟨s1, s2, s3, s4, s5, s6, by omega⟩
  · have := c6 rfl
    simp (decide := true) only [du_eq, du_ne]
    exact ⟨s1, s2, s3, s4, s5, s6, by omega⟩
theorem R_set78 {s : Nat} {x1 y0 : Int32} (hs : s < 5) (h : RInv σ T S k t) (hy : ¬ y0 = 0 → ∃ v, x1 = N v ∧ setC S s v) : p_X5_set_a78 σ (N s) x1 y0 ∧ (∃ S' k', RInv (r_X5_set_a78 σ (N s) x1 y0).2 T S' k' t) ∧ LoS σ (r_X5_set_a78 σ (N s) x1 y0).2 := by
  obtain ⟨a1, a2, a3, a4, a5, a6, a7, a8, a9⟩ := id h
  unfold p_X5_set_a78 r_X5_set_a78
  by_cases g : ¬ y0 = 0
  · rw [if_pos g]
    obtain ⟨v, rfl, hc⟩ := hy g
    unfold t_X5_set_0
    rw [ni_N (by omega)]
    dsimp only
    refine ⟨fun _ => ix_N hs (by decide), ⟨du S s v, 0, ?_⟩, (LoS_u (by decide)).tr (LoS_u (by decide))⟩
    exact ⟨TabAt_up (TabAt_up a1 (by decide)) (by decide), a2, SetAt_up (SetAt_du a3) (by decide), setC_OK a4 hc, up_eq, by decide, ⟨_, mrun_0⟩, by rw [up_k (by decide), up_c (by decide)]; exact a8, a9⟩
  · rw [if_neg g]
    exact ⟨fun z => absurd z g, ⟨S, k, h⟩, LoS.rf⟩
theorem R_set {x0 x1 : Int32} (h : RInv σ T S k t) : p_X5_set σ x0 x1 ∧ (∃ S' k', RInv (r_X5_set σ x0 x1).2 T S' k' t) ∧ LoS σ (r_X5_set σ x0 x1).2 := by
  have h0 := RInv_0 (v := 0) h
  obtain ⟨a1, a2, a3, a4, a5, a6, a7, a8, a9⟩ := id h0
  obtain ⟨s1, s2, s3, s4, s5, s6, s7⟩ := id a4
  have lo : LoS σ (sg_up σ 35 0 0) := LoS_u (by decide)
  unfold p_X5_set r_X5_set
  by_cases g : v_X5_in x0 0 4 = 0
  · rw [if_pos g]
    exact ⟨fun z => absurd g z, ⟨S, k, h0⟩, lo⟩
  rw [if_neg g]
  obtain ⟨s, rfl, -, hs⟩ := in_ex (lo := 0) (hi := 4) (by decide) (by decide) g
  have hx : ix (N s) 5 := ix_N (by omega) (by decide)
  rw [ni_N (by omega), a3 s (by omega)]
  by_cases g2 : ¬ N (S s) = x1
  · rw [if_pos g2]
    have key : ∀ y0 : Int32, (¬ y0 = 0 → ∃ v, x1 = N v ∧ setC S s v) → p_X5_set_a78 (sg_up σ 35 0 0) (N s) x1 y0 ∧ (∃ S' k', RInv (r_X5_set_a78 (sg_up σ 35 0 0) (N s) x1 y0).2 T S' k' t) ∧ LoS σ (r_X5_set_a78 (sg_up σ 35 0 0) (N s) x1 y0).2 := fun y0 hy => by
      obtain ⟨p1, p2, p3⟩ := R_set78 (by omega) h0 hy
      exact ⟨p1, p2, lo.tr p3⟩
    have hne : ∀ v, x1 = N v → ¬ S s = v := fun v e z => g2 (by rw [z, e])
    have k20 := fun (hs0 : s = 0 ∨ s = 2) => key (v_X5_in x1 1 20) (fun z => by
      obtain ⟨v, e, v1, v2⟩ := in_ex (lo := 1) (hi := 20) (by decide) (by decide) z
      exact ⟨v, e, by omega, hne v e, fun _ => ⟨v1, v2⟩, fun z => by omega, fun z => by omega, fun z => by omega⟩)
    have k400 := fun (hs0 : s = 1) => key (v_X5_in x1 1 400) (fun z => by
      obtain ⟨v, e, v1, v2⟩ := in_ex (lo := 1) (hi := 400) (by decide) (by decide) z
      exact ⟨v, e, by omega, hne v e, fun z => by omega, fun _ => ⟨v1, v2⟩, fun z => by omega, fun z => by omega⟩)
    rcases (show s = 0 ∨ s = 1 ∨ s = 2 ∨ s = 3 ∨ s = 4 by omega) with rfl | rfl | rfl | rfl | rfl
    · have q := k20 (Or.inl rfl)
      rw [if_pos (by decide)]
      exact ⟨fun _ => ⟨hx, fun _ => ⟨fun _ => q.1, fun z => absurd (by decide) z⟩⟩, q.2⟩
    · have q := k400 rfl
      rw [if_neg (by decide), if_pos (by decide), if_neg (fun z => z rfl)]
      exact ⟨fun _ => ⟨hx, fun _ => ⟨fun z => absurd z (by decide), fun _ => ⟨fun _ => ⟨fun z => absurd rfl z, fun _ => q.1⟩, fun z => absurd (by decide) z⟩⟩⟩, q.2⟩
    · have q := k20 (Or.inr rfl)
      rw [if_neg (by decide), if_neg (fun z => z rfl)]
      exact ⟨fun _ => ⟨hx, fun _ => ⟨fun z => absurd z (by decide), fun _ => ⟨fun z => absurd rfl z, fun _ => q.1⟩⟩⟩, q.2⟩
    · have e7 : (7 : Int32) - N 3 = N 4 := by decide
      have q := key (v_X5_in x1 0 (20 - N (S 4))) (fun z => by
        rw [show (20 : Int32) = N 20 from rfl, N_sub (by omega)] at z
        obtain ⟨v, e, v1, v2⟩ := in_ex (lo := 0) (hi := 20 - S 4) (by decide) (by omega) z
        exact ⟨v, e, by omega, hne v e, fun z => by omega, fun z => by omega, fun _ => by omega, fun z => by omega⟩)
      rw [if_neg (by decide), if_pos (by decide), if_pos (by decide), e7, ni_N (by decide), a3 4 (by decide)]
      exact ⟨fun _ => ⟨hx, fun _ => ⟨fun z => absurd z (by decide), fun _ => ⟨fun _ => ⟨fun _ => ⟨ix_N (by decide) (by decide), q.1⟩, fun z => absurd (by decide) z⟩, fun z => absurd (by decide) z⟩⟩⟩, q.2⟩
    · have e7 : (7 : Int32) - N 4 = N 3 := by decide
      have q := key (v_X5_in x1 0 (20 - N (S 3))) (fun z => by
        rw [show (20 : Int32) = N 20 from rfl, N_sub (by omega)] at z
        obtain ⟨v, e, v1, v2⟩ := in_ex (lo := 0) (hi := 20 - S 3) (by decide) (by omega) z
        exact ⟨v, e, by omega, hne v e, fun z => by omega, fun z => by omega, fun z => by omega, fun _ => by omega⟩)
      rw [if_neg (by decide), if_pos (by decide), if_pos (by decide), e7, ni_N (by decide), a3 3 (by decide)]
      exact ⟨fun _ => ⟨hx, fun _ => ⟨fun z => absurd z (by decide), fun _ => ⟨fun _ => ⟨fun _ => ⟨ix_N (by decide) (by decide), q.1⟩, fun z => absurd (by decide) z⟩, fun z => absurd (by decide) z⟩⟩⟩, q.2⟩
  · rw [if_neg g2]
    exact ⟨fun _ => ⟨hx, fun z => absurd z g2⟩, ⟨S, k, h0⟩, lo⟩
/-! back, clear -/
theorem R_back (h : RInv σ T S k t) : (∃ k', RInv (r_X5_back σ).2 T S k' t) ∧ LoS σ (r_X5_back σ).2 := by
  have h0 := RInv_0 (v := 0) h
  obtain ⟨a1, a2, a3, a4, a5, a6, ⟨x, a7⟩, a8, a9⟩ := id h0
  have lo : LoS σ (sg_up σ 35 0 0) := LoS_u (by decide)
  unfold r_X5_back
  by_cases g : ¬ (sg_up σ 35 0 0) 35 6 = 0
  · rw [if_pos g]
    have hk : 1 ≤ k := by
      rcases Nat.eq_zero_or_pos k with e | e
      · rw [a5, e] at g; exact absurd rfl g
      · exact e
    obtain ⟨y, hy⟩ := mrun_le' a7 (j := k - 1) (by omega)
    have et : t_X5_back_0 σ = sg_up (sg_up σ 35 0 0) 35 6 (N (k - 1)) := by
      unfold t_X5_back_0
      rw [a5, show (1 : Int32) = N 1 from rfl, N_sub hk]
    dsimp only
    rw [et]
    exact ⟨⟨k - 1, TabAt_up a1 (by decide), a2, SetAt_up a3 (by decide), a4, up_eq, by omega, ⟨y, hy⟩, by rw [up_k (by decide)]; exact a8, a9⟩, lo.tr (LoS_u (by decide))⟩
  · rw [if_neg g]
    exact ⟨⟨k, h0⟩, lo⟩
theorem R_clear (h : RInv σ T S k t) : RInv (r_X5_clear σ).2 T S 0 t ∧ LoS σ (r_X5_clear σ).2 := by
  have h0 := RInv_0 (v := 0) h
  obtain ⟨a1, a2, a3, a4, a5, a6, ⟨x, a7⟩, a8, a9⟩ := id h0
  unfold r_X5_clear t_X5_clear_0
  dsimp only
  exact ⟨⟨TabAt_up a1 (by decide), a2, SetAt_up a3 (by decide), a4, up_eq, by decide, ⟨_, mrun_0⟩, by rw [up_k (by decide)]; exact a8, a9⟩, (LoS_u (by decide)).tr (LoS_u (by decide))⟩
/-! play -/
theorem R_play77 {x : mS} {x0 x1 y0 : Int32} {σ1 : sg_S} (h : RInv σ1 T S k t) (hx : mrun T S (σ1 39) (σ1 40) k = some x) (hy : ¬ y0 = 0 → k < 400 ∧ canS x.1 x.2.1 x.2.2 x0 x1) : p_X5_play_a77 σ1 x0 x1 y0 ∧ (∃ k', RInv (r_X5_play_a77 σ1 x0 x1 y0).2 T S k' t) ∧ LoS σ1 (r_X5_play_a77 σ1 x0 x1 y0).2 := by
  obtain ⟨a1, a2, a3, a4, a5, a6, -, a8, a9⟩ := id h
  unfold p_X5_play_a77 r_X5_play_a77
  by_cases g : ¬ y0 = 0
  · rw [if_pos g]
    obtain ⟨hk, hc⟩ := hy g
    obtain ⟨y, hs⟩ := stp_some (T := T) (mean := S 1) hc
    have e1 : (sg_up σ1 39 k x0) 35 6 = N k := by rw [up_c (by decide)]; exact a5
    have et : t_X5_play_1 σ1 x0 x1 y0 = sg_up (sg_up (sg_up σ1 39 k x0) 40 k x1) 35 6 (N (k + 1)) := by
      unfold t_X5_play_1 t_X5_play_0
      rw [a5, ni_N (by omega), e1, ni_N (by omega), up_c (by decide), e1, N_inc]
    dsimp only
    rw [et, a5, ni_N (by omega), e1]
    refine ⟨fun _ => ⟨ix_N hk (by decide), ix_N hk (by decide)⟩, ⟨k + 1, TabAt_up (TabAt_up (TabAt_up a1 (by decide)) (by decide)) (by decide), a2, SetAt_up (SetAt_up (SetAt_up a3 (by decide)) (by decide)) (by decide), a4, up_eq, by omega, ⟨y, ?_⟩, by rw [up_k (by decide), up_c (by decide), up_c (by decide)]; exact a8, a9⟩, ((LoS_u (by decide)).tr (LoS_u (by decide))).tr (LoS_u (by decide))⟩
    have hc : mrun T S ((sg_up (sg_up (sg_up σ1 39 k x0) 40 k x1) 35 6 (N (k + 1))) 39) ((sg_up (sg_up (sg_up σ1 39 k x0) 40 k x1) 35 6 (N (k + 1))) 40) k = some x := by
      rw [← hx]
      refine mrun_congr k (fun j hj => ⟨?_, ?_⟩)
      · rw [up_c (by decide), up_c (by decide), up_k (by omega)]
      · rw [up_c (by decide), up_k (by omega), up_c (by decide)]
    rw [mrun_some hc, up_c (by decide), up_c (by decide), up_eq, up_c (by decide), up_eq]
    exact hs
  · rw [if_neg g]
    exact ⟨fun z => absurd z g, ⟨k, h⟩, LoS.rf⟩
theorem R_play {x0 x1 : Int32} (h : RInv σ T S k t) : p_X5_play σ x0 x1 ∧ (∃ k', RInv (r_X5_play σ x0 x1).2 T S k' t) ∧ LoS σ (r_X5_play σ x0 x1).2 := by
  have h0 := RInv_0 (v := 0) h
  obtain ⟨a1, a2, a3, a4, a5, a6, ⟨x, a7⟩, a8, a9⟩ := id h0
  obtain ⟨g1, g2, g3, g4⟩ := goesOn_ok h0 a7
  have hI := g4.q.inv h0
  have hlo : LoS σ (s_X5_goesOn (sg_up σ 35 0 0)) := (LoS_u (by decide)).tr g4.lo
  have hx1 : mrun T S ((s_X5_goesOn (sg_up σ 35 0 0)) 39) ((s_X5_goesOn (sg_up σ 35 0 0)) 40) k = some x := by
    rw [g4.row (q := 39) (by decide) (by decide), g4.row (q := 40) (by decide) (by decide)]; exact a7
  have key : ∀ y0 : Int32, (¬ y0 = 0 → k < 400 ∧ canS x.1 x.2.1 x.2.2 x0 x1) → p_X5_play_a77 (s_X5_goesOn (sg_up σ 35 0 0)) x0 x1 y0 ∧ (∃ k', RInv (r_X5_play_a77 (s_X5_goesOn (sg_up σ 35 0 0)) x0 x1 y0).2 T S k' t) ∧ LoS σ (r_X5_play_a77 (s_X5_goesOn (sg_up σ 35 0 0)) x0 x1 y0).2 := fun y0 hy => by
    obtain ⟨p1, p2, p3⟩ := R_play77 hI hx1 hy
    exact ⟨p1, p2, hlo.tr p3⟩
  have key0 := key 0 (fun z => absurd rfl z)
  have h6 : (s_X5_goesOn (sg_up σ 35 0 0)) 35 6 = N k := hI.2.2.2.2.1
  have hc4 : ((400 : Int32) ≤ (s_X5_goesOn (sg_up σ 35 0 0)) 35 6) ↔ ¬ k < 400 := by
    rw [h6]
    show (N 400 ≤ N k) ↔ _
    rw [N_le (by decide) (by omega)]; omega
  have hno := now_lt g2 g3.1
  have hea := isEarly_iff g2 g3.1 g3.2.1
  have hmd := mayDrop_iff (n := x1) g2 (g3.2.2.2.1 1 (by decide))
  unfold p_X5_play r_X5_play
  by_cases c0 : v_X5_isEvent x0 = 0
  · rw [if_pos c0]
    exact ⟨⟨g1, fun _ => key0.1, fun z => absurd c0 z⟩, key0.2⟩
  rw [if_neg c0]
  have hev := isEvent5.mp c0
  by_cases c4 : (400 : Int32) ≤ (s_X5_goesOn (sg_up σ 35 0 0)) 35 6
  · rw [if_pos c4]
    exact ⟨⟨g1, fun z => absurd z c0, fun _ => ⟨fun _ => key0.1, fun z => absurd c4 z⟩⟩, key0.2⟩
  rw [if_neg c4]
  have c4' : k < 400 := Decidable.not_not.mp (fun z => c4 (hc4.mpr z))
  by_cases h100 : x0 = 100
  · rw [if_neg (fun z => z h100)]
    by_cases hy : v_X5_isEarly (s_X5_goesOn (sg_up σ 35 0 0)) = 0
    · rw [if_pos hy]
      exact ⟨⟨g1, fun z => absurd z c0, fun _ => ⟨fun z => absurd z c4, fun _ => ⟨fun z => absurd h100 z, fun _ => ⟨fun _ => key0.1, fun z => absurd hy z⟩⟩⟩⟩, key0.2⟩
    rw [if_neg hy]
    by_cases hd : v_X5_mayDrop (s_X5_goesOn (sg_up σ 35 0 0)) x1 = 0
    · rw [if_pos hd]
      exact ⟨⟨g1, fun z => absurd z c0, fun _ => ⟨fun z => absurd z c4, fun _ => ⟨fun z => absurd h100 z, fun _ => ⟨fun z => absurd z hy, fun _ => ⟨fun _ => key0.1, fun z => absurd hd z⟩⟩⟩⟩⟩, key0.2⟩
    · rw [if_neg hd]
      have key1 := key 1 (fun _ => ⟨c4', hev, fun _ => ⟨hea.mp hy, hmd.mp hd⟩, fun z => absurd h100 z, fun z => by rw [h100] at z; exact absurd z (by decide)⟩)
      exact ⟨⟨g1, fun z => absurd z c0, fun _ => ⟨fun z => absurd z c4, fun _ => ⟨fun z => absurd h100 z, fun _ => ⟨fun z => absurd z hy, fun _ => ⟨fun z => absurd z hd, fun _ => key1.1⟩⟩⟩⟩⟩, key1.2⟩
  rw [if_pos h100]
  by_cases hn : (2 : Int32) ≤ (s_X5_goesOn (sg_up σ 35 0 0)) 35 23
  · rw [if_pos hn]
    exact ⟨⟨g1, fun z => absurd z c0, fun _ => ⟨fun z => absurd z c4, fun _ => ⟨fun _ => ⟨fun _ => key0.1, fun z => absurd hn z⟩, fun z => absurd h100 z⟩⟩⟩, key0.2⟩
  rw [if_neg hn]
  have hx2 : x.1 < 2 := Decidable.not_not.mp (fun z => hn (hno.mpr z))
  by_cases h99 : x0 = 99
  · rw [if_neg (fun z => z h99)]
    obtain ⟨m1, m2⟩ := mayCut_iff (n := x1) g2 hx2 (g3.2.2.2.1 x.1 hx2)
    by_cases hd : v_X5_mayCut (s_X5_goesOn (sg_up σ 35 0 0)) x1 = 0
    · rw [if_pos hd]
      exact ⟨⟨g1, fun z => absurd z c0, fun _ => ⟨fun z => absurd z c4, fun _ => ⟨fun _ => ⟨fun z => absurd z hn, fun _ => ⟨fun z => absurd h99 z, fun _ => ⟨m1, fun _ => key0.1, fun z => absurd hd z⟩⟩⟩, fun z => absurd h100 z⟩⟩⟩, key0.2⟩
    · rw [if_neg hd]
      have key1 := key 1 (fun _ => ⟨c4', hev, fun z => absurd z h100, fun _ => hx2, fun _ => m2.mp hd⟩)
      exact ⟨⟨g1, fun z => absurd z c0, fun _ => ⟨fun z => absurd z c4, fun _ => ⟨fun _ => ⟨fun z => absurd z hn, fun _ => ⟨fun z => absurd h99 z, fun _ => ⟨m1, fun z => absurd z hd, fun _ => key1.1⟩⟩⟩, fun z => absurd h100 z⟩⟩⟩, key1.2⟩
  · rw [if_pos h99]
    have key1 := key 1 (fun _ => ⟨c4', hev, fun z => absurd z h100, fun _ => hx2, fun z => absurd z h99⟩)
    exact ⟨⟨g1, fun z => absurd z c0, fun _ => ⟨fun z => absurd z c4, fun _ => ⟨fun _ => ⟨fun z => absurd z hn, fun _ => ⟨fun _ => key1.1, fun z => absurd h99 z⟩⟩, fun z => absurd h100 z⟩⟩⟩, key1.2⟩
end RCalls
