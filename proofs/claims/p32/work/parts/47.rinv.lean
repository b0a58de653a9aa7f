section
/-! WHAT HOLDS OF THE REFERENCE BETWEEN CALLS -/
def RInv (σ : sg_S) (T S : Nat → Nat) (k t : Nat) : Prop := TabAt σ 37 T ∧ TabOK T ∧ SetAt σ 36 S ∧ SetOK S ∧ σ 35 6 = N k ∧ k ≤ 400 ∧ (∃ x, mrun T S (σ 39) (σ 40) k = some x) ∧ σ 35 26 = N t ∧ t ≤ 500
def LoS (σ σ' : sg_S) : Prop := ∀ q k, q < 35 → σ' q k = σ q k
theorem LoS.rf {σ : sg_S} : LoS σ σ := fun _ _ _ => rfl
theorem LoS.tr {σ σ1 σ2 : sg_S} (h : LoS σ σ1) (h' : LoS σ1 σ2) : LoS σ σ2 := fun q k a => (h' q k a).trans (h q k a)
theorem LoS_u {σ : sg_S} {q0 k0 : Nat} {v : Int32} (h : 35 ≤ q0) : LoS σ (sg_up σ q0 k0 v) := fun q k h1 => up_c (by omega)
theorem RSame.lo {σ σ' : sg_S} (h : RSame σ σ') : LoS σ σ' := fun q k h1 => h q k (by omega) (by omega)
theorem XSame.lo {σ σ' : sg_S} (h : XSame σ σ') : LoS σ σ' := fun q k h1 => h q k (by omega) (by omega)
theorem ESame.lo {k : Nat} {σ σ' : sg_S} (h : ESame k σ σ') : LoS σ σ' := fun q j h1 => h q j (by omega) (by omega) (by omega)
theorem RInv_of {σ σ' : sg_S} {T S : Nat → Nat} {k t t' : Nat} (h : RInv σ T S k t) (h37 : ∀ j, j < 50 → σ' 37 j = σ 37 j) (h36 : ∀ j, j < 5 → σ' 36 j = σ 36 j) (h6 : σ' 35 6 = σ 35 6) (hl : ∀ j, j < k → σ' 39 j = σ 39 j ∧ σ' 40 j = σ 40 j) (ht : σ' 35 26 = N t') (h5 : t' ≤ 500) : RInv σ' T S k t' := by
  obtain ⟨a1, a2, a3, a4, a5, a6, ⟨x, a7⟩, a8, a9⟩ := h
  exact ⟨fun j hj => by rw [h37 j hj]; exact a1 j hj, a2, fun j hj => by rw [h36 j hj]; exact a3 j hj, a4, by rw [h6]; exact a5, a6, ⟨x, by rw [← a7]; exact mrun_congr k hl⟩, ht, h5⟩
/-- a call that asks: cells of the match, raised, blocks and rests change -/
def QSame (σ σ' : sg_S) : Prop := ∀ q k, ¬ (41 ≤ q ∧ q ≤ 56) → ¬ (q = 58 ∨ q = 59) → ¬ (q = 35 ∧ (k = 0 ∨ k = 23 ∨ k = 24)) → σ' q k = σ q k
theorem QSame.rf {σ : sg_S} : QSame σ σ := fun _ _ _ _ _ => rfl
theorem QSame.tr {σ σ1 σ2 : sg_S} (h : QSame σ σ1) (h' : QSame σ1 σ2) : QSame σ σ2 := fun q k a b c => (h' q k a b c).trans (h q k a b c)
theorem RSame.q {σ σ' : sg_S} (h : RSame σ σ') : QSame σ σ' := fun q k h1 _ h3 => h q k h1 (by omega)
theorem QSame_0 {σ : sg_S} {v : Int32} : QSame σ (sg_up σ 35 0 v) := fun q k _ _ h3 => up_ne (by omega)
theorem QSame_b {σ : sg_S} {q0 k0 : Nat} {v : Int32} (h : q0 = 58 ∨ q0 = 59) : QSame σ (sg_up σ q0 k0 v) := fun q k _ h2 _ => up_ne (by omega)
theorem QSame.lo {σ σ' : sg_S} (h : QSame σ σ') : LoS σ σ' := fun q k h1 => h q k (by omega) (by omega) (by omega)
theorem QSame.inv {σ σ' : sg_S} {T S : Nat → Nat} {k t : Nat} (hs : QSame σ σ') (h : RInv σ T S k t) : RInv σ' T S k t :=
  RInv_of h (fun j _ => hs 37 j (by decide) (by decide) (by omega)) (fun j _ => hs 36 j (by decide) (by decide) (by omega)) (hs 35 6 (by decide) (by decide) (by decide)) (fun j _ => ⟨hs 39 j (by decide) (by decide) (by omega), hs 40 j (by decide) (by decide) (by omega)⟩) (by rw [hs 35 26 (by decide) (by decide) (by decide)]; exact h.2.2.2.2.2.2.2.1) h.2.2.2.2.2.2.2.2
section RCalls
variable {σ : sg_S} {T S : Nat → Nat} {k t : Nat}
theorem RInv_0 {v : Int32} (h : RInv σ T S k t) : RInv (sg_up σ 35 0 v) T S k t := QSame_0.inv h
/-- the reference goes on, from between calls -/
theorem goesOn_ok {x : mS} (h : RInv σ T S k t) (hx : mrun T S (σ 39) (σ 40) k = some x) : p_X5_goesOn σ ∧ RefAt (s_X5_goesOn σ) T S x.1 x.2.1 x.2.2 ∧ OK T (S 1) k x.1 x.2.1 x.2.2 ∧ RSame σ (s_X5_goesOn σ) := by
  obtain ⟨a1, a2, a3, a4, a5, a6, -, a8, a9⟩ := h
  unfold p_X5_goesOn s_X5_goesOn
  rw [a5]
  exact goesTo_ok a1 a2 a3 a4 a6 hx
/-! feed -/
theorem four_eq {x : Int32} : s_X5_four σ x = t_X5_four_1 (t_X5_four_1 (t_X5_four_1 (t_X5_four_1 σ x 24) x 16) x 8) x 0 := by
  show s_X5_four_b3 (s_X5_four_l3 599) σ x 24 = _
  unfold s_X5_four_b3
  rw [if_neg (by decide)]
  show s_X5_four_b3 (s_X5_four_l3 598) (t_X5_four_1 σ x 24) x 16 = _
  unfold s_X5_four_b3
  rw [if_neg (by decide)]
  show s_X5_four_b3 (s_X5_four_l3 597) (t_X5_four_1 (t_X5_four_1 σ x 24) x 16) x 8 = _
  unfold s_X5_four_b3
  rw [if_neg (by decide)]
  show s_X5_four_b3 (s_X5_four_l3 596) (t_X5_four_1 (t_X5_four_1 (t_X5_four_1 σ x 24) x 16) x 8) x 0 = _
  unfold s_X5_four_b3
  rw [if_neg (by decide)]
  show s_X5_four_b3 (s_X5_four_l3 595) (t_X5_four_1 (t_X5_four_1 (t_X5_four_1 (t_X5_four_1 σ x 24) x 16) x 8) x 0) x (-8) = _
  unfold s_X5_four_b3
  rw [if_pos (by decide)]
theorem pfour_of {x : Int32} (h0 : ix (σ 35 26) 500) (h1 : ix ((t_X5_four_1 σ x 24) 35 26) 500) (h2 : ix ((t_X5_four_1 (t_X5_four_1 σ x 24) x 16) 35 26) 500) (h3 : ix ((t_X5_four_1 (t_X5_four_1 (t_X5_four_1 σ x 24) x 16) x 8) 35 26) 500) : p_X5_four σ x :=
  fun _ => ⟨h0, fun _ => ⟨h1, fun _ => ⟨h2, fun _ => ⟨h3, fun z => absurd (show (-8 : Int32) < 0 by decide) z⟩⟩⟩⟩
def fb (x s : Int32) : Int32 := (ip_bI 6 x s) &&& 255
theorem fstep {a : Nat} {x s : Int32} (ha : σ 35 26 = N a) (h5 : a < 500) : t_X5_four_1 σ x s = sg_up (sg_up σ 57 a (fb x s)) 35 26 (N (a + 1)) := by
  unfold t_X5_four_1 t_X5_four_0
  rw [ha, ni_N (by omega), up_c (by decide), ha, N_inc]
  rfl
def FSame (σ σ' : sg_S) : Prop := ∀ q k, ¬ q = 57 → ¬ (q = 35 ∧ (k = 26 ∨ k = 0)) → σ' q k = σ q k
theorem FSame.tr {σ σ1 σ2 : sg_S} (h : FSame σ σ1) (h' : FSame σ1 σ2) : FSame σ σ2 := fun q k a b => (h' q k a b).trans (h q k a b)
theorem FSame.lo {σ σ' : sg_S} (h : FSame σ σ') : LoS σ σ' := fun q k h1 => h q k (by omega) (by omega)
/-- four bytes of a word -/
def fB4 (x : Int32) (j : Nat) : Int32 := if j = 0 then fb x 24 else if j = 1 then fb x 16 else if j = 2 then fb x 8 else fb x 0
theorem four_ok {a : Nat} {x : Int32} (ha : σ 35 26 = N a) (h5 : a + 4 ≤ 500) : p_X5_four σ x ∧ (s_X5_four σ x) 35 26 = N (a + 4) ∧ FSame σ (s_X5_four σ x) ∧ (∀ j, (s_X5_four σ x) 57 j = if a ≤ j ∧ j < a + 4 then fB4 x (j - a) else σ 57 j) := by
  have e1 := fstep (x := x) (s := 24) ha (by omega)
  have a1 : (t_X5_four_1 σ x 24) 35 26 = N (a + 1) := by rw [e1]; exact up_eq
  have e2 := fstep (x := x) (s := 16) a1 (by omega)
  have a2 : (t_X5_four_1 (t_X5_four_1 σ x 24) x 16) 35 26 = N (a + 1 + 1) := by rw [e2]; exact up_eq
  have e3 := fstep (x := x) (s := 8) a2 (by omega)
  have a3 : (t_X5_four_1 (t_X5_four_1 (t_X5_four_1 σ x 24) x 16) x 8) 35 26 = N (a + 1 + 1 + 1) := by rw [e3]; exact up_eq
  have e4 := fstep (x := x) (s := 0) a3 (by omega)
  refine ⟨pfour_of (by rw [ha]; exact ix_N (by omega) (by decide)) (by rw [a1]; exact ix_N (by omega) (by decide)) (by rw [a2]; exact ix_N (by omega) (by decide)) (by rw [a3]; exact ix_N (by omega) (by decide)), ?_, ?_, ?_⟩
  · rw [four_eq, e4, up_eq]
  · intro q k h1 h2
    rw [four_eq, e4, e3, e2, e1]
    simp (disch := omega) only [up_ne]
  · intro j
    rw [four_eq, e4, up_c (by decide), e3, up_ite, up_c (by decide), e2, up_ite, up_c (by decide), e1, up_ite, up_c (by decide), up_ite]
    unfold fB4
    repeat' split
    all_goals first | rfl | omega
theorem RInv_F {σ' : sg_S} {t' : Nat} (h : RInv σ T S k t) (hs : FSame σ σ') (ht : σ' 35 26 = N t') (h5 : t' ≤ 500) : RInv σ' T S k t' :=
  RInv_of h (fun j _ => hs 37 j (by decide) (by omega)) (fun j _ => hs 36 j (by decide) (by omega)) (hs 35 6 (by decide) (by decide)) (fun j _ => ⟨hs 39 j (by decide) (by omega), hs 40 j (by decide) (by omega)⟩) ht h5
def fB20 (a b c d e : Int32) (j : Nat) : Int32 := if j < 4 then fB4 a j else if j < 8 then fB4 b (j - 4) else if j < 12 then fB4 c (j - 8) else if j < 16 then fB4 d (j - 12) else fB4 e (j - 16)
theorem R_feed {x0 x1 x2 x3 x4 : Int32} (h : RInv σ T S k t) : p_X5_feed σ x0 x1 x2 x3 x4 ∧ (t + 20 ≤ 500 → (r_X5_feed σ x0 x1 x2 x3 x4).1 = N (t + 20) ∧ RInv (r_X5_feed σ x0 x1 x2 x3 x4).2 T S k (t + 20) ∧ (∀ j, (r_X5_feed σ x0 x1 x2 x3 x4).2 57 j = if t ≤ j ∧ j < t + 20 then fB20 x0 x1 x2 x3 x4 (j - t) else σ 57 j)) ∧ (¬ t + 20 ≤ 500 → (r_X5_feed σ x0 x1 x2 x3 x4).1 = -1 ∧ RInv (r_X5_feed σ x0 x1 x2 x3 x4).2 T S k t ∧ (∀ j, (r_X5_feed σ x0 x1 x2 x3 x4).2 57 j = σ 57 j)) ∧ FSame σ (r_X5_feed σ x0 x1 x2 x3 x4).2 := by
  have ht : σ 35 26 = N t := h.2.2.2.2.2.2.2.1
  have h5 : t ≤ 500 := h.2.2.2.2.2.2.2.2
  have ht0 : (sg_up σ 35 0 0) 35 26 = N t := by rw [up_k (by decide)]; exact ht
  have hF0 : FSame σ (sg_up σ 35 0 0) := fun q k _ h2 => up_ne (by omega)
  have hc : ((sg_up σ 35 0 0) 35 26 + 20 ≤ 500) ↔ t + 20 ≤ 500 := by
    rw [ht0]
    show (N t + N 20 ≤ N 500) ↔ _
    rw [N_add, N_le (by omega) (by decide)]
  unfold p_X5_feed r_X5_feed
  by_cases g : t + 20 ≤ 500
  · have g' := hc.mpr g
    rw [if_pos g']
    obtain ⟨p1, b1, c1, d1⟩ := four_ok (x := x0) ht0 (by omega)
    obtain ⟨p2, b2, c2, d2⟩ := four_ok (x := x1) b1 (by omega)
    obtain ⟨p3, b3, c3, d3⟩ := four_ok (σ := t_X5_feed_0 σ x0 x1 x2 x3 x4) (x := x2) b2 (by omega)
    obtain ⟨p4, b4, c4, d4⟩ := four_ok (x := x3) b3 (by omega)
    obtain ⟨p5, b5, c5, d5⟩ := four_ok (σ := t_X5_feed_1 σ x0 x1 x2 x3 x4) (x := x4) b4 (by omega)
    have hF : FSame σ (s_X5_four (t_X5_feed_1 σ x0 x1 x2 x3 x4) x4) := ((((hF0.tr c1).tr c2).tr c3).tr c4).tr c5
    refine ⟨fun _ => ⟨p1, p2, p3, p4, p5⟩, fun _ => ⟨b5, RInv_F h hF b5 g, fun j => ?_⟩, fun z => absurd g z, hF⟩
    refine (d5 j).trans ?_
    rw [show (t_X5_feed_1 σ x0 x1 x2 x3 x4) 57 j = _ from d4 j, d3, show (t_X5_feed_0 σ x0 x1 x2 x3 x4) 57 j = _ from d2 j, d1, up_c (by decide)]
    unfold fB20
    repeat' split
    all_goals first | rfl | omega | (congr 1; omega)
  · have g' : ¬ ((sg_up σ 35 0 0) 35 26 + 20 ≤ 500) := fun z => g (hc.mp z)
    rw [if_neg g']
    exact ⟨fun z => absurd z g', fun z => absurd z g, fun _ => ⟨rfl, RInv_F h hF0 ht0 h5, fun j => by dsimp only; rw [up_c (by decide)]⟩, hF0⟩
/-! end -/
theorem R_end {n : Int32} (h : RInv σ T S k t) : (∀ a, n = N a → a ≤ t → (r_X5_end σ n).1 = 1 ∧ RInv (r_X5_end σ n).2 T S k a) ∧ ((∀ a, n = N a → ¬ a ≤ t) → (r_X5_end σ n).1 = 0 ∧ RInv (r_X5_end σ n).2 T S k t) ∧ FSame σ (r_X5_end σ n).2 ∧ (∀ j, (r_X5_end σ n).2 57 j = σ 57 j) := by
  have ht : σ 35 26 = N t := h.2.2.2.2.2.2.2.1
  have h5 : t ≤ 500 := h.2.2.2.2.2.2.2.2
  have ht0 : (sg_up σ 35 0 0) 35 26 = N t := by rw [up_k (by decide)]; exact ht
  have hF0 : FSame σ (sg_up σ 35 0 0) := fun q k _ h2 => up_ne (by omega)
  unfold r_X5_end
  rw [ht0]
  by_cases g : ¬ v_X5_in n 0 (N t) = 0
  · rw [if_pos g]
    obtain ⟨a, rfl, -, ha⟩ := in_ex (lo := 0) (by decide) (by omega) g
    have hF : FSame σ (sg_up (sg_up σ 35 0 0) 35 26 (N a)) := hF0.tr (fun q k _ h2 => up_ne (by omega))
    refine ⟨fun b e hb => ?_, fun z => absurd ha (z a rfl), hF, fun j => by dsimp only; rw [up_c (by decide), up_c (by decide)]⟩
    dsimp only
    rw [e] at hF ⊢
    exact ⟨rfl, RInv_F h hF up_eq (by omega)⟩
  · rw [if_neg g]
    refine ⟨fun a e ha => ?_, fun _ => ⟨rfl, RInv_F h hF0 ht0 h5⟩, hF0, fun j => by dsimp only; rw [up_c (by decide)]⟩
    subst e
    exact absurd (in_nz (lo := 0) (Nat.zero_le _) ha (by omega)) g
/-! table -/
theorem beginsText_eq : s_X5_beginsText σ = sg_up (sg_up (sg_up (sg_up σ 35 0 0) 35 28 0) 35 29 0) 35 31 0 := rfl
theorem tab30 {V : Nat → Nat} : ∀ (n j : Nat) (σ : sg_S), j ≤ 50 → 50 - j < n → TabAt σ 38 V → (∀ i, i < j → σ 37 i = N (V i)) → p_X5_table_l30 n σ (N j) ∧ (r_X5_table_l30 n σ (N j)).1 = σ 35 31 ∧ (r_X5_table_l30 n σ (N j)).2 35 6 = 0 ∧ TabAt (r_X5_table_l30 n σ (N j)).2 37 V ∧ (∀ q i, ¬ q = 37 → ¬ (q = 35 ∧ i = 6) → (r_X5_table_l30 n σ (N j)).2 q i = σ q i) := by
  intro n
  induction n with
  | zero => intro j σ _ hn; omega
  | succ n ih =>
    intro j σ hj hn hV hd
    show p_X5_table_b30 (p_X5_table_l30 n) σ (N j) ∧ (r_X5_table_b30 (r_X5_table_l30 n) σ (N j)).1 = σ 35 31 ∧ (r_X5_table_b30 (r_X5_table_l30 n) σ (N j)).2 35 6 = 0 ∧ TabAt (r_X5_table_b30 (r_X5_table_l30 n) σ (N j)).2 37 V ∧ (∀ q i, ¬ q = 37 → ¬ (q = 35 ∧ i = 6) → (r_X5_table_b30 (r_X5_table_l30 n) σ (N j)).2 q i = σ q i)
    unfold p_X5_table_b30 r_X5_table_b30
    by_cases e : j = 50
    · have hc : (50 : Int32) ≤ N j := (N14 (L := 50) hj (by decide)).mpr e
      rw [if_pos hc]
      dsimp only
      exact ⟨fun z => absurd hc z, up_k (by decide), up_eq, fun i hi => by rw [up_c (by decide)]; exact hd i (by omega), fun q i h1 h2 => up_ne h2⟩
    · have hc : ¬ (50 : Int32) ≤ N j := fun z => e ((N14 (L := 50) hj (by decide)).mp z)
      have hx : ix (N j) 50 := ix_N (by omega) (by decide)
      rw [if_neg hc, N_inc, ni_N (by omega)]
      obtain ⟨i1, i2, i3, i4, i5⟩ := ih (j + 1) (sg_up σ 37 j (σ 38 j)) (by omega) (by omega) (TabAt_up hV (by decide)) (fun i hi => by
        by_cases e2 : i = j
        · subst e2; rw [up_eq]; exact hV i (by omega)
        · rw [up_k e2]; exact hd i (by omega))
      refine ⟨fun _ => ⟨hx, hx, i1⟩, i2.trans (up_c (by decide)), i3, i4, fun q i h1 h2 => (i5 q i h1 h2).trans (up_c h1)⟩
theorem R_table (h : RInv σ T S k t) : p_X5_table σ ∧ (∃ T' k', RInv (r_X5_table σ).2 T' S k' 0) ∧ LoS σ (r_X5_table σ).2 := by
  obtain ⟨a1, a2, a3, a4, a5, a6, a7, a8, a9⟩ := id h
  have hb : ∀ q j, ¬ (q = 35 ∧ (j = 0 ∨ j = 28 ∨ j = 29 ∨ j = 31)) → s_X5_beginsText σ q j = σ q j := fun q j hq => by
    rw [beginsText_eq, up_ne (by omega), up_ne (by omega), up_ne (by omega), up_ne (by omega)]
  have b28 : (s_X5_beginsText σ) 35 28 = N 0 := by rw [beginsText_eq, up_k (by decide), up_k (by decide), up_eq]; rfl
  obtain ⟨r1, r2, V, r3, r4⟩ := rtab_ok (σ := s_X5_beginsText σ) (a := 0) a9 (by omega) b28 (by rw [hb 35 26 (by decide)]; exact a8) (fun j hj => by rw [hb 37 j (by omega)]; exact a1 j hj) a2
  have hS : ∀ q j, ¬ q = 38 → ¬ (q = 35 ∧ (j = 0 ∨ (26 ≤ j ∧ j ≤ 32))) → (t_X5_table_1 σ) q j = σ q j := fun q j h1 h2 => by
    unfold t_X5_table_1 t_X5_table_0
    rw [up_ne (by omega), up_ne (by omega), r2 q j h1 (by omega), hb q j (by omega)]
  have h26 : (t_X5_table_1 σ) 35 26 = N 0 := by
    unfold t_X5_table_1 t_X5_table_0
    rw [up_k (by decide), up_eq]; rfl
  unfold p_X5_table r_X5_table
  by_cases g : ¬ (r_X5_readTable (s_X5_beginsText σ)).1 = 0
  · rw [if_pos g]
    have hV1 : TabAt (t_X5_table_1 σ) 38 V := by
      unfold t_X5_table_1 t_X5_table_0
      exact TabAt_up (TabAt_up r3 (by decide)) (by decide)
    obtain ⟨c1, c2, c3, c4, c5⟩ := tab30 600 0 (t_X5_table_1 σ) (by decide) (by decide) hV1 (fun i hi => by omega)
    refine ⟨⟨r1, fun _ => c1⟩, ⟨V, 0, c4, r4 g, fun j hj => ?_, a4, c3, by decide, ⟨_, mrun_0⟩, ?_, by decide⟩, fun q j hq => ?_⟩
    · rw [show (r_X5_table_l30 600 (t_X5_table_1 σ) 0).2 36 j = _ from c5 36 j (by decide) (by omega), hS 36 j (by decide) (by omega)]; exact a3 j hj
    · rw [show (r_X5_table_l30 600 (t_X5_table_1 σ) 0).2 35 26 = _ from c5 35 26 (by decide) (by decide)]; exact h26
    · rw [show (r_X5_table_l30 600 (t_X5_table_1 σ) 0).2 q j = _ from c5 q j (by omega) (by omega), hS q j (by omega) (by omega)]
  · rw [if_neg g]
    exact ⟨⟨r1, fun z => absurd z g⟩, ⟨T, k, RInv_of h (fun j _ => hS 37 j (by decide) (by omega)) (fun j _ => hS 36 j (by decide) (by omega)) (hS 35 6 (by decide) (by decide)) (fun j _ => ⟨hS 39 j (by decide) (by omega), hS 40 j (by decide) (by omega)⟩) h26 (by decide)⟩, fun q j hq => hS q j (by omega) (by omega)⟩
/-! events -/
theorem R_events (h : RInv σ T S k t) : p_X5_events σ ∧ (∃ k', RInv (r_X5_events σ).2 T S k' 0) ∧ LoS σ (r_X5_events σ).2 := by
  obtain ⟨a1, a2, a3, a4, a5, a6, ⟨x, a7⟩, a8, a9⟩ := id h
  have hb : ∀ q j, ¬ (q = 35 ∧ (j = 0 ∨ j = 28 ∨ j = 29 ∨ j = 31)) → s_X5_beginsText σ q j = σ q j := fun q j hq => by
    rw [beginsText_eq, up_ne (by omega), up_ne (by omega), up_ne (by omega), up_ne (by omega)]
  have b28 : (s_X5_beginsText σ) 35 28 = N 0 := by rw [beginsText_eq, up_k (by decide), up_k (by decide), up_eq]; rfl
  have b31 : (s_X5_beginsText σ) 35 31 = N 0 := by rw [beginsText_eq, up_eq]; rfl
  have hI : RInv (s_X5_beginsText σ) T S k t := RInv_of h (fun j _ => hb 37 j (by omega)) (fun j _ => hb 36 j (by omega)) (hb 35 6 (by decide)) (fun j _ => ⟨hb 39 j (by omega), hb 40 j (by omega)⟩) (by rw [hb 35 26 (by decide)]; exact a8) a9
  have r39 : (s_X5_beginsText σ) 39 = σ 39 := funext (fun j => hb 39 j (by omega))
  have r40 : (s_X5_beginsText σ) 40 = σ 40 := funext (fun j => hb 40 j (by omega))
  obtain ⟨g1, g2, g3, g4⟩ := goesOn_ok (x := x) hI (by rw [r39, r40]; exact a7)
  have q39 := g4.row (q := 39) (by decide) (by decide)
  have q40 := g4.row (q := 40) (by decide) (by decide)
  obtain ⟨e1, e2, e3⟩ := revs4 (T := T) (S := S) (k := k) a9 600 0 0 (s_X5_goesOn (s_X5_beginsText σ)) x (by omega) (by rw [g4 35 28 (by decide) (by decide)]; exact b28) (by rw [g4 35 26 (by decide) (by decide)]; exact hI.2.2.2.2.2.2.2.1) (by omega) g2 (by rw [g4 35 6 (by decide) (by decide)]; exact hI.2.2.2.2.1) (by rw [g4 35 31 (by decide) (by decide)]; exact b31) (by omega) (by rw [q39, q40, r39, r40]; exact a7)
  have hS : ∀ q j, ¬ (41 ≤ q ∧ q ≤ 56) → ¬ (q = 35 ∧ (j = 0 ∨ j = 23 ∨ j = 24 ∨ (26 ≤ j ∧ j ≤ 32))) → ¬ ((q = 39 ∨ q = 40) ∧ k ≤ j) → (t_X5_events_1 σ) q j = σ q j := fun q j h1 h2 h3 => by
    unfold t_X5_events_1 t_X5_events_0
    rw [up_ne (by omega), up_ne (by omega)]
    refine (e2 q j h1 (by omega) h3).trans ?_
    rw [g4 q j h1 (by omega), hb q j (by omega)]
  have hf : ∀ q j, ¬ (q = 35 ∧ (j = 26 ∨ j = 27)) → (t_X5_events_1 σ) q j = (r_X5_readEvents (s_X5_beginsText σ)).2 q j := fun q j h1 => by
    unfold t_X5_events_1 t_X5_events_0
    rw [up_ne (by omega), up_ne (by omega)]
  have h26 : (t_X5_events_1 σ) 35 26 = N 0 := by
    unfold t_X5_events_1 t_X5_events_0
    rw [up_k (by decide), up_eq]; rfl
  have hbad : RInv (t_X5_events_1 σ) T S k 0 := RInv_of h (fun j _ => hS 37 j (by decide) (by omega) (by omega)) (fun j _ => hS 36 j (by decide) (by omega) (by omega)) (hS 35 6 (by decide) (by decide) (by omega)) (fun j hj => ⟨hS 39 j (by decide) (by omega) (by omega), hS 40 j (by decide) (by omega) (by omega)⟩) h26 (by decide)
  have hlo : LoS σ (t_X5_events_1 σ) := fun q j hq => hS q j (by omega) (by omega) (by omega)
  refine ⟨⟨g1, e1⟩, ?_, ?_⟩
  · unfold r_X5_events
    by_cases g : ¬ (r_X5_readEvents (s_X5_beginsText σ)).1 = 0
    · rw [if_pos g]
      obtain ⟨c, c1, c2, y, c3⟩ := e3 g
      have c1 : (r_X5_readEvents (s_X5_beginsText σ)).2 35 31 = N c := c1
      have et : t_X5_events_2 σ = sg_up (t_X5_events_1 σ) 35 6 (N (k + c)) := by
        unfold t_X5_events_2
        rw [hS 35 6 (by decide) (by decide) (by omega), a5, hf 35 31 (by decide), c1, N_add]
      refine ⟨k + c, ?_⟩
      dsimp only
      rw [et]
      refine ⟨TabAt_up hbad.1 (by decide), a2, SetAt_up hbad.2.2.1 (by decide), a4, up_eq, c2, ⟨y, ?_⟩, by rw [up_k (by decide)]; exact h26, by decide⟩
      rw [show (sg_up (t_X5_events_1 σ) 35 6 (N (k + c))) 39 = (r_X5_readEvents (s_X5_beginsText σ)).2 39 from funext (fun j => by rw [up_c (by decide)]; exact hf 39 j (by omega)), show (sg_up (t_X5_events_1 σ) 35 6 (N (k + c))) 40 = (r_X5_readEvents (s_X5_beginsText σ)).2 40 from funext (fun j => by rw [up_c (by decide)]; exact hf 40 j (by omega))]
      exact c3
    · rw [if_neg g]
      exact ⟨k, hbad⟩
  · unfold r_X5_events
    by_cases g : ¬ (r_X5_readEvents (s_X5_beginsText σ)).1 = 0
    · rw [if_pos g]
      dsimp only
      unfold t_X5_events_2
      exact hlo.tr (LoS_u (by decide))
    · rw [if_neg g]
      exact hlo
/-! set -/
def su (S : Nat → Nat) (j v : Nat) : Nat → Nat := du S j v
theorem SetAt_du {j v : Nat} {q : Nat} (h : SetAt σ q S) : SetAt (sg_up σ q j (N v)) q (du S j v) := by
  intro k hk
  by_cases e : k = j
  · subst e; rw [up_eq, du_eq]
  · rw [up_k e, du_ne e]; exact h k hk
/-- which settings can be -/
def setC (S : Nat → Nat) (s v : Nat) : Prop := s < 5 ∧ ¬ S s = v ∧ (s = 0 ∨ s = 2 → 1 ≤ v ∧ v ≤ 20) ∧ (s = 1 → 1 ≤ v ∧ v ≤ 400) ∧ (s = 3 → v + S 4 ≤ 20) ∧ (s = 4 → v + S 3 ≤ 20)
theorem setC_OK {s v : Nat} (h : SetOK S) (hc : setC S s v) : SetOK (du S s v) := by
  obtain ⟨c1, c2, c3, c4, c5, c6⟩ := hc
  obtain ⟨s1, s2, s3, s4, s5, s6, s7⟩ := h
  unfold SetOK
  rcases (show s = 0 ∨ s = 1 ∨ s = 2 ∨ s = 3 ∨ s = 4 by omega) with rfl | rfl | rfl | rfl | rfl
  · have := c3 (Or.inl rfl)
    simp (decide := true) only [du_eq, du_ne]
    exact ⟨this.1, this.2, s3, s4, s5, s6, s7⟩
  · have := c4 rfl
    simp (decide := true) only [du_eq, du_ne]
    exact ⟨s1, s2, this.1, this.2, s5, s6, s7⟩
  · have := c3 (Or.inr rfl)
    simp (decide := true) only [du_eq, du_ne]
    exact ⟨s1, s2, s3, s4, this.1, this.2, s7⟩
  · have := c5 rfl
    simp (decide := true) only [du_eq, du_ne]
    exact ⟨s1, s2, s3, s4, s5, s6, by omega⟩
  · have := c6 rfl
    simp (decide := true) only [du_eq, du_ne]
    exact ⟨s1, s2, s3, s4, s5, s6, by omega⟩
theorem R_set78 {s : Nat} {x1 y0 : Int32} (hs : s < 5) (h : RInv σ T S k t) (hy : ¬ y0 = 0 → ∃ v, x1 = N v ∧ setC S s v) : p_X5_set_a78 σ (N s) x1 y0 ∧ (∃ S' k', RInv (r_X5_set_a78 σ (N s) x1 y0).2 T S' k' t) ∧ LoS σ (r_X5_set_a78 σ (N s) x1 y0).2 := by
  obtain ⟨a1, a2, a3, a4, a5, a6, a7, a8, a9⟩ := id h
  unfold p_X5_set_a78 r_X5_set_a78
  by_cases g : ¬ y0 = 0
  · rw [if_pos g]
    obtain ⟨v, rfl, hc⟩ := hy g
    unfold t_X5_set_0
    rw [ni_N (by omega)]
    dsimp only
    refine ⟨fun _ => ix_N hs (by decide), ⟨du S s v, 0, ?_⟩, (LoS_u (by decide)).tr (LoS_u (by decide))⟩
    exact ⟨TabAt_up (TabAt_up a1 (by decide)) (by decide), a2, SetAt_up (SetAt_du a3) (by decide), setC_OK a4 hc, up_eq, by decide, ⟨_, mrun_0⟩, by rw [up_k (by decide), up_c (by decide)]; exact a8, a9⟩
  · rw [if_neg g]
    exact ⟨fun z => absurd z g, ⟨S, k, h⟩, LoS.rf⟩
theorem R_set {x0 x1 : Int32} (h : RInv σ T S k t) : p_X5_set σ x0 x1 ∧ (∃ S' k', RInv (r_X5_set σ x0 x1).2 T S' k' t) ∧ LoS σ (r_X5_set σ x0 x1).2 := by
  have h0 := RInv_0 (v := 0) h
  obtain ⟨a1, a2, a3, a4, a5, a6, a7, a8, a9⟩ := id h0
  obtain ⟨s1, s2, s3, s4, s5, s6, s7⟩ := id a4
  have lo : LoS σ (sg_up σ 35 0 0) := LoS_u (by decide)
  unfold p_X5_set r_X5_set
  by_cases g : v_X5_in x0 0 4 = 0
  · rw [if_pos g]
    exact ⟨fun z => absurd g z, ⟨S, k, h0⟩, lo⟩
  rw [if_neg g]
  obtain ⟨s, rfl, -, hs⟩ := in_ex (lo := 0) (hi := 4) (by decide) (by decide) g
  have hx : ix (N s) 5 := ix_N (by omega) (by decide)
  rw [ni_N (by omega), a3 s (by omega)]
  by_cases g2 : ¬ N (S s) = x1
  · rw [if_pos g2]
    have key : ∀ y0 : Int32, (¬ y0 = 0 → ∃ v, x1 = N v ∧ setC S s v) → p_X5_set_a78 (sg_up σ 35 0 0) (N s) x1 y0 ∧ (∃ S' k', RInv (r_X5_set_a78 (sg_up σ 35 0 0) (N s) x1 y0).2 T S' k' t) ∧ LoS σ (r_X5_set_a78 (sg_up σ 35 0 0) (N s) x1 y0).2 := fun y0 hy => by
      obtain ⟨p1, p2, p3⟩ := R_set78 (by omega) h0 hy
      exact ⟨p1, p2, lo.tr p3⟩
    have hne : ∀ v, x1 = N v → ¬ S s = v := fun v e z => g2 (by rw [z, e])
    have k20 := fun (hs0 : s = 0 ∨ s = 2) => key (v_X5_in x1 1 20) (fun z => by
      obtain ⟨v, e, v1, v2⟩ := in_ex (lo := 1) (hi := 20) (by decide) (by decide) z
      exact ⟨v, e, by omega, hne v e, fun _ => ⟨v1, v2⟩, fun z => by omega, fun z => by omega, fun z => by omega⟩)
    have k400 := fun (hs0 : s = 1) => key (v_X5_in x1 1 400) (fun z => by
      obtain ⟨v, e, v1, v2⟩ := in_ex (lo := 1) (hi := 400) (by decide) (by decide) z
      exact ⟨v, e, by omega, hne v e, fun z => by omega, fun _ => ⟨v1, v2⟩, fun z => by omega, fun z => by omega⟩)
    rcases (show s = 0 ∨ s = 1 ∨ s = 2 ∨ s = 3 ∨ s = 4 by omega) with rfl | rfl | rfl | rfl | rfl
    · have q := k20 (Or.inl rfl)
      rw [if_pos (by decide)]
      exact ⟨fun _ => ⟨hx, fun _ => ⟨fun _ => q.1, fun z => absurd (by decide) z⟩⟩, q.2⟩
    · have q := k400 rfl
      rw [if_neg (by decide), if_pos (by decide), if_neg (fun z => z rfl)]
      exact ⟨fun _ => ⟨hx, fun _ => ⟨fun z => absurd z (by decide), fun _ => ⟨fun _ => ⟨fun z => absurd rfl z, fun _ => q.1⟩, fun z => absurd (by decide) z⟩⟩⟩, q.2⟩
    · have q := k20 (Or.inr rfl)
      rw [if_neg (by decide), if_neg (fun z => z rfl)]
      exact ⟨fun _ => ⟨hx, fun _ => ⟨fun z => absurd z (by decide), fun _ => ⟨fun z => absurd rfl z, fun _ => q.1⟩⟩⟩, q.2⟩
    · have e7 : (7 : Int32) - N 3 = N 4 := by decide
      have q := key (v_X5_in x1 0 (20 - N (S 4))) (fun z => by
        rw [show (20 : Int32) = N 20 from rfl, N_sub (by omega)] at z
        obtain ⟨v, e, v1, v2⟩ := in_ex (lo := 0) (hi := 20 - S 4) (by decide) (by omega) z
        exact ⟨v, e, by omega, hne v e, fun z => by omega, fun z => by omega, fun _ => by omega, fun z => by omega⟩)
      rw [if_neg (by decide), if_pos (by decide), if_pos (by decide), e7, ni_N (by decide), a3 4 (by decide)]
      exact ⟨fun _ => ⟨hx, fun _ => ⟨fun z => absurd z (by decide), fun _ => ⟨fun _ => ⟨fun _ => ⟨ix_N (by decide) (by decide), q.1⟩, fun z => absurd (by decide) z⟩, fun z => absurd (by decide) z⟩⟩⟩, q.2⟩
    · have e7 : (7 : Int32) - N 4 = N 3 := by decide
      have q := key (v_X5_in x1 0 (20 - N (S 3))) (fun z => by
        rw [show (20 : Int32) = N 20 from rfl, N_sub (by omega)] at z
        obtain ⟨v, e, v1, v2⟩ := in_ex (lo := 0) (hi := 20 - S 3) (by decide) (by omega) z
        exact ⟨v, e, by omega, hne v e, fun z => by omega, fun z => by omega, fun z => by omega, fun _ => by omega⟩)
      rw [if_neg (by decide), if_pos (by decide), if_pos (by decide), e7, ni_N (by decide), a3 3 (by decide)]
      exact ⟨fun _ => ⟨hx, fun _ => ⟨fun z => absurd z (by decide), fun _ => ⟨fun _ => ⟨fun _ => ⟨ix_N (by decide) (by decide), q.1⟩, fun z => absurd (by decide) z⟩, fun z => absurd (by decide) z⟩⟩⟩, q.2⟩
  · rw [if_neg g2]
    exact ⟨fun _ => ⟨hx, fun z => absurd z g2⟩, ⟨S, k, h0⟩, lo⟩
/-! back, clear -/
theorem R_back (h : RInv σ T S k t) : (∃ k', RInv (r_X5_back σ).2 T S k' t) ∧ LoS σ (r_X5_back σ).2 := by
  have h0 := RInv_0 (v := 0) h
  obtain ⟨a1, a2, a3, a4, a5, a6, ⟨x, a7⟩, a8, a9⟩ := id h0
  have lo : LoS σ (sg_up σ 35 0 0) := LoS_u (by decide)
  unfold r_X5_back
  by_cases g : ¬ (sg_up σ 35 0 0) 35 6 = 0
  · rw [if_pos g]
    have hk : 1 ≤ k := by
      rcases Nat.eq_zero_or_pos k with e | e
      · rw [a5, e] at g; exact absurd rfl g
      · exact e
    obtain ⟨y, hy⟩ := mrun_le' a7 (j := k - 1) (by omega)
    have et : t_X5_back_0 σ = sg_up (sg_up σ 35 0 0) 35 6 (N (k - 1)) := by
      unfold t_X5_back_0
      rw [a5, show (1 : Int32) = N 1 from rfl, N_sub hk]
    dsimp only
    rw [et]
    exact ⟨⟨k - 1, TabAt_up a1 (by decide), a2, SetAt_up a3 (by decide), a4, up_eq, by omega, ⟨y, hy⟩, by rw [up_k (by decide)]; exact a8, a9⟩, lo.tr (LoS_u (by decide))⟩
  · rw [if_neg g]
    exact ⟨⟨k, h0⟩, lo⟩
theorem R_clear (h : RInv σ T S k t) : RInv (r_X5_clear σ).2 T S 0 t ∧ LoS σ (r_X5_clear σ).2 := by
  have h0 := RInv_0 (v := 0) h
  obtain ⟨a1, a2, a3, a4, a5, a6, ⟨x, a7⟩, a8, a9⟩ := id h0
  unfold r_X5_clear t_X5_clear_0
  dsimp only
  exact ⟨⟨TabAt_up a1 (by decide), a2, SetAt_up a3 (by decide), a4, up_eq, by decide, ⟨_, mrun_0⟩, by rw [up_k (by decide)]; exact a8, a9⟩, (LoS_u (by decide)).tr (LoS_u (by decide))⟩
/-! play -/
theorem R_play77 {x : mS} {x0 x1 y0 : Int32} {σ1 : sg_S} (h : RInv σ1 T S k t) (hx : mrun T S (σ1 39) (σ1 40) k = some x) (hy : ¬ y0 = 0 → k < 400 ∧ canS x.1 x.2.1 x.2.2 x0 x1) : p_X5_play_a77 σ1 x0 x1 y0 ∧ (∃ k', RInv (r_X5_play_a77 σ1 x0 x1 y0).2 T S k' t) ∧ LoS σ1 (r_X5_play_a77 σ1 x0 x1 y0).2 := by
  obtain ⟨a1, a2, a3, a4, a5, a6, -, a8, a9⟩ := id h
  unfold p_X5_play_a77 r_X5_play_a77
  by_cases g : ¬ y0 = 0
  · rw [if_pos g]
    obtain ⟨hk, hc⟩ := hy g
    obtain ⟨y, hs⟩ := stp_some (T := T) (mean := S 1) hc
    have e1 : (sg_up σ1 39 k x0) 35 6 = N k := by rw [up_c (by decide)]; exact a5
    have et : t_X5_play_1 σ1 x0 x1 y0 = sg_up (sg_up (sg_up σ1 39 k x0) 40 k x1) 35 6 (N (k + 1)) := by
      unfold t_X5_play_1 t_X5_play_0
      rw [a5, ni_N (by omega), e1, ni_N (by omega), up_c (by decide), e1, N_inc]
    dsimp only
    rw [et, a5, ni_N (by omega), e1]
    refine ⟨fun _ => ⟨ix_N hk (by decide), ix_N hk (by decide)⟩, ⟨k + 1, TabAt_up (TabAt_up (TabAt_up a1 (by decide)) (by decide)) (by decide), a2, SetAt_up (SetAt_up (SetAt_up a3 (by decide)) (by decide)) (by decide), a4, up_eq, by omega, ⟨y, ?_⟩, by rw [up_k (by decide), up_c (by decide), up_c (by decide)]; exact a8, a9⟩, ((LoS_u (by decide)).tr (LoS_u (by decide))).tr (LoS_u (by decide))⟩
    have hc : mrun T S ((sg_up (sg_up (sg_up σ1 39 k x0) 40 k x1) 35 6 (N (k + 1))) 39) ((sg_up (sg_up (sg_up σ1 39 k x0) 40 k x1) 35 6 (N (k + 1))) 40) k = some x := by
      rw [← hx]
      refine mrun_congr k (fun j hj => ⟨?_, ?_⟩)
      · rw [up_c (by decide), up_c (by decide), up_k (by omega)]
      · rw [up_c (by decide), up_k (by omega), up_c (by decide)]
    rw [mrun_some hc, up_c (by decide), up_c (by decide), up_eq, up_c (by decide), up_eq]
    exact hs
  · rw [if_neg g]
    exact ⟨fun z => absurd z g, ⟨k, h⟩, LoS.rf⟩
theorem R_play {x0 x1 : Int32} (h : RInv σ T S k t) : p_X5_play σ x0 x1 ∧ (∃ k', RInv (r_X5_play σ x0 x1).2 T S k' t) ∧ LoS σ (r_X5_play σ x0 x1).2 := by
  have h0 := RInv_0 (v := 0) h
  obtain ⟨a1, a2, a3, a4, a5, a6, ⟨x, a7⟩, a8, a9⟩ := id h0
  obtain ⟨g1, g2, g3, g4⟩ := goesOn_ok h0 a7
  have hI := g4.q.inv h0
  have hlo : LoS σ (s_X5_goesOn (sg_up σ 35 0 0)) := (LoS_u (by decide)).tr g4.lo
  have hx1 : mrun T S ((s_X5_goesOn (sg_up σ 35 0 0)) 39) ((s_X5_goesOn (sg_up σ 35 0 0)) 40) k = some x := by
    rw [g4.row (q := 39) (by decide) (by decide), g4.row (q := 40) (by decide) (by decide)]; exact a7
  have key : ∀ y0 : Int32, (¬ y0 = 0 → k < 400 ∧ canS x.1 x.2.1 x.2.2 x0 x1) → p_X5_play_a77 (s_X5_goesOn (sg_up σ 35 0 0)) x0 x1 y0 ∧ (∃ k', RInv (r_X5_play_a77 (s_X5_goesOn (sg_up σ 35 0 0)) x0 x1 y0).2 T S k' t) ∧ LoS σ (r_X5_play_a77 (s_X5_goesOn (sg_up σ 35 0 0)) x0 x1 y0).2 := fun y0 hy => by
    obtain ⟨p1, p2, p3⟩ := R_play77 hI hx1 hy
    exact ⟨p1, p2, hlo.tr p3⟩
  have key0 := key 0 (fun z => absurd rfl z)
  have h6 : (s_X5_goesOn (sg_up σ 35 0 0)) 35 6 = N k := hI.2.2.2.2.1
  have hc4 : ((400 : Int32) ≤ (s_X5_goesOn (sg_up σ 35 0 0)) 35 6) ↔ ¬ k < 400 := by
    rw [h6]
    show (N 400 ≤ N k) ↔ _
    rw [N_le (by decide) (by omega)]; omega
  have hno := now_lt g2 g3.1
  have hea := isEarly_iff g2 g3.1 g3.2.1
  have hmd := mayDrop_iff (n := x1) g2 (g3.2.2.2.1 1 (by decide))
  unfold p_X5_play r_X5_play
  by_cases c0 : v_X5_isEvent x0 = 0
  · rw [if_pos c0]
    exact ⟨⟨g1, fun _ => key0.1, fun z => absurd c0 z⟩, key0.2⟩
  rw [if_neg c0]
  have hev := isEvent5.mp c0
  by_cases c4 : (400 : Int32) ≤ (s_X5_goesOn (sg_up σ 35 0 0)) 35 6
  · rw [if_pos c4]
    exact ⟨⟨g1, fun z => absurd z c0, fun _ => ⟨fun _ => key0.1, fun z => absurd c4 z⟩⟩, key0.2⟩
  rw [if_neg c4]
  have c4' : k < 400 := Decidable.not_not.mp (fun z => c4 (hc4.mpr z))
  by_cases h100 : x0 = 100
  · rw [if_neg (fun z => z h100)]
    by_cases hy : v_X5_isEarly (s_X5_goesOn (sg_up σ 35 0 0)) = 0
    · rw [if_pos hy]
      exact ⟨⟨g1, fun z => absurd z c0, fun _ => ⟨fun z => absurd z c4, fun _ => ⟨fun z => absurd h100 z, fun _ => ⟨fun _ => key0.1, fun z => absurd hy z⟩⟩⟩⟩, key0.2⟩
    rw [if_neg hy]
    by_cases hd : v_X5_mayDrop (s_X5_goesOn (sg_up σ 35 0 0)) x1 = 0
    · rw [if_pos hd]
      exact ⟨⟨g1, fun z => absurd z c0, fun _ => ⟨fun z => absurd z c4, fun _ => ⟨fun z => absurd h100 z, fun _ => ⟨fun z => absurd z hy, fun _ => ⟨fun _ => key0.1, fun z => absurd hd z⟩⟩⟩⟩⟩, key0.2⟩
    · rw [if_neg hd]
      have key1 := key 1 (fun _ => ⟨c4', hev, fun _ => ⟨hea.mp hy, hmd.mp hd⟩, fun z => absurd h100 z, fun z => by rw [h100] at z; exact absurd z (by decide)⟩)
      exact ⟨⟨g1, fun z => absurd z c0, fun _ => ⟨fun z => absurd z c4, fun _ => ⟨fun z => absurd h100 z, fun _ => ⟨fun z => absurd z hy, fun _ => ⟨fun z => absurd z hd, fun _ => key1.1⟩⟩⟩⟩⟩, key1.2⟩
  rw [if_pos h100]
  by_cases hn : (2 : Int32) ≤ (s_X5_goesOn (sg_up σ 35 0 0)) 35 23
  · rw [if_pos hn]
    exact ⟨⟨g1, fun z => absurd z c0, fun _ => ⟨fun z => absurd z c4, fun _ => ⟨fun _ => ⟨fun _ => key0.1, fun z => absurd hn z⟩, fun z => absurd h100 z⟩⟩⟩, key0.2⟩
  rw [if_neg hn]
  have hx2 : x.1 < 2 := Decidable.not_not.mp (fun z => hn (hno.mpr z))
  by_cases h99 : x0 = 99
  · rw [if_neg (fun z => z h99)]
    obtain ⟨m1, m2⟩ := mayCut_iff (n := x1) g2 hx2 (g3.2.2.2.1 x.1 hx2)
    by_cases hd : v_X5_mayCut (s_X5_goesOn (sg_up σ 35 0 0)) x1 = 0
    · rw [if_pos hd]
      exact ⟨⟨g1, fun z => absurd z c0, fun _ => ⟨fun z => absurd z c4, fun _ => ⟨fun _ => ⟨fun z => absurd z hn, fun _ => ⟨fun z => absurd h99 z, fun _ => ⟨m1, fun _ => key0.1, fun z => absurd hd z⟩⟩⟩, fun z => absurd h100 z⟩⟩⟩, key0.2⟩
    · rw [if_neg hd]
      have key1 := key 1 (fun _ => ⟨c4', hev, fun z => absurd z h100, fun _ => hx2, fun _ => m2.mp hd⟩)
      exact ⟨⟨g1, fun z => absurd z c0, fun _ => ⟨fun z => absurd z c4, fun _ => ⟨fun _ => ⟨fun z => absurd z hn, fun _ => ⟨fun z => absurd h99 z, fun _ => ⟨m1, fun z => absurd z hd, fun _ => key1.1⟩⟩⟩, fun z => absurd h100 z⟩⟩⟩, key1.2⟩
  · rw [if_pos h99]
    have key1 := key 1 (fun _ => ⟨c4', hev, fun z => absurd z h100, fun _ => hx2, fun z => absurd z h99⟩)
    exact ⟨⟨g1, fun z => absurd z c0, fun _ => ⟨fun z => absurd z c4, fun _ => ⟨fun _ => ⟨fun z => absurd z hn, fun _ => ⟨fun _ => key1.1, fun z => absurd h99 z⟩⟩, fun z => absurd h100 z⟩⟩⟩, key1.2⟩
end RCalls
end
section
/-! THE REFERENCE ANSWERS: it returns, and leaves what holds between calls -/
section QV
variable {σ : sg_S} {T S : Nat → Nat} {k i t : Nat} {D : Nat → Nat → Nat}
theorem rhas_eq (h : RefAt σ T S i t D) (hi : i ≤ 2) (h0 : InnOK T k (D 0)) : v_X5_hasTarget σ = if 0 < i ∧ 0 < D 0 7 - D 0 8 then 1 else 0 := by
  have a9 : D 0 7 ≤ 30000 := h0.2.2.2.2.2.2.2.2.1
  unfold v_X5_hasTarget
  rw [h.2.2.2.2.1, (h.pic (i := 0) (by decide)).2.2.2.2.2.2.2.1]
  by_cases g1 : 0 < i
  · rw [if_neg (by exact g_nle (a := 0) g1 (by omega))]
    by_cases g2 : 0 < D 0 7 - D 0 8
    · rw [if_neg (by exact g_nle (a := 0) g2 (by omega)), if_pos ⟨g1, g2⟩]
    · rw [if_pos (by exact g_le (L := 0) (by omega) (by decide)), if_neg (fun z => g2 z.2)]
  · rw [if_pos (by exact g_le (L := 0) (by omega) (by decide)), if_neg (fun z => g1 z.1)]
theorem rhas_p (h : RefAt σ T S i t D) (hi : i ≤ 2) (h0 : InnOK T k (D 0)) (hh : ¬ v_X5_hasTarget σ = 0) : 0 < i ∧ 0 < D 0 7 - D 0 8 := by
  rw [rhas_eq h hi h0] at hh
  by_cases g : 0 < i ∧ 0 < D 0 7 - D 0 8
  · exact g
  · rw [if_neg g] at hh; exact absurd rfl hh
theorem rptarget {x0 x1 : Int32} (h : RefAt σ T S i t D) (h0 : InnOK T k (D 0)) (hp : 0 < D 0 7 - D 0 8) : p_X5_targetOf σ x0 x1 := by
  obtain ⟨a1, a2, a3, a4, a5, a6, a7, a8, a9, a10⟩ := h0
  exact ptarget h.1 h.2.1 (h.pic (i := 0) (by decide)).2.2.2.2.2.2.2.1 hp (by omega)
theorem rpleft {j : Nat} (h : RefAt σ T S i t D) (hj : j < 2) (hI : InnOK T k (D j)) : p_X5_leftWorth σ (N j) := by
  obtain ⟨a1, a2, a3, a4, -⟩ := hI
  exact pleftWorth_eq hj (h.pic hj) a3 a2 a4
theorem rppar {x0 : Int32} (h : RefAt σ T S i t D) (h0 : InnOK T k (D 0)) (h1 : InnOK T k (D 1)) (hp : 0 < D 0 7 - D 0 8) : p_X5_thePar σ x0 := ⟨rpleft (j := 1) h (by decide) h1, rptarget h h0 hp⟩
theorem rpparNow (h : RefAt σ T S i t D) (hi : i ≤ 2) (h0 : InnOK T k (D 0)) (h1 : InnOK T k (D 1)) : p_X5_parNow σ := fun hh _ => rppar h h0 h1 (rhas_p h hi h0 hh).2
theorem rpos (h : RefAt σ T S i t D) (h0 : InnOK T k (D 0)) (hz : ¬ σ 45 0 = 0) : 0 < D 0 7 - D 0 8 := by
  rw [(h.pic (i := 0) (by decide)).2.2.2.2.2.2.2.1] at hz
  rcases Nat.eq_zero_or_pos (D 0 7 - D 0 8) with e | e
  · rw [e] at hz; exact absurd rfl hz
  · exact e
theorem rpaim (h : RefAt σ T S i t D) (h0 : InnOK T k (D 0)) (h1 : InnOK T k (D 1)) (hp : 0 < D 0 7 - D 0 8) : p_X5_aim σ := ⟨fun _ => rptarget h h0 hp, fun _ => rppar h h0 h1 hp⟩
theorem rpresult (h : RefAt σ T S i t D) (h0 : InnOK T k (D 0)) (h1 : InnOK T k (D 1)) : p_X5_resultNow σ := fun hz => ⟨fun _ => rpaim h h0 h1 (rpos h h0 hz), fun _ _ => rpaim h h0 h1 (rpos h h0 hz)⟩
theorem rp_of_result (h : RefAt σ T S i t D) (h0 : InnOK T k (D 0)) (hr : ¬ v_X5_resultNow σ = 0) : 0 < D 0 7 - D 0 8 := by
  refine rpos h h0 (fun z => hr ?_)
  unfold v_X5_resultNow
  rw [if_pos z]
end QV
/-! the greatest common divisor -/
theorem gcd_step {x y : Nat} (h : 0 < y) : Nat.gcd x y = Nat.gcd y (x % y) := by
  rw [Nat.gcd_comm y (x % y), ← Nat.gcd_rec, Nat.gcd_comm]
theorem rdiv4 : ∀ (n x y : Nat), x < 2147483648 → y < 2147483648 → y < n → p_X5_divisor_l4 n (N x) (N y) ∧ v_X5_divisor_l4 n (N x) (N y) = N (Nat.gcd x y) := by
  intro n
  induction n with
  | zero => intro x y _ _ h; omega
  | succ n ih =>
    intro x y hx hy hn
    show p_X5_divisor_b4 (p_X5_divisor_l4 n) (N x) (N y) ∧ v_X5_divisor_b4 (v_X5_divisor_l4 n) (N x) (N y) = _
    unfold p_X5_divisor_b4 v_X5_divisor_b4
    by_cases e : y = 0
    · subst e
      rw [if_pos (by decide), Nat.gcd_zero_right]
      exact ⟨fun z => absurd rfl z, rfl⟩
    · have hz : ¬ N y = 0 := N_nz (by omega) hy
      have hlt : x % y < y := Nat.mod_lt _ (by omega)
      rw [if_neg hz, N_rm hx hy]
      obtain ⟨i1, i2⟩ := ih y (x % y) hy (by omega) (by omega)
      exact ⟨fun _ => ⟨hz, i1⟩, by rw [i2, ← gcd_step (by omega)]⟩
theorem rtells {x y : Nat} {u : Int32} (hx : x < 2147483648) (hy : 0 < y) (hy2 : y < 600) : p_X5_tells (N x) (N y) u := by
  obtain ⟨h1, h2⟩ := rdiv4 600 x y hx (by omega) hy2
  have hg : 0 < Nat.gcd x y := Nat.gcd_pos_of_pos_right x hy
  have hl : Nat.gcd x y ≤ y := Nat.gcd_le_right x hy
  have hz : ¬ v_X5_divisor (N x) (N y) = 0 := by
    show ¬ v_X5_divisor_l4 600 (N x) (N y) = 0
    rw [h2]
    exact N_nz hg (by omega)
  exact ⟨h1, fun _ => hz, fun _ => hz⟩
/-! blocks -/
def BSame (σ σ' : sg_S) : Prop := ∀ q k, ¬ (q = 58 ∨ q = 59) → σ' q k = σ q k
theorem BSame.tr {σ σ1 σ2 : sg_S} (h : BSame σ σ1) (h' : BSame σ1 σ2) : BSame σ σ2 := fun q k a => (h' q k a).trans (h q k a)
theorem BSame_u {σ : sg_S} {q0 k0 : Nat} {v : Int32} (h : q0 = 58 ∨ q0 = 59) : BSame σ (sg_up σ q0 k0 v) := fun q k h1 => up_ne (by omega)
theorem BSame.q {σ σ' : sg_S} (h : BSame σ σ') : QSame σ σ' := fun q k _ h2 _ => h q k h2
theorem BSame.row {σ σ' : sg_S} (h : BSame σ σ') {q : Nat} (h1 : ¬ (q = 58 ∨ q = 59)) : σ' q = σ q := funext (fun k => h q k h1)
theorem lay93 {σ : sg_S} {x2 : Int32} {k84 : sg_S → Int32 → sg_S} {kp84 : sg_S → Int32 → Prop} (hp : ∀ b, b < 3 → kp84 (sg_up (sg_up σ 58 b (σ 58 b + 1)) 59 b (-1)) (x2 + -1)) : ∀ (n k b : Nat), k ≤ 3 → b < 3 → 3 - k < n → p_X5_laysBlocks_l93 kp84 n σ x2 (N b) (N k) ∧ ∃ b', b' < 3 ∧ s_X5_laysBlocks_l93 k84 n σ x2 (N b) (N k) = k84 (sg_up (sg_up σ 58 b' (σ 58 b' + 1)) 59 b' (-1)) (x2 + -1) := by
  intro n
  induction n with
  | zero => intro k b _ _ hn; omega
  | succ n ih =>
    intro k b hk hb hn
    show p_X5_laysBlocks_b93 kp84 (p_X5_laysBlocks_l93 kp84 n) σ x2 (N b) (N k) ∧ ∃ b', b' < 3 ∧ s_X5_laysBlocks_b93 k84 (s_X5_laysBlocks_l93 k84 n) σ x2 (N b) (N k) = k84 (sg_up (sg_up σ 58 b' (σ 58 b' + 1)) 59 b' (-1)) (x2 + -1)
    have xb : ix (N b) 3 := ix_N hb (by decide)
    have et : t_X5_laysBlocks_1 σ x2 (N b) (N k) = sg_up (sg_up σ 58 b (σ 58 b + 1)) 59 b (-1) := by
      unfold t_X5_laysBlocks_1 t_X5_laysBlocks_0
      rw [ni_N (by omega)]
    unfold p_X5_laysBlocks_b93 s_X5_laysBlocks_b93
    by_cases e : k = 3
    · have hc : (3 : Int32) ≤ N k := (N14 (L := 3) hk (by decide)).mpr e
      rw [if_pos hc, et]
      exact ⟨⟨fun _ => ⟨xb, xb, xb, hp b hb⟩, fun z => absurd hc z⟩, b, hb, rfl⟩
    · have hc : ¬ (3 : Int32) ≤ N k := fun z => e ((N14 (L := 3) hk (by decide)).mp z)
      have xk : ix (N k) 3 := ix_N (by omega) (by decide)
      obtain ⟨i1, i2⟩ := ih (k + 1) b (by omega) hb (by omega)
      obtain ⟨j1, j2⟩ := ih (k + 1) k (by omega) (by omega) (by omega)
      rw [if_neg hc, N_inc]
      refine ⟨⟨fun z => absurd z hc, fun _ => ⟨xk, xb, fun _ => i1, fun _ => j1⟩⟩, ?_⟩
      by_cases g : σ 59 (ni (N k)) ≤ σ 59 (ni (N b))
      · rw [if_pos g]; exact i2
      · rw [if_neg g]; exact j2
theorem lay84 : ∀ (n ov : Nat) (σ : sg_S) (b : Nat → Nat), ov < n → ov < 1000 → (∀ j, j < 3 → σ 58 j = N (b j)) → p_X5_laysBlocks_l84 n σ (N ov) ∧ BSame σ (s_X5_laysBlocks_l84 n σ (N ov)) ∧ ∃ b' : Nat → Nat, (∀ j, j < 3 → (s_X5_laysBlocks_l84 n σ (N ov)) 58 j = N (b' j)) ∧ b' 0 + b' 1 + b' 2 = b 0 + b 1 + b 2 + ov := by
  intro n
  induction n with
  | zero => intro ov σ b h; omega
  | succ n ih =>
    intro ov σ b hn ho hb
    show p_X5_laysBlocks_b84 (p_X5_laysBlocks_l84 n) σ (N ov) ∧ BSame σ (s_X5_laysBlocks_b84 (s_X5_laysBlocks_l84 n) σ (N ov)) ∧ ∃ b' : Nat → Nat, (∀ j, j < 3 → (s_X5_laysBlocks_b84 (s_X5_laysBlocks_l84 n) σ (N ov)) 58 j = N (b' j)) ∧ b' 0 + b' 1 + b' 2 = b 0 + b 1 + b 2 + ov
    unfold p_X5_laysBlocks_b84 s_X5_laysBlocks_b84
    by_cases e : ov = 0
    · have hc : N ov ≤ 0 := by rw [e]; decide
      rw [if_pos hc]
      exact ⟨fun z => absurd hc z, fun _ _ _ => rfl, b, hb, by omega⟩
    · have hc : ¬ N ov ≤ 0 := g_nle (a := 0) (by omega) (by omega)
      have e1 : N ov + -1 = N (ov - 1) := by
        rw [← Int32.sub_eq_add_neg]
        exact N_sub (b := 1) (by omega)
      rw [if_neg hc]
      have hstep : ∀ j, j < 3 → ∀ i, i < 3 → (sg_up (sg_up σ 58 j (σ 58 j + 1)) 59 j (-1)) 58 i = N (du b j (b j + 1) i) := by
        intro j hj i hi
        rw [up_c (by decide)]
        by_cases e2 : i = j
        · subst e2; rw [up_eq, du_eq, hb i hi, N_inc]
        · rw [up_k e2, du_ne e2]; exact hb i hi
      obtain ⟨p1, b', hb', es⟩ := lay93 (σ := σ) (x2 := N ov) (k84 := s_X5_laysBlocks_l84 n) (kp84 := p_X5_laysBlocks_l84 n) (fun j hj => by rw [e1]; exact (ih (ov - 1) _ _ (by omega) (by omega) (hstep j hj)).1) 600 1 0 (by decide) (by decide) (by decide)
      have es : s_X5_laysBlocks_l93 (s_X5_laysBlocks_l84 n) 600 σ (N ov) 0 1 = _ := es
      rw [es, e1]
      obtain ⟨i1, i2, b2, i3, i4⟩ := ih (ov - 1) _ _ (by omega) (by omega) (hstep b' hb')
      refine ⟨fun _ => p1, ((BSame_u (Or.inl rfl)).tr (BSame_u (Or.inr rfl))).tr i2, b2, i3, ?_⟩
      rcases (show b' = 0 ∨ b' = 1 ∨ b' = 2 by omega) with rfl | rfl | rfl
      all_goals (simp (decide := true) only [du_eq, du_ne] at i4; omega)
/-- the shares of 20 -/
def shr (S : Nat → Nat) (j : Nat) : Nat := if j = 0 then S 3 else if j = 1 then S 4 else 20 - S 3 - S 4
theorem fl_le {n a b c : Nat} (h : a + b + c = 20) : n * a / 20 + n * b / 20 + n * c / 20 ≤ n := by
  have h1 : n * a + n * b + n * c = n * 20 := by rw [← Nat.mul_add, ← Nat.mul_add, h]
  omega
theorem lay41 {σ : sg_S} {n ov j y : Nat} {k4 : sg_S → Int32 → Int32 → Int32 → sg_S} {kp4 : sg_S → Int32 → Int32 → Int32 → Prop} (hj : j < 3) (hn : n ≤ 20) (hy : y ≤ 20) (hov : n * y / 20 ≤ ov) : s_X5_laysBlocks_a41 k4 σ (N n) (N ov) (N j) (N y) = k4 (sg_up (sg_up σ 58 j (N (n * y / 20))) 59 j (N (n * y % 20))) (N n) (N (ov - n * y / 20)) (N (j + 1)) ∧ (kp4 (sg_up (sg_up σ 58 j (N (n * y / 20))) 59 j (N (n * y % 20))) (N n) (N (ov - n * y / 20)) (N (j + 1)) → p_X5_laysBlocks_a41 kp4 σ (N n) (N ov) (N j) (N y)) := by
  have hm : n * y ≤ 20 * 20 := Nat.mul_le_mul hn hy
  have et : t_X5_laysBlocks_3 σ (N n) (N ov) (N j) (N y) = sg_up (sg_up σ 58 j (N (n * y / 20))) 59 j (N (n * y % 20)) := by
    unfold t_X5_laysBlocks_3 t_X5_laysBlocks_2
    rw [N_mul, ni_N (by omega), show (20 : Int32) = N 20 from rfl, N_div (by omega) (by decide), N_rm (by omega) (by decide)]
  have e58 : (sg_up (sg_up σ 58 j (N (n * y / 20))) 59 j (N (n * y % 20))) 58 j = N (n * y / 20) := by rw [up_c (by decide), up_eq]
  unfold s_X5_laysBlocks_a41 p_X5_laysBlocks_a41
  rw [et, ni_N (by omega), e58, N_sub hov, N_inc]
  have x : ix (N j) 3 := ix_N hj (by decide)
  exact ⟨rfl, fun h => ⟨x, x, x, h⟩⟩
theorem lay_ok {σ : sg_S} {S : Nat → Nat} {n : Nat} (hS : SetAt σ 36 S) (hK : SetOK S) (hn : n ≤ 20) : p_X5_laysBlocks σ (N n) ∧ BSame σ (s_X5_laysBlocks σ (N n)) ∧ ∃ b : Nat → Nat, (∀ j, j < 3 → (s_X5_laysBlocks σ (N n)) 58 j = N (b j)) ∧ b 0 + b 1 + b 2 = n ∧ ∃ σ3 : sg_S, (∀ j, j < 3 → σ3 58 j = N (n * shr S j / 20) ∧ σ3 59 j = N (n * shr S j % 20)) ∧ s_X5_laysBlocks σ (N n) = s_X5_laysBlocks_l84 600 σ3 (N (n - n * shr S 0 / 20 - n * shr S 1 / 20 - n * shr S 2 / 20)) := by
  have h34 : S 3 + S 4 ≤ 20 := hK.2.2.2.2.2.2
  have f := fl_le (n := n) (a := S 3) (b := S 4) (c := 20 - S 3 - S 4) (by omega)
  have e33 : (3 : Int32) + N 0 = N 3 := by decide
  have e34 : (3 : Int32) + N 1 = N 4 := by decide
  -- the third
  have B2 : ∀ (m : Nat) (τ : sg_S), SetAt τ 36 S → s_X5_laysBlocks_l4 (m + 2) τ (N n) (N (n - n * S 3 / 20 - n * S 4 / 20)) (N 2) = s_X5_laysBlocks_l84 600 (sg_up (sg_up τ 58 2 (N (n * (20 - S 3 - S 4) / 20))) 59 2 (N (n * (20 - S 3 - S 4) % 20))) (N (n - n * S 3 / 20 - n * S 4 / 20 - n * (20 - S 3 - S 4) / 20)) ∧ (p_X5_laysBlocks_l84 600 (sg_up (sg_up τ 58 2 (N (n * (20 - S 3 - S 4) / 20))) 59 2 (N (n * (20 - S 3 - S 4) % 20))) (N (n - n * S 3 / 20 - n * S 4 / 20 - n * (20 - S 3 - S 4) / 20)) → p_X5_laysBlocks_l4 (m + 2) τ (N n) (N (n - n * S 3 / 20 - n * S 4 / 20)) (N 2)) := by
    intro m τ hτ
    have ey : (20 : Int32) - τ 36 3 - τ 36 4 = N (20 - S 3 - S 4) := by
      rw [hτ 3 (by decide), hτ 4 (by decide), show (20 : Int32) = N 20 from rfl, N_sub (by omega), N_sub (by omega)]
    obtain ⟨l1, l2⟩ := lay41 (σ := τ) (n := n) (ov := n - n * S 3 / 20 - n * S 4 / 20) (j := 2) (y := 20 - S 3 - S 4) (k4 := s_X5_laysBlocks_l4 (m + 1)) (kp4 := p_X5_laysBlocks_l4 (m + 1)) (by decide) hn (by omega) (by omega)
    have e3 : ∀ (τ' : sg_S) (o : Int32), s_X5_laysBlocks_l4 (m + 1) τ' (N n) o (N 3) = s_X5_laysBlocks_l84 600 τ' o ∧ (p_X5_laysBlocks_l84 600 τ' o → p_X5_laysBlocks_l4 (m + 1) τ' (N n) o (N 3)) := by
      intro τ' o
      refine ⟨?_, fun hp => ⟨fun _ => hp, fun z => absurd (by decide) z⟩⟩
      show s_X5_laysBlocks_b4 (s_X5_laysBlocks_l4 m) τ' (N n) o (N 3) = _
      unfold s_X5_laysBlocks_b4
      rw [if_pos (by decide)]
    refine ⟨?_, fun hp => ?_⟩
    · show s_X5_laysBlocks_b4 (s_X5_laysBlocks_l4 (m + 1)) τ (N n) _ (N 2) = _
      unfold s_X5_laysBlocks_b4
      rw [if_neg (by decide), if_pos (by decide), ey, l1]
      exact (e3 _ _).1
    · show p_X5_laysBlocks_b4 (p_X5_laysBlocks_l4 (m + 1)) τ (N n) _ (N 2)
      unfold p_X5_laysBlocks_b4
      rw [ey]
      exact ⟨fun z => absurd z (by decide), fun _ => ⟨fun _ => l2 ((e3 _ _).2 hp), fun z => absurd (by decide) z⟩⟩
  have B1 : ∀ (m : Nat) (τ : sg_S), SetAt τ 36 S → s_X5_laysBlocks_l4 (m + 3) τ (N n) (N (n - n * S 3 / 20)) (N 1) = s_X5_laysBlocks_l4 (m + 2) (sg_up (sg_up τ 58 1 (N (n * S 4 / 20))) 59 1 (N (n * S 4 % 20))) (N n) (N (n - n * S 3 / 20 - n * S 4 / 20)) (N 2) ∧ (p_X5_laysBlocks_l4 (m + 2) (sg_up (sg_up τ 58 1 (N (n * S 4 / 20))) 59 1 (N (n * S 4 % 20))) (N n) (N (n - n * S 3 / 20 - n * S 4 / 20)) (N 2) → p_X5_laysBlocks_l4 (m + 3) τ (N n) (N (n - n * S 3 / 20)) (N 1)) := by
    intro m τ hτ
    obtain ⟨l1, l2⟩ := lay41 (σ := τ) (n := n) (ov := n - n * S 3 / 20) (j := 1) (y := S 4) (k4 := s_X5_laysBlocks_l4 (m + 2)) (kp4 := p_X5_laysBlocks_l4 (m + 2)) (by decide) hn (by omega) (by omega)
    refine ⟨?_, fun hp => ?_⟩
    · show s_X5_laysBlocks_b4 (s_X5_laysBlocks_l4 (m + 2)) τ (N n) _ (N 1) = _
      unfold s_X5_laysBlocks_b4
      rw [if_neg (by decide), if_neg (by decide), e34, ni_N (by decide), hτ 4 (by decide), l1]
    · show p_X5_laysBlocks_b4 (p_X5_laysBlocks_l4 (m + 2)) τ (N n) _ (N 1)
      unfold p_X5_laysBlocks_b4
      rw [e34, ni_N (by decide), hτ 4 (by decide)]
      exact ⟨fun z => absurd z (by decide), fun _ => ⟨fun z => absurd z (by decide), fun _ => ⟨ix_N (by decide) (by decide), l2 hp⟩⟩⟩
  have B0 : s_X5_laysBlocks σ (N n) = s_X5_laysBlocks_l4 599 (sg_up (sg_up σ 58 0 (N (n * S 3 / 20))) 59 0 (N (n * S 3 % 20))) (N n) (N (n - n * S 3 / 20)) (N 1) ∧ (p_X5_laysBlocks_l4 599 (sg_up (sg_up σ 58 0 (N (n * S 3 / 20))) 59 0 (N (n * S 3 % 20))) (N n) (N (n - n * S 3 / 20)) (N 1) → p_X5_laysBlocks σ (N n)) := by
    obtain ⟨l1, l2⟩ := lay41 (σ := σ) (n := n) (ov := n) (j := 0) (y := S 3) (k4 := s_X5_laysBlocks_l4 599) (kp4 := p_X5_laysBlocks_l4 599) (by decide) hn (by omega) (by omega)
    refine ⟨?_, fun hp => ?_⟩
    · show s_X5_laysBlocks_b4 (s_X5_laysBlocks_l4 599) σ (N n) (N n) (N 0) = _
      unfold s_X5_laysBlocks_b4
      rw [if_neg (by decide), if_neg (by decide), e33, ni_N (by decide), hS 3 (by decide), l1]
    · show p_X5_laysBlocks_b4 (p_X5_laysBlocks_l4 599) σ (N n) (N n) (N 0)
      unfold p_X5_laysBlocks_b4
      rw [e33, ni_N (by decide), hS 3 (by decide)]
      exact ⟨fun z => absurd z (by decide), fun _ => ⟨fun z => absurd z (by decide), fun _ => ⟨ix_N (by decide) (by decide), l2 hp⟩⟩⟩
  have s1 : SetAt (sg_up (sg_up σ 58 0 (N (n * S 3 / 20))) 59 0 (N (n * S 3 % 20))) 36 S := SetAt_up (SetAt_up hS (by decide)) (by decide)
  have s2 : SetAt (sg_up (sg_up (sg_up (sg_up σ 58 0 (N (n * S 3 / 20))) 59 0 (N (n * S 3 % 20))) 58 1 (N (n * S 4 / 20))) 59 1 (N (n * S 4 % 20))) 36 S := SetAt_up (SetAt_up s1 (by decide)) (by decide)
  obtain ⟨b0, b0'⟩ := B0
  obtain ⟨b1, b1'⟩ := B1 596 _ s1
  obtain ⟨b2, b2'⟩ := B2 596 _ s2
  have hall := (b0.trans b1).trans b2
  have h58 : ∀ j, j < 3 → (sg_up (sg_up (sg_up (sg_up (sg_up (sg_up σ 58 0 (N (n * S 3 / 20))) 59 0 (N (n * S 3 % 20))) 58 1 (N (n * S 4 / 20))) 59 1 (N (n * S 4 % 20))) 58 2 (N (n * (20 - S 3 - S 4) / 20))) 59 2 (N (n * (20 - S 3 - S 4) % 20))) 58 j = N (n * shr S j / 20) := by
    intro j hj
    rcases (show j = 0 ∨ j = 1 ∨ j = 2 by omega) with rfl | rfl | rfl
    all_goals (simp (decide := true) only [up_eq, up_c, up_k]; rfl)
  have h59 : ∀ j, j < 3 → (sg_up (sg_up (sg_up (sg_up (sg_up (sg_up σ 58 0 (N (n * S 3 / 20))) 59 0 (N (n * S 3 % 20))) 58 1 (N (n * S 4 / 20))) 59 1 (N (n * S 4 % 20))) 58 2 (N (n * (20 - S 3 - S 4) / 20))) 59 2 (N (n * (20 - S 3 - S 4) % 20))) 59 j = N (n * shr S j % 20) := by
    intro j hj
    rcases (show j = 0 ∨ j = 1 ∨ j = 2 by omega) with rfl | rfl | rfl
    all_goals (simp (decide := true) only [up_eq, up_c, up_k]; rfl)
  obtain ⟨c1, c2, b, c3, c4⟩ := lay84 600 (n - n * S 3 / 20 - n * S 4 / 20 - n * (20 - S 3 - S 4) / 20) _ (fun j => n * shr S j / 20) (by omega) (by omega) h58
  refine ⟨b0' (b1' (b2' c1)), ?_, b, ?_, ?_, ⟨_, fun j hj => ⟨h58 j hj, h59 j hj⟩, hall⟩⟩
  · rw [hall]
    exact ((((((BSame_u (Or.inl rfl)).tr (BSame_u (Or.inr rfl))).tr (BSame_u (Or.inl rfl))).tr (BSame_u (Or.inr rfl))).tr (BSame_u (Or.inl rfl))).tr (BSame_u (Or.inr rfl))).tr c2
  · intro j hj
    rw [hall]
    exact c3 j hj
  · have e0 : shr S 0 = S 3 := rfl
    have e1 : shr S 1 = S 4 := rfl
    have e2 : shr S 2 = 20 - S 3 - S 4 := rfl
    rw [e0, e1, e2] at c4
    omega
theorem ofOver_p {x1 : Int32} {a : Nat} (ha : a < 40) : p_X5_ofOver (N a) x1 := by
  have x : ix (N a) 40 := ix_N ha (by decide)
  exact ⟨fun _ => ⟨fun _ => x, fun _ => x⟩, fun _ => x⟩
theorem blk54 {σ : sg_S} {i kk f b : Nat} {x3 : Int32} (hi : i < 2) (hk : kk < 3) (hb : σ 58 kk = N b) (hf : f + b ≤ 20) : ∀ (n o : Nat) (x5 : Int32), f ≤ o → o ≤ f + b → f + b - o < n → p_X5_ofBlock_l54 n σ (N i) (N kk) x3 (N f) x5 (N o) ∧ (r_X5_ofBlock_l54 n σ (N i) (N kk) x3 (N f) x5 (N o)).2 = σ := by
  intro n
  induction n with
  | zero => intro o x5 _ _ hn; omega
  | succ n ih =>
    intro o x5 h1 h2 hn
    show p_X5_ofBlock_b54 (p_X5_ofBlock_l54 n) σ (N i) (N kk) x3 (N f) x5 (N o) ∧ (r_X5_ofBlock_b54 (r_X5_ofBlock_l54 n) σ (N i) (N kk) x3 (N f) x5 (N o)).2 = σ
    unfold p_X5_ofBlock_b54 r_X5_ofBlock_b54
    rw [ni_N (by omega), hb, N_add]
    have xk : ix (N kk) 3 := ix_N hk (by decide)
    by_cases e : f + b ≤ o
    · have hc : N (f + b) ≤ N o := g_le e (by omega)
      rw [if_pos hc]
      exact ⟨⟨xk, fun z => absurd hc z⟩, rfl⟩
    · have hc : ¬ N (f + b) ≤ N o := g_nle (by omega) (by omega)
      have ea : 20 * N i + N o = N (20 * i + o) := by rw [show (20 : Int32) = N 20 from rfl, N_mul, N_add]
      obtain ⟨i1, i2⟩ := ih (o + 1) (x5 + v_X5_ofOver σ (N (20 * i + o)) x3) (by omega) (by omega) (by omega)
      rw [if_neg hc, ea, N_inc]
      exact ⟨⟨xk, fun _ => ⟨ofOver_p (by omega), i1⟩⟩, i2⟩
theorem ofBlock_ok {σ : sg_S} {T S : Nat → Nat} {now t k i kk : Nat} {x2 : Int32} {D : Nat → Nat → Nat} (h : RefAt σ T S now t D) (hi : i < 2) (hI : InnOK T k (D i)) (hk : kk < 3) : p_X5_ofBlock σ (N i) (N kk) x2 ∧ BSame σ (r_X5_ofBlock σ (N i) (N kk) x2).2 := by
  have e44 : σ 44 (ni (N i)) = N (D i 3) := by rw [ni_N (by omega)]; exact (h.pic hi).2.2.2.1
  obtain ⟨l1, l2, b, l3, l4, -⟩ := lay_ok h.2.2.1 h.2.2.2.1 hI.2.1
  have h20 := hI.2.1
  unfold p_X5_ofBlock r_X5_ofBlock
  rw [e44, l3 0 (by decide), l3 1 (by decide), N_add]
  rcases (show kk = 0 ∨ kk = 1 ∨ kk = 2 by omega) with rfl | rfl | rfl
  · obtain ⟨p1, p2⟩ := blk54 (x3 := x2) (f := 0) hi (by decide) (l3 0 (by decide)) (by omega) 600 0 0 (by omega) (by omega) (by omega)
    rw [if_neg (fun z => z rfl)]
    exact ⟨⟨ix2 hi, l1, fun z => absurd rfl z, fun _ => p1⟩, by rw [show (r_X5_ofBlock_l54 600 (s_X5_laysBlocks σ (N (D i 3))) (N i) (N 0) x2 0 0 0).2 = _ from p2]; exact l2⟩
  · obtain ⟨p1, p2⟩ := blk54 (x3 := x2) (f := b 0) hi (by decide) (l3 1 (by decide)) (by omega) 600 (b 0) 0 (by omega) (by omega) (by omega)
    rw [if_pos (by decide), if_neg (fun z => z rfl)]
    exact ⟨⟨ix2 hi, l1, fun _ => ⟨fun z => absurd rfl z, fun _ => p1⟩, fun z => absurd (by decide) z⟩, by rw [p2]; exact l2⟩
  · obtain ⟨p1, p2⟩ := blk54 (x3 := x2) (f := b 0 + b 1) hi (by decide) (l3 2 (by decide)) (by omega) 600 (b 0 + b 1) 0 (by omega) (by omega) (by omega)
    rw [if_pos (by decide), if_pos (by decide)]
    exact ⟨⟨ix2 hi, l1, fun _ => ⟨fun _ => p1, fun z => absurd (by decide) z⟩, fun z => absurd (by decide) z⟩, by rw [p2]; exact l2⟩
/-! stands, overs -/
theorem stand_p {i kk : Nat} (hi : i < 2) (hk : kk < 10) : p_X5_standOf (N i) (N kk) := by
  refine ⟨by rw [t_eq]; exact ix_N (by omega) (by decide), fun hz => ?_⟩
  have hk0 : 1 ≤ kk := by
    rcases Nat.eq_zero_or_pos kk with e | e
    · rw [e] at hz; exact absurd rfl hz
    · exact e
  rw [t_eq, show (1 : Int32) = N 1 from rfl, N_sub (by omega)]
  exact ix_N (by omega) (by decide)
theorem last_p {σ : sg_S} {i w : Nat} (hi : i < 2) (hw : σ 42 i = N w) (hw2 : w ≤ 10) : p_X5_lastOf σ (N i) := by
  refine ⟨ix2 hi, fun _ => ⟨ix2 hi, ix2 hi, fun hz => ⟨ix2 hi, ?_⟩⟩⟩
  rw [ni_N (by omega), hw] at hz ⊢
  have hk0 : 1 ≤ w := by
    rcases Nat.eq_zero_or_pos w with e | e
    · rw [e] at hz; exact absurd rfl hz
    · exact e
  rw [t_eq, show (1 : Int32) = N 1 from rfl, N_sub (by omega)]
  exact ix_N (by omega) (by decide)
theorem best26 {σ : sg_S} {i w : Nat} (hi : i < 2) (hw : σ 42 i = N w) (hw2 : w ≤ 10) : ∀ (n kk : Nat) (x2 : Int32), kk ≤ w → w - kk < n → p_X5_bestStand_l26 n σ (N i) x2 (N kk) ∧ (r_X5_bestStand_l26 n σ (N i) x2 (N kk)).2 = σ := by
  intro n
  induction n with
  | zero => intro kk x2 _ hn; omega
  | succ n ih =>
    intro kk x2 hk hn
    show p_X5_bestStand_b26 (p_X5_bestStand_l26 n) σ (N i) x2 (N kk) ∧ (r_X5_bestStand_b26 (r_X5_bestStand_l26 n) σ (N i) x2 (N kk)).2 = σ
    unfold p_X5_bestStand_b26 r_X5_bestStand_b26
    rw [ni_N (by omega), hw]
    by_cases e : w ≤ kk
    · have hc : N w ≤ N kk := g_le e (by omega)
      rw [if_pos hc]
      exact ⟨⟨ix2 hi, fun z => absurd hc z⟩, rfl⟩
    · have hc : ¬ N w ≤ N kk := g_nle (by omega) (by omega)
      have sp := stand_p (kk := kk) hi (by omega)
      rw [if_neg hc, N_inc]
      refine ⟨⟨ix2 hi, fun _ => ⟨sp, fun _ => (ih _ _ (by omega) (by omega)).1, fun _ => ⟨sp, (ih _ _ (by omega) (by omega)).1⟩⟩⟩, ?_⟩
      split
      · exact (ih _ _ (by omega) (by omega)).2
      · exact (ih _ _ (by omega) (by omega)).2
theorem over4 {σ : sg_S} {i : Nat} (hi : i < 2) : ∀ (n kk b : Nat), kk ≤ 20 → b < 20 → 20 - kk < n → p_X5_bestOverOf_l4 σ n (N i) (N b) (N kk) ∧ ∃ b', b' < 20 ∧ v_X5_bestOverOf_l4 σ n (N i) (N b) (N kk) = N b' := by
  intro n
  induction n with
  | zero => intro kk b _ _ hn; omega
  | succ n ih =>
    intro kk b hk hb hn
    show p_X5_bestOverOf_b4 σ (p_X5_bestOverOf_l4 σ n) (N i) (N b) (N kk) ∧ ∃ b', b' < 20 ∧ v_X5_bestOverOf_b4 σ (v_X5_bestOverOf_l4 σ n) (N i) (N b) (N kk) = N b'
    unfold p_X5_bestOverOf_b4 v_X5_bestOverOf_b4
    have ea : ∀ o, 20 * N i + N o = N (20 * i + o) := fun o => by rw [show (20 : Int32) = N 20 from rfl, N_mul, N_add]
    by_cases e : kk = 20
    · have hc : (20 : Int32) ≤ N kk := (N14 (L := 20) hk (by decide)).mpr e
      rw [if_pos hc]
      exact ⟨fun z => absurd hc z, b, hb, rfl⟩
    · have hc : ¬ (20 : Int32) ≤ N kk := fun z => e ((N14 (L := 20) hk (by decide)).mp z)
      obtain ⟨i1, i2⟩ := ih (kk + 1) b (by omega) hb (by omega)
      obtain ⟨j1, j2⟩ := ih (kk + 1) kk (by omega) (by omega) (by omega)
      rw [if_neg hc, N_inc, ea, ea]
      refine ⟨fun _ => ⟨ix_N (by omega) (by decide), ix_N (by omega) (by decide), fun _ => i1, fun _ => j1⟩, ?_⟩
      split
      · exact i2
      · exact j2
theorem over_ok {σ : sg_S} {i : Nat} (hi : i < 2) : p_X5_bestOverOf σ (N i) ∧ ∃ b', b' < 20 ∧ v_X5_bestOverOf σ (N i) = N b' := over4 hi 600 1 0 (by decide) (by decide) (by decide)
end
section
/-! THE REFERENCE'S CALLS THAT ASK -/
theorem inn_ex {x : Int32} (h : ¬ v_X5_isInnings x = 0) : ∃ i, x = N i ∧ i < 2 := by
  obtain ⟨a, e, -, ha⟩ := in_ex (lo := 0) (hi := 1) (by decide) (by decide) h
  exact ⟨a, e, by omega⟩
theorem in_pred {x : Int32} {c : Nat} (hc : c < 1000) (h : ¬ v_X5_in x 0 (N c - 1) = 0) : ∃ a, x = N a ∧ a < c := by
  by_cases e : c = 0
  · subst e
    exfalso
    apply h
    unfold v_X5_in
    by_cases g : x < 0
    · rw [if_pos g]
    · obtain ⟨a, ha, rfl⟩ := ex_nn g
      rw [if_neg g, if_pos (by rw [Int32.lt_iff_toInt_lt, N_toInt ha, show (N 0 - 1).toInt = -1 from rfl]; omega)]
  · rw [show (1 : Int32) = N 1 from rfl, N_sub (by omega)] at h
    obtain ⟨a, e1, -, ha⟩ := in_ex (lo := 0) (hi := c - 1) (by decide) (by omega) h
    exact ⟨a, e1, by omega⟩
section RAsk
variable {σ : sg_S} {T S : Nat → Nat} {k t : Nat}
theorem RQ0 (v : Int32) (h : RInv σ T S k t) : ∃ x : mS, mrun T S (σ 39) (σ 40) k = some x ∧ p_X5_goesOn (sg_up σ 35 0 v) ∧ RefAt (s_X5_goesOn (sg_up σ 35 0 v)) T S x.1 x.2.1 x.2.2 ∧ OK T (S 1) k x.1 x.2.1 x.2.2 ∧ QSame σ (s_X5_goesOn (sg_up σ 35 0 v)) := by
  have h0 := RInv_0 (v := v) h
  obtain ⟨x, hx⟩ := h0.2.2.2.2.2.2.1
  obtain ⟨g1, g2, g3, g4⟩ := goesOn_ok h0 hx
  exact ⟨x, hx, g1, g2, g3, QSame_0.tr g4.q⟩
theorem R_fault : QSame σ (r_X5_fault σ).2 := QSame_0
theorem R_worth {x0 x1 : Int32} : p_X5_worth x0 x1 ∧ QSame σ (r_X5_worth σ x0 x1).2 := by
  refine ⟨fun h1 h2 => ?_, ?_⟩
  · obtain ⟨a, rfl, -, ha⟩ := in_ex (lo := 0) (hi := 120) (by decide) (by decide) h1
    obtain ⟨w, rfl, -, hw⟩ := in_ex (lo := 0) (hi := 10) (by decide) (by decide) h2
    exact pworth5 ha hw
  · unfold r_X5_worth
    repeat' split
    all_goals exact QSame_0
theorem R_told {x0 x1 : Int32} : p_X5_told x0 x1 ∧ QSame σ (r_X5_told σ x0 x1).2 := by
  refine ⟨fun h1 h2 => ?_, ?_⟩
  · obtain ⟨a, rfl, -, ha⟩ := in_ex (lo := 0) (hi := 9) (by decide) (by decide) h1
    obtain ⟨w, rfl, -, hw⟩ := in_ex (lo := 1) (hi := 4) (by decide) (by decide) h2
    exact ix_5 (n := 10) (by omega) (by omega) (by decide) (by decide)
  · unfold r_X5_told
    repeat' split
    all_goals exact QSame_0
theorem R_count {x0 : Int32} (h : RInv σ T S k t) : p_X5_count σ x0 ∧ QSame σ (r_X5_count σ x0).2 := by
  obtain ⟨x, hx, g1, g2, g3, hQ⟩ := RQ0 0 h
  refine ⟨⟨g1, fun z => ?_⟩, ?_⟩
  · obtain ⟨a, rfl, a1, a2⟩ := in_ex (lo := 10) (hi := 14) (by decide) (by decide) z
    rw [show (10 : Int32) = N 10 from rfl, N_sub a1]
    exact ix_N (by omega) (by decide)
  · unfold r_X5_count
    repeat' split
    all_goals exact hQ
theorem R_innings {x0 x1 : Int32} (h : RInv σ T S k t) : p_X5_innings σ x0 x1 ∧ QSame σ (r_X5_innings σ x0 x1).2 := by
  obtain ⟨x, hx, g1, g2, g3, hQ⟩ := RQ0 0 h
  have h1 : ¬ (sg_up σ 35 0 1) 35 0 ≤ 0 := by rw [up_eq]; decide
  refine ⟨⟨fun _ z => absurd z h1, fun hi => ⟨fun _ z => absurd z h1, fun _ _ => ?_⟩⟩, ?_⟩
  · obtain ⟨i, rfl, hi'⟩ := inn_ex hi
    have hi := hi'
    have x2 := ix2 hi
    exact ⟨g1, fun _ => x2, fun _ => ⟨fun _ => x2, fun _ => ⟨fun _ => x2, fun _ => ⟨fun _ => x2, fun _ => ⟨fun _ => x2, fun _ => ⟨fun _ => x2, fun _ => ⟨fun _ => x2, fun _ => ⟨fun _ => x2, fun _ _ => ⟨x2, x2⟩⟩⟩⟩⟩⟩⟩⟩⟩
  · have q1 : QSame σ (r_X5_innings_a23 σ x0 x1 1).2 := by
      unfold r_X5_innings_a23
      rw [if_neg h1]
      exact QSame_0
    have q0 : QSame σ (r_X5_innings_a23 σ x0 x1 0).2 := by
      unfold r_X5_innings_a23
      repeat' split
      all_goals first | exact hQ | exact QSame_0
    unfold r_X5_innings
    repeat' split
    all_goals first | exact q1 | exact q0
theorem R_cut {x0 x1 x2 : Int32} (h : RInv σ T S k t) : p_X5_cut σ x0 x1 x2 ∧ QSame σ (r_X5_cut σ x0 x1 x2).2 := by
  obtain ⟨x, hx⟩ := h.2.2.2.2.2.2.1
  obtain ⟨g1, g2, g3, g4⟩ := goesOn_ok h hx
  have h1 : ¬ (sg_up (s_X5_goesOn σ) 35 0 1) 35 0 ≤ 0 := by rw [up_eq]; decide
  have hq : ∀ y : Int32, QSame σ (r_X5_cut_a53 (s_X5_goesOn σ) x0 x1 x2 y).2 := fun y => by
    unfold r_X5_cut_a53
    split
    all_goals exact g4.q.tr QSame_0
  have hq2 : ∀ y1 y2 y4 : Int32, QSame σ (r_X5_cut_a30 (s_X5_goesOn σ) x0 x1 x2 y1 y2 y4).2 := fun y1 y2 y4 => by
    unfold r_X5_cut_a30
    repeat' split
    all_goals exact hq _
  refine ⟨⟨g1, fun _ z => absurd z h1, fun hi => ⟨fun z => absurd z hi, fun _ => ?_⟩⟩, ?_⟩
  · obtain ⟨i, rfl, hi'⟩ := inn_ex hi
    have hi := hi'
    have hI := g3.2.2.2.1 i hi
    refine ⟨ix2 hi, fun _ z => absurd z h1, fun hk => ⟨fun _ z => absurd z h1, fun hw _ => ?_⟩⟩
    rw [ni_N (by omega), (g2.pic hi).2.2.2.2.2.1] at hk
    have h5 : x.2.2 i 5 ≤ 19 := by have := hI.1; have := hI.2.2.2.2.1; omega
    obtain ⟨a, rfl, ha⟩ := in_pred (by omega) hk
    obtain ⟨w, rfl, -, hw⟩ := in_ex (lo := 0) (hi := 4) (by decide) (by decide) hw
    rw [show (100 : Int32) = N 100 from rfl, show (5 : Int32) = N 5 from rfl, N_mul, N_mul, N_add, N_add]
    exact ix_N (by omega) (by decide)
  · unfold r_X5_cut
    repeat' split
    all_goals first | exact hq _ | exact hq2 _ _ _
theorem R_over {x0 x1 x2 : Int32} (h : RInv σ T S k t) : p_X5_over σ x0 x1 x2 ∧ QSame σ (r_X5_over σ x0 x1 x2).2 := by
  obtain ⟨x, hx, g1, g2, g3, hQ⟩ := RQ0 0 h
  refine ⟨fun hi ho hw => ⟨g1, ?_⟩, ?_⟩
  · obtain ⟨i, rfl, hi'⟩ := inn_ex hi
    have hi := hi'
    obtain ⟨o, rfl, -, ho⟩ := in_ex (lo := 0) (hi := 19) (by decide) (by decide) ho
    rw [show (20 : Int32) = N 20 from rfl, N_mul, N_add]
    exact ofOver_p (by omega)
  · unfold r_X5_over
    repeat' split
    all_goals first | exact hQ | exact QSame_0
theorem R_block {x0 x1 : Int32} (h : RInv σ T S k t) : p_X5_block σ x0 x1 ∧ QSame σ (r_X5_block σ x0 x1).2 := by
  obtain ⟨x, hx, g1, g2, g3, hQ⟩ := RQ0 0 h
  have key : ∀ i, i < 2 → p_X5_laysBlocks (s_X5_goesOn (sg_up σ 35 0 0)) ((s_X5_goesOn (sg_up σ 35 0 0)) 44 (ni (N i))) ∧ QSame σ (t_X5_block_0 σ (N i) x1) := fun i hi => by
    unfold t_X5_block_0
    rw [ni_N (by omega), (g2.pic hi).2.2.2.1]
    obtain ⟨l1, l2, -⟩ := lay_ok g2.2.2.1 g2.2.2.2.1 (g3.2.2.2.1 i hi).2.1
    exact ⟨l1, hQ.tr l2.q⟩
  refine ⟨fun hi hk => ?_, ?_⟩
  · obtain ⟨i, rfl, hi'⟩ := inn_ex hi
    have hi := hi'
    obtain ⟨kk, rfl, -, hk⟩ := in_ex (lo := 0) (hi := 2) (by decide) (by decide) hk
    exact ⟨g1, ix2 hi, (key i hi).1, ix_N (by omega) (by decide)⟩
  · unfold r_X5_block
    by_cases hi : v_X5_isInnings x0 = 0
    · rw [if_pos hi]; exact QSame_0
    rw [if_neg hi]
    obtain ⟨i, rfl, hi'⟩ := inn_ex hi
    have hi := hi'
    split
    · exact (key i hi).2
    · exact QSame_0
theorem R_blockNow (h : RInv σ T S k t) : p_X5_blockNow σ ∧ QSame σ (r_X5_blockNow σ).2 := by
  obtain ⟨x, hx, g1, g2, g3, hQ⟩ := RQ0 0 h
  have hlt : ¬ (s_X5_goesOn (sg_up σ 35 0 0)) 35 23 = 2 → x.1 < 2 := by
    intro hz
    have := g3.1
    rw [g2.2.2.2.2.1] at hz
    rcases (show x.1 = 2 ∨ x.1 < 2 by omega) with e | e
    · rw [e] at hz; exact absurd rfl hz
    · exact e
  have key : x.1 < 2 → p_X5_laysBlocks (s_X5_goesOn (sg_up σ 35 0 0)) ((s_X5_goesOn (sg_up σ 35 0 0)) 44 (ni ((s_X5_goesOn (sg_up σ 35 0 0)) 35 23))) ∧ BSame (s_X5_goesOn (sg_up σ 35 0 0)) (t_X5_blockNow_0 σ) := fun hi => by
    unfold t_X5_blockNow_0
    rw [g2.2.2.2.2.1, ni_N (by omega), (g2.pic hi).2.2.2.1]
    obtain ⟨l1, l2, -⟩ := lay_ok g2.2.2.1 g2.2.2.2.1 (g3.2.2.2.1 x.1 hi).2.1
    exact ⟨l1, l2⟩
  refine ⟨⟨g1, fun hz => ?_⟩, ?_⟩
  · have hi := hlt hz
    obtain ⟨k1, k2⟩ := key hi
    refine ⟨?_, k1, ?_⟩
    · rw [g2.2.2.2.2.1]; exact ix2 hi
    · rw [k2 35 23 (by decide), g2.2.2.2.2.1]; exact ix2 hi
  · unfold r_X5_blockNow
    by_cases hz : ¬ (s_X5_goesOn (sg_up σ 35 0 0)) 35 23 = 2
    · rw [if_pos hz]
      have q := hQ.tr (key (hlt hz)).2.q
      repeat' split
      all_goals exact q
    · rw [if_neg hz]; exact hQ
theorem R_inBlock {x0 x1 x2 : Int32} (h : RInv σ T S k t) : p_X5_inBlock σ x0 x1 x2 ∧ QSame σ (r_X5_inBlock σ x0 x1 x2).2 := by
  obtain ⟨x, hx, g1, g2, g3, hQ⟩ := RQ0 0 h
  have key : ¬ v_X5_isInnings x0 = 0 → ¬ v_X5_in x1 0 2 = 0 → p_X5_ofBlock (s_X5_goesOn (sg_up σ 35 0 0)) x0 x1 x2 ∧ BSame (s_X5_goesOn (sg_up σ 35 0 0)) (r_X5_ofBlock (s_X5_goesOn (sg_up σ 35 0 0)) x0 x1 x2).2 := fun hi hk => by
    obtain ⟨i, rfl, hi'⟩ := inn_ex hi
    have hi := hi'
    obtain ⟨kk, rfl, -, hk⟩ := in_ex (lo := 0) (hi := 2) (by decide) (by decide) hk
    exact ofBlock_ok g2 hi (g3.2.2.2.1 i hi) (by omega)
  refine ⟨fun hi hk _ => ⟨g1, (key hi hk).1⟩, ?_⟩
  unfold r_X5_inBlock
  by_cases hi : v_X5_isInnings x0 = 0
  · rw [if_pos hi]; exact QSame_0
  rw [if_neg hi]
  by_cases hk : v_X5_in x1 0 2 = 0
  · rw [if_pos hk]; exact QSame_0
  rw [if_neg hk]
  split
  · exact hQ.tr (key hi hk).2.q
  · exact QSame_0
theorem R_fall {x0 x1 x2 : Int32} (h : RInv σ T S k t) : p_X5_fall σ x0 x1 x2 ∧ QSame σ (r_X5_fall σ x0 x1 x2).2 := by
  obtain ⟨x, hx, g1, g2, g3, hQ⟩ := RQ0 0 h
  refine ⟨⟨g1, fun hi => ?_⟩, ?_⟩
  · obtain ⟨i, rfl, hi'⟩ := inn_ex hi
    have hi := hi'
    refine ⟨ix2 hi, fun hk _ => ?_⟩
    rw [ni_N (by omega), (g2.pic hi).2.1] at hk
    have hw := (g3.2.2.2.1 i hi).2.2.2.1
    obtain ⟨a, rfl, ha⟩ := in_pred (by omega) hk
    have xa : ix (10 * N i + N a) 20 := by rw [t_eq]; exact ix_N (by omega) (by decide)
    exact ⟨fun _ => ⟨fun _ => stand_p hi (by omega), fun _ => xa⟩, fun _ => xa⟩
  · unfold r_X5_fall
    repeat' split
    all_goals exact hQ
theorem R_lastStand {x0 : Int32} (h : RInv σ T S k t) : p_X5_lastStand σ x0 ∧ QSame σ (r_X5_lastStand σ x0).2 := by
  obtain ⟨x, hx, g1, g2, g3, hQ⟩ := RQ0 0 h
  refine ⟨⟨g1, fun hi => ?_⟩, ?_⟩
  · obtain ⟨i, rfl, hi'⟩ := inn_ex hi
    have hi := hi'
    exact last_p hi (g2.pic hi).2.1 (g3.2.2.2.1 i hi).2.2.2.1
  · unfold r_X5_lastStand
    repeat' split
    all_goals exact hQ
theorem R_bestStand {x0 : Int32} (h : RInv σ T S k t) : p_X5_bestStand σ x0 ∧ QSame σ (r_X5_bestStand σ x0).2 := by
  obtain ⟨x, hx, g1, g2, g3, hQ⟩ := RQ0 0 h
  refine ⟨fun hi => ?_, ?_⟩
  · obtain ⟨i, rfl, hi'⟩ := inn_ex hi
    have hi := hi'
    have hw := (g3.2.2.2.1 i hi).2.2.2.1
    exact ⟨g1, last_p hi (g2.pic hi).2.1 hw, (best26 hi (g2.pic hi).2.1 hw 600 0 _ (by omega) (by omega)).1⟩
  · unfold r_X5_bestStand
    by_cases hi : ¬ v_X5_isInnings x0 = 0
    · rw [if_pos hi]
      obtain ⟨i, rfl, hi'⟩ := inn_ex hi
      have hi := hi'
      have e := (best26 hi (g2.pic hi).2.1 (g3.2.2.2.1 i hi).2.2.2.1 600 0 (v_X5_lastOf (s_X5_goesOn (sg_up σ 35 0 0)) (N i)) (by omega) (by have := (g3.2.2.2.1 i hi).2.2.2.1; omega)).2
      have e : (r_X5_bestStand_l26 600 (s_X5_goesOn (sg_up σ 35 0 0)) (N i) (v_X5_lastOf (s_X5_goesOn (sg_up σ 35 0 0)) (N i)) 0).2 = _ := e
      rw [e]
      exact hQ
    · rw [if_neg hi]; exact QSame_0
theorem R_made {x0 x1 : Int32} (h : RInv σ T S k t) : p_X5_made σ x0 x1 ∧ QSame σ (r_X5_made σ x0 x1).2 := by
  obtain ⟨x, hx, g1, g2, g3, hQ⟩ := RQ0 0 h
  refine ⟨⟨g1, fun hi hr => ?_⟩, ?_⟩
  · obtain ⟨i, rfl, hi'⟩ := inn_ex hi
    have hi := hi'
    obtain ⟨r, rfl, -, hr⟩ := in_ex (lo := 0) (hi := 6) (by decide) (by decide) hr
    rw [m_eq]
    exact ix_N (by omega) (by decide)
  · unfold r_X5_made
    repeat' split
    all_goals exact hQ
theorem R_bestOver {x0 : Int32} (h : RInv σ T S k t) : p_X5_bestOver σ x0 ∧ QSame σ (r_X5_bestOver σ x0).2 := by
  obtain ⟨x, hx, g1, g2, g3, hQ⟩ := RQ0 0 h
  refine ⟨⟨g1, fun hi => ?_⟩, ?_⟩
  · obtain ⟨i, rfl, hi'⟩ := inn_ex hi
    have hi := hi'
    have p := (over_ok (σ := s_X5_goesOn (sg_up σ 35 0 0)) hi).1
    exact ⟨ix2 hi, fun _ => p, fun _ => ⟨ix2 hi, fun _ => p⟩⟩
  · unfold r_X5_bestOver
    repeat' split
    all_goals exact hQ
theorem R_rate {x0 x1 : Int32} (h : RInv σ T S k t) : p_X5_rate σ x0 x1 ∧ QSame σ (r_X5_rate σ x0 x1).2 := by
  obtain ⟨x, hx, g1, g2, g3, hQ⟩ := RQ0 0 h
  refine ⟨⟨g1, fun hi => ?_⟩, ?_⟩
  · obtain ⟨i, rfl, hi'⟩ := inn_ex hi
    have hi := hi'
    have hI := g3.2.2.2.1 i hi
    have hk := h.2.2.2.2.2.1
    refine ⟨ix2 hi, fun hz => ⟨ix2 hi, ix2 hi, ?_⟩⟩
    rw [ni_N (by omega), (g2.pic hi).2.2.1] at hz
    have hb : 0 < x.2.2 i 2 := by
      rcases Nat.eq_zero_or_pos (x.2.2 i 2) with e | e
      · rw [e] at hz; exact absurd rfl hz
      · exact e
    obtain ⟨a1, a2, a3, a4, a5, a6, -⟩ := hI
    rw [ni_N (by omega), (g2.pic hi).2.2.1, (g2.pic hi).1, show (6 : Int32) = N 6 from rfl, N_mul]
    exact rtells (by omega) hb (by omega)
  · unfold r_X5_rate
    repeat' split
    all_goals exact hQ
theorem R_projected (h : RInv σ T S k t) : p_X5_projected σ ∧ QSame σ (r_X5_projected σ).2 := by
  obtain ⟨x, hx, g1, g2, g3, hQ⟩ := RQ0 0 h
  refine ⟨⟨g1, fun _ => ⟨rpleft (j := 0) g2 (by decide) (g3.2.2.2.1 0 (by decide)), fun z => z⟩⟩, ?_⟩
  unfold r_X5_projected
  repeat' split
  all_goals exact hQ
theorem R_target (h : RInv σ T S k t) : p_X5_target σ ∧ QSame σ (r_X5_target σ).2 := by
  obtain ⟨x, hx, g1, g2, g3, hQ⟩ := RQ0 0 h
  have h0 := g3.2.2.2.1 0 (by decide)
  refine ⟨⟨g1, fun z => rptarget g2 h0 (rhas_p g2 g3.1 h0 z).2⟩, ?_⟩
  unfold r_X5_target
  repeat' split
  all_goals exact hQ
theorem R_par (h : RInv σ T S k t) : p_X5_par σ ∧ QSame σ (r_X5_par σ).2 := by
  obtain ⟨x, hx, g1, g2, g3, hQ⟩ := RQ0 0 h
  exact ⟨⟨g1, rpparNow g2 g3.1 (g3.2.2.2.1 0 (by decide)) (g3.2.2.2.1 1 (by decide))⟩, hQ⟩
theorem R_result (h : RInv σ T S k t) : p_X5_result σ ∧ QSame σ (r_X5_result σ).2 := by
  obtain ⟨x, hx, g1, g2, g3, hQ⟩ := RQ0 0 h
  refine ⟨⟨g1, fun _ => rpresult g2 (g3.2.2.2.1 0 (by decide)) (g3.2.2.2.1 1 (by decide))⟩, ?_⟩
  unfold r_X5_result
  repeat' split
  all_goals exact hQ
theorem R_margin (h : RInv σ T S k t) : p_X5_margin σ ∧ QSame σ (r_X5_margin σ).2 := by
  obtain ⟨x, hx, g1, g2, g3, hQ⟩ := RQ0 0 h
  have h0 := g3.2.2.2.1 0 (by decide)
  have h1 := g3.2.2.2.1 1 (by decide)
  refine ⟨⟨g1, fun _ => ⟨rpresult g2 h0 h1, fun _ z => ?_, fun z => ?_⟩⟩, ?_⟩
  · have hp := rp_of_result g2 h0 (by rw [z]; decide)
    exact ⟨rptarget g2 h0 hp, fun _ => rpaim g2 h0 h1 hp⟩
  · have z := Decidable.not_not.mp z
    exact rpaim g2 h0 h1 (rp_of_result g2 h0 (by rw [z]; decide))
  · unfold r_X5_margin
    repeat' split
    all_goals exact hQ
theorem R_needs {x0 : Int32} (h : RInv σ T S k t) : p_X5_needs σ x0 ∧ QSame σ (r_X5_needs σ x0).2 := by
  obtain ⟨x, hx, g1, g2, g3, hQ⟩ := RQ0 0 h
  have h0 := g3.2.2.2.1 0 (by decide)
  have h1 := g3.2.2.2.1 1 (by decide)
  have hk := h.2.2.2.2.2.1
  have l2 : p_X5_left 1 := pleft_eq (i := 1) (by decide)
  refine ⟨⟨g1, fun hn hh _ => ?_⟩, ?_⟩
  · have hn := Decidable.not_not.mp hn
    rw [g2.2.2.2.2.1] at hn
    have e1 : x.1 = 1 := (N_eq (b := 1) (by have := g3.1; omega) (by decide)).mp hn
    have hp := (rhas_p g2 g3.1 h0 hh).2
    obtain ⟨b1, b2, b3, b4, b5, b6, b7, b8, b9, b10⟩ := id h1
    have hlt := g3.2.2.2.2.2.2 e1 hp
    have hL := g3.2.2.2.2.1 1 (by decide) (by omega)
    have a6 := h0.2.2.2.2.2.1
    have hle := tgt_le g2.2.1 (mean := S 1) (S := x.2.2 0 0) (P := x.2.2 0 7 - x.2.2 0 8) (Q := x.2.2 1 7) g2.2.2.2.1.2.2.2.1 hp b9 (by omega)
    have et : ∀ u : Int32, p_X5_tells (6 * ((v_X5_theTarget (s_X5_goesOn (sg_up σ 35 0 0))) - ((s_X5_goesOn (sg_up σ 35 0 0)) 41 1))) (v_X5_left (s_X5_goesOn (sg_up σ 35 0 0)) 1) u := by
      intro u
      rw [theTarget_eq g2 (by omega) h0 h1 hp, (g2.pic (i := 1) (by decide)).1, N_sub (by omega), show (6 : Int32) = N 6 from rfl, N_mul, show v_X5_left (s_X5_goesOn (sg_up σ 35 0 0)) 1 = _ from left_eq (i := 1) (by decide) (g2.pic (i := 1) (by decide)) b3]
      exact rtells (by omega) (by have := hL.1; omega) (by omega)
    exact ⟨rptarget g2 h0 hp, fun _ => ⟨l2, fun _ => et 0, fun _ => et 1⟩, fun _ _ => l2⟩
  · unfold r_X5_needs
    repeat' split
    all_goals exact hQ
theorem R_broken {x0 : Int32} (h : RInv σ T S k t) : p_X5_broken σ x0 ∧ QSame σ (r_X5_broken σ x0).2 := by
  obtain ⟨x, hx, g1, g2, g3, hQ⟩ := RQ0 0 h
  have h0 := g3.2.2.2.1 0 (by decide)
  have h1 := g3.2.2.2.1 1 (by decide)
  obtain ⟨o1, o2⟩ := ofBlock_ok (i := 0) (kk := 0) (x2 := 0) g2 (by decide) h0 (by decide)
  have g2' : RefAt (t_X5_broken_0 σ x0) T S x.1 x.2.1 x.2.2 := RefAt_fr g2 (fun q j hq => o2 q j (by omega))
  obtain ⟨u1, u2⟩ := ofBlock_ok (i := 1) (kk := 0) (x2 := 0) g2' (by decide) h1 (by decide)
  obtain ⟨v1, b0, v2, v3⟩ := over_ok (σ := s_X5_goesOn (sg_up σ 35 0 0)) (i := 0) (by decide)
  obtain ⟨w1, b1, w2, w3⟩ := over_ok (σ := s_X5_goesOn (sg_up σ 35 0 0)) (i := 1) (by decide)
  refine ⟨⟨g1, fun _ => ⟨rpresult g2 h0 h1, fun _ _ _ => ⟨fun _ => ⟨o1, u1⟩, fun _ _ => ⟨v1, ?_, w1, ?_⟩⟩⟩⟩, ?_⟩
  · rw [show v_X5_bestOverOf (s_X5_goesOn (sg_up σ 35 0 0)) 0 = _ from v3]; exact ix_N (by omega) (by decide)
  · rw [show v_X5_bestOverOf (s_X5_goesOn (sg_up σ 35 0 0)) 1 = _ from w3, show (20 : Int32) = N 20 from rfl, N_add]; exact ix_N (by omega) (by decide)
  · have q2 : QSame σ (t_X5_broken_1 σ x0) := hQ.tr (o2.tr u2).q
    unfold r_X5_broken
    split
    · exact hQ
    split
    · exact hQ
    split
    · split
      · exact hQ
      split
      · dsimp only
        exact q2
      split
      · exact hQ
      · exact hQ
    · exact hQ
theorem R_ifCut {x0 : Int32} (h : RInv σ T S k t) : p_X5_ifCut σ x0 ∧ QSame σ (r_X5_ifCut σ x0).2 := by
  obtain ⟨x, hx, g1, g2, g3, hQ⟩ := RQ0 0 h
  have h0 := g3.2.2.2.1 0 (by decide)
  have h1 := g3.2.2.2.1 1 (by decide)
  refine ⟨⟨g1, fun hn hh => ?_⟩, ?_⟩
  · have hn := Decidable.not_not.mp hn
    rw [g2.2.2.2.2.1] at hn
    have e1 : x.1 = 1 := (N_eq (b := 1) (by have := g3.1; omega) (by decide)).mp hn
    have hp := (rhas_p g2 g3.1 h0 hh).2
    obtain ⟨m1, m2⟩ := mayCut_iff (n := x0) g2 (by omega) (g3.2.2.2.1 x.1 (by omega))
    refine ⟨m1, fun hm => ⟨?_, rptarget g2 h0 hp⟩⟩
    obtain ⟨c1, c2, c3⟩ := m2.mp hm
    rw [e1] at c2 c3
    obtain ⟨b1, b2, b3, b4, -⟩ := id h1
    have := ptakes_eq (σ := s_X5_goesOn (sg_up σ 35 0 0)) (i := 1) (n := ni x0) (by decide) (g2.pic (i := 1) (by decide)) c3 (by omega) b2 b4
    rw [ni_pos c1] at this
    exact this
  · unfold r_X5_ifCut
    repeat' split
    all_goals exact hQ
theorem R_ifClosed (h : RInv σ T S k t) : p_X5_ifClosed σ ∧ QSame σ (r_X5_ifClosed σ).2 := by
  obtain ⟨x, hx, g1, g2, g3, hQ⟩ := RQ0 0 h
  have key : (s_X5_goesOn (sg_up σ 35 0 0)) 35 23 = 1 → p_X5_goes (s_X5_goesOn (sg_up σ 35 0 0)) 47 0 ∧ p_X5_resultNow (t_X5_ifClosed_0 σ) ∧ QSame σ (t_X5_ifClosed_0 σ) := by
    intro hn
    rw [g2.2.2.2.2.1] at hn
    have e1 : x.1 = 1 := (N_eq (b := 1) (by have := g3.1; omega) (by decide)).mp hn
    obtain ⟨y, hy⟩ := stp_some (T := T) (mean := S 1) (i := x.1) (t := x.2.1) (D := x.2.2) (e := 47) (n := 0) ⟨Or.inr (Or.inr (Or.inr (Or.inr (Or.inr (Or.inr rfl))))), fun z => absurd z (by decide), fun _ => by omega, fun z => absurd z (by decide)⟩
    obtain ⟨q1, q2, q3, q4⟩ := goes_ok g2 g3 h.2.2.2.2.2.1 hy
    exact ⟨q3, rpresult q1 (q2.2.2.2.1 0 (by decide)) (q2.2.2.2.1 1 (by decide)), hQ.tr q4.q⟩
  refine ⟨⟨g1, fun z => ⟨(key z).1, (key z).2.1⟩⟩, ?_⟩
  unfold r_X5_ifClosed
  by_cases hn : (s_X5_goesOn (sg_up σ 35 0 0)) 35 23 = 1
  · rw [if_pos hn]; exact (key hn).2.2
  · rw [if_neg hn]; exact hQ
theorem R_ifRuns {x0 : Int32} (h : RInv σ T S k t) : p_X5_ifRuns σ x0 ∧ QSame σ (r_X5_ifRuns σ x0).2 := by
  obtain ⟨x, hx, g1, g2, g3, hQ⟩ := RQ0 0 h
  have h0 := g3.2.2.2.1 0 (by decide)
  refine ⟨⟨g1, fun hh _ => rptarget g2 h0 (rhas_p g2 g3.1 h0 hh).2⟩, ?_⟩
  unfold r_X5_ifRuns
  repeat' split
  all_goals exact hQ
theorem least28 {x : mS} {τ : sg_S} {x1 : Int32} (g2 : RefAt τ T S x.1 x.2.1 x.2.2) (g3 : OK T (S 1) k x.1 x.2.1 x.2.2) (e1 : x.1 = 1) (hp : 0 < x.2.2 0 7 - x.2.2 0 8) : ∀ (n m : Nat), 1 ≤ m → m ≤ x.2.2 1 3 → x.2.2 1 3 - m < n → p_X5_leastCut_l28 n τ x1 (N m) ∧ (r_X5_leastCut_l28 n τ x1 (N m)).2 = τ := by
  have h0 := g3.2.2.2.1 0 (by decide)
  have h1 := g3.2.2.2.1 1 (by decide)
  obtain ⟨b1, b2, b3, b4, -⟩ := id h1
  intro n
  induction n with
  | zero => intro m _ _ hn; omega
  | succ n ih =>
    intro m hm1 hm hn
    show p_X5_leastCut_b28 (p_X5_leastCut_l28 n) τ x1 (N m) ∧ (r_X5_leastCut_b28 (r_X5_leastCut_l28 n) τ x1 (N m)).2 = τ
    unfold p_X5_leastCut_b28 r_X5_leastCut_b28
    have e44 : τ 44 1 = N (x.2.2 1 3) := (g2.pic (i := 1) (by decide)).2.2.2.1
    rw [e44]
    by_cases e : x.2.2 1 3 ≤ m
    · have hc : N (x.2.2 1 3) ≤ N m := g_le e (by omega)
      rw [if_pos hc]
      exact ⟨fun z => absurd hc z, rfl⟩
    · have hc : ¬ N (x.2.2 1 3) ≤ N m := g_nle (by omega) (by omega)
      obtain ⟨m1, m2⟩ := mayCut_iff (n := N m) g2 (by omega) (g3.2.2.2.1 x.1 (by omega))
      obtain ⟨i1, i2⟩ := ih (m + 1) (by omega) (by omega) (by omega)
      rw [if_neg hc, N_inc]
      refine ⟨fun _ => ⟨m1, fun _ => i1, fun hz => ⟨?_, rptarget g2 h0 hp, fun _ => i1⟩⟩, ?_⟩
      · obtain ⟨c1, c2, c3⟩ := m2.mp hz
        rw [e1, ni_N (by omega)] at c3
        exact ptakes_eq (i := 1) (by decide) (g2.pic (i := 1) (by decide)) c3 (by omega) b2 b4
      · repeat' split
        all_goals first | exact i2 | rfl
theorem R_leastCut {x0 : Int32} (h : RInv σ T S k t) : p_X5_leastCut σ x0 ∧ QSame σ (r_X5_leastCut σ x0).2 := by
  obtain ⟨x, hx, g1, g2, g3, hQ⟩ := RQ0 0 h
  have h0 := g3.2.2.2.1 0 (by decide)
  have h1 := g3.2.2.2.1 1 (by decide)
  have key : ¬ ¬ (s_X5_goesOn (sg_up σ 35 0 0)) 35 23 = 1 → ¬ v_X5_hasTarget (s_X5_goesOn (sg_up σ 35 0 0)) = 0 → p_X5_leastCut_l28 600 (s_X5_goesOn (sg_up σ 35 0 0)) x0 1 ∧ (r_X5_leastCut_l28 600 (s_X5_goesOn (sg_up σ 35 0 0)) x0 1).2 = s_X5_goesOn (sg_up σ 35 0 0) := by
    intro hn hh
    have hn := Decidable.not_not.mp hn
    rw [g2.2.2.2.2.1] at hn
    have e1 : x.1 = 1 := (N_eq (b := 1) (by have := g3.1; omega) (by decide)).mp hn
    have b1 := h1.1
    have b2 := h1.2.1
    exact least28 g2 g3 e1 (rhas_p g2 g3.1 h0 hh).2 600 1 (by decide) b1 (by omega)
  refine ⟨⟨g1, fun hn hh => (key hn hh).1⟩, ?_⟩
  unfold r_X5_leastCut
  by_cases hn : ¬ (s_X5_goesOn (sg_up σ 35 0 0)) 35 23 = 1
  · rw [if_pos hn]; exact hQ
  rw [if_neg hn]
  by_cases hh : ¬ v_X5_hasTarget (s_X5_goesOn (sg_up σ 35 0 0)) = 0
  · rw [if_pos hh, (key hn hh).2]; exact hQ
  · rw [if_neg hh]; exact hQ
theorem R_after {x0 x1 : Int32} (h : RInv σ T S k t) : p_X5_after σ x0 x1 ∧ QSame σ (r_X5_after σ x0 x1).2 := by
  have h0 := RInv_0 (v := 0) h
  obtain ⟨a1, a2, a3, a4, a5, a6, ⟨x, a7⟩, a8, a9⟩ := id h0
  have key : ¬ v_X5_in x0 0 ((sg_up σ 35 0 0) 35 6) = 0 → ∃ y : mS, p_X5_goesTo (sg_up σ 35 0 0) x0 ∧ RefAt (s_X5_goesTo (sg_up σ 35 0 0) x0) T S y.1 y.2.1 y.2.2 ∧ (∃ j, OK T (S 1) j y.1 y.2.1 y.2.2) ∧ QSame σ (s_X5_goesTo (sg_up σ 35 0 0) x0) := by
    intro hi
    rw [a5] at hi
    obtain ⟨j, rfl, -, hj⟩ := in_ex (lo := 0) (hi := k) (by decide) (by omega) hi
    obtain ⟨y, hy⟩ := mrun_le' a7 hj
    obtain ⟨g1, g2, g3, g4⟩ := goesTo_ok a1 a2 a3 a4 (by omega) hy
    exact ⟨y, g1, g2, ⟨j, g3⟩, QSame_0.tr g4.q⟩
  refine ⟨fun hi _ => ?_, ?_⟩
  · obtain ⟨y, g1, g2, ⟨j, g3⟩, hQ⟩ := key hi
    have h0 := g3.2.2.2.1 0 (by decide)
    have h1 := g3.2.2.2.1 1 (by decide)
    have pa : ∀ i, i < 2 → p_X5_after_a46 (s_X5_goesTo (sg_up σ 35 0 0) x0) x1 (N i) := fun i hi =>
      fun _ => ⟨fun _ => ix2 hi, fun _ => ⟨fun _ => ix2 hi, fun _ => ⟨fun _ => ix2 hi, fun _ => ⟨fun _ hh => rptarget g2 h0 (rhas_p g2 g3.1 h0 hh).2, fun _ => rpparNow g2 g3.1 h0 h1⟩⟩⟩⟩
    exact ⟨g1, fun _ => pa 1 (by decide), fun _ => pa 0 (by decide)⟩
  · unfold r_X5_after
    by_cases hi : v_X5_in x0 0 ((sg_up σ 35 0 0) 35 6) = 0
    · rw [if_pos hi]; exact QSame_0
    rw [if_neg hi]
    obtain ⟨y, g1, g2, g3, hQ⟩ := key hi
    have q : ∀ u : Int32, QSame σ (r_X5_after_a46 (s_X5_goesTo (sg_up σ 35 0 0) x0) x1 u).2 := fun u => by
      unfold r_X5_after_a46
      repeat' split
      all_goals exact hQ
    repeat' split
    all_goals first | exact q _ | exact QSame_0
theorem ahead11 (hK : TabOK T) (hSK : SetOK S) (hk : k ≤ 400) {y : mS} : ∀ (n j : Nat) (τ : sg_S), j ≤ k + 1 → k + 1 - j < n → τ 35 6 = N k → mrun T S (τ 39) (τ 40) k = some y → (j ≤ k → ∃ x : mS, mrun T S (τ 39) (τ 40) j = some x ∧ RefAt τ T S x.1 x.2.1 x.2.2) → p_X5_firstAhead_l11 n τ (N j) ∧ RSame τ (r_X5_firstAhead_l11 n τ (N j)).2 := by
  intro n
  induction n with
  | zero => intro j τ _ hn; omega
  | succ n ih =>
    intro j τ hj hn h6 hy hx
    show p_X5_firstAhead_b11 (p_X5_firstAhead_l11 n) τ (N j) ∧ RSame τ (r_X5_firstAhead_b11 (r_X5_firstAhead_l11 n) τ (N j)).2
    unfold p_X5_firstAhead_b11 r_X5_firstAhead_b11
    rw [h6]
    by_cases e : k < j
    · have hc : N k < N j := g_lt e (by omega)
      rw [if_pos hc]
      exact ⟨fun z => absurd hc z, RSame.rf⟩
    have hc : ¬ N k < N j := g_nlt (by omega) (by omega)
    rw [if_neg hc]
    obtain ⟨x, hx1, hR⟩ := hx (by omega)
    have hO := mrun_OK hK hSK j x hx1
    have h0 := hO.2.2.2.1 0 (by decide)
    have h1 := hO.2.2.2.1 1 (by decide)
    have hA : p_X5_firstAhead_a55 (p_X5_firstAhead_l11 n) τ (N j) ∧ RSame τ (r_X5_firstAhead_a55 (r_X5_firstAhead_l11 n) τ (N j)).2 := by
      unfold p_X5_firstAhead_a55 r_X5_firstAhead_a55
      rw [h6, N_inc]
      by_cases e2 : k ≤ j
      · have hc2 : N k ≤ N j := g_le e2 (by omega)
        rw [if_pos hc2]
        obtain ⟨i1, i2⟩ := ih (j + 1) τ (by omega) (by omega) h6 hy (fun z => by omega)
        exact ⟨⟨fun _ => i1, fun z => absurd hc2 z⟩, i2⟩
      · have hc2 : ¬ N k ≤ N j := g_nle (by omega) (by omega)
        rw [if_neg hc2, ni_N (by omega)]
        obtain ⟨z, hz⟩ := mrun_le' hy (j := j + 1) (by omega)
        have hst := hz
        rw [mrun_some hx1] at hst
        obtain ⟨q1, q2, q3, q4⟩ := goes_ok (y := z) hR hO (by omega) (show stp T (S 1) (x.1, x.2.1, x.2.2) (τ 39 j) (τ 40 j) = some z from hst)
        have r39 := q4.row (q := 39) (by decide) (by decide)
        have r40 := q4.row (q := 40) (by decide) (by decide)
        obtain ⟨i1, i2⟩ := ih (j + 1) (s_X5_goes τ (τ 39 j) (τ 40 j)) (by omega) (by omega) (by rw [q4 35 6 (by decide) (by decide)]; exact h6) (by rw [r39, r40]; exact hy) (fun _ => ⟨z, by rw [r39, r40]; exact hz, q1⟩)
        have xj : ix (N j) 400 := ix_N (by omega) (by decide)
        exact ⟨⟨fun w => absurd w hc2, fun _ => ⟨xj, xj, q3, i1⟩⟩, q4.tr i2⟩
    refine ⟨fun _ => ⟨fun _ => hA.1, fun hh => ⟨fun _ => hA.1, fun _ => ⟨rppar hR h0 h1 (rhas_p hR hO.1 h0 hh).2, fun _ => hA.1⟩⟩⟩, ?_⟩
    repeat' split
    all_goals first | exact hA.2 | exact RSame.rf
theorem R_firstAhead (h : RInv σ T S k t) : p_X5_firstAhead σ ∧ QSame σ (r_X5_firstAhead σ).2 := by
  have h0 := RInv_0 (v := 0) h
  obtain ⟨a1, a2, a3, a4, a5, a6, ⟨x, a7⟩, a8, a9⟩ := id h0
  obtain ⟨b1, b2, b3, b4⟩ := begins_ok a1 a2 a3 a4
  have r39 := b4.row (q := 39) (by decide) (by decide)
  have r40 := b4.row (q := 40) (by decide) (by decide)
  obtain ⟨i1, i2⟩ := ahead11 a2 a4 a6 (y := x) 600 0 (s_X5_begins (sg_up σ 35 0 0)) (by omega) (by omega) (by rw [b4 35 6 (by decide) (by decide)]; exact a5) (by rw [r39, r40]; exact a7) (fun _ => ⟨begn T S, rfl, b2⟩)
  exact ⟨⟨b1, i1⟩, QSame_0.tr (b4.tr i2).q⟩
end RAsk
end
