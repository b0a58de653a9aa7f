/-! THE SAME BYTES -/
theorem bvx (x : BitVec 32) : ∀ n, n ≤ 24 → (x.sshiftRight n) &&& 255#32 = (x >>> n) &&& 255#32 := by
  intro n hn
  apply BitVec.eq_of_getLsbD_eq
  intro i hi
  rw [BitVec.getLsbD_and, BitVec.getLsbD_and, BitVec.getLsbD_sshiftRight, BitVec.getLsbD_ushiftRight]
  by_cases h : i < 8
  · rw [if_pos (by omega)]
    simp [show ¬ 32 ≤ i by omega]
  · have : (255#32).getLsbD i = false := by
      rcases (show i = 8 ∨ i = 9 ∨ i = 10 ∨ i = 11 ∨ i = 12 ∨ i = 13 ∨ i = 14 ∨ i = 15 ∨ i = 16 ∨ i = 17 ∨ i = 18 ∨ i = 19 ∨ i = 20 ∨ i = 21 ∨ i = 22 ∨ i = 23 ∨ i = 24 ∨ i = 25 ∨ i = 26 ∨ i = 27 ∨ i = 28 ∨ i = 29 ∨ i = 30 ∨ i = 31 by omega) with h | h | h | h | h | h | h | h | h | h | h | h | h | h | h | h | h | h | h | h | h | h | h | h <;> subst h <;> rfl
    rw [this, Bool.and_false, Bool.and_false]
theorem fb24 (x : Int32) : fb x 24 = gb x 24 := Int32.toBitVec_inj.mp (by
  show (x.toBitVec.sshiftRight 24) &&& 255#32 = (x.toBitVec >>> 24) &&& 255#32
  exact bvx _ 24 (by decide))
theorem fb16 (x : Int32) : fb x 16 = gb x 16 := Int32.toBitVec_inj.mp (by
  show (x.toBitVec.sshiftRight 16) &&& 255#32 = (x.toBitVec >>> 16) &&& 255#32
  exact bvx _ 16 (by decide))
theorem fb8 (x : Int32) : fb x 8 = gb x 8 := Int32.toBitVec_inj.mp (by
  show (x.toBitVec.sshiftRight 8) &&& 255#32 = (x.toBitVec >>> 8) &&& 255#32
  exact bvx _ 8 (by decide))
theorem fb0 (x : Int32) : fb x 0 = gb x 0 := Int32.toBitVec_inj.mp (by
  show (x.toBitVec.sshiftRight 0) &&& 255#32 = (x.toBitVec >>> 0) &&& 255#32
  exact bvx _ 0 (by decide))
theorem gb_ne {x s : Int32} : ¬ gb x s = -1 := fun h => by
  have h1 := congrArg Int32.toBitVec h
  have h2 : ((ip_bI 7 x s).toBitVec &&& 255#32).getLsbD 31 = (-1#32).getLsbD 31 := congrArg (fun z => BitVec.getLsbD z 31) h1
  rw [BitVec.getLsbD_and, show (255#32).getLsbD 31 = false from rfl, Bool.and_false] at h2
  exact absurd h2 (by decide)
theorem fB4_eq {x : Int32} {j : Nat} : fB4 x j = gB4 x j := by
  unfold fB4 gB4
  rw [fb24, fb16, fb8, fb0]
theorem gB4_ne {x : Int32} {j : Nat} : ¬ gB4 x j = -1 := by
  unfold gB4
  repeat' split
  all_goals exact gb_ne
theorem fB20_eq {a b c d e : Int32} {j : Nat} : fB20 a b c d e j = gB20 a b c d e j := by
  unfold fB20 gB20
  rw [fB4_eq, fB4_eq, fB4_eq, fB4_eq, fB4_eq]
theorem gB20_ne {a b c d e : Int32} {j : Nat} : ¬ gB20 a b c d e j = -1 := by
  unfold gB20
  repeat' split
  all_goals exact gB4_ne
/-- both tapes hold the same bytes -/
def Tape (σ : sg_S) (t : Nat) : Prop := ∀ j, j < t → σ 57 j = σ 6 j ∧ ¬ σ 6 j = -1
theorem Tape_0 {σ : sg_S} : Tape σ 0 := fun j hj => by omega
theorem Tape_fr {σ σ' : sg_S} {t t' : Nat} (h : Tape σ t) (ht : t' ≤ t) (h57 : ∀ j, σ' 57 j = σ 57 j) (h6 : ∀ j, σ' 6 j = σ 6 j) : Tape σ' t' := fun j hj => by
  rw [h57, h6]; exact h j (by omega)
section Both
variable {σ : sg_S} {T S S' : Nat → Nat} {k k' t : Nat}
/-! what the calls leave of the tapes -/
theorem R57_set {x0 x1 : Int32} (j : Nat) : (r_X5_set σ x0 x1).2 57 j = σ 57 j := by
  have h0 : (sg_up σ 35 0 0) 57 j = σ 57 j := up_c (by decide)
  have h78 : ∀ y0 : Int32, (r_X5_set_a78 (sg_up σ 35 0 0) x0 x1 y0).2 57 j = σ 57 j := fun y0 => by
    unfold r_X5_set_a78 t_X5_set_0
    split
    · dsimp only; rw [up_c (by decide), up_c (by decide), up_c (by decide)]
    · exact h0
  unfold r_X5_set
  repeat' split
  all_goals first | exact h0 | exact h78 _
theorem R57_back (j : Nat) : (r_X5_back σ).2 57 j = σ 57 j := by
  unfold r_X5_back t_X5_back_0
  split
  · dsimp only; rw [up_c (by decide), up_c (by decide)]
  · dsimp only; rw [up_c (by decide)]
theorem R57_clear (j : Nat) : (r_X5_clear σ).2 57 j = σ 57 j := by
  unfold r_X5_clear t_X5_clear_0
  dsimp only; rw [up_c (by decide), up_c (by decide)]
theorem R57_play {x0 x1 : Int32} (h : RInv σ T S k t) (j : Nat) : (r_X5_play σ x0 x1).2 57 j = σ 57 j := by
  have h0 := RInv_0 (v := 0) h
  obtain ⟨x, a7⟩ := h0.2.2.2.2.2.2.1
  obtain ⟨g1, g2, g3, g4⟩ := goesOn_ok h0 a7
  have e0 : (s_X5_goesOn (sg_up σ 35 0 0)) 57 j = σ 57 j := by
    rw [g4 57 j (by decide) (by omega), up_c (by decide)]
  have h77 : ∀ y0 : Int32, (r_X5_play_a77 (s_X5_goesOn (sg_up σ 35 0 0)) x0 x1 y0).2 57 j = σ 57 j := fun y0 => by
    unfold r_X5_play_a77 t_X5_play_1 t_X5_play_0
    split
    · dsimp only; rw [up_c (by decide), up_c (by decide), up_c (by decide)]; exact e0
    · exact e0
  unfold r_X5_play
  repeat' split
  all_goals first | exact e0 | exact h77 _
theorem C6_clear (h : CInv σ T S k t) (j : Nat) : (r_X4_clear σ).2 6 j = σ 6 j := by
  obtain ⟨⟨a1, a2, x, a3, a4⟩, ht, h5⟩ := id h
  have e := (cempty_ok a4.1 a4.2.1 a4.2.2.1 a4.2.2.2.1).2 6 j (by decide) (by omega)
  unfold r_X4_clear
  dsimp only
  exact e
theorem C6_set {x0 x1 : Int32} (h : CInv σ T S k t) (j : Nat) : (r_X4_set σ x0 x1).2 6 j = σ 6 j := by
  by_cases g : ∃ s v, x0 = N s ∧ x1 = N v ∧ setC S s v
  · obtain ⟨s, v, rfl, rfl, hc⟩ := g
    exact (C_setY h hc).2.2.2.2 6 j (by decide) (by omega) (by decide)
  · rw [C_setN h g]
theorem C6_back (h : CInv σ T S k t) (j : Nat) : (r_X4_back σ).2 6 j = σ 6 j := by
  obtain ⟨⟨a1, a2, x, a3, a4⟩, ht, h5⟩ := id h
  unfold r_X4_back
  by_cases g : (0 : Int32) < σ 0 6
  · rw [if_pos g]
    have hk : 1 ≤ k := by
      rw [a1] at g
      exact (N_lt (a := 0) (by decide) (by omega)).mp g
    obtain ⟨y, hy⟩ := mrun_le' a3 (j := k - 1) (by omega)
    have e1 : σ 0 6 - 1 = N (k - 1) := by rw [a1]; exact N_sub (b := 1) hk
    have e33 : (sg_up σ 0 6 (N (k - 1))) 33 = σ 33 := funext (fun j => by rw [up_c (by decide)])
    have e34 : (sg_up σ 0 6 (N (k - 1))) 34 = σ 34 := funext (fun j => by rw [up_c (by decide)])
    have et : t_X4_back_0 σ = s_X4_replay (sg_up σ 0 6 (N (k - 1))) 7 (N (k - 1)) := by
      unfold t_X4_back_0
      rw [e1, up_eq]
    obtain ⟨r1, r2⟩ := replay_ok (σ := sg_up σ 0 6 (N (k - 1))) (c := 7) (y := y) (by decide) (by decide) (TabAt_up a4.1 (by decide)) a4.2.1 (SetAt_up a4.2.2.1 (by decide)) a4.2.2.2.1 (show k - 1 ≤ 400 by omega) (by rw [e33, e34]; exact hy)
    dsimp only
    rw [et, r2 6 j (by decide), up_c (by decide)]
  · rw [if_neg g]
theorem C6_play {x0 x1 : Int32} (h : CInv σ T S k t) (j : Nat) : (r_X4_play σ x0 x1).2 6 j = σ 6 j := by
  obtain ⟨⟨a1, a2, x, a3, a4⟩, ht, h5⟩ := id h
  have key : ¬ v_X4_isEvent x0 = 0 → ¬ v_X4_canCome σ x0 = 0 → (¬ v_X4_bearsNumber x0 = 0 → ¬ v_X0_fits σ 7 x0 x1 = 0) → (s_X4_record σ x0 x1) 6 j = σ 6 j := fun g1 g2 g3 => by
    obtain ⟨c1, c2⟩ := cplay_can (n := x1) a1 a2 a4 a3 g1 g2 g3
    obtain ⟨r1, r2⟩ := crec_st a1 c1 a4 a3 c2
    exact r2 6 j (by decide) (by omega) (by omega) (by omega)
  unfold r_X4_play
  by_cases g1 : v_X4_isEvent x0 = 0
  · rw [if_pos g1]
  rw [if_neg g1]
  by_cases g2 : ¬ v_X4_canCome σ x0 = 0
  · rw [if_pos g2]
    by_cases g3 : v_X4_bearsNumber x0 = 0
    · rw [if_pos g3]; exact key g1 g2 (fun z => absurd g3 z)
    · rw [if_neg g3]
      by_cases g4 : ¬ v_X0_fits σ 7 x0 x1 = 0
      · rw [if_pos g4]; exact key g1 g2 (fun _ => g4)
      · rw [if_neg g4]
  · rw [if_neg g2]
theorem C6_after {x0 x1 : Int32} (h : CInv σ T S k t) (j : Nat) : (r_X4_after σ x0 x1).2 6 j = σ 6 j := by
  obtain ⟨⟨a1, a2, x, a3, a4⟩, ht, h5⟩ := id h
  unfold r_X4_after
  by_cases g1 : x0 < 0
  · rw [if_pos g1]
  rw [if_neg g1]
  by_cases g2 : σ 0 6 < x0
  · rw [if_pos g2]
  rw [if_neg g2]
  rw [a1] at g2
  obtain ⟨a, ha, rfl⟩ := ex_nlt k g1 g2 (by omega)
  obtain ⟨y, hy⟩ := mrun_le' a3 ha
  obtain ⟨r1, r2⟩ := replay_ok (c := 20) (by decide) (by decide) a4.1 a4.2.1 a4.2.2.1 a4.2.2.2.1 (show a ≤ 400 by omega) hy
  have hq := r2 6 j (by decide)
  repeat' split
  all_goals first | exact hq | rfl
theorem C6_firstAhead (h : CInv σ T S k t) (j : Nat) : (r_X4_firstAhead σ).2 6 j = σ 6 j := by
  obtain ⟨⟨a1, a2, x, a3, a4⟩, ht, h5⟩ := id h
  obtain ⟨b2, b4⟩ := crestart_ok (c := 20) (by decide) a4.1 a4.2.1 a4.2.2.1 a4.2.2.2.1
  have r33 := b4.row (q := 33) (by decide)
  have r34 := b4.row (q := 34) (by decide)
  have i : CSame 20 (s_X0_restart σ 20) (r_X4_firstAhead_l9 600 (s_X0_restart σ 20) 0).2 := cahead9 (T := T) (S := S) (y := x) a2 600 0 (s_X0_restart σ 20) (begn T S) (by omega) (by omega) (by rw [b4 0 6 (by decide)]; exact a1) b2 rfl (by rw [r33, r34]; exact a3)
  have e := (b4.tr i) 6 j (by decide)
  unfold r_X4_firstAhead
  rw [e]
/-! feed, both -/
theorem both_feed {x0 x1 x2 x3 x4 : Int32} {σ2 : sg_S} (hc : CInv σ T S k t) (hr : RInv σ2 T S' k' t) (hh : HiS σ σ2) (h2 : σ2 = (r_X4_feed σ x0 x1 x2 x3 x4).2) (hT : Tape σ t) : (r_X4_feed σ x0 x1 x2 x3 x4).1 = (r_X5_feed σ2 x0 x1 x2 x3 x4).1 ∧ ∃ t', CInv σ2 T S k t' ∧ RInv (r_X5_feed σ2 x0 x1 x2 x3 x4).2 T S' k' t' ∧ Tape (r_X5_feed σ2 x0 x1 x2 x3 x4).2 t' := by
  obtain ⟨a1, a2, a3⟩ := C_feed (x0 := x0) (x1 := x1) (x2 := x2) (x3 := x3) (x4 := x4) hc
  obtain ⟨b0, b1, b2, b3⟩ := R_feed (x0 := x0) (x1 := x1) (x2 := x2) (x3 := x3) (x4 := x4) hr
  rw [← h2] at a1 a2 a3
  have e6 : ∀ j, (r_X5_feed σ2 x0 x1 x2 x3 x4).2 6 j = σ2 6 j := fun j => b3 6 j (by decide) (by omega)
  by_cases g : t + 20 ≤ 500
  · obtain ⟨c1, c2, c3⟩ := a1 g
    obtain ⟨d1, d2, d3⟩ := b1 g
    refine ⟨c1.trans d1.symm, t + 20, c2, d2, fun j hj => ?_⟩
    rw [e6, d3, c3]
    by_cases gj : t ≤ j ∧ j < t + 20
    · rw [if_pos gj, if_pos gj, fB20_eq]; exact ⟨rfl, gB20_ne⟩
    · rw [if_neg gj, if_neg gj, hh 57 j (by decide)]; exact hT j (by omega)
  · obtain ⟨c1, c2, c3⟩ := a2 g
    obtain ⟨d1, d2, d3⟩ := b2 g
    refine ⟨c1.trans d1.symm, t, c2, d2, fun j hj => ?_⟩
    rw [e6, d3, c3, hh 57 j (by decide)]; exact hT j hj
/-! end, both -/
theorem both_end {n : Int32} {σ2 : sg_S} (hc : CInv σ T S k t) (hr : RInv σ2 T S' k' t) (hh : HiS σ σ2) (h2 : σ2 = (r_X4_end σ n).2) (hT : Tape σ t) : (r_X4_end σ n).1 = (r_X5_end σ2 n).1 ∧ ∃ t', CInv σ2 T S k t' ∧ RInv (r_X5_end σ2 n).2 T S' k' t' ∧ Tape (r_X5_end σ2 n).2 t' := by
  obtain ⟨a1, a2, a3, a4⟩ := C_end (n := n) hc
  obtain ⟨b1, b2, b3, b4⟩ := R_end (n := n) hr
  rw [← h2] at a1 a2 a3 a4
  have e6 : ∀ j, (r_X5_end σ2 n).2 6 j = σ 6 j := fun j => (b3 6 j (by decide) (by omega)).trans (a4 j)
  have e57 : ∀ j, (r_X5_end σ2 n).2 57 j = σ 57 j := fun j => (b4 j).trans (hh 57 j (by decide))
  by_cases g : ∃ a, n = N a ∧ a ≤ t
  · obtain ⟨a, e, ha⟩ := g
    obtain ⟨c1, c2⟩ := a1 a e ha
    obtain ⟨d1, d2⟩ := b1 a e ha
    exact ⟨c1.trans d1.symm, a, c2, d2, Tape_fr hT ha e57 e6⟩
  · obtain ⟨c1, c2⟩ := a2 (fun a e ha => g ⟨a, e, ha⟩)
    obtain ⟨d1, d2⟩ := b2 (fun a e ha => g ⟨a, e, ha⟩)
    exact ⟨c1.trans d1.symm, t, c2, d2, Tape_fr hT (Nat.le_refl _) e57 e6⟩
/-! table, both -/
theorem rcopy {T : Nat → Nat} : ∀ (n j : Nat) (τ : sg_S), j ≤ 50 → 50 - j < n → TabAt τ 37 T → (∀ i, i < j → τ 38 i = N (T i)) → ∃ τ', r_X5_readTable_l2 n τ (N j) = r_X5_readTable_l26 600 τ' ∧ TabAt τ' 38 T ∧ (∀ q i, ¬ q = 38 → τ' q i = τ q i) := by
  intro n
  induction n with
  | zero => intro j τ _ hn; omega
  | succ n ih =>
    intro j τ hj hn hT hd
    show ∃ τ', r_X5_readTable_b2 (r_X5_readTable_l2 n) τ (N j) = r_X5_readTable_l26 600 τ' ∧ TabAt τ' 38 T ∧ (∀ q i, ¬ q = 38 → τ' q i = τ q i)
    unfold r_X5_readTable_b2
    by_cases e : j = 50
    · have hc : (50 : Int32) ≤ N j := (N14 (L := 50) hj (by decide)).mpr e
      rw [if_pos hc]
      exact ⟨τ, rfl, fun i hi => hd i (by omega), fun _ _ _ => rfl⟩
    · have hc : ¬ (50 : Int32) ≤ N j := fun z => e ((N14 (L := 50) hj (by decide)).mp z)
      rw [if_neg hc, N_inc, ni_N (by omega), hT j (by omega)]
      obtain ⟨τ', i1, i2, i3⟩ := ih (j + 1) (sg_up τ 38 j (N (T j))) (by omega) (by omega) (TabAt_up hT (by decide)) (fun i hi => by
        by_cases e2 : i = j
        · subst e2; exact up_eq
        · rw [up_k e2]; exact hd i (by omega))
      exact ⟨τ', i1, i2, fun q i hq => (i3 q i hq).trans (up_c hq)⟩
theorem both_read {σ2 : sg_S} (hc : CInv σ T S k t) (hr : RInv σ2 T S' k' t) (hh : HiS σ σ2) (hT : Tape σ t) : TabO 0 (r_X4_readTable σ) (r_X5_readTable (s_X5_beginsText σ2)) := by
  obtain ⟨⟨a1, a2, x, a3, a4⟩, ht, h5⟩ := id hc
  obtain ⟨b1, b2⟩ := beg2 600 0 (sg_up σ 0 8 0) (by decide) (by decide) (TabAt_up a4.1 (by decide)) (fun i hi => by omega)
  have hb : ∀ q j, ¬ (q = 35 ∧ (j = 0 ∨ j = 28 ∨ j = 29 ∨ j = 31)) → s_X5_beginsText σ2 q j = σ2 q j := fun q j hq => by
    rw [beginsText_eq, up_ne (by omega), up_ne (by omega), up_ne (by omega), up_ne (by omega)]
  have b28 : (s_X5_beginsText σ2) 35 28 = N 0 := by rw [beginsText_eq, up_k (by decide), up_k (by decide), up_eq]; rfl
  have b29 : (s_X5_beginsText σ2) 35 29 = 0 := by rw [beginsText_eq, up_k (by decide), up_eq]
  have b31 : (s_X5_beginsText σ2) 35 31 = N 0 := by rw [beginsText_eq, up_eq]; rfl
  obtain ⟨τ', c1, c2, c3⟩ := rcopy 600 0 (s_X5_beginsText σ2) (by decide) (by decide) (fun j hj => by rw [hb 37 j (by omega)]; exact hr.1 j hj) (fun i hi => by omega)
  have hS : ∀ q i, ¬ q = 3 → ¬ (q = 5 ∧ 2 ≤ i ∧ i ≤ 4) → ¬ (q = 0 ∧ i = 8) → (t_X4_readTable_0 σ) q i = σ q i := fun q i h1 h2 h3 => by
    unfold t_X4_readTable_0
    rw [K_rewind q i h2]
    exact (b2 q i h1).trans (up_ne h3)
  have e08 : (t_X4_readTable_0 σ) 0 8 = N 0 := by
    unfold t_X4_readTable_0
    rw [K_rewind 0 8 (by decide)]
    exact (b2 0 8 (by decide)).trans up_eq
  have e54 : (t_X4_readTable_0 σ) 5 4 = N 0 := by
    unfold t_X4_readTable_0 s_X3_rewind t_X3_rewind_0
    rw [up_eq]; rfl
  have hV : TabAt (t_X4_readTable_0 σ) 3 T := by
    unfold t_X4_readTable_0
    exact TabAt_row b1 (K_rewind.row (by decide))
  have h : TabO 0 (r_X4_readTable_l21 600 (t_X4_readTable_0 σ) (N 0)) (r_X5_readTable_l26 600 τ') := by
    refine tab_loop (t := t) 600 600 0 0 0 (t_X4_readTable_0 σ) τ' T (by omega) (by omega) (by omega) ⟨e54, ?_, ?_, ?_, by omega, h5, fun j hj => ?_⟩ (fun j hj => ?_) hV c2 (Tab_good a4.2.1) e08 ?_ ?_
    · rw [hS 5 1 (by decide) (by decide) (by decide)]; exact ht
    · rw [c3 35 28 (by decide)]; exact b28
    · rw [c3 35 26 (by decide), hb 35 26 (by decide)]; exact hr.2.2.2.2.2.2.2.1
    · rw [c3 57 j (by decide), hb 57 j (by omega), hh 57 j (by decide), hS 6 j (by decide) (by omega) (by omega)]; exact (hT j hj).1
    · rw [hS 6 j (by decide) (by omega) (by omega)]; exact (hT j hj).2
    · rw [c3 35 31 (by decide)]; exact b31
    · rw [c3 35 29 (by decide)]; exact b29
  have c1 : r_X5_readTable (s_X5_beginsText σ2) = r_X5_readTable_l26 600 τ' := c1
  rw [c1]
  exact h
/-- the answers of table, and what both hold behind it: both took it, or both told the same fault -/
def TabB (T S S' : Nat → Nat) (k k' : Nat) (rc rr : Int32 × sg_S) : Prop :=
  (∃ V r, rc.1 = N r ∧ rr.1 = N r ∧ CInv rc.2 V S 0 0 ∧ RInv rr.2 V S' 0 0 ∧ rc.2 0 7 = 0 ∧ rr.2 35 27 = 0) ∨ (∃ f, rc.1 = -1 ∧ rr.1 = -1 ∧ CInv rc.2 T S k 0 ∧ RInv rr.2 T S' k' 0 ∧ rc.2 0 7 = N f ∧ rr.2 35 27 = N f)
theorem both_table {σ2 : sg_S} (hc : CInv σ T S k t) (hr : RInv σ2 T S' k' t) (hh : HiS σ σ2) (hT : Tape σ t) : TabB T S S' k k' (r_X4_table σ) (r_X5_table σ2) := by
  have hO := both_read hc hr hh hT
  obtain ⟨⟨a1, a2, x, a3, a4⟩, ht, h5⟩ := id hc
  obtain ⟨r1, V0, r2, r3⟩ := ctab_ok h5 ht a4.1 a4.2.1
  have hS1 : ∀ q j, ¬ q = 3 → ¬ (q = 5 ∧ 1 ≤ j ∧ j ≤ 4) → ¬ (q = 0 ∧ (j = 7 ∨ j = 8)) → (sg_up (t_X4_table_0 σ) 5 1 0) q j = σ q j := fun q j h1 h2 h3 => by
    unfold t_X4_table_0
    rw [up_ne (by omega), up_ne (by omega), r1 q j h1 (by omega) h3]
  have h07 : (sg_up (t_X4_table_0 σ) 5 1 0) 0 7 = (r_X4_readTable σ).1 := by
    unfold t_X4_table_0
    rw [up_c (by decide), up_eq]
  have h08 : (sg_up (t_X4_table_0 σ) 5 1 0) 0 8 = (r_X4_readTable σ).2 0 8 := by
    unfold t_X4_table_0
    rw [up_c (by decide), up_k (by decide)]
  obtain ⟨d1, d2, d3, d4, d5, d6, d7, d8, d9⟩ := id hr
  have hb : ∀ q j, ¬ (q = 35 ∧ (j = 0 ∨ j = 28 ∨ j = 29 ∨ j = 31)) → s_X5_beginsText σ2 q j = σ2 q j := fun q j hq => by
    rw [beginsText_eq, up_ne (by omega), up_ne (by omega), up_ne (by omega), up_ne (by omega)]
  have b28 : (s_X5_beginsText σ2) 35 28 = N 0 := by rw [beginsText_eq, up_k (by decide), up_k (by decide), up_eq]; rfl
  obtain ⟨-, q2, V1, q3, q4⟩ := rtab_ok (σ := s_X5_beginsText σ2) (a := 0) d9 (by omega) b28 (by rw [hb 35 26 (by decide)]; exact d8) (fun j hj => by rw [hb 37 j (by omega)]; exact d1 j hj) d2
  have hS : ∀ q j, ¬ q = 38 → ¬ (q = 35 ∧ (j = 0 ∨ (26 ≤ j ∧ j ≤ 32))) → (t_X5_table_1 σ2) q j = σ2 q j := fun q j h1 h2 => by
    unfold t_X5_table_1 t_X5_table_0
    rw [up_ne (by omega), up_ne (by omega), q2 q j h1 (by omega), hb q j (by omega)]
  have h26 : (t_X5_table_1 σ2) 35 26 = N 0 := by
    unfold t_X5_table_1 t_X5_table_0
    rw [up_k (by decide), up_eq]; rfl
  have h27 : (t_X5_table_1 σ2) 35 27 = (r_X5_readTable (s_X5_beginsText σ2)).2 35 29 := by
    unfold t_X5_table_1 t_X5_table_0
    rw [up_eq, up_k (by decide)]
  have h31 : (t_X5_table_1 σ2) 35 31 = (r_X5_readTable (s_X5_beginsText σ2)).2 35 31 := by
    unfold t_X5_table_1 t_X5_table_0
    rw [up_k (by decide), up_k (by decide)]
  unfold r_X4_table r_X5_table
  rcases hO with ⟨V, r, e1, e2, e3, e4, e5, e6, e7, e8⟩ | ⟨f, e1, e2, e3, e4, e5⟩
  · have g : (sg_up (t_X4_table_0 σ) 5 1 0) 0 7 = 0 := h07.trans e1
    have g2 : ¬ (r_X5_readTable (s_X5_beginsText σ2)).1 = 0 := by rw [e2]; exact one_nz
    rw [if_pos g, if_pos g2]
    have hV : TabAt (sg_up (t_X4_table_0 σ) 5 1 0) 3 V := by
      unfold t_X4_table_0
      exact TabAt_up (TabAt_up e3 (by decide)) (by decide)
    obtain ⟨c1, c2⟩ := adopt2 600 0 (sg_up (t_X4_table_0 σ) 5 1 0) (by decide) (by decide) hV (fun i hi => by omega)
    have c1 : TabAt (t_X4_table_1 σ) 2 V := c1
    have c2 : ∀ q j, ¬ q = 2 → t_X4_table_1 σ q j = (sg_up (t_X4_table_0 σ) 5 1 0) q j := c2
    have hS4 : SetAt (t_X4_table_1 σ) 4 S := fun j hj => by
      rw [c2 4 j (by decide), hS1 4 j (by decide) (by omega) (by omega)]; exact a4.2.2.1 j hj
    obtain ⟨f1, f2⟩ := cempty_ok c1 e5 hS4 a4.2.2.2.1
    have hV1 : TabAt (t_X5_table_1 σ2) 38 V := by
      unfold t_X5_table_1 t_X5_table_0
      exact TabAt_up (TabAt_up e4 (by decide)) (by decide)
    obtain ⟨-, k2, k3, k4, k5⟩ := tab30 600 0 (t_X5_table_1 σ2) (by decide) (by decide) hV1 (fun i hi => by omega)
    refine Or.inl ⟨V, r, ?_, ?_, ⟨f1, ?_, by decide⟩, ⟨k4, e5, fun j hj => ?_, d4, k3, by decide, ⟨_, mrun_0⟩, ?_, by decide⟩, ?_, ?_⟩
    · dsimp only
      rw [f2 0 8 (by decide) (by decide), c2 0 8 (by decide), h08]; exact e6
    · exact (show (r_X5_table_l30 600 (t_X5_table_1 σ2) 0).1 = _ from k2).trans (h31.trans e7)
    · dsimp only
      rw [f2 5 1 (by decide) (by decide), c2 5 1 (by decide), up_eq]; rfl
    · rw [show (r_X5_table_l30 600 (t_X5_table_1 σ2) 0).2 36 j = _ from k5 36 j (by decide) (by omega), hS 36 j (by decide) (by omega)]; exact d3 j hj
    · rw [show (r_X5_table_l30 600 (t_X5_table_1 σ2) 0).2 35 26 = _ from k5 35 26 (by decide) (by decide)]; exact h26
    · dsimp only
      rw [f2 0 7 (by decide) (by decide), c2 0 7 (by decide)]; exact g
    · rw [show (r_X5_table_l30 600 (t_X5_table_1 σ2) 0).2 35 27 = _ from k5 35 27 (by decide) (by decide), h27]; exact e8
  · have g : ¬ (sg_up (t_X4_table_0 σ) 5 1 0) 0 7 = 0 := by rw [h07, e3]; exact N_nz e1 (by omega)
    have g2 : ¬ ¬ (r_X5_readTable (s_X5_beginsText σ2)).1 = 0 := fun z => z e4
    rw [if_neg g, if_neg g2]
    refine Or.inr ⟨f, rfl, rfl, ⟨CSt_fr hc.1 (hS1 0 6 (by decide) (by decide) (by decide)) (fun j _ => ⟨hS1 33 j (by decide) (by omega) (by omega), hS1 34 j (by decide) (by omega) (by omega)⟩) (fun q j hq => hS1 q j (by omega) (by omega) (by omega)), by dsimp only; rw [up_eq]; rfl, by decide⟩, RInv_of hr (fun j _ => hS 37 j (by decide) (by omega)) (fun j _ => hS 36 j (by decide) (by omega)) (hS 35 6 (by decide) (by decide)) (fun j _ => ⟨hS 39 j (by decide) (by omega), hS 40 j (by decide) (by omega)⟩) h26 (by decide), h07.trans e3, h27.trans e5⟩
/-! worth and told, both -/
theorem both_worth {x0 x1 : Int32} (h2 : TabAt σ 2 T) (hK : TabOK T) (h37 : TabAt σ 37 T) : v_X4_worth σ x0 x1 = (r_X5_worth σ x0 x1).1 := by
  unfold v_X4_worth r_X5_worth
  have h37' : TabAt (sg_up σ 35 0 0) 37 T := TabAt_up h37 (by decide)
  by_cases g0 : v_X5_in x0 0 120 = 0
  · rw [if_pos g0]
    have hno : ¬ (¬ x0 < 0 ∧ ¬ (120 : Int32) < x0) := fun ⟨z1, z2⟩ => by
      obtain ⟨a, ha, rfl⟩ := ex_nlt 120 z1 z2 (by decide)
      exact absurd g0 (in_nz (lo := 0) (hi := 120) (Nat.zero_le _) ha (by decide))
    dsimp only
    repeat' split
    all_goals first | rfl | exact absurd ⟨by assumption, by assumption⟩ hno
  rw [if_neg g0]
  obtain ⟨a, rfl, -, ha⟩ := in_ex (lo := 0) (hi := 120) (by decide) (by decide) g0
  rw [if_neg (N_nn (by omega)), if_neg (by exact g_nlt (L := 120) ha (by decide))]
  by_cases g1 : v_X5_in x1 0 10 = 0
  · rw [if_pos g1]
    have hno : ¬ (¬ x1 < 0 ∧ x1 ≤ (10 : Int32)) := fun ⟨z1, z2⟩ => by
      obtain ⟨b, hb, rfl⟩ := ex_nlt 10 z1 (Int32.not_lt.mpr z2) (by decide)
      exact absurd g1 (in_nz (lo := 0) (hi := 10) (Nat.zero_le _) hb (by decide))
    dsimp only
    repeat' split
    all_goals first | rfl | exact absurd ⟨by assumption, by assumption⟩ hno
  rw [if_neg g1]
  obtain ⟨b, rfl, -, hb⟩ := in_ex (lo := 0) (hi := 10) (by decide) (by decide) g1
  rw [if_neg (N_nn (by omega)), if_pos (by exact g_le (L := 10) hb (by decide)), worth2 h2 hK ha hb]
  exact (worth5 h37' hK ha hb).symm
theorem both_told {x0 x1 : Int32} (h2 : TabAt σ 2 T) (h37 : TabAt σ 37 T) : v_X4_told σ x0 x1 = (r_X5_told σ x0 x1).1 := by
  unfold v_X4_told r_X5_told
  by_cases g0 : v_X5_in x0 0 9 = 0
  · rw [if_pos g0]
    have hno : ¬ (¬ x0 < 0 ∧ ¬ (10 : Int32) ≤ x0) := fun ⟨z1, z2⟩ => by
      obtain ⟨a, ha, rfl⟩ := ex_nle 10 z1 z2 (by decide)
      exact absurd g0 (in_nz (lo := 0) (hi := 9) (Nat.zero_le _) (by omega) (by decide))
    dsimp only
    repeat' split
    all_goals first | rfl | exact absurd ⟨by assumption, by assumption⟩ hno
  rw [if_neg g0]
  obtain ⟨a, rfl, -, ha⟩ := in_ex (lo := 0) (hi := 9) (by decide) (by decide) g0
  rw [if_neg (N_nn (by omega)), if_neg (by exact g_nle (L := 10) (by omega) (by decide))]
  by_cases g1 : v_X5_in x1 1 4 = 0
  · rw [if_pos g1]
    have hno : ¬ (¬ x1 < (1 : Int32) ∧ x1 < (5 : Int32)) := fun ⟨z1, z2⟩ => by
      have hn : 1 ≤ ni x1 := by
        have hz : ¬ ni x1 < 1 := fun z => z1 ((lt_ni (a := 1) (by decide) (by decide)).mpr z)
        omega
      have h5 : ni x1 < 5 := (lt_ni (a := 5) (by decide) (by decide)).mp z2
      exact absurd g1 ((in_ni (lo := 1) (hi := 4) (by decide) (by decide) (by decide)).mpr ⟨hn, by omega⟩)
    dsimp only
    repeat' split
    all_goals first | rfl | exact absurd ⟨by assumption, by assumption⟩ hno
  rw [if_neg g1]
  obtain ⟨b, rfl, hb1, hb⟩ := in_ex (lo := 1) (hi := 4) (by decide) (by decide) g1
  have ex : 5 * N a + N b = N (5 * a + b) := by rw [show (5 : Int32) = N 5 from rfl, N_mul, N_add]
  rw [if_neg (by
    show ¬ N b < N 1
    rw [N_lt (by omega) (by decide)]; omega), if_pos (by exact g_lt (L := 5) (by omega) (by decide))]
  dsimp only
  rw [ex, ni_N (by omega), up_c (by decide), h37 _ (by omega)]
  unfold v_X2_number
  rw [if_neg (N_nn (by omega)), if_neg (by exact g_nle (L := 10) (by omega) (by decide)), if_neg (N_nn (by omega)), if_pos (by exact g_lt (L := 5) (by omega) (by decide)), ex, ni_N (by omega), h2 _ (by omega)]
end Both
