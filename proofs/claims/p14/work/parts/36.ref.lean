/-! THE REFERENCE GOES ON: each event -/
section Phase2
variable {σ : sg_S} {T S : Nat → Nat} {i tch k : Nat} {D : Nat → Nat → Nat}
theorem a226_1 (h : σ 35 23 = N i) : s_X5_goes_a226 σ 1 = sg_up σ 35 23 (N (i + 1)) := by
  unfold s_X5_goes_a226
  rw [if_neg (by decide), h, N_inc]
theorem a226_0 (h : σ 35 23 = N i) : s_X5_goes_a226 σ 0 = sg_up σ 35 23 (N i) := by
  unfold s_X5_goes_a226
  rw [if_pos rfl, h, Int32.add_zero]
theorem a170_eq (h : RefAt σ T S i tch D) (hi : i < 2) (hk : k ≤ 401) (h0 : InnOK T k (D 0)) (h1 : InnOK T k (D 1)) :
    (ended T (S 1) i D → s_X5_goes_a170 σ (N i) (N (D i 6)) = sg_up σ 35 23 (N (i + 1))) ∧ (¬ ended T (S 1) i D → s_X5_goes_a170 σ (N i) (N (D i 6)) = sg_up σ 35 23 (N i)) ∧ p_X5_goes_a170 σ (N i) (N (D i 6)) := by
  have hI : InnOK T k (D i) := by rcases (show i = 0 ∨ i = 1 by omega) with rfl | rfl <;> assumption
  have hnow : σ 35 23 = N i := h.2.2.2.2.1
  obtain ⟨a1, a2, a3, a4, a5, a6, a7, a8, a9, a10⟩ := hI
  obtain ⟨b1, b2, b3, b4, b5, b6, b7, b8, b9, b10⟩ := id h0
  obtain ⟨c1, c2, c3, c4, c5, c6, c7, c8, c9, c10⟩ := id h1
  have hpic := h.pic hi
  have hP45 : σ 45 0 = N (D 0 7 - D 0 8) := (h.pic (i := 0) (by decide)).2.2.2.2.2.2.2.1
  have hL : v_X5_left σ (N i) = N (6 * D i 3 - D i 2) := left_eq hi hpic a3
  have hW : σ 42 (ni (N i)) = N (D i 1) := by rw [ni_N (by omega)]; exact hpic.2.1
  have e6 : (¬ N (D i 6) = 0) ↔ D i 6 = 1 := by
    show (¬ N (D i 6) = N 0) ↔ _
    rw [N_eq (by omega) (by decide)]
    omega
  have eL : (v_X5_left σ (N i) = 0) ↔ D i 2 = 6 * D i 3 := by
    rw [hL]
    show (N (6 * D i 3 - D i 2) = N 0) ↔ _
    rw [N_eq (by omega) (by decide)]
    omega
  have eW : (σ 42 (ni (N i)) = 10) ↔ D i 1 = 10 := by
    rw [hW]
    show (N (D i 1) = N 10) ↔ _
    rw [N_eq (by omega) (by decide)]
  have e1 : (¬ N i = 1) ↔ ¬ i = 1 := by
    show (¬ N i = N 1) ↔ _
    rw [N_eq (by omega) (by decide)]
  have eP : (σ 45 0 ≤ 0) ↔ ¬ 0 < D 0 7 - D 0 8 := by
    rw [hP45]
    show (N (D 0 7 - D 0 8) ≤ N 0) ↔ _
    rw [N_le (by omega) (by decide)]
    omega
  have eT : 0 < D 0 7 - D 0 8 → ((σ 41 1 < v_X5_theTarget σ) ↔ D 1 0 < tgt T (S 1) (D 0 0) (D 0 7 - D 0 8) (D 1 7)) := by
    intro hp
    have hle := tgt_le h.2.1 (mean := S 1) (S := D 0 0) (P := D 0 7 - D 0 8) (Q := D 1 7) h.2.2.2.1.2.2.2.1 hp c9 (by omega)
    rw [theTarget_eq h hk h0 h1 hp, (h.pic (i := 1) (by decide)).1, N_lt (by omega) (by omega)]
  refine ⟨fun he => ?_, fun he => ?_, ?_⟩
  · unfold s_X5_goes_a170
    by_cases z6 : ¬ N (D i 6) = 0
    · rw [if_pos z6]; exact a226_1 hnow
    rw [if_neg z6]
    by_cases zL : v_X5_left σ (N i) = 0
    · rw [if_pos zL]; exact a226_1 hnow
    rw [if_neg zL]
    by_cases zW : σ 42 (ni (N i)) = 10
    · rw [if_pos zW]; exact a226_1 hnow
    rw [if_neg zW]
    rcases he with he | he | he | he
    · exact absurd (e6.mpr he) z6
    · exact absurd (eL.mpr he) zL
    · exact absurd (eW.mpr he) zW
    · obtain ⟨g1, g2, g3⟩ := he
      rw [if_neg (fun z => e1.mp z g1), if_neg (fun z => eP.mp z g2), if_neg (fun z => by have := (eT g2).mp z; omega)]
      exact a226_1 hnow
  · unfold s_X5_goes_a170
    rw [if_neg (fun z => he (Or.inl (e6.mp z))), if_neg (fun z => he (Or.inr (Or.inl (eL.mp z)))), if_neg (fun z => he (Or.inr (Or.inr (Or.inl (eW.mp z)))))]
    by_cases z1 : ¬ N i = 1
    · rw [if_pos z1]; exact a226_0 hnow
    rw [if_neg z1]
    by_cases zP : σ 45 0 ≤ 0
    · rw [if_pos zP]; exact a226_0 hnow
    rw [if_neg zP]
    have g1 : i = 1 := Decidable.not_not.mp (fun z => z1 (e1.mpr z))
    have g2 : 0 < D 0 7 - D 0 8 := Decidable.not_not.mp (fun z => zP (eP.mpr z))
    rw [if_pos ((eT g2).mpr ?_)]
    · exact a226_0 hnow
    · by_cases g3 : D 1 0 < tgt T (S 1) (D 0 0) (D 0 7 - D 0 8) (D 1 7)
      · exact g3
      · exact absurd (Or.inr (Or.inr (Or.inr ⟨g1, g2, by omega⟩))) he
  · refine fun _ => ⟨pleft_eq hi, fun _ => ⟨ix_N hi (by decide), fun _ _ zP => ?_⟩⟩
    exact ptheTarget h h0 (Decidable.not_not.mp (fun z => zP (eP.mpr z)))
end Phase2
section Forms
variable {σ : sg_S} {T S : Nat → Nat} {i tch : Nat} {D : Nat → Nat → Nat}
theorem RPic_up35 {f : Nat} {v : Int32} {E : Nat → Nat} (h : RPic σ i E) : RPic (sg_up σ 35 f v) i E := by
  unfold RPic
  simp (decide := true) only [up_c]
  exact h
theorem TabAt_up {q : Nat} {q' k' : Nat} {v : Int32} (h : TabAt σ q T) (hq : ¬ q = q') : TabAt (sg_up σ q' k' v) q T := fun k hk => by
  rw [up_c hq]; exact h k hk
theorem SetAt_up {q : Nat} {q' k' : Nat} {v : Int32} (h : SetAt σ q S) (hq : ¬ q = q') : SetAt (sg_up σ q' k' v) q S := fun k hk => by
  rw [up_c hq]; exact h k hk
theorem RefAt_tch {v : Nat} (h : RefAt σ T S i tch D) : RefAt (sg_up σ 35 24 (N v)) T S i v D :=
  ⟨TabAt_up h.1 (by decide), h.2.1, SetAt_up h.2.2.1 (by decide), h.2.2.2.1, by rw [up_k (by decide)]; exact h.2.2.2.2.1, up_eq, RPic_up35 h.2.2.2.2.2.2.1, RPic_up35 h.2.2.2.2.2.2.2⟩
theorem RefAt_now {v : Nat} (h : RefAt σ T S i tch D) : RefAt (sg_up σ 35 23 (N v)) T S v tch D :=
  ⟨TabAt_up h.1 (by decide), h.2.1, SetAt_up h.2.2.1 (by decide), h.2.2.2.1, up_eq, by rw [up_k (by decide)]; exact h.2.2.2.2.2.1, RPic_up35 h.2.2.2.2.2.2.1, RPic_up35 h.2.2.2.2.2.2.2⟩
theorem goes_nd {e n : Int32} (h : RefAt σ T S i tch D) (hi : i < 2) (he : ¬ e = 100) : s_X5_goes σ e n = s_X5_goes_a48 σ e n (N i) 0 (N i) ∧ (p_X5_goes_a48 σ e n (N i) 0 (N i) → p_X5_goes σ e n) := by
  have hn : σ 35 23 = N i := h.2.2.2.2.1
  unfold s_X5_goes p_X5_goes
  rw [if_pos he, hn]
  rcases (show i = 0 ∨ i = 1 by omega) with rfl | rfl
  · rw [if_pos (by decide)]
    exact ⟨rfl, fun hp => ⟨fun _ => ⟨fun _ => hp, fun z => absurd (by decide) z⟩, fun z => absurd he z⟩⟩
  · rw [if_neg (by decide)]
    exact ⟨rfl, fun hp => ⟨fun _ => ⟨fun z => absurd rfl z, fun _ => hp⟩, fun z => absurd he z⟩⟩
theorem RPic_set {σ' : sg_S} {E E' : Nat → Nat} {j : Nat} (h : RPic σ j E) (hs : ∀ q, q = 41 ∨ q = 42 ∨ q = 43 ∨ q = 44 ∨ q = 45 ∨ q = 46 ∨ q = 47 ∨ q = 48 ∨ q = 49 → σ' q j = σ q j) : RPic σ' j E := by
  obtain ⟨h0, h1, h2, h3, h4, h5, h6, h7, h8⟩ := h
  exact ⟨by rw [hs 41 (by decide)]; exact h0, by rw [hs 42 (by decide)]; exact h1, by rw [hs 43 (by decide)]; exact h2, by rw [hs 44 (by decide)]; exact h3, by rw [hs 48 (by decide)]; exact h4, by rw [hs 49 (by decide)]; exact h5, by rw [hs 47 (by decide)]; exact h6, by rw [hs 45 (by decide)]; exact h7, by rw [hs 46 (by decide)]; exact h8⟩
end Forms
