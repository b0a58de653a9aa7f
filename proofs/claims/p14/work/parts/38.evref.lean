/-! EACH EVENT, on the reference's state -/
def Res (σ1 : sg_S) (T S : Nat → Nat) (k i : Nat) (D' : Nat → Nat → Nat) (s : sg_S) : Prop :=
  ∃ now', (now' = i ∨ now' = i + 1) ∧ (now' = i + 1 ↔ ended T (S 1) i D') ∧ s = sg_up σ1 35 23 (N now') ∧ RefAt s T S now' i D' ∧ OK T (S 1) (k + 1) now' i D'
section EvRef
variable {σ : sg_S} {T S : Nat → Nat} {k i tch : Nat} {D : Nat → Nat → Nat}
theorem ev_fin {σ1 : sg_S} {E : Nat → Nat} (hok : OK T (S 1) k i tch D) (hi : i < 2) (hk : k ≤ 400) (hE : InnOK T (k + 1) E) (h1 : RefAt σ1 T S i i (pd D i E)) {x4 : Int32} (hx : x4 = N (E 6)) : Res σ1 T S k i (pd D i E) (s_X5_goes_a170 σ1 (N i) x4) ∧ p_X5_goes_a170 σ1 (N i) x4 := by
  obtain ⟨g1, g2, g3⟩ := OK_next hok hi hE
  have e6 : x4 = N (pd D i E i 6) := by rw [pd_eq]; exact hx
  obtain ⟨f1, f2, f3⟩ := a170_eq h1 hi (k := k + 1) (by omega) (g1 0 (by decide)) (g1 1 (by decide))
  rw [e6]
  refine ⟨?_, f3⟩
  by_cases he : ended T (S 1) i (pd D i E)
  · refine ⟨i + 1, Or.inr rfl, ⟨fun _ => he, fun _ => rfl⟩, f1 he, ?_, g2 he⟩
    rw [f1 he]; exact RefAt_now h1
  · refine ⟨i, Or.inl rfl, ⟨fun z => by omega, fun z => absurd z he⟩, f2 he, ?_, g3 he⟩
    rw [f2 he]; exact RefAt_now h1
theorem isBall_m {m : Nat} (hm : m ≤ 6) : v_X5_isBall (N (48 + m)) = 1 := by
  rcases (show m = 0 ∨ m = 1 ∨ m = 2 ∨ m = 3 ∨ m = 4 ∨ m = 5 ∨ m = 6 by omega) with rfl | rfl | rfl | rfl | rfl | rfl | rfl <;> decide
theorem ix2 (hi : i < 2) : ix (N i) 2 := ix_N hi (by decide)
theorem ixo {E : Nat → Nat} (hi : i < 2) (hb : E 2 < 120) : ix (N (20 * i + E 2 / 6)) 40 := ix_N (by omega) (by decide)
theorem pbowls_a29 {E : Nat → Nat} {e : Int32} {m : Nat} (hi : i < 2) (hP : RPic σ i E) (hb : E 2 < 120) (hm : m ≤ 6) (hw : E 1 < 10) : p_X5_bowls_a29 σ (N i) e (N (20 * i + E 2 / 6)) (N m) := by
  have h7 : ix (7 * N i + N m) 14 := by rw [m_eq]; exact ix_N (by omega) (by decide)
  have e3 := bowls3 (e := e) hi hP (Nat.le_of_lt hb) hm
  have e4 : t_X5_bowls_4 σ (N i) e (N (20 * i + E 2 / 6)) (N m) 42 (ni (N i)) = N (E 1) := by
    unfold t_X5_bowls_4
    rw [e3, ni_N (show i < 2147483648 by omega)]
    unfold uB
    simp (decide := true) only [up_c]
    exact hP.2.1
  have e5 : t_X5_bowls_5 σ (N i) e (N (20 * i + E 2 / 6)) (N m) 42 (ni (N i)) = N (E 1) := by
    unfold t_X5_bowls_5
    rw [up_c (by decide)]
    exact e4
  have ht : ix (10 * N i + N (E 1)) 20 := by rw [t_eq]; exact ix_N (by omega) (by decide)
  unfold p_X5_bowls_a29
  rw [e4, e5]
  exact ⟨ixo hi hb, ixo hi hb, ixo hi hb, ixo hi hb, h7, h7, ix2 hi, ix2 hi, ix2 hi, ix2 hi, fun _ => ⟨ixo hi hb, ixo hi hb, ix2 hi, ix2 hi, ht, ix2 hi, ix2 hi, ht, ix2 hi, ix2 hi⟩⟩
theorem pbowls {E : Nat → Nat} {e : Int32} (hi : i < 2) (hP : RPic σ i E) (hb : E 2 < 120) (hw : E 1 < 10) (he : ¬ e = 120 → ∃ m, m ≤ 6 ∧ e = N (48 + m)) : p_X5_bowls σ (N i) e := by
  unfold p_X5_bowls
  rw [o_eq hi hP.2.2.1 (by omega)]
  refine ⟨ix2 hi, fun z => ?_, fun _ => pbowls_a29 (m := 0) hi hP hb (by decide) hw⟩
  obtain ⟨m, hm, e1⟩ := he z
  rw [show e - 48 = N m by rw [e1, e_m]]
  exact pbowls_a29 hi hP hb hm hw
/-- a ball -/
theorem ev_ball {m : Nat} {n : Int32} (h : RefAt σ T S i tch D) (hok : OK T (S 1) k i tch D) (hi : i < 2) (hk : k ≤ 400) (hm : m ≤ 6) : Res (uB (sg_up σ 35 24 (N i)) i m (D i)) T S k i (pd D i (eB (D i) m)) (s_X5_goes σ (N (48 + m)) n) ∧ p_X5_goes σ (N (48 + m)) n := by
  have hI := hok.2.2.2.1 i hi
  have hL := hok.2.2.2.2.1 i hi (Nat.le_refl i)
  obtain ⟨a1, a2, a3, a4, a5, a6, a7, a8, a9, a10⟩ := id hI
  obtain ⟨l1, l2, l3⟩ := id hL
  have h0 := RefAt_tch (v := i) h
  have hP := h0.pic hi
  have he : ¬ N (48 + m) = 100 := by
    show ¬ N (48 + m) = N 100
    rw [N_eq (by omega) (by decide)]; omega
  obtain ⟨g1, g2⟩ := goes_nd (n := n) h hi he
  have hR : RefAt (uB (sg_up σ 35 24 (N i)) i m (D i)) T S i i (pd D i (eB (D i) m)) := by
    refine RefAt_pd h0 hi ?_ ?_ ?_ ?_ ?_
    · intro q kk hq
      rcases hq with rfl | rfl
      all_goals simp (decide := true) only [uB, up_c]
    · simp (decide := true) only [uB, up_c]; exact h0.2.2.2.2.1
    · simp (decide := true) only [uB, up_c]; exact h0.2.2.2.2.2.1
    · obtain ⟨p0, p1, p2, p3, p4, p5, p6, p7, p8⟩ := hP
      unfold RPic eB uB
      simp (decide := true) only [up_c, up_eq, du_eq, du_ne]
      exact ⟨trivial, p1, trivial, p3, p4, p5, p6, p7, p8⟩
    · intro q j hq hj
      rcases hq with rfl | rfl | rfl | rfl | rfl | rfl | rfl | rfl | rfl
      all_goals simp (decide := true) only [uB, up_c, up_k hj]
  obtain ⟨r1, r2⟩ := ev_fin hok hi hk (eB_ok h.2.1 hI hL hm) hR (x4 := 0) (by
    unfold eB
    simp (decide := true) only [du_ne]
    rw [l3]
    rfl)
  have hs : s_X5_goes σ (N (48 + m)) n = s_X5_goes_a170 (uB (sg_up σ 35 24 (N i)) i m (D i)) (N i) 0 := by
    rw [g1]
    unfold s_X5_goes_a48
    rw [if_neg (by rw [isBall_m hm]; decide), bowls_run hi hP (by omega) hm]
  refine ⟨by rw [hs]; exact r1, g2 ⟨?_, fun z => absurd z (by rw [isBall_m hm]; decide), fun _ => ⟨pbowls hi hP (by omega) l2 (fun _ => ⟨m, hm, rfl⟩), ?_⟩⟩⟩
  · rcases (show i = 0 ∨ i = 1 by omega) with rfl | rfl
    · exact Or.inl rfl
    · exact Or.inr rfl
  · rw [bowls_run hi hP (by omega) hm]; exact r2
theorem bt_i (hi : i < 2) : bt (N i) := by
  rcases (show i = 0 ∨ i = 1 by omega) with rfl | rfl
  · exact Or.inl rfl
  · exact Or.inr rfl
/-- a wicket -/
theorem ev_x {n : Int32} (h : RefAt σ T S i tch D) (hok : OK T (S 1) k i tch D) (hi : i < 2) (hk : k ≤ 400) : Res (uX (sg_up σ 35 24 (N i)) i (D i)) T S k i (pd D i (eX (D i))) (s_X5_goes σ 120 n) ∧ p_X5_goes σ 120 n := by
  have hI := hok.2.2.2.1 i hi
  have hL := hok.2.2.2.2.1 i hi (Nat.le_refl i)
  obtain ⟨a1, a2, a3, a4, a5, a6, a7, a8, a9, a10⟩ := id hI
  obtain ⟨l1, l2, l3⟩ := id hL
  have h0 := RefAt_tch (v := i) h
  have hP := h0.pic hi
  obtain ⟨g1, g2⟩ := goes_nd (n := n) (e := 120) h hi (by decide)
  have hR : RefAt (uX (sg_up σ 35 24 (N i)) i (D i)) T S i i (pd D i (eX (D i))) := by
    refine RefAt_pd h0 hi ?_ ?_ ?_ ?_ ?_
    · intro q kk hq
      rcases hq with rfl | rfl
      all_goals simp (decide := true) only [uX, uB, up_c]
    · simp (decide := true) only [uX, uB, up_c]; exact h0.2.2.2.2.1
    · simp (decide := true) only [uX, uB, up_c]; exact h0.2.2.2.2.2.1
    · obtain ⟨p0, p1, p2, p3, p4, p5, p6, p7, p8⟩ := hP
      unfold RPic eX uX uB
      simp (decide := true) only [up_c, up_eq, du_eq, du_ne, Nat.add_zero]
      exact ⟨trivial, trivial, trivial, p3, p4, p5, p6, p7, p8⟩
    · intro q j hq hj
      rcases hq with rfl | rfl | rfl | rfl | rfl | rfl | rfl | rfl | rfl
      all_goals simp (decide := true) only [uX, uB, up_c, up_k hj]
  obtain ⟨r1, r2⟩ := ev_fin hok hi hk (eX_ok h.2.1 hI hL) hR (x4 := 0) (by
    unfold eX
    simp (decide := true) only [du_ne]
    rw [l3]
    rfl)
  have hs : s_X5_goes σ 120 n = s_X5_goes_a170 (uX (sg_up σ 35 24 (N i)) i (D i)) (N i) 0 := by
    rw [g1]
    unfold s_X5_goes_a48
    rw [if_neg (by decide), bowls_x hi hP (by omega) l2]
  refine ⟨by rw [hs]; exact r1, g2 ⟨bt_i hi, fun z => absurd z (by decide), fun _ => ⟨pbowls hi hP (by omega) l2 (fun z => absurd rfl z), ?_⟩⟩⟩
  rw [bowls_x hi hP (by omega) l2]; exact r2
/-- a run that is no ball -/
theorem ev_extra {e n : Int32} (h : RefAt σ T S i tch D) (hok : OK T (S 1) k i tch D) (hi : i < 2) (hk : k ≤ 400) (he : e = 119 ∨ e = 110) : Res (uE (sg_up σ 35 24 (N i)) i (D i)) T S k i (pd D i (eE (D i))) (s_X5_goes σ e n) ∧ p_X5_goes σ e n := by
  have hI := hok.2.2.2.1 i hi
  have hL := hok.2.2.2.2.1 i hi (Nat.le_refl i)
  obtain ⟨a1, a2, a3, a4, a5, a6, a7, a8, a9, a10⟩ := id hI
  obtain ⟨l1, l2, l3⟩ := id hL
  have h0 := RefAt_tch (v := i) h
  have hP := h0.pic hi
  have he1 : ¬ e = 100 := by rcases he with rfl | rfl <;> decide
  have he2 : v_X5_isBall e = 0 := by rcases he with rfl | rfl <;> decide
  have he3 : ¬ e = 99 := by rcases he with rfl | rfl <;> decide
  have he4 : ¬ e = 47 := by rcases he with rfl | rfl <;> decide
  obtain ⟨g1, g2⟩ := goes_nd (n := n) h hi he1
  have hR : RefAt (uE (sg_up σ 35 24 (N i)) i (D i)) T S i i (pd D i (eE (D i))) := by
    refine RefAt_pd h0 hi ?_ ?_ ?_ ?_ ?_
    · intro q kk hq
      rcases hq with rfl | rfl
      all_goals simp (decide := true) only [uE, up_c]
    · simp (decide := true) only [uE, up_c]; exact h0.2.2.2.2.1
    · simp (decide := true) only [uE, up_c]; exact h0.2.2.2.2.2.1
    · obtain ⟨p0, p1, p2, p3, p4, p5, p6, p7, p8⟩ := hP
      unfold RPic eE uE
      simp (decide := true) only [up_c, up_eq, du_eq, du_ne]
      exact ⟨trivial, p1, p2, p3, trivial, p5, p6, p7, p8⟩
    · intro q j hq hj
      rcases hq with rfl | rfl | rfl | rfl | rfl | rfl | rfl | rfl | rfl
      all_goals simp (decide := true) only [uE, up_c, up_k hj]
  obtain ⟨r1, r2⟩ := ev_fin hok hi hk (eE_ok hI hL) hR (x4 := 0) (by
    unfold eE
    simp (decide := true) only [du_ne]
    rw [l3]
    rfl)
  have hx := extra_eq (y1 := N i) (x2 := n) (x4 := 0) (e := e) hi (h.pic hi) (show D i 2 ≤ 120 by omega)
  have hs : s_X5_goes σ e n = s_X5_goes_a170 (uE (sg_up σ 35 24 (N i)) i (D i)) (N i) 0 := by
    rw [g1]
    unfold s_X5_goes_a48
    rw [if_pos he2, if_pos he3, if_pos he4, hx]
  have e1 : t_X5_goes_1 σ e n (N i) 0 (N i) 43 i = N (D i 2) := by
    unfold t_X5_goes_1 t_X5_goes_0
    rw [ni_N (show i < 2147483648 by omega)]
    simp (decide := true) only [up_c]
    exact (h.pic hi).2.2.1
  refine ⟨by rw [hs]; exact r1, g2 ⟨bt_i hi, fun _ => ⟨fun _ => ⟨fun _ => ?_, fun z => absurd he4 z⟩, fun z => absurd he3 z⟩, fun z => absurd he2 z⟩⟩
  rw [o_eq hi e1 (by omega), hx]
  exact ⟨ix2 hi, ix2 hi, ix2 hi, ix2 hi, ix2 hi, ixo hi (by omega), ixo hi (by omega), r2⟩
end EvRef
