/-! THE REFERENCE'S STEPS: states with their indices as Nats -/
theorem up_c {σ : sg_S} {q k q' k' : Nat} {v : Int32} (h : ¬ q' = q) : sg_up σ q k v q' k' = σ q' k' := up_ne (fun z => h z.1)
theorem up_k {σ : sg_S} {q k q' k' : Nat} {v : Int32} (h : ¬ k' = k) : sg_up σ q k v q' k' = σ q' k' := up_ne (fun z => h z.2)
def du (D : Nat → Nat) (f v : Nat) : Nat → Nat := fun g => if g = f then v else D g
theorem du_eq {D : Nat → Nat} {f v : Nat} : du D f v f = v := by simp [du]
theorem du_ne {D : Nat → Nat} {f v g : Nat} (h : ¬ g = f) : du D f v g = D g := by simp only [du, if_neg h]
def RPic (σ : sg_S) (i : Nat) (D : Nat → Nat) : Prop := σ 41 i = N (D 0) ∧ σ 42 i = N (D 1) ∧ σ 43 i = N (D 2) ∧ σ 44 i = N (D 3) ∧ σ 48 i = N (D 4) ∧ σ 49 i = N (D 5) ∧ σ 47 i = N (D 6) ∧ σ 45 i = N (D 7 - D 8) ∧ σ 46 i = N (D 8)
def uB (σ : sg_S) (i m : Nat) (D : Nat → Nat) : sg_S := sg_up (sg_up (sg_up (sg_up (sg_up σ 53 (20 * i + D 2 / 6) (σ 53 (20 * i + D 2 / 6) + N m)) 55 (20 * i + D 2 / 6) (σ 55 (20 * i + D 2 / 6) + 1)) 56 (7 * i + m) (σ 56 (7 * i + m) + 1)) 41 i (N (D 0 + m))) 43 i (N (D 2 + 1))
def uX (σ : sg_S) (i : Nat) (D : Nat → Nat) : sg_S := sg_up (sg_up (sg_up (sg_up (uB σ i 0 D) 54 (20 * i + D 2 / 6) (σ 54 (20 * i + D 2 / 6) + 1)) 51 (10 * i + D 1) (N (D 0))) 52 (10 * i + D 1) (N (D 2 + 1))) 42 i (N (D 1 + 1))
def uC (σ : sg_S) (i n took : Nat) (D : Nat → Nat) : sg_S := sg_up (sg_up (sg_up (sg_up (sg_up (sg_up (sg_up (sg_up σ 50 (100 * i + 5 * D 5) (N (D 2))) 50 (100 * i + 5 * D 5 + 1) (N (D 1))) 50 (100 * i + 5 * D 5 + 2) (N (D 3))) 50 (100 * i + 5 * D 5 + 3) (N n)) 50 (100 * i + 5 * D 5 + 4) (N took)) 49 i (N (D 5 + 1))) 44 i (N n)) 45 i (N (D 7 - took))
def uS (σ : sg_S) (i took : Nat) (D : Nat → Nat) : sg_S := sg_up (sg_up (sg_up σ 47 i 1) 46 i (N took)) 45 i (N (D 7 - took))
def uE (σ : sg_S) (i : Nat) (D : Nat → Nat) : sg_S := sg_up (sg_up (sg_up σ 41 i (N (D 0 + 1))) 48 i (N (D 4 + 1))) 53 (20 * i + D 2 / 6) (σ 53 (20 * i + D 2 / 6) + 1)
def uD (σ : sg_S) (n p : Nat) : sg_S := sg_up (sg_up σ 44 1 (N n)) 45 1 (N p)
section Ups
variable {σ : sg_S} {i : Nat} {D : Nat → Nat}
theorem o_eq (hi : i < 2) (hP : σ 43 i = N (D 2)) (hb : D 2 ≤ 120) : 20 * N i + σ 43 (ni (N i)) / 6 = N (20 * i + D 2 / 6) := by
  rw [ni_N (by omega), hP, show (20 : Int32) = N 20 from rfl, show (6 : Int32) = N 6 from rfl, N_div (by omega) (by decide), N_mul, N_add]
theorem m_eq {m : Nat} : 7 * N i + N m = N (7 * i + m) := by
  rw [show (7 : Int32) = N 7 from rfl, N_mul, N_add]
theorem t_eq {m : Nat} : 10 * N i + N m = N (10 * i + m) := by
  rw [show (10 : Int32) = N 10 from rfl, N_mul, N_add]
theorem e_m {m : Nat} : N (48 + m) - 48 = N m := by
  rw [show (48 : Int32) = N 48 from rfl, N_sub (by omega), Nat.add_sub_cancel_left]
theorem bowls3 {e : Int32} {m : Nat} (hi : i < 2) (hP : RPic σ i D) (hb : D 2 ≤ 120) (hm : m ≤ 6) : t_X5_bowls_3 σ (N i) e (N (20 * i + D 2 / 6)) (N m) = uB σ i m D := by
  obtain ⟨h0, h1, h2, h3, h4, h5, h6, h7, h8⟩ := hP
  unfold t_X5_bowls_3 t_X5_bowls_2 t_X5_bowls_1 t_X5_bowls_0 uB
  rw [m_eq, ni_N (by omega), ni_N (by omega), ni_N (by omega)]
  simp (decide := true) only [up_c, h0, h2, N_add, N_inc]
theorem bowls7 {e : Int32} (hi : i < 2) (hP : RPic σ i D) (hb : D 2 ≤ 120) (hw : D 1 < 10) : t_X5_bowls_7 σ (N i) e (N (20 * i + D 2 / 6)) 0 = uX σ i D := by
  obtain ⟨h0, h1, h2, h3, h4, h5, h6, h7, h8⟩ := id hP
  have e3 := bowls3 (e := e) (m := 0) hi hP hb (by decide)
  have e3 : t_X5_bowls_3 σ (N i) e (N (20 * i + D 2 / 6)) 0 = uB σ i 0 D := e3
  unfold t_X5_bowls_7 t_X5_bowls_6 t_X5_bowls_5 t_X5_bowls_4
  rw [e3, ni_N (by omega), ni_N (by omega)]
  simp (decide := true) only [up_c]
  unfold uX uB
  simp (decide := true) only [up_c, up_eq, h1, t_eq, N_inc]
  rw [ni_N (by omega)]
  rfl
theorem bowls_run {m : Nat} (hi : i < 2) (hP : RPic σ i D) (hb : D 2 ≤ 120) (hm : m ≤ 6) : s_X5_bowls σ (N i) (N (48 + m)) = uB σ i m D := by
  have he : ¬ N (48 + m) = 120 := by
    show ¬ N (48 + m) = N 120
    rw [N_eq (by omega) (by decide)]
    omega
  unfold s_X5_bowls
  rw [if_pos he, o_eq hi hP.2.2.1 hb, e_m]
  unfold s_X5_bowls_a29
  rw [if_pos he]
  exact bowls3 hi hP hb hm
theorem bowls_x (hi : i < 2) (hP : RPic σ i D) (hb : D 2 ≤ 120) (hw : D 1 < 10) : s_X5_bowls σ (N i) 120 = uX σ i D := by
  unfold s_X5_bowls
  rw [if_neg (fun h => h rfl), o_eq hi hP.2.2.1 hb]
  unfold s_X5_bowls_a29
  rw [if_neg (fun h => h rfl)]
  exact bowls7 hi hP hb hw
theorem c_eq {k a : Nat} (hc : σ 49 i = N k) : 100 * N i + 5 * σ 49 i = N (100 * i + 5 * k) := by
  rw [hc, show (100 : Int32) = N 100 from rfl, show (5 : Int32) = N 5 from rfl, N_mul, N_mul, N_add]
theorem cutsTo_eq {n took : Nat} (hi : i < 2) (hP : RPic σ i D) (hc : D 5 < 20) (h8 : D 8 = 0) (ht : v_X5_takes σ (N i) (N n) = N took) (hle : took ≤ D 7) : s_X5_cutsTo σ (N i) (N n) = uC σ i n took D := by
  obtain ⟨h0, h1, h2, h3, h4, h5, h6, h7, h8'⟩ := hP
  unfold s_X5_cutsTo t_X5_cutsTo_6 t_X5_cutsTo_5 t_X5_cutsTo_4 t_X5_cutsTo_3 t_X5_cutsTo_2 t_X5_cutsTo_1 t_X5_cutsTo_0 uC
  rw [ht, ni_N (by omega), c_eq (a := 0) h5, show (1 : Int32) = N 1 from rfl, show (2 : Int32) = N 2 from rfl, show (3 : Int32) = N 3 from rfl, show (4 : Int32) = N 4 from rfl, N_add, N_add, N_add, N_add, ni_N (by omega), ni_N (by omega), ni_N (by omega), ni_N (by omega), ni_N (by omega)]
  rw [h8, Nat.sub_zero] at h7
  simp (decide := true) only [up_c, h1, h2, h3, h5, h7, N_add, N_sub hle]
theorem extra_eq {y1 x2 x4 : Int32} {e : Int32} (hi : i < 2) (hP : RPic σ i D) (hb : D 2 ≤ 120) : t_X5_goes_2 σ e x2 (N i) x4 y1 = uE (sg_up σ 35 24 y1) i D := by
  obtain ⟨h0, h1, h2, h3, h4, h5, h6, h7, h8⟩ := hP
  have e1 : t_X5_goes_1 σ e x2 (N i) x4 y1 = sg_up (sg_up (sg_up σ 35 24 y1) 41 i (N (D 0 + 1))) 48 i (N (D 4 + 1)) := by
    unfold t_X5_goes_1 t_X5_goes_0
    rw [ni_N (by omega)]
    simp (decide := true) only [up_c, h0, h4, N_inc]
  have e2 : t_X5_goes_1 σ e x2 (N i) x4 y1 43 i = N (D 2) := by
    rw [e1]
    simp (decide := true) only [up_c, h2]
  unfold t_X5_goes_2 uE
  rw [o_eq hi e2 hb, ni_N (by omega), e1]
  simp (decide := true) only [up_c]
theorem close_eq {y1 x2 x4 : Int32} {e : Int32} {took : Nat} (hi : i < 2) (hP : RPic σ i D) (h8 : D 8 = 0) (ht : v_X5_leftWorth (sg_up (sg_up σ 35 24 y1) 47 i 1) (N i) = N took) (hle : took ≤ D 7) : t_X5_goes_5 σ e x2 (N i) x4 y1 = uS (sg_up σ 35 24 y1) i took D := by
  obtain ⟨h0, h1, h2, h3, h4, h5, h6, h7, h8'⟩ := hP
  rw [h8, Nat.sub_zero] at h7
  unfold t_X5_goes_5 t_X5_goes_4 t_X5_goes_3 uS
  rw [ni_N (by omega), ht]
  simp (decide := true) only [up_c, up_eq, h7, N_sub hle]
end Ups
