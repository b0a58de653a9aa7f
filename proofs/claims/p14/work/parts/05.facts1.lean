/-! the words behind the links, by their places -/
theorem ip_FL_ok : ip_FL.all (fun q => Nat.ble (q.2.2.1 + 1) 6 && (Nat.ble (q.2.2.2.1 + 1) (ip_N q.2.2.1) && (decide ((ip_F q.2.2.1 q.2.2.2.1).1 = ip_R q.2.2.1) && ip_in q.2.2.2.2 (.fieldLink (ip_R q.1) q.2.1 (ip_R q.2.2.1) (ip_F q.2.2.1 q.2.2.2.1).2.1 (ip_F q.2.2.1 q.2.2.2.1).2.2.1)))) = true := by decide +kernel
theorem ip_fl_w {cls x a b : Nat} (h : ip_fl cls x a b = true) : a < 6 ∧ b < ip_N a ∧ (ip_F a b).1 = ip_R a ∧ Cond.fieldLink (ip_R cls) x (ip_R a) (ip_F a b).2.1 (ip_F a b).2.2.1 ∈ ip_G := by
  unfold ip_fl at h
  obtain ⟨q, hq, h1⟩ := List.any_eq_true.mp h
  simp only [Bool.and_eq_true, Nat.beq_eq] at h1
  obtain ⟨e1, e2, e3, e4⟩ := h1
  have h2 := List.all_eq_true.mp ip_FL_ok q hq
  simp only [Bool.and_eq_true, Nat.ble_eq, decide_eq_true_eq] at h2
  obtain ⟨g1, g2, g3, g4⟩ := h2
  rw [e1, e2, e3, e4] at g4
  rw [e3] at g1
  rw [e3, e4] at g2 g3
  exact ⟨g1, g2, g3, ip_in_mem g4⟩
