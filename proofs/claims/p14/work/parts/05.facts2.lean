theorem ip_KL_ok : ip_KL.all (fun q => match ip_ML[q.2.2.1]? with
    | none => false
    | some e => ip_in q.2.2.2 (.methodLink (ip_R q.1) q.2.1 e.1)) = true := by decide +kernel
theorem ip_kl_w {cls x a : Nat} {e : ip_ME} (h : ip_kl cls x a = true) (he : ip_ML[a]? = some e) : Cond.methodLink (ip_R cls) x e.1 ∈ ip_G := by
  unfold ip_kl at h
  obtain ⟨q, hq, h1⟩ := List.any_eq_true.mp h
  simp only [Bool.and_eq_true, Nat.beq_eq] at h1
  obtain ⟨e1, e2, e3⟩ := h1
  have h2 := List.all_eq_true.mp ip_KL_ok q hq
  simp only [e1, e2, e3, he] at h2
  exact ip_in_mem h2
