theorem ip_OL_ok : ip_OL.all (fun q => ip_in q.2.2 (.methodLink (ip_R q.1) q.2.1 Lib.objectInit)) = true := by decide +kernel
theorem ip_ol_w {cls x : Nat} (h : ip_OL.any (fun z => Nat.beq z.1 cls && Nat.beq z.2.1 x) = true) : Cond.methodLink (ip_R cls) x Lib.objectInit ∈ ip_G := by
  obtain ⟨q, hq, h1⟩ := List.any_eq_true.mp h
  simp only [Bool.and_eq_true, Nat.beq_eq] at h1
  obtain ⟨e1, e2⟩ := h1
  have h2 := List.all_eq_true.mp ip_OL_ok q hq
  simp only [e1, e2] at h2
  exact ip_in_mem h2
theorem ip_obI : Cond.instanceMethod Lib.objectInit ∈ ip_G := ip_in_mem (p := 74) (by decide +kernel)
theorem ip_obC : Cond.code Lib.objectInit ⟨#[0xb1]⟩ 1 none ∈ ip_G := ip_in_mem (p := 75) (by decide +kernel)
theorem ip_acI : Cond.arrayClass .int ∈ ip_G := ip_in_mem (p := 94) (by decide +kernel)
theorem ip_acZ : Cond.arrayClass .boolean ∈ ip_G := ip_in_mem (p := 920) (by decide +kernel)
theorem ip_acJ : Cond.arrayClass .long ∈ ip_G := ip_in_mem (p := 1242) (by decide +kernel)
theorem ip_CL_ok : ip_CL.all (fun q => Nat.ble (q.2.2.1 + 1) 6 && (ip_in q.2.2.2.1 (.classLink (ip_R q.1) q.2.1 (ip_R q.2.2.1)) && (ip_in q.2.2.2.2.1 (.instantiable (ip_R q.2.2.1) (ip_N q.2.2.1)) && ip_in q.2.2.2.2.2 (.initialized (ip_R q.2.2.1))))) = true := by decide +kernel
theorem ip_cl_w {cls x a : Nat} (h : ip_CL.any (fun z => Nat.beq z.1 cls && (Nat.beq z.2.1 x && Nat.beq z.2.2.1 a)) = true) : a < 6 ∧ Cond.classLink (ip_R cls) x (ip_R a) ∈ ip_G ∧ Cond.instantiable (ip_R a) (ip_N a) ∈ ip_G ∧ Cond.initialized (ip_R a) ∈ ip_G := by
  obtain ⟨q, hq, h1⟩ := List.any_eq_true.mp h
  simp only [Bool.and_eq_true, Nat.beq_eq] at h1
  obtain ⟨e1, e2, e3⟩ := h1
  have h2 := List.all_eq_true.mp ip_CL_ok q hq
  simp only [e1, e2, e3, Bool.and_eq_true, Nat.ble_eq] at h2
  exact ⟨h2.1, ip_in_mem h2.2.1, ip_in_mem h2.2.2.1, ip_in_mem h2.2.2.2⟩
def ip_sn (a : Nat) : String := match a with
  | 0 => "AT_FIRST"
  | 1 => "LOWEST"
  | _ => "HIGHEST"
theorem ip_SL_ok : ip_SL.all (fun q => Nat.ble (q.2.2.1 + 1) 3 && ip_in q.2.2.2 (.fieldLink (ip_R q.1) q.2.1 RX2 (ip_sn q.2.2.1) "[I")) = true := by decide +kernel
theorem ip_sl_w {cls x a : Nat} (h : ip_SL.any (fun z => Nat.beq z.1 cls && (Nat.beq z.2.1 x && Nat.beq z.2.2.1 a)) = true) : a < 3 ∧ Cond.fieldLink (ip_R cls) x RX2 (ip_sn a) "[I" ∈ ip_G := by
  obtain ⟨q, hq, h1⟩ := List.any_eq_true.mp h
  simp only [Bool.and_eq_true, Nat.beq_eq] at h1
  obtain ⟨e1, e2, e3⟩ := h1
  have h2 := List.all_eq_true.mp ip_SL_ok q hq
  simp only [e1, e2, e3, Bool.and_eq_true, Nat.ble_eq] at h2
  exact ⟨h2.1, ip_in_mem h2.2⟩
theorem ip_six {a : Nat} (h : a < 6) : a = 0 ∨ a = 1 ∨ a = 2 ∨ a = 3 ∨ a = 4 ∨ a = 5 := by omega
theorem ip_vw {a : Nat} (h : a < 6) : vwCl[a]? = some (ip_R a, ip_F a, ip_N a) := by
  rcases ip_six h with rfl | rfl | rfl | rfl | rfl | rfl <;> rfl
theorem ip_gw0 : (wsX00 ++ wsX10 ++ wsX20 ++ wsX30 ++ wsX40 ++ wsX50).all goodWord = true := by decide +kernel
theorem ip_hin {a : Nat} (h : a < 6) : ∀ w ∈ u_ws (ip_R a) (ip_F a) (ip_N a), w ∈ ip_G := by
  intro w hw
  have hg := List.all_eq_true.mp ip_gw0 w
  rcases ip_six h with rfl | rfl | rfl | rfl | rfl | rfl
  · exact List.mem_filter.mpr ⟨ip_inX0 w hw, hg (by simp only [List.mem_append]; exact Or.inl (Or.inl (Or.inl (Or.inl (Or.inl hw)))))⟩
  · exact List.mem_filter.mpr ⟨ip_inX1 w hw, hg (by simp only [List.mem_append]; exact Or.inl (Or.inl (Or.inl (Or.inl (Or.inr hw)))))⟩
  · exact List.mem_filter.mpr ⟨ip_inX2 w hw, hg (by simp only [List.mem_append]; exact Or.inl (Or.inl (Or.inl (Or.inr hw))))⟩
  · exact List.mem_filter.mpr ⟨ip_inX3 w hw, hg (by simp only [List.mem_append]; exact Or.inl (Or.inl (Or.inr hw)))⟩
  · exact List.mem_filter.mpr ⟨ip_inX4 w hw, hg (by simp only [List.mem_append]; exact Or.inl (Or.inr hw))⟩
  · exact List.mem_filter.mpr ⟨ip_inX5 w hw, hg (by simp only [List.mem_append]; exact Or.inr hw)⟩
theorem ip_tyo {a : Nat} (h : a < 6) : ∀ k, k < ip_N a → parseFieldDescriptor (ip_F a k).2.2.1 = some (ip_Y a k) := by
  rcases ip_six h with rfl | rfl | rfl | rfl | rfl | rfl
  · exact tyX0_ok
  · exact tyX1_ok
  · exact tyX2_ok
  · exact tyX3_ok
  · exact tyX4_ok
  · exact tyX5_ok
theorem ip_nmo {a : Nat} (h : a < 6) : ∀ x, x < ip_N a → ∀ y, y < ip_N a → x ≠ y → (ip_F a x).2.1 ≠ (ip_F a y).2.1 := by
  rcases ip_six h with rfl | rfl | rfl | rfl | rfl | rfl
  · exact nmX0
  · exact nmX1
  · exact nmX2
  · exact nmX3
  · exact nmX4
  · exact nmX5
theorem ip_mxL : Cond.methodLink RX1 85 Lib.Math.max.name ∈ ip_G := ip_in_mem (p := 579) (by decide +kernel)
theorem ip_mxS : Cond.static Lib.Math.max.name ∈ ip_G := ip_in_mem (p := 580) (by decide +kernel)
theorem ip_mxC : Cond.code Lib.Math.max.name Lib.Math.max.code 2 (some .int) ∈ ip_G := ip_in_mem (p := 581) (by decide +kernel)
theorem ip_mxI : Cond.initialized "java/lang/Math" ∈ ip_G := ip_in_mem (p := 67) (by decide +kernel)
