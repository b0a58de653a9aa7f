/-! Numbers that are not below 0, as Nats -/
abbrev N (n : Nat) : Int32 := Int32.ofNat n
theorem N_add (a b : Nat) : N a + N b = N (a + b) := (Int32.ofNat_add a b).symm
theorem N_mul (a b : Nat) : N a * N b = N (a * b) := (Int32.ofNat_mul a b).symm
theorem N_sub {a b : Nat} (h : b ≤ a) : N a - N b = N (a - b) := (Int32.ofNat_sub a b h).symm
theorem N_div {a b : Nat} (ha : a < 2147483648) (hb : b < 2147483648) : N a / N b = N (a / b) := (Int32.ofNat_div (by omega) (by omega)).symm
theorem N_rm {a b : Nat} (ha : a < 2147483648) (hb : b < 2147483648) : rm (N a) (N b) = N (a % b) := by
  show N a - N a / N b * N b = N (a % b)
  have h := Nat.div_mul_le_self a b
  rw [N_div ha hb, N_mul, N_sub h]
  congr 1
  have h2 := Nat.div_add_mod a b
  rw [Nat.mul_comm] at h2
  omega
theorem N_toInt {a : Nat} (ha : a < 2147483648) : (N a).toInt = a := Int32.toInt_ofNat_of_lt (by omega)
theorem N_lt {a b : Nat} (ha : a < 2147483648) (hb : b < 2147483648) : N a < N b ↔ a < b := by
  rw [Int32.lt_iff_toInt_lt, N_toInt ha, N_toInt hb]; omega
theorem N_le {a b : Nat} (ha : a < 2147483648) (hb : b < 2147483648) : N a ≤ N b ↔ a ≤ b := by
  rw [Int32.le_iff_toInt_le, N_toInt ha, N_toInt hb]; omega
theorem N_eq {a b : Nat} (ha : a < 2147483648) (hb : b < 2147483648) : N a = N b ↔ a = b := by
  rw [← Int32.toInt_inj, N_toInt ha, N_toInt hb]; omega
theorem N_nn {a : Nat} (ha : a < 2147483648) : ¬ N a < 0 := by
  show ¬ N a < N 0
  rw [N_lt ha (by decide)]; omega
theorem ni_N {a : Nat} (ha : a < 2147483648) : ni (N a) = a := Int32.toNatClampNeg_ofNat_of_lt (by omega)
theorem N_ni {x : Int32} (h : ¬ x < 0) : N (ni x) = x := Int32.ofNat_toNatClampNeg x (Int32.not_lt.mp h)
theorem ix_N {a L : Nat} (h : a < L) (hL : L ≤ 2147483648) : ix (N a) L := ⟨N_nn (by omega), by show ni (N a) < L; rw [ni_N (by omega)]; exact h⟩
theorem ix_ex {x : Int32} {L : Nat} (h : ix x L) : ∃ a, a < L ∧ x = N a := ⟨ni x, h.2, (N_ni h.1).symm⟩
theorem ni_lt {x : Int32} : ni x < 2147483648 := by
  have := Int32.toNatClampNeg_lt x
  omega
theorem ex_nn {x : Int32} (h0 : ¬ x < 0) : ∃ a, a < 2147483648 ∧ x = N a := ⟨ni x, ni_lt, (N_ni h0).symm⟩
theorem ex_lt (L : Nat) {x : Int32} (h0 : ¬ x < 0) (h1 : x < N L) (hL : L < 2147483648) : ∃ a, a < L ∧ x = N a := by
  obtain ⟨a, ha, rfl⟩ := ex_nn h0
  exact ⟨a, (N_lt ha hL).mp h1, rfl⟩
theorem ex_nle (L : Nat) {x : Int32} (h0 : ¬ x < 0) (h1 : ¬ N L ≤ x) (hL : L < 2147483648) : ∃ a, a < L ∧ x = N a := by
  obtain ⟨a, ha, rfl⟩ := ex_nn h0
  rw [N_le hL ha] at h1
  exact ⟨a, by omega, rfl⟩
theorem ex_le (L : Nat) {x : Int32} (h0 : ¬ x < 0) (h1 : x ≤ N L) (hL : L < 2147483648) : ∃ a, a ≤ L ∧ x = N a := by
  obtain ⟨a, ha, rfl⟩ := ex_nn h0
  exact ⟨a, (N_le ha hL).mp h1, rfl⟩
theorem ex_nlt (L : Nat) {x : Int32} (h0 : ¬ x < 0) (h1 : ¬ N L < x) (hL : L < 2147483648) : ∃ a, a ≤ L ∧ x = N a := by
  obtain ⟨a, ha, rfl⟩ := ex_nn h0
  rw [N_lt hL ha] at h1
  exact ⟨a, by omega, rfl⟩
theorem nn_of_le {x y : Int32} (h : ¬ x ≤ y) (hy : ¬ y < 0) : ¬ x < 0 := by
  rw [Int32.le_iff_toInt_le] at h
  rw [Int32.lt_iff_toInt_lt] at hy ⊢
  omega
theorem pos_nz {x : Int32} (h : ¬ x ≤ 0) : ¬ x = 0 := by
  intro e
  rw [e] at h
  exact h (Int32.le_refl _)
theorem pos_nz2 {x : Int32} (h : 0 < x) : ¬ x = 0 := by
  intro e
  rw [e] at h
  exact Int32.lt_irrefl h
theorem N_inc (k : Nat) : N k + 1 = N (k + 1) := N_add k 1
theorem up_eq {σ : sg_S} {q k : Nat} {v : Int32} : sg_up σ q k v q k = v := by simp [sg_up]
theorem up_ne {σ : sg_S} {q k q' k' : Nat} {v : Int32} (h : ¬ (q' = q ∧ k' = k)) : sg_up σ q k v q' k' = σ q' k' := by simp only [sg_up, if_neg h]
