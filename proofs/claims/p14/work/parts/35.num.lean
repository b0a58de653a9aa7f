/-! THE MATCH IN NATS -/
def WL (T : Nat → Nat) (E : Nat → Nat) : Nat := wN T (6 * E 3 - E 2) (E 1)
def tgt (T : Nat → Nat) (mean S P Q : Nat) : Nat := if Q < P then S * Q / P + 1 else S + mean * (Q - P) / (30 * T 4) + 1
def SetOK (S : Nat → Nat) : Prop := 1 ≤ S 0 ∧ S 0 ≤ 20 ∧ 1 ≤ S 1 ∧ S 1 ≤ 400 ∧ 1 ≤ S 2 ∧ S 2 ≤ 20 ∧ S 3 + S 4 ≤ 20
def SetAt (σ : sg_S) (q : Nat) (S : Nat → Nat) : Prop := ∀ k, k < 5 → σ q k = N (S k)
def InnOK (T : Nat → Nat) (k : Nat) (E : Nat → Nat) : Prop := 1 ≤ E 3 ∧ E 3 ≤ 20 ∧ E 2 ≤ 6 * E 3 ∧ E 1 ≤ 10 ∧ E 5 + E 3 ≤ 20 ∧ E 0 ≤ 6 * k ∧ E 6 ≤ 1 ∧ WL T E ≤ E 7 ∧ E 7 ≤ 30000 ∧ E 8 = (if E 6 = 1 then WL T E else 0)
def Live (E : Nat → Nat) : Prop := E 2 < 6 * E 3 ∧ E 1 < 10 ∧ E 6 = 0
def Fresh (T : Nat → Nat) (E : Nat → Nat) : Prop := E 0 = 0 ∧ E 1 = 0 ∧ E 2 = 0 ∧ E 4 = 0 ∧ E 5 = 0 ∧ E 7 = wN T (6 * E 3) 0
def pd (D : Nat → Nat → Nat) (i : Nat) (E : Nat → Nat) : Nat → Nat → Nat := fun j => if j = i then E else D j
theorem pd_eq {D : Nat → Nat → Nat} {i : Nat} {E : Nat → Nat} : pd D i E i = E := by simp [pd]
theorem pd_ne {D : Nat → Nat → Nat} {i j : Nat} {E : Nat → Nat} (h : ¬ j = i) : pd D i E j = D j := by simp only [pd, if_neg h]
def OK (T : Nat → Nat) (mean k now tch : Nat) (D : Nat → Nat → Nat) : Prop := now ≤ 2 ∧ tch ≤ 1 ∧ (now = 0 → tch = 0) ∧ (∀ j, j < 2 → InnOK T k (D j)) ∧ (∀ j, j < 2 → now ≤ j → Live (D j)) ∧ ((now = 0 ∨ now = 1 ∧ tch = 0) → Fresh T (D 1)) ∧ (now = 1 → 0 < D 0 7 - D 0 8 → D 1 0 < tgt T mean (D 0 0) (D 0 7 - D 0 8) (D 1 7))
def ended (T : Nat → Nat) (mean i : Nat) (D : Nat → Nat → Nat) : Prop := D i 6 = 1 ∨ D i 2 = 6 * D i 3 ∨ D i 1 = 10 ∨ (i = 1 ∧ 0 < D 0 7 - D 0 8 ∧ tgt T mean (D 0 0) (D 0 7 - D 0 8) (D 1 7) ≤ D 1 0)
theorem tgt_pos (T : Nat → Nat) (mean S P Q : Nat) : 0 < tgt T mean S P Q := by
  unfold tgt
  split <;> exact Nat.succ_pos _
theorem tgt_le {T : Nat → Nat} (hT : TabOK T) {mean S P Q : Nat} (hm : mean ≤ 400) (hP : 0 < P) (hQ : Q ≤ 30000) (hS : S ≤ 100000) : tgt T mean S P Q ≤ 600000 := by
  unfold tgt
  split
  · rename_i h
    have h1 : S * Q / P ≤ S := by
      have h2 : S * Q ≤ S * P := Nat.mul_le_mul_left _ (by omega)
      have h3 : S * Q / P ≤ S * P / P := Nat.div_le_div_right h2
      rw [Nat.mul_div_cancel _ hP] at h3
      exact h3
    omega
  · have h4 := Tab_full hT
    have h1 : mean * (Q - P) ≤ 400 * 30000 := Nat.mul_le_mul hm (by omega)
    have h2 : mean * (Q - P) / (30 * T 4) ≤ mean * (Q - P) / 30 := Nat.div_le_div_left (by omega) (by decide)
    have h3 : mean * (Q - P) / 30 ≤ 400000 := by omega
    omega
section Vals
variable {σ : sg_S} {T S : Nat → Nat} {i : Nat} {E : Nat → Nat}
theorem left_eq (hi : i < 2) (hP : RPic σ i E) (hb : E 2 ≤ 6 * E 3) : v_X5_left σ (N i) = N (6 * E 3 - E 2) := by
  unfold v_X5_left
  rw [ni_N (by omega), hP.2.2.1, hP.2.2.2.1, show (6 : Int32) = N 6 from rfl, N_mul, N_sub hb]
theorem pleft_eq (hi : i < 2) : p_X5_left (N i) := ⟨ix_N hi (by decide), ix_N hi (by decide)⟩
theorem leftWorth_eq (hi : i < 2) (hP : RPic σ i E) (hT : TabAt σ 37 T) (hK : TabOK T) (hb : E 2 ≤ 6 * E 3) (h3 : E 3 ≤ 20) (hw : E 1 ≤ 10) : v_X5_leftWorth σ (N i) = N (WL T E) := by
  unfold v_X5_leftWorth
  rw [left_eq hi hP hb, ni_N (by omega), hP.2.1, worth5 hT hK (by omega) hw]
  rfl
theorem pleftWorth_eq (hi : i < 2) (hP : RPic σ i E) (hb : E 2 ≤ 6 * E 3) (h3 : E 3 ≤ 20) (hw : E 1 ≤ 10) : p_X5_leftWorth σ (N i) := by
  refine ⟨pleft_eq hi, ix_N hi (by decide), ?_⟩
  rw [left_eq hi hP hb, ni_N (by omega), hP.2.1]
  exact pworth5 (by omega) hw
theorem takes_eq {n : Nat} (hi : i < 2) (hP : RPic σ i E) (hT : TabAt σ 37 T) (hK : TabOK T) (hb : E 2 ≤ 6 * n) (hn : n ≤ E 3) (h3 : E 3 ≤ 20) (hw : E 1 ≤ 10) : v_X5_takes σ (N i) (N n) = N (WL T E - wN T (6 * n - E 2) (E 1)) := by
  unfold v_X5_takes
  rw [leftWorth_eq hi hP hT hK (by omega) h3 hw, ni_N (by omega), hP.2.1, hP.2.2.1, show (6 : Int32) = N 6 from rfl, N_mul, N_sub hb, worth5 hT hK (by omega) hw, N_sub (show wN T (6 * n - E 2) (E 1) ≤ WL T E from wN_mono' hK hw (by omega) (by omega))]
theorem ptakes_eq {n : Nat} (hi : i < 2) (hP : RPic σ i E) (hb : E 2 ≤ 6 * n) (hn : n ≤ E 3) (h3 : E 3 ≤ 20) (hw : E 1 ≤ 10) : p_X5_takes σ (N i) (N n) := by
  refine ⟨pleftWorth_eq hi hP (by omega) h3 hw, ix_N hi (by decide), ix_N hi (by decide), ?_⟩
  rw [ni_N (by omega), hP.2.1, hP.2.2.1, show (6 : Int32) = N 6 from rfl, N_mul, N_sub hb]
  exact pworth5 (by omega) hw
theorem full_eq (hT : TabAt σ 37 T) : v_X5_full σ = N (30 * T 4) := by
  unfold v_X5_full
  rw [hT 4 (by decide), show (30 : Int32) = N 30 from rfl, N_mul]
theorem N_nz {a : Nat} (h : 0 < a) (h2 : a < 2147483648) : ¬ N a = 0 := by
  show ¬ N a = N 0
  rw [N_eq h2 (by decide)]
  omega
theorem full_nz (hT : TabAt σ 37 T) (hK : TabOK T) : ¬ v_X5_full σ = 0 := by
  rw [full_eq hT]
  have h1 := Tab_full hK
  have h2 := Tab_all hK (k := 4) (by decide)
  exact N_nz (by omega) (by omega)
theorem ptarget {P : Nat} {x0 x1 : Int32} (hT : TabAt σ 37 T) (hK : TabOK T) (hP : σ 45 0 = N P) (h0 : 0 < P) (h1 : P ≤ 30000) : p_X5_targetOf σ x0 x1 := by
  refine ⟨fun _ => full_nz hT hK, fun _ => ?_⟩
  rw [hP]
  exact N_nz h0 (by omega)
theorem target_eq {P Q R : Nat} (hT : TabAt σ 37 T) (hK : TabOK T) (hS : SetAt σ 36 S) (hSK : SetOK S) (hP : σ 45 0 = N P) (h0 : 0 < P) (h1 : P ≤ 30000) (hQ : Q ≤ 30000) (hR : R ≤ 10000) : v_X5_targetOf σ (N R) (N Q) = N (tgt T (S 1) R P Q) := by
  unfold v_X5_targetOf tgt
  have hf := Tab_full hK
  have hf2 := Tab_all hK (k := 4) (by decide)
  rw [hP, full_eq hT, hS 1 (by decide)]
  by_cases h : P ≤ Q
  · rw [if_pos ((N_le (by omega) (by omega)).mpr h), if_neg (by omega)]
    have h2 : S 1 * (Q - P) ≤ 400 * 30000 := Nat.mul_le_mul hSK.2.2.2.1 (by omega)
    rw [N_sub h, N_mul, N_div (by omega) (by omega), N_add, N_inc]
  · rw [if_neg (fun z => h ((N_le (by omega) (by omega)).mp z)), if_pos (by omega)]
    have h2 : R * Q ≤ 10000 * 30000 := Nat.mul_le_mul hR hQ
    rw [N_mul, N_div (by omega) (by omega), N_inc]
theorem second_eq (hP : RPic σ 1 E) (h8 : E 8 ≤ E 7) : v_X5_partOfSecond σ = N (E 7) := by
  unfold v_X5_partOfSecond
  rw [hP.2.2.2.2.2.2.2.1, hP.2.2.2.2.2.2.2.2, N_add, Nat.sub_add_cancel h8]
end Vals
theorem InnOK_8 {T : Nat → Nat} {k : Nat} {E : Nat → Nat} (h : InnOK T k E) : E 8 ≤ E 7 := by
  obtain ⟨h1, h2, h3, h4, h5, h6, h7, h8, h9, h10⟩ := h
  rw [h10]
  split <;> omega
/-! the tables, the settings, the numbers: all that a state of the reference shows -/
def RefAt (σ : sg_S) (T S : Nat → Nat) (now tch : Nat) (D : Nat → Nat → Nat) : Prop := TabAt σ 37 T ∧ TabOK T ∧ SetAt σ 36 S ∧ SetOK S ∧ σ 35 23 = N now ∧ σ 35 24 = N tch ∧ RPic σ 0 (D 0) ∧ RPic σ 1 (D 1)
theorem RefAt.pic {σ : sg_S} {T S : Nat → Nat} {now tch : Nat} {D : Nat → Nat → Nat} (h : RefAt σ T S now tch D) {i : Nat} (hi : i < 2) : RPic σ i (D i) := by
  rcases (show i = 0 ∨ i = 1 by omega) with rfl | rfl
  · exact h.2.2.2.2.2.2.1
  · exact h.2.2.2.2.2.2.2
theorem theTarget_eq {σ : sg_S} {T S : Nat → Nat} {now tch k : Nat} {D : Nat → Nat → Nat} (h : RefAt σ T S now tch D) (hk : k ≤ 401) (h0 : InnOK T k (D 0)) (h1 : InnOK T k (D 1)) (hp : 0 < D 0 7 - D 0 8) : v_X5_theTarget σ = N (tgt T (S 1) (D 0 0) (D 0 7 - D 0 8) (D 1 7)) := by
  unfold v_X5_theTarget
  rw [second_eq h.2.2.2.2.2.2.2 (InnOK_8 h1), (h.pic (i := 0) (by decide)).1]
  obtain ⟨a1, a2, a3, a4, a5, a6, a7, a8, a9, a10⟩ := h0
  obtain ⟨b1, b2, b3, b4, b5, b6, b7, b8, b9, b10⟩ := h1
  exact target_eq h.1 h.2.1 h.2.2.1 h.2.2.2.1 (h.pic (i := 0) (by decide)).2.2.2.2.2.2.2.1 hp (by omega) b9 (by omega)
theorem ptheTarget {σ : sg_S} {T S : Nat → Nat} {now tch k : Nat} {D : Nat → Nat → Nat} (h : RefAt σ T S now tch D) (h0 : InnOK T k (D 0)) (hp : 0 < D 0 7 - D 0 8) : p_X5_theTarget σ := by
  obtain ⟨a1, a2, a3, a4, a5, a6, a7, a8, a9, a10⟩ := h0
  exact ptarget h.1 h.2.1 (h.pic (i := 0) (by decide)).2.2.2.2.2.2.2.1 hp (by omega)
