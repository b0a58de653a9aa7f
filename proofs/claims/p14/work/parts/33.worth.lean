/-! WHAT BALLS ARE WORTH, in Nats -/
def wN (T : Nat → Nat) (b w : Nat) : Nat := if w = 10 then 0 else 30 * T (5 * w + b / 30) + (b % 30) * (T (5 * w + b / 30 + 1) - T (5 * w + b / 30))
/-- a table that can be -/
def TabOK (T : Nat → Nat) : Prop :=
  (∀ w, w < 10 → T (5 * w) = 0 ∧ 1 ≤ T (5 * w + 1) ∧ T (5 * w + 1) ≤ T (5 * w + 2) ∧ T (5 * w + 2) ≤ T (5 * w + 3) ∧ T (5 * w + 3) ≤ T (5 * w + 4) ∧ T (5 * w + 4) ≤ 1000) ∧ ∀ w, w < 9 → ∀ k, k < 5 → T (5 * (w + 1) + k) ≤ T (5 * w + k)
theorem Tab_up {T : Nat → Nat} (h : TabOK T) {w k : Nat} (hw : w < 10) (hk : k < 4) : T (5 * w + k) ≤ T (5 * w + k + 1) := by
  obtain ⟨h0, h1, h2, h3, h4, h5⟩ := h.1 w hw
  rcases (show k = 0 ∨ k = 1 ∨ k = 2 ∨ k = 3 by omega) with rfl | rfl | rfl | rfl
  · rw [Nat.add_zero, h0]; exact Nat.zero_le _
  · exact h2
  · exact h3
  · exact h4
theorem Tab_top {T : Nat → Nat} (h : TabOK T) {w k : Nat} (hw : w < 10) (hk : k < 5) : T (5 * w + k) ≤ T (5 * w + 4) := by
  obtain ⟨h0, h1, h2, h3, h4, h5⟩ := h.1 w hw
  rcases (show k = 0 ∨ k = 1 ∨ k = 2 ∨ k = 3 ∨ k = 4 by omega) with rfl | rfl | rfl | rfl | rfl
  · rw [Nat.add_zero, h0]; exact Nat.zero_le _
  all_goals omega
theorem Tab_1000 {T : Nat → Nat} (h : TabOK T) {w k : Nat} (hw : w < 10) (hk : k < 5) : T (5 * w + k) ≤ 1000 :=
  Nat.le_trans (Tab_top h hw hk) (h.1 w hw).2.2.2.2.2
theorem Tab_all {T : Nat → Nat} (h : TabOK T) {k : Nat} (hk : k < 50) : T k ≤ 1000 := by
  have e : k = 5 * (k / 5) + k % 5 := by omega
  rw [e]
  exact Tab_1000 h (by omega) (by omega)
theorem Tab_down {T : Nat → Nat} (h : TabOK T) {w k : Nat} (hw : w < 9) (hk : k < 5) : T (5 * (w + 1) + k) ≤ T (5 * w + k) := h.2 w hw k hk
theorem Tab_full {T : Nat → Nat} (h : TabOK T) : 1 ≤ T 4 := by
  obtain ⟨h0, h1, h2, h3, h4, h5⟩ := h.1 0 (by decide)
  have h2 : T 1 ≤ T 2 := h2
  have h3 : T 2 ≤ T 3 := h3
  have h4 : T 3 ≤ T 4 := h4
  have h1 : 1 ≤ T 1 := h1
  omega
theorem lin_eq {x y r : Nat} (hxy : x ≤ y) (hr : r ≤ 30) : 30 * x + r * (y - x) = (30 - r) * x + r * y := by
  obtain ⟨d, rfl⟩ := Nat.exists_eq_add_of_le hxy
  obtain ⟨e, he⟩ := Nat.exists_eq_add_of_le hr
  have he2 : 30 - r = e := by omega
  rw [Nat.add_sub_cancel_left, he2, Nat.mul_add]
  have h1 : (r + e) * x = r * x + e * x := Nat.add_mul r e x
  rw [← he] at h1
  omega
theorem wN_le {T : Nat → Nat} (h : TabOK T) {b w : Nat} (hb : b ≤ 120) (hw : w ≤ 10) : wN T b w ≤ 30000 := by
  unfold wN
  by_cases e : w = 10
  · rw [if_pos e]; exact Nat.zero_le _
  rw [if_neg e]
  by_cases hk : b / 30 < 4
  · have h1 := Tab_up h (w := w) (k := b / 30) (by omega) hk
    have h2 := Tab_1000 h (w := w) (k := b / 30 + 1) (by omega) (by omega)
    have h3 : (b % 30) * (T (5 * w + b / 30 + 1) - T (5 * w + b / 30)) ≤ 30 * (T (5 * w + b / 30 + 1) - T (5 * w + b / 30)) := Nat.mul_le_mul_right _ (by omega)
    rw [← Nat.add_assoc] at h2
    omega
  · have hb4 : b / 30 = 4 := by omega
    have hr : b % 30 = 0 := by omega
    have h2 := Tab_1000 h (w := w) (k := 4) (by omega) (by omega)
    rw [hb4, hr, Nat.zero_mul]
    omega
theorem wN_zero {T : Nat → Nat} (h : TabOK T) {w : Nat} (hw : w ≤ 10) : wN T 0 w = 0 := by
  unfold wN
  by_cases e : w = 10
  · rw [if_pos e]
  rw [if_neg e]
  have h0 := (h.1 w (by omega)).1
  simp [h0]
theorem wN_step {T : Nat → Nat} (h : TabOK T) {b w : Nat} (hb : b < 120) (hw : w ≤ 10) : wN T b w ≤ wN T (b + 1) w := by
  unfold wN
  by_cases e : w = 10
  · rw [if_pos e, if_pos e]; exact Nat.le_refl _
  rw [if_neg e, if_neg e]
  have h1 := Tab_up h (w := w) (k := b / 30) (by omega) (by omega)
  by_cases hr : b % 30 = 29
  · have e1 : (b + 1) / 30 = b / 30 + 1 := by omega
    have e2 : (b + 1) % 30 = 0 := by omega
    rw [e1, e2, hr, Nat.zero_mul, ← Nat.add_assoc]
    omega
  · have e1 : (b + 1) / 30 = b / 30 := by omega
    have e2 : (b + 1) % 30 = b % 30 + 1 := by omega
    rw [e1, e2, Nat.add_mul]
    omega
theorem wN_mono {T : Nat → Nat} (h : TabOK T) {w : Nat} (hw : w ≤ 10) : ∀ (d b : Nat), b + d ≤ 120 → wN T b w ≤ wN T (b + d) w := by
  intro d
  induction d with
  | zero => intro b _; exact Nat.le_refl _
  | succ d ih =>
    intro b hb
    exact Nat.le_trans (ih b (by omega)) (wN_step h (by omega) hw)
theorem wN_mono' {T : Nat → Nat} (h : TabOK T) {w a b : Nat} (hw : w ≤ 10) (hab : a ≤ b) (hb : b ≤ 120) : wN T a w ≤ wN T b w := by
  obtain ⟨d, rfl⟩ := Nat.exists_eq_add_of_le hab
  exact wN_mono h hw d a hb
theorem wN_wicket {T : Nat → Nat} (h : TabOK T) {b w : Nat} (hb : b ≤ 120) (hw : w < 10) : wN T b (w + 1) ≤ wN T b w := by
  unfold wN
  by_cases e : w + 1 = 10
  · rw [if_pos e]; exact Nat.zero_le _
  rw [if_neg e, if_neg (by omega)]
  by_cases hk : b / 30 < 4
  · have h1 := Tab_up h (w := w) (k := b / 30) (by omega) hk
    have h1' := Tab_up h (w := w + 1) (k := b / 30) (by omega) hk
    have h2 := Tab_down h (w := w) (k := b / 30) (by omega) (by omega)
    have h3 := Tab_down h (w := w) (k := b / 30 + 1) (by omega) (by omega)
    rw [lin_eq h1 (by omega), lin_eq h1' (by omega)]
    rw [← Nat.add_assoc, ← Nat.add_assoc] at h3
    exact Nat.add_le_add (Nat.mul_le_mul_left _ h2) (Nat.mul_le_mul_left _ h3)
  · have hb4 : b / 30 = 4 := by omega
    have hr : b % 30 = 0 := by omega
    have h2 := Tab_down h (w := w) (k := 4) (by omega) (by omega)
    rw [hb4, hr, Nat.zero_mul, Nat.zero_mul]
    omega
/-- what the tables in the state say -/
def TabAt (σ : sg_S) (q : Nat) (T : Nat → Nat) : Prop := ∀ k, k < 50 → σ q k = N (T k)
theorem ix_w {b w : Nat} (hb : b ≤ 120) (hw : w < 10) : 5 * N w + N b / 30 = N (5 * w + b / 30) := by
  rw [show (5 : Int32) = N 5 from rfl, show (30 : Int32) = N 30 from rfl, N_div (by omega) (by decide), N_mul, N_add]
theorem rm30 {b : Nat} (hb : b ≤ 120) : rm (N b) 30 = N (b % 30) := N_rm (b := 30) (by omega) (by decide)
theorem wv_eq {σ : sg_S} {q : Nat} {T : Nat → Nat} (hT : TabAt σ q T) (h : TabOK T) {b w : Nat} (hb : b ≤ 120) (hw : w < 10) :
    (30 * σ q (ni (5 * N w + N b / 30)) + rm (N b) 30 * (σ q (ni (5 * N w + N b / 30 + 1)) - σ q (ni (5 * N w + N b / 30))) = N (wN T b w) ∨ b % 30 = 0) ∧ (b % 30 = 0 → 30 * σ q (ni (5 * N w + N b / 30)) = N (wN T b w)) := by
  rw [ix_w hb hw, rm30 hb, N_inc, ni_N (by omega), ni_N (by omega), hT _ (by omega)]
  refine ⟨?_, fun hr => ?_⟩
  · by_cases hr : b % 30 = 0
    · exact Or.inr hr
    refine Or.inl ?_
    have hk : b / 30 < 4 := by omega
    have h1 := Tab_up h (w := w) (k := b / 30) (by omega) hk
    rw [hT _ (by omega), show (30 : Int32) = N 30 from rfl, N_sub h1, N_mul, N_mul, N_add]
    unfold wN
    rw [if_neg (by omega)]
  · rw [show (30 : Int32) = N 30 from rfl, N_mul]
    unfold wN
    rw [if_neg (by omega), hr, Nat.zero_mul, Nat.add_zero]
theorem worth5 {σ : sg_S} {T : Nat → Nat} (hT : TabAt σ 37 T) (h : TabOK T) {b w : Nat} (hb : b ≤ 120) (hw : w ≤ 10) : v_X5_worthOf σ (N b) (N w) = N (wN T b w) := by
  unfold v_X5_worthOf
  by_cases e : w = 10
  · subst e
    rw [if_neg (fun h => h rfl)]
    unfold wN
    rw [if_pos rfl]
    rfl
  have e' : ¬ N w = 10 := by
    show ¬ N w = N 10
    rw [N_eq (by omega) (by decide)]
    exact e
  rw [if_pos e']
  obtain ⟨g1, g2⟩ := wv_eq hT h hb (show w < 10 by omega)
  by_cases hr : b % 30 = 0
  · rw [if_neg (by rw [rm30 hb, hr]; exact fun h => h rfl)]
    exact g2 hr
  · rw [if_pos (by
      rw [rm30 hb]
      show ¬ N (b % 30) = N 0
      rw [N_eq (by omega) (by decide)]
      exact hr)]
    rcases g1 with g1 | g1
    · exact g1
    · exact absurd g1 hr
theorem worth2 {σ : sg_S} {T : Nat → Nat} (hT : TabAt σ 2 T) (h : TabOK T) {b w : Nat} (hb : b ≤ 120) (hw : w ≤ 10) : v_X2_worthOf σ (N b) (N w) = N (wN T b w) := by
  unfold v_X2_worthOf
  by_cases hb0 : b = 0
  · subst hb0
    rw [if_pos (by decide), wN_zero h hw]
    rfl
  rw [if_neg (by
    show ¬ N b ≤ N 0
    rw [N_le (by omega) (by decide)]
    omega), if_neg (by
    show ¬ N 120 < N b
    rw [N_lt (by decide) (by omega)]
    omega), if_neg (N_nn (by omega))]
  by_cases e : w = 10
  · subst e
    rw [if_neg (by decide)]
    unfold wN
    rw [if_pos rfl]
    rfl
  rw [if_pos (by
    show N w < N 10
    rw [N_lt (by omega) (by decide)]
    omega)]
  obtain ⟨g1, g2⟩ := wv_eq hT h hb (show w < 10 by omega)
  by_cases hr : b % 30 = 0
  · rw [if_neg (by rw [rm30 hb, hr]; exact fun h => h rfl), rm30 hb, hr, Int32.mul_zero, Int32.add_zero]
    exact g2 hr
  · rw [if_pos (by
      rw [rm30 hb]
      show ¬ N (b % 30) = N 0
      rw [N_eq (by omega) (by decide)]
      exact hr)]
    rcases g1 with g1 | g1
    · exact g1
    · exact absurd g1 hr
theorem pworth5 {b w : Nat} (hb : b ≤ 120) (hw : w ≤ 10) : p_X5_worthOf (N b) (N w) := by
  intro e
  have hw' : w < 10 := by
    have e : ¬ N w = N 10 := e
    rw [N_eq (by omega) (by decide)] at e
    omega
  exact ⟨wix0 hb hw', fun hr => ⟨wix1 hb hw' hr, wix0 hb hw'⟩⟩
