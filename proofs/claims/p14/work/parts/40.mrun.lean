/-! THE MATCH AS A RUN OF EVENTS -/
abbrev mS : Type := Nat × Nat × (Nat → Nat → Nat)
noncomputable def nxt (T : Nat → Nat) (mean i : Nat) (D : Nat → Nat → Nat) : mS := (@ite Nat (ended T mean i D) (Classical.propDecidable _) (i + 1) i, i, D)
noncomputable def stp (T : Nat → Nat) (mean : Nat) (x : mS) (e n : Int32) : Option mS :=
  if e = 100 then (if (x.1 = 0 ∨ x.1 = 1 ∧ x.2.1 = 0) ∧ 1 ≤ ni n ∧ ni n < x.2.2 1 3 then some (x.1, x.2.1, pd x.2.2 1 (eD T (x.2.2 1) (ni n))) else none)
  else if 2 ≤ x.1 then none
  else if e = 99 then (if 1 ≤ ni n ∧ ni n < x.2.2 x.1 3 ∧ x.2.2 x.1 2 ≤ 6 * ni n then some (nxt T mean x.1 (pd x.2.2 x.1 (eC T (x.2.2 x.1) (ni n)))) else none)
  else if e = 47 then some (nxt T mean x.1 (pd x.2.2 x.1 (eS T (x.2.2 x.1))))
  else if e = 119 ∨ e = 110 then some (nxt T mean x.1 (pd x.2.2 x.1 (eE (x.2.2 x.1))))
  else if e = 120 then some (nxt T mean x.1 (pd x.2.2 x.1 (eX (x.2.2 x.1))))
  else if 48 ≤ ni e ∧ ni e ≤ 54 then some (nxt T mean x.1 (pd x.2.2 x.1 (eB (x.2.2 x.1) (ni e - 48))))
  else none
def bE (T S : Nat → Nat) : Nat → Nat := fun f => if f = 3 then S 0 else if f = 7 then wN T (6 * S 0) 0 else 0
def begn (T S : Nat → Nat) : mS := (0, 0, fun _ => bE T S)
noncomputable def mrun (T S : Nat → Nat) (ev nu : Nat → Int32) (k : Nat) : Option mS := Nat.rec (motive := fun _ => Option mS) (some (begn T S)) (fun j o => o.bind (fun x => stp T (S 1) x (ev j) (nu j))) k
theorem mrun_0 {T S : Nat → Nat} {ev nu : Nat → Int32} : mrun T S ev nu 0 = some (begn T S) := rfl
theorem mrun_s {T S : Nat → Nat} {ev nu : Nat → Int32} {k : Nat} : mrun T S ev nu (k + 1) = (mrun T S ev nu k).bind (fun x => stp T (S 1) x (ev k) (nu k)) := rfl
theorem mrun_some {T S : Nat → Nat} {ev nu : Nat → Int32} {k : Nat} {x : mS} (h : mrun T S ev nu k = some x) : mrun T S ev nu (k + 1) = stp T (S 1) x (ev k) (nu k) := by
  rw [mrun_s, h]
  rfl
theorem mrun_congr {T S : Nat → Nat} {ev nu ev' nu' : Nat → Int32} : ∀ k, (∀ j, j < k → ev j = ev' j ∧ nu j = nu' j) → mrun T S ev nu k = mrun T S ev' nu' k := by
  intro k
  induction k with
  | zero => intro _; rfl
  | succ k ih =>
    intro h
    obtain ⟨h1, h2⟩ := h k (by omega)
    rw [mrun_s, mrun_s, ih (fun j hj => h j (by omega)), h1, h2]
theorem mrun_pre {T S : Nat → Nat} {ev nu : Nat → Int32} {k : Nat} {x : mS} (h : mrun T S ev nu (k + 1) = some x) : ∃ y, mrun T S ev nu k = some y ∧ stp T (S 1) y (ev k) (nu k) = some x := by
  rw [mrun_s] at h
  cases hy : mrun T S ev nu k with
  | none => rw [hy] at h; cases h
  | some y => rw [hy] at h; exact ⟨y, rfl, h⟩
theorem mrun_le {T S : Nat → Nat} {ev nu : Nat → Int32} : ∀ (d k : Nat) {x : mS}, mrun T S ev nu (k + d) = some x → ∃ y, mrun T S ev nu k = some y := by
  intro d
  induction d with
  | zero => intro k x h; exact ⟨x, h⟩
  | succ d ih =>
    intro k x h
    obtain ⟨y, hy, -⟩ := mrun_pre (k := k + d) h
    exact ih k hy
theorem mrun_le' {T S : Nat → Nat} {ev nu : Nat → Int32} {j k : Nat} {x : mS} (h : mrun T S ev nu k = some x) (hj : j ≤ k) : ∃ y, mrun T S ev nu j = some y := by
  obtain ⟨d, rfl⟩ := Nat.exists_eq_add_of_le hj
  exact mrun_le d j h
theorem ni_pos {x : Int32} (h : 1 ≤ ni x) : N (ni x) = x := by
  refine N_ni (fun hx => ?_)
  rw [Int32.lt_iff_toInt_lt, show (0 : Int32).toInt = 0 from rfl] at hx
  have h0 : ni x = x.toInt.toNat := rfl
  omega
/-! the reference goes one event on -/
def RSame (σ σ' : sg_S) : Prop := ∀ q k, ¬ (41 ≤ q ∧ q ≤ 56) → ¬ (q = 35 ∧ (k = 23 ∨ k = 24)) → σ' q k = σ q k
theorem RSame.rf {σ : sg_S} : RSame σ σ := fun _ _ _ _ => rfl
theorem RSame.tr {σ σ1 σ2 : sg_S} (h : RSame σ σ1) (h' : RSame σ1 σ2) : RSame σ σ2 := fun q k a b => (h' q k a b).trans (h q k a b)
theorem RSame.row {σ σ' : sg_S} (h : RSame σ σ') {q : Nat} (h1 : ¬ (41 ≤ q ∧ q ≤ 56)) (h2 : ¬ q = 35) : σ' q = σ q := funext (fun k => h q k h1 (fun z => h2 z.1))
section Goes
variable {σ : sg_S} {T S : Nat → Nat} {k i t : Nat} {D : Nat → Nat → Nat}
theorem RSame_t {v : Int32} : RSame σ (sg_up σ 35 24 v) := fun q k _ h2 => up_ne (by omega)
theorem RSame_n {v : Int32} : RSame σ (sg_up σ 35 23 v) := fun q k _ h2 => up_ne (by omega)
theorem RSame_u {q0 k0 : Nat} {v : Int32} (h : 41 ≤ q0 ∧ q0 ≤ 56) : RSame σ (sg_up σ q0 k0 v) := fun q k h1 _ => up_ne (by omega)
theorem RSame_B {m : Nat} {E : Nat → Nat} : RSame σ (uB σ i m E) := fun q k h1 _ => by
  simp (disch := omega) only [uB, up_c]
theorem RSame_X {E : Nat → Nat} : RSame σ (uX σ i E) := fun q k h1 _ => by
  simp (disch := omega) only [uX, uB, up_c]
theorem RSame_C {n took : Nat} {E : Nat → Nat} : RSame σ (uC σ i n took E) := fun q k h1 _ => by
  simp (disch := omega) only [uC, up_c]
theorem RSame_S {took : Nat} {E : Nat → Nat} : RSame σ (uS σ i took E) := fun q k h1 _ => by
  simp (disch := omega) only [uS, up_c]
theorem RSame_E {E : Nat → Nat} : RSame σ (uE σ i E) := fun q k h1 _ => by
  simp (disch := omega) only [uE, up_c]
theorem RSame_D {n p : Nat} : RSame σ (uD σ n p) := fun q k h1 _ => by
  simp (disch := omega) only [uD, up_c]
theorem nxt_now {now' : Nat} {mean : Nat} (h1 : now' = i ∨ now' = i + 1) (h2 : now' = i + 1 ↔ ended T mean i D) : (nxt T mean i D).1 = now' := by
  unfold nxt
  dsimp only
  by_cases he : ended T mean i D
  · rw [if_pos he]; exact (h2.mpr he).symm
  · rw [if_neg he]
    rcases h1 with h1 | h1
    · exact h1.symm
    · exact absurd (h2.mp h1) he
theorem res_nxt {σ1 s : sg_S} {D' : Nat → Nat → Nat} (h : Res σ1 T S k i D' s) (hs : RSame σ σ1) : RefAt s T S (nxt T (S 1) i D').1 (nxt T (S 1) i D').2.1 (nxt T (S 1) i D').2.2 ∧ OK T (S 1) (k + 1) (nxt T (S 1) i D').1 (nxt T (S 1) i D').2.1 (nxt T (S 1) i D').2.2 ∧ RSame σ s := by
  obtain ⟨now', h1, h2, h3, h4, h5⟩ := h
  have e := nxt_now h1 h2
  rw [e]
  refine ⟨h4, h5, ?_⟩
  rw [h3]
  exact hs.tr RSame_n
theorem goes_ok {e n : Int32} (h : RefAt σ T S i t D) (hok : OK T (S 1) k i t D) (hk : k ≤ 400) {y : mS} (hs : stp T (S 1) (i, t, D) e n = some y) : RefAt (s_X5_goes σ e n) T S y.1 y.2.1 y.2.2 ∧ OK T (S 1) (k + 1) y.1 y.2.1 y.2.2 ∧ p_X5_goes σ e n ∧ RSame σ (s_X5_goes σ e n) := by
  unfold stp at hs
  dsimp only at hs
  by_cases he : e = 100
  · rw [if_pos he] at hs
    by_cases hc : (i = 0 ∨ i = 1 ∧ t = 0) ∧ 1 ≤ ni n ∧ ni n < D 1 3
    · rw [if_pos hc] at hs
      cases hs
      obtain ⟨hE, h1, h2⟩ := hc
      subst he
      obtain ⟨a1, a2, a3, a4⟩ := ev_d (n := ni n) h hok hk hE h1 h2
      rw [ni_pos h1] at a1 a4
      rw [a1]
      exact ⟨a2, a3, a4, RSame_D⟩
    · rw [if_neg hc] at hs; cases hs
  rw [if_neg he] at hs
  by_cases h2 : 2 ≤ i
  · rw [if_pos h2] at hs; cases hs
  rw [if_neg h2] at hs
  have hi : i < 2 := by omega
  by_cases h99 : e = 99
  · rw [if_pos h99] at hs
    by_cases hc : 1 ≤ ni n ∧ ni n < D i 3 ∧ D i 2 ≤ 6 * ni n
    · rw [if_pos hc] at hs
      cases hs
      obtain ⟨g1, g2, g3⟩ := hc
      subst h99
      obtain ⟨a1, a2⟩ := ev_cut (n := ni n) h hok hi hk g1 g2 g3
      rw [ni_pos g1] at a1 a2
      obtain ⟨b1, b2, b3⟩ := res_nxt a1 (RSame_t.tr RSame_C)
      exact ⟨b1, b2, a2, b3⟩
    · rw [if_neg hc] at hs; cases hs
  rw [if_neg h99] at hs
  by_cases h47 : e = 47
  · rw [if_pos h47] at hs
    cases hs
    subst h47
    obtain ⟨a1, a2⟩ := ev_close (n := n) h hok hi hk
    obtain ⟨b1, b2, b3⟩ := res_nxt a1 (RSame_t.tr RSame_S)
    exact ⟨b1, b2, a2, b3⟩
  rw [if_neg h47] at hs
  by_cases hE : e = 119 ∨ e = 110
  · rw [if_pos hE] at hs
    cases hs
    obtain ⟨a1, a2⟩ := ev_extra (n := n) h hok hi hk hE
    obtain ⟨b1, b2, b3⟩ := res_nxt a1 (RSame_t.tr RSame_E)
    exact ⟨b1, b2, a2, b3⟩
  rw [if_neg hE] at hs
  by_cases hX : e = 120
  · rw [if_pos hX] at hs
    cases hs
    subst hX
    obtain ⟨a1, a2⟩ := ev_x (n := n) h hok hi hk
    obtain ⟨b1, b2, b3⟩ := res_nxt a1 (RSame_t.tr RSame_X)
    exact ⟨b1, b2, a2, b3⟩
  rw [if_neg hX] at hs
  by_cases hB : 48 ≤ ni e ∧ ni e ≤ 54
  · rw [if_pos hB] at hs
    cases hs
    have ee : N (48 + (ni e - 48)) = e := by
      rw [show 48 + (ni e - 48) = ni e by omega]
      exact ni_pos (by omega)
    obtain ⟨a1, a2⟩ := ev_ball (n := n) (m := ni e - 48) h hok hi hk (by omega)
    rw [ee] at a1 a2
    obtain ⟨b1, b2, b3⟩ := res_nxt a1 (RSame_t.tr RSame_B)
    exact ⟨b1, b2, a2, b3⟩
  rw [if_neg hB] at hs
  cases hs
end Goes
/-! the reference begins -/
theorem up_ite {σ : sg_S} {q k q' k' : Nat} {v : Int32} : sg_up σ q k v q' k' = if q' = q ∧ k' = k then v else σ q' k' := rfl
theorem N14 {j : Nat} {L : Nat} (hj : j ≤ L) (hL : L < 2147483648) : (N L ≤ N j) ↔ j = L := by
  rw [N_le hL (by omega)]; omega
theorem begins131 : ∀ (n j : Nat) (σ : sg_S), j ≤ 14 → 14 - j < n → p_X5_begins_l131 n σ (N j) ∧ ∀ q k, s_X5_begins_l131 n σ (N j) q k = if q = 56 ∧ j ≤ k ∧ k < 14 then 0 else if q = 35 ∧ (k = 23 ∨ k = 24) then 0 else σ q k := by
  intro n
  induction n with
  | zero => intro j σ _ hn; omega
  | succ n ih =>
    intro j σ hj hn
    by_cases e : j = 14
    · have hc : (14 : Int32) ≤ N j := (N14 (L := 14) hj (by decide)).mpr e
      refine ⟨fun z => absurd hc z, fun q k => ?_⟩
      show s_X5_begins_b131 (s_X5_begins_l131 n) σ (N j) q k = _
      unfold s_X5_begins_b131 t_X5_begins_0
      rw [if_pos hc, up_ite, up_ite]
      repeat' split
      all_goals first | rfl | omega
    · have hc : ¬ (14 : Int32) ≤ N j := fun z => e ((N14 (L := 14) hj (by decide)).mp z)
      obtain ⟨i1, i2⟩ := ih (j + 1) (sg_up σ 56 (ni (N j)) 0) (by omega) (by omega)
      refine ⟨fun _ => ⟨ix_N (by omega) (by decide), by rw [N_inc]; exact i1⟩, fun q k => ?_⟩
      show s_X5_begins_b131 (s_X5_begins_l131 n) σ (N j) q k = _
      unfold s_X5_begins_b131
      rw [if_neg hc, N_inc, i2, ni_N (by omega), up_ite]
      repeat' split
      all_goals first | rfl | omega
theorem begins96 : ∀ (n j : Nat) (σ : sg_S), j ≤ 40 → 40 - j < n → p_X5_begins_l96 n σ (N j) ∧ ∀ q k, s_X5_begins_l96 n σ (N j) q k = if (q = 53 ∨ q = 54 ∨ q = 55) ∧ j ≤ k ∧ k < 40 then 0 else if q = 56 ∧ k < 14 then 0 else if q = 35 ∧ (k = 23 ∨ k = 24) then 0 else σ q k := by
  intro n
  induction n with
  | zero => intro j σ _ hn; omega
  | succ n ih =>
    intro j σ hj hn
    by_cases e : j = 40
    · have hc : (40 : Int32) ≤ N j := (N14 (L := 40) hj (by decide)).mpr e
      obtain ⟨i1, i2⟩ := begins131 600 0 σ (by decide) (by decide)
      refine ⟨⟨fun _ => i1, fun z => absurd hc z⟩, fun q k => ?_⟩
      show s_X5_begins_b96 (s_X5_begins_l96 n) σ (N j) q k = _
      unfold s_X5_begins_b96
      rw [if_pos hc]
      refine (i2 q k).trans ?_
      repeat' split
      all_goals first | rfl | omega
    · have hc : ¬ (40 : Int32) ≤ N j := fun z => e ((N14 (L := 40) hj (by decide)).mp z)
      have hx : ix (N j) 40 := ix_N (by omega) (by decide)
      obtain ⟨i1, i2⟩ := ih (j + 1) (t_X5_begins_2 σ (N j)) (by omega) (by omega)
      refine ⟨⟨fun z => absurd z hc, fun _ => ⟨hx, hx, hx, by rw [N_inc]; exact i1⟩⟩, fun q k => ?_⟩
      show s_X5_begins_b96 (s_X5_begins_l96 n) σ (N j) q k = _
      unfold s_X5_begins_b96
      rw [if_neg hc, N_inc, i2]
      unfold t_X5_begins_2 t_X5_begins_1
      rw [ni_N (by omega), up_ite, up_ite, up_ite]
      repeat' split
      all_goals first | rfl | omega
theorem begins_eq (σ : sg_S) : s_X5_begins σ = s_X5_begins_l96 600 (t_X5_begins_10 (t_X5_begins_10 σ 0) 1) 0 := by
  show s_X5_begins_b2 (s_X5_begins_l2 599) σ 0 = _
  unfold s_X5_begins_b2
  rw [if_neg (by decide)]
  show s_X5_begins_b2 (s_X5_begins_l2 598) (t_X5_begins_10 σ 0) 1 = _
  unfold s_X5_begins_b2
  rw [if_neg (by decide)]
  show s_X5_begins_b2 (s_X5_begins_l2 597) (t_X5_begins_10 (t_X5_begins_10 σ 0) 1) 2 = _
  unfold s_X5_begins_b2
  rw [if_pos (by decide)]
section Begins
variable {σ : sg_S} {T S : Nat → Nat}
theorem t10_at {i : Nat} (hi : i < 2) (hT : TabAt σ 37 T) (hK : TabOK T) (hS : SetAt σ 36 S) (hSK : SetOK S) : ∀ q k, t_X5_begins_10 σ (N i) q k = if 41 ≤ q ∧ q ≤ 49 ∧ k = i then (if q = 44 then N (S 0) else if q = 45 then N (wN T (6 * S 0) 0) else 0) else σ q k := by
  have h5 : t_X5_begins_5 σ (N i) = sg_up (sg_up (sg_up (sg_up σ 41 i 0) 42 i 0) 43 i 0) 44 i (N (S 0)) := by
    unfold t_X5_begins_5 t_X5_begins_4 t_X5_begins_3
    rw [ni_N (by omega)]
    simp (decide := true) only [up_c]
    rw [hS 0 (by decide)]
  have h6 : t_X5_begins_6 σ (N i) = sg_up (sg_up (sg_up (sg_up (sg_up σ 41 i 0) 42 i 0) 43 i 0) 44 i (N (S 0))) 45 i (N (wN T (6 * S 0) 0)) := by
    unfold t_X5_begins_6
    rw [h5, ni_N (by omega)]
    congr 1
    simp (decide := true) only [up_c]
    rw [hS 0 (by decide), show (6 : Int32) = N 6 from rfl, N_mul]
    exact worth5 (w := 0) (by
      intro k hk
      simp (decide := true) only [up_c]
      exact hT k hk) hK (by have := hSK.2.1; omega) (by decide)
  intro q k
  unfold t_X5_begins_10 t_X5_begins_9 t_X5_begins_8 t_X5_begins_7
  rw [h6, ni_N (by omega)]
  simp only [up_ite]
  repeat' split
  all_goals first | rfl | omega
theorem SetOK0 (hSK : SetOK S) : 6 * S 0 ≤ 120 := by have := hSK.2.1; omega
theorem begins_at (hT : TabAt σ 37 T) (hK : TabOK T) (hS : SetAt σ 36 S) (hSK : SetOK S) : p_X5_begins σ ∧ ∀ q k, s_X5_begins σ q k = if 53 ≤ q ∧ q ≤ 55 ∧ k < 40 then 0 else if q = 56 ∧ k < 14 then 0 else if q = 35 ∧ (k = 23 ∨ k = 24) then 0 else if 41 ≤ q ∧ q ≤ 49 ∧ k < 2 then (if q = 44 then N (S 0) else if q = 45 then N (wN T (6 * S 0) 0) else 0) else σ q k := by
  have a0 := t10_at (i := 0) (by decide) hT hK hS hSK
  have hT1 : TabAt (t_X5_begins_10 σ 0) 37 T := fun k hk => by
    rw [show t_X5_begins_10 σ 0 37 k = _ from a0 37 k, if_neg (by omega)]
    exact hT k hk
  have hS1 : SetAt (t_X5_begins_10 σ 0) 36 S := fun k hk => by
    rw [show t_X5_begins_10 σ 0 36 k = _ from a0 36 k, if_neg (by omega)]
    exact hS k hk
  have a1 := t10_at (i := 1) (by decide) hT1 hK hS1 hSK
  obtain ⟨b1, b2⟩ := begins96 600 0 (t_X5_begins_10 (t_X5_begins_10 σ 0) 1) (by decide) (by decide)
  refine ⟨?_, fun q k => ?_⟩
  · have pw : ∀ (τ : sg_S) (x : Int32), (t_X5_begins_5 τ x) 36 0 = τ 36 0 := by
      intro τ x
      unfold t_X5_begins_5 t_X5_begins_4 t_X5_begins_3
      simp (decide := true) only [up_c]
    have p0 : p_X5_worthOf (6 * N (S 0)) 0 := by
      rw [show (6 : Int32) = N 6 from rfl, N_mul]
      exact pworth5 (w := 0) (SetOK0 hSK) (by decide)
    have x0 : ix 0 2 := ix_N (a := 0) (by decide) (by decide)
    have x1 : ix 1 2 := ix_N (a := 1) (by decide) (by decide)
    refine ⟨fun z => absurd z (by decide), fun _ => ⟨x0, x0, x0, x0, ?_, x0, x0, x0, x0, x0, ?_⟩⟩
    · rw [pw, hS 0 (by decide)]; exact p0
    refine ⟨fun z => absurd z (by decide), fun _ => ⟨x1, x1, x1, x1, ?_, x1, x1, x1, x1, x1, ?_⟩⟩
    · rw [pw, hS1 0 (by decide)]; exact p0
    exact ⟨fun _ => b1, fun z => absurd (by decide) z⟩
  · rw [begins_eq]
    refine (b2 q k).trans ?_
    have e1 : t_X5_begins_10 (t_X5_begins_10 σ 0) 1 q k = _ := a1 q k
    rw [e1, show t_X5_begins_10 σ 0 q k = _ from a0 q k]
    repeat' split
    all_goals first | rfl | omega
theorem begn_OK (hK : TabOK T) (hSK : SetOK S) {mean : Nat} : OK T mean 0 0 0 (fun _ => bE T S) := by
  obtain ⟨s1, s2, s3, s4, s5, s6, s7⟩ := hSK
  have e0 : bE T S 0 = 0 := rfl
  have e1 : bE T S 1 = 0 := rfl
  have e2 : bE T S 2 = 0 := rfl
  have e3 : bE T S 3 = S 0 := rfl
  have e4 : bE T S 4 = 0 := rfl
  have e5 : bE T S 5 = 0 := rfl
  have e6 : bE T S 6 = 0 := rfl
  have e7 : bE T S 7 = wN T (6 * S 0) 0 := rfl
  have e8 : bE T S 8 = 0 := rfl
  have hF : Fresh T (bE T S) := ⟨e0, e1, e2, e4, e5, by rw [e3, e7]⟩
  have hI : InnOK T 0 (bE T S) := by
    unfold InnOK WL
    rw [e0, e1, e2, e3, e5, e6, e7, e8]
    refine ⟨s1, s2, by omega, by omega, by omega, by omega, by omega, Nat.le_refl _, wN_le hK (by omega) (by decide), ?_⟩
    rw [if_neg (by decide)]
  have hL : Live (bE T S) := ⟨by rw [e2, e3]; omega, by rw [e1]; decide, e6⟩
  exact ⟨by decide, by decide, fun _ => rfl, fun j _ => hI, fun j _ _ => hL, fun _ => hF, fun z => absurd z (by decide)⟩
theorem begins_ok (hT : TabAt σ 37 T) (hK : TabOK T) (hS : SetAt σ 36 S) (hSK : SetOK S) : p_X5_begins σ ∧ RefAt (s_X5_begins σ) T S 0 0 (fun _ => bE T S) ∧ OK T (S 1) 0 0 0 (fun _ => bE T S) ∧ RSame σ (s_X5_begins σ) := by
  obtain ⟨h1, h2⟩ := begins_at hT hK hS hSK
  have hP : ∀ i, i < 2 → RPic (s_X5_begins σ) i (bE T S) := by
    intro i hi
    unfold RPic
    rw [h2, h2, h2, h2, h2, h2, h2, h2, h2]
    simp (decide := true) only [if_pos, if_neg, hi, true_and, and_true, false_and, and_false, if_true, if_false, false_or, or_false, false_and]
    exact ⟨rfl, rfl, rfl, rfl, rfl, rfl, rfl, rfl, rfl⟩
  refine ⟨h1, ⟨fun k hk => ?_, hK, fun k hk => ?_, hSK, ?_, ?_, hP 0 (by decide), hP 1 (by decide)⟩, begn_OK hK hSK, fun q k a b => ?_⟩
  · rw [h2, if_neg (by omega), if_neg (by omega), if_neg (by omega), if_neg (by omega)]
    exact hT k hk
  · rw [h2, if_neg (by omega), if_neg (by omega), if_neg (by omega), if_neg (by omega)]
    exact hS k hk
  · rw [h2, if_neg (by omega), if_neg (by omega), if_pos (by omega)]; rfl
  · rw [h2, if_neg (by omega), if_neg (by omega), if_pos (by omega)]; rfl
  · rw [h2, if_neg (by omega), if_neg (by omega), if_neg (by omega), if_neg (by omega)]
end Begins
/-! the reference goes to an event -/
theorem goesTo6 {T S : Nat → Nat} {k : Nat} {y : mS} (hk : k ≤ 400) : ∀ (n j : Nat) (σ : sg_S) (x : mS), j ≤ k → k - j < n → RefAt σ T S x.1 x.2.1 x.2.2 → OK T (S 1) j x.1 x.2.1 x.2.2 → mrun T S (σ 39) (σ 40) j = some x → mrun T S (σ 39) (σ 40) k = some y → p_X5_goesTo_l6 n σ (N k) (N j) ∧ RefAt (s_X5_goesTo_l6 n σ (N k) (N j)) T S y.1 y.2.1 y.2.2 ∧ OK T (S 1) k y.1 y.2.1 y.2.2 ∧ RSame σ (s_X5_goesTo_l6 n σ (N k) (N j)) := by
  intro n
  induction n with
  | zero => intro j σ x _ hn; omega
  | succ n ih =>
    intro j σ x hj hn hR hO hx hy
    by_cases e : j = k
    · subst e
      have hc : N j ≤ N j := Int32.le_refl _
      have exy : x = y := Option.some.inj (hx.symm.trans hy)
      subst exy
      have es : s_X5_goesTo_l6 (n + 1) σ (N j) (N j) = σ := by
        show s_X5_goesTo_b6 (s_X5_goesTo_l6 n) σ (N j) (N j) = _
        unfold s_X5_goesTo_b6
        rw [if_pos hc]
      rw [es]
      exact ⟨fun z => absurd hc z, hR, hO, RSame.rf⟩
    · have hc : ¬ N k ≤ N j := by
        rw [N_le (by omega) (by omega)]; omega
      obtain ⟨z, hz⟩ := mrun_le' hy (j := j + 1) (by omega)
      have hst := hz
      rw [mrun_some hx] at hst
      obtain ⟨g1, g2, g3, g4⟩ := goes_ok (y := z) hR hO (by omega) (show stp T (S 1) (x.1, x.2.1, x.2.2) (σ 39 j) (σ 40 j) = some z from hst)
      have r39 := g4.row (q := 39) (by decide) (by decide)
      have r40 := g4.row (q := 40) (by decide) (by decide)
      obtain ⟨i1, i2, i3, i4⟩ := ih (j + 1) (s_X5_goes σ (σ 39 j) (σ 40 j)) z (by omega) (by omega) g1 g2 (by rw [r39, r40]; exact hz) (by rw [r39, r40]; exact hy)
      have es : s_X5_goesTo_l6 (n + 1) σ (N k) (N j) = s_X5_goesTo_l6 n (s_X5_goes σ (σ 39 j) (σ 40 j)) (N k) (N (j + 1)) := by
        show s_X5_goesTo_b6 (s_X5_goesTo_l6 n) σ (N k) (N j) = _
        unfold s_X5_goesTo_b6
        rw [if_neg hc, ni_N (by omega), N_inc]
      rw [es]
      refine ⟨fun _ => ?_, i2, i3, g4.tr i4⟩
      rw [ni_N (by omega), N_inc]
      exact ⟨ix_N (by omega) (by decide), ix_N (by omega) (by decide), g3, i1⟩
theorem goesTo_ok {σ : sg_S} {T S : Nat → Nat} {k : Nat} {y : mS} (hT : TabAt σ 37 T) (hK : TabOK T) (hS : SetAt σ 36 S) (hSK : SetOK S) (hk : k ≤ 400) (hy : mrun T S (σ 39) (σ 40) k = some y) : p_X5_goesTo σ (N k) ∧ RefAt (s_X5_goesTo σ (N k)) T S y.1 y.2.1 y.2.2 ∧ OK T (S 1) k y.1 y.2.1 y.2.2 ∧ RSame σ (s_X5_goesTo σ (N k)) := by
  obtain ⟨b1, b2, b3, b4⟩ := begins_ok hT hK hS hSK
  have r39 := b4.row (q := 39) (by decide) (by decide)
  have r40 := b4.row (q := 40) (by decide) (by decide)
  obtain ⟨g1, g2, g3, g4⟩ := goesTo6 hk 600 0 (s_X5_begins σ) (begn T S) (by omega) (by omega) b2 b3 rfl (by rw [r39, r40]; exact hy)
  exact ⟨⟨b1, g1⟩, g2, g3, b4.tr g4⟩
