/-! THE CLASS'S COURSE AS A RUN OF EVENTS -/
def CPic (σ : sg_S) (q : Nat) (E : Nat → Nat) : Prop := ∀ f, f < 9 → σ q f = N (E f)
def CAt (σ : sg_S) (c : Nat) (T S : Nat → Nat) (now tch : Nat) (D : Nat → Nat → Nat) : Prop := TabAt σ 2 T ∧ TabOK T ∧ SetAt σ 4 S ∧ SetOK S ∧ σ c 3 = N now ∧ σ c 4 = N (1 - tch) ∧ CPic σ (c + 1) (D 0) ∧ CPic σ (c + 7) (D 1)
def CSame (c : Nat) (σ σ' : sg_S) : Prop := ∀ q k, ¬ (c ≤ q ∧ q ≤ c + 12) → σ' q k = σ q k
theorem CSame.rf {c : Nat} {σ : sg_S} : CSame c σ σ := fun _ _ _ => rfl
theorem CSame.tr {c : Nat} {σ σ1 σ2 : sg_S} (h : CSame c σ σ1) (h' : CSame c σ1 σ2) : CSame c σ σ2 := fun q k a => (h' q k a).trans (h q k a)
theorem CSame.row {c : Nat} {σ σ' : sg_S} (h : CSame c σ σ') {q : Nat} (h1 : ¬ (c ≤ q ∧ q ≤ c + 12)) : σ' q = σ q := funext (fun k => h q k h1)
theorem CSame_u {c q0 k0 : Nat} {σ : sg_S} {v : Int32} (h : c ≤ q0 ∧ q0 ≤ c + 12) : CSame c σ (sg_up σ q0 k0 v) := fun q k h1 => up_ne (by omega)
theorem lt9 {f : Nat} (h : f < 9) : f = 0 ∨ f = 1 ∨ f = 2 ∨ f = 3 ∨ f = 4 ∨ f = 5 ∨ f = 6 ∨ f = 7 ∨ f = 8 := by omega
theorem g_nle {L a : Nat} (h : a < L) (hL : L < 2147483648) : ¬ N L ≤ N a := by rw [N_le hL (by omega)]; omega
theorem g_le {L a : Nat} (h : a ≤ L) (hL : L < 2147483648) : N a ≤ N L := by rw [N_le (by omega) hL]; exact h
theorem g_lt {L a : Nat} (h : a < L) (hL : L < 2147483648) : N a < N L := by rw [N_lt (by omega) hL]; exact h
theorem g_nlt {L a : Nat} (h : a ≤ L) (hL : L < 2147483648) : ¬ N L < N a := by rw [N_lt hL (by omega)]; omega
/-! an innings begins anew -/
theorem restart64 (q : Nat) : ∀ (n j : Nat) (σ : sg_S), j ≤ 7 → 7 - j < n → ∀ q' k, s_X1_restart_l64 q n σ (N j) q' k = if q' = q + 3 ∧ j ≤ k ∧ k < 7 then 0 else σ q' k := by
  intro n
  induction n with
  | zero => intro j σ _ hn; omega
  | succ n ih =>
    intro j σ hj hn q' k
    show s_X1_restart_b64 q (s_X1_restart_l64 q n) σ (N j) q' k = _
    unfold s_X1_restart_b64
    by_cases e : j = 7
    · have hc : (6 : Int32) < N j := by
        show N 6 < N j
        rw [N_lt (by decide) (by omega)]; omega
      rw [if_pos hc]
      repeat' split
      all_goals first | rfl | omega
    · have hc : ¬ (6 : Int32) < N j := by
        show ¬ N 6 < N j
        rw [N_lt (by decide) (by omega)]; omega
      rw [if_neg hc, N_inc, ih (j + 1) _ (by omega) (by omega), ni_N (by omega), up_ite]
      repeat' split
      all_goals first | rfl | omega
theorem restart43 (q : Nat) : ∀ (n j : Nat) (σ : sg_S), j ≤ 60 → 60 - j < n → ∀ q' k, s_X1_restart_l43 q n σ (N j) q' k = if q' = q + 1 ∧ j ≤ k ∧ k < 60 then 0 else if q' = q + 3 ∧ k < 7 then 0 else σ q' k := by
  intro n
  induction n with
  | zero => intro j σ _ hn; omega
  | succ n ih =>
    intro j σ hj hn q' k
    show s_X1_restart_b43 q (s_X1_restart_l43 q n) σ (N j) q' k = _
    unfold s_X1_restart_b43
    by_cases e : j = 60
    · have hc : (60 : Int32) ≤ N j := (N14 (L := 60) hj (by decide)).mpr e
      rw [if_pos hc]
      refine (restart64 q 600 0 σ (by decide) (by decide) q' k).trans ?_
      repeat' split
      all_goals first | rfl | omega
    · have hc : ¬ (60 : Int32) ≤ N j := fun z => e ((N14 (L := 60) hj (by decide)).mp z)
      rw [if_neg hc, N_inc, ih (j + 1) _ (by omega) (by omega), ni_N (by omega), up_ite]
      repeat' split
      all_goals first | rfl | omega
theorem restart_at (σ : sg_S) (q : Nat) (x0 x1 : Int32) : ∀ q' k, s_X1_restart σ q x0 x1 q' k = if q' = q ∧ k < 9 then (if k = 3 then x0 else if k = 7 then x1 else 0) else if q' = q + 1 ∧ k < 60 then 0 else if q' = q + 3 ∧ k < 7 then 0 else σ q' k := by
  intro q' k
  refine (restart43 q 600 0 (t_X1_restart_6 σ q x0 x1) (by decide) (by decide) q' k).trans ?_
  have e : t_X1_restart_6 σ q x0 x1 q' k = if q' = q ∧ k < 9 then (if k = 3 then x0 else if k = 7 then x1 else 0) else σ q' k := by
    unfold t_X1_restart_6 s_X1_beginWith t_X1_restart_5 t_X1_restart_4 t_X1_restart_3 t_X1_restart_2 t_X1_restart_1 t_X1_restart_0
    simp only [up_ite]
    repeat' split
    all_goals first | rfl | omega
  rw [e]
  repeat' split
  all_goals first | rfl | omega
section CBeg
variable {σ : sg_S} {c : Nat} {T S : Nat → Nat}
theorem setting_k {k : Nat} (hS : SetAt σ 4 S) (hk : k < 5) : v_X2_setting σ (N k) = N (S k) := by
  unfold v_X2_setting
  rw [if_neg (N_nn (by omega)), if_neg (by exact g_nle (L := 5) hk (by decide)), ni_N (by omega), hS k hk]
theorem overs_w {n : Nat} (hT : TabAt σ 2 T) (hK : TabOK T) (hn : n ≤ 20) : v_X2_worthOfOvers σ (N n) = N (wN T (6 * n) 0) := by
  unfold v_X2_worthOfOvers
  rw [show (6 : Int32) = N 6 from rfl, N_mul]
  exact worth2 (w := 0) hT hK (by omega) (by decide)
theorem crestart_at (hc : 5 ≤ c) (hT : TabAt σ 2 T) (hK : TabOK T) (hS : SetAt σ 4 S) (hSK : SetOK S) : ∀ q k, s_X0_restart σ c q k = if (q = c + 1 ∨ q = c + 7) ∧ k < 9 then N (bE T S k) else if q = c ∧ k = 3 then 0 else if q = c ∧ k = 4 then 1 else if (q = c + 2 ∨ q = c + 8) ∧ k < 60 then 0 else if (q = c + 4 ∨ q = c + 10) ∧ k < 7 then 0 else σ q k := by
  have h0 : v_X2_setting σ 0 = N (S 0) := setting_k (k := 0) hS (by decide)
  have h20 : S 0 ≤ 20 := hSK.2.1
  have hw0 : v_X2_worthOfOvers σ (N (S 0)) = N (wN T (6 * S 0) 0) := overs_w hT hK h20
  have e0 : t_X0_restart_0 σ c = s_X1_restart σ (c + 1) (N (S 0)) (N (wN T (6 * S 0) 0)) := by
    unfold t_X0_restart_0
    rw [h0, hw0]
  have hT1 : TabAt (t_X0_restart_0 σ c) 2 T := fun k hk => by
    rw [e0, restart_at, if_neg (by omega), if_neg (by omega), if_neg (by omega)]
    exact hT k hk
  have hw1 : v_X2_worthOfOvers (t_X0_restart_0 σ c) (N (S 0)) = N (wN T (6 * S 0) 0) := overs_w hT1 hK h20
  have e1 : t_X0_restart_1 σ c = s_X1_restart (s_X1_restart σ (c + 1) (N (S 0)) (N (wN T (6 * S 0) 0))) (c + 7) (N (S 0)) (N (wN T (6 * S 0) 0)) := by
    unfold t_X0_restart_1
    rw [h0, hw1, e0]
  have hbE : ∀ k, N (bE T S k) = if k = 3 then N (S 0) else if k = 7 then N (wN T (6 * S 0) 0) else 0 := by
    intro k
    unfold bE
    repeat' split
    all_goals rfl
  intro q k
  show t_X0_restart_2 σ c q k = _
  unfold t_X0_restart_2
  rw [e1, up_ite, up_ite, restart_at, restart_at, hbE]
  by_cases h3 : k = 3
  · subst h3
    repeat' split
    all_goals first | rfl | omega
  by_cases h7 : k = 7
  · subst h7
    repeat' split
    all_goals first | rfl | omega
  rw [if_neg h3, if_neg h7]
  repeat' split
  all_goals first | rfl | omega
theorem crestart_ok (hc : 5 ≤ c) (hT : TabAt σ 2 T) (hK : TabOK T) (hS : SetAt σ 4 S) (hSK : SetOK S) : CAt (s_X0_restart σ c) c T S 0 0 (fun _ => bE T S) ∧ CSame c σ (s_X0_restart σ c) := by
  have h := crestart_at hc hT hK hS hSK
  refine ⟨⟨fun k hk => ?_, hK, fun k hk => ?_, hSK, ?_, ?_, fun f hf => ?_, fun f hf => ?_⟩, fun q k hq => ?_⟩
  · rw [h, if_neg (by omega), if_neg (by omega), if_neg (by omega), if_neg (by omega), if_neg (by omega)]; exact hT k hk
  · rw [h, if_neg (by omega), if_neg (by omega), if_neg (by omega), if_neg (by omega), if_neg (by omega)]; exact hS k hk
  · rw [h, if_neg (by omega), if_pos (by omega)]; rfl
  · rw [h, if_neg (by omega), if_neg (by omega), if_pos (by omega)]; rfl
  · rw [h, if_pos (by omega)]
  · rw [h, if_pos (by omega)]
  · rw [h, if_neg (by omega), if_neg (by omega), if_neg (by omega), if_neg (by omega), if_neg (by omega)]
end CBeg
/-! each event, on an innings of the class -/
def cB (σ : sg_S) (q m : Nat) (E : Nat → Nat) : sg_S := sg_up (sg_up (sg_up (sg_up (sg_up σ (q + 3) m (σ (q + 3) m + 1)) (q + 1) (3 * (E 2 / 6) + 0) (σ (q + 1) (3 * (E 2 / 6) + 0) + N m)) (q + 1) (3 * (E 2 / 6) + 2) (σ (q + 1) (3 * (E 2 / 6) + 2) + 1)) q 0 (N (E 0 + m))) q 2 (N (E 2 + 1))
def cX (σ : sg_S) (q : Nat) (E : Nat → Nat) : sg_S := sg_up (sg_up (sg_up (cB (sg_up σ (q + 1) (3 * (E 2 / 6) + 1) (σ (q + 1) (3 * (E 2 / 6) + 1) + 1)) q 0 E) (q + 4) (E 1) (N (E 0))) (q + 5) (E 1) (N (E 2 + 1))) q 1 (N (E 1 + 1))
def cE (σ : sg_S) (q : Nat) (E : Nat → Nat) : sg_S := sg_up (sg_up (sg_up σ (q + 1) (3 * (E 2 / 6) + 0) (σ (q + 1) (3 * (E 2 / 6) + 0) + 1)) q 4 (N (E 4 + 1))) q 0 (N (E 0 + 1))
def cC (σ : sg_S) (q n took : Nat) (E : Nat → Nat) : sg_S := sg_up (sg_up (sg_up (sg_up (sg_up (sg_up (sg_up (sg_up σ (q + 2) (5 * E 5) (N (E 2))) (q + 2) (5 * E 5 + 1) (N (E 1))) (q + 2) (5 * E 5 + 2) (N (E 3))) (q + 2) (5 * E 5 + 3) (N n)) (q + 2) (5 * E 5 + 4) (N took)) q 5 (N (E 5 + 1))) q 3 (N n)) q 7 (N (E 7 - took))
def cS (σ : sg_S) (q took : Nat) : sg_S := sg_up (sg_up σ q 6 1) q 8 (N took)
def cD (σ : sg_S) (q n p : Nat) : sg_S := sg_up (sg_up σ q 3 (N n)) q 7 (N p)
section CUps
variable {σ : sg_S} {q : Nat} {E : Nat → Nat}
theorem addToOver_eq {w : Nat} {x1 : Int32} (hw : w < 3) (hb : σ q 2 = N (E 2)) (h120 : E 2 < 120) : s_X1_addToOver σ q (N w) x1 = sg_up σ (q + 1) (3 * (E 2 / 6) + w) (σ (q + 1) (3 * (E 2 / 6) + w) + x1) := by
  have e6 : N (E 2) / 6 = N (E 2 / 6) := N_div (b := 6) (by omega) (by decide)
  have e3 : 3 * N (E 2 / 6) + N w = N (3 * (E 2 / 6) + w) := by
    rw [show (3 : Int32) = N 3 from rfl, N_mul, N_add]
  unfold s_X1_addToOver t_X1_addToOver_0
  rw [hb, e6, if_neg (N_nn (by omega)), if_neg (by exact g_nle (L := 20) (by omega) (by decide)), if_neg (N_nn (by omega)), if_neg (by exact g_nle (L := 3) hw (by decide)), e3, ni_N (by omega)]
theorem addBall_eq {m : Nat} (hP : CPic σ q E) (hb : E 2 < 120) (hm : m ≤ 6) : s_X1_addBall σ q (N m) = cB σ q m E := by
  have p0 := hP 0 (by decide)
  have p2 := hP 2 (by decide)
  have h0 : t_X1_addBall_0 σ q (N m) = sg_up σ (q + 3) m (σ (q + 3) m + 1) := by
    unfold t_X1_addBall_0
    rw [ni_N (by omega)]
  have h1 : t_X1_addBall_1 σ q (N m) = sg_up (sg_up σ (q + 3) m (σ (q + 3) m + 1)) (q + 1) (3 * (E 2 / 6) + 0) (σ (q + 1) (3 * (E 2 / 6) + 0) + N m) := by
    unfold t_X1_addBall_1
    rw [h0]
    refine (addToOver_eq (w := 0) (E := E) (by decide) (by rw [up_c (by omega)]; exact p2) hb).trans ?_
    rw [up_c (by omega)]
  have h2 : t_X1_addBall_2 σ q (N m) = sg_up (sg_up (sg_up σ (q + 3) m (σ (q + 3) m + 1)) (q + 1) (3 * (E 2 / 6) + 0) (σ (q + 1) (3 * (E 2 / 6) + 0) + N m)) (q + 1) (3 * (E 2 / 6) + 2) (σ (q + 1) (3 * (E 2 / 6) + 2) + 1) := by
    unfold t_X1_addBall_2
    rw [h1]
    refine (addToOver_eq (w := 2) (E := E) (by decide) (by rw [up_c (by omega), up_c (by omega)]; exact p2) hb).trans ?_
    rw [up_k (by omega), up_c (by omega)]
  unfold s_X1_addBall
  rw [if_neg (N_nn (by omega)), if_pos (by exact g_le (L := 6) hm (by decide))]
  unfold t_X1_addBall_4 t_X1_addBall_3 cB
  rw [h2]
  simp (disch := omega) only [up_c, up_k, p0, p2, N_add, N_inc]
theorem addExtra_eq (hP : CPic σ q E) (hb : E 2 < 120) : s_X1_addExtra σ q = cE σ q E := by
  have p0 := hP 0 (by decide)
  have p2 := hP 2 (by decide)
  have p4 := hP 4 (by decide)
  have h1 : s_X1_addToOver σ q 0 1 = sg_up σ (q + 1) (3 * (E 2 / 6) + 0) (σ (q + 1) (3 * (E 2 / 6) + 0) + 1) := addToOver_eq (w := 0) (E := E) (by decide) p2 hb
  unfold s_X1_addExtra t_X1_addExtra_1 t_X1_addExtra_0 cE
  rw [h1]
  simp (disch := omega) only [up_c, up_k, p0, p4, N_inc]
theorem addWicket_eq (hP : CPic σ q E) (hb : E 2 < 120) (hw : E 1 < 10) : s_X1_addWicket σ q = cX σ q E := by
  have p0 := hP 0 (by decide)
  have p1 := hP 1 (by decide)
  have p2 := hP 2 (by decide)
  have h1 : s_X1_addToOver σ q 1 1 = sg_up σ (q + 1) (3 * (E 2 / 6) + 1) (σ (q + 1) (3 * (E 2 / 6) + 1) + 1) := addToOver_eq (w := 1) (E := E) (by decide) p2 hb
  have hP1 : CPic (sg_up σ (q + 1) (3 * (E 2 / 6) + 1) (σ (q + 1) (3 * (E 2 / 6) + 1) + 1)) q E := fun f hf => by
    rw [up_c (by omega)]; exact hP f hf
  have h2 : t_X1_addWicket_0 σ q = cB (sg_up σ (q + 1) (3 * (E 2 / 6) + 1) (σ (q + 1) (3 * (E 2 / 6) + 1) + 1)) q 0 E := by
    unfold t_X1_addWicket_0
    rw [h1]
    exact addBall_eq (m := 0) hP1 hb (by decide)
  have b1 : ∀ τ : sg_S, cB τ q 0 E q 1 = τ q 1 := fun τ => by
    unfold cB
    simp (disch := omega) only [up_c, up_k]
  have b0 : ∀ τ : sg_S, cB τ q 0 E q 0 = N (E 0) := fun τ => by
    unfold cB
    simp (disch := omega) only [up_c, up_k, up_eq, Nat.add_zero]
  have b2 : ∀ τ : sg_S, cB τ q 0 E q 2 = N (E 2 + 1) := fun τ => by
    unfold cB
    simp (disch := omega) only [up_c, up_k, up_eq]
  unfold s_X1_addWicket
  rw [p1, if_neg (N_nn (by omega)), if_pos (by exact g_lt (L := 10) hw (by decide))]
  unfold t_X1_addWicket_3 t_X1_addWicket_2 t_X1_addWicket_1 cX
  rw [h2]
  simp (disch := omega) only [up_c, b0, b1, b2, p1, N_inc]
  rw [ni_N (by omega)]
theorem addCut_eq {n took : Nat} (hP : CPic σ q E) (hc : E 5 < 19) (hle : took ≤ E 7) : s_X1_addCut σ q (N n) (N took) = cC σ q n took E := by
  have p1 := hP 1 (by decide)
  have p2 := hP 2 (by decide)
  have p3 := hP 3 (by decide)
  have p5 := hP 5 (by decide)
  have p7 := hP 7 (by decide)
  have e0 : 5 * N (E 5) = N (5 * E 5) := by rw [show (5 : Int32) = N 5 from rfl, N_mul]
  have e1 : N (5 * E 5) + 1 = N (5 * E 5 + 1) := N_add _ 1
  have e2 : N (5 * E 5) + 2 = N (5 * E 5 + 2) := N_add _ 2
  have e3 : N (5 * E 5) + 3 = N (5 * E 5 + 3) := N_add _ 3
  have e4 : N (5 * E 5) + 4 = N (5 * E 5 + 4) := N_add _ 4
  unfold s_X1_addCut
  rw [p5, if_neg (N_nn (by omega)), if_pos (by exact g_lt (L := 19) hc (by decide))]
  unfold t_X1_addCut_6 t_X1_addCut_5 t_X1_addCut_4 t_X1_addCut_3 t_X1_addCut_2 t_X1_addCut_1 t_X1_addCut_0 cC
  rw [p5, e0, e1, e2, e3, e4, ni_N (by omega), ni_N (by omega), ni_N (by omega), ni_N (by omega), ni_N (by omega)]
  simp (disch := omega) only [up_c, up_k, p1, p2, p3, p5, p7, N_inc, N_sub hle]
end CUps
