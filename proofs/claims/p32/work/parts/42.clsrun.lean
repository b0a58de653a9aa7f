section
/-! THE CLASS'S COURSE AS A RUN OF EVENTS -/
def CPic (σ : sg_S) (q : Nat) (E : Nat → Nat) : Prop := ∀ f, f < 9 → σ q f = N (E f)
def CAt (σ : sg_S) (c : Nat) (T S : Nat → Nat) (now tch : Nat) (D : Nat → Nat → Nat) : Prop := TabAt σ 2 T ∧ TabOK T ∧ SetAt σ 4 S ∧ SetOK S ∧ σ c 3 = N now ∧ σ c 4 = N (1 - tch) ∧ CPic σ (c + 1) (D 0) ∧ CPic σ (c + 7) (D 1)
def CSame (c : Nat) (σ σ' : sg_S) : Prop := ∀ q k, ¬ (c ≤ q ∧ q ≤ c + 12) → σ' q k = σ q k
theorem CSame.rf {c : Nat} {σ : sg_S} : CSame c σ σ := fun _ _ _ => rfl
theorem CSame.tr {c : Nat} {σ σ1 σ2 : sg_S} (h : CSame c σ σ1) (h' : CSame c σ1 σ2) : CSame c σ σ2 := fun q k a => (h' q k a).trans (h q k a)
theorem CSame.row {c : Nat} {σ σ' : sg_S} (h : CSame c σ σ') {q : Nat} (h1 : ¬ (c ≤ q ∧ q ≤ c + 12)) : σ' q = σ q := funext (fun k => h q k h1)
theorem CSame_u {c q0 k0 : Nat} {σ : sg_S} {v : Int32} (h : c ≤ q0 ∧ q0 ≤ c + 12) : CSame c σ (sg_up σ q0 k0 v) := fun q k h1 => up_ne (by omega)
theorem lt9 {f : Nat} (h : f < 9) : f = 0 ∨ f = 1 ∨ f = 2 ∨ f = 3 ∨ f = 4 ∨ f = 5 ∨ f = 6 ∨ f = 7 ∨ f = 8 := by omega
theorem g_nle {L a : Nat} (h : a < L) (hL : L < 2147483648) : ¬ N L ≤ N a := by rw [N_le hL (by omega)]; omega
theorem g_le {L a : Nat} (h : a ≤ L) (hL : L < 2147483648) : N a ≤ N L := by rw [N_le (by omega) hL]; exact h
theorem g_lt {L a : Nat} (h : a < L) (hL : L < 2147483648) : N a < N L := by rw [N_lt (by omega) hL]; exact h
theorem g_nlt {L a : Nat} (h : a ≤ L) (hL : L < 2147483648) : ¬ N L < N a := by rw [N_lt hL (by omega)]; omega
/-! an innings begins anew -/
theorem restart64 (q : Nat) : ∀ (n j : Nat) (σ : sg_S), j ≤ 7 → 7 - j < n → ∀ q' k, s_X1_restart_l64 q n σ (N j) q' k = if q' = q + 3 ∧ j ≤ k ∧ k < 7 then 0 else σ q' k := by
  intro n
  induction n with
  | zero => intro j σ _ hn; omega
  | succ n ih =>
    intro j σ hj hn q' k
    show s_X1_restart_b64 q (s_X1_restart_l64 q n) σ (N j) q' k = _
    unfold s_X1_restart_b64
    by_cases e : j = 7
    · have hc : (6 : Int32) < N j := by
        show N 6 < N j
        rw [N_lt (by decide) (by omega)]; omega
      rw [if_pos hc]
      repeat' split
      all_goals first | rfl | omega
    · have hc : ¬ (6 : Int32) < N j := by
        show ¬ N 6 < N j
        rw [N_lt (by decide) (by omega)]; omega
      rw [if_neg hc, N_inc, ih (j + 1) _ (by omega) (by omega), ni_N (by omega), up_ite]
      repeat' split
      all_goals first | rfl | omega
theorem restart43 (q : Nat) : ∀ (n j : Nat) (σ : sg_S), j ≤ 60 → 60 - j < n → ∀ q' k, s_X1_restart_l43 q n σ (N j) q' k = if q' = q + 1 ∧ j ≤ k ∧ k < 60 then 0 else if q' = q + 3 ∧ k < 7 then 0 else σ q' k := by
  intro n
  induction n with
  | zero => intro j σ _ hn; omega
  | succ n ih =>
    intro j σ hj hn q' k
    show s_X1_restart_b43 q (s_X1_restart_l43 q n) σ (N j) q' k = _
    unfold s_X1_restart_b43
    by_cases e : j = 60
    · have hc : (60 : Int32) ≤ N j := (N14 (L := 60) hj (by decide)).mpr e
      rw [if_pos hc]
      refine (restart64 q 600 0 σ (by decide) (by decide) q' k).trans ?_
      repeat' split
      all_goals first | rfl | omega
    · have hc : ¬ (60 : Int32) ≤ N j := fun z => e ((N14 (L := 60) hj (by decide)).mp z)
      rw [if_neg hc, N_inc, ih (j + 1) _ (by omega) (by omega), ni_N (by omega), up_ite]
      repeat' split
      all_goals first | rfl | omega
theorem restart_at (σ : sg_S) (q : Nat) (x0 x1 : Int32) : ∀ q' k, s_X1_restart σ q x0 x1 q' k = if q' = q ∧ k < 9 then (if k = 3 then x0 else if k = 7 then x1 else 0) else if q' = q + 1 ∧ k < 60 then 0 else if q' = q + 3 ∧ k < 7 then 0 else σ q' k := by
  intro q' k
  refine (restart43 q 600 0 (t_X1_restart_6 σ q x0 x1) (by decide) (by decide) q' k).trans ?_
  have e : t_X1_restart_6 σ q x0 x1 q' k = if q' = q ∧ k < 9 then (if k = 3 then x0 else if k = 7 then x1 else 0) else σ q' k := by
    unfold t_X1_restart_6 s_X1_beginWith t_X1_restart_5 t_X1_restart_4 t_X1_restart_3 t_X1_restart_2 t_X1_restart_1 t_X1_restart_0
    simp only [up_ite]
    repeat' split
    all_goals first | rfl | omega
  rw [e]
  repeat' split
  all_goals first | rfl | omega
section CBeg
variable {σ : sg_S} {c : Nat} {T S : Nat → Nat}
theorem setting_k {k : Nat} (hS : SetAt σ 4 S) (hk : k < 5) : v_X2_setting σ (N k) = N (S k) := by
  unfold v_X2_setting
  rw [if_neg (N_nn (by omega)), if_neg (by exact g_nle (L := 5) hk (by decide)), ni_N (by omega), hS k hk]
theorem overs_w {n : Nat} (hT : TabAt σ 2 T) (hK : TabOK T) (hn : n ≤ 20) : v_X2_worthOfOvers σ (N n) = N (wN T (6 * n) 0) := by
  unfold v_X2_worthOfOvers
  rw [show (6 : Int32) = N 6 from rfl, N_mul]
  exact worth2 (w := 0) hT hK (by omega) (by decide)
theorem crestart_at (hc : 5 ≤ c) (hT : TabAt σ 2 T) (hK : TabOK T) (hS : SetAt σ 4 S) (hSK : SetOK S) : ∀ q k, s_X0_restart σ c q k = if (q = c + 1 ∨ q = c + 7) ∧ k < 9 then N (bE T S k) else if q = c ∧ k = 3 then 0 else if q = c ∧ k = 4 then 1 else if (q = c + 2 ∨ q = c + 8) ∧ k < 60 then 0 else if (q = c + 4 ∨ q = c + 10) ∧ k < 7 then 0 else σ q k := by
  have h0 : v_X2_setting σ 0 = N (S 0) := setting_k (k := 0) hS (by decide)
  have h20 : S 0 ≤ 20 := hSK.2.1
  have hw0 : v_X2_worthOfOvers σ (N (S 0)) = N (wN T (6 * S 0) 0) := overs_w hT hK h20
  have e0 : t_X0_restart_0 σ c = s_X1_restart σ (c + 1) (N (S 0)) (N (wN T (6 * S 0) 0)) := by
    unfold t_X0_restart_0
    rw [h0, hw0]
  have hT1 : TabAt (t_X0_restart_0 σ c) 2 T := fun k hk => by
    rw [e0, restart_at, if_neg (by omega), if_neg (by omega), if_neg (by omega)]
    exact hT k hk
  have hw1 : v_X2_worthOfOvers (t_X0_restart_0 σ c) (N (S 0)) = N (wN T (6 * S 0) 0) := overs_w hT1 hK h20
  have e1 : t_X0_restart_1 σ c = s_X1_restart (s_X1_restart σ (c + 1) (N (S 0)) (N (wN T (6 * S 0) 0))) (c + 7) (N (S 0)) (N (wN T (6 * S 0) 0)) := by
    unfold t_X0_restart_1
    rw [h0, hw1, e0]
  have hbE : ∀ k, N (bE T S k) = if k = 3 then N (S 0) else if k = 7 then N (wN T (6 * S 0) 0) else 0 := by
    intro k
    unfold bE
    repeat' split
    all_goals rfl
  intro q k
  show t_X0_restart_2 σ c q k = _
  unfold t_X0_restart_2
  rw [e1, up_ite, up_ite, restart_at, restart_at, hbE]
  by_cases h3 : k = 3
  · subst h3
    repeat' split
    all_goals first | rfl | omega
  by_cases h7 : k = 7
  · subst h7
    repeat' split
    all_goals first | rfl | omega
  rw [if_neg h3, if_neg h7]
  repeat' split
  all_goals first | rfl | omega
theorem crestart_ok (hc : 5 ≤ c) (hT : TabAt σ 2 T) (hK : TabOK T) (hS : SetAt σ 4 S) (hSK : SetOK S) : CAt (s_X0_restart σ c) c T S 0 0 (fun _ => bE T S) ∧ CSame c σ (s_X0_restart σ c) := by
  have h := crestart_at hc hT hK hS hSK
  refine ⟨⟨fun k hk => ?_, hK, fun k hk => ?_, hSK, ?_, ?_, fun f hf => ?_, fun f hf => ?_⟩, fun q k hq => ?_⟩
  · rw [h, if_neg (by omega), if_neg (by omega), if_neg (by omega), if_neg (by omega), if_neg (by omega)]; exact hT k hk
  · rw [h, if_neg (by omega), if_neg (by omega), if_neg (by omega), if_neg (by omega), if_neg (by omega)]; exact hS k hk
  · rw [h, if_neg (by omega), if_pos (by omega)]; rfl
  · rw [h, if_neg (by omega), if_neg (by omega), if_pos (by omega)]; rfl
  · rw [h, if_pos (by omega)]
  · rw [h, if_pos (by omega)]
  · rw [h, if_neg (by omega), if_neg (by omega), if_neg (by omega), if_neg (by omega), if_neg (by omega)]
end CBeg
/-! each event, on an innings of the class -/
def cB (σ : sg_S) (q m : Nat) (E : Nat → Nat) : sg_S := sg_up (sg_up (sg_up (sg_up (sg_up σ (q + 3) m (σ (q + 3) m + 1)) (q + 1) (3 * (E 2 / 6) + 0) (σ (q + 1) (3 * (E 2 / 6) + 0) + N m)) (q + 1) (3 * (E 2 / 6) + 2) (σ (q + 1) (3 * (E 2 / 6) + 2) + 1)) q 0 (N (E 0 + m))) q 2 (N (E 2 + 1))
def cX (σ : sg_S) (q : Nat) (E : Nat → Nat) : sg_S := sg_up (sg_up (sg_up (cB (sg_up σ (q + 1) (3 * (E 2 / 6) + 1) (σ (q + 1) (3 * (E 2 / 6) + 1) + 1)) q 0 E) (q + 4) (E 1) (N (E 0))) (q + 5) (E 1) (N (E 2 + 1))) q 1 (N (E 1 + 1))
def cE (σ : sg_S) (q : Nat) (E : Nat → Nat) : sg_S := sg_up (sg_up (sg_up σ (q + 1) (3 * (E 2 / 6) + 0) (σ (q + 1) (3 * (E 2 / 6) + 0) + 1)) q 4 (N (E 4 + 1))) q 0 (N (E 0 + 1))
def cC (σ : sg_S) (q n took : Nat) (E : Nat → Nat) : sg_S := sg_up (sg_up (sg_up (sg_up (sg_up (sg_up (sg_up (sg_up σ (q + 2) (5 * E 5) (N (E 2))) (q + 2) (5 * E 5 + 1) (N (E 1))) (q + 2) (5 * E 5 + 2) (N (E 3))) (q + 2) (5 * E 5 + 3) (N n)) (q + 2) (5 * E 5 + 4) (N took)) q 5 (N (E 5 + 1))) q 3 (N n)) q 7 (N (E 7 - took))
def cS (σ : sg_S) (q took : Nat) : sg_S := sg_up (sg_up σ q 6 1) q 8 (N took)
def cD (σ : sg_S) (q n p : Nat) : sg_S := sg_up (sg_up σ q 3 (N n)) q 7 (N p)
section CUps
variable {σ : sg_S} {q : Nat} {E : Nat → Nat}
theorem addToOver_eq {w : Nat} {x1 : Int32} (hw : w < 3) (hb : σ q 2 = N (E 2)) (h120 : E 2 < 120) : s_X1_addToOver σ q (N w) x1 = sg_up σ (q + 1) (3 * (E 2 / 6) + w) (σ (q + 1) (3 * (E 2 / 6) + w) + x1) := by
  have e6 : N (E 2) / 6 = N (E 2 / 6) := N_div (b := 6) (by omega) (by decide)
  have e3 : 3 * N (E 2 / 6) + N w = N (3 * (E 2 / 6) + w) := by
    rw [show (3 : Int32) = N 3 from rfl, N_mul, N_add]
  unfold s_X1_addToOver t_X1_addToOver_0
  rw [hb, e6, if_neg (N_nn (by omega)), if_neg (by exact g_nle (L := 20) (by omega) (by decide)), if_neg (N_nn (by omega)), if_neg (by exact g_nle (L := 3) hw (by decide)), e3, ni_N (by omega)]
theorem addBall_eq {m : Nat} (hP : CPic σ q E) (hb : E 2 < 120) (hm : m ≤ 6) : s_X1_addBall σ q (N m) = cB σ q m E := by
  have p0 := hP 0 (by decide)
  have p2 := hP 2 (by decide)
  have h0 : t_X1_addBall_0 σ q (N m) = sg_up σ (q + 3) m (σ (q + 3) m + 1) := by
    unfold t_X1_addBall_0
    rw [ni_N (by omega)]
  have h1 : t_X1_addBall_1 σ q (N m) = sg_up (sg_up σ (q + 3) m (σ (q + 3) m + 1)) (q + 1) (3 * (E 2 / 6) + 0) (σ (q + 1) (3 * (E 2 / 6) + 0) + N m) := by
    unfold t_X1_addBall_1
    rw [h0]
    refine (addToOver_eq (w := 0) (E := E) (by decide) (by rw [up_c (by omega)]; exact p2) hb).trans ?_
    rw [up_c (by omega)]
  have h2 : t_X1_addBall_2 σ q (N m) = sg_up (sg_up (sg_up σ (q + 3) m (σ (q + 3) m + 1)) (q + 1) (3 * (E 2 / 6) + 0) (σ (q + 1) (3 * (E 2 / 6) + 0) + N m)) (q + 1) (3 * (E 2 / 6) + 2) (σ (q + 1) (3 * (E 2 / 6) + 2) + 1) := by
    unfold t_X1_addBall_2
    rw [h1]
    refine (addToOver_eq (w := 2) (E := E) (by decide) (by rw [up_c (by omega), up_c (by omega)]; exact p2) hb).trans ?_
    rw [up_k (by omega), up_c (by omega)]
  unfold s_X1_addBall
  rw [if_neg (N_nn (by omega)), if_pos (by exact g_le (L := 6) hm (by decide))]
  unfold t_X1_addBall_4 t_X1_addBall_3 cB
  rw [h2]
  simp (disch := omega) only [up_c, up_k, p0, p2, N_add, N_inc]
theorem addExtra_eq (hP : CPic σ q E) (hb : E 2 < 120) : s_X1_addExtra σ q = cE σ q E := by
  have p0 := hP 0 (by decide)
  have p2 := hP 2 (by decide)
  have p4 := hP 4 (by decide)
  have h1 : s_X1_addToOver σ q 0 1 = sg_up σ (q + 1) (3 * (E 2 / 6) + 0) (σ (q + 1) (3 * (E 2 / 6) + 0) + 1) := addToOver_eq (w := 0) (E := E) (by decide) p2 hb
  unfold s_X1_addExtra t_X1_addExtra_1 t_X1_addExtra_0 cE
  rw [h1]
  simp (disch := omega) only [up_c, up_k, p0, p4, N_inc]
theorem addWicket_eq (hP : CPic σ q E) (hb : E 2 < 120) (hw : E 1 < 10) : s_X1_addWicket σ q = cX σ q E := by
  have p0 := hP 0 (by decide)
  have p1 := hP 1 (by decide)
  have p2 := hP 2 (by decide)
  have h1 : s_X1_addToOver σ q 1 1 = sg_up σ (q + 1) (3 * (E 2 / 6) + 1) (σ (q + 1) (3 * (E 2 / 6) + 1) + 1) := addToOver_eq (w := 1) (E := E) (by decide) p2 hb
  have hP1 : CPic (sg_up σ (q + 1) (3 * (E 2 / 6) + 1) (σ (q + 1) (3 * (E 2 / 6) + 1) + 1)) q E := fun f hf => by
    rw [up_c (by omega)]; exact hP f hf
  have h2 : t_X1_addWicket_0 σ q = cB (sg_up σ (q + 1) (3 * (E 2 / 6) + 1) (σ (q + 1) (3 * (E 2 / 6) + 1) + 1)) q 0 E := by
    unfold t_X1_addWicket_0
    rw [h1]
    exact addBall_eq (m := 0) hP1 hb (by decide)
  have b1 : ∀ τ : sg_S, cB τ q 0 E q 1 = τ q 1 := fun τ => by
    unfold cB
    simp (disch := omega) only [up_c, up_k]
  have b0 : ∀ τ : sg_S, cB τ q 0 E q 0 = N (E 0) := fun τ => by
    unfold cB
    simp (disch := omega) only [up_c, up_k, up_eq, Nat.add_zero]
  have b2 : ∀ τ : sg_S, cB τ q 0 E q 2 = N (E 2 + 1) := fun τ => by
    unfold cB
    simp (disch := omega) only [up_c, up_k, up_eq]
  unfold s_X1_addWicket
  rw [p1, if_neg (N_nn (by omega)), if_pos (by exact g_lt (L := 10) hw (by decide))]
  unfold t_X1_addWicket_3 t_X1_addWicket_2 t_X1_addWicket_1 cX
  rw [h2]
  simp (disch := omega) only [up_c, b0, b1, b2, p1, N_inc]
  rw [ni_N (by omega)]
theorem addCut_eq {n took : Nat} (hP : CPic σ q E) (hc : E 5 < 19) (hle : took ≤ E 7) : s_X1_addCut σ q (N n) (N took) = cC σ q n took E := by
  have p1 := hP 1 (by decide)
  have p2 := hP 2 (by decide)
  have p3 := hP 3 (by decide)
  have p5 := hP 5 (by decide)
  have p7 := hP 7 (by decide)
  have e0 : 5 * N (E 5) = N (5 * E 5) := by rw [show (5 : Int32) = N 5 from rfl, N_mul]
  have e1 : N (5 * E 5) + 1 = N (5 * E 5 + 1) := N_add _ 1
  have e2 : N (5 * E 5) + 2 = N (5 * E 5 + 2) := N_add _ 2
  have e3 : N (5 * E 5) + 3 = N (5 * E 5 + 3) := N_add _ 3
  have e4 : N (5 * E 5) + 4 = N (5 * E 5 + 4) := N_add _ 4
  unfold s_X1_addCut
  rw [p5, if_neg (N_nn (by omega)), if_pos (by exact g_lt (L := 19) hc (by decide))]
  unfold t_X1_addCut_6 t_X1_addCut_5 t_X1_addCut_4 t_X1_addCut_3 t_X1_addCut_2 t_X1_addCut_1 t_X1_addCut_0 cC
  rw [p5, e0, e1, e2, e3, e4, ni_N (by omega), ni_N (by omega), ni_N (by omega), ni_N (by omega), ni_N (by omega)]
  simp (disch := omega) only [up_c, up_k, p1, p2, p3, p5, p7, N_inc, N_sub hle]
end CUps
end
section
/-! THE CLASS TAKES AN EVENT -/
section StpOK
variable {T : Nat → Nat} {mean k i t : Nat} {D : Nat → Nat → Nat}
theorem nxt_OK {E : Nat → Nat} (hok : OK T mean k i t D) (hi : i < 2) (hE : InnOK T (k + 1) E) : OK T mean (k + 1) (nxt T mean i (pd D i E)).1 (nxt T mean i (pd D i E)).2.1 (nxt T mean i (pd D i E)).2.2 := by
  obtain ⟨g1, g2, g3⟩ := OK_next hok hi hE
  by_cases he : ended T mean i (pd D i E)
  · rw [nxt_now (now' := i + 1) (Or.inr rfl) ⟨fun _ => he, fun _ => rfl⟩]
    exact g2 he
  · rw [nxt_now (now' := i) (Or.inl rfl) ⟨fun z => by omega, fun z => absurd z he⟩]
    exact g3 he
theorem stp_OK {e n : Int32} {y : mS} (hT : TabOK T) (hok : OK T mean k i t D) (hs : stp T mean (i, t, D) e n = some y) : OK T mean (k + 1) y.1 y.2.1 y.2.2 := by
  obtain ⟨o1, o2, o3, o4, o5, o6, o7⟩ := id hok
  unfold stp at hs
  dsimp only at hs
  by_cases he : e = 100
  · rw [if_pos he] at hs
    by_cases hc : (i = 0 ∨ i = 1 ∧ t = 0) ∧ 1 ≤ ni n ∧ ni n < D 1 3
    · rw [if_pos hc] at hs
      cases hs
      dsimp only
      obtain ⟨hE, h1, h2⟩ := hc
      obtain ⟨d1, d2, d3⟩ := eD_ok hT (o4 1 (by decide)) (o6 hE) (o5 1 (by decide) (by omega)) h1 h2
      refine ⟨o1, o2, o3, fun j hj => ?_, fun j hj hn => ?_, fun _ => ?_, fun _ _ => ?_⟩
      · by_cases e : j = 1
        · subst e; rw [pd_eq]; exact d1
        · rw [pd_ne e]; exact InnOK_mono (o4 j hj)
      · by_cases e : j = 1
        · subst e; rw [pd_eq]; exact d3
        · rw [pd_ne e]; exact o5 j hj hn
      · rw [pd_eq]; exact d2
      · rw [show pd D 1 (eD T (D 1) (ni n)) 1 = eD T (D 1) (ni n) from pd_eq, d2.1]
        exact tgt_pos _ _ _ _ _
    · rw [if_neg hc] at hs; cases hs
  rw [if_neg he] at hs
  by_cases h2 : 2 ≤ i
  · rw [if_pos h2] at hs; cases hs
  rw [if_neg h2] at hs
  have hi : i < 2 := by omega
  have hI := o4 i hi
  have hL := o5 i hi (Nat.le_refl i)
  by_cases h99 : e = 99
  · rw [if_pos h99] at hs
    by_cases hc : 1 ≤ ni n ∧ ni n < D i 3 ∧ D i 2 ≤ 6 * ni n
    · rw [if_pos hc] at hs
      cases hs
      exact nxt_OK hok hi (eC_ok hT hI hL hc.1 hc.2.1 hc.2.2)
    · rw [if_neg hc] at hs; cases hs
  rw [if_neg h99] at hs
  by_cases h47 : e = 47
  · rw [if_pos h47] at hs
    cases hs
    exact nxt_OK hok hi (eS_ok hI)
  rw [if_neg h47] at hs
  by_cases hE : e = 119 ∨ e = 110
  · rw [if_pos hE] at hs
    cases hs
    exact nxt_OK hok hi (eE_ok hI hL)
  rw [if_neg hE] at hs
  by_cases hX : e = 120
  · rw [if_pos hX] at hs
    cases hs
    exact nxt_OK hok hi (eX_ok hT hI hL)
  rw [if_neg hX] at hs
  by_cases hB : 48 ≤ ni e ∧ ni e ≤ 54
  · rw [if_pos hB] at hs
    cases hs
    exact nxt_OK hok hi (eB_ok hT hI hL (by omega))
  rw [if_neg hB] at hs
  cases hs
end StpOK
theorem mrun_OK {T S : Nat → Nat} {ev nu : Nat → Int32} (hK : TabOK T) (hSK : SetOK S) : ∀ (k : Nat) (x : mS), mrun T S ev nu k = some x → OK T (S 1) k x.1 x.2.1 x.2.2 := by
  intro k
  induction k with
  | zero => intro x h; cases h; exact begn_OK hK hSK
  | succ k ih =>
    intro x h
    obtain ⟨y, hy, hs⟩ := mrun_pre h
    exact stp_OK hK (ih y hy) hs
section CTake
variable {σ : sg_S} {T S : Nat → Nat} {k c i t : Nat} {D : Nat → Nat → Nat}
theorem side_eq (hi : i < 2) : v_X0_side c (N i) = c + 1 + 6 * i := by
  unfold v_X0_side
  rcases (show i = 0 ∨ i = 1 by omega) with rfl | rfl
  · rw [if_neg (fun h => h rfl)]
  · rw [if_pos (by decide)]
theorem CAt.pic {now : Nat} (h : CAt σ c T S now t D) (hi : i < 2) : CPic σ (c + 1 + 6 * i) (D i) := by
  rcases (show i = 0 ∨ i = 1 by omega) with rfl | rfl
  · exact h.2.2.2.2.2.2.1
  · exact h.2.2.2.2.2.2.2
theorem cworthLeft_eq (h : CAt σ c T S i t D) (hi : i < 2) (hI : InnOK T k (D i)) : v_X0_worthLeft σ c = N (WL T (D i)) := by
  obtain ⟨a1, a2, a3, a4, -⟩ := hI
  have hP := h.pic hi
  unfold v_X0_worthLeft
  rw [h.2.2.2.2.1, side_eq hi, hP 1 (by decide), hP 2 (by decide), hP 3 (by decide), show (6 : Int32) = N 6 from rfl, N_mul, N_sub a3]
  exact worth2 h.1 h.2.1 (by omega) a4
theorem clossByCut_eq {n : Nat} (h : CAt σ c T S i t D) (hi : i < 2) (hI : InnOK T k (D i)) (hn : n ≤ D i 3) (hb : D i 2 ≤ 6 * n) : v_X0_lossByCut σ c (N n) = N (WL T (D i) - wN T (6 * n - D i 2) (D i 1)) := by
  obtain ⟨a1, a2, a3, a4, -⟩ := id hI
  have hP := h.pic hi
  have hm : wN T (6 * n - D i 2) (D i 1) ≤ WL T (D i) := wN_mono' h.2.1 a4 (by omega) (by omega)
  unfold v_X0_lossByCut
  rw [cworthLeft_eq h hi hI, h.2.2.2.2.1, side_eq hi, hP 1 (by decide), hP 2 (by decide), show (6 : Int32) = N 6 from rfl, N_mul, N_sub hb, worth2 h.1 h.2.1 (by omega) a4, N_sub hm]
theorem cfirstPart_eq {now : Nat} (h : CAt σ c T S now t D) (h0 : InnOK T k (D 0)) : v_X0_firstPart σ c = N (D 0 7 - D 0 8) := by
  unfold v_X0_firstPart
  rw [h.2.2.2.2.2.2.1 7 (by decide), h.2.2.2.2.2.2.1 8 (by decide), N_sub (InnOK_8 h0)]
theorem cfull_eq (hT : TabAt σ 2 T) : v_X2_full σ = N (30 * T 4) := by
  unfold v_X2_full
  rw [hT 4 (by decide), show (30 : Int32) = N 30 from rfl, N_mul]
theorem ctargetBy_eq {P Q R : Nat} (hT : TabAt σ 2 T) (hK : TabOK T) (hS : SetAt σ 4 S) (hSK : SetOK S) (hP : v_X0_firstPart σ c = N P) (h0 : 0 < P) (h1 : P ≤ 30000) (hQ : Q ≤ 30000) (hR : R ≤ 10000) : v_X0_targetBy σ c (N R) (N Q) = N (tgt T (S 1) R P Q) := by
  have hf := Tab_full hK
  have hf2 := Tab_all hK (k := 4) (by decide)
  have s1 : v_X2_setting σ 1 = N (S 1) := setting_k (k := 1) hS (by decide)
  unfold v_X0_targetBy tgt
  rw [hP, cfull_eq hT, s1, if_neg (by exact g_nle (a := 0) h0 (by omega)), if_pos (by exact g_lt (a := 0) (show 0 < 30 * T 4 by omega) (by omega))]
  by_cases h : P ≤ Q
  · rw [if_pos (g_le h (by omega)), if_neg (by omega)]
    have h2 : S 1 * (Q - P) ≤ 400 * 30000 := Nat.mul_le_mul hSK.2.2.2.1 (by omega)
    rw [N_sub h, N_mul, N_div (by omega) (by omega), N_add, N_inc]
  · rw [if_neg (fun z => h ((N_le (by omega) (by omega)).mp z)), if_pos (by omega)]
    have h2 : R * Q ≤ 10000 * 30000 := Nat.mul_le_mul hR hQ
    rw [N_mul, N_div (by omega) (by omega), N_inc]
theorem chasTarget_eq {now : Nat} (h : CAt σ c T S now t D) (hn : now ≤ 2) (h0 : InnOK T k (D 0)) : v_X0_hasTarget σ c = if 0 < now ∧ 0 < D 0 7 - D 0 8 then 1 else 0 := by
  have a9 : D 0 7 ≤ 30000 := h0.2.2.2.2.2.2.2.2.1
  unfold v_X0_hasTarget
  rw [h.2.2.2.2.1, cfirstPart_eq h h0]
  by_cases g1 : 0 < now
  · rw [if_neg (by exact g_nle (a := 0) g1 (by omega))]
    by_cases g2 : 0 < D 0 7 - D 0 8
    · rw [if_neg (by exact g_nle (a := 0) g2 (by omega)), if_pos ⟨g1, g2⟩]
    · rw [if_pos (by exact g_le (L := 0) (by omega) (by decide)), if_neg (fun z => g2 z.2)]
  · rw [if_pos (by exact g_le (L := 0) (by omega) (by decide)), if_neg (fun z => g1 z.1)]
theorem ctheTarget_eq {now : Nat} (h : CAt σ c T S now t D) (hk : k ≤ 401) (h0 : InnOK T k (D 0)) (h1 : InnOK T k (D 1)) (hp : 0 < D 0 7 - D 0 8) : v_X0_targetBy σ c (σ (c + 1) 0) (σ (c + 7) 7) = N (tgt T (S 1) (D 0 0) (D 0 7 - D 0 8) (D 1 7)) := by
  rw [h.2.2.2.2.2.2.1 0 (by decide), h.2.2.2.2.2.2.2 7 (by decide)]
  obtain ⟨a1, a2, a3, a4, a5, a6, a7, a8, a9, a10⟩ := id h0
  obtain ⟨b1, b2, b3, b4, b5, b6, b7, b8, b9, b10⟩ := id h1
  exact ctargetBy_eq h.1 h.2.1 h.2.2.1 h.2.2.2.1 (cfirstPart_eq h h0) hp (by omega) b9 (by omega)
theorem one_nz : ¬ (1 : Int32) = 0 := by decide
theorem ca121_eq (h : CAt σ c T S i t D) (hi : i < 2) (hk : k ≤ 401) (h0 : InnOK T k (D 0)) (h1 : InnOK T k (D 1)) :
    (ended T (S 1) i D → s_X0_take_a121 c σ (c + 1 + 6 * i) = sg_up σ c 3 (N (i + 1))) ∧ (¬ ended T (S 1) i D → s_X0_take_a121 c σ (c + 1 + 6 * i) = σ) := by
  have hI : InnOK T k (D i) := by rcases (show i = 0 ∨ i = 1 by omega) with rfl | rfl <;> assumption
  obtain ⟨a1, a2, a3, a4, a5, a6, a7, a8, a9, a10⟩ := id hI
  obtain ⟨b1, b2, b3, b4, b5, b6, b7, b8, b9, b10⟩ := id h0
  obtain ⟨c1, c2, c3, c4, c5, c6, c7, c8, c9, c10⟩ := id h1
  have hP := h.pic hi
  have hnow : σ c 3 = N i := h.2.2.2.2.1
  have hW : (¬ v_X1_isWorn σ (c + 1 + 6 * i) = 0) ↔ (D i 6 = 1 ∨ D i 2 = 6 * D i 3 ∨ D i 1 = 10) := by
    unfold v_X1_isWorn
    rw [hP 6 (by decide), hP 1 (by decide), hP 2 (by decide), hP 3 (by decide), show (6 : Int32) = N 6 from rfl, N_mul]
    by_cases z6 : D i 6 = 1
    · rw [if_pos (by rw [z6]; decide)]
      exact ⟨fun _ => Or.inl z6, fun _ => one_nz⟩
    rw [if_neg (by rw [show D i 6 = 0 by omega]; decide)]
    by_cases z1 : D i 1 = 10
    · rw [if_pos (by rw [z1]; decide)]
      exact ⟨fun _ => Or.inr (Or.inr z1), fun _ => one_nz⟩
    rw [if_neg (by exact g_nle (L := 10) (by omega) (by decide))]
    by_cases z2 : D i 2 = 6 * D i 3
    · rw [if_neg (by rw [N_lt (by omega) (by omega)]; omega)]
      exact ⟨fun _ => Or.inr (Or.inl z2), fun _ => one_nz⟩
    · rw [if_pos (by rw [N_lt (by omega) (by omega)]; omega)]
      exact ⟨fun z => absurd rfl z, fun z => by omega⟩
  have hR : (¬ v_X0_targetReached σ c = 0) ↔ (i = 1 ∧ 0 < D 0 7 - D 0 8 ∧ tgt T (S 1) (D 0 0) (D 0 7 - D 0 8) (D 1 7) ≤ D 1 0) := by
    unfold v_X0_targetReached
    rw [hnow, chasTarget_eq h (by omega) h0]
    by_cases z1 : i = 1
    · subst z1
      rw [if_neg (fun z => z rfl)]
      by_cases zp : 0 < D 0 7 - D 0 8
      · have hz : (if 0 < 1 ∧ 0 < D 0 7 - D 0 8 then (1 : Int32) else 0) = 1 := if_pos ⟨by decide, zp⟩
        rw [hz, if_neg one_nz, ctheTarget_eq h hk h0 h1 zp, h.2.2.2.2.2.2.2 0 (by decide)]
        have hle := tgt_le h.2.1 (mean := S 1) (S := D 0 0) (P := D 0 7 - D 0 8) (Q := D 1 7) h.2.2.2.1.2.2.2.1 zp c9 (by omega)
        by_cases zt : D 1 0 < tgt T (S 1) (D 0 0) (D 0 7 - D 0 8) (D 1 7)
        · rw [if_pos ((N_lt (by omega) (by omega)).mpr zt)]
          exact ⟨fun z => absurd rfl z, fun z => by omega⟩
        · rw [if_neg (fun z => zt ((N_lt (by omega) (by omega)).mp z))]
          exact ⟨fun _ => ⟨rfl, zp, by omega⟩, fun _ => one_nz⟩
      · have hz : (if 0 < 1 ∧ 0 < D 0 7 - D 0 8 then (1 : Int32) else 0) = 0 := if_neg (fun z => zp z.2)
        rw [hz, if_pos rfl]
        exact ⟨fun z => absurd rfl z, fun z => absurd z.2.1 zp⟩
    · have e0 : i = 0 := by omega
      subst e0
      rw [if_pos (by decide)]
      exact ⟨fun z => absurd rfl z, fun z => absurd z.1 z1⟩
  refine ⟨fun he => ?_, fun he => ?_⟩
  · unfold s_X0_take_a121
    rw [hnow, N_inc]
    by_cases zw : ¬ v_X1_isWorn σ (c + 1 + 6 * i) = 0
    · rw [if_pos zw]
    · rw [if_neg zw, if_neg (hR.mpr ?_)]
      rcases he with he | he | he | he
      · exact absurd (hW.mpr (Or.inl he)) zw
      · exact absurd (hW.mpr (Or.inr (Or.inl he))) zw
      · exact absurd (hW.mpr (Or.inr (Or.inr he))) zw
      · exact he
  · unfold s_X0_take_a121
    rw [if_neg (fun z => he ?_), if_pos (Decidable.not_not.mp (fun z => he (Or.inr (Or.inr (Or.inr (hR.mp z))))))]
    rcases hW.mp z with g | g | g
    · exact Or.inl g
    · exact Or.inr (Or.inl g)
    · exact Or.inr (Or.inr (Or.inl g))
theorem CAt_now {v now : Nat} (hc : 5 ≤ c) (h : CAt σ c T S now t D) : CAt (sg_up σ c 3 (N v)) c T S v t D :=
  ⟨TabAt_up h.1 (by omega), h.2.1, SetAt_up h.2.2.1 (by omega), h.2.2.2.1, up_eq, by rw [up_k (by decide)]; exact h.2.2.2.2.2.1, fun f hf => by rw [up_c (by omega)]; exact h.2.2.2.2.2.2.1 f hf, fun f hf => by rw [up_c (by omega)]; exact h.2.2.2.2.2.2.2 f hf⟩
theorem CAt_pd {σ1 : sg_S} {E : Nat → Nat} (hc : 5 ≤ c) (h : CAt σ c T S i i D) (hi : i < 2) (hs : ∀ q kk, ¬ (c + 1 + 6 * i ≤ q ∧ q ≤ c + 6 + 6 * i) → σ1 q kk = σ q kk) (hE : CPic σ1 (c + 1 + 6 * i) E) : CAt σ1 c T S i i (pd D i E) ∧ CSame c σ σ1 := by
  refine ⟨⟨fun kk hk => ?_, h.2.1, fun kk hk => ?_, h.2.2.2.1, ?_, ?_, ?_, ?_⟩, fun q kk hq => hs q kk (by omega)⟩
  · rw [hs 2 kk (by omega)]; exact h.1 kk hk
  · rw [hs 4 kk (by omega)]; exact h.2.2.1 kk hk
  · rw [hs c 3 (by omega)]; exact h.2.2.2.2.1
  · rw [hs c 4 (by omega)]; exact h.2.2.2.2.2.1
  · by_cases e : i = 0
    · subst e; rw [pd_eq]; exact hE
    · rw [pd_ne (by omega)]; exact fun f hf => by rw [hs (c + 1) f (by omega)]; exact h.2.2.2.2.2.2.1 f hf
  · by_cases e : i = 1
    · subst e; rw [pd_eq]; exact hE
    · rw [pd_ne (by omega)]; exact fun f hf => by rw [hs (c + 7) f (by omega)]; exact h.2.2.2.2.2.2.2 f hf
theorem cev_fin {σ0 σ1 : sg_S} {E : Nat → Nat} (hc : 5 ≤ c) (hok : OK T (S 1) k i t D) (hi : i < 2) (hk : k ≤ 400) (hE : InnOK T (k + 1) E) (h1 : CAt σ1 c T S i i (pd D i E) ∧ CSame c σ0 σ1) (h0 : CSame c σ σ0) : CAt (s_X0_take_a121 c σ1 (c + 1 + 6 * i)) c T S (nxt T (S 1) i (pd D i E)).1 (nxt T (S 1) i (pd D i E)).2.1 (nxt T (S 1) i (pd D i E)).2.2 ∧ CSame c σ (s_X0_take_a121 c σ1 (c + 1 + 6 * i)) := by
  obtain ⟨g1, g2, g3⟩ := OK_next hok hi hE
  obtain ⟨f1, f2⟩ := ca121_eq h1.1 hi (k := k + 1) (by omega) (g1 0 (by decide)) (g1 1 (by decide))
  by_cases he : ended T (S 1) i (pd D i E)
  · rw [nxt_now (now' := i + 1) (Or.inr rfl) ⟨fun _ => he, fun _ => rfl⟩, f1 he]
    exact ⟨CAt_now hc h1.1, h0.tr (h1.2.tr (CSame_u (by omega)))⟩
  · rw [nxt_now (now' := i) (Or.inl rfl) ⟨fun z => by omega, fun z => absurd z he⟩, f2 he]
    exact ⟨h1.1, h0.tr h1.2⟩
theorem take_nd {e n : Int32} (hc : 5 ≤ c) (h : CAt σ c T S i t D) (hok : OK T (S 1) k i t D) (hi : i < 2) (he : ¬ e = 100) : ∃ σ0, s_X0_take σ c e n = s_X0_take_a36 c σ0 e n ∧ CAt σ0 c T S i i D ∧ CSame c σ σ0 ∧ (∀ q kk, ¬ q = c → σ0 q kk = σ q kk) := by
  have hn : σ c 3 = N i := h.2.2.2.2.1
  unfold s_X0_take
  rw [if_pos he, hn]
  rcases (show i = 0 ∨ i = 1 by omega) with rfl | rfl
  · rw [if_pos (by decide)]
    have ht : t = 0 := hok.2.2.1 rfl
    subst ht
    exact ⟨σ, rfl, h, CSame.rf, fun _ _ _ => rfl⟩
  · rw [if_neg (fun z => z rfl)]
    refine ⟨sg_up σ c 4 0, rfl, ⟨TabAt_up h.1 (by omega), h.2.1, SetAt_up h.2.2.1 (by omega), h.2.2.2.1, by rw [up_k (by decide)]; exact hn, up_eq, fun f hf => by rw [up_c (by omega)]; exact h.2.2.2.2.2.2.1 f hf, fun f hf => by rw [up_c (by omega)]; exact h.2.2.2.2.2.2.2 f hf⟩, CSame_u (by omega), fun q kk hq => up_c hq⟩
theorem take_ok {e n : Int32} (hc : 5 ≤ c) (h : CAt σ c T S i t D) (hok : OK T (S 1) k i t D) (hk : k ≤ 400) {y : mS} (hs : stp T (S 1) (i, t, D) e n = some y) : CAt (s_X0_take σ c e n) c T S y.1 y.2.1 y.2.2 ∧ CSame c σ (s_X0_take σ c e n) := by
  have hT := h.2.1
  obtain ⟨o1, o2, o3, o4, o5, o6, o7⟩ := id hok
  unfold stp at hs
  dsimp only at hs
  by_cases he : e = 100
  · rw [if_pos he] at hs
    by_cases hd : (i = 0 ∨ i = 1 ∧ t = 0) ∧ 1 ≤ ni n ∧ ni n < D 1 3
    · rw [if_pos hd] at hs
      cases hs
      dsimp only
      obtain ⟨hE, h1, h2⟩ := hd
      have hn20 : ni n ≤ 20 := by have := (o4 1 (by decide)).2.1; omega
      have es : s_X0_take σ c e n = cD σ (c + 7) (ni n) (wN T (6 * ni n) 0) := by
        unfold s_X0_take t_X0_take_3 s_X1_beginWith cD
        rw [if_neg (fun z => z he), ← overs_w h.1 hT hn20, ni_pos h1]
      rw [es]
      refine ⟨⟨fun kk hkk => ?_, hT, fun kk hkk => ?_, h.2.2.2.1, ?_, ?_, ?_, ?_⟩, fun q kk hq => ?_⟩
      · simp (disch := omega) only [cD, up_c]; exact h.1 kk hkk
      · simp (disch := omega) only [cD, up_c]; exact h.2.2.1 kk hkk
      · simp (disch := omega) only [cD, up_c]; exact h.2.2.2.2.1
      · simp (disch := omega) only [cD, up_c]; exact h.2.2.2.2.2.1
      · rw [pd_ne (by decide)]
        intro f hf
        simp (disch := omega) only [cD, up_c]
        exact h.2.2.2.2.2.2.1 f hf
      · rw [pd_eq]
        intro f hf
        have hp := h.2.2.2.2.2.2.2
        rcases lt9 hf with rfl | rfl | rfl | rfl | rfl | rfl | rfl | rfl | rfl
        all_goals (unfold cD eD; simp (disch := omega) only [up_eq, up_k, du_eq, du_ne])
        all_goals exact hp _ (by decide)
      · simp (disch := omega) only [cD, up_c]
    · rw [if_neg hd] at hs; cases hs
  rw [if_neg he] at hs
  by_cases h2 : 2 ≤ i
  · rw [if_pos h2] at hs; cases hs
  rw [if_neg h2] at hs
  have hi : i < 2 := by omega
  have hI := o4 i hi
  have hL := o5 i hi (Nat.le_refl i)
  obtain ⟨a1, a2, a3, a4, a5, a6, a7, a8, a9, a10⟩ := id hI
  obtain ⟨l1, l2, l3⟩ := id hL
  obtain ⟨σ0, e0, hA, hS0, hq0⟩ := take_nd (n := n) hc h hok hi he
  have hP := hA.pic hi
  have hsd : v_X0_side c (σ0 c 3) = c + 1 + 6 * i := by rw [hA.2.2.2.2.1]; exact side_eq hi
  have p0 := hP 0 (by decide)
  have p1 := hP 1 (by decide)
  have p2 := hP 2 (by decide)
  have p3 := hP 3 (by decide)
  have p4 := hP 4 (by decide)
  have p5 := hP 5 (by decide)
  have p6 := hP 6 (by decide)
  have p7 := hP 7 (by decide)
  have p8 := hP 8 (by decide)
  have h8 : D i 8 = 0 := by rw [a10, if_neg (by omega)]
  rw [e0]
  by_cases h99 : e = 99
  · rw [if_pos h99] at hs
    by_cases hd : 1 ≤ ni n ∧ ni n < D i 3 ∧ D i 2 ≤ 6 * ni n
    · rw [if_pos hd] at hs
      cases hs
      obtain ⟨g1, g2, g3⟩ := hd
      have hl := clossByCut_eq (n := ni n) hA hi hI (by omega) g3
      rw [ni_pos g1] at hl
      have es : s_X0_take_a36 c σ0 e n = s_X0_take_a121 c (cC σ0 (c + 1 + 6 * i) (ni n) (WL T (D i) - wN T (6 * ni n - D i 2) (D i 1)) (D i)) (c + 1 + 6 * i) := by
        unfold s_X0_take_a36 t_X0_take_1
        rw [if_pos (by rw [h99]; decide), if_neg (fun z => z h99), hsd, hl, ← addCut_eq hP (by omega) (by omega), ni_pos g1]
      rw [es]
      refine cev_fin hc hok hi hk (eC_ok hT hI hL g1 g2 g3) (CAt_pd hc hA hi (fun q kk hq => ?_) (fun f hf => ?_)) hS0
      · simp (disch := omega) only [cC, up_c]
      · rcases lt9 hf with rfl | rfl | rfl | rfl | rfl | rfl | rfl | rfl | rfl
        all_goals (unfold cC eC; simp (disch := omega) only [up_eq, up_c, up_k, du_eq, du_ne])
        all_goals assumption
    · rw [if_neg hd] at hs; cases hs
  rw [if_neg h99] at hs
  by_cases h47 : e = 47
  · rw [if_pos h47] at hs
    cases hs
    have es : s_X0_take_a36 c σ0 e n = s_X0_take_a121 c (cS σ0 (c + 1 + 6 * i) (WL T (D i))) (c + 1 + 6 * i) := by
      unfold s_X0_take_a36 t_X0_take_2 s_X1_addClose cS
      rw [if_neg (fun z => z h47), hsd, cworthLeft_eq hA hi hI]
    rw [es]
    refine cev_fin hc hok hi hk (eS_ok hI) (CAt_pd hc hA hi (fun q kk hq => ?_) (fun f hf => ?_)) hS0
    · simp (disch := omega) only [cS, up_c]
    · rcases lt9 hf with rfl | rfl | rfl | rfl | rfl | rfl | rfl | rfl | rfl
      all_goals (unfold cS eS; simp (disch := omega) only [up_eq, up_k, du_eq, du_ne])
      all_goals first | assumption | rfl
  rw [if_neg h47] at hs
  by_cases hE : e = 119 ∨ e = 110
  · rw [if_pos hE] at hs
    cases hs
    have es : s_X0_take_a36 c σ0 e n = s_X0_take_a121 c (cE σ0 (c + 1 + 6 * i) (D i)) (c + 1 + 6 * i) := by
      unfold s_X0_take_a36
      rw [if_pos h47, if_pos h99, if_pos (by rcases hE with rfl | rfl <;> decide), hsd, addExtra_eq hP (by omega)]
      rcases hE with rfl | rfl
      · rw [if_pos rfl]
      · rw [if_neg (by decide), if_neg (fun z => z rfl)]
    rw [es]
    refine cev_fin hc hok hi hk (eE_ok hI hL) (CAt_pd hc hA hi (fun q kk hq => ?_) (fun f hf => ?_)) hS0
    · simp (disch := omega) only [cE, up_c]
    · rcases lt9 hf with rfl | rfl | rfl | rfl | rfl | rfl | rfl | rfl | rfl
      all_goals (unfold cE eE; simp (disch := omega) only [up_eq, up_c, up_k, du_eq, du_ne])
      all_goals assumption
  rw [if_neg hE] at hs
  by_cases hX : e = 120
  · rw [if_pos hX] at hs
    cases hs
    have es : s_X0_take_a36 c σ0 e n = s_X0_take_a121 c (cX σ0 (c + 1 + 6 * i) (D i)) (c + 1 + 6 * i) := by
      unfold s_X0_take_a36
      rw [if_pos h47, if_pos h99, if_neg (fun z => z hX), hsd, addWicket_eq hP (by omega) l2]
    rw [es]
    refine cev_fin hc hok hi hk (eX_ok hT hI hL) (CAt_pd hc hA hi (fun q kk hq => ?_) (fun f hf => ?_)) hS0
    · simp (disch := omega) only [cX, cB, up_c]
    · rcases lt9 hf with rfl | rfl | rfl | rfl | rfl | rfl | rfl | rfl | rfl
      all_goals (unfold cX cB eX; simp (disch := omega) only [up_eq, up_c, up_k, du_eq, du_ne, Nat.add_zero])
      all_goals assumption
  rw [if_neg hX] at hs
  by_cases hB : 48 ≤ ni e ∧ ni e ≤ 54
  · rw [if_pos hB] at hs
    cases hs
    have ee : N (48 + (ni e - 48)) = e := by
      rw [show 48 + (ni e - 48) = ni e by omega]
      exact ni_pos (by omega)
    have em : e - 48 = N (ni e - 48) := by
      have := e_m (m := ni e - 48)
      rw [ee] at this
      exact this
    have es : s_X0_take_a36 c σ0 e n = s_X0_take_a121 c (cB σ0 (c + 1 + 6 * i) (ni e - 48) (D i)) (c + 1 + 6 * i) := by
      unfold s_X0_take_a36 t_X0_take_0
      rw [if_pos h47, if_pos h99, if_pos hX, if_neg (fun z => hE (Or.inl z)), if_pos (fun z => hE (Or.inr z)), hsd, em, addBall_eq hP (by omega) (by omega)]
    rw [es]
    refine cev_fin hc hok hi hk (eB_ok hT hI hL (by omega)) (CAt_pd hc hA hi (fun q kk hq => ?_) (fun f hf => ?_)) hS0
    · simp (disch := omega) only [cB, up_c]
    · rcases lt9 hf with rfl | rfl | rfl | rfl | rfl | rfl | rfl | rfl | rfl
      all_goals (unfold cB eB; simp (disch := omega) only [up_eq, up_c, up_k, du_eq, du_ne])
      all_goals assumption
  rw [if_neg hB] at hs
  cases hs
end CTake
/-! the class goes through its LOG anew -/
theorem replay6 {c : Nat} {T S : Nat → Nat} {k : Nat} {y : mS} (hc : 5 ≤ c) (hc2 : c + 12 < 33) (hk : k ≤ 400) : ∀ (n j : Nat) (σ : sg_S) (x : mS), j ≤ k → k - j < n → CAt σ c T S x.1 x.2.1 x.2.2 → mrun T S (σ 33) (σ 34) j = some x → mrun T S (σ 33) (σ 34) k = some y → CAt (s_X4_replay_l6 c n σ (N k) (N j)) c T S y.1 y.2.1 y.2.2 ∧ CSame c σ (s_X4_replay_l6 c n σ (N k) (N j)) := by
  intro n
  induction n with
  | zero => intro j σ x _ hn; omega
  | succ n ih =>
    intro j σ x hj hn hR hx hy
    by_cases e : j = k
    · subst e
      have exy : x = y := Option.some.inj (hx.symm.trans hy)
      subst exy
      have es : s_X4_replay_l6 c (n + 1) σ (N j) (N j) = σ := by
        show s_X4_replay_b6 c (s_X4_replay_l6 c n) σ (N j) (N j) = _
        unfold s_X4_replay_b6
        rw [if_pos (Int32.le_refl _)]
      rw [es]
      exact ⟨hR, CSame.rf⟩
    · obtain ⟨z, hz⟩ := mrun_le' hy (j := j + 1) (by omega)
      have hst := hz
      rw [mrun_some hx] at hst
      obtain ⟨g1, g4⟩ := take_ok (y := z) hc hR (mrun_OK hR.2.1 hR.2.2.2.1 j x hx) (by omega) (show stp T (S 1) (x.1, x.2.1, x.2.2) (σ 33 j) (σ 34 j) = some z from hst)
      have r33 := g4.row (q := 33) (by omega)
      have r34 := g4.row (q := 34) (by omega)
      obtain ⟨i2, i4⟩ := ih (j + 1) (s_X0_take σ c (σ 33 j) (σ 34 j)) z (by omega) (by omega) g1 (by rw [r33, r34]; exact hz) (by rw [r33, r34]; exact hy)
      have es : s_X4_replay_l6 c (n + 1) σ (N k) (N j) = s_X4_replay_l6 c n (s_X0_take σ c (σ 33 j) (σ 34 j)) (N k) (N (j + 1)) := by
        show s_X4_replay_b6 c (s_X4_replay_l6 c n) σ (N k) (N j) = _
        unfold s_X4_replay_b6
        rw [if_neg (by rw [N_le (by omega) (by omega)]; omega), if_neg (by exact g_nle (L := 400) (by omega) (by decide)), ni_N (by omega), N_inc]
      rw [es]
      exact ⟨i2, g4.tr i4⟩
theorem replay_ok {σ : sg_S} {c : Nat} {T S : Nat → Nat} {k : Nat} {y : mS} (hc : 5 ≤ c) (hc2 : c + 12 < 33) (hT : TabAt σ 2 T) (hK : TabOK T) (hS : SetAt σ 4 S) (hSK : SetOK S) (hk : k ≤ 400) (hy : mrun T S (σ 33) (σ 34) k = some y) : CAt (s_X4_replay σ c (N k)) c T S y.1 y.2.1 y.2.2 ∧ CSame c σ (s_X4_replay σ c (N k)) := by
  obtain ⟨b2, b4⟩ := crestart_ok hc hT hK hS hSK
  have r33 := b4.row (q := 33) (by omega)
  have r34 := b4.row (q := 34) (by omega)
  obtain ⟨g2, g4⟩ := replay6 hc hc2 hk 600 0 (s_X0_restart σ c) (begn T S) (by omega) (by omega) b2 rfl (by rw [r33, r34]; exact hy)
  exact ⟨g2, b4.tr g4⟩
end
section
/-! TOKENS: where blanks, digits, letters end -/
noncomputable def skp (B : Nat → Int32) (n : Nat) : Nat → Nat := Nat.rec (motive := fun _ => Nat → Nat) (fun a => a) (fun _ ih a => if B a = 32 ∨ B a = 10 then ih (a + 1) else a) n
def isD (x : Int32) : Prop := 48 ≤ ni x ∧ ni x ≤ 57
def isA (x : Int32) : Prop := 97 ≤ ni x ∧ ni x ≤ 122
noncomputable def dgE (B : Nat → Int32) (n : Nat) : Nat → Nat := Nat.rec (motive := fun _ => Nat → Nat) (fun a => a) (fun _ ih a => if 48 ≤ ni (B a) ∧ ni (B a) ≤ 57 then ih (a + 1) else a) n
noncomputable def dgV (B : Nat → Int32) (p n : Nat) : Nat → Nat → Nat := Nat.rec (motive := fun _ => Nat → Nat → Nat) (fun _ v => v) (fun _ ih a v => if 48 ≤ ni (B a) ∧ ni (B a) ≤ 57 then ih (a + 1) (if 4 ≤ a - p then v else 10 * v + (ni (B a) - 48)) else v) n
noncomputable def lwE (B : Nat → Int32) (n : Nat) : Nat → Nat := Nat.rec (motive := fun _ => Nat → Nat) (fun a => a) (fun _ ih a => if 97 ≤ ni (B a) ∧ ni (B a) ≤ 122 then ih (a + 1) else a) n
section Tok
variable {B : Nat → Int32}
theorem skp_s {n a : Nat} : skp B (n + 1) a = if B a = 32 ∨ B a = 10 then skp B n (a + 1) else a := rfl
theorem dgE_s {n a : Nat} : dgE B (n + 1) a = if 48 ≤ ni (B a) ∧ ni (B a) ≤ 57 then dgE B n (a + 1) else a := rfl
theorem dgV_s {p n a v : Nat} : dgV B p (n + 1) a v = if 48 ≤ ni (B a) ∧ ni (B a) ≤ 57 then dgV B p n (a + 1) (if 4 ≤ a - p then v else 10 * v + (ni (B a) - 48)) else v := rfl
theorem lwE_s {n a : Nat} : lwE B (n + 1) a = if 97 ≤ ni (B a) ∧ ni (B a) ≤ 122 then lwE B n (a + 1) else a := rfl
theorem skp_le : ∀ (n a : Nat), a ≤ skp B n a ∧ skp B n a ≤ a + n := by
  intro n
  induction n with
  | zero => intro a; exact ⟨Nat.le_refl _, Nat.le_refl _⟩
  | succ n ih =>
    intro a
    rw [skp_s]
    split
    · have := ih (a + 1); omega
    · omega
theorem skp_at : ∀ (n a : Nat), skp B n a < a + n → ¬ (B (skp B n a) = 32 ∨ B (skp B n a) = 10) := by
  intro n
  induction n with
  | zero => intro a h; exact absurd h (Nat.lt_irrefl _)
  | succ n ih =>
    intro a h
    rw [skp_s] at h ⊢
    by_cases hc : B a = 32 ∨ B a = 10
    · rw [if_pos hc] at h ⊢
      exact ih (a + 1) (by omega)
    · rw [if_neg hc]
      exact hc
theorem skp_id {n a : Nat} (h : 0 < n → ¬ (B a = 32 ∨ B a = 10)) : skp B n a = a := by
  cases n with
  | zero => rfl
  | succ n => rw [skp_s, if_neg (h (by omega))]
theorem skp_skp {t a : Nat} (ha : a ≤ t) : skp B (t - skp B (t - a) a) (skp B (t - a) a) = skp B (t - a) a := by
  have h1 := skp_le (B := B) (t - a) a
  exact skp_id (fun h => skp_at (t - a) a (by omega))
theorem dgE_le : ∀ (n a : Nat), a ≤ dgE B n a ∧ dgE B n a ≤ a + n := by
  intro n
  induction n with
  | zero => intro a; exact ⟨Nat.le_refl _, Nat.le_refl _⟩
  | succ n ih =>
    intro a
    rw [dgE_s]
    split
    · have := ih (a + 1); omega
    · omega
theorem lwE_le : ∀ (n a : Nat), a ≤ lwE B n a ∧ lwE B n a ≤ a + n := by
  intro n
  induction n with
  | zero => intro a; exact ⟨Nat.le_refl _, Nat.le_refl _⟩
  | succ n ih =>
    intro a
    rw [lwE_s]
    split
    · have := ih (a + 1); omega
    · omega
def bd (j : Nat) : Nat := if j = 0 then 1 else if j = 1 then 10 else if j = 2 then 100 else if j = 3 then 1000 else 10000
theorem dgV_lt {p : Nat} : ∀ (n a v : Nat), p ≤ a → v < bd (a - p) → dgV B p n a v < 10000 := by
  intro n
  induction n with
  | zero =>
    intro a v _ h
    show v < 10000
    unfold bd at h
    repeat' split at h
    all_goals omega
  | succ n ih =>
    intro a v hp h
    rw [dgV_s]
    by_cases hc : 48 ≤ ni (B a) ∧ ni (B a) ≤ 57
    · rw [if_pos hc]
      refine ih (a + 1) _ (by omega) ?_
      obtain ⟨j, rfl⟩ := Nat.exists_eq_add_of_le hp
      rw [show p + j + 1 - p = j + 1 by omega, show p + j - p = j by omega] at *
      unfold bd at h ⊢
      repeat' split at h
      all_goals (repeat' split)
      all_goals omega
    · rw [if_neg hc]
      unfold bd at h
      repeat' split at h
      all_goals omega
theorem dgV_9999 {p n : Nat} : dgV B p n p 0 < 10000 := dgV_lt n p 0 (Nat.le_refl _) (by rw [Nat.sub_self]; decide)
end Tok
theorem in_ni {x : Int32} {lo hi : Nat} (hl : 1 ≤ lo) (h1 : lo < 2147483648) (h2 : hi < 2147483648) : (¬ v_X5_in x (N lo) (N hi) = 0) ↔ (lo ≤ ni x ∧ ni x ≤ hi) := by
  unfold v_X5_in
  have hx : ni x = x.toInt.toNat := rfl
  by_cases g1 : x < N lo
  · rw [if_pos g1]
    rw [Int32.lt_iff_toInt_lt, N_toInt h1] at g1
    exact ⟨fun z => absurd rfl z, fun z => by omega⟩
  rw [if_neg g1]
  rw [Int32.lt_iff_toInt_lt, N_toInt h1] at g1
  by_cases g2 : N hi < x
  · rw [if_pos g2]
    rw [Int32.lt_iff_toInt_lt, N_toInt h2] at g2
    exact ⟨fun z => absurd rfl z, fun z => by omega⟩
  rw [if_neg g2]
  rw [Int32.lt_iff_toInt_lt, N_toInt h2] at g2
  exact ⟨fun _ => by omega, fun _ => one_nz⟩
theorem in_nz {a lo hi : Nat} (h1 : lo ≤ a) (h2 : a ≤ hi) (h : hi < 2147483648) : ¬ v_X5_in (N a) (N lo) (N hi) = 0 := by
  unfold v_X5_in
  rw [if_neg (g_nlt h1 (by omega)), if_neg (g_nlt h2 h)]
  exact one_nz
theorem in_ex {x : Int32} {lo hi : Nat} (h1 : lo < 2147483648) (h2 : hi < 2147483648) (h : ¬ v_X5_in x (N lo) (N hi) = 0) : ∃ a, x = N a ∧ lo ≤ a ∧ a ≤ hi := by
  unfold v_X5_in at h
  by_cases g1 : x < N lo
  · rw [if_pos g1] at h; exact absurd rfl h
  rw [if_neg g1] at h
  by_cases g2 : N hi < x
  · rw [if_pos g2] at h; exact absurd rfl h
  have hx : ¬ x < 0 := by
    intro z
    apply g1
    rw [Int32.lt_iff_toInt_lt] at z ⊢
    rw [N_toInt h1]
    rw [show (0 : Int32).toInt = 0 from rfl] at z
    omega
  obtain ⟨a, ha, rfl⟩ := ex_nn hx
  rw [N_lt ha h1] at g1
  rw [N_lt h2 ha] at g2
  exact ⟨a, rfl, by omega, by omega⟩
theorem in_lo {a lo hi : Nat} (h : a < lo) (hl : lo < 2147483648) : v_X5_in (N a) (N lo) (N hi) = 0 := by
  unfold v_X5_in
  rw [if_pos (g_lt h hl)]
theorem in_hi {a lo hi : Nat} (h : hi < a) (ha : a < 2147483648) : v_X5_in (N a) (N lo) (N hi) = 0 := by
  unfold v_X5_in
  by_cases g : N a < N lo
  · rw [if_pos g]
  · rw [if_neg g, if_pos (g_lt h ha)]
theorem up_self {σ : sg_S} {q k : Nat} {v : Int32} (h : σ q k = v) : sg_up σ q k v = σ := by
  funext q' k'
  rw [up_ite]
  split
  · rename_i e
    rw [e.1, e.2, h]
  · rfl
theorem up_up {σ : sg_S} {q k : Nat} {v w : Int32} : sg_up (sg_up σ q k v) q k w = sg_up σ q k w := by
  funext q' k'
  simp only [up_ite]
  repeat' split
  all_goals first | rfl | omega
/-! the reference skips blanks -/
theorem here_l0 {t : Nat} (h5 : t ≤ 500) : ∀ (n a : Nat) (σ : sg_S), σ 35 28 = N a → σ 35 26 = N t → a ≤ t → t - a < n → p_X5_here_l0 n σ ∧ r_X5_here_l0 n σ = (if skp (σ 57) (t - a) a < t then σ 57 (skp (σ 57) (t - a) a) else -1, sg_up σ 35 28 (N (skp (σ 57) (t - a) a))) := by
  intro n
  induction n with
  | zero => intro a σ _ _ _ hn; omega
  | succ n ih =>
    intro a σ ha ht hat hn
    show p_X5_here_b0 (p_X5_here_l0 n) σ ∧ r_X5_here_b0 (r_X5_here_l0 n) σ = _
    unfold p_X5_here_b0 r_X5_here_b0
    rw [ha, ht, ni_N (show a < 2147483648 by omega)]
    by_cases e : a = t
    · subst e
      have hc : N a ≤ N a := Int32.le_refl _
      rw [if_pos hc, if_pos hc, Nat.sub_self, show skp (σ 57) 0 a = a from rfl, if_neg (Nat.lt_irrefl _), up_self ha]
      exact ⟨⟨fun _ z => absurd hc z, fun z => absurd hc z⟩, rfl⟩
    · have hc : ¬ N t ≤ N a := g_nle (by omega) (by omega)
      have hx : ix (N a) 500 := ix_N (by omega) (by decide)
      obtain ⟨d, hd⟩ : ∃ d, t - a = d + 1 := ⟨t - a - 1, by omega⟩
      have hd2 : t - (a + 1) = d := by omega
      rw [if_neg hc, if_neg hc]
      have hb : (σ 57 a = 32 ∨ σ 57 a = 10) → p_X5_here_l0 n (sg_up σ 35 28 (N a + 1)) ∧ r_X5_here_l0 n (sg_up σ 35 28 (N a + 1)) = (if skp (σ 57) (t - a) a < t then σ 57 (skp (σ 57) (t - a) a) else -1, sg_up σ 35 28 (N (skp (σ 57) (t - a) a))) := by
        intro hbl
        rw [N_inc]
        obtain ⟨i1, i2⟩ := ih (a + 1) (sg_up σ 35 28 (N (a + 1))) up_eq (by rw [up_k (by decide)]; exact ht) (by omega) (by omega)
        refine ⟨i1, ?_⟩
        have e57 : (sg_up σ 35 28 (N (a + 1))) 57 = σ 57 := funext (fun k => up_c (by decide))
        rw [i2, e57, hd2, hd, skp_s, if_pos hbl, up_up]
      by_cases g1 : σ 57 a = 32
      · rw [if_pos g1]
        obtain ⟨i1, i2⟩ := hb (Or.inl g1)
        exact ⟨⟨fun z => absurd z hc, fun _ => ⟨hx, fun _ => i1, fun z => absurd g1 z⟩⟩, i2⟩
      · rw [if_neg g1]
        by_cases g2 : σ 57 a = 10
        · rw [if_neg (fun z => z g2)]
          obtain ⟨i1, i2⟩ := hb (Or.inr g2)
          exact ⟨⟨fun z => absurd z hc, fun _ => ⟨hx, fun z => absurd z g1, fun _ => ⟨hx, fun z => absurd g2 z, fun _ => i1⟩⟩⟩, i2⟩
        · have hs : skp (σ 57) (t - a) a = a := skp_id (fun _ z => z.elim g1 g2)
          rw [if_pos g2, hs, if_pos (by omega), up_self ha]
          exact ⟨⟨fun z => absurd z hc, fun _ => ⟨hx, fun z => absurd z g1, fun _ => ⟨hx, fun _ _ => hx, fun z => absurd g2 z⟩⟩⟩, rfl⟩
theorem here_ok {σ : sg_S} {a t : Nat} (ha : σ 35 28 = N a) (ht : σ 35 26 = N t) (hat : a ≤ t) (h5 : t ≤ 500) : p_X5_here σ ∧ (r_X5_here σ).1 = (if skp (σ 57) (t - a) a < t then σ 57 (skp (σ 57) (t - a) a) else -1) ∧ (r_X5_here σ).2 = sg_up σ 35 28 (N (skp (σ 57) (t - a) a)) := by
  obtain ⟨h1, h2⟩ := here_l0 h5 600 a σ ha ht hat (by omega)
  have h2 : r_X5_here σ = _ := h2
  rw [h2]
  exact ⟨h1, rfl, rfl⟩
/-! the reference reads a number -/
def NSame (σ σ' : sg_S) : Prop := ∀ q k, ¬ (q = 35 ∧ (k = 28 ∨ k = 29 ∨ k = 30 ∨ k = 32)) → σ' q k = σ q k
theorem NSame.rf {σ : sg_S} : NSame σ σ := fun _ _ _ => rfl
theorem NSame.tr {σ σ1 σ2 : sg_S} (h : NSame σ σ1) (h' : NSame σ1 σ2) : NSame σ σ2 := fun q k a => (h' q k a).trans (h q k a)
theorem NSame.row {σ σ' : sg_S} (h : NSame σ σ') {q : Nat} (h1 : ¬ q = 35) : σ' q = σ q := funext (fun k => h q k (fun z => h1 z.1))
theorem NSame_u {σ : sg_S} {k0 : Nat} {v : Int32} (h : k0 = 28 ∨ k0 = 29 ∨ k0 = 30 ∨ k0 = 32) : NSame σ (sg_up σ 35 k0 v) := fun q k h1 => up_ne (by omega)
theorem rfails_eq {σ : sg_S} {kd p : Nat} : r_X5_fails σ (N kd) (N p) = (0, sg_up σ 35 29 (N (kd + 8 * p))) := by
  unfold r_X5_fails
  rw [show (8 : Int32) = N 8 from rfl, N_mul, N_add]
theorem rnum37 {t p : Nat} (h5 : t ≤ 500) : ∀ (n a v : Nat) (σ : sg_S), σ 35 28 = N a → σ 35 26 = N t → σ 35 32 = N p → σ 35 30 = N v → p ≤ a → a ≤ t → t - a < n →
    p_X5_readNumber_l37 n σ ∧ NSame σ (r_X5_readNumber_l37 n σ).2 ∧ (r_X5_readNumber_l37 n σ).2 35 28 = N (dgE (σ 57) (t - a) a) ∧ (r_X5_readNumber_l37 n σ).2 35 30 = N (dgV (σ 57) p (t - a) a v) ∧ (r_X5_readNumber_l37 n σ).2 35 32 = N p ∧
    (dgE (σ 57) (t - a) a - p ≤ 4 → (r_X5_readNumber_l37 n σ).1 = 1 ∧ (r_X5_readNumber_l37 n σ).2 35 29 = σ 35 29) ∧ (¬ dgE (σ 57) (t - a) a - p ≤ 4 → (r_X5_readNumber_l37 n σ).1 = 0 ∧ (r_X5_readNumber_l37 n σ).2 35 29 = N (2 + 8 * p)) := by
  intro n
  induction n with
  | zero => intro a v σ _ _ _ _ _ _ hn; omega
  | succ n ih =>
    intro a v σ ha ht hp hv hpa hat hn
    have hend : dgE (σ 57) (t - a) a = a → dgV (σ 57) p (t - a) a v = v → NSame σ (r_X5_readNumber_a124 σ).2 ∧ (r_X5_readNumber_a124 σ).2 35 28 = N (dgE (σ 57) (t - a) a) ∧ (r_X5_readNumber_a124 σ).2 35 30 = N (dgV (σ 57) p (t - a) a v) ∧ (r_X5_readNumber_a124 σ).2 35 32 = N p ∧
        (dgE (σ 57) (t - a) a - p ≤ 4 → (r_X5_readNumber_a124 σ).1 = 1 ∧ (r_X5_readNumber_a124 σ).2 35 29 = σ 35 29) ∧ (¬ dgE (σ 57) (t - a) a - p ≤ 4 → (r_X5_readNumber_a124 σ).1 = 0 ∧ (r_X5_readNumber_a124 σ).2 35 29 = N (2 + 8 * p)) := by
      intro e1 e2
      rw [e1, e2]
      unfold r_X5_readNumber_a124
      rw [ha, hp, N_sub hpa, show (2 : Int32) = N 2 from rfl, rfails_eq]
      by_cases g : a - p ≤ 4
      · rw [if_pos (by exact g_le (L := 4) g (by decide))]
        exact ⟨NSame.rf, ha, hv, hp, fun _ => ⟨rfl, rfl⟩, fun z => absurd g z⟩
      · rw [if_neg (by exact g_nle (a := 4) (by omega) (by omega)), if_pos rfl]
        dsimp only
        exact ⟨NSame_u (by decide), by rw [up_k (by decide)]; exact ha, by rw [up_k (by decide)]; exact hv, by rw [up_k (by decide)]; exact hp, fun z => absurd z g, fun _ => ⟨rfl, up_eq⟩⟩
    by_cases e : a = t
    · have hc : σ 35 26 ≤ σ 35 28 := by rw [ha, ht, e]; exact Int32.le_refl _
      have er : r_X5_readNumber_l37 (n + 1) σ = r_X5_readNumber_a124 σ := by
        show r_X5_readNumber_b37 (r_X5_readNumber_l37 n) σ = _
        unfold r_X5_readNumber_b37
        rw [if_pos hc]
      rw [er]
      refine ⟨fun z => absurd hc z, hend ?_ ?_⟩
      · rw [e, Nat.sub_self]; rfl
      · rw [e, Nat.sub_self]; rfl
    have hc : ¬ σ 35 26 ≤ σ 35 28 := by rw [ha, ht]; exact g_nle (by omega) (by omega)
    have hx : ix (σ 35 28) 500 := by rw [ha]; exact ix_N (by omega) (by decide)
    have hni : ni (σ 35 28) = a := by rw [ha]; exact ni_N (by omega)
    obtain ⟨d, hd⟩ : ∃ d, t - a = d + 1 := ⟨t - a - 1, by omega⟩
    have hd2 : t - (a + 1) = d := by omega
    have hin := in_ni (x := σ 57 a) (lo := 48) (hi := 57) (by decide) (by decide) (by decide)
    by_cases hD : 48 ≤ ni (σ 57 a) ∧ ni (σ 57 a) ≤ 57
    · have hz : ¬ v_X5_in (σ 57 (ni (σ 35 28))) 48 57 = 0 := by rw [hni]; exact hin.mpr hD
      have eE : dgE (σ 57) (t - a) a = dgE (σ 57) (t - (a + 1)) (a + 1) := by rw [hd, dgE_s, if_pos hD, hd2]
      have eV : dgV (σ 57) p (t - a) a v = dgV (σ 57) p (t - (a + 1)) (a + 1) (if 4 ≤ a - p then v else 10 * v + (ni (σ 57 a) - 48)) := by rw [hd, dgV_s, if_pos hD, hd2]
      rw [eE, eV]
      by_cases g4 : 4 ≤ a - p
      · have hc4 : (4 : Int32) ≤ σ 35 28 - σ 35 32 := by
          rw [ha, hp, N_sub hpa]; exact g_le (a := 4) g4 (by omega)
        have et : t_X5_readNumber_1 σ = sg_up σ 35 28 (N (a + 1)) := by
          unfold t_X5_readNumber_1
          rw [up_self rfl, ha, N_inc]
        have er : r_X5_readNumber_l37 (n + 1) σ = r_X5_readNumber_l37 n (sg_up σ 35 28 (N (a + 1))) := by
          show r_X5_readNumber_b37 (r_X5_readNumber_l37 n) σ = _
          unfold r_X5_readNumber_b37
          rw [if_neg hc, if_neg hz, if_pos hc4, et]
        have e57 : (sg_up σ 35 28 (N (a + 1))) 57 = σ 57 := funext (fun k => up_c (by decide))
        obtain ⟨i1, i2, i3, i4, i5, i6, i7⟩ := ih (a + 1) v (sg_up σ 35 28 (N (a + 1))) up_eq (by rw [up_k (by decide)]; exact ht) (by rw [up_k (by decide)]; exact hp) (by rw [up_k (by decide)]; exact hv) (by omega) (by omega) (by omega)
        rw [e57] at i3 i4 i6 i7
        rw [up_k (by decide)] at i6
        rw [er, if_pos g4]
        refine ⟨fun _ => ⟨hx, fun _ => ⟨fun _ => ?_, fun z => absurd hc4 z⟩⟩, (NSame_u (by decide)).tr i2, i3, i4, i5, i6, i7⟩
        show p_X5_readNumber_l37 n (t_X5_readNumber_1 σ)
        rw [et]; exact i1
      · have hc4 : ¬ (4 : Int32) ≤ σ 35 28 - σ 35 32 := by
          rw [ha, hp, N_sub hpa]; exact g_nle (L := 4) (by omega) (by decide)
        have eb : σ 57 a = N (48 + (ni (σ 57 a) - 48)) := by
          rw [show 48 + (ni (σ 57 a) - 48) = ni (σ 57 a) by omega]
          exact (ni_pos (by omega)).symm
        have ev : 10 * N v + σ 57 a - 48 = N (10 * v + (ni (σ 57 a) - 48)) := by
          rw [show (10 : Int32) = N 10 from rfl, show (48 : Int32) = N 48 from rfl, N_mul]
          rw [show N (10 * v) + σ 57 a = N (10 * v + (48 + (ni (σ 57 a) - 48))) by rw [← N_add, ← eb], N_sub (by omega)]
          congr 1
          omega
        have et : t_X5_readNumber_3 σ = sg_up (sg_up σ 35 30 (N (10 * v + (ni (σ 57 a) - 48)))) 35 28 (N (a + 1)) := by
          unfold t_X5_readNumber_3 t_X5_readNumber_2
          rw [hni, hv, ev, up_k (by decide), ha, N_inc]
        have er : r_X5_readNumber_l37 (n + 1) σ = r_X5_readNumber_l37 n (sg_up (sg_up σ 35 30 (N (10 * v + (ni (σ 57 a) - 48)))) 35 28 (N (a + 1))) := by
          show r_X5_readNumber_b37 (r_X5_readNumber_l37 n) σ = _
          unfold r_X5_readNumber_b37
          rw [if_neg hc, if_neg hz, if_neg hc4, et]
        have e57 : (sg_up (sg_up σ 35 30 (N (10 * v + (ni (σ 57 a) - 48)))) 35 28 (N (a + 1))) 57 = σ 57 := funext (fun k => by rw [up_c (by decide), up_c (by decide)])
        obtain ⟨i1, i2, i3, i4, i5, i6, i7⟩ := ih (a + 1) (10 * v + (ni (σ 57 a) - 48)) (sg_up (sg_up σ 35 30 (N (10 * v + (ni (σ 57 a) - 48)))) 35 28 (N (a + 1))) up_eq (by rw [up_k (by decide), up_k (by decide)]; exact ht) (by rw [up_k (by decide), up_k (by decide)]; exact hp) (by rw [up_k (by decide), up_eq]) (by omega) (by omega) (by omega)
        rw [e57] at i3 i4 i6 i7
        rw [up_k (by decide), up_k (by decide)] at i6
        rw [er, if_neg g4]
        refine ⟨fun _ => ⟨hx, fun _ => ⟨fun z => absurd z hc4, fun _ => ⟨hx, ?_⟩⟩⟩, ((NSame_u (by decide)).tr (NSame_u (by decide))).tr i2, i3, i4, i5, i6, i7⟩
        show p_X5_readNumber_l37 n (t_X5_readNumber_3 σ)
        rw [et]; exact i1
    · have hz : v_X5_in (σ 57 (ni (σ 35 28))) 48 57 = 0 := by
        rw [hni]
        exact Decidable.not_not.mp (fun z => hD (hin.mp z))
      have er : r_X5_readNumber_l37 (n + 1) σ = r_X5_readNumber_a124 σ := by
        show r_X5_readNumber_b37 (r_X5_readNumber_l37 n) σ = _
        unfold r_X5_readNumber_b37
        rw [if_neg hc, if_pos hz]
      rw [er]
      refine ⟨fun _ => ⟨hx, fun z => absurd hz z⟩, hend ?_ ?_⟩
      · rw [hd, dgE_s, if_neg hD]
      · rw [hd, dgV_s, if_neg hD]
theorem rnum_ok {σ : sg_S} {a t : Nat} (ha : σ 35 28 = N a) (ht : σ 35 26 = N t) (hat : a ≤ t) (h5 : t ≤ 500) {p e v : Nat} (hp : skp (σ 57) (t - a) a = p) (he : dgE (σ 57) (t - p) p = e) (hv : dgV (σ 57) p (t - p) p 0 = v) :
    p_X5_readNumber σ ∧ NSame σ (r_X5_readNumber σ).2 ∧ (r_X5_readNumber σ).2 35 28 = N e ∧ (p < e → e - p ≤ 4 → (r_X5_readNumber σ).1 = 1 ∧ (r_X5_readNumber σ).2 35 30 = N v ∧ (r_X5_readNumber σ).2 35 32 = N p ∧ (r_X5_readNumber σ).2 35 29 = σ 35 29) ∧
    (p < e → ¬ e - p ≤ 4 → (r_X5_readNumber σ).1 = 0 ∧ (r_X5_readNumber σ).2 35 29 = N (2 + 8 * p)) ∧ (¬ p < e → (r_X5_readNumber σ).1 = 0 ∧ (r_X5_readNumber σ).2 35 29 = N (1 + 8 * p)) := by
  obtain ⟨h1, h2, h3⟩ := here_ok ha ht hat h5
  have hpl := skp_le (B := σ 57) (t - a) a
  rw [hp] at h2 h3 hpl
  have hin := in_ni (x := σ 57 p) (lo := 48) (hi := 57) (by decide) (by decide) (by decide)
  have e28 : (r_X5_here σ).2 35 28 = N p := by rw [h3]; exact up_eq
  by_cases hD : p < t ∧ (48 ≤ ni (σ 57 p) ∧ ni (σ 57 p) ≤ 57)
  · have hz : ¬ v_X5_in (r_X5_here σ).1 48 57 = 0 := by
      rw [h2, if_pos hD.1]
      exact hin.mpr hD.2
    have hpe : p < e := by
      obtain ⟨d, hd⟩ : ∃ d, t - p = d + 1 := ⟨t - p - 1, by omega⟩
      have := dgE_le (B := σ 57) d (p + 1)
      rw [hd, dgE_s, if_pos hD.2] at he
      omega
    have et : sg_up (t_X5_readNumber_0 σ) 35 30 0 = sg_up (sg_up (sg_up σ 35 28 (N p)) 35 32 (N p)) 35 30 0 := by
      unfold t_X5_readNumber_0
      rw [e28, h3]
    have er : r_X5_readNumber σ = r_X5_readNumber_l37 600 (sg_up (sg_up (sg_up σ 35 28 (N p)) 35 32 (N p)) 35 30 0) := by
      unfold r_X5_readNumber
      rw [if_pos hz, et]
    have e57 : (sg_up (sg_up (sg_up σ 35 28 (N p)) 35 32 (N p)) 35 30 0) 57 = σ 57 := funext (fun k => by rw [up_c (by decide), up_c (by decide), up_c (by decide)])
    obtain ⟨i1, i2, i3, i4, i5, i6, i7⟩ := rnum37 (p := p) h5 600 p 0 (sg_up (sg_up (sg_up σ 35 28 (N p)) 35 32 (N p)) 35 30 0) (by rw [up_k (by decide), up_k (by decide), up_eq]) (by rw [up_k (by decide), up_k (by decide), up_k (by decide)]; exact ht) (by rw [up_k (by decide), up_eq]) up_eq (Nat.le_refl _) (by omega) (by omega)
    rw [e57, he] at i3 i6 i7
    rw [e57, hv] at i4
    rw [up_k (by decide), up_k (by decide), up_k (by decide)] at i6
    rw [er]
    refine ⟨⟨h1, fun _ => ?_⟩, ((((NSame_u (by decide)).tr (NSame_u (by decide))).tr (NSame_u (by decide)))).tr i2, i3, fun _ g => ?_, fun _ g => i7 g, fun z => absurd hpe z⟩
    · rw [et]; exact i1
    · obtain ⟨j1, j2⟩ := i6 g
      exact ⟨j1, i4, i5, j2⟩
  · have hz : v_X5_in (r_X5_here σ).1 48 57 = 0 := by
      rw [h2]
      by_cases g : p < t
      · rw [if_pos g]
        exact Decidable.not_not.mp (fun z => hD ⟨g, hin.mp z⟩)
      · rw [if_neg g]; decide
    have hpe : e = p := by
      rw [← he]
      by_cases g : p < t
      · obtain ⟨d, hd⟩ : ∃ d, t - p = d + 1 := ⟨t - p - 1, by omega⟩
        rw [hd, dgE_s, if_neg (fun z => hD ⟨g, z⟩)]
      · rw [show t - p = 0 by omega]; rfl
    have er : r_X5_readNumber σ = (0, sg_up (sg_up σ 35 28 (N p)) 35 29 (N (1 + 8 * p))) := by
      unfold r_X5_readNumber t_X5_readNumber_4
      rw [if_neg (fun z => z hz), e28, show (1 : Int32) = N 1 from rfl, rfails_eq, h3]
    rw [er, hpe]
    dsimp only
    exact ⟨⟨h1, fun z => absurd hz z⟩, (NSame_u (by decide)).tr (NSame_u (by decide)), by rw [up_k (by decide), up_eq], fun z => absurd z (Nat.lt_irrefl _), fun z => absurd z (Nat.lt_irrefl _), fun _ => ⟨rfl, up_eq⟩⟩
end
section
/-! THE REFERENCE READS A TABLE -/
def GoodV (V : Nat → Nat) : Prop := ∀ j, j < 50 → (j % 5 = 0 → V j = 0) ∧ (¬ j % 5 = 0 → 1 ≤ V j ∧ V j ≤ 1000)
def XSame (σ σ' : sg_S) : Prop := ∀ q k, ¬ q = 38 → ¬ (q = 35 ∧ 28 ≤ k ∧ k ≤ 32) → σ' q k = σ q k
theorem XSame.rf {σ : sg_S} : XSame σ σ := fun _ _ _ _ => rfl
theorem XSame.tr {σ σ1 σ2 : sg_S} (h : XSame σ σ1) (h' : XSame σ1 σ2) : XSame σ σ2 := fun q k a b => (h' q k a b).trans (h q k a b)
theorem XSame.row {σ σ' : sg_S} (h : XSame σ σ') {q : Nat} (h1 : ¬ q = 38) (h2 : ¬ q = 35) : σ' q = σ q := funext (fun k => h q k h1 (fun z => h2 z.1))
theorem XSame_u {σ : sg_S} {k0 : Nat} {v : Int32} (h : 28 ≤ k0 ∧ k0 ≤ 32) : XSame σ (sg_up σ 35 k0 v) := fun q k _ h1 => up_ne (by omega)
theorem XSame_38 {σ : sg_S} {k0 : Nat} {v : Int32} : XSame σ (sg_up σ 38 k0 v) := fun q k h1 _ => up_c h1
theorem NSame.x {σ σ' : sg_S} (h : NSame σ σ') : XSame σ σ' := fun q k _ h2 => h q k (by omega)
theorem rf_fails {σ : sg_S} {x y : Int32} : (r_X5_fails σ x y).1 = 0 ∧ ∃ z, (r_X5_fails σ x y).2 = sg_up σ 35 29 z := ⟨rfl, _, rfl⟩
theorem Tab_good {T : Nat → Nat} (h : TabOK T) : GoodV T := by
  intro j hj
  obtain ⟨h0, h1, h2, h3, h4, h5⟩ := h.1 (j / 5) (by omega)
  refine ⟨fun e => ?_, fun e => ?_⟩
  · rw [show j = 5 * (j / 5) by omega]; exact h0
  · rcases (show j = 5 * (j / 5) + 1 ∨ j = 5 * (j / 5) + 2 ∨ j = 5 * (j / 5) + 3 ∨ j = 5 * (j / 5) + 4 by omega) with e | e | e | e <;> (rw [e]; omega)
theorem GoodV_du {V : Nat → Nat} {w k v : Nat} (h : GoodV V) (hw : w < 10) (hk : 1 ≤ k) (hk2 : k < 5) (h1 : 1 ≤ v) (h2 : v ≤ 1000) : GoodV (du V (5 * w + k) v) := by
  intro j hj
  by_cases e : j = 5 * w + k
  · subst e
    rw [du_eq]
    exact ⟨fun z => by omega, fun _ => ⟨h1, h2⟩⟩
  · rw [du_ne e]; exact h j hj
theorem TabAt_du {σ : sg_S} {V : Nat → Nat} {q j v : Nat} (h : TabAt σ q V) : TabAt (sg_up σ q j (N v)) q (du V j v) := by
  intro k hk
  by_cases e : k = j
  · subst e; rw [up_eq, du_eq]
  · rw [up_k e, du_ne e]; exact h k hk
theorem TabAt_row {σ σ' : sg_S} {V : Nat → Nat} {q : Nat} (h : TabAt σ q V) (e : σ' q = σ q) : TabAt σ' q V := fun k hk => by rw [e]; exact h k hk
/-- what a reading of rows leaves -/
def RowR (σ : sg_S) (t a : Nat) (r : Int32 × sg_S) : Prop := ∃ V a', TabAt r.2 38 V ∧ GoodV V ∧ r.2 35 28 = N a' ∧ a ≤ a' ∧ a' ≤ t ∧ XSame σ r.2
theorem RowR.of {σ σ1 : sg_S} {t a a1 : Nat} {r : Int32 × sg_S} (h : RowR σ1 t a1 r) (ha : a ≤ a1) (hs : XSame σ σ1) : RowR σ t a r := by
  obtain ⟨V, a', h1, h2, h3, h4, h5, h6⟩ := h
  exact ⟨V, a', h1, h2, h3, by omega, h5, hs.tr h6⟩
theorem RowR_fail {σ : sg_S} {t a : Nat} {V : Nat → Nat} {z x : Int32} (hV : TabAt σ 38 V) (hG : GoodV V) (ha : σ 35 28 = N a) (hat : a ≤ t) : RowR σ t a (x, sg_up σ 35 29 z) :=
  ⟨V, a, TabAt_up hV (by decide), hG, by show sg_up σ 35 29 z 35 28 = N a; rw [up_k (by decide)]; exact ha, Nat.le_refl _, hat, XSame_u (by decide)⟩
theorem rrow158 {t w : Nat} (h5 : t ≤ 500) (hw : w < 10) : ∀ (n k a : Nat) (σ : sg_S) (V : Nat → Nat), 1 ≤ k → k ≤ 5 → 5 - k < n → σ 35 28 = N a → σ 35 26 = N t → a ≤ t → TabAt σ 38 V → GoodV V → p_X5_readRow_l158 n σ (N w) (N k) ∧ RowR σ t a (r_X5_readRow_l158 n σ (N w) (N k)) := by
  intro n
  induction n with
  | zero => intro k a σ V _ _ hn; omega
  | succ n ih =>
    intro k a σ V hk1 hk5 hn ha ht hat hV hG
    show p_X5_readRow_b158 (p_X5_readRow_l158 n) σ (N w) (N k) ∧ RowR σ t a (r_X5_readRow_b158 (r_X5_readRow_l158 n) σ (N w) (N k))
    unfold p_X5_readRow_b158 r_X5_readRow_b158
    by_cases e : k = 5
    · have hc : (4 : Int32) < N k := by
        show N 4 < N k
        exact g_lt (by omega) (by omega)
      obtain ⟨h1, h2, h3⟩ := here_ok ha ht hat h5
      have hl := skp_le (B := σ 57) (t - a) a
      rw [if_pos hc]
      refine ⟨⟨fun _ => h1, fun z => absurd hc z⟩, ?_⟩
      have hV1 : TabAt (r_X5_here σ).2 38 V := by rw [h3]; exact TabAt_up hV (by decide)
      have h28 : (r_X5_here σ).2 35 28 = N (skp (σ 57) (t - a) a) := by rw [h3]; exact up_eq
      have hX1 : XSame σ (r_X5_here σ).2 := by rw [h3]; exact XSame_u (by decide)
      by_cases g : (r_X5_here σ).1 = 59
      · rw [if_pos g]
        have hlt : skp (σ 57) (t - a) a < t := by
          by_cases z : skp (σ 57) (t - a) a < t
          · exact z
          · rw [h2, if_neg z] at g
            exact absurd g (by decide)
        refine ⟨V, skp (σ 57) (t - a) a + 1, ?_, hG, ?_, by omega, by omega, ?_⟩
        · show TabAt (t_X5_readRow_1 σ (N w) (N k)) 38 V
          unfold t_X5_readRow_1 t_X5_readRow_0
          exact TabAt_up (TabAt_up hV1 (by decide)) (by decide)
        · show (t_X5_readRow_1 σ (N w) (N k)) 35 28 = _
          unfold t_X5_readRow_1 t_X5_readRow_0
          rw [up_k (by decide), up_eq, h28, N_inc]
        · show XSame σ (t_X5_readRow_1 σ (N w) (N k))
          unfold t_X5_readRow_1 t_X5_readRow_0
          exact hX1.tr ((XSame_u (by decide)).tr (XSame_u (by decide)))
      · rw [if_neg g]
        exact (RowR_fail hV1 hG h28 (by omega)).of (by omega) hX1
    · have hc : ¬ (4 : Int32) < N k := by
        show ¬ N 4 < N k
        exact g_nlt (by omega) (by decide)
      have hpl := skp_le (B := σ 57) (t - a) a
      have hel := dgE_le (B := σ 57) (t - skp (σ 57) (t - a) a) (skp (σ 57) (t - a) a)
      obtain ⟨n1, n2, n3, n4, n5, n6⟩ := rnum_ok ha ht hat h5 rfl rfl rfl
      rw [if_neg hc]
      have hV1 : TabAt (r_X5_readNumber σ).2 38 V := TabAt_row hV (n2.row (by decide))
      have ex : 5 * N w + N k = N (5 * w + k) := by rw [show (5 : Int32) = N 5 from rfl, N_mul, N_add]
      by_cases hr : ¬ (r_X5_readNumber σ).1 = 0
      · rw [if_pos hr]
        have hpe : skp (σ 57) (t - a) a < dgE (σ 57) (t - skp (σ 57) (t - a) a) (skp (σ 57) (t - a) a) := by
          refine Decidable.not_not.mp (fun z => hr (n6 z).1)
        have h4 : dgE (σ 57) (t - skp (σ 57) (t - a) a) (skp (σ 57) (t - a) a) - skp (σ 57) (t - a) a ≤ 4 := by
          refine Decidable.not_not.mp (fun z => hr (n5 hpe z).1)
        obtain ⟨m1, m2, m3, m4⟩ := n4 hpe h4
        have hv := dgV_9999 (B := σ 57) (p := skp (σ 57) (t - a) a) (n := t - skp (σ 57) (t - a) a)
        by_cases hin : ¬ v_X5_in ((r_X5_readNumber σ).2 35 30) 1 1000 = 0
        · rw [if_pos hin]
          have hin2 := (in_ni (lo := 1) (hi := 1000) (by decide) (by decide) (by decide)).mp hin
          rw [m2, ni_N (by omega)] at hin2
          have et : t_X5_readRow_3 σ (N w) (N k) = sg_up (r_X5_readNumber σ).2 38 (5 * w + k) (N (dgV (σ 57) (skp (σ 57) (t - a) a) (t - skp (σ 57) (t - a) a) (skp (σ 57) (t - a) a) 0)) := by
            unfold t_X5_readRow_3
            rw [ex, ni_N (by omega), m2]
          have hV2 := TabAt_du (j := 5 * w + k) (v := dgV (σ 57) (skp (σ 57) (t - a) a) (t - skp (σ 57) (t - a) a) (skp (σ 57) (t - a) a) 0) hV1
          have hG2 := GoodV_du hG hw hk1 (by omega) hin2.1 hin2.2
          obtain ⟨i1, i2⟩ := ih (k + 1) (dgE (σ 57) (t - skp (σ 57) (t - a) a) (skp (σ 57) (t - a) a)) (t_X5_readRow_3 σ (N w) (N k)) _ (by omega) (by omega) (by omega) (by rw [et, up_c (by decide)]; exact n3) (by rw [et, up_c (by decide), n2 35 26 (by decide)]; exact ht) (by omega) (by rw [et]; exact hV2) hG2
          rw [N_inc]
          refine ⟨⟨fun z => absurd z hc, fun _ => ⟨n1, fun _ _ => ⟨by rw [ex]; exact ix_N (by omega) (by decide), i1⟩⟩⟩, i2.of (by omega) ?_⟩
          rw [et]
          exact n2.x.tr XSame_38
        · rw [if_neg hin]
          exact ⟨⟨fun z => absurd z hc, fun _ => ⟨n1, fun _ z => absurd z hin⟩⟩, (RowR_fail hV1 hG n3 (by omega)).of (by omega) n2.x⟩
      · rw [if_neg hr]
        exact ⟨⟨fun z => absurd z hc, fun _ => ⟨n1, fun z => absurd z hr⟩⟩, V, _, hV1, hG, n3, by omega, by omega, n2.x⟩
theorem lw29 {t : Nat} {x1 : Int32} (h5 : t ≤ 500) : ∀ (n a : Nat) (σ : sg_S), σ 35 28 = N a → σ 35 26 = N t → a ≤ t → t - a < n → (p_X5_readRow_a72 (sg_up σ 35 28 (N (lwE (σ 57) (t - a) a))) x1 → p_X5_readRow_l29 n σ x1) ∧ r_X5_readRow_l29 n σ x1 = r_X5_readRow_a72 (sg_up σ 35 28 (N (lwE (σ 57) (t - a) a))) x1 := by
  intro n
  induction n with
  | zero => intro a σ _ _ _ hn; omega
  | succ n ih =>
    intro a σ ha ht hat hn
    show (_ → p_X5_readRow_b29 (p_X5_readRow_l29 n) σ x1) ∧ r_X5_readRow_b29 (r_X5_readRow_l29 n) σ x1 = _
    unfold p_X5_readRow_b29 r_X5_readRow_b29
    by_cases e : a = t
    · have hc : σ 35 26 ≤ σ 35 28 := by rw [ha, ht, e]; exact Int32.le_refl _
      rw [if_pos hc, e, Nat.sub_self, show lwE (σ 57) 0 t = t from rfl, up_self (by rw [ha, e])]
      exact ⟨fun h => ⟨fun _ => h, fun z => absurd hc z⟩, rfl⟩
    have hc : ¬ σ 35 26 ≤ σ 35 28 := by rw [ha, ht]; exact g_nle (by omega) (by omega)
    have hx : ix (σ 35 28) 500 := by rw [ha]; exact ix_N (by omega) (by decide)
    have hni : ni (σ 35 28) = a := by rw [ha]; exact ni_N (by omega)
    obtain ⟨d, hd⟩ : ∃ d, t - a = d + 1 := ⟨t - a - 1, by omega⟩
    have hd2 : t - (a + 1) = d := by omega
    have hin := in_ni (x := σ 57 a) (lo := 97) (hi := 122) (by decide) (by decide) (by decide)
    rw [if_neg hc]
    by_cases hD : 97 ≤ ni (σ 57 a) ∧ ni (σ 57 a) ≤ 122
    · have hz : ¬ v_X5_in (σ 57 (ni (σ 35 28))) 97 122 = 0 := by rw [hni]; exact hin.mpr hD
      have e57 : (sg_up σ 35 28 (N (a + 1))) 57 = σ 57 := funext (fun k => up_c (by decide))
      obtain ⟨i1, i2⟩ := ih (a + 1) (sg_up σ 35 28 (N (a + 1))) up_eq (by rw [up_k (by decide)]; exact ht) (by omega) (by omega)
      rw [e57, up_up, hd2] at i1 i2
      rw [if_neg hz, ha, N_inc, hd, lwE_s, if_pos hD]
      rw [ha] at hx hc
      exact ⟨fun h => ⟨fun z => absurd z hc, fun _ => ⟨hx, fun z => absurd z (by rw [← ha]; exact hz), fun _ => i1 h⟩⟩, i2⟩
    · have hz : v_X5_in (σ 57 (ni (σ 35 28))) 97 122 = 0 := by
        rw [hni]
        exact Decidable.not_not.mp (fun z => hD (hin.mp z))
      rw [if_pos hz, hd, lwE_s, if_neg hD, up_self ha]
      exact ⟨fun h => ⟨fun z => absurd z hc, fun _ => ⟨hx, fun _ => h, fun z => absurd hz z⟩⟩, rfl⟩
theorem rrow72 {t f a : Nat} {σ : sg_S} {V : Nat → Nat} (h5 : t ≤ 500) (ha : σ 35 28 = N a) (ht : σ 35 26 = N t) (hat : a ≤ t) (hfa : f ≤ a) (hV : TabAt σ 38 V) (hG : GoodV V) : p_X5_readRow_a72 σ (N f) ∧ RowR σ t a (r_X5_readRow_a72 σ (N f)) ∧ (¬ (r_X5_readRow_a72 σ (N f)).1 = 0 → a = f + 3) := by
  have e1 : N f + 1 = N (f + 1) := N_add f 1
  have e2 : N f + 2 = N (f + 2) := N_add f 2
  have hfl : ∀ x : Int32, RowR σ t a ((r_X5_fails σ 1 (N f)).1, (r_X5_fails σ 1 (N f)).2) ∧ (¬ ((r_X5_fails σ 1 (N f)).1, (r_X5_fails σ 1 (N f)).2).1 = 0 → a = f + 3) := fun x => ⟨RowR_fail hV hG ha hat, fun z => absurd rfl z⟩
  unfold p_X5_readRow_a72 r_X5_readRow_a72
  rw [ha, N_sub hfa]
  by_cases g3 : a - f = 3
  · have hc : N (a - f) = 3 := by rw [g3]; rfl
    rw [if_neg (fun z => z hc)]
    have x0 : ix (N f) 500 := ix_N (by omega) (by decide)
    have x1 : ix (N f + 1) 500 := by rw [e1]; exact ix_N (by omega) (by decide)
    have x2 : ix (N f + 2) 500 := by rw [e2]; exact ix_N (by omega) (by decide)
    have hpl := skp_le (B := σ 57) (t - a) a
    have hel := dgE_le (B := σ 57) (t - skp (σ 57) (t - a) a) (skp (σ 57) (t - a) a)
    obtain ⟨n1, n2, n3, n4, n5, n6⟩ := rnum_ok ha ht hat h5 rfl rfl rfl
    have hV1 : TabAt (r_X5_readNumber σ).2 38 V := TabAt_row hV (n2.row (by decide))
    have hrest : (¬ (r_X5_readNumber σ).1 = 0 → (r_X5_readNumber σ).2 35 30 < 10 → p_X5_readRow_l158 600 (r_X5_readNumber σ).2 ((r_X5_readNumber σ).2 35 30) 1 ∧ RowR σ t a (r_X5_readRow_l158 600 (r_X5_readNumber σ).2 ((r_X5_readNumber σ).2 35 30) 1)) := by
      intro hr h10
      have hpe : skp (σ 57) (t - a) a < dgE (σ 57) (t - skp (σ 57) (t - a) a) (skp (σ 57) (t - a) a) := by
        refine Decidable.not_not.mp (fun z => hr (n6 z).1)
      have h4 : dgE (σ 57) (t - skp (σ 57) (t - a) a) (skp (σ 57) (t - a) a) - skp (σ 57) (t - a) a ≤ 4 := by
        refine Decidable.not_not.mp (fun z => hr (n5 hpe z).1)
      obtain ⟨m1, m2, m3, m4⟩ := n4 hpe h4
      have hv := dgV_9999 (B := σ 57) (p := skp (σ 57) (t - a) a) (n := t - skp (σ 57) (t - a) a)
      rw [m2] at h10 ⊢
      have h10 := (N_lt (b := 10) (by omega) (by decide)).mp h10
      obtain ⟨i1, i2⟩ := rrow158 h5 h10 600 1 _ (r_X5_readNumber σ).2 V (by decide) (by decide) (by decide) n3 (by rw [n2 35 26 (by decide)]; exact ht) (by omega) hV1 hG
      exact ⟨i1, i2.of (by omega) n2.x⟩
    refine ⟨fun _ => ⟨x0, fun _ => ⟨x1, fun _ => ⟨x2, fun _ => ⟨n1, fun hr h10 => (hrest hr h10).1⟩⟩⟩⟩, ?_⟩
    by_cases b1 : ¬ σ 57 (ni (N f)) = 114
    · rw [if_pos b1]; exact hfl 0
    rw [if_neg b1]
    by_cases b2 : ¬ σ 57 (ni (N f + 1)) = 111
    · rw [if_pos b2]; exact hfl 0
    rw [if_neg b2]
    by_cases b3 : σ 57 (ni (N f + 2)) = 119
    · rw [if_pos b3]
      by_cases hr : ¬ (r_X5_readNumber σ).1 = 0
      · rw [if_pos hr]
        by_cases h10 : (r_X5_readNumber σ).2 35 30 < 10
        · rw [if_pos h10]
          exact ⟨(hrest hr h10).2, fun _ => by omega⟩
        · rw [if_neg h10]
          exact ⟨(RowR_fail hV1 hG n3 (by omega)).of (by omega) n2.x, fun z => absurd rfl z⟩
      · rw [if_neg hr]
        exact ⟨⟨V, _, hV1, hG, n3, by omega, by omega, n2.x⟩, fun z => absurd rfl z⟩
    · rw [if_neg b3]; exact hfl 0
  · have hc : ¬ N (a - f) = 3 := by
      show ¬ N (a - f) = N 3
      rw [N_eq (by omega) (by decide)]; exact g3
    rw [if_pos hc]
    exact ⟨fun z => absurd hc z, hfl 0⟩
theorem rrow_ok {t a : Nat} {σ : sg_S} {V : Nat → Nat} (h5 : t ≤ 500) (ha : σ 35 28 = N a) (ht : σ 35 26 = N t) (hat : a ≤ t) (hV : TabAt σ 38 V) (hG : GoodV V) : p_X5_readRow σ ∧ RowR σ t a (r_X5_readRow σ) ∧ (¬ (r_X5_readRow σ).1 = 0 → RowR σ t (a + 3) (r_X5_readRow σ)) := by
  obtain ⟨h1, h2, h3⟩ := here_ok ha ht hat h5
  have hl := skp_le (B := σ 57) (t - a) a
  have hV1 : TabAt (r_X5_here σ).2 38 V := by rw [h3]; exact TabAt_up hV (by decide)
  have h28 : (r_X5_here σ).2 35 28 = N (skp (σ 57) (t - a) a) := by rw [h3]; exact up_eq
  have h26 : (r_X5_here σ).2 35 26 = N t := by rw [h3, up_k (by decide)]; exact ht
  have hX1 : XSame σ (r_X5_here σ).2 := by rw [h3]; exact XSame_u (by decide)
  unfold p_X5_readRow r_X5_readRow
  by_cases g : ¬ v_X5_in (r_X5_here σ).1 97 122 = 0
  · obtain ⟨l1, l2⟩ := lw29 (x1 := (r_X5_here σ).2 35 28) h5 600 _ (r_X5_here σ).2 h28 h26 (by omega) (by omega)
    have hll := lwE_le (B := (r_X5_here σ).2 57) (t - skp (σ 57) (t - a) a) (skp (σ 57) (t - a) a)
    have hq := rrow72 (V := V) (f := skp (σ 57) (t - a) a) (σ := sg_up (r_X5_here σ).2 35 28 (N (lwE ((r_X5_here σ).2 57) (t - skp (σ 57) (t - a) a) (skp (σ 57) (t - a) a)))) h5 up_eq (by rw [up_k (by decide)]; exact h26) (by omega) (by omega) (TabAt_up hV1 (by decide)) hG
    rw [h28] at l1 l2
    rw [if_pos g, h28, l2]
    obtain ⟨q1, q2, q3⟩ := hq
    have hX2 : XSame σ (sg_up (r_X5_here σ).2 35 28 (N (lwE ((r_X5_here σ).2 57) (t - skp (σ 57) (t - a) a) (skp (σ 57) (t - a) a)))) := hX1.tr (XSame_u (by decide))
    refine ⟨⟨h1, fun _ => l1 q1⟩, q2.of (by omega) hX2, fun z => ?_⟩
    have h3f := q3 z
    exact q2.of (by omega) hX2
  · rw [if_neg g]
    exact ⟨⟨h1, fun z => absurd z g⟩, (RowR_fail hV1 hG h28 (by omega)).of (by omega) hX1, fun z => absurd rfl z⟩
/-! the rows hold -/
def Chk (V : Nat → Nat) (w k : Nat) : Prop := V (5 * w + k - 1) ≤ V (5 * w + k) ∧ (0 < w → V (5 * w + k) ≤ V (5 * w - 5 + k))
theorem rchk53 {σ : sg_S} {V : Nat → Nat} {w : Nat} {k45 : sg_S → Int32 → Int32 × sg_S} {kp45 : sg_S → Int32 → Prop} (hV : TabAt σ 38 V) (hG : GoodV V) (hw : w < 10) (hp : kp45 σ (N (w + 1))) : ∀ (n k : Nat), 1 ≤ k → k ≤ 5 → 5 - k < n → p_X5_readTable_l53 kp45 n σ (N w) (N k) ∧ ((r_X5_readTable_l53 k45 n σ (N w) (N k) = k45 σ (N (w + 1)) ∧ ∀ k', k ≤ k' → k' < 5 → Chk V w k') ∨ ∃ z, r_X5_readTable_l53 k45 n σ (N w) (N k) = (0, sg_up σ 35 29 z)) := by
  intro n
  induction n with
  | zero => intro k _ _ hn; omega
  | succ n ih =>
    intro k hk1 hk5 hn
    show p_X5_readTable_b53 kp45 (p_X5_readTable_l53 kp45 n) σ (N w) (N k) ∧ ((r_X5_readTable_b53 k45 (r_X5_readTable_l53 k45 n) σ (N w) (N k) = k45 σ (N (w + 1)) ∧ ∀ k', k ≤ k' → k' < 5 → Chk V w k') ∨ ∃ z, r_X5_readTable_b53 k45 (r_X5_readTable_l53 k45 n) σ (N w) (N k) = (0, sg_up σ 35 29 z))
    unfold p_X5_readTable_b53 r_X5_readTable_b53
    by_cases e : k = 5
    · have hc : (4 : Int32) < N k := by
        show N 4 < N k
        exact g_lt (by omega) (by omega)
      rw [if_pos hc, N_inc]
      exact ⟨⟨fun _ => hp, fun z => absurd hc z⟩, Or.inl ⟨rfl, fun k' h1 h2 => by omega⟩⟩
    · have hc : ¬ (4 : Int32) < N k := by
        show ¬ N 4 < N k
        exact g_nlt (by omega) (by decide)
      have ex : 5 * N w + N k = N (5 * w + k) := by rw [show (5 : Int32) = N 5 from rfl, N_mul, N_add]
      have ex1 : N (5 * w + k) - 1 = N (5 * w + k - 1) := N_sub (b := 1) (by omega)
      have b1 : ∀ j, j < 50 → V j < 2147483648 := fun j hj => by
        by_cases z : j % 5 = 0
        · rw [(hG j hj).1 z]; decide
        · have := ((hG j hj).2 z).2; omega
      obtain ⟨i1, i2⟩ := ih (k + 1) (by omega) (by omega) (by omega)
      have i3 : ∀ r, Chk V w k → ((r_X5_readTable_l53 k45 n σ (N w) (N (k + 1)) = k45 σ (N (w + 1)) ∧ ∀ k', k + 1 ≤ k' → k' < 5 → Chk V w k') ∨ ∃ z, r_X5_readTable_l53 k45 n σ (N w) (N (k + 1)) = (0, sg_up σ 35 29 z)) → r = r_X5_readTable_l53 k45 n σ (N w) (N (k + 1)) → (r = k45 σ (N (w + 1)) ∧ ∀ k', k ≤ k' → k' < 5 → Chk V w k') ∨ ∃ z, r = (0, sg_up σ 35 29 z) := by
        intro r hck h hr
        rcases h with ⟨h, h'⟩ | ⟨z, h⟩
        · refine Or.inl ⟨hr.trans h, fun k' g1 g2 => ?_⟩
          by_cases e2 : k' = k
          · subst e2; exact hck
          · exact h' k' (by omega) g2
        · exact Or.inr ⟨z, hr.trans h⟩
      have x0 : ix (N (5 * w + k)) 50 := ix_N (by omega) (by decide)
      have x1 : ix (N (5 * w + k - 1)) 50 := ix_N (by omega) (by decide)
      rw [if_neg hc, N_inc k, ex, ex1, ni_N (by omega), ni_N (by omega), hV _ (by omega), hV _ (by omega)]
      by_cases c1 : N (V (5 * w + k)) < N (V (5 * w + k - 1))
      · rw [if_pos c1]
        exact ⟨⟨fun z => absurd z hc, fun _ => ⟨x0, x1, fun z => absurd c1 z⟩⟩, Or.inr ⟨_, rfl⟩⟩
      rw [if_neg c1]
      rw [N_lt (b1 _ (by omega)) (b1 _ (by omega))] at c1
      by_cases c2 : w = 0
      · have hz : N w ≤ 0 := by rw [c2]; decide
        rw [if_pos hz]
        exact ⟨⟨fun z => absurd z hc, fun _ => ⟨x0, x1, fun _ => ⟨fun _ => i1, fun z => absurd hz z⟩⟩⟩, i3 _ ⟨by omega, fun z => by omega⟩ i2 rfl⟩
      have hz : ¬ N w ≤ 0 := g_nle (a := 0) (by omega) (by omega)
      have ex2 : 5 * N w - 5 + N k = N (5 * w - 5 + k) := by
        rw [show (5 : Int32) = N 5 from rfl, N_mul, N_sub (by omega), N_add]
      have x2 : ix (N (5 * w - 5 + k)) 50 := ix_N (by omega) (by decide)
      rw [if_neg hz, ex2, ni_N (by omega), hV _ (by omega)]
      by_cases c3 : N (V (5 * w + k)) ≤ N (V (5 * w - 5 + k))
      · rw [if_pos c3]
        have c3' := (N_le (b1 _ (by omega)) (b1 _ (by omega))).mp c3
        exact ⟨⟨fun z => absurd z hc, fun _ => ⟨x0, x1, fun _ => ⟨fun z => absurd z hz, fun _ => ⟨x2, fun _ => i1⟩⟩⟩⟩, i3 _ ⟨by omega, fun _ => c3'⟩ i2 rfl⟩
      · rw [if_neg c3]
        exact ⟨⟨fun z => absurd z hc, fun _ => ⟨x0, x1, fun _ => ⟨fun z => absurd z hz, fun _ => ⟨x2, fun z => absurd z c3⟩⟩⟩⟩, Or.inr ⟨_, rfl⟩⟩
theorem rchk45 {σ : sg_S} {V : Nat → Nat} (hV : TabAt σ 38 V) (hG : GoodV V) : ∀ (n w : Nat), w ≤ 10 → 10 - w < n → p_X5_readTable_l45 n σ (N w) ∧ ((r_X5_readTable_l45 n σ (N w) = (1, σ) ∧ ∀ w', w ≤ w' → w' < 10 → ∀ k', 1 ≤ k' → k' < 5 → Chk V w' k') ∨ ∃ z, r_X5_readTable_l45 n σ (N w) = (0, sg_up σ 35 29 z)) := by
  intro n
  induction n with
  | zero => intro w _ hn; omega
  | succ n ih =>
    intro w hw hn
    show p_X5_readTable_b45 (p_X5_readTable_l45 n) σ (N w) ∧ ((r_X5_readTable_b45 (r_X5_readTable_l45 n) σ (N w) = (1, σ) ∧ ∀ w', w ≤ w' → w' < 10 → ∀ k', 1 ≤ k' → k' < 5 → Chk V w' k') ∨ ∃ z, r_X5_readTable_b45 (r_X5_readTable_l45 n) σ (N w) = (0, sg_up σ 35 29 z))
    unfold p_X5_readTable_b45 r_X5_readTable_b45
    by_cases e : w = 10
    · have hc : (10 : Int32) ≤ N w := by rw [e]; decide
      rw [if_pos hc]
      exact ⟨fun z => absurd hc z, Or.inl ⟨rfl, fun w' h1 h2 => by omega⟩⟩
    · have hc : ¬ (10 : Int32) ≤ N w := by
        show ¬ N 10 ≤ N w
        exact g_nle (by omega) (by decide)
      obtain ⟨i1, i2⟩ := ih (w + 1) (by omega) (by omega)
      obtain ⟨j1, j2⟩ := rchk53 (k45 := r_X5_readTable_l45 n) (kp45 := p_X5_readTable_l45 n) hV hG (w := w) (by omega) i1 600 1 (by decide) (by decide) (by decide)
      rw [if_neg hc]
      refine ⟨fun _ => j1, ?_⟩
      rcases j2 with ⟨j2, j3⟩ | ⟨z, j2⟩
      · have j2 : r_X5_readTable_l53 (r_X5_readTable_l45 n) 600 σ (N w) 1 = _ := j2
        rw [j2]
        rcases i2 with ⟨i2, i3⟩ | ⟨z, i2⟩
        · refine Or.inl ⟨i2, fun w' h1 h2 k' h3 h4 => ?_⟩
          by_cases e2 : w' = w
          · subst e2; exact j3 k' h3 h4
          · exact i3 w' (by omega) h2 k' h3 h4
        · exact Or.inr ⟨z, i2⟩
      · exact Or.inr ⟨z, j2⟩
theorem Chk_OK {V : Nat → Nat} (hG : GoodV V) (h : ∀ w, w < 10 → ∀ k, 1 ≤ k → k < 5 → Chk V w k) : TabOK V := by
  refine ⟨fun w hw => ?_, fun w hw k hk => ?_⟩
  · have c2 := (h w hw 2 (by decide) (by decide)).1
    have c3 := (h w hw 3 (by decide) (by decide)).1
    have c4 := (h w hw 4 (by decide) (by decide)).1
    have g1 := (hG (5 * w + 1) (by omega)).2 (by omega)
    have g4 := (hG (5 * w + 4) (by omega)).2 (by omega)
    rw [show 5 * w + 2 - 1 = 5 * w + 1 by omega] at c2
    rw [show 5 * w + 3 - 1 = 5 * w + 2 by omega] at c3
    rw [show 5 * w + 4 - 1 = 5 * w + 3 by omega] at c4
    exact ⟨(hG (5 * w) (by omega)).1 (by omega), g1.1, c2, c3, c4, g4.2⟩
  · by_cases e : k = 0
    · subst e
      rw [(hG (5 * (w + 1) + 0) (by omega)).1 (by omega)]
      exact Nat.zero_le _
    · have c := (h (w + 1) (by omega) k (by omega) hk).2 (by omega)
      rw [show 5 * (w + 1) - 5 + k = 5 * w + k by omega] at c
      exact c
/-! the whole text of a table -/
def TabR (σ : sg_S) (r : Int32 × sg_S) : Prop := XSame σ r.2 ∧ ∃ V, TabAt r.2 38 V ∧ (¬ r.1 = 0 → TabOK V)
theorem rtab26 {t : Nat} (h5 : t ≤ 500) : ∀ (n a : Nat) (σ : sg_S) (V : Nat → Nat), σ 35 28 = N a → σ 35 26 = N t → a ≤ t → t - a < n → TabAt σ 38 V → GoodV V → p_X5_readTable_l26 n σ ∧ TabR σ (r_X5_readTable_l26 n σ) := by
  intro n
  induction n with
  | zero => intro a σ V _ _ _ hn; omega
  | succ n ih =>
    intro a σ V ha ht hat hn hV hG
    show p_X5_readTable_b26 (p_X5_readTable_l26 n) σ ∧ TabR σ (r_X5_readTable_b26 (r_X5_readTable_l26 n) σ)
    unfold p_X5_readTable_b26 r_X5_readTable_b26
    obtain ⟨h1, h2, h3⟩ := here_ok ha ht hat h5
    have hl := skp_le (B := σ 57) (t - a) a
    have hV1 : TabAt (r_X5_here σ).2 38 V := by rw [h3]; exact TabAt_up hV (by decide)
    have h28 : (r_X5_here σ).2 35 28 = N (skp (σ 57) (t - a) a) := by rw [h3]; exact up_eq
    have h26 : (r_X5_here σ).2 35 26 = N t := by rw [h3, up_k (by decide)]; exact ht
    have hX1 : XSame σ (r_X5_here σ).2 := by rw [h3]; exact XSame_u (by decide)
    by_cases g : (r_X5_here σ).1 = -1
    · rw [if_pos g]
      obtain ⟨c1, c2⟩ := rchk45 hV1 hG 600 0 (by decide) (by decide)
      refine ⟨⟨h1, fun _ => c1, fun z => absurd g z⟩, ?_⟩
      rcases c2 with ⟨c2, c3⟩ | ⟨z, c2⟩
      · have c2 : r_X5_readTable_l45 600 (r_X5_here σ).2 0 = _ := c2
        rw [c2]
        exact ⟨hX1, V, hV1, fun _ => Chk_OK hG (fun w hw k k1 k2 => c3 w (by omega) hw k k1 k2)⟩
      · have c2 : r_X5_readTable_l45 600 (r_X5_here σ).2 0 = _ := c2
        rw [c2]
        exact ⟨hX1.tr (XSame_u (by decide)), V, TabAt_up hV1 (by decide), fun z => absurd rfl z⟩
    · rw [if_neg g]
      obtain ⟨r1, r2, r3⟩ := rrow_ok h5 h28 h26 (by omega) hV1 hG
      by_cases hr : ¬ (r_X5_readRow (r_X5_here σ).2).1 = 0
      · rw [if_pos hr]
        obtain ⟨V', a', v1, v2, v3, v4, v5, v6⟩ := r3 hr
        obtain ⟨i1, i2, i3⟩ := ih a' _ V' v3 (by rw [v6 35 26 (by decide) (by decide)]; exact h26) v5 (by omega) v1 v2
        exact ⟨⟨h1, fun z => absurd z g, fun _ => ⟨r1, fun _ => i1⟩⟩, (hX1.tr v6).tr i2, i3⟩
      · rw [if_neg hr]
        obtain ⟨V', a', v1, v2, v3, v4, v5, v6⟩ := r2
        exact ⟨⟨h1, fun z => absurd z g, fun _ => ⟨r1, fun z => absurd z hr⟩⟩, hX1.tr v6, V', v1, fun z => absurd rfl z⟩
theorem rtab2 {t a : Nat} {T : Nat → Nat} (h5 : t ≤ 500) (hat : a ≤ t) (hG : GoodV T) : ∀ (n j : Nat) (σ : sg_S), j ≤ 50 → 50 - j < n → σ 35 28 = N a → σ 35 26 = N t → TabAt σ 37 T → (∀ i, i < j → σ 38 i = N (T i)) → p_X5_readTable_l2 n σ (N j) ∧ TabR σ (r_X5_readTable_l2 n σ (N j)) := by
  intro n
  induction n with
  | zero => intro j σ _ hn; omega
  | succ n ih =>
    intro j σ hj hn ha ht hT hd
    show p_X5_readTable_b2 (p_X5_readTable_l2 n) σ (N j) ∧ TabR σ (r_X5_readTable_b2 (r_X5_readTable_l2 n) σ (N j))
    unfold p_X5_readTable_b2 r_X5_readTable_b2
    by_cases e : j = 50
    · have hc : (50 : Int32) ≤ N j := (N14 (L := 50) hj (by decide)).mpr e
      rw [if_pos hc]
      obtain ⟨i1, i2⟩ := rtab26 h5 600 a σ T ha ht hat (by omega) (fun i hi => hd i (by omega)) hG
      exact ⟨⟨fun _ => i1, fun z => absurd hc z⟩, i2⟩
    · have hc : ¬ (50 : Int32) ≤ N j := fun z => e ((N14 (L := 50) hj (by decide)).mp z)
      have hx : ix (N j) 50 := ix_N (by omega) (by decide)
      rw [if_neg hc, N_inc, ni_N (by omega), hT j (by omega)]
      obtain ⟨i1, i2, i3⟩ := ih (j + 1) (sg_up σ 38 j (N (T j))) (by omega) (by omega) (by rw [up_c (by decide)]; exact ha) (by rw [up_c (by decide)]; exact ht) (TabAt_up hT (by decide)) (fun i hi => by
        by_cases e2 : i = j
        · subst e2; exact up_eq
        · rw [up_k e2]; exact hd i (by omega))
      exact ⟨⟨fun z => absurd z hc, fun _ => ⟨hx, hx, i1⟩⟩, XSame_38.tr i2, i3⟩
theorem rtab_ok {σ : sg_S} {t a : Nat} {T : Nat → Nat} (h5 : t ≤ 500) (hat : a ≤ t) (ha : σ 35 28 = N a) (ht : σ 35 26 = N t) (hT : TabAt σ 37 T) (hK : TabOK T) : p_X5_readTable σ ∧ TabR σ (r_X5_readTable σ) :=
  rtab2 h5 hat (Tab_good hK) 600 0 σ (by decide) (by decide) ha ht hT (fun i hi => by omega)
end
section
/-! WHICH EVENTS CAN COME -/
def isEv (e : Int32) : Prop := (48 ≤ ni e ∧ ni e ≤ 54) ∨ e = 120 ∨ e = 119 ∨ e = 110 ∨ e = 99 ∨ e = 100 ∨ e = 47
theorem isBall5 {e : Int32} : (¬ v_X5_isBall e = 0) ↔ ((48 ≤ ni e ∧ ni e ≤ 54) ∨ e = 120) := by
  have hin := in_ni (x := e) (lo := 48) (hi := 54) (by decide) (by decide) (by decide)
  unfold v_X5_isBall
  by_cases g : ¬ v_X5_in e 48 54 = 0
  · rw [if_pos g]
    exact ⟨fun _ => Or.inl (hin.mp g), fun _ => one_nz⟩
  · rw [if_neg g]
    by_cases g2 : e = 120
    · rw [if_neg (fun z => z g2)]
      exact ⟨fun _ => Or.inr g2, fun _ => one_nz⟩
    · rw [if_pos g2]
      exact ⟨fun z => absurd rfl z, fun z => z.elim (fun z => absurd (hin.mpr z) g) (fun z => absurd z g2)⟩
theorem isEvent5 {e : Int32} : (¬ v_X5_isEvent e = 0) ↔ isEv e := by
  have hb := isBall5 (e := e)
  unfold v_X5_isEvent isEv
  by_cases g : ¬ v_X5_isBall e = 0
  · rw [if_pos g]
    refine ⟨fun _ => ?_, fun _ => one_nz⟩
    rcases hb.mp g with h | h
    · exact Or.inl h
    · exact Or.inr (Or.inl h)
  rw [if_neg g]
  have gn : ¬ ((48 ≤ ni e ∧ ni e ≤ 54) ∨ e = 120) := fun z => g (hb.mpr z)
  by_cases g1 : e = 119
  · rw [if_pos g1]; exact ⟨fun _ => Or.inr (Or.inr (Or.inl g1)), fun _ => one_nz⟩
  rw [if_neg g1]
  by_cases g2 : e = 110
  · rw [if_pos g2]; exact ⟨fun _ => Or.inr (Or.inr (Or.inr (Or.inl g2))), fun _ => one_nz⟩
  rw [if_neg g2]
  by_cases g3 : e = 99
  · rw [if_pos g3]; exact ⟨fun _ => Or.inr (Or.inr (Or.inr (Or.inr (Or.inl g3)))), fun _ => one_nz⟩
  rw [if_neg g3]
  by_cases g4 : e = 100
  · rw [if_pos g4]; exact ⟨fun _ => Or.inr (Or.inr (Or.inr (Or.inr (Or.inr (Or.inl g4))))), fun _ => one_nz⟩
  rw [if_neg g4]
  by_cases g5 : e = 47
  · rw [if_neg (fun z => z g5)]; exact ⟨fun _ => Or.inr (Or.inr (Or.inr (Or.inr (Or.inr (Or.inr g5))))), fun _ => one_nz⟩
  rw [if_pos g5]
  refine ⟨fun z => absurd rfl z, fun z => ?_⟩
  rcases z with z | z | z | z | z | z | z
  · exact absurd (Or.inl z) gn
  · exact absurd (Or.inr z) gn
  · exact absurd z g1
  · exact absurd z g2
  · exact absurd z g3
  · exact absurd z g4
  · exact absurd z g5
/-- what a step asks -/
def canS (i t : Nat) (D : Nat → Nat → Nat) (e n : Int32) : Prop := isEv e ∧ (e = 100 → (i = 0 ∨ i = 1 ∧ t = 0) ∧ 1 ≤ ni n ∧ ni n < D 1 3) ∧ (¬ e = 100 → i < 2) ∧ (e = 99 → 1 ≤ ni n ∧ ni n < D i 3 ∧ D i 2 ≤ 6 * ni n)
theorem stp_some {T : Nat → Nat} {mean i t : Nat} {D : Nat → Nat → Nat} {e n : Int32} (h : canS i t D e n) : ∃ y, stp T mean (i, t, D) e n = some y := by
  obtain ⟨h1, h2, h3, h4⟩ := h
  unfold stp
  dsimp only
  by_cases g0 : e = 100
  · rw [if_pos g0, if_pos (h2 g0)]; exact ⟨_, rfl⟩
  rw [if_neg g0, if_neg (by have := h3 g0; omega)]
  by_cases g1 : e = 99
  · rw [if_pos g1, if_pos (h4 g1)]; exact ⟨_, rfl⟩
  rw [if_neg g1]
  by_cases g2 : e = 47
  · rw [if_pos g2]; exact ⟨_, rfl⟩
  rw [if_neg g2]
  by_cases g3 : e = 119 ∨ e = 110
  · rw [if_pos g3]; exact ⟨_, rfl⟩
  rw [if_neg g3]
  by_cases g4 : e = 120
  · rw [if_pos g4]; exact ⟨_, rfl⟩
  rw [if_neg g4]
  rcases h1 with z | z | z | z | z | z | z
  · rw [if_pos z]; exact ⟨_, rfl⟩
  · exact absurd z g4
  · exact absurd (Or.inl z) g3
  · exact absurd (Or.inr z) g3
  · exact absurd z g1
  · exact absurd z g0
  · exact absurd z g2
theorem stp_can {T : Nat → Nat} {mean i t : Nat} {D : Nat → Nat → Nat} {e n : Int32} {y : mS} (h : stp T mean (i, t, D) e n = some y) : canS i t D e n := by
  unfold stp at h
  dsimp only at h
  by_cases g0 : e = 100
  · rw [if_pos g0] at h
    by_cases hc : (i = 0 ∨ i = 1 ∧ t = 0) ∧ 1 ≤ ni n ∧ ni n < D 1 3
    · exact ⟨Or.inr (Or.inr (Or.inr (Or.inr (Or.inr (Or.inl g0))))), fun _ => hc, fun z => absurd g0 z, fun z => by rw [g0] at z; exact absurd z (by decide)⟩
    · rw [if_neg hc] at h; cases h
  rw [if_neg g0] at h
  by_cases h2 : 2 ≤ i
  · rw [if_pos h2] at h; cases h
  rw [if_neg h2] at h
  have h3 : ¬ e = 100 → i < 2 := fun _ => by omega
  by_cases g1 : e = 99
  · rw [if_pos g1] at h
    by_cases hc : 1 ≤ ni n ∧ ni n < D i 3 ∧ D i 2 ≤ 6 * ni n
    · exact ⟨Or.inr (Or.inr (Or.inr (Or.inr (Or.inl g1)))), fun z => absurd z g0, h3, fun _ => hc⟩
    · rw [if_neg hc] at h; cases h
  rw [if_neg g1] at h
  have key : isEv e → canS i t D e n := fun z => ⟨z, fun z => absurd z g0, h3, fun z => absurd z g1⟩
  by_cases g2 : e = 47
  · exact key (Or.inr (Or.inr (Or.inr (Or.inr (Or.inr (Or.inr g2))))))
  rw [if_neg g2] at h
  by_cases g3 : e = 119 ∨ e = 110
  · rcases g3 with g3 | g3
    · exact key (Or.inr (Or.inr (Or.inl g3)))
    · exact key (Or.inr (Or.inr (Or.inr (Or.inl g3))))
  rw [if_neg g3] at h
  by_cases g4 : e = 120
  · exact key (Or.inr (Or.inl g4))
  rw [if_neg g4] at h
  by_cases g5 : 48 ≤ ni e ∧ ni e ≤ 54
  · exact key (Or.inl g5)
  rw [if_neg g5] at h
  cases h
theorem lt_ni {x : Int32} {a : Nat} (h1 : 1 ≤ a) (ha : a < 2147483648) : (x < N a) ↔ ni x < a := by
  have hx : ni x = x.toInt.toNat := rfl
  rw [Int32.lt_iff_toInt_lt, N_toInt ha]
  omega
theorem le_ni {x : Int32} {a : Nat} (h1 : 1 ≤ a) (ha : a < 2147483648) : (N a ≤ x) ↔ a ≤ ni x := by
  have hx : ni x = x.toInt.toNat := rfl
  rw [Int32.le_iff_toInt_le, N_toInt ha]
  omega
section May
variable {σ : sg_S} {T S : Nat → Nat} {k i t : Nat} {D : Nat → Nat → Nat}
theorem mayCut_iff {n : Int32} (h : RefAt σ T S i t D) (hi : i < 2) (hI : InnOK T k (D i)) : p_X5_mayCut σ n ∧ ((¬ v_X5_mayCut σ n = 0) ↔ (1 ≤ ni n ∧ ni n < D i 3 ∧ D i 2 ≤ 6 * ni n)) := by
  obtain ⟨a1, a2, a3, -⟩ := hI
  have hP := h.pic hi
  unfold p_X5_mayCut v_X5_mayCut
  rw [h.2.2.2.2.1, ni_N (by omega), hP.2.2.1, hP.2.2.2.1]
  refine ⟨fun _ => ⟨ix2 hi, fun _ => ix2 hi⟩, ?_⟩
  have l1 := lt_ni (x := n) (a := 1) (by decide) (by decide)
  have l2 := le_ni (x := n) (a := D i 3) a1 (by omega)
  by_cases g1 : n < 1
  · rw [if_pos g1]
    have := l1.mp g1
    exact ⟨fun z => absurd rfl z, fun z => by omega⟩
  rw [if_neg g1]
  have g1' : 1 ≤ ni n := by
    have hz : ¬ ni n < 1 := fun z => g1 (l1.mpr z)
    omega
  by_cases g2 : N (D i 3) ≤ n
  · rw [if_pos g2]
    have := l2.mp g2
    exact ⟨fun z => absurd rfl z, fun z => by omega⟩
  rw [if_neg g2]
  have g2' : ni n < D i 3 := by
    have hz : ¬ D i 3 ≤ ni n := fun z => g2 (l2.mpr z)
    omega
  have e6 : 6 * n = N (6 * ni n) := by
    have := ni_pos g1'
    rw [← N_mul, this]
    rfl
  rw [e6]
  by_cases g3 : N (6 * ni n) < N (D i 2)
  · rw [if_pos g3]
    rw [N_lt (by omega) (by omega)] at g3
    exact ⟨fun z => absurd rfl z, fun z => by omega⟩
  · rw [if_neg g3]
    rw [N_lt (by omega) (by omega)] at g3
    exact ⟨fun _ => ⟨g1', g2', by omega⟩, fun _ => one_nz⟩
theorem mayDrop_iff {n : Int32} (h : RefAt σ T S i t D) (hI : InnOK T k (D 1)) : (¬ v_X5_mayDrop σ n = 0) ↔ (1 ≤ ni n ∧ ni n < D 1 3) := by
  obtain ⟨a1, a2, -⟩ := hI
  have hin := in_ni (x := n) (lo := 1) (hi := 20) (by decide) (by decide) (by decide)
  unfold v_X5_mayDrop
  rw [(h.pic (i := 1) (by decide)).2.2.2.1]
  have l2 := le_ni (x := n) (a := D 1 3) a1 (by omega)
  by_cases g1 : v_X5_in n 1 20 = 0
  · rw [if_pos g1]
    exact ⟨fun z => absurd rfl z, fun z => absurd g1 (hin.mpr (by omega))⟩
  rw [if_neg g1]
  have g1' := hin.mp g1
  by_cases g2 : N (D 1 3) ≤ n
  · rw [if_pos g2]
    have := l2.mp g2
    exact ⟨fun z => absurd rfl z, fun z => by omega⟩
  · rw [if_neg g2]
    have hz : ¬ D 1 3 ≤ ni n := fun z => g2 (l2.mpr z)
    exact ⟨fun _ => by omega, fun _ => one_nz⟩
theorem isEarly_iff (h : RefAt σ T S i t D) (hi : i ≤ 2) (ht : t ≤ 1) : (¬ v_X5_isEarly σ = 0) ↔ (i = 0 ∨ i = 1 ∧ t = 0) := by
  unfold v_X5_isEarly
  rw [h.2.2.2.2.1, h.2.2.2.2.2.1]
  rcases (show i = 0 ∨ i = 1 ∨ i = 2 by omega) with rfl | rfl | rfl
  · rw [if_pos (by decide)]; exact ⟨fun _ => Or.inl rfl, fun _ => one_nz⟩
  · rw [if_neg (by decide), if_neg (fun z => z rfl)]
    rcases (show t = 0 ∨ t = 1 by omega) with rfl | rfl
    · rw [if_neg (fun z => z rfl)]; exact ⟨fun _ => Or.inr ⟨rfl, rfl⟩, fun _ => one_nz⟩
    · rw [if_pos (by decide)]; exact ⟨fun z => absurd rfl z, fun z => by omega⟩
  · rw [if_neg (by decide), if_pos (by decide)]; exact ⟨fun z => absurd rfl z, fun z => by omega⟩
theorem now_lt (h : RefAt σ T S i t D) (hi : i ≤ 2) : ((2 : Int32) ≤ σ 35 23) ↔ ¬ i < 2 := by
  rw [h.2.2.2.2.1]
  show (N 2 ≤ N i) ↔ _
  rw [N_le (by decide) (by omega)]
  omega
end May
theorem RefAt_fr {σ σ' : sg_S} {T S : Nat → Nat} {i t : Nat} {D : Nat → Nat → Nat} (h : RefAt σ T S i t D) (hs : ∀ q j, (q = 37 ∨ q = 36 ∨ (q = 35 ∧ (j = 23 ∨ j = 24)) ∨ (41 ≤ q ∧ q ≤ 49)) → σ' q j = σ q j) : RefAt σ' T S i t D :=
  ⟨fun k hk => by rw [hs 37 k (by omega)]; exact h.1 k hk, h.2.1, fun k hk => by rw [hs 36 k (by omega)]; exact h.2.2.1 k hk, h.2.2.2.1, by rw [hs 35 23 (by omega)]; exact h.2.2.2.2.1, by rw [hs 35 24 (by omega)]; exact h.2.2.2.2.2.1, RPic_set (E' := D 0) h.2.2.2.2.2.2.1 (fun q hq => hs q 0 (by omega)), RPic_set (E' := D 1) h.2.2.2.2.2.2.2 (fun q hq => hs q 1 (by omega))⟩
/-! THE REFERENCE READS EVENTS -/
def ESame (k : Nat) (σ σ' : sg_S) : Prop := ∀ q j, ¬ (41 ≤ q ∧ q ≤ 56) → ¬ (q = 35 ∧ (j = 23 ∨ j = 24 ∨ (28 ≤ j ∧ j ≤ 32))) → ¬ ((q = 39 ∨ q = 40) ∧ k ≤ j) → σ' q j = σ q j
theorem ESame.tr {k : Nat} {σ σ1 σ2 : sg_S} (h : ESame k σ σ1) (h' : ESame k σ1 σ2) : ESame k σ σ2 := fun q j a b c => (h' q j a b c).trans (h q j a b c)
theorem NSame.e {k : Nat} {σ σ' : sg_S} (h : NSame σ σ') : ESame k σ σ' := fun q j _ h2 _ => h q j (by omega)
theorem RSame.e {k : Nat} {σ σ' : sg_S} (h : RSame σ σ') : ESame k σ σ' := fun q j h1 h2 _ => h q j h1 (by omega)
theorem ESame_u {k : Nat} {σ : sg_S} {k0 : Nat} {v : Int32} (h : 28 ≤ k0 ∧ k0 ≤ 32) : ESame k σ (sg_up σ 35 k0 v) := fun q j _ h1 _ => up_ne (by omega)
theorem ESame_l {k j0 q0 : Nat} {σ : sg_S} {v : Int32} (h : q0 = 39 ∨ q0 = 40) (hj : k ≤ j0) : ESame k σ (sg_up σ q0 j0 v) := fun q j _ _ h1 => up_ne (by omega)
section REv
variable {σ : sg_S} {T S : Nat → Nat} {k c : Nat} {x : mS}
/-- an event that can come goes into the LOG -/
theorem rev157 {e n : Int32} {y : mS} (hR : RefAt σ T S x.1 x.2.1 x.2.2) (hO : OK T (S 1) (k + c) x.1 x.2.1 x.2.2) (h6 : σ 35 6 = N k) (h31 : σ 35 31 = N c) (hkc : k + c < 400) (hx : mrun T S (σ 39) (σ 40) (k + c) = some x) (hs : stp T (S 1) x e n = some y) :
    p_X5_readEvent_a157 σ e n ∧ (r_X5_readEvent_a157 σ e n).1 = 1 ∧ ESame k σ (r_X5_readEvent_a157 σ e n).2 ∧ RefAt (r_X5_readEvent_a157 σ e n).2 T S y.1 y.2.1 y.2.2 ∧ (r_X5_readEvent_a157 σ e n).2 35 31 = N (c + 1) ∧ (r_X5_readEvent_a157 σ e n).2 35 28 = σ 35 28 ∧ mrun T S ((r_X5_readEvent_a157 σ e n).2 39) ((r_X5_readEvent_a157 σ e n).2 40) (k + c + 1) = some y ∧ (r_X5_readEvent_a157 σ e n).2 35 29 = σ 35 29 ∧ (r_X5_readEvent_a157 σ e n).2 39 (k + c) = e ∧ (r_X5_readEvent_a157 σ e n).2 40 (k + c) = n := by
  have e1 : (sg_up σ 39 (k + c) e) 35 6 = N k := by rw [up_c (by decide)]; exact h6
  have e2 : (sg_up σ 39 (k + c) e) 35 31 = N c := by rw [up_c (by decide)]; exact h31
  have et : t_X5_readEvent_2 σ e n = sg_up (sg_up (sg_up σ 39 (k + c) e) 40 (k + c) n) 35 31 (N (c + 1)) := by
    unfold t_X5_readEvent_2 t_X5_readEvent_1
    rw [h6, h31, N_add, ni_N (by omega), e1, e2, N_add, ni_N (by omega), up_c (by decide), e2, N_inc]
  have hR3 : RefAt (sg_up (sg_up (sg_up σ 39 (k + c) e) 40 (k + c) n) 35 31 (N (c + 1))) T S x.1 x.2.1 x.2.2 := RefAt_fr hR (fun q j hq => by
    rw [up_ne (by omega), up_ne (by omega), up_ne (by omega)])
  obtain ⟨g1, g2, g3, g4⟩ := goes_ok (y := y) hR3 hO (by omega) (show stp T (S 1) (x.1, x.2.1, x.2.2) e n = some y from hs)
  have er : r_X5_readEvent_a157 σ e n = (1, s_X5_goes (sg_up (sg_up (sg_up σ 39 (k + c) e) 40 (k + c) n) 35 31 (N (c + 1))) e n) := by
    unfold r_X5_readEvent_a157
    rw [et]
  rw [er]
  dsimp only
  have r39 := g4.row (q := 39) (by decide) (by decide)
  have r40 := g4.row (q := 40) (by decide) (by decide)
  have f39 : (sg_up (sg_up (sg_up σ 39 (k + c) e) 40 (k + c) n) 35 31 (N (c + 1))) 39 (k + c) = e := by rw [up_c (by decide), up_c (by decide), up_eq]
  have f40 : (sg_up (sg_up (sg_up σ 39 (k + c) e) 40 (k + c) n) 35 31 (N (c + 1))) 40 (k + c) = n := by rw [up_c (by decide), up_eq]
  refine ⟨⟨?_, ?_, ?_⟩, rfl, ?_, g1, ?_, ?_, ?_, ?_, ?_, ?_⟩
  · rw [h6, h31, N_add]; exact ix_N (by omega) (by decide)
  · rw [h6, h31, N_add, ni_N (by omega), e1, e2, N_add]; exact ix_N (by omega) (by decide)
  · rw [et]; exact g3
  · exact (((ESame_l (Or.inl rfl) (by omega)).tr (ESame_l (Or.inr rfl) (by omega))).tr (ESame_u (by decide))).tr g4.e
  · rw [g4 35 31 (by decide) (by decide), up_eq]
  · rw [g4 35 28 (by decide) (by decide), up_k (by decide), up_c (by decide), up_c (by decide)]
  · rw [r39, r40]
    have hc : mrun T S ((sg_up (sg_up (sg_up σ 39 (k + c) e) 40 (k + c) n) 35 31 (N (c + 1))) 39) ((sg_up (sg_up (sg_up σ 39 (k + c) e) 40 (k + c) n) 35 31 (N (c + 1))) 40) (k + c) = some x := by
      rw [← hx]
      refine mrun_congr (k + c) (fun j hj => ⟨?_, ?_⟩)
      · rw [up_c (by decide), up_c (by decide), up_k (by omega)]
      · rw [up_c (by decide), up_k (by omega), up_c (by decide)]
    rw [mrun_some hc, f39, f40]
    exact hs
  · rw [g4 35 29 (by decide) (by decide), up_k (by decide), up_c (by decide), up_c (by decide)]
  · rw [r39]; exact f39
  · rw [r40]; exact f40
/-- what a reading of an event leaves -/
def EvR (T S : Nat → Nat) (σ : sg_S) (k c t a : Nat) (r : Int32 × sg_S) : Prop := ESame k σ r.2 ∧ ∃ a', r.2 35 28 = N a' ∧ a ≤ a' ∧ a' ≤ t ∧ (¬ r.1 = 0 → r.2 35 31 = N (c + 1) ∧ k + c + 1 ≤ 400 ∧ ∃ y : mS, RefAt r.2 T S y.1 y.2.1 y.2.2 ∧ mrun T S (r.2 39) (r.2 40) (k + c + 1) = some y)
theorem EvR.of {σ σ1 : sg_S} {k c t a a1 : Nat} {r : Int32 × sg_S} (h : EvR T S σ1 k c t a1 r) (ha : a ≤ a1) (hs : ESame k σ σ1) : EvR T S σ k c t a r := by
  obtain ⟨h1, a', h2, h3, h4, h5⟩ := h
  exact ⟨hs.tr h1, a', h2, by omega, h4, h5⟩
theorem EvR_fail {t a : Nat} {x y : Int32} (ha : σ 35 28 = N a) (hat : a ≤ t) : EvR T S σ k c t a ((r_X5_fails σ x y).1, (r_X5_fails σ x y).2) :=
  ⟨ESame_u (by decide), a, by show sg_up σ 35 29 (x + 8 * y) 35 28 = N a; rw [up_k (by decide)]; exact ha, Nat.le_refl _, hat, fun z => absurd rfl z⟩
theorem EvR_157 {t a : Nat} {e n : Int32} (ha : σ 35 28 = N a) (hat : a ≤ t) (hR : RefAt σ T S x.1 x.2.1 x.2.2) (hO : OK T (S 1) (k + c) x.1 x.2.1 x.2.2) (h6 : σ 35 6 = N k) (h31 : σ 35 31 = N c) (hkc : k + c < 400) (hx : mrun T S (σ 39) (σ 40) (k + c) = some x) (hc : canS x.1 x.2.1 x.2.2 e n) :
    p_X5_readEvent_a157 σ e n ∧ EvR T S σ k c t a (r_X5_readEvent_a157 σ e n) := by
  obtain ⟨y, hy⟩ := stp_some (T := T) (mean := S 1) hc
  obtain ⟨q1, q2, q3, q4, q5, q6, q7, -⟩ := rev157 (y := y) hR hO h6 h31 hkc hx hy
  exact ⟨q1, q3, a, by rw [q6]; exact ha, Nat.le_refl _, hat, fun _ => ⟨q5, by omega, y, q4, q7⟩⟩
theorem rev105 {t a : Nat} {e : Int32} (h5 : t ≤ 500) (ha : σ 35 28 = N a) (ht : σ 35 26 = N t) (hat : a ≤ t) (hR : RefAt σ T S x.1 x.2.1 x.2.2) (hO : OK T (S 1) (k + c) x.1 x.2.1 x.2.2) (h6 : σ 35 6 = N k) (h31 : σ 35 31 = N c) (hkc : k + c < 400) (hx : mrun T S (σ 39) (σ 40) (k + c) = some x) (he : e = 99 ∧ x.1 < 2 ∨ e = 100 ∧ (x.1 = 0 ∨ x.1 = 1 ∧ x.2.1 = 0)) :
    p_X5_readEvent_a105 σ e ∧ EvR T S σ k c t a (r_X5_readEvent_a105 σ e) := by
  have hpl := skp_le (B := σ 57) (t - a) a
  have hel := dgE_le (B := σ 57) (t - skp (σ 57) (t - a) a) (skp (σ 57) (t - a) a)
  obtain ⟨n1, n2, n3, n4, n5, n6⟩ := rnum_ok ha ht hat h5 rfl rfl rfl
  have hR1 : RefAt (r_X5_readNumber σ).2 T S x.1 x.2.1 x.2.2 := RefAt_fr hR (fun q j hq => n2 q j (by omega))
  have h61 : (r_X5_readNumber σ).2 35 6 = N k := by rw [n2 35 6 (by decide)]; exact h6
  have h311 : (r_X5_readNumber σ).2 35 31 = N c := by rw [n2 35 31 (by decide)]; exact h31
  have hx1 : mrun T S ((r_X5_readNumber σ).2 39) ((r_X5_readNumber σ).2 40) (k + c) = some x := by
    rw [n2.row (q := 39) (by decide), n2.row (q := 40) (by decide)]; exact hx
  unfold p_X5_readEvent_a105 r_X5_readEvent_a105
  by_cases hr : ¬ (r_X5_readNumber σ).1 = 0
  · rw [if_pos hr]
    rcases he with ⟨he, hx2⟩ | ⟨he, hE⟩
    · subst he
      rw [if_neg (fun z => z rfl)]
      obtain ⟨m1, m2⟩ := mayCut_iff (n := (r_X5_readNumber σ).2 35 30) hR1 hx2 (hO.2.2.2.1 x.1 hx2)
      by_cases hm : ¬ v_X5_mayCut (r_X5_readNumber σ).2 ((r_X5_readNumber σ).2 35 30) = 0
      · rw [if_pos hm]
        obtain ⟨q1, q2⟩ := EvR_157 (e := 99) (n := (r_X5_readNumber σ).2 35 30) n3 (by omega : _ ≤ t) hR1 hO h61 h311 hkc hx1 ⟨Or.inr (Or.inr (Or.inr (Or.inr (Or.inl rfl)))), fun z => absurd z (by decide), fun _ => hx2, fun _ => m2.mp hm⟩
        exact ⟨⟨n1, fun _ => ⟨fun z => absurd rfl z, fun _ => ⟨m1, fun _ => q1⟩⟩⟩, q2.of (by omega) n2.e⟩
      · rw [if_neg hm]
        exact ⟨⟨n1, fun _ => ⟨fun z => absurd rfl z, fun _ => ⟨m1, fun z => absurd z hm⟩⟩⟩, (EvR_fail n3 (by omega)).of (by omega) n2.e⟩
    · subst he
      rw [if_pos (by decide)]
      have m2 := mayDrop_iff (n := (r_X5_readNumber σ).2 35 30) hR1 (hO.2.2.2.1 1 (by decide))
      by_cases hm : ¬ v_X5_mayDrop (r_X5_readNumber σ).2 ((r_X5_readNumber σ).2 35 30) = 0
      · rw [if_pos hm]
        obtain ⟨q1, q2⟩ := EvR_157 (e := 100) (n := (r_X5_readNumber σ).2 35 30) n3 (by omega : _ ≤ t) hR1 hO h61 h311 hkc hx1 ⟨Or.inr (Or.inr (Or.inr (Or.inr (Or.inr (Or.inl rfl))))), fun _ => ⟨hE, m2.mp hm⟩, fun z => absurd rfl z, fun z => absurd z (by decide)⟩
        exact ⟨⟨n1, fun _ => ⟨fun _ _ => q1, fun z => absurd (by decide) z⟩⟩, q2.of (by omega) n2.e⟩
      · rw [if_neg hm]
        exact ⟨⟨n1, fun _ => ⟨fun _ z => absurd z hm, fun z => absurd (by decide) z⟩⟩, (EvR_fail n3 (by omega)).of (by omega) n2.e⟩
  · rw [if_neg hr]
    exact ⟨⟨n1, fun z => absurd z hr⟩, n2.e, _, n3, by omega, by omega, fun z => absurd rfl z⟩
theorem rev78 {t a : Nat} {e w y0 : Int32} (h5 : t ≤ 500) (ha : σ 35 28 = N a) (ht : σ 35 26 = N t) (hat : a ≤ t) (hR : RefAt σ T S x.1 x.2.1 x.2.2) (hO : OK T (S 1) (k + c) x.1 x.2.1 x.2.2) (h6 : σ 35 6 = N k) (h31 : σ 35 31 = N c) (hkc : ¬ y0 = 0 → k + c < 400) (hx : mrun T S (σ 39) (σ 40) (k + c) = some x) (he : isEv e) (hy : ¬ y0 = 0 → (¬ e = 100 → x.1 < 2) ∧ (e = 100 → (x.1 = 0 ∨ x.1 = 1 ∧ x.2.1 = 0))) :
    p_X5_readEvent_a78 σ e w y0 ∧ EvR T S σ k c t a (r_X5_readEvent_a78 σ e w y0) := by
  unfold p_X5_readEvent_a78 r_X5_readEvent_a78
  by_cases h0 : ¬ y0 = 0
  · rw [if_pos h0]
    obtain ⟨y1, y2⟩ := hy h0
    by_cases h99 : e = 99
    · rw [if_pos h99]
      obtain ⟨q1, q2⟩ := rev105 (e := e) h5 ha ht hat hR hO h6 h31 (hkc h0) hx (Or.inl ⟨h99, y1 (by rw [h99]; decide)⟩)
      exact ⟨fun _ => ⟨fun _ => q1, fun z => absurd h99 z⟩, q2⟩
    rw [if_neg h99]
    by_cases h100 : e = 100
    · rw [if_neg (fun z => z h100)]
      obtain ⟨q1, q2⟩ := rev105 (e := e) h5 ha ht hat hR hO h6 h31 (hkc h0) hx (Or.inr ⟨h100, y2 h100⟩)
      exact ⟨fun _ => ⟨fun z => absurd z h99, fun _ => ⟨fun z => absurd h100 z, fun _ => q1⟩⟩, q2⟩
    · rw [if_pos h100]
      obtain ⟨q1, q2⟩ := EvR_157 (e := e) (n := 0) ha hat hR hO h6 h31 (hkc h0) hx ⟨he, fun z => absurd z h100, y1, fun z => absurd z h99⟩
      exact ⟨fun _ => ⟨fun z => absurd z h99, fun _ => ⟨fun _ => q1, fun z => absurd h100 z⟩⟩, q2⟩
  · rw [if_neg h0]
    exact ⟨fun z => absurd z h0, EvR_fail ha hat⟩
theorem rev_ok {t a : Nat} (h5 : t ≤ 500) (ha : σ 35 28 = N a) (ht : σ 35 26 = N t) (hat : a ≤ t) (hR : RefAt σ T S x.1 x.2.1 x.2.2) (hO : OK T (S 1) (k + c) x.1 x.2.1 x.2.2) (h6 : σ 35 6 = N k) (h31 : σ 35 31 = N c) (hkc : k + c ≤ 400) (hx : mrun T S (σ 39) (σ 40) (k + c) = some x) :
    p_X5_readEvent σ ∧ EvR T S σ k c t a (r_X5_readEvent σ) ∧ (¬ (r_X5_readEvent σ).1 = 0 → EvR T S σ k c t (a + 1) (r_X5_readEvent σ)) := by
  obtain ⟨h1, h2, h3⟩ := here_ok ha ht hat h5
  have hl := skp_le (B := σ 57) (t - a) a
  have h28 : (r_X5_here σ).2 35 28 = N (skp (σ 57) (t - a) a) := by rw [h3]; exact up_eq
  have hE1 : ESame k σ (r_X5_here σ).2 := by rw [h3]; exact ESame_u (by decide)
  unfold p_X5_readEvent r_X5_readEvent
  by_cases g : ¬ v_X5_isEvent (r_X5_here σ).1 = 0
  · rw [if_pos g]
    have hev := isEvent5.mp g
    have hlt : skp (σ 57) (t - a) a < t := by
      by_cases z : skp (σ 57) (t - a) a < t
      · exact z
      · rw [h2, if_neg z] at g
        exact absurd (by decide) g
    have et : t_X5_readEvent_0 σ = sg_up σ 35 28 (N (skp (σ 57) (t - a) a + 1)) := by
      unfold t_X5_readEvent_0
      rw [h28, h3, up_up, N_inc]
    rw [et]
    have ha2 : (sg_up σ 35 28 (N (skp (σ 57) (t - a) a + 1))) 35 28 = N (skp (σ 57) (t - a) a + 1) := up_eq
    have ht2 : (sg_up σ 35 28 (N (skp (σ 57) (t - a) a + 1))) 35 26 = N t := by rw [up_k (by decide)]; exact ht
    have hR2 : RefAt (sg_up σ 35 28 (N (skp (σ 57) (t - a) a + 1))) T S x.1 x.2.1 x.2.2 := RefAt_fr hR (fun q j hq => up_ne (by omega))
    have h62 : (sg_up σ 35 28 (N (skp (σ 57) (t - a) a + 1))) 35 6 = N k := by rw [up_k (by decide)]; exact h6
    have h312 : (sg_up σ 35 28 (N (skp (σ 57) (t - a) a + 1))) 35 31 = N c := by rw [up_k (by decide)]; exact h31
    have hx2 : mrun T S ((sg_up σ 35 28 (N (skp (σ 57) (t - a) a + 1))) 39) ((sg_up σ 35 28 (N (skp (σ 57) (t - a) a + 1))) 40) (k + c) = some x := by
      rw [show (sg_up σ 35 28 (N (skp (σ 57) (t - a) a + 1))) 39 = σ 39 from funext (fun j => up_c (by decide)), show (sg_up σ 35 28 (N (skp (σ 57) (t - a) a + 1))) 40 = σ 40 from funext (fun j => up_c (by decide))]
      exact hx
    have hES : ESame k σ (sg_up σ 35 28 (N (skp (σ 57) (t - a) a + 1))) := ESame_u (by decide)
    have hc4 : ((400 : Int32) ≤ (sg_up σ 35 28 (N (skp (σ 57) (t - a) a + 1))) 35 6 + (sg_up σ 35 28 (N (skp (σ 57) (t - a) a + 1))) 35 31) ↔ ¬ k + c < 400 := by
      rw [h62, h312, N_add]
      show (N 400 ≤ N (k + c)) ↔ _
      rw [N_le (by decide) (by omega)]; omega
    have hno := now_lt hR2 hO.1
    have hea := isEarly_iff hR2 hO.1 hO.2.1
    have key : ∀ y0 : Int32, (¬ y0 = 0 → k + c < 400) → (¬ y0 = 0 → (¬ (r_X5_here σ).1 = 100 → x.1 < 2) ∧ ((r_X5_here σ).1 = 100 → (x.1 = 0 ∨ x.1 = 1 ∧ x.2.1 = 0))) → p_X5_readEvent_a78 (sg_up σ 35 28 (N (skp (σ 57) (t - a) a + 1))) (r_X5_here σ).1 ((r_X5_here σ).2 35 28) y0 ∧ EvR T S σ k c t a (r_X5_readEvent_a78 (sg_up σ 35 28 (N (skp (σ 57) (t - a) a + 1))) (r_X5_here σ).1 ((r_X5_here σ).2 35 28) y0) ∧ (¬ (r_X5_readEvent_a78 (sg_up σ 35 28 (N (skp (σ 57) (t - a) a + 1))) (r_X5_here σ).1 ((r_X5_here σ).2 35 28) y0).1 = 0 → EvR T S σ k c t (a + 1) (r_X5_readEvent_a78 (sg_up σ 35 28 (N (skp (σ 57) (t - a) a + 1))) (r_X5_here σ).1 ((r_X5_here σ).2 35 28) y0)) := by
      intro y0 k1 k2
      obtain ⟨q1, q2⟩ := rev78 (w := (r_X5_here σ).2 35 28) (y0 := y0) h5 ha2 ht2 (by omega) hR2 hO h62 h312 k1 hx2 hev k2
      exact ⟨q1, q2.of (by omega) hES, fun _ => q2.of (by omega) hES⟩
    have key0 := key 0 (fun z => absurd rfl z) (fun z => absurd rfl z)
    by_cases c4 : (400 : Int32) ≤ (sg_up σ 35 28 (N (skp (σ 57) (t - a) a + 1))) 35 6 + (sg_up σ 35 28 (N (skp (σ 57) (t - a) a + 1))) 35 31
    · rw [if_pos c4]
      exact ⟨⟨h1, fun _ => ⟨fun _ => key0.1, fun z => absurd c4 z⟩⟩, key0.2⟩
    rw [if_neg c4]
    have c4' : k + c < 400 := Decidable.not_not.mp (fun z => c4 (hc4.mpr z))
    by_cases h100 : (r_X5_here σ).1 = 100
    · rw [if_neg (fun z => z h100)]
      by_cases hy : v_X5_isEarly (sg_up σ 35 28 (N (skp (σ 57) (t - a) a + 1))) = 0
      · rw [if_pos hy]
        exact ⟨⟨h1, fun _ => ⟨fun z => absurd z c4, fun _ => ⟨fun z => absurd h100 z, fun _ => ⟨fun _ => key0.1, fun z => absurd hy z⟩⟩⟩⟩, key0.2⟩
      · rw [if_neg hy]
        have key1 := key 1 (fun _ => c4') (fun _ => ⟨fun z => absurd h100 z, fun _ => hea.mp hy⟩)
        exact ⟨⟨h1, fun _ => ⟨fun z => absurd z c4, fun _ => ⟨fun z => absurd h100 z, fun _ => ⟨fun z => absurd z hy, fun _ => key1.1⟩⟩⟩⟩, key1.2⟩
    · rw [if_pos h100]
      by_cases hy : (2 : Int32) ≤ (sg_up σ 35 28 (N (skp (σ 57) (t - a) a + 1))) 35 23
      · rw [if_pos hy]
        exact ⟨⟨h1, fun _ => ⟨fun z => absurd z c4, fun _ => ⟨fun _ => ⟨fun _ => key0.1, fun z => absurd hy z⟩, fun z => absurd h100 z⟩⟩⟩, key0.2⟩
      · rw [if_neg hy]
        have key1 := key 1 (fun _ => c4') (fun _ => ⟨fun _ => Decidable.not_not.mp (fun z => hy (hno.mpr z)), fun z => absurd z h100⟩)
        exact ⟨⟨h1, fun _ => ⟨fun z => absurd z c4, fun _ => ⟨fun _ => ⟨fun z => absurd z hy, fun _ => key1.1⟩, fun z => absurd h100 z⟩⟩⟩, key1.2⟩
  · rw [if_neg g]
    exact ⟨⟨h1, fun z => absurd z g⟩, (EvR_fail h28 (by omega)).of (by omega) hE1, fun z => absurd rfl z⟩
end REv
/-- what a reading of all events leaves -/
def EvsR (T S : Nat → Nat) (σ : sg_S) (k : Nat) (r : Int32 × sg_S) : Prop := ESame k σ r.2 ∧ (¬ r.1 = 0 → ∃ c, r.2 35 31 = N c ∧ k + c ≤ 400 ∧ ∃ y : mS, mrun T S (r.2 39) (r.2 40) (k + c) = some y)
theorem revs4 {T S : Nat → Nat} {t k : Nat} (h5 : t ≤ 500) : ∀ (n a c : Nat) (σ : sg_S) (x : mS), t - a < n → σ 35 28 = N a → σ 35 26 = N t → a ≤ t → RefAt σ T S x.1 x.2.1 x.2.2 → σ 35 6 = N k → σ 35 31 = N c → k + c ≤ 400 → mrun T S (σ 39) (σ 40) (k + c) = some x → p_X5_readEvents_l4 n σ ∧ EvsR T S σ k (r_X5_readEvents_l4 n σ) := by
  intro n
  induction n with
  | zero => intro a c σ x hn; omega
  | succ n ih =>
    intro a c σ x hn ha ht hat hR h6 h31 hkc hx
    show p_X5_readEvents_b4 (p_X5_readEvents_l4 n) σ ∧ EvsR T S σ k (r_X5_readEvents_b4 (r_X5_readEvents_l4 n) σ)
    unfold p_X5_readEvents_b4 r_X5_readEvents_b4
    obtain ⟨h1, h2, h3⟩ := here_ok ha ht hat h5
    have hl := skp_le (B := σ 57) (t - a) a
    have hO := mrun_OK hR.2.1 hR.2.2.2.1 (k + c) x hx
    have h28 : (r_X5_here σ).2 35 28 = N (skp (σ 57) (t - a) a) := by rw [h3]; exact up_eq
    have h26 : (r_X5_here σ).2 35 26 = N t := by rw [h3, up_k (by decide)]; exact ht
    have hR1 : RefAt (r_X5_here σ).2 T S x.1 x.2.1 x.2.2 := by rw [h3]; exact RefAt_fr hR (fun q j hq => up_ne (by omega))
    have h61 : (r_X5_here σ).2 35 6 = N k := by rw [h3, up_k (by decide)]; exact h6
    have h311 : (r_X5_here σ).2 35 31 = N c := by rw [h3, up_k (by decide)]; exact h31
    have hE1 : ESame k σ (r_X5_here σ).2 := by rw [h3]; exact ESame_u (by decide)
    have hx1 : mrun T S ((r_X5_here σ).2 39) ((r_X5_here σ).2 40) (k + c) = some x := by
      rw [h3, show (sg_up σ 35 28 (N (skp (σ 57) (t - a) a))) 39 = σ 39 from funext (fun j => up_c (by decide)), show (sg_up σ 35 28 (N (skp (σ 57) (t - a) a))) 40 = σ 40 from funext (fun j => up_c (by decide))]
      exact hx
    by_cases g : (r_X5_here σ).1 = -1
    · rw [if_pos g]
      exact ⟨⟨h1, fun z => absurd g z⟩, hE1, fun _ => ⟨c, h311, hkc, x, hx1⟩⟩
    · rw [if_neg g]
      obtain ⟨r1, r2, r3⟩ := rev_ok h5 h28 h26 (by omega) hR1 hO h61 h311 hkc hx1
      by_cases hr : ¬ (r_X5_readEvent (r_X5_here σ).2).1 = 0
      · rw [if_pos hr]
        obtain ⟨v1, a', v2, v3, v4, v5⟩ := r3 hr
        obtain ⟨w1, w2, y, w3, w4⟩ := v5 hr
        obtain ⟨i1, i2, i3⟩ := ih a' (c + 1) _ y (by omega) v2 (by rw [v1 35 26 (by decide) (by decide) (by omega)]; exact h26) v4 w3 (by rw [v1 35 6 (by decide) (by decide) (by omega)]; exact h61) w1 w2 w4
        exact ⟨⟨h1, fun _ => ⟨r1, fun _ => i1⟩⟩, (hE1.tr v1).tr i2, i3⟩
      · rw [if_neg hr]
        obtain ⟨v1, -⟩ := r2
        refine ⟨⟨h1, fun _ => ⟨r1, fun z => absurd z hr⟩⟩, ?_, fun z => absurd rfl z⟩
        dsimp only
        exact hE1.tr v1
end
