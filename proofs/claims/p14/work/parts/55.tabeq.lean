/-! BOTH READ THE SAME TABLE -/
theorem nn0 : ¬ ¬ (0 : Int32) = 0 := fun z => z rfl
theorem skp_congr {B B' : Nat → Int32} : ∀ (n a : Nat), (∀ j, j < a + n → B j = B' j) → skp B n a = skp B' n a := by
  intro n
  induction n with
  | zero => intro a _; rfl
  | succ n ih =>
    intro a h
    rw [skp_s, skp_s, h a (by omega), ih (a + 1) (fun j hj => h j (by omega))]
theorem dgE_congr {B B' : Nat → Int32} : ∀ (n a : Nat), (∀ j, j < a + n → B j = B' j) → dgE B n a = dgE B' n a := by
  intro n
  induction n with
  | zero => intro a _; rfl
  | succ n ih =>
    intro a h
    rw [dgE_s, dgE_s, h a (by omega), ih (a + 1) (fun j hj => h j (by omega))]
theorem dgV_congr {B B' : Nat → Int32} {p : Nat} : ∀ (n a v : Nat), (∀ j, j < a + n → B j = B' j) → dgV B p n a v = dgV B' p n a v := by
  intro n
  induction n with
  | zero => intro a v _; rfl
  | succ n ih =>
    intro a v h
    rw [dgV_s, dgV_s, h a (by omega), ih (a + 1) _ (fun j hj => h j (by omega))]
theorem lwE_congr {B B' : Nat → Int32} : ∀ (n a : Nat), (∀ j, j < a + n → B j = B' j) → lwE B n a = lwE B' n a := by
  intro n
  induction n with
  | zero => intro a _; rfl
  | succ n ih =>
    intro a h
    rw [lwE_s, lwE_s, h a (by omega), ih (a + 1) (fun j hj => h j (by omega))]
/-- both stand at the same place of the same text -/
def Pos (σ τ : sg_S) (t a : Nat) : Prop := σ 5 4 = N a ∧ σ 5 1 = N t ∧ τ 35 28 = N a ∧ τ 35 26 = N t ∧ a ≤ t ∧ t ≤ 500 ∧ ∀ j, j < t → τ 57 j = σ 6 j
theorem faultHere_eq {σ : sg_S} {kd p : Nat} (h : σ 5 2 = N p) : v_X4_faultHere σ (N kd) = N (kd + 8 * p) := by
  unfold v_X4_faultHere
  rw [h, show (8 : Int32) = N 8 from rfl, N_mul, N_add]
/-- a number, read by both -/
theorem num_both {σ τ : sg_S} {t a : Nat} (h : Pos σ τ t a) : ∃ p e v, a ≤ p ∧ p ≤ e ∧ e ≤ t ∧ v < 10000 ∧
    ((p < e ∧ e - p ≤ 4 ∧ (r_X3_readNumber σ).1 = 1 ∧ (r_X3_readNumber σ).2 5 3 = N v ∧ (r_X3_readNumber σ).2 5 2 = N p ∧ (r_X5_readNumber τ).1 = 1 ∧ (r_X5_readNumber τ).2 35 30 = N v ∧ (r_X5_readNumber τ).2 35 32 = N p ∧ (r_X5_readNumber τ).2 35 29 = τ 35 29 ∧ Pos (r_X3_readNumber σ).2 (r_X5_readNumber τ).2 t e) ∨
     (p < e ∧ ¬ e - p ≤ 4 ∧ (r_X3_readNumber σ).1 = 1 ∧ (r_X3_readNumber σ).2 5 3 = -1 ∧ (r_X3_readNumber σ).2 5 2 = N p ∧ (r_X5_readNumber τ).1 = 0 ∧ (r_X5_readNumber τ).2 35 29 = N (2 + 8 * p)) ∨
     ((r_X3_readNumber σ).1 = 0 ∧ (r_X3_readNumber σ).2 5 2 = N p ∧ (r_X5_readNumber τ).1 = 0 ∧ (r_X5_readNumber τ).2 35 29 = N (1 + 8 * p))) := by
  obtain ⟨h1, h2, h3, h4, h5, h6, h7⟩ := h
  have eB : ∀ j, j < t → σ 6 j = τ 57 j := fun j hj => (h7 j hj).symm
  have hpl := skp_le (B := σ 6) (t - a) a
  have hel := dgE_le (B := σ 6) (t - skp (σ 6) (t - a) a) (skp (σ 6) (t - a) a)
  have ep : skp (τ 57) (t - a) a = skp (σ 6) (t - a) a := skp_congr _ _ (fun j hj => h7 j (by omega))
  have ee : dgE (τ 57) (t - skp (σ 6) (t - a) a) (skp (σ 6) (t - a) a) = dgE (σ 6) (t - skp (σ 6) (t - a) a) (skp (σ 6) (t - a) a) := dgE_congr _ _ (fun j hj => h7 j (by omega))
  have ev : dgV (τ 57) (skp (σ 6) (t - a) a) (t - skp (σ 6) (t - a) a) (skp (σ 6) (t - a) a) 0 = dgV (σ 6) (skp (σ 6) (t - a) a) (t - skp (σ 6) (t - a) a) (skp (σ 6) (t - a) a) 0 := dgV_congr _ _ _ (fun j hj => h7 j (by omega))
  obtain ⟨c1, c2, c3, c4, c5⟩ := cnum_ok h1 h2 h5 h6 rfl rfl rfl
  obtain ⟨n1, n2, n3, n4, n5, n6⟩ := rnum_ok h3 h4 h5 h6 ep ee ev
  refine ⟨skp (σ 6) (t - a) a, dgE (σ 6) (t - skp (σ 6) (t - a) a) (skp (σ 6) (t - a) a), dgV (σ 6) (skp (σ 6) (t - a) a) (t - skp (σ 6) (t - a) a) (skp (σ 6) (t - a) a) 0, hpl.1, hel.1, by omega, dgV_9999, ?_⟩
  by_cases g : skp (σ 6) (t - a) a < dgE (σ 6) (t - skp (σ 6) (t - a) a) (skp (σ 6) (t - a) a)
  · rw [if_pos g] at c1
    by_cases g4 : dgE (σ 6) (t - skp (σ 6) (t - a) a) (skp (σ 6) (t - a) a) - skp (σ 6) (t - a) a ≤ 4
    · obtain ⟨m1, m2, m3, m4⟩ := n4 g g4
      refine Or.inl ⟨g, g4, c1, c4 g4, c3, m1, m2, m3, m4, c2, ?_, n3, ?_, by omega, h6, fun j hj => ?_⟩
      · rw [K_num 5 1 (by decide)]; exact h2
      · rw [n2 35 26 (by decide)]; exact h4
      · rw [n2.row (q := 57) (by decide), K_num.row (σ := σ) (q := 6) (by decide)]; exact h7 j hj
    · obtain ⟨m1, m2⟩ := n5 g g4
      exact Or.inr (Or.inl ⟨g, g4, c1, c5 g4, c3, m1, m2⟩)
  · rw [if_neg g] at c1
    obtain ⟨m1, m2⟩ := n6 g
    exact Or.inr (Or.inr ⟨c1, c3, m1, m2⟩)
/-- what a row leaves in both -/
def RowO (t a c : Nat) (z : Int32) (rc rr : Int32 × sg_S) : Prop :=
  (∃ V a', rc.1 = 0 ∧ rr.1 = 1 ∧ TabAt rc.2 3 V ∧ TabAt rr.2 38 V ∧ GoodV V ∧ Pos rc.2 rr.2 t a' ∧ a ≤ a' ∧ rr.2 35 31 = N (c + 1) ∧ rr.2 35 29 = z) ∨ (∃ f, 0 < f ∧ f < 10000 ∧ rc.1 = N f ∧ rr.1 = 0 ∧ rr.2 35 29 = N f)
theorem RowO.le {t a a1 c : Nat} {z : Int32} {rc rr : Int32 × sg_S} (h : RowO t a1 c z rc rr) (ha : a ≤ a1) : RowO t a c z rc rr := by
  rcases h with ⟨V, a', h1, h2, h3, h4, h5, h6, h7, h8⟩ | h
  · exact Or.inl ⟨V, a', h1, h2, h3, h4, h5, h6, by omega, h8⟩
  · exact Or.inr h
theorem stand1 {k v : Nat} (hk : 1 ≤ k) (hk5 : k < 5) (hv : v < 10000) : (¬ v_X2_canStandInRow (N k) (N v) = 0) ↔ (1 ≤ v ∧ v ≤ 1000) := by
  unfold v_X2_canStandInRow
  rw [if_pos (N_nz (by omega) (by omega))]
  by_cases g1 : v < 1
  · rw [if_pos (by exact g_lt (L := 1) g1 (by decide))]; exact ⟨fun z => absurd rfl z, fun z => by omega⟩
  · rw [if_neg (by
      show ¬ N v < N 1
      rw [N_lt (by omega) (by decide)]; exact g1)]
    by_cases g2 : 1000 < v
    · rw [if_pos (by exact g_lt (a := 1000) g2 (by omega))]; exact ⟨fun z => absurd rfl z, fun z => by omega⟩
    · rw [if_neg (by exact g_nlt (L := 1000) (by omega) (by decide))]; exact ⟨fun _ => by omega, fun _ => one_nz⟩
theorem row_k {t w c : Nat} {z : Int32} (hw : w < 10) : ∀ (m n k a : Nat) (σ τ : sg_S) (V : Nat → Nat), 1 ≤ k → k ≤ 5 → 5 - k < m → 5 - k < n → Pos σ τ t a → TabAt σ 3 V → TabAt τ 38 V → GoodV V → τ 35 31 = N c → τ 35 29 = z → RowO t a c z (r_X4_readRow_l20 m σ (N w) (N k)) (r_X5_readRow_l158 n τ (N w) (N k)) := by
  intro m
  induction m with
  | zero => intro n k a σ τ V _ _ hm; omega
  | succ m ih =>
    intro n k a σ τ V hk1 hk5 hm hn hP hV hW hG hc hzz
    cases n with
    | zero => omega
    | succ n =>
    show RowO t a c z (r_X4_readRow_b20 (r_X4_readRow_l20 m) σ (N w) (N k)) (r_X5_readRow_b158 (r_X5_readRow_l158 n) τ (N w) (N k))
    unfold r_X4_readRow_b20 r_X5_readRow_b158
    obtain ⟨h1, h2, h3, h4, h5, h6, h7⟩ := id hP
    by_cases e : k = 5
    · have hc5 : (5 : Int32) ≤ N k := (N14 (L := 5) hk5 (by decide)).mpr e
      have hc4 : (4 : Int32) < N k := by
        show N 4 < N k
        exact g_lt (by omega) (by omega)
      rw [if_pos hc5, if_pos hc4]
      have ep : skp (τ 57) (t - a) a = skp (σ 6) (t - a) a := skp_congr _ _ (fun j hj => h7 j (by omega))
      have hpl := skp_le (B := σ 6) (t - a) a
      obtain ⟨b1, b2, b3⟩ := cbyte_ok (x := 59) h1 h2 h5 h6
      obtain ⟨g1, g2, g3⟩ := here_ok h3 h4 h5 h6
      rw [ep] at g2 g3
      have e28 : (r_X5_here τ).2 35 28 = N (skp (σ 6) (t - a) a) := by rw [g3]; exact up_eq
      by_cases g : skp (σ 6) (t - a) a < t ∧ σ 6 (skp (σ 6) (t - a) a) = 59
      · obtain ⟨c1, c2⟩ := b2 g.1 g.2
        rw [c1, if_neg one_nz, g2, if_pos g.1, h7 _ g.1, if_pos g.2]
        have et : t_X5_readRow_1 τ (N w) (N k) = sg_up (sg_up τ 35 28 (N (skp (σ 6) (t - a) a + 1))) 35 31 (N (c + 1)) := by
          unfold t_X5_readRow_1 t_X5_readRow_0
          rw [e28, g3, up_up, N_inc, up_k (by decide), hc, N_inc]
        refine Or.inl ⟨V, skp (σ 6) (t - a) a + 1, rfl, rfl, TabAt_row hV (K_readByte.row (by decide)), ?_, hG, ⟨c2, ?_, ?_, ?_, by omega, h6, fun j hj => ?_⟩, by omega, ?_, ?_⟩
        · dsimp only; rw [et]; exact TabAt_up (TabAt_up hW (by decide)) (by decide)
        · rw [K_readByte 5 1 (by decide)]; exact h2
        · dsimp only; rw [et, up_k (by decide), up_eq]
        · dsimp only; rw [et, up_k (by decide), up_k (by decide)]; exact h4
        · dsimp only; rw [et, up_c (by decide), up_c (by decide), K_readByte.row (σ := σ) (q := 6) (by decide)]; exact h7 j hj
        · dsimp only; rw [et, up_eq]
        · dsimp only; rw [et, up_k (by decide), up_k (by decide)]; exact hzz
      · have c1 := b3 g
        have hne : ¬ (r_X5_here τ).1 = 59 := by
          rw [g2]
          by_cases gt : skp (σ 6) (t - a) a < t
          · rw [if_pos gt, h7 _ gt]; exact fun z => g ⟨gt, z⟩
          · rw [if_neg gt]; decide
        rw [c1, if_pos rfl, if_neg hne, e28]
        refine Or.inr ⟨1 + 8 * skp (σ 6) (t - a) a, by omega, by omega, faultHere_eq (kd := 1) b1, rfl, ?_⟩
        show (r_X5_fails (r_X5_here τ).2 1 ((r_X5_here τ).2 35 28)).2 35 29 = _
        rw [e28, show (1 : Int32) = N 1 from rfl, rfails_eq]
        dsimp only; exact up_eq
    · have hc5 : ¬ (5 : Int32) ≤ N k := fun z => e ((N14 (L := 5) hk5 (by decide)).mp z)
      have hc4 : ¬ (4 : Int32) < N k := by
        show ¬ N 4 < N k
        exact g_nlt (by omega) (by decide)
      rw [if_neg hc5, if_neg hc4, N_inc]
      obtain ⟨p, e', v, q1, q2, q3, q4, q⟩ := num_both hP
      rcases q with ⟨r1, r2, r3, r4, r5, r6, r7, r8, r10, r9⟩ | ⟨r1, r2, r3, r4, r5, r6, r7⟩ | ⟨r3, r5, r6, r7⟩
      · rw [r3, if_pos one_nz, r6, if_pos one_nz, r4, r7]
        have hst := stand1 hk1 (by omega) q4
        have hin := in_ni (x := N v) (lo := 1) (hi := 1000) (by decide) (by decide) (by decide)
        rw [ni_N (by omega)] at hin
        have hin : (¬ v_X5_in (N v) 1 1000 = 0) ↔ (1 ≤ v ∧ v ≤ 1000) := hin
        by_cases g : 1 ≤ v ∧ v ≤ 1000
        · rw [if_pos (hst.mpr g), if_pos (hin.mpr g), if_pos (N_nz (by omega) (by omega))]
          have hV1 : TabAt (r_X3_readNumber σ).2 3 V := TabAt_row hV (K_num.row (by decide))
          have ec : t_X4_readRow_0 σ (N w) (N k) = sg_up (r_X3_readNumber σ).2 3 (5 * w + k) (N v) := by
            unfold t_X4_readRow_0 s_X2_propose
            rw [r4, if_neg (N_nn (by omega)), if_neg (by exact g_nle (L := 10) hw (by decide)), if_neg (by
              show ¬ N k < N 1
              rw [N_lt (by omega) (by decide)]; omega), if_neg hc5, show 5 * N w + N k = N (5 * w + k) by rw [show (5 : Int32) = N 5 from rfl, N_mul, N_add], ni_N (by omega)]
          have er : t_X5_readRow_3 τ (N w) (N k) = sg_up (r_X5_readNumber τ).2 38 (5 * w + k) (N v) := by
            unfold t_X5_readRow_3
            rw [r7, show 5 * N w + N k = N (5 * w + k) by rw [show (5 : Int32) = N 5 from rfl, N_mul, N_add], ni_N (by omega)]
          obtain ⟨p1, p2, p3, p4, p5, p6, p7⟩ := id r9
          have n2 := (rnum_ok h3 h4 h5 h6 rfl rfl rfl).2.1
          have i := ih n (k + 1) e' (t_X4_readRow_0 σ (N w) (N k)) (t_X5_readRow_3 τ (N w) (N k)) (du V (5 * w + k) v) (by omega) (by omega) (by omega) (by omega) (by
            rw [ec, er]
            exact ⟨by rw [up_c (by decide)]; exact p1, by rw [up_c (by decide)]; exact p2, by rw [up_c (by decide)]; exact p3, by rw [up_c (by decide)]; exact p4, p5, p6, fun j hj => by rw [up_c (by decide), up_c (by decide)]; exact p7 j hj⟩) (by rw [ec]; exact TabAt_du hV1) (by rw [er]; exact TabAt_du (TabAt_row hW (n2.row (by decide)))) (GoodV_du hG hw hk1 (by omega) g.1 g.2) (by rw [er, up_c (by decide), n2 35 31 (by decide)]; exact hc) (by rw [er, up_c (by decide), r10]; exact hzz)
          exact i.le (by omega)
        · rw [if_neg (fun z => g (hst.mp z)), if_neg (fun z => g (hin.mp z))]
          refine Or.inr ⟨2 + 8 * p, by omega, by omega, faultHere_eq (kd := 2) r5, rfl, ?_⟩
          show (r_X5_fails (r_X5_readNumber τ).2 2 ((r_X5_readNumber τ).2 35 32)).2 35 29 = _
          rw [r8, show (2 : Int32) = N 2 from rfl, rfails_eq]
          dsimp only; exact up_eq
      · rw [r3, if_pos one_nz, r6, if_neg nn0, r4, if_neg (by
          unfold v_X2_canStandInRow
          rw [if_pos (N_nz (by omega) (by omega)), if_pos (by decide)]
          exact fun z => z rfl)]
        exact Or.inr ⟨2 + 8 * p, by omega, by omega, faultHere_eq (kd := 2) r5, rfl, r7⟩
      · rw [r3, if_neg nn0, r6, if_neg nn0]
        exact Or.inr ⟨1 + 8 * p, by omega, by omega, faultHere_eq (kd := 1) r5, rfl, r7⟩
/-- a row, read by both -/
theorem row_both {σ τ : sg_S} {t a c : Nat} {z : Int32} {V : Nat → Nat} (hP : Pos σ τ t a) (hV : TabAt σ 3 V) (hW : TabAt τ 38 V) (hG : GoodV V) (hc : τ 35 31 = N c) (hzz : τ 35 29 = z) : RowO t a c z (r_X4_readRow σ) (r_X5_readRow τ) ∧ ((r_X4_readRow σ).1 = 0 → RowO t (a + 3) c z (r_X4_readRow σ) (r_X5_readRow τ)) := by
  obtain ⟨h1, h2, h3, h4, h5, h6, h7⟩ := id hP
  have ep : skp (τ 57) (t - a) a = skp (σ 6) (t - a) a := skp_congr _ _ (fun j hj => h7 j (by omega))
  have hpl := skp_le (B := σ 6) (t - a) a
  obtain ⟨g1, g2, g3⟩ := here_ok h3 h4 h5 h6
  rw [ep] at g2 g3
  generalize hp : skp (σ 6) (t - a) a = p at *
  have elw : lwE (τ 57) (t - p) p = lwE (σ 6) (t - p) p := lwE_congr _ _ (fun j hj => h7 j (by omega))
  have hll := lwE_le (B := σ 6) (t - p) p
  generalize hle : lwE (σ 6) (t - p) p = le at *
  have e28 : (r_X5_here τ).2 35 28 = N p := by rw [g3]; exact up_eq
  have e26 : (r_X5_here τ).2 35 26 = N t := by rw [g3, up_k (by decide)]; exact h4
  have e57 : (r_X5_here τ).2 57 = τ 57 := by rw [g3]; exact funext (fun j => up_c (by decide))
  obtain ⟨w1, w2, w3⟩ := cword_ok h1 h2 h5 h6 hp hle
  have hfail : ∀ rr : Int32 × sg_S, rr.1 = 0 → rr.2 35 29 = N (1 + 8 * p) → (r_X3_readRowWord σ).1 = 0 → RowO t a c z (r_X4_readRow σ) rr ∧ ((r_X4_readRow σ).1 = 0 → RowO t (a + 3) c z (r_X4_readRow σ) rr) := by
    intro rr z1 z2 z3
    have ec : (r_X4_readRow σ).1 = N (1 + 8 * p) := by
      unfold r_X4_readRow
      rw [z3, if_neg nn0]
      exact faultHere_eq (kd := 1) w1
    refine ⟨Or.inr ⟨1 + 8 * p, by omega, by omega, ec, z1, z2⟩, fun z => ?_⟩
    rw [ec] at z
    exact absurd z (N_nz (by omega) (by omega))
  have hin := in_ni (x := τ 57 p) (lo := 97) (hi := 122) (by decide) (by decide) (by decide)
  by_cases gl : p < t ∧ (97 ≤ ni (τ 57 p) ∧ ni (τ 57 p) ≤ 122)
  · have hz : ¬ v_X5_in (r_X5_here τ).1 97 122 = 0 := by
      rw [g2, if_pos gl.1]; exact hin.mpr gl.2
    have er : r_X5_readRow τ = r_X5_readRow_a72 (sg_up (r_X5_here τ).2 35 28 (N le)) (N p) := by
      unfold r_X5_readRow
      rw [if_pos hz, e28]
      have l2 := (lw29 (x1 := N p) h6 600 p (r_X5_here τ).2 e28 e26 (by omega) (by omega)).2
      rw [e57, elw] at l2
      exact l2
    rw [er]
    have f28 : (sg_up (r_X5_here τ).2 35 28 (N le)) 35 28 = N le := up_eq
    have f26 : (sg_up (r_X5_here τ).2 35 28 (N le)) 35 26 = N t := by rw [up_k (by decide)]; exact e26
    have f57 : (sg_up (r_X5_here τ).2 35 28 (N le)) 57 = τ 57 := funext (fun j => by rw [up_c (by decide), e57])
    by_cases hr : isRow (σ 6) p le
    · obtain ⟨w4, w5⟩ := w2 hr
      obtain ⟨r1, r2, r3, r4⟩ := hr
      have b1 : τ 57 p = 114 := by rw [h7 p (by omega)]; exact r2
      have b2 : τ 57 (p + 1) = 111 := by rw [h7 _ (by omega)]; exact r3
      have b3 : τ 57 (p + 2) = 119 := by rw [h7 _ (by omega)]; exact r4
      have hP1 : Pos (r_X3_readRowWord σ).2 (sg_up (r_X5_here τ).2 35 28 (N le)) t le := by
        refine ⟨w5, ?_, f28, f26, by omega, h6, fun j hj => ?_⟩
        · rw [K_word 5 1 (by decide)]; exact h2
        · rw [f57, K_word.row (σ := σ) (q := 6) (by decide)]; exact h7 j hj
      have hV1 : TabAt (r_X3_readRowWord σ).2 3 V := TabAt_row hV (K_word.row (by decide))
      have hW1 : TabAt (sg_up (r_X5_here τ).2 35 28 (N le)) 38 V := by rw [g3]; exact TabAt_up (TabAt_up hW (by decide)) (by decide)
      have hz1 : (sg_up (r_X5_here τ).2 35 28 (N le)) 35 29 = z := by rw [up_k (by decide), g3, up_k (by decide)]; exact hzz
      have hc1 : (sg_up (r_X5_here τ).2 35 28 (N le)) 35 31 = N c := by rw [up_k (by decide), g3, up_k (by decide)]; exact hc
      have ec : r_X4_readRow σ = r_X4_readRow_l20 600 (r_X3_readRowWord σ).2 0 0 := by
        unfold r_X4_readRow
        rw [w4, if_pos one_nz]
      have key : RowO t le c z (r_X4_readRow σ) (r_X5_readRow_a72 (sg_up (r_X5_here τ).2 35 28 (N le)) (N p)) := by
        rw [ec]
        show RowO t le c z (r_X4_readRow_b20 (r_X4_readRow_l20 599) (r_X3_readRowWord σ).2 0 0) _
        unfold r_X4_readRow_b20 r_X5_readRow_a72
        rw [if_neg (by decide), f28, N_sub hll.1, r1, if_neg (show ¬ ¬ N 3 = (3 : Int32) from fun z => z rfl), f57, ni_N (by omega), if_neg (show ¬ ¬ τ 57 p = 114 from fun z => z b1), show N p + 1 = N (p + 1) from N_add p 1, ni_N (by omega), if_neg (show ¬ ¬ τ 57 (p + 1) = 111 from fun z => z b2), show N p + 2 = N (p + 2) from N_add p 2, ni_N (by omega), if_pos b3]
        obtain ⟨p', e', v, q1, q2, q3, q4, q⟩ := num_both hP1
        rcases q with ⟨s1, s2, s3, s4, s5, s6, s7, s8, s10, s9⟩ | ⟨s1, s2, s3, s4, s5, s6, s7⟩ | ⟨s3, s5, s6, s7⟩
        · rw [s3, if_pos one_nz, s6, if_pos one_nz, s4, s7]
          by_cases g : v < 10
          · have hst : ¬ v_X2_canStandInRow 0 (N v) = 0 := by
              unfold v_X2_canStandInRow
              rw [if_neg nn0, if_neg (N_nn (by omega)), if_neg (by exact g_nle (L := 10) g (by decide))]
              exact one_nz
            rw [if_pos hst, if_neg nn0, if_pos (by exact g_lt (L := 10) g (by decide))]
            have n2 := (rnum_ok (σ := sg_up (r_X5_here τ).2 35 28 (N le)) f28 f26 (by omega) h6 rfl rfl rfl).2.1
            have key1 : ∀ o o' : Int32, o = N 1 → o' = N 1 → RowO t e' c z (r_X4_readRow_l20 599 (r_X3_readNumber (r_X3_readRowWord σ).2).2 (N v) o) (r_X5_readRow_l158 600 (r_X5_readNumber (sg_up (r_X5_here τ).2 35 28 (N le))).2 (N v) o') := by
              intro o o' ho ho'
              rw [ho, ho']
              exact row_k (c := c) (z := z) g 599 600 1 e' _ _ V (by decide) (by decide) (by decide) (by decide) s9 (TabAt_row hV1 (K_num.row (by decide))) (TabAt_row hW1 (n2.row (by decide))) hG (by rw [n2 35 31 (by decide)]; exact hc1) (by rw [s10]; exact hz1)
            exact (key1 (0 + 1) 1 (by decide) rfl).le (by omega)
          · have hst : v_X2_canStandInRow 0 (N v) = 0 := by
              unfold v_X2_canStandInRow
              rw [if_neg nn0, if_neg (N_nn (by omega)), if_pos (by exact g_le (a := 10) (by omega) (by omega))]
            rw [if_neg (fun z => z hst), if_neg (by
              show ¬ N v < N 10
              rw [N_lt (by omega) (by decide)]; exact g)]
            refine Or.inr ⟨2 + 8 * p', by omega, by omega, faultHere_eq (kd := 2) s5, rfl, ?_⟩
            show (r_X5_fails (r_X5_readNumber (sg_up (r_X5_here τ).2 35 28 (N le))).2 2 ((r_X5_readNumber (sg_up (r_X5_here τ).2 35 28 (N le))).2 35 32)).2 35 29 = _
            rw [s8, show (2 : Int32) = N 2 from rfl, rfails_eq]
            dsimp only; exact up_eq
        · rw [s3, if_pos one_nz, s6, if_neg nn0, s4, if_neg (by
            unfold v_X2_canStandInRow
            rw [if_neg nn0, if_pos (by decide)]
            exact fun z => z rfl)]
          exact Or.inr ⟨2 + 8 * p', by omega, by omega, faultHere_eq (kd := 2) s5, rfl, s7⟩
        · rw [s3, if_neg nn0, s6, if_neg nn0]
          exact Or.inr ⟨1 + 8 * p', by omega, by omega, faultHere_eq (kd := 1) s5, rfl, s7⟩
      exact ⟨key.le (by omega), fun _ => key.le (by omega)⟩
    · have w4 := w3 hr
      refine hfail _ ?_ ?_ w4
      · unfold r_X5_readRow_a72
        rw [f28, N_sub hll.1, f57, ni_N (by omega), show N p + 1 = N (p + 1) from N_add p 1, ni_N (by omega), show N p + 2 = N (p + 2) from N_add p 2, ni_N (by omega)]
        by_cases q1 : le - p = 3
        · rw [if_neg (by rw [q1]; exact fun z => z rfl)]
          by_cases q2 : τ 57 p = 114
          · rw [if_neg (fun z => z q2)]
            by_cases q3 : τ 57 (p + 1) = 111
            · rw [if_neg (fun z => z q3)]
              by_cases q4 : τ 57 (p + 2) = 119
              · exact absurd ⟨q1, by rw [← h7 p (by omega)]; exact q2, by rw [← h7 _ (by omega)]; exact q3, by rw [← h7 _ (by omega)]; exact q4⟩ hr
              · rw [if_neg q4]; rfl
            · rw [if_pos q3]; rfl
          · rw [if_pos q2]; rfl
        · rw [if_pos (by
            show ¬ N (le - p) = N 3
            rw [N_eq (by omega) (by decide)]; exact q1)]
          rfl
      · have ef : (r_X5_fails (sg_up (r_X5_here τ).2 35 28 (N le)) 1 (N p)).2 35 29 = N (1 + 8 * p) := by
          rw [show (1 : Int32) = N 1 from rfl, rfails_eq]
          dsimp only; exact up_eq
        unfold r_X5_readRow_a72
        rw [f28, N_sub hll.1, f57, ni_N (by omega), show N p + 1 = N (p + 1) from N_add p 1, ni_N (by omega), show N p + 2 = N (p + 2) from N_add p 2, ni_N (by omega)]
        by_cases q1 : le - p = 3
        · rw [if_neg (by rw [q1]; exact fun z => z rfl)]
          by_cases q2 : τ 57 p = 114
          · rw [if_neg (fun z => z q2)]
            by_cases q3 : τ 57 (p + 1) = 111
            · rw [if_neg (fun z => z q3)]
              by_cases q4 : τ 57 (p + 2) = 119
              · exact absurd ⟨q1, by rw [← h7 p (by omega)]; exact q2, by rw [← h7 _ (by omega)]; exact q3, by rw [← h7 _ (by omega)]; exact q4⟩ hr
              · rw [if_neg q4]; exact ef
            · rw [if_pos q3]; exact ef
          · rw [if_pos q2]; exact ef
        · rw [if_pos (by
            show ¬ N (le - p) = N 3
            rw [N_eq (by omega) (by decide)]; exact q1)]
          exact ef
  · have hz : v_X5_in (r_X5_here τ).1 97 122 = 0 := by
      rw [g2]
      by_cases gt : p < t
      · rw [if_pos gt]
        exact Decidable.not_not.mp (fun z => gl ⟨gt, hin.mp z⟩)
      · rw [if_neg gt]; decide
    have hnr : ¬ isRow (σ 6) p le := by
      intro hr
      have hlp : le = p := by
        rw [← hle]
        by_cases gt : p < t
        · obtain ⟨d, hd⟩ : ∃ d, t - p = d + 1 := ⟨t - p - 1, by omega⟩
          rw [hd, lwE_s, if_neg (fun z => gl ⟨gt, by rw [h7 p gt]; exact z⟩)]
        · rw [show t - p = 0 by omega]; rfl
      have := hr.1
      omega
    have er : r_X5_readRow τ = (0, sg_up (r_X5_here τ).2 35 29 (N (1 + 8 * p))) := by
      unfold r_X5_readRow t_X5_readRow_6
      rw [if_neg (fun z => z hz), e28, show (1 : Int32) = N 1 from rfl, rfails_eq]
    rw [er]
    exact hfail _ rfl (by dsimp only; exact up_eq) (w3 hnr)
