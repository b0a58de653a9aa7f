/-! THE REFERENCE READS A TABLE -/
def GoodV (V : Nat → Nat) : Prop := ∀ j, j < 50 → (j % 5 = 0 → V j = 0) ∧ (¬ j % 5 = 0 → 1 ≤ V j ∧ V j ≤ 1000)
def XSame (σ σ' : sg_S) : Prop := ∀ q k, ¬ q = 38 → ¬ (q = 35 ∧ 28 ≤ k ∧ k ≤ 32) → σ' q k = σ q k
theorem XSame.rf {σ : sg_S} : XSame σ σ := fun _ _ _ _ => rfl
theorem XSame.tr {σ σ1 σ2 : sg_S} (h : XSame σ σ1) (h' : XSame σ1 σ2) : XSame σ σ2 := fun q k a b => (h' q k a b).trans (h q k a b)
theorem XSame.row {σ σ' : sg_S} (h : XSame σ σ') {q : Nat} (h1 : ¬ q = 38) (h2 : ¬ q = 35) : σ' q = σ q := funext (fun k => h q k h1 (fun z => h2 z.1))
theorem XSame_u {σ : sg_S} {k0 : Nat} {v : Int32} (h : 28 ≤ k0 ∧ k0 ≤ 32) : XSame σ (sg_up σ 35 k0 v) := fun q k _ h1 => up_ne (by omega)
theorem XSame_38 {σ : sg_S} {k0 : Nat} {v : Int32} : XSame σ (sg_up σ 38 k0 v) := fun q k h1 _ => up_c h1
theorem NSame.x {σ σ' : sg_S} (h : NSame σ σ') : XSame σ σ' := fun q k _ h2 => h q k (by omega)
theorem rf_fails {σ : sg_S} {x y : Int32} : (r_X5_fails σ x y).1 = 0 ∧ ∃ z, (r_X5_fails σ x y).2 = sg_up σ 35 29 z := ⟨rfl, _, rfl⟩
theorem Tab_good {T : Nat → Nat} (h : TabOK T) : GoodV T := by
  intro j hj
  obtain ⟨h0, h1, h2, h3, h4, h5⟩ := h.1 (j / 5) (by omega)
  refine ⟨fun e => ?_, fun e => ?_⟩
  · rw [show j = 5 * (j / 5) by omega]; exact h0
  · rcases (show j = 5 * (j / 5) + 1 ∨ j = 5 * (j / 5) + 2 ∨ j = 5 * (j / 5) + 3 ∨ j = 5 * (j / 5) + 4 by omega) with e | e | e | e <;> (rw [e]; omega)
theorem GoodV_du {V : Nat → Nat} {w k v : Nat} (h : GoodV V) (hw : w < 10) (hk : 1 ≤ k) (hk2 : k < 5) (h1 : 1 ≤ v) (h2 : v ≤ 1000) : GoodV (du V (5 * w + k) v) := by
  intro j hj
  by_cases e : j = 5 * w + k
  · subst e
    rw [du_eq]
    exact ⟨fun z => by omega, fun _ => ⟨h1, h2⟩⟩
  · rw [du_ne e]; exact h j hj
theorem TabAt_du {σ : sg_S} {V : Nat → Nat} {q j v : Nat} (h : TabAt σ q V) : TabAt (sg_up σ q j (N v)) q (du V j v) := by
  intro k hk
  by_cases e : k = j
  · subst e; rw [up_eq, du_eq]
  · rw [up_k e, du_ne e]; exact h k hk
theorem TabAt_row {σ σ' : sg_S} {V : Nat → Nat} {q : Nat} (h : TabAt σ q V) (e : σ' q = σ q) : TabAt σ' q V := fun k hk => by rw [e]; exact h k hk
/-- what a reading of rows leaves -/
def RowR (σ : sg_S) (t a : Nat) (r : Int32 × sg_S) : Prop := ∃ V a', TabAt r.2 38 V ∧ GoodV V ∧ r.2 35 28 = N a' ∧ a ≤ a' ∧ a' ≤ t ∧ XSame σ r.2
theorem RowR.of {σ σ1 : sg_S} {t a a1 : Nat} {r : Int32 × sg_S} (h : RowR σ1 t a1 r) (ha : a ≤ a1) (hs : XSame σ σ1) : RowR σ t a r := by
  obtain ⟨V, a', h1, h2, h3, h4, h5, h6⟩ := h
  exact ⟨V, a', h1, h2, h3, by omega, h5, hs.tr h6⟩
theorem RowR_fail {σ : sg_S} {t a : Nat} {V : Nat → Nat} {z x : Int32} (hV : TabAt σ 38 V) (hG : GoodV V) (ha : σ 35 28 = N a) (hat : a ≤ t) : RowR σ t a (x, sg_up σ 35 29 z) :=
  ⟨V, a, TabAt_up hV (by decide), hG, by show sg_up σ 35 29 z 35 28 = N a; rw [up_k (by decide)]; exact ha, Nat.le_refl _, hat, XSame_u (by decide)⟩
theorem rrow158 {t w : Nat} (h5 : t ≤ 500) (hw : w < 10) : ∀ (n k a : Nat) (σ : sg_S) (V : Nat → Nat), 1 ≤ k → k ≤ 5 → 5 - k < n → σ 35 28 = N a → σ 35 26 = N t → a ≤ t → TabAt σ 38 V → GoodV V → p_X5_readRow_l158 n σ (N w) (N k) ∧ RowR σ t a (r_X5_readRow_l158 n σ (N w) (N k)) := by
  intro n
  induction n with
  | zero => intro k a σ V _ _ hn; omega
  | succ n ih =>
    intro k a σ V hk1 hk5 hn ha ht hat hV hG
    show p_X5_readRow_b158 (p_X5_readRow_l158 n) σ (N w) (N k) ∧ RowR σ t a (r_X5_readRow_b158 (r_X5_readRow_l158 n) σ (N w) (N k))
    unfold p_X5_readRow_b158 r_X5_readRow_b158
    by_cases e : k = 5
    · have hc : (4 : Int32) < N k := by
        show N 4 < N k
        exact g_lt (by omega) (by omega)
      obtain ⟨h1, h2, h3⟩ := here_ok ha ht hat h5
      have hl := skp_le (B := σ 57) (t - a) a
      rw [if_pos hc]
      refine ⟨⟨fun _ => h1, fun z => absurd hc z⟩, ?_⟩
      have hV1 : TabAt (r_X5_here σ).2 38 V := by rw [h3]; exact TabAt_up hV (by decide)
      have h28 : (r_X5_here σ).2 35 28 = N (skp (σ 57) (t - a) a) := by rw [h3]; exact up_eq
      have hX1 : XSame σ (r_X5_here σ).2 := by rw [h3]; exact XSame_u (by decide)
      by_cases g : (r_X5_here σ).1 = 59
      · rw [if_pos g]
        have hlt : skp (σ 57) (t - a) a < t := by
          by_cases z : skp (σ 57) (t - a) a < t
          · exact z
          · rw [h2, if_neg z] at g
            exact absurd g (by decide)
        refine ⟨V, skp (σ 57) (t - a) a + 1, ?_, hG, ?_, by omega, by omega, ?_⟩
        · show TabAt (t_X5_readRow_1 σ (N w) (N k)) 38 V
          unfold t_X5_readRow_1 t_X5_readRow_0
          exact TabAt_up (TabAt_up hV1 (by decide)) (by decide)
        · show (t_X5_readRow_1 σ (N w) (N k)) 35 28 = _
          unfold t_X5_readRow_1 t_X5_readRow_0
          rw [up_k (by decide), up_eq, h28, N_inc]
        · show XSame σ (t_X5_readRow_1 σ (N w) (N k))
          unfold t_X5_readRow_1 t_X5_readRow_0
          exact hX1.tr ((XSame_u (by decide)).tr (XSame_u (by decide)))
      · rw [if_neg g]
        exact (RowR_fail hV1 hG h28 (by omega)).of (by omega) hX1
    · have hc : ¬ (4 : Int32) < N k := by
        show ¬ N 4 < N k
        exact g_nlt (by omega) (by decide)
      have hpl := skp_le (B := σ 57) (t - a) a
      have hel := dgE_le (B := σ 57) (t - skp (σ 57) (t - a) a) (skp (σ 57) (t - a) a)
      obtain ⟨n1, n2, n3, n4, n5, n6⟩ := rnum_ok ha ht hat h5 rfl rfl rfl
      rw [if_neg hc]
      have hV1 : TabAt (r_X5_readNumber σ).2 38 V := TabAt_row hV (n2.row (by decide))
      have ex : 5 * N w + N k = N (5 * w + k) := by rw [show (5 : Int32) = N 5 from rfl, N_mul, N_add]
      by_cases hr : ¬ (r_X5_readNumber σ).1 = 0
      · rw [if_pos hr]
        have hpe : skp (σ 57) (t - a) a < dgE (σ 57) (t - skp (σ 57) (t - a) a) (skp (σ 57) (t - a) a) := by
          refine Decidable.not_not.mp (fun z => hr (n6 z).1)
        have h4 : dgE (σ 57) (t - skp (σ 57) (t - a) a) (skp (σ 57) (t - a) a) - skp (σ 57) (t - a) a ≤ 4 := by
          refine Decidable.not_not.mp (fun z => hr (n5 hpe z).1)
        obtain ⟨m1, m2, m3, m4⟩ := n4 hpe h4
        have hv := dgV_9999 (B := σ 57) (p := skp (σ 57) (t - a) a) (n := t - skp (σ 57) (t - a) a)
        by_cases hin : ¬ v_X5_in ((r_X5_readNumber σ).2 35 30) 1 1000 = 0
        · rw [if_pos hin]
          have hin2 := (in_ni (lo := 1) (hi := 1000) (by decide) (by decide) (by decide)).mp hin
          rw [m2, ni_N (by omega)] at hin2
          have et : t_X5_readRow_3 σ (N w) (N k) = sg_up (r_X5_readNumber σ).2 38 (5 * w + k) (N (dgV (σ 57) (skp (σ 57) (t - a) a) (t - skp (σ 57) (t - a) a) (skp (σ 57) (t - a) a) 0)) := by
            unfold t_X5_readRow_3
            rw [ex, ni_N (by omega), m2]
          have hV2 := TabAt_du (j := 5 * w + k) (v := dgV (σ 57) (skp (σ 57) (t - a) a) (t - skp (σ 57) (t - a) a) (skp (σ 57) (t - a) a) 0) hV1
          have hG2 := GoodV_du hG hw hk1 (by omega) hin2.1 hin2.2
          obtain ⟨i1, i2⟩ := ih (k + 1) (dgE (σ 57) (t - skp (σ 57) (t - a) a) (skp (σ 57) (t - a) a)) (t_X5_readRow_3 σ (N w) (N k)) _ (by omega) (by omega) (by omega) (by rw [et, up_c (by decide)]; exact n3) (by rw [et, up_c (by decide), n2 35 26 (by decide)]; exact ht) (by omega) (by rw [et]; exact hV2) hG2
          rw [N_inc]
          refine ⟨⟨fun z => absurd z hc, fun _ => ⟨n1, fun _ _ => ⟨by rw [ex]; exact ix_N (by omega) (by decide), i1⟩⟩⟩, i2.of (by omega) ?_⟩
          rw [et]
          exact n2.x.tr XSame_38
        · rw [if_neg hin]
          exact ⟨⟨fun z => absurd z hc, fun _ => ⟨n1, fun _ z => absurd z hin⟩⟩, (RowR_fail hV1 hG n3 (by omega)).of (by omega) n2.x⟩
      · rw [if_neg hr]
        exact ⟨⟨fun z => absurd z hc, fun _ => ⟨n1, fun z => absurd z hr⟩⟩, V, _, hV1, hG, n3, by omega, by omega, n2.x⟩
theorem lw29 {t : Nat} {x1 : Int32} (h5 : t ≤ 500) : ∀ (n a : Nat) (σ : sg_S), σ 35 28 = N a → σ 35 26 = N t → a ≤ t → t - a < n → (p_X5_readRow_a72 (sg_up σ 35 28 (N (lwE (σ 57) (t - a) a))) x1 → p_X5_readRow_l29 n σ x1) ∧ r_X5_readRow_l29 n σ x1 = r_X5_readRow_a72 (sg_up σ 35 28 (N (lwE (σ 57) (t - a) a))) x1 := by
  intro n
  induction n with
  | zero => intro a σ _ _ _ hn; omega
  | succ n ih =>
    intro a σ ha ht hat hn
    show (_ → p_X5_readRow_b29 (p_X5_readRow_l29 n) σ x1) ∧ r_X5_readRow_b29 (r_X5_readRow_l29 n) σ x1 = _
    unfold p_X5_readRow_b29 r_X5_readRow_b29
    by_cases e : a = t
    · have hc : σ 35 26 ≤ σ 35 28 := by rw [ha, ht, e]; exact Int32.le_refl _
      rw [if_pos hc, e, Nat.sub_self, show lwE (σ 57) 0 t = t from rfl, up_self (by rw [ha, e])]
      exact ⟨fun h => ⟨fun _ => h, fun z => absurd hc z⟩, rfl⟩
    have hc : ¬ σ 35 26 ≤ σ 35 28 := by rw [ha, ht]; exact g_nle (by omega) (by omega)
    have hx : ix (σ 35 28) 500 := by rw [ha]; exact ix_N (by omega) (by decide)
    have hni : ni (σ 35 28) = a := by rw [ha]; exact ni_N (by omega)
    obtain ⟨d, hd⟩ : ∃ d, t - a = d + 1 := ⟨t - a - 1, by omega⟩
    have hd2 : t - (a + 1) = d := by omega
    have hin := in_ni (x := σ 57 a) (lo := 97) (hi := 122) (by decide) (by decide) (by decide)
    rw [if_neg hc]
    by_cases hD : 97 ≤ ni (σ 57 a) ∧ ni (σ 57 a) ≤ 122
    · have hz : ¬ v_X5_in (σ 57 (ni (σ 35 28))) 97 122 = 0 := by rw [hni]; exact hin.mpr hD
      have e57 : (sg_up σ 35 28 (N (a + 1))) 57 = σ 57 := funext (fun k => up_c (by decide))
      obtain ⟨i1, i2⟩ := ih (a + 1) (sg_up σ 35 28 (N (a + 1))) up_eq (by rw [up_k (by decide)]; exact ht) (by omega) (by omega)
      rw [e57, up_up, hd2] at i1 i2
      rw [if_neg hz, ha, N_inc, hd, lwE_s, if_pos hD]
      rw [ha] at hx hc
      exact ⟨fun h => ⟨fun z => absurd z hc, fun _ => ⟨hx, fun z => absurd z (by rw [← ha]; exact hz), fun _ => i1 h⟩⟩, i2⟩
    · have hz : v_X5_in (σ 57 (ni (σ 35 28))) 97 122 = 0 := by
        rw [hni]
        exact Decidable.not_not.mp (fun z => hD (hin.mp z))
      rw [if_pos hz, hd, lwE_s, if_neg hD, up_self ha]
      exact ⟨fun h => ⟨fun z => absurd z hc, fun _ => ⟨hx, fun _ => h, fun z => absurd hz z⟩⟩, rfl⟩
theorem rrow72 {t f a : Nat} {σ : sg_S} {V : Nat → Nat} (h5 : t ≤ 500) (ha : σ 35 28 = N a) (ht : σ 35 26 = N t) (hat : a ≤ t) (hfa : f ≤ a) (hV : TabAt σ 38 V) (hG : GoodV V) : p_X5_readRow_a72 σ (N f) ∧ RowR σ t a (r_X5_readRow_a72 σ (N f)) ∧ (¬ (r_X5_readRow_a72 σ (N f)).1 = 0 → a = f + 3) := by
  have e1 : N f + 1 = N (f + 1) := N_add f 1
  have e2 : N f + 2 = N (f + 2) := N_add f 2
  have hfl : ∀ x : Int32, RowR σ t a ((r_X5_fails σ 1 (N f)).1, (r_X5_fails σ 1 (N f)).2) ∧ (¬ ((r_X5_fails σ 1 (N f)).1, (r_X5_fails σ 1 (N f)).2).1 = 0 → a = f + 3) := fun x => ⟨RowR_fail hV hG ha hat, fun z => absurd rfl z⟩
  unfold p_X5_readRow_a72 r_X5_readRow_a72
  rw [ha, N_sub hfa]
  by_cases g3 : a - f = 3
  · have hc : N (a - f) = 3 := by rw [g3]; rfl
    rw [if_neg (fun z => z hc)]
    have x0 : ix (N f) 500 := ix_N (by omega) (by decide)
    have x1 : ix (N f + 1) 500 := by rw [e1]; exact ix_N (by omega) (by decide)
    have x2 : ix (N f + 2) 500 := by rw [e2]; exact ix_N (by omega) (by decide)
    have hpl := skp_le (B := σ 57) (t - a) a
    have hel := dgE_le (B := σ 57) (t - skp (σ 57) (t - a) a) (skp (σ 57) (t - a) a)
    obtain ⟨n1, n2, n3, n4, n5, n6⟩ := rnum_ok ha ht hat h5 rfl rfl rfl
    have hV1 : TabAt (r_X5_readNumber σ).2 38 V := TabAt_row hV (n2.row (by decide))
    have hrest : (¬ (r_X5_readNumber σ).1 = 0 → (r_X5_readNumber σ).2 35 30 < 10 → p_X5_readRow_l158 600 (r_X5_readNumber σ).2 ((r_X5_readNumber σ).2 35 30) 1 ∧ RowR σ t a (r_X5_readRow_l158 600 (r_X5_readNumber σ).2 ((r_X5_readNumber σ).2 35 30) 1)) := by
      intro hr h10
      have hpe : skp (σ 57) (t - a) a < dgE (σ 57) (t - skp (σ 57) (t - a) a) (skp (σ 57) (t - a) a) := by
        refine Decidable.not_not.mp (fun z => hr (n6 z).1)
      have h4 : dgE (σ 57) (t - skp (σ 57) (t - a) a) (skp (σ 57) (t - a) a) - skp (σ 57) (t - a) a ≤ 4 := by
        refine Decidable.not_not.mp (fun z => hr (n5 hpe z).1)
      obtain ⟨m1, m2, m3, m4⟩ := n4 hpe h4
      have hv := dgV_9999 (B := σ 57) (p := skp (σ 57) (t - a) a) (n := t - skp (σ 57) (t - a) a)
      rw [m2] at h10 ⊢
      have h10 := (N_lt (b := 10) (by omega) (by decide)).mp h10
      obtain ⟨i1, i2⟩ := rrow158 h5 h10 600 1 _ (r_X5_readNumber σ).2 V (by decide) (by decide) (by decide) n3 (by rw [n2 35 26 (by decide)]; exact ht) (by omega) hV1 hG
      exact ⟨i1, i2.of (by omega) n2.x⟩
    refine ⟨fun _ => ⟨x0, fun _ => ⟨x1, fun _ => ⟨x2, fun _ => ⟨n1, fun hr h10 => (hrest hr h10).1⟩⟩⟩⟩, ?_⟩
    by_cases b1 : ¬ σ 57 (ni (N f)) = 114
    · rw [if_pos b1]; exact hfl 0
    rw [if_neg b1]
    by_cases b2 : ¬ σ 57 (ni (N f + 1)) = 111
    · rw [if_pos b2]; exact hfl 0
    rw [if_neg b2]
    by_cases b3 : σ 57 (ni (N f + 2)) = 119
    · rw [if_pos b3]
      by_cases hr : ¬ (r_X5_readNumber σ).1 = 0
      · rw [if_pos hr]
        by_cases h10 : (r_X5_readNumber σ).2 35 30 < 10
        · rw [if_pos h10]
          exact ⟨(hrest hr h10).2, fun _ => by omega⟩
        · rw [if_neg h10]
          exact ⟨(RowR_fail hV1 hG n3 (by omega)).of (by omega) n2.x, fun z => absurd rfl z⟩
      · rw [if_neg hr]
        exact ⟨⟨V, _, hV1, hG, n3, by omega, by omega, n2.x⟩, fun z => absurd rfl z⟩
    · rw [if_neg b3]; exact hfl 0
  · have hc : ¬ N (a - f) = 3 := by
      show ¬ N (a - f) = N 3
      rw [N_eq (by omega) (by decide)]; exact g3
    rw [if_pos hc]
    exact ⟨fun z => absurd hc z, hfl 0⟩
theorem rrow_ok {t a : Nat} {σ : sg_S} {V : Nat → Nat} (h5 : t ≤ 500) (ha : σ 35 28 = N a) (ht : σ 35 26 = N t) (hat : a ≤ t) (hV : TabAt σ 38 V) (hG : GoodV V) : p_X5_readRow σ ∧ RowR σ t a (r_X5_readRow σ) ∧ (¬ (r_X5_readRow σ).1 = 0 → RowR σ t (a + 3) (r_X5_readRow σ)) := by
  obtain ⟨h1, h2, h3⟩ := here_ok ha ht hat h5
  have hl := skp_le (B := σ 57) (t - a) a
  have hV1 : TabAt (r_X5_here σ).2 38 V := by rw [h3]; exact TabAt_up hV (by decide)
  have h28 : (r_X5_here σ).2 35 28 = N (skp (σ 57) (t - a) a) := by rw [h3]; exact up_eq
  have h26 : (r_X5_here σ).2 35 26 = N t := by rw [h3, up_k (by decide)]; exact ht
  have hX1 : XSame σ (r_X5_here σ).2 := by rw [h3]; exact XSame_u (by decide)
  unfold p_X5_readRow r_X5_readRow
  by_cases g : ¬ v_X5_in (r_X5_here σ).1 97 122 = 0
  · obtain ⟨l1, l2⟩ := lw29 (x1 := (r_X5_here σ).2 35 28) h5 600 _ (r_X5_here σ).2 h28 h26 (by omega) (by omega)
    have hll := lwE_le (B := (r_X5_here σ).2 57) (t - skp (σ 57) (t - a) a) (skp (σ 57) (t - a) a)
    have hq := rrow72 (V := V) (f := skp (σ 57) (t - a) a) (σ := sg_up (r_X5_here σ).2 35 28 (N (lwE ((r_X5_here σ).2 57) (t - skp (σ 57) (t - a) a) (skp (σ 57) (t - a) a)))) h5 up_eq (by rw [up_k (by decide)]; exact h26) (by omega) (by omega) (TabAt_up hV1 (by decide)) hG
    rw [h28] at l1 l2
    rw [if_pos g, h28, l2]
    obtain ⟨q1, q2, q3⟩ := hq
    have hX2 : XSame σ (sg_up (r_X5_here σ).2 35 28 (N (lwE ((r_X5_here σ).2 57) (t - skp (σ 57) (t - a) a) (skp (σ 57) (t - a) a)))) := hX1.tr (XSame_u (by decide))
    refine ⟨⟨h1, fun _ => l1 q1⟩, q2.of (by omega) hX2, fun z => ?_⟩
    have h3f := q3 z
    exact q2.of (by omega) hX2
  · rw [if_neg g]
    exact ⟨⟨h1, fun z => absurd z g⟩, (RowR_fail hV1 hG h28 (by omega)).of (by omega) hX1, fun z => absurd rfl z⟩
/-! the rows hold -/
def Chk (V : Nat → Nat) (w k : Nat) : Prop := V (5 * w + k - 1) ≤ V (5 * w + k) ∧ (0 < w → V (5 * w + k) ≤ V (5 * w - 5 + k))
theorem rchk53 {σ : sg_S} {V : Nat → Nat} {w : Nat} {k45 : sg_S → Int32 → Int32 × sg_S} {kp45 : sg_S → Int32 → Prop} (hV : TabAt σ 38 V) (hG : GoodV V) (hw : w < 10) (hp : kp45 σ (N (w + 1))) : ∀ (n k : Nat), 1 ≤ k → k ≤ 5 → 5 - k < n → p_X5_readTable_l53 kp45 n σ (N w) (N k) ∧ ((r_X5_readTable_l53 k45 n σ (N w) (N k) = k45 σ (N (w + 1)) ∧ ∀ k', k ≤ k' → k' < 5 → Chk V w k') ∨ ∃ z, r_X5_readTable_l53 k45 n σ (N w) (N k) = (0, sg_up σ 35 29 z)) := by
  intro n
  induction n with
  | zero => intro k _ _ hn; omega
  | succ n ih =>
    intro k hk1 hk5 hn
    show p_X5_readTable_b53 kp45 (p_X5_readTable_l53 kp45 n) σ (N w) (N k) ∧ ((r_X5_readTable_b53 k45 (r_X5_readTable_l53 k45 n) σ (N w) (N k) = k45 σ (N (w + 1)) ∧ ∀ k', k ≤ k' → k' < 5 → Chk V w k') ∨ ∃ z, r_X5_readTable_b53 k45 (r_X5_readTable_l53 k45 n) σ (N w) (N k) = (0, sg_up σ 35 29 z))
    unfold p_X5_readTable_b53 r_X5_readTable_b53
    by_cases e : k = 5
    · have hc : (4 : Int32) < N k := by
        show N 4 < N k
        exact g_lt (by omega) (by omega)
      rw [if_pos hc, N_inc]
      exact ⟨⟨fun _ => hp, fun z => absurd hc z⟩, Or.inl ⟨rfl, fun k' h1 h2 => by omega⟩⟩
    · have hc : ¬ (4 : Int32) < N k := by
        show ¬ N 4 < N k
        exact g_nlt (by omega) (by decide)
      have ex : 5 * N w + N k = N (5 * w + k) := by rw [show (5 : Int32) = N 5 from rfl, N_mul, N_add]
      have ex1 : N (5 * w + k) - 1 = N (5 * w + k - 1) := N_sub (b := 1) (by omega)
      have b1 : ∀ j, j < 50 → V j < 2147483648 := fun j hj => by
        by_cases z : j % 5 = 0
        · rw [(hG j hj).1 z]; decide
        · have := ((hG j hj).2 z).2; omega
      obtain ⟨i1, i2⟩ := ih (k + 1) (by omega) (by omega) (by omega)
      have i3 : ∀ r, Chk V w k → ((r_X5_readTable_l53 k45 n σ (N w) (N (k + 1)) = k45 σ (N (w + 1)) ∧ ∀ k', k + 1 ≤ k' → k' < 5 → Chk V w k') ∨ ∃ z, r_X5_readTable_l53 k45 n σ (N w) (N (k + 1)) = (0, sg_up σ 35 29 z)) → r = r_X5_readTable_l53 k45 n σ (N w) (N (k + 1)) → (r = k45 σ (N (w + 1)) ∧ ∀ k', k ≤ k' → k' < 5 → Chk V w k') ∨ ∃ z, r = (0, sg_up σ 35 29 z) := by
        intro r hck h hr
        rcases h with ⟨h, h'⟩ | ⟨z, h⟩
        · refine Or.inl ⟨hr.trans h, fun k' g1 g2 => ?_⟩
          by_cases e2 : k' = k
          · subst e2; exact hck
          · exact h' k' (by omega) g2
        · exact Or.inr ⟨z, hr.trans h⟩
      have x0 : ix (N (5 * w + k)) 50 := ix_N (by omega) (by decide)
      have x1 : ix (N (5 * w + k - 1)) 50 := ix_N (by omega) (by decide)
      rw [if_neg hc, N_inc k, ex, ex1, ni_N (by omega), ni_N (by omega), hV _ (by omega), hV _ (by omega)]
      by_cases c1 : N (V (5 * w + k)) < N (V (5 * w + k - 1))
      · rw [if_pos c1]
        exact ⟨⟨fun z => absurd z hc, fun _ => ⟨x0, x1, fun z => absurd c1 z⟩⟩, Or.inr ⟨_, rfl⟩⟩
      rw [if_neg c1]
      rw [N_lt (b1 _ (by omega)) (b1 _ (by omega))] at c1
      by_cases c2 : w = 0
      · have hz : N w ≤ 0 := by rw [c2]; decide
        rw [if_pos hz]
        exact ⟨⟨fun z => absurd z hc, fun _ => ⟨x0, x1, fun _ => ⟨fun _ => i1, fun z => absurd hz z⟩⟩⟩, i3 _ ⟨by omega, fun z => by omega⟩ i2 rfl⟩
      have hz : ¬ N w ≤ 0 := g_nle (a := 0) (by omega) (by omega)
      have ex2 : 5 * N w - 5 + N k = N (5 * w - 5 + k) := by
        rw [show (5 : Int32) = N 5 from rfl, N_mul, N_sub (by omega), N_add]
      have x2 : ix (N (5 * w - 5 + k)) 50 := ix_N (by omega) (by decide)
      rw [if_neg hz, ex2, ni_N (by omega), hV _ (by omega)]
      by_cases c3 : N (V (5 * w + k)) ≤ N (V (5 * w - 5 + k))
      · rw [if_pos c3]
        have c3' := (N_le (b1 _ (by omega)) (b1 _ (by omega))).mp c3
        exact ⟨⟨fun z => absurd z hc, fun _ => ⟨x0, x1, fun _ => ⟨fun z => absurd z hz, fun _ => ⟨x2, fun _ => i1⟩⟩⟩⟩, i3 _ ⟨by omega, fun _ => c3'⟩ i2 rfl⟩
      · rw [if_neg c3]
        exact ⟨⟨fun z => absurd z hc, fun _ => ⟨x0, x1, fun _ => ⟨fun z => absurd z hz, fun _ => ⟨x2, fun z => absurd z c3⟩⟩⟩⟩, Or.inr ⟨_, rfl⟩⟩
theorem rchk45 {σ : sg_S} {V : Nat → Nat} (hV : TabAt σ 38 V) (hG : GoodV V) : ∀ (n w : Nat), w ≤ 10 → 10 - w < n → p_X5_readTable_l45 n σ (N w) ∧ ((r_X5_readTable_l45 n σ (N w) = (1, σ) ∧ ∀ w', w ≤ w' → w' < 10 → ∀ k', 1 ≤ k' → k' < 5 → Chk V w' k') ∨ ∃ z, r_X5_readTable_l45 n σ (N w) = (0, sg_up σ 35 29 z)) := by
  intro n
  induction n with
  | zero => intro w _ hn; omega
  | succ n ih =>
    intro w hw hn
    show p_X5_readTable_b45 (p_X5_readTable_l45 n) σ (N w) ∧ ((r_X5_readTable_b45 (r_X5_readTable_l45 n) σ (N w) = (1, σ) ∧ ∀ w', w ≤ w' → w' < 10 → ∀ k', 1 ≤ k' → k' < 5 → Chk V w' k') ∨ ∃ z, r_X5_readTable_b45 (r_X5_readTable_l45 n) σ (N w) = (0, sg_up σ 35 29 z))
    unfold p_X5_readTable_b45 r_X5_readTable_b45
    by_cases e : w = 10
    · have hc : (10 : Int32) ≤ N w := by rw [e]; decide
      rw [if_pos hc]
      exact ⟨fun z => absurd hc z, Or.inl ⟨rfl, fun w' h1 h2 => by omega⟩⟩
    · have hc : ¬ (10 : Int32) ≤ N w := by
        show ¬ N 10 ≤ N w
        exact g_nle (by omega) (by decide)
      obtain ⟨i1, i2⟩ := ih (w + 1) (by omega) (by omega)
      obtain ⟨j1, j2⟩ := rchk53 (k45 := r_X5_readTable_l45 n) (kp45 := p_X5_readTable_l45 n) hV hG (w := w) (by omega) i1 600 1 (by decide) (by decide) (by decide)
      rw [if_neg hc]
      refine ⟨fun _ => j1, ?_⟩
      rcases j2 with ⟨j2, j3⟩ | ⟨z, j2⟩
      · have j2 : r_X5_readTable_l53 (r_X5_readTable_l45 n) 600 σ (N w) 1 = _ := j2
        rw [j2]
        rcases i2 with ⟨i2, i3⟩ | ⟨z, i2⟩
        · refine Or.inl ⟨i2, fun w' h1 h2 k' h3 h4 => ?_⟩
          by_cases e2 : w' = w
          · subst e2; exact j3 k' h3 h4
          · exact i3 w' (by omega) h2 k' h3 h4
        · exact Or.inr ⟨z, i2⟩
      · exact Or.inr ⟨z, j2⟩
theorem Chk_OK {V : Nat → Nat} (hG : GoodV V) (h : ∀ w, w < 10 → ∀ k, 1 ≤ k → k < 5 → Chk V w k) : TabOK V := by
  refine ⟨fun w hw => ?_, fun w hw k hk => ?_⟩
  · have c2 := (h w hw 2 (by decide) (by decide)).1
    have c3 := (h w hw 3 (by decide) (by decide)).1
    have c4 := (h w hw 4 (by decide) (by decide)).1
    have g1 := (hG (5 * w + 1) (by omega)).2 (by omega)
    have g4 := (hG (5 * w + 4) (by omega)).2 (by omega)
    rw [show 5 * w + 2 - 1 = 5 * w + 1 by omega] at c2
    rw [show 5 * w + 3 - 1 = 5 * w + 2 by omega] at c3
    rw [show 5 * w + 4 - 1 = 5 * w + 3 by omega] at c4
    exact ⟨(hG (5 * w) (by omega)).1 (by omega), g1.1, c2, c3, c4, g4.2⟩
  · by_cases e : k = 0
    · subst e
      rw [(hG (5 * (w + 1) + 0) (by omega)).1 (by omega)]
      exact Nat.zero_le _
    · have c := (h (w + 1) (by omega) k (by omega) hk).2 (by omega)
      rw [show 5 * (w + 1) - 5 + k = 5 * w + k by omega] at c
      exact c
/-! the whole text of a table -/
def TabR (σ : sg_S) (r : Int32 × sg_S) : Prop := XSame σ r.2 ∧ ∃ V, TabAt r.2 38 V ∧ (¬ r.1 = 0 → TabOK V)
theorem rtab26 {t : Nat} (h5 : t ≤ 500) : ∀ (n a : Nat) (σ : sg_S) (V : Nat → Nat), σ 35 28 = N a → σ 35 26 = N t → a ≤ t → t - a < n → TabAt σ 38 V → GoodV V → p_X5_readTable_l26 n σ ∧ TabR σ (r_X5_readTable_l26 n σ) := by
  intro n
  induction n with
  | zero => intro a σ V _ _ _ hn; omega
  | succ n ih =>
    intro a σ V ha ht hat hn hV hG
    show p_X5_readTable_b26 (p_X5_readTable_l26 n) σ ∧ TabR σ (r_X5_readTable_b26 (r_X5_readTable_l26 n) σ)
    unfold p_X5_readTable_b26 r_X5_readTable_b26
    obtain ⟨h1, h2, h3⟩ := here_ok ha ht hat h5
    have hl := skp_le (B := σ 57) (t - a) a
    have hV1 : TabAt (r_X5_here σ).2 38 V := by rw [h3]; exact TabAt_up hV (by decide)
    have h28 : (r_X5_here σ).2 35 28 = N (skp (σ 57) (t - a) a) := by rw [h3]; exact up_eq
    have h26 : (r_X5_here σ).2 35 26 = N t := by rw [h3, up_k (by decide)]; exact ht
    have hX1 : XSame σ (r_X5_here σ).2 := by rw [h3]; exact XSame_u (by decide)
    by_cases g : (r_X5_here σ).1 = -1
    · rw [if_pos g]
      obtain ⟨c1, c2⟩ := rchk45 hV1 hG 600 0 (by decide) (by decide)
      refine ⟨⟨h1, fun _ => c1, fun z => absurd g z⟩, ?_⟩
      rcases c2 with ⟨c2, c3⟩ | ⟨z, c2⟩
      · have c2 : r_X5_readTable_l45 600 (r_X5_here σ).2 0 = _ := c2
        rw [c2]
        exact ⟨hX1, V, hV1, fun _ => Chk_OK hG (fun w hw k k1 k2 => c3 w (by omega) hw k k1 k2)⟩
      · have c2 : r_X5_readTable_l45 600 (r_X5_here σ).2 0 = _ := c2
        rw [c2]
        exact ⟨hX1.tr (XSame_u (by decide)), V, TabAt_up hV1 (by decide), fun z => absurd rfl z⟩
    · rw [if_neg g]
      obtain ⟨r1, r2, r3⟩ := rrow_ok h5 h28 h26 (by omega) hV1 hG
      by_cases hr : ¬ (r_X5_readRow (r_X5_here σ).2).1 = 0
      · rw [if_pos hr]
        obtain ⟨V', a', v1, v2, v3, v4, v5, v6⟩ := r3 hr
        obtain ⟨i1, i2, i3⟩ := ih a' _ V' v3 (by rw [v6 35 26 (by decide) (by decide)]; exact h26) v5 (by omega) v1 v2
        exact ⟨⟨h1, fun z => absurd z g, fun _ => ⟨r1, fun _ => i1⟩⟩, (hX1.tr v6).tr i2, i3⟩
      · rw [if_neg hr]
        obtain ⟨V', a', v1, v2, v3, v4, v5, v6⟩ := r2
        exact ⟨⟨h1, fun z => absurd z g, fun _ => ⟨r1, fun z => absurd z hr⟩⟩, hX1.tr v6, V', v1, fun z => absurd rfl z⟩
theorem rtab2 {t a : Nat} {T : Nat → Nat} (h5 : t ≤ 500) (hat : a ≤ t) (hG : GoodV T) : ∀ (n j : Nat) (σ : sg_S), j ≤ 50 → 50 - j < n → σ 35 28 = N a → σ 35 26 = N t → TabAt σ 37 T → (∀ i, i < j → σ 38 i = N (T i)) → p_X5_readTable_l2 n σ (N j) ∧ TabR σ (r_X5_readTable_l2 n σ (N j)) := by
  intro n
  induction n with
  | zero => intro j σ _ hn; omega
  | succ n ih =>
    intro j σ hj hn ha ht hT hd
    show p_X5_readTable_b2 (p_X5_readTable_l2 n) σ (N j) ∧ TabR σ (r_X5_readTable_b2 (r_X5_readTable_l2 n) σ (N j))
    unfold p_X5_readTable_b2 r_X5_readTable_b2
    by_cases e : j = 50
    · have hc : (50 : Int32) ≤ N j := (N14 (L := 50) hj (by decide)).mpr e
      rw [if_pos hc]
      obtain ⟨i1, i2⟩ := rtab26 h5 600 a σ T ha ht hat (by omega) (fun i hi => hd i (by omega)) hG
      exact ⟨⟨fun _ => i1, fun z => absurd hc z⟩, i2⟩
    · have hc : ¬ (50 : Int32) ≤ N j := fun z => e ((N14 (L := 50) hj (by decide)).mp z)
      have hx : ix (N j) 50 := ix_N (by omega) (by decide)
      rw [if_neg hc, N_inc, ni_N (by omega), hT j (by omega)]
      obtain ⟨i1, i2, i3⟩ := ih (j + 1) (sg_up σ 38 j (N (T j))) (by omega) (by omega) (by rw [up_c (by decide)]; exact ha) (by rw [up_c (by decide)]; exact ht) (TabAt_up hT (by decide)) (fun i hi => by
        by_cases e2 : i = j
        · subst e2; exact up_eq
        · rw [up_k e2]; exact hd i (by omega))
      exact ⟨⟨fun z => absurd z hc, fun _ => ⟨hx, hx, i1⟩⟩, XSame_38.tr i2, i3⟩
theorem rtab_ok {σ : sg_S} {t a : Nat} {T : Nat → Nat} (h5 : t ≤ 500) (hat : a ≤ t) (ha : σ 35 28 = N a) (ht : σ 35 26 = N t) (hT : TabAt σ 37 T) (hK : TabOK T) : p_X5_readTable σ ∧ TabR σ (r_X5_readTable σ) :=
  rtab2 h5 hat (Tab_good hK) 600 0 σ (by decide) (by decide) ha ht hT (fun i hi => by omega)
