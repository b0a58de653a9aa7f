section
/-! THE CLASS READS: what its reading leaves -/
def KSame (σ σ' : sg_S) : Prop := ∀ q k, ¬ (q = 5 ∧ 2 ≤ k ∧ k ≤ 4) → σ' q k = σ q k
theorem KSame.rf {σ : sg_S} : KSame σ σ := fun _ _ _ => rfl
theorem KSame.tr {σ σ1 σ2 : sg_S} (h : KSame σ σ1) (h' : KSame σ1 σ2) : KSame σ σ2 := fun q k a => (h' q k a).trans (h q k a)
theorem KSame_u {σ : sg_S} {k0 : Nat} {v : Int32} (h : 2 ≤ k0 ∧ k0 ≤ 4) : KSame σ (sg_up σ 5 k0 v) := fun q k h1 => up_ne (by omega)
theorem KSame.row {σ σ' : sg_S} (h : KSame σ σ') {q : Nat} (h1 : ¬ q = 5) : σ' q = σ q := funext (fun k => h q k (fun z => h1 z.1))
theorem K_rewind {σ : sg_S} : KSame σ (s_X3_rewind σ) := (KSame_u (by decide)).tr (KSame_u (by decide))
theorem K_seek_l0 : ∀ (n : Nat) (σ : sg_S), KSame σ (r_X3_seek_l0 n σ).2 := by
  intro n
  induction n with
  | zero => intro σ; exact KSame.rf
  | succ n ih =>
    intro σ
    show KSame σ (r_X3_seek_b0 (r_X3_seek_l0 n) σ).2
    unfold r_X3_seek_b0
    have h4 : KSame σ (sg_up σ 5 2 (σ 5 4)) := KSame_u (by decide)
    have h5 := (KSame_u (σ := σ) (k0 := 4) (v := σ 5 4 + 1) (by decide)).tr (ih (sg_up σ 5 4 (σ 5 4 + 1)))
    repeat' split
    all_goals first | exact h4 | exact h5
theorem K_seek {σ : sg_S} : KSame σ (r_X3_seek σ).2 := K_seek_l0 600 σ
theorem K_take {σ : sg_S} : KSame σ (r_X3_takeByte σ).2 := by
  unfold r_X3_takeByte
  split
  · exact KSame.rf
  · exact KSame_u (by decide)
theorem K_readByte {σ : sg_S} {x : Int32} : KSame σ (r_X3_readByte σ x).2 := by
  unfold r_X3_readByte
  have h := (K_seek (σ := σ)).tr K_take
  split
  · exact K_seek
  split
  · exact h
  · exact h
theorem K_word_a59 {σ : sg_S} : (r_X3_readRowWord_a59 σ).2 = σ := by
  unfold r_X3_readRowWord_a59
  repeat' split
  all_goals rfl
theorem K_word_l9 : ∀ (n : Nat) (σ : sg_S), KSame σ (r_X3_readRowWord_l9 n σ).2 := by
  intro n
  induction n with
  | zero => intro σ; exact KSame.rf
  | succ n ih =>
    intro σ
    show KSame σ (r_X3_readRowWord_b9 (r_X3_readRowWord_l9 n) σ).2
    unfold r_X3_readRowWord_b9
    have h4 : KSame σ (r_X3_readRowWord_a59 σ).2 := by rw [K_word_a59]; exact KSame.rf
    have h5 := (KSame_u (σ := σ) (k0 := 4) (v := σ 5 4 + 1) (by decide)).tr (ih (sg_up σ 5 4 (σ 5 4 + 1)))
    repeat' split
    all_goals first | exact h4 | exact h5
theorem K_word {σ : sg_S} : KSame σ (r_X3_readRowWord σ).2 := by
  unfold r_X3_readRowWord
  split
  · exact K_seek.tr (K_word_l9 600 _)
  · exact K_seek
theorem K_num_l10 : ∀ (n : Nat) (σ : sg_S), KSame σ (r_X3_readNumber_l10 n σ).2 := by
  intro n
  induction n with
  | zero => intro σ; exact KSame.rf
  | succ n ih =>
    intro σ
    show KSame σ (r_X3_readNumber_b10 (r_X3_readNumber_l10 n) σ).2
    unfold r_X3_readNumber_b10
    have h5 : ∀ y : Int32, KSame σ (r_X3_readNumber_a65 (r_X3_readNumber_l10 n) σ y).2 := fun y => by
      unfold r_X3_readNumber_a65 t_X3_readNumber_0 t_X3_readNumber_2 t_X3_readNumber_1
      split
      · exact ((KSame_u (by decide)).tr (KSame_u (by decide))).tr (ih _)
      · exact ((KSame_u (by decide)).tr (KSame_u (by decide))).tr (ih _)
    repeat' split
    all_goals first | exact KSame.rf | exact h5 _
theorem K_num {σ : sg_S} : KSame σ (r_X3_readNumber σ).2 := by
  unfold r_X3_readNumber
  exact (K_seek.tr (KSame_u (by decide))).tr (K_num_l10 600 _)
/-! a table -/
def TSame (σ σ' : sg_S) : Prop := ∀ q k, ¬ q = 3 → ¬ (q = 5 ∧ 2 ≤ k ∧ k ≤ 4) → ¬ (q = 0 ∧ (k = 7 ∨ k = 8)) → σ' q k = σ q k
theorem TSame.rf {σ : sg_S} : TSame σ σ := fun _ _ _ _ _ => rfl
theorem TSame.tr {σ σ1 σ2 : sg_S} (h : TSame σ σ1) (h' : TSame σ1 σ2) : TSame σ σ2 := fun q k a b c => (h' q k a b c).trans (h q k a b c)
theorem KSame.t {σ σ' : sg_S} (h : KSame σ σ') : TSame σ σ' := fun q k _ h2 _ => h q k h2
theorem TSame_3 {σ : sg_S} {k0 : Nat} {v : Int32} : TSame σ (sg_up σ 3 k0 v) := fun q k h1 _ _ => up_c h1
theorem TSame_0 {σ : sg_S} {k0 : Nat} {v : Int32} (h : k0 = 7 ∨ k0 = 8) : TSame σ (sg_up σ 0 k0 v) := fun q k _ _ h3 => up_ne (by omega)
def CRow (σ : sg_S) (r : Int32 × sg_S) : Prop := TSame σ r.2 ∧ ∃ V, TabAt r.2 3 V ∧ GoodV V
theorem CRow_k {σ : sg_S} {V : Nat → Nat} {r : Int32 × sg_S} (hV : TabAt σ 3 V) (hG : GoodV V) (h : KSame σ r.2) : CRow σ r := ⟨h.t, V, TabAt_row hV (h.row (by decide)), hG⟩
theorem CRow.of {σ σ1 : sg_S} {r : Int32 × sg_S} (h : CRow σ1 r) (hs : TSame σ σ1) : CRow σ r := ⟨hs.tr h.1, h.2⟩
theorem propose_ok {σ : sg_S} {V : Nat → Nat} {x1 x3 : Int32} {k : Nat} (hV : TabAt σ 3 V) (hG : GoodV V) (hk : 1 ≤ k) (hk5 : k < 5) (hc : ¬ v_X2_canStandInRow (N k) x3 = 0) : TSame σ (s_X2_propose σ x1 (N k) x3) ∧ ∃ V', TabAt (s_X2_propose σ x1 (N k) x3) 3 V' ∧ GoodV V' := by
  unfold s_X2_propose
  by_cases g1 : x1 < 0
  · rw [if_pos g1]; exact ⟨TSame.rf, V, hV, hG⟩
  rw [if_neg g1]
  by_cases g2 : (10 : Int32) ≤ x1
  · rw [if_pos g2]; exact ⟨TSame.rf, V, hV, hG⟩
  rw [if_neg g2, if_neg (by
    show ¬ N k < N 1
    rw [N_lt (by omega) (by decide)]
    omega), if_neg (by exact g_nle (L := 5) hk5 (by decide))]
  obtain ⟨w, hw, rfl⟩ := ex_nle 10 g1 g2 (by decide)
  unfold v_X2_canStandInRow at hc
  rw [if_pos (N_nz (by omega) (by omega))] at hc
  by_cases c1 : x3 < 1
  · rw [if_pos c1] at hc; exact absurd rfl hc
  rw [if_neg c1] at hc
  by_cases c2 : (1000 : Int32) < x3
  · rw [if_pos c2] at hc; exact absurd rfl hc
  have hn : 1 ≤ ni x3 := by
    have hz : ¬ ni x3 < 1 := fun z => c1 ((lt_ni (a := 1) (by decide) (by decide)).mpr z)
    omega
  have e3 : N (ni x3) = x3 := ni_pos hn
  have h3 : ni x3 ≤ 1000 := by
    rw [← e3] at c2
    have hl := ni_lt (x := x3)
    have c2 : ¬ N 1000 < N (ni x3) := c2
    rw [N_lt (by decide) hl] at c2
    omega
  rw [show 5 * N w + N k = N (5 * w + k) by rw [show (5 : Int32) = N 5 from rfl, N_mul, N_add], ni_N (by omega), ← e3]
  exact ⟨TSame_3, _, TabAt_du hV, GoodV_du hG hw hk hk5 hn h3⟩
theorem crow20 : ∀ (n k : Nat) (σ : sg_S) (x1 : Int32) (V : Nat → Nat), k ≤ 5 → TabAt σ 3 V → GoodV V → CRow σ (r_X4_readRow_l20 n σ x1 (N k)) := by
  intro n
  induction n with
  | zero => intro k σ x1 V _ hV hG; exact CRow_k hV hG KSame.rf
  | succ n ih =>
    intro k σ x1 V hk hV hG
    show CRow σ (r_X4_readRow_b20 (r_X4_readRow_l20 n) σ x1 (N k))
    unfold r_X4_readRow_b20
    by_cases e : k = 5
    · have hc : (5 : Int32) ≤ N k := (N14 (L := 5) hk (by decide)).mpr e
      rw [if_pos hc]
      split
      · exact CRow_k hV hG K_readByte
      · exact CRow_k hV hG K_readByte
    · have hc : ¬ (5 : Int32) ≤ N k := fun z => e ((N14 (L := 5) hk (by decide)).mp z)
      rw [if_neg hc, N_inc]
      have hV1 : TabAt (r_X3_readNumber σ).2 3 V := TabAt_row hV (K_num.row (by decide))
      by_cases hr : ¬ (r_X3_readNumber σ).1 = 0
      · rw [if_pos hr]
        by_cases hs : ¬ v_X2_canStandInRow (N k) ((r_X3_readNumber σ).2 5 3) = 0
        · rw [if_pos hs]
          by_cases h0 : ¬ N k = 0
          · rw [if_pos h0]
            have hk1 : 1 ≤ k := by
              rcases Nat.eq_zero_or_pos k with z | z
              · rw [z] at h0; exact absurd rfl h0
              · exact z
            obtain ⟨p1, V', p2, p3⟩ := propose_ok (x1 := x1) hV1 hG hk1 (by omega) hs
            exact (ih (k + 1) _ _ V' (by omega) p2 p3).of (K_num.t.tr p1)
          · rw [if_neg h0]
            exact (ih (k + 1) _ _ V (by omega) hV1 hG).of K_num.t
        · rw [if_neg hs]; exact CRow_k hV hG K_num
      · rw [if_neg hr]; exact CRow_k hV hG K_num
theorem crow_ok {σ : sg_S} {V : Nat → Nat} (hV : TabAt σ 3 V) (hG : GoodV V) : CRow σ (r_X4_readRow σ) := by
  unfold r_X4_readRow
  split
  · exact (crow20 600 0 _ _ V (by decide) (TabAt_row hV (K_word.row (by decide))) hG).of K_word.t
  · exact CRow_k hV hG K_word
/-! the proposal holds -/
def Chk2 (V : Nat → Nat) (a : Nat) : Prop := (¬ a % 5 = 0 → V (a - 1) ≤ V a) ∧ (5 ≤ a → V a ≤ V (a - 5))
theorem GoodV_lt {V : Nat → Nat} (hG : GoodV V) {j : Nat} (hj : j < 50) : V j < 2147483648 := by
  by_cases z : j % 5 = 0
  · rw [(hG j hj).1 z]; decide
  · have := ((hG j hj).2 z).2; omega
theorem holds2 {σ : sg_S} {V : Nat → Nat} (hV : TabAt σ 3 V) (hG : GoodV V) : ∀ (n a : Nat), a ≤ 50 → 50 - a < n → (¬ v_X2_proposalHolds_l2 σ n (N a) = 0 ↔ ∀ j, a ≤ j → j < 50 → Chk2 V j) := by
  intro n
  induction n with
  | zero => intro a _ hn; omega
  | succ n ih =>
    intro a ha hn
    show ¬ v_X2_proposalHolds_b2 σ (v_X2_proposalHolds_l2 σ n) (N a) = 0 ↔ _
    unfold v_X2_proposalHolds_b2 v_X2_proposalHolds_a33
    by_cases e : a = 50
    · have hc : (50 : Int32) ≤ N a := (N14 (L := 50) ha (by decide)).mpr e
      rw [if_pos hc]
      exact ⟨fun _ j h1 h2 => by omega, fun _ => one_nz⟩
    have hc : ¬ (50 : Int32) ≤ N a := fun z => e ((N14 (L := 50) ha (by decide)).mp z)
    have i := ih (a + 1) (by omega) (by omega)
    have hall : Chk2 V a → (¬ v_X2_proposalHolds_l2 σ n (N (a + 1)) = 0 ↔ ∀ j, a ≤ j → j < 50 → Chk2 V j) := fun hck =>
      ⟨fun z j h1 h2 => by
        by_cases e2 : j = a
        · subst e2; exact hck
        · exact i.mp z j (by omega) h2, fun z => i.mpr (fun j h1 h2 => z j (by omega) h2)⟩
    have hno : ¬ Chk2 V a → (¬ (0 : Int32) = 0 ↔ ∀ j, a ≤ j → j < 50 → Chk2 V j) := fun hck => ⟨fun z => absurd rfl z, fun z => absurd (z a (by omega) (by omega)) hck⟩
    have e5 : rm (N a) 5 = N (a % 5) := N_rm (b := 5) (by omega) (by decide)
    rw [if_neg hc, N_inc, e5, ni_N (by omega), hV a (by omega)]
    have step2 : (¬ a % 5 = 0 → V (a - 1) ≤ V a) → (¬ (if N a < 5 then v_X2_proposalHolds_l2 σ n (N (a + 1)) else (if N (V a) ≤ σ 3 (ni (N a - 5)) then v_X2_proposalHolds_l2 σ n (N (a + 1)) else 0)) = 0 ↔ ∀ j, a ≤ j → j < 50 → Chk2 V j) := by
      intro h1
      by_cases g : a < 5
      · rw [if_pos (by exact g_lt (L := 5) g (by decide))]
        exact hall ⟨h1, fun z => by omega⟩
      · rw [if_neg (by
          show ¬ N a < N 5
          rw [N_lt (by omega) (by decide)]; exact g), show N a - 5 = N (a - 5) from N_sub (b := 5) (by omega), ni_N (by omega), hV (a - 5) (by omega)]
        by_cases g2 : V a ≤ V (a - 5)
        · rw [if_pos (g_le g2 (GoodV_lt hG (by omega)))]
          exact hall ⟨h1, fun _ => g2⟩
        · rw [if_neg (g_nle (by omega) (GoodV_lt hG (by omega)))]
          exact hno (fun z => g2 (z.2 (by omega)))
    by_cases g0 : a % 5 = 0
    · rw [if_pos (by rw [g0]; decide)]
      exact step2 (fun z => absurd g0 z)
    · rw [if_neg (by exact g_nle (a := 0) (by omega) (by omega)), show N a - 1 = N (a - 1) from N_sub (b := 1) (by omega), ni_N (by omega), hV (a - 1) (by omega)]
      by_cases g1 : V (a - 1) ≤ V a
      · rw [if_pos (g_le g1 (GoodV_lt hG (by omega)))]
        exact step2 (fun _ => g1)
      · rw [if_neg (g_nle (by omega) (GoodV_lt hG (by omega)))]
        exact hno (fun z => g1 (z.1 g0))
theorem Chk2_OK {V : Nat → Nat} (hG : GoodV V) (h : ∀ j, j < 50 → Chk2 V j) : TabOK V := by
  refine Chk_OK hG (fun w hw k hk1 hk5 => ?_)
  have c := h (5 * w + k) (by omega)
  refine ⟨c.1 (by omega), fun hw0 => ?_⟩
  have := c.2 (by omega)
  rw [show 5 * w + k - 5 = 5 * w - 5 + k by omega] at this
  exact this
theorem holds_OK {σ : sg_S} {V : Nat → Nat} (hV : TabAt σ 3 V) (hG : GoodV V) (h : ¬ v_X2_proposalHolds σ = 0) : TabOK V := Chk2_OK hG (fun j hj => (holds2 hV hG 600 0 (by decide) (by decide)).mp h j (by omega) hj)
/-- what a reading of a table leaves, if it found no fault -/
def CTab (σ : sg_S) (r : Int32 × sg_S) : Prop := TSame σ r.2 ∧ ∃ V, TabAt r.2 3 V ∧ (r.1 = 0 → TabOK V)
theorem ctab65 {σ : sg_S} {V : Nat → Nat} (hV : TabAt σ 3 V) (hG : GoodV V) (ht : ¬ 4 + 8 * σ 5 1 = 0) : CTab σ (r_X4_readTable_a65 σ) := by
  unfold r_X4_readTable_a65
  by_cases h : v_X2_proposalHolds σ = 0
  · rw [if_pos h]; exact ⟨TSame.rf, V, hV, fun z => absurd z ht⟩
  · rw [if_neg h]; exact ⟨TSame.rf, V, hV, fun _ => holds_OK hV hG h⟩
theorem ctab21 {t : Nat} (h5 : t ≤ 500) : ∀ (n k : Nat) (σ : sg_S) (V : Nat → Nat), k ≤ 500 → 500 - k < n → σ 5 1 = N t → TabAt σ 3 V → GoodV V → CTab σ (r_X4_readTable_l21 n σ (N k)) := by
  have hne : ¬ (4 : Int32) + 8 * N t = 0 := by
    rw [show (8 : Int32) = N 8 from rfl, show (4 : Int32) = N 4 from rfl, N_mul, N_add]
    exact N_nz (by omega) (by omega)
  intro n
  induction n with
  | zero => intro k σ V _ hn; omega
  | succ n ih =>
    intro k σ V hk hn ht hV hG
    show CTab σ (r_X4_readTable_b21 (r_X4_readTable_l21 n) σ (N k))
    unfold r_X4_readTable_b21
    by_cases e : k = 500
    · have hc : (500 : Int32) ≤ N k := (N14 (L := 500) hk (by decide)).mpr e
      rw [if_pos hc]
      exact ctab65 hV hG (by rw [ht]; exact hne)
    have hc : ¬ (500 : Int32) ≤ N k := fun z => e ((N14 (L := 500) hk (by decide)).mp z)
    rw [if_neg hc, N_inc]
    have hV1 : TabAt (r_X3_seek σ).2 3 V := TabAt_row hV (K_seek.row (by decide))
    have ht1 : (r_X3_seek σ).2 5 1 = N t := by rw [K_seek 5 1 (by decide)]; exact ht
    by_cases g : (r_X3_seek σ).1 = 0
    · rw [if_pos g]
      obtain ⟨a1, a2⟩ := ctab65 hV1 hG (by rw [ht1]; exact hne)
      exact ⟨K_seek.t.tr a1, a2⟩
    rw [if_neg g]
    obtain ⟨r1, V', r2, r3⟩ := crow_ok hV1 hG
    by_cases g2 : (r_X4_readRow (r_X3_seek σ).2).1 = 0
    · rw [if_pos g2]
      have hT : TSame σ (t_X4_readTable_1 σ (N k)) := (K_seek.t.tr r1).tr (TSame_0 (Or.inr rfl))
      obtain ⟨i1, i2⟩ := ih (k + 1) (t_X4_readTable_1 σ (N k)) V' (by omega) (by omega) (by
        rw [hT 5 1 (by decide) (by decide) (by decide)]; exact ht) (by
        unfold t_X4_readTable_1
        exact TabAt_up r2 (by decide)) r3
      exact ⟨hT.tr i1, i2⟩
    · rw [if_neg g2]
      exact ⟨K_seek.t.tr r1, V', r2, fun z => absurd z g2⟩
theorem beg2 {T : Nat → Nat} : ∀ (n j : Nat) (σ : sg_S), j ≤ 50 → 50 - j < n → TabAt σ 2 T → (∀ i, i < j → σ 3 i = N (T i)) → TabAt (s_X2_beginProposal_l2 n σ (N j)) 3 T ∧ (∀ q k, ¬ q = 3 → s_X2_beginProposal_l2 n σ (N j) q k = σ q k) := by
  intro n
  induction n with
  | zero => intro j σ _ hn; omega
  | succ n ih =>
    intro j σ hj hn hT hd
    show TabAt (s_X2_beginProposal_b2 (s_X2_beginProposal_l2 n) σ (N j)) 3 T ∧ (∀ q k, ¬ q = 3 → s_X2_beginProposal_b2 (s_X2_beginProposal_l2 n) σ (N j) q k = σ q k)
    unfold s_X2_beginProposal_b2
    by_cases e : j = 50
    · have hc : (50 : Int32) ≤ N j := (N14 (L := 50) hj (by decide)).mpr e
      rw [if_pos hc]
      exact ⟨fun i hi => hd i (by omega), fun _ _ _ => rfl⟩
    · have hc : ¬ (50 : Int32) ≤ N j := fun z => e ((N14 (L := 50) hj (by decide)).mp z)
      rw [if_neg hc, N_inc, ni_N (by omega), hT j (by omega)]
      obtain ⟨i1, i2⟩ := ih (j + 1) (sg_up σ 3 j (N (T j))) (by omega) (by omega) (TabAt_up hT (by decide)) (fun i hi => by
        by_cases e2 : i = j
        · subst e2; exact up_eq
        · rw [up_k e2]; exact hd i (by omega))
      exact ⟨i1, fun q k hq => (i2 q k hq).trans (up_c hq)⟩
theorem adopt2 {V : Nat → Nat} : ∀ (n j : Nat) (σ : sg_S), j ≤ 50 → 50 - j < n → TabAt σ 3 V → (∀ i, i < j → σ 2 i = N (V i)) → TabAt (s_X2_adoptProposal_l2 n σ (N j)) 2 V ∧ (∀ q k, ¬ q = 2 → s_X2_adoptProposal_l2 n σ (N j) q k = σ q k) := by
  intro n
  induction n with
  | zero => intro j σ _ hn; omega
  | succ n ih =>
    intro j σ hj hn hT hd
    show TabAt (s_X2_adoptProposal_b2 (s_X2_adoptProposal_l2 n) σ (N j)) 2 V ∧ (∀ q k, ¬ q = 2 → s_X2_adoptProposal_b2 (s_X2_adoptProposal_l2 n) σ (N j) q k = σ q k)
    unfold s_X2_adoptProposal_b2
    by_cases e : j = 50
    · have hc : (50 : Int32) ≤ N j := (N14 (L := 50) hj (by decide)).mpr e
      rw [if_pos hc]
      exact ⟨fun i hi => hd i (by omega), fun _ _ _ => rfl⟩
    · have hc : ¬ (50 : Int32) ≤ N j := fun z => e ((N14 (L := 50) hj (by decide)).mp z)
      rw [if_neg hc, N_inc, ni_N (by omega), hT j (by omega)]
      obtain ⟨i1, i2⟩ := ih (j + 1) (sg_up σ 2 j (N (V j))) (by omega) (by omega) (TabAt_up hT (by decide)) (fun i hi => by
        by_cases e2 : i = j
        · subst e2; exact up_eq
        · rw [up_k e2]; exact hd i (by omega))
      exact ⟨i1, fun q k hq => (i2 q k hq).trans (up_c hq)⟩
theorem ctab_ok {σ : sg_S} {T : Nat → Nat} {t : Nat} (h5 : t ≤ 500) (ht : σ 5 1 = N t) (hT : TabAt σ 2 T) (hK : TabOK T) : CTab σ (r_X4_readTable σ) := by
  obtain ⟨b1, b2⟩ := beg2 600 0 (sg_up σ 0 8 0) (by decide) (by decide) (TabAt_up hT (by decide)) (fun i hi => by omega)
  have hS : TSame σ (t_X4_readTable_0 σ) := fun q k h1 h2 h3 => by
    unfold t_X4_readTable_0
    rw [K_rewind q k h2]
    exact (b2 q k h1).trans (up_ne (by omega))
  have hV : TabAt (t_X4_readTable_0 σ) 3 T := by
    unfold t_X4_readTable_0
    exact TabAt_row b1 (K_rewind.row (by decide))
  obtain ⟨i1, i2⟩ := ctab21 h5 600 0 (t_X4_readTable_0 σ) T (by decide) (by decide) (by rw [hS 5 1 (by decide) (by decide) (by decide)]; exact ht) hV (Tab_good hK)
  exact ⟨hS.tr i1, i2⟩
end
section
/-! WHAT HOLDS OF THE CLASS BETWEEN CALLS -/
def HiS (σ σ' : sg_S) : Prop := ∀ q k, 35 ≤ q → σ' q k = σ q k
theorem HiS.rf {σ : sg_S} : HiS σ σ := fun _ _ _ => rfl
theorem HiS.tr {σ σ1 σ2 : sg_S} (h : HiS σ σ1) (h' : HiS σ1 σ2) : HiS σ σ2 := fun q k a => (h' q k a).trans (h q k a)
theorem HiS_u {σ : sg_S} {q0 k0 : Nat} {v : Int32} (h : q0 < 35) : HiS σ (sg_up σ q0 k0 v) := fun q k h1 => up_c (by omega)
theorem KSame.hi {σ σ' : sg_S} (h : KSame σ σ') : HiS σ σ' := fun q k h1 => h q k (by omega)
theorem TSame.hi {σ σ' : sg_S} (h : TSame σ σ') : HiS σ σ' := fun q k h1 => h q k (by omega) (by omega) (by omega)
theorem CSame.hi {c : Nat} {σ σ' : sg_S} (h : CSame c σ σ') (hc : c + 12 < 35) : HiS σ σ' := fun q k h1 => h q k (by omega)
theorem CAt_fr {σ σ' : sg_S} {T S : Nat → Nat} {i t : Nat} {D : Nat → Nat → Nat} (h : CAt σ 7 T S i t D) (hs : ∀ q j, (q = 2 ∨ q = 4 ∨ (7 ≤ q ∧ q ≤ 19)) → σ' q j = σ q j) : CAt σ' 7 T S i t D :=
  ⟨fun k hk => by rw [hs 2 k (by omega)]; exact h.1 k hk, h.2.1, fun k hk => by rw [hs 4 k (by omega)]; exact h.2.2.1 k hk, h.2.2.2.1, by rw [hs 7 3 (by omega)]; exact h.2.2.2.2.1, by rw [hs 7 4 (by omega)]; exact h.2.2.2.2.2.1, fun f hf => by rw [hs (7 + 1) f (by omega)]; exact h.2.2.2.2.2.2.1 f hf, fun f hf => by rw [hs (7 + 7) f (by omega)]; exact h.2.2.2.2.2.2.2 f hf⟩
def CSt (T S : Nat → Nat) (σ : sg_S) (k : Nat) : Prop := σ 0 6 = N k ∧ k ≤ 400 ∧ ∃ x : mS, mrun T S (σ 33) (σ 34) k = some x ∧ CAt σ 7 T S x.1 x.2.1 x.2.2
theorem CSt_fr {σ σ' : sg_S} {T S : Nat → Nat} {k : Nat} (h : CSt T S σ k) (h6 : σ' 0 6 = σ 0 6) (hl : ∀ j, j < k → σ' 33 j = σ 33 j ∧ σ' 34 j = σ 34 j) (hs : ∀ q j, (q = 2 ∨ q = 4 ∨ (7 ≤ q ∧ q ≤ 19)) → σ' q j = σ q j) : CSt T S σ' k := by
  obtain ⟨a1, a2, x, a3, a4⟩ := h
  exact ⟨by rw [h6]; exact a1, a2, x, by rw [← a3]; exact mrun_congr k hl, CAt_fr a4 hs⟩
theorem CSt_K {σ σ' : sg_S} {T S : Nat → Nat} {k : Nat} (h : CSt T S σ k) (hs : KSame σ σ') : CSt T S σ' k := CSt_fr h (hs 0 6 (by decide)) (fun j _ => ⟨hs 33 j (by omega), hs 34 j (by omega)⟩) (fun q j hq => hs q j (by omega))
/-! which events can come, to the class -/
theorem isEvent4 {e : Int32} : (¬ v_X4_isEvent e = 0) ↔ isEv e := by
  have l1 := lt_ni (x := e) (a := 48) (by decide) (by decide)
  have l2 := le_ni (x := e) (a := 48) (by decide) (by decide)
  have ha : (¬ v_X4_isEvent_a12 e = 0) ↔ (e = 120 ∨ e = 119 ∨ e = 110 ∨ e = 99 ∨ e = 100 ∨ e = 47) := by
    unfold v_X4_isEvent_a12 v_X4_bearsNumber
    by_cases g1 : e = 120
    · rw [if_pos g1]; exact ⟨fun _ => Or.inl g1, fun _ => one_nz⟩
    rw [if_neg g1]
    by_cases g2 : e = 119
    · rw [if_pos g2]; exact ⟨fun _ => Or.inr (Or.inl g2), fun _ => one_nz⟩
    rw [if_neg g2]
    by_cases g3 : e = 110
    · rw [if_pos g3]; exact ⟨fun _ => Or.inr (Or.inr (Or.inl g3)), fun _ => one_nz⟩
    rw [if_neg g3]
    by_cases g4 : e = 47
    · rw [if_pos g4]; exact ⟨fun _ => Or.inr (Or.inr (Or.inr (Or.inr (Or.inr g4)))), fun _ => one_nz⟩
    rw [if_neg g4]
    by_cases g5 : e = 99
    · rw [if_pos g5, if_neg one_nz]; exact ⟨fun _ => Or.inr (Or.inr (Or.inr (Or.inl g5))), fun _ => one_nz⟩
    rw [if_neg g5]
    by_cases g6 : e = 100
    · have hz : (if ¬ e = 100 then (0 : Int32) else 1) = 1 := if_neg (fun z => z g6)
      rw [hz, if_neg one_nz]; exact ⟨fun _ => Or.inr (Or.inr (Or.inr (Or.inr (Or.inl g6)))), fun _ => one_nz⟩
    rw [if_pos g6, if_pos rfl]
    refine ⟨fun z => absurd rfl z, fun z => ?_⟩
    rcases z with z | z | z | z | z | z
    · exact absurd z g1
    · exact absurd z g2
    · exact absurd z g3
    · exact absurd z g5
    · exact absurd z g6
    · exact absurd z g4
  unfold v_X4_isEvent isEv
  by_cases g : e < 48
  · rw [if_pos g, ha]
    have := l1.mp g
    exact ⟨fun z => Or.inr z, fun z => z.elim (fun z => by omega) id⟩
  rw [if_neg g]
  have h48 : 48 ≤ ni e := by
    have hz : ¬ ni e < 48 := fun z => g (l1.mpr z)
    omega
  have ee := ni_pos (x := e) (by omega)
  by_cases g2 : e ≤ 54
  · rw [if_pos g2]
    refine ⟨fun _ => Or.inl ⟨h48, ?_⟩, fun _ => one_nz⟩
    rw [← ee] at g2
    exact (N_le (b := 54) ni_lt (by decide)).mp g2
  · rw [if_neg g2, ha]
    refine ⟨fun z => Or.inr z, fun z => z.elim (fun z => absurd ?_ g2) id⟩
    rw [← ee]
    exact g_le (L := 54) z.2 (by decide)
section CMay
variable {σ : sg_S} {T S : Nat → Nat} {k i t : Nat} {D : Nat → Nat → Nat}
theorem admits_iff {e : Int32} (h : CAt σ 7 T S i t D) (hi : i ≤ 2) (ht : t ≤ 1) : (¬ v_X0_admits σ 7 e = 0) ↔ (i < 2 ∧ (e = 100 → t = 0)) := by
  unfold v_X0_admits
  rw [h.2.2.2.2.1, h.2.2.2.2.2.1]
  by_cases g : i < 2
  · rw [if_neg (by exact g_nle (L := 2) g (by decide))]
    by_cases g2 : e = 100
    · rw [if_neg (fun z => z g2)]
      rcases (show t = 0 ∨ t = 1 by omega) with rfl | rfl
      · rw [if_neg (by decide)]; exact ⟨fun _ => ⟨g, fun _ => rfl⟩, fun _ => one_nz⟩
      · rw [if_pos (by decide)]; exact ⟨fun z => absurd rfl z, fun z => absurd (z.2 g2) (by decide)⟩
    · rw [if_pos g2]; exact ⟨fun _ => ⟨g, fun z => absurd z g2⟩, fun _ => one_nz⟩
  · rw [if_pos (by rw [show i = 2 by omega]; decide)]; exact ⟨fun z => absurd rfl z, fun z => absurd z.1 g⟩
theorem fits_iff {e n : Int32} (h : CAt σ 7 T S i t D) (hi : i < 2) (hI : InnOK T k (D i)) (h1 : InnOK T k (D 1)) : (¬ v_X0_fits σ 7 e n = 0) ↔ ((e = 100 → 1 ≤ ni n ∧ ni n < D 1 3) ∧ (¬ e = 100 → 1 ≤ ni n ∧ ni n < D i 3 ∧ D i 2 ≤ 6 * ni n)) := by
  obtain ⟨a1, a2, a3, -⟩ := hI
  obtain ⟨b1, b2, -⟩ := h1
  have hP := h.pic hi
  have hP1 := h.2.2.2.2.2.2.2
  unfold v_X0_fits
  rw [h.2.2.2.2.1, side_eq hi, hP 3 (by decide), hP 2 (by decide), hP1 3 (by decide)]
  have l1 := lt_ni (x := n) (a := 1) (by decide) (by decide)
  by_cases g1 : n < 1
  · rw [if_pos g1]
    have := l1.mp g1
    refine ⟨fun z => absurd rfl z, fun z => ?_⟩
    by_cases e1 : e = 100
    · have := z.1 e1; omega
    · have := z.2 e1; omega
  rw [if_neg g1]
  have g1' : 1 ≤ ni n := by
    have hz : ¬ ni n < 1 := fun z => g1 (l1.mpr z)
    omega
  have en := ni_pos g1'
  have hlt := ni_lt (x := n)
  by_cases g2 : ni n ≤ 20
  · rw [if_pos (by rw [← en]; exact g_le (L := 20) g2 (by decide))]
    by_cases e1 : e = 100
    · rw [if_neg (fun z => z e1)]
      by_cases g3 : D 1 3 ≤ ni n
      · rw [if_pos (by rw [← en]; exact g_le g3 hlt)]
        exact ⟨fun z => absurd rfl z, fun z => by have := z.1 e1; omega⟩
      · rw [if_neg (by rw [← en]; exact g_nle (by omega) (by omega))]
        exact ⟨fun _ => ⟨fun _ => ⟨g1', by omega⟩, fun z => absurd e1 z⟩, fun _ => one_nz⟩
    · rw [if_pos e1]
      by_cases g3 : D i 3 ≤ ni n
      · rw [if_pos (by rw [← en]; exact g_le g3 hlt)]
        exact ⟨fun z => absurd rfl z, fun z => by have := z.2 e1; omega⟩
      · rw [if_neg (by rw [← en]; exact g_nle (by omega) (by omega))]
        have e6 : 6 * n = N (6 * ni n) := by
          rw [← N_mul, en]
          rfl
        rw [e6]
        by_cases g4 : 6 * ni n < D i 2
        · rw [if_pos (g_lt g4 (by omega))]
          exact ⟨fun z => absurd rfl z, fun z => by have := z.2 e1; omega⟩
        · rw [if_neg (g_nlt (by omega) (by omega))]
          exact ⟨fun _ => ⟨fun z => absurd z e1, fun _ => ⟨g1', by omega, by omega⟩⟩, fun _ => one_nz⟩
  · rw [if_neg (by rw [← en]; exact g_nle (a := 20) (by omega) hlt)]
    refine ⟨fun z => absurd rfl z, fun z => ?_⟩
    by_cases e1 : e = 100
    · have := z.1 e1; omega
    · have := z.2 e1; omega
theorem bears_iff {e : Int32} : (v_X4_bearsNumber e = 0) ↔ (¬ e = 99 ∧ ¬ e = 100) := by
  unfold v_X4_bearsNumber
  by_cases g5 : e = 99
  · rw [if_pos g5]; exact ⟨fun z => absurd z one_nz, fun z => absurd g5 z.1⟩
  rw [if_neg g5]
  by_cases g6 : e = 100
  · rw [if_neg (fun z => z g6)]; exact ⟨fun z => absurd z one_nz, fun z => absurd g6 z.2⟩
  · rw [if_pos g6]; exact ⟨fun _ => ⟨g5, g6⟩, fun _ => rfl⟩
theorem canCome_iff {e : Int32} (h6 : σ 0 6 = N k) (hk : k ≤ 400) (h : CAt σ 7 T S i t D) (hi : i ≤ 2) (ht : t ≤ 1) : (¬ v_X4_canCome σ e = 0) ↔ (k < 400 ∧ i < 2 ∧ (e = 100 → t = 0)) := by
  have ha := admits_iff (e := e) h hi ht
  unfold v_X4_canCome
  rw [h6]
  by_cases g : k < 400
  · rw [if_neg (by exact g_nle (L := 400) g (by decide))]
    by_cases g2 : v_X0_admits σ 7 e = 0
    · rw [if_pos g2]; exact ⟨fun z => absurd rfl z, fun z => absurd g2 (ha.mpr z.2)⟩
    · rw [if_neg g2]; exact ⟨fun _ => ⟨g, ha.mp g2⟩, fun _ => one_nz⟩
  · rw [if_pos (by rw [show k = 400 by omega]; decide)]; exact ⟨fun z => absurd rfl z, fun z => absurd z.1 g⟩
end CMay
/-! the class takes an event into its LOG -/
def VSame (k : Nat) (σ σ' : sg_S) : Prop := ∀ q j, ¬ (7 ≤ q ∧ q ≤ 19) → ¬ ((q = 33 ∨ q = 34) ∧ k ≤ j) → ¬ (q = 0 ∧ (j = 6 ∨ j = 7)) → ¬ (q = 5 ∧ 2 ≤ j ∧ j ≤ 4) → σ' q j = σ q j
theorem VSame.rf {k : Nat} {σ : sg_S} : VSame k σ σ := fun _ _ _ _ _ _ => rfl
theorem VSame.tr {k : Nat} {σ σ1 σ2 : sg_S} (h : VSame k σ σ1) (h' : VSame k σ1 σ2) : VSame k σ σ2 := fun q j a b c d => (h' q j a b c d).trans (h q j a b c d)
theorem VSame.le {k k' : Nat} {σ σ' : sg_S} (h : VSame k' σ σ') (hk : k ≤ k') : VSame k σ σ' := fun q j a b c d => h q j a (by omega) c d
theorem KSame.v {k : Nat} {σ σ' : sg_S} (h : KSame σ σ') : VSame k σ σ' := fun q j _ _ _ d => h q j d
theorem VSame.hi {k : Nat} {σ σ' : sg_S} (h : VSame k σ σ') : HiS σ σ' := fun q j h1 => h q j (by omega) (by omega) (by omega) (by omega)
theorem crec_ok {σ : sg_S} {T S : Nat → Nat} {k : Nat} {x y : mS} {e n : Int32} (h6 : σ 0 6 = N k) (hk : k < 400) (hA : CAt σ 7 T S x.1 x.2.1 x.2.2) (hx : mrun T S (σ 33) (σ 34) k = some x) (hs : stp T (S 1) x e n = some y) : (s_X4_record σ e n) 0 6 = N (k + 1) ∧ mrun T S ((s_X4_record σ e n) 33) ((s_X4_record σ e n) 34) (k + 1) = some y ∧ CAt (s_X4_record σ e n) 7 T S y.1 y.2.1 y.2.2 ∧ VSame k σ (s_X4_record σ e n) ∧ (s_X4_record σ e n) 33 k = e ∧ (s_X4_record σ e n) 34 k = n := by
  have e1 : (sg_up σ 33 k e) 0 6 = N k := by rw [up_c (by decide)]; exact h6
  have et : t_X4_record_1 σ e n = sg_up (sg_up (sg_up σ 33 k e) 34 k n) 0 6 (N (k + 1)) := by
    unfold t_X4_record_1 t_X4_record_0
    rw [h6, ni_N (by omega), e1, ni_N (by omega), up_c (by decide), e1, N_inc]
  have er : s_X4_record σ e n = s_X0_take (sg_up (sg_up (sg_up σ 33 k e) 34 k n) 0 6 (N (k + 1))) 7 e n := by
    unfold s_X4_record
    rw [h6, if_neg (N_nn (by omega)), if_pos (by exact g_lt (L := 400) hk (by decide)), et]
  have hA1 : CAt (sg_up (sg_up (sg_up σ 33 k e) 34 k n) 0 6 (N (k + 1))) 7 T S x.1 x.2.1 x.2.2 := CAt_fr hA (fun q j hq => by
    rw [up_ne (by omega), up_ne (by omega), up_ne (by omega)])
  obtain ⟨t1, t2⟩ := take_ok (y := y) (by decide) hA1 (mrun_OK hA.2.1 hA.2.2.2.1 k x hx) (by omega) (show stp T (S 1) (x.1, x.2.1, x.2.2) e n = some y from hs)
  have r33 := t2.row (q := 33) (by decide)
  have r34 := t2.row (q := 34) (by decide)
  have f33 : (sg_up (sg_up (sg_up σ 33 k e) 34 k n) 0 6 (N (k + 1))) 33 k = e := by rw [up_c (by decide), up_c (by decide), up_eq]
  have f34 : (sg_up (sg_up (sg_up σ 33 k e) 34 k n) 0 6 (N (k + 1))) 34 k = n := by rw [up_c (by decide), up_eq]
  rw [er]
  refine ⟨?_, ?_, t1, ?_, by rw [r33]; exact f33, by rw [r34]; exact f34⟩
  · rw [t2 0 6 (by decide), up_eq]
  · rw [r33, r34]
    have hc : mrun T S ((sg_up (sg_up (sg_up σ 33 k e) 34 k n) 0 6 (N (k + 1))) 33) ((sg_up (sg_up (sg_up σ 33 k e) 34 k n) 0 6 (N (k + 1))) 34) k = some x := by
      rw [← hx]
      refine mrun_congr k (fun j hj => ⟨?_, ?_⟩)
      · rw [up_c (by decide), up_c (by decide), up_k (by omega)]
      · rw [up_c (by decide), up_k (by omega), up_c (by decide)]
    rw [mrun_some hc, f33, f34]
    exact hs
  · intro q j a b c d
    rw [t2 q j (by omega), up_ne (by omega), up_ne (by omega), up_ne (by omega)]
theorem crec_st {σ : sg_S} {T S : Nat → Nat} {k : Nat} {x : mS} {e n : Int32} (h6 : σ 0 6 = N k) (hk : k < 400) (hA : CAt σ 7 T S x.1 x.2.1 x.2.2) (hx : mrun T S (σ 33) (σ 34) k = some x) (hc : canS x.1 x.2.1 x.2.2 e n) : CSt T S (s_X4_record σ e n) (k + 1) ∧ VSame k σ (s_X4_record σ e n) := by
  obtain ⟨y, hy⟩ := stp_some (T := T) (mean := S 1) hc
  obtain ⟨a1, a2, a3, a4, -⟩ := crec_ok (y := y) h6 hk hA hx hy
  exact ⟨⟨a1, by omega, y, a2, a3⟩, a4⟩
theorem early_of {T : Nat → Nat} {mean k i t : Nat} {D : Nat → Nat → Nat} (hO : OK T mean k i t D) (h2 : i < 2) (ht : t = 0) : i = 0 ∨ i = 1 ∧ t = 0 := by omega
theorem cplay_can {σ : sg_S} {T S : Nat → Nat} {k : Nat} {x : mS} {e n : Int32} (h6 : σ 0 6 = N k) (hk : k ≤ 400) (hA : CAt σ 7 T S x.1 x.2.1 x.2.2) (hx : mrun T S (σ 33) (σ 34) k = some x) (he : ¬ v_X4_isEvent e = 0) (hc : ¬ v_X4_canCome σ e = 0) (hf : ¬ v_X4_bearsNumber e = 0 → ¬ v_X0_fits σ 7 e n = 0) : k < 400 ∧ canS x.1 x.2.1 x.2.2 e n := by
  have hO := mrun_OK hA.2.1 hA.2.2.2.1 k x hx
  obtain ⟨c1, c2, c3⟩ := (canCome_iff h6 hk hA hO.1 hO.2.1).mp hc
  have hb := bears_iff (e := e)
  have hfi := fits_iff (e := e) (n := n) hA c2 (hO.2.2.2.1 x.1 c2) (hO.2.2.2.1 1 (by decide))
  refine ⟨c1, isEvent4.mp he, fun z => ?_, fun _ => c2, fun z => ?_⟩
  · have := hfi.mp (hf (fun w => (hb.mp w).2 z))
    exact ⟨early_of hO c2 (c3 z), this.1 z⟩
  · have := hfi.mp (hf (fun w => (hb.mp w).1 z))
    exact this.2 (by rw [z]; decide)
theorem cev_ok {σ : sg_S} {T S : Nat → Nat} {k : Nat} (h : CSt T S σ k) : ∃ k', k ≤ k' ∧ CSt T S (r_X4_readEvent σ).2 k' ∧ VSame k σ (r_X4_readEvent σ).2 := by
  have h1 := CSt_K h (K_take (σ := σ))
  obtain ⟨a1, a2, x, a3, a4⟩ := id h1
  unfold r_X4_readEvent
  by_cases g1 : ¬ v_X4_isEvent (r_X3_takeByte σ).1 = 0
  · rw [if_pos g1]
    by_cases g2 : ¬ v_X4_canCome (r_X3_takeByte σ).2 (r_X3_takeByte σ).1 = 0
    · rw [if_pos g2]
      by_cases g3 : v_X4_bearsNumber (r_X3_takeByte σ).1 = 0
      · rw [if_pos g3]
        obtain ⟨c1, c2⟩ := cplay_can (n := 0) a1 a2 a4 a3 g1 g2 (fun z => absurd g3 z)
        obtain ⟨r1, r2⟩ := crec_st a1 c1 a4 a3 c2
        exact ⟨k + 1, by omega, r1, K_take.v.tr r2⟩
      · rw [if_neg g3]
        have h2 := CSt_K h1 (K_num (σ := (r_X3_takeByte σ).2))
        obtain ⟨b1, b2, x', b3, b4⟩ := id h2
        by_cases g4 : ¬ (r_X3_readNumber (r_X3_takeByte σ).2).1 = 0
        · rw [if_pos g4]
          by_cases g5 : ¬ v_X0_fits (r_X3_readNumber (r_X3_takeByte σ).2).2 7 (r_X3_takeByte σ).1 ((r_X3_readNumber (r_X3_takeByte σ).2).2 5 3) = 0
          · rw [if_pos g5]
            have hO := mrun_OK a4.2.1 a4.2.2.2.1 k x a3
            have g2' := (canCome_iff a1 a2 a4 hO.1 hO.2.1).mp g2
            have exx : x' = x := by
              rw [K_num.row (σ := (r_X3_takeByte σ).2) (q := 33) (by decide), K_num.row (σ := (r_X3_takeByte σ).2) (q := 34) (by decide)] at b3
              exact Option.some.inj (b3.symm.trans a3)
            subst exx
            obtain ⟨c1, c2⟩ := cplay_can (n := (r_X3_readNumber (r_X3_takeByte σ).2).2 5 3) b1 b2 b4 b3 g1 ((canCome_iff b1 b2 b4 hO.1 hO.2.1).mpr g2') (fun _ => g5)
            obtain ⟨r1, r2⟩ := crec_st b1 c1 b4 b3 c2
            exact ⟨k + 1, by omega, r1, (K_take.tr K_num).v.tr r2⟩
          · rw [if_neg g5]; exact ⟨k, Nat.le_refl _, h2, (K_take.tr K_num).v⟩
        · rw [if_neg g4]; exact ⟨k, Nat.le_refl _, h2, (K_take.tr K_num).v⟩
    · rw [if_neg g2]; exact ⟨k, Nat.le_refl _, h1, K_take.v⟩
  · rw [if_neg g1]; exact ⟨k, Nat.le_refl _, h1, K_take.v⟩
/-! between calls -/
def CInv (σ : sg_S) (T S : Nat → Nat) (k t : Nat) : Prop := CSt T S σ k ∧ σ 5 1 = N t ∧ t ≤ 500
theorem cev57 {σ : sg_S} {T S : Nat → Nat} {k k0 : Nat} {x0 : mS} (h : CSt T S σ k) (hk : k0 ≤ 400) (hx0 : mrun T S (σ 33) (σ 34) k0 = some x0) : (∃ k', CInv (r_X4_events_a57 σ (N k0)).2 T S k' 0) ∧ HiS σ (r_X4_events_a57 σ (N k0)).2 := by
  unfold r_X4_events_a57
  by_cases g : (sg_up σ 5 1 0) 0 7 = 0
  · rw [if_pos g]
    dsimp only
    exact ⟨⟨k, CSt_fr h (by rw [up_c (by decide)]) (fun j _ => ⟨by rw [up_c (by decide)], by rw [up_c (by decide)]⟩) (fun q j hq => by rw [up_c (by omega)]), up_eq, by decide⟩, HiS_u (by decide)⟩
  · rw [if_neg g]
    obtain ⟨a1, a2, x, a3, a4⟩ := h
    have e33 : (sg_up (sg_up σ 5 1 0) 0 6 (N k0)) 33 = σ 33 := funext (fun j => by rw [up_c (by decide), up_c (by decide)])
    have e34 : (sg_up (sg_up σ 5 1 0) 0 6 (N k0)) 34 = σ 34 := funext (fun j => by rw [up_c (by decide), up_c (by decide)])
    obtain ⟨r1, r2⟩ := replay_ok (σ := sg_up (sg_up σ 5 1 0) 0 6 (N k0)) (c := 7) (y := x0) (by decide) (by decide) (TabAt_up (TabAt_up a4.1 (by decide)) (by decide)) a4.2.1 (SetAt_up (SetAt_up a4.2.2.1 (by decide)) (by decide)) a4.2.2.2.1 hk (by rw [e33, e34]; exact hx0)
    dsimp only
    unfold t_X4_events_0
    refine ⟨⟨k0, ⟨?_, hk, x0, ?_, r1⟩, ?_, by decide⟩, ((HiS_u (by decide)).tr (HiS_u (by decide))).tr (r2.hi (by decide))⟩
    · rw [r2 0 6 (by decide), up_eq]
    · rw [r2.row (q := 33) (by decide), r2.row (q := 34) (by decide), e33, e34]; exact hx0
    · rw [r2 5 1 (by decide), up_c (by decide), up_eq]; rfl
theorem cev19 {T S : Nat → Nat} {k0 : Nat} (hk0 : k0 ≤ 400) {x0 : mS} : ∀ (n j k : Nat) (σ : sg_S), j ≤ 500 → 500 - j < n → k0 ≤ k → CSt T S σ k → mrun T S (σ 33) (σ 34) k0 = some x0 → (∃ k', CInv (r_X4_events_l19 n σ (N k0) (N j)).2 T S k' 0) ∧ HiS σ (r_X4_events_l19 n σ (N k0) (N j)).2 := by
  intro n
  induction n with
  | zero => intro j k σ _ hn; omega
  | succ n ih =>
    intro j k σ hj hn hk h hx0
    show (∃ k', CInv (r_X4_events_b19 (r_X4_events_l19 n) σ (N k0) (N j)).2 T S k' 0) ∧ HiS σ (r_X4_events_b19 (r_X4_events_l19 n) σ (N k0) (N j)).2
    unfold r_X4_events_b19
    by_cases e : j = 500
    · have hc : (500 : Int32) ≤ N j := (N14 (L := 500) hj (by decide)).mpr e
      rw [if_pos hc]
      exact cev57 h hk0 hx0
    have hc : ¬ (500 : Int32) ≤ N j := fun z => e ((N14 (L := 500) hj (by decide)).mp z)
    rw [if_neg hc]
    by_cases g1 : ¬ σ 0 7 = 0
    · rw [if_pos g1]; exact cev57 h hk0 hx0
    rw [if_neg g1]
    have h1 := CSt_K h (K_seek (σ := σ))
    have hx1 : mrun T S ((r_X3_seek σ).2 33) ((r_X3_seek σ).2 34) k0 = some x0 := by
      rw [K_seek.row (σ := σ) (q := 33) (by decide), K_seek.row (σ := σ) (q := 34) (by decide)]; exact hx0
    by_cases g2 : (r_X3_seek σ).1 = 0
    · rw [if_pos g2]
      obtain ⟨p1, p2⟩ := cev57 h1 hk0 hx1
      exact ⟨p1, (K_seek (σ := σ)).hi.tr p2⟩
    rw [if_neg g2, N_inc]
    obtain ⟨k', v1, v2, v3⟩ := cev_ok h1
    have h3 : CSt T S (t_X4_events_1 σ (N k0) (N j)) k' := by
      unfold t_X4_events_1
      exact CSt_fr v2 (by rw [up_k (by decide)]) (fun i _ => ⟨by rw [up_c (by decide)], by rw [up_c (by decide)]⟩) (fun q i hq => by rw [up_c (by omega)])
    have hx3 : mrun T S ((t_X4_events_1 σ (N k0) (N j)) 33) ((t_X4_events_1 σ (N k0) (N j)) 34) k0 = some x0 := by
      rw [← hx1]
      refine mrun_congr k0 (fun i hi => ⟨?_, ?_⟩)
      · unfold t_X4_events_1
        rw [up_c (by decide)]
        exact v3 33 i (by decide) (by omega) (by omega) (by omega)
      · unfold t_X4_events_1
        rw [up_c (by decide)]
        exact v3 34 i (by decide) (by omega) (by omega) (by omega)
    obtain ⟨i1, i2⟩ := ih (j + 1) k' (t_X4_events_1 σ (N k0) (N j)) (by omega) (by omega) (by omega) h3 hx3
    have hh : HiS σ (t_X4_events_1 σ (N k0) (N j)) := by
      unfold t_X4_events_1
      exact ((K_seek (σ := σ)).hi.tr v3.hi).tr (HiS_u (by decide))
    exact ⟨i1, hh.tr i2⟩
end
section
/-! THE CLASS'S CALLS -/
section CCalls
variable {σ : sg_S} {T S : Nat → Nat} {k t : Nat}
/-! feed -/
def gb (x s : Int32) : Int32 := (ip_bI 7 x s) &&& 255
theorem astep {a : Nat} {x s : Int32} (ha : σ 5 1 = N a) (h5 : a < 500) : t_X3_append_1 σ x s = sg_up (sg_up σ 6 a (gb x s)) 5 1 (N (a + 1)) := by
  unfold t_X3_append_1 t_X3_append_0
  rw [ha, ni_N (by omega), up_c (by decide), ha, N_inc]
  rfl
theorem ap_l3 {n a : Nat} {x s : Int32} (ha : σ 5 1 = N a) (h5 : a < 500) (hs : ¬ s < 0) : s_X3_append_l3 (n + 1) σ x s = s_X3_append_l3 n (sg_up (sg_up σ 6 a (gb x s)) 5 1 (N (a + 1))) x (s + -8) := by
  show s_X3_append_b3 (s_X3_append_l3 n) σ x s = _
  unfold s_X3_append_b3
  rw [if_neg hs, ha, if_neg (N_nn (by omega)), if_neg (by exact g_nle (L := 500) h5 (by decide)), astep ha h5]
def ASame (σ σ' : sg_S) : Prop := ∀ q k, ¬ q = 6 → ¬ (q = 5 ∧ k = 1) → σ' q k = σ q k
theorem ASame.tr {σ σ1 σ2 : sg_S} (h : ASame σ σ1) (h' : ASame σ1 σ2) : ASame σ σ2 := fun q k a b => (h' q k a b).trans (h q k a b)
theorem ASame.hi {σ σ' : sg_S} (h : ASame σ σ') : HiS σ σ' := fun q k h1 => h q k (by omega) (by omega)
def gB4 (x : Int32) (j : Nat) : Int32 := if j = 0 then gb x 24 else if j = 1 then gb x 16 else if j = 2 then gb x 8 else gb x 0
theorem append_ok {a : Nat} {x : Int32} (ha : σ 5 1 = N a) (h5 : a + 4 ≤ 500) : (s_X3_append σ x) 5 1 = N (a + 4) ∧ ASame σ (s_X3_append σ x) ∧ (∀ j, (s_X3_append σ x) 6 j = if a ≤ j ∧ j < a + 4 then gB4 x (j - a) else σ 6 j) := by
  have e : s_X3_append σ x = sg_up (sg_up (sg_up (sg_up (sg_up (sg_up (sg_up (sg_up σ 6 a (gb x 24)) 5 1 (N (a + 1))) 6 (a + 1) (gb x 16)) 5 1 (N (a + 1 + 1))) 6 (a + 1 + 1) (gb x 8)) 5 1 (N (a + 1 + 1 + 1))) 6 (a + 1 + 1 + 1) (gb x 0)) 5 1 (N (a + 1 + 1 + 1 + 1)) := by
    show s_X3_append_l3 (599 + 1) σ x 24 = _
    rw [ap_l3 ha (by omega) (by decide)]
    show s_X3_append_l3 (598 + 1) _ x 16 = _
    rw [ap_l3 (a := a + 1) up_eq (by omega) (by decide)]
    show s_X3_append_l3 (597 + 1) _ x 8 = _
    rw [ap_l3 (a := a + 1 + 1) up_eq (by omega) (by decide)]
    show s_X3_append_l3 (596 + 1) _ x 0 = _
    rw [ap_l3 (a := a + 1 + 1 + 1) up_eq (by omega) (by decide)]
    show s_X3_append_b3 (s_X3_append_l3 595) _ x (-8) = _
    unfold s_X3_append_b3
    rw [if_pos (by decide)]
  rw [e]
  refine ⟨up_eq, fun q k h1 h2 => ?_, fun j => ?_⟩
  · simp (disch := omega) only [up_ne]
  · rw [up_c (by decide), up_ite, up_c (by decide), up_ite, up_c (by decide), up_ite, up_c (by decide), up_ite]
    unfold gB4
    repeat' split
    all_goals first | rfl | omega
theorem CInv_A {σ' : sg_S} {t' : Nat} (h : CInv σ T S k t) (hs : ASame σ σ') (ht : σ' 5 1 = N t') (h5 : t' ≤ 500) : CInv σ' T S k t' :=
  ⟨CSt_fr h.1 (hs 0 6 (by decide) (by decide)) (fun j _ => ⟨hs 33 j (by decide) (by omega), hs 34 j (by decide) (by omega)⟩) (fun q j hq => hs q j (by omega) (by omega)), ht, h5⟩
def gB20 (a b c d e : Int32) (j : Nat) : Int32 := if j < 4 then gB4 a j else if j < 8 then gB4 b (j - 4) else if j < 12 then gB4 c (j - 8) else if j < 16 then gB4 d (j - 12) else gB4 e (j - 16)
theorem C_feed {x0 x1 x2 x3 x4 : Int32} (h : CInv σ T S k t) : (t + 20 ≤ 500 → (r_X4_feed σ x0 x1 x2 x3 x4).1 = N (t + 20) ∧ CInv (r_X4_feed σ x0 x1 x2 x3 x4).2 T S k (t + 20) ∧ (∀ j, (r_X4_feed σ x0 x1 x2 x3 x4).2 6 j = if t ≤ j ∧ j < t + 20 then gB20 x0 x1 x2 x3 x4 (j - t) else σ 6 j)) ∧ (¬ t + 20 ≤ 500 → (r_X4_feed σ x0 x1 x2 x3 x4).1 = -1 ∧ CInv (r_X4_feed σ x0 x1 x2 x3 x4).2 T S k t ∧ (∀ j, (r_X4_feed σ x0 x1 x2 x3 x4).2 6 j = σ 6 j)) ∧ ASame σ (r_X4_feed σ x0 x1 x2 x3 x4).2 := by
  have ht : σ 5 1 = N t := h.2.1
  have h5 : t ≤ 500 := h.2.2
  have hc : (σ 5 1 + 20 ≤ 500) ↔ t + 20 ≤ 500 := by
    rw [ht]
    show (N t + N 20 ≤ N 500) ↔ _
    rw [N_add, N_le (by omega) (by decide)]
  unfold r_X4_feed
  by_cases g : t + 20 ≤ 500
  · have e1 : t_X4_feed_1 σ x0 x1 x2 x3 x4 = s_X3_append (s_X3_append (s_X3_append (s_X3_append (s_X3_append σ x0) x1) x2) x3) x4 := rfl
    rw [if_pos (hc.mpr g), e1]
    obtain ⟨b1, c1, d1⟩ := append_ok (x := x0) ht (by omega)
    obtain ⟨b2, c2, d2⟩ := append_ok (x := x1) b1 (by omega)
    obtain ⟨b3, c3, d3⟩ := append_ok (x := x2) b2 (by omega)
    obtain ⟨b4, c4, d4⟩ := append_ok (x := x3) b3 (by omega)
    obtain ⟨b5, c5, d5⟩ := append_ok (x := x4) b4 (by omega)
    have hF := (((c1.tr c2).tr c3).tr c4).tr c5
    have b5' : (s_X3_append (s_X3_append (s_X3_append (s_X3_append (s_X3_append σ x0) x1) x2) x3) x4) 5 1 = N (t + 20) := b5
    dsimp only
    refine ⟨fun _ => ⟨b5', CInv_A h hF b5' g, fun j => ?_⟩, fun z => absurd g z, hF⟩
    rw [d5, d4, d3, d2, d1]
    unfold gB20
    repeat' split
    all_goals first | rfl | omega | (congr 1; omega)
  · rw [if_neg (fun z => g (hc.mp z))]
    exact ⟨fun z => absurd z g, fun _ => ⟨rfl, h, fun _ => rfl⟩, fun _ _ _ _ => rfl⟩
theorem C_end {n : Int32} (h : CInv σ T S k t) : (∀ a, n = N a → a ≤ t → (r_X4_end σ n).1 = 1 ∧ CInv (r_X4_end σ n).2 T S k a) ∧ ((∀ a, n = N a → ¬ a ≤ t) → (r_X4_end σ n).1 = 0 ∧ CInv (r_X4_end σ n).2 T S k t) ∧ ASame σ (r_X4_end σ n).2 ∧ (∀ j, (r_X4_end σ n).2 6 j = σ 6 j) := by
  have ht : σ 5 1 = N t := h.2.1
  have h5 : t ≤ 500 := h.2.2
  unfold r_X4_end
  by_cases g : n < 0
  · rw [if_pos g]
    refine ⟨fun a e ha => absurd g (by rw [e]; exact N_nn (by omega)), fun _ => ⟨rfl, h⟩, fun _ _ _ _ => rfl, fun _ => rfl⟩
  rw [if_neg g, ht]
  obtain ⟨a, ha, rfl⟩ := ex_nn g
  by_cases g2 : a ≤ t
  · rw [if_pos (g_le g2 (by omega))]
    dsimp only
    have hF : ASame σ (sg_up σ 5 1 (N a)) := fun q k _ h2 => up_ne h2
    refine ⟨fun b e hb => ?_, fun z => absurd g2 (z a rfl), hF, fun j => by rw [up_c (by decide)]⟩
    have eb : a = b := (N_eq ha (by omega)).mp e
    subst eb
    exact ⟨rfl, CInv_A h hF up_eq (by omega)⟩
  · rw [if_neg (g_nle (by omega) ha)]
    refine ⟨fun b e hb => ?_, fun _ => ⟨rfl, h⟩, fun _ _ _ _ => rfl, fun _ => rfl⟩
    have eb : a = b := (N_eq ha (by omega)).mp e
    omega
/-! the LOG is emptied -/
theorem cempty_ok {T' S' : Nat → Nat} (hT : TabAt σ 2 T') (hK : TabOK T') (hS : SetAt σ 4 S') (hSK : SetOK S') : CSt T' S' (s_X4_emptyLog σ) 0 ∧ (∀ q j, ¬ (7 ≤ q ∧ q ≤ 19) → ¬ (q = 0 ∧ j = 6) → s_X4_emptyLog σ q j = σ q j) := by
  obtain ⟨r1, r2⟩ := crestart_ok (σ := sg_up σ 0 6 0) (c := 7) (by decide) (TabAt_up hT (by decide)) hK (SetAt_up hS (by decide)) hSK
  have hs : ∀ q j, ¬ (7 ≤ q ∧ q ≤ 19) → ¬ (q = 0 ∧ j = 6) → s_X4_emptyLog σ q j = σ q j := fun q j h1 h2 => (r2 q j h1).trans (up_ne h2)
  exact ⟨⟨(r2 0 6 (by decide)).trans up_eq, by decide, begn T' S', rfl, r1⟩, hs⟩
theorem C_table (h : CInv σ T S k t) : (∃ T' k', CInv (r_X4_table σ).2 T' S k' 0) ∧ HiS σ (r_X4_table σ).2 := by
  obtain ⟨⟨a1, a2, x, a3, a4⟩, ht, h5⟩ := id h
  obtain ⟨r1, V, r2, r3⟩ := ctab_ok h5 ht a4.1 a4.2.1
  have hS1 : ∀ q j, ¬ q = 3 → ¬ (q = 5 ∧ 1 ≤ j ∧ j ≤ 4) → ¬ (q = 0 ∧ (j = 7 ∨ j = 8)) → (sg_up (t_X4_table_0 σ) 5 1 0) q j = σ q j := fun q j h1 h2 h3 => by
    unfold t_X4_table_0
    rw [up_ne (by omega), up_ne (by omega), r1 q j h1 (by omega) h3]
  have h07 : (sg_up (t_X4_table_0 σ) 5 1 0) 0 7 = (r_X4_readTable σ).1 := by
    unfold t_X4_table_0
    rw [up_c (by decide), up_eq]
  have hhi : HiS σ (sg_up (t_X4_table_0 σ) 5 1 0) := fun q j hq => hS1 q j (by omega) (by omega) (by omega)
  unfold r_X4_table
  by_cases g : (sg_up (t_X4_table_0 σ) 5 1 0) 0 7 = 0
  · rw [if_pos g]
    rw [h07] at g
    have hV : TabAt (sg_up (t_X4_table_0 σ) 5 1 0) 3 V := by
      unfold t_X4_table_0
      exact TabAt_up (TabAt_up r2 (by decide)) (by decide)
    obtain ⟨c1, c2⟩ := adopt2 600 0 (sg_up (t_X4_table_0 σ) 5 1 0) (by decide) (by decide) hV (fun i hi => by omega)
    have c1 : TabAt (t_X4_table_1 σ) 2 V := c1
    have c2 : ∀ q j, ¬ q = 2 → t_X4_table_1 σ q j = (sg_up (t_X4_table_0 σ) 5 1 0) q j := c2
    have hS4 : SetAt (t_X4_table_1 σ) 4 S := fun j hj => by
      rw [c2 4 j (by decide), hS1 4 j (by decide) (by omega) (by omega)]; exact a4.2.2.1 j hj
    obtain ⟨e1, e2⟩ := cempty_ok c1 (r3 g) hS4 a4.2.2.2.1
    dsimp only
    refine ⟨⟨V, 0, e1, ?_, by decide⟩, fun q j hq => ?_⟩
    · rw [e2 5 1 (by decide) (by decide), c2 5 1 (by decide), up_eq]; rfl
    · rw [e2 q j (by omega) (by omega), c2 q j (by omega)]; exact hhi q j hq
  · rw [if_neg g]
    dsimp only
    refine ⟨⟨T, k, CSt_fr h.1 (hS1 0 6 (by decide) (by decide) (by decide)) (fun j _ => ⟨hS1 33 j (by decide) (by omega) (by omega), hS1 34 j (by decide) (by omega) (by omega)⟩) (fun q j hq => hS1 q j (by omega) (by omega) (by omega)), up_eq, by decide⟩, hhi⟩
theorem C_events (h : CInv σ T S k t) : (∃ k', CInv (r_X4_events σ).2 T S k' 0) ∧ HiS σ (r_X4_events σ).2 := by
  obtain ⟨hst, ht, h5⟩ := id h
  have h1 : CSt T S (s_X3_rewind (sg_up σ 0 7 0)) k := CSt_K (CSt_fr hst (by rw [up_k (by decide)]) (fun j _ => ⟨by rw [up_c (by decide)], by rw [up_c (by decide)]⟩) (fun q j hq => by rw [up_c (by omega)])) K_rewind
  obtain ⟨b1, b2, x, b3, b4⟩ := id h1
  have h6 : σ 0 6 = N k := hst.1
  obtain ⟨i1, i2⟩ := cev19 (T := T) (S := S) (k0 := k) b2 (x0 := x) 600 0 k (s_X3_rewind (sg_up σ 0 7 0)) (by decide) (by decide) (Nat.le_refl _) h1 b3
  unfold r_X4_events
  rw [h6]
  exact ⟨i1, ((HiS_u (by decide)).tr K_rewind.hi).tr i2⟩
/-! set -/
theorem allows_iff {x0 x1 : Int32} (hS : SetAt σ 4 S) (hSK : SetOK S) : (¬ v_X2_allows σ x0 x1 = 0 ∧ ¬ v_X2_setting σ x0 = x1) ↔ ∃ s v, x0 = N s ∧ x1 = N v ∧ setC S s v := by
  obtain ⟨s1, s2, s3, s4, s5, s6, s7⟩ := id hSK
  have key : ∀ s v : Nat, s < 5 → v < 2147483648 → (¬ v_X2_allows σ (N s) (N v) = 0 ↔ ((s = 0 ∨ s = 2 → 1 ≤ v ∧ v ≤ 20) ∧ (s = 1 → 1 ≤ v ∧ v ≤ 400) ∧ (s = 3 → v + S 4 ≤ 20) ∧ (s = 4 → v + S 3 ≤ 20))) := by
    intro s v hs hv
    unfold v_X2_allows
    rw [if_neg (N_nn (by omega)), if_neg (by exact g_nle (L := 5) hs (by decide)), ni_N (by omega), hS 3 (by decide), hS 4 (by decide)]
    have lo1 : (N v < N 1) ↔ v < 1 := N_lt hv (by decide)
    have lo0 : (N v < N 0) ↔ v < 0 := N_lt hv (by decide)
    have hi20 : (N v ≤ N 20) ↔ v ≤ 20 := N_le hv (by decide)
    have hi400 : (N v ≤ N 400) ↔ v ≤ 400 := N_le hv (by decide)
    rcases (show s = 0 ∨ s = 1 ∨ s = 2 ∨ s = 3 ∨ s = 4 by omega) with rfl | rfl | rfl | rfl | rfl
    · show ¬ (if N v < N 1 then (0 : Int32) else (if N v ≤ N 20 then (if ¬ N 0 = 3 then (if ¬ N 0 = 4 then 1 else _) else _) else 0)) = 0 ↔ _
      by_cases g1 : N v < N 1
      · rw [if_pos g1]; rw [lo1] at g1; exact ⟨fun z => absurd rfl z, fun z => by omega⟩
      rw [if_neg g1]; rw [lo1] at g1
      by_cases g2 : N v ≤ N 20
      · rw [if_pos g2, if_pos (by decide), if_pos (by decide)]; rw [hi20] at g2
        exact ⟨fun _ => ⟨fun _ => by omega, fun z => by omega, fun z => by omega, fun z => by omega⟩, fun _ => one_nz⟩
      · rw [if_neg g2]; rw [hi20] at g2; exact ⟨fun z => absurd rfl z, fun z => by omega⟩
    · show ¬ (if N v < N 1 then (0 : Int32) else (if N v ≤ N 400 then (if ¬ N 1 = 3 then (if ¬ N 1 = 4 then 1 else _) else _) else 0)) = 0 ↔ _
      by_cases g1 : N v < N 1
      · rw [if_pos g1]; rw [lo1] at g1; exact ⟨fun z => absurd rfl z, fun z => by omega⟩
      rw [if_neg g1]; rw [lo1] at g1
      by_cases g2 : N v ≤ N 400
      · rw [if_pos g2, if_pos (by decide), if_pos (by decide)]; rw [hi400] at g2
        exact ⟨fun _ => ⟨fun z => by omega, fun _ => by omega, fun z => by omega, fun z => by omega⟩, fun _ => one_nz⟩
      · rw [if_neg g2]; rw [hi400] at g2; exact ⟨fun z => absurd rfl z, fun z => by omega⟩
    · show ¬ (if N v < N 1 then (0 : Int32) else (if N v ≤ N 20 then (if ¬ N 2 = 3 then (if ¬ N 2 = 4 then 1 else _) else _) else 0)) = 0 ↔ _
      by_cases g1 : N v < N 1
      · rw [if_pos g1]; rw [lo1] at g1; exact ⟨fun z => absurd rfl z, fun z => by omega⟩
      rw [if_neg g1]; rw [lo1] at g1
      by_cases g2 : N v ≤ N 20
      · rw [if_pos g2, if_pos (by decide), if_pos (by decide)]; rw [hi20] at g2
        exact ⟨fun _ => ⟨fun _ => by omega, fun z => by omega, fun z => by omega, fun z => by omega⟩, fun _ => one_nz⟩
      · rw [if_neg g2]; rw [hi20] at g2; exact ⟨fun z => absurd rfl z, fun z => by omega⟩
    · show ¬ (if N v < N 0 then (0 : Int32) else (if N v ≤ N 20 then (if ¬ N 3 = 3 then _ else (if N 20 < N v + N (S 4) then 0 else 1)) else 0)) = 0 ↔ _
      rw [if_neg (by rw [lo0]; omega)]
      by_cases g2 : N v ≤ N 20
      · rw [if_pos g2, if_neg (fun z => z rfl), N_add]; rw [hi20] at g2
        by_cases g3 : 20 < v + S 4
        · rw [if_pos (g_lt g3 (by omega))]; exact ⟨fun z => absurd rfl z, fun z => by omega⟩
        · rw [if_neg (g_nlt (by omega) (by decide))]
          exact ⟨fun _ => ⟨fun z => by omega, fun z => by omega, fun _ => by omega, fun z => by omega⟩, fun _ => one_nz⟩
      · rw [if_neg g2]; rw [hi20] at g2; exact ⟨fun z => absurd rfl z, fun z => by omega⟩
    · show ¬ (if N v < N 0 then (0 : Int32) else (if N v ≤ N 20 then (if ¬ N 4 = 3 then (if ¬ N 4 = 4 then 1 else (if N 20 < N v + N (S 3) then 0 else 1)) else _) else 0)) = 0 ↔ _
      rw [if_neg (by rw [lo0]; omega)]
      by_cases g2 : N v ≤ N 20
      · rw [if_pos g2, if_pos (by decide), if_neg (fun z => z rfl), N_add]; rw [hi20] at g2
        by_cases g3 : 20 < v + S 3
        · rw [if_pos (g_lt g3 (by omega))]; exact ⟨fun z => absurd rfl z, fun z => by omega⟩
        · rw [if_neg (g_nlt (by omega) (by decide))]
          exact ⟨fun _ => ⟨fun z => by omega, fun z => by omega, fun z => by omega, fun _ => by omega⟩, fun _ => one_nz⟩
      · rw [if_neg g2]; rw [hi20] at g2; exact ⟨fun z => absurd rfl z, fun z => by omega⟩
  have low : ¬ v_X2_allows σ x0 x1 = 0 → ∃ s v, x0 = N s ∧ s < 5 ∧ x1 = N v ∧ v < 2147483648 := by
    intro h
    unfold v_X2_allows at h
    by_cases g1 : x0 < 0
    · rw [if_pos g1] at h; exact absurd rfl h
    rw [if_neg g1] at h
    by_cases g2 : (5 : Int32) ≤ x0
    · rw [if_pos g2] at h; exact absurd rfl h
    rw [if_neg g2] at h
    obtain ⟨s, hs, rfl⟩ := ex_nle 5 g1 g2 (by decide)
    have hx : ¬ x1 < 0 := by
      intro hz
      rw [if_pos ?_] at h
      · exact absurd rfl h
      · rw [ni_N (by omega)]
        rcases (show s = 0 ∨ s = 1 ∨ s = 2 ∨ s = 3 ∨ s = 4 by omega) with rfl | rfl | rfl | rfl | rfl
        · exact Int32.lt_trans hz (show (0 : Int32) < 1 by decide)
        · exact Int32.lt_trans hz (show (0 : Int32) < 1 by decide)
        · exact Int32.lt_trans hz (show (0 : Int32) < 1 by decide)
        · exact hz
        · exact hz
    obtain ⟨v, hv, rfl⟩ := ex_nn hx
    exact ⟨s, v, rfl, hs, rfl, hv⟩
  constructor
  · rintro ⟨h1, h2⟩
    obtain ⟨s, v, rfl, hs, rfl, hv⟩ := low h1
    have hk := (key s v hs hv).mp h1
    rw [setting_k hS hs] at h2
    exact ⟨s, v, rfl, rfl, hs, fun z => h2 (by rw [z]), hk⟩
  · rintro ⟨s, v, rfl, rfl, hs, hne, hc⟩
    have hb : v < 2147483648 := by
      rcases (show s = 0 ∨ s = 1 ∨ s = 2 ∨ s = 3 ∨ s = 4 by omega) with rfl | rfl | rfl | rfl | rfl
      · have := hc.1 (Or.inl rfl); omega
      · have := hc.2.1 rfl; omega
      · have := hc.1 (Or.inr rfl); omega
      · have := hc.2.2.1 rfl; omega
      · have := hc.2.2.2 rfl; omega
    refine ⟨(key s v hs hb).mpr hc, ?_⟩
    rw [setting_k hS hs]
    have hSs : S s ≤ 400 := by
      rcases (show s = 0 ∨ s = 1 ∨ s = 2 ∨ s = 3 ∨ s = 4 by omega) with rfl | rfl | rfl | rfl | rfl <;> omega
    rw [N_eq (by omega) hb]
    exact hne
theorem C_clear (h : CInv σ T S k t) : CInv (r_X4_clear σ).2 T S 0 t ∧ HiS σ (r_X4_clear σ).2 := by
  obtain ⟨⟨a1, a2, x, a3, a4⟩, ht, h5⟩ := id h
  obtain ⟨e1, e2⟩ := cempty_ok a4.1 a4.2.1 a4.2.2.1 a4.2.2.2.1
  unfold r_X4_clear
  dsimp only
  exact ⟨⟨e1, by rw [e2 5 1 (by decide) (by decide)]; exact ht, h5⟩, fun q j hq => e2 q j (by omega) (by omega)⟩
/-! how it was -/
theorem CInv_20 {σ' : sg_S} (h : CInv σ T S k t) (hs : CSame 20 σ σ') : CInv σ' T S k t ∧ HiS σ σ' :=
  ⟨⟨CSt_fr h.1 (hs 0 6 (by decide)) (fun j _ => ⟨hs 33 j (by decide), hs 34 j (by decide)⟩) (fun q j hq => hs q j (by omega)), by rw [hs 5 1 (by decide)]; exact h.2.1, h.2.2⟩, hs.hi (by decide)⟩
theorem cahead9 {y : mS} (hk : k ≤ 400) : ∀ (n j : Nat) (σ : sg_S) (x : mS), j ≤ k → k - j < n → σ 0 6 = N k → CAt σ 20 T S x.1 x.2.1 x.2.2 → mrun T S (σ 33) (σ 34) j = some x → mrun T S (σ 33) (σ 34) k = some y → CSame 20 σ (r_X4_firstAhead_l9 n σ (N j)).2 := by
  intro n
  induction n with
  | zero => intro j σ x _ hn; omega
  | succ n ih =>
    intro j σ x hj hn h6 hR hx hy
    show CSame 20 σ (r_X4_firstAhead_b9 (r_X4_firstAhead_l9 n) σ (N j)).2
    unfold r_X4_firstAhead_b9
    rw [h6]
    by_cases e : j = k
    · rw [if_pos (by rw [e]; exact Int32.le_refl _)]; exact CSame.rf
    · rw [if_neg (g_nle (by omega) (by omega)), if_neg (by exact g_nle (L := 400) (by omega) (by decide)), ni_N (by omega), N_inc]
      obtain ⟨z, hz⟩ := mrun_le' hy (j := j + 1) (by omega)
      have hst := hz
      rw [mrun_some hx] at hst
      obtain ⟨g1, g4⟩ := take_ok (y := z) (by decide) hR (mrun_OK hR.2.1 hR.2.2.2.1 j x hx) (by omega) (show stp T (S 1) (x.1, x.2.1, x.2.2) (σ 33 j) (σ 34 j) = some z from hst)
      have r33 := g4.row (q := 33) (by decide)
      have r34 := g4.row (q := 34) (by decide)
      have i := g4.tr (ih (j + 1) (s_X0_take σ 20 (σ 33 j) (σ 34 j)) z (by omega) (by omega) (by rw [g4 0 6 (by decide)]; exact h6) g1 (by rw [r33, r34]; exact hz) (by rw [r33, r34]; exact hy))
      repeat' split
      all_goals first | exact i | exact g4
/-! blocks -/
theorem bo17 {x1 x2 x3 : Int32} : ∀ (n j : Nat) (x4 x5 : Int32), j ≤ 3 → 3 - j < n → v_X2_blockOvers_l17 σ n x1 x2 x3 x4 x5 (N j) = x3 / 20 + 0 ∨ v_X2_blockOvers_l17 σ n x1 x2 x3 x4 x5 (N j) = x3 / 20 + 1 := by
  intro n
  induction n with
  | zero => intro j x4 x5 _ hn; omega
  | succ n ih =>
    intro j x4 x5 hj hn
    show v_X2_blockOvers_b17 σ (v_X2_blockOvers_l17 σ n) x1 x2 x3 x4 x5 (N j) = _ ∨ v_X2_blockOvers_b17 σ (v_X2_blockOvers_l17 σ n) x1 x2 x3 x4 x5 (N j) = _
    unfold v_X2_blockOvers_b17
    by_cases e : j = 3
    · have hc : (3 : Int32) ≤ N j := (N14 (L := 3) hj (by decide)).mpr e
      rw [if_pos hc]
      split
      · exact Or.inl rfl
      · exact Or.inr rfl
    · have hc : ¬ (3 : Int32) ≤ N j := fun z => e ((N14 (L := 3) hj (by decide)).mp z)
      rw [if_neg hc, N_inc]
      repeat' split
      all_goals exact ih (j + 1) _ _ (by omega) (by omega)
theorem share_eq {j : Nat} (hS : SetAt σ 4 S) (hSK : SetOK S) (hj : j < 3) : v_X2_shareOf σ (N j) = N (shr S j) := by
  have h34 := hSK.2.2.2.2.2.2
  unfold v_X2_shareOf shr
  rw [hS 3 (by decide), hS 4 (by decide)]
  rcases (show j = 0 ∨ j = 1 ∨ j = 2 by omega) with rfl | rfl | rfl
  · rw [if_neg (fun z => z rfl), if_pos rfl]
  · rw [if_pos (by decide), if_neg (fun z => z rfl), if_neg (by decide), if_pos rfl]
  · rw [if_pos (by decide), if_pos (by decide), if_neg (by decide), if_neg (by decide), show (20 : Int32) = N 20 from rfl, N_sub (by omega), N_sub (by omega)]
theorem bo_N {o j : Nat} (hS : SetAt σ 4 S) (hSK : SetOK S) (ho : o ≤ 20) (hj : j < 3) : ∃ b, b ≤ 21 ∧ v_X2_blockOvers σ (N o) (N j) = N b := by
  have hsh : shr S j ≤ 20 := by
    have h34 := hSK.2.2.2.2.2.2
    unfold shr
    repeat' split
    all_goals omega
  have hm : o * shr S j ≤ 20 * 20 := Nat.mul_le_mul ho hsh
  have e : N o * v_X2_shareOf σ (N j) = N (o * shr S j) := by rw [share_eq hS hSK hj, N_mul]
  have ed : N (o * shr S j) / 20 = N (o * shr S j / 20) := N_div (b := 20) (by omega) (by decide)
  have h := bo17 (σ := σ) (x1 := N o) (x2 := N j) (x3 := N (o * shr S j)) 600 0 (N o) 0 (by decide) (by decide)
  unfold v_X2_blockOvers
  rw [e]
  rcases h with h | h
  · exact ⟨o * shr S j / 20, by omega, h.trans (by rw [ed, Int32.add_zero])⟩
  · exact ⟨o * shr S j / 20 + 1, by omega, h.trans (by rw [ed, N_inc])⟩
theorem bf75 {c f r4 : Nat} {x3 x6 : Int32} (hf : f < 1000) : p_X0_blockFact_l75 σ c 600 x3 r4 x6 0 (N f) := by
  by_cases e : f ≤ 20
  · exact q_X0_blockFact_l75 σ c 600 f x3 r4 x6 0 e (by omega)
  · show p_X0_blockFact_b75 σ c (p_X0_blockFact_l75 σ c 599) x3 r4 x6 0 (N f)
    intro _ z
    exact absurd (show (20 : Int32) ≤ N f from g_le (a := 20) (by omega) (by omega)) z
theorem bf13 {c o kk r4 : Nat} {x3 : Int32} (hS : SetAt σ 4 S) (hSK : SetOK S) (ho : o ≤ 20) (hr : σ r4 3 = N o) (hk : kk < 3) : ∀ (n j f : Nat), j ≤ 3 → 3 - j < n → f ≤ 21 * j → p_X0_blockFact_l13 σ c n (N kk) x3 r4 (N f) (N j) := by
  intro n
  induction n with
  | zero => intro j f _ hn; omega
  | succ n ih =>
    intro j f hj hn hf
    show p_X0_blockFact_b13 σ c (p_X0_blockFact_l13 σ c n) (N kk) x3 r4 (N f) (N j)
    unfold p_X0_blockFact_b13
    rw [hr]
    have h1 : p_X2_blockOvers σ (N o) (N kk) ∧ p_X0_blockFact_l75 σ c 600 x3 r4 (N f + v_X2_blockOvers σ (N o) (N kk)) 0 (N f) := ⟨q_X2_blockOvers _ _ _, bf75 (by omega)⟩
    refine ⟨fun _ => h1, fun _ => ⟨fun _ => h1, fun z => ⟨q_X2_blockOvers _ _ _, ?_⟩⟩⟩
    have z : ¬ N 3 ≤ N j := z
    rw [N_le (by decide) (by omega)] at z
    obtain ⟨b, hb, eb⟩ := bo_N (j := j) hS hSK ho (by omega)
    rw [eb, N_add, N_inc]
    exact ih (j + 1) (f + b) (by omega) (by omega) (by omega)
theorem blockFact_p {c i kk : Nat} {x2 : Int32} {now t' : Nat} {D : Nat → Nat → Nat} (h : CAt σ c T S now t' D) (hi : i < 2) (hI : InnOK T k (D i)) (hk : kk < 3) : p_X0_blockFact σ c (N i) (N kk) x2 := by
  unfold p_X0_blockFact
  rw [side_eq hi]
  exact bf13 h.2.2.1 h.2.2.2.1 hI.2.1 (h.pic hi 3 (by decide)) hk 600 0 0 (by decide) (by decide) (by decide)
theorem C_inBlock {x0 x1 x2 : Int32} (h : CInv σ T S k t) : p_X4_inBlock σ x0 x1 x2 := by
  obtain ⟨⟨a1, a2, x, a3, a4⟩, ht, h5⟩ := id h
  have hO := mrun_OK a4.2.1 a4.2.2.2.1 k x a3
  intro hi hk _
  have hi' : ∃ i, x0 = N i ∧ i < 2 := by
    unfold v_X4_isSide at hi
    by_cases g1 : x0 = 0
    · exact ⟨0, g1, by decide⟩
    rw [if_neg g1] at hi
    by_cases g2 : x0 = 1
    · exact ⟨1, g2, by decide⟩
    · rw [if_pos g2] at hi; exact absurd rfl hi
  have hk' : ∃ j, x1 = N j ∧ j < 3 := by
    unfold v_X4_isBlock at hk
    by_cases g1 : x1 < 0
    · rw [if_pos g1] at hk; exact absurd rfl hk
    rw [if_neg g1] at hk
    by_cases g2 : (3 : Int32) ≤ x1
    · rw [if_pos g2] at hk; exact absurd rfl hk
    obtain ⟨j, hj, e⟩ := ex_nle 3 g1 g2 (by decide)
    exact ⟨j, e, hj⟩
  obtain ⟨i, rfl, hi2⟩ := hi'
  obtain ⟨j, rfl, hj⟩ := hk'
  exact blockFact_p a4 hi2 (hO.2.2.2.1 i hi2) hj
theorem C_broken {x0 : Int32} (h : CInv σ T S k t) : p_X4_broken σ x0 := by
  obtain ⟨⟨a1, a2, x, a3, a4⟩, ht, h5⟩ := id h
  have hO := mrun_OK a4.2.1 a4.2.2.2.1 k x a3
  refine fun _ _ => ⟨q_X4_result _, fun _ => fun _ => ⟨fun _ => ⟨?_, ?_⟩, fun _ => ⟨fun _ => ⟨q_X0_boundaries _, q_X0_boundaries _⟩, fun _ => ⟨q_X1_greatestOver _ _, q_X1_overFact _ _ _, q_X1_greatestOver _ _, q_X1_overFact _ _ _⟩⟩⟩⟩
  · exact blockFact_p (i := 0) (kk := 0) a4 (by decide) (hO.2.2.2.1 0 (by decide)) (by decide)
  · exact blockFact_p (i := 1) (kk := 0) a4 (by decide) (hO.2.2.2.1 1 (by decide)) (by decide)
end CCalls
end
