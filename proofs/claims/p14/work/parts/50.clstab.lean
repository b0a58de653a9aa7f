/-! THE CLASS READS: what its reading leaves -/
def KSame (σ σ' : sg_S) : Prop := ∀ q k, ¬ (q = 5 ∧ 2 ≤ k ∧ k ≤ 4) → σ' q k = σ q k
theorem KSame.rf {σ : sg_S} : KSame σ σ := fun _ _ _ => rfl
theorem KSame.tr {σ σ1 σ2 : sg_S} (h : KSame σ σ1) (h' : KSame σ1 σ2) : KSame σ σ2 := fun q k a => (h' q k a).trans (h q k a)
theorem KSame_u {σ : sg_S} {k0 : Nat} {v : Int32} (h : 2 ≤ k0 ∧ k0 ≤ 4) : KSame σ (sg_up σ 5 k0 v) := fun q k h1 => up_ne (by omega)
theorem KSame.row {σ σ' : sg_S} (h : KSame σ σ') {q : Nat} (h1 : ¬ q = 5) : σ' q = σ q := funext (fun k => h q k (fun z => h1 z.1))
theorem K_rewind {σ : sg_S} : KSame σ (s_X3_rewind σ) := (KSame_u (by decide)).tr (KSame_u (by decide))
theorem K_seek_l0 : ∀ (n : Nat) (σ : sg_S), KSame σ (r_X3_seek_l0 n σ).2 := by
  intro n
  induction n with
  | zero => intro σ; exact KSame.rf
  | succ n ih =>
    intro σ
    show KSame σ (r_X3_seek_b0 (r_X3_seek_l0 n) σ).2
    unfold r_X3_seek_b0
    have h4 : KSame σ (sg_up σ 5 2 (σ 5 4)) := KSame_u (by decide)
    have h5 := (KSame_u (σ := σ) (k0 := 4) (v := σ 5 4 + 1) (by decide)).tr (ih (sg_up σ 5 4 (σ 5 4 + 1)))
    repeat' split
    all_goals first | exact h4 | exact h5
theorem K_seek {σ : sg_S} : KSame σ (r_X3_seek σ).2 := K_seek_l0 600 σ
theorem K_take {σ : sg_S} : KSame σ (r_X3_takeByte σ).2 := by
  unfold r_X3_takeByte
  split
  · exact KSame.rf
  · exact KSame_u (by decide)
theorem K_readByte {σ : sg_S} {x : Int32} : KSame σ (r_X3_readByte σ x).2 := by
  unfold r_X3_readByte
  have h := (K_seek (σ := σ)).tr K_take
  split
  · exact K_seek
  split
  · exact h
  · exact h
theorem K_word_a59 {σ : sg_S} : (r_X3_readRowWord_a59 σ).2 = σ := by
  unfold r_X3_readRowWord_a59
  repeat' split
  all_goals rfl
theorem K_word_l9 : ∀ (n : Nat) (σ : sg_S), KSame σ (r_X3_readRowWord_l9 n σ).2 := by
  intro n
  induction n with
  | zero => intro σ; exact KSame.rf
  | succ n ih =>
    intro σ
    show KSame σ (r_X3_readRowWord_b9 (r_X3_readRowWord_l9 n) σ).2
    unfold r_X3_readRowWord_b9
    have h4 : KSame σ (r_X3_readRowWord_a59 σ).2 := by rw [K_word_a59]; exact KSame.rf
    have h5 := (KSame_u (σ := σ) (k0 := 4) (v := σ 5 4 + 1) (by decide)).tr (ih (sg_up σ 5 4 (σ 5 4 + 1)))
    repeat' split
    all_goals first | exact h4 | exact h5
theorem K_word {σ : sg_S} : KSame σ (r_X3_readRowWord σ).2 := by
  unfold r_X3_readRowWord
  split
  · exact K_seek.tr (K_word_l9 600 _)
  · exact K_seek
theorem K_num_l10 : ∀ (n : Nat) (σ : sg_S), KSame σ (r_X3_readNumber_l10 n σ).2 := by
  intro n
  induction n with
  | zero => intro σ; exact KSame.rf
  | succ n ih =>
    intro σ
    show KSame σ (r_X3_readNumber_b10 (r_X3_readNumber_l10 n) σ).2
    unfold r_X3_readNumber_b10
    have h5 : ∀ y : Int32, KSame σ (r_X3_readNumber_a65 (r_X3_readNumber_l10 n) σ y).2 := fun y => by
      unfold r_X3_readNumber_a65 t_X3_readNumber_0 t_X3_readNumber_2 t_X3_readNumber_1
      split
      · exact ((KSame_u (by decide)).tr (KSame_u (by decide))).tr (ih _)
      · exact ((KSame_u (by decide)).tr (KSame_u (by decide))).tr (ih _)
    repeat' split
    all_goals first | exact KSame.rf | exact h5 _
theorem K_num {σ : sg_S} : KSame σ (r_X3_readNumber σ).2 := by
  unfold r_X3_readNumber
  exact (K_seek.tr (KSame_u (by decide))).tr (K_num_l10 600 _)
/-! a table -/
def TSame (σ σ' : sg_S) : Prop := ∀ q k, ¬ q = 3 → ¬ (q = 5 ∧ 2 ≤ k ∧ k ≤ 4) → ¬ (q = 0 ∧ (k = 7 ∨ k = 8)) → σ' q k = σ q k
theorem TSame.rf {σ : sg_S} : TSame σ σ := fun _ _ _ _ _ => rfl
theorem TSame.tr {σ σ1 σ2 : sg_S} (h : TSame σ σ1) (h' : TSame σ1 σ2) : TSame σ σ2 := fun q k a b c => (h' q k a b c).trans (h q k a b c)
theorem KSame.t {σ σ' : sg_S} (h : KSame σ σ') : TSame σ σ' := fun q k _ h2 _ => h q k h2
theorem TSame_3 {σ : sg_S} {k0 : Nat} {v : Int32} : TSame σ (sg_up σ 3 k0 v) := fun q k h1 _ _ => up_c h1
theorem TSame_0 {σ : sg_S} {k0 : Nat} {v : Int32} (h : k0 = 7 ∨ k0 = 8) : TSame σ (sg_up σ 0 k0 v) := fun q k _ _ h3 => up_ne (by omega)
def CRow (σ : sg_S) (r : Int32 × sg_S) : Prop := TSame σ r.2 ∧ ∃ V, TabAt r.2 3 V ∧ GoodV V
theorem CRow_k {σ : sg_S} {V : Nat → Nat} {r : Int32 × sg_S} (hV : TabAt σ 3 V) (hG : GoodV V) (h : KSame σ r.2) : CRow σ r := ⟨h.t, V, TabAt_row hV (h.row (by decide)), hG⟩
theorem CRow.of {σ σ1 : sg_S} {r : Int32 × sg_S} (h : CRow σ1 r) (hs : TSame σ σ1) : CRow σ r := ⟨hs.tr h.1, h.2⟩
theorem propose_ok {σ : sg_S} {V : Nat → Nat} {x1 x3 : Int32} {k : Nat} (hV : TabAt σ 3 V) (hG : GoodV V) (hk : 1 ≤ k) (hk5 : k < 5) (hc : ¬ v_X2_canStandInRow (N k) x3 = 0) : TSame σ (s_X2_propose σ x1 (N k) x3) ∧ ∃ V', TabAt (s_X2_propose σ x1 (N k) x3) 3 V' ∧ GoodV V' := by
  unfold s_X2_propose
  by_cases g1 : x1 < 0
  · rw [if_pos g1]; exact ⟨TSame.rf, V, hV, hG⟩
  rw [if_neg g1]
  by_cases g2 : (10 : Int32) ≤ x1
  · rw [if_pos g2]; exact ⟨TSame.rf, V, hV, hG⟩
  rw [if_neg g2, if_neg (by
    show ¬ N k < N 1
    rw [N_lt (by omega) (by decide)]
    omega), if_neg (by exact g_nle (L := 5) hk5 (by decide))]
  obtain ⟨w, hw, rfl⟩ := ex_nle 10 g1 g2 (by decide)
  unfold v_X2_canStandInRow at hc
  rw [if_pos (N_nz (by omega) (by omega))] at hc
  by_cases c1 : x3 < 1
  · rw [if_pos c1] at hc; exact absurd rfl hc
  rw [if_neg c1] at hc
  by_cases c2 : (1000 : Int32) < x3
  · rw [if_pos c2] at hc; exact absurd rfl hc
  have hn : 1 ≤ ni x3 := by
    have hz : ¬ ni x3 < 1 := fun z => c1 ((lt_ni (a := 1) (by decide) (by decide)).mpr z)
    omega
  have e3 : N (ni x3) = x3 := ni_pos hn
  have h3 : ni x3 ≤ 1000 := by
    rw [← e3] at c2
    have hl := ni_lt (x := x3)
    have c2 : ¬ N 1000 < N (ni x3) := c2
    rw [N_lt (by decide) hl] at c2
    omega
  rw [show 5 * N w + N k = N (5 * w + k) by rw [show (5 : Int32) = N 5 from rfl, N_mul, N_add], ni_N (by omega), ← e3]
  exact ⟨TSame_3, _, TabAt_du hV, GoodV_du hG hw hk hk5 hn h3⟩
theorem crow20 : ∀ (n k : Nat) (σ : sg_S) (x1 : Int32) (V : Nat → Nat), k ≤ 5 → TabAt σ 3 V → GoodV V → CRow σ (r_X4_readRow_l20 n σ x1 (N k)) := by
  intro n
  induction n with
  | zero => intro k σ x1 V _ hV hG; exact CRow_k hV hG KSame.rf
  | succ n ih =>
    intro k σ x1 V hk hV hG
    show CRow σ (r_X4_readRow_b20 (r_X4_readRow_l20 n) σ x1 (N k))
    unfold r_X4_readRow_b20
    by_cases e : k = 5
    · have hc : (5 : Int32) ≤ N k := (N14 (L := 5) hk (by decide)).mpr e
      rw [if_pos hc]
      split
      · exact CRow_k hV hG K_readByte
      · exact CRow_k hV hG K_readByte
    · have hc : ¬ (5 : Int32) ≤ N k := fun z => e ((N14 (L := 5) hk (by decide)).mp z)
      rw [if_neg hc, N_inc]
      have hV1 : TabAt (r_X3_readNumber σ).2 3 V := TabAt_row hV (K_num.row (by decide))
      by_cases hr : ¬ (r_X3_readNumber σ).1 = 0
      · rw [if_pos hr]
        by_cases hs : ¬ v_X2_canStandInRow (N k) ((r_X3_readNumber σ).2 5 3) = 0
        · rw [if_pos hs]
          by_cases h0 : ¬ N k = 0
          · rw [if_pos h0]
            have hk1 : 1 ≤ k := by
              rcases Nat.eq_zero_or_pos k with z | z
              · rw [z] at h0; exact absurd rfl h0
              · exact z
            obtain ⟨p1, V', p2, p3⟩ := propose_ok (x1 := x1) hV1 hG hk1 (by omega) hs
            exact (ih (k + 1) _ _ V' (by omega) p2 p3).of (K_num.t.tr p1)
          · rw [if_neg h0]
            exact (ih (k + 1) _ _ V (by omega) hV1 hG).of K_num.t
        · rw [if_neg hs]; exact CRow_k hV hG K_num
      · rw [if_neg hr]; exact CRow_k hV hG K_num
theorem crow_ok {σ : sg_S} {V : Nat → Nat} (hV : TabAt σ 3 V) (hG : GoodV V) : CRow σ (r_X4_readRow σ) := by
  unfold r_X4_readRow
  split
  · exact (crow20 600 0 _ _ V (by decide) (TabAt_row hV (K_word.row (by decide))) hG).of K_word.t
  · exact CRow_k hV hG K_word
/-! the proposal holds -/
def Chk2 (V : Nat → Nat) (a : Nat) : Prop := (¬ a % 5 = 0 → V (a - 1) ≤ V a) ∧ (5 ≤ a → V a ≤ V (a - 5))
theorem GoodV_lt {V : Nat → Nat} (hG : GoodV V) {j : Nat} (hj : j < 50) : V j < 2147483648 := by
  by_cases z : j % 5 = 0
  · rw [(hG j hj).1 z]; decide
  · have := ((hG j hj).2 z).2; omega
theorem holds2 {σ : sg_S} {V : Nat → Nat} (hV : TabAt σ 3 V) (hG : GoodV V) : ∀ (n a : Nat), a ≤ 50 → 50 - a < n → (¬ v_X2_proposalHolds_l2 σ n (N a) = 0 ↔ ∀ j, a ≤ j → j < 50 → Chk2 V j) := by
  intro n
  induction n with
  | zero => intro a _ hn; omega
  | succ n ih =>
    intro a ha hn
    show ¬ v_X2_proposalHolds_b2 σ (v_X2_proposalHolds_l2 σ n) (N a) = 0 ↔ _
    unfold v_X2_proposalHolds_b2 v_X2_proposalHolds_a33
    by_cases e : a = 50
    · have hc : (50 : Int32) ≤ N a := (N14 (L := 50) ha (by decide)).mpr e
      rw [if_pos hc]
      exact ⟨fun _ j h1 h2 => by omega, fun _ => one_nz⟩
    have hc : ¬ (50 : Int32) ≤ N a := fun z => e ((N14 (L := 50) ha (by decide)).mp z)
    have i := ih (a + 1) (by omega) (by omega)
    have hall : Chk2 V a → (¬ v_X2_proposalHolds_l2 σ n (N (a + 1)) = 0 ↔ ∀ j, a ≤ j → j < 50 → Chk2 V j) := fun hck =>
      ⟨fun z j h1 h2 => by
        by_cases e2 : j = a
        · subst e2; exact hck
        · exact i.mp z j (by omega) h2, fun z => i.mpr (fun j h1 h2 => z j (by omega) h2)⟩
    have hno : ¬ Chk2 V a → (¬ (0 : Int32) = 0 ↔ ∀ j, a ≤ j → j < 50 → Chk2 V j) := fun hck => ⟨fun z => absurd rfl z, fun z => absurd (z a (by omega) (by omega)) hck⟩
    have e5 : rm (N a) 5 = N (a % 5) := N_rm (b := 5) (by omega) (by decide)
    rw [if_neg hc, N_inc, e5, ni_N (by omega), hV a (by omega)]
    have step2 : (¬ a % 5 = 0 → V (a - 1) ≤ V a) → (¬ (if N a < 5 then v_X2_proposalHolds_l2 σ n (N (a + 1)) else (if N (V a) ≤ σ 3 (ni (N a - 5)) then v_X2_proposalHolds_l2 σ n (N (a + 1)) else 0)) = 0 ↔ ∀ j, a ≤ j → j < 50 → Chk2 V j) := by
      intro h1
      by_cases g : a < 5
      · rw [if_pos (by exact g_lt (L := 5) g (by decide))]
        exact hall ⟨h1, fun z => by omega⟩
      · rw [if_neg (by
          show ¬ N a < N 5
          rw [N_lt (by omega) (by decide)]; exact g), show N a - 5 = N (a - 5) from N_sub (b := 5) (by omega), ni_N (by omega), hV (a - 5) (by omega)]
        by_cases g2 : V a ≤ V (a - 5)
        · rw [if_pos (g_le g2 (GoodV_lt hG (by omega)))]
          exact hall ⟨h1, fun _ => g2⟩
        · rw [if_neg (g_nle (by omega) (GoodV_lt hG (by omega)))]
          exact hno (fun z => g2 (z.2 (by omega)))
    by_cases g0 : a % 5 = 0
    · rw [if_pos (by rw [g0]; decide)]
      exact step2 (fun z => absurd g0 z)
    · rw [if_neg (by exact g_nle (a := 0) (by omega) (by omega)), show N a - 1 = N (a - 1) from N_sub (b := 1) (by omega), ni_N (by omega), hV (a - 1) (by omega)]
      by_cases g1 : V (a - 1) ≤ V a
      · rw [if_pos (g_le g1 (GoodV_lt hG (by omega)))]
        exact step2 (fun _ => g1)
      · rw [if_neg (g_nle (by omega) (GoodV_lt hG (by omega)))]
        exact hno (fun z => g1 (z.1 g0))
theorem Chk2_OK {V : Nat → Nat} (hG : GoodV V) (h : ∀ j, j < 50 → Chk2 V j) : TabOK V := by
  refine Chk_OK hG (fun w hw k hk1 hk5 => ?_)
  have c := h (5 * w + k) (by omega)
  refine ⟨c.1 (by omega), fun hw0 => ?_⟩
  have := c.2 (by omega)
  rw [show 5 * w + k - 5 = 5 * w - 5 + k by omega] at this
  exact this
theorem holds_OK {σ : sg_S} {V : Nat → Nat} (hV : TabAt σ 3 V) (hG : GoodV V) (h : ¬ v_X2_proposalHolds σ = 0) : TabOK V := Chk2_OK hG (fun j hj => (holds2 hV hG 600 0 (by decide) (by decide)).mp h j (by omega) hj)
/-- what a reading of a table leaves, if it found no fault -/
def CTab (σ : sg_S) (r : Int32 × sg_S) : Prop := TSame σ r.2 ∧ ∃ V, TabAt r.2 3 V ∧ (r.1 = 0 → TabOK V)
theorem ctab65 {σ : sg_S} {V : Nat → Nat} (hV : TabAt σ 3 V) (hG : GoodV V) (ht : ¬ 4 + 8 * σ 5 1 = 0) : CTab σ (r_X4_readTable_a65 σ) := by
  unfold r_X4_readTable_a65
  by_cases h : v_X2_proposalHolds σ = 0
  · rw [if_pos h]; exact ⟨TSame.rf, V, hV, fun z => absurd z ht⟩
  · rw [if_neg h]; exact ⟨TSame.rf, V, hV, fun _ => holds_OK hV hG h⟩
theorem ctab21 {t : Nat} (h5 : t ≤ 500) : ∀ (n k : Nat) (σ : sg_S) (V : Nat → Nat), k ≤ 500 → 500 - k < n → σ 5 1 = N t → TabAt σ 3 V → GoodV V → CTab σ (r_X4_readTable_l21 n σ (N k)) := by
  have hne : ¬ (4 : Int32) + 8 * N t = 0 := by
    rw [show (8 : Int32) = N 8 from rfl, show (4 : Int32) = N 4 from rfl, N_mul, N_add]
    exact N_nz (by omega) (by omega)
  intro n
  induction n with
  | zero => intro k σ V _ hn; omega
  | succ n ih =>
    intro k σ V hk hn ht hV hG
    show CTab σ (r_X4_readTable_b21 (r_X4_readTable_l21 n) σ (N k))
    unfold r_X4_readTable_b21
    by_cases e : k = 500
    · have hc : (500 : Int32) ≤ N k := (N14 (L := 500) hk (by decide)).mpr e
      rw [if_pos hc]
      exact ctab65 hV hG (by rw [ht]; exact hne)
    have hc : ¬ (500 : Int32) ≤ N k := fun z => e ((N14 (L := 500) hk (by decide)).mp z)
    rw [if_neg hc, N_inc]
    have hV1 : TabAt (r_X3_seek σ).2 3 V := TabAt_row hV (K_seek.row (by decide))
    have ht1 : (r_X3_seek σ).2 5 1 = N t := by rw [K_seek 5 1 (by decide)]; exact ht
    by_cases g : (r_X3_seek σ).1 = 0
    · rw [if_pos g]
      obtain ⟨a1, a2⟩ := ctab65 hV1 hG (by rw [ht1]; exact hne)
      exact ⟨K_seek.t.tr a1, a2⟩
    rw [if_neg g]
    obtain ⟨r1, V', r2, r3⟩ := crow_ok hV1 hG
    by_cases g2 : (r_X4_readRow (r_X3_seek σ).2).1 = 0
    · rw [if_pos g2]
      have hT : TSame σ (t_X4_readTable_1 σ (N k)) := (K_seek.t.tr r1).tr (TSame_0 (Or.inr rfl))
      obtain ⟨i1, i2⟩ := ih (k + 1) (t_X4_readTable_1 σ (N k)) V' (by omega) (by omega) (by
        rw [hT 5 1 (by decide) (by decide) (by decide)]; exact ht) (by
        unfold t_X4_readTable_1
        exact TabAt_up r2 (by decide)) r3
      exact ⟨hT.tr i1, i2⟩
    · rw [if_neg g2]
      exact ⟨K_seek.t.tr r1, V', r2, fun z => absurd z g2⟩
theorem beg2 {T : Nat → Nat} : ∀ (n j : Nat) (σ : sg_S), j ≤ 50 → 50 - j < n → TabAt σ 2 T → (∀ i, i < j → σ 3 i = N (T i)) → TabAt (s_X2_beginProposal_l2 n σ (N j)) 3 T ∧ (∀ q k, ¬ q = 3 → s_X2_beginProposal_l2 n σ (N j) q k = σ q k) := by
  intro n
  induction n with
  | zero => intro j σ _ hn; omega
  | succ n ih =>
    intro j σ hj hn hT hd
    show TabAt (s_X2_beginProposal_b2 (s_X2_beginProposal_l2 n) σ (N j)) 3 T ∧ (∀ q k, ¬ q = 3 → s_X2_beginProposal_b2 (s_X2_beginProposal_l2 n) σ (N j) q k = σ q k)
    unfold s_X2_beginProposal_b2
    by_cases e : j = 50
    · have hc : (50 : Int32) ≤ N j := (N14 (L := 50) hj (by decide)).mpr e
      rw [if_pos hc]
      exact ⟨fun i hi => hd i (by omega), fun _ _ _ => rfl⟩
    · have hc : ¬ (50 : Int32) ≤ N j := fun z => e ((N14 (L := 50) hj (by decide)).mp z)
      rw [if_neg hc, N_inc, ni_N (by omega), hT j (by omega)]
      obtain ⟨i1, i2⟩ := ih (j + 1) (sg_up σ 3 j (N (T j))) (by omega) (by omega) (TabAt_up hT (by decide)) (fun i hi => by
        by_cases e2 : i = j
        · subst e2; exact up_eq
        · rw [up_k e2]; exact hd i (by omega))
      exact ⟨i1, fun q k hq => (i2 q k hq).trans (up_c hq)⟩
theorem adopt2 {V : Nat → Nat} : ∀ (n j : Nat) (σ : sg_S), j ≤ 50 → 50 - j < n → TabAt σ 3 V → (∀ i, i < j → σ 2 i = N (V i)) → TabAt (s_X2_adoptProposal_l2 n σ (N j)) 2 V ∧ (∀ q k, ¬ q = 2 → s_X2_adoptProposal_l2 n σ (N j) q k = σ q k) := by
  intro n
  induction n with
  | zero => intro j σ _ hn; omega
  | succ n ih =>
    intro j σ hj hn hT hd
    show TabAt (s_X2_adoptProposal_b2 (s_X2_adoptProposal_l2 n) σ (N j)) 2 V ∧ (∀ q k, ¬ q = 2 → s_X2_adoptProposal_b2 (s_X2_adoptProposal_l2 n) σ (N j) q k = σ q k)
    unfold s_X2_adoptProposal_b2
    by_cases e : j = 50
    · have hc : (50 : Int32) ≤ N j := (N14 (L := 50) hj (by decide)).mpr e
      rw [if_pos hc]
      exact ⟨fun i hi => hd i (by omega), fun _ _ _ => rfl⟩
    · have hc : ¬ (50 : Int32) ≤ N j := fun z => e ((N14 (L := 50) hj (by decide)).mp z)
      rw [if_neg hc, N_inc, ni_N (by omega), hT j (by omega)]
      obtain ⟨i1, i2⟩ := ih (j + 1) (sg_up σ 2 j (N (V j))) (by omega) (by omega) (TabAt_up hT (by decide)) (fun i hi => by
        by_cases e2 : i = j
        · subst e2; exact up_eq
        · rw [up_k e2]; exact hd i (by omega))
      exact ⟨i1, fun q k hq => (i2 q k hq).trans (up_c hq)⟩
theorem ctab_ok {σ : sg_S} {T : Nat → Nat} {t : Nat} (h5 : t ≤ 500) (ht : σ 5 1 = N t) (hT : TabAt σ 2 T) (hK : TabOK T) : CTab σ (r_X4_readTable σ) := by
  obtain ⟨b1, b2⟩ := beg2 600 0 (sg_up σ 0 8 0) (by decide) (by decide) (TabAt_up hT (by decide)) (fun i hi => by omega)
  have hS : TSame σ (t_X4_readTable_0 σ) := fun q k h1 h2 h3 => by
    unfold t_X4_readTable_0
    rw [K_rewind q k h2]
    exact (b2 q k h1).trans (up_ne (by omega))
  have hV : TabAt (t_X4_readTable_0 σ) 3 T := by
    unfold t_X4_readTable_0
    exact TabAt_row b1 (K_rewind.row (by decide))
  obtain ⟨i1, i2⟩ := ctab21 h5 600 0 (t_X4_readTable_0 σ) T (by decide) (by decide) (by rw [hS 5 1 (by decide) (by decide) (by decide)]; exact ht) hV (Tab_good hK)
  exact ⟨hS.tr i1, i2⟩
