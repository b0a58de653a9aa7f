/-! TOKENS: where blanks, digits, letters end -/
noncomputable def skp (B : Nat → Int32) (n : Nat) : Nat → Nat := Nat.rec (motive := fun _ => Nat → Nat) (fun a => a) (fun _ ih a => if B a = 32 ∨ B a = 10 then ih (a + 1) else a) n
def isD (x : Int32) : Prop := 48 ≤ ni x ∧ ni x ≤ 57
def isA (x : Int32) : Prop := 97 ≤ ni x ∧ ni x ≤ 122
noncomputable def dgE (B : Nat → Int32) (n : Nat) : Nat → Nat := Nat.rec (motive := fun _ => Nat → Nat) (fun a => a) (fun _ ih a => if 48 ≤ ni (B a) ∧ ni (B a) ≤ 57 then ih (a + 1) else a) n
noncomputable def dgV (B : Nat → Int32) (p n : Nat) : Nat → Nat → Nat := Nat.rec (motive := fun _ => Nat → Nat → Nat) (fun _ v => v) (fun _ ih a v => if 48 ≤ ni (B a) ∧ ni (B a) ≤ 57 then ih (a + 1) (if 4 ≤ a - p then v else 10 * v + (ni (B a) - 48)) else v) n
noncomputable def lwE (B : Nat → Int32) (n : Nat) : Nat → Nat := Nat.rec (motive := fun _ => Nat → Nat) (fun a => a) (fun _ ih a => if 97 ≤ ni (B a) ∧ ni (B a) ≤ 122 then ih (a + 1) else a) n
section Tok
variable {B : Nat → Int32}
theorem skp_s {n a : Nat} : skp B (n + 1) a = if B a = 32 ∨ B a = 10 then skp B n (a + 1) else a := rfl
theorem dgE_s {n a : Nat} : dgE B (n + 1) a = if 48 ≤ ni (B a) ∧ ni (B a) ≤ 57 then dgE B n (a + 1) else a := rfl
theorem dgV_s {p n a v : Nat} : dgV B p (n + 1) a v = if 48 ≤ ni (B a) ∧ ni (B a) ≤ 57 then dgV B p n (a + 1) (if 4 ≤ a - p then v else 10 * v + (ni (B a) - 48)) else v := rfl
theorem lwE_s {n a : Nat} : lwE B (n + 1) a = if 97 ≤ ni (B a) ∧ ni (B a) ≤ 122 then lwE B n (a + 1) else a := rfl
theorem skp_le : ∀ (n a : Nat), a ≤ skp B n a ∧ skp B n a ≤ a + n := by
  intro n
  induction n with
  | zero => intro a; exact ⟨Nat.le_refl _, Nat.le_refl _⟩
  | succ n ih =>
    intro a
    rw [skp_s]
    split
    · have := ih (a + 1); omega
    · omega
theorem skp_at : ∀ (n a : Nat), skp B n a < a + n → ¬ (B (skp B n a) = 32 ∨ B (skp B n a) = 10) := by
  intro n
  induction n with
  | zero => intro a h; exact absurd h (Nat.lt_irrefl _)
  | succ n ih =>
    intro a h
    rw [skp_s] at h ⊢
    by_cases hc : B a = 32 ∨ B a = 10
    · rw [if_pos hc] at h ⊢
      exact ih (a + 1) (by omega)
    · rw [if_neg hc]
      exact hc
theorem skp_id {n a : Nat} (h : 0 < n → ¬ (B a = 32 ∨ B a = 10)) : skp B n a = a := by
  cases n with
  | zero => rfl
  | succ n => rw [skp_s, if_neg (h (by omega))]
theorem skp_skp {t a : Nat} (ha : a ≤ t) : skp B (t - skp B (t - a) a) (skp B (t - a) a) = skp B (t - a) a := by
  have h1 := skp_le (B := B) (t - a) a
  exact skp_id (fun h => skp_at (t - a) a (by omega))
theorem dgE_le : ∀ (n a : Nat), a ≤ dgE B n a ∧ dgE B n a ≤ a + n := by
  intro n
  induction n with
  | zero => intro a; exact ⟨Nat.le_refl _, Nat.le_refl _⟩
  | succ n ih =>
    intro a
    rw [dgE_s]
    split
    · have := ih (a + 1); omega
    · omega
theorem lwE_le : ∀ (n a : Nat), a ≤ lwE B n a ∧ lwE B n a ≤ a + n := by
  intro n
  induction n with
  | zero => intro a; exact ⟨Nat.le_refl _, Nat.le_refl _⟩
  | succ n ih =>
    intro a
    rw [lwE_s]
    split
    · have := ih (a + 1); omega
    · omega
def bd (j : Nat) : Nat := if j = 0 then 1 else if j = 1 then 10 else if j = 2 then 100 else if j = 3 then 1000 else 10000
theorem dgV_lt {p : Nat} : ∀ (n a v : Nat), p ≤ a → v < bd (a - p) → dgV B p n a v < 10000 := by
  intro n
  induction n with
  | zero =>
    intro a v _ h
    show v < 10000
    unfold bd at h
    repeat' split at h
    all_goals omega
  | succ n ih =>
    intro a v hp h
    rw [dgV_s]
    by_cases hc : 48 ≤ ni (B a) ∧ ni (B a) ≤ 57
    · rw [if_pos hc]
      refine ih (a + 1) _ (by omega) ?_
      obtain ⟨j, rfl⟩ := Nat.exists_eq_add_of_le hp
      rw [show p + j + 1 - p = j + 1 by omega, show p + j - p = j by omega] at *
      unfold bd at h ⊢
      repeat' split at h
      all_goals (repeat' split)
      all_goals omega
    · rw [if_neg hc]
      unfold bd at h
      repeat' split at h
      all_goals omega
theorem dgV_9999 {p n : Nat} : dgV B p n p 0 < 10000 := dgV_lt n p 0 (Nat.le_refl _) (by rw [Nat.sub_self]; decide)
end Tok
theorem in_ni {x : Int32} {lo hi : Nat} (hl : 1 ≤ lo) (h1 : lo < 2147483648) (h2 : hi < 2147483648) : (¬ v_X5_in x (N lo) (N hi) = 0) ↔ (lo ≤ ni x ∧ ni x ≤ hi) := by
  unfold v_X5_in
  have hx : ni x = x.toInt.toNat := rfl
  by_cases g1 : x < N lo
  · rw [if_pos g1]
    rw [Int32.lt_iff_toInt_lt, N_toInt h1] at g1
    exact ⟨fun z => absurd rfl z, fun z => by omega⟩
  rw [if_neg g1]
  rw [Int32.lt_iff_toInt_lt, N_toInt h1] at g1
  by_cases g2 : N hi < x
  · rw [if_pos g2]
    rw [Int32.lt_iff_toInt_lt, N_toInt h2] at g2
    exact ⟨fun z => absurd rfl z, fun z => by omega⟩
  rw [if_neg g2]
  rw [Int32.lt_iff_toInt_lt, N_toInt h2] at g2
  exact ⟨fun _ => by omega, fun _ => one_nz⟩
theorem in_nz {a lo hi : Nat} (h1 : lo ≤ a) (h2 : a ≤ hi) (h : hi < 2147483648) : ¬ v_X5_in (N a) (N lo) (N hi) = 0 := by
  unfold v_X5_in
  rw [if_neg (g_nlt h1 (by omega)), if_neg (g_nlt h2 h)]
  exact one_nz
theorem in_ex {x : Int32} {lo hi : Nat} (h1 : lo < 2147483648) (h2 : hi < 2147483648) (h : ¬ v_X5_in x (N lo) (N hi) = 0) : ∃ a, x = N a ∧ lo ≤ a ∧ a ≤ hi := by
  unfold v_X5_in at h
  by_cases g1 : x < N lo
  · rw [if_pos g1] at h; exact absurd rfl h
  rw [if_neg g1] at h
  by_cases g2 : N hi < x
  · rw [if_pos g2] at h; exact absurd rfl h
  have hx : ¬ x < 0 := by
    intro z
    apply g1
    rw [Int32.lt_iff_toInt_lt] at z ⊢
    rw [N_toInt h1]
    rw [show (0 : Int32).toInt = 0 from rfl] at z
    omega
  obtain ⟨a, ha, rfl⟩ := ex_nn hx
  rw [N_lt ha h1] at g1
  rw [N_lt h2 ha] at g2
  exact ⟨a, rfl, by omega, by omega⟩
theorem in_lo {a lo hi : Nat} (h : a < lo) (hl : lo < 2147483648) : v_X5_in (N a) (N lo) (N hi) = 0 := by
  unfold v_X5_in
  rw [if_pos (g_lt h hl)]
theorem in_hi {a lo hi : Nat} (h : hi < a) (ha : a < 2147483648) : v_X5_in (N a) (N lo) (N hi) = 0 := by
  unfold v_X5_in
  by_cases g : N a < N lo
  · rw [if_pos g]
  · rw [if_neg g, if_pos (g_lt h ha)]
theorem up_self {σ : sg_S} {q k : Nat} {v : Int32} (h : σ q k = v) : sg_up σ q k v = σ := by
  funext q' k'
  rw [up_ite]
  split
  · rename_i e
    rw [e.1, e.2, h]
  · rfl
theorem up_up {σ : sg_S} {q k : Nat} {v w : Int32} : sg_up (sg_up σ q k v) q k w = sg_up σ q k w := by
  funext q' k'
  simp only [up_ite]
  repeat' split
  all_goals first | rfl | omega
/-! the reference skips blanks -/
theorem here_l0 {t : Nat} (h5 : t ≤ 500) : ∀ (n a : Nat) (σ : sg_S), σ 35 28 = N a → σ 35 26 = N t → a ≤ t → t - a < n → p_X5_here_l0 n σ ∧ r_X5_here_l0 n σ = (if skp (σ 57) (t - a) a < t then σ 57 (skp (σ 57) (t - a) a) else -1, sg_up σ 35 28 (N (skp (σ 57) (t - a) a))) := by
  intro n
  induction n with
  | zero => intro a σ _ _ _ hn; omega
  | succ n ih =>
    intro a σ ha ht hat hn
    show p_X5_here_b0 (p_X5_here_l0 n) σ ∧ r_X5_here_b0 (r_X5_here_l0 n) σ = _
    unfold p_X5_here_b0 r_X5_here_b0
    rw [ha, ht, ni_N (show a < 2147483648 by omega)]
    by_cases e : a = t
    · subst e
      have hc : N a ≤ N a := Int32.le_refl _
      rw [if_pos hc, if_pos hc, Nat.sub_self, show skp (σ 57) 0 a = a from rfl, if_neg (Nat.lt_irrefl _), up_self ha]
      exact ⟨⟨fun _ z => absurd hc z, fun z => absurd hc z⟩, rfl⟩
    · have hc : ¬ N t ≤ N a := g_nle (by omega) (by omega)
      have hx : ix (N a) 500 := ix_N (by omega) (by decide)
      obtain ⟨d, hd⟩ : ∃ d, t - a = d + 1 := ⟨t - a - 1, by omega⟩
      have hd2 : t - (a + 1) = d := by omega
      rw [if_neg hc, if_neg hc]
      have hb : (σ 57 a = 32 ∨ σ 57 a = 10) → p_X5_here_l0 n (sg_up σ 35 28 (N a + 1)) ∧ r_X5_here_l0 n (sg_up σ 35 28 (N a + 1)) = (if skp (σ 57) (t - a) a < t then σ 57 (skp (σ 57) (t - a) a) else -1, sg_up σ 35 28 (N (skp (σ 57) (t - a) a))) := by
        intro hbl
        rw [N_inc]
        obtain ⟨i1, i2⟩ := ih (a + 1) (sg_up σ 35 28 (N (a + 1))) up_eq (by rw [up_k (by decide)]; exact ht) (by omega) (by omega)
        refine ⟨i1, ?_⟩
        have e57 : (sg_up σ 35 28 (N (a + 1))) 57 = σ 57 := funext (fun k => up_c (by decide))
        rw [i2, e57, hd2, hd, skp_s, if_pos hbl, up_up]
      by_cases g1 : σ 57 a = 32
      · rw [if_pos g1]
        obtain ⟨i1, i2⟩ := hb (Or.inl g1)
        exact ⟨⟨fun z => absurd z hc, fun _ => ⟨hx, fun _ => i1, fun z => absurd g1 z⟩⟩, i2⟩
      · rw [if_neg g1]
        by_cases g2 : σ 57 a = 10
        · rw [if_neg (fun z => z g2)]
          obtain ⟨i1, i2⟩ := hb (Or.inr g2)
          exact ⟨⟨fun z => absurd z hc, fun _ => ⟨hx, fun z => absurd z g1, fun _ => ⟨hx, fun z => absurd g2 z, fun _ => i1⟩⟩⟩, i2⟩
        · have hs : skp (σ 57) (t - a) a = a := skp_id (fun _ z => z.elim g1 g2)
          rw [if_pos g2, hs, if_pos (by omega), up_self ha]
          exact ⟨⟨fun z => absurd z hc, fun _ => ⟨hx, fun z => absurd z g1, fun _ => ⟨hx, fun _ _ => hx, fun z => absurd g2 z⟩⟩⟩, rfl⟩
theorem here_ok {σ : sg_S} {a t : Nat} (ha : σ 35 28 = N a) (ht : σ 35 26 = N t) (hat : a ≤ t) (h5 : t ≤ 500) : p_X5_here σ ∧ (r_X5_here σ).1 = (if skp (σ 57) (t - a) a < t then σ 57 (skp (σ 57) (t - a) a) else -1) ∧ (r_X5_here σ).2 = sg_up σ 35 28 (N (skp (σ 57) (t - a) a)) := by
  obtain ⟨h1, h2⟩ := here_l0 h5 600 a σ ha ht hat (by omega)
  have h2 : r_X5_here σ = _ := h2
  rw [h2]
  exact ⟨h1, rfl, rfl⟩
/-! the reference reads a number -/
def NSame (σ σ' : sg_S) : Prop := ∀ q k, ¬ (q = 35 ∧ (k = 28 ∨ k = 29 ∨ k = 30 ∨ k = 32)) → σ' q k = σ q k
theorem NSame.rf {σ : sg_S} : NSame σ σ := fun _ _ _ => rfl
theorem NSame.tr {σ σ1 σ2 : sg_S} (h : NSame σ σ1) (h' : NSame σ1 σ2) : NSame σ σ2 := fun q k a => (h' q k a).trans (h q k a)
theorem NSame.row {σ σ' : sg_S} (h : NSame σ σ') {q : Nat} (h1 : ¬ q = 35) : σ' q = σ q := funext (fun k => h q k (fun z => h1 z.1))
theorem NSame_u {σ : sg_S} {k0 : Nat} {v : Int32} (h : k0 = 28 ∨ k0 = 29 ∨ k0 = 30 ∨ k0 = 32) : NSame σ (sg_up σ 35 k0 v) := fun q k h1 => up_ne (by omega)
theorem rfails_eq {σ : sg_S} {kd p : Nat} : r_X5_fails σ (N kd) (N p) = (0, sg_up σ 35 29 (N (kd + 8 * p))) := by
  unfold r_X5_fails
  rw [show (8 : Int32) = N 8 from rfl, N_mul, N_add]
theorem rnum37 {t p : Nat} (h5 : t ≤ 500) : ∀ (n a v : Nat) (σ : sg_S), σ 35 28 = N a → σ 35 26 = N t → σ 35 32 = N p → σ 35 30 = N v → p ≤ a → a ≤ t → t - a < n →
    p_X5_readNumber_l37 n σ ∧ NSame σ (r_X5_readNumber_l37 n σ).2 ∧ (r_X5_readNumber_l37 n σ).2 35 28 = N (dgE (σ 57) (t - a) a) ∧ (r_X5_readNumber_l37 n σ).2 35 30 = N (dgV (σ 57) p (t - a) a v) ∧ (r_X5_readNumber_l37 n σ).2 35 32 = N p ∧
    (dgE (σ 57) (t - a) a - p ≤ 4 → (r_X5_readNumber_l37 n σ).1 = 1 ∧ (r_X5_readNumber_l37 n σ).2 35 29 = σ 35 29) ∧ (¬ dgE (σ 57) (t - a) a - p ≤ 4 → (r_X5_readNumber_l37 n σ).1 = 0 ∧ (r_X5_readNumber_l37 n σ).2 35 29 = N (2 + 8 * p)) := by
  intro n
  induction n with
  | zero => intro a v σ _ _ _ _ _ _ hn; omega
  | succ n ih =>
    intro a v σ ha ht hp hv hpa hat hn
    have hend : dgE (σ 57) (t - a) a = a → dgV (σ 57) p (t - a) a v = v → NSame σ (r_X5_readNumber_a124 σ).2 ∧ (r_X5_readNumber_a124 σ).2 35 28 = N (dgE (σ 57) (t - a) a) ∧ (r_X5_readNumber_a124 σ).2 35 30 = N (dgV (σ 57) p (t - a) a v) ∧ (r_X5_readNumber_a124 σ).2 35 32 = N p ∧
        (dgE (σ 57) (t - a) a - p ≤ 4 → (r_X5_readNumber_a124 σ).1 = 1 ∧ (r_X5_readNumber_a124 σ).2 35 29 = σ 35 29) ∧ (¬ dgE (σ 57) (t - a) a - p ≤ 4 → (r_X5_readNumber_a124 σ).1 = 0 ∧ (r_X5_readNumber_a124 σ).2 35 29 = N (2 + 8 * p)) := by
      intro e1 e2
      rw [e1, e2]
      unfold r_X5_readNumber_a124
      rw [ha, hp, N_sub hpa, show (2 : Int32) = N 2 from rfl, rfails_eq]
      by_cases g : a - p ≤ 4
      · rw [if_pos (by exact g_le (L := 4) g (by decide))]
        exact ⟨NSame.rf, ha, hv, hp, fun _ => ⟨rfl, rfl⟩, fun z => absurd g z⟩
      · rw [if_neg (by exact g_nle (a := 4) (by omega) (by omega)), if_pos rfl]
        dsimp only
        exact ⟨NSame_u (by decide), by rw [up_k (by decide)]; exact ha, by rw [up_k (by decide)]; exact hv, by rw [up_k (by decide)]; exact hp, fun z => absurd z g, fun _ => ⟨rfl, up_eq⟩⟩
    by_cases e : a = t
    · have hc : σ 35 26 ≤ σ 35 28 := by rw [ha, ht, e]; exact Int32.le_refl _
      have er : r_X5_readNumber_l37 (n + 1) σ = r_X5_readNumber_a124 σ := by
        show r_X5_readNumber_b37 (r_X5_readNumber_l37 n) σ = _
        unfold r_X5_readNumber_b37
        rw [if_pos hc]
      rw [er]
      refine ⟨fun z => absurd hc z, hend ?_ ?_⟩
      · rw [e, Nat.sub_self]; rfl
      · rw [e, Nat.sub_self]; rfl
    have hc : ¬ σ 35 26 ≤ σ 35 28 := by rw [ha, ht]; exact g_nle (by omega) (by omega)
    have hx : ix (σ 35 28) 500 := by rw [ha]; exact ix_N (by omega) (by decide)
    have hni : ni (σ 35 28) = a := by rw [ha]; exact ni_N (by omega)
    obtain ⟨d, hd⟩ : ∃ d, t - a = d + 1 := ⟨t - a - 1, by omega⟩
    have hd2 : t - (a + 1) = d := by omega
    have hin := in_ni (x := σ 57 a) (lo := 48) (hi := 57) (by decide) (by decide) (by decide)
    by_cases hD : 48 ≤ ni (σ 57 a) ∧ ni (σ 57 a) ≤ 57
    · have hz : ¬ v_X5_in (σ 57 (ni (σ 35 28))) 48 57 = 0 := by rw [hni]; exact hin.mpr hD
      have eE : dgE (σ 57) (t - a) a = dgE (σ 57) (t - (a + 1)) (a + 1) := by rw [hd, dgE_s, if_pos hD, hd2]
      have eV : dgV (σ 57) p (t - a) a v = dgV (σ 57) p (t - (a + 1)) (a + 1) (if 4 ≤ a - p then v else 10 * v + (ni (σ 57 a) - 48)) := by rw [hd, dgV_s, if_pos hD, hd2]
      rw [eE, eV]
      by_cases g4 : 4 ≤ a - p
      · have hc4 : (4 : Int32) ≤ σ 35 28 - σ 35 32 := by
          rw [ha, hp, N_sub hpa]; exact g_le (a := 4) g4 (by omega)
        have et : t_X5_readNumber_1 σ = sg_up σ 35 28 (N (a + 1)) := by
          unfold t_X5_readNumber_1
          rw [up_self rfl, ha, N_inc]
        have er : r_X5_readNumber_l37 (n + 1) σ = r_X5_readNumber_l37 n (sg_up σ 35 28 (N (a + 1))) := by
          show r_X5_readNumber_b37 (r_X5_readNumber_l37 n) σ = _
          unfold r_X5_readNumber_b37
          rw [if_neg hc, if_neg hz, if_pos hc4, et]
        have e57 : (sg_up σ 35 28 (N (a + 1))) 57 = σ 57 := funext (fun k => up_c (by decide))
        obtain ⟨i1, i2, i3, i4, i5, i6, i7⟩ := ih (a + 1) v (sg_up σ 35 28 (N (a + 1))) up_eq (by rw [up_k (by decide)]; exact ht) (by rw [up_k (by decide)]; exact hp) (by rw [up_k (by decide)]; exact hv) (by omega) (by omega) (by omega)
        rw [e57] at i3 i4 i6 i7
        rw [up_k (by decide)] at i6
        rw [er, if_pos g4]
        refine ⟨fun _ => ⟨hx, fun _ => ⟨fun _ => ?_, fun z => absurd hc4 z⟩⟩, (NSame_u (by decide)).tr i2, i3, i4, i5, i6, i7⟩
        show p_X5_readNumber_l37 n (t_X5_readNumber_1 σ)
        rw [et]; exact i1
      · have hc4 : ¬ (4 : Int32) ≤ σ 35 28 - σ 35 32 := by
          rw [ha, hp, N_sub hpa]; exact g_nle (L := 4) (by omega) (by decide)
        have eb : σ 57 a = N (48 + (ni (σ 57 a) - 48)) := by
          rw [show 48 + (ni (σ 57 a) - 48) = ni (σ 57 a) by omega]
          exact (ni_pos (by omega)).symm
        have ev : 10 * N v + σ 57 a - 48 = N (10 * v + (ni (σ 57 a) - 48)) := by
          rw [show (10 : Int32) = N 10 from rfl, show (48 : Int32) = N 48 from rfl, N_mul]
          rw [show N (10 * v) + σ 57 a = N (10 * v + (48 + (ni (σ 57 a) - 48))) by rw [← N_add, ← eb], N_sub (by omega)]
          congr 1
          omega
        have et : t_X5_readNumber_3 σ = sg_up (sg_up σ 35 30 (N (10 * v + (ni (σ 57 a) - 48)))) 35 28 (N (a + 1)) := by
          unfold t_X5_readNumber_3 t_X5_readNumber_2
          rw [hni, hv, ev, up_k (by decide), ha, N_inc]
        have er : r_X5_readNumber_l37 (n + 1) σ = r_X5_readNumber_l37 n (sg_up (sg_up σ 35 30 (N (10 * v + (ni (σ 57 a) - 48)))) 35 28 (N (a + 1))) := by
          show r_X5_readNumber_b37 (r_X5_readNumber_l37 n) σ = _
          unfold r_X5_readNumber_b37
          rw [if_neg hc, if_neg hz, if_neg hc4, et]
        have e57 : (sg_up (sg_up σ 35 30 (N (10 * v + (ni (σ 57 a) - 48)))) 35 28 (N (a + 1))) 57 = σ 57 := funext (fun k => by rw [up_c (by decide), up_c (by decide)])
        obtain ⟨i1, i2, i3, i4, i5, i6, i7⟩ := ih (a + 1) (10 * v + (ni (σ 57 a) - 48)) (sg_up (sg_up σ 35 30 (N (10 * v + (ni (σ 57 a) - 48)))) 35 28 (N (a + 1))) up_eq (by rw [up_k (by decide), up_k (by decide)]; exact ht) (by rw [up_k (by decide), up_k (by decide)]; exact hp) (by rw [up_k (by decide), up_eq]) (by omega) (by omega) (by omega)
        rw [e57] at i3 i4 i6 i7
        rw [up_k (by decide), up_k (by decide)] at i6
        rw [er, if_neg g4]
        refine ⟨fun _ => ⟨hx, fun _ => ⟨fun z => absurd z hc4, fun _ => ⟨hx, ?_⟩⟩⟩, ((NSame_u (by decide)).tr (NSame_u (by decide))).tr i2, i3, i4, i5, i6, i7⟩
        show p_X5_readNumber_l37 n (t_X5_readNumber_3 σ)
        rw [et]; exact i1
    · have hz : v_X5_in (σ 57 (ni (σ 35 28))) 48 57 = 0 := by
        rw [hni]
        exact Decidable.not_not.mp (fun z => hD (hin.mp z))
      have er : r_X5_readNumber_l37 (n + 1) σ = r_X5_readNumber_a124 σ := by
        show r_X5_readNumber_b37 (r_X5_readNumber_l37 n) σ = _
        unfold r_X5_readNumber_b37
        rw [if_neg hc, if_pos hz]
      rw [er]
      refine ⟨fun _ => ⟨hx, fun z => absurd hz z⟩, hend ?_ ?_⟩
      · rw [hd, dgE_s, if_neg hD]
      · rw [hd, dgV_s, if_neg hD]
theorem rnum_ok {σ : sg_S} {a t : Nat} (ha : σ 35 28 = N a) (ht : σ 35 26 = N t) (hat : a ≤ t) (h5 : t ≤ 500) {p e v : Nat} (hp : skp (σ 57) (t - a) a = p) (he : dgE (σ 57) (t - p) p = e) (hv : dgV (σ 57) p (t - p) p 0 = v) :
    p_X5_readNumber σ ∧ NSame σ (r_X5_readNumber σ).2 ∧ (r_X5_readNumber σ).2 35 28 = N e ∧ (p < e → e - p ≤ 4 → (r_X5_readNumber σ).1 = 1 ∧ (r_X5_readNumber σ).2 35 30 = N v ∧ (r_X5_readNumber σ).2 35 32 = N p ∧ (r_X5_readNumber σ).2 35 29 = σ 35 29) ∧
    (p < e → ¬ e - p ≤ 4 → (r_X5_readNumber σ).1 = 0 ∧ (r_X5_readNumber σ).2 35 29 = N (2 + 8 * p)) ∧ (¬ p < e → (r_X5_readNumber σ).1 = 0 ∧ (r_X5_readNumber σ).2 35 29 = N (1 + 8 * p)) := by
  obtain ⟨h1, h2, h3⟩ := here_ok ha ht hat h5
  have hpl := skp_le (B := σ 57) (t - a) a
  rw [hp] at h2 h3 hpl
  have hin := in_ni (x := σ 57 p) (lo := 48) (hi := 57) (by decide) (by decide) (by decide)
  have e28 : (r_X5_here σ).2 35 28 = N p := by rw [h3]; exact up_eq
  by_cases hD : p < t ∧ (48 ≤ ni (σ 57 p) ∧ ni (σ 57 p) ≤ 57)
  · have hz : ¬ v_X5_in (r_X5_here σ).1 48 57 = 0 := by
      rw [h2, if_pos hD.1]
      exact hin.mpr hD.2
    have hpe : p < e := by
      obtain ⟨d, hd⟩ : ∃ d, t - p = d + 1 := ⟨t - p - 1, by omega⟩
      have := dgE_le (B := σ 57) d (p + 1)
      rw [hd, dgE_s, if_pos hD.2] at he
      omega
    have et : sg_up (t_X5_readNumber_0 σ) 35 30 0 = sg_up (sg_up (sg_up σ 35 28 (N p)) 35 32 (N p)) 35 30 0 := by
      unfold t_X5_readNumber_0
      rw [e28, h3]
    have er : r_X5_readNumber σ = r_X5_readNumber_l37 600 (sg_up (sg_up (sg_up σ 35 28 (N p)) 35 32 (N p)) 35 30 0) := by
      unfold r_X5_readNumber
      rw [if_pos hz, et]
    have e57 : (sg_up (sg_up (sg_up σ 35 28 (N p)) 35 32 (N p)) 35 30 0) 57 = σ 57 := funext (fun k => by rw [up_c (by decide), up_c (by decide), up_c (by decide)])
    obtain ⟨i1, i2, i3, i4, i5, i6, i7⟩ := rnum37 (p := p) h5 600 p 0 (sg_up (sg_up (sg_up σ 35 28 (N p)) 35 32 (N p)) 35 30 0) (by rw [up_k (by decide), up_k (by decide), up_eq]) (by rw [up_k (by decide), up_k (by decide), up_k (by decide)]; exact ht) (by rw [up_k (by decide), up_eq]) up_eq (Nat.le_refl _) (by omega) (by omega)
    rw [e57, he] at i3 i6 i7
    rw [e57, hv] at i4
    rw [up_k (by decide), up_k (by decide), up_k (by decide)] at i6
    rw [er]
    refine ⟨⟨h1, fun _ => ?_⟩, ((((NSame_u (by decide)).tr (NSame_u (by decide))).tr (NSame_u (by decide)))).tr i2, i3, fun _ g => ?_, fun _ g => i7 g, fun z => absurd hpe z⟩
    · rw [et]; exact i1
    · obtain ⟨j1, j2⟩ := i6 g
      exact ⟨j1, i4, i5, j2⟩
  · have hz : v_X5_in (r_X5_here σ).1 48 57 = 0 := by
      rw [h2]
      by_cases g : p < t
      · rw [if_pos g]
        exact Decidable.not_not.mp (fun z => hD ⟨g, hin.mp z⟩)
      · rw [if_neg g]; decide
    have hpe : e = p := by
      rw [← he]
      by_cases g : p < t
      · obtain ⟨d, hd⟩ : ∃ d, t - p = d + 1 := ⟨t - p - 1, by omega⟩
        rw [hd, dgE_s, if_neg (fun z => hD ⟨g, z⟩)]
      · rw [show t - p = 0 by omega]; rfl
    have er : r_X5_readNumber σ = (0, sg_up (sg_up σ 35 28 (N p)) 35 29 (N (1 + 8 * p))) := by
      unfold r_X5_readNumber t_X5_readNumber_4
      rw [if_neg (fun z => z hz), e28, show (1 : Int32) = N 1 from rfl, rfails_eq, h3]
    rw [er, hpe]
    dsimp only
    exact ⟨⟨h1, fun z => absurd hz z⟩, (NSame_u (by decide)).tr (NSame_u (by decide)), by rw [up_k (by decide), up_eq], fun z => absurd z (Nat.lt_irrefl _), fun z => absurd z (Nat.lt_irrefl _), fun _ => ⟨rfl, up_eq⟩⟩
