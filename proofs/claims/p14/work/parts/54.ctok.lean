/-! THE CLASS'S TOKENS, in full -/
theorem byteAt_in {σ : sg_S} {a t : Nat} (ht : σ 5 1 = N t) (h5 : t ≤ 500) (ha : a < t) : v_X3_byteAt σ (N a) = σ 6 a := by
  unfold v_X3_byteAt
  rw [if_neg (N_nn (by omega)), ht, if_neg (g_nle ha (by omega)), if_neg (by exact g_nle (L := 500) (by omega) (by decide)), ni_N (by omega)]
theorem byteAt_out {σ : sg_S} {a t : Nat} (ht : σ 5 1 = N t) (h5 : t ≤ 500) (ha : t ≤ a) (ha2 : a < 10000) : v_X3_byteAt σ (N a) = -1 := by
  unfold v_X3_byteAt
  rw [if_neg (N_nn (by omega)), ht, if_pos (g_le ha (by omega))]
theorem cseek_l0 {t : Nat} (h5 : t ≤ 500) : ∀ (n a : Nat) (σ : sg_S), σ 5 4 = N a → σ 5 1 = N t → a ≤ t → t - a < n → r_X3_seek_l0 n σ = (if skp (σ 6) (t - a) a < t then 1 else 0, sg_up (sg_up σ 5 4 (N (skp (σ 6) (t - a) a))) 5 2 (N (skp (σ 6) (t - a) a))) := by
  intro n
  induction n with
  | zero => intro a σ _ _ _ hn; omega
  | succ n ih =>
    intro a σ ha ht hat hn
    show r_X3_seek_b0 (r_X3_seek_l0 n) σ = _
    unfold r_X3_seek_b0
    have e1 : (sg_up σ 5 2 (N a)) 5 1 = N t := by rw [up_k (by decide)]; exact ht
    have e2 : (sg_up σ 5 2 (N a)) 5 2 = N a := up_eq
    rw [ha, ht, e1, e2]
    by_cases e : a = t
    · subst e
      have hc : N a ≤ N a := Int32.le_refl _
      rw [if_pos hc, if_pos hc, Nat.sub_self, show skp (σ 6) 0 a = a from rfl, if_neg (Nat.lt_irrefl _), up_self ha]
    · have hc : ¬ N t ≤ N a := g_nle (by omega) (by omega)
      obtain ⟨d, hd⟩ : ∃ d, t - a = d + 1 := ⟨t - a - 1, by omega⟩
      have hd2 : t - (a + 1) = d := by omega
      rw [if_neg hc, byteAt_in ht h5 (by omega), if_neg hc]
      have hb : (σ 6 a = 32 ∨ σ 6 a = 10) → r_X3_seek_l0 n (sg_up σ 5 4 (N a + 1)) = (if skp (σ 6) (t - a) a < t then 1 else 0, sg_up (sg_up σ 5 4 (N (skp (σ 6) (t - a) a))) 5 2 (N (skp (σ 6) (t - a) a))) := by
        intro hbl
        rw [N_inc]
        have i2 := ih (a + 1) (sg_up σ 5 4 (N (a + 1))) up_eq (by rw [up_k (by decide)]; exact ht) (by omega) (by omega)
        have e6 : (sg_up σ 5 4 (N (a + 1))) 6 = σ 6 := funext (fun k => up_c (by decide))
        rw [i2, e6, hd2, hd, skp_s, if_pos hbl, up_up]
      by_cases g1 : σ 6 a = 32
      · rw [if_pos g1]; exact hb (Or.inl g1)
      · rw [if_neg g1]
        by_cases g2 : σ 6 a = 10
        · rw [if_neg (fun z => z g2)]; exact hb (Or.inr g2)
        · have hs : skp (σ 6) (t - a) a = a := skp_id (fun _ z => z.elim g1 g2)
          rw [if_pos g2, hs, if_pos (by omega), up_self ha]
theorem cseek_ok {σ : sg_S} {a t : Nat} (ha : σ 5 4 = N a) (ht : σ 5 1 = N t) (hat : a ≤ t) (h5 : t ≤ 500) : (r_X3_seek σ).1 = (if skp (σ 6) (t - a) a < t then 1 else 0) ∧ (r_X3_seek σ).2 5 4 = N (skp (σ 6) (t - a) a) ∧ (r_X3_seek σ).2 5 2 = N (skp (σ 6) (t - a) a) ∧ (r_X3_seek σ).2 5 3 = σ 5 3 := by
  have h : r_X3_seek σ = _ := cseek_l0 h5 600 a σ ha ht hat (by omega)
  rw [h]
  dsimp only
  exact ⟨rfl, by rw [up_k (by decide), up_eq], up_eq, by rw [up_k (by decide), up_k (by decide)]⟩
theorem ctake_ok {σ : sg_S} {a t : Nat} (ha : σ 5 4 = N a) (ht : σ 5 1 = N t) (hat : a < t) (h5 : t ≤ 500) : (r_X3_takeByte σ).1 = σ 6 a ∧ (r_X3_takeByte σ).2 5 4 = N (a + 1) ∧ (r_X3_takeByte σ).2 5 2 = σ 5 2 := by
  unfold r_X3_takeByte
  rw [ht, ha, if_neg (g_nle hat (by omega)), byteAt_in ht h5 hat]
  dsimp only
  exact ⟨rfl, by rw [up_eq, N_inc], by rw [up_k (by decide)]⟩
theorem cbyte_ok {σ : sg_S} {a t : Nat} {x : Int32} (ha : σ 5 4 = N a) (ht : σ 5 1 = N t) (hat : a ≤ t) (h5 : t ≤ 500) : (r_X3_readByte σ x).2 5 2 = N (skp (σ 6) (t - a) a) ∧ (skp (σ 6) (t - a) a < t → σ 6 (skp (σ 6) (t - a) a) = x → (r_X3_readByte σ x).1 = 1 ∧ (r_X3_readByte σ x).2 5 4 = N (skp (σ 6) (t - a) a + 1)) ∧ (¬ (skp (σ 6) (t - a) a < t ∧ σ 6 (skp (σ 6) (t - a) a) = x) → (r_X3_readByte σ x).1 = 0) := by
  obtain ⟨s1, s2, s3, -⟩ := cseek_ok ha ht hat h5
  have e6 : (r_X3_seek σ).2 6 = σ 6 := K_seek.row (by decide)
  have t1 : (r_X3_seek σ).2 5 1 = N t := by rw [K_seek 5 1 (by decide)]; exact ht
  unfold r_X3_readByte
  by_cases g : skp (σ 6) (t - a) a < t
  · rw [if_pos g] at s1
    rw [s1, if_neg one_nz]
    obtain ⟨k1, k2, k3⟩ := ctake_ok s2 t1 g h5
    rw [e6] at k1
    by_cases g2 : σ 6 (skp (σ 6) (t - a) a) = x
    · rw [k1, if_neg (fun z => z g2)]
      exact ⟨k3.trans s3, fun _ _ => ⟨rfl, k2⟩, fun z => absurd ⟨g, g2⟩ z⟩
    · rw [k1, if_pos g2]
      exact ⟨k3.trans s3, fun _ z => absurd z g2, fun _ => rfl⟩
  · rw [if_neg g] at s1
    rw [s1, if_pos rfl]
    exact ⟨s3, fun z => absurd z g, fun _ => rfl⟩
/-! the class reads a number -/
theorem cnum10 {t p : Nat} (h5 : t ≤ 500) : ∀ (n a v : Nat) (σ : sg_S), σ 5 4 = N a → σ 5 1 = N t → σ 5 2 = N p → (a - p ≤ 4 → σ 5 3 = N v) → (¬ a - p ≤ 4 → σ 5 3 = -1) → p ≤ a → a ≤ t → t - a < n →
    (r_X3_readNumber_l10 n σ).1 = (if p < dgE (σ 6) (t - a) a then 1 else 0) ∧ (r_X3_readNumber_l10 n σ).2 5 4 = N (dgE (σ 6) (t - a) a) ∧ (r_X3_readNumber_l10 n σ).2 5 2 = N p ∧ (dgE (σ 6) (t - a) a - p ≤ 4 → (r_X3_readNumber_l10 n σ).2 5 3 = N (dgV (σ 6) p (t - a) a v)) ∧ (¬ dgE (σ 6) (t - a) a - p ≤ 4 → (r_X3_readNumber_l10 n σ).2 5 3 = -1) := by
  intro n
  induction n with
  | zero => intro a v σ _ _ _ _ _ _ _ hn; omega
  | succ n ih =>
    intro a v σ ha ht hp hv hv2 hpa hat hn
    show (r_X3_readNumber_b10 (r_X3_readNumber_l10 n) σ).1 = _ ∧ (r_X3_readNumber_b10 (r_X3_readNumber_l10 n) σ).2 5 4 = _ ∧ (r_X3_readNumber_b10 (r_X3_readNumber_l10 n) σ).2 5 2 = _ ∧ (_ → (r_X3_readNumber_b10 (r_X3_readNumber_l10 n) σ).2 5 3 = _) ∧ (_ → (r_X3_readNumber_b10 (r_X3_readNumber_l10 n) σ).2 5 3 = _)
    unfold r_X3_readNumber_b10
    have hstop : dgE (σ 6) (t - a) a = a → dgV (σ 6) p (t - a) a v = v → (if N a ≤ N p then ((0 : Int32), σ) else (1, σ)).1 = (if p < dgE (σ 6) (t - a) a then 1 else 0) ∧ (if N a ≤ N p then ((0 : Int32), σ) else (1, σ)).2 5 4 = N (dgE (σ 6) (t - a) a) ∧ (if N a ≤ N p then ((0 : Int32), σ) else (1, σ)).2 5 2 = N p ∧ (dgE (σ 6) (t - a) a - p ≤ 4 → (if N a ≤ N p then ((0 : Int32), σ) else (1, σ)).2 5 3 = N (dgV (σ 6) p (t - a) a v)) ∧ (¬ dgE (σ 6) (t - a) a - p ≤ 4 → (if N a ≤ N p then ((0 : Int32), σ) else (1, σ)).2 5 3 = -1) := by
      intro e1 e2
      rw [e1, e2]
      by_cases g : p < a
      · rw [if_neg (g_nle g (by omega)), if_pos g]
        exact ⟨rfl, ha, hp, hv, hv2⟩
      · rw [if_pos (g_le (by omega) (by omega)), if_neg g]
        exact ⟨rfl, ha, hp, hv, hv2⟩
    rw [ha, ht, hp]
    by_cases e : a = t
    · rw [if_pos (by rw [e]; exact Int32.le_refl _)]
      exact hstop (by rw [e, Nat.sub_self]; rfl) (by rw [e, Nat.sub_self]; rfl)
    obtain ⟨d, hd⟩ : ∃ d, t - a = d + 1 := ⟨t - a - 1, by omega⟩
    have hd2 : t - (a + 1) = d := by omega
    rw [if_neg (g_nle (by omega) (by omega)), byteAt_in ht h5 (by omega)]
    have l1 := lt_ni (x := σ 6 a) (a := 48) (by decide) (by decide)
    by_cases hD : 48 ≤ ni (σ 6 a) ∧ ni (σ 6 a) ≤ 57
    · have eb0 := ni_pos (x := σ 6 a) (by omega)
      rw [if_neg (fun z => by have := l1.mp z; omega), if_neg (by
        rw [← eb0]
        exact g_nlt (L := 57) hD.2 (by decide)), N_sub hpa]
      have eE : dgE (σ 6) (t - a) a = dgE (σ 6) (t - (a + 1)) (a + 1) := by rw [hd, dgE_s, if_pos hD, hd2]
      have eV : dgV (σ 6) p (t - a) a v = dgV (σ 6) p (t - (a + 1)) (a + 1) (if 4 ≤ a - p then v else 10 * v + (ni (σ 6 a) - 48)) := by rw [hd, dgV_s, if_pos hD, hd2]
      rw [eE, eV]
      unfold r_X3_readNumber_a65
      by_cases g4 : 4 ≤ a - p
      · rw [if_pos (by exact g_le (a := 4) g4 (by omega)), if_pos rfl, if_pos g4]
        have et : t_X3_readNumber_0 σ 0 = sg_up (sg_up σ 5 3 (-1)) 5 4 (N (a + 1)) := by
          unfold t_X3_readNumber_0
          rw [up_k (by decide), ha, N_inc]
        have e6 : (sg_up (sg_up σ 5 3 (-1)) 5 4 (N (a + 1))) 6 = σ 6 := funext (fun k => by rw [up_c (by decide), up_c (by decide)])
        have i := ih (a + 1) v (sg_up (sg_up σ 5 3 (-1)) 5 4 (N (a + 1))) up_eq (by rw [up_k (by decide), up_k (by decide)]; exact ht) (by rw [up_k (by decide), up_k (by decide)]; exact hp) (fun z => by omega) (fun _ => by rw [up_k (by decide), up_eq]) (by omega) (by omega) (by omega)
        rw [e6] at i
        rw [et]
        exact i
      · rw [if_neg (by exact g_nle (L := 4) (by omega) (by decide)), if_neg one_nz, if_neg g4]
        have eb : σ 6 a = N (48 + (ni (σ 6 a) - 48)) := by
          rw [show 48 + (ni (σ 6 a) - 48) = ni (σ 6 a) by omega]
          exact eb0.symm
        have ev : 10 * N v + σ 6 a - 48 = N (10 * v + (ni (σ 6 a) - 48)) := by
          rw [show (10 : Int32) = N 10 from rfl, show (48 : Int32) = N 48 from rfl, N_mul]
          rw [show N (10 * v) + σ 6 a = N (10 * v + (48 + (ni (σ 6 a) - 48))) by rw [← N_add, ← eb], N_sub (by omega)]
          congr 1
          omega
        have et : t_X3_readNumber_2 σ 1 = sg_up (sg_up σ 5 3 (N (10 * v + (ni (σ 6 a) - 48)))) 5 4 (N (a + 1)) := by
          unfold t_X3_readNumber_2 t_X3_readNumber_1
          rw [hv (by omega), ha, byteAt_in ht h5 (by omega), ev, up_k (by decide), ha, N_inc]
        have e6 : (sg_up (sg_up σ 5 3 (N (10 * v + (ni (σ 6 a) - 48)))) 5 4 (N (a + 1))) 6 = σ 6 := funext (fun k => by rw [up_c (by decide), up_c (by decide)])
        have i := ih (a + 1) (10 * v + (ni (σ 6 a) - 48)) (sg_up (sg_up σ 5 3 (N (10 * v + (ni (σ 6 a) - 48)))) 5 4 (N (a + 1))) up_eq (by rw [up_k (by decide), up_k (by decide)]; exact ht) (by rw [up_k (by decide), up_k (by decide)]; exact hp) (fun _ => by rw [up_k (by decide), up_eq]) (fun z => by omega) (by omega) (by omega) (by omega)
        rw [e6] at i
        rw [et]
        exact i
    · have hz : dgE (σ 6) (t - a) a = a ∧ dgV (σ 6) p (t - a) a v = v := by
        rw [hd, dgE_s, if_neg hD, dgV_s, if_neg hD]
        exact ⟨rfl, rfl⟩
      by_cases g1 : σ 6 a < 48
      · rw [if_pos g1]; exact hstop hz.1 hz.2
      · rw [if_neg g1]
        have h48 : 48 ≤ ni (σ 6 a) := by
          have hz : ¬ ni (σ 6 a) < 48 := fun z => g1 (l1.mpr z)
          omega
        rw [if_pos (by
          rw [← ni_pos (x := σ 6 a) (by omega)]
          exact g_lt (a := 57) (by omega) ni_lt)]
        exact hstop hz.1 hz.2
theorem cnum_ok {σ : sg_S} {a t : Nat} (ha : σ 5 4 = N a) (ht : σ 5 1 = N t) (hat : a ≤ t) (h5 : t ≤ 500) {p e v : Nat} (hp : skp (σ 6) (t - a) a = p) (he : dgE (σ 6) (t - p) p = e) (hv : dgV (σ 6) p (t - p) p 0 = v) :
    (r_X3_readNumber σ).1 = (if p < e then 1 else 0) ∧ (r_X3_readNumber σ).2 5 4 = N e ∧ (r_X3_readNumber σ).2 5 2 = N p ∧ (e - p ≤ 4 → (r_X3_readNumber σ).2 5 3 = N v) ∧ (¬ e - p ≤ 4 → (r_X3_readNumber σ).2 5 3 = -1) := by
  obtain ⟨s1, s2, s3, -⟩ := cseek_ok ha ht hat h5
  have e6 : (sg_up (r_X3_seek σ).2 5 3 0) 6 = σ 6 := funext (fun k => by rw [up_c (by decide), K_seek.row (σ := σ) (q := 6) (by decide)])
  have hpl := skp_le (B := σ 6) (t - a) a
  rw [hp] at s2 s3 hpl
  have i := cnum10 (p := p) h5 600 p 0 (sg_up (r_X3_seek σ).2 5 3 0) (by rw [up_k (by decide)]; exact s2) (by rw [up_k (by decide), K_seek 5 1 (by decide)]; exact ht) (by rw [up_k (by decide)]; exact s3) (fun _ => up_eq) (fun z => absurd (by omega) z) (Nat.le_refl _) (by omega) (by omega)
  rw [e6, he, hv] at i
  exact i
/-! the word row -/
theorem cword9 {t : Nat} (h5 : t ≤ 500) : ∀ (n a : Nat) (σ : sg_S), σ 5 4 = N a → σ 5 1 = N t → a ≤ t → t - a < n → r_X3_readRowWord_l9 n σ = r_X3_readRowWord_a59 (sg_up σ 5 4 (N (lwE (σ 6) (t - a) a))) := by
  intro n
  induction n with
  | zero => intro a σ _ _ _ hn; omega
  | succ n ih =>
    intro a σ ha ht hat hn
    show r_X3_readRowWord_b9 (r_X3_readRowWord_l9 n) σ = _
    unfold r_X3_readRowWord_b9
    rw [ha, ht]
    by_cases e : a = t
    · rw [if_pos (by rw [e]; exact Int32.le_refl _), e, Nat.sub_self, show lwE (σ 6) 0 t = t from rfl, up_self (by rw [ha, e])]
    obtain ⟨d, hd⟩ : ∃ d, t - a = d + 1 := ⟨t - a - 1, by omega⟩
    have hd2 : t - (a + 1) = d := by omega
    rw [if_neg (g_nle (by omega) (by omega)), byteAt_in ht h5 (by omega)]
    have l1 := lt_ni (x := σ 6 a) (a := 97) (by decide) (by decide)
    by_cases hD : 97 ≤ ni (σ 6 a) ∧ ni (σ 6 a) ≤ 122
    · have eb0 := ni_pos (x := σ 6 a) (by omega)
      rw [if_neg (fun z => by have := l1.mp z; omega), if_neg (by
        rw [← eb0]
        exact g_nlt (L := 122) hD.2 (by decide)), N_inc]
      have e6 : (sg_up σ 5 4 (N (a + 1))) 6 = σ 6 := funext (fun k => up_c (by decide))
      have i := ih (a + 1) (sg_up σ 5 4 (N (a + 1))) up_eq (by rw [up_k (by decide)]; exact ht) (by omega) (by omega)
      rw [e6, up_up, hd2] at i
      rw [hd, lwE_s, if_pos hD]
      exact i
    · rw [hd, lwE_s, if_neg hD, up_self ha]
      by_cases g1 : σ 6 a < 97
      · rw [if_pos g1]
      · rw [if_neg g1]
        have h97 : 97 ≤ ni (σ 6 a) := by
          have hz : ¬ ni (σ 6 a) < 97 := fun z => g1 (l1.mpr z)
          omega
        rw [if_pos (by
          rw [← ni_pos (x := σ 6 a) (by omega)]
          exact g_lt (a := 122) (by omega) ni_lt)]
/-- a word that is row -/
def isRow (B : Nat → Int32) (p le : Nat) : Prop := le - p = 3 ∧ B p = 114 ∧ B (p + 1) = 111 ∧ B (p + 2) = 119
theorem cword_ok {σ : sg_S} {a t : Nat} (ha : σ 5 4 = N a) (ht : σ 5 1 = N t) (hat : a ≤ t) (h5 : t ≤ 500) {p le : Nat} (hp : skp (σ 6) (t - a) a = p) (hle : lwE (σ 6) (t - p) p = le) :
    (r_X3_readRowWord σ).2 5 2 = N p ∧ (isRow (σ 6) p le → (r_X3_readRowWord σ).1 = 1 ∧ (r_X3_readRowWord σ).2 5 4 = N le) ∧ (¬ isRow (σ 6) p le → (r_X3_readRowWord σ).1 = 0) := by
  obtain ⟨s1, s2, s3, -⟩ := cseek_ok ha ht hat h5
  have hpl := skp_le (B := σ 6) (t - a) a
  rw [hp] at s1 s2 s3 hpl
  have hll := lwE_le (B := σ 6) (t - p) p
  rw [hle] at hll
  have e6 : (r_X3_seek σ).2 6 = σ 6 := K_seek.row (by decide)
  have t1 : (r_X3_seek σ).2 5 1 = N t := by rw [K_seek 5 1 (by decide)]; exact ht
  unfold r_X3_readRowWord
  by_cases g : p < t
  · rw [if_pos g] at s1
    rw [s1, if_pos one_nz]
    have i := cword9 h5 600 p (r_X3_seek σ).2 s2 t1 (by omega) (by omega)
    rw [e6, hle] at i
    rw [i]
    have f4 : (sg_up (r_X3_seek σ).2 5 4 (N le)) 5 4 = N le := up_eq
    have f2 : (sg_up (r_X3_seek σ).2 5 4 (N le)) 5 2 = N p := by rw [up_k (by decide)]; exact s3
    have f1 : (sg_up (r_X3_seek σ).2 5 4 (N le)) 5 1 = N t := by rw [up_k (by decide)]; exact t1
    have f6 : (sg_up (r_X3_seek σ).2 5 4 (N le)) 6 = σ 6 := funext (fun k => by rw [up_c (by decide), e6])
    refine ⟨by rw [K_word_a59]; exact f2, fun hr => ?_, fun hr => ?_⟩
    · obtain ⟨r1, r2, r3, r4⟩ := hr
      refine ⟨?_, by rw [K_word_a59]; exact f4⟩
      unfold r_X3_readRowWord_a59
      rw [f4, f2, N_sub hll.1, if_neg (by rw [r1]; exact fun z => z rfl), byteAt_in f1 h5 (by omega), f6, if_neg (fun z => z r2), show N p + 1 = N (p + 1) from N_add p 1, byteAt_in f1 h5 (by omega), f6, if_neg (fun z => z r3), show N p + 2 = N (p + 2) from N_add p 2, byteAt_in f1 h5 (by omega), f6, if_neg (fun z => z r4)]
    · unfold r_X3_readRowWord_a59
      rw [f4, f2, N_sub hll.1]
      by_cases r1 : le - p = 3
      · rw [if_neg (by rw [r1]; exact fun z => z rfl), byteAt_in f1 h5 (by omega), f6]
        by_cases r2 : σ 6 p = 114
        · rw [if_neg (fun z => z r2), show N p + 1 = N (p + 1) from N_add p 1, byteAt_in f1 h5 (by omega), f6]
          by_cases r3 : σ 6 (p + 1) = 111
          · rw [if_neg (fun z => z r3), show N p + 2 = N (p + 2) from N_add p 2, byteAt_in f1 h5 (by omega), f6]
            by_cases r4 : σ 6 (p + 2) = 119
            · exact absurd ⟨r1, r2, r3, r4⟩ hr
            · rw [if_pos r4]
          · rw [if_pos r3]
        · rw [if_pos r2]
      · rw [if_pos (by
          show ¬ N (le - p) = N 3
          rw [N_eq (by omega) (by decide)]; exact r1)]
  · rw [if_neg g] at s1
    rw [s1, if_neg (fun z => z rfl)]
    exact ⟨s3, fun hr => absurd hr.1 (by omega), fun _ => rfl⟩
