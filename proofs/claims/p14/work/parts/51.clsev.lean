/-! WHAT HOLDS OF THE CLASS BETWEEN CALLS -/
def HiS (σ σ' : sg_S) : Prop := ∀ q k, 35 ≤ q → σ' q k = σ q k
theorem HiS.rf {σ : sg_S} : HiS σ σ := fun _ _ _ => rfl
theorem HiS.tr {σ σ1 σ2 : sg_S} (h : HiS σ σ1) (h' : HiS σ1 σ2) : HiS σ σ2 := fun q k a => (h' q k a).trans (h q k a)
theorem HiS_u {σ : sg_S} {q0 k0 : Nat} {v : Int32} (h : q0 < 35) : HiS σ (sg_up σ q0 k0 v) := fun q k h1 => up_c (by omega)
theorem KSame.hi {σ σ' : sg_S} (h : KSame σ σ') : HiS σ σ' := fun q k h1 => h q k (by omega)
theorem TSame.hi {σ σ' : sg_S} (h : TSame σ σ') : HiS σ σ' := fun q k h1 => h q k (by omega) (by omega) (by omega)
theorem CSame.hi {c : Nat} {σ σ' : sg_S} (h : CSame c σ σ') (hc : c + 12 < 35) : HiS σ σ' := fun q k h1 => h q k (by omega)
theorem CAt_fr {σ σ' : sg_S} {T S : Nat → Nat} {i t : Nat} {D : Nat → Nat → Nat} (h : CAt σ 7 T S i t D) (hs : ∀ q j, (q = 2 ∨ q = 4 ∨ (7 ≤ q ∧ q ≤ 19)) → σ' q j = σ q j) : CAt σ' 7 T S i t D :=
  ⟨fun k hk => by rw [hs 2 k (by omega)]; exact h.1 k hk, h.2.1, fun k hk => by rw [hs 4 k (by omega)]; exact h.2.2.1 k hk, h.2.2.2.1, by rw [hs 7 3 (by omega)]; exact h.2.2.2.2.1, by rw [hs 7 4 (by omega)]; exact h.2.2.2.2.2.1, fun f hf => by rw [hs (7 + 1) f (by omega)]; exact h.2.2.2.2.2.2.1 f hf, fun f hf => by rw [hs (7 + 7) f (by omega)]; exact h.2.2.2.2.2.2.2 f hf⟩
def CSt (T S : Nat → Nat) (σ : sg_S) (k : Nat) : Prop := σ 0 6 = N k ∧ k ≤ 400 ∧ ∃ x : mS, mrun T S (σ 33) (σ 34) k = some x ∧ CAt σ 7 T S x.1 x.2.1 x.2.2
theorem CSt_fr {σ σ' : sg_S} {T S : Nat → Nat} {k : Nat} (h : CSt T S σ k) (h6 : σ' 0 6 = σ 0 6) (hl : ∀ j, j < k → σ' 33 j = σ 33 j ∧ σ' 34 j = σ 34 j) (hs : ∀ q j, (q = 2 ∨ q = 4 ∨ (7 ≤ q ∧ q ≤ 19)) → σ' q j = σ q j) : CSt T S σ' k := by
  obtain ⟨a1, a2, x, a3, a4⟩ := h
  exact ⟨by rw [h6]; exact a1, a2, x, by rw [← a3]; exact mrun_congr k hl, CAt_fr a4 hs⟩
theorem CSt_K {σ σ' : sg_S} {T S : Nat → Nat} {k : Nat} (h : CSt T S σ k) (hs : KSame σ σ') : CSt T S σ' k := CSt_fr h (hs 0 6 (by decide)) (fun j _ => ⟨hs 33 j (by omega), hs 34 j (by omega)⟩) (fun q j hq => hs q j (by omega))
/-! which events can come, to the class -/
theorem isEvent4 {e : Int32} : (¬ v_X4_isEvent e = 0) ↔ isEv e := by
  have l1 := lt_ni (x := e) (a := 48) (by decide) (by decide)
  have l2 := le_ni (x := e) (a := 48) (by decide) (by decide)
  have ha : (¬ v_X4_isEvent_a12 e = 0) ↔ (e = 120 ∨ e = 119 ∨ e = 110 ∨ e = 99 ∨ e = 100 ∨ e = 47) := by
    unfold v_X4_isEvent_a12 v_X4_bearsNumber
    by_cases g1 : e = 120
    · rw [if_pos g1]; exact ⟨fun _ => Or.inl g1, fun _ => one_nz⟩
    rw [if_neg g1]
    by_cases g2 : e = 119
    · rw [if_pos g2]; exact ⟨fun _ => Or.inr (Or.inl g2), fun _ => one_nz⟩
    rw [if_neg g2]
    by_cases g3 : e = 110
    · rw [if_pos g3]; exact ⟨fun _ => Or.inr (Or.inr (Or.inl g3)), fun _ => one_nz⟩
    rw [if_neg g3]
    by_cases g4 : e = 47
    · rw [if_pos g4]; exact ⟨fun _ => Or.inr (Or.inr (Or.inr (Or.inr (Or.inr g4)))), fun _ => one_nz⟩
    rw [if_neg g4]
    by_cases g5 : e = 99
    · rw [if_pos g5, if_neg one_nz]; exact ⟨fun _ => Or.inr (Or.inr (Or.inr (Or.inl g5))), fun _ => one_nz⟩
    rw [if_neg g5]
    by_cases g6 : e = 100
    · have hz : (if ¬ e = 100 then (0 : Int32) else 1) = 1 := if_neg (fun z => z g6)
      rw [hz, if_neg one_nz]; exact ⟨fun _ => Or.inr (Or.inr (Or.inr (Or.inr (Or.inl g6)))), fun _ => one_nz⟩
    rw [if_pos g6, if_pos rfl]
    refine ⟨fun z => absurd rfl z, fun z => ?_⟩
    rcases z with z | z | z | z | z | z
    · exact absurd z g1
    · exact absurd z g2
    · exact absurd z g3
    · exact absurd z g5
    · exact absurd z g6
    · exact absurd z g4
  unfold v_X4_isEvent isEv
  by_cases g : e < 48
  · rw [if_pos g, ha]
    have := l1.mp g
    exact ⟨fun z => Or.inr z, fun z => z.elim (fun z => by omega) id⟩
  rw [if_neg g]
  have h48 : 48 ≤ ni e := by
    have hz : ¬ ni e < 48 := fun z => g (l1.mpr z)
    omega
  have ee := ni_pos (x := e) (by omega)
  by_cases g2 : e ≤ 54
  · rw [if_pos g2]
    refine ⟨fun _ => Or.inl ⟨h48, ?_⟩, fun _ => one_nz⟩
    rw [← ee] at g2
    exact (N_le (b := 54) ni_lt (by decide)).mp g2
  · rw [if_neg g2, ha]
    refine ⟨fun z => Or.inr z, fun z => z.elim (fun z => absurd ?_ g2) id⟩
    rw [← ee]
    exact g_le (L := 54) z.2 (by decide)
section CMay
variable {σ : sg_S} {T S : Nat → Nat} {k i t : Nat} {D : Nat → Nat → Nat}
theorem admits_iff {e : Int32} (h : CAt σ 7 T S i t D) (hi : i ≤ 2) (ht : t ≤ 1) : (¬ v_X0_admits σ 7 e = 0) ↔ (i < 2 ∧ (e = 100 → t = 0)) := by
  unfold v_X0_admits
  rw [h.2.2.2.2.1, h.2.2.2.2.2.1]
  by_cases g : i < 2
  · rw [if_neg (by exact g_nle (L := 2) g (by decide))]
    by_cases g2 : e = 100
    · rw [if_neg (fun z => z g2)]
      rcases (show t = 0 ∨ t = 1 by omega) with rfl | rfl
      · rw [if_neg (by decide)]; exact ⟨fun _ => ⟨g, fun _ => rfl⟩, fun _ => one_nz⟩
      · rw [if_pos (by decide)]; exact ⟨fun z => absurd rfl z, fun z => absurd (z.2 g2) (by decide)⟩
    · rw [if_pos g2]; exact ⟨fun _ => ⟨g, fun z => absurd z g2⟩, fun _ => one_nz⟩
  · rw [if_pos (by rw [show i = 2 by omega]; decide)]; exact ⟨fun z => absurd rfl z, fun z => absurd z.1 g⟩
theorem fits_iff {e n : Int32} (h : CAt σ 7 T S i t D) (hi : i < 2) (hI : InnOK T k (D i)) (h1 : InnOK T k (D 1)) : (¬ v_X0_fits σ 7 e n = 0) ↔ ((e = 100 → 1 ≤ ni n ∧ ni n < D 1 3) ∧ (¬ e = 100 → 1 ≤ ni n ∧ ni n < D i 3 ∧ D i 2 ≤ 6 * ni n)) := by
  obtain ⟨a1, a2, a3, -⟩ := hI
  obtain ⟨b1, b2, -⟩ := h1
  have hP := h.pic hi
  have hP1 := h.2.2.2.2.2.2.2
  unfold v_X0_fits
  rw [h.2.2.2.2.1, side_eq hi, hP 3 (by decide), hP 2 (by decide), hP1 3 (by decide)]
  have l1 := lt_ni (x := n) (a := 1) (by decide) (by decide)
  by_cases g1 : n < 1
  · rw [if_pos g1]
    have := l1.mp g1
    refine ⟨fun z => absurd rfl z, fun z => ?_⟩
    by_cases e1 : e = 100
    · have := z.1 e1; omega
    · have := z.2 e1; omega
  rw [if_neg g1]
  have g1' : 1 ≤ ni n := by
    have hz : ¬ ni n < 1 := fun z => g1 (l1.mpr z)
    omega
  have en := ni_pos g1'
  have hlt := ni_lt (x := n)
  by_cases g2 : ni n ≤ 20
  · rw [if_pos (by rw [← en]; exact g_le (L := 20) g2 (by decide))]
    by_cases e1 : e = 100
    · rw [if_neg (fun z => z e1)]
      by_cases g3 : D 1 3 ≤ ni n
      · rw [if_pos (by rw [← en]; exact g_le g3 hlt)]
        exact ⟨fun z => absurd rfl z, fun z => by have := z.1 e1; omega⟩
      · rw [if_neg (by rw [← en]; exact g_nle (by omega) (by omega))]
        exact ⟨fun _ => ⟨fun _ => ⟨g1', by omega⟩, fun z => absurd e1 z⟩, fun _ => one_nz⟩
    · rw [if_pos e1]
      by_cases g3 : D i 3 ≤ ni n
      · rw [if_pos (by rw [← en]; exact g_le g3 hlt)]
        exact ⟨fun z => absurd rfl z, fun z => by have := z.2 e1; omega⟩
      · rw [if_neg (by rw [← en]; exact g_nle (by omega) (by omega))]
        have e6 : 6 * n = N (6 * ni n) := by
          rw [← N_mul, en]
          rfl
        rw [e6]
        by_cases g4 : 6 * ni n < D i 2
        · rw [if_pos (g_lt g4 (by omega))]
          exact ⟨fun z => absurd rfl z, fun z => by have := z.2 e1; omega⟩
        · rw [if_neg (g_nlt (by omega) (by omega))]
          exact ⟨fun _ => ⟨fun z => absurd z e1, fun _ => ⟨g1', by omega, by omega⟩⟩, fun _ => one_nz⟩
  · rw [if_neg (by rw [← en]; exact g_nle (a := 20) (by omega) hlt)]
    refine ⟨fun z => absurd rfl z, fun z => ?_⟩
    by_cases e1 : e = 100
    · have := z.1 e1; omega
    · have := z.2 e1; omega
theorem bears_iff {e : Int32} : (v_X4_bearsNumber e = 0) ↔ (¬ e = 99 ∧ ¬ e = 100) := by
  unfold v_X4_bearsNumber
  by_cases g5 : e = 99
  · rw [if_pos g5]; exact ⟨fun z => absurd z one_nz, fun z => absurd g5 z.1⟩
  rw [if_neg g5]
  by_cases g6 : e = 100
  · rw [if_neg (fun z => z g6)]; exact ⟨fun z => absurd z one_nz, fun z => absurd g6 z.2⟩
  · rw [if_pos g6]; exact ⟨fun _ => ⟨g5, g6⟩, fun _ => rfl⟩
theorem canCome_iff {e : Int32} (h6 : σ 0 6 = N k) (hk : k ≤ 400) (h : CAt σ 7 T S i t D) (hi : i ≤ 2) (ht : t ≤ 1) : (¬ v_X4_canCome σ e = 0) ↔ (k < 400 ∧ i < 2 ∧ (e = 100 → t = 0)) := by
  have ha := admits_iff (e := e) h hi ht
  unfold v_X4_canCome
  rw [h6]
  by_cases g : k < 400
  · rw [if_neg (by exact g_nle (L := 400) g (by decide))]
    by_cases g2 : v_X0_admits σ 7 e = 0
    · rw [if_pos g2]; exact ⟨fun z => absurd rfl z, fun z => absurd g2 (ha.mpr z.2)⟩
    · rw [if_neg g2]; exact ⟨fun _ => ⟨g, ha.mp g2⟩, fun _ => one_nz⟩
  · rw [if_pos (by rw [show k = 400 by omega]; decide)]; exact ⟨fun z => absurd rfl z, fun z => absurd z.1 g⟩
end CMay
/-! the class takes an event into its LOG -/
def VSame (k : Nat) (σ σ' : sg_S) : Prop := ∀ q j, ¬ (7 ≤ q ∧ q ≤ 19) → ¬ ((q = 33 ∨ q = 34) ∧ k ≤ j) → ¬ (q = 0 ∧ (j = 6 ∨ j = 7)) → ¬ (q = 5 ∧ 2 ≤ j ∧ j ≤ 4) → σ' q j = σ q j
theorem VSame.rf {k : Nat} {σ : sg_S} : VSame k σ σ := fun _ _ _ _ _ _ => rfl
theorem VSame.tr {k : Nat} {σ σ1 σ2 : sg_S} (h : VSame k σ σ1) (h' : VSame k σ1 σ2) : VSame k σ σ2 := fun q j a b c d => (h' q j a b c d).trans (h q j a b c d)
theorem VSame.le {k k' : Nat} {σ σ' : sg_S} (h : VSame k' σ σ') (hk : k ≤ k') : VSame k σ σ' := fun q j a b c d => h q j a (by omega) c d
theorem KSame.v {k : Nat} {σ σ' : sg_S} (h : KSame σ σ') : VSame k σ σ' := fun q j _ _ _ d => h q j d
theorem VSame.hi {k : Nat} {σ σ' : sg_S} (h : VSame k σ σ') : HiS σ σ' := fun q j h1 => h q j (by omega) (by omega) (by omega) (by omega)
theorem crec_ok {σ : sg_S} {T S : Nat → Nat} {k : Nat} {x y : mS} {e n : Int32} (h6 : σ 0 6 = N k) (hk : k < 400) (hA : CAt σ 7 T S x.1 x.2.1 x.2.2) (hx : mrun T S (σ 33) (σ 34) k = some x) (hs : stp T (S 1) x e n = some y) : (s_X4_record σ e n) 0 6 = N (k + 1) ∧ mrun T S ((s_X4_record σ e n) 33) ((s_X4_record σ e n) 34) (k + 1) = some y ∧ CAt (s_X4_record σ e n) 7 T S y.1 y.2.1 y.2.2 ∧ VSame k σ (s_X4_record σ e n) ∧ (s_X4_record σ e n) 33 k = e ∧ (s_X4_record σ e n) 34 k = n := by
  have e1 : (sg_up σ 33 k e) 0 6 = N k := by rw [up_c (by decide)]; exact h6
  have et : t_X4_record_1 σ e n = sg_up (sg_up (sg_up σ 33 k e) 34 k n) 0 6 (N (k + 1)) := by
    unfold t_X4_record_1 t_X4_record_0
    rw [h6, ni_N (by omega), e1, ni_N (by omega), up_c (by decide), e1, N_inc]
  have er : s_X4_record σ e n = s_X0_take (sg_up (sg_up (sg_up σ 33 k e) 34 k n) 0 6 (N (k + 1))) 7 e n := by
    unfold s_X4_record
    rw [h6, if_neg (N_nn (by omega)), if_pos (by exact g_lt (L := 400) hk (by decide)), et]
  have hA1 : CAt (sg_up (sg_up (sg_up σ 33 k e) 34 k n) 0 6 (N (k + 1))) 7 T S x.1 x.2.1 x.2.2 := CAt_fr hA (fun q j hq => by
    rw [up_ne (by omega), up_ne (by omega), up_ne (by omega)])
  obtain ⟨t1, t2⟩ := take_ok (y := y) (by decide) hA1 (mrun_OK hA.2.1 hA.2.2.2.1 k x hx) (by omega) (show stp T (S 1) (x.1, x.2.1, x.2.2) e n = some y from hs)
  have r33 := t2.row (q := 33) (by decide)
  have r34 := t2.row (q := 34) (by decide)
  have f33 : (sg_up (sg_up (sg_up σ 33 k e) 34 k n) 0 6 (N (k + 1))) 33 k = e := by rw [up_c (by decide), up_c (by decide), up_eq]
  have f34 : (sg_up (sg_up (sg_up σ 33 k e) 34 k n) 0 6 (N (k + 1))) 34 k = n := by rw [up_c (by decide), up_eq]
  rw [er]
  refine ⟨?_, ?_, t1, ?_, by rw [r33]; exact f33, by rw [r34]; exact f34⟩
  · rw [t2 0 6 (by decide), up_eq]
  · rw [r33, r34]
    have hc : mrun T S ((sg_up (sg_up (sg_up σ 33 k e) 34 k n) 0 6 (N (k + 1))) 33) ((sg_up (sg_up (sg_up σ 33 k e) 34 k n) 0 6 (N (k + 1))) 34) k = some x := by
      rw [← hx]
      refine mrun_congr k (fun j hj => ⟨?_, ?_⟩)
      · rw [up_c (by decide), up_c (by decide), up_k (by omega)]
      · rw [up_c (by decide), up_k (by omega), up_c (by decide)]
    rw [mrun_some hc, f33, f34]
    exact hs
  · intro q j a b c d
    rw [t2 q j (by omega), up_ne (by omega), up_ne (by omega), up_ne (by omega)]
theorem crec_st {σ : sg_S} {T S : Nat → Nat} {k : Nat} {x : mS} {e n : Int32} (h6 : σ 0 6 = N k) (hk : k < 400) (hA : CAt σ 7 T S x.1 x.2.1 x.2.2) (hx : mrun T S (σ 33) (σ 34) k = some x) (hc : canS x.1 x.2.1 x.2.2 e n) : CSt T S (s_X4_record σ e n) (k + 1) ∧ VSame k σ (s_X4_record σ e n) := by
  obtain ⟨y, hy⟩ := stp_some (T := T) (mean := S 1) hc
  obtain ⟨a1, a2, a3, a4, -⟩ := crec_ok (y := y) h6 hk hA hx hy
  exact ⟨⟨a1, by omega, y, a2, a3⟩, a4⟩
theorem early_of {T : Nat → Nat} {mean k i t : Nat} {D : Nat → Nat → Nat} (hO : OK T mean k i t D) (h2 : i < 2) (ht : t = 0) : i = 0 ∨ i = 1 ∧ t = 0 := by omega
theorem cplay_can {σ : sg_S} {T S : Nat → Nat} {k : Nat} {x : mS} {e n : Int32} (h6 : σ 0 6 = N k) (hk : k ≤ 400) (hA : CAt σ 7 T S x.1 x.2.1 x.2.2) (hx : mrun T S (σ 33) (σ 34) k = some x) (he : ¬ v_X4_isEvent e = 0) (hc : ¬ v_X4_canCome σ e = 0) (hf : ¬ v_X4_bearsNumber e = 0 → ¬ v_X0_fits σ 7 e n = 0) : k < 400 ∧ canS x.1 x.2.1 x.2.2 e n := by
  have hO := mrun_OK hA.2.1 hA.2.2.2.1 k x hx
  obtain ⟨c1, c2, c3⟩ := (canCome_iff h6 hk hA hO.1 hO.2.1).mp hc
  have hb := bears_iff (e := e)
  have hfi := fits_iff (e := e) (n := n) hA c2 (hO.2.2.2.1 x.1 c2) (hO.2.2.2.1 1 (by decide))
  refine ⟨c1, isEvent4.mp he, fun z => ?_, fun _ => c2, fun z => ?_⟩
  · have := hfi.mp (hf (fun w => (hb.mp w).2 z))
    exact ⟨early_of hO c2 (c3 z), this.1 z⟩
  · have := hfi.mp (hf (fun w => (hb.mp w).1 z))
    exact this.2 (by rw [z]; decide)
theorem cev_ok {σ : sg_S} {T S : Nat → Nat} {k : Nat} (h : CSt T S σ k) : ∃ k', k ≤ k' ∧ CSt T S (r_X4_readEvent σ).2 k' ∧ VSame k σ (r_X4_readEvent σ).2 := by
  have h1 := CSt_K h (K_take (σ := σ))
  obtain ⟨a1, a2, x, a3, a4⟩ := id h1
  unfold r_X4_readEvent
  by_cases g1 : ¬ v_X4_isEvent (r_X3_takeByte σ).1 = 0
  · rw [if_pos g1]
    by_cases g2 : ¬ v_X4_canCome (r_X3_takeByte σ).2 (r_X3_takeByte σ).1 = 0
    · rw [if_pos g2]
      by_cases g3 : v_X4_bearsNumber (r_X3_takeByte σ).1 = 0
      · rw [if_pos g3]
        obtain ⟨c1, c2⟩ := cplay_can (n := 0) a1 a2 a4 a3 g1 g2 (fun z => absurd g3 z)
        obtain ⟨r1, r2⟩ := crec_st a1 c1 a4 a3 c2
        exact ⟨k + 1, by omega, r1, K_take.v.tr r2⟩
      · rw [if_neg g3]
        have h2 := CSt_K h1 (K_num (σ := (r_X3_takeByte σ).2))
        obtain ⟨b1, b2, x', b3, b4⟩ := id h2
        by_cases g4 : ¬ (r_X3_readNumber (r_X3_takeByte σ).2).1 = 0
        · rw [if_pos g4]
          by_cases g5 : ¬ v_X0_fits (r_X3_readNumber (r_X3_takeByte σ).2).2 7 (r_X3_takeByte σ).1 ((r_X3_readNumber (r_X3_takeByte σ).2).2 5 3) = 0
          · rw [if_pos g5]
            have hO := mrun_OK a4.2.1 a4.2.2.2.1 k x a3
            have g2' := (canCome_iff a1 a2 a4 hO.1 hO.2.1).mp g2
            have exx : x' = x := by
              rw [K_num.row (σ := (r_X3_takeByte σ).2) (q := 33) (by decide), K_num.row (σ := (r_X3_takeByte σ).2) (q := 34) (by decide)] at b3
              exact Option.some.inj (b3.symm.trans a3)
            subst exx
            obtain ⟨c1, c2⟩ := cplay_can (n := (r_X3_readNumber (r_X3_takeByte σ).2).2 5 3) b1 b2 b4 b3 g1 ((canCome_iff b1 b2 b4 hO.1 hO.2.1).mpr g2') (fun _ => g5)
            obtain ⟨r1, r2⟩ := crec_st b1 c1 b4 b3 c2
            exact ⟨k + 1, by omega, r1, (K_take.tr K_num).v.tr r2⟩
          · rw [if_neg g5]; exact ⟨k, Nat.le_refl _, h2, (K_take.tr K_num).v⟩
        · rw [if_neg g4]; exact ⟨k, Nat.le_refl _, h2, (K_take.tr K_num).v⟩
    · rw [if_neg g2]; exact ⟨k, Nat.le_refl _, h1, K_take.v⟩
  · rw [if_neg g1]; exact ⟨k, Nat.le_refl _, h1, K_take.v⟩
/-! between calls -/
def CInv (σ : sg_S) (T S : Nat → Nat) (k t : Nat) : Prop := CSt T S σ k ∧ σ 5 1 = N t ∧ t ≤ 500
theorem cev57 {σ : sg_S} {T S : Nat → Nat} {k k0 : Nat} {x0 : mS} (h : CSt T S σ k) (hk : k0 ≤ 400) (hx0 : mrun T S (σ 33) (σ 34) k0 = some x0) : (∃ k', CInv (r_X4_events_a57 σ (N k0)).2 T S k' 0) ∧ HiS σ (r_X4_events_a57 σ (N k0)).2 := by
  unfold r_X4_events_a57
  by_cases g : (sg_up σ 5 1 0) 0 7 = 0
  · rw [if_pos g]
    dsimp only
    exact ⟨⟨k, CSt_fr h (by rw [up_c (by decide)]) (fun j _ => ⟨by rw [up_c (by decide)], by rw [up_c (by decide)]⟩) (fun q j hq => by rw [up_c (by omega)]), up_eq, by decide⟩, HiS_u (by decide)⟩
  · rw [if_neg g]
    obtain ⟨a1, a2, x, a3, a4⟩ := h
    have e33 : (sg_up (sg_up σ 5 1 0) 0 6 (N k0)) 33 = σ 33 := funext (fun j => by rw [up_c (by decide), up_c (by decide)])
    have e34 : (sg_up (sg_up σ 5 1 0) 0 6 (N k0)) 34 = σ 34 := funext (fun j => by rw [up_c (by decide), up_c (by decide)])
    obtain ⟨r1, r2⟩ := replay_ok (σ := sg_up (sg_up σ 5 1 0) 0 6 (N k0)) (c := 7) (y := x0) (by decide) (by decide) (TabAt_up (TabAt_up a4.1 (by decide)) (by decide)) a4.2.1 (SetAt_up (SetAt_up a4.2.2.1 (by decide)) (by decide)) a4.2.2.2.1 hk (by rw [e33, e34]; exact hx0)
    dsimp only
    unfold t_X4_events_0
    refine ⟨⟨k0, ⟨?_, hk, x0, ?_, r1⟩, ?_, by decide⟩, ((HiS_u (by decide)).tr (HiS_u (by decide))).tr (r2.hi (by decide))⟩
    · rw [r2 0 6 (by decide), up_eq]
    · rw [r2.row (q := 33) (by decide), r2.row (q := 34) (by decide), e33, e34]; exact hx0
    · rw [r2 5 1 (by decide), up_c (by decide), up_eq]; rfl
theorem cev19 {T S : Nat → Nat} {k0 : Nat} (hk0 : k0 ≤ 400) {x0 : mS} : ∀ (n j k : Nat) (σ : sg_S), j ≤ 500 → 500 - j < n → k0 ≤ k → CSt T S σ k → mrun T S (σ 33) (σ 34) k0 = some x0 → (∃ k', CInv (r_X4_events_l19 n σ (N k0) (N j)).2 T S k' 0) ∧ HiS σ (r_X4_events_l19 n σ (N k0) (N j)).2 := by
  intro n
  induction n with
  | zero => intro j k σ _ hn; omega
  | succ n ih =>
    intro j k σ hj hn hk h hx0
    show (∃ k', CInv (r_X4_events_b19 (r_X4_events_l19 n) σ (N k0) (N j)).2 T S k' 0) ∧ HiS σ (r_X4_events_b19 (r_X4_events_l19 n) σ (N k0) (N j)).2
    unfold r_X4_events_b19
    by_cases e : j = 500
    · have hc : (500 : Int32) ≤ N j := (N14 (L := 500) hj (by decide)).mpr e
      rw [if_pos hc]
      exact cev57 h hk0 hx0
    have hc : ¬ (500 : Int32) ≤ N j := fun z => e ((N14 (L := 500) hj (by decide)).mp z)
    rw [if_neg hc]
    by_cases g1 : ¬ σ 0 7 = 0
    · rw [if_pos g1]; exact cev57 h hk0 hx0
    rw [if_neg g1]
    have h1 := CSt_K h (K_seek (σ := σ))
    have hx1 : mrun T S ((r_X3_seek σ).2 33) ((r_X3_seek σ).2 34) k0 = some x0 := by
      rw [K_seek.row (σ := σ) (q := 33) (by decide), K_seek.row (σ := σ) (q := 34) (by decide)]; exact hx0
    by_cases g2 : (r_X3_seek σ).1 = 0
    · rw [if_pos g2]
      obtain ⟨p1, p2⟩ := cev57 h1 hk0 hx1
      exact ⟨p1, (K_seek (σ := σ)).hi.tr p2⟩
    rw [if_neg g2, N_inc]
    obtain ⟨k', v1, v2, v3⟩ := cev_ok h1
    have h3 : CSt T S (t_X4_events_1 σ (N k0) (N j)) k' := by
      unfold t_X4_events_1
      exact CSt_fr v2 (by rw [up_k (by decide)]) (fun i _ => ⟨by rw [up_c (by decide)], by rw [up_c (by decide)]⟩) (fun q i hq => by rw [up_c (by omega)])
    have hx3 : mrun T S ((t_X4_events_1 σ (N k0) (N j)) 33) ((t_X4_events_1 σ (N k0) (N j)) 34) k0 = some x0 := by
      rw [← hx1]
      refine mrun_congr k0 (fun i hi => ⟨?_, ?_⟩)
      · unfold t_X4_events_1
        rw [up_c (by decide)]
        exact v3 33 i (by decide) (by omega) (by omega) (by omega)
      · unfold t_X4_events_1
        rw [up_c (by decide)]
        exact v3 34 i (by decide) (by omega) (by omega) (by omega)
    obtain ⟨i1, i2⟩ := ih (j + 1) k' (t_X4_events_1 σ (N k0) (N j)) (by omega) (by omega) (by omega) h3 hx3
    have hh : HiS σ (t_X4_events_1 σ (N k0) (N j)) := by
      unfold t_X4_events_1
      exact ((K_seek (σ := σ)).hi.tr v3.hi).tr (HiS_u (by decide))
    exact ⟨i1, hh.tr i2⟩
