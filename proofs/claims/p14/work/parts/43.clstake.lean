/-! THE CLASS TAKES AN EVENT -/
section StpOK
variable {T : Nat → Nat} {mean k i t : Nat} {D : Nat → Nat → Nat}
theorem nxt_OK {E : Nat → Nat} (hok : OK T mean k i t D) (hi : i < 2) (hE : InnOK T (k + 1) E) : OK T mean (k + 1) (nxt T mean i (pd D i E)).1 (nxt T mean i (pd D i E)).2.1 (nxt T mean i (pd D i E)).2.2 := by
  obtain ⟨g1, g2, g3⟩ := OK_next hok hi hE
  by_cases he : ended T mean i (pd D i E)
  · rw [nxt_now (now' := i + 1) (Or.inr rfl) ⟨fun _ => he, fun _ => rfl⟩]
    exact g2 he
  · rw [nxt_now (now' := i) (Or.inl rfl) ⟨fun z => by omega, fun z => absurd z he⟩]
    exact g3 he
theorem stp_OK {e n : Int32} {y : mS} (hT : TabOK T) (hok : OK T mean k i t D) (hs : stp T mean (i, t, D) e n = some y) : OK T mean (k + 1) y.1 y.2.1 y.2.2 := by
  obtain ⟨o1, o2, o3, o4, o5, o6, o7⟩ := id hok
  unfold stp at hs
  dsimp only at hs
  by_cases he : e = 100
  · rw [if_pos he] at hs
    by_cases hc : (i = 0 ∨ i = 1 ∧ t = 0) ∧ 1 ≤ ni n ∧ ni n < D 1 3
    · rw [if_pos hc] at hs
      cases hs
      dsimp only
      obtain ⟨hE, h1, h2⟩ := hc
      obtain ⟨d1, d2, d3⟩ := eD_ok hT (o4 1 (by decide)) (o6 hE) (o5 1 (by decide) (by omega)) h1 h2
      refine ⟨o1, o2, o3, fun j hj => ?_, fun j hj hn => ?_, fun _ => ?_, fun _ _ => ?_⟩
      · by_cases e : j = 1
        · subst e; rw [pd_eq]; exact d1
        · rw [pd_ne e]; exact InnOK_mono (o4 j hj)
      · by_cases e : j = 1
        · subst e; rw [pd_eq]; exact d3
        · rw [pd_ne e]; exact o5 j hj hn
      · rw [pd_eq]; exact d2
      · rw [show pd D 1 (eD T (D 1) (ni n)) 1 = eD T (D 1) (ni n) from pd_eq, d2.1]
        exact tgt_pos _ _ _ _ _
    · rw [if_neg hc] at hs; cases hs
  rw [if_neg he] at hs
  by_cases h2 : 2 ≤ i
  · rw [if_pos h2] at hs; cases hs
  rw [if_neg h2] at hs
  have hi : i < 2 := by omega
  have hI := o4 i hi
  have hL := o5 i hi (Nat.le_refl i)
  by_cases h99 : e = 99
  · rw [if_pos h99] at hs
    by_cases hc : 1 ≤ ni n ∧ ni n < D i 3 ∧ D i 2 ≤ 6 * ni n
    · rw [if_pos hc] at hs
      cases hs
      exact nxt_OK hok hi (eC_ok hT hI hL hc.1 hc.2.1 hc.2.2)
    · rw [if_neg hc] at hs; cases hs
  rw [if_neg h99] at hs
  by_cases h47 : e = 47
  · rw [if_pos h47] at hs
    cases hs
    exact nxt_OK hok hi (eS_ok hI)
  rw [if_neg h47] at hs
  by_cases hE : e = 119 ∨ e = 110
  · rw [if_pos hE] at hs
    cases hs
    exact nxt_OK hok hi (eE_ok hI hL)
  rw [if_neg hE] at hs
  by_cases hX : e = 120
  · rw [if_pos hX] at hs
    cases hs
    exact nxt_OK hok hi (eX_ok hT hI hL)
  rw [if_neg hX] at hs
  by_cases hB : 48 ≤ ni e ∧ ni e ≤ 54
  · rw [if_pos hB] at hs
    cases hs
    exact nxt_OK hok hi (eB_ok hT hI hL (by omega))
  rw [if_neg hB] at hs
  cases hs
end StpOK
theorem mrun_OK {T S : Nat → Nat} {ev nu : Nat → Int32} (hK : TabOK T) (hSK : SetOK S) : ∀ (k : Nat) (x : mS), mrun T S ev nu k = some x → OK T (S 1) k x.1 x.2.1 x.2.2 := by
  intro k
  induction k with
  | zero => intro x h; cases h; exact begn_OK hK hSK
  | succ k ih =>
    intro x h
    obtain ⟨y, hy, hs⟩ := mrun_pre h
    exact stp_OK hK (ih y hy) hs
section CTake
variable {σ : sg_S} {T S : Nat → Nat} {k c i t : Nat} {D : Nat → Nat → Nat}
theorem side_eq (hi : i < 2) : v_X0_side c (N i) = c + 1 + 6 * i := by
  unfold v_X0_side
  rcases (show i = 0 ∨ i = 1 by omega) with rfl | rfl
  · rw [if_neg (fun h => h rfl)]
  · rw [if_pos (by decide)]
theorem CAt.pic {now : Nat} (h : CAt σ c T S now t D) (hi : i < 2) : CPic σ (c + 1 + 6 * i) (D i) := by
  rcases (show i = 0 ∨ i = 1 by omega) with rfl | rfl
  · exact h.2.2.2.2.2.2.1
  · exact h.2.2.2.2.2.2.2
theorem cworthLeft_eq (h : CAt σ c T S i t D) (hi : i < 2) (hI : InnOK T k (D i)) : v_X0_worthLeft σ c = N (WL T (D i)) := by
  obtain ⟨a1, a2, a3, a4, -⟩ := hI
  have hP := h.pic hi
  unfold v_X0_worthLeft
  rw [h.2.2.2.2.1, side_eq hi, hP 1 (by decide), hP 2 (by decide), hP 3 (by decide), show (6 : Int32) = N 6 from rfl, N_mul, N_sub a3]
  exact worth2 h.1 h.2.1 (by omega) a4
theorem clossByCut_eq {n : Nat} (h : CAt σ c T S i t D) (hi : i < 2) (hI : InnOK T k (D i)) (hn : n ≤ D i 3) (hb : D i 2 ≤ 6 * n) : v_X0_lossByCut σ c (N n) = N (WL T (D i) - wN T (6 * n - D i 2) (D i 1)) := by
  obtain ⟨a1, a2, a3, a4, -⟩ := id hI
  have hP := h.pic hi
  have hm : wN T (6 * n - D i 2) (D i 1) ≤ WL T (D i) := wN_mono' h.2.1 a4 (by omega) (by omega)
  unfold v_X0_lossByCut
  rw [cworthLeft_eq h hi hI, h.2.2.2.2.1, side_eq hi, hP 1 (by decide), hP 2 (by decide), show (6 : Int32) = N 6 from rfl, N_mul, N_sub hb, worth2 h.1 h.2.1 (by omega) a4, N_sub hm]
theorem cfirstPart_eq {now : Nat} (h : CAt σ c T S now t D) (h0 : InnOK T k (D 0)) : v_X0_firstPart σ c = N (D 0 7 - D 0 8) := by
  unfold v_X0_firstPart
  rw [h.2.2.2.2.2.2.1 7 (by decide), h.2.2.2.2.2.2.1 8 (by decide), N_sub (InnOK_8 h0)]
theorem cfull_eq (hT : TabAt σ 2 T) : v_X2_full σ = N (30 * T 4) := by
  unfold v_X2_full
  rw [hT 4 (by decide), show (30 : Int32) = N 30 from rfl, N_mul]
theorem ctargetBy_eq {P Q R : Nat} (hT : TabAt σ 2 T) (hK : TabOK T) (hS : SetAt σ 4 S) (hSK : SetOK S) (hP : v_X0_firstPart σ c = N P) (h0 : 0 < P) (h1 : P ≤ 30000) (hQ : Q ≤ 30000) (hR : R ≤ 10000) : v_X0_targetBy σ c (N R) (N Q) = N (tgt T (S 1) R P Q) := by
  have hf := Tab_full hK
  have hf2 := Tab_all hK (k := 4) (by decide)
  have s1 : v_X2_setting σ 1 = N (S 1) := setting_k (k := 1) hS (by decide)
  unfold v_X0_targetBy tgt
  rw [hP, cfull_eq hT, s1, if_neg (by exact g_nle (a := 0) h0 (by omega)), if_pos (by exact g_lt (a := 0) (show 0 < 30 * T 4 by omega) (by omega))]
  by_cases h : P ≤ Q
  · rw [if_pos (g_le h (by omega)), if_neg (by omega)]
    have h2 : S 1 * (Q - P) ≤ 400 * 30000 := Nat.mul_le_mul hSK.2.2.2.1 (by omega)
    rw [N_sub h, N_mul, N_div (by omega) (by omega), N_add, N_inc]
  · rw [if_neg (fun z => h ((N_le (by omega) (by omega)).mp z)), if_pos (by omega)]
    have h2 : R * Q ≤ 10000 * 30000 := Nat.mul_le_mul hR hQ
    rw [N_mul, N_div (by omega) (by omega), N_inc]
theorem chasTarget_eq {now : Nat} (h : CAt σ c T S now t D) (hn : now ≤ 2) (h0 : InnOK T k (D 0)) : v_X0_hasTarget σ c = if 0 < now ∧ 0 < D 0 7 - D 0 8 then 1 else 0 := by
  have a9 : D 0 7 ≤ 30000 := h0.2.2.2.2.2.2.2.2.1
  unfold v_X0_hasTarget
  rw [h.2.2.2.2.1, cfirstPart_eq h h0]
  by_cases g1 : 0 < now
  · rw [if_neg (by exact g_nle (a := 0) g1 (by omega))]
    by_cases g2 : 0 < D 0 7 - D 0 8
    · rw [if_neg (by exact g_nle (a := 0) g2 (by omega)), if_pos ⟨g1, g2⟩]
    · rw [if_pos (by exact g_le (L := 0) (by omega) (by decide)), if_neg (fun z => g2 z.2)]
  · rw [if_pos (by exact g_le (L := 0) (by omega) (by decide)), if_neg (fun z => g1 z.1)]
theorem ctheTarget_eq {now : Nat} (h : CAt σ c T S now t D) (hk : k ≤ 401) (h0 : InnOK T k (D 0)) (h1 : InnOK T k (D 1)) (hp : 0 < D 0 7 - D 0 8) : v_X0_targetBy σ c (σ (c + 1) 0) (σ (c + 7) 7) = N (tgt T (S 1) (D 0 0) (D 0 7 - D 0 8) (D 1 7)) := by
  rw [h.2.2.2.2.2.2.1 0 (by decide), h.2.2.2.2.2.2.2 7 (by decide)]
  obtain ⟨a1, a2, a3, a4, a5, a6, a7, a8, a9, a10⟩ := id h0
  obtain ⟨b1, b2, b3, b4, b5, b6, b7, b8, b9, b10⟩ := id h1
  exact ctargetBy_eq h.1 h.2.1 h.2.2.1 h.2.2.2.1 (cfirstPart_eq h h0) hp (by omega) b9 (by omega)
theorem one_nz : ¬ (1 : Int32) = 0 := by decide
theorem ca121_eq (h : CAt σ c T S i t D) (hi : i < 2) (hk : k ≤ 401) (h0 : InnOK T k (D 0)) (h1 : InnOK T k (D 1)) :
    (ended T (S 1) i D → s_X0_take_a121 c σ (c + 1 + 6 * i) = sg_up σ c 3 (N (i + 1))) ∧ (¬ ended T (S 1) i D → s_X0_take_a121 c σ (c + 1 + 6 * i) = σ) := by
  have hI : InnOK T k (D i) := by rcases (show i = 0 ∨ i = 1 by omega) with rfl | rfl <;> assumption
  obtain ⟨a1, a2, a3, a4, a5, a6, a7, a8, a9, a10⟩ := id hI
  obtain ⟨b1, b2, b3, b4, b5, b6, b7, b8, b9, b10⟩ := id h0
  obtain ⟨c1, c2, c3, c4, c5, c6, c7, c8, c9, c10⟩ := id h1
  have hP := h.pic hi
  have hnow : σ c 3 = N i := h.2.2.2.2.1
  have hW : (¬ v_X1_isWorn σ (c + 1 + 6 * i) = 0) ↔ (D i 6 = 1 ∨ D i 2 = 6 * D i 3 ∨ D i 1 = 10) := by
    unfold v_X1_isWorn
    rw [hP 6 (by decide), hP 1 (by decide), hP 2 (by decide), hP 3 (by decide), show (6 : Int32) = N 6 from rfl, N_mul]
    by_cases z6 : D i 6 = 1
    · rw [if_pos (by rw [z6]; decide)]
      exact ⟨fun _ => Or.inl z6, fun _ => one_nz⟩
    rw [if_neg (by rw [show D i 6 = 0 by omega]; decide)]
    by_cases z1 : D i 1 = 10
    · rw [if_pos (by rw [z1]; decide)]
      exact ⟨fun _ => Or.inr (Or.inr z1), fun _ => one_nz⟩
    rw [if_neg (by exact g_nle (L := 10) (by omega) (by decide))]
    by_cases z2 : D i 2 = 6 * D i 3
    · rw [if_neg (by rw [N_lt (by omega) (by omega)]; omega)]
      exact ⟨fun _ => Or.inr (Or.inl z2), fun _ => one_nz⟩
    · rw [if_pos (by rw [N_lt (by omega) (by omega)]; omega)]
      exact ⟨fun z => absurd rfl z, fun z => by omega⟩
  have hR : (¬ v_X0_targetReached σ c = 0) ↔ (i = 1 ∧ 0 < D 0 7 - D 0 8 ∧ tgt T (S 1) (D 0 0) (D 0 7 - D 0 8) (D 1 7) ≤ D 1 0) := by
    unfold v_X0_targetReached
    rw [hnow, chasTarget_eq h (by omega) h0]
    by_cases z1 : i = 1
    · subst z1
      rw [if_neg (fun z => z rfl)]
      by_cases zp : 0 < D 0 7 - D 0 8
      · have hz : (if 0 < 1 ∧ 0 < D 0 7 - D 0 8 then (1 : Int32) else 0) = 1 := if_pos ⟨by decide, zp⟩
        rw [hz, if_neg one_nz, ctheTarget_eq h hk h0 h1 zp, h.2.2.2.2.2.2.2 0 (by decide)]
        have hle := tgt_le h.2.1 (mean := S 1) (S := D 0 0) (P := D 0 7 - D 0 8) (Q := D 1 7) h.2.2.2.1.2.2.2.1 zp c9 (by omega)
        by_cases zt : D 1 0 < tgt T (S 1) (D 0 0) (D 0 7 - D 0 8) (D 1 7)
        · rw [if_pos ((N_lt (by omega) (by omega)).mpr zt)]
          exact ⟨fun z => absurd rfl z, fun z => by omega⟩
        · rw [if_neg (fun z => zt ((N_lt (by omega) (by omega)).mp z))]
          exact ⟨fun _ => ⟨rfl, zp, by omega⟩, fun _ => one_nz⟩
      · have hz : (if 0 < 1 ∧ 0 < D 0 7 - D 0 8 then (1 : Int32) else 0) = 0 := if_neg (fun z => zp z.2)
        rw [hz, if_pos rfl]
        exact ⟨fun z => absurd rfl z, fun z => absurd z.2.1 zp⟩
    · have e0 : i = 0 := by omega
      subst e0
      rw [if_pos (by decide)]
      exact ⟨fun z => absurd rfl z, fun z => absurd z.1 z1⟩
  refine ⟨fun he => ?_, fun he => ?_⟩
  · unfold s_X0_take_a121
    rw [hnow, N_inc]
    by_cases zw : ¬ v_X1_isWorn σ (c + 1 + 6 * i) = 0
    · rw [if_pos zw]
    · rw [if_neg zw, if_neg (hR.mpr ?_)]
      rcases he with he | he | he | he
      · exact absurd (hW.mpr (Or.inl he)) zw
      · exact absurd (hW.mpr (Or.inr (Or.inl he))) zw
      · exact absurd (hW.mpr (Or.inr (Or.inr he))) zw
      · exact he
  · unfold s_X0_take_a121
    rw [if_neg (fun z => he ?_), if_pos (Decidable.not_not.mp (fun z => he (Or.inr (Or.inr (Or.inr (hR.mp z))))))]
    rcases hW.mp z with g | g | g
    · exact Or.inl g
    · exact Or.inr (Or.inl g)
    · exact Or.inr (Or.inr (Or.inl g))
theorem CAt_now {v now : Nat} (hc : 5 ≤ c) (h : CAt σ c T S now t D) : CAt (sg_up σ c 3 (N v)) c T S v t D :=
  ⟨TabAt_up h.1 (by omega), h.2.1, SetAt_up h.2.2.1 (by omega), h.2.2.2.1, up_eq, by rw [up_k (by decide)]; exact h.2.2.2.2.2.1, fun f hf => by rw [up_c (by omega)]; exact h.2.2.2.2.2.2.1 f hf, fun f hf => by rw [up_c (by omega)]; exact h.2.2.2.2.2.2.2 f hf⟩
theorem CAt_pd {σ1 : sg_S} {E : Nat → Nat} (hc : 5 ≤ c) (h : CAt σ c T S i i D) (hi : i < 2) (hs : ∀ q kk, ¬ (c + 1 + 6 * i ≤ q ∧ q ≤ c + 6 + 6 * i) → σ1 q kk = σ q kk) (hE : CPic σ1 (c + 1 + 6 * i) E) : CAt σ1 c T S i i (pd D i E) ∧ CSame c σ σ1 := by
  refine ⟨⟨fun kk hk => ?_, h.2.1, fun kk hk => ?_, h.2.2.2.1, ?_, ?_, ?_, ?_⟩, fun q kk hq => hs q kk (by omega)⟩
  · rw [hs 2 kk (by omega)]; exact h.1 kk hk
  · rw [hs 4 kk (by omega)]; exact h.2.2.1 kk hk
  · rw [hs c 3 (by omega)]; exact h.2.2.2.2.1
  · rw [hs c 4 (by omega)]; exact h.2.2.2.2.2.1
  · by_cases e : i = 0
    · subst e; rw [pd_eq]; exact hE
    · rw [pd_ne (by omega)]; exact fun f hf => by rw [hs (c + 1) f (by omega)]; exact h.2.2.2.2.2.2.1 f hf
  · by_cases e : i = 1
    · subst e; rw [pd_eq]; exact hE
    · rw [pd_ne (by omega)]; exact fun f hf => by rw [hs (c + 7) f (by omega)]; exact h.2.2.2.2.2.2.2 f hf
theorem cev_fin {σ0 σ1 : sg_S} {E : Nat → Nat} (hc : 5 ≤ c) (hok : OK T (S 1) k i t D) (hi : i < 2) (hk : k ≤ 400) (hE : InnOK T (k + 1) E) (h1 : CAt σ1 c T S i i (pd D i E) ∧ CSame c σ0 σ1) (h0 : CSame c σ σ0) : CAt (s_X0_take_a121 c σ1 (c + 1 + 6 * i)) c T S (nxt T (S 1) i (pd D i E)).1 (nxt T (S 1) i (pd D i E)).2.1 (nxt T (S 1) i (pd D i E)).2.2 ∧ CSame c σ (s_X0_take_a121 c σ1 (c + 1 + 6 * i)) := by
  obtain ⟨g1, g2, g3⟩ := OK_next hok hi hE
  obtain ⟨f1, f2⟩ := ca121_eq h1.1 hi (k := k + 1) (by omega) (g1 0 (by decide)) (g1 1 (by decide))
  by_cases he : ended T (S 1) i (pd D i E)
  · rw [nxt_now (now' := i + 1) (Or.inr rfl) ⟨fun _ => he, fun _ => rfl⟩, f1 he]
    exact ⟨CAt_now hc h1.1, h0.tr (h1.2.tr (CSame_u (by omega)))⟩
  · rw [nxt_now (now' := i) (Or.inl rfl) ⟨fun z => by omega, fun z => absurd z he⟩, f2 he]
    exact ⟨h1.1, h0.tr h1.2⟩
theorem take_nd {e n : Int32} (hc : 5 ≤ c) (h : CAt σ c T S i t D) (hok : OK T (S 1) k i t D) (hi : i < 2) (he : ¬ e = 100) : ∃ σ0, s_X0_take σ c e n = s_X0_take_a36 c σ0 e n ∧ CAt σ0 c T S i i D ∧ CSame c σ σ0 ∧ (∀ q kk, ¬ q = c → σ0 q kk = σ q kk) := by
  have hn : σ c 3 = N i := h.2.2.2.2.1
  unfold s_X0_take
  rw [if_pos he, hn]
  rcases (show i = 0 ∨ i = 1 by omega) with rfl | rfl
  · rw [if_pos (by decide)]
    have ht : t = 0 := hok.2.2.1 rfl
    subst ht
    exact ⟨σ, rfl, h, CSame.rf, fun _ _ _ => rfl⟩
  · rw [if_neg (fun z => z rfl)]
    refine ⟨sg_up σ c 4 0, rfl, ⟨TabAt_up h.1 (by omega), h.2.1, SetAt_up h.2.2.1 (by omega), h.2.2.2.1, by rw [up_k (by decide)]; exact hn, up_eq, fun f hf => by rw [up_c (by omega)]; exact h.2.2.2.2.2.2.1 f hf, fun f hf => by rw [up_c (by omega)]; exact h.2.2.2.2.2.2.2 f hf⟩, CSame_u (by omega), fun q kk hq => up_c hq⟩
theorem take_ok {e n : Int32} (hc : 5 ≤ c) (h : CAt σ c T S i t D) (hok : OK T (S 1) k i t D) (hk : k ≤ 400) {y : mS} (hs : stp T (S 1) (i, t, D) e n = some y) : CAt (s_X0_take σ c e n) c T S y.1 y.2.1 y.2.2 ∧ CSame c σ (s_X0_take σ c e n) := by
  have hT := h.2.1
  obtain ⟨o1, o2, o3, o4, o5, o6, o7⟩ := id hok
  unfold stp at hs
  dsimp only at hs
  by_cases he : e = 100
  · rw [if_pos he] at hs
    by_cases hd : (i = 0 ∨ i = 1 ∧ t = 0) ∧ 1 ≤ ni n ∧ ni n < D 1 3
    · rw [if_pos hd] at hs
      cases hs
      dsimp only
      obtain ⟨hE, h1, h2⟩ := hd
      have hn20 : ni n ≤ 20 := by have := (o4 1 (by decide)).2.1; omega
      have es : s_X0_take σ c e n = cD σ (c + 7) (ni n) (wN T (6 * ni n) 0) := by
        unfold s_X0_take t_X0_take_3 s_X1_beginWith cD
        rw [if_neg (fun z => z he), ← overs_w h.1 hT hn20, ni_pos h1]
      rw [es]
      refine ⟨⟨fun kk hkk => ?_, hT, fun kk hkk => ?_, h.2.2.2.1, ?_, ?_, ?_, ?_⟩, fun q kk hq => ?_⟩
      · simp (disch := omega) only [cD, up_c]; exact h.1 kk hkk
      · simp (disch := omega) only [cD, up_c]; exact h.2.2.1 kk hkk
      · simp (disch := omega) only [cD, up_c]; exact h.2.2.2.2.1
      · simp (disch := omega) only [cD, up_c]; exact h.2.2.2.2.2.1
      · rw [pd_ne (by decide)]
        intro f hf
        simp (disch := omega) only [cD, up_c]
        exact h.2.2.2.2.2.2.1 f hf
      · rw [pd_eq]
        intro f hf
        have hp := h.2.2.2.2.2.2.2
        rcases lt9 hf with rfl | rfl | rfl | rfl | rfl | rfl | rfl | rfl | rfl
        all_goals (unfold cD eD; simp (disch := omega) only [up_eq, up_k, du_eq, du_ne])
        all_goals exact hp _ (by decide)
      · simp (disch := omega) only [cD, up_c]
    · rw [if_neg hd] at hs; cases hs
  rw [if_neg he] at hs
  by_cases h2 : 2 ≤ i
  · rw [if_pos h2] at hs; cases hs
  rw [if_neg h2] at hs
  have hi : i < 2 := by omega
  have hI := o4 i hi
  have hL := o5 i hi (Nat.le_refl i)
  obtain ⟨a1, a2, a3, a4, a5, a6, a7, a8, a9, a10⟩ := id hI
  obtain ⟨l1, l2, l3⟩ := id hL
  obtain ⟨σ0, e0, hA, hS0, hq0⟩ := take_nd (n := n) hc h hok hi he
  have hP := hA.pic hi
  have hsd : v_X0_side c (σ0 c 3) = c + 1 + 6 * i := by rw [hA.2.2.2.2.1]; exact side_eq hi
  have p0 := hP 0 (by decide)
  have p1 := hP 1 (by decide)
  have p2 := hP 2 (by decide)
  have p3 := hP 3 (by decide)
  have p4 := hP 4 (by decide)
  have p5 := hP 5 (by decide)
  have p6 := hP 6 (by decide)
  have p7 := hP 7 (by decide)
  have p8 := hP 8 (by decide)
  have h8 : D i 8 = 0 := by rw [a10, if_neg (by omega)]
  rw [e0]
  by_cases h99 : e = 99
  · rw [if_pos h99] at hs
    by_cases hd : 1 ≤ ni n ∧ ni n < D i 3 ∧ D i 2 ≤ 6 * ni n
    · rw [if_pos hd] at hs
      cases hs
      obtain ⟨g1, g2, g3⟩ := hd
      have hl := clossByCut_eq (n := ni n) hA hi hI (by omega) g3
      rw [ni_pos g1] at hl
      have es : s_X0_take_a36 c σ0 e n = s_X0_take_a121 c (cC σ0 (c + 1 + 6 * i) (ni n) (WL T (D i) - wN T (6 * ni n - D i 2) (D i 1)) (D i)) (c + 1 + 6 * i) := by
        unfold s_X0_take_a36 t_X0_take_1
        rw [if_pos (by rw [h99]; decide), if_neg (fun z => z h99), hsd, hl, ← addCut_eq hP (by omega) (by omega), ni_pos g1]
      rw [es]
      refine cev_fin hc hok hi hk (eC_ok hT hI hL g1 g2 g3) (CAt_pd hc hA hi (fun q kk hq => ?_) (fun f hf => ?_)) hS0
      · simp (disch := omega) only [cC, up_c]
      · rcases lt9 hf with rfl | rfl | rfl | rfl | rfl | rfl | rfl | rfl | rfl
        all_goals (unfold cC eC; simp (disch := omega) only [up_eq, up_c, up_k, du_eq, du_ne])
        all_goals assumption
    · rw [if_neg hd] at hs; cases hs
  rw [if_neg h99] at hs
  by_cases h47 : e = 47
  · rw [if_pos h47] at hs
    cases hs
    have es : s_X0_take_a36 c σ0 e n = s_X0_take_a121 c (cS σ0 (c + 1 + 6 * i) (WL T (D i))) (c + 1 + 6 * i) := by
      unfold s_X0_take_a36 t_X0_take_2 s_X1_addClose cS
      rw [if_neg (fun z => z h47), hsd, cworthLeft_eq hA hi hI]
    rw [es]
    refine cev_fin hc hok hi hk (eS_ok hI) (CAt_pd hc hA hi (fun q kk hq => ?_) (fun f hf => ?_)) hS0
    · simp (disch := omega) only [cS, up_c]
    · rcases lt9 hf with rfl | rfl | rfl | rfl | rfl | rfl | rfl | rfl | rfl
      all_goals (unfold cS eS; simp (disch := omega) only [up_eq, up_k, du_eq, du_ne])
      all_goals first | assumption | rfl
  rw [if_neg h47] at hs
  by_cases hE : e = 119 ∨ e = 110
  · rw [if_pos hE] at hs
    cases hs
    have es : s_X0_take_a36 c σ0 e n = s_X0_take_a121 c (cE σ0 (c + 1 + 6 * i) (D i)) (c + 1 + 6 * i) := by
      unfold s_X0_take_a36
      rw [if_pos h47, if_pos h99, if_pos (by rcases hE with rfl | rfl <;> decide), hsd, addExtra_eq hP (by omega)]
      rcases hE with rfl | rfl
      · rw [if_pos rfl]
      · rw [if_neg (by decide), if_neg (fun z => z rfl)]
    rw [es]
    refine cev_fin hc hok hi hk (eE_ok hI hL) (CAt_pd hc hA hi (fun q kk hq => ?_) (fun f hf => ?_)) hS0
    · simp (disch := omega) only [cE, up_c]
    · rcases lt9 hf with rfl | rfl | rfl | rfl | rfl | rfl | rfl | rfl | rfl
      all_goals (unfold cE eE; simp (disch := omega) only [up_eq, up_c, up_k, du_eq, du_ne])
      all_goals assumption
  rw [if_neg hE] at hs
  by_cases hX : e = 120
  · rw [if_pos hX] at hs
    cases hs
    have es : s_X0_take_a36 c σ0 e n = s_X0_take_a121 c (cX σ0 (c + 1 + 6 * i) (D i)) (c + 1 + 6 * i) := by
      unfold s_X0_take_a36
      rw [if_pos h47, if_pos h99, if_neg (fun z => z hX), hsd, addWicket_eq hP (by omega) l2]
    rw [es]
    refine cev_fin hc hok hi hk (eX_ok hT hI hL) (CAt_pd hc hA hi (fun q kk hq => ?_) (fun f hf => ?_)) hS0
    · simp (disch := omega) only [cX, cB, up_c]
    · rcases lt9 hf with rfl | rfl | rfl | rfl | rfl | rfl | rfl | rfl | rfl
      all_goals (unfold cX cB eX; simp (disch := omega) only [up_eq, up_c, up_k, du_eq, du_ne, Nat.add_zero])
      all_goals assumption
  rw [if_neg hX] at hs
  by_cases hB : 48 ≤ ni e ∧ ni e ≤ 54
  · rw [if_pos hB] at hs
    cases hs
    have ee : N (48 + (ni e - 48)) = e := by
      rw [show 48 + (ni e - 48) = ni e by omega]
      exact ni_pos (by omega)
    have em : e - 48 = N (ni e - 48) := by
      have := e_m (m := ni e - 48)
      rw [ee] at this
      exact this
    have es : s_X0_take_a36 c σ0 e n = s_X0_take_a121 c (cB σ0 (c + 1 + 6 * i) (ni e - 48) (D i)) (c + 1 + 6 * i) := by
      unfold s_X0_take_a36 t_X0_take_0
      rw [if_pos h47, if_pos h99, if_pos hX, if_neg (fun z => hE (Or.inl z)), if_pos (fun z => hE (Or.inr z)), hsd, em, addBall_eq hP (by omega) (by omega)]
    rw [es]
    refine cev_fin hc hok hi hk (eB_ok hT hI hL (by omega)) (CAt_pd hc hA hi (fun q kk hq => ?_) (fun f hf => ?_)) hS0
    · simp (disch := omega) only [cB, up_c]
    · rcases lt9 hf with rfl | rfl | rfl | rfl | rfl | rfl | rfl | rfl | rfl
      all_goals (unfold cB eB; simp (disch := omega) only [up_eq, up_c, up_k, du_eq, du_ne])
      all_goals assumption
  rw [if_neg hB] at hs
  cases hs
end CTake
/-! the class goes through its LOG anew -/
theorem replay6 {c : Nat} {T S : Nat → Nat} {k : Nat} {y : mS} (hc : 5 ≤ c) (hc2 : c + 12 < 33) (hk : k ≤ 400) : ∀ (n j : Nat) (σ : sg_S) (x : mS), j ≤ k → k - j < n → CAt σ c T S x.1 x.2.1 x.2.2 → mrun T S (σ 33) (σ 34) j = some x → mrun T S (σ 33) (σ 34) k = some y → CAt (s_X4_replay_l6 c n σ (N k) (N j)) c T S y.1 y.2.1 y.2.2 ∧ CSame c σ (s_X4_replay_l6 c n σ (N k) (N j)) := by
  intro n
  induction n with
  | zero => intro j σ x _ hn; omega
  | succ n ih =>
    intro j σ x hj hn hR hx hy
    by_cases e : j = k
    · subst e
      have exy : x = y := Option.some.inj (hx.symm.trans hy)
      subst exy
      have es : s_X4_replay_l6 c (n + 1) σ (N j) (N j) = σ := by
        show s_X4_replay_b6 c (s_X4_replay_l6 c n) σ (N j) (N j) = _
        unfold s_X4_replay_b6
        rw [if_pos (Int32.le_refl _)]
      rw [es]
      exact ⟨hR, CSame.rf⟩
    · obtain ⟨z, hz⟩ := mrun_le' hy (j := j + 1) (by omega)
      have hst := hz
      rw [mrun_some hx] at hst
      obtain ⟨g1, g4⟩ := take_ok (y := z) hc hR (mrun_OK hR.2.1 hR.2.2.2.1 j x hx) (by omega) (show stp T (S 1) (x.1, x.2.1, x.2.2) (σ 33 j) (σ 34 j) = some z from hst)
      have r33 := g4.row (q := 33) (by omega)
      have r34 := g4.row (q := 34) (by omega)
      obtain ⟨i2, i4⟩ := ih (j + 1) (s_X0_take σ c (σ 33 j) (σ 34 j)) z (by omega) (by omega) g1 (by rw [r33, r34]; exact hz) (by rw [r33, r34]; exact hy)
      have es : s_X4_replay_l6 c (n + 1) σ (N k) (N j) = s_X4_replay_l6 c n (s_X0_take σ c (σ 33 j) (σ 34 j)) (N k) (N (j + 1)) := by
        show s_X4_replay_b6 c (s_X4_replay_l6 c n) σ (N k) (N j) = _
        unfold s_X4_replay_b6
        rw [if_neg (by rw [N_le (by omega) (by omega)]; omega), if_neg (by exact g_nle (L := 400) (by omega) (by decide)), ni_N (by omega), N_inc]
      rw [es]
      exact ⟨i2, g4.tr i4⟩
theorem replay_ok {σ : sg_S} {c : Nat} {T S : Nat → Nat} {k : Nat} {y : mS} (hc : 5 ≤ c) (hc2 : c + 12 < 33) (hT : TabAt σ 2 T) (hK : TabOK T) (hS : SetAt σ 4 S) (hSK : SetOK S) (hk : k ≤ 400) (hy : mrun T S (σ 33) (σ 34) k = some y) : CAt (s_X4_replay σ c (N k)) c T S y.1 y.2.1 y.2.2 ∧ CSame c σ (s_X4_replay σ c (N k)) := by
  obtain ⟨b2, b4⟩ := crestart_ok hc hT hK hS hSK
  have r33 := b4.row (q := 33) (by omega)
  have r34 := b4.row (q := 34) (by omega)
  obtain ⟨g2, g4⟩ := replay6 hc hc2 hk 600 0 (s_X0_restart σ c) (begn T S) (by omega) (by omega) b2 rfl (by rw [r33, r34]; exact hy)
  exact ⟨g2, b4.tr g4⟩
