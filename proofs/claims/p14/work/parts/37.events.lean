/-! EACH EVENT, IN NATS -/
theorem InnOK_mono {T : Nat → Nat} {k : Nat} {E : Nat → Nat} (h : InnOK T k E) : InnOK T (k + 1) E := by
  obtain ⟨h1, h2, h3, h4, h5, h6, h7, h8, h9, h10⟩ := h
  exact ⟨h1, h2, h3, h4, h5, by omega, h7, h8, h9, h10⟩
theorem OK_next {T : Nat → Nat} {mean k i tch : Nat} {D : Nat → Nat → Nat} {E : Nat → Nat} (h : OK T mean k i tch D) (hi : i < 2) (hE : InnOK T (k + 1) E) :
    (∀ j, j < 2 → InnOK T (k + 1) (pd D i E j)) ∧ (ended T mean i (pd D i E) → OK T mean (k + 1) (i + 1) i (pd D i E)) ∧ (¬ ended T mean i (pd D i E) → OK T mean (k + 1) i i (pd D i E)) := by
  obtain ⟨h1, h2, h3, h4, h5, h6, h7⟩ := h
  have hI : ∀ j, j < 2 → InnOK T (k + 1) (pd D i E j) := by
    intro j hj
    by_cases e : j = i
    · subst e; rw [pd_eq]; exact hE
    · rw [pd_ne e]; exact InnOK_mono (h4 j hj)
  refine ⟨hI, fun he => ?_, fun he => ?_⟩
  · rcases (show i = 0 ∨ i = 1 by omega) with rfl | rfl
    · have ht : tch = 0 := h3 rfl
      have hF := h6 (Or.inl rfl)
      refine ⟨by omega, by omega, fun z => by omega, hI, fun j hj hn => ?_, fun _ => ?_, fun _ _ => ?_⟩
      · rw [pd_ne (by omega)]; exact h5 j hj (by omega)
      · rw [pd_ne (by decide)]; exact hF
      · rw [show pd D 0 E 1 = D 1 from pd_ne (by decide), hF.1]
        exact tgt_pos _ _ _ _ _
    · exact ⟨by omega, by omega, fun z => by omega, hI, fun j hj hn => by omega, fun z => by omega, fun z => by omega⟩
  · have hIi := hI i hi
    have hl : Live (pd D i E i) := by
      obtain ⟨g1, g2, g3, g4, g5, g6, g7, g8, g9, g10⟩ := hIi
      refine ⟨?_, ?_, ?_⟩
      · rcases Nat.lt_or_ge (pd D i E i 2) (6 * pd D i E i 3) with z | z
        · exact z
        · exact absurd (Or.inr (Or.inl (by omega))) he
      · rcases Nat.lt_or_ge (pd D i E i 1) 10 with z | z
        · exact z
        · exact absurd (Or.inr (Or.inr (Or.inl (by omega)))) he
      · rcases (show pd D i E i 6 = 0 ∨ pd D i E i 6 = 1 by omega) with z | z
        · exact z
        · exact absurd (Or.inl z) he
    refine ⟨by omega, by omega, fun z => by omega, hI, fun j hj hn => ?_, fun z => ?_, fun z hp => ?_⟩
    · by_cases e : j = i
      · subst e; exact hl
      · rw [pd_ne e]; exact h5 j hj hn
    · rcases z with rfl | ⟨z1, z2⟩
      · rw [pd_ne (by decide)]; exact h6 (Or.inl rfl)
      · omega
    · rcases Nat.lt_or_ge (pd D i E 1 0) (tgt T mean (pd D i E 0 0) (pd D i E 0 7 - pd D i E 0 8) (pd D i E 1 7)) with g | g
      · exact g
      · exact absurd (Or.inr (Or.inr (Or.inr ⟨z, hp, g⟩))) he
theorem RefAt_pd {σ σ1 : sg_S} {T S : Nat → Nat} {i tch : Nat} {D : Nat → Nat → Nat} {E : Nat → Nat} (h : RefAt σ T S i tch D) (hi : i < 2) (h37 : ∀ q k, q = 37 ∨ q = 36 → σ1 q k = σ q k) (h23 : σ1 35 23 = N i) (h24 : σ1 35 24 = N i) (hpi : RPic σ1 i E) (ho : ∀ q j, (q = 41 ∨ q = 42 ∨ q = 43 ∨ q = 44 ∨ q = 45 ∨ q = 46 ∨ q = 47 ∨ q = 48 ∨ q = 49) → ¬ j = i → σ1 q j = σ q j) : RefAt σ1 T S i i (pd D i E) := by
  refine ⟨fun k hk => by rw [h37 37 k (Or.inl rfl)]; exact h.1 k hk, h.2.1, fun k hk => by rw [h37 36 k (Or.inr rfl)]; exact h.2.2.1 k hk, h.2.2.2.1, h23, h24, ?_, ?_⟩
  · by_cases e : 0 = i
    · subst e; rw [pd_eq]; exact hpi
    · rw [pd_ne e]; exact RPic_set (E' := E) h.2.2.2.2.2.2.1 (fun q hq => ho q 0 hq e)
  · by_cases e : 1 = i
    · subst e; rw [pd_eq]; exact hpi
    · rw [pd_ne e]; exact RPic_set (E' := E) h.2.2.2.2.2.2.2 (fun q hq => ho q 1 hq e)
/-- what one event of an innings makes of its numbers -/
def eB (E : Nat → Nat) (m : Nat) : Nat → Nat := du (du E 0 (E 0 + m)) 2 (E 2 + 1)
def eX (E : Nat → Nat) : Nat → Nat := du (du E 1 (E 1 + 1)) 2 (E 2 + 1)
def eE (E : Nat → Nat) : Nat → Nat := du (du E 0 (E 0 + 1)) 4 (E 4 + 1)
def eC (T : Nat → Nat) (E : Nat → Nat) (n : Nat) : Nat → Nat := du (du (du E 3 n) 5 (E 5 + 1)) 7 (E 7 - (WL T E - wN T (6 * n - E 2) (E 1)))
def eS (T : Nat → Nat) (E : Nat → Nat) : Nat → Nat := du (du E 6 1) 8 (WL T E)
def eD (T : Nat → Nat) (E : Nat → Nat) (n : Nat) : Nat → Nat := du (du E 3 n) 7 (wN T (6 * n) 0)
section EvNum
variable {T : Nat → Nat} {k : Nat} {E : Nat → Nat}
theorem eB_ok {m : Nat} (hT : TabOK T) (h : InnOK T k E) (hl : Live E) (hm : m ≤ 6) : InnOK T (k + 1) (eB E m) := by
  obtain ⟨h1, h2, h3, h4, h5, h6, h7, h8, h9, h10⟩ := h
  obtain ⟨l1, l2, l3⟩ := hl
  have hw : wN T (6 * E 3 - (E 2 + 1)) (E 1) ≤ E 7 := Nat.le_trans (wN_mono' hT h4 (by omega) (by omega)) h8
  unfold InnOK WL eB
  simp (decide := true) only [du_eq, du_ne]
  refine ⟨h1, h2, by omega, h4, h5, by omega, h7, hw, h9, ?_⟩
  rw [h10, if_neg (by omega), if_neg (by omega)]
theorem eX_ok (hT : TabOK T) (h : InnOK T k E) (hl : Live E) : InnOK T (k + 1) (eX E) := by
  obtain ⟨h1, h2, h3, h4, h5, h6, h7, h8, h9, h10⟩ := h
  obtain ⟨l1, l2, l3⟩ := hl
  have hw : wN T (6 * E 3 - (E 2 + 1)) (E 1 + 1) ≤ E 7 := Nat.le_trans (wN_wicket hT (by omega) l2) (Nat.le_trans (wN_mono' hT h4 (by omega) (by omega)) h8)
  unfold InnOK WL eX
  simp (decide := true) only [du_eq, du_ne]
  refine ⟨h1, h2, by omega, by omega, h5, by omega, h7, hw, h9, ?_⟩
  rw [h10, if_neg (by omega), if_neg (by omega)]
theorem eE_ok (h : InnOK T k E) (hl : Live E) : InnOK T (k + 1) (eE E) := by
  obtain ⟨h1, h2, h3, h4, h5, h6, h7, h8, h9, h10⟩ := h
  obtain ⟨l1, l2, l3⟩ := hl
  unfold InnOK WL eE
  unfold WL at h8
  simp (decide := true) only [du_eq, du_ne]
  refine ⟨h1, h2, h3, h4, h5, by omega, h7, h8, h9, ?_⟩
  rw [h10, if_neg (by omega), if_neg (by omega)]
theorem eC_ok {n : Nat} (hT : TabOK T) (h : InnOK T k E) (hl : Live E) (hn : 1 ≤ n) (hn2 : n < E 3) (hb : E 2 ≤ 6 * n) : InnOK T (k + 1) (eC T E n) := by
  obtain ⟨h1, h2, h3, h4, h5, h6, h7, h8, h9, h10⟩ := h
  obtain ⟨l1, l2, l3⟩ := hl
  have hm : wN T (6 * n - E 2) (E 1) ≤ WL T E := wN_mono' hT h4 (by omega) (by omega)
  unfold InnOK eC
  rw [show WL T (du (du (du E 3 n) 5 (E 5 + 1)) 7 (E 7 - (WL T E - wN T (6 * n - E 2) (E 1)))) = wN T (6 * n - E 2) (E 1) by
    unfold WL
    simp (decide := true) only [du_eq, du_ne]]
  simp (decide := true) only [du_eq, du_ne]
  refine ⟨hn, by omega, hb, h4, by omega, by omega, h7, by omega, by omega, ?_⟩
  rw [h10, if_neg (by omega), if_neg (by omega)]
theorem eS_ok (h : InnOK T k E) : InnOK T (k + 1) (eS T E) := by
  obtain ⟨h1, h2, h3, h4, h5, h6, h7, h8, h9, h10⟩ := h
  unfold InnOK eS
  rw [show WL T (du (du E 6 1) 8 (WL T E)) = WL T E by
    unfold WL
    simp (decide := true) only [du_eq, du_ne]]
  simp (decide := true) only [du_eq, du_ne]
  refine ⟨h1, h2, h3, h4, h5, by omega, trivial, h8, h9, ?_⟩
  rw [if_pos trivial]
theorem eD_ok {n : Nat} (hT : TabOK T) (h : InnOK T k E) (hF : Fresh T E) (hl : Live E) (hn : 1 ≤ n) (hn2 : n < E 3) : InnOK T (k + 1) (eD T E n) ∧ Fresh T (eD T E n) ∧ Live (eD T E n) := by
  obtain ⟨h1, h2, h3, h4, h5, h6, h7, h8, h9, h10⟩ := h
  obtain ⟨f0, f1, f2, f4, f5, f7⟩ := hF
  obtain ⟨l1, l2, l3⟩ := hl
  refine ⟨?_, ?_, ?_⟩
  · unfold InnOK eD
    rw [show WL T (du (du E 3 n) 7 (wN T (6 * n) 0)) = wN T (6 * n) 0 by
      unfold WL
      simp (decide := true) only [du_eq, du_ne, f1, f2, Nat.sub_zero]]
    simp (decide := true) only [du_eq, du_ne]
    refine ⟨hn, by omega, by omega, h4, by omega, by omega, h7, Nat.le_refl _, wN_le hT (by omega) (by decide), ?_⟩
    rw [h10, if_neg (by omega), if_neg (by omega)]
  · unfold Fresh eD
    simp (decide := true) only [du_eq, du_ne]
    exact ⟨f0, f1, f2, f4, f5, trivial⟩
  · unfold Live eD
    simp (decide := true) only [du_eq, du_ne]
    exact ⟨by omega, l2, l3⟩
end EvNum
