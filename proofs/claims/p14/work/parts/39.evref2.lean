section EvRef2
variable {σ : sg_S} {T S : Nat → Nat} {k i tch : Nat} {D : Nat → Nat → Nat}
/-- a cut -/
theorem ev_cut {n : Nat} (h : RefAt σ T S i tch D) (hok : OK T (S 1) k i tch D) (hi : i < 2) (hk : k ≤ 400) (hn : 1 ≤ n) (hn2 : n < D i 3) (hb : D i 2 ≤ 6 * n) : Res (uC (sg_up σ 35 24 (N i)) i n (WL T (D i) - wN T (6 * n - D i 2) (D i 1)) (D i)) T S k i (pd D i (eC T (D i) n)) (s_X5_goes σ 99 (N n)) ∧ p_X5_goes σ 99 (N n) := by
  have hI := hok.2.2.2.1 i hi
  have hL := hok.2.2.2.2.1 i hi (Nat.le_refl i)
  obtain ⟨a1, a2, a3, a4, a5, a6, a7, a8, a9, a10⟩ := id hI
  obtain ⟨l1, l2, l3⟩ := id hL
  have h0 := RefAt_tch (v := i) h
  have hP := h0.pic hi
  have h8 : D i 8 = 0 := by rw [a10, if_neg (by omega)]
  obtain ⟨g1, g2⟩ := goes_nd (n := N n) (e := 99) h hi (by decide)
  have ht := takes_eq (n := n) hi hP h0.1 h0.2.1 hb (by omega) a2 a4
  have hle : WL T (D i) - wN T (6 * n - D i 2) (D i 1) ≤ D i 7 := by omega
  have hc := cutsTo_eq hi hP (by omega) h8 ht hle
  have hR : RefAt (uC (sg_up σ 35 24 (N i)) i n (WL T (D i) - wN T (6 * n - D i 2) (D i 1)) (D i)) T S i i (pd D i (eC T (D i) n)) := by
    refine RefAt_pd h0 hi ?_ ?_ ?_ ?_ ?_
    · intro q kk hq
      rcases hq with rfl | rfl
      all_goals simp (decide := true) only [uC, up_c]
    · simp (decide := true) only [uC, up_c]; exact h0.2.2.2.2.1
    · simp (decide := true) only [uC, up_c]; exact h0.2.2.2.2.2.1
    · obtain ⟨p0, p1, p2, p3, p4, p5, p6, p7, p8⟩ := hP
      unfold RPic eC uC
      simp (decide := true) only [up_c, up_eq, du_eq, du_ne, h8, Nat.sub_zero]
      rw [h8] at p8
      exact ⟨p0, p1, p2, trivial, p4, trivial, p6, trivial, p8⟩
    · intro q j hq hj
      rcases hq with rfl | rfl | rfl | rfl | rfl | rfl | rfl | rfl | rfl
      all_goals simp (decide := true) only [uC, up_c, up_k hj]
  obtain ⟨r1, r2⟩ := ev_fin hok hi hk (eC_ok h.2.1 hI hL hn hn2 hb) hR (x4 := 0) (by
    unfold eC
    simp (decide := true) only [du_ne]
    rw [l3]
    rfl)
  have hs : s_X5_goes σ 99 (N n) = s_X5_goes_a170 (uC (sg_up σ 35 24 (N i)) i n (WL T (D i) - wN T (6 * n - D i 2) (D i 1)) (D i)) (N i) 0 := by
    rw [g1]
    unfold s_X5_goes_a48
    rw [if_pos (by decide), if_neg (fun z => z rfl), hc]
  have hx : ∀ a, a < 5 → ix (N (100 * i + 5 * D i 5) + N a) 200 := fun a ha => by rw [N_add]; exact ix_N (by omega) (by decide)
  refine ⟨by rw [hs]; exact r1, g2 ⟨bt_i hi, fun _ => ⟨fun z => absurd rfl z, fun _ => ⟨?_, ?_⟩⟩, fun z => absurd (by decide) z⟩⟩
  · have e5 : (sg_up σ 35 24 (N i)) 49 (ni (N i)) = N (D i 5) := by rw [ni_N (by omega)]; exact hP.2.2.2.2.2.1
    have ec : 100 * N i + 5 * (sg_up σ 35 24 (N i)) 49 (ni (N i)) = N (100 * i + 5 * D i 5) := by
      rw [e5, show (100 : Int32) = N 100 from rfl, show (5 : Int32) = N 5 from rfl, N_mul, N_mul, N_add]
    unfold p_X5_cutsTo
    rw [ec]
    refine ⟨ix2 hi, ptakes_eq hi hP hb (by omega) a2 a4, ix2 hi, ix_N (by omega) (by decide), ix2 hi, hx 1 (by decide), ix2 hi, hx 2 (by decide), hx 3 (by decide), hx 4 (by decide), ix2 hi, ix2 hi, ix2 hi, ix2 hi, ix2 hi⟩
  · rw [hc]; exact r2
/-- the innings is closed -/
theorem ev_close {n : Int32} (h : RefAt σ T S i tch D) (hok : OK T (S 1) k i tch D) (hi : i < 2) (hk : k ≤ 400) : Res (uS (sg_up σ 35 24 (N i)) i (WL T (D i)) (D i)) T S k i (pd D i (eS T (D i))) (s_X5_goes σ 47 n) ∧ p_X5_goes σ 47 n := by
  have hI := hok.2.2.2.1 i hi
  have hL := hok.2.2.2.2.1 i hi (Nat.le_refl i)
  obtain ⟨a1, a2, a3, a4, a5, a6, a7, a8, a9, a10⟩ := id hI
  obtain ⟨l1, l2, l3⟩ := id hL
  have h0 := RefAt_tch (v := i) h
  have hP := h0.pic hi
  have h8 : D i 8 = 0 := by rw [a10, if_neg (by omega)]
  obtain ⟨g1, g2⟩ := goes_nd (n := n) (e := 47) h hi (by decide)
  have hP2 : RPic (sg_up (sg_up σ 35 24 (N i)) 47 i 1) i (du (D i) 6 1) := by
    obtain ⟨p0, p1, p2, p3, p4, p5, p6, p7, p8⟩ := hP
    unfold RPic
    simp (decide := true) only [up_c, up_eq, du_eq, du_ne] at p0 p1 p2 p3 p4 p5 p6 p7 p8 ⊢
    exact ⟨p0, p1, p2, p3, p4, p5, trivial, p7, p8⟩
  have hT2 : TabAt (sg_up (sg_up σ 35 24 (N i)) 47 i 1) 37 T := TabAt_up h0.1 (by decide)
  have e2 : du (D i) 6 1 2 = D i 2 := du_ne (by decide)
  have e3 : du (D i) 6 1 3 = D i 3 := du_ne (by decide)
  have e1 : du (D i) 6 1 1 = D i 1 := du_ne (by decide)
  have ht : v_X5_leftWorth (sg_up (sg_up σ 35 24 (N i)) 47 i 1) (N i) = N (WL T (D i)) := by
    rw [leftWorth_eq hi hP2 hT2 h.2.1 (by rw [e2, e3]; exact a3) (by rw [e3]; exact a2) (by rw [e1]; exact a4)]
    unfold WL
    rw [e1, e2, e3]
  have hc := close_eq (y1 := N i) (x2 := n) (x4 := 0) (e := 47) hi (h.pic hi) h8 ht a8
  have hR : RefAt (uS (sg_up σ 35 24 (N i)) i (WL T (D i)) (D i)) T S i i (pd D i (eS T (D i))) := by
    refine RefAt_pd h0 hi ?_ ?_ ?_ ?_ ?_
    · intro q kk hq
      rcases hq with rfl | rfl
      all_goals simp (decide := true) only [uS, up_c]
    · simp (decide := true) only [uS, up_c]; exact h0.2.2.2.2.1
    · simp (decide := true) only [uS, up_c]; exact h0.2.2.2.2.2.1
    · obtain ⟨p0, p1, p2, p3, p4, p5, p6, p7, p8⟩ := hP
      unfold RPic eS uS
      simp (decide := true) only [up_c, up_eq, du_eq, du_ne] at p0 p1 p2 p3 p4 p5 ⊢
      exact ⟨p0, p1, p2, p3, p4, p5, trivial⟩
    · intro q j hq hj
      rcases hq with rfl | rfl | rfl | rfl | rfl | rfl | rfl | rfl | rfl
      all_goals simp (decide := true) only [uS, up_c, up_k hj]
  obtain ⟨r1, r2⟩ := ev_fin hok hi hk (eS_ok hI) hR (x4 := 1) (by
    unfold eS
    simp (decide := true) only [du_ne, du_eq])
  have hs : s_X5_goes σ 47 n = s_X5_goes_a170 (uS (sg_up σ 35 24 (N i)) i (WL T (D i)) (D i)) (N i) 1 := by
    rw [g1]
    unfold s_X5_goes_a48
    rw [if_pos (by decide), if_pos (by decide), if_neg (fun z => z rfl), hc]
  refine ⟨by rw [hs]; exact r1, g2 ⟨bt_i hi, fun _ => ⟨fun _ => ⟨fun z => absurd rfl z, fun _ => ⟨ix2 hi, ?_, ix2 hi, ix2 hi, ix2 hi, ix2 hi, ?_⟩⟩, fun z => absurd (by decide) z⟩, fun z => absurd (by decide) z⟩⟩
  · have e9 : t_X5_goes_3 σ 47 n (N i) 0 (N i) = sg_up (sg_up σ 35 24 (N i)) 47 i 1 := by
      unfold t_X5_goes_3
      rw [ni_N (show i < 2147483648 by omega)]
    rw [e9]
    exact pleftWorth_eq hi hP2 (by rw [e2, e3]; exact a3) (by rw [e3]; exact a2) (by rw [e1]; exact a4)
  · rw [hc]; exact r2
/-- fewer overs for the second innings -/
theorem ev_d {n : Nat} (h : RefAt σ T S i tch D) (hok : OK T (S 1) k i tch D) (hk : k ≤ 400) (hE : i = 0 ∨ i = 1 ∧ tch = 0) (hn : 1 ≤ n) (hn2 : n < D 1 3) : s_X5_goes σ 100 (N n) = uD σ n (wN T (6 * n) 0) ∧ RefAt (uD σ n (wN T (6 * n) 0)) T S i tch (pd D 1 (eD T (D 1) n)) ∧ OK T (S 1) (k + 1) i tch (pd D 1 (eD T (D 1) n)) ∧ p_X5_goes σ 100 (N n) := by
  obtain ⟨o1, o2, o3, o4, o5, o6, o7⟩ := id hok
  have hI := o4 1 (by decide)
  have hL := o5 1 (by decide) (by omega)
  have hF := o6 hE
  obtain ⟨a1, a2, a3, a4, a5, a6, a7, a8, a9, a10⟩ := id hI
  obtain ⟨d1, d2, d3⟩ := eD_ok h.2.1 hI hF hL hn hn2
  have h8 : D 1 8 = 0 := by rw [a10, if_neg (by have := hL.2.2; omega)]
  have ew : 6 * N n = N (6 * n) := by rw [show (6 : Int32) = N 6 from rfl, N_mul]
  have hw : v_X5_worthOf (sg_up σ 44 1 (N n)) (N (6 * n)) 0 = N (wN T (6 * n) 0) := worth5 (w := 0) (TabAt_up h.1 (by decide)) h.2.1 (by omega) (by decide)
  have hs : s_X5_goes σ 100 (N n) = uD σ n (wN T (6 * n) 0) := by
    unfold s_X5_goes t_X5_goes_6 uD
    rw [if_neg (fun z => z rfl), ew, hw]
  refine ⟨hs, ?_, ?_, ?_⟩
  · refine ⟨fun kk hkk => ?_, h.2.1, fun kk hkk => ?_, h.2.2.2.1, ?_, ?_, ?_, ?_⟩
    · simp (decide := true) only [uD, up_c]; exact h.1 kk hkk
    · simp (decide := true) only [uD, up_c]; exact h.2.2.1 kk hkk
    · simp (decide := true) only [uD, up_c]; exact h.2.2.2.2.1
    · simp (decide := true) only [uD, up_c]; exact h.2.2.2.2.2.1
    · rw [pd_ne (by decide)]
      refine RPic_set (E' := D 0) h.2.2.2.2.2.2.1 (fun q hq => ?_)
      rcases hq with rfl | rfl | rfl | rfl | rfl | rfl | rfl | rfl | rfl
      all_goals simp (decide := true) only [uD, up_c, up_k]
    · rw [pd_eq]
      obtain ⟨p0, p1, p2, p3, p4, p5, p6, p7, p8⟩ := h.2.2.2.2.2.2.2
      unfold RPic eD uD
      simp (decide := true) only [up_c, up_eq, du_eq, du_ne, h8, Nat.sub_zero]
      rw [h8] at p8
      exact ⟨p0, p1, p2, trivial, p4, p5, p6, trivial, p8⟩
  · refine ⟨o1, o2, o3, fun j hj => ?_, fun j hj hn => ?_, fun _ => ?_, fun _ _ => ?_⟩
    · by_cases e : j = 1
      · subst e; rw [pd_eq]; exact d1
      · rw [pd_ne e]; exact InnOK_mono (o4 j hj)
    · by_cases e : j = 1
      · subst e; rw [pd_eq]; exact d3
      · rw [pd_ne e]; exact o5 j hj hn
    · rw [pd_eq]; exact d2
    · rw [show pd D 1 (eD T (D 1) n) 1 = eD T (D 1) n from pd_eq, d2.1]
      exact tgt_pos _ _ _ _ _
  · refine ⟨fun z => absurd rfl z, fun _ => ?_⟩
    rw [ew]
    exact pworth5 (w := 0) (by omega) (by decide)
end EvRef2
