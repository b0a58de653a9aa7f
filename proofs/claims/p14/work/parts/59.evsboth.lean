/-! BOTH READ ALL EVENTS -/
theorem cev57Y {σ : sg_S} {T S : Nat → Nat} {k c : Nat} (h : CSt T S σ (k + c)) (h7 : σ 0 7 = 0) : r_X4_events_a57 σ (N k) = (N c, sg_up σ 5 1 0) ∧ CInv (sg_up σ 5 1 0) T S (k + c) 0 := by
  unfold r_X4_events_a57
  have e7 : (sg_up σ 5 1 0) 0 7 = 0 := by rw [up_c (by decide)]; exact h7
  have e6 : (sg_up σ 5 1 0) 0 6 = N (k + c) := by rw [up_c (by decide)]; exact h.1
  rw [if_pos e7, e6, N_sub (by omega), show k + c - k = c by omega]
  exact ⟨rfl, CSt_fr h (by rw [up_c (by decide)]) (fun j _ => ⟨by rw [up_c (by decide)], by rw [up_c (by decide)]⟩) (fun q j hq => by rw [up_c (by omega)]), by rw [up_eq]; rfl, by decide⟩
theorem cev57N {σ : sg_S} {T S : Nat → Nat} {k m f : Nat} (h : CSt T S σ m) (hk : k ≤ m) (h7 : σ 0 7 = N f) (hf : 0 < f) (hf2 : f < 10000) : (r_X4_events_a57 σ (N k)).1 = -1 ∧ CInv (r_X4_events_a57 σ (N k)).2 T S k 0 ∧ (r_X4_events_a57 σ (N k)).2 0 7 = N f ∧ ∀ j, (r_X4_events_a57 σ (N k)).2 33 j = σ 33 j ∧ (r_X4_events_a57 σ (N k)).2 34 j = σ 34 j := by
  obtain ⟨a1, a2, x, a3, a4⟩ := h
  obtain ⟨x0, hx0⟩ := mrun_le' a3 hk
  unfold r_X4_events_a57
  have e7 : ¬ (sg_up σ 5 1 0) 0 7 = 0 := by rw [up_c (by decide), h7]; exact N_nz hf (by omega)
  rw [if_neg e7]
  have e33 : (sg_up (sg_up σ 5 1 0) 0 6 (N k)) 33 = σ 33 := funext (fun j => by rw [up_c (by decide), up_c (by decide)])
  have e34 : (sg_up (sg_up σ 5 1 0) 0 6 (N k)) 34 = σ 34 := funext (fun j => by rw [up_c (by decide), up_c (by decide)])
  obtain ⟨r1, r2⟩ := replay_ok (σ := sg_up (sg_up σ 5 1 0) 0 6 (N k)) (c := 7) (y := x0) (by decide) (by decide) (TabAt_up (TabAt_up a4.1 (by decide)) (by decide)) a4.2.1 (SetAt_up (SetAt_up a4.2.2.1 (by decide)) (by decide)) a4.2.2.2.1 (show k ≤ 400 by omega) (by rw [e33, e34]; exact hx0)
  have r33 := r2.row (q := 33) (by decide)
  have r34 := r2.row (q := 34) (by decide)
  dsimp only
  unfold t_X4_events_0
  refine ⟨rfl, ⟨⟨?_, by omega, x0, ?_, r1⟩, ?_, by decide⟩, ?_, fun j => ⟨by rw [r33, e33], by rw [r34, e34]⟩⟩
  · rw [r2 0 6 (by decide), up_eq]
  · rw [r33, r34, e33, e34]; exact hx0
  · rw [r2 5 1 (by decide), up_c (by decide), up_eq]; rfl
  · rw [r2 0 7 (by decide), up_k (by decide), up_c (by decide)]; exact h7
/-- what the events leave in both -/
def EvsO (T S : Nat → Nat) (k : Nat) (A B : Nat → Int32) (z : Int32) (rc rr : Int32 × sg_S) : Prop :=
  (∃ c, k + c ≤ 400 ∧ rc.1 = N c ∧ rr.1 = 1 ∧ rr.2 35 31 = N c ∧ CInv rc.2 T S (k + c) 0 ∧ rc.2 0 7 = 0 ∧ rr.2 35 29 = z ∧ (∀ j, j < k + c → rr.2 39 j = rc.2 33 j ∧ rr.2 40 j = rc.2 34 j)) ∨ (∃ f, rc.1 = -1 ∧ rr.1 = 0 ∧ rr.2 35 29 = N f ∧ rc.2 0 7 = N f ∧ CInv rc.2 T S k 0 ∧ (∀ j, j < k → rc.2 33 j = A j ∧ rc.2 34 j = B j))
theorem skp_two {B : Nat → Int32} {t : Nat} : ∀ (n a : Nat), a + n = t → skp B (t - skp B n a) (skp B n a) = skp B n a := by
  intro n
  induction n with
  | zero => intro a h; rw [show skp B 0 a = a from rfl, show t - a = 0 by omega]; rfl
  | succ n ih =>
    intro a h
    rw [skp_s]
    by_cases g : B a = 32 ∨ B a = 10
    · rw [if_pos g]; exact ih (a + 1) (by omega)
    · rw [if_neg g]; exact skp_id (fun _ => g)
theorem evs_loop {T S : Nat → Nat} {k t : Nat} {A B : Nat → Int32} {z : Int32} : ∀ (m n j c a : Nat) (σ τ : sg_S) (x : mS), t - a < m → t - a < n → j ≤ a → EvI T S k c t a σ τ x → (∀ i, i < t → ¬ σ 6 i = -1) → σ 0 7 = 0 → τ 35 29 = z → (∀ i, i < k → σ 33 i = A i ∧ σ 34 i = B i) → EvsO T S k A B z (r_X4_events_l19 m σ (N k) (N j)) (r_X5_readEvents_l4 n τ) := by
  intro m
  induction m with
  | zero => intro n j c a σ τ x hm; omega
  | succ m ih =>
    intro n j c a σ τ x hm hn hj hI hB h7 hz hA
    cases n with
    | zero => omega
    | succ n =>
    show EvsO T S k A B z (r_X4_events_b19 (r_X4_events_l19 m) σ (N k) (N j)) (r_X5_readEvents_b4 (r_X5_readEvents_l4 n) τ)
    unfold r_X4_events_b19 r_X5_readEvents_b4
    obtain ⟨a1, a2, a3, a4, a5, a6, a7, a8, a9, p1, p2, p3, p4, p5, p6, p7⟩ := id hI
    have ep : skp (τ 57) (t - a) a = skp (σ 6) (t - a) a := skp_congr _ _ (fun j hj => p7 j (by omega))
    have hpl := skp_le (B := σ 6) (t - a) a
    have hss := skp_two (B := τ 57) (t := t) (t - a) a (by omega)
    obtain ⟨s1, s2, s3, -⟩ := cseek_ok p1 p2 p5 p6
    obtain ⟨-, g2, g3⟩ := here_ok p3 p4 p5 p6
    rw [ep] at g2 g3 hss
    generalize hp : skp (σ 6) (t - a) a = p at *
    have h70 : ¬ ¬ σ 0 7 = 0 := fun w => w h7
    by_cases g : p < t
    · have hI1 : EvI T S k c t p (r_X3_seek σ).2 (r_X5_here τ).2 x := EvI_fr hI K_seek (fun q j hq => by rw [g3]; exact up_ne (by omega)) s2 (by rw [g3]; exact up_eq) (by omega)
      have hne : ¬ (r_X5_here τ).1 = -1 := by rw [g2, if_pos g, p7 p g]; exact hB p g
      have hz1 : (r_X5_here τ).2 35 29 = z := by rw [g3, up_k (by decide)]; exact hz
      have e57 : (r_X5_here τ).2 57 = τ 57 := by rw [g3]; exact funext (fun j => up_c (by decide))
      rw [if_neg (by exact g_nle (L := 500) (by omega) (by decide)), if_neg h70, s1, if_pos g, if_neg one_nz, if_neg hne, N_inc]
      have hV := (cev_ok (EvI_st hI1))
      obtain ⟨kk, -, -, hv⟩ := hV
      have hA1 : ∀ i, i < k → (r_X4_readEvent (r_X3_seek σ).2).2 33 i = A i ∧ (r_X4_readEvent (r_X3_seek σ).2).2 34 i = B i := fun i hi => by
        rw [hv 33 i (by decide) (by omega) (by omega) (by omega), hv 34 i (by decide) (by omega) (by omega) (by omega), K_seek 33 i (by omega), K_seek 34 i (by omega)]
        exact hA i hi
      rcases ev_both hI1 g s3 (by rw [e57]; exact hss) hz1 with ⟨a', y, y1, y2, y3, y4, y5⟩ | ⟨f, y1, y2, y3, y4, y5, y6⟩
      · rw [y2, if_pos one_nz]
        obtain ⟨b1, b2, b3, b4, b5, b6, b7, b8, b9, q1, q2, q3, q4, q5, q6, q7⟩ := id y3
        refine ih n (j + 1) (c + 1) a' (t_X4_events_1 σ (N k) (N j)) _ y (by omega) (by omega) (by omega) ?_ (fun i hi => ?_) ?_ y5 (fun i hi => ?_)
        · unfold t_X4_events_1
          exact ⟨CAt_fr b1 (fun q i hq => by rw [up_c (by omega)]), by rw [up_k (by decide)]; exact b2, b3, by rw [show (sg_up (r_X4_readEvent (r_X3_seek σ).2).2 0 7 (r_X4_readEvent (r_X3_seek σ).2).1) 33 = (r_X4_readEvent (r_X3_seek σ).2).2 33 from funext (fun i => up_c (by decide)), show (sg_up (r_X4_readEvent (r_X3_seek σ).2).2 0 7 (r_X4_readEvent (r_X3_seek σ).2).1) 34 = (r_X4_readEvent (r_X3_seek σ).2).2 34 from funext (fun i => up_c (by decide))]; exact b4, b5, b6, b7, b8, fun i hi => by rw [up_c (by decide), up_c (by decide)]; exact b9 i hi, by rw [up_c (by decide)]; exact q1, by rw [up_c (by decide)]; exact q2, q3, q4, q5, q6, fun i hi => by rw [up_c (by decide)]; exact q7 i hi⟩
        · unfold t_X4_events_1
          rw [up_c (by decide), hv 6 i (by decide) (by omega) (by omega) (by omega), K_seek 6 i (by omega)]
          exact hB i hi
        · unfold t_X4_events_1
          rw [up_eq]; exact y1
        · unfold t_X4_events_1
          rw [up_c (by decide), up_c (by decide)]
          exact hA1 i hi
      · rw [y4, if_neg nn0]
        have h7f : (t_X4_events_1 σ (N k) (N j)) 0 7 = N f := by
          unfold t_X4_events_1
          rw [up_eq]; exact y3
        have hSt : CSt T S (t_X4_events_1 σ (N k) (N j)) (k + c) := by
          unfold t_X4_events_1
          exact CSt_fr y6 (by rw [up_k (by decide)]) (fun i _ => ⟨by rw [up_c (by decide)], by rw [up_c (by decide)]⟩) (fun q i hq => by rw [up_c (by omega)])
        have h7n : ¬ (t_X4_events_1 σ (N k) (N j)) 0 7 = 0 := by rw [h7f]; exact N_nz y1 (by omega)
        obtain ⟨m', rfl⟩ : ∃ m', m = m' + 1 := ⟨m - 1, by omega⟩
        have e19 : r_X4_events_l19 (m' + 1) (t_X4_events_1 σ (N k) (N j)) (N k) (N (j + 1)) = r_X4_events_a57 (t_X4_events_1 σ (N k) (N j)) (N k) := by
          show r_X4_events_b19 (r_X4_events_l19 m') (t_X4_events_1 σ (N k) (N j)) (N k) (N (j + 1)) = _
          unfold r_X4_events_b19
          rw [if_pos h7n]
          split
          · rfl
          · rfl
        rw [e19]
        obtain ⟨u1, u2, u3, u4⟩ := cev57N hSt (Nat.le_add_right k c) h7f y1 y2
        refine Or.inr ⟨f, u1, rfl, by dsimp only; exact y5, u3, u2, fun i hi => ?_⟩
        rw [(u4 i).1, (u4 i).2]
        unfold t_X4_events_1
        rw [up_c (by decide), up_c (by decide)]
        exact hA1 i hi
    · have hep : (r_X5_here τ).1 = -1 := by rw [g2, if_neg g]
      have s1' : (r_X3_seek σ).1 = 0 := by rw [s1, if_neg g]
      rw [if_pos hep]
      have fin : ∀ σ' : sg_S, KSame σ σ' → EvsO T S k A B z (r_X4_events_a57 σ' (N k)) (1, (r_X5_here τ).2) := fun σ' hk => by
        have h7' : σ' 0 7 = 0 := by rw [hk 0 7 (by decide)]; exact h7
        obtain ⟨u1, u2⟩ := cev57Y (CSt_K (EvI_st hI) hk) h7'
        rw [u1]
        refine Or.inl ⟨c, a3, rfl, rfl, ?_, u2, ?_, ?_, fun i hi => ?_⟩
        · dsimp only; rw [g3, up_k (by decide)]; exact a7
        · dsimp only; rw [up_c (by decide)]; exact h7'
        · dsimp only; rw [g3, up_k (by decide)]; exact hz
        · dsimp only; rw [g3, up_c (by decide), up_c (by decide), up_c (by decide), up_c (by decide), hk 33 i (by omega), hk 34 i (by omega)]; exact a9 i hi
      by_cases hc5 : (500 : Int32) ≤ N j
      · rw [if_pos hc5]; exact fin σ KSame.rf
      · rw [if_neg hc5, if_neg h70, if_pos s1']; exact fin _ K_seek
/-- the answers of events, and what both hold behind it -/
def EvB (T S : Nat → Nat) (k : Nat) (rc rr : Int32 × sg_S) : Prop :=
  (∃ c, rc.1 = N c ∧ rr.1 = N c ∧ CInv rc.2 T S (k + c) 0 ∧ RInv rr.2 T S (k + c) 0 ∧ rc.2 0 7 = 0 ∧ rr.2 35 27 = 0 ∧ (∀ j, j < k + c → rr.2 39 j = rc.2 33 j ∧ rr.2 40 j = rc.2 34 j)) ∨ (∃ f, rc.1 = -1 ∧ rr.1 = -1 ∧ CInv rc.2 T S k 0 ∧ RInv rr.2 T S k 0 ∧ rc.2 0 7 = N f ∧ rr.2 35 27 = N f ∧ (∀ j, j < k → rr.2 39 j = rc.2 33 j ∧ rr.2 40 j = rc.2 34 j))
theorem both_events {σ σ2 : sg_S} {T S : Nat → Nat} {k t : Nat} (hc : CInv σ T S k t) (hr : RInv σ2 T S k t) (hh : HiS σ σ2) (hT : Tape σ t) (hL : ∀ j, j < k → σ 39 j = σ 33 j ∧ σ 40 j = σ 34 j) : EvB T S k (r_X4_events σ) (r_X5_events σ2) := by
  obtain ⟨⟨c1, c2, xc, c3, c4⟩, ct, c5⟩ := id hc
  obtain ⟨a1, a2, a3, a4, a5, a6, ⟨x, a7⟩, a8, a9⟩ := id hr
  have hx : xc = x := by
    have : mrun T S (σ2 39) (σ2 40) k = mrun T S (σ 33) (σ 34) k := mrun_congr k (fun j hj => by
      rw [hh 39 j (by decide), hh 40 j (by decide)]; exact hL j hj)
    rw [a7, c3] at this
    exact (Option.some.inj this).symm
  subst hx
  have hb : ∀ q j, ¬ (q = 35 ∧ (j = 0 ∨ j = 28 ∨ j = 29 ∨ j = 31)) → s_X5_beginsText σ2 q j = σ2 q j := fun q j hq => by
    rw [beginsText_eq, up_ne (by omega), up_ne (by omega), up_ne (by omega), up_ne (by omega)]
  have b28 : (s_X5_beginsText σ2) 35 28 = N 0 := by rw [beginsText_eq, up_k (by decide), up_k (by decide), up_eq]; rfl
  have b29 : (s_X5_beginsText σ2) 35 29 = 0 := by rw [beginsText_eq, up_k (by decide), up_eq]
  have b31 : (s_X5_beginsText σ2) 35 31 = N 0 := by rw [beginsText_eq, up_eq]; rfl
  have hI : RInv (s_X5_beginsText σ2) T S k t := RInv_of hr (fun j _ => hb 37 j (by omega)) (fun j _ => hb 36 j (by omega)) (hb 35 6 (by decide)) (fun j _ => ⟨hb 39 j (by omega), hb 40 j (by omega)⟩) (by rw [hb 35 26 (by decide)]; exact a8) a9
  have r39 : (s_X5_beginsText σ2) 39 = σ2 39 := funext (fun j => hb 39 j (by omega))
  have r40 : (s_X5_beginsText σ2) 40 = σ2 40 := funext (fun j => hb 40 j (by omega))
  obtain ⟨g1, g2, g3, g4⟩ := goesOn_ok (x := xc) hI (by rw [r39, r40]; exact a7)
  have q39 := g4.row (q := 39) (by decide) (by decide)
  have q40 := g4.row (q := 40) (by decide) (by decide)
  obtain ⟨e1, e2, e3⟩ := revs4 (T := T) (S := S) (k := k) a9 600 0 0 (s_X5_goesOn (s_X5_beginsText σ2)) xc (by omega) (by rw [g4 35 28 (by decide) (by decide)]; exact b28) (by rw [g4 35 26 (by decide) (by decide)]; exact hI.2.2.2.2.2.2.2.1) (by omega) g2 (by rw [g4 35 6 (by decide) (by decide)]; exact hI.2.2.2.2.1) (by rw [g4 35 31 (by decide) (by decide)]; exact b31) (by omega) (by rw [q39, q40, r39, r40]; exact a7)
  have hS : ∀ q j, ¬ (41 ≤ q ∧ q ≤ 56) → ¬ (q = 35 ∧ (j = 0 ∨ j = 23 ∨ j = 24 ∨ (26 ≤ j ∧ j ≤ 32))) → ¬ ((q = 39 ∨ q = 40) ∧ k ≤ j) → (t_X5_events_1 σ2) q j = σ2 q j := fun q j h1 h2 h3 => by
    unfold t_X5_events_1 t_X5_events_0
    rw [up_ne (by omega), up_ne (by omega)]
    refine (e2 q j h1 (by omega) h3).trans ?_
    rw [g4 q j h1 (by omega), hb q j (by omega)]
  have hf : ∀ q j, ¬ (q = 35 ∧ (j = 26 ∨ j = 27)) → (t_X5_events_1 σ2) q j = (r_X5_readEvents (s_X5_beginsText σ2)).2 q j := fun q j h1 => by
    unfold t_X5_events_1 t_X5_events_0
    rw [up_ne (by omega), up_ne (by omega)]
  have h26 : (t_X5_events_1 σ2) 35 26 = N 0 := by
    unfold t_X5_events_1 t_X5_events_0
    rw [up_k (by decide), up_eq]; rfl
  have h27 : (t_X5_events_1 σ2) 35 27 = (r_X5_readEvents (s_X5_beginsText σ2)).2 35 29 := by
    unfold t_X5_events_1 t_X5_events_0
    rw [up_eq, up_k (by decide)]
  have hbad : RInv (t_X5_events_1 σ2) T S k 0 := RInv_of hr (fun j _ => hS 37 j (by decide) (by omega) (by omega)) (fun j _ => hS 36 j (by decide) (by omega) (by omega)) (hS 35 6 (by decide) (by decide) (by omega)) (fun j hj => ⟨hS 39 j (by decide) (by omega) (by omega), hS 40 j (by decide) (by omega) (by omega)⟩) h26 (by decide)
  -- the start of the class
  have k0 : KSame (sg_up σ 0 7 0) (s_X3_rewind (sg_up σ 0 7 0)) := K_rewind
  have hs0 : ∀ q j, ¬ (q = 0 ∧ j = 7) → ¬ (q = 5 ∧ 2 ≤ j ∧ j ≤ 4) → (s_X3_rewind (sg_up σ 0 7 0)) q j = σ q j := fun q j h1 h2 => by
    rw [k0 q j h2, up_ne h1]
  have e54 : (s_X3_rewind (sg_up σ 0 7 0)) 5 4 = N 0 := by
    unfold s_X3_rewind t_X3_rewind_0
    rw [up_eq]; rfl
  have e07 : (s_X3_rewind (sg_up σ 0 7 0)) 0 7 = 0 := by rw [k0 0 7 (by decide), up_eq]
  have z33 : (s_X3_rewind (sg_up σ 0 7 0)) 33 = σ 33 := funext (fun j => hs0 33 j (by omega) (by omega))
  have z34 : (s_X3_rewind (sg_up σ 0 7 0)) 34 = σ 34 := funext (fun j => hs0 34 j (by omega) (by omega))
  have hE : EvI T S k 0 t 0 (s_X3_rewind (sg_up σ 0 7 0)) (s_X5_goesOn (s_X5_beginsText σ2)) xc := by
    refine ⟨CAt_fr c4 (fun q j hq => hs0 q j (by omega) (by omega)), by rw [hs0 0 6 (by decide) (by decide)]; exact c1, by omega, by rw [z33, z34]; exact c3, g2, by rw [g4 35 6 (by decide) (by decide)]; exact hI.2.2.2.2.1, by rw [g4 35 31 (by decide) (by decide)]; exact b31, by rw [q39, q40, r39, r40]; exact a7, fun j hj => ?_, e54, by rw [hs0 5 1 (by decide) (by decide)]; exact ct, by rw [g4 35 28 (by decide) (by decide)]; exact b28, by rw [g4 35 26 (by decide) (by decide)]; exact hI.2.2.2.2.2.2.2.1, by omega, c5, fun j hj => ?_⟩
    · rw [q39, q40, r39, r40, z33, z34, hh 39 j (by decide), hh 40 j (by decide)]; exact hL j (by omega)
    · rw [g4 57 j (by decide) (by omega), hb 57 j (by omega), hh 57 j (by decide), hs0 6 j (by omega) (by omega)]; exact (hT j hj).1
  have hO : EvsO T S k (σ 33) (σ 34) 0 (r_X4_events σ) (r_X5_readEvents (s_X5_beginsText σ2)) := by
    have i := evs_loop (T := T) (S := S) (k := k) (t := t) (A := σ 33) (B := σ 34) (z := 0) 600 600 0 0 0 _ _ xc (by omega) (by omega) (by omega) hE (fun j hj => by rw [hs0 6 j (by omega) (by omega)]; exact (hT j hj).2) e07 (by rw [g4 35 29 (by decide) (by decide)]; exact b29) (fun j hj => ⟨by rw [z33], by rw [z34]⟩)
    unfold r_X4_events r_X5_readEvents
    rw [c1]
    exact i
  unfold r_X5_events
  rcases hO with ⟨c, u1, u2, u3, u4, u5, u6, u7, u8⟩ | ⟨f, u1, u2, u3, u4, u5, u6⟩
  · rw [if_pos (show ¬ (r_X5_readEvents (s_X5_beginsText σ2)).1 = 0 by rw [u3]; exact one_nz)]
    have et : t_X5_events_2 σ2 = sg_up (t_X5_events_1 σ2) 35 6 (N (k + c)) := by
      unfold t_X5_events_2
      rw [hS 35 6 (by decide) (by decide) (by omega), a5, hf 35 31 (by decide), u4, N_add]
    have l39 : ∀ j, (sg_up (t_X5_events_1 σ2) 35 6 (N (k + c))) 39 j = (r_X5_readEvents (s_X5_beginsText σ2)).2 39 j := fun j => by rw [up_c (by decide)]; exact hf 39 j (by omega)
    have l40 : ∀ j, (sg_up (t_X5_events_1 σ2) 35 6 (N (k + c))) 40 j = (r_X5_readEvents (s_X5_beginsText σ2)).2 40 j := fun j => by rw [up_c (by decide)]; exact hf 40 j (by omega)
    have hlog : ∀ j, j < k + c → (sg_up (t_X5_events_1 σ2) 35 6 (N (k + c))) 39 j = (r_X4_events σ).2 33 j ∧ (sg_up (t_X5_events_1 σ2) 35 6 (N (k + c))) 40 j = (r_X4_events σ).2 34 j := fun j hj => by
      rw [l39, l40]; exact u8 j hj
    rw [et]
    refine Or.inl ⟨c, u2, ?_, u5, ⟨TabAt_up hbad.1 (by decide), a2, SetAt_up hbad.2.2.1 (by decide), a4, by dsimp only; rw [up_eq], u1, ?_, by dsimp only; rw [up_k (by decide)]; exact h26, by decide⟩, u6, ?_, hlog⟩
    · dsimp only; rw [up_k (by decide), hf 35 31 (by decide)]; exact u4
    · obtain ⟨-, -, y, y3, -⟩ := u5.1
      exact ⟨y, by rw [← y3]; exact mrun_congr (k + c) hlog⟩
    · dsimp only; rw [up_k (by decide), h27]; exact u7
  · rw [if_neg (fun w => w u2)]
    refine Or.inr ⟨f, u1, rfl, u5, hbad, u4, by dsimp only; rw [h27]; exact u3, fun j hj => ?_⟩
    dsimp only
    rw [hS 39 j (by decide) (by omega) (by omega), hS 40 j (by decide) (by omega) (by omega), hh 39 j (by decide), hh 40 j (by decide), (u6 j hj).1, (u6 j hj).2]
    exact hL j hj
