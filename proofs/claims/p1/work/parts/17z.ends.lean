def iv_eD (x y : iv_D) : Bool := match x, y with
  | .inl u, .inl v => decide (u = v)
  | .inr p, .inr q => decide (p.1 = q.1) && decide (p.2 = q.2)
  | _, _ => false
theorem iv_eD_ok {x y : iv_D} (h : iv_eD x y = true) : x = y := by
  rcases x with u | ⟨u1, u2⟩ <;> rcases y with v | ⟨v1, v2⟩
  · rw [show u = v from of_decide_eq_true h]
  · cases h
  · cases h
  · have h : (decide (u1 = v1) && decide (u2 = v2)) = true := h
    rw [Bool.and_eq_true, decide_eq_true_eq, decide_eq_true_eq] at h
    rw [h.1, h.2]
def iv_eV (x y : ip_V iv_D) : Bool := match x, y with
  | .inl a, .inl b => iv_eD a b
  | .inr (.inl a), .inr (.inl b) => iv_eD a b
  | .inr (.inr (.inl none)), .inr (.inr (.inl none)) => true
  | .inr (.inr (.inl (some a))), .inr (.inr (.inl (some b))) => Nat.beq a b
  | .inr (.inr (.inr a)), .inr (.inr (.inr b)) => Nat.beq a b
  | _, _ => false
theorem iv_eV_ok {x y : ip_V iv_D} (h : iv_eV x y = true) : x = y := by
  rcases x with a | a | (_ | a) | a <;> rcases y with b | b | (_ | b) | b <;> first | rfl | (cases h; done) | (rw [iv_eD_ok (show iv_eD a b = true from h)]; done) | (rw [Nat.eq_of_beq_eq_true (show Nat.beq a b = true from h)]; done)
def iv_eL {α : Type} (e : α → α → Bool) : List α → List α → Bool
  | [], [] => true
  | a :: as, b :: bs => e a b && iv_eL e as bs
  | _, _ => false
theorem iv_eL_ok {α : Type} {e : α → α → Bool} (he : ∀ a b, e a b = true → a = b) : ∀ (x y : List α), iv_eL e x y = true → x = y
  | [], [], _ => rfl
  | [], _ :: _, h => by cases h
  | _ :: _, [], h => by cases h
  | a :: as, b :: bs, h => by
    have h : (e a b && iv_eL e as bs) = true := h
    rw [Bool.and_eq_true] at h
    rw [he a b h.1, iv_eL_ok he as bs h.2]
def iv_eO (x y : Option (ip_V iv_D)) : Bool := match x, y with
  | none, none => true
  | some a, some b => iv_eV a b
  | _, _ => false
theorem iv_eO_ok (x y : Option (ip_V iv_D)) (h : iv_eO x y = true) : x = y := by
  rcases x with _ | a <;> rcases y with _ | b
  · rfl
  · cases h
  · cases h
  · rw [iv_eV_ok (show iv_eV a b = true from h)]
def iv_eC (x y : Nat × List (ip_V iv_D)) : Bool := Nat.beq x.1 y.1 && iv_eL iv_eV x.2 y.2
theorem iv_eC_ok (x y : Nat × List (ip_V iv_D)) (h : iv_eC x y = true) : x = y := by
  obtain ⟨a, as⟩ := x
  obtain ⟨b, bs⟩ := y
  have h : (Nat.beq a b && iv_eL iv_eV as bs) = true := h
  rw [Bool.and_eq_true] at h
  rw [Nat.eq_of_beq_eq_true h.1, iv_eL_ok (fun a b h => iv_eV_ok h) as bs h.2]
def iv_is (r : Option (ip_Fr iv_D)) (g : ip_Fr iv_D) : Bool := match r with
  | none => false
  | some f => Nat.beq f.1 g.1 && (iv_eL iv_eO f.2.1 g.2.1 && (iv_eL iv_eV f.2.2.1 g.2.2.1 && (iv_eL iv_eC f.2.2.2.1 g.2.2.2.1 && (Nat.beq f.2.2.2.2.1 g.2.2.2.2.1 && (Nat.beq f.2.2.2.2.2.1 g.2.2.2.2.2.1 && (f.2.2.2.2.2.2 == g.2.2.2.2.2.2))))))
theorem iv_is_ok {r : Option (ip_Fr iv_D)} {g : ip_Fr iv_D} (h : iv_is r g = true) : r = some g := by
  rcases r with _ | f
  · cases h
  · obtain ⟨f1, f2, f3, f4, f5, f6, f7⟩ := f
    obtain ⟨g1, g2, g3, g4, g5, g6, g7⟩ := g
    have h : (Nat.beq f1 g1 && (iv_eL iv_eO f2 g2 && (iv_eL iv_eV f3 g3 && (iv_eL iv_eC f4 g4 && (Nat.beq f5 g5 && (Nat.beq f6 g6 && (f7 == g7))))))) = true := h
    simp only [Bool.and_eq_true] at h
    obtain ⟨h1, h2, h3, h4, h5, h6, h7⟩ := h
    rw [Nat.eq_of_beq_eq_true h1, iv_eL_ok iv_eO_ok f2 g2 h2, iv_eL_ok (fun a b h => iv_eV_ok h) f3 g3 h3, iv_eL_ok iv_eC_ok f4 g4 h4, Nat.eq_of_beq_eq_true h5, Nat.eq_of_beq_eq_true h6, eq_of_beq h7]
set_option maxRecDepth 1000000 in
theorem ev_A0 : iv_is (ip_run iv_ops [iv_st [20, 150, 5, 6, 9], iv_st [1, 1, 1, 0, 0], iv_st [20, 400, 20, 20, 20]] iv_hd (iv_sp 20) 100000 208 iv_f0) iv_f20 = true := by decide +kernel
theorem ev_A : ip_run iv_ops [iv_st [20, 150, 5, 6, 9], iv_st [1, 1, 1, 0, 0], iv_st [20, 400, 20, 20, 20]] iv_hd (iv_sp 20) 100000 208 iv_f0 = some iv_f20 := iv_is_ok ev_A0
set_option maxRecDepth 1000000 in
theorem ev_B0 : iv_is (ip_run iv_ops (iv_ro (List.replicate 6 iv_top1)) iv_hd (iv_sp 40) 100000 208 iv_f20) (iv_f40 iv_top1) = true := by decide +kernel
theorem ev_B : ip_run iv_ops (iv_ro (List.replicate 6 iv_top1)) iv_hd (iv_sp 40) 100000 208 iv_f20 = some (iv_f40 iv_top1) := iv_is_ok ev_B0
set_option maxRecDepth 1000000 in
theorem ev_L : (List.range 6).all (fun L => iv_yes (ip_run iv_ops (iv_ro (List.replicate L iv_top1)) iv_hd iv_ns 100000 208 iv_f20)) = true := by decide +kernel
set_option maxRecDepth 1000000 in
theorem ev_D : iv_yes (ip_run iv_ops (iv_ro (List.replicate 6 iv_top1)) iv_hd iv_ns 100000 208 (1303, iv_l40, [], iv_hp, 61, 4055, true)) = true := by decide +kernel
theorem bx_any (k : Nat) (hk37 : k < 37) : ∃ L, iv_cov L = true ∧ iv_all (Int32.ofNat k) L = true :=
  (Nat.lt_or_ge k 18).elim (fun h18 => (Nat.lt_or_ge k 9).elim (fun h9 => (Nat.lt_or_ge k 4).elim (fun h4 => (Nat.lt_or_ge k 2).elim (fun h2 => (Nat.lt_or_ge k 1).elim (fun h1 => (by
    have hk : k = 0 := by omega
    subst hk
    exact ⟨bl_0, cv_0, bx_0⟩)) (fun h1 => (by
    have hk : k = 1 := by omega
    subst hk
    exact ⟨bl_1, cv_1, bx_1⟩))) (fun h2 => (Nat.lt_or_ge k 3).elim (fun h3 => (by
    have hk : k = 2 := by omega
    subst hk
    exact ⟨bl_2, cv_2, bx_2⟩)) (fun h3 => (by
    have hk : k = 3 := by omega
    subst hk
    exact ⟨bl_3, cv_3, bx_3⟩)))) (fun h4 => (Nat.lt_or_ge k 6).elim (fun h6 => (Nat.lt_or_ge k 5).elim (fun h5 => (by
    have hk : k = 4 := by omega
    subst hk
    exact ⟨bl_4, cv_4, bx_4⟩)) (fun h5 => (by
    have hk : k = 5 := by omega
    subst hk
    exact ⟨bl_5, cv_5, bx_5⟩))) (fun h6 => (Nat.lt_or_ge k 7).elim (fun h7 => (by
    have hk : k = 6 := by omega
    subst hk
    exact ⟨bl_6, cv_6, bx_6⟩)) (fun h7 => (Nat.lt_or_ge k 8).elim (fun h8 => (by
    have hk : k = 7 := by omega
    subst hk
    exact ⟨bl_7, cv_7, bx_7⟩)) (fun h8 => (by
    have hk : k = 8 := by omega
    subst hk
    exact ⟨bl_8, cv_8, bx_8⟩)))))) (fun h9 => (Nat.lt_or_ge k 13).elim (fun h13 => (Nat.lt_or_ge k 11).elim (fun h11 => (Nat.lt_or_ge k 10).elim (fun h10 => (by
    have hk : k = 9 := by omega
    subst hk
    exact ⟨bl_9, cv_9, bx_9⟩)) (fun h10 => (by
    have hk : k = 10 := by omega
    subst hk
    exact ⟨bl_10, cv_10, bx_10⟩))) (fun h11 => (Nat.lt_or_ge k 12).elim (fun h12 => (by
    have hk : k = 11 := by omega
    subst hk
    exact ⟨bl_11, cv_11, bx_11⟩)) (fun h12 => (by
    have hk : k = 12 := by omega
    subst hk
    exact ⟨bl_12, cv_12, bx_12⟩)))) (fun h13 => (Nat.lt_or_ge k 15).elim (fun h15 => (Nat.lt_or_ge k 14).elim (fun h14 => (by
    have hk : k = 13 := by omega
    subst hk
    exact ⟨bl_13, cv_13, bx_13⟩)) (fun h14 => (by
    have hk : k = 14 := by omega
    subst hk
    exact ⟨bl_14, cv_14, bx_14⟩))) (fun h15 => (Nat.lt_or_ge k 16).elim (fun h16 => (by
    have hk : k = 15 := by omega
    subst hk
    exact ⟨bl_15, cv_15, bx_15⟩)) (fun h16 => (Nat.lt_or_ge k 17).elim (fun h17 => (by
    have hk : k = 16 := by omega
    subst hk
    exact ⟨bl_16, cv_16, bx_16⟩)) (fun h17 => (by
    have hk : k = 17 := by omega
    subst hk
    exact ⟨bl_17, cv_17, bx_17⟩))))))) (fun h18 => (Nat.lt_or_ge k 27).elim (fun h27 => (Nat.lt_or_ge k 22).elim (fun h22 => (Nat.lt_or_ge k 20).elim (fun h20 => (Nat.lt_or_ge k 19).elim (fun h19 => (by
    have hk : k = 18 := by omega
    subst hk
    exact ⟨bl_18, cv_18, bx_18⟩)) (fun h19 => (by
    have hk : k = 19 := by omega
    subst hk
    exact ⟨bl_19, cv_19, bx_19⟩))) (fun h20 => (Nat.lt_or_ge k 21).elim (fun h21 => (by
    have hk : k = 20 := by omega
    subst hk
    exact ⟨bl_20, cv_20, bx_20⟩)) (fun h21 => (by
    have hk : k = 21 := by omega
    subst hk
    exact ⟨bl_21, cv_21, bx_21⟩)))) (fun h22 => (Nat.lt_or_ge k 24).elim (fun h24 => (Nat.lt_or_ge k 23).elim (fun h23 => (by
    have hk : k = 22 := by omega
    subst hk
    exact ⟨bl_22, cv_22, bx_22⟩)) (fun h23 => (by
    have hk : k = 23 := by omega
    subst hk
    exact ⟨bl_23, cv_23, bx_23⟩))) (fun h24 => (Nat.lt_or_ge k 25).elim (fun h25 => (by
    have hk : k = 24 := by omega
    subst hk
    exact ⟨bl_24, cv_24, bx_24⟩)) (fun h25 => (Nat.lt_or_ge k 26).elim (fun h26 => (by
    have hk : k = 25 := by omega
    subst hk
    exact ⟨bl_25, cv_25, bx_25⟩)) (fun h26 => (by
    have hk : k = 26 := by omega
    subst hk
    exact ⟨bl_26, cv_26, bx_26⟩)))))) (fun h27 => (Nat.lt_or_ge k 32).elim (fun h32 => (Nat.lt_or_ge k 29).elim (fun h29 => (Nat.lt_or_ge k 28).elim (fun h28 => (by
    have hk : k = 27 := by omega
    subst hk
    exact ⟨bl_27, cv_27, bx_27⟩)) (fun h28 => (by
    have hk : k = 28 := by omega
    subst hk
    exact ⟨bl_28, cv_28, bx_28⟩))) (fun h29 => (Nat.lt_or_ge k 30).elim (fun h30 => (by
    have hk : k = 29 := by omega
    subst hk
    exact ⟨bl_29, cv_29, bx_29⟩)) (fun h30 => (Nat.lt_or_ge k 31).elim (fun h31 => (by
    have hk : k = 30 := by omega
    subst hk
    exact ⟨bl_30, cv_30, bx_30⟩)) (fun h31 => (by
    have hk : k = 31 := by omega
    subst hk
    exact ⟨bl_31, cv_31, bx_31⟩))))) (fun h32 => (Nat.lt_or_ge k 34).elim (fun h34 => (Nat.lt_or_ge k 33).elim (fun h33 => (by
    have hk : k = 32 := by omega
    subst hk
    exact ⟨bl_32, cv_32, bx_32⟩)) (fun h33 => (by
    have hk : k = 33 := by omega
    subst hk
    exact ⟨bl_33, cv_33, bx_33⟩))) (fun h34 => (Nat.lt_or_ge k 35).elim (fun h35 => (by
    have hk : k = 34 := by omega
    subst hk
    exact ⟨bl_34, cv_34, bx_34⟩)) (fun h35 => (Nat.lt_or_ge k 36).elim (fun h36 => (by
    have hk : k = 35 := by omega
    subst hk
    exact ⟨bl_35, cv_35, bx_35⟩)) (fun h36 => (by
    have hk : k = 36 := by omega
    subst hk
    exact ⟨bl_36, cv_36, bx_36⟩)))))))
