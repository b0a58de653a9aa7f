/-! the domain of p1: an int, or any int between two -/
abbrev iv_D : Type := Int32 ⊕ (Int32 × Int32)
def iv_lo (x : iv_D) : Int32 := match x with
  | .inl u => u
  | .inr q => q.1
def iv_hi (x : iv_D) : Int32 := match x with
  | .inl u => u
  | .inr q => q.2
def iv_R (x : iv_D) (i : Int32) : Prop := iv_lo x ≤ i ∧ i ≤ iv_hi x
def iv_dv (o : Nat) : Bool := Nat.beq o 3 || Nat.beq o 4
def iv_bin (o : Nat) (x y : iv_D) : Option iv_D := match x, y with
  | .inl u, .inl v => bif iv_dv o && decide (v = 0) then none else some (.inl (ip_bI o u v))
  | _, _ => bif iv_dv o then none else some (.inr (-2147483648, 2147483647))
def iv_lt (x y : iv_D) : Option Bool := if iv_hi x < iv_lo y then some true else if iv_hi y ≤ iv_lo x then some false else none
def iv_eq (x y : iv_D) : Option Bool := match x, y with
  | .inl u, .inl v => some (decide (u = v))
  | _, _ => if iv_hi x < iv_lo y ∨ iv_hi y < iv_lo x then some false else none
def iv_not (t : Option Bool) : Option Bool := match t with
  | some b => some (!b)
  | none => none
def iv_cmp (o : Nat) (x y : iv_D) : Option Bool := match o with
  | 0 => iv_eq x y
  | 1 => iv_not (iv_eq x y)
  | 2 => iv_lt x y
  | 3 => iv_not (iv_lt x y)
  | 4 => iv_lt y x
  | _ => iv_not (iv_lt y x)
def iv_sng (x : iv_D) : Option Int32 := match x with
  | .inl u => some u
  | .inr _ => none
def iv_ops : ip_O iv_D := (fun i => .inl i, iv_bin, iv_cmp, iv_sng)
def iv_hd (j : Nat) : Nat := bif Nat.beq j 206 then 15 else 17
def iv_st (t : List Int32) : List iv_D := t.map (fun i => .inl i)
def iv_ro (scr : List iv_D) : List (List iv_D) := [iv_st [20, 150, 5, 6, 9], iv_st [1, 1, 1, 0, 0], iv_st [20, 400, 20, 20, 20], scr]
def iv_f0 : ip_Fr iv_D := (0, [some (.inr (.inr (.inr 3))), none, none, none, none, none, none], [], [], 0, 0, true)
noncomputable def iv_yes (r : Option (ip_Fr iv_D)) : Bool := match r with
  | some (pc, _, [.inl (.inl v)], _, mc, ms, _) => (match ip_T 208 pc with
    | some (.ireturn, _, _, _, 1) => decide (v = 1) && (Nat.ble mc 66 && Nat.ble ms 4089)
    | _ => false)
  | _ => false

theorem iv_R_inl {u i : Int32} (h : iv_R (.inl u) i) : i = u := Int32.le_antisymm h.2 h.1
theorem iv_top (i : Int32) : iv_R (.inr (-2147483648, 2147483647)) i := by
  have h1 := Int32.le_toInt i
  have h2 := Int32.toInt_lt i
  constructor
  · show (-2147483648 : Int32) ≤ i
    rw [Int32.le_iff_toInt_le, show (-2147483648 : Int32).toInt = -2147483648 from by decide +kernel]
    omega
  · show i ≤ (2147483647 : Int32)
    rw [Int32.le_iff_toInt_le, show (2147483647 : Int32).toInt = 2147483647 from by decide +kernel]
    omega
theorem iv_lt_ok {x y : iv_D} {t : Bool} {u v : Int32} (h : iv_lt x y = some t) (hx : iv_R x u) (hy : iv_R y v) : decide (u < v) = t := by
  unfold iv_lt at h
  obtain ⟨x1, x2⟩ := hx
  obtain ⟨y1, y2⟩ := hy
  simp only [Int32.le_iff_toInt_le, Int32.lt_iff_toInt_lt] at *
  split at h
  · cases h; rw [decide_eq_true_eq]; omega
  · split at h
    · cases h; rw [decide_eq_false_iff_not]; omega
    · cases h
theorem iv_eq_ok {x y : iv_D} {t : Bool} {u v : Int32} (h : iv_eq x y = some t) (hx : iv_R x u) (hy : iv_R y v) : decide (u = v) = t := by
  unfold iv_eq at h
  split at h
  · cases h
    rw [iv_R_inl hx, iv_R_inl hy]
  · split at h
    · rename_i hd
      cases h
      rw [decide_eq_false_iff_not]
      rintro rfl
      obtain ⟨x1, x2⟩ := hx
      obtain ⟨y1, y2⟩ := hy
      simp only [Int32.le_iff_toInt_le, Int32.lt_iff_toInt_lt] at *
      omega
    · cases h
theorem iv_not_ok {t : Option Bool} {b : Bool} (h : iv_not t = some b) : t = some (!b) := by
  unfold iv_not at h
  split at h
  · cases h; simp
  · cases h
theorem iv_ok : ip_okO iv_R iv_ops := by
  refine ⟨fun i => ⟨Int32.le_refl i, Int32.le_refl i⟩, fun o x y z u v h hx hy => ?_, fun o x y t u v h hx hy => ?_, fun x i u h hx => ?_⟩
  · have h : iv_bin o x y = some z := h
    unfold iv_bin at h
    split at h
    · rename_i a b
      cases iv_R_inl hx
      cases iv_R_inl hy
      cases hb : (iv_dv o && decide (v = 0)) with
      | true => rw [hb] at h; cases h
      | false =>
        rw [hb] at h
        cases h
        refine ⟨fun q => ?_, Int32.le_refl _, Int32.le_refl _⟩
        have hdv : iv_dv o = true := by rcases q with rfl | rfl <;> rfl
        rw [hdv, Bool.true_and] at hb
        exact of_decide_eq_false hb
    · cases hb : iv_dv o with
      | true => rw [hb] at h; cases h
      | false =>
        rw [hb] at h
        cases h
        refine ⟨fun q => ?_, iv_top _⟩
        have hdv : iv_dv o = true := by rcases q with rfl | rfl <;> rfl
        rw [hdv] at hb
        cases hb
  · have h : iv_cmp o x y = some t := h
    unfold iv_cmp at h
    split at h
    · exact iv_eq_ok h hx hy
    · have h1 := iv_eq_ok (iv_not_ok h) hx hy
      show decide (¬ u = v) = t
      rw [decide_not, h1, Bool.not_not]
    · exact iv_lt_ok h hx hy
    · have h1 := iv_lt_ok (iv_not_ok h) hx hy
      show decide (v ≤ u) = t
      rw [show decide (v ≤ u) = !(decide (u < v)) from by rw [← decide_not]; exact decide_eq_decide.mpr Int32.not_lt.symm, h1, Bool.not_not]
    · exact iv_lt_ok h hy hx
    · have h1 := iv_lt_ok (iv_not_ok h) hy hx
      rename_i n1 n2 n3 n4 n5
      have e : ip_cI o u v = decide (u ≤ v) := by
        unfold ip_cI
        split
        · exact absurd rfl n1
        · exact absurd rfl n2
        · exact absurd rfl n3
        · exact absurd rfl n4
        · exact absurd rfl n5
        · rfl
      rw [e, show decide (u ≤ v) = !(decide (v < u)) from by rw [← decide_not]; exact decide_eq_decide.mpr Int32.not_lt.symm, h1, Bool.not_not]
  · have h : iv_sng x = some i := h
    unfold iv_sng at h
    split at h
    · cases h; exact iv_R_inl hx
    · cases h
def iv_hp : ip_Hp iv_D := [(4, [.inr (.inr (.inl (some 1))), .inr (.inr (.inl (some 5))), .inr (.inr (.inl (some 7))), .inr (.inr (.inl (some 20))), .inr (.inr (.inl (some 33))), .inr (.inr (.inl (some 34))), .inl (.inl (0)), .inl (.inl (0)), .inl (.inl (0))]),
  (2, [.inr (.inr (.inl (some 2))), .inr (.inr (.inl (some 3))), .inr (.inr (.inl (some 4)))]),
  (20, [.inl (.inl (0)), .inl (.inl (250)), .inl (.inl (500)), .inl (.inl (750)), .inl (.inl (1000)), .inl (.inl (0)), .inl (.inl (225)), .inl (.inl (450)), .inl (.inl (675)), .inl (.inl (900)), .inl (.inl (0)), .inl (.inl (200)), .inl (.inl (400)), .inl (.inl (600)), .inl (.inl (800)), .inl (.inl (0)), .inl (.inl (175)), .inl (.inl (350)), .inl (.inl (525)), .inl (.inl (700)), .inl (.inl (0)), .inl (.inl (150)), .inl (.inl (300)), .inl (.inl (450)), .inl (.inl (600)), .inl (.inl (0)), .inl (.inl (125)), .inl (.inl (250)), .inl (.inl (375)), .inl (.inl (500)), .inl (.inl (0)), .inl (.inl (100)), .inl (.inl (200)), .inl (.inl (300)), .inl (.inl (400)), .inl (.inl (0)), .inl (.inl (75)), .inl (.inl (150)), .inl (.inl (225)), .inl (.inl (300)), .inl (.inl (0)), .inl (.inl (50)), .inl (.inl (100)), .inl (.inl (150)), .inl (.inl (200)), .inl (.inl (0)), .inl (.inl (25)), .inl (.inl (50)), .inl (.inl (75)), .inl (.inl (100))]),
  (20, List.replicate 50 (.inl (.inl (0)))),
  (20, [.inl (.inl (20)), .inl (.inl (150)), .inl (.inl (5)), .inl (.inl (6)), .inl (.inl (9))]),
  (3, [.inr (.inr (.inl (some 6))), .inl (.inl (0)), .inl (.inl (0)), .inl (.inl (0)), .inl (.inl (0))]),
  (20, List.replicate 500 (.inl (.inl (0)))),
  (0, [.inr (.inr (.inl (some 1))), .inr (.inr (.inl (some 8))), .inr (.inr (.inl (some 14))), .inl (.inl (0)), .inl (.inl (1))]),
  (1, [.inl (.inl (0)), .inl (.inl (0)), .inl (.inl (0)), .inl (.inl (20)), .inl (.inl (0)), .inl (.inl (0)), .inl (.inl (0)), .inl (.inl (30000)), .inl (.inl (0)), .inr (.inr (.inl (some 9))), .inr (.inr (.inl (some 10))), .inr (.inr (.inl (some 11))), .inr (.inr (.inl (some 12))), .inr (.inr (.inl (some 13)))]),
  (20, List.replicate 60 (.inl (.inl (0)))),
  (20, List.replicate 95 (.inl (.inl (0)))),
  (20, List.replicate 7 (.inl (.inl (0)))),
  (20, List.replicate 10 (.inl (.inl (0)))),
  (20, List.replicate 10 (.inl (.inl (0)))),
  (1, [.inl (.inl (0)), .inl (.inl (0)), .inl (.inl (0)), .inl (.inl (20)), .inl (.inl (0)), .inl (.inl (0)), .inl (.inl (0)), .inl (.inl (30000)), .inl (.inl (0)), .inr (.inr (.inl (some 15))), .inr (.inr (.inl (some 16))), .inr (.inr (.inl (some 17))), .inr (.inr (.inl (some 18))), .inr (.inr (.inl (some 19)))]),
  (20, List.replicate 60 (.inl (.inl (0)))),
  (20, List.replicate 95 (.inl (.inl (0)))),
  (20, List.replicate 7 (.inl (.inl (0)))),
  (20, List.replicate 10 (.inl (.inl (0)))),
  (20, List.replicate 10 (.inl (.inl (0)))),
  (0, [.inr (.inr (.inl (some 1))), .inr (.inr (.inl (some 21))), .inr (.inr (.inl (some 27))), .inl (.inl (0)), .inl (.inl (1))]),
  (1, [.inl (.inl (0)), .inl (.inl (0)), .inl (.inl (0)), .inl (.inl (20)), .inl (.inl (0)), .inl (.inl (0)), .inl (.inl (0)), .inl (.inl (30000)), .inl (.inl (0)), .inr (.inr (.inl (some 22))), .inr (.inr (.inl (some 23))), .inr (.inr (.inl (some 24))), .inr (.inr (.inl (some 25))), .inr (.inr (.inl (some 26)))]),
  (20, List.replicate 60 (.inl (.inl (0)))),
  (20, List.replicate 95 (.inl (.inl (0)))),
  (20, List.replicate 7 (.inl (.inl (0)))),
  (20, List.replicate 10 (.inl (.inl (0)))),
  (20, List.replicate 10 (.inl (.inl (0)))),
  (1, [.inl (.inl (0)), .inl (.inl (0)), .inl (.inl (0)), .inl (.inl (20)), .inl (.inl (0)), .inl (.inl (0)), .inl (.inl (0)), .inl (.inl (30000)), .inl (.inl (0)), .inr (.inr (.inl (some 28))), .inr (.inr (.inl (some 29))), .inr (.inr (.inl (some 30))), .inr (.inr (.inl (some 31))), .inr (.inr (.inl (some 32)))]),
  (20, List.replicate 60 (.inl (.inl (0)))),
  (20, List.replicate 95 (.inl (.inl (0)))),
  (20, List.replicate 7 (.inl (.inl (0)))),
  (20, List.replicate 10 (.inl (.inl (0)))),
  (20, List.replicate 10 (.inl (.inl (0)))),
  (20, List.replicate 400 (.inl (.inl (0)))),
  (20, List.replicate 400 (.inl (.inl (0)))),
  (5, [.inl (.inl (0)), .inr (.inr (.inl (some 36))), .inr (.inr (.inl (some 37))), .inr (.inr (.inl (some 38))), .inr (.inr (.inl (some 39))), .inr (.inr (.inl (some 40))), .inl (.inl (0)), .inr (.inr (.inl (some 41))), .inr (.inr (.inl (some 42))), .inr (.inr (.inl (some 43))), .inr (.inr (.inl (some 44))), .inr (.inr (.inl (some 45))), .inr (.inr (.inl (some 46))), .inr (.inr (.inl (some 47))), .inr (.inr (.inl (some 48))), .inr (.inr (.inl (some 49))), .inr (.inr (.inl (some 50))), .inr (.inr (.inl (some 51))), .inr (.inr (.inl (some 52))), .inr (.inr (.inl (some 53))), .inr (.inr (.inl (some 54))), .inr (.inr (.inl (some 55))), .inr (.inr (.inl (some 56))), .inl (.inl (0)), .inl (.inl (0)), .inr (.inr (.inl (some 57))), .inl (.inl (0)), .inl (.inl (0)), .inl (.inl (0)), .inl (.inl (0)), .inl (.inl (0)), .inl (.inl (0)), .inl (.inl (0)), .inr (.inr (.inl (some 58))), .inr (.inr (.inl (some 59)))]),
  (20, [.inl (.inl (20)), .inl (.inl (150)), .inl (.inl (5)), .inl (.inl (6)), .inl (.inl (9))]),
  (20, [.inl (.inl (0)), .inl (.inl (250)), .inl (.inl (500)), .inl (.inl (750)), .inl (.inl (1000)), .inl (.inl (0)), .inl (.inl (225)), .inl (.inl (450)), .inl (.inl (675)), .inl (.inl (900)), .inl (.inl (0)), .inl (.inl (200)), .inl (.inl (400)), .inl (.inl (600)), .inl (.inl (800)), .inl (.inl (0)), .inl (.inl (175)), .inl (.inl (350)), .inl (.inl (525)), .inl (.inl (700)), .inl (.inl (0)), .inl (.inl (150)), .inl (.inl (300)), .inl (.inl (450)), .inl (.inl (600)), .inl (.inl (0)), .inl (.inl (125)), .inl (.inl (250)), .inl (.inl (375)), .inl (.inl (500)), .inl (.inl (0)), .inl (.inl (100)), .inl (.inl (200)), .inl (.inl (300)), .inl (.inl (400)), .inl (.inl (0)), .inl (.inl (75)), .inl (.inl (150)), .inl (.inl (225)), .inl (.inl (300)), .inl (.inl (0)), .inl (.inl (50)), .inl (.inl (100)), .inl (.inl (150)), .inl (.inl (200)), .inl (.inl (0)), .inl (.inl (25)), .inl (.inl (50)), .inl (.inl (75)), .inl (.inl (100))]),
  (20, List.replicate 50 (.inl (.inl (0)))),
  (20, List.replicate 400 (.inl (.inl (0)))),
  (20, List.replicate 400 (.inl (.inl (0)))),
  (20, [.inl (.inl (0)), .inl (.inl (0))]),
  (20, [.inl (.inl (0)), .inl (.inl (0))]),
  (20, [.inl (.inl (0)), .inl (.inl (0))]),
  (20, [.inl (.inl (0)), .inl (.inl (0))]),
  (20, [.inl (.inl (0)), .inl (.inl (0))]),
  (20, [.inl (.inl (0)), .inl (.inl (0))]),
  (21, [.inl (.inl (0)), .inl (.inl (0))]),
  (20, [.inl (.inl (0)), .inl (.inl (0))]),
  (20, [.inl (.inl (0)), .inl (.inl (0))]),
  (20, List.replicate 200 (.inl (.inl (0)))),
  (20, List.replicate 20 (.inl (.inl (0)))),
  (20, List.replicate 20 (.inl (.inl (0)))),
  (20, List.replicate 40 (.inl (.inl (0)))),
  (20, List.replicate 40 (.inl (.inl (0)))),
  (20, List.replicate 40 (.inl (.inl (0)))),
  (20, List.replicate 14 (.inl (.inl (0)))),
  (20, List.replicate 500 (.inl (.inl (0)))),
  (20, [.inl (.inl (0)), .inl (.inl (0)), .inl (.inl (0))]),
  (20, [.inl (.inl (0)), .inl (.inl (0)), .inl (.inl (0))]),
  (22, [.inr (.inl (.inl (0)))])]
def iv_L (l : List (ip_V iv_D)) (n : Nat) : List (Option (ip_V iv_D)) := l.map some ++ List.replicate n none
def iv_sp (pc0 : Nat) (j pc : Nat) : Bool := Nat.beq pc pc0 && Nat.beq j 208
def iv_ns (_ _ : Nat) : Bool := false
def iv_f20 : ip_Fr iv_D := (20, [some (.inr (.inr (.inr 3))), some (.inr (.inr (.inl (some 0)))), some (.inr (.inr (.inl (some 35)))), some (.inr (.inr (.inl (some 60)))), none, none, none], [], iv_hp, 61, 4055, true)
def iv_top1 : iv_D := .inr (-2147483648, 2147483647)
def iv_l40 : List (Option (ip_V iv_D)) := [some (.inr (.inr (.inr 3))), some (.inr (.inr (.inl (some 0)))), some (.inr (.inr (.inl (some 35)))), some (.inr (.inr (.inl (some 60)))), some (.inl (.inl (0))), none, none]
def iv_f40 (u : iv_D) : ip_Fr iv_D := (40, iv_l40, [.inl u], iv_hp, 61, 4055, true)
noncomputable def iv_box (k : Int32) (a b c : iv_D) : Bool := iv_yes (ip_run iv_ops (iv_ro [iv_top1, a, b, c, iv_top1, iv_top1]) iv_hd iv_ns 100000 208 (iv_f40 (.inl k)))
noncomputable def iv_all (k : Int32) (L : List (iv_D × List (iv_D × List iv_D))) : Bool := L.all (fun x => x.2.all (fun y => y.2.all (fun z => iv_box k x.1 y.1 z)))
