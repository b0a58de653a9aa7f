/-! THE STATE BEHIND THE CONSTRUCTORS -/
def eq_V (x y : ip_V Int32) : Bool := match x, y with
  | .inl a, .inl b => decide (a = b)
  | .inr (.inl a), .inr (.inl b) => decide (a = b)
  | .inr (.inr (.inl none)), .inr (.inr (.inl none)) => true
  | .inr (.inr (.inl (some a))), .inr (.inr (.inl (some b))) => Nat.beq a b
  | .inr (.inr (.inr a)), .inr (.inr (.inr b)) => Nat.beq a b
  | _, _ => false
theorem eq_V_ok {x y : ip_V Int32} (h : eq_V x y = true) : x = y := by
  rcases x with a | a | (_ | a) | a <;> rcases y with b | b | (_ | b) | b <;> first | rfl | (cases h; done) | (rw [of_decide_eq_true (show decide (a = b) = true from h)]; done) | (rw [Nat.eq_of_beq_eq_true (show Nat.beq a b = true from h)]; done)
def eq_L {α : Type} (e : α → α → Bool) : List α → List α → Bool
  | [], [] => true
  | a :: as, b :: bs => e a b && eq_L e as bs
  | _, _ => false
theorem eq_L_ok {α : Type} {e : α → α → Bool} (he : ∀ a b, e a b = true → a = b) : ∀ (x y : List α), eq_L e x y = true → x = y
  | [], [], _ => rfl
  | [], _ :: _, h => by cases h
  | _ :: _, [], h => by cases h
  | a :: as, b :: bs, h => by
    have h : (e a b && eq_L e as bs) = true := h
    rw [Bool.and_eq_true] at h
    rw [he a b h.1, eq_L_ok he as bs h.2]
def eq_O (x y : Option (ip_V Int32)) : Bool := match x, y with
  | none, none => true
  | some a, some b => eq_V a b
  | _, _ => false
theorem eq_O_ok (x y : Option (ip_V Int32)) (h : eq_O x y = true) : x = y := by
  rcases x with _ | a <;> rcases y with _ | b
  · rfl
  · cases h
  · cases h
  · rw [eq_V_ok (show eq_V a b = true from h)]
def eq_C (x y : Nat × List (ip_V Int32)) : Bool := Nat.beq x.1 y.1 && eq_L eq_V x.2 y.2
theorem eq_C_ok (x y : Nat × List (ip_V Int32)) (h : eq_C x y = true) : x = y := by
  obtain ⟨a, as⟩ := x
  obtain ⟨b, bs⟩ := y
  have h : (Nat.beq a b && eq_L eq_V as bs) = true := h
  rw [Bool.and_eq_true] at h
  rw [Nat.eq_of_beq_eq_true h.1, eq_L_ok (fun a b h => eq_V_ok h) as bs h.2]
def eq_F (r : Option (ip_Fr Int32)) (g : ip_Fr Int32) : Bool := match r with
  | none => false
  | some f => Nat.beq f.1 g.1 && (eq_L eq_O f.2.1 g.2.1 && (eq_L eq_V f.2.2.1 g.2.2.1 && (eq_L eq_C f.2.2.2.1 g.2.2.2.1 && (Nat.beq f.2.2.2.2.1 g.2.2.2.2.1 && (Nat.beq f.2.2.2.2.2.1 g.2.2.2.2.2.1 && (f.2.2.2.2.2.2 == g.2.2.2.2.2.2))))))
theorem eq_F_ok {r : Option (ip_Fr Int32)} {g : ip_Fr Int32} (h : eq_F r g = true) : r = some g := by
  rcases r with _ | f
  · cases h
  · obtain ⟨f1, f2, f3, f4, f5, f6, f7⟩ := f
    obtain ⟨g1, g2, g3, g4, g5, g6, g7⟩ := g
    have h : (Nat.beq f1 g1 && (eq_L eq_O f2 g2 && (eq_L eq_V f3 g3 && (eq_L eq_C f4 g4 && (Nat.beq f5 g5 && (Nat.beq f6 g6 && (f7 == g7))))))) = true := h
    simp only [Bool.and_eq_true] at h
    obtain ⟨h1, h2, h3, h4, h5, h6, h7⟩ := h
    rw [Nat.eq_of_beq_eq_true h1, eq_L_ok eq_O_ok _ _ h2, eq_L_ok (fun a b h => eq_V_ok h) _ _ h3, eq_L_ok eq_C_ok _ _ h4, Nat.eq_of_beq_eq_true h5, Nat.eq_of_beq_eq_true h6, eq_of_beq h7]
def T0 (k : Nat) : Nat := 25 * (k % 5) * (10 - k / 5)
def S0 (k : Nat) : Nat := if k = 0 then 20 else if k = 1 then 150 else if k = 2 then 5 else if k = 3 then 6 else 9
def sg0 : sg_S := fun q k =>
  if q = 2 ∨ q = 37 then N (T0 k) else if q = 4 ∨ q = 36 then N (S0 k) else if q = 7 ∨ q = 20 then (if k = 4 then 1 else 0) else if (q = 8 ∨ q = 14 ∨ q = 21 ∨ q = 27) then (if k = 3 then 20 else if k = 7 then 30000 else 0) else 0
def x0f : ip_Fr Int32 := (0, [some (.inr (.inr (.inr 3))), none, none, none, none, none, none], [], [], 0, 0, true)
def x20f (fz : Bool) : ip_Fr Int32 := (20, [some (.inr (.inr (.inr 3))), some (rf 0), some (rf 35), some (rf 60), none, none, none], [], sg_mk sg0, 61, 4055, fz)
def ro3 : List (List Int32) := [[20, 150, 5, 6, 9], [1, 1, 1, 0, 0], [20, 400, 20, 20, 20]]
def sp20 (j pc : Nat) : Bool := Nat.beq pc 20 && Nat.beq j 207
set_option maxRecDepth 1000000 in
theorem ev_0 : eq_F (ip_run ex_ops ro3 ip_hd sp20 100000 207 x0f) (x20f true) = true := by decide +kernel
theorem ev_1 : ip_run ex_ops ro3 ip_hd sp20 100000 207 x0f = some (x20f true) := eq_F_ok ev_0
theorem T0_OK : TabOK T0 := by
  unfold TabOK
  refine ⟨?_, ?_⟩
  · decide
  · decide
theorem S0_OK : SetOK S0 := by unfold SetOK; decide
theorem T0_at (q : Nat) (hq : q = 2 ∨ q = 37) : TabAt sg0 q T0 := fun k _ => by
  show sg0 q k = _
  unfold sg0
  rw [if_pos hq]
theorem S0_at (q : Nat) (hq : q = 4 ∨ q = 36) : SetAt sg0 q S0 := fun k _ => by
  show sg0 q k = _
  unfold sg0
  rw [if_neg (by omega), if_pos hq]
theorem w0 : wN T0 (6 * S0 0) 0 = 30000 := by decide
theorem C0_pic (q : Nat) (hq : q = 8 ∨ q = 14) : CPic sg0 q (bE T0 S0) := by
  intro f hf
  show sg0 q f = N (bE T0 S0 f)
  unfold sg0 bE
  rw [if_neg (by omega), if_neg (by omega), if_neg (by omega), if_pos (by omega), w0]
  repeat' split
  all_goals rfl
theorem sg0_R : RInv sg0 T0 S0 0 0 := ⟨T0_at 37 (Or.inr rfl), T0_OK, S0_at 36 (Or.inr rfl), S0_OK, rfl, by decide, ⟨_, mrun_0⟩, rfl, by decide⟩
theorem sg0_C : CInv sg0 T0 S0 0 0 := ⟨⟨rfl, by decide, begn T0 S0, mrun_0, T0_at 2 (Or.inl rfl), T0_OK, S0_at 4 (Or.inl rfl), S0_OK, rfl, rfl, C0_pic 8 (Or.inl rfl), C0_pic 14 (Or.inr rfl)⟩, rfl, by decide⟩
theorem Z0 : Zr sg0 := by
  have key : ∀ q j, 9 ≤ q → q ≤ 19 → ¬ q = 14 → sg0 q j = 0 := fun q j h1 h2 h3 => by
    unfold sg0
    rw [if_neg (by omega), if_neg (by omega), if_neg (by omega), if_neg (by omega)]
  refine ⟨fun b j hL => ?_, fun b j hL => ?_⟩
  · have hL : (b = 0 ∧ j < 60) ∨ (b = 1 ∧ j < 5 * 0) ∨ (b = 2 ∧ j < 7) ∨ ((b = 3 ∨ b = 4) ∧ j < 0) := hL
    exact key _ _ (by omega) (by omega) (by omega)
  · have hL : (b = 0 ∧ j < 60) ∨ (b = 1 ∧ j < 5 * 0) ∨ (b = 2 ∧ j < 7) ∨ ((b = 3 ∨ b = 4) ∧ j < 0) := hL
    exact key _ _ (by omega) (by omega) (by omega)
theorem inv0 : Inv3 sg0 := ⟨T0, S0, 0, 0, LA_Z Z0, sg0_C, sg0_R, Tape_0, Lg_0, rfl⟩
theorem lr_start {s : List Int32} (hs : s.length ≤ 3072) : LR s (x20f false) := by
  refine lr_k rfl ?_
  refine lr_step (f1 := LF 23 0 none none [] sg0 61 4055) rfl rfl rfl ?_
  exact law_loop hs 513 0 sg0 none none 61 4055 (by omega) (by omega) inv0 (by decide) (by decide)
