def iv_cvF (start : Int) : List iv_D → Bool
  | [] => decide (start = 2147483648)
  | d :: r => decide ((iv_lo d).toInt = start) && iv_cvF ((iv_hi d).toInt + 1) r
def iv_cv (L : List iv_D) : Bool := iv_cvF (-2147483648) L
def iv_cov (L : List (iv_D × List (iv_D × List iv_D))) : Bool := iv_cv (L.map (fun x => x.1)) && L.all (fun x => iv_cv (x.2.map (fun y => y.1)) && x.2.all (fun y => iv_cv y.2))
noncomputable def iv_al2 (k : Int32) (a : iv_D) (L : List (iv_D × List iv_D)) : Bool := L.all (fun y => y.2.all (fun z => iv_box k a y.1 z))
theorem iv_al2_app {k : Int32} {a : iv_D} {L M : List (iv_D × List iv_D)} (h1 : iv_al2 k a L = true) (h2 : iv_al2 k a M = true) : iv_al2 k a (L ++ M) = true := by
  unfold iv_al2 at *
  rw [List.all_append, h1, h2]
  rfl
theorem iv_all_nil {k : Int32} : iv_all k [] = true := rfl
theorem iv_all_cons {k : Int32} {a : iv_D} {L : List (iv_D × List iv_D)} {M : List (iv_D × List (iv_D × List iv_D))} (h1 : iv_al2 k a L = true) (h2 : iv_all k M = true) : iv_all k ((a, L) :: M) = true := by
  unfold iv_all at *
  rw [List.all_cons, h2, Bool.and_true]
  exact h1
theorem iv_all_app {k : Int32} {L M : List (iv_D × List (iv_D × List iv_D))} (h1 : iv_all k L = true) (h2 : iv_all k M = true) : iv_all k (L ++ M) = true := by
  unfold iv_all at *
  rw [List.all_append, h1, h2]
  rfl
def bl_0_0 : List (iv_D × List (iv_D × List iv_D)) := [(.inr (-2147483648, 2147483647), [(.inr (-2147483648, 2147483647), [.inr (-2147483648, 2147483647)])])]
set_option maxRecDepth 1000000 in
theorem bx_0_0 : iv_all 0 bl_0_0 = true := by decide +kernel
def bl_0 : List (iv_D × List (iv_D × List iv_D)) := bl_0_0
theorem cv_0 : iv_cov bl_0 = true := by decide +kernel
theorem bx_0 : iv_all 0 bl_0 = true := bx_0_0
def bl_1_0 : List (iv_D × List (iv_D × List iv_D)) := [(.inr (-2147483648, -1), [(.inr (-2147483648, 2147483647), [.inr (-2147483648, 2147483647)])]), (.inl (0), [(.inr (-2147483648, 2147483647), [.inr (-2147483648, 2147483647)])]), (.inr (1, 2147483647), [(.inr (-2147483648, 2147483647), [.inr (-2147483648, 2147483647)])])]
set_option maxRecDepth 1000000 in
theorem bx_1_0 : iv_all 1 bl_1_0 = true := by decide +kernel
def bl_1 : List (iv_D × List (iv_D × List iv_D)) := bl_1_0
theorem cv_1 : iv_cov bl_1 = true := by decide +kernel
theorem bx_1 : iv_all 1 bl_1 = true := bx_1_0
def bl_2_0 : List (iv_D × List (iv_D × List iv_D)) := [(.inr (-2147483648, 2147483647), [(.inr (-2147483648, 2147483647), [.inr (-2147483648, 2147483647)])])]
set_option maxRecDepth 1000000 in
theorem bx_2_0 : iv_all 2 bl_2_0 = true := by decide +kernel
def bl_2 : List (iv_D × List (iv_D × List iv_D)) := bl_2_0
theorem cv_2 : iv_cov bl_2 = true := by decide +kernel
theorem bx_2 : iv_all 2 bl_2 = true := bx_2_0
def bl_3_0 : List (iv_D × List (iv_D × List iv_D)) := [(.inr (-2147483648, 2147483647), [(.inr (-2147483648, 2147483647), [.inr (-2147483648, 2147483647)])])]
set_option maxRecDepth 1000000 in
theorem bx_3_0 : iv_all 3 bl_3_0 = true := by decide +kernel
def bl_3 : List (iv_D × List (iv_D × List iv_D)) := bl_3_0
theorem cv_3 : iv_cov bl_3 = true := by decide +kernel
theorem bx_3 : iv_all 3 bl_3 = true := bx_3_0
def bl_4_0 : List (iv_D × List (iv_D × List iv_D)) := [(.inr (-2147483648, 2147483647), [(.inr (-2147483648, 2147483647), [.inr (-2147483648, 2147483647)])])]
set_option maxRecDepth 1000000 in
theorem bx_4_0 : iv_all 4 bl_4_0 = true := by decide +kernel
def bl_4 : List (iv_D × List (iv_D × List iv_D)) := bl_4_0
theorem cv_4 : iv_cov bl_4 = true := by decide +kernel
theorem bx_4 : iv_all 4 bl_4 = true := bx_4_0
def bl_5_0 : List (iv_D × List (iv_D × List iv_D)) := [(.inr (-2147483648, -1), [(.inr (-2147483648, 2147483647), [.inr (-2147483648, 2147483647)])])]
set_option maxRecDepth 1000000 in
theorem bx_5_0 : iv_all 5 bl_5_0 = true := by decide +kernel
def bq_5_1_0 : List (iv_D × List iv_D) := [(.inr (-2147483648, 0), [.inr (-2147483648, 2147483647)]), (.inl (1), [.inr (-2147483648, 2147483647)]), (.inl (2), [.inr (-2147483648, 2147483647)]), (.inl (3), [.inr (-2147483648, 2147483647)]), (.inl (4), [.inr (-2147483648, 2147483647)]), (.inl (5), [.inr (-2147483648, 2147483647)]), (.inl (6), [.inr (-2147483648, 2147483647)])]
set_option maxRecDepth 1000000 in
theorem by_5_1_0 : iv_al2 5 (.inl (0)) bq_5_1_0 = true := by decide +kernel
def bq_5_1_1 : List (iv_D × List iv_D) := [(.inl (7), [.inr (-2147483648, 2147483647)]), (.inl (8), [.inr (-2147483648, 2147483647)]), (.inl (9), [.inr (-2147483648, 2147483647)]), (.inl (10), [.inr (-2147483648, 2147483647)]), (.inl (11), [.inr (-2147483648, 2147483647)]), (.inl (12), [.inr (-2147483648, 2147483647)])]
set_option maxRecDepth 1000000 in
theorem by_5_1_1 : iv_al2 5 (.inl (0)) bq_5_1_1 = true := by decide +kernel
def bq_5_1_2 : List (iv_D × List iv_D) := [(.inl (13), [.inr (-2147483648, 2147483647)]), (.inl (14), [.inr (-2147483648, 2147483647)]), (.inl (15), [.inr (-2147483648, 2147483647)]), (.inl (16), [.inr (-2147483648, 2147483647)]), (.inl (17), [.inr (-2147483648, 2147483647)]), (.inl (18), [.inr (-2147483648, 2147483647)])]
set_option maxRecDepth 1000000 in
theorem by_5_1_2 : iv_al2 5 (.inl (0)) bq_5_1_2 = true := by decide +kernel
def bq_5_1_3 : List (iv_D × List iv_D) := [(.inl (19), [.inr (-2147483648, 2147483647)]), (.inl (20), [.inr (-2147483648, 2147483647)]), (.inr (21, 2147483647), [.inr (-2147483648, 2147483647)])]
set_option maxRecDepth 1000000 in
theorem by_5_1_3 : iv_al2 5 (.inl (0)) bq_5_1_3 = true := by decide +kernel
def bl_5_1 : List (iv_D × List (iv_D × List iv_D)) := [(.inl (0), (((bq_5_1_0 ++ bq_5_1_1) ++ bq_5_1_2) ++ bq_5_1_3))]
theorem bx_5_1 : iv_all 5 bl_5_1 = true := iv_all_cons (iv_al2_app (iv_al2_app (iv_al2_app by_5_1_0 by_5_1_1) by_5_1_2) by_5_1_3) iv_all_nil
def bl_5_2 : List (iv_D × List (iv_D × List iv_D)) := [(.inl (1), [(.inr (-2147483648, 0), [.inr (-2147483648, 2147483647)]), (.inr (1, 149), [.inr (-2147483648, 2147483647)]), (.inl (150), [.inr (-2147483648, 2147483647)]), (.inr (151, 400), [.inr (-2147483648, 2147483647)]), (.inr (401, 2147483647), [.inr (-2147483648, 2147483647)])]), (.inl (2), [(.inr (-2147483648, 0), [.inr (-2147483648, 2147483647)]), (.inr (1, 4), [.inr (-2147483648, 2147483647)]), (.inl (5), [.inr (-2147483648, 2147483647)]), (.inr (6, 20), [.inr (-2147483648, 2147483647)]), (.inr (21, 2147483647), [.inr (-2147483648, 2147483647)])])]
set_option maxRecDepth 1000000 in
theorem bx_5_2 : iv_all 5 bl_5_2 = true := by decide +kernel
def bq_5_3_0 : List (iv_D × List iv_D) := [(.inr (-2147483648, -1), [.inr (-2147483648, 2147483647)]), (.inl (0), [.inr (-2147483648, 2147483647)]), (.inl (1), [.inr (-2147483648, 2147483647)]), (.inl (2), [.inr (-2147483648, 2147483647)]), (.inl (3), [.inr (-2147483648, 2147483647)]), (.inl (4), [.inr (-2147483648, 2147483647)]), (.inl (5), [.inr (-2147483648, 2147483647)]), (.inl (6), [.inr (-2147483648, 2147483647)])]
set_option maxRecDepth 1000000 in
theorem by_5_3_0 : iv_al2 5 (.inl (3)) bq_5_3_0 = true := by decide +kernel
def bq_5_3_1 : List (iv_D × List iv_D) := [(.inl (7), [.inr (-2147483648, 2147483647)]), (.inl (8), [.inr (-2147483648, 2147483647)]), (.inl (9), [.inr (-2147483648, 2147483647)]), (.inl (10), [.inr (-2147483648, 2147483647)]), (.inl (11), [.inr (-2147483648, 2147483647)]), (.inl (12), [.inr (-2147483648, 2147483647)]), (.inl (13), [.inr (-2147483648, 2147483647)]), (.inl (14), [.inr (-2147483648, 2147483647)]), (.inl (15), [.inr (-2147483648, 2147483647)]), (.inl (16), [.inr (-2147483648, 2147483647)]), (.inl (17), [.inr (-2147483648, 2147483647)]), (.inl (18), [.inr (-2147483648, 2147483647)]), (.inl (19), [.inr (-2147483648, 2147483647)]), (.inl (20), [.inr (-2147483648, 2147483647)]), (.inr (21, 2147483647), [.inr (-2147483648, 2147483647)])]
set_option maxRecDepth 1000000 in
theorem by_5_3_1 : iv_al2 5 (.inl (3)) bq_5_3_1 = true := by decide +kernel
def bl_5_3 : List (iv_D × List (iv_D × List iv_D)) := [(.inl (3), (bq_5_3_0 ++ bq_5_3_1))]
theorem bx_5_3 : iv_all 5 bl_5_3 = true := iv_all_cons (iv_al2_app by_5_3_0 by_5_3_1) iv_all_nil
def bq_5_4_0 : List (iv_D × List iv_D) := [(.inr (-2147483648, -1), [.inr (-2147483648, 2147483647)]), (.inl (0), [.inr (-2147483648, 2147483647)]), (.inl (1), [.inr (-2147483648, 2147483647)]), (.inl (2), [.inr (-2147483648, 2147483647)]), (.inl (3), [.inr (-2147483648, 2147483647)]), (.inl (4), [.inr (-2147483648, 2147483647)]), (.inl (5), [.inr (-2147483648, 2147483647)])]
set_option maxRecDepth 1000000 in
theorem by_5_4_0 : iv_al2 5 (.inl (4)) bq_5_4_0 = true := by decide +kernel
def bq_5_4_1 : List (iv_D × List iv_D) := [(.inl (6), [.inr (-2147483648, 2147483647)]), (.inl (7), [.inr (-2147483648, 2147483647)]), (.inl (8), [.inr (-2147483648, 2147483647)]), (.inl (9), [.inr (-2147483648, 2147483647)]), (.inl (10), [.inr (-2147483648, 2147483647)]), (.inl (11), [.inr (-2147483648, 2147483647)]), (.inl (12), [.inr (-2147483648, 2147483647)])]
set_option maxRecDepth 1000000 in
theorem by_5_4_1 : iv_al2 5 (.inl (4)) bq_5_4_1 = true := by decide +kernel
def bq_5_4_2 : List (iv_D × List iv_D) := [(.inl (13), [.inr (-2147483648, 2147483647)]), (.inl (14), [.inr (-2147483648, 2147483647)]), (.inl (15), [.inr (-2147483648, 2147483647)]), (.inl (16), [.inr (-2147483648, 2147483647)]), (.inl (17), [.inr (-2147483648, 2147483647)]), (.inl (18), [.inr (-2147483648, 2147483647)]), (.inl (19), [.inr (-2147483648, 2147483647)]), (.inl (20), [.inr (-2147483648, 2147483647)]), (.inr (21, 2147483647), [.inr (-2147483648, 2147483647)])]
set_option maxRecDepth 1000000 in
theorem by_5_4_2 : iv_al2 5 (.inl (4)) bq_5_4_2 = true := by decide +kernel
def bl_5_4 : List (iv_D × List (iv_D × List iv_D)) := [(.inl (4), ((bq_5_4_0 ++ bq_5_4_1) ++ bq_5_4_2))]
theorem bx_5_4 : iv_all 5 bl_5_4 = true := iv_all_cons (iv_al2_app (iv_al2_app by_5_4_0 by_5_4_1) by_5_4_2) iv_all_nil
def bl_5_5 : List (iv_D × List (iv_D × List iv_D)) := [(.inr (5, 2147483647), [(.inr (-2147483648, 2147483647), [.inr (-2147483648, 2147483647)])])]
set_option maxRecDepth 1000000 in
theorem bx_5_5 : iv_all 5 bl_5_5 = true := by decide +kernel
def bl_5 : List (iv_D × List (iv_D × List iv_D)) := (((((bl_5_0 ++ bl_5_1) ++ bl_5_2) ++ bl_5_3) ++ bl_5_4) ++ bl_5_5)
theorem cv_5 : iv_cov bl_5 = true := by decide +kernel
theorem bx_5 : iv_all 5 bl_5 = true := (iv_all_app (iv_all_app (iv_all_app (iv_all_app (iv_all_app bx_5_0 bx_5_1) bx_5_2) bx_5_3) bx_5_4) bx_5_5)
