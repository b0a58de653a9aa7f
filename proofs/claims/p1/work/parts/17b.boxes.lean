def iv_cvF (start : Int) : List iv_D → Bool
  | [] => decide (start = 2147483648)
  | d :: r => decide ((iv_lo d).toInt = start) && iv_cvF ((iv_hi d).toInt + 1) r
def iv_cv (L : List iv_D) : Bool := iv_cvF (-2147483648) L
def iv_cov (L : List (iv_D × List (iv_D × List iv_D))) : Bool := iv_cv (L.map (fun x => x.1)) && L.all (fun x => iv_cv (x.2.map (fun y => y.1)) && x.2.all (fun y => iv_cv y.2))
def bl_0_0 : List (iv_D × List (iv_D × List iv_D)) := [(.inr (-2147483648, 2147483647), [(.inr (-2147483648, 2147483647), [.inr (-2147483648, 2147483647)])])]
set_option maxRecDepth 1000000 in
theorem bx_0_0 : iv_all 0 bl_0_0 = true := by decide +kernel
def bl_0 : List (iv_D × List (iv_D × List iv_D)) := bl_0_0
theorem cv_0 : iv_cov bl_0 = true := by decide +kernel
theorem bx_0 : iv_all 0 bl_0 = true := bx_0_0
def bl_1_0 : List (iv_D × List (iv_D × List iv_D)) := [(.inr (-2147483648, -1), [(.inr (-2147483648, 2147483647), [.inr (-2147483648, 2147483647)])]), (.inl (0), [(.inr (-2147483648, 2147483647), [.inr (-2147483648, 2147483647)])]), (.inr (1, 2147483647), [(.inr (-2147483648, 2147483647), [.inr (-2147483648, 2147483647)])])]
set_option maxRecDepth 1000000 in
theorem bx_1_0 : iv_all 1 bl_1_0 = true := by decide +kernel
def bl_1 : List (iv_D × List (iv_D × List iv_D)) := bl_1_0
theorem cv_1 : iv_cov bl_1 = true := by decide +kernel
theorem bx_1 : iv_all 1 bl_1 = true := bx_1_0
def bl_2_0 : List (iv_D × List (iv_D × List iv_D)) := [(.inr (-2147483648, 2147483647), [(.inr (-2147483648, 2147483647), [.inr (-2147483648, 2147483647)])])]
set_option maxRecDepth 1000000 in
theorem bx_2_0 : iv_all 2 bl_2_0 = true := by decide +kernel
def bl_2 : List (iv_D × List (iv_D × List iv_D)) := bl_2_0
theorem cv_2 : iv_cov bl_2 = true := by decide +kernel
theorem bx_2 : iv_all 2 bl_2 = true := bx_2_0
def bl_3_0 : List (iv_D × List (iv_D × List iv_D)) := [(.inr (-2147483648, 2147483647), [(.inr (-2147483648, 2147483647), [.inr (-2147483648, 2147483647)])])]
set_option maxRecDepth 1000000 in
theorem bx_3_0 : iv_all 3 bl_3_0 = true := by decide +kernel
def bl_3 : List (iv_D × List (iv_D × List iv_D)) := bl_3_0
theorem cv_3 : iv_cov bl_3 = true := by decide +kernel
theorem bx_3 : iv_all 3 bl_3 = true := bx_3_0
def bl_4_0 : List (iv_D × List (iv_D × List iv_D)) := [(.inr (-2147483648, 2147483647), [(.inr (-2147483648, 2147483647), [.inr (-2147483648, 2147483647)])])]
set_option maxRecDepth 1000000 in
theorem bx_4_0 : iv_all 4 bl_4_0 = true := by decide +kernel
def bl_4 : List (iv_D × List (iv_D × List iv_D)) := bl_4_0
theorem cv_4 : iv_cov bl_4 = true := by decide +kernel
theorem bx_4 : iv_all 4 bl_4 = true := bx_4_0
def bl_5_0 : List (iv_D × List (iv_D × List iv_D)) := [(.inr (-2147483648, -1), [(.inr (-2147483648, 2147483647), [.inr (-2147483648, 2147483647)])]), (.inl (0), [(.inr (-2147483648, 0), [.inr (-2147483648, 2147483647)]), (.inl (1), [.inr (-2147483648, 2147483647)]), (.inl (2), [.inr (-2147483648, 2147483647)]), (.inl (3), [.inr (-2147483648, 2147483647)]), (.inl (4), [.inr (-2147483648, 2147483647)]), (.inl (5), [.inr (-2147483648, 2147483647)]), (.inl (6), [.inr (-2147483648, 2147483647)]), (.inl (7), [.inr (-2147483648, 2147483647)]), (.inl (8), [.inr (-2147483648, 2147483647)]), (.inl (9), [.inr (-2147483648, 2147483647)]), (.inl (10), [.inr (-2147483648, 2147483647)]), (.inl (11), [.inr (-2147483648, 2147483647)]), (.inl (12), [.inr (-2147483648, 2147483647)]), (.inl (13), [.inr (-2147483648, 2147483647)]), (.inl (14), [.inr (-2147483648, 2147483647)]), (.inl (15), [.inr (-2147483648, 2147483647)]), (.inl (16), [.inr (-2147483648, 2147483647)]), (.inl (17), [.inr (-2147483648, 2147483647)]), (.inl (18), [.inr (-2147483648, 2147483647)]), (.inl (19), [.inr (-2147483648, 2147483647)]), (.inl (20), [.inr (-2147483648, 2147483647)]), (.inr (21, 2147483647), [.inr (-2147483648, 2147483647)])]), (.inl (1), [(.inr (-2147483648, 0), [.inr (-2147483648, 2147483647)]), (.inr (1, 149), [.inr (-2147483648, 2147483647)]), (.inl (150), [.inr (-2147483648, 2147483647)]), (.inr (151, 400), [.inr (-2147483648, 2147483647)]), (.inr (401, 2147483647), [.inr (-2147483648, 2147483647)])]), (.inl (2), [(.inr (-2147483648, 0), [.inr (-2147483648, 2147483647)]), (.inr (1, 4), [.inr (-2147483648, 2147483647)]), (.inl (5), [.inr (-2147483648, 2147483647)]), (.inr (6, 20), [.inr (-2147483648, 2147483647)]), (.inr (21, 2147483647), [.inr (-2147483648, 2147483647)])]), (.inl (3), [(.inr (-2147483648, -1), [.inr (-2147483648, 2147483647)]), (.inl (0), [.inr (-2147483648, 2147483647)]), (.inl (1), [.inr (-2147483648, 2147483647)]), (.inl (2), [.inr (-2147483648, 2147483647)]), (.inl (3), [.inr (-2147483648, 2147483647)]), (.inl (4), [.inr (-2147483648, 2147483647)]), (.inl (5), [.inr (-2147483648, 2147483647)]), (.inl (6), [.inr (-2147483648, 2147483647)]), (.inl (7), [.inr (-2147483648, 2147483647)]), (.inl (8), [.inr (-2147483648, 2147483647)]), (.inl (9), [.inr (-2147483648, 2147483647)]), (.inl (10), [.inr (-2147483648, 2147483647)]), (.inl (11), [.inr (-2147483648, 2147483647)]), (.inl (12), [.inr (-2147483648, 2147483647)]), (.inl (13), [.inr (-2147483648, 2147483647)]), (.inl (14), [.inr (-2147483648, 2147483647)]), (.inl (15), [.inr (-2147483648, 2147483647)]), (.inl (16), [.inr (-2147483648, 2147483647)]), (.inl (17), [.inr (-2147483648, 2147483647)]), (.inl (18), [.inr (-2147483648, 2147483647)]), (.inl (19), [.inr (-2147483648, 2147483647)]), (.inl (20), [.inr (-2147483648, 2147483647)]), (.inr (21, 2147483647), [.inr (-2147483648, 2147483647)])])]
set_option maxRecDepth 1000000 in
theorem bx_5_0 : iv_all 5 bl_5_0 = true := by decide +kernel
def bl_5_1 : List (iv_D × List (iv_D × List iv_D)) := [(.inl (4), [(.inr (-2147483648, -1), [.inr (-2147483648, 2147483647)]), (.inl (0), [.inr (-2147483648, 2147483647)]), (.inl (1), [.inr (-2147483648, 2147483647)]), (.inl (2), [.inr (-2147483648, 2147483647)]), (.inl (3), [.inr (-2147483648, 2147483647)]), (.inl (4), [.inr (-2147483648, 2147483647)]), (.inl (5), [.inr (-2147483648, 2147483647)]), (.inl (6), [.inr (-2147483648, 2147483647)]), (.inl (7), [.inr (-2147483648, 2147483647)]), (.inl (8), [.inr (-2147483648, 2147483647)]), (.inl (9), [.inr (-2147483648, 2147483647)]), (.inl (10), [.inr (-2147483648, 2147483647)]), (.inl (11), [.inr (-2147483648, 2147483647)]), (.inl (12), [.inr (-2147483648, 2147483647)]), (.inl (13), [.inr (-2147483648, 2147483647)]), (.inl (14), [.inr (-2147483648, 2147483647)]), (.inl (15), [.inr (-2147483648, 2147483647)]), (.inl (16), [.inr (-2147483648, 2147483647)]), (.inl (17), [.inr (-2147483648, 2147483647)]), (.inl (18), [.inr (-2147483648, 2147483647)]), (.inl (19), [.inr (-2147483648, 2147483647)]), (.inl (20), [.inr (-2147483648, 2147483647)]), (.inr (21, 2147483647), [.inr (-2147483648, 2147483647)])]), (.inr (5, 2147483647), [(.inr (-2147483648, 2147483647), [.inr (-2147483648, 2147483647)])])]
set_option maxRecDepth 1000000 in
theorem bx_5_1 : iv_all 5 bl_5_1 = true := by decide +kernel
def bl_5 : List (iv_D × List (iv_D × List iv_D)) := bl_5_0 ++ bl_5_1
theorem cv_5 : iv_cov bl_5 = true := by decide +kernel
theorem bx_5 : iv_all 5 bl_5 = true := by
  unfold iv_all bl_5
  simp only [List.all_append, Bool.and_eq_true]
  exact ⟨bx_5_0, bx_5_1⟩
def bl_7_0 : List (iv_D × List (iv_D × List iv_D)) := [(.inr (-2147483648, 2147483647), [(.inr (-2147483648, 2147483647), [.inr (-2147483648, 2147483647)])])]
set_option maxRecDepth 1000000 in
theorem bx_7_0 : iv_all 7 bl_7_0 = true := by decide +kernel
def bl_7 : List (iv_D × List (iv_D × List iv_D)) := bl_7_0
theorem cv_7 : iv_cov bl_7 = true := by decide +kernel
theorem bx_7 : iv_all 7 bl_7 = true := bx_7_0
def bl_8_0 : List (iv_D × List (iv_D × List iv_D)) := [(.inr (-2147483648, 2147483647), [(.inr (-2147483648, 2147483647), [.inr (-2147483648, 2147483647)])])]
set_option maxRecDepth 1000000 in
theorem bx_8_0 : iv_all 8 bl_8_0 = true := by decide +kernel
def bl_8 : List (iv_D × List (iv_D × List iv_D)) := bl_8_0
theorem cv_8 : iv_cov bl_8 = true := by decide +kernel
theorem bx_8 : iv_all 8 bl_8 = true := bx_8_0
