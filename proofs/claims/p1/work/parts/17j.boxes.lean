def bl_21_0 : List (iv_D × List (iv_D × List iv_D)) := [(.inr (-2147483648, -1), [(.inr (-2147483648, -1), [.inr (-2147483648, 2147483647)]), (.inl (0), [.inr (-2147483648, 2147483647)]), (.inl (1), [.inr (-2147483648, 2147483647)]), (.inl (2), [.inr (-2147483648, 2147483647)]), (.inl (3), [.inr (-2147483648, 2147483647)]), (.inl (4), [.inr (-2147483648, 2147483647)]), (.inl (5), [.inr (-2147483648, 2147483647)]), (.inl (6), [.inr (-2147483648, 2147483647)]), (.inr (7, 2147483647), [.inr (-2147483648, 2147483647)])])]
set_option maxRecDepth 1000000 in
theorem bx_21_0 : iv_all 21 bl_21_0 = true := by decide +kernel
def bq_21_1_0 : List (iv_D × List iv_D) := [(.inr (-2147483648, -1), [.inr (-2147483648, 2147483647)]), (.inl (0), [.inr (-2147483648, 2147483647)]), (.inl (1), [.inr (-2147483648, 2147483647)]), (.inl (2), [.inr (-2147483648, 2147483647)]), (.inl (3), [.inr (-2147483648, 2147483647)]), (.inl (4), [.inr (-2147483648, 2147483647)]), (.inl (5), [.inr (-2147483648, 2147483647)]), (.inl (6), [.inr (-2147483648, 2147483647)])]
set_option maxRecDepth 1000000 in
theorem by_21_1_0 : iv_al2 21 (.inl (0)) bq_21_1_0 = true := by decide +kernel
def bq_21_1_1 : List (iv_D × List iv_D) := [(.inr (7, 2147483647), [.inr (-2147483648, 2147483647)])]
set_option maxRecDepth 1000000 in
theorem by_21_1_1 : iv_al2 21 (.inl (0)) bq_21_1_1 = true := by decide +kernel
def bl_21_1 : List (iv_D × List (iv_D × List iv_D)) := [(.inl (0), (bq_21_1_0 ++ bq_21_1_1))]
theorem bx_21_1 : iv_all 21 bl_21_1 = true := iv_all_cons (iv_al2_app by_21_1_0 by_21_1_1) iv_all_nil
def bq_21_2_0 : List (iv_D × List iv_D) := [(.inr (-2147483648, -1), [.inr (-2147483648, 2147483647)]), (.inl (0), [.inr (-2147483648, 2147483647)]), (.inl (1), [.inr (-2147483648, 2147483647)]), (.inl (2), [.inr (-2147483648, 2147483647)]), (.inl (3), [.inr (-2147483648, 2147483647)]), (.inl (4), [.inr (-2147483648, 2147483647)]), (.inl (5), [.inr (-2147483648, 2147483647)]), (.inl (6), [.inr (-2147483648, 2147483647)])]
set_option maxRecDepth 1000000 in
theorem by_21_2_0 : iv_al2 21 (.inl (1)) bq_21_2_0 = true := by decide +kernel
def bq_21_2_1 : List (iv_D × List iv_D) := [(.inr (7, 2147483647), [.inr (-2147483648, 2147483647)])]
set_option maxRecDepth 1000000 in
theorem by_21_2_1 : iv_al2 21 (.inl (1)) bq_21_2_1 = true := by decide +kernel
def bl_21_2 : List (iv_D × List (iv_D × List iv_D)) := [(.inl (1), (bq_21_2_0 ++ bq_21_2_1))]
theorem bx_21_2 : iv_all 21 bl_21_2 = true := iv_all_cons (iv_al2_app by_21_2_0 by_21_2_1) iv_all_nil
def bl_21_3 : List (iv_D × List (iv_D × List iv_D)) := [(.inr (2, 2147483647), [(.inr (-2147483648, -1), [.inr (-2147483648, 2147483647)]), (.inl (0), [.inr (-2147483648, 2147483647)]), (.inl (1), [.inr (-2147483648, 2147483647)]), (.inl (2), [.inr (-2147483648, 2147483647)]), (.inl (3), [.inr (-2147483648, 2147483647)]), (.inl (4), [.inr (-2147483648, 2147483647)]), (.inl (5), [.inr (-2147483648, 2147483647)]), (.inl (6), [.inr (-2147483648, 2147483647)]), (.inr (7, 2147483647), [.inr (-2147483648, 2147483647)])])]
set_option maxRecDepth 1000000 in
theorem bx_21_3 : iv_all 21 bl_21_3 = true := by decide +kernel
def bl_21 : List (iv_D × List (iv_D × List iv_D)) := (((bl_21_0 ++ bl_21_1) ++ bl_21_2) ++ bl_21_3)
theorem cv_21 : iv_cov bl_21 = true := by decide +kernel
theorem bx_21 : iv_all 21 bl_21 = true := (iv_all_app (iv_all_app (iv_all_app bx_21_0 bx_21_1) bx_21_2) bx_21_3)
def bl_22_0 : List (iv_D × List (iv_D × List iv_D)) := [(.inr (-2147483648, -1), [(.inr (-2147483648, 2147483647), [.inr (-2147483648, 2147483647)])]), (.inl (0), [(.inr (-2147483648, 2147483647), [.inr (-2147483648, 2147483647)])]), (.inl (1), [(.inr (-2147483648, 2147483647), [.inr (-2147483648, 2147483647)])]), (.inr (2, 2147483647), [(.inr (-2147483648, 2147483647), [.inr (-2147483648, 2147483647)])])]
set_option maxRecDepth 1000000 in
theorem bx_22_0 : iv_all 22 bl_22_0 = true := by decide +kernel
def bl_22 : List (iv_D × List (iv_D × List iv_D)) := bl_22_0
theorem cv_22 : iv_cov bl_22 = true := by decide +kernel
theorem bx_22 : iv_all 22 bl_22 = true := bx_22_0
def bl_23_0 : List (iv_D × List (iv_D × List iv_D)) := [(.inr (-2147483648, -1), [(.inr (-2147483648, -1), [.inr (-2147483648, 2147483647)]), (.inl (0), [.inr (-2147483648, 2147483647)]), (.inr (1, 2147483647), [.inr (-2147483648, 2147483647)])]), (.inl (0), [(.inr (-2147483648, -1), [.inr (-2147483648, 2147483647)]), (.inl (0), [.inr (-2147483648, 2147483647)]), (.inr (1, 2147483647), [.inr (-2147483648, 2147483647)])])]
set_option maxRecDepth 1000000 in
theorem bx_23_0 : iv_all 23 bl_23_0 = true := by decide +kernel
def bl_23_1 : List (iv_D × List (iv_D × List iv_D)) := [(.inl (1), [(.inr (-2147483648, -1), [.inr (-2147483648, 2147483647)]), (.inl (0), [.inr (-2147483648, 2147483647)]), (.inr (1, 2147483647), [.inr (-2147483648, 2147483647)])]), (.inr (2, 2147483647), [(.inr (-2147483648, -1), [.inr (-2147483648, 2147483647)]), (.inl (0), [.inr (-2147483648, 2147483647)]), (.inr (1, 2147483647), [.inr (-2147483648, 2147483647)])])]
set_option maxRecDepth 1000000 in
theorem bx_23_1 : iv_all 23 bl_23_1 = true := by decide +kernel
def bl_23 : List (iv_D × List (iv_D × List iv_D)) := (bl_23_0 ++ bl_23_1)
theorem cv_23 : iv_cov bl_23 = true := by decide +kernel
theorem bx_23 : iv_all 23 bl_23 = true := (iv_all_app bx_23_0 bx_23_1)
def bl_24_0 : List (iv_D × List (iv_D × List iv_D)) := [(.inr (-2147483648, 2147483647), [(.inr (-2147483648, 2147483647), [.inr (-2147483648, 2147483647)])])]
set_option maxRecDepth 1000000 in
theorem bx_24_0 : iv_all 24 bl_24_0 = true := by decide +kernel
def bl_24 : List (iv_D × List (iv_D × List iv_D)) := bl_24_0
theorem cv_24 : iv_cov bl_24 = true := by decide +kernel
theorem bx_24 : iv_all 24 bl_24 = true := bx_24_0
def bl_25_0 : List (iv_D × List (iv_D × List iv_D)) := [(.inr (-2147483648, 2147483647), [(.inr (-2147483648, 2147483647), [.inr (-2147483648, 2147483647)])])]
set_option maxRecDepth 1000000 in
theorem bx_25_0 : iv_all 25 bl_25_0 = true := by decide +kernel
def bl_25 : List (iv_D × List (iv_D × List iv_D)) := bl_25_0
theorem cv_25 : iv_cov bl_25 = true := by decide +kernel
theorem bx_25 : iv_all 25 bl_25 = true := bx_25_0
def bl_26_0 : List (iv_D × List (iv_D × List iv_D)) := [(.inr (-2147483648, 2147483647), [(.inr (-2147483648, 2147483647), [.inr (-2147483648, 2147483647)])])]
set_option maxRecDepth 1000000 in
theorem bx_26_0 : iv_all 26 bl_26_0 = true := by decide +kernel
def bl_26 : List (iv_D × List (iv_D × List iv_D)) := bl_26_0
theorem cv_26 : iv_cov bl_26 = true := by decide +kernel
theorem bx_26 : iv_all 26 bl_26 = true := bx_26_0
def bl_27_0 : List (iv_D × List (iv_D × List iv_D)) := [(.inr (-2147483648, 2147483647), [(.inr (-2147483648, 2147483647), [.inr (-2147483648, 2147483647)])])]
set_option maxRecDepth 1000000 in
theorem bx_27_0 : iv_all 27 bl_27_0 = true := by decide +kernel
def bl_27 : List (iv_D × List (iv_D × List iv_D)) := bl_27_0
theorem cv_27 : iv_cov bl_27 = true := by decide +kernel
theorem bx_27 : iv_all 27 bl_27 = true := bx_27_0
def bl_28_0 : List (iv_D × List (iv_D × List iv_D)) := [(.inr (-2147483648, 2147483647), [(.inr (-2147483648, 2147483647), [.inr (-2147483648, 2147483647)])])]
set_option maxRecDepth 1000000 in
theorem bx_28_0 : iv_all 28 bl_28_0 = true := by decide +kernel
def bl_28 : List (iv_D × List (iv_D × List iv_D)) := bl_28_0
theorem cv_28 : iv_cov bl_28 = true := by decide +kernel
theorem bx_28 : iv_all 28 bl_28 = true := bx_28_0
def bl_29_0 : List (iv_D × List (iv_D × List iv_D)) := [(.inr (-2147483648, 2147483647), [(.inr (-2147483648, 2147483647), [.inr (-2147483648, 2147483647)])])]
set_option maxRecDepth 1000000 in
theorem bx_29_0 : iv_all 29 bl_29_0 = true := by decide +kernel
def bl_29 : List (iv_D × List (iv_D × List iv_D)) := bl_29_0
theorem cv_29 : iv_cov bl_29 = true := by decide +kernel
theorem bx_29 : iv_all 29 bl_29 = true := bx_29_0
def bl_30_0 : List (iv_D × List (iv_D × List iv_D)) := [(.inr (-2147483648, -1), [(.inr (-2147483648, 2147483647), [.inr (-2147483648, 2147483647)])]), (.inr (0, 3), [(.inr (-2147483648, 2147483647), [.inr (-2147483648, 2147483647)])]), (.inr (4, 2147483647), [(.inr (-2147483648, 2147483647), [.inr (-2147483648, 2147483647)])])]
set_option maxRecDepth 1000000 in
theorem bx_30_0 : iv_all 30 bl_30_0 = true := by decide +kernel
def bl_30 : List (iv_D × List (iv_D × List iv_D)) := bl_30_0
theorem cv_30 : iv_cov bl_30 = true := by decide +kernel
theorem bx_30 : iv_all 30 bl_30 = true := bx_30_0
def bl_31_0 : List (iv_D × List (iv_D × List iv_D)) := [(.inr (-2147483648, 2147483647), [(.inr (-2147483648, 2147483647), [.inr (-2147483648, 2147483647)])])]
set_option maxRecDepth 1000000 in
theorem bx_31_0 : iv_all 31 bl_31_0 = true := by decide +kernel
def bl_31 : List (iv_D × List (iv_D × List iv_D)) := bl_31_0
theorem cv_31 : iv_cov bl_31 = true := by decide +kernel
theorem bx_31 : iv_all 31 bl_31 = true := bx_31_0
def bl_32_0 : List (iv_D × List (iv_D × List iv_D)) := [(.inr (-2147483648, 2147483647), [(.inr (-2147483648, 2147483647), [.inr (-2147483648, 2147483647)])])]
set_option maxRecDepth 1000000 in
theorem bx_32_0 : iv_all 32 bl_32_0 = true := by decide +kernel
def bl_32 : List (iv_D × List (iv_D × List iv_D)) := bl_32_0
theorem cv_32 : iv_cov bl_32 = true := by decide +kernel
theorem bx_32 : iv_all 32 bl_32 = true := bx_32_0
def bl_33_0 : List (iv_D × List (iv_D × List iv_D)) := [(.inr (-2147483648, -1), [(.inr (-2147483648, 2147483647), [.inr (-2147483648, 2147483647)])]), (.inr (0, 999), [(.inr (-2147483648, 2147483647), [.inr (-2147483648, 2147483647)])]), (.inr (1000, 2147483647), [(.inr (-2147483648, 2147483647), [.inr (-2147483648, 2147483647)])])]
set_option maxRecDepth 1000000 in
theorem bx_33_0 : iv_all 33 bl_33_0 = true := by decide +kernel
def bl_33 : List (iv_D × List (iv_D × List iv_D)) := bl_33_0
theorem cv_33 : iv_cov bl_33 = true := by decide +kernel
theorem bx_33 : iv_all 33 bl_33 = true := bx_33_0
def bl_34_0 : List (iv_D × List (iv_D × List iv_D)) := [(.inr (-2147483648, 2147483647), [(.inr (-2147483648, 2147483647), [.inr (-2147483648, 2147483647)])])]
set_option maxRecDepth 1000000 in
theorem bx_34_0 : iv_all 34 bl_34_0 = true := by decide +kernel
def bl_34 : List (iv_D × List (iv_D × List iv_D)) := bl_34_0
theorem cv_34 : iv_cov bl_34 = true := by decide +kernel
theorem bx_34 : iv_all 34 bl_34 = true := bx_34_0
def bl_35_0 : List (iv_D × List (iv_D × List iv_D)) := [(.inr (-2147483648, -1), [(.inr (-2147483648, -1), [.inr (-2147483648, 2147483647)]), (.inl (0), [.inr (-2147483648, 2147483647)]), (.inl (1), [.inr (-2147483648, 2147483647)]), (.inl (2), [.inr (-2147483648, 2147483647)]), (.inl (3), [.inr (-2147483648, 2147483647)]), (.inl (4), [.inr (-2147483648, 2147483647)]), (.inl (5), [.inr (-2147483648, 2147483647)]), (.inr (6, 2147483647), [.inr (-2147483648, 2147483647)])])]
set_option maxRecDepth 1000000 in
theorem bx_35_0 : iv_all 35 bl_35_0 = true := by decide +kernel
def bq_35_1_0 : List (iv_D × List iv_D) := [(.inr (-2147483648, -1), [.inr (-2147483648, 2147483647)]), (.inl (0), [.inr (-2147483648, 2147483647)]), (.inl (1), [.inr (-2147483648, 2147483647)]), (.inl (2), [.inr (-2147483648, 2147483647)])]
set_option maxRecDepth 1000000 in
theorem by_35_1_0 : iv_al2 35 (.inl (0)) bq_35_1_0 = true := by decide +kernel
def bq_35_1_1 : List (iv_D × List iv_D) := [(.inl (3), [.inr (-2147483648, 2147483647)]), (.inl (4), [.inr (-2147483648, 2147483647)]), (.inl (5), [.inr (-2147483648, 2147483647)]), (.inr (6, 2147483647), [.inr (-2147483648, 2147483647)])]
set_option maxRecDepth 1000000 in
theorem by_35_1_1 : iv_al2 35 (.inl (0)) bq_35_1_1 = true := by decide +kernel
def bl_35_1 : List (iv_D × List (iv_D × List iv_D)) := [(.inl (0), (bq_35_1_0 ++ bq_35_1_1))]
theorem bx_35_1 : iv_all 35 bl_35_1 = true := iv_all_cons (iv_al2_app by_35_1_0 by_35_1_1) iv_all_nil
def bl_35_2 : List (iv_D × List (iv_D × List iv_D)) := [(.inr (1, 2147483647), [(.inr (-2147483648, -1), [.inr (-2147483648, 2147483647)]), (.inl (0), [.inr (-2147483648, 2147483647)]), (.inl (1), [.inr (-2147483648, 2147483647)]), (.inl (2), [.inr (-2147483648, 2147483647)]), (.inl (3), [.inr (-2147483648, 2147483647)]), (.inl (4), [.inr (-2147483648, 2147483647)]), (.inl (5), [.inr (-2147483648, 2147483647)]), (.inr (6, 2147483647), [.inr (-2147483648, 2147483647)])])]
set_option maxRecDepth 1000000 in
theorem bx_35_2 : iv_all 35 bl_35_2 = true := by decide +kernel
def bl_35 : List (iv_D × List (iv_D × List iv_D)) := ((bl_35_0 ++ bl_35_1) ++ bl_35_2)
theorem cv_35 : iv_cov bl_35 = true := by decide +kernel
theorem bx_35 : iv_all 35 bl_35 = true := (iv_all_app (iv_all_app bx_35_0 bx_35_1) bx_35_2)
def bl_36_0 : List (iv_D × List (iv_D × List iv_D)) := [(.inr (-2147483648, 2147483647), [(.inr (-2147483648, 2147483647), [.inr (-2147483648, 2147483647)])])]
set_option maxRecDepth 1000000 in
theorem bx_36_0 : iv_all 36 bl_36_0 = true := by decide +kernel
def bl_36 : List (iv_D × List (iv_D × List iv_D)) := bl_36_0
theorem cv_36 : iv_cov bl_36 = true := by decide +kernel
theorem bx_36 : iv_all 36 bl_36 = true := bx_36_0
