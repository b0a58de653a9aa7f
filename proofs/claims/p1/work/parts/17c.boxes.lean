def bl_6_0 : List (iv_D × List (iv_D × List iv_D)) := [(.inr (-2147483648, 46), [(.inr (-2147483648, 2147483647), [.inr (-2147483648, 2147483647)])]), (.inl (47), [(.inr (-2147483648, 2147483647), [.inr (-2147483648, 2147483647)])]), (.inl (48), [(.inr (-2147483648, 2147483647), [.inr (-2147483648, 2147483647)])]), (.inl (49), [(.inr (-2147483648, 2147483647), [.inr (-2147483648, 2147483647)])]), (.inl (50), [(.inr (-2147483648, 2147483647), [.inr (-2147483648, 2147483647)])]), (.inl (51), [(.inr (-2147483648, 2147483647), [.inr (-2147483648, 2147483647)])]), (.inl (52), [(.inr (-2147483648, 2147483647), [.inr (-2147483648, 2147483647)])])]
set_option maxRecDepth 1000000 in
theorem bx_6_0 : iv_all 6 bl_6_0 = true := by decide +kernel
def bl_6_1 : List (iv_D × List (iv_D × List iv_D)) := [(.inl (53), [(.inr (-2147483648, 2147483647), [.inr (-2147483648, 2147483647)])]), (.inl (54), [(.inr (-2147483648, 2147483647), [.inr (-2147483648, 2147483647)])]), (.inr (55, 98), [(.inr (-2147483648, 2147483647), [.inr (-2147483648, 2147483647)])])]
set_option maxRecDepth 1000000 in
theorem bx_6_1 : iv_all 6 bl_6_1 = true := by decide +kernel
def bq_6_2_0 : List (iv_D × List iv_D) := [(.inr (-2147483648, 0), [.inr (-2147483648, 2147483647)]), (.inl (1), [.inr (-2147483648, 2147483647)]), (.inl (2), [.inr (-2147483648, 2147483647)]), (.inl (3), [.inr (-2147483648, 2147483647)]), (.inl (4), [.inr (-2147483648, 2147483647)]), (.inl (5), [.inr (-2147483648, 2147483647)])]
set_option maxRecDepth 1000000 in
theorem by_6_2_0 : iv_al2 6 (.inl (99)) bq_6_2_0 = true := by decide +kernel
def bq_6_2_1 : List (iv_D × List iv_D) := [(.inl (6), [.inr (-2147483648, 2147483647)]), (.inl (7), [.inr (-2147483648, 2147483647)]), (.inl (8), [.inr (-2147483648, 2147483647)]), (.inl (9), [.inr (-2147483648, 2147483647)]), (.inl (10), [.inr (-2147483648, 2147483647)]), (.inl (11), [.inr (-2147483648, 2147483647)])]
set_option maxRecDepth 1000000 in
theorem by_6_2_1 : iv_al2 6 (.inl (99)) bq_6_2_1 = true := by decide +kernel
def bq_6_2_2 : List (iv_D × List iv_D) := [(.inl (12), [.inr (-2147483648, 2147483647)]), (.inl (13), [.inr (-2147483648, 2147483647)]), (.inl (14), [.inr (-2147483648, 2147483647)]), (.inl (15), [.inr (-2147483648, 2147483647)]), (.inl (16), [.inr (-2147483648, 2147483647)]), (.inl (17), [.inr (-2147483648, 2147483647)])]
set_option maxRecDepth 1000000 in
theorem by_6_2_2 : iv_al2 6 (.inl (99)) bq_6_2_2 = true := by decide +kernel
def bq_6_2_3 : List (iv_D × List iv_D) := [(.inl (18), [.inr (-2147483648, 2147483647)]), (.inl (19), [.inr (-2147483648, 2147483647)]), (.inl (20), [.inr (-2147483648, 2147483647)]), (.inr (21, 2147483647), [.inr (-2147483648, 2147483647)])]
set_option maxRecDepth 1000000 in
theorem by_6_2_3 : iv_al2 6 (.inl (99)) bq_6_2_3 = true := by decide +kernel
def bl_6_2 : List (iv_D × List (iv_D × List iv_D)) := [(.inl (99), (((bq_6_2_0 ++ bq_6_2_1) ++ bq_6_2_2) ++ bq_6_2_3))]
theorem bx_6_2 : iv_all 6 bl_6_2 = true := iv_all_cons (iv_al2_app (iv_al2_app (iv_al2_app by_6_2_0 by_6_2_1) by_6_2_2) by_6_2_3) iv_all_nil
def bq_6_3_0 : List (iv_D × List iv_D) := [(.inr (-2147483648, 0), [.inr (-2147483648, 2147483647)]), (.inl (1), [.inr (-2147483648, 2147483647)]), (.inl (2), [.inr (-2147483648, 2147483647)]), (.inl (3), [.inr (-2147483648, 2147483647)]), (.inl (4), [.inr (-2147483648, 2147483647)]), (.inl (5), [.inr (-2147483648, 2147483647)]), (.inl (6), [.inr (-2147483648, 2147483647)])]
set_option maxRecDepth 1000000 in
theorem by_6_3_0 : iv_al2 6 (.inl (100)) bq_6_3_0 = true := by decide +kernel
def bq_6_3_1 : List (iv_D × List iv_D) := [(.inl (7), [.inr (-2147483648, 2147483647)]), (.inl (8), [.inr (-2147483648, 2147483647)]), (.inl (9), [.inr (-2147483648, 2147483647)]), (.inl (10), [.inr (-2147483648, 2147483647)]), (.inl (11), [.inr (-2147483648, 2147483647)]), (.inl (12), [.inr (-2147483648, 2147483647)]), (.inl (13), [.inr (-2147483648, 2147483647)])]
set_option maxRecDepth 1000000 in
theorem by_6_3_1 : iv_al2 6 (.inl (100)) bq_6_3_1 = true := by decide +kernel
def bq_6_3_2 : List (iv_D × List iv_D) := [(.inl (14), [.inr (-2147483648, 2147483647)]), (.inl (15), [.inr (-2147483648, 2147483647)]), (.inl (16), [.inr (-2147483648, 2147483647)]), (.inl (17), [.inr (-2147483648, 2147483647)]), (.inl (18), [.inr (-2147483648, 2147483647)]), (.inl (19), [.inr (-2147483648, 2147483647)]), (.inl (20), [.inr (-2147483648, 2147483647)])]
set_option maxRecDepth 1000000 in
theorem by_6_3_2 : iv_al2 6 (.inl (100)) bq_6_3_2 = true := by decide +kernel
def bq_6_3_3 : List (iv_D × List iv_D) := [(.inr (21, 2147483647), [.inr (-2147483648, 2147483647)])]
set_option maxRecDepth 1000000 in
theorem by_6_3_3 : iv_al2 6 (.inl (100)) bq_6_3_3 = true := by decide +kernel
def bl_6_3 : List (iv_D × List (iv_D × List iv_D)) := [(.inl (100), (((bq_6_3_0 ++ bq_6_3_1) ++ bq_6_3_2) ++ bq_6_3_3))]
theorem bx_6_3 : iv_all 6 bl_6_3 = true := iv_all_cons (iv_al2_app (iv_al2_app (iv_al2_app by_6_3_0 by_6_3_1) by_6_3_2) by_6_3_3) iv_all_nil
def bl_6_4 : List (iv_D × List (iv_D × List iv_D)) := [(.inr (101, 109), [(.inr (-2147483648, 2147483647), [.inr (-2147483648, 2147483647)])]), (.inl (110), [(.inr (-2147483648, 2147483647), [.inr (-2147483648, 2147483647)])]), (.inr (111, 118), [(.inr (-2147483648, 2147483647), [.inr (-2147483648, 2147483647)])]), (.inl (119), [(.inr (-2147483648, 2147483647), [.inr (-2147483648, 2147483647)])]), (.inl (120), [(.inr (-2147483648, 2147483647), [.inr (-2147483648, 2147483647)])]), (.inr (121, 2147483647), [(.inr (-2147483648, 2147483647), [.inr (-2147483648, 2147483647)])])]
set_option maxRecDepth 1000000 in
theorem bx_6_4 : iv_all 6 bl_6_4 = true := by decide +kernel
def bl_6 : List (iv_D × List (iv_D × List iv_D)) := ((((bl_6_0 ++ bl_6_1) ++ bl_6_2) ++ bl_6_3) ++ bl_6_4)
theorem cv_6 : iv_cov bl_6 = true := by decide +kernel
theorem bx_6 : iv_all 6 bl_6 = true := (iv_all_app (iv_all_app (iv_all_app (iv_all_app bx_6_0 bx_6_1) bx_6_2) bx_6_3) bx_6_4)
def bl_7_0 : List (iv_D × List (iv_D × List iv_D)) := [(.inr (-2147483648, 2147483647), [(.inr (-2147483648, 2147483647), [.inr (-2147483648, 2147483647)])])]
set_option maxRecDepth 1000000 in
theorem bx_7_0 : iv_all 7 bl_7_0 = true := by decide +kernel
def bl_7 : List (iv_D × List (iv_D × List iv_D)) := bl_7_0
theorem cv_7 : iv_cov bl_7 = true := by decide +kernel
theorem bx_7 : iv_all 7 bl_7 = true := bx_7_0
def bl_8_0 : List (iv_D × List (iv_D × List iv_D)) := [(.inr (-2147483648, 2147483647), [(.inr (-2147483648, 2147483647), [.inr (-2147483648, 2147483647)])])]
set_option maxRecDepth 1000000 in
theorem bx_8_0 : iv_all 8 bl_8_0 = true := by decide +kernel
def bl_8 : List (iv_D × List (iv_D × List iv_D)) := bl_8_0
theorem cv_8 : iv_cov bl_8 = true := by decide +kernel
theorem bx_8 : iv_all 8 bl_8 = true := bx_8_0
