def bl_14_0 : List (iv_D × List (iv_D × List iv_D)) := [(.inr (-2147483648, -1), [(.inr (-2147483648, 2147483647), [.inr (-2147483648, 2147483647)])])]
set_option maxRecDepth 1000000 in
theorem bx_14_0 : iv_all 14 bl_14_0 = true := by decide +kernel
def bq_14_1_0 : List (iv_D × List iv_D) := [(.inr (-2147483648, -1), [.inr (-2147483648, 2147483647)]), (.inl (0), [.inr (-2147483648, -1), .inl (0), .inl (1), .inl (2), .inr (3, 2147483647)]), (.inl (1), [.inr (-2147483648, -1), .inl (0), .inl (1), .inl (2), .inr (3, 2147483647)])]
set_option maxRecDepth 1000000 in
theorem by_14_1_0 : iv_al2 14 (.inl (0)) bq_14_1_0 = true := by decide +kernel
def bq_14_1_1 : List (iv_D × List iv_D) := [(.inl (2), [.inr (-2147483648, -1), .inl (0), .inl (1), .inl (2), .inr (3, 2147483647)]), (.inl (3), [.inr (-2147483648, -1), .inl (0), .inl (1), .inl (2), .inr (3, 2147483647)])]
set_option maxRecDepth 1000000 in
theorem by_14_1_1 : iv_al2 14 (.inl (0)) bq_14_1_1 = true := by decide +kernel
def bq_14_1_2 : List (iv_D × List iv_D) := [(.inl (4), [.inr (-2147483648, -1), .inl (0), .inl (1), .inl (2), .inr (3, 2147483647)]), (.inl (5), [.inr (-2147483648, -1), .inl (0), .inl (1), .inl (2), .inr (3, 2147483647)])]
set_option maxRecDepth 1000000 in
theorem by_14_1_2 : iv_al2 14 (.inl (0)) bq_14_1_2 = true := by decide +kernel
def bq_14_1_3 : List (iv_D × List iv_D) := [(.inl (6), [.inr (-2147483648, -1), .inl (0), .inl (1), .inl (2), .inr (3, 2147483647)]), (.inl (7), [.inr (-2147483648, -1), .inl (0), .inl (1), .inl (2), .inr (3, 2147483647)])]
set_option maxRecDepth 1000000 in
theorem by_14_1_3 : iv_al2 14 (.inl (0)) bq_14_1_3 = true := by decide +kernel
def bq_14_1_4 : List (iv_D × List iv_D) := [(.inl (8), [.inr (-2147483648, -1), .inl (0), .inl (1), .inl (2), .inr (3, 2147483647)]), (.inl (9), [.inr (-2147483648, -1), .inl (0), .inl (1), .inl (2), .inr (3, 2147483647)])]
set_option maxRecDepth 1000000 in
theorem by_14_1_4 : iv_al2 14 (.inl (0)) bq_14_1_4 = true := by decide +kernel
def bq_14_1_5 : List (iv_D × List iv_D) := [(.inl (10), [.inr (-2147483648, -1), .inl (0), .inl (1), .inl (2), .inr (3, 2147483647)]), (.inl (11), [.inr (-2147483648, -1), .inl (0), .inl (1), .inl (2), .inr (3, 2147483647)])]
set_option maxRecDepth 1000000 in
theorem by_14_1_5 : iv_al2 14 (.inl (0)) bq_14_1_5 = true := by decide +kernel
def bq_14_1_6 : List (iv_D × List iv_D) := [(.inl (12), [.inr (-2147483648, -1), .inl (0), .inl (1), .inl (2), .inr (3, 2147483647)]), (.inl (13), [.inr (-2147483648, -1), .inl (0), .inl (1), .inl (2), .inr (3, 2147483647)])]
set_option maxRecDepth 1000000 in
theorem by_14_1_6 : iv_al2 14 (.inl (0)) bq_14_1_6 = true := by decide +kernel
def bq_14_1_7 : List (iv_D × List iv_D) := [(.inl (14), [.inr (-2147483648, -1), .inl (0), .inl (1), .inl (2), .inr (3, 2147483647)]), (.inl (15), [.inr (-2147483648, -1), .inl (0), .inl (1), .inl (2), .inr (3, 2147483647)])]
set_option maxRecDepth 1000000 in
theorem by_14_1_7 : iv_al2 14 (.inl (0)) bq_14_1_7 = true := by decide +kernel
def bq_14_1_8 : List (iv_D × List iv_D) := [(.inl (16), [.inr (-2147483648, -1), .inl (0), .inl (1), .inl (2), .inr (3, 2147483647)]), (.inl (17), [.inr (-2147483648, -1), .inl (0), .inl (1), .inl (2), .inr (3, 2147483647)])]
set_option maxRecDepth 1000000 in
theorem by_14_1_8 : iv_al2 14 (.inl (0)) bq_14_1_8 = true := by decide +kernel
def bq_14_1_9 : List (iv_D × List iv_D) := [(.inl (18), [.inr (-2147483648, -1), .inl (0), .inl (1), .inl (2), .inr (3, 2147483647)]), (.inl (19), [.inr (-2147483648, -1), .inl (0), .inl (1), .inl (2), .inr (3, 2147483647)]), (.inr (20, 2147483647), [.inr (-2147483648, 2147483647)])]
set_option maxRecDepth 1000000 in
theorem by_14_1_9 : iv_al2 14 (.inl (0)) bq_14_1_9 = true := by decide +kernel
def bl_14_1 : List (iv_D × List (iv_D × List iv_D)) := [(.inl (0), (((((((((bq_14_1_0 ++ bq_14_1_1) ++ bq_14_1_2) ++ bq_14_1_3) ++ bq_14_1_4) ++ bq_14_1_5) ++ bq_14_1_6) ++ bq_14_1_7) ++ bq_14_1_8) ++ bq_14_1_9))]
theorem bx_14_1 : iv_all 14 bl_14_1 = true := iv_all_cons (iv_al2_app (iv_al2_app (iv_al2_app (iv_al2_app (iv_al2_app (iv_al2_app (iv_al2_app (iv_al2_app (iv_al2_app by_14_1_0 by_14_1_1) by_14_1_2) by_14_1_3) by_14_1_4) by_14_1_5) by_14_1_6) by_14_1_7) by_14_1_8) by_14_1_9) iv_all_nil
def bq_14_2_0 : List (iv_D × List iv_D) := [(.inr (-2147483648, -1), [.inr (-2147483648, 2147483647)]), (.inl (0), [.inr (-2147483648, -1), .inl (0), .inl (1), .inl (2), .inr (3, 2147483647)]), (.inl (1), [.inr (-2147483648, -1), .inl (0), .inl (1), .inl (2), .inr (3, 2147483647)])]
set_option maxRecDepth 1000000 in
theorem by_14_2_0 : iv_al2 14 (.inl (1)) bq_14_2_0 = true := by decide +kernel
def bq_14_2_1 : List (iv_D × List iv_D) := [(.inl (2), [.inr (-2147483648, -1), .inl (0), .inl (1), .inl (2), .inr (3, 2147483647)]), (.inl (3), [.inr (-2147483648, -1), .inl (0), .inl (1), .inl (2), .inr (3, 2147483647)])]
set_option maxRecDepth 1000000 in
theorem by_14_2_1 : iv_al2 14 (.inl (1)) bq_14_2_1 = true := by decide +kernel
def bq_14_2_2 : List (iv_D × List iv_D) := [(.inl (4), [.inr (-2147483648, -1), .inl (0), .inl (1), .inl (2), .inr (3, 2147483647)]), (.inl (5), [.inr (-2147483648, -1), .inl (0), .inl (1), .inl (2), .inr (3, 2147483647)])]
set_option maxRecDepth 1000000 in
theorem by_14_2_2 : iv_al2 14 (.inl (1)) bq_14_2_2 = true := by decide +kernel
def bq_14_2_3 : List (iv_D × List iv_D) := [(.inl (6), [.inr (-2147483648, -1), .inl (0), .inl (1), .inl (2), .inr (3, 2147483647)]), (.inl (7), [.inr (-2147483648, -1), .inl (0), .inl (1), .inl (2), .inr (3, 2147483647)])]
set_option maxRecDepth 1000000 in
theorem by_14_2_3 : iv_al2 14 (.inl (1)) bq_14_2_3 = true := by decide +kernel
def bq_14_2_4 : List (iv_D × List iv_D) := [(.inl (8), [.inr (-2147483648, -1), .inl (0), .inl (1), .inl (2), .inr (3, 2147483647)]), (.inl (9), [.inr (-2147483648, -1), .inl (0), .inl (1), .inl (2), .inr (3, 2147483647)])]
set_option maxRecDepth 1000000 in
theorem by_14_2_4 : iv_al2 14 (.inl (1)) bq_14_2_4 = true := by decide +kernel
def bq_14_2_5 : List (iv_D × List iv_D) := [(.inl (10), [.inr (-2147483648, -1), .inl (0), .inl (1), .inl (2), .inr (3, 2147483647)]), (.inl (11), [.inr (-2147483648, -1), .inl (0), .inl (1), .inl (2), .inr (3, 2147483647)])]
set_option maxRecDepth 1000000 in
theorem by_14_2_5 : iv_al2 14 (.inl (1)) bq_14_2_5 = true := by decide +kernel
def bq_14_2_6 : List (iv_D × List iv_D) := [(.inl (12), [.inr (-2147483648, -1), .inl (0), .inl (1), .inl (2), .inr (3, 2147483647)]), (.inl (13), [.inr (-2147483648, -1), .inl (0), .inl (1), .inl (2), .inr (3, 2147483647)])]
set_option maxRecDepth 1000000 in
theorem by_14_2_6 : iv_al2 14 (.inl (1)) bq_14_2_6 = true := by decide +kernel
def bq_14_2_7 : List (iv_D × List iv_D) := [(.inl (14), [.inr (-2147483648, -1), .inl (0), .inl (1), .inl (2), .inr (3, 2147483647)]), (.inl (15), [.inr (-2147483648, -1), .inl (0), .inl (1), .inl (2), .inr (3, 2147483647)])]
set_option maxRecDepth 1000000 in
theorem by_14_2_7 : iv_al2 14 (.inl (1)) bq_14_2_7 = true := by decide +kernel
def bq_14_2_8 : List (iv_D × List iv_D) := [(.inl (16), [.inr (-2147483648, -1), .inl (0), .inl (1), .inl (2), .inr (3, 2147483647)]), (.inl (17), [.inr (-2147483648, -1), .inl (0), .inl (1), .inl (2), .inr (3, 2147483647)])]
set_option maxRecDepth 1000000 in
theorem by_14_2_8 : iv_al2 14 (.inl (1)) bq_14_2_8 = true := by decide +kernel
def bq_14_2_9 : List (iv_D × List iv_D) := [(.inl (18), [.inr (-2147483648, -1), .inl (0), .inl (1), .inl (2), .inr (3, 2147483647)]), (.inl (19), [.inr (-2147483648, -1), .inl (0), .inl (1), .inl (2), .inr (3, 2147483647)]), (.inr (20, 2147483647), [.inr (-2147483648, 2147483647)])]
set_option maxRecDepth 1000000 in
theorem by_14_2_9 : iv_al2 14 (.inl (1)) bq_14_2_9 = true := by decide +kernel
def bl_14_2 : List (iv_D × List (iv_D × List iv_D)) := [(.inl (1), (((((((((bq_14_2_0 ++ bq_14_2_1) ++ bq_14_2_2) ++ bq_14_2_3) ++ bq_14_2_4) ++ bq_14_2_5) ++ bq_14_2_6) ++ bq_14_2_7) ++ bq_14_2_8) ++ bq_14_2_9))]
theorem bx_14_2 : iv_all 14 bl_14_2 = true := iv_all_cons (iv_al2_app (iv_al2_app (iv_al2_app (iv_al2_app (iv_al2_app (iv_al2_app (iv_al2_app (iv_al2_app (iv_al2_app by_14_2_0 by_14_2_1) by_14_2_2) by_14_2_3) by_14_2_4) by_14_2_5) by_14_2_6) by_14_2_7) by_14_2_8) by_14_2_9) iv_all_nil
def bl_14_3 : List (iv_D × List (iv_D × List iv_D)) := [(.inr (2, 2147483647), [(.inr (-2147483648, 2147483647), [.inr (-2147483648, 2147483647)])])]
set_option maxRecDepth 1000000 in
theorem bx_14_3 : iv_all 14 bl_14_3 = true := by decide +kernel
def bl_14 : List (iv_D × List (iv_D × List iv_D)) := (((bl_14_0 ++ bl_14_1) ++ bl_14_2) ++ bl_14_3)
theorem cv_14 : iv_cov bl_14 = true := by decide +kernel
theorem bx_14 : iv_all 14 bl_14 = true := (iv_all_app (iv_all_app (iv_all_app bx_14_0 bx_14_1) bx_14_2) bx_14_3)
