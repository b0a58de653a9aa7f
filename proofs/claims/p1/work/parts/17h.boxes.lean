def bl_15_0 : List (iv_D × List (iv_D × List iv_D)) := [(.inr (-2147483648, -1), [(.inr (-2147483648, 2147483647), [.inr (-2147483648, 2147483647)])]), (.inl (0), [(.inr (-2147483648, -1), [.inr (-2147483648, 2147483647)]), (.inl (0), [.inr (-2147483648, 2147483647)]), (.inl (1), [.inr (-2147483648, 2147483647)]), (.inl (2), [.inr (-2147483648, 2147483647)]), (.inr (3, 2147483647), [.inr (-2147483648, 2147483647)])]), (.inl (1), [(.inr (-2147483648, -1), [.inr (-2147483648, 2147483647)]), (.inl (0), [.inr (-2147483648, 2147483647)]), (.inl (1), [.inr (-2147483648, 2147483647)]), (.inl (2), [.inr (-2147483648, 2147483647)]), (.inr (3, 2147483647), [.inr (-2147483648, 2147483647)])]), (.inr (2, 2147483647), [(.inr (-2147483648, 2147483647), [.inr (-2147483648, 2147483647)])])]
set_option maxRecDepth 1000000 in
theorem bx_15_0 : iv_all 15 bl_15_0 = true := by decide +kernel
def bl_15 : List (iv_D × List (iv_D × List iv_D)) := bl_15_0
theorem cv_15 : iv_cov bl_15 = true := by decide +kernel
theorem bx_15 : iv_all 15 bl_15 = true := bx_15_0
def bl_16_0 : List (iv_D × List (iv_D × List iv_D)) := [(.inr (-2147483648, 2147483647), [(.inr (-2147483648, 2147483647), [.inr (-2147483648, 2147483647)])])]
set_option maxRecDepth 1000000 in
theorem bx_16_0 : iv_all 16 bl_16_0 = true := by decide +kernel
def bl_16 : List (iv_D × List (iv_D × List iv_D)) := bl_16_0
theorem cv_16 : iv_cov bl_16 = true := by decide +kernel
theorem bx_16 : iv_all 16 bl_16 = true := bx_16_0
def bl_17_0 : List (iv_D × List (iv_D × List iv_D)) := [(.inr (-2147483648, -1), [(.inr (-2147483648, 2147483647), [.inr (-2147483648, 2147483647)])])]
set_option maxRecDepth 1000000 in
theorem bx_17_0 : iv_all 17 bl_17_0 = true := by decide +kernel
def bq_17_1_0 : List (iv_D × List iv_D) := [(.inr (-2147483648, -1), [.inr (-2147483648, 2147483647)]), (.inl (0), [.inr (-2147483648, -1), .inl (0), .inl (1), .inl (2), .inr (3, 2147483647)])]
set_option maxRecDepth 1000000 in
theorem by_17_1_0 : iv_al2 17 (.inl (0)) bq_17_1_0 = true := by decide +kernel
def bq_17_1_1 : List (iv_D × List iv_D) := [(.inl (1), [.inr (-2147483648, -1), .inl (0), .inl (1), .inl (2), .inr (3, 2147483647)])]
set_option maxRecDepth 1000000 in
theorem by_17_1_1 : iv_al2 17 (.inl (0)) bq_17_1_1 = true := by decide +kernel
def bq_17_1_2 : List (iv_D × List iv_D) := [(.inl (2), [.inr (-2147483648, -1), .inl (0), .inl (1), .inl (2), .inr (3, 2147483647)]), (.inr (3, 2147483647), [.inr (-2147483648, 2147483647)])]
set_option maxRecDepth 1000000 in
theorem by_17_1_2 : iv_al2 17 (.inl (0)) bq_17_1_2 = true := by decide +kernel
def bl_17_1 : List (iv_D × List (iv_D × List iv_D)) := [(.inl (0), ((bq_17_1_0 ++ bq_17_1_1) ++ bq_17_1_2))]
theorem bx_17_1 : iv_all 17 bl_17_1 = true := iv_all_cons (iv_al2_app (iv_al2_app by_17_1_0 by_17_1_1) by_17_1_2) iv_all_nil
def bq_17_2_0 : List (iv_D × List iv_D) := [(.inr (-2147483648, -1), [.inr (-2147483648, 2147483647)]), (.inl (0), [.inr (-2147483648, -1), .inl (0), .inl (1), .inl (2), .inr (3, 2147483647)])]
set_option maxRecDepth 1000000 in
theorem by_17_2_0 : iv_al2 17 (.inl (1)) bq_17_2_0 = true := by decide +kernel
def bq_17_2_1 : List (iv_D × List iv_D) := [(.inl (1), [.inr (-2147483648, -1), .inl (0), .inl (1), .inl (2), .inr (3, 2147483647)])]
set_option maxRecDepth 1000000 in
theorem by_17_2_1 : iv_al2 17 (.inl (1)) bq_17_2_1 = true := by decide +kernel
def bq_17_2_2 : List (iv_D × List iv_D) := [(.inl (2), [.inr (-2147483648, -1), .inl (0), .inl (1), .inl (2), .inr (3, 2147483647)]), (.inr (3, 2147483647), [.inr (-2147483648, 2147483647)])]
set_option maxRecDepth 1000000 in
theorem by_17_2_2 : iv_al2 17 (.inl (1)) bq_17_2_2 = true := by decide +kernel
def bl_17_2 : List (iv_D × List (iv_D × List iv_D)) := [(.inl (1), ((bq_17_2_0 ++ bq_17_2_1) ++ bq_17_2_2))]
theorem bx_17_2 : iv_all 17 bl_17_2 = true := iv_all_cons (iv_al2_app (iv_al2_app by_17_2_0 by_17_2_1) by_17_2_2) iv_all_nil
def bl_17_3 : List (iv_D × List (iv_D × List iv_D)) := [(.inr (2, 2147483647), [(.inr (-2147483648, 2147483647), [.inr (-2147483648, 2147483647)])])]
set_option maxRecDepth 1000000 in
theorem bx_17_3 : iv_all 17 bl_17_3 = true := by decide +kernel
def bl_17 : List (iv_D × List (iv_D × List iv_D)) := (((bl_17_0 ++ bl_17_1) ++ bl_17_2) ++ bl_17_3)
theorem cv_17 : iv_cov bl_17 = true := by decide +kernel
theorem bx_17 : iv_all 17 bl_17 = true := (iv_all_app (iv_all_app (iv_all_app bx_17_0 bx_17_1) bx_17_2) bx_17_3)
def bl_18_0 : List (iv_D × List (iv_D × List iv_D)) := [(.inr (-2147483648, -1), [(.inr (-2147483648, -1), [.inr (-2147483648, 2147483647)]), (.inr (0, 2147483647), [.inr (-2147483648, 2147483647)])]), (.inl (0), [(.inr (-2147483648, -1), [.inr (-2147483648, 2147483647)]), (.inr (0, 2147483647), [.inr (-2147483648, 2147483647)])]), (.inl (1), [(.inr (-2147483648, -1), [.inr (-2147483648, 2147483647)]), (.inr (0, 2147483647), [.inr (-2147483648, 2147483647)])]), (.inr (2, 2147483647), [(.inr (-2147483648, -1), [.inr (-2147483648, 2147483647)]), (.inr (0, 2147483647), [.inr (-2147483648, 2147483647)])])]
set_option maxRecDepth 1000000 in
theorem bx_18_0 : iv_all 18 bl_18_0 = true := by decide +kernel
def bl_18 : List (iv_D × List (iv_D × List iv_D)) := bl_18_0
theorem cv_18 : iv_cov bl_18 = true := by decide +kernel
theorem bx_18 : iv_all 18 bl_18 = true := bx_18_0
def bl_19_0 : List (iv_D × List (iv_D × List iv_D)) := [(.inr (-2147483648, -1), [(.inr (-2147483648, 2147483647), [.inr (-2147483648, 2147483647)])]), (.inl (0), [(.inr (-2147483648, 2147483647), [.inr (-2147483648, 2147483647)])]), (.inl (1), [(.inr (-2147483648, 2147483647), [.inr (-2147483648, 2147483647)])]), (.inr (2, 2147483647), [(.inr (-2147483648, 2147483647), [.inr (-2147483648, 2147483647)])])]
set_option maxRecDepth 1000000 in
theorem bx_19_0 : iv_all 19 bl_19_0 = true := by decide +kernel
def bl_19 : List (iv_D × List (iv_D × List iv_D)) := bl_19_0
theorem cv_19 : iv_cov bl_19 = true := by decide +kernel
theorem bx_19 : iv_all 19 bl_19 = true := bx_19_0
def bl_20_0 : List (iv_D × List (iv_D × List iv_D)) := [(.inr (-2147483648, -1), [(.inr (-2147483648, 2147483647), [.inr (-2147483648, 2147483647)])]), (.inl (0), [(.inr (-2147483648, 2147483647), [.inr (-2147483648, 2147483647)])]), (.inl (1), [(.inr (-2147483648, 2147483647), [.inr (-2147483648, 2147483647)])]), (.inr (2, 2147483647), [(.inr (-2147483648, 2147483647), [.inr (-2147483648, 2147483647)])])]
set_option maxRecDepth 1000000 in
theorem bx_20_0 : iv_all 20 bl_20_0 = true := by decide +kernel
def bl_20 : List (iv_D × List (iv_D × List iv_D)) := bl_20_0
theorem cv_20 : iv_cov bl_20 = true := by decide +kernel
theorem bx_20 : iv_all 20 bl_20 = true := bx_20_0
