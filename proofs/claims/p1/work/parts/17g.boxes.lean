def bl_15_0 : List (iv_D × List (iv_D × List iv_D)) := [(.inr (-2147483648, -1), [(.inr (-2147483648, 2147483647), [.inr (-2147483648, 2147483647)])]), (.inl (0), [(.inr (-2147483648, -1), [.inr (-2147483648, 2147483647)]), (.inl (0), [.inr (-2147483648, 2147483647)]), (.inl (1), [.inr (-2147483648, 2147483647)]), (.inl (2), [.inr (-2147483648, 2147483647)]), (.inr (3, 2147483647), [.inr (-2147483648, 2147483647)])]), (.inl (1), [(.inr (-2147483648, -1), [.inr (-2147483648, 2147483647)]), (.inl (0), [.inr (-2147483648, 2147483647)]), (.inl (1), [.inr (-2147483648, 2147483647)]), (.inl (2), [.inr (-2147483648, 2147483647)]), (.inr (3, 2147483647), [.inr (-2147483648, 2147483647)])]), (.inr (2, 2147483647), [(.inr (-2147483648, 2147483647), [.inr (-2147483648, 2147483647)])])]
set_option maxRecDepth 1000000 in
theorem bx_15_0 : iv_all 15 bl_15_0 = true := by decide +kernel
def bl_15 : List (iv_D × List (iv_D × List iv_D)) := bl_15_0
theorem cv_15 : iv_cov bl_15 = true := by decide +kernel
theorem bx_15 : iv_all 15 bl_15 = true := bx_15_0
def bl_16_0 : List (iv_D × List (iv_D × List iv_D)) := [(.inr (-2147483648, 2147483647), [(.inr (-2147483648, 2147483647), [.inr (-2147483648, 2147483647)])])]
set_option maxRecDepth 1000000 in
theorem bx_16_0 : iv_all 16 bl_16_0 = true := by decide +kernel
def bl_16 : List (iv_D × List (iv_D × List iv_D)) := bl_16_0
theorem cv_16 : iv_cov bl_16 = true := by decide +kernel
theorem bx_16 : iv_all 16 bl_16 = true := bx_16_0
def bl_17_0 : List (iv_D × List (iv_D × List iv_D)) := [(.inr (-2147483648, -1), [(.inr (-2147483648, 2147483647), [.inr (-2147483648, 2147483647)])]), (.inl (0), [(.inr (-2147483648, -1), [.inr (-2147483648, 2147483647)]), (.inl (0), [.inr (-2147483648, -1), .inl (0), .inl (1), .inl (2), .inr (3, 2147483647)]), (.inl (1), [.inr (-2147483648, -1), .inl (0), .inl (1), .inl (2), .inr (3, 2147483647)]), (.inl (2), [.inr (-2147483648, -1), .inl (0), .inl (1), .inl (2), .inr (3, 2147483647)]), (.inr (3, 2147483647), [.inr (-2147483648, 2147483647)])]), (.inl (1), [(.inr (-2147483648, -1), [.inr (-2147483648, 2147483647)]), (.inl (0), [.inr (-2147483648, -1), .inl (0), .inl (1), .inl (2), .inr (3, 2147483647)]), (.inl (1), [.inr (-2147483648, -1), .inl (0), .inl (1), .inl (2), .inr (3, 2147483647)]), (.inl (2), [.inr (-2147483648, -1), .inl (0), .inl (1), .inl (2), .inr (3, 2147483647)]), (.inr (3, 2147483647), [.inr (-2147483648, 2147483647)])]), (.inr (2, 2147483647), [(.inr (-2147483648, 2147483647), [.inr (-2147483648, 2147483647)])])]
set_option maxRecDepth 1000000 in
theorem bx_17_0 : iv_all 17 bl_17_0 = true := by decide +kernel
def bl_17 : List (iv_D × List (iv_D × List iv_D)) := bl_17_0
theorem cv_17 : iv_cov bl_17 = true := by decide +kernel
theorem bx_17 : iv_all 17 bl_17 = true := bx_17_0
def bl_18_0 : List (iv_D × List (iv_D × List iv_D)) := [(.inr (-2147483648, -1), [(.inr (-2147483648, -1), [.inr (-2147483648, 2147483647)]), (.inr (0, 2147483647), [.inr (-2147483648, 2147483647)])]), (.inl (0), [(.inr (-2147483648, -1), [.inr (-2147483648, 2147483647)]), (.inr (0, 2147483647), [.inr (-2147483648, 2147483647)])]), (.inl (1), [(.inr (-2147483648, -1), [.inr (-2147483648, 2147483647)]), (.inr (0, 2147483647), [.inr (-2147483648, 2147483647)])]), (.inr (2, 2147483647), [(.inr (-2147483648, -1), [.inr (-2147483648, 2147483647)]), (.inr (0, 2147483647), [.inr (-2147483648, 2147483647)])])]
set_option maxRecDepth 1000000 in
theorem bx_18_0 : iv_all 18 bl_18_0 = true := by decide +kernel
def bl_18 : List (iv_D × List (iv_D × List iv_D)) := bl_18_0
theorem cv_18 : iv_cov bl_18 = true := by decide +kernel
theorem bx_18 : iv_all 18 bl_18 = true := bx_18_0
def bl_19_0 : List (iv_D × List (iv_D × List iv_D)) := [(.inr (-2147483648, -1), [(.inr (-2147483648, 2147483647), [.inr (-2147483648, 2147483647)])]), (.inl (0), [(.inr (-2147483648, 2147483647), [.inr (-2147483648, 2147483647)])]), (.inl (1), [(.inr (-2147483648, 2147483647), [.inr (-2147483648, 2147483647)])]), (.inr (2, 2147483647), [(.inr (-2147483648, 2147483647), [.inr (-2147483648, 2147483647)])])]
set_option maxRecDepth 1000000 in
theorem bx_19_0 : iv_all 19 bl_19_0 = true := by decide +kernel
def bl_19 : List (iv_D × List (iv_D × List iv_D)) := bl_19_0
theorem cv_19 : iv_cov bl_19 = true := by decide +kernel
theorem bx_19 : iv_all 19 bl_19 = true := bx_19_0
def bl_20_0 : List (iv_D × List (iv_D × List iv_D)) := [(.inr (-2147483648, -1), [(.inr (-2147483648, 2147483647), [.inr (-2147483648, 2147483647)])]), (.inl (0), [(.inr (-2147483648, 2147483647), [.inr (-2147483648, 2147483647)])]), (.inl (1), [(.inr (-2147483648, 2147483647), [.inr (-2147483648, 2147483647)])]), (.inr (2, 2147483647), [(.inr (-2147483648, 2147483647), [.inr (-2147483648, 2147483647)])])]
set_option maxRecDepth 1000000 in
theorem bx_20_0 : iv_all 20 bl_20_0 = true := by decide +kernel
def bl_20 : List (iv_D × List (iv_D × List iv_D)) := bl_20_0
theorem cv_20 : iv_cov bl_20 = true := by decide +kernel
theorem bx_20 : iv_all 20 bl_20 = true := bx_20_0
