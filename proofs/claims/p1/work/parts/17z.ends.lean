set_option maxRecDepth 1000000 in
theorem ev_A : ip_run iv_ops [iv_st [20, 150, 5, 6, 9], iv_st [1, 1, 1, 0, 0], iv_st [20, 400, 20, 20, 20]] iv_hd (iv_sp 20) 100000 208 iv_f0 = some iv_f20 := by decide +kernel
set_option maxRecDepth 1000000 in
theorem ev_B : ip_run iv_ops (iv_ro (List.replicate 6 iv_top1)) iv_hd (iv_sp 40) 100000 208 iv_f20 = some (iv_f40 iv_top1) := by decide +kernel
set_option maxRecDepth 1000000 in
theorem ev_L : (List.range 6).all (fun L => iv_yes (ip_run iv_ops (iv_ro (List.replicate L iv_top1)) iv_hd iv_ns 100000 208 iv_f20)) = true := by decide +kernel
set_option maxRecDepth 1000000 in
theorem ev_D : iv_yes (ip_run iv_ops (iv_ro (List.replicate 6 iv_top1)) iv_hd iv_ns 100000 208 (1303, iv_l40, [], iv_hp, 61, 4055, true)) = true := by decide +kernel
theorem bx_any (k : Nat) (hk37 : k < 37) : ∃ L, iv_cov L = true ∧ iv_all (Int32.ofNat k) L = true :=
  (Nat.lt_or_ge k 18).elim (fun h18 => (Nat.lt_or_ge k 9).elim (fun h9 => (Nat.lt_or_ge k 4).elim (fun h4 => (Nat.lt_or_ge k 2).elim (fun h2 => (Nat.lt_or_ge k 1).elim (fun h1 => (by
    have hk : k = 0 := by omega
    subst hk
    exact ⟨bl_0, cv_0, bx_0⟩)) (fun h1 => (by
    have hk : k = 1 := by omega
    subst hk
    exact ⟨bl_1, cv_1, bx_1⟩))) (fun h2 => (Nat.lt_or_ge k 3).elim (fun h3 => (by
    have hk : k = 2 := by omega
    subst hk
    exact ⟨bl_2, cv_2, bx_2⟩)) (fun h3 => (by
    have hk : k = 3 := by omega
    subst hk
    exact ⟨bl_3, cv_3, bx_3⟩)))) (fun h4 => (Nat.lt_or_ge k 6).elim (fun h6 => (Nat.lt_or_ge k 5).elim (fun h5 => (by
    have hk : k = 4 := by omega
    subst hk
    exact ⟨bl_4, cv_4, bx_4⟩)) (fun h5 => (by
    have hk : k = 5 := by omega
    subst hk
    exact ⟨bl_5, cv_5, bx_5⟩))) (fun h6 => (Nat.lt_or_ge k 7).elim (fun h7 => (by
    have hk : k = 6 := by omega
    subst hk
    exact ⟨bl_6, cv_6, bx_6⟩)) (fun h7 => (Nat.lt_or_ge k 8).elim (fun h8 => (by
    have hk : k = 7 := by omega
    subst hk
    exact ⟨bl_7, cv_7, bx_7⟩)) (fun h8 => (by
    have hk : k = 8 := by omega
    subst hk
    exact ⟨bl_8, cv_8, bx_8⟩)))))) (fun h9 => (Nat.lt_or_ge k 13).elim (fun h13 => (Nat.lt_or_ge k 11).elim (fun h11 => (Nat.lt_or_ge k 10).elim (fun h10 => (by
    have hk : k = 9 := by omega
    subst hk
    exact ⟨bl_9, cv_9, bx_9⟩)) (fun h10 => (by
    have hk : k = 10 := by omega
    subst hk
    exact ⟨bl_10, cv_10, bx_10⟩))) (fun h11 => (Nat.lt_or_ge k 12).elim (fun h12 => (by
    have hk : k = 11 := by omega
    subst hk
    exact ⟨bl_11, cv_11, bx_11⟩)) (fun h12 => (by
    have hk : k = 12 := by omega
    subst hk
    exact ⟨bl_12, cv_12, bx_12⟩)))) (fun h13 => (Nat.lt_or_ge k 15).elim (fun h15 => (Nat.lt_or_ge k 14).elim (fun h14 => (by
    have hk : k = 13 := by omega
    subst hk
    exact ⟨bl_13, cv_13, bx_13⟩)) (fun h14 => (by
    have hk : k = 14 := by omega
    subst hk
    exact ⟨bl_14, cv_14, bx_14⟩))) (fun h15 => (Nat.lt_or_ge k 16).elim (fun h16 => (by
    have hk : k = 15 := by omega
    subst hk
    exact ⟨bl_15, cv_15, bx_15⟩)) (fun h16 => (Nat.lt_or_ge k 17).elim (fun h17 => (by
    have hk : k = 16 := by omega
    subst hk
    exact ⟨bl_16, cv_16, bx_16⟩)) (fun h17 => (by
    have hk : k = 17 := by omega
    subst hk
    exact ⟨bl_17, cv_17, bx_17⟩))))))) (fun h18 => (Nat.lt_or_ge k 27).elim (fun h27 => (Nat.lt_or_ge k 22).elim (fun h22 => (Nat.lt_or_ge k 20).elim (fun h20 => (Nat.lt_or_ge k 19).elim (fun h19 => (by
    have hk : k = 18 := by omega
    subst hk
    exact ⟨bl_18, cv_18, bx_18⟩)) (fun h19 => (by
    have hk : k = 19 := by omega
    subst hk
    exact ⟨bl_19, cv_19, bx_19⟩))) (fun h20 => (Nat.lt_or_ge k 21).elim (fun h21 => (by
    have hk : k = 20 := by omega
    subst hk
    exact ⟨bl_20, cv_20, bx_20⟩)) (fun h21 => (by
    have hk : k = 21 := by omega
    subst hk
    exact ⟨bl_21, cv_21, bx_21⟩)))) (fun h22 => (Nat.lt_or_ge k 24).elim (fun h24 => (Nat.lt_or_ge k 23).elim (fun h23 => (by
    have hk : k = 22 := by omega
    subst hk
    exact ⟨bl_22, cv_22, bx_22⟩)) (fun h23 => (by
    have hk : k = 23 := by omega
    subst hk
    exact ⟨bl_23, cv_23, bx_23⟩))) (fun h24 => (Nat.lt_or_ge k 25).elim (fun h25 => (by
    have hk : k = 24 := by omega
    subst hk
    exact ⟨bl_24, cv_24, bx_24⟩)) (fun h25 => (Nat.lt_or_ge k 26).elim (fun h26 => (by
    have hk : k = 25 := by omega
    subst hk
    exact ⟨bl_25, cv_25, bx_25⟩)) (fun h26 => (by
    have hk : k = 26 := by omega
    subst hk
    exact ⟨bl_26, cv_26, bx_26⟩)))))) (fun h27 => (Nat.lt_or_ge k 32).elim (fun h32 => (Nat.lt_or_ge k 29).elim (fun h29 => (Nat.lt_or_ge k 28).elim (fun h28 => (by
    have hk : k = 27 := by omega
    subst hk
    exact ⟨bl_27, cv_27, bx_27⟩)) (fun h28 => (by
    have hk : k = 28 := by omega
    subst hk
    exact ⟨bl_28, cv_28, bx_28⟩))) (fun h29 => (Nat.lt_or_ge k 30).elim (fun h30 => (by
    have hk : k = 29 := by omega
    subst hk
    exact ⟨bl_29, cv_29, bx_29⟩)) (fun h30 => (Nat.lt_or_ge k 31).elim (fun h31 => (by
    have hk : k = 30 := by omega
    subst hk
    exact ⟨bl_30, cv_30, bx_30⟩)) (fun h31 => (by
    have hk : k = 31 := by omega
    subst hk
    exact ⟨bl_31, cv_31, bx_31⟩))))) (fun h32 => (Nat.lt_or_ge k 34).elim (fun h34 => (Nat.lt_or_ge k 33).elim (fun h33 => (by
    have hk : k = 32 := by omega
    subst hk
    exact ⟨bl_32, cv_32, bx_32⟩)) (fun h33 => (by
    have hk : k = 33 := by omega
    subst hk
    exact ⟨bl_33, cv_33, bx_33⟩))) (fun h34 => (Nat.lt_or_ge k 35).elim (fun h35 => (by
    have hk : k = 34 := by omega
    subst hk
    exact ⟨bl_34, cv_34, bx_34⟩)) (fun h35 => (Nat.lt_or_ge k 36).elim (fun h36 => (by
    have hk : k = 35 := by omega
    subst hk
    exact ⟨bl_35, cv_35, bx_35⟩)) (fun h36 => (by
    have hk : k = 36 := by omega
    subst hk
    exact ⟨bl_36, cv_36, bx_36⟩)))))))
