set_option maxHeartbeats 4000000 in
/-- THE LAW, from its entry, for every script of at most 6 ints -/
theorem whole_start {p : Program} {e : Env} {s : State} {m : MethodId} {below : List Frame} {meth : Method} {c : Code} (l : Launch) (hflags : l.flags = flags0) {b L : Nat} {xs : Nat → Int32} (hL : L ≤ 6) (C0 : lw_At p s m meth c b L xs) : W p l e room_1 s m #[Value.ref b] below meth c s.heap [] 0 0 (lw_Z below #[Value.ref b] s) (entryFrame m ([Value.ref b] : List Value).toArray 7) := by
  obtain ⟨hx, hb, hr, hml, hown, hts, hX, hbl, hlocks, hgv⟩ := id C0
  have hl : l.stackTraces = false := by unfold Launch.stackTraces; rw [hflags]; decide +kernel
  have htG : ∀ w ∈ ip_G, w.before #[Value.ref b] s = true := fun w hw => hts w (List.mem_filter.mp hw).1
  obtain ⟨c0, i0, hk0⟩ := u_known (C := RX0) (T := TX0) (N := 5) (n := 5) hts ip_inX0 (hts (.instantiable RX0 5) (by decide +kernel))
  obtain ⟨c1, i1, hk1⟩ := u_known (C := RX1) (T := TX1) (N := 14) (n := 14) hts ip_inX1 (hts (.instantiable RX1 14) (by decide +kernel))
  obtain ⟨c2, i2, hk2⟩ := u_known (C := RX2) (T := TX2) (N := 3) (n := 3) hts ip_inX2 (hts (.instantiable RX2 3) (by decide +kernel))
  obtain ⟨c3, i3, hk3⟩ := u_known (C := RX3) (T := TX3) (N := 5) (n := 5) hts ip_inX3 (hts (.instantiable RX3 5) (by decide +kernel))
  obtain ⟨c4, i4, hk4⟩ := u_known (C := RX4) (T := TX4) (N := 9) (n := 9) hts ip_inX4 (hts (.instantiable RX4 9) (by decide +kernel))
  obtain ⟨c5, i5, hk5⟩ := u_known (C := RX5) (T := TX5) (N := 35) (n := 35) hts ip_inX5 (hts (.instantiable RX5 35) (by decide +kernel))
  obtain ⟨dC, dI, hKc⟩ : ∃ (dC : Nat → ClassId) (dI : Nat → Nat → Nat), ∀ (k : Nat) (q : vw_C), vwCl[k]? = some q → u_Kn s q.1 q.2.1 q.2.2 (dC k) (dI k) := by
    refine ⟨fun k => match k with | 0 => c0 | 1 => c1 | 2 => c2 | 3 => c3 | 4 => c4 | _ => c5, fun k => match k with | 0 => i0 | 1 => i1 | 2 => i2 | 3 => i3 | 4 => i4 | _ => i5, ?_⟩
    intro k q hq
    match k, hq with
    | 0, hq => cases hq; exact hk0
    | 1, hq => cases hq; exact hk1
    | 2, hq => cases hq; exact hk2
    | 3, hq => cases hq; exact hk3
    | 4, hq => cases hq; exact hk4
    | 5, hq => cases hq; exact hk5
    | k + 6, hq => simp [vwCl] at hq
  obtain ⟨cI, kI, pI, fI, gI, hI⟩ := Cond.arrayClass_spec (htG _ ip_acI)
  obtain ⟨cZ, kZ, pZ, fZ, gZ, hZ⟩ := Cond.arrayClass_spec (htG _ ip_acZ)
  obtain ⟨cJ, kJ, pJ, fJ, gJ, hJ⟩ := Cond.arrayClass_spec (htG _ ip_acJ)
  have hK : va_K (dC, dI) vwCl [(cI, .int), (cZ, .boolean), (cJ, .long)] s := by
    refine ⟨hKc, fun k q hq => ?_⟩
    match k, hq with
    | 0, hq => cases hq; exact ⟨fun n z => ⟨fun k h => (by cases h), kI, gI, pI, hI⟩, fI⟩
    | 1, hq => cases hq; exact ⟨fun n z => ⟨fun k h => (by cases h), kZ, gZ, pZ, hZ⟩, fZ⟩
    | 2, hq => cases hq; exact ⟨fun n z => ⟨fun k h => (by cases h), kJ, gJ, pJ, hJ⟩, fJ⟩
    | k + 3, hq => simp at hq
  obtain ⟨ra, hra3, hro⟩ := fi_start hts hgv hX hbl
  obtain ⟨A, hAe⟩ : ∃ A : Nat → Prop, A = fun q : Nat => s.heap.size ≤ q := ⟨_, rfl⟩
  rw [← hAe] at hro
  have hCx : ∀ scr : List iv_D, ip_ro iv_R ra (iv_ro scr) A s → ip_Cx iv_R iv_ops p s m #[Value.ref b] meth c cL_law 6 4 7 (dC, dI) cI cZ cJ A ra (iv_ro scr) := fun scr hr1 =>
    ⟨iv_ok, hx, hb, hml, hown, htG, hK, fun q h => by rw [hAe]; exact h, hr1, fun h => by cases h⟩
  -- the empty row of the script serves where it isn't read
  have hro0 : ip_ro iv_R ra (iv_ro []) A s ∨ True := Or.inr trivial
  have hsub : ∀ scr : List iv_D, ip_ro iv_R ra (iv_ro scr) A s → ip_ro iv_R ra [iv_st [20, 150, 5, 6, 9], iv_st [1, 1, 1, 0, 0], iv_st [20, 400, 20, 20, 20]] A s := fun scr h =>
    ⟨fun t ds ht => h.1 t ds (by
      match t, ht with
      | 0, ht => exact ht
      | 1, ht => exact ht
      | 2, ht => exact ht
      | t + 3, ht => simp at ht), h.2⟩
  have htop : ∀ scr : List iv_D, scr.length = L → (∀ k d, scr[k]? = some d → iv_R d (xs k)) → ip_ro iv_R ra (iv_ro scr) A s := hro
  have hreplR : ∀ n, ∀ k d, (List.replicate n iv_top1)[k]? = some d → iv_R d (xs k) := fun n k d h => by
    have := (List.mem_replicate.mp (List.mem_of_getElem? h)).2
    rw [this]
    exact iv_top _
  have hro1 := htop (List.replicate L iv_top1) (by simp) (hreplR L)
  have hRS : ∀ (ro : List (List iv_D)) (sp : Nat → Nat → Bool), ip_RS iv_R iv_ops ro l s.heap.size (dC, dI) cI cZ cJ ra (ip_run iv_ops ro ip_hd sp 100000) := fun ro sp => ip_run_ok iv_ok hl sp 100000
  have hML : ip_ML[208]? = some (yL_law, cL_law, some .boolean, 6, 4, 0, 11, 400, 1311, 0, 0) := rfl
  -- the law's own end
  have hend : ∀ fe : ip_Fr iv_D, iv_yes (some fe) = true → ip_good iv_R p l e room_1 s m #[Value.ref b] below meth c (lw_Z below #[Value.ref b] s) 7 s.heap.size (dC, dI) cI cZ cJ A ra fe := by
    intro fe hy ls st H locs g1 g2 g3
    obtain ⟨pc, la, sta, hp, mc, ms, fz⟩ := fe
    unfold iv_yes at hy
    dsimp only at hy g2 g3
    split at hy
    case h_2 => cases hy
    rename_i pc' la' v hp' mc' ms' fz' heq
    cases heq
    split at hy
    case h_2 => cases hy
    rename_i nx a1 b1 hT
    simp only [Bool.and_eq_true, decide_eq_true_eq, Nat.ble_eq] at hy
    obtain ⟨rfl, hm1, hm2⟩ := hy
    obtain ⟨w, s2, rfl, ⟨u, rfl, hu⟩, h2'⟩ := ip_all2_cons g2
    cases ip_all2_nil h2'
    have hu1 : u = 1 := iv_R_inl hu
    subst hu1
    have hok := ip_tab hML hT
    unfold ip_ok at hok
    dsimp only at hok
    rw [Bool.and_eq_true, Bool.and_eq_true, decide_eq_true_eq] at hok
    obtain ⟨⟨hdec, hln⟩, -⟩ := hok
    have hd : decode code pc = .ok (.ireturn, 1) := by
      have e1 : nx = pc + 1 := Nat.eq_of_beq_eq_true hln
      rw [hdec, e1, Nat.add_sub_cancel_left]
    refine va_forget (fun q hq => ?_) (W.widen hm1 hm2 (lw_ret hx hb hr hlocks hd))
    have h9 := g3.2.1.2.2 q hq
    rw [hAe] at h9
    exact h9
  -- a whole run from a frame
  have hrun : ∀ (scr : List iv_D) (f : ip_Fr iv_D), ip_ro iv_R ra (iv_ro scr) A s → iv_yes (ip_run iv_ops (iv_ro scr) iv_hd iv_ns 100000 208 f) = true → ip_good iv_R p l e room_1 s m #[Value.ref b] below meth c (lw_Z below #[Value.ref b] s) 7 s.heap.size (dC, dI) cI cZ cJ A ra f := by
    intro scr f hr1 hy
    cases hf : ip_run iv_ops (iv_ro scr) iv_hd iv_ns 100000 208 f with
    | none => rw [hf] at hy; cases hy
    | some fe =>
      rw [hf] at hy
      exact hRS (iv_ro scr) iv_ns 208 yL_law cL_law (some .boolean) 6 4 0 11 400 1311 (0, 0) hML f fe hf p e room_1 s m #[Value.ref b] below meth c _ A rfl rfl rfl rfl (hCx scr hr1) (hend fe hy)
  have h20 : ip_good iv_R p l e room_1 s m #[Value.ref b] below meth c (lw_Z below #[Value.ref b] s) 7 s.heap.size (dC, dI) cI cZ cJ A ra iv_f20 := by
    rcases Nat.lt_or_ge L 6 with h6 | h6
    · exact hrun (List.replicate L iv_top1) iv_f20 hro1 (List.all_eq_true.mp ev_L L (List.mem_range.mpr h6))
    · have hL6 : L = 6 := by omega
      subst hL6
      refine hRS (iv_ro (List.replicate 6 iv_top1)) (iv_sp 40) 208 yL_law cL_law (some .boolean) 6 4 0 11 400 1311 (0, 0) hML iv_f20 _ ev_B p e room_1 s m #[Value.ref b] below meth c _ A rfl rfl rfl rfl (hCx _ hro1) ?_
      intro ls st H locs g1 g2 g3
      obtain ⟨w, s2, rfl, ⟨u, rfl, hu⟩, h2'⟩ := ip_all2_cons g2
      cases ip_all2_nil h2'
      by_cases hout : u.toInt < 0 ∨ 36 < u.toInt
      · refine lv_tableOut hx hb iv_dL hout (tgt := 1303) (by decide) ?_
        exact hrun (List.replicate 6 iv_top1) _ hro1 ev_D ls [] H locs g1 trivial g3
      · have hu0 : 0 ≤ u.toInt := by omega
        have hu37 : u.toInt.toNat < 37 := by omega
        have hue : Int32.ofNat u.toInt.toNat = u := by
          apply Int32.toInt_inj.mp
          rw [Int32.toInt_ofNat_of_lt (by omega)]
          omega
        obtain ⟨BL, hcov, hall⟩ := bx_any u.toInt.toNat hu37
        rw [hue] at hall
        obtain ⟨ba, bb, bc, r1, r2, r3, hbox⟩ := iv_pick hcov hall (xs 1) (xs 2) (xs 3)
        have hroB := htop [iv_top1, ba, bb, bc, iv_top1, iv_top1] rfl (fun k d h => by
          match k, h with
          | 0, h => cases h; exact iv_top _
          | 1, h => cases h; exact r1
          | 2, h => cases h; exact r2
          | 3, h => cases h; exact r3
          | 4, h => cases h; exact iv_top _
          | 5, h => cases h; exact iv_top _
          | k + 6, h => simp at h)
        exact hrun _ (iv_f40 (.inl u)) hroB hbox ls [.int u] H locs g1 ⟨⟨u, rfl, Int32.le_refl _, Int32.le_refl _⟩, trivial⟩ g3
  have h0 := hRS [iv_st [20, 150, 5, 6, 9], iv_st [1, 1, 1, 0, 0], iv_st [20, 400, 20, 20, 20]] (iv_sp 20) 208 yL_law cL_law (some .boolean) 6 4 0 11 400 1311 (0, 0) hML iv_f0 iv_f20 ev_A p e room_1 s m #[Value.ref b] below meth c (lw_Z below #[Value.ref b] s) A rfl rfl rfl rfl
    ⟨iv_ok, hx, hb, hml, hown, htG, hK, fun q h => by rw [hAe]; exact h, hsub _ hro1, fun h => by cases h⟩ h20
  rw [lg_entry_eq]
  have hl1 := lv_entry ([.ref b]) (n := 7) (Nat.le_of_ble_eq_true rfl)
  refine h0 _ [] s.heap [] ⟨rfl, _, hl1, fun k v hv => ?_⟩ trivial ⟨⟨[], ⟨rfl, fun k x hx => by simp [iv_f0] at hx⟩, fun k q h => by simp at h, ⟨fun i j p q h => by simp at h, fun k q h => by simp at h⟩⟩, va_S.rf, fun _ => rfl⟩
  match k, hv with
  | 0, hv =>
    cases hv
    exact ⟨.ref b, List.mem_cons_self, rfl, by show Value.ref b = Value.ref (ra 3); rw [hra3]⟩
  | 1, hv => cases hv
  | 2, hv => cases hv
  | 3, hv => cases hv
  | 4, hv => cases hv
  | 5, hv => cases hv
  | 6, hv => cases hv
  | k + 7, hv => simp [iv_f0] at hv
