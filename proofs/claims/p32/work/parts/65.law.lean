set_option maxHeartbeats 4000000 in
/-- THE LAW, from its entry, for every script of at most 3072 ints -/
theorem whole_start {p : Program} {e : Env} {s : State} {m : MethodId} {below : List Frame} {meth : Method} {c : Code} (l : Launch) (hflags : l.flags = flags0) {b L : Nat} {xs : Nat → Int32} (hL : L ≤ 3072) (C0 : lw_At p s m meth c b L xs) : W p l e room_1 s m #[Value.ref b] below meth c s.heap [] 0 0 (lw_Z below #[Value.ref b] s) (entryFrame m ([Value.ref b] : List Value).toArray 7) := by
  obtain ⟨hx, hb, hr, hml, hown, hts, hX, hbl, hlocks, hgv⟩ := id C0
  have hl : l.stackTraces = false := by unfold Launch.stackTraces; rw [hflags]; decide +kernel
  have htG : ∀ w ∈ ip_G, w.before #[Value.ref b] s = true := fun w hw => hts w (List.mem_filter.mp hw).1
  obtain ⟨c0, i0, hk0⟩ := u_known (C := RX0) (T := TX0) (N := 5) (n := 5) hts ip_inX0 (hts (.instantiable RX0 5) (by decide +kernel))
  obtain ⟨c1, i1, hk1⟩ := u_known (C := RX1) (T := TX1) (N := 14) (n := 14) hts ip_inX1 (hts (.instantiable RX1 14) (by decide +kernel))
  obtain ⟨c2, i2, hk2⟩ := u_known (C := RX2) (T := TX2) (N := 3) (n := 3) hts ip_inX2 (hts (.instantiable RX2 3) (by decide +kernel))
  obtain ⟨c3, i3, hk3⟩ := u_known (C := RX3) (T := TX3) (N := 5) (n := 5) hts ip_inX3 (hts (.instantiable RX3 5) (by decide +kernel))
  obtain ⟨c4, i4, hk4⟩ := u_known (C := RX4) (T := TX4) (N := 9) (n := 9) hts ip_inX4 (hts (.instantiable RX4 9) (by decide +kernel))
  obtain ⟨c5, i5, hk5⟩ := u_known (C := RX5) (T := TX5) (N := 35) (n := 35) hts ip_inX5 (hts (.instantiable RX5 35) (by decide +kernel))
  obtain ⟨dC, dI, hKc⟩ : ∃ (dC : Nat → ClassId) (dI : Nat → Nat → Nat), ∀ (k : Nat) (q : vw_C), vwCl[k]? = some q → u_Kn s q.1 q.2.1 q.2.2 (dC k) (dI k) := by
    refine ⟨fun k => match k with | 0 => c0 | 1 => c1 | 2 => c2 | 3 => c3 | 4 => c4 | _ => c5, fun k => match k with | 0 => i0 | 1 => i1 | 2 => i2 | 3 => i3 | 4 => i4 | _ => i5, ?_⟩
    intro k q hq
    match k, hq with
    | 0, hq => cases hq; exact hk0
    | 1, hq => cases hq; exact hk1
    | 2, hq => cases hq; exact hk2
    | 3, hq => cases hq; exact hk3
    | 4, hq => cases hq; exact hk4
    | 5, hq => cases hq; exact hk5
    | k + 6, hq => simp [vwCl] at hq
  obtain ⟨cI, kI, pI, fI, gI, hI⟩ := Cond.arrayClass_spec (htG _ ip_acI)
  obtain ⟨cZ, kZ, pZ, fZ, gZ, hZ⟩ := Cond.arrayClass_spec (htG _ ip_acZ)
  obtain ⟨cJ, kJ, pJ, fJ, gJ, hJ⟩ := Cond.arrayClass_spec (htG _ ip_acJ)
  have hK : va_K (dC, dI) vwCl [(cI, .int), (cZ, .boolean), (cJ, .long)] s := by
    refine ⟨hKc, fun k q hq => ?_⟩
    match k, hq with
    | 0, hq => cases hq; exact ⟨fun n z => ⟨fun k h => (by cases h), kI, gI, pI, hI⟩, fI⟩
    | 1, hq => cases hq; exact ⟨fun n z => ⟨fun k h => (by cases h), kZ, gZ, pZ, hZ⟩, fZ⟩
    | 2, hq => cases hq; exact ⟨fun n z => ⟨fun k h => (by cases h), kJ, gJ, pJ, hJ⟩, fJ⟩
    | k + 3, hq => simp at hq
  obtain ⟨ra, hra3, hro⟩ := fi_start hts hgv hX hbl
  obtain ⟨A, hAe⟩ : ∃ A : Nat → Prop, A = fun q : Nat => s.heap.size ≤ q := ⟨_, rfl⟩
  rw [← hAe] at hro
  have hvals : ∀ k d, ((List.range L).map xs)[k]? = some d → ex_R d (xs k) := by
    intro k d h
    rw [List.getElem?_map] at h
    by_cases hk : k < L
    · rw [List.getElem?_range hk] at h
      cases h
      rfl
    · rw [List.getElem?_eq_none (by simp; omega)] at h
      cases h
  have hro4 : ip_ro ex_R ra (roS ((List.range L).map xs)) A s := hro ((List.range L).map xs) (by simp) hvals
  have hlen : ((List.range L).map xs).length ≤ 3072 := by simp; omega
  have hro3 : ip_ro ex_R ra ro3 A s := ⟨fun t ds ht => hro4.1 t ds (by
      match t, ht with
      | 0, ht => exact ht
      | 1, ht => exact ht
      | 2, ht => exact ht
      | t + 3, ht => simp [ro3] at ht), hro4.2⟩
  have hCx : ∀ ro : List (List Int32), ip_ro ex_R ra ro A s → ip_Cx ex_R ex_ops p s m #[Value.ref b] meth c cL_law 6 4 7 (dC, dI) cI cZ cJ A ra ro := fun ro hr1 =>
    ⟨ex_ok, hx, hb, hml, hown, htG, hK, fun q h => by rw [hAe]; exact h, hr1, fun h => by cases h⟩
  have hRS : ∀ (ro : List (List Int32)) (sp : Nat → Nat → Bool) (n : Nat), ip_RS ex_R ex_ops ro l s.heap.size (dC, dI) cI cZ cJ ra (ip_run ex_ops ro ip_hd sp n) := fun ro sp n => ip_run_ok ex_ok hl sp n
  have hML : ip_ML[207]? = some (yL_law, cL_law, some .boolean, 6, 4, 0, 11, 398, 1255, 0, 0) := rfl
  -- the law's own end
  have hend : ∀ fe : ip_Fr Int32, lwY fe → ip_good ex_R p l e room_1 s m #[Value.ref b] below meth c (lw_Z below #[Value.ref b] s) 7 s.heap.size (dC, dI) cI cZ cJ A ra fe := by
    intro fe hy ls st H locs g1 g2 g3
    obtain ⟨pc, la, hp, mc, ms, fz, nx, a1, b1, rfl, hT, hm1, hm2⟩ := hy
    dsimp only at g2 g3
    obtain ⟨w, s2, rfl, ⟨u, rfl, hu⟩, h2'⟩ := ip_all2_cons g2
    cases ip_all2_nil h2'
    have hu1 : u = 1 := hu
    subst hu1
    have hok := ip_tab hML hT
    unfold ip_ok at hok
    dsimp only at hok
    rw [Bool.and_eq_true, Bool.and_eq_true, decide_eq_true_eq] at hok
    obtain ⟨⟨hdec, hln⟩, -⟩ := hok
    have hd : decode code pc = .ok (.ireturn, 1) := by
      have e1 : nx = pc + 1 := Nat.eq_of_beq_eq_true hln
      rw [hdec, e1, Nat.add_sub_cancel_left]
    refine va_forget (fun q hq => ?_) (W.widen hm1 hm2 (lw_ret hx hb hr hlocks hd))
    have h9 := g3.2.1.2.2 q hq
    rw [hAe] at h9
    exact h9
  have h20 : ip_good ex_R p l e room_1 s m #[Value.ref b] below meth c (lw_Z below #[Value.ref b] s) 7 s.heap.size (dC, dI) cI cZ cJ A ra (x20f false) := by
    obtain ⟨fe, ⟨n, hrun⟩, hy⟩ := lr_start (s := (List.range L).map xs) hlen
    exact hRS (roS ((List.range L).map xs)) nosp n 207 yL_law cL_law (some .boolean) 6 4 0 11 398 1255 (0, 0) hML (x20f false) fe hrun p e room_1 s m #[Value.ref b] below meth c _ A rfl rfl rfl rfl (hCx _ hro4) (hend fe hy)
  have h20t : ip_good ex_R p l e room_1 s m #[Value.ref b] below meth c (lw_Z below #[Value.ref b] s) 7 s.heap.size (dC, dI) cI cZ cJ A ra (x20f true) := by
    intro ls st H locs g1 g2 g3
    exact h20 ls st H locs g1 g2 ⟨g3.1, g3.2.1, fun z => by cases z⟩
  have h0 := hRS ro3 sp20 100000 207 yL_law cL_law (some .boolean) 6 4 0 11 398 1255 (0, 0) hML x0f (x20f true) ev_1 p e room_1 s m #[Value.ref b] below meth c (lw_Z below #[Value.ref b] s) A rfl rfl rfl rfl (hCx ro3 hro3) h20t
  rw [lg_entry_eq]
  have hl1 := lv_entry ([.ref b]) (n := 7) (Nat.le_of_ble_eq_true rfl)
  refine h0 _ [] s.heap [] ⟨rfl, _, hl1, fun k v hv => ?_⟩ trivial ⟨⟨[], ⟨rfl, fun k x hx => by simp [x0f] at hx⟩, fun k q h => by simp at h, ⟨fun i j p q h => by simp at h, fun k q h => by simp at h⟩⟩, va_S.rf, fun _ => rfl⟩
  match k, hv with
  | 0, hv =>
    cases hv
    exact ⟨.ref b, List.mem_cons_self, rfl, by show Value.ref b = Value.ref (ra 3); rw [hra3]⟩
  | 1, hv => cases hv
  | 2, hv => cases hv
  | 3, hv => cases hv
  | 4, hv => cases hv
  | 5, hv => cases hv
  | 6, hv => cases hv
  | k + 7, hv => simp [x0f] at hv
