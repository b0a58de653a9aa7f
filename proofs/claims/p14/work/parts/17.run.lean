
theorem ip_k3_all : (List.range 209).all (fun j => match ip_ML[j]? with
    | none => true
    | some e => !(Nat.beq e.2.2.2.2.1 3) || (Nat.beq j 206 || Nat.beq j 207)) = true := by decide +kernel
theorem ip_k3 {j : Nat} {e : ip_ME} (he : ip_ML[j]? = some e) (h3 : e.2.2.2.2.1 = 3) : j = 206 ∨ j = 207 := by
  have hn : j < 209 := (List.getElem?_eq_some_iff.mp he).1
  have h := List.all_eq_true.mp ip_k3_all j (List.mem_range.mpr hn)
  simp only [he, h3, Bool.or_eq_true, Nat.beq_eq] at h
  rcases h with h | h | h
  · exact absurd h (by decide)
  · exact Or.inl h
  · exact Or.inr h
theorem ip_try_facts {j cls kd pcode fr lo size pm ps : Nat} {y : MethodName} {bs : ByteArray} {ret : Option FieldType} (he : ip_ML[j]? = some (y, bs, ret, cls, kd, pcode, fr, lo, size, pm, ps)) (hkd : kd = 3) :
    ∃ e9 hpc k9, cls = 6 ∧ ret = some .int ∧ Cond.codeWith y bs (ip_mx j) ret [(0, e9, hpc, 13)] ∈ ip_G ∧ Cond.static y ∈ ip_G ∧ decode bs hpc = .ok (.astore k9, 2) ∧ k9 < ip_mx j ∧ ip_hd j = hpc + 2 ∧
      ∀ pc q nx jt b, ip_T j pc = some (.invokevirtual q, nx, jt, b, 9) → (jt = 82 ∨ jt = 83) ∧ covers ⟨0, e9, hpc, 13⟩ pc = true ∧ nx = pc + 3 := by
  rcases ip_k3 he hkd with rfl | rfl
  · cases he
    refine ⟨10, 13, 4, rfl, rfl, ip_cwI, ip_stI, ip_daI, by decide, rfl, fun pc q nx jt b h => ?_⟩
    obtain ⟨rfl, rfl, h3⟩ := ip_ivk_of ip_ivk_inn (tz_206 pc) h
    exact ⟨Or.inl rfl, by decide, h3⟩
  · cases he
    refine ⟨12, 15, 5, rfl, rfl, ip_cwC, ip_stC, ip_daC, by decide, rfl, fun pc q nx jt b h => ?_⟩
    obtain ⟨rfl, rfl, h3⟩ := ip_ivk_of ip_ivk_cut (tz_207 pc) h
    exact ⟨Or.inr rfl, by decide, h3⟩
section Runs
variable {D : Type} {R : D → Int32 → Prop} {ops : ip_O D} {p : Program} {l : Launch} {e : Env} {Rm : Room} {s : State} {m : MethodId} {args : Array Value} {below : List Frame} {meth : Method} {c : Code} {Q : State → Prop} {bs : ByteArray} {cls kd nL base : Nat} {Dg : va_G} {cI cZ cJ : ClassId} {A : Nat → Prop} {ra : Nat → Nat} {ro : List (List D)}
variable {pc mc ms : Nat} {la : List (Option (ip_V D))} {hp : ip_Hp D} {fz : Bool}
set_option maxHeartbeats 2000000 in
theorem ip_cat2_ok (C : ip_Cx R ops p s m args meth c bs cls kd nL Dg cI cZ cJ A ra ro) (hl : l.stackTraces = false) {run : Nat → ip_Fr D → Option (ip_Fr D)} (IH : ip_RS R ops ro l base Dg cI cZ cJ ra run) {j jc q b cls' kd' pcode' fr' lo' size' pm' ps' : Nat} {y' : MethodName} {bs' : ByteArray} {ret' : Option FieldType} {pre st' : List (ip_V D)} {f2 : ip_Fr D}
    (he' : ip_ML[jc]? = some (y', bs', ret', cls', kd', pcode', fr', lo', size', pm', ps')) (hRc : Rm.cells = ip_bc j) (hRs : Rm.slots = ip_bs j) (hd : decode bs pc = .ok (.invokestatic q, 3)) (hkd : kd' = 3) (hn : pre.length = b) (hlk : Cond.methodLink (ip_R cls) q y' ∈ ip_G)
    (hfr : fr' + 1 ≤ Rm.frames) (hlo : 8 + (ip_mx jc + 11) + lo' ≤ Rm.locals) (hb : (parseMethodDescriptor y'.desc).map (fun d => d.parameters.length) = some b) (hpre : ∀ v ∈ pre, ip_one v = true) (hcat : ip_cat st' ≤ 8)
    (hcal : ip_cat2 run ip_hd j jc pre.reverse (pc + 3, la, st', hp, mc, ms, fz) = some f2) (hk : ip_good R p l e Rm s m args below meth c Q nL base Dg cI cZ cJ A ra f2) : ip_good R p l e Rm s m args below meth c Q nL base Dg cI cZ cJ A ra (pc, la, pre ++ st', hp, mc, ms, fz) := by
  obtain ⟨e9, hpc, k9, t1, t2, t3, t4, t5, t6, t7, t8⟩ := ip_try_facts he' hkd
  obtain ⟨w1, w2, w3, w4, w5, -⟩ := ip_mok_w he'
  unfold ip_cat2 at hcal
  dsimp only at hcal
  split at hcal
  · cases hcal
  rename_i f1 h1
  split at hcal
  · cases hcal
  rename_i f3 h2
  split at hcal
  case h_2 => cases hcal
  rename_i pc4 la4 d4 hp4 mc4 ms4 fz4 h3
  split at hcal
  case h_2 => cases hcal
  rename_i nx4 a4 b4 h4
  cases hcond : (Nat.beq (ip_kd jc) 3 && (Nat.ble pre.reverse.length (ip_mx jc) && (Nat.ble mc4 (ip_bc jc) && (Nat.ble ms4 (ip_bs jc) && (Nat.ble (mc + ip_bc jc) (ip_bc j) && Nat.ble (ms + ip_bs jc) (ip_bs j)))))) with
  | false => rw [hcond] at hcal; cases hcal
  | true =>
  rw [hcond] at hcal
  cases hcal
  simp only [Bool.and_eq_true, Nat.ble_eq, Nat.beq_eq] at hcond
  obtain ⟨-, hlen, hmc, hms, hmc2, hms2⟩ := hcond
  intro ls s1 H locs g1 g2 g3
  obtain ⟨vpre, s2, rfl, ga, gb⟩ := ip_all2_app pre st' s1 g2
  obtain ⟨⟨ws, hR, hP, hD⟩, hS, hfz⟩ := g3
  have hvs := ip_all2_rev ga
  have hvc : ∀ v ∈ vpre.reverse, v.category = 1 := ip_all2_cat hvs (fun v hv => hpre v (List.mem_reverse.mp hv))
  have Mt := ip_try_met (sz := H.size) C.1 hl IH he' t1 hkd t2 t3 t5 t6 t7 t8 h1 h2 h3 h4 hlen hmc hms hvs hvc hR
  have hFc : ∀ q, va_A ws H.size q → A q := by
    intro q h
    rcases h with ⟨k, E, h⟩ | h
    · exact hD.2 k (q, E) h
    · exact C.2.2.2.2.2.2.2.1 q (Nat.le_trans hS.1 h)
  have hPre : ∀ U : State, U.heap = H → s.WarmedH U.vm → ip_Pc R base ra cI cZ cJ Dg ro hp false ws H.size vpre.reverse vpre.reverse.toArray U := fun U hU hW =>
    ⟨rfl, by rw [hU], by rw [hU]; exact hP, va_K.moved hW.alike C.2.2.2.2.2.2.1, hD.weaken (fun _ _ _ _ => trivial), ip_ro_to R ra ro C.2.2.2.2.2.2.2.2.1 hS hFc hW hU, fun z => by cases z⟩
  have hls : ls.size = nL := by obtain ⟨-, lv, h4, -⟩ := g1; exact h4.1
  have hG : GoodIn ip_G (va_wsS (ip_R cls) q y' (Cond.codeWith y' bs' (ip_mx jc) ret' [(0, e9, hpc, 13)] :: ip_G)) := by
    intro w hw
    unfold va_wsS at hw
    rcases List.mem_append.mp hw with hw | hw
    · simp only [List.mem_cons, List.not_mem_nil, or_false] at hw
      rcases hw with rfl | rfl | rfl
      · exact ip_Gin hlk
      · exact ip_Gin t4
      · exact ip_Gin (by rw [w1]; exact w5)
    · exact ip_GG t3 w hw
  have hcw := vx_cwSW (R := Rm) (args := args) (s := s) (rm := { frames := fr', cells := ip_bc jc, slots := ip_bs jc, locals := lo' }) b C.2.2.2.2.2.1 hG rfl rfl rfl ⟨w2, w3, hb⟩ ⟨hfr, hlo⟩
  have hnn : vpre.reverse.length = b := by rw [List.length_reverse, ← ip_all2_len ga, hn]
  refine vx_calli (vx_runSX (As := vpre.reverse) (rest := s2) (nL := nL) ⟨C.2.1, C.2.2.1, C.2.2.2.1, C.2.2.2.2.1, C.2.2.2.2.2.1⟩ Mt hcw ⟨ip_Pc_blind R base ra cI cZ cJ Dg ro, hPre⟩ rfl hnn hls (by rw [List.reverse_reverse]) (lv_room (by rw [ip_cat_eq gb]; exact hcat)) hd ⟨by rw [hRc]; exact hmc2, by rw [hRs]; exact hms2⟩) hS (fun q _ h => hFc q h) hFc (fun q _ h => hFc q h) (fun E9 ce q9 u9 t H9 locs9 e1 e2 px bx e5 e6 e7 e8 e9' e10 => px.elim) (fun r u t H9 locs9 e1 e2 hpost hB e5 e6 e7 => ?_)
  obtain ⟨⟨d, hod, hdr⟩, hR9, hD9⟩ := hpost
  cases hod
  exact hk ls (.int r :: s2) H9 locs9 g1 ⟨⟨r, rfl, hdr⟩, gb⟩ ⟨⟨u, hR9, by rw [← e1]; exact hB, hD9.weaken (fun _ _ _ h => hFc _ h)⟩, e7, fun z => by cases z⟩
theorem ip_cal_rcv {run : Nat → ip_Fr D → Option (ip_Fr D)} {j jc : Nat} {as st : List (ip_V D)} {f2 : ip_Fr D} (h : ip_cal ops run j jc as (pc, la, st, hp, mc, ms, fz) = some f2) : ip_rcv hp (ip_kd jc) (ip_oc jc) as = true := by
  unfold ip_cal at h
  dsimp only at h
  split at h
  · cases h
  split at h
  · cases h
  split at h
  · cases h
  cases hc : ip_rcv hp (ip_kd jc) (ip_oc jc) as with
  | true => rfl
  | false => rw [hc] at h; cases h
theorem ip_rk_w {fr lo a b k0 : Nat} (h : ip_rk fr lo a b k0 = true) : ∃ y bs ret cls kd pcode fr' lo' size pm ps, ip_ML[a]? = some (y, bs, ret, cls, kd, pcode, fr', lo', size, pm, ps) ∧ k0 = kd ∧ fr' + 1 ≤ fr ∧ 8 + (ip_mx a + 11) + lo' ≤ lo ∧ (parseMethodDescriptor y.desc).map (fun d => d.parameters.length) = some b := by
  unfold ip_rk at h
  split at h
  · cases h
  rename_i y' bs' ret' cls' kd' pcode' fr' lo' z9 he'
  simp only [Bool.and_eq_true, Nat.beq_eq, Nat.ble_eq, decide_eq_true_eq] at h
  obtain ⟨h1, h2, h3, h4⟩ := h
  obtain ⟨size', pm', ps'⟩ := z9
  exact ⟨y', bs', ret', cls', kd', pcode', fr', lo', size', pm', ps', he', h1, h2, h3, h4⟩
set_option maxHeartbeats 2000000 in
theorem ip_run_ok (hO : ip_okO R ops) (hl : l.stackTraces = false) (sp : Nat → Nat → Bool) (n : Nat) : ip_RS R ops ro l base Dg cI cZ cJ ra (ip_run ops ro ip_hd sp n) := by
  induction n with
  | zero =>
    intro j y bs ret cls kd pcode fr lo size z9 he f fe h
    cases (show (none : Option (ip_Fr D)) = some fe from h)
  | succ n ih =>
    intro j y bs ret cls kd pcode fr lo size z9 he f fe h p e Rm s m args below meth c Q A hRf hRl hRc hRs C hG
    have h : ip_body ops ro ip_hd sp (ip_run ops ro ip_hd sp n) j f = some fe := h
    obtain ⟨pc, la, st, hp, mc, ms, fz⟩ := f
    unfold ip_body at h
    dsimp only at h
    split at h
    · cases h
    rename_i x hx
    cases hs : (ip_stop x || sp j pc) with
    | true =>
      rw [hs] at h
      cases h
      exact hG
    | false =>
    rw [hs] at h
    dsimp only [cond_false] at h
    subst hRf hRl
    have hok := ip_tab he hx
    split at h
    · cases h
    · rename_i f' hst
      exact ip_step_ok C hRc hRs hok hst (ih j y bs ret cls kd pcode Rm.frames Rm.locals size z9 he f' fe h p e Rm s m args below meth c Q A rfl rfl hRc hRs C hG)
    · rename_i jc as f' hst
      obtain ⟨q, pre, st', rfl, rfl, hpre, hne, hcat, rfl, rfl, hkind⟩ := ip_step_inr hst
      obtain ⟨i, nx, a, b, c0⟩ := x
      unfold ip_ok at hok
      dsimp only at hok hkind h
      rw [Bool.and_eq_true, Bool.and_eq_true, decide_eq_true_eq] at hok
      obtain ⟨⟨hdec, hln⟩, hok⟩ := hok
      have key : Nat.beq (ip_ln i) 0 = false → nx = pc + ip_ln i ∧ decode bs pc = .ok (i, ip_ln i) := by
        intro q
        rw [q, Bool.false_or] at hln
        have e1 := Nat.eq_of_beq_eq_true hln
        refine ⟨e1, ?_⟩
        rw [hdec, e1, Nat.add_sub_cancel_left]
      have hgo : ∀ f2, ip_run ops ro ip_hd sp n j f2 = some fe → ip_good R p l e Rm s m args below meth c Q (ip_mx j) base Dg cI cZ cJ A ra f2 := fun f2 h2 =>
        ih j y bs ret cls kd pcode Rm.frames Rm.locals size z9 he f2 fe h2 p e Rm s m args below meth c Q A rfl rfl hRc hRs C hG
      have hfin : ∃ k0, nx = pc + 3 ∧ decode bs pc = .ok (i, 3) ∧ (ip_kl cls q a && ip_rk Rm.frames Rm.locals a b k0) = true ∧ ((i = .invokevirtual q ∧ k0 = 0 ∧ pre.length = b + 1) ∨ (i = .invokestatic q ∧ (k0 = 1 ∨ k0 = 3) ∧ pre.length = b) ∨ (i = .invokespecial q ∧ k0 = 2 ∧ pre.length = b + 1)) := by
        rcases hkind with ⟨rfl, hn⟩ | ⟨rfl, hn4, hn⟩ | ⟨rfl, hc2, hn⟩
        · obtain ⟨k1, k2⟩ := key rfl
          refine ⟨0, k1, k2, ?_, Or.inl ⟨rfl, rfl, hn⟩⟩
          dsimp only at hok
          split at hok <;> exact hok
        · obtain ⟨k1, k2⟩ := key rfl
          dsimp only at hok
          split at hok
          · exact ⟨1, k1, k2, hok, Or.inr (Or.inl ⟨rfl, Or.inl rfl, hn⟩)⟩
          · exact absurd rfl hn4
          · exact ⟨3, k1, k2, hok, Or.inr (Or.inl ⟨rfl, Or.inr rfl, hn⟩)⟩
        · obtain ⟨k1, k2⟩ := key rfl
          subst hc2
          exact ⟨2, k1, k2, hok, Or.inr (Or.inr ⟨rfl, rfl, hn⟩)⟩
      obtain ⟨k0, rfl, hd, hok1, hkind2⟩ := hfin
      rw [Bool.and_eq_true] at hok1
      obtain ⟨hkl, hrk⟩ := hok1
      obtain ⟨y', bs', ret', cls', kd', pcode', fr', lo', size', pm', ps', he', rfl, hfr, hlo, hb⟩ := ip_rk_w hrk
      have hlk := ip_kl_w hkl he'
      obtain ⟨-, hkdc⟩ := ip_ock he'
      dsimp only at hkdc
      cases h8 : Nat.beq c0 8 with
      | true =>
        rw [h8] at h
        dsimp only [cond_true] at h
        split at h
        · cases h
        rename_i f2 hcal
        have hk3 : ip_kd a = 3 := by
          unfold ip_cat2 at hcal
          dsimp only at hcal
          split at hcal
          · cases hcal
          split at hcal
          · cases hcal
          split at hcal
          case h_2 => cases hcal
          split at hcal
          case h_2 => cases hcal
          cases hc : Nat.beq (ip_kd a) 3 with
          | true => exact Nat.eq_of_beq_eq_true hc
          | false => rw [hc] at hcal; cases hcal
        have hk3' : k0 = 3 := hkdc.symm.trans hk3
        rcases hkind2 with ⟨-, h9, -⟩ | ⟨rfl, -, hn⟩ | ⟨-, h9, -⟩
        · omega
        · exact ip_cat2_ok C hl ih he' hRc hRs hd hk3' hn hlk hfr hlo hb hpre hcat hcal (hgo f2 h)
        · omega
      | false =>
        rw [h8] at h
        dsimp only [cond_false] at h
        split at h
        · cases h
        rename_i f2 hcal
        refine ip_cal_ok C ih he' hRc hRs hd (q := q) (b := b) ?_ hlk hfr hlo hb hpre hne hcat hcal (hgo f2 h)
        rcases hkind2 with ⟨h9, h10, h11⟩ | ⟨h9, h10 | h10, h11⟩ | ⟨h9, h10, h11⟩
        · exact Or.inl ⟨h9, h10, h11⟩
        · exact Or.inr (Or.inl ⟨h9, h10, h11⟩)
        · have hr := ip_cal_rcv hcal
          rw [hkdc, h10] at hr
          exact absurd (show false = true from hr) (by decide)
        · exact Or.inr (Or.inr ⟨h9, h10, h11⟩)
end Runs
