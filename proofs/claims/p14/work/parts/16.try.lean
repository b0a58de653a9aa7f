
def ip_ivk (j : Nat) (n pc0 jt0 : Nat) : Bool := (List.range n).all (fun pc => match ip_T j pc with
  | some (.invokevirtual _, nx, jt, _, 9) => Nat.beq pc pc0 && (Nat.beq jt jt0 && Nat.beq nx (pc + 3))
  | _ => true)
theorem ip_ivk_inn : ip_ivk 206 19 5 82 = true := by decide +kernel
theorem ip_ivk_cut : ip_ivk 207 21 7 83 = true := by decide +kernel
theorem ip_ivk_of {j pc n pc0 jt0 q nx jt b : Nat} (h : ip_ivk j n pc0 jt0 = true) (hz : n ≤ pc → ip_T j pc = none) (hx : ip_T j pc = some (.invokevirtual q, nx, jt, b, 9)) : pc = pc0 ∧ jt = jt0 ∧ nx = pc + 3 := by
  rcases Nat.lt_or_ge pc n with h0 | h0
  · have h2 := List.all_eq_true.mp h pc (List.mem_range.mpr h0)
    rw [hx] at h2
    simp only [Bool.and_eq_true, Nat.beq_eq] at h2
    exact h2
  · rw [hz h0] at hx
    cases hx
theorem ip_cwI : Cond.codeWith yL_innings cL_innings 5 (some .int) [(0, 10, 13, 13)] ∈ ip_G := ip_in_mem (p := 718) (by decide +kernel)
theorem ip_cwC : Cond.codeWith yL_cut cL_cut 6 (some .int) [(0, 12, 15, 13)] ∈ ip_G := ip_in_mem (p := 793) (by decide +kernel)
theorem ip_stI : Cond.static yL_innings ∈ ip_G := ip_in_mem (p := 717) (by decide +kernel)
theorem ip_stC : Cond.static yL_cut ∈ ip_G := ip_in_mem (p := 792) (by decide +kernel)
theorem ip_daI : decode cL_innings 13 = .ok (.astore 4, 2) := by decide +kernel
theorem ip_daC : decode cL_cut 15 = .ok (.astore 5, 2) := by decide +kernel
section Try2
variable {D : Type} {R : D → Int32 → Prop} {ops : ip_O D} {l : Launch} {base : Nat} {Dg : va_G} {cI cZ cJ : ClassId} {ra : Nat → Nat} {ro : List (List D)}
/-- where the two methods that try lie -/
def ip_hd (j : Nat) : Nat := bif Nat.beq j 206 then 15 else 17
set_option maxHeartbeats 4000000 in
theorem ip_try_met {run : Nat → ip_Fr D → Option (ip_Fr D)} (hO : ip_okO R ops) (hl : l.stackTraces = false) (IH : ip_RS R ops ro l base Dg cI cZ cJ ra run) {j cls kd pcode fr lo size pm ps sz hpc k9 e9 : Nat} {y : MethodName} {bs : ByteArray} {ret : Option FieldType} (he : ip_ML[j]? = some (y, bs, ret, cls, kd, pcode, fr, lo, size, pm, ps))
    (hcls : cls = 6) (hkd : kd = 3) (hret : ret = some .int) (hcw : Cond.codeWith y bs (ip_mx j) ret [(0, e9, hpc, 13)] ∈ ip_G) (hda : decode bs hpc = .ok (.astore k9, 2)) (hk9 : k9 < ip_mx j) (hhd : ip_hd j = hpc + 2)
    (hiv : ∀ pc q nx jt b, ip_T j pc = some (.invokevirtual q, nx, jt, b, 9) → (jt = 82 ∨ jt = 83) ∧ covers ⟨0, e9, hpc, 13⟩ pc = true ∧ nx = pc + 3)
    {as : List (ip_V D)} {hp hp4 : ip_Hp D} {f1 f2 : ip_Fr D} {d4 : D} {pc4 mc4 ms4 nx4 a4 b4 : Nat} {la4 : List (Option (ip_V D))} {fz4 : Bool} {ws : va_W} {vs : List Value}
    (h1 : run j (ip_ent j as hp false) = some f1) (h2 : ip_tr2 run ip_hd j f1 = some f2) (h3 : run j f2 = some (pc4, la4, [.inl d4], hp4, mc4, ms4, fz4)) (h4 : ip_T j pc4 = some (.ireturn, nx4, a4, b4, 0)) (hlen : as.length ≤ ip_mx j) (hmc : mc4 ≤ ip_bc j) (hms : ms4 ≤ ip_bs j)
    (hvs : ip_all2 (ip_gR R base ra) as vs) (hcat : ∀ v ∈ vs, v.category = 1) (hR : ip_hR R base ra cI cZ cJ hp ws) :
    vx_Met l y (Cond.codeWith y bs (ip_mx j) ret [(0, e9, hpc, 13)] :: ip_G) { frames := fr, cells := ip_bc j, slots := ip_bs j, locals := lo } (ip_Pc R base ra cI cZ cJ Dg ro hp false ws sz vs) (ip_XQ R base ra cI cZ cJ Dg (some d4) hp4 ws sz) (vx_X (fun _ : Unit => False) (fun _ _ _ => True) (va_A ws sz)) (ip_bc j) (ip_bs j) (va_A ws sz) := by
  obtain ⟨w1, w2, w3, w4, w5, -⟩ := ip_mok_w he
  refine vx_ofWH (cc := bs) (maxL := ip_mx j) (ret := ret) w4 rfl ?_
  intro p e s m args below meth c s₁ B hml hv
  obtain ⟨rfl, hsz, hP, hK, hD0, hro, hfz⟩ := hv
  have hts := atoms_spec (ws := Cond.codeWith y bs (ip_mx j) ret [(0, e9, hpc, 13)] :: ip_G) B.pre
  have htab : c.exceptionTable.toList = tableOf [(0, e9, hpc, 13)] := vx_table (x := y) B (hts _ List.mem_cons_self)
  have hown : s.vm.findClass y.cls = some m.cls := findClass_of_methodNamed B.named
  have hlocks := B.notSynchronized
  have hr := B.returns
  subst hsz
  have hD := hD0.self (sz := s.heap.size)
  have C : ip_Cx R ops p s m vs.toArray meth c bs cls kd (ip_mx j) Dg cI cZ cJ (va_A ws s.heap.size) ra ro :=
    ⟨hO, B.exec, B.bytes, hml, by rw [← w1]; exact hown, fun w hw => hts w (List.mem_cons_of_mem _ hw), hK, fun q h => Or.inr h, hro, fun h => by rw [hkd] at h; cases h⟩
  rw [lg_entry_eq]
  have hok4 := ip_tab he h4
  have G4 : ip_good R p l e { frames := fr, cells := ip_bc j, slots := ip_bs j, locals := lo } s m vs.toArray below meth c (vx_MQ below (ip_XQ R base ra cI cZ cJ Dg (some d4) hp4 ws s.heap.size) (vx_X (fun _ : Unit => False) (fun _ _ _ => True) (va_A ws s.heap.size)) vs.toArray s (ip_bc j) (ip_bs j) (va_A ws s.heap.size)) (ip_mx j) base Dg cI cZ cJ (va_A ws s.heap.size) ra (pc4, la4, [.inl d4], hp4, mc4, ms4, fz4) := by
    intro ls st1 H locs g1 g2 g3
    obtain ⟨⟨ws', hR', hP', hD'⟩, hS', hfz'⟩ := g3
    obtain ⟨w, s2, rfl, ⟨u, rfl, hu⟩, h2'⟩ := ip_all2_cons g2
    cases ip_all2_nil h2'
    unfold ip_ok at hok4
    dsimp only at hok4
    rw [Bool.and_eq_true, Bool.and_eq_true, decide_eq_true_eq] at hok4
    obtain ⟨⟨hdec, hln⟩, -⟩ := hok4
    have hd : decode bs pc4 = .ok (.ireturn, 1) := by
      have e1 : nx4 = pc4 + 1 := Nat.eq_of_beq_eq_true hln
      rw [hdec, e1, Nat.add_sub_cancel_left]
    refine W.widen (k := ip_bc j) (n := ip_bs j) hmc hms (vx_ret ?_)
    exact W.iret C.2.1 C.2.2.1 (hr.trans hret) (fun t ht hW => ⟨⟨u, ws', rfl, ⟨⟨_, rfl, hu⟩, hR', hD'⟩, by show va_P Dg vwCl ws' t.heap; rw [ht]; exact hP'⟩, hS'.F ht⟩) hS'.2.2 hd hlocks
  have G2 := IH j y bs ret cls kd pcode fr lo size (pm, ps) he _ _ h3 p e { frames := fr, cells := ip_bc j, slots := ip_bs j, locals := lo } s m vs.toArray below meth c _ (va_A ws s.heap.size) rfl rfl rfl rfl C G4
  refine IH j y bs ret cls kd pcode fr lo size (pm, ps) he _ _ h1 p e _ s m vs.toArray below meth c _ (va_A ws s.heap.size) rfl rfl rfl rfl C ?_ _ [] s.heap [] (ip_ent_mL hvs hcat hlen) trivial ⟨⟨ws, hR, hP, hD⟩, va_S.rf, fun z => by cases z⟩
  -- at the call that may throw
  unfold ip_tr2 at h2
  split at h2
  case h_2 => cases h2
  rename_i pc1 ls1 st1 hp1 fz1
  split at h2
  case h_2 => cases h2
  rename_i q1 nx1 jt b hx1
  split at h2
  · cases h2
  rename_i as1 st2 harg
  obtain ⟨hjt, hcov, hnx⟩ := hiv _ _ _ _ _ hx1
  cases hcond : (ip_rcv hp1 0 (ip_oc jt) as1 && (Nat.ble as1.length (ip_mx jt) && (Nat.ble (ip_cat st2) 8 && (Nat.ble (ip_bc jt) (ip_bc j) && Nat.ble (ip_bs jt) (ip_bs j))))) with
  | false => rw [hcond] at h2; cases h2
  | true =>
  rw [hcond] at h2
  dsimp only [cond_true] at h2
  simp only [Bool.and_eq_true, Nat.ble_eq] at hcond
  obtain ⟨hrcv, hlen1, hcat2, hbc2, hbs2⟩ := hcond
  have hok1 := ip_tab he hx1
  unfold ip_ok at hok1
  dsimp only at hok1
  rw [Bool.and_eq_true, Bool.and_eq_true, decide_eq_true_eq] at hok1
  obtain ⟨⟨hdec1, -⟩, hok1⟩ := hok1
  have hd1 : decode bs pc1 = .ok (.invokevirtual q1, 3) := by rw [hdec1, hnx, Nat.add_sub_cancel_left]
  have hok1 : (ip_kl cls q1 jt && ip_rk fr lo jt b 0) = true := hok1
  rw [Bool.and_eq_true] at hok1
  obtain ⟨hkl, hrk⟩ := hok1
  unfold ip_rk at hrk
  split at hrk
  · cases hrk
  rename_i y' bs' ret' cls' kd' pcode' fr' lo' z9 he'
  simp only [Bool.and_eq_true, Nat.beq_eq, Nat.ble_eq, decide_eq_true_eq] at hrk
  obtain ⟨hkd', hfr', hlo', hb'⟩ := hrk
  obtain ⟨size', pm', ps'⟩ := z9
  obtain ⟨v1, v2, v3, v4, v5, v6, v7, v8, v9⟩ := ip_mok_w he'
  obtain ⟨hoc, -⟩ := ip_ock he'
  dsimp only at hoc
  obtain ⟨pre, hst1, hprel, has1, hpre⟩ := ip_arg_ok _ _ _ harg
  rw [List.append_nil] at has1
  cases hthr : ip_thr run jt as1 hp1 with
  | none => rw [hthr] at h2; cases h2
  | some od3 =>
  obtain ⟨od, hp3⟩ := od3
  rw [hthr] at h2
  intro ls s1 H locs g1 g2 g3
  dsimp only at g1 g2 g3
  rw [hst1] at g2
  obtain ⟨vpre, s2, rfl, ga, gb⟩ := ip_all2_app pre st2 s1 g2
  obtain ⟨⟨ws1, hR1, hP1, hD1⟩, hS1, hfz1⟩ := g3
  have hvs1 := ip_all2_rev ga
  have hvc1 : ∀ v ∈ vpre.reverse, v.category = 1 := ip_all2_cat hvs1 (fun v hv => hpre v (List.mem_reverse.mp hv))
  rw [← has1] at hvs1
  have Mt := ip_thr_met (sz := H.size) hO hl IH he' hjt hthr hlen1 hvs1 hvc1 hR1
  have hFc : ∀ q, va_A ws1 H.size q → va_A ws s.heap.size q := by
    intro q h
    rcases h with ⟨k, E, h⟩ | h
    · exact hD1.2 k (q, E) h
    · exact Or.inr (Nat.le_trans hS1.1 h)
  have hPre : ∀ U : State, U.heap = H → s.WarmedH U.vm → ip_Pc R base ra cI cZ cJ Dg ro hp1 false ws1 H.size vpre.reverse vpre.reverse.toArray U := fun U hU hW =>
    ⟨rfl, by rw [hU], by rw [hU]; exact hP1, va_K.moved hW.alike hK, hD1.weaken (fun _ _ _ _ => trivial), ip_ro_to R ra ro hro hS1 hFc hW hU, fun z => by cases z⟩
  have hls : ls.size = ip_mx j := by obtain ⟨-, lv, h4, -⟩ := g1; exact h4.1
  obtain ⟨q0, as0, k, fs, hrev, hq, hk1, hk2⟩ := ip_rcv0 hrcv
  rw [hrev] at hvs1
  obtain ⟨w, vAs, hvr, hg, hvs2⟩ := ip_all2_cons hvs1
  cases hg
  rw [ip_nth_eq] at hq
  obtain ⟨E, hE, hcr⟩ := hR1.2 q0 _ hq
  obtain ⟨fv, rfl, -⟩ := ip_cR_obj hk2 hcr
  have hrec := va_recv hK hP1 (ip_vw hk2) hE
  rw [hvr] at Mt hPre
  have hnn : vAs.length = b := by
    have := congrArg List.length hvr
    rw [List.length_reverse, ← ip_all2_len ga, hprel, List.length_cons] at this
    omega
  have hcB : CallB { frames := fr, cells := ip_bc j, slots := ip_bs j, locals := lo } s vs.toArray (ip_R cls) q1 y' bs' (ip_mx jt) ret' (Cond.code y' bs' (ip_mx jt) ret' :: ip_G) { frames := fr', cells := ip_bc jt, slots := ip_bs jt, locals := lo' } (ip_bc jt) (ip_bs jt) b :=
    callB_of b C.2.2.2.2.2.1 (ip_GG (v6 (Or.inl hkd'.symm))) rfl rfl rfl (by rw [v1]; exact C.2.2.2.2.2.1 _ v5) (C.2.2.2.2.2.1 _ (ip_kl_w hkl he')) ⟨v2, v3, hb'⟩ ⟨hfr', hlo'⟩
  refine vx_calli (vx_runV (As := vAs) (rest := s2) (b := base + q0) (C := ip_R k) (nL := ip_mx j) ⟨C.2.1, C.2.2.1, C.2.2.2.1, C.2.2.2.2.1, C.2.2.2.2.2.1⟩ Mt ⟨hcB, C.2.2.2.2.2.1 _ (v7 hkd'.symm).1, by rw [hk1, hoc]; exact C.2.2.2.2.2.1 _ (v7 hkd'.symm).2⟩ ⟨ip_Pc_blind R base ra cI cZ cJ Dg ro, hrec, hPre⟩ rfl hnn hls (ip_split3 (P := fun _ _ => True) hvr) (lv_room (by rw [ip_cat_eq gb]; exact hcat2)) hd1 ⟨by show 0 + ip_bc jt ≤ ip_bc j; omega, by show 0 + ip_bs jt ≤ ip_bs j; omega⟩) hS1 (fun q _ h => hFc q h) hFc (fun q _ h => hFc q h) (fun E9 ce q9 u9 t H9 locs9 e1 e2 px bx e5 e6 e7 e8 e9' e10 => ?_) (fun r u t H9 locs9 e1 e2 hpost hB e5 e6 e7 => ?_)
  · obtain ⟨hod, hR9, hD9⟩ := px
    obtain ⟨hE9, hP9⟩ := bx
    subst hE9
    subst hod
    cases h2
    have hbc9 : ip_hd j = hpc + 2 := hhd
    refine vx_catch (name := ip_NSE) C.2.2.2.2.1 [] ⟨0, e9, hpc, 13⟩ [] (by rw [htab]; rfl) (fun z hz => by cases hz) hcov (by show (13 : Nat) ≠ 0; decide) (by rw [hcls]; exact C.2.2.2.2.2.1 _ ip_ck3) (va_Nw.use rfl (hro.2.2.2.2.1 _ ip_B_cast)) e8 e9' e10 ?_
    obtain ⟨hla, lv, hlv, -⟩ := g1
    refine lv_astore C.2.1 C.2.2.1 hda hlv hk9 rfl (fun ls' hlv' => ?_)
    have hgo := G2 ls' [] H9 locs9 ⟨by simp [hla], _, hlv', fun k v hv => by
      rw [List.getElem?_map] at hv
      cases hq9 : ls1[k]? <;> rw [hq9] at hv <;> cases hv⟩ trivial ⟨⟨u9, hR9, by rw [← e1]; exact hP9, hD9.weaken (fun _ _ _ h => hFc _ h)⟩, e7, fun z => by cases z⟩
    have e12 : (0 : Nat) + ip_bc jt = ip_bc jt := Nat.zero_add _
    have e13 : (0 : Nat) + ip_bs jt = ip_bs jt := Nat.zero_add _
    dsimp only at hgo
    rw [hbc9] at hgo
    show W p l e _ s m vs.toArray below meth c H9 locs9 (0 + ip_bc jt) (0 + ip_bs jt) _ _
    rw [e12, e13]
    exact hgo
  · obtain ⟨⟨d, hod, hdr⟩, hR9, hD9⟩ := hpost
    subst hod
    cases h2
    have hgo := G2 ls (.int r :: s2) H9 locs9 g1 ⟨⟨r, rfl, hdr⟩, gb⟩ ⟨⟨u, hR9, by rw [← e1]; exact hB, hD9.weaken (fun _ _ _ h => hFc _ h)⟩, e7, fun z => by cases z⟩
    have e12 : (0 : Nat) + ip_bc jt = ip_bc jt := Nat.zero_add _
    have e13 : (0 : Nat) + ip_bs jt = ip_bs jt := Nat.zero_add _
    dsimp only at hgo
    rw [hnx] at hgo
    show W p l e _ s m vs.toArray below meth c H9 locs9 (0 + ip_bc jt) (0 + ip_bs jt) _ _
    rw [e12, e13]
    exact hgo
end Try2
