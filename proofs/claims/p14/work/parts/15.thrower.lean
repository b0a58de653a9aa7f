
def ip_tk (bs : ByteArray) (pc : Nat) : Bool := decide (decode bs pc = .ok (.new 127, 3)) && (decide (decode bs (pc + 3) = .ok (.dup, 1)) && ((decide (decode bs (pc + 4) = .ok (.ldc 129, 2)) || (decide (decode bs (pc + 4) = .ok (.ldc 171, 2)) || decide (decode bs (pc + 4) = .ok (.ldc 176, 2)))) && (decide (decode bs (pc + 6) = .ok (.invokespecial 131, 3)) && decide (decode bs (pc + 9) = .ok (.athrow, 1)))))
def ip_tka (j : Nat) (bs : ByteArray) (n : Nat) : Bool := (List.range n).all (fun pc => match ip_T j pc with
  | some (.new _, _, _, _, 9) => ip_tk bs pc
  | _ => true)
theorem ip_tk_inn : ip_tka 82 cX4_innings 148 = true := by decide +kernel
theorem ip_tk_cut : ip_tka 83 cX4_cut 55 = true := by decide +kernel
theorem ip_tk_of {j pc n : Nat} {bs : ByteArray} {x : ip_E} {q : Nat} (h : ip_tka j bs n = true) (hz : n ≤ pc → ip_T j pc = none) (hx : ip_T j pc = some x) (h1 : x.1 = .new q) (h9 : x.2.2.2.2 = 9) : ip_tk bs pc = true := by
  rcases Nat.lt_or_ge pc n with h0 | h0
  · have h2 := List.all_eq_true.mp h pc (List.mem_range.mpr h0)
    obtain ⟨i, nx, a, b, c⟩ := x
    dsimp only at h1 h9
    subst h1 h9
    rw [hx] at h2
    exact h2
  · rw [hz h0] at hx
    cases hx
theorem ip_tk_w {bs : ByteArray} {pc : Nat} (h : ip_tk bs pc = true) : decode bs pc = .ok (.new 127, 3) ∧ decode bs (pc + 3) = .ok (.dup, 1) ∧ (∃ is, (is = 129 ∨ is = 171 ∨ is = 176) ∧ decode bs (pc + 4) = .ok (.ldc is, 2)) ∧ decode bs (pc + 6) = .ok (.invokespecial 131, 3) ∧ decode bs (pc + 9) = .ok (.athrow, 1) := by
  unfold ip_tk at h
  simp only [Bool.and_eq_true, Bool.or_eq_true, decide_eq_true_eq] at h
  obtain ⟨h1, h2, h3, h4, h5⟩ := h
  refine ⟨h1, h2, ?_, h4, h5⟩
  rcases h3 with h3 | h3 | h3
  · exact ⟨129, Or.inl rfl, h3⟩
  · exact ⟨171, Or.inr (Or.inl rfl), h3⟩
  · exact ⟨176, Or.inr (Or.inr rfl), h3⟩
theorem ip_ck1 : Cond.classLink RX4 127 ip_NSE ∈ ip_G := ip_in_mem (p := 724) (by decide +kernel)
theorem ip_ck2 : Cond.initialized ip_NSE ∈ ip_G := ip_in_mem (p := 66) (by decide +kernel)
theorem ip_ck3 : Cond.classLink RL 13 ip_NSE ∈ ip_G := ip_in_mem (p := 719) (by decide +kernel)
section Try1
variable {D : Type} {R : D → Int32 → Prop} {ops : ip_O D} {l : Launch} {base : Nat} {Dg : va_G} {cI cZ cJ : ClassId} {ra : Nat → Nat} {ro : List (List D)}
/-- a method that may throw: its end -/
def ip_XQ (R : D → Int32 → Prop) (base : Nat) (ra : Nat → Nat) (cI cZ cJ : ClassId) (Dg : va_G) (od : Option D) (hp' : ip_Hp D) (ws : va_W) (sz : Nat) : Array Value → State → Outcome → State → Prop :=
  va_Qi (fun (r : Int32) (ws' : va_W) => (∃ d, od = some d ∧ R d r) ∧ ip_hR R base ra cI cZ cJ hp' ws' ∧ va_D (va_A ws sz) ws') (fun ws' t => va_P Dg vwCl ws' t.heap) (va_A ws sz)
def ip_XX (R : D → Int32 → Prop) (base : Nat) (ra : Nat → Nat) (cI cZ cJ : ClassId) (Dg : va_G) (od : Option D) (hp' : ip_Hp D) (ws : va_W) (sz : Nat) : String → State → State → Prop :=
  vx_X (fun ws' : va_W => od = none ∧ ip_hR R base ra cI cZ cJ hp' ws' ∧ va_D (va_A ws sz) ws') (fun E ws' t => E = ip_NSE ∧ va_P Dg vwCl ws' t.heap) (va_A ws sz)
set_option maxHeartbeats 2000000 in
theorem ip_thr_met {run : Nat → ip_Fr D → Option (ip_Fr D)} (hO : ip_okO R ops) (hl : l.stackTraces = false) (IH : ip_RS R ops ro l base Dg cI cZ cJ ra run) {j cls kd pcode fr lo size pm ps sz : Nat} {y : MethodName} {bs : ByteArray} {ret : Option FieldType} (he : ip_ML[j]? = some (y, bs, ret, cls, kd, pcode, fr, lo, size, pm, ps)) (hj : j = 82 ∨ j = 83)
    {as : List (ip_V D)} {hp hp' : ip_Hp D} {od : Option D} {ws : va_W} {vs : List Value} (hthr : ip_thr run j as hp = some (od, hp')) (hlen : as.length ≤ ip_mx j)
    (hvs : ip_all2 (ip_gR R base ra) as vs) (hcat : ∀ v ∈ vs, v.category = 1) (hR : ip_hR R base ra cI cZ cJ hp ws) :
    vx_Met l y (Cond.code y bs (ip_mx j) ret :: ip_G) { frames := fr, cells := ip_bc j, slots := ip_bs j, locals := lo } (ip_Pc R base ra cI cZ cJ Dg ro hp false ws sz vs) (ip_XQ R base ra cI cZ cJ Dg od hp' ws sz) (ip_XX R base ra cI cZ cJ Dg od hp' ws sz) (ip_bc j) (ip_bs j) (va_A ws sz) := by
  obtain ⟨w1, w2, w3, w4, w5, w6, w7, w8, w9⟩ := ip_mok_w he
  have hnum : cls = 4 ∧ kd = 0 ∧ 5 < fr ∧ 90 ≤ lo ∧ ip_bc j = 1 ∧ ip_bs j = 6 ∧ ∀ pc x q, ip_T j pc = some x → x.1 = .new q → x.2.2.2.2 = 9 → ip_tk bs pc = true := by
    rcases hj with rfl | rfl
    · cases he
      exact ⟨rfl, rfl, by decide, by decide, rfl, rfl, fun pc x q h1 h2 h3 => ip_tk_of ip_tk_inn (tz_82 pc) h1 h2 h3⟩
    · cases he
      exact ⟨rfl, rfl, by decide, by decide, rfl, rfl, fun pc x q h1 h2 h3 => ip_tk_of ip_tk_cut (tz_83 pc) h1 h2 h3⟩
  obtain ⟨hcls, hkd, hfr, hlo, hbc, hbsl, htk⟩ := hnum
  unfold ip_thr at hthr
  split at hthr
  case h_2 => cases hthr
  rename_i pc' la' st' hp2 fz' hrun
  split at hthr
  · cases hthr
  rename_i x hx
  refine vx_ofW (cc := bs) (maxL := ip_mx j) (ret := ret) w4 rfl ?_
  intro p e s m args below meth c s₁ B hml hexT hv
  obtain ⟨rfl, hsz, hP, hK, hD0, hro, hfz⟩ := hv
  have hts := atoms_spec (ws := Cond.code y bs (ip_mx j) ret :: ip_G) B.pre
  have hown : s.vm.findClass y.cls = some m.cls := findClass_of_methodNamed B.named
  have hlocks := B.notSynchronized
  have hin : meth.name = y.name := (name_of_methodNamed B.named B.method).1
  have hr := B.returns
  subst hsz
  have hD := hD0.self (sz := s.heap.size)
  have C : ip_Cx R ops p s m vs.toArray meth c bs cls kd (ip_mx j) Dg cI cZ cJ (va_A ws s.heap.size) ra ro :=
    ⟨hO, B.exec, B.bytes, hml, by rw [← w1]; exact hown, fun w hw => hts w (List.mem_cons_of_mem _ hw), hK, fun q h => Or.inr h, hro, fun h => by rw [hin]; exact (w9 h).2.1⟩
  have hok := ip_tab he hx
  rw [lg_entry_eq]
  refine IH j y bs ret cls kd pcode fr lo size (pm, ps) he _ _ hrun p e _ s m vs.toArray below meth c _ (va_A ws s.heap.size) rfl rfl rfl rfl C ?_ _ [] s.heap [] (ip_ent_mL hvs hcat hlen) trivial ⟨⟨ws, hR, hP, hD⟩, va_S.rf, fun z => by cases z⟩
  intro ls st1 H locs h1 h2 h3
  have hls : ls.size = c.maxLocals := by obtain ⟨-, lv, h4, -⟩ := h1; rw [hml]; exact h4.1
  obtain ⟨⟨ws', hR', hP', hD'⟩, hS', hfz'⟩ := h3
  have hfree : ∀ q ∈ locs, va_A ws s.heap.size q.base := hS'.2.2
  obtain ⟨i, nx, a, b, c0⟩ := x
  dsimp only at hthr
  split at hthr
  · cases hthr
    obtain ⟨w, s2, rfl, ⟨u, rfl, hu⟩, h2'⟩ := ip_all2_cons h2
    cases ip_all2_nil h2'
    unfold ip_ok at hok
    dsimp only at hok
    rw [Bool.and_eq_true, Bool.and_eq_true, decide_eq_true_eq] at hok
    obtain ⟨⟨hdec, hln⟩, hok⟩ := hok
    have hok : ret = some .int := of_decide_eq_true hok
    have hd : decode bs pc' = .ok (.ireturn, 1) := by
      have e1 : nx = pc' + 1 := Nat.eq_of_beq_eq_true hln
      rw [hdec, e1, Nat.add_sub_cancel_left]
    refine W.widen (k := ip_bc j) (n := ip_bs j) (Nat.zero_le _) (Nat.zero_le _) (vx_ret ?_)
    exact W.iret C.2.1 C.2.2.1 (hr.trans hok) (fun t ht hW => ⟨⟨u, ws', rfl, ⟨⟨_, rfl, hu⟩, hR', hD'⟩, by show va_P Dg vwCl ws' t.heap; rw [ht]; exact hP'⟩, hS'.F ht⟩) hfree hd hlocks
  · cases hthr
    cases ip_all2_nil h2
    obtain ⟨d0, d3, ⟨is, his, d4⟩, d6, d9⟩ := ip_tk_w (htk pc' _ _ hx rfl rfl)
    have hownX : s.vm.findClass RX4 = some m.cls := by
      have := C.2.2.2.2.1
      rw [hcls] at this
      exact this
    refine ip_throw C.2.1 C.2.2.1 hl hownX C.2.2.2.2.2.1 hro.2.2 hS' hls ip_ck1 ip_ck2 his d0 d3 d4 d6 d9 (fun x hx => (hexT x hx).elim) hfr hlo (by show 0 + 1 ≤ ip_bc j; omega) (by show 0 + 6 ≤ ip_bs j; omega) hlocks (fun t hal hge hkp => ?_) hfree (by show 0 + 1 ≤ ip_bc j; omega) (by show 0 + 6 ≤ ip_bs j; omega)
    refine ⟨ws', ⟨rfl, hR', hD'⟩, ⟨rfl, hP'.kept (fun k q hq => hkp q.1 ((hP' k q hq).lt))⟩, Nat.le_trans hS'.1 hge, fun q a1 a2 => ?_⟩
    rw [hkp q (Nat.lt_of_lt_of_le a1 hS'.1)]
    exact hS'.2.1 q a1 a2
  · cases hthr
end Try1
