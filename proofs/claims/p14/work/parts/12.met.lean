section Calls0
theorem ip_Gin {w : Cond} (h : w ∈ ip_G) : w ∈ ip_G ∧ ((w.onTables && w.keeps) = true ∨ ∃ ty, w = .arrayClass ty) := ⟨h, good_of_word (List.mem_filter.mp h).2⟩
theorem ip_GG {w : Cond} (h : w ∈ ip_G) : GoodIn ip_G (w :: ip_G) := fun _ h2 => by
  rcases List.mem_cons.mp h2 with rfl | h2
  · exact ip_Gin h
  · exact ip_Gin h2
theorem ip_arg_ok {D : Type} : ∀ (n : Nat) (acc st : List (ip_V D)) {as st' : List (ip_V D)}, ip_arg n acc st = some (as, st') → ∃ pre, st = pre ++ st' ∧ pre.length = n ∧ as = pre.reverse ++ acc ∧ ∀ v ∈ pre, ip_one v = true
  | 0, acc, st, as, st', h => by cases h; exact ⟨[], rfl, rfl, rfl, fun _ h => by cases h⟩
  | n + 1, acc, [], as, st', h => by cases h
  | n + 1, acc, v :: st, as, st', h => by
    unfold ip_arg at h
    cases hb : ip_one v with
    | false => rw [hb] at h; cases h
    | true =>
      rw [hb] at h
      obtain ⟨pre, h1, h2, h3, h4⟩ := ip_arg_ok n (v :: acc) st h
      refine ⟨v :: pre, by rw [h1]; rfl, by rw [List.length_cons, h2], by rw [h3]; simp, fun w hw => ?_⟩
      rcases List.mem_cons.mp hw with rfl | hw
      · exact hb
      · exact h4 w hw
theorem ip_lv_args : ∀ (vs : List Value) (i k : Nat) (v : Value), (∀ v ∈ vs, v.category = 1) → vs[k]? = some v → (i + k, v) ∈ lv_args i vs
  | [], i, k, v, _, h => by simp at h
  | w :: vs, i, 0, v, hc, h => by
    simp at h
    subst h
    exact List.mem_cons_self
  | w :: vs, i, k + 1, v, hc, h => by
    simp at h
    have h1 : w.category = 1 := hc w List.mem_cons_self
    unfold lv_args
    rw [if_neg (by omega)]
    refine List.mem_cons_of_mem _ ?_
    have := ip_lv_args vs (i + 1) k v (fun v hv => hc v (List.mem_cons_of_mem _ hv)) h
    rwa [show i + (k + 1) = i + 1 + k by omega]
theorem ip_lg_sl : ∀ (vs : List Value), (∀ v ∈ vs, v.category = 1) → (lg_sl vs).length = vs.length
  | [], _ => rfl
  | w :: vs, hc => by
    have h1 : w.category = 1 := hc w List.mem_cons_self
    have h2 := ip_lg_sl vs (fun v hv => hc v (List.mem_cons_of_mem _ hv))
    unfold lg_sl at h2 ⊢
    rw [List.flatMap_cons, List.length_append, h2, if_neg (by omega)]
    simp
    omega
theorem ip_all2_cat {D : Type} {R : D → Int32 → Prop} {base : Nat} {ra : Nat → Nat} {as : List (ip_V D)} : ∀ {vs : List Value}, ip_all2 (ip_gR R base ra) as vs → (∀ v ∈ as, ip_one v = true) → ∀ v ∈ vs, v.category = 1 := by
  induction as with
  | nil => intro vs h _; rw [ip_all2_nil h]; intro v hv; cases hv
  | cons a as ih =>
    intro vs h hc
    obtain ⟨b, bs1, rfl, h1, h2⟩ := ip_all2_cons h
    intro v hv
    rcases List.mem_cons.mp hv with rfl | hv
    · exact ip_one_cat (hc a List.mem_cons_self) h1
    · exact ih h2 (fun v hv => hc v (List.mem_cons_of_mem _ hv)) v hv
end Calls0
section Calls1
variable {D : Type} (R : D → Int32 → Prop) (base : Nat) (ra : Nat → Nat) (cI cZ cJ : ClassId) (Dg : va_G) (ro : List (List D))
/-- a callee's start -/
def ip_Pc (hp : ip_Hp D) (fz : Bool) (ws : va_W) (sz : Nat) (vs : List Value) : Array Value → State → Prop := va_Pc vs (fun U => U.heap.size = sz ∧ va_P Dg vwCl ws U.heap ∧ va_K Dg vwCl [(cI, .int), (cZ, .boolean), (cJ, .long)] U ∧ va_D (fun _ => True) ws ∧ ip_ro R ra ro (va_A ws sz) U ∧ (fz = true → U.heap.size = base + hp.length))
/-- a callee's end -/
def ip_Qc (bc : Nat) (hp' : ip_Hp D) (fz' : Bool) (ws : va_W) (sz : Nat) (ret : List (ip_V D)) : Array Value → State → Outcome → State → Prop := fun _ st oc t =>
  (∃ (v : Option Value) (ws' : va_W), oc = .returned v ∧ ip_all2 (ip_gR R base ra) ret v.toList ∧ ip_hR R base ra cI cZ cJ hp' ws' ∧ va_P Dg vwCl ws' t.heap ∧ va_D (va_A ws sz) ws' ∧ (fz' = true → sz + bc = base + hp'.length)) ∧ va_F (va_A ws sz) st t
theorem ip_ro_to {A B : Nat → Prop} {s U : State} {H : Heap} {locs : List Loc} (h : ip_ro R ra ro A s) (hS : va_S A s.heap H locs) (hAB : ∀ q, B q → A q) (hW : s.WarmedH U.vm) (hU : U.heap = H) : ip_ro R ra ro B U := by
  have hvm := hW.alike
  refine ⟨fun t ds ht => ?_, fun t ht => ?_, ip_xs_to h.2.2 hS hAB hW hU⟩ <;> subst hU
  · obtain ⟨xs, h1, h2⟩ := h.1 t ds ht
    exact ⟨xs, va_T.moved hvm (va_T.narrow (va_T.kept h1 hS.2.1) hAB), h2⟩
  · exact va_Z.moved hvm (va_Z.narrow (va_Z.kept (h.2.1 t ht) hS.2.1) hAB)
theorem ip_Pc_blind {hp : ip_Hp D} {fz : Bool} {ws : va_W} {sz : Nat} {vs : List Value} : FrameBlind (ip_Pc R base ra cI cZ cJ Dg ro hp fz ws sz vs) := by
  intro a U g mk q
  obtain ⟨q0, q1, qP, qK, qD, qr, qf⟩ := q
  refine ⟨q0, q1, qP, va_K.moved (u := U) (U := U.calling g mk a) (Vm.Alike.refl U.vm) qK, qD, ?_, qf⟩
  exact ⟨fun t ds ht => (qr.1 t ds ht).elim (fun xs h => ⟨xs, va_T.moved (u := U) (U := U.calling g mk a) (Vm.Alike.refl U.vm) h.1, h.2⟩), fun t ht => va_Z.moved (u := U) (U := U.calling g mk a) (Vm.Alike.refl U.vm) (qr.2.1 t ht), ip_xs_same qr.2.2 rfl rfl⟩
end Calls1
section Calls2
variable {D : Type} {R : D → Int32 → Prop} {ops : ip_O D} {l : Launch} {base : Nat} {Dg : va_G} {cI cZ cJ : ClassId} {ra : Nat → Nat} {ro : List (List D)}
/-- a run is sound -/
def ip_RS (R : D → Int32 → Prop) (ops : ip_O D) (ro : List (List D)) (l : Launch) (base : Nat) (Dg : va_G) (cI cZ cJ : ClassId) (ra : Nat → Nat) (run : Nat → ip_Fr D → Option (ip_Fr D)) : Prop :=
  ∀ (j : Nat) (y : MethodName) (bs : ByteArray) (ret : Option FieldType) (cls kd pcode fr lo size : Nat) (z9 : Nat × Nat), ip_ML[j]? = some (y, bs, ret, cls, kd, pcode, fr, lo, size, z9) → ∀ (f fe : ip_Fr D), run j f = some fe →
  ∀ (p : Program) (e : Env) (Rm : Room) (s : State) (m : MethodId) (args : Array Value) (below : List Frame) (meth : Method) (c : Code) (Q : State → Prop) (A : Nat → Prop), Rm.frames = fr → Rm.locals = lo → Rm.cells = ip_bc j → Rm.slots = ip_bs j →
  ip_Cx R ops p s m args meth c bs cls kd (ip_mx j) Dg cI cZ cJ A ra ro → ip_good R p l e Rm s m args below meth c Q (ip_mx j) base Dg cI cZ cJ A ra fe → ip_good R p l e Rm s m args below meth c Q (ip_mx j) base Dg cI cZ cJ A ra f
theorem ip_ent_mL {nL : Nat} {as : List (ip_V D)} {vs : List Value} (h : ip_all2 (ip_gR R base ra) as vs) (hc : ∀ v ∈ vs, v.category = 1) (hn : as.length ≤ nL) : ip_mL R base ra nL (as.map some ++ List.replicate (nL - as.length) none) ((lg_sl vs ++ List.replicate (nL - (lg_sl vs).length) Slot.unset).toArray) := by
  have hl := ip_all2_len h
  have hsl := ip_lg_sl vs hc
  refine ⟨by simp; omega, lv_args 0 vs, lv_entry vs (by omega), fun k v hv => ?_⟩
  by_cases hk : k < as.length
  · rw [List.getElem?_append_left (by simpa using hk), List.getElem?_map] at hv
    cases ha : as[k]? with
    | none => rw [ha] at hv; cases hv
    | some a =>
      rw [ha] at hv
      cases hv
      obtain ⟨w, h1, h2⟩ := ip_all2_at h k _ ha
      have h3 := ip_lv_args vs 0 k w hc h1
      rw [Nat.zero_add] at h3
      exact ⟨w, h3, hc w (List.mem_of_getElem? h1), h2⟩
  · rw [List.getElem?_append_right (by simpa using Nat.le_of_not_lt hk)] at hv
    have := List.mem_of_getElem? hv
    have := (List.mem_replicate.mp this).2
    cases this
theorem ip_mok_w {j cls kd : Nat} {y : MethodName} {bs : ByteArray} {ret : Option FieldType} {pcode fr lo size pm ps : Nat} (he : ip_ML[j]? = some (y, bs, ret, cls, kd, pcode, fr, lo, size, pm, ps)) :
    y.cls = ip_R cls ∧ y.cls ≠ "java/lang/invoke/MethodHandle" ∧ y.cls ≠ "java/lang/invoke/VarHandle" ∧ plainName y.cls = true ∧ Cond.initialized (ip_R cls) ∈ ip_G ∧ (kd = 0 ∨ kd = 1 ∨ kd = 2 → Cond.code y bs (ip_mx j) ret ∈ ip_G) ∧ (kd = 0 → Cond.instanceMethod y ∈ ip_G ∧ Cond.selects (ip_R cls) y y ∈ ip_G) ∧ (kd = 1 → Cond.static y ∈ ip_G) ∧ (kd = 2 → ret = none ∧ y.name = "<init>" ∧ Cond.instanceMethod y ∈ ip_G) := by
  have h := ip_ML_ok he
  unfold ip_mok at h
  dsimp only at h
  simp only [Bool.and_eq_true, decide_eq_true_eq] at h
  obtain ⟨h1, h2, h3, h4, h5, h6⟩ := h
  refine ⟨h1, h2, h3, h4, ip_in_mem h5, ?_, ?_, ?_, ?_⟩
  · rintro (rfl | rfl | rfl)
    · simp only [Bool.and_eq_true] at h6; exact ip_in_mem h6.1
    · simp only [Bool.and_eq_true] at h6; exact ip_in_mem h6.1
    · simp only [Bool.and_eq_true] at h6; exact ip_in_mem h6.1
  · rintro rfl
    simp only [Bool.and_eq_true] at h6
    exact ⟨ip_in_mem h6.2.1, ip_in_mem h6.2.2⟩
  · rintro rfl
    simp only [Bool.and_eq_true] at h6
    exact ip_in_mem h6.2
  · rintro rfl
    simp only [Bool.and_eq_true, decide_eq_true_eq] at h6
    exact ⟨h6.2.1, h6.2.2.1, ip_in_mem h6.2.2.2⟩
set_option maxHeartbeats 1000000 in
/-- a callee's contract, out of its run -/
theorem ip_met {run : Nat → ip_Fr D → Option (ip_Fr D)} (hO : ip_okO R ops) (IH : ip_RS R ops ro l base Dg cI cZ cJ ra run) {j cls kd pcode fr lo size pm ps sz : Nat} {y : MethodName} {bs : ByteArray} {ret : Option FieldType} (he : ip_ML[j]? = some (y, bs, ret, cls, kd, pcode, fr, lo, size, pm, ps)) (hkd : kd = 0 ∨ kd = 1 ∨ kd = 2)
    {as vs0 : List (ip_V D)} {hp : ip_Hp D} {fz : Bool} {pc' mc' ms' : Nat} {la' : List (Option (ip_V D))} {st' : List (ip_V D)} {hp' : ip_Hp D} {fz' : Bool} {x : ip_E} {ws : va_W} {vs : List Value}
    (hrun : run j (ip_ent j as hp fz) = some (pc', la', st', hp', mc', ms', fz')) (hx : ip_T j pc' = some x) (hbk : ip_back ops x st' = some vs0) (hlen : as.length ≤ ip_mx j) (hmc : mc' = ip_bc j) (hms : ms' ≤ ip_bs j)
    (hvs : ip_all2 (ip_gR R base ra) as vs) (hcat : ∀ v ∈ vs, v.category = 1) (hR : ip_hR R base ra cI cZ cJ hp ws) :
    Met l y (Cond.code y bs (ip_mx j) ret :: ip_G) { frames := fr, cells := ip_bc j, slots := ip_bs j, locals := lo } (ip_Pc R base ra cI cZ cJ Dg ro hp fz ws sz vs) (ip_Qc R base ra cI cZ cJ Dg (ip_bc j) hp' fz' ws sz vs0) (ip_bc j) (ip_bs j) (va_A ws sz) := by
  obtain ⟨w1, w2, w3, w4, w5, w6, w7, w8, w9⟩ := ip_mok_w he
  refine Met.ofW (cc := bs) (maxL := ip_mx j) (ret := ret) w4 rfl ?_
  intro p e s m args below meth c s₁ B hml hv
  obtain ⟨rfl, hsz, hP, hK, hD0, hro, hfz⟩ := hv
  have hts := atoms_spec (ws := Cond.code y bs (ip_mx j) ret :: ip_G) B.pre
  have hown : s.vm.findClass y.cls = some m.cls := findClass_of_methodNamed B.named
  have hlocks := B.notSynchronized
  have hin : meth.name = y.name := (name_of_methodNamed B.named B.method).1
  have hr := B.returns
  subst hsz
  have hD := hD0.self (sz := s.heap.size)
  have C : ip_Cx R ops p s m vs.toArray meth c bs cls kd (ip_mx j) Dg cI cZ cJ (va_A ws s.heap.size) ra ro :=
    ⟨hO, B.exec, B.bytes, hml, by rw [← w1]; exact hown, fun w hw => hts w (List.mem_cons_of_mem _ hw), hK, fun q h => Or.inr h, hro, fun h => by rw [hin]; exact (w9 h).2.1⟩
  have hok := ip_tab he hx
  obtain ⟨i, nx, a, b, c0⟩ := x
  unfold ip_ok at hok
  dsimp only at hok
  rw [Bool.and_eq_true, Bool.and_eq_true, decide_eq_true_eq] at hok
  obtain ⟨⟨hdec, hln⟩, hok⟩ := hok
  rw [lg_entry_eq]
  refine IH j y bs ret cls kd pcode fr lo size (pm, ps) he _ _ hrun p e _ s m vs.toArray below meth c _ (va_A ws s.heap.size) rfl rfl rfl rfl C ?_ _ [] s.heap [] (ip_ent_mL hvs hcat hlen) trivial ⟨⟨ws, hR, hP, hD⟩, va_S.rf, fun z => (hfz z : s.heap.size + 0 = base + hp.length)⟩
  intro ls st1 H locs h1 h2 h3
  refine W.widen (k := ip_bc j) (n := ip_bs j) (by dsimp only; omega) hms ?_
  obtain ⟨⟨ws', hR', hP', hD'⟩, hS', hfz'⟩ := h3
  have hfree : ∀ q ∈ locs, va_A ws s.heap.size q.base := hS'.2.2
  have hQ : ∀ (v : Option Value), ip_all2 (ip_gR R base ra) vs0 v.toList → ∀ t : State, t.heap = H → s.WarmedH t.vm → ip_Qc R base ra cI cZ cJ Dg (ip_bc j) hp' fz' ws s.heap.size vs0 vs.toArray s (.returned v) t := fun v hv t ht hW =>
    ⟨⟨v, ws', rfl, hv, hR', by rw [ht]; exact hP', hD', fun z => by rw [← hmc]; exact hfz' z⟩, hS'.F ht⟩
  have key : Nat.beq (ip_ln i) 0 = false → decode bs pc' = .ok (i, ip_ln i) := by
    intro q
    rw [q, Bool.false_or] at hln
    have e1 := Nat.eq_of_beq_eq_true hln
    rw [hdec, e1, Nat.add_sub_cancel_left]
  unfold ip_back at hbk
  dsimp only at hbk h2
  split at hbk
  · cases hbk
    obtain ⟨w, s2, rfl, ⟨u, rfl, hu⟩, h2'⟩ := ip_all2_cons h2
    cases ip_all2_nil h2'
    have hok : ret = some .int := of_decide_eq_true hok
    exact W.iret C.2.1 C.2.2.1 (hr.trans hok) (hQ (some (.int u)) ⟨⟨u, rfl, hu⟩, trivial⟩) hfree (key rfl) hlocks
  · rename_i d
    cases hb : ip_bit (ops.2.2.2 d) with
    | false => rw [hb] at hbk; cases hbk
    | true =>
      rw [hb] at hbk
      cases hbk
      obtain ⟨w, s2, rfl, ⟨u, rfl, hu⟩, h2'⟩ := ip_all2_cons h2
      cases ip_all2_nil h2'
      have hok : ret = some .boolean := of_decide_eq_true hok
      obtain ⟨bv, hb1, hb2⟩ := ip_bit_some hb
      have hbx := C.1.2.2.2 _ _ _ hb1 hu
      subst hbx
      exact W.zret C.2.1 C.2.2.1 (hr.trans hok) (ip_fitZ hb2).1 (hQ (some (.int u)) ⟨⟨u, rfl, hu⟩, trivial⟩) hfree (key rfl) hlocks
  · cases hbk
    obtain ⟨w, s2, rfl, hg, h2'⟩ := ip_all2_cons h2
    cases ip_all2_nil h2'
    cases hg
    dsimp only at hok
    split at hok
    · exact W.aret C.2.1 C.2.2.1 hr (Or.inl ⟨_, rfl⟩) (Or.inr ⟨_, rfl⟩) (hQ (some (.ref _)) ⟨rfl, trivial⟩) hfree (key rfl) hlocks
    · cases hok
  · cases hbk
    cases ip_all2_nil h2
    have hok : ret = none := of_decide_eq_true hok
    exact W.vret C.2.1 C.2.2.1 (hr.trans hok) (hQ none trivial) hfree (key rfl) hlocks
  · cases hbk
end Calls2
