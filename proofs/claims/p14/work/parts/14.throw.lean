section Thr
variable {p : Program} {l : Launch} {e : Env} {R : Room} {s : State} {m : MethodId} {args : Array Value} {below : List Frame} {meth : Method} {c : Code} {H : Heap} {locs : List Loc} {cells slots : Nat} {Q : State → Prop} {ls : Array Slot} {rest : List Value} {Qc : Array Value → State → Outcome → State → Prop} {XC : String → State → State → Prop} {free : Addr → Prop}
/-- 'throw x' of an object that was made before (pasted of kit/laws) -/
theorem vx_athrow {cc : ByteArray} {pc : Nat} (hexec : p.tables.exec = Jvm.exec) (hb : c.code = cc) {q : Addr} (hdg : decode cc pc = .ok (.athrow, 1)) (k : vx_W p l e R s m args below meth c H locs cells slots Q (F0 m pc ls rest) q) : W p l e R s m args below meth c H locs cells slots Q (F0 m pc ls (.ref q :: rest)) := by
  intro T hT X
  obtain ⟨t, st, hq⟩ := k T hT X
  refine ⟨t, ?_, hq⟩
  have hdg' : decode c.code pc = .ok (.athrow, 1) := by rw [hb]; exact hdg
  jvm_step X.here [X.here.top, hexec, hdg', athrow.wp_sem]
  exact st
theorem ip_thr1 {cc : ByteArray} {pc is sa : Nat} {text : String} (hexec : p.tables.exec = Jvm.exec) (hb : c.code = cc) (hl : l.stackTraces = false) (hown : s.vm.findClass RX4 = some m.cls) (hk : (Cond.classLink RX4 127 ip_NSE).before args s = true) (hini : (Cond.initialized ip_NSE).before args s = true)
    (hstr : vk_R RX4 is text sa s) (h : ∀ a ∈ ip_own RX4 131 ip_NSE, a.before args s = true) (hsize : ls.size = c.maxLocals)
    (d0 : decode cc pc = .ok (.new 127, 3)) (d3 : decode cc (pc + 3) = .ok (.dup, 1)) (d4 : decode cc (pc + 4) = .ok (.ldc is, 2)) (d6 : decode cc (pc + 6) = .ok (.invokespecial 131, 3)) (d9 : decode cc (pc + 9) = .ok (.athrow, 1))
    (hout : ∀ x ∈ c.exceptionTable.toList, covers x (pc + 9) = false) (hfr : 5 < R.frames) (hlo : 90 ≤ R.locals) (hcells : 1 ≤ R.cells) (hslots : 6 ≤ R.slots) (hlocks : meth.locks = false)
    (hx : ∀ t : State, s.vm.Alike t.vm → s.heap.size ≤ t.heap.size → (∀ q : Nat, q < s.heap.size → t.heap[q]? = s.heap[q]?) → XC ip_NSE s t) (hfree : ∀ q : Nat, s.heap.size ≤ q → free q) :
    W p l e R s m args below meth c s.heap [] 0 0 (vx_MQ below Qc XC args s 1 6 free) (F0 m pc ls []) := by
  have hins : (Cond.instantiable ip_NSE 6).before args s = true := h _ (by simp [ip_own])
  obtain ⟨cX, kX, hfX, hkX, -⟩ := Cond.instantiable_spec hins
  refine W.newcK hexec hb hown hk hins hini rfl d0 (by omega) (by omega) hfX rfl fun H1 kC hkC e1 z1 o1 => ?_
  cases Option.some.inj (hkX.symm.trans hkC)
  refine lv_dup hexec hb d3 rfl ?_
  refine va_ldcS hexec hb hown hstr d4 ?_
  intro T hT X
  have htr : e.platform.stackTraces = false := (show e.platform.stackTraces = l.stackTraces by rw [X.admits.platform]).trans hl
  obtain ⟨V, ce, L, X', hL, hlt, hcl, hvm, st⟩ := ip_ctorNSE X hexec htr rfl hown h (fun x hx => nomatch hx) hfX hkX (a := s.heap.size) (by rw [hT]; exact e1) (Nat.le_refl _) (msg := .ref sa) rfl
    (g := F0 m (pc + 6) ls [.ref sa, .ref s.heap.size, .ref s.heap.size]) rfl hsize (rest := []) rfl (by rw [hb]; exact d6) hfr (by
      have hr := lv_room (m := m) (pc := pc + 6) (ls := ls) (rest := [.ref sa, .ref s.heap.size, .ref s.heap.size]) (st := [.ref s.heap.size]) (Nat.le_of_ble_eq_true rfl)
      have h1 : (([Value.ref s.heap.size] : List Value).map fun v => v.category).sum = 1 := rfl
      rw [h1] at hr ⊢
      omega)
  have hs9 : s.sameButNew ((V.setCell s.heap.size ce).setVm s.vm) ([] ++ L) (0 + 1) (0 + 6) := X'.same
  rw [List.nil_append] at hs9
  obtain ⟨f1, f2⟩ := vx_frame (U := V.setCell s.heap.size ce) hs9
  have K2 : W p l e R s m args below meth c (V.setCell s.heap.size ce).heap ([] ++ L) (0 + 1) (0 + 6) (vx_MQ below Qc XC args s 1 6 free) (F0 m (pc + 9) ls [.ref s.heap.size]) := by
    refine vx_athrow hexec hb d9 (vx_out hout hlocks (ce := ce) (E := ip_NSE) ?_ hvm ?_ ?_ ?_ (Nat.le_refl _) (Nat.le_refl _))
    · simp [State.setCell, hlt]
    · rw [hcl]; exact hfX
    · intro t ht hal
      refine hx t hal (by rw [ht]; exact f1) (fun q hq => ?_)
      rw [ht]
      exact f2 q hq (fun z hz => by rw [hL z hz]; exact Nat.ne_of_gt hq)
    · intro z hz
      rw [List.nil_append] at hz
      rw [hL z hz]
      exact hfree _ (Nat.le_refl _)
  obtain ⟨t, a1, b1⟩ := K2 _ rfl X'
  exact ⟨t, st t a1, b1⟩
theorem ip_same_drop {s t : State} {L : List Loc} {k n : Nat} (h : s.sameButNew t L k n) (hL : ∀ z ∈ L, s.heap.size ≤ z.base) : s.sameButNew t [] k n := by
  obtain ⟨h1, h2, h3, h4, h5, h6⟩ := h
  refine ⟨h1, h2, h3, h4, h5, fun a c hc => ?_⟩
  obtain ⟨c', g1, g2, g3, g4⟩ := h6 a c hc
  refine ⟨c', g1, g2, g3, fun i _ => g4 i (fun hm => ?_)⟩
  have := hL _ hm
  have h9 : a < s.heap.size := (Array.getElem?_eq_some_iff.mp hc).1
  exact absurd h9 (Nat.not_lt.mpr this)
theorem ip_throw {cc : ByteArray} {pc is mc ms : Nat} {A : Nat → Prop} (hexec : p.tables.exec = Jvm.exec) (hb : c.code = cc) (hl : l.stackTraces = false) (hown : s.vm.findClass RX4 = some m.cls) (hts : ∀ w ∈ ip_G, w.before args s = true) (hxs : ip_xs A s) (hS : va_S A s.heap H locs) (hsize : ls.size = c.maxLocals)
    (hk0 : Cond.classLink RX4 127 ip_NSE ∈ ip_G) (hi0 : Cond.initialized ip_NSE ∈ ip_G) (his : is = 129 ∨ is = 171 ∨ is = 176)
    (d0 : decode cc pc = .ok (.new 127, 3)) (d3 : decode cc (pc + 3) = .ok (.dup, 1)) (d4 : decode cc (pc + 4) = .ok (.ldc is, 2)) (d6 : decode cc (pc + 6) = .ok (.invokespecial 131, 3)) (d9 : decode cc (pc + 9) = .ok (.athrow, 1))
    (hout : ∀ x ∈ c.exceptionTable.toList, covers x (pc + 9) = false) (hfr : 5 < R.frames) (hlo : 90 ≤ R.locals) (hcells : cells + 1 ≤ R.cells) (hslots : slots + 6 ≤ R.slots) (hlocks : meth.locks = false)
    (hx : ∀ t : State, s.vm.Alike t.vm → H.size ≤ t.heap.size → (∀ q : Nat, q < H.size → t.heap[q]? = H[q]?) → XC ip_NSE s t) (hf : ∀ z ∈ locs, free z.base) (hc : cells + 1 ≤ mc) (hs : slots + 6 ≤ ms) :
    W p l e R s m args below meth c H locs cells slots (vx_MQ below Qc XC args s mc ms free) (F0 m pc ls []) := by
  intro T hT X
  have Y := vx_rebase X (R' := { frames := R.frames, locals := R.locals, cells := 1, slots := 6 }) (Nat.le_refl _) (Nat.le_refl _) hcells hslots
  obtain ⟨s', hA⟩ : ∃ z, z = (T.setVm s.vm).setFrames (.invoking m args :: below) := ⟨_, rfl⟩
  rw [← hA] at Y
  have hvm : s'.vm = s.vm := by rw [hA]; rfl
  have hhp : s'.heap = H := by rw [hA]; exact hT
  have hW0 : s.WarmedH s'.vm := by rw [hvm]; exact State.WarmedH.refl s
  obtain ⟨x1, x2, x3, x4⟩ := hxs
  have hU' : vx_Zq Bundle.tN "UNASSIGNED_STACK" Bundle.steD A s' s'.heap := by rw [hhp]; exact vx_Zq.moved hW0.alike (x1.kept hS.2.1)
  have hN' : vx_Zq Bundle.tN "SUPPRESSED_SENTINEL" Bundle.listD A s' s'.heap := by rw [hhp]; exact vx_Zq.moved hW0.alike (x2.kept hS.2.1)
  have hat : ∀ w ∈ ip_atS, w.before args s = true := vx_hat (B := ip_B) (fun w hw => hts w (ip_at_in w hw)) (fun w hw => hw) (fun w hw => va_Nw.use (by
    have := List.all_eq_true.mp ip_B_soft w hw
    unfold ip_soft at this
    split at this
    · rfl
    · rfl
    · cases this) (x3 w hw))
  have hat' : ∀ w ∈ ip_atS, w.before args s' = true := fun w hw => vx_ot_at hW0 hvm.symm (ip_at_ot w (List.mem_cons_of_mem _ (List.mem_cons_of_mem _ hw))) (hat w hw)
  have hk' : (Cond.classLink RX4 127 ip_NSE).before args s' = true := vx_ot_at hW0 hvm.symm (ip_at_ot _ List.mem_cons_self) (hts _ hk0)
  have hini' : (Cond.initialized ip_NSE).before args s' = true := vx_ot_at hW0 hvm.symm (ip_at_ot _ (List.mem_cons_of_mem _ List.mem_cons_self)) (hts _ hi0)
  have h : ∀ w ∈ ip_own RX4 131 ip_NSE, w.before args s' = true := vx_own hat' (vx_isRefq hU'.1) (vx_isRefq hN'.1) hU'.2.word hN'.2.word
  have hown' : s'.vm.findClass RX4 = some m.cls := by rw [hvm]; exact hown
  obtain ⟨sa, hsa⟩ := x4 is his
  have hK := ip_thr1 (Qc := fun _ _ _ _ => False) (XC := fun E st t => E = ip_NSE ∧ st.vm.Alike t.vm ∧ st.heap.size ≤ t.heap.size ∧ ∀ q : Nat, q < st.heap.size → t.heap[q]? = st.heap[q]?) (free := fun q => s'.heap.size ≤ q) (R := { frames := R.frames, locals := R.locals, cells := 1, slots := 6 }) (p := p) (e := e) (below := below) (meth := meth) hexec hb hl hown' hk' hini' (vk_R.warm hW0 hsa) h hsize d0 d3 d4 d6 d9 hout hfr hlo (Nat.le_refl _) (Nat.le_refl _) hlocks (fun t a1 a2 a3 => ⟨rfl, a1, a2, a3⟩) (fun q hq => hq)
  obtain ⟨U, hsteps, o, hrun, hend, hq⟩ := hK T (by rw [hhp]; exact hT) Y
  refine ⟨U, hsteps, o, hrun, hend, ?_⟩
  rcases hq with ⟨hq, -⟩ | ⟨q, rfl, E, ce, L, ⟨rfl, y1, y2, y3⟩, y4, y5, y6, y7, y8, y9⟩
  · exact hq.elim
  · rw [hhp] at y2 y3 y9
    have hWs : s.WarmedH U.vm := State.WarmedH.trans hW0 y7
    have hL0 : s'.sameButNew ({ U with vm := s'.vm } : State) [] 1 6 := ip_same_drop y8 (fun z hz => by rw [hhp]; exact y9 z hz)
    have hall : s.sameButNew ({ U with vm := s.vm } : State) locs mc ms := by
      rw [hvm] at hL0
      subst hA
      obtain ⟨e1, e2⟩ := hL0
      rw [State.setFrames_setFrames] at e1
      have h2 : (T.setVm s.vm).sameButNew ({ U with vm := s.vm } : State) [] (0 + 1) (0 + 6) := ⟨e1, e2⟩
      have h3 := X.same.trans h2
      rw [List.append_nil] at h3
      exact h3.mono hc hs
    exact Or.inr ⟨q, rfl, ip_NSE, ce, locs, hx U hWs.alike y2 y3, y4, y5, by rw [hvm] at y6; exact y6, hWs, hall, hf⟩
end Thr
