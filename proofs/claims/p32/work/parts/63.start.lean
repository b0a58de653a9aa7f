/-! THE CLAIM OUT OF ONE WALK OF THE LAW'S BODY. Your part is whole_start (and what it stands on); all else here is the same for every law, but numbers. -/
def R_law : String := "CutMatchLaw"
def lw_P (b : Addr) (xs : List Int32) (args : Array Value) (s : State) : Prop := args = #[.ref b] ∧ s.IntsAt b xs ∧ xs.length ≤ 3072 ∧ (Jvm.Cond.and given_1 narrow_1).before args s = true
def lw_Q (_ : Array Value) (s : State) (o : Outcome) (t : State) : Prop := o = .returned (some (.int 1)) ∧ Framed s o t [] 1088 12265
def lw_Z (below : List Frame) (a : Array Value) (s : State) : State → Prop := fun t => ∃ o, t.status = .running ∧ Ended t below o ∧ lw_Q a s o t
/-- the law's own end, with 1 on the stack, nothing written that was there before, its room as the claim has it -/
theorem lw_ret {p : Program} {l : Launch} {e : Env} {s : State} {m : MethodId} {below : List Frame} {meth : Method} {c : Code} {b : Nat} (hx : p.tables.exec = Jvm.exec) (hb : c.code = code) (hr : meth.sig.returnType = ret) (hlocks : meth.locks = false) {pc : Nat} {H : Heap} {ls : Array Slot} (hdg : decode code pc = .ok (.ireturn, 1)) : W p l e room_1 s m #[Value.ref b] below meth c H [] 1088 12265 (lw_Z below #[Value.ref b] s) (F0 m pc ls [.int 1]) := by
  intro T hT X
  obtain ⟨fs, hret, hrun, hended, hW, hframe⟩ := X.leave (v := some (.int 1)) (hlocks := hlocks) (fun h => by rw [hr] at h; cases h)
  have hmeth' : T.vm.method? m = some meth := X.method'
  refine ⟨T.setFrames fs, ?_, .returned (some (.int 1)), hrun, hended, rfl, ⟨_, rfl⟩, hW, hframe⟩
  jvm_step X.here [X.here.top, hx, hb, hdg, hmeth', hr, ret, narrow_b1]
  (try refine ⟨rfl, ?_⟩); (try refine ⟨rfl, ?_⟩)
  first | (intro acts; rw [hret _ acts rfl rfl rfl]) | rw [hret _ _ rfl rfl rfl]
  exact Steps.refl _
/-- what holds at the law's entry: the machine, the code, the tables' words (any of lw_tbl by 'hts w (by decide +kernel)'), the script of L ints xs at the cell b, what the Statement gives of the start (any of its parts by flat_of_before) -/
def lw_At (p : Program) (s : State) (m : MethodId) (meth : Method) (c : Code) (b L : Nat) (xs : Nat → Int32) : Prop :=
  p.tables.exec = Jvm.exec ∧ c.code = code ∧ meth.sig.returnType = ret ∧ c.maxLocals = 7 ∧ s.vm.findClass R_law = some m.cls ∧ (∀ w ∈ lw_tbl, w.before #[Value.ref b] s = true) ∧ va_X b L xs s s.heap ∧ b < s.heap.size ∧ meth.locks = false ∧ (Jvm.Cond.and given_1 narrow_1).before #[Value.ref b] s = true
theorem fi_vals (l : List Int32) : ∀ (k : Nat) (d : Int32), l[k]? = some d → ex_R d (l.getD k 0) := by
  intro k d h
  show l.getD k 0 = d
  simp [List.getD, h]
theorem fi_vkR {own tx : String} {k a : Nat} {A : Array Value} {U : State} (h1 : (Cond.stringRef own k tx).before A U = true) (h2 : (Term.string own k).eval A U none [] U = some (.ref a)) : vk_R own k tx a U := vk_R.of h1 h2
def fi_ra (t0 t1 t2 b : Nat) (t : Nat) : Nat := match t with
  | 0 => t0
  | 1 => t1
  | 2 => t2
  | _ => b
def fi_sv (t : Nat) : List Int32 := match t with
  | 0 => [20, 150, 5, 6, 9]
  | 1 => [1, 1, 1, 0, 0]
  | _ => [20, 400, 20, 20, 20]
theorem fi_el0 {args : Array Value} {s : State} (h : ∀ w ∈ flatC (Jvm.Cond.and given_1 narrow_1), w.before args s = true) (t : Nat) (ht : t < 3) : (Cond.arrayOf (.static RX2 (ip_sn t) "[I") .int).before args s = true ∧ (Cond.eq (.length (.static RX2 (ip_sn t) "[I")) (.int 5)).before args s = true ∧ ∀ j, j < 5 → (Cond.eq (.elem (.static RX2 (ip_sn t) "[I") (.int (Int32.ofNat j))) (.int ((fi_sv t).getD j 0))).before args s = true := by
  rcases (show t = 0 ∨ t = 1 ∨ t = 2 by omega) with rfl | rfl | rfl
  · refine ⟨h _ (by decide +kernel), h _ (by decide +kernel), fun j hj => ?_⟩
    rcases (show j = 0 ∨ j = 1 ∨ j = 2 ∨ j = 3 ∨ j = 4 by omega) with rfl | rfl | rfl | rfl | rfl
    all_goals exact h _ (by decide +kernel)
  · refine ⟨h _ (by decide +kernel), h _ (by decide +kernel), fun j hj => ?_⟩
    rcases (show j = 0 ∨ j = 1 ∨ j = 2 ∨ j = 3 ∨ j = 4 by omega) with rfl | rfl | rfl | rfl | rfl
    all_goals exact h _ (by decide +kernel)
  · refine ⟨h _ (by decide +kernel), h _ (by decide +kernel), fun j hj => ?_⟩
    rcases (show j = 0 ∨ j = 1 ∨ j = 2 ∨ j = 3 ∨ j = 4 by omega) with rfl | rfl | rfl | rfl | rfl
    all_goals exact h _ (by decide +kernel)
theorem fi_tb : (∀ t, t < 3 → Cond.laysStatic RX2 (ip_sn t) "[I" ∈ lw_tbl) ∧ Cond.initialized RX2 ∈ lw_tbl ∧ Cond.laysStatic Bundle.tN "UNASSIGNED_STACK" Bundle.steD ∈ lw_tbl ∧ Cond.laysStatic Bundle.tN "SUPPRESSED_SENTINEL" Bundle.listD ∈ lw_tbl ∧ Cond.initialized Bundle.tN ∈ lw_tbl ∧ Cond.stringRef RX4 129 (ip_tx 129) ∈ lw_tbl ∧ Cond.stringRef RX4 171 (ip_tx 171) ∈ lw_tbl ∧ Cond.stringRef RX4 176 (ip_tx 176) ∈ lw_tbl := by
  refine ⟨fun t ht => ?_, by decide +kernel, by decide +kernel, by decide +kernel, by decide +kernel, by decide +kernel, by decide +kernel, by decide +kernel⟩
  rcases (show t = 0 ∨ t = 1 ∨ t = 2 by omega) with rfl | rfl | rfl <;> decide +kernel
set_option maxHeartbeats 2000000 in
/-- what the start gives: rows, statics, the throw's words -/
theorem fi_start {s : State} {b L : Nat} {xs : Nat → Int32} (hts : ∀ w ∈ lw_tbl, w.before #[Value.ref b] s = true) (hgv : (Jvm.Cond.and given_1 narrow_1).before #[Value.ref b] s = true) (hX : va_X b L xs s s.heap) (hbl : b < s.heap.size) :
    ∃ ra : Nat → Nat, ra 3 = b ∧ ∀ scr : List Int32, scr.length = L → (∀ k d, scr[k]? = some d → ex_R d (xs k)) → ip_ro ex_R ra (roS scr) (fun q : Nat => s.heap.size ≤ q) s := by
  have hfl := flat_of_before _ hgv
  have hA : ∀ a : Nat, a < s.heap.size → ¬ (fun q : Nat => s.heap.size ≤ q) a := fun a ha h => Nat.not_le.mpr ha h
  have hT : ∀ t, t < 3 → ∃ a, (Term.static RX2 (ip_sn t) "[I").eval #[Value.ref b] s none [] s = some (.ref a) ∧ va_T .int a 5 (fun k => .int ((fi_sv t).getD k 0)) (fun q : Nat => s.heap.size ≤ q) s s.heap := by
    intro t ht
    obtain ⟨e1, e2, e3⟩ := fi_el0 hfl t ht
    exact va_Tof (by decide) e1 (va_eqt e2) (fun j hj => va_eqt (e3 j hj)) hA
  obtain ⟨t0, v0, T0⟩ := hT 0 (by decide)
  obtain ⟨t1, v1, T1⟩ := hT 1 (by decide)
  obtain ⟨t2, v2, T2⟩ := hT 2 (by decide)
  obtain ⟨y1, y2, y3, y4, y5, y6, y7, y8⟩ := fi_tb
  have hst : ∀ k, k = 129 ∨ k = 171 ∨ k = 176 → ∃ sa, vk_R RX4 k (ip_tx k) sa s := by
    intro k hk
    have hex : (Cond.exactly (.string RX4 k) "java/lang/String").before #[Value.ref b] s = true := by
      rcases hk with rfl | rfl | rfl <;> exact hfl _ (by decide +kernel)
    have hsr : (Cond.stringRef RX4 k (ip_tx k)).before #[Value.ref b] s = true := by
      rcases hk with rfl | rfl | rfl
      · exact hts _ y6
      · exact hts _ y7
      · exact hts _ y8
    obtain ⟨a, c, cell, kk, q1, -⟩ := Cond.exactly_spec hex
    exact ⟨a, fi_vkR hsr q1⟩
  refine ⟨fi_ra t0 t1 t2 b, rfl, fun scr hlen hscr => ⟨fun t ds ht => ?_, fun t ht => ?_, ?_, ?_, fun w hw => ?_, hst⟩⟩
  · match t, ht with
    | 0, ht =>
      cases ht
      exact ⟨_, T0, fi_vals _⟩
    | 1, ht =>
      cases ht
      exact ⟨_, T1, fi_vals _⟩
    | 2, ht =>
      cases ht
      exact ⟨_, T2, fi_vals _⟩
    | 3, ht =>
      cases ht
      obtain ⟨cell, g1, g2, g3, g4, g5⟩ := hX
      refine ⟨xs, ⟨cell, g1, g2, g3, by omega, by rw [g4, hlen], fun j hj => g5 j (by omega), hA _ hbl⟩, hscr⟩
    | t + 4, ht => simp [roS] at ht
  · rcases (show t = 0 ∨ t = 1 ∨ t = 2 by omega) with rfl | rfl | rfl
    · exact va_Zof (hts _ (y1 0 (by decide))) (hts _ y2) v0 hA
    · exact va_Zof (hts _ (y1 1 (by decide))) (hts _ y2) v1 hA
    · exact va_Zof (hts _ (y1 2 (by decide))) (hts _ y2) v2 hA
  · exact vx_Zqof (hts _ y3) (hts _ y5) (hfl _ (by decide +kernel)) hA
  · exact vx_Zqof (hts _ y4) (hts _ y5) (hfl _ (by decide +kernel)) hA
  · have := List.all_eq_true.mp ip_B_soft w hw
    have hon : w.onTables = true := by
      unfold ip_soft at this
      split at this
      · rfl
      · rfl
      · cases this
    exact va_Nw.of hon (hts w (ip_B_in w hw))
