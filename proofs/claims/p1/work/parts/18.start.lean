/-! THE CLAIM OUT OF ONE WALK OF THE LAW'S BODY. Your part is whole_start (and what it stands on); all else here is the same for every law, but numbers. -/
def R_law : String := "CutMatchLaw"
def lw_P (b : Addr) (xs : List Int32) (args : Array Value) (s : State) : Prop := args = #[.ref b] ∧ s.IntsAt b xs ∧ xs.length ≤ 6 ∧ (Jvm.Cond.and given_1 narrow_1).before args s = true
def lw_Q (_ : Array Value) (s : State) (o : Outcome) (t : State) : Prop := o = .returned (some (.int 1)) ∧ Framed s o t [] 66 4089
def lw_Z (below : List Frame) (a : Array Value) (s : State) : State → Prop := fun t => ∃ o, t.status = .running ∧ Ended t below o ∧ lw_Q a s o t
/-- the law's own end, with 1 on the stack, nothing written that was there before, its room as the claim has it -/
theorem lw_ret {p : Program} {l : Launch} {e : Env} {s : State} {m : MethodId} {below : List Frame} {meth : Method} {c : Code} {b : Nat} (hx : p.tables.exec = Jvm.exec) (hb : c.code = code) (hr : meth.sig.returnType = ret) (hlocks : meth.locks = false) {pc : Nat} {H : Heap} {ls : Array Slot} (hdg : decode code pc = .ok (.ireturn, 1)) : W p l e room_1 s m #[Value.ref b] below meth c H [] 66 4089 (lw_Z below #[Value.ref b] s) (F0 m pc ls [.int 1]) := by
  intro T hT X
  obtain ⟨fs, hret, hrun, hended, hW, hframe⟩ := X.leave (v := some (.int 1)) (hlocks := hlocks) (fun h => by rw [hr] at h; cases h)
  have hmeth' : T.vm.method? m = some meth := X.method'
  refine ⟨T.setFrames fs, ?_, .returned (some (.int 1)), hrun, hended, rfl, ⟨_, rfl⟩, hW, hframe⟩
  jvm_step X.here [X.here.top, hx, hb, hdg, hmeth', hr, ret, narrow_b1]
  (try refine ⟨rfl, ?_⟩); (try refine ⟨rfl, ?_⟩)
  first | (intro acts; rw [hret _ acts rfl rfl rfl]) | rw [hret _ _ rfl rfl rfl]
  exact Steps.refl _
/-- what holds at the law's entry: the machine, the code, the tables' words (any of lw_tbl by 'hts w (by decide +kernel)'), the script of L ints xs at the cell b, what the Statement gives of the start (any of its parts by flat_of_before) -/
def lw_At (p : Program) (s : State) (m : MethodId) (meth : Method) (c : Code) (b L : Nat) (xs : Nat → Int32) : Prop :=
  p.tables.exec = Jvm.exec ∧ c.code = code ∧ meth.sig.returnType = ret ∧ c.maxLocals = 7 ∧ s.vm.findClass R_law = some m.cls ∧ (∀ w ∈ lw_tbl, w.before #[Value.ref b] s = true) ∧ va_X b L xs s s.heap ∧ b < s.heap.size ∧ meth.locks = false ∧ (Jvm.Cond.and given_1 narrow_1).before #[Value.ref b] s = true
theorem fi_vals (l : List Int32) : ∀ (k : Nat) (d : iv_D), (iv_st l)[k]? = some d → iv_R d (l.getD k 0) := by
  intro k d h
  unfold iv_st at h
  rw [List.getElem?_map] at h
  cases hq : l[k]? with
  | none => rw [hq] at h; cases h
  | some v =>
    rw [hq] at h
    cases h
    rw [show l.getD k 0 = v by simp [List.getD, hq]]
    exact ⟨Int32.le_refl _, Int32.le_refl _⟩
theorem fi_vkR {own tx : String} {k a : Nat} {A : Array Value} {U : State} (h1 : (Cond.stringRef own k tx).before A U = true) (h2 : (Term.string own k).eval A U none [] U = some (.ref a)) : vk_R own k tx a U := vk_R.of h1 h2
theorem iv_cv_ok : ∀ (L : List iv_D) (start : Int), iv_cvF start L = true → ∀ x : Int32, start ≤ x.toInt → ∃ d ∈ L, iv_R d x
  | [], start, h, x, hx => by
    have h : start = 2147483648 := of_decide_eq_true h
    have := Int32.toInt_lt x
    omega
  | d :: r, start, h, x, hx => by
    unfold iv_cvF at h
    simp only [Bool.and_eq_true, decide_eq_true_eq] at h
    obtain ⟨h1, h2⟩ := h
    by_cases hd : x.toInt ≤ (iv_hi d).toInt
    · refine ⟨d, List.mem_cons_self, ?_, ?_⟩
      · rw [Int32.le_iff_toInt_le]; omega
      · rw [Int32.le_iff_toInt_le]; exact hd
    · obtain ⟨d', h3, h4⟩ := iv_cv_ok r _ h2 x (by omega)
      exact ⟨d', List.mem_cons_of_mem _ h3, h4⟩
theorem iv_cv_all {L : List iv_D} (h : iv_cv L = true) (x : Int32) : ∃ d ∈ L, iv_R d x := iv_cv_ok L _ h x (by have := Int32.le_toInt x; omega)
theorem iv_pick {k : Int32} {L : List (iv_D × List (iv_D × List iv_D))} (hc : iv_cov L = true) (hb : iv_all k L = true) (x y z : Int32) : ∃ a b c, iv_R a x ∧ iv_R b y ∧ iv_R c z ∧ iv_box k a b c = true := by
  unfold iv_cov at hc
  rw [Bool.and_eq_true] at hc
  obtain ⟨d, hd, hx⟩ := iv_cv_all hc.1 x
  obtain ⟨q, hq, rfl⟩ := List.mem_map.mp hd
  have h1 := List.all_eq_true.mp hc.2 q hq
  rw [Bool.and_eq_true] at h1
  obtain ⟨d2, hd2, hy⟩ := iv_cv_all h1.1 y
  obtain ⟨q2, hq2, rfl⟩ := List.mem_map.mp hd2
  have h2 := List.all_eq_true.mp h1.2 q2 hq2
  obtain ⟨d3, hd3, hz⟩ := iv_cv_all h2 z
  unfold iv_all at hb
  have b1 := List.all_eq_true.mp hb q hq
  have b2 := List.all_eq_true.mp b1 q2 hq2
  exact ⟨q.1, q2.1, d3, hx, hy, hz, List.all_eq_true.mp b2 d3 hd3⟩
theorem iv_dL : decode code 40 = .ok (.tableswitch 1263 0 36 #[164, 237, 262, 275, 288, 301, 338, 375, 388, 401, 426, 463, 500, 568, 648, 697, 734, 747, 796, 845, 870, 895, 932, 957, 1010, 1023, 1036, 1049, 1062, 1075, 1100, 1125, 1150, 1163, 1188, 1213, 1250], 164) := by decide +kernel
def fi_ra (t0 t1 t2 b : Nat) (t : Nat) : Nat := match t with
  | 0 => t0
  | 1 => t1
  | 2 => t2
  | _ => b
def fi_sv (t : Nat) : List Int32 := match t with
  | 0 => [20, 150, 5, 6, 9]
  | 1 => [1, 1, 1, 0, 0]
  | _ => [20, 400, 20, 20, 20]
theorem fi_el0 {args : Array Value} {s : State} (h : ∀ w ∈ flatC (Jvm.Cond.and given_1 narrow_1), w.before args s = true) (t : Nat) (ht : t < 3) : (Cond.arrayOf (.static RX2 (ip_sn t) "[I") .int).before args s = true ∧ (Cond.eq (.length (.static RX2 (ip_sn t) "[I")) (.int 5)).before args s = true ∧ ∀ j, j < 5 → (Cond.eq (.elem (.static RX2 (ip_sn t) "[I") (.int (Int32.ofNat j))) (.int ((fi_sv t).getD j 0))).before args s = true := by
  rcases (show t = 0 ∨ t = 1 ∨ t = 2 by omega) with rfl | rfl | rfl
  · refine ⟨h _ (by decide +kernel), h _ (by decide +kernel), fun j hj => ?_⟩
    rcases (show j = 0 ∨ j = 1 ∨ j = 2 ∨ j = 3 ∨ j = 4 by omega) with rfl | rfl | rfl | rfl | rfl
    all_goals exact h _ (by decide +kernel)
  · refine ⟨h _ (by decide +kernel), h _ (by decide +kernel), fun j hj => ?_⟩
    rcases (show j = 0 ∨ j = 1 ∨ j = 2 ∨ j = 3 ∨ j = 4 by omega) with rfl | rfl | rfl | rfl | rfl
    all_goals exact h _ (by decide +kernel)
  · refine ⟨h _ (by decide +kernel), h _ (by decide +kernel), fun j hj => ?_⟩
    rcases (show j = 0 ∨ j = 1 ∨ j = 2 ∨ j = 3 ∨ j = 4 by omega) with rfl | rfl | rfl | rfl | rfl
    all_goals exact h _ (by decide +kernel)
theorem fi_tb : (∀ t, t < 3 → Cond.laysStatic RX2 (ip_sn t) "[I" ∈ lw_tbl) ∧ Cond.initialized RX2 ∈ lw_tbl ∧ Cond.laysStatic Bundle.tN "UNASSIGNED_STACK" Bundle.steD ∈ lw_tbl ∧ Cond.laysStatic Bundle.tN "SUPPRESSED_SENTINEL" Bundle.listD ∈ lw_tbl ∧ Cond.initialized Bundle.tN ∈ lw_tbl ∧ Cond.stringRef RX4 129 (ip_tx 129) ∈ lw_tbl ∧ Cond.stringRef RX4 171 (ip_tx 171) ∈ lw_tbl ∧ Cond.stringRef RX4 176 (ip_tx 176) ∈ lw_tbl := by
  refine ⟨fun t ht => ?_, by decide +kernel, by decide +kernel, by decide +kernel, by decide +kernel, by decide +kernel, by decide +kernel, by decide +kernel⟩
  rcases (show t = 0 ∨ t = 1 ∨ t = 2 by omega) with rfl | rfl | rfl <;> decide +kernel
set_option maxHeartbeats 2000000 in
/-- what the start gives: rows, statics, the throw's words -/
theorem fi_start {s : State} {b L : Nat} {xs : Nat → Int32} (hts : ∀ w ∈ lw_tbl, w.before #[Value.ref b] s = true) (hgv : (Jvm.Cond.and given_1 narrow_1).before #[Value.ref b] s = true) (hX : va_X b L xs s s.heap) (hbl : b < s.heap.size) :
    ∃ ra : Nat → Nat, ra 3 = b ∧ ∀ scr : List iv_D, scr.length = L → (∀ k d, scr[k]? = some d → iv_R d (xs k)) → ip_ro iv_R ra (iv_ro scr) (fun q : Nat => s.heap.size ≤ q) s := by
  have hfl := flat_of_before _ hgv
  have hA : ∀ a : Nat, a < s.heap.size → ¬ (fun q : Nat => s.heap.size ≤ q) a := fun a ha h => Nat.not_le.mpr ha h
  have hT : ∀ t, t < 3 → ∃ a, (Term.static RX2 (ip_sn t) "[I").eval #[Value.ref b] s none [] s = some (.ref a) ∧ va_T .int a 5 (fun k => .int ((fi_sv t).getD k 0)) (fun q : Nat => s.heap.size ≤ q) s s.heap := by
    intro t ht
    obtain ⟨e1, e2, e3⟩ := fi_el0 hfl t ht
    exact va_Tof (by decide) e1 (va_eqt e2) (fun j hj => va_eqt (e3 j hj)) hA
  obtain ⟨t0, v0, T0⟩ := hT 0 (by decide)
  obtain ⟨t1, v1, T1⟩ := hT 1 (by decide)
  obtain ⟨t2, v2, T2⟩ := hT 2 (by decide)
  obtain ⟨y1, y2, y3, y4, y5, y6, y7, y8⟩ := fi_tb
  have hst : ∀ k, k = 129 ∨ k = 171 ∨ k = 176 → ∃ sa, vk_R RX4 k (ip_tx k) sa s := by
    intro k hk
    have hex : (Cond.exactly (.string RX4 k) "java/lang/String").before #[Value.ref b] s = true := by
      rcases hk with rfl | rfl | rfl <;> exact hfl _ (by decide +kernel)
    have hsr : (Cond.stringRef RX4 k (ip_tx k)).before #[Value.ref b] s = true := by
      rcases hk with rfl | rfl | rfl
      · exact hts _ y6
      · exact hts _ y7
      · exact hts _ y8
    obtain ⟨a, c, cell, kk, q1, -⟩ := Cond.exactly_spec hex
    exact ⟨a, fi_vkR hsr q1⟩
  refine ⟨fi_ra t0 t1 t2 b, rfl, fun scr hlen hscr => ⟨fun t ds ht => ?_, fun t ht => ?_, ?_, ?_, fun w hw => ?_, hst⟩⟩
  · match t, ht with
    | 0, ht =>
      cases ht
      exact ⟨_, T0, fi_vals _⟩
    | 1, ht =>
      cases ht
      exact ⟨_, T1, fi_vals _⟩
    | 2, ht =>
      cases ht
      exact ⟨_, T2, fi_vals _⟩
    | 3, ht =>
      cases ht
      obtain ⟨cell, g1, g2, g3, g4, g5⟩ := hX
      refine ⟨xs, ⟨cell, g1, g2, g3, by omega, by rw [g4, hlen], fun j hj => g5 j (by omega), hA _ hbl⟩, hscr⟩
    | t + 4, ht => simp [iv_ro] at ht
  · rcases (show t = 0 ∨ t = 1 ∨ t = 2 by omega) with rfl | rfl | rfl
    · exact va_Zof (hts _ (y1 0 (by decide))) (hts _ y2) v0 hA
    · exact va_Zof (hts _ (y1 1 (by decide))) (hts _ y2) v1 hA
    · exact va_Zof (hts _ (y1 2 (by decide))) (hts _ y2) v2 hA
  · exact vx_Zqof (hts _ y3) (hts _ y5) (hfl _ (by decide +kernel)) hA
  · exact vx_Zqof (hts _ y4) (hts _ y5) (hfl _ (by decide +kernel)) hA
  · have := List.all_eq_true.mp ip_B_soft w hw
    have hon : w.onTables = true := by
      unfold ip_soft at this
      split at this
      · rfl
      · rfl
      · cases this
    exact va_Nw.of hon (hts w (ip_B_in w hw))
