/-! THE RUNNER IS SOUND: words -/
def ip_gR {D : Type} (R : D → Int32 → Prop) (base : Nat) (ra : Nat → Nat) (v : ip_V D) (w : Value) : Prop := match v with
  | .inl d => ∃ i, w = .int i ∧ R d i
  | .inr (.inl d) => ∃ i : Int32, w = .long i.toInt64 ∧ R d i
  | .inr (.inr (.inl none)) => w = .null
  | .inr (.inr (.inl (some k))) => w = .ref (base + k)
  | .inr (.inr (.inr t)) => w = .ref (ra t)
def ip_all2 {α β : Type} (P : α → β → Prop) : List α → List β → Prop
  | [], [] => True
  | a :: as, b :: bs => P a b ∧ ip_all2 P as bs
  | _, _ => False
theorem ip_all2_nil {α β : Type} {P : α → β → Prop} {bs : List β} (h : ip_all2 P [] bs) : bs = [] := by
  cases bs with
  | nil => rfl
  | cons b bs => exact h.elim
theorem ip_all2_cons {α β : Type} {P : α → β → Prop} {a : α} {as : List α} {bs : List β} (h : ip_all2 P (a :: as) bs) : ∃ b bs', bs = b :: bs' ∧ P a b ∧ ip_all2 P as bs' := by
  cases bs with
  | nil => exact h.elim
  | cons b bs => exact ⟨b, bs, rfl, h.1, h.2⟩
theorem ip_all2_app {α β : Type} {P : α → β → Prop} (as as' : List α) : ∀ (bs : List β), ip_all2 P (as ++ as') bs → ∃ b1 b2, bs = b1 ++ b2 ∧ ip_all2 P as b1 ∧ ip_all2 P as' b2 := by
  induction as with
  | nil => intro bs h; exact ⟨[], bs, rfl, trivial, h⟩
  | cons a as ih =>
    intro bs h
    obtain ⟨b, bs', rfl, h1, h2⟩ := ip_all2_cons h
    obtain ⟨b1, b2, rfl, h3, h4⟩ := ih bs' h2
    exact ⟨b :: b1, b2, rfl, ⟨h1, h3⟩, h4⟩
theorem ip_all2_mk {α β : Type} {P : α → β → Prop} {as as' : List α} : ∀ {bs bs' : List β}, ip_all2 P as bs → ip_all2 P as' bs' → ip_all2 P (as ++ as') (bs ++ bs') := by
  induction as with
  | nil => intro bs bs' h h'; rw [ip_all2_nil h]; exact h'
  | cons a as ih =>
    intro bs bs' h h'
    obtain ⟨b, bs1, rfl, h1, h2⟩ := ip_all2_cons h
    exact ⟨h1, ih h2 h'⟩
theorem ip_all2_rev {α β : Type} {P : α → β → Prop} {as : List α} : ∀ {bs : List β}, ip_all2 P as bs → ip_all2 P as.reverse bs.reverse := by
  induction as with
  | nil => intro bs h; rw [ip_all2_nil h]; trivial
  | cons a as ih =>
    intro bs h
    obtain ⟨b, bs1, rfl, h1, h2⟩ := ip_all2_cons h
    rw [List.reverse_cons, List.reverse_cons]
    exact ip_all2_mk (ih h2) ⟨h1, trivial⟩
theorem ip_all2_len {α β : Type} {P : α → β → Prop} {as : List α} : ∀ {bs : List β}, ip_all2 P as bs → as.length = bs.length := by
  induction as with
  | nil => intro bs h; rw [ip_all2_nil h]; rfl
  | cons a as ih =>
    intro bs h
    obtain ⟨b, bs1, rfl, h1, h2⟩ := ip_all2_cons h
    rw [List.length_cons, List.length_cons, ih h2]
theorem ip_all2_at {α β : Type} {P : α → β → Prop} {as : List α} : ∀ {bs : List β}, ip_all2 P as bs → ∀ (k : Nat) (a : α), as[k]? = some a → ∃ b, bs[k]? = some b ∧ P a b := by
  induction as with
  | nil => intro bs h k a ha; simp at ha
  | cons x as ih =>
    intro bs h k a ha
    obtain ⟨b, bs1, rfl, h1, h2⟩ := ip_all2_cons h
    cases k with
    | zero => simp at ha; subst ha; exact ⟨b, rfl, h1⟩
    | succ k => simp at ha; obtain ⟨c, h3, h4⟩ := ih h2 k a ha; exact ⟨c, by simpa using h3, h4⟩
section Words
variable {D : Type} (R : D → Int32 → Prop) (base : Nat) (ra : Nat → Nat) (cI cZ cJ : ClassId)
/-- a cell -/
def ip_cR (x : Nat × List (ip_V D)) (E : va_E) : Prop :=
  (x.1 < 6 ∧ ∃ fs : List Value, E = .inr (x.1, fs) ∧ ip_all2 (ip_gR R base ra) x.2 fs) ∨
  (x.1 = 20 ∧ ∃ f : Nat → Int32, E = .inl (cI, x.2.length, .inl f) ∧ ∀ k v, x.2[k]? = some v → ∃ d, v = .inl d ∧ R d (f k)) ∨
  (x.1 = 21 ∧ ∃ f : Nat → Int32, E = .inl (cZ, x.2.length, .inl f) ∧ ∀ k v, x.2[k]? = some v → ∃ d, v = .inl d ∧ R d (f k)) ∨
  (x.1 = 22 ∧ ∃ f : Nat → Int64, E = .inl (cJ, x.2.length, .inr (.inl f)) ∧ ∀ k v, x.2[k]? = some v → ∃ d i, v = .inr (.inl d) ∧ R d i ∧ f k = i.toInt64)
def ip_hR (hp : ip_Hp D) (ws : va_W) : Prop := ws.length = hp.length ∧ ∀ k x, hp[k]? = some x → ∃ E, ws[k]? = some (base + k, E) ∧ ip_cR R base ra cI cZ cJ x E
def ip_mL (nL : Nat) (la : List (Option (ip_V D))) (ls : Array Slot) : Prop := la.length = nL ∧ ∃ lv, lv_has ls nL lv ∧ ∀ k v, la[k]? = some (some v) → ∃ w, (k, w) ∈ lv ∧ w.category = 1 ∧ ip_gR R base ra v w
def ip_mH (Dg : va_G) (A : Nat → Prop) (s : State) (hp : ip_Hp D) (mc : Nat) (fz : Bool) (H : Heap) (locs : List Loc) : Prop :=
  (∃ ws, ip_hR R base ra cI cZ cJ hp ws ∧ va_P Dg vwCl ws H ∧ va_D A ws) ∧ va_S A s.heap H locs ∧ (fz = true → s.heap.size + mc = base + hp.length)
/-- the words of the throw -/
def ip_atS : List Cond := (ip_own RX4 131 ip_NSE).filter vx_no
def ip_B : List Cond := (ip_atS).filter (fun w => !goodWord w)
def ip_soft (w : Cond) : Bool := match w with
  | .castable _ _ => true
  | .declares _ => true
  | _ => false
theorem ip_B_soft : ip_B.all ip_soft = true := by decide +kernel
theorem ip_B_in : ∀ w ∈ ip_B, w ∈ lw_tbl := by decide +kernel
theorem ip_B_cast : Cond.castable ip_NSE ip_NSE ∈ ip_B := by decide +kernel
set_option maxRecDepth 20000 in
theorem ip_at_in0 : ∀ w ∈ (ip_atS).filter goodWord, w ∈ lw_tbl := by decide +kernel
theorem ip_at_in : ∀ w ∈ (ip_atS).filter goodWord, w ∈ ip_G := by
  intro w hw
  refine List.mem_filter.mpr ⟨?_, (List.mem_filter.mp hw).2⟩
  exact ip_at_in0 w hw
theorem ip_at_ot : ∀ w ∈ Cond.classLink RX4 127 ip_NSE :: Cond.initialized ip_NSE :: ip_atS, vx_ot w = true := by decide +kernel
def ip_tx (k : Nat) : String := match k with
  | 129 => "no such innings"
  | 171 => "nothing such is counted of an innings"
  | _ => "no such cut"
/-- what a throw needs of the state -/
def ip_xs (A : Nat → Prop) (U : State) : Prop := vx_Zq Bundle.tN "UNASSIGNED_STACK" Bundle.steD A U U.heap ∧ vx_Zq Bundle.tN "SUPPRESSED_SENTINEL" Bundle.listD A U U.heap ∧ (∀ w ∈ ip_B, va_Nw w U) ∧ ∀ k, k = 129 ∨ k = 171 ∨ k = 176 → ∃ sa, vk_R RX4 k (ip_tx k) sa U
theorem ip_soft_warm {w : Cond} {s U : State} (h : ip_soft w = true) (hW : s.WarmedH U.vm) (hZ : va_Nw w s) : va_Nw w U := by
  unfold ip_soft at h
  split at h
  · exact va_Nw.warmC hW hZ
  · exact va_Nw.warmD hW hZ
  · cases h
theorem ip_soft_same {w : Cond} {s U : State} (h : ip_soft w = true) (hv : s.vm = U.vm) (hZ : va_Nw w s) : va_Nw w U := by
  unfold ip_soft at h
  split at h
  · exact va_Nw.same rfl hv hZ
  · exact va_Nw.same rfl hv hZ
  · cases h
theorem ip_xs_to {A B : Nat → Prop} {s U : State} {H : Heap} {locs : List Loc} (h : ip_xs A s) (hS : va_S A s.heap H locs) (hAB : ∀ q, B q → A q) (hW : s.WarmedH U.vm) (hU : U.heap = H) : ip_xs B U := by
  subst hU
  obtain ⟨h1, h2, h3, h4⟩ := h
  refine ⟨vx_Zq.moved hW.alike (vx_Zq.narrow (vx_Zq.kept h1 hS.2.1) hAB), vx_Zq.moved hW.alike (vx_Zq.narrow (vx_Zq.kept h2 hS.2.1) hAB), fun w hw => ip_soft_warm (List.all_eq_true.mp ip_B_soft w hw) hW (h3 w hw), fun k hk => ?_⟩
  obtain ⟨sa, h5⟩ := h4 k hk
  exact ⟨sa, vk_R.warm hW h5⟩
theorem ip_xs_same {A : Nat → Prop} {s U : State} (h : ip_xs A s) (hv : U.vm = s.vm) (hU : U.heap = s.heap) : ip_xs A U := by
  obtain ⟨h1, h2, h3, h4⟩ := h
  have hal : s.vm.Alike U.vm := by rw [hv]; exact Vm.Alike.refl _
  refine ⟨by rw [hU]; exact vx_Zq.moved hal h1, by rw [hU]; exact vx_Zq.moved hal h2, fun w hw => ip_soft_same (List.all_eq_true.mp ip_B_soft w hw) hv.symm (h3 w hw), fun k hk => ?_⟩
  obtain ⟨sa, h5⟩ := h4 k hk
  exact ⟨sa, vk_R.same hv h5⟩
/-- rows that stay: the script, the statics; the throw's words -/
def ip_ro (ro : List (List D)) (A : Nat → Prop) (s : State) : Prop :=
  (∀ t ds, ro[t]? = some ds → ∃ xs : Nat → Int32, va_T .int (ra t) ds.length (fun k => .int (xs k)) A s s.heap ∧ ∀ k d, ds[k]? = some d → R d (xs k)) ∧
  (∀ t, t < 3 → va_Z RX2 (ip_sn t) "[I" (.ref (ra t)) A s s.heap) ∧ ip_xs A s
end Words
/-- what stands still in a method's body -/
def ip_Cx {D : Type} (R : D → Int32 → Prop) (ops : ip_O D) (p : Program) (s : State) (m : MethodId) (args : Array Value) (meth : Method) (c : Code) (bs : ByteArray) (cls kd nL : Nat) (Dg : va_G) (cI cZ cJ : ClassId) (A : Nat → Prop) (ra : Nat → Nat) (ro : List (List D)) : Prop :=
  ip_okO R ops ∧ p.tables.exec = Jvm.exec ∧ c.code = bs ∧ c.maxLocals = nL ∧ s.vm.findClass (ip_R cls) = some m.cls ∧ (∀ w ∈ ip_G, w.before args s = true) ∧
  va_K Dg vwCl [(cI, .int), (cZ, .boolean), (cJ, .long)] s ∧ (∀ q : Nat, s.heap.size ≤ q → A q) ∧ ip_ro R ra ro A s ∧ (kd = 2 → meth.name = "<init>")
def ip_good {D : Type} (R : D → Int32 → Prop) (p : Program) (l : Launch) (e : Env) (Rm : Room) (s : State) (m : MethodId) (args : Array Value) (below : List Frame) (meth : Method) (c : Code) (Q : State → Prop) (nL base : Nat) (Dg : va_G) (cI cZ cJ : ClassId) (A : Nat → Prop) (ra : Nat → Nat) (f : ip_Fr D) : Prop :=
  ∀ (ls : Array Slot) (st : List Value) (H : Heap) (locs : List Loc), ip_mL R base ra nL f.2.1 ls → ip_all2 (ip_gR R base ra) f.2.2.1 st → ip_mH R base ra cI cZ cJ Dg A s f.2.2.2.1 f.2.2.2.2.1 f.2.2.2.2.2.2 H locs →
    W p l e Rm s m args below meth c H locs f.2.2.2.2.1 f.2.2.2.2.2.1 Q (F0 m f.1 ls st)
theorem ip_one_cat {D : Type} {R : D → Int32 → Prop} {base : Nat} {ra : Nat → Nat} {v : ip_V D} {w : Value} (h : ip_one v = true) (hg : ip_gR R base ra v w) : w.category = 1 := by
  rcases v with d | d | (_ | k) | t
  · obtain ⟨i, rfl, -⟩ := hg; rfl
  · cases h
  · cases hg; rfl
  · cases hg; rfl
  · cases hg; rfl
theorem ip_mL_get {D : Type} {R : D → Int32 → Prop} {base nL : Nat} {ra : Nat → Nat} {la : List (Option (ip_V D))} {ls : Array Slot} (h : ip_mL R base ra nL la ls) {k : Nat} {v : ip_V D} (hv : ip_nth la k = some (some v)) : ∃ w, ip_gR R base ra v w ∧ ls[k]? = some (.val w) := by
  rw [ip_nth_eq] at hv
  obtain ⟨-, lv, h1, h2⟩ := h
  obtain ⟨w, h3, -, h4⟩ := h2 k v hv
  exact ⟨w, h4, h1.2.2 _ h3⟩
theorem ip_mL_set {D : Type} {R : D → Int32 → Prop} {base nL k : Nat} {ra : Nat → Nat} {la : List (Option (ip_V D))} {ls' : Array Slot} {lv : List (Nat × Value)} {v : ip_V D} {w : Value} (hl : la.length = nL)
    (h2 : ∀ k v, la[k]? = some (some v) → ∃ w, (k, w) ∈ lv ∧ w.category = 1 ∧ ip_gR R base ra v w) (hw : ip_gR R base ra v w) (hc : w.category = 1)
    (h : lv_has ls' nL ((k, w) :: lv.filter (fun q => !(q.1 == k) && !(q.1 + 1 == k && q.2.category == 2)))) : ip_mL R base ra nL (ip_set la k (some v)) ls' := by
  rw [ip_set_eq]
  refine ⟨by rw [List.length_set]; exact hl, _, h, fun k' v' h' => ?_⟩
  rw [List.getElem?_set] at h'
  by_cases e : k = k'
  · subst e
    simp only [if_true] at h'
    split at h'
    · cases h'
      exact ⟨w, List.mem_cons_self, hc, hw⟩
    · cases h'
  · rw [if_neg e] at h'
    obtain ⟨w', h3, h4, h5⟩ := h2 k' v' h'
    refine ⟨w', List.mem_cons_of_mem _ (List.mem_filter.mpr ⟨h3, ?_⟩), h4, h5⟩
    have n1 : (k' == k) = false := by simp; exact fun q => e q.symm
    simp [n1, h4]
theorem ip_lt_of {D : Type} {la : List (Option (ip_V D))} {k : Nat} {x : Option (ip_V D)} (h : ip_nth la k = some x) : k < la.length := by
  rw [ip_nth_eq] at h
  exact (List.getElem?_eq_some_iff.mp h).1
theorem ip_ix_some {x : Option Int32} {k : Nat} (h : ip_ix x = some k) : ∃ v : Int32, x = some v ∧ ¬ v < 0 ∧ v.toNatClampNeg = k := by
  unfold ip_ix at h
  split at h
  · split at h
    · cases h
    · cases h; exact ⟨_, rfl, by assumption, rfl⟩
  · cases h
theorem ip_bit_some {x : Option Int32} (h : ip_bit x = true) : ∃ v : Int32, x = some v ∧ (v = 0 ∨ v = 1) := by
  unfold ip_bit at h
  split at h
  · simp only [Bool.or_eq_true, decide_eq_true_eq] at h; exact ⟨_, rfl, h⟩
  · cases h
