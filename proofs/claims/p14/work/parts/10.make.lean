def ip_dflt (t : FieldType) : Value := match t with
  | .int => .int 0
  | .boolean => .int 0
  | _ => .null
theorem ip_dflt_all : (List.range 6).all (fun a => (List.range (ip_N a)).all (fun j => decide (defaultValue (ip_Y a j) = ip_dflt (ip_Y a j)))) = true := by decide +kernel
theorem ip_dflt_ok {a j : Nat} (ha : a < 6) (hj : j < ip_N a) : defaultValue (ip_Y a j) = vp_V ((List.range (ip_N a)).map (fun k => ip_dflt (ip_Y a k))) j := by
  have h1 := List.all_eq_true.mp ip_dflt_all a (List.mem_range.mpr ha)
  have h2 := List.all_eq_true.mp h1 j (List.mem_range.mpr hj)
  rw [decide_eq_true_eq] at h2
  rw [h2]
  unfold vp_V
  simp [List.getD, hj]
section Steps3
variable {D : Type} {R : D → Int32 → Prop} {ops : ip_O D} {p : Program} {l : Launch} {e : Env} {Rm : Room} {s : State} {m : MethodId} {args : Array Value} {below : List Frame} {meth : Method} {c : Code} {Q : State → Prop} {bs : ByteArray} {cls kd nL base : Nat} {Dg : va_G} {cI cZ cJ : ClassId} {A : Nat → Prop} {ra : Nat → Nat} {ro : List (List D)}
variable {pc nx mc ms : Nat} {la : List (Option (ip_V D))} {st : List (ip_V D)} {hp : ip_Hp D} {fz : Bool} {H : Heap} {locs : List Loc}
/-- a state of a walk has no more cells than were paid for -/
theorem ip_W_sz {g : JFrame} (k : H.size ≤ s.heap.size + mc → W p l e Rm s m args below meth c H locs mc ms Q g) : W p l e Rm s m args below meth c H locs mc ms Q g := fun T hT X =>
  k (by have h := X.same.2.2.1; rw [show (T.setVm s.vm).heap = T.heap from rfl, hT] at h; exact h) T hT X
theorem ip_size (h3 : ip_mH R base ra cI cZ cJ Dg A s hp mc fz H locs) (hf : fz = true) (hne : ip_ne hp mc = true) (hsz : H.size ≤ s.heap.size + mc) : H.size = base + hp.length := by
  obtain ⟨⟨ws, hR, hP, hD⟩, hS, hfz⟩ := h3
  have e1 := hfz hf
  have e2 := hS.1
  cases hp with
  | nil =>
    have e3 : mc = 0 := Nat.eq_of_beq_eq_true hne
    simp only [List.length_nil] at e1 ⊢
    omega
  | cons x xs =>
    have h1 : (x :: xs)[xs.length]? = some ((x :: xs)[xs.length]'(by simp)) := List.getElem?_eq_getElem (by simp)
    obtain ⟨E, hE, -⟩ := hR.2 _ _ h1
    have h2 := (hP _ _ hE).lt
    simp only [List.length_cons] at e1 ⊢
    dsimp only at h2
    omega
theorem ip_cat_eq {r : List (ip_V D)} : ∀ {s1 : List Value}, ip_all2 (ip_gR R base ra) r s1 → (s1.map fun v => v.category).sum = ip_cat r := by
  induction r with
  | nil => intro s1 h; rw [ip_all2_nil h]; rfl
  | cons v r ih =>
    intro s1 h
    obtain ⟨w, s2, rfl, hg, h2⟩ := ip_all2_cons h
    rw [List.map_cons, List.sum_cons, ih h2]
    rcases v with d | d | (_ | k) | t
    · obtain ⟨i, rfl, -⟩ := hg; rfl
    · obtain ⟨i, rfl, -⟩ := hg; rfl
    · cases hg; rfl
    · cases hg; rfl
    · cases hg; rfl
theorem st_mka (C : ip_Cx R ops p s m args meth c bs cls kd nL Dg cI cZ cJ A ra ro) {at0 : ArrayType} {x : D} {N t0 k : Nat} {cA : ClassId} {a0 : vp_A} {z : ip_V D} (hd : decode bs pc = .ok (.newarray at0, 2)) (hac : Cond.arrayClass (newarray.typeOf at0) ∈ ip_G) (hi : ip_ix (ops.2.2.2 x) = some N) (hN : N ≤ 1000)
    (ht : [(cI, FieldType.int), (cZ, FieldType.boolean), (cJ, FieldType.long)][t0]? = some (cA, newarray.typeOf at0)) (ha : ∀ cA : ClassId, vp_cell cA a0 = arrV cA N (fun _ => defaultValue (newarray.typeOf at0)))
    (hc0 : ip_cR R base ra cI cZ cJ (k, List.replicate N z) (.inl (cA, a0))) (hne : ip_ne hp mc = true) (hrc : mc + 1 ≤ Rm.cells) (hrs : ms + N ≤ Rm.slots)
    (hk : ip_good R p l e Rm s m args below meth c Q nL base Dg cI cZ cJ A ra (pc + 2, la, .inr (.inr (.inl (some hp.length))) :: st, hp ++ [(k, List.replicate N z)], mc + 1, ms + N, true)) : ip_good R p l e Rm s m args below meth c Q nL base Dg cI cZ cJ A ra (pc, la, .inl x :: st, hp, mc, ms, true) := by
  intro ls s1 H locs h1 h2 h3
  obtain ⟨w, s2, rfl, ⟨u, rfl, hx⟩, h2'⟩ := ip_all2_cons h2
  clear h2
  have h2 := h2'
  clear h2'
  obtain ⟨iv, hi1, hi2, hi3⟩ := ip_ix_some hi
  have hu := C.1.2.2.2 _ _ _ hi1 hx
  subst hu
  refine ip_W_sz (fun hsz => ?_)
  have hsize : H.size = base + hp.length := ip_size h3 rfl hne hsz
  obtain ⟨⟨ws, hR, hP, hD⟩, hS, hfz⟩ := h3
  have hby : N * componentBytes (newarray.typeOf at0) ≤ 536870912 := by
    refine Nat.le_trans (Nat.mul_le_mul hN (show componentBytes (newarray.typeOf at0) ≤ 8 by cases at0 <;> decide)) (by decide)
  refine va_newaK C.2.1 C.2.2.1 (C.2.2.2.2.2.1 _ hac) rfl hd rfl hi2 hi3 hby hrc hrs rfl fun H1 cA' e1 z1 o1 hAr hNm => ?_
  have hra : s.vm.findClass ("[" ++ (newarray.typeOf at0).toString) = some cA := by
    have h5 := (C.2.2.2.2.2.2.1.2 t0 _ ht).2
    cases at0 <;> exact h5
  have hcA : cA' = cA := Option.some.inj (hNm.symm.trans hra)
  subst hcA
  have hkp : ∀ (k : Nat) (x : Nat × va_E), ws[k]? = some x → H1[x.1]? = H[x.1]? := fun k x hx => o1 x.1 ((hP k x hx).lt)
  have hgo := hk ls (.ref H.size :: s2) H1 locs h1 ⟨by rw [hsize]; rfl, h2⟩ ⟨⟨ws ++ [(base + hp.length, .inl (cA', a0))], ip_hR_push hR hc0, (hP.kept hkp).app (fun k x hx => ?_), hD.push hP hsize.symm (C.2.2.2.2.2.2.2.1 _ (by rw [← hsize]; exact hS.1))⟩, ⟨Nat.le_trans hS.1 (by omega), fun x h1 h2 => (o1 x (Nat.lt_of_lt_of_le h1 hS.1)).trans (hS.2.1 x h1 h2), hS.2.2⟩, fun z => ?_⟩
  · exact hgo
  · have hz : k < 1 := (List.getElem?_eq_some_iff.mp hx).1
    rw [show k = 0 by omega] at hx
    cases hx
    show H1[base + hp.length]? = some (vp_cell _ _)
    rw [ha, ← hsize]
    exact e1
  · have h9 : s.heap.size + mc = base + hp.length := hfz rfl
    show s.heap.size + (mc + 1) = base + (hp ++ [_]).length
    rw [List.length_append, List.length_singleton]
    omega
theorem st_new (C : ip_Cx R ops p s m args meth c bs cls kd nL Dg cI cZ cJ A ra ro) {a x : Nat} (hd : decode bs pc = .ok (.new x, 3)) (hf : ip_CL.any (fun z => Nat.beq z.1 cls && (Nat.beq z.2.1 x && Nat.beq z.2.2.1 a)) = true) (hne : ip_ne hp mc = true) (hrc : mc + 1 ≤ Rm.cells) (hrs : ms + ip_N a ≤ Rm.slots)
    (hk : ip_good R p l e Rm s m args below meth c Q nL base Dg cI cZ cJ A ra (pc + 3, la, .inr (.inr (.inl (some hp.length))) :: st, hp ++ [(a, (List.range (ip_N a)).map (fun k => ip_dv (ops.1 0) (ip_Y a k)))], mc + 1, ms + ip_N a, true)) : ip_good R p l e Rm s m args below meth c Q nL base Dg cI cZ cJ A ra (pc, la, st, hp, mc, ms, true) := by
  intro ls s1 H locs h1 h2 h3
  obtain ⟨ha, hl1, hl2, hl3⟩ := ip_cl_w hf
  refine ip_W_sz (fun hsz => ?_)
  have hsize : H.size = base + hp.length := ip_size h3 rfl hne hsz
  obtain ⟨⟨ws, hR, hP, hD⟩, hS, hfz⟩ := h3
  have hKn := C.2.2.2.2.2.2.1.1 a _ (ip_vw ha)
  refine W.newcK C.2.1 C.2.2.1 C.2.2.2.2.1 (C.2.2.2.2.2.1 _ hl1) (C.2.2.2.2.2.1 _ hl2) (C.2.2.2.2.2.1 _ hl3) rfl hd hrc hrs hKn.2.1 rfl fun H1 kC hkC e1 z1 o1 => ?_
  have hkp : ∀ (k : Nat) (x : Nat × va_E), ws[k]? = some x → H1[x.1]? = H[x.1]? := fun k x hx => o1 x.1 ((hP k x hx).lt)
  have hb := u_born (ip_Y a) C.2.2.2.2.2.1 (ip_hin ha) hKn hkC e1 (ip_tyo ha)
  have hall : ∀ (L : List Nat), ip_all2 (ip_gR R base ra) (L.map (fun k => ip_dv (ops.1 0) (ip_Y a k))) (L.map (fun k => ip_dflt (ip_Y a k))) := by
    intro L
    induction L with
    | nil => trivial
    | cons k L ih =>
      refine ⟨?_, ih⟩
      show ip_gR R base ra (ip_dv (ops.1 0) (ip_Y a k)) (ip_dflt (ip_Y a k))
      generalize ip_Y a k = t
      cases t <;> first | exact ⟨0, rfl, C.1.1 0⟩ | rfl
  have hgo := hk ls (.ref H.size :: s1) H1 locs h1 ⟨by rw [hsize]; rfl, h2⟩ ⟨⟨ws ++ [(base + hp.length, .inr (a, (List.range (ip_N a)).map (fun k => ip_dflt (ip_Y a k))))], ip_hR_push hR (Or.inl ⟨ha, _, rfl, hall _⟩), (hP.kept hkp).app (fun k x hx => ?_), hD.push hP hsize.symm (C.2.2.2.2.2.2.2.1 _ (by rw [← hsize]; exact hS.1))⟩, ⟨Nat.le_trans hS.1 (by omega), fun x h1 h2 => (o1 x (Nat.lt_of_lt_of_le h1 hS.1)).trans (hS.2.1 x h1 h2), hS.2.2⟩, fun z => ?_⟩
  · exact hgo
  · have hz : k < 1 := (List.getElem?_eq_some_iff.mp hx).1
    rw [show k = 0 by omega] at hx
    cases hx
    rw [← hsize]
    refine ⟨_, ip_vw ha, hb.to (fun j hj => ?_)⟩
    exact ip_dflt_ok ha hj
  · have h9 : s.heap.size + mc = base + hp.length := hfz rfl
    show s.heap.size + (mc + 1) = base + (hp ++ [_]).length
    rw [List.length_append, List.length_singleton]
    omega
theorem st_obj (C : ip_Cx R ops p s m args meth c bs cls kd nL Dg cI cZ cJ A ra ro) {x q : Nat} (hd : decode bs pc = .ok (.invokespecial x, 3)) (hf : ip_OL.any (fun z => Nat.beq z.1 cls && Nat.beq z.2.1 x) = true) (hfr : 1 ≤ Rm.frames) (hlo : 24 ≤ Rm.locals) (hcat : ip_cat st ≤ 8)
    (hk : ip_good R p l e Rm s m args below meth c Q nL base Dg cI cZ cJ A ra (pc + 3, la, st, hp, mc, ms, fz)) : ip_good R p l e Rm s m args below meth c Q nL base Dg cI cZ cJ A ra (pc, la, .inr (.inr (.inl (some q))) :: st, hp, mc, ms, fz) := by
  intro ls s1 H locs h1 h2 h3
  obtain ⟨w, s2, rfl, hg, h2'⟩ := ip_all2_cons h2
  clear h2
  have h2 := h2'
  clear h2'
  cases hg
  have hls : ls.size = c.maxLocals := by obtain ⟨-, lv, h4, -⟩ := h1; rw [C.2.2.2.1]; exact h4.1
  have hr := lv_room (m := m) (pc := pc) (ls := ls) (rest := .ref (base + q) :: s2) (st := s2) (by rw [ip_cat_eq h2]; exact hcat)
  exact W.objInit C.2.1 C.2.2.1 C.2.2.2.2.1 (C.2.2.2.2.2.1 _ (ip_ol_w hf)) (C.2.2.2.2.2.1 _ ip_obI) (C.2.2.2.2.2.1 _ ip_obC) rfl hls rfl hd hfr (show 2 * (F0 m pc ls (.ref (base + q) :: s2)).monitorRoom + (s2.map fun v => v.category).sum + 12 ≤ Rm.locals by omega) (hk ls s2 H locs h1 h2 h3)
theorem st_max (C : ip_Cx R ops p s m args meth c bs cls kd nL Dg cI cZ cJ A ra ro) {x y z : D} {t : Bool} (hcls : cls = 1) (hd : decode bs pc = .ok (.invokestatic 85, 3)) (hfr : 1 ≤ Rm.frames) (hlo : 24 ≤ Rm.locals) (hcat : ip_cat st ≤ 8) (hrc : mc ≤ Rm.cells) (hrs : ms ≤ Rm.slots) (ht : ops.2.2.1 2 x y = some t) (hz : z = if t = true then y else x)
    (hk : ip_good R p l e Rm s m args below meth c Q nL base Dg cI cZ cJ A ra (pc + 3, la, .inl z :: st, hp, mc, ms, fz)) : ip_good R p l e Rm s m args below meth c Q nL base Dg cI cZ cJ A ra (pc, la, .inl y :: .inl x :: st, hp, mc, ms, fz) := by
  intro ls s1 H locs h1 h2 h3
  obtain ⟨w, s2, rfl, ⟨v, rfl, hy⟩, h2'⟩ := ip_all2_cons h2
  clear h2
  have h2 := h2'
  clear h2'
  obtain ⟨w2, s2, rfl, ⟨u, rfl, hx⟩, h2'⟩ := ip_all2_cons h2
  clear h2
  have h2 := h2'
  clear h2'
  have hls : ls.size = c.maxLocals := by obtain ⟨-, lv, h4, -⟩ := h1; rw [C.2.2.2.1]; exact h4.1
  have hc := C.1.2.2.1 _ _ _ _ _ _ ht hx hy
  subst hcls
  refine va_mmax C.2.1 C.2.2.1 hls.symm C.2.2.2.2.1 (C.2.2.2.2.2.1 _ ip_mxL) (C.2.2.2.2.2.1 _ ip_mxS) (C.2.2.2.2.2.1 _ ip_mxI) (C.2.2.2.2.2.1 _ ip_mxC) hfr (by rw [ip_cat_eq h2]; omega) hrc hrs hd (hk ls _ H locs h1 ⟨⟨_, rfl, ?_⟩, h2⟩ h3)
  subst hz
  subst hc
  unfold ip_cI
  by_cases q : u < v
  · simp only [q, decide_true, if_true]; exact hy
  · simp only [q, decide_false, Bool.false_eq_true, if_false]; exact hx
end Steps3
