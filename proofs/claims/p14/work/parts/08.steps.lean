section Steps
variable {D : Type} {R : D → Int32 → Prop} {ops : ip_O D} {p : Program} {l : Launch} {e : Env} {Rm : Room} {s : State} {m : MethodId} {args : Array Value} {below : List Frame} {meth : Method} {c : Code} {Q : State → Prop} {bs : ByteArray} {cls kd nL base : Nat} {Dg : va_G} {cI cZ cJ : ClassId} {A : Nat → Prop} {ra : Nat → Nat} {ro : List (List D)}
variable {pc nx mc ms : Nat} {la : List (Option (ip_V D))} {st : List (ip_V D)} {hp : ip_Hp D} {fz : Bool}
theorem st_const (C : ip_Cx R ops p s m args meth c bs cls kd nL Dg cI cZ cJ A ra ro) {i : Instr} {v : Int32} (hn : nx = pc + ip_ln i) (hd : decode bs pc = .ok (i, ip_ln i)) (hi : (∃ n : Int, i = .iconst n ∧ v = Int32.ofInt n) ∨ (∃ n : Int, i = .bipush n ∧ v = (Int8.ofInt n).toInt32) ∨ ∃ n : Int, i = .sipush n ∧ v = (Int16.ofInt n).toInt32)
    (hk : ip_good R p l e Rm s m args below meth c Q nL base Dg cI cZ cJ A ra (nx, la, .inl (ops.1 v) :: st, hp, mc, ms, fz)) : ip_good R p l e Rm s m args below meth c Q nL base Dg cI cZ cJ A ra (pc, la, st, hp, mc, ms, fz) := by
  intro ls s1 H locs h1 h2 h3
  have hk := hk ls (.int v :: s1) H locs h1 ⟨⟨v, rfl, C.1.1 v⟩, h2⟩ h3
  subst hn
  rcases hi with ⟨n, rfl, rfl⟩ | ⟨n, rfl, rfl⟩ | ⟨n, rfl, rfl⟩
  · exact lv_iconst C.2.1 C.2.2.1 hd rfl hk
  · exact lv_bipush C.2.1 C.2.2.1 hd rfl hk
  · exact lv_sipush C.2.1 C.2.2.1 hd rfl hk
theorem st_iload (C : ip_Cx R ops p s m args meth c bs cls kd nL Dg cI cZ cJ A ra ro) {i : Instr} {k : Nat} {d : D} (hn : nx = pc + ip_ln i) (hd : decode bs pc = .ok (i, ip_ln i)) (hi : i = .iload k ∨ ∃ n : Fin 4, i = .iload_n n ∧ (n : Nat) = k) (hv : ip_nth la k = some (some (.inl d)))
    (hk : ip_good R p l e Rm s m args below meth c Q nL base Dg cI cZ cJ A ra (nx, la, .inl d :: st, hp, mc, ms, fz)) : ip_good R p l e Rm s m args below meth c Q nL base Dg cI cZ cJ A ra (pc, la, st, hp, mc, ms, fz) := by
  intro ls s1 H locs h1 h2 h3
  obtain ⟨w, ⟨x, rfl, hx⟩, hw⟩ := ip_mL_get h1 hv
  have hk := hk ls (.int x :: s1) H locs h1 ⟨⟨x, rfl, hx⟩, h2⟩ h3
  subst hn
  rcases hi with rfl | ⟨n, rfl, hn⟩
  · exact lv_iload C.2.1 C.2.2.1 hd hw hk
  · exact lv_iload_n C.2.1 C.2.2.1 hd hn hw hk
theorem st_aload (C : ip_Cx R ops p s m args meth c bs cls kd nL Dg cI cZ cJ A ra ro) {i : Instr} {k : Nat} {v : ip_V D} (hn : nx = pc + ip_ln i) (hd : decode bs pc = .ok (i, ip_ln i)) (hi : i = .aload k ∨ ∃ n : Fin 4, i = .aload_n n ∧ (n : Nat) = k) (hv : ip_nth la k = some (some v)) (hr : ∀ w, ip_gR R base ra v w → ∃ a, w = .ref a)
    (hk : ip_good R p l e Rm s m args below meth c Q nL base Dg cI cZ cJ A ra (nx, la, v :: st, hp, mc, ms, fz)) : ip_good R p l e Rm s m args below meth c Q nL base Dg cI cZ cJ A ra (pc, la, st, hp, mc, ms, fz) := by
  intro ls s1 H locs h1 h2 h3
  obtain ⟨w, hg, hw⟩ := ip_mL_get h1 hv
  obtain ⟨a, rfl⟩ := hr w hg
  have hk := hk ls (.ref a :: s1) H locs h1 ⟨hg, h2⟩ h3
  subst hn
  rcases hi with rfl | ⟨n, rfl, hn⟩
  · exact lv_aload C.2.1 C.2.2.1 hd hw hk
  · exact lv_aload_n C.2.1 C.2.2.1 hd hn hw hk
theorem st_istore (C : ip_Cx R ops p s m args meth c bs cls kd nL Dg cI cZ cJ A ra ro) {i : Instr} {k : Nat} {d : D} {o : Option (ip_V D)} (hn : nx = pc + ip_ln i) (hd : decode bs pc = .ok (i, ip_ln i)) (hi : i = .istore k ∨ ∃ n : Fin 4, i = .istore_n n ∧ (n : Nat) = k) (hv : ip_nth la k = some o)
    (hk : ip_good R p l e Rm s m args below meth c Q nL base Dg cI cZ cJ A ra (nx, ip_set la k (some (.inl d)), st, hp, mc, ms, fz)) : ip_good R p l e Rm s m args below meth c Q nL base Dg cI cZ cJ A ra (pc, la, .inl d :: st, hp, mc, ms, fz) := by
  intro ls s1 H locs h1 h2 h3
  obtain ⟨w, s2, rfl, ⟨x, rfl, hx⟩, h2'⟩ := ip_all2_cons h2
  clear h2
  have h2 := h2'
  clear h2'
  obtain ⟨hl, lv, h4, h5⟩ := h1
  have hlt : k < nL := by rw [← hl]; exact ip_lt_of hv
  subst hn
  rcases hi with rfl | ⟨n, rfl, hn⟩
  · exact lv_istore C.2.1 C.2.2.1 hd h4 hlt rfl (fun ls' h6 => hk ls' s2 H locs (ip_mL_set hl h5 ⟨x, rfl, hx⟩ rfl h6) h2 h3)
  · exact lv_istore_n C.2.1 C.2.2.1 hd hn h4 hlt rfl (fun ls' h6 => hk ls' s2 H locs (ip_mL_set hl h5 ⟨x, rfl, hx⟩ rfl h6) h2 h3)
theorem st_astore (C : ip_Cx R ops p s m args meth c bs cls kd nL Dg cI cZ cJ A ra ro) {i : Instr} {k q : Nat} {o : Option (ip_V D)} (hn : nx = pc + ip_ln i) (hd : decode bs pc = .ok (i, ip_ln i)) (hi : i = .astore k ∨ ∃ n : Fin 4, i = .astore_n n ∧ (n : Nat) = k) (hv : ip_nth la k = some o)
    (hk : ip_good R p l e Rm s m args below meth c Q nL base Dg cI cZ cJ A ra (nx, ip_set la k (some (.inr (.inr (.inl (some q))))), st, hp, mc, ms, fz)) : ip_good R p l e Rm s m args below meth c Q nL base Dg cI cZ cJ A ra (pc, la, .inr (.inr (.inl (some q))) :: st, hp, mc, ms, fz) := by
  intro ls s1 H locs h1 h2 h3
  obtain ⟨w, s2, rfl, hg, h2'⟩ := ip_all2_cons h2
  clear h2
  have h2 := h2'
  clear h2'
  cases hg
  obtain ⟨hl, lv, h4, h5⟩ := h1
  have hlt : k < nL := by rw [← hl]; exact ip_lt_of hv
  subst hn
  rcases hi with rfl | ⟨n, rfl, hn⟩
  · exact lv_astore C.2.1 C.2.2.1 hd h4 hlt rfl (fun ls' h6 => hk ls' s2 H locs (ip_mL_set (v := .inr (.inr (.inl (some q)))) hl h5 rfl rfl h6) h2 h3)
  · exact lv_astore_n C.2.1 C.2.2.1 hd hn h4 hlt rfl (fun ls' h6 => hk ls' s2 H locs (ip_mL_set (v := .inr (.inr (.inl (some q)))) hl h5 rfl rfl h6) h2 h3)
theorem st_iinc (C : ip_Cx R ops p s m args meth c bs cls kd nL Dg cI cZ cJ A ra ro) {k : Nat} {n : Int} {d z : D} (hd : decode bs pc = .ok (.iinc k n, 3)) (hv : ip_nth la k = some (some (.inl d))) (hz : ops.2.1 0 d (ops.1 (Int32.ofInt n)) = some z)
    (hk : ip_good R p l e Rm s m args below meth c Q nL base Dg cI cZ cJ A ra (pc + 3, ip_set la k (some (.inl z)), st, hp, mc, ms, fz)) : ip_good R p l e Rm s m args below meth c Q nL base Dg cI cZ cJ A ra (pc, la, st, hp, mc, ms, fz) := by
  intro ls s1 H locs h1 h2 h3
  obtain ⟨hl, lv, h4, h5⟩ := h1
  have hlt : k < nL := by rw [← hl]; exact ip_lt_of hv
  rw [ip_nth_eq] at hv
  obtain ⟨w, h6, -, x, rfl, hx⟩ := h5 k _ hv
  obtain ⟨i, hi⟩ := List.getElem?_of_mem h6
  have hz := (C.1.2.1 0 _ _ _ _ _ hz hx (C.1.1 _)).2
  exact lv_iinc C.2.1 C.2.2.1 hd h4 hi rfl hlt rfl (fun ls' h7 => hk ls' s1 H locs (ip_mL_set (v := .inl z) hl h5 ⟨_, rfl, hz⟩ rfl h7) h2 h3)
theorem st_dup (C : ip_Cx R ops p s m args meth c bs cls kd nL Dg cI cZ cJ A ra ro) {v : ip_V D} (hd : decode bs pc = .ok (.dup, 1)) (h0 : ip_one v = true) (hk : ip_good R p l e Rm s m args below meth c Q nL base Dg cI cZ cJ A ra (pc + 1, la, v :: v :: st, hp, mc, ms, fz)) : ip_good R p l e Rm s m args below meth c Q nL base Dg cI cZ cJ A ra (pc, la, v :: st, hp, mc, ms, fz) := by
  intro ls s1 H locs h1 h2 h3
  obtain ⟨w, s2, rfl, hg, h2'⟩ := ip_all2_cons h2
  clear h2
  have h2 := h2'
  clear h2'
  exact lv_dup C.2.1 C.2.2.1 hd (ip_one_cat h0 hg) (hk ls _ H locs h1 ⟨hg, hg, h2⟩ h3)
theorem st_pop (C : ip_Cx R ops p s m args meth c bs cls kd nL Dg cI cZ cJ A ra ro) {v : ip_V D} (hd : decode bs pc = .ok (.pop, 1)) (h0 : ip_one v = true) (hk : ip_good R p l e Rm s m args below meth c Q nL base Dg cI cZ cJ A ra (pc + 1, la, st, hp, mc, ms, fz)) : ip_good R p l e Rm s m args below meth c Q nL base Dg cI cZ cJ A ra (pc, la, v :: st, hp, mc, ms, fz) := by
  intro ls s1 H locs h1 h2 h3
  obtain ⟨w, s2, rfl, hg, h2'⟩ := ip_all2_cons h2
  clear h2
  have h2 := h2'
  clear h2'
  exact lv_pop C.2.1 C.2.2.1 hd (ip_one_cat h0 hg) (hk ls _ H locs h1 h2 h3)
theorem st_dup2 (C : ip_Cx R ops p s m args meth c bs cls kd nL Dg cI cZ cJ A ra ro) {v v2 : ip_V D} (hd : decode bs pc = .ok (.dup2, 1)) (h0 : ip_one v = true) (h00 : ip_one v2 = true) (hk : ip_good R p l e Rm s m args below meth c Q nL base Dg cI cZ cJ A ra (pc + 1, la, v :: v2 :: v :: v2 :: st, hp, mc, ms, fz)) : ip_good R p l e Rm s m args below meth c Q nL base Dg cI cZ cJ A ra (pc, la, v :: v2 :: st, hp, mc, ms, fz) := by
  intro ls s1 H locs h1 h2 h3
  obtain ⟨w, s2, rfl, hg, h2'⟩ := ip_all2_cons h2
  clear h2
  have h2 := h2'
  clear h2'
  obtain ⟨w2, s2, rfl, hg2, h2'⟩ := ip_all2_cons h2
  clear h2
  have h2 := h2'
  clear h2'
  exact lv_dup2_11 C.2.1 C.2.2.1 hd (ip_one_cat h0 hg) (ip_one_cat h00 hg2) (hk ls _ H locs h1 ⟨hg, hg2, hg, hg2, h2⟩ h3)
theorem st_bin (C : ip_Cx R ops p s m args meth c bs cls kd nL Dg cI cZ cJ A ra ro) {i : Instr} {o : Nat} {x y z : D} (hd : decode bs pc = .ok (i, 1)) (hi : (i = .iadd ∧ o = 0) ∨ (i = .isub ∧ o = 1) ∨ (i = .imul ∧ o = 2) ∨ (i = .idiv ∧ o = 3) ∨ (i = .irem ∧ o = 4) ∨ (i = .iand ∧ o = 5) ∨ (i = .ishr ∧ o = 6) ∨ (i = .iushr ∧ o = 7)) (hz : ops.2.1 o x y = some z)
    (hk : ip_good R p l e Rm s m args below meth c Q nL base Dg cI cZ cJ A ra (pc + 1, la, .inl z :: st, hp, mc, ms, fz)) : ip_good R p l e Rm s m args below meth c Q nL base Dg cI cZ cJ A ra (pc, la, .inl y :: .inl x :: st, hp, mc, ms, fz) := by
  intro ls s1 H locs h1 h2 h3
  obtain ⟨w, s2, rfl, ⟨v, rfl, hy⟩, h2'⟩ := ip_all2_cons h2
  clear h2
  have h2 := h2'
  clear h2'
  obtain ⟨w2, s2, rfl, ⟨u, rfl, hx⟩, h2'⟩ := ip_all2_cons h2
  clear h2
  have h2 := h2'
  clear h2'
  obtain ⟨hne, hz⟩ := C.1.2.1 _ _ _ _ _ _ hz hx hy
  have hk := hk ls (.int (ip_bI o u v) :: s2) H locs h1 ⟨⟨_, rfl, hz⟩, h2⟩ h3
  rcases hi with ⟨rfl, rfl⟩ | ⟨rfl, rfl⟩ | ⟨rfl, rfl⟩ | ⟨rfl, rfl⟩ | ⟨rfl, rfl⟩ | ⟨rfl, rfl⟩ | ⟨rfl, rfl⟩ | ⟨rfl, rfl⟩
  · exact lv_iadd C.2.1 C.2.2.1 hd hk
  · exact lv_isub C.2.1 C.2.2.1 hd hk
  · exact lv_imul C.2.1 C.2.2.1 hd hk
  · exact lv_idiv C.2.1 C.2.2.1 hd (hne (Or.inl rfl)) hk
  · exact lv_irem C.2.1 C.2.2.1 hd (hne (Or.inr rfl)) hk
  · exact lv_iand C.2.1 C.2.2.1 hd hk
  · exact lv_ishr C.2.1 C.2.2.1 hd hk
  · exact lv_iushr C.2.1 C.2.2.1 hd rfl hk
theorem st_ineg (C : ip_Cx R ops p s m args meth c bs cls kd nL Dg cI cZ cJ A ra ro) {x z : D} (hd : decode bs pc = .ok (.ineg, 1)) (hz : ops.2.1 8 x x = some z) (hk : ip_good R p l e Rm s m args below meth c Q nL base Dg cI cZ cJ A ra (pc + 1, la, .inl z :: st, hp, mc, ms, fz)) : ip_good R p l e Rm s m args below meth c Q nL base Dg cI cZ cJ A ra (pc, la, .inl x :: st, hp, mc, ms, fz) := by
  intro ls s1 H locs h1 h2 h3
  obtain ⟨w, s2, rfl, ⟨v, rfl, hy⟩, h2'⟩ := ip_all2_cons h2
  clear h2
  have h2 := h2'
  clear h2'
  exact lv_ineg C.2.1 C.2.2.1 hd (hk ls (.int (-v) :: s2) H locs h1 ⟨⟨_, rfl, (C.1.2.1 8 _ _ _ _ _ hz hy hy).2⟩, h2⟩ h3)
theorem st_i2l (C : ip_Cx R ops p s m args meth c bs cls kd nL Dg cI cZ cJ A ra ro) {x : D} (hd : decode bs pc = .ok (.i2l, 1)) (hk : ip_good R p l e Rm s m args below meth c Q nL base Dg cI cZ cJ A ra (pc + 1, la, .inr (.inl x) :: st, hp, mc, ms, fz)) : ip_good R p l e Rm s m args below meth c Q nL base Dg cI cZ cJ A ra (pc, la, .inl x :: st, hp, mc, ms, fz) := by
  intro ls s1 H locs h1 h2 h3
  obtain ⟨w, s2, rfl, ⟨v, rfl, hy⟩, h2'⟩ := ip_all2_cons h2
  clear h2
  have h2 := h2'
  clear h2'
  exact lv_i2l C.2.1 C.2.2.1 hd rfl (hk ls (.long v.toInt64 :: s2) H locs h1 ⟨⟨_, rfl, hy⟩, h2⟩ h3)
theorem st_lcmp (C : ip_Cx R ops p s m args meth c bs cls kd nL Dg cI cZ cJ A ra ro) {x y z : D} (hd : decode bs pc = .ok (.lcmp, 1)) (hz : ops.2.1 9 x y = some z) (hk : ip_good R p l e Rm s m args below meth c Q nL base Dg cI cZ cJ A ra (pc + 1, la, .inl z :: st, hp, mc, ms, fz)) : ip_good R p l e Rm s m args below meth c Q nL base Dg cI cZ cJ A ra (pc, la, .inr (.inl y) :: .inr (.inl x) :: st, hp, mc, ms, fz) := by
  intro ls s1 H locs h1 h2 h3
  obtain ⟨w, s2, rfl, ⟨v, rfl, hy⟩, h2'⟩ := ip_all2_cons h2
  clear h2
  have h2 := h2'
  clear h2'
  obtain ⟨w2, s2, rfl, ⟨u, rfl, hx⟩, h2'⟩ := ip_all2_cons h2
  clear h2
  have h2 := h2'
  clear h2'
  exact W.lcmp C.2.1 C.2.2.1 hd (hk ls _ H locs h1 ⟨⟨_, rfl, (C.1.2.1 9 _ _ _ _ _ hz hx hy).2⟩, h2⟩ h3)
theorem st_icmp (C : ip_Cx R ops p s m args meth c bs cls kd nL Dg cI cZ cJ A ra ro) {k : ClassFile.Cond} {off : Int} {a : Nat} {x y : D} {t : Bool} (hd : decode bs pc = .ok (.if_icmp k off, 3)) (ha : (pc : Int) + off = (a : Int)) (ht : ops.2.2.1 (ip_cc k) x y = some t)
    (hk : ip_good R p l e Rm s m args below meth c Q nL base Dg cI cZ cJ A ra ((if t = true then a else pc + 3), la, st, hp, mc, ms, fz)) : ip_good R p l e Rm s m args below meth c Q nL base Dg cI cZ cJ A ra (pc, la, .inl y :: .inl x :: st, hp, mc, ms, fz) := by
  intro ls s1 H locs h1 h2 h3
  obtain ⟨w, s2, rfl, ⟨v, rfl, hy⟩, h2'⟩ := ip_all2_cons h2
  clear h2
  have h2 := h2'
  clear h2'
  obtain ⟨w2, s2, rfl, ⟨u, rfl, hx⟩, h2'⟩ := ip_all2_cons h2
  clear h2
  have h2 := h2'
  clear h2'
  have hc := C.1.2.2.1 _ _ _ _ _ _ ht hx hy
  have hk := hk ls s2 H locs h1 h2 h3
  subst hc
  cases k
  · exact lv_icmp_eq C.2.1 C.2.2.1 hd ha (fun q => by simpa [ip_cc, ip_cI, q] using hk) (fun q => by simpa [ip_cc, ip_cI, q] using hk)
  · exact lv_icmp_ne C.2.1 C.2.2.1 hd ha (fun q => by simpa [ip_cc, ip_cI, q] using hk) (fun q => by simpa [ip_cc, ip_cI, q] using hk)
  · exact lv_icmp_lt C.2.1 C.2.2.1 hd ha (fun q => by simpa only [ip_cc, ip_cI, q, decide_true, decide_false, if_true, Bool.false_eq_true, if_false] using hk) (fun q => by simpa only [ip_cc, ip_cI, q, decide_true, decide_false, if_true, Bool.false_eq_true, if_false] using hk)
  · exact lv_icmp_ge C.2.1 C.2.2.1 hd ha (fun q => by simpa only [ip_cc, ip_cI, q, decide_true, decide_false, if_true, Bool.false_eq_true, if_false] using hk) (fun q => by simpa only [ip_cc, ip_cI, q, decide_true, decide_false, if_true, Bool.false_eq_true, if_false] using hk)
  · exact lv_icmp_gt C.2.1 C.2.2.1 hd ha (fun q => by simpa only [ip_cc, ip_cI, q, decide_true, decide_false, if_true, Bool.false_eq_true, if_false] using hk) (fun q => by simpa only [ip_cc, ip_cI, q, decide_true, decide_false, if_true, Bool.false_eq_true, if_false] using hk)
  · exact lv_icmp_le C.2.1 C.2.2.1 hd ha (fun q => by simpa only [ip_cc, ip_cI, q, decide_true, decide_false, if_true, Bool.false_eq_true, if_false] using hk) (fun q => by simpa only [ip_cc, ip_cI, q, decide_true, decide_false, if_true, Bool.false_eq_true, if_false] using hk)
theorem st_if (C : ip_Cx R ops p s m args meth c bs cls kd nL Dg cI cZ cJ A ra ro) {k : ClassFile.Cond} {off : Int} {a : Nat} {x : D} {t : Bool} (hd : decode bs pc = .ok (.ifCond k off, 3)) (ha : (pc : Int) + off = (a : Int)) (ht : ops.2.2.1 (ip_cc k) x (ops.1 0) = some t)
    (hk : ip_good R p l e Rm s m args below meth c Q nL base Dg cI cZ cJ A ra ((if t = true then a else pc + 3), la, st, hp, mc, ms, fz)) : ip_good R p l e Rm s m args below meth c Q nL base Dg cI cZ cJ A ra (pc, la, .inl x :: st, hp, mc, ms, fz) := by
  intro ls s1 H locs h1 h2 h3
  obtain ⟨w, s2, rfl, ⟨u, rfl, hx⟩, h2'⟩ := ip_all2_cons h2
  clear h2
  have h2 := h2'
  clear h2'
  have hc := C.1.2.2.1 _ _ _ _ _ _ ht hx (C.1.1 0)
  have hk := hk ls s2 H locs h1 h2 h3
  subst hc
  cases k
  · exact lv_if_eq C.2.1 C.2.2.1 hd ha (fun q => by simpa [ip_cc, ip_cI, q] using hk) (fun q => by simpa [ip_cc, ip_cI, q] using hk)
  · exact lv_if_ne C.2.1 C.2.2.1 hd ha (fun q => by simpa [ip_cc, ip_cI, q] using hk) (fun q => by simpa [ip_cc, ip_cI, q] using hk)
  · exact lv_if_lt C.2.1 C.2.2.1 hd ha (fun q => by simpa only [ip_cc, ip_cI, q, decide_true, decide_false, if_true, Bool.false_eq_true, if_false] using hk) (fun q => by simpa only [ip_cc, ip_cI, q, decide_true, decide_false, if_true, Bool.false_eq_true, if_false] using hk)
  · exact lv_if_ge C.2.1 C.2.2.1 hd ha (fun q => by simpa only [ip_cc, ip_cI, q, decide_true, decide_false, if_true, Bool.false_eq_true, if_false] using hk) (fun q => by simpa only [ip_cc, ip_cI, q, decide_true, decide_false, if_true, Bool.false_eq_true, if_false] using hk)
  · exact lv_if_gt C.2.1 C.2.2.1 hd ha (fun q => by simpa only [ip_cc, ip_cI, q, decide_true, decide_false, if_true, Bool.false_eq_true, if_false] using hk) (fun q => by simpa only [ip_cc, ip_cI, q, decide_true, decide_false, if_true, Bool.false_eq_true, if_false] using hk)
  · exact lv_if_le C.2.1 C.2.2.1 hd ha (fun q => by simpa only [ip_cc, ip_cI, q, decide_true, decide_false, if_true, Bool.false_eq_true, if_false] using hk) (fun q => by simpa only [ip_cc, ip_cI, q, decide_true, decide_false, if_true, Bool.false_eq_true, if_false] using hk)
theorem st_goto (C : ip_Cx R ops p s m args meth c bs cls kd nL Dg cI cZ cJ A ra ro) {off : Int} {a : Nat} (hd : decode bs pc = .ok (.goto off, 3)) (ha : (pc : Int) + off = (a : Int)) (hk : ip_good R p l e Rm s m args below meth c Q nL base Dg cI cZ cJ A ra (a, la, st, hp, mc, ms, fz)) : ip_good R p l e Rm s m args below meth c Q nL base Dg cI cZ cJ A ra (pc, la, st, hp, mc, ms, fz) := by
  intro ls s1 H locs h1 h2 h3
  exact lv_goto C.2.1 C.2.2.1 hd ha (hk ls s1 H locs h1 h2 h3)
theorem st_tsw (C : ip_Cx R ops p s m args meth c bs cls kd nL Dg cI cZ cJ A ra ro) {dflt lo hi : Int} {offs : Array Int} {len : Nat} {x : D} {v : Int32} (hd : decode bs pc = .ok (.tableswitch dflt lo hi offs, len)) (hv : ops.2.2.2 x = some v) {tgt : Nat}
    (ht : ((v.toInt < lo ∨ hi < v.toInt) ∧ (pc : Int) + dflt = (tgt : Int)) ∨ (¬ (v.toInt < lo ∨ hi < v.toInt) ∧ ∃ off, offs[(v.toInt - lo).toNat]? = some off ∧ (pc : Int) + off = (tgt : Int)))
    (hk : ip_good R p l e Rm s m args below meth c Q nL base Dg cI cZ cJ A ra (tgt, la, st, hp, mc, ms, fz)) : ip_good R p l e Rm s m args below meth c Q nL base Dg cI cZ cJ A ra (pc, la, .inl x :: st, hp, mc, ms, fz) := by
  intro ls s1 H locs h1 h2 h3
  obtain ⟨w, s2, rfl, ⟨u, rfl, hx⟩, h2'⟩ := ip_all2_cons h2
  clear h2
  have h2 := h2'
  clear h2'
  have hc := C.1.2.2.2 _ _ _ hv hx
  subst hc
  rcases ht with ⟨h4, h5⟩ | ⟨h4, off, h5, h6⟩
  · exact lv_tableOut C.2.1 C.2.2.1 hd h4 h5 (hk ls s2 H locs h1 h2 h3)
  · exact lv_tableIn C.2.1 C.2.2.1 hd (fun q => h4 (Or.inl q)) (fun q => h4 (Or.inr q)) h5 h6 (hk ls s2 H locs h1 h2 h3)
theorem st_tsw2 (C : ip_Cx R ops p s m args meth c bs cls kd nL Dg cI cZ cJ A ra ro) {dflt lo hi : Int} {offs : Array Int} {len : Nat} {x : D} (hd : decode bs pc = .ok (.tableswitch dflt lo hi offs, len)) {tgt : Nat} (ht : (pc : Int) + dflt = (tgt : Int)) (h3 : (Int32.ofInt lo).toInt = lo) (h4 : (Int32.ofInt hi).toInt = hi)
    (h5 : ops.2.2.1 2 x (ops.1 (Int32.ofInt lo)) = some true ∨ ops.2.2.1 4 x (ops.1 (Int32.ofInt hi)) = some true)
    (hk : ip_good R p l e Rm s m args below meth c Q nL base Dg cI cZ cJ A ra (tgt, la, st, hp, mc, ms, fz)) : ip_good R p l e Rm s m args below meth c Q nL base Dg cI cZ cJ A ra (pc, la, .inl x :: st, hp, mc, ms, fz) := by
  intro ls s1 H locs h1 h2 h3'
  obtain ⟨w, s2, rfl, ⟨u, rfl, hx⟩, h2'⟩ := ip_all2_cons h2
  clear h2
  have h2 := h2'
  clear h2'
  refine lv_tableOut C.2.1 C.2.2.1 hd ?_ ht (hk ls s2 H locs h1 h2 h3')
  rcases h5 with h5 | h5
  · have hc : decide (u < Int32.ofInt lo) = true := C.1.2.2.1 2 _ _ _ _ _ h5 hx (C.1.1 _)
    have hc := of_decide_eq_true hc
    rw [Int32.lt_iff_toInt_lt, h3] at hc
    exact Or.inl hc
  · have hc : decide (Int32.ofInt hi < u) = true := C.1.2.2.1 4 _ _ _ _ _ h5 hx (C.1.1 _)
    have hc := of_decide_eq_true hc
    rw [Int32.lt_iff_toInt_lt, h4] at hc
    exact Or.inr hc
theorem st_lsw (C : ip_Cx R ops p s m args meth c bs cls kd nL Dg cI cZ cJ A ra ro) {dflt : Int} {ps : Array (Int × Int)} {len : Nat} {x : D} {v : Int32} (hd : decode bs pc = .ok (.lookupswitch dflt ps, len)) (hv : ops.2.2.2 x = some v) {tgt : Nat}
    (hp1 : (ps.toList.zip (ps.toList.drop 1)).all (fun (a, next) => a.1 < next.1) = true) (ht : (pc : Int) + Op.lookupswitch.offset ps.toList dflt v.toInt = (tgt : Int))
    (hk : ip_good R p l e Rm s m args below meth c Q nL base Dg cI cZ cJ A ra (tgt, la, st, hp, mc, ms, fz)) : ip_good R p l e Rm s m args below meth c Q nL base Dg cI cZ cJ A ra (pc, la, .inl x :: st, hp, mc, ms, fz) := by
  intro ls s1 H locs h1 h2 h3
  obtain ⟨w, s2, rfl, ⟨u, rfl, hx⟩, h2'⟩ := ip_all2_cons h2
  clear h2
  have h2 := h2'
  clear h2'
  have hc := C.1.2.2.2 _ _ _ hv hx
  subst hc
  exact lv_lookup C.2.1 C.2.2.1 hd hp1 rfl ht (hk ls s2 H locs h1 h2 h3)
end Steps
