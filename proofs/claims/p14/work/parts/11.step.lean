section Steps4
variable {D : Type} {R : D → Int32 → Prop} {ops : ip_O D} {p : Program} {l : Launch} {e : Env} {Rm : Room} {s : State} {m : MethodId} {args : Array Value} {below : List Frame} {meth : Method} {c : Code} {Q : State → Prop} {bs : ByteArray} {cls kd nL base : Nat} {Dg : va_G} {cI cZ cJ : ClassId} {A : Nat → Prop} {ra : Nat → Nat} {ro : List (List D)}
variable {pc mc ms : Nat} {la : List (Option (ip_V D))} {st : List (ip_V D)} {hp : ip_Hp D} {fz : Bool}
theorem ip_bin_ok (C : ip_Cx R ops p s m args meth c bs cls kd nL Dg cI cZ cJ A ra ro) {i : Instr} {o : Nat} {f' : ip_Fr D} (hd : decode bs pc = .ok (i, 1)) (hi : (i = .iadd ∧ o = 0) ∨ (i = .isub ∧ o = 1) ∨ (i = .imul ∧ o = 2) ∨ (i = .idiv ∧ o = 3) ∨ (i = .irem ∧ o = 4) ∨ (i = .iand ∧ o = 5) ∨ (i = .ishr ∧ o = 6) ∨ (i = .iushr ∧ o = 7))
    (h : ip_bin ops o (pc + 1) (pc, la, st, hp, mc, ms, fz) = some (.inl f')) (hk : ip_good R p l e Rm s m args below meth c Q nL base Dg cI cZ cJ A ra f') : ip_good R p l e Rm s m args below meth c Q nL base Dg cI cZ cJ A ra (pc, la, st, hp, mc, ms, fz) := by
  unfold ip_bin at h
  split at h
  · rename_i heq
    cases heq
    split at h
    · cases h
      exact st_bin C hd hi (by assumption) hk
    · cases h
  · cases h
theorem ip_ast_ok (C : ip_Cx R ops p s m args meth c bs cls kd nL Dg cI cZ cJ A ra ro) {i : Instr} {k0 : Nat} {d : D} {v : ip_V D} {f' : ip_Fr D} (hd : decode bs pc = .ok (i, 1)) (hi : (i = .iastore ∧ k0 = 20 ∧ v = .inl d) ∨ (i = .bastore ∧ k0 = 21 ∧ v = .inl d ∧ ip_bit (ops.2.2.2 d) = true) ∨ (i = .lastore ∧ k0 = 22 ∧ v = .inr (.inl d)))
    (h : ip_ast ops k0 (pc + 1) v (pc, la, st, hp, mc, ms, fz) = some (.inl f')) (hk : ip_good R p l e Rm s m args below meth c Q nL base Dg cI cZ cJ A ra f') : ip_good R p l e Rm s m args below meth c Q nL base Dg cI cZ cJ A ra (pc, la, v :: st, hp, mc, ms, fz) := by
  unfold ip_ast at h
  split at h
  · rename_i heq
    cases heq
    split at h
    · rename_i kd' cs h1 h2
      cases hb : Nat.beq k0 kd' with
      | false => rw [hb] at h; cases h
      | true =>
        have e1 : k0 = kd' := Nat.eq_of_beq_eq_true hb
        subst e1
        rw [hb] at h
        dsimp only [cond_true] at h
        split at h
        · rename_i w h3
          cases h
          rcases hi with ⟨rfl, rfl, rfl⟩ | ⟨rfl, rfl, rfl, hb0⟩ | ⟨rfl, rfl, rfl⟩
          · exact st_iast C hd h1 h2 h3 hk
          · exact st_zast C hd hb0 h1 h2 h3 hk
          · exact st_last C hd h1 h2 h3 hk
        · cases h
    · cases h
  · cases h
theorem ip_ald_ok (C : ip_Cx R ops p s m args meth c bs cls kd nL Dg cI cZ cJ A ra ro) {i : Instr} {k0 : Nat} {f' : ip_Fr D} (hd : decode bs pc = .ok (i, 1)) (hi : (i = .iaload ∧ k0 = 20) ∨ (i = .baload ∧ k0 = 21) ∨ (i = .laload ∧ k0 = 22))
    (h : ip_ald ops k0 (pc + 1) (pc, la, st, hp, mc, ms, fz) = some (.inl f')) (hk : ip_good R p l e Rm s m args below meth c Q nL base Dg cI cZ cJ A ra f') : ip_good R p l e Rm s m args below meth c Q nL base Dg cI cZ cJ A ra (pc, la, st, hp, mc, ms, fz) := by
  unfold ip_ald at h
  split at h
  · rename_i heq
    cases heq
    split at h
    · rename_i kd' cs h1 h2
      cases hb : Nat.beq k0 kd' with
      | false => rw [hb] at h; cases h
      | true =>
        have e1 : k0 = kd' := Nat.eq_of_beq_eq_true hb
        subst e1
        rw [hb] at h
        dsimp only [cond_true] at h
        split at h
        · rename_i w h3
          cases h
          rcases hi with ⟨rfl, rfl⟩ | ⟨rfl, rfl⟩ | ⟨rfl, rfl⟩
          · exact st_iald C hd h1 h2 h3 hk
          · exact st_zald C hd h1 h2 h3 hk
          · exact st_lald C hd h1 h2 h3 hk
        · cases h
    · cases h
  · cases h
theorem ip_mka_ok (C : ip_Cx R ops p s m args meth c bs cls kd nL Dg cI cZ cJ A ra ro) {at0 : ArrayType} {k0 rc rs : Nat} {z : ip_V D} {f' : ip_Fr D} (hd : decode bs pc = .ok (.newarray at0, 2)) (hRc : Rm.cells = rc) (hRs : Rm.slots = rs) (hi : (at0 = .int ∧ k0 = 20 ∧ z = .inl (ops.1 0)) ∨ (at0 = .boolean ∧ k0 = 21 ∧ z = .inl (ops.1 0)) ∨ (at0 = .long ∧ k0 = 22 ∧ z = .inr (.inl (ops.1 0))))
    (h : ip_mka ops rc rs k0 z (pc + 2) (pc, la, st, hp, mc, ms, fz) = some (.inl f')) (hk : ip_good R p l e Rm s m args below meth c Q nL base Dg cI cZ cJ A ra f') : ip_good R p l e Rm s m args below meth c Q nL base Dg cI cZ cJ A ra (pc, la, st, hp, mc, ms, fz) := by
  unfold ip_mka at h
  split at h
  · rename_i heq
    cases heq
    split at h
    · rename_i N h1
      cases hb : (ip_ne hp mc && (Nat.ble (mc + 1) rc && (Nat.ble (ms + N) rs && Nat.ble N 1000))) with
      | false => rw [hb] at h; cases h
      | true =>
        rw [hb] at h
        cases h
        simp only [Bool.and_eq_true, Nat.ble_eq] at hb
        obtain ⟨hb1, hb2, hb3, hb4⟩ := hb
        have hrep : ∀ (y : ip_V D) (k : Nat) (v : ip_V D), (List.replicate N y)[k]? = some v → v = y := fun y k v hv => by
          have := List.mem_of_getElem? hv
          exact (List.mem_replicate.mp this).2
        rcases hi with ⟨rfl, rfl, rfl⟩ | ⟨rfl, rfl, rfl⟩ | ⟨rfl, rfl, rfl⟩
        · refine st_mka C (t0 := 0) (a0 := (N, .inl (fun _ => 0))) hd ip_acI h1 hb4 rfl (fun cA => rfl) (Or.inr (Or.inl ⟨rfl, _, by simp, fun k v hv => ⟨_, hrep _ k v hv, C.1.1 0⟩⟩)) hb1 (by rw [hRc]; exact hb2) (by rw [hRs]; exact hb3) hk
        · refine st_mka C (t0 := 1) (a0 := (N, .inl (fun _ => 0))) hd ip_acZ h1 hb4 rfl (fun cA => rfl) (Or.inr (Or.inr (Or.inl ⟨rfl, _, by simp, fun k v hv => ⟨_, hrep _ k v hv, C.1.1 0⟩⟩))) hb1 (by rw [hRc]; exact hb2) (by rw [hRs]; exact hb3) hk
        · refine st_mka C (t0 := 2) (a0 := (N, .inr (.inl (fun _ => 0)))) hd ip_acJ h1 hb4 rfl (fun cA => rfl) (Or.inr (Or.inr (Or.inr ⟨rfl, _, by simp, fun k v hv => ⟨_, 0, hrep _ k v hv, C.1.1 0, rfl⟩⟩))) hb1 (by rw [hRc]; exact hb2) (by rw [hRs]; exact hb3) hk
    · cases h
  · cases h
theorem ip_inv_no {a b nx : Nat} {f f' : ip_Fr D} (h : ip_inv a b nx f = some (.inl f')) : False := by
  unfold ip_inv at h
  split at h
  split at h
  · rename_i as st' h1
    cases hb : (ip_ne _ _ && Nat.ble (ip_cat st') 8) <;> rw [hb] at h <;> cases h
  · cases h
theorem ip_br_ok {t : Option Bool} {nx a : Nat} {f' : ip_Fr D} (h : ip_br t nx a la st hp mc ms fz = some (.inl f')) : ∃ b, t = some b ∧ f' = ((if b = true then a else nx), la, st, hp, mc, ms, fz) := by
  unfold ip_br at h
  split at h
  · cases h; exact ⟨true, rfl, rfl⟩
  · cases h; exact ⟨false, rfl, rfl⟩
  · cases h
set_option maxHeartbeats 4000000 in
theorem ip_step_ok (C : ip_Cx R ops p s m args meth c bs cls kd nL Dg cI cZ cJ A ra ro) {x : ip_E} {f' : ip_Fr D} {rc rs : Nat} {y : MethodName} {ret : Option FieldType} {pcode size : Nat} {z9 : Nat × Nat} (hRc : Rm.cells = rc) (hRs : Rm.slots = rs) (hok : ip_ok (y, bs, ret, cls, kd, pcode, Rm.frames, Rm.locals, size, z9) pc x = true)
    (h : ip_step ops ro rc rs x (pc, la, st, hp, mc, ms, fz) = some (.inl f')) (hk : ip_good R p l e Rm s m args below meth c Q nL base Dg cI cZ cJ A ra f') : ip_good R p l e Rm s m args below meth c Q nL base Dg cI cZ cJ A ra (pc, la, st, hp, mc, ms, fz) := by
  obtain ⟨i, nx, a, b, c0⟩ := x
  unfold ip_ok at hok
  dsimp only at hok
  rw [Bool.and_eq_true, Bool.and_eq_true, decide_eq_true_eq] at hok
  obtain ⟨⟨hdec, hln⟩, hok⟩ := hok
  have key : Nat.beq (ip_ln i) 0 = false → nx = pc + ip_ln i ∧ decode bs pc = .ok (i, ip_ln i) := by
    intro q
    rw [q, Bool.false_or] at hln
    have e1 := Nat.eq_of_beq_eq_true hln
    refine ⟨e1, ?_⟩
    rw [hdec, e1, Nat.add_sub_cancel_left]
  unfold ip_step at h
  dsimp only at h
  cases i with
  | iconst v =>
    unfold ip_sK at h
    obtain ⟨hn, hd⟩ := key rfl
    cases h
    exact st_const C hn hd (Or.inl ⟨v, rfl, rfl⟩) hk
  | bipush v =>
    unfold ip_sK at h
    obtain ⟨hn, hd⟩ := key rfl
    cases h
    exact st_const C hn hd (Or.inr (Or.inl ⟨v, rfl, rfl⟩)) hk
  | sipush v =>
    unfold ip_sK at h
    obtain ⟨hn, hd⟩ := key rfl
    cases h
    exact st_const C hn hd (Or.inr (Or.inr ⟨v, rfl, rfl⟩)) hk
  | iload k =>
    unfold ip_sLd at h
    obtain ⟨hn, hd⟩ := key rfl
    dsimp only at h
    split at h
    · cases h
      exact st_iload C hn hd (Or.inl rfl) (by assumption) hk
    · cases h
  | iload_n k =>
    unfold ip_sLd at h
    obtain ⟨hn, hd⟩ := key rfl
    dsimp only at h
    split at h
    · cases h
      exact st_iload C hn hd (Or.inr ⟨k, rfl, rfl⟩) (by assumption) hk
    · cases h
  | aload k =>
    unfold ip_sLa at h
    obtain ⟨hn, hd⟩ := key rfl
    dsimp only at h
    split at h
    · cases h
      refine st_aload C hn hd (Or.inl rfl) (by assumption) ?_ hk
      exact fun w hw => ⟨_, hw⟩
    · cases h
      refine st_aload C hn hd (Or.inl rfl) (by assumption) ?_ hk
      exact fun w hw => ⟨_, hw⟩
    · cases h
  | aload_n k =>
    unfold ip_sLa at h
    obtain ⟨hn, hd⟩ := key rfl
    dsimp only at h
    split at h
    · cases h
      refine st_aload C hn hd (Or.inr ⟨k, rfl, rfl⟩) (by assumption) ?_ hk
      exact fun w hw => ⟨_, hw⟩
    · cases h
      refine st_aload C hn hd (Or.inr ⟨k, rfl, rfl⟩) (by assumption) ?_ hk
      exact fun w hw => ⟨_, hw⟩
    · cases h
  | istore k =>
    unfold ip_sSt at h
    obtain ⟨hn, hd⟩ := key rfl
    dsimp only at h
    split at h
    · cases h
      exact st_istore C hn hd (Or.inl rfl) (by assumption) hk
    · cases h
  | istore_n k =>
    unfold ip_sSt at h
    obtain ⟨hn, hd⟩ := key rfl
    dsimp only at h
    split at h
    · cases h
      exact st_istore C hn hd (Or.inr ⟨k, rfl, rfl⟩) (by assumption) hk
    · cases h
  | astore k =>
    unfold ip_sSa at h
    obtain ⟨hn, hd⟩ := key rfl
    dsimp only at h
    split at h
    · cases h
      exact st_astore C hn hd (Or.inl rfl) (by assumption) hk
    · cases h
  | astore_n k =>
    unfold ip_sSa at h
    obtain ⟨hn, hd⟩ := key rfl
    dsimp only at h
    split at h
    · cases h
      exact st_astore C hn hd (Or.inr ⟨k, rfl, rfl⟩) (by assumption) hk
    · cases h
  | iinc k v =>
    unfold ip_sInc at h
    obtain ⟨hn, hd⟩ := key rfl
    subst hn
    dsimp only at h
    split at h
    · split at h
      · cases h
        exact st_iinc C hd (by assumption) (by assumption) hk
      · cases h
    · cases h
  | dup =>
    unfold ip_sDup at h
    obtain ⟨hn, hd⟩ := key rfl
    subst hn
    dsimp only at h
    split at h
    · rename_i v r
      cases hb : ip_one v with
      | false => rw [hb] at h; cases h
      | true => rw [hb] at h; cases h; exact st_dup C hd hb hk
    · cases h
  | dup2 =>
    unfold ip_sDu2 at h
    obtain ⟨hn, hd⟩ := key rfl
    subst hn
    dsimp only at h
    split at h
    · rename_i v w r
      cases hb : (ip_one v && ip_one w) with
      | false => rw [hb] at h; cases h
      | true =>
        rw [hb] at h
        cases h
        rw [Bool.and_eq_true] at hb
        exact st_dup2 C hd hb.1 hb.2 hk
    · cases h
  | pop =>
    unfold ip_sPop at h
    obtain ⟨hn, hd⟩ := key rfl
    subst hn
    dsimp only at h
    split at h
    · rename_i v r
      cases hb : ip_one v with
      | false => rw [hb] at h; cases h
      | true => rw [hb] at h; cases h; exact st_pop C hd hb hk
    · cases h
  | iadd =>
    obtain ⟨hn, hd⟩ := key rfl
    subst hn
    exact ip_bin_ok C hd (by simp) h hk
  | isub =>
    obtain ⟨hn, hd⟩ := key rfl
    subst hn
    exact ip_bin_ok C hd (by simp) h hk
  | imul =>
    obtain ⟨hn, hd⟩ := key rfl
    subst hn
    exact ip_bin_ok C hd (by simp) h hk
  | idiv =>
    obtain ⟨hn, hd⟩ := key rfl
    subst hn
    exact ip_bin_ok C hd (by simp) h hk
  | irem =>
    obtain ⟨hn, hd⟩ := key rfl
    subst hn
    exact ip_bin_ok C hd (by simp) h hk
  | iand =>
    obtain ⟨hn, hd⟩ := key rfl
    subst hn
    exact ip_bin_ok C hd (by simp) h hk
  | ishr =>
    obtain ⟨hn, hd⟩ := key rfl
    subst hn
    exact ip_bin_ok C hd (by simp) h hk
  | iushr =>
    obtain ⟨hn, hd⟩ := key rfl
    subst hn
    exact ip_bin_ok C hd (by simp) h hk
  | ineg =>
    unfold ip_sNeg at h
    obtain ⟨hn, hd⟩ := key rfl
    subst hn
    dsimp only at h
    split at h
    · split at h
      · cases h
        exact st_ineg C hd (by assumption) hk
      · cases h
    · cases h
  | i2l =>
    unfold ip_sI2l at h
    obtain ⟨hn, hd⟩ := key rfl
    subst hn
    dsimp only at h
    split at h
    · cases h
      exact st_i2l C hd hk
    · cases h
  | lcmp =>
    unfold ip_sLc at h
    obtain ⟨hn, hd⟩ := key rfl
    subst hn
    dsimp only at h
    split at h
    · split at h
      · cases h
        exact st_lcmp C hd (by assumption) hk
      · cases h
    · cases h
  | ifCond k off =>
    unfold ip_sIf at h
    obtain ⟨hn, hd⟩ := key rfl
    subst hn
    dsimp only at h hok
    rw [decide_eq_true_eq] at hok
    split at h
    · obtain ⟨t, h1, rfl⟩ := ip_br_ok h
      exact st_if C hd hok h1 hk
    · cases h
  | if_icmp k off =>
    unfold ip_sIc at h
    obtain ⟨hn, hd⟩ := key rfl
    subst hn
    dsimp only at h hok
    rw [decide_eq_true_eq] at hok
    split at h
    · obtain ⟨t, h1, rfl⟩ := ip_br_ok h
      exact st_icmp C hd hok h1 hk
    · cases h
  | goto off =>
    unfold ip_sGo at h
    obtain ⟨hn, hd⟩ := key rfl
    subst hn
    dsimp only at h hok
    rw [decide_eq_true_eq] at hok
    cases h
    exact st_goto C hd hok hk
  | tableswitch d lo hi offs =>
    unfold ip_sTs at h
    dsimp only at h
    split at h
    · split at h
      · split at h
        · split at h
          · cases h
            exact st_tsw C hdec (by assumption) (Or.inl ⟨by assumption, by assumption⟩) hk
          · cases h
        · split at h
          · split at h
            · cases h
              exact st_tsw C hdec (by assumption) (Or.inr ⟨by assumption, _, by assumption, by assumption⟩) hk
            · cases h
          · cases h
      · split at h
        · rename_i h1
          cases h
          obtain ⟨h2, h3, h4, h5⟩ := h1
          exact st_tsw2 C hdec h2 h3 h4 h5 hk
        · cases h
    · cases h
  | lookupswitch d ps =>
    unfold ip_sLs at h
    dsimp only at h
    split at h
    · split at h
      · split at h
        · rename_i h1
          cases h
          exact st_lsw C hdec (by assumption) h1.1 h1.2 hk
        · cases h
      · cases h
    · cases h
  | getfield q =>
    unfold ip_sGf at h
    obtain ⟨hn, hd⟩ := key rfl
    subst hn
    dsimp only at h hok
    split at h
    · split at h
      · rename_i kd' fs h1
        cases hb : Nat.beq kd' a with
        | false => rw [hb] at h; cases h
        | true =>
          have e1 := Nat.eq_of_beq_eq_true hb
          subst e1
          rw [hb] at h
          dsimp only [cond_true] at h
          split at h
          · cases h
            exact st_get C hd hok h1 (by assumption) hk
          · cases h
      · cases h
    · cases h
  | putfield q =>
    unfold ip_sPf at h
    obtain ⟨hn, hd⟩ := key rfl
    subst hn
    dsimp only at h hok
    rw [Bool.and_eq_true] at hok
    obtain ⟨hok1, hok2⟩ := hok
    split at h
    · split at h
      · rename_i kd' fs h1
        cases hb : Nat.beq kd' a with
        | false => rw [hb] at h; cases h
        | true =>
          have e1 := Nat.eq_of_beq_eq_true hb
          subst e1
          rw [hb] at h
          dsimp only [cond_true] at h
          split at h
          · rename_i v0 h2
            split at h
            · cases h
              simp only [Bool.and_eq_true, decide_eq_true_eq, Bool.not_eq_true'] at hok2
              exact st_put C hd hok1 h1 h2 (Or.inl hok2.2) (fun w hw => by obtain ⟨i, rfl, -⟩ := hw; rw [hok2.1]; exact ip_fitI i) hk
            · rename_i d
              cases hb2 : ip_bit (ops.2.2.2 d) with
              | false => rw [hb2] at h; cases h
              | true =>
                rw [hb2] at h
                cases h
                simp only [Bool.and_eq_true, decide_eq_true_eq, Bool.not_eq_true'] at hok2
                exact st_put C hd hok1 h1 h2 (Or.inl hok2.2) (fun w hw => by
                  obtain ⟨i, rfl, hi⟩ := hw
                  rw [hok2.1]
                  obtain ⟨bv, hb1, hb2⟩ := ip_bit_some hb2
                  have := C.1.2.2.2 _ _ _ hb1 hi
                  subst this
                  exact ip_fitZ hb2) hk
            · cases h
              simp only [Bool.and_eq_true, Nat.beq_eq] at hok2
              obtain ⟨o1, o2, o3, o4⟩ := hok2
              exact st_put C hd hok1 h1 h2 (Or.inr ⟨o2, o3, o4⟩) (fun w hw => by cases hw; exact ip_fitA o1 _) hk
            · cases h
          · cases h
      · cases h
    · cases h
  | getstatic q =>
    unfold ip_sGs at h
    obtain ⟨hn, hd⟩ := key rfl
    subst hn
    dsimp only at h hok
    cases h
    exact st_gets C hd hok hk
  | iaload =>
    unfold ip_sIal at h
    obtain ⟨hn, hd⟩ := key rfl
    subst hn
    dsimp only at h
    split at h
    · split at h
      · split at h
        · cases h
          exact st_roald C hd (by assumption) (by assumption) (by assumption) hk
        · cases h
      · cases h
    · exact ip_ald_ok C hd (by simp) h hk
  | baload =>
    obtain ⟨hn, hd⟩ := key rfl
    subst hn
    exact ip_ald_ok C hd (by simp) h hk
  | laload =>
    obtain ⟨hn, hd⟩ := key rfl
    subst hn
    exact ip_ald_ok C hd (by simp) h hk
  | iastore =>
    unfold ip_sIas at h
    obtain ⟨hn, hd⟩ := key rfl
    subst hn
    dsimp only at h
    split at h
    · rename_i d r
      exact ip_ast_ok C (d := d) hd (by simp) h hk
    · cases h
  | bastore =>
    unfold ip_sBas at h
    obtain ⟨hn, hd⟩ := key rfl
    subst hn
    dsimp only at h
    split at h
    · rename_i d r
      cases hb : ip_bit (ops.2.2.2 d) with
      | false => rw [hb] at h; cases h
      | true =>
        rw [hb] at h
        exact ip_ast_ok C (d := d) hd (by simp [hb]) h hk
    · cases h
  | lastore =>
    unfold ip_sLas at h
    obtain ⟨hn, hd⟩ := key rfl
    subst hn
    dsimp only at h
    split at h
    · rename_i d r
      exact ip_ast_ok C (d := d) hd (by simp) h hk
    · cases h
  | arraylength =>
    unfold ip_sLen at h
    obtain ⟨hn, hd⟩ := key rfl
    subst hn
    dsimp only at h
    split at h
    · split at h
      · cases h
        exact st_rolen C hd (by assumption) hk
      · cases h
    · cases h
  | newarray at0 =>
    obtain ⟨hn, hd⟩ := key rfl
    subst hn
    cases at0 with
    | int => exact ip_mka_ok C hd hRc hRs (by simp) h hk
    | boolean => exact ip_mka_ok C hd hRc hRs (by simp) h hk
    | long => exact ip_mka_ok C hd hRc hRs (by simp) h hk
    | _ => cases h
  | new q =>
    unfold ip_sNew at h
    obtain ⟨hn, hd⟩ := key rfl
    subst hn
    dsimp only at h hok
    split at h
    · cases hb : (ip_ne hp mc && (Nat.ble (mc + 1) rc && Nat.ble (ms + ip_N a) rs)) with
      | false => rw [hb] at h; cases h
      | true =>
        rw [hb] at h
        cases h
        simp only [Bool.and_eq_true, Nat.ble_eq] at hb
        exact st_new C hd hok hb.1 (by rw [hRc]; exact hb.2.1) (by rw [hRs]; exact hb.2.2) hk
    · cases h
  | invokevirtual q => exact (ip_inv_no h).elim
  | invokestatic q =>
    unfold ip_sIs at h
    obtain ⟨hn, hd⟩ := key rfl
    subst hn
    dsimp only at h hok
    split at h
    · split at h
      · rename_i yv xv r
        cases hb : (Nat.ble (ip_cat r) 8 && (Nat.ble mc rc && Nat.ble ms rs)) with
        | false => rw [hb] at h; cases h
        | true =>
          rw [hb] at h
          dsimp only [cond_true] at h
          simp only [Bool.and_eq_true, Nat.ble_eq] at hb
          simp only [Bool.and_eq_true, Nat.ble_eq, Nat.beq_eq] at hok
          obtain ⟨o1, o2, o3, o4⟩ := hok
          subst o2
          split at h
          · cases h
            exact st_max C (t := true) o1 hd o3 o4 hb.1 (by rw [hRc]; exact hb.2.1) (by rw [hRs]; exact hb.2.2) (by assumption) rfl hk
          · cases h
            exact st_max C (t := false) o1 hd o3 o4 hb.1 (by rw [hRc]; exact hb.2.1) (by rw [hRs]; exact hb.2.2) (by assumption) rfl hk
          · cases h
      · cases h
    · exact (ip_inv_no h).elim
  | invokespecial q =>
    unfold ip_sIp at h
    obtain ⟨hn, hd⟩ := key rfl
    subst hn
    dsimp only at h hok
    split at h
    · exact (ip_inv_no h).elim
    · split at h
      · rename_i k r
        cases hb : Nat.ble (ip_cat r) 8 with
        | false => rw [hb] at h; cases h
        | true =>
          rw [hb] at h
          cases h
          simp only [Bool.and_eq_true, Nat.ble_eq] at hok
          exact st_obj C hd hok.1 hok.2.1 hok.2.2 (Nat.le_of_ble_eq_true hb) hk
      · cases h
    · cases h
  | _ => cases h
end Steps4
