def ip_NPL : List Nat := [1, 0, 1, 1, 2, 2, 0, 1, 0, 1, 3, 0, 0, 0, 2, 0, 1, 0, 1, 1, 1, 0, 1, 1, 0, 2, 2, 2, 0, 1, 0, 2, 1, 0, 1, 2, 2, 1, 1, 1, 1, 1, 0, 0, 0, 0, 2, 2, 0, 1, 1, 2, 2, 1, 2, 2, 0, 3, 0, 0, 0, 1, 1, 0, 0, 0, 1, 0, 0, 0, 5, 1, 0, 0, 0, 2, 2, 0, 0, 1, 2, 2, 2, 3, 3, 2, 0, 3, 3, 1, 1, 2, 1, 2, 0, 0, 0, 0, 0, 1, 1, 1, 0, 1, 1, 2, 0, 0, 2, 2, 1, 1, 0, 0, 0, 1, 1, 1, 1, 1, 1, 3, 2, 0, 3, 2, 0, 2, 2, 0, 1, 1, 2, 2, 0, 0, 0, 1, 1, 1, 0, 1, 1, 2, 2, 2, 1, 0, 1, 5, 1, 0, 2, 0, 0, 0, 0, 0, 0, 0, 0, 0, 2, 2, 0, 0, 1, 1, 2, 3, 3, 2, 1, 2, 0, 3, 3, 2, 1, 3, 1, 1, 2, 1, 1, 2, 3, 2, 0, 0, 0, 0, 0, 0, 0, 0, 1, 2, 1, 1, 0, 1, 1, 2, 0, 4, 5, 1]
/-! the tables: what is checked of each instruction, by the machine's own decode and by the places of the words -/
def ip_G : List Cond := lw_tbl.filter goodWord
def ip_in (p : Nat) (w : Cond) : Bool := decide (lw_tbl[p]? = some w) && goodWord w
theorem ip_in_mem {p : Nat} {w : Cond} (h : ip_in p w = true) : w ∈ ip_G := by
  unfold ip_in at h
  rw [Bool.and_eq_true, decide_eq_true_eq] at h
  exact List.mem_filter.mpr ⟨List.mem_of_getElem? h.1, h.2⟩
def ip_isRef (t : FieldType) : Bool := match t with
  | .object _ => true
  | .array _ => true
  | _ => false
def ip_fl (cls x a b : Nat) : Bool := ip_FL.any (fun q => Nat.beq q.1 cls && (Nat.beq q.2.1 x && (Nat.beq q.2.2.1 a && Nat.beq q.2.2.2.1 b)))
def ip_kl (cls x a : Nat) : Bool := ip_KL.any (fun q => Nat.beq q.1 cls && (Nat.beq q.2.1 x && Nat.beq q.2.2.1 a))
/-- the callee's room in the caller's, its kind, its number of arguments -/
def ip_rk (fr lo a b kd : Nat) : Bool := match ip_ML[a]? with
  | none => false
  | some (y, _, _, _, kd', _, fr', lo', _) => Nat.beq kd kd' && (Nat.ble (fr' + 1) fr && (Nat.ble (8 + (ip_mx a + 11) + lo') lo && decide ((parseMethodDescriptor y.desc).map (fun d => d.parameters.length) = some b)))
/-- how long an instruction is (0: as decoded) -/
def ip_ln (i : Instr) : Nat := match i with
  | .bipush _ => 2
  | .sipush _ => 3
  | .iload _ => 2
  | .aload _ => 2
  | .istore _ => 2
  | .astore _ => 2
  | .iinc _ _ => 3
  | .ifCond _ _ => 3
  | .if_icmp _ _ => 3
  | .goto _ => 3
  | .getfield _ => 3
  | .putfield _ => 3
  | .getstatic _ => 3
  | .invokevirtual _ => 3
  | .invokestatic _ => 3
  | .invokespecial _ => 3
  | .new _ => 3
  | .newarray _ => 2
  | .ldc _ => 2
  | .tableswitch _ _ _ _ => 0
  | .lookupswitch _ _ => 0
  | _ => 1
def ip_ok (e : ip_ME) (pc : Nat) (x : Instr × Nat × Nat × Nat × Nat) : Bool :=
  match e, x with
  | (_, bs, ret, cls, kd, _, fr, lo, _), (i, nx, a, b, c) =>
    (decide (decode bs pc = .ok (i, nx - pc)) && (Nat.beq (ip_ln i) 0 || Nat.beq nx (pc + ip_ln i))) && (match i with
    | .getfield q => ip_fl cls q a b
    | .putfield q => ip_fl cls q a b && (match c with
      | 0 => decide (ip_Y a b = .int) && !(ip_F a b).2.2.2
      | 1 => decide (ip_Y a b = .boolean) && !(ip_F a b).2.2.2
      | _ => ip_isRef (ip_Y a b) && ((ip_F a b).2.2.2 && (Nat.beq a cls && Nat.beq kd 2)))
    | .getstatic q => ip_SL.any (fun z => Nat.beq z.1 cls && (Nat.beq z.2.1 q && Nat.beq z.2.2.1 a))
    | .ifCond _ off => decide ((pc : Int) + off = (a : Int))
    | .if_icmp _ off => decide ((pc : Int) + off = (a : Int))
    | .goto off => decide ((pc : Int) + off = (a : Int))
    | .invokevirtual q => (match c with
      | 0 => ip_kl cls q a && ip_rk fr lo a b 0
      | _ => ip_kl cls q a && ip_rk fr lo a b 0)
    | .invokestatic q => (match c with
      | 1 => ip_kl cls q a && ip_rk fr lo a b 1
      | 4 => Nat.beq cls 1 && (Nat.beq q 85 && (Nat.ble 1 fr && Nat.ble 24 lo))
      | _ => ip_kl cls q a && ip_rk fr lo a b 3)
    | .invokespecial q => (match c with
      | 2 => ip_kl cls q a && ip_rk fr lo a b 2
      | 3 => ip_OL.any (fun z => Nat.beq z.1 cls && Nat.beq z.2.1 q) && (Nat.ble 1 fr && Nat.ble 24 lo)
      | _ => true)
    | .new q => (match c with
      | 0 => ip_CL.any (fun z => Nat.beq z.1 cls && (Nat.beq z.2.1 q && Nat.beq z.2.2.1 a))
      | _ => true)
    | .ireturn => (match c with
      | 0 => decide (ret = some .int)
      | _ => decide (ret = some .boolean))
    | .areturn => (match ret with
      | some (.object _) => true
      | _ => false)
    | .return_ => decide (ret = none)
    | _ => true)
def ip_np (a : Nat) : Nat := ip_NPL.getD a 99
def ip_rk1 (fr lo a b kd : Nat) : Bool := match ip_ML[a]? with
  | none => false
  | some (_, _, _, _, kd', _, fr', lo', _) => Nat.beq kd kd' && (Nat.ble (fr' + 1) fr && (Nat.ble (8 + (ip_mx a + 11) + lo') lo && Nat.beq (ip_np a) b))
set_option maxRecDepth 20000 in
theorem ip_np_ok : (List.range 208).all (fun a => match ip_ML[a]? with
    | none => true
    | some e => decide ((parseMethodDescriptor e.1.desc).map (fun d => d.parameters.length) = some (ip_np a))) = true := by decide +kernel
theorem ip_rk_of1 {fr lo a b kd : Nat} (h : ip_rk1 fr lo a b kd = true) : ip_rk fr lo a b kd = true := by
  unfold ip_rk1 at h
  unfold ip_rk
  cases hm : ip_ML[a]? with
  | none => rw [hm] at h; exact h
  | some e =>
    rw [hm] at h
    obtain ⟨y, bs, ret, cls, kd', pcode, fr', lo', rest⟩ := e
    dsimp only at h ⊢
    simp only [Bool.and_eq_true, Nat.beq_eq, Nat.ble_eq] at h ⊢
    obtain ⟨h1, h2, h3, h4⟩ := h
    have hn : a < 208 := (List.getElem?_eq_some_iff.mp hm).1
    have h5 := List.all_eq_true.mp ip_np_ok a (List.mem_range.mpr hn)
    simp only [hm] at h5
    refine ⟨h1, h2, h3, ?_⟩
    rw [← h4]
    exact h5
theorem ip_and1 {p : Bool} {fr lo a b kd : Nat} (h : (p && ip_rk1 fr lo a b kd) = true) : (p && ip_rk fr lo a b kd) = true := by
  rw [Bool.and_eq_true] at h ⊢
  exact ⟨h.1, ip_rk_of1 h.2⟩
def ip_ok1 (e : ip_ME) (pc : Nat) (x : Instr × Nat × Nat × Nat × Nat) : Bool :=
  match e, x with
  | (_, bs, ret, cls, kd, _, fr, lo, _), (i, nx, a, b, c) =>
    (decide (decode bs pc = .ok (i, nx - pc)) && (Nat.beq (ip_ln i) 0 || Nat.beq nx (pc + ip_ln i))) && (match i with
    | .getfield q => ip_fl cls q a b
    | .putfield q => ip_fl cls q a b && (match c with
      | 0 => decide (ip_Y a b = .int) && !(ip_F a b).2.2.2
      | 1 => decide (ip_Y a b = .boolean) && !(ip_F a b).2.2.2
      | _ => ip_isRef (ip_Y a b) && ((ip_F a b).2.2.2 && (Nat.beq a cls && Nat.beq kd 2)))
    | .getstatic q => ip_SL.any (fun z => Nat.beq z.1 cls && (Nat.beq z.2.1 q && Nat.beq z.2.2.1 a))
    | .ifCond _ off => decide ((pc : Int) + off = (a : Int))
    | .if_icmp _ off => decide ((pc : Int) + off = (a : Int))
    | .goto off => decide ((pc : Int) + off = (a : Int))
    | .invokevirtual q => (match c with
      | 0 => ip_kl cls q a && ip_rk1 fr lo a b 0
      | _ => ip_kl cls q a && ip_rk1 fr lo a b 0)
    | .invokestatic q => (match c with
      | 1 => ip_kl cls q a && ip_rk1 fr lo a b 1
      | 4 => Nat.beq cls 1 && (Nat.beq q 85 && (Nat.ble 1 fr && Nat.ble 24 lo))
      | _ => ip_kl cls q a && ip_rk1 fr lo a b 3)
    | .invokespecial q => (match c with
      | 2 => ip_kl cls q a && ip_rk1 fr lo a b 2
      | 3 => ip_OL.any (fun z => Nat.beq z.1 cls && Nat.beq z.2.1 q) && (Nat.ble 1 fr && Nat.ble 24 lo)
      | _ => true)
    | .new q => (match c with
      | 0 => ip_CL.any (fun z => Nat.beq z.1 cls && (Nat.beq z.2.1 q && Nat.beq z.2.2.1 a))
      | _ => true)
    | .ireturn => (match c with
      | 0 => decide (ret = some .int)
      | _ => decide (ret = some .boolean))
    | .areturn => (match ret with
      | some (.object _) => true
      | _ => false)
    | .return_ => decide (ret = none)
    | _ => true)
theorem ip_ok_of1 {e : ip_ME} {pc : Nat} {x : Instr × Nat × Nat × Nat × Nat} (h : ip_ok1 e pc x = true) : ip_ok e pc x = true := by
  obtain ⟨y, bs, ret, cls, kd, pcode, fr, lo, sz⟩ := e
  obtain ⟨i, nx, a, b, c⟩ := x
  unfold ip_ok1 at h
  unfold ip_ok
  dsimp only at h ⊢
  rw [Bool.and_eq_true] at h ⊢
  refine ⟨h.1, ?_⟩
  have h2 := h.2
  clear h
  cases i
  case invokevirtual q =>
    rcases c with _ | c
    · exact ip_and1 h2
    · exact ip_and1 h2
  case invokestatic q =>
    rcases c with _ | _ | _ | _ | _ | c
    · exact ip_and1 h2
    · exact ip_and1 h2
    · exact ip_and1 h2
    · exact ip_and1 h2
    · exact h2
    · exact ip_and1 h2
  case invokespecial q =>
    rcases c with _ | _ | _ | _ | c
    · exact h2
    · exact h2
    · exact ip_and1 h2
    · exact h2
    · exact h2
  all_goals exact h2
theorem tz_c {α : Type} {b : Bool} {x : Option α} (h : b = true) : (bif b then none else x) = none := by
  rw [h]
  rfl
noncomputable def ip_ok2 (e : ip_ME) (s : List UInt8) (pc : Nat) (x : Instr × Nat × Nat × Nat × Nat) : Bool :=
  match e, x with
  | (_, bs, ret, cls, kd, _, fr, lo, _), (i, nx, a, b, c) =>
    ((dk_ok s i (nx - pc) || decide (decode bs pc = .ok (i, nx - pc))) && (Nat.beq (ip_ln i) 0 || Nat.beq nx (pc + ip_ln i))) && (match i with
    | .getfield q => ip_fl cls q a b
    | .putfield q => ip_fl cls q a b && (match c with
      | 0 => decide (ip_Y a b = .int) && !(ip_F a b).2.2.2
      | 1 => decide (ip_Y a b = .boolean) && !(ip_F a b).2.2.2
      | _ => ip_isRef (ip_Y a b) && ((ip_F a b).2.2.2 && (Nat.beq a cls && Nat.beq kd 2)))
    | .getstatic q => ip_SL.any (fun z => Nat.beq z.1 cls && (Nat.beq z.2.1 q && Nat.beq z.2.2.1 a))
    | .ifCond _ off => decide ((pc : Int) + off = (a : Int))
    | .if_icmp _ off => decide ((pc : Int) + off = (a : Int))
    | .goto off => decide ((pc : Int) + off = (a : Int))
    | .invokevirtual q => (match c with
      | 0 => ip_kl cls q a && ip_rk1 fr lo a b 0
      | _ => ip_kl cls q a && ip_rk1 fr lo a b 0)
    | .invokestatic q => (match c with
      | 1 => ip_kl cls q a && ip_rk1 fr lo a b 1
      | 4 => Nat.beq cls 1 && (Nat.beq q 85 && (Nat.ble 1 fr && Nat.ble 24 lo))
      | _ => ip_kl cls q a && ip_rk1 fr lo a b 3)
    | .invokespecial q => (match c with
      | 2 => ip_kl cls q a && ip_rk1 fr lo a b 2
      | 3 => ip_OL.any (fun z => Nat.beq z.1 cls && Nat.beq z.2.1 q) && (Nat.ble 1 fr && Nat.ble 24 lo)
      | _ => true)
    | .new q => (match c with
      | 0 => ip_CL.any (fun z => Nat.beq z.1 cls && (Nat.beq z.2.1 q && Nat.beq z.2.2.1 a))
      | _ => true)
    | .ireturn => (match c with
      | 0 => decide (ret = some .int)
      | _ => decide (ret = some .boolean))
    | .areturn => (match ret with
      | some (.object _) => true
      | _ => false)
    | .return_ => decide (ret = none)
    | _ => true)
theorem ip_ok_of2 {e : ip_ME} {s : List UInt8} {pc : Nat} {x : Instr × Nat × Nat × Nat × Nat} (hs : e.2.1.data.toList.drop pc = s) (h : ip_ok2 e s pc x = true) : ip_ok1 e pc x = true := by
  obtain ⟨y, bs, ret, cls, kd, pcode, fr, lo, sz⟩ := e
  obtain ⟨i, nx, a, b, c⟩ := x
  obtain ⟨⟨l⟩⟩ := bs
  unfold ip_ok2 at h
  unfold ip_ok1
  dsimp only at h hs ⊢
  rw [Bool.and_eq_true, Bool.and_eq_true] at h ⊢
  refine ⟨⟨?_, h.1.2⟩, h.2⟩
  rcases (Bool.or_eq_true _ _).mp h.1.1 with z | z
  · exact decide_eq_true (dk_ok_dec hs z)
  · exact z
noncomputable def ip_wk (j : Nat) (e : ip_ME) (l : List UInt8) : Nat → Bool := List.rec (motive := fun _ => Nat → Bool) (fun _ => true) (fun b r ih pc => (match ip_T j pc with
    | none => true
    | some x => ip_ok2 e (b :: r) pc x) && ih (pc + 1)) l
theorem ip_wk_ok {j : Nat} {e : ip_ME} : ∀ (l : List UInt8) (p : Nat), e.2.1.data.toList.drop p = l → ip_wk j e l p = true → ∀ (pc : Nat) (x : Instr × Nat × Nat × Nat × Nat), p ≤ pc → pc < p + l.length → ip_T j pc = some x → ip_ok1 e pc x = true := by
  intro l
  induction l with
  | nil => intro p _ _ pc x h1 h2; rw [List.length_nil] at h2; omega
  | cons b r ih =>
    intro p hd h pc x h1 h2 hx
    have h : ((match ip_T j p with
      | none => true
      | some x => ip_ok2 e (b :: r) p x) && ip_wk j e r (p + 1)) = true := h
    rw [Bool.and_eq_true] at h
    rw [List.length_cons] at h2
    by_cases c : pc = p
    · subst c
      have h3 := h.1
      simp only [hx] at h3
      exact ip_ok_of2 hd h3
    · exact ih (p + 1) (dk_s hd) h.2 pc x (by omega) (by omega) hx
noncomputable def ip_chk (j : Nat) : Bool := match ip_ML[j]? with
  | none => false
  | some e => Nat.ble e.2.2.2.2.2.2.2.2.1 e.2.1.data.toList.length && ip_wk j e e.2.1.data.toList 0
theorem ip_chk_of {j pc : Nat} {e : ip_ME} {x : Instr × Nat × Nat × Nat × Nat} (h : ip_chk j = true) (he : ip_ML[j]? = some e) (hx : ip_T j pc = some x) (hp : pc < e.2.2.2.2.2.2.2.2.1) : ip_ok e pc x = true := by
  unfold ip_chk at h
  rw [he] at h
  dsimp only at h
  rw [Bool.and_eq_true, Nat.ble_eq] at h
  exact ip_ok_of1 (ip_wk_ok e.2.1.data.toList 0 List.drop_zero h.2 pc x (Nat.zero_le _) (by omega) hx)
set_option maxRecDepth 20000 in
theorem tk_0 : ip_chk 0 = true := by decide +kernel
set_option maxRecDepth 20000 in
theorem tk_1 : ip_chk 1 = true := by decide +kernel
set_option maxRecDepth 20000 in
theorem tk_2 : ip_chk 2 = true := by decide +kernel
set_option maxRecDepth 20000 in
theorem tk_3 : ip_chk 3 = true := by decide +kernel
set_option maxRecDepth 20000 in
theorem tk_4 : ip_chk 4 = true := by decide +kernel
set_option maxRecDepth 20000 in
theorem tk_5 : ip_chk 5 = true := by decide +kernel
set_option maxRecDepth 20000 in
theorem tk_6 : ip_chk 6 = true := by decide +kernel
set_option maxRecDepth 20000 in
theorem tk_7 : ip_chk 7 = true := by decide +kernel
set_option maxRecDepth 20000 in
theorem tk_8 : ip_chk 8 = true := by decide +kernel
set_option maxRecDepth 20000 in
theorem tk_9 : ip_chk 9 = true := by decide +kernel
set_option maxRecDepth 20000 in
theorem tk_10 : ip_chk 10 = true := by decide +kernel
set_option maxRecDepth 20000 in
theorem tk_11 : ip_chk 11 = true := by decide +kernel
set_option maxRecDepth 20000 in
theorem tk_12 : ip_chk 12 = true := by decide +kernel
set_option maxRecDepth 20000 in
theorem tk_13 : ip_chk 13 = true := by decide +kernel
set_option maxRecDepth 20000 in
theorem tk_14 : ip_chk 14 = true := by decide +kernel
set_option maxRecDepth 20000 in
theorem tk_15 : ip_chk 15 = true := by decide +kernel
set_option maxRecDepth 20000 in
theorem tk_16 : ip_chk 16 = true := by decide +kernel
set_option maxRecDepth 20000 in
theorem tk_17 : ip_chk 17 = true := by decide +kernel
set_option maxRecDepth 20000 in
theorem tk_18 : ip_chk 18 = true := by decide +kernel
set_option maxRecDepth 20000 in
theorem tk_19 : ip_chk 19 = true := by decide +kernel
set_option maxRecDepth 20000 in
theorem tk_20 : ip_chk 20 = true := by decide +kernel
set_option maxRecDepth 20000 in
theorem tk_21 : ip_chk 21 = true := by decide +kernel
set_option maxRecDepth 20000 in
theorem tk_22 : ip_chk 22 = true := by decide +kernel
set_option maxRecDepth 20000 in
theorem tk_23 : ip_chk 23 = true := by decide +kernel
set_option maxRecDepth 20000 in
theorem tk_24 : ip_chk 24 = true := by decide +kernel
set_option maxRecDepth 20000 in
theorem tk_25 : ip_chk 25 = true := by decide +kernel
set_option maxRecDepth 20000 in
theorem tk_26 : ip_chk 26 = true := by decide +kernel
set_option maxRecDepth 20000 in
theorem tk_27 : ip_chk 27 = true := by decide +kernel
set_option maxRecDepth 20000 in
theorem tk_28 : ip_chk 28 = true := by decide +kernel
set_option maxRecDepth 20000 in
theorem tk_29 : ip_chk 29 = true := by decide +kernel
set_option maxRecDepth 20000 in
theorem tk_30 : ip_chk 30 = true := by decide +kernel
set_option maxRecDepth 20000 in
theorem tk_31 : ip_chk 31 = true := by decide +kernel
set_option maxRecDepth 20000 in
theorem tk_32 : ip_chk 32 = true := by decide +kernel
set_option maxRecDepth 20000 in
theorem tk_33 : ip_chk 33 = true := by decide +kernel
set_option maxRecDepth 20000 in
theorem tk_34 : ip_chk 34 = true := by decide +kernel
set_option maxRecDepth 20000 in
theorem tk_35 : ip_chk 35 = true := by decide +kernel
set_option maxRecDepth 20000 in
theorem tk_36 : ip_chk 36 = true := by decide +kernel
set_option maxRecDepth 20000 in
theorem tk_37 : ip_chk 37 = true := by decide +kernel
set_option maxRecDepth 20000 in
theorem tk_38 : ip_chk 38 = true := by decide +kernel
set_option maxRecDepth 20000 in
theorem tk_39 : ip_chk 39 = true := by decide +kernel
set_option maxRecDepth 20000 in
theorem tk_40 : ip_chk 40 = true := by decide +kernel
set_option maxRecDepth 20000 in
theorem tk_41 : ip_chk 41 = true := by decide +kernel
set_option maxRecDepth 20000 in
theorem tk_42 : ip_chk 42 = true := by decide +kernel
set_option maxRecDepth 20000 in
theorem tk_43 : ip_chk 43 = true := by decide +kernel
set_option maxRecDepth 20000 in
theorem tk_44 : ip_chk 44 = true := by decide +kernel
set_option maxRecDepth 20000 in
theorem tk_45 : ip_chk 45 = true := by decide +kernel
set_option maxRecDepth 20000 in
theorem tk_46 : ip_chk 46 = true := by decide +kernel
set_option maxRecDepth 20000 in
theorem tk_47 : ip_chk 47 = true := by decide +kernel
set_option maxRecDepth 20000 in
theorem tk_48 : ip_chk 48 = true := by decide +kernel
set_option maxRecDepth 20000 in
theorem tk_49 : ip_chk 49 = true := by decide +kernel
set_option maxRecDepth 20000 in
theorem tk_50 : ip_chk 50 = true := by decide +kernel
set_option maxRecDepth 20000 in
theorem tk_51 : ip_chk 51 = true := by decide +kernel
set_option maxRecDepth 20000 in
theorem tk_52 : ip_chk 52 = true := by decide +kernel
set_option maxRecDepth 20000 in
theorem tk_53 : ip_chk 53 = true := by decide +kernel
set_option maxRecDepth 20000 in
theorem tk_54 : ip_chk 54 = true := by decide +kernel
set_option maxRecDepth 20000 in
theorem tk_55 : ip_chk 55 = true := by decide +kernel
set_option maxRecDepth 20000 in
theorem tk_56 : ip_chk 56 = true := by decide +kernel
set_option maxRecDepth 20000 in
theorem tk_57 : ip_chk 57 = true := by decide +kernel
set_option maxRecDepth 20000 in
theorem tk_58 : ip_chk 58 = true := by decide +kernel
set_option maxRecDepth 20000 in
theorem tk_59 : ip_chk 59 = true := by decide +kernel
set_option maxRecDepth 20000 in
theorem tk_60 : ip_chk 60 = true := by decide +kernel
set_option maxRecDepth 20000 in
theorem tk_61 : ip_chk 61 = true := by decide +kernel
set_option maxRecDepth 20000 in
theorem tk_62 : ip_chk 62 = true := by decide +kernel
set_option maxRecDepth 20000 in
theorem tk_63 : ip_chk 63 = true := by decide +kernel
set_option maxRecDepth 20000 in
theorem tk_64 : ip_chk 64 = true := by decide +kernel
set_option maxRecDepth 20000 in
theorem tk_65 : ip_chk 65 = true := by decide +kernel
set_option maxRecDepth 20000 in
theorem tk_66 : ip_chk 66 = true := by decide +kernel
set_option maxRecDepth 20000 in
theorem tk_67 : ip_chk 67 = true := by decide +kernel
set_option maxRecDepth 20000 in
theorem tk_68 : ip_chk 68 = true := by decide +kernel
set_option maxRecDepth 20000 in
theorem tk_69 : ip_chk 69 = true := by decide +kernel
set_option maxRecDepth 20000 in
theorem tk_70 : ip_chk 70 = true := by decide +kernel
set_option maxRecDepth 20000 in
theorem tk_71 : ip_chk 71 = true := by decide +kernel
set_option maxRecDepth 20000 in
theorem tk_72 : ip_chk 72 = true := by decide +kernel
set_option maxRecDepth 20000 in
theorem tk_73 : ip_chk 73 = true := by decide +kernel
set_option maxRecDepth 20000 in
theorem tk_74 : ip_chk 74 = true := by decide +kernel
set_option maxRecDepth 20000 in
theorem tk_75 : ip_chk 75 = true := by decide +kernel
set_option maxRecDepth 20000 in
theorem tk_76 : ip_chk 76 = true := by decide +kernel
set_option maxRecDepth 20000 in
theorem tk_77 : ip_chk 77 = true := by decide +kernel
set_option maxRecDepth 20000 in
theorem tk_78 : ip_chk 78 = true := by decide +kernel
set_option maxRecDepth 20000 in
theorem tk_79 : ip_chk 79 = true := by decide +kernel
set_option maxRecDepth 20000 in
theorem tk_80 : ip_chk 80 = true := by decide +kernel
set_option maxRecDepth 20000 in
theorem tk_81 : ip_chk 81 = true := by decide +kernel
set_option maxRecDepth 20000 in
theorem tk_82 : ip_chk 82 = true := by decide +kernel
set_option maxRecDepth 20000 in
theorem tk_83 : ip_chk 83 = true := by decide +kernel
set_option maxRecDepth 20000 in
theorem tk_84 : ip_chk 84 = true := by decide +kernel
set_option maxRecDepth 20000 in
theorem tk_85 : ip_chk 85 = true := by decide +kernel
set_option maxRecDepth 20000 in
theorem tk_86 : ip_chk 86 = true := by decide +kernel
set_option maxRecDepth 20000 in
theorem tk_87 : ip_chk 87 = true := by decide +kernel
set_option maxRecDepth 20000 in
theorem tk_88 : ip_chk 88 = true := by decide +kernel
set_option maxRecDepth 20000 in
theorem tk_89 : ip_chk 89 = true := by decide +kernel
set_option maxRecDepth 20000 in
theorem tk_90 : ip_chk 90 = true := by decide +kernel
set_option maxRecDepth 20000 in
theorem tk_91 : ip_chk 91 = true := by decide +kernel
set_option maxRecDepth 20000 in
theorem tk_92 : ip_chk 92 = true := by decide +kernel
set_option maxRecDepth 20000 in
theorem tk_93 : ip_chk 93 = true := by decide +kernel
set_option maxRecDepth 20000 in
theorem tk_94 : ip_chk 94 = true := by decide +kernel
set_option maxRecDepth 20000 in
theorem tk_95 : ip_chk 95 = true := by decide +kernel
set_option maxRecDepth 20000 in
theorem tk_96 : ip_chk 96 = true := by decide +kernel
set_option maxRecDepth 20000 in
theorem tk_97 : ip_chk 97 = true := by decide +kernel
set_option maxRecDepth 20000 in
theorem tk_98 : ip_chk 98 = true := by decide +kernel
set_option maxRecDepth 20000 in
theorem tk_99 : ip_chk 99 = true := by decide +kernel
set_option maxRecDepth 20000 in
theorem tk_100 : ip_chk 100 = true := by decide +kernel
set_option maxRecDepth 20000 in
theorem tk_101 : ip_chk 101 = true := by decide +kernel
set_option maxRecDepth 20000 in
theorem tk_102 : ip_chk 102 = true := by decide +kernel
set_option maxRecDepth 20000 in
theorem tk_103 : ip_chk 103 = true := by decide +kernel
set_option maxRecDepth 20000 in
theorem tk_104 : ip_chk 104 = true := by decide +kernel
set_option maxRecDepth 20000 in
theorem tk_105 : ip_chk 105 = true := by decide +kernel
set_option maxRecDepth 20000 in
theorem tk_106 : ip_chk 106 = true := by decide +kernel
set_option maxRecDepth 20000 in
theorem tk_107 : ip_chk 107 = true := by decide +kernel
set_option maxRecDepth 20000 in
theorem tk_108 : ip_chk 108 = true := by decide +kernel
set_option maxRecDepth 20000 in
theorem tk_109 : ip_chk 109 = true := by decide +kernel
set_option maxRecDepth 20000 in
theorem tk_110 : ip_chk 110 = true := by decide +kernel
set_option maxRecDepth 20000 in
theorem tk_111 : ip_chk 111 = true := by decide +kernel
set_option maxRecDepth 20000 in
theorem tk_112 : ip_chk 112 = true := by decide +kernel
set_option maxRecDepth 20000 in
theorem tk_113 : ip_chk 113 = true := by decide +kernel
set_option maxRecDepth 20000 in
theorem tk_114 : ip_chk 114 = true := by decide +kernel
set_option maxRecDepth 20000 in
theorem tk_115 : ip_chk 115 = true := by decide +kernel
set_option maxRecDepth 20000 in
theorem tk_116 : ip_chk 116 = true := by decide +kernel
set_option maxRecDepth 20000 in
theorem tk_117 : ip_chk 117 = true := by decide +kernel
set_option maxRecDepth 20000 in
theorem tk_118 : ip_chk 118 = true := by decide +kernel
set_option maxRecDepth 20000 in
theorem tk_119 : ip_chk 119 = true := by decide +kernel
set_option maxRecDepth 20000 in
theorem tk_120 : ip_chk 120 = true := by decide +kernel
set_option maxRecDepth 20000 in
theorem tk_121 : ip_chk 121 = true := by decide +kernel
set_option maxRecDepth 20000 in
theorem tk_122 : ip_chk 122 = true := by decide +kernel
set_option maxRecDepth 20000 in
theorem tk_123 : ip_chk 123 = true := by decide +kernel
set_option maxRecDepth 20000 in
theorem tk_124 : ip_chk 124 = true := by decide +kernel
set_option maxRecDepth 20000 in
theorem tk_125 : ip_chk 125 = true := by decide +kernel
set_option maxRecDepth 20000 in
theorem tk_126 : ip_chk 126 = true := by decide +kernel
set_option maxRecDepth 20000 in
theorem tk_127 : ip_chk 127 = true := by decide +kernel
set_option maxRecDepth 20000 in
theorem tk_128 : ip_chk 128 = true := by decide +kernel
set_option maxRecDepth 20000 in
theorem tk_129 : ip_chk 129 = true := by decide +kernel
set_option maxRecDepth 20000 in
theorem tk_130 : ip_chk 130 = true := by decide +kernel
set_option maxRecDepth 20000 in
theorem tk_131 : ip_chk 131 = true := by decide +kernel
set_option maxRecDepth 20000 in
theorem tk_132 : ip_chk 132 = true := by decide +kernel
set_option maxRecDepth 20000 in
theorem tk_133 : ip_chk 133 = true := by decide +kernel
set_option maxRecDepth 20000 in
theorem tk_134 : ip_chk 134 = true := by decide +kernel
set_option maxRecDepth 20000 in
theorem tk_135 : ip_chk 135 = true := by decide +kernel
set_option maxRecDepth 20000 in
theorem tk_136 : ip_chk 136 = true := by decide +kernel
set_option maxRecDepth 20000 in
theorem tk_137 : ip_chk 137 = true := by decide +kernel
set_option maxRecDepth 20000 in
theorem tk_138 : ip_chk 138 = true := by decide +kernel
set_option maxRecDepth 20000 in
theorem tk_139 : ip_chk 139 = true := by decide +kernel
set_option maxRecDepth 20000 in
theorem tk_140 : ip_chk 140 = true := by decide +kernel
set_option maxRecDepth 20000 in
theorem tk_141 : ip_chk 141 = true := by decide +kernel
set_option maxRecDepth 20000 in
theorem tk_142 : ip_chk 142 = true := by decide +kernel
set_option maxRecDepth 20000 in
theorem tk_143 : ip_chk 143 = true := by decide +kernel
set_option maxRecDepth 20000 in
theorem tk_144 : ip_chk 144 = true := by decide +kernel
set_option maxRecDepth 20000 in
theorem tk_145 : ip_chk 145 = true := by decide +kernel
set_option maxRecDepth 20000 in
theorem tk_146 : ip_chk 146 = true := by decide +kernel
set_option maxRecDepth 20000 in
theorem tk_147 : ip_chk 147 = true := by decide +kernel
set_option maxRecDepth 20000 in
theorem tk_148 : ip_chk 148 = true := by decide +kernel
set_option maxRecDepth 20000 in
theorem tk_149 : ip_chk 149 = true := by decide +kernel
set_option maxRecDepth 20000 in
theorem tk_150 : ip_chk 150 = true := by decide +kernel
set_option maxRecDepth 20000 in
theorem tk_151 : ip_chk 151 = true := by decide +kernel
set_option maxRecDepth 20000 in
theorem tk_152 : ip_chk 152 = true := by decide +kernel
set_option maxRecDepth 20000 in
theorem tk_153 : ip_chk 153 = true := by decide +kernel
set_option maxRecDepth 20000 in
theorem tk_154 : ip_chk 154 = true := by decide +kernel
set_option maxRecDepth 20000 in
theorem tk_155 : ip_chk 155 = true := by decide +kernel
set_option maxRecDepth 20000 in
theorem tk_156 : ip_chk 156 = true := by decide +kernel
set_option maxRecDepth 20000 in
theorem tk_157 : ip_chk 157 = true := by decide +kernel
set_option maxRecDepth 20000 in
theorem tk_158 : ip_chk 158 = true := by decide +kernel
set_option maxRecDepth 20000 in
theorem tk_159 : ip_chk 159 = true := by decide +kernel
set_option maxRecDepth 20000 in
theorem tk_160 : ip_chk 160 = true := by decide +kernel
set_option maxRecDepth 20000 in
theorem tk_161 : ip_chk 161 = true := by decide +kernel
set_option maxRecDepth 20000 in
theorem tk_162 : ip_chk 162 = true := by decide +kernel
set_option maxRecDepth 20000 in
theorem tk_163 : ip_chk 163 = true := by decide +kernel
set_option maxRecDepth 20000 in
theorem tk_164 : ip_chk 164 = true := by decide +kernel
set_option maxRecDepth 20000 in
theorem tk_165 : ip_chk 165 = true := by decide +kernel
set_option maxRecDepth 20000 in
theorem tk_166 : ip_chk 166 = true := by decide +kernel
set_option maxRecDepth 20000 in
theorem tk_167 : ip_chk 167 = true := by decide +kernel
set_option maxRecDepth 20000 in
theorem tk_168 : ip_chk 168 = true := by decide +kernel
set_option maxRecDepth 20000 in
theorem tk_169 : ip_chk 169 = true := by decide +kernel
set_option maxRecDepth 20000 in
theorem tk_170 : ip_chk 170 = true := by decide +kernel
set_option maxRecDepth 20000 in
theorem tk_171 : ip_chk 171 = true := by decide +kernel
set_option maxRecDepth 20000 in
theorem tk_172 : ip_chk 172 = true := by decide +kernel
set_option maxRecDepth 20000 in
theorem tk_173 : ip_chk 173 = true := by decide +kernel
set_option maxRecDepth 20000 in
theorem tk_174 : ip_chk 174 = true := by decide +kernel
set_option maxRecDepth 20000 in
theorem tk_175 : ip_chk 175 = true := by decide +kernel
set_option maxRecDepth 20000 in
theorem tk_176 : ip_chk 176 = true := by decide +kernel
set_option maxRecDepth 20000 in
theorem tk_177 : ip_chk 177 = true := by decide +kernel
set_option maxRecDepth 20000 in
theorem tk_178 : ip_chk 178 = true := by decide +kernel
set_option maxRecDepth 20000 in
theorem tk_179 : ip_chk 179 = true := by decide +kernel
set_option maxRecDepth 20000 in
theorem tk_180 : ip_chk 180 = true := by decide +kernel
set_option maxRecDepth 20000 in
theorem tk_181 : ip_chk 181 = true := by decide +kernel
set_option maxRecDepth 20000 in
theorem tk_182 : ip_chk 182 = true := by decide +kernel
set_option maxRecDepth 20000 in
theorem tk_183 : ip_chk 183 = true := by decide +kernel
set_option maxRecDepth 20000 in
theorem tk_184 : ip_chk 184 = true := by decide +kernel
set_option maxRecDepth 20000 in
theorem tk_185 : ip_chk 185 = true := by decide +kernel
set_option maxRecDepth 20000 in
theorem tk_186 : ip_chk 186 = true := by decide +kernel
set_option maxRecDepth 20000 in
theorem tk_187 : ip_chk 187 = true := by decide +kernel
set_option maxRecDepth 20000 in
theorem tk_188 : ip_chk 188 = true := by decide +kernel
set_option maxRecDepth 20000 in
theorem tk_189 : ip_chk 189 = true := by decide +kernel
set_option maxRecDepth 20000 in
theorem tk_190 : ip_chk 190 = true := by decide +kernel
set_option maxRecDepth 20000 in
theorem tk_191 : ip_chk 191 = true := by decide +kernel
set_option maxRecDepth 20000 in
theorem tk_192 : ip_chk 192 = true := by decide +kernel
set_option maxRecDepth 20000 in
theorem tk_193 : ip_chk 193 = true := by decide +kernel
set_option maxRecDepth 20000 in
theorem tk_194 : ip_chk 194 = true := by decide +kernel
set_option maxRecDepth 20000 in
theorem tk_195 : ip_chk 195 = true := by decide +kernel
set_option maxRecDepth 20000 in
theorem tk_196 : ip_chk 196 = true := by decide +kernel
set_option maxRecDepth 20000 in
theorem tk_197 : ip_chk 197 = true := by decide +kernel
set_option maxRecDepth 20000 in
theorem tk_198 : ip_chk 198 = true := by decide +kernel
set_option maxRecDepth 20000 in
theorem tk_199 : ip_chk 199 = true := by decide +kernel
set_option maxRecDepth 20000 in
theorem tk_200 : ip_chk 200 = true := by decide +kernel
set_option maxRecDepth 20000 in
theorem tk_201 : ip_chk 201 = true := by decide +kernel
set_option maxRecDepth 20000 in
theorem tk_202 : ip_chk 202 = true := by decide +kernel
set_option maxRecDepth 20000 in
theorem tk_203 : ip_chk 203 = true := by decide +kernel
set_option maxRecDepth 20000 in
theorem tk_204 : ip_chk 204 = true := by decide +kernel
set_option maxRecDepth 20000 in
theorem tk_205 : ip_chk 205 = true := by decide +kernel
set_option maxRecDepth 20000 in
theorem tk_206 : ip_chk 206 = true := by decide +kernel
set_option maxRecDepth 20000 in
theorem tk_207 : ip_chk 207 = true := by decide +kernel
