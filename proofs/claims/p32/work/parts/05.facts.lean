/-! the words behind the links, by their places -/
theorem ip_FL_ok : ip_FL.all (fun q => Nat.ble (q.2.2.1 + 1) 6 && (Nat.ble (q.2.2.2.1 + 1) (ip_N q.2.2.1) && (decide ((ip_F q.2.2.1 q.2.2.2.1).1 = ip_R q.2.2.1) && ip_in q.2.2.2.2 (.fieldLink (ip_R q.1) q.2.1 (ip_R q.2.2.1) (ip_F q.2.2.1 q.2.2.2.1).2.1 (ip_F q.2.2.1 q.2.2.2.1).2.2.1)))) = true := by decide +kernel
theorem ip_fl_w {cls x a b : Nat} (h : ip_fl cls x a b = true) : a < 6 ∧ b < ip_N a ∧ (ip_F a b).1 = ip_R a ∧ Cond.fieldLink (ip_R cls) x (ip_R a) (ip_F a b).2.1 (ip_F a b).2.2.1 ∈ ip_G := by
  unfold ip_fl at h
  obtain ⟨q, hq, h1⟩ := List.any_eq_true.mp h
  simp only [Bool.and_eq_true, Nat.beq_eq] at h1
  obtain ⟨e1, e2, e3, e4⟩ := h1
  have h2 := List.all_eq_true.mp ip_FL_ok q hq
  simp only [Bool.and_eq_true, Nat.ble_eq, decide_eq_true_eq] at h2
  obtain ⟨g1, g2, g3, g4⟩ := h2
  rw [e1, e2, e3, e4] at g4
  rw [e3] at g1
  rw [e3, e4] at g2 g3
  exact ⟨g1, g2, g3, ip_in_mem g4⟩
theorem ip_KL_ok : ip_KL.all (fun q => match ip_ML[q.2.2.1]? with
    | none => false
    | some e => ip_in q.2.2.2 (.methodLink (ip_R q.1) q.2.1 e.1)) = true := by decide +kernel
theorem ip_kl_w {cls x a : Nat} {e : ip_ME} (h : ip_kl cls x a = true) (he : ip_ML[a]? = some e) : Cond.methodLink (ip_R cls) x e.1 ∈ ip_G := by
  unfold ip_kl at h
  obtain ⟨q, hq, h1⟩ := List.any_eq_true.mp h
  simp only [Bool.and_eq_true, Nat.beq_eq] at h1
  obtain ⟨e1, e2, e3⟩ := h1
  have h2 := List.all_eq_true.mp ip_KL_ok q hq
  simp only [e1, e2, e3, he] at h2
  exact ip_in_mem h2
def ip_mok (j : Nat) (e : ip_ME) : Bool := match e with
  | (y, bs, ret, cls, kd, pcode, _, _, _, pm, ps) =>
    decide (y.cls = ip_R cls) && (decide (y.cls ≠ "java/lang/invoke/MethodHandle") && (decide (y.cls ≠ "java/lang/invoke/VarHandle") && (plainName y.cls && (ip_in (ip_I cls) (.initialized (ip_R cls)) && (match kd with
      | 0 => ip_in pcode (.code y bs (ip_mx j) ret) && (ip_in pm (.instanceMethod y) && ip_in ps (.selects (ip_R cls) y y))
      | 1 => ip_in pcode (.code y bs (ip_mx j) ret) && ip_in pm (.static y)
      | 2 => ip_in pcode (.code y bs (ip_mx j) ret) && (decide (ret = none) && (decide (y.name = "<init>") && ip_in pm (.instanceMethod y)))
      | _ => true)))))
noncomputable def ip_eqB (l : List UInt8) : List UInt8 → Bool := List.rec (motive := fun _ => List UInt8 → Bool) (fun l' => List.rec (motive := fun _ => Bool) true (fun _ _ _ => false) l') (fun a _ ih l' => List.rec (motive := fun _ => Bool) false (fun b bs _ => Nat.beq a.toNat b.toNat && ih bs) l') l
theorem ip_eqB_ok : ∀ l l' : List UInt8, ip_eqB l l' = true → l = l'
  | [], [], _ => rfl
  | [], _ :: _, h => by cases h
  | _ :: _, [], h => by cases h
  | a :: as, b :: bs, h => by
    have h : (Nat.beq a.toNat b.toNat && ip_eqB as bs) = true := h
    rw [Bool.and_eq_true] at h
    rw [UInt8.toNat_inj.mp (Nat.eq_of_beq_eq_true h.1), ip_eqB_ok as bs h.2]
/-- a code word at its place; the bytes are compared along their list (Array's own equality walks it anew for every byte) -/
noncomputable def ip_inC (p : Nat) (y : MethodName) (bs : ByteArray) (mx : Nat) (ret : Option FieldType) : Bool := (match lw_tbl[p]? with
  | some (.code y' bs' mx' ret') => decide (y' = y) && (ip_eqB bs'.data.toList bs.data.toList && (Nat.beq mx' mx && decide (ret' = ret)))
  | _ => false) && goodWord (.code y bs mx ret)
theorem ip_inC_in {p : Nat} {y : MethodName} {bs : ByteArray} {mx : Nat} {ret : Option FieldType} (h : ip_inC p y bs mx ret = true) : ip_in p (.code y bs mx ret) = true := by
  unfold ip_inC at h
  unfold ip_in
  rw [Bool.and_eq_true] at h ⊢
  refine ⟨decide_eq_true ?_, h.2⟩
  have h1 := h.1
  clear h
  split at h1
  · rename_i y' bs' mx' ret' heq
    rw [Bool.and_eq_true, Bool.and_eq_true, Bool.and_eq_true, decide_eq_true_eq, decide_eq_true_eq] at h1
    obtain ⟨e1, e2, e3, e4⟩ := h1
    have e5 : bs' = bs := by
      obtain ⟨⟨l⟩⟩ := bs
      obtain ⟨⟨l'⟩⟩ := bs'
      have e6 : l' = l := ip_eqB_ok l' l e2
      rw [e6]
    rw [heq, e1, e5, Nat.eq_of_beq_eq_true e3, e4]
  · cases h1
theorem ip_andC {p : Nat} {y : MethodName} {bs : ByteArray} {mx : Nat} {ret : Option FieldType} {q : Bool} (h : (ip_inC p y bs mx ret && q) = true) : (ip_in p (.code y bs mx ret) && q) = true := by
  rw [Bool.and_eq_true] at h ⊢
  exact ⟨ip_inC_in h.1, h.2⟩
noncomputable def ip_mok1 (j : Nat) (e : ip_ME) : Bool := match e with
  | (y, bs, ret, cls, kd, pcode, _, _, _, pm, ps) =>
    decide (y.cls = ip_R cls) && (Nat.ble cls 6 && (match kd with
      | 0 => ip_inC pcode y bs (ip_mx j) ret && (ip_in pm (.instanceMethod y) && ip_in ps (.selects (ip_R cls) y y))
      | 1 => ip_inC pcode y bs (ip_mx j) ret && ip_in pm (.static y)
      | 2 => ip_inC pcode y bs (ip_mx j) ret && (decide (ret = none) && (decide (y.name = "<init>") && ip_in pm (.instanceMethod y)))
      | _ => true))
/-- what is asked of a class, once for each -/
def ip_cok (c : Nat) : Bool := decide (ip_R c ≠ "java/lang/invoke/MethodHandle") && (decide (ip_R c ≠ "java/lang/invoke/VarHandle") && (plainName (ip_R c) && ip_in (ip_I c) (.initialized (ip_R c))))
theorem ip_cok_all : (List.range 7).all ip_cok = true := by decide +kernel
theorem ip_mok_of1 {j : Nat} {e : ip_ME} (h : ip_mok1 j e = true) : ip_mok j e = true := by
  obtain ⟨y, bs, ret, cls, kd, pcode, fr, lo, sz, pm, ps⟩ := e
  unfold ip_mok1 at h
  unfold ip_mok
  dsimp only at h ⊢
  rw [Bool.and_eq_true, Bool.and_eq_true, decide_eq_true_eq, Nat.ble_eq] at h
  obtain ⟨h1, h2, h3⟩ := h
  have hc := List.all_eq_true.mp ip_cok_all cls (List.mem_range.mpr (by omega))
  unfold ip_cok at hc
  rw [Bool.and_eq_true, Bool.and_eq_true, Bool.and_eq_true] at hc
  obtain ⟨c1, c2, c3, c4⟩ := hc
  rw [Bool.and_eq_true, Bool.and_eq_true, Bool.and_eq_true, Bool.and_eq_true, Bool.and_eq_true, h1]
  refine ⟨decide_eq_true rfl, c1, c2, c3, c4, ?_⟩
  rcases kd with _ | _ | _ | kd
  · exact ip_andC h3
  · exact ip_andC h3
  · exact ip_andC h3
  · exact h3
noncomputable def ip_mkR (lo n : Nat) : Bool := (List.range' lo n).all (fun j => match ip_ML[j]? with
    | none => true
    | some e => ip_mok1 j e)
theorem ip_mkR_of {lo n j : Nat} {e : ip_ME} (h : ip_mkR lo n = true) (he : ip_ML[j]? = some e) (h1 : lo ≤ j) (h2 : j < lo + n) : ip_mok j e = true := by
  have h3 := List.all_eq_true.mp h j (List.mem_range'_1.mpr ⟨h1, h2⟩)
  simp only [he] at h3
  exact ip_mok_of1 h3
set_option maxRecDepth 20000 in
theorem mkR_0 : ip_mkR 0 30 = true := by decide +kernel
set_option maxRecDepth 20000 in
theorem mkR_30 : ip_mkR 30 30 = true := by decide +kernel
set_option maxRecDepth 20000 in
theorem mkR_60 : ip_mkR 60 30 = true := by decide +kernel
set_option maxRecDepth 20000 in
theorem mkR_90 : ip_mkR 90 30 = true := by decide +kernel
set_option maxRecDepth 20000 in
theorem mkR_120 : ip_mkR 120 30 = true := by decide +kernel
set_option maxRecDepth 20000 in
theorem mkR_150 : ip_mkR 150 30 = true := by decide +kernel
set_option maxRecDepth 20000 in
theorem mkR_180 : ip_mkR 180 30 = true := by decide +kernel
theorem ip_ML_ok {j : Nat} {e : ip_ME} (he : ip_ML[j]? = some e) : ip_mok j e = true := by
  have hn : j < 208 := (List.getElem?_eq_some_iff.mp he).1
  exact (Nat.lt_or_ge j 90).elim (fun h90 => (Nat.lt_or_ge j 30).elim (fun h30 => ip_mkR_of mkR_0 he (by omega) (by omega)) (fun h30 => (Nat.lt_or_ge j 60).elim (fun h60 => ip_mkR_of mkR_30 he (by omega) (by omega)) (fun h60 => ip_mkR_of mkR_60 he (by omega) (by omega)))) (fun h90 => (Nat.lt_or_ge j 150).elim (fun h150 => (Nat.lt_or_ge j 120).elim (fun h120 => ip_mkR_of mkR_90 he (by omega) (by omega)) (fun h120 => ip_mkR_of mkR_120 he (by omega) (by omega))) (fun h150 => (Nat.lt_or_ge j 180).elim (fun h180 => ip_mkR_of mkR_150 he (by omega) (by omega)) (fun h180 => ip_mkR_of mkR_180 he (by omega) (by omega))))
theorem ip_OL_ok : ip_OL.all (fun q => ip_in q.2.2 (.methodLink (ip_R q.1) q.2.1 Lib.objectInit)) = true := by decide +kernel
theorem ip_ol_w {cls x : Nat} (h : ip_OL.any (fun z => Nat.beq z.1 cls && Nat.beq z.2.1 x) = true) : Cond.methodLink (ip_R cls) x Lib.objectInit ∈ ip_G := by
  obtain ⟨q, hq, h1⟩ := List.any_eq_true.mp h
  simp only [Bool.and_eq_true, Nat.beq_eq] at h1
  obtain ⟨e1, e2⟩ := h1
  have h2 := List.all_eq_true.mp ip_OL_ok q hq
  simp only [e1, e2] at h2
  exact ip_in_mem h2
theorem ip_obI : Cond.instanceMethod Lib.objectInit ∈ ip_G := ip_in_mem (p := 74) (by decide +kernel)
theorem ip_obC : Cond.code Lib.objectInit ⟨#[0xb1]⟩ 1 none ∈ ip_G := ip_in_mem (p := 75) (by decide +kernel)
theorem ip_acI : Cond.arrayClass .int ∈ ip_G := ip_in_mem (p := 94) (by decide +kernel)
theorem ip_acZ : Cond.arrayClass .boolean ∈ ip_G := ip_in_mem (p := 920) (by decide +kernel)
theorem ip_acJ : Cond.arrayClass .long ∈ ip_G := ip_in_mem (p := 1238) (by decide +kernel)
theorem ip_CL_ok : ip_CL.all (fun q => Nat.ble (q.2.2.1 + 1) 6 && (ip_in q.2.2.2.1 (.classLink (ip_R q.1) q.2.1 (ip_R q.2.2.1)) && (ip_in q.2.2.2.2.1 (.instantiable (ip_R q.2.2.1) (ip_N q.2.2.1)) && ip_in q.2.2.2.2.2 (.initialized (ip_R q.2.2.1))))) = true := by decide +kernel
theorem ip_cl_w {cls x a : Nat} (h : ip_CL.any (fun z => Nat.beq z.1 cls && (Nat.beq z.2.1 x && Nat.beq z.2.2.1 a)) = true) : a < 6 ∧ Cond.classLink (ip_R cls) x (ip_R a) ∈ ip_G ∧ Cond.instantiable (ip_R a) (ip_N a) ∈ ip_G ∧ Cond.initialized (ip_R a) ∈ ip_G := by
  obtain ⟨q, hq, h1⟩ := List.any_eq_true.mp h
  simp only [Bool.and_eq_true, Nat.beq_eq] at h1
  obtain ⟨e1, e2, e3⟩ := h1
  have h2 := List.all_eq_true.mp ip_CL_ok q hq
  simp only [e1, e2, e3, Bool.and_eq_true, Nat.ble_eq] at h2
  exact ⟨h2.1, ip_in_mem h2.2.1, ip_in_mem h2.2.2.1, ip_in_mem h2.2.2.2⟩
def ip_sn (a : Nat) : String := match a with
  | 0 => "AT_FIRST"
  | 1 => "LOWEST"
  | _ => "HIGHEST"
theorem ip_SL_ok : ip_SL.all (fun q => Nat.ble (q.2.2.1 + 1) 3 && ip_in q.2.2.2 (.fieldLink (ip_R q.1) q.2.1 RX2 (ip_sn q.2.2.1) "[I")) = true := by decide +kernel
theorem ip_sl_w {cls x a : Nat} (h : ip_SL.any (fun z => Nat.beq z.1 cls && (Nat.beq z.2.1 x && Nat.beq z.2.2.1 a)) = true) : a < 3 ∧ Cond.fieldLink (ip_R cls) x RX2 (ip_sn a) "[I" ∈ ip_G := by
  obtain ⟨q, hq, h1⟩ := List.any_eq_true.mp h
  simp only [Bool.and_eq_true, Nat.beq_eq] at h1
  obtain ⟨e1, e2, e3⟩ := h1
  have h2 := List.all_eq_true.mp ip_SL_ok q hq
  simp only [e1, e2, e3, Bool.and_eq_true, Nat.ble_eq] at h2
  exact ⟨h2.1, ip_in_mem h2.2⟩
theorem ip_six {a : Nat} (h : a < 6) : a = 0 ∨ a = 1 ∨ a = 2 ∨ a = 3 ∨ a = 4 ∨ a = 5 := by omega
theorem ip_vw {a : Nat} (h : a < 6) : vwCl[a]? = some (ip_R a, ip_F a, ip_N a) := by
  rcases ip_six h with rfl | rfl | rfl | rfl | rfl | rfl <;> rfl
theorem ip_gw0 : (wsX00 ++ wsX10 ++ wsX20 ++ wsX30 ++ wsX40 ++ wsX50).all goodWord = true := by decide +kernel
theorem ip_hin {a : Nat} (h : a < 6) : ∀ w ∈ u_ws (ip_R a) (ip_F a) (ip_N a), w ∈ ip_G := by
  intro w hw
  have hg := List.all_eq_true.mp ip_gw0 w
  rcases ip_six h with rfl | rfl | rfl | rfl | rfl | rfl
  · exact List.mem_filter.mpr ⟨ip_inX0 w hw, hg (by simp only [List.mem_append]; exact Or.inl (Or.inl (Or.inl (Or.inl (Or.inl hw)))))⟩
  · exact List.mem_filter.mpr ⟨ip_inX1 w hw, hg (by simp only [List.mem_append]; exact Or.inl (Or.inl (Or.inl (Or.inl (Or.inr hw)))))⟩
  · exact List.mem_filter.mpr ⟨ip_inX2 w hw, hg (by simp only [List.mem_append]; exact Or.inl (Or.inl (Or.inl (Or.inr hw))))⟩
  · exact List.mem_filter.mpr ⟨ip_inX3 w hw, hg (by simp only [List.mem_append]; exact Or.inl (Or.inl (Or.inr hw)))⟩
  · exact List.mem_filter.mpr ⟨ip_inX4 w hw, hg (by simp only [List.mem_append]; exact Or.inl (Or.inr hw))⟩
  · exact List.mem_filter.mpr ⟨ip_inX5 w hw, hg (by simp only [List.mem_append]; exact Or.inr hw)⟩
theorem ip_tyo {a : Nat} (h : a < 6) : ∀ k, k < ip_N a → parseFieldDescriptor (ip_F a k).2.2.1 = some (ip_Y a k) := by
  rcases ip_six h with rfl | rfl | rfl | rfl | rfl | rfl
  · exact tyX0_ok
  · exact tyX1_ok
  · exact tyX2_ok
  · exact tyX3_ok
  · exact tyX4_ok
  · exact tyX5_ok
theorem ip_nmo {a : Nat} (h : a < 6) : ∀ x, x < ip_N a → ∀ y, y < ip_N a → x ≠ y → (ip_F a x).2.1 ≠ (ip_F a y).2.1 := by
  rcases ip_six h with rfl | rfl | rfl | rfl | rfl | rfl
  · exact nmX0
  · exact nmX1
  · exact nmX2
  · exact nmX3
  · exact nmX4
  · exact nmX5
theorem ip_mxL : Cond.methodLink RX1 85 Lib.Math.max.name ∈ ip_G := ip_in_mem (p := 579) (by decide +kernel)
theorem ip_mxS : Cond.static Lib.Math.max.name ∈ ip_G := ip_in_mem (p := 580) (by decide +kernel)
theorem ip_mxC : Cond.code Lib.Math.max.name Lib.Math.max.code 2 (some .int) ∈ ip_G := ip_in_mem (p := 581) (by decide +kernel)
theorem ip_mxI : Cond.initialized "java/lang/Math" ∈ ip_G := ip_in_mem (p := 67) (by decide +kernel)
