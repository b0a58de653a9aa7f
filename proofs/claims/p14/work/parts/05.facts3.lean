def ip_mok (j : Nat) (e : ip_ME) : Bool := match e with
  | (y, bs, ret, cls, kd, pcode, _, _, _, pm, ps) =>
    decide (y.cls = ip_R cls) && (decide (y.cls ≠ "java/lang/invoke/MethodHandle") && (decide (y.cls ≠ "java/lang/invoke/VarHandle") && (plainName y.cls && (ip_in (ip_I cls) (.initialized (ip_R cls)) && (match kd with
      | 0 => ip_in pcode (.code y bs (ip_mx j) ret) && (ip_in pm (.instanceMethod y) && ip_in ps (.selects (ip_R cls) y y))
      | 1 => ip_in pcode (.code y bs (ip_mx j) ret) && ip_in pm (.static y)
      | 2 => ip_in pcode (.code y bs (ip_mx j) ret) && (decide (ret = none) && (decide (y.name = "<init>") && ip_in pm (.instanceMethod y)))
      | _ => true)))))
def ip_mkR (lo n : Nat) : Bool := (List.range' lo n).all (fun j => match ip_ML[j]? with
    | none => true
    | some e => ip_mok j e)
theorem ip_mkR_of {lo n j : Nat} {e : ip_ME} (h : ip_mkR lo n = true) (he : ip_ML[j]? = some e) (h1 : lo ≤ j) (h2 : j < lo + n) : ip_mok j e = true := by
  have h3 := List.all_eq_true.mp h j (List.mem_range'_1.mpr ⟨h1, h2⟩)
  simp only [he] at h3
  exact h3
set_option maxRecDepth 20000 in
theorem mkR_0 : ip_mkR 0 30 = true := by decide +kernel
set_option maxRecDepth 20000 in
theorem mkR_30 : ip_mkR 30 30 = true := by decide +kernel
set_option maxRecDepth 20000 in
theorem mkR_60 : ip_mkR 60 30 = true := by decide +kernel
set_option maxRecDepth 20000 in
theorem mkR_90 : ip_mkR 90 30 = true := by decide +kernel
set_option maxRecDepth 20000 in
theorem mkR_120 : ip_mkR 120 30 = true := by decide +kernel
set_option maxRecDepth 20000 in
theorem mkR_150 : ip_mkR 150 30 = true := by decide +kernel
set_option maxRecDepth 20000 in
theorem mkR_180 : ip_mkR 180 30 = true := by decide +kernel
theorem ip_ML_ok {j : Nat} {e : ip_ME} (he : ip_ML[j]? = some e) : ip_mok j e = true := by
  have hn : j < 209 := (List.getElem?_eq_some_iff.mp he).1
  exact (Nat.lt_or_ge j 90).elim (fun h90 => (Nat.lt_or_ge j 30).elim (fun h30 => ip_mkR_of mkR_0 he (by omega) (by omega)) (fun h30 => (Nat.lt_or_ge j 60).elim (fun h60 => ip_mkR_of mkR_30 he (by omega) (by omega)) (fun h60 => ip_mkR_of mkR_60 he (by omega) (by omega)))) (fun h90 => (Nat.lt_or_ge j 150).elim (fun h150 => (Nat.lt_or_ge j 120).elim (fun h120 => ip_mkR_of mkR_90 he (by omega) (by omega)) (fun h120 => ip_mkR_of mkR_120 he (by omega) (by omega))) (fun h150 => (Nat.lt_or_ge j 180).elim (fun h180 => ip_mkR_of mkR_150 he (by omega) (by omega)) (fun h180 => ip_mkR_of mkR_180 he (by omega) (by omega))))
