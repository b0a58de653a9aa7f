def sh_kd (q : Nat) : Nat := match q with
  | 0 => 4
  | 1 => 2
  | 2 => 20
  | 3 => 20
  | 4 => 20
  | 5 => 3
  | 6 => 20
  | 7 => 0
  | 8 => 1
  | 9 => 20
  | 10 => 20
  | 11 => 20
  | 12 => 20
  | 13 => 20
  | 14 => 1
  | 15 => 20
  | 16 => 20
  | 17 => 20
  | 18 => 20
  | 19 => 20
  | 20 => 0
  | 21 => 1
  | 22 => 20
  | 23 => 20
  | 24 => 20
  | 25 => 20
  | 26 => 20
  | 27 => 1
  | 28 => 20
  | 29 => 20
  | 30 => 20
  | 31 => 20
  | 32 => 20
  | 33 => 20
  | 34 => 20
  | 35 => 5
  | 36 => 20
  | 37 => 20
  | 38 => 20
  | 39 => 20
  | 40 => 20
  | 41 => 20
  | 42 => 20
  | 43 => 20
  | 44 => 20
  | 45 => 20
  | 46 => 20
  | 47 => 21
  | 48 => 20
  | 49 => 20
  | 50 => 20
  | 51 => 20
  | 52 => 20
  | 53 => 20
  | 54 => 20
  | 55 => 20
  | 56 => 20
  | 57 => 20
  | 58 => 20
  | 59 => 20
  | 60 => 22
  | _ => 99
def sh_len (q : Nat) : Nat := match q with
  | 0 => 9
  | 1 => 3
  | 2 => 50
  | 3 => 50
  | 4 => 5
  | 5 => 5
  | 6 => 500
  | 7 => 5
  | 8 => 14
  | 9 => 60
  | 10 => 95
  | 11 => 7
  | 12 => 10
  | 13 => 10
  | 14 => 14
  | 15 => 60
  | 16 => 95
  | 17 => 7
  | 18 => 10
  | 19 => 10
  | 20 => 5
  | 21 => 14
  | 22 => 60
  | 23 => 95
  | 24 => 7
  | 25 => 10
  | 26 => 10
  | 27 => 14
  | 28 => 60
  | 29 => 95
  | 30 => 7
  | 31 => 10
  | 32 => 10
  | 33 => 400
  | 34 => 400
  | 35 => 35
  | 36 => 5
  | 37 => 50
  | 38 => 50
  | 39 => 400
  | 40 => 400
  | 41 => 2
  | 42 => 2
  | 43 => 2
  | 44 => 2
  | 45 => 2
  | 46 => 2
  | 47 => 2
  | 48 => 2
  | 49 => 2
  | 50 => 200
  | 51 => 20
  | 52 => 20
  | 53 => 40
  | 54 => 40
  | 55 => 40
  | 56 => 14
  | 57 => 500
  | 58 => 3
  | 59 => 3
  | 60 => 1
  | _ => 0
def sh_rfk (a q k : Nat) : Option Nat := match a with
  | 4 => (match k with
    | 0 => some 1
    | 1 => some 5
    | 2 => some 7
    | 3 => some 20
    | 4 => some 33
    | 5 => some 34
    | _ => none)
  | 2 => (match k with
    | 0 => some 2
    | 1 => some 3
    | 2 => some 4
    | _ => none)
  | 3 => (match k with
    | 0 => some 6
    | _ => none)
  | 0 => (match k with
    | 0 => some 1
    | 1 => some (q + 1)
    | 2 => some (q + 7)
    | _ => none)
  | 1 => (match k with
    | 9 => some (q + 1)
    | 10 => some (q + 2)
    | 11 => some (q + 3)
    | 12 => some (q + 4)
    | 13 => some (q + 5)
    | _ => none)
  | 5 => (match k with
    | 1 => some 36
    | 2 => some 37
    | 3 => some 38
    | 4 => some 39
    | 5 => some 40
    | 7 => some 41
    | 8 => some 42
    | 9 => some 43
    | 10 => some 44
    | 11 => some 45
    | 12 => some 46
    | 13 => some 47
    | 14 => some 48
    | 15 => some 49
    | 16 => some 50
    | 17 => some 51
    | 18 => some 52
    | 19 => some 53
    | 20 => some 54
    | 21 => some 55
    | 22 => some 56
    | 25 => some 57
    | 33 => some 58
    | 34 => some 59
    | _ => none)
  | _ => none
def sh_rf (q k : Nat) : Option Nat := sh_rfk (sh_kd q) q k
abbrev sg_S : Type := Nat → Nat → Int32
def sg_up (σ : sg_S) (q k : Nat) (v : Int32) : sg_S := fun q' k' => if q' = q ∧ k' = k then v else σ q' k'
def sg_cv (σ : sg_S) (q k : Nat) : ip_V Int32 := match sh_rf q k with
  | some r => .inr (.inr (.inl (some r)))
  | none => if sh_kd q = 22 then .inr (.inl (σ q k)) else .inl (σ q k)
def sg_row (σ : sg_S) (q : Nat) : List (ip_V Int32) := (List.range (sh_len q)).map (sg_cv σ q)
def sg_mk (σ : sg_S) : ip_Hp Int32 := (List.range 61).map (fun q => (sh_kd q, sg_row σ q))
theorem sg_nth (σ : sg_S) {q : Nat} (hq : q < 61) : ip_nth (sg_mk σ) q = some (sh_kd q, sg_row σ q) := by
  rw [ip_nth_eq]
  simp [sg_mk, hq]
theorem sg_fld (σ : sg_S) {q k : Nat} (hk : k < sh_len q) : ip_nth (sg_row σ q) k = some (sg_cv σ q k) := by
  rw [ip_nth_eq]
  simp [sg_row, hk]
theorem sg_cv_up {σ : sg_S} {q k q' i : Nat} {v : Int32} (h : ¬ (q' = q ∧ i = k)) : sg_cv (sg_up σ q k v) q' i = sg_cv σ q' i := by
  unfold sg_cv sg_up
  rw [if_neg h]
theorem sg_row_up {σ : sg_S} {q k : Nat} {v : Int32} (hk : k < sh_len q) (hr : sh_rf q k = none) {w : ip_V Int32} (hw : w = if sh_kd q = 22 then .inr (.inl v) else .inl v) : ip_set (sg_row σ q) k w = sg_row (sg_up σ q k v) q := by
  rw [ip_set_eq]
  apply List.ext_getElem?
  intro i
  rw [List.getElem?_set]
  by_cases e : k = i
  · subst e
    have hl : k < (sg_row σ q).length := by simp [sg_row, hk]
    rw [if_pos rfl, if_pos hl, ← ip_nth_eq, sg_fld _ hk, hw]
    unfold sg_cv
    rw [hr]
    simp [sg_up]
  · rw [if_neg e]
    by_cases hi : i < sh_len q
    · rw [← ip_nth_eq, ← ip_nth_eq, sg_fld _ hi, sg_fld _ hi, sg_cv_up (fun h => e h.2.symm)]
    · simp [sg_row, hi]
theorem sg_row_other {σ : sg_S} {q k q' : Nat} {v : Int32} (h : ¬ q' = q) : sg_row (sg_up σ q k v) q' = sg_row σ q' := by
  unfold sg_row
  congr 1
  funext i
  exact sg_cv_up (fun z => h z.1)
theorem sg_put {σ : sg_S} {q k : Nat} {v : Int32} (hq : q < 61) (hk : k < sh_len q) (hr : sh_rf q k = none) {w : ip_V Int32} (hw : w = if sh_kd q = 22 then .inr (.inl v) else .inl v) : ip_set (sg_mk σ) q (sh_kd q, ip_set (sg_row σ q) k w) = sg_mk (sg_up σ q k v) := by
  rw [sg_row_up hk hr hw, ip_set_eq]
  apply List.ext_getElem?
  intro i
  rw [List.getElem?_set]
  by_cases e : q = i
  · subst e
    have hl : q < (sg_mk σ).length := by simp [sg_mk, hq]
    rw [if_pos rfl, if_pos hl, ← ip_nth_eq, sg_nth _ hq]
  · rw [if_neg e]
    by_cases hi : i < 61
    · rw [← ip_nth_eq, ← ip_nth_eq, sg_nth _ hi, sg_nth _ hi, sg_row_other (fun z => e z.symm)]
    · simp [sg_mk, hi]
/-! what a method answers, from a frame on -/
abbrev sgF (pc : Nat) (la : List (Option (ip_V Int32))) (st : List (ip_V Int32)) (σ : sg_S) : ip_Fr Int32 := (pc, la, st, sg_mk σ, 0, 0, false)
abbrev rf (q : Nat) : ip_V Int32 := .inr (.inr (.inl (some q)))
/-- the rows that stay: three statics and the script -/
def roS (s : List Int32) : List (List Int32) := [[20, 150, 5, 6, 9], [1, 1, 1, 0, 0], [20, 400, 20, 20, 20], s]
def RtG {Y : Type} (E : ip_E → List (ip_V Int32) → Option Y) (s : List Int32) (j pc : Nat) (la : List (Option (ip_V Int32))) (st : List (ip_V Int32)) (σ : sg_S) (y : Y) (σ' : sg_S) : Prop :=
  ∃ n pc' la' st' x, ip_run ex_ops (roS s) ip_hd (fun _ _ => false) n j (sgF pc la st σ) = some (sgF pc' la' st' σ') ∧ ip_T j pc' = some x ∧ E x st' = some y
def RtF {X Y : Type} (E : ip_E → List (ip_V Int32) → Option Y) (F : X → Y × sg_S) (s : List Int32) (j pc : Nat) (la : List (Option (ip_V Int32))) (st : List (ip_V Int32)) (σ : sg_S) (r : X) : Prop := RtG E s j pc la st σ (F r).1 (F r).2
noncomputable def bk (x : ip_E) (st : List (ip_V Int32)) : Option (List (ip_V Int32)) := ip_back ex_ops x st
/-- the end of a method that may throw -/
def thB (x : ip_E) (st : List (ip_V Int32)) : Option (Option Int32) := match x.1, x.2.2.2.2, st with
  | .ireturn, 0, [.inl d] => some (some d)
  | .new _, 9, [] => some none
  | _, _, _ => none
def fV (σ : sg_S) (v : Int32) : List (ip_V Int32) × sg_S := ([.inl v], σ)
def fS (σ : sg_S) : List (ip_V Int32) × sg_S := ([], σ)
def fR (r : Int32 × sg_S) : List (ip_V Int32) × sg_S := ([.inl r.1], r.2)
def fQ (σ : sg_S) (q : Nat) : List (ip_V Int32) × sg_S := ([rf q], σ)
def fT (σ : sg_S) (v : Option Int32) : Option Int32 × sg_S := (v, σ)
/-- a cell's number, kind and length -/
def Kd (q a L : Nat) : Prop := q < 61 ∧ sh_kd q = a ∧ sh_len q = L
def ix (i : Int32) (L : Nat) : Prop := ¬ i < 0 ∧ i.toNatClampNeg < L
abbrev ni (i : Int32) : Nat := i.toNatClampNeg
abbrev rm (x y : Int32) : Int32 := x - x / y * y
def bt (v : Int32) : Prop := v = 0 ∨ v = 1
def Ct (s : List Int32) (jc : Nat) (as : List (ip_V Int32)) (σ : sg_S) (vs : List (ip_V Int32)) (σ1 : sg_S) : Prop :=
  ip_rcv (sg_mk σ) (ip_kd jc) (ip_oc jc) as = true ∧ Nat.ble as.length (ip_mx jc) = true ∧ ip_bc jc = 0 ∧ ip_bs jc = 0 ∧ RtG bk s jc 0 (as.map some ++ List.replicate (ip_mx jc - as.length) none) [] σ vs σ1
theorem Kd_of {q a L : Nat} (h1 : q < 61) (h2 : sh_kd q = a) (h3 : sh_len q = L) : Kd q a L := ⟨h1, h2, h3⟩
theorem Kd_c : ∀ q, q < 61 → sh_kd q = 0 → q = 7 ∨ q = 20 := by decide
theorem Kd_q : ∀ q, q < 61 → sh_kd q = 1 → q = 8 ∨ q = 14 ∨ q = 21 ∨ q = 27 := by decide
theorem K0 {c : Nat} (h : Kd c 0 5) : c = 7 ∨ c = 20 := Kd_c c h.1 h.2.1
theorem K1 {q : Nat} (h : Kd q 1 14) : q = 8 ∨ q = 14 ∨ q = 21 ∨ q = 27 := Kd_q q h.1 h.2.1
theorem K0_1 {c : Nat} (h : Kd c 0 5) : Kd (c + 1) 1 14 := by rcases K0 h with rfl | rfl <;> exact ⟨by decide, rfl, rfl⟩
theorem K0_2 {c : Nat} (h : Kd c 0 5) : Kd (c + 7) 1 14 := by rcases K0 h with rfl | rfl <;> exact ⟨by decide, rfl, rfl⟩
theorem K1_9 {q : Nat} (h : Kd q 1 14) : Kd (q + 1) 20 60 := by rcases K1 h with rfl | rfl | rfl | rfl <;> exact ⟨by decide, rfl, rfl⟩
theorem K1_10 {q : Nat} (h : Kd q 1 14) : Kd (q + 2) 20 95 := by rcases K1 h with rfl | rfl | rfl | rfl <;> exact ⟨by decide, rfl, rfl⟩
theorem K1_11 {q : Nat} (h : Kd q 1 14) : Kd (q + 3) 20 7 := by rcases K1 h with rfl | rfl | rfl | rfl <;> exact ⟨by decide, rfl, rfl⟩
theorem K1_12 {q : Nat} (h : Kd q 1 14) : Kd (q + 4) 20 10 := by rcases K1 h with rfl | rfl | rfl | rfl <;> exact ⟨by decide, rfl, rfl⟩
theorem K1_13 {q : Nat} (h : Kd q 1 14) : Kd (q + 5) 20 10 := by rcases K1 h with rfl | rfl | rfl | rfl <;> exact ⟨by decide, rfl, rfl⟩
section RtRules
variable {X Y : Type} {E : ip_E → List (ip_V Int32) → Option Y} {F : X → Y × sg_S} {s : List Int32} {j pc pc1 nx a b c0 : Nat} {la la1 : List (Option (ip_V Int32))} {st st1 : List (ip_V Int32)} {σ σ1 σ' : sg_S} {r r1 r2 : X} {x : ip_E}
theorem rt_end (hT : ip_T j pc = some x) (hs : ip_stop x = true) (hb : E x st = some (F r).1) (hσ : (F r).2 = σ) : RtF E F s j pc la st σ r := by
  refine ⟨1, pc, la, st, x, ?_, hT, hb⟩
  rw [hσ]
  show ip_body ex_ops (roS s) ip_hd (fun _ _ => false) _ j (sgF pc la st σ) = _
  unfold ip_body
  dsimp only
  rw [hT]
  dsimp only
  rw [hs]
  rfl
theorem rt_step (hT : ip_T j pc = some x) (hs : ip_stop x = false) (hst : ip_step ex_ops (roS s) (ip_bc j) (ip_bs j) x (sgF pc la st σ) = some (.inl (sgF pc1 la1 st1 σ1))) (k : RtF E F s j pc1 la1 st1 σ1 r) : RtF E F s j pc la st σ r := by
  obtain ⟨n, pc', la', st', x', h, hx, hb⟩ := k
  refine ⟨n + 1, pc', la', st', x', ?_, hx, hb⟩
  show ip_body ex_ops (roS s) ip_hd (fun _ _ => false) (ip_run ex_ops (roS s) ip_hd (fun _ _ => false) n) j (sgF pc la st σ) = _
  unfold ip_body
  dsimp only
  rw [hT]
  dsimp only
  rw [hs, hst]
  exact h
theorem rt_k1 {n : Int} {v : Int32} (hT : ip_T j pc = some (.iconst n, nx, a, b, c0)) (hv : Int32.ofInt n = v) (k : RtF E F s j nx la (.inl v :: st) σ r) : RtF E F s j pc la st σ r := by
  subst hv
  exact rt_step hT rfl rfl k
theorem rt_k2 {n : Int} {v : Int32} (hT : ip_T j pc = some (.bipush n, nx, a, b, c0)) (hv : (Int8.ofInt n).toInt32 = v) (k : RtF E F s j nx la (.inl v :: st) σ r) : RtF E F s j pc la st σ r := by
  subst hv
  exact rt_step hT rfl rfl k
theorem rt_k3 {n : Int} {v : Int32} (hT : ip_T j pc = some (.sipush n, nx, a, b, c0)) (hv : (Int16.ofInt n).toInt32 = v) (k : RtF E F s j nx la (.inl v :: st) σ r) : RtF E F s j pc la st σ r := by
  subst hv
  exact rt_step hT rfl rfl k
theorem ip_sLd_eq {D : Type} {k nx pc : Nat} {ls : List (Option (ip_V D))} {st : List (ip_V D)} {hp : ip_Hp D} {mc ms : Nat} {fz : Bool} {d : D} (h : ip_nth ls k = some (some (.inl d))) : ip_sLd k nx (pc, ls, st, hp, mc, ms, fz) = some (.inl (nx, ls, .inl d :: st, hp, mc, ms, fz)) := by
  unfold ip_sLd
  dsimp only
  rw [h]
theorem ip_sLa_eq {D : Type} {k nx pc : Nat} {ls : List (Option (ip_V D))} {st : List (ip_V D)} {hp : ip_Hp D} {mc ms : Nat} {fz : Bool} {q : Nat} (h : ip_nth ls k = some (some (.inr (.inr (.inl (some q)))))) : ip_sLa k nx (pc, ls, st, hp, mc, ms, fz) = some (.inl (nx, ls, .inr (.inr (.inl (some q))) :: st, hp, mc, ms, fz)) := by
  unfold ip_sLa
  dsimp only
  rw [h]
theorem ip_sSt_eq {D : Type} {k nx pc : Nat} {ls : List (Option (ip_V D))} {st : List (ip_V D)} {hp : ip_Hp D} {mc ms : Nat} {fz : Bool} {d : D} {o : Option (ip_V D)} (h : ip_nth ls k = some o) : ip_sSt k nx (pc, ls, .inl d :: st, hp, mc, ms, fz) = some (.inl (nx, ip_set ls k (some (.inl d)), st, hp, mc, ms, fz)) := by
  unfold ip_sSt
  dsimp only
  rw [h]
theorem ip_sSa_eq {D : Type} {k nx pc : Nat} {ls : List (Option (ip_V D))} {st : List (ip_V D)} {hp : ip_Hp D} {mc ms : Nat} {fz : Bool} {q : Nat} {o : Option (ip_V D)} (h : ip_nth ls k = some o) : ip_sSa k nx (pc, ls, .inr (.inr (.inl (some q))) :: st, hp, mc, ms, fz) = some (.inl (nx, ip_set ls k (some (.inr (.inr (.inl (some q))))), st, hp, mc, ms, fz)) := by
  unfold ip_sSa
  dsimp only
  rw [h]
theorem rt_ld {k : Nat} {v : Int32} (hT : ip_T j pc = some (.iload k, nx, a, b, c0)) (hl : ip_nth la k = some (some (.inl v))) (kk : RtF E F s j nx la (.inl v :: st) σ r) : RtF E F s j pc la st σ r :=
  rt_step hT rfl (ip_sLd_eq (pc := pc) hl) kk
theorem rt_ln {k : Fin 4} {v : Int32} (hT : ip_T j pc = some (.iload_n k, nx, a, b, c0)) (hl : ip_nth la k.val = some (some (.inl v))) (kk : RtF E F s j nx la (.inl v :: st) σ r) : RtF E F s j pc la st σ r :=
  rt_step hT rfl (ip_sLd_eq (pc := pc) hl) kk
theorem rt_lda {k : Nat} {q : Nat} (hT : ip_T j pc = some (.aload k, nx, a, b, c0)) (hl : ip_nth la k = some (some (rf q))) (kk : RtF E F s j nx la (rf q :: st) σ r) : RtF E F s j pc la st σ r :=
  rt_step hT rfl (ip_sLa_eq (pc := pc) hl) kk
theorem rt_lna {k : Fin 4} {q : Nat} (hT : ip_T j pc = some (.aload_n k, nx, a, b, c0)) (hl : ip_nth la k.val = some (some (rf q))) (kk : RtF E F s j nx la (rf q :: st) σ r) : RtF E F s j pc la st σ r :=
  rt_step hT rfl (ip_sLa_eq (pc := pc) hl) kk
theorem rt_st {k : Nat} {v : Int32} {o : Option (ip_V Int32)} (hT : ip_T j pc = some (.istore k, nx, a, b, c0)) (hl : ip_nth la k = some o) (hs : ip_set la k (some (.inl v)) = la1) (kk : RtF E F s j nx la1 st σ r) : RtF E F s j pc la (.inl v :: st) σ r := by
  subst hs
  exact rt_step hT rfl (ip_sSt_eq (pc := pc) hl) kk
theorem rt_sn {k : Fin 4} {v : Int32} {o : Option (ip_V Int32)} (hT : ip_T j pc = some (.istore_n k, nx, a, b, c0)) (hl : ip_nth la k.val = some o) (hs : ip_set la k.val (some (.inl v)) = la1) (kk : RtF E F s j nx la1 st σ r) : RtF E F s j pc la (.inl v :: st) σ r := by
  subst hs
  exact rt_step hT rfl (ip_sSt_eq (pc := pc) hl) kk
theorem rt_sta {k : Nat} {q : Nat} {o : Option (ip_V Int32)} (hT : ip_T j pc = some (.astore k, nx, a, b, c0)) (hl : ip_nth la k = some o) (hs : ip_set la k (some (rf q)) = la1) (kk : RtF E F s j nx la1 st σ r) : RtF E F s j pc la (rf q :: st) σ r := by
  subst hs
  exact rt_step hT rfl (ip_sSa_eq (pc := pc) hl) kk
theorem rt_sna {k : Fin 4} {q : Nat} {o : Option (ip_V Int32)} (hT : ip_T j pc = some (.astore_n k, nx, a, b, c0)) (hl : ip_nth la k.val = some o) (hs : ip_set la k.val (some (rf q)) = la1) (kk : RtF E F s j nx la1 st σ r) : RtF E F s j pc la (rf q :: st) σ r := by
  subst hs
  exact rt_step hT rfl (ip_sSa_eq (pc := pc) hl) kk
theorem rt_inc {k : Nat} {n : Int} {v w : Int32} (hT : ip_T j pc = some (.iinc k n, nx, a, b, c0)) (hl : ip_nth la k = some (some (.inl v))) (hw : Int32.ofInt n = w) (hs : ip_set la k (some (.inl (v + w))) = la1) (kk : RtF E F s j nx la1 st σ r) : RtF E F s j pc la st σ r := by
  subst hs
  subst hw
  refine rt_step hT rfl ?_ kk
  show ip_sInc ex_ops k n nx (sgF pc la st σ) = _
  unfold ip_sInc
  dsimp only
  rw [hl]
  rfl
theorem rt_add {u v : Int32} (hT : ip_T j pc = some (.iadd, nx, a, b, c0)) (k : RtF E F s j nx la (.inl (u + v) :: st) σ r) : RtF E F s j pc la (.inl v :: .inl u :: st) σ r := rt_step hT rfl rfl k
theorem rt_sub {u v : Int32} (hT : ip_T j pc = some (.isub, nx, a, b, c0)) (k : RtF E F s j nx la (.inl (u - v) :: st) σ r) : RtF E F s j pc la (.inl v :: .inl u :: st) σ r := rt_step hT rfl rfl k
theorem rt_mul {u v : Int32} (hT : ip_T j pc = some (.imul, nx, a, b, c0)) (k : RtF E F s j nx la (.inl (u * v) :: st) σ r) : RtF E F s j pc la (.inl v :: .inl u :: st) σ r := rt_step hT rfl rfl k
theorem rt_and {u v : Int32} (hT : ip_T j pc = some (.iand, nx, a, b, c0)) (k : RtF E F s j nx la (.inl (u &&& v) :: st) σ r) : RtF E F s j pc la (.inl v :: .inl u :: st) σ r := rt_step hT rfl rfl k
theorem rt_shr {u v : Int32} (hT : ip_T j pc = some (.ishr, nx, a, b, c0)) (k : RtF E F s j nx la (.inl (ip_bI 6 u v) :: st) σ r) : RtF E F s j pc la (.inl v :: .inl u :: st) σ r := rt_step hT rfl rfl k
theorem rt_ushr {u v : Int32} (hT : ip_T j pc = some (.iushr, nx, a, b, c0)) (k : RtF E F s j nx la (.inl (ip_bI 7 u v) :: st) σ r) : RtF E F s j pc la (.inl v :: .inl u :: st) σ r := rt_step hT rfl rfl k
theorem rt_neg {u : Int32} (hT : ip_T j pc = some (.ineg, nx, a, b, c0)) (k : RtF E F s j nx la (.inl (-u) :: st) σ r) : RtF E F s j pc la (.inl u :: st) σ r := rt_step hT rfl rfl k
theorem ex_nz {o : Nat} {u v : Int32} (hv : ¬ v = 0) : ex_ops.2.1 o u v = some (ip_bI o u v) := by
  show ex_bin o u v = _
  unfold ex_bin
  rw [decide_eq_false hv, Bool.and_false]
  rfl
theorem rt_div {u v : Int32} (hT : ip_T j pc = some (.idiv, nx, a, b, c0)) (hv : ¬ v = 0) (k : RtF E F s j nx la (.inl (u / v) :: st) σ r) : RtF E F s j pc la (.inl v :: .inl u :: st) σ r := by
  refine rt_step hT rfl ?_ k
  show ip_bin ex_ops 3 nx (sgF pc la (.inl v :: .inl u :: st) σ) = _
  unfold ip_bin
  dsimp only
  rw [ex_nz hv]
  rfl
theorem rt_rem {u v : Int32} (hT : ip_T j pc = some (.irem, nx, a, b, c0)) (hv : ¬ v = 0) (k : RtF E F s j nx la (.inl (rm u v) :: st) σ r) : RtF E F s j pc la (.inl v :: .inl u :: st) σ r := by
  refine rt_step hT rfl ?_ k
  show ip_bin ex_ops 4 nx (sgF pc la (.inl v :: .inl u :: st) σ) = _
  unfold ip_bin
  dsimp only
  rw [ex_nz hv]
  rfl
theorem rt_dup {v : ip_V Int32} (hT : ip_T j pc = some (.dup, nx, a, b, c0)) (hv : ip_one v = true) (k : RtF E F s j nx la (v :: v :: st) σ r) : RtF E F s j pc la (v :: st) σ r := by
  refine rt_step hT rfl ?_ k
  show ip_sDup nx (sgF pc la (v :: st) σ) = _
  unfold ip_sDup
  dsimp only
  rw [hv]
  rfl
theorem rt_du2 {v w : ip_V Int32} (hT : ip_T j pc = some (.dup2, nx, a, b, c0)) (hv : ip_one v = true) (hw : ip_one w = true) (k : RtF E F s j nx la (v :: w :: v :: w :: st) σ r) : RtF E F s j pc la (v :: w :: st) σ r := by
  refine rt_step hT rfl ?_ k
  show ip_sDu2 nx (sgF pc la (v :: w :: st) σ) = _
  unfold ip_sDu2
  dsimp only
  rw [hv, hw]
  rfl
theorem rt_pop {v : ip_V Int32} (hT : ip_T j pc = some (.pop, nx, a, b, c0)) (hv : ip_one v = true) (k : RtF E F s j nx la st σ r) : RtF E F s j pc la (v :: st) σ r := by
  refine rt_step hT rfl ?_ k
  show ip_sPop nx (sgF pc la (v :: st) σ) = _
  unfold ip_sPop
  dsimp only
  rw [hv]
  rfl
theorem rt_go {o : Int} (hT : ip_T j pc = some (.goto o, nx, a, b, c0)) (k : RtF E F s j a la st σ r) : RtF E F s j pc la st σ r := rt_step hT rfl rfl k
theorem rt_gs {i : Nat} (hT : ip_T j pc = some (.getstatic i, nx, a, b, c0)) (k : RtF E F s j nx la (.inr (.inr (.inr a)) :: st) σ r) : RtF E F s j pc la st σ r := rt_step hT rfl rfl k
/-! branches -/
def ip_cP (k : ClassFile.Cond) (u v : Int32) : Prop := match k with
  | .eq => u = v
  | .ne => ¬ u = v
  | .lt => u < v
  | .ge => v ≤ u
  | .gt => v < u
  | .le => u ≤ v
theorem ip_cP_t {k : ClassFile.Cond} {u v : Int32} (h : ip_cP k u v) : ip_cI (ip_cc k) u v = true := by
  cases k
  · exact decide_eq_true (p := u = v) h
  · exact decide_eq_true (p := ¬ u = v) h
  · exact decide_eq_true (p := u < v) h
  · exact decide_eq_true (p := v ≤ u) h
  · exact decide_eq_true (p := v < u) h
  · exact decide_eq_true (p := u ≤ v) h
theorem ip_cP_f {k : ClassFile.Cond} {u v : Int32} (h : ¬ ip_cP k u v) : ip_cI (ip_cc k) u v = false := by
  cases k
  · exact decide_eq_false (p := u = v) h
  · exact decide_eq_false (p := ¬ u = v) h
  · exact decide_eq_false (p := u < v) h
  · exact decide_eq_false (p := v ≤ u) h
  · exact decide_eq_false (p := v < u) h
  · exact decide_eq_false (p := u ≤ v) h
/-- a case that the answer's text makes -/
theorem rt_ite {c : Prop} [Decidable c] (k1 : c → RtF E F s j pc la st σ r1) (k2 : ¬ c → RtF E F s j pc la st σ r2) : RtF E F s j pc la st σ (if c then r1 else r2) := by
  by_cases h : c
  · rw [if_pos h]; exact k1 h
  · rw [if_neg h]; exact k2 h
theorem rt_if {k : ClassFile.Cond} {off : Int} {u : Int32} {c : Prop} [Decidable c] (hT : ip_T j pc = some (.ifCond k off, nx, a, b, c0)) (hc : ip_cP k u 0 = c) (k1 : c → RtF E F s j a la st σ r1) (k2 : ¬ c → RtF E F s j nx la st σ r2) : RtF E F s j pc la (.inl u :: st) σ (if c then r1 else r2) := by
  refine rt_ite (fun h => rt_step hT rfl ?_ (k1 h)) (fun h => rt_step hT rfl ?_ (k2 h))
  · show ip_br (some (ip_cI (ip_cc k) u 0)) nx a la st (sg_mk σ) 0 0 false = _
    rw [ip_cP_t (by rw [hc]; exact h)]
    rfl
  · show ip_br (some (ip_cI (ip_cc k) u 0)) nx a la st (sg_mk σ) 0 0 false = _
    rw [ip_cP_f (by rw [hc]; exact h)]
    rfl
theorem rt_ic {k : ClassFile.Cond} {off : Int} {u v : Int32} {c : Prop} [Decidable c] (hT : ip_T j pc = some (.if_icmp k off, nx, a, b, c0)) (hc : ip_cP k u v = c) (k1 : c → RtF E F s j a la st σ r1) (k2 : ¬ c → RtF E F s j nx la st σ r2) : RtF E F s j pc la (.inl v :: .inl u :: st) σ (if c then r1 else r2) := by
  refine rt_ite (fun h => rt_step hT rfl ?_ (k1 h)) (fun h => rt_step hT rfl ?_ (k2 h))
  · show ip_br (some (ip_cI (ip_cc k) u v)) nx a la st (sg_mk σ) 0 0 false = _
    rw [ip_cP_t (by rw [hc]; exact h)]
    rfl
  · show ip_br (some (ip_cI (ip_cc k) u v)) nx a la st (sg_mk σ) 0 0 false = _
    rw [ip_cP_f (by rw [hc]; exact h)]
    rfl
/-- a number on the stack, known -/
theorem rt_eq {u v : Int32} (h : u = v) (k : RtF E F s j pc la (.inl v :: st) σ r) : RtF E F s j pc la (.inl u :: st) σ r := by
  rw [h]; exact k
theorem ts_out {x : Int32} {n : Nat} (hn : n < 1000) (h : ∀ k : Nat, k < n → ¬ x = Int32.ofNat k) : x.toInt < 0 ∨ (n : Int) - 1 < x.toInt := by
  by_cases h0 : x.toInt < 0
  · exact Or.inl h0
  · refine Or.inr ?_
    by_cases h1 : (n : Int) - 1 < x.toInt
    · exact h1
    · refine absurd ?_ (h x.toInt.toNat (by omega))
      apply Int32.toInt_inj.mp
      rw [Int32.toInt_ofNat_of_lt (by omega)]
      omega
theorem rt_tsd {d lo hi : Int} {offs : Array Int} {v : Int32} (hT : ip_T j pc = some (.tableswitch d lo hi offs, nx, a, b, c0)) (ho : v.toInt < lo ∨ hi < v.toInt) (hp : (pc : Int) + d = (pc1 : Int)) (k : RtF E F s j pc1 la st σ r) : RtF E F s j pc la (.inl v :: st) σ r := by
  refine rt_step hT rfl ?_ k
  show ip_sTs ex_ops d lo hi offs (sgF pc la (.inl v :: st) σ) = _
  unfold ip_sTs
  dsimp only [ex_ops]
  rw [if_pos ho, hp, if_pos (by omega)]
  rfl
/-- a field read -/
theorem rt_gfi {i q L : Nat} (hT : ip_T j pc = some (.getfield i, nx, a, b, c0)) (hK : Kd q a L) (hb : b < L) (hr : sh_rfk a q b = none) (h22 : Nat.beq a 22 = false) (k : RtF E F s j nx la (.inl (σ q b) :: st) σ r) : RtF E F s j pc la (rf q :: st) σ r := by
  obtain ⟨h1, h2, h3⟩ := hK
  refine rt_step hT rfl ?_ k
  show ip_sGf nx a b (sgF pc la (.inr (.inr (.inl (some q))) :: st) σ) = _
  unfold ip_sGf
  dsimp only
  rw [sg_nth σ h1]
  dsimp only
  rw [h2, show Nat.beq a a = true from Nat.beq_refl a]
  dsimp only [cond_true]
  rw [sg_fld σ (by rw [h3]; exact hb)]
  unfold sg_cv
  rw [show sh_rf q b = none by unfold sh_rf; rw [h2]; exact hr]
  dsimp only
  rw [if_neg (by rw [h2]; intro h; rw [h] at h22; exact absurd h22 (by decide))]
theorem rt_gfr {i q L t : Nat} (hT : ip_T j pc = some (.getfield i, nx, a, b, c0)) (hK : Kd q a L) (hb : b < L) (hr : sh_rfk a q b = some t) (k : RtF E F s j nx la (rf t :: st) σ r) : RtF E F s j pc la (rf q :: st) σ r := by
  obtain ⟨h1, h2, h3⟩ := hK
  refine rt_step hT rfl ?_ k
  show ip_sGf nx a b (sgF pc la (.inr (.inr (.inl (some q))) :: st) σ) = _
  unfold ip_sGf
  dsimp only
  rw [sg_nth σ h1]
  dsimp only
  rw [h2, show Nat.beq a a = true from Nat.beq_refl a]
  dsimp only [cond_true]
  rw [sg_fld σ (by rw [h3]; exact hb)]
  unfold sg_cv
  rw [show sh_rf q b = some t by unfold sh_rf; rw [h2]; exact hr]
/-- a field written: an int -/
theorem rt_pf {i q L : Nat} {v : Int32} (hT : ip_T j pc = some (.putfield i, nx, a, b, 0)) (hK : Kd q a L) (hb : b < L) (hr : sh_rfk a q b = none) (h22 : Nat.beq a 22 = false) (hσ : sg_up σ q b v = σ1) (k : RtF E F s j nx la st σ1 r) : RtF E F s j pc la (.inl v :: rf q :: st) σ r := by
  obtain ⟨h1, h2, h3⟩ := hK
  subst hσ
  refine rt_step hT rfl ?_ k
  show ip_sPf ex_ops nx a b 0 (sgF pc la (.inl v :: .inr (.inr (.inl (some q))) :: st) σ) = _
  unfold ip_sPf
  dsimp only
  rw [sg_nth σ h1]
  dsimp only
  rw [h2, show Nat.beq a a = true from Nat.beq_refl a]
  dsimp only [cond_true]
  rw [sg_fld σ (by rw [h3]; exact hb)]
  have h := sg_put (σ := σ) (v := v) h1 (by rw [h3]; exact hb) (show sh_rf q b = none by unfold sh_rf; rw [h2]; exact hr) (w := .inl v) (by rw [if_neg (by rw [h2]; intro h; rw [h] at h22; exact absurd h22 (by decide))])
  rw [h2] at h
  show some (Sum.inl (nx, la, st, ip_set (sg_mk σ) q (a, ip_set (sg_row σ q) b (.inl v)), 0, 0, false)) = _
  rw [h]
theorem bt_bit {v : Int32} (hv : bt v) : ip_bit (ex_ops.2.2.2 v) = true := by rcases hv with rfl | rfl <;> rfl
theorem rt_pz {i q L : Nat} {v : Int32} (hT : ip_T j pc = some (.putfield i, nx, a, b, 1)) (hK : Kd q a L) (hv : bt v) (hb : b < L) (hr : sh_rfk a q b = none) (h22 : Nat.beq a 22 = false) (hσ : sg_up σ q b v = σ1) (k : RtF E F s j nx la st σ1 r) : RtF E F s j pc la (.inl v :: rf q :: st) σ r := by
  obtain ⟨h1, h2, h3⟩ := hK
  subst hσ
  refine rt_step hT rfl ?_ k
  have hbit := bt_bit hv
  show ip_sPf ex_ops nx a b 1 (sgF pc la (.inl v :: .inr (.inr (.inl (some q))) :: st) σ) = _
  unfold ip_sPf
  dsimp only
  rw [sg_nth σ h1]
  dsimp only
  rw [h2, show Nat.beq a a = true from Nat.beq_refl a]
  dsimp only [cond_true]
  rw [sg_fld σ (by rw [h3]; exact hb)]
  have h := sg_put (σ := σ) (v := v) h1 (by rw [h3]; exact hb) (show sh_rf q b = none by unfold sh_rf; rw [h2]; exact hr) (w := .inl v) (by rw [if_neg (by rw [h2]; intro h; rw [h] at h22; exact absurd h22 (by decide))])
  rw [h2] at h
  show (bif ip_bit (ex_ops.2.2.2 v) then some (Sum.inl (nx, la, st, ip_set (sg_mk σ) q (a, ip_set (sg_row σ q) b (.inl v)), 0, 0, false)) else none) = _
  rw [hbit, h]
  rfl
theorem sg_rf20 {q k : Nat} (hk : sh_kd q = 20 ∨ sh_kd q = 21) : sh_rf q k = none := by
  unfold sh_rf
  rcases hk with hk | hk <;> (rw [hk]; try rfl)
theorem sg_cv20 {q k : Nat} (hk : sh_kd q = 20 ∨ sh_kd q = 21) : sg_cv σ q k = .inl (σ q k) := by
  unfold sg_cv
  rw [sg_rf20 hk]
  rcases hk with hk | hk <;> (rw [hk]; try rfl)
theorem sg_ix {i : Int32} (h0 : ¬ i < 0) : ip_ix (ex_ops.2.2.2 i) = some i.toNatClampNeg := by
  show (if i < 0 then none else some i.toNatClampNeg) = _
  rw [if_neg h0]
/-- a row read at an index -/
theorem rt_al {q L k0 : Nat} {i : Int32} (hT : ip_T j pc = some (.iaload, nx, a, b, c0)) (hK : Kd q 20 L) (hi : ix i L) (hk0 : ni i = k0) (k : RtF E F s j nx la (.inl (σ q k0) :: st) σ r) : RtF E F s j pc la (.inl i :: rf q :: st) σ r := by
  obtain ⟨h1, h2, h3⟩ := hK
  subst hk0
  refine rt_step hT rfl ?_ k
  show ip_ald ex_ops 20 nx (sgF pc la (.inl i :: .inr (.inr (.inl (some q))) :: st) σ) = _
  unfold ip_ald
  dsimp only
  rw [sg_ix hi.1, sg_nth σ h1]
  dsimp only
  rw [h2, show Nat.beq 20 20 = true from rfl]
  dsimp only [cond_true]
  rw [sg_fld σ (by rw [h3]; exact hi.2), sg_cv20 (Or.inl h2)]
theorem rt_zl {q L k0 : Nat} {i : Int32} (hT : ip_T j pc = some (.baload, nx, a, b, c0)) (hK : Kd q 21 L) (hi : ix i L) (hk0 : ni i = k0) (k : RtF E F s j nx la (.inl (σ q k0) :: st) σ r) : RtF E F s j pc la (.inl i :: rf q :: st) σ r := by
  obtain ⟨h1, h2, h3⟩ := hK
  subst hk0
  refine rt_step hT rfl ?_ k
  show ip_ald ex_ops 21 nx (sgF pc la (.inl i :: .inr (.inr (.inl (some q))) :: st) σ) = _
  unfold ip_ald
  dsimp only
  rw [sg_ix hi.1, sg_nth σ h1]
  dsimp only
  rw [h2, show Nat.beq 21 21 = true from rfl]
  dsimp only [cond_true]
  rw [sg_fld σ (by rw [h3]; exact hi.2), sg_cv20 (Or.inr h2)]
/-- a row written at an index -/
theorem rt_as {q L k0 : Nat} {i v : Int32} (hT : ip_T j pc = some (.iastore, nx, a, b, c0)) (hK : Kd q 20 L) (hi : ix i L) (hk0 : ni i = k0) (hσ : sg_up σ q k0 v = σ1) (k : RtF E F s j nx la st σ1 r) : RtF E F s j pc la (.inl v :: .inl i :: rf q :: st) σ r := by
  obtain ⟨h1, h2, h3⟩ := hK
  subst hk0
  subst hσ
  refine rt_step hT rfl ?_ k
  show ip_ast ex_ops 20 nx (.inl v) (sgF pc la (.inl i :: .inr (.inr (.inl (some q))) :: st) σ) = _
  unfold ip_ast
  dsimp only
  rw [sg_ix hi.1, sg_nth σ h1]
  dsimp only
  rw [h2, show Nat.beq 20 20 = true from rfl]
  dsimp only [cond_true]
  rw [sg_fld σ (by rw [h3]; exact hi.2)]
  dsimp only
  have h := sg_put (σ := σ) (v := v) h1 (by rw [h3]; exact hi.2) (sg_rf20 (Or.inl h2)) (w := .inl v) (by rw [h2]; rfl)
  rw [h2] at h
  rw [h]
theorem rt_zs {q L k0 : Nat} {i v : Int32} (hT : ip_T j pc = some (.bastore, nx, a, b, c0)) (hK : Kd q 21 L) (hv : bt v) (hi : ix i L) (hk0 : ni i = k0) (hσ : sg_up σ q k0 v = σ1) (k : RtF E F s j nx la st σ1 r) : RtF E F s j pc la (.inl v :: .inl i :: rf q :: st) σ r := by
  obtain ⟨h1, h2, h3⟩ := hK
  subst hk0
  subst hσ
  refine rt_step hT rfl ?_ k
  have hbit := bt_bit hv
  show ip_sBas ex_ops nx (sgF pc la (.inl v :: .inl i :: .inr (.inr (.inl (some q))) :: st) σ) = _
  unfold ip_sBas
  dsimp only
  rw [hbit]
  dsimp only [cond_true]
  unfold ip_ast
  dsimp only
  rw [sg_ix hi.1, sg_nth σ h1]
  dsimp only
  rw [h2, show Nat.beq 21 21 = true from rfl]
  dsimp only [cond_true]
  rw [sg_fld σ (by rw [h3]; exact hi.2)]
  dsimp only
  have h := sg_put (σ := σ) (v := v) h1 (by rw [h3]; exact hi.2) (sg_rf20 (Or.inr h2)) (w := .inl v) (by rw [h2]; rfl)
  rw [h2] at h
  rw [h]
/-- a row that stays -/
theorem rt_rl {t : Nat} {i : Int32} {ds : List Int32} (hT : ip_T j pc = some (.iaload, nx, a, b, c0)) (hr : (roS s)[t]? = some ds) (hi : ix i ds.length) (k : RtF E F s j nx la (.inl (ds.getD (ni i) 0) :: st) σ r) : RtF E F s j pc la (.inl i :: .inr (.inr (.inr t)) :: st) σ r := by
  refine rt_step hT rfl ?_ k
  show ip_sIal ex_ops (roS s) nx (sgF pc la (.inl i :: .inr (.inr (.inr t)) :: st) σ) = _
  unfold ip_sIal
  dsimp only
  rw [sg_ix hi.1, ip_nth_eq, hr]
  dsimp only
  rw [ip_nth_eq, show ds[i.toNatClampNeg]? = some (ds.getD (ni i) 0) by rw [List.getD_eq_getElem?_getD, List.getElem?_eq_getElem hi.2]; rfl]
/-- calls -/
theorem rt_call0 {jc : Nat} {as vc : List (ip_V Int32)} (hT : ip_T j pc = some x) (hs : ip_stop x = false) (h8 : Nat.beq x.2.2.2.2 8 = false) (hst : ip_step ex_ops (roS s) (ip_bc j) (ip_bs j) x (sgF pc la st σ) = some (.inr (jc, as, sgF pc1 la1 st1 σ))) (hc : Ct s jc as σ vc σ1) (k : RtF E F s j pc1 la1 (vc ++ st1) σ1 r) : RtF E F s j pc la st σ r := by
  obtain ⟨hrcv, hlen, hz, hz2, n1, pc', la', st', x', h, hx, hb⟩ := hc
  obtain ⟨n2, pc2, la2, st2, x2, h2, hx2, hb2⟩ := k
  refine ⟨max n1 n2 + 1, pc2, la2, st2, x2, ?_, hx2, hb2⟩
  show ip_body ex_ops (roS s) ip_hd (fun _ _ => false) (ip_run ex_ops (roS s) ip_hd (fun _ _ => false) (max n1 n2)) j (sgF pc la st σ) = _
  have e1 := ip_run_mono n1 (max n1 n2) (Nat.le_max_left _ _) _ _ _ h
  have e2 := ip_run_mono n2 (max n1 n2) (Nat.le_max_right _ _) _ _ _ h2
  have hcal : ip_cal ex_ops (ip_run ex_ops (roS s) ip_hd (fun _ _ => false) (max n1 n2)) j jc as (sgF pc1 la1 st1 σ) = some (sgF pc1 la1 (vc ++ st1) σ1) := by
    unfold ip_cal
    dsimp only
    rw [show ip_ent jc as (sg_mk σ) false = sgF 0 (as.map some ++ List.replicate (ip_mx jc - as.length) none) [] σ from rfl, e1]
    dsimp only
    rw [hx]
    dsimp only
    rw [show ip_back ex_ops x' st' = some vc from hb]
    dsimp only
    rw [hrcv, hlen, hz, hz2]
    rfl
  unfold ip_body
  dsimp only
  rw [hT]
  dsimp only
  rw [hs, hst]
  dsimp only
  rw [h8]
  dsimp only [cond_false, Bool.or_false]
  rw [hcal]
  exact e2
theorem sg_ne (σ : sg_S) : ip_ne (sg_mk σ) 0 = true := rfl
theorem ip_inv_eq {jc n : Nat} {as : List (ip_V Int32)} (ha : ip_arg n [] st = some (as, st1)) (hc : Nat.ble (ip_cat st1) 8 = true) : ip_inv jc n nx (sgF pc la st σ) = some (.inr (jc, as, sgF nx la st1 σ)) := by
  unfold ip_inv
  dsimp only
  rw [ha]
  dsimp only
  rw [sg_ne, hc]
  rfl
theorem rt_iv {i jc n : Nat} {as vc : List (ip_V Int32)} (hT : ip_T j pc = some (.invokevirtual i, nx, jc, n, 0)) (ha : ip_arg (n + 1) [] st = some (as, st1)) (h8 : Nat.ble (ip_cat st1) 8 = true) (hc : Ct s jc as σ vc σ1) (k : RtF E F s j nx la (vc ++ st1) σ1 r) : RtF E F s j pc la st σ r :=
  rt_call0 hT rfl rfl (ip_inv_eq (pc := pc) ha h8) hc k
theorem rt_is {i jc n : Nat} {as vc : List (ip_V Int32)} (hT : ip_T j pc = some (.invokestatic i, nx, jc, n, 1)) (ha : ip_arg n [] st = some (as, st1)) (h8 : Nat.ble (ip_cat st1) 8 = true) (hc : Ct s jc as σ vc σ1) (k : RtF E F s j nx la (vc ++ st1) σ1 r) : RtF E F s j pc la st σ r :=
  rt_call0 hT rfl rfl (ip_inv_eq (pc := pc) ha h8) hc k
theorem rt_max {i : Nat} {u v : Int32} (hT : ip_T j pc = some (.invokestatic i, nx, a, b, 4)) (h8 : Nat.ble (ip_cat st) 8 = true) (k : RtF E F s j nx la (.inl (if u < v then v else u) :: st) σ r) : RtF E F s j pc la (.inl v :: .inl u :: st) σ r := by
  refine rt_step hT rfl ?_ k
  show ip_sIs ex_ops (ip_bc j) (ip_bs j) nx a b 4 (sgF pc la (.inl v :: .inl u :: st) σ) = _
  unfold ip_sIs
  dsimp only
  rw [h8, show Nat.ble 0 (ip_bc j) = true from Nat.ble_eq.mpr (Nat.zero_le _), show Nat.ble 0 (ip_bs j) = true from Nat.ble_eq.mpr (Nat.zero_le _)]
  by_cases h : u < v
  · rw [if_pos h, show ex_ops.2.2.1 2 u v = some true from congrArg some (decide_eq_true h)]
    rfl
  · rw [if_neg h, show ex_ops.2.2.1 2 u v = some false from congrArg some (decide_eq_false h)]
    rfl
/-- a method, called -/
theorem ct_v {jc q L oc : Nat} {as : List (ip_V Int32)} {vs : List (ip_V Int32)} (hK : Kd q oc L) (hoc : ip_oc jc = oc) (h6 : Nat.ble (oc + 1) 6 = true) (hkd : ip_kd jc = 0) (hlen : Nat.ble (as.length + 1) (ip_mx jc) = true) (hz : ip_bc jc = 0) (hz2 : ip_bs jc = 0) (hl : some (rf q) :: (as.map some ++ List.replicate (ip_mx jc - (as.length + 1)) none) = la) (k : RtG bk s jc 0 la [] σ vs σ1) : Ct s jc (rf q :: as) σ vs σ1 := by
  subst hl
  refine ⟨?_, hlen, hz, hz2, k⟩
  rw [hkd, hoc]
  unfold ip_rcv
  dsimp only
  rw [sg_nth σ hK.1]
  dsimp only
  rw [hK.2.1, Nat.beq_refl oc, h6]
  rfl
theorem ct_s {jc : Nat} {as : List (ip_V Int32)} {vs : List (ip_V Int32)} (hkd : ip_kd jc = 1) (hlen : Nat.ble as.length (ip_mx jc) = true) (hz : ip_bc jc = 0) (hz2 : ip_bs jc = 0) (hl : as.map some ++ List.replicate (ip_mx jc - as.length) none = la) (k : RtG bk s jc 0 la [] σ vs σ1) : Ct s jc as σ vs σ1 := by
  subst hl
  refine ⟨?_, hlen, hz, hz2, k⟩
  rw [hkd]
  rfl
end RtRules
