def sh_kd (q : Nat) : Nat := match q with
  | 0 => 4
  | 1 => 2
  | 2 => 20
  | 3 => 20
  | 4 => 20
  | 5 => 3
  | 6 => 20
  | 7 => 0
  | 8 => 1
  | 9 => 20
  | 10 => 20
  | 11 => 20
  | 12 => 20
  | 13 => 20
  | 14 => 1
  | 15 => 20
  | 16 => 20
  | 17 => 20
  | 18 => 20
  | 19 => 20
  | 20 => 0
  | 21 => 1
  | 22 => 20
  | 23 => 20
  | 24 => 20
  | 25 => 20
  | 26 => 20
  | 27 => 1
  | 28 => 20
  | 29 => 20
  | 30 => 20
  | 31 => 20
  | 32 => 20
  | 33 => 20
  | 34 => 20
  | 35 => 5
  | 36 => 20
  | 37 => 20
  | 38 => 20
  | 39 => 20
  | 40 => 20
  | 41 => 20
  | 42 => 20
  | 43 => 20
  | 44 => 20
  | 45 => 20
  | 46 => 20
  | 47 => 21
  | 48 => 20
  | 49 => 20
  | 50 => 20
  | 51 => 20
  | 52 => 20
  | 53 => 20
  | 54 => 20
  | 55 => 20
  | 56 => 20
  | 57 => 20
  | 58 => 20
  | 59 => 20
  | 60 => 22
  | _ => 99
def sh_len (q : Nat) : Nat := match q with
  | 0 => 9
  | 1 => 3
  | 2 => 50
  | 3 => 50
  | 4 => 5
  | 5 => 5
  | 6 => 500
  | 7 => 5
  | 8 => 14
  | 9 => 60
  | 10 => 95
  | 11 => 7
  | 12 => 10
  | 13 => 10
  | 14 => 14
  | 15 => 60
  | 16 => 95
  | 17 => 7
  | 18 => 10
  | 19 => 10
  | 20 => 5
  | 21 => 14
  | 22 => 60
  | 23 => 95
  | 24 => 7
  | 25 => 10
  | 26 => 10
  | 27 => 14
  | 28 => 60
  | 29 => 95
  | 30 => 7
  | 31 => 10
  | 32 => 10
  | 33 => 400
  | 34 => 400
  | 35 => 35
  | 36 => 5
  | 37 => 50
  | 38 => 50
  | 39 => 400
  | 40 => 400
  | 41 => 2
  | 42 => 2
  | 43 => 2
  | 44 => 2
  | 45 => 2
  | 46 => 2
  | 47 => 2
  | 48 => 2
  | 49 => 2
  | 50 => 200
  | 51 => 20
  | 52 => 20
  | 53 => 40
  | 54 => 40
  | 55 => 40
  | 56 => 14
  | 57 => 500
  | 58 => 3
  | 59 => 3
  | 60 => 1
  | _ => 0
def sh_rf (q k : Nat) : Option Nat := match sh_kd q with
  | 4 => (match k with
    | 0 => some 1
    | 1 => some 5
    | 2 => some 7
    | 3 => some 20
    | 4 => some 33
    | 5 => some 34
    | _ => none)
  | 2 => (match k with
    | 0 => some 2
    | 1 => some 3
    | 2 => some 4
    | _ => none)
  | 3 => (match k with
    | 0 => some 6
    | _ => none)
  | 0 => (match k with
    | 0 => some 1
    | 1 => some (q + 1)
    | 2 => some (q + 7)
    | _ => none)
  | 1 => (match k with
    | 9 => some (q + 1)
    | 10 => some (q + 2)
    | 11 => some (q + 3)
    | 12 => some (q + 4)
    | 13 => some (q + 5)
    | _ => none)
  | 5 => (match k with
    | 1 => some 36
    | 2 => some 37
    | 3 => some 38
    | 4 => some 39
    | 5 => some 40
    | 7 => some 41
    | 8 => some 42
    | 9 => some 43
    | 10 => some 44
    | 11 => some 45
    | 12 => some 46
    | 13 => some 47
    | 14 => some 48
    | 15 => some 49
    | 16 => some 50
    | 17 => some 51
    | 18 => some 52
    | 19 => some 53
    | 20 => some 54
    | 21 => some 55
    | 22 => some 56
    | 25 => some 57
    | 33 => some 58
    | 34 => some 59
    | _ => none)
  | _ => none
abbrev sg_S : Type := Nat → Nat → Int32
def sg_up (σ : sg_S) (q k : Nat) (v : Int32) : sg_S := fun q' k' => if q' = q ∧ k' = k then v else σ q' k'
def sg_cv (σ : sg_S) (q k : Nat) : ip_V Int32 := match sh_rf q k with
  | some r => .inr (.inr (.inl (some r)))
  | none => if sh_kd q = 22 then .inr (.inl (σ q k)) else .inl (σ q k)
def sg_row (σ : sg_S) (q : Nat) : List (ip_V Int32) := (List.range (sh_len q)).map (sg_cv σ q)
def sg_mk (σ : sg_S) : ip_Hp Int32 := (List.range 61).map (fun q => (sh_kd q, sg_row σ q))
theorem sg_nth (σ : sg_S) {q : Nat} (hq : q < 61) : ip_nth (sg_mk σ) q = some (sh_kd q, sg_row σ q) := by
  rw [ip_nth_eq]
  simp [sg_mk, hq]
theorem sg_fld (σ : sg_S) {q k : Nat} (hk : k < sh_len q) : ip_nth (sg_row σ q) k = some (sg_cv σ q k) := by
  rw [ip_nth_eq]
  simp [sg_row, hk]
theorem sg_cv_up {σ : sg_S} {q k q' i : Nat} {v : Int32} (h : ¬ (q' = q ∧ i = k)) : sg_cv (sg_up σ q k v) q' i = sg_cv σ q' i := by
  unfold sg_cv sg_up
  rw [if_neg h]
theorem sg_row_up {σ : sg_S} {q k : Nat} {v : Int32} (hk : k < sh_len q) (hr : sh_rf q k = none) {w : ip_V Int32} (hw : w = if sh_kd q = 22 then .inr (.inl v) else .inl v) : ip_set (sg_row σ q) k w = sg_row (sg_up σ q k v) q := by
  rw [ip_set_eq]
  apply List.ext_getElem?
  intro i
  rw [List.getElem?_set]
  by_cases e : k = i
  · subst e
    have hl : k < (sg_row σ q).length := by simp [sg_row, hk]
    rw [if_pos rfl, if_pos hl, ← ip_nth_eq, sg_fld _ hk, hw]
    unfold sg_cv
    rw [hr]
    simp [sg_up]
  · rw [if_neg e]
    by_cases hi : i < sh_len q
    · rw [← ip_nth_eq, ← ip_nth_eq, sg_fld _ hi, sg_fld _ hi, sg_cv_up (fun h => e h.2.symm)]
    · simp [sg_row, hi]
theorem sg_row_other {σ : sg_S} {q k q' : Nat} {v : Int32} (h : ¬ q' = q) : sg_row (sg_up σ q k v) q' = sg_row σ q' := by
  unfold sg_row
  congr 1
  funext i
  exact sg_cv_up (fun z => h z.1)
theorem sg_put {σ : sg_S} {q k : Nat} {v : Int32} (hq : q < 61) (hk : k < sh_len q) (hr : sh_rf q k = none) {w : ip_V Int32} (hw : w = if sh_kd q = 22 then .inr (.inl v) else .inl v) : ip_set (sg_mk σ) q (sh_kd q, ip_set (sg_row σ q) k w) = sg_mk (sg_up σ q k v) := by
  rw [sg_row_up hk hr hw, ip_set_eq]
  apply List.ext_getElem?
  intro i
  rw [List.getElem?_set]
  by_cases e : q = i
  · subst e
    have hl : q < (sg_mk σ).length := by simp [sg_mk, hq]
    rw [if_pos rfl, if_pos hl, ← ip_nth_eq, sg_nth _ hq]
  · rw [if_neg e]
    by_cases hi : i < 61
    · rw [← ip_nth_eq, ← ip_nth_eq, sg_nth _ hi, sg_nth _ hi, sg_row_other (fun z => e z.symm)]
    · simp [sg_mk, hi]
/-! what a method answers, from a frame on: its stack's top behind it, and the ints -/
abbrev sgF (pc : Nat) (la : List (Option (ip_V Int32))) (st : List (ip_V Int32)) (σ : sg_S) : ip_Fr Int32 := (pc, la, st, sg_mk σ, 0, 0, false)
def Rt (ro : List (List Int32)) (j pc : Nat) (la : List (Option (ip_V Int32))) (st : List (ip_V Int32)) (σ : sg_S) (vs : List (ip_V Int32)) (σ' : sg_S) : Prop :=
  ∃ n pc' la' st' x, ip_run ex_ops ro ip_hd (fun _ _ => false) n j (sgF pc la st σ) = some (sgF pc' la' st' σ') ∧ ip_T j pc' = some x ∧ ip_back ex_ops x st' = some vs
section Rules
variable {ro : List (List Int32)} {j pc pc1 : Nat} {la la1 : List (Option (ip_V Int32))} {st st1 : List (ip_V Int32)} {σ σ1 σ' : sg_S} {vs : List (ip_V Int32)} {x : ip_E}
theorem rt_end (hT : ip_T j pc = some x) (hs : ip_stop x = true) (hb : ip_back ex_ops x st = some vs) : Rt ro j pc la st σ vs σ := by
  refine ⟨1, pc, la, st, x, ?_, hT, hb⟩
  show ip_body ex_ops ro ip_hd (fun _ _ => false) _ j (sgF pc la st σ) = _
  unfold ip_body
  dsimp only
  rw [hT]
  dsimp only
  rw [hs]
  rfl
theorem rt_step (hT : ip_T j pc = some x) (hs : ip_stop x = false) (hst : ip_step ex_ops ro (ip_bc j) (ip_bs j) x (sgF pc la st σ) = some (.inl (sgF pc1 la1 st1 σ1))) (k : Rt ro j pc1 la1 st1 σ1 vs σ') : Rt ro j pc la st σ vs σ' := by
  obtain ⟨n, pc', la', st', x', h, hx, hb⟩ := k
  refine ⟨n + 1, pc', la', st', x', ?_, hx, hb⟩
  show ip_body ex_ops ro ip_hd (fun _ _ => false) (ip_run ex_ops ro ip_hd (fun _ _ => false) n) j (sgF pc la st σ) = _
  unfold ip_body
  dsimp only
  rw [hT]
  dsimp only
  rw [hs, hst]
  exact h
theorem rt_call {jc : Nat} {as vc : List (ip_V Int32)} {n9 : Nat} (hT : ip_T j pc = some x) (hs : ip_stop x = false) (h8 : Nat.beq x.2.2.2.2 8 = false) (hst : ip_step ex_ops ro (ip_bc j) (ip_bs j) x (sgF pc la st σ) = some (.inr (jc, as, sgF pc1 la1 st1 σ))) (hc : Rt ro jc 0 (as.map some ++ List.replicate n9 none) [] σ vc σ1) (hn9 : ip_mx jc - as.length = n9)
    (hrcv : ip_rcv (sg_mk σ) (ip_kd jc) (ip_oc jc) as = true) (hlen : Nat.ble as.length (ip_mx jc) = true) (hz : ip_bc jc = 0) (hz2 : ip_bs jc = 0) (k : Rt ro j pc1 la1 (vc ++ st1) σ1 vs σ') : Rt ro j pc la st σ vs σ' := by
  obtain ⟨n1, pc', la', st', x', h, hx, hb⟩ := hc
  obtain ⟨n2, pc2, la2, st2, x2, h2, hx2, hb2⟩ := k
  subst hn9
  refine ⟨max n1 n2 + 1, pc2, la2, st2, x2, ?_, hx2, hb2⟩
  show ip_body ex_ops ro ip_hd (fun _ _ => false) (ip_run ex_ops ro ip_hd (fun _ _ => false) (max n1 n2)) j (sgF pc la st σ) = _
  have e1 := ip_run_mono n1 (max n1 n2) (Nat.le_max_left _ _) _ _ _ h
  have e2 := ip_run_mono n2 (max n1 n2) (Nat.le_max_right _ _) _ _ _ h2
  have hcal : ip_cal ex_ops (ip_run ex_ops ro ip_hd (fun _ _ => false) (max n1 n2)) j jc as (sgF pc1 la1 st1 σ) = some (sgF pc1 la1 (vc ++ st1) σ1) := by
    unfold ip_cal
    dsimp only
    rw [show ip_ent jc as (sg_mk σ) false = sgF 0 (as.map some ++ List.replicate (ip_mx jc - as.length) none) [] σ from rfl, e1]
    dsimp only
    rw [hx]
    dsimp only
    rw [hb]
    dsimp only
    rw [hrcv, hlen, hz, hz2]
    rfl
  unfold ip_body
  dsimp only
  rw [hT]
  dsimp only
  rw [hs, hst]
  dsimp only
  rw [h8]
  dsimp only [cond_false, Bool.or_false]
  rw [hcal]
  exact e2
/-- a branch -/
theorem rt_if {k : ClassFile.Cond} {off : Int} {nx a b c0 : Nat} {u : Int32} (hT : ip_T j pc = some (.ifCond k off, nx, a, b, c0)) (k1 : ip_cI (ip_cc k) u 0 = true → Rt ro j a la st σ vs σ') (k2 : ip_cI (ip_cc k) u 0 = false → Rt ro j nx la st σ vs σ') : Rt ro j pc la (.inl u :: st) σ vs σ' := by
  cases h : ip_cI (ip_cc k) u 0 with
  | true =>
    refine rt_step hT rfl ?_ (k1 h)
    show ip_br (some (ip_cI (ip_cc k) u 0)) nx a la st (sg_mk σ) 0 0 false = _
    rw [h]
    rfl
  | false =>
    refine rt_step hT rfl ?_ (k2 h)
    show ip_br (some (ip_cI (ip_cc k) u 0)) nx a la st (sg_mk σ) 0 0 false = _
    rw [h]
    rfl
theorem rt_ic {k : ClassFile.Cond} {off : Int} {nx a b c0 : Nat} {u v : Int32} (hT : ip_T j pc = some (.if_icmp k off, nx, a, b, c0)) (k1 : ip_cI (ip_cc k) u v = true → Rt ro j a la st σ vs σ') (k2 : ip_cI (ip_cc k) u v = false → Rt ro j nx la st σ vs σ') : Rt ro j pc la (.inl v :: .inl u :: st) σ vs σ' := by
  cases h : ip_cI (ip_cc k) u v with
  | true =>
    refine rt_step hT rfl ?_ (k1 h)
    show ip_br (some (ip_cI (ip_cc k) u v)) nx a la st (sg_mk σ) 0 0 false = _
    rw [h]
    rfl
  | false =>
    refine rt_step hT rfl ?_ (k2 h)
    show ip_br (some (ip_cI (ip_cc k) u v)) nx a la st (sg_mk σ) 0 0 false = _
    rw [h]
    rfl
/-- branches, in words -/
def ip_cP (k : ClassFile.Cond) (u v : Int32) : Prop := match k with
  | .eq => u = v
  | .ne => ¬ u = v
  | .lt => u < v
  | .ge => v ≤ u
  | .gt => v < u
  | .le => u ≤ v
theorem ip_cP_t {k : ClassFile.Cond} {u v : Int32} (h : ip_cI (ip_cc k) u v = true) : ip_cP k u v := by
  cases k
  · exact of_decide_eq_true (p := u = v) h
  · exact of_decide_eq_true (p := ¬ u = v) h
  · exact of_decide_eq_true (p := u < v) h
  · exact of_decide_eq_true (p := v ≤ u) h
  · exact of_decide_eq_true (p := v < u) h
  · exact of_decide_eq_true (p := u ≤ v) h
theorem ip_cP_f {k : ClassFile.Cond} {u v : Int32} (h : ip_cI (ip_cc k) u v = false) : ¬ ip_cP k u v := by
  cases k
  · exact of_decide_eq_false (p := u = v) h
  · exact of_decide_eq_false (p := ¬ u = v) h
  · exact of_decide_eq_false (p := u < v) h
  · exact of_decide_eq_false (p := v ≤ u) h
  · exact of_decide_eq_false (p := v < u) h
  · exact of_decide_eq_false (p := u ≤ v) h
theorem rt_ifP {k : ClassFile.Cond} {off : Int} {nx a b c0 : Nat} {u : Int32} (hT : ip_T j pc = some (.ifCond k off, nx, a, b, c0)) (k1 : ip_cP k u 0 → Rt ro j a la st σ vs σ') (k2 : ¬ ip_cP k u 0 → Rt ro j nx la st σ vs σ') : Rt ro j pc la (.inl u :: st) σ vs σ' :=
  rt_if hT (fun h => k1 (ip_cP_t h)) (fun h => k2 (ip_cP_f h))
theorem rt_icP {k : ClassFile.Cond} {off : Int} {nx a b c0 : Nat} {u v : Int32} (hT : ip_T j pc = some (.if_icmp k off, nx, a, b, c0)) (k1 : ip_cP k u v → Rt ro j a la st σ vs σ') (k2 : ¬ ip_cP k u v → Rt ro j nx la st σ vs σ') : Rt ro j pc la (.inl v :: .inl u :: st) σ vs σ' :=
  rt_ic hT (fun h => k1 (ip_cP_t h)) (fun h => k2 (ip_cP_f h))
/-- a field read -/
theorem rt_gf {i : Nat} {nx a b c0 q : Nat} (hT : ip_T j pc = some (.getfield i, nx, a, b, c0)) (hq : q < 61) (hk : sh_kd q = a) (hb : b < sh_len q) (k : Rt ro j nx la (sg_cv σ q b :: st) σ vs σ') : Rt ro j pc la (.inr (.inr (.inl (some q))) :: st) σ vs σ' := by
  refine rt_step hT rfl ?_ k
  show ip_sGf nx a b (sgF pc la (.inr (.inr (.inl (some q))) :: st) σ) = _
  unfold ip_sGf
  dsimp only
  rw [sg_nth σ hq]
  dsimp only
  rw [hk, show Nat.beq a a = true from Nat.beq_refl a]
  dsimp only [cond_true]
  rw [sg_fld σ hb]
/-- a field written: an int -/
theorem rt_pf {i : Nat} {nx a b q : Nat} {v : Int32} (hT : ip_T j pc = some (.putfield i, nx, a, b, 0)) (hq : q < 61) (hk : sh_kd q = a) (ha : ¬ a = 22) (hb : b < sh_len q) (hr : sh_rf q b = none) (k : Rt ro j nx la st (sg_up σ q b v) vs σ') : Rt ro j pc la (.inl v :: .inr (.inr (.inl (some q))) :: st) σ vs σ' := by
  refine rt_step hT rfl ?_ k
  show ip_sPf ex_ops nx a b 0 (sgF pc la (.inl v :: .inr (.inr (.inl (some q))) :: st) σ) = _
  unfold ip_sPf
  dsimp only
  rw [sg_nth σ hq]
  dsimp only
  rw [hk, show Nat.beq a a = true from Nat.beq_refl a]
  dsimp only [cond_true]
  rw [sg_fld σ hb]
  have h := sg_put (σ := σ) (v := v) hq hb hr (w := .inl v) (by rw [hk, if_neg ha])
  rw [hk] at h
  show some (Sum.inl (nx, la, st, ip_set (sg_mk σ) q (a, ip_set (sg_row σ q) b (.inl v)), 0, 0, false)) = _
  rw [h]
theorem sg_rf20 {q k : Nat} (hk : sh_kd q = 20 ∨ sh_kd q = 21) : sh_rf q k = none := by
  unfold sh_rf
  rcases hk with hk | hk <;> (rw [hk]; try rfl)
theorem sg_cv20 {q k : Nat} (hk : sh_kd q = 20 ∨ sh_kd q = 21) : sg_cv σ q k = .inl (σ q k) := by
  unfold sg_cv
  rw [sg_rf20 hk]
  rcases hk with hk | hk <;> (rw [hk]; try rfl)
theorem sg_ix {i : Int32} (h0 : ¬ i < 0) : ip_ix (ex_ops.2.2.2 i) = some i.toNatClampNeg := by
  show (if i < 0 then none else some i.toNatClampNeg) = _
  rw [if_neg h0]
/-- a row read at an index -/
theorem rt_al {nx a b c0 q : Nat} {i : Int32} (hT : ip_T j pc = some (.iaload, nx, a, b, c0)) (hq : q < 61) (hk : sh_kd q = 20) (h0 : ¬ i < 0) (h1 : i.toNatClampNeg < sh_len q) (k : Rt ro j nx la (.inl (σ q i.toNatClampNeg) :: st) σ vs σ') : Rt ro j pc la (.inl i :: .inr (.inr (.inl (some q))) :: st) σ vs σ' := by
  refine rt_step hT rfl ?_ k
  show ip_ald ex_ops 20 nx (sgF pc la (.inl i :: .inr (.inr (.inl (some q))) :: st) σ) = _
  unfold ip_ald
  dsimp only
  rw [sg_ix h0, sg_nth σ hq]
  dsimp only
  rw [hk, show Nat.beq 20 20 = true from rfl]
  dsimp only [cond_true]
  rw [sg_fld σ h1, sg_cv20 (Or.inl hk)]
theorem rt_zl {nx a b c0 q : Nat} {i : Int32} (hT : ip_T j pc = some (.baload, nx, a, b, c0)) (hq : q < 61) (hk : sh_kd q = 21) (h0 : ¬ i < 0) (h1 : i.toNatClampNeg < sh_len q) (k : Rt ro j nx la (.inl (σ q i.toNatClampNeg) :: st) σ vs σ') : Rt ro j pc la (.inl i :: .inr (.inr (.inl (some q))) :: st) σ vs σ' := by
  refine rt_step hT rfl ?_ k
  show ip_ald ex_ops 21 nx (sgF pc la (.inl i :: .inr (.inr (.inl (some q))) :: st) σ) = _
  unfold ip_ald
  dsimp only
  rw [sg_ix h0, sg_nth σ hq]
  dsimp only
  rw [hk, show Nat.beq 21 21 = true from rfl]
  dsimp only [cond_true]
  rw [sg_fld σ h1, sg_cv20 (Or.inr hk)]
/-- a row written at an index -/
theorem rt_as {nx a b c0 q : Nat} {i v : Int32} (hT : ip_T j pc = some (.iastore, nx, a, b, c0)) (hq : q < 61) (hk : sh_kd q = 20) (h0 : ¬ i < 0) (h1 : i.toNatClampNeg < sh_len q) (k : Rt ro j nx la st (sg_up σ q i.toNatClampNeg v) vs σ') : Rt ro j pc la (.inl v :: .inl i :: .inr (.inr (.inl (some q))) :: st) σ vs σ' := by
  refine rt_step hT rfl ?_ k
  show ip_ast ex_ops 20 nx (.inl v) (sgF pc la (.inl i :: .inr (.inr (.inl (some q))) :: st) σ) = _
  unfold ip_ast
  dsimp only
  rw [sg_ix h0, sg_nth σ hq]
  dsimp only
  rw [hk, show Nat.beq 20 20 = true from rfl]
  dsimp only [cond_true]
  rw [sg_fld σ h1]
  dsimp only
  have h := sg_put (σ := σ) (v := v) hq h1 (sg_rf20 (Or.inl hk)) (w := .inl v) (by rw [hk]; rfl)
  rw [hk] at h
  rw [h]
theorem rt_zs {nx a b c0 q : Nat} {i v : Int32} (hT : ip_T j pc = some (.bastore, nx, a, b, c0)) (hv : v = 0 ∨ v = 1) (hq : q < 61) (hk : sh_kd q = 21) (h0 : ¬ i < 0) (h1 : i.toNatClampNeg < sh_len q) (k : Rt ro j nx la st (sg_up σ q i.toNatClampNeg v) vs σ') : Rt ro j pc la (.inl v :: .inl i :: .inr (.inr (.inl (some q))) :: st) σ vs σ' := by
  refine rt_step hT rfl ?_ k
  have hbit : ip_bit (ex_ops.2.2.2 v) = true := by rcases hv with rfl | rfl <;> rfl
  show ip_sBas ex_ops nx (sgF pc la (.inl v :: .inl i :: .inr (.inr (.inl (some q))) :: st) σ) = _
  unfold ip_sBas
  dsimp only
  rw [hbit]
  dsimp only [cond_true]
  unfold ip_ast
  dsimp only
  rw [sg_ix h0, sg_nth σ hq]
  dsimp only
  rw [hk, show Nat.beq 21 21 = true from rfl]
  dsimp only [cond_true]
  rw [sg_fld σ h1]
  dsimp only
  have h := sg_put (σ := σ) (v := v) hq h1 (sg_rf20 (Or.inr hk)) (w := .inl v) (by rw [hk]; rfl)
  rw [hk] at h
  rw [h]
/-- a row that stays (the statics, the script) -/
theorem rt_rl {nx a b c0 t : Nat} {i d : Int32} {ds : List Int32} (hT : ip_T j pc = some (.iaload, nx, a, b, c0)) (hr : ro[t]? = some ds) (h0 : ¬ i < 0) (h1 : ds[i.toNatClampNeg]? = some d) (k : Rt ro j nx la (.inl d :: st) σ vs σ') : Rt ro j pc la (.inl i :: .inr (.inr (.inr t)) :: st) σ vs σ' := by
  refine rt_step hT rfl ?_ k
  show ip_sIal ex_ops ro nx (sgF pc la (.inl i :: .inr (.inr (.inr t)) :: st) σ) = _
  unfold ip_sIal
  dsimp only
  rw [sg_ix h0, ip_nth_eq, hr]
  dsimp only
  rw [ip_nth_eq, h1]
/-- a field written: a boolean -/
theorem rt_pz {i : Nat} {nx a b q : Nat} {v : Int32} (hT : ip_T j pc = some (.putfield i, nx, a, b, 1)) (hv : v = 0 ∨ v = 1) (hq : q < 61) (hk : sh_kd q = a) (ha : ¬ a = 22) (hb : b < sh_len q) (hr : sh_rf q b = none) (k : Rt ro j nx la st (sg_up σ q b v) vs σ') : Rt ro j pc la (.inl v :: .inr (.inr (.inl (some q))) :: st) σ vs σ' := by
  refine rt_step hT rfl ?_ k
  have hbit : ip_bit (ex_ops.2.2.2 v) = true := by rcases hv with rfl | rfl <;> rfl
  show ip_sPf ex_ops nx a b 1 (sgF pc la (.inl v :: .inr (.inr (.inl (some q))) :: st) σ) = _
  unfold ip_sPf
  dsimp only
  rw [sg_nth σ hq]
  dsimp only
  rw [hk, show Nat.beq a a = true from Nat.beq_refl a]
  dsimp only [cond_true]
  rw [sg_fld σ hb]
  have h := sg_put (σ := σ) (v := v) hq hb hr (w := .inl v) (by rw [hk, if_neg ha])
  rw [hk] at h
  show (bif ip_bit (ex_ops.2.2.2 v) then some (Sum.inl (nx, la, st, ip_set (sg_mk σ) q (a, ip_set (sg_row σ q) b (.inl v)), 0, 0, false)) else none) = _
  rw [hbit, h]
  rfl
end Rules
