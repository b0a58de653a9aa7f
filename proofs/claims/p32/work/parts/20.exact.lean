/-! THE EXACT DOMAIN; heaps of one shape as tables of ints -/
def ex_bin (o : Nat) (x y : Int32) : Option Int32 := bif (Nat.beq o 3 || Nat.beq o 4) && decide (y = 0) then none else some (ip_bI o x y)
def ex_ops : ip_O Int32 := (fun i => i, ex_bin, fun o x y => some (ip_cI o x y), fun x => some x)
def ex_R (x i : Int32) : Prop := i = x
theorem ex_ok : ip_okO ex_R ex_ops := by
  refine ⟨fun i => rfl, fun o x y z u v h hx hy => ?_, fun o x y t u v h hx hy => ?_, fun x i u h hx => ?_⟩
  · cases hx
    cases hy
    have h : ex_bin o x y = some z := h
    unfold ex_bin at h
    cases hb : ((Nat.beq o 3 || Nat.beq o 4) && decide (y = 0)) with
    | true => rw [hb] at h; cases h
    | false =>
      rw [hb] at h
      cases h
      refine ⟨fun q => ?_, rfl⟩
      have hdv : (Nat.beq o 3 || Nat.beq o 4) = true := by rcases q with rfl | rfl <;> rfl
      rw [hdv, Bool.true_and] at hb
      exact of_decide_eq_false hb
  · cases hx
    cases hy
    exact Option.some.inj h
  · cases hx
    exact Option.some.inj h
/-! fuel: more is no harm -/
section Mono
variable {D : Type} {ops : ip_O D} {ro : List (List D)} {hd : Nat → Nat} {sp : Nat → Nat → Bool}
theorem ip_cal_mono {r1 r2 : Nat → ip_Fr D → Option (ip_Fr D)} (hm : ∀ j f fe, r1 j f = some fe → r2 j f = some fe) {j jc : Nat} {as : List (ip_V D)} {f f2 : ip_Fr D} (h : ip_cal ops r1 j jc as f = some f2) : ip_cal ops r2 j jc as f = some f2 := by
  obtain ⟨pc, ls, st, hp, mc, ms, fz⟩ := f
  unfold ip_cal at h ⊢
  (try dsimp only at h ⊢)
  cases h1 : r1 jc (ip_ent jc as hp fz) with
  | none => rw [h1] at h; cases h
  | some fe =>
    rw [h1] at h
    rw [hm _ _ _ h1]
    exact h
theorem ip_thr_mono {r1 r2 : Nat → ip_Fr D → Option (ip_Fr D)} (hm : ∀ j f fe, r1 j f = some fe → r2 j f = some fe) {jt : Nat} {as : List (ip_V D)} {hp : ip_Hp D} {z : Option D × ip_Hp D} (h : ip_thr r1 jt as hp = some z) : ip_thr r2 jt as hp = some z := by
  unfold ip_thr at h ⊢
  cases h1 : r1 jt (ip_ent jt as hp false) with
  | none => rw [h1] at h; cases h
  | some fe =>
    rw [h1] at h
    rw [hm _ _ _ h1]
    exact h
theorem ip_tr2_mono {r1 r2 : Nat → ip_Fr D → Option (ip_Fr D)} (hm : ∀ j f fe, r1 j f = some fe → r2 j f = some fe) {jc : Nat} {f f2 : ip_Fr D} (h : ip_tr2 r1 hd jc f = some f2) : ip_tr2 r2 hd jc f = some f2 := by
  unfold ip_tr2 at h ⊢
  split at h
  case h_2 => cases h
  rename_i pc1 ls1 st1 hp1 fz1
  try dsimp only
  split at h
  case h_2 => cases h
  rename_i q1 nx1 jt b hx1
  try rw [hx1]
  try dsimp only
  split at h
  · cases h
  rename_i as1 st2 harg
  try rw [harg]
  try dsimp only
  cases hcond : (ip_rcv hp1 0 (ip_oc jt) as1 && (Nat.ble as1.length (ip_mx jt) && (Nat.ble (ip_cat st2) 8 && (Nat.ble (ip_bc jt) (ip_bc jc) && Nat.ble (ip_bs jt) (ip_bs jc))))) with
  | false => rw [hcond] at h; cases h
  | true =>
    rw [hcond] at h
    (try dsimp only [cond_true] at h ⊢)
    cases h1 : ip_thr r1 jt as1 hp1 with
    | none => rw [h1] at h; cases h
    | some z =>
      rw [h1] at h
      rw [ip_thr_mono hm h1]
      exact h
theorem ip_cat2_mono {r1 r2 : Nat → ip_Fr D → Option (ip_Fr D)} (hm : ∀ j f fe, r1 j f = some fe → r2 j f = some fe) {j jc : Nat} {as : List (ip_V D)} {f f2 : ip_Fr D} (h : ip_cat2 r1 hd j jc as f = some f2) : ip_cat2 r2 hd j jc as f = some f2 := by
  obtain ⟨pc, ls, st, hp, mc, ms, fz⟩ := f
  unfold ip_cat2 at h ⊢
  (try dsimp only at h ⊢)
  cases h1 : r1 jc (ip_ent jc as hp false) with
  | none => rw [h1] at h; cases h
  | some f1 =>
    rw [h1] at h
    rw [hm _ _ _ h1]
    (try dsimp only at h ⊢)
    cases h2 : ip_tr2 r1 hd jc f1 with
    | none => rw [h2] at h; cases h
    | some f3 =>
      rw [h2] at h
      rw [ip_tr2_mono hm h2]
      (try dsimp only at h ⊢)
      cases h3 : r1 jc f3 with
      | none => rw [h3] at h; cases h
      | some f4 =>
        rw [h3] at h
        rw [hm _ _ _ h3]
        exact h
theorem ip_body_mono {r1 r2 : Nat → ip_Fr D → Option (ip_Fr D)} (hm : ∀ j f fe, r1 j f = some fe → r2 j f = some fe) {j : Nat} {f fe : ip_Fr D} (h : ip_body ops ro hd sp r1 j f = some fe) : ip_body ops ro hd sp r2 j f = some fe := by
  unfold ip_body at h ⊢
  split at h
  · cases h
  rename_i x hx
  try rw [hx]
  try dsimp only
  cases hs : (ip_stop x || sp j f.1) with
  | true => rw [hs] at h; exact h
  | false =>
    rw [hs] at h
    (try dsimp only [cond_false] at h ⊢)
    split at h
    · cases h
    · rename_i f' hst
      try rw [hst]
      exact hm _ _ _ h
    · rename_i jc as f' hst
      try rw [hst]
      try dsimp only
      cases h8 : Nat.beq x.2.2.2.2 8 with
      | true =>
        rw [h8] at h
        (try dsimp only [cond_true] at h ⊢)
        split at h
        · cases h
        · rename_i f2 h2
          rw [ip_cat2_mono hm h2]
          exact hm _ _ _ h
      | false =>
        rw [h8] at h
        (try dsimp only [cond_false] at h ⊢)
        split at h
        · cases h
        · rename_i f2 h2
          rw [ip_cal_mono hm h2]
          exact hm _ _ _ h
theorem ip_run_mono : ∀ (n m : Nat), n ≤ m → ∀ (j : Nat) (f fe : ip_Fr D), ip_run ops ro hd sp n j f = some fe → ip_run ops ro hd sp m j f = some fe
  | 0, _, _, j, f, fe, h => by cases (show (none : Option (ip_Fr D)) = some fe from h)
  | n + 1, 0, hle, _, _, _, _ => by omega
  | n + 1, m + 1, hle, j, f, fe, h => by
    have h : ip_body ops ro hd sp (ip_run ops ro hd sp n) j f = some fe := h
    show ip_body ops ro hd sp (ip_run ops ro hd sp m) j f = some fe
    exact ip_body_mono (fun j f fe h => ip_run_mono n m (by omega) j f fe h) h
end Mono
