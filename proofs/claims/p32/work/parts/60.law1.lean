/-! THE LAW'S BODY, step by step -/
def nosp (_ _ : Nat) : Bool := false
def Rn (s : List Int32) (j : Nat) (f f' : ip_Fr Int32) : Prop := ∃ n, ip_run ex_ops (roS s) ip_hd nosp n j f = some f'
section RnRules
variable {s : List Int32} {j pc nx a b c0 mc ms : Nat} {la : List (Option (ip_V Int32))} {st : List (ip_V Int32)} {hp : ip_Hp Int32} {fz : Bool} {x : ip_E} {f f1 f' : ip_Fr Int32} {σ σ1 : sg_S}
theorem rn_stop (hT : ip_T j pc = some x) (hs : ip_stop x = true) : Rn s j (pc, la, st, hp, mc, ms, fz) (pc, la, st, hp, mc, ms, fz) := by
  refine ⟨1, ?_⟩
  show ip_body ex_ops (roS s) ip_hd nosp _ j (pc, la, st, hp, mc, ms, fz) = _
  unfold ip_body
  dsimp only
  rw [hT]
  dsimp only
  rw [hs]
  rfl
theorem rn_step (hT : ip_T j f.1 = some x) (hs : ip_stop x = false) (hst : ip_step ex_ops (roS s) (ip_bc j) (ip_bs j) x f = some (.inl f1)) (k : Rn s j f1 f') : Rn s j f f' := by
  obtain ⟨n, h⟩ := k
  refine ⟨n + 1, ?_⟩
  show ip_body ex_ops (roS s) ip_hd nosp (ip_run ex_ops (roS s) ip_hd nosp n) j f = _
  unfold ip_body
  rw [hT]
  dsimp only
  rw [hs, show nosp j f.1 = false from rfl]
  (try dsimp only [Bool.or_false, cond_false])
  rw [hst]
  exact h
theorem rn_mono {n m : Nat} (h : ip_run ex_ops (roS s) ip_hd nosp n j f = some f') (hm : n ≤ m) : ip_run ex_ops (roS s) ip_hd nosp m j f = some f' := ip_run_mono n m hm j f f' h
theorem nosp_eq : (fun (_ _ : Nat) => false) = nosp := rfl
theorem rn_cal {jc : Nat} {as vc st1 : List (ip_V Int32)} (hT : ip_T j f.1 = some x) (hs : ip_stop x = false) (h8 : Nat.beq x.2.2.2.2 8 = false) (hst : ip_step ex_ops (roS s) (ip_bc j) (ip_bs j) x f = some (.inr (jc, as, (pc, la, st1, sg_mk σ, mc, ms, false)))) (hc : Ct s jc as σ vc σ1) (hmc : mc ≤ ip_bc j) (hms : ms ≤ ip_bs j) (k : Rn s j (pc, la, vc ++ st1, sg_mk σ1, mc, ms, false) f') : Rn s j f f' := by
  obtain ⟨hrcv, hlen, hz, hz2, n1, pc', la', st', x', h, hx, hb⟩ := hc
  rw [nosp_eq] at h
  obtain ⟨n2, h2⟩ := k
  refine ⟨max n1 n2 + 1, ?_⟩
  have e1 := rn_mono h (Nat.le_max_left n1 n2)
  have e2 := rn_mono h2 (Nat.le_max_right n1 n2)
  have hcal : ip_cal ex_ops (ip_run ex_ops (roS s) ip_hd nosp (max n1 n2)) j jc as (pc, la, st1, sg_mk σ, mc, ms, false) = some (pc, la, vc ++ st1, sg_mk σ1, mc, ms, false) := by
    unfold ip_cal
    dsimp only
    rw [show ip_ent jc as (sg_mk σ) false = sgF 0 (as.map some ++ List.replicate (ip_mx jc - as.length) none) [] σ from rfl, e1]
    dsimp only
    rw [hx]
    dsimp only
    rw [show ip_back ex_ops x' st' = some vc from hb]
    dsimp only
    rw [hrcv, hlen, hz, hz2, Nat.add_zero, Nat.add_zero, show Nat.ble mc (ip_bc j) = true from Nat.ble_eq.mpr hmc, show Nat.ble ms (ip_bs j) = true from Nat.ble_eq.mpr hms]
    rfl
  show ip_body ex_ops (roS s) ip_hd nosp (ip_run ex_ops (roS s) ip_hd nosp (max n1 n2)) j f = _
  unfold ip_body
  rw [hT]
  dsimp only
  rw [hs, show nosp j f.1 = false from rfl]
  (try dsimp only [Bool.or_false, cond_false])
  rw [hst]
  dsimp only
  rw [h8]
  (try dsimp only [cond_false])
  rw [hcal]
  exact e2
/-- a call of a method that tries another -/
theorem rn_cat {jc : Nat} {as st1 : List (ip_V Int32)} {g2 : ip_Fr Int32} {pc4 nx4 a4 b4 mc4 ms4 : Nat} {la4 : List (Option (ip_V Int32))} {d4 : Int32} {fz4 : Bool} {hp4 : ip_Hp Int32} {v : Option Int32} {jt b1 nx1 pc1 q1 : Nat} {as1 st2 : List (ip_V Int32)} {la1 : List (Option (ip_V Int32))} {st11 : List (ip_V Int32)}
    (hT : ip_T j f.1 = some x) (hs : ip_stop x = false) (h8 : Nat.beq x.2.2.2.2 8 = true) (hst : ip_step ex_ops (roS s) (ip_bc j) (ip_bs j) x f = some (.inr (jc, as, (pc, la, st1, sg_mk σ, mc, ms, false))))
    (r1 : Rn s jc (ip_ent jc as (sg_mk σ) false) (pc1, la1, st11, sg_mk σ, 0, 0, false)) (hT1 : ip_T jc pc1 = some (.invokevirtual q1, nx1, jt, b1, 9)) (ha : ip_arg (b1 + 1) [] st11 = some (as1, st2))
    (hk : (ip_rcv (sg_mk σ) 0 (ip_oc jt) as1 && (Nat.ble as1.length (ip_mx jt) && (Nat.ble (ip_cat st2) 8 && (Nat.ble (ip_bc jt) (ip_bc jc) && Nat.ble (ip_bs jt) (ip_bs jc))))) = true)
    (r2 : RtF thB (fT σ) s jt 0 (as1.map some ++ List.replicate (ip_mx jt - as1.length) none) [] σ v)
    (hg : g2 = match (generalizing := false) v with
      | some d => (nx1, la1, .inl d :: st2, sg_mk σ, ip_bc jt, ip_bs jt, false)
      | none => (ip_hd jc, la1.map (fun _ => none), [], sg_mk σ, ip_bc jt, ip_bs jt, false))
    (r3 : Rn s jc g2 (pc4, la4, [.inl d4], hp4, mc4, ms4, fz4)) (hT4 : ip_T jc pc4 = some (.ireturn, nx4, a4, b4, 0))
    (hk4 : (Nat.beq (ip_kd jc) 3 && (Nat.ble as.length (ip_mx jc) && (Nat.ble mc4 (ip_bc jc) && Nat.ble ms4 (ip_bs jc)))) = true) (hmc : mc + ip_bc jc ≤ ip_bc j) (hms : ms + ip_bs jc ≤ ip_bs j)
    (k : Rn s j (pc, la, .inl d4 :: st1, hp4, mc + ip_bc jc, ms + ip_bs jc, false) f') : Rn s j f f' := by
  obtain ⟨n1, e1⟩ := r1
  obtain ⟨n2, pc', la', st', x', e2, hx, hb⟩ := r2
  rw [nosp_eq] at e2
  obtain ⟨n3, e3⟩ := r3
  obtain ⟨n4, e4⟩ := k
  have hle1 : n1 ≤ n1 + n2 + n3 + n4 := by omega
  have hle2 : n2 ≤ n1 + n2 + n3 + n4 := by omega
  have hle3 : n3 ≤ n1 + n2 + n3 + n4 := by omega
  have hle4 : n4 ≤ n1 + n2 + n3 + n4 := by omega
  refine ⟨n1 + n2 + n3 + n4 + 1, ?_⟩
  show ip_body ex_ops (roS s) ip_hd nosp (ip_run ex_ops (roS s) ip_hd nosp (n1 + n2 + n3 + n4)) j f = some f'
  have e1 := rn_mono e1 hle1
  have e2 := rn_mono e2 hle2
  have e3 := rn_mono e3 hle3
  have e4 := rn_mono e4 hle4
  generalize ip_run ex_ops (roS s) ip_hd nosp (n1 + n2 + n3 + n4) = run at *
  have hthr : ip_thr run jt as1 (sg_mk σ) = some (v, sg_mk σ) := by
    unfold ip_thr
    rw [show ip_ent jt as1 (sg_mk σ) false = sgF 0 (as1.map some ++ List.replicate (ip_mx jt - as1.length) none) [] σ from rfl, e2]
    split
    case h_2 =>
      rename_i hno
      exact absurd rfl (hno _ _ _ _ _)
    rename_i pcx lax stx hpx fzx heq
    cases heq
    rw [hx]
    (try dsimp only)
    have hb : thB x' st' = some v := hb
    obtain ⟨ins9, n9, a9, b9, c9⟩ := x'
    unfold thB at hb
    (try dsimp only at hb ⊢)
    split at hb
    · cases hb
      rfl
    · cases hb
      rfl
    · cases hb
  have htr : ip_tr2 run ip_hd jc (pc1, la1, st11, sg_mk σ, 0, 0, false) = some g2 := by
    unfold ip_tr2
    split
    case h_2 =>
      rename_i hno
      exact absurd rfl (hno _ _ _ _ _)
    rename_i pcx lax stx hpx fzx heq
    cases heq
    rw [hT1]
    split
    case h_2 =>
      rename_i hno
      exact absurd rfl (hno _ _ _ _)
    rename_i heq
    cases heq
    rw [ha]
    (try dsimp only)
    rw [hk]
    (try dsimp only [cond_true])
    rw [hthr, hg]
    cases v with
    | none => rfl
    | some d => rfl
  simp only [Bool.and_eq_true] at hk4
  obtain ⟨hk4a, hk4b, hk4c, hk4d⟩ := hk4
  have hcat : ip_cat2 run ip_hd j jc as (pc, la, st1, sg_mk σ, mc, ms, false) = some (pc, la, .inl d4 :: st1, hp4, mc + ip_bc jc, ms + ip_bs jc, false) := by
    unfold ip_cat2
    (try dsimp only)
    rw [e1]
    (try dsimp only)
    rw [htr]
    (try dsimp only)
    rw [e3]
    (try dsimp only)
    rw [hT4]
    (try dsimp only)
    rw [hk4a, hk4b, hk4c, hk4d, show Nat.ble (mc + ip_bc jc) (ip_bc j) = true from Nat.ble_eq.mpr hmc, show Nat.ble (ms + ip_bs jc) (ip_bs j) = true from Nat.ble_eq.mpr hms]
    rfl
  unfold ip_body
  rw [hT]
  (try dsimp only)
  rw [hs, show nosp j f.1 = false from rfl]
  (try dsimp only [Bool.or_false, cond_false])
  rw [hst]
  (try dsimp only)
  rw [h8]
  (try dsimp only [cond_true])
  rw [hcat]
  exact e4
end RnRules
