section Calls3
variable {D : Type} {R : D → Int32 → Prop} {ops : ip_O D} {p : Program} {l : Launch} {e : Env} {Rm : Room} {s : State} {m : MethodId} {args : Array Value} {below : List Frame} {meth : Method} {c : Code} {Q : State → Prop} {bs : ByteArray} {cls kd nL base : Nat} {Dg : va_G} {cI cZ cJ : ClassId} {A : Nat → Prop} {ra : Nat → Nat} {ro : List (List D)}
variable {pc mc ms : Nat} {la : List (Option (ip_V D))} {hp : ip_Hp D} {fz : Bool}
theorem ip_cont {H : Heap} {locs : List Loc} {ls : Array Slot} {st0 rest : List Value} {bc b9 : Nat} {Qa : State → Outcome → State → Prop} {free : Addr → Prop}
    (hr : va_Run p l e Rm s m args below meth c H locs mc ms bc b9 (F0 m pc ls st0) rest Qa free)
    (kk : ∀ (v : Option Value) (st₀ t : State) (H1 : Heap) (L : List Loc), st₀.heap = H → t.heap = H1 → (∀ q ∈ L, free q.base) → Qa st₀ (.returned v) t → W p l e Rm s m args below meth c H1 (locs ++ L) (mc + bc) (ms + b9) Q (F0 m (pc + 3) ls (v.toList ++ rest))) :
    W p l e Rm s m args below meth c H locs mc ms Q (F0 m pc ls st0) := by
  intro T hT X
  obtain ⟨v, st₀, t, T', L, h0, X', hL, e1, e2, hq, st⟩ := hr T hT X
  obtain ⟨t2, a1, b1⟩ := kk v st₀ t T'.heap L h0 e1.symm hL hq T' rfl X'
  exact ⟨t2, st t2 a1, b1⟩
theorem ip_split3 {P : List Value → List Value → Prop} {vpre s2 vAs : List Value} {w : Value} (h : vpre.reverse = w :: vAs) : vpre ++ s2 = vAs.reverse ++ w :: s2 := by
  have h1 : vpre = (w :: vAs).reverse := by rw [← h, List.reverse_reverse]
  rw [h1, List.reverse_cons, List.append_assoc]
  rfl
theorem ip_rcv0 {hp : ip_Hp D} {oc : Nat} {as : List (ip_V D)} (h : ip_rcv hp 0 oc as = true) : ∃ q0 as0 k fs, as = .inr (.inr (.inl (some q0))) :: as0 ∧ ip_nth hp q0 = some (k, fs) ∧ k = oc ∧ k < 6 := by
  have h : (match (generalizing := false) as with
    | .inr (.inr (.inl (some q))) :: _ => (match ip_nth hp q with
      | some (k, _) => Nat.beq k oc && Nat.ble (k + 1) 6
      | none => false)
    | _ => false) = true := h
  split at h
  · split at h
    · rename_i k fs hq
      simp only [Bool.and_eq_true, Nat.ble_eq, Nat.beq_eq] at h
      exact ⟨_, _, k, fs, rfl, hq, h.1, h.2⟩
    · cases h
  · cases h
theorem ip_rcv2 {hp : ip_Hp D} {oc : Nat} {as : List (ip_V D)} (h : ip_rcv hp 2 oc as = true) : ∃ q0 as0, as = .inr (.inr (.inl (some q0))) :: as0 := by
  have h : (match (generalizing := false) as with
    | .inr (.inr (.inl (some _))) :: _ => true
    | _ => false) = true := h
  split at h
  · exact ⟨_, _, rfl⟩
  · cases h
set_option maxHeartbeats 1000000 in
theorem ip_cal_ok (C : ip_Cx R ops p s m args meth c bs cls kd nL Dg cI cZ cJ A ra ro) {run : Nat → ip_Fr D → Option (ip_Fr D)} (IH : ip_RS R ops ro l base Dg cI cZ cJ ra run) {j jc q b cls' kd' pcode' fr' lo' size' pm' ps' : Nat} {y' : MethodName} {bs' : ByteArray} {ret' : Option FieldType} {i : Instr} {pre st' : List (ip_V D)} {f2 : ip_Fr D}
    (he' : ip_ML[jc]? = some (y', bs', ret', cls', kd', pcode', fr', lo', size', pm', ps')) (hRc : Rm.cells = ip_bc j) (hRs : Rm.slots = ip_bs j) (hd : decode bs pc = .ok (i, 3))
    (hi : (i = .invokevirtual q ∧ kd' = 0 ∧ pre.length = b + 1) ∨ (i = .invokestatic q ∧ kd' = 1 ∧ pre.length = b) ∨ (i = .invokespecial q ∧ kd' = 2 ∧ pre.length = b + 1)) (hlk : Cond.methodLink (ip_R cls) q y' ∈ ip_G)
    (hfr : fr' + 1 ≤ Rm.frames) (hlo : 8 + (ip_mx jc + 11) + lo' ≤ Rm.locals) (hb : (parseMethodDescriptor y'.desc).map (fun d => d.parameters.length) = some b) (hpre : ∀ v ∈ pre, ip_one v = true) (hne : ip_ne hp mc = true) (hcat : ip_cat st' ≤ 8)
    (hcal : ip_cal ops run j jc pre.reverse (pc + 3, la, st', hp, mc, ms, fz) = some f2) (hk : ip_good R p l e Rm s m args below meth c Q nL base Dg cI cZ cJ A ra f2) : ip_good R p l e Rm s m args below meth c Q nL base Dg cI cZ cJ A ra (pc, la, pre ++ st', hp, mc, ms, fz) := by
  unfold ip_cal at hcal
  dsimp only at hcal
  split at hcal
  · cases hcal
  rename_i pc' la' ste hp' mc' ms' fz' h1
  split at hcal
  · cases hcal
  rename_i x h2
  split at hcal
  · cases hcal
  rename_i vs h3
  cases hcond : (ip_rcv hp (ip_kd jc) (ip_oc jc) pre.reverse && ((!fz' || fz) && (Nat.ble pre.reverse.length (ip_mx jc) && (Nat.beq mc' (ip_bc jc) && (Nat.ble ms' (ip_bs jc) && (Nat.ble (mc + ip_bc jc) (ip_bc j) && Nat.ble (ms + ip_bs jc) (ip_bs j))))))) with
  | false => rw [hcond] at hcal; cases hcal
  | true =>
  rw [hcond] at hcal
  cases hcal
  simp only [Bool.and_eq_true, Nat.ble_eq, Nat.beq_eq] at hcond
  obtain ⟨hrcv, hfzz, hlen, hmc, hms, hmc2, hms2⟩ := hcond
  have hkd : kd' = 0 ∨ kd' = 1 ∨ kd' = 2 := by
    rcases hi with ⟨-, h, -⟩ | ⟨-, h, -⟩ | ⟨-, h, -⟩
    · exact Or.inl h
    · exact Or.inr (Or.inl h)
    · exact Or.inr (Or.inr h)
  obtain ⟨w1, w2, w3, w4, w5, w6, w7, w8, w9⟩ := ip_mok_w he'
  obtain ⟨hoc, hkdc⟩ := ip_ock he'
  dsimp only at hoc hkdc
  intro ls s1 H locs g1 g2 g3
  obtain ⟨vpre, s2, rfl, ga, gb⟩ := ip_all2_app pre st' s1 g2
  refine ip_W_sz (fun hsz => ?_)
  have hsize : fz = true → H.size = base + hp.length := fun z => ip_size g3 z hne hsz
  obtain ⟨⟨ws, hR, hP, hD⟩, hS, hfz⟩ := g3
  have hfz : fz = true → s.heap.size + mc = base + hp.length := hfz
  have hvs := ip_all2_rev ga
  have hvc : ∀ v ∈ vpre.reverse, v.category = 1 := ip_all2_cat hvs (fun v hv => hpre v (List.mem_reverse.mp hv))
  have M := ip_met (sz := H.size) C.1 IH he' hkd h1 h2 h3 hlen hmc hms hvs hvc hR
  have hFc : ∀ q, va_A ws H.size q → A q := by
    intro q h
    rcases h with ⟨k, E, h⟩ | h
    · exact hD.2 k (q, E) h
    · exact C.2.2.2.2.2.2.2.1 q (Nat.le_trans hS.1 h)
  have hPre : ∀ U : State, U.heap = H → s.WarmedH U.vm → ip_Pc R base ra cI cZ cJ Dg ro hp fz ws H.size vpre.reverse vpre.reverse.toArray U := fun U hU hW =>
    ⟨rfl, by rw [hU], by rw [hU]; exact hP, va_K.moved hW.alike C.2.2.2.2.2.2.1, hD.weaken (fun _ _ _ _ => trivial), ip_ro_to R ra ro C.2.2.2.2.2.2.2.2.1 hS hFc hW hU, fun z => by rw [hU]; exact hsize z⟩
  have hls : ls.size = nL := by obtain ⟨-, lv, h4, -⟩ := g1; exact h4.1
  have kk : ∀ (v : Option Value) (st₀ t : State) (H1 : Heap) (L : List Loc), st₀.heap = H → t.heap = H1 → (∀ q ∈ L, va_A ws H.size q.base) → ip_Qc R base ra cI cZ cJ Dg (ip_bc jc) hp' fz' ws H.size vs vpre.reverse.toArray st₀ (.returned v) t →
      W p l e Rm s m args below meth c H1 (locs ++ L) (mc + ip_bc jc) (ms + ip_bs jc) Q (F0 m (pc + 3) ls (v.toList ++ s2)) := by
    intro v st₀ t H1 L q0 q1 q2 q3
    obtain ⟨⟨v', ws', hv', hvv, hR', hP', hD', hf'⟩, hF⟩ := q3
    cases hv'
    subst q1
    refine hk ls (v.toList ++ s2) t.heap (locs ++ L) g1 (ip_all2_mk hvv gb) ⟨⟨ws', hR', hP', hD'.weaken (fun _ _ _ h => hFc _ h)⟩, ⟨?_, ?_, ?_⟩, ?_⟩
    · exact Nat.le_trans hS.1 (by rw [← q0]; exact hF.1)
    · intro q a1 a2
      rw [hF.2 q (by rw [q0]; exact Nat.lt_of_lt_of_le a1 hS.1) (fun z => a2 (hFc q z)), q0]
      exact hS.2.1 q a1 a2
    · intro q hq
      rcases List.mem_append.mp hq with h | h
      · exact hS.2.2 q h
      · exact hFc _ (q2 q h)
    · intro z
      have z : fz' = true := z
      have hz : fz = true := by
        rw [z] at hfzz
        simpa using hfzz
      have e1 := hf' z
      have e2 := hsize hz
      have e3 := hfz hz
      show s.heap.size + (mc + ip_bc jc) = base + hp'.length
      omega
  have hroom : ∀ st0 : List Value, 2 * (F0 m pc ls st0).monitorRoom + (s2.map fun v => v.category).sum ≤ 8 := fun st0 => lv_room (by rw [ip_cat_eq gb]; exact hcat)
  have hcB : CallB Rm s args (ip_R cls) q y' bs' (ip_mx jc) ret' (Cond.code y' bs' (ip_mx jc) ret' :: ip_G) { frames := fr', cells := ip_bc jc, slots := ip_bs jc, locals := lo' } (ip_bc jc) (ip_bs jc) b :=
    callB_of b C.2.2.2.2.2.1 (ip_GG (w6 hkd)) rfl rfl rfl (by rw [w1]; exact C.2.2.2.2.2.1 _ w5) (C.2.2.2.2.2.1 _ hlk) ⟨w2, w3, hb⟩ ⟨hfr, hlo⟩
  have hroom2 : mc + ip_bc jc ≤ Rm.cells ∧ ms + ip_bs jc ≤ Rm.slots := ⟨by rw [hRc]; exact hmc2, by rw [hRs]; exact hms2⟩
  rcases hi with ⟨rfl, rfl, hn⟩ | ⟨rfl, rfl, hn⟩ | ⟨rfl, rfl, hn⟩
  · rw [hkdc, hoc] at hrcv
    obtain ⟨q0, as0, k, fs, hrev, hq, hk1, hk2⟩ := ip_rcv0 hrcv
    rw [hrev] at hvs
    obtain ⟨w, vAs, hvr, hg, hvs2⟩ := ip_all2_cons hvs
    cases hg
    rw [ip_nth_eq] at hq
    obtain ⟨E, hE, hcr⟩ := hR.2 q0 _ hq
    obtain ⟨fv, rfl, -⟩ := ip_cR_obj hk2 hcr
    have hrec := va_recv C.2.2.2.2.2.2.1 hP (ip_vw hk2) hE
    rw [hvr] at M hPre kk
    have hnn : vAs.length = b := by
      have := congrArg List.length hvr
      rw [List.length_reverse, ← ip_all2_len ga, hn, List.length_cons] at this
      omega
    refine ip_cont (va_runV (As := vAs) (rest := s2) (b := base + q0) (C := ip_R k) (nL := nL) ⟨C.2.1, C.2.2.1, C.2.2.2.1, C.2.2.2.2.1, C.2.2.2.2.2.1⟩ M ⟨hcB, C.2.2.2.2.2.1 _ (w7 rfl).1, by rw [hk1]; exact C.2.2.2.2.2.1 _ (w7 rfl).2⟩ ⟨ip_Pc_blind R base ra cI cZ cJ Dg ro, hrec, hPre⟩ rfl hnn hls (ip_split3 (P := fun _ _ => True) hvr) (hroom _) hd hroom2) kk
  · have hnn : vpre.reverse.length = b := by rw [List.length_reverse, ← ip_all2_len ga, hn]
    refine ip_cont (va_runS (As := vpre.reverse) (rest := s2) (nL := nL) ⟨C.2.1, C.2.2.1, C.2.2.2.1, C.2.2.2.2.1, C.2.2.2.2.2.1⟩ M ⟨hcB, C.2.2.2.2.2.1 _ (w8 rfl)⟩ ⟨ip_Pc_blind R base ra cI cZ cJ Dg ro, hPre⟩ rfl hnn hls (by rw [List.reverse_reverse]) (hroom _) hd hroom2) kk
  · rw [hkdc] at hrcv
    obtain ⟨q0, as0, hrev⟩ := ip_rcv2 hrcv
    obtain ⟨hret, hinit, hinst⟩ := w9 rfl
    subst hret
    rw [hrev] at hvs
    obtain ⟨w, vAs, hvr, hg, hvs2⟩ := ip_all2_cons hvs
    cases hg
    rw [hvr] at M hPre kk
    have hnn : vAs.length = b := by
      have := congrArg List.length hvr
      rw [List.length_reverse, ← ip_all2_len ga, hn, List.length_cons] at this
      omega
    refine ip_cont (va_runI (As := vAs) (rest := s2) (b := base + q0) (nL := nL) ⟨C.2.1, C.2.2.1, C.2.2.2.1, C.2.2.2.2.1, C.2.2.2.2.2.1⟩ M ⟨hcB, hinit, C.2.2.2.2.2.1 _ hinst⟩ ⟨ip_Pc_blind R base ra cI cZ cJ Dg ro, hPre⟩ rfl hnn hls (ip_split3 (P := fun _ _ => True) hvr) (hroom _) hd hroom2) kk
theorem ip_inv_ok {a b nx : Nat} {st : List (ip_V D)} {jc : Nat} {as : List (ip_V D)} {f' : ip_Fr D} (h : ip_inv a b nx (pc, la, st, hp, mc, ms, fz) = some (.inr (jc, as, f'))) : ∃ pre st', st = pre ++ st' ∧ as = pre.reverse ∧ (∀ v ∈ pre, ip_one v = true) ∧ ip_ne hp mc = true ∧ ip_cat st' ≤ 8 ∧ jc = a ∧ f' = (nx, la, st', hp, mc, ms, fz) ∧ pre.length = b := by
  unfold ip_inv at h
  dsimp only at h
  split at h
  · rename_i as1 st1 h1
    cases hb : (ip_ne hp mc && Nat.ble (ip_cat st1) 8) with
    | false => rw [hb] at h; cases h
    | true =>
      rw [hb] at h
      cases h
      simp only [Bool.and_eq_true, Nat.ble_eq] at hb
      obtain ⟨pre, h2, h3, h4, h5⟩ := ip_arg_ok _ _ _ h1
      exact ⟨pre, _, h2, by rw [h4, List.append_nil], h5, hb.1, hb.2, rfl, rfl, h3⟩
  · cases h
theorem ip_no_bin {o nx : Nat} {f : ip_Fr D} {z : Nat × List (ip_V D) × ip_Fr D} (h : ip_bin ops o nx f = some (.inr z)) : False := by
  unfold ip_bin at h
  split at h
  · split at h <;> cases h
  · cases h
theorem ip_no_br {t : Option Bool} {nx a : Nat} {st : List (ip_V D)} {z : Nat × List (ip_V D) × ip_Fr D} (h : ip_br t nx a la st hp mc ms fz = some (.inr z)) : False := by
  unfold ip_br at h
  split at h <;> cases h
theorem ip_no_ald {k nx : Nat} {f : ip_Fr D} {z : Nat × List (ip_V D) × ip_Fr D} (h : ip_ald ops k nx f = some (.inr z)) : False := by
  unfold ip_ald at h
  split at h
  · split at h
    · rename_i k' cs h1 h2
      cases hb : Nat.beq k k' <;> rw [hb] at h
      · cases h
      · dsimp only [cond_true] at h
        split at h <;> cases h
    · cases h
  · cases h
theorem ip_no_ast {k nx : Nat} {v : ip_V D} {f : ip_Fr D} {z : Nat × List (ip_V D) × ip_Fr D} (h : ip_ast ops k nx v f = some (.inr z)) : False := by
  unfold ip_ast at h
  split at h
  · split at h
    · rename_i k' cs h1 h2
      cases hb : Nat.beq k k' <;> rw [hb] at h
      · cases h
      · dsimp only [cond_true] at h
        split at h <;> cases h
    · cases h
  · cases h
theorem ip_no_mka {rc rs k nx : Nat} {v : ip_V D} {f : ip_Fr D} {z : Nat × List (ip_V D) × ip_Fr D} (h : ip_mka ops rc rs k v nx f = some (.inr z)) : False := by
  unfold ip_mka at h
  split at h
  · split at h
    · rename_i N h1
      revert h
      cases (ip_ne _ _ && (Nat.ble (_ + 1) rc && (Nat.ble (_ + N) rs && Nat.ble N 1000))) <;> intro h <;> cases h
    · cases h
  · cases h
theorem ip_no_bif {b : Bool} {f : ip_Fr D} {z : Nat × List (ip_V D) × ip_Fr D} (h : (bif b then some (Sum.inl f) else none) = some (Sum.inr z)) : False := by
  cases b <;> cases h
set_option maxHeartbeats 4000000 in
theorem ip_step_inr {x : ip_E} {st : List (ip_V D)} {rc rs jc : Nat} {as : List (ip_V D)} {f' : ip_Fr D} (h : ip_step ops ro rc rs x (pc, la, st, hp, mc, ms, fz) = some (.inr (jc, as, f'))) :
    ∃ (q : Nat) (pre st' : List (ip_V D)), st = pre ++ st' ∧ as = pre.reverse ∧ (∀ v ∈ pre, ip_one v = true) ∧ ip_ne hp mc = true ∧ ip_cat st' ≤ 8 ∧ jc = x.2.2.1 ∧ f' = (x.2.1, la, st', hp, mc, ms, fz) ∧ ((x.1 = .invokevirtual q ∧ pre.length = x.2.2.2.1 + 1) ∨ (x.1 = .invokestatic q ∧ ¬ x.2.2.2.2 = 4 ∧ pre.length = x.2.2.2.1) ∨ (x.1 = .invokespecial q ∧ x.2.2.2.2 = 2 ∧ pre.length = x.2.2.2.1 + 1)) := by
  obtain ⟨i, nx, a, b, c0⟩ := x
  unfold ip_step at h
  dsimp only at h ⊢
  cases i with
  | invokevirtual q =>
    obtain ⟨pre, st', h1, h2, h3, h4, h5, h6, h7, h8⟩ := ip_inv_ok h
    exact ⟨q, pre, st', h1, h2, h3, h4, h5, h6, h7, Or.inl ⟨rfl, h8⟩⟩
  | invokestatic q =>
    unfold ip_sIs at h
    dsimp only at h
    split at h
    · split at h
      · revert h
        cases (Nat.ble (ip_cat _) 8 && (Nat.ble mc rc && Nat.ble ms rs)) <;> intro h
        · cases h
        · dsimp only [cond_true] at h
          split at h <;> cases h
      · cases h
    · rename_i hn4
      obtain ⟨pre, st', h1, h2, h3, h4, h5, h6, h7, h8⟩ := ip_inv_ok h
      exact ⟨q, pre, st', h1, h2, h3, h4, h5, h6, h7, Or.inr (Or.inl ⟨rfl, hn4, h8⟩)⟩
  | invokespecial q =>
    unfold ip_sIp at h
    dsimp only at h
    split at h
    · obtain ⟨pre, st', h1, h2, h3, h4, h5, h6, h7, h8⟩ := ip_inv_ok h
      exact ⟨q, pre, st', h1, h2, h3, h4, h5, h6, h7, Or.inr (Or.inr ⟨rfl, rfl, h8⟩)⟩
    · split at h
      · exact (ip_no_bif h).elim
      · cases h
    · cases h
  | newarray at0 =>
    cases at0 with
    | int => exact (ip_no_mka h).elim
    | boolean => exact (ip_no_mka h).elim
    | long => exact (ip_no_mka h).elim
    | _ => cases h
  | new q =>
    unfold ip_sNew at h
    dsimp only at h
    split at h
    · exact (ip_no_bif h).elim
    · cases h
  | iadd => exact (ip_no_bin h).elim
  | isub => exact (ip_no_bin h).elim
  | imul => exact (ip_no_bin h).elim
  | idiv => exact (ip_no_bin h).elim
  | irem => exact (ip_no_bin h).elim
  | iand => exact (ip_no_bin h).elim
  | ishr => exact (ip_no_bin h).elim
  | iushr => exact (ip_no_bin h).elim
  | baload => exact (ip_no_ald h).elim
  | laload => exact (ip_no_ald h).elim
  | iaload =>
    unfold ip_sIal at h
    dsimp only at h
    split at h
    · split at h
      · split at h <;> cases h
      · cases h
    · exact (ip_no_ald h).elim
  | iastore =>
    unfold ip_sIas at h
    dsimp only at h
    split at h
    · exact (ip_no_ast h).elim
    · cases h
  | lastore =>
    unfold ip_sLas at h
    dsimp only at h
    split at h
    · exact (ip_no_ast h).elim
    · cases h
  | bastore =>
    unfold ip_sBas at h
    dsimp only at h
    split at h
    · rename_i d r
      cases hb : ip_bit (ops.2.2.2 d) <;> rw [hb] at h
      · cases h
      · exact (ip_no_ast h).elim
    · cases h
  | ifCond k off =>
    unfold ip_sIf at h
    dsimp only at h
    split at h
    · exact (ip_no_br h).elim
    · cases h
  | if_icmp k off =>
    unfold ip_sIc at h
    dsimp only at h
    split at h
    · exact (ip_no_br h).elim
    · cases h
  | dup =>
    unfold ip_sDup at h
    dsimp only at h
    split at h
    · exact (ip_no_bif h).elim
    · cases h
  | dup2 =>
    unfold ip_sDu2 at h
    dsimp only at h
    split at h
    · exact (ip_no_bif h).elim
    · cases h
  | pop =>
    unfold ip_sPop at h
    dsimp only at h
    split at h
    · exact (ip_no_bif h).elim
    · cases h
  | getfield q =>
    unfold ip_sGf at h
    dsimp only at h
    split at h
    · split at h
      · rename_i k' fs h1
        cases hb : Nat.beq k' a <;> rw [hb] at h
        · cases h
        · dsimp only [cond_true] at h
          split at h <;> cases h
      · cases h
    · cases h
  | putfield q =>
    unfold ip_sPf at h
    dsimp only at h
    split at h
    · split at h
      · rename_i k' fs h1
        cases hb : Nat.beq k' a <;> rw [hb] at h
        · cases h
        · dsimp only [cond_true] at h
          split at h
          · split at h
            · cases h
            · exact (ip_no_bif h).elim
            · cases h
            · cases h
          · cases h
      · cases h
    · cases h
  | iconst v =>
    unfold ip_sK at h
    dsimp only at h
    cases h
  | bipush v =>
    unfold ip_sK at h
    dsimp only at h
    cases h
  | sipush v =>
    unfold ip_sK at h
    dsimp only at h
    cases h
  | iload k =>
    unfold ip_sLd at h
    dsimp only at h
    repeat' split at h
    all_goals cases h
  | iload_n k =>
    unfold ip_sLd at h
    dsimp only at h
    repeat' split at h
    all_goals cases h
  | aload k =>
    unfold ip_sLa at h
    dsimp only at h
    repeat' split at h
    all_goals cases h
  | aload_n k =>
    unfold ip_sLa at h
    dsimp only at h
    repeat' split at h
    all_goals cases h
  | istore k =>
    unfold ip_sSt at h
    dsimp only at h
    repeat' split at h
    all_goals cases h
  | istore_n k =>
    unfold ip_sSt at h
    dsimp only at h
    repeat' split at h
    all_goals cases h
  | astore k =>
    unfold ip_sSa at h
    dsimp only at h
    repeat' split at h
    all_goals cases h
  | astore_n k =>
    unfold ip_sSa at h
    dsimp only at h
    repeat' split at h
    all_goals cases h
  | iinc k v =>
    unfold ip_sInc at h
    dsimp only at h
    repeat' split at h
    all_goals cases h
  | ineg =>
    unfold ip_sNeg at h
    dsimp only at h
    repeat' split at h
    all_goals cases h
  | i2l =>
    unfold ip_sI2l at h
    dsimp only at h
    repeat' split at h
    all_goals cases h
  | lcmp =>
    unfold ip_sLc at h
    dsimp only at h
    repeat' split at h
    all_goals cases h
  | goto off =>
    unfold ip_sGo at h
    dsimp only at h
    cases h
  | tableswitch d lo hi offs =>
    unfold ip_sTs at h
    dsimp only at h
    repeat' split at h
    all_goals cases h
  | lookupswitch d ps =>
    unfold ip_sLs at h
    dsimp only at h
    repeat' split at h
    all_goals cases h
  | getstatic q =>
    unfold ip_sGs at h
    dsimp only at h
    cases h
  | arraylength =>
    unfold ip_sLen at h
    dsimp only at h
    repeat' split at h
    all_goals cases h
  | _ => cases h
end Calls3
