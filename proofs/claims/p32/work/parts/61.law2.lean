/-! THE LAW: its frames, its end, its loop -/
abbrev LL (i : Nat) (l5 l6 : Option (ip_V Int32)) : List (Option (ip_V Int32)) := [some (.inr (.inr (.inr 3))), some (rf 0), some (rf 35), some (rf 60), some (.inl (N i)), l5, l6]
abbrev LF (pc i : Nat) (l5 l6 : Option (ip_V Int32)) (st : List (ip_V Int32)) (σ : sg_S) (mc ms : Nat) : ip_Fr Int32 := (pc, LL i l5 l6, st, sg_mk σ, mc, ms, false)
def lwY (f : ip_Fr Int32) : Prop := ∃ pc la hp mc ms fz nx a b, f = (pc, la, [.inl 1], hp, mc, ms, fz) ∧ ip_T 207 pc = some (.ireturn, nx, a, b, 1) ∧ mc ≤ ip_bc 207 ∧ ms ≤ ip_bs 207
def LR (s : List Int32) (f : ip_Fr Int32) : Prop := ∃ fe, Rn s 207 f fe ∧ lwY fe
section LrRules
variable {s : List Int32} {pc nx a b c0 mc ms i : Nat} {la la1 : List (Option (ip_V Int32))} {st st1 : List (ip_V Int32)} {σ σ1 σ2 : sg_S} {f f1 : ip_Fr Int32} {x : ip_E} {l5 l6 : Option (ip_V Int32)}
theorem lr_step (hT : ip_T 207 f.1 = some x) (hs : ip_stop x = false) (hst : ip_step ex_ops (roS s) (ip_bc 207) (ip_bs 207) x f = some (.inl f1)) (k : LR s f1) : LR s f := by
  obtain ⟨fe, h1, h2⟩ := k
  exact ⟨fe, rn_step hT hs hst h1, h2⟩
theorem lr_ial {k : Nat} (hT : ip_T 207 pc = some (.iaload, nx, a, b, c0)) (hk : k < s.length) (hs : s.length ≤ 3072) (kk : LR s (nx, la, .inl (s.getD k 0) :: st, sg_mk σ, mc, ms, false)) : LR s (pc, la, .inl (N k) :: .inr (.inr (.inr 3)) :: st, sg_mk σ, mc, ms, false) := by
  refine lr_step (f := (pc, la, .inl (N k) :: .inr (.inr (.inr 3)) :: st, sg_mk σ, mc, ms, false)) hT rfl ?_ kk
  show ip_sIal ex_ops (roS s) nx (pc, la, .inl (N k) :: .inr (.inr (.inr 3)) :: st, sg_mk σ, mc, ms, false) = _
  unfold ip_sIal
  dsimp only
  rw [sg_ix (N_nn (by omega)), show ip_nth (roS s) 3 = some s from rfl]
  dsimp only
  rw [show (N k).toNatClampNeg = k from ni_N (by omega), ip_nth_eq, show s[k]? = some (s.getD k 0) by rw [List.getD_eq_getElem?_getD, List.getElem?_eq_getElem hk]; rfl]
theorem lr_arg {p1 p2 p3 p4 p5 p : Nat} {n : Int} {a1 b1 d1 a2 b2 d2 a3 b3 d3 a4 b4 d4 a5 b5 d5 : Nat} (h1 : ip_T 207 pc = some (.aload_n 0, p1, a1, b1, d1)) (h2 : ip_T 207 p1 = some (.iload 4, p2, a2, b2, d2)) (h3 : ip_T 207 p2 = some (.iconst n, p3, a3, b3, d3)) (h4 : ip_T 207 p3 = some (.iadd, p4, a4, b4, d4)) (h5 : ip_T 207 p4 = some (.iaload, p5, a5, b5, d5)) (hn : Int32.ofInt n = N p) (hk : i + p < s.length) (hs : s.length ≤ 3072) (kk : LR s (LF p5 i l5 l6 (.inl (s.getD (i + p) 0) :: st) σ mc ms)) : LR s (LF pc i l5 l6 st σ mc ms) := by
  refine lr_step (f := LF pc i l5 l6 st σ mc ms) (f1 := LF p1 i l5 l6 (.inr (.inr (.inr 3)) :: st) σ mc ms) h1 rfl rfl ?_
  refine lr_step (f1 := LF p2 i l5 l6 (.inl (N i) :: .inr (.inr (.inr 3)) :: st) σ mc ms) h2 rfl rfl ?_
  refine lr_step (f1 := LF p3 i l5 l6 (.inl (Int32.ofInt n) :: .inl (N i) :: .inr (.inr (.inr 3)) :: st) σ mc ms) h3 rfl rfl ?_
  refine lr_step (f1 := LF p4 i l5 l6 (.inl (N i + Int32.ofInt n) :: .inr (.inr (.inr 3)) :: st) σ mc ms) h4 rfl rfl ?_
  rw [hn, N_add]
  exact lr_ial h5 hk hs kk
theorem lr_arg0 {p1 p2 p3 : Nat} {a1 b1 d1 a2 b2 d2 a3 b3 d3 : Nat} (h1 : ip_T 207 pc = some (.aload_n 0, p1, a1, b1, d1)) (h2 : ip_T 207 p1 = some (.iload 4, p2, a2, b2, d2)) (h3 : ip_T 207 p2 = some (.iaload, p3, a3, b3, d3)) (hk : i < s.length) (hs : s.length ≤ 3072) (kk : LR s (LF p3 i l5 l6 (.inl (s.getD i 0) :: st) σ mc ms)) : LR s (LF pc i l5 l6 st σ mc ms) := by
  refine lr_step (f := LF pc i l5 l6 st σ mc ms) (f1 := LF p1 i l5 l6 (.inr (.inr (.inr 3)) :: st) σ mc ms) h1 rfl rfl ?_
  refine lr_step (f1 := LF p2 i l5 l6 (.inl (N i) :: .inr (.inr (.inr 3)) :: st) σ mc ms) h2 rfl rfl ?_
  exact lr_ial h3 hk hs kk
theorem lr_x (h : ip_T 207 pc = some (.aload_n 1, nx, a, b, c0)) (kk : LR s (LF nx i l5 l6 (rf 0 :: st) σ mc ms)) : LR s (LF pc i l5 l6 st σ mc ms) := lr_step (f := LF pc i l5 l6 st σ mc ms) h rfl rfl kk
theorem lr_m (h : ip_T 207 pc = some (.aload_n 2, nx, a, b, c0)) (kk : LR s (LF nx i l5 l6 (rf 35 :: st) σ mc ms)) : LR s (LF pc i l5 l6 st σ mc ms) := lr_step (f := LF pc i l5 l6 st σ mc ms) h rfl rfl kk
theorem lr_out (h : ip_T 207 pc = some (.aload_n 3, nx, a, b, c0)) (kk : LR s (LF nx i l5 l6 (rf 60 :: st) σ mc ms)) : LR s (LF pc i l5 l6 st σ mc ms) := lr_step (f := LF pc i l5 l6 st σ mc ms) h rfl rfl kk
theorem lr_pop {v : Int32} (h : ip_T 207 pc = some (.pop, nx, a, b, c0)) (kk : LR s (nx, la, st, sg_mk σ, mc, ms, false)) : LR s (pc, la, .inl v :: st, sg_mk σ, mc, ms, false) := lr_step (f := (pc, la, .inl v :: st, sg_mk σ, mc, ms, false)) h rfl rfl kk
theorem lr_go {off : Int} (h : ip_T 207 pc = some (.goto off, nx, a, b, c0)) (kk : LR s (a, la, st, sg_mk σ, mc, ms, false)) : LR s (pc, la, st, sg_mk σ, mc, ms, false) := lr_step (f := (pc, la, st, sg_mk σ, mc, ms, false)) h rfl rfl kk
theorem lr_k {n : Int} (h : ip_T 207 pc = some (.iconst n, nx, a, b, c0)) (kk : LR s (nx, la, .inl (Int32.ofInt n) :: st, sg_mk σ, mc, ms, false)) : LR s (pc, la, st, sg_mk σ, mc, ms, false) := lr_step (f := (pc, la, st, sg_mk σ, mc, ms, false)) h rfl rfl kk
theorem lr_ic {off : Int} {u v : Int32} (h : ip_T 207 pc = some (.if_icmp .eq off, nx, a, b, c0)) (he : u = v) (kk : LR s (a, la, st, sg_mk σ, mc, ms, false)) : LR s (pc, la, .inl v :: .inl u :: st, sg_mk σ, mc, ms, false) := by
  refine lr_step (f := (pc, la, .inl v :: .inl u :: st, sg_mk σ, mc, ms, false)) h rfl ?_ kk
  show ip_br (some (ip_cI (ip_cc .eq) u v)) nx a la st (sg_mk σ) mc ms false = _
  rw [ip_cP_t (k := .eq) he]
  rfl
theorem lr_iv {q jc n : Nat} {as vc : List (ip_V Int32)} (hT : ip_T 207 pc = some (.invokevirtual q, nx, jc, n, 0)) (ha : ip_arg (n + 1) [] st = some (as, st1)) (h8 : Nat.ble (ip_cat st1) 8 = true) (hc : Ct s jc as σ vc σ1) (hmc : mc ≤ ip_bc 207) (hms : ms ≤ ip_bs 207) (kk : LR s (nx, la, vc ++ st1, sg_mk σ1, mc, ms, false)) : LR s (pc, la, st, sg_mk σ, mc, ms, false) := by
  obtain ⟨fe, h1, h2⟩ := kk
  refine ⟨fe, rn_cal (f := (pc, la, st, sg_mk σ, mc, ms, false)) hT rfl rfl ?_ hc hmc hms h1, h2⟩
  show ip_inv jc (n + 1) nx (pc, la, st, sg_mk σ, mc, ms, false) = _
  unfold ip_inv
  dsimp only
  rw [ha]
  dsimp only
  rw [show ip_ne (sg_mk σ) mc = true from rfl, h8]
  rfl
theorem lr_bool {v : Int32} {off off2 : Int} {p1 p2 p3 p4 : Nat} {a2 b2 c2 b3 c3 a4 b4 c4 : Nat} (h1 : ip_T 207 pc = some (.ifCond .eq off, p1, p3, b, c0)) (h2 : ip_T 207 p1 = some (.iconst 1, p2, a2, b2, c2)) (h3 : ip_T 207 p2 = some (.goto off2, nx, p4, b3, c3)) (h4 : ip_T 207 p3 = some (.iconst 0, p4, a4, b4, c4)) (kk : LR s (p4, la, .inl (if v = 0 then 0 else 1) :: st, sg_mk σ, mc, ms, false)) : LR s (pc, la, .inl v :: st, sg_mk σ, mc, ms, false) := by
  by_cases e : v = 0
  · rw [if_pos e] at kk
    refine lr_step (f := (pc, la, .inl v :: st, sg_mk σ, mc, ms, false)) h1 rfl (f1 := (p3, la, st, sg_mk σ, mc, ms, false)) ?_ (lr_k h4 kk)
    show ip_br (some (ip_cI (ip_cc .eq) v 0)) p1 p3 la st (sg_mk σ) mc ms false = _
    rw [ip_cP_t (k := .eq) e]
    rfl
  · rw [if_neg e] at kk
    refine lr_step (f := (pc, la, .inl v :: st, sg_mk σ, mc, ms, false)) h1 rfl (f1 := (p1, la, st, sg_mk σ, mc, ms, false)) ?_ (lr_k h2 (lr_go h3 kk))
    show ip_br (some (ip_cI (ip_cc .eq) v 0)) p1 p3 la st (sg_mk σ) mc ms false = _
    rw [ip_cP_f (k := .eq) e]
    rfl
theorem lr_ts {u : Int32} {d lo hi : Int} {offs : Array Int} {o : Int} (hT : ip_T 207 pc = some (.tableswitch d lo hi offs, nx, a, b, c0)) (h1 : ¬ (u.toInt < lo ∨ hi < u.toInt)) (ho : offs[(u.toInt - lo).toNat]? = some o) {pc1 : Nat} (hp : (pc : Int) + o = (pc1 : Int)) (kk : LR s (pc1, la, st, sg_mk σ, mc, ms, false)) : LR s (pc, la, .inl u :: st, sg_mk σ, mc, ms, false) := by
  refine lr_step (f := (pc, la, .inl u :: st, sg_mk σ, mc, ms, false)) hT rfl ?_ kk
  show ip_sTs ex_ops d lo hi offs (pc, la, .inl u :: st, sg_mk σ, mc, ms, false) = _
  unfold ip_sTs
  dsimp only [ex_ops]
  rw [if_neg h1, ho]
  dsimp only
  rw [hp, if_pos (by omega)]
  rfl
theorem lr_tsd {u : Int32} {d lo hi : Int} {offs : Array Int} (hT : ip_T 207 pc = some (.tableswitch d lo hi offs, nx, a, b, c0)) (h1 : u.toInt < lo ∨ hi < u.toInt) {pc1 : Nat} (hp : (pc : Int) + d = (pc1 : Int)) (kk : LR s (pc1, la, st, sg_mk σ, mc, ms, false)) : LR s (pc, la, .inl u :: st, sg_mk σ, mc, ms, false) := by
  refine lr_step (f := (pc, la, .inl u :: st, sg_mk σ, mc, ms, false)) hT rfl ?_ kk
  show ip_sTs ex_ops d lo hi offs (pc, la, .inl u :: st, sg_mk σ, mc, ms, false) = _
  unfold ip_sTs
  dsimp only [ex_ops]
  rw [if_pos h1, hp, if_pos (by omega)]
  rfl
theorem lr_next (kk : LR s (LF 23 (i + 6) l5 l6 st σ mc ms)) : LR s (LF 1247 i l5 l6 st σ mc ms) := by
  have e : N i + Int32.ofInt 6 = N (i + 6) := N_add i 6
  refine lr_step (f := LF 1247 i l5 l6 st σ mc ms) (f1 := (1250, [some (.inr (.inr (.inr 3))), some (rf 0), some (rf 35), some (rf 60), some (.inl (N i + Int32.ofInt 6)), l5, l6], st, sg_mk σ, mc, ms, false)) rfl rfl rfl ?_
  rw [e]
  exact lr_go rfl kk
theorem lr_end (hmc : mc ≤ ip_bc 207) (hms : ms ≤ ip_bs 207) : LR s (LF 1253 i l5 l6 [] σ mc ms) := by
  refine lr_k rfl ⟨_, rn_stop rfl rfl, ?_⟩
  exact ⟨_, _, _, _, _, _, _, _, _, rfl, rfl, hmc, hms⟩
theorem lr_len (hs : s.length ≤ 3072) : (N s.length - 6).toInt = (s.length : Int) - 6 := by
  rw [Int32.toInt_sub, N_toInt (by omega), show (6 : Int32).toInt = 6 from rfl, Int.bmod_def]
  omega
theorem lr_cmp (hs : s.length ≤ 3072) (hi : i ≤ 3072) : (ip_cP .gt (N i) (N s.length - 6)) ↔ s.length < i + 6 := by
  show (N s.length - 6 < N i) ↔ _
  rw [Int32.lt_iff_toInt_lt, lr_len hs, N_toInt (by omega)]
  omega

theorem lr_pre (t : Prop) (k : LR s (30, LL i l5 l6, .inl (N s.length - 6) :: .inl (N i) :: [], sg_mk σ, mc, ms, false)) : LR s (LF 23 i l5 l6 [] σ mc ms) := by
  refine lr_step (f := LF 23 i l5 l6 [] σ mc ms) (f1 := LF 25 i l5 l6 [.inl (N i)] σ mc ms) rfl rfl rfl ?_
  refine lr_step (f1 := LF 26 i l5 l6 [.inr (.inr (.inr 3)), .inl (N i)] σ mc ms) rfl rfl rfl ?_
  refine lr_step (f1 := LF 27 i l5 l6 [.inl (N s.length), .inl (N i)] σ mc ms) rfl rfl rfl ?_
  refine lr_step (f1 := LF 29 i l5 l6 [.inl 6, .inl (N s.length), .inl (N i)] σ mc ms) rfl rfl rfl ?_
  exact lr_step rfl rfl rfl k
theorem lr_no (hs : s.length ≤ 3072) (hi : i ≤ 3072) (hmc : mc ≤ ip_bc 207) (hms : ms ≤ ip_bs 207) (h : s.length < i + 6) : LR s (LF 23 i l5 l6 [] σ mc ms) := by
  refine lr_pre True ?_
  refine lr_step (f := (30, LL i l5 l6, .inl (N s.length - 6) :: .inl (N i) :: [], sg_mk σ, mc, ms, false)) (f1 := LF 1253 i l5 l6 [] σ mc ms) rfl rfl ?_ (lr_end hmc hms)
  show ip_br (some (ip_cI (ip_cc .gt) (N i) (N s.length - 6))) 33 1253 _ [] (sg_mk σ) mc ms false = _
  rw [ip_cP_t (k := .gt) ((lr_cmp hs hi).mpr h)]
  rfl
theorem lr_yes (hs : s.length ≤ 3072) (h : i + 6 ≤ s.length) (k : LR s (LF 40 i l5 l6 [.inl (s.getD i 0 &&& 63)] σ mc ms)) : LR s (LF 23 i l5 l6 [] σ mc ms) := by
  refine lr_pre True ?_
  refine lr_step (f := (30, LL i l5 l6, .inl (N s.length - 6) :: .inl (N i) :: [], sg_mk σ, mc, ms, false)) (f1 := LF 33 i l5 l6 [] σ mc ms) rfl rfl ?_ ?_
  · show ip_br (some (ip_cI (ip_cc .gt) (N i) (N s.length - 6))) 33 1253 _ [] (sg_mk σ) mc ms false = _
    rw [ip_cP_f (k := .gt) (fun z => by have := (lr_cmp hs (by omega)).mp z; omega)]
    rfl
  · refine lr_arg0 rfl rfl rfl (by omega) hs ?_
    refine lr_step (f1 := LF 39 i l5 l6 [.inl 63, .inl (s.getD i 0)] σ mc ms) rfl rfl rfl ?_
    exact lr_step rfl rfl rfl k

noncomputable def o_innings (σ : sg_S) (v : Option Int32) : sg_S := match v with
  | some d => sg_up σ 60 0 d
  | none => σ
noncomputable def d_innings (v : Option Int32) : Int32 := match v with
  | some _ => 0
  | none => 1
theorem lr_try_innings {x0 x1 : Int32} (hT : ip_T 207 pc = some (.invokestatic b, nx, 205, 4, 8)) (hmc : mc + 1 ≤ ip_bc 207) (hms : ms + 6 ≤ ip_bs 207) (h8 : Nat.ble (ip_cat st) 8 = true) (kk : LR s (nx, la, .inl (d_innings (v_X4_innings σ x0 x1)) :: st, sg_mk (o_innings σ (v_X4_innings σ x0 x1)), mc + 1, ms + 6, false)) : LR s (pc, la, rf 60 :: .inl x1 :: .inl x0 :: rf 0 :: st, sg_mk σ, mc, ms, false) := by
  obtain ⟨fe, h1, h2⟩ := kk
  have r1 : Rn s 205 (ip_ent 205 [rf 0, .inl x0, .inl x1, rf 60] (sg_mk σ) false) (5, [some (rf 0), some (.inl x0), some (.inl x1), some (rf 60), none], [.inl x1, .inl x0, rf 0, .inl 0, rf 60], sg_mk σ, 0, 0, false) := by
    show Rn s 205 (0, [some (rf 0), some (.inl x0), some (.inl x1), some (rf 60), none], [], sg_mk σ, 0, 0, false) _
    refine rn_step (f1 := (1, [some (rf 0), some (.inl x0), some (.inl x1), some (rf 60), none], [rf 60], sg_mk σ, 0, 0, false)) rfl rfl rfl ?_
    refine rn_step (f1 := (2, [some (rf 0), some (.inl x0), some (.inl x1), some (rf 60), none], [.inl 0, rf 60], sg_mk σ, 0, 0, false)) rfl rfl rfl ?_
    refine rn_step (f1 := (3, [some (rf 0), some (.inl x0), some (.inl x1), some (rf 60), none], [rf 0, .inl 0, rf 60], sg_mk σ, 0, 0, false)) rfl rfl rfl ?_
    refine rn_step (f1 := (4, [some (rf 0), some (.inl x0), some (.inl x1), some (rf 60), none], [.inl x0, rf 0, .inl 0, rf 60], sg_mk σ, 0, 0, false)) rfl rfl rfl ?_
    refine rn_step (f1 := (5, [some (rf 0), some (.inl x0), some (.inl x1), some (rf 60), none], [.inl x1, .inl x0, rf 0, .inl 0, rf 60], sg_mk σ, 0, 0, false)) rfl rfl rfl ?_
    exact rn_stop rfl rfl
  have hst : ip_step ex_ops (roS s) (ip_bc 207) (ip_bs 207) (.invokestatic b, nx, 205, 4, 8) (pc, la, rf 60 :: .inl x1 :: .inl x0 :: rf 0 :: st, sg_mk σ, mc, ms, false) = some (.inr (205, [rf 0, .inl x0, .inl x1, rf 60], (nx, la, st, sg_mk σ, mc, ms, false))) := by
    show ip_inv 205 4 nx (pc, la, rf 60 :: .inl x1 :: .inl x0 :: rf 0 :: st, sg_mk σ, mc, ms, false) = _
    unfold ip_inv
    dsimp only
    rw [show ip_arg 4 [] (rf 60 :: .inl x1 :: .inl x0 :: rf 0 :: st) = some ([rf 0, .inl x0, .inl x1, rf 60], st) from rfl]
    dsimp only
    rw [show ip_ne (sg_mk σ) mc = true from rfl, h8]
    rfl
  have hk : (ip_rcv (sg_mk σ) 0 (ip_oc 82) [rf 0, .inl x0, .inl x1] && (Nat.ble ([rf 0, .inl x0, .inl x1] : List (ip_V Int32)).length (ip_mx 82) && (Nat.ble (ip_cat ([.inl 0, rf 60] : List (ip_V Int32))) 8 && (Nat.ble (ip_bc 82) (ip_bc 205) && Nat.ble (ip_bs 82) (ip_bs 205))))) = true := by
    rw [show ip_rcv (sg_mk σ) 0 (ip_oc 82) [rf 0, .inl x0, .inl x1] = true by
      unfold ip_rcv
      dsimp only
      rw [sg_nth σ (show 0 < 61 by decide)]
      rfl]
    rfl
  have r2 : RtF thB (fT σ) s 82 0 (([rf 0, .inl x0, .inl x1] : List (ip_V Int32)).map some ++ List.replicate (ip_mx 82 - ([rf 0, .inl x0, .inl x1] : List (ip_V Int32)).length) none) [] σ (v_X4_innings σ x0 x1) := m_X4_innings x0 x1
  cases hv : v_X4_innings σ x0 x1 with
  | some d =>
    rw [hv] at h1
    have r3 : Rn s 205 (8, [some (rf 0), some (.inl x0), some (.inl x1), some (rf 60), none], [.inl d, .inl 0, rf 60], sg_mk σ, ip_bc 82, ip_bs 82, false) (18, [some (rf 0), some (.inl x0), some (.inl x1), some (rf 60), none], [.inl 0], sg_mk (sg_up σ 60 0 d), ip_bc 82, ip_bs 82, false) := by
      refine rn_step (f1 := (9, [some (rf 0), some (.inl x0), some (.inl x1), some (rf 60), none], [.inr (.inl d), .inl 0, rf 60], sg_mk σ, ip_bc 82, ip_bs 82, false)) rfl rfl rfl ?_
      refine rn_step (f1 := (10, [some (rf 0), some (.inl x0), some (.inl x1), some (rf 60), none], [], sg_mk (sg_up σ 60 0 d), ip_bc 82, ip_bs 82, false)) rfl rfl ?_ ?_
      · show ip_sLas ex_ops 10 (9, [some (rf 0), some (.inl x0), some (.inl x1), some (rf 60), none], [.inr (.inl d), .inl 0, rf 60], sg_mk σ, ip_bc 82, ip_bs 82, false) = _
        unfold ip_sLas
        dsimp only
        unfold ip_ast
        dsimp only
        rw [show ip_ix (ex_ops.2.2.2 0) = some 0 from rfl, sg_nth σ (show 60 < 61 by decide)]
        dsimp only
        rw [show Nat.beq 22 (sh_kd 60) = true from rfl]
        dsimp only [cond_true]
        rw [sg_fld σ (show 0 < sh_len 60 by decide)]
        have h := sg_put (σ := σ) (q := 60) (k := 0) (v := d) (by decide) (by decide) rfl (w := .inr (.inl d)) rfl
        dsimp only
        exact congrArg (fun z => some (Sum.inl (10, [some (rf 0), some (.inl x0), some (.inl x1), some (rf 60), none], [], z, ip_bc 82, ip_bs 82, false))) h
      refine rn_step (f1 := (17, [some (rf 0), some (.inl x0), some (.inl x1), some (rf 60), none], [], sg_mk (sg_up σ 60 0 d), ip_bc 82, ip_bs 82, false)) rfl rfl rfl ?_
      refine rn_step (f1 := (18, [some (rf 0), some (.inl x0), some (.inl x1), some (rf 60), none], [.inl 0], sg_mk (sg_up σ 60 0 d), ip_bc 82, ip_bs 82, false)) rfl rfl rfl ?_
      exact rn_stop rfl rfl
    exact ⟨fe, rn_cat (v := some d) (f := (pc, la, rf 60 :: .inl x1 :: .inl x0 :: rf 0 :: st, sg_mk σ, mc, ms, false)) hT rfl rfl hst r1 rfl rfl hk (by rw [hv] at r2; exact r2) rfl r3 rfl rfl hmc hms h1, h2⟩
  | none =>
    rw [hv] at h1
    have r3 : Rn s 205 (ip_hd 205, ([some (rf 0), some (.inl x0), some (.inl x1), some (rf 60), none] : List (Option (ip_V Int32))).map (fun _ => none), [], sg_mk σ, ip_bc 82, ip_bs 82, false) (16, ([some (rf 0), some (.inl x0), some (.inl x1), some (rf 60), none] : List (Option (ip_V Int32))).map (fun _ => none), [.inl 1], sg_mk σ, ip_bc 82, ip_bs 82, false) := by
      refine rn_step (f1 := (16, ([some (rf 0), some (.inl x0), some (.inl x1), some (rf 60), none] : List (Option (ip_V Int32))).map (fun _ => none), [.inl 1], sg_mk σ, ip_bc 82, ip_bs 82, false)) rfl rfl rfl ?_
      exact rn_stop rfl rfl
    exact ⟨fe, rn_cat (v := none) (f := (pc, la, rf 60 :: .inl x1 :: .inl x0 :: rf 0 :: st, sg_mk σ, mc, ms, false)) hT rfl rfl hst r1 rfl rfl hk (by rw [hv] at r2; exact r2) rfl r3 rfl rfl hmc hms h1, h2⟩

noncomputable def o_cut (σ : sg_S) (v : Option Int32) : sg_S := match v with
  | some d => sg_up σ 60 0 d
  | none => σ
noncomputable def d_cut (v : Option Int32) : Int32 := match v with
  | some _ => 0
  | none => 1
theorem lr_try_cut {x0 x1 x2 : Int32} (hp : p_X4_cut σ x0 x1 x2) (hT : ip_T 207 pc = some (.invokestatic b, nx, 206, 5, 8)) (hmc : mc + 1 ≤ ip_bc 207) (hms : ms + 6 ≤ ip_bs 207) (h8 : Nat.ble (ip_cat st) 8 = true) (kk : LR s (nx, la, .inl (d_cut (v_X4_cut σ x0 x1 x2)) :: st, sg_mk (o_cut σ (v_X4_cut σ x0 x1 x2)), mc + 1, ms + 6, false)) : LR s (pc, la, rf 60 :: .inl x2 :: .inl x1 :: .inl x0 :: rf 0 :: st, sg_mk σ, mc, ms, false) := by
  obtain ⟨fe, h1, h2⟩ := kk
  have r1 : Rn s 206 (ip_ent 206 [rf 0, .inl x0, .inl x1, .inl x2, rf 60] (sg_mk σ) false) (7, [some (rf 0), some (.inl x0), some (.inl x1), some (.inl x2), some (rf 60), none], [.inl x2, .inl x1, .inl x0, rf 0, .inl 0, rf 60], sg_mk σ, 0, 0, false) := by
    show Rn s 206 (0, [some (rf 0), some (.inl x0), some (.inl x1), some (.inl x2), some (rf 60), none], [], sg_mk σ, 0, 0, false) _
    refine rn_step (f1 := (2, [some (rf 0), some (.inl x0), some (.inl x1), some (.inl x2), some (rf 60), none], [rf 60], sg_mk σ, 0, 0, false)) rfl rfl rfl ?_
    refine rn_step (f1 := (3, [some (rf 0), some (.inl x0), some (.inl x1), some (.inl x2), some (rf 60), none], [.inl 0, rf 60], sg_mk σ, 0, 0, false)) rfl rfl rfl ?_
    refine rn_step (f1 := (4, [some (rf 0), some (.inl x0), some (.inl x1), some (.inl x2), some (rf 60), none], [rf 0, .inl 0, rf 60], sg_mk σ, 0, 0, false)) rfl rfl rfl ?_
    refine rn_step (f1 := (5, [some (rf 0), some (.inl x0), some (.inl x1), some (.inl x2), some (rf 60), none], [.inl x0, rf 0, .inl 0, rf 60], sg_mk σ, 0, 0, false)) rfl rfl rfl ?_
    refine rn_step (f1 := (6, [some (rf 0), some (.inl x0), some (.inl x1), some (.inl x2), some (rf 60), none], [.inl x1, .inl x0, rf 0, .inl 0, rf 60], sg_mk σ, 0, 0, false)) rfl rfl rfl ?_
    refine rn_step (f1 := (7, [some (rf 0), some (.inl x0), some (.inl x1), some (.inl x2), some (rf 60), none], [.inl x2, .inl x1, .inl x0, rf 0, .inl 0, rf 60], sg_mk σ, 0, 0, false)) rfl rfl rfl ?_
    exact rn_stop rfl rfl
  have hst : ip_step ex_ops (roS s) (ip_bc 207) (ip_bs 207) (.invokestatic b, nx, 206, 5, 8) (pc, la, rf 60 :: .inl x2 :: .inl x1 :: .inl x0 :: rf 0 :: st, sg_mk σ, mc, ms, false) = some (.inr (206, [rf 0, .inl x0, .inl x1, .inl x2, rf 60], (nx, la, st, sg_mk σ, mc, ms, false))) := by
    show ip_inv 206 5 nx (pc, la, rf 60 :: .inl x2 :: .inl x1 :: .inl x0 :: rf 0 :: st, sg_mk σ, mc, ms, false) = _
    unfold ip_inv
    dsimp only
    rw [show ip_arg 5 [] (rf 60 :: .inl x2 :: .inl x1 :: .inl x0 :: rf 0 :: st) = some ([rf 0, .inl x0, .inl x1, .inl x2, rf 60], st) from rfl]
    dsimp only
    rw [show ip_ne (sg_mk σ) mc = true from rfl, h8]
    rfl
  have hk : (ip_rcv (sg_mk σ) 0 (ip_oc 83) [rf 0, .inl x0, .inl x1, .inl x2] && (Nat.ble ([rf 0, .inl x0, .inl x1, .inl x2] : List (ip_V Int32)).length (ip_mx 83) && (Nat.ble (ip_cat ([.inl 0, rf 60] : List (ip_V Int32))) 8 && (Nat.ble (ip_bc 83) (ip_bc 206) && Nat.ble (ip_bs 83) (ip_bs 206))))) = true := by
    rw [show ip_rcv (sg_mk σ) 0 (ip_oc 83) [rf 0, .inl x0, .inl x1, .inl x2] = true by
      unfold ip_rcv
      dsimp only
      rw [sg_nth σ (show 0 < 61 by decide)]
      rfl]
    rfl
  have r2 : RtF thB (fT σ) s 83 0 (([rf 0, .inl x0, .inl x1, .inl x2] : List (ip_V Int32)).map some ++ List.replicate (ip_mx 83 - ([rf 0, .inl x0, .inl x1, .inl x2] : List (ip_V Int32)).length) none) [] σ (v_X4_cut σ x0 x1 x2) := m_X4_cut x0 x1 x2 hp
  cases hv : v_X4_cut σ x0 x1 x2 with
  | some d =>
    rw [hv] at h1
    have r3 : Rn s 206 (10, [some (rf 0), some (.inl x0), some (.inl x1), some (.inl x2), some (rf 60), none], [.inl d, .inl 0, rf 60], sg_mk σ, ip_bc 83, ip_bs 83, false) (20, [some (rf 0), some (.inl x0), some (.inl x1), some (.inl x2), some (rf 60), none], [.inl 0], sg_mk (sg_up σ 60 0 d), ip_bc 83, ip_bs 83, false) := by
      refine rn_step (f1 := (11, [some (rf 0), some (.inl x0), some (.inl x1), some (.inl x2), some (rf 60), none], [.inr (.inl d), .inl 0, rf 60], sg_mk σ, ip_bc 83, ip_bs 83, false)) rfl rfl rfl ?_
      refine rn_step (f1 := (12, [some (rf 0), some (.inl x0), some (.inl x1), some (.inl x2), some (rf 60), none], [], sg_mk (sg_up σ 60 0 d), ip_bc 83, ip_bs 83, false)) rfl rfl ?_ ?_
      · show ip_sLas ex_ops 12 (11, [some (rf 0), some (.inl x0), some (.inl x1), some (.inl x2), some (rf 60), none], [.inr (.inl d), .inl 0, rf 60], sg_mk σ, ip_bc 83, ip_bs 83, false) = _
        unfold ip_sLas
        dsimp only
        unfold ip_ast
        dsimp only
        rw [show ip_ix (ex_ops.2.2.2 0) = some 0 from rfl, sg_nth σ (show 60 < 61 by decide)]
        dsimp only
        rw [show Nat.beq 22 (sh_kd 60) = true from rfl]
        dsimp only [cond_true]
        rw [sg_fld σ (show 0 < sh_len 60 by decide)]
        have h := sg_put (σ := σ) (q := 60) (k := 0) (v := d) (by decide) (by decide) rfl (w := .inr (.inl d)) rfl
        dsimp only
        exact congrArg (fun z => some (Sum.inl (12, [some (rf 0), some (.inl x0), some (.inl x1), some (.inl x2), some (rf 60), none], [], z, ip_bc 83, ip_bs 83, false))) h
      refine rn_step (f1 := (19, [some (rf 0), some (.inl x0), some (.inl x1), some (.inl x2), some (rf 60), none], [], sg_mk (sg_up σ 60 0 d), ip_bc 83, ip_bs 83, false)) rfl rfl rfl ?_
      refine rn_step (f1 := (20, [some (rf 0), some (.inl x0), some (.inl x1), some (.inl x2), some (rf 60), none], [.inl 0], sg_mk (sg_up σ 60 0 d), ip_bc 83, ip_bs 83, false)) rfl rfl rfl ?_
      exact rn_stop rfl rfl
    exact ⟨fe, rn_cat (v := some d) (f := (pc, la, rf 60 :: .inl x2 :: .inl x1 :: .inl x0 :: rf 0 :: st, sg_mk σ, mc, ms, false)) hT rfl rfl hst r1 rfl rfl hk (by rw [hv] at r2; exact r2) rfl r3 rfl rfl hmc hms h1, h2⟩
  | none =>
    rw [hv] at h1
    have r3 : Rn s 206 (ip_hd 206, ([some (rf 0), some (.inl x0), some (.inl x1), some (.inl x2), some (rf 60), none] : List (Option (ip_V Int32))).map (fun _ => none), [], sg_mk σ, ip_bc 83, ip_bs 83, false) (18, ([some (rf 0), some (.inl x0), some (.inl x1), some (.inl x2), some (rf 60), none] : List (Option (ip_V Int32))).map (fun _ => none), [.inl 1], sg_mk σ, ip_bc 83, ip_bs 83, false) := by
      refine rn_step (f1 := (18, ([some (rf 0), some (.inl x0), some (.inl x1), some (.inl x2), some (rf 60), none] : List (Option (ip_V Int32))).map (fun _ => none), [.inl 1], sg_mk σ, ip_bc 83, ip_bs 83, false)) rfl rfl rfl ?_
      exact rn_stop rfl rfl
    exact ⟨fe, rn_cat (v := none) (f := (pc, la, rf 60 :: .inl x2 :: .inl x1 :: .inl x0 :: rf 0 :: st, sg_mk σ, mc, ms, false)) hT rfl rfl hst r1 rfl rfl hk (by rw [hv] at r2; exact r2) rfl r3 rfl rfl hmc hms h1, h2⟩

theorem lc_0 {v1 v2 : Int32} {σ1 σ2 : sg_S} (hs : s.length ≤ 3072) (hi : i + 6 ≤ s.length) (hmc : mc ≤ ip_bc 207) (hms : ms ≤ ip_bs 207) (c1 : Ct s 70 [rf 0, .inl (s.getD (i + 1) 0), .inl (s.getD (i + 2) 0), .inl (s.getD (i + 3) 0), .inl (s.getD (i + 4) 0), .inl (s.getD (i + 5) 0)] σ [.inl v1] σ1) (c2 : Ct s 149 [rf 35, .inl (s.getD (i + 1) 0), .inl (s.getD (i + 2) 0), .inl (s.getD (i + 3) 0), .inl (s.getD (i + 4) 0), .inl (s.getD (i + 5) 0)] σ1 [.inl v2] σ2) (kk : LR s (LF 1247 i l5 l6 [] σ2 mc ms)) : LR s (LF 204 i l5 l6 [] σ mc ms) := by
  refine lr_x rfl ?_
  refine lr_arg (p := 1) rfl rfl rfl rfl rfl rfl (by omega) hs ?_
  refine lr_arg (p := 2) rfl rfl rfl rfl rfl rfl (by omega) hs ?_
  refine lr_arg (p := 3) rfl rfl rfl rfl rfl rfl (by omega) hs ?_
  refine lr_arg (p := 4) rfl rfl rfl rfl rfl rfl (by omega) hs ?_
  refine lr_arg (p := 5) rfl rfl rfl rfl rfl rfl (by omega) hs ?_
  refine lr_iv rfl rfl rfl c1 hmc hms ?_
  refine lr_pop rfl ?_
  refine lr_m rfl ?_
  refine lr_arg (p := 1) rfl rfl rfl rfl rfl rfl (by omega) hs ?_
  refine lr_arg (p := 2) rfl rfl rfl rfl rfl rfl (by omega) hs ?_
  refine lr_arg (p := 3) rfl rfl rfl rfl rfl rfl (by omega) hs ?_
  refine lr_arg (p := 4) rfl rfl rfl rfl rfl rfl (by omega) hs ?_
  refine lr_arg (p := 5) rfl rfl rfl rfl rfl rfl (by omega) hs ?_
  refine lr_iv rfl rfl rfl c2 hmc hms ?_
  refine lr_pop rfl ?_
  refine lr_go rfl ?_
  exact kk
theorem lc_1 {v1 v2 : Int32} {σ1 σ2 : sg_S} (hs : s.length ≤ 3072) (hi : i + 6 ≤ s.length) (hmc : mc ≤ ip_bc 207) (hms : ms ≤ ip_bs 207) (c1 : Ct s 71 [rf 0, .inl (s.getD (i + 1) 0)] σ [.inl v1] σ1) (c2 : Ct s 150 [rf 35, .inl (s.getD (i + 1) 0)] σ1 [.inl v2] σ2) (kk : LR s (LF 1247 i l5 l6 [] σ2 mc ms)) : LR s (LF 277 i l5 l6 [] σ mc ms) := by
  refine lr_x rfl ?_
  refine lr_arg (p := 1) rfl rfl rfl rfl rfl rfl (by omega) hs ?_
  refine lr_iv rfl rfl rfl c1 hmc hms ?_
  refine lr_pop rfl ?_
  refine lr_m rfl ?_
  refine lr_arg (p := 1) rfl rfl rfl rfl rfl rfl (by omega) hs ?_
  refine lr_iv rfl rfl rfl c2 hmc hms ?_
  refine lr_pop rfl ?_
  refine lr_go rfl ?_
  exact kk
theorem lc_2 {v1 v2 : Int32} {σ1 σ2 : sg_S} (hs : s.length ≤ 3072) (hi : i + 6 ≤ s.length) (hmc : mc ≤ ip_bc 207) (hms : ms ≤ ip_bs 207) (c1 : Ct s 72 [rf 0] σ [.inl v1] σ1) (c2 : Ct s 159 [rf 35] σ1 [.inl v2] σ2) (kk : LR s (LF 1247 i l5 l6 [] σ2 mc ms)) : LR s (LF 302 i l5 l6 [] σ mc ms) := by
  refine lr_x rfl ?_
  refine lr_iv rfl rfl rfl c1 hmc hms ?_
  refine lr_pop rfl ?_
  refine lr_m rfl ?_
  refine lr_iv rfl rfl rfl c2 hmc hms ?_
  refine lr_pop rfl ?_
  refine lr_go rfl ?_
  exact kk
theorem lc_3 {v1 v2 : Int32} {σ1 σ2 : sg_S} (hs : s.length ≤ 3072) (hi : i + 6 ≤ s.length) (hmc : mc ≤ ip_bc 207) (hms : ms ≤ ip_bs 207) (c1 : Ct s 73 [rf 0] σ [.inl v1] σ1) (c2 : Ct s 160 [rf 35] σ1 [.inl v2] σ2) (kk : LR s (LF 1247 i l5 l6 [] σ2 mc ms)) : LR s (LF 315 i l5 l6 [] σ mc ms) := by
  refine lr_x rfl ?_
  refine lr_iv rfl rfl rfl c1 hmc hms ?_
  refine lr_pop rfl ?_
  refine lr_m rfl ?_
  refine lr_iv rfl rfl rfl c2 hmc hms ?_
  refine lr_pop rfl ?_
  refine lr_go rfl ?_
  exact kk
theorem lc_4 {v1 v2 : Int32} {σ1 σ2 : sg_S} (hs : s.length ≤ 3072) (hi : i + 6 ≤ s.length) (hmc : mc ≤ ip_bc 207) (hms : ms ≤ ip_bs 207) (c1 : Ct s 74 [rf 0] σ [.inl v1] σ1) (c2 : Ct s 161 [rf 35] σ1 [.inl v2] σ2) (kk : LR s (LF 1247 i l5 l6 [] σ2 mc ms)) : LR s (LF 328 i l5 l6 [] σ mc ms) := by
  refine lr_x rfl ?_
  refine lr_iv rfl rfl rfl c1 hmc hms ?_
  refine lr_pop rfl ?_
  refine lr_m rfl ?_
  refine lr_iv rfl rfl rfl c2 hmc hms ?_
  refine lr_pop rfl ?_
  refine lr_go rfl ?_
  exact kk
theorem lc_5 {v1 v2 : Int32} {σ1 σ2 : sg_S} (hs : s.length ≤ 3072) (hi : i + 6 ≤ s.length) (hmc : mc ≤ ip_bc 207) (hms : ms ≤ ip_bs 207) (c1 : Ct s 75 [rf 0, .inl (s.getD (i + 1) 0), .inl (s.getD (i + 2) 0)] σ [.inl v1] σ1) (c2 : Ct s 162 [rf 35, .inl (s.getD (i + 1) 0), .inl (s.getD (i + 2) 0)] σ1 [.inl v2] σ2) (kk : LR s (LF 1247 i l5 l6 [] σ2 mc ms)) : LR s (LF 341 i l5 l6 [] σ mc ms) := by
  refine lr_x rfl ?_
  refine lr_arg (p := 1) rfl rfl rfl rfl rfl rfl (by omega) hs ?_
  refine lr_arg (p := 2) rfl rfl rfl rfl rfl rfl (by omega) hs ?_
  refine lr_iv rfl rfl rfl c1 hmc hms ?_
  refine lr_pop rfl ?_
  refine lr_m rfl ?_
  refine lr_arg (p := 1) rfl rfl rfl rfl rfl rfl (by omega) hs ?_
  refine lr_arg (p := 2) rfl rfl rfl rfl rfl rfl (by omega) hs ?_
  refine lr_iv rfl rfl rfl c2 hmc hms ?_
  refine lr_pop rfl ?_
  refine lr_go rfl ?_
  exact kk
theorem lc_6 {v1 v2 : Int32} {σ1 σ2 : sg_S} (hs : s.length ≤ 3072) (hi : i + 6 ≤ s.length) (hmc : mc ≤ ip_bc 207) (hms : ms ≤ ip_bs 207) (c1 : Ct s 76 [rf 0, .inl (s.getD (i + 1) 0), .inl (s.getD (i + 2) 0)] σ [.inl v1] σ1) (c2 : Ct s 163 [rf 35, .inl (s.getD (i + 1) 0), .inl (s.getD (i + 2) 0)] σ1 [.inl v2] σ2) (kk : LR s (LF 1247 i l5 l6 [] σ2 mc ms)) : LR s (LF 378 i l5 l6 [] σ mc ms) := by
  refine lr_x rfl ?_
  refine lr_arg (p := 1) rfl rfl rfl rfl rfl rfl (by omega) hs ?_
  refine lr_arg (p := 2) rfl rfl rfl rfl rfl rfl (by omega) hs ?_
  refine lr_iv rfl rfl rfl c1 hmc hms ?_
  refine lr_pop rfl ?_
  refine lr_m rfl ?_
  refine lr_arg (p := 1) rfl rfl rfl rfl rfl rfl (by omega) hs ?_
  refine lr_arg (p := 2) rfl rfl rfl rfl rfl rfl (by omega) hs ?_
  refine lr_iv rfl rfl rfl c2 hmc hms ?_
  refine lr_pop rfl ?_
  refine lr_go rfl ?_
  exact kk
theorem lc_7 {v1 v2 : Int32} {σ1 σ2 : sg_S} (hs : s.length ≤ 3072) (hi : i + 6 ≤ s.length) (hmc : mc ≤ ip_bc 207) (hms : ms ≤ ip_bs 207) (c1 : Ct s 77 [rf 0] σ [.inl v1] σ1) (c2 : Ct s 164 [rf 35] σ1 [.inl v2] σ2) (kk : LR s (LF 1247 i l5 l6 [] σ2 mc ms)) : LR s (LF 415 i l5 l6 [] σ mc ms) := by
  refine lr_x rfl ?_
  refine lr_iv rfl rfl rfl c1 hmc hms ?_
  refine lr_pop rfl ?_
  refine lr_m rfl ?_
  refine lr_iv rfl rfl rfl c2 hmc hms ?_
  refine lr_pop rfl ?_
  refine lr_go rfl ?_
  exact kk
theorem lc_8 {v1 v2 : Int32} {σ1 σ2 : sg_S} (hs : s.length ≤ 3072) (hi : i + 6 ≤ s.length) (hmc : mc ≤ ip_bc 207) (hms : ms ≤ ip_bs 207) (c1 : Ct s 78 [rf 0] σ [.inl v1] σ1) (c2 : Ct s 165 [rf 35] σ1 [.inl v2] σ2) (kk : LR s (LF 1247 i l5 l6 [] σ2 mc ms)) : LR s (LF 428 i l5 l6 [] σ mc ms) := by
  refine lr_x rfl ?_
  refine lr_iv rfl rfl rfl c1 hmc hms ?_
  refine lr_pop rfl ?_
  refine lr_m rfl ?_
  refine lr_iv rfl rfl rfl c2 hmc hms ?_
  refine lr_pop rfl ?_
  refine lr_go rfl ?_
  exact kk
theorem lc_9 {v1 v2 : Int32} {σ1 σ2 : sg_S} (hs : s.length ≤ 3072) (hi : i + 6 ≤ s.length) (hmc : mc ≤ ip_bc 207) (hms : ms ≤ ip_bs 207) (c1 : Ct s 79 [rf 0, .inl (s.getD (i + 1) 0)] σ [.inl v1] σ1) (c2 : Ct s 166 [rf 35, .inl (s.getD (i + 1) 0)] σ1 [.inl v2] σ2) (kk : LR s (LF 1247 i l5 l6 [] σ2 mc ms)) : LR s (LF 441 i l5 l6 [] σ mc ms) := by
  refine lr_x rfl ?_
  refine lr_arg (p := 1) rfl rfl rfl rfl rfl rfl (by omega) hs ?_
  refine lr_iv rfl rfl rfl c1 hmc hms ?_
  refine lr_pop rfl ?_
  refine lr_m rfl ?_
  refine lr_arg (p := 1) rfl rfl rfl rfl rfl rfl (by omega) hs ?_
  refine lr_iv rfl rfl rfl c2 hmc hms ?_
  refine lr_pop rfl ?_
  refine lr_go rfl ?_
  exact kk
theorem lc_10 {v1 v2 : Int32} {σ1 σ2 : sg_S} (hs : s.length ≤ 3072) (hi : i + 6 ≤ s.length) (hmc : mc ≤ ip_bc 207) (hms : ms ≤ ip_bs 207) (c1 : Ct s 80 [rf 0, .inl (s.getD (i + 1) 0), .inl (s.getD (i + 2) 0)] σ [.inl v1] σ1) (c2 : Ct s 127 [rf 35, .inl (s.getD (i + 1) 0), .inl (s.getD (i + 2) 0)] σ1 [.inl v2] σ2) (kk : LR s (LF 1247 i l5 l6 [] σ2 mc ms)) : LR s (LF 466 i l5 l6 [] σ mc ms) := by
  refine lr_x rfl ?_
  refine lr_arg (p := 1) rfl rfl rfl rfl rfl rfl (by omega) hs ?_
  refine lr_arg (p := 2) rfl rfl rfl rfl rfl rfl (by omega) hs ?_
  refine lr_iv rfl rfl rfl c1 hmc hms ?_
  refine lr_pop rfl ?_
  refine lr_m rfl ?_
  refine lr_arg (p := 1) rfl rfl rfl rfl rfl rfl (by omega) hs ?_
  refine lr_arg (p := 2) rfl rfl rfl rfl rfl rfl (by omega) hs ?_
  refine lr_iv rfl rfl rfl c2 hmc hms ?_
  refine lr_pop rfl ?_
  refine lr_go rfl ?_
  exact kk
theorem lc_11 {v1 v2 : Int32} {σ1 σ2 : sg_S} (hs : s.length ≤ 3072) (hi : i + 6 ≤ s.length) (hmc : mc ≤ ip_bc 207) (hms : ms ≤ ip_bs 207) (c1 : Ct s 81 [rf 0, .inl (s.getD (i + 1) 0), .inl (s.getD (i + 2) 0)] σ [.inl v1] σ1) (c2 : Ct s 128 [rf 35, .inl (s.getD (i + 1) 0), .inl (s.getD (i + 2) 0)] σ1 [.inl v2] σ2) (kk : LR s (LF 1247 i l5 l6 [] σ2 mc ms)) : LR s (LF 503 i l5 l6 [] σ mc ms) := by
  refine lr_x rfl ?_
  refine lr_arg (p := 1) rfl rfl rfl rfl rfl rfl (by omega) hs ?_
  refine lr_arg (p := 2) rfl rfl rfl rfl rfl rfl (by omega) hs ?_
  refine lr_iv rfl rfl rfl c1 hmc hms ?_
  refine lr_pop rfl ?_
  refine lr_m rfl ?_
  refine lr_arg (p := 1) rfl rfl rfl rfl rfl rfl (by omega) hs ?_
  refine lr_arg (p := 2) rfl rfl rfl rfl rfl rfl (by omega) hs ?_
  refine lr_iv rfl rfl rfl c2 hmc hms ?_
  refine lr_pop rfl ?_
  refine lr_go rfl ?_
  exact kk
theorem lc_12 {v2 : Int32} {σ2 : sg_S} (hs : s.length ≤ 3072) (hi : i + 6 ≤ s.length) (hmc : mc ≤ ip_bc 207) (hms : ms ≤ ip_bs 207) (hmc1 : mc + 1 ≤ ip_bc 207) (hms1 : ms + 6 ≤ ip_bs 207) (c2 : Ct s 168 [rf 35, .inl (s.getD (i + 1) 0), .inl (s.getD (i + 2) 0)] (o_innings σ (v_X4_innings σ (s.getD (i + 1) 0) (s.getD (i + 2) 0))) [.inl v2] σ2) (kk : LR s (LF 1247 i (some (.inl (d_innings (v_X4_innings σ (s.getD (i + 1) 0) (s.getD (i + 2) 0))))) (some (.inl v2)) [] σ2 (mc + 1) (ms + 6))) : LR s (LF 540 i l5 l6 [] σ mc ms) := by
  refine lr_x rfl ?_
  refine lr_arg (p := 1) rfl rfl rfl rfl rfl rfl (by omega) hs ?_
  refine lr_arg (p := 2) rfl rfl rfl rfl rfl rfl (by omega) hs ?_
  refine lr_out rfl ?_
  refine lr_try_innings rfl hmc1 hms1 rfl ?_
  refine lr_step (f1 := LF 559 i (some (.inl (d_innings (v_X4_innings σ (s.getD (i + 1) 0) (s.getD (i + 2) 0))))) l6 [] (o_innings σ (v_X4_innings σ (s.getD (i + 1) 0) (s.getD (i + 2) 0))) (mc + 1) (ms + 6)) rfl rfl rfl ?_
  refine lr_m rfl ?_
  refine lr_arg (p := 1) rfl rfl rfl rfl rfl rfl (by omega) hs ?_
  refine lr_arg (p := 2) rfl rfl rfl rfl rfl rfl (by omega) hs ?_
  refine lr_iv rfl rfl rfl c2 hmc1 hms1 ?_
  refine lr_step (f1 := LF 577 i (some (.inl (d_innings (v_X4_innings σ (s.getD (i + 1) 0) (s.getD (i + 2) 0))))) (some (.inl v2)) [] σ2 (mc + 1) (ms + 6)) rfl rfl rfl ?_
  refine lr_go rfl ?_
  exact kk
theorem lc_13 {v2 : Int32} {σ2 : sg_S} (hs : s.length ≤ 3072) (hi : i + 6 ≤ s.length) (hmc : mc ≤ ip_bc 207) (hms : ms ≤ ip_bs 207) (hp : p_X4_cut σ (s.getD (i + 1) 0) (s.getD (i + 2) 0) (s.getD (i + 3) 0)) (hmc1 : mc + 1 ≤ ip_bc 207) (hms1 : ms + 6 ≤ ip_bs 207) (c2 : Ct s 169 [rf 35, .inl (s.getD (i + 1) 0), .inl (s.getD (i + 2) 0), .inl (s.getD (i + 3) 0)] (o_cut σ (v_X4_cut σ (s.getD (i + 1) 0) (s.getD (i + 2) 0) (s.getD (i + 3) 0))) [.inl v2] σ2) (kk : LR s (LF 1247 i (some (.inl (d_cut (v_X4_cut σ (s.getD (i + 1) 0) (s.getD (i + 2) 0) (s.getD (i + 3) 0))))) (some (.inl v2)) [] σ2 (mc + 1) (ms + 6))) : LR s (LF 580 i l5 l6 [] σ mc ms) := by
  refine lr_x rfl ?_
  refine lr_arg (p := 1) rfl rfl rfl rfl rfl rfl (by omega) hs ?_
  refine lr_arg (p := 2) rfl rfl rfl rfl rfl rfl (by omega) hs ?_
  refine lr_arg (p := 3) rfl rfl rfl rfl rfl rfl (by omega) hs ?_
  refine lr_out rfl ?_
  refine lr_try_cut (hp := hp) rfl hmc1 hms1 rfl ?_
  refine lr_step (f1 := LF 605 i (some (.inl (d_cut (v_X4_cut σ (s.getD (i + 1) 0) (s.getD (i + 2) 0) (s.getD (i + 3) 0))))) l6 [] (o_cut σ (v_X4_cut σ (s.getD (i + 1) 0) (s.getD (i + 2) 0) (s.getD (i + 3) 0))) (mc + 1) (ms + 6)) rfl rfl rfl ?_
  refine lr_m rfl ?_
  refine lr_arg (p := 1) rfl rfl rfl rfl rfl rfl (by omega) hs ?_
  refine lr_arg (p := 2) rfl rfl rfl rfl rfl rfl (by omega) hs ?_
  refine lr_arg (p := 3) rfl rfl rfl rfl rfl rfl (by omega) hs ?_
  refine lr_iv rfl rfl rfl c2 hmc1 hms1 ?_
  refine lr_step (f1 := LF 629 i (some (.inl (d_cut (v_X4_cut σ (s.getD (i + 1) 0) (s.getD (i + 2) 0) (s.getD (i + 3) 0))))) (some (.inl v2)) [] σ2 (mc + 1) (ms + 6)) rfl rfl rfl ?_
  refine lr_go rfl ?_
  exact kk
theorem lc_14 {v1 v2 : Int32} {σ1 σ2 : sg_S} (hs : s.length ≤ 3072) (hi : i + 6 ≤ s.length) (hmc : mc ≤ ip_bc 207) (hms : ms ≤ ip_bs 207) (c1 : Ct s 84 [rf 0, .inl (s.getD (i + 1) 0), .inl (s.getD (i + 2) 0), .inl (s.getD (i + 3) 0)] σ [.inl v1] σ1) (c2 : Ct s 170 [rf 35, .inl (s.getD (i + 1) 0), .inl (s.getD (i + 2) 0), .inl (s.getD (i + 3) 0)] σ1 [.inl v2] σ2) (kk : LR s (LF 1247 i l5 l6 [] σ2 mc ms)) : LR s (LF 632 i l5 l6 [] σ mc ms) := by
  refine lr_x rfl ?_
  refine lr_arg (p := 1) rfl rfl rfl rfl rfl rfl (by omega) hs ?_
  refine lr_arg (p := 2) rfl rfl rfl rfl rfl rfl (by omega) hs ?_
  refine lr_arg (p := 3) rfl rfl rfl rfl rfl rfl (by omega) hs ?_
  refine lr_iv rfl rfl rfl c1 hmc hms ?_
  refine lr_pop rfl ?_
  refine lr_m rfl ?_
  refine lr_arg (p := 1) rfl rfl rfl rfl rfl rfl (by omega) hs ?_
  refine lr_arg (p := 2) rfl rfl rfl rfl rfl rfl (by omega) hs ?_
  refine lr_arg (p := 3) rfl rfl rfl rfl rfl rfl (by omega) hs ?_
  refine lr_iv rfl rfl rfl c2 hmc hms ?_
  refine lr_pop rfl ?_
  refine lr_go rfl ?_
  exact kk
theorem lc_15 {v1 v2 : Int32} {σ1 σ2 : sg_S} (hs : s.length ≤ 3072) (hi : i + 6 ≤ s.length) (hmc : mc ≤ ip_bc 207) (hms : ms ≤ ip_bs 207) (c1 : Ct s 85 [rf 0, .inl (s.getD (i + 1) 0), .inl (s.getD (i + 2) 0)] σ [.inl v1] σ1) (c2 : Ct s 173 [rf 35, .inl (s.getD (i + 1) 0), .inl (s.getD (i + 2) 0)] σ1 [.inl v2] σ2) (kk : LR s (LF 1247 i l5 l6 [] σ2 mc ms)) : LR s (LF 681 i l5 l6 [] σ mc ms) := by
  refine lr_x rfl ?_
  refine lr_arg (p := 1) rfl rfl rfl rfl rfl rfl (by omega) hs ?_
  refine lr_arg (p := 2) rfl rfl rfl rfl rfl rfl (by omega) hs ?_
  refine lr_iv rfl rfl rfl c1 hmc hms ?_
  refine lr_pop rfl ?_
  refine lr_m rfl ?_
  refine lr_arg (p := 1) rfl rfl rfl rfl rfl rfl (by omega) hs ?_
  refine lr_arg (p := 2) rfl rfl rfl rfl rfl rfl (by omega) hs ?_
  refine lr_iv rfl rfl rfl c2 hmc hms ?_
  refine lr_pop rfl ?_
  refine lr_go rfl ?_
  exact kk
theorem lc_16 {v1 v2 : Int32} {σ1 σ2 : sg_S} (hs : s.length ≤ 3072) (hi : i + 6 ≤ s.length) (hmc : mc ≤ ip_bc 207) (hms : ms ≤ ip_bs 207) (c1 : Ct s 86 [rf 0] σ [.inl v1] σ1) (c2 : Ct s 174 [rf 35] σ1 [.inl v2] σ2) (kk : LR s (LF 1247 i l5 l6 [] σ2 mc ms)) : LR s (LF 718 i l5 l6 [] σ mc ms) := by
  refine lr_x rfl ?_
  refine lr_iv rfl rfl rfl c1 hmc hms ?_
  refine lr_pop rfl ?_
  refine lr_m rfl ?_
  refine lr_iv rfl rfl rfl c2 hmc hms ?_
  refine lr_pop rfl ?_
  refine lr_go rfl ?_
  exact kk
theorem lc_17 {v1 v2 : Int32} {σ1 σ2 : sg_S} (hs : s.length ≤ 3072) (hi : i + 6 ≤ s.length) (hmc : mc ≤ ip_bc 207) (hms : ms ≤ ip_bs 207) (c1 : Ct s 87 [rf 0, .inl (s.getD (i + 1) 0), .inl (s.getD (i + 2) 0), .inl (s.getD (i + 3) 0)] σ [.inl v1] σ1) (c2 : Ct s 176 [rf 35, .inl (s.getD (i + 1) 0), .inl (s.getD (i + 2) 0), .inl (s.getD (i + 3) 0)] σ1 [.inl v2] σ2) (kk : LR s (LF 1247 i l5 l6 [] σ2 mc ms)) : LR s (LF 731 i l5 l6 [] σ mc ms) := by
  refine lr_x rfl ?_
  refine lr_arg (p := 1) rfl rfl rfl rfl rfl rfl (by omega) hs ?_
  refine lr_arg (p := 2) rfl rfl rfl rfl rfl rfl (by omega) hs ?_
  refine lr_arg (p := 3) rfl rfl rfl rfl rfl rfl (by omega) hs ?_
  refine lr_iv rfl rfl rfl c1 hmc hms ?_
  refine lr_pop rfl ?_
  refine lr_m rfl ?_
  refine lr_arg (p := 1) rfl rfl rfl rfl rfl rfl (by omega) hs ?_
  refine lr_arg (p := 2) rfl rfl rfl rfl rfl rfl (by omega) hs ?_
  refine lr_arg (p := 3) rfl rfl rfl rfl rfl rfl (by omega) hs ?_
  refine lr_iv rfl rfl rfl c2 hmc hms ?_
  refine lr_pop rfl ?_
  refine lr_go rfl ?_
  exact kk
theorem lc_18 {v1 v2 : Int32} {σ1 σ2 : sg_S} (hs : s.length ≤ 3072) (hi : i + 6 ≤ s.length) (hmc : mc ≤ ip_bc 207) (hms : ms ≤ ip_bs 207) (c1 : Ct s 88 [rf 0, .inl (s.getD (i + 1) 0), .inl (s.getD (i + 2) 0), .inl (s.getD (i + 3) 0)] σ [.inl v1] σ1) (c2 : Ct s 179 [rf 35, .inl (s.getD (i + 1) 0), .inl (s.getD (i + 2) 0), .inl (s.getD (i + 3) 0)] σ1 [.inl v2] σ2) (kk : LR s (LF 1247 i l5 l6 [] σ2 mc ms)) : LR s (LF 780 i l5 l6 [] σ mc ms) := by
  refine lr_x rfl ?_
  refine lr_arg (p := 1) rfl rfl rfl rfl rfl rfl (by omega) hs ?_
  refine lr_arg (p := 2) rfl rfl rfl rfl rfl rfl (by omega) hs ?_
  refine lr_arg (p := 3) rfl rfl rfl rfl rfl rfl (by omega) hs ?_
  refine lr_iv rfl rfl rfl c1 hmc hms ?_
  refine lr_pop rfl ?_
  refine lr_m rfl ?_
  refine lr_arg (p := 1) rfl rfl rfl rfl rfl rfl (by omega) hs ?_
  refine lr_arg (p := 2) rfl rfl rfl rfl rfl rfl (by omega) hs ?_
  refine lr_arg (p := 3) rfl rfl rfl rfl rfl rfl (by omega) hs ?_
  refine lr_iv rfl rfl rfl c2 hmc hms ?_
  refine lr_pop rfl ?_
  refine lr_go rfl ?_
  exact kk
theorem lc_19 {v1 v2 : Int32} {σ1 σ2 : sg_S} (hs : s.length ≤ 3072) (hi : i + 6 ≤ s.length) (hmc : mc ≤ ip_bc 207) (hms : ms ≤ ip_bs 207) (c1 : Ct s 89 [rf 0, .inl (s.getD (i + 1) 0)] σ [.inl v1] σ1) (c2 : Ct s 180 [rf 35, .inl (s.getD (i + 1) 0)] σ1 [.inl v2] σ2) (kk : LR s (LF 1247 i l5 l6 [] σ2 mc ms)) : LR s (LF 829 i l5 l6 [] σ mc ms) := by
  refine lr_x rfl ?_
  refine lr_arg (p := 1) rfl rfl rfl rfl rfl rfl (by omega) hs ?_
  refine lr_iv rfl rfl rfl c1 hmc hms ?_
  refine lr_pop rfl ?_
  refine lr_m rfl ?_
  refine lr_arg (p := 1) rfl rfl rfl rfl rfl rfl (by omega) hs ?_
  refine lr_iv rfl rfl rfl c2 hmc hms ?_
  refine lr_pop rfl ?_
  refine lr_go rfl ?_
  exact kk
theorem lc_20 {v1 v2 : Int32} {σ1 σ2 : sg_S} (hs : s.length ≤ 3072) (hi : i + 6 ≤ s.length) (hmc : mc ≤ ip_bc 207) (hms : ms ≤ ip_bs 207) (c1 : Ct s 90 [rf 0, .inl (s.getD (i + 1) 0)] σ [.inl v1] σ1) (c2 : Ct s 181 [rf 35, .inl (s.getD (i + 1) 0)] σ1 [.inl v2] σ2) (kk : LR s (LF 1247 i l5 l6 [] σ2 mc ms)) : LR s (LF 854 i l5 l6 [] σ mc ms) := by
  refine lr_x rfl ?_
  refine lr_arg (p := 1) rfl rfl rfl rfl rfl rfl (by omega) hs ?_
  refine lr_iv rfl rfl rfl c1 hmc hms ?_
  refine lr_pop rfl ?_
  refine lr_m rfl ?_
  refine lr_arg (p := 1) rfl rfl rfl rfl rfl rfl (by omega) hs ?_
  refine lr_iv rfl rfl rfl c2 hmc hms ?_
  refine lr_pop rfl ?_
  refine lr_go rfl ?_
  exact kk
theorem lc_21 {v1 v2 : Int32} {σ1 σ2 : sg_S} (hs : s.length ≤ 3072) (hi : i + 6 ≤ s.length) (hmc : mc ≤ ip_bc 207) (hms : ms ≤ ip_bs 207) (c1 : Ct s 91 [rf 0, .inl (s.getD (i + 1) 0), .inl (s.getD (i + 2) 0)] σ [.inl v1] σ1) (c2 : Ct s 182 [rf 35, .inl (s.getD (i + 1) 0), .inl (s.getD (i + 2) 0)] σ1 [.inl v2] σ2) (kk : LR s (LF 1247 i l5 l6 [] σ2 mc ms)) : LR s (LF 879 i l5 l6 [] σ mc ms) := by
  refine lr_x rfl ?_
  refine lr_arg (p := 1) rfl rfl rfl rfl rfl rfl (by omega) hs ?_
  refine lr_arg (p := 2) rfl rfl rfl rfl rfl rfl (by omega) hs ?_
  refine lr_iv rfl rfl rfl c1 hmc hms ?_
  refine lr_pop rfl ?_
  refine lr_m rfl ?_
  refine lr_arg (p := 1) rfl rfl rfl rfl rfl rfl (by omega) hs ?_
  refine lr_arg (p := 2) rfl rfl rfl rfl rfl rfl (by omega) hs ?_
  refine lr_iv rfl rfl rfl c2 hmc hms ?_
  refine lr_pop rfl ?_
  refine lr_go rfl ?_
  exact kk
theorem lc_22 {v1 v2 : Int32} {σ1 σ2 : sg_S} (hs : s.length ≤ 3072) (hi : i + 6 ≤ s.length) (hmc : mc ≤ ip_bc 207) (hms : ms ≤ ip_bs 207) (c1 : Ct s 92 [rf 0, .inl (s.getD (i + 1) 0)] σ [.inl v1] σ1) (c2 : Ct s 184 [rf 35, .inl (s.getD (i + 1) 0)] σ1 [.inl v2] σ2) (kk : LR s (LF 1247 i l5 l6 [] σ2 mc ms)) : LR s (LF 916 i l5 l6 [] σ mc ms) := by
  refine lr_x rfl ?_
  refine lr_arg (p := 1) rfl rfl rfl rfl rfl rfl (by omega) hs ?_
  refine lr_iv rfl rfl rfl c1 hmc hms ?_
  refine lr_pop rfl ?_
  refine lr_m rfl ?_
  refine lr_arg (p := 1) rfl rfl rfl rfl rfl rfl (by omega) hs ?_
  refine lr_iv rfl rfl rfl c2 hmc hms ?_
  refine lr_pop rfl ?_
  refine lr_go rfl ?_
  exact kk
theorem lc_23 {v1 v2 : Int32} {σ1 σ2 : sg_S} (hs : s.length ≤ 3072) (hi : i + 6 ≤ s.length) (hmc : mc ≤ ip_bc 207) (hms : ms ≤ ip_bs 207) (c1 : Ct s 93 [rf 0, .inl (s.getD (i + 1) 0), .inl (if s.getD (i + 2) 0 = 0 then 0 else 1)] σ [.inl v1] σ1) (c2 : Ct s 187 [rf 35, .inl (s.getD (i + 1) 0), .inl (if s.getD (i + 2) 0 = 0 then 0 else 1)] σ1 [.inl v2] σ2) (kk : LR s (LF 1247 i l5 l6 [] σ2 mc ms)) : LR s (LF 941 i l5 l6 [] σ mc ms) := by
  refine lr_x rfl ?_
  refine lr_arg (p := 1) rfl rfl rfl rfl rfl rfl (by omega) hs ?_
  refine lr_arg (p := 2) rfl rfl rfl rfl rfl rfl (by omega) hs ?_
  refine lr_bool rfl rfl rfl rfl ?_
  refine lr_iv rfl rfl rfl c1 hmc hms ?_
  refine lr_pop rfl ?_
  refine lr_m rfl ?_
  refine lr_arg (p := 1) rfl rfl rfl rfl rfl rfl (by omega) hs ?_
  refine lr_arg (p := 2) rfl rfl rfl rfl rfl rfl (by omega) hs ?_
  refine lr_bool rfl rfl rfl rfl ?_
  refine lr_iv rfl rfl rfl c2 hmc hms ?_
  refine lr_pop rfl ?_
  refine lr_go rfl ?_
  exact kk
theorem lc_24 {v1 v2 : Int32} {σ1 σ2 : sg_S} (hs : s.length ≤ 3072) (hi : i + 6 ≤ s.length) (hmc : mc ≤ ip_bc 207) (hms : ms ≤ ip_bs 207) (c1 : Ct s 94 [rf 0] σ [.inl v1] σ1) (c2 : Ct s 188 [rf 35] σ1 [.inl v2] σ2) (kk : LR s (LF 1247 i l5 l6 [] σ2 mc ms)) : LR s (LF 994 i l5 l6 [] σ mc ms) := by
  refine lr_x rfl ?_
  refine lr_iv rfl rfl rfl c1 hmc hms ?_
  refine lr_pop rfl ?_
  refine lr_m rfl ?_
  refine lr_iv rfl rfl rfl c2 hmc hms ?_
  refine lr_pop rfl ?_
  refine lr_go rfl ?_
  exact kk
theorem lc_25 {v1 v2 : Int32} {σ1 σ2 : sg_S} (hs : s.length ≤ 3072) (hi : i + 6 ≤ s.length) (hmc : mc ≤ ip_bc 207) (hms : ms ≤ ip_bs 207) (c1 : Ct s 95 [rf 0] σ [.inl v1] σ1) (c2 : Ct s 189 [rf 35] σ1 [.inl v2] σ2) (kk : LR s (LF 1247 i l5 l6 [] σ2 mc ms)) : LR s (LF 1007 i l5 l6 [] σ mc ms) := by
  refine lr_x rfl ?_
  refine lr_iv rfl rfl rfl c1 hmc hms ?_
  refine lr_pop rfl ?_
  refine lr_m rfl ?_
  refine lr_iv rfl rfl rfl c2 hmc hms ?_
  refine lr_pop rfl ?_
  refine lr_go rfl ?_
  exact kk
theorem lc_26 {v1 v2 : Int32} {σ1 σ2 : sg_S} (hs : s.length ≤ 3072) (hi : i + 6 ≤ s.length) (hmc : mc ≤ ip_bc 207) (hms : ms ≤ ip_bs 207) (c1 : Ct s 96 [rf 0] σ [.inl v1] σ1) (c2 : Ct s 191 [rf 35] σ1 [.inl v2] σ2) (kk : LR s (LF 1247 i l5 l6 [] σ2 mc ms)) : LR s (LF 1020 i l5 l6 [] σ mc ms) := by
  refine lr_x rfl ?_
  refine lr_iv rfl rfl rfl c1 hmc hms ?_
  refine lr_pop rfl ?_
  refine lr_m rfl ?_
  refine lr_iv rfl rfl rfl c2 hmc hms ?_
  refine lr_pop rfl ?_
  refine lr_go rfl ?_
  exact kk
theorem lc_27 {v1 v2 : Int32} {σ1 σ2 : sg_S} (hs : s.length ≤ 3072) (hi : i + 6 ≤ s.length) (hmc : mc ≤ ip_bc 207) (hms : ms ≤ ip_bs 207) (c1 : Ct s 97 [rf 0] σ [.inl v1] σ1) (c2 : Ct s 194 [rf 35] σ1 [.inl v2] σ2) (kk : LR s (LF 1247 i l5 l6 [] σ2 mc ms)) : LR s (LF 1033 i l5 l6 [] σ mc ms) := by
  refine lr_x rfl ?_
  refine lr_iv rfl rfl rfl c1 hmc hms ?_
  refine lr_pop rfl ?_
  refine lr_m rfl ?_
  refine lr_iv rfl rfl rfl c2 hmc hms ?_
  refine lr_pop rfl ?_
  refine lr_go rfl ?_
  exact kk
theorem lc_28 {v1 v2 : Int32} {σ1 σ2 : sg_S} (hs : s.length ≤ 3072) (hi : i + 6 ≤ s.length) (hmc : mc ≤ ip_bc 207) (hms : ms ≤ ip_bs 207) (c1 : Ct s 98 [rf 0] σ [.inl v1] σ1) (c2 : Ct s 195 [rf 35] σ1 [.inl v2] σ2) (kk : LR s (LF 1247 i l5 l6 [] σ2 mc ms)) : LR s (LF 1046 i l5 l6 [] σ mc ms) := by
  refine lr_x rfl ?_
  refine lr_iv rfl rfl rfl c1 hmc hms ?_
  refine lr_pop rfl ?_
  refine lr_m rfl ?_
  refine lr_iv rfl rfl rfl c2 hmc hms ?_
  refine lr_pop rfl ?_
  refine lr_go rfl ?_
  exact kk
theorem lc_29 {v1 v2 : Int32} {σ1 σ2 : sg_S} (hs : s.length ≤ 3072) (hi : i + 6 ≤ s.length) (hmc : mc ≤ ip_bc 207) (hms : ms ≤ ip_bs 207) (c1 : Ct s 99 [rf 0, .inl (s.getD (i + 1) 0)] σ [.inl v1] σ1) (c2 : Ct s 196 [rf 35, .inl (s.getD (i + 1) 0)] σ1 [.inl v2] σ2) (kk : LR s (LF 1247 i l5 l6 [] σ2 mc ms)) : LR s (LF 1059 i l5 l6 [] σ mc ms) := by
  refine lr_x rfl ?_
  refine lr_arg (p := 1) rfl rfl rfl rfl rfl rfl (by omega) hs ?_
  refine lr_iv rfl rfl rfl c1 hmc hms ?_
  refine lr_pop rfl ?_
  refine lr_m rfl ?_
  refine lr_arg (p := 1) rfl rfl rfl rfl rfl rfl (by omega) hs ?_
  refine lr_iv rfl rfl rfl c2 hmc hms ?_
  refine lr_pop rfl ?_
  refine lr_go rfl ?_
  exact kk
theorem lc_30 {v1 v2 : Int32} {σ1 σ2 : sg_S} (hs : s.length ≤ 3072) (hi : i + 6 ≤ s.length) (hmc : mc ≤ ip_bc 207) (hms : ms ≤ ip_bs 207) (c1 : Ct s 100 [rf 0, .inl (s.getD (i + 1) 0)] σ [.inl v1] σ1) (c2 : Ct s 198 [rf 35, .inl (s.getD (i + 1) 0)] σ1 [.inl v2] σ2) (e1 : v1 = v2) (kk : LR s (LF 1247 i l5 l6 [] σ2 mc ms)) : LR s (LF 1084 i l5 l6 [] σ mc ms) := by
  refine lr_x rfl ?_
  refine lr_arg (p := 1) rfl rfl rfl rfl rfl rfl (by omega) hs ?_
  refine lr_iv rfl rfl rfl c1 hmc hms ?_
  refine lr_m rfl ?_
  refine lr_arg (p := 1) rfl rfl rfl rfl rfl rfl (by omega) hs ?_
  refine lr_iv rfl rfl rfl c2 hmc hms ?_
  refine lr_ic rfl e1 ?_
  exact kk
theorem lc_31 {v1 v2 : Int32} {σ1 σ2 : sg_S} (hs : s.length ≤ 3072) (hi : i + 6 ≤ s.length) (hmc : mc ≤ ip_bc 207) (hms : ms ≤ ip_bs 207) (c1 : Ct s 101 [rf 0, .inl (s.getD (i + 1) 0)] σ [.inl v1] σ1) (c2 : Ct s 199 [rf 35, .inl (s.getD (i + 1) 0)] σ1 [.inl v2] σ2) (kk : LR s (LF 1247 i l5 l6 [] σ2 mc ms)) : LR s (LF 1109 i l5 l6 [] σ mc ms) := by
  refine lr_x rfl ?_
  refine lr_arg (p := 1) rfl rfl rfl rfl rfl rfl (by omega) hs ?_
  refine lr_iv rfl rfl rfl c1 hmc hms ?_
  refine lr_pop rfl ?_
  refine lr_m rfl ?_
  refine lr_arg (p := 1) rfl rfl rfl rfl rfl rfl (by omega) hs ?_
  refine lr_iv rfl rfl rfl c2 hmc hms ?_
  refine lr_pop rfl ?_
  refine lr_go rfl ?_
  exact kk
theorem lc_32 {v1 v2 : Int32} {σ1 σ2 : sg_S} (hs : s.length ≤ 3072) (hi : i + 6 ≤ s.length) (hmc : mc ≤ ip_bc 207) (hms : ms ≤ ip_bs 207) (c1 : Ct s 102 [rf 0] σ [.inl v1] σ1) (c2 : Ct s 200 [rf 35] σ1 [.inl v2] σ2) (kk : LR s (LF 1247 i l5 l6 [] σ2 mc ms)) : LR s (LF 1134 i l5 l6 [] σ mc ms) := by
  refine lr_x rfl ?_
  refine lr_iv rfl rfl rfl c1 hmc hms ?_
  refine lr_pop rfl ?_
  refine lr_m rfl ?_
  refine lr_iv rfl rfl rfl c2 hmc hms ?_
  refine lr_pop rfl ?_
  refine lr_go rfl ?_
  exact kk
theorem lc_33 {v1 v2 : Int32} {σ1 σ2 : sg_S} (hs : s.length ≤ 3072) (hi : i + 6 ≤ s.length) (hmc : mc ≤ ip_bc 207) (hms : ms ≤ ip_bs 207) (c1 : Ct s 103 [rf 0, .inl (s.getD (i + 1) 0)] σ [.inl v1] σ1) (c2 : Ct s 201 [rf 35, .inl (s.getD (i + 1) 0)] σ1 [.inl v2] σ2) (kk : LR s (LF 1247 i l5 l6 [] σ2 mc ms)) : LR s (LF 1147 i l5 l6 [] σ mc ms) := by
  refine lr_x rfl ?_
  refine lr_arg (p := 1) rfl rfl rfl rfl rfl rfl (by omega) hs ?_
  refine lr_iv rfl rfl rfl c1 hmc hms ?_
  refine lr_pop rfl ?_
  refine lr_m rfl ?_
  refine lr_arg (p := 1) rfl rfl rfl rfl rfl rfl (by omega) hs ?_
  refine lr_iv rfl rfl rfl c2 hmc hms ?_
  refine lr_pop rfl ?_
  refine lr_go rfl ?_
  exact kk
theorem lc_34 {v1 v2 : Int32} {σ1 σ2 : sg_S} (hs : s.length ≤ 3072) (hi : i + 6 ≤ s.length) (hmc : mc ≤ ip_bc 207) (hms : ms ≤ ip_bs 207) (c1 : Ct s 104 [rf 0, .inl (s.getD (i + 1) 0)] σ [.inl v1] σ1) (c2 : Ct s 202 [rf 35, .inl (s.getD (i + 1) 0)] σ1 [.inl v2] σ2) (kk : LR s (LF 1247 i l5 l6 [] σ2 mc ms)) : LR s (LF 1172 i l5 l6 [] σ mc ms) := by
  refine lr_x rfl ?_
  refine lr_arg (p := 1) rfl rfl rfl rfl rfl rfl (by omega) hs ?_
  refine lr_iv rfl rfl rfl c1 hmc hms ?_
  refine lr_pop rfl ?_
  refine lr_m rfl ?_
  refine lr_arg (p := 1) rfl rfl rfl rfl rfl rfl (by omega) hs ?_
  refine lr_iv rfl rfl rfl c2 hmc hms ?_
  refine lr_pop rfl ?_
  refine lr_go rfl ?_
  exact kk
theorem lc_35 {v1 v2 : Int32} {σ1 σ2 : sg_S} (hs : s.length ≤ 3072) (hi : i + 6 ≤ s.length) (hmc : mc ≤ ip_bc 207) (hms : ms ≤ ip_bs 207) (c1 : Ct s 105 [rf 0, .inl (s.getD (i + 1) 0), .inl (s.getD (i + 2) 0)] σ [.inl v1] σ1) (c2 : Ct s 203 [rf 35, .inl (s.getD (i + 1) 0), .inl (s.getD (i + 2) 0)] σ1 [.inl v2] σ2) (kk : LR s (LF 1247 i l5 l6 [] σ2 mc ms)) : LR s (LF 1197 i l5 l6 [] σ mc ms) := by
  refine lr_x rfl ?_
  refine lr_arg (p := 1) rfl rfl rfl rfl rfl rfl (by omega) hs ?_
  refine lr_arg (p := 2) rfl rfl rfl rfl rfl rfl (by omega) hs ?_
  refine lr_iv rfl rfl rfl c1 hmc hms ?_
  refine lr_pop rfl ?_
  refine lr_m rfl ?_
  refine lr_arg (p := 1) rfl rfl rfl rfl rfl rfl (by omega) hs ?_
  refine lr_arg (p := 2) rfl rfl rfl rfl rfl rfl (by omega) hs ?_
  refine lr_iv rfl rfl rfl c2 hmc hms ?_
  refine lr_pop rfl ?_
  refine lr_go rfl ?_
  exact kk
theorem lc_36 {v1 v2 : Int32} {σ1 σ2 : sg_S} (hs : s.length ≤ 3072) (hi : i + 6 ≤ s.length) (hmc : mc ≤ ip_bc 207) (hms : ms ≤ ip_bs 207) (c1 : Ct s 106 [rf 0] σ [.inl v1] σ1) (c2 : Ct s 204 [rf 35] σ1 [.inl v2] σ2) (kk : LR s (LF 1247 i l5 l6 [] σ2 mc ms)) : LR s (LF 1234 i l5 l6 [] σ mc ms) := by
  refine lr_x rfl ?_
  refine lr_iv rfl rfl rfl c1 hmc hms ?_
  refine lr_pop rfl ?_
  refine lr_m rfl ?_
  refine lr_iv rfl rfl rfl c2 hmc hms ?_
  refine lr_pop rfl ?_
  refine lr_go rfl ?_
  exact kk
theorem lr_next23 (kk : LR s (LF 23 (i + 6) l5 l6 [] σ mc ms)) : LR s (LF 1247 i l5 l6 [] σ mc ms) := lr_next kk
end LrRules
