theorem ip_all2_set {α β : Type} {P : α → β → Prop} {as : List α} {v : α} {w : β} (hv : P v w) : ∀ {bs : List β} (k : Nat), ip_all2 P as bs → ip_all2 P (as.set k v) (bs.set k w) := by
  induction as with
  | nil => intro bs k h; rw [ip_all2_nil h]; trivial
  | cons a as ih =>
    intro bs k h
    obtain ⟨b, bs1, rfl, h1, h2⟩ := ip_all2_cons h
    cases k with
    | zero => exact ⟨hv, h2⟩
    | succ k => exact ⟨h1, ih k h2⟩
section Heaps
variable {D : Type} {R : D → Int32 → Prop} {base : Nat} {ra : Nat → Nat} {cI cZ cJ : ClassId} {hp : ip_Hp D} {ws : va_W}
theorem ip_hR_set {q : Nat} {x x' : Nat × List (ip_V D)} {E' : va_E} (h : ip_hR R base ra cI cZ cJ hp ws) (hq : hp[q]? = some x) (hc : ip_cR R base ra cI cZ cJ x' E') : ip_hR R base ra cI cZ cJ (hp.set q x') (ws.set q (base + q, E')) := by
  refine ⟨by rw [List.length_set, List.length_set]; exact h.1, fun k y hy => ?_⟩
  have hlt : q < hp.length := (List.getElem?_eq_some_iff.mp hq).1
  rw [List.getElem?_set] at hy ⊢
  by_cases e : q = k
  · subst e
    simp only [if_true, hlt] at hy
    cases hy
    simp only [if_true, h.1, hlt]
    exact ⟨E', rfl, hc⟩
  · rw [if_neg e] at hy ⊢
    exact h.2 k y hy
theorem ip_hR_push {x : Nat × List (ip_V D)} {E : va_E} (h : ip_hR R base ra cI cZ cJ hp ws) (hc : ip_cR R base ra cI cZ cJ x E) : ip_hR R base ra cI cZ cJ (hp ++ [x]) (ws ++ [(base + hp.length, E)]) := by
  refine ⟨by simp [h.1], fun k y hy => ?_⟩
  by_cases hk : k < hp.length
  · rw [List.getElem?_append_left hk] at hy
    rw [List.getElem?_append_left (by rw [h.1]; exact hk)]
    exact h.2 k y hy
  · rw [List.getElem?_append_right (by omega)] at hy
    have hz : k - hp.length < 1 := (List.getElem?_eq_some_iff.mp hy).1
    have hk : k = hp.length := by omega
    subst hk
    simp at hy
    subst hy
    rw [List.getElem?_append_right (by rw [h.1]; exact Nat.le_refl _)]
    exact ⟨E, by simp [h.1], hc⟩
theorem ip_cR_obj {a : Nat} {fs : List (ip_V D)} {E : va_E} (ha : a < 6) (h : ip_cR R base ra cI cZ cJ (a, fs) E) : ∃ fv : List Value, E = .inr (a, fv) ∧ ip_all2 (ip_gR R base ra) fs fv := by
  rcases h with ⟨-, h⟩ | ⟨h, -⟩ | ⟨h, -⟩ | ⟨h, -⟩
  · exact h
  all_goals (dsimp only at h; omega)
theorem ip_cR_int {cs : List (ip_V D)} {E : va_E} (h : ip_cR R base ra cI cZ cJ (20, cs) E) : ∃ f : Nat → Int32, E = .inl (cI, cs.length, .inl f) ∧ ∀ k v, cs[k]? = some v → ∃ d, v = .inl d ∧ R d (f k) := by
  rcases h with ⟨h, -⟩ | ⟨-, h⟩ | ⟨h, -⟩ | ⟨h, -⟩
  · dsimp only at h; omega
  · exact h
  all_goals (dsimp only at h; omega)
theorem ip_cR_boo {cs : List (ip_V D)} {E : va_E} (h : ip_cR R base ra cI cZ cJ (21, cs) E) : ∃ f : Nat → Int32, E = .inl (cZ, cs.length, .inl f) ∧ ∀ k v, cs[k]? = some v → ∃ d, v = .inl d ∧ R d (f k) := by
  rcases h with ⟨h, -⟩ | ⟨h, -⟩ | ⟨-, h⟩ | ⟨h, -⟩
  · dsimp only at h; omega
  · dsimp only at h; omega
  · exact h
  · dsimp only at h; omega
theorem ip_cR_lng {cs : List (ip_V D)} {E : va_E} (h : ip_cR R base ra cI cZ cJ (22, cs) E) : ∃ f : Nat → Int64, E = .inl (cJ, cs.length, .inr (.inl f)) ∧ ∀ k v, cs[k]? = some v → ∃ d i, v = .inr (.inl d) ∧ R d i ∧ f k = i.toInt64 := by
  rcases h with ⟨h, -⟩ | ⟨h, -⟩ | ⟨h, -⟩ | ⟨-, h⟩
  · dsimp only at h; omega
  · dsimp only at h; omega
  · dsimp only at h; omega
  · exact h
end Heaps
theorem ip_fitI (i : Int32) : narrow .int (.int i) = .int i ∧ fits .int (.int i) = true := ⟨rfl, rfl⟩
theorem ip_fitZ {i : Int32} (h : i = 0 ∨ i = 1) : narrow .boolean (.int i) = .int i ∧ fits .boolean (.int i) = true := by
  rcases h with rfl | rfl <;> exact ⟨by decide +kernel, by decide +kernel⟩
theorem ip_fitA {t : FieldType} (h : ip_isRef t = true) (a : Nat) : narrow t (.ref a) = .ref a ∧ fits t (.ref a) = true := by
  cases t <;> first | exact ⟨rfl, rfl⟩ | cases h
section Steps2
variable {D : Type} {R : D → Int32 → Prop} {ops : ip_O D} {p : Program} {l : Launch} {e : Env} {Rm : Room} {s : State} {m : MethodId} {args : Array Value} {below : List Frame} {meth : Method} {c : Code} {Q : State → Prop} {bs : ByteArray} {cls kd nL base : Nat} {Dg : va_G} {cI cZ cJ : ClassId} {A : Nat → Prop} {ra : Nat → Nat} {ro : List (List D)}
variable {pc nx mc ms : Nat} {la : List (Option (ip_V D))} {st : List (ip_V D)} {hp : ip_Hp D} {fz : Bool}
theorem st_get (C : ip_Cx R ops p s m args meth c bs cls kd nL Dg cI cZ cJ A ra ro) {q a b x : Nat} {fs : List (ip_V D)} {v : ip_V D} (hd : decode bs pc = .ok (.getfield x, 3)) (hf : ip_fl cls x a b = true) (hq : ip_nth hp q = some (a, fs)) (hv : ip_nth fs b = some v)
    (hk : ip_good R p l e Rm s m args below meth c Q nL base Dg cI cZ cJ A ra (pc + 3, la, v :: st, hp, mc, ms, fz)) : ip_good R p l e Rm s m args below meth c Q nL base Dg cI cZ cJ A ra (pc, la, .inr (.inr (.inl (some q))) :: st, hp, mc, ms, fz) := by
  intro ls s1 H locs h1 h2 h3
  obtain ⟨w, s2, rfl, hg, h2'⟩ := ip_all2_cons h2
  clear h2
  have h2 := h2'
  clear h2'
  cases hg
  obtain ⟨ha, hbN, hdec, hlk⟩ := ip_fl_w hf
  have hz := h3
  obtain ⟨⟨ws, hR, hP, hD⟩, hS, hfz⟩ := h3
  rw [ip_nth_eq] at hq hv
  obtain ⟨E, hE, hc⟩ := hR.2 q _ hq
  obtain ⟨fv, rfl, hall⟩ := ip_cR_obj ha hc
  obtain ⟨w, hw, hgv⟩ := ip_all2_at hall b v hv
  exact va_get C.2.1 C.2.2.1 C.2.2.2.2.2.1 (ip_hin ha) C.2.2.2.2.1 C.2.2.2.2.2.2.1 hP q hE (ip_vw ha) b hbN (C.2.2.2.2.2.1 _ hlk) (fun y hy => by rw [hdec] at hy; exact hy) hw hd (hk ls _ H locs h1 ⟨hgv, h2⟩ hz)
theorem st_put (C : ip_Cx R ops p s m args meth c bs cls kd nL Dg cI cZ cJ A ra ro) {q a b x : Nat} {fs : List (ip_V D)} {v0 v : ip_V D} (hd : decode bs pc = .ok (.putfield x, 3)) (hf : ip_fl cls x a b = true) (hq : ip_nth hp q = some (a, fs)) (hv : ip_nth fs b = some v0)
    (hfin : (ip_F a b).2.2.2 = false ∨ ((ip_F a b).2.2.2 = true ∧ a = cls ∧ kd = 2)) (hfit : ∀ w, ip_gR R base ra v w → narrow (ip_Y a b) w = w ∧ fits (ip_Y a b) w = true)
    (hk : ip_good R p l e Rm s m args below meth c Q nL base Dg cI cZ cJ A ra (pc + 3, la, st, ip_set hp q (a, ip_set fs b v), mc, ms, fz)) : ip_good R p l e Rm s m args below meth c Q nL base Dg cI cZ cJ A ra (pc, la, v :: .inr (.inr (.inl (some q))) :: st, hp, mc, ms, fz) := by
  intro ls s1 H locs h1 h2 h3
  obtain ⟨w, s2, rfl, hg, h2'⟩ := ip_all2_cons h2
  clear h2
  have h2 := h2'
  clear h2'
  obtain ⟨w2, s2, rfl, hg2, h2'⟩ := ip_all2_cons h2
  clear h2
  have h2 := h2'
  clear h2'
  cases hg2
  obtain ⟨ha, hbN, hdec, hlk⟩ := ip_fl_w hf
  obtain ⟨⟨ws, hR, hP, hD⟩, hS, hfz⟩ := h3
  rw [ip_nth_eq] at hq hv
  obtain ⟨E, hE, hc⟩ := hR.2 q _ hq
  obtain ⟨fv, rfl, hall⟩ := ip_cR_obj ha hc
  have hlen : b < fv.length := by rw [← ip_all2_len hall]; exact (List.getElem?_eq_some_iff.mp hv).1
  have kk : ∀ (H1 : Heap) (locs1 : List Loc), va_P Dg vwCl (ws.set q (base + q, .inr (a, fv.set b w))) H1 → va_D A (ws.set q (base + q, .inr (a, fv.set b w))) → va_S A s.heap H1 locs1 → W p l e Rm s m args below meth c H1 locs1 mc ms Q (F0 m (pc + 3) ls s2) := by
    intro H1 locs1 hP1 hD1 hS1
    refine hk ls s2 H1 locs1 h1 h2 ⟨⟨_, ?_, hP1, hD1⟩, hS1, fun z => ?_⟩
    · rw [ip_set_eq, ip_set_eq]
      exact ip_hR_set hR hq (Or.inl ⟨ha, _, rfl, ip_all2_set hg b hall⟩)
    · rw [ip_set_eq, List.length_set]; exact hfz z
  obtain ⟨hn1, hn2⟩ := hfit w hg
  have hs1 : ∀ y, s.fieldFound? (ip_F a b).1 (ip_F a b).2.1 (ip_F a b).2.2.1 = some y → s.fieldFound? (ip_R a) (ip_F a b).2.1 (ip_F a b).2.2.1 = some y := fun y hy => by rw [hdec] at hy; exact hy
  rcases hfin with hfin | ⟨hfin, rfl, hkd⟩
  · exact va_put C.2.1 C.2.2.1 C.2.2.2.2.2.1 (ip_hin ha) (ip_Y a) (ip_tyo ha) (ip_nmo ha) C.2.2.2.2.1 C.2.2.2.2.2.2.1 hP hD hS q hE (ip_vw ha) b hbN (C.2.2.2.2.2.1 _ hlk) hs1 hfin (ip_tyo ha b hbN) hn1 hn2 hlen hd kk
  · exact va_putF C.2.1 C.2.2.1 C.2.2.2.2.2.1 (ip_hin ha) (ip_Y a) (ip_tyo ha) (ip_nmo ha) C.2.2.2.2.1 C.2.2.2.2.2.2.1 hP hD hS q hE (ip_vw ha) b hbN (C.2.2.2.2.2.1 _ hlk) hs1 hfin (C.2.2.2.2.2.2.2.2.2 hkd) hdec (ip_tyo ha b hbN) hn1 hn2 hlen hd kk
theorem st_gets (C : ip_Cx R ops p s m args meth c bs cls kd nL Dg cI cZ cJ A ra ro) {a x : Nat} (hd : decode bs pc = .ok (.getstatic x, 3)) (hf : ip_SL.any (fun z => Nat.beq z.1 cls && (Nat.beq z.2.1 x && Nat.beq z.2.2.1 a)) = true)
    (hk : ip_good R p l e Rm s m args below meth c Q nL base Dg cI cZ cJ A ra (pc + 3, la, .inr (.inr (.inr a)) :: st, hp, mc, ms, fz)) : ip_good R p l e Rm s m args below meth c Q nL base Dg cI cZ cJ A ra (pc, la, st, hp, mc, ms, fz) := by
  intro ls s1 H locs h1 h2 h3
  obtain ⟨ha, hlk⟩ := ip_sl_w hf
  exact va_gets C.2.1 C.2.2.1 (C.2.2.2.2.2.2.2.2.1.2.1 a ha) h3.2.1 C.2.2.2.2.1 (C.2.2.2.2.2.1 _ hlk) (fun y hy => hy) hd (hk ls _ H locs h1 ⟨rfl, h2⟩ h3)
theorem ip_vpin {v : Int32} {n k : Nat} (h1 : ¬ v < 0) (h2 : v.toNatClampNeg = k) (h3 : k < n) : vp_in v n := by
  intro q
  rcases q with q | q
  · exact h1 q
  · omega
theorem st_iald (C : ip_Cx R ops p s m args meth c bs cls kd nL Dg cI cZ cJ A ra ro) {q k : Nat} {ix : D} {cs : List (ip_V D)} {v : ip_V D} (hd : decode bs pc = .ok (.iaload, 1)) (hi : ip_ix (ops.2.2.2 ix) = some k) (hq : ip_nth hp q = some (20, cs)) (hv : ip_nth cs k = some v)
    (hk : ip_good R p l e Rm s m args below meth c Q nL base Dg cI cZ cJ A ra (pc + 1, la, v :: st, hp, mc, ms, fz)) : ip_good R p l e Rm s m args below meth c Q nL base Dg cI cZ cJ A ra (pc, la, .inl ix :: .inr (.inr (.inl (some q))) :: st, hp, mc, ms, fz) := by
  intro ls s1 H locs h1 h2 h3
  obtain ⟨w, s2, rfl, ⟨u, rfl, hx⟩, h2'⟩ := ip_all2_cons h2
  clear h2
  have h2 := h2'
  clear h2'
  obtain ⟨w2, s2, rfl, hg2, h2'⟩ := ip_all2_cons h2
  clear h2
  have h2 := h2'
  clear h2'
  cases hg2
  obtain ⟨iv, hi1, hi2, hi3⟩ := ip_ix_some hi
  have hu := C.1.2.2.2 _ _ _ hi1 hx
  subst hu
  rw [ip_nth_eq] at hq hv
  obtain ⟨⟨ws, hR, hP, hD⟩, hS, hfz⟩ := id h3
  obtain ⟨E, hE, hc⟩ := hR.2 q _ hq
  obtain ⟨f, rfl, hf⟩ := ip_cR_int hc
  obtain ⟨d, rfl, hd2⟩ := hf k v hv
  refine va_iald C.2.1 C.2.2.1 C.2.2.2.2.2.2.1 hP q 0 hE rfl (ip_vpin hi2 hi3 (List.getElem?_eq_some_iff.mp hv).1) hd (hk ls _ H locs h1 ⟨⟨_, rfl, ?_⟩, h2⟩ h3)
  rw [hi3]; exact hd2
theorem st_zald (C : ip_Cx R ops p s m args meth c bs cls kd nL Dg cI cZ cJ A ra ro) {q k : Nat} {ix : D} {cs : List (ip_V D)} {v : ip_V D} (hd : decode bs pc = .ok (.baload, 1)) (hi : ip_ix (ops.2.2.2 ix) = some k) (hq : ip_nth hp q = some (21, cs)) (hv : ip_nth cs k = some v)
    (hk : ip_good R p l e Rm s m args below meth c Q nL base Dg cI cZ cJ A ra (pc + 1, la, v :: st, hp, mc, ms, fz)) : ip_good R p l e Rm s m args below meth c Q nL base Dg cI cZ cJ A ra (pc, la, .inl ix :: .inr (.inr (.inl (some q))) :: st, hp, mc, ms, fz) := by
  intro ls s1 H locs h1 h2 h3
  obtain ⟨w, s2, rfl, ⟨u, rfl, hx⟩, h2'⟩ := ip_all2_cons h2
  clear h2
  have h2 := h2'
  clear h2'
  obtain ⟨w2, s2, rfl, hg2, h2'⟩ := ip_all2_cons h2
  clear h2
  have h2 := h2'
  clear h2'
  cases hg2
  obtain ⟨iv, hi1, hi2, hi3⟩ := ip_ix_some hi
  have hu := C.1.2.2.2 _ _ _ hi1 hx
  subst hu
  rw [ip_nth_eq] at hq hv
  obtain ⟨⟨ws, hR, hP, hD⟩, hS, hfz⟩ := id h3
  obtain ⟨E, hE, hc⟩ := hR.2 q _ hq
  obtain ⟨f, rfl, hf⟩ := ip_cR_boo hc
  obtain ⟨d, rfl, hd2⟩ := hf k v hv
  refine va_zald C.2.1 C.2.2.1 C.2.2.2.2.2.2.1 hP q 1 hE rfl (ip_vpin hi2 hi3 (List.getElem?_eq_some_iff.mp hv).1) hd (hk ls _ H locs h1 ⟨⟨_, rfl, ?_⟩, h2⟩ h3)
  rw [hi3]; exact hd2
theorem st_lald (C : ip_Cx R ops p s m args meth c bs cls kd nL Dg cI cZ cJ A ra ro) {q k : Nat} {ix : D} {cs : List (ip_V D)} {v : ip_V D} (hd : decode bs pc = .ok (.laload, 1)) (hi : ip_ix (ops.2.2.2 ix) = some k) (hq : ip_nth hp q = some (22, cs)) (hv : ip_nth cs k = some v)
    (hk : ip_good R p l e Rm s m args below meth c Q nL base Dg cI cZ cJ A ra (pc + 1, la, v :: st, hp, mc, ms, fz)) : ip_good R p l e Rm s m args below meth c Q nL base Dg cI cZ cJ A ra (pc, la, .inl ix :: .inr (.inr (.inl (some q))) :: st, hp, mc, ms, fz) := by
  intro ls s1 H locs h1 h2 h3
  obtain ⟨w, s2, rfl, ⟨u, rfl, hx⟩, h2'⟩ := ip_all2_cons h2
  clear h2
  have h2 := h2'
  clear h2'
  obtain ⟨w2, s2, rfl, hg2, h2'⟩ := ip_all2_cons h2
  clear h2
  have h2 := h2'
  clear h2'
  cases hg2
  obtain ⟨iv, hi1, hi2, hi3⟩ := ip_ix_some hi
  have hu := C.1.2.2.2 _ _ _ hi1 hx
  subst hu
  rw [ip_nth_eq] at hq hv
  obtain ⟨⟨ws, hR, hP, hD⟩, hS, hfz⟩ := id h3
  obtain ⟨E, hE, hc⟩ := hR.2 q _ hq
  obtain ⟨f, rfl, hf⟩ := ip_cR_lng hc
  obtain ⟨d, i2, rfl, hd2, hd3⟩ := hf k v hv
  refine va_lald C.2.1 C.2.2.1 C.2.2.2.2.2.2.1 hP q 2 hE rfl (ip_vpin hi2 hi3 (List.getElem?_eq_some_iff.mp hv).1) hd (hk ls _ H locs h1 ⟨⟨i2, ?_, hd2⟩, h2⟩ h3)
  rw [hi3, hd3]
theorem st_roald (C : ip_Cx R ops p s m args meth c bs cls kd nL Dg cI cZ cJ A ra ro) {t k : Nat} {ix d : D} {ds : List D} (hd : decode bs pc = .ok (.iaload, 1)) (hi : ip_ix (ops.2.2.2 ix) = some k) (hq : ip_nth ro t = some ds) (hv : ip_nth ds k = some d)
    (hk : ip_good R p l e Rm s m args below meth c Q nL base Dg cI cZ cJ A ra (pc + 1, la, .inl d :: st, hp, mc, ms, fz)) : ip_good R p l e Rm s m args below meth c Q nL base Dg cI cZ cJ A ra (pc, la, .inl ix :: .inr (.inr (.inr t)) :: st, hp, mc, ms, fz) := by
  intro ls s1 H locs h1 h2 h3
  obtain ⟨w, s2, rfl, ⟨u, rfl, hx⟩, h2'⟩ := ip_all2_cons h2
  clear h2
  have h2 := h2'
  clear h2'
  obtain ⟨w2, s2, rfl, hg2, h2'⟩ := ip_all2_cons h2
  clear h2
  have h2 := h2'
  clear h2'
  cases hg2
  obtain ⟨iv, hi1, hi2, hi3⟩ := ip_ix_some hi
  have hu := C.1.2.2.2 _ _ _ hi1 hx
  subst hu
  rw [ip_nth_eq] at hq hv
  obtain ⟨xs, hT, hxs⟩ := C.2.2.2.2.2.2.2.2.1.1 t ds hq
  exact va_ti C.2.1 C.2.2.1 hT h3.2.1 (ip_vpin hi2 hi3 (List.getElem?_eq_some_iff.mp hv).1) rfl hd (hk ls _ H locs h1 ⟨⟨_, rfl, by rw [hi3]; exact hxs k d hv⟩, h2⟩ h3)
theorem st_rolen (C : ip_Cx R ops p s m args meth c bs cls kd nL Dg cI cZ cJ A ra ro) {t : Nat} {ds : List D} (hd : decode bs pc = .ok (.arraylength, 1)) (hq : ip_nth ro t = some ds)
    (hk : ip_good R p l e Rm s m args below meth c Q nL base Dg cI cZ cJ A ra (pc + 1, la, .inl (ops.1 (Int32.ofNat ds.length)) :: st, hp, mc, ms, fz)) : ip_good R p l e Rm s m args below meth c Q nL base Dg cI cZ cJ A ra (pc, la, .inr (.inr (.inr t)) :: st, hp, mc, ms, fz) := by
  intro ls s1 H locs h1 h2 h3
  obtain ⟨w2, s2, rfl, hg2, h2'⟩ := ip_all2_cons h2
  clear h2
  have h2 := h2'
  clear h2'
  cases hg2
  rw [ip_nth_eq] at hq
  obtain ⟨xs, hT, hxs⟩ := C.2.2.2.2.2.2.2.2.1.1 t ds hq
  exact va_tlen C.2.1 C.2.2.1 hT h3.2.1 rfl hd (hk ls _ H locs h1 ⟨⟨_, rfl, C.1.1 _⟩, h2⟩ h3)
theorem st_iast (C : ip_Cx R ops p s m args meth c bs cls kd nL Dg cI cZ cJ A ra ro) {q k : Nat} {ix d : D} {cs : List (ip_V D)} {v : ip_V D} (hd : decode bs pc = .ok (.iastore, 1)) (hi : ip_ix (ops.2.2.2 ix) = some k) (hq : ip_nth hp q = some (20, cs)) (hv : ip_nth cs k = some v)
    (hk : ip_good R p l e Rm s m args below meth c Q nL base Dg cI cZ cJ A ra (pc + 1, la, st, ip_set hp q (20, ip_set cs k (.inl d)), mc, ms, fz)) : ip_good R p l e Rm s m args below meth c Q nL base Dg cI cZ cJ A ra (pc, la, .inl d :: .inl ix :: .inr (.inr (.inl (some q))) :: st, hp, mc, ms, fz) := by
  intro ls s1 H locs h1 h2 h3
  obtain ⟨w0, s2, rfl, ⟨x, rfl, hx0⟩, h2'⟩ := ip_all2_cons h2
  clear h2
  have h2 := h2'
  clear h2'
  obtain ⟨w, s2, rfl, ⟨u, rfl, hx⟩, h2'⟩ := ip_all2_cons h2
  clear h2
  have h2 := h2'
  clear h2'
  obtain ⟨w2, s2, rfl, hg2, h2'⟩ := ip_all2_cons h2
  clear h2
  have h2 := h2'
  clear h2'
  cases hg2
  obtain ⟨iv, hi1, hi2, hi3⟩ := ip_ix_some hi
  have hu := C.1.2.2.2 _ _ _ hi1 hx
  subst hu
  rw [ip_nth_eq] at hq hv
  obtain ⟨⟨ws, hR, hP, hD⟩, hS, hfz⟩ := h3
  obtain ⟨E, hE, hc⟩ := hR.2 q _ hq
  obtain ⟨f, rfl, hf⟩ := ip_cR_int hc
  refine va_iast C.2.1 C.2.2.1 C.2.2.2.2.2.2.1 hP hD hS q 0 hE rfl (ip_vpin hi2 hi3 (List.getElem?_eq_some_iff.mp hv).1) hd (fun H1 locs1 hP1 hD1 hS1 => hk ls s2 H1 locs1 h1 h2 ⟨⟨_, ?_, hP1, hD1⟩, hS1, fun z => ?_⟩)
  · rw [ip_set_eq, ip_set_eq]
    refine ip_hR_set hR hq (Or.inr (Or.inl ⟨rfl, _, by rw [List.length_set], fun k' v' h' => ?_⟩))
    dsimp only at h'
    rw [List.getElem?_set] at h'
    unfold upd
    by_cases e : k = k'
    · subst e
      simp only [if_true] at h'
      split at h'
      · cases h'
        exact ⟨d, rfl, by rw [hi3, if_pos rfl]; exact hx0⟩
      · cases h'
    · rw [if_neg e] at h'
      obtain ⟨d', h4, h5⟩ := hf k' v' h'
      exact ⟨d', h4, by rw [hi3, if_neg (fun q => e q.symm)]; exact h5⟩
  · rw [ip_set_eq, List.length_set]; exact hfz z
theorem st_zast (C : ip_Cx R ops p s m args meth c bs cls kd nL Dg cI cZ cJ A ra ro) {q k : Nat} {ix d : D} {cs : List (ip_V D)} {v : ip_V D} (hd : decode bs pc = .ok (.bastore, 1)) (hb0 : ip_bit (ops.2.2.2 d) = true) (hi : ip_ix (ops.2.2.2 ix) = some k) (hq : ip_nth hp q = some (21, cs)) (hv : ip_nth cs k = some v)
    (hk : ip_good R p l e Rm s m args below meth c Q nL base Dg cI cZ cJ A ra (pc + 1, la, st, ip_set hp q (21, ip_set cs k (.inl d)), mc, ms, fz)) : ip_good R p l e Rm s m args below meth c Q nL base Dg cI cZ cJ A ra (pc, la, .inl d :: .inl ix :: .inr (.inr (.inl (some q))) :: st, hp, mc, ms, fz) := by
  intro ls s1 H locs h1 h2 h3
  obtain ⟨w0, s2, rfl, ⟨x, rfl, hx0⟩, h2'⟩ := ip_all2_cons h2
  clear h2
  have h2 := h2'
  clear h2'
  obtain ⟨w, s2, rfl, ⟨u, rfl, hx⟩, h2'⟩ := ip_all2_cons h2
  clear h2
  have h2 := h2'
  clear h2'
  obtain ⟨w2, s2, rfl, hg2, h2'⟩ := ip_all2_cons h2
  clear h2
  have h2 := h2'
  clear h2'
  cases hg2
  obtain ⟨iv, hi1, hi2, hi3⟩ := ip_ix_some hi
  have hu := C.1.2.2.2 _ _ _ hi1 hx
  subst hu
  obtain ⟨bv, hb1, hb2⟩ := ip_bit_some hb0
  have hbx := C.1.2.2.2 _ _ _ hb1 hx0
  subst hbx
  have hnar : vp_nar .boolean x = x := by
    rcases hb2 with rfl | rfl <;> decide +kernel
  rw [ip_nth_eq] at hq hv
  obtain ⟨⟨ws, hR, hP, hD⟩, hS, hfz⟩ := h3
  obtain ⟨E, hE, hc⟩ := hR.2 q _ hq
  obtain ⟨f, rfl, hf⟩ := ip_cR_boo hc
  refine va_zast C.2.1 C.2.2.1 C.2.2.2.2.2.2.1 hP hD hS q 1 hE rfl (ip_vpin hi2 hi3 (List.getElem?_eq_some_iff.mp hv).1) hd (fun H1 locs1 hP1 hD1 hS1 => hk ls s2 H1 locs1 h1 h2 ⟨⟨_, ?_, hP1, hD1⟩, hS1, fun z => ?_⟩)
  · rw [ip_set_eq, ip_set_eq, hnar]
    refine ip_hR_set hR hq (Or.inr (Or.inr (Or.inl ⟨rfl, _, by rw [List.length_set], fun k' v' h' => ?_⟩)))
    dsimp only at h'
    rw [List.getElem?_set] at h'
    unfold upd
    by_cases e : k = k'
    · subst e
      simp only [if_true] at h'
      split at h'
      · cases h'
        exact ⟨d, rfl, by rw [hi3, if_pos rfl]; exact hx0⟩
      · cases h'
    · rw [if_neg e] at h'
      obtain ⟨d', h4, h5⟩ := hf k' v' h'
      exact ⟨d', h4, by rw [hi3, if_neg (fun q => e q.symm)]; exact h5⟩
  · rw [ip_set_eq, List.length_set]; exact hfz z
theorem st_last (C : ip_Cx R ops p s m args meth c bs cls kd nL Dg cI cZ cJ A ra ro) {q k : Nat} {ix d : D} {cs : List (ip_V D)} {v : ip_V D} (hd : decode bs pc = .ok (.lastore, 1)) (hi : ip_ix (ops.2.2.2 ix) = some k) (hq : ip_nth hp q = some (22, cs)) (hv : ip_nth cs k = some v)
    (hk : ip_good R p l e Rm s m args below meth c Q nL base Dg cI cZ cJ A ra (pc + 1, la, st, ip_set hp q (22, ip_set cs k (.inr (.inl d))), mc, ms, fz)) : ip_good R p l e Rm s m args below meth c Q nL base Dg cI cZ cJ A ra (pc, la, .inr (.inl d) :: .inl ix :: .inr (.inr (.inl (some q))) :: st, hp, mc, ms, fz) := by
  intro ls s1 H locs h1 h2 h3
  obtain ⟨w0, s2, rfl, ⟨x, rfl, hx0⟩, h2'⟩ := ip_all2_cons h2
  clear h2
  have h2 := h2'
  clear h2'
  obtain ⟨w, s2, rfl, ⟨u, rfl, hx⟩, h2'⟩ := ip_all2_cons h2
  clear h2
  have h2 := h2'
  clear h2'
  obtain ⟨w2, s2, rfl, hg2, h2'⟩ := ip_all2_cons h2
  clear h2
  have h2 := h2'
  clear h2'
  cases hg2
  obtain ⟨iv, hi1, hi2, hi3⟩ := ip_ix_some hi
  have hu := C.1.2.2.2 _ _ _ hi1 hx
  subst hu
  rw [ip_nth_eq] at hq hv
  obtain ⟨⟨ws, hR, hP, hD⟩, hS, hfz⟩ := h3
  obtain ⟨E, hE, hc⟩ := hR.2 q _ hq
  obtain ⟨f, rfl, hf⟩ := ip_cR_lng hc
  refine va_last C.2.1 C.2.2.1 C.2.2.2.2.2.2.1 hP hD hS q 2 hE rfl (ip_vpin hi2 hi3 (List.getElem?_eq_some_iff.mp hv).1) hd (fun H1 locs1 hP1 hD1 hS1 => hk ls s2 H1 locs1 h1 h2 ⟨⟨_, ?_, hP1, hD1⟩, hS1, fun z => ?_⟩)
  · rw [ip_set_eq, ip_set_eq]
    refine ip_hR_set hR hq (Or.inr (Or.inr (Or.inr ⟨rfl, _, by rw [List.length_set], fun k' v' h' => ?_⟩)))
    dsimp only at h'
    rw [List.getElem?_set] at h'
    unfold vp_updL
    by_cases e : k = k'
    · subst e
      simp only [if_true] at h'
      split at h'
      · cases h'
        exact ⟨d, x, rfl, hx0, by rw [hi3, if_pos rfl]⟩
      · cases h'
    · rw [if_neg e] at h'
      obtain ⟨d', i', h4, h5, h6⟩ := hf k' v' h'
      exact ⟨d', i', h4, h5, by rw [hi3, if_neg (fun q => e q.symm)]; exact h6⟩
  · rw [ip_set_eq, List.length_set]; exact hfz z
end Steps2
