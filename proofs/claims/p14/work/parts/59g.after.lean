/-! AFTER: both -/
section After
variable {σ : sg_S} {T S : Nat → Nat} {k t : Nat}
theorem aft46 {τ P : sg_S} {j i u b : Nat} {D : Nat → Nat → Nat} {z : Int32} (hA : CAt P 20 T S i u D) (hR : RefAt τ T S i u D) (hO : OK T (S 1) j i u D) (hj : j ≤ 401) (hb : b ≤ 5) (hz : z = N (if i = 0 then 0 else 1)) : (if N b = 0 then ((P 20 3), P) else (if N b = 1 then ((P (v_X0_side 20 (P 20 3)) 0), P) else (if N b = 2 then ((P (v_X0_side 20 (P 20 3)) 1), P) else (if N b = 3 then ((P (v_X0_side 20 (P 20 3)) 2), P) else (if N b = 4 then ((v_X0_theTarget P 20), P) else ((v_X0_parNow P 20), P)))))).1 = (r_X5_after_a46 τ (N b) z).1 := by
  have hi := hO.1
  have e3 : P 20 3 = N i := hA.2.2.2.2.1
  have ht := tgt_both hA hR hi hj (hO.2.2.2.1 0 (by decide)) (hO.2.2.2.1 1 (by decide))
  have hp := par_both hA hR hi hj (hO.2.2.2.1 0 (by decide)) (hO.2.2.2.1 1 (by decide))
  have hs : ∀ f, f < 9 → P (v_X0_side 20 (N i)) f = N (D (if i = 0 then 0 else 1) f) := fun f hf => by
    by_cases g : i = 0
    · rw [if_pos g, g, side_eq (i := 0) (by decide)]; exact hA.2.2.2.2.2.2.1 f hf
    · rw [if_neg g]
      have e : v_X0_side 20 (N i) = 20 + 7 := by
        unfold v_X0_side
        rw [if_pos (show ¬ N i = 0 from N_nz (by omega) (by omega))]
      rw [e]; exact hA.2.2.2.2.2.2.2 f hf
  have hq : RPic τ (if i = 0 then 0 else 1) (D (if i = 0 then 0 else 1)) := by
    by_cases g : i = 0
    · rw [if_pos g]; exact hR.pic (by decide)
    · rw [if_neg g]; exact hR.pic (by decide)
  have hn : ni z = (if i = 0 then 0 else 1) := by
    rw [hz]
    by_cases g : i = 0
    · rw [if_pos g]; rfl
    · rw [if_neg g]; rfl
  unfold r_X5_after_a46
  rw [e3, hn, hs 0 (by decide), hs 1 (by decide), hs 2 (by decide), hq.1, hq.2.1, hq.2.2.1, hR.2.2.2.2.1, ht, hp]
  rcases (show b = 0 ∨ b = 1 ∨ b = 2 ∨ b = 3 ∨ b = 4 ∨ b = 5 by omega) with rfl | rfl | rfl | rfl | rfl | rfl
  · rfl
  · rfl
  · rfl
  · rfl
  · show (if v_X5_hasTarget τ = 0 then (-1 : Int32) else v_X5_theTarget τ) = (if v_X5_hasTarget τ = 0 then ((-1 : Int32), τ) else (v_X5_theTarget τ, τ)).1
    split
    · rfl
    · rfl
  · rfl
theorem both_after {x0 x1 : Int32} (h : Cpl σ T S k t) : (r_X4_after σ x0 x1).1 = (r_X5_after (r_X4_after σ x0 x1).2 x0 x1).1 := by
  obtain ⟨hc, hr, hT, hL, hF⟩ := id h
  obtain ⟨⟨a1, a2, x, a3, a4⟩, ht, h5⟩ := id hc
  have hs := Cs_after (x0 := x0) (x1 := x1) hc
  have hr1 := (Cpl_20 h hs).2.1
  have hL1 : ∀ j, j < k → (r_X4_after σ x0 x1).2 39 j = σ 33 j ∧ (r_X4_after σ x0 x1).2 40 j = σ 34 j := fun j hj => by
    rw [hs 39 j (by decide), hs 40 j (by decide)]; exact hL j hj
  have h0 := RInv_0 (v := 0) hr1
  -- the answer of the reference, whatever the class left
  generalize hG : (r_X4_after σ x0 x1).2 = G at *
  unfold r_X5_after
  rw [h0.2.2.2.2.1]
  by_cases g : v_X5_in x0 0 (N k) = 0
  · rw [if_pos g]
    unfold r_X4_after
    by_cases g1 : x0 < 0
    · rw [if_pos g1]
    rw [if_neg g1]
    by_cases g2 : σ 0 6 < x0
    · rw [if_pos g2]
    · rw [a1] at g2
      obtain ⟨a, ha, rfl⟩ := ex_nlt k g1 g2 (by omega)
      exact absurd g (in_nz (lo := 0) (Nat.zero_le _) ha (by omega))
  · rw [if_neg g]
    obtain ⟨a, rfl, -, ha⟩ := in_ex (lo := 0) (hi := k) (by decide) (by omega) g
    obtain ⟨y, hy⟩ := mrun_le' a3 ha
    obtain ⟨r1, r2⟩ := replay_ok (c := 20) (by decide) (by decide) a4.1 a4.2.1 a4.2.2.1 a4.2.2.2.1 (show a ≤ 400 by omega) hy
    have hyr : mrun T S ((sg_up G 35 0 0) 39) ((sg_up G 35 0 0) 40) a = some y := by
      rw [← hy]
      refine mrun_congr a (fun j hj => ?_)
      rw [up_c (by decide), up_c (by decide)]
      exact hL1 j (by omega)
    obtain ⟨-, q2, q3, -⟩ := goesTo_ok h0.1 h0.2.1 h0.2.2.1 h0.2.2.2.1 (show a ≤ 400 by omega) hyr
    unfold r_X4_after
    rw [if_neg (N_nn (by omega)), a1, if_neg (g_nlt ha (by omega))]
    by_cases g5 : v_X5_in x1 0 5 = 0
    · rw [if_neg (show ¬ ¬ v_X5_in x1 0 5 = 0 from fun w => w g5)]
      by_cases z1 : x1 < 0
      · rw [if_pos z1]
      rw [if_neg z1]
      by_cases z2 : x1 ≤ 5
      · obtain ⟨b, hb, rfl⟩ := ex_nlt 5 z1 (Int32.not_lt.mpr z2) (by decide)
        exact absurd g5 (in_nz (lo := 0) (hi := 5) (Nat.zero_le _) hb (by decide))
      · rw [if_neg z2]
    · rw [if_pos g5]
      obtain ⟨b, rfl, -, hb⟩ := in_ex (lo := 0) (hi := 5) (by decide) (by decide) g5
      rw [if_neg (N_nn (by omega)), if_pos (by exact g_le (L := 5) hb (by decide)), q2.2.2.2.2.1]
      have hi := q3.1
      by_cases e : y.1 = 0
      · rw [if_neg (show ¬ ¬ N y.1 = 0 from fun w => w (by rw [e]; rfl))]
        exact aft46 r1 q2 q3 (by omega) hb (by rw [if_pos e]; rfl)
      · rw [if_pos (show ¬ N y.1 = 0 from N_nz (by omega) (by omega))]
        exact aft46 r1 q2 q3 (by omega) hb (by rw [if_neg e]; rfl)
end After
