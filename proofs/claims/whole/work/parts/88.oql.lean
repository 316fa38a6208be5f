/-! FRAMES: the potential keeps what is asked of it -/
section OQL
variable {N m t u v a b c g d r e : Nat} {kd ch nx rp lw hi : Nat → Int} {up y tg : Nat → Nat} {ks : List KT} {κ : KT} {Y Z D : Int} {X : Option Nat} {x z pl : Nat}
abbrev nxA (nx : Nat → Int) (ks : List KT) (m : Nat) : List KT := if nx m = -1 then ks else (1, (nx m).toNat, 0, 0) :: ks
theorem VV_1 : VV N kd nx rp lw hi up tg ((1, m, a, b) :: ks) X = Ev N kd nx rp up tg (dOf ks) m (zE up N (up m)) (VV N kd nx rp lw hi up tg ks X) := rfl
theorem VV_3 : VV N kd nx rp lw hi up tg ((3, m, r, pl) :: ks) X = max (VV N kd nx rp lw hi up tg ks none) (fL (dOf ks) + 40) + rR lw hi m (r + 1) * rho N kd nx rp up tg m - (if hi m = -1 ∧ lw m ≤ (r : Int) ∧ X = some pl then rho N kd nx rp up tg m else 0) := rfl
/-- an item, in its row -/
theorem q_item (hF : FRM N kd ch nx rp up y tg) (hm : m < N) (hI : isI kd m) : (bN nx m : Int) + Vp N kd nx rp lw hi up tg 1 m 0 (nxA nx ks m) x ≤ Ev N kd nx rp up tg (dOf ks) m (zE up N (up m)) (VV N kd nx rp lw hi up tg ks (some x)) := by
  have h1 : ∀ Y, (bN nx m : Int) + v1 N kd nx rp up tg (dOf ks) m Y ≤ Ev N kd nx rp up tg (dOf ks) m (zE up N m) Y := fun Y => v1_Ev hF hm hI
  by_cases hx : nx m = -1
  · have e : nxA nx ks m = ks := if_pos hx
    rw [e, ← tr_l hF.1 hm hI.1 hx]
    exact h1 _
  · obtain ⟨t, ht⟩ : ∃ t : Nat, nx m = (t : Int) := by
      rcases hF.1.x1 m hm with w | ⟨s, z1, _⟩
      · exact absurd w hx
      · exact ⟨s, z1⟩
    have zx := tr_x hF.1 hm ht
    rcases hF.1.x1 m hm with w | ⟨s, z1, z2, z3, z4, z5⟩
    · exact absurd w hx
    · obtain rfl : s = t := by omega
      have tl := tr_w hF.1 z3 (by omega)
      have e : nxA nx ks m = (1, s, 0, 0) :: ks := by
        unfold nxA
        rw [if_neg hx, ht, Int.toNat_natCast]
      rw [e]
      show (bN nx m : Int) + v1 N kd nx rp up tg (dOf ks + 0) m (VV N kd nx rp lw hi up tg ((1, s, 0, 0) :: ks) (some x)) ≤ _
      rw [Nat.add_zero, VV_1]
      refine Int.le_trans (h1 _) ?_
      rw [zx, z4]
      exact Ev_comp (by omega) (by rw [← z4]; omega)
/-- how much a round can gain at most -/
theorem bc_30 (hF : FRM N kd ch nx rp up y tg) (hm : m < N) (h0 : m ≠ 0) : bc N kd nx rp up tg m ≤ 30 := by
  by_cases z : kd m = 14 ∧ cg N kd nx rp up (tg m) ∧ sg (lpN N kd nx rp up tg) (tg m + 1) (zE up N (tg m)) = 0
  · rw [bc_1 z]
    have q := q_bd hF (hF.2.2.2.2 m hm h0 z.1).1
    exact Nat.le_trans (bf_m (show _ ≤ 326 by omega)) (by decide)
  · rw [bc_0 z]
    decide
theorem h_w (h0 : m ≠ 0) : hN kd m ≤ wN kd m := by
  unfold hN wN itN g8N
  by_cases z : kd m = 8
  · rw [if_pos z, if_pos ⟨h0, by rw [z]; decide⟩, if_pos ⟨z, h0⟩]
    decide
  · rw [if_neg z]
    exact Nat.zero_le _
theorem q_rho (hF : FRM N kd ch nx rp up y tg) (hm : m < N) (h0 : m ≠ 0) : (hN kd m : Int) + (qS N kd nx rp up tg (m + 1) (zE up N m) : Int) + ((min 4 (sg (imN kd nx rp) (m + 1) (zE up N m)) : Nat) : Int) ≤ 326 ∧ (hN kd m : Int) ≤ 2 ∧ (rho N kd nx rp up tg m = 0 ∨ (rho N kd nx rp up tg m = (hN kd m : Int) + (qS N kd nx rp up tg (m + 1) (zE up N m) : Int) - 297)) ∧ (kd m ≠ 18 → (hN kd m : Int) + (qS N kd nx rp up tg (m + 1) (zE up N m) : Int) ≤ 324) := by
  have q := q_bd hF hm
  have w := h_w (kd := kd) h0
  have h2 := hN_2 (kd := kd) (v := m)
  have w2 : hN kd m = 0 ∨ wN kd m = 2 := by
    by_cases z : kd m = 8
    · exact Or.inr (w_g h0 z)
    · exact Or.inl (if_neg z)
  unfold rho qS
  refine ⟨by omega, by omega, ?_, fun h18 => by have := w_it (kd := kd) (v := m) ⟨h0, h18⟩; omega⟩
  by_cases z : purA kd nx m ∧ kd m ≠ 14 ∧ sg (mN kd nx rp) (m + 1) (zE up N m) = 0 ∧ sg (lpN N kd nx rp up tg) (m + 1) (zE up N m) = 0
  · rw [if_pos z]
    have i1 : 1 ≤ wN kd m := w_it ⟨h0, by have := z.1.2; have := z.2.1; omega⟩
    omega
  · rw [if_neg z]
    exact Or.inl rfl
theorem q_6a (hF : FRM N kd ch nx rp up y tg) (hm : m < N) (h0 : m ≠ 0) (hv : bval (lw m) (hi m)) (hr : (r : Int) < lw m ∨ hi m = -1 ∨ (r : Int) < hi m) : v9 N kd nx rp lw hi up tg m r ks x ≤ v6 N kd nx rp lw hi up tg m r ks := by
  obtain ⟨q1, q2, q3, q4⟩ := q_rho hF hm h0
  have rb := rho_b (N := N) (kd := kd) (nx := nx) (rp := rp) (up := up) (tg := tg) (m := m)
  have r0 := rr_0 (N := N) (kd := kd) (nx := nx) (rp := rp) (up := up) (tg := tg) (lw := lw) (hi := hi) (m := m) (r := r)
  have f0 := fL_0 (d := dOf ks)
  have b30 := bc_30 hF hm h0
  have hN0 : (0 : Int) ≤ (hN kd m : Int) := Int.natCast_nonneg _
  have qS0 : (0 : Int) ≤ (qS N kd nx rp up tg (m + 1) (zE up N m) : Int) := Int.natCast_nonneg _
  -- behind this round
  have y3 : VV N kd nx rp lw hi up tg ((3, m, r, x) :: ks) (some x) ≤ max (VV N kd nx rp lw hi up tg ks none) (fL (dOf ks) + 40) + rR lw hi m r * rho N kd nx rp up tg m - rho N kd nx rp up tg m ∨ (rho N kd nx rp up tg m = 0 ∧ VV N kd nx rp lw hi up tg ((3, m, r, x) :: ks) (some x) ≤ max (VV N kd nx rp lw hi up tg ks none) (fL (dOf ks) + 40)) := by
    rw [VV_3]
    by_cases h : rho N kd nx rp up tg m = 0
    · right
      rw [h, Int.mul_zero]
      refine ⟨rfl, ?_⟩
      split <;> omega
    · left
      by_cases hh : hi m = -1 ∧ lw m ≤ (r : Int)
      · rw [if_pos ⟨hh.1, hh.2, rfl⟩]
        have e1 : rR lw hi m r = 0 := by
          unfold rR
          rw [if_pos hh.1]
          omega
        have e2 : rR lw hi m (r + 1) = 0 := by
          unfold rR
          rw [if_pos hh.1]
          omega
        rw [e1, e2]
        exact Int.le_refl _
      · have e1 : rR lw hi m r = rR lw hi m (r + 1) + 1 := by
          unfold rR
          by_cases y1 : hi m = -1
          · rw [if_pos y1, if_pos y1]
            omega
          · rw [if_neg y1, if_neg y1]
            have := hv.2.2
            omega
        rw [e1, Int.add_mul, Int.one_mul, if_neg (fun w => hh ⟨w.1, w.2.1⟩)]
        omega
  unfold v9 v6
  generalize VV N kd nx rp lw hi up tg ((3, m, r, x) :: ks) (some x) = Y3 at y3 ⊢
  unfold v2
  by_cases z : purA kd nx m
  · rw [if_pos z]
    by_cases k14 : kd m = 14
    · rw [if_pos k14]
      have rz : rho N kd nx rp up tg m = 0 := if_neg (fun w => w.2.1 k14)
      rw [rz, Int.mul_zero] at y3 ⊢
      have : (0 : Int) ≤ if (lpN N kd nx rp up tg) m = 1 then fK (dOf ks) else 0 := by
        unfold fK
        split <;> omega
      omega
    · rw [if_neg k14]
      have p0 := pn_0 (N := N) (kd := kd) (nx := nx) (rp := rp) (up := up) (tg := tg) (d := dOf ks) (a := m + 1) (b := zE up N m)
      have pp : (32 ≤ pnE N kd nx rp up tg (dOf ks) (m + 1) (zE up N m) ∧ rho N kd nx rp up tg m = 0) ∨ (hN kd m : Int) + (qS N kd nx rp up tg (m + 1) (zE up N m) : Int) - 297 ≤ rho N kd nx rp up tg m := by
        by_cases w1 : 0 < sg (mN kd nx rp) (m + 1) (zE up N m)
        · left
          unfold pnE
          rw [if_pos w1]
          exact ⟨Int.le_refl _, if_neg (fun w => by have := w.2.2.1; omega)⟩
        · by_cases w2 : 0 < sg (lpN N kd nx rp up tg) (m + 1) (zE up N m)
          · left
            unfold pnE fK
            rw [if_neg w1, if_pos w2]
            exact ⟨by omega, if_neg (fun w => by have := w.2.2.2; omega)⟩
          · right
            have q5 := q4 (by have := z.2; omega)
            unfold rho
            rw [if_pos ⟨z, k14, by omega, by omega⟩]
            omega
      unfold Ev
      omega
  · rw [if_neg z]
    have rz : rho N kd nx rp up tg m = 0 := if_neg (fun w => z w.1)
    rw [rz, Int.mul_zero] at y3 ⊢
    omega
theorem q_6b : VV N kd nx rp lw hi up tg ks (some x) ≤ v6 N kd nx rp lw hi up tg m r ks := by
  have r0 := rr_0 (N := N) (kd := kd) (nx := nx) (rp := rp) (up := up) (tg := tg) (lw := lw) (hi := hi) (m := m) (r := r)
  have l := (VV_l (N := N) (kd := kd) (nx := nx) (rp := rp) (lw := lw) (hi := hi) (up := up) (tg := tg) ks (some x)).1
  unfold v6
  omega
theorem q_6c : 2 + v2 N kd nx rp up tg (dOf ks) m (VV N kd nx rp lw hi up tg ((3, m, r, x) :: ks) (some x)) ≤ 299 + v9 N kd nx rp lw hi up tg m r ks x := by
  unfold v9
  omega
theorem q_6d (h : ¬ (hi m = -1 ∧ lw m < (r : Int) + 1 ∧ x = pl)) : v6 N kd nx rp lw hi up tg m (r + 1) ks ≤ VV N kd nx rp lw hi up tg ((3, m, r, pl) :: ks) (some x) := by
  rw [VV_3, if_neg (fun w => h ⟨w.1, by have := w.2.1; omega, Option.some.inj w.2.2⟩), Int.sub_zero]
  exact Int.le_refl _
theorem q_6 (hF : FRM N kd ch nx rp up y tg) (hm : m < N) (h0 : m ≠ 0) (hv : bval (lw m) (hi m)) (hr : rp m ≠ -1) : v6 N kd nx rp lw hi up tg m 0 ks ≤ 299 + v1 N kd nx rp up tg (dOf ks) m (VV N kd nx rp lw hi up tg ks (some x)) := by
  obtain ⟨q1, q2, q3, q4⟩ := q_rho hF hm h0
  have rb := rho_b (N := N) (kd := kd) (nx := nx) (rp := rp) (up := up) (tg := tg) (m := m)
  have f0 := fL_0 (d := dOf ks)
  have hN0 : (0 : Int) ≤ (hN kd m : Int) := Int.natCast_nonneg _
  have qS0 : (0 : Int) ≤ (qS N kd nx rp up tg (m + 1) (zE up N m) : Int) := Int.natCast_nonneg _
  have l := (VV_l (N := N) (kd := kd) (nx := nx) (rp := rp) (lw := lw) (hi := hi) (up := up) (tg := tg) ks (some x)).2
  have r20 : rR lw hi m 0 ≤ 20 := by
    unfold rR
    split <;> omega
  have pr := Int.mul_le_mul_of_nonneg_right r20 rb.1
  unfold v6 v1
  rw [if_neg hr]
  omega
/-- atoms that are tried, or parts of several rows -/
theorem v2_n (h : ¬ purA kd nx m) : v2 N kd nx rp up tg d m Y = (qS N kd nx rp up tg (m + 1) (zE up N m) : Int) + max (fL d + (hN kd m : Int)) (Y - 36) := if_neg h
theorem q_leaf (h : ¬ purA kd nx m) : VV N kd nx rp lw hi up tg ks (some z) ≤ 299 + v2 N kd nx rp up tg (dOf ks) m (VV N kd nx rp lw hi up tg ks (some x)) := by
  have l1 := (VV_l (N := N) (kd := kd) (nx := nx) (rp := rp) (lw := lw) (hi := hi) (up := up) (tg := tg) ks (some x)).2
  have l2 := (VV_l (N := N) (kd := kd) (nx := nx) (rp := rp) (lw := lw) (hi := hi) (up := up) (tg := tg) ks (some z)).1
  rw [v2_n h]
  omega
theorem q_8 (h0 : m ≠ 0) (h8 : kd m = 8) : 2 + v3 N kd nx rp up tg d m Y ≤ v2 N kd nx rp up tg d m Y := by
  have f0 := fL_0 (d := d)
  have h2 : hN kd m = 2 := if_pos h8
  have qS0 : (0 : Int) ≤ (qS N kd nx rp up tg (m + 1) (zE up N m) : Int) := Int.natCast_nonneg _
  unfold v3
  by_cases z : nx (m + 1) = -1
  · unfold v2
    rw [if_pos z, if_pos ⟨h0, Or.inr ⟨Or.inl h8, z⟩⟩, if_neg (by omega), h2]
    exact Int.le_refl _
  · rw [v2_n (fun w => by have := w.2; omega), if_neg z, h2]
    omega
theorem q_9 (h0 : m ≠ 0) (h9 : kd m = 9) : v3 N kd nx rp up tg d m Y ≤ v2 N kd nx rp up tg d m Y := by
  have f0 := fL_0 (d := d)
  have qS0 : (0 : Int) ≤ (qS N kd nx rp up tg (m + 1) (zE up N m) : Int) := Int.natCast_nonneg _
  unfold v3
  by_cases z : nx (m + 1) = -1
  · unfold v2
    rw [if_pos z, if_pos ⟨h0, Or.inr ⟨Or.inr h9, z⟩⟩, if_neg (by omega)]
    omega
  · rw [v2_n (fun w => by have := w.2; omega), if_neg z]
    omega
theorem q_10 (h : ¬ purA kd nx m) : 2 + v3 N kd nx rp up tg d m Y ≤ 299 + v2 N kd nx rp up tg d m Y := by
  have f0 := fL_0 (d := d)
  have p0 := pn_0 (N := N) (kd := kd) (nx := nx) (rp := rp) (up := up) (tg := tg) (d := d) (a := m + 1) (b := zE up N m)
  have qS0 : (0 : Int) ≤ (qS N kd nx rp up tg (m + 1) (zE up N m) : Int) := Int.natCast_nonneg _
  rw [v2_n h]
  unfold v3
  by_cases z : nx (m + 1) = -1
  · rw [if_pos z]
    unfold Ev
    omega
  · rw [if_neg z]
    omega
theorem qS_m (h1 : a ≤ u) (h2 : u ≤ v) (h3 : v ≤ b) : qS N kd nx rp up tg u v ≤ qS N kd nx rp up tg a b := Nat.add_le_add (sg_sub h1 h2 h3) (sg_sub h1 h2 h3)
theorem q_13 (hF : FRM N kd ch nx rp up y tg) (hm : m < N) (h13 : kd m = 13) (hr : r = m + 1 ∨ nx (m + 1) = (r : Int)) : v7 N kd nx rp up tg d r Y ≤ 299 + v2 N kd nx rp up tg d m Y := by
  have f0 := fL_0 (d := d)
  have p0 := pn_0 (N := N) (kd := kd) (nx := nx) (rp := rp) (up := up) (tg := tg) (d := d) (a := r + 1) (b := zE up N r)
  obtain ⟨i1, i2, i3, i4, i5⟩ := tr_i hF.1 hm ((hF.1.c2 m hm (by omega)).mpr (by omega))
  have q : m + 1 ≤ r + 1 ∧ r + 1 ≤ zE up N r ∧ zE up N r ≤ zE up N m := by
    rcases hr with z | z
    · rw [z]
      exact ⟨by omega, (zE_in i1).1, i5⟩
    · have zx := tr_x hF.1 i1 z
      rcases hF.1.x1 _ i1 with w | ⟨s, z1, z2, z3, z4, _⟩
      · omega
      · obtain rfl : s = r := by omega
        have tl := tr_w hF.1 z3 (by omega)
        rw [z4, i2] at tl
        exact ⟨by omega, (zE_in z3).1, zE_ne hm (by omega) tl⟩
  have mo := qS_m (N := N) (kd := kd) (nx := nx) (rp := rp) (up := up) (tg := tg) q.1 q.2.1 q.2.2
  rw [v2_n (fun w => by have := w.2; omega)]
  unfold v7 Ev
  omega
/-- a call -/
theorem q_14 (hF : FRM N kd ch nx rp up y tg) (hm : m < N) (h0 : m ≠ 0) (h14 : kd m = 14) (hd : d < 20) : 2 + v3 N kd nx rp up tg (d + 1) (tg m) Y ≤ 299 + v2 N kd nx rp up tg d m Y := by
  have f0 := fL_0 (d := d + 1)
  have fs := fL_s hd
  obtain ⟨t1, t2⟩ := hF.2.2.2.2 m hm h0 h14
  have q := q_bd hF t1
  have zle : tg m + 1 ≤ zE up N (tg m) := (zE_in (up := up) t1).1
  have kk : fK (d + 1) = fK d + 29 ∧ 0 ≤ fK d := by
    unfold fK
    omega
  unfold v2
  rw [if_pos ⟨h0, Or.inl h14⟩, if_pos h14]
  unfold v3
  by_cases z : nx (tg m + 1) = -1
  · rw [if_pos z]
    by_cases w1 : sg (mN kd nx rp) (tg m + 1) (zE up N (tg m)) = 0
    · by_cases w2 : sg (lpN N kd nx rp up tg) (tg m + 1) (zE up N (tg m)) = 0
      · have l0 : (lpN N kd nx rp up tg) m = 0 := lpN_0 (fun p => by
          have := sg_mem (f := (lpN N kd nx rp up tg)) (a := tg m + 1) (b := zE up N (tg m)) (v := m) p.2.2.2.1 p.2.2.2.2
          rw [lpN_1 p] at this
          omega)
        have bi := b_in hF hm h0 h14 ⟨z, w1⟩ w2
        unfold Ev pnE qS
        rw [if_neg (by omega), if_neg (by omega), l0, if_neg (by decide)]
        omega
      · unfold Ev pnE qS
        rw [if_neg (by omega), if_pos (by omega)]
        split <;> omega
    · have l0 : (lpN N kd nx rp up tg) m = 0 := lpN_0 (fun p => w1 p.2.2.1.2)
      unfold Ev pnE qS
      rw [if_pos (by omega), l0, if_neg (by decide)]
      omega
  · have l0 : (lpN N kd nx rp up tg) m = 0 := lpN_0 (fun p => z p.2.2.1.1)
    rw [if_neg z, l0, if_neg (by decide)]
    unfold qS
    omega
/-- parts and rows -/
theorem q_part (hF : FRM N kd ch nx rp up y tg) (hm : m < N) (h8 : 8 ≤ kd m ∧ kd m ≤ 13) : (nx (m + 1) = -1 → v7 N kd nx rp up tg d (m + 1) Y ≤ v3 N kd nx rp up tg d m Y) ∧ (nx (m + 1) ≠ -1 → v8 N kd nx rp up tg d (m + 1) Y ≤ v3 N kd nx rp up tg d m Y) := by
  obtain ⟨i1, i2, i3, i4, i5⟩ := tr_i hF.1 hm ((hF.1.c2 m hm (by omega)).mpr h8)
  refine ⟨fun h => ?_, fun h => ?_⟩
  · unfold v7 v3
    have zl := tr_l hF.1 i1 (by omega) h
    rw [i2] at zl
    rw [if_pos h, Ev_row (i3.mpr (by omega)) i4, zl]
    exact Int.le_refl _
  · unfold v8 v3
    rw [if_neg h, i2]
    exact Int.le_refl _
theorem q_row (hF : FRM N kd ch nx rp up y tg) (hr : r < N) (h18 : kd r = 18) : v7 N kd nx rp up tg d r Y ≤ 299 + v8 N kd nx rp up tg d r Y ∧ (∀ t : Nat, nx r = (t : Int) → v8 N kd nx rp up tg d t Y ≤ v8 N kd nx rp up tg d r Y) ∧ (ch r = -1 → Y ≤ v7 N kd nx rp up tg d r Y) := by
  have f0 := fL_0 (d := d)
  have r0 : r ≠ 0 := fun z => by
    have := hF.1.k0
    rw [z] at h18
    omega
  have ru := tr_up hF.1 r r0 hr
  have rw' := tr_w hF.1 hr r0
  have zr := zE_in (up := up) hr
  have hu := hF.1.un r hr
  have zn := zE_ne (up := up) hu ru rw'
  refine ⟨?_, fun t ht => ?_, fun hc => ?_⟩
  · have p0 := pn_0 (N := N) (kd := kd) (nx := nx) (rp := rp) (up := up) (tg := tg) (d := d) (a := r + 1) (b := zE up N r)
    have mo := qS_m (N := N) (kd := kd) (nx := nx) (rp := rp) (up := up) (tg := tg) (u := r + 1) (Nat.le_succ r) (show r + 1 ≤ zE up N r from zr.1) zn
    unfold v7 v8 Ev
    omega
  · rcases hF.1.x1 r hr with w | ⟨s, z1, z2, z3, z4, _⟩
    · omega
    · obtain rfl : s = t := by omega
      have tl := tr_w hF.1 z3 (by omega)
      have mo := qS_m (N := N) (kd := kd) (nx := nx) (rp := rp) (up := up) (tg := tg) (Nat.le_of_lt z2) (Nat.le_of_lt tl) (show zE up N (up s) ≤ zE up N (up r) by rw [z4]; exact Nat.le_refl _)
      unfold v8
      omega
  · unfold v7
    rw [tr_c hF.1 hr hc]
    exact Ev_nil
/-- at the start -/
theorem q_start (hF : FRM N kd ch nx rp up y tg) : 2 + v3 N kd nx rp up tg 0 0 0 ≤ 980 := by
  have q := q_bd hF hF.1.n0
  have p0 := pn_0 (N := N) (kd := kd) (nx := nx) (rp := rp) (up := up) (tg := tg) (d := 0) (a := 0 + 1) (b := zE up N 0)
  unfold v3
  by_cases z : nx (0 + 1) = -1
  · rw [if_pos z]
    unfold Ev qS fL
    omega
  · rw [if_neg z]
    unfold qS fL
    omega
end OQL
