/-! THE FIRST CALLS: what class and reference tell (the numbers' names: wip/whole/names.lean.txt) -/
theorem sp_ifT {β : Type} {i : Decidable True} {J : Option β} : @ev_if β True i J = J := if_pos trivial
/-- record: the class's -/
theorem sp_193_end {Q : Nat} {S : ev_St} (hc : 0 ≤ S.1 0 15 ∧ S.1 0 15 < 6) (hr : S.1 0 16 = 1) : jm_193 Q S = some (.inl (S.1 0 15), ev_pI (ev_pI S 0 16 0) 0 15 (S.1 0 15 + 1)) := by
  unfold jm_193
  have h0 := hc.1
  simp [sp_b, sp_jn, sp_pI1, hr, hc.2, ev_bl, sp_ifT]
  rw [sp_ck (by omega), sp_ck (by omega)]
  simp
theorem sp_193_begin {Q : Nat} {S : ev_St} (hc : 0 ≤ S.1 0 15 ∧ S.1 0 15 < 6) (hr : S.1 0 16 = 0) : jm_193 Q S = some (.inl (-1), ev_pI S 0 16 1) := by
  unfold jm_193
  simp [sp_b, sp_jn, sp_pI1, hr, hc.2, ev_bl, sp_ifT]
theorem sp_193_no {Q : Nat} {S : ev_St} (hc : 6 ≤ S.1 0 15) : jm_193 Q S = some (.inr "java/lang/IllegalStateException", ev_tick S) := by
  unfold jm_193
  rw [sp_b, if_neg (by omega)]
theorem sp_aln716 : ev_aln 716 = 7 := by decide +kernel
/-- record: the reference's -/
theorem sp_359_end {Q : Nat} {S : ev_St} (hc : 0 ≤ S.1 621 135 ∧ S.1 621 135 < 6) (hr : S.1 621 136 = 1) : jm_359 Q S = some (S.1 621 135, ev_pI (ev_pI (ev_pI S 621 0 0) 621 136 0) 621 135 (S.1 621 135 + 1)) := by
  unfold jm_359
  simp [sp_b, sp_jn, sp_pI1, hr, ev_bl, sp_ifT]
  rw [sp_ck (by omega), sp_ck (by omega)]
  simp
theorem sp_359_begin {Q : Nat} {S : ev_St} (hc : 0 ≤ S.1 621 135 ∧ S.1 621 135 < 6) (hr : S.1 621 136 = 0) : jm_359 Q S = some (-1, ev_pI (ev_pI (ev_pI S 621 0 0) 621 136 1) 716 (S.1 621 135).toNat 0) := by
  unfold jm_359
  have h6 : ¬ S.1 621 135 = 6 := by omega
  simp [sp_b, sp_jn, sp_pI1, hr, ev_bl, h6, sp_ifT]
  rw [sp_if (by rw [sp_aln716]; omega)]
/-- open -/
theorem sp_189_ok {Q : Nat} {S : ev_St} (h : S.1 254 14 = 0) : jm_189 Q S = some (.inl (S.1 254 12), ev_pI S 254 14 1) := by
  unfold jm_189
  simp [sp_b, sp_pI1, h]
theorem sp_189_no {Q : Nat} {S : ev_St} (h : S.1 254 14 ≠ 0) : jm_189 Q S = some (.inr "java/lang/IllegalStateException", ev_tick S) := by
  unfold jm_189
  simp [sp_b, h]
theorem sp_354_ok {Q : Nat} {S : ev_St} (h : S.1 621 132 = 0) : jm_354 Q S = some (S.1 621 130, ev_pI (ev_pI S 621 0 0) 621 132 1) := by
  unfold jm_354
  simp [sp_b, sp_jn, sp_pI1, h]
theorem sp_354_no {Q : Nat} {S : ev_St} (h : S.1 621 132 ≠ 0) : jm_354 Q S = some (0, ev_pI S 621 0 1) := by
  unfold jm_354
  simp [sp_b, sp_jn, sp_pI1, h]
/-- the buffer's text, and nothing -/
theorem sp_1 {Q : Nat} {b : Int} {S : ev_St} : jm_1 Q b S = some (if 0 ≤ b ∧ b < 3 then 263 + 2 * b.toNat + 1 else 0, S) := by
  unfold jm_1
  by_cases h1 : b < 0
  · rw [if_pos h1, if_neg (by omega)]
  · by_cases h2 : 3 ≤ b
    · rw [if_neg h1, if_pos h2, if_neg (by omega)]
    · rw [if_neg h1, if_neg h2, sp_if (by omega), if_pos (by omega), sp_b]
/-- size: the class's, the reference's -/
theorem sp_184_ok {Q : Nat} {b : Int} {S : ev_St} (h : 0 ≤ b ∧ b < 3) : jm_184 Q b S = some (.inl (S.1 (263 + 2 * b.toNat) 1), S) := by
  unfold jm_184
  rw [sp_1, sp_bd, if_pos h, if_neg (by omega), sp_b]
  rfl
theorem sp_184_no {Q : Nat} {b : Int} {S : ev_St} (h : ¬ (0 ≤ b ∧ b < 3)) : jm_184 Q b S = some (.inr "java/lang/IndexOutOfBoundsException", ev_tick S) := by
  unfold jm_184
  rw [sp_1, sp_bd, if_neg h, if_pos rfl]
theorem sp_325 {Q : Nat} {b : Int} {S : ev_St} : jm_325 Q b S = some (sp_in b 0 2, S) := by
  unfold jm_325
  rw [sp_222, sp_bd]
  unfold sp_in
  split
  · rfl
  · split <;> rfl
theorem sp_aln707 : ev_aln 707 = 3 := by decide +kernel
theorem sp_347_ok {Q : Nat} {b : Int} {S : ev_St} (h : 0 ≤ b ∧ b < 3) : jm_347 Q b S = some (S.1 707 b.toNat, ev_pI S 621 0 0) := by
  unfold jm_347
  have e : sp_in b 0 2 = 1 := by
    unfold sp_in
    rw [if_neg (by omega), if_neg (by omega)]
  rw [sp_b, sp_325, sp_bd, e, if_neg (by decide), sp_if (by rw [sp_aln707]; omega), sp_b]
  rw [ev_pI_ne (by decide)]
theorem sp_347_no {Q : Nat} {b : Int} {S : ev_St} (h : ¬ (0 ≤ b ∧ b < 3)) : jm_347 Q b S = some (0, ev_pI (ev_pI S 621 0 0) 621 0 1) := by
  unfold jm_347
  rw [sp_b, sp_325, sp_bd]
  have e : sp_in b 0 2 = 0 := by
    unfold sp_in
    split
    · rfl
    · rw [if_pos (by omega)]
  rw [e, if_pos rfl]
  rfl
/-! whole calls: what they do to the numbers, where class and reference agree -/
section OPS
variable {Q L j : Nat} {xs : Nat → Int32} {S : ev_St}
/-- record -/
theorem op_27_end (h1 : S.1 0 15 = S.1 621 135) (h2 : S.1 0 16 = 1) (h3 : S.1 621 136 = 1) (h4 : 0 ≤ S.1 0 15 ∧ S.1 0 15 < 6) (hL : L ≤ 3072) (hj : j + 6 ≤ L) (K : ev_St → Option (Int × ev_St)) : ja_1908 Q L xs K S = K (ev_pI (ev_pI (ev_pI (ev_pL (ev_pI (ev_pI S 0 16 0) 0 15 (S.1 0 15 + 1)) 723 0 (ev_i2l (S.1 0 15))) 621 0 0) 621 136 0) 621 135 (S.1 621 135 + 1)) := by
  have e2 := sp_359_end (Q := Q) (S := ev_pL (ev_pI (ev_pI S 0 16 0) 0 15 (S.1 0 15 + 1)) 723 0 (ev_i2l (S.1 0 15))) (by simp [sp_pI1, sp_pL1]; omega) (by simp [sp_pI1, sp_pL1, h3])
  simp only [sp_pI1, sp_pL1] at e2
  refine la_27 (b := S.1 621 135) hL hj (lw_27_ok (sp_193_end h4 h2)) ?_ ?_ ?_
  · rw [e2]
    simp
  · simp [sp_pI1]
  · intro _
    simp [sp_pI2, sp_pL2, h1]
theorem op_27_begin (h1 : S.1 0 15 = S.1 621 135) (h2 : S.1 0 16 = 0) (h3 : S.1 621 136 = 0) (h4 : 0 ≤ S.1 0 15 ∧ S.1 0 15 < 6) (hL : L ≤ 3072) (hj : j + 6 ≤ L) (K : ev_St → Option (Int × ev_St)) : ja_1908 Q L xs K S = K (ev_pI (ev_pI (ev_pI (ev_pL (ev_pI S 0 16 1) 723 0 (ev_i2l (-1))) 621 0 0) 621 136 1) 716 (S.1 621 135).toNat 0) := by
  have e2 := sp_359_begin (Q := Q) (S := ev_pL (ev_pI S 0 16 1) 723 0 (ev_i2l (-1))) (by simp [sp_pI1, sp_pL1]; omega) (by simp [sp_pI1, sp_pL1, h3])
  simp only [sp_pI1, sp_pL1] at e2
  refine la_27 (b := -1) hL hj (lw_27_ok (sp_193_begin h4 h2)) ?_ ?_ ?_
  · rw [e2]
    simp
  · simp [sp_pI1]
  · intro _
    simp [sp_pI2, sp_pL2]
/-- open -/
theorem op_23_ok (h1 : S.1 254 14 = 0) (h2 : S.1 621 132 = 0) (h3 : S.1 254 12 = S.1 621 130) (hL : L ≤ 3072) (hj : j + 6 ≤ L) (K : ev_St → Option (Int × ev_St)) : ja_1732 Q L xs K S = K (ev_pI (ev_pI (ev_pL (ev_pI S 254 14 1) 723 0 (ev_i2l (S.1 254 12))) 621 0 0) 621 132 1) := by
  have e2 := sp_354_ok (Q := Q) (S := ev_pL (ev_pI S 254 14 1) 723 0 (ev_i2l (S.1 254 12))) (by simp [sp_pI1, sp_pL1, h2])
  refine la_23 (b := S.1 621 130) hL hj (lw_23_ok (sp_189_ok h1)) ?_ ?_ ?_
  · rw [e2]
    simp [sp_pI1, sp_pL1]
  · simp [sp_pI1]
  · intro _
    simp [sp_pI2, sp_pL2, h3]
theorem op_23_no (h1 : S.1 254 14 ≠ 0) (h2 : S.1 621 132 ≠ 0) (hL : L ≤ 3072) (hj : j + 6 ≤ L) (K : ev_St → Option (Int × ev_St)) : ja_1732 Q L xs K S = K (ev_pI (ev_tick S) 621 0 1) := by
  refine la_23 (b := 0) hL hj (lw_23_x0 (sp_189_no h1)) (sp_354_no (S := ev_tick S) h2) ?_ ?_
  · simp [sp_pI1]
  · intro h
    cases h
/-- size -/
theorem op_18_ok (h : 0 ≤ (xs (Int.toNat ((j : Int) + 1))).toInt ∧ (xs (Int.toNat ((j : Int) + 1))).toInt < 3) (h1 : S.1 (263 + 2 * ((xs (Int.toNat ((j : Int) + 1))).toInt).toNat) 1 = S.1 707 ((xs (Int.toNat ((j : Int) + 1))).toInt).toNat) (hL : L ≤ 3072) (hj : j + 6 ≤ L) (K : ev_St → Option (Int × ev_St)) : ja_1364 Q L xs (j : Int) K S = K (ev_pI (ev_pL S 723 0 (ev_i2l (S.1 707 ((xs (Int.toNat ((j : Int) + 1))).toInt).toNat))) 621 0 0) := by
  refine la_18 (b := S.1 707 ((xs (Int.toNat ((j : Int) + 1))).toInt).toNat) hL hj (lw_18_ok _ (sp_184_ok h)) ?_ ?_ ?_
  · rw [sp_347_ok h, h1]
    rfl
  · simp [sp_pI1]
  · intro _
    simp [sp_pI2, sp_pL2]
theorem op_18_no (h : ¬ (0 ≤ (xs (Int.toNat ((j : Int) + 1))).toInt ∧ (xs (Int.toNat ((j : Int) + 1))).toInt < 3)) (hL : L ≤ 3072) (hj : j + 6 ≤ L) (K : ev_St → Option (Int × ev_St)) : ja_1364 Q L xs (j : Int) K S = K (ev_pI (ev_pI (ev_tick S) 621 0 0) 621 0 1) := by
  refine la_18 (b := 0) hL hj (lw_18_x0 _ (sp_184_no h)) (sp_347_no h) ?_ ?_
  · simp [sp_pI1]
  · intro h
    cases h
end OPS
