/-! THE ARMS, out of what the class and the reference tell -/
theorem sp_aln723 : ev_aln 723 = 1 := by decide +kernel
theorem la_lcmp (y : Int64) : ev_lcmp y y = 0 := by
  unfold ev_lcmp lg_cmp
  simp
/-- the law compares what the two tell -/
theorem la_cmp {Q : Nat} {K : ev_St → Option (Int × ev_St)} {S2 : ev_St} {c b : Int} (hk : S2.1 621 0 = c) (ho : c = 0 → S2.2.1 723 0 = ev_i2l b) : (ev_bd (jm_220 Q S2) fun x s => if x = c then (ev_jn (fun (s' : ev_St) => K s') fun K' => if c ≠ 0 then (K' s) else (ev_if ((0 : Int) ≤ 0 ∧ 0 < (ev_aln 723 : Int)) (ev_b (s.2.1 723 (Int.toNat 0)) fun y => ev_b (ev_i2l b) fun y2 => ev_b (ev_lcmp y y2) fun x3 => if x3 = 0 then (K' s) else (some (0, s))))) else (some (0, s))) = K S2 := by
  rw [sp_220, sp_bd, if_pos hk, sp_jn]
  by_cases hc : c = 0
  · rw [if_neg (fun h => h hc), sp_if (by rw [sp_aln723]; decide), sp_b, sp_b, sp_b]
    rw [show S2.2.1 723 (Int.toNat 0) = ev_i2l b from ho hc, la_lcmp, if_pos rfl]
  · rw [if_pos hc]
theorem lw_0_ok {Q : Nat} (a0 : Int) {S S1 : ev_St} {v : Int} (h : jm_166 Q a0 S = some (.inl v, S1)) : jm_364 Q (0 + 1) a0 (723 + 1) S = some (0, ev_pL S1 723 0 (ev_i2l v)) := by
  unfold jm_364
  rw [sp_if (by decide), h, sp_bxl, sp_b, sp_if (by decide), sp_if (by rw [show (723 + 1 - 1 : Nat) = 723 from rfl, sp_aln723]; decide)]
  rfl
theorem lw_0_x0 {Q : Nat} (a0 : Int) {S S1 : ev_St} (h : jm_166 Q a0 S = some (.inr "java/lang/IllegalArgumentException", S1)) : jm_364 Q (0 + 1) a0 (723 + 1) S = some (1, S1) := by
  unfold jm_364
  rw [sp_if (by decide), h, sp_bxr, if_pos rfl]
theorem lw_0_x1 {Q : Nat} (a0 : Int) {S S1 : ev_St} (h : jm_166 Q a0 S = some (.inr "java/lang/IllegalStateException", S1)) : jm_364 Q (0 + 1) a0 (723 + 1) S = some (2, S1) := by
  unfold jm_364
  rw [sp_if (by decide), h, sp_bxr, if_neg (by decide), if_pos rfl]
theorem la_0 {Q L j : Nat} {xs : Nat → Int32} {K : ev_St → Option (Int × ev_St)} {S S1 S2 : ev_St} {c b : Int} (hL : L ≤ 3072) (hj : j + 6 ≤ L) (h1 : jm_364 Q (0 + 1) ((xs (Int.toNat ((j : Int) + 1))).toInt) (723 + 1) S = some (c, S1)) (h2 : jm_230 Q ((xs (Int.toNat ((j : Int) + 1))).toInt) S1 = some (b, S2)) (hk : S2.1 621 0 = c) (ho : c = 0 → S2.2.1 723 0 = ev_i2l b) : ja_188 Q L xs (j : Int) K S = K S2 := by
  unfold ja_188
  simp (disch := omega) only [sp_ck, sp_if, sp_b]
  rw [h1, sp_bd, h2, sp_bd]
  have q := la_cmp (Q := Q) (K := K) hk ho
  simp only [sp_b] at q
  exact q
theorem lw_2_ok {Q : Nat} (a0 : Int) {S S1 : ev_St} {v : Int} (h : jm_168 Q a0 S = some (.inl v, S1)) : jm_365 Q (0 + 1) a0 (723 + 1) S = some (0, ev_pL S1 723 0 (ev_i2l v)) := by
  unfold jm_365
  rw [sp_if (by decide), h, sp_bxl, sp_b, sp_if (by decide), sp_if (by rw [show (723 + 1 - 1 : Nat) = 723 from rfl, sp_aln723]; decide)]
  rfl
theorem lw_2_x0 {Q : Nat} (a0 : Int) {S S1 : ev_St} (h : jm_168 Q a0 S = some (.inr "java/lang/IllegalArgumentException", S1)) : jm_365 Q (0 + 1) a0 (723 + 1) S = some (1, S1) := by
  unfold jm_365
  rw [sp_if (by decide), h, sp_bxr, if_pos rfl]
theorem la_2 {Q L j : Nat} {xs : Nat → Int32} {K : ev_St → Option (Int × ev_St)} {S S1 S2 : ev_St} {c b : Int} (hL : L ≤ 3072) (hj : j + 6 ≤ L) (h1 : jm_365 Q (0 + 1) ((xs (Int.toNat ((j : Int) + 1))).toInt) (723 + 1) S = some (c, S1)) (h2 : jm_271 Q ((xs (Int.toNat ((j : Int) + 1))).toInt) S1 = some (b, S2)) (hk : S2.1 621 0 = c) (ho : c = 0 → S2.2.1 723 0 = ev_i2l b) : ja_257 Q L xs (j : Int) K S = K S2 := by
  unfold ja_257
  simp (disch := omega) only [sp_ck, sp_if, sp_b]
  rw [h1, sp_bd, h2, sp_bd]
  have q := la_cmp (Q := Q) (K := K) hk ho
  simp only [sp_b] at q
  exact q
theorem lw_3_ok {Q : Nat} {S S1 : ev_St} {v : Int} (h : jm_169 Q  S = some (.inl v, S1)) : jm_366 Q (0 + 1)  (723 + 1) S = some (0, ev_pL S1 723 0 (ev_i2l v)) := by
  unfold jm_366
  rw [sp_if (by decide), h, sp_bxl, sp_b, sp_if (by decide), sp_if (by rw [show (723 + 1 - 1 : Nat) = 723 from rfl, sp_aln723]; decide)]
  rfl
theorem lw_3_x0 {Q : Nat} {S S1 : ev_St} (h : jm_169 Q  S = some (.inr "java/lang/IllegalStateException", S1)) : jm_366 Q (0 + 1)  (723 + 1) S = some (1, S1) := by
  unfold jm_366
  rw [sp_if (by decide), h, sp_bxr, if_pos rfl]
theorem la_3 {Q L j : Nat} {xs : Nat → Int32} {K : ev_St → Option (Int × ev_St)} {S S1 S2 : ev_St} {c b : Int} (hL : L ≤ 3072) (hj : j + 6 ≤ L) (h1 : jm_366 Q (0 + 1)  (723 + 1) S = some (c, S1)) (h2 : jm_272 Q  S1 = some (b, S2)) (hk : S2.1 621 0 = c) (ho : c = 0 → S2.2.1 723 0 = ev_i2l b) : ja_313 Q L xs K S = K S2 := by
  unfold ja_313
  rw [h1, sp_bd, h2, sp_bd]
  exact la_cmp hk ho
theorem lw_4_ok {Q : Nat} {S S1 : ev_St} {v : Int} (h : jm_170 Q  S = some (.inl v, S1)) : jm_367 Q (0 + 1)  (723 + 1) S = some (0, ev_pL S1 723 0 (ev_i2l v)) := by
  unfold jm_367
  rw [sp_if (by decide), h, sp_bxl, sp_b, sp_if (by decide), sp_if (by rw [show (723 + 1 - 1 : Nat) = 723 from rfl, sp_aln723]; decide)]
  rfl
theorem lw_4_x0 {Q : Nat} {S S1 : ev_St} (h : jm_170 Q  S = some (.inr "java/lang/IllegalStateException", S1)) : jm_367 Q (0 + 1)  (723 + 1) S = some (1, S1) := by
  unfold jm_367
  rw [sp_if (by decide), h, sp_bxr, if_pos rfl]
theorem la_4 {Q L j : Nat} {xs : Nat → Int32} {K : ev_St → Option (Int × ev_St)} {S S1 S2 : ev_St} {c b : Int} (hL : L ≤ 3072) (hj : j + 6 ≤ L) (h1 : jm_367 Q (0 + 1)  (723 + 1) S = some (c, S1)) (h2 : jm_337 Q  S1 = some (b, S2)) (hk : S2.1 621 0 = c) (ho : c = 0 → S2.2.1 723 0 = ev_i2l b) : ja_357 Q L xs K S = K S2 := by
  unfold ja_357
  rw [h1, sp_bd, h2, sp_bd]
  exact la_cmp hk ho
theorem lw_5_ok {Q : Nat} (a0 : Int) {S S1 : ev_St} {v : Int} (h : jm_171 Q a0 S = some (.inl v, S1)) : jm_368 Q (0 + 1) a0 (723 + 1) S = some (0, ev_pL S1 723 0 (ev_i2l v)) := by
  unfold jm_368
  rw [sp_if (by decide), h, sp_bxl, sp_b, sp_if (by decide), sp_if (by rw [show (723 + 1 - 1 : Nat) = 723 from rfl, sp_aln723]; decide)]
  rfl
theorem lw_5_x0 {Q : Nat} (a0 : Int) {S S1 : ev_St} (h : jm_171 Q a0 S = some (.inr "java/lang/IndexOutOfBoundsException", S1)) : jm_368 Q (0 + 1) a0 (723 + 1) S = some (1, S1) := by
  unfold jm_368
  rw [sp_if (by decide), h, sp_bxr, if_pos rfl]
theorem la_5 {Q L j : Nat} {xs : Nat → Int32} {K : ev_St → Option (Int × ev_St)} {S S1 S2 : ev_St} {c b : Int} (hL : L ≤ 3072) (hj : j + 6 ≤ L) (h1 : jm_368 Q (0 + 1) ((xs (Int.toNat ((j : Int) + 1))).toInt) (723 + 1) S = some (c, S1)) (h2 : jm_274 Q ((xs (Int.toNat ((j : Int) + 1))).toInt) S1 = some (b, S2)) (hk : S2.1 621 0 = c) (ho : c = 0 → S2.2.1 723 0 = ev_i2l b) : ja_401 Q L xs (j : Int) K S = K S2 := by
  unfold ja_401
  simp (disch := omega) only [sp_ck, sp_if, sp_b]
  rw [h1, sp_bd, h2, sp_bd]
  have q := la_cmp (Q := Q) (K := K) hk ho
  simp only [sp_b] at q
  exact q
theorem lw_6_ok {Q : Nat} (a0 : Int) {S S1 : ev_St} {v : Int} (h : jm_172 Q a0 S = some (.inl v, S1)) : jm_369 Q (0 + 1) a0 (723 + 1) S = some (0, ev_pL S1 723 0 (ev_i2l v)) := by
  unfold jm_369
  rw [sp_if (by decide), h, sp_bxl, sp_b, sp_if (by decide), sp_if (by rw [show (723 + 1 - 1 : Nat) = 723 from rfl, sp_aln723]; decide)]
  rfl
theorem lw_6_x0 {Q : Nat} (a0 : Int) {S S1 : ev_St} (h : jm_172 Q a0 S = some (.inr "java/lang/IndexOutOfBoundsException", S1)) : jm_369 Q (0 + 1) a0 (723 + 1) S = some (1, S1) := by
  unfold jm_369
  rw [sp_if (by decide), h, sp_bxr, if_pos rfl]
theorem la_6 {Q L j : Nat} {xs : Nat → Int32} {K : ev_St → Option (Int × ev_St)} {S S1 S2 : ev_St} {c b : Int} (hL : L ≤ 3072) (hj : j + 6 ≤ L) (h1 : jm_369 Q (0 + 1) ((xs (Int.toNat ((j : Int) + 1))).toInt) (723 + 1) S = some (c, S1)) (h2 : jm_275 Q ((xs (Int.toNat ((j : Int) + 1))).toInt) S1 = some (b, S2)) (hk : S2.1 621 0 = c) (ho : c = 0 → S2.2.1 723 0 = ev_i2l b) : ja_457 Q L xs (j : Int) K S = K S2 := by
  unfold ja_457
  simp (disch := omega) only [sp_ck, sp_if, sp_b]
  rw [h1, sp_bd, h2, sp_bd]
  have q := la_cmp (Q := Q) (K := K) hk ho
  simp only [sp_b] at q
  exact q
theorem lw_8_ok {Q : Nat} (a0 : Int) (a1 : Int) {S S1 : ev_St} {v : Int} (h : jm_174 Q a0 a1 S = some (.inl v, S1)) : jm_371 Q (0 + 1) a0 a1 (723 + 1) S = some (0, ev_pL S1 723 0 (ev_i2l v)) := by
  unfold jm_371
  rw [sp_if (by decide), h, sp_bxl, sp_b, sp_if (by decide), sp_if (by rw [show (723 + 1 - 1 : Nat) = 723 from rfl, sp_aln723]; decide)]
  rfl
theorem lw_8_x0 {Q : Nat} (a0 : Int) (a1 : Int) {S S1 : ev_St} (h : jm_174 Q a0 a1 S = some (.inr "java/lang/IndexOutOfBoundsException", S1)) : jm_371 Q (0 + 1) a0 a1 (723 + 1) S = some (1, S1) := by
  unfold jm_371
  rw [sp_if (by decide), h, sp_bxr, if_pos rfl]
theorem lw_8_x1 {Q : Nat} (a0 : Int) (a1 : Int) {S S1 : ev_St} (h : jm_174 Q a0 a1 S = some (.inr "java/lang/IllegalArgumentException", S1)) : jm_371 Q (0 + 1) a0 a1 (723 + 1) S = some (2, S1) := by
  unfold jm_371
  rw [sp_if (by decide), h, sp_bxr, if_neg (by decide), if_pos rfl]
theorem la_8 {Q L j : Nat} {xs : Nat → Int32} {K : ev_St → Option (Int × ev_St)} {S S1 S2 : ev_St} {c b : Int} (hL : L ≤ 3072) (hj : j + 6 ≤ L) (h1 : jm_371 Q (0 + 1) ((xs (Int.toNat ((j : Int) + 1))).toInt) ((xs (Int.toNat ((j : Int) + 2))).toInt) (723 + 1) S = some (c, S1)) (h2 : jm_279 Q ((xs (Int.toNat ((j : Int) + 1))).toInt) ((xs (Int.toNat ((j : Int) + 2))).toInt) S1 = some (b, S2)) (hk : S2.1 621 0 = c) (ho : c = 0 → S2.2.1 723 0 = ev_i2l b) : ja_588 Q L xs (j : Int) K S = K S2 := by
  unfold ja_588
  simp (disch := omega) only [sp_ck, sp_if, sp_b]
  rw [h1, sp_bd, h2, sp_bd]
  have q := la_cmp (Q := Q) (K := K) hk ho
  simp only [sp_b] at q
  exact q
theorem lw_9_ok {Q : Nat} (a0 : Int) {S S1 : ev_St} {v : Int} (h : jm_175 Q a0 S = some (.inl v, S1)) : jm_372 Q (0 + 1) a0 (723 + 1) S = some (0, ev_pL S1 723 0 (ev_i2l v)) := by
  unfold jm_372
  rw [sp_if (by decide), h, sp_bxl, sp_b, sp_if (by decide), sp_if (by rw [show (723 + 1 - 1 : Nat) = 723 from rfl, sp_aln723]; decide)]
  rfl
theorem lw_9_x0 {Q : Nat} (a0 : Int) {S S1 : ev_St} (h : jm_175 Q a0 S = some (.inr "java/lang/IndexOutOfBoundsException", S1)) : jm_372 Q (0 + 1) a0 (723 + 1) S = some (1, S1) := by
  unfold jm_372
  rw [sp_if (by decide), h, sp_bxr, if_pos rfl]
theorem la_9 {Q L j : Nat} {xs : Nat → Int32} {K : ev_St → Option (Int × ev_St)} {S S1 S2 : ev_St} {c b : Int} (hL : L ≤ 3072) (hj : j + 6 ≤ L) (h1 : jm_372 Q (0 + 1) ((xs (Int.toNat ((j : Int) + 1))).toInt) (723 + 1) S = some (c, S1)) (h2 : jm_287 Q ((xs (Int.toNat ((j : Int) + 1))).toInt) S1 = some (b, S2)) (hk : S2.1 621 0 = c) (ho : c = 0 → S2.2.1 723 0 = ev_i2l b) : ja_656 Q L xs (j : Int) K S = K S2 := by
  unfold ja_656
  simp (disch := omega) only [sp_ck, sp_if, sp_b]
  rw [h1, sp_bd, h2, sp_bd]
  have q := la_cmp (Q := Q) (K := K) hk ho
  simp only [sp_b] at q
  exact q
theorem lw_10_ok {Q : Nat} (a0 : Int) (a1 : Int) (a2 : Int) (a3 : Int) {S S1 : ev_St} {v : Int} (h : jm_176 Q a0 a1 a2 a3 S = some (.inl v, S1)) : jm_373 Q (0 + 1) a0 a1 a2 a3 (723 + 1) S = some (0, ev_pL S1 723 0 (ev_i2l v)) := by
  unfold jm_373
  rw [sp_if (by decide), h, sp_bxl, sp_b, sp_if (by decide), sp_if (by rw [show (723 + 1 - 1 : Nat) = 723 from rfl, sp_aln723]; decide)]
  rfl
theorem lw_10_x0 {Q : Nat} (a0 : Int) (a1 : Int) (a2 : Int) (a3 : Int) {S S1 : ev_St} (h : jm_176 Q a0 a1 a2 a3 S = some (.inr "java/lang/IndexOutOfBoundsException", S1)) : jm_373 Q (0 + 1) a0 a1 a2 a3 (723 + 1) S = some (1, S1) := by
  unfold jm_373
  rw [sp_if (by decide), h, sp_bxr, if_pos rfl]
theorem la_10 {Q L j : Nat} {xs : Nat → Int32} {K : ev_St → Option (Int × ev_St)} {S S1 S2 : ev_St} {c b : Int} (hL : L ≤ 3072) (hj : j + 6 ≤ L) (h1 : jm_373 Q (0 + 1) ((xs (Int.toNat ((j : Int) + 1))).toInt) ((xs (Int.toNat ((j : Int) + 2))).toInt) ((xs (Int.toNat ((j : Int) + 3))).toInt) ((xs (Int.toNat ((j : Int) + 4))).toInt) (723 + 1) S = some (c, S1)) (h2 : jm_328 Q ((xs (Int.toNat ((j : Int) + 1))).toInt) ((xs (Int.toNat ((j : Int) + 2))).toInt) ((xs (Int.toNat ((j : Int) + 3))).toInt) ((xs (Int.toNat ((j : Int) + 4))).toInt) S1 = some (b, S2)) (hk : S2.1 621 0 = c) (ho : c = 0 → S2.2.1 723 0 = ev_i2l b) : ja_712 Q L xs (j : Int) K S = K S2 := by
  unfold ja_712
  simp (disch := omega) only [sp_ck, sp_if, sp_b]
  rw [h1, sp_bd, h2, sp_bd]
  have q := la_cmp (Q := Q) (K := K) hk ho
  simp only [sp_b] at q
  exact q
theorem lw_11_ok {Q : Nat} (a0 : Int) (a1 : Int) (a2 : Int) (a3 : Int) {S S1 : ev_St} {v : Int} (h : jm_177 Q a0 a1 a2 a3 S = some (.inl v, S1)) : jm_374 Q (0 + 1) a0 a1 a2 a3 (723 + 1) S = some (0, ev_pL S1 723 0 (ev_i2l v)) := by
  unfold jm_374
  rw [sp_if (by decide), h, sp_bxl, sp_b, sp_if (by decide), sp_if (by rw [show (723 + 1 - 1 : Nat) = 723 from rfl, sp_aln723]; decide)]
  rfl
theorem lw_11_x0 {Q : Nat} (a0 : Int) (a1 : Int) (a2 : Int) (a3 : Int) {S S1 : ev_St} (h : jm_177 Q a0 a1 a2 a3 S = some (.inr "java/lang/IndexOutOfBoundsException", S1)) : jm_374 Q (0 + 1) a0 a1 a2 a3 (723 + 1) S = some (1, S1) := by
  unfold jm_374
  rw [sp_if (by decide), h, sp_bxr, if_pos rfl]
theorem la_11 {Q L j : Nat} {xs : Nat → Int32} {K : ev_St → Option (Int × ev_St)} {S S1 S2 : ev_St} {c b : Int} (hL : L ≤ 3072) (hj : j + 6 ≤ L) (h1 : jm_374 Q (0 + 1) ((xs (Int.toNat ((j : Int) + 1))).toInt) ((xs (Int.toNat ((j : Int) + 2))).toInt) ((xs (Int.toNat ((j : Int) + 3))).toInt) ((xs (Int.toNat ((j : Int) + 4))).toInt) (723 + 1) S = some (c, S1)) (h2 : jm_329 Q ((xs (Int.toNat ((j : Int) + 1))).toInt) ((xs (Int.toNat ((j : Int) + 2))).toInt) ((xs (Int.toNat ((j : Int) + 3))).toInt) ((xs (Int.toNat ((j : Int) + 4))).toInt) S1 = some (b, S2)) (hk : S2.1 621 0 = c) (ho : c = 0 → S2.2.1 723 0 = ev_i2l b) : ja_804 Q L xs (j : Int) K S = K S2 := by
  unfold ja_804
  simp (disch := omega) only [sp_ck, sp_if, sp_b]
  rw [h1, sp_bd, h2, sp_bd]
  have q := la_cmp (Q := Q) (K := K) hk ho
  simp only [sp_b] at q
  exact q
theorem lw_12_ok {Q : Nat} (a0 : Int) (a1 : Int) (a2 : Int) (a3 : Int) (a4 : Int) {S S1 : ev_St} {v : Int} (h : jm_178 Q a0 a1 a2 a3 a4 S = some (.inl v, S1)) : jm_375 Q (0 + 1) a0 a1 a2 a3 a4 (723 + 1) S = some (0, ev_pL S1 723 0 (ev_i2l v)) := by
  unfold jm_375
  rw [sp_if (by decide), h, sp_bxl, sp_b, sp_if (by decide), sp_if (by rw [show (723 + 1 - 1 : Nat) = 723 from rfl, sp_aln723]; decide)]
  rfl
theorem lw_12_x0 {Q : Nat} (a0 : Int) (a1 : Int) (a2 : Int) (a3 : Int) (a4 : Int) {S S1 : ev_St} (h : jm_178 Q a0 a1 a2 a3 a4 S = some (.inr "java/lang/IndexOutOfBoundsException", S1)) : jm_375 Q (0 + 1) a0 a1 a2 a3 a4 (723 + 1) S = some (1, S1) := by
  unfold jm_375
  rw [sp_if (by decide), h, sp_bxr, if_pos rfl]
theorem lw_12_x1 {Q : Nat} (a0 : Int) (a1 : Int) (a2 : Int) (a3 : Int) (a4 : Int) {S S1 : ev_St} (h : jm_178 Q a0 a1 a2 a3 a4 S = some (.inr "java/lang/IllegalArgumentException", S1)) : jm_375 Q (0 + 1) a0 a1 a2 a3 a4 (723 + 1) S = some (2, S1) := by
  unfold jm_375
  rw [sp_if (by decide), h, sp_bxr, if_neg (by decide), if_pos rfl]
theorem la_12 {Q L j : Nat} {xs : Nat → Int32} {K : ev_St → Option (Int × ev_St)} {S S1 S2 : ev_St} {c b : Int} (hL : L ≤ 3072) (hj : j + 6 ≤ L) (h1 : jm_375 Q (0 + 1) ((xs (Int.toNat ((j : Int) + 1))).toInt) ((xs (Int.toNat ((j : Int) + 2))).toInt) ((xs (Int.toNat ((j : Int) + 3))).toInt) ((xs (Int.toNat ((j : Int) + 4))).toInt) ((xs (Int.toNat ((j : Int) + 5))).toInt) (723 + 1) S = some (c, S1)) (h2 : jm_330 Q ((xs (Int.toNat ((j : Int) + 1))).toInt) ((xs (Int.toNat ((j : Int) + 2))).toInt) ((xs (Int.toNat ((j : Int) + 3))).toInt) ((xs (Int.toNat ((j : Int) + 4))).toInt) ((xs (Int.toNat ((j : Int) + 5))).toInt) S1 = some (b, S2)) (hk : S2.1 621 0 = c) (ho : c = 0 → S2.2.1 723 0 = ev_i2l b) : ja_896 Q L xs (j : Int) K S = K S2 := by
  unfold ja_896
  simp (disch := omega) only [sp_ck, sp_if, sp_b]
  rw [h1, sp_bd, h2, sp_bd]
  have q := la_cmp (Q := Q) (K := K) hk ho
  simp only [sp_b] at q
  exact q
theorem lw_13_ok {Q : Nat} (a0 : Int) (a1 : Int) (a2 : Int) {S S1 : ev_St} {v : Int} (h : jm_179 Q a0 a1 a2 S = some (.inl v, S1)) : jm_376 Q (0 + 1) a0 a1 a2 (723 + 1) S = some (0, ev_pL S1 723 0 (ev_i2l v)) := by
  unfold jm_376
  rw [sp_if (by decide), h, sp_bxl, sp_b, sp_if (by decide), sp_if (by rw [show (723 + 1 - 1 : Nat) = 723 from rfl, sp_aln723]; decide)]
  rfl
theorem lw_13_x0 {Q : Nat} (a0 : Int) (a1 : Int) (a2 : Int) {S S1 : ev_St} (h : jm_179 Q a0 a1 a2 S = some (.inr "java/lang/IndexOutOfBoundsException", S1)) : jm_376 Q (0 + 1) a0 a1 a2 (723 + 1) S = some (1, S1) := by
  unfold jm_376
  rw [sp_if (by decide), h, sp_bxr, if_pos rfl]
theorem la_13 {Q L j : Nat} {xs : Nat → Int32} {K : ev_St → Option (Int × ev_St)} {S S1 S2 : ev_St} {c b : Int} (hL : L ≤ 3072) (hj : j + 6 ≤ L) (h1 : jm_376 Q (0 + 1) ((xs (Int.toNat ((j : Int) + 1))).toInt) ((xs (Int.toNat ((j : Int) + 2))).toInt) ((xs (Int.toNat ((j : Int) + 3))).toInt) (723 + 1) S = some (c, S1)) (h2 : jm_331 Q ((xs (Int.toNat ((j : Int) + 1))).toInt) ((xs (Int.toNat ((j : Int) + 2))).toInt) ((xs (Int.toNat ((j : Int) + 3))).toInt) S1 = some (b, S2)) (hk : S2.1 621 0 = c) (ho : c = 0 → S2.2.1 723 0 = ev_i2l b) : ja_1000 Q L xs (j : Int) K S = K S2 := by
  unfold ja_1000
  simp (disch := omega) only [sp_ck, sp_if, sp_b]
  rw [h1, sp_bd, h2, sp_bd]
  have q := la_cmp (Q := Q) (K := K) hk ho
  simp only [sp_b] at q
  exact q
theorem lw_14_ok {Q : Nat} (a0 : Int) (a1 : Int) (a2 : Int) {S S1 : ev_St} {v : Int} (h : jm_180 Q a0 a1 a2 S = some (.inl v, S1)) : jm_377 Q (0 + 1) a0 a1 a2 (723 + 1) S = some (0, ev_pL S1 723 0 (ev_i2l v)) := by
  unfold jm_377
  rw [sp_if (by decide), h, sp_bxl, sp_b, sp_if (by decide), sp_if (by rw [show (723 + 1 - 1 : Nat) = 723 from rfl, sp_aln723]; decide)]
  rfl
theorem lw_14_x0 {Q : Nat} (a0 : Int) (a1 : Int) (a2 : Int) {S S1 : ev_St} (h : jm_180 Q a0 a1 a2 S = some (.inr "java/lang/IndexOutOfBoundsException", S1)) : jm_377 Q (0 + 1) a0 a1 a2 (723 + 1) S = some (1, S1) := by
  unfold jm_377
  rw [sp_if (by decide), h, sp_bxr, if_pos rfl]
theorem la_14 {Q L j : Nat} {xs : Nat → Int32} {K : ev_St → Option (Int × ev_St)} {S S1 S2 : ev_St} {c b : Int} (hL : L ≤ 3072) (hj : j + 6 ≤ L) (h1 : jm_377 Q (0 + 1) ((xs (Int.toNat ((j : Int) + 1))).toInt) ((xs (Int.toNat ((j : Int) + 2))).toInt) ((xs (Int.toNat ((j : Int) + 3))).toInt) (723 + 1) S = some (c, S1)) (h2 : jm_332 Q ((xs (Int.toNat ((j : Int) + 1))).toInt) ((xs (Int.toNat ((j : Int) + 2))).toInt) ((xs (Int.toNat ((j : Int) + 3))).toInt) S1 = some (b, S2)) (hk : S2.1 621 0 = c) (ho : c = 0 → S2.2.1 723 0 = ev_i2l b) : ja_1080 Q L xs (j : Int) K S = K S2 := by
  unfold ja_1080
  simp (disch := omega) only [sp_ck, sp_if, sp_b]
  rw [h1, sp_bd, h2, sp_bd]
  have q := la_cmp (Q := Q) (K := K) hk ho
  simp only [sp_b] at q
  exact q
theorem lw_15_ok {Q : Nat} (a0 : Int) (a1 : Int) {S S1 : ev_St} {v : Int} (h : jm_181 Q a0 a1 S = some (.inl v, S1)) : jm_378 Q (0 + 1) a0 a1 (723 + 1) S = some (0, ev_pL S1 723 0 (ev_i2l v)) := by
  unfold jm_378
  rw [sp_if (by decide), h, sp_bxl, sp_b, sp_if (by decide), sp_if (by rw [show (723 + 1 - 1 : Nat) = 723 from rfl, sp_aln723]; decide)]
  rfl
theorem lw_15_x0 {Q : Nat} (a0 : Int) (a1 : Int) {S S1 : ev_St} (h : jm_181 Q a0 a1 S = some (.inr "java/lang/IndexOutOfBoundsException", S1)) : jm_378 Q (0 + 1) a0 a1 (723 + 1) S = some (1, S1) := by
  unfold jm_378
  rw [sp_if (by decide), h, sp_bxr, if_pos rfl]
theorem la_15 {Q L j : Nat} {xs : Nat → Int32} {K : ev_St → Option (Int × ev_St)} {S S1 S2 : ev_St} {c b : Int} (hL : L ≤ 3072) (hj : j + 6 ≤ L) (h1 : jm_378 Q (0 + 1) ((xs (Int.toNat ((j : Int) + 1))).toInt) ((xs (Int.toNat ((j : Int) + 2))).toInt) (723 + 1) S = some (c, S1)) (h2 : jm_334 Q ((xs (Int.toNat ((j : Int) + 1))).toInt) ((xs (Int.toNat ((j : Int) + 2))).toInt) S1 = some (b, S2)) (hk : S2.1 621 0 = c) (ho : c = 0 → S2.2.1 723 0 = ev_i2l b) : ja_1160 Q L xs (j : Int) K S = K S2 := by
  unfold ja_1160
  simp (disch := omega) only [sp_ck, sp_if, sp_b]
  rw [h1, sp_bd, h2, sp_bd]
  have q := la_cmp (Q := Q) (K := K) hk ho
  simp only [sp_b] at q
  exact q
theorem lw_16_ok {Q : Nat} (a0 : Int) (a1 : Int) (a2 : Int) {S S1 : ev_St} {v : Int} (h : jm_182 Q a0 a1 a2 S = some (.inl v, S1)) : jm_379 Q (0 + 1) a0 a1 a2 (723 + 1) S = some (0, ev_pL S1 723 0 (ev_i2l v)) := by
  unfold jm_379
  rw [sp_if (by decide), h, sp_bxl, sp_b, sp_if (by decide), sp_if (by rw [show (723 + 1 - 1 : Nat) = 723 from rfl, sp_aln723]; decide)]
  rfl
theorem lw_16_x0 {Q : Nat} (a0 : Int) (a1 : Int) (a2 : Int) {S S1 : ev_St} (h : jm_182 Q a0 a1 a2 S = some (.inr "java/lang/IndexOutOfBoundsException", S1)) : jm_379 Q (0 + 1) a0 a1 a2 (723 + 1) S = some (1, S1) := by
  unfold jm_379
  rw [sp_if (by decide), h, sp_bxr, if_pos rfl]
theorem la_16 {Q L j : Nat} {xs : Nat → Int32} {K : ev_St → Option (Int × ev_St)} {S S1 S2 : ev_St} {c b : Int} (hL : L ≤ 3072) (hj : j + 6 ≤ L) (h1 : jm_379 Q (0 + 1) ((xs (Int.toNat ((j : Int) + 1))).toInt) ((xs (Int.toNat ((j : Int) + 2))).toInt) ((xs (Int.toNat ((j : Int) + 3))).toInt) (723 + 1) S = some (c, S1)) (h2 : jm_335 Q ((xs (Int.toNat ((j : Int) + 1))).toInt) ((xs (Int.toNat ((j : Int) + 2))).toInt) ((xs (Int.toNat ((j : Int) + 3))).toInt) S1 = some (b, S2)) (hk : S2.1 621 0 = c) (ho : c = 0 → S2.2.1 723 0 = ev_i2l b) : ja_1228 Q L xs (j : Int) K S = K S2 := by
  unfold ja_1228
  simp (disch := omega) only [sp_ck, sp_if, sp_b]
  rw [h1, sp_bd, h2, sp_bd]
  have q := la_cmp (Q := Q) (K := K) hk ho
  simp only [sp_b] at q
  exact q
theorem lw_17_ok {Q : Nat} (a0 : Int) {S S1 : ev_St} {v : Int} (h : jm_183 Q a0 S = some (.inl v, S1)) : jm_380 Q (0 + 1) a0 (723 + 1) S = some (0, ev_pL S1 723 0 (ev_i2l v)) := by
  unfold jm_380
  rw [sp_if (by decide), h, sp_bxl, sp_b, sp_if (by decide), sp_if (by rw [show (723 + 1 - 1 : Nat) = 723 from rfl, sp_aln723]; decide)]
  rfl
theorem lw_17_x0 {Q : Nat} (a0 : Int) {S S1 : ev_St} (h : jm_183 Q a0 S = some (.inr "java/lang/IndexOutOfBoundsException", S1)) : jm_380 Q (0 + 1) a0 (723 + 1) S = some (1, S1) := by
  unfold jm_380
  rw [sp_if (by decide), h, sp_bxr, if_pos rfl]
theorem lw_17_x1 {Q : Nat} (a0 : Int) {S S1 : ev_St} (h : jm_183 Q a0 S = some (.inr "java/lang/IllegalStateException", S1)) : jm_380 Q (0 + 1) a0 (723 + 1) S = some (2, S1) := by
  unfold jm_380
  rw [sp_if (by decide), h, sp_bxr, if_neg (by decide), if_pos rfl]
theorem la_17 {Q L j : Nat} {xs : Nat → Int32} {K : ev_St → Option (Int × ev_St)} {S S1 S2 : ev_St} {c b : Int} (hL : L ≤ 3072) (hj : j + 6 ≤ L) (h1 : jm_380 Q (0 + 1) ((xs (Int.toNat ((j : Int) + 1))).toInt) (723 + 1) S = some (c, S1)) (h2 : jm_346 Q ((xs (Int.toNat ((j : Int) + 1))).toInt) S1 = some (b, S2)) (hk : S2.1 621 0 = c) (ho : c = 0 → S2.2.1 723 0 = ev_i2l b) : ja_1308 Q L xs (j : Int) K S = K S2 := by
  unfold ja_1308
  simp (disch := omega) only [sp_ck, sp_if, sp_b]
  rw [h1, sp_bd, h2, sp_bd]
  have q := la_cmp (Q := Q) (K := K) hk ho
  simp only [sp_b] at q
  exact q
theorem lw_18_ok {Q : Nat} (a0 : Int) {S S1 : ev_St} {v : Int} (h : jm_184 Q a0 S = some (.inl v, S1)) : jm_381 Q (0 + 1) a0 (723 + 1) S = some (0, ev_pL S1 723 0 (ev_i2l v)) := by
  unfold jm_381
  rw [sp_if (by decide), h, sp_bxl, sp_b, sp_if (by decide), sp_if (by rw [show (723 + 1 - 1 : Nat) = 723 from rfl, sp_aln723]; decide)]
  rfl
theorem lw_18_x0 {Q : Nat} (a0 : Int) {S S1 : ev_St} (h : jm_184 Q a0 S = some (.inr "java/lang/IndexOutOfBoundsException", S1)) : jm_381 Q (0 + 1) a0 (723 + 1) S = some (1, S1) := by
  unfold jm_381
  rw [sp_if (by decide), h, sp_bxr, if_pos rfl]
theorem la_18 {Q L j : Nat} {xs : Nat → Int32} {K : ev_St → Option (Int × ev_St)} {S S1 S2 : ev_St} {c b : Int} (hL : L ≤ 3072) (hj : j + 6 ≤ L) (h1 : jm_381 Q (0 + 1) ((xs (Int.toNat ((j : Int) + 1))).toInt) (723 + 1) S = some (c, S1)) (h2 : jm_347 Q ((xs (Int.toNat ((j : Int) + 1))).toInt) S1 = some (b, S2)) (hk : S2.1 621 0 = c) (ho : c = 0 → S2.2.1 723 0 = ev_i2l b) : ja_1364 Q L xs (j : Int) K S = K S2 := by
  unfold ja_1364
  simp (disch := omega) only [sp_ck, sp_if, sp_b]
  rw [h1, sp_bd, h2, sp_bd]
  have q := la_cmp (Q := Q) (K := K) hk ho
  simp only [sp_b] at q
  exact q
theorem lw_19_ok {Q : Nat} (a0 : Int) (a1 : Int) {S S1 : ev_St} {v : Int} (h : jm_185 Q a0 a1 S = some (.inl v, S1)) : jm_382 Q (0 + 1) a0 a1 (723 + 1) S = some (0, ev_pL S1 723 0 (ev_i2l v)) := by
  unfold jm_382
  rw [sp_if (by decide), h, sp_bxl, sp_b, sp_if (by decide), sp_if (by rw [show (723 + 1 - 1 : Nat) = 723 from rfl, sp_aln723]; decide)]
  rfl
theorem lw_19_x0 {Q : Nat} (a0 : Int) (a1 : Int) {S S1 : ev_St} (h : jm_185 Q a0 a1 S = some (.inr "java/lang/IndexOutOfBoundsException", S1)) : jm_382 Q (0 + 1) a0 a1 (723 + 1) S = some (1, S1) := by
  unfold jm_382
  rw [sp_if (by decide), h, sp_bxr, if_pos rfl]
theorem la_19 {Q L j : Nat} {xs : Nat → Int32} {K : ev_St → Option (Int × ev_St)} {S S1 S2 : ev_St} {c b : Int} (hL : L ≤ 3072) (hj : j + 6 ≤ L) (h1 : jm_382 Q (0 + 1) ((xs (Int.toNat ((j : Int) + 1))).toInt) ((xs (Int.toNat ((j : Int) + 2))).toInt) (723 + 1) S = some (c, S1)) (h2 : jm_348 Q ((xs (Int.toNat ((j : Int) + 1))).toInt) ((xs (Int.toNat ((j : Int) + 2))).toInt) S1 = some (b, S2)) (hk : S2.1 621 0 = c) (ho : c = 0 → S2.2.1 723 0 = ev_i2l b) : ja_1420 Q L xs (j : Int) K S = K S2 := by
  unfold ja_1420
  simp (disch := omega) only [sp_ck, sp_if, sp_b]
  rw [h1, sp_bd, h2, sp_bd]
  have q := la_cmp (Q := Q) (K := K) hk ho
  simp only [sp_b] at q
  exact q
theorem lw_20_ok {Q : Nat} (a0 : Int) (a1 : Int) (a2 : Int) (a3 : Int) {S S1 : ev_St} {v : Int} (h : jm_186 Q a0 a1 a2 a3 S = some (.inl v, S1)) : jm_383 Q (0 + 1) a0 a1 a2 a3 (723 + 1) S = some (0, ev_pL S1 723 0 (ev_i2l v)) := by
  unfold jm_383
  rw [sp_if (by decide), h, sp_bxl, sp_b, sp_if (by decide), sp_if (by rw [show (723 + 1 - 1 : Nat) = 723 from rfl, sp_aln723]; decide)]
  rfl
theorem lw_20_x0 {Q : Nat} (a0 : Int) (a1 : Int) (a2 : Int) (a3 : Int) {S S1 : ev_St} (h : jm_186 Q a0 a1 a2 a3 S = some (.inr "java/lang/IndexOutOfBoundsException", S1)) : jm_383 Q (0 + 1) a0 a1 a2 a3 (723 + 1) S = some (1, S1) := by
  unfold jm_383
  rw [sp_if (by decide), h, sp_bxr, if_pos rfl]
theorem lw_20_x1 {Q : Nat} (a0 : Int) (a1 : Int) (a2 : Int) (a3 : Int) {S S1 : ev_St} (h : jm_186 Q a0 a1 a2 a3 S = some (.inr "java/lang/IllegalArgumentException", S1)) : jm_383 Q (0 + 1) a0 a1 a2 a3 (723 + 1) S = some (2, S1) := by
  unfold jm_383
  rw [sp_if (by decide), h, sp_bxr, if_neg (by decide), if_pos rfl]
theorem lw_20_x2 {Q : Nat} (a0 : Int) (a1 : Int) (a2 : Int) (a3 : Int) {S S1 : ev_St} (h : jm_186 Q a0 a1 a2 a3 S = some (.inr "java/lang/IllegalStateException", S1)) : jm_383 Q (0 + 1) a0 a1 a2 a3 (723 + 1) S = some (3, S1) := by
  unfold jm_383
  rw [sp_if (by decide), h, sp_bxr, if_neg (by decide), if_neg (by decide), if_pos rfl]
theorem la_20 {Q L j : Nat} {xs : Nat → Int32} {K : ev_St → Option (Int × ev_St)} {S S1 S2 : ev_St} {c b : Int} (hL : L ≤ 3072) (hj : j + 6 ≤ L) (h1 : jm_383 Q (0 + 1) ((xs (Int.toNat ((j : Int) + 1))).toInt) ((xs (Int.toNat ((j : Int) + 2))).toInt) ((xs (Int.toNat ((j : Int) + 3))).toInt) ((xs (Int.toNat ((j : Int) + 4))).toInt) (723 + 1) S = some (c, S1)) (h2 : jm_351 Q ((xs (Int.toNat ((j : Int) + 1))).toInt) ((xs (Int.toNat ((j : Int) + 2))).toInt) ((xs (Int.toNat ((j : Int) + 3))).toInt) ((xs (Int.toNat ((j : Int) + 4))).toInt) S1 = some (b, S2)) (hk : S2.1 621 0 = c) (ho : c = 0 → S2.2.1 723 0 = ev_i2l b) : ja_1488 Q L xs (j : Int) K S = K S2 := by
  unfold ja_1488
  simp (disch := omega) only [sp_ck, sp_if, sp_b]
  rw [h1, sp_bd, h2, sp_bd]
  have q := la_cmp (Q := Q) (K := K) hk ho
  simp only [sp_b] at q
  exact q
theorem lw_22_ok {Q : Nat} (a0 : Int) {S S1 : ev_St} {v : Int} (h : jm_188 Q a0 S = some (.inl v, S1)) : jm_385 Q (0 + 1) a0 (723 + 1) S = some (0, ev_pL S1 723 0 (ev_i2l v)) := by
  unfold jm_385
  rw [sp_if (by decide), h, sp_bxl, sp_b, sp_if (by decide), sp_if (by rw [show (723 + 1 - 1 : Nat) = 723 from rfl, sp_aln723]; decide)]
  rfl
theorem lw_22_x0 {Q : Nat} (a0 : Int) {S S1 : ev_St} (h : jm_188 Q a0 S = some (.inr "java/lang/IndexOutOfBoundsException", S1)) : jm_385 Q (0 + 1) a0 (723 + 1) S = some (1, S1) := by
  unfold jm_385
  rw [sp_if (by decide), h, sp_bxr, if_pos rfl]
theorem la_22 {Q L j : Nat} {xs : Nat → Int32} {K : ev_St → Option (Int × ev_St)} {S S1 S2 : ev_St} {c b : Int} (hL : L ≤ 3072) (hj : j + 6 ≤ L) (h1 : jm_385 Q (0 + 1) ((xs (Int.toNat ((j : Int) + 1))).toInt) (723 + 1) S = some (c, S1)) (h2 : jm_353 Q ((xs (Int.toNat ((j : Int) + 1))).toInt) S1 = some (b, S2)) (hk : S2.1 621 0 = c) (ho : c = 0 → S2.2.1 723 0 = ev_i2l b) : ja_1676 Q L xs (j : Int) K S = K S2 := by
  unfold ja_1676
  simp (disch := omega) only [sp_ck, sp_if, sp_b]
  rw [h1, sp_bd, h2, sp_bd]
  have q := la_cmp (Q := Q) (K := K) hk ho
  simp only [sp_b] at q
  exact q
theorem lw_23_ok {Q : Nat} {S S1 : ev_St} {v : Int} (h : jm_189 Q  S = some (.inl v, S1)) : jm_386 Q (0 + 1)  (723 + 1) S = some (0, ev_pL S1 723 0 (ev_i2l v)) := by
  unfold jm_386
  rw [sp_if (by decide), h, sp_bxl, sp_b, sp_if (by decide), sp_if (by rw [show (723 + 1 - 1 : Nat) = 723 from rfl, sp_aln723]; decide)]
  rfl
theorem lw_23_x0 {Q : Nat} {S S1 : ev_St} (h : jm_189 Q  S = some (.inr "java/lang/IllegalStateException", S1)) : jm_386 Q (0 + 1)  (723 + 1) S = some (1, S1) := by
  unfold jm_386
  rw [sp_if (by decide), h, sp_bxr, if_pos rfl]
theorem la_23 {Q L j : Nat} {xs : Nat → Int32} {K : ev_St → Option (Int × ev_St)} {S S1 S2 : ev_St} {c b : Int} (hL : L ≤ 3072) (hj : j + 6 ≤ L) (h1 : jm_386 Q (0 + 1)  (723 + 1) S = some (c, S1)) (h2 : jm_354 Q  S1 = some (b, S2)) (hk : S2.1 621 0 = c) (ho : c = 0 → S2.2.1 723 0 = ev_i2l b) : ja_1732 Q L xs K S = K S2 := by
  unfold ja_1732
  rw [h1, sp_bd, h2, sp_bd]
  exact la_cmp hk ho
theorem lw_24_ok {Q : Nat} {S S1 : ev_St} {v : Int} (h : jm_190 Q  S = some (.inl v, S1)) : jm_387 Q (0 + 1)  (723 + 1) S = some (0, ev_pL S1 723 0 (ev_i2l v)) := by
  unfold jm_387
  rw [sp_if (by decide), h, sp_bxl, sp_b, sp_if (by decide), sp_if (by rw [show (723 + 1 - 1 : Nat) = 723 from rfl, sp_aln723]; decide)]
  rfl
theorem lw_24_x0 {Q : Nat} {S S1 : ev_St} (h : jm_190 Q  S = some (.inr "java/lang/IllegalStateException", S1)) : jm_387 Q (0 + 1)  (723 + 1) S = some (1, S1) := by
  unfold jm_387
  rw [sp_if (by decide), h, sp_bxr, if_pos rfl]
theorem la_24 {Q L j : Nat} {xs : Nat → Int32} {K : ev_St → Option (Int × ev_St)} {S S1 S2 : ev_St} {c b : Int} (hL : L ≤ 3072) (hj : j + 6 ≤ L) (h1 : jm_387 Q (0 + 1)  (723 + 1) S = some (c, S1)) (h2 : jm_355 Q  S1 = some (b, S2)) (hk : S2.1 621 0 = c) (ho : c = 0 → S2.2.1 723 0 = ev_i2l b) : ja_1776 Q L xs K S = K S2 := by
  unfold ja_1776
  rw [h1, sp_bd, h2, sp_bd]
  exact la_cmp hk ho
theorem lw_25_ok {Q : Nat} {S S1 : ev_St} {v : Int} (h : jm_191 Q  S = some (.inl v, S1)) : jm_388 Q (0 + 1)  (723 + 1) S = some (0, ev_pL S1 723 0 (ev_i2l v)) := by
  unfold jm_388
  rw [sp_if (by decide), h, sp_bxl, sp_b, sp_if (by decide), sp_if (by rw [show (723 + 1 - 1 : Nat) = 723 from rfl, sp_aln723]; decide)]
  rfl
theorem lw_25_x0 {Q : Nat} {S S1 : ev_St} (h : jm_191 Q  S = some (.inr "java/lang/IllegalStateException", S1)) : jm_388 Q (0 + 1)  (723 + 1) S = some (1, S1) := by
  unfold jm_388
  rw [sp_if (by decide), h, sp_bxr, if_pos rfl]
theorem la_25 {Q L j : Nat} {xs : Nat → Int32} {K : ev_St → Option (Int × ev_St)} {S S1 S2 : ev_St} {c b : Int} (hL : L ≤ 3072) (hj : j + 6 ≤ L) (h1 : jm_388 Q (0 + 1)  (723 + 1) S = some (c, S1)) (h2 : jm_357 Q  S1 = some (b, S2)) (hk : S2.1 621 0 = c) (ho : c = 0 → S2.2.1 723 0 = ev_i2l b) : ja_1820 Q L xs K S = K S2 := by
  unfold ja_1820
  rw [h1, sp_bd, h2, sp_bd]
  exact la_cmp hk ho
theorem lw_26_ok {Q : Nat} {S S1 : ev_St} {v : Int} (h : jm_192 Q  S = some (.inl v, S1)) : jm_389 Q (0 + 1)  (723 + 1) S = some (0, ev_pL S1 723 0 (ev_i2l v)) := by
  unfold jm_389
  rw [sp_if (by decide), h, sp_bxl, sp_b, sp_if (by decide), sp_if (by rw [show (723 + 1 - 1 : Nat) = 723 from rfl, sp_aln723]; decide)]
  rfl
theorem lw_26_x0 {Q : Nat} {S S1 : ev_St} (h : jm_192 Q  S = some (.inr "java/lang/IllegalStateException", S1)) : jm_389 Q (0 + 1)  (723 + 1) S = some (1, S1) := by
  unfold jm_389
  rw [sp_if (by decide), h, sp_bxr, if_pos rfl]
theorem la_26 {Q L j : Nat} {xs : Nat → Int32} {K : ev_St → Option (Int × ev_St)} {S S1 S2 : ev_St} {c b : Int} (hL : L ≤ 3072) (hj : j + 6 ≤ L) (h1 : jm_389 Q (0 + 1)  (723 + 1) S = some (c, S1)) (h2 : jm_358 Q  S1 = some (b, S2)) (hk : S2.1 621 0 = c) (ho : c = 0 → S2.2.1 723 0 = ev_i2l b) : ja_1864 Q L xs K S = K S2 := by
  unfold ja_1864
  rw [h1, sp_bd, h2, sp_bd]
  exact la_cmp hk ho
theorem lw_27_ok {Q : Nat} {S S1 : ev_St} {v : Int} (h : jm_193 Q  S = some (.inl v, S1)) : jm_390 Q (0 + 1)  (723 + 1) S = some (0, ev_pL S1 723 0 (ev_i2l v)) := by
  unfold jm_390
  rw [sp_if (by decide), h, sp_bxl, sp_b, sp_if (by decide), sp_if (by rw [show (723 + 1 - 1 : Nat) = 723 from rfl, sp_aln723]; decide)]
  rfl
theorem lw_27_x0 {Q : Nat} {S S1 : ev_St} (h : jm_193 Q  S = some (.inr "java/lang/IllegalStateException", S1)) : jm_390 Q (0 + 1)  (723 + 1) S = some (1, S1) := by
  unfold jm_390
  rw [sp_if (by decide), h, sp_bxr, if_pos rfl]
theorem la_27 {Q L j : Nat} {xs : Nat → Int32} {K : ev_St → Option (Int × ev_St)} {S S1 S2 : ev_St} {c b : Int} (hL : L ≤ 3072) (hj : j + 6 ≤ L) (h1 : jm_390 Q (0 + 1)  (723 + 1) S = some (c, S1)) (h2 : jm_359 Q  S1 = some (b, S2)) (hk : S2.1 621 0 = c) (ho : c = 0 → S2.2.1 723 0 = ev_i2l b) : ja_1908 Q L xs K S = K S2 := by
  unfold ja_1908
  rw [h1, sp_bd, h2, sp_bd]
  exact la_cmp hk ho
theorem lw_28_ok {Q : Nat} (a0 : Int) (a1 : Int) {S S1 : ev_St} {v : Int} (h : jm_194 Q a0 a1 S = some (.inl v, S1)) : jm_391 Q (0 + 1) a0 a1 (723 + 1) S = some (0, ev_pL S1 723 0 (ev_i2l v)) := by
  unfold jm_391
  rw [sp_if (by decide), h, sp_bxl, sp_b, sp_if (by decide), sp_if (by rw [show (723 + 1 - 1 : Nat) = 723 from rfl, sp_aln723]; decide)]
  rfl
theorem lw_28_x0 {Q : Nat} (a0 : Int) (a1 : Int) {S S1 : ev_St} (h : jm_194 Q a0 a1 S = some (.inr "java/lang/IndexOutOfBoundsException", S1)) : jm_391 Q (0 + 1) a0 a1 (723 + 1) S = some (1, S1) := by
  unfold jm_391
  rw [sp_if (by decide), h, sp_bxr, if_pos rfl]
theorem lw_28_x1 {Q : Nat} (a0 : Int) (a1 : Int) {S S1 : ev_St} (h : jm_194 Q a0 a1 S = some (.inr "java/lang/IllegalStateException", S1)) : jm_391 Q (0 + 1) a0 a1 (723 + 1) S = some (2, S1) := by
  unfold jm_391
  rw [sp_if (by decide), h, sp_bxr, if_neg (by decide), if_pos rfl]
theorem la_28 {Q L j : Nat} {xs : Nat → Int32} {K : ev_St → Option (Int × ev_St)} {S S1 S2 : ev_St} {c b : Int} (hL : L ≤ 3072) (hj : j + 6 ≤ L) (h1 : jm_391 Q (0 + 1) ((xs (Int.toNat ((j : Int) + 1))).toInt) ((xs (Int.toNat ((j : Int) + 2))).toInt) (723 + 1) S = some (c, S1)) (h2 : jm_361 Q ((xs (Int.toNat ((j : Int) + 1))).toInt) ((xs (Int.toNat ((j : Int) + 2))).toInt) S1 = some (b, S2)) (hk : S2.1 621 0 = c) (ho : c = 0 → S2.2.1 723 0 = ev_i2l b) : ja_1952 Q L xs (j : Int) K S = K S2 := by
  unfold ja_1952
  simp (disch := omega) only [sp_ck, sp_if, sp_b]
  rw [h1, sp_bd, h2, sp_bd]
  have q := la_cmp (Q := Q) (K := K) hk ho
  simp only [sp_b] at q
  exact q
theorem lw_30_ok {Q : Nat} (a0 : Int) {S S1 : ev_St} {v : Int} (h : jm_196 Q a0 S = some (.inl v, S1)) : jm_393 Q (0 + 1) a0 (723 + 1) S = some (0, ev_pL S1 723 0 (ev_i2l v)) := by
  unfold jm_393
  rw [sp_if (by decide), h, sp_bxl, sp_b, sp_if (by decide), sp_if (by rw [show (723 + 1 - 1 : Nat) = 723 from rfl, sp_aln723]; decide)]
  rfl
theorem lw_30_x0 {Q : Nat} (a0 : Int) {S S1 : ev_St} (h : jm_196 Q a0 S = some (.inr "java/lang/IndexOutOfBoundsException", S1)) : jm_393 Q (0 + 1) a0 (723 + 1) S = some (1, S1) := by
  unfold jm_393
  rw [sp_if (by decide), h, sp_bxr, if_pos rfl]
theorem lw_30_x1 {Q : Nat} (a0 : Int) {S S1 : ev_St} (h : jm_196 Q a0 S = some (.inr "java/lang/IllegalStateException", S1)) : jm_393 Q (0 + 1) a0 (723 + 1) S = some (2, S1) := by
  unfold jm_393
  rw [sp_if (by decide), h, sp_bxr, if_neg (by decide), if_pos rfl]
theorem la_30 {Q L j : Nat} {xs : Nat → Int32} {K : ev_St → Option (Int × ev_St)} {S S1 S2 : ev_St} {c b : Int} (hL : L ≤ 3072) (hj : j + 6 ≤ L) (h1 : jm_393 Q (0 + 1) ((xs (Int.toNat ((j : Int) + 1))).toInt) (723 + 1) S = some (c, S1)) (h2 : jm_322 Q ((xs (Int.toNat ((j : Int) + 1))).toInt) S1 = some (b, S2)) (hk : S2.1 621 0 = c) (ho : c = 0 → S2.2.1 723 0 = ev_i2l b) : ja_2104 Q L xs (j : Int) K S = K S2 := by
  unfold ja_2104
  simp (disch := omega) only [sp_ck, sp_if, sp_b]
  rw [h1, sp_bd, h2, sp_bd]
  have q := la_cmp (Q := Q) (K := K) hk ho
  simp only [sp_b] at q
  exact q
theorem lw_31_ok {Q : Nat} (a0 : Int) {S S1 : ev_St} {v : Int} (h : jm_197 Q a0 S = some (.inl v, S1)) : jm_394 Q (0 + 1) a0 (723 + 1) S = some (0, ev_pL S1 723 0 (ev_i2l v)) := by
  unfold jm_394
  rw [sp_if (by decide), h, sp_bxl, sp_b, sp_if (by decide), sp_if (by rw [show (723 + 1 - 1 : Nat) = 723 from rfl, sp_aln723]; decide)]
  rfl
theorem lw_31_x0 {Q : Nat} (a0 : Int) {S S1 : ev_St} (h : jm_197 Q a0 S = some (.inr "java/lang/IndexOutOfBoundsException", S1)) : jm_394 Q (0 + 1) a0 (723 + 1) S = some (1, S1) := by
  unfold jm_394
  rw [sp_if (by decide), h, sp_bxr, if_pos rfl]
theorem lw_31_x1 {Q : Nat} (a0 : Int) {S S1 : ev_St} (h : jm_197 Q a0 S = some (.inr "java/lang/IllegalStateException", S1)) : jm_394 Q (0 + 1) a0 (723 + 1) S = some (2, S1) := by
  unfold jm_394
  rw [sp_if (by decide), h, sp_bxr, if_neg (by decide), if_pos rfl]
theorem la_31 {Q L j : Nat} {xs : Nat → Int32} {K : ev_St → Option (Int × ev_St)} {S S1 S2 : ev_St} {c b : Int} (hL : L ≤ 3072) (hj : j + 6 ≤ L) (h1 : jm_394 Q (0 + 1) ((xs (Int.toNat ((j : Int) + 1))).toInt) (723 + 1) S = some (c, S1)) (h2 : jm_323 Q ((xs (Int.toNat ((j : Int) + 1))).toInt) S1 = some (b, S2)) (hk : S2.1 621 0 = c) (ho : c = 0 → S2.2.1 723 0 = ev_i2l b) : ja_2160 Q L xs (j : Int) K S = K S2 := by
  unfold ja_2160
  simp (disch := omega) only [sp_ck, sp_if, sp_b]
  rw [h1, sp_bd, h2, sp_bd]
  have q := la_cmp (Q := Q) (K := K) hk ho
  simp only [sp_b] at q
  exact q
theorem lw_32_ok {Q : Nat} (a0 : Int) {S S1 : ev_St} {v : Int} (h : jm_198 Q a0 S = some (.inl v, S1)) : jm_395 Q (0 + 1) a0 (723 + 1) S = some (0, ev_pL S1 723 0 (ev_i2l v)) := by
  unfold jm_395
  rw [sp_if (by decide), h, sp_bxl, sp_b, sp_if (by decide), sp_if (by rw [show (723 + 1 - 1 : Nat) = 723 from rfl, sp_aln723]; decide)]
  rfl
theorem lw_32_x0 {Q : Nat} (a0 : Int) {S S1 : ev_St} (h : jm_198 Q a0 S = some (.inr "java/lang/IndexOutOfBoundsException", S1)) : jm_395 Q (0 + 1) a0 (723 + 1) S = some (1, S1) := by
  unfold jm_395
  rw [sp_if (by decide), h, sp_bxr, if_pos rfl]
theorem la_32 {Q L j : Nat} {xs : Nat → Int32} {K : ev_St → Option (Int × ev_St)} {S S1 S2 : ev_St} {c b : Int} (hL : L ≤ 3072) (hj : j + 6 ≤ L) (h1 : jm_395 Q (0 + 1) ((xs (Int.toNat ((j : Int) + 1))).toInt) (723 + 1) S = some (c, S1)) (h2 : jm_324 Q ((xs (Int.toNat ((j : Int) + 1))).toInt) S1 = some (b, S2)) (hk : S2.1 621 0 = c) (ho : c = 0 → S2.2.1 723 0 = ev_i2l b) : ja_2216 Q L xs (j : Int) K S = K S2 := by
  unfold ja_2216
  simp (disch := omega) only [sp_ck, sp_if, sp_b]
  rw [h1, sp_bd, h2, sp_bd]
  have q := la_cmp (Q := Q) (K := K) hk ho
  simp only [sp_b] at q
  exact q
theorem la_1 {Q L : Nat} {xs : Nat → Int32} {K : ev_St → Option (Int × ev_St)} {S S1 S2 : ev_St} {c : Int} (h1 : jm_167 Q S = some (c, S1)) (h2 : jm_231 Q S1 = some (c, S2)) : ja_244 Q L xs K S = K S2 := by
  unfold ja_244
  rw [h1, sp_bd, h2, sp_bd, if_pos rfl]
def sp_nz (x : Int) : Int := if x = 0 then 0 else 1
def sp_bL (x : Int) : Int64 := if x = 0 then Int64.ofNat ((0 : Fin 2) : Nat) else Int64.ofNat ((1 : Fin 2) : Nat)
theorem lw_7_ok {Q : Nat} (a0 : Int) (a1 : Int) {S S1 : ev_St} {v : Int} (h : jm_173 Q a0 a1 S = some (.inl v, S1)) : jm_370 Q (0 + 1) a0 a1 (723 + 1) S = some (0, ev_pL S1 723 0 (sp_bL v)) := by
  unfold jm_370 sp_bL
  rw [sp_if (by decide), h, sp_bxl]
  by_cases hv : v = 0
  · rw [if_pos hv, if_pos hv, sp_if (by decide), sp_if (by rw [show (723 + 1 - 1 : Nat) = 723 from rfl, sp_aln723]; decide)]
    rfl
  · rw [if_neg hv, if_neg hv, sp_if (by decide), sp_if (by rw [show (723 + 1 - 1 : Nat) = 723 from rfl, sp_aln723]; decide)]
    rfl
theorem lw_7_x0 {Q : Nat} (a0 : Int) (a1 : Int) {S S1 : ev_St} (h : jm_173 Q a0 a1 S = some (.inr "java/lang/IndexOutOfBoundsException", S1)) : jm_370 Q (0 + 1) a0 a1 (723 + 1) S = some (1, S1) := by
  unfold jm_370
  rw [sp_if (by decide), h, sp_bxr, if_pos rfl]
theorem lw_7_x1 {Q : Nat} (a0 : Int) (a1 : Int) {S S1 : ev_St} (h : jm_173 Q a0 a1 S = some (.inr "java/lang/IllegalArgumentException", S1)) : jm_370 Q (0 + 1) a0 a1 (723 + 1) S = some (2, S1) := by
  unfold jm_370
  rw [sp_if (by decide), h, sp_bxr, if_neg (by decide), if_pos rfl]
theorem la_7 {Q L j : Nat} {xs : Nat → Int32} {K : ev_St → Option (Int × ev_St)} {S S1 S2 : ev_St} {c b : Int} (hL : L ≤ 3072) (hj : j + 6 ≤ L) (h1 : jm_370 Q (0 + 1) ((xs (Int.toNat ((j : Int) + 1))).toInt) ((xs (Int.toNat ((j : Int) + 2))).toInt) (723 + 1) S = some (c, S1)) (h2 : jm_277 Q ((xs (Int.toNat ((j : Int) + 1))).toInt) ((xs (Int.toNat ((j : Int) + 2))).toInt) S1 = some (b, S2)) (hk : S2.1 621 0 = c) (ho : c = 0 → S2.2.1 723 0 = sp_bL b) : ja_513 Q L xs (j : Int) K S = K S2 := by
  unfold ja_513
  simp (disch := omega) only [sp_ck, sp_if, sp_b, sp_jn]
  rw [h1, sp_bd, h2, sp_bd, sp_220, sp_bd, if_pos hk]
  by_cases hc : c = 0
  · rw [if_neg (fun h => h hc), sp_if (by rw [sp_aln723]; decide)]
    have hq : S2.2.1 723 (Int.toNat 0) = sp_bL b := ho hc
    unfold sp_bL at hq
    by_cases hb : b = 0
    · rw [if_pos hb] at hq
      rw [if_pos hb, hq, la_lcmp, if_pos rfl]
    · rw [if_neg hb] at hq
      rw [if_neg hb, hq, la_lcmp, if_pos rfl]
  · rw [if_pos hc]
theorem la_21 {Q L j : Nat} {xs : Nat → Int32} {K : ev_St → Option (Int × ev_St)} {S S1 S2 : ev_St} {c b : Int} (hL : L ≤ 3072) (hj : j + 6 ≤ L) (h1 : jm_384 Q (0 + 1) ((xs (Int.toNat ((j : Int) + 1))).toInt) ((xs (Int.toNat ((j : Int) + 2))).toInt) (sp_nz ((xs (Int.toNat ((j : Int) + 3))).toInt)) (723 + 1) S = some (c, S1)) (h2 : jm_352 Q ((xs (Int.toNat ((j : Int) + 1))).toInt) ((xs (Int.toNat ((j : Int) + 2))).toInt) (sp_nz ((xs (Int.toNat ((j : Int) + 3))).toInt)) S1 = some (b, S2)) (hk : S2.1 621 0 = c) (ho : c = 0 → S2.2.1 723 0 = ev_i2l b) : ja_1580 Q L xs (j : Int) K S = K S2 := by
  have q := la_cmp (Q := Q) (K := K) hk ho
  simp only [sp_b, sp_jn] at q
  unfold sp_nz at h1 h2
  unfold ja_1580
  simp (disch := omega) only [sp_ck, sp_if, sp_b, sp_jn]
  by_cases hx : ((xs (Int.toNat ((j : Int) + 3))).toInt) = 0
  · rw [if_pos hx] at h1 h2
    simp only [if_pos hx]
    rw [h1, sp_bd, h2, sp_bd]
    exact q
  · rw [if_neg hx] at h1 h2
    simp only [if_neg hx]
    rw [h1, sp_bd, h2, sp_bd]
    exact q
theorem la_29 {Q L j : Nat} {xs : Nat → Int32} {K : ev_St → Option (Int × ev_St)} {S S1 S2 : ev_St} {c b : Int} (hL : L ≤ 3072) (hj : j + 6 ≤ L) (h1 : jm_392 Q (0 + 1) ((xs (Int.toNat ((j : Int) + 1))).toInt) (sp_nz ((xs (Int.toNat ((j : Int) + 2))).toInt)) (723 + 1) S = some (c, S1)) (h2 : jm_321 Q ((xs (Int.toNat ((j : Int) + 1))).toInt) (sp_nz ((xs (Int.toNat ((j : Int) + 2))).toInt)) S1 = some (b, S2)) (hk : S2.1 621 0 = c) (ho : c = 0 → S2.2.1 723 0 = ev_i2l b) : ja_2020 Q L xs (j : Int) K S = K S2 := by
  have q := la_cmp (Q := Q) (K := K) hk ho
  simp only [sp_b, sp_jn] at q
  unfold sp_nz at h1 h2
  unfold ja_2020
  simp (disch := omega) only [sp_ck, sp_if, sp_b, sp_jn]
  by_cases hx : ((xs (Int.toNat ((j : Int) + 2))).toInt) = 0
  · rw [if_pos hx] at h1 h2
    simp only [if_pos hx]
    rw [h1, sp_bd, h2, sp_bd]
    exact q
  · rw [if_neg hx] at h1 h2
    simp only [if_neg hx]
    rw [h1, sp_bd, h2, sp_bd]
    exact q
theorem lw_21_ok {Q : Nat} (a0 : Int) (a1 : Int) (a2 : Int) {S S1 : ev_St} {v : Int} (h : jm_187 Q a0 a1 a2 S = some (.inl v, S1)) : jm_384 Q (0 + 1) a0 a1 a2 (723 + 1) S = some (0, ev_pL S1 723 0 (ev_i2l v)) := by
  unfold jm_384
  rw [sp_if (by decide), h, sp_bxl, sp_b, sp_if (by decide), sp_if (by rw [show (723 + 1 - 1 : Nat) = 723 from rfl, sp_aln723]; decide)]
  rfl
theorem lw_21_x0 {Q : Nat} (a0 : Int) (a1 : Int) (a2 : Int) {S S1 : ev_St} (h : jm_187 Q a0 a1 a2 S = some (.inr "java/lang/IndexOutOfBoundsException", S1)) : jm_384 Q (0 + 1) a0 a1 a2 (723 + 1) S = some (1, S1) := by
  unfold jm_384
  rw [sp_if (by decide), h, sp_bxr, if_pos rfl]
theorem lw_21_x1 {Q : Nat} (a0 : Int) (a1 : Int) (a2 : Int) {S S1 : ev_St} (h : jm_187 Q a0 a1 a2 S = some (.inr "java/lang/IllegalStateException", S1)) : jm_384 Q (0 + 1) a0 a1 a2 (723 + 1) S = some (2, S1) := by
  unfold jm_384
  rw [sp_if (by decide), h, sp_bxr, if_neg (by decide), if_pos rfl]
theorem lw_29_ok {Q : Nat} (a0 : Int) (a1 : Int) {S S1 : ev_St} {v : Int} (h : jm_195 Q a0 a1 S = some (.inl v, S1)) : jm_392 Q (0 + 1) a0 a1 (723 + 1) S = some (0, ev_pL S1 723 0 (ev_i2l v)) := by
  unfold jm_392
  rw [sp_if (by decide), h, sp_bxl, sp_b, sp_if (by decide), sp_if (by rw [show (723 + 1 - 1 : Nat) = 723 from rfl, sp_aln723]; decide)]
  rfl
theorem lw_29_x0 {Q : Nat} (a0 : Int) (a1 : Int) {S S1 : ev_St} (h : jm_195 Q a0 a1 S = some (.inr "java/lang/IndexOutOfBoundsException", S1)) : jm_392 Q (0 + 1) a0 a1 (723 + 1) S = some (1, S1) := by
  unfold jm_392
  rw [sp_if (by decide), h, sp_bxr, if_pos rfl]
theorem lw_29_x1 {Q : Nat} (a0 : Int) (a1 : Int) {S S1 : ev_St} (h : jm_195 Q a0 a1 S = some (.inr "java/lang/IllegalStateException", S1)) : jm_392 Q (0 + 1) a0 a1 (723 + 1) S = some (2, S1) := by
  unfold jm_392
  rw [sp_if (by decide), h, sp_bxr, if_neg (by decide), if_pos rfl]
