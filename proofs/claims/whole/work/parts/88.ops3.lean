/-! buffers and marks: sign, place, mark -/
/-- the buffers' texts are the same on both sides -/
def sp_BR (S : ev_St) : Prop := ∀ b : Nat, b < 3 → 0 ≤ S.1 (263 + 2 * b) 1 ∧ S.1 (263 + 2 * b) 1 ≤ 160 ∧ S.1 707 b = S.1 (263 + 2 * b) 1 ∧ ∀ g : Nat, (g : Int) < S.1 (263 + 2 * b) 1 → S.1 708 (200 * b + g) = S.1 (263 + 2 * b + 1) g ∧ 0 ≤ S.1 (263 + 2 * b + 1) g ∧ S.1 (263 + 2 * b + 1) g < 127
/-- so are the marks -/
def sp_MR (S : ev_St) : Prop := 0 ≤ S.1 254 4 ∧ S.1 254 4 ≤ 12 ∧ S.1 621 121 = S.1 254 4 ∧ ∀ g : Nat, (g : Int) < S.1 254 4 → S.1 709 g = S.1 256 g ∧ S.1 711 g = S.1 257 g ∧ S.1 710 g = S.1 258 g ∧ (0 ≤ S.1 256 g ∧ S.1 256 g < 3) ∧ (S.1 257 g = 0 ∨ S.1 257 g = 1) ∧ 0 ≤ S.1 258 g ∧ S.1 258 g ≤ S.1 (263 + 2 * (S.1 256 g).toNat) 1
theorem sp_buf : ∀ b : Nat, b < 3 → ev_isOb (263 + 2 * b) 10 = true
  | 0, _ => by decide +kernel
  | 1, _ => by decide +kernel
  | 2, _ => by decide +kernel
  | b + 3, h => by omega
theorem sp_char127 : ∀ k : Fin 127, ev_i2c ((k.1 : Nat) : Int) = ((k.1 : Nat) : Int) ∧ ev_retOk .char (.int (Int32.ofInt ((k.1 : Nat) : Int))) = true := by decide +kernel
theorem sp_char {x : Int} (h : 0 ≤ x ∧ x < 127) : ev_i2c x = x ∧ ev_retOk .char (.int (Int32.ofInt x)) = true := by
  have e : x = ((x.toNat : Nat) : Int) := by omega
  rw [e]
  exact sp_char127 ⟨x.toNat, by omega⟩
theorem sp_185_ok {Q : Nat} {a p : Int} {S : ev_St} (hB : sp_BR S) (h : 0 ≤ a ∧ a < 3) (hp : 0 ≤ p ∧ p < S.1 (263 + 2 * a.toNat) 1) : jm_185 Q a p S = some (.inl (S.1 (263 + 2 * a.toNat + 1) p.toNat), S) := by
  obtain ⟨b1, b2, b3, b4⟩ := hB a.toNat (by omega)
  have b5 := (b4 p.toNat (by omega)).2
  unfold jm_185
  rw [sp_1, sp_bd, if_pos h, if_neg (by omega), if_neg (by omega), show 263 + 2 * a.toNat + 1 - 1 = 263 + 2 * a.toNat from rfl, sp_b, if_pos hp.2, sp_151 (sp_buf _ (by omega)) b2, sp_bd, sp_b]
  unfold sp_at
  rw [if_pos hp, (sp_char b5).1, sp_if (sp_char b5).2]
theorem sp_185_no {Q : Nat} {a p : Int} {S : ev_St} (h : ¬ ((0 ≤ a ∧ a < 3) ∧ 0 ≤ p ∧ p < S.1 (263 + 2 * a.toNat) 1)) : jm_185 Q a p S = some (.inr "java/lang/IndexOutOfBoundsException", ev_tick S) := by
  unfold jm_185
  rw [sp_1, sp_bd]
  by_cases h1 : 0 ≤ a ∧ a < 3
  · rw [if_pos h1, if_neg (by omega)]
    by_cases h2 : p < 0
    · rw [if_pos h2]
    · rw [if_neg h2, show 263 + 2 * a.toNat + 1 - 1 = 263 + 2 * a.toNat from rfl, sp_b, if_neg (fun q => h ⟨h1, by omega, q⟩)]
  · rw [if_neg h1, if_pos rfl]
theorem sp_aln708 : ev_aln 708 = 600 := by decide +kernel
theorem sp_in_1 {b : Int} (h : 0 ≤ b ∧ b < 3) : sp_in b 0 2 = 1 := by
  unfold sp_in
  rw [if_neg (by omega), if_neg (by omega)]
theorem sp_in_0 {b : Int} (h : ¬ (0 ≤ b ∧ b < 3)) : sp_in b 0 2 = 0 := by
  unfold sp_in
  split
  · rfl
  · rw [if_pos (by omega)]
theorem sp_348_ok {Q : Nat} {a p : Int} {S : ev_St} (hB : sp_BR S) (h : 0 ≤ a ∧ a < 3) (hp : 0 ≤ p ∧ p < S.1 (263 + 2 * a.toNat) 1) : jm_348 Q a p S = some (S.1 (263 + 2 * a.toNat + 1) p.toNat, ev_pI S 621 0 0) := by
  obtain ⟨b1, b2, b3, b4⟩ := hB a.toNat (by omega)
  have b5 := b4 p.toNat (by omega)
  have e1 : sp_in p 0 (S.1 707 a.toNat - 1) = 1 := by
    unfold sp_in
    rw [if_neg (by omega), if_neg (by omega)]
  unfold jm_348
  rw [sp_325, sp_bd, sp_in_1 h]
  simp only [sp_jn]
  rw [if_neg (by decide), sp_if (by rw [sp_aln707]; omega), sp_b, sp_ck (by omega), sp_222, sp_bd, e1, if_neg (by decide), sp_b, sp_b, if_pos (by simp [sp_pI1]), sp_ck (by omega), sp_ck (by omega), sp_if (by rw [sp_aln708]; omega), sp_b, sp_b]
  have e2 : (ev_pI S 621 0 0).1 708 (Int.toNat (200 * a + p)) = S.1 (263 + 2 * a.toNat + 1) p.toNat := by
    rw [sp_pI1, if_neg (by simp), show Int.toNat (200 * a + p) = 200 * a.toNat + p.toNat from by omega]
    exact b5.1
  rw [e2, (sp_char b5.2).1, sp_if (sp_char b5.2).2]
theorem sp_348_no {Q : Nat} {a p : Int} {S : ev_St} (hB : sp_BR S) (h : ¬ ((0 ≤ a ∧ a < 3) ∧ 0 ≤ p ∧ p < S.1 (263 + 2 * a.toNat) 1)) : jm_348 Q a p S = some (32, ev_pI S 621 0 1) := by
  unfold jm_348
  rw [sp_325, sp_bd]
  simp only [sp_jn]
  by_cases h1 : 0 ≤ a ∧ a < 3
  · obtain ⟨b1, b2, b3, b4⟩ := hB a.toNat (by omega)
    have e1 : sp_in p 0 (S.1 707 a.toNat - 1) = 0 := by
      unfold sp_in
      split
      · rfl
      · rw [if_pos]
        have := fun q => h ⟨h1, q⟩
        omega
    rw [sp_in_1 h1, if_neg (by decide), sp_if (by rw [sp_aln707]; omega), sp_b, sp_ck (by omega), sp_222, sp_bd, e1, if_pos rfl, sp_b, sp_b, if_neg (by simp [sp_pI1]), sp_if (sp_char (x := 32) (by decide)).2]
  · rw [sp_in_0 h1, if_pos rfl, sp_b, sp_b, if_neg (by simp [sp_pI1]), sp_if (sp_char (x := 32) (by decide)).2]
theorem sp_188_ok {Q : Nat} {a : Int} {S : ev_St} (hM : sp_MR S) (h : 0 ≤ a ∧ a < S.1 254 4) : jm_188 Q a S = some (.inl (S.1 258 a.toNat), S) := by
  obtain ⟨b1, b2, b3, b4⟩ := hM
  have e : ev_aln 258 = 12 := by decide +kernel
  unfold jm_188
  rw [if_neg (by omega), sp_b, if_neg (by omega), if_pos (by omega), sp_if (by rw [e]; omega), sp_b]
theorem sp_188_no {Q : Nat} {a : Int} {S : ev_St} (h : ¬ (0 ≤ a ∧ a < S.1 254 4)) : jm_188 Q a S = some (.inr "java/lang/IndexOutOfBoundsException", ev_tick S) := by
  unfold jm_188
  by_cases h1 : a < 0
  · rw [if_pos h1]
  · rw [if_neg h1, sp_b, if_pos (by omega)]
theorem sp_353_ok {Q : Nat} {a : Int} {S : ev_St} (hM : sp_MR S) (h : 0 ≤ a ∧ a < S.1 254 4) : jm_353 Q a S = some (S.1 258 a.toNat, ev_pI S 621 0 0) := by
  obtain ⟨b1, b2, b3, b4⟩ := hM
  have b5 := (b4 a.toNat (by omega)).2.2.1
  have e : ev_aln 710 = 12 := by decide +kernel
  have e1 : sp_in a 0 ((ev_pI S 621 0 0).1 621 121 - 1) = 1 := by
    unfold sp_in
    rw [if_neg (by omega), if_neg (by simp [sp_pI1]; omega)]
  unfold jm_353
  rw [sp_b, sp_b, sp_ck (by simp [sp_pI1]; omega), sp_222, sp_bd, e1, if_neg (by decide), sp_if (by rw [e]; omega), sp_b, sp_pI1, if_neg (by simp), b5]
theorem sp_353_no {Q : Nat} {a : Int} {S : ev_St} (hM : sp_MR S) (h : ¬ (0 ≤ a ∧ a < S.1 254 4)) : jm_353 Q a S = some (0, ev_pI (ev_pI S 621 0 0) 621 0 1) := by
  obtain ⟨b1, b2, b3, b4⟩ := hM
  have e0 : (ev_pI S 621 0 0).1 621 121 = S.1 254 4 := by simp [sp_pI1, b3]
  have e1 : sp_in a 0 ((ev_pI S 621 0 0).1 621 121 - 1) = 0 := by
    unfold sp_in
    split
    · rfl
    · rw [if_pos (by rw [e0]; omega)]
  unfold jm_353
  rw [sp_b, sp_b, sp_ck (by rw [e0]; omega), sp_222, sp_bd, e1, if_pos rfl]
  rfl
/-- a mark more -/
def sp_mkC (a p r : Int) (S : ev_St) : ev_St := ev_pI (ev_pI (ev_pI (ev_pI S 256 (S.1 254 4).toNat a) 258 (S.1 254 4).toNat p) 257 (S.1 254 4).toNat r) 254 4 (S.1 254 4 + 1)
def sp_mkR (a p r : Int) (S : ev_St) : ev_St := ev_pI (ev_pI (ev_pI (ev_pI (ev_pI S 621 0 0) 709 (S.1 621 121).toNat a) 710 (S.1 621 121).toNat p) 711 (S.1 621 121).toNat r) 621 121 (S.1 621 121 + 1)
theorem sp_alnM : ev_aln 256 = 12 ∧ ev_aln 257 = 12 ∧ ev_aln 258 = 12 ∧ ev_aln 709 = 12 ∧ ev_aln 710 = 12 ∧ ev_aln 711 = 12 := by decide +kernel
theorem sp_2_ok {Q : Nat} {a p r : Int} {S : ev_St} (hr : r = 0 ∨ r = 1) (h : 0 ≤ S.1 254 4 ∧ S.1 254 4 < 12) : jm_2 Q a p r S = some (S.1 254 4, sp_mkC a p r S) := by
  obtain ⟨l1, l2, l3, _⟩ := sp_alnM
  have hb : ev_bl r := hr
  unfold jm_2 sp_mkC
  simp only [sp_b]
  rw [if_neg (by omega), if_pos h.2, sp_if (by rw [l1]; omega)]
  simp [sp_pI1]
  rw [sp_if (by rw [l3]; omega), sp_if hb, sp_if (by rw [l2]; omega), sp_ck (by omega), sp_ck (by omega)]
  simp
theorem sp_2_no {Q : Nat} {a p r : Int} {S : ev_St} (h : 12 ≤ S.1 254 4) : jm_2 Q a p r S = some (-1, S) := by
  unfold jm_2
  simp only [sp_b]
  rw [if_neg (by omega), if_neg (by omega)]
theorem sp_187_at {Q : Nat} {a p r : Int} {S : ev_St} (h : 0 ≤ a ∧ a < 3) (hp : 0 ≤ p ∧ p ≤ S.1 (263 + 2 * a.toNat) 1) : jm_187 Q a p r S = ev_bd (jm_2 Q a p r S) fun x8 s7 => if x8 ≠ (-1) then (some ((Sum.inl x8 : Int ⊕ String), s7)) else (some (.inr "java/lang/IllegalStateException", ev_tick s7)) := by
  unfold jm_187
  rw [sp_1, sp_bd, if_pos h, if_neg (by omega), if_neg (by omega), show 263 + 2 * a.toNat + 1 - 1 = 263 + 2 * a.toNat from rfl, sp_b, if_pos hp.2]
theorem sp_187_ok {Q : Nat} {a p r : Int} {S : ev_St} (hr : r = 0 ∨ r = 1) (h : 0 ≤ a ∧ a < 3) (hp : 0 ≤ p ∧ p ≤ S.1 (263 + 2 * a.toNat) 1) (hm : 0 ≤ S.1 254 4 ∧ S.1 254 4 < 12) : jm_187 Q a p r S = some (.inl (S.1 254 4), sp_mkC a p r S) := by
  rw [sp_187_at h hp, sp_2_ok hr hm, sp_bd, if_pos (by omega)]
theorem sp_187_full {Q : Nat} {a p r : Int} {S : ev_St} (h : 0 ≤ a ∧ a < 3) (hp : 0 ≤ p ∧ p ≤ S.1 (263 + 2 * a.toNat) 1) (hm : 12 ≤ S.1 254 4) : jm_187 Q a p r S = some (.inr "java/lang/IllegalStateException", ev_tick S) := by
  rw [sp_187_at h hp, sp_2_no hm, sp_bd, if_neg (by decide)]
theorem sp_187_no {Q : Nat} {a p r : Int} {S : ev_St} (h : ¬ ((0 ≤ a ∧ a < 3) ∧ 0 ≤ p ∧ p ≤ S.1 (263 + 2 * a.toNat) 1)) : jm_187 Q a p r S = some (.inr "java/lang/IndexOutOfBoundsException", ev_tick S) := by
  unfold jm_187
  rw [sp_1, sp_bd]
  by_cases h1 : 0 ≤ a ∧ a < 3
  · rw [if_pos h1, if_neg (by omega)]
    by_cases h2 : p < 0
    · rw [if_pos h2]
    · rw [if_neg h2, show 263 + 2 * a.toNat + 1 - 1 = 263 + 2 * a.toNat from rfl, sp_b, if_neg (fun q => h ⟨h1, by omega, q⟩)]
  · rw [if_neg h1, if_pos rfl]
theorem sp_326 {Q : Nat} {a p : Int} {S : ev_St} (hB : sp_BR S) : jm_326 Q a p S = some (if (0 ≤ a ∧ a < 3) ∧ 0 ≤ p ∧ p ≤ S.1 (263 + 2 * a.toNat) 1 then 1 else 0, S) := by
  unfold jm_326
  rw [sp_325, sp_bd]
  by_cases h1 : 0 ≤ a ∧ a < 3
  · obtain ⟨b1, b2, b3, b4⟩ := hB a.toNat (by omega)
    rw [sp_in_1 h1, if_neg (by decide), sp_if (by rw [sp_aln707]; omega), sp_b, sp_222, sp_bd, b3]
    unfold sp_in
    by_cases h2 : p < 0
    · rw [if_pos h2, if_pos rfl, if_neg (by omega)]
    · by_cases h3 : S.1 (263 + 2 * a.toNat) 1 < p
      · rw [if_neg h2, if_pos h3, if_pos rfl, if_neg (by omega)]
      · rw [if_neg h2, if_neg h3, if_neg (by decide), if_pos ⟨h1, by omega, by omega⟩]
  · rw [sp_in_0 h1, if_pos rfl, if_neg (fun q => h1 q.1)]
theorem sp_352_ok {Q : Nat} {a p r : Int} {S : ev_St} (hB : sp_BR S) (hr : r = 0 ∨ r = 1) (h : (0 ≤ a ∧ a < 3) ∧ 0 ≤ p ∧ p ≤ S.1 (263 + 2 * a.toNat) 1) (hm : 0 ≤ S.1 621 121 ∧ S.1 621 121 < 12) : jm_352 Q a p r S = some (S.1 621 121, sp_mkR a p r S) := by
  obtain ⟨_, _, _, l1, l2, l3⟩ := sp_alnM
  have hb : ev_bl r := hr
  have h6 : S.1 621 121 ≠ 12 := by omega
  unfold jm_352 sp_mkR
  rw [sp_326 hB, sp_bd, if_pos h]
  simp only [sp_jn, sp_b]
  rw [if_pos (by decide), if_pos h6]
  simp [sp_pI1]
  rw [sp_if (by rw [l1]; omega), sp_if (by rw [l2]; omega), sp_if hb, sp_if (by rw [l3]; omega), sp_ck (by omega), sp_ck (by omega)]
  simp
theorem sp_352_full {Q : Nat} {a p r : Int} {S : ev_St} (hB : sp_BR S) (h : (0 ≤ a ∧ a < 3) ∧ 0 ≤ p ∧ p ≤ S.1 (263 + 2 * a.toNat) 1) (hm : S.1 621 121 = 12) : jm_352 Q a p r S = some (0, ev_pI S 621 0 2) := by
  unfold jm_352
  rw [sp_326 hB, sp_bd, if_pos h]
  simp only [sp_jn, sp_b]
  rw [if_pos (by decide), if_neg (fun q => q hm)]
  simp [sp_pI1]
theorem sp_352_no {Q : Nat} {a p r : Int} {S : ev_St} (hB : sp_BR S) (h : ¬ ((0 ≤ a ∧ a < 3) ∧ 0 ≤ p ∧ p ≤ S.1 (263 + 2 * a.toNat) 1)) : jm_352 Q a p r S = some (0, ev_pI S 621 0 1) := by
  unfold jm_352
  rw [sp_326 hB, sp_bd, if_neg h]
  simp only [sp_jn, sp_b]
  rw [if_neg (by decide)]
  simp [sp_pI1]
section OPS3
variable {Q L j : Nat} {xs : Nat → Int32} {S : ev_St}
/-- the code of refusal alone -/
def sp_Wc (b g : Nat) : Prop := b = 621 ∧ g = 0
theorem sp_F_ok {v c : Int} : sp_F sp_Wc S (ev_pI (ev_pL S 723 0 (ev_i2l v)) 621 0 c) := by
  refine ⟨fun b g h => ?_, fun b g h => ?_, rfl, rfl, rfl, Nat.le_succ _, Nat.le_add_right _ _⟩
  · rw [sp_pI1, if_neg (show ¬ (b = 621 ∧ g = 0) from h), sp_pL1]
  · rw [sp_pI2, sp_pL2, if_neg (fun q => h q.1)]
theorem sp_F_no {c : Int} : sp_F sp_Wc S (ev_pI (ev_tick S) 621 0 c) := by
  refine ⟨fun b g h => ?_, fun _ _ _ => rfl, rfl, rfl, rfl, Nat.le_refl _, Nat.le_refl _⟩
  rw [sp_pI1, if_neg (show ¬ (b = 621 ∧ g = 0) from h), sp_tick1]
theorem sp_BR_L {y : Int64} (hB : sp_BR S) : sp_BR (ev_pL S 723 0 y) := hB
theorem sp_BR_t (hB : sp_BR S) : sp_BR (ev_tick S) := hB
/-- sign -/
theorem op_19 (hB : sp_BR S) (hL : L ≤ 3072) (hj : j + 6 ≤ L) : ∃ S2, (∀ K, ja_1420 Q L xs (j : Int) K S = K S2) ∧ sp_F sp_Wc S S2 := by
  generalize hA : (xs (Int.toNat ((j : Int) + 1))).toInt = a
  generalize hP : (xs (Int.toNat ((j : Int) + 2))).toInt = p
  by_cases h : (0 ≤ a ∧ a < 3) ∧ 0 ≤ p ∧ p < S.1 (263 + 2 * a.toNat) 1
  · refine ⟨_, fun K => la_19 (c := 0) (b := S.1 (263 + 2 * a.toNat + 1) p.toNat) hL hj (by rw [hA, hP]; exact lw_19_ok a p (sp_185_ok hB h.1 h.2)) (by rw [hA, hP]; exact sp_348_ok (sp_BR_L hB) h.1 h.2) ?_ ?_, sp_F_ok⟩
    · simp [sp_pI1]
    · intro _
      rw [sp_pI2, sp_pL2, if_pos ⟨rfl, rfl⟩]
  · refine ⟨_, fun K => la_19 (c := 1) (b := 32) hL hj (by rw [hA, hP]; exact lw_19_x0 a p (sp_185_no h)) (by rw [hA, hP]; exact sp_348_no (sp_BR_t hB) h) ?_ ?_, sp_F_no⟩
    · simp [sp_pI1]
    · intro q
      cases q
theorem sp_MR_L {y : Int64} (hM : sp_MR S) : sp_MR (ev_pL S 723 0 y) := hM
theorem sp_MR_t (hM : sp_MR S) : sp_MR (ev_tick S) := hM
theorem sp_F_no2 {c d : Int} : sp_F sp_Wc S (ev_pI (ev_pI (ev_tick S) 621 0 c) 621 0 d) := by
  refine ⟨fun b g h => ?_, fun _ _ _ => rfl, rfl, rfl, rfl, Nat.le_refl _, Nat.le_refl _⟩
  rw [sp_pI1, if_neg (show ¬ (b = 621 ∧ g = 0) from h), sp_pI1, if_neg (show ¬ (b = 621 ∧ g = 0) from h), sp_tick1]
/-- place -/
theorem op_22 (hM : sp_MR S) (hL : L ≤ 3072) (hj : j + 6 ≤ L) : ∃ S2, (∀ K, ja_1676 Q L xs (j : Int) K S = K S2) ∧ sp_F sp_Wc S S2 := by
  generalize hA : (xs (Int.toNat ((j : Int) + 1))).toInt = a
  by_cases h : 0 ≤ a ∧ a < S.1 254 4
  · refine ⟨_, fun K => la_22 (c := 0) (b := S.1 258 a.toNat) hL hj (by rw [hA]; exact lw_22_ok a (sp_188_ok hM h)) (by rw [hA]; exact sp_353_ok (sp_MR_L hM) h) ?_ ?_, sp_F_ok⟩
    · simp [sp_pI1]
    · intro _
      rw [sp_pI2, sp_pL2, if_pos ⟨rfl, rfl⟩]
  · refine ⟨_, fun K => la_22 (c := 1) (b := 0) hL hj (by rw [hA]; exact lw_22_x0 a (sp_188_no h)) (by rw [hA]; exact sp_353_no (sp_MR_t hM) h) ?_ ?_, sp_F_no2⟩
    · simp [sp_pI1]
    · intro q
      cases q
/-- size -/
theorem op_18 (hB : sp_BR S) (hL : L ≤ 3072) (hj : j + 6 ≤ L) : ∃ S2, (∀ K, ja_1364 Q L xs (j : Int) K S = K S2) ∧ sp_F sp_Wc S S2 := by
  by_cases h : 0 ≤ (xs (Int.toNat ((j : Int) + 1))).toInt ∧ (xs (Int.toNat ((j : Int) + 1))).toInt < 3
  · obtain ⟨b1, b2, b3, b4⟩ := hB _ (show ((xs (Int.toNat ((j : Int) + 1))).toInt).toNat < 3 by omega)
    exact ⟨_, fun K => op_18_ok h b3.symm hL hj K, sp_F_ok⟩
  · exact ⟨_, fun K => op_18_no h hL hj K, sp_F_no2⟩
def sp_Wm (b g : Nat) : Prop := (b = 621 ∧ g = 0) ∨ b = 256 ∨ b = 257 ∨ b = 258 ∨ (b = 254 ∧ g = 4) ∨ b = 709 ∨ b = 710 ∨ b = 711 ∨ (b = 621 ∧ g = 121)
theorem sp_mkC_f {a p r : Int} {b g : Nat} (h : ¬ sp_Wm b g) : (sp_mkC a p r S).1 b g = S.1 b g := by
  unfold sp_Wm at h
  unfold sp_mkC
  simp only [sp_pI1]
  rw [if_neg (by omega), if_neg (by omega), if_neg (by omega), if_neg (by omega)]
theorem sp_mkR_f {a p r : Int} {b g : Nat} (h : ¬ sp_Wm b g) : (sp_mkR a p r S).1 b g = S.1 b g := by
  unfold sp_Wm at h
  unfold sp_mkR
  simp only [sp_pI1]
  rw [if_neg (by omega), if_neg (by omega), if_neg (by omega), if_neg (by omega), if_neg (by omega)]
/-- a frame that leaves the buffers alone keeps them -/
theorem sp_BR_F {W : Nat → Nat → Prop} {S2 : ev_St} (hB : sp_BR S) (hF : sp_F W S S2) (h1 : ∀ b g, b < 3 → ¬ W (263 + 2 * b) g) (h2 : ∀ b g, b < 3 → ¬ W (263 + 2 * b + 1) g) (h3 : ∀ g, ¬ W 707 g) (h4 : ∀ g, ¬ W 708 g) : sp_BR S2 := fun b hb => by
  obtain ⟨b1, b2, b3, b4⟩ := hB b hb
  obtain ⟨f, _⟩ := hF
  rw [f _ 1 (h1 b 1 hb), f 707 b (h3 b)]
  refine ⟨b1, b2, b3, fun g hg => ?_⟩
  rw [f 708 _ (h4 _), f _ g (h2 b g hb)]
  exact b4 g hg
theorem sp_MR_F {W : Nat → Nat → Prop} {S2 : ev_St} (hM : sp_MR S) (hF : sp_F W S S2) (h0 : ¬ W 254 4) (h1 : ¬ W 621 121) (h2 : ∀ b g, 256 ≤ b ∧ b ≤ 258 → ¬ W b g) (h3 : ∀ b g, 709 ≤ b ∧ b ≤ 711 → ¬ W b g) (h4 : ∀ b, b < 3 → ¬ W (263 + 2 * b) 1) : sp_MR S2 := by
  obtain ⟨b1, b2, b3, b4⟩ := hM
  obtain ⟨f, _⟩ := hF
  unfold sp_MR
  rw [f 254 4 h0, f 621 121 h1]
  refine ⟨b1, b2, b3, fun g hg => ?_⟩
  have q := b4 g hg
  rw [f 709 g (h3 _ _ (by omega)), f 710 g (h3 _ _ (by omega)), f 711 g (h3 _ _ (by omega)), f 256 g (h2 _ _ (by omega)), f 257 g (h2 _ _ (by omega)), f 258 g (h2 _ _ (by omega)), f _ 1 (h4 _ (by omega))]
  exact q
theorem sp_DR_F {W : Nat → Nat → Prop} {S2 : ev_St} (hD : sp_DR S) (hF : sp_F W S S2) (h0 : ¬ W 1 1) (h1 : ¬ W 621 1) (h2 : ∀ g, ¬ W 2 g) (h3 : ∀ g, ¬ W 622 g) : sp_DR S2 := by
  obtain ⟨d1, d2, d3, d4⟩ := hD
  obtain ⟨f, _⟩ := hF
  unfold sp_DR
  rw [f 1 1 h0, f 621 1 h1]
  refine ⟨d1, d2, d3, fun g hg => ?_⟩
  rw [f 622 g (h3 g), f 2 g (h2 g)]
  exact d4 g hg
theorem sp_nz01 (x : Int) : sp_nz x = 0 ∨ sp_nz x = 1 := by
  unfold sp_nz
  split
  · exact Or.inl rfl
  · exact Or.inr rfl
/-- mark -/
theorem op_21 (hB : sp_BR S) (hM : sp_MR S) (hL : L ≤ 3072) (hj : j + 6 ≤ L) : ∃ S2, (∀ K, ja_1580 Q L xs (j : Int) K S = K S2) ∧ sp_MR S2 ∧ sp_F sp_Wm S S2 := by
  generalize hA : (xs (Int.toNat ((j : Int) + 1))).toInt = a
  generalize hP : (xs (Int.toNat ((j : Int) + 2))).toInt = p
  have hr := sp_nz01 (xs (Int.toNat ((j : Int) + 3))).toInt
  generalize hR : sp_nz (xs (Int.toNat ((j : Int) + 3))).toInt = r at hr
  have hM0 := hM
  obtain ⟨m1, m2, m3, m4⟩ := hM
  have up : ∀ S2, sp_F sp_Wc S S2 → sp_F sp_Wm S S2 := fun S2 h => ⟨fun b g hw => h.1 b g (fun q => hw (Or.inl q)), h.2⟩
  have keep : ∀ S2, sp_F sp_Wc S S2 → sp_MR S2 := fun S2 h => sp_MR_F hM0 h (by simp [sp_Wc]) (by simp [sp_Wc]) (fun b g hb q => by have := q.1; omega) (fun b g hb q => by have := q.1; omega) (fun b hb q => by have := q.1; omega)
  by_cases h : (0 ≤ a ∧ a < 3) ∧ 0 ≤ p ∧ p ≤ S.1 (263 + 2 * a.toNat) 1
  · by_cases hm : S.1 254 4 < 12
    · have e1 := sp_187_ok (Q := Q) hr h.1 h.2 ⟨m1, hm⟩
      have fC : ∀ b g, ¬ sp_Wm b g → (ev_pL (sp_mkC a p r S) 723 0 (ev_i2l (S.1 254 4))).1 b g = S.1 b g := fun b g w => by
        rw [sp_pL1, sp_mkC_f w]
      have hB1 : sp_BR (ev_pL (sp_mkC a p r S) 723 0 (ev_i2l (S.1 254 4))) := sp_BR_F (W := sp_Wm) hB ⟨fC, fun b g w => by rw [sp_pL2, if_neg (fun q => w q.1)]; rfl, rfl, rfl, rfl, Nat.le_succ _, Nat.le_add_right _ _⟩ (fun b g hb q => by unfold sp_Wm at q; omega) (fun b g hb q => by unfold sp_Wm at q; omega) (fun g q => by unfold sp_Wm at q; omega) (fun g q => by unfold sp_Wm at q; omega)
      have c1 : (ev_pL (sp_mkC a p r S) 723 0 (ev_i2l (S.1 254 4))).1 621 121 = S.1 254 4 := by
        unfold sp_mkC
        simp [sp_pI1, sp_pL1, m3]
      have c2 : (ev_pL (sp_mkC a p r S) 723 0 (ev_i2l (S.1 254 4))).1 (263 + 2 * a.toNat) 1 = S.1 (263 + 2 * a.toNat) 1 := fC _ _ (fun q => by unfold sp_Wm at q; omega)
      have e2 := sp_352_ok (Q := Q) hB1 hr (a := a) (p := p) (by rw [c2]; exact h) (by rw [c1]; exact ⟨m1, hm⟩)
      refine ⟨sp_mkR a p r (ev_pL (sp_mkC a p r S) 723 0 (ev_i2l (S.1 254 4))), fun K => la_21 (c := 0) (b := S.1 254 4) hL hj (by rw [hA, hP, hR]; exact lw_21_ok a p r e1) (by rw [hA, hP, hR, e2, c1]) ?_ ?_, ?_, ?_⟩
      · unfold sp_mkR
        simp [sp_pI1]
      · intro _
        unfold sp_mkR
        simp [sp_pI2, sp_pL2]
      · have n0 : ∀ g : Nat, (sp_mkR a p r (ev_pL (sp_mkC a p r S) 723 0 (ev_i2l (S.1 254 4)))).1 709 g = (if g = (S.1 254 4).toNat then a else S.1 709 g) ∧ (sp_mkR a p r (ev_pL (sp_mkC a p r S) 723 0 (ev_i2l (S.1 254 4)))).1 711 g = (if g = (S.1 254 4).toNat then r else S.1 711 g) ∧ (sp_mkR a p r (ev_pL (sp_mkC a p r S) 723 0 (ev_i2l (S.1 254 4)))).1 710 g = (if g = (S.1 254 4).toNat then p else S.1 710 g) ∧ (sp_mkR a p r (ev_pL (sp_mkC a p r S) 723 0 (ev_i2l (S.1 254 4)))).1 256 g = (if g = (S.1 254 4).toNat then a else S.1 256 g) ∧ (sp_mkR a p r (ev_pL (sp_mkC a p r S) 723 0 (ev_i2l (S.1 254 4)))).1 257 g = (if g = (S.1 254 4).toNat then r else S.1 257 g) ∧ (sp_mkR a p r (ev_pL (sp_mkC a p r S) 723 0 (ev_i2l (S.1 254 4)))).1 258 g = (if g = (S.1 254 4).toNat then p else S.1 258 g) := fun g => by
          unfold sp_mkR
          rw [c1]
          unfold sp_mkC
          simp [sp_pI1, sp_pL1]
        have n1 : (sp_mkR a p r (ev_pL (sp_mkC a p r S) 723 0 (ev_i2l (S.1 254 4)))).1 254 4 = S.1 254 4 + 1 := by
          unfold sp_mkR sp_mkC
          simp [sp_pI1, sp_pL1]
        have n2 : (sp_mkR a p r (ev_pL (sp_mkC a p r S) 723 0 (ev_i2l (S.1 254 4)))).1 621 121 = S.1 254 4 + 1 := by
          unfold sp_mkR
          rw [c1]
          simp [sp_pI1]
        have n3 : ∀ b, b < 3 → (sp_mkR a p r (ev_pL (sp_mkC a p r S) 723 0 (ev_i2l (S.1 254 4)))).1 (263 + 2 * b) 1 = S.1 (263 + 2 * b) 1 := fun b hb => by
          have w : ¬ sp_Wm (263 + 2 * b) 1 := fun q => by unfold sp_Wm at q; omega
          rw [sp_mkR_f w, fC _ _ w]
        refine ⟨by omega, by omega, by omega, fun g hg => ?_⟩
        obtain ⟨v1, v2, v3, v4, v5, v6⟩ := n0 g
        rw [v1, v2, v3, v4, v5, v6]
        by_cases hgn : g = (S.1 254 4).toNat
        · simp only [if_pos hgn]
          rw [n3 _ (by omega)]
          exact ⟨trivial, trivial, trivial, h.1, hr, h.2⟩
        · have q := m4 g (by omega)
          simp only [if_neg hgn]
          rw [n3 _ (by omega)]
          exact q
      · refine ⟨fun b g w => by rw [sp_mkR_f w, fC b g w], fun b g w => ?_, rfl, rfl, rfl, Nat.le_succ _, Nat.le_add_right _ _⟩
        unfold sp_mkR
        simp only [sp_pI2, sp_pL2]
        rw [if_neg (fun q => w q.1)]
        rfl
    · refine ⟨_, fun K => la_21 (c := 2) (b := 0) hL hj (by rw [hA, hP, hR]; exact lw_21_x1 a p r (sp_187_full h.1 h.2 (by omega))) (by rw [hA, hP, hR]; exact sp_352_full (sp_BR_t hB) h (show (ev_tick S).1 621 121 = 12 by rw [sp_tick1]; omega)) ?_ ?_, keep _ sp_F_no, up _ sp_F_no⟩
      · simp [sp_pI1]
      · intro q
        cases q
  · refine ⟨_, fun K => la_21 (c := 1) (b := 0) hL hj (by rw [hA, hP, hR]; exact lw_21_x0 a p r (sp_187_no h)) (by rw [hA, hP, hR]; exact sp_352_no (sp_BR_t hB) h) ?_ ?_, keep _ sp_F_no, up _ sp_F_no⟩
    · simp [sp_pI1]
    · intro q
      cases q
end OPS3
