/-! REPLACE: what is asked, and what is recorded -/
section OSI
variable {Q p k t m i j len w s E b c0 G cnt : Nat} {n o0 : Int} {S S1 S2 S' T T1 T2 T' U V C : ev_St} {a c d e f v x y md lim a0 a1 a2 a3 : Int} {D : lg_D}
/-- macros: what was recorded is the same on both sides, and can be played -/
def sp_RM (S : ev_St) : Prop := ∀ g : Nat, (g : Int) < S.1 0 15 + S.1 0 16 → (0 ≤ S.1 311 g ∧ S.1 311 g ≤ 10) ∧ ∀ i : Nat, (i : Int) < S.1 311 g → (S.1 717 (30 * g + 3 * i) = S.1 (305 + g) (3 * i) ∧ S.1 717 (30 * g + 3 * i + 1) = S.1 (305 + g) (3 * i + 1) ∧ S.1 717 (30 * g + 3 * i + 2) = S.1 (305 + g) (3 * i + 2)) ∧ (0 ≤ S.1 (305 + g) (3 * i) ∧ S.1 (305 + g) (3 * i) < S.1 0 5) ∧ (0 ≤ S.1 (305 + g) (3 * i + 1) ∧ S.1 (305 + g) (3 * i + 1) < S.1 0 7) ∧ 1 ≤ S.1 (305 + g) (3 * i + 2) ∧ S.1 (305 + g) (3 * i + 2) ≤ 100
def sp_W20 (c g : Nat) : Prop := (c = 254 ∧ 9 ≤ g ∧ g ≤ 13) ∨ c = 258 ∨ (261 ≤ c ∧ c ≤ 283) ∨ (305 ≤ c ∧ c ≤ 311) ∨ (c = 621 ∧ (g = 0 ∨ (73 ≤ g ∧ g ≤ 105) ∨ g = 113 ∨ g = 125 ∨ g = 126 ∨ g = 128 ∨ g = 130 ∨ g = 131)) ∨ (678 ≤ c ∧ c ≤ 699) ∨ (702 ≤ c ∧ c ≤ 708) ∨ c = 710 ∨ (712 ≤ c ∧ c ≤ 717)
/-- the frame of a replacement -/
def sp_GR (S S2 : ev_St) : Prop := (∀ c g, c < 724 → ¬ sp_W20 c g → S2.1 c g = S.1 c g) ∧ (∀ c g, c ≠ 723 → S2.2.1 c g = S.2.1 c g) ∧ (∀ c g, c ≠ 259 → c ≠ 260 → c ≠ 281 → S2.2.2.1 c g = S.2.2.1 c g) ∧ ev_sC S2 + ev_sN S ≤ ev_sC S + ev_sN S2 + 1 ∧ ev_sZ S2 + 1024 * ev_sN S ≤ ev_sZ S + 1024 * ev_sN S2 + 6
theorem al_mac : (∀ g, g < 6 → ev_aln (305 + 1 * g) = 30) ∧ ev_aln 311 = 6 ∧ ev_aln 716 = 7 ∧ ev_aln 717 = 210 := by decide +kernel
theorem c201 (h : 0 ≤ S.1 0 7 ∧ S.1 0 7 ≤ 8) : jm_201 Q a S = some (if 0 ≤ a ∧ a < S.1 0 7 then 553 + 2 * a.toNat + 1 else 0, S) := by
  unfold jm_201
  by_cases h1 : a < 0
  · rw [if_pos h1, if_neg (by omega)]
  · rw [if_neg h1, sp_b]
    by_cases h2 : S.1 0 7 ≤ a
    · rw [if_pos h2, if_neg (by omega)]
    · rw [if_neg h2, if_neg (by omega), sp_if (by omega), sp_b, if_pos (by omega)]
/-- the class, once all that is asked is there -/
def B186 (Q : Nat) (a0 : Int) (a1 : Int) (a2 : Int) (a3 : Int) (r2 r4 r6 : Nat) (s5 : ev_St) : Option ((Int ⊕ String) × ev_St) := ev_b (s5.1 0 16) fun x12 => ev_jn (fun  (s22 : ev_St) => ev_bd (jm_43 Q r6 s22) fun _ s23 => ev_bd (jm_44 Q ((281 + 1)) r2 r4 a3 s23) fun x25 s24 => if x25 ≠ (-1) then (ev_bd (jm_47 Q ((254 + 1)) a2 s24) fun _ s27 => ev_b (s27.1 0 16) fun x28 => if x28 = 0 then (some ((Sum.inl x25 : Int ⊕ String), s27)) else (ev_bd (jm_206 Q a0 a1 a3 s27) fun _ s30 => some ((Sum.inl x25 : Int ⊕ String), s30))) else (some (.inr "java/lang/IllegalStateException", ev_tick s24))) fun K115 => if x12 = 0 then (K115  s5) else (ev_b (s5.1 0 15) fun x32 => if 6 ≤ x32 then (K115  s5) else (ev_b (s5.1 0 15) fun x34 => ev_if ((0 : Int) ≤ x34 ∧ x34 < (ev_aln 311 : Int)) (ev_b (s5.1 311 (Int.toNat x34)) fun x35 => if x35 < 10 then (K115  s5) else (some (.inr "java/lang/IllegalStateException", ev_tick s5)))))
/-- the reference -/
def B351 (Q : Nat) (a0 : Int) (a1 : Int) (a2 : Int) (a3 : Int) (s11 : ev_St) : Option ((Int) × ev_St) := ev_b (s11.1 621 136) fun x14 => ev_jn (fun  (s21 : ev_St) => ev_bd (jm_288 Q a2 s21) fun _ s22 => ev_bd (jm_349 Q a0 a1 a3 s22) fun x24 s23 => if x24 ≠ (-1) then (ev_bd (jm_350 Q a2 x24 s23) fun _ s26 => ev_bd (jm_345 Q  s26) fun _ s27 => ev_b (s27.1 621 136) fun x28 => if x28 = 0 then (some (x24, s27)) else (ev_b (s27.1 621 135) fun x30 => ev_ck (30 * x30) fun x31 => ev_b (s27.1 621 135) fun x32 => ev_if ((0 : Int) ≤ x32 ∧ x32 < (ev_aln 716 : Int)) (ev_b (s27.1 716 (Int.toNat x32)) fun x33 => ev_ck (3 * x33) fun x34 => ev_ck (x31 + x34) fun x35 => ev_if ((0 : Int) ≤ x35 ∧ x35 < (ev_aln 717 : Int)) (ev_b (ev_pI s27 717 (Int.toNat x35) a0) fun s36 => ev_ck (x35 + 1) fun x37 => ev_if ((0 : Int) ≤ x37 ∧ x37 < (ev_aln 717 : Int)) (ev_b (ev_pI s36 717 (Int.toNat x37) a1) fun s38 => ev_ck (x35 + 2) fun x39 => ev_if ((0 : Int) ≤ x39 ∧ x39 < (ev_aln 717 : Int)) (ev_b (ev_pI s38 717 (Int.toNat x39) a3) fun s40 => ev_b (s40.1 621 135) fun x41 => ev_if ((0 : Int) ≤ x41 ∧ x41 < (ev_aln 716 : Int)) (ev_b (s40.1 716 (Int.toNat x41)) fun x42 => ev_ck (x42 + 1) fun x43 => ev_if ((0 : Int) ≤ x41 ∧ x41 < (ev_aln 716 : Int)) (ev_b (ev_pI s40 716 (Int.toNat x41) x43) fun s44 => some (x24, s44))))))))) else (ev_bd (jm_221 Q 3 s23) fun x46 s45 => some (x46, s45))) fun K90 => if x14 = 0 then (K90  s11) else (ev_b (s11.1 621 135) fun x48 => ev_if ((0 : Int) ≤ x48 ∧ x48 < (ev_aln 716 : Int)) (ev_b (s11.1 716 (Int.toNat x48)) fun x49 => if x49 ≠ 10 then (K90  s11) else (ev_bd (jm_221 Q 3 s11) fun x52 s51 => some (x52, s51))))
theorem c186 (hK : sp_PT S) (h7 : 0 ≤ S.1 0 7 ∧ S.1 0 7 ≤ 8) : (((0 ≤ a0 ∧ a0 < S.1 0 5) ∧ (0 ≤ a1 ∧ a1 < S.1 0 7) ∧ 0 ≤ a2 ∧ a2 < 3) → (1 ≤ a3 ∧ a3 ≤ 100) → jm_186 Q a0 a1 a2 a3 S = B186 Q a0 a1 a2 a3 (313 + 20 * a0.toNat + 1) (553 + 2 * a1.toNat + 1) (263 + 2 * a2.toNat + 1) S) ∧ (((0 ≤ a0 ∧ a0 < S.1 0 5) ∧ (0 ≤ a1 ∧ a1 < S.1 0 7) ∧ 0 ≤ a2 ∧ a2 < 3) → ¬ (1 ≤ a3 ∧ a3 ≤ 100) → jm_186 Q a0 a1 a2 a3 S = some (.inr "java/lang/IllegalArgumentException", ev_tick S)) ∧ (¬ ((0 ≤ a0 ∧ a0 < S.1 0 5) ∧ (0 ≤ a1 ∧ a1 < S.1 0 7) ∧ 0 ≤ a2 ∧ a2 < 3) → jm_186 Q a0 a1 a2 a3 S = some (.inr "java/lang/IndexOutOfBoundsException", ev_tick S)) := by
  have u := sp_200 (Q := Q) (a := a0) hK
  have u2 := c201 (Q := Q) (a := a1) h7
  have u3 := sp_1 (Q := Q) (b := a2) (S := S)
  refine ⟨fun h h3 => ?_, fun h h3 => ?_, fun h => ?_⟩
  · obtain ⟨x1, x2, x3⟩ := h
    rw [if_pos x2] at u2
    rw [if_pos x3] at u3
    unfold jm_186
    rw [u.1 x1, sp_bd, u2, sp_bd, u3, sp_bd, if_neg (by omega), if_neg (by omega), if_neg (by omega), if_neg (by omega), if_pos h3.2]
    rfl
  · obtain ⟨x1, x2, x3⟩ := h
    rw [if_pos x2] at u2
    rw [if_pos x3] at u3
    unfold jm_186
    rw [u.1 x1, sp_bd, u2, sp_bd, u3, sp_bd, if_neg (by omega), if_neg (by omega), if_neg (by omega)]
    by_cases z : a3 < 1
    · rw [if_pos z]
    · rw [if_neg z, if_neg (by omega)]
  · unfold jm_186
    by_cases x1 : 0 ≤ a0 ∧ a0 < S.1 0 5
    · rw [u.1 x1, sp_bd, u2, sp_bd, u3, sp_bd, if_neg (by omega)]
      by_cases x2 : 0 ≤ a1 ∧ a1 < S.1 0 7
      · rw [if_pos x2, if_neg (by omega), if_neg (show ¬ (0 ≤ a2 ∧ a2 < 3) from fun z => h ⟨x1, x2, z⟩), if_pos rfl]
      · rw [if_neg x2, if_pos rfl]
    · rw [u.2 x1, sp_bd, u2, sp_bd, u3, sp_bd, if_pos rfl]
theorem r351 {np nt : Int} (h5 : T.1 621 5 = np) (hp : 0 ≤ np ∧ np ≤ 12) (h110 : T.1 621 110 = nt) (ht : 0 ≤ nt ∧ nt ≤ 8) : (((0 ≤ a0 ∧ a0 < np) ∧ (0 ≤ a1 ∧ a1 < nt) ∧ 0 ≤ a2 ∧ a2 < 3) → (1 ≤ a3 ∧ a3 ≤ 100) → jm_351 Q a0 a1 a2 a3 T = B351 Q a0 a1 a2 a3 (ev_pI T 621 0 0)) ∧ (((0 ≤ a0 ∧ a0 < np) ∧ (0 ≤ a1 ∧ a1 < nt) ∧ 0 ≤ a2 ∧ a2 < 3) → ¬ (1 ≤ a3 ∧ a3 ≤ 100) → jm_351 Q a0 a1 a2 a3 T = some (0, ev_pI T 621 0 2)) ∧ (¬ ((0 ≤ a0 ∧ a0 < np) ∧ (0 ≤ a1 ∧ a1 < nt) ∧ 0 ≤ a2 ∧ a2 < 3) → jm_351 Q a0 a1 a2 a3 T = some (0, ev_pI T 621 0 1)) := by
  have u := c273 (Q := Q) (a := a0) h5 hp
  have i1 : ∀ X : ev_St, jm_222 Q a1 0 (nt - 1) X = some (if 0 ≤ a1 ∧ a1 < nt then 1 else 0, X) := fun X => by
    rw [sp_222e]
    by_cases z : 0 ≤ a1 ∧ a1 < nt
    · rw [if_pos z, if_pos (by omega)]
    · rw [if_neg z, if_neg (by omega)]
  have i2 : ∀ X : ev_St, jm_325 Q a2 X = some (if 0 ≤ a2 ∧ a2 < 3 then 1 else 0, X) := fun X => by
    unfold jm_325
    rw [sp_222e, sp_bd]
    by_cases z : 0 ≤ a2 ∧ a2 < 3
    · rw [if_pos z, if_pos (by omega), sp_if (Or.inr rfl)]
    · rw [if_neg z, if_neg (by omega), sp_if (Or.inl rfl)]
  have i3 : ∀ X : ev_St, jm_222 Q a3 1 100 X = some (if 1 ≤ a3 ∧ a3 ≤ 100 then 1 else 0, X) := fun X => sp_222e
  refine ⟨fun h h3 => ?_, fun h h3 => ?_, fun h => ?_⟩
  · obtain ⟨x1, x2, x3⟩ := h
    unfold jm_351
    rw [u, sp_bd, if_pos x1]
    simp only [sp_jn]
    rw [if_neg (by decide), sp_b, h110, sp_ck (by omega), i1, sp_bd, if_pos x2, if_neg (by decide), i2, sp_bd, if_pos x3, if_pos (by decide), i3, sp_bd, if_pos h3, if_pos (by decide), sp_b, sp_b, rd_eq, if_pos (Int.le_refl 0)]
    rfl
  · obtain ⟨x1, x2, x3⟩ := h
    unfold jm_351
    rw [u, sp_bd, if_pos x1]
    simp only [sp_jn]
    rw [if_neg (by decide), sp_b, h110, sp_ck (by omega), i1, sp_bd, if_pos x2, if_neg (by decide), i2, sp_bd, if_pos x3, if_pos (by decide), i3, sp_bd, if_neg h3, if_neg (fun z => z rfl), sp_b, sp_b, rd_eq, if_neg (by decide)]
  · unfold jm_351
    rw [u, sp_bd]
    simp only [sp_jn]
    by_cases x1 : 0 ≤ a0 ∧ a0 < np
    · rw [if_pos x1, if_neg (by decide), sp_b, h110, sp_ck (by omega), i1, sp_bd]
      by_cases x2 : 0 ≤ a1 ∧ a1 < nt
      · rw [if_pos x2, if_neg (by decide), i2, sp_bd, if_neg (show ¬ (0 ≤ a2 ∧ a2 < 3) from fun z => h ⟨x1, x2, z⟩), if_neg (fun z => z rfl), sp_b, sp_b, rd_eq, if_neg (by decide)]
      · rw [if_neg x2, if_pos rfl, sp_b, sp_b, rd_eq, if_neg (by decide)]
    · rw [if_neg x1, if_pos rfl, sp_b, sp_b, rd_eq, if_neg (by decide)]
/-- the class notes a replacement down -/
theorem c206 (h15 : C.1 0 15 = (G : Int)) (hG : G < 6) (h311 : C.1 311 G = (cnt : Int)) (hc : cnt < 10) : jm_206 Q a0 a1 a2 C = some ((), ev_pI (ev_pI (ev_pI (ev_pI C (305 + G) (3 * cnt) a0) (305 + G) (3 * cnt + 1) a1) (305 + G) (3 * cnt + 2) a2) 311 G ((cnt : Int) + 1)) := by
  obtain ⟨l30, l311, _, _⟩ := al_mac
  have l30 := l30 G hG
  have i15 : ∀ (X : ev_St) (c : Nat) (g : Nat) (v : Int), (ev_pI X (305 + G) g v).1 0 15 = X.1 0 15 := fun X c g v => rd_nk (by omega)
  have e1 : ∀ (X : ev_St) (g : Nat) (v : Int), (ev_pI X (305 + G) g v).1 0 15 = X.1 0 15 := fun X g v => rd_nk (by omega)
  have e2 : ∀ (X : ev_St) (g h : Nat) (v : Int), (ev_pI X (305 + G) g v).1 311 h = X.1 311 h := fun X g h v => rd_nk (by omega)
  unfold jm_206
  simp only [sp_jn]
  rw [sp_b, h15, if_neg (by omega), sp_b, sp_if (by rw [l311]; omega), sp_b, Int.toNat_natCast, h311, sp_ck (by omega), if_neg (by omega), sp_ck (by omega), if_neg (by omega), sp_b, sp_if (by omega), sp_b, sp_if (by rw [Int.toNat_natCast, l30]; omega), sp_b, Int.toNat_natCast, show 305 + 1 * G = 305 + G by omega, sp_b, e1, h15, sp_if (by omega), sp_b, sp_ck (by omega), Int.toNat_natCast, show 305 + 1 * G = 305 + G by omega]
  rw [show 305 + 1 * G = 305 + G by omega] at l30
  rw [sp_if (by rw [l30]; omega), sp_b, sp_b, e1, e1, h15, sp_if (by omega), sp_b, sp_ck (by omega), Int.toNat_natCast, show 305 + 1 * G = 305 + G by omega, sp_if (by rw [l30]; omega), sp_b, sp_b, e1, e1, e1, h15, sp_if (by rw [l311]; omega), sp_b, Int.toNat_natCast, e2, e2, e2, h311, sp_ck (by omega), sp_if (by rw [l311]; omega), sp_b, show (3 * (cnt : Int)).toNat = 3 * cnt by omega, show (3 * (cnt : Int) + 1).toNat = 3 * cnt + 1 by omega, show (3 * (cnt : Int) + 2).toNat = 3 * cnt + 2 by omega]
end OSI
