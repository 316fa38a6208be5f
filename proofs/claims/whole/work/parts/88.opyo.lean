/-! MATCHES, MATCH: the calls, given what one place comes to -/
section OPYO
variable {Q p k w len n m i j L : Nat} {xs : Nat → Int32} {S S0 S1 S2 T T0 T1 T2 U V : ev_St} {B R : ev_St → ev_St → Prop} {a b x y g vc vr : Int}
theorem frR3 {ρ : Type} {r : ρ} {W : List (Nat × Nat × Nat)} {E : Option (ρ × ev_St)} (h : efo W S E) (e : E = some (r, S1)) (hw : W = wl_334 ∨ W = wl_335) : (∀ c g, ¬ (c = 621 ∧ (g = 0 ∨ (73 ≤ g ∧ g ≤ 105))) → ¬ (678 ≤ c ∧ c ≤ 699) → S1.1 c g = S.1 c g) ∧ (∀ c g, S1.2.1 c g = S.2.1 c g) ∧ (∀ c g, S1.2.2.1 c g = S.2.2.1 c g) ∧ S1.2.2.2 = S.2.2.2 := by
  obtain ⟨h1, h2, h3, h4⟩ := h _ _ e
  refine ⟨fun c g y1 y2 => h1 c g (wm_by (C := fun c => decide (678 ≤ c ∧ c ≤ 699)) (D := fun c g => decide (c = 621 ∧ (g = 0 ∨ (73 ≤ g ∧ g ≤ 105)))) ?_ (decide_eq_false y2) (decide_eq_false y1)), fun c g => h2 c g (wm_by (C := fun _ => false) (D := fun _ _ => false) ?_ rfl rfl), fun c g => h3 c g (wm_by (C := fun _ => false) (D := fun _ _ => false) ?_ rfl rfl), h4⟩ <;> rcases hw with rfl | rfl <;> decide
theorem srch15 (hS : HSIM Q S) (hQ : 400 ≤ Q) (hp : (p : Int) < S.1 0 5) (hm : m < 3) (hl : S.1 (263 + 2 * m) 1 = (len : Int)) (hl2 : len ≤ 160) (h7 : S.1 707 m = (len : Int)) : ∃ v S1, jl_181_44 Q (313 + 20 * p + 1) (263 + 2 * m + 1) Q 0 0 0 S = some (.inl v, S1) ∧ CFR S S1 ∧ ∀ T, RFs S T → ∃ T1 T2, jm_288 Q (m : Int) T = some ((), T1) ∧ jl_334_44 Q (p : Int) Q 0 0 T1 = some (v, T2) ∧ T2.1 621 0 = T1.1 621 0 := by
  obtain ⟨B, R, h1, h2⟩ := hS p m len hp hm hl
  have go : ∀ T, RFs S T → ∃ T1, jm_288 Q (m : Int) T = some ((), T1) ∧ B S T1 := fun T hT => by
    obtain ⟨V, v1, v2, v3, v4, v5⟩ := sp_288 (Q := Q) (T := T) hm hl2 (by rw [hT.1 707 m (by omega) (by omega) (by omega) (by omega)]; exact h7) (by omega)
    refine ⟨V, v1, h2 S V ⟨fun _ _ _ _ => rfl, fun _ _ _ => rfl, fun _ _ _ => rfl⟩ ⟨fun c g y1 y2 y3 y4 => ?_, fun c g y => ?_⟩ v2 (fun i hi => ?_)⟩
    · rw [v4 c g (by omega) (by omega), hT.1 c g y1 y2 y3 y4]
    · rw [v5, hT.2 c g y]
    · rw [v3 i hi, hT.1 _ _ (by omega) (by omega) (by omega) (by omega)]
  obtain ⟨T0, t1, t2⟩ := go S ⟨fun _ _ _ _ _ _ => rfl, fun _ _ _ => rfl⟩
  have rn : ∀ T1, B S T1 → _ := fun T1 z => run_cnt h1 hl2 hQ 161 Q Q 0 0 0 S T1 z (Int.le_refl 0) (Int.le_refl 0) (by omega) (Int.le_refl 0) (Int.le_refl 0) (by omega) (by omega) (by omega)
  obtain ⟨v, S1, T2, s1, s2, s3, s4⟩ := rn T0 t2
  refine ⟨v, S1, s1, s3, fun T hT => ?_⟩
  obtain ⟨U1, u1, u2⟩ := go T hT
  obtain ⟨v', S1', T2', w1, w2, w3, w4⟩ := rn U1 u2
  have e : v' = v := Sum.inl.inj (congrArg Prod.fst (Option.some.inj (w1.symm.trans s1)))
  rw [if_pos (by omega), e] at w2
  exact ⟨U1, T2', u1, w2, w4⟩
theorem srch16 (hS : HSIM Q S) (hQ : 400 ≤ Q) (hp : (p : Int) < S.1 0 5) (hm : m < 3) (hl : S.1 (263 + 2 * m) 1 = (len : Int)) (hl2 : len ≤ 160) (h7 : S.1 707 m = (len : Int)) : ∃ S1, CFR S S1 ∧ ((∃ v, jl_182_47 Q y (313 + 20 * p + 1) (263 + 2 * m + 1) Q 0 0 S = some (.inl v, S1) ∧ ∀ T, RFs S T → ∃ T1 T2, jm_288 Q (m : Int) T = some ((), T1) ∧ jl_335_49 Q (p : Int) y Q 0 0 T1 = some (v, T2) ∧ T2.1 621 0 = T1.1 621 0) ∨ (jl_182_47 Q y (313 + 20 * p + 1) (263 + 2 * m + 1) Q 0 0 S = some (.inr "java/lang/IndexOutOfBoundsException", ev_tick S1) ∧ ∀ T, RFs S T → ∃ T1 T2, jm_288 Q (m : Int) T = some ((), T1) ∧ jl_335_49 Q (p : Int) y Q 0 0 T1 = some (0, ev_pI T2 621 0 1))) := by
  obtain ⟨B, R, h1, h2⟩ := hS p m len hp hm hl
  have go : ∀ T, RFs S T → ∃ T1, jm_288 Q (m : Int) T = some ((), T1) ∧ B S T1 := fun T hT => by
    obtain ⟨V, v1, v2, v3, v4, v5⟩ := sp_288 (Q := Q) (T := T) hm hl2 (by rw [hT.1 707 m (by omega) (by omega) (by omega) (by omega)]; exact h7) (by omega)
    refine ⟨V, v1, h2 S V ⟨fun _ _ _ _ => rfl, fun _ _ _ => rfl, fun _ _ _ => rfl⟩ ⟨fun c g y1 y2 y3 y4 => ?_, fun c g y => ?_⟩ v2 (fun i hi => ?_)⟩
    · rw [v4 c g (by omega) (by omega), hT.1 c g y1 y2 y3 y4]
    · rw [v5, hT.2 c g y]
    · rw [v3 i hi, hT.1 _ _ (by omega) (by omega) (by omega) (by omega)]
  obtain ⟨T0, t1, t2⟩ := go S ⟨fun _ _ _ _ _ _ => rfl, fun _ _ _ => rfl⟩
  have rn : ∀ T1, B S T1 → _ := fun T1 z => run_mat (y := y) h1 hl2 hQ 161 Q Q 0 0 S T1 z (Int.le_refl 0) (Int.le_refl 0) (by omega) (by omega) (by omega) (by omega)
  obtain ⟨S1, T2, s1, s2, s3⟩ := rn T0 t2
  refine ⟨S1, s1, ?_⟩
  rcases s3 with ⟨v, s4, s5⟩ | ⟨s4, s5⟩
  · refine Or.inl ⟨v, s4, fun T hT => ?_⟩
    obtain ⟨U1, u1, u2⟩ := go T hT
    obtain ⟨S1', T2', w1, w2, w3⟩ := rn U1 u2
    rcases w3 with ⟨v', w4, w5⟩ | ⟨w4, w5⟩
    · have e : v' = v := Sum.inl.inj (congrArg Prod.fst (Option.some.inj (w4.symm.trans s4)))
      rw [if_pos (by omega), e] at w5
      exact ⟨U1, T2', u1, w5, w2⟩
    · exact absurd (congrArg Prod.fst (Option.some.inj (w4.symm.trans s4))) (fun z => by cases z)
  · refine Or.inr ⟨s4, fun T hT => ?_⟩
    obtain ⟨U1, u1, u2⟩ := go T hT
    obtain ⟨S1', T2', w1, w2, w3⟩ := rn U1 u2
    rcases w3 with ⟨v', w4, w5⟩ | ⟨w4, w5⟩
    · exact absurd (congrArg Prod.fst (Option.some.inj (w4.symm.trans s4))) (fun z => by cases z)
    · rw [if_pos (by omega)] at w5
      exact ⟨U1, T2', u1, w5⟩
theorem ref_334y (c : jm_273 Q a T = some (1, T)) (hb : 0 ≤ b ∧ b < 3) : jm_334 Q a b T = ev_bd (jm_288 Q b (ev_pI T 621 0 0)) fun _ s12 => jl_334_44 Q a Q 0 0 s12 := by
  unfold jm_334
  rw [c, sp_bd, sp_jn, sp_jn, if_neg (by decide), sp_325b, sp_bd, if_pos hb, if_neg (by decide)]
  try dsimp only
  rw [sp_b, sp_b, rd_eq, if_pos (Int.le_refl 0)]
theorem ref_334n {n : Int} (c : jm_273 Q a T = some (if 0 ≤ a ∧ a < n then 1 else 0, T)) (h : ¬ ((0 ≤ a ∧ a < n) ∧ 0 ≤ b ∧ b < 3)) : jm_334 Q a b T = some (0, ev_pI T 621 0 1) := by
  unfold jm_334
  rw [c, sp_bd, sp_jn, sp_jn]
  by_cases ha : 0 ≤ a ∧ a < n
  · rw [if_pos ha, if_neg (by decide), sp_325b, sp_bd, if_neg (fun z => h ⟨ha, z⟩), if_pos rfl]
    try dsimp only
    rw [sp_b, sp_b, rd_eq, if_neg (by decide)]
  · rw [if_neg ha, if_pos rfl]
    try dsimp only
    rw [sp_b, sp_b, rd_eq, if_neg (by decide)]
theorem ref_335y (c : jm_273 Q a T = some (1, T)) (hb : 0 ≤ b ∧ b < 3) (hy : 0 ≤ y) : jm_335 Q a b y T = ev_bd (jm_288 Q b (ev_pI T 621 0 0)) fun _ s13 => jl_335_49 Q a y Q 0 0 s13 := by
  unfold jm_335
  rw [c, sp_bd, sp_jn, sp_jn, if_neg (by decide), sp_325b, sp_bd, if_pos hb, if_neg (by decide), if_neg (by omega)]
  try dsimp only
  rw [sp_b, sp_b, rd_eq, if_pos (Int.le_refl 0)]
theorem ref_335n {n : Int} (c : jm_273 Q a T = some (if 0 ≤ a ∧ a < n then 1 else 0, T)) (h : ¬ ((0 ≤ a ∧ a < n) ∧ (0 ≤ b ∧ b < 3) ∧ 0 ≤ y)) : jm_335 Q a b y T = some (0, ev_pI T 621 0 1) := by
  unfold jm_335
  rw [c, sp_bd, sp_jn, sp_jn]
  by_cases ha : 0 ≤ a ∧ a < n
  · rw [if_pos ha, if_neg (by decide), sp_325b, sp_bd]
    by_cases hb : 0 ≤ b ∧ b < 3
    · rw [if_pos hb, if_neg (by decide), if_pos (show y < 0 from Int.not_le.mp (fun z => h ⟨ha, hb, z⟩))]
      try dsimp only
      rw [sp_b, sp_b, rd_eq, if_neg (by decide)]
    · rw [if_neg hb, if_pos rfl]
      try dsimp only
      rw [sp_b, sp_b, rd_eq, if_neg (by decide)]
  · rw [if_neg ha, if_pos rfl]
    try dsimp only
    rw [sp_b, sp_b, rd_eq, if_neg (by decide)]
theorem sp_181n (hK : sp_PT S) (h : ¬ ((0 ≤ a ∧ a < S.1 0 5) ∧ 0 ≤ b ∧ b < 3)) : jm_181 Q a b S = some (.inr "java/lang/IndexOutOfBoundsException", ev_tick S) := by
  unfold jm_181
  by_cases ha : 0 ≤ a ∧ a < S.1 0 5
  · rw [(sp_200 hK).1 ha, sp_bd, sp_1b.2 (fun z => h ⟨ha, z⟩), sp_bd, if_neg (by omega), if_pos rfl]
  · rw [(sp_200 hK).2 ha, sp_bd]
    by_cases hb : 0 ≤ b ∧ b < 3
    · rw [sp_1b.1 hb, sp_bd, if_pos rfl]
    · rw [sp_1b.2 hb, sp_bd, if_pos rfl]
theorem sp_182n (hK : sp_PT S) (h : ¬ ((0 ≤ a ∧ a < S.1 0 5) ∧ (0 ≤ b ∧ b < 3) ∧ 0 ≤ y)) : jm_182 Q a b y S = some (.inr "java/lang/IndexOutOfBoundsException", ev_tick S) := by
  unfold jm_182
  by_cases ha : 0 ≤ a ∧ a < S.1 0 5
  · by_cases hb : 0 ≤ b ∧ b < 3
    · rw [(sp_200 hK).1 ha, sp_bd, sp_1b.1 hb, sp_bd, if_neg (by omega), if_neg (by omega), if_neg (fun z => h ⟨ha, hb, z⟩)]
    · rw [(sp_200 hK).1 ha, sp_bd, sp_1b.2 hb, sp_bd, if_neg (by omega), if_pos rfl]
  · rw [(sp_200 hK).2 ha, sp_bd]
    by_cases hb : 0 ≤ b ∧ b < 3
    · rw [sp_1b.1 hb, sp_bd, if_pos rfl]
    · rw [sp_1b.2 hb, sp_bd, if_pos rfl]
/-- a state that differs from S in what a search may change on the class's side, and in the refusal's place -/
theorem rfs_of (h : CFR S S1) (hI : ∀ c g, ¬ (c = 621 ∧ g = 0) → U.1 c g = S1.1 c g) (hL : ∀ c g, c ≠ 723 → U.2.1 c g = S1.2.1 c g) : RFs S U := ⟨fun c g y1 y2 y3 y4 => by rw [hI c g (by omega), h.1 c g (by omega)], fun c g y => by rw [hL c g y, h.2.1]⟩
theorem FS_end (h : CFR S S1) (hI : ∀ c g, T.1 c g = S1.1 c g) (hL : ∀ c g, c ≠ 723 → T.2.1 c g = S1.2.1 c g) (hR : T.2.2.1 = S1.2.2.1) (h1 : T.2.2.2.1 = S1.2.2.2.1) (h2 : T.2.2.2.2.1 = S1.2.2.2.2.1) (h3 : T.2.2.2.2.2.1 ≤ S1.2.2.2.2.2.1 + 1) (h4 : T.2.2.2.2.2.2 ≤ S1.2.2.2.2.2.2 + 6) (k : (∀ c g, ¬ (c = 621 ∧ (g = 0 ∨ (73 ≤ g ∧ g ≤ 105))) → ¬ (678 ≤ c ∧ c ≤ 699) → T2.1 c g = T.1 c g) ∧ (∀ c g, T2.2.1 c g = T.2.1 c g) ∧ (∀ c g, T2.2.2.1 c g = T.2.2.1 c g) ∧ T2.2.2.2 = T.2.2.2) : sp_FS S T2 := by
  obtain ⟨f1, f2, f3, f4⟩ := h
  obtain ⟨q1, q2, q3, q4⟩ := k
  refine ⟨fun c g y => ?_, fun c g y => by rw [q2, hL c g y, f2], fun c g y => by rw [q3, hR, f3 c g y], by rw [q4, h1, f4], by rw [q4, h2, f4], by rw [q4, ← f4]; exact h3, by rw [q4, ← f4]; exact h4⟩
  unfold sp_WS at y
  rw [q1 c g (by omega) (by omega), hI, f1 c g (by omega)]
theorem op_15 (hS : HSIM Q S) (hQ : 400 ≤ Q) (hK : sp_PT S) (hB : sp_BR S) (hL : L ≤ 3072) (hj : j + 6 ≤ L) : ∃ S2, (∀ K, ja_1160 Q L xs (j : Int) K S = K S2) ∧ sp_FS S S2 := by
  obtain ⟨a, ha⟩ : ∃ a, a = (xs (Int.toNat ((j : Int) + 1))).toInt := ⟨_, rfl⟩
  obtain ⟨b, hb⟩ : ∃ b, b = (xs (Int.toNat ((j : Int) + 2))).toInt := ⟨_, rfl⟩
  obtain ⟨k1, k2, k3⟩ := hK.1
  by_cases h : (0 ≤ a ∧ a < S.1 0 5) ∧ 0 ≤ b ∧ b < 3
  · have h' := h
    obtain ⟨⟨a1, a2⟩, b1, b2⟩ := h'
    obtain ⟨p, hp⟩ : ∃ p : Nat, a = (p : Int) := ⟨a.toNat, by omega⟩
    obtain ⟨m, hm⟩ : ∃ m : Nat, b = (m : Int) := ⟨b.toNat, by omega⟩
    have hm3 : m < 3 := by omega
    have ap : a.toNat = p := by omega
    have bm : b.toNat = m := by omega
    obtain ⟨c1, c2, c3, _⟩ := hB m hm3
    obtain ⟨len, hl⟩ : ∃ len : Nat, S.1 (263 + 2 * m) 1 = (len : Int) := ⟨(S.1 (263 + 2 * m) 1).toNat, by omega⟩
    obtain ⟨v, S1, s1, s2, s3⟩ := srch15 (Q := Q) hS hQ (show (p : Int) < S.1 0 5 by omega) hm3 hl (by omega) (by omega)
    have cc : jm_181 Q a b S = some (.inl v, S1) := by
      unfold jm_181
      rw [(sp_200 hK).1 ⟨a1, a2⟩, sp_bd, sp_1b.1 ⟨b1, b2⟩, sp_bd, if_neg (by omega), if_neg (by omega), ap, bm, s1]
    obtain ⟨T, hT⟩ : ∃ T, T = ev_pL S1 723 0 (ev_i2l v) := ⟨_, rfl⟩
    have tI : ∀ c g, T.1 c g = S1.1 c g := fun c g => by rw [hT]; rfl
    obtain ⟨U, hU⟩ : ∃ U, U = ev_pI T 621 0 0 := ⟨_, rfl⟩
    have tL : ∀ c g, T.2.1 c g = if c = 723 ∧ g = 0 then ev_i2l v else S1.2.1 c g := fun c g => by rw [hT, sp_pL2]
    obtain ⟨T1, T2, r1, r2, r3⟩ := s3 U (rfs_of s2 (fun c g y => by rw [hU, sp_pI1, if_neg y, tI]) (fun c g y => by rw [hU, sp_pI2, tL, if_neg (fun z => y z.1)]))
    have tc : jm_273 Q a T = some (1, T) := by
      rw [c273 (y := S.1 0 5) (by rw [tI, s2.1 _ _ (by omega)]; exact k3) ⟨k1, k2⟩, if_pos ⟨a1, a2⟩]
    have jR : jm_334 Q a b T = some (v, T2) := by
      rw [ref_334y tc ⟨b1, b2⟩, ← hU, hm, r1, sp_bd, hp, r2]
    have fr := frR3 ef_334 jR (Or.inl rfl)
    refine ⟨T2, fun K => la_15 (c := 0) (b := v) hL hj (by rw [← ha, ← hb]; exact lw_15_ok a b cc) (by rw [← ha, ← hb, ← hT]; exact jR) ?_ (fun _ => ?_), FS_end s2 tI (fun c g y => by rw [tL, if_neg (fun z => y z.1)]) (by rw [hT]; rfl) (by rw [hT]; rfl) (by rw [hT]; rfl) (by rw [hT]; exact Nat.le_succ _) (by rw [hT]; exact Nat.le_add_right _ _) fr⟩
    · rw [r3, (frR ef_288 r1 (Or.inl rfl)).1 _ _ (by omega) (by omega), hU, rd_eq]
    · rw [fr.2.1, tL, if_pos ⟨rfl, rfl⟩]
  · refine ⟨_, fun K => la_15 (S2 := ev_pI (ev_tick S) 621 0 1) (c := 1) (b := 0) hL hj (by
      rw [← ha, ← hb]
      exact lw_15_x0 a b (sp_181n hK h)) (by
      rw [← ha, ← hb]
      exact ref_334n (n := S.1 0 5) (c273 (T := ev_tick S) k3 ⟨k1, k2⟩) h) rd_eq (fun q => by cases q), FS_of sp_F_no (fun c g y => Or.inl ⟨y.1, Or.inl y.2⟩)⟩
theorem op_16 (hS : HSIM Q S) (hQ : 400 ≤ Q) (hK : sp_PT S) (hB : sp_BR S) (hL : L ≤ 3072) (hj : j + 6 ≤ L) : ∃ S2, (∀ K, ja_1228 Q L xs (j : Int) K S = K S2) ∧ sp_FS S S2 := by
  obtain ⟨a, ha⟩ : ∃ a, a = (xs (Int.toNat ((j : Int) + 1))).toInt := ⟨_, rfl⟩
  obtain ⟨b, hb⟩ : ∃ b, b = (xs (Int.toNat ((j : Int) + 2))).toInt := ⟨_, rfl⟩
  obtain ⟨y, hy⟩ : ∃ y, y = (xs (Int.toNat ((j : Int) + 3))).toInt := ⟨_, rfl⟩
  obtain ⟨k1, k2, k3⟩ := hK.1
  by_cases h : (0 ≤ a ∧ a < S.1 0 5) ∧ (0 ≤ b ∧ b < 3) ∧ 0 ≤ y
  · have h' := h
    obtain ⟨⟨a1, a2⟩, ⟨b1, b2⟩, y0⟩ := h'
    obtain ⟨p, hp⟩ : ∃ p : Nat, a = (p : Int) := ⟨a.toNat, by omega⟩
    obtain ⟨m, hm⟩ : ∃ m : Nat, b = (m : Int) := ⟨b.toNat, by omega⟩
    have hm3 : m < 3 := by omega
    have ap : a.toNat = p := by omega
    have bm : b.toNat = m := by omega
    obtain ⟨c1, c2, c3, _⟩ := hB m hm3
    obtain ⟨len, hl⟩ : ∃ len : Nat, S.1 (263 + 2 * m) 1 = (len : Int) := ⟨(S.1 (263 + 2 * m) 1).toNat, by omega⟩
    obtain ⟨S1, s2, ⟨v, s1, s3⟩ | ⟨s1, s3⟩⟩ := srch16 (Q := Q) (y := y) hS hQ (show (p : Int) < S.1 0 5 by omega) hm3 hl (by omega) (by omega)
    · have cc : jm_182 Q a b y S = some (.inl v, S1) := by
        unfold jm_182
        rw [(sp_200 hK).1 ⟨a1, a2⟩, sp_bd, sp_1b.1 ⟨b1, b2⟩, sp_bd, if_neg (by omega), if_neg (by omega), if_pos y0, ap, bm, s1]
      obtain ⟨T, hT⟩ : ∃ T, T = ev_pL S1 723 0 (ev_i2l v) := ⟨_, rfl⟩
      have tI : ∀ c g, T.1 c g = S1.1 c g := fun c g => by rw [hT]; rfl
      obtain ⟨U, hU⟩ : ∃ U, U = ev_pI T 621 0 0 := ⟨_, rfl⟩
      have tL : ∀ c g, T.2.1 c g = if c = 723 ∧ g = 0 then ev_i2l v else S1.2.1 c g := fun c g => by rw [hT, sp_pL2]
      obtain ⟨T1, T2, r1, r2, r3⟩ := s3 U (rfs_of s2 (fun c g y => by rw [hU, sp_pI1, if_neg y, tI]) (fun c g y => by rw [hU, sp_pI2, tL, if_neg (fun z => y z.1)]))
      have tc : jm_273 Q a T = some (1, T) := by
        rw [c273 (y := S.1 0 5) (by rw [tI, s2.1 _ _ (by omega)]; exact k3) ⟨k1, k2⟩, if_pos ⟨a1, a2⟩]
      have jR : jm_335 Q a b y T = some (v, T2) := by
        rw [ref_335y tc ⟨b1, b2⟩ y0, ← hU, hm, r1, sp_bd, hp, r2]
      have fr := frR3 ef_335 jR (Or.inr rfl)
      refine ⟨T2, fun K => la_16 (c := 0) (b := v) hL hj (by rw [← ha, ← hb, ← hy]; exact lw_16_ok a b y cc) (by rw [← ha, ← hb, ← hy, ← hT]; exact jR) ?_ (fun _ => ?_), FS_end s2 tI (fun c g y => by rw [tL, if_neg (fun z => y z.1)]) (by rw [hT]; rfl) (by rw [hT]; rfl) (by rw [hT]; rfl) (by rw [hT]; exact Nat.le_succ _) (by rw [hT]; exact Nat.le_add_right _ _) fr⟩
      · rw [r3, (frR ef_288 r1 (Or.inl rfl)).1 _ _ (by omega) (by omega), hU, rd_eq]
      · rw [fr.2.1, tL, if_pos ⟨rfl, rfl⟩]
    · have cc : jm_182 Q a b y S = some (.inr "java/lang/IndexOutOfBoundsException", ev_tick S1) := by
        unfold jm_182
        rw [(sp_200 hK).1 ⟨a1, a2⟩, sp_bd, sp_1b.1 ⟨b1, b2⟩, sp_bd, if_neg (by omega), if_neg (by omega), if_pos y0, ap, bm, s1]
      obtain ⟨U, hU⟩ : ∃ U, U = ev_pI (ev_tick S1) 621 0 0 := ⟨_, rfl⟩
      obtain ⟨T1, T2, r1, r2⟩ := s3 U (rfs_of s2 (fun c g y => by rw [hU, sp_pI1, if_neg y]; rfl) (fun c g y => by rw [hU]; rfl))
      have tc : jm_273 Q a (ev_tick S1) = some (1, ev_tick S1) := by
        rw [c273 (T := ev_tick S1) (y := S.1 0 5) ((s2.1 621 5 (by omega)).trans k3) ⟨k1, k2⟩, if_pos ⟨a1, a2⟩]
      have jR : jm_335 Q a b y (ev_tick S1) = some (0, ev_pI T2 621 0 1) := by
        rw [ref_335y tc ⟨b1, b2⟩ y0, ← hU, hm, r1, sp_bd, hp, r2]
      have fr := frR3 ef_335 jR (Or.inr rfl)
      exact ⟨_, fun K => la_16 (c := 1) (b := 0) hL hj (by rw [← ha, ← hb, ← hy]; exact lw_16_x0 a b y cc) (by rw [← ha, ← hb, ← hy]; exact jR) rd_eq (fun q => by cases q), FS_end (T := ev_tick S1) s2 (fun _ _ => rfl) (fun _ _ _ => rfl) rfl rfl rfl (Nat.le_refl _) (Nat.le_refl _) fr⟩
  · refine ⟨_, fun K => la_16 (S2 := ev_pI (ev_tick S) 621 0 1) (c := 1) (b := 0) hL hj (by
      rw [← ha, ← hb, ← hy]
      exact lw_16_x0 a b y (sp_182n hK h)) (by
      rw [← ha, ← hb, ← hy]
      exact ref_335n (n := S.1 0 5) (c273 (T := ev_tick S) k3 ⟨k1, k2⟩) h) rd_eq (fun q => by cases q), FS_of sp_F_no (fun c g y => Or.inl ⟨y.1, Or.inl y.2⟩)⟩
end OPYO
