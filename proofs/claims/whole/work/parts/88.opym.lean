/-! ANEW, STEPS, BACK, given what one place comes to -/
section OPYM
variable {Q p k w len n m i j L : Nat} {xs : Nat → Int32} {S S0 S1 S2 T T0 T2 U V : ev_St} {B R : ev_St → ev_St → Prop} {a b x y g vc vr : Int}
theorem op_11 (hS : HSIM Q S) (hQ : 400 ≤ Q) (hK : sp_PT S) (hB : sp_BR S) (hL : L ≤ 3072) (hj : j + 6 ≤ L) : ∃ S2, (∀ K, ja_804 Q L xs (j : Int) K S = K S2) ∧ sp_FS S S2 := by
  obtain ⟨a, ha⟩ : ∃ a, a = (xs (Int.toNat ((j : Int) + 1))).toInt := ⟨_, rfl⟩
  obtain ⟨b, hb⟩ : ∃ b, b = (xs (Int.toNat ((j : Int) + 2))).toInt := ⟨_, rfl⟩
  obtain ⟨x, hx⟩ : ∃ x, x = (xs (Int.toNat ((j : Int) + 3))).toInt := ⟨_, rfl⟩
  obtain ⟨g, hg⟩ : ∃ g, g = (xs (Int.toNat ((j : Int) + 4))).toInt := ⟨_, rfl⟩
  obtain ⟨k1, k2, k3⟩ := hK.1
  have eqv : ((0 ≤ a ∧ a < S.1 0 5) ∧ (0 ≤ b ∧ b < 3) ∧ (0 ≤ x ∧ x ≤ S.1 (263 + 2 * b.toNat) 1) ∧ (0 ≤ g ∧ g ≤ S.1 (313 + 20 * a.toNat) 12)) ↔ ((0 ≤ a ∧ a < S.1 0 5) ∧ (0 ≤ b ∧ b < 3) ∧ (0 ≤ x ∧ x ≤ S.1 707 b.toNat) ∧ 0 ≤ g ∧ g ≤ S.1 636 a.toNat) := by
    have e1 : 0 ≤ b ∧ b < 3 → S.1 707 b.toNat = S.1 (263 + 2 * b.toNat) 1 := fun h => (hB b.toNat (by omega)).2.2.1
    have e2 : 0 ≤ a ∧ a < S.1 0 5 → S.1 (313 + 20 * a.toNat) 12 = S.1 636 a.toNat := fun h => (kp_num (hK.2 a.toNat (by omega))).1.1
    constructor
    · rintro ⟨y1, y2, y3, y4⟩
      rw [← e1 y2] at y3
      rw [e2 y1] at y4
      exact ⟨y1, y2, y3, y4⟩
    · rintro ⟨y1, y2, y3, y4⟩
      rw [e1 y2] at y3
      rw [← e2 y1] at y4
      exact ⟨y1, y2, y3, y4⟩
  by_cases h : (0 ≤ a ∧ a < S.1 0 5) ∧ (0 ≤ b ∧ b < 3) ∧ (0 ≤ x ∧ x ≤ S.1 (263 + 2 * b.toNat) 1) ∧ (0 ≤ g ∧ g ≤ S.1 (313 + 20 * a.toNat) 12)
  · have h203 := (sp_203 (Q := Q) hK).1 h
    have hr := eqv.mp h
    obtain ⟨⟨a1, a2⟩, ⟨b1, b2⟩, ⟨x1, x2⟩, g1, g2⟩ := hr
    obtain ⟨p, hp⟩ : ∃ p : Nat, a = (p : Int) := ⟨a.toNat, by omega⟩
    obtain ⟨m, hm⟩ : ∃ m : Nat, b = (m : Int) := ⟨b.toNat, by omega⟩
    have hm3 : m < 3 := by omega
    have ap : a.toNat = p := by omega
    have bm : b.toNat = m := by omega
    rw [bm] at x2
    rw [ap] at g2
    obtain ⟨c1, c2, c3, _⟩ := hB m hm3
    have n9 := (kp_num (hK.2 p (by omega))).1.2.2
    obtain ⟨len, hl⟩ : ∃ len : Nat, S.1 (263 + 2 * m) 1 = (len : Int) := ⟨(S.1 (263 + 2 * m) 1).toNat, by omega⟩
    obtain ⟨B, vc, S1, s1, s2⟩ := srch (Q := Q) (x := x) hS hQ (show (p : Int) < S.1 0 5 by omega) hm3 hl (by omega) (by omega) x1
    obtain ⟨f1, f2, f3, f4⟩ := frC ef_115 s1 (Or.inl rfl)
    obtain ⟨_, _, _, _, _, t3⟩ := s2 S ⟨fun _ _ _ _ _ _ => rfl, fun _ _ _ => rfl⟩
    obtain ⟨v, v1, _⟩ := told_eq t3 (g := g) ⟨g1, by omega⟩
    have c204 : jm_204 Q a b x g S = some (v, S1) := by
      unfold jm_204
      rw [(sp_200 hK).1 ⟨a1, a2⟩, sp_bd, sp_1b.1 ⟨b1, b2⟩, sp_bd, if_neg (by omega), if_neg (by omega), ap, bm, s1, sp_bd]
      exact v1
    have cc : jm_177 Q a b x g S = some (.inl v, S1) := by
      unfold jm_177
      rw [h203, sp_bd, if_pos (by decide), c204, sp_bd]
    obtain ⟨T, hT⟩ : ∃ T, T = ev_pL S1 723 0 (ev_i2l v) := ⟨_, rfl⟩
    have tI : ∀ c g, T.1 c g = S1.1 c g := fun c g => by rw [hT]; rfl
    obtain ⟨U, hU⟩ : ∃ U, U = ev_pI T 621 0 0 := ⟨_, rfl⟩
    have uI : ∀ c g, ¬ (c = 621 ∧ g = 0) → U.1 c g = S1.1 c g := fun c g y => by rw [hU, sp_pI1, if_neg y, tI]
    have uL : ∀ c g, U.2.1 c g = if c = 723 ∧ g = 0 then ev_i2l v else S1.2.1 c g := fun c g => by rw [hU, sp_pI2, hT, sp_pL2]
    have rf : RFs S U := ⟨fun c g y1 y2 y3 y4 => by rw [uI c g (by omega), f1 c g (by omega)], fun c g y => by rw [uL, if_neg (fun z => y z.1), f2]⟩
    obtain ⟨T1, vr, T2, r1, r2, r3⟩ := s2 U rf
    obtain ⟨v', v2, v3⟩ := told_eq r3 (g := g) ⟨g1, by omega⟩
    have vv : v' = v := by
      exact (congrArg Prod.fst (Option.some.inj (v1.symm.trans v2))).symm
    rw [vv] at v3
    have tc : jm_273 Q a T = some (1, T) := by
      rw [c273 (y := S.1 0 5) (by rw [tI, f1 _ _ (by omega)]; exact k3) ⟨k1, k2⟩, if_pos ⟨a1, a2⟩]
    have j328 : jm_328 Q a b x g T = some (v, T2) := by
      rw [ref_328y tc ⟨a1, by omega⟩ ⟨b1, b2⟩ ⟨x1, by rw [tI, f1 _ _ (by omega), bm]; exact x2⟩ ⟨g1, by rw [tI, f1 _ _ (by omega), ap]; exact g2⟩, ← hU, hm, r1, sp_bd, hp, r2, sp_bd, v3, sp_bd]
    have j329 : jm_329 Q a b x g T = some (v, T2) := by
      unfold jm_329
      rw [j328, sp_bd]
    obtain ⟨q1, q2, q3, q4⟩ := frR ef_288 r1 (Or.inl rfl)
    obtain ⟨o1, o2, o3, o4⟩ := frR ef_308 r2 (Or.inr rfl)
    have e4 : T2.2.2.2 = S.2.2.2 := by
      rw [o4, q4, hU]
      show T.2.2.2 = _
      rw [hT]
      exact f4
    refine ⟨T2, fun K => la_11 (c := 0) (b := v) hL hj (by rw [← ha, ← hb, ← hx, ← hg]; exact lw_11_ok a b x g cc) (by rw [← ha, ← hb, ← hx, ← hg, ← hT]; exact j329) ?_ (fun _ => ?_), fun c g y => ?_, fun c g y => ?_, fun c g y => ?_, by rw [e4], by rw [e4], by rw [e4]; exact Nat.le_succ _, by rw [e4]; exact Nat.le_add_right _ _⟩
    · rw [o1 _ _ (by omega) (by omega), q1 _ _ (by omega) (by omega), hU, rd_eq]
    · rw [o2, q2, uL, if_pos ⟨rfl, rfl⟩]
    · unfold sp_WS at y
      rw [o1 _ _ (by omega) (by omega), q1 _ _ (by omega) (by omega), uI _ _ (by omega), f1 _ _ (by omega)]
    · rw [o2, q2, uL, if_neg (fun z => y z.1), f2]
    · rw [o3, q3, hU]
      show T.2.2.1 c g = _
      rw [hT]
      exact f3 c g y
  · have h203 := (sp_203 (Q := Q) hK).2 h
    refine ⟨_, fun K => la_11 (S2 := ev_pI (ev_tick S) 621 0 1) (c := 1) (b := 0) hL hj (by
      rw [← ha, ← hb, ← hx, ← hg]
      refine lw_11_x0 a b x g ?_
      unfold jm_177
      rw [h203, sp_bd, if_neg (fun z => z rfl)]) (by
      rw [← ha, ← hb, ← hx, ← hg]
      unfold jm_329
      rw [ref_328n (n := S.1 0 5) (c273 (T := ev_tick S) k3 ⟨k1, k2⟩) k2 (fun z => h (eqv.mpr z)), sp_bd]) rd_eq (fun q => by cases q), FS_of sp_F_no (fun c g y => Or.inl ⟨y.1, Or.inl y.2⟩)⟩
theorem srchB (hS : HSIM Q S) (hQ : 400 ≤ Q) (hp : (p : Int) < S.1 0 5) (hm : m < 3) (hl : S.1 (263 + 2 * m) 1 = (len : Int)) (hl2 : len ≤ 160) (h7 : S.1 707 m = (len : Int)) (hx : 0 ≤ x ∧ x ≤ (len : Int)) : ∃ B vc S1, jm_116 Q (313 + 20 * p + 1) (263 + 2 * m + 1) x S = some (vc, S1) ∧ ∀ T, RFs S T → ∃ T1 vr T2, jm_288 Q (m : Int) T = some ((), T1) ∧ jm_308 Q (p : Int) x 1 T1 = some (vr, T2) ∧ TOLD Q B 0 vc vr S1 T2 := by
  obtain ⟨B, R, h1, h2⟩ := hS p m len hp hm hl
  have go : ∀ T, RFs S T → ∃ T1, jm_288 Q (m : Int) T = some ((), T1) ∧ B S T1 := fun T hT => by
    obtain ⟨V, v1, v2, v3, v4, v5⟩ := sp_288 (Q := Q) (T := T) hm hl2 (by rw [hT.1 707 m (by omega) (by omega) (by omega) (by omega)]; exact h7) hQ
    refine ⟨V, v1, h2 S V ⟨fun _ _ _ _ => rfl, fun _ _ _ => rfl, fun _ _ _ => rfl⟩ ⟨fun c g y1 y2 y3 y4 => ?_, fun c g y => ?_⟩ v2 (fun i hi => ?_)⟩
    · rw [v4 c g (by omega) (by omega), hT.1 c g y1 y2 y3 y4]
    · rw [v5, hT.2 c g y]
    · rw [v3 i hi, hT.1 _ _ (by omega) (by omega) (by omega) (by omega)]
  obtain ⟨T1, t1, t2⟩ := go S ⟨fun _ _ _ _ _ _ => rfl, fun _ _ _ => rfl⟩
  obtain ⟨vc, vr, S1, T2, s1, _, _⟩ := sp_backw h1 hl2 hQ t2 hx
  refine ⟨B, vc, S1, s1, fun T hT => ?_⟩
  obtain ⟨U1, u1, u2⟩ := go T hT
  obtain ⟨vc', vr', S1', T2', w1, w2, w3⟩ := sp_backw h1 hl2 hQ u2 hx
  rw [s1] at w1
  injection w1 with w1
  injection w1 with w4 w5
  subst w4
  subst w5
  exact ⟨U1, vr', T2', u1, w2, w3⟩
theorem told_st {lo : Int} (h : TOLD Q B lo vc vr S2 T2) : (if vr ≠ -2 then (ev_b (T2.1 621 75) fun x17 => some (x17, T2)) else some ((-2), T2)) = some ((if vc = -2 then -2 else S2.1 281 14), T2) := by
  rcases h.2 with ⟨y1, y2⟩ | ⟨y0, ⟨y1, y2⟩ | ⟨y1, y, y2, y3, _⟩⟩
  · rw [if_neg (fun z => z y1), if_pos y2]
  · rw [if_pos (by omega), if_neg (by omega), sp_b, y0]
  · obtain ⟨⟨z1, z2⟩, _, ⟨z3, _⟩, _⟩ := y3
    rw [if_pos (by omega), if_neg (by omega), sp_b, y0]
theorem told_0 {lo : Int} (h : TOLD Q B lo vc vr S2 T2) : jm_327 Q vr 0 T2 = some (vc, T2) := by
  obtain ⟨l79, l80, _⟩ := al_Gt
  unfold jm_327
  rcases h.2 with ⟨y1, y2⟩ | ⟨_, ⟨y1, y2⟩ | ⟨y1, y, y2, y3, _⟩⟩
  · rw [y1, if_neg (by decide), if_pos (by decide), y2]
  · rw [y1, if_neg (by decide), if_neg (by decide), y2]
  · obtain ⟨⟨z1, z2⟩, z3, ⟨z4, z5⟩, z6, _⟩ := y3
    rw [y1, if_pos rfl, sp_if (by rw [l79]; omega), sp_b, show Int.toNat 0 = 0 from rfl, z6, if_pos (by omega), sp_if (by rw [l79]; omega), sp_b, sp_ck (by omega), sp_if (by rw [l80]; omega), sp_b, ← z3, sp_ck (by omega), y2]
theorem sp_179n (hK : sp_PT S) (h : ¬ ((0 ≤ a ∧ a < S.1 0 5) ∧ (0 ≤ b ∧ b < 3) ∧ 0 ≤ x ∧ x ≤ S.1 (263 + 2 * b.toNat) 1)) : jm_179 Q a b x S = some (.inr "java/lang/IndexOutOfBoundsException", ev_tick S) := by
  unfold jm_179
  by_cases ha : 0 ≤ a ∧ a < S.1 0 5
  · by_cases hb : 0 ≤ b ∧ b < 3
    · rw [(sp_200 hK).1 ha, sp_bd, sp_1b.1 hb, sp_bd, if_neg (by omega), if_neg (by omega)]
      by_cases x0 : x < 0
      · rw [if_pos x0]
      · rw [if_neg x0, sp_b, show 263 + 2 * b.toNat + 1 - 1 = 263 + 2 * b.toNat from rfl, if_neg (fun z => h ⟨ha, hb, by omega, z⟩)]
    · rw [(sp_200 hK).1 ha, sp_bd, sp_1b.2 hb, sp_bd, if_neg (by omega), if_pos rfl]
  · rw [(sp_200 hK).2 ha, sp_bd]
    by_cases hb : 0 ≤ b ∧ b < 3
    · rw [sp_1b.1 hb, sp_bd, if_pos rfl]
    · rw [sp_1b.2 hb, sp_bd, if_pos rfl]
theorem sp_180n (hK : sp_PT S) (h : ¬ ((0 ≤ a ∧ a < S.1 0 5) ∧ (0 ≤ b ∧ b < 3) ∧ 0 ≤ x ∧ x ≤ S.1 (263 + 2 * b.toNat) 1)) : jm_180 Q a b x S = some (.inr "java/lang/IndexOutOfBoundsException", ev_tick S) := by
  unfold jm_180
  by_cases ha : 0 ≤ a ∧ a < S.1 0 5
  · by_cases hb : 0 ≤ b ∧ b < 3
    · rw [(sp_200 hK).1 ha, sp_bd, sp_1b.1 hb, sp_bd, if_neg (by omega), if_neg (by omega)]
      by_cases x0 : x < 0
      · rw [if_pos x0]
      · rw [if_neg x0, sp_b, show 263 + 2 * b.toNat + 1 - 1 = 263 + 2 * b.toNat from rfl, if_neg (fun z => h ⟨ha, hb, by omega, z⟩)]
    · rw [(sp_200 hK).1 ha, sp_bd, sp_1b.2 hb, sp_bd, if_neg (by omega), if_pos rfl]
  · rw [(sp_200 hK).2 ha, sp_bd]
    by_cases hb : 0 ≤ b ∧ b < 3
    · rw [sp_1b.1 hb, sp_bd, if_pos rfl]
    · rw [sp_1b.2 hb, sp_bd, if_pos rfl]
theorem ref_331y (c : jm_273 Q a T = some (1, T)) (hb : 0 ≤ b ∧ b < 3) (hx : 0 ≤ x ∧ x ≤ T.1 707 b.toNat) : jm_331 Q a b x T = ev_bd (jm_288 Q b (ev_pI T 621 0 0)) fun _ s13 => ev_bd (jm_308 Q a x 0 s13) fun x15 s14 => if x15 ≠ (-2) then (ev_b (s14.1 621 75) fun x17 => some (x17, s14)) else (some ((-2), s14)) := by
  unfold jm_331
  rw [c, sp_bd, sp_jn, sp_jn, if_neg (by decide), sp_326y hb hx, sp_bd, if_neg (by decide)]
  try dsimp only
  rw [sp_b, sp_b, rd_eq, if_pos (Int.le_refl 0)]
theorem ref_331n {n : Int} (c : jm_273 Q a T = some (if 0 ≤ a ∧ a < n then 1 else 0, T)) (h : ¬ ((0 ≤ a ∧ a < n) ∧ (0 ≤ b ∧ b < 3) ∧ 0 ≤ x ∧ x ≤ T.1 707 b.toNat)) : jm_331 Q a b x T = some (0, ev_pI T 621 0 1) := by
  unfold jm_331
  rw [c, sp_bd, sp_jn, sp_jn]
  by_cases ha : 0 ≤ a ∧ a < n
  · rw [if_pos ha, if_neg (by decide), sp_326n (fun z => h ⟨ha, z.1, z.2⟩), sp_bd, if_pos rfl]
    try dsimp only
    rw [sp_b, sp_b, rd_eq, if_neg (by decide)]
  · rw [if_neg ha, if_pos rfl]
    try dsimp only
    rw [sp_b, sp_b, rd_eq, if_neg (by decide)]
theorem ref_332y (c : jm_273 Q a T = some (1, T)) (hb : 0 ≤ b ∧ b < 3) (hx : 0 ≤ x ∧ x ≤ T.1 707 b.toNat) : jm_332 Q a b x T = ev_bd (jm_288 Q b (ev_pI T 621 0 0)) fun _ s13 => ev_bd (jm_308 Q a x 1 s13) fun x15 s14 => ev_bd (jm_327 Q x15 0 s14) fun x17 s16 => some (x17, s16) := by
  unfold jm_332
  rw [c, sp_bd, sp_jn, sp_jn, if_neg (by decide), sp_326y hb hx, sp_bd, if_neg (by decide)]
  try dsimp only
  rw [sp_b, sp_b, rd_eq, if_pos (Int.le_refl 0)]
theorem ref_332n {n : Int} (c : jm_273 Q a T = some (if 0 ≤ a ∧ a < n then 1 else 0, T)) (h : ¬ ((0 ≤ a ∧ a < n) ∧ (0 ≤ b ∧ b < 3) ∧ 0 ≤ x ∧ x ≤ T.1 707 b.toNat)) : jm_332 Q a b x T = some (0, ev_pI T 621 0 1) := by
  unfold jm_332
  rw [c, sp_bd, sp_jn, sp_jn]
  by_cases ha : 0 ≤ a ∧ a < n
  · rw [if_pos ha, if_neg (by decide), sp_326n (fun z => h ⟨ha, z.1, z.2⟩), sp_bd, if_pos rfl]
    try dsimp only
    rw [sp_b, sp_b, rd_eq, if_neg (by decide)]
  · rw [if_neg ha, if_pos rfl]
    try dsimp only
    rw [sp_b, sp_b, rd_eq, if_neg (by decide)]
theorem op_13 (hS : HSIM Q S) (hQ : 400 ≤ Q) (hK : sp_PT S) (hB : sp_BR S) (hL : L ≤ 3072) (hj : j + 6 ≤ L) : ∃ S2, (∀ K, ja_1000 Q L xs (j : Int) K S = K S2) ∧ sp_FS S S2 := by
  obtain ⟨a, ha⟩ : ∃ a, a = (xs (Int.toNat ((j : Int) + 1))).toInt := ⟨_, rfl⟩
  obtain ⟨b, hb⟩ : ∃ b, b = (xs (Int.toNat ((j : Int) + 2))).toInt := ⟨_, rfl⟩
  obtain ⟨x, hx⟩ : ∃ x, x = (xs (Int.toNat ((j : Int) + 3))).toInt := ⟨_, rfl⟩
  obtain ⟨k1, k2, k3⟩ := hK.1
  have eqv : ((0 ≤ a ∧ a < S.1 0 5) ∧ (0 ≤ b ∧ b < 3) ∧ 0 ≤ x ∧ x ≤ S.1 (263 + 2 * b.toNat) 1) ↔ ((0 ≤ a ∧ a < S.1 0 5) ∧ (0 ≤ b ∧ b < 3) ∧ 0 ≤ x ∧ x ≤ S.1 707 b.toNat) := by
    have e1 : 0 ≤ b ∧ b < 3 → S.1 707 b.toNat = S.1 (263 + 2 * b.toNat) 1 := fun h => (hB b.toNat (by omega)).2.2.1
    constructor
    · rintro ⟨y1, y2, y3⟩
      rw [← e1 y2] at y3
      exact ⟨y1, y2, y3⟩
    · rintro ⟨y1, y2, y3⟩
      rw [e1 y2] at y3
      exact ⟨y1, y2, y3⟩
  by_cases h : (0 ≤ a ∧ a < S.1 0 5) ∧ (0 ≤ b ∧ b < 3) ∧ 0 ≤ x ∧ x ≤ S.1 (263 + 2 * b.toNat) 1
  · have hr := eqv.mp h
    have xl := h.2.2.2
    obtain ⟨⟨a1, a2⟩, ⟨b1, b2⟩, x1, x2⟩ := hr
    obtain ⟨p, hp⟩ : ∃ p : Nat, a = (p : Int) := ⟨a.toNat, by omega⟩
    obtain ⟨m, hm⟩ : ∃ m : Nat, b = (m : Int) := ⟨b.toNat, by omega⟩
    have hm3 : m < 3 := by omega
    have ap : a.toNat = p := by omega
    have bm : b.toNat = m := by omega
    rw [bm] at x2
    obtain ⟨c1, c2, c3, _⟩ := hB m hm3
    obtain ⟨len, hl⟩ : ∃ len : Nat, S.1 (263 + 2 * m) 1 = (len : Int) := ⟨(S.1 (263 + 2 * m) 1).toNat, by omega⟩
    obtain ⟨B, vc, S1, s1, s2⟩ := srch (Q := Q) (x := x) hS hQ (show (p : Int) < S.1 0 5 by omega) hm3 hl (by omega) (by omega) x1
    obtain ⟨f1, f2, f3, f4⟩ := frC ef_115 s1 (Or.inl rfl)
    obtain ⟨v, hv⟩ : ∃ v, v = if vc = -2 then -2 else S1.1 281 14 := ⟨_, rfl⟩
    have cc : jm_179 Q a b x S = some (.inl v, S1) := by
      unfold jm_179
      rw [(sp_200 hK).1 ⟨a1, a2⟩, sp_bd, sp_1b.1 ⟨b1, b2⟩, sp_bd, if_neg (by omega), if_neg (by omega), if_neg (by omega), sp_b, show 263 + 2 * b.toNat + 1 - 1 = 263 + 2 * b.toNat from rfl, if_pos xl, ap, bm, s1, sp_bd, hv]
      by_cases z : vc = -2
      · rw [if_neg (fun y => y z), if_pos z]
      · rw [if_pos z, if_neg z, sp_b]
    obtain ⟨T, hT⟩ : ∃ T, T = ev_pL S1 723 0 (ev_i2l v) := ⟨_, rfl⟩
    have tI : ∀ c g, T.1 c g = S1.1 c g := fun c g => by rw [hT]; rfl
    obtain ⟨U, hU⟩ : ∃ U, U = ev_pI T 621 0 0 := ⟨_, rfl⟩
    have uI : ∀ c g, ¬ (c = 621 ∧ g = 0) → U.1 c g = S1.1 c g := fun c g y => by rw [hU, sp_pI1, if_neg y, tI]
    have uL : ∀ c g, U.2.1 c g = if c = 723 ∧ g = 0 then ev_i2l v else S1.2.1 c g := fun c g => by rw [hU, sp_pI2, hT, sp_pL2]
    have rf : RFs S U := ⟨fun c g y1 y2 y3 y4 => by rw [uI c g (by omega), f1 c g (by omega)], fun c g y => by rw [uL, if_neg (fun z => y z.1), f2]⟩
    obtain ⟨T1, vr, T2, r1, r2, r3⟩ := s2 U rf
    have tc : jm_273 Q a T = some (1, T) := by
      rw [c273 (y := S.1 0 5) (by rw [tI, f1 _ _ (by omega)]; exact k3) ⟨k1, k2⟩, if_pos ⟨a1, a2⟩]
    have jR : jm_331 Q a b x T = some (v, T2) := by
      rw [ref_331y tc ⟨b1, b2⟩ ⟨x1, by rw [tI, f1 _ _ (by omega), bm]; exact x2⟩, ← hU, hm, r1, sp_bd, hp, r2, sp_bd]
      rw [hv]
      exact told_st r3
    obtain ⟨q1, q2, q3, q4⟩ := frR ef_288 r1 (Or.inl rfl)
    obtain ⟨o1, o2, o3, o4⟩ := frR ef_308 r2 (Or.inr rfl)
    have e4 : T2.2.2.2 = S.2.2.2 := by
      rw [o4, q4, hU]
      show T.2.2.2 = _
      rw [hT]
      exact f4
    refine ⟨T2, fun K => la_13 (c := 0) (b := v) hL hj (by rw [← ha, ← hb, ← hx]; exact lw_13_ok a b x cc) (by rw [← ha, ← hb, ← hx, ← hT]; exact jR) ?_ (fun _ => ?_), fun c g y => ?_, fun c g y => ?_, fun c g y => ?_, by rw [e4], by rw [e4], by rw [e4]; exact Nat.le_succ _, by rw [e4]; exact Nat.le_add_right _ _⟩
    · rw [o1 _ _ (by omega) (by omega), q1 _ _ (by omega) (by omega), hU, rd_eq]
    · rw [o2, q2, uL, if_pos ⟨rfl, rfl⟩]
    · unfold sp_WS at y
      rw [o1 _ _ (by omega) (by omega), q1 _ _ (by omega) (by omega), uI _ _ (by omega), f1 _ _ (by omega)]
    · rw [o2, q2, uL, if_neg (fun z => y z.1), f2]
    · rw [o3, q3, hU]
      show T.2.2.1 c g = _
      rw [hT]
      exact f3 c g y
  · refine ⟨_, fun K => la_13 (S2 := ev_pI (ev_tick S) 621 0 1) (c := 1) (b := 0) hL hj (by
      rw [← ha, ← hb, ← hx]
      exact lw_13_x0 a b x (sp_179n hK h)) (by
      rw [← ha, ← hb, ← hx]
      exact ref_331n (n := S.1 0 5) (c273 (T := ev_tick S) k3 ⟨k1, k2⟩) (fun z => h (eqv.mpr z))) rd_eq (fun q => by cases q), FS_of sp_F_no (fun c g y => Or.inl ⟨y.1, Or.inl y.2⟩)⟩
theorem op_14 (hS : HSIM Q S) (hQ : 400 ≤ Q) (hK : sp_PT S) (hB : sp_BR S) (hL : L ≤ 3072) (hj : j + 6 ≤ L) : ∃ S2, (∀ K, ja_1080 Q L xs (j : Int) K S = K S2) ∧ sp_FS S S2 := by
  obtain ⟨a, ha⟩ : ∃ a, a = (xs (Int.toNat ((j : Int) + 1))).toInt := ⟨_, rfl⟩
  obtain ⟨b, hb⟩ : ∃ b, b = (xs (Int.toNat ((j : Int) + 2))).toInt := ⟨_, rfl⟩
  obtain ⟨x, hx⟩ : ∃ x, x = (xs (Int.toNat ((j : Int) + 3))).toInt := ⟨_, rfl⟩
  obtain ⟨k1, k2, k3⟩ := hK.1
  have eqv : ((0 ≤ a ∧ a < S.1 0 5) ∧ (0 ≤ b ∧ b < 3) ∧ 0 ≤ x ∧ x ≤ S.1 (263 + 2 * b.toNat) 1) ↔ ((0 ≤ a ∧ a < S.1 0 5) ∧ (0 ≤ b ∧ b < 3) ∧ 0 ≤ x ∧ x ≤ S.1 707 b.toNat) := by
    have e1 : 0 ≤ b ∧ b < 3 → S.1 707 b.toNat = S.1 (263 + 2 * b.toNat) 1 := fun h => (hB b.toNat (by omega)).2.2.1
    constructor
    · rintro ⟨y1, y2, y3⟩
      rw [← e1 y2] at y3
      exact ⟨y1, y2, y3⟩
    · rintro ⟨y1, y2, y3⟩
      rw [e1 y2] at y3
      exact ⟨y1, y2, y3⟩
  by_cases h : (0 ≤ a ∧ a < S.1 0 5) ∧ (0 ≤ b ∧ b < 3) ∧ 0 ≤ x ∧ x ≤ S.1 (263 + 2 * b.toNat) 1
  · have hr := eqv.mp h
    have xl := h.2.2.2
    obtain ⟨⟨a1, a2⟩, ⟨b1, b2⟩, x1, x2⟩ := hr
    obtain ⟨p, hp⟩ : ∃ p : Nat, a = (p : Int) := ⟨a.toNat, by omega⟩
    obtain ⟨m, hm⟩ : ∃ m : Nat, b = (m : Int) := ⟨b.toNat, by omega⟩
    have hm3 : m < 3 := by omega
    have ap : a.toNat = p := by omega
    have bm : b.toNat = m := by omega
    rw [bm] at x2
    obtain ⟨c1, c2, c3, _⟩ := hB m hm3
    obtain ⟨len, hl⟩ : ∃ len : Nat, S.1 (263 + 2 * m) 1 = (len : Int) := ⟨(S.1 (263 + 2 * m) 1).toNat, by omega⟩
    obtain ⟨B, vc, S1, s1, s2⟩ := srchB (Q := Q) (x := x) hS hQ (show (p : Int) < S.1 0 5 by omega) hm3 hl (by omega) (by omega) ⟨x1, by omega⟩
    obtain ⟨f1, f2, f3, f4⟩ := frC ef_116 s1 (Or.inr rfl)
    obtain ⟨v, hv⟩ : ∃ v, v = vc := ⟨_, rfl⟩
    have cc : jm_180 Q a b x S = some (.inl v, S1) := by
      unfold jm_180
      rw [(sp_200 hK).1 ⟨a1, a2⟩, sp_bd, sp_1b.1 ⟨b1, b2⟩, sp_bd, if_neg (by omega), if_neg (by omega), if_neg (by omega), sp_b, show 263 + 2 * b.toNat + 1 - 1 = 263 + 2 * b.toNat from rfl, if_pos xl, ap, bm, s1, sp_bd, hv]
    obtain ⟨T, hT⟩ : ∃ T, T = ev_pL S1 723 0 (ev_i2l v) := ⟨_, rfl⟩
    have tI : ∀ c g, T.1 c g = S1.1 c g := fun c g => by rw [hT]; rfl
    obtain ⟨U, hU⟩ : ∃ U, U = ev_pI T 621 0 0 := ⟨_, rfl⟩
    have uI : ∀ c g, ¬ (c = 621 ∧ g = 0) → U.1 c g = S1.1 c g := fun c g y => by rw [hU, sp_pI1, if_neg y, tI]
    have uL : ∀ c g, U.2.1 c g = if c = 723 ∧ g = 0 then ev_i2l v else S1.2.1 c g := fun c g => by rw [hU, sp_pI2, hT, sp_pL2]
    have rf : RFs S U := ⟨fun c g y1 y2 y3 y4 => by rw [uI c g (by omega), f1 c g (by omega)], fun c g y => by rw [uL, if_neg (fun z => y z.1), f2]⟩
    obtain ⟨T1, vr, T2, r1, r2, r3⟩ := s2 U rf
    have tc : jm_273 Q a T = some (1, T) := by
      rw [c273 (y := S.1 0 5) (by rw [tI, f1 _ _ (by omega)]; exact k3) ⟨k1, k2⟩, if_pos ⟨a1, a2⟩]
    have jR : jm_332 Q a b x T = some (v, T2) := by
      rw [ref_332y tc ⟨b1, b2⟩ ⟨x1, by rw [tI, f1 _ _ (by omega), bm]; exact x2⟩, ← hU, hm, r1, sp_bd, hp, r2, sp_bd]
      rw [told_0 r3, sp_bd, hv]
    obtain ⟨q1, q2, q3, q4⟩ := frR ef_288 r1 (Or.inl rfl)
    obtain ⟨o1, o2, o3, o4⟩ := frR ef_308 r2 (Or.inr rfl)
    have e4 : T2.2.2.2 = S.2.2.2 := by
      rw [o4, q4, hU]
      show T.2.2.2 = _
      rw [hT]
      exact f4
    refine ⟨T2, fun K => la_14 (c := 0) (b := v) hL hj (by rw [← ha, ← hb, ← hx]; exact lw_14_ok a b x cc) (by rw [← ha, ← hb, ← hx, ← hT]; exact jR) ?_ (fun _ => ?_), fun c g y => ?_, fun c g y => ?_, fun c g y => ?_, by rw [e4], by rw [e4], by rw [e4]; exact Nat.le_succ _, by rw [e4]; exact Nat.le_add_right _ _⟩
    · rw [o1 _ _ (by omega) (by omega), q1 _ _ (by omega) (by omega), hU, rd_eq]
    · rw [o2, q2, uL, if_pos ⟨rfl, rfl⟩]
    · unfold sp_WS at y
      rw [o1 _ _ (by omega) (by omega), q1 _ _ (by omega) (by omega), uI _ _ (by omega), f1 _ _ (by omega)]
    · rw [o2, q2, uL, if_neg (fun z => y z.1), f2]
    · rw [o3, q3, hU]
      show T.2.2.1 c g = _
      rw [hT]
      exact f3 c g y
  · refine ⟨_, fun K => la_14 (S2 := ev_pI (ev_tick S) 621 0 1) (c := 1) (b := 0) hL hj (by
      rw [← ha, ← hb, ← hx]
      exact lw_14_x0 a b x (sp_180n hK h)) (by
      rw [← ha, ← hb, ← hx]
      exact ref_332n (n := S.1 0 5) (c273 (T := ev_tick S) k3 ⟨k1, k2⟩) (fun z => h (eqv.mpr z))) rd_eq (fun q => by cases q), FS_of sp_F_no (fun c g y => Or.inl ⟨y.1, Or.inl y.2⟩)⟩
end OPYM
