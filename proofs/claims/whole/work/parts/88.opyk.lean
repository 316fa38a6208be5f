/-! SEARCH: what is asked, what is loaded, what is told -/
section OPYK
variable {Q p k w len n m i j L : Nat} {S S1 S2 T T0 T2 U V : ev_St} {B R : ev_St → ev_St → Prop} {a b x y g vc vr : Int}
theorem wm_by {L : List (Nat × Nat × Nat)} {q c f : Nat} {C : Nat → Bool} {D : Nat → Nat → Bool} (h : L.all (fun x => !Nat.beq x.1 q || (C x.2.1 || (!Nat.beq x.2.2 999999 && D x.2.1 x.2.2))) = true) (h1 : C c = false) (h2 : D c f = false) : wm L q c f = false := by
  cases e : wm L q c f with
  | false => rfl
  | true =>
    exfalso
    obtain ⟨t, t1, t2⟩ := List.any_eq_true.mp e
    have t3 := List.all_eq_true.mp h t t1
    obtain ⟨t, u, v⟩ := t
    simp only [Bool.and_eq_true, Bool.or_eq_true, Bool.not_eq_true'] at t2 t3
    obtain ⟨y0, y1, y⟩ := t2
    have e0 := Nat.eq_of_beq_eq_true y0
    have e1 := Nat.eq_of_beq_eq_true y1
    subst e0
    subst e1
    rcases t3 with z | z | ⟨z, z2⟩
    · rw [y0] at z
      cases z
    · rw [h1] at z
      cases z
    · rcases y with y | y
      · rw [y] at z
        cases z
      · have e2 := Nat.eq_of_beq_eq_true y
        subst e2
        rw [h2] at z2
        cases z2
theorem sp_325b : jm_325 Q b T = some (if 0 ≤ b ∧ b < 3 then 1 else 0, T) := by
  have e : sp_in b 0 2 = if 0 ≤ b ∧ b < 3 then 1 else 0 := by
    unfold sp_in
    by_cases y : 0 ≤ b ∧ b < 3
    · rw [if_neg (by omega), if_neg (by omega), if_pos y]
    · rw [if_neg y]
      by_cases z : b < 0
      · rw [if_pos z]
      · rw [if_neg z, if_pos (by omega)]
  unfold jm_325
  rw [sp_222, sp_bd, e]
  by_cases y : 0 ≤ b ∧ b < 3
  · rw [if_pos y, sp_if (Or.inr rfl)]
  · rw [if_neg y, sp_if (Or.inl rfl)]
theorem sp_in1 {x y : Int} : (0 ≤ x ∧ x ≤ y → sp_in x 0 y = 1) ∧ (¬ (0 ≤ x ∧ x ≤ y) → sp_in x 0 y = 0) := by
  unfold sp_in
  refine ⟨fun h => by rw [if_neg (by omega), if_neg (by omega)], fun h => ?_⟩
  by_cases z : x < 0
  · rw [if_pos z]
  · rw [if_neg z, if_pos (by omega)]
theorem sp_326y (hb : 0 ≤ b ∧ b < 3) (hx : 0 ≤ x ∧ x ≤ T.1 707 b.toNat) : jm_326 Q b x T = some (1, T) := by
  unfold jm_326
  rw [sp_325b, sp_bd, if_pos hb, if_neg (by decide), sp_if (by rw [sp_aln707]; omega), sp_b, sp_222, sp_bd, sp_in1.1 hx, if_neg (by decide)]
theorem sp_326n (h : ¬ ((0 ≤ b ∧ b < 3) ∧ 0 ≤ x ∧ x ≤ T.1 707 b.toNat)) : jm_326 Q b x T = some (0, T) := by
  unfold jm_326
  rw [sp_325b, sp_bd]
  by_cases hb : 0 ≤ b ∧ b < 3
  · rw [if_pos hb, if_neg (by decide), sp_if (by rw [sp_aln707]; omega), sp_b, sp_222, sp_bd, sp_in1.2 (fun z => h ⟨hb, z⟩), if_pos rfl]
  · rw [if_neg hb, if_pos rfl]
/-- the reference's part of find -/
theorem ref_328y (c : jm_273 Q a T = some (1, T)) (ha : 0 ≤ a ∧ a < 12) (hb : 0 ≤ b ∧ b < 3) (hx : 0 ≤ x ∧ x ≤ T.1 707 b.toNat) (hg : 0 ≤ g ∧ g ≤ T.1 636 a.toNat) : jm_328 Q a b x g T = ev_bd (jm_288 Q b (ev_pI T 621 0 0)) fun _ s14 => ev_bd (jm_308 Q a x 0 s14) fun x16 s15 => ev_bd (jm_327 Q x16 g s15) fun x18 s17 => some (x18, s17) := by
  have l36 : ev_aln 636 = 13 := al_K.2.2.2.2.2.2.2.2.2.2.2.1
  unfold jm_328
  rw [c, sp_bd, sp_jn, sp_jn, if_neg (by decide), sp_326y hb hx, sp_bd, if_neg (by decide), sp_if (by rw [l36]; omega), sp_b, sp_222, sp_bd, sp_in1.1 hg, if_neg (by decide)]
  try dsimp only
  rw [sp_b, sp_b, rd_eq, if_pos (Int.le_refl 0)]
theorem ref_328n {n : Int} (c : jm_273 Q a T = some (if 0 ≤ a ∧ a < n then 1 else 0, T)) (hn : n ≤ 12) (h : ¬ ((0 ≤ a ∧ a < n) ∧ (0 ≤ b ∧ b < 3) ∧ (0 ≤ x ∧ x ≤ T.1 707 b.toNat) ∧ 0 ≤ g ∧ g ≤ T.1 636 a.toNat)) : jm_328 Q a b x g T = some (0, ev_pI T 621 0 1) := by
  have l36 : ev_aln 636 = 13 := al_K.2.2.2.2.2.2.2.2.2.2.2.1
  unfold jm_328
  rw [c, sp_bd, sp_jn, sp_jn]
  by_cases ha : 0 ≤ a ∧ a < n
  · rw [if_pos ha, if_neg (by decide)]
    by_cases hbx : (0 ≤ b ∧ b < 3) ∧ 0 ≤ x ∧ x ≤ T.1 707 b.toNat
    · rw [sp_326y hbx.1 hbx.2, sp_bd, if_neg (by decide), sp_if (by rw [l36]; omega), sp_b, sp_222, sp_bd, sp_in1.2 (fun z => h ⟨ha, hbx.1, hbx.2, z⟩), if_pos rfl]
      try dsimp only
      rw [sp_b, sp_b, rd_eq, if_neg (by decide)]
    · rw [sp_326n hbx, sp_bd, if_pos rfl]
      try dsimp only
      rw [sp_b, sp_b, rd_eq, if_neg (by decide)]
  · rw [if_neg ha, if_pos rfl]
    try dsimp only
    rw [sp_b, sp_b, rd_eq, if_neg (by decide)]
theorem sp_1b : (0 ≤ b ∧ b < 3 → jm_1 Q b S = some (263 + 2 * b.toNat + 1, S)) ∧ (¬ (0 ≤ b ∧ b < 3) → jm_1 Q b S = some (0, S)) := by
  unfold jm_1
  refine ⟨fun h => by rw [if_neg (by omega), if_neg (by omega), sp_if h, sp_b], fun h => ?_⟩
  by_cases z : b < 0
  · rw [if_pos z]
  · rw [if_neg z, if_pos (by omega)]
theorem sp_203 (hK : sp_PT S) : ((0 ≤ a ∧ a < S.1 0 5) ∧ (0 ≤ b ∧ b < 3) ∧ (0 ≤ x ∧ x ≤ S.1 (263 + 2 * b.toNat) 1) ∧ (0 ≤ g ∧ g ≤ S.1 (313 + 20 * a.toNat) 12) → jm_203 Q a b x g S = some (1, S)) ∧ (¬ ((0 ≤ a ∧ a < S.1 0 5) ∧ (0 ≤ b ∧ b < 3) ∧ (0 ≤ x ∧ x ≤ S.1 (263 + 2 * b.toNat) 1) ∧ (0 ≤ g ∧ g ≤ S.1 (313 + 20 * a.toNat) 12)) → jm_203 Q a b x g S = some (0, S)) := by
  unfold jm_203
  refine ⟨fun ⟨ha, hb, hx, hg⟩ => ?_, fun h => ?_⟩
  · rw [(sp_200 hK).1 ha, sp_bd, sp_1b.1 hb, sp_bd, if_neg (by omega), if_neg (by omega), if_neg (by omega), sp_b, show 263 + 2 * b.toNat + 1 - 1 = 263 + 2 * b.toNat from rfl, if_neg (by omega), if_neg (by omega), sp_b, show 313 + 20 * a.toNat + 1 - 1 = 313 + 20 * a.toNat from rfl, if_neg (by omega)]
  · by_cases ha : 0 ≤ a ∧ a < S.1 0 5
    · by_cases hb : 0 ≤ b ∧ b < 3
      · rw [(sp_200 hK).1 ha, sp_bd, sp_1b.1 hb, sp_bd, if_neg (by omega), if_neg (by omega)]
        by_cases x0 : x < 0
        · rw [if_pos x0]
        · rw [if_neg x0, sp_b, show 263 + 2 * b.toNat + 1 - 1 = 263 + 2 * b.toNat from rfl]
          by_cases x1 : S.1 (263 + 2 * b.toNat) 1 < x
          · rw [if_pos x1]
          · rw [if_neg x1]
            by_cases g0 : g < 0
            · rw [if_pos g0]
            · rw [if_neg g0, sp_b, show 313 + 20 * a.toNat + 1 - 1 = 313 + 20 * a.toNat from rfl, if_pos (by omega)]
      · rw [(sp_200 hK).1 ha, sp_bd, sp_1b.2 hb, sp_bd, if_neg (by omega), if_pos rfl]
    · rw [(sp_200 hK).2 ha, sp_bd]
      by_cases hb : 0 ≤ b ∧ b < 3
      · rw [sp_1b.1 hb, sp_bd, if_pos rfl]
      · rw [sp_1b.2 hb, sp_bd, if_pos rfl]
theorem run288 (hb : m < 3) (hl : len ≤ 160) : ∀ (r q i : Nat) (U : ev_St), i + r = len → r < q → U.1 621 73 = (len : Int) → (∀ j, j < i → U.1 678 j = U.1 708 (200 * m + j)) → ∃ V, jl_288_12 Q (m : Int) q (i : Int) U = some ((), V) ∧ (∀ j, j < len → V.1 678 j = U.1 708 (200 * m + j)) ∧ (∀ c g, c ≠ 678 → V.1 c g = U.1 c g) ∧ V.2 = U.2 := fun r => by
  have l78 : ev_aln 678 = 400 := by decide +kernel
  induction r with
  | zero =>
    intro q i U h1 h2 h3 h4
    obtain ⟨q, rfl⟩ : ∃ r, q = r + 1 := ⟨q - 1, by omega⟩
    refine ⟨U, ?_, fun j hj => h4 j (by omega), fun _ _ _ => rfl, rfl⟩
    show jb_288_12 Q _ _ _ U = _
    unfold jb_288_12
    rw [sp_b, h3, if_pos (by omega)]
  | succ r ih =>
    intro q i U h1 h2 h3 h4
    obtain ⟨q, rfl⟩ : ∃ r, q = r + 1 := ⟨q - 1, by omega⟩
    obtain ⟨U2, hU2⟩ : ∃ U2, U2 = ev_pI U 678 i (U.1 708 (200 * m + i)) := ⟨_, rfl⟩
    have u2 : ∀ c g, c ≠ 678 → U2.1 c g = U.1 c g := fun c g y => by rw [hU2, rd_nk y]
    obtain ⟨V, v1, v2, v3, v4⟩ := ih q (i + 1) U2 (by omega) (by omega) (by rw [u2 _ _ (by decide)]; exact h3) (fun j hj => by
      rw [u2 708 _ (by decide)]
      by_cases z : j = i
      · subst z
        rw [hU2, rd_eq]
      · rw [hU2, rd_nf (by omega)]
        exact h4 j (by omega))
    refine ⟨V, ?_, fun j hj => by rw [v2 j hj, u2 708 _ (by decide)], fun c g y => by rw [v3 c g y, u2 c g y], by rw [v4, hU2]; rfl⟩
    rw [← v1]
    show jb_288_12 Q _ _ _ U = _
    unfold jb_288_12
    rw [sp_b, h3, if_neg (by omega), sp_ck (by omega), sp_ck (by omega), sp_if (by rw [sp_aln708]; omega), sp_b, sp_if (by rw [l78]; omega), sp_b, sp_ck (by omega), show (200 * (m : Int) + (i : Int)).toNat = 200 * m + i from by omega, show Int.toNat (i : Int) = i from Int.toNat_natCast _, ← hU2, show (i : Int) + 1 = ((i + 1 : Nat) : Int) from by omega]
theorem sp_288 (hb : m < 3) (hl : len ≤ 160) (hT : T.1 707 m = (len : Int)) (hQ : 400 ≤ Q) : ∃ V, jm_288 Q (m : Int) T = some ((), V) ∧ V.1 621 73 = (len : Int) ∧ (∀ j, j < len → V.1 678 j = T.1 708 (200 * m + j)) ∧ (∀ c g, c ≠ 678 → ¬ (c = 621 ∧ g = 73) → V.1 c g = T.1 c g) ∧ V.2 = T.2 := by
  obtain ⟨U, hU⟩ : ∃ U, U = ev_pI T 621 73 (len : Int) := ⟨_, rfl⟩
  obtain ⟨V, v1, v2, v3, v4⟩ := run288 (Q := Q) hb hl len Q 0 U (by omega) (by omega) (by rw [hU, rd_eq]) (fun j hj => absurd hj (Nat.not_lt_zero j))
  refine ⟨V, ?_, by rw [v3 _ _ (by decide), hU, rd_eq], fun j hj => by rw [v2 j hj, hU, rd_nk (by decide)], fun c g y1 y2 => by rw [v3 c g y1, hU, sp_pI1, if_neg y2], by rw [v4, hU]; rfl⟩
  unfold jm_288
  rw [sp_if (by rw [sp_aln707]; omega), sp_b, Int.toNat_natCast, hT, sp_b, ← hU]
  exact v1
/-- what both tell of it -/
theorem told_eq {lo : Int} (h : TOLD Q B lo vc vr S2 T2) (hg : 0 ≤ g ∧ g < 10) : ∃ v, (if 0 ≤ vc then (ev_bd (jm_118 Q g S2) fun x11 s10 => some (x11, s10)) else some (vc, S2)) = some (v, S2) ∧ jm_327 Q vr g T2 = some (v, T2) := by
  rcases h.2 with ⟨y1, y2⟩ | ⟨_, ⟨y1, y2⟩ | ⟨y1, y, y2, y3, _⟩⟩
  · refine ⟨-2, by rw [y2, if_neg (by decide)], ?_⟩
    unfold jm_327
    rw [y1, if_neg (by decide), if_pos (by decide)]
  · refine ⟨-1, by rw [y2, if_neg (by decide)], ?_⟩
    unfold jm_327
    rw [y1, if_neg (by decide), if_neg (by decide)]
  · obtain ⟨v, w1, w2⟩ := got_tell y3 hg
    obtain ⟨⟨z1, z2⟩, _, ⟨z3, _⟩, _⟩ := y3
    exact ⟨v, by rw [if_pos (by omega), w1, sp_bd], by rw [y1]; exact w2⟩
end OPYK
