/-! BY: an engine finds -/
section ORE
variable {Q p k w len n m i j L B : Nat} {xs : Nat → Int32} {S S0 S1 S2 T T0 T2 U V : ev_St} {a b x y g e vc vr : Int}
/-- the frame of a search by an engine -/
def sp_FE (S S2 : ev_St) : Prop := (∀ c g, ¬ sp_WS c g → ¬ (284 ≤ c ∧ c ≤ 303) → ¬ (669 ≤ c ∧ c ≤ 672) → S2.1 c g = S.1 c g) ∧ (∀ c g, c ≠ 723 → S2.2.1 c g = S.2.1 c g) ∧ (∀ c g, c ≠ 281 → c ≠ 284 → c ≠ 294 → S2.2.2.1 c g = S.2.2.1 c g) ∧ S2.2.2.2.1 = S.2.2.2.1 ∧ S2.2.2.2.2.1 = S.2.2.2.2.1 ∧ S2.2.2.2.2.2.1 ≤ S.2.2.2.2.2.1 + 1 ∧ S2.2.2.2.2.2.2 ≤ S.2.2.2.2.2.2 + 6
theorem FE_of (h : sp_FS S S2) : sp_FE S S2 := ⟨fun c g y _ _ => h.1 c g y, h.2.1, fun c g y _ _ => h.2.2.1 c g y, h.2.2.2⟩
theorem THc_c {kt wd : Nat} (h : THc kt wd B S) (h1 : ∀ c g, kt ≤ c → c ≤ kt + 9 → S2.1 c g = S.1 c g) (h2 : ∀ g, S2.2.2.1 kt g = S.2.2.1 kt g) {B2 : Nat} (hb : B ≤ B2) : THc kt wd B2 S2 := by
  obtain ⟨g', l, l2, s, s2, st, ⟨⟨r1, r2, r3, r4, r5⟩, ⟨e0, e7⟩, ll, ss⟩, hst, hse⟩ := h
  exact ⟨g', l, l2, s, s2, st, ⟨⟨by rw [h2]; exact r1, by rw [h2]; exact r2, by rw [h2]; exact r3, by rw [h2]; exact r4, by rw [h2]; exact r5⟩, ⟨by rw [h1 _ _ (by omega) (by omega)]; exact e0, by rw [h1 _ _ (by omega) (by omega)]; exact e7⟩, ll, ss⟩, by omega, fun i hi => by rw [h1 _ _ (by omega) (by omega)]; exact hse i hi⟩
theorem THc_FS {kt wd : Nat} (h : THc kt wd B S) (hk : kt = 284 ∨ kt = 294) (hF : sp_FS S S2) : THc kt wd B S2 := THc_c h (fun c g h1 h2 => hF.1 c g (by unfold sp_WS; omega)) (fun g => hF.2.2.1 kt g (by omega)) (Nat.le_refl B)
/-- the engines 1 and 2 of the reference -/
def F330 (Q : Nat) (e a b x g : Int) (s12 : ev_St) : Option (Int × ev_St) := ev_jn (fun  (s23 : ev_St) => ev_jn (fun  (s30 : ev_St) => ev_bd (jm_288 Q b s30) fun _ s31 => ev_bd (jm_315 Q a x s31) fun x33 s32 => ev_jn (fun (x34 : Int) (s37 : ev_St) => ev_bd (jm_327 Q x34 g s37) fun x39 s38 => some (x39, s38)) fun K137 => if x33 = 0 then (K137 0 s32) else (K137 1 s32)) fun K116 => if e ≠ 2 then (K116  s23) else (ev_if ((0 : Int) ≤ a ∧ a < (ev_aln 639 : Int)) (ev_b (s23.1 639 (Int.toNat a)) fun x42 => if x42 < 2 then (some ((-4), s23)) else (if g ≤ 0 then (K116  s23) else (some ((-4), s23)))))) fun K93 => if e ≠ 1 then (K93  s12) else (ev_if ((0 : Int) ≤ a ∧ a < (ev_aln 639 : Int)) (ev_b (s12.1 639 (Int.toNat a)) fun x46 => if x46 = 0 then (some ((-4), s12)) else (K93  s12)))
/-- the reference: what is asked is there, or not -/
theorem ref_330a (hn : 0 ≤ y ∧ y ≤ 12) (h5 : T.1 621 5 = y) : (((0 ≤ a ∧ a < y) ∧ (0 ≤ b ∧ b < 3) ∧ (0 ≤ x ∧ x ≤ T.1 707 b.toNat) ∧ 0 ≤ g ∧ g ≤ T.1 636 a.toNat) → (0 ≤ e ∧ e ≤ 2) → jm_330 Q e a b x g T = if e ≠ 0 then F330 Q e a b x g (ev_pI T 621 0 0) else (ev_bd (jm_328 Q a b x g (ev_pI T 621 0 0)) fun x49 s48 => some (x49, s48))) ∧ (((0 ≤ a ∧ a < y) ∧ (0 ≤ b ∧ b < 3) ∧ (0 ≤ x ∧ x ≤ T.1 707 b.toNat) ∧ 0 ≤ g ∧ g ≤ T.1 636 a.toNat) → ¬ (0 ≤ e ∧ e ≤ 2) → jm_330 Q e a b x g T = some (0, ev_pI T 621 0 2)) ∧ (¬ ((0 ≤ a ∧ a < y) ∧ (0 ≤ b ∧ b < 3) ∧ (0 ≤ x ∧ x ≤ T.1 707 b.toNat) ∧ 0 ≤ g ∧ g ≤ T.1 636 a.toNat) → jm_330 Q e a b x g T = some (0, ev_pI T 621 0 1)) := by
  have l36 : ev_aln 636 = 13 := al_K.2.2.2.2.2.2.2.2.2.2.2.1
  have c := c273 (Q := Q) (a := a) h5 hn
  refine ⟨fun h he => ?_, fun h he => ?_, fun h => ?_⟩
  · obtain ⟨ha, hb, hx, hg⟩ := h
    unfold jm_330
    rw [c, sp_bd, sp_jn, sp_jn, if_pos ha]
    try dsimp only
    rw [if_neg (by decide)]
    try dsimp only
    rw [sp_326y hb hx, sp_bd, if_neg (by decide)]
    try dsimp only
    rw [sp_if (by rw [l36]; omega), sp_b, sp_222, sp_bd, sp_in1.1 hg, if_pos (by decide)]
    try dsimp only
    rw [sp_222, sp_bd, sp_in1.1 he, if_neg (by decide)]
    try dsimp only
    rw [sp_b, sp_b, rd_eq, if_pos (Int.le_refl 0)]
    rfl
  · obtain ⟨ha, hb, hx, hg⟩ := h
    unfold jm_330
    rw [c, sp_bd, sp_jn, sp_jn, if_pos ha]
    try dsimp only
    rw [if_neg (by decide)]
    try dsimp only
    rw [sp_326y hb hx, sp_bd, if_neg (by decide)]
    try dsimp only
    rw [sp_if (by rw [l36]; omega), sp_b, sp_222, sp_bd, sp_in1.1 hg, if_pos (by decide)]
    try dsimp only
    rw [sp_222, sp_bd, sp_in1.2 he, if_pos rfl]
    try dsimp only
    rw [sp_b, sp_b, rd_eq, if_neg (by decide)]
  · unfold jm_330
    rw [c, sp_bd, sp_jn, sp_jn]
    by_cases ha : 0 ≤ a ∧ a < y
    · rw [if_pos ha, if_neg (by decide)]
      by_cases hbx : (0 ≤ b ∧ b < 3) ∧ 0 ≤ x ∧ x ≤ T.1 707 b.toNat
      · rw [sp_326y hbx.1 hbx.2, sp_bd, if_neg (by decide)]
        try dsimp only
        rw [sp_if (by rw [l36]; omega), sp_b, sp_222, sp_bd, sp_in1.2 (fun z => h ⟨ha, hbx.1, hbx.2, z⟩), if_neg (by decide)]
        try dsimp only
        rw [sp_b, sp_b, rd_eq, if_neg (by decide)]
      · rw [sp_326n hbx, sp_bd, if_pos rfl]
        try dsimp only
        rw [sp_b, sp_b, rd_eq, if_neg (by decide)]
    · rw [if_neg ha, if_pos rfl]
      try dsimp only
      rw [sp_b, sp_b, rd_eq, if_neg (by decide)]
theorem al_639 : ev_aln 639 = 13 ∨ ev_aln 639 = 12 := by decide +kernel
/-- the class's engines 1 and 2 -/
theorem c205 (hK : sp_PT S) (ha : 0 ≤ a ∧ a < S.1 0 5) (hb : 0 ≤ b ∧ b < 3) (he : e = 1 ∨ e = 2) : jm_205 Q e a b x g S = (if (e = 1 ∧ S.1 (313 + 20 * a.toNat) 14 ≠ 0) ∨ (e = 2 ∧ S.1 (313 + 20 * a.toNat) 15 ≠ 0 ∧ g = 0) then ev_bd (jm_157 Q (if e = 1 then 284 else 294) (313 + 20 * a.toNat + 12 + 1) (263 + 2 * b.toNat + 1) x S) fun _ s24 => ev_bd (jm_159 Q (if e = 1 then 284 else 294) g s24) fun x26 s25 => some (x26, s25) else some (-4, S)) := by
  unfold jm_205
  rw [(sp_200 hK).1 ha, sp_bd, sp_1b.1 hb, sp_bd, if_neg (by omega)]
  try dsimp only
  rw [if_neg (by omega)]
  try dsimp only
  rw [sp_jn, show 313 + 20 * a.toNat + 1 - 1 = 313 + 20 * a.toNat from rfl]
  rcases he with rfl | rfl
  · rw [if_neg (by decide)]
    try dsimp only
    rw [sp_b]
    try dsimp only
    by_cases z : S.1 (313 + 20 * a.toNat) 14 ≠ 0
    · rw [if_pos z]
      try dsimp only
      rw [if_pos (Or.inl ⟨rfl, z⟩)]
      try dsimp only
      rw [sp_jn, if_neg (by decide)]
      try dsimp only
      rw [if_pos rfl]
    · rw [if_neg z, if_neg (by omega)]
  · rw [if_pos (by decide)]
    try dsimp only
    rw [sp_b, sp_jn]
    by_cases z : S.1 (313 + 20 * a.toNat) 15 = 0
    · rw [if_pos z]
      try dsimp only
      rw [if_neg (fun q => q rfl), if_neg (by omega)]
    · rw [if_neg z]
      by_cases w : g ≠ 0
      · rw [if_pos w]
        try dsimp only
        rw [if_neg (fun q => q rfl), if_neg (by omega)]
      · rw [if_neg w]
        try dsimp only
        rw [if_pos (by decide)]
        try dsimp only
        rw [if_pos (Or.inr ⟨rfl, z, by omega⟩)]
        try dsimp only
        rw [sp_jn, if_pos (by decide)]
        try dsimp only
        rw [if_neg (by decide)]
/-- the engine 0, both sides -/
theorem find_two (hS : HSIM Q S) (hQ : 400 ≤ Q) (hK : sp_PT S) (hB : sp_BR S) (hv : (0 ≤ a ∧ a < S.1 0 5) ∧ (0 ≤ b ∧ b < 3) ∧ (0 ≤ x ∧ x ≤ S.1 707 b.toNat) ∧ 0 ≤ g ∧ g ≤ S.1 636 a.toNat) : ∃ v S1, jm_204 Q a b x g S = some (v, S1) ∧ ((∀ c g, ¬ (281 ≤ c ∧ c ≤ 283) → S1.1 c g = S.1 c g) ∧ (∀ c g, S1.2.1 c g = S.2.1 c g) ∧ (∀ c g, c ≠ 281 → S1.2.2.1 c g = S.2.2.1 c g) ∧ S1.2.2.2 = S.2.2.2) ∧ ∀ T, RFs S T → ∃ T2, jm_328 Q a b x g T = some (v, T2) ∧ (∀ c g, ¬ (c = 621 ∧ (g = 0 ∨ (73 ≤ g ∧ g ≤ 105))) → ¬ (678 ≤ c ∧ c ≤ 699) → T2.1 c g = T.1 c g) ∧ (∀ c g, T2.2.1 c g = T.2.1 c g) ∧ (∀ c g, T2.2.2.1 c g = T.2.2.1 c g) ∧ T2.2.2.2 = T.2.2.2 ∧ T2.1 621 0 = 0 := by
  obtain ⟨k1, k2, k3⟩ := hK.1
  obtain ⟨⟨a1, a2⟩, ⟨b1, b2⟩, ⟨x1, x2⟩, g1, g2⟩ := hv
  obtain ⟨p, hp⟩ : ∃ p : Nat, a = (p : Int) := ⟨a.toNat, by omega⟩
  obtain ⟨m, hm⟩ : ∃ m : Nat, b = (m : Int) := ⟨b.toNat, by omega⟩
  have hm3 : m < 3 := by omega
  have ap : a.toNat = p := by omega
  have bm : b.toNat = m := by omega
  rw [bm] at x2
  rw [ap] at g2
  obtain ⟨c1, c2, c3, _⟩ := hB m hm3
  have n9 := (kp_num (hK.2 p (by omega))).1.2.2
  obtain ⟨len, hl⟩ : ∃ len : Nat, S.1 (263 + 2 * m) 1 = (len : Int) := ⟨(S.1 (263 + 2 * m) 1).toNat, by omega⟩
  obtain ⟨B, vc, S1, s1, s2⟩ := srch (Q := Q) (x := x) hS hQ (show (p : Int) < S.1 0 5 by omega) hm3 hl (by omega) (by omega) x1
  have fr := frC ef_115 s1 (Or.inl rfl)
  obtain ⟨_, _, _, _, _, t3⟩ := s2 S ⟨fun _ _ _ _ _ _ => rfl, fun _ _ _ => rfl⟩
  obtain ⟨v, v1, _⟩ := told_eq t3 (g := g) ⟨g1, by omega⟩
  have c204 : jm_204 Q a b x g S = some (v, S1) := by
    unfold jm_204
    rw [(sp_200 hK).1 ⟨a1, a2⟩, sp_bd, sp_1b.1 ⟨b1, b2⟩, sp_bd, if_neg (by omega)]
    try dsimp only
    rw [if_neg (by omega)]
    try dsimp only
    rw [ap, bm, s1, sp_bd]
    exact v1
  refine ⟨v, S1, c204, fr, fun T hT => ?_⟩
  obtain ⟨U, hU⟩ : ∃ U, U = ev_pI T 621 0 0 := ⟨_, rfl⟩
  have uI : ∀ c g, ¬ (c = 621 ∧ g = 0) → U.1 c g = T.1 c g := fun c g y => by rw [hU, sp_pI1, if_neg y]
  have rf : RFs S U := ⟨fun c g y1 y2 y3 y4 => by rw [uI c g (by omega)]; exact hT.1 c g y1 y2 y3 y4, fun c g y => by rw [hU]; exact hT.2 c g y⟩
  obtain ⟨T1, vr, T2, r1, r2, r3⟩ := s2 U rf
  obtain ⟨v', v2, v3⟩ := told_eq r3 (g := g) ⟨g1, by omega⟩
  have vv : v' = v := (congrArg Prod.fst (Option.some.inj (v1.symm.trans v2))).symm
  rw [vv] at v3
  have tc : jm_273 Q a T = some (1, T) := by
    rw [c273 (y := S.1 0 5) (by rw [hT.1 621 5 (by omega) (by omega) (by omega) (by omega)]; exact k3) ⟨k1, k2⟩, if_pos ⟨a1, a2⟩]
  have j328 : jm_328 Q a b x g T = some (v, T2) := by
    rw [ref_328y tc ⟨a1, by omega⟩ ⟨b1, b2⟩ ⟨x1, by rw [hT.1 707 _ (by omega) (by omega) (by omega) (by omega), bm]; exact x2⟩ ⟨g1, by rw [hT.1 636 _ (by omega) (by omega) (by omega) (by omega), ap]; exact g2⟩, ← hU, hm, r1, sp_bd, hp, r2, sp_bd, v3, sp_bd]
  obtain ⟨q1, q2, q3, q4⟩ := frR ef_288 r1 (Or.inl rfl)
  obtain ⟨o1, o2, o3, o4⟩ := frR ef_308 r2 (Or.inr rfl)
  refine ⟨T2, j328, fun c g y1 y2 => ?_, fun c g => ?_, fun c g => ?_, ?_, ?_⟩
  · rw [o1 _ _ (by omega) (by omega), q1 _ _ (by omega) (by omega), uI _ _ (by omega)]
  · rw [o2, q2, hU]
    rfl
  · rw [o3, q3, hU]
    rfl
  · rw [o4, q4, hU]
    rfl
  · rw [o1 _ _ (by omega) (by omega), q1 _ _ (by omega) (by omega), hU, rd_eq]
theorem op_12 (hS : HSIM Q S) (hQ : 1000000 ≤ Q) (hK : sp_PT S) (hB : sp_BR S) (hG : SG S) (h8 : ∀ b, b < 3 → S.1 (263 + 2 * b) 1 ≤ 80) (hT1 : THc 284 20 B S) (hT2 : THc 294 1 B S) (hb : B ≤ 1999999000) (hL : L ≤ 3072) (hj : j + 6 ≤ L) : ∃ S2, (∀ K, ja_896 Q L xs (j : Int) K S = K S2) ∧ sp_FE S S2 ∧ THc 284 20 (B + 90) S2 ∧ THc 294 1 (B + 90) S2 := by
  obtain ⟨e, he⟩ : ∃ e, e = (xs (Int.toNat ((j : Int) + 1))).toInt := ⟨_, rfl⟩
  obtain ⟨a, ha⟩ : ∃ a, a = (xs (Int.toNat ((j : Int) + 2))).toInt := ⟨_, rfl⟩
  obtain ⟨b, hb'⟩ : ∃ b, b = (xs (Int.toNat ((j : Int) + 3))).toInt := ⟨_, rfl⟩
  obtain ⟨x, hx⟩ : ∃ x, x = (xs (Int.toNat ((j : Int) + 4))).toInt := ⟨_, rfl⟩
  obtain ⟨g, hg⟩ : ∃ g, g = (xs (Int.toNat ((j : Int) + 5))).toInt := ⟨_, rfl⟩
  obtain ⟨k1, k2, k3⟩ := hK.1
  have eqv : ((0 ≤ a ∧ a < S.1 0 5) ∧ (0 ≤ b ∧ b < 3) ∧ (0 ≤ x ∧ x ≤ S.1 (263 + 2 * b.toNat) 1) ∧ (0 ≤ g ∧ g ≤ S.1 (313 + 20 * a.toNat) 12)) ↔ ((0 ≤ a ∧ a < S.1 0 5) ∧ (0 ≤ b ∧ b < 3) ∧ (0 ≤ x ∧ x ≤ S.1 707 b.toNat) ∧ 0 ≤ g ∧ g ≤ S.1 636 a.toNat) := by
    have e1 : 0 ≤ b ∧ b < 3 → S.1 707 b.toNat = S.1 (263 + 2 * b.toNat) 1 := fun h => (hB b.toNat (by omega)).2.2.1
    have e2 : 0 ≤ a ∧ a < S.1 0 5 → S.1 (313 + 20 * a.toNat) 12 = S.1 636 a.toNat := fun h => (kp_num (hK.2 a.toNat (by omega))).1.1
    constructor
    · rintro ⟨y1, y2, y3, y4⟩
      rw [← e1 y2] at y3
      rw [e2 y1] at y4
      exact ⟨y1, y2, y3, y4⟩
    · rintro ⟨y1, y2, y3, y4⟩
      rw [e1 y2] at y3
      rw [← e2 y1] at y4
      exact ⟨y1, y2, y3, y4⟩
  -- a refusal
  have no : ∀ cc : Int, cc ≠ 0 → jm_375 Q (0 + 1) e a b x g (723 + 1) S = some (cc, ev_tick S) → jm_330 Q e a b x g (ev_tick S) = some (0, ev_pI (ev_tick S) 621 0 cc) → ∃ S2, (∀ K, ja_896 Q L xs (j : Int) K S = K S2) ∧ sp_FE S S2 ∧ THc 284 20 (B + 90) S2 ∧ THc 294 1 (B + 90) S2 := fun cc c0 h1 h2 => by
    have fr : sp_FE S (ev_pI (ev_tick S) 621 0 cc) := FE_of (FS_of sp_F_no (fun c g y => Or.inl ⟨y.1, Or.inl y.2⟩))
    refine ⟨_, fun K => la_12 (c := cc) (b := 0) hL hj (by rw [← he, ← ha, ← hb', ← hx, ← hg]; exact h1) (by rw [← he, ← ha, ← hb', ← hx, ← hg]; exact h2) rd_eq (fun q => absurd q c0), fr, THc_c hT1 (fun c g y1 y2 => rd_nk (by omega)) (fun _ => rfl) (by omega), THc_c hT2 (fun c g y1 y2 => rd_nk (by omega)) (fun _ => rfl) (by omega)⟩
  by_cases h : (0 ≤ a ∧ a < S.1 0 5) ∧ (0 ≤ b ∧ b < 3) ∧ (0 ≤ x ∧ x ≤ S.1 (263 + 2 * b.toNat) 1) ∧ (0 ≤ g ∧ g ≤ S.1 (313 + 20 * a.toNat) 12)
  · have h203 := (sp_203 (Q := Q) hK).1 h
    have hr := eqv.mp h
    by_cases h2 : 0 ≤ e ∧ e ≤ 2
    · have hr0 := hr
      obtain ⟨⟨a1, a2⟩, ⟨b1, b2⟩, ⟨x1, x2⟩, g1, g2⟩ := hr
      -- an answer, with what it leaves
      have fin : ∀ (v : Int) (S1 T2 : ev_St), jm_178 Q e a b x g S = some (.inl v, S1) → jm_330 Q e a b x g (ev_pL S1 723 0 (ev_i2l v)) = some (v, T2) → T2.1 621 0 = 0 → T2.2.1 723 0 = ev_i2l v → sp_FE S T2 → THc 284 20 (B + 90) T2 → THc 294 1 (B + 90) T2 → ∃ S2, (∀ K, ja_896 Q L xs (j : Int) K S = K S2) ∧ sp_FE S S2 ∧ THc 284 20 (B + 90) S2 ∧ THc 294 1 (B + 90) S2 := fun v S1 T2 h1 h2 h3 h4 h5 h6 h7 => ⟨T2, fun K => la_12 (c := 0) (b := v) hL hj (by rw [← he, ← ha, ← hb', ← hx, ← hg]; exact lw_12_ok e a b x g h1) (by rw [← he, ← ha, ← hb', ← hx, ← hg]; exact h2) h3 (fun _ => h4), h5, h6, h7⟩
      by_cases e0 : e = 0
      · obtain ⟨v, S1, c204, ⟨f1, f2, f3, f4⟩, ref⟩ := find_two hS (by omega) hK hB hr0
        have cc : jm_178 Q e a b x g S = some (.inl v, S1) := by
          unfold jm_178
          rw [h203, sp_bd, if_pos (by decide)]
          try dsimp only
          rw [if_neg (by omega)]
          try dsimp only
          rw [if_pos (by omega)]
          try dsimp only
          rw [if_neg (fun z => z e0)]
          try dsimp only
          rw [c204, sp_bd]
        obtain ⟨T, hT⟩ : ∃ T, T = ev_pL S1 723 0 (ev_i2l v) := ⟨_, rfl⟩
        have tI : ∀ c g, T.1 c g = S1.1 c g := fun c g => by rw [hT]; rfl
        have tL : ∀ c g, T.2.1 c g = if c = 723 ∧ g = 0 then ev_i2l v else S1.2.1 c g := fun c g => by rw [hT, sp_pL2]
        obtain ⟨U, hU⟩ : ∃ U, U = ev_pI T 621 0 0 := ⟨_, rfl⟩
        have uI : ∀ c g, ¬ (c = 621 ∧ g = 0) → U.1 c g = S1.1 c g := fun c g y => by rw [hU, sp_pI1, if_neg y, tI]
        have rf : RFs S U := ⟨fun c g y1 y2 y3 y4 => by rw [uI c g (by omega), f1 c g (by omega)], fun c g y => by rw [hU, sp_pI2, tL, if_neg (fun z => y z.1), f2]⟩
        obtain ⟨T2, j1, j2, j3, j4, j5, j6⟩ := ref U rf
        have rr := (ref_330a (Q := Q) (T := T) (a := a) (b := b) (x := x) (g := g) (e := e) ⟨k1, k2⟩ (by rw [tI, f1 _ _ (by omega)]; exact k3)).1 ⟨⟨a1, a2⟩, ⟨b1, b2⟩, ⟨x1, by rw [tI, f1 _ _ (by omega)]; exact x2⟩, g1, by rw [tI, f1 _ _ (by omega)]; exact g2⟩ h2
        have tl : T2.2.2.2 = S.2.2.2 := by
          rw [j5, hU]
          show T.2.2.2 = _
          rw [hT]
          exact f4
        have fe : sp_FE S T2 := by
          refine ⟨fun c g y1 y2 y3 => ?_, fun c g y => ?_, fun c g y1 y2 y3 => ?_, by rw [tl], by rw [tl], by rw [tl]; exact Nat.le_succ _, by rw [tl]; exact Nat.le_add_right _ _⟩
          · unfold sp_WS at y1
            rw [j2 c g (by omega) (by omega), uI c g (by omega), f1 c g (by omega)]
          · rw [j3, hU, sp_pI2, tL, if_neg (fun z => y z.1)]
            try dsimp only
            rw [f2]
          · rw [j4, hU]
            show T.2.2.1 c g = _
            rw [hT]
            exact f3 c g y1
        refine fin v S1 T2 cc (by rw [← hT, rr, if_neg (fun z => z e0), ← hU, j1, sp_bd]) j6 (by rw [j3, hU, sp_pI2, tL, if_pos ⟨rfl, rfl⟩]) fe (THc_c hT1 (fun c g y1 y2 => ?_) (fun g => ?_) (by omega)) (THc_c hT2 (fun c g y1 y2 => ?_) (fun g => ?_) (by omega))
        · rw [j2 c g (by omega) (by omega), uI c g (by omega), f1 c g (by omega)]
        · exact (by
            rw [j4, hU]
            show T.2.2.1 284 g = _
            rw [hT]
            exact f3 _ _ (by decide))
        · rw [j2 c g (by omega) (by omega), uI c g (by omega), f1 c g (by omega)]
        · exact (by
            rw [j4, hU]
            show T.2.2.1 294 g = _
            rw [hT]
            exact f3 _ _ (by decide))
      · have e12 : e = 1 ∨ e = 2 := by omega
        have kn := kp_num (hK.2 a.toNat (by omega))
        have l39 : (0 : Int) ≤ a ∧ a < (ev_aln 639 : Int) := by
          rcases al_639 with q | q <;> rw [q] <;> omega
        have c178 : ∀ v S1, jm_205 Q e a b x g S = some (v, S1) → jm_178 Q e a b x g S = some (.inl v, S1) := fun v S1 h => by
          unfold jm_178
          rw [h203, sp_bd, if_pos (by decide)]
          try dsimp only
          rw [if_neg (by omega)]
          try dsimp only
          rw [if_pos (by omega)]
          try dsimp only
          rw [if_pos e0]
          try dsimp only
          rw [h, sp_bd]
        have cl := c205 (Q := Q) (x := x) (g := g) hK ⟨a1, a2⟩ ⟨b1, b2⟩ e12
        by_cases tk : (e = 1 ∧ S.1 (313 + 20 * a.toNat) 14 ≠ 0) ∨ (e = 2 ∧ S.1 (313 + 20 * a.toNat) 15 ≠ 0 ∧ g = 0)
        · rw [if_pos tk] at cl
          obtain ⟨p, hp⟩ : ∃ p : Nat, a = (p : Int) := ⟨a.toNat, by omega⟩
          obtain ⟨m, hm⟩ : ∃ m : Nat, b = (m : Int) := ⟨b.toNat, by omega⟩
          obtain ⟨x', hx'⟩ : ∃ x' : Nat, x = (x' : Int) := ⟨x.toNat, by omega⟩
          have ap : a.toNat = p := by omega
          have bm : b.toNat = m := by omega
          have hm3 : m < 3 := by omega
          rw [ap] at cl tk kn
          rw [bm] at cl
          obtain ⟨d1, d2, d3, _⟩ := hB m hm3
          obtain ⟨len, hl⟩ : ∃ len : Nat, S.1 (263 + 2 * m) 1 = (len : Int) := ⟨(S.1 (263 + 2 * m) 1).toNat, by omega⟩
          have l80 := h8 m hm3
          rw [bm] at x2
          obtain ⟨kt, wd, hk, hkt, h14, hw, hTH⟩ : ∃ kt wd, ((kt = 284 ∧ wd = 20) ∨ (kt = 294 ∧ wd = 1)) ∧ (if e = 1 then 284 else 294) = kt ∧ S.1 (313 + 20 * p) 14 ≠ 0 ∧ (wd = 20 ∨ g = 0) ∧ THc kt wd B S := by
            rcases tk with ⟨q1, q2⟩ | ⟨q1, q2, q3⟩
            · exact ⟨284, 20, Or.inl ⟨rfl, rfl⟩, if_pos q1, q2, Or.inl rfl, hT1⟩
            · exact ⟨294, 1, Or.inr ⟨rfl, rfl⟩, if_neg (by omega), by omega, Or.inr q3, hT2⟩
          obtain ⟨S1, s1, s2, s3, s4⟩ := eng_two (x := x') hQ hK hB hG (show (p : Int) < S.1 0 5 by omega) hm3 hl (by omega) (by omega) h14 hk hTH hb
          have g9 : 0 ≤ g ∧ g ≤ 9 := ⟨g1, by
            rw [ap] at g2
            have := kn.1.2.2
            omega⟩
          obtain ⟨_, _, v0, _, _, _, _, t0⟩ := s4 S ⟨fun _ _ _ _ _ _ => rfl, fun _ _ _ => rfl⟩
          obtain ⟨r, r1, _⟩ := t0 g g9 hw
          rw [hkt, hx', s1, sp_bd, r1, sp_bd] at cl
          obtain ⟨T, hT⟩ : ∃ T, T = ev_pL S1 723 0 (ev_i2l r) := ⟨_, rfl⟩
          have tI : ∀ c g, T.1 c g = S1.1 c g := fun c g => by rw [hT]; rfl
          have tL : ∀ c g, T.2.1 c g = if c = 723 ∧ g = 0 then ev_i2l r else S1.2.1 c g := fun c g => by rw [hT, sp_pL2]
          have sI : ∀ c g, ¬ (284 ≤ c ∧ c ≤ 303) → S1.1 c g = S.1 c g := fun c g y => s2.1 c g (by omega)
          obtain ⟨U, hU⟩ : ∃ U, U = ev_pI T 621 0 0 := ⟨_, rfl⟩
          have uI : ∀ c g, ¬ (c = 621 ∧ g = 0) → U.1 c g = S1.1 c g := fun c g y => by rw [hU, sp_pI1, if_neg y, tI]
          have rf : RFs S U := ⟨fun c g y1 y2 y3 y4 => by rw [uI c g (by omega), sI c g (by omega)], fun c g y => by rw [hU, sp_pI2, tL, if_neg (fun z => y z.1), s2.2.1]⟩
          obtain ⟨T1, T2, v, v1, v2, v3, v4, v5⟩ := s4 U rf
          obtain ⟨r', r2, r3⟩ := v5 g g9 hw
          have rr' : r' = r := (congrArg Prod.fst (Option.some.inj (r1.symm.trans r2))).symm
          rw [rr'] at r3
          have rr := (ref_330a (Q := Q) (T := T) (a := a) (b := b) (x := x) (g := g) (e := e) ⟨k1, k2⟩ (by rw [tI, sI _ _ (by omega)]; exact k3)).1 ⟨⟨a1, a2⟩, ⟨b1, b2⟩, ⟨x1, by rw [tI, sI _ _ (by omega), bm]; exact x2⟩, g1, by rw [tI, sI _ _ (by omega)]; exact g2⟩ h2
          have u39 : U.1 639 p = S.1 639 p := by rw [uI _ _ (by omega), sI _ _ (by omega)]
          have nt : F330 Q e a b x g U = some (r, T2) := by
            have tail : (ev_bd (jm_288 Q b U) fun _ s31 => ev_bd (jm_315 Q a x s31) fun x33 s32 => ev_jn (fun (x34 : Int) (s37 : ev_St) => ev_bd (jm_327 Q x34 g s37) fun x39 s38 => some (x39, s38)) fun K137 => if x33 = 0 then (K137 0 s32) else (K137 1 s32)) = some (r, T2) := by
              rw [hm, v1, sp_bd, hp, hx', v2, sp_bd, sp_jn]
              by_cases z : v = 0
              · rw [if_pos z] at r3
                rw [if_pos z]
                try dsimp only
                rw [r3, sp_bd]
              · rw [if_neg z] at r3
                rw [if_neg z]
                try dsimp only
                rw [r3, sp_bd]
            unfold F330
            rcases tk with ⟨q1, q2⟩ | ⟨q1, q2, q3⟩
            · rw [sp_jn, if_neg (fun z => z q1)]
              try dsimp only
              rw [sp_if l39, sp_b, ap, u39, if_neg (by omega)]
              try dsimp only
              rw [sp_jn, if_pos (by omega)]
              exact tail
            · rw [sp_jn, if_pos (by omega)]
              try dsimp only
              rw [sp_jn, if_neg (fun z => z q1)]
              try dsimp only
              rw [sp_if l39, sp_b, ap, u39, if_neg (by omega)]
              try dsimp only
              rw [if_pos (by omega)]
              exact tail
          have tl : T2.2.2.2 = S.2.2.2 := by
            rw [v4, hU]
            show T.2.2.2 = _
            rw [hT]
            exact s2.2.2.2
          have tr : ∀ c g, T2.2.2.1 c g = S1.2.2.1 c g := fun c g => by
            rw [v4, hU, hT]
            rfl
          have fe : sp_FE S T2 := by
            refine ⟨fun c g y1 y2 y3 => ?_, fun c g y => ?_, fun c g y1 y2 y3 => ?_, by rw [tl], by rw [tl], by rw [tl]; exact Nat.le_succ _, by rw [tl]; exact Nat.le_add_right _ _⟩
            · unfold sp_WS at y1
              rw [v3 c g (by omega) (by omega) (by omega), uI c g (by omega), sI c g (by omega)]
            · rw [v4, hU, sp_pI2, tL, if_neg (fun z => y z.1)]
              try dsimp only
              rw [s2.2.1]
            · rw [tr]
              exact s2.2.2.1 c g (by omega)
          have same : ∀ c g, c < 621 → T2.1 c g = S1.1 c g := fun c g y => by rw [v3 c g (by omega) (by omega) (by omega), uI c g (by omega)]
          have oth : ∀ k2 w2, (k2 = 284 ∨ k2 = 294) → k2 ≠ kt → THc k2 w2 B S → THc k2 w2 (B + 90) T2 := fun k2 w2 y1 y2 y3 => THc_c y3 (fun c g z1 z2 => by rw [same c g (by omega)]; exact s2.1 c g (by omega)) (fun g => by rw [tr]; exact s2.2.2.1 _ _ (by omega)) (by omega)
          have me : THc kt wd (B + 90) T2 := THc_c s3 (fun c g z1 z2 => same c g (by omega)) (fun g => tr _ _) (Nat.le_refl _)
          refine fin r S1 T2 (c178 _ _ (by rw [hx']; exact cl)) (by rw [← hT, rr, if_pos e0, ← hU, nt]) (by rw [v3 621 0 (by omega) (by omega) (by omega), hU, rd_eq]) (by rw [v4, hU, sp_pI2, tL, if_pos ⟨rfl, rfl⟩]) fe ?_ ?_
          · rcases hk with ⟨q1, q2⟩ | ⟨q1, q2⟩
            · rw [q1, q2] at me
              exact me
            · exact oth 284 20 (Or.inl rfl) (by omega) hT1
          · rcases hk with ⟨q1, q2⟩ | ⟨q1, q2⟩
            · exact oth 294 1 (Or.inr rfl) (by omega) hT2
            · rw [q1, q2] at me
              exact me
        · rw [if_neg tk] at cl
          obtain ⟨T, hT⟩ : ∃ T, T = ev_pL S 723 0 (ev_i2l (-4)) := ⟨_, rfl⟩
          have tI : ∀ c g, T.1 c g = S.1 c g := fun c g => by rw [hT]; rfl
          have rr := (ref_330a (Q := Q) (T := T) (a := a) (b := b) (x := x) (g := g) (e := e) ⟨k1, k2⟩ (by rw [tI]; exact k3)).1 ⟨⟨a1, a2⟩, ⟨b1, b2⟩, ⟨x1, by rw [tI]; exact x2⟩, g1, by rw [tI]; exact g2⟩ h2
          obtain ⟨U, hU⟩ : ∃ U, U = ev_pI T 621 0 0 := ⟨_, rfl⟩
          have u39 : U.1 639 a.toNat = S.1 639 a.toNat := by rw [hU, rd_nk (by decide), tI]
          have nt : F330 Q e a b x g U = some (-4, U) := by
            unfold F330
            rcases e12 with q | q
            · rw [sp_jn, if_neg (fun z => z q)]
              try dsimp only
              rw [sp_if l39, sp_b, u39, if_pos (by omega)]
            · rw [sp_jn, if_pos (by omega)]
              try dsimp only
              rw [sp_jn, if_neg (fun z => z q)]
              try dsimp only
              rw [sp_if l39, sp_b, u39]
              by_cases w : S.1 639 a.toNat < 2
              · rw [if_pos w]
              · rw [if_neg w, if_neg (by omega)]
          have fr : ∀ c g, ¬ (c = 621 ∧ g = 0) → U.1 c g = S.1 c g := fun c g y => by rw [hU, sp_pI1, if_neg y, tI]
          have fe : sp_FE S U := by
            refine ⟨fun c g y1 y2 y3 => fr c g (fun z => y1 (Or.inl ⟨z.1, Or.inl z.2⟩)), fun c g y => ?_, fun c g y1 y2 y3 => ?_, ?_, ?_, ?_, ?_⟩
            · rw [hU, sp_pI2, hT, sp_pL2, if_neg (fun z => y z.1)]
            · rw [hU, hT]
              rfl
            · rw [hU, hT]
              rfl
            · rw [hU, hT]
              rfl
            · rw [hU, hT]
              exact Nat.le_succ _
            · rw [hU, hT]
              exact Nat.le_add_right _ _
          refine fin (-4) S U (c178 _ _ cl) (by rw [← hT, rr, if_pos e0, ← hU, nt]) (by rw [hU, rd_eq]) (by rw [hU, sp_pI2, hT, sp_pL2, if_pos ⟨rfl, rfl⟩]) fe (THc_c hT1 (fun c g y1 y2 => fr c g (by omega)) (fun g => ?_) (by omega)) (THc_c hT2 (fun c g y1 y2 => fr c g (by omega)) (fun g => ?_) (by omega))
          · rw [hU, hT]
            rfl
          · rw [hU, hT]
            rfl
    · refine no 2 (by decide) (lw_12_x1 e a b x g ?_) ((ref_330a (T := ev_tick S) ⟨k1, k2⟩ k3).2.1 hr h2)
      unfold jm_178
      rw [h203, sp_bd, if_pos (by decide)]
      by_cases z : e < 0
      · rw [if_pos z]
      · rw [if_neg z, if_neg (by omega)]
  · have h203 := (sp_203 (Q := Q) hK).2 h
    refine no 1 (by decide) (lw_12_x0 e a b x g ?_) ((ref_330a (T := ev_tick S) ⟨k1, k2⟩ k3).2.2 (fun z => h (eqv.mpr z)))
    unfold jm_178
    rw [h203, sp_bd, if_neg (fun z => z rfl)]
end ORE
