/-! BY: an engine finds -/
section ORE
variable {Q p k w len n m i j L B : Nat} {xs : Nat → Int32} {S S0 S1 S2 T T0 T2 U V : ev_St} {a b x y g e vc vr : Int}
/-- the frame of a search by an engine -/
def sp_FE (S S2 : ev_St) : Prop := (∀ c g, ¬ sp_WS c g → ¬ (284 ≤ c ∧ c ≤ 303) → ¬ (669 ≤ c ∧ c ≤ 672) → S2.1 c g = S.1 c g) ∧ (∀ c g, c ≠ 723 → S2.2.1 c g = S.2.1 c g) ∧ (∀ c g, c ≠ 281 → c ≠ 284 → c ≠ 294 → S2.2.2.1 c g = S.2.2.1 c g) ∧ S2.2.2.2.1 = S.2.2.2.1 ∧ S2.2.2.2.2.1 = S.2.2.2.2.1 ∧ S2.2.2.2.2.2.1 ≤ S.2.2.2.2.2.1 + 1 ∧ S2.2.2.2.2.2.2 ≤ S.2.2.2.2.2.2 + 6
theorem FE_of (h : sp_FS S S2) : sp_FE S S2 := ⟨fun c g y _ _ => h.1 c g y, h.2.1, fun c g y _ _ => h.2.2.1 c g y, h.2.2.2⟩
theorem THc_c {kt wd : Nat} (h : THc kt wd B S) (h1 : ∀ c g, kt ≤ c → c ≤ kt + 9 → S2.1 c g = S.1 c g) (h2 : ∀ g, S2.2.2.1 kt g = S.2.2.1 kt g) {B2 : Nat} (hb : B ≤ B2) : THc kt wd B2 S2 := by
  obtain ⟨g', l, l2, s, s2, st, ⟨⟨r1, r2, r3, r4, r5⟩, ⟨e0, e7⟩, ll, ss⟩, hst, hse⟩ := h
  exact ⟨g', l, l2, s, s2, st, ⟨⟨by rw [h2]; exact r1, by rw [h2]; exact r2, by rw [h2]; exact r3, by rw [h2]; exact r4, by rw [h2]; exact r5⟩, ⟨by rw [h1 _ _ (by omega) (by omega)]; exact e0, by rw [h1 _ _ (by omega) (by omega)]; exact e7⟩, ll, ss⟩, by omega, fun i hi => by rw [h1 _ _ (by omega) (by omega)]; exact hse i hi⟩
theorem THc_FS {kt wd : Nat} (h : THc kt wd B S) (hk : kt = 284 ∨ kt = 294) (hF : sp_FS S S2) : THc kt wd B S2 := THc_c h (fun c g h1 h2 => hF.1 c g (by unfold sp_WS; omega)) (fun g => hF.2.2.1 kt g (by omega)) (Nat.le_refl B)
/-- the engines 1 and 2 of the reference -/
def F330 (Q : Nat) (e a b x g : Int) (s12 : ev_St) : Option (Int × ev_St) := ev_jn (fun  (s23 : ev_St) => ev_jn (fun  (s30 : ev_St) => ev_bd (jm_288 Q b s30) fun _ s31 => ev_bd (jm_315 Q a x s31) fun x33 s32 => ev_jn (fun (x34 : Int) (s37 : ev_St) => ev_bd (jm_327 Q x34 g s37) fun x39 s38 => some (x39, s38)) fun K137 => if x33 = 0 then (K137 0 s32) else (K137 1 s32)) fun K116 => if e ≠ 2 then (K116  s23) else (ev_if ((0 : Int) ≤ a ∧ a < (ev_aln 639 : Int)) (ev_b (s23.1 639 (Int.toNat a)) fun x42 => if x42 < 2 then (some ((-4), s23)) else (if g ≤ 0 then (K116  s23) else (some ((-4), s23)))))) fun K93 => if e ≠ 1 then (K93  s12) else (ev_if ((0 : Int) ≤ a ∧ a < (ev_aln 639 : Int)) (ev_b (s12.1 639 (Int.toNat a)) fun x46 => if x46 = 0 then (some ((-4), s12)) else (K93  s12)))
/-- the reference: what is asked is there, or not -/
theorem ref_330a (hn : 0 ≤ y ∧ y ≤ 12) (h5 : T.1 621 5 = y) : (((0 ≤ a ∧ a < y) ∧ (0 ≤ b ∧ b < 3) ∧ (0 ≤ x ∧ x ≤ T.1 707 b.toNat) ∧ 0 ≤ g ∧ g ≤ T.1 636 a.toNat) → (0 ≤ e ∧ e ≤ 2) → jm_330 Q e a b x g T = if e ≠ 0 then F330 Q e a b x g (ev_pI T 621 0 0) else (ev_bd (jm_328 Q a b x g (ev_pI T 621 0 0)) fun x49 s48 => some (x49, s48))) ∧ (((0 ≤ a ∧ a < y) ∧ (0 ≤ b ∧ b < 3) ∧ (0 ≤ x ∧ x ≤ T.1 707 b.toNat) ∧ 0 ≤ g ∧ g ≤ T.1 636 a.toNat) → ¬ (0 ≤ e ∧ e ≤ 2) → jm_330 Q e a b x g T = some (0, ev_pI T 621 0 2)) ∧ (¬ ((0 ≤ a ∧ a < y) ∧ (0 ≤ b ∧ b < 3) ∧ (0 ≤ x ∧ x ≤ T.1 707 b.toNat) ∧ 0 ≤ g ∧ g ≤ T.1 636 a.toNat) → jm_330 Q e a b x g T = some (0, ev_pI T 621 0 1)) := by
  have l36 : ev_aln 636 = 13 := al_K.2.2.2.2.2.2.2.2.2.2.2.1
  have c := c273 (Q := Q) (a := a) h5 hn
  refine ⟨fun h he => ?_, fun h he => ?_, fun h => ?_⟩
  · obtain ⟨ha, hb, hx, hg⟩ := h
    unfold jm_330
    rw [c, sp_bd, sp_jn, sp_jn, if_pos ha]
    try dsimp only
    rw [if_neg (by decide)]
    try dsimp only
    rw [sp_326y hb hx, sp_bd, if_neg (by decide)]
    try dsimp only
    rw [sp_if (by rw [l36]; omega), sp_b, sp_222, sp_bd, sp_in1.1 hg, if_pos (by decide)]
    try dsimp only
    rw [sp_222, sp_bd, sp_in1.1 he, if_neg (by decide)]
    try dsimp only
    rw [sp_b, sp_b, rd_eq, if_pos (Int.le_refl 0)]
    rfl
  · obtain ⟨ha, hb, hx, hg⟩ := h
    unfold jm_330
    rw [c, sp_bd, sp_jn, sp_jn, if_pos ha]
    try dsimp only
    rw [if_neg (by decide)]
    try dsimp only
    rw [sp_326y hb hx, sp_bd, if_neg (by decide)]
    try dsimp only
    rw [sp_if (by rw [l36]; omega), sp_b, sp_222, sp_bd, sp_in1.1 hg, if_pos (by decide)]
    try dsimp only
    rw [sp_222, sp_bd, sp_in1.2 he, if_pos rfl]
    try dsimp only
    rw [sp_b, sp_b, rd_eq, if_neg (by decide)]
  · unfold jm_330
    rw [c, sp_bd, sp_jn, sp_jn]
    by_cases ha : 0 ≤ a ∧ a < y
    · rw [if_pos ha, if_neg (by decide)]
      by_cases hbx : (0 ≤ b ∧ b < 3) ∧ 0 ≤ x ∧ x ≤ T.1 707 b.toNat
      · rw [sp_326y hbx.1 hbx.2, sp_bd, if_neg (by decide)]
        try dsimp only
        rw [sp_if (by rw [l36]; omega), sp_b, sp_222, sp_bd, sp_in1.2 (fun z => h ⟨ha, hbx.1, hbx.2, z⟩), if_neg (by decide)]
        try dsimp only
        rw [sp_b, sp_b, rd_eq, if_neg (by decide)]
      · rw [sp_326n hbx, sp_bd, if_pos rfl]
        try dsimp only
        rw [sp_b, sp_b, rd_eq, if_neg (by decide)]
    · rw [if_neg ha, if_pos rfl]
      try dsimp only
      rw [sp_b, sp_b, rd_eq, if_neg (by decide)]
theorem al_639 : ev_aln 639 = 13 ∨ ev_aln 639 = 12 := by decide +kernel
/-- the class's engines 1 and 2 -/
theorem c205 (hK : sp_PT S) (ha : 0 ≤ a ∧ a < S.1 0 5) (hb : 0 ≤ b ∧ b < 3) (he : e = 1 ∨ e = 2) : jm_205 Q e a b x g S = (if (e = 1 ∧ S.1 (313 + 20 * a.toNat) 14 ≠ 0) ∨ (e = 2 ∧ S.1 (313 + 20 * a.toNat) 15 ≠ 0 ∧ g = 0) then ev_bd (jm_157 Q (if e = 1 then 284 else 294) (313 + 20 * a.toNat + 12 + 1) (263 + 2 * b.toNat + 1) x S) fun _ s24 => ev_bd (jm_159 Q (if e = 1 then 284 else 294) g s24) fun x26 s25 => some (x26, s25) else some (-4, S)) := by
  unfold jm_205
  rw [(sp_200 hK).1 ha, sp_bd, sp_1b.1 hb, sp_bd, if_neg (by omega)]
  try dsimp only
  rw [if_neg (by omega)]
  try dsimp only
  rw [sp_jn, show 313 + 20 * a.toNat + 1 - 1 = 313 + 20 * a.toNat from rfl]
  rcases he with rfl | rfl
  · rw [if_neg (by decide)]
    try dsimp only
    rw [sp_b]
    try dsimp only
    by_cases z : S.1 (313 + 20 * a.toNat) 14 ≠ 0
    · rw [if_pos z]
      try dsimp only
      rw [if_pos (Or.inl ⟨rfl, z⟩)]
      try dsimp only
      rw [sp_jn, if_neg (by decide)]
      try dsimp only
      rw [if_pos rfl]
    · rw [if_neg z, if_neg (by omega)]
  · rw [if_pos (by decide)]
    try dsimp only
    rw [sp_b, sp_jn]
    by_cases z : S.1 (313 + 20 * a.toNat) 15 = 0
    · rw [if_pos z]
      try dsimp only
      rw [if_neg (fun q => q rfl), if_neg (by omega)]
    · rw [if_neg z]
      by_cases w : g ≠ 0
      · rw [if_pos w]
        try dsimp only
        rw [if_neg (fun q => q rfl), if_neg (by omega)]
      · rw [if_neg w]
        try dsimp only
        rw [if_pos (by decide)]
        try dsimp only
        rw [if_pos (Or.inr ⟨rfl, z, by omega⟩)]
        try dsimp only
        rw [sp_jn, if_pos (by decide)]
        try dsimp only
        rw [if_neg (by decide)]
theorem op_12 (hS : HSIM Q S) (hQ : 1000000 ≤ Q) (hK : sp_PT S) (hB : sp_BR S) (hG : SG S) (h8 : ∀ b, b < 3 → S.1 (263 + 2 * b) 1 ≤ 80) (hT1 : THc 284 20 B S) (hT2 : THc 294 1 B S) (hb : B ≤ 1999999000) (hL : L ≤ 3072) (hj : j + 6 ≤ L) : ∃ S2, (∀ K, ja_896 Q L xs (j : Int) K S = K S2) ∧ sp_FE S S2 ∧ THc 284 20 (B + 90) S2 ∧ THc 294 1 (B + 90) S2 := by
  obtain ⟨e, he⟩ : ∃ e, e = (xs (Int.toNat ((j : Int) + 1))).toInt := ⟨_, rfl⟩
  obtain ⟨a, ha⟩ : ∃ a, a = (xs (Int.toNat ((j : Int) + 2))).toInt := ⟨_, rfl⟩
  obtain ⟨b, hb'⟩ : ∃ b, b = (xs (Int.toNat ((j : Int) + 3))).toInt := ⟨_, rfl⟩
  obtain ⟨x, hx⟩ : ∃ x, x = (xs (Int.toNat ((j : Int) + 4))).toInt := ⟨_, rfl⟩
  obtain ⟨g, hg⟩ : ∃ g, g = (xs (Int.toNat ((j : Int) + 5))).toInt := ⟨_, rfl⟩
  obtain ⟨k1, k2, k3⟩ := hK.1
  have eqv : ((0 ≤ a ∧ a < S.1 0 5) ∧ (0 ≤ b ∧ b < 3) ∧ (0 ≤ x ∧ x ≤ S.1 (263 + 2 * b.toNat) 1) ∧ (0 ≤ g ∧ g ≤ S.1 (313 + 20 * a.toNat) 12)) ↔ ((0 ≤ a ∧ a < S.1 0 5) ∧ (0 ≤ b ∧ b < 3) ∧ (0 ≤ x ∧ x ≤ S.1 707 b.toNat) ∧ 0 ≤ g ∧ g ≤ S.1 636 a.toNat) := by
    have e1 : 0 ≤ b ∧ b < 3 → S.1 707 b.toNat = S.1 (263 + 2 * b.toNat) 1 := fun h => (hB b.toNat (by omega)).2.2.1
    have e2 : 0 ≤ a ∧ a < S.1 0 5 → S.1 (313 + 20 * a.toNat) 12 = S.1 636 a.toNat := fun h => (kp_num (hK.2 a.toNat (by omega))).1.1
    constructor
    · rintro ⟨y1, y2, y3, y4⟩
      rw [← e1 y2] at y3
      rw [e2 y1] at y4
      exact ⟨y1, y2, y3, y4⟩
    · rintro ⟨y1, y2, y3, y4⟩
      rw [e1 y2] at y3
      rw [← e2 y1] at y4
      exact ⟨y1, y2, y3, y4⟩
  -- a refusal
  have no : ∀ cc : Int, cc ≠ 0 → jm_375 Q (0 + 1) e a b x g (723 + 1) S = some (cc, ev_tick S) → jm_330 Q e a b x g (ev_tick S) = some (0, ev_pI (ev_tick S) 621 0 cc) → ∃ S2, (∀ K, ja_896 Q L xs (j : Int) K S = K S2) ∧ sp_FE S S2 ∧ THc 284 20 (B + 90) S2 ∧ THc 294 1 (B + 90) S2 := fun cc c0 h1 h2 => by
    have fr : sp_FE S (ev_pI (ev_tick S) 621 0 cc) := FE_of (FS_of sp_F_no (fun c g y => Or.inl ⟨y.1, Or.inl y.2⟩))
    refine ⟨_, fun K => la_12 (c := cc) (b := 0) hL hj (by rw [← he, ← ha, ← hb', ← hx, ← hg]; exact h1) (by rw [← he, ← ha, ← hb', ← hx, ← hg]; exact h2) rd_eq (fun q => absurd q c0), fr, THc_c hT1 (fun c g y1 y2 => rd_nk (by omega)) (fun _ => rfl) (by omega), THc_c hT2 (fun c g y1 y2 => rd_nk (by omega)) (fun _ => rfl) (by omega)⟩
  by_cases h : (0 ≤ a ∧ a < S.1 0 5) ∧ (0 ≤ b ∧ b < 3) ∧ (0 ≤ x ∧ x ≤ S.1 (263 + 2 * b.toNat) 1) ∧ (0 ≤ g ∧ g ≤ S.1 (313 + 20 * a.toNat) 12)
  · have h203 := (sp_203 (Q := Q) hK).1 h
    have hr := eqv.mp h
    by_cases h2 : 0 ≤ e ∧ e ≤ 2
    · sorry
    · refine no 2 (by decide) (lw_12_x1 e a b x g ?_) ((ref_330a (T := ev_tick S) ⟨k1, k2⟩ k3).2.1 hr h2)
      unfold jm_178
      rw [h203, sp_bd, if_pos (by decide)]
      by_cases z : e < 0
      · rw [if_pos z]
      · rw [if_neg z, if_neg (by omega)]
  · have h203 := (sp_203 (Q := Q) hK).2 h
    refine no 1 (by decide) (lw_12_x0 e a b x g ?_) ((ref_330a (T := ev_tick S) ⟨k1, k2⟩ k3).2.2 (fun z => h (eqv.mpr z)))
    unfold jm_178
    rw [h203, sp_bd, if_neg (fun z => z rfl)]
end ORE
