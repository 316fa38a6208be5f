/-! SEARCH: falling back, each machine by itself -/
section OPZY
variable {Q k p N M m n h us u w len b v vs ls r x d l : Nat} {φ ψ own up lo : Nat → Nat} {S S1 S2 T T1 U X : ev_St} {c f g x0 td nd had th dp fl y a al : Int}
/-- the class's numbers as it falls back -/
def CB (S : ev_St) (h n : Nat) (x0 : Int) : Prop := S.1 281 9 = (h : Int) ∧ S.1 281 10 = 0 ∧ S.1 281 14 = (n : Int) ∧ S.1 281 11 = x0
theorem rd8 {β : Type} {j : Nat} (hb : b + 1 ≤ 1002) (hj : 1 ≤ j ∧ j ≤ 5) {a : Int} (ha : a = ((6 * b : Nat) : Int)) (K : Int → Int → Option β) : (ev_ck (a + (j : Int)) fun x5 => ev_if ((0 : Int) ≤ x5 ∧ x5 < (ev_aln 283 : Int)) (ev_b (S.1 283 (Int.toNat x5)) (K x5))) = K (a + (j : Int)) (S.1 283 (6 * b + j)) := by
  rw [sp_ck (by omega), al_Sc.2, sp_if (by omega), sp_b, ha, show Int.toNat (((6 * b : Nat) : Int) + (j : Int)) = 6 * b + j from by omega]
theorem rd8s {β : Type} {j : Nat} (hb : b + 1 ≤ 1002) (hj : 1 ≤ j ∧ j ≤ 5) (K : Int → Option β) : (ev_ck (((6 * b : Nat) : Int) + (j : Int)) fun x5 => ev_if ((0 : Int) ≤ x5 ∧ x5 < (ev_aln 283 : Int)) (ev_b (S.1 283 (Int.toNat x5)) K)) = K (S.1 283 (6 * b + j)) := by
  rw [sp_ck (by omega), al_Sc.2, sp_if (by omega), sp_b, show Int.toNat (((6 * b : Nat) : Int) + (j : Int)) = 6 * b + j from by omega]
theorem CB_9 (hN : CB S h n x0) : CB (ev_pI S 281 9 (b : Int)) b n x0 := ⟨rfl, hN.2.1, hN.2.2.1, hN.2.2.2⟩
/-- a choice is taken up: the class -/
theorem k_rst (hN : CB S h n x0) (hc : S.1 281 2 = c) (hb : b + 1 ≤ 1002) (hg : S.1 283 (6 * b + 4) = g) (hu : S.1 283 (6 * b + 5) = (u : Int)) : ∃ S1, jm_132 Q ((6 * b : Nat) : Int) a f S = some ((), S1) ∧ (∀ v h2, AC v h2 S S1) ∧ CN S1 c a f g u h n x0 := by
  obtain ⟨n9, n10, n14, n11⟩ := hN
  obtain ⟨r3, r4, r5, r7⟩ := pRst_at (S := S) (h := b) (a := a) (b := f)
  have o : ∀ g, ¬ (g = 3 ∨ g = 4 ∨ g = 5 ∨ g = 7) → (pRst S b a f).1 281 g = S.1 281 g := fun g z => (pRst_oth (by omega)).1
  exact ⟨_, cs_rst hb, fun v h2 => AC_t AC_r, ⟨by rw [o _ (by omega)]; exact hc, r3, r4, by rw [r5, hg]⟩, by rw [r7, hu], by rw [o _ (by omega)]; exact n9, by rw [o _ (by omega)]; exact n10, by rw [o _ (by omega)]; exact n14, by rw [o _ (by omega)]; exact n11⟩
/-- behind a look for nothing -/
theorem w_134 {kd bn : Nat} {u0 : Nat} (hA : STA k p N M φ ψ own up lo U) (hB : BAS k p U w len S T) (hN : CB S h n x0) (hb : b + 1 ≤ 1002) (hbn : bn < M) (h1 : S.1 283 (6 * b + 1) = 4 * (bn : Int)) (h3 : S.1 283 (6 * b + 3) = (u0 : Int)) (hk : U.1 (k + 1) bn = (kd : Int)) (h7 : S.1 281 7 = (us : Int)) (hu : u0 + 4 ≤ us ∧ us ≤ 76072) (hg : S.1 283 (6 * b + 4) = g) (h5 : S.1 283 (6 * b + 5) = (u : Int)) : (kd ≠ 21 ∧ kd ≠ 23 → jm_134 Q ((6 * b : Nat) : Int) S = some (0, S)) ∧ (kd = 21 ∨ kd = 23 → ∃ S1, jm_134 Q ((6 * b : Nat) : Int) S = some (1, S1) ∧ (∀ v h2, AC v h2 S S1) ∧ CN S1 (U.1 (k + 7) bn) (S.1 282 (u0 + 2)) (S.1 282 u0) g u h n x0) := by
  have hM := (sa_num hA).1.2.2
  obtain ⟨⟨d1, d2⟩, _⟩ := code_3 (show bn < 400 by omega)
  have pre : jm_134 Q ((6 * b : Nat) : Int) S = (ev_jn (fun (s24 : ev_St) => ev_bd (jm_126 Q (u0 : Int) s24) fun x26 s25 => if x26 ≠ 0 then (ev_ck ((u0 : Int) + 2) fun x28 => ev_if ((0 : Int) ≤ x28 ∧ x28 < (ev_aln 282 : Int)) (ev_b (s25.1 282 (Int.toNat x28)) fun x29 => ev_if ((0 : Int) ≤ (u0 : Int) ∧ (u0 : Int) < (ev_aln 282 : Int)) (ev_b (s25.1 282 (Int.toNat (u0 : Int))) fun x30 => ev_bd (jm_132 Q ((6 * b : Nat) : Int) x29 x30 s25) fun _ s31 => ev_b (s31.2.2.1 281 0) fun r32 => ev_if (r32 ≠ 0) (ev_if ((0 : Int) ≤ (bn : Int) ∧ (bn : Int) < (ev_aln (((r32 - 1) + 7)) : Int)) (ev_b (s31.1 (((r32 - 1) + 7)) (Int.toNat (bn : Int))) fun x34 => ev_b (ev_pI s31 281 2 x34) fun s35 => some ((1 : Int), s35)))))) else (some (0, s25))) fun K60 => if (kd : Int) = 21 then (K60 S) else (if (kd : Int) ≠ 23 then (some (0, S)) else (K60 S))) := by
    have e1 := rd8s (S := S) (β := Int × ev_St) (j := 1) hb (by omega)
    have e3 := rd8s (S := S) (β := Int × ev_St) (j := 3) hb (by omega)
    unfold jm_134
    rw [show (((6 * b : Nat) : Int) + 1) = ((6 * b : Nat) : Int) + ((1 : Nat) : Int) from rfl, e1, h1, sp_b, d1, show (((6 * b : Nat) : Int) + 3) = ((6 * b : Nat) : Int) + ((3 : Nat) : Int) from rfl, e3, h3, rdn hA hB hbn, sp_jn, if_neg (by decide)]
    try dsimp only
    rw [rdk (j := 1) hA hB hbn (by omega), hk]
  refine ⟨fun z => by rw [pre, sp_jn, if_neg (by omega), if_pos (by omega)], fun z => ?_⟩
  obtain ⟨S1, s1, s2, s3⟩ := k_rst (Q := Q) (a := S.1 282 (u0 + 2)) (f := S.1 282 u0) hN (rfl : S.1 281 2 = S.1 281 2) hb hg h5
  have bS := BAS_m hB (s2 0 0) (AR_r (T := T) (vs := 0) (h := 0) (ls := 0))
  refine ⟨_, ?_, fun v h2 => AC_i (s2 v h2), CN_2 s3⟩
  have tl : ((fun (s24 : ev_St) => ev_bd (jm_126 Q (u0 : Int) s24) fun x26 s25 => if x26 ≠ 0 then (ev_ck ((u0 : Int) + 2) fun x28 => ev_if ((0 : Int) ≤ x28 ∧ x28 < (ev_aln 282 : Int)) (ev_b (s25.1 282 (Int.toNat x28)) fun x29 => ev_if ((0 : Int) ≤ (u0 : Int) ∧ (u0 : Int) < (ev_aln 282 : Int)) (ev_b (s25.1 282 (Int.toNat (u0 : Int))) fun x30 => ev_bd (jm_132 Q ((6 * b : Nat) : Int) x29 x30 s25) fun _ s31 => ev_b (s31.2.2.1 281 0) fun r32 => ev_if (r32 ≠ 0) (ev_if ((0 : Int) ≤ (bn : Int) ∧ (bn : Int) < (ev_aln (((r32 - 1) + 7)) : Int)) (ev_b (s31.1 (((r32 - 1) + 7)) (Int.toNat (bn : Int))) fun x34 => ev_b (ev_pI s31 281 2 x34) fun s35 => some ((1 : Int), s35)))))) else (some (0, s25))) S) = some (1, ev_pI S1 281 2 (U.1 (k + 7) bn)) := by
    try dsimp only
    rw [(cs_is h7 hu.2).2 (by omega) (by omega), sp_bd, if_pos (by decide)]
    try dsimp only
    rw [rdc2 (by omega), rdc0 (by omega), s1, sp_bd, rdk (j := 7) hA bS hbn (by omega), sp_b]
  rw [pre, sp_jn]
  by_cases z1 : (kd : Int) = 21
  · rw [if_pos z1]
    exact tl
  · rw [if_neg z1, if_neg (by omega)]
    exact tl
/-- a look behind is begun further ahead -/
theorem w_133 {kd bn y : Nat} (hy : y ≤ 1000) (hA : STA k p N M φ ψ own up lo U) (hB : BAS k p U w len S T) (hN : CB S b n x0) (hb : b + 1 ≤ 1002) (hbn : bn < M) (h1 : S.1 283 (6 * b + 1) = 4 * (bn : Int)) (hk : U.1 (k + 1) bn = (kd : Int)) (h2 : 22 ≤ kd → S.1 283 (6 * b + 2) = (y : Int)) (h3 : S.1 283 (6 * b + 3) = f) (hg : S.1 283 (6 * b + 4) = g) (h5 : S.1 283 (6 * b + 5) = (u : Int)) : (kd < 22 ∨ y = 0 → jm_133 Q ((6 * b : Nat) : Int) S = some (0, S)) ∧ (22 ≤ kd → 0 < y → (n < 1000 → ∃ S1, jm_133 Q ((6 * b : Nat) : Int) S = some (1, S1) ∧ (∀ v, AC v b S S1) ∧ CN S1 (U.1 (k + 6) bn) ((y - 1 : Nat) : Int) f g u (b + 1) (n + 1) x0 ∧ S1.1 283 (6 * b + 2) = ((y - 1 : Nat) : Int) ∧ ∀ i, i ≠ 6 * b + 2 → S1.1 283 i = S.1 283 i) ∧ (1000 ≤ n → ∃ S1, jm_133 Q ((6 * b : Nat) : Int) S = some (1, S1) ∧ S1.1 281 10 = 1)) := by
  have hM := (sa_num hA).1.2.2
  obtain ⟨l82, l83⟩ := al_Sc
  obtain ⟨⟨d1, d2⟩, _⟩ := code_3 (show bn < 400 by omega)
  obtain ⟨n9, n10, n14, n11⟩ := hN
  have e1 := rd8s (S := S) (β := Int × ev_St) (j := 1) hb (by omega)
  have bl0 : ev_bl 0 := Or.inl rfl
  have bl1 : ev_bl 1 := Or.inr rfl
  refine ⟨fun z => ?_, fun z1 z2 => ?_⟩
  · unfold jm_133
    rw [show (((6 * b : Nat) : Int) + 1) = ((6 * b : Nat) : Int) + ((1 : Nat) : Int) from rfl, e1, h1, sp_b, d1, rdn hA hB hbn, sp_jn, sp_jn, if_neg (by decide)]
    try dsimp only
    rw [rdk (j := 1) hA hB hbn (by omega), hk]
    by_cases w1 : (kd : Int) < 22
    · rw [if_pos w1]
      try dsimp only
      rw [if_pos rfl]
      try dsimp only
      rw [sp_b, n10, sp_if bl0]
    · have e2 := rd8s (S := S) (β := Int × ev_St) (j := 2) hb (by omega)
      rw [if_neg w1]
      try dsimp only
      rw [if_neg (by decide)]
      try dsimp only
      rw [show (((6 * b : Nat) : Int) + 2) = ((6 * b : Nat) : Int) + ((2 : Nat) : Int) from rfl, e2, h2 (by omega), if_pos (by omega)]
      try dsimp only
      rw [sp_b, n10, sp_if bl0]
  · have e2 := rd8s (S := S) (β := Int × ev_St) (j := 2) hb (by omega)
    have pre : jm_133 Q ((6 * b : Nat) : Int) S = (ev_bd (jm_123 Q S) fun x24 s23 => if x24 ≠ 0 then (ev_ck (((6 * b : Nat) : Int) + 2) fun x26 => ev_if ((0 : Int) ≤ x26 ∧ x26 < (ev_aln 283 : Int)) (ev_b (s23.1 283 (Int.toNat x26)) fun x27 => ev_ck (x27 - 1) fun x28 => ev_if ((0 : Int) ≤ x26 ∧ x26 < (ev_aln 283 : Int)) (ev_b (ev_pI s23 283 (Int.toNat x26) x28) fun s29 => ev_b (s29.1 281 9) fun x30 => ev_ck (x30 + 1) fun x31 => ev_b (ev_pI s29 281 9 x31) fun s32 => ev_ck (((6 * b : Nat) : Int) + 2) fun x33 => ev_if ((0 : Int) ≤ x33 ∧ x33 < (ev_aln 283 : Int)) (ev_b (s32.1 283 (Int.toNat x33)) fun x34 => ev_ck (((6 * b : Nat) : Int) + 3) fun x35 => ev_if ((0 : Int) ≤ x35 ∧ x35 < (ev_aln 283 : Int)) (ev_b (s32.1 283 (Int.toNat x35)) fun x36 => ev_bd (jm_132 Q ((6 * b : Nat) : Int) x34 x36 s32) fun _ s37 => ev_b (s37.2.2.1 281 0) fun r38 => ev_if (r38 ≠ 0) (ev_if ((0 : Int) ≤ (bn : Int) ∧ (bn : Int) < (ev_aln (((r38 - 1) + 6)) : Int)) (ev_b (s37.1 (((r38 - 1) + 6)) (Int.toNat (bn : Int))) fun x40 => ev_b (ev_pI s37 281 2 x40) fun s41 => some ((1 : Int), s41)))))))) else (ev_b (s23.1 281 10) fun x42 => ev_if (ev_bl x42) (some (x42, s23)))) := by
      unfold jm_133
      rw [show (((6 * b : Nat) : Int) + 1) = ((6 * b : Nat) : Int) + ((1 : Nat) : Int) from rfl, e1, h1, sp_b, d1, rdn hA hB hbn, sp_jn, sp_jn, if_neg (by decide)]
      try dsimp only
      rw [rdk (j := 1) hA hB hbn (by omega), hk, if_neg (by omega)]
      try dsimp only
      rw [if_neg (by decide), show (((6 * b : Nat) : Int) + 2) = ((6 * b : Nat) : Int) + ((2 : Nat) : Int) from rfl, e2, h2 z1, if_neg (by omega)]
    refine ⟨fun z3 => ?_, fun z3 => ⟨ev_pI S 281 10 1, by rw [pre, (cs_step n14).2 z3, sp_bd, if_neg (by decide), sp_b, rd_eq, sp_if bl1], rd_eq⟩⟩
    obtain ⟨Z, hZ⟩ : ∃ Z, Z = ev_pI S 281 14 ((n + 1 : Nat) : Int) := ⟨_, rfl⟩
    obtain ⟨Y, hY⟩ : ∃ Y, Y = ev_pI Z 283 (6 * b + 2) ((y - 1 : Nat) : Int) := ⟨_, rfl⟩
    obtain ⟨W, hW⟩ : ∃ W, W = ev_pI Y 281 9 ((b + 1 : Nat) : Int) := ⟨_, rfl⟩
    have y9 : Y.1 281 9 = (b : Int) := by
      rw [hY, rd_nk (by decide), hZ, rd_nf (by decide)]
      exact n9
    have z2v : Z.1 283 (6 * b + 2) = (y : Int) := by
      rw [hZ, rd_nk (by decide)]
      exact h2 z1
    have w3i : ∀ i, i ≠ 6 * b + 2 → W.1 283 i = S.1 283 i := fun i hi => by rw [hW, rd_nk (by decide), hY, rd_nf hi, hZ, rd_nk (by decide)]
    have w32 : W.1 283 (6 * b + 2) = ((y - 1 : Nat) : Int) := by rw [hW, rd_nk (by decide), hY, rd_eq]
    have cW2 : CB W (b + 1) (n + 1) x0 := by
      refine ⟨by rw [hW, rd_eq], ?_, ?_, ?_⟩
      · rw [hW, rd_nf (by decide), hY, rd_nk (by decide), hZ, rd_nf (by decide)]
        exact n10
      · rw [hW, rd_nf (by decide), hY, rd_nk (by decide), hZ, rd_eq]
      · rw [hW, rd_nf (by decide), hY, rd_nk (by decide), hZ, rd_nf (by decide)]
        exact n11
    have aW : ∀ v, AC v b S W := fun v => by
      rw [hW, hY, hZ]
      exact AC_i (AC_s (AC_i AC_r) (by omega))
    obtain ⟨S1, s1, s2, s3⟩ := k_rst (Q := Q) (a := ((y - 1 : Nat) : Int)) (f := f) (g := g) cW2 (rfl : W.1 281 2 = W.1 281 2) hb (by rw [w3i _ (by omega)]; exact hg) (by rw [w3i _ (by omega)]; exact h5)
    have bS := BAS_m (BAS_m hB (aW 0) (AR_r (T := T) (vs := 0) (h := b) (ls := 0))) (s2 0 0) (AR_r (T := T) (vs := 0) (h := 0) (ls := 0))
    have si : ∀ i, S1.1 283 i = W.1 283 i := fun i => (s2 0 (i + 1)).2.1 i (by omega)
    refine ⟨ev_pI S1 281 2 (U.1 (k + 6) bn), ?_, fun v => AC_i (AC_tr (aW v) (s2 v b) (Nat.le_refl _) (Nat.le_refl _)), CN_2 s3, ?_, fun i hi => ?_⟩
    · have e3 := rd8s (S := W) (β := Int × ev_St) (j := 3) hb (by omega)
      have e2W := rd8s (S := W) (β := Int × ev_St) (j := 2) hb (by omega)
      rw [pre, (cs_step n14).1 z3, sp_bd, if_pos (by decide)]
      try dsimp only
      rw [← hZ, sp_ck (by omega), l83, sp_if (by omega), sp_b, show Int.toNat (((6 * b : Nat) : Int) + 2) = 6 * b + 2 from by omega, z2v, sp_ck (by omega), sp_if (by omega), sp_b, show (y : Int) - 1 = ((y - 1 : Nat) : Int) from by omega, ← hY, sp_b, y9, sp_ck (by omega), sp_b, show (b : Int) + 1 = ((b + 1 : Nat) : Int) from by omega, ← hW, ← l83, show (((6 * b : Nat) : Int) + 2) = ((6 * b : Nat) : Int) + ((2 : Nat) : Int) from rfl, e2W, w32, show (((6 * b : Nat) : Int) + 3) = ((6 * b : Nat) : Int) + ((3 : Nat) : Int) from rfl, e3, w3i _ (by omega), h3, s1, sp_bd, rdk (j := 6) hA bS hbn (by omega), sp_b]
    · rw [rd_nk (by decide), si]
      exact w32
    · rw [rd_nk (by decide), si]
      exact w3i i hi
/-- the reference's choice b, taken up: al tells whether all above it were given up -/
def R305 (Q : Nat) (b : Nat) (al : Int) (T : ev_St) : Option (Int × ev_St) := (ev_if ((0 : Int) ≤ (b : Int) ∧ (b : Int) < (ev_aln 687 : Int)) (ev_b (T.1 687 (Int.toNat (b : Int))) fun x34 => ev_if ((0 : Int) ≤ (b : Int) ∧ (b : Int) < (ev_aln 689 : Int)) (ev_b (T.1 689 (Int.toNat (b : Int))) fun x35 => ev_bd (jm_293 Q (b : Int) T) fun _ s36 => if x34 ≠ 0 then (if x34 ≠ 1 then (if x34 ≠ 2 then (if x34 ≠ 3 then (ev_jn (fun  (s43 : ev_St) => ev_b (s43.1 621 80) fun x44 => ev_if ((0 : Int) ≤ x44 ∧ x44 < (ev_aln 629 : Int)) (ev_b (s43.1 629 (Int.toNat x44)) fun x45 => if x45 ≤ 0 then (ev_b (ev_pI s43 621 78 5) fun s47 => some ((-1), s47)) else (ev_b (ev_pI s43 621 78 4) fun s48 => some ((-1), s48)))) fun K230 => if x34 ≠ 5 then (K230  s36) else (if x35 ≤ 0 then (K230  s36) else (if al ≠ 0 then (K230  s36) else (ev_b (s36.1 621 81) fun x52 => ev_b (s36.1 621 80) fun x53 => ev_ck (x35 - 1) fun x54 => ev_bd (jm_297 Q x53 x54 s36) fun _ s55 => ev_b (s55.1 621 95) fun x56 => ev_ck (x56 - 1) fun x57 => ev_if ((0 : Int) ≤ x57 ∧ x57 < (ev_aln 690 : Int)) (ev_b (ev_pI s55 690 (Int.toNat x57) x52) fun s58 => some ((-1), s58)))))) else (ev_b (ev_pI s36 621 78 5) fun s59 => some ((-1), s59))) else (ev_b (s36.1 621 80) fun x60 => ev_bd (jm_300 Q x60 x35 s36) fun _ s61 => some ((-1), s61))) else (ev_b (ev_pI s36 621 78 4) fun s62 => some ((-1), s62))) else (ev_b (s36.1 621 80) fun x63 => ev_bd (jm_302 Q x63 1 s36) fun _ s64 => some ((-1), s64)))))
/-- the reference's state as the choice is taken up -/
theorem r_ret (h688 : T.1 688 b = nd) (h690 : T.1 690 b = y) (h691 : T.1 691 b = had) (h692 : T.1 692 b = th) (h693 : T.1 693 b = dp) (h694 : T.1 694 b = (vs : Int)) (h695 : T.1 695 b = (ls : Int)) (h78 : T.1 621 78 = td) (h75 : T.1 621 75 = (n : Int)) (h76 : T.1 621 76 = fl) (hb : b < 100000) : ∃ R, jm_293 Q (b : Int) T = some ((), R) ∧ (∀ v h2 l2, AR v h2 l2 T R) ∧ TN R td nd y had th dp vs b ls n fl := by
  obtain ⟨p1, p2, p3, p4, p5, p6, p7, p8⟩ := pRet_at (T := T) (u := b)
  have o : ∀ g, ¬ (g = 80 ∨ (81 ≤ g ∧ g ≤ 84) ∨ g = 88 ∨ g = 95 ∨ g = 105) → (pRet T b).1 621 g = T.1 621 g := fun g z => (pRet_oth (by omega)).1
  exact ⟨_, rf_ret hb, fun v h2 l2 => AR_t AR_r, ⟨by rw [o _ (by omega)]; exact h78, by rw [p8, h688], by rw [p2, h690], by rw [p3, h691], by rw [p4, h692], by rw [p5, h693]⟩, by rw [p6, h694], p1, by rw [p7, h695], by rw [o _ (by omega)]; exact h75, by rw [o _ (by omega)]; exact h76⟩
theorem r_305 (hA : STA k p N M φ ψ own up lo U) (hb : b < 100000) {R : ev_St} (hR : jm_293 Q (b : Int) T = some ((), R)) (bR : BAS k p U w len S R) (hm : m < N) (h80 : R.1 621 80 = ((320 * p + m : Nat) : Int)) : (T.1 687 b = 0 → ∀ T1, jm_302 Q ((320 * p + m : Nat) : Int) 1 R = some ((), T1) → R305 Q b al T = some (-1, T1)) ∧ (T.1 687 b = 2 → ∀ T1, jm_300 Q ((320 * p + m : Nat) : Int) (T.1 689 b) R = some ((), T1) → R305 Q b al T = some (-1, T1)) ∧ (T.1 687 b = 4 ∨ (T.1 687 b = 5 ∧ (T.1 689 b ≤ 0 ∨ al ≠ 0)) → R305 Q b al T = some (-1, ev_pI R 621 78 (if U.1 629 (320 * p + m) ≤ 0 then 5 else 4))) := by
  refine ⟨fun z T1 h1 => ?_, fun z T1 h1 => ?_, fun z => ?_⟩
  · unfold R305
    rw [rdh (by omega) hb, rdh (by omega) hb, hR, sp_bd, z, if_neg (by decide)]
    try dsimp only
    rw [sp_b, h80, h1, sp_bd]
  · unfold R305
    rw [rdh (by omega) hb, rdh (by omega) hb, hR, sp_bd, z, if_pos (by decide)]
    try dsimp only
    rw [if_pos (by decide)]
    try dsimp only
    rw [if_neg (by decide)]
    try dsimp only
    rw [sp_b, h80, h1, sp_bd]
  · have tl : ((fun (s43 : ev_St) => ev_b (s43.1 621 80) fun x44 => ev_if ((0 : Int) ≤ x44 ∧ x44 < (ev_aln 629 : Int)) (ev_b (s43.1 629 (Int.toNat x44)) fun x45 => if x45 ≤ 0 then (ev_b (ev_pI s43 621 78 5) fun s47 => some ((-1 : Int), s47)) else (ev_b (ev_pI s43 621 78 4) fun s48 => some ((-1), s48)))) R) = some (-1, ev_pI R 621 78 (if U.1 629 (320 * p + m) ≤ 0 then 5 else 4)) := by
      try dsimp only
      rw [sp_b, h80, rdT hA bR hm (by omega)]
      by_cases w : U.1 629 (320 * p + m) ≤ 0
      · rw [if_pos w]
        try dsimp only
        rw [if_pos w]
        try dsimp only
        rw [sp_b]
      · rw [if_neg w]
        try dsimp only
        rw [if_neg w]
        try dsimp only
        rw [sp_b]
    unfold R305
    rw [rdh (by omega) hb, rdh (by omega) hb, hR, sp_bd, if_pos (by omega)]
    try dsimp only
    rw [if_pos (by omega)]
    try dsimp only
    rw [if_pos (by omega)]
    try dsimp only
    rw [if_pos (by omega)]
    try dsimp only
    rw [sp_jn]
    rcases z with z | ⟨z, z2⟩
    · rw [if_pos (by omega)]
      exact tl
    · rw [if_neg (by omega)]
      by_cases w : T.1 689 b ≤ 0
      · rw [if_pos w]
        exact tl
      · rw [if_neg w, if_pos (z2.resolve_left w)]
        exact tl
theorem r_305b (hb : b < 100000) {R : ev_St} (hR : jm_293 Q (b : Int) T = some ((), R)) : (T.1 687 b = 1 → R305 Q b al T = some (-1, ev_pI R 621 78 4)) ∧ (T.1 687 b = 3 → R305 Q b al T = some (-1, ev_pI R 621 78 5)) ∧ (∀ y : Nat, T.1 687 b = 5 → T.1 689 b = (y : Int) → 0 < y ∧ y ≤ 1000 → al = 0 → R.1 621 80 = nd → ∀ (T1 : ev_St) (x1 : Int), jm_297 Q nd ((y - 1 : Nat) : Int) R = some ((), T1) → T1.1 621 95 = ((b + 1 : Nat) : Int) → R.1 621 81 = x1 → R305 Q b al T = some (-1, ev_pI T1 690 b x1)) := by
  have l5 := al_Sk.2.2.2.1
  refine ⟨fun z => ?_, fun z => ?_, fun y z1 z2 z3 z4 z5 T1 x1 h1 h2 h3 => ?_⟩
  · unfold R305
    rw [rdh (by omega) hb, rdh (by omega) hb, hR, sp_bd, z, if_pos (by decide)]
    try dsimp only
    rw [if_neg (by decide)]
    try dsimp only
    rw [sp_b]
  · unfold R305
    rw [rdh (by omega) hb, rdh (by omega) hb, hR, sp_bd, z, if_pos (by decide)]
    try dsimp only
    rw [if_pos (by decide)]
    try dsimp only
    rw [if_pos (by decide)]
    try dsimp only
    rw [if_neg (by decide)]
    try dsimp only
    rw [sp_b]
  · unfold R305
    rw [rdh (by omega) hb, rdh (by omega) hb, hR, sp_bd, z1, z2, if_pos (by decide)]
    try dsimp only
    rw [if_pos (by decide)]
    try dsimp only
    rw [if_pos (by decide)]
    try dsimp only
    rw [if_pos (by decide)]
    try dsimp only
    rw [sp_jn, if_neg (by decide)]
    try dsimp only
    rw [if_neg (by omega)]
    try dsimp only
    rw [if_neg (fun w => w z4)]
    try dsimp only
    rw [sp_b, h3, sp_b, z5, sp_ck (by omega), show (y : Int) - 1 = ((y - 1 : Nat) : Int) from by omega, h1, sp_bd, sp_b, h2, sp_ck (by omega), l5, show ((b + 1 : Nat) : Int) - 1 = (b : Int) from by omega, sp_if (by omega), sp_b, Int.toNat_natCast]
end OPZY
