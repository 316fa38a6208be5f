/-! SEARCH: both machines, from a start to its end -/
section OQD
variable {Q k p N M m n n2 h h2 us us2 vs vs2 ls ls2 w len x0 x y u v g a b r j t uu i : Nat} {C : Int} {φ ψ own up lo : Nat → Nat} {S S1 S2 T T1 T2 U X Y R : ev_St} {V : Nat → Nat → Nat → List KT → Nat → Int} {ks : List KT} {κ : KT} {c f td nd had th dp kd cd fr vv a1 a2 hh al x17 x18 gg : Int}
theorem okp_nil (q : okp x0 [] x) : x0 ≤ x := q
theorem pro_n (hX : FIX Q k p N M φ ψ own up lo U w len C V) (hP : PRs k p N φ ψ own up lo U w len x0 C V S T [] x n us h vs ls) : GZ Q x0 (j + 1) (1100 * (j + 1)) 1 S T := by
  obtain ⟨hA, hV, hw, hC7, hQ⟩ := hX
  have bd := bnS hV hC7 (hV.1 _ _ _ _ _) hP
  obtain ⟨hc, c2, t78, p1, p2⟩ := hP
  have hc0 := hc
  obtain ⟨hB, ⟨s3, s7, s9, s10, s14, s11⟩, ⟨t75, t76, t81, t84, t88, t95, t105⟩, ⟨b1, b2, b3, b4, b5, b6, b7⟩, hW, hC, ⟨ng, g1, g2⟩, hcp⟩ := hc
  obtain ⟨f1, v, f2, f3, f4⟩ := hC
  have l160 := hw.2.2.2.2.1
  have cc : S.1 281 2 = 4 * (φ 0 : Int) + 1 := c2
  have tn := cor_tn hc0 t78
  rw [f2] at tn
  obtain ⟨T1, r1, r2, r3⟩ := t4_0 (Q := Q) tn (by omega) f4
  obtain ⟨S1, hS1⟩ : ∃ S1, S1 = ev_pI S 281 12 (S.1 281 3) := ⟨_, rfl⟩
  have a1 : AC us h S S1 := by
    rw [hS1]
    exact AC_i AC_r
  have o : ∀ g, g ≠ 12 → S1.1 281 g = S.1 281 g := fun g hg => by rw [hS1, rd_nf hg]
  have s12 : S1.1 281 12 = (x : Int) := by rw [hS1, rd_eq, s3]
  have x0x := okp_nil b7
  have lnS : S1.1 (S1.2.2.1 281 1 - 1) 1 = (len : Int) := by
    rw [a1.2.2.1, hB.2.2.1.2, show w + 1 - 1 = w from rfl, a1.2.2.2 w 1 (by have := hw.2.2.1; omega), hB.1.1 w 1 (by have := hw.2.2.1; omega) (by have := hw.2.2.1; omega)]
    exact hw.2.2.2.1
  have bnd : T1.1 636 ((T1.1 621 79).toNat / 320) = S1.1 (S1.2.2.1 281 0 - 1) 12 := by
    have kp : k = 313 + 20 * p := hA.2.2.2
    have p12 := hA.2.2.1
    have n12 : U.1 k 12 = U.1 636 p := by
      have q := hA.1.2.2.1.1
      rw [sft_5 (Or.inr rfl)] at q
      exact q
    rw [r2.2.2.2.2 621 79 (by omega) (by omega), r2.2.2.2.2 636 _ (by omega) (by omega), hB.2.2.2.1, Int.toNat_natCast, Nat.mul_div_cancel_left p (by decide : 0 < 320), hB.2.1.1 636 p (by omega) (by omega) (by omega) (by omega), a1.2.2.1, hB.2.2.1.1, show k + 1 - 1 = k from rfl, a1.2.2.2 k 12 (by omega), hB.1.1 k 12 (by omega) (by omega), n12]
  obtain ⟨e, he1, he2⟩ := gl_grp (Q := Q) (S := S1) (T := T1) (us := us) (vs := ls) (n := ng) bnd (by rw [r2.2.2.2.2 621 73 (by omega) (by omega), hB.2.2.2.2.1]; exact lnS.symm) (by
    rw [o 5 (by decide), r3.1.2.2.2.1]
    exact GL_m a1 r2 (Nat.le_refl _) (Nat.le_refl _) g2) (by rw [o 7 (by decide)]; exact s7) (by omega) (by omega) (by omega) (by omega)
  have fnd : FND Q (x0 : Int) S1 T1 := ⟨by rw [o 11 (by decide)]; exact s11, by rw [s12, r3.1.2.2.1], by rw [s12]; omega, e, he1, he2, by rw [lnS, s12]; omega⟩
  have res : RESs Q (x0 : Int) 1 1 S1 T1 := Or.inr ⟨by rw [o 10 (by decide)]; exact s10, r3.2.2.2.2.2, ⟨n, b2, by rw [o 14 (by decide)]; exact s14, r3.2.2.2.2.1⟩, Or.inl ⟨rfl, rfl, fnd⟩⟩
  intro q q2 i h1 h2 h3
  obtain ⟨q, rfl⟩ : ∃ r, q = r + 1 := ⟨q - 1, by omega⟩
  obtain ⟨q2, rfl⟩ : ∃ r, q2 = r + 3 := ⟨q2 - 3, by omega⟩
  refine ⟨1, 1, S1, T1, ?_, ?_, res⟩
  · rw [ct_F hA hB ⟨by omega, by omega⟩ cc (by rw [f1]; decide), hS1]
  · rw [rt_4 t76 t78 r1, rt_0 r3.2.2.2.2.2 r3.1.1, rt_told r3.2.2.2.2.2 (by decide)]
theorem itm (hX : FIX Q k p N M φ ψ own up lo U w len C V) (ih : ∀ j2, j2 ≤ j → ALL Q k p N φ ψ own up lo U w len x0 C V j2) (hP : ITs k p N φ ψ own up lo U w len x0 C V m S T ks x n us h vs ls) (hm : mu own lo N n (cW T h) (dOf ks) (4 * (ψ m : Int)) ≤ j + 1) : GZ Q x0 (j + 1) (1100 * (j + 1) + 1) 1 S T := by
  have mN := hP.2.2.1
  rcases sa_rep hX.1 mN with ⟨y, _⟩ | ⟨y, _⟩
  · exact itm_0 hX (ih j (Nat.le_refl j)) hP y hm
  · rcases y with z | z
    · exact GZ_le (itm_1 hX ih hP z.1 hm) (Nat.le_refl _) (by omega)
    · exact GZ_le (itm_2 hX ih hP z.1 hm) (Nat.le_refl _) (by omega)
theorem pro_1 (hX : FIX Q k p N M φ ψ own up lo U w len C V) (ih : ∀ j2, j2 ≤ j → ALL Q k p N φ ψ own up lo U w len x0 C V j2) (hP : PRs k p N φ ψ own up lo U w len x0 C V S T (κ :: ks) x n us h vs ls) (e : κ.1 = 1) (hm : mu own lo N n (cW T h) (dOf (κ :: ks)) (cOf k p φ ψ U (κ :: ks)) ≤ j + 1) : GZ Q x0 (j + 1) (1100 * (j + 1) + 2) 1 S T := by
  have hX0 := hX
  obtain ⟨hA, hV, hw, hC7, hQ⟩ := hX
  have bd := bnS hV hC7 (hV.1 _ _ _ _ _) hP
  obtain ⟨hc, c2, t78, p1, p2⟩ := hP
  have hc0 := hc
  obtain ⟨hB, ⟨s3, s7, s9, s10, s14, s11⟩, ⟨t75, t76, t81, t84, t88, t95, t105⟩, ⟨b1, b2, b3, b4, b5, b6, b7⟩, hW, hC, ⟨ng, g1, g2⟩, hcp⟩ := hc
  obtain ⟨w1, w2, w3, w4⟩ := wk_1 hW.1 e
  obtain ⟨v, f1, f2, f3, f4, f5, f6⟩ := ch_1 hC e
  obtain ⟨m, a, b, hκ⟩ : ∃ m a b, κ = (1, m, a, b) := ⟨κ.2.1, κ.2.2.1, κ.2.2.2, by rw [← e]⟩
  subst hκ
  have nd := sa_node hA w1
  have cc : cOf k p φ ψ U ((1, m, a, b) :: ks) = 4 * (ψ m : Int) := rfl
  have ed : dOf ((1, m, a, b) :: ks) = dOf ks := rfl
  have el : lOf ((1, m, a, b) :: ks) = lOf ks := rfl
  have ez : zsOf k p N φ ψ own lo U ((1, m, a, b) :: ks) = zsOf k p N φ ψ own lo U ks := rfl
  have b7' : okp x0 ks x := b7.2
  have pv := hV.2.1 m a b ks x w1 w2 w3
  have v1 := hV.1 1 m 0 (nxK p U ks m) x
  rw [cc] at c2 hm
  rw [cc, posC_E, ez] at p1
  have own1 : own (ψ m) = m := nd.1.2.2.2.1
  rw [own1] at p1
  rw [ed] at hm
  have tn := cor_tn hc0 t78
  rw [f1, ed, el] at tn
  have bx : 0 ≤ bxK p U m ∧ bxK p U m ≤ 2 ∧ (U.1 627 (320 * p + m) ≠ -1 → bxK p U m = 2) := by
    unfold bxK
    by_cases z : U.1 627 (320 * p + m) = -1
    · rw [if_pos z]
      exact ⟨by omega, by omega, fun w => absurd z w⟩
    · rw [if_neg z]
      exact ⟨by omega, by omega, fun _ => rfl⟩
  have vsb : vs < 150000 ∧ (U.1 627 (320 * p + m) ≠ -1 → vs + 1 < 150000) := by
    refine ⟨bd.2.2.1, fun z => ?_⟩
    have := bx.2.2 z
    have b2' : n ≤ 1000 := b2
    omega
  rcases t4_1 (Q := Q) hA hB w1 tn (by omega) vsb.1 f4 f5 with ⟨y, T1, r1, r2, r3⟩ | ⟨t, y, T1, r1, r2, r3, r4, r5, r6, r7⟩
  · rw [f3] at r3
    obtain ⟨k1, k2, k3, k4, k5⟩ := COR_k hc0 (AC_r (us := us) (h := h) (S := S)) r2 (Nat.le_refl n) (Nat.le_refl us) (Nat.le_refl vs) (Nat.le_refl ls)
    have hcn : COR k p N φ ψ own up lo U w len x0 C V S T1 ks x n us h vs ls := cor_mk k1 (cor_cn hc0 c2) r3 ⟨b1, b2, b3, b4, b5, b6, b7'⟩ k2.2 (k3 h ks _ _ (Nat.le_refl h) f6) ⟨ng, g1, k4 _ _ _ g2⟩ k5
    have nk : nxK p U ks m = ks := if_pos y
    rw [nk] at pv
    have go := itm (m := m) hX0 ih ⟨⟨hcn, c2, r3.1.1, p1, by omega⟩, r3.1.2.1, w1, w2, w3, by
      unfold nxC2
      rw [if_pos y]
      exact w4⟩ (by rw [cW_c r2 h (Nat.le_refl h)]; exact hm)
    exact GZ_r go fun q => rt_4 t76 t78 r1
  · rcases sa_next hA w1 with ⟨y', _⟩ | ⟨t', y', y2, y3, y4, y5, y6⟩
    · have e1 : U.1 627 (320 * p + m) = -1 := y'
      omega
    have tt : t' = t := by
      have e1 : U.1 627 (320 * p + m) = (t' : Int) := y'
      omega
    subst tt
    have yy : U.1 627 (320 * p + m) = (t' : Int) := y
    have yn : U.1 627 (320 * p + m) ≠ -1 := by rw [yy]; omega
    rw [f3] at r3 r7
    obtain ⟨k1, k2, k3, k4, k5⟩ := COR_k hc0 (AC_r (us := us) (h := h) (S := S)) r2 (Nat.le_refl n) (Nat.le_refl us) (Nat.le_succ vs) (Nat.le_refl ls)
    have ch : CH k p φ ψ U S T1 us (vs + 1) ls h ((1, t', 0, 0) :: ks) (S.1 281 4) (vs : Int) := Or.inr ⟨vs, rfl, Nat.lt_succ_self vs, r7, Or.inl ⟨rfl, r4, r5, by rw [r6]; exact k3 h ks _ _ (Nat.le_refl h) f6⟩⟩
    have t18 : U.1 625 (320 * p + t') ≠ 18 := fun w => w3 (y5.mp w)
    have hcn : COR k p N φ ψ own up lo U w len x0 C V S T1 ((1, t', 0, 0) :: ks) x n us h (vs + 1) ls := cor_mk k1 (cor_cn hc0 c2) r3 ⟨b1, b2, b3, b4, b5, b6, ⟨fun z => absurd (show (1 : Nat) = 2 from z) (by decide), b7'⟩⟩ ⟨⟨y3, Or.inl ⟨rfl, by show t' ≠ 0; omega, t18, by rw [show up (1, t', 0, 0).2.1 = up m from y4]; exact w4⟩⟩, k2.2⟩ ch ⟨ng, g1, k4 _ _ _ g2⟩ k5
    have nk : nxK p U ks m = (1, t', 0, 0) :: ks := by
      unfold nxK
      rw [if_neg yn, yy, Int.toNat_natCast]
    rw [nk] at pv
    have b22 := bx.2.2 yn
    have go := itm (m := m) hX0 ih ⟨⟨hcn, c2, r3.1.1, p1, by omega⟩, r3.1.2.1, w1, w2, w3, by
      unfold nxC2
      rw [if_neg yn, yy, Int.toNat_natCast]
      rfl⟩ (by rw [cW_c r2 h (Nat.le_refl h)]; exact hm)
    exact GZ_r go fun q => rt_4 t76 t78 r1
theorem pro_all (hX : FIX Q k p N M φ ψ own up lo U w len C V) (ih : ∀ j2, j2 ≤ j → ALL Q k p N φ ψ own up lo U w len x0 C V j2) (hP : PRs k p N φ ψ own up lo U w len x0 C V S T ks x n us h vs ls) (hm : mu own lo N n (cW T h) (dOf ks) (cOf k p φ ψ U ks) ≤ j + 1) : GZ Q x0 (j + 1) (1100 * (j + 1) + 2) 1 S T := by
  have i0 := ih j (Nat.le_refl j)
  cases ks with
  | nil => exact GZ_le (pro_n hX hP) (Nat.le_refl _) (by omega)
  | cons κ ks =>
    have hw := hP.1.2.2.2.2.1.1.2
    rcases hw with y | y | y | y | y | y | y | y | y
    · exact pro_1 hX ih hP y.1 hm
    · exact GZ_le (pro_2 hX i0 hP y.1 hm) (Nat.le_refl _) (by omega)
    · exact GZ_le (pro_3 hX ih hP y.1 hm) (Nat.le_refl _) (by omega)
    · exact GZ_le (pro_4 hX i0 hP y.1 hm) (Nat.le_refl _) (by omega)
    · exact GZ_le (pro_lk hX i0 hP (Or.inl y.1) hm) (Nat.le_refl _) (by omega)
    · exact GZ_le (pro_lk hX i0 hP (Or.inr (Or.inl y.1)) hm) (Nat.le_refl _) (by omega)
    · exact GZ_le (pro_lk hX i0 hP (Or.inr (Or.inr (Or.inl y.1))) hm) (Nat.le_refl _) (by omega)
    · exact GZ_le (pro_8 hX i0 hP y.1 hm) (Nat.le_refl _) (by omega)
    · exact GZ_le (pro_lk hX i0 hP (Or.inr (Or.inr (Or.inr y.1))) hm) (Nat.le_refl _) (by omega)
theorem r7_all (hX : FIX Q k p N M φ ψ own up lo U w len C V) (ih : ∀ j2, j2 ≤ j → ALL Q k p N φ ψ own up lo U w len x0 C V j2) (hP : R7s k p N φ ψ own up lo U w len x0 C V r S T ks x n us h vs ls) (hm : mu own lo N n (cW T h) (dOf ks) (U.1 (k + 6) (φ r)) ≤ j + 1) : GZ Q x0 (j + 1) (1100 * (j + 1) + 3) 1 S T := by
  have hX0 := hX
  obtain ⟨hA, hV, hw, hC7, hQ⟩ := hX
  have bd := bnS hV hC7 (hV.1 _ _ _ _ _) hP.1
  obtain ⟨⟨hc, c2, t78, p1, p2⟩, t80, rN, h18, hcO⟩ := hP
  have hc0 := hc
  obtain ⟨hB, ⟨s3, s7, s9, s10, s14, s11⟩, ⟨t75, t76, t81, t84, t88, t95, t105⟩, ⟨b1, b2, b3, b4, b5, b6, b7⟩, hW, hC, ⟨ng, g1, g2⟩, hcp⟩ := hc
  have ro := (sa_row hA rN h18).2.2.2.2.1
  have pv := hV.2.2.2.2.2.2.1 r ks x rN h18
  have bg := (pos_bg hA).1 r rN h18
  have tn := cor_tn hc0 t78
  rw [t80] at tn
  obtain ⟨q1, q2⟩ := rt_7 (Q := Q) hA hB rN tn (by omega)
  rcases sa_child hA rN with ⟨y, _, _⟩ | ⟨y, y2, y3, y4, y5⟩
  · obtain ⟨T1, r1, r2, r3⟩ := q1 y
    rw [if_pos y] at ro
    obtain ⟨k1, k2, k3, k4, k5⟩ := COR_k hc0 (AC_r (us := us) (h := h) (S := S)) r2 (Nat.le_refl n) (Nat.le_refl us) (Nat.le_refl vs) (Nat.le_refl ls)
    have hcn : COR k p N φ ψ own up lo U w len x0 C V S T1 ks x n us h vs ls := cor_mk k1 (cor_cn hc0 c2) r3 ⟨b1, b2, b3, b4, b5, b6, b7⟩ k2 (k3 h ks _ _ (Nat.le_refl h) hC) ⟨ng, g1, k4 _ _ _ g2⟩ k5
    have pcm : pcL p N φ lo U (posC own lo N (cOf k p φ ψ U ks)) ≤ pcL p N φ lo U (pE lo r + 1) := pcL_mono (by rw [hcO, ← ro]; omega)
    have v2 := pv.2.2.1 y
    have go := pro_all hX0 ih (S := S) (T := T1) (ks := ks) (x := x) (n := n) (us := us) (h := h) (vs := vs) (ls := ls) ⟨hcn, by rw [c2, ro, hcO], r3.1.1, by omega, by omega⟩ (by rw [cW_c r2 h (Nat.le_refl h), hcO, ← ro]; exact hm)
    exact GZ_r go r1
  · have y' : U.1 626 (320 * p + r) = ((r + 1 : Nat) : Int) := y
    rw [if_neg (by omega), y', Int.toNat_natCast] at ro
    have t18 : U.1 625 (320 * p + (r + 1)) ≠ 18 := fun w => (y4.mp w) h18
    have v2 := pv.2.2.2 (r + 1) y'
    have v1 := hV.1 1 (r + 1) 0 (nxK p U ks (r + 1)) x
    have pe : pE lo r + 1 ≤ pE lo (r + 1) := pEE hA (Nat.lt_succ_self r) y2
    have pcm : pcL p N φ lo U (pE lo (r + 1)) ≤ pcL p N φ lo U (pE lo r + 1) := pcL_mono pe
    obtain ⟨q3, q4⟩ := q2 (r + 1) y' y2
    rcases sa_next hA y2 with ⟨z, _⟩ | ⟨t, z, z2, z3, z4, z5, z6⟩
    · obtain ⟨T1, r1, r2, r3⟩ := q3 z
      obtain ⟨k1, k2, k3, k4, k5⟩ := COR_k hc0 (AC_r (us := us) (h := h) (S := S)) r2 (Nat.le_refl n) (Nat.le_refl us) (Nat.le_refl vs) (Nat.le_refl ls)
      have hcn : COR k p N φ ψ own up lo U w len x0 C V S T1 ks x n us h vs ls := cor_mk k1 (cor_cn hc0 c2) r3 ⟨b1, b2, b3, b4, b5, b6, b7⟩ k2 (k3 h ks _ _ (Nat.le_refl h) hC) ⟨ng, g1, k4 _ _ _ g2⟩ k5
      have nk : nxK p U ks (r + 1) = ks := if_pos z
      have bk : bxK p U (r + 1) = 0 := if_pos z
      rw [nk, bk] at v2
      have go := itm (m := r + 1) hX0 ih ⟨⟨hcn, by rw [c2, ro], r3.1.1, by omega, by omega⟩, r3.1.2.1, y2, by omega, t18, by
        unfold nxC2
        rw [if_pos z, y3]
        exact hcO⟩ (by rw [cW_c r2 h (Nat.le_refl h), ← ro]; exact hm)
      exact GZ_le (GZ_r go r1) (Nat.le_refl _) (by omega)
    · have nk : nxK p U ks (r + 1) = (1, t, 0, 0) :: ks := by
        unfold nxK
        rw [if_neg (by omega), z, Int.toNat_natCast]
      have bk : bxK p U (r + 1) = 2 := if_neg (by omega)
      rw [nk, bk] at v2
      rw [nk] at v1
      obtain ⟨T1, r1, r2, r3, r4⟩ := q4 t z z3
      obtain ⟨k1, k2, k3, k4, k5⟩ := COR_k hc0 (AC_r (us := us) (h := h) (S := S)) r2 (Nat.le_refl n) (Nat.le_refl us) (Nat.le_succ vs) (Nat.le_refl ls)
      have ch : CH k p φ ψ U S T1 us (vs + 1) ls h ((1, t, 0, 0) :: ks) (S.1 281 4) (vs : Int) := Or.inr ⟨vs, rfl, Nat.lt_succ_self vs, r4.2.2.2.2.2, Or.inl ⟨rfl, r4.1, r4.2.1, by rw [r4.2.2.2.2.1]; exact k3 h ks _ _ (Nat.le_refl h) hC⟩⟩
      have tt18 : U.1 625 (320 * p + t) ≠ 18 := fun w => t18 (z5.mp w)
      have hcn : COR k p N φ ψ own up lo U w len x0 C V S T1 ((1, t, 0, 0) :: ks) x n us h (vs + 1) ls := cor_mk k1 (cor_cn hc0 c2) r3 ⟨b1, b2, b3, b4, b5, b6, ⟨fun z => absurd (show (1 : Nat) = 2 from z) (by decide), b7⟩⟩ ⟨⟨z3, Or.inl ⟨rfl, by show t ≠ 0; omega, tt18, by rw [show up (1, t, 0, 0).2.1 = up (r + 1) from z4, y3]; exact hcO⟩⟩, k2⟩ ch ⟨ng, g1, k4 _ _ _ g2⟩ k5
      have ez : zsOf k p N φ ψ own lo U ((1, t, 0, 0) :: ks) = zsOf k p N φ ψ own lo U ks := rfl
      have go := itm (m := r + 1) hX0 ih ⟨⟨hcn, by rw [c2, ro], r3.1.1, by rw [ez]; omega, by omega⟩, r3.1.2.1, y2, by omega, t18, by
        unfold nxC2
        rw [if_neg (by omega), z, Int.toNat_natCast]
        rfl⟩ (by rw [cW_c r2 h (Nat.le_refl h), ← ro]; exact hm)
      exact GZ_le (GZ_r go r1) (Nat.le_refl _) (by omega)
theorem ros_all (hX : FIX Q k p N M φ ψ own up lo U w len C V) (ih : ∀ j2, j2 ≤ j → ALL Q k p N φ ψ own up lo U w len x0 C V j2) (hP : ROs k p N φ ψ own up lo U w len x0 C V m S T ks x n us h vs ls) (hm : mu own lo N n (cW T h) (dOf ks) (U.1 (k + 6) (φ m)) ≤ j + 1) : GZ Q x0 (j + 1) (1100 * (j + 1) + 4) 1 S T := by
  have hX0 := hX
  obtain ⟨hA, hV, hw, hC7, hQ⟩ := hX
  have bd := bnS hV hC7 (hV.1 _ _ _ _ _) hP.1
  obtain ⟨⟨hc, c2, t78, p1, p2⟩, t80, mN, h813, hcO⟩ := hP
  have hc0 := hc
  obtain ⟨hB, ⟨s3, s7, s9, s10, s14, s11⟩, ⟨t75, t76, t81, t84, t88, t95, t105⟩, ⟨b1, b2, b3, b4, b5, b6, b7⟩, hW, hC, ⟨ng, g1, g2⟩, hcp⟩ := hc
  obtain ⟨pp1, pp2, pp3, pp4, pp5, pp6, pp7⟩ := sa_part hA mN h813
  have pv := hV.2.2.2.2.2.1 m ks x mN h813
  have tn := cor_tn hc0 t78
  rw [t80] at tn
  have pe : pE lo m + 1 ≤ pE lo (m + 1) := pEE hA (Nat.lt_succ_self m) pp2
  by_cases z : U.1 627 (320 * p + (m + 1)) = -1
  · obtain ⟨_, _, T1, r1, r2, r3⟩ := t_row (Q := Q) (r := m + 1) hA hB pp2 tn b2 (by omega)
    rw [if_pos z] at pp7
    obtain ⟨k1, k2, k3, k4, k5⟩ := COR_k hc0 (AC_r (us := us) (h := h) (S := S)) r2 (Nat.le_refl n) (Nat.le_refl us) (Nat.le_refl vs) (Nat.le_refl ls)
    have hcn : COR k p N φ ψ own up lo U w len x0 C V S T1 ks x n us h vs ls := cor_mk k1 (cor_cn hc0 c2) r3 ⟨b1, b2, b3, b4, b5, b6, b7⟩ k2 (k3 h ks _ _ (Nat.le_refl h) hC) ⟨ng, g1, k4 _ _ _ g2⟩ k5
    have pcm : pcL p N φ lo U (pE lo (m + 1) + 1) ≤ pcL p N φ lo U (pE lo m + 1) := pcL_mono (by omega)
    have v2 := pv.1 z
    have go := r7_all (r := m + 1) hX0 ih (S := S) (T := T1) (ks := ks) (x := x) (n := n) (us := us) (h := h) (vs := vs) (ls := ls) ⟨⟨hcn, by rw [c2, pp7], r3.1.1, by omega, by omega⟩, r3.1.2.1, pp2, pp4, by rw [pp3]; exact hcO⟩ (by rw [cW_c r2 h (Nat.le_refl h), ← pp7]; exact hm)
    exact GZ_r go fun q => rt_3 hA hB mN h813 t76 t78 t80 (by rw [if_pos z]; exact r1)
  · rw [if_neg z] at pp7
    have pcm : pcL p N φ lo U (pE lo (m + 1)) ≤ pcL p N φ lo U (pE lo m + 1) := pcL_mono pe
    have v2 := pv.2 z
    have mul : 15163 * (2 * (1000 - n) + cW T h) ≤ mu own lo N n (cW T h) (dOf ks) (U.1 (k + 6) (φ m)) := by
      unfold mu
      omega
    obtain ⟨T1, r1, r2⟩ := row_go (j := j) (r := m + 1) hX0 (ih j (Nat.le_refl j)) hc0 (by rw [c2, pp7]) pp2 pp4 (by rw [pp3]; exact hcO) (by omega) (by omega) (by omega)
    exact GZ_le (GZ_r r2 fun q => rt_3 hA hB mN h813 t76 t78 t80 (by rw [if_neg z]; exact r1)) (Nat.le_refl _) (by omega)
/-- from all points where they meet, both come to the same -/
theorem all_j (hX : FIX Q k p N M φ ψ own up lo U w len C V) : ∀ j, ALL Q k p N φ ψ own up lo U w len x0 C V j := fun j => by
  induction j using Nat.strongRecOn with
  | _ j ih =>
    cases j with
    | zero =>
      have pos : ∀ {n W d : Nat} {c : Int}, posC own lo N c < 720 → ¬ mu own lo N n W d c ≤ 0 := fun {n W d c} q1 q2 => by
        unfold mu at q2
        omega
      have hA := hX.1
      have bg := pos_bg hA
      refine ⟨fun S T ks x n us h vs ls hP hm => absurd hm (pos (pos_ks hA hP.1.2.2.2.2.1)), fun m S T ks x n us h vs ls hP hm => absurd hm (pos ?_), fun m S T ks x n us h vs ls hP hm => absurd hm (pos ?_), fun m S T ks x n us h vs ls hP hm => absurd hm (pos (bg.2 m hP.2.2.1 hP.2.2.2.1).2), fun m S T ks x n us h vs ls hP hm => absurd hm (pos (bg.1 m hP.2.2.1 hP.2.2.2.1).2), fun S T n us h vs ls hc ht hm => absurd hm (by omega)⟩
      · rw [posC_E, (sa_node hA hP.2.2.1).1.2.2.2.1]
        exact pE_b hA hP.2.2.1
      · rw [posC_E, (sa_node hA hP.2.2.1).1.2.2.1]
        exact pE_b hA hP.2.2.1
    | succ j =>
      have ih' : ∀ j2, j2 ≤ j → ALL Q k p N φ ψ own up lo U w len x0 C V j2 := fun j2 hj => ih j2 (by omega)
      exact ⟨fun S T ks x n us h vs ls hP hm => GZ_le (pro_all hX ih' hP hm) (Nat.le_refl _) (by omega), fun m S T ks x n us h vs ls hP hm => GZ_le (itm hX ih' hP hm) (Nat.le_refl _) (by omega), fun m S T ks x n us h vs ls hP hm => GZ_le (atm hX (ih' j (Nat.le_refl j)) hP hm) (Nat.le_refl _) (by omega), fun m S T ks x n us h vs ls hP hm => GZ_le (ros_all hX ih' hP hm) (Nat.le_refl _) (by omega), fun m S T ks x n us h vs ls hP hm => GZ_le (r7_all hX ih' hP hm) (Nat.le_refl _) (by omega), fun S T n us h vs ls hc ht hm => GZ_le (off_go hX (ih' j (Nat.le_refl j)) hc ht hm) (Nat.le_refl _) (by omega)⟩
end OQD
