/-! SEARCH: going on, case by case: parts, groups, calls -/
section OPZJ
variable {Q k p N M m n n2 h h2 us us2 vs vs2 ls ls2 w len x0 x y u v g a b j : Nat} {C : Int} {φ ψ own up lo : Nat → Nat} {S S1 S2 T T1 T2 U : ev_St} {V : Nat → Nat → Nat → List KT → Nat → Int} {ks : List KT} {κ : KT}
theorem cor_cn {c : Int} (hc : COR k p N φ ψ own up lo U w len x0 C V S T ks x n us h vs ls) (e : S.1 281 2 = c) : CN S c (x : Int) (S.1 281 4) (S.1 281 5) us h n (x0 : Int) := by
  obtain ⟨hB, ⟨s3, s7, s9, s10, s14, s11⟩, ⟨t75, t76, t81, t84, t88, t95, t105⟩, ⟨b1, b2, b3, b4, b5, b6, b7⟩, hW, hC, ⟨ng, g1, g2⟩, hcp⟩ := hc
  exact ⟨⟨e, s3, rfl, rfl⟩, s7, s9, s10, s14, s11⟩
theorem cor_tn {td : Int} (hc : COR k p N φ ψ own up lo U w len x0 C V S T ks x n us h vs ls) (e : T.1 621 78 = td) : TN T td (T.1 621 80) (x : Int) (T.1 621 82) (T.1 621 83) ((dOf ks + 64 * lOf ks : Nat) : Int) vs h ls n 0 := by
  obtain ⟨hB, ⟨s3, s7, s9, s10, s14, s11⟩, ⟨t75, t76, t81, t84, t88, t95, t105⟩, ⟨b1, b2, b3, b4, b5, b6, b7⟩, hW, hC, ⟨ng, g1, g2⟩, hcp⟩ := hc
  exact ⟨⟨e, rfl, t81, rfl, rfl, t84⟩, t88, t95, t105, t75, t76⟩
theorem cor_mk {c f gg td nd had th : Int} (hB : BAS k p U w len S T) (hN : CN S c (x : Int) f gg us h n (x0 : Int)) (hT : TN T td nd (x : Int) had th ((dOf ks + 64 * lOf ks : Nat) : Int) vs h ls n 0) (hb : x ≤ len ∧ n ≤ 1000 ∧ (ls = 0 ∨ 4 * ls + 4 ≤ us) ∧ dOf ks ≤ 20 ∧ lOf ks ≤ 40 ∧ h + rkOf ks ≤ n ∧ okp x0 ks x) (hW : WFL k p N φ ψ up U len n ks) (hC : CH k p φ ψ U S T us vs ls h ks f th) (hG : ∃ ng, ng ≤ ls ∧ GL S T us ls ng gg had) (hP : CPS k p N φ ψ own up lo U len x0 C V S T n h us vs ls) : COR k p N φ ψ own up lo U w len x0 C V S T ks x n us h vs ls := by
  obtain ⟨⟨c1, c2, c3, c4⟩, c7, c9, c10, c14, c11⟩ := hN
  obtain ⟨⟨d1, d2, d3, d4, d5, d6⟩, d7, d8, d9, d10, d11⟩ := hT
  exact ⟨hB, ⟨c2, c7, c9, c10, c14, c11⟩, ⟨d10, d11, d3, d6, d7, d8, d9⟩, hb, hW, by rw [c3, d5]; exact hC, by rw [c4, d4]; exact hG, hP⟩
/-- where a chain goes on is a place -/
theorem pos_ks (hA : STA k p N M φ ψ own up lo U) (hW : WFL k p N φ ψ up U len n ks) : posC own lo N (cOf k p φ ψ U ks) < 720 := by
  cases ks with
  | nil =>
    show posC own lo N (4 * (φ 0 : Int) + 1) < 720
    rw [posC_L]
    exact pL_b hA (sa_node hA (sa_num hA).1.1).1.1
  | cons κ ks =>
    have w1 := hW.1.1
    have nd := sa_node hA w1
    rw [ks_c]
    by_cases z1 : κ.1 = 1
    · rw [if_pos z1, posC_E, nd.1.2.2.2.1]
      exact pE_b hA w1
    · rw [if_neg z1]
      by_cases z3 : κ.1 = 3
      · rw [if_pos z3, posC_L]
        rcases sa_rep hA w1 with y | y
        · exact absurd y.1 (wk_3 hW.1 z3).2.1
        · exact pL_b hA y.2.1
      · rw [if_neg z3]
        by_cases z9 : κ.1 = 9
        · rw [if_pos z9, posC_L]
          exact pL_b hA nd.1.2.1
        · rw [if_neg z9, posC_L]
          exact pL_b hA nd.1.1
theorem pro_8 (hX : FIX Q k p N M φ ψ own up lo U w len C V) (ih : ALL Q k p N φ ψ own up lo U w len x0 C V j) (hP : PRs k p N φ ψ own up lo U w len x0 C V S T (κ :: ks) x n us h vs ls) (e : κ.1 = 8) (hm : mu own lo N n (cW T h) (dOf (κ :: ks)) (cOf k p φ ψ U (κ :: ks)) ≤ j + 1) : GZ Q x0 (j + 1) (1100 * (j + 1)) 1 S T := by
  obtain ⟨hA, hV, hw, hC7, hQ⟩ := hX
  have bd := bnS hV hC7 (hV.1 _ _ _ _ _) hP
  obtain ⟨hc, c2, t78, p1, p2⟩ := hP
  have hc0 := hc
  obtain ⟨hB, ⟨s3, s7, s9, s10, s14, s11⟩, ⟨t75, t76, t81, t84, t88, t95, t105⟩, ⟨b1, b2, b3, b4, b5, b6, b7⟩, hW, hC, ⟨ng, g1, g2⟩, hcp⟩ := hc
  obtain ⟨w1, w2, w3, w4⟩ := wk_8 hW.1 e
  have cc : cOf k p φ ψ U (κ :: ks) = 4 * (φ κ.2.1 : Int) + 1 := by rw [ks_c, if_neg (by omega), if_neg (by omega), if_neg (by omega)]
  have nd := sa_node hA w1
  have kd : U.1 (k + 1) (φ κ.2.1) = 17 ∨ U.1 (k + 1) (φ κ.2.1) = 8 := by
    rw [nd.2.2.1 w2]
    rcases w3 with z | z
    · exact Or.inl (kcl_v.2.2.2.1 z)
    · exact Or.inr (kcl_v.2.2.2.2.2.2.2.1 z)
  obtain ⟨S1, l1, l2, l3⟩ := l_plain (Q := Q) hA hB nd.1.1 (cor_cn hc0 c2) kd
  obtain ⟨k1, k2, k3, k4, k5⟩ := COR_k hc0 l2 (AR_r (vs := vs) (h := h) (ls := ls) (T := T)) (Nat.le_refl n) (Nat.le_refl us) (Nat.le_refl vs) (Nat.le_refl ls)
  have ed : dOf (κ :: ks) = dOf ks := by rw [ks_d, if_neg (by omega)]; rfl
  have el : lOf (κ :: ks) = lOf ks := by rw [ks_l, if_neg (by omega)]; rfl
  have er : rkOf (κ :: ks) = rkOf ks := by rw [ks_r, if_neg (by omega)]; rfl
  have ez : zsOf k p N φ ψ own lo U (κ :: ks) = zsOf k p N φ ψ own lo U ks := by rw [ks_z, if_neg (by omega), if_neg (by omega)]; rfl
  rw [ks_o, if_neg (by omega)] at b7
  obtain ⟨b8, b7⟩ := b7
  rw [ed] at b4 hm
  rw [el] at b5
  rw [er] at b6
  obtain ⟨q1, q2, q3, q4⟩ := pos_af hA w1 w2 (by omega)
  rw [cc] at c2
  rw [cc, posC_L, ez] at p1
  have pm : pcL p N φ lo U (posC own lo N (cOf k p φ ψ U ks)) ≤ pcL p N φ lo U (pL lo N (φ κ.2.1)) := pcL_mono (by rw [w4]; omega)
  have vm := (hV.2.2.2.2.2.2.2 κ ks x).1 (by omega)
  have tn := cor_tn hc0 t78
  rw [ed, el] at tn
  have hcn : COR k p N φ ψ own up lo U w len x0 C V S1 T ks x n us h vs ls := cor_mk k1 l3 tn ⟨b1, b2, b3, b4, b5, b6, b7⟩ k2.2 (k3 h ks _ _ (Nat.le_refl h) (ch_8 hC e)) ⟨ng, g1, k4 _ _ _ g2⟩ k5
  have lt : mu own lo N n (cW T h) (dOf ks) (cOf k p φ ψ U ks) < mu own lo N n (cW T h) (dOf ks) (cOf k p φ ψ U (κ :: ks)) := mu_lt (Or.inl ⟨rfl, by rw [cc, posC_L, w4]; exact q2⟩) (by rw [cc, posC_L]; exact pL_b hA nd.1.1) (by rw [w4]; exact q3)
  have go := ih.1 S1 T ks x n us h vs ls ⟨hcn, by rw [w4]; exact l3.1.1, t78, by omega, by omega⟩ (by omega)
  refine GZ_le (GZ_c go fun q i i1 i2 => ?_) (Nat.le_refl _) (by omega)
  have n0 : φ κ.2.1 ≠ φ 0 := fun z => by
    have o1 := nd.1.2.2.1
    rw [z, (sa_node hA (sa_num hA).1.1).1.2.2.1] at o1
    exact w2 o1.symm
  rw [ct_L hA hB ⟨i1, i2⟩ nd.1.1 c2 (Or.inl n0) l1, if_pos l3.2.2.2.1]
/-- a group's number is among the pattern's -/
theorem sa_grp (hA : STA k p N M φ ψ own up lo U) (hm : m < N) (h8 : U.1 625 (320 * p + m) = 8) : U.1 628 (320 * p + m) ≤ U.1 636 p := by
  have q := ((hA.1.1.2.2.2.1.1 m hm).2.2 (by rw [sft_1 (by omega) (by omega)]; exact h8)).1
  rw [sft_1 (by omega) (by omega), sft_5 (Or.inr rfl)] at q
  exact q
theorem pro_2 (hX : FIX Q k p N M φ ψ own up lo U w len C V) (ih : ALL Q k p N φ ψ own up lo U w len x0 C V j) (hP : PRs k p N φ ψ own up lo U w len x0 C V S T (κ :: ks) x n us h vs ls) (e : κ.1 = 2) (hm : mu own lo N n (cW T h) (dOf (κ :: ks)) (cOf k p φ ψ U (κ :: ks)) ≤ j + 1) : GZ Q x0 (j + 1) (1100 * (j + 1)) 1 S T := by
  obtain ⟨hA, hV, hw, hC7, hQ⟩ := hX
  have bd := bnS hV hC7 (hV.1 _ _ _ _ _) hP
  obtain ⟨hc, c2, t78, p1, p2⟩ := hP
  have hc0 := hc
  obtain ⟨hB, ⟨s3, s7, s9, s10, s14, s11⟩, ⟨t75, t76, t81, t84, t88, t95, t105⟩, ⟨b1, b2, b3, b4, b5, b6, b7⟩, hW, hC, ⟨ng, g1, g2⟩, hcp⟩ := hc
  obtain ⟨w1, w2, w3, w4⟩ := wk_2 hW.1 e
  have m0 : κ.2.1 ≠ 0 := fun z => by
    have := (sa_num hA).2.2.2.1
    rw [z, Nat.add_zero] at w2
    omega
  have cc : cOf k p φ ψ U (κ :: ks) = 4 * (φ κ.2.1 : Int) + 1 := by rw [ks_c, if_neg (by omega), if_neg (by omega), if_neg (by omega)]
  have nd := sa_node hA w1
  have kd : U.1 (k + 1) (φ κ.2.1) = 18 := by
    rw [nd.2.2.1 m0]
    exact kcl_v.2.2.1 w2
  have num : U.1 (k + 2) (φ κ.2.1) = U.1 628 (320 * p + κ.2.1) := (sa_kd hA w1 m0).2.1 (Or.inr (Or.inl w2))
  have ed : dOf (κ :: ks) = dOf ks := by rw [ks_d, if_neg (by omega)]; rfl
  have el : lOf (κ :: ks) = lOf ks := by rw [ks_l, if_neg (by omega)]; rfl
  have er : rkOf (κ :: ks) = rkOf ks := by rw [ks_r, if_neg (by omega)]; rfl
  have ez : zsOf k p N φ ψ own lo U (κ :: ks) = zsOf k p N φ ψ own lo U ks := by rw [ks_z, if_neg (by omega), if_neg (by omega)]; rfl
  rw [ks_o, if_neg (by omega)] at b7
  obtain ⟨b8, b7⟩ := b7
  obtain ⟨v, u, f1, f2, f3, f4, f5, f6, f7, f8⟩ := ch_f hC (by omega)
  have f9 : CH k p φ ψ U S T us vs ls h ks (S.1 282 u) (T.1 685 v) := by
    rw [show hK h κ = h from if_neg (by omega)] at f8
    exact f8
  have tg : tagK κ = 1 := by
    unfold tagK
    rw [if_neg (by omega), if_pos e]
  rw [ed, el, tg] at f6
  rw [ed] at b4 hm
  rw [el] at b5
  rw [er] at b6
  obtain ⟨z1, z2, z3, z4, z5⟩ : κ.1 = 2 ∧ T.1 681 v = 2 ∧ T.1 682 v = ((320 * p + κ.2.1 : Nat) : Int) ∧ T.1 683 v = (κ.2.2.1 : Int) ∧ S.1 282 (u + 2) = (κ.2.2.1 : Int) := by
    rcases f7 with z | z | z | z
    · exact z
    · exact absurd z.1 (by omega)
    · exact absurd z.1 (by omega)
    · exact absurd z.1 (by omega)
  obtain ⟨q1, q2, q3, q4⟩ := pos_af hA w1 m0 (by omega)
  rw [cc] at c2
  rw [cc, posC_L, ez] at p1
  have pm : pcL p N φ lo U (posC own lo N (cOf k p φ ψ U ks)) + 1 ≤ pcL p N φ lo U (pL lo N (φ κ.2.1)) := pcL_L w1 w2 (Nat.le_refl _) (by rw [w3]; exact q2)
  have vm := (hV.2.2.2.2.2.2.2 κ ks x).1 (by omega)
  have cn := cor_cn hc0 c2
  rw [f4] at cn
  obtain ⟨S1, l1, l2, l3, l4, l5, l6, l7⟩ := l_span (Q := Q) hA hB nd.1.1 cn f5 (by omega) kd b5 b4 f6
  have tn := cor_tn hc0 t78
  rw [f1, ed, el] at tn
  obtain ⟨T1, r1, r2, r3, r4, r5, r6, r7⟩ := t4_2 (Q := Q) hA hB w1 tn (by omega) (by omega) z2 z3 z4
  obtain ⟨k1, k2, k3, k4, k5⟩ := COR_k hc0 l2 r2 (Nat.le_refl n) (show us ≤ us + 4 by omega) (Nat.le_refl vs) (show ls ≤ ls + 1 by omega)
  rw [f3] at r3
  have hcn : COR k p N φ ψ own up lo U w len x0 C V S1 T1 ks x n (us + 4) h vs (ls + 1) := cor_mk k1 l3 r3 ⟨b1, b2, by omega, b4, b5, b6, b7⟩ k2.2 (k3 h ks _ _ (Nat.le_refl h) f9) ⟨ng + 1, by omega, GL_push g2 (fun i hi => l2.1 i hi) (fun c v y1 y2 y3 => r2.2.2.1 c v y1 y2 y3) (r2.2.2.2.2 _ _ (by omega) (by omega)) (by rw [r2.2.2.2.2 621 79 (by omega) (by omega), r2.2.2.2.2 636 _ (by omega) (by omega)]) (by rw [hB.2.2.2.1, Int.toNat_natCast, Nat.mul_div_cancel_left p (by decide : 0 < 320), hB.2.1.1 636 p (by omega) (by omega) (by omega) (by omega), num]; exact sa_grp hA w1 w2) l4 l5 l6 l7 r7 (by rw [r4, num]) (by rw [r5, z5]) r6 (by rw [z5]; omega) (by rw [z5, hB.2.2.2.2.1]; have := b8 e; omega)⟩ k5
  have lt : mu own lo N n (cW T h) (dOf ks) (cOf k p φ ψ U ks) < mu own lo N n (cW T h) (dOf ks) (cOf k p φ ψ U (κ :: ks)) := mu_lt (Or.inl ⟨rfl, by rw [cc, posC_L, w3]; exact q2⟩) (by rw [cc, posC_L]; exact pL_b hA nd.1.1) (by rw [w3]; exact q3)
  have go := ih.1 S1 T1 ks x n (us + 4) h vs (ls + 1) ⟨hcn, by rw [w3]; exact l3.1.1, r3.1.1, by omega, by omega⟩ (by rw [cW_c r2 h (Nat.le_refl h)]; omega)
  refine GZ_le (GZ_c (GZ_r go fun q => rt_4 t76 t78 r1) fun q i i1 i2 => ?_) (Nat.le_refl _) (by omega)
  rw [ct_L hA hB ⟨i1, i2⟩ nd.1.1 c2 (Or.inr (by rw [f4]; omega)) l1, if_pos l3.2.2.2.1]
theorem pro_4 (hX : FIX Q k p N M φ ψ own up lo U w len C V) (ih : ALL Q k p N φ ψ own up lo U w len x0 C V j) (hP : PRs k p N φ ψ own up lo U w len x0 C V S T (κ :: ks) x n us h vs ls) (e : κ.1 = 4) (hm : mu own lo N n (cW T h) (dOf (κ :: ks)) (cOf k p φ ψ U (κ :: ks)) ≤ j + 1) : GZ Q x0 (j + 1) (1100 * (j + 1)) 1 S T := by
  obtain ⟨hA, hV, hw, hC7, hQ⟩ := hX
  have bd := bnS hV hC7 (hV.1 _ _ _ _ _) hP
  obtain ⟨hc, c2, t78, p1, p2⟩ := hP
  have hc0 := hc
  obtain ⟨hB, ⟨s3, s7, s9, s10, s14, s11⟩, ⟨t75, t76, t81, t84, t88, t95, t105⟩, ⟨b1, b2, b3, b4, b5, b6, b7⟩, hW, hC, ⟨ng, g1, g2⟩, hcp⟩ := hc
  obtain ⟨w1, w2⟩ := wk_4 hW.1 e
  have cc : cOf k p φ ψ U (κ :: ks) = 4 * (φ κ.2.1 : Int) + 1 := by rw [ks_c, if_neg (by omega), if_neg (by omega), if_neg (by omega)]
  have nd := sa_node hA w1
  have kd : U.1 (k + 1) (φ κ.2.1) = 18 ∨ U.1 (k + 1) (φ κ.2.1) = 16 := by
    by_cases z : κ.2.1 = 0
    · rw [z]
      exact Or.inr (sa_num hA).2.2.2.2.2.2.2
    · rw [nd.2.2.1 z]
      exact Or.inl (kcl_v.2.2.1 (w2.resolve_left z))
  have ed : dOf (κ :: ks) = dOf ks + 1 := by rw [ks_d, if_pos e]
  have el : lOf (κ :: ks) = lOf ks := by rw [ks_l, if_neg (by omega)]; rfl
  have er : rkOf (κ :: ks) = rkOf ks := by rw [ks_r, if_neg (by omega)]; rfl
  have ez : zsOf k p N φ ψ own lo U (κ :: ks) = zsOf k p N φ ψ own lo U ks + pcL p N φ lo U (posC own lo N (cOf k p φ ψ U ks)) := by rw [ks_z, if_neg (by omega), if_pos e]
  rw [ks_o, if_neg (by omega)] at b7
  obtain ⟨b8, b7⟩ := b7
  obtain ⟨v, u, f1, f2, f3, f4, f5, f6, f7, f8⟩ := ch_f hC (by omega)
  have f9 : CH k p φ ψ U S T us vs ls h ks (S.1 282 u) (T.1 685 v) := by
    rw [show hK h κ = h from if_neg (by omega)] at f8
    exact f8
  have tg : tagK κ = 2 := by
    unfold tagK
    rw [if_neg (by omega), if_neg (by omega), if_pos e]
  rw [tg] at f6
  obtain ⟨z1, z2, z3, ng2, z4, z5⟩ : κ.1 = 4 ∧ T.1 681 v = 4 ∧ S.1 282 (u + 2) = cOf k p φ ψ U ks ∧ ∃ ng, ng ≤ ls ∧ GL S T us ls ng (S.1 282 (u + 3)) (T.1 684 v) := by
    rcases f7 with z | z | z | z
    · exact absurd z.1 (by omega)
    · exact absurd z.1 (by omega)
    · exact z
    · exact absurd z.1 (by omega)
  rw [cc] at c2
  rw [cc, posC_L, ez] at p1
  have vm := (hV.2.2.2.2.2.2.2 κ ks x).1 (by omega)
  have cn := cor_cn hc0 c2
  rw [f4] at cn
  obtain ⟨S1, l1, l2, l3⟩ := l_call (Q := Q) hA hB nd.1.1 cn f5 (by omega) kd b5 b4 f6
  have tn := cor_tn hc0 t78
  rw [f1] at tn
  obtain ⟨T1, r1, r2, r3⟩ := t4_4 (Q := Q) tn (by omega) z2
  obtain ⟨k1, k2, k3, k4, k5⟩ := COR_k hc0 l2 r2 (Nat.le_refl n) (Nat.le_refl us) (Nat.le_refl vs) (Nat.le_refl ls)
  rw [f3] at r3
  rw [z3] at l3
  have hcn : COR k p N φ ψ own up lo U w len x0 C V S1 T1 ks x n us h vs ls := cor_mk k1 l3 r3 ⟨b1, b2, b3, by omega, by omega, by omega, b7⟩ k2.2 (k3 h ks _ _ (Nat.le_refl h) f9) ⟨ng2, z4, k4 _ _ _ z5⟩ k5
  have lt : mu own lo N n (cW T h) (dOf ks) (cOf k p φ ψ U ks) < mu own lo N n (cW T h) (dOf (κ :: ks)) (cOf k p φ ψ U (κ :: ks)) := mu_lt (Or.inr (by omega)) (by rw [cc, posC_L]; exact pL_b hA nd.1.1) (pos_ks hA hW.2)
  have go := ih.1 S1 T1 ks x n us h vs ls ⟨hcn, l3.1.1, r3.1.1, by omega, by omega⟩ (by rw [cW_c r2 h (Nat.le_refl h)]; omega)
  refine GZ_le (GZ_c (GZ_r go fun q => rt_4 t76 t78 r1) fun q i i1 i2 => ?_) (Nat.le_refl _) (by omega)
  rw [ct_L hA hB ⟨i1, i2⟩ nd.1.1 c2 (Or.inr (by rw [f4]; omega)) l1, if_pos l3.2.2.2.1]
end OPZJ
