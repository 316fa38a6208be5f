/-! SEARCH: atoms, side by side: conditions, calls, verbs; all atoms -/
section OPZW
variable {Q k p N M m n n2 h h2 us us2 vs vs2 ls ls2 w len x0 x y u v a b r j : Nat} {C : Int} {φ ψ own up lo : Nat → Nat} {S S1 S2 T T1 T2 U : ev_St} {V : Nat → Nat → Nat → List KT → Nat → Int} {ks : List KT} {κ : KT} {c g f td nd had th dp kd cd fr vv a1 a2 hh : Int}
theorem z67_of {q : Int} (h1 : 15 ≤ q) (h2 : q ≤ 18) (h3 : q ≠ 15) (h4 : q ≠ 18) : q = 16 ∨ q = 17 := by omega
theorem aro_c {l d : Nat} {f : Int} (q : ARo S us f l d) (ha : AC us h S S1) : ARo S1 us f l d := by
  rcases q with y | ⟨f2, k2, y1, y2, y3, y4⟩
  · exact Or.inl y
  · exact Or.inr ⟨f2, k2, y1, y2, by rw [ha.1 _ (by omega)]; exact y3, y4⟩
theorem atm_13 (hX : FIX Q k p N M φ ψ own up lo U w len C V) (ih : ALL Q k p N φ ψ own up lo U w len x0 C V j) (hP : ATs k p N φ ψ own up lo U w len x0 C V m S T ks x n us h vs ls) (hk : U.1 625 (320 * p + m) = 13) (hm : mu own lo N n (cW T h) (dOf ks) (4 * (φ m : Int)) ≤ j + 1) : GZ Q x0 (j + 1) (1100 * (j + 1)) 1 S T := by
  have hX0 := hX
  have hP0 := hP
  obtain ⟨hA, hV, hw, hC7, hQ⟩ := hX
  have bd := bnS hV hC7 (hV.1 _ _ _ _ _) hP.1
  obtain ⟨⟨hc, c2, t78, p1, p2⟩, t80, mN, m0, h18, hcO⟩ := hP
  have hc0 := hc
  obtain ⟨hB, ⟨s3, s7, s9, s10, s14, s11⟩, ⟨t75, t76, t81, t84, t88, t95, t105⟩, ⟨b1, b2, b3, b4, b5, b6, b7⟩, hW, hC, ⟨ng, g1, g2⟩, hcp⟩ := hc
  have nd := sa_node hA mN
  have kd := nd.2.2.1 m0
  have hv := hV.2.2.2.2.1 m ks x mN m0 h18
  have cn := cor_cn hc0 c2
  have tn := cor_tn hc0 t78
  rw [t80] at tn
  have k17 : U.1 (k + 1) (φ m) ≠ 17 ∧ U.1 (k + 1) (φ m) ≠ 18 := by
    rw [kd]
    exact kcl_ne nd.2.1 (by omega)
  obtain ⟨pp1, pp2, pp3, pp4, pp5, pp6, pp7⟩ := sa_part hA mN (by omega)
  have ro := sa_row hA pp2 pp4
  have n1 := (sa_node hA pp2).1
  have nx := sa_next hA pp2
  have k2m : U.1 (k + 2) (φ m) = U.1 628 (320 * p + m) := (sa_kd hA mN m0).2.1 (Or.inr (Or.inr (Or.inl hk)))
  by_cases hn : n < 1000
  · have f0 : flg n = 0 := if_pos hn
    obtain ⟨Z, zz1, zz2, zz3⟩ := e_st (Q := Q) hA hB nd.1.1 cn hn k17
    obtain ⟨x2, y2, o1, o2, o3⟩ := gl_one (Q := Q) (S := Z) (T := T) (a := U.1 628 (320 * p + m)) (us := us) (ls := ls) (ng := ng) (by rw [zz3.1.2.2.2]; exact GL_m zz2 (AR_r (vs := vs) (h := h)) (Nat.le_refl _) (Nat.le_refl _) g2) zz3.2.1 (by omega) ⟨g1, b3⟩ (by omega)
    have xy : (0 ≤ x2 ↔ y2 ≠ -1) := by
      rcases o3 with ⟨w1, w2⟩ | ⟨u, v, w1, w2, _⟩
      · omega
      · omega
    obtain ⟨T1, r1, r2, r3⟩ := ta_cnd (Q := Q) (y2 := y2) hA hB mN tn b2 hk (fun T2 q1 q2 => o2 T2 (fun c v q3 q4 => q1.2.2.1 c v (by omega) (by omega) q4) q2)
    obtain ⟨S1, s1, s2, s3⟩ := e_cond (Q := Q) (x2 := x2) hA (BAS_m hB zz2 (AR_r (vs := vs) (h := h) (ls := ls))) nd.1.1 zz3 n1.1 pp6 (by rw [k2m]; exact o1) ro.2.2.2.2.2 (by
      rcases nx with ⟨y, _⟩ | ⟨t, y, y2, y3, _⟩
      · exact Or.inl (if_pos y)
      · exact Or.inr ⟨φ t, by rw [if_neg (by omega), y, Int.toNat_natCast], (sa_node hA y3).1.1⟩)
    rw [kd, kcl_v.2.2.2.2.2.2.2.1 hk, s1] at zz1
    have ac := AC_tr zz2 s2 (Nat.le_refl _) (Nat.le_refl _)
    rw [f0] at r3
    obtain ⟨k1, k2, k3, k4, k5⟩ := COR_k hc0 ac r2 (Nat.le_succ n) (Nat.le_refl us) (Nat.le_refl vs) (Nat.le_refl ls)
    -- a row of it
    have go : ∀ r, r < N → U.1 625 (320 * p + r) = 18 → up r = m → m < r → S1.1 281 2 = U.1 (k + 6) (φ r) → CN S1 (U.1 (k + 6) (φ r)) (x : Int) (S.1 281 4) (S.1 281 5) us h (n + 1) (x0 : Int) → TN T1 7 ((320 * p + r : Nat) : Int) (x : Int) (T.1 621 82) (T.1 621 83) ((dOf ks + 64 * lOf ks : Nat) : Int) vs h ls (n + 1) 0 → V 7 r 0 ((8, m, 0, 0) :: ks) x ≤ 299 + V 2 m 0 ks x → GZ Q x0 (j + 1) (1100 * (j + 1)) 1 S T := fun r rN r18 rup rm c5 cn1 tn1 vr => by
      have hcn : COR k p N φ ψ own up lo U w len x0 C V S1 T1 ((8, m, 0, 0) :: ks) x (n + 1) us h vs ls := cor_mk k1 cn1 tn1 ⟨b1, by omega, b3, b4, b5, by show h + (rkOf ks + 0) ≤ n + 1; omega, ⟨fun z => absurd (show (8 : Nat) = 2 from z) (by decide), b7⟩⟩ ⟨⟨mN, Or.inr (Or.inr (Or.inr (Or.inr (Or.inr (Or.inr (Or.inr (Or.inl ⟨rfl, m0, Or.inr hk, hcO⟩)))))))⟩, k2⟩ (Or.inl ⟨rfl, k3 h ks _ _ (Nat.le_refl h) hC⟩) ⟨ng, g1, k4 _ _ _ g2⟩ k5
      have ez : zsOf k p N φ ψ own lo U ((8, m, 0, 0) :: ks) = zsOf k p N φ ψ own lo U ks := rfl
      have pe := pEE hA rm rN
      have pc1 : pcL p N φ lo U (pE lo r + 1) ≤ pcL p N φ lo U (pE lo m) := pcL_mono (by omega)
      have lt : mu own lo N (n + 1) (cW T1 h) (dOf ks) (U.1 (k + 6) (φ r)) < mu own lo N n (cW T h) (dOf ks) (4 * (φ m : Int)) := mu_st hn b4 (by rw [posC_E, nd.1.2.2.1]; exact pE_b hA mN) (by rw [cW_c r2 h (Nat.le_refl h)]; exact Nat.le_succ _)
      have go := ih.2.2.2.2.1 r S1 T1 ((8, m, 0, 0) :: ks) x (n + 1) us h vs ls ⟨⟨hcn, c5, tn1.1.1, by rw [ez]; omega, by omega⟩, tn1.1.2.1, rN, r18, by rw [rup]; rfl⟩ (Nat.le_of_lt_succ (Nat.lt_of_lt_of_le lt hm))
      refine GZ_le (GZ_c (GZ_r go fun q => rt_2 t76 t78 (by rw [t80]; exact r1)) fun q i i1 i2 => ?_) (Nat.le_refl _) (by omega)
      rw [ct_E hA hB ⟨i1, i2⟩ nd.1.1 c2 zz1, if_pos cn1.2.2.2.1]
    by_cases z : 0 ≤ x2
    · have y2n := xy.mp z
      rw [if_pos z] at s3
      rw [if_neg (fun w => y2n w.1), if_neg y2n] at r3
      exact go (m + 1) pp2 pp4 pp3 (by omega) s3.1.1 s3 r3 (hv.2.2.2.2.2.2.2.2.1 hk _ (Or.inl rfl))
    · have y2n : y2 = -1 := Classical.byContradiction fun w => z (xy.mpr w)
      rcases nx with ⟨y, _⟩ | ⟨t, y, y2', y3, y4, y5, y6⟩
      · rw [if_neg z, if_pos (if_pos y)] at s3
        rw [if_pos ⟨y2n, y⟩] at r3
        exact atm_on hX0 ih hP0 hn hm zz1 ac s3 r1 r2 r3 (Nat.le_refl x) b1 (Nat.le_refl h) (by omega) (hv.2.1 (Or.inr (Or.inr (by omega)))) (by rw [cW_c r2 h (Nat.le_refl h)]; exact Nat.le_succ _) k5
      · rw [if_neg z, if_neg (show ¬ U.1 627 (320 * p + (m + 1)) = -1 by omega), if_neg (by omega), Int.toNat_natCast, y, Int.toNat_natCast] at s3
        rw [if_neg (fun w => by have := w.2; omega), if_pos y2n, if_neg (by omega), y, show ((320 * p : Nat) : Int) + (t : Int) = ((320 * p + t : Nat) : Int) from by omega] at r3
        exact go t y3 (y5.mpr pp4) (by rw [y4, pp3]) (by omega) s3.1.1 s3 r3 (hv.2.2.2.2.2.2.2.2.1 hk _ (Or.inr y))
  · obtain ⟨x2, y2, o1, o2, o3⟩ := gl_one (Q := Q) (S := S) (T := T) (a := U.1 628 (320 * p + m)) (us := us) (ls := ls) (ng := ng) g2 s7 (by omega) ⟨g1, b3⟩ (by omega)
    obtain ⟨T1, r1, r2, r3⟩ := ta_cnd (Q := Q) (y2 := y2) hA hB mN tn b2 hk (fun T2 q1 q2 => o2 T2 (fun c v q3 q4 => q1.2.2.1 c v (by omega) (by omega) q4) q2)
    exact atm_far hX0 hP0 (by omega) (by omega) r1 r3.2.2.2.2.2
theorem atm_14 (hX : FIX Q k p N M φ ψ own up lo U w len C V) (ih : ALL Q k p N φ ψ own up lo U w len x0 C V j) (hP : ATs k p N φ ψ own up lo U w len x0 C V m S T ks x n us h vs ls) (hk : U.1 625 (320 * p + m) = 14) (hm : mu own lo N n (cW T h) (dOf ks) (4 * (φ m : Int)) ≤ j + 1) : GZ Q x0 (j + 1) (1100 * (j + 1)) 1 S T := by
  have hX0 := hX
  have hP0 := hP
  obtain ⟨hA, hV, hw, hC7, hQ⟩ := hX
  have bd := bnS hV hC7 (hV.1 _ _ _ _ _) hP.1
  obtain ⟨⟨hc, c2, t78, p1, p2⟩, t80, mN, m0, h18, hcO⟩ := hP
  have hc0 := hc
  obtain ⟨hB, ⟨s3, s7, s9, s10, s14, s11⟩, ⟨t75, t76, t81, t84, t88, t95, t105⟩, ⟨b1, b2, b3, b4, b5, b6, b7⟩, hW, hC, ⟨ng, g1, g2⟩, hcp⟩ := hc
  have nd := sa_node hA mN
  have kd := nd.2.2.1 m0
  have hv := hV.2.2.2.2.1 m ks x mN m0 h18
  have cn := cor_cn hc0 c2
  have tn := cor_tn hc0 t78
  rw [t80] at tn
  have k17 : U.1 (k + 1) (φ m) ≠ 17 ∧ U.1 (k + 1) (φ m) ≠ 18 := by
    rw [kd]
    exact kcl_ne nd.2.1 (by omega)
  obtain ⟨gn, gN, g8, g813, jn, hj, hj2, hg, h10⟩ := sa_call hA mN hk
  have k2m : U.1 (k + 2) (φ m) = (jn : Int) := by
    rw [(sa_kd hA mN m0).2.1 (Or.inr (Or.inr (Or.inr hk)))]
    exact hj
  have ng' := sa_node hA gN
  obtain ⟨t1, t2⟩ := ta_cal (Q := Q) hA hB mN tn b2 (by omega) ⟨b4, b5⟩ hk hj hj2 hg gN
  have aro := CH_aro b4 b5 hC
  by_cases hd : 20 ≤ dOf ks
  · obtain ⟨T1, r1, r2, r3⟩ := t1 hd
    by_cases hn : n < 1000
    · obtain ⟨Z, zz1, zz2, zz3⟩ := e_st (Q := Q) hA hB nd.1.1 cn hn k17
      have q := (e_call (Q := Q) hA (BAS_m hB zz2 (AR_r (vs := vs) (h := h) (ls := ls))) nd.1.1 zz3 hj2 k2m ng'.1.1 h10 (by omega) (aro_c aro zz2)).1 hd
      rw [kd, kcl_v.2.2.2.2.2.2.2.2.1 hk, q] at zz1
      rw [show flg n = 0 from if_pos hn] at r3
      exact atm_off hX0 ih hP0 hn hm zz1 zz2 zz3 r1 r2 r3
    · exact atm_far hX0 hP0 (by omega) (by omega) r1 r3.2.2.2.2.2
  · obtain ⟨T1, r1, r2, r3, r4⟩ := t2 (by omega)
    by_cases hn : n < 1000
    · obtain ⟨Z, zz1, zz2, zz3⟩ := e_st (Q := Q) hA hB nd.1.1 cn hn k17
      obtain ⟨S1, s1, s2, s3, s4, s5, s6, s8⟩ := (e_call (Q := Q) hA (BAS_m hB zz2 (AR_r (vs := vs) (h := h) (ls := ls))) nd.1.1 zz3 hj2 k2m ng'.1.1 h10 (by omega) (aro_c aro zz2)).2 (by omega)
      rw [kd, kcl_v.2.2.2.2.2.2.2.2.1 hk, s1] at zz1
      rw [show flg n = 0 from if_pos hn] at r3
      have ac := AC_tr zz2 s2 (Nat.le_refl _) (Nat.le_refl _)
      obtain ⟨k1, k2, k3, k4, k5⟩ := COR_k hc0 ac r2 (Nat.le_succ n) (show us ≤ us + 4 by omega) (Nat.le_succ vs) (Nat.le_refl ls)
      have ch : CH k p φ ψ U S1 T1 (us + 4) (vs + 1) ls h ((4, gn, 0, 0) :: ks) (us : Int) (vs : Int) := by
        refine Or.inr ⟨vs, rfl, Nat.lt_succ_self _, r4.2.2.2.2.2, Or.inr ⟨us, rfl, Nat.le_refl _, s5, Or.inr (Or.inr (Or.inl ⟨rfl, r4.1, by rw [hcO]; exact s6, ng, g1, by rw [s8, r4.2.2.2.1]; exact k4 _ _ _ g2⟩)), ?_⟩⟩
        rw [s4, r4.2.2.2.2.1]
        exact k3 h ks _ _ (Nat.le_refl h) hC
      have hcn : COR k p N φ ψ own up lo U w len x0 C V S1 T1 ((4, gn, 0, 0) :: ks) x (n + 1) (us + 4) h (vs + 1) ls := cor_mk k1 s3 r3 ⟨b1, by omega, lbu b3 (Nat.le_add_right us 4), by show dOf ks + 1 ≤ 20; omega, b5, by show h + (rkOf ks + 0) ≤ n + 1; omega, ⟨fun z => absurd (show (4 : Nat) = 2 from z) (by decide), b7⟩⟩ ⟨⟨gN, Or.inr (Or.inr (Or.inr (Or.inl ⟨rfl, g8⟩)))⟩, k2⟩ ch ⟨ng, g1, k4 _ _ _ g2⟩ k5
      have ez : zsOf k p N φ ψ own lo U ((4, gn, 0, 0) :: ks) = zsOf k p N φ ψ own lo U ks + pcL p N φ lo U (posC own lo N (cOf k p φ ψ U ks)) := rfl
      have pa := pos_af hA mN m0 h18
      have pc1 : pcL p N φ lo U (posC own lo N (cOf k p φ ψ U ks)) ≤ pcL p N φ lo U (pE lo m) := pcL_mono (by rw [hcO]; omega)
      have p18 := pcL_18 (a := pE lo gn + 1) hA
      have vr := hv.2.2.2.2.2.2.2.2.2 hk (by omega) gn jn hj hg
      have lt : mu own lo N (n + 1) (cW T1 h) (dOf ((4, gn, 0, 0) :: ks)) (U.1 (k + 6) (φ gn)) < mu own lo N n (cW T h) (dOf ks) (4 * (φ m : Int)) := mu_st hn (by show dOf ks + 1 ≤ 20; omega) (by rw [posC_E, nd.1.2.2.1]; exact pE_b hA mN) (by rw [cW_c r2 h (Nat.le_refl h)]; exact Nat.le_succ _)
      have go := ih.2.2.2.1 gn S1 T1 ((4, gn, 0, 0) :: ks) x (n + 1) (us + 4) h (vs + 1) ls ⟨⟨hcn, s3.1.1, r3.1.1, by rw [ez]; omega, by omega⟩, r3.1.2.1, gN, g813, rfl⟩ (Nat.le_of_lt_succ (Nat.lt_of_lt_of_le lt hm))
      refine GZ_le (GZ_c (GZ_r go fun q => rt_2 t76 t78 (by rw [t80]; exact r1)) fun q i i1 i2 => ?_) (Nat.le_refl _) (by omega)
      rw [ct_E hA hB ⟨i1, i2⟩ nd.1.1 c2 zz1, if_pos s3.2.2.2.1]
    · exact atm_far hX0 hP0 (by omega) (by omega) r1 r3.2.2.2.2.2
theorem atm_v (hX : FIX Q k p N M φ ψ own up lo U w len C V) (ih : ALL Q k p N φ ψ own up lo U w len x0 C V j) (hP : ATs k p N φ ψ own up lo U w len x0 C V m S T ks x n us h vs ls) (hk : 15 ≤ U.1 625 (320 * p + m)) (hm : mu own lo N n (cW T h) (dOf ks) (4 * (φ m : Int)) ≤ j + 1) : GZ Q x0 (j + 1) (1100 * (j + 1)) 1 S T := by
  have hX0 := hX
  have hP0 := hP
  obtain ⟨hA, hV, hw, hC7, hQ⟩ := hX
  have bd := bnS hV hC7 (hV.1 _ _ _ _ _) hP.1
  obtain ⟨⟨hc, c2, t78, p1, p2⟩, t80, mN, m0, h18, hcO⟩ := hP
  have hc0 := hc
  obtain ⟨hB, ⟨s3, s7, s9, s10, s14, s11⟩, ⟨t75, t76, t81, t84, t88, t95, t105⟩, ⟨b1, b2, b3, b4, b5, b6, b7⟩, hW, hC, ⟨ng, g1, g2⟩, hcp⟩ := hc
  have nd := sa_node hA mN
  have kd := nd.2.2.1 m0
  have hv := hV.2.2.2.2.1 m ks x mN m0 h18
  have cn := cor_cn hc0 c2
  have tn := cor_tn hc0 t78
  rw [t80] at tn
  have k17 : U.1 (k + 1) (φ m) ≠ 17 ∧ U.1 (k + 1) (φ m) ≠ 18 := by
    rw [kd]
    exact kcl_ne nd.2.1 (by omega)
  by_cases z15 : U.1 625 (320 * p + m) = 15
  · obtain ⟨T1, r1, r2, r3⟩ := ta_fai (Q := Q) hA hB mN tn b2 z15
    by_cases hn : n < 1000
    · obtain ⟨Z, zz1, zz2, zz3⟩ := e_st (Q := Q) hA hB nd.1.1 cn hn k17
      rw [kd, kcl_v.2.2.2.2.2.2.2.2.2.1 z15, e_fail] at zz1
      rw [show flg n = 0 from if_pos hn] at r3
      exact atm_off hX0 ih hP0 hn hm zz1 zz2 zz3 r1 r2 r3
    · exact atm_far hX0 hP0 (by omega) (by omega) r1 r3.2.2.2.2.2
  · have z67 : U.1 625 (320 * p + m) = 16 ∨ U.1 625 (320 * p + m) = 17 := z67_of hk nd.2.1.2 z15 h18
    obtain ⟨T1, r1, r2, r3, r4⟩ := ta_vrb (Q := Q) hA hB mN tn b2 (by omega) z67
    by_cases hn : n < 1000
    · obtain ⟨Z, zz1, zz2, zz3⟩ := e_st (Q := Q) hA hB nd.1.1 cn hn k17
      have kk : U.1 (k + 1) (φ m) = (if U.1 625 (320 * p + m) = 16 then 11 else 12) := by
        rw [kd]
        rcases z67 with z | z
        · rw [if_pos z]
          exact kcl_v.2.2.2.2.2.2.2.2.2.2.1 z
        · rw [if_neg (by omega)]
          exact kcl_v.2.2.2.2.2.2.2.2.2.2.2.1 z
      obtain ⟨S1, s1, s2, s3, s4⟩ := e_verb (Q := Q) (kd := U.1 (k + 1) (φ m)) hA (BAS_m hB zz2 (AR_r (vs := vs) (h := h) (ls := ls))) nd.1.1 zz3 (by omega) (by
        rw [kk]
        split
        · exact Or.inl rfl
        · exact Or.inr rfl)
      rw [s1] at zz1
      rw [show flg n = 0 from if_pos hn] at r3
      have ac := AC_tr zz2 s2 (Nat.le_refl _) (Nat.le_refl _)
      obtain ⟨k1, k2, k3, k4, k5⟩ := COR_k hc0 ac r2 (Nat.le_succ n) (Nat.le_refl us) (Nat.le_refl vs) (Nat.le_refl ls)
      have pa : PAIR k p N φ ψ own up lo U len x0 C V S1 T1 h us vs ls (n + 1) := by
        refine ⟨⟨s4.2.2.2.2.2, r4.2.2.2.2.2.2.2.1, r4.2.2.2.2.2.2.2.2, b3⟩, Or.inl ⟨?_, by rw [s4.2.2.1, r4.2.2.2.1]⟩⟩
        rcases z67 with z | z
        · rw [if_pos z] at kk
          exact Or.inl ⟨by rw [s4.1, if_pos kk], by rw [r4.1, if_pos z]⟩
        · rw [if_neg (by omega)] at kk
          exact Or.inr ⟨by rw [s4.1, if_neg (by omega)], by rw [r4.1, if_neg (by omega)]⟩
      have e5 := (cW_s (T := T1) (h := h)).1
      have e6 := cW_c r2 h (Nat.le_refl h)
      exact atm_on hX0 ih hP0 hn hm zz1 ac s3 r1 r2 r3 (Nat.le_refl x) b1 (Nat.le_succ h) (by omega) (hv.2.1 (Or.inr (Or.inl (by omega)))) (by omega) ⟨us, vs, ls, Nat.le_refl _, Nat.le_refl _, Nat.le_refl _, pa, k5⟩
    · exact atm_far hX0 hP0 (by omega) (by omega) r1 r3.2.2.2.2.2
theorem atm (hX : FIX Q k p N M φ ψ own up lo U w len C V) (ih : ALL Q k p N φ ψ own up lo U w len x0 C V j) (hP : ATs k p N φ ψ own up lo U w len x0 C V m S T ks x n us h vs ls) (hm : mu own lo N n (cW T h) (dOf ks) (4 * (φ m : Int)) ≤ j + 1) : GZ Q x0 (j + 1) (1100 * (j + 1)) 1 S T := by
  by_cases z1 : U.1 625 (320 * p + m) ≤ 7
  · exact atm_s hX ih hP z1 hm
  by_cases z2 : U.1 625 (320 * p + m) = 8
  · exact atm_8 hX ih hP z2 hm
  by_cases z3 : U.1 625 (320 * p + m) = 9
  · exact atm_9 hX ih hP z3 hm
  by_cases z4 : U.1 625 (320 * p + m) ≤ 12
  · exact atm_lk hX ih hP (by omega) hm
  by_cases z5 : U.1 625 (320 * p + m) = 13
  · exact atm_13 hX ih hP z5 hm
  by_cases z6 : U.1 625 (320 * p + m) = 14
  · exact atm_14 hX ih hP z6 hm
  exact atm_v hX ih hP (by omega) hm
end OPZW
