/-! SEARCH: items, rows, the end, side by side -/
section OPZX
variable {Q k p N M m n n2 h h2 us us2 vs vs2 ls ls2 w len x0 x y u v a b r j t : Nat} {C : Int} {φ ψ own up lo : Nat → Nat} {S S1 S2 T T1 T2 U : ev_St} {V : Nat → Nat → Nat → List KT → Nat → Int} {ks : List KT} {κ : KT} {c g f td nd had th dp kd cd fr vv a1 a2 hh : Int}
/-- an item that is not repeated -/
theorem itm_0 (hX : FIX Q k p N M φ ψ own up lo U w len C V) (ih : ALL Q k p N φ ψ own up lo U w len x0 C V j) (hP : ITs k p N φ ψ own up lo U w len x0 C V m S T ks x n us h vs ls) (hr : U.1 630 (320 * p + m) = -1) (hm : mu own lo N n (cW T h) (dOf ks) (4 * (ψ m : Int)) ≤ j + 1) : GZ Q x0 (j + 1) (1100 * (j + 1) + 1) 1 S T := by
  have hX0 := hX
  obtain ⟨hA, hV, hw, hC7, hQ⟩ := hX
  have bd := bnS hV hC7 (hV.1 _ _ _ _ _) hP.1
  obtain ⟨⟨hc, c2, t78, p1, p2⟩, t80, mN, m0, h18, hcO⟩ := hP
  have hc0 := hc
  obtain ⟨hB, ⟨s3, s7, s9, s10, s14, s11⟩, ⟨t75, t76, t81, t84, t88, t95, t105⟩, ⟨b1, b2, b3, b4, b5, b6, b7⟩, hW, hC, ⟨ng, g1, g2⟩, hcp⟩ := hc
  have tn := cor_tn hc0 t78
  rw [t80] at tn
  have ep : ψ m = φ m := by
    rcases sa_rep hA mN with y | ⟨y, _⟩
    · exact y.2
    · rcases y with z | z
      · have := z.1
        omega
      · have := z.1
        omega
  obtain ⟨T1, r1, r2, r3⟩ := (t_itm (Q := Q) hA hB mN tn b2 (by omega) (by omega) ⟨b4, b5⟩).1 hr
  obtain ⟨k1, k2, k3, k4, k5⟩ := COR_k hc0 (AC_r (us := us) (h := h) (S := S)) r2 (Nat.le_refl n) (Nat.le_refl us) (Nat.le_refl vs) (Nat.le_refl ls)
  have hcn : COR k p N φ ψ own up lo U w len x0 C V S T1 ks x n us h vs ls := cor_mk k1 (cor_cn hc0 c2) r3 ⟨b1, b2, b3, b4, b5, b6, b7⟩ k2 (k3 h ks _ _ (Nat.le_refl h) hC) ⟨ng, g1, k4 _ _ _ g2⟩ k5
  have vv := (hV.2.2.1 m ks x mN m0 h18).1 hr
  rw [ep] at c2 hm
  have aft := (sa_after hA mN m0 h18).1
  rw [ep] at aft
  have go := atm hX0 ih (m := m) (S := S) (T := T1) (ks := ks) (x := x) (n := n) (us := us) (h := h) (vs := vs) (ls := ls) (j := j) ⟨⟨hcn, c2, r3.1.1, p1, by omega⟩, r3.1.2.1, mN, m0, h18, by rw [aft]; exact hcO⟩ (by rw [cW_c r2 h (Nat.le_refl h)]; exact hm)
  exact GZ_r go fun q => rt_1 t76 t78 (by rw [t80]; exact r1)
theorem itm_1 (hX : FIX Q k p N M φ ψ own up lo U w len C V) (ih : ∀ j2, j2 ≤ j → ALL Q k p N φ ψ own up lo U w len x0 C V j2) (hP : ITs k p N φ ψ own up lo U w len x0 C V m S T ks x n us h vs ls) (hr : U.1 630 (320 * p + m) = 0 ∨ U.1 630 (320 * p + m) = 1) (hm : mu own lo N n (cW T h) (dOf ks) (4 * (ψ m : Int)) ≤ j + 1) : GZ Q x0 (j + 1) (1100 * (j + 1)) 1 S T := by
  have hX0 := hX
  obtain ⟨hA, hV, hw, hC7, hQ⟩ := hX
  have bd := bnS hV hC7 (hV.1 _ _ _ _ _) hP.1
  obtain ⟨⟨hc, c2, t78, p1, p2⟩, t80, mN, m0, h18, hcO⟩ := hP
  have hc0 := hc
  obtain ⟨hB, ⟨s3, s7, s9, s10, s14, s11⟩, ⟨t75, t76, t81, t84, t88, t95, t105⟩, ⟨b1, b2, b3, b4, b5, b6, b7⟩, hW, hC, ⟨ng, g1, g2⟩, hcp⟩ := hc
  have nd := sa_node hA mN
  have tn := cor_tn hc0 t78
  rw [t80] at tn
  have cn := cor_cn hc0 c2
  have hr1 : U.1 630 (320 * p + m) ≠ -1 := by omega
  rcases sa_rep hA mN with y | ⟨y1, y2, y3, y4, y5, y6, y7, y8⟩
  · exact absurd y.1 hr1
  have eb : bt k p ψ U m = ψ m := by
    rcases y1 with z | z
    · exact z.2.1
    · have := z.1
      omega
  have k13 : U.1 (k + 1) (ψ m) = 13 ∨ U.1 (k + 1) (ψ m) = 14 := by
    rw [eb] at y4
    rw [y4]
    split
    · exact Or.inr rfl
    · exact Or.inl rfl
  obtain ⟨T1, r1, r2, r3, r4⟩ := (t_itm (Q := Q) hA hB mN tn b2 (by omega) (by omega) ⟨b4, b5⟩).2.1 hr
  by_cases hn : n < 1000
  · rw [show flg n = 0 from if_pos hn] at r3
    have aro := CH_aro b4 b5 hC
    obtain ⟨X, x1, x2, x3, x4, x5, x6, x7⟩ := e_rep (Q := Q) hA hB nd.1.2.1 cn (by omega) hn k13 aro
    obtain ⟨k1, k2, k3, k4, k5⟩ := COR_k hc0 x1 r2 (Nat.le_succ n) (show us ≤ us + 4 by omega) (Nat.le_refl vs) (Nat.le_refl ls)
    have aft := (sa_after hA mN m0 h18).1
    have pb := pos_ab hA mN m0 h18 hr1
    have pm : pcL p N φ lo U (pL lo N (bt k p ψ U m)) ≤ pcL p N φ lo U (pE lo m) := pcL_mono (by omega)
    have vv := (hV.2.2.1 m ks x mN m0 h18).2.1 hr
    have lt : mu own lo N (n + 1) (cW T1 h) (dOf ks) (cOf k p φ ψ U ks) < mu own lo N n (cW T h) (dOf ks) (4 * (ψ m : Int)) := mu_st hn b4 (by rw [posC_E, nd.1.2.2.2.1]; exact pE_b hA mN) (by rw [cW_c r2 h (Nat.le_refl h)]; exact Nat.le_succ _)
    obtain ⟨S1, s1, s2, s3⟩ := gor (m := m) (ks := ks) (u := us) (r := 0) (j := j) hX0 ih k1 x2 r3 (by rw [r4]; rfl) ⟨b1, by omega, lbu b3 (Nat.le_add_right us 4), b4, b5, by omega, b7⟩ k2 (by rw [x3]; exact k3 h ks _ _ (Nat.le_refl h) hC) (Nat.le_refl _) x4 x5 x6 ⟨ng, g1, k4 _ _ _ g2⟩ k5 mN hr1 (by rw [eb, aft]; exact hcO) (Nat.zero_le _) (by omega) (by omega) (Nat.le_of_lt_succ (Nat.lt_of_lt_of_le lt hm))
    rw [eb] at s1
    refine GZ_le (GZ_c (GZ_r s3 fun q => rt_1 t76 t78 (by rw [t80]; exact r1)) fun q i i1 i2 => ?_) (Nat.le_refl _) (by omega)
    rw [ct_E hA hB ⟨i1, i2⟩ nd.1.2.1 c2 (x7 S1 s1), if_pos s2]
  · obtain ⟨S1, s1, s2⟩ := e_far (Q := Q) hA hB nd.1.2.1 cn (by omega) (by omega)
    rw [show flg n = 1 from if_neg hn] at r3
    refine GZ_le (GZ_r (GZ_far (n := 0) (m := 0) s2 (by rw [r3.2.2.2.2.2]; decide) fun q i i1 i2 => ?_) fun q => rt_1 t76 t78 (by rw [t80]; exact r1)) (by omega) (by omega)
    rw [ct_E hA hB ⟨i1, i2⟩ nd.1.2.1 c2 s1, if_neg s2]
/-- a possessive one -/
theorem itm_2 (hX : FIX Q k p N M φ ψ own up lo U w len C V) (ih : ∀ j2, j2 ≤ j → ALL Q k p N φ ψ own up lo U w len x0 C V j2) (hP : ITs k p N φ ψ own up lo U w len x0 C V m S T ks x n us h vs ls) (hr : U.1 630 (320 * p + m) = 2) (hm : mu own lo N n (cW T h) (dOf ks) (4 * (ψ m : Int)) ≤ j + 1) : GZ Q x0 (j + 1) (1100 * (j + 1)) 1 S T := by
  have hX0 := hX
  obtain ⟨hA, hV, hw, hC7, hQ⟩ := hX
  have bd := bnS hV hC7 (hV.1 _ _ _ _ _) hP.1
  obtain ⟨⟨hc, c2, t78, p1, p2⟩, t80, mN, m0, h18, hcO⟩ := hP
  have hc0 := hc
  obtain ⟨hB, ⟨s3, s7, s9, s10, s14, s11⟩, ⟨t75, t76, t81, t84, t88, t95, t105⟩, ⟨b1, b2, b3, b4, b5, b6, b7⟩, hW, hC, ⟨ng, g1, g2⟩, hcp⟩ := hc
  have nd := sa_node hA mN
  have tn := cor_tn hc0 t78
  rw [t80] at tn
  have cn := cor_cn hc0 c2
  have hr1 : U.1 630 (320 * p + m) ≠ -1 := by omega
  rcases sa_rep hA mN with y | ⟨y1, y2, y3, y4, y5, y6, y7, y8⟩
  · exact absurd y.1 hr1
  obtain ⟨_, q1, q2, q3, q4, q5⟩ := y1.resolve_left (fun z => by have := z.1; omega)
  rw [if_neg (by omega)] at y4
  obtain ⟨ti1, ti2⟩ := (t_itm (Q := Q) hA hB mN tn b2 (by omega) (by omega) ⟨b4, b5⟩).2.2 hr
  have aro := CH_aro b4 b5 hC
  have p7 : posC own lo N (4 * (ψ m : Int)) < 720 := by
    rw [posC_E, nd.1.2.2.2.1]
    exact pE_b hA mN
  have far : ∀ {T1 : ev_St}, 1000 ≤ n → jm_303 Q ((320 * p + m : Nat) : Int) T = some ((), T1) → T1.1 621 76 ≠ 0 → GZ Q x0 (j + 1) (1100 * (j + 1)) 1 S T := fun {T1} a1 a2 a3 => by
    obtain ⟨S1, s1, s2⟩ := e_far (Q := Q) hA hB nd.1.2.1 cn a1 (by omega)
    refine GZ_le (GZ_r (GZ_far (n := 0) (m := 0) s2 a3 fun q i i1 i2 => ?_) fun q => rt_1 t76 t78 (by rw [t80]; exact a2)) (by omega) (by omega)
    rw [ct_E hA hB ⟨i1, i2⟩ nd.1.2.1 c2 s1, if_neg s2]
  by_cases hl : 40 ≤ lOf ks
  · obtain ⟨T1, r1, r2, r3⟩ := ti1 hl
    by_cases hn : n < 1000
    · obtain ⟨Z, zz1, zz2, zz3⟩ := e_st (Q := Q) hA hB nd.1.2.1 cn hn (by omega)
      have q := (e_look (Q := Q) (kd := 19) hA (BAS_m hB zz2 (AR_r (vs := vs) (h := h) (ls := ls))) nd.1.2.1 zz3 (by omega) (by omega) (by omega) (aro_c aro zz2)).1 hl
      rw [q3, q] at zz1
      rw [show flg n = 0 from if_pos hn] at r3
      obtain ⟨k1, k2, k3, k4, k5⟩ := COR_k hc0 zz2 r2 (Nat.le_succ n) (Nat.le_refl us) (Nat.le_refl vs) (Nat.le_refl ls)
      have lt := mu_off (n := n) (h := cW T h) (h2 := cW T h) (d := dOf ks) p7 (Nat.le_refl _)
      have go := (ih j (Nat.le_refl j)).2.2.2.2.2 Z T1 (n + 1) us h vs ls (cob_of k1 zz3 r3 ⟨by omega, by omega, Nat.le_refl us, bd.2.1⟩ k5) r3.1.1 (by
        rw [cW_c r2 h (Nat.le_refl h)]
        omega)
      refine GZ_le (GZ_c (GZ_r go fun q => rt_1 t76 t78 (by rw [t80]; exact r1)) fun q i i1 i2 => ?_) (Nat.le_refl _) (by omega)
      rw [ct_E hA hB ⟨i1, i2⟩ nd.1.2.1 c2 zz1, if_pos zz3.2.2.2.1]
    · refine far (by omega) r1 ?_
      rw [r3.2.2.2.2.2, show flg n = 1 from if_neg hn]
      decide
  · obtain ⟨T1, r1, r2, r3, r4, r5, r85⟩ := ti2 (by omega)
    by_cases hn : n < 1000
    · obtain ⟨Z, zz1, zz2, zz3⟩ := e_st (Q := Q) hA hB nd.1.2.1 cn hn (by omega)
      obtain ⟨S1, s1, s2, s3, s4, s5, s6, s7', s8⟩ := (e_look (Q := Q) (kd := 19) hA (BAS_m hB zz2 (AR_r (vs := vs) (h := h) (ls := ls))) nd.1.2.1 zz3 (by omega) (by omega) (by omega) (aro_c aro zz2)).2 (by omega)
      rw [q3, s1] at zz1
      rw [q4] at s3
      have ac := AC_tr zz2 s2 (Nat.le_refl _) (Nat.le_refl _)
      have vr := (hV.2.2.1 m ks x mN m0 h18).2.2 hr
      have aft := (sa_after hA mN m0 h18).1
      have v6 := hV.1 6 m 0 ((9, m, x, h) :: ks) x
      obtain ⟨⟨l1, l2, l3⟩, l4, l5, l6, l7, l8, l9, l10, l11⟩ := lk_parts (κ := (9, m, x, h)) (m := m) (b := ψ m) hc0 (Or.inr (Or.inr (Or.inr rfl))) rfl rfl rfl mN ⟨mN, Or.inr (Or.inr (Or.inr (Or.inr (Or.inr (Or.inr (Or.inr (Or.inr ⟨rfl, hr, by rw [aft]; exact hcO, b1⟩)))))))⟩ ac s5 s6 s7' s8 s4 r2 r4 r5 rfl (Or.inl ⟨rfl, Or.inr ⟨rfl, hr⟩⟩) (by omega) (by rw [aft]; exact hcO) p1 (fun q => absurd rfl q) (fun q => absurd q (by decide))
      have bS := BAS_m hB ac (AR_r (T := T) (vs := vs) (h := h) (ls := ls))
      have c1 : S1.1 281 2 = 4 * (bt k p ψ U m : Int) := s3.1.1
      -- the class's first turn
      have t1 : ∀ (q : Nat) (i : Int), 0 ≤ i → i < 100000000 → jl_122_74 Q (q + 1) 1 i S = jl_122_74 Q q 1 (i + 1) S1 := fun q i i1 i2 => by
        rw [ct_E hA hB ⟨i1, i2⟩ nd.1.2.1 c2 zz1, if_pos s3.2.2.2.1]
      have cw1 : mu own lo N (n + 1) (cW T h + 1) (dOf ks) (4 * (ψ m : Int)) < mu own lo N n (cW T h) (dOf ks) (4 * (ψ m : Int)) := mu_st hn b4 p7 (Nat.le_refl _)
      by_cases hn2 : n + 1 < 1000
      · rw [if_pos hn2] at r3
        have aro1 : ARo S1 (us + 4) (us : Int) (lOf ((9, m, x, h) :: ks)) (dOf ((9, m, x, h) :: ks)) := CH_aro (by omega) (by omega) l1
        obtain ⟨X, x1, x2, x3, x4, x5, x6, x7⟩ := e_rep (Q := Q) hA bS y2 s3 (by omega) hn2 (Or.inl y4) aro1
        obtain ⟨ng', lg1, lg2⟩ := l4
        have bX := BAS_m l5 x1 (AR_r (T := T1) (vs := vs + 1) (h := h + 1) (ls := ls))
        have pb := pos_ab hA mN m0 h18 hr1
        have pm : pcL p N φ lo U (pL lo N (bt k p ψ U m)) ≤ pcL p N φ lo U (pE lo m) := pcL_mono (by omega)
        have ec : cOf k p φ ψ U ((9, m, x, h) :: ks) = 4 * (ψ m : Int) + 1 := rfl
        have lt : mu own lo N (n + 1 + 1) (cW T1 (h + 1)) (dOf ((9, m, x, h) :: ks)) (cOf k p φ ψ U ((9, m, x, h) :: ks)) < mu own lo N (n + 1) (cW T h + 1) (dOf ks) (4 * (ψ m : Int)) := mu_st hn2 (by omega) p7 (by omega)
        obtain ⟨i, rfl⟩ : ∃ i, j = i + 1 := ⟨j - 1, by omega⟩
        have r3' : TN T1 6 ((320 * p + m : Nat) : Int) (x : Int) (T.1 621 82) (vs : Int) ((dOf ((9, m, x, h) :: ks) + 64 * lOf ((9, m, x, h) :: ks) : Nat) : Int) (vs + 1) (h + 1) ls (n + 1 + 1) 0 := by
          rw [l8, l9]
          exact r3
        obtain ⟨S3, g31, g32, g33⟩ := gor (m := m) (ks := (9, m, x, h) :: ks) (u := us + 4) (r := 0) (j := i) hX0 (fun j2 q => ih j2 (by omega)) bX x2 r3' (by rw [r85]; rfl) ⟨b1, by omega, lbu b3 (by omega), by omega, by omega, by omega, l7⟩ (WFL_n (Nat.le_succ _) _ l3) (by
          rw [x3]
          exact CH_m (show us + 4 ≤ us + 4 + 4 by omega) (Nat.le_refl _) (Nat.le_refl _) _ (h + 1) (h + 1) _ _ x1 (AR_r (vs := vs + 1) (h := h + 1) (ls := ls)) (Nat.le_refl _) l1) (Nat.le_refl _) x4 x5 x6 ⟨ng', lg1, GL_m x1 (AR_r (vs := vs + 1) (h := h + 1)) (by omega) (Nat.le_refl _) lg2⟩ (CPS_m (Nat.le_succ _) (h + 1) (us + 4) (vs + 1) ls (us + 4 + 4) (vs + 1) ls x1 AR_r (by omega) (Nat.le_refl _) (Nat.le_refl _) l2) mN hr1 (by rw [ec]; exact q5.symm) (Nat.zero_le _) (by rw [l11]; omega) (by
          have := vr x h
          omega) (by omega)
        refine GZ_le (GZ_c (GZ_c (GZ_r g33 fun q => rt_1 t76 t78 (by rw [t80]; exact r1)) fun q i i1 i2 => ?_) t1) (by omega) (by omega)
        rw [ct_E hA bS ⟨i1, i2⟩ y2 c1 (x7 S3 g31), if_pos g32]
      · rw [if_neg hn2] at r3
        obtain ⟨S2, g1', g2'⟩ := e_far (Q := Q) hA bS y2 s3 (by omega) (by omega)
        have j1 : 1 ≤ j := by
          have : 0 < mu own lo N (n + 1) (cW T h + 1) (dOf ks) (4 * (ψ m : Int)) := by
            unfold mu
            omega
          omega
        refine GZ_le (GZ_c (GZ_r (GZ_far (n := 0) (m := 0) g2' (by rw [r3.2.2.2.2.2]; decide) fun q i i1 i2 => ?_) fun q => rt_1 t76 t78 (by rw [t80]; exact r1)) t1) (by omega) (by omega)
        rw [ct_E hA bS ⟨i1, i2⟩ y2 c1 g1', if_neg g2']
    · refine far (by omega) r1 ?_
      rw [r3.2.2.2.2.2, if_neg (by omega)]
      decide
theorem mu_b {W d : Nat} (hd : d ≤ 20) : mu own lo N n W d c ≤ 15163 * (2 * (1000 - n) + W) + 15162 := by
  unfold mu
  have : 722 * (d + 1) - posC own lo N c ≤ 15162 := by omega
  omega
/-- a row of several is begun -/
theorem row_go (hX : FIX Q k p N M φ ψ own up lo U w len C V) (ih : ALL Q k p N φ ψ own up lo U w len x0 C V j) (hc0 : COR k p N φ ψ own up lo U w len x0 C V S T ks x n us h vs ls) (c2 : S.1 281 2 = 4 * (φ r : Int)) (rN : r < N) (h18 : U.1 625 (320 * p + r) = 18) (hcO : cOf k p φ ψ U ks = 4 * (φ (up r) : Int) + 1) (p1 : us + 4 * (pcL p N φ lo U (pE lo r) + zsOf k p N φ ψ own lo U ks) ≤ 76 * n + 72) (p2 : 2 * (vs : Int) + V 8 r 0 ks x ≤ 299 * (n : Int) + C) (hmu : 15163 * (2 * (1000 - n) + cW T h) ≤ j + 15163) : ∃ T1, jm_302 Q ((320 * p + r : Nat) : Int) 1 T = some ((), T1) ∧ GZ Q x0 (j + 1) (1100 * j + 40) 1 S T1 := by
  obtain ⟨hA, hV, hw, hC7, hQ⟩ := hX
  have v0 := hV.1 8 r 0 ks x
  have hc := hc0
  obtain ⟨hB, ⟨s3, s7, s9, s10, s14, s11⟩, ⟨t75, t76, t81, t84, t88, t95, t105⟩, ⟨b1, b2, b3, b4, b5, b6, b7⟩, hW, hC, ⟨ng, g1, g2⟩, hcp⟩ := hc
  have nd := sa_node hA rN
  obtain ⟨q1, q2, q3, q4, q5, q6⟩ := sa_row hA rN h18
  have cn := cor_cn hc0 c2
  have tn := cor_tn hc0 (rfl : T.1 621 78 = T.1 621 78)
  obtain ⟨t1, t2, _⟩ := t_row (Q := Q) hA hB rN tn b2 (by omega)
  have pv := hV.2.2.2.2.2.2.1 r ks x rN h18
  have pc1 : pcL p N φ lo U (pE lo r + 1) ≤ pcL p N φ lo U (pE lo r) := pcL_mono (Nat.le_succ _)
  have w1 : us + 4 * (pcL p N φ lo U (pE lo r + 1) + zsOf k p N φ ψ own lo U ks) ≤ 76 * (n + 1) + 72 := by omega
  have w2 : 2 * (vs : Int) + V 7 r 0 ks x ≤ 299 * ((n + 1 : Nat) : Int) + C := by
    have := pv.1
    omega
  have w3 : n < 1000 → 15163 * (2 * (1000 - (n + 1)) + cW T h) + 15162 ≤ j := fun z => by omega
  have w4 : h + 1 ≤ 1002 := by omega
  have w5 : h + 1 + rkOf ks ≤ n + 1 := by omega
  have w6 : ∀ t : Nat, U.1 627 (320 * p + r) = (t : Int) → r < t → t < N → us + 4 * (pcL p N φ lo U (pE lo t) + zsOf k p N φ ψ own lo U ks) ≤ 76 * (n + 1) + 72 ∧ 2 * (vs : Int) + V 8 t 0 ks x ≤ 299 * ((n + 1 : Nat) : Int) + C := fun t y1 y2 y3 => by
    have pc2 : pcL p N φ lo U (pE lo t) ≤ pcL p N φ lo U (pE lo r) := pcL_mono (Nat.le_of_lt (pEE hA y2 y3))
    have v8 := pv.2.1 t y1
    omega
  rcases sa_next hA rN with ⟨y, _⟩ | ⟨t, y, y2, y3, y4, y5, y6⟩
  · obtain ⟨T1, r1, r2, r3⟩ := t1 y
    refine ⟨T1, r1, ?_⟩
    by_cases hn : n < 1000
    · obtain ⟨Z, zz1, zz2, zz3⟩ := e_st (Q := Q) hA hB nd.1.1 cn hn (by omega)
      rw [if_pos y] at q6
      obtain ⟨S1, s1, s2, s3⟩ := (e_row (Q := Q) hA (BAS_m hB zz2 (AR_r (vs := vs) (h := h) (ls := ls))) nd.1.1 zz3 w4).1 q6
      rw [q4, s1] at zz1
      rw [show flg n = 0 from if_pos hn] at r3
      have ac := AC_tr zz2 s2 (Nat.le_refl _) (Nat.le_refl _)
      obtain ⟨k1, k2, k3, k4, k5⟩ := COR_k hc0 ac r2 (Nat.le_succ n) (Nat.le_refl us) (Nat.le_refl vs) (Nat.le_refl ls)
      have hcn : COR k p N φ ψ own up lo U w len x0 C V S1 T1 ks x (n + 1) us h vs ls := cor_mk k1 s3 r3 ⟨b1, hn, b3, b4, b5, Nat.le_succ_of_le b6, b7⟩ k2 (k3 h ks _ _ (Nat.le_refl h) hC) ⟨ng, g1, k4 _ _ _ g2⟩ k5
      have go := ih.2.2.2.2.1 r S1 T1 ks x (n + 1) us h vs ls ⟨⟨hcn, s3.1.1, r3.1.1, w1, w2⟩, r3.1.2.1, rN, h18, hcO⟩ (by
        rw [cW_c r2 h (Nat.le_refl h)]
        exact Nat.le_trans (mu_b b4) (w3 hn))
      refine GZ_c go fun q i i1 i2 => ?_
      rw [ct_E hA hB ⟨i1, i2⟩ nd.1.1 c2 zz1, if_pos s3.2.2.2.1]
    · obtain ⟨S1, s1, s2⟩ := e_far (Q := Q) hA hB nd.1.1 cn (by omega) (by omega)
      rw [show flg n = 1 from if_neg hn] at r3
      refine GZ_far s2 (by rw [r3.2.2.2.2.2]; decide) fun q i i1 i2 => ?_
      rw [ct_E hA hB ⟨i1, i2⟩ nd.1.1 c2 s1, if_neg s2]
  · obtain ⟨T1, r1, r2, r3, r4⟩ := t2 t y y3
    refine ⟨T1, r1, ?_⟩
    by_cases hn : n < 1000
    · obtain ⟨Z, zz1, zz2, zz3⟩ := e_st (Q := Q) hA hB nd.1.1 cn hn (by omega)
      rw [if_neg (by omega), y, Int.toNat_natCast] at q6
      have nt := sa_node hA y3
      obtain ⟨S1, s1, s2, s3, s4⟩ := (e_row (Q := Q) hA (BAS_m hB zz2 (AR_r (vs := vs) (h := h) (ls := ls))) nd.1.1 zz3 w4).2 (φ t) (by have := (sa_num hA).1.2.2; have := nt.1.1; omega) q6
      rw [q4, s1] at zz1
      rw [show flg n = 0 from if_pos hn] at r3
      have ac := AC_tr zz2 s2 (Nat.le_refl _) (Nat.le_refl _)
      obtain ⟨k1, k2, k3, k4, k5⟩ := COR_k hc0 ac r2 (Nat.le_succ n) (Nat.le_refl us) (Nat.le_refl vs) (Nat.le_refl ls)
      have hch := k3 h ks _ _ (Nat.le_refl h) hC
      have hgl : ∃ ng, ng ≤ ls ∧ GL S1 T1 us ls ng (S.1 281 5) (T.1 621 82) := ⟨ng, g1, k4 _ _ _ g2⟩
      obtain ⟨w7, w8⟩ := w6 t y y2 y3
      have pa : PAIR k p N φ ψ own up lo U len x0 C V S1 T1 h us vs ls (n + 1) := pair_try s4 r4 k2 ⟨b4, b5, Nat.le_succ_of_le b6⟩ b1 b7 b3 hgl (Or.inl ⟨r4.1, t, y3, y5.mpr h18, r4.2.1, s4.2.1, by rw [y4]; exact hcO, by rw [s4.2.2.2.1, r4.2.2.2.2.2.1]; exact hch, w7, w8⟩)
      have hcn : COR k p N φ ψ own up lo U w len x0 C V S1 T1 ks x (n + 1) us (h + 1) vs ls := cor_mk k1 s3 r3 ⟨b1, hn, b3, b4, b5, w5, b7⟩ k2 (k3 (h + 1) ks _ _ (Nat.le_succ h) hC) hgl ⟨us, vs, ls, Nat.le_refl _, Nat.le_refl _, Nat.le_refl _, pa, k5⟩
      have go := ih.2.2.2.2.1 r S1 T1 ks x (n + 1) us (h + 1) vs ls ⟨⟨hcn, s3.1.1, r3.1.1, w1, w2⟩, r3.1.2.1, rN, h18, hcO⟩ (by
        rw [(cW_s (T := T1) (h := h)).2.2.1 (Or.inl r4.1), cW_c r2 h (Nat.le_refl h)]
        exact Nat.le_trans (mu_b b4) (w3 hn))
      refine GZ_c go fun q i i1 i2 => ?_
      rw [ct_E hA hB ⟨i1, i2⟩ nd.1.1 c2 zz1, if_pos s3.2.2.2.1]
    · obtain ⟨S1, s1, s2⟩ := e_far (Q := Q) hA hB nd.1.1 cn (by omega) (by omega)
      rw [show flg n = 1 from if_neg hn] at r3
      refine GZ_far s2 (by rw [r3.2.2.2.2.2]; decide) fun q i i1 i2 => ?_
      rw [ct_E hA hB ⟨i1, i2⟩ nd.1.1 c2 s1, if_neg s2]
end OPZX
