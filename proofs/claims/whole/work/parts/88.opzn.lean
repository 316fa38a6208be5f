/-! SEARCH: whether there is one round more, side by side; a round ends; a repeat is begun -/
section OPZN
variable {Q k p N M m n n2 h h2 us us2 vs vs2 ls ls2 w len x0 x y u v a b r j : Nat} {C : Int} {φ ψ own up lo : Nat → Nat} {S S1 S2 T T1 T2 U : ev_St} {V : Nat → Nat → Nat → List KT → Nat → Int} {ks : List KT} {κ : KT} {c g f td nd had th dp kd cd fr vv : Int}
theorem pair_try (q1 : CHC S h 0 cd (x : Int) fr g us) (q2 : RCH T h kd nd vv (x : Int) had th ((dOf ks + 64 * lOf ks : Nat) : Int) vs ls) (hW : WFL k p N φ ψ up U len n ks) (hb : dOf ks ≤ 20 ∧ lOf ks ≤ 40 ∧ h + rkOf ks ≤ n) (hx : x ≤ len) (ho : okp x0 ks x) (hl : (ls = 0 ∨ 4 * ls + 4 ≤ us)) (hG : ∃ ng, ng ≤ ls ∧ GL S T us ls ng g had) (hT : PTRY k p N φ ψ own up lo U C V S T h us vs ls n x ks) : PAIR k p N φ ψ own up lo U len x0 C V S T h us vs ls n := by
  obtain ⟨c1, c2, c3, c4, c5, c6⟩ := q1
  obtain ⟨d1, d2, d3, d4, d5, d6, d7, d8, d9⟩ := q2
  obtain ⟨ng, g1, g2⟩ := hG
  exact ⟨⟨c6, d8, d9, hl⟩, Or.inr ⟨ks, x, ng, hW, hb, d4, hx, ho, d7, g1, by rw [c5, d5]; exact g2, Or.inl ⟨c1, c3, hT⟩⟩⟩
theorem gor (hX : FIX Q k p N M φ ψ own up lo U w len C V) (ih : ∀ j2, j2 ≤ j → ALL Q k p N φ ψ own up lo U w len x0 C V j2) (hB : BAS k p U w len S T) (hN : CN S c (x : Int) (u : Int) g us h n (x0 : Int)) (hT : TN T 6 ((320 * p + m : Nat) : Int) (x : Int) had th ((dOf ks + 64 * lOf ks : Nat) : Int) vs h ls n 0) (h85 : T.1 621 85 = (r : Int)) (hb : x ≤ len ∧ n ≤ 1000 ∧ (ls = 0 ∨ 4 * ls + 4 ≤ us) ∧ dOf ks ≤ 20 ∧ lOf ks ≤ 40 ∧ h + rkOf ks + 1 ≤ n ∧ okp x0 ks x) (hW : WFL k p N φ ψ up U len n ks) (hC : CH k p φ ψ U S T us vs ls h ks (S.1 282 u) th) (hu : u + 4 ≤ us) (tg : S.1 282 (u + 1) = ((256 * lOf ks + 8 * dOf ks : Nat) : Int)) (h2 : S.1 282 (u + 2) = (r : Int)) (h3 : S.1 282 (u + 3) = (x : Int)) (hG : ∃ ng, ng ≤ ls ∧ GL S T us ls ng g had) (hP : CPS k p N φ ψ own up lo U len x0 C V S T n h us vs ls) (hm : m < N) (hr : U.1 630 (320 * p + m) ≠ -1) (hc : cOf k p φ ψ U ks = U.1 (k + 7) (bt k p ψ U m)) (hrn : r ≤ n) (p1 : us + 4 * (pcL p N φ lo U (pL lo N (bt k p ψ U m)) + zsOf k p N φ ψ own lo U ks) ≤ 76 * n + 72) (p2 : 2 * (vs : Int) + V 6 m r ks x ≤ 299 * (n : Int) + C) (hmu : mu own lo N n (cW T h) (dOf ks) (cOf k p φ ψ U ks) ≤ j) : ∃ S1, jm_143 Q (bt k p ψ U m : Int) S = some (1, S1) ∧ S1.1 281 10 = 0 ∧ GZ Q x0 j (1100 * j + 42) 1 S1 T := by
  have hX0 := hX
  obtain ⟨hA, hV, hw, hC7, hQ⟩ := hX
  obtain ⟨b1, b2, b3, b4, b5, b6, b7⟩ := hb
  have v0 := hV.1 6 m r ks x
  rcases sa_rep hA hm with y | ⟨y1, y2, y3, y4, y5, y6, y7, y8⟩
  · exact absurd y.1 hr
  have nd := sa_node hA hm
  have bv := nd.2.2.2.2 hr
  have m0 : m ≠ 0 := fun z => by
    have := (sa_num hA).2.2.2.2.2.1
    rw [z, Nat.add_zero] at hr
    omega
  have h18 : U.1 625 (320 * p + m) ≠ 18 := fun z => by
    have := (sa_row hA hm z).2.2.1
    omega
  obtain ⟨e1, e2, e3, e4⟩ := pos_ab hA hm m0 h18 hr
  have ps := pos_ks hA hW
  have hj : 15163 * (2 * (1000 - n) + cW T h) + 1 ≤ j := by
    unfold mu at hmu
    omega
  obtain ⟨j, rfl⟩ : ∃ i, j = i + 1 := ⟨j - 1, by omega⟩
  have k13 : U.1 (k + 1) (bt k p ψ U m) = 13 ∨ U.1 (k + 1) (bt k p ψ U m) = 14 := by
    rw [y4]
    split
    · exact Or.inr rfl
    · exact Or.inl rfl
  obtain ⟨g1, g2, g3, g4⟩ := g_rnd (Q := Q) hA hB y2 hN hu (by omega) (by omega) k13 h2
  obtain ⟨t1, t2, t3, t4⟩ := t_rep (Q := Q) hA hB hm hT (by omega) b2 (by omega) (show r ≤ 100000 by omega) (by omega) h85
  rw [y5, y6] at g2 g3 g4
  rw [y5] at g1
  have pv := hV.2.2.2.1 m r ks x hm hr
  have pcm : pcL p N φ lo U (posC own lo N (cOf k p φ ψ U ks)) ≤ pcL p N φ lo U (pL lo N (bt k p ψ U m)) := pcL_mono (by rw [hc]; omega)
  have cl : ∀ S1, AC us h S S1 → ∀ i, i < 4 → S1.1 282 (u + i) = S.1 282 (u + i) := fun S1 q i z => q.1 _ (by omega)
  have t76 := hT.2.2.2.2.2
  have t78 := hT.1.1
  have t80 := hT.1.2.1
  obtain ⟨ng, gg1, gg2⟩ := hG
  by_cases z1 : (r : Int) < U.1 631 (320 * p + m)
  · -- a round that has to be
    obtain ⟨S1, s1, s2, s3⟩ := g1 z1
    have c0 : S1.1 282 u = S.1 282 u := cl S1 s2 0 (by omega)
    obtain ⟨T1, r1, r2⟩ := rnd_go (j := j) hX0 (ih j (by omega)) (BAS_m hB s2 (AR_r (vs := vs) (h := h) (ls := ls))) s3 hT ⟨b1, b2, b3, b4, b5, by omega, b7⟩ hW (by
      rw [c0]
      exact CH_m (Nat.le_refl _) (Nat.le_refl _) (Nat.le_refl _) ks h h _ _ s2 AR_r (Nat.le_refl _) hC) hu (by rw [cl S1 s2 1 (by omega)]; exact tg) (by rw [cl S1 s2 2 (by omega)]; exact h2) (by rw [cl S1 s2 3 (by omega)]; exact h3) ⟨ng, gg1, GL_m s2 (AR_r (vs := vs) (h := h)) (Nat.le_refl _) (Nat.le_refl _) gg2⟩ (CPS_m (Nat.le_refl n) h us vs ls us vs ls s2 AR_r (Nat.le_refl _) (Nat.le_refl _) (Nat.le_refl _) hP) hm hr hc hrn p1 (by
      have := pv.1 (Or.inl z1)
      omega) (by omega)
    refine ⟨S1, s1, s3.2.2.2.1, GZ_le (GZ_r r2 fun q => rt_6 t76 t78 (by rw [t80, t1 z1]; exact r1)) (Nat.le_refl _) (by omega)⟩
  have z1' : U.1 631 (320 * p + m) ≤ (r : Int) := by omega
  have pv2 := pv.2.1 z1'
  by_cases z2 : U.1 632 (320 * p + m) ≠ -1 ∧ U.1 632 (320 * p + m) ≤ (r : Int)
  · -- no round more
    obtain ⟨S1, s1, s2, s3⟩ := g2 z1' z2.1 z2.2
    obtain ⟨T1, r1, r2, r3⟩ := t2 z1' z2.1 z2.2
    have hcn : COR k p N φ ψ own up lo U w len x0 C V S1 T1 ks x n us h vs ls := cor_mk (BAS_m hB s2 r2) s3 r3 ⟨b1, b2, b3, b4, b5, by omega, b7⟩ hW (CH_m (Nat.le_refl _) (Nat.le_refl _) (Nat.le_refl _) ks h h _ _ s2 r2 (Nat.le_refl _) hC) ⟨ng, gg1, GL_m s2 r2 (Nat.le_refl _) (Nat.le_refl _) gg2⟩ (CPS_m (Nat.le_refl n) h us vs ls us vs ls s2 r2 (Nat.le_refl _) (Nat.le_refl _) (Nat.le_refl _) hP)
    have go := (ih (j + 1) (Nat.le_refl _)).1 S1 T1 ks x n us h vs ls ⟨hcn, by rw [hc]; exact s3.1.1, r3.1.1, by omega, by omega⟩ (by rw [cW_c r2 h (Nat.le_refl h)]; exact hmu)
    refine ⟨S1, s1, s3.2.2.2.1, GZ_le (GZ_r go fun q => rt_6 t76 t78 (by rw [t80]; exact r1)) (Nat.le_refl _) (by omega)⟩
  have z2' : U.1 632 (320 * p + m) = -1 ∨ (r : Int) < U.1 632 (320 * p + m) := by omega
  have pv1 := pv.1 (Or.inr z2')
  by_cases z3 : U.1 630 (320 * p + m) = 1
  · -- reluctant
    rw [z3, if_pos rfl] at y4
    obtain ⟨S1, s1, s2, s3, s4⟩ := g4 z1' z2' y4
    obtain ⟨T1, r1, r2, r3, r4⟩ := t4 z1' z2' z3
    have c0 : S1.1 282 u = S.1 282 u := cl S1 s2 0 (by omega)
    have hch := CH_m (Nat.le_refl us) (Nat.le_refl vs) (Nat.le_refl ls) ks h h _ _ s2 r2 (Nat.le_refl _) hC
    have hgl : ∃ ng, ng ≤ ls ∧ GL S1 T1 us ls ng g had := ⟨ng, gg1, GL_m s2 r2 (Nat.le_refl _) (Nat.le_refl _) gg2⟩
    have pa : PAIR k p N φ ψ own up lo U len x0 C V S1 T1 h us vs ls n := pair_try s4 r4 hW ⟨b4, b5, by omega⟩ b1 b7 b3 hgl (Or.inr (Or.inr ⟨r4.1, m, r, hm, z3, r4.2.1, r4.2.2.1, hrn, s4.2.1, hc, ⟨u, s4.2.2.2.1, hu, by rw [cl S1 s2 1 (by omega)]; exact tg, by rw [cl S1 s2 2 (by omega)]; exact h2, by rw [cl S1 s2 3 (by omega)]; exact h3, by rw [c0, r4.2.2.2.2.2.1]; exact hch⟩, p1, by omega⟩))
    have hcp := CPS_m (Nat.le_refl n) h us vs ls us vs ls s2 r2 (Nat.le_refl _) (Nat.le_refl _) (Nat.le_refl _) hP
    have hcn : COR k p N φ ψ own up lo U w len x0 C V S1 T1 ks x n us (h + 1) vs ls := cor_mk (BAS_m hB s2 r2) s3 r3 ⟨b1, b2, b3, b4, b5, by omega, b7⟩ hW (CH_m (Nat.le_refl _) (Nat.le_refl _) (Nat.le_refl _) ks h (h + 1) _ _ s2 r2 (Nat.le_succ _) hC) hgl ⟨us, vs, ls, Nat.le_refl _, Nat.le_refl _, Nat.le_refl _, pa, hcp⟩
    have go := (ih (j + 1) (Nat.le_refl _)).1 S1 T1 ks x n us (h + 1) vs ls ⟨hcn, by rw [hc]; exact s3.1.1, r3.1.1, by omega, by omega⟩ (by
      rw [(cW_s (T := T1) (h := h)).2.2.1 (Or.inr r4.1), cW_c r2 h (Nat.le_refl h)]
      exact hmu)
    refine ⟨S1, s1, s3.2.2.2.1, GZ_le (GZ_r go fun q => rt_6 t76 t78 (by rw [t80]; exact r1)) (Nat.le_refl _) (by omega)⟩
  · -- greedy
    rw [if_neg z3] at y4
    obtain ⟨S1, s1, s2, s3, s4⟩ := g3 z1' z2' y4
    obtain ⟨T1, r1, r2, r3, r4⟩ := t3 z1' z2' z3
    have c0 : S1.1 282 u = S.1 282 u := cl S1 s2 0 (by omega)
    have hch := CH_m (Nat.le_refl us) (Nat.le_refl vs) (Nat.le_refl ls) ks h h _ _ s2 r2 (Nat.le_refl _) hC
    have hgl : ∃ ng, ng ≤ ls ∧ GL S1 T1 us ls ng g had := ⟨ng, gg1, GL_m s2 r2 (Nat.le_refl _) (Nat.le_refl _) gg2⟩
    have pa : PAIR k p N φ ψ own up lo U len x0 C V S1 T1 h us vs ls n := pair_try s4 r4 hW ⟨b4, b5, by omega⟩ b1 b7 b3 hgl (Or.inr (Or.inl ⟨r4.1, by rw [hc]; exact s4.2.1, by rw [s4.2.2.2.1, r4.2.2.2.2.2.1]; exact hch, by omega, by omega⟩))
    have hcp := CPS_m (Nat.le_refl n) h us vs ls us vs ls s2 r2 (Nat.le_refl _) (Nat.le_refl _) (Nat.le_refl _) hP
    have e5 := (cW_s (T := T1) (h := h)).1
    have e6 := cW_c r2 h (Nat.le_refl h)
    obtain ⟨T2, q1, q2⟩ := rnd_go (j := j) hX0 (ih j (by omega)) (BAS_m hB s2 r2) s3 r3 ⟨b1, b2, b3, b4, b5, by omega, b7⟩ hW (by
      rw [c0]
      exact CH_m (Nat.le_refl _) (Nat.le_refl _) (Nat.le_refl _) ks h (h + 1) _ _ s2 r2 (Nat.le_succ _) hC) hu (by rw [cl S1 s2 1 (by omega)]; exact tg) (by rw [cl S1 s2 2 (by omega)]; exact h2) (by rw [cl S1 s2 3 (by omega)]; exact h3) hgl ⟨us, vs, ls, Nat.le_refl _, Nat.le_refl _, Nat.le_refl _, pa, hcp⟩ hm hr hc hrn p1 (by omega) (by omega)
    refine ⟨S1, s1, s3.2.2.2.1, GZ_le (GZ_r q2 fun q => rt_6 t76 t78 (by rw [t80, r1]; exact q1)) (Nat.le_refl _) (by omega)⟩
theorem pro_3 (hX : FIX Q k p N M φ ψ own up lo U w len C V) (ih : ∀ j2, j2 ≤ j → ALL Q k p N φ ψ own up lo U w len x0 C V j2) (hP : PRs k p N φ ψ own up lo U w len x0 C V S T (κ :: ks) x n us h vs ls) (e : κ.1 = 3) (hm : mu own lo N n (cW T h) (dOf (κ :: ks)) (cOf k p φ ψ U (κ :: ks)) ≤ j + 1) : GZ Q x0 (j + 1) (1100 * (j + 1)) 1 S T := by
  have hX0 := hX
  obtain ⟨hA, hV, hw, hC7, hQ⟩ := hX
  have bd := bnS hV hC7 (hV.1 _ _ _ _ _) hP
  obtain ⟨hc, c2, t78, p1, p2⟩ := hP
  have hc0 := hc
  obtain ⟨hB, ⟨s3, s7, s9, s10, s14, s11⟩, ⟨t75, t76, t81, t84, t88, t95, t105⟩, ⟨b1, b2, b3, b4, b5, b6, b7⟩, hW, hC, ⟨ng, g1, g2⟩, hcp⟩ := hc
  obtain ⟨w1, w2, w3, w4, w5⟩ := wk_3 hW.1 e
  obtain ⟨v, u, f1, f2, f3, f4, f5, f6, f7, f8⟩ := ch_f hC (by omega)
  have f9 : CH k p φ ψ U S T us vs ls h ks (S.1 282 u) (T.1 685 v) := by
    rw [show hK h κ = h from if_neg (by omega)] at f8
    exact f8
  obtain ⟨z1, z2, z3, z4, z5, z6⟩ : κ.1 = 3 ∧ T.1 681 v = 3 ∧ T.1 682 v = ((320 * p + κ.2.1 : Nat) : Int) ∧ T.1 683 v = 256 * ((κ.2.2.1 : Int) + 1) + (κ.2.2.2 : Int) ∧ S.1 282 (u + 2) = (κ.2.2.1 : Int) ∧ S.1 282 (u + 3) = (κ.2.2.2 : Int) := by
    rcases f7 with z | z | z | z
    · exact absurd z.1 (by omega)
    · exact z
    · exact absurd z.1 (by omega)
    · exact absurd z.1 (by omega)
  obtain ⟨m, a, b, hκ⟩ : ∃ m a b, κ = (3, m, a, b) := ⟨κ.2.1, κ.2.2.1, κ.2.2.2, by rw [← e]⟩
  subst hκ
  have ed : dOf ((3, m, a, b) :: ks) = dOf ks := rfl
  have el : lOf ((3, m, a, b) :: ks) = lOf ks := rfl
  have er : rkOf ((3, m, a, b) :: ks) = rkOf ks + 1 := rfl
  have ez : zsOf k p N φ ψ own lo U ((3, m, a, b) :: ks) = zsOf k p N φ ψ own lo U ks + (1 + pcL p N φ lo U (pL lo N (bt k p ψ U m))) := rfl
  have cc : cOf k p φ ψ U ((3, m, a, b) :: ks) = 4 * (bt k p ψ U m : Int) + 1 := rfl
  have b7' : okp x0 ks x := b7.2
  rw [ez] at p1
  rw [cc] at c2 hm
  rw [ed] at b4 hm t84
  rw [el] at b5 t84
  rw [er] at b6
  have w1' : m < N := w1
  have w2' : U.1 630 (320 * p + m) ≠ -1 := w2
  rcases sa_rep hA w1' with y | ⟨y1, y2, y3, y4, y5, y6, y7, y8⟩
  · exact absurd y.1 w2'
  have m0 : m ≠ 0 := fun z => by
    have := (sa_num hA).2.2.2.2.2.1
    rw [z, Nat.add_zero] at w2'
    omega
  have h18 : U.1 625 (320 * p + m) ≠ 18 := fun z => by
    have := (sa_row hA w1' z).2.2.1
    omega
  obtain ⟨e1, e2, e3, e4⟩ := pos_ab hA w1' m0 h18 w2'
  have k13 : U.1 (k + 1) (bt k p ψ U m) = 13 ∨ U.1 (k + 1) (bt k p ψ U m) = 14 := by
    rw [y4]
    split
    · exact Or.inr rfl
    · exact Or.inl rfl
  have bn : bt k p ψ U m ≠ φ 0 := fun z => by
    rw [z, (sa_node hA (sa_num hA).1.1).1.2.2.1] at y3
    exact m0 y3.symm
  have cn := cor_cn hc0 c2
  rw [f4] at cn
  have w4' : a + 1 ≤ n := w4
  have w5' : b ≤ len := w5
  have aro := CH_aro b4 b5 f9
  obtain ⟨l1, l2⟩ := l_rnd (Q := Q) (y := b) hA hB y2 cn f5 (by omega) k13 z5 z6 (show a ≤ 100000 by omega) aro
  rw [y5, y6] at l1 l2
  have tn := cor_tn hc0 t78
  rw [f1, ed, el] at tn
  obtain ⟨T1, r1, r2, r3, r4⟩ := t4_3 (Q := Q) (m := m) (a := a) (b := b) hA hB w1' tn (by omega) z2 z3 z4 (by omega) (by omega)
  rw [f3] at r3
  have lt1 : 15163 * (2 * (1000 - n) + cW T h) + 2 < mu own lo N n (cW T h) (dOf ks) (4 * (bt k p ψ U m : Int) + 1) := mu_off (by rw [posC_L]; exact pL_b hA y2) (Nat.le_refl _)
  by_cases q : U.1 632 (320 * p + m) = -1 ∧ U.1 631 (320 * p + m) ≤ (a : Int) ∧ x = b
  · -- no progress
    have l1' := l1 q
    rw [if_pos ⟨q.1, by omega, by omega⟩] at r3
    obtain ⟨k1, k2, k3, k4, k5⟩ := COR_k hc0 (AC_r (us := us) (h := h) (S := S)) r2 (Nat.le_refl n) (Nat.le_refl us) (Nat.le_refl vs) (Nat.le_refl ls)
    have go := (ih j (Nat.le_refl j)).2.2.2.2.2 S T1 n us h vs ls (cob_of k1 cn r3 ⟨b2, by omega, Nat.le_refl us, bd.2.1⟩ k5) r3.1.1 (by rw [cW_c r2 h (Nat.le_refl h)]; omega)
    refine GZ_le (GZ_c (GZ_r go fun q => rt_4 t76 t78 r1) fun q i i1 i2 => ?_) (Nat.le_refl _) (by omega)
    rw [ct_L hA hB ⟨i1, i2⟩ y2 c2 (Or.inl bn) l1', if_pos s10]
  · rw [if_neg (fun w => q ⟨w.1, by have := w.2.1; omega, by have := w.2.2; omega⟩)] at r3
    obtain ⟨X, x1, x2, x3, x4, x5, x6, x7⟩ := l2 q
    obtain ⟨k1, k2, k3, k4, k5⟩ := COR_k hc0 x1 r2 (Nat.le_refl n) (show us ≤ us + 4 by omega) (Nat.le_refl vs) (Nat.le_refl ls)
    have lt : mu own lo N n (cW T h) (dOf ks) (cOf k p φ ψ U ks) < mu own lo N n (cW T h) (dOf ks) (4 * (bt k p ψ U m : Int) + 1) := mu_lt (Or.inl ⟨rfl, by rw [posC_L, w3]; exact e2⟩) (by rw [posC_L]; exact pL_b hA y2) (by rw [w3]; exact e3)
    have pv := (hV.2.2.2.1 m a ks x w1' w2').2.2.2 b (fun w => q ⟨w.1, by have := w.2.1; omega, w.2.2⟩)
    obtain ⟨S1, s1, s2, s3⟩ := gor (m := m) (ks := ks) (u := us) (r := a + 1) (j := j) hX0 ih k1 x2 r3 (by rw [r4]; omega) ⟨b1, b2, lbu b3 (Nat.le_add_right us 4), b4, b5, by omega, b7'⟩ k2.2 (by rw [x3]; exact k3 h ks _ _ (Nat.le_refl h) f9) (Nat.le_refl _) x4 x5 x6 ⟨ng, g1, k4 _ _ _ g2⟩ k5 w1' w2' w3 w4' (by omega) (by omega) (by rw [cW_c r2 h (Nat.le_refl h)]; omega)
    refine GZ_le (GZ_c (GZ_r s3 fun q => rt_4 t76 t78 r1) fun q i i1 i2 => ?_) (Nat.le_refl _) (by omega)
    rw [ct_L hA hB ⟨i1, i2⟩ y2 c2 (Or.inl bn) (x7 S1 s1), if_pos s2]
end OPZN
