/-! SEARCH: rounds of a repeat, side by side -/
section OPZM
variable {Q k p N M m n n2 h h2 us us2 vs vs2 ls ls2 w len x0 x y u v a b r j : Nat} {C : Int} {φ ψ own up lo : Nat → Nat} {S S1 S2 T T1 T2 U : ev_St} {V : Nat → Nat → Nat → List KT → Nat → Int} {ks : List KT} {κ : KT} {c g f td nd had th dp : Int}
/-- a frame upon a frame -/
theorem k_push {l d kd : Nat} {o q1 q2 : Int} (hN : CN S c (x : Int) f g us h n (x0 : Int)) (hs : us + 4 ≤ 76072) (hr : ARo S us o l d) (hk : kd ≤ 3) : ∃ S1, jm_124 Q o (kd : Int) q1 q2 S = some ((us : Int), S1) ∧ AC us h S S1 ∧ CN S1 c (x : Int) f g (us + 4) h n (x0 : Int) ∧ S1.1 282 us = o ∧ S1.1 282 (us + 1) = ((256 * l + 8 * d + (if kd = 2 then 8 else if kd = 3 then 256 else 0) + kd : Nat) : Int) ∧ S1.1 282 (us + 2) = q1 ∧ S1.1 282 (us + 3) = q2 := by
  obtain ⟨⟨n2, n3, n4, n5⟩, n7, n9, n10, n14, n11⟩ := hN
  have e := cs_push (Q := Q) (kd := (kd : Int)) (a := q1) (b := q2) n7 hs hr (by omega)
  obtain ⟨tg, htg⟩ : ∃ tg, tg = ((256 * l + 8 * d : Nat) : Int) + (if (kd : Int) = 2 then 8 else if (kd : Int) = 3 then 256 else 0) + (kd : Int) := ⟨_, rfl⟩
  have et : tg = ((256 * l + 8 * d + (if kd = 2 then 8 else if kd = 3 then 256 else 0) + kd : Nat) : Int) := by
    rw [htg]
    by_cases z2 : kd = 2
    · rw [if_pos (by omega), if_pos z2]
      omega
    · by_cases z3 : kd = 3
      · rw [if_neg (by omega), if_pos (by omega), if_neg z2, if_pos z3]
        omega
      · rw [if_neg (by omega), if_neg (by omega), if_neg z2, if_neg z3]
        omega
  rw [← htg] at e
  have pr := pCell_r (S := S) (u := us) (o := o) (t := tg) (a := q1) (b := q2) (i := 0)
  have o2 : ∀ g, g ≠ 7 → (pCell S us o tg q1 q2).1 281 g = S.1 281 g := fun g z => pr.2.2.2.1 _ _ (by decide) (by omega)
  exact ⟨_, e, AC_c AC_r (Nat.le_refl _), ⟨⟨by rw [o2 _ (by decide)]; exact n2, by rw [o2 _ (by decide)]; exact n3, by rw [o2 _ (by decide)]; exact n4, by rw [o2 _ (by decide)]; exact n5⟩, pr.2.1, by rw [o2 _ (by decide)]; exact n9, by rw [o2 _ (by decide)]; exact n10, by rw [o2 _ (by decide)]; exact n14, by rw [o2 _ (by decide)]; exact n11⟩, pr.1.1, by rw [pr.1.2.1, et], pr.1.2.2.1, pr.1.2.2.2⟩
/-- a round ends: the class -/
theorem l_rnd {l d : Nat} (hA : STA k p N M φ ψ own up lo U) (hB : BAS k p U w len S T) (hb : b < M) (hN : CN S c (x : Int) (u : Int) g us h n (x0 : Int)) (hu : u + 4 ≤ us) (hs : us + 4 ≤ 76072) (hk : U.1 (k + 1) b = 13 ∨ U.1 (k + 1) b = 14) (h2 : S.1 282 (u + 2) = (a : Int)) (h3 : S.1 282 (u + 3) = (y : Int)) (ha : a ≤ 100000) (hr : ARo S us (S.1 282 u) l d) : (U.1 (k + 3) b = -1 ∧ U.1 (k + 2) b ≤ (a : Int) ∧ x = y → jm_141 Q (b : Int) S = some (0, S)) ∧ (¬ (U.1 (k + 3) b = -1 ∧ U.1 (k + 2) b ≤ (a : Int) ∧ x = y) → ∃ X, AC us h S X ∧ CN X c (x : Int) (us : Int) g (us + 4) h n (x0 : Int) ∧ X.1 282 us = S.1 282 u ∧ X.1 282 (us + 1) = ((256 * l + 8 * d : Nat) : Int) ∧ X.1 282 (us + 2) = ((a + 1 : Nat) : Int) ∧ X.1 282 (us + 3) = (x : Int) ∧ ∀ S1, jm_143 Q (b : Int) X = some (1, S1) → jm_141 Q (b : Int) S = some (1, S1)) := by
  have n4 := hN.1.2.2.1
  have n3 := hN.1.2.1
  have n7 := hN.2.1
  have st : jm_141 Q (b : Int) S = ev_bd (jm_145 Q (b : Int) S) fun x23 s22 => ev_if (ev_bl x23) (some (x23, s22)) := by
    unfold jm_141
    rw [rdk (j := 1) hA hB hb (by omega), sp_jn, if_neg (by omega)]
    try dsimp only
    rw [if_pos (by omega)]
    try dsimp only
    rw [sp_b, n4, (cs_is n7 (by omega)).2 (by omega) (by omega), sp_bd, if_pos (by decide)]
    try dsimp only
    rw [sp_jn]
    rcases hk with z | z
    · rw [if_pos z]
    · rw [if_neg (by omega), if_neg (by omega)]
  obtain ⟨Y, y1, y2, y3, y4, y5, y6, y7⟩ := k_push (Q := Q) (kd := 0) (q1 := ((a + 1 : Nat) : Int)) (q2 := (x : Int)) hN hs hr (by omega)
  have tl : ev_b (S.1 281 4) (fun x19 => ev_if ((0 : Int) ≤ x19 ∧ x19 < (ev_aln 282 : Int)) (ev_b (S.1 282 (Int.toNat x19)) fun x20 => ev_ck ((a : Int) + 1) fun x21 => ev_b (S.1 281 3) fun x22 => ev_bd (jm_124 Q x20 0 x21 x22 S) fun x24 s23 => ev_b (ev_pI s23 281 4 x24) fun s25 => ev_bd (jm_143 Q (b : Int) s25) fun x27 s26 => ev_if (ev_bl x27) (some (x27, s26)))) = ev_bd (jm_143 Q (b : Int) (ev_pI Y 281 4 (us : Int))) fun x27 s26 => ev_if (ev_bl x27) (some (x27, s26)) := by
    rw [sp_b, n4, rdc0 (by omega), sp_ck (by omega), sp_b, n3, show (a : Int) + 1 = ((a + 1 : Nat) : Int) from by omega]
    have y1' : jm_124 Q (S.1 282 u) 0 ((a + 1 : Nat) : Int) (x : Int) S = some ((us : Int), Y) := y1
    rw [y1', sp_bd, sp_b]
  have tl2 := tl
  rw [n4, n3] at tl2
  refine ⟨fun z => ?_, fun z => ⟨ev_pI Y 281 4 (us : Int), AC_i y2, CN_4 y3, ?_, ?_, ?_, ?_, fun S1 hS => ?_⟩⟩
  · have e : jm_145 Q (b : Int) S = some (0, S) := by
      unfold jm_145
      rw [sp_b, n4, rdc2 (by omega), rdk (j := 3) hA hB hb (by omega), sp_jn, sp_jn, h2, if_neg (fun y => y z.1)]
      try dsimp only
      rw [rdk (j := 2) hA hB hb (by omega), if_neg (by omega)]
      try dsimp only
      rw [sp_jn, if_neg (by decide)]
      try dsimp only
      rw [sp_b, n3, sp_b, n4, rdc3 (by omega), h3, if_neg (by omega)]
    rw [st, e, sp_bd, sp_if (Or.inl rfl)]
  · rw [rd_nk (by decide)]
    exact y4
  · rw [rd_nk (by decide), y5]
    rfl
  · rw [rd_nk (by decide)]
    exact y6
  · rw [rd_nk (by decide)]
    exact y7
  · have e : jm_145 Q (b : Int) S = some (1, S1) := by
      unfold jm_145
      rw [sp_b, n4, rdc2 (by omega), rdk (j := 3) hA hB hb (by omega), sp_jn, sp_jn, h2]
      by_cases z1 : U.1 (k + 3) b = -1
      · rw [if_neg (fun y => y z1)]
        try dsimp only
        rw [rdk (j := 2) hA hB hb (by omega)]
        by_cases z2 : (a : Int) < U.1 (k + 2) b
        · rw [if_pos z2]
          try dsimp only
          rw [sp_jn, if_pos rfl]
          refine tl.trans ?_
          rw [hS, sp_bd, sp_if (Or.inr rfl)]
        · rw [if_neg z2]
          try dsimp only
          rw [sp_jn, if_neg (by decide)]
          try dsimp only
          rw [sp_b, n3, sp_b, n4, rdc3 (by omega), h3, if_pos (fun w => z ⟨z1, by omega, by omega⟩)]
          refine tl2.trans ?_
          rw [hS, sp_bd, sp_if (Or.inr rfl)]
      · rw [if_pos z1]
        try dsimp only
        rw [sp_jn, if_pos rfl]
        refine tl.trans ?_
        rw [hS, sp_bd, sp_if (Or.inr rfl)]
    rw [st, e, sp_bd, sp_if (Or.inr rfl)]
/-- a step that is none any more -/
theorem e_far (hA : STA k p N M φ ψ own up lo U) (hB : BAS k p U w len S T) (hb : b < M) (hN : CN S c (x : Int) f g us h n (x0 : Int)) (hn : 1000 ≤ n) (hk : U.1 (k + 1) b ≠ 17 ∧ U.1 (k + 1) b ≠ 18) : ∃ S1, jm_136 Q (b : Int) S = some (0, S1) ∧ S1.1 281 10 ≠ 0 := by
  refine ⟨ev_pI S 281 10 1, ?_, by rw [rd_eq]; decide⟩
  unfold jm_136
  rw [rdk (j := 1) hA hB hb (by omega), if_pos hk.1]
  try dsimp only
  rw [if_pos hk.2]
  try dsimp only
  rw [(cs_step hN.2.2.2.2.1).2 hn, sp_bd, if_neg (by decide)]
/-- a repeat is begun: the class -/
theorem e_rep {l d : Nat} (hA : STA k p N M φ ψ own up lo U) (hB : BAS k p U w len S T) (hb : b < M) (hN : CN S c (x : Int) f g us h n (x0 : Int)) (hs : us + 4 ≤ 76072) (hn : n < 1000) (hk : U.1 (k + 1) b = 13 ∨ U.1 (k + 1) b = 14) (hr : ARo S us f l d) : ∃ X, AC us h S X ∧ CN X c (x : Int) (us : Int) g (us + 4) h (n + 1) (x0 : Int) ∧ X.1 282 us = f ∧ X.1 282 (us + 1) = ((256 * l + 8 * d : Nat) : Int) ∧ X.1 282 (us + 2) = 0 ∧ X.1 282 (us + 3) = (x : Int) ∧ ∀ S1, jm_143 Q (b : Int) X = some (1, S1) → jm_136 Q (b : Int) S = some (1, S1) := by
  obtain ⟨Z, hZ⟩ : ∃ Z, Z = ev_pI S 281 14 ((n + 1 : Nat) : Int) := ⟨_, rfl⟩
  have nZ : CN Z c (x : Int) f g us h (n + 1) (x0 : Int) := by
    rw [hZ]
    exact CN_14 hN
  have aZ : AC us h S Z := by
    rw [hZ]
    exact AC_i AC_r
  have rZ : ARo Z us f l d := by
    rcases hr with y | ⟨f2, k2, y1, y2, y3, y4⟩
    · exact Or.inl y
    · exact Or.inr ⟨f2, k2, y1, y2, by rw [aZ.1 _ (by omega)]; exact y3, y4⟩
  obtain ⟨Y, y1, y2, y3, y4, y5, y6, y7⟩ := k_push (Q := Q) (kd := 0) (q1 := 0) (q2 := (x : Int)) nZ hs rZ (by omega)
  refine ⟨ev_pI Y 281 4 (us : Int), AC_i (AC_tr aZ y2 (Nat.le_refl _) (Nat.le_refl _)), CN_4 y3, ?_, ?_, ?_, ?_, fun S1 hS => ?_⟩
  · rw [rd_nk (by decide)]
    exact y4
  · rw [rd_nk (by decide), y5]
    rfl
  · rw [rd_nk (by decide)]
    exact y6
  · rw [rd_nk (by decide)]
    exact y7
  · have y1' : jm_124 Q f 0 0 (x : Int) Z = some ((us : Int), Y) := y1
    unfold jm_136
    rw [rdk (j := 1) hA hB hb (by omega), if_pos (by omega)]
    try dsimp only
    rw [if_pos (by omega)]
    try dsimp only
    rw [(cs_step hN.2.2.2.2.1).1 hn, sp_bd, if_pos (by decide)]
    try dsimp only
    rw [← hZ]
    have e61 : jm_61 Q (U.1 (k + 1) b) Z = some (0, Z) := by
      unfold jm_61
      rw [if_neg (by omega), if_pos (by omega)]
    rw [e61, sp_bd, if_pos rfl]
    try dsimp only
    rw [if_neg (by omega)]
    try dsimp only
    rw [if_neg (by omega)]
    try dsimp only
    rw [if_neg (by omega)]
    try dsimp only
    rw [if_neg (by omega)]
    try dsimp only
    rw [if_neg (by omega)]
    try dsimp only
    rw [if_neg (by omega)]
    try dsimp only
    rw [if_neg (by omega)]
    try dsimp only
    rw [if_pos hk]
    try dsimp only
    rw [sp_b, nZ.1.2.2.1, sp_b, nZ.1.2.1, y1', sp_bd, sp_b, hS, sp_bd, sp_if (Or.inr rfl)]
/-- a round is begun, side by side -/
theorem rnd_go (hX : FIX Q k p N M φ ψ own up lo U w len C V) (ih : ALL Q k p N φ ψ own up lo U w len x0 C V j) (hB : BAS k p U w len S T) (hN : CN S (4 * (bt k p ψ U m : Int) + 2) (x : Int) (u : Int) g us h n (x0 : Int)) (hT : TN T td ((320 * p + m : Nat) : Int) (x : Int) had th ((dOf ks + 64 * lOf ks : Nat) : Int) vs h ls n 0) (hb : x ≤ len ∧ n ≤ 1000 ∧ (ls = 0 ∨ 4 * ls + 4 ≤ us) ∧ dOf ks ≤ 20 ∧ lOf ks ≤ 40 ∧ h + rkOf ks ≤ n ∧ okp x0 ks x) (hW : WFL k p N φ ψ up U len n ks) (hC : CH k p φ ψ U S T us vs ls h ks (S.1 282 u) th) (hu : u + 4 ≤ us) (tg : S.1 282 (u + 1) = ((256 * lOf ks + 8 * dOf ks : Nat) : Int)) (h2 : S.1 282 (u + 2) = (r : Int)) (h3 : S.1 282 (u + 3) = (x : Int)) (hG : ∃ ng, ng ≤ ls ∧ GL S T us ls ng g had) (hP : CPS k p N φ ψ own up lo U len x0 C V S T n h us vs ls) (hm : m < N) (hr : U.1 630 (320 * p + m) ≠ -1) (hc : cOf k p φ ψ U ks = U.1 (k + 7) (bt k p ψ U m)) (hrn : r ≤ n) (p1 : us + 4 * (pcL p N φ lo U (pL lo N (bt k p ψ U m)) + zsOf k p N φ ψ own lo U ks) ≤ 76 * n + 72) (p2 : 2 * (vs : Int) + V 9 m r ks x ≤ 299 * (n : Int) + C) (hmu : 15163 * (2 * (1000 - n) + cW T h) ≤ j + 15163) : ∃ T1, jm_300 Q ((320 * p + m : Nat) : Int) (r : Int) T = some ((), T1) ∧ GZ Q x0 (j + 1) (1100 * j + 40) 1 S T1 := by
  obtain ⟨hA, hV, hw, hC7, hQ⟩ := hX
  obtain ⟨b1, b2, b3, b4, b5, b6, b7⟩ := hb
  have v0 := hV.1 9 m r ks x
  obtain ⟨T1, r1, r2, r3, r4⟩ := t_rnd (Q := Q) (a := ((320 * p + m : Nat) : Int)) (r := r) hT (by omega) b2 (by omega) (by omega)
  refine ⟨T1, r1, ?_⟩
  rcases sa_rep hA hm with y | ⟨y1, y2, y3, y4, y5, y6, y7, y8⟩
  · exact absurd y.1 hr
  have nd := sa_node hA hm
  have m0 : m ≠ 0 := fun z => by
    have := (sa_num hA).2.2.2.2.2.1
    rw [z, Nat.add_zero] at hr
    omega
  have h18 : U.1 625 (320 * p + m) ≠ 18 := fun z => by
    have := (sa_row hA hm z).2.2.1
    omega
  by_cases hn : n < 1000
  · obtain ⟨S1, s1, s2, s3⟩ := (g_beg (Q := Q) hA hB y2 nd.1.1 y7 hN).1 hn
    have fl : flg n = 0 := if_pos hn
    rw [fl] at r3
    obtain ⟨κ, hκ⟩ : ∃ κ : KT, κ = (3, m, r, x) := ⟨_, rfl⟩
    have k1 : κ.1 = 3 := by rw [hκ]
    have k2 : κ.2.1 = m := by rw [hκ]
    have k3 : κ.2.2.1 = r := by rw [hκ]
    have k4 : κ.2.2.2 = x := by rw [hκ]
    have ed : dOf (κ :: ks) = dOf ks := by rw [ks_d, if_neg (by omega)]; rfl
    have el : lOf (κ :: ks) = lOf ks := by rw [ks_l, if_neg (by omega)]; rfl
    have er : rkOf (κ :: ks) = rkOf ks + 1 := by rw [ks_r, if_pos k1]
    have ez : zsOf k p N φ ψ own lo U (κ :: ks) = zsOf k p N φ ψ own lo U ks + (1 + pcL p N φ lo U (pL lo N (bt k p ψ U m))) := by rw [ks_z, if_pos k1, k2]
    have eo : okp x0 (κ :: ks) x := by
      rw [ks_o, if_neg (by omega)]
      exact ⟨fun w => by omega, b7⟩
    have ec : cOf k p φ ψ U (κ :: ks) = 4 * (bt k p ψ U m : Int) + 1 := by rw [ks_c, if_neg (by omega), if_pos k1, k2]
    have wf : WFL k p N φ ψ up U len (n + 1) (κ :: ks) := ⟨⟨by rw [k2]; exact hm, Or.inr (Or.inr (Or.inl ⟨k1, by rw [k2]; exact hr, by rw [k2]; exact hc, by omega, by omega⟩))⟩, WFL_n (Nat.le_succ n) ks hW⟩
    have cl : ∀ i, i < 4 → S1.1 282 (u + i) = S.1 282 (u + i) := fun i z => s2.1 _ (by omega)
    have tk : tagK κ = 0 := if_pos k1
    have hk : hK h κ = h := if_neg (by omega)
    have ch : CH k p φ ψ U S1 T1 us (vs + 1) ls h (κ :: ks) (u : Int) (vs : Int) := by
      refine Or.inr ⟨vs, rfl, Nat.lt_succ_self _, r4.2.2.2.2.2, Or.inr ⟨u, rfl, hu, ?_, Or.inr (Or.inl ⟨k1, r4.1, by rw [k2]; exact r4.2.1, by rw [k3, k4]; exact r4.2.2.1, by rw [cl 2 (by omega), k3]; exact h2, by rw [cl 3 (by omega), k4]; exact h3⟩), ?_⟩⟩
      · rw [cl 1 (by omega), tg, ed, el, tk]
        rfl
      · rw [show S1.1 282 u = S.1 282 u from cl 0 (by omega), r4.2.2.2.2.1, hk]
        exact CH_m (Nat.le_refl us) (Nat.le_succ vs) (Nat.le_refl ls) ks h h _ _ s2 r2 (Nat.le_refl h) hC
    rw [← ed, ← el] at r3
    obtain ⟨ng, g1, g2⟩ := hG
    have hcn : COR k p N φ ψ own up lo U w len x0 C V S1 T1 (κ :: ks) x (n + 1) us h (vs + 1) ls := cor_mk (BAS_m hB s2 r2) s3 r3 ⟨b1, by omega, b3, by omega, by omega, by omega, eo⟩ wf ch ⟨ng, g1, GL_m s2 r2 (Nat.le_refl _) (Nat.le_refl _) g2⟩ (CPS_m (Nat.le_succ n) h us vs ls us (vs + 1) ls s2 r2 (Nat.le_refl _) (Nat.le_succ _) (Nat.le_refl _) hP)
    have p18 := pcL_18 (a := pE lo m) hA
    have vv := ((hV.2.2.2.1 m r ks x hm hr).2.2).1
    rw [← hκ] at vv
    have go := ih.2.2.1 m S1 T1 (κ :: ks) x (n + 1) us h (vs + 1) ls ⟨⟨hcn, s3.1.1, r3.1.1, by rw [ez]; omega, by omega⟩, r3.1.2.1, hm, m0, h18, by rw [ec, y8]⟩ (by
      have e := cW_c r2 h (Nat.le_refl h)
      rw [e]
      unfold mu
      have : 722 * (dOf (κ :: ks) + 1) - posC own lo N (4 * (φ m : Int)) ≤ 15162 := by omega
      omega)
    refine GZ_c go fun q i i1 i2 => ?_
    rw [ct_R hA hB ⟨i1, i2⟩ y2 hN.1.1 s1, if_pos s3.2.2.2.1]
  · obtain ⟨S1, s1, s2⟩ := (g_beg (Q := Q) hA hB y2 nd.1.1 y7 hN).2 (by omega)
    have fl : flg n = 1 := if_neg hn
    rw [fl] at r3
    refine GZ_far s2 (by rw [r3.2.2.2.2.2]; decide) fun q i i1 i2 => ?_
    rw [ct_R hA hB ⟨i1, i2⟩ y2 hN.1.1 s1, if_neg s2]
end OPZM
