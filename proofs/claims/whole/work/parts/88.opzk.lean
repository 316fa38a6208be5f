/-! SEARCH: going on, case by case: looks and atomic parts -/
section OPZK
variable {Q k p N M m n n2 h h2 us us2 vs vs2 ls ls2 w len x0 x y u v g a b j : Nat} {C : Int} {φ ψ own up lo : Nat → Nat} {S S1 S2 T T1 T2 U : ev_St} {V : Nat → Nat → Nat → List KT → Nat → Int} {ks : List KT} {κ : KT}
theorem cob_of {c f gg td nd had th xx yy dp : Int} (hB : BAS k p U w len S T) (hN : CN S c xx f gg us2 h n (x0 : Int)) (hT : TN T td nd yy had th dp vs2 h ls2 n 0) (hb : n ≤ 1000 ∧ h ≤ n ∧ us ≤ us2 ∧ us2 ≤ 76072) (hP : CPS k p N φ ψ own up lo U len x0 C V S T n h us vs ls) : COB k p N φ ψ own up lo U w len x0 C V S T n us h vs ls := by
  obtain ⟨_, c7, c9, c10, c14, c11⟩ := hN
  obtain ⟨_, d7, d8, d9, d10, d11⟩ := hT
  exact ⟨hB, ⟨c9, c10, c14, c11⟩, ⟨d10, d11, d8⟩, ⟨hb.1, hb.2.1, us2, c7, hb.2.2⟩, hP⟩
/-- what is left is a look or atomic part: its class's node, what stands behind it -/
theorem lk_b (hA : STA k p N M φ ψ own up lo U) (hw : WFK k p N φ ψ up U len n κ ks) (e : κ.1 = 5 ∨ κ.1 = 6 ∨ κ.1 = 7 ∨ κ.1 = 9) : ∃ b kd, b < M ∧ b ≠ φ 0 ∧ cOf k p φ ψ U (κ :: ks) = 4 * (b : Int) + 1 ∧ cOf k p φ ψ U ks = U.1 (k + 7) b ∧ U.1 (k + 1) b = kd ∧ κ.2.1 < N ∧ κ.2.2.1 ≤ len ∧ pL lo N b < posC own lo N (cOf k p φ ψ U ks) ∧ posC own lo N (cOf k p φ ψ U ks) < 720 ∧ ((κ.1 = 5 ∨ κ.1 = 9) ∧ kd = 19 ∨ κ.1 = 6 ∧ kd = (if U.1 629 (320 * p + κ.2.1) = 0 then 20 else 21) ∨ κ.1 = 7 ∧ kd = if U.1 629 (320 * p + κ.2.1) = 0 then 22 else 23) := by
  have hn := sa_num hA
  have oz := (sa_node hA hn.1.1).1.2.2.1
  have nat : ∀ K : Int, κ.2.1 < N → U.1 625 (320 * p + κ.2.1) = K → K ≠ 9 → K ≠ 18 → κ.2.1 ≠ 0 := fun K w1 w2 w3 w4 z => by
    rw [z, Nat.add_zero] at w2
    omega
  have ne : κ.2.1 ≠ 0 → κ.2.1 < N → φ κ.2.1 ≠ φ 0 ∧ ψ κ.2.1 ≠ φ 0 := fun z1 z2 => by
    have nd := (sa_node hA z2).1
    refine ⟨fun z => ?_, fun z => ?_⟩
    · have o1 := nd.2.2.1
      rw [z, oz] at o1
      exact z1 o1.symm
    · have o1 := nd.2.2.2.1
      rw [z, oz] at o1
      exact z1 o1.symm
  rcases e with e | e | e | e
  · obtain ⟨w1, w2, w3, w4⟩ := wk_5 hw e
    have m0 := nat 10 w1 w2 (by omega) (by omega)
    have nd := sa_node hA w1
    obtain ⟨q1, q2, q3, q4⟩ := pos_af hA w1 m0 (by omega)
    exact ⟨φ κ.2.1, 19, nd.1.1, (ne m0 w1).1, by rw [ks_c, if_neg (by omega), if_neg (by omega), if_neg (by omega)], w3, by rw [nd.2.2.1 m0]; exact kcl_v.2.2.2.2.1 w2, w1, w4, by rw [w3]; exact q2, by rw [w3]; exact q3, Or.inl ⟨Or.inl e, rfl⟩⟩
  · obtain ⟨w1, w2, w3, w4⟩ := wk_6 hw e
    have m0 := nat 11 w1 w2 (by omega) (by omega)
    have nd := sa_node hA w1
    obtain ⟨q1, q2, q3, q4⟩ := pos_af hA w1 m0 (by omega)
    exact ⟨φ κ.2.1, _, nd.1.1, (ne m0 w1).1, by rw [ks_c, if_neg (by omega), if_neg (by omega), if_neg (by omega)], w3, by rw [nd.2.2.1 m0]; exact kcl_v.2.2.2.2.2.1 w2, w1, w4, by rw [w3]; exact q2, by rw [w3]; exact q3, Or.inr (Or.inl ⟨e, rfl⟩)⟩
  · obtain ⟨w1, w2, w3, w4⟩ := wk_7 hw e
    have m0 := nat 12 w1 w2 (by omega) (by omega)
    have nd := sa_node hA w1
    obtain ⟨q1, q2, q3, q4⟩ := pos_af hA w1 m0 (by omega)
    exact ⟨φ κ.2.1, _, nd.1.1, (ne m0 w1).1, by rw [ks_c, if_neg (by omega), if_neg (by omega), if_neg (by omega)], w3, by rw [nd.2.2.1 m0]; exact kcl_v.2.2.2.2.2.2.1 w2, w1, w4, by rw [w3]; exact q2, by rw [w3]; exact q3, Or.inr (Or.inr ⟨e, rfl⟩)⟩
  · obtain ⟨w1, w2, w3, w4⟩ := wk_9 hw e
    have nd := sa_node hA w1
    rcases sa_rep hA w1 with y | ⟨y, _⟩
    · omega
    have y2 := y.resolve_left (by omega)
    have m0 : κ.2.1 ≠ 0 := fun z => by
      have := hn.2.2.2.2.2.1
      rw [z, Nat.add_zero] at w2
      omega
    have h18 : U.1 625 (320 * p + κ.2.1) ≠ 18 := fun z => by
      have := (sa_row hA w1 z).2.2.1
      omega
    obtain ⟨q1, q2, q3, q4⟩ := pos_nx hA w1 m0 h18
    have af := (sa_after hA w1 m0 h18).1
    rw [← af, ← w3] at q2 q3
    exact ⟨ψ κ.2.1, 19, nd.1.2.1, (ne m0 w1).2, by rw [ks_c, if_neg (by omega), if_neg (by omega), if_pos e], w3, y2.2.2.2.1, w1, w4, q2 _ (Nat.le_refl _), q3, Or.inl ⟨Or.inr e, rfl⟩⟩
theorem pro_lk (hX : FIX Q k p N M φ ψ own up lo U w len C V) (ih : ALL Q k p N φ ψ own up lo U w len x0 C V j) (hP : PRs k p N φ ψ own up lo U w len x0 C V S T (κ :: ks) x n us h vs ls) (e : κ.1 = 5 ∨ κ.1 = 6 ∨ κ.1 = 7 ∨ κ.1 = 9) (hm : mu own lo N n (cW T h) (dOf (κ :: ks)) (cOf k p φ ψ U (κ :: ks)) ≤ j + 1) : GZ Q x0 (j + 1) (1100 * (j + 1)) 1 S T := by
  obtain ⟨hA, hV, hw, hC7, hQ⟩ := hX
  have bd := bnS hV hC7 (hV.1 _ _ _ _ _) hP
  obtain ⟨hc, c2, t78, p1, p2⟩ := hP
  have hc0 := hc
  obtain ⟨hB, ⟨s3, s7, s9, s10, s14, s11⟩, ⟨t75, t76, t81, t84, t88, t95, t105⟩, ⟨b1, b2, b3, b4, b5, b6, b7⟩, hW, hC, ⟨ng, g1, g2⟩, hcp⟩ := hc
  obtain ⟨b, kd, w1, w2, cc, w3, wk, wN, wl, q2, q3, wd⟩ := lk_b hA hW.1 e
  have ed : dOf (κ :: ks) = dOf ks := by rw [ks_d, if_neg (by omega)]; rfl
  have el : lOf (κ :: ks) = lOf ks + 1 := by rw [ks_l, if_pos e]
  have er : rkOf (κ :: ks) = rkOf ks := by rw [ks_r, if_neg (by omega)]; rfl
  have ez : zsOf k p N φ ψ own lo U (κ :: ks) = zsOf k p N φ ψ own lo U ks := by rw [ks_z, if_neg (by omega), if_neg (by omega)]; rfl
  obtain ⟨v, u, f1, f2, f3, f4, f5, f6, f7, f8⟩ := ch_f hC (by omega)
  rw [show hK h κ = κ.2.2.2 from if_pos e] at f8
  obtain ⟨z2, z3, z4, z5, z6, z7, z8, z9⟩ : T.1 681 v = (if κ.1 = 9 then 5 else (κ.1 : Int)) ∧ T.1 682 v = ((320 * p + κ.2.1 : Nat) : Int) ∧ T.1 683 v = (κ.2.2.2 : Int) ∧ S.1 282 (u + 2) = (κ.2.2.1 : Int) ∧ S.1 282 (u + 3) = (κ.2.2.2 : Int) ∧ κ.2.2.2 < h ∧ T.1 690 κ.2.2.2 = (κ.2.2.1 : Int) ∧ 3 ≤ T.1 687 κ.2.2.2 ∧ T.1 687 κ.2.2.2 ≤ 5 := by
    rcases f7 with z | z | z | z
    · exact absurd z.1 (by omega)
    · exact absurd z.1 (by omega)
    · exact absurd z.1 (by omega)
    · exact z.2
  rw [cc] at c2
  rw [cc, posC_L, ez] at p1
  rw [ed] at b4
  rw [er] at b6
  have pm : pcL p N φ lo U (posC own lo N (cOf k p φ ψ U ks)) ≤ pcL p N φ lo U (pL lo N b) := pcL_mono (by omega)
  have cn := cor_cn hc0 c2
  rw [f4] at cn
  have tn := cor_tn hc0 t78
  rw [f1] at tn
  have hi : mu own lo N n (cW T h) (dOf (κ :: ks)) (cOf k p φ ψ U (κ :: ks)) ≤ j + 1 := hm
  have p7 : posC own lo N (cOf k p φ ψ U (κ :: ks)) < 720 := by
    rw [cc, posC_L]
    exact pL_b hA w1
  have lt1 : 15163 * (2 * (1000 - n) + cW T h) + 2 < mu own lo N n (cW T h) (dOf (κ :: ks)) (cOf k p φ ψ U (κ :: ks)) := mu_off p7 (Nat.le_refl _)
  have str := cW_str z7 z9.1
  have lt2 : 15163 * (2 * (1000 - n) + cW T κ.2.2.2) + 2 < mu own lo N n (cW T h) (dOf (κ :: ks)) (cOf k p φ ψ U (κ :: ks)) := mu_off p7 (by omega)
  have lt3 : mu own lo N n (cW T κ.2.2.2) (dOf ks) (cOf k p φ ψ U ks) < mu own lo N n (cW T h) (dOf (κ :: ks)) (cOf k p φ ψ U (κ :: ks)) := mu_hs (by omega) p7 (by omega)
  have off : ∀ {S1 T1 : ev_St} {c f gg td nd had th xx yy dp : Int} {hh : Nat}, hh ≤ h → jm_141 Q (b : Int) S = some (0, S1) → AC us h S S1 → CN S1 c xx f gg us hh n (x0 : Int) → jm_304 Q T = some ((), T1) → AR vs h ls T T1 → TN T1 5 nd yy had th dp vs hh ls n 0 → 15163 * (2 * (1000 - n) + cW T hh) + 2 < mu own lo N n (cW T h) (dOf (κ :: ks)) (cOf k p φ ψ U (κ :: ks)) → GZ Q x0 (j + 1) (1100 * (j + 1)) 1 S T := fun {S1 T1 c f gg td nd had th xx yy dp hh} a1 a2 a3 a4 a5 a6 a7 a8 => by
    obtain ⟨k1, k2, k3, k4, k5⟩ := COR_k hc0 a3 a6 (Nat.le_refl n) (Nat.le_refl us) (Nat.le_refl vs) (Nat.le_refl ls)
    have go := ih.2.2.2.2.2 S1 T1 n us hh vs ls (cob_of k1 a4 a7 ⟨b2, by omega, Nat.le_refl us, bd.2.1⟩ (CPS_low a1 k5)) a7.1.1 (by rw [cW_c a6 hh a1]; omega)
    refine GZ_le (GZ_c (GZ_r go fun q => rt_4 t76 t78 a5) fun q i i1 i2 => ?_) (Nat.le_refl _) (by omega)
    rw [ct_L hA hB ⟨i1, i2⟩ w1 c2 (Or.inl w2) a2, if_pos a4.2.2.2.1]
  have on : ∀ {S1 T1 : ev_St} {nd had th : Int} {xx : Nat}, xx ≤ len → okp x0 ks xx → 2 * (vs : Int) + V 0 0 0 ks xx ≤ 299 * (n : Int) + C → jm_141 Q (b : Int) S = some (1, S1) → AC us h S S1 → CN S1 (U.1 (k + 7) b) (xx : Int) (S.1 282 u) (S.1 281 5) us κ.2.2.2 n (x0 : Int) → jm_304 Q T = some ((), T1) → AR vs h ls T T1 → TN T1 4 nd (xx : Int) (T.1 621 82) (T.1 685 v) (T.1 686 v) vs κ.2.2.2 ls n 0 → GZ Q x0 (j + 1) (1100 * (j + 1)) 1 S T := fun {S1 T1 nd had th xx} a0 a1 a1b a2 a3 a4 a5 a6 a7 => by
    obtain ⟨k1, k2, k3, k4, k5⟩ := COR_k hc0 a3 a6 (Nat.le_refl n) (Nat.le_refl us) (Nat.le_refl vs) (Nat.le_refl ls)
    rw [f3] at a7
    have hcn : COR k p N φ ψ own up lo U w len x0 C V S1 T1 ks xx n us κ.2.2.2 vs ls := cor_mk k1 a4 a7 ⟨a0, b2, b3, by omega, by omega, by omega, a1⟩ k2.2 (CH_m (Nat.le_refl us) (Nat.le_refl vs) (Nat.le_refl ls) ks κ.2.2.2 κ.2.2.2 _ _ (AC_le a3 (Nat.le_refl _) (by omega)) (AR_le a6 (Nat.le_refl _) (by omega) (Nat.le_refl _)) (Nat.le_refl _) f8) ⟨ng, g1, k4 _ _ _ g2⟩ (CPS_low (Nat.le_of_lt z7) k5)
    have go := ih.1 S1 T1 ks xx n us κ.2.2.2 vs ls ⟨hcn, by rw [w3]; exact a4.1.1, a7.1.1, by omega, a1b⟩ (by rw [cW_c a6 κ.2.2.2 (Nat.le_of_lt z7)]; omega)
    refine GZ_le (GZ_c (GZ_r go fun q => rt_4 t76 t78 a5) fun q i i1 i2 => ?_) (Nat.le_refl _) (by omega)
    rw [ct_L hA hB ⟨i1, i2⟩ w1 c2 (Or.inl w2) a2, if_pos a4.2.2.2.1]
  have hl := l_look (Q := Q) hA hB w1 cn f5 (by omega) wk (by
    rcases wd with z | z | z
    · omega
    · rw [z.2]
      split <;> omega
    · rw [z.2]
      split <;> omega) z5 z6
  rw [ks_o] at b7
  rcases wd with ⟨wd1, wd2⟩ | ⟨wd1, wd2⟩ | ⟨wd1, wd2⟩
  · -- atomic
    have k5 : T.1 681 v = 5 := by
      rw [z2]
      rcases wd1 with z | z
      · rw [if_neg (by omega), z]
        rfl
      · rw [if_pos z]
    rcases hl with y | y | ⟨_, _, S1, y1, y2, y3⟩
    · omega
    · have := y.2.1
      omega
    · rw [if_pos wd2] at y3
      obtain ⟨T1, r1, r2, r3⟩ := t4_5 (Q := Q) tn (by omega) k5 z4
      rw [if_neg (by omega)] at b7
      have b7 := b7.2
      have vm := (hV.2.2.2.2.2.2.2 κ ks x).1 (by omega)
      exact on (had := 0) (th := 0) b1 b7 (by omega) y1 y2 y3 r1 r2 r3
  · -- ahead
    have k6 : T.1 681 v = 6 := by
      rw [z2, if_neg (by omega), wd1]
      rfl
    rw [if_pos (by omega)] at b7
    have vm := (hV.2.2.2.2.2.2.2 κ ks x).2 (by omega)
    rcases t4_6 (Q := Q) hA hB wN tn (by omega) (Or.inl k6) z3 z4 (by omega) z8 with y | ⟨_, T1, r1, r2, r3⟩
    · omega
    · have md := (sa_node hA wN).2.2.2.1 (by
        have := (wk_6 hW.1 wd1).2.1
        omega)
      by_cases z : U.1 629 (320 * p + κ.2.1) = 0
      · rw [if_pos z] at wd2
        rw [if_pos (by omega)] at r3
        rcases hl with y | y | ⟨_, _, S1, y1, y2, y3⟩
        · omega
        · have := y.2.1
          omega
        · rw [if_neg (by omega)] at y3
          exact on (had := 0) (th := 0) wl b7 (by omega) y1 y2 y3 r1 r2 r3
      · rw [if_neg z] at wd2
        rw [if_neg (by omega)] at r3
        rcases hl with y | ⟨_, _, S1, y1, y2, y3⟩ | y
        · omega
        · exact off (td := 0) (Nat.le_of_lt z7) y1 y2 y3 r1 r2 r3 lt2
        · have := y.2.1
          omega
  · -- behind
    have k7 : T.1 681 v = 7 := by
      rw [z2, if_neg (by omega), wd1]
      rfl
    rw [if_pos (by omega)] at b7
    have vm := (hV.2.2.2.2.2.2.2 κ ks x).2 (by omega)
    have md := (sa_node hA wN).2.2.2.1 (by
      have := (wk_7 hW.1 wd1).2.1
      omega)
    have kk : 22 ≤ kd := by
      rw [wd2]
      split <;> omega
    rcases t4_6 (Q := Q) hA hB wN tn (by omega) (Or.inr k7) z3 z4 (by omega) z8 with ⟨_, yx, T1, r1, r2, r3⟩ | ⟨yx, T1, r1, r2, r3⟩
    · rcases hl with ⟨_, _, y1⟩ | y | y
      · exact off (td := 0) (Nat.le_refl h) y1 AC_r cn r1 r2 r3 lt1
      · exact absurd (y.1 kk) yx
      · exact absurd (y.1 kk) yx
    · by_cases z : U.1 629 (320 * p + κ.2.1) = 0
      · rw [if_pos z] at wd2
        rw [if_pos (by omega)] at r3
        rcases hl with y | y | ⟨_, _, S1, y1, y2, y3⟩
        · exact absurd (yx k7) y.2.1
        · have := y.2.1
          omega
        · rw [if_neg (by omega)] at y3
          exact on (had := 0) (th := 0) wl b7 (by omega) y1 y2 y3 r1 r2 r3
      · rw [if_neg z] at wd2
        rw [if_neg (by omega)] at r3
        rcases hl with y | ⟨_, _, S1, y1, y2, y3⟩ | y
        · exact absurd (yx k7) y.2.1
        · exact off (td := 0) (Nat.le_of_lt z7) y1 y2 y3 r1 r2 r3 lt2
        · have := y.2.1
          omega
end OPZK
