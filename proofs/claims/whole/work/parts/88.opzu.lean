/-! SEARCH: atoms, side by side: groups, parts, what takes a step and goes on -/
section OPZU
variable {Q k p N M m n n2 h h2 us us2 vs vs2 ls ls2 w len x0 x y u v a b r j : Nat} {C : Int} {φ ψ own up lo : Nat → Nat} {S S1 S2 T T1 T2 U : ev_St} {V : Nat → Nat → Nat → List KT → Nat → Int} {ks : List KT} {κ : KT} {c g f td nd had th dp kd cd fr vv : Int}
theorem pos_bg (hA : STA k p N M φ ψ own up lo U) : (∀ r, r < N → U.1 625 (320 * p + r) = 18 → pE lo r < posC own lo N (U.1 (k + 6) (φ r)) ∧ posC own lo N (U.1 (k + 6) (φ r)) < 720) ∧ ∀ m, m < N → 8 ≤ U.1 625 (320 * p + m) ∧ U.1 625 (320 * p + m) ≤ 13 → pE lo m < posC own lo N (U.1 (k + 6) (φ m)) ∧ posC own lo N (U.1 (k + 6) (φ m)) < 720 := by
  have rw1 : ∀ r, r < N → U.1 625 (320 * p + r) = 18 → pE lo r < posC own lo N (U.1 (k + 6) (φ r)) ∧ posC own lo N (U.1 (k + 6) (φ r)) < 720 := fun r hr h18 => by
    obtain ⟨q1, q2, q3, q4, q5, q6⟩ := sa_row hA hr h18
    have l := sa_lo hA hr
    have nr := sa_node hA hr
    rw [q5]
    rcases sa_child hA hr with ⟨y, y2, _⟩ | ⟨y1, y2, y3, y4, y5⟩
    · have l3 := l.2.2 q1
      rw [if_pos y, posC_L]
      exact ⟨pEL hA hr (by omega), pL_b hA (sa_node hA nr.1.2.2.2.2).1.1⟩
    · rw [y1, if_neg (by omega), Int.toNat_natCast, posC_E, (sa_node hA y2).1.2.2.2.1]
      exact ⟨pEE hA (by omega) y2, pE_b hA y2⟩
  refine ⟨rw1, fun m hm h8 => ?_⟩
  obtain ⟨p1, p2, p3, p4, p5, p6, p7⟩ := sa_part hA hm h8
  rw [p7]
  by_cases z : U.1 627 (320 * p + (m + 1)) = -1
  · rw [if_pos z]
    have q := rw1 (m + 1) p2 p4
    exact ⟨Nat.lt_trans (pEE hA (by omega) p2) q.1, q.2⟩
  · rw [if_neg z, posC_E, (sa_node hA p2).1.2.2.1]
    exact ⟨pEE hA (by omega) p2, pE_b hA p2⟩
theorem atm_8 (hX : FIX Q k p N M φ ψ own up lo U w len C V) (ih : ALL Q k p N φ ψ own up lo U w len x0 C V j) (hP : ATs k p N φ ψ own up lo U w len x0 C V m S T ks x n us h vs ls) (hk : U.1 625 (320 * p + m) = 8) (hm : mu own lo N n (cW T h) (dOf ks) (4 * (φ m : Int)) ≤ j + 1) : GZ Q x0 (j + 1) (1100 * (j + 1)) 1 S T := by
  obtain ⟨hA, hV, hw, hC7, hQ⟩ := hX
  have bd := bnS hV hC7 (hV.1 _ _ _ _ _) hP.1
  obtain ⟨⟨hc, c2, t78, p1, p2⟩, t80, mN, m0, h18, hcO⟩ := hP
  have hc0 := hc
  obtain ⟨hB, ⟨s3, s7, s9, s10, s14, s11⟩, ⟨t75, t76, t81, t84, t88, t95, t105⟩, ⟨b1, b2, b3, b4, b5, b6, b7⟩, hW, hC, ⟨ng, g1, g2⟩, hcp⟩ := hc
  have nd := sa_node hA mN
  have kd : U.1 (k + 1) (φ m) = 18 := by
    rw [nd.2.2.1 m0]
    exact kcl_v.2.2.1 hk
  have aro := CH_aro b4 b5 hC
  have pc1 := pcL_E (a := pE lo m) (a2 := pE lo m + 1) mN hk (Nat.le_refl _) (Nat.lt_succ_self _) (φ := φ)
  have hv := (hV.2.2.2.2.1 m ks x mN m0 h18).2.2.2.1 hk
  have v0 := hV.1 3 m 0 ((2, m, x, 0) :: ks) x
  obtain ⟨S1, s1, s2, s3, s4, s5, s6⟩ := e_group (Q := Q) hA hB nd.1.1 (cor_cn hc0 c2) kd (by omega) aro
  have tn := cor_tn hc0 t78
  rw [t80] at tn
  obtain ⟨T1, r1, r2, r3, r4⟩ := ta_grp (Q := Q) hA hB mN tn (by omega) hk
  obtain ⟨k1, k2, k3, k4, k5⟩ := COR_k hc0 s2 r2 (Nat.le_refl n) (show us ≤ us + 4 by omega) (Nat.le_succ vs) (Nat.le_refl ls)
  have ch : CH k p φ ψ U S1 T1 (us + 4) (vs + 1) ls h ((2, m, x, 0) :: ks) (us : Int) (vs : Int) := by
    refine Or.inr ⟨vs, rfl, Nat.lt_succ_self _, r4.2.2.2.2.2, Or.inr ⟨us, rfl, Nat.le_refl _, s5, Or.inl ⟨rfl, r4.1, r4.2.1, r4.2.2.1, s6⟩, ?_⟩⟩
    rw [s4, r4.2.2.2.2.1]
    exact k3 h ks _ _ (Nat.le_refl h) hC
  have hcn : COR k p N φ ψ own up lo U w len x0 C V S1 T1 ((2, m, x, 0) :: ks) x n (us + 4) h (vs + 1) ls := cor_mk k1 s3 r3 ⟨b1, b2, lbu b3 (Nat.le_add_right us 4), b4, b5, b6, fun _ => Nat.le_refl x, b7⟩ ⟨⟨mN, Or.inr (Or.inl ⟨rfl, hk, hcO, b1⟩)⟩, k2⟩ ch ⟨ng, g1, k4 _ _ _ g2⟩ k5
  have ez : zsOf k p N φ ψ own lo U ((2, m, x, 0) :: ks) = zsOf k p N φ ψ own lo U ks := rfl
  have bg := (pos_bg hA).2 m mN (by omega)
  have lt : mu own lo N n (cW T h) (dOf ks) (U.1 (k + 6) (φ m)) < mu own lo N n (cW T h) (dOf ks) (4 * (φ m : Int)) := mu_lt (Or.inl ⟨rfl, by rw [posC_E, nd.1.2.2.1]; exact bg.1⟩) (by rw [posC_E, nd.1.2.2.1]; exact pE_b hA mN) bg.2
  have go := ih.2.2.2.1 m S1 T1 ((2, m, x, 0) :: ks) x n (us + 4) h (vs + 1) ls ⟨⟨hcn, s3.1.1, r3.1.1, by rw [ez]; omega, by omega⟩, r3.1.2.1, mN, by omega, rfl⟩ (by
    rw [cW_c r2 h (Nat.le_refl h)]
    exact Nat.le_of_lt_succ (Nat.lt_of_lt_of_le lt hm))
  refine GZ_le (GZ_c (GZ_r go fun q => rt_2 t76 t78 (by rw [t80]; exact r1)) fun q i i1 i2 => ?_) (Nat.le_refl _) (by omega)
  rw [ct_E hA hB ⟨i1, i2⟩ nd.1.1 c2 s1, if_pos s3.2.2.2.1]
theorem atm_9 (hX : FIX Q k p N M φ ψ own up lo U w len C V) (ih : ALL Q k p N φ ψ own up lo U w len x0 C V j) (hP : ATs k p N φ ψ own up lo U w len x0 C V m S T ks x n us h vs ls) (hk : U.1 625 (320 * p + m) = 9) (hm : mu own lo N n (cW T h) (dOf ks) (4 * (φ m : Int)) ≤ j + 1) : GZ Q x0 (j + 1) (1100 * (j + 1)) 1 S T := by
  obtain ⟨hA, hV, hw, hC7, hQ⟩ := hX
  have bd := bnS hV hC7 (hV.1 _ _ _ _ _) hP.1
  obtain ⟨⟨hc, c2, t78, p1, p2⟩, t80, mN, m0, h18, hcO⟩ := hP
  have hc0 := hc
  obtain ⟨hB, ⟨s3, s7, s9, s10, s14, s11⟩, ⟨t75, t76, t81, t84, t88, t95, t105⟩, ⟨b1, b2, b3, b4, b5, b6, b7⟩, hW, hC, ⟨ng, g1, g2⟩, hcp⟩ := hc
  have nd := sa_node hA mN
  have kd : U.1 (k + 1) (φ m) = 17 := by
    rw [nd.2.2.1 m0]
    exact kcl_v.2.2.2.1 hk
  have hv := (hV.2.2.2.2.1 m ks x mN m0 h18).2.2.2.2.1 hk
  obtain ⟨S1, s1, s2, s3⟩ := e_plain (Q := Q) hA hB nd.1.1 (cor_cn hc0 c2) kd
  have tn := cor_tn hc0 t78
  rw [t80] at tn
  obtain ⟨T1, r1, r2, r3⟩ := ta_pln (Q := Q) hA hB mN tn hk
  obtain ⟨k1, k2, k3, k4, k5⟩ := COR_k hc0 s2 r2 (Nat.le_refl n) (Nat.le_refl us) (Nat.le_refl vs) (Nat.le_refl ls)
  have hcn : COR k p N φ ψ own up lo U w len x0 C V S1 T1 ((8, m, 0, 0) :: ks) x n us h vs ls := cor_mk k1 s3 r3 ⟨b1, b2, b3, b4, b5, b6, ⟨fun z => absurd (show (8 : Nat) = 2 from z) (by decide), b7⟩⟩ ⟨⟨mN, Or.inr (Or.inr (Or.inr (Or.inr (Or.inr (Or.inr (Or.inr (Or.inl ⟨rfl, m0, Or.inl hk, hcO⟩)))))))⟩, k2⟩ (Or.inl ⟨rfl, k3 h ks _ _ (Nat.le_refl h) hC⟩) ⟨ng, g1, k4 _ _ _ g2⟩ k5
  have ez : zsOf k p N φ ψ own lo U ((8, m, 0, 0) :: ks) = zsOf k p N φ ψ own lo U ks := rfl
  have pc1 : pcL p N φ lo U (pE lo m + 1) ≤ pcL p N φ lo U (pE lo m) := pcL_mono (Nat.le_succ _)
  have bg := (pos_bg hA).2 m mN (by omega)
  have lt : mu own lo N n (cW T h) (dOf ks) (U.1 (k + 6) (φ m)) < mu own lo N n (cW T h) (dOf ks) (4 * (φ m : Int)) := mu_lt (Or.inl ⟨rfl, by rw [posC_E, nd.1.2.2.1]; exact bg.1⟩) (by rw [posC_E, nd.1.2.2.1]; exact pE_b hA mN) bg.2
  have go := ih.2.2.2.1 m S1 T1 ((8, m, 0, 0) :: ks) x n us h vs ls ⟨⟨hcn, s3.1.1, r3.1.1, by rw [ez]; omega, by omega⟩, r3.1.2.1, mN, by omega, rfl⟩ (by
    rw [cW_c r2 h (Nat.le_refl h)]
    exact Nat.le_of_lt_succ (Nat.lt_of_lt_of_le lt hm))
  refine GZ_le (GZ_c (GZ_r go fun q => rt_2 t76 t78 (by rw [t80]; exact r1)) fun q i i1 i2 => ?_) (Nat.le_refl _) (by omega)
  rw [ct_E hA hB ⟨i1, i2⟩ nd.1.1 c2 s1, if_pos s3.2.2.2.1]
theorem kcl_ne {q1 q2 : Int} (h1 : 0 ≤ q1 ∧ q1 ≤ 18) (h2 : q1 ≠ 8 ∧ q1 ≠ 9) : kcl q1 q2 ≠ 17 ∧ kcl q1 q2 ≠ 18 := by
  obtain rfl | rfl | rfl | rfl | rfl | rfl | rfl | rfl | rfl | rfl | rfl | rfl | rfl | rfl | rfl | rfl | rfl : q1 = 0 ∨ q1 = 1 ∨ q1 = 2 ∨ q1 = 3 ∨ q1 = 4 ∨ q1 = 5 ∨ q1 = 6 ∨ q1 = 7 ∨ q1 = 10 ∨ q1 = 11 ∨ q1 = 12 ∨ q1 = 13 ∨ q1 = 14 ∨ q1 = 15 ∨ q1 = 16 ∨ q1 = 17 ∨ q1 = 18 := by omega
  all_goals (unfold kcl; simp; try (split <;> decide))
/-- an atom's step: none more; none that goes on; one that goes on -/
theorem atm_far (hX : FIX Q k p N M φ ψ own up lo U w len C V) (hP : ATs k p N φ ψ own up lo U w len x0 C V m S T ks x n us h vs ls) (hk : U.1 625 (320 * p + m) ≠ 8 ∧ U.1 625 (320 * p + m) ≠ 9) (hn : 1000 ≤ n) (hr : jm_299 Q ((320 * p + m : Nat) : Int) T = some ((), T1)) (hf : T1.1 621 76 = flg n) : GZ Q x0 (j + 1) (1100 * (j + 1)) 1 S T := by
  obtain ⟨hA, hV, hw, hC7, hQ⟩ := hX
  obtain ⟨⟨hc, c2, t78, p1, p2⟩, t80, mN, m0, h18, hcO⟩ := hP
  have hc0 := hc
  obtain ⟨hB, ⟨s3, s7, s9, s10, s14, s11⟩, ⟨t75, t76, t81, t84, t88, t95, t105⟩, ⟨b1, b2, b3, b4, b5, b6, b7⟩, hW, hC, ⟨ng, g1, g2⟩, hcp⟩ := hc
  have nd := sa_node hA mN
  have kd : U.1 (k + 1) (φ m) ≠ 17 ∧ U.1 (k + 1) (φ m) ≠ 18 := by
    rw [nd.2.2.1 m0]
    exact kcl_ne nd.2.1 hk
  obtain ⟨S1, s1, s2⟩ := e_far (Q := Q) hA hB nd.1.1 (cor_cn hc0 c2) hn kd
  have f1 : flg n = 1 := if_neg (by omega)
  refine GZ_le (GZ_r (GZ_far (n := 0) (m := 0) s2 (by rw [hf, f1]; decide) fun q i i1 i2 => ?_) fun q => rt_2 t76 t78 (by rw [t80]; exact hr)) (by omega) (by omega)
  rw [ct_E hA hB ⟨i1, i2⟩ nd.1.1 c2 s1, if_neg s2]
theorem atm_off {v1 l1 : Nat} {cc xx ff gg yy hh tt dd : Int} (hX : FIX Q k p N M φ ψ own up lo U w len C V) (ih : ALL Q k p N φ ψ own up lo U w len x0 C V j) (hP : ATs k p N φ ψ own up lo U w len x0 C V m S T ks x n us h vs ls) (hn : n < 1000) (hm : mu own lo N n (cW T h) (dOf ks) (4 * (φ m : Int)) ≤ j + 1) (e1 : jm_136 Q (φ m : Int) S = some (0, S1)) (e2 : AC us h S S1) (e3 : CN S1 cc xx ff gg us h (n + 1) (x0 : Int)) (r1 : jm_299 Q ((320 * p + m : Nat) : Int) T = some ((), T1)) (r2 : AR vs h ls T T1) (r3 : TN T1 5 nd yy hh tt dd v1 h l1 (n + 1) 0) : GZ Q x0 (j + 1) (1100 * (j + 1)) 1 S T := by
  obtain ⟨hA, hV, hw, hC7, hQ⟩ := hX
  have bd := bnS hV hC7 (hV.1 _ _ _ _ _) hP.1
  obtain ⟨⟨hc, c2, t78, p1, p2⟩, t80, mN, m0, h18, hcO⟩ := hP
  have hc0 := hc
  obtain ⟨hB, ⟨s3, s7, s9, s10, s14, s11⟩, ⟨t75, t76, t81, t84, t88, t95, t105⟩, ⟨b1, b2, b3, b4, b5, b6, b7⟩, hW, hC, ⟨ng, g1, g2⟩, hcp⟩ := hc
  have nd := sa_node hA mN
  obtain ⟨k1, k2, k3, k4, k5⟩ := COR_k hc0 e2 r2 (Nat.le_succ n) (Nat.le_refl us) (Nat.le_refl vs) (Nat.le_refl ls)
  have go := ih.2.2.2.2.2 S1 T1 (n + 1) us h vs ls (cob_of k1 e3 r3 ⟨by omega, by omega, Nat.le_refl us, bd.2.1⟩ k5) r3.1.1 (by
    rw [cW_c r2 h (Nat.le_refl h)]
    unfold mu at hm
    have : 1 ≤ 722 * (dOf ks + 1) - posC own lo N (4 * (φ m : Int)) := by
      have := pE_b hA mN
      rw [posC_E, nd.1.2.2.1]
      omega
    omega)
  refine GZ_le (GZ_c (GZ_r go fun q => rt_2 t76 t78 (by rw [t80]; exact r1)) fun q i i1 i2 => ?_) (Nat.le_refl _) (by omega)
  rw [ct_E hA hB ⟨i1, i2⟩ nd.1.1 c2 e1, if_pos e3.2.2.2.1]
theorem atm_on {x1 h1 : Nat} (hX : FIX Q k p N M φ ψ own up lo U w len C V) (ih : ALL Q k p N φ ψ own up lo U w len x0 C V j) (hP : ATs k p N φ ψ own up lo U w len x0 C V m S T ks x n us h vs ls) (hn : n < 1000) (hm : mu own lo N n (cW T h) (dOf ks) (4 * (φ m : Int)) ≤ j + 1) (e1 : jm_136 Q (φ m : Int) S = some (1, S1)) (e2 : AC us h S S1) (e3 : CN S1 (U.1 (k + 7) (φ m)) (x1 : Int) (S.1 281 4) (S.1 281 5) us h1 (n + 1) (x0 : Int)) (r1 : jm_299 Q ((320 * p + m : Nat) : Int) T = some ((), T1)) (r2 : AR vs h ls T T1) (r3 : TN T1 4 nd (x1 : Int) (T.1 621 82) (T.1 621 83) ((dOf ks + 64 * lOf ks : Nat) : Int) vs h1 ls (n + 1) 0) (hx : x ≤ x1) (hl : x1 ≤ len) (hh : h ≤ h1) (hr : h1 + rkOf ks ≤ n + 1) (hv : V 0 0 0 ks x1 ≤ 299 + V 2 m 0 ks x) (hcw : cW T1 h1 ≤ cW T h + 1) (hcps : CPS k p N φ ψ own up lo U len x0 C V S1 T1 (n + 1) h1 us vs ls) : GZ Q x0 (j + 1) (1100 * (j + 1)) 1 S T := by
  obtain ⟨hA, hV, hw, hC7, hQ⟩ := hX
  obtain ⟨⟨hc, c2, t78, p1, p2⟩, t80, mN, m0, h18, hcO⟩ := hP
  have hc0 := hc
  obtain ⟨hB, ⟨s3, s7, s9, s10, s14, s11⟩, ⟨t75, t76, t81, t84, t88, t95, t105⟩, ⟨b1, b2, b3, b4, b5, b6, b7⟩, hW, hC, ⟨ng, g1, g2⟩, hcp⟩ := hc
  have nd := sa_node hA mN
  obtain ⟨q1, q2, q3, q4⟩ := pos_af hA mN m0 h18
  have pm : pcL p N φ lo U (posC own lo N (cOf k p φ ψ U ks)) ≤ pcL p N φ lo U (pE lo m) := pcL_mono (by rw [hcO]; omega)
  obtain ⟨k1, k2, k3, k4, k5⟩ := COR_k hc0 e2 r2 (Nat.le_succ n) (Nat.le_refl us) (Nat.le_refl vs) (Nat.le_refl ls)
  have hcn : COR k p N φ ψ own up lo U w len x0 C V S1 T1 ks x1 (n + 1) us h1 vs ls := cor_mk k1 e3 r3 ⟨hl, by omega, b3, b4, b5, hr, okp_mono ks x x1 hx b7⟩ k2 (k3 h1 ks _ _ hh hC) ⟨ng, g1, k4 _ _ _ g2⟩ hcps
  have go := ih.1 S1 T1 ks x1 (n + 1) us h1 vs ls ⟨hcn, by rw [hcO]; exact e3.1.1, r3.1.1, by omega, by omega⟩ (by
    have lt : mu own lo N (n + 1) (cW T1 h1) (dOf ks) (cOf k p φ ψ U ks) < mu own lo N n (cW T h) (dOf ks) (4 * (φ m : Int)) := mu_st hn b4 (by rw [posC_E, nd.1.2.2.1]; exact pE_b hA mN) hcw
    omega)
  refine GZ_le (GZ_c (GZ_r go fun q => rt_2 t76 t78 (by rw [t80]; exact r1)) fun q i i1 i2 => ?_) (Nat.le_refl _) (by omega)
  rw [ct_E hA hB ⟨i1, i2⟩ nd.1.1 c2 e1, if_pos e3.2.2.2.1]
/-- what takes a step and changes no choices -/
theorem atm_s (hX : FIX Q k p N M φ ψ own up lo U w len C V) (ih : ALL Q k p N φ ψ own up lo U w len x0 C V j) (hP : ATs k p N φ ψ own up lo U w len x0 C V m S T ks x n us h vs ls) (hk : U.1 625 (320 * p + m) ≤ 7) (hm : mu own lo N n (cW T h) (dOf ks) (4 * (φ m : Int)) ≤ j + 1) : GZ Q x0 (j + 1) (1100 * (j + 1)) 1 S T := by
  have hX0 := hX
  have hP0 := hP
  obtain ⟨hA, hV, ⟨ww1, ww2, ww3, ww4, ww5, ww6⟩, hC7, hQ⟩ := hX
  have bd := bnS hV hC7 (hV.1 _ _ _ _ _) hP.1
  obtain ⟨⟨hc, c2, t78, p1, p2⟩, t80, mN, m0, h18, hcO⟩ := hP
  have hc0 := hc
  obtain ⟨hB, ⟨s3, s7, s9, s10, s14, s11⟩, ⟨t75, t76, t81, t84, t88, t95, t105⟩, ⟨b1, b2, b3, b4, b5, b6, b7⟩, hW, hC, ⟨ng, g1, g2⟩, hcp⟩ := hc
  have nd := sa_node hA mN
  have kd := nd.2.2.1 m0
  have md := nd.2.2.2.1 h18
  have k0 := nd.2.1.1
  have sk := sa_kd hA mN m0
  have hv := hV.2.2.2.2.1 m ks x mN m0 h18
  have tn := cor_tn hc0 t78
  rw [t80] at tn
  have cn := cor_cn hc0 c2
  have wt : ev_isOb w 10 = true ∧ w < 280 ∧ U.1 w 1 = (len : Int) ∧ len ≤ 160 := ⟨ww1, ww3, ww4, ww5⟩
  have k17 : U.1 (k + 1) (φ m) ≠ 17 ∧ U.1 (k + 1) (φ m) ≠ 18 := by
    rw [kd]
    exact kcl_ne nd.2.1 (by omega)
  have fl0 : n < 1000 → flg n = 0 := fun z => if_pos z
  -- places, results that go on in the same way
  have on : ∀ {S1 T1 : ev_St} {x1 : Nat} {nd : Int}, n < 1000 → jm_136 Q (φ m : Int) S = some (1, S1) → AC us h S S1 → CN S1 (U.1 (k + 7) (φ m)) (x1 : Int) (S.1 281 4) (S.1 281 5) us h (n + 1) (x0 : Int) → jm_299 Q ((320 * p + m : Nat) : Int) T = some ((), T1) → AR vs h ls T T1 → TN T1 4 nd (x1 : Int) (T.1 621 82) (T.1 621 83) ((dOf ks + 64 * lOf ks : Nat) : Int) vs h ls (n + 1) (flg n) → x ≤ x1 → x1 ≤ len → V 0 0 0 ks x1 ≤ 299 + V 2 m 0 ks x → GZ Q x0 (j + 1) (1100 * (j + 1)) 1 S T := fun {S1 T1 x1 nd} a0 a1 a2 a3 a4 a5 a6 a7 a8 a9 => by
    obtain ⟨k1, k2, k3, k4, k5⟩ := COR_k hc0 a2 a5 (Nat.le_succ n) (Nat.le_refl us) (Nat.le_refl vs) (Nat.le_refl ls)
    rw [fl0 a0] at a6
    exact atm_on hX0 ih hP0 a0 hm a1 a2 a3 a4 a5 a6 a7 a8 (Nat.le_refl h) (by omega) a9 (by rw [cW_c a5 h (Nat.le_refl h)]; exact Nat.le_succ _) k5
  have off : ∀ {S1 T1 : ev_St} {cc xx ff gg nd yy hh tt dd : Int} {v1 l1 : Nat}, n < 1000 → jm_136 Q (φ m : Int) S = some (0, S1) → AC us h S S1 → CN S1 cc xx ff gg us h (n + 1) (x0 : Int) → jm_299 Q ((320 * p + m : Nat) : Int) T = some ((), T1) → AR vs h ls T T1 → TN T1 5 nd yy hh tt dd v1 h l1 (n + 1) (flg n) → GZ Q x0 (j + 1) (1100 * (j + 1)) 1 S T := fun {S1 T1 cc xx ff gg nd yy hh tt dd v1 l1} a0 a1 a2 a3 a4 a5 a6 => by
    rw [fl0 a0] at a6
    exact atm_off hX0 ih hP0 a0 hm a1 a2 a3 a4 a5 a6
  by_cases z0 : U.1 625 (320 * p + m) = 0
  · -- a character
    obtain ⟨e, he⟩ : ∃ e, e = cs (U.2.1 (k + 8) (φ m)) (U.2.1 (k + 9) (φ m)) (txa U w len (x : Int)) := ⟨_, rfl⟩
    have e01 : e = 0 ∨ e = 1 := by
      rw [he]
      unfold cs
      exact if0or1
    have tx := txa_r (w := w) ww6 (x : Int)
    have er : (x < len → e = rs (U.2.1 633 (320 * p + m)) (U.2.1 634 (320 * p + m)) (txa U w len (x : Int))) ∧ (¬ x < len → e = 0) := by
      refine ⟨fun q => ?_, fun q => ?_⟩
      · rw [he]
        exact SB_cs (sk.1 z0).1 (tx.2.2.1 (by omega)).1
      · rw [he, tx.2.2.2 (by omega)]
        rfl
    obtain ⟨T1, r1, r2, r3⟩ := ta_set (Q := Q) hA hB mN tn b2 ww5 z0 (fun q => (tx.2.2.1 (by omega)).1) er
    by_cases hn : n < 1000
    · obtain ⟨Z, zz1, zz2, zz3⟩ := e_st (Q := Q) hA hB nd.1.1 cn hn k17
      obtain ⟨S1, s1, s2, s3⟩ := e_set (Q := Q) hA (BAS_m hB zz2 (AR_r (vs := vs) (h := h) (ls := ls))) wt nd.1.1 zz3 b1
      rw [kd, kcl_v.1 z0, s1, ← he] at zz1
      have ac := AC_tr zz2 s2 (Nat.le_refl _) (Nat.le_refl _)
      rcases e01 with q | q
      · rw [q, if_pos rfl, if_pos rfl] at r3
        rw [q] at zz1
        exact off hn zz1 ac s3 r1 r2 r3
      · rw [q, if_neg (by decide), if_neg (by decide)] at r3
        rw [q] at zz1
        have xl : x < len := Classical.byContradiction fun w => by
          have := er.2 w
          omega
        exact on hn zz1 ac s3 r1 r2 r3 (Nat.le_succ x) (by omega) (hv.1 z0)
    · exact atm_far hX0 hP0 (by omega) (by omega) r1 r3.2.2.2.2.2
  by_cases z1 : U.1 625 (320 * p + m) ≤ 6
  · -- an end, a boundary
    obtain ⟨T1, r1, r2, r3⟩ := ta_edge (Q := Q) hA hB mN tn b2 ww5 b1 (by omega)
    by_cases hn : n < 1000
    · obtain ⟨Z, zz1, zz2, zz3⟩ := e_st (Q := Q) hA hB nd.1.1 cn hn k17
      obtain ⟨S1, s1, s2, s3⟩ := e_edge (Q := Q) (kd := U.1 625 (320 * p + m)) (md := U.1 629 (320 * p + m)) hA (BAS_m hB zz2 (AR_r (vs := vs) (h := h) (ls := ls))) wt nd.1.1 zz3 b1 (by omega) md.1
      rw [kd, s1] at zz1
      have ac := AC_tr zz2 s2 (Nat.le_refl _) (Nat.le_refl _)
      rcases edge_b (U := U) (w := w) (len := len) (kd := U.1 625 (320 * p + m)) (md := U.1 629 (320 * p + m)) (x := x) with q | q
      · rw [q] at zz1
        rw [if_pos q] at r3
        exact off hn zz1 ac s3 r1 r2 r3
      · rw [q] at zz1
        rw [if_neg (by omega)] at r3
        exact on hn zz1 ac s3 r1 r2 r3 (Nat.le_refl x) b1 (hv.2.1 (Or.inl ⟨by omega, z1⟩))
    · exact atm_far hX0 hP0 (by omega) (by omega) r1 r3.2.2.2.2.2
  · -- what a group has
    have z7 : U.1 625 (320 * p + m) = 7 := by omega
    obtain ⟨md7, hmd7⟩ : ∃ md7, md7 = U.1 629 (320 * p + m) := ⟨_, rfl⟩
    have k3m : U.1 (k + 3) (φ m) = md7 := by rw [hmd7]; exact sk.2.2.1 z7
    have k2m : U.1 (k + 2) (φ m) = U.1 628 (320 * p + m) := sk.2.1 (Or.inl z7)
    have T73 : T.1 621 73 = (len : Int) := hB.2.2.2.2.1
    by_cases hn : n < 1000
    · obtain ⟨Z, zz1, zz2, zz3⟩ := e_st (Q := Q) hA hB nd.1.1 cn hn k17
      obtain ⟨x2, y2, o1, o2, o3⟩ := gl_one (Q := Q) (S := Z) (T := T) (a := U.1 628 (320 * p + m)) (us := us) (ls := ls) (ng := ng) (by rw [zz3.1.2.2.2]; exact GL_m zz2 (AR_r (vs := vs) (h := h)) (Nat.le_refl _) (Nat.le_refl _) g2) zz3.2.1 (by omega) ⟨g1, b3⟩ (by omega)
      obtain ⟨u1, u2⟩ := e_got (Q := Q) (y2 := 0) (md := md7) hA (BAS_m hB zz2 (AR_r (vs := vs) (h := h) (ls := ls))) wt ww6 (by omega) nd.1.1 zz3 b1 (by omega) k3m (by rw [k2m]; exact o1)
      obtain ⟨v1, v2⟩ := ta_has (Q := Q) (y2 := y2) (md := md7) hA hB ww6 (by omega) ww5 mN tn b2 b1 z7 hmd7.symm (by omega) (fun T2 q1 q2 => o2 T2 (fun c v q3 q4 => q1.2.2.1 c v (by omega) (by omega) q4) q2)
      rw [kd, kcl_v.2.1 z7] at zz1
      rcases o3 with ⟨w1, w2⟩ | ⟨u, v, w1, w2, w3, w4, w5, w6, w7, w8⟩
      · obtain ⟨T1, r1, r2, r3⟩ := v1 w2
        exact off hn (zz1.trans (u1 w1)) zz2 zz3 r1 r2 r3
      · obtain ⟨F, hF⟩ : ∃ F : Nat, T.1 697 v = (F : Int) := ⟨(T.1 697 v).toNat, by omega⟩
        obtain ⟨L, hL⟩ : ∃ L : Nat, T.1 698 v = ((F + L : Nat) : Int) := ⟨(T.1 698 v - T.1 697 v).toNat, by omega⟩
        obtain ⟨u3, u4⟩ := u2 u F L w1 w3 (by rw [w5, hF]) (by rw [w6, hL]) (by omega)
        obtain ⟨v3, v4⟩ := v2 v F L w2 (by omega) w4 hF hL (by omega)
        by_cases q : HASb U w len F L x md7
        · obtain ⟨S1, s1, s2, s3⟩ := u3 q
          obtain ⟨T1, r1, r2, r3⟩ := v3 q
          exact on hn (zz1.trans s1) (AC_tr zz2 s2 (Nat.le_refl _) (Nat.le_refl _)) s3 r1 r2 r3 (Nat.le_add_right x L) q.1 (hv.2.2.1 z7 _ (Nat.le_add_right x L))
        · obtain ⟨T1, r1, r2, r3⟩ := v4 q
          exact off hn (zz1.trans (u4 q)) zz2 zz3 r1 r2 r3
    · obtain ⟨x2, y2, o1, o2, o3⟩ := gl_one (Q := Q) (S := S) (T := T) (a := U.1 628 (320 * p + m)) (us := us) (ls := ls) (ng := ng) g2 s7 (by omega) ⟨g1, b3⟩ (by omega)
      obtain ⟨v1, v2⟩ := ta_has (Q := Q) (y2 := y2) (md := md7) hA hB ww6 (by omega) ww5 mN tn b2 b1 z7 hmd7.symm (by omega) (fun T2 q1 q2 => o2 T2 (fun c v q3 q4 => q1.2.2.1 c v (by omega) (by omega) q4) q2)
      rcases o3 with ⟨w1, w2⟩ | ⟨u, v, w1, w2, w3, w4, w5, w6, w7, w8⟩
      · obtain ⟨T1, r1, r2, r3⟩ := v1 w2
        exact atm_far hX0 hP0 (by omega) (by omega) r1 r3.2.2.2.2.2
      · obtain ⟨F, hF⟩ : ∃ F : Nat, T.1 697 v = (F : Int) := ⟨(T.1 697 v).toNat, by omega⟩
        obtain ⟨L, hL⟩ : ∃ L : Nat, T.1 698 v = ((F + L : Nat) : Int) := ⟨(T.1 698 v - T.1 697 v).toNat, by omega⟩
        obtain ⟨v3, v4⟩ := v2 v F L w2 (by omega) w4 hF hL (by omega)
        by_cases q : HASb U w len F L x md7
        · obtain ⟨T1, r1, r2, r3⟩ := v3 q
          exact atm_far hX0 hP0 (by omega) (by omega) r1 r3.2.2.2.2.2
        · obtain ⟨T1, r1, r2, r3⟩ := v4 q
          exact atm_far hX0 hP0 (by omega) (by omega) r1 r3.2.2.2.2.2
end OPZU
