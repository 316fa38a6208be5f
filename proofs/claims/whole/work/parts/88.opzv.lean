/-! SEARCH: atoms, side by side: looks, atomic parts -/
section OPZV
variable {Q k p N M m n n2 h h2 us us2 vs vs2 ls ls2 w len x0 x y u v a b r j : Nat} {C : Int} {φ ψ own up lo : Nat → Nat} {S S1 S2 T T1 T2 U : ev_St} {V : Nat → Nat → Nat → List KT → Nat → Int} {ks : List KT} {κ : KT} {c g f td nd had th dp kd cd fr vv a1 a2 hh : Int}
/-- a look is laid on both sides -/
theorem lk_parts (hc0 : COR k p N φ ψ own up lo U w len x0 C V S T ks x n us h vs ls) (k1 : κ.1 = 5 ∨ κ.1 = 6 ∨ κ.1 = 7 ∨ κ.1 = 9) (k2 : κ.2.1 = m) (k3 : κ.2.2.1 = x) (k4 : κ.2.2.2 = h) (mN : m < N) (hwk : WFK k p N φ ψ up U len (n + 1) κ ks) (s2 : AC us h S S1) (c0 : S1.1 282 us = S.1 281 4) (c1 : S1.1 282 (us + 1) = ((256 * (lOf ks + 1) + 8 * dOf ks + 3 : Nat) : Int)) (c2 : S1.1 282 (us + 2) = (x : Int)) (c3 : S1.1 282 (us + 3) = (h : Int)) (q1 : CHC S1 h 1 (4 * (b : Int)) (x : Int) (us : Int) (S.1 281 5) (us + 4)) (r2 : AR vs h ls T T1) (r4 : RCH T1 h a1 ((320 * p + m : Nat) : Int) vv (x : Int) (T.1 621 82) (T.1 621 83) ((dOf ks + 64 * lOf ks : Nat) : Int) vs ls) (r5 : RFR T1 vs a2 ((320 * p + m : Nat) : Int) (h : Int) hh (T.1 621 83) ((dOf ks + 64 * lOf ks : Nat) : Int)) (ha2 : a2 = if κ.1 = 9 then 5 else (κ.1 : Int)) (ha1 : (a1 = 3 ∧ ((b = φ m ∧ U.1 625 (320 * p + m) = 10) ∨ (b = ψ m ∧ U.1 630 (320 * p + m) = 2))) ∨ (a1 = 4 ∧ b = φ m ∧ U.1 625 (320 * p + m) = 11) ∨ (a1 = 5 ∧ b = φ m ∧ U.1 625 (320 * p + m) = 12 ∧ vv = (x : Int))) (hl : lOf ks + 1 ≤ 40) (hcO : cOf k p φ ψ U ks = U.1 (k + 7) b) (p1 : us + 4 * (pcL p N φ lo U (pE lo m) + zsOf k p N φ ψ own lo U ks) ≤ 76 * n + 72) (p2 : a1 ≠ 3 → 2 * (vs : Int) + V 0 0 0 ks x ≤ 299 * ((n + 1 : Nat) : Int) + C) (p3 : a1 = 5 → ∀ y, y ≤ x → 2 * (vs : Int) + 2 + V 3 m 0 ((7, m, x, h) :: ks) y ≤ 299 * ((n + 1 : Nat) : Int) + C) : (CH k p φ ψ U S1 T1 (us + 4) (vs + 1) ls (h + 1) (κ :: ks) (us : Int) (vs : Int) ∧ CPS k p N φ ψ own up lo U len x0 C V S1 T1 (n + 1) (h + 1) (us + 4) (vs + 1) ls ∧ WFL k p N φ ψ up U len (n + 1) (κ :: ks)) ∧ (∃ ng, ng ≤ ls ∧ GL S1 T1 (us + 4) ls ng (S.1 281 5) (T.1 621 82)) ∧ BAS k p U w len S1 T1 ∧ cW T1 (h + 1) = cW T h + 1 ∧ okp x0 (κ :: ks) x ∧ dOf (κ :: ks) = dOf ks ∧ lOf (κ :: ks) = lOf ks + 1 ∧ rkOf (κ :: ks) = rkOf ks ∧ zsOf k p N φ ψ own lo U (κ :: ks) = zsOf k p N φ ψ own lo U ks := by
  have hc := hc0
  obtain ⟨hB, ⟨s3, s7, s9, s10, s14, s11⟩, ⟨t75, t76, t81, t84, t88, t95, t105⟩, ⟨b1, b2, b3, b4, b5, b6, b7⟩, hW, hC, ⟨ng, g1, g2⟩, hcp⟩ := hc
  obtain ⟨kk1, kk2, kk3, kk4, kk5⟩ := COR_k hc0 s2 r2 (Nat.le_succ n) (show us ≤ us + 4 by omega) (Nat.le_refl vs) (Nat.le_refl ls)
  have ed : dOf (κ :: ks) = dOf ks := by rw [ks_d, if_neg (by omega)]; rfl
  have el : lOf (κ :: ks) = lOf ks + 1 := by rw [ks_l, if_pos k1]
  have er : rkOf (κ :: ks) = rkOf ks := by rw [ks_r, if_neg (by omega)]; rfl
  have ez : zsOf k p N φ ψ own lo U (κ :: ks) = zsOf k p N φ ψ own lo U ks := by rw [ks_z, if_neg (by omega), if_neg (by omega)]; rfl
  have eo : okp x0 (κ :: ks) x := by
    rw [ks_o]
    by_cases z : κ.1 = 6 ∨ κ.1 = 7
    · rw [if_pos z, k3]
      exact b7
    · rw [if_neg z]
      exact ⟨fun w => by omega, b7⟩
  have tg : tagK κ = 3 := by
    unfold tagK
    rw [if_neg (by omega), if_neg (by omega), if_neg (by omega)]
  have a135 : 3 ≤ a1 ∧ a1 ≤ 5 := by
    rcases ha1 with z | z | z
    · rw [z.1]
      decide
    · rw [z.1]
      decide
    · rw [z.1]
      decide
  have hch := kk3 h ks _ _ (Nat.le_refl h) hC
  have hgl : ∃ ng, ng ≤ ls ∧ GL S1 T1 (us + 4) ls ng (S.1 281 5) (T.1 621 82) := ⟨ng, g1, kk4 _ _ _ g2⟩
  have ch : CH k p φ ψ U S1 T1 (us + 4) (vs + 1) ls (h + 1) (κ :: ks) (us : Int) (vs : Int) := by
    refine Or.inr ⟨vs, rfl, Nat.lt_succ_self _, r5.2.2.2.2.2, Or.inr ⟨us, rfl, Nat.le_refl _, ?_, Or.inr (Or.inr (Or.inr ⟨k1, by rw [← ha2]; exact r5.1, by rw [k2]; exact r5.2.1, by rw [k4]; exact r5.2.2.1, by rw [k3]; exact c2, by rw [k4]; exact c3, by omega, by rw [k4, k3]; exact r4.2.2.2.1, by rw [k4, r4.1]; exact a135.1, by rw [k4, r4.1]; exact a135.2⟩)), ?_⟩⟩
    · rw [c1, ed, el, tg]
    · rw [show hK (h + 1) κ = κ.2.2.2 from if_pos k1, k4, c0, r5.2.2.2.2.1]
      exact CH_m (show us + 4 ≤ us + 4 from Nat.le_refl _) (Nat.le_succ vs) (Nat.le_refl ls) ks h h _ _ (AC_r (us := us + 4) (h := h)) (AR_r (vs := vs) (h := h) (ls := ls)) (Nat.le_refl h) hch
  have pw : PWAL k p N φ ψ own up lo U C V S1 T1 h (us + 4) vs ls (n + 1) x ks := by
    refine ⟨m, b, mN, r4.2.1, q1.2.1, hcO, ⟨us, q1.2.2.2.1, Nat.le_refl _, c1, c2, c3, by rw [c0, r4.2.2.2.2.2.1]; exact hch⟩, ?_, hl, by omega, fun z => p2 (by rw [← r4.1]; exact z), fun z => p3 (by rw [← r4.1]; exact z)⟩
    rcases ha1 with z | z | ⟨z, z2, z3, z4⟩
    · exact Or.inl ⟨by rw [r4.1]; exact z.1, z.2⟩
    · exact Or.inr (Or.inl ⟨by rw [r4.1]; exact z.1, z.2⟩)
    · exact Or.inr (Or.inr ⟨by rw [r4.1]; exact z, z2, z3, x, q1.2.2.1, by rw [r4.2.2.1]; exact z4, Nat.le_refl x⟩)
  obtain ⟨ng', g1', g2'⟩ := hgl
  have pa : PAIR k p N φ ψ own up lo U len x0 C V S1 T1 h (us + 4) vs ls (n + 1) := ⟨⟨q1.2.2.2.2.2, r4.2.2.2.2.2.2.2.1, r4.2.2.2.2.2.2.2.2, lbu b3 (Nat.le_add_right us 4)⟩, Or.inr ⟨ks, x, ng', kk2, ⟨b4, b5, by omega⟩, r4.2.2.2.1, b1, b7, r4.2.2.2.2.2.2.1, g1', by rw [q1.2.2.2.2.1, r4.2.2.2.2.1]; exact g2', Or.inr ⟨q1.1, pw⟩⟩⟩
  refine ⟨⟨ch, ⟨us + 4, vs, ls, Nat.le_refl _, Nat.le_succ _, Nat.le_refl _, pa, kk5⟩, hwk, kk2⟩, ⟨ng', g1', g2'⟩, kk1, ?_, eo, ed, el, er, ez⟩
  rw [(cW_s (T := T1) (h := h)).2.2.2 (by rw [r4.1]; omega), cW_c r2 h (Nat.le_refl h)]
theorem atm_lk (hX : FIX Q k p N M φ ψ own up lo U w len C V) (ih : ALL Q k p N φ ψ own up lo U w len x0 C V j) (hP : ATs k p N φ ψ own up lo U w len x0 C V m S T ks x n us h vs ls) (hk : 10 ≤ U.1 625 (320 * p + m) ∧ U.1 625 (320 * p + m) ≤ 12) (hm : mu own lo N n (cW T h) (dOf ks) (4 * (φ m : Int)) ≤ j + 1) : GZ Q x0 (j + 1) (1100 * (j + 1)) 1 S T := by
  have hX0 := hX
  have hP0 := hP
  obtain ⟨hA, hV, hw, hC7, hQ⟩ := hX
  have bd := bnS hV hC7 (hV.1 _ _ _ _ _) hP.1
  obtain ⟨⟨hc, c2, t78, p1, p2⟩, t80, mN, m0, h18, hcO⟩ := hP
  have hc0 := hc
  obtain ⟨hB, ⟨s3, s7, s9, s10, s14, s11⟩, ⟨t75, t76, t81, t84, t88, t95, t105⟩, ⟨b1, b2, b3, b4, b5, b6, b7⟩, hW, hC, ⟨ng, g1, g2⟩, hcp⟩ := hc
  have nd := sa_node hA mN
  have kd := nd.2.2.1 m0
  have hv := hV.2.2.2.2.1 m ks x mN m0 h18
  have aro := CH_aro b4 b5 hC
  have cn := cor_cn hc0 c2
  have tn := cor_tn hc0 t78
  rw [t80] at tn
  have k17 : U.1 (k + 1) (φ m) ≠ 17 ∧ U.1 (k + 1) (φ m) ≠ 18 := by
    rw [kd]
    exact kcl_ne nd.2.1 (by omega)
  have k19 : 19 ≤ U.1 (k + 1) (φ m) ∧ U.1 (k + 1) (φ m) ≤ 23 := by
    rw [kd]
    have q : U.1 625 (320 * p + m) = 10 ∨ U.1 625 (320 * p + m) = 11 ∨ U.1 625 (320 * p + m) = 12 := by omega
    rcases q with z | z | z
    · rw [kcl_v.2.2.2.2.1 z]
      decide
    · rw [kcl_v.2.2.2.2.2.1 z]
      split <;> decide
    · rw [kcl_v.2.2.2.2.2.2.1 z]
      split <;> decide
  -- what the reference does
  have rf : (40 ≤ lOf ks → ∃ T1, jm_299 Q ((320 * p + m : Nat) : Int) T = some ((), T1) ∧ AR vs h ls T T1 ∧ TN T1 5 ((320 * p + m : Nat) : Int) (x : Int) (T.1 621 82) (T.1 621 83) ((dOf ks + 64 * lOf ks : Nat) : Int) vs h ls (n + 1) (flg n)) ∧ (lOf ks < 40 → ∃ (a1 : Int) (kp : Nat) (vv : Int) (T1 : ev_St), jm_299 Q ((320 * p + m : Nat) : Int) T = some ((), T1) ∧ AR vs h ls T T1 ∧ TN T1 3 ((320 * p + m : Nat) : Int) (x : Int) (T.1 621 82) (vs : Int) ((dOf ks + 64 * (lOf ks + 1) : Nat) : Int) (vs + 1) (h + 1) ls (n + 1) (flg n) ∧ RCH T1 h a1 ((320 * p + m : Nat) : Int) vv (x : Int) (T.1 621 82) (T.1 621 83) ((dOf ks + 64 * lOf ks : Nat) : Int) vs ls ∧ RFR T1 vs (kp : Int) ((320 * p + m : Nat) : Int) (h : Int) (-1) (T.1 621 83) ((dOf ks + 64 * lOf ks : Nat) : Int) ∧ ((U.1 625 (320 * p + m) = 10 ∧ a1 = 3 ∧ kp = 5) ∨ (U.1 625 (320 * p + m) = 11 ∧ a1 = 4 ∧ kp = 6) ∨ (U.1 625 (320 * p + m) = 12 ∧ a1 = 5 ∧ kp = 7 ∧ vv = (x : Int)))) := by
    have tx := TN_78 (y := 5) tn
    have ax : AR vs h ls T (ev_pI T 621 78 5) := AR_i AR_r (by omega)
    have bX := BAS_m hB (AC_r (us := 0) (h := h)) ax
    have tr := fun (T1 : ev_St) (q : AR vs h ls (ev_pI T 621 78 5) T1) => AR_tr ax q (Nat.le_refl _) (Nat.le_refl _) (Nat.le_refl _)
    by_cases z12 : U.1 625 (320 * p + m) = 12
    · obtain ⟨q1, q2⟩ := ta_beh (Q := Q) hA hB mN tn b2 ⟨b4, b5⟩ z12
      refine ⟨q1, fun z => ?_⟩
      obtain ⟨T1, r1, r2, r3, r4, r5⟩ := t_297 (Q := Q) (a := ((320 * p + m : Nat) : Int)) (y := x) tx b2 (by omega) (by omega) ⟨b4, b5⟩
      exact ⟨5, 7, (x : Int), T1, by rw [q2 z]; exact r1, tr T1 r2, r3, r4, r5, Or.inr (Or.inr ⟨z12, rfl, rfl, rfl⟩)⟩
    · by_cases z10 : U.1 625 (320 * p + m) = 10
      · have e := ta_298 (Q := Q) (a1 := 3) (a2 := 5) hA hB mN (Or.inl ⟨z10, rfl, rfl⟩)
        obtain ⟨q1, q2⟩ := t_298 (Q := Q) (a1 := 3) (a2 := 5) (a3 := 3) hA bX mN tx b2 (by omega) (by omega) ⟨b4, b5⟩
        refine ⟨fun z => ?_, fun z => ?_⟩
        · obtain ⟨T1, r1, r2, r3⟩ := q1 z
          exact ⟨T1, by rw [e]; exact r1, tr T1 r2, r3⟩
        · obtain ⟨T1, r1, r2, r3, r4, r5⟩ := q2 z
          exact ⟨3, 5, _, T1, by rw [e]; exact r1, tr T1 r2, r3, r4, r5, Or.inl ⟨z10, rfl, rfl⟩⟩
      · have z11 : U.1 625 (320 * p + m) = 11 := by omega
        have e := ta_298 (Q := Q) (a1 := 4) (a2 := 6) hA hB mN (Or.inr ⟨z11, rfl, rfl⟩)
        obtain ⟨q1, q2⟩ := t_298 (Q := Q) (a1 := 4) (a2 := 6) (a3 := 3) hA bX mN tx b2 (by omega) (by omega) ⟨b4, b5⟩
        refine ⟨fun z => ?_, fun z => ?_⟩
        · obtain ⟨T1, r1, r2, r3⟩ := q1 z
          exact ⟨T1, by rw [e]; exact r1, tr T1 r2, r3⟩
        · obtain ⟨T1, r1, r2, r3, r4, r5⟩ := q2 z
          exact ⟨4, 6, _, T1, by rw [e]; exact r1, tr T1 r2, r3, r4, r5, Or.inr (Or.inl ⟨z11, rfl, rfl⟩)⟩
  by_cases hl : 40 ≤ lOf ks
  · obtain ⟨T1, r1, r2, r3⟩ := rf.1 hl
    by_cases hn : n < 1000
    · obtain ⟨Z, zz1, zz2, zz3⟩ := e_st (Q := Q) hA hB nd.1.1 cn hn k17
      have arZ : ARo Z us (S.1 281 4) (lOf ks) (dOf ks) := by
        rcases aro with y | ⟨f2, k2, y1, y2, y3, y4⟩
        · exact Or.inl y
        · exact Or.inr ⟨f2, k2, y1, y2, by rw [zz2.1 _ (by omega)]; exact y3, y4⟩
      have q := (e_look (Q := Q) hA (BAS_m hB zz2 (AR_r (vs := vs) (h := h) (ls := ls))) nd.1.1 zz3 k19 (by omega) (by omega) arZ).1 hl
      rw [q] at zz1
      rw [show flg n = 0 from if_pos hn] at r3
      exact atm_off hX0 ih hP0 hn hm zz1 zz2 zz3 r1 r2 r3
    · exact atm_far hX0 hP0 (by omega) (by omega) r1 r3.2.2.2.2.2
  · obtain ⟨a1, kp, vv, T1, r1, r2, r3, r4, r5, r6⟩ := rf.2 (by omega)
    by_cases hn : n < 1000
    · obtain ⟨Z, zz1, zz2, zz3⟩ := e_st (Q := Q) hA hB nd.1.1 cn hn k17
      have arZ : ARo Z us (S.1 281 4) (lOf ks) (dOf ks) := by
        rcases aro with y | ⟨f2, k2, y1, y2, y3, y4⟩
        · exact Or.inl y
        · exact Or.inr ⟨f2, k2, y1, y2, by rw [zz2.1 _ (by omega)]; exact y3, y4⟩
      obtain ⟨S1, s1, s2, s3, s4, s5, s6, s7', s8⟩ := (e_look (Q := Q) hA (BAS_m hB zz2 (AR_r (vs := vs) (h := h) (ls := ls))) nd.1.1 zz3 k19 (by omega) (by omega) arZ).2 (by omega)
      rw [s1] at zz1
      rw [show flg n = 0 from if_pos hn] at r3
      have ac := AC_tr zz2 s2 (Nat.le_refl _) (Nat.le_refl _)
      have vr : ∀ b y, y ≤ x → 2 + V 3 m 0 ((kp, m, x, b) :: ks) (if kp = 7 then y else x) ≤ 299 + V 2 m 0 ks x := fun b y hy => by
        rcases r6 with ⟨q1, q2, q3⟩ | ⟨q1, q2, q3⟩ | ⟨q1, q2, q3, _⟩
        · rw [q3]
          exact hv.2.2.2.2.2.1 q1 b
        · rw [q3]
          exact hv.2.2.2.2.2.2.1 q1 b
        · rw [q3]
          exact hv.2.2.2.2.2.2.2.1 q1 b y hy
      have kp5 : kp = 5 ∨ kp = 6 ∨ kp = 7 := by omega
      have v3x := vr h x (Nat.le_refl x)
      rw [show (if kp = 7 then x else x) = x from by split <;> rfl] at v3x
      have v3 := hV.1 3 m 0 ((kp, m, x, h) :: ks) x
      obtain ⟨⟨l1, l2, l3⟩, l4, l5, l6, l7, l8, l9, l10, l11⟩ := lk_parts (κ := (kp, m, x, h)) (m := m) (b := φ m) hc0 (by
        show kp = 5 ∨ kp = 6 ∨ kp = 7 ∨ kp = 9
        omega) rfl rfl rfl mN ⟨mN, (by
          show (kp = 1 ∧ _) ∨ (kp = 2 ∧ _) ∨ (kp = 3 ∧ _) ∨ (kp = 4 ∧ _) ∨ (kp = 5 ∧ _) ∨ (kp = 6 ∧ _) ∨ (kp = 7 ∧ _) ∨ (kp = 8 ∧ _) ∨ (kp = 9 ∧ _)
          rcases r6 with ⟨q1, q2, q3⟩ | ⟨q1, q2, q3⟩ | ⟨q1, q2, q3, _⟩
          · exact Or.inr (Or.inr (Or.inr (Or.inr (Or.inl ⟨q3, q1, hcO, b1⟩))))
          · exact Or.inr (Or.inr (Or.inr (Or.inr (Or.inr (Or.inl ⟨q3, q1, hcO, b1⟩)))))
          · exact Or.inr (Or.inr (Or.inr (Or.inr (Or.inr (Or.inr (Or.inl ⟨q3, q1, hcO, b1⟩)))))))⟩ ac s5 s6 s7' s8 s4 r2 r4 r5 (by
          show (kp : Int) = if kp = 9 then 5 else (kp : Int)
          rw [if_neg (by omega)]) (by
          rcases r6 with ⟨q1, q2, q3⟩ | ⟨q1, q2, q3⟩ | ⟨q1, q2, q3, q4⟩
          · exact Or.inl ⟨q2, Or.inl ⟨rfl, q1⟩⟩
          · exact Or.inr (Or.inl ⟨q2, rfl, q1⟩)
          · exact Or.inr (Or.inr ⟨q2, rfl, q1, q4⟩)) (by omega) hcO p1 (fun q => by
          have := hv.2.1 (Or.inr (Or.inr (by omega)))
          omega) (fun q y hy => by
          have q7 : kp = 7 := by omega
          have := vr h y hy
          rw [q7, if_pos rfl] at this
          omega)
      rw [← l9] at r3
      have r3' : TN T1 3 ((320 * p + m : Nat) : Int) (x : Int) (T.1 621 82) (vs : Int) ((dOf ((kp, m, x, h) :: ks) + 64 * lOf ((kp, m, x, h) :: ks) : Nat) : Int) (vs + 1) (h + 1) ls (n + 1) 0 := by
        rw [l8]
        exact r3
      have hcn : COR k p N φ ψ own up lo U w len x0 C V S1 T1 ((kp, m, x, h) :: ks) x (n + 1) (us + 4) (h + 1) (vs + 1) ls := cor_mk l5 s3 r3' ⟨b1, by omega, lbu b3 (Nat.le_add_right us 4), by omega, by omega, by omega, l7⟩ l3 l1 l4 l2
      have ec : cOf k p φ ψ U ((kp, m, x, h) :: ks) = 4 * (φ m : Int) + 1 := by
        rw [ks_c]
        show (if kp = 1 then _ else if kp = 3 then _ else if kp = 9 then _ else 4 * (φ m : Int) + 1) = _
        rw [if_neg (by omega), if_neg (by omega), if_neg (by omega)]
      have pc1 : pcL p N φ lo U (pE lo m + 1) ≤ pcL p N φ lo U (pE lo m) := pcL_mono (Nat.le_succ _)
      have go := ih.2.2.2.1 m S1 T1 ((kp, m, x, h) :: ks) x (n + 1) (us + 4) (h + 1) (vs + 1) ls ⟨⟨hcn, s3.1.1, r3.1.1, by rw [l11]; omega, by omega⟩, r3.1.2.1, mN, by omega, ec⟩ (by
        have lt : mu own lo N (n + 1) (cW T1 (h + 1)) (dOf ((kp, m, x, h) :: ks)) (U.1 (k + 6) (φ m)) < mu own lo N n (cW T h) (dOf ks) (4 * (φ m : Int)) := mu_st hn (by omega) (by rw [posC_E, nd.1.2.2.1]; exact pE_b hA mN) (by omega)
        omega)
      refine GZ_le (GZ_c (GZ_r go fun q => rt_2 t76 t78 (by rw [t80]; exact r1)) fun q i i1 i2 => ?_) (Nat.le_refl _) (by omega)
      rw [ct_E hA hB ⟨i1, i2⟩ nd.1.1 c2 zz1, if_pos s3.2.2.2.1]
    · exact atm_far hX0 hP0 (by omega) (by omega) r1 r3.2.2.2.2.2
end OPZV
