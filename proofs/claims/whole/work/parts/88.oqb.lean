/-! SEARCH: falling back, side by side, all of it -/
section OQB
variable {Q k p N M m n n2 h h2 us us2 vs vs2 ls ls2 w len x0 x y u v g a b r j t uu i : Nat} {C : Int} {φ ψ own up lo : Nat → Nat} {S S1 S2 T T1 T2 U X Y R : ev_St} {V : Nat → Nat → Nat → List KT → Nat → Int} {ks : List KT} {κ : KT} {c f td nd had th dp kd cd fr vv a1 a2 hh al x17 x18 gg : Int}
/-- a choice to be tried -/
theorem bk_try (hX : FIX Q k p N M φ ψ own up lo U w len C V) (ih : ALL Q k p N φ ψ own up lo U w len x0 C V j) (hB : BAS k p U w len S T) (hpa : PAIR k p N φ ψ own up lo U len x0 C V S T h u v g n) (hcp : CPS k p N φ ψ own up lo U len x0 C V S T n h u v g) (hk : S.1 283 (6 * h) = 0) (hh : h + 1 ≤ 1002) (hn : n ≤ 1000) (cX : CB X h n (x0 : Int)) (aX : ∀ v h2, AC v h2 S X) (h305 : T.1 687 h ≤ 5 → jm_305 Q T = R305 Q h 0 T) (t78 : T.1 621 78 = 5) (t75 : T.1 621 75 = (n : Int)) (t76 : T.1 621 76 = 0) (hm : 15163 * (2 * (1000 - n) + cW T (h + 1)) ≤ j) : ∃ S1, jm_132 Q ((6 * h : Nat) : Int) (S.1 283 (6 * h + 2)) (S.1 283 (6 * h + 3)) (ev_pI X 281 2 (S.1 283 (6 * h + 1))) = some ((), S1) ∧ GZ Q x0 (j + 1) (1100 * j + 41) 1 S1 T := by
  have hX0 := hX
  obtain ⟨hA, hV, _, hC7, hQ⟩ := hX
  have kds := (pair_kd hpa).1
  obtain ⟨⟨o1, o2, o3, o4⟩, o5⟩ := hpa
  rcases o5 with ⟨z, _⟩ | ⟨ks, x, ng, p1, ⟨p2, p3, p4⟩, p5, p6, p7, p8, p9, p10, ⟨z1, z2, z3⟩ | ⟨z, _⟩⟩
  · rcases z with z | z
    · have := z.1
      omega
    · have := z.1
      omega
  · have cZ : CB (ev_pI X 281 2 (S.1 283 (6 * h + 1))) h n (x0 : Int) := ⟨cX.1, cX.2.1, cX.2.2.1, cX.2.2.2⟩
    have xi : ∀ i, (ev_pI X 281 2 (S.1 283 (6 * h + 1))).1 283 i = S.1 283 i := fun i => by
      rw [rd_nk (by decide)]
      exact (aX 0 (i + 1)).2.1 i (by omega)
    obtain ⟨S1, s1, s2, s3⟩ := k_rst (Q := Q) (a := S.1 283 (6 * h + 2)) (f := S.1 283 (6 * h + 3)) (g := S.1 283 (6 * h + 4)) cZ rd_eq hh (xi _) (by rw [xi]; exact o1)
    have a1 : ∀ v h2, AC v h2 S S1 := fun v h2 => AC_tr (AC_i (aX v h2)) (s2 v h2) (Nat.le_refl _) (Nat.le_refl _)
    rw [z2] at s3
    have t15 : T.1 687 h ≤ 5 ∧ (T.1 687 h = 0 ∨ T.1 687 h = 1 ∨ T.1 687 h = 2) := by
      rcases z3 with y | y | y
      · rw [y.1]
        decide
      · rw [y.1]
        decide
      · rw [y.1]
        decide
    have h305' := h305 t15.1
    have hch : ∀ {T1 : ev_St} (f t : Int), (∀ v h2 l2, AR v h2 l2 T T1) → CH k p φ ψ U S T u v g h ks f t → CH k p φ ψ U S1 T1 u v g h ks f t := fun {T1} f t q1 q2 => CH_m (Nat.le_refl _) (Nat.le_refl _) (Nat.le_refl _) ks h h _ _ (a1 u h) (q1 v h g) (Nat.le_refl _) q2
    have hgl : ∀ {T1 : ev_St}, (∀ v h2 l2, AR v h2 l2 T T1) → ∃ ng, ng ≤ g ∧ GL S1 T1 u g ng (S.1 283 (6 * h + 4)) (T.1 691 h) := fun {T1} q1 => ⟨ng, p9, GL_m (a1 u h) (q1 v h g) (Nat.le_refl _) (Nat.le_refl _) p10⟩
    have hcs : ∀ {T1 : ev_St}, (∀ v h2 l2, AR v h2 l2 T T1) → CPS k p N φ ψ own up lo U len x0 C V S1 T1 n h u v g := fun {T1} q1 => CPS_m (Nat.le_refl n) h u v g u v g (a1 u h) (q1 v h g) (Nat.le_refl _) (Nat.le_refl _) (Nat.le_refl _) hcp
    have cws := cW_s (T := T) (h := h)
    refine ⟨S1, s1, ?_⟩
    rcases z3 with ⟨y1, r, y2, y3, y4, y5, y6, y7, y8, y9⟩ | ⟨y1, y2, y3, y4, y5⟩ | ⟨y1, m, a, y2, y3, y4, y5, y6, y7, y8, ⟨u0, q1, q2, q3, q4, q5, q6⟩, y9, y10⟩
    · -- a row
      obtain ⟨R, r1, r2, r3⟩ := r_ret (Q := Q) (b := h) (vs := v) (ls := g) (n := n) y4 p5 (rfl : T.1 691 h = T.1 691 h) (rfl : T.1 692 h = T.1 692 h) p8 o2 o3 t78 t75 t76 (by omega)
      have bR := BAS_m hB (a1 0 0) (r2 0 0 0)
      have hcn : COR k p N φ ψ own up lo U w len x0 C V S1 R ks x n u h v g := cor_mk bR s3 r3 ⟨p6, hn, o4, p2, p3, p4, p7⟩ p1 (hch _ _ r2 y7) (hgl r2) (hcs r2)
      obtain ⟨T1, g1, g2⟩ := row_go (j := j) hX0 ih hcn (by rw [s3.1.1]; exact y5) y2 y3 y6 y8 y9 (by
        rw [cW_c (r2 0 h 0) h (Nat.le_refl h)]
        have := cws.2.1
        omega)
      refine GZ_le (GZ_r g2 fun q => rt_5 t76 t78 (by rw [h305']; exact (r_305 (Q := Q) (al := 0) hA (by omega) r1 bR y2 r3.1.2.1).1 y1 T1 g1)) (Nat.le_refl _) (by omega)
    · -- behind a greedy repeat
      obtain ⟨R, r1, r2, r3⟩ := r_ret (Q := Q) (b := h) (vs := v) (ls := g) (n := n) (rfl : T.1 688 h = T.1 688 h) p5 (rfl : T.1 691 h = T.1 691 h) (rfl : T.1 692 h = T.1 692 h) p8 o2 o3 t78 t75 t76 (by omega)
      have b1 : ∀ v h2 l2, AR v h2 l2 T (ev_pI R 621 78 4) := fun v h2 l2 => AR_i (r2 v h2 l2) (by omega)
      have hcn : COR k p N φ ψ own up lo U w len x0 C V S1 (ev_pI R 621 78 4) ks x n u h v g := cor_mk (BAS_m hB (a1 0 0) (b1 0 0 0)) s3 (TN_78 r3) ⟨p6, hn, o4, p2, p3, p4, p7⟩ p1 (hch _ _ b1 y3) (hgl b1) (hcs b1)
      have go := ih.1 S1 (ev_pI R 621 78 4) ks x n u h v g ⟨hcn, by rw [s3.1.1]; exact y2, rd_eq, y4, y5⟩ (by
        refine Nat.le_trans (mu_b p2) ?_
        rw [cW_c (b1 0 h 0) h (Nat.le_refl h)]
        have := cws.2.2.2 (by omega)
        omega)
      refine GZ_le (GZ_r go fun q => rt_5 t76 t78 (by rw [h305']; exact (r_305b (nd := 0) (by omega) r1).1 y1)) (Nat.le_succ _) (by omega)
    · -- a reluctant repeat
      obtain ⟨R, r1, r2, r3⟩ := r_ret (Q := Q) (b := h) (vs := v) (ls := g) (n := n) y4 p5 (rfl : T.1 691 h = T.1 691 h) (rfl : T.1 692 h = T.1 692 h) p8 o2 o3 t78 t75 t76 (by omega)
      have bR := BAS_m hB (a1 0 0) (r2 0 0 0)
      have sc : ∀ i, S1.1 282 i = S.1 282 i := fun i => (a1 (i + 1) 0).1 i (by omega)
      rw [y7, q1] at s3
      obtain ⟨T1, g1, g2⟩ := rnd_go (j := j) (m := m) (r := a) (ks := ks) hX0 ih bR s3 r3 ⟨p6, hn, o4, p2, p3, p4, p7⟩ p1 (by rw [sc]; exact hch _ _ r2 q6) q2 (by rw [sc]; exact q3) (by rw [sc]; exact q4) (by rw [sc]; exact q5) (hgl r2) (hcs r2) y2 (by omega) y8 y6 y9 y10 (by
        rw [cW_c (r2 0 h 0) h (Nat.le_refl h)]
        have := cws.2.1
        omega)
      refine GZ_le (GZ_r g2 fun q => rt_5 t76 t78 (by rw [h305']; exact (r_305 (Q := Q) (al := 0) hA (by omega) r1 bR y2 r3.1.2.1).2.1 y1 T1 (by rw [y5]; exact g1))) (Nat.le_refl _) (by omega)
  · omega
theorem w3_of {W : Nat} (h1 : n < 1000) (h2 : 15163 * (2 * (1000 - n) + W) ≤ j) : 15163 * (2 * (1000 - (n + 1)) + W) + 15162 ≤ j := by omega
theorem w4_of {b c d : Nat} (h1 : c ≤ b) (h2 : u + 4 * (b + d) ≤ 76 * n + 72) : u + 4 * (c + d) ≤ 76 * (n + 1) + 72 := by omega
theorem w5_of {z c : Int} (h1 : 2 * (v : Int) + 2 + z ≤ 299 * (n : Int) + c) : 2 * ((v + 1 : Nat) : Int) + z ≤ 299 * ((n + 1 : Nat) : Int) + c := by omega
theorem w6_of (h1 : h + r ≤ n) : h + 1 + (r + 0) ≤ n + 1 := by omega
/-- a look behind is begun one place further ahead -/
theorem bk_beh (hX : FIX Q k p N M φ ψ own up lo U w len C V) (ih : ALL Q k p N φ ψ own up lo U w len x0 C V j) (hB : BAS k p U w len S T) (hpa : PAIR k p N φ ψ own up lo U len x0 C V S T h u v g n) (hcp : CPS k p N φ ψ own up lo U len x0 C V S T n h u v g) (hk : S.1 283 (6 * h) = 1) (hk5 : T.1 687 h = 5) (hy : T.1 689 h = (y : Int)) (hy0 : 0 < y) (hh : h + 1 ≤ 1001) (hn : n ≤ 1000) (cX : CB X h n (x0 : Int)) (aX : ∀ v h2, AC v h2 S X) (h305 : jm_305 Q T = R305 Q h 0 T) (t78 : T.1 621 78 = 5) (t75 : T.1 621 75 = (n : Int)) (t76 : T.1 621 76 = 0) (hm : 15163 * (2 * (1000 - n) + cW T (h + 1)) ≤ j) : ∃ S1 T1, jm_133 Q ((6 * h : Nat) : Int) X = some (1, S1) ∧ jm_305 Q T = some (-1, T1) ∧ ((S1.1 281 10 = 0 ∧ GZ Q x0 j (1100 * j + 40) 1 S1 T1) ∨ (S1.1 281 10 ≠ 0 ∧ T1.1 621 76 ≠ 0)) := by
  have hX0 := hX
  obtain ⟨hA, hV, _, hC7, hQ⟩ := hX
  obtain ⟨⟨o1, o2, o3, o4⟩, o5⟩ := hpa
  rcases o5 with ⟨z, _⟩ | ⟨ks, x, ng, p1, ⟨p2, p3, p4⟩, p5, p6, p7, p8, p9, p10, ⟨z1, z2, z3⟩ | ⟨_, m, bn, mN, q1, q2, q3, ⟨u0, q4, q5, q6, q7, q8, q9⟩, q10, q11, q12, q13, q14⟩⟩
  · rcases z with z | z
    · have := z.1
      omega
    · have := z.1
      omega
  · omega
  · obtain ⟨y1, y2, y3, y4⟩ : bn = φ m ∧ U.1 625 (320 * p + m) = 12 ∧ S.1 283 (6 * h + 2) = (y : Int) ∧ y ≤ x := by
      rcases q10 with z | z | ⟨_, z1, z2, y', z3, z4, z5⟩
      · have := z.1
        omega
      · have := z.1
        omega
      · have : y' = y := by omega
        subst this
        exact ⟨z1, z2, z3, z5⟩
    have xl : x ≤ 160 := by
      have := hX0.2.2.1.2.2.2.2.1
      omega
    obtain ⟨l1, l2, l3, l4, l5, l6, l7⟩ := pl_of (b := bn) hA mN (Or.inl ⟨y1, by omega, by omega⟩)
    have kd := l4 y1
    obtain ⟨kd2, hkd2, hk2⟩ : ∃ kd2 : Nat, U.1 (k + 1) bn = (kd2 : Int) ∧ 22 ≤ kd2 := by
      rw [kd]
      by_cases e : U.1 629 (320 * p + m) = 0
      · exact ⟨22, by rw [kcl_v.2.2.2.2.2.2.1 y2, if_pos e]; rfl, Nat.le_refl _⟩
      · exact ⟨23, by rw [kcl_v.2.2.2.2.2.2.1 y2, if_neg e]; rfl, by omega⟩
    have xi : ∀ i, X.1 283 i = S.1 283 i := fun i => (aX 0 (i + 1)).2.1 i (by omega)
    have bX := BAS_m hB (aX 0 0) (AR_r (T := T) (vs := 0) (h := 0) (ls := 0))
    obtain ⟨w1, w2⟩ := (w_133 (Q := Q) (kd := kd2) (y := y) (u := u) (f := S.1 283 (6 * h + 3)) (g := S.1 283 (6 * h + 4)) (by omega) hA bX cX (by omega) l1 (by rw [xi]; exact q2) hkd2 (fun _ => by rw [xi]; exact y3) (xi _) (xi _) (by rw [xi]; exact o1)).2 hk2 hy0
    obtain ⟨R, r1, r2, r3⟩ := r_ret (Q := Q) (b := h) (vs := v) (ls := g) (n := n) q1 p5 (rfl : T.1 691 h = T.1 691 h) (rfl : T.1 692 h = T.1 692 h) p8 o2 o3 t78 t75 t76 (by omega)
    have vlt : 2 * (v : Int) + 2 + V 3 m 0 ((7, m, x, h) :: ks) (y - 1) ≤ 299 * (n : Int) + C := q14 hk5 (y - 1) (by omega)
    have v3 := hV.1 3 m 0 ((7, m, x, h) :: ks) (y - 1)
    obtain ⟨T1, g1, g2, g3, g4, g5⟩ := t_297 (Q := Q) (a := ((320 * p + m : Nat) : Int)) (y := y - 1) r3 hn (by omega) (by omega) ⟨p2, p3⟩
    have e305 := (r_305b (Q := Q) (al := 0) (nd := ((320 * p + m : Nat) : Int)) (by omega) r1).2.2 y hk5 hy ⟨hy0, by omega⟩ rfl r3.1.2.1 T1 (x : Int) g1 g3.2.2.1 r3.1.2.2.1
    rw [← h305] at e305
    by_cases hn2 : n < 1000
    · obtain ⟨S1, s1, s2, s3, s4, s5⟩ := w1 hn2
      refine ⟨S1, _, s1, e305, Or.inl ⟨s3.2.2.2.1, ?_⟩⟩
      rw [show flg n = 0 from if_pos hn2] at g3
      rw [q4] at s3
      have a1 : ∀ v, AC v h S S1 := fun v => AC_tr (aX v h) (s2 v) (Nat.le_refl _) (Nat.le_refl _)
      have si : ∀ i, i ≠ 6 * h + 2 → S1.1 283 i = S.1 283 i := fun i hi => by rw [s5 i hi, xi]
      have sc : ∀ i, S1.1 282 i = S.1 282 i := fun i => (a1 (i + 1)).1 i (by omega)
      obtain ⟨T2, hT2⟩ : ∃ T2, T2 = ev_pI T1 690 h (x : Int) := ⟨_, rfl⟩
      rw [← hT2]
      have t2T : AR v h g T T2 := by
        rw [hT2]
        exact AR_w (AR_tr (r2 v h g) g2 (Nat.le_refl _) (Nat.le_refl _) (Nat.le_refl _)) (Or.inr (Or.inl ⟨by decide, by decide, Nat.le_refl h⟩))
      have tn2 : TN T2 3 ((320 * p + m : Nat) : Int) ((y - 1 : Nat) : Int) (T.1 691 h) (v : Int) ((dOf ks + 64 * (lOf ks + 1) : Nat) : Int) (v + 1) (h + 1) g (n + 1) 0 := by
        rw [hT2]
        exact g3
      have rf2 : RFR T2 v 7 ((320 * p + m : Nat) : Int) (h : Int) (-1) (T.1 692 h) ((dOf ks + 64 * lOf ks : Nat) : Int) := by
        rw [hT2]
        exact RFR_c g5 (AR_w (AR_r (vs := v + 1) (h := h) (ls := g)) (Or.inr (Or.inl ⟨by decide, by decide, Nat.le_refl h⟩))) (Nat.lt_succ_self v)
      have tc : ∀ c, c ≠ 690 → T2.1 c h = T1.1 c h := fun c hc => by rw [hT2, rd_nk hc]
      have t690 : T2.1 690 h = (x : Int) := by rw [hT2, rd_eq]
      have hch : CH k p φ ψ U S1 T2 u (v + 1) g h ks (S1.1 282 u0) (T.1 692 h) := by
        rw [sc]
        exact CH_m (Nat.le_refl _) (Nat.le_succ v) (Nat.le_refl _) ks h h _ _ (a1 u) t2T (Nat.le_refl _) q9
      have hch2 : CH k p φ ψ U S1 T2 u v g h ks (S1.1 282 u0) (T.1 692 h) := by
        rw [sc]
        exact CH_m (Nat.le_refl _) (Nat.le_refl v) (Nat.le_refl _) ks h h _ _ (a1 u) t2T (Nat.le_refl _) q9
      have hgl : GL S1 T2 u g ng (S.1 283 (6 * h + 4)) (T.1 691 h) := GL_m (a1 u) t2T (Nat.le_refl _) (Nat.le_refl _) p10
      have ch : CH k p φ ψ U S1 T2 u (v + 1) g (h + 1) ((7, m, x, h) :: ks) (u0 : Int) (v : Int) := Or.inr ⟨v, rfl, Nat.lt_succ_self v, rf2.2.2.2.2.2, Or.inr ⟨u0, rfl, q5, by rw [sc]; exact q6, Or.inr (Or.inr (Or.inr ⟨Or.inr (Or.inr (Or.inl rfl)), rf2.1, rf2.2.1, rf2.2.2.1, by rw [sc]; exact q7, by rw [sc]; exact q8, Nat.lt_succ_self h, t690, by rw [tc 687 (by decide), g4.1]; decide, by rw [tc 687 (by decide), g4.1]; decide⟩)), by rw [rf2.2.2.2.2.1]; exact hch⟩⟩
      have pcm : pcL p N φ lo U (pE lo m + 1) ≤ pcL p N φ lo U (pE lo m) := pcL_mono (Nat.le_succ _)
      have pa2 : PAIR k p N φ ψ own up lo U len x0 C V S1 T2 h u v g (n + 1) := ⟨⟨by rw [si _ (by omega)]; exact o1, by rw [tc 694 (by decide)]; exact g4.2.2.2.2.2.2.2.1, by rw [tc 695 (by decide)]; exact g4.2.2.2.2.2.2.2.2, o4⟩, Or.inr ⟨ks, x, ng, WFL_n (Nat.le_succ n) ks p1, ⟨p2, p3, Nat.le_succ_of_le p4⟩, t690, p6, p7, by rw [tc 693 (by decide)]; exact g4.2.2.2.2.2.2.1, p9, by rw [si _ (by omega), tc 691 (by decide), g4.2.2.2.2.1]; exact hgl, Or.inr ⟨by rw [si _ (by omega)]; exact hk, m, bn, mN, by rw [tc 688 (by decide)]; exact g4.2.1, by rw [si _ (by omega)]; exact q2, q3, ⟨u0, by rw [si _ (by omega)]; exact q4, q5, by rw [sc]; exact q6, by rw [sc]; exact q7, by rw [sc]; exact q8, by rw [tc 692 (by decide), g4.2.2.2.2.2.1]; exact hch2⟩, Or.inr (Or.inr ⟨by rw [tc 687 (by decide)]; exact g4.1, y1, y2, y - 1, s4, by rw [tc 689 (by decide)]; exact g4.2.2.1, by omega⟩), q11, by omega, fun z => by have := q13 (by rw [hk5]; decide); omega, fun z y' hy' => by have := q14 hk5 y' hy'; omega⟩⟩⟩
      have ez : zsOf k p N φ ψ own lo U ((7, m, x, h) :: ks) = zsOf k p N φ ψ own lo U ks := rfl
      have hcn : COR k p N φ ψ own up lo U w len x0 C V S1 T2 ((7, m, x, h) :: ks) (y - 1) (n + 1) u (h + 1) (v + 1) g := cor_mk (BAS_m hB (a1 0) (AR_le t2T (Nat.zero_le _) (Nat.le_refl h) (Nat.zero_le _))) s3 tn2 ⟨by omega, hn2, o4, p2, q11, w6_of p4, p7⟩ ⟨⟨mN, Or.inr (Or.inr (Or.inr (Or.inr (Or.inr (Or.inr (Or.inl ⟨rfl, y2, by rw [q3, y1], p6⟩))))))⟩, WFL_n (Nat.le_succ n) ks p1⟩ ch ⟨ng, p9, hgl⟩ ⟨u, v, g, Nat.le_refl _, Nat.le_succ _, Nat.le_refl _, pa2, CPS_m (Nat.le_succ n) h u v g u v g (a1 u) t2T (Nat.le_refl _) (Nat.le_refl _) (Nat.le_refl _) hcp⟩
      have cw1 : cW T2 (h + 1) = cW T (h + 1) := by
        rw [(cW_s (T := T2) (h := h)).2.2.2 (by rw [tc 687 (by decide), g4.1]; decide), (cW_s (T := T) (h := h)).2.2.2 (by rw [hk5]; decide), cW_c t2T h (Nat.le_refl h)]
      have w3 : 15163 * (2 * (1000 - (n + 1)) + cW T (h + 1)) + 15162 ≤ j := w3_of hn2 hm
      have w4 : u + 4 * (pcL p N φ lo U (pE lo m + 1) + zsOf k p N φ ψ own lo U ks) ≤ 76 * (n + 1) + 72 := w4_of pcm q12
      have w5 : 2 * ((v + 1 : Nat) : Int) + V 3 m 0 ((7, m, x, h) :: ks) (y - 1) ≤ 299 * ((n + 1 : Nat) : Int) + C := w5_of vlt
      exact ih.2.2.2.1 m S1 T2 ((7, m, x, h) :: ks) (y - 1) (n + 1) u (h + 1) (v + 1) g ⟨⟨hcn, by rw [s3.1.1, y1], tn2.1.1, by rw [ez]; exact w4, w5⟩, tn2.1.2.1, mN, by omega, rfl⟩ (by
        rw [cw1]
        exact Nat.le_trans (mu_b p2) w3)
    · obtain ⟨S1, s1, s2⟩ := w2 (by omega)
      refine ⟨S1, _, s1, e305, Or.inr ⟨by rw [s2]; decide, ?_⟩⟩
      rw [rd_nk (by decide), g3.2.2.2.2.2, show flg n = 1 from if_neg hn2]
      decide
end OQB
