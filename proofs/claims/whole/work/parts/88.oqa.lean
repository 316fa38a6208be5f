/-! SEARCH: falling back, side by side: each kind of choice -/
section OQA
variable {Q k p N M m n n2 h h2 us us2 vs vs2 ls ls2 w len x0 x y u v g a b r j t uu i : Nat} {C : Int} {φ ψ own up lo : Nat → Nat} {S S1 S2 T T1 T2 U X Y : ev_St} {V : Nat → Nat → Nat → List KT → Nat → Int} {ks : List KT} {κ : KT} {c f td nd had th dp kd cd fr vv a1 a2 hh al x17 x18 gg : Int}
theorem cps_at : ∀ h us vs ls : Nat, CPS k p N φ ψ own up lo U len x0 C V S T n h us vs ls → ∀ b, b < h → ∃ u v g, u ≤ us ∧ v ≤ vs ∧ g ≤ ls ∧ PAIR k p N φ ψ own up lo U len x0 C V S T b u v g n ∧ CPS k p N φ ψ own up lo U len x0 C V S T n b u v g := fun h => by
  induction h with
  | zero => exact fun _ _ _ _ b hb => absurd hb (Nat.not_lt_zero b)
  | succ h ih =>
    rintro us vs ls ⟨u, v, g, h1, h2, h3, h4, h5⟩ b hb
    by_cases z : b = h
    · rw [z]
      exact ⟨u, v, g, h1, h2, h3, h4, h5⟩
    · obtain ⟨u2, v2, g2, q1, q2, q3, q4, q5⟩ := ih u v g h5 b (by omega)
      exact ⟨u2, v2, g2, by omega, by omega, by omega, q4, q5⟩
/-- kinds of choices on both sides -/
theorem pair_kd (q : PAIR k p N φ ψ own up lo U len x0 C V S T b u v g n) : (S.1 283 (6 * b) = 1 ↔ 3 ≤ T.1 687 b ∧ T.1 687 b ≤ 5) ∧ (S.1 283 (6 * b) = 2 ∨ S.1 283 (6 * b) = 3 ↔ 5 < T.1 687 b) ∧ (S.1 283 (6 * b) = 0 ∨ S.1 283 (6 * b) = 1 ∨ S.1 283 (6 * b) = 2 ∨ S.1 283 (6 * b) = 3) := by
  rcases q.2 with ⟨y, _⟩ | ⟨ks, x, ng, _, _, _, _, _, _, _, _, ⟨y1, _, y2⟩ | ⟨y1, y2⟩⟩
  · rcases y with y | y
    · rw [y.1, y.2]
      decide
    · rw [y.1, y.2]
      decide
  · rw [y1]
    rcases y2 with z | z | z
    · rw [z.1]
      decide
    · rw [z.1]
      decide
    · rw [z.1]
      decide
  · rw [y1]
    obtain ⟨m, b2, _, _, _, _, _, z, _⟩ := y2
    rcases z with z | z | z
    · rw [z.1]
      decide
    · rw [z.1]
      decide
    · rw [z.1]
      decide
theorem pl_of (hA : STA k p N M φ ψ own up lo U) (mN : m < N) (hk : (b = φ m ∧ 10 ≤ U.1 625 (320 * p + m) ∧ U.1 625 (320 * p + m) ≤ 12) ∨ (b = ψ m ∧ U.1 630 (320 * p + m) = 2)) : b < M ∧ pE lo m < posC own lo N (U.1 (k + 7) b) ∧ posC own lo N (U.1 (k + 7) b) < 720 ∧ (b = φ m → U.1 (k + 1) b = kcl (U.1 625 (320 * p + m)) (U.1 629 (320 * p + m))) ∧ (b = ψ m → b ≠ φ m → U.1 (k + 1) b = 19) ∧ m ≠ 0 ∧ U.1 625 (320 * p + m) ≠ 18 := by
  have hn := sa_num hA
  have nd := sa_node hA mN
  have m0 : m ≠ 0 := fun z => by
    have e1 := hn.2.2.2.1
    have e2 := hn.2.2.2.2.2.1
    rw [z, Nat.add_zero] at hk
    omega
  have h18 : U.1 625 (320 * p + m) ≠ 18 := fun z => by
    have := (sa_row hA mN z).2.2.1
    omega
  rcases hk with ⟨rfl, k1, k2⟩ | ⟨rfl, k1⟩
  · obtain ⟨q1, q2, q3, q4⟩ := pos_af hA mN m0 h18
    exact ⟨nd.1.1, q1, q3, fun _ => nd.2.2.1 m0, fun _ z => absurd rfl z, m0, h18⟩
  · have aft := (sa_after hA mN m0 h18).1
    obtain ⟨q1, q2, q3, q4⟩ := pos_nx hA mN m0 h18
    rw [← aft] at q1 q3
    rcases sa_rep hA mN with y | ⟨y, _⟩
    · have := y.1
      omega
    · have y2 := y.resolve_left (fun z => by have := z.1; omega)
      refine ⟨nd.1.2.1, q1, q3, fun z => ?_, fun _ _ => y2.2.2.2.1, m0, h18⟩
      have := y2.2.1
      have := y2.2.2.1
      omega
/-- a look, an atomic part that has no way -/
theorem wall_b (hX : FIX Q k p N M φ ψ own up lo U w len C V) (hB : BAS k p U w len S T) (hpa : PAIR k p N φ ψ own up lo U len x0 C V S T b u v g n) (hcb : CPS k p N φ ψ own up lo U len x0 C V S T n b u v g) (hw : S.1 283 (6 * b) = 1) (hb : b + 1 ≤ 1002) (hn : n ≤ 1000) (aY : ∀ v h2, AC v h2 S Y) (cY : CB Y b n (x0 : Int)) (y7 : Y.1 281 7 = (uu : Int)) (hu : u ≤ uu ∧ uu ≤ 76072) (h305 : jm_305 Q T = R305 Q b al T) (hal : T.1 687 b = 5 → T.1 689 b ≤ 0 ∨ al ≠ 0) (t78 : T.1 621 78 = 5) (t75 : T.1 621 75 = (n : Int)) (t76 : T.1 621 76 = 0) : (∃ T1, jm_134 Q ((6 * b : Nat) : Int) Y = some (0, Y) ∧ jm_305 Q T = some (-1, T1) ∧ COB k p N φ ψ own up lo U w len x0 C V Y T1 n u b v g ∧ T1.1 621 78 = 5 ∧ ∀ v h2 l2, AR v h2 l2 T T1) ∨ ∃ S1 T1 ks x, jm_134 Q ((6 * b : Nat) : Int) Y = some (1, S1) ∧ S1.1 281 10 = 0 ∧ jm_305 Q T = some (-1, T1) ∧ PRs k p N φ ψ own up lo U w len x0 C V S1 T1 ks x n u b v g ∧ ∀ v h2 l2, AR v h2 l2 T T1 := by
  obtain ⟨hA, hV, _, hC7, hQ⟩ := hX
  obtain ⟨⟨o1, o2, o3, o4⟩, o5⟩ := hpa
  rcases o5 with ⟨z, _⟩ | ⟨ks, x, ng, p1, ⟨p2, p3, p4⟩, p5, p6, p7, p8, p9, p10, ⟨z, _⟩ | ⟨_, pw⟩⟩
  · rcases z with z | z
    · have := z.1
      omega
    · have := z.1
      omega
  · omega
  · obtain ⟨m, bn, mN, q1, q2, q3, ⟨u0, q4, q5, q6, q7, q8, q9⟩, q10, q11, q12, q13, q14⟩ := pw
    have kk : (bn = φ m ∧ 10 ≤ U.1 625 (320 * p + m) ∧ U.1 625 (320 * p + m) ≤ 12) ∨ (bn = ψ m ∧ U.1 630 (320 * p + m) = 2) := by
      rcases q10 with ⟨_, z | z⟩ | ⟨_, z1, z2⟩ | ⟨_, z1, z2, _⟩
      · exact Or.inl ⟨z.1, by omega, by omega⟩
      · exact Or.inr z
      · exact Or.inl ⟨z1, by omega, by omega⟩
      · exact Or.inl ⟨z1, by omega, by omega⟩
    obtain ⟨l1, l2, l3, l4, l5, l6, l7⟩ := pl_of hA mN kk
    obtain ⟨R, r1, r2, r3⟩ := r_ret (Q := Q) (b := b) (vs := v) (ls := g) (n := n) q1 p5 (rfl : T.1 691 b = T.1 691 b) (rfl : T.1 692 b = T.1 692 b) p8 o2 o3 t78 t75 t76 (by omega)
    have bR := BAS_m hB (AC_r (us := 0) (h := 0)) (r2 0 0 0)
    have bY := BAS_m hB (aY 0 0) (AR_r (T := T) (vs := 0) (h := 0) (ls := 0))
    have yi : ∀ i, Y.1 283 i = S.1 283 i := fun i => (aY 0 (i + 1)).2.1 i (by omega)
    have yc : ∀ i, Y.1 282 i = S.1 282 i := fun i => (aY (i + 1) 0).1 i (by omega)
    have mdr := (sa_node hA mN).2.2.2.1 l7
    -- the class's kind
    obtain ⟨kd, hkd, hk2⟩ : ∃ kd : Nat, U.1 (k + 1) bn = (kd : Int) ∧ ((T.1 687 b = 3 ∧ kd = 19) ∨ ((T.1 687 b = 4 ∨ T.1 687 b = 5) ∧ ((U.1 629 (320 * p + m) = 0 ∧ (kd = 20 ∨ kd = 22)) ∨ (U.1 629 (320 * p + m) ≠ 0 ∧ (kd = 21 ∨ kd = 23))))) := by
      rcases q10 with ⟨z0, z | z⟩ | ⟨z0, z1, z2⟩ | ⟨z0, z1, z2, _⟩
      · exact ⟨19, by rw [l4 z.1]; exact kcl_v.2.2.2.2.1 z.2, Or.inl ⟨z0, rfl⟩⟩
      · by_cases e : bn = φ m
        · exfalso
          rcases sa_rep hA mN with y | ⟨y, _⟩
          · have := y.1
            omega
          · have y2 := y.resolve_left (fun z => by have := z.1; omega)
            have := y2.2.1
            have := y2.2.2.1
            omega
        · exact ⟨19, l5 z.1 e, Or.inl ⟨z0, rfl⟩⟩
      · by_cases e : U.1 629 (320 * p + m) = 0
        · exact ⟨20, by rw [l4 z1, kcl_v.2.2.2.2.2.1 z2, if_pos e]; rfl, Or.inr ⟨Or.inl z0, Or.inl ⟨e, Or.inl rfl⟩⟩⟩
        · exact ⟨21, by rw [l4 z1, kcl_v.2.2.2.2.2.1 z2, if_neg e]; rfl, Or.inr ⟨Or.inl z0, Or.inr ⟨e, Or.inl rfl⟩⟩⟩
      · by_cases e : U.1 629 (320 * p + m) = 0
        · exact ⟨22, by rw [l4 z1, kcl_v.2.2.2.2.2.2.1 z2, if_pos e]; rfl, Or.inr ⟨Or.inr z0, Or.inl ⟨e, Or.inr rfl⟩⟩⟩
        · exact ⟨23, by rw [l4 z1, kcl_v.2.2.2.2.2.2.1 z2, if_neg e]; rfl, Or.inr ⟨Or.inr z0, Or.inr ⟨e, Or.inr rfl⟩⟩⟩
    obtain ⟨w1, w2⟩ := w_134 (Q := Q) (kd := kd) (g := S.1 283 (6 * b + 4)) hA bY cY hb l1 (by rw [yi]; exact q2) (by rw [yi]; exact q4) hkd y7 (by omega) (yi _) (by rw [yi]; exact o1)
    have cob : ∀ T1, (∀ v h2 l2, AR v h2 l2 T T1) → TN T1 5 ((320 * p + m : Nat) : Int) (x : Int) (T.1 691 b) (T.1 692 b) ((dOf ks + 64 * lOf ks : Nat) : Int) v b g n 0 → COB k p N φ ψ own up lo U w len x0 C V Y T1 n u b v g := fun T1 a1 a2 => by
      obtain ⟨_, d7, d8, d9, d10, d11⟩ := a2
      exact ⟨BAS_m hB (aY 0 0) (a1 0 0 0), cY, ⟨d10, d11, d8⟩, ⟨hn, by omega, uu, y7, hu⟩, CPS_m (Nat.le_refl n) b u v g u v g (aY u b) (a1 v b g) (Nat.le_refl _) (Nat.le_refl _) (Nat.le_refl _) hcb⟩
    rcases hk2 with ⟨z1, z2⟩ | ⟨z1, z2⟩
    · refine Or.inl ⟨ev_pI R 621 78 5, w1 (by omega), by rw [h305]; exact (r_305b (nd := 0) (by omega) r1).2.1 z1, cob _ (fun v h2 l2 => AR_i (r2 v h2 l2) (by omega)) (TN_78 r3), rd_eq, fun v h2 l2 => AR_i (r2 v h2 l2) (by omega)⟩
    · have e305 := (r_305 (Q := Q) (al := al) hA (by omega) r1 bR mN r3.1.2.1).2.2 (by
        rcases z1 with z | z
        · exact Or.inl z
        · exact Or.inr ⟨z, hal z⟩)
      rw [← h305] at e305
      rcases z2 with ⟨z2, z3⟩ | ⟨z2, z3⟩
      · rw [if_pos (by omega)] at e305
        exact Or.inl ⟨_, w1 (by omega), e305, cob _ (fun v h2 l2 => AR_i (r2 v h2 l2) (by omega)) (TN_78 r3), rd_eq, fun v h2 l2 => AR_i (r2 v h2 l2) (by omega)⟩
      · rw [if_neg (by omega)] at e305
        obtain ⟨S1, s1, s2, s3⟩ := w2 z3
        rw [yc, yc, q7] at s3
        have a1 : ∀ v h2, AC v h2 S S1 := fun v h2 => AC_tr (aY v h2) (s2 v h2) (Nat.le_refl _) (Nat.le_refl _)
        have b1 : ∀ v h2 l2, AR v h2 l2 T (ev_pI R 621 78 4) := fun v h2 l2 => AR_i (r2 v h2 l2) (by omega)
        have pm : pcL p N φ lo U (posC own lo N (cOf k p φ ψ U ks)) ≤ pcL p N φ lo U (pE lo m) := pcL_mono (by rw [q3]; omega)
        have hcn : COR k p N φ ψ own up lo U w len x0 C V S1 (ev_pI R 621 78 4) ks x n u b v g := cor_mk (BAS_m hB (a1 0 0) (b1 0 0 0)) s3 (TN_78 r3) ⟨p6, hn, o4, p2, p3, p4, p7⟩ p1 (CH_m (Nat.le_refl _) (Nat.le_refl _) (Nat.le_refl _) ks b b _ _ (a1 u b) (b1 v b g) (Nat.le_refl _) q9) ⟨ng, p9, GL_m (a1 u b) (b1 v b g) (Nat.le_refl _) (Nat.le_refl _) p10⟩ (CPS_m (Nat.le_refl n) b u v g u v g (a1 u b) (b1 v b g) (Nat.le_refl _) (Nat.le_refl _) (Nat.le_refl _) hcb)
        have v13 := q13 (by omega)
        exact Or.inr ⟨S1, _, ks, x, s1, s3.2.2.2.1, e305, ⟨hcn, by rw [q3]; exact s3.1.1, rd_eq, by omega, v13⟩, b1⟩
end OQA
