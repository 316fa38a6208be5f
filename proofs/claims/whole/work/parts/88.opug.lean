/-! THE READER: "|" on both sides -/
section RBAR
variable {Q k n m w d N M D lv : Nat} {φ ψ own inn G R ws y : Nat → Nat} {P q : Nat → Int} {S T S0 T0 S2 T2 T1 U : ev_St}
theorem kcl_8 {c f : Int} (h : 8 ≤ c ∧ c ≤ 13) : kcl c f = 8 ↔ c = 13 := by
  unfold kcl
  obtain rfl | rfl | rfl | rfl | rfl | rfl : c = 8 ∨ c = 9 ∨ c = 10 ∨ c = 11 ∨ c = 12 ∨ c = 13 := by omega
  all_goals simp
  all_goals (split <;> omega)
theorem clo_row {t : Nat} (hG : ∀ i, i ≤ D → G i < N ∧ R i < N ∧ (∀ j, j ≤ D → G i ≠ R j ∧ (i ≠ j → G i ≠ G j ∧ R i ≠ R j))) : clo (N + 1) D G (nup R D N) t ↔ (clo N D G R t ∨ t = R D) := by
  have hGD := hG D (Nat.le_refl _)
  unfold clo isOp
  constructor
  · rintro ⟨z1, z2⟩
    by_cases e : t = R D
    · exact Or.inr e
    · refine Or.inl ⟨?_, ?_⟩
      · by_cases e2 : t = N
        · exact absurd ⟨D, Nat.le_refl _, Or.inr (by rw [nup_eq]; exact e2)⟩ z2
        · omega
      · rintro ⟨i, hi, z3⟩
        refine z2 ⟨i, hi, ?_⟩
        by_cases e3 : i = D
        · subst e3
          omega
        · rw [nup_ne e3]
          exact z3
  · rintro (⟨z1, z2⟩ | rfl)
    · refine ⟨by omega, ?_⟩
      rintro ⟨i, hi, z3⟩
      by_cases e3 : i = D
      · subst e3
        rw [nup_eq] at z3
        rcases z3 with z3 | z3
        · exact z2 ⟨i, hi, Or.inl z3⟩
        · omega
      · rw [nup_ne e3] at z3
        exact z2 ⟨i, hi, z3⟩
    · refine ⟨by omega, ?_⟩
      rintro ⟨i, hi, z3⟩
      by_cases e3 : i = D
      · subst e3
        rw [nup_eq] at z3
        have := ((hG i hi).2.2 i hi).1
        omega
      · rw [nup_ne e3] at z3
        have a := ((hG i hi).2.2 D (Nat.le_refl _))
        have b := (a.2 e3).2
        have := a.1
        omega
theorem tk_bar {p : Int} (hk : ev_isOb k 5 = true) (hkr : 232 ≤ k) (H : RIy k lv ws N M D φ ψ own inn G R y P q S T) (hp : T.1 645 lv = p) (hc : sp_at S (ws lv) p = 124) : TK0 k lv ws (nx (sp_at S (ws lv)) p) S T (jm_85 Q S) (jm_263 Q T) := by
  obtain ⟨h, hg, hN0, hU⟩ := H
  have htx := h.2.1
  obtain ⟨⟨g1, g2, g3, g4, g5⟩, g6, g7⟩ := hd_85 (Q := Q) (c := 124) htx (by rw [hp]; exact hc) (by decide)
  rw [nx_1 (by rw [hc]; decide)]
  rw [hp] at g3 g4 g7
  have mv : MVd lv (p + 1) S T (ev_pI S 3 8 (p + 1)) (ev_pI T 645 lv (p + 1)) := mv_pI
  have h0 := RIb_mv h hkr mv (by omega)
  obtain ⟨n1, n2, n3, n4, n5, n6⟩ := RIy_n h0
  obtain ⟨b1, b2, b3⟩ := RDR_b h0.1.1
  obtain ⟨m1, m2, m3, m4, m5, m6, m7, m8⟩ := mv
  have redC : jm_85 Q S = ev_bd (jm_101 Q (ev_pI S 3 8 (p + 1))) fun x s => ev_if (ev_bl x) (some (x, s)) := by
    unfold jm_85
    rw [g1, sp_bd, sp_b, g3, sp_ck (by omega), sp_b, if_neg (show ¬ ((124 : Int) = 36) by decide), if_neg (show ¬ ((124 : Int) = 40) by decide), if_neg (show ¬ ((124 : Int) = 41) by decide), if_neg (show ¬ ((124 : Int) = 42) by decide), if_neg (show ¬ ((124 : Int) = 43) by decide), if_neg (show ¬ ((124 : Int) = 46) by decide), if_neg (show ¬ ((124 : Int) = 63) by decide), if_neg (show ¬ ((124 : Int) = 91) by decide), if_neg (show ¬ ((124 : Int) = 92) by decide), if_neg (show ¬ ((124 : Int) = 94) by decide), if_neg (show ¬ ((124 : Int) = 123) by decide), if_pos rfl]
  have redR : jm_263 Q T = ev_bd (jm_241 Q (ev_pI T 645 lv (p + 1))) fun _ s => some ((), s) := by
    unfold jm_263
    rw [g2, sp_bd, sp_jn, if_neg (show ¬ ((124 : Int) = 63) by decide), if_neg (show ¬ ((124 : Int) = 42) by decide), if_neg (show ¬ ((124 : Int) = 43) by decide), if_pos (show ((124 : Int) ≠ 123) by decide), if_pos (show ((124 : Int) ≠ 92) by decide), if_pos (show ((124 : Int) ≠ 91) by decide), if_pos (show ((124 : Int) ≠ 40) by decide), if_pos (show ((124 : Int) ≠ 41) by decide), if_neg (fun z => z rfl), g7 1 (by omega), sp_bd]
  generalize ev_pI S 3 8 (p + 1) = S0 at *
  generalize ev_pI T 645 lv (p + 1) = T0 at *
  obtain ⟨⟨hR, hL⟩, ht, hgg, hcc, hf, hy, h9, h25⟩ := h0
  have hR0 := hR
  obtain ⟨⟨e1, e2, e3, e4, e5⟩, hG, hst, ⟨e6, e7⟩, ho, hn⟩ := hR
  have hGD := hG D (Nat.le_refl _)
  obtain ⟨T2, t1, ⟨⟨r1, r2, r3, r4, r5⟩, ⟨u1, u2, u3, u4⟩, ⟨u5, u6⟩, rf, rL, r8⟩⟩ := sp_241 (Q := Q) (T := T0) (d := D) (g := G D) (r := R D) (m := N) e4 (by omega) (hst D (Nat.le_refl _)).1 hGD.1 e6 hGD.2.1 e1 (by omega) (by omega) h25
  -- both see a third row alike
  have hfl : S0.1 (17 + D) 4 = -1 ∧ T0.1 626 (3840 + G D) = (R D : Int) ∨ 0 ≤ S0.1 (17 + D) 4 ∧ T0.1 626 (3840 + G D) ≠ (R D : Int) := by
    rcases (ho D (Nat.le_refl _)).1 with ⟨z1, z2, z3, z4⟩ | ⟨t, u, z1, z2, z3, z4, z5, z6⟩
    · exact Or.inl ⟨z3, z2⟩
    · refine Or.inr ⟨by omega, ?_⟩
      rw [z5]
      intro z
      exact z3.2 ⟨D, Nat.le_refl _, Or.inr (by omega)⟩
  have hk8 : S0.1 (17 + D) 0 = 8 ↔ T0.1 625 (3840 + G D) = 13 := by
    obtain ⟨_, z6, z7, _⟩ := (ho D (Nat.le_refl _)).2.2
    rw [z7]
    by_cases eD : D = 0
    · rw [if_pos eD]
      have : T0.1 625 (3840 + G D) = 9 := by
        rw [eD, hgg.2.2.2.2.1, m4 _ _ (by omega) (by omega)]
        exact hN0.2.1
      omega
    · rw [if_neg eD]
      exact kcl_8 z6
  have e150 : (150 ≤ T0.1 621 27 → ∃ S', jm_101 Q S0 = some (0, S')) ∧ (T0.1 621 27 < 150 → S0.1 (17 + D) 0 = 8 → 0 ≤ S0.1 (17 + D) 4 → ∃ S', jm_101 Q S0 = some (0, S')) := by
    constructor
    · intro z
      refine ⟨ev_pI S0 3 14 (S0.1 3 14 + 1), ?_⟩
      unfold jm_101
      rw [sp_b, e3, if_neg (by omega), sp_b, if_neg (by omega), sp_87 (by omega), if_pos (by omega), sp_bd, if_neg (fun z => z rfl)]
    · intro z za zb
      refine ⟨ev_pI S0 3 14 (S0.1 3 14 + 1), ?_⟩
      unfold jm_101
      rw [sp_b, e3, if_neg (by omega), sp_b, if_neg (by omega), sp_87 (by omega), if_neg (by omega), sp_bd, if_pos (by decide), rd_nf (by omega), e3, sp_b, sp_if (by omega), sp_b, show 17 + 1 * ((D : Int)).toNat = 17 + D from by omega, rd_nk (by omega), za, sp_b, sp_jn, if_neg (fun z => z rfl), rd_nk (by omega), sp_b, if_neg (by omega)]
  by_cases bad : 150 ≤ T0.1 621 27 ∨ (S0.1 (17 + D) 0 = 8 ∧ 0 ≤ S0.1 (17 + D) 4)
  · have cl : ∃ S', jm_101 Q S0 = some (0, S') := by
      by_cases z : 150 ≤ T0.1 621 27
      · exact e150.1 z
      · have za := bad.resolve_left z
        exact e150.2 (by omega) za.1 za.2
    obtain ⟨S', hS'⟩ := cl
    refine Or.inl ⟨S', T2, by rw [redC, hS', sp_bd, sp_if (Or.inl rfl)], by rw [redR, t1, sp_bd], ?_⟩
    rw [u6, if_neg]
    rintro ⟨z1, z2⟩
    rcases bad with z | ⟨z3, z4⟩
    · omega
    · rw [if_pos ⟨hk8.mp z3, by omega⟩] at z1
      exact absurd z1 (by decide)
  · have lt : T0.1 621 27 < 150 := by omega
    have n8 : S0.1 (17 + D) 0 = 8 → S0.1 (17 + D) 4 = -1 := by omega
    have lq : -1 ≤ S0.1 (17 + D) 5 ∧ S0.1 (17 + D) 5 < M := by
      rcases (ho D (Nat.le_refl _)).1 with ⟨z1, z2, z3, z4⟩ | ⟨t, u, z1, ⟨z2, _, _, z3⟩, _⟩
      · omega
      · have := (hn t z2).1.1
        omega
    have v1 : ∀ x g, ¬ (x = 3 ∧ g = 14) → (ev_pI S0 3 14 (S0.1 3 14 + 1)).1 x g = S0.1 x g := fun x g hx => by rw [sp_pI1, if_neg hx]
    have v14 : (ev_pI S0 3 14 (S0.1 3 14 + 1)).1 3 14 = S0.1 3 14 + 1 := rd_eq
    have v2 : (ev_pI S0 3 14 (S0.1 3 14 + 1)).2 = S0.2 := rfl
    obtain ⟨S', s1, s2⟩ := sp_99 (Q := Q) (M := M) (o := 17 + D) (S := ev_pI S0 3 14 (S0.1 3 14 + 1)) hk hkr (by omega) (by rw [v2]; exact h9) (by rw [v1 _ _ (by omega)]; exact e2) n1 (by rw [v1 _ _ (by omega)]; exact lq)
    have run : jm_101 Q S0 = some (1, S') := by
      unfold jm_101
      rw [sp_b, e3, if_neg (by omega), sp_b, if_neg (by omega), sp_87 (by omega), if_neg (by omega), sp_bd, if_pos (by decide), v1 _ _ (by omega), e3, sp_b, sp_if (by omega), sp_b, show 17 + 1 * ((D : Int)).toNat = 17 + D from by omega, v1 _ _ (by omega), sp_b, sp_jn]
      by_cases z : S0.1 (17 + D) 0 = 8
      · rw [if_neg (fun y => y z), v1 _ _ (by omega), sp_b, if_pos (by have := n8 z; omega)]
        try dsimp only
        rw [s1, sp_bd, sp_if (Or.inr rfl)]
      · rw [if_pos z]
        try dsimp only
        rw [s1, sp_bd, sp_if (Or.inr rfl)]
    unfold ERc at s2
    rw [v1 (17 + D) 5 (by omega), v1 (17 + D) 6 (by omega), v2] at s2
    obtain ⟨⟨s3, s4, s5, s6⟩, ⟨s7, s8, s9, s10⟩, s11, s12, s13, s14⟩ := s2
    have rk := rk_i k (17 + D) (S0.1 (17 + D) 5)
    have sf : ∀ x g, ¬ (x = 3 ∧ (g = 13 ∨ g = 14)) → ¬ (x = k ∧ g = 11) → ¬ (k + 1 ≤ x ∧ x ≤ k + 7 ∧ g = M) → ¬ (x = 17 + D ∧ 5 ≤ g ∧ g ≤ 8) → ¬ (x = rkc k (17 + D) (S0.1 (17 + D) 5) ∧ g = rkp (S0.1 (17 + D) 5)) → S'.1 x g = S0.1 x g := fun x g h1 h2 h3 h4 h5 => by
      rw [s13 x g (by omega) h2 h3 h4 h5, v1 x g (by omega)]
    have h25' : T2.1 621 25 = 0 := by
      rw [u6, if_pos]
      refine ⟨if_neg ?_, lt⟩
      rintro ⟨z1, z2⟩
      have := hk8.mpr z1
      have := n8 this
      omega
    have cls := fun t => clo_row (t := t) hG
    have hR2 : RDR k (N + 1) (M + 1) D (nup φ (R D) M) (nup ψ (R D) M) (nup own M (R D)) G (nup R D N) (iup P D (-1)) (iup q D (R D : Int)) S' T2 := by
      refine RDR_row hR0 hkr hL.1 hL.2.1 (fun t ht h18 => hL.2.2 t ht.1 h18) ⟨s3, by rw [sf _ _ (by omega) (by omega) (by omega) (by omega) (by omega)]⟩ ⟨s4, s5, s6⟩ ⟨s7, s8, s9⟩ ⟨fun z => ?_, fun b hb => ⟨?_, ?_⟩⟩ (fun i hi => funext fun g => sf _ _ (by omega) (by omega) (by omega) (by omega) (by omega)) (fun g hg => sf _ _ (by omega) (by omega) (by omega) (by omega) (by omega)) (fun j b h1 h2 h3 h4 => sf _ _ (by omega) (by omega) (by omega) (by omega) (by omega)) (by rw [s14]) ⟨r1, rf _ _ (by omega) (by omega) (by omega) (by omega), r2, r3⟩ r5 ⟨u1, u2, u3, u4⟩ (fun c m h1 h2 h3 h4 => rf _ _ (by omega) (by omega) (by omega) (by omega)) (fun c h1 h2 => funext fun g => rf _ _ (by omega) (by omega) (by omega) (by omega)) (fun c m h1 h2 h3 => rL _ _ (by omega))
      · rcases rk with ⟨y1, y2, y3⟩ | ⟨y1, y2, y3⟩
        · rw [y2, y3] at s12
          exact s12
        · exact absurd z y1
      · exact sf _ _ (by omega) (by omega) (by omega) (by omega) (by omega)
      · rcases rk with ⟨y1, y2, y3⟩ | ⟨y1, y2, y3⟩
        · omega
        · rw [y2, y3, hb, Int.toNat_natCast] at s12
          exact s12
    refine Or.inr ⟨S', T2, by rw [redC, run, sp_bd, sp_if (Or.inr rfl)], by rw [redR, t1, sp_bd], ⟨N + 1, M + 1, D, _, _, _, nup inn N (R D), G, nup R D N, iup P D (-1), _, y, ⟨⟨hR2, LKS_1 hL hGD.2.1 (Or.inr rfl) r5 ⟨u2, u3, fun _ => u4⟩ (fun c m h1 h2 h3 => rf _ _ (by omega) (by omega) (by omega) (by omega))⟩, RIt_pos ht (fun x g z => sf x g (by unfold KTs at z; omega) (by unfold KTs at z; omega) (by unfold KTs at z; omega) (by unfold KTs at z; omega) (by unfold KTs at z; omega)) (fun x g _ => by rw [s14]) (fun x g z => rf x g (by unfold KTt at z; omega) (by unfold KTt at z; omega) (by unfold KTt at z; omega) (by unfold KTt at z; omega)) (fun i hi => rf _ _ (by omega) (by omega) (by omega) (by omega)) ?_, ?_, ?_, ?_, Or.inl ⟨s11, r4⟩, by rw [s14]; exact h9, h25'⟩, ?_, ⟨by omega, ?_, fun i hi => by rw [rf _ _ (by omega) (by omega) (by omega) (by omega), m4 _ _ (by omega) (by omega)]; exact hN0.2.2.1 i hi, RV_row hN0.2.2.2 (fun c m a b x y hm => by rw [rf _ _ (by omega) (by omega) (by omega) (by omega), m4 _ _ (by omega) (by omega)]) (fun m c hm hc => by
      by_cases e : c = 627 ∧ m = R D
      · exact Or.inr ⟨by rw [e.1, e.2, r5], Or.inr ⟨e.1, by rw [e.2, u1, ← m4 _ _ (by omega) (by omega), (ho D (Nat.le_refl _)).2.2.1.1]⟩⟩
      · exact Or.inl (by rw [rf _ _ (by omega) (by omega) (by omega) (by omega), m4 _ _ (by omega) (by omega)])) ⟨by rw [rf _ _ (by omega) (by omega) (by omega) (by omega), m4 _ _ (by omega) (by omega)], fun j => by rw [rf _ _ (by omega) (by omega) (by omega) (by omega), m4 _ _ (by omega) (by omega)]⟩ ⟨u1, u4⟩ ⟨u2, u3⟩⟩, ?up⟩, ?_, fun i hi => ?_, fun x g z => ?_, fun x g z => ?_, fun x g z => ?_, ?_, ?_, ?_⟩
    case up =>
      refine UL_row hU h.1.1 h.1.2.1 (fun m c hm hc he => by rw [rf _ _ (by omega) (by omega) (by omega) (by omega), m4 _ _ (by omega) (by omega)]) r5 ⟨u2, u3⟩ (fun b hb => ?_) ?_
      · rw [sf _ _ (by omega) (by omega) (by omega) (by omega) (by omega), m1 _ _ (by omega) (by omega)]
      · rw [s5]
        rcases (ho D (Nat.le_refl _)).2.1 with ⟨_, _, z, _⟩ | ⟨t', u', _, _, ⟨z1, _, _, z⟩, _⟩
        · omega
        · have := (hn u' z1).1.2.1
          omega
    · have pp := ht.2.2.2.1 lv (Nat.le_refl _)
      have p2 := ht.2.2.2.2.2.1.2
      rw [rf 645 lv (by omega) (by omega) (by omega) (by omega), sf 3 8 (by omega) (by omega) (by omega) (by omega) (by omega)]
      exact ⟨p2, pp.2⟩
    · refine ⟨?_, fun l hl => ?_, fun j' h1 h2 => ?_, fun i h1 h2 => ?_, ?_⟩
      · rw [sf k 12 (by omega) (by omega) (by omega) (by omega) (by omega), rf 636 12 (by omega) (by omega) (by omega) (by omega)]
        exact hgg.1
      · rw [sf (k + 11) l (by omega) (by omega) (by omega) (by omega) (by omega), rf 638 _ (by omega) (by omega) (by omega) (by omega), rf 636 12 (by omega) (by omega) (by omega) (by omega)]
        exact hgg.2.1 l hl
      · rw [rf 636 12 (by omega) (by omega) (by omega) (by omega)] at h2
        obtain ⟨t', z1, z2, z3, z4, z5⟩ := hgg.2.2.1 j' h1 h2
        have nR : t' ≠ R D := fun z => by
          rw [z] at z3
          have := (ho D (Nat.le_refl _)).2.2.1.1
          omega
        refine ⟨t', by rw [rf 637 _ (by omega) (by omega) (by omega) (by omega), z1], by omega, by rw [rf 625 _ (by omega) (by omega) (by omega) (by omega), z3], by rw [rf 628 _ (by omega) (by omega) (by omega) (by omega), z4], fun w => ?_⟩
        rw [sf (k + 10) j' (by omega) (by omega) (by omega) (by omega) (by omega), nup_ne nR, z5 (((cls t').mp w).resolve_right nR)]
      · have := (hG i h1).1
        rw [rf 625 _ (by omega) (by omega) (by omega) (by omega)] at h2
        obtain ⟨j', z1, z2, z3, z4⟩ := hgg.2.2.2.1 i h1 h2
        exact ⟨j', z1, by rw [rf 636 12 (by omega) (by omega) (by omega) (by omega)]; exact z2, by rw [rf 628 _ (by omega) (by omega) (by omega) (by omega), z3], by rw [rf 637 _ (by omega) (by omega) (by omega) (by omega), z4]⟩
      · rw [rf 637 120 (by omega) (by omega) (by omega) (by omega)]
        exact hgg.2.2.2.2
    · obtain ⟨⟨c1, c2, c3⟩, c4, c5, c6, c7⟩ := hcc
      unfold RIc
      rw [s13 3 14 (by omega) (by omega) (by omega) (by omega) (by omega), v14, s11, u5]
      have e1 := nrc_c (f := Kn T0) (f' := Kn T2) N (fun m hm => rf 625 _ (by omega) (by omega) (by omega) (by omega))
      have e3 : nrc (Kn T2) (N + 1) ≤ nrc (Kn T0) N + 1 := by
        show nrc (Kn T2) N + (if Kn T2 N = 18 then 0 else 1) ≤ _
        rw [e1]
        split <;> omega
      exact ⟨by omega, by omega, by omega, by omega, by omega⟩
    · unfold RIf at hf ⊢
      rw [sf 3 11 (by omega) (by omega) (by omega) (by omega) (by omega), rf 621 40 (by omega) (by omega) (by omega) (by omega)]
      exact hf
    · have eO : T2.1 650 = T.1 650 := funext fun i => by rw [rf _ _ (by omega) (by omega) (by omega) (by omega), m4 _ _ (by omega) (by omega)]
      rw [eO]
      refine GH_row hg (fun m hm => ?_) (fun m hm h18 => ?_) u1 (fun j' hj => ?_)
      · show T2.1 625 (3840 + m) = T.1 625 (3840 + m)
        rw [rf _ _ (by omega) (by omega) (by omega) (by omega), m4 _ _ (by omega) (by omega)]
      · show T2.1 627 (3840 + m) = T.1 627 (3840 + m)
        have nR : m ≠ R D := fun z => by
          apply h18
          show T.1 625 (3840 + m) = 18
          rw [z, ← m4 _ _ (by omega) (by omega)]
          exact (ho D (Nat.le_refl _)).2.2.1.1
        rw [rf _ _ (by omega) (by omega) (by omega) (by omega), m4 _ _ (by omega) (by omega)]
      · rw [rf _ _ (by omega) (by omega) (by omega) (by omega)]
        by_cases e : j' = lv
        · subst e
          rw [m5]
          omega
        · rw [m4 _ _ (by omega) (by omega)]
          exact Int.le_refl _
    · have := hN0.1
      rw [rf _ _ (by omega) (by omega) (by omega) (by omega), m4 _ _ (by omega) (by omega)]
      exact hN0.2.1
    · rw [rf _ _ (by omega) (by omega) (by omega) (by omega), m5]
    · rw [rf _ _ (by omega) (by omega) (by omega) (by omega), m4 _ _ (by omega) (by omega)]
    · rw [rf x g (by unfold KTt at z; omega) (by unfold KTt at z; omega) (by unfold KTt at z; omega) (by unfold KTt at z; omega), m4 x g (by unfold KTt at z; omega) (by unfold KTt at z; omega)]
    · rw [sf x g (by unfold KTs at z; omega) (by unfold KTs at z; omega) (by unfold KTs at z; omega) (by unfold KTs at z; omega) (by unfold KTs at z; omega), m1 x g (by unfold KTs at z; omega) (by unfold KTs at z; omega)]
    · rw [s14, m3 x g (by omega)]
    · rw [u5, m4 _ _ (by omega) (by omega)]
      omega
    · intro c g z
      unfold LOWc at z
      rw [rf _ _ (by omega) (by omega) (by omega) (by omega), m4 _ _ (by omega) (by omega)]
    · intro c g x y z
      rw [rL c g (by omega), m7 c g x y]
end RBAR
