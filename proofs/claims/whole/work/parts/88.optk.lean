/-! THE READER'S TABLES: a new row in the group that is open -/
section NEWROW
variable {k N M D m : Nat} {φ ψ own inn G R : Nat → Nat} {P q : Nat → Int} {S T S2 T2 : ev_St}
theorem RDR_row (h : RDR k N M D φ ψ own G R P q S T) (hkr : 232 ≤ k) (hI : INN N inn T) (hI2 : ∀ m t : Nat, m < N → ¬ (T.1 626 (3840 + m) = (t : Int) ∧ T.1 627 (3840 + m) = (t : Int))) (hW : ∀ t, clo N D G R t → T.1 625 (3840 + t) = 18 → T.1 630 (3840 + t) = -1) (s1 : S2.1 k 11 = (M : Int) + 1 ∧ S2.1 3 10 = S.1 3 10) (s2 : S2.1 (k + 1) M = 15 ∧ S2.1 (k + 4) M = S.1 (17 + D) 6 ∧ S2.1 (k + 5) M = -1) (s3 : S2.1 (17 + D) 5 = (M : Int) ∧ S2.1 (17 + D) 6 = -1 ∧ S2.1 (17 + D) 7 = -1) (s4 : (S.1 (17 + D) 5 = -1 → S2.1 (17 + D) 4 = (M : Int)) ∧ ∀ b : Nat, S.1 (17 + D) 5 = (b : Int) → S2.1 (17 + D) 4 = S.1 (17 + D) 4 ∧ S2.1 (k + 5) b = (M : Int)) (s5 : ∀ i, i < D → S2.1 (17 + i) = S.1 (17 + i)) (s6 : ∀ g, g ≤ 3 → S2.1 (17 + D) g = S.1 (17 + D) g) (s7 : ∀ j b, 1 ≤ j → j ≤ 5 → b < M → ¬ (j = 5 ∧ S.1 (17 + D) 5 = (b : Int)) → S2.1 (k + j) b = S.1 (k + j) b) (s8 : S2.2.1 = S.2.1) (t1 : T2.1 635 12 = (N : Int) + 1 ∧ T2.1 621 31 = T.1 621 31 ∧ T2.1 621 37 = (N : Int) ∧ T2.1 621 38 = -1) (t2 : T2.1 627 (3840 + R D) = (N : Int)) (t3 : T2.1 625 (3840 + N) = 18 ∧ T2.1 626 (3840 + N) = -1 ∧ T2.1 627 (3840 + N) = -1 ∧ T2.1 630 (3840 + N) = -1) (tf : ∀ c m, 625 ≤ c → c ≤ 632 → m < N → ¬ (c = 627 ∧ m = R D) → T2.1 c (3840 + m) = T.1 c (3840 + m)) (tg : ∀ c, 646 ≤ c → c ≤ 650 → T2.1 c = T.1 c) (tL : ∀ c m, 633 ≤ c → c ≤ 634 → m < N → T2.2.1 c (3840 + m) = T.2.1 c (3840 + m)) : RDR k (N + 1) (M + 1) D (nup φ (R D) M) (nup ψ (R D) M) (nup own M (R D)) G (nup R D N) (iup P D (-1)) (iup q D (R D : Int)) S2 T2 := by
  obtain ⟨⟨e1, e2, e3, e4, e5⟩, hG, hst, ⟨e6, e7⟩, ho, hn⟩ := h
  have hGN : ∀ i, i ≤ D → G i < N ∧ R i < N := fun i hi => ⟨(hG i hi).1, (hG i hi).2.1⟩
  have gD := hG D (Nat.le_refl _)
  obtain ⟨r0, hr0⟩ : ∃ x, x = R D := ⟨_, rfl⟩
  have r0N : r0 < N := by rw [hr0]; exact gD.2.1
  have r1 : ∀ i, i ≤ D → i ≠ D → nup R D N i = R i := fun i hi h => nup_ne h
  have nGr : ∀ i, i ≤ D → G i ≠ r0 := fun i hi => by rw [hr0]; exact ((hG i hi).2.2 D (Nat.le_refl _)).1
  have nRr : ∀ i, i ≤ D → i ≠ D → R i ≠ r0 := fun i hi h => by rw [hr0]; exact (((hG i hi).2.2 D (Nat.le_refl _)).2 h).2
  have cO : ∀ t i, clo N D G R t → i ≤ D → t ≠ G i ∧ t ≠ R i := fun t i ht hi => ⟨fun z => ht.2 ⟨i, hi, Or.inl z⟩, fun z => ht.2 ⟨i, hi, Or.inr z⟩⟩
  have cr : ∀ t, clo N D G R t → t ≠ r0 := fun t ht => by rw [hr0]; exact (cO t D ht (Nat.le_refl _)).2
  have cE : ∀ t, clo (N + 1) D G (nup R D N) t ↔ clo N D G R t ∨ t = r0 := fun t => by
    constructor
    · rintro ⟨z1, z2⟩
      have n1 : t ≠ N := fun w => z2 ⟨D, Nat.le_refl _, Or.inr (by rw [nup_eq]; exact w)⟩
      by_cases e : t = r0
      · exact Or.inr e
      · refine Or.inl ⟨by omega, fun ⟨i, hi, w⟩ => ?_⟩
        by_cases eD : i = D
        · subst eD
          rw [← hr0] at w
          rcases w with w | w
          · exact z2 ⟨i, hi, Or.inl w⟩
          · exact e w
        · exact z2 ⟨i, hi, by rw [r1 i hi eD]; exact w⟩
    · intro hc
      have tN : t < N := by
        rcases hc with z | z
        · exact z.1
        · omega
      refine ⟨by omega, fun ⟨i, hi, w⟩ => ?_⟩
      have gi := hGN i hi
      rcases w with w | w
      · rcases hc with z | z
        · exact (cO t i z hi).1 w
        · exact nGr i hi (w.symm.trans z)
      · by_cases eD : i = D
        · subst eD
          rw [nup_eq] at w
          omega
        · rw [r1 i hi eD] at w
          rcases hc with z | z
          · exact (cO t i z hi).2 w
          · exact nRr i hi eD (w.symm.trans z)
  have cU : ∀ t, clo N D G R t → clo (N + 1) D G (nup R D N) t := fun t ht => (cE t).mpr (Or.inl ht)
  have cr0 : clo (N + 1) D G (nup R D N) r0 := (cE r0).mpr (Or.inr rfl)
  have cN : ¬ clo (N + 1) D G (nup R D N) N := fun z => by
    rcases (cE N).mp z with w | w
    · exact absurd w.1 (Nat.lt_irrefl _)
    · omega
  have fφ : ∀ (f : Nat → Nat) t, clo N D G R t → nup f r0 M t = f t := fun f t ht => nup_ne (cr t ht)
  obtain ⟨⟨o1, o2, o3, o4, o5⟩, o6, o7, o8, o9, o10⟩ := (ho D (Nat.le_refl _)).2.2
  -- the last row before, and where r0 is linked
  have QD : (q D = -1 ∧ T.1 626 (3840 + G D) = (r0 : Int) ∧ S.1 (17 + D) 5 = -1 ∧ S2.1 (17 + D) 4 = (M : Int) ∧ inn r0 = G D) ∨ ∃ t u : Nat, q D = (t : Int) ∧ (clo N D G R t ∧ T.1 625 (3840 + t) = 18 ∧ T.1 627 (3840 + t) = (r0 : Int) ∧ S.1 (17 + D) 5 = (φ t : Int)) ∧ (clo N D G R u ∧ T.1 625 (3840 + u) = 18 ∧ T.1 626 (3840 + G D) = (u : Int) ∧ S2.1 (17 + D) 4 = (φ u : Int)) ∧ S2.1 (k + 5) (φ t) = (M : Int) ∧ inn r0 = t := by
    rw [hr0]
    rcases (ho D (Nat.le_refl _)).1 with ⟨z1, z2, z3, z4⟩ | ⟨t, u, z1, ⟨z2, z3, z4, z5⟩, z6, z7, z8, z9⟩
    · exact Or.inl ⟨z1, z2, z4, s4.1 z4, (hI _ _ gD.1 (Or.inl z2)).2⟩
    · exact Or.inr ⟨t, u, z1, ⟨z2, z3, z4, z5⟩, ⟨z6, z7, z8, by rw [(s4.2 _ z5).1, z9]⟩, (s4.2 _ z5).2, (hI _ _ z2.1 (Or.inr z4)).2⟩
  have PD : (P D = -1 ∧ T.1 626 (3840 + r0) = -1 ∧ S.1 (17 + D) 6 = -1) ∨ ∃ u : Nat, clo N D G R u ∧ T.1 626 (3840 + r0) = (u : Int) ∧ S.1 (17 + D) 6 = (ψ u : Int) := by
    rw [hr0]
    rcases (ho D (Nat.le_refl _)).2.1 with ⟨z1, z2, z3, z4⟩ | ⟨t, u, z1, ⟨z2, z3, z4, z5⟩, ⟨z6, z7, z8, z9⟩, z10⟩
    · exact Or.inl ⟨z1, z2.trans (if_neg (Nat.lt_irrefl _)), z3⟩
    · exact Or.inr ⟨u, z6, z8, z9⟩
  rw [← hr0] at t2 tf o1 o2 o3 ⊢
  have kT : ∀ c g, 625 ≤ c → c ≤ 632 → g < N → c ≠ 627 → T2.1 c (3840 + g) = T.1 c (3840 + g) := fun c g h1 h2 h3 h4 => tf c g h1 h2 h3 (fun z => h4 z.1)
  have k7 : ∀ g, g < N → g ≠ r0 → T2.1 627 (3840 + g) = T.1 627 (3840 + g) := fun g h3 h4 => tf 627 g (by decide) (by decide) h3 (fun z => h4 z.2)
  have oφ : ∀ t, clo N D G R t → own (φ t) = t ∧ φ t < M ∧ own (ψ t) = t ∧ ψ t < M := fun t ht => ⟨(hn t ht).1.2.2.1, (hn t ht).1.1, (hn t ht).1.2.2.2, (hn t ht).1.2.1⟩
  refine ⟨⟨by omega, by omega, by rw [s1.2, e3], by rw [t1.2.1, e4], e5⟩, fun i hi => ?_, fun i hi => ?_, ⟨?_, ?_⟩, fun i hi => ?_, fun m hm => ?_⟩
  · have gi := hG i hi
    by_cases eD : i = D
    · subst eD
      rw [nup_eq]
      refine ⟨by omega, by omega, fun j hj => ?_⟩
      by_cases ej : j = i
      · subst ej
        rw [nup_eq]
        exact ⟨by omega, fun z => absurd rfl z⟩
      · have gj := hG j hj
        rw [r1 j hj ej]
        exact ⟨(gi.2.2 j hj).1, fun z => ⟨((gi.2.2 j hj).2 z).1, by omega⟩⟩
    · rw [r1 i hi eD]
      refine ⟨by omega, by omega, fun j hj => ?_⟩
      by_cases ej : j = D
      · subst ej
        rw [nup_eq]
        exact ⟨by omega, fun z => ⟨((gi.2.2 j hj).2 z).1, by omega⟩⟩
      · rw [r1 j hj ej]
        exact gi.2.2 j hj
  · rw [tg 646 (by decide) (by decide), tg 647 (by decide) (by decide), tg 648 (by decide) (by decide)]
    refine ⟨(hst i hi).1, fun hD => ?_⟩
    rw [r1 i hi (Nat.ne_of_lt hD)]
    exact (hst i hi).2 hD
  · rw [nup_eq, t1.2.2.1]
  · rw [iup_eq, t1.2.2.2]
  · have gi := hGN i hi
    by_cases eD : i = D
    · subst eD
      rw [nup_eq, iup_eq, iup_eq]
      have nx : nxt i G i = -1 := if_neg (Nat.lt_irrefl _)
      refine ⟨?_, Or.inl ⟨rfl, by rw [nx]; exact t3.2.1, s3.2.1, s3.2.2⟩, ?_⟩
      · rcases QD with ⟨a1, a2, a3, a4, a5⟩ | ⟨t, u, a1, ⟨a2, a3, a4, a5⟩, ⟨a6, a7, a8, a9⟩, a10, a11⟩
        · exact Or.inr ⟨r0, r0, rfl, ⟨cr0, by rw [kT 625 _ (by decide) (by decide) r0N (by decide)]; exact o1, t2, by rw [s3.1, nup_eq]⟩, cr0, by rw [kT 625 _ (by decide) (by decide) r0N (by decide)]; exact o1, by rw [kT 626 _ (by decide) (by decide) gi.1 (by decide), a2], by rw [a4, nup_eq]⟩
        · exact Or.inr ⟨r0, u, rfl, ⟨cr0, by rw [kT 625 _ (by decide) (by decide) r0N (by decide)]; exact o1, t2, by rw [s3.1, nup_eq]⟩, cU u a6, by rw [kT 625 _ (by decide) (by decide) a6.1 (by decide)]; exact a7, by rw [kT 626 _ (by decide) (by decide) gi.1 (by decide), a8], by rw [a9, fφ φ u a6]⟩
      · unfold OGr
        rw [k7 _ gi.1 (nGr i hi), kT 630 _ (by decide) (by decide) gi.1 (by decide), kT 625 _ (by decide) (by decide) gi.1 (by decide), kT 629 _ (by decide) (by decide) gi.1 (by decide), kT 628 _ (by decide) (by decide) gi.1 (by decide), tg 649 (by decide) (by decide), tg 650 (by decide) (by decide), s6 0 (by decide), s6 1 (by decide), s6 2 (by decide), s6 3 (by decide)]
        exact ⟨⟨t3.1, t3.2.2.1, t3.2.2.2, o4, o5⟩, o6, o7, o8, o9, o10⟩
    · have hiD : i < D := Nat.lt_of_le_of_ne hi eD
      rw [r1 i hi eD, iup_ne eD, iup_ne eD]
      refine ⟨?_, ?_, ?_⟩
      · rcases (ho i hi).1 with ⟨z1, z2, z3, z4⟩ | ⟨t, u, z1, ⟨z2, z3, z4, z5⟩, z6, z7, z8, z9⟩
        · exact Or.inl ⟨z1, by rw [kT 626 _ (by decide) (by decide) gi.1 (by decide), z2], by rw [s5 i hiD, z3], by rw [s5 i hiD, z4]⟩
        · exact Or.inr ⟨t, u, z1, ⟨cU t z2, by rw [kT 625 _ (by decide) (by decide) z2.1 (by decide)]; exact z3, by rw [k7 t z2.1 (cr t z2), z4], by rw [s5 i hiD, z5, fφ φ t z2]⟩, cU u z6, by rw [kT 625 _ (by decide) (by decide) z6.1 (by decide)]; exact z7, by rw [kT 626 _ (by decide) (by decide) gi.1 (by decide), z8], by rw [s5 i hiD, z9, fφ φ u z6]⟩
      · rcases (ho i hi).2.1 with ⟨z1, z2, z3, z4⟩ | ⟨t, u, z1, ⟨z2, z3, z4, z5⟩, ⟨z6, z7, z8, z9⟩, z10⟩
        · exact Or.inl ⟨z1, by rw [kT 626 _ (by decide) (by decide) gi.2 (by decide), z2], by rw [s5 i hiD, z3], by rw [s5 i hiD, z4]⟩
        · refine Or.inr ⟨t, u, z1, ⟨cU t z2, by rw [kT 625 _ (by decide) (by decide) z2.1 (by decide)]; exact z3, by rw [k7 t z2.1 (cr t z2), z4], by rw [s5 i hiD, z5, fφ ψ t z2]⟩, ⟨cU u z6, by rw [kT 625 _ (by decide) (by decide) z6.1 (by decide)]; exact z7, by rw [kT 626 _ (by decide) (by decide) gi.2 (by decide), z8], by rw [s5 i hiD, z9, fφ ψ u z6]⟩, ?_⟩
          rcases z10 with ⟨y1, y2⟩ | ⟨b, y1, y2, y3, y4, y5, y6⟩
          · exact Or.inl ⟨y1, by rw [s5 i hiD, y2]⟩
          · exact Or.inr ⟨b, cU b y1, y2, y3, by rw [kT 625 _ (by decide) (by decide) y1.1 (by decide)]; exact y4, by rw [k7 b y1.1 (cr b y1), y5], by rw [s5 i hiD, y6, fφ ψ b y1]⟩
      · obtain ⟨⟨z1, z2, z3, z4, z5⟩, z6, z7, z8, z9, z10⟩ := (ho i hi).2.2
        unfold OGr
        rw [kT 625 _ (by decide) (by decide) gi.2 (by decide), k7 _ gi.2 (nRr i hi eD), kT 630 _ (by decide) (by decide) gi.2 (by decide), k7 _ gi.1 (nGr i hi), kT 630 _ (by decide) (by decide) gi.1 (by decide), kT 625 _ (by decide) (by decide) gi.1 (by decide), kT 629 _ (by decide) (by decide) gi.1 (by decide), kT 628 _ (by decide) (by decide) gi.1 (by decide), tg 649 (by decide) (by decide), tg 650 (by decide) (by decide), s5 i hiD]
        exact ⟨⟨z1, z2, z3, z4, z5⟩, z6, z7, z8, z9, z10⟩
  · -- links of those that were done
    have lk : ∀ (f : Nat → Nat) (x y : Int), (∀ w : Nat, x = (w : Int) → w ≠ r0) → lnk N (clo N D G R) f x y → lnk (N + 1) (clo (N + 1) D G (nup R D N)) (nup f r0 M) x y := fun f x y hx hl => by
      rcases hl with hl | ⟨w, h1, h2, ⟨h3, h4⟩ | ⟨h3, h4⟩⟩
      · exact Or.inl hl
      · refine Or.inr ⟨w, h1, by omega, Or.inl ⟨fun z => ?_, h4⟩⟩
        rcases (cE w).mp z with z | z
        · exact h3 z
        · exact hx w h1 z
      · exact Or.inr ⟨w, h1, by omega, Or.inr ⟨cU w h3, by rw [fφ f w h3]; exact h4⟩⟩
    have oM : ∀ b, b < M → nup own M r0 b = own b := fun b hb => nup_ne (Nat.ne_of_lt hb)
    have pe : ∀ t, clo N D G R t → T.1 625 (3840 + t) = 18 → ψ t = φ t := fun t a2 a3 => by
      have w0 := hW t a2 a3
      rcases (hn t a2).2.2.1 with ⟨_, w⟩ | ⟨⟨w, _⟩, _⟩ | ⟨⟨w, _⟩, _⟩
      · exact w
      · rcases w with w | w <;> (rw [w0] at w; exact absurd w (by decide))
      · rw [w0] at w
        exact absurd w (by decide)
    rcases (cE m).mp hm with hm | em
    · obtain ⟨⟨g1, g2, g3, g4⟩, g5, g6, g7⟩ := hn m hm
      have Sl : ∀ b j, b < M → 1 ≤ j → j ≤ 4 → S2.1 (k + j) b = S.1 (k + j) b := fun b j h1 h2 h3 => s7 j b h2 (by omega) h1 (by omega)
      have Sm : ∀ b, b < M → own b ≠ inn r0 → S2.1 (k + 5) b = S.1 (k + 5) b := fun b h1 h2 => s7 5 b (by decide) (by decide) h1 (fun z => by
        rcases QD with ⟨a1, a2, a3, a4, a5⟩ | ⟨t, u, a1, ⟨a2, a3, a4, a5⟩, _, a10, a11⟩
        · omega
        · have hb : b = φ t := by omega
          subst hb
          exact h2 ((oφ t a2).1.trans a11.symm))
      unfold NR
      rw [fφ φ m hm, fφ ψ m hm]
      refine ⟨⟨by omega, by omega, by rw [oM _ g1, g3], by rw [oM _ g2, g4]⟩, ?_, rpt_c g6 (by omega) oM ⟨g1, g3⟩ ⟨g2, g4⟩ (fun b j b1 b2 b3 b4 b5 => ?_) (fun c a1 a2 a3 => kT c m a1 a2 hm.1 a3), ?_⟩
      · exact KD_c g5 (fun j a b => Sl _ j g1 a (by omega)) (fun j _ _ => by rw [s8]) (fun c a b d => kT c m a b hm.1 d) (fun c a b => tL c m a b hm.1)
      · refine s7 j b b3 b4 b1 (fun z => ?_)
        rcases QD with ⟨a1, a2, a3, a4, a5⟩ | ⟨t, u, a1, ⟨a2, a3, a4, a5⟩, _, a10, a11⟩
        · omega
        · have hb : b = φ t := by omega
          subst hb
          have tm : t = m := (oφ t a2).1.symm.trans b2
          subst tm
          exact b5 ⟨(pe t a2 a3).symm, z.1⟩
      · rw [kT 625 _ (by decide) (by decide) hm.1 (by decide), kT 626 _ (by decide) (by decide) hm.1 (by decide), k7 m hm.1 (cr m hm), Sl _ 4 g1 (by decide) (by decide)]
        by_cases ei : inn r0 = m
        · rcases QD with ⟨a1, a2, a3, a4, a5⟩ | ⟨t, u, a1, ⟨a2, a3, a4, a5⟩, _, a10, a11⟩
          · exact absurd (ei.symm.trans a5) (cO m D hm (Nat.le_refl _)).1
          · have tm : t = m := a11.symm.trans ei
            subst tm
            rcases g7 with ⟨z1, z2, z3⟩ | ⟨z1, _⟩
            · refine Or.inl ⟨z1, lk _ _ _ (fun w hw e => ?_) z2, Or.inr ⟨r0, a4, by omega, Or.inr ⟨cr0, by rw [pe t a2 a3, a10, nup_eq]⟩⟩⟩
              subst e
              exact hI2 t w hm.1 ⟨hw, a4⟩
            · exact absurd a3 z1
        · have l1 : ∀ w : Nat, T.1 626 (3840 + m) = (w : Int) → w ≠ r0 := fun w hw e => by
            subst e
            exact ei (hI m w hm.1 (Or.inl hw)).2
          have l2 : ∀ w : Nat, T.1 627 (3840 + m) = (w : Int) → w ≠ r0 := fun w hw e => by
            subst e
            exact ei (hI m w hm.1 (Or.inr hw)).2
          rw [Sm _ g2 (fun w => ei (w.symm.trans g4))]
          rcases g7 with ⟨z1, z2, z3⟩ | ⟨z1, z2, z3⟩
          · exact Or.inl ⟨z1, lk _ _ _ l1 z2, lk _ _ _ l2 z3⟩
          · exact Or.inr ⟨z1, lk _ _ _ l1 z2, lk _ _ _ l2 z3⟩
    · subst em
      have k625 : T2.1 625 (3840 + m) = 18 := by rw [kT 625 _ (by decide) (by decide) r0N (by decide), o1]
      unfold NR
      rw [nup_eq, nup_eq]
      refine ⟨⟨Nat.lt_succ_self _, Nat.lt_succ_self _, nup_eq, nup_eq⟩, ⟨?_, fun z => ?_, fun z => ?_, fun z => ?_⟩, Or.inl ⟨by rw [kT 630 _ (by decide) (by decide) r0N (by decide), o3], rfl⟩, Or.inl ⟨k625, ?_, Or.inr ⟨N, t2, Nat.lt_succ_self _, Or.inl ⟨cN, s2.2.2⟩⟩⟩⟩
      · rw [s2.1, k625]
        rfl
      · rw [k625] at z
        exact absurd z (by decide)
      · rw [k625] at z
        exact absurd z (by decide)
      · rw [k625] at z
        exact absurd z (by decide)
      · rw [kT 626 _ (by decide) (by decide) r0N (by decide), s2.2.1]
        rcases PD with ⟨z1, z2, z3⟩ | ⟨u, z1, z2, z3⟩
        · exact Or.inl ⟨z2, z3⟩
        · exact Or.inr ⟨u, z2, Nat.lt_succ_of_lt z1.1, Or.inr ⟨cU u z1, by rw [fφ ψ u z1]; exact z3⟩⟩
end NEWROW
