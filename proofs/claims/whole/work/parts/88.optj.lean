/-! THE READER'S TABLES: a new group is opened -/
section OPENG
variable {k N M D m : Nat} {φ ψ own G R : Nat → Nat} {P q : Nat → Int} {S T S2 T2 : ev_St}
theorem RDR_open {sw bs : Int} (h : RDR k N M D φ ψ own G R P q S T) (hD : D + 1 < 152) (hkr : 232 ≤ k) (s1 : S2.1 k 11 = S.1 k 11 ∧ S2.1 3 10 = (D : Int) + 1) (s2 : ∀ i, i ≤ D → S2.1 (17 + i) = S.1 (17 + i)) (s3 : ∀ j, 1 ≤ j → j ≤ 5 → S2.1 (k + j) = S.1 (k + j)) (s4 : ∀ j, 8 ≤ j → j ≤ 9 → S2.2.1 (k + j) = S.2.1 (k + j)) (s5 : ∀ g, 4 ≤ g → g ≤ 8 → S2.1 (17 + (D + 1)) g = -1) (s6 : S2.1 (17 + (D + 1)) 0 = kcl (T2.1 625 (3840 + N)) (T2.1 629 (3840 + N)) ∧ (T2.1 625 (3840 + N) = 8 ∨ T2.1 625 (3840 + N) = 13 → S2.1 (17 + (D + 1)) 1 = T2.1 628 (3840 + N)) ∧ S2.1 (17 + (D + 1)) 2 = sw ∧ S2.1 (17 + (D + 1)) 3 = bs) (t1 : T2.1 635 12 = (N : Int) + 2 ∧ T2.1 621 31 = (D : Int) + 2 ∧ T2.1 621 37 = (N : Int) + 1 ∧ T2.1 621 38 = -1) (t2 : T2.1 646 (D + 1) = (N : Int) ∧ T2.1 647 (D + 1) = T.1 621 37 ∧ T2.1 648 (D + 1) = (N : Int) ∧ T2.1 649 (D + 1) = sw ∧ T2.1 650 (D + 1) = bs) (t3 : T2.1 (lkc (T.1 621 38)) (lkp (T.1 621 38) (T.1 621 37)) = (N : Int)) (t4 : (8 ≤ T2.1 625 (3840 + N) ∧ T2.1 625 (3840 + N) ≤ 13) ∧ T2.1 626 (3840 + N) = (N : Int) + 1 ∧ T2.1 627 (3840 + N) = -1 ∧ T2.1 630 (3840 + N) = -1) (t5 : T2.1 625 (3840 + (N + 1)) = 18 ∧ T2.1 626 (3840 + (N + 1)) = -1 ∧ T2.1 627 (3840 + (N + 1)) = -1 ∧ T2.1 630 (3840 + (N + 1)) = -1) (tf : ∀ c m, 625 ≤ c → c ≤ 632 → m < N → ¬ (c = lkc (T.1 621 38) ∧ 3840 + m = lkp (T.1 621 38) (T.1 621 37)) → T2.1 c (3840 + m) = T.1 c (3840 + m)) (tg : ∀ c i, 646 ≤ c → c ≤ 650 → i ≤ D → T2.1 c i = T.1 c i) (tL : ∀ c m, 633 ≤ c → c ≤ 634 → m < N → T2.2.1 c (3840 + m) = T.2.1 c (3840 + m)) : RDR k (N + 2) M (D + 1) φ ψ own (nup G (D + 1) N) (nup R (D + 1) (N + 1)) (iup P (D + 1) (-1)) (iup q (D + 1) (-1)) S2 T2 := by
  have hl := RDR_last h
  obtain ⟨⟨e1, e2, e3, e4, e5⟩, hG, hst, ⟨e6, e7⟩, ho, hn⟩ := h
  have hGN : ∀ i, i ≤ D → G i < N ∧ R i < N := fun i hi => ⟨(hG i hi).1, (hG i hi).2.1⟩
  have g1 : ∀ i, i ≤ D → nup G (D + 1) N i = G i := fun i hi => nup_ne (by omega)
  have r1 : ∀ i, i ≤ D → nup R (D + 1) (N + 1) i = R i := fun i hi => nup_ne (by omega)
  have cO : ∀ t i, clo N D G R t → i ≤ D → t ≠ G i ∧ t ≠ R i := fun t i ht hi => ⟨fun z => ht.2 ⟨i, hi, Or.inl z⟩, fun z => ht.2 ⟨i, hi, Or.inr z⟩⟩
  have cE : ∀ t, clo (N + 2) (D + 1) (nup G (D + 1) N) (nup R (D + 1) (N + 1)) t ↔ clo N D G R t := fun t => by
    constructor
    · rintro ⟨z1, z2⟩
      have n1 : t ≠ N := fun w => z2 ⟨D + 1, Nat.le_refl _, Or.inl (by rw [nup_eq]; exact w)⟩
      have n2 : t ≠ N + 1 := fun w => z2 ⟨D + 1, Nat.le_refl _, Or.inr (by rw [nup_eq]; exact w)⟩
      exact ⟨by omega, fun ⟨i, hi, w⟩ => z2 ⟨i, by omega, by rw [g1 i hi, r1 i hi]; exact w⟩⟩
    · rintro ⟨z1, z2⟩
      refine ⟨by omega, fun ⟨i, hi, w⟩ => ?_⟩
      by_cases e : i = D + 1
      · subst e
        rw [nup_eq, nup_eq] at w
        omega
      · rw [g1 i (by omega), r1 i (by omega)] at w
        exact z2 ⟨i, by omega, w⟩
  have A : (P D = -1 ∧ lkc (T.1 621 38) = 626 ∧ lkp (T.1 621 38) (T.1 621 37) = 3840 + R D) ∨ ∃ t : Nat, P D = (t : Int) ∧ clo N D G R t ∧ lkc (T.1 621 38) = 627 ∧ lkp (T.1 621 38) (T.1 621 37) = 3840 + t := by
    rw [e7, e6]
    rcases hl with ⟨h1, _⟩ | ⟨t, h1, h2, _⟩
    · refine Or.inl ⟨h1, by rw [h1]; rfl, ?_⟩
      rw [h1]
      unfold lkp
      rw [if_pos rfl]
      omega
    · refine Or.inr ⟨t, h1, h2, ?_, ?_⟩
      · rw [h1]
        unfold lkc
        rw [if_neg (by omega)]
      · rw [h1]
        unfold lkp
        rw [if_neg (by omega)]
        omega
  generalize lkc (T.1 621 38) = rc at *
  generalize lkp (T.1 621 38) (T.1 621 37) = rp at *
  have kT : ∀ c g, 625 ≤ c → c ≤ 632 → g < N → ¬ (c = 626 ∧ P D = -1 ∧ g = R D) → ¬ (c = 627 ∧ P D = (g : Int)) → T2.1 c (3840 + g) = T.1 c (3840 + g) := fun c g h1 h2 h3 h4 h5 => tf _ _ h1 h2 h3 (by rcases A with z | ⟨t, z⟩ <;> omega)
  have PD : P D = -1 ∨ ∃ t : Nat, P D = (t : Int) ∧ clo N D G R t ∧ T.1 625 (3840 + t) ≠ 18 ∧ T.1 627 (3840 + t) = -1 := by
    rcases (ho D (Nat.le_refl _)).2.1 with ⟨z1, _⟩ | ⟨t, u, z1, ⟨z2, z3, z4, _⟩, _⟩
    · exact Or.inl z1
    · exact Or.inr ⟨t, z1, z2, z3, z4.trans (if_neg (by omega))⟩
  have kN : ∀ t, clo N D G R t → T.1 627 (3840 + t) ≠ -1 → T2.1 627 (3840 + t) = T.1 627 (3840 + t) := fun t h1 h2 => kT 627 t (by omega) (by omega) h1.1 (by omega) (fun z => by
    rcases PD with y | ⟨u, y1, y2, y3, y4⟩
    · omega
    · have : u = t := by omega
      subst this
      exact h2 y4)
  refine ⟨⟨by omega, by rw [s1.1, e2], by omega, by omega, hD⟩, fun i hi => ?_, fun i hi => ?_, ⟨?_, ?_⟩, fun i hi => ?_, fun m hm => ?_⟩
  · by_cases e : i = D + 1
    · subst e
      rw [nup_eq, nup_eq]
      refine ⟨by omega, by omega, fun j hj => ?_⟩
      by_cases ej : j = D + 1
      · subst ej
        rw [nup_eq, nup_eq]
        exact ⟨by omega, fun z => absurd rfl z⟩
      · have := hGN j (by omega)
        rw [g1 j (by omega), r1 j (by omega)]
        exact ⟨by omega, fun _ => ⟨by omega, by omega⟩⟩
    · have gi := hGN i (by omega)
      rw [g1 i (by omega), r1 i (by omega)]
      refine ⟨by omega, by omega, fun j hj => ?_⟩
      by_cases ej : j = D + 1
      · subst ej
        rw [nup_eq, nup_eq]
        exact ⟨by omega, fun _ => ⟨by omega, by omega⟩⟩
      · rw [g1 j (by omega), r1 j (by omega)]
        exact (hG i (by omega)).2.2 j (by omega)
  · by_cases e : i = D + 1
    · subst e
      rw [nup_eq]
      exact ⟨t2.1, fun z => absurd z (Nat.lt_irrefl _)⟩
    · rw [g1 i (by omega), r1 i (by omega), tg 646 i (by omega) (by omega) (by omega)]
      refine ⟨(hst i (by omega)).1, fun _ => ?_⟩
      by_cases eD : i = D
      · subst eD
        rw [nup_eq, t2.2.1, t2.2.2.1]
        exact ⟨e6, rfl⟩
      · rw [g1 (i + 1) (by omega), tg 647 (i + 1) (by omega) (by omega) (by omega), tg 648 (i + 1) (by omega) (by omega) (by omega)]
        exact (hst i (by omega)).2 (by omega)
  · rw [nup_eq, t1.2.2.1]
    omega
  · rw [iup_eq, t1.2.2.2]
  · by_cases e : i = D + 1
    · subst e
      rw [nup_eq, nup_eq, iup_eq, iup_eq]
      refine ⟨Or.inl ⟨rfl, ?_, s5 4 (by omega) (by omega), s5 5 (by omega) (by omega)⟩, Or.inl ⟨rfl, ?_, s5 6 (by omega) (by omega), s5 7 (by omega) (by omega)⟩, ⟨⟨t5.1, t5.2.2.1, t5.2.2.2, t4.2.2.1, t4.2.2.2⟩, t4.1, ?_, fun z => s6.2.1 (z.resolve_left (Nat.succ_ne_zero D)), ?_, ?_⟩⟩
      · rw [t4.2.1]
        omega
      · rw [t5.2.1]
        exact (if_neg (Nat.lt_irrefl _)).symm
      · rw [if_neg (by omega)]
        exact s6.1
      · rw [s6.2.2.1, t2.2.2.2.1]
      · rw [if_neg (by omega), s6.2.2.2, t2.2.2.2.2]
    · have hi' : i ≤ D := by omega
      rw [g1 i hi', r1 i hi', iup_ne e, iup_ne e]
      have gi := hGN i hi'
      refine ⟨?_, ?_, ?_⟩
      · rcases (ho i hi').1 with ⟨z1, z2, z3, z4⟩ | ⟨t, u, z1, ⟨z2, z3, z4, z5⟩, z6, z7, z8, z9⟩
        · exact Or.inl ⟨z1, by rw [kT 626 _ (by decide) (by decide) gi.1 (fun y => ((hG i hi').2.2 D (Nat.le_refl _)).1 y.2.2) (fun y => absurd y.1 (by decide)), z2], by rw [s2 i hi', z3], by rw [s2 i hi', z4]⟩
        · exact Or.inr ⟨t, u, z1, ⟨(cE t).mpr z2, by rw [kT 625 _ (by decide) (by decide) z2.1 (fun y => absurd y.1 (by decide)) (fun y => absurd y.1 (by decide)), z3], by rw [kN t z2 (by omega), z4], by rw [s2 i hi', z5]⟩, (cE u).mpr z6, by rw [kT 625 _ (by decide) (by decide) z6.1 (fun y => absurd y.1 (by decide)) (fun y => absurd y.1 (by decide)), z7], by rw [kT 626 _ (by decide) (by decide) gi.1 (fun y => ((hG i hi').2.2 D (Nat.le_refl _)).1 y.2.2) (fun y => absurd y.1 (by decide)), z8], by rw [s2 i hi', z9]⟩
      · by_cases eD : i = D
        · subst eD
          have nx : nxt (i + 1) (nup G (i + 1) N) i = (N : Int) := by
            unfold nxt
            rw [if_pos (Nat.lt_succ_self _), nup_eq]
          rw [nx]
          rcases (ho i hi').2.1 with ⟨z1, z2, z3, z4⟩ | ⟨t, u, z1, ⟨z2, z3, z4, z5⟩, ⟨z6, z7, z8, z9⟩, z10⟩
          · rcases A with ⟨a1, a2, a3⟩ | ⟨t, a1, _⟩
            · subst a2 a3
              exact Or.inl ⟨z1, t3, by rw [s2 i hi', z3], by rw [s2 i hi', z4]⟩
            · omega
          · rcases A with ⟨a1, a2, a3⟩ | ⟨t', a1, a2, a3, a4⟩
            · omega
            · have : t' = t := by omega
              subst this
              subst a3 a4
              refine Or.inr ⟨t', u, z1, ⟨(cE _).mpr z2, by rw [kT 625 _ (by decide) (by decide) z2.1 (fun y => absurd y.1 (by decide)) (fun y => absurd y.1 (by decide))]; exact z3, t3, by rw [s2 i hi', z5]⟩, ⟨(cE u).mpr z6, by rw [kT 625 _ (by decide) (by decide) z6.1 (fun y => absurd y.1 (by decide)) (fun y => absurd y.1 (by decide))]; exact z7, by rw [kT 626 _ (by decide) (by decide) gi.2 (by omega) (fun y => absurd y.1 (by decide)), z8], by rw [s2 i hi', z9]⟩, ?_⟩
              rcases z10 with ⟨y1, y2⟩ | ⟨b, y1, y2, y3, y4, y5, y6⟩
              · exact Or.inl ⟨y1, by rw [s2 i hi', y2]⟩
              · exact Or.inr ⟨b, (cE b).mpr y1, y2, y3, by rw [kT 625 _ (by decide) (by decide) y1.1 (fun y => absurd y.1 (by decide)) (fun y => absurd y.1 (by decide))]; exact y4, by rw [kN b y1 (by omega), y5], by rw [s2 i hi', y6]⟩
        · have hiD : i < D := Nat.lt_of_le_of_ne hi' eD
          have nx : nxt (D + 1) (nup G (D + 1) N) i = nxt D G i := by
            unfold nxt
            rw [if_pos (by omega), if_pos hiD, g1 _ (by omega)]
          have nx2 : nxt D G i = (G (i + 1) : Int) := if_pos hiD
          rw [nx]
          have rD : ¬ (R i = R D) := fun z => ((hG i hi').2.2 D (Nat.le_refl _)).2 eD |>.2 z
          rcases (ho i hi').2.1 with ⟨z1, z2, z3, z4⟩ | ⟨t, u, z1, ⟨z2, z3, z4, z5⟩, ⟨z6, z7, z8, z9⟩, z10⟩
          · exact Or.inl ⟨z1, by rw [kT 626 _ (by decide) (by decide) gi.2 (fun y => rD y.2.2) (fun y => absurd y.1 (by decide)), z2], by rw [s2 i hi', z3], by rw [s2 i hi', z4]⟩
          · refine Or.inr ⟨t, u, z1, ⟨(cE t).mpr z2, by rw [kT 625 _ (by decide) (by decide) z2.1 (fun y => absurd y.1 (by decide)) (fun y => absurd y.1 (by decide))]; exact z3, by rw [kN t z2 (by rw [z4, nx2]; omega), z4], by rw [s2 i hi', z5]⟩, ⟨(cE u).mpr z6, by rw [kT 625 _ (by decide) (by decide) z6.1 (fun y => absurd y.1 (by decide)) (fun y => absurd y.1 (by decide))]; exact z7, by rw [kT 626 _ (by decide) (by decide) gi.2 (fun y => rD y.2.2) (fun y => absurd y.1 (by decide)), z8], by rw [s2 i hi', z9]⟩, ?_⟩
            rcases z10 with ⟨y1, y2⟩ | ⟨b, y1, y2, y3, y4, y5, y6⟩
            · exact Or.inl ⟨y1, by rw [s2 i hi', y2]⟩
            · exact Or.inr ⟨b, (cE b).mpr y1, y2, y3, by rw [kT 625 _ (by decide) (by decide) y1.1 (fun y => absurd y.1 (by decide)) (fun y => absurd y.1 (by decide))]; exact y4, by rw [kN b y1 (by omega), y5], by rw [s2 i hi', y6]⟩
      · obtain ⟨⟨z1, z2, z3, z4, z5⟩, z6, z7, z8, z9, z10⟩ := (ho i hi').2.2
        have ng : ∀ g, (g = G i ∨ g = R i) → ¬ (P D = (g : Int)) := fun g hg z => by
          rcases PD with y | ⟨u, y1, y2, _⟩
          · omega
          · have : u = g := by omega
            subst this
            rcases hg with w | w
            · exact (cO u i y2 hi').1 w
            · exact (cO u i y2 hi').2 w
        unfold OGr
        rw [kT 625 _ (by decide) (by decide) gi.2 (fun y => absurd y.1 (by decide)) (fun y => absurd y.1 (by decide)), kT 627 _ (by decide) (by decide) gi.2 (fun y => absurd y.1 (by decide)) (fun z => ng _ (Or.inr rfl) z.2), kT 630 _ (by decide) (by decide) gi.2 (fun y => absurd y.1 (by decide)) (fun y => absurd y.1 (by decide)), kT 627 _ (by decide) (by decide) gi.1 (fun y => absurd y.1 (by decide)) (fun z => ng _ (Or.inl rfl) z.2), kT 630 _ (by decide) (by decide) gi.1 (fun y => absurd y.1 (by decide)) (fun y => absurd y.1 (by decide)), kT 625 _ (by decide) (by decide) gi.1 (fun y => absurd y.1 (by decide)) (fun y => absurd y.1 (by decide)), kT 629 _ (by decide) (by decide) gi.1 (fun y => absurd y.1 (by decide)) (fun y => absurd y.1 (by decide)), kT 628 _ (by decide) (by decide) gi.1 (fun y => absurd y.1 (by decide)) (fun y => absurd y.1 (by decide)), tg 649 _ (by decide) (by decide) hi', tg 650 _ (by decide) (by decide) hi', s2 i hi']
        exact ⟨⟨z1, z2, z3, z4, z5⟩, z6, z7, z8, z9, z10⟩
  · have hm0 := (cE m).mp hm
    have hmN := hn m hm0
    by_cases em : P D = (m : Int)
    · rcases A with ⟨a1, _⟩ | ⟨t, a1, a2, a3, a4⟩
      · omega
      · have : t = m := by omega
        subst this
        subst a3 a4
        obtain ⟨h18, h27⟩ : T.1 625 (3840 + t) ≠ 18 ∧ T.1 627 (3840 + t) = -1 := by
          rcases PD with y | ⟨u, y1, y2, y3, y4⟩
          · omega
          · have : u = t := by omega
            subst this
            exact ⟨y3, y4⟩
        have s27 : S.1 (k + 5) (ψ t) = -1 := by
          rcases hmN.2.2.2 with ⟨z, _⟩ | ⟨_, _, z⟩
          · exact absurd z h18
          · rw [h27] at z
            rcases z with ⟨_, z⟩ | ⟨x, z, _⟩
            · exact z
            · omega
        refine NR_n hmN hm0.1 hm0 (by omega) (Nat.le_refl _) (fun t _ => cE t) (fun t _ _ => rfl) (fun t _ _ => rfl) (fun b _ => rfl) (fun b j b1 b2 b3 b4 b5 => by rw [s3 j b3 b4]) (fun b j b1 b2 b3 b4 => by rw [s4 j b3 b4]) (fun c d1 d2 d3 => kT c t d1 d2 hm0.1 (by omega) (by omega)) (fun c d1 d2 => tL c t d1 d2 hm0.1) (fun e => absurd e h18) (fun _ => Or.inr ⟨N, t3, by omega, Or.inl ⟨fun z => ?_, by rw [s3 5 (by omega) (by omega), s27]⟩⟩)
        have := ((cE N).mp z).1
        omega
    · exact NR_c hmN hm0.1 hm0 (by omega) (Nat.le_refl _) (fun t _ => cE t) (fun t _ _ => rfl) (fun t _ _ => rfl) (fun b _ => rfl) (fun b j b1 b2 b3 b4 => by rw [s3 j b3 b4]) (fun b j b1 b2 b3 b4 => by rw [s4 j b3 b4]) (fun c d1 d2 => kT c m d1 d2 hm0.1 (fun z => (cO m D hm0 (Nat.le_refl _)).2 z.2.2) (by omega)) (fun c d1 d2 => tL c m d1 d2 hm0.1)
end OPENG
