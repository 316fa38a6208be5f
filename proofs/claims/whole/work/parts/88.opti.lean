/-! THE READER'S TABLES: the last item is repeated (possessive) -/
section REPT2
variable {k N M D m : Nat} {φ ψ own inn G R : Nat → Nat} {P q : Nat → Int} {S T S2 T2 : ev_St}
theorem RDR_rep2 {t : Nat} {lo hi : Int} (h : RDR k N M D φ ψ own G R P q S T) (hkr : 232 ≤ k) (hI : INN N inn T) (hP : P D = (t : Int)) (h630 : T.1 630 (3840 + t) = -1) (s1 : S2.1 k 11 = (M : Int) + 3 ∧ S2.1 (k + 1) M = 13 ∧ S2.1 (k + 2) M = lo ∧ S2.1 (k + 3) M = hi ∧ S2.1 (k + 4) M = S.1 (17 + D) 7 ∧ S2.1 (k + 5) M = -1) (s1x : S2.1 (k + 1) (M + 1) = 15 ∧ S2.1 (k + 4) (M + 1) = (M : Int) ∧ S2.1 (k + 5) (M + 1) = -1) (s1y : S2.1 (k + 1) (M + 2) = 19 ∧ S2.1 (k + 4) (M + 2) = ((M + 1 : Nat) : Int) ∧ S2.1 (k + 5) (M + 2) = -1) (s2 : S2.1 (17 + D) 7 = ((M + 2 : Nat) : Int) ∧ S2.1 (ckc k D (S.1 (17 + D) 8)) (ckp (S.1 (17 + D) 8)) = ((M + 2 : Nat) : Int)) (s3 : ∀ x g, ¬ (x = 3 ∧ g ≠ 10) → ¬ (x = k ∧ g = 11) → ¬ (k + 1 ≤ x ∧ x ≤ k + 7 ∧ M ≤ g ∧ g ≤ M + 2) → ¬ (x = 17 + D ∧ g = 7) → ¬ (x = ckc k D (S.1 (17 + D) 8) ∧ g = ckp (S.1 (17 + D) 8)) → S2.1 x g = S.1 x g) (s4 : S2.2.1 = S.2.1) (t1 : T2.1 630 (3840 + t) = 2 ∧ T2.1 631 (3840 + t) = lo ∧ T2.1 632 (3840 + t) = hi) (t2 : ∀ c g, ¬ (630 ≤ c ∧ c ≤ 632 ∧ g = 3840 + t) → ¬ (c = 621 ∧ (g = 25 ∨ g = 27 ∨ g = 39)) → ¬ (c = 645) → T2.1 c g = T.1 c g) (t3 : T2.2.1 = T.2.1) : RDR k N (M + 3) D φ (nup ψ t (M + 2)) (nup (nup (nup own M t) (M + 1) t) (M + 2) t) G R P q S2 T2 := by
  obtain ⟨⟨e1, e2, e3, e4, e5⟩, hG, hst, ⟨e6, e7⟩, ho, hn⟩ := h
  obtain ⟨c1, c2, c3, c4, c5, c6⟩ := s1
  obtain ⟨c7, c8⟩ := s2
  obtain ⟨x1, x2, x3⟩ := s1x
  obtain ⟨y1, y2, y3⟩ := s1y
  obtain ⟨d1, d2, d3⟩ := t1
  have hGN : ∀ i, i ≤ D → G i < N ∧ R i < N := fun i hi => ⟨(hG i hi).1, (hG i hi).2.1⟩
  have cO : ∀ t i, clo N D G R t → i ≤ D → t ≠ G i ∧ t ≠ R i := fun t i ht hi => ⟨fun z => ht.2 ⟨i, hi, Or.inl z⟩, fun z => ht.2 ⟨i, hi, Or.inr z⟩⟩
  -- the item
  obtain ⟨ct, t18, t27, tl7, A⟩ : clo N D G R t ∧ T.1 625 (3840 + t) ≠ 18 ∧ T.1 627 (3840 + t) = -1 ∧ S.1 (17 + D) 7 = (ψ t : Int) ∧ ((S.1 (17 + D) 8 = -1 ∧ inn t = R D ∧ T.1 626 (3840 + R D) = (t : Int)) ∨ ∃ b u : Nat, clo N D G R b ∧ b ≠ t ∧ T.1 625 (3840 + b) ≠ 18 ∧ T.1 627 (3840 + b) = (t : Int) ∧ inn t = b ∧ S.1 (17 + D) 8 = (ψ b : Int) ∧ u ≠ t ∧ T.1 626 (3840 + R D) = (u : Int)) := by
    rcases (ho D (Nat.le_refl _)).2.1 with ⟨z1, _⟩ | ⟨t', u, z1, ⟨z2, z3, z4, z5⟩, ⟨z6, z7, z8, z9⟩, z10⟩
    · omega
    · have : t' = t := by omega
      subst this
      refine ⟨z2, z3, ?_, z5, ?_⟩
      · rw [z4]
        exact if_neg (by omega)
      · rcases z10 with ⟨y1, y2⟩ | ⟨b, y1, y2, y3, y4, y5, y6⟩
        · subst y1
          exact Or.inl ⟨y2, (hI _ _ (hGN D (Nat.le_refl _)).2 (Or.inl z8)).2, z8⟩
        · exact Or.inr ⟨b, u, y1, y2, y4, y5, (hI _ _ y1.1 (Or.inr y5)).2, y6, y3, z8⟩
  have nt := hn t ct
  have ψφ : ψ t = φ t := by
    rcases nt.2.2.1 with ⟨_, z⟩ | ⟨⟨z, _⟩, _⟩ | ⟨⟨z, _⟩, _⟩
    · exact z
    · omega
    · omega
  have s5 : S.1 (k + 5) (φ t) = -1 := by
    rcases nt.2.2.2 with ⟨z, _⟩ | ⟨_, _, z⟩
    · exact absurd z t18
    · rw [t27, ψφ] at z
      rcases z with ⟨_, z⟩ | ⟨x, z, _⟩
      · exact z
      · omega
  have oψ : ∀ t, clo N D G R t → own (ψ t) = t ∧ ψ t < M ∧ own (φ t) = t ∧ φ t < M := fun t ht => ⟨(hn t ht).1.2.2.2, (hn t ht).1.2.1, (hn t ht).1.2.2.1, (hn t ht).1.1⟩
  -- the class's link
  obtain ⟨lc, hlc⟩ : ∃ x, x = ckc k D (S.1 (17 + D) 8) := ⟨_, rfl⟩
  obtain ⟨lp, hlp⟩ : ∃ x, x = ckp (S.1 (17 + D) 8) := ⟨_, rfl⟩
  have B : (S.1 (17 + D) 8 = -1 ∧ inn t = R D ∧ T.1 626 (3840 + R D) = (t : Int) ∧ lc = 17 + D ∧ lp = 6) ∨ ∃ b u : Nat, clo N D G R b ∧ b ≠ t ∧ T.1 625 (3840 + b) ≠ 18 ∧ T.1 627 (3840 + b) = (t : Int) ∧ inn t = b ∧ lc = k + 5 ∧ lp = ψ b ∧ u ≠ t ∧ T.1 626 (3840 + R D) = (u : Int) := by
    rcases A with ⟨a1, a2, a3⟩ | ⟨b, u, a1, a2, a3, a4, a5, a6, a7, a8⟩
    · exact Or.inl ⟨a1, a2, a3, by rw [hlc, a1]; rfl, by rw [hlp, a1]; rfl⟩
    · refine Or.inr ⟨b, u, a1, a2, a3, a4, a5, ?_, ?_, a7, a8⟩
      · rw [hlc, a6]
        unfold ckc
        rw [if_neg (by omega)]
      · rw [hlp, a6]
        unfold ckp
        rw [if_neg (by omega), Int.toNat_natCast]
  rw [← hlc, ← hlp] at c8 s3
  clear A
  have kT : ∀ c g, 625 ≤ c → c ≤ 629 → T2.1 c g = T.1 c g := fun c g h1 h2 => t2 _ _ (by omega) (by omega) (by omega)
  have kT1 : ∀ c g, 630 ≤ c → c ≤ 632 → g ≠ 3840 + t → T2.1 c g = T.1 c g := fun c g h1 h2 h3 => t2 _ _ (by omega) (by omega) (by omega)
  have kT2 : ∀ c g, 646 ≤ c → T2.1 c g = T.1 c g := fun c g h1 => t2 _ _ (by omega) (by omega) (by omega)
  have kS : ∀ i g, i ≤ D → g ≤ 5 ∨ g = 8 → S2.1 (17 + i) g = S.1 (17 + i) g := fun i g h1 h2 => s3 _ _ (by omega) (by omega) (by omega) (by omega) (by rcases B with z | ⟨b, u, z⟩ <;> omega)
  have kS2 : ∀ i g, i < D → S2.1 (17 + i) g = S.1 (17 + i) g := fun i g h1 => s3 _ _ (by omega) (by omega) (by omega) (by omega) (by rcases B with z | ⟨b, u, z⟩ <;> omega)
  have fψ : ∀ m, m ≠ t → nup ψ t (M + 2) m = ψ m := fun m hm => nup_ne hm
  refine ⟨⟨by rw [t2 _ _ (by omega) (by omega) (by omega), e1], by omega, ?_, by rw [t2 _ _ (by omega) (by omega) (by omega), e4], e5⟩, hG, fun i hi => ?_, ⟨by rw [t2 _ _ (by omega) (by omega) (by omega), e6], by rw [t2 _ _ (by omega) (by omega) (by omega), e7]⟩, fun i hi => ⟨?_, ?_, ?_⟩, fun m hm => ?_⟩
  · rw [s3 3 10 (by omega) (by omega) (by omega) (by omega) (by rcases B with z | ⟨b, u, z⟩ <;> omega), e3]
  · rw [kT2 646 _ (by omega), kT2 647 _ (by omega), kT2 648 _ (by omega)]
    exact hst i hi
  · -- rows
    have q0 := (ho i hi).1
    unfold ORw at q0 ⊢
    have f625 : T2.1 625 = T.1 625 := funext fun g => kT 625 g (by omega) (by omega)
    have f627 : T2.1 627 = T.1 627 := funext fun g => kT 627 g (by omega) (by omega)
    rw [f625, f627, kT 626 _ (by omega) (by omega), kS i 4 hi (by omega), kS i 5 hi (by omega)]
    exact q0
  · -- items
    by_cases eD : i = D
    · subst eD
      rcases (ho i hi).2.1 with ⟨z1, _⟩ | ⟨t', u, z1, ⟨z2, z3, z4, z5⟩, ⟨z6, z7, z8, z9⟩, z10⟩
      · omega
      · have : t' = t := by omega
        subst this
        refine Or.inr ⟨t', u, z1, ⟨z2, by rw [kT 625 _ (by omega) (by omega)]; exact z3, by rw [kT 627 _ (by omega) (by omega), z4], by rw [c7, nup_eq]⟩, ⟨z6, by rw [kT 625 _ (by omega) (by omega)]; exact z7, by rw [kT 626 _ (by omega) (by omega), z8], ?_⟩, ?_⟩
        · rcases B with ⟨a1, a2, a3, a4, a5⟩ | ⟨b, u', a1, a2, a3, a4, a5, a6, a7, a8, a9⟩
          · have : u = t' := by omega
            subst this
            subst a4 a5
            rw [c8, nup_eq]
          · have : u' = u := by omega
            subst this
            rw [s3 (17 + i) 6 (by omega) (by omega) (by omega) (by omega) (by omega), z9, fψ _ a8]
        · rcases z10 with ⟨y1, y2⟩ | ⟨b, y1, y2, y3, y4, y5, y6⟩
          · exact Or.inl ⟨y1, by rw [kS i 8 hi (by omega), y2]⟩
          · exact Or.inr ⟨b, y1, y2, y3, by rw [kT 625 _ (by omega) (by omega)]; exact y4, by rw [kT 627 _ (by omega) (by omega), y5], by rw [kS i 8 hi (by omega), y6, fψ _ y2]⟩
    · have hiD : i < D := Nat.lt_of_le_of_ne hi eD
      have it : inn t ≠ R i := fun z => by
        rcases B with ⟨a1, a2, a3, a4, a5⟩ | ⟨b, u', a1, a2, a3, a4, a5, a6, a7, a8, a9⟩
        · exact ((hG i hi).2.2 D (Nat.le_refl _)).2 eD |>.2 (z.symm.trans a2)
        · exact (cO b i a1 hi).2 (a5.symm.trans z)
      rcases (ho i hi).2.1 with ⟨z1, z2, z3, z4⟩ | ⟨t', u, z1, ⟨z2, z3, z4, z5⟩, ⟨z6, z7, z8, z9⟩, z10⟩
      · exact Or.inl ⟨z1, by rw [kT 626 _ (by omega) (by omega), z2], by rw [kS2 i 6 hiD, z3], by rw [kS2 i 7 hiD, z4]⟩
      · have ut : u ≠ t := fun z => by
          subst z
          exact it ((hI _ _ (hGN i hi).2 (Or.inl z8)).2)
        have tt : t' ≠ t := fun z => by
          subst z
          have nx : nxt D G i = (G (i + 1) : Int) := if_pos hiD
          rw [nx, t27] at z4
          omega
        refine Or.inr ⟨t', u, z1, ⟨z2, by rw [kT 625 _ (by omega) (by omega)]; exact z3, by rw [kT 627 _ (by omega) (by omega), z4], by rw [kS2 i 7 hiD, z5, fψ _ tt]⟩, ⟨z6, by rw [kT 625 _ (by omega) (by omega)]; exact z7, by rw [kT 626 _ (by omega) (by omega), z8], by rw [kS2 i 6 hiD, z9, fψ _ ut]⟩, ?_⟩
        rcases z10 with ⟨y1, y2⟩ | ⟨b, y1, y2, y3, y4, y5, y6⟩
        · exact Or.inl ⟨y1, by rw [kS2 i 8 hiD, y2]⟩
        · have bt : b ≠ t := fun z => by
            subst z
            rw [t27] at y5
            omega
          exact Or.inr ⟨b, y1, y2, y3, by rw [kT 625 _ (by omega) (by omega)]; exact y4, by rw [kT 627 _ (by omega) (by omega), y5], by rw [kS2 i 8 hiD, y6, fψ _ bt]⟩
  · -- groups
    obtain ⟨⟨z1, z2, z3, z4, z5⟩, z6, z7, z8, z9, z10⟩ := (ho i hi).2.2
    have gt : 3840 + G i ≠ 3840 + t ∧ 3840 + R i ≠ 3840 + t := by
      have := cO t i ct hi
      omega
    unfold OGr
    rw [kT 625 _ (by omega) (by omega), kT 627 _ (by omega) (by omega), kT1 630 _ (by omega) (by omega) gt.2, kT 627 _ (by omega) (by omega), kT1 630 _ (by omega) (by omega) gt.1, kT 625 _ (by omega) (by omega), kT 629 _ (by omega) (by omega), kT 628 _ (by omega) (by omega), kT2 649 _ (by omega), kT2 650 _ (by omega), kS i 0 hi (by omega), kS i 1 hi (by omega), kS i 2 hi (by omega), kS i 3 hi (by omega)]
    exact ⟨⟨z1, z2, z3, z4, z5⟩, z6, z7, z8, z9, z10⟩
  · -- nodes
    have hmN := hn m hm
    have Sl : ∀ b j, b < M → 1 ≤ j → j ≤ 4 → S2.1 (k + j) b = S.1 (k + j) b := fun b j h1 h2 h3 => s3 _ _ (by omega) (by omega) (by omega) (by omega) (by rcases B with z | ⟨b', u, z⟩ <;> omega)
    have Sm : ∀ b, b < M → ¬ (inn t = own b ∧ inn t ≠ R D) → S2.1 (k + 5) b = S.1 (k + 5) b := fun b h1 h2 => s3 _ _ (by omega) (by omega) (by omega) (by omega) (fun z => by
      rcases B with ⟨_, _, _, a4, _⟩ | ⟨b', u, a1, a2, a3, a4, a5, a6, a7, a8, a9⟩
      · omega
      · apply h2
        have : b = ψ b' := by omega
        subst this
        rw [(oψ b' a1).1]
        exact ⟨a5, fun w => (cO b' D a1 (Nat.le_refl _)).2 (a5.symm.trans w)⟩)
    -- links of the others
    have lψ : ∀ x y : Int, (∀ w : Nat, x = (w : Int) → w ≠ t) → lnk N (clo N D G R) ψ x y → lnk N (clo N D G R) (nup ψ t (M + 2)) x y := fun x y hx hl => by
      rcases hl with hl | ⟨w, h1, h2, ⟨h3, h4⟩ | ⟨h3, h4⟩⟩
      · exact Or.inl hl
      · exact Or.inr ⟨w, h1, h2, Or.inl ⟨h3, h4⟩⟩
      · exact Or.inr ⟨w, h1, h2, Or.inr ⟨h3, by rw [fψ w (hx w h1)]; exact h4⟩⟩
    obtain ⟨⟨g1, g2, g3, g4⟩, g5, g6, g7⟩ := hmN
    have K2 : KD k (φ m) m S2 T2 := by
      unfold KD at g5 ⊢
      rw [Sl _ 1 g1 (by omega) (by omega), Sl _ 2 g1 (by omega) (by omega), Sl _ 3 g1 (by omega) (by omega), s4, t3, kT 625 _ (by omega) (by omega), kT 628 _ (by omega) (by omega), kT 629 _ (by omega) (by omega)]
      exact g5
    have itt : inn t ≠ t := fun z => by
      rcases B with ⟨a1, a2, a3, a4, a5⟩ | ⟨b, u', a1, a2, a3, a4, a5, a6, a7, a8, a9⟩
      · exact (cO t D ct (Nat.le_refl _)).2 (z.symm.trans a2)
      · exact a2 (a5.symm.trans z)
    have oM : ∀ b, b < M → nup (nup (nup own M t) (M + 1) t) (M + 2) t b = own b := fun b hb => by rw [nup_ne (by omega), nup_ne (by omega), nup_ne (by omega)]
    by_cases em : m = t
    · subst em
      refine ⟨⟨by omega, by rw [nup_eq]; omega, by rw [oM _ g1, g3], by rw [nup_eq, nup_eq]⟩, K2, ?_, Or.inr ⟨by rw [kT 625 _ (by omega) (by omega)]; exact t18, ?_, ?_⟩⟩
      · rw [nup_eq]
        refine Or.inr (Or.inr ⟨⟨d1, Nat.ne_of_lt (Nat.lt_of_lt_of_le g1 (Nat.le_add_right _ _))⟩, M + 1, M, ⟨Nat.lt_succ_of_lt (Nat.lt_succ_self _), Nat.lt_add_of_pos_right (by decide), ?_, ?_, Nat.ne_of_lt (Nat.lt_succ_self _), Nat.ne_of_lt (Nat.lt_add_of_pos_right (by decide))⟩, ⟨y1, y2⟩, ⟨x1, x2, x3⟩, ⟨c2, by rw [c5, tl7, ψφ], by rw [c3, d2], by rw [c4, d3], c6⟩, ?_⟩)
        · rw [nup_ne (Nat.ne_of_lt (Nat.lt_succ_self _)), nup_eq]
        · rw [nup_ne (Nat.ne_of_lt (Nat.lt_add_of_pos_right (by decide))), nup_ne (Nat.ne_of_lt (Nat.lt_succ_self _)), nup_eq]
        · rw [Sm _ g1 (fun z => itt (z.1.trans g3)), s5]
      · rw [kT 626 _ (by omega) (by omega), Sl _ 4 g1 (by omega) (by omega)]
        rcases g7 with ⟨z, _⟩ | ⟨_, z, _⟩
        · exact absurd z t18
        · exact z
      · rw [kT 627 _ (by omega) (by omega), nup_eq]
        exact Or.inl ⟨t27, y3⟩
    · unfold NR
      rw [fψ m em]
      refine ⟨⟨by omega, by omega, by rw [oM _ g1, g3], by rw [oM _ g2, g4]⟩, K2, rpt_c g6 (by omega) (fun b hb => oM b hb) ⟨g1, g3⟩ ⟨g2, g4⟩ (fun b j b1 b2 b3 b4 b5 => ?_) (fun c a1 a2 _ => ?_), ?_⟩
      · refine s3 _ _ (by omega) (by omega) (by omega) (by omega) (fun z => ?_)
        rcases B with ⟨_, _, _, a4, _⟩ | ⟨b', u, a1, a2, a3, a4, a5, a6, a7, a8, a9⟩
        · omega
        · have hb : b = ψ b' := by omega
          subst hb
          rw [(oψ b' a1).1] at b2
          subst b2
          exact b5 ⟨rfl, by omega⟩
      · by_cases e : c ≤ 629
        · exact kT c _ a1 e
        · exact kT1 c _ (by omega) a2 (by omega)
      · rw [kT 625 _ (by omega) (by omega), kT 626 _ (by omega) (by omega), kT 627 _ (by omega) (by omega), Sl _ 4 g1 (by omega) (by omega)]
        have nR : ¬ (inn t = own (ψ m) ∧ inn t ≠ R D) → S2.1 (k + 5) (ψ m) = S.1 (k + 5) (ψ m) := Sm _ g2
        rw [g4] at nR
        rcases g7 with ⟨z1, z2, z3⟩ | ⟨z1, z2, z3⟩
        · have ni : ¬ (inn t = m ∧ inn t ≠ R D) := fun w => by
            rcases B with ⟨a1, a2, a3, a4, a5⟩ | ⟨b, u', a1, a2, a3, a4, a5, a6, a7, a8, a9⟩
            · exact w.2 a2
            · have : b = m := a5.symm.trans w.1
              subst this
              exact a3 z1
          refine Or.inl ⟨z1, lψ _ _ (fun w hw e => ?_) z2, by rw [nR ni]; exact z3⟩
          subst e
          have i1 := (hI m w hm.1 (Or.inl hw)).2
          exact ni ⟨i1, fun y => (cO m D hm (Nat.le_refl _)).2 (i1.symm.trans y)⟩
        · refine Or.inr ⟨z1, z2, ?_⟩
          by_cases ni : inn t = m
          · rcases B with ⟨a1, a2, a3, a4, a5⟩ | ⟨b, u', a1, a2, a3, a4, a5, a6, a7, a8, a9⟩
            · exact absurd (ni.symm.trans a2) (cO m D hm (Nat.le_refl _)).2
            · have : b = m := a5.symm.trans ni
              subst this
              subst a6 a7
              exact Or.inr ⟨t, a4, ct.1, Or.inr ⟨ct, by rw [c8, nup_eq]⟩⟩
          · refine lψ _ _ (fun w hw e => ?_) (by rw [nR (fun w => ni w.1)]; exact z3)
            subst e
            exact ni (hI m w hm.1 (Or.inr hw)).2
end REPT2
