/-! THE READER'S TABLES: the group that is open ends -/
section CLOSEG
variable {k N M D m : Nat} {φ ψ own inn G R : Nat → Nat} {P q : Nat → Int} {S T S2 T2 : ev_St}
theorem RDR_close {F : Int} (h : RDR k N M (D + 1) φ ψ own G R P q S T) (hkr : 232 ≤ k) (hL : LKS N inn T) (s1 : S2.1 k 11 = (M : Int) + 2 ∧ S2.1 3 10 = (D : Int)) (s2 : S2.1 (k + 1) M = 15 ∧ S2.1 (k + 4) M = S.1 (17 + (D + 1)) 6 ∧ S2.1 (k + 5) M = -1) (s3 : S2.1 (k + 1) (M + 1) = S.1 (17 + (D + 1)) 0 ∧ S2.1 (k + 2) (M + 1) = S.1 (17 + (D + 1)) 1 ∧ S2.1 (k + 4) (M + 1) = F ∧ S2.1 (k + 5) (M + 1) = -1) (s4 : (S.1 (17 + (D + 1)) 5 = -1 → F = (M : Int)) ∧ ∀ b : Nat, S.1 (17 + (D + 1)) 5 = (b : Int) → F = S.1 (17 + (D + 1)) 4 ∧ S2.1 (k + 5) b = (M : Int)) (s5 : S2.1 (17 + D) 7 = (M : Int) + 1 ∧ S2.1 (17 + D) 8 = S.1 (17 + D) 7) (s5a : (S.1 (17 + D) 7 = -1 → S2.1 (17 + D) 6 = (M : Int) + 1) ∧ ∀ b : Nat, S.1 (17 + D) 7 = (b : Int) → S2.1 (17 + D) 6 = S.1 (17 + D) 6 ∧ S2.1 (k + 5) b = (M : Int) + 1) (s6 : ∀ i, i < D → S2.1 (17 + i) = S.1 (17 + i)) (s6a : ∀ g, g ≤ 5 → S2.1 (17 + D) g = S.1 (17 + D) g) (s7 : ∀ j b, 1 ≤ j → j ≤ 5 → b < M → ¬ (j = 5 ∧ (S.1 (17 + (D + 1)) 5 = (b : Int) ∨ S.1 (17 + D) 7 = (b : Int))) → S2.1 (k + j) b = S.1 (k + j) b) (s8 : S2.2.1 = S.2.1) (t1 : T2.1 635 12 = T.1 635 12 ∧ T2.1 621 31 = (D : Int) + 1 ∧ T2.1 621 37 = T.1 647 (D + 1) ∧ T2.1 621 38 = T.1 648 (D + 1)) (t2 : ∀ c, 625 ≤ c → c ≤ 632 → T2.1 c = T.1 c) (tg : ∀ c, 646 ≤ c → c ≤ 650 → T2.1 c = T.1 c) (tL : ∀ c, 633 ≤ c → c ≤ 634 → T2.2.1 c = T.2.1 c) : RDR k N (M + 2) D (nup (nup φ (R (D + 1)) M) (G (D + 1)) (M + 1)) (nup (nup ψ (R (D + 1)) M) (G (D + 1)) (M + 1)) (nup (nup own M (R (D + 1))) (M + 1) (G (D + 1))) G R (iup P D (G (D + 1) : Int)) q S2 T2 := by
  obtain ⟨hI, hI2, hW⟩ := hL
  obtain ⟨⟨e1, e2, e3, e4, e5⟩, hG, hst, ⟨e6, e7⟩, ho, hn⟩ := h
  have hGN : ∀ i, i ≤ D + 1 → G i < N ∧ R i < N := fun i hi => ⟨(hG i hi).1, (hG i hi).2.1⟩
  have gD := hG (D + 1) (Nat.le_refl _)
  have hsD := (hst D (Nat.le_succ _)).2 (Nat.lt_succ_self _)
  obtain ⟨r0, hr0⟩ : ∃ x, x = R (D + 1) := ⟨_, rfl⟩
  obtain ⟨g0, hg0⟩ : ∃ x, x = G (D + 1) := ⟨_, rfl⟩
  have r0N : r0 < N := by rw [hr0]; exact gD.2.1
  have g0N : g0 < N := by rw [hg0]; exact gD.1
  have gr : g0 ≠ r0 := by rw [hg0, hr0]; exact (gD.2.2 (D + 1) (Nat.le_refl _)).1
  have nG : ∀ i, i ≤ D → G i ≠ r0 ∧ G i ≠ g0 ∧ R i ≠ r0 ∧ R i ≠ g0 := fun i hi => by
    have a := (hG i (Nat.le_succ_of_le hi)).2.2 (D + 1) (Nat.le_refl _)
    have b := gD.2.2 i (Nat.le_succ_of_le hi)
    have c := a.2 (Nat.ne_of_lt (Nat.lt_succ_of_le hi))
    rw [hr0, hg0]
    exact ⟨a.1, c.1, c.2, fun z => b.1 z.symm⟩
  have cO : ∀ t i, clo N (D + 1) G R t → i ≤ D + 1 → t ≠ G i ∧ t ≠ R i := fun t i ht hi => ⟨fun z => ht.2 ⟨i, hi, Or.inl z⟩, fun z => ht.2 ⟨i, hi, Or.inr z⟩⟩
  have cr : ∀ t, clo N (D + 1) G R t → t ≠ g0 ∧ t ≠ r0 := fun t ht => by rw [hr0, hg0]; exact cO t (D + 1) ht (Nat.le_refl _)
  have cE : ∀ t, clo N D G R t ↔ clo N (D + 1) G R t ∨ t = r0 ∨ t = g0 := fun t => by
    constructor
    · rintro ⟨z1, z2⟩
      by_cases e : t = r0
      · exact Or.inr (Or.inl e)
      · by_cases e' : t = g0
        · exact Or.inr (Or.inr e')
        · refine Or.inl ⟨z1, fun ⟨i, hi, w⟩ => ?_⟩
          by_cases eD : i = D + 1
          · subst eD
            rw [← hr0, ← hg0] at w
            rcases w with w | w
            · exact e' w
            · exact e w
          · exact z2 ⟨i, by omega, w⟩
    · rintro (z | z | z)
      · exact ⟨z.1, fun ⟨i, hi, w⟩ => z.2 ⟨i, Nat.le_succ_of_le hi, w⟩⟩
      · refine ⟨by omega, fun ⟨i, hi, w⟩ => ?_⟩
        have := nG i hi
        omega
      · refine ⟨by omega, fun ⟨i, hi, w⟩ => ?_⟩
        have := nG i hi
        omega
  have cU : ∀ t, clo N (D + 1) G R t → clo N D G R t := fun t ht => (cE t).mpr (Or.inl ht)
  have cr0 : clo N D G R r0 := (cE r0).mpr (Or.inr (Or.inl rfl))
  have cg0 : clo N D G R g0 := (cE g0).mpr (Or.inr (Or.inr rfl))
  have fφ : ∀ (f : Nat → Nat) t, clo N (D + 1) G R t → nup (nup f r0 M) g0 (M + 1) t = f t := fun f t ht => by rw [nup_ne (cr t ht).1, nup_ne (cr t ht).2]
  have fr : ∀ (f : Nat → Nat), nup (nup f r0 M) g0 (M + 1) r0 = M := fun f => by rw [nup_ne (fun z => gr z.symm), nup_eq]
  have fg : ∀ (f : Nat → Nat), nup (nup f r0 M) g0 (M + 1) g0 = M + 1 := fun f => nup_eq
  obtain ⟨⟨o1, o2, o3, o4, o5⟩, o6, o7, o8, o9, o10⟩ := (ho (D + 1) (Nat.le_refl _)).2.2
  rw [if_neg (Nat.succ_ne_zero D)] at o7
  have pe : ∀ t, clo N (D + 1) G R t → T.1 625 (3840 + t) = 18 → ψ t = φ t := fun t a2 a3 => by
    have w0 := hW t a2.1 a3
    rcases (hn t a2).2.2.1 with ⟨_, w⟩ | ⟨⟨w, _⟩, _⟩ | ⟨⟨w, _⟩, _⟩
    · exact w
    · rcases w with w | w <;> (rw [w0] at w; exact absurd w (by decide))
    · rw [w0] at w
      exact absurd w (by decide)
  -- where r0 and g0 are linked
  have QD : (T.1 626 (3840 + g0) = (r0 : Int) ∧ S.1 (17 + (D + 1)) 5 = -1 ∧ F = (M : Int) ∧ inn r0 = g0) ∨ ∃ t u : Nat, (clo N (D + 1) G R t ∧ T.1 625 (3840 + t) = 18 ∧ T.1 627 (3840 + t) = (r0 : Int) ∧ S.1 (17 + (D + 1)) 5 = (φ t : Int)) ∧ (clo N (D + 1) G R u ∧ T.1 626 (3840 + g0) = (u : Int) ∧ F = (φ u : Int)) ∧ S2.1 (k + 5) (φ t) = (M : Int) ∧ inn r0 = t := by
    rw [hr0, hg0]
    rcases (ho (D + 1) (Nat.le_refl _)).1 with ⟨z1, z2, z3, z4⟩ | ⟨t, u, z1, ⟨z2, z3, z4, z5⟩, z6, z7, z8, z9⟩
    · exact Or.inl ⟨z2, z4, s4.1 z4, (hI _ _ gD.1 (Or.inl z2)).2⟩
    · exact Or.inr ⟨t, u, ⟨z2, z3, z4, z5⟩, ⟨z6, z8, by rw [(s4.2 _ z5).1, z9]⟩, (s4.2 _ z5).2, (hI _ _ z2.1 (Or.inr z4)).2⟩
  have PD : (T.1 626 (3840 + r0) = -1 ∧ S.1 (17 + (D + 1)) 6 = -1) ∨ ∃ u : Nat, clo N (D + 1) G R u ∧ T.1 626 (3840 + r0) = (u : Int) ∧ S.1 (17 + (D + 1)) 6 = (ψ u : Int) := by
    rw [hr0]
    rcases (ho (D + 1) (Nat.le_refl _)).2.1 with ⟨z1, z2, z3, z4⟩ | ⟨t, u, z1, ⟨z2, z3, z4, z5⟩, ⟨z6, z7, z8, z9⟩, z10⟩
    · exact Or.inl ⟨z2.trans (if_neg (Nat.lt_irrefl _)), z3⟩
    · exact Or.inr ⟨u, z6, z8, z9⟩
  have ID : (T.1 626 (3840 + R D) = (g0 : Int) ∧ S.1 (17 + D) 7 = -1 ∧ S2.1 (17 + D) 6 = (M : Int) + 1 ∧ inn g0 = R D) ∨ ∃ t u : Nat, (clo N (D + 1) G R t ∧ T.1 625 (3840 + t) ≠ 18 ∧ T.1 627 (3840 + t) = (g0 : Int) ∧ S.1 (17 + D) 7 = (ψ t : Int)) ∧ (clo N (D + 1) G R u ∧ T.1 625 (3840 + u) ≠ 18 ∧ T.1 626 (3840 + R D) = (u : Int) ∧ S2.1 (17 + D) 6 = (ψ u : Int)) ∧ S2.1 (k + 5) (ψ t) = (M : Int) + 1 ∧ inn g0 = t := by
    have nx : nxt (D + 1) G D = (g0 : Int) := by rw [hg0]; exact if_pos (Nat.lt_succ_self _)
    rcases (ho D (Nat.le_succ _)).2.1 with ⟨z1, z2, z3, z4⟩ | ⟨t, u, z1, ⟨z2, z3, z4, z5⟩, ⟨z6, z7, z8, z9⟩, z10⟩
    · rw [nx] at z2
      exact Or.inl ⟨z2, z4, s5a.1 z4, (hI _ _ (hGN D (Nat.le_succ _)).2 (Or.inl z2)).2⟩
    · rw [nx] at z4
      exact Or.inr ⟨t, u, ⟨z2, z3, z4, z5⟩, ⟨z6, z7, z8, by rw [(s5a.2 _ z5).1, z9]⟩, (s5a.2 _ z5).2, (hI _ _ z2.1 (Or.inr z4)).2⟩
  rw [← hg0] at o4 o5 o6 o7 o8 hsD
  rw [← hr0] at o1 o2 o3
  rw [← hr0, ← hg0]
  have oφ : ∀ t, clo N (D + 1) G R t → own (φ t) = t ∧ φ t < M ∧ own (ψ t) = t ∧ ψ t < M := fun t ht => ⟨(hn t ht).1.2.2.1, (hn t ht).1.1, (hn t ht).1.2.2.2, (hn t ht).1.2.1⟩
  refine ⟨⟨by rw [t1.1, e1], by omega, s1.2, t1.2.1, by omega⟩, fun i hi => ⟨(hGN i (by omega)).1, (hGN i (by omega)).2, fun j hj => (hG i (by omega)).2.2 j (by omega)⟩, fun i hi => ?_, ⟨by rw [t1.2.2.1]; exact hsD.1, by rw [t1.2.2.2, iup_eq]; exact hsD.2⟩, fun i hi => ?_, fun m hm => ?_⟩
  · rw [tg 646 (by decide) (by decide), tg 647 (by decide) (by decide), tg 648 (by decide) (by decide)]
    exact ⟨(hst i (by omega)).1, fun w => (hst i (by omega)).2 (by omega)⟩
  · have hi1 : i ≤ D + 1 := Nat.le_succ_of_le hi
    refine ⟨?_, ?_, ?_⟩
    · have k45 : S2.1 (17 + i) 4 = S.1 (17 + i) 4 ∧ S2.1 (17 + i) 5 = S.1 (17 + i) 5 := by
        by_cases eD : i = D
        · subst eD
          exact ⟨s6a 4 (by decide), s6a 5 (by decide)⟩
        · rw [s6 i (Nat.lt_of_le_of_ne hi eD)]
          exact ⟨rfl, rfl⟩
      unfold ORw
      rw [t2 625 (by decide) (by decide), t2 626 (by decide) (by decide), t2 627 (by decide) (by decide), k45.1, k45.2]
      rcases (ho i hi1).1 with z | ⟨t, u, z1, ⟨z2, z3, z4, z5⟩, z6, z7, z8, z9⟩
      · exact Or.inl z
      · exact Or.inr ⟨t, u, z1, ⟨cU t z2, z3, z4, by rw [z5, fφ φ t z2]⟩, cU u z6, z7, z8, by rw [z9, fφ φ u z6]⟩
    · unfold OIt
      rw [t2 625 (by decide) (by decide), t2 626 (by decide) (by decide), t2 627 (by decide) (by decide)]
      by_cases eD : i = D
      · subst eD
        rw [iup_eq]
        have nx : nxt i G i = -1 := if_neg (Nat.lt_irrefl _)
        rw [nx]
        have g18 : T.1 625 (3840 + g0) ≠ 18 := by omega
        rcases ID with ⟨a1, a2, a3, a4⟩ | ⟨t, u, ⟨a1, a2, a3, a4⟩, ⟨a5, a6, a7, a8⟩, a9, a10⟩
        · exact Or.inr ⟨g0, g0, rfl, ⟨cg0, g18, o4, by rw [s5.1, fg]; rfl⟩, ⟨cg0, g18, a1, by rw [a3, fg]; rfl⟩, Or.inl ⟨rfl, by rw [s5.2, a2]⟩⟩
        · exact Or.inr ⟨g0, u, rfl, ⟨cg0, g18, o4, by rw [s5.1, fg]; rfl⟩, ⟨cU u a5, a6, a7, by rw [a8, fφ ψ u a5]⟩, Or.inr ⟨t, cU t a1, (cr t a1).1, (cr u a5).1, a2, a3, by rw [s5.2, a4, fφ ψ t a1]⟩⟩
      · have hiD : i < D := Nat.lt_of_le_of_ne hi eD
        have nx : nxt D G i = nxt (D + 1) G i := by
          unfold nxt
          rw [if_pos hiD, if_pos (Nat.lt_succ_of_lt hiD)]
        rw [iup_ne eD, nx, s6 i hiD]
        rcases (ho i hi1).2.1 with z | ⟨t, u, z1, ⟨z2, z3, z4, z5⟩, ⟨z6, z7, z8, z9⟩, z10⟩
        · exact Or.inl z
        · refine Or.inr ⟨t, u, z1, ⟨cU t z2, z3, z4, by rw [z5, fφ ψ t z2]⟩, ⟨cU u z6, z7, z8, by rw [z9, fφ ψ u z6]⟩, ?_⟩
          rcases z10 with y | ⟨b, y1, y2, y3, y4, y5, y6⟩
          · exact Or.inl y
          · exact Or.inr ⟨b, cU b y1, y2, y3, y4, y5, by rw [y6, fφ ψ b y1]⟩
    · have kk : ∀ g, g ≤ 3 → S2.1 (17 + i) g = S.1 (17 + i) g := fun g hg => by
        by_cases eD : i = D
        · subst eD
          exact s6a g (by omega)
        · rw [s6 i (Nat.lt_of_le_of_ne hi eD)]
      have q0 := (ho i hi1).2.2
      unfold OGr at q0 ⊢
      rw [t2 625 (by decide) (by decide), t2 627 (by decide) (by decide), t2 628 (by decide) (by decide), t2 629 (by decide) (by decide), t2 630 (by decide) (by decide), tg 649 (by decide) (by decide), tg 650 (by decide) (by decide), kk 0 (by decide), kk 1 (by decide), kk 2 (by decide), kk 3 (by decide)]
      exact q0
  · have lk : ∀ (f : Nat → Nat) (x y : Int), (∀ w : Nat, x = (w : Int) → w ≠ r0 ∧ w ≠ g0) → lnk N (clo N (D + 1) G R) f x y → lnk N (clo N D G R) (nup (nup f r0 M) g0 (M + 1)) x y := fun f x y hx hl => by
      rcases hl with hl | ⟨w, h1, h2, ⟨h3, h4⟩ | ⟨h3, h4⟩⟩
      · exact Or.inl hl
      · refine Or.inr ⟨w, h1, h2, Or.inl ⟨fun z => ?_, h4⟩⟩
        rcases (cE w).mp z with z | z | z
        · exact h3 z
        · exact (hx w h1).1 z
        · exact (hx w h1).2 z
      · exact Or.inr ⟨w, h1, h2, Or.inr ⟨cU w h3, by rw [fφ f w h3]; exact h4⟩⟩
    have oM : ∀ b, b < M → nup (nup own M r0) (M + 1) g0 b = own b := fun b hb => by rw [nup_ne (Nat.ne_of_lt (Nat.lt_succ_of_lt hb)), nup_ne (Nat.ne_of_lt hb)]
    have o0 : nup (nup own M r0) (M + 1) g0 M = r0 := by rw [nup_ne (Nat.ne_of_lt (Nat.lt_succ_self _)), nup_eq]
    have o00 : nup (nup own M r0) (M + 1) g0 (M + 1) = g0 := nup_eq
    unfold NR
    rw [t2 625 (by decide) (by decide), t2 626 (by decide) (by decide), t2 627 (by decide) (by decide)]
    rcases (cE m).mp hm with hm | em | em
    · obtain ⟨⟨g1, g2, g3, g4⟩, g5, g6, g7⟩ := hn m hm
      have Sl : ∀ b j, b < M → 1 ≤ j → j ≤ 4 → S2.1 (k + j) b = S.1 (k + j) b := fun b j h1 h2 h3 => s7 j b h2 (by omega) h1 (by omega)
      have who : ∀ b : Nat, (S.1 (17 + (D + 1)) 5 = (b : Int) ∨ S.1 (17 + D) 7 = (b : Int)) → (inn r0 = own b ∧ ∃ t, clo N (D + 1) G R t ∧ T.1 625 (3840 + t) = 18 ∧ b = φ t) ∨ (inn g0 = own b ∧ ∃ t, clo N (D + 1) G R t ∧ b = ψ t) := fun b hb => by
        rcases hb with hb | hb
        · rcases QD with ⟨a1, a2, _⟩ | ⟨t, u, ⟨a1, a2, a3, a4⟩, _, a6, a7⟩
          · omega
          · have hb : b = φ t := by omega
            exact Or.inl ⟨by rw [hb, (oφ t a1).1, a7], t, a1, a2, hb⟩
        · rcases ID with ⟨a1, a2, _⟩ | ⟨t, u, ⟨a1, a2, a3, a4⟩, _, a6, a7⟩
          · omega
          · have hb : b = ψ t := by omega
            exact Or.inr ⟨by rw [hb, (oφ t a1).2.2.1, a7], t, a1, hb⟩
      have Sm : ∀ b, b < M → inn r0 ≠ own b → inn g0 ≠ own b → S2.1 (k + 5) b = S.1 (k + 5) b := fun b h1 h2 h3 => s7 5 b (by decide) (by decide) h1 (fun z => by
        rcases who b z.2 with w | w
        · exact h2 w.1
        · exact h3 w.1)
      rw [fφ φ m hm, fφ ψ m hm]
      refine ⟨⟨by omega, by omega, by rw [oM _ g1, g3], by rw [oM _ g2, g4]⟩, ?_, rpt_c g6 (Nat.le_add_right _ _) oM ⟨g1, g3⟩ ⟨g2, g4⟩ (fun b j b1 b2 b3 b4 b5 => ?_) (fun c a1 a2 a3 => by rw [t2 c a1 a2]), ?_⟩
      · exact KD_c g5 (fun j a b => Sl _ j g1 a (by omega)) (fun j _ _ => by rw [s8]) (fun c a b d => by rw [t2 c a b]) (fun c a b => by rw [tL c a b])
      · refine s7 j b b3 b4 b1 (fun z => ?_)
        rcases who b z.2 with ⟨_, t, w1, w2, w3⟩ | ⟨_, t, w1, w3⟩
        · have tm : t = m := by rw [← b2, w3, (oφ t w1).1]
          subst tm
          exact b5 ⟨by rw [w3, pe t w1 w2], z.1⟩
        · have tm : t = m := by rw [← b2, w3, (oφ t w1).2.2.1]
          subst tm
          exact b5 ⟨w3, z.1⟩
      · rw [Sl _ 4 g1 (by decide) (by decide)]
        have iR : ∀ w : Nat, w = r0 → (T.1 626 (3840 + m) = (w : Int) ∨ T.1 627 (3840 + m) = (w : Int)) → inn r0 = m := fun w hw hh => by
          subst hw
          exact (hI m w hm.1 hh).2
        have iG : ∀ w : Nat, w = g0 → (T.1 626 (3840 + m) = (w : Int) ∨ T.1 627 (3840 + m) = (w : Int)) → inn g0 = m := fun w hw hh => by
          subst hw
          exact (hI m w hm.1 hh).2
        have row : inn r0 = m → T.1 625 (3840 + m) = 18 ∧ T.1 627 (3840 + m) = (r0 : Int) ∧ S2.1 (k + 5) (φ m) = (M : Int) := fun hh => by
          rcases QD with ⟨a1, a2, a3, a4⟩ | ⟨t, u, ⟨a1, a2, a3, a4⟩, _, a6, a7⟩
          · exact absurd (hh.symm.trans a4) (cr m hm).1
          · have tm : t = m := a7.symm.trans hh
            subst tm
            exact ⟨a2, a3, a6⟩
        have itm : inn g0 = m → T.1 625 (3840 + m) ≠ 18 ∧ T.1 627 (3840 + m) = (g0 : Int) ∧ S2.1 (k + 5) (ψ m) = (M : Int) + 1 := fun hh => by
          rcases ID with ⟨a1, a2, a3, a4⟩ | ⟨t, u, ⟨a1, a2, a3, a4⟩, _, a6, a7⟩
          · exact absurd (hh.symm.trans a4) (cO m D hm (Nat.le_succ _)).2
          · have tm : t = m := a7.symm.trans hh
            subst tm
            exact ⟨a2, a3, a6⟩
        by_cases ei : inn r0 = m
        · obtain ⟨w1, w2, w3⟩ := row ei
          rcases g7 with ⟨z1, z2, z3⟩ | ⟨z1, _⟩
          · refine Or.inl ⟨z1, lk _ _ _ (fun w hw => ⟨fun e => ?_, fun e => ?_⟩) z2, Or.inr ⟨r0, w2, r0N, Or.inr ⟨cr0, by rw [pe m hm w1, w3, fr]⟩⟩⟩
            · subst e
              exact hI2 m w hm.1 ⟨hw, w2⟩
            · exact (itm (iG w e (Or.inl hw))).1 w1
          · exact absurd w1 z1
        · by_cases ej : inn g0 = m
          · obtain ⟨w1, w2, w3⟩ := itm ej
            rcases g7 with ⟨z1, _⟩ | ⟨z1, z2, z3⟩
            · exact absurd z1 w1
            · refine Or.inr ⟨z1, lk _ _ _ (fun w hw => ⟨fun e => ei (iR w e (Or.inl hw)), fun e => ?_⟩) z2, Or.inr ⟨g0, w2, g0N, Or.inr ⟨cg0, by rw [w3, fg]; rfl⟩⟩⟩
              subst e
              exact hI2 m w hm.1 ⟨hw, w2⟩
          · rw [Sm _ g2 (by rw [g4]; exact ei) (by rw [g4]; exact ej)]
            have l1 : ∀ w : Nat, T.1 626 (3840 + m) = (w : Int) → w ≠ r0 ∧ w ≠ g0 := fun w hw => ⟨fun e => ei (iR w e (Or.inl hw)), fun e => ej (iG w e (Or.inl hw))⟩
            have l2 : ∀ w : Nat, T.1 627 (3840 + m) = (w : Int) → w ≠ r0 ∧ w ≠ g0 := fun w hw => ⟨fun e => ei (iR w e (Or.inr hw)), fun e => ej (iG w e (Or.inr hw))⟩
            rcases g7 with ⟨z1, z2, z3⟩ | ⟨z1, z2, z3⟩
            · exact Or.inl ⟨z1, lk _ _ _ l1 z2, lk _ _ _ l2 z3⟩
            · exact Or.inr ⟨z1, lk _ _ _ l1 z2, lk _ _ _ l2 z3⟩
    · subst em
      rw [fr, fr]
      refine ⟨⟨Nat.lt_add_of_pos_right (by decide), Nat.lt_add_of_pos_right (by decide), o0, o0⟩, ?_, Or.inl ⟨by rw [t2 630 (by decide) (by decide), o3], rfl⟩, Or.inl ⟨o1, ?_, Or.inl ⟨o2, s2.2.2⟩⟩⟩
      · unfold KD
        rw [t2 625 (by decide) (by decide), o1, s2.1]
        exact ⟨rfl, fun z => absurd z (by decide), fun z => absurd z (by decide), fun z => absurd z (by decide)⟩
      · rw [s2.2.1]
        rcases PD with z | ⟨u, z1, z2, z3⟩
        · exact Or.inl z
        · exact Or.inr ⟨u, z2, z1.1, Or.inr ⟨cU u z1, by rw [fφ ψ u z1]; exact z3⟩⟩
    · subst em
      rw [fg, fg]
      refine ⟨⟨Nat.lt_succ_self _, Nat.lt_succ_self _, o00, o00⟩, ?_, Or.inl ⟨by rw [t2 630 (by decide) (by decide), o5], rfl⟩, Or.inr ⟨by omega, ?_, Or.inl ⟨o4, s3.2.2.2⟩⟩⟩
      · unfold KD
        rw [t2 625 (by decide) (by decide), t2 628 (by decide) (by decide), t2 629 (by decide) (by decide), s3.1, s3.2.1, o7]
        exact ⟨rfl, fun z => by omega, fun z => o8 (by omega), fun z => by omega⟩
      · rw [s3.2.2.1]
        rcases QD with ⟨a1, a2, a3, a4⟩ | ⟨t, u, _, ⟨a5, a6, a7⟩, _⟩
        · exact Or.inr ⟨r0, a1, r0N, Or.inr ⟨cr0, by rw [a3, fr]⟩⟩
        · exact Or.inr ⟨u, a6, a5.1, Or.inr ⟨cU u a5, by rw [a7, fφ φ u a5]⟩⟩
end CLOSEG
