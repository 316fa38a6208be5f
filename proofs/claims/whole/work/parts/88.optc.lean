/-! THE READER'S TABLES: a new leaf on both sides -/
section LEAF
variable {k N M D m : Nat} {φ ψ own G R : Nat → Nat} {P q : Nat → Int} {S T S2 T2 : ev_St}
def nup (f : Nat → Nat) (N M t : Nat) : Nat := if t = N then M else f t
theorem nup_eq {f : Nat → Nat} {N M : Nat} : nup f N M N = M := if_pos rfl
theorem nup_ne {f : Nat → Nat} {N M t : Nat} (h : t ≠ N) : nup f N M t = f t := if_neg h
def iup (f : Nat → Int) (D : Nat) (x : Int) (t : Nat) : Int := if t = D then x else f t
theorem iup_eq {f : Nat → Int} {D : Nat} {x : Int} : iup f D x D = x := if_pos rfl
theorem iup_ne {f : Nat → Int} {D t : Nat} {x : Int} (h : t ≠ D) : iup f D x t = f t := if_neg h
theorem RDR_leaf {a b c : Int} (h : RDR k N M D φ ψ own G R P q S T) (hkr : 232 ≤ k) (s : LFc k D M a b c S S2) (sL : ∀ x g, ¬ ((x = k + 8 ∨ x = k + 9) ∧ g = M) → S2.2.1 x g = S.2.1 x g) (t1 : T2.1 635 12 = (N : Int) + 1 ∧ T2.1 621 38 = (N : Int) ∧ T2.1 (lkc (T.1 621 38)) (lkp (T.1 621 38) (T.1 621 37)) = (N : Int)) (tn : T2.1 626 (3840 + N) = -1 ∧ T2.1 627 (3840 + N) = -1 ∧ T2.1 630 (3840 + N) = -1 ∧ T2.1 625 (3840 + N) ≠ 18) (tf : ∀ c g, ¬ (c = 635 ∧ g = 12) → ¬ (625 ≤ c ∧ c ≤ 632 ∧ g = 3840 + N) → ¬ (c = 621 ∧ (g = 25 ∨ g = 27 ∨ g = 38 ∨ g = 39)) → ¬ (c = lkc (T.1 621 38) ∧ g = lkp (T.1 621 38) (T.1 621 37)) → T2.1 c g = T.1 c g) (tL : ∀ c g, ¬ (633 ≤ c ∧ c ≤ 634 ∧ g = 3840 + N) → T2.2.1 c g = T.2.1 c g) (hK : KD k M N S2 T2) : RDR k (N + 1) (M + 1) D (nup φ N M) (nup ψ N M) (nup own M N) G R (iup P D (N : Int)) q S2 T2 := by
  have hl := RDR_last h
  obtain ⟨⟨e1, e2, e3, e4, e5⟩, hG, hst, ⟨e6, e7⟩, ho, hn⟩ := h
  obtain ⟨⟨c1, c2, c3, c4, c5⟩, ⟨c6, c7, c8, c9, c10⟩, c11, c12⟩ := s
  obtain ⟨t2, t3, t4⟩ := t1
  obtain ⟨n1, n2, n3, n4⟩ := tn
  have hGD := hG D (Nat.le_refl _)
  have hGN : ∀ i, i ≤ D → G i < N ∧ R i < N := fun i hi => ⟨(hG i hi).1, (hG i hi).2.1⟩
  have cS : ∀ t, t < N → (clo (N + 1) D G R t ↔ clo N D G R t) := fun t ht => by
    rw [clo_s hGN]
    constructor
    · rintro (z | z)
      · exact z
      · omega
    · exact Or.inl
  have cUp : ∀ t, clo N D G R t → clo (N + 1) D G R t := fun t ht => (cS t ht.1).mpr ht
  have cN : clo (N + 1) D G R N := (clo_s hGN).mpr (Or.inr rfl)
  have cO : ∀ t i, clo N D G R t → i ≤ D → t ≠ G i ∧ t ≠ R i := fun t i ht hi => ⟨fun z => ht.2 ⟨i, hi, Or.inl z⟩, fun z => ht.2 ⟨i, hi, Or.inr z⟩⟩
  have fφ : ∀ (f : Nat → Nat) t, clo N D G R t → nup f N M t = f t := fun f t ht => nup_ne (by have := ht.1; omega)
  -- the links
  obtain ⟨lc, hlc⟩ : ∃ x, x = ckc k D (S.1 (17 + D) 7) := ⟨_, rfl⟩
  obtain ⟨lp, hlp⟩ : ∃ x, x = ckp (S.1 (17 + D) 7) := ⟨_, rfl⟩
  obtain ⟨rc, hrc⟩ : ∃ x, x = lkc (T.1 621 38) := ⟨_, rfl⟩
  obtain ⟨rp, hrp⟩ : ∃ x, x = lkp (T.1 621 38) (T.1 621 37) := ⟨_, rfl⟩
  have A : (P D = -1 ∧ S.1 (17 + D) 7 = -1 ∧ lc = 17 + D ∧ lp = 6 ∧ rc = 626 ∧ rp = 3840 + R D) ∨ ∃ t : Nat, P D = (t : Int) ∧ clo N D G R t ∧ S.1 (17 + D) 7 = (ψ t : Int) ∧ ψ t < M ∧ lc = k + 5 ∧ lp = ψ t ∧ rc = 627 ∧ rp = 3840 + t := by
    rcases hl with ⟨h1, h2⟩ | ⟨t, h1, h2, h3, h4⟩
    · refine Or.inl ⟨h1, h2, ?_, ?_, ?_, ?_⟩
      · rw [hlc, h2]; rfl
      · rw [hlp, h2]; rfl
      · rw [hrc, e7, h1]; rfl
      · rw [hrp, e7, h1, e6]
        unfold lkp
        rw [if_pos rfl]
        omega
    · refine Or.inr ⟨t, h1, h2, h3, h4, ?_, ?_, ?_, ?_⟩
      · rw [hlc, h3]
        unfold ckc
        rw [if_neg (by omega)]
      · rw [hlp, h3]
        unfold ckp
        rw [if_neg (by omega), Int.toNat_natCast]
      · rw [hrc, e7, h1]
        unfold lkc
        rw [if_neg (by omega)]
      · rw [hrp, e7, h1, e6]
        unfold lkp
        rw [if_neg (by omega)]
        omega
  rw [← hlc, ← hlp] at c10 c11
  rw [← hrc, ← hrp] at t4 tf
  -- what is kept
  have kS : ∀ i g, i ≤ D → g ≤ 5 → S2.1 (17 + i) g = S.1 (17 + i) g := fun i g h1 h2 => c11 _ _ (by omega) (by omega) (by omega) (by omega) (by rcases A with z | ⟨t, z⟩ <;> omega)
  have kS2 : ∀ i g, i < D → S2.1 (17 + i) g = S.1 (17 + i) g := fun i g h1 => c11 _ _ (by omega) (by omega) (by omega) (by omega) (by rcases A with z | ⟨t, z⟩ <;> omega)
  have kT : ∀ c g, 625 ≤ c → c ≤ 632 → g < N → ¬ (c = 626 ∧ P D = -1 ∧ g = R D) → ¬ (c = 627 ∧ P D = (g : Int)) → T2.1 c (3840 + g) = T.1 c (3840 + g) := fun c g h1 h2 h3 h4 h5 => tf _ _ (by omega) (by omega) (by omega) (by rcases A with z | ⟨t, z⟩ <;> omega)
  have kT2 : ∀ c g, 640 ≤ c → T2.1 c g = T.1 c g := fun c g h1 => tf _ _ (by omega) (by omega) (by omega) (by rcases A with z | ⟨t, z⟩ <;> omega)
  have PD : P D = -1 ∨ ∃ t : Nat, P D = (t : Int) ∧ clo N D G R t ∧ T.1 625 (3840 + t) ≠ 18 ∧ T.1 627 (3840 + t) = -1 := by
    rcases (ho D (Nat.le_refl _)).2.1 with ⟨z1, _⟩ | ⟨t, u, z1, ⟨z2, z3, z4, _⟩, _⟩
    · exact Or.inl z1
    · refine Or.inr ⟨t, z1, z2, z3, ?_⟩
      rw [z4]
      unfold nxt
      rw [if_neg (by omega)]
  have kN : ∀ t, clo N D G R t → T.1 627 (3840 + t) ≠ -1 → T2.1 627 (3840 + t) = T.1 627 (3840 + t) := fun t h1 h2 => kT 627 t (by omega) (by omega) h1.1 (by omega) (fun z => by
    rcases PD with y | ⟨u, y1, y2, y3, y4⟩
    · omega
    · have : u = t := by omega
      subst this
      exact h2 y4)
  refine ⟨⟨by omega, by omega, ?_, ?_, e5⟩, fun i hi => ⟨by have := hGN i hi; omega, by have := hGN i hi; omega, (hG i hi).2.2⟩, fun i hi => ⟨?_, fun hj => ⟨?_, ?_⟩⟩, ⟨?_, ?_⟩, fun i hi => ⟨?_, ?_, ?_⟩, fun m hm => ?_⟩
  · rw [c11 3 10 (by omega) (by omega) (by omega) (by omega) (by rcases A with z | ⟨t, z⟩ <;> omega), e3]
  · rw [tf 621 31 (by omega) (by omega) (by omega) (by rcases A with z | ⟨t, z⟩ <;> omega), e4]
  · rw [kT2 _ _ (by omega)]
    exact (hst i hi).1
  · rw [kT2 _ _ (by omega)]
    exact ((hst i hi).2 hj).1
  · rw [kT2 _ _ (by omega)]
    exact ((hst i hi).2 hj).2
  · rw [tf 621 37 (by omega) (by omega) (by omega) (by rcases A with z | ⟨t, z⟩ <;> omega), e6]
  · rw [t3, iup_eq]
  · -- rows
    rcases (ho i hi).1 with ⟨z1, z2, z3, z4⟩ | ⟨t, u, z1, ⟨z2, z3, z4, z5⟩, z6, z7, z8, z9⟩
    · refine Or.inl ⟨z1, ?_, ?_, ?_⟩
      · rw [kT 626 _ (by omega) (by omega) (hGN i hi).1 (fun y => ((hG i hi).2.2 D (Nat.le_refl _)).1 y.2.2) (by omega), z2]
      · rw [kS i 4 hi (by omega), z3]
      · rw [kS i 5 hi (by omega), z4]
    · refine Or.inr ⟨t, u, z1, ⟨cUp t z2, ?_, ?_, ?_⟩, cUp u z6, ?_, ?_, ?_⟩
      · rw [kT 625 _ (by omega) (by omega) z2.1 (by omega) (by omega), z3]
      · rw [kN t z2 (by omega), z4]
      · rw [kS i 5 hi (by omega), z5, fφ φ t z2]
      · rw [kT 625 _ (by omega) (by omega) z6.1 (by omega) (by omega), z7]
      · rw [kT 626 _ (by omega) (by omega) (hGN i hi).1 (fun y => ((hG i hi).2.2 D (Nat.le_refl _)).1 y.2.2) (by omega), z8]
      · rw [kS i 4 hi (by omega), z9, fφ φ u z6]
  · -- items
    by_cases eD : i = D
    · subst eD
      rw [iup_eq]
      have nx : nxt i G i = -1 := if_neg (by omega)
      rw [nx]
      rcases A with ⟨a1, a2, a3, a4, a5, a6⟩ | ⟨t, a1, a2, a3, a4, a5, a6, a7, a8⟩
      · subst a3 a4 a5 a6
        refine Or.inr ⟨N, N, rfl, ⟨cN, n4, n2, ?_⟩, ⟨cN, n4, t4, ?_⟩, Or.inl ⟨rfl, by rw [c9, a2]⟩⟩
        · rw [c8, nup_eq]
        · rw [c10, nup_eq]
      · subst a5 a6 a7 a8
        rcases (ho i hi).2.1 with ⟨z1, _⟩ | ⟨t', u, z1, ⟨z2, z3, z4, z5⟩, ⟨z6, z7, z8, z9⟩, _⟩
        · omega
        · have : t' = t := by omega
          subst this
          refine Or.inr ⟨N, u, rfl, ⟨cN, n4, n2, ?_⟩, ⟨cUp u z6, ?_, ?_, ?_⟩, Or.inr ⟨t', cUp t' a2, by have := a2.1; omega, by have := z6.1; omega, ?_, t4, ?_⟩⟩
          · rw [c8, nup_eq]
          · rw [kT 625 _ (by omega) (by omega) z6.1 (by omega) (by omega)]
            exact z7
          · rw [kT 626 _ (by omega) (by omega) (hGN i hi).2 (by omega) (by omega), z8]
          · rw [c11 _ _ (by omega) (by omega) (by omega) (by omega) (by omega), z9, fφ ψ u z6]
          · rw [kT 625 _ (by omega) (by omega) z2.1 (by omega) (by omega)]
            exact z3
          · rw [c9, a3, fφ ψ t' z2]
    · have nx : nxt D G i = (G (i + 1) : Int) := if_pos (by omega)
      rw [iup_ne eD]
      have hiD : i < D := Nat.lt_of_le_of_ne hi eD
      have rD : ¬ (R i = R D) := fun z => ((hG i hi).2.2 D (Nat.le_refl _)).2 eD |>.2 z
      rcases (ho i hi).2.1 with ⟨z1, z2, z3, z4⟩ | ⟨t, u, z1, ⟨z2, z3, z4, z5⟩, ⟨z6, z7, z8, z9⟩, z10⟩
      · refine Or.inl ⟨z1, ?_, ?_, ?_⟩
        · rw [kT 626 _ (by decide) (by decide) (hGN i hi).2 (fun z => rD z.2.2) (fun z => absurd z.1 (by decide)), z2]
        · rw [kS2 i 6 hiD, z3]
        · rw [kS2 i 7 hiD, z4]
      · refine Or.inr ⟨t, u, z1, ⟨cUp t z2, ?_, ?_, ?_⟩, ⟨cUp u z6, ?_, ?_, ?_⟩, ?_⟩
        · rw [kT 625 _ (by omega) (by omega) z2.1 (by omega) (by omega)]
          exact z3
        · rw [kN t z2 (by rw [z4, nx]; omega), z4]
        · rw [kS2 i 7 hiD, z5, fφ ψ t z2]
        · rw [kT 625 _ (by omega) (by omega) z6.1 (by omega) (by omega)]
          exact z7
        · rw [kT 626 _ (by decide) (by decide) (hGN i hi).2 (fun z => rD z.2.2) (fun z => absurd z.1 (by decide)), z8]
        · rw [kS2 i 6 hiD, z9, fφ ψ u z6]
        · rcases z10 with ⟨y1, y2⟩ | ⟨b', y1, y2, y3, y4, y5, y6⟩
          · exact Or.inl ⟨y1, by rw [kS2 i 8 hiD, y2]⟩
          · refine Or.inr ⟨b', cUp b' y1, y2, y3, ?_, ?_, ?_⟩
            · rw [kT 625 _ (by omega) (by omega) y1.1 (by omega) (by omega)]
              exact y4
            · rw [kN b' y1 (by omega), y5]
            · rw [kS2 i 8 hiD, y6, fφ ψ b' y1]
  · -- groups
    have hg := hGN i hi
    have ng : ∀ g, (g = G i ∨ g = R i) → ¬ (P D = (g : Int)) := fun g hg z => by
      rcases PD with y | ⟨u, y1, y2, _⟩
      · omega
      · have : u = g := by omega
        subst this
        rcases hg with w | w
        · exact (cO u i y2 hi).1 w
        · exact (cO u i y2 hi).2 w
    obtain ⟨⟨z1, z2, z3, z4, z5⟩, z6, z7, z8, z9, z10⟩ := (ho i hi).2.2
    unfold OGr
    rw [kT 625 _ (by omega) (by omega) hg.2 (by omega) (by omega), kT 627 _ (by omega) (by omega) hg.2 (by omega) (fun z => ng _ (Or.inr rfl) z.2), kT 630 _ (by omega) (by omega) hg.2 (by omega) (by omega), kT 627 _ (by omega) (by omega) hg.1 (by omega) (fun z => ng _ (Or.inl rfl) z.2), kT 630 _ (by omega) (by omega) hg.1 (by omega) (by omega), kT 625 _ (by omega) (by omega) hg.1 (by omega) (by omega), kT 629 _ (by omega) (by omega) hg.1 (by omega) (by omega), kT 628 _ (by omega) (by omega) hg.1 (by omega) (by omega), kT2 649 _ (by omega), kT2 650 _ (by omega), kS i 0 hi (by omega), kS i 1 hi (by omega), kS i 2 hi (by omega), kS i 3 hi (by omega)]
    exact ⟨⟨z1, z2, z3, z4, z5⟩, z6, z7, z8, z9, z10⟩
  · -- nodes
    rcases (clo_s hGN).mp hm with hm | rfl
    · have hmN := hn m hm
      have oψ : ∀ t, clo N D G R t → own (ψ t) = t := fun t ht => (hn t ht).1.2.2.2
      by_cases em : P D = (m : Int)
      · rcases A with ⟨a1, _⟩ | ⟨t, a1, a2, a3, a4, a5, a6, a7, a8⟩
        · omega
        · have : t = m := by omega
          subst this
          subst a5 a6 a7 a8
          have h18 : T.1 625 (3840 + t) ≠ 18 := by
            rcases PD with y | ⟨u, y1, y2, y3, _⟩
            · omega
            · have : u = t := by omega
              subst this
              exact y3
          refine NR_n hmN hm.1 hm (by omega) (by omega) cS (fun t _ ht => fφ φ t ht) (fun t _ ht => fφ ψ t ht) (fun b hb => nup_ne (by omega)) (fun b j b1 b2 b3 b4 b5 => ?_) (fun b j b1 b2 b3 b4 => sL _ _ (by omega)) (fun c d1 d2 d3 => kT c t d1 d2 hm.1 (by omega) (by omega)) (fun c d1 d2 => tL _ _ (by have := hm.1; omega)) (fun e => absurd e h18) (fun _ => Or.inr ⟨N, t4, by omega, Or.inr ⟨cN, by rw [c10, nup_eq]⟩⟩)
          exact c11 _ _ (by omega) (by omega) (by omega) (by omega) (by omega)
      · refine NR_c hmN hm.1 hm (by omega) (by omega) cS (fun t _ ht => fφ φ t ht) (fun t _ ht => fφ ψ t ht) (fun b hb => nup_ne (by omega)) (fun b j b1 b2 b3 b4 => ?_) (fun b j b1 b2 b3 b4 => sL _ _ (by omega)) (fun c d1 d2 => kT c m d1 d2 hm.1 (fun z => (cO m D hm (Nat.le_refl _)).2 z.2.2) (by omega)) (fun c d1 d2 => tL _ _ (by have := hm.1; omega))
        refine c11 _ _ (by omega) (by omega) (by omega) (by omega) (fun z => ?_)
        rcases A with ⟨a1, a2, a3, a4, _⟩ | ⟨t, a1, a2, a3, a4, a5, a6, a7, a8⟩
        · omega
        · have : b = ψ t := by omega
          subst this
          rw [oψ t a2] at b2
          omega
    · refine ⟨⟨?_, ?_, ?_, ?_⟩, ?_, Or.inl ⟨n3, by rw [nup_eq, nup_eq]⟩, Or.inr ⟨n4, Or.inl ⟨n1, ?_⟩, Or.inl ⟨n2, ?_⟩⟩⟩
      · rw [nup_eq]; omega
      · rw [nup_eq]; omega
      · rw [nup_eq, nup_eq]
      · rw [nup_eq, nup_eq]
      · rw [nup_eq]; exact hK
      · rw [nup_eq]; exact c5 4 (by omega) (by omega)
      · rw [nup_eq]; exact c5 5 (by omega) (by omega)
end LEAF
