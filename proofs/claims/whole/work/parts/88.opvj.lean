/-! THE READER'S TABLES: the root ends -/
section CLOSER
variable {k N M D m : Nat} {φ ψ own inn G R : Nat → Nat} {P q : Nat → Int} {S T S2 T2 : ev_St}
/-- the tables of a pattern that is read: class S at k, reference T -/
def FIN (k N M : Nat) (φ ψ own : Nat → Nat) (S T : ev_St) : Prop := (∀ m, m < N → m ≠ 0 → NR k N M (fun t => t < N) φ ψ own S T m) ∧ (φ 0 < M ∧ ψ 0 = φ 0 ∧ own (φ 0) = 0 ∧ S.1 (k + 1) (φ 0) = 16 ∧ S.1 (k + 5) (φ 0) = -1 ∧ lnk N (fun t => t < N) φ (T.1 626 3840) (S.1 (k + 4) (φ 0))) ∧ (0 < N ∧ T.1 625 3840 = 9 ∧ T.1 626 3840 ≠ -1 ∧ T.1 627 3840 = -1 ∧ T.1 630 3840 = -1)
theorem RDR_root {F : Int} (h : RDR k N M 0 φ ψ own G R P q S T) (hL : LKS N inn T) (hG0 : G 0 = 0) (h9 : T.1 625 3840 = 9) (hv : ∀ m, m < N → RVl N T m) (s2 : S2.1 (k + 1) M = 15 ∧ S2.1 (k + 4) M = S.1 17 6 ∧ S2.1 (k + 5) M = -1) (s3 : S2.1 (k + 1) (M + 1) = 16 ∧ S2.1 (k + 4) (M + 1) = F ∧ S2.1 (k + 5) (M + 1) = -1) (s4 : (S.1 17 5 = -1 → F = (M : Int)) ∧ ∀ b : Nat, S.1 17 5 = (b : Int) → F = S.1 17 4 ∧ S2.1 (k + 5) b = (M : Int)) (s7 : ∀ j b, 1 ≤ j → j ≤ 5 → b < M → ¬ (j = 5 ∧ S.1 17 5 = (b : Int)) → S2.1 (k + j) b = S.1 (k + j) b) (s8 : S2.2.1 = S.2.1) : FIN k N (M + 2) (nup (nup φ (R 0) M) 0 (M + 1)) (nup (nup ψ (R 0) M) 0 (M + 1)) (nup (nup own M (R 0)) (M + 1) 0) S2 T := by
  obtain ⟨hI, hI2, hW⟩ := hL
  obtain ⟨⟨e1, e2, e3, e4, e5⟩, hG, hst, ⟨e6, e7⟩, ho, hn⟩ := h
  have gD := hG 0 (Nat.le_refl _)
  obtain ⟨r0, hr0⟩ : ∃ x, x = R 0 := ⟨_, rfl⟩
  have r0N : r0 < N := by rw [hr0]; exact gD.2.1
  have g0N : 0 < N := by rw [← hG0]; exact gD.1
  have gr : 0 ≠ r0 := by rw [← hG0, hr0]; exact (gD.2.2 0 (Nat.le_refl _)).1
  have cr : ∀ t, clo N 0 G R t → t ≠ 0 ∧ t ≠ r0 := fun t ht => by
    rw [hr0]
    exact ⟨fun z => ht.2 ⟨0, Nat.le_refl _, Or.inl (by rw [hG0]; exact z)⟩, fun z => ht.2 ⟨0, Nat.le_refl _, Or.inr z⟩⟩
  have cE : ∀ t, t < N ↔ clo N 0 G R t ∨ t = r0 ∨ t = 0 := fun t => by
    constructor
    · intro z1
      by_cases e : t = r0
      · exact Or.inr (Or.inl e)
      · by_cases e' : t = 0
        · exact Or.inr (Or.inr e')
        · refine Or.inl ⟨z1, fun ⟨i, hi, w⟩ => ?_⟩
          obtain rfl : i = 0 := by omega
          rw [← hr0, hG0] at w
          rcases w with w | w
          · exact e' w
          · exact e w
    · rintro (z | z | z)
      · exact z.1
      · omega
      · omega
  have cU : ∀ t, clo N 0 G R t → t < N := fun t ht => ht.1
  have fφ : ∀ (f : Nat → Nat) t, clo N 0 G R t → nup (nup f r0 M) 0 (M + 1) t = f t := fun f t ht => by rw [nup_ne (cr t ht).1, nup_ne (cr t ht).2]
  have fr : ∀ (f : Nat → Nat), nup (nup f r0 M) 0 (M + 1) r0 = M := fun f => by rw [nup_ne (fun z => gr z.symm), nup_eq]
  have fg : ∀ (f : Nat → Nat), nup (nup f r0 M) 0 (M + 1) 0 = M + 1 := fun f => nup_eq
  obtain ⟨⟨o1, o2, o3, o4, o5⟩, o6, o7, o8, o9, o10⟩ := (ho 0 (Nat.le_refl _)).2.2
  have pe : ∀ t, clo N 0 G R t → T.1 625 (3840 + t) = 18 → ψ t = φ t := fun t a2 a3 => by
    have w0 := hW t a2.1 a3
    rcases (hn t a2).2.2.1 with ⟨_, w⟩ | ⟨⟨w, _⟩, _⟩ | ⟨⟨w, _⟩, _⟩
    · exact w
    · rcases w with w | w <;> (rw [w0] at w; exact absurd w (by decide))
    · rw [w0] at w
      exact absurd w (by decide)
  have QD : (T.1 626 3840 = (r0 : Int) ∧ S.1 17 5 = -1 ∧ F = (M : Int) ∧ inn r0 = 0) ∨ ∃ t u : Nat, (clo N 0 G R t ∧ T.1 625 (3840 + t) = 18 ∧ T.1 627 (3840 + t) = (r0 : Int) ∧ S.1 17 5 = (φ t : Int)) ∧ (clo N 0 G R u ∧ T.1 626 3840 = (u : Int) ∧ F = (φ u : Int)) ∧ S2.1 (k + 5) (φ t) = (M : Int) ∧ inn r0 = t := by
    rw [hr0]
    rcases (ho 0 (Nat.le_refl _)).1 with ⟨z1, z2, z3, z4⟩ | ⟨t, u, z1, ⟨z2, z3, z4, z5⟩, z6, z7, z8, z9⟩
    · rw [hG0] at z2
      exact Or.inl ⟨z2, z4, s4.1 z4, (hI 0 _ g0N (Or.inl z2)).2⟩
    · rw [hG0] at z8
      exact Or.inr ⟨t, u, ⟨z2, z3, z4, z5⟩, ⟨z6, z8, by rw [(s4.2 _ z5).1]; exact z9⟩, (s4.2 _ z5).2, (hI _ _ z2.1 (Or.inr z4)).2⟩
  have PD : (T.1 626 (3840 + r0) = -1 ∧ S.1 17 6 = -1) ∨ ∃ u : Nat, clo N 0 G R u ∧ T.1 626 (3840 + r0) = (u : Int) ∧ S.1 17 6 = (ψ u : Int) := by
    rw [hr0]
    rcases (ho 0 (Nat.le_refl _)).2.1 with ⟨z1, z2, z3, z4⟩ | ⟨t, u, z1, ⟨z2, z3, z4, z5⟩, ⟨z6, z7, z8, z9⟩, z10⟩
    · exact Or.inl ⟨z2.trans (if_neg (Nat.lt_irrefl _)), z3⟩
    · exact Or.inr ⟨u, z6, z8, z9⟩
  rw [hG0] at o4 o5
  rw [← hr0] at o1 o2 o3
  rw [← hr0]
  have oφ : ∀ t, clo N 0 G R t → own (φ t) = t ∧ φ t < M ∧ own (ψ t) = t ∧ ψ t < M := fun t ht => ⟨(hn t ht).1.2.2.1, (hn t ht).1.1, (hn t ht).1.2.2.2, (hn t ht).1.2.1⟩
  have lk : ∀ (f : Nat → Nat) (x y : Int), (∀ w : Nat, x = (w : Int) → w ≠ r0 ∧ w ≠ 0) → lnk N (clo N 0 G R) f x y → lnk N (fun t => t < N) (nup (nup f r0 M) 0 (M + 1)) x y := fun f x y hx hl => by
    rcases hl with hl | ⟨w, h1, h2, ⟨h3, h4⟩ | ⟨h3, h4⟩⟩
    · exact Or.inl hl
    · refine Or.inr ⟨w, h1, h2, Or.inl ⟨fun z => ?_, h4⟩⟩
      rcases (cE w).mp z with z | z | z
      · exact h3 z
      · exact (hx w h1).1 z
      · exact (hx w h1).2 z
    · exact Or.inr ⟨w, h1, h2, Or.inr ⟨cU w h3, by rw [fφ f w h3]; exact h4⟩⟩
  have oM : ∀ b, b < M → nup (nup own M r0) (M + 1) 0 b = own b := fun b hb => by rw [nup_ne (Nat.ne_of_lt (Nat.lt_succ_of_lt hb)), nup_ne (Nat.ne_of_lt hb)]
  have o0 : nup (nup own M r0) (M + 1) 0 M = r0 := by rw [nup_ne (Nat.ne_of_lt (Nat.lt_succ_self _)), nup_eq]
  have o00 : nup (nup own M r0) (M + 1) 0 (M + 1) = 0 := nup_eq
  refine ⟨fun m hmN hm0 => ?_, ⟨by rw [fg]; omega, by rw [fg, fg], by rw [fg, o00], by rw [fg]; exact s3.1, by rw [fg]; exact s3.2.2, ?_⟩, g0N, h9, ?_, o4, o5⟩
  · unfold NR
    rcases (cE m).mp hmN with hm | em | em
    · obtain ⟨⟨g1, g2, g3, g4⟩, g5, g6, g7⟩ := hn m hm
      have Sl : ∀ b j, b < M → 1 ≤ j → j ≤ 4 → S2.1 (k + j) b = S.1 (k + j) b := fun b j h1 h2 h3 => s7 j b h2 (by omega) h1 (by omega)
      have who : ∀ b : Nat, S.1 17 5 = (b : Int) → inn r0 = own b ∧ ∃ t, clo N 0 G R t ∧ T.1 625 (3840 + t) = 18 ∧ b = φ t := fun b hb => by
        rcases QD with ⟨a1, a2, _⟩ | ⟨t, u, ⟨a1, a2, a3, a4⟩, _, a6, a7⟩
        · omega
        · have hb : b = φ t := by omega
          exact ⟨by rw [hb, (oφ t a1).1, a7], t, a1, a2, hb⟩
      have Sm : ∀ b, b < M → inn r0 ≠ own b → S2.1 (k + 5) b = S.1 (k + 5) b := fun b h1 h2 => s7 5 b (by decide) (by decide) h1 (fun z => h2 (who b z.2).1)
      rw [fφ φ m hm, fφ ψ m hm]
      refine ⟨⟨by omega, by omega, by rw [oM _ g1, g3], by rw [oM _ g2, g4]⟩, ?_, rpt_c g6 (Nat.le_add_right _ _) oM ⟨g1, g3⟩ ⟨g2, g4⟩ (fun b j b1 b2 b3 b4 b5 => ?_) (fun c a1 a2 a3 => rfl), ?_⟩
      · exact KD_c g5 (fun j a b => Sl _ j g1 a (by omega)) (fun j _ _ => by rw [s8]) (fun c a b d => rfl) (fun c a b => rfl)
      · refine s7 j b b3 b4 b1 (fun z => ?_)
        obtain ⟨_, t, w1, w2, w3⟩ := who b z.2
        have tm : t = m := by rw [← b2, w3, (oφ t w1).1]
        subst tm
        exact b5 ⟨by rw [w3, pe t w1 w2], z.1⟩
      · rw [Sl _ 4 g1 (by decide) (by decide)]
        have iR : ∀ w : Nat, w = r0 → (T.1 626 (3840 + m) = (w : Int) ∨ T.1 627 (3840 + m) = (w : Int)) → inn r0 = m := fun w hw hh => by
          subst hw
          exact (hI m w hm.1 hh).2
        have iG : ∀ w : Nat, (T.1 626 (3840 + m) = (w : Int) ∨ T.1 627 (3840 + m) = (w : Int)) → w ≠ 0 := fun w hh => by
          have := (hv m hm.1).1 w hh
          omega
        have row : inn r0 = m → T.1 625 (3840 + m) = 18 ∧ T.1 627 (3840 + m) = (r0 : Int) ∧ S2.1 (k + 5) (φ m) = (M : Int) := fun hh => by
          rcases QD with ⟨a1, a2, a3, a4⟩ | ⟨t, u, ⟨a1, a2, a3, a4⟩, _, a6, a7⟩
          · exact absurd (hh.symm.trans a4) (cr m hm).1
          · have tm : t = m := a7.symm.trans hh
            subst tm
            exact ⟨a2, a3, a6⟩
        by_cases ei : inn r0 = m
        · obtain ⟨w1, w2, w3⟩ := row ei
          rcases g7 with ⟨z1, z2, z3⟩ | ⟨z1, _⟩
          · refine Or.inl ⟨z1, lk _ _ _ (fun w hw => ⟨fun e => ?_, iG w (Or.inl hw)⟩) z2, Or.inr ⟨r0, w2, r0N, Or.inr ⟨r0N, by rw [pe m hm w1, w3, fr]⟩⟩⟩
            subst e
            exact hI2 m w hm.1 ⟨hw, w2⟩
          · exact absurd w1 z1
        · rw [Sm _ g2 (by rw [g4]; exact ei)]
          have l1 : ∀ w : Nat, T.1 626 (3840 + m) = (w : Int) → w ≠ r0 ∧ w ≠ 0 := fun w hw => ⟨fun e => ei (iR w e (Or.inl hw)), iG w (Or.inl hw)⟩
          have l2 : ∀ w : Nat, T.1 627 (3840 + m) = (w : Int) → w ≠ r0 ∧ w ≠ 0 := fun w hw => ⟨fun e => ei (iR w e (Or.inr hw)), iG w (Or.inr hw)⟩
          rcases g7 with ⟨z1, z2, z3⟩ | ⟨z1, z2, z3⟩
          · exact Or.inl ⟨z1, lk _ _ _ l1 z2, lk _ _ _ l2 z3⟩
          · exact Or.inr ⟨z1, lk _ _ _ l1 z2, lk _ _ _ l2 z3⟩
    · subst em
      rw [fr, fr]
      refine ⟨⟨Nat.lt_add_of_pos_right (by decide), Nat.lt_add_of_pos_right (by decide), o0, o0⟩, ?_, Or.inl ⟨o3, rfl⟩, Or.inl ⟨o1, ?_, Or.inl ⟨o2, s2.2.2⟩⟩⟩
      · unfold KD
        rw [o1, s2.1]
        exact ⟨rfl, fun z => absurd z (by decide), fun z => absurd z (by decide), fun z => absurd z (by decide)⟩
      · rw [s2.2.1]
        rcases PD with z | ⟨u, z1, z2, z3⟩
        · exact Or.inl z
        · exact Or.inr ⟨u, z2, z1.1, Or.inr ⟨cU u z1, by rw [fφ ψ u z1]; exact z3⟩⟩
    · exact absurd em hm0
  · rw [fg, s3.2.1]
    rcases QD with ⟨a1, a2, a3, a4⟩ | ⟨t, u, _, ⟨a5, a6, a7⟩, _⟩
    · exact Or.inr ⟨r0, a1, r0N, Or.inr ⟨r0N, by rw [a3, fr]⟩⟩
    · exact Or.inr ⟨u, a6, a5.1, Or.inr ⟨cU u a5, by rw [a7, fφ φ u a5]⟩⟩
  · rcases QD with ⟨a1, _⟩ | ⟨t, u, _, ⟨a5, a6, a7⟩, _⟩
    · rw [a1]
      omega
    · rw [a6]
      omega
end CLOSER
