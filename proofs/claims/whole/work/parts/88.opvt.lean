/-! THE READER: how a reading begins, on both sides -/
section RSTA2
variable {Q k n m w d N M D lv t : Nat} {φ ψ own inn G R ws y rk : Nat → Nat} {P q : Nat → Int} {S T S0 T0 S1 S' S2 T' T2 T1 T3 U : ev_St}
theorem start_R {a0 : Int} (hQ : 400 ≤ Q) : ∃ T1, jm_265 Q a0 T = jl_265_114 Q Q T1 ∧ (T1.1 621 26 = a0 ∧ T1.1 621 25 = 0 ∧ T1.1 621 27 = 0 ∧ T1.1 621 28 = 0 ∧ T1.1 621 31 = 1 ∧ T1.1 621 40 = 0 ∧ T1.1 621 37 = 1 ∧ T1.1 621 38 = -1 ∧ T1.1 621 39 = -1) ∧ (T1.1 635 12 = 2 ∧ T1.1 636 12 = 0 ∧ (∀ l, l < 26 → T1.1 638 (312 + l) = 0) ∧ T1.1 637 120 = 0 ∧ T1.1 644 0 = -1 ∧ T1.1 645 0 = 0) ∧ (T1.1 646 0 = 0 ∧ T1.1 649 0 = 0 ∧ T1.1 650 0 = 0) ∧ ((T1.1 625 3840 = 9 ∧ T1.1 626 3840 = 1 ∧ T1.1 627 3840 = -1 ∧ T1.1 628 3840 = 0 ∧ T1.1 629 3840 = 0 ∧ T1.1 630 3840 = -1) ∧ T1.1 625 3841 = 18 ∧ T1.1 626 3841 = -1 ∧ T1.1 627 3841 = -1 ∧ T1.1 628 3841 = 0 ∧ T1.1 629 3841 = 0 ∧ T1.1 630 3841 = -1) ∧ (∀ x g, x < 621 ∨ (x = 621 ∧ g < 25) ∨ (622 ≤ x ∧ x ≤ 624) → T1.1 x g = T.1 x g) ∧ T1.2.2 = T.2.2 ∧ LOW T T1 := by
  obtain ⟨l1, l2, l3, l4, l5, l6, l7, l8, l9, l10, l11⟩ := al_N
  obtain ⟨m1, m2⟩ := al_Ck
  obtain ⟨i1, i2, i3, i4, i5⟩ := al_I
  have l637 : ev_aln 637 = 130 := by decide +kernel
  obtain ⟨A, hA⟩ : ∃ A, A = ev_pI (ev_pI (ev_pI (ev_pI (ev_pI T 621 26 a0) 621 25 0) 621 27 0) 635 12 0) 636 12 0 := ⟨_, rfl⟩
  have a1 : A.1 621 26 = a0 := by rw [hA, rd_nk (by omega), rd_nk (by omega), rd_nf (by omega), rd_nf (by omega), rd_eq]
  have a2 : A.1 621 25 = 0 := by rw [hA, rd_nk (by omega), rd_nk (by omega), rd_nf (by omega), rd_eq]
  have a3 : A.1 621 27 = 0 := by rw [hA, rd_nk (by omega), rd_nk (by omega), rd_eq]
  have a4 : A.1 635 12 = 0 := by rw [hA, rd_nk (by omega), rd_eq]
  have a5 : A.1 636 12 = 0 := by rw [hA, rd_eq]
  have ao : ∀ x g, ¬ (x = 621 ∧ 25 ≤ g ∧ g ≤ 27) → x ≠ 635 → x ≠ 636 → A.1 x g = T.1 x g := fun x g h1 h2 h3 => by
    rw [hA, sp_pI1, if_neg (by omega), sp_pI1, if_neg (by omega), sp_pI1, if_neg (by omega), sp_pI1, if_neg (by omega), sp_pI1, if_neg (by omega)]
  have aR : A.2 = T.2 := by rw [hA]; rfl
  have alow : ∀ x g, (625 ≤ x ∧ x ≤ 632 ∧ g < 3840) ∨ (x = 635 ∧ g < 12) ∨ (x = 636 ∧ g < 12) ∨ (x = 637 ∧ g < 120) ∨ (x = 638 ∧ g < 312) → A.1 x g = T.1 x g := fun x g h => by
    rw [hA, sp_pI1, if_neg (by omega), sp_pI1, if_neg (by omega), sp_pI1, if_neg (by omega), sp_pI1, if_neg (by omega), sp_pI1, if_neg (by omega)]
  have e0 : jm_265 Q a0 T = jl_265_33 Q Q ((0 : Nat) : Int) A := by
    unfold jm_265
    rw [sp_b, sp_b, sp_b, sp_if (by rw [l11]; omega), sp_b, sp_if (by rw [m2]; omega), sp_b, hA]
    rfl
  clear hA
  rw [e0]
  -- behind the names
  have main : ∀ B, (∀ l, 0 ≤ l → l < 26 → B.1 638 (312 + l) = 0) → (∀ c g, ¬ (c = 638 ∧ 312 + 0 ≤ g ∧ g < 338) → B.1 c g = A.1 c g) → B.2 = A.2 → ∃ T1, namT Q B = jl_265_114 Q Q T1 ∧ (T1.1 621 26 = a0 ∧ T1.1 621 25 = 0 ∧ T1.1 621 27 = 0 ∧ T1.1 621 28 = 0 ∧ T1.1 621 31 = 1 ∧ T1.1 621 40 = 0 ∧ T1.1 621 37 = 1 ∧ T1.1 621 38 = -1 ∧ T1.1 621 39 = -1) ∧ (T1.1 635 12 = 2 ∧ T1.1 636 12 = 0 ∧ (∀ l, l < 26 → T1.1 638 (312 + l) = 0) ∧ T1.1 637 120 = 0 ∧ T1.1 644 0 = -1 ∧ T1.1 645 0 = 0) ∧ (T1.1 646 0 = 0 ∧ T1.1 649 0 = 0 ∧ T1.1 650 0 = 0) ∧ ((T1.1 625 3840 = 9 ∧ T1.1 626 3840 = 1 ∧ T1.1 627 3840 = -1 ∧ T1.1 628 3840 = 0 ∧ T1.1 629 3840 = 0 ∧ T1.1 630 3840 = -1) ∧ T1.1 625 3841 = 18 ∧ T1.1 626 3841 = -1 ∧ T1.1 627 3841 = -1 ∧ T1.1 628 3841 = 0 ∧ T1.1 629 3841 = 0 ∧ T1.1 630 3841 = -1) ∧ (∀ x g, x < 621 ∨ (x = 621 ∧ g < 25) ∨ (622 ≤ x ∧ x ≤ 624) → T1.1 x g = T.1 x g) ∧ T1.2.2 = T.2.2 ∧ LOW T T1 := fun B b1 b2 b3 => by
    obtain ⟨C, hC⟩ : ∃ C, C = ev_pI (ev_pI (ev_pI (ev_pI (ev_pI (ev_pI (ev_pI B 621 28 0) 644 0 (-1)) 645 0 0) 621 31 0) 621 40 0) 621 37 (-1)) 621 38 (-1) := ⟨_, rfl⟩
    have c28 : C.1 621 28 = 0 := by rw [hC, rd_nf (by omega), rd_nf (by omega), rd_nf (by omega), rd_nf (by omega), rd_nk (by omega), rd_nk (by omega), rd_eq]
    have c31 : C.1 621 31 = 0 := by rw [hC, rd_nf (by omega), rd_nf (by omega), rd_nf (by omega), rd_eq]
    have c40 : C.1 621 40 = 0 := by rw [hC, rd_nf (by omega), rd_nf (by omega), rd_eq]
    have c37 : C.1 621 37 = -1 := by rw [hC, rd_nf (by omega), rd_eq]
    have c38 : C.1 621 38 = -1 := by rw [hC, rd_eq]
    have c44 : C.1 644 0 = -1 := by rw [hC, rd_nk (by omega), rd_nk (by omega), rd_nk (by omega), rd_nk (by omega), rd_nk (by omega), rd_eq]
    have c45 : C.1 645 0 = 0 := by rw [hC, rd_nk (by omega), rd_nk (by omega), rd_nk (by omega), rd_nk (by omega), rd_eq]
    have co : ∀ x g, ¬ (x = 621 ∧ (g = 28 ∨ g = 31 ∨ g = 40 ∨ g = 37 ∨ g = 38)) → x ≠ 644 → x ≠ 645 → C.1 x g = B.1 x g := fun x g h1 h2 h3 => by
      rw [hC, sp_pI1, if_neg (by omega), sp_pI1, if_neg (by omega), sp_pI1, if_neg (by omega), sp_pI1, if_neg (by omega), sp_pI1, if_neg (by omega), sp_pI1, if_neg (by omega), sp_pI1, if_neg (by omega)]
    have cR : C.2 = B.2 := by rw [hC]; rfl
    have c635 : C.1 635 12 = ((0 : Nat) : Int) := by rw [co _ _ (by omega) (by omega) (by omega), b2 _ _ (by omega), a4]; rfl
    obtain ⟨E, e1, e2, ⟨f1, f2, f3, f4, f5, f6, f7, f8, f9, f10⟩, g1, g2, g3⟩ := sp_235 (Q := Q) (a := 9) (T := C) (m := 0) c635 (by decide)
    obtain ⟨F, hF⟩ : ∃ F, F = ev_pI E 637 120 0 := ⟨_, rfl⟩
    have fo : ∀ x g, x ≠ 637 → F.1 x g = E.1 x g := fun x g h => by rw [hF, sp_pI1, if_neg (by omega)]
    have f637 : F.1 637 120 = 0 := by rw [hF, rd_eq]
    have fR : F.2 = E.2 := by rw [hF]; rfl
    obtain ⟨T1, t1, ⟨p1, p2, p3, p4, p5⟩, ⟨o1, o2, o3, o4, o5⟩, ⟨r1, r2, r3, r4, r5, r6⟩, h1, h2, h3, h4⟩ := sp_239 (Q := Q) (T := F) (d := 0) (m := 1) (n := 0) (tx := 0) (by rw [fo _ _ (by omega), g1 _ _ (by omega) (by omega), c31]; rfl) (by decide) (by rw [fo _ _ (by omega), e2]; rfl) (by decide) (by decide) (Or.inl rfl)
    have run : namT Q B = jl_265_114 Q Q T1 := by
      unfold namT
      rw [sp_b, sp_if (by rw [i4]; omega), sp_b, sp_if (by rw [i5]; omega), sp_b, sp_b, sp_b, sp_b, sp_b, show (0 : Int).toNat = 0 from rfl, ← hC, e1, sp_bd, sp_if (by rw [l637]; omega), sp_b, show (120 : Int).toNat = 120 from rfl, show ((0 : Nat) : Int) = 0 from rfl, ← hF]
      have t1' : jm_239 Q 0 0 F = some ((), T1) := t1
      rw [t1', sp_bd]
    -- what is read through all of it
    have th : ∀ x g, ¬ (x = 635 ∧ g = 12) → ¬ (625 ≤ x ∧ x ≤ 632 ∧ (g = 3840 ∨ g = 3841)) → ¬ (x = 621 ∧ (g = 28 ∨ g = 31 ∨ g = 37 ∨ g = 38 ∨ g = 39 ∨ g = 40)) → ¬ (646 ≤ x ∧ x ≤ 650 ∧ g = 0) → x ≠ 637 → x ≠ 638 → x ≠ 644 → x ≠ 645 → T1.1 x g = A.1 x g := fun x g q1 q2 q3 q4 q5 q6 q7 q8 => by
      rw [h2 x g q1 (by omega) (by omega) (by omega) q4, fo x g q5, g1 x g q1 (by omega), co x g (by omega) q7 q8, b2 x g (by omega)]
    have n0 : ∀ x, 625 ≤ x → x ≤ 632 → x ≠ 626 → T1.1 x 3840 = E.1 x 3840 := fun x q1 q2 q3 => by
      rw [h2 x 3840 (by omega) (by omega) (by omega) (by omega) (by omega), fo _ _ (by omega)]
    refine ⟨T1, run, ⟨?_, ?_, ?_, ?_, p2, ?_, p3, p4, p5⟩, ⟨p1, ?_, fun l hl => ?_, ?_, ?_, ?_⟩, ⟨o1, ?_, o5⟩, ⟨⟨?_, h1, ?_, ?_, ?_, ?_⟩, r1, r2, r3, r4, r5, r6⟩, fun x g h => ?_, ?_, ?_⟩
    · rw [th _ _ (by omega) (by omega) (by omega) (by omega) (by omega) (by omega) (by omega) (by omega), a1]
    · rw [th _ _ (by omega) (by omega) (by omega) (by omega) (by omega) (by omega) (by omega) (by omega), a2]
    · rw [th _ _ (by omega) (by omega) (by omega) (by omega) (by omega) (by omega) (by omega) (by omega), a3]
    · rw [h2 _ _ (by omega) (by omega) (by omega) (by omega) (by omega), fo _ _ (by omega), g1 _ _ (by omega) (by omega), c28]
    · rw [h2 _ _ (by omega) (by omega) (by omega) (by omega) (by omega), fo _ _ (by omega), g1 _ _ (by omega) (by omega), c40]
    · rw [th _ _ (by omega) (by omega) (by omega) (by omega) (by omega) (by omega) (by omega) (by omega), a5]
    · rw [h2 _ _ (by omega) (by omega) (by omega) (by omega) (by omega), fo _ _ (by omega), g1 _ _ (by omega) (by omega), co _ _ (by omega) (by omega) (by omega), b1 l (Nat.zero_le _) hl]
    · rw [h2 _ _ (by omega) (by omega) (by omega) (by omega) (by omega), f637]
    · rw [h2 _ _ (by omega) (by omega) (by omega) (by omega) (by omega), fo _ _ (by omega), g1 _ _ (by omega) (by omega), c44]
    · rw [h2 _ _ (by omega) (by omega) (by omega) (by omega) (by omega), fo _ _ (by omega), g1 _ _ (by omega) (by omega), c45]
    · rw [o4, fo _ _ (by omega), g1 _ _ (by omega) (by omega), c40]
    · rw [n0 625 (by omega) (by omega) (by omega)]
      exact f1
    · rw [n0 627 (by omega) (by omega) (by omega)]
      exact f3
    · rw [n0 628 (by omega) (by omega) (by omega)]
      exact f4
    · rw [n0 629 (by omega) (by omega) (by omega)]
      exact f5
    · rw [n0 630 (by omega) (by omega) (by omega)]
      exact f6
    · rw [th _ _ (by omega) (by omega) (by omega) (by omega) (by omega) (by omega) (by omega) (by omega), ao _ _ (by omega) (by omega) (by omega)]
    · rw [h4, fR, g3, cR, b3, aR]
    · refine ⟨fun c g z => ?_, fun c g x y z => ?_⟩
      · unfold LOWc at z
        rw [h2 c g (by omega) (by omega) (by omega) (by omega) (by omega), show F.1 c g = E.1 c g from by rw [hF, sp_pI1, if_neg (by omega)], g1 c g (by omega) (by omega), co c g (by omega) (by omega) (by omega), b2 c g (by omega), alow c g (by omega)]
      · rw [h3 c g (by omega), fR, g2 c g (by omega), cR, b3, aR]
  obtain ⟨B, h0, h1, h2, h3⟩ := nam_R (Q := Q) 26 Q 0 A (by omega) (by omega) (by omega)
  obtain ⟨T1, z1, z2⟩ := main B h1 h2 h3
  exact ⟨T1, h0.trans z1, z2⟩
end RSTA2
