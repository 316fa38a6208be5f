/-! THE READER'S LEAVES: the reference's nodes -/
section RNODE
variable {Q n m w r : Nat} {S T : ev_St}
theorem al_N : ev_aln 625 = 4160 ∧ ev_aln 626 = 4160 ∧ ev_aln 627 = 4160 ∧ ev_aln 628 = 4160 ∧ ev_aln 629 = 4160 ∧ ev_aln 630 = 4160 ∧ ev_aln 631 = 4160 ∧ ev_aln 632 = 4160 ∧ ev_aln 633 = 4160 ∧ ev_aln 634 = 4160 ∧ ev_aln 635 = 13 := by decide +kernel
theorem sp_232 : jm_232 Q S = some (3840, S) := rfl
theorem sp_235e {a : Int} (hm : T.1 635 12 = (m : Int)) (hh : m < 320) : jm_235 Q a T = some ((m : Int), ev_pI (ev_pL (ev_pL (ev_pI (ev_pI (ev_pI (ev_pI (ev_pI (ev_pI (ev_pI (ev_pI T (625) (3840 + m) (a)) (626) (3840 + m) (-1)) (627) (3840 + m) (-1)) (628) (3840 + m) (0)) (629) (3840 + m) (0)) (630) (3840 + m) (-1)) (631) (3840 + m) (1)) (632) (3840 + m) (1)) (633) (3840 + m) L0) (634) (3840 + m) L0) (635) (12) ((m : Int) + 1)) := by
  obtain ⟨l1, l2, l3, l4, l5, l6, l7, l8, l9, l10, l11⟩ := al_N
  have x5 : ((3840 : Int) + (m : Int)).toNat = 3840 + m := by omega
  unfold jm_235
  rw [sp_if (by rw [l11]; decide), sp_b, show Int.toNat 12 = 12 from rfl, hm, if_pos (by omega), sp_232, sp_bd, sp_ck (by omega), sp_if (by rw [l1]; omega), sp_b, sp_if (by rw [l2]; omega), sp_b, sp_if (by rw [l3]; omega), sp_b, sp_if (by rw [l4]; omega), sp_b, sp_if (by rw [l5]; omega), sp_b, sp_if (by rw [l6]; omega), sp_b, sp_if (by rw [l7]; omega), sp_b, sp_if (by rw [l8]; omega), sp_b, sp_if (by rw [l9]; omega), sp_b, sp_if (by rw [l10]; omega), sp_b, sp_if (by rw [l11]; decide), sp_b, x5]
  have q : ∀ X : ev_St, X = ev_pL (ev_pL (ev_pI (ev_pI (ev_pI (ev_pI (ev_pI (ev_pI (ev_pI (ev_pI T (625) (3840 + m) (a)) (626) (3840 + m) (-1)) (627) (3840 + m) (-1)) (628) (3840 + m) (0)) (629) (3840 + m) (0)) (630) (3840 + m) (-1)) (631) (3840 + m) (1)) (632) (3840 + m) (1)) (633) (3840 + m) L0) (634) (3840 + m) L0 → X.1 635 12 = (m : Int) := fun X hX => by
    subst hX
    rw [sp_pL1, sp_pL1, rd_nk (by omega), rd_nk (by omega), rd_nk (by omega), rd_nk (by omega), rd_nk (by omega), rd_nk (by omega), rd_nk (by omega), rd_nk (by omega), hm]
  rw [q _ rfl, sp_ck (by omega), sp_if (by rw [l11]; decide), sp_b]
theorem sp_235 {a : Int} (hm : T.1 635 12 = (m : Int)) (hh : m < 320) : ∃ T', jm_235 Q a T = some ((m : Int), T') ∧ T'.1 635 12 = (m : Int) + 1 ∧ (T'.1 625 (3840 + m) = a ∧ T'.1 626 (3840 + m) = -1 ∧ T'.1 627 (3840 + m) = -1 ∧ T'.1 628 (3840 + m) = 0 ∧ T'.1 629 (3840 + m) = 0 ∧ T'.1 630 (3840 + m) = -1 ∧ T'.1 631 (3840 + m) = 1 ∧ T'.1 632 (3840 + m) = 1 ∧ T'.2.1 633 (3840 + m) = L0 ∧ T'.2.1 634 (3840 + m) = L0) ∧ (∀ c g, ¬ (c = 635 ∧ g = 12) → ¬ (625 ≤ c ∧ c ≤ 632 ∧ g = 3840 + m) → T'.1 c g = T.1 c g) ∧ (∀ c g, ¬ (633 ≤ c ∧ c ≤ 634 ∧ g = 3840 + m) → T'.2.1 c g = T.2.1 c g) ∧ T'.2.2 = T.2.2 := by
  refine ⟨ev_pI (ev_pL (ev_pL (ev_pI (ev_pI (ev_pI (ev_pI (ev_pI (ev_pI (ev_pI (ev_pI T (625) (3840 + m) (a)) (626) (3840 + m) (-1)) (627) (3840 + m) (-1)) (628) (3840 + m) (0)) (629) (3840 + m) (0)) (630) (3840 + m) (-1)) (631) (3840 + m) (1)) (632) (3840 + m) (1)) (633) (3840 + m) L0) (634) (3840 + m) L0) (635) (12) ((m : Int) + 1), sp_235e hm hh, rd_eq, ⟨?_, ?_, ?_, ?_, ?_, ?_, ?_, ?_, ?_, ?_⟩, fun c g h1 h2 => ?_, fun c g h => ?_, rfl⟩
  · rw [rd_nk (by omega), sp_pL1, sp_pL1, rd_nk (by omega), rd_nk (by omega), rd_nk (by omega), rd_nk (by omega), rd_nk (by omega), rd_nk (by omega), rd_nk (by omega), rd_eq]
  · rw [rd_nk (by omega), sp_pL1, sp_pL1, rd_nk (by omega), rd_nk (by omega), rd_nk (by omega), rd_nk (by omega), rd_nk (by omega), rd_nk (by omega), rd_eq]
  · rw [rd_nk (by omega), sp_pL1, sp_pL1, rd_nk (by omega), rd_nk (by omega), rd_nk (by omega), rd_nk (by omega), rd_nk (by omega), rd_eq]
  · rw [rd_nk (by omega), sp_pL1, sp_pL1, rd_nk (by omega), rd_nk (by omega), rd_nk (by omega), rd_nk (by omega), rd_eq]
  · rw [rd_nk (by omega), sp_pL1, sp_pL1, rd_nk (by omega), rd_nk (by omega), rd_nk (by omega), rd_eq]
  · rw [rd_nk (by omega), sp_pL1, sp_pL1, rd_nk (by omega), rd_nk (by omega), rd_eq]
  · rw [rd_nk (by omega), sp_pL1, sp_pL1, rd_nk (by omega), rd_eq]
  · rw [rd_nk (by omega), sp_pL1, sp_pL1, rd_eq]
  · exact (rdL_nk (by omega)).trans rd_L
  · exact rd_L
  · rw [sp_pI1, if_neg h1, sp_pL1, sp_pL1, sp_pI1, if_neg (by omega), sp_pI1, if_neg (by omega), sp_pI1, if_neg (by omega), sp_pI1, if_neg (by omega), sp_pI1, if_neg (by omega), sp_pI1, if_neg (by omega), sp_pI1, if_neg (by omega), sp_pI1, if_neg (by omega)]
  · show (ev_pL (ev_pL (ev_pI (ev_pI (ev_pI (ev_pI (ev_pI (ev_pI (ev_pI (ev_pI T (625) (3840 + m) (a)) (626) (3840 + m) (-1)) (627) (3840 + m) (-1)) (628) (3840 + m) (0)) (629) (3840 + m) (0)) (630) (3840 + m) (-1)) (631) (3840 + m) (1)) (632) (3840 + m) (1)) (633) (3840 + m) L0) (634) (3840 + m) L0).2.1 c g = _
    rw [sp_pL2, if_neg (by omega), sp_pL2, if_neg (by omega)]
    rfl
theorem sp_236 (hc : 0 ≤ T.1 621 27 ∧ T.1 621 27 ≤ 1000) (hb : T.1 621 25 = 0) : jm_236 Q T = some ((), ev_pI (ev_pI T 621 27 (T.1 621 27 + 1)) 621 25 (if 150 ≤ T.1 621 27 then 1 else 0)) := by
  unfold jm_236
  rw [sp_b, sp_ck (by omega), sp_b, rd_nf (by omega), hb, sp_b, if_neg (fun z => z rfl), rd_eq, sp_b]
  by_cases e : 150 ≤ T.1 621 27
  · rw [if_neg (by omega), sp_b, if_pos e]
  · rw [if_pos (by omega), sp_b, if_neg e]
/-- where the new item is linked: behind the last one, or first in the row -/
def lkc (l : Int) : Nat := if l = -1 then 626 else 627
def lkp (l r : Int) : Nat := if l = -1 then (3840 + r).toNat else (3840 + l).toNat
theorem lk_i (l r : Int) : (l = -1 ∧ lkc l = 626 ∧ lkp l r = (3840 + r).toNat) ∨ (l ≠ -1 ∧ lkc l = 627 ∧ lkp l r = (3840 + l).toNat) := by
  unfold lkc lkp
  by_cases e : l = -1
  · exact Or.inl ⟨e, if_pos e, if_pos e⟩
  · exact Or.inr ⟨e, if_neg e, if_neg e⟩
theorem sp_237 {a : Int} (hm : T.1 635 12 = (m : Int)) (hh : m < 320) (hc : 0 ≤ T.1 621 27 ∧ T.1 621 27 ≤ 1000) (hb : T.1 621 25 = 0) (hr : 0 ≤ T.1 621 37 ∧ T.1 621 37 < m) (hl : -1 ≤ T.1 621 38 ∧ T.1 621 38 < m) : ∃ T', jm_237 Q a T = some ((m : Int), T') ∧ (T'.1 635 12 = (m : Int) + 1 ∧ T'.1 621 27 = T.1 621 27 + 1 ∧ T'.1 621 25 = (if 150 ≤ T.1 621 27 then 1 else 0) ∧ T'.1 621 38 = (m : Int) ∧ T'.1 621 39 = (m : Int) ∧ T'.1 (lkc (T.1 621 38)) (lkp (T.1 621 38) (T.1 621 37)) = (m : Int)) ∧ (T'.1 625 (3840 + m) = a ∧ T'.1 626 (3840 + m) = -1 ∧ T'.1 627 (3840 + m) = -1 ∧ T'.1 628 (3840 + m) = 0 ∧ T'.1 629 (3840 + m) = 0 ∧ T'.1 630 (3840 + m) = -1 ∧ T'.1 631 (3840 + m) = 1 ∧ T'.1 632 (3840 + m) = 1 ∧ T'.2.1 633 (3840 + m) = L0 ∧ T'.2.1 634 (3840 + m) = L0) ∧ (∀ c g, ¬ (c = 635 ∧ g = 12) → ¬ (625 ≤ c ∧ c ≤ 632 ∧ g = 3840 + m) → ¬ (c = 621 ∧ (g = 25 ∨ g = 27 ∨ g = 38 ∨ g = 39)) → ¬ (c = lkc (T.1 621 38) ∧ g = lkp (T.1 621 38) (T.1 621 37)) → T'.1 c g = T.1 c g) ∧ (∀ c g, ¬ (633 ≤ c ∧ c ≤ 634 ∧ g = 3840 + m) → T'.2.1 c g = T.2.1 c g) ∧ T'.2.2 = T.2.2 := by
  obtain ⟨l1, l2, l3, l4, l5, l6, l7, l8, l9, l10, l11⟩ := al_N
  obtain ⟨T1, t1, t2, ⟨u1, u2, u3, u4, u5, u6, u7, u8, u9, u10⟩, t3, t4, t5⟩ := sp_235 (Q := Q) (a := a) hm hh
  have e27 : T1.1 621 27 = T.1 621 27 := t3 _ _ (by omega) (by omega)
  have e25 : T1.1 621 25 = 0 := (t3 _ _ (by omega) (by omega)).trans hb
  have h236 := sp_236 (Q := Q) (T := T1) (by omega) e25
  rw [e27] at h236
  have v27 : (ev_pI (ev_pI T1 621 27 (T.1 621 27 + 1)) 621 25 (if 150 ≤ T.1 621 27 then 1 else 0)).1 621 27 = T.1 621 27 + 1 := by rw [rd_nf (by omega), rd_eq]
  have v25 : (ev_pI (ev_pI T1 621 27 (T.1 621 27 + 1)) 621 25 (if 150 ≤ T.1 621 27 then 1 else 0)).1 621 25 = (if 150 ≤ T.1 621 27 then 1 else 0) := rd_eq
  have vf : ∀ c g, ¬ (c = 621 ∧ (g = 25 ∨ g = 27)) → (ev_pI (ev_pI T1 621 27 (T.1 621 27 + 1)) 621 25 (if 150 ≤ T.1 621 27 then 1 else 0)).1 c g = T1.1 c g := fun c g h => by
    rw [sp_pI1, if_neg (by omega), sp_pI1, if_neg (by omega)]
  have v2 : (ev_pI (ev_pI T1 621 27 (T.1 621 27 + 1)) 621 25 (if 150 ≤ T.1 621 27 then 1 else 0)).2 = T1.2 := rfl
  generalize ev_pI (ev_pI T1 621 27 (T.1 621 27 + 1)) 621 25 (if 150 ≤ T.1 621 27 then 1 else 0) = U at *
  have e38 : U.1 621 38 = T.1 621 38 := (vf _ _ (by omega)).trans (t3 _ _ (by omega) (by omega))
  have e37 : U.1 621 37 = T.1 621 37 := (vf _ _ (by omega)).trans (t3 _ _ (by omega) (by omega))
  have run : jm_237 Q a T = some ((m : Int), ev_pI (ev_pI (ev_pI U (lkc (T.1 621 38)) (lkp (T.1 621 38) (T.1 621 37)) (m : Int)) 621 38 (m : Int)) 621 39 (m : Int)) := by
    unfold jm_237
    rw [t1, sp_bd, h236, sp_bd, sp_b, e38, sp_jn]
    rcases lk_i (T.1 621 38) (T.1 621 37) with ⟨h1, h2, h3⟩ | ⟨h1, h2, h3⟩
    · rw [h2, h3, if_neg (fun z => z h1), sp_232, sp_bd, sp_b, e37, sp_ck (by omega), sp_if (by rw [l2]; omega), sp_b]
      rfl
    · rw [h2, h3, if_pos h1, sp_232, sp_bd, sp_b, e38, sp_ck (by omega), sp_if (by rw [l3]; omega), sp_b]
      rfl
  have nl : ¬ (lkp (T.1 621 38) (T.1 621 37) = 3840 + m) ∧ (lkc (T.1 621 38) = 626 ∨ lkc (T.1 621 38) = 627) := by
    rcases lk_i (T.1 621 38) (T.1 621 37) with ⟨h1, h2, h3⟩ | ⟨h1, h2, h3⟩
    · exact ⟨by omega, Or.inl h2⟩
    · exact ⟨by omega, Or.inr h2⟩
  generalize lkp (T.1 621 38) (T.1 621 37) = lp at *
  generalize lkc (T.1 621 38) = lc at *
  have fr : ∀ c g, ¬ (c = lc ∧ g = lp) → ¬ (c = 621 ∧ (g = 38 ∨ g = 39)) → (ev_pI (ev_pI (ev_pI U lc lp (m : Int)) 621 38 (m : Int)) 621 39 (m : Int)).1 c g = U.1 c g := fun c g h1 h2 => by
    rw [sp_pI1, if_neg (by omega), sp_pI1, if_neg (by omega), sp_pI1, if_neg h1]
  have fn : ∀ c, 625 ≤ c → c ≤ 632 → (ev_pI (ev_pI (ev_pI U lc lp (m : Int)) 621 38 (m : Int)) 621 39 (m : Int)).1 c (3840 + m) = T1.1 c (3840 + m) := fun c h1 h2 => by
    rw [fr c _ (by omega) (by omega), vf c _ (by omega)]
  refine ⟨_, run, ⟨?_, ?_, ?_, ?_, rd_eq, ?_⟩, ⟨(fn 625 (by omega) (by omega)).trans u1, (fn 626 (by omega) (by omega)).trans u2, (fn 627 (by omega) (by omega)).trans u3, (fn 628 (by omega) (by omega)).trans u4, (fn 629 (by omega) (by omega)).trans u5, (fn 630 (by omega) (by omega)).trans u6, (fn 631 (by omega) (by omega)).trans u7, (fn 632 (by omega) (by omega)).trans u8, ?_, ?_⟩, fun c g h1 h2 h3 h4 => ?_, fun c g h => ?_, ?_⟩
  · rw [fr _ _ (by omega) (by omega), vf _ _ (by omega), t2]
  · rw [fr _ _ (by omega) (by omega), v27]
  · rw [fr _ _ (by omega) (by omega), v25]
  · rw [rd_nf (by omega), rd_eq]
  · rw [rd_nk (by omega), rd_nk (by omega), rd_eq]
  · show U.2.1 633 (3840 + m) = L0
    rw [v2, u9]
  · show U.2.1 634 (3840 + m) = L0
    rw [v2, u10]
  · rw [fr c g h4 (by omega), vf c g (by omega), t3 c g h1 h2]
  · show U.2.1 c g = _
    rw [v2, t4 c g h]
  · show U.2.2 = _
    rw [v2, t5]
end RNODE
