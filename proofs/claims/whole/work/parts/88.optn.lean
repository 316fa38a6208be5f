/-! THE READER: a group is opened on both sides, step by step -/
section ROPEN
variable {Q k n m w d : Nat} {S T : ev_St}
theorem sp_236b (hc : 0 ≤ T.1 621 27 ∧ T.1 621 27 ≤ 1000) : jm_236 Q T = some ((), ev_pI (ev_pI T 621 27 (T.1 621 27 + 1)) 621 25 (if T.1 621 25 = 0 ∧ T.1 621 27 < 150 then 0 else 1)) := by
  by_cases hb : T.1 621 25 = 0
  · rw [sp_236 hc hb]
    by_cases e : 150 ≤ T.1 621 27
    · rw [if_pos e, if_neg (by omega)]
    · rw [if_neg e, if_pos (by omega)]
  · unfold jm_236
    rw [sp_b, sp_ck (by omega), sp_b, rd_nf (by omega), sp_b, if_pos hb, sp_b, if_neg (fun z => hb z.1)]
theorem sp_237b {a : Int} (hm : T.1 635 12 = (m : Int)) (hh : m < 320) (hc : 0 ≤ T.1 621 27 ∧ T.1 621 27 ≤ 1000) (hr : 0 ≤ T.1 621 37 ∧ T.1 621 37 < m) (hl : -1 ≤ T.1 621 38 ∧ T.1 621 38 < m) : ∃ T', jm_237 Q a T = some ((m : Int), T') ∧ (T'.1 635 12 = (m : Int) + 1 ∧ T'.1 621 27 = T.1 621 27 + 1 ∧ T'.1 621 25 = (if T.1 621 25 = 0 ∧ T.1 621 27 < 150 then 0 else 1) ∧ T'.1 621 38 = (m : Int) ∧ T'.1 621 39 = (m : Int) ∧ T'.1 (lkc (T.1 621 38)) (lkp (T.1 621 38) (T.1 621 37)) = (m : Int)) ∧ (T'.1 625 (3840 + m) = a ∧ T'.1 626 (3840 + m) = -1 ∧ T'.1 627 (3840 + m) = -1 ∧ T'.1 628 (3840 + m) = 0 ∧ T'.1 629 (3840 + m) = 0 ∧ T'.1 630 (3840 + m) = -1 ∧ T'.1 631 (3840 + m) = 1 ∧ T'.1 632 (3840 + m) = 1 ∧ T'.2.1 633 (3840 + m) = L0 ∧ T'.2.1 634 (3840 + m) = L0) ∧ (∀ c g, ¬ (c = 635 ∧ g = 12) → ¬ (625 ≤ c ∧ c ≤ 632 ∧ g = 3840 + m) → ¬ (c = 621 ∧ (g = 25 ∨ g = 27 ∨ g = 38 ∨ g = 39)) → ¬ (c = lkc (T.1 621 38) ∧ g = lkp (T.1 621 38) (T.1 621 37)) → T'.1 c g = T.1 c g) ∧ (∀ c g, ¬ (633 ≤ c ∧ c ≤ 634 ∧ g = 3840 + m) → T'.2.1 c g = T.2.1 c g) ∧ T'.2.2 = T.2.2 := by
  obtain ⟨l1, l2, l3, l4, l5, l6, l7, l8, l9, l10, l11⟩ := al_N
  obtain ⟨T1, t1, t2, ⟨u1, u2, u3, u4, u5, u6, u7, u8, u9, u10⟩, t3, t4, t5⟩ := sp_235 (Q := Q) (a := a) hm hh
  have e27 : T1.1 621 27 = T.1 621 27 := t3 _ _ (by omega) (by omega)
  have e25 : T1.1 621 25 = T.1 621 25 := t3 _ _ (by omega) (by omega)
  have h236 := sp_236b (Q := Q) (T := T1) (by omega)
  rw [e27, e25] at h236
  obtain ⟨b, hb'⟩ : ∃ b, b = (if T.1 621 25 = 0 ∧ T.1 621 27 < 150 then (0 : Int) else 1) := ⟨_, rfl⟩
  rw [← hb'] at h236 ⊢
  have v27 : (ev_pI (ev_pI T1 621 27 (T.1 621 27 + 1)) 621 25 b).1 621 27 = T.1 621 27 + 1 := by rw [rd_nf (by omega), rd_eq]
  have v25 : (ev_pI (ev_pI T1 621 27 (T.1 621 27 + 1)) 621 25 b).1 621 25 = b := rd_eq
  have vf : ∀ c g, ¬ (c = 621 ∧ (g = 25 ∨ g = 27)) → (ev_pI (ev_pI T1 621 27 (T.1 621 27 + 1)) 621 25 b).1 c g = T1.1 c g := fun c g h => by
    rw [sp_pI1, if_neg (by omega), sp_pI1, if_neg (by omega)]
  have v2 : (ev_pI (ev_pI T1 621 27 (T.1 621 27 + 1)) 621 25 b).2 = T1.2 := rfl
  generalize ev_pI (ev_pI T1 621 27 (T.1 621 27 + 1)) 621 25 b = U at *
  have e38 : U.1 621 38 = T.1 621 38 := (vf _ _ (by omega)).trans (t3 _ _ (by omega) (by omega))
  have e37 : U.1 621 37 = T.1 621 37 := (vf _ _ (by omega)).trans (t3 _ _ (by omega) (by omega))
  have run : jm_237 Q a T = some ((m : Int), ev_pI (ev_pI (ev_pI U (lkc (T.1 621 38)) (lkp (T.1 621 38) (T.1 621 37)) (m : Int)) 621 38 (m : Int)) 621 39 (m : Int)) := by
    unfold jm_237
    rw [t1, sp_bd, h236, sp_bd, sp_b, e38, sp_jn]
    rcases lk_i (T.1 621 38) (T.1 621 37) with ⟨h1, h2, h3⟩ | ⟨h1, h2, h3⟩
    · rw [h2, h3, if_neg (fun z => z h1), sp_232, sp_bd, sp_b, e37, sp_ck (by omega), sp_if (by rw [l2]; omega), sp_b]
      rfl
    · rw [h2, h3, if_pos h1, sp_232, sp_bd, sp_b, e38, sp_ck (by omega), sp_if (by rw [l3]; omega), sp_b]
      rfl
  have nl : ¬ (lkp (T.1 621 38) (T.1 621 37) = 3840 + m) ∧ (lkc (T.1 621 38) = 626 ∨ lkc (T.1 621 38) = 627) := by
    rcases lk_i (T.1 621 38) (T.1 621 37) with ⟨h1, h2, h3⟩ | ⟨h1, h2, h3⟩
    · exact ⟨by omega, Or.inl h2⟩
    · exact ⟨by omega, Or.inr h2⟩
  generalize lkp (T.1 621 38) (T.1 621 37) = lp at *
  generalize lkc (T.1 621 38) = lc at *
  have fr : ∀ c g, ¬ (c = lc ∧ g = lp) → ¬ (c = 621 ∧ (g = 38 ∨ g = 39)) → (ev_pI (ev_pI (ev_pI U lc lp (m : Int)) 621 38 (m : Int)) 621 39 (m : Int)).1 c g = U.1 c g := fun c g h1 h2 => by
    rw [sp_pI1, if_neg (by omega), sp_pI1, if_neg (by omega), sp_pI1, if_neg h1]
  have fn : ∀ c, 625 ≤ c → c ≤ 632 → (ev_pI (ev_pI (ev_pI U lc lp (m : Int)) 621 38 (m : Int)) 621 39 (m : Int)).1 c (3840 + m) = T1.1 c (3840 + m) := fun c h1 h2 => by
    rw [fr c _ (by omega) (by omega), vf c _ (by omega)]
  refine ⟨_, run, ⟨?_, ?_, ?_, ?_, rd_eq, ?_⟩, ⟨(fn 625 (by omega) (by omega)).trans u1, (fn 626 (by omega) (by omega)).trans u2, (fn 627 (by omega) (by omega)).trans u3, (fn 628 (by omega) (by omega)).trans u4, (fn 629 (by omega) (by omega)).trans u5, (fn 630 (by omega) (by omega)).trans u6, (fn 631 (by omega) (by omega)).trans u7, (fn 632 (by omega) (by omega)).trans u8, ?_, ?_⟩, fun c g h1 h2 h3 h4 => ?_, fun c g h => ?_, ?_⟩
  · rw [fr _ _ (by omega) (by omega), vf _ _ (by omega), t2]
  · rw [fr _ _ (by omega) (by omega), v27]
  · rw [fr _ _ (by omega) (by omega), v25]
  · rw [rd_nf (by omega), rd_eq]
  · rw [rd_nk (by omega), rd_nk (by omega), rd_eq]
  · show U.2.1 633 (3840 + m) = L0
    rw [v2, u9]
  · show U.2.1 634 (3840 + m) = L0
    rw [v2, u10]
  · rw [fr c g h4 (by omega), vf c g (by omega), t3 c g h1 h2]
  · show U.2.1 c g = _
    rw [v2, t4 c g h]
  · show U.2.2 = _
    rw [v2, t5]
theorem al_O : ev_aln 646 = 160 ∧ ev_aln 647 = 160 ∧ ev_aln 648 = 160 ∧ ev_aln 649 = 160 ∧ ev_aln 650 = 160 := by decide +kernel
set_option maxRecDepth 100000 in
/-- the reference opens -/
theorem sp_239 {tx : Int} (hd : T.1 621 31 = (d : Int)) (hd2 : d < 160) (hm : T.1 635 12 = (m : Int)) (hh : m < 320) (hn : n < m) (hx : tx = 0 ∨ tx = 1) : ∃ T', jm_239 Q (n : Int) tx T = some ((), T') ∧ (T'.1 635 12 = (m : Int) + 1 ∧ T'.1 621 31 = (d : Int) + 1 ∧ T'.1 621 37 = (m : Int) ∧ T'.1 621 38 = -1 ∧ T'.1 621 39 = -1) ∧ (T'.1 646 d = (n : Int) ∧ T'.1 647 d = T.1 621 37 ∧ T'.1 648 d = T.1 621 38 ∧ T'.1 649 d = T.1 621 40 ∧ T'.1 650 d = tx) ∧ (T'.1 625 (3840 + m) = 18 ∧ T'.1 626 (3840 + m) = -1 ∧ T'.1 627 (3840 + m) = -1 ∧ T'.1 628 (3840 + m) = 0 ∧ T'.1 629 (3840 + m) = 0 ∧ T'.1 630 (3840 + m) = -1) ∧ T'.1 626 (3840 + n) = (m : Int) ∧ (∀ c g, ¬ (c = 635 ∧ g = 12) → ¬ (625 ≤ c ∧ c ≤ 632 ∧ g = 3840 + m) → ¬ (c = 626 ∧ g = 3840 + n) → ¬ (c = 621 ∧ (g = 31 ∨ g = 37 ∨ g = 38 ∨ g = 39)) → ¬ (646 ≤ c ∧ c ≤ 650 ∧ g = d) → T'.1 c g = T.1 c g) ∧ (∀ c g, ¬ (633 ≤ c ∧ c ≤ 634 ∧ g = 3840 + m) → T'.2.1 c g = T.2.1 c g) ∧ T'.2.2 = T.2.2 := by
  obtain ⟨l1, l2, l3, l4, l5, l6, l7, l8, l9, l10, l11⟩ := al_N
  obtain ⟨o1, o2, o3, o4, o5⟩ := al_O
  obtain ⟨U, hU⟩ : ∃ U, U = ev_pI (ev_pI (ev_pI (ev_pI (ev_pI (ev_pI T 646 d (n : Int)) 647 d (T.1 621 37)) 648 d (T.1 621 38)) 649 d (T.1 621 40)) 650 d tx) 621 31 ((d : Int) + 1) := ⟨_, rfl⟩
  have uf : ∀ c g, ¬ (c = 621 ∧ g = 31) → ¬ (646 ≤ c ∧ c ≤ 650 ∧ g = d) → U.1 c g = T.1 c g := fun c g h1 h2 => by
    rw [hU]
    (repeat (first | rw [sp_pI1, if_neg (by omega)] | rw [sp_pL1] | rw [sp_pL2, if_neg (by omega)]))
  have u2 : U.2 = T.2 := by rw [hU]; rfl
  obtain ⟨T1, t1, t2, ⟨a1, a2, a3, a4, a5, a6, a7, a8, a9, a10⟩, t3, t4, t5⟩ := sp_235 (Q := Q) (a := 18) (T := U) (m := m) (by rw [uf _ _ (by omega) (by omega), hm]) hh
  have run : jm_239 Q (n : Int) tx T = some ((), ev_pI (ev_pI (ev_pI (ev_pI T1 621 37 (m : Int)) 626 (3840 + n) (m : Int)) 621 38 (-1)) 621 39 (-1)) := by
    unfold jm_239
    rw [sp_b, hd, if_pos (by omega)]
    simp (disch := omega) only [sp_b, rd_nk, rd_eq, hd, Int.toNat_natCast]
    rw [sp_if (by rw [o1]; omega), sp_if (by rw [o2]; omega), sp_if (by rw [o3]; omega), sp_if (by rw [o4]; omega), sp_if (show ev_bl tx from hx), sp_if (by rw [o5]; omega), sp_ck (by omega), ← hU, t1, sp_bd, sp_232, sp_bd, sp_ck (by omega), rd_eq, sp_if (by rw [l2]; omega), show ((3840 : Int) + (n : Int)).toNat = 3840 + n from by omega]
  have f : ∀ c g, ¬ (c = 626 ∧ g = 3840 + n) → ¬ (c = 621 ∧ (g = 37 ∨ g = 38 ∨ g = 39)) → (ev_pI (ev_pI (ev_pI (ev_pI T1 621 37 (m : Int)) 626 (3840 + n) (m : Int)) 621 38 (-1)) 621 39 (-1)).1 c g = T1.1 c g := fun c g h1 h2 => by
    (repeat (first | rw [sp_pI1, if_neg (by omega)] | rw [sp_pL1] | rw [sp_pL2, if_neg (by omega)]))
  have fo : ∀ c, 646 ≤ c → c ≤ 650 → (ev_pI (ev_pI (ev_pI (ev_pI T1 621 37 (m : Int)) 626 (3840 + n) (m : Int)) 621 38 (-1)) 621 39 (-1)).1 c d = U.1 c d := fun c h1 h2 => by
    rw [f c d (by omega) (by omega), t3 c d (by omega) (by omega)]
  refine ⟨_, run, ⟨?_, ?_, ?_, ?_, rd_eq⟩, ⟨?_, ?_, ?_, ?_, ?_⟩, ⟨?_, ?_, ?_, ?_, ?_, ?_⟩, ?_, fun c g h1 h2 h3 h4 h5 => ?_, fun c g h => ?_, ?_⟩
  · rw [f _ _ (by omega) (by omega), t2]
  · rw [f _ _ (by omega) (by omega), t3 _ _ (by omega) (by omega), hU, rd_eq]
  · rw [rd_nf (by omega), rd_nf (by omega), rd_nk (by omega), rd_eq]
  · rw [rd_nf (by omega), rd_eq]
  · rw [fo 646 (by omega) (by omega), hU]; simp (disch := omega) only [rd_eq, rd_nk, rd_nf, rdL_nk, rdL_nf, rd_L, sp_pI2, sp_pL1, sp_pL3]
  · rw [fo 647 (by omega) (by omega), hU]; simp (disch := omega) only [rd_eq, rd_nk, rd_nf, rdL_nk, rdL_nf, rd_L, sp_pI2, sp_pL1, sp_pL3]
  · rw [fo 648 (by omega) (by omega), hU]; simp (disch := omega) only [rd_eq, rd_nk, rd_nf, rdL_nk, rdL_nf, rd_L, sp_pI2, sp_pL1, sp_pL3]
  · rw [fo 649 (by omega) (by omega), hU]; simp (disch := omega) only [rd_eq, rd_nk, rd_nf, rdL_nk, rdL_nf, rd_L, sp_pI2, sp_pL1, sp_pL3]
  · rw [fo 650 (by omega) (by omega), hU]; simp (disch := omega) only [rd_eq, rd_nk, rd_nf, rdL_nk, rdL_nf, rd_L, sp_pI2, sp_pL1, sp_pL3]
  · rw [f _ _ (by omega) (by omega), a1]
  · rw [f _ _ (by omega) (by omega), a2]
  · rw [f _ _ (by omega) (by omega), a3]
  · rw [f _ _ (by omega) (by omega), a4]
  · rw [f _ _ (by omega) (by omega), a5]
  · rw [f _ _ (by omega) (by omega), a6]
  · rw [rd_nk (by omega), rd_nk (by omega), rd_eq]
  · rw [f c g h3 (by omega), t3 c g h1 h2, uf c g (by omega) h5]
  · show T1.2.1 c g = _
    rw [t4 c g h, u2]
  · show T1.2.2 = _
    rw [t5, u2]
/-- the class begins a part -/
theorem sp_98 {a b c : Int} (hd : S.1 3 10 = (d : Int) - 1) (hd2 : d < 152) (hc : c = 0 ∨ c = 1) : ∃ S', jm_98 Q a b c S = some (1, S') ∧ (S'.1 (17 + d) 0 = a ∧ S'.1 (17 + d) 1 = b ∧ S'.1 (17 + d) 2 = S.1 3 11 ∧ S'.1 (17 + d) 3 = c ∧ ∀ g, 4 ≤ g → g ≤ 8 → S'.1 (17 + d) g = -1) ∧ (S'.1 3 10 = (d : Int) ∧ S'.1 3 13 = 0) ∧ (∀ x g, ¬ (x = 3 ∧ (g = 10 ∨ g = 13)) → ¬ (x = 17 + d ∧ g ≤ 8) → S'.1 x g = S.1 x g) ∧ S'.2 = S.2 := by
  have dn : 17 + 1 * ((d : Int)).toNat = 17 + d := by omega
  refine ⟨ev_pI (ev_pI (ev_pI (ev_pI (ev_pI (ev_pI (ev_pI (ev_pI (ev_pI (ev_pI (ev_pI S 3 10 (d : Int)) (17 + d) 0 a) (17 + d) 1 b) (17 + d) 2 (S.1 3 11)) (17 + d) 3 c) (17 + d) 4 (-1)) (17 + d) 5 (-1)) (17 + d) 6 (-1)) (17 + d) 7 (-1)) (17 + d) 8 (-1)) 3 13 0, ?_, ⟨?_, ?_, ?_, ?_, fun g h1 h2 => ?_⟩, ⟨?_, rd_eq⟩, fun x g h1 h2 => ?_, rfl⟩
  · unfold jm_98
    have e1 : (d : Int) - 1 + 1 = (d : Int) := by omega
    simp (disch := omega) only [sp_b, rd_nk, rd_nf, rd_eq, hd, e1, dn]
    rw [sp_ck (by omega), if_neg (by omega), sp_ck (by omega), if_pos (by omega), sp_ck (by omega), sp_if (by omega), sp_if (show ev_bl c from hc), dn]
  · simp (disch := omega) only [rd_eq, rd_nk, rd_nf, rdL_nk, rdL_nf, rd_L, sp_pI2, sp_pL1, sp_pL3]
  · simp (disch := omega) only [rd_eq, rd_nk, rd_nf, rdL_nk, rdL_nf, rd_L, sp_pI2, sp_pL1, sp_pL3]
  · simp (disch := omega) only [rd_eq, rd_nk, rd_nf, rdL_nk, rdL_nf, rd_L, sp_pI2, sp_pL1, sp_pL3]
  · simp (disch := omega) only [rd_eq, rd_nk, rd_nf, rdL_nk, rdL_nf, rd_L, sp_pI2, sp_pL1, sp_pL3]
  · obtain rfl | rfl | rfl | rfl | rfl : g = 4 ∨ g = 5 ∨ g = 6 ∨ g = 7 ∨ g = 8 := by omega
    all_goals simp (disch := omega) only [rd_eq, rd_nk, rd_nf, rdL_nk, rdL_nf, rd_L, sp_pI2, sp_pL1, sp_pL3]
  · simp (disch := omega) only [rd_eq, rd_nk, rd_nf, rdL_nk, rdL_nf, rd_L, sp_pI2, sp_pL1, sp_pL3]
  · (repeat (first | rw [sp_pI1, if_neg (by omega)] | rw [sp_pL1] | rw [sp_pL2, if_neg (by omega)]))
end ROPEN
