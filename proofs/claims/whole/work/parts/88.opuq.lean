/-! THE READER: groups that have a number, the runs -/
section RGRP2
variable {Q k n m w d N M D lv t : Nat} {φ ψ own inn G R ws y : Nat → Nat} {P q : Nat → Int} {S T S0 T0 S1 S' S2 T2 T1 T3 U : ev_St}
theorem al_G3 : (12 : Int) < (ev_aln 636 : Int) ∧ (130 : Int) ≤ (ev_aln 637 : Int) ∧ (338 : Int) ≤ (ev_aln 638 : Int) := by decide +kernel
set_option maxRecDepth 100000 in
theorem sp_259 {a r : Int} (h : RIb k lv ws N M D φ ψ own inn G R P q S T) (hkr : 232 ≤ k) (hr : 0 ≤ r ∧ r ≤ S.1 (ws lv) 1) (ha : a = -1 ∨ ∃ l : Nat, l < 26 ∧ a = (l : Int)) : ((T.1 636 12 = 9 ∨ ∃ l : Nat, l < 26 ∧ a = (l : Int) ∧ 0 < T.1 638 (312 + l)) ∧ ∃ T3, jm_259 Q a (ev_pI T 645 lv r) = some ((), T3) ∧ T3.1 621 25 = 1) ∨ (T.1 636 12 ≠ 9 ∧ (∀ l : Nat, l < 26 → a = (l : Int) → T.1 638 (312 + l) ≤ 0) ∧ ∃ T1 T3, jm_259 Q a (ev_pI T 645 lv r) = some ((), T3) ∧ ADr N 8 (ev_pI T 645 lv r) T1 ∧ OPr (D + 1) N (N + 1) 0 (grX N (T.1 636 12) a T1) T3) := by
  obtain ⟨l1, l2, l3, l4, l5, l6, l7, l8, l9, l10, l11⟩ := al_N
  obtain ⟨q1, q2, q3⟩ := al_G3
  obtain ⟨n1, n2, n3, n4, n5, n6⟩ := RIy_n h
  have c12 : (0 : Int) ≤ 12 ∧ (12 : Int) < (ev_aln 636 : Int) := ⟨by decide, q1⟩
  have hg := h.2.2.1.1
  obtain ⟨g, hgv⟩ : ∃ g, T.1 636 12 = g := ⟨_, rfl⟩
  rw [hgv] at hg ⊢
  have eg : (ev_pI T 645 lv r).1 636 12 = g := (rd_nk (by omega)).trans hgv
  have e12 : Int.toNat 12 = 12 := rfl
  by_cases e9 : g = 9
  · refine Or.inl ⟨Or.inl e9, ev_pI (ev_pI T 645 lv r) 621 25 1, ?_, rd_eq⟩
    unfold jm_259
    rw [e12, sp_if c12, sp_b, eg, if_pos e9, sp_b]
  obtain ⟨T1, t1, u⟩ := tk_add (Q := Q) 8 h hkr (mv_pI (S := S) (T := T) (lv := lv) (p := r)) hr
  have e4 := h.1.1.1.2.2.2.1
  have eg1 : T1.1 636 12 = g := by rw [ADr_o u (by omega) (by omega) (by omega), eg]
  obtain ⟨T3, t3, hO⟩ := sp_239 (Q := Q) (T := grX N g a T1) (d := D + 1) (m := N + 1) (n := N) (tx := 0) (by rw [grX_o (by omega), ADr_o u (by omega) (by omega) (by omega), rd_nk (by omega), e4]; omega) (by omega) (by rw [grX_o (by omega), u.1.1]; omega) (by omega) (by omega) (Or.inl rfl)
  have hO : OPr (D + 1) N (N + 1) 0 (grX N g a T1) T3 := hO
  rcases ha with ha | ⟨l, hl, ha⟩
  · refine Or.inr ⟨e9, fun l _ z => by omega, T1, T3, ?_, u, hO⟩
    rw [show grX N g a T1 = grU N g T1 from if_pos ha] at t3
    unfold jm_259
    rw [e12, sp_if c12, sp_b, eg, if_neg e9, sp_jn, if_pos ha]
    try dsimp only
    rw [t1, sp_bd, sp_if c12, sp_b, eg1, sp_ck (by omega), sp_if c12, sp_b, sp_232, sp_bd, sp_ck (by omega), sp_if c12, sp_b, rd_eq, sp_if (by rw [l4]; omega), show ((3840 : Int) + (N : Int)).toNat = 3840 + N from by omega, sp_b, sp_if c12, sp_b, rd_nk (by omega), rd_eq, sp_ck (by omega), sp_if (by omega), sp_b, sp_jn, if_pos ha]
    try dsimp only
    unfold grU at t3
    rw [t3, sp_bd]
  · have e312 : Int.toNat (312 + a) = 312 + l := by omega
    have el : (ev_pI T 645 lv r).1 638 (312 + l) = T.1 638 (312 + l) := rd_nk (by omega)
    by_cases z : T.1 638 (312 + l) ≤ 0
    · refine Or.inr ⟨e9, fun m _ e => by rw [show m = l from by omega]; exact z, T1, T3, ?_, u, hO⟩
      rw [show grX N g a T1 = ev_pI (grU N g T1) 638 (312 + a).toNat (g + 1) from if_neg (by omega), e312] at t3
      unfold jm_259
      rw [e12, sp_if c12, sp_b, eg, if_neg e9, sp_jn, if_neg (by omega), sp_ck (by omega), sp_if (by omega), e312, sp_b, el, if_pos z]
      try dsimp only
      rw [t1, sp_bd, sp_if c12, sp_b, eg1, sp_ck (by omega), sp_if c12, sp_b, sp_232, sp_bd, sp_ck (by omega), sp_if c12, sp_b, rd_eq, sp_if (by rw [l4]; omega), show ((3840 : Int) + (N : Int)).toNat = 3840 + N from by omega, sp_b, sp_if c12, sp_b, rd_nk (by omega), rd_eq, sp_ck (by omega), sp_if (by omega), sp_b, sp_jn, if_neg (by omega), sp_ck (by omega), sp_if c12, sp_b, rd_nk (by omega), rd_nk (by omega), rd_eq, sp_if (by omega), e312, sp_b]
      try dsimp only
      unfold grU at t3
      rw [t3, sp_bd]
    · refine Or.inl ⟨Or.inr ⟨l, hl, ha, by omega⟩, ev_pI (ev_pI T 645 lv r) 621 25 1, ?_, rd_eq⟩
      unfold jm_259
      rw [e12, sp_if c12, sp_b, eg, if_neg e9, sp_jn, if_neg (by omega), sp_ck (by omega), sp_if (by omega), e312, sp_b, el, if_neg z, sp_b]
theorem sp_103f {a kd gr r : Int} (hr : U.1 3 8 = r ∧ 0 ≤ r + a ∧ r + a ≤ 1000) (hc : 0 ≤ U.1 3 14 ∧ U.1 3 14 ≤ 1000) (hz : 150 ≤ U.1 3 14) : ∃ S', jm_103 Q a kd gr U = some (0, S') ∧ S'.2 = U.2 := by
  have e : (ev_pI U 3 8 (r + a)).1 3 14 = U.1 3 14 := rd_nf (by omega)
  unfold jm_103
  rw [sp_b, hr.1, sp_ck (by omega), sp_b, sp_87 (by rw [e]; omega), e, if_pos hz, sp_bd, if_pos rfl]
  exact ⟨_, rfl, rfl⟩
theorem sp_104 {r g : Int} (h : RIb k lv ws N M D φ ψ own inn G R P q S T) (hkr : 232 ≤ k) (hr : 0 ≤ r ∧ r ≤ 1000) (hg : T.1 636 12 = g) : (g = 9 ∧ ∃ S', jm_104 Q (ev_pI S 3 8 r) = some (0, S') ∧ S'.2 = S.2) ∨ (g ≠ 9 ∧ 150 ≤ T.1 621 27 ∧ ∃ S', jm_104 Q (ev_pI S 3 8 r) = some (0, S') ∧ S'.2 = S.2) ∨ (g ≠ 9 ∧ T.1 621 27 < 150 ∧ ∃ S', jm_104 Q (ev_pI S 3 8 r) = some (1, S') ∧ BGc (D + 1) 18 (g + 1) 0 (ev_pI (ev_pI (ev_pI (ev_pI S 3 8 r) k 12 (g + 1)) 3 8 r) 3 14 (S.1 3 14 + 1)) S') := by
  obtain ⟨n1, n2, n3, n4, n5, n6⟩ := RIy_n h
  have hgg := h.2.2.1.1
  rw [hg] at hgg
  have h9 := h.2.2.2.2.2.2.1
  have e3 := h.1.1.1.2.2.1
  have e9 : (ev_pI S 3 8 r).2.2.1 3 9 = k + 1 := h9
  have eg : (ev_pI S 3 8 r).1 k 12 = g := by rw [rd_nk (by omega), hgg.1]
  have e9' : (ev_pI (ev_pI S 3 8 r) k 12 (g + 1)).2.2.1 3 9 = k + 1 := h9
  unfold jm_104
  rw [sp_b, e9, sp_if (by omega), Nat.add_sub_cancel, sp_b, eg]
  by_cases z : g = 9
  · rw [if_neg (by omega)]
    exact Or.inl ⟨z, _, rfl, rfl⟩
  rw [if_pos (by omega), sp_b, sp_if (by omega), show k + 1 - 1 = k from rfl, sp_b, eg, sp_ck (by omega), sp_if (by omega), sp_b, sp_b, e9', sp_if (by omega), show k + 1 - 1 = k from rfl, sp_b, rd_eq]
  have f14 : (ev_pI (ev_pI S 3 8 r) k 12 (g + 1)).1 3 14 = S.1 3 14 := by rw [rd_nk (by omega), rd_nf (by omega)]
  have f8 : (ev_pI (ev_pI S 3 8 r) k 12 (g + 1)).1 3 8 = r := by rw [rd_nk (by omega), rd_eq]
  by_cases z2 : 150 ≤ S.1 3 14
  · obtain ⟨S', s1, s2⟩ := sp_103f (Q := Q) (a := 0) (kd := 18) (gr := g + 1) (r := r) (U := ev_pI (ev_pI S 3 8 r) k 12 (g + 1)) ⟨f8, by omega, by omega⟩ (by rw [f14]; omega) (by rw [f14]; exact z2)
    rw [s1, sp_bd, sp_if (Or.inl rfl)]
    exact Or.inr (Or.inl ⟨z, by omega, S', rfl, s2⟩)
  · rcases sp_103 (Q := Q) (a := 0) (kd := 18) (gr := g + 1) (r := r) (D := D) (U := ev_pI (ev_pI S 3 8 r) k 12 (g + 1)) ⟨f8, by omega, by omega⟩ (by rw [f14]; omega) (by rw [rd_nk (by omega), rd_nf (by omega), e3]) (by omega) with ⟨y, _⟩ | ⟨_, S', s1, s2⟩
    · exact absurd (by rw [f14] at y; exact y) z2
    · rw [f14, Int.add_zero] at s2
      rw [s1, sp_bd, sp_if (Or.inr rfl)]
      exact Or.inr (Or.inr ⟨z, by omega, S', rfl, s2⟩)
end RGRP2
