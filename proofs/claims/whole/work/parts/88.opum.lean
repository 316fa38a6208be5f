/-! THE READER: "(?:", "(?>", looks, conditions -/
section RPAR2
variable {Q k n m w d N M D lv t : Nat} {φ ψ own inn G R ws y : Nat → Nat} {P q : Nat → Int} {S T S0 T0 S1 S' S2 T2 T1 T3 U : ev_St}
theorem tk_par1 {p b c x f : Int} (hk : ev_isOb k 5 = true) (hkr : 232 ≤ k) (H : RIy k lv ws N M D φ ψ own inn G R y P q S T) (hp : T.1 645 lv = p) (hc : sp_at S (ws lv) p = 40) (h1 : sp_at S (ws lv) (p + 1) = 63) (hb : sp_at S (ws lv) (p + 2) = b) (hx : (b = 58 ∧ c = 9 ∧ x = 17 ∧ f = 0) ∨ (b = 62 ∧ c = 10 ∧ x = 19 ∧ f = 0) ∨ (b = 61 ∧ c = 11 ∧ x = 20 ∧ f = 0) ∨ (b = 33 ∧ c = 11 ∧ x = 21 ∧ f = 1)) : TK0 k lv ws (p + 3) S T (jm_85 Q S) (jm_263 Q T) := by
  have ht := H.1.2.1
  have hin := at_in (S := S) (w := ws lv) (p := p + 2) (by have := (ht.2.2.2.1 lv (Nat.le_refl _)).2.1; omega) (by rw [hb]; omega)
  have hp0 := (ht.2.2.2.1 lv (Nat.le_refl _)).2.1
  have h120 := (LV_tx ht.1 ht.2.1 (ht.2.2.2.1 lv (Nat.le_refl _)).1).2.2.1
  obtain ⟨l1, l2, l3, l4, l5, l6, l7, l8, l9, l10, l11⟩ := al_N
  obtain ⟨n1, n2, n3, n4, n5, n6⟩ := RIy_n H.1
  have e3 := H.1.1.1.1.2.2.1
  have hcs : cst c ≤ 3 := by unfold cst; split <;> (try split) <;> omega
  have hxk : x = kcl c f := by
    rcases hx with ⟨_, rfl, rfl, rfl⟩ | ⟨_, rfl, rfl, rfl⟩ | ⟨_, rfl, rfl, rfl⟩ | ⟨_, rfl, rfl, rfl⟩ <;> rfl
  obtain ⟨T1, t1, ⟨ta, tb⟩, t2⟩ := tk_openB (Q := Q) (p := p + 3) c 0 f H hkr (by omega) (by omega) hxk (by omega) (by omega) (fun _ => rfl)
  obtain ⟨T3, t3, t4, t5⟩ := t2 (ev_pI T1 629 (3840 + N) f) ⟨by rw [rd_nk (by omega)]; exact ta, rd_eq⟩ (fun a g h => by rw [sp_pI1, if_neg (by omega)]) rfl
  have runR : jm_263 Q T = some ((), T3) := by
    rw [br_R ht hp.symm hc, if_pos h1]
    unfold jm_261
    rw [pk_Tp ht (by omega), sp_bd, pk_Tp ht (by omega), sp_bd, pk_Tp ht (by omega), sp_bd, Int.add_zero, hb, sp_jn]
    rcases hx with ⟨rfl, rfl, rfl, rfl⟩ | ⟨rfl, rfl, rfl, rfl⟩ | ⟨rfl, rfl, rfl, rfl⟩ | ⟨rfl, rfl, rfl, rfl⟩
    · rw [if_pos (show ((58 : Int) ≠ 60) by decide)]
      try dsimp only
      rw [if_pos (show ((58 : Int) ≠ 60) by decide), sp_jn, if_pos rfl]
      try dsimp only
      rw [go_Tp ht (by omega), sp_bd, show p + 2 + 1 = p + 3 from by omega, sp_jn, if_neg (fun z => z rfl)]
      try dsimp only
      rw [t1, sp_bd, sp_232, sp_bd, sp_ck (by omega), sp_jn, if_pos (show ((58 : Int) ≠ 33) by decide)]
      try dsimp only
      rw [sp_if (by rw [l5]; omega), show ((3840 : Int) + (N : Int)).toNat = 3840 + N from by omega, sp_b, t3, sp_bd, sp_bd]
    · rw [if_pos (show ((62 : Int) ≠ 60) by decide)]
      try dsimp only
      rw [if_pos (show ((62 : Int) ≠ 60) by decide), sp_jn, if_neg (show ¬ ((62 : Int) = 58) by decide), if_pos rfl]
      try dsimp only
      rw [go_Tp ht (by omega), sp_bd, show p + 2 + 1 = p + 3 from by omega, sp_jn, if_pos (show ((62 : Int) ≠ 58) by decide), if_neg (fun z => z rfl)]
      try dsimp only
      rw [t1, sp_bd, sp_232, sp_bd, sp_ck (by omega), sp_jn, if_pos (show ((62 : Int) ≠ 33) by decide)]
      try dsimp only
      rw [sp_if (by rw [l5]; omega), show ((3840 : Int) + (N : Int)).toNat = 3840 + N from by omega, sp_b, t3, sp_bd, sp_bd]
    · rw [if_pos (show ((61 : Int) ≠ 60) by decide)]
      try dsimp only
      rw [if_pos (show ((61 : Int) ≠ 60) by decide), sp_jn, if_neg (show ¬ ((61 : Int) = 58) by decide), if_neg (show ¬ ((61 : Int) = 62) by decide), if_pos rfl]
      try dsimp only
      rw [go_Tp ht (by omega), sp_bd, show p + 2 + 1 = p + 3 from by omega, sp_jn, if_pos (show ((61 : Int) ≠ 58) by decide), if_pos (show ((61 : Int) ≠ 62) by decide)]
      try dsimp only
      rw [t1, sp_bd, sp_232, sp_bd, sp_ck (by omega), sp_jn, if_pos (show ((61 : Int) ≠ 33) by decide)]
      try dsimp only
      rw [sp_if (by rw [l5]; omega), show ((3840 : Int) + (N : Int)).toNat = 3840 + N from by omega, sp_b, t3, sp_bd, sp_bd]
    · rw [if_pos (show ((33 : Int) ≠ 60) by decide)]
      try dsimp only
      rw [if_pos (show ((33 : Int) ≠ 60) by decide), sp_jn, if_neg (show ¬ ((33 : Int) = 58) by decide), if_neg (show ¬ ((33 : Int) = 62) by decide), if_neg (show ¬ ((33 : Int) = 61) by decide), if_neg (fun z => z rfl)]
      try dsimp only
      rw [go_Tp ht (by omega), sp_bd, show p + 2 + 1 = p + 3 from by omega, sp_jn, if_pos (show ((33 : Int) ≠ 58) by decide), if_pos (show ((33 : Int) ≠ 62) by decide)]
      try dsimp only
      rw [t1, sp_bd, sp_232, sp_bd, sp_ck (by omega), sp_jn, if_neg (fun z => z rfl)]
      try dsimp only
      rw [sp_if (by rw [l5]; omega), show ((3840 : Int) + (N : Int)).toNat = 3840 + N from by omega, sp_b, t3, sp_bd, sp_bd]
  have redC : ((∃ S', jm_103 Q 2 x 0 (ev_pI S 3 8 (p + 1)) = some (0, S')) ∨ ∃ S', jm_103 Q 2 x 0 (ev_pI S 3 8 (p + 1)) = some (1, S')) → jm_85 Q S = jm_103 Q 2 x 0 (ev_pI S 3 8 (p + 1)) := fun hA => by
    rw [br_C ht hp.symm hc]
    unfold jm_102
    rw [pk_Sp ht (by omega), sp_bd, Int.add_zero, h1, if_pos (by decide), pk_Sp ht (by omega), sp_bd, Int.add_zero, h1, if_pos rfl, pk_Sp ht (by omega), sp_bd, show p + 1 + 1 = p + 2 from by omega, hb]
    rcases hx with ⟨rfl, rfl, rfl, rfl⟩ | ⟨rfl, rfl, rfl, rfl⟩ | ⟨rfl, rfl, rfl, rfl⟩ | ⟨rfl, rfl, rfl, rfl⟩
    · rw [if_neg (show ¬ ((58 : Int) = 33) by decide), if_neg (show ¬ ((58 : Int) = 38) by decide), if_neg (show ¬ ((58 : Int) = 40) by decide), if_neg (by decide), if_pos rfl, fin_bd hA]
      exact fin_bd hA
    · rw [if_neg (show ¬ ((62 : Int) = 33) by decide), if_neg (show ¬ ((62 : Int) = 38) by decide), if_neg (show ¬ ((62 : Int) = 40) by decide), if_neg (by decide), if_neg (show ¬ ((62 : Int) = 58) by decide), if_neg (show ¬ ((62 : Int) = 60) by decide), if_neg (show ¬ ((62 : Int) = 61) by decide), if_pos rfl, fin_bd hA]
      exact fin_bd hA
    · rw [if_neg (show ¬ ((61 : Int) = 33) by decide), if_neg (show ¬ ((61 : Int) = 38) by decide), if_neg (show ¬ ((61 : Int) = 40) by decide), if_neg (by decide), if_neg (show ¬ ((61 : Int) = 58) by decide), if_neg (show ¬ ((61 : Int) = 60) by decide), if_pos rfl, fin_bd hA]
      exact fin_bd hA
    · rw [if_pos rfl, fin_bd hA]
      exact fin_bd hA
  rcases sp_103 (Q := Q) (a := 2) (kd := x) (gr := 0) (r := p + 1) (D := D) (U := ev_pI S 3 8 (p + 1)) ⟨rd_eq, by omega, by omega⟩ (by rw [rd_nf (by omega)]; omega) (by rw [rd_nf (by omega), e3]) (by
    by_cases z : D + 1 < 152
    · exact z
    · omega) with ⟨z, S', s1⟩ | ⟨z, S', s1, s2⟩
  · rw [rd_nf (by omega)] at z
    exact Or.inl ⟨S', T3, (redC (Or.inl ⟨S', s1⟩)).trans s1, runR, t4 (by omega)⟩
  · rw [rd_nf (by omega)] at z
    rw [rd_nf (by omega), pI_pI, show p + 1 + 2 = p + 3 from by omega] at s2
    obtain ⟨r1, r2⟩ := t5 (by omega) S' 0 (fun _ => rfl) s2
    exact Or.inr ⟨S', T3, (redC (Or.inr ⟨S', s1⟩)).trans s1, runR, r1, r2⟩
end RPAR2
