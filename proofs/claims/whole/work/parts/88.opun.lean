/-! THE READER: looks behind, conditions, calls, verbs -/
section RPAR3
variable {Q k n m w d N M D lv t : Nat} {φ ψ own inn G R ws y : Nat → Nat} {P q : Nat → Int} {S T S0 T0 S1 S' S2 T2 T1 T3 U : ev_St}
/-- a new item, and a part opened, where it is bad already -/
theorem tk_badO (c : Int) {r : Int} (h : RIb k lv ws N M D φ ψ own inn G R P q S T) : ∃ T1, jm_237 Q c (xS lv T r 1) = some ((N : Int), T1) ∧ ADr N c (xS lv T r 1) T1 ∧ T1.1 621 25 = 1 ∧ ∀ T2, (∀ a g, ¬ ((a = 628 ∨ a = 629) ∧ g = 3840 + N) → T2.1 a g = T1.1 a g) → ∃ T3, jm_239 Q (N : Int) 0 T2 = some ((), T3) ∧ T3.1 621 25 = 1 := by
  obtain ⟨n1, n2, n3, n4, n5, n6⟩ := RIy_n h
  obtain ⟨b1, b2, b3⟩ := RDR_b h.1.1
  have e4 := h.1.1.1.2.2.2.1
  obtain ⟨T1, t1, u⟩ := sp_237b (Q := Q) (a := c) (m := N) (T := xS lv T r 1) (by rw [xS_o (by omega) (by omega)]; exact h.1.1.1.1) (by omega) (by rw [xS_o (by omega) (by omega)]; omega) (by rw [xS_o (by omega) (by omega)]; exact b1) (by rw [xS_o (by omega) (by omega)]; exact b2)
  have u : ADr N c (xS lv T r 1) T1 := u
  have u25 : T1.1 621 25 = 1 := by rw [u.1.2.2.1, xS_25, if_neg (by omega)]
  refine ⟨T1, t1, u, u25, fun T2 w2 => ?_⟩
  obtain ⟨T3, t3, hO⟩ := sp_239 (Q := Q) (T := T2) (d := D + 1) (m := N + 1) (n := N) (tx := 0) (by rw [w2 _ _ (by omega), ADr_o u (by omega) (by omega) (by omega), xS_o (by omega) (by omega), e4]; omega) (by omega) (by rw [w2 _ _ (by omega), u.1.1]; omega) (by omega) (by omega) (Or.inl rfl)
  exact ⟨T3, t3, by rw [hO.2.2.2.2.1 _ _ (by omega) (by omega) (by omega) (by omega) (by omega), w2 _ _ (by omega), u25]⟩
theorem tk_look {p d x f : Int} (hk : ev_isOb k 5 = true) (hkr : 232 ≤ k) (H : RIy k lv ws N M D φ ψ own inn G R y P q S T) (hp : T.1 645 lv = p) (hc : sp_at S (ws lv) p = 40) (h1 : sp_at S (ws lv) (p + 1) = 63) (h2 : sp_at S (ws lv) (p + 2) = 60) (hd : sp_at S (ws lv) (p + 3) = d) (hx : (d = 61 ∧ x = 22 ∧ f = 0) ∨ (d = 33 ∧ x = 23 ∧ f = 1)) : TK0 k lv ws (p + 4) S T (jm_85 Q S) (jm_263 Q T) := by
  have ht := H.1.2.1
  have hp0 := (ht.2.2.2.1 lv (Nat.le_refl _)).2.1
  have hin := at_in (S := S) (w := ws lv) (p := p + 3) (by omega) (by rw [hd]; omega)
  have h120 := (LV_tx ht.1 ht.2.1 (ht.2.2.2.1 lv (Nat.le_refl _)).1).2.2.1
  obtain ⟨l1, l2, l3, l4, l5, l6, l7, l8, l9, l10, l11⟩ := al_N
  obtain ⟨n1, n2, n3, n4, n5, n6⟩ := RIy_n H.1
  have e3 := H.1.1.1.1.2.2.1
  have hxk : x = kcl 12 f := by
    rcases hx with ⟨_, rfl, rfl⟩ | ⟨_, rfl, rfl⟩ <;> rfl
  obtain ⟨T1, t1, ⟨ta, tb⟩, t2⟩ := tk_openB (Q := Q) (p := p + 4) 12 0 f H hkr (by show T.1 645 lv + ((0 : Nat) : Int) ≤ _ ∧ _; omega) (by omega) hxk (by omega) (by omega) (fun _ => rfl)
  obtain ⟨T3, t3, t4, t5⟩ := t2 (ev_pI T1 629 (3840 + N) f) ⟨by rw [rd_nk (by omega)]; exact ta, rd_eq⟩ (fun a g h => by rw [sp_pI1, if_neg (by omega)]) rfl
  have runR : jm_263 Q T = some ((), T3) := by
    rw [br_R ht hp.symm hc, if_pos h1]
    unfold jm_261
    rw [pk_Tp ht (by omega), sp_bd, pk_Tp ht (by omega), sp_bd, pk_Tp ht (by omega), sp_bd, Int.add_zero, h2, show p + 2 + 1 = p + 3 from by omega, hd, sp_jn, if_neg (fun z => z rfl), sp_jn]
    rcases hx with ⟨rfl, rfl, rfl⟩ | ⟨rfl, rfl, rfl⟩
    · rw [if_pos rfl]
      try dsimp only
      rw [go_Tp ht (by omega), sp_bd, show p + 2 + 2 = p + 4 from by omega, t1, sp_bd, sp_232, sp_bd, sp_ck (by omega), sp_jn, if_pos (show ((61 : Int) ≠ 33) by decide)]
      try dsimp only
      rw [sp_if (by rw [l5]; omega), show ((3840 : Int) + (N : Int)).toNat = 3840 + N from by omega, sp_b, t3, sp_bd, sp_bd]
    · rw [if_neg (show ¬ ((33 : Int) = 61) by decide), if_neg (fun z => z rfl)]
      try dsimp only
      rw [go_Tp ht (by omega), sp_bd, show p + 2 + 2 = p + 4 from by omega, t1, sp_bd, sp_232, sp_bd, sp_ck (by omega), sp_jn, if_neg (fun z => z rfl)]
      try dsimp only
      rw [sp_if (by rw [l5]; omega), show ((3840 : Int) + (N : Int)).toNat = 3840 + N from by omega, sp_b, t3, sp_bd, sp_bd]
  have redC : ((∃ S', jm_103 Q 3 x 0 (ev_pI S 3 8 (p + 1)) = some (0, S')) ∨ ∃ S', jm_103 Q 3 x 0 (ev_pI S 3 8 (p + 1)) = some (1, S')) → jm_85 Q S = jm_103 Q 3 x 0 (ev_pI S 3 8 (p + 1)) := fun hA => by
    rw [br_C ht hp.symm hc]
    unfold jm_102
    rw [pk_Sp ht (by omega), sp_bd, Int.add_zero, h1, if_pos (by decide), pk_Sp ht (by omega), sp_bd, Int.add_zero, h1, if_pos rfl, pk_Sp ht (by omega), sp_bd, show p + 1 + 1 = p + 2 from by omega, h2, if_neg (show ¬ ((60 : Int) = 33) by decide), if_neg (show ¬ ((60 : Int) = 38) by decide), if_neg (show ¬ ((60 : Int) = 40) by decide), if_neg (by decide), if_neg (show ¬ ((60 : Int) = 58) by decide), if_pos rfl]
    unfold jm_105
    rw [pk_Sp ht (by omega), sp_bd, show p + 1 + 2 = p + 3 from by omega, hd]
    rcases hx with ⟨rfl, rfl, rfl⟩ | ⟨rfl, rfl, rfl⟩
    · rw [if_neg (fun z => z rfl), fin_bd hA, fin_bd hA]
      exact fin_bd hA
    · rw [if_pos (show ((33 : Int) ≠ 61) by decide), if_neg (fun z => z rfl), fin_bd hA, fin_bd hA]
      exact fin_bd hA
  rcases sp_103 (Q := Q) (a := 3) (kd := x) (gr := 0) (r := p + 1) (D := D) (U := ev_pI S 3 8 (p + 1)) ⟨rd_eq, by omega, by omega⟩ (by rw [rd_nf (by omega)]; omega) (by rw [rd_nf (by omega), e3]) (by omega) with ⟨z, S', s1⟩ | ⟨z, S', s1, s2⟩
  · rw [rd_nf (by omega)] at z
    exact Or.inl ⟨S', T3, (redC (Or.inl ⟨S', s1⟩)).trans s1, runR, t4 (by omega)⟩
  · rw [rd_nf (by omega)] at z
    rw [rd_nf (by omega), pI_pI, show p + 1 + 3 = p + 4 from by omega] at s2
    obtain ⟨r1, r2⟩ := t5 (by omega) S' 0 (fun h => absurd h (by decide)) s2
    exact Or.inr ⟨S', T3, (redC (Or.inr ⟨S', s1⟩)).trans s1, runR, r1, r2⟩
theorem tk_cond {p : Int} (hk : ev_isOb k 5 = true) (hkr : 232 ≤ k) (H : RIy k lv ws N M D φ ψ own inn G R y P q S T) (hp : T.1 645 lv = p) (hc : sp_at S (ws lv) p = 40) (h1 : sp_at S (ws lv) (p + 1) = 63) (h2 : sp_at S (ws lv) (p + 2) = 40) : TK0 k lv ws (p + 5) S T (jm_85 Q S) (jm_263 Q T) := by
  have ht := H.1.2.1
  have hp0 := (ht.2.2.2.1 lv (Nat.le_refl _)).2.1
  have hin := at_in (S := S) (w := ws lv) (p := p + 2) (by omega) (by rw [h2]; decide)
  have h120 := (LV_tx ht.1 ht.2.1 (ht.2.2.2.1 lv (Nat.le_refl _)).1).2.2.1
  obtain ⟨l1, l2, l3, l4, l5, l6, l7, l8, l9, l10, l11⟩ := al_N
  obtain ⟨n1, n2, n3, n4, n5, n6⟩ := RIy_n H.1
  have e3 := H.1.1.1.1.2.2.1
  have h25 := H.1.2.2.2.2.2.2.2
  obtain ⟨dd, hd⟩ : ∃ dd, sp_at S (ws lv) (p + 3) = dd := ⟨_, rfl⟩
  obtain ⟨ee, he⟩ : ∃ ee, sp_at S (ws lv) (p + 4) = ee := ⟨_, rfl⟩
  have q3 := at_rg (p := p + 3) ht
  rw [hd] at q3
  have tl : ∀ (b : Int) (T1 T3 : ev_St), b = 0 ∨ b = 1 → jm_237 Q 13 (xS lv T (p + 5) b) = some ((N : Int), T1) → jm_239 Q (N : Int) 0 (ev_pI T1 628 (3840 + N) (dd - 48)) = some ((), T3) → ((b = 0 ∧ (49 ≤ dd ∧ dd ≤ 57) ∧ ee = 41) ∨ (b = 1 ∧ ¬ ((49 ≤ dd ∧ dd ≤ 57) ∧ ee = 41))) → jm_263 Q T = some ((), T3) := fun b T1 T3 hb t1 t3 hbb => by
    have body : ∀ b : Int, b = 0 ∨ b = 1 → jm_237 Q 13 (xS lv T (p + 5) b) = some ((N : Int), T1) → (ev_if (ev_bl b) (ev_b (ev_pI (xS lv T (p + 2) 0) 621 25 b) fun s105 => ev_bd (jm_234 Q 3 s105) fun _ s107 => ev_bd (jm_237 Q 13 s107) fun x109 s108 => ev_bd (jm_232 Q  s108) fun x111 s110 => ev_ck (x111 + x109) fun x112 => ev_ck (dd - 48) fun x113 => ev_if ((0 : Int) ≤ x112 ∧ x112 < (ev_aln 628 : Int)) (ev_b (ev_pI s110 628 (Int.toNat x112) x113) fun s114 => ev_bd (jm_239 Q x109 0 s114) fun _ s115 => some ((), s115)))) = some ((), T3) := fun b hb t1 => by
      rw [sp_if (show ev_bl b from hb), sp_b, xS_w, xG ht (by omega), sp_bd, show p + 2 + 3 = p + 5 from by omega, t1, sp_bd, sp_232, sp_bd, sp_ck (by omega), sp_ck (by omega), sp_if (by rw [l4]; omega), show ((3840 : Int) + (N : Int)).toNat = 3840 + N from by omega, sp_b, t3, sp_bd]
    rw [br_R ht hp.symm hc, if_pos h1, xS_0 h25]
    unfold jm_261
    rw [xT ht (by omega), sp_bd, xT ht (by omega), sp_bd, xT ht (by omega), sp_bd, Int.add_zero, h2, show p + 2 + 1 = p + 3 from by omega, hd, show p + 2 + 2 = p + 4 from by omega, he, sp_jn, if_pos (show ((40 : Int) ≠ 60) by decide)]
    try dsimp only
    rw [if_pos (show ((40 : Int) ≠ 60) by decide), sp_jn, if_neg (show ¬ ((40 : Int) = 58) by decide), if_neg (show ¬ ((40 : Int) = 62) by decide), if_neg (show ¬ ((40 : Int) = 61) by decide), if_pos (show ((40 : Int) ≠ 33) by decide), if_neg (fun z => z rfl), sp_b, xS_25, sp_jn, sp_jn, if_neg (fun z => z rfl), sp_222, sp_bd]
    by_cases z1 : 49 ≤ dd ∧ dd ≤ 57
    · rw [in_49y z1, if_neg (by decide)]
      by_cases z2 : ee = 41
      · have hb0 : b = 0 := by omega
        rw [if_pos z2]
        try dsimp only
        rw [body 0 (Or.inl rfl) (by rw [← hb0]; exact t1), sp_bd]
      · have hb0 : b = 1 := by omega
        rw [if_neg z2]
        try dsimp only
        rw [body 1 (Or.inr rfl) (by rw [← hb0]; exact t1), sp_bd]
    · have hb0 : b = 1 := by omega
      rw [in_49 z1, if_pos rfl]
      try dsimp only
      rw [body 1 (Or.inr rfl) (by rw [← hb0]; exact t1), sp_bd]
  have redC : ∀ {A : Option (Int × ev_St)}, ((∃ S', A = some (0, S')) ∨ ∃ S', A = some (1, S')) → jm_106 Q (ev_pI S 3 8 (p + 1)) = A → jm_85 Q S = A := fun {A} hA hr => by
    rw [br_C ht hp.symm hc]
    unfold jm_102
    rw [pk_Sp ht (by omega), sp_bd, Int.add_zero, h1, if_pos (by decide), pk_Sp ht (by omega), sp_bd, Int.add_zero, h1, if_pos rfl, pk_Sp ht (by omega), sp_bd, show p + 1 + 1 = p + 2 from by omega, h2, if_neg (show ¬ ((40 : Int) = 33) by decide), if_neg (show ¬ ((40 : Int) = 38) by decide), if_pos rfl, hr, fin_bd hA]
    exact fin_bd hA
  by_cases good : (49 ≤ dd ∧ dd ≤ 57) ∧ ee = 41
  · have hin2 := at_in (S := S) (w := ws lv) (p := p + 4) (by omega) (by rw [he]; omega)
    obtain ⟨T1, t1, ⟨ta, tb⟩, t2⟩ := tk_openB (Q := Q) (p := p + 5) 13 (dd - 48) 0 H hkr (by show T.1 645 lv + ((0 : Nat) : Int) ≤ _ ∧ _; omega) (by omega) (x := 8) rfl (by decide) (by omega) (fun z => absurd z (by decide))
    obtain ⟨T3, t3, t4, t5⟩ := t2 (ev_pI T1 628 (3840 + N) (dd - 48)) ⟨rd_eq, by rw [rd_nk (by omega)]; exact tb⟩ (fun a g h => by rw [sp_pI1, if_neg (by omega)]) rfl
    have runR := tl 0 T1 T3 (Or.inl rfl) (by rw [← xS_0 h25]; exact t1) t3 (Or.inl ⟨rfl, good.1, good.2⟩)
    have e106 : ((∃ S', jm_103 Q 4 8 (dd - 48) (ev_pI S 3 8 (p + 1)) = some (0, S')) ∨ ∃ S', jm_103 Q 4 8 (dd - 48) (ev_pI S 3 8 (p + 1)) = some (1, S')) → jm_106 Q (ev_pI S 3 8 (p + 1)) = jm_103 Q 4 8 (dd - 48) (ev_pI S 3 8 (p + 1)) := fun hA => by
      unfold jm_106
      rw [pk_Sp ht (by omega), sp_bd, show p + 1 + 2 = p + 3 from by omega, hd, if_neg (by omega), if_neg (by omega), pk_Sp ht (by omega), sp_bd, show p + 1 + 3 = p + 4 from by omega, he, if_neg (by omega), sp_ck (by omega)]
      exact fin_bd2 hA
    rcases sp_103 (Q := Q) (a := 4) (kd := 8) (gr := dd - 48) (r := p + 1) (D := D) (U := ev_pI S 3 8 (p + 1)) ⟨rd_eq, by omega, by omega⟩ (by rw [rd_nf (by omega)]; omega) (by rw [rd_nf (by omega), e3]) (by omega) with ⟨z, S', s1⟩ | ⟨z, S', s1, s2⟩
    · rw [rd_nf (by omega)] at z
      exact Or.inl ⟨S', T3, (redC (Or.inl ⟨S', s1⟩) (e106 (Or.inl ⟨S', s1⟩))).trans s1, runR, t4 (by omega)⟩
    · rw [rd_nf (by omega)] at z
      rw [rd_nf (by omega), pI_pI, show p + 1 + 4 = p + 5 from by omega] at s2
      obtain ⟨r1, r2⟩ := t5 (by omega) S' (dd - 48) (fun _ => rfl) s2
      exact Or.inr ⟨S', T3, (redC (Or.inr ⟨S', s1⟩) (e106 (Or.inr ⟨S', s1⟩))).trans s1, runR, r1, r2⟩
  · obtain ⟨T1, t1, u, u25, t2⟩ := tk_badO (Q := Q) 13 (r := p + 5) H.1
    obtain ⟨T3, t3, t4⟩ := t2 (ev_pI T1 628 (3840 + N) (dd - 48)) (fun a g h => by rw [sp_pI1, if_neg (by omega)])
    have runR := tl 1 T1 T3 (Or.inr rfl) t1 t3 (Or.inr ⟨rfl, good⟩)
    have e106 : jm_106 Q (ev_pI S 3 8 (p + 1)) = some (0, ev_pI S 3 8 (p + 1)) := by
      unfold jm_106
      rw [pk_Sp ht (by omega), sp_bd, show p + 1 + 2 = p + 3 from by omega, hd]
      by_cases z1 : dd < 49
      · rw [if_pos z1]
      · rw [if_neg z1]
        by_cases z2 : 57 < dd
        · rw [if_pos z2]
        · rw [if_neg z2, pk_Sp ht (by omega), sp_bd, show p + 1 + 3 = p + 4 from by omega, he, if_pos (by omega)]
    exact Or.inl ⟨_, T3, redC (Or.inl ⟨_, rfl⟩) e106, runR, t4⟩
end RPAR3
