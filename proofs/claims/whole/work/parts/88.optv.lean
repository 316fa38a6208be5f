/-! THE READER: ".", "^", "$", characters -/
section RTOK3
variable {Q k n m w d N M D lv : Nat} {φ ψ own inn G R ws y : Nat → Nat} {P q : Nat → Int} {S T S0 T0 S2 T2 T1 : ev_St}
theorem fin_bd {A : Option (Int × ev_St)} (h : (∃ S', A = some (0, S')) ∨ ∃ S', A = some (1, S')) : (ev_bd A fun x s => ev_if (ev_bl x) (some (x, s))) = A := by
  rcases h with ⟨S', rfl⟩ | ⟨S', rfl⟩
  · rw [sp_bd, sp_if (Or.inl rfl)]
  · rw [sp_bd, sp_if (Or.inr rfl)]
theorem fin_bd2 {A : Option (Int × ev_St)} (h : (∃ S', A = some (0, S')) ∨ ∃ S', A = some (1, S')) : (ev_bd A fun x s => if x = 0 then some ((0 : Int), s) else some (1, s)) = A := by
  rcases h with ⟨S', rfl⟩ | ⟨S', rfl⟩
  · rw [sp_bd, if_pos rfl]
  · rw [sp_bd, if_neg (by decide)]
theorem TK0_of {A C : Option (Int × ev_St)} {B : Option (Unit × ev_St)} {p : Int} (r : (∃ S', A = some (0, S') ∧ T2.1 621 25 = 1) ∨ ∃ S', A = some (1, S') ∧ RIa k lv ws S' T2 ∧ TKp lv p S T S' T2) (hC : ((∃ S', A = some (0, S')) ∨ ∃ S', A = some (1, S')) → C = A) (hB : B = some ((), T2)) : TK0 k lv ws p S T C B := by
  rcases r with ⟨S', a, b⟩ | ⟨S', a, b, c⟩
  · exact Or.inl ⟨S', T2, (hC (Or.inl ⟨S', a⟩)).trans a, hB, b⟩
  · exact Or.inr ⟨S', T2, (hC (Or.inr ⟨S', a⟩)).trans a, hB, b, c⟩
theorem nx_1 {c : Int → Int} {p : Int} (h : c p ≠ 40 ∧ c p ≠ 91 ∧ c p ≠ 92 ∧ c p ≠ 63 ∧ c p ≠ 42 ∧ c p ≠ 43 ∧ c p ≠ 123) : nx c p = p + 1 := by
  unfold nx
  rw [if_neg h.1, if_neg h.2.1, if_neg h.2.2.1, if_neg (by omega), if_neg h.2.2.2.2.2.2]
/-- "." -/
theorem tk_46 (hk : ev_isOb k 5 = true) (hkr : 232 ≤ k) (H : RIy k lv ws N M D φ ψ own inn G R y P q S T) (hc : sp_at S (ws lv) (T.1 645 lv) = 46) : TK0 k lv ws (nx (sp_at S (ws lv)) (T.1 645 lv)) S T (jm_85 Q S) (jm_263 Q T) := by
  obtain ⟨⟨g1, g2, g3, g4, g5⟩, g6, g7⟩ := hd_85 (Q := Q) H.1.2.1 hc (by decide)
  have hf := H.1.2.2.2.2.1
  have fl := (fl_1 hf.2).2.1
  have e3 : (ev_pI S 3 8 (T.1 645 lv + 1)).1 3 11 = T.1 621 40 := by rw [rd_nf (by omega), hf.1]
  have e4 : (ev_pI T 645 lv (T.1 645 lv + 1)).1 621 40 = T.1 621 40 := rd_nk (by omega)
  rw [nx_1 (by rw [hc]; decide)]
  by_cases e : ev_iand (T.1 621 40) 2 = 0
  · obtain ⟨T2, t1, t2⟩ := tk_set (Q := Q) (p := T.1 645 lv + 1) H hk hkr mv_pI (by omega) SB_dot.1 SV_dot.1
    refine TK0_of t2 (fun hA => ?_) ?_
    · unfold jm_85
      rw [g1, sp_bd, sp_b, g3, sp_ck (by omega), sp_b, if_neg (show ¬ ((46 : Int) = 36) by decide), if_neg (show ¬ ((46 : Int) = 40) by decide), if_neg (show ¬ ((46 : Int) = 41) by decide), if_neg (show ¬ ((46 : Int) = 42) by decide), if_neg (show ¬ ((46 : Int) = 43) by decide), if_pos rfl, sp_86, sp_bd, sp_jn, e3, if_pos e, if_pos rfl]
      exact fin_bd hA
    · unfold jm_263
      rw [g2, sp_bd, sp_jn, if_neg (show ¬ ((46 : Int) = 63) by decide), if_neg (show ¬ ((46 : Int) = 42) by decide), if_neg (show ¬ ((46 : Int) = 43) by decide), if_pos (show ((46 : Int) ≠ 123) by decide), if_pos (show ((46 : Int) ≠ 92) by decide), if_pos (show ((46 : Int) ≠ 91) by decide), if_pos (show ((46 : Int) ≠ 40) by decide), if_pos (show ((46 : Int) ≠ 41) by decide), if_pos (show ((46 : Int) ≠ 124) by decide), g7 1 (by omega), sp_bd, if_neg (fun z => z rfl), sp_b, e4, sp_b, sp_jn, if_pos (by omega)]
      dsimp only
      rw [t1, sp_bd]
  · obtain ⟨T2, t1, t2⟩ := tk_set (Q := Q) (p := T.1 645 lv + 1) H hk hkr mv_pI (by omega) SB_dot.2 SV_dot.2
    refine TK0_of t2 (fun hA => ?_) ?_
    · unfold jm_85
      rw [g1, sp_bd, sp_b, g3, sp_ck (by omega), sp_b, if_neg (show ¬ ((46 : Int) = 36) by decide), if_neg (show ¬ ((46 : Int) = 40) by decide), if_neg (show ¬ ((46 : Int) = 41) by decide), if_neg (show ¬ ((46 : Int) = 42) by decide), if_neg (show ¬ ((46 : Int) = 43) by decide), if_pos rfl, sp_86, sp_bd, sp_jn, e3, if_neg e, if_neg (by decide)]
      exact fin_bd hA
    · unfold jm_263
      rw [g2, sp_bd, sp_jn, if_neg (show ¬ ((46 : Int) = 63) by decide), if_neg (show ¬ ((46 : Int) = 42) by decide), if_neg (show ¬ ((46 : Int) = 43) by decide), if_pos (show ((46 : Int) ≠ 123) by decide), if_pos (show ((46 : Int) ≠ 92) by decide), if_pos (show ((46 : Int) ≠ 91) by decide), if_pos (show ((46 : Int) ≠ 40) by decide), if_pos (show ((46 : Int) ≠ 41) by decide), if_pos (show ((46 : Int) ≠ 124) by decide), g7 1 (by omega), sp_bd, if_neg (fun z => z rfl), sp_b, e4, sp_b, sp_jn, if_neg (by omega)]
      dsimp only
      rw [t1, sp_bd]
/-- "^" and "$" -/
theorem tk_edge (hk : ev_isOb k 5 = true) (hkr : 232 ≤ k) (H : RIy k lv ws N M D φ ψ own inn G R y P q S T) (hc : sp_at S (ws lv) (T.1 645 lv) = 94 ∨ sp_at S (ws lv) (T.1 645 lv) = 36) : TK0 k lv ws (nx (sp_at S (ws lv)) (T.1 645 lv)) S T (jm_85 Q S) (jm_263 Q T) := by
  have hf := H.1.2.2.2.2.1
  have fl := (fl_1 hf.2).2.2
  have hn := (RIy_n H.1).2.1
  obtain ⟨l1, l2, l3, l4, l5, l6, l7, l8, l9, l10, l11⟩ := al_N
  have e3 : (ev_pI S 3 8 (T.1 645 lv + 1)).1 3 11 = T.1 621 40 := by rw [rd_nf (by omega), hf.1]
  have e4 : (ev_pI T 645 lv (T.1 645 lv + 1)).1 621 40 = T.1 621 40 := rd_nk (by omega)
  rw [nx_1 (by omega)]
  obtain ⟨fv, hfv⟩ : ∃ f, f = ev_iand (T.1 621 40) 4 := ⟨_, rfl⟩
  have fv4 : 0 ≤ fv ∧ fv ≤ 4 := by
    have := (fl_1 hf.2).2.2
    rw [← hfv] at this
    omega
  rcases hc with hc | hc
  · obtain ⟨⟨g1, g2, g3, g4, g5⟩, g6, g7⟩ := hd_85 (Q := Q) H.1.2.1 hc (by decide)
    obtain ⟨T1, t1, ⟨ta, tb⟩, ⟨tc, _⟩, t2⟩ := tk_kind (Q := Q) (p := T.1 645 lv + 1) (x := kcl 1 fv) (z := 0) (v := 0) 1 0 fv H hk hkr mv_pI (by show T.1 645 lv + ((0 : Nat) : Int) ≤ _ ∧ _; omega) rfl (by decide) (by decide) (fun z => absurd z (by decide)) (nv_1 (by decide) fv4)
    have t3 := t2 (ev_pI T1 629 (3840 + N) fv) ⟨by rw [rd_nk (by omega)]; exact ta, rd_eq⟩ (fun a g h => by rw [sp_pI1, if_neg (by omega)]) rfl
    refine TK0_of t3 (fun hA => ?_) ?_
    · unfold jm_85
      rw [g1, sp_bd, sp_b, g3, sp_ck (by omega), sp_b, if_neg (show ¬ ((94 : Int) = 36) by decide), if_neg (show ¬ ((94 : Int) = 40) by decide), if_neg (show ¬ ((94 : Int) = 41) by decide), if_neg (show ¬ ((94 : Int) = 42) by decide), if_neg (show ¬ ((94 : Int) = 43) by decide), if_neg (show ¬ ((94 : Int) = 46) by decide), if_neg (show ¬ ((94 : Int) = 63) by decide), if_neg (show ¬ ((94 : Int) = 91) by decide), if_neg (show ¬ ((94 : Int) = 92) by decide), if_pos rfl, sp_86, sp_bd, sp_jn, e3, ← hfv]
      by_cases e : fv = 0
      · have e' : kcl 1 fv = 1 := by rw [e]; rfl
        rw [e'] at hA ⊢
        rw [if_pos e, if_pos rfl]
        exact fin_bd hA
      · have e' : kcl 1 fv = 2 := by unfold kcl; rw [if_neg (by decide), if_pos rfl, if_neg e]
        rw [e'] at hA ⊢
        rw [if_neg e, if_neg (by decide)]
        exact fin_bd hA
    · unfold jm_263
      rw [g2, sp_bd, sp_jn, if_neg (show ¬ ((94 : Int) = 63) by decide), if_neg (show ¬ ((94 : Int) = 42) by decide), if_neg (show ¬ ((94 : Int) = 43) by decide), if_pos (show ((94 : Int) ≠ 123) by decide), if_pos (show ((94 : Int) ≠ 92) by decide), if_pos (show ((94 : Int) ≠ 91) by decide), if_pos (show ((94 : Int) ≠ 40) by decide), if_pos (show ((94 : Int) ≠ 41) by decide), if_pos (show ((94 : Int) ≠ 124) by decide), g7 1 (by omega), sp_bd, if_pos (show ((94 : Int) ≠ 46) by decide), sp_jn, if_pos rfl]
      dsimp only
      rw [sp_232, sp_bd, sp_jn, if_neg (fun z => z rfl)]
      dsimp only
      rw [t1, sp_bd, sp_ck (by omega), sp_b, tc, e4, ← hfv, sp_b, sp_if (by rw [l5]; omega), show ((3840 : Int) + (N : Int)).toNat = 3840 + N from by omega, sp_b]
  · obtain ⟨⟨g1, g2, g3, g4, g5⟩, g6, g7⟩ := hd_85 (Q := Q) H.1.2.1 hc (by decide)
    obtain ⟨T1, t1, ⟨ta, tb⟩, ⟨tc, _⟩, t2⟩ := tk_kind (Q := Q) (p := T.1 645 lv + 1) (x := kcl 2 fv) (z := 0) (v := 0) 2 0 fv H hk hkr mv_pI (by show T.1 645 lv + ((0 : Nat) : Int) ≤ _ ∧ _; omega) rfl (by decide) (by decide) (fun z => absurd z (by decide)) (nv_1 (by decide) fv4)
    have t3 := t2 (ev_pI T1 629 (3840 + N) fv) ⟨by rw [rd_nk (by omega)]; exact ta, rd_eq⟩ (fun a g h => by rw [sp_pI1, if_neg (by omega)]) rfl
    refine TK0_of t3 (fun hA => ?_) ?_
    · unfold jm_85
      rw [g1, sp_bd, sp_b, g3, sp_ck (by omega), sp_b, if_pos rfl, sp_86, sp_bd, sp_jn, e3, ← hfv]
      by_cases e : fv = 0
      · have e' : kcl 2 fv = 3 := by rw [e]; rfl
        rw [e'] at hA ⊢
        rw [if_pos e, if_pos rfl]
        exact fin_bd hA
      · have e' : kcl 2 fv = 4 := by unfold kcl; rw [if_neg (by decide), if_neg (by decide), if_pos rfl, if_neg e]
        rw [e'] at hA ⊢
        rw [if_neg e, if_neg (by decide)]
        exact fin_bd hA
    · unfold jm_263
      rw [g2, sp_bd, sp_jn, if_neg (show ¬ ((36 : Int) = 63) by decide), if_neg (show ¬ ((36 : Int) = 42) by decide), if_neg (show ¬ ((36 : Int) = 43) by decide), if_pos (show ((36 : Int) ≠ 123) by decide), if_pos (show ((36 : Int) ≠ 92) by decide), if_pos (show ((36 : Int) ≠ 91) by decide), if_pos (show ((36 : Int) ≠ 40) by decide), if_pos (show ((36 : Int) ≠ 41) by decide), if_pos (show ((36 : Int) ≠ 124) by decide), g7 1 (by omega), sp_bd, if_pos (show ((36 : Int) ≠ 46) by decide), sp_jn, if_neg (show ¬ ((36 : Int) = 94) by decide), if_neg (fun z => z rfl)]
      dsimp only
      rw [sp_232, sp_bd, sp_jn, if_pos (show ((36 : Int) ≠ 94) by decide)]
      dsimp only
      rw [t1, sp_bd, sp_ck (by omega), sp_b, tc, e4, ← hfv, sp_b, sp_if (by rw [l5]; omega), show ((3840 : Int) + (N : Int)).toNat = 3840 + N from by omega, sp_b]
/-- a character that stands for itself -/
theorem tk_self {c : Int} (hQ : 300 ≤ Q) (hk : ev_isOb k 5 = true) (hkr : 232 ≤ k) (H : RIy k lv ws N M D φ ψ own inn G R y P q S T) (hc : sp_at S (ws lv) (T.1 645 lv) = c) (h1 : c ≠ -1) (h2 : c ≠ 36 ∧ c ≠ 40 ∧ c ≠ 41 ∧ c ≠ 42 ∧ c ≠ 43 ∧ c ≠ 46 ∧ c ≠ 63 ∧ c ≠ 91 ∧ c ≠ 92 ∧ c ≠ 94 ∧ c ≠ 123 ∧ c ≠ 124) : TK0 k lv ws (nx (sp_at S (ws lv)) (T.1 645 lv)) S T (jm_85 Q S) (jm_263 Q T) := by
  obtain ⟨⟨g1, g2, g3, g4, g5⟩, g6, g7⟩ := hd_85 (Q := Q) H.1.2.1 hc h1
  obtain ⟨n1, n2, n3, n4, n5, n6, n7, n8, n9, n10, n11, n12⟩ := h2
  have hf := H.1.2.2.2.2.1
  have fl := (fl_1 hf.2).1
  have e4 : (ev_pI T 645 lv (T.1 645 lv + 1)).1 621 40 = T.1 621 40 := rd_nk (by omega)
  rw [nx_1 (by omega)]
  obtain ⟨bo, hbo⟩ : ∃ bo : Int, bo = ev_iand (T.1 621 40) 1 := ⟨_, rfl⟩
  obtain ⟨T1, T2, t1, t2, t3⟩ := tk_char (Q := Q) (bo := bo) (p := T.1 645 lv + 1) hQ g5 H hk hkr mv_pI (by omega) (by rw [e4, hbo]; omega)
  refine TK0_of t3 (fun hA => ?_) ?_
  · unfold jm_85
    rw [g1, sp_bd, sp_b, g3, sp_ck (by omega), sp_b, if_neg n1, if_neg n2, if_neg n3, if_neg n4, if_neg n5, if_neg n6, if_neg n7, if_neg n8, if_neg n9, if_neg n10, if_neg n11, if_neg n12]
    exact fin_bd hA
  · unfold jm_263
    rw [g2, sp_bd, sp_jn, if_neg n7, if_neg n4, if_neg n5, if_pos n11, if_pos n9, if_pos n8, if_pos n2, if_pos n3, if_pos n12, g7 1 (by omega), sp_bd, if_pos n6, sp_jn, if_neg n10, if_pos n1, sp_b, e4, sp_b, ← hbo, sp_jn]
    rcases fl with e | e
    · rw [← hbo] at e
      rw [e] at t1
      rw [e, if_pos (by decide)]
      dsimp only
      rw [t1, sp_bd, sp_b, sp_b, t2, sp_bd]
    · rw [← hbo] at e
      rw [e] at t1
      rw [e, if_neg (by decide)]
      dsimp only
      rw [t1, sp_bd, sp_b, sp_b, t2, sp_bd]
end RTOK3
