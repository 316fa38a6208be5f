/-! THE READER: the other signs behind a backslash -/
section RTOK6
variable {Q k n m w d N M D lv : Nat} {φ ψ own inn G R ws y : Nat → Nat} {P q : Nat → Int} {S T S0 T0 S2 T2 T1 U : ev_St}
theorem nk_if {c : Int} (h : ¬ isK c) : (if c = 100 ∨ c = 119 ∨ c = 115 ∨ c = 68 ∨ c = 87 ∨ c = 83 then (1 : Int) else 0) = 0 := if_neg h
theorem in_49 {c : Int} (h : ¬ (49 ≤ c ∧ c ≤ 57)) : sp_in c 49 57 = 0 := by
  unfold sp_in
  split
  · rfl
  · rw [if_pos (by omega)]
theorem in_49y {c : Int} (h : 49 ≤ c ∧ c ≤ 57) : sp_in c 49 57 = 1 := by
  unfold sp_in
  rw [if_neg (by omega), if_neg (by omega)]
/-- "\n", and signs that stand for themselves -/
theorem tk_sl_plain {p dd x : Int} (hk : ev_isOb k 5 = true) (hkr : 232 ≤ k) (H : RIy k lv ws N M D φ ψ own inn G R y P q S T) (hp : T.1 645 lv = p) (hc : sp_at S (ws lv) p = 92) (hd : sp_at S (ws lv) (p + 1) = dd) (hx : (dd = 110 ∧ x = 10) ∨ (ch_e dd = 1 ∧ x = dd)) : TK0 k lv ws (p + 2) S T (jm_85 Q S) (jm_263 Q T) := by
  obtain ⟨⟨g1, g2, g3, g4, g5⟩, g6, g7⟩ := hd_85 (Q := Q) (c := 92) H.1.2.1 (by rw [hp]; exact hc) (by decide)
  have ht := H.1.2.1
  obtain ⟨c1, c2⟩ := sl_C (Q := Q) ht rfl hp.symm hc
  have i3 := ch_e_i dd
  have h4 := at_in (S := S) (w := ws lv) (p := p + 1) (by omega) (by rw [hd]; omega)
  have hs : sp_sign x = 1 := by
    unfold sp_sign
    exact if_pos (by omega)
  have hl : oth x = x := by
    unfold oth
    rw [if_neg (by omega), if_neg (by omega)]
  have nK : ¬ isK dd := by
    unfold isK
    omega
  obtain ⟨T2, u1, u2⟩ := tk_plain (Q := Q) (p := p + 2) hs hl H hk hkr mv_pI (by omega)
  refine TK0_of u2 (fun hA => ?_) ?_
  · rw [c1]
    unfold jm_96
    rw [pk_Sp ht (by omega), sp_bd, sp_b, rd_eq, sp_ck (by omega), sp_b, pI_pI, Int.add_zero, hd, sp_216, sp_bd, nk_if nK, if_pos rfl, sp_jn, show p + 1 + 1 = p + 2 from by omega]
    have body : (if dd = 65 then (ev_bd (jm_88 Q 1 0 0 (ev_pI S 3 8 (p + 2))) fun x15 s14 => ev_if (ev_bl x15) (some (x15, s14))) else (if dd = 66 then (ev_bd (jm_88 Q 6 0 0 (ev_pI S 3 8 (p + 2))) fun x19 s18 => ev_if (ev_bl x19) (some (x19, s18))) else (if dd = 98 then (ev_bd (jm_88 Q 5 0 0 (ev_pI S 3 8 (p + 2))) fun x23 s22 => ev_if (ev_bl x23) (some (x23, s22))) else (if dd = 107 then (ev_bd (jm_97 Q (ev_pI S 3 8 (p + 2))) fun x27 s26 => ev_if (ev_bl x27) (some (x27, s26))) else (if dd = 110 then (ev_bd (jm_89 Q 10 (ev_pI S 3 8 (p + 2))) fun x31 s30 => ev_if (ev_bl x31) (some (x31, s30))) else (if dd = 122 then (ev_bd (jm_88 Q 3 0 0 (ev_pI S 3 8 (p + 2))) fun x35 s34 => ev_if (ev_bl x35) (some (x35, s34))) else (ev_bd (jm_211 Q dd (ev_pI S 3 8 (p + 2))) fun x38 s37 => if x38 = 0 then (some (0, s37)) else (ev_bd (jm_89 Q dd s37) fun x41 s40 => if x41 = 0 then (some (0, s40)) else (some (1, s40)))))))))) = jm_89 Q x (ev_pI S 3 8 (p + 2)) := by
      rcases hx with ⟨e1, e2⟩ | ⟨e1, e2⟩
      · subst e1 e2
        rw [if_neg (show ¬ ((110 : Int) = 65) by decide), if_neg (show ¬ ((110 : Int) = 66) by decide), if_neg (show ¬ ((110 : Int) = 98) by decide), if_neg (show ¬ ((110 : Int) = 107) by decide), if_pos rfl]
        exact fin_bd hA
      · subst e2
        rw [if_neg (by omega), if_neg (by omega), if_neg (by omega), if_neg (by omega), if_neg (by omega), if_neg (by omega), sp_211, sp_bd, e1, if_neg (by decide)]
        exact fin_bd2 hA
    by_cases e : dd < 49
    · rw [if_pos e]
      dsimp only
      rw [body]
      exact fin_bd hA
    · rw [if_neg e, if_pos (by omega)]
      dsimp only
      rw [body]
      exact fin_bd hA
  · rw [c2]
    unfold jm_256
    rw [(g6 1 (by omega)).2, sp_bd, g7 2 (by omega), sp_bd, hp, hd, sp_247 (by omega), sp_bd, nk_if nK, if_pos rfl]
    rcases hx with ⟨e1, e2⟩ | ⟨e1, e2⟩
    · subst e1 e2
      rw [if_neg (fun z => z rfl), sp_242 (by omega), sp_bd, sp_243 (by omega), sp_bd, u1, sp_bd, sp_bd]
    · subst e2
      rw [if_pos (by omega), sp_jn, if_neg (by omega), if_pos (by omega), sp_jn, if_neg (by omega), if_pos (by omega), sp_222, in_49 (by omega), sp_bd, if_pos rfl, if_pos (by omega), sp_228, sp_bd, e1, if_neg (by decide), sp_242 (by omega), sp_bd, sp_243 (by omega), sp_bd, u1, sp_bd, sp_bd]
/-- "\b", "\B", "\A", "\z" -/
theorem tk_sl_edge {p dd c x : Int} (hk : ev_isOb k 5 = true) (hkr : 232 ≤ k) (H : RIy k lv ws N M D φ ψ own inn G R y P q S T) (hp : T.1 645 lv = p) (hc : sp_at S (ws lv) p = 92) (hd : sp_at S (ws lv) (p + 1) = dd) (hx : (dd = 98 ∧ c = 5 ∧ x = 5) ∨ (dd = 66 ∧ c = 6 ∧ x = 6) ∨ (dd = 65 ∧ c = 3 ∧ x = 1) ∨ (dd = 122 ∧ c = 4 ∧ x = 3)) : TK0 k lv ws (p + 2) S T (jm_85 Q S) (jm_263 Q T) := by
  obtain ⟨⟨g1, g2, g3, g4, g5⟩, g6, g7⟩ := hd_85 (Q := Q) (c := 92) H.1.2.1 (by rw [hp]; exact hc) (by decide)
  have ht := H.1.2.1
  obtain ⟨c1, c2⟩ := sl_C (Q := Q) ht rfl hp.symm hc
  have h4 := at_in (S := S) (w := ws lv) (p := p + 1) (by omega) (by rw [hd]; omega)
  have nK : ¬ isK dd := by
    unfold isK
    omega
  have hx1 : x = kcl c 0 := by
    rcases hx with ⟨_, rfl, rfl⟩ | ⟨_, rfl, rfl⟩ | ⟨_, rfl, rfl⟩ | ⟨_, rfl, rfl⟩ <;> rfl
  have hcs : cst c = 0 := by
    rcases hx with ⟨_, rfl, rfl⟩ | ⟨_, rfl, rfl⟩ | ⟨_, rfl, rfl⟩ | ⟨_, rfl, rfl⟩ <;> rfl
  obtain ⟨T1, t1, ⟨ta, tb⟩, _, t2⟩ := tk_kind (Q := Q) (p := p + 2) (x := x) (z := 0) (v := 0) c 0 0 H hk hkr mv_pI (by rw [hcs]; omega) hx1 (by omega) (by omega) (by omega) (nv_1 (by omega) (by decide))
  have t3 := t2 T1 ⟨ta, tb⟩ (fun a g h => rfl) rfl
  refine TK0_of t3 (fun hA => ?_) ?_
  · rw [c1]
    unfold jm_96
    rw [pk_Sp ht (by omega), sp_bd, sp_b, rd_eq, sp_ck (by omega), sp_b, pI_pI, Int.add_zero, hd, sp_216, sp_bd, nk_if nK, if_pos rfl, sp_jn, show p + 1 + 1 = p + 2 from by omega, if_neg (by omega), if_pos (by omega)]
    dsimp only
    rcases hx with ⟨e1, _, e2⟩ | ⟨e1, _, e2⟩ | ⟨e1, _, e2⟩ | ⟨e1, _, e2⟩
    · subst e1 e2
      rw [if_neg (show ¬ ((98 : Int) = 65) by decide), if_neg (show ¬ ((98 : Int) = 66) by decide), if_pos rfl, fin_bd hA]
      exact fin_bd hA
    · subst e1 e2
      rw [if_neg (show ¬ ((66 : Int) = 65) by decide), if_pos rfl, fin_bd hA]
      exact fin_bd hA
    · subst e1 e2
      rw [if_pos rfl, fin_bd hA]
      exact fin_bd hA
    · subst e1 e2
      rw [if_neg (show ¬ ((122 : Int) = 65) by decide), if_neg (show ¬ ((122 : Int) = 66) by decide), if_neg (show ¬ ((122 : Int) = 98) by decide), if_neg (show ¬ ((122 : Int) = 107) by decide), if_neg (show ¬ ((122 : Int) = 110) by decide), if_pos rfl, fin_bd hA]
      exact fin_bd hA
  · rw [c2]
    unfold jm_256
    rw [(g6 1 (by omega)).2, sp_bd, g7 2 (by omega), sp_bd, hp, hd, sp_247 (by omega), sp_bd, nk_if nK, if_pos rfl, if_pos (by omega), sp_jn]
    rcases hx with ⟨e1, e2, _⟩ | ⟨e1, e2, _⟩ | ⟨e1, e2, _⟩ | ⟨e1, e2, _⟩
    · subst e1 e2
      rw [if_pos rfl]
      dsimp only
      rw [sp_jn, if_neg (fun z => z rfl)]
      dsimp only
      rw [t1, sp_bd, sp_bd]
    · subst e1 e2
      rw [if_neg (by decide), if_neg (fun z => z rfl)]
      dsimp only
      rw [sp_jn, if_pos (by decide)]
      dsimp only
      rw [t1, sp_bd, sp_bd]
    · subst e1 e2
      rw [if_neg (by decide), if_pos (by decide), sp_jn, if_pos rfl]
      dsimp only
      rw [sp_jn, if_neg (fun z => z rfl)]
      dsimp only
      rw [t1, sp_bd, sp_bd]
    · subst e1 e2
      rw [if_neg (by decide), if_pos (by decide), sp_jn, if_neg (by decide), if_neg (fun z => z rfl)]
      dsimp only
      rw [sp_jn, if_pos (by decide)]
      dsimp only
      rw [t1, sp_bd, sp_bd]
/-- "\1" and its like -/
theorem tk_sl_digit {p dd : Int} (hk : ev_isOb k 5 = true) (hkr : 232 ≤ k) (H : RIy k lv ws N M D φ ψ own inn G R y P q S T) (hp : T.1 645 lv = p) (hc : sp_at S (ws lv) p = 92) (hd : sp_at S (ws lv) (p + 1) = dd) (hx : 49 ≤ dd ∧ dd ≤ 57) : TK0 k lv ws (p + 2) S T (jm_85 Q S) (jm_263 Q T) := by
  obtain ⟨⟨g1, g2, g3, g4, g5⟩, g6, g7⟩ := hd_85 (Q := Q) (c := 92) H.1.2.1 (by rw [hp]; exact hc) (by decide)
  have ht := H.1.2.1
  have hf := H.1.2.2.2.2.1
  have hn := (RIy_n H.1).2.1
  have fl := (fl_1 hf.2).1
  obtain ⟨c1, c2⟩ := sl_C (Q := Q) ht rfl hp.symm hc
  obtain ⟨l1, l2, l3, l4, l5, l6, l7, l8, l9, l10, l11⟩ := al_N
  have h4 := at_in (S := S) (w := ws lv) (p := p + 1) (by omega) (by rw [hd]; omega)
  have nK : ¬ isK dd := by
    unfold isK
    omega
  obtain ⟨fv, hfv⟩ : ∃ f, f = ev_iand (T.1 621 40) 1 := ⟨_, rfl⟩
  obtain ⟨T1, t1, ⟨ta, tb⟩, ⟨tc, _⟩, t2⟩ := tk_kind (Q := Q) (p := p + 2) (x := 7) (z := dd - 48) (v := fv) 7 (dd - 48) fv H hk hkr mv_pI (by show T.1 645 lv + ((0 : Nat) : Int) ≤ _ ∧ _; omega) rfl (by decide) (fun _ => rfl) (fun _ => rfl) (nv_7 (by omega) (by rw [hfv]; omega))
  have t3 := t2 (ev_pI (ev_pI T1 628 (3840 + N) (dd - 48)) 629 (3840 + N) fv) ⟨by rw [rd_nk (by omega), rd_eq], rd_eq⟩ (fun a g h => by rw [sp_pI1, if_neg (by omega), sp_pI1, if_neg (by omega)]) rfl
  refine TK0_of t3 (fun hA => ?_) ?_
  · rw [c1]
    unfold jm_96
    rw [pk_Sp ht (by omega), sp_bd, sp_b, rd_eq, sp_ck (by omega), sp_b, pI_pI, Int.add_zero, hd, sp_216, sp_bd, nk_if nK, if_pos rfl, sp_jn, show p + 1 + 1 = p + 2 from by omega, if_neg (by omega), if_neg (by omega), sp_ck (by omega), sp_86, sp_bd, rd_nf (by omega), hf.1, ← hfv, sp_jn]
    rcases fl with e | e
    · rw [← hfv] at e
      rw [e] at hA ⊢
      rw [if_pos rfl, if_pos rfl]
      dsimp only
      rw [fin_bd hA]
      exact fin_bd hA
    · rw [← hfv] at e
      rw [e] at hA ⊢
      rw [if_neg (show ¬ ((1 : Int) = 0) by decide), if_neg (show ¬ ((1 : Int) = 0) by decide)]
      dsimp only
      rw [fin_bd hA]
      exact fin_bd hA
  · rw [c2]
    unfold jm_256
    rw [(g6 1 (by omega)).2, sp_bd, g7 2 (by omega), sp_bd, hp, hd, sp_247 (by omega), sp_bd, nk_if nK, if_pos rfl, if_pos (by omega), sp_jn, if_neg (by omega), if_pos (by omega), sp_jn, if_neg (by omega), if_pos (by omega), sp_222, in_49y hx, sp_bd, if_neg (by decide), sp_232, sp_bd, t1, sp_bd, sp_ck (by omega), sp_ck (by omega), sp_if (by rw [l4]; omega), show ((3840 : Int) + (N : Int)).toNat = 3840 + N from by omega, sp_b, rd_nk (by omega), tc, rd_nk (by omega), sp_b, ← hfv, sp_b, sp_if (by rw [l5]; omega), sp_b, sp_bd]
/-- none of them -/
theorem tk_sl_bad {p dd : Int} (H : RIy k lv ws N M D φ ψ own inn G R y P q S T) (hp : T.1 645 lv = p) (hc : sp_at S (ws lv) p = 92) (hd : sp_at S (ws lv) (p + 1) = dd) (hx : ¬ isK dd ∧ ch_e dd = 0 ∧ dd ≠ 110 ∧ dd ≠ 107 ∧ ¬ (49 ≤ dd ∧ dd ≤ 57) ∧ dd ≠ 98 ∧ dd ≠ 66 ∧ dd ≠ 65 ∧ dd ≠ 122) (z : Int) : TK0 k lv ws z S T (jm_85 Q S) (jm_263 Q T) := by
  obtain ⟨⟨g1, g2, g3, g4, g5⟩, g6, g7⟩ := hd_85 (Q := Q) (c := 92) H.1.2.1 (by rw [hp]; exact hc) (by decide)
  have ht := H.1.2.1
  obtain ⟨c1, c2⟩ := sl_C (Q := Q) ht rfl hp.symm hc
  obtain ⟨nK, x1, x2, x3, x4, x5, x6, x7, x8⟩ := hx
  have hr : -1 ≤ dd ∧ dd < 127 := by
    have q := (LV_tx ht.1 ht.2.1 (ht.2.2.2.1 lv (Nat.le_refl _)).1).2.2.2 (p + 1)
    rw [hd] at q
    rcases q with q | q
    · omega
    · have := sp_sign_r q
      omega
  refine Or.inl ⟨ev_pI S 3 8 (p + 2), ev_pI (ev_pI T 645 lv (p + 2)) 621 25 1, ?_, ?_, rd_eq⟩
  · rw [c1]
    unfold jm_96
    rw [pk_Sp ht (by omega), sp_bd, sp_b, rd_eq, sp_ck (by omega), sp_b, pI_pI, Int.add_zero, hd, sp_216, sp_bd, nk_if nK, if_pos rfl, sp_jn, show p + 1 + 1 = p + 2 from by omega]
    have body : (if dd = 65 then (ev_bd (jm_88 Q 1 0 0 (ev_pI S 3 8 (p + 2))) fun x15 s14 => ev_if (ev_bl x15) (some (x15, s14))) else (if dd = 66 then (ev_bd (jm_88 Q 6 0 0 (ev_pI S 3 8 (p + 2))) fun x19 s18 => ev_if (ev_bl x19) (some (x19, s18))) else (if dd = 98 then (ev_bd (jm_88 Q 5 0 0 (ev_pI S 3 8 (p + 2))) fun x23 s22 => ev_if (ev_bl x23) (some (x23, s22))) else (if dd = 107 then (ev_bd (jm_97 Q (ev_pI S 3 8 (p + 2))) fun x27 s26 => ev_if (ev_bl x27) (some (x27, s26))) else (if dd = 110 then (ev_bd (jm_89 Q 10 (ev_pI S 3 8 (p + 2))) fun x31 s30 => ev_if (ev_bl x31) (some (x31, s30))) else (if dd = 122 then (ev_bd (jm_88 Q 3 0 0 (ev_pI S 3 8 (p + 2))) fun x35 s34 => ev_if (ev_bl x35) (some (x35, s34))) else (ev_bd (jm_211 Q dd (ev_pI S 3 8 (p + 2))) fun x38 s37 => if x38 = 0 then (some (0, s37)) else (ev_bd (jm_89 Q dd s37) fun x41 s40 => if x41 = 0 then (some (0, s40)) else (some (1, s40)))))))))) = some (0, ev_pI S 3 8 (p + 2)) := by
      rw [if_neg x7, if_neg x6, if_neg x5, if_neg x3, if_neg x2, if_neg x8, sp_211, sp_bd, x1, if_pos rfl]
    by_cases e : dd < 49
    · rw [if_pos e]
      dsimp only
      rw [body, sp_bd, sp_if (Or.inl rfl)]
    · rw [if_neg e, if_pos (by omega)]
      dsimp only
      rw [body, sp_bd, sp_if (Or.inl rfl)]
  · rw [c2]
    unfold jm_256
    rw [(g6 1 (by omega)).2, sp_bd, g7 2 (by omega), sp_bd, hp, hd, sp_247 (by omega), sp_bd, nk_if nK, if_pos rfl, if_pos x2, sp_jn, if_neg x5, if_pos x6, sp_jn, if_neg x7, if_pos x8, sp_222, in_49 x4, sp_bd, if_pos rfl, if_pos x3, sp_228, sp_bd, x1, if_pos rfl, sp_b, sp_bd]
end RTOK6
