/-! THE READER: names of groups that are told, and all that stands behind a backslash -/
section RTOK7
variable {Q k n m w d N M D lv : Nat} {φ ψ own inn G R ws y : Nat → Nat} {P q : Nat → Int} {S T S0 T0 S2 T2 T1 U : ev_St}
theorem at_rg {p : Int} (ht : RIt lv ws S T) : -1 ≤ sp_at S (ws lv) p ∧ sp_at S (ws lv) p < 127 := by
  rcases (LV_tx ht.1 ht.2.1 (ht.2.2.2.1 lv (Nat.le_refl _)).1).2.2.2 p with q | q
  · omega
  · have := sp_sign_r q
    omega
/-- "\k<a>" -/
theorem tk_sl_name {p : Int} (hk : ev_isOb k 5 = true) (hkr : 232 ≤ k) (H : RIy k lv ws N M D φ ψ own inn G R y P q S T) (hp : T.1 645 lv = p) (hc : sp_at S (ws lv) p = 92) (hd : sp_at S (ws lv) (p + 1) = 107) : TK0 k lv ws (p + 5) S T (jm_85 Q S) (jm_263 Q T) := by
  obtain ⟨⟨g1, g2, g3, g4, g5⟩, g6, g7⟩ := hd_85 (Q := Q) (c := 92) H.1.2.1 (by rw [hp]; exact hc) (by decide)
  have ht := H.1.2.1
  have hf := H.1.2.2.2.2.1
  have hn := (RIy_n H.1).2.1
  have hn3 := (RIy_n H.1).2.2.1
  have fl := (fl_1 hf.2).1
  obtain ⟨b1, b2, b3⟩ := RDR_b H.1.1.1
  obtain ⟨c1, c2⟩ := sl_C (Q := Q) ht rfl hp.symm hc
  obtain ⟨l1, l2, l3, l4, l5, l6, l7, l8, l9, l10, l11⟩ := al_N
  have h4 := at_in (S := S) (w := ws lv) (p := p + 1) (by omega) (by rw [hd]; decide)
  have h25 := H.1.2.2.2.2.2.2.2
  have q2 := at_rg (p := p + 2) ht
  have q3 := at_rg (p := p + 3) ht
  have q4 := at_rg (p := p + 4) ht
  have i4 : sp_at S (ws lv) (p + 4) = 62 → p + 4 < S.1 (ws lv) 1 := fun z => at_in (by omega) (by rw [z]; decide)
  obtain ⟨c3, hc3⟩ : ∃ c3, c3 = sp_at S (ws lv) (p + 2) := ⟨_, rfl⟩
  obtain ⟨nm, hnm⟩ : ∃ nm, nm = sp_at S (ws lv) (p + 3) := ⟨_, rfl⟩
  obtain ⟨c5, hc5⟩ : ∃ c5, c5 = sp_at S (ws lv) (p + 4) := ⟨_, rfl⟩
  have il := ch_l_i nm
  obtain ⟨fv, hfv⟩ : ∃ f, f = ev_iand (T.1 621 40) 1 := ⟨_, rfl⟩
  have hfv4 : 0 ≤ fv ∧ fv ≤ 4 := by
    have := (fl_1 hf.2).1
    rw [hfv]
    omega
  have redC : jm_85 Q S = (ev_bd (ev_bd (jm_97 Q (ev_pI S 3 8 (p + 2))) fun x27 s26 => ev_if (ev_bl x27) (some (x27, s26))) fun x s => ev_if (ev_bl x) (some (x, s))) := by
    rw [c1]
    unfold jm_96
    rw [pk_Sp ht (by omega), sp_bd, sp_b, rd_eq, sp_ck (by omega), sp_b, pI_pI, Int.add_zero, hd, sp_216, sp_bd, nk_if (by unfold isK; decide), if_pos rfl, sp_jn, if_neg (by decide), if_pos (by decide), show p + 1 + 1 = p + 2 from by omega]
    dsimp only
    rw [if_neg (show ¬ ((107 : Int) = 65) by decide), if_neg (show ¬ ((107 : Int) = 66) by decide), if_neg (show ¬ ((107 : Int) = 98) by decide), if_pos rfl]
  have tl : ∀ (b : Int), b = 0 ∨ b = 1 → ∀ U1 : ev_St, jm_237 Q 7 (ev_pI (ev_pI T 645 lv (p + 2)) 621 25 b) = some ((N : Int), U1) → ADr N 7 (ev_pI (ev_pI T 645 lv (p + 2)) 621 25 b) U1 → (ev_if (ev_bl b) (ev_b (ev_pI (ev_pI T 645 lv (p + 2)) 621 25 b) fun s50 => ev_bd (jm_232 Q s50) fun x53 s52 => ev_bd (jm_237 Q 7 s52) fun x55 s54 => ev_ck (x53 + x55) fun x56 => ev_bd (jm_233 Q 1 s54) fun x58 s57 => ev_ck (x58 - 97) fun x59 => ev_ck ((-1) - x59) fun x60 => ev_if ((0 : Int) ≤ x56 ∧ x56 < (ev_aln 628 : Int)) (ev_b (ev_pI s57 628 (Int.toNat x56) x60) fun s61 => ev_b (s61.1 621 40) fun x62 => ev_b (ev_iand x62 1) fun x63 => ev_if ((0 : Int) ≤ x56 ∧ x56 < (ev_aln 629 : Int)) (ev_b (ev_pI s61 629 (Int.toNat x56) x63) fun s64 => ev_bd (jm_234 Q 3 s64) fun _ s65 => some ((), s65))))) = some ((), ev_pI (ev_pI (ev_pI U1 628 (3840 + N) (-1 - (nm - 97))) 629 (3840 + N) fv) 645 lv (p + 5)) := fun b hb U1 hU ha => by
    have o := @ADr_o N _ U1 7 ha
    rw [sp_if (show ev_bl b from hb), sp_b, sp_232, sp_bd, hU, sp_bd, sp_ck (by omega), pk_T (x := p + 2) ht (fun a g h => by rw [o (by omega) (by omega) (by omega), sp_pI1, if_neg (by omega), rd_nk (by omega)]) (by rw [o (by omega) (by omega) (by omega), rd_nk (by omega), rd_eq]) (by omega), sp_bd, show p + 2 + 1 = p + 3 from by omega, ← hnm, sp_ck (by omega), sp_ck (by omega), sp_if (by rw [l4]; omega), show ((3840 : Int) + (N : Int)).toNat = 3840 + N from by omega, sp_b, rd_nk (by omega), o (by omega) (by omega) (by omega), rd_nf (by omega), rd_nk (by omega), sp_b, sp_b, ← hfv, sp_if (by rw [l5]; omega), sp_b, go_T (x := p + 2) ht (by rw [rd_nk (by omega), rd_nk (by omega), o (by omega) (by omega) (by omega), rd_nf (by omega), rd_nk (by omega)]) (by rw [rd_nk (by omega), rd_nk (by omega), o (by omega) (by omega) (by omega), rd_nk (by omega), rd_eq]) (by omega), sp_bd, show p + 2 + 3 = p + 5 from by omega]
  have redR : ∀ (b : Int) (X : ev_St), ((b = 0 ∧ c3 = 60 ∧ ch_l nm = 1 ∧ c5 = 62) ∨ (b = 1 ∧ ¬ (c3 = 60 ∧ ch_l nm = 1 ∧ c5 = 62))) → (ev_if (ev_bl b) (ev_b (ev_pI (ev_pI T 645 lv (p + 2)) 621 25 b) fun s50 => ev_bd (jm_232 Q s50) fun x53 s52 => ev_bd (jm_237 Q 7 s52) fun x55 s54 => ev_ck (x53 + x55) fun x56 => ev_bd (jm_233 Q 1 s54) fun x58 s57 => ev_ck (x58 - 97) fun x59 => ev_ck ((-1) - x59) fun x60 => ev_if ((0 : Int) ≤ x56 ∧ x56 < (ev_aln 628 : Int)) (ev_b (ev_pI s57 628 (Int.toNat x56) x60) fun s61 => ev_b (s61.1 621 40) fun x62 => ev_b (ev_iand x62 1) fun x63 => ev_if ((0 : Int) ≤ x56 ∧ x56 < (ev_aln 629 : Int)) (ev_b (ev_pI s61 629 (Int.toNat x56) x63) fun s64 => ev_bd (jm_234 Q 3 s64) fun _ s65 => some ((), s65))))) = some ((), X) → jm_263 Q T = some ((), X) := fun b X hb hX => by
    rw [c2]
    unfold jm_256
    rw [(g6 1 (by omega)).2, sp_bd, g7 2 (by omega), sp_bd, hp, hd, sp_247 (by omega), sp_bd, nk_if (by unfold isK; decide), if_pos rfl, if_pos (show ((107 : Int) ≠ 110) by decide), sp_jn, if_neg (show ¬ ((107 : Int) = 98) by decide), if_pos (show ((107 : Int) ≠ 66) by decide), sp_jn, if_neg (show ¬ ((107 : Int) = 65) by decide), if_pos (show ((107 : Int) ≠ 122) by decide), sp_222, in_49 (by omega), sp_bd, if_pos rfl, if_neg (fun z => z rfl), sp_b, show (ev_pI T 645 lv (p + 2)).1 621 25 = 0 from (rd_nk (by omega)).trans h25, sp_jn, sp_jn, if_neg (fun z => z rfl), pk_Tp ht (by omega), sp_bd, Int.add_zero, ← hc3]
    by_cases e1 : c3 = 60
    · rw [if_neg (fun z => z e1), pk_Tp ht (by omega), sp_bd, show p + 2 + 1 = p + 3 from by omega, ← hnm, sp_224, sp_bd]
      by_cases e2 : ch_l nm = 0
      · obtain rfl : b = 1 := by omega
        rw [if_pos e2]
        dsimp only
        rw [hX, sp_bd]
      · rw [if_neg e2, pk_Tp ht (by omega), sp_bd, show p + 2 + 2 = p + 4 from by omega, ← hc5]
        by_cases e3 : c5 = 62
        · obtain rfl : b = 0 := by omega
          rw [if_pos e3]
          dsimp only
          rw [hX, sp_bd]
        · obtain rfl : b = 1 := by omega
          rw [if_neg e3]
          dsimp only
          rw [hX, sp_bd]
    · obtain rfl : b = 1 := by omega
      rw [if_pos e1]
      dsimp only
      rw [hX, sp_bd]
  by_cases good : c3 = 60 ∧ ch_l nm = 1 ∧ c5 = 62
  · obtain ⟨e1, e2, e3⟩ := good
    have i4' := i4 (by rw [← hc5]; exact e3)
    obtain ⟨T1, t1, u⟩ := tk_add (Q := Q) 7 H.1 hkr (mv_pI (S := S) (T := T) (p := p + 2) (lv := lv)) (by omega)
    have e0 : ev_pI (ev_pI T 645 lv (p + 2)) 621 25 0 = ev_pI T 645 lv (p + 2) := by
      have := pI_id (S := ev_pI T 645 lv (p + 2)) (k := 621) (f := 25)
      rw [show (ev_pI T 645 lv (p + 2)).1 621 25 = 0 from (rd_nk (by omega)).trans h25] at this
      exact this
    have run := redR 0 _ (Or.inl ⟨rfl, e1, e2, e3⟩) (tl 0 (Or.inl rfl) T1 (by rw [e0]; exact t1) (by rw [e0]; exact u))
    have u' := ADr_mv (i := lv) (p := p + 5) u
    rw [pI_pI] at u'
    have fin := tk_kindA (Q := Q) (p := p + 5) (x := 7) (z := -1 - (nm - 97)) (v := fv) (T2 := ev_pI (ev_pI (ev_pI T1 628 (3840 + N) (-1 - (nm - 97))) 629 (3840 + N) fv) 645 lv (p + 5)) 7 (-1 - (nm - 97)) fv H hk hkr mv_pI (by show T.1 645 lv + ((0 : Nat) : Int) ≤ _ ∧ _; omega) rfl (by decide) (fun _ => rfl) (fun _ => rfl) (nv_7 (by have := (ch_l_i nm).1.mp e2; omega) hfv4) u' ⟨by rw [rd_nk (by omega), rd_nk (by omega), rd_eq], by rw [rd_nk (by omega), rd_eq]⟩ (fun a g h => by
      rw [sp_pI1, sp_pI1, sp_pI1, sp_pI1]
      split
      · rfl
      · rw [if_neg (by omega), if_neg (by omega)]) rfl
    refine TK0_of fin (fun hA => ?_) run
    rw [redC]
    unfold jm_97
    rw [pk_Sp ht (by omega), sp_bd, pk_Sp ht (by omega), sp_bd, show p + 2 + 1 = p + 3 from by omega, Int.add_zero, ← hnm, ← hc3, if_neg (fun z => z e1), sp_209, sp_bd, if_neg (by omega), pk_Sp ht (by omega), sp_bd, show p + 2 + 2 = p + 4 from by omega, ← hc5, if_pos e3, sp_b, rd_eq, sp_ck (by omega), sp_b, pI_pI, sp_ck (by omega), sp_ck (by omega), sp_ck (by omega), sp_86, sp_bd, rd_nf (by omega), hf.1, ← hfv, sp_jn, show p + 2 + 3 = p + 5 from by omega, show -(nm - 97) - 1 = -1 - (nm - 97) from by omega]
    rcases fl with e | e
    · rw [← hfv] at e
      rw [e] at hA ⊢
      rw [if_pos rfl, if_pos rfl]
      dsimp only
      rw [fin_bd hA, fin_bd hA]
      exact fin_bd hA
    · rw [← hfv] at e
      rw [e] at hA ⊢
      rw [if_neg (show ¬ ((1 : Int) = 0) by decide), if_neg (show ¬ ((1 : Int) = 0) by decide)]
      dsimp only
      rw [fin_bd hA, fin_bd hA]
      exact fin_bd hA
  · have e25 : (ev_pI (ev_pI T 645 lv (p + 2)) 621 25 1).1 621 25 = 1 := rd_eq
    have ee : ∀ g, g ≠ 25 → (ev_pI (ev_pI T 645 lv (p + 2)) 621 25 1).1 621 g = T.1 621 g := fun g hg => by rw [rd_nf hg, rd_nk (by omega)]
    obtain ⟨T1, t1, u⟩ := sp_237b (Q := Q) (a := 7) (m := N) (T := ev_pI (ev_pI T 645 lv (p + 2)) 621 25 1) (by rw [rd_nk (by omega), rd_nk (by omega)]; exact H.1.1.1.1.1) (by omega) (by rw [ee 27 (by omega)]; omega) (by rw [ee 37 (by omega)]; exact b1) (by rw [ee 38 (by omega)]; exact b2)
    have run := redR 1 _ (Or.inr ⟨rfl, good⟩) (tl 1 (Or.inr rfl) T1 t1 u)
    have cl : ∃ S', jm_97 Q (ev_pI S 3 8 (p + 2)) = some (0, S') := by
      refine ⟨ev_pI S 3 8 (p + 2), ?_⟩
      unfold jm_97
      rw [pk_Sp ht (by omega), sp_bd, pk_Sp ht (by omega), sp_bd, show p + 2 + 1 = p + 3 from by omega, Int.add_zero, ← hnm, ← hc3]
      by_cases e1 : c3 = 60
      · rw [if_neg (fun z => z e1), sp_209, sp_bd]
        by_cases e2 : ch_l nm = 0
        · rw [if_pos e2]
        · rw [if_neg e2, pk_Sp ht (by omega), sp_bd, show p + 2 + 2 = p + 4 from by omega, ← hc5, if_neg (by omega)]
      · rw [if_pos e1]
    obtain ⟨S', hS'⟩ := cl
    refine Or.inl ⟨S', _, by rw [redC, hS', sp_bd, sp_if (Or.inl rfl), sp_bd, sp_if (Or.inl rfl)], run, ?_⟩
    rw [rd_nk (by omega), rd_nk (by omega), rd_nk (by omega), u.1.2.2.1, e25, if_neg (by omega)]
/-- a backslash -/
theorem tk_slash (hQ : 300 ≤ Q) (hk : ev_isOb k 5 = true) (hkr : 232 ≤ k) (H : RIy k lv ws N M D φ ψ own inn G R y P q S T) (hc : sp_at S (ws lv) (T.1 645 lv) = 92) : TK0 k lv ws (nx (sp_at S (ws lv)) (T.1 645 lv)) S T (jm_85 Q S) (jm_263 Q T) := by
  have e : nx (sp_at S (ws lv)) (T.1 645 lv) = if sp_at S (ws lv) (T.1 645 lv + 1) = 107 then T.1 645 lv + 5 else T.1 645 lv + 2 := by
    unfold nx
    rw [if_neg (by omega), if_neg (by omega), if_pos hc]
  rw [e]
  obtain ⟨dd, hd⟩ : ∃ dd, sp_at S (ws lv) (T.1 645 lv + 1) = dd := ⟨_, rfl⟩
  rw [hd]
  have ie := ch_e_i dd
  by_cases h1 : dd = 107
  · subst h1
    rw [if_pos rfl]
    exact tk_sl_name hk hkr H rfl hc hd
  · rw [if_neg h1]
    by_cases h2 : isK dd
    · exact tk_sl_kind hQ hk hkr H rfl hc hd h2
    · by_cases h3 : dd = 110
      · exact tk_sl_plain hk hkr H rfl hc hd (Or.inl ⟨h3, rfl⟩)
      · by_cases h4 : ch_e dd = 1
        · exact tk_sl_plain hk hkr H rfl hc hd (Or.inr ⟨h4, rfl⟩)
        · by_cases h5 : 49 ≤ dd ∧ dd ≤ 57
          · exact tk_sl_digit hk hkr H rfl hc hd h5
          · by_cases h6 : dd = 98
            · exact tk_sl_edge (c := 5) (x := 5) hk hkr H rfl hc hd (Or.inl ⟨h6, rfl, rfl⟩)
            · by_cases h7 : dd = 66
              · exact tk_sl_edge (c := 6) (x := 6) hk hkr H rfl hc hd (Or.inr (Or.inl ⟨h7, rfl, rfl⟩))
              · by_cases h8 : dd = 65
                · exact tk_sl_edge (c := 3) (x := 1) hk hkr H rfl hc hd (Or.inr (Or.inr (Or.inl ⟨h8, rfl, rfl⟩)))
                · by_cases h9 : dd = 122
                  · exact tk_sl_edge (c := 4) (x := 3) hk hkr H rfl hc hd (Or.inr (Or.inr (Or.inr ⟨h9, rfl, rfl⟩)))
                  · exact tk_sl_bad H rfl hc hd ⟨h2, by omega, h3, h1, h5, h6, h7, h8, h9⟩ _
end RTOK7
