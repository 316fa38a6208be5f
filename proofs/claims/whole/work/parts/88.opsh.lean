/-! THE LOG in two states; the end of a call -/
def L2 (n : Int) (D : lg_D) (S T : ev_St) : Prop := (T.1 621 130 = S.1 254 12 ∧ T.1 621 131 = S.1 254 13 ∧ T.1 621 132 = S.1 254 14 ∧ T.1 621 126 = S.1 254 11) ∧ (0 ≤ S.1 254 12 ∧ S.1 254 12 ≤ S.1 254 13 ∧ S.1 254 13 ≤ n ∧ 0 ≤ S.1 254 11 ∧ (S.1 254 14 = 0 ∨ S.1 254 14 = 1)) ∧ (S.1 254 14 = 0 → S.1 254 11 = 0) ∧ (0 < S.1 254 11 → S.1 254 12 = S.1 254 13 ∧ S.1 254 12 < n) ∧ S.1 254 9 = sp_bs (T.1 714) (S.1 254 12) + S.1 254 11 ∧ (∀ g : Nat, (g : Int) < S.1 254 13 → T.1 714 g = sp_bs (T.1 714) g + S.1 261 g ∧ 0 ≤ S.1 261 g ∧ T.1 715 g = dS D (T.1 714 g).toNat) ∧ ∃ E : Nat, (E : Int) = (if S.1 254 12 = S.1 254 13 then S.1 254 9 else T.1 714 (S.1 254 13 - 1).toNat) ∧ lg_C D E (S.1 254 9).toNat S T ∧ (E : Int) ≤ 810 * n ∧ dS D E ≤ 1600 * n ∧ T.1 621 125 = E ∧ T.1 621 128 = dS D E
theorem L2_of {n : Int} {D : lg_D} {S : ev_St} (h : LG n D S) : L2 n D S S := by
  obtain ⟨⟨g1, g2, g3, g4, g5, g6, g7⟩, h2, ⟨h3, h4, h5⟩, ⟨h6, h7⟩, h8⟩ := h
  have e : ((lg_E S).toNat : Int) = lg_E S := by omega
  exact ⟨g1, g2, g3, g4, g6, fun g hg => ⟨g7 g hg, h8 g hg⟩, (lg_E S).toNat, e, h2, by omega, h5, by omega, h7⟩
theorem LG_of {n : Int} {D : lg_D} {S : ev_St} (h : L2 n D S S) : LG n D S := by
  obtain ⟨g1, g2, g3, g4, g6, g7, E, e1, h2, h4, h5, h6, h7⟩ := h
  have e : lg_E S = (E : Int) := e1.symm
  unfold LG
  rw [e, Int.toNat_natCast]
  refine ⟨⟨g1, g2, g3, g4, fun w => ?_, g6, fun g hg => (g7 g hg).1⟩, h2, ⟨by omega, h4, h5⟩, ⟨h6, h7⟩, fun g hg => (g7 g hg).2⟩
  rw [if_pos w] at e1
  have := h2.2.1.2.1
  rw [show (S.1 254 9).toNat = E from by omega] at this
  exact ⟨by omega, by omega⟩
theorem L2_c {n : Int} {D : lg_D} {S T S2 T2 : ev_St} (h : L2 n D S T) (hS : ∀ k g, (k = 254 ∧ (g = 4 ∨ (9 ≤ g ∧ g ≤ 14))) ∨ (256 ≤ k ∧ k ≤ 258) ∨ k = 261 ∨ (263 ≤ k ∧ k ≤ 268) ∨ 724 ≤ k → S2.1 k g = S.1 k g) (hR : S2.2.2.1 = S.2.2.1) (hN : ev_sN S2 = ev_sN S) (hT : ∀ k g, 707 ≤ k ∧ k ≤ 715 ∨ (k = 621 ∧ (g = 121 ∨ (125 ≤ g ∧ g ≤ 132))) → T2.1 k g = T.1 k g) : L2 n D S2 T2 := by
  obtain ⟨g1, g2, g3, g4, g6, g7, E, e1, h2, h4, h5, h6, h7⟩ := h
  have e714 : T2.1 714 = T.1 714 := funext fun g => hT 714 g (by omega)
  unfold L2
  rw [e714, hS 254 9 (by omega), hS 254 11 (by omega), hS 254 12 (by omega), hS 254 13 (by omega), hS 254 14 (by omega), hT 621 130 (by omega), hT 621 131 (by omega), hT 621 132 (by omega), hT 621 126 (by omega), hT 621 125 (by omega), hT 621 128 (by omega)]
  refine ⟨g1, g2, g3, g4, g6, fun g hg => ?_, E, e1, ?_, h4, h5, h6, h7⟩
  · rw [hS 261 g (by omega), hT 715 g (by omega)]
    exact g7 g hg
  · exact lg_C_c h2 (fun k g hk => hS k g (by omega)) hR hN (fun k g hk => hT k g (by omega))
theorem L2_mono {n m : Int} {D : lg_D} {S T : ev_St} (h : n ≤ m) (hG : L2 n D S T) : L2 m D S T := by
  obtain ⟨g1, g2, g3, g4, g6, g7, E, e1, h2, h4, h5, h6, h7⟩ := hG
  exact ⟨g1, ⟨g2.1, g2.2.1, by omega, g2.2.2.2.1, g2.2.2.2.2⟩, g3, fun w => ⟨(g4 w).1, by have := (g4 w).2; omega⟩, g6, g7, E, e1, h2, by omega, by omega, h6, h7⟩
/-- in a call: c edits so far; n: at most so many calls ended before it -/
def lg_T (n : Int) (D : lg_D) (E c : Nat) (S T : ev_St) : Prop := lg_C D E c S T ∧ (T.1 621 130 = S.1 254 12 ∧ 0 ≤ S.1 254 12 ∧ S.1 254 12 ≤ n ∧ T.1 621 130 ≤ T.1 621 131) ∧ (T.1 621 132 = S.1 254 14 ∧ (S.1 254 14 = 0 ∨ S.1 254 14 = 1)) ∧ (T.1 621 126 = S.1 254 11 ∧ 0 ≤ S.1 254 11) ∧ (c : Int) = sp_bs (T.1 714) (S.1 254 12) + S.1 254 11 ∧ (T.1 621 131 ≤ T.1 621 130 → T.1 621 125 = c ∧ T.1 621 128 = dS D c) ∧ (T.1 621 130 < T.1 621 131 → S.1 254 11 = 0) ∧ ∀ g : Nat, (g : Int) < S.1 254 12 → T.1 714 g = sp_bs (T.1 714) g + S.1 261 g ∧ 0 ≤ S.1 261 g ∧ T.1 715 g = dS D (T.1 714 g).toNat
theorem lg_T_of {n : Int} {D : lg_D} {S T : ev_St} (h : L2 n D S T) : ∃ E : Nat, (E : Int) ≤ 810 * n ∧ dS D E ≤ 1600 * n ∧ lg_T n D E (S.1 254 9).toNat S T := by
  obtain ⟨g1, g2, g3, g4, g6, g7, E, e1, h2, h4, h5, h6, h7⟩ := h
  have e9 : (((S.1 254 9).toNat : Nat) : Int) = S.1 254 9 := by
    have := h2.2.1.1
    omega
  refine ⟨E, h4, h5, h2, ⟨g1.1, g2.1, by omega, by omega⟩, ⟨g1.2.2.1, g2.2.2.2.2⟩, ⟨g1.2.2.2, g2.2.2.2.1⟩, by rw [e9]; exact g6, fun w => ?_, fun w => ?_, fun g hg => g7 g (by omega)⟩
  · rw [if_pos (by omega)] at e1
    rw [show (S.1 254 9).toNat = E from by omega]
    exact ⟨h6, h7⟩
  · by_cases e : 0 < S.1 254 11
    · have := g4 e
      omega
    · omega
theorem t_mono {d : Int} {f : Nat → Int} {z : Nat → Int} (h : ∀ g : Nat, (g : Int) < d → f g = sp_bs f g + z g ∧ 0 ≤ z g) : ∀ (m g : Nat), ((g + m : Nat) : Int) ≤ d → 0 ≤ sp_bs f g ∧ sp_bs f g ≤ sp_bs f ((g + m : Nat) : Int)
  | 0, 0, _ => ⟨Int.le_refl _, Int.le_refl _⟩
  | 0, g + 1, hg => by
    have q := t_mono h 0 g (by omega)
    have r := h g (by omega)
    rw [show ((g + 1 : Nat) : Int) = (g : Int) + 1 from by omega, bs_s, r.1]
    omega
  | m + 1, g, hg => by
    have q := t_mono h m g (by omega)
    have r := h (g + m) (by omega)
    rw [show ((g + (m + 1) : Nat) : Int) = ((g + m : Nat) : Int) + 1 from by omega, bs_s, r.1]
    omega
theorem t_le {d : Int} {f : Nat → Int} {z : Nat → Int} (h : ∀ g : Nat, (g : Int) < d → f g = sp_bs f g + z g ∧ 0 ≤ z g) {g : Nat} (hg : (g : Int) < d) : 0 ≤ f g ∧ f g ≤ sp_bs f d := by
  have q := t_mono h (d - g - 1).toNat (g + 1) (by omega)
  rw [show ((g + 1 : Nat) : Int) = (g : Int) + 1 from by omega, bs_s, show ((g + 1 + (d - g - 1).toNat : Nat) : Int) = d from by omega] at q
  exact q
/-- one edit in a call -/
theorem lg_T_edit {Q b k E c : Nat} {f r off i fr isD n : Int} {y : Nat → Int} {D : lg_D} {S T : ev_St} (hQ : 1000 ≤ Q) (hT : lg_T n D E c S T) (hn0 : n ≤ 512) (hb : b < 3) (hf : 0 ≤ f ∧ f ≤ 80) (hr : 0 ≤ r ∧ r ≤ 80) (hi : 0 ≤ i ∧ i ≤ 80) (hfr : f + r ≤ S.1 (263 + 2 * b) 1) (hn : S.1 (263 + 2 * b) 1 - r + i ≤ 160) (hk : k < 724) (hk2 : k ≠ 254) (ho : 0 ≤ off ∧ off + i ≤ (ev_aln k : Int) ∧ (ev_aln k : Int) ≤ 1000000) (hy : ∀ g : Nat, (g : Int) < i → S.1 k (off + g).toNat = y g ∧ 0 ≤ y g ∧ y g < 127) (hD : (isD = 0 ∧ (0 ≤ fr ∧ fr + i ≤ 200) ∧ ∀ g : Nat, (g : Int) < i → T.1 702 (fr + g).toNat = y g) ∨ (isD = 1 ∧ i ≤ 120 ∧ ∀ g : Nat, (g : Int) < i → T.1 622 g = y g)) (hc : (c : Int) < 420000) (hs : dS D c + r + i ≤ 840000) : ∃ S' T', jm_4 Q (b : Int) f r (k + 1) off i S = some ((), S') ∧ jm_343 Q (b : Int) f (f + r) fr i isD T = some ((), T') ∧ lg_T n (lg_N D c b f r i) (c + 1) (c + 1) S' T' ∧ (S'.1 254 13 = S'.1 254 12 ∧ T'.1 621 131 = T'.1 621 130 ∧ 0 < S'.1 254 11) ∧ eg_C S S' ∧ eg_R T T' := by
  obtain ⟨hC, ⟨t1, t2, t3, t0⟩, ⟨t4, t5⟩, ⟨t6, t7⟩, t8, t9, t10, t11⟩ := hT
  have mn : ∀ g : Nat, (g : Int) < S.1 254 12 → T.1 714 g = sp_bs (T.1 714) g + S.1 261 g ∧ 0 ≤ S.1 261 g := fun g hg => ⟨(t11 g hg).1, (t11 g hg).2.1⟩
  have bs0 : 0 ≤ sp_bs (T.1 714) (S.1 254 12) := by
    have q := t_mono mn (S.1 254 12).toNat 0 (by omega)
    rw [show ((0 + (S.1 254 12).toNat : Nat) : Int) = S.1 254 12 from by omega] at q
    have e0 : sp_bs (T.1 714) ((0 : Nat) : Int) = 0 := rfl
    omega
  obtain ⟨S', T', k1, k2, k3, ⟨k4, k5⟩, ⟨k6, k7, k8, k9⟩, k10, k11⟩ := lg_edit (Q := Q) (b := b) (k := k) (f := f) (r := r) (off := off) (i := i) (fr := fr) (isD := isD) (u := S.1 254 12) (y := y) hQ hC hb hf hr hi hfr hn hk hk2 ho hy hD t1 (by omega) (by rw [← t1]; exact t9) (fun w => by
    have l0 := t10 (by omega)
    refine ⟨by omega, ?_⟩
    by_cases e : S.1 254 12 = 0
    · rw [e] at t8 ⊢
      have e0 : sp_bs (T.1 714) 0 = 0 := rfl
      rw [show c = 0 from by omega, hC.2.2.2.2.2.1.1]
      rfl
    · have q := (t11 (S.1 254 12 - 1).toNat (by omega)).2.2
      have q2 : sp_bs (T.1 714) (S.1 254 12) = T.1 714 (S.1 254 12 - 1).toNat := if_neg e
      unfold sp_bs
      rw [if_neg e, q, show (T.1 714 (S.1 254 12 - 1).toNat).toNat = c from by omega]) hc hs (by omega) (by omega) (by omega)
  have e12 : S'.1 254 12 = S.1 254 12 := k10.2.1
  have e714 : T'.1 714 = T.1 714 := funext fun g => k11.1 714 g (by omega) (by omega) (by omega) (by omega) (by omega) (by omega)
  have eT : ∀ g, g = 130 ∨ g = 132 → T'.1 621 g = T.1 621 g := fun g hg => k11.1 621 g (by omega) (by omega) (by omega) (by omega) (by omega) (by omega)
  refine ⟨S', T', k1, k2, ⟨k3, ⟨by rw [eT 130 (by omega), e12, t1], by omega, by omega, by rw [eT 130 (by omega), k9, t1]; split <;> omega⟩, ⟨by rw [eT 132 (by omega), k10.1 254 14 (by omega) (by omega) (by omega) (by omega) (by omega), t4], by rw [k10.1 254 14 (by omega) (by omega) (by omega) (by omega) (by omega)]; exact t5⟩, ⟨by rw [k7, k5, t6], by omega⟩, by rw [e714, e12, k5]; omega, fun _ => ⟨by rw [k6]; omega, by rw [k8, lg_N_S1]⟩, fun w => ?_, fun g hg => ?_⟩, ⟨by rw [k4, e12], ?_, by omega⟩, k10, k11⟩
  · rw [eT 130 (by omega), k9, t1] at w
    split at w <;> omega
  · rw [e12] at hg
    have q := t11 g hg
    have q2 := t_le mn hg
    rw [e714, k10.1 261 g (by omega) (by omega) (by omega) (by omega) (by omega), k11.1 715 g (by omega) (by omega) (by omega) (by omega) (by omega) (by omega), lg_N_S (by omega)]
    exact q
  · rw [eT 130 (by omega), k9, t1]
    split <;> omega
/-- the end of a call with edits -/
theorem lg_T_end {Q c : Nat} {n : Int} {D : lg_D} {S T : ev_St} (hT : lg_T n D c c S T) (hn0 : n ≤ 511) (h1 : S.1 254 13 = S.1 254 12 ∧ T.1 621 131 = T.1 621 130 ∧ 0 < S.1 254 11) (hc : (c : Int) ≤ 810 * (n + 1)) (hs : dS D c ≤ 1600 * (n + 1)) : ∃ S' T', jm_3 Q S = some ((), S') ∧ jm_345 Q T = some ((), T') ∧ L2 (n + 1) D S' T' ∧ (∀ g : Nat, (g : Int) < S'.1 254 13 → T'.1 714 g = (c : Int) ∨ ((g : Int) < S.1 254 12 ∧ T'.1 714 g = T.1 714 g)) ∧ (∀ k g, ¬ (k = 254 ∧ (g = 11 ∨ g = 12 ∨ g = 13)) → k ≠ 261 → S'.1 k g = S.1 k g) ∧ S'.2 = S.2 ∧ (∀ k g, ¬ (k = 621 ∧ (g = 126 ∨ g = 130 ∨ g = 131)) → k ≠ 714 → k ≠ 715 → T'.1 k g = T.1 k g) ∧ T'.2 = T.2 := by
  obtain ⟨hC, ⟨t1, t2, t3, t0⟩, ⟨t4, t5⟩, ⟨t6, t7⟩, t8, t9, t10, t11⟩ := hT
  obtain ⟨_, _, _, _, _, l4, l5, l6⟩ := sp_aln262
  have e9 := hC.2.1.1
  by_cases ho : S.1 254 14 = 0
  · refine ⟨ev_pI (ev_pI (ev_pI (ev_pI S 261 (S.1 254 12).toNat (S.1 254 11)) 254 11 0) 254 12 (S.1 254 12 + 1)) 254 13 (S.1 254 12 + 1), ev_pI (ev_pI (ev_pI (ev_pI (ev_pI T 714 (T.1 621 130).toNat (T.1 621 125)) 715 (T.1 621 130).toNat (T.1 621 128)) 621 130 (T.1 621 130 + 1)) 621 131 (T.1 621 130 + 1)) 621 126 0, ?_, ?_, ?_, fun g hg => ?_, fun k g a1 a2 => ?_, rfl, fun k g a1 a2 a3 => ?_, rfl⟩
    · unfold jm_3
      rw [sp_b, if_neg (by omega), sp_b, if_neg (by omega), sp_b, if_neg (by omega), sp_b, if_pos (by omega), sp_b, sp_b, sp_if (by rw [l6]; omega), sp_b, sp_b, sp_b, rd_nf (by omega), rd_nk (by omega), sp_ck (by omega), sp_b, sp_b, rd_eq, sp_b]
    · unfold jm_345
      rw [sp_b, if_neg (by omega)]
      unfold jm_344
      rw [sp_b, if_neg (by omega), sp_b, sp_b, sp_if (by rw [l4]; omega), sp_b, sp_b, rd_nk (by omega), sp_b, rd_nk (by omega), sp_if (by rw [l5]; omega), sp_b, sp_b, rd_nk (by omega), rd_nk (by omega), sp_ck (by omega), sp_b, sp_b, rd_eq, sp_b, sp_b, sp_bd]
    · obtain ⟨u1, u2⟩ := t9 (by omega)
      have sS : ∀ k g, ¬ (k = 254 ∧ (g = 11 ∨ g = 12 ∨ g = 13)) → k ≠ 261 → (ev_pI (ev_pI (ev_pI (ev_pI S 261 (S.1 254 12).toNat (S.1 254 11)) 254 11 0) 254 12 (S.1 254 12 + 1)) 254 13 (S.1 254 12 + 1)).1 k g = S.1 k g := fun k g a1 a2 => by
        rw [sp_pI1, if_neg (by omega), sp_pI1, if_neg (by omega), sp_pI1, if_neg (by omega), rd_nk a2]
      have sT : ∀ k g, ¬ (k = 621 ∧ (g = 126 ∨ g = 130 ∨ g = 131)) → k ≠ 714 → k ≠ 715 → (ev_pI (ev_pI (ev_pI (ev_pI (ev_pI T 714 (T.1 621 130).toNat (T.1 621 125)) 715 (T.1 621 130).toNat (T.1 621 128)) 621 130 (T.1 621 130 + 1)) 621 131 (T.1 621 130 + 1)) 621 126 0).1 k g = T.1 k g := fun k g a1 a2 a3 => by
        rw [sp_pI1, if_neg (by omega), sp_pI1, if_neg (by omega), sp_pI1, if_neg (by omega), rd_nk a3, rd_nk a2]
      have v261 : ∀ g, (ev_pI (ev_pI (ev_pI (ev_pI S 261 (S.1 254 12).toNat (S.1 254 11)) 254 11 0) 254 12 (S.1 254 12 + 1)) 254 13 (S.1 254 12 + 1)).1 261 g = if g = (S.1 254 12).toNat then S.1 254 11 else S.1 261 g := fun g => by
        rw [rd_nk (by omega), rd_nk (by omega), rd_nk (by omega), sp_pI1]
        simp
      have v714 : ∀ g, (ev_pI (ev_pI (ev_pI (ev_pI (ev_pI T 714 (T.1 621 130).toNat (T.1 621 125)) 715 (T.1 621 130).toNat (T.1 621 128)) 621 130 (T.1 621 130 + 1)) 621 131 (T.1 621 130 + 1)) 621 126 0).1 714 g = if g = (S.1 254 12).toNat then (c : Int) else T.1 714 g := fun g => by
        rw [rd_nk (by omega), rd_nk (by omega), rd_nk (by omega), rd_nk (by omega), sp_pI1, t1, u1]
        simp
      have v715 : ∀ g, (ev_pI (ev_pI (ev_pI (ev_pI (ev_pI T 714 (T.1 621 130).toNat (T.1 621 125)) 715 (T.1 621 130).toNat (T.1 621 128)) 621 130 (T.1 621 130 + 1)) 621 131 (T.1 621 130 + 1)) 621 126 0).1 715 g = if g = (S.1 254 12).toNat then dS D c else T.1 715 g := fun g => by
        rw [rd_nk (by omega), rd_nk (by omega), rd_nk (by omega), sp_pI1, rd_nk (by omega), t1, u2]
        simp
      have vs : (ev_pI (ev_pI (ev_pI (ev_pI S 261 (S.1 254 12).toNat (S.1 254 11)) 254 11 0) 254 12 (S.1 254 12 + 1)) 254 13 (S.1 254 12 + 1)).1 254 11 = 0 ∧ (ev_pI (ev_pI (ev_pI (ev_pI S 261 (S.1 254 12).toNat (S.1 254 11)) 254 11 0) 254 12 (S.1 254 12 + 1)) 254 13 (S.1 254 12 + 1)).1 254 12 = S.1 254 12 + 1 ∧ (ev_pI (ev_pI (ev_pI (ev_pI S 261 (S.1 254 12).toNat (S.1 254 11)) 254 11 0) 254 12 (S.1 254 12 + 1)) 254 13 (S.1 254 12 + 1)).1 254 13 = S.1 254 12 + 1 := ⟨by rw [rd_nf (by omega), rd_nf (by omega), rd_eq], by rw [rd_nf (by omega), rd_eq], rd_eq⟩
      have vt : (ev_pI (ev_pI (ev_pI (ev_pI (ev_pI T 714 (T.1 621 130).toNat (T.1 621 125)) 715 (T.1 621 130).toNat (T.1 621 128)) 621 130 (T.1 621 130 + 1)) 621 131 (T.1 621 130 + 1)) 621 126 0).1 621 126 = 0 ∧ (ev_pI (ev_pI (ev_pI (ev_pI (ev_pI T 714 (T.1 621 130).toNat (T.1 621 125)) 715 (T.1 621 130).toNat (T.1 621 128)) 621 130 (T.1 621 130 + 1)) 621 131 (T.1 621 130 + 1)) 621 126 0).1 621 130 = S.1 254 12 + 1 ∧ (ev_pI (ev_pI (ev_pI (ev_pI (ev_pI T 714 (T.1 621 130).toNat (T.1 621 125)) 715 (T.1 621 130).toNat (T.1 621 128)) 621 130 (T.1 621 130 + 1)) 621 131 (T.1 621 130 + 1)) 621 126 0).1 621 131 = S.1 254 12 + 1 := ⟨rd_eq, by rw [rd_nf (by omega), rd_nf (by omega), rd_eq, t1], by rw [rd_nf (by omega), rd_eq, t1]⟩
      have hC2 : lg_C D c c (ev_pI (ev_pI (ev_pI (ev_pI S 261 (S.1 254 12).toNat (S.1 254 11)) 254 11 0) 254 12 (S.1 254 12 + 1)) 254 13 (S.1 254 12 + 1)) (ev_pI (ev_pI (ev_pI (ev_pI (ev_pI T 714 (T.1 621 130).toNat (T.1 621 125)) 715 (T.1 621 130).toNat (T.1 621 128)) 621 130 (T.1 621 130 + 1)) 621 131 (T.1 621 130 + 1)) 621 126 0) := lg_C_c hC (fun k g hk => sS k g (by omega) (by omega)) rfl rfl (fun k g hk => sT k g (by omega) (by omega) (by omega))
      generalize ev_pI (ev_pI (ev_pI (ev_pI S 261 (S.1 254 12).toNat (S.1 254 11)) 254 11 0) 254 12 (S.1 254 12 + 1)) 254 13 (S.1 254 12 + 1) = S' at *
      generalize ev_pI (ev_pI (ev_pI (ev_pI (ev_pI T 714 (T.1 621 130).toNat (T.1 621 125)) 715 (T.1 621 130).toNat (T.1 621 128)) 621 130 (T.1 621 130 + 1)) 621 131 (T.1 621 130 + 1)) 621 126 0 = T' at *
      obtain ⟨y1, y2, y3⟩ := vs
      obtain ⟨z1, z2, z3⟩ := vt
      have bs : ∀ d : Int, 0 ≤ d → d ≤ S.1 254 12 → sp_bs (T'.1 714) d = sp_bs (T.1 714) d := fun d d0 d1 => sp_bs_c (m := (S.1 254 12).toNat) (fun i hi => by rw [v714, if_neg hi]) d0 (by omega)
      have b1 : sp_bs (T'.1 714) (S.1 254 12 + 1) = (c : Int) := by
        unfold sp_bs
        rw [if_neg (by omega), v714, if_pos (by omega)]
      have e9' : S'.1 254 9 = (c : Int) := by rw [sS 254 9 (by omega) (by omega), e9]
      have e14' : S'.1 254 14 = 0 := by rw [sS 254 14 (by omega) (by omega), ho]
      unfold L2
      rw [y1, y2, y3, z1, z2, z3, b1, e9', e14', sT 621 132 (by omega) (by omega) (by omega), sT 621 125 (by omega) (by omega) (by omega), sT 621 128 (by omega) (by omega) (by omega), t4, ho, Int.toNat_natCast]
      refine ⟨⟨rfl, rfl, rfl, rfl⟩, ⟨by omega, by omega, by omega, by omega, Or.inl rfl⟩, fun _ => rfl, fun w => by omega, by omega, fun g hg => ?_, c, by rw [if_pos rfl], hC2, hc, hs, u1, u2⟩
      rw [v714, v715, v261, bs g (by omega) (by omega)]
      by_cases e : g = (S.1 254 12).toNat
      · rw [if_pos e, if_pos e, if_pos e, e, Int.toNat_natCast, show (((S.1 254 12).toNat : Nat) : Int) = S.1 254 12 from by omega]
        exact ⟨t8, t7, rfl⟩
      · rw [if_neg e, if_neg e, if_neg e]
        exact t11 g (by omega)
    · rw [rd_eq] at hg
      rw [rd_nk (by omega), rd_nk (by omega), rd_nk (by omega), rd_nk (by omega), sp_pI1, t1, (t9 (by omega)).1]
      by_cases e : g = (S.1 254 12).toNat
      · rw [if_pos ⟨rfl, e⟩]
        exact Or.inl rfl
      · rw [if_neg (fun z => e z.2)]
        exact Or.inr ⟨by omega, rfl⟩
    · rw [sp_pI1, if_neg (by omega), sp_pI1, if_neg (by omega), sp_pI1, if_neg (by omega), rd_nk a2]
    · rw [sp_pI1, if_neg (by omega), sp_pI1, if_neg (by omega), sp_pI1, if_neg (by omega), rd_nk a3, rd_nk a2]
  · refine ⟨S, T, ?_, ?_, ?_, fun g hg => Or.inr ⟨by omega, rfl⟩, fun _ _ _ _ => rfl, rfl, fun _ _ _ _ _ => rfl, rfl⟩
    · unfold jm_3
      rw [sp_b, if_pos ho]
    · unfold jm_345
      rw [sp_b, if_pos (by omega)]
    · obtain ⟨u1, u2⟩ := t9 (by omega)
      unfold L2
      rw [e9, Int.toNat_natCast]
      exact ⟨⟨t1, by omega, t4, t6⟩, ⟨t2, by omega, by omega, t7, t5⟩, fun w => absurd w ho, fun _ => ⟨by omega, by omega⟩, t8, fun g hg => t11 g (by omega), c, by rw [if_pos (by omega)], hC, hc, hs, u1, u2⟩
