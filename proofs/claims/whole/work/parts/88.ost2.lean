/-! M1: the log once more, its characters signs (opsg opsh opsi) -/
theorem lg_edit_g {Q b k E c : Nat} {f r off i fr isD u : Int} {y : Nat → Int} {D : lg_D} {S T : ev_St} (hQ : 1000 ≤ Q) (hC : lg_C_g D E c S T) (hb : b < 3) (hf : 0 ≤ f ∧ f ≤ 80) (hr : 0 ≤ r ∧ r ≤ 80) (hi : 0 ≤ i ∧ i ≤ 80) (hfr : f + r ≤ S.1 (263 + 2 * b) 1) (hn : S.1 (263 + 2 * b) 1 - r + i ≤ 160) (hk : k < 724) (hk2 : k ≠ 254) (ho : 0 ≤ off ∧ off + i ≤ (ev_aln k : Int) ∧ (ev_aln k : Int) ≤ 1000000) (hy : ∀ g : Nat, (g : Int) < i → S.1 k (off + g).toNat = y g ∧ 0 ≤ y g ∧ y g < 127 ∧ sp_sign (y g) = 1) (hD : (isD = 0 ∧ (0 ≤ fr ∧ fr + i ≤ 200) ∧ ∀ g : Nat, (g : Int) < i → T.1 702 (fr + g).toNat = y g) ∨ (isD = 1 ∧ i ≤ 120 ∧ ∀ g : Nat, (g : Int) < i → T.1 622 g = y g)) (hu : T.1 621 130 = u) (hu0 : 0 ≤ u ∧ u < 1024) (hk1 : T.1 621 131 ≤ u → T.1 621 125 = c ∧ T.1 621 128 = dS D c) (hk3 : u < T.1 621 131 → sp_bs (T.1 714) u = c ∧ sp_bs (T.1 715) u = dS D c) (hc : (c : Int) < 420000) (hs : dS D c + r + i ≤ 840000) (hd : S.1 254 12 < 1024) (h11 : 0 ≤ S.1 254 11 ∧ S.1 254 11 ≤ 1000000) (h126 : 0 ≤ T.1 621 126 ∧ T.1 621 126 ≤ 1000000) : ∃ S' T', jm_4 Q (b : Int) f r (k + 1) off i S = some ((), S') ∧ jm_343 Q (b : Int) f (f + r) fr i isD T = some ((), T') ∧ lg_C_g (lg_N D c b f r i) (c + 1) (c + 1) S' T' ∧ (S'.1 254 13 = S.1 254 12 ∧ S'.1 254 11 = S.1 254 11 + 1) ∧ (T'.1 621 125 = (c : Int) + 1 ∧ T'.1 621 126 = T.1 621 126 + 1 ∧ T'.1 621 128 = dS D c + r + i ∧ T'.1 621 131 = (if u < T.1 621 131 then u else T.1 621 131)) ∧ eg_C S S' ∧ eg_R T T' := by
  obtain ⟨c1, ⟨c2, c3, c4⟩, c5, c6, c7, c8, c9⟩ := hC
  have g1 := lg_mono2 c8 (k := c) (n := E) (by omega) (by omega)
  have hl := c4 b hb
  obtain ⟨b1, b2, b3, b4⟩ := c6 b hb
  obtain ⟨S1, p1, p2, p3, p4⟩ := ed_C (Q := Q) (k := k) (f := f) (r := r) (off := off) (i := i) (c := (c : Int)) (s := dS D c) (P := (b : Int) + 4 * f + 1024 * r + 262144 * i) hQ c5 hb hf.1 ⟨hr.1, by omega⟩ ⟨hi.1, by omega⟩ hfr b2 (fun g hg => ⟨(b4 g hg).2.1, (b4 g hg).2.2.1⟩) hk hk2 ho (fun g hg => by rw [(hy g hg).1]; exact ⟨(hy g hg).2.1, (hy g hg).2.2.1⟩) c2 (by omega) c3 (by omega) hd h11 rfl (by omega)
  obtain ⟨T1, q1, q2, q3, q4, q5, q6, q7, q8⟩ := ed_R (Q := Q) (b := b) (f := f) (r := r) (fr := fr) (i := i) (c := (c : Int)) (s := dS D c) (P := f + 128 * r + 16384 * i + 2097152 * (b : Int)) (isD := isD) (u := u) (y := y) (T := T) hQ hb hf.1 ⟨hr.1, by omega⟩ ⟨hi.1, by omega⟩ (by omega) (fun g hg => by
    obtain ⟨w1, w2⟩ := b4 g (by omega)
    rw [w1]
    exact ⟨w2.1, w2.2.1⟩) (fun g hg => ⟨(hy g hg).2.1, (hy g hg).2.2.1⟩) hD hu hu0 hk1 hk3 (by omega) (by omega) h126 rfl (by omega)
  have n1 : ∀ k g, k < 724 → ¬ (k = 254 ∧ (g = 11 ∨ g = 13)) → (ev_pI S1 254 11 (S.1 254 11 + 1)).1 k g = S.1 k g := fun k g h1 h2 => by
    rw [sp_pI1, if_neg (by omega), p2.1 k g h1, sp_pI1, if_neg (by omega)]
  have n2 : ∀ a j, a = 259 ∨ a = 260 → lg_r a (ev_pI S1 254 11 (S.1 254 11 + 1)) j = lg_r a S1 j := fun a j ha => lg_r_c p2.2.2.2.2 ha rfl (fun k g hk => rd_nk (by omega))
  have hC1 : lg_C_g (lg_N D c b f r i) (c + 1) c (ev_pI S1 254 11 (S.1 254 11 + 1)) T1 := by
    refine ⟨by omega, ⟨by rw [n1 _ _ (by omega) (by omega), c2], by rw [n1 _ _ (by omega) (by omega), c3, lg_N_S (Nat.le_refl _)], fun b' hb' => by rw [n1 _ _ (by omega) (by omega), c4 b' hb']; exact (if_neg (by omega)).symm⟩, lg_W_c p2.2.2.2.2 rfl rfl, t2_B_c_g c6 (fun b g h1 h2 => n1 b g (by omega) (by omega)) (fun b g hb => q8.1 b g (by omega) (by omega) (by omega)), t2_M_c c7 (n1 _ _ (by omega) (by omega)) (fun b g h1 h2 => n1 b g (by omega) (by omega)) (fun b hb => n1 _ _ (by omega) (by omega)) (q8.1 _ _ (by omega) (by omega) (by omega)) (fun b g h1 h2 => q8.1 b g (by omega) (by omega) (by omega)), lg_N_V c8 c1 hb hf hr hi (by omega) (by omega) (by omega), fun k hk => ?_, fun j hj => ?_⟩
    · rw [n2 _ _ (Or.inl rfl), p3, q6]
      by_cases e : k = c
      · rw [if_pos (by omega), if_pos (by omega)]
        have e1 : dB (lg_N D c b f r i) k = b := if_pos e
        have e2 : dF (lg_N D c b f r i) k = f := if_pos e
        have e3 : dR (lg_N D c b f r i) k = r := if_pos e
        have e4 : dI (lg_N D c b f r i) k = i := if_pos e
        rw [e1, e2, e3, e4]
        exact ⟨rfl, rfl⟩
      · rw [if_neg (by omega), if_neg (by omega)]
        have e1 : dB (lg_N D c b f r i) k = dB D k := if_neg e
        have e2 : dF (lg_N D c b f r i) k = dF D k := if_neg e
        have e3 : dR (lg_N D c b f r i) k = dR D k := if_neg e
        have e4 : dI (lg_N D c b f r i) k = dI D k := if_neg e
        rw [e1, e2, e3, e4]
        exact c9.1 k (by omega)
    · rw [lg_N_S1] at hj
      rw [n2 _ _ (Or.inr rfl), p4, q7]
      by_cases e1 : dS D c ≤ (j : Int) ∧ (j : Int) < dS D c + r
      · rw [if_pos e1, if_pos e1]
        exact b4 _ (by omega)
      · rw [if_neg e1, if_neg e1]
        by_cases e2 : dS D c + r ≤ (j : Int) ∧ (j : Int) < dS D c + r + i
        · rw [if_pos e2, if_pos e2]
          obtain ⟨w1, w2⟩ := hy ((j : Int) - (dS D c + r)).toNat (by omega)
          rw [show off + (((((j : Int) - (dS D c + r)).toNat) : Nat) : Int) = off + ((j : Int) - (dS D c + r)) from by omega] at w1
          rw [w1]
          exact ⟨rfl, w2⟩
        · rw [if_neg e2, if_neg e2]
          exact c9.2 j (by omega)
  obtain ⟨S', T', k1, k2, k3, k4, k5⟩ := lg_redo_g (Q := Q) (by omega) hC1 (by omega) (by omega) (by rw [lg_N_S1]; exact hs)
  have e1 : dB (lg_N D c b f r i) c = b := if_pos rfl
  have e2 : dF (lg_N D c b f r i) c = f := if_pos rfl
  have e3 : dR (lg_N D c b f r i) c = r := if_pos rfl
  have e4 : dI (lg_N D c b f r i) c = i := if_pos rfl
  rw [e1, e2, e3, e4, lg_N_S (Nat.le_refl _)] at k2
  have m1 : ∀ g, ¬ (9 ≤ g ∧ g ≤ 10) → S'.1 254 g = (ev_pI S1 254 11 (S.1 254 11 + 1)).1 254 g := fun g hg => k4.1 254 g (by omega) (by omega) (by omega) (by omega) (by omega)
  have m2 : ∀ g, T'.1 621 g = T1.1 621 g := fun g => k5.1 621 g (by omega) (by omega) (by omega)
  refine ⟨S', T', by rw [p1, k1, sp_bd], by rw [q1, k2, sp_bd], k3, ⟨?_, ?_⟩, ⟨by rw [m2, q2], by rw [m2, q3], by rw [m2, q4], by rw [m2, q5]⟩, ⟨fun a g h1 h2 h3 h4 h5 => ?_, ?_, ?_, fun a j h1 h2 => ?_, ?_⟩, ⟨fun a g h1 h2 h3 h4 h5 h6 => ?_, ?_⟩⟩
  · rw [m1 13 (by omega), rd_nf (by omega), p2.1 _ _ (by omega), rd_eq]
  · rw [m1 11 (by omega), rd_eq]
  · rw [k4.1 a g h2 h3 (by omega) (by omega) (by omega), n1 a g h1 (by omega)]
  · rw [m1 12 (by omega), n1 _ _ (by omega) (by omega)]
  · have := k4.2
    rw [this]
    show S1.2.1 = _
    rw [p2.2.1]
    rfl
  · have := k4.2
    rw [this]
    show S1.2.2.1 a j = _
    rw [p2.2.2.1 a j h1 h2]
    rfl
  · have := k4.2
    unfold ev_sC ev_sN ev_sZ
    rw [this]
    exact p2.2.2.2.1
  · rw [k5.1 a g h1 h2 h3, q8.1 a g h4 h5 h6]
  · rw [k5.2, q8.2]
def L2_g (n : Int) (D : lg_D) (S T : ev_St) : Prop := (T.1 621 130 = S.1 254 12 ∧ T.1 621 131 = S.1 254 13 ∧ T.1 621 132 = S.1 254 14 ∧ T.1 621 126 = S.1 254 11) ∧ (0 ≤ S.1 254 12 ∧ S.1 254 12 ≤ S.1 254 13 ∧ S.1 254 13 ≤ n ∧ 0 ≤ S.1 254 11 ∧ (S.1 254 14 = 0 ∨ S.1 254 14 = 1)) ∧ (S.1 254 14 = 0 → S.1 254 11 = 0) ∧ (0 < S.1 254 11 → S.1 254 12 = S.1 254 13 ∧ S.1 254 12 < n) ∧ S.1 254 9 = sp_bs (T.1 714) (S.1 254 12) + S.1 254 11 ∧ (∀ g : Nat, (g : Int) < S.1 254 13 → T.1 714 g = sp_bs (T.1 714) g + S.1 261 g ∧ 0 ≤ S.1 261 g ∧ T.1 715 g = dS D (T.1 714 g).toNat) ∧ ∃ E : Nat, (E : Int) = (if S.1 254 12 = S.1 254 13 then S.1 254 9 else T.1 714 (S.1 254 13 - 1).toNat) ∧ lg_C_g D E (S.1 254 9).toNat S T ∧ (E : Int) ≤ 810 * n ∧ dS D E ≤ 1600 * n ∧ T.1 621 125 = E ∧ T.1 621 128 = dS D E
theorem L2_of_g {n : Int} {D : lg_D} {S : ev_St} (h : LG_g n D S) : L2_g n D S S := by
  obtain ⟨⟨g1, g2, g3, g4, g5, g6, g7⟩, h2, ⟨h3, h4, h5⟩, ⟨h6, h7⟩, h8⟩ := h
  have e : ((lg_E S).toNat : Int) = lg_E S := by omega
  exact ⟨g1, g2, g3, g4, g6, fun g hg => ⟨g7 g hg, h8 g hg⟩, (lg_E S).toNat, e, h2, by omega, h5, by omega, h7⟩
theorem LG_of_g {n : Int} {D : lg_D} {S : ev_St} (h : L2_g n D S S) : LG_g n D S := by
  obtain ⟨g1, g2, g3, g4, g6, g7, E, e1, h2, h4, h5, h6, h7⟩ := h
  have e : lg_E S = (E : Int) := e1.symm
  unfold LG_g
  rw [e, Int.toNat_natCast]
  refine ⟨⟨g1, g2, g3, g4, fun w => ?_, g6, fun g hg => (g7 g hg).1⟩, h2, ⟨by omega, h4, h5⟩, ⟨h6, h7⟩, fun g hg => (g7 g hg).2⟩
  rw [if_pos w] at e1
  have := h2.2.1.2.1
  rw [show (S.1 254 9).toNat = E from by omega] at this
  exact ⟨by omega, by omega⟩
theorem L2_c_g {n : Int} {D : lg_D} {S T S2 T2 : ev_St} (h : L2_g n D S T) (hS : ∀ k g, (k = 254 ∧ (g = 4 ∨ (9 ≤ g ∧ g ≤ 14))) ∨ (256 ≤ k ∧ k ≤ 258) ∨ k = 261 ∨ (263 ≤ k ∧ k ≤ 268) ∨ 724 ≤ k → S2.1 k g = S.1 k g) (hR : S2.2.2.1 = S.2.2.1) (hN : ev_sN S2 = ev_sN S) (hT : ∀ k g, 707 ≤ k ∧ k ≤ 715 ∨ (k = 621 ∧ (g = 121 ∨ (125 ≤ g ∧ g ≤ 132))) → T2.1 k g = T.1 k g) : L2_g n D S2 T2 := by
  obtain ⟨g1, g2, g3, g4, g6, g7, E, e1, h2, h4, h5, h6, h7⟩ := h
  have e714 : T2.1 714 = T.1 714 := funext fun g => hT 714 g (by omega)
  unfold L2_g
  rw [e714, hS 254 9 (by omega), hS 254 11 (by omega), hS 254 12 (by omega), hS 254 13 (by omega), hS 254 14 (by omega), hT 621 130 (by omega), hT 621 131 (by omega), hT 621 132 (by omega), hT 621 126 (by omega), hT 621 125 (by omega), hT 621 128 (by omega)]
  refine ⟨g1, g2, g3, g4, g6, fun g hg => ?_, E, e1, ?_, h4, h5, h6, h7⟩
  · rw [hS 261 g (by omega), hT 715 g (by omega)]
    exact g7 g hg
  · exact lg_C_c_g h2 (fun k g hk => hS k g (by omega)) hR hN (fun k g hk => hT k g (by omega))
theorem L2_mono_g {n m : Int} {D : lg_D} {S T : ev_St} (h : n ≤ m) (hG : L2_g n D S T) : L2_g m D S T := by
  obtain ⟨g1, g2, g3, g4, g6, g7, E, e1, h2, h4, h5, h6, h7⟩ := hG
  exact ⟨g1, ⟨g2.1, g2.2.1, by omega, g2.2.2.2.1, g2.2.2.2.2⟩, g3, fun w => ⟨(g4 w).1, by have := (g4 w).2; omega⟩, g6, g7, E, e1, h2, by omega, by omega, h6, h7⟩
def lg_T_g (n : Int) (D : lg_D) (E c : Nat) (S T : ev_St) : Prop := lg_C_g D E c S T ∧ (T.1 621 130 = S.1 254 12 ∧ 0 ≤ S.1 254 12 ∧ S.1 254 12 ≤ n ∧ T.1 621 130 ≤ T.1 621 131) ∧ (T.1 621 132 = S.1 254 14 ∧ (S.1 254 14 = 0 ∨ S.1 254 14 = 1)) ∧ (T.1 621 126 = S.1 254 11 ∧ 0 ≤ S.1 254 11) ∧ (c : Int) = sp_bs (T.1 714) (S.1 254 12) + S.1 254 11 ∧ (T.1 621 131 ≤ T.1 621 130 → T.1 621 125 = c ∧ T.1 621 128 = dS D c) ∧ (T.1 621 130 < T.1 621 131 → S.1 254 11 = 0) ∧ ∀ g : Nat, (g : Int) < S.1 254 12 → T.1 714 g = sp_bs (T.1 714) g + S.1 261 g ∧ 0 ≤ S.1 261 g ∧ T.1 715 g = dS D (T.1 714 g).toNat
theorem lg_T_of_g {n : Int} {D : lg_D} {S T : ev_St} (h : L2_g n D S T) : ∃ E : Nat, (E : Int) ≤ 810 * n ∧ dS D E ≤ 1600 * n ∧ lg_T_g n D E (S.1 254 9).toNat S T := by
  obtain ⟨g1, g2, g3, g4, g6, g7, E, e1, h2, h4, h5, h6, h7⟩ := h
  have e9 : (((S.1 254 9).toNat : Nat) : Int) = S.1 254 9 := by
    have := h2.2.1.1
    omega
  refine ⟨E, h4, h5, h2, ⟨g1.1, g2.1, by omega, by omega⟩, ⟨g1.2.2.1, g2.2.2.2.2⟩, ⟨g1.2.2.2, g2.2.2.2.1⟩, by rw [e9]; exact g6, fun w => ?_, fun w => ?_, fun g hg => g7 g (by omega)⟩
  · rw [if_pos (by omega)] at e1
    rw [show (S.1 254 9).toNat = E from by omega]
    exact ⟨h6, h7⟩
  · by_cases e : 0 < S.1 254 11
    · have := g4 e
      omega
    · omega
theorem lg_T_edit_g {Q b k E c : Nat} {f r off i fr isD n : Int} {y : Nat → Int} {D : lg_D} {S T : ev_St} (hQ : 1000 ≤ Q) (hT : lg_T_g n D E c S T) (hn0 : n ≤ 512) (hb : b < 3) (hf : 0 ≤ f ∧ f ≤ 80) (hr : 0 ≤ r ∧ r ≤ 80) (hi : 0 ≤ i ∧ i ≤ 80) (hfr : f + r ≤ S.1 (263 + 2 * b) 1) (hn : S.1 (263 + 2 * b) 1 - r + i ≤ 160) (hk : k < 724) (hk2 : k ≠ 254) (ho : 0 ≤ off ∧ off + i ≤ (ev_aln k : Int) ∧ (ev_aln k : Int) ≤ 1000000) (hy : ∀ g : Nat, (g : Int) < i → S.1 k (off + g).toNat = y g ∧ 0 ≤ y g ∧ y g < 127 ∧ sp_sign (y g) = 1) (hD : (isD = 0 ∧ (0 ≤ fr ∧ fr + i ≤ 200) ∧ ∀ g : Nat, (g : Int) < i → T.1 702 (fr + g).toNat = y g) ∨ (isD = 1 ∧ i ≤ 120 ∧ ∀ g : Nat, (g : Int) < i → T.1 622 g = y g)) (hc : (c : Int) < 420000) (hs : dS D c + r + i ≤ 840000) : ∃ S' T', jm_4 Q (b : Int) f r (k + 1) off i S = some ((), S') ∧ jm_343 Q (b : Int) f (f + r) fr i isD T = some ((), T') ∧ lg_T_g n (lg_N D c b f r i) (c + 1) (c + 1) S' T' ∧ (S'.1 254 13 = S'.1 254 12 ∧ T'.1 621 131 = T'.1 621 130 ∧ 0 < S'.1 254 11) ∧ eg_C S S' ∧ eg_R T T' := by
  obtain ⟨hC, ⟨t1, t2, t3, t0⟩, ⟨t4, t5⟩, ⟨t6, t7⟩, t8, t9, t10, t11⟩ := hT
  have mn : ∀ g : Nat, (g : Int) < S.1 254 12 → T.1 714 g = sp_bs (T.1 714) g + S.1 261 g ∧ 0 ≤ S.1 261 g := fun g hg => ⟨(t11 g hg).1, (t11 g hg).2.1⟩
  have bs0 : 0 ≤ sp_bs (T.1 714) (S.1 254 12) := by
    have q := t_mono mn (S.1 254 12).toNat 0 (by omega)
    rw [show ((0 + (S.1 254 12).toNat : Nat) : Int) = S.1 254 12 from by omega] at q
    have e0 : sp_bs (T.1 714) ((0 : Nat) : Int) = 0 := rfl
    omega
  obtain ⟨S', T', k1, k2, k3, ⟨k4, k5⟩, ⟨k6, k7, k8, k9⟩, k10, k11⟩ := lg_edit_g (Q := Q) (b := b) (k := k) (f := f) (r := r) (off := off) (i := i) (fr := fr) (isD := isD) (u := S.1 254 12) (y := y) hQ hC hb hf hr hi hfr hn hk hk2 ho hy hD t1 (by omega) (by rw [← t1]; exact t9) (fun w => by
    have l0 := t10 (by omega)
    refine ⟨by omega, ?_⟩
    by_cases e : S.1 254 12 = 0
    · rw [e] at t8 ⊢
      have e0 : sp_bs (T.1 714) 0 = 0 := rfl
      rw [show c = 0 from by omega, hC.2.2.2.2.2.1.1]
      rfl
    · have q := (t11 (S.1 254 12 - 1).toNat (by omega)).2.2
      have q2 : sp_bs (T.1 714) (S.1 254 12) = T.1 714 (S.1 254 12 - 1).toNat := if_neg e
      unfold sp_bs
      rw [if_neg e, q, show (T.1 714 (S.1 254 12 - 1).toNat).toNat = c from by omega]) hc hs (by omega) (by omega) (by omega)
  have e12 : S'.1 254 12 = S.1 254 12 := k10.2.1
  have e714 : T'.1 714 = T.1 714 := funext fun g => k11.1 714 g (by omega) (by omega) (by omega) (by omega) (by omega) (by omega)
  have eT : ∀ g, g = 130 ∨ g = 132 → T'.1 621 g = T.1 621 g := fun g hg => k11.1 621 g (by omega) (by omega) (by omega) (by omega) (by omega) (by omega)
  refine ⟨S', T', k1, k2, ⟨k3, ⟨by rw [eT 130 (by omega), e12, t1], by omega, by omega, by rw [eT 130 (by omega), k9, t1]; split <;> omega⟩, ⟨by rw [eT 132 (by omega), k10.1 254 14 (by omega) (by omega) (by omega) (by omega) (by omega), t4], by rw [k10.1 254 14 (by omega) (by omega) (by omega) (by omega) (by omega)]; exact t5⟩, ⟨by rw [k7, k5, t6], by omega⟩, by rw [e714, e12, k5]; omega, fun _ => ⟨by rw [k6]; omega, by rw [k8, lg_N_S1]⟩, fun w => ?_, fun g hg => ?_⟩, ⟨by rw [k4, e12], ?_, by omega⟩, k10, k11⟩
  · rw [eT 130 (by omega), k9, t1] at w
    split at w <;> omega
  · rw [e12] at hg
    have q := t11 g hg
    have q2 := t_le mn hg
    rw [e714, k10.1 261 g (by omega) (by omega) (by omega) (by omega) (by omega), k11.1 715 g (by omega) (by omega) (by omega) (by omega) (by omega) (by omega), lg_N_S (by omega)]
    exact q
  · rw [eT 130 (by omega), k9, t1]
    split <;> omega
theorem lg_T_end_g {Q c : Nat} {n : Int} {D : lg_D} {S T : ev_St} (hT : lg_T_g n D c c S T) (hn0 : n ≤ 511) (h1 : S.1 254 13 = S.1 254 12 ∧ T.1 621 131 = T.1 621 130 ∧ 0 < S.1 254 11) (hc : (c : Int) ≤ 810 * (n + 1)) (hs : dS D c ≤ 1600 * (n + 1)) : ∃ S' T', jm_3 Q S = some ((), S') ∧ jm_345 Q T = some ((), T') ∧ L2_g (n + 1) D S' T' ∧ (∀ g : Nat, (g : Int) < S'.1 254 13 → T'.1 714 g = (c : Int) ∨ ((g : Int) < S.1 254 12 ∧ T'.1 714 g = T.1 714 g)) ∧ (∀ k g, ¬ (k = 254 ∧ (g = 11 ∨ g = 12 ∨ g = 13)) → k ≠ 261 → S'.1 k g = S.1 k g) ∧ S'.2 = S.2 ∧ (∀ k g, ¬ (k = 621 ∧ (g = 126 ∨ g = 130 ∨ g = 131)) → k ≠ 714 → k ≠ 715 → T'.1 k g = T.1 k g) ∧ T'.2 = T.2 := by
  obtain ⟨hC, ⟨t1, t2, t3, t0⟩, ⟨t4, t5⟩, ⟨t6, t7⟩, t8, t9, t10, t11⟩ := hT
  obtain ⟨_, _, _, _, _, l4, l5, l6⟩ := sp_aln262
  have e9 := hC.2.1.1
  by_cases ho : S.1 254 14 = 0
  · refine ⟨ev_pI (ev_pI (ev_pI (ev_pI S 261 (S.1 254 12).toNat (S.1 254 11)) 254 11 0) 254 12 (S.1 254 12 + 1)) 254 13 (S.1 254 12 + 1), ev_pI (ev_pI (ev_pI (ev_pI (ev_pI T 714 (T.1 621 130).toNat (T.1 621 125)) 715 (T.1 621 130).toNat (T.1 621 128)) 621 130 (T.1 621 130 + 1)) 621 131 (T.1 621 130 + 1)) 621 126 0, ?_, ?_, ?_, fun g hg => ?_, fun k g a1 a2 => ?_, rfl, fun k g a1 a2 a3 => ?_, rfl⟩
    · unfold jm_3
      rw [sp_b, if_neg (by omega), sp_b, if_neg (by omega), sp_b, if_neg (by omega), sp_b, if_pos (by omega), sp_b, sp_b, sp_if (by rw [l6]; omega), sp_b, sp_b, sp_b, rd_nf (by omega), rd_nk (by omega), sp_ck (by omega), sp_b, sp_b, rd_eq, sp_b]
    · unfold jm_345
      rw [sp_b, if_neg (by omega)]
      unfold jm_344
      rw [sp_b, if_neg (by omega), sp_b, sp_b, sp_if (by rw [l4]; omega), sp_b, sp_b, rd_nk (by omega), sp_b, rd_nk (by omega), sp_if (by rw [l5]; omega), sp_b, sp_b, rd_nk (by omega), rd_nk (by omega), sp_ck (by omega), sp_b, sp_b, rd_eq, sp_b, sp_b, sp_bd]
    · obtain ⟨u1, u2⟩ := t9 (by omega)
      have sS : ∀ k g, ¬ (k = 254 ∧ (g = 11 ∨ g = 12 ∨ g = 13)) → k ≠ 261 → (ev_pI (ev_pI (ev_pI (ev_pI S 261 (S.1 254 12).toNat (S.1 254 11)) 254 11 0) 254 12 (S.1 254 12 + 1)) 254 13 (S.1 254 12 + 1)).1 k g = S.1 k g := fun k g a1 a2 => by
        rw [sp_pI1, if_neg (by omega), sp_pI1, if_neg (by omega), sp_pI1, if_neg (by omega), rd_nk a2]
      have sT : ∀ k g, ¬ (k = 621 ∧ (g = 126 ∨ g = 130 ∨ g = 131)) → k ≠ 714 → k ≠ 715 → (ev_pI (ev_pI (ev_pI (ev_pI (ev_pI T 714 (T.1 621 130).toNat (T.1 621 125)) 715 (T.1 621 130).toNat (T.1 621 128)) 621 130 (T.1 621 130 + 1)) 621 131 (T.1 621 130 + 1)) 621 126 0).1 k g = T.1 k g := fun k g a1 a2 a3 => by
        rw [sp_pI1, if_neg (by omega), sp_pI1, if_neg (by omega), sp_pI1, if_neg (by omega), rd_nk a3, rd_nk a2]
      have v261 : ∀ g, (ev_pI (ev_pI (ev_pI (ev_pI S 261 (S.1 254 12).toNat (S.1 254 11)) 254 11 0) 254 12 (S.1 254 12 + 1)) 254 13 (S.1 254 12 + 1)).1 261 g = if g = (S.1 254 12).toNat then S.1 254 11 else S.1 261 g := fun g => by
        rw [rd_nk (by omega), rd_nk (by omega), rd_nk (by omega), sp_pI1]
        simp
      have v714 : ∀ g, (ev_pI (ev_pI (ev_pI (ev_pI (ev_pI T 714 (T.1 621 130).toNat (T.1 621 125)) 715 (T.1 621 130).toNat (T.1 621 128)) 621 130 (T.1 621 130 + 1)) 621 131 (T.1 621 130 + 1)) 621 126 0).1 714 g = if g = (S.1 254 12).toNat then (c : Int) else T.1 714 g := fun g => by
        rw [rd_nk (by omega), rd_nk (by omega), rd_nk (by omega), rd_nk (by omega), sp_pI1, t1, u1]
        simp
      have v715 : ∀ g, (ev_pI (ev_pI (ev_pI (ev_pI (ev_pI T 714 (T.1 621 130).toNat (T.1 621 125)) 715 (T.1 621 130).toNat (T.1 621 128)) 621 130 (T.1 621 130 + 1)) 621 131 (T.1 621 130 + 1)) 621 126 0).1 715 g = if g = (S.1 254 12).toNat then dS D c else T.1 715 g := fun g => by
        rw [rd_nk (by omega), rd_nk (by omega), rd_nk (by omega), sp_pI1, rd_nk (by omega), t1, u2]
        simp
      have vs : (ev_pI (ev_pI (ev_pI (ev_pI S 261 (S.1 254 12).toNat (S.1 254 11)) 254 11 0) 254 12 (S.1 254 12 + 1)) 254 13 (S.1 254 12 + 1)).1 254 11 = 0 ∧ (ev_pI (ev_pI (ev_pI (ev_pI S 261 (S.1 254 12).toNat (S.1 254 11)) 254 11 0) 254 12 (S.1 254 12 + 1)) 254 13 (S.1 254 12 + 1)).1 254 12 = S.1 254 12 + 1 ∧ (ev_pI (ev_pI (ev_pI (ev_pI S 261 (S.1 254 12).toNat (S.1 254 11)) 254 11 0) 254 12 (S.1 254 12 + 1)) 254 13 (S.1 254 12 + 1)).1 254 13 = S.1 254 12 + 1 := ⟨by rw [rd_nf (by omega), rd_nf (by omega), rd_eq], by rw [rd_nf (by omega), rd_eq], rd_eq⟩
      have vt : (ev_pI (ev_pI (ev_pI (ev_pI (ev_pI T 714 (T.1 621 130).toNat (T.1 621 125)) 715 (T.1 621 130).toNat (T.1 621 128)) 621 130 (T.1 621 130 + 1)) 621 131 (T.1 621 130 + 1)) 621 126 0).1 621 126 = 0 ∧ (ev_pI (ev_pI (ev_pI (ev_pI (ev_pI T 714 (T.1 621 130).toNat (T.1 621 125)) 715 (T.1 621 130).toNat (T.1 621 128)) 621 130 (T.1 621 130 + 1)) 621 131 (T.1 621 130 + 1)) 621 126 0).1 621 130 = S.1 254 12 + 1 ∧ (ev_pI (ev_pI (ev_pI (ev_pI (ev_pI T 714 (T.1 621 130).toNat (T.1 621 125)) 715 (T.1 621 130).toNat (T.1 621 128)) 621 130 (T.1 621 130 + 1)) 621 131 (T.1 621 130 + 1)) 621 126 0).1 621 131 = S.1 254 12 + 1 := ⟨rd_eq, by rw [rd_nf (by omega), rd_nf (by omega), rd_eq, t1], by rw [rd_nf (by omega), rd_eq, t1]⟩
      have hC2 : lg_C_g D c c (ev_pI (ev_pI (ev_pI (ev_pI S 261 (S.1 254 12).toNat (S.1 254 11)) 254 11 0) 254 12 (S.1 254 12 + 1)) 254 13 (S.1 254 12 + 1)) (ev_pI (ev_pI (ev_pI (ev_pI (ev_pI T 714 (T.1 621 130).toNat (T.1 621 125)) 715 (T.1 621 130).toNat (T.1 621 128)) 621 130 (T.1 621 130 + 1)) 621 131 (T.1 621 130 + 1)) 621 126 0) := lg_C_c_g hC (fun k g hk => sS k g (by omega) (by omega)) rfl rfl (fun k g hk => sT k g (by omega) (by omega) (by omega))
      generalize ev_pI (ev_pI (ev_pI (ev_pI S 261 (S.1 254 12).toNat (S.1 254 11)) 254 11 0) 254 12 (S.1 254 12 + 1)) 254 13 (S.1 254 12 + 1) = S' at *
      generalize ev_pI (ev_pI (ev_pI (ev_pI (ev_pI T 714 (T.1 621 130).toNat (T.1 621 125)) 715 (T.1 621 130).toNat (T.1 621 128)) 621 130 (T.1 621 130 + 1)) 621 131 (T.1 621 130 + 1)) 621 126 0 = T' at *
      obtain ⟨y1, y2, y3⟩ := vs
      obtain ⟨z1, z2, z3⟩ := vt
      have bs : ∀ d : Int, 0 ≤ d → d ≤ S.1 254 12 → sp_bs (T'.1 714) d = sp_bs (T.1 714) d := fun d d0 d1 => sp_bs_c (m := (S.1 254 12).toNat) (fun i hi => by rw [v714, if_neg hi]) d0 (by omega)
      have b1 : sp_bs (T'.1 714) (S.1 254 12 + 1) = (c : Int) := by
        unfold sp_bs
        rw [if_neg (by omega), v714, if_pos (by omega)]
      have e9' : S'.1 254 9 = (c : Int) := by rw [sS 254 9 (by omega) (by omega), e9]
      have e14' : S'.1 254 14 = 0 := by rw [sS 254 14 (by omega) (by omega), ho]
      unfold L2_g
      rw [y1, y2, y3, z1, z2, z3, b1, e9', e14', sT 621 132 (by omega) (by omega) (by omega), sT 621 125 (by omega) (by omega) (by omega), sT 621 128 (by omega) (by omega) (by omega), t4, ho, Int.toNat_natCast]
      refine ⟨⟨rfl, rfl, rfl, rfl⟩, ⟨by omega, by omega, by omega, by omega, Or.inl rfl⟩, fun _ => rfl, fun w => by omega, by omega, fun g hg => ?_, c, by rw [if_pos rfl], hC2, hc, hs, u1, u2⟩
      rw [v714, v715, v261, bs g (by omega) (by omega)]
      by_cases e : g = (S.1 254 12).toNat
      · rw [if_pos e, if_pos e, if_pos e, e, Int.toNat_natCast, show (((S.1 254 12).toNat : Nat) : Int) = S.1 254 12 from by omega]
        exact ⟨t8, t7, rfl⟩
      · rw [if_neg e, if_neg e, if_neg e]
        exact t11 g (by omega)
    · rw [rd_eq] at hg
      rw [rd_nk (by omega), rd_nk (by omega), rd_nk (by omega), rd_nk (by omega), sp_pI1, t1, (t9 (by omega)).1]
      by_cases e : g = (S.1 254 12).toNat
      · rw [if_pos ⟨rfl, e⟩]
        exact Or.inl rfl
      · rw [if_neg (fun z => e z.2)]
        exact Or.inr ⟨by omega, rfl⟩
    · rw [sp_pI1, if_neg (by omega), sp_pI1, if_neg (by omega), sp_pI1, if_neg (by omega), rd_nk a2]
    · rw [sp_pI1, if_neg (by omega), sp_pI1, if_neg (by omega), sp_pI1, if_neg (by omega), rd_nk a3, rd_nk a2]
  · refine ⟨S, T, ?_, ?_, ?_, fun g hg => Or.inr ⟨by omega, rfl⟩, fun _ _ _ _ => rfl, rfl, fun _ _ _ _ _ => rfl, rfl⟩
    · unfold jm_3
      rw [sp_b, if_pos ho]
    · unfold jm_345
      rw [sp_b, if_pos (by omega)]
    · obtain ⟨u1, u2⟩ := t9 (by omega)
      unfold L2_g
      rw [e9, Int.toNat_natCast]
      exact ⟨⟨t1, by omega, t4, t6⟩, ⟨t2, by omega, by omega, t7, t5⟩, fun w => absurd w ho, fun _ => ⟨by omega, by omega⟩, t8, fun g hg => t11 g (by omega), c, by rw [if_pos (by omega)], hC, hc, hs, u1, u2⟩
theorem lg_T_c_g {n : Int} {D : lg_D} {E c : Nat} {S T S2 T2 : ev_St} (h : lg_T_g n D E c S T) (hS : ∀ k g, (k = 254 ∧ (g = 4 ∨ (9 ≤ g ∧ g ≤ 14))) ∨ (256 ≤ k ∧ k ≤ 258) ∨ k = 261 ∨ (263 ≤ k ∧ k ≤ 268) ∨ 724 ≤ k → S2.1 k g = S.1 k g) (hR : S2.2.2.1 = S.2.2.1) (hN : ev_sN S2 = ev_sN S) (hT : ∀ k g, 707 ≤ k ∧ k ≤ 715 ∨ (k = 621 ∧ (g = 121 ∨ (125 ≤ g ∧ g ≤ 132))) → T2.1 k g = T.1 k g) : lg_T_g n D E c S2 T2 := by
  obtain ⟨hC, t1, t4, t6, t8, t9, t10, t11⟩ := h
  have e714 : T2.1 714 = T.1 714 := funext fun g => hT 714 g (by omega)
  unfold lg_T_g
  rw [e714, hS 254 11 (by omega), hS 254 12 (by omega), hS 254 14 (by omega), hT 621 130 (by omega), hT 621 131 (by omega), hT 621 132 (by omega), hT 621 126 (by omega), hT 621 125 (by omega), hT 621 128 (by omega)]
  refine ⟨lg_C_c_g hC (fun k g hk => hS k g (by omega)) hR hN (fun k g hk => hT k g (by omega)), t1, t4, t6, t8, t9, t10, fun g hg => ?_⟩
  rw [hS 261 g (by omega), hT 715 g (by omega)]
  exact t11 g hg
section OPSI
variable {Q L j : Nat} {xs : Nat → Int32} {S : ev_St} {n : Int} {D : lg_D}
theorem LG_no2_g {c d : Int} (hG : LG_g n D S) : LG_g n D (ev_pI (ev_pI (ev_tick S) 621 0 c) 621 0 d) := by
  have := L2_c_g (L2_of_g (LG_no_g (c := c) hG)) (S2 := ev_pI (ev_pI (ev_tick S) 621 0 c) 621 0 d) (T2 := ev_pI (ev_pI (ev_tick S) 621 0 c) 621 0 d) (fun k g hk => if_neg (by omega)) rfl rfl (fun k g hk => if_neg (by omega))
  exact LG_of_g this
theorem op_17_g (hQ : 1000000 ≤ Q) (hn : 0 ≤ n ∧ n ≤ 511) (hD : sp_DR S) (hG : LG_g n D S) (h8 : B8 D S S) (hL : L ≤ 3072) (hj : j + 6 ≤ L) : ∃ D' S2, (∀ K, ja_1308 Q L xs (j : Int) K S = K S2) ∧ sp_DR S2 ∧ LG_g (n + 1) D' S2 ∧ B8 D' S2 S2 ∧ sp_G sp_We S S2 := by
  generalize hA : (xs (Int.toNat ((j : Int) + 1))).toInt = a
  have wG : ∀ {c d : Int}, sp_G sp_We S (ev_pI (ev_pI (ev_tick S) 621 0 c) 621 0 d) := fun {c d} => by
    have q := sp_G_of (sp_F_no2 (S := S) (c := c) (d := d))
    exact ⟨fun b g h1 w => q.1 b g h1 (by unfold sp_Wc; unfold sp_We at w; omega), q.2⟩
  have mono : ∀ {U : ev_St}, LG_g n D U → LG_g (n + 1) D U := fun {U} h => LG_of_g (L2_mono_g (by omega) (L2_of_g h))
  by_cases hb : 0 ≤ a ∧ a < 3
  · by_cases h80 : S.1 1 1 ≤ 80
    · obtain ⟨d1, d2, d3, d4⟩ := hD
      obtain ⟨b, eb⟩ : ∃ b : Nat, a = (b : Int) := ⟨a.toNat, by omega⟩
      subst eb
      obtain ⟨E, hE1, hE2, hT⟩ := lg_T_of_g (L2_of_g hG)
      have hT0 := hT
      have hcE := hT.1.1
      have eL := hT.1.2.1.2.2 b (by omega)
      have hB := hT.1.2.2.2.1 b (by omega)
      have hdc := lg_mono2 hT.1.2.2.2.2.2.1 hcE (Nat.le_refl _)
      have l80 := h8.1 b (by omega)
      generalize hc : (S.1 254 9).toNat = c at *
      have aln2 : ev_aln 2 = 160 := by decide +kernel
      -- both sides, whatever the reference's state is
      have key : ∀ T : ev_St, (∀ k g, (621 ≤ k ∧ k ≤ 722) → ¬ (k = 621 ∧ g = 0) → T.1 k g = S.1 k g) → ∃ S1 S' T1 T', jm_4 Q (b : Int) 0 (S.1 (263 + 2 * b) 1) (2 + 1) 0 (S.1 1 1) S = some ((), S1) ∧ jm_3 Q S1 = some ((), S') ∧ jm_343 Q (b : Int) 0 (S.1 (263 + 2 * b) 1) 0 (S.1 1 1) 1 T = some ((), T1) ∧ jm_345 Q (ev_pI T1 621 1 0) = some ((), T') ∧ L2_g (n + 1) (lg_N D c b 0 (S.1 (263 + 2 * b) 1) (S.1 1 1)) S' T' ∧ B8 (lg_N D c b 0 (S.1 (263 + 2 * b) 1) (S.1 1 1)) S' T' ∧ S'.1 (263 + 2 * b) 1 = S.1 1 1 ∧ T'.1 707 b = S.1 1 1 ∧ (∀ k g, k < 724 → ¬ (sp_We k g ∧ k < 621) → S'.1 k g = S.1 k g) ∧ (S'.1 1 1 = S.1 1 1) ∧ S'.2.1 = S.2.1 ∧ (∀ c j, c ≠ 259 → c ≠ 260 → S'.2.2.1 c j = S.2.2.1 c j) ∧ (ev_sC S' + ev_sN S = ev_sC S + ev_sN S' ∧ ev_sZ S' + 1024 * ev_sN S = ev_sZ S + 1024 * ev_sN S') ∧ (∀ k g, ¬ (sp_We k g ∧ 621 ≤ k) → T'.1 k g = T.1 k g) ∧ T'.1 621 0 = T.1 621 0 ∧ T'.1 621 1 = 0 ∧ T'.2 = T.2 := fun T hT' => by
        have hT2 : lg_T_g n D E c S T := lg_T_c_g hT0 (fun _ _ _ => rfl) rfl rfl (fun k g hk => hT' k g (by omega) (by omega))
        obtain ⟨S1, T1, k1, k2, k3, ⟨k4, k5, k6⟩, k7, k8⟩ := lg_T_edit_g (Q := Q) (b := b) (k := 2) (f := 0) (r := S.1 (263 + 2 * b) 1) (off := 0) (i := S.1 1 1) (fr := 0) (isD := 1) (y := fun g => S.1 2 g) (by omega) hT2 (by omega) (by omega) (by omega) ⟨hB.1, l80⟩ ⟨d1, h80⟩ (by omega) (by omega) (by omega) (by omega) (by rw [aln2]; omega) (fun g hg => ⟨by rw [show (0 + (g : Int)).toNat = g from by omega], (sp_sign_r (d4 g hg).2).1, (sp_sign_r (d4 g hg).2).2, (d4 g hg).2⟩) (Or.inr ⟨rfl, by omega, fun g hg => by rw [hT' 622 g (by omega) (by omega)]; exact (d4 g hg).1⟩) (by omega) (by omega)
        rw [show (0 : Int) + S.1 (263 + 2 * b) 1 = S.1 (263 + 2 * b) 1 from by omega] at k2
        have k3' := lg_T_c_g k3 (S2 := S1) (T2 := ev_pI T1 621 1 0) (fun _ _ _ => rfl) rfl rfl (fun k g hk => if_neg (by omega))
        obtain ⟨S', T', m1, m2, m3, m8, m4, m5, m6, m7⟩ := lg_T_end_g (Q := Q) k3' (by omega) ⟨k4, by rw [rd_nf (by omega), rd_nf (by omega)]; omega, k6⟩ (by omega) (by rw [lg_N_S1]; omega)
        have q1 : S'.1 (263 + 2 * b) 1 = S.1 1 1 := by
          have := k3.1.2.1.2.2 b (by omega)
          rw [m4 _ _ (by omega) (by omega), this]
          have e : dL (lg_N D c b 0 (S.1 (263 + 2 * b) 1) (S.1 1 1)) (c + 1) b = dL D c b + (S.1 1 1 - S.1 (263 + 2 * b) 1) := (if_pos rfl).trans (if_pos rfl)
          rw [e, ← eL]
          omega
        have v714 : T1.1 714 = S.1 714 := funext fun g => by
          rw [k8.1 714 g (by omega) (by omega) (by omega) (by omega) (by omega) (by omega), hT' 714 g (by omega) (by omega)]
        have dl : ∀ b', b' < 3 → dL (lg_N D c b 0 (S.1 (263 + 2 * b) 1) (S.1 1 1)) (c + 1) b' ≤ 80 := fun b' hb' => by
          have e : dL (lg_N D c b 0 (S.1 (263 + 2 * b) 1) (S.1 1 1)) (c + 1) b' = if b' = b then dL D c b' + (S.1 1 1 - S.1 (263 + 2 * b) 1) else dL D c b' := if_pos rfl
          have e2 := hT0.1.2.1.2.2 b' hb'
          have e3 := h8.1 b' hb'
          rw [e]
          split
          · next h => rw [h, ← eL]; omega
          · omega
        have b8 : B8 (lg_N D c b 0 (S.1 (263 + 2 * b) 1) (S.1 1 1)) S' T' := by
          refine ⟨fun b' hb' => ?_, fun b' hb' => ?_, fun g hg b' hb' => ?_⟩
          · rw [m4 _ _ (by omega) (by omega), k3.1.2.1.2.2 b' hb']
            exact dl b' hb'
          · have e : dL (lg_N D c b 0 (S.1 (263 + 2 * b) 1) (S.1 1 1)) 0 b' = dL D 0 b' := lg_N_L (by omega)
            rw [e]
            exact h8.2.1 b' hb'
          · rcases m8 g hg with e | ⟨e1, e2⟩
            · rw [e, Int.toNat_natCast]
              exact dl b' hb'
            · have mn : ∀ g : Nat, (g : Int) < S.1 254 12 → S.1 714 g = sp_bs (S.1 714) g + S.1 261 g ∧ 0 ≤ S.1 261 g := fun g hg => ⟨(hT0.2.2.2.2.2.2.2 g hg).1, (hT0.2.2.2.2.2.2.2 g hg).2.1⟩
              have e12 : S1.1 254 12 = S.1 254 12 := k7.2.1
              have q2 := t_le mn (g := g) (by omega)
              have q3 := hT0.2.2.2.2.1
              have q4 := hT0.2.2.2.1.2
              rw [e2, rd_nk (by omega), v714]
              have e : dL (lg_N D c b 0 (S.1 (263 + 2 * b) 1) (S.1 1 1)) (S.1 714 g).toNat b' = dL D (S.1 714 g).toNat b' := if_neg (by omega)
              rw [e]
              have q5 := hG.1.2.1.2.1
              exact h8.2.2 g (by omega) b' hb'
        refine ⟨S1, S', T1, T', k1, m1, k2, m2, m3, b8, q1, ?_, fun k g h1 h2 => ?_, ?_, ?_, fun c j h1 h2 => ?_, ?_, fun k g h1 => ?_, ?_, ?_, ?_⟩
        · have w := (k3.1.2.2.2.1 b (by omega)).2.2.1
          rw [m6 707 b (by omega) (by omega) (by omega), rd_nk (by omega), w, ← q1, m4 _ _ (by omega) (by omega)]
        · unfold sp_We at h2
          rw [m4 k g (by omega) (by omega), k7.1 k g h1 (by omega) (by omega) (by omega) (by omega)]
        · rw [m4 1 1 (by omega) (by omega), k7.1 1 1 (by omega) (by omega) (by omega) (by omega) (by omega)]
        · rw [m5, k7.2.2.1]
        · rw [m5, k7.2.2.2.1 c j h1 h2]
        · unfold ev_sC ev_sN ev_sZ
          rw [m5]
          exact k7.2.2.2.2
        · unfold sp_We at h1
          rw [m6 k g (by omega) (by omega) (by omega), sp_pI1, if_neg (by omega), k8.1 k g (by omega) (by omega) (by omega) (by omega) (by omega) (by omega)]
        · rw [m6 621 0 (by omega) (by omega) (by omega), rd_nf (by omega), k8.1 621 0 (by omega) (by omega) (by omega) (by omega) (by omega) (by omega)]
        · rw [m6 621 1 (by omega) (by omega) (by omega), rd_eq]
        · rw [m7]
          exact k8.2
      have hin : (if 0 ≤ (b : Int) ∧ (b : Int) < 3 then 263 + 2 * (b : Int).toNat + 1 else 0) = 263 + 2 * b + 1 := by
        rw [if_pos ⟨by omega, by omega⟩, Int.toNat_natCast]
      have cls : ∀ S1 S', jm_4 Q (b : Int) 0 (S.1 (263 + 2 * b) 1) (2 + 1) 0 (S.1 1 1) S = some ((), S1) → jm_3 Q S1 = some ((), S') → S'.1 (263 + 2 * b) 1 = S.1 1 1 → jm_183 Q (b : Int) S = some (.inl (S.1 1 1), ev_pI S' 1 1 0) := fun S1 S' a1 a2 a3 => by
        unfold jm_183
        rw [sp_1, sp_bd, hin, if_neg (by omega), sp_b, if_pos h80, sp_b, sp_b, show 263 + 2 * b + 1 - 1 = 263 + 2 * b from rfl, a1, sp_bd, a2, sp_bd, sp_b, sp_b, rd_nk (by omega), a3]
      obtain ⟨S1, S', _, _, p1, p2, _, _, _, _, p5, _, p6, p7, p8, p9, p10, _, _, _, _⟩ := key S (fun _ _ _ _ => rfl)
      have fT : ∀ k g, 621 ≤ k ∧ k ≤ 722 → ¬ (k = 621 ∧ g = 0) → (ev_pI (ev_pL (ev_pI S' 1 1 0) 723 0 (ev_i2l (S.1 1 1))) 621 0 0).1 k g = S.1 k g := fun k g h1 h2 => by
        rw [sp_pI1, if_neg (by omega), sp_pL1, rd_nk (by omega), p6 k g (by omega) (by omega)]
      obtain ⟨S1', S'', T1, T', q1, q2, q3, q4, q5, q5b, _, q6, q7, _, _, _, _, q8, q9, q10, q11⟩ := key (ev_pI (ev_pL (ev_pI S' 1 1 0) 723 0 (ev_i2l (S.1 1 1))) 621 0 0) fT
      have e1 : S1' = S1 := by
        rw [p1] at q1
        injection q1 with q
        injection q with _ q
        exact q.symm
      subst e1
      have e2 : S'' = S' := by
        rw [p2] at q2
        injection q2 with q
        injection q with _ q
        exact q.symm
      subst e2
      -- the class's cells of the last state
      have cT : ∀ k g, k < 621 ∨ 724 ≤ k → ¬ (k = 1 ∧ g = 1) → T'.1 k g = S''.1 k g := fun k g h1 h2 => by
        rw [q8 k g (by unfold sp_We; omega), sp_pI1, if_neg (by omega), sp_pL1, sp_pI1, if_neg h2]
      have t1 : T'.1 1 1 = 0 := by
        rw [q8 1 1 (by omega), rd_nk (by omega), sp_pL1, rd_eq]
      have r2T : T'.2.2 = S''.2.2 := by rw [q11]; rfl
      refine ⟨lg_N D c b 0 (S.1 (263 + 2 * b) 1) (S.1 1 1), T', fun K => la_17 (c := 0) (b := S.1 1 1) hL hj (by rw [hA]; exact lw_17_ok _ (cls S1' S'' p1 p2 p5)) ?_ (by rw [q9, rd_eq]) (fun _ => by rw [q11]; exact rd_L), ?_, ?_, ?_, ?_⟩
      · rw [hA]
        unfold jm_346
        rw [sp_b, sp_325, sp_bd, sp_in_1 hb, if_pos (by decide), sp_b, fT 621 1 (by omega) (by omega), d3, if_pos h80, sp_if (by rw [sp_aln707]; omega), sp_b, sp_b, Int.toNat_natCast, fT 707 b (by omega) (by omega), hB.2.2.1, q3, sp_bd, sp_b, q4, sp_bd, sp_if (by rw [sp_aln707]; omega), sp_b, q6]
      · refine ⟨by omega, by omega, by rw [q10, t1], fun g hg => by omega⟩
      · exact LG_of_g (L2_c_g q5 (fun k g hk => cT k g (by omega) (by omega)) (by rw [r2T]) (by unfold ev_sN; rw [r2T]) (fun _ _ _ => rfl))
      · exact B8_c q5b (fun b hb => cT _ _ (by omega) (by omega)) (cT _ _ (by omega) (by omega)) (fun _ => rfl)
      · refine ⟨fun k g h1 h2 => ?_, fun k g h1 => ?_, fun k g h1 h2 => ?_, ?_, ?_⟩
        · by_cases e : k < 621
          · unfold sp_We at h2
            rw [cT k g (by omega) (by omega), p6 k g h1 (by unfold sp_We; omega)]
          · by_cases e3 : k = 723
            · subst e3
              rw [q8 723 g (by unfold sp_We; omega), rd_nk (by omega), sp_pL1, rd_nk (by omega), p6 723 g (by omega) (by omega)]
            · rw [q8 k g (fun z => h2 z.1)]
              unfold sp_We at h2
              rw [fT k g (by omega) (by omega)]
        · rw [q11]
          show (ev_pL (ev_pI S'' 1 1 0) 723 0 (ev_i2l (S.1 1 1))).2.1 k g = _
          rw [sp_pL2, if_neg (fun z => h1 z.1)]
          show S''.2.1 k g = _
          rw [p8]
        · rw [r2T, p9 k g h1 h2]
        · unfold ev_sC ev_sN at p10 ⊢
          rw [r2T]
          omega
        · unfold ev_sZ ev_sN at p10 ⊢
          rw [r2T]
          omega
    · refine ⟨D, _, fun K => la_17 (c := 2) (b := 0) hL hj (by rw [hA]; exact lw_17_x1 a (sp_183_full hb h80)) (by rw [hA]; exact sp_346_full (S := ev_tick S) hb (by rw [sp_tick1, hD.2.2.1]; exact h80)) rd_eq (fun q => by cases q), DR_no2 hD, mono (LG_no2_g hG), B8_c h8 (fun b hb => (if_neg (by omega)).trans (if_neg (by omega))) rfl (fun g => rfl), wG⟩
  · refine ⟨D, _, fun K => la_17 (c := 1) (b := 0) hL hj (by rw [hA]; exact lw_17_x0 a (sp_183_no hb)) (by rw [hA]; exact sp_346_no (S := ev_tick S) hb) rd_eq (fun q => by cases q), DR_no2 hD, mono (LG_no2_g hG), B8_c h8 (fun b hb => (if_neg (by omega)).trans (if_neg (by omega))) rfl (fun g => rfl), wG⟩
end OPSI
