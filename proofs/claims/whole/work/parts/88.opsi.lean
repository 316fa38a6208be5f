/-! FILL -/
theorem lg_N_L {D : lg_D} {c b k b' : Nat} {f r i : Int} (h : k ≠ c + 1) : dL (lg_N D c b f r i) k b' = dL D k b' := if_neg h
theorem lg_T_c {n : Int} {D : lg_D} {E c : Nat} {S T S2 T2 : ev_St} (h : lg_T n D E c S T) (hS : ∀ k g, (k = 254 ∧ (g = 4 ∨ (9 ≤ g ∧ g ≤ 14))) ∨ (256 ≤ k ∧ k ≤ 258) ∨ k = 261 ∨ (263 ≤ k ∧ k ≤ 268) ∨ 724 ≤ k → S2.1 k g = S.1 k g) (hR : S2.2.2.1 = S.2.2.1) (hN : ev_sN S2 = ev_sN S) (hT : ∀ k g, 707 ≤ k ∧ k ≤ 715 ∨ (k = 621 ∧ (g = 121 ∨ (125 ≤ g ∧ g ≤ 132))) → T2.1 k g = T.1 k g) : lg_T n D E c S2 T2 := by
  obtain ⟨hC, t1, t4, t6, t8, t9, t10, t11⟩ := h
  have e714 : T2.1 714 = T.1 714 := funext fun g => hT 714 g (by omega)
  unfold lg_T
  rw [e714, hS 254 11 (by omega), hS 254 12 (by omega), hS 254 14 (by omega), hT 621 130 (by omega), hT 621 131 (by omega), hT 621 132 (by omega), hT 621 126 (by omega), hT 621 125 (by omega), hT 621 128 (by omega)]
  refine ⟨lg_C_c hC (fun k g hk => hS k g (by omega)) hR hN (fun k g hk => hT k g (by omega)), t1, t4, t6, t8, t9, t10, fun g hg => ?_⟩
  rw [hS 261 g (by omega), hT 715 g (by omega)]
  exact t11 g hg
/-- no buffer has more than 80 signs between calls -/
def B8 (D : lg_D) (S T : ev_St) : Prop := (∀ b, b < 3 → S.1 (263 + 2 * b) 1 ≤ 80) ∧ (∀ b, b < 3 → dL D 0 b ≤ 80) ∧ ∀ g : Nat, (g : Int) < S.1 254 13 → ∀ b, b < 3 → dL D (T.1 714 g).toNat b ≤ 80
theorem B8_c {D : lg_D} {S T S2 T2 : ev_St} (h : B8 D S T) (h1 : ∀ b, b < 3 → S2.1 (263 + 2 * b) 1 = S.1 (263 + 2 * b) 1) (h2 : S2.1 254 13 = S.1 254 13) (h3 : ∀ g, T2.1 714 g = T.1 714 g) : B8 D S2 T2 :=
  ⟨fun b hb => by rw [h1 b hb]; exact h.1 b hb, h.2.1, fun g hg b hb => by rw [h3]; rw [h2] at hg; exact h.2.2 g hg b hb⟩
/-- a frame that lets rows of the log be made -/
def sp_G (W : Nat → Nat → Prop) (S S2 : ev_St) : Prop := (∀ b g, b < 724 → ¬ W b g → S2.1 b g = S.1 b g) ∧ (∀ b g, b ≠ 723 → S2.2.1 b g = S.2.1 b g) ∧ (∀ b g, b ≠ 259 → b ≠ 260 → S2.2.2.1 b g = S.2.2.1 b g) ∧ ev_sC S2 + ev_sN S ≤ ev_sC S + ev_sN S2 + 1 ∧ ev_sZ S2 + 1024 * ev_sN S ≤ ev_sZ S + 1024 * ev_sN S2 + 6
theorem sp_G_of {W : Nat → Nat → Prop} {S S2 : ev_St} (h : sp_F W S S2) : sp_G W S S2 := by
  obtain ⟨h1, h2, h3, h4, h5, h6, h7⟩ := h
  refine ⟨fun b g _ w => h1 b g w, h2, fun b g _ _ => by rw [h3], ?_, ?_⟩
  · unfold ev_sC ev_sN
    omega
  · unfold ev_sZ ev_sN
    omega
def sp_We (b g : Nat) : Prop := (b = 1 ∧ g = 1) ∨ (b = 621 ∧ (g = 0 ∨ g = 1 ∨ g = 125 ∨ g = 126 ∨ g = 128 ∨ g = 130 ∨ g = 131)) ∨ (b = 254 ∧ 9 ≤ g ∧ g ≤ 13) ∨ b = 258 ∨ (261 ≤ b ∧ b ≤ 268) ∨ b = 707 ∨ b = 708 ∨ b = 710 ∨ (712 ≤ b ∧ b ≤ 715)
theorem sp_sign_r {x : Int} (h : sp_sign x = 1) : 0 ≤ x ∧ x < 127 := by
  unfold sp_sign at h
  split at h <;> omega
theorem sp_183_no {Q : Nat} {a : Int} {S : ev_St} (h : ¬ (0 ≤ a ∧ a < 3)) : jm_183 Q a S = some (.inr "java/lang/IndexOutOfBoundsException", ev_tick S) := by
  unfold jm_183
  rw [sp_1, sp_bd, if_neg h, if_pos rfl]
theorem sp_183_full {Q : Nat} {a : Int} {S : ev_St} (h : 0 ≤ a ∧ a < 3) (h2 : ¬ S.1 1 1 ≤ 80) : jm_183 Q a S = some (.inr "java/lang/IllegalStateException", ev_tick S) := by
  unfold jm_183
  rw [sp_1, sp_bd, if_pos h, if_neg (by omega), sp_b, if_neg h2]
theorem sp_346_no {Q : Nat} {a : Int} {S : ev_St} (h : ¬ (0 ≤ a ∧ a < 3)) : jm_346 Q a S = some (0, ev_pI (ev_pI S 621 0 0) 621 0 1) := by
  unfold jm_346
  rw [sp_b, sp_325, sp_bd, sp_in_0 h, if_neg (fun z => z rfl)]
  rfl
theorem sp_346_full {Q : Nat} {a : Int} {S : ev_St} (h : 0 ≤ a ∧ a < 3) (h2 : ¬ S.1 621 1 ≤ 80) : jm_346 Q a S = some (0, ev_pI (ev_pI S 621 0 0) 621 0 2) := by
  unfold jm_346
  rw [sp_b, sp_325, sp_bd, sp_in_1 h, if_pos (by decide), sp_b, rd_nf (by omega), if_neg h2]
  rfl
section OPSI
variable {Q L j : Nat} {xs : Nat → Int32} {S : ev_St} {n : Int} {D : lg_D}
theorem LG_no2 {c d : Int} (hG : LG n D S) : LG n D (ev_pI (ev_pI (ev_tick S) 621 0 c) 621 0 d) := by
  have := L2_c (L2_of (LG_no (c := c) hG)) (S2 := ev_pI (ev_pI (ev_tick S) 621 0 c) 621 0 d) (T2 := ev_pI (ev_pI (ev_tick S) 621 0 c) 621 0 d) (fun k g hk => if_neg (by omega)) rfl rfl (fun k g hk => if_neg (by omega))
  exact LG_of this
theorem DR_no2 {c d : Int} (hD : sp_DR S) : sp_DR (ev_pI (ev_pI (ev_tick S) 621 0 c) 621 0 d) := sp_DR_F hD (sp_F_no2 (c := c) (d := d)) (by unfold sp_Wc; omega) (by unfold sp_Wc; omega) (fun g => by unfold sp_Wc; omega) (fun g => by unfold sp_Wc; omega)
theorem op_17 (hQ : 1000000 ≤ Q) (hn : 0 ≤ n ∧ n ≤ 511) (hD : sp_DR S) (hG : LG n D S) (h8 : B8 D S S) (hL : L ≤ 3072) (hj : j + 6 ≤ L) : ∃ D' S2, (∀ K, ja_1308 Q L xs (j : Int) K S = K S2) ∧ sp_DR S2 ∧ LG (n + 1) D' S2 ∧ B8 D' S2 S2 ∧ sp_G sp_We S S2 := by
  generalize hA : (xs (Int.toNat ((j : Int) + 1))).toInt = a
  have wG : ∀ {c d : Int}, sp_G sp_We S (ev_pI (ev_pI (ev_tick S) 621 0 c) 621 0 d) := fun {c d} => by
    have q := sp_G_of (sp_F_no2 (S := S) (c := c) (d := d))
    exact ⟨fun b g h1 w => q.1 b g h1 (by unfold sp_Wc; unfold sp_We at w; omega), q.2⟩
  have mono : ∀ {U : ev_St}, LG n D U → LG (n + 1) D U := fun {U} h => LG_of (L2_mono (by omega) (L2_of h))
  by_cases hb : 0 ≤ a ∧ a < 3
  · by_cases h80 : S.1 1 1 ≤ 80
    · obtain ⟨d1, d2, d3, d4⟩ := hD
      obtain ⟨b, eb⟩ : ∃ b : Nat, a = (b : Int) := ⟨a.toNat, by omega⟩
      subst eb
      obtain ⟨E, hE1, hE2, hT⟩ := lg_T_of (L2_of hG)
      have hT0 := hT
      have hcE := hT.1.1
      have eL := hT.1.2.1.2.2 b (by omega)
      have hB := hT.1.2.2.2.1 b (by omega)
      have hdc := lg_mono2 hT.1.2.2.2.2.2.1 hcE (Nat.le_refl _)
      have l80 := h8.1 b (by omega)
      generalize hc : (S.1 254 9).toNat = c at *
      have aln2 : ev_aln 2 = 160 := by decide +kernel
      -- both sides, whatever the reference's state is
      have key : ∀ T : ev_St, (∀ k g, (621 ≤ k ∧ k ≤ 722) → ¬ (k = 621 ∧ g = 0) → T.1 k g = S.1 k g) → ∃ S1 S' T1 T', jm_4 Q (b : Int) 0 (S.1 (263 + 2 * b) 1) (2 + 1) 0 (S.1 1 1) S = some ((), S1) ∧ jm_3 Q S1 = some ((), S') ∧ jm_343 Q (b : Int) 0 (S.1 (263 + 2 * b) 1) 0 (S.1 1 1) 1 T = some ((), T1) ∧ jm_345 Q (ev_pI T1 621 1 0) = some ((), T') ∧ L2 (n + 1) (lg_N D c b 0 (S.1 (263 + 2 * b) 1) (S.1 1 1)) S' T' ∧ B8 (lg_N D c b 0 (S.1 (263 + 2 * b) 1) (S.1 1 1)) S' T' ∧ S'.1 (263 + 2 * b) 1 = S.1 1 1 ∧ T'.1 707 b = S.1 1 1 ∧ (∀ k g, k < 724 → ¬ (sp_We k g ∧ k < 621) → S'.1 k g = S.1 k g) ∧ (S'.1 1 1 = S.1 1 1) ∧ S'.2.1 = S.2.1 ∧ (∀ c j, c ≠ 259 → c ≠ 260 → S'.2.2.1 c j = S.2.2.1 c j) ∧ (ev_sC S' + ev_sN S = ev_sC S + ev_sN S' ∧ ev_sZ S' + 1024 * ev_sN S = ev_sZ S + 1024 * ev_sN S') ∧ (∀ k g, ¬ (sp_We k g ∧ 621 ≤ k) → T'.1 k g = T.1 k g) ∧ T'.1 621 0 = T.1 621 0 ∧ T'.1 621 1 = 0 ∧ T'.2 = T.2 := fun T hT' => by
        have hT2 : lg_T n D E c S T := lg_T_c hT0 (fun _ _ _ => rfl) rfl rfl (fun k g hk => hT' k g (by omega) (by omega))
        obtain ⟨S1, T1, k1, k2, k3, ⟨k4, k5, k6⟩, k7, k8⟩ := lg_T_edit (Q := Q) (b := b) (k := 2) (f := 0) (r := S.1 (263 + 2 * b) 1) (off := 0) (i := S.1 1 1) (fr := 0) (isD := 1) (y := fun g => S.1 2 g) (by omega) hT2 (by omega) (by omega) (by omega) ⟨hB.1, l80⟩ ⟨d1, h80⟩ (by omega) (by omega) (by omega) (by omega) (by rw [aln2]; omega) (fun g hg => ⟨by rw [show (0 + (g : Int)).toNat = g from by omega], sp_sign_r (d4 g hg).2⟩) (Or.inr ⟨rfl, by omega, fun g hg => by rw [hT' 622 g (by omega) (by omega)]; exact (d4 g hg).1⟩) (by omega) (by omega)
        rw [show (0 : Int) + S.1 (263 + 2 * b) 1 = S.1 (263 + 2 * b) 1 from by omega] at k2
        have k3' := lg_T_c k3 (S2 := S1) (T2 := ev_pI T1 621 1 0) (fun _ _ _ => rfl) rfl rfl (fun k g hk => if_neg (by omega))
        obtain ⟨S', T', m1, m2, m3, m8, m4, m5, m6, m7⟩ := lg_T_end (Q := Q) k3' (by omega) ⟨k4, by rw [rd_nf (by omega), rd_nf (by omega)]; omega, k6⟩ (by omega) (by rw [lg_N_S1]; omega)
        have q1 : S'.1 (263 + 2 * b) 1 = S.1 1 1 := by
          have := k3.1.2.1.2.2 b (by omega)
          rw [m4 _ _ (by omega) (by omega), this]
          have e : dL (lg_N D c b 0 (S.1 (263 + 2 * b) 1) (S.1 1 1)) (c + 1) b = dL D c b + (S.1 1 1 - S.1 (263 + 2 * b) 1) := (if_pos rfl).trans (if_pos rfl)
          rw [e, ← eL]
          omega
        have v714 : T1.1 714 = S.1 714 := funext fun g => by
          rw [k8.1 714 g (by omega) (by omega) (by omega) (by omega) (by omega) (by omega), hT' 714 g (by omega) (by omega)]
        have dl : ∀ b', b' < 3 → dL (lg_N D c b 0 (S.1 (263 + 2 * b) 1) (S.1 1 1)) (c + 1) b' ≤ 80 := fun b' hb' => by
          have e : dL (lg_N D c b 0 (S.1 (263 + 2 * b) 1) (S.1 1 1)) (c + 1) b' = if b' = b then dL D c b' + (S.1 1 1 - S.1 (263 + 2 * b) 1) else dL D c b' := if_pos rfl
          have e2 := hT0.1.2.1.2.2 b' hb'
          have e3 := h8.1 b' hb'
          rw [e]
          split
          · next h => rw [h, ← eL]; omega
          · omega
        have b8 : B8 (lg_N D c b 0 (S.1 (263 + 2 * b) 1) (S.1 1 1)) S' T' := by
          refine ⟨fun b' hb' => ?_, fun b' hb' => ?_, fun g hg b' hb' => ?_⟩
          · rw [m4 _ _ (by omega) (by omega), k3.1.2.1.2.2 b' hb']
            exact dl b' hb'
          · have e : dL (lg_N D c b 0 (S.1 (263 + 2 * b) 1) (S.1 1 1)) 0 b' = dL D 0 b' := lg_N_L (by omega)
            rw [e]
            exact h8.2.1 b' hb'
          · rcases m8 g hg with e | ⟨e1, e2⟩
            · rw [e, Int.toNat_natCast]
              exact dl b' hb'
            · have mn : ∀ g : Nat, (g : Int) < S.1 254 12 → S.1 714 g = sp_bs (S.1 714) g + S.1 261 g ∧ 0 ≤ S.1 261 g := fun g hg => ⟨(hT0.2.2.2.2.2.2.2 g hg).1, (hT0.2.2.2.2.2.2.2 g hg).2.1⟩
              have e12 : S1.1 254 12 = S.1 254 12 := k7.2.1
              have q2 := t_le mn (g := g) (by omega)
              have q3 := hT0.2.2.2.2.1
              have q4 := hT0.2.2.2.1.2
              rw [e2, rd_nk (by omega), v714]
              have e : dL (lg_N D c b 0 (S.1 (263 + 2 * b) 1) (S.1 1 1)) (S.1 714 g).toNat b' = dL D (S.1 714 g).toNat b' := if_neg (by omega)
              rw [e]
              have q5 := hG.1.2.1.2.1
              exact h8.2.2 g (by omega) b' hb'
        refine ⟨S1, S', T1, T', k1, m1, k2, m2, m3, b8, q1, ?_, fun k g h1 h2 => ?_, ?_, ?_, fun c j h1 h2 => ?_, ?_, fun k g h1 => ?_, ?_, ?_, ?_⟩
        · have w := (k3.1.2.2.2.1 b (by omega)).2.2.1
          rw [m6 707 b (by omega) (by omega) (by omega), rd_nk (by omega), w, ← q1, m4 _ _ (by omega) (by omega)]
        · unfold sp_We at h2
          rw [m4 k g (by omega) (by omega), k7.1 k g h1 (by omega) (by omega) (by omega) (by omega)]
        · rw [m4 1 1 (by omega) (by omega), k7.1 1 1 (by omega) (by omega) (by omega) (by omega) (by omega)]
        · rw [m5, k7.2.2.1]
        · rw [m5, k7.2.2.2.1 c j h1 h2]
        · unfold ev_sC ev_sN ev_sZ
          rw [m5]
          exact k7.2.2.2.2
        · unfold sp_We at h1
          rw [m6 k g (by omega) (by omega) (by omega), sp_pI1, if_neg (by omega), k8.1 k g (by omega) (by omega) (by omega) (by omega) (by omega) (by omega)]
        · rw [m6 621 0 (by omega) (by omega) (by omega), rd_nf (by omega), k8.1 621 0 (by omega) (by omega) (by omega) (by omega) (by omega) (by omega)]
        · rw [m6 621 1 (by omega) (by omega) (by omega), rd_eq]
        · rw [m7]
          exact k8.2
      have hin : (if 0 ≤ (b : Int) ∧ (b : Int) < 3 then 263 + 2 * (b : Int).toNat + 1 else 0) = 263 + 2 * b + 1 := by
        rw [if_pos ⟨by omega, by omega⟩, Int.toNat_natCast]
      have cls : ∀ S1 S', jm_4 Q (b : Int) 0 (S.1 (263 + 2 * b) 1) (2 + 1) 0 (S.1 1 1) S = some ((), S1) → jm_3 Q S1 = some ((), S') → S'.1 (263 + 2 * b) 1 = S.1 1 1 → jm_183 Q (b : Int) S = some (.inl (S.1 1 1), ev_pI S' 1 1 0) := fun S1 S' a1 a2 a3 => by
        unfold jm_183
        rw [sp_1, sp_bd, hin, if_neg (by omega), sp_b, if_pos h80, sp_b, sp_b, show 263 + 2 * b + 1 - 1 = 263 + 2 * b from rfl, a1, sp_bd, a2, sp_bd, sp_b, sp_b, rd_nk (by omega), a3]
      obtain ⟨S1, S', _, _, p1, p2, _, _, _, _, p5, _, p6, p7, p8, p9, p10, _, _, _, _⟩ := key S (fun _ _ _ _ => rfl)
      have fT : ∀ k g, 621 ≤ k ∧ k ≤ 722 → ¬ (k = 621 ∧ g = 0) → (ev_pI (ev_pL (ev_pI S' 1 1 0) 723 0 (ev_i2l (S.1 1 1))) 621 0 0).1 k g = S.1 k g := fun k g h1 h2 => by
        rw [sp_pI1, if_neg (by omega), sp_pL1, rd_nk (by omega), p6 k g (by omega) (by omega)]
      obtain ⟨S1', S'', T1, T', q1, q2, q3, q4, q5, q5b, _, q6, q7, _, _, _, _, q8, q9, q10, q11⟩ := key (ev_pI (ev_pL (ev_pI S' 1 1 0) 723 0 (ev_i2l (S.1 1 1))) 621 0 0) fT
      have e1 : S1' = S1 := by
        rw [p1] at q1
        injection q1 with q
        injection q with _ q
        exact q.symm
      subst e1
      have e2 : S'' = S' := by
        rw [p2] at q2
        injection q2 with q
        injection q with _ q
        exact q.symm
      subst e2
      -- the class's cells of the last state
      have cT : ∀ k g, k < 621 ∨ 724 ≤ k → ¬ (k = 1 ∧ g = 1) → T'.1 k g = S''.1 k g := fun k g h1 h2 => by
        rw [q8 k g (by unfold sp_We; omega), sp_pI1, if_neg (by omega), sp_pL1, sp_pI1, if_neg h2]
      have t1 : T'.1 1 1 = 0 := by
        rw [q8 1 1 (by omega), rd_nk (by omega), sp_pL1, rd_eq]
      have r2T : T'.2.2 = S''.2.2 := by rw [q11]; rfl
      refine ⟨lg_N D c b 0 (S.1 (263 + 2 * b) 1) (S.1 1 1), T', fun K => la_17 (c := 0) (b := S.1 1 1) hL hj (by rw [hA]; exact lw_17_ok _ (cls S1' S'' p1 p2 p5)) ?_ (by rw [q9, rd_eq]) (fun _ => by rw [q11]; exact rd_L), ?_, ?_, ?_, ?_⟩
      · rw [hA]
        unfold jm_346
        rw [sp_b, sp_325, sp_bd, sp_in_1 hb, if_pos (by decide), sp_b, fT 621 1 (by omega) (by omega), d3, if_pos h80, sp_if (by rw [sp_aln707]; omega), sp_b, sp_b, Int.toNat_natCast, fT 707 b (by omega) (by omega), hB.2.2.1, q3, sp_bd, sp_b, q4, sp_bd, sp_if (by rw [sp_aln707]; omega), sp_b, q6]
      · refine ⟨by omega, by omega, by rw [q10, t1], fun g hg => by omega⟩
      · exact LG_of (L2_c q5 (fun k g hk => cT k g (by omega) (by omega)) (by rw [r2T]) (by unfold ev_sN; rw [r2T]) (fun _ _ _ => rfl))
      · exact B8_c q5b (fun b hb => cT _ _ (by omega) (by omega)) (cT _ _ (by omega) (by omega)) (fun _ => rfl)
      · refine ⟨fun k g h1 h2 => ?_, fun k g h1 => ?_, fun k g h1 h2 => ?_, ?_, ?_⟩
        · by_cases e : k < 621
          · unfold sp_We at h2
            rw [cT k g (by omega) (by omega), p6 k g h1 (by unfold sp_We; omega)]
          · by_cases e3 : k = 723
            · subst e3
              rw [q8 723 g (by unfold sp_We; omega), rd_nk (by omega), sp_pL1, rd_nk (by omega), p6 723 g (by omega) (by omega)]
            · rw [q8 k g (fun z => h2 z.1)]
              unfold sp_We at h2
              rw [fT k g (by omega) (by omega)]
        · rw [q11]
          show (ev_pL (ev_pI S'' 1 1 0) 723 0 (ev_i2l (S.1 1 1))).2.1 k g = _
          rw [sp_pL2, if_neg (fun z => h1 z.1)]
          show S''.2.1 k g = _
          rw [p8]
        · rw [r2T, p9 k g h1 h2]
        · unfold ev_sC ev_sN at p10 ⊢
          rw [r2T]
          omega
        · unfold ev_sZ ev_sN at p10 ⊢
          rw [r2T]
          omega
    · refine ⟨D, _, fun K => la_17 (c := 2) (b := 0) hL hj (by rw [hA]; exact lw_17_x1 a (sp_183_full hb h80)) (by rw [hA]; exact sp_346_full (S := ev_tick S) hb (by rw [sp_tick1, hD.2.2.1]; exact h80)) rd_eq (fun q => by cases q), DR_no2 hD, mono (LG_no2 hG), B8_c h8 (fun b hb => (if_neg (by omega)).trans (if_neg (by omega))) rfl (fun g => rfl), wG⟩
  · refine ⟨D, _, fun K => la_17 (c := 1) (b := 0) hL hj (by rw [hA]; exact lw_17_x0 a (sp_183_no hb)) (by rw [hA]; exact sp_346_no (S := ev_tick S) hb) rd_eq (fun q => by cases q), DR_no2 hD, mono (LG_no2 hG), B8_c h8 (fun b hb => (if_neg (by omega)).trans (if_neg (by omega))) rfl (fun g => rfl), wG⟩
end OPSI
