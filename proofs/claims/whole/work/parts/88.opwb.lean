/-! PARTS: the call -/
section OPWB
variable {Q k l L j : Nat} {xs : Nat → Int32} {rk : Nat → Nat} {Z : Nat → Prop} {S S2 T T' U : ev_St}
/-- what a call may change, by kind, cell, place -/
def sp_H (W : Nat → Nat → Nat → Prop) (S S2 : ev_St) : Prop := (∀ b g, ¬ W 0 b g → S2.1 b g = S.1 b g) ∧ (∀ b g, ¬ W 1 b g → S2.2.1 b g = S.2.1 b g) ∧ (∀ b g, ¬ W 2 b g → S2.2.2.1 b g = S.2.2.1 b g) ∧ S2.2.2.2.1 = S.2.2.2.1 ∧ S2.2.2.2.2.1 = S.2.2.2.2.1 ∧ S2.2.2.2.2.2.1 ≤ S.2.2.2.2.2.1 + 1 ∧ S2.2.2.2.2.2.2 ≤ S.2.2.2.2.2.2 + 6
def sp_W2 (q b g : Nat) : Prop := (q = 0 ∧ (Wk 232 b ∨ (b = 1 ∧ g = 1) ∨ b = 5 ∨ (169 ≤ b ∧ b < 221) ∨ (b = 621 ∧ g ≤ 1) ∨ b = 623 ∨ b = 624 ∨ (Rk b g ∧ ¬ LOWc b g))) ∨ (q = 1 ∧ (Wk 232 b ∨ b = 723 ∨ (Rk b g ∧ ¬ (633 ≤ b ∧ b ≤ 634 ∧ g < 3840)))) ∨ (q = 2 ∧ (b = 3 ∨ b = 6 ∨ b = 15))
theorem sp_H_F {W : Nat → Nat → Prop} {W2 : Nat → Nat → Nat → Prop} (h : sp_F W S S2) (h0 : ∀ b g, W b g → W2 0 b g) (h1 : ∀ g, W2 1 723 g) : sp_H W2 S S2 := by
  obtain ⟨a, b, c, d⟩ := h
  refine ⟨fun x g z => a x g (fun w => z (h0 x g w)), fun x g z => b x g (fun e => z (by rw [e]; exact h1 g)), fun x g _ => by rw [c], d⟩
theorem PA_c (h : TXe S S2) (h2 : ∀ x g, (x = 621 ∧ g = 1) ∨ (622 ≤ x ∧ x ≤ 624) → S2.1 x g = S.1 x g) : (sp_DR S → sp_DR S2) ∧ (sp_PA S → sp_PA S2) := by
  refine ⟨fun ⟨d1, d2, d3, d4⟩ => ?_, fun ⟨p, rk, hr⟩ => ⟨fun l hl => ?_, rk, RKP_X h hr⟩⟩
  · unfold sp_DR
    rw [h 1 1 (by omega), h2 621 1 (by omega)]
    exact ⟨d1, d2, d3, fun g hg => by rw [h2 622 g (by omega), h 2 g (by omega)]; exact d4 g hg⟩
  · rw [h 5 l (by omega), h2 623 l (by omega), h (169 + 2 * l) 1 (by omega)]
    rcases p l hl with z | ⟨z1, z2, z3, z4⟩
    · exact Or.inl z
    · exact Or.inr ⟨z1, z2, z3, fun g hg => by rw [h2 624 _ (by omega), h (169 + 2 * l + 1) g (by omega)]; exact z4 g hg⟩
theorem op_2 (hQ : 1000000 ≤ Q) (hD : sp_DR S) (hP : sp_PA S) (hL : L ≤ 3072) (hj : j + 6 ≤ L) : ∃ S2, (∀ K, ja_257 Q L xs (j : Int) K S = K S2) ∧ sp_DR S2 ∧ sp_PA S2 ∧ sp_H sp_W2 S S2 := by
  obtain ⟨a, ha⟩ : ∃ a, a = (xs (Int.toNat ((j : Int) + 1))).toInt := ⟨_, rfl⟩
  have hD0 := hD
  have hP0 := hP
  obtain ⟨d1, d2, d3, d4⟩ := hD
  obtain ⟨hPx, rk, hrk⟩ := hP
  by_cases hl : 97 ≤ a ∧ a ≤ 122
  · obtain ⟨l, el⟩ : ∃ l : Nat, a = 97 + (l : Int) := ⟨(a - 97).toNat, by omega⟩
    have cl : ch_l a = 1 := if_pos hl
    have hQ2 : 25000 ≤ Q := by omega
    have hDx : ∀ U : ev_St, (∀ c g, c = 621 ∧ g = 1 ∨ (622 ≤ c ∧ c ≤ 624) → U.1 c g = S.1 c g) → DRx S U ∧ PRx S U := fun U hU => by
      refine ⟨⟨⟨d1, d2⟩, by rw [hU _ _ (by omega), d3], fun g hg => by rw [hU _ _ (by omega)]; exact d4 g hg⟩, fun i hi => ?_⟩
      rw [hU 623 i (by omega)]
      rcases hPx i hi with z | ⟨z1, z2, z3, z4⟩
      · exact Or.inl z
      · exact Or.inr ⟨z1, z2, z3, fun g hg => by rw [hU 624 _ (by omega)]; exact z4 g hg⟩
    have rd := fun (U : ev_St) (hU : ∀ c g, c = 621 ∧ g = 1 ∨ (622 ≤ c ∧ c ≤ 624) → U.1 c g = S.1 c g) => rd_all (Q := Q) (k := 232) (S := S) (T := U) (rk := rk) (a2 := a) (a0 := (l : Int)) hQ2 (by decide +kernel) (by omega) (hDx U hU).1 (hDx U hU).2 hrk (Or.inr ⟨by omega, by omega, by omega⟩)
    rcases rd S (fun _ _ _ => rfl) with ⟨S', T0, a1, _, a3, _⟩ | ⟨S', T0, N, M, φ, ψ, own, up, Z, a1, _, a3, a4, a5, a6, a7, a8, a9⟩
    · -- both refuse
      obtain ⟨f1, f2, f3, f4, f5⟩ := a3
      obtain ⟨U, hU⟩ : ∃ U, U = ev_pI (ev_pL S' 723 0 (ev_i2l (-1))) 621 0 0 := ⟨_, rfl⟩
      have u1 : ∀ c g, ¬ (c = 621 ∧ g = 0) → U.1 c g = S'.1 c g := fun c g h => by rw [hU]; exact if_neg h
      have u0 : ∀ c g, ¬ Wk 232 c → ¬ (c = 621 ∧ g = 0) → U.1 c g = S.1 c g := fun c g h1 h2 => by rw [u1 c g h2, f1 c g h1]
      have c1 : jm_168 Q a S = some (.inl (-1), S') := by
        unfold jm_168
        rw [sp_209, cl, sp_bd, if_pos (by decide), show (232 + 1 : Nat) = 233 from rfl]
        rw [show jm_83 Q (1 + 1) 233 a S = some (0, S') from a1, sp_bd, if_neg (by decide)]
      rcases rd U (fun c g h => u0 c g (by unfold Wk; omega) (by omega)) with ⟨S3, T2, b1, b2, b3, b4⟩ | ⟨S3, T2, _, _, _, _, _, _, _, b1, _⟩
      · have r1 : jm_271 Q a (ev_pL S' 723 0 (ev_i2l (-1))) = some (-1, T2) := by
          unfold jm_271
          rw [sp_b, ← hU, sp_224, cl, sp_bd, if_pos (by decide), sp_ck (by omega), show a - 97 = (l : Int) from by omega, b2, sp_bd, if_pos rfl]
        obtain ⟨g1, g2, g3, g4⟩ := fr_265 b2
        have t0 : ∀ c g, ¬ Wk 232 c → ¬ Rk c g → ¬ (c = 621 ∧ g = 0) → T2.1 c g = S.1 c g := fun c g h1 h2 h3 => by rw [g1 c g h2, u0 c g h1 h3]
        have pc := PA_c (S := S) (S2 := T2) (fun x g h => t0 x g (by unfold Wk; omega) (by unfold Rk; omega) (by omega)) (fun x g h => t0 x g (by unfold Wk; omega) (by unfold Rk; omega) (by omega))
        refine ⟨T2, fun K => la_2 (S1 := ev_pL S' 723 0 (ev_i2l (-1))) (c := 0) (b := -1) hL hj ?_ ?_ ?_ (fun _ => ?_), pc.1 hD0, pc.2 hP0, fun c g h => ?_, fun c g h => ?_, fun c g h => ?_, ?_, ?_, ?_, ?_⟩
        · rw [← ha]
          exact lw_2_ok a c1
        · rw [← ha]
          exact r1
        · rw [g1 _ _ (by unfold Rk; omega), hU, rd_eq]
        · rw [g2 _ _ (by unfold Rk; omega), hU]
          exact rd_L
        · have nw : ¬ Wk 232 c := fun z => h (Or.inl ⟨rfl, Or.inl z⟩)
          by_cases hr : Rk c g
          · have lo : LOWc c g := Classical.byContradiction fun z => h (Or.inl ⟨rfl, by
              refine Or.inr (Or.inr (Or.inr (Or.inr (Or.inr (Or.inr (Or.inr ⟨hr, z⟩))))))⟩)
            rw [b4.1 c g lo, u0 c g nw (by unfold LOWc at lo; omega)]
          · refine t0 c g nw hr fun z => h (Or.inl ⟨rfl, ?_⟩)
            omega
        · have nw : ¬ Wk 232 c := fun z => h (Or.inr (Or.inl ⟨rfl, Or.inl z⟩))
          have n7 : c ≠ 723 := fun z => h (Or.inr (Or.inl ⟨rfl, Or.inr (Or.inl z)⟩))
          have uL : U.2.1 c g = S.2.1 c g := by
            rw [hU, sp_pI2, sp_pL2, if_neg (fun z => n7 z.1), f2 c g nw]
          by_cases hr : Rk c g
          · have lo : 633 ≤ c ∧ c ≤ 634 ∧ g < 3840 := Classical.byContradiction fun z => h (Or.inr (Or.inl ⟨rfl, Or.inr (Or.inr ⟨hr, z⟩)⟩))
            rw [b4.2 c g lo.1 lo.2.1 lo.2.2, uL]
          · rw [g2 c g hr, uL]
        · have n : ¬ (c = 3 ∨ c = 6 ∨ c = 15) := fun z => h (Or.inr (Or.inr ⟨rfl, z⟩))
          rw [g3, hU]
          exact f3 c g (by omega) (by omega) (by omega)
        · rw [g4, hU]
          exact congrArg (fun z => z.1) f4
        · rw [g4, hU]
          exact congrArg (fun z => z.2.1) f4
        · rw [g4, hU]
          have := congrArg (fun z => z.2.2.1) f4
          exact Nat.le_trans (Nat.le_of_eq this) (Nat.le_succ _)
        · rw [g4, hU]
          have := congrArg (fun z => z.2.2.2) f4
          exact Nat.le_trans (Nat.le_of_eq this) (Nat.le_add_right _ _)
      · rw [a1] at b1
        exact absurd (show (0 : Int) = 1 from congrArg Prod.fst (Option.some.inj b1)) (by decide)
    · -- both read it
      obtain ⟨f1, f2, f3, f4, f5⟩ := a3
      have hl26 : l < 26 := by omega
      obtain ⟨v, hv⟩ : ∃ v, v = S'.1 3 14 := ⟨_, rfl⟩
      have e11 : S'.1 1 1 = S.1 1 1 := a6 1 1 (by omega)
      obtain ⟨S1, hS1⟩ : ∃ S1, S1 = ev_pI (ev_pI (ev_pI (ev_cpI S' 2 (169 + 2 * l + 1) 0 0 160) (169 + 2 * l) 1 (S'.1 1 1)) 5 l 1) 1 1 0 := ⟨_, rfl⟩
      have x314 : S1.1 3 14 = S'.1 3 14 := by rw [hS1, rd_nk (by omega), rd_nk (by omega), rd_nk (by omega), sp_cp1, if_neg (by omega)]
      have c1 : jm_168 Q a S = some (.inl v, S1) := by
        have l5 : ev_aln 5 = 26 := by decide +kernel
        unfold jm_168
        rw [sp_209, cl, sp_bd, if_pos (by decide), show (232 + 1 : Nat) = 233 from rfl]
        rw [show jm_83 Q (1 + 1) 233 a S = some (1, S') from a1, sp_bd, if_pos (by decide)]
        unfold jm_82
        rw [sp_209, cl, sp_bd, if_neg (by decide), sp_ck (by omega), show a - 97 = (l : Int) from by omega, sp_if (by omega), sp_b, Int.toNat_natCast, sp_153 (sp_prt l hl26) sp_is1 (by omega), sp_bd, sp_ck (by omega), sp_if (by rw [l5]; omega), sp_b, sp_bd, sp_b, Int.toNat_natCast, show (1 + 1 : Nat) = 2 from rfl, ← hS1, sp_b, x314, ← hv]
      have s1 : ∀ c g, c ≠ 169 + 2 * l → c ≠ 169 + 2 * l + 1 → ¬ (c = 5 ∧ g = l) → ¬ (c = 1 ∧ g = 1) → S1.1 c g = S'.1 c g := fun c g h1 h2 h3 h4 => by
        rw [hS1, sp_pI1, if_neg h4, sp_pI1, if_neg h3, rd_nk h1, sp_cp1, if_neg (fun z => h2 z.1)]
      have s2 : S1.1 (169 + 2 * l) 1 = S.1 1 1 := by rw [hS1, rd_nk (by omega), rd_nk (by omega), rd_eq, e11]
      have s3 : ∀ g : Nat, (g : Int) < S.1 1 1 → S1.1 (169 + 2 * l + 1) g = S.1 2 g := fun g hg => by
        rw [hS1, rd_nk (by omega), rd_nk (by omega), rd_nk (by omega), sp_cp1, if_pos ⟨rfl, by omega, by omega⟩, show 0 + (g - 0) = g from by omega]
        exact a6 2 g (by omega)
      have s4 : S1.1 1 1 = 0 := by rw [hS1, rd_eq]
      have s5 : S1.1 5 l = 1 := by rw [hS1, rd_nk (by omega), rd_eq]
      have s6 : S1.2 = S'.2 := by rw [hS1]; rfl
      obtain ⟨U, hU⟩ : ∃ U, U = ev_pI (ev_pL S1 723 0 (ev_i2l v)) 621 0 0 := ⟨_, rfl⟩
      have u1 : ∀ c g, ¬ (c = 621 ∧ g = 0) → U.1 c g = S1.1 c g := fun c g h => by rw [hU]; exact if_neg h
      have u6 : ∀ c g, 245 ≤ c → ¬ (c = 621 ∧ g = 0) → U.1 c g = S.1 c g := fun c g h1 h2 => by
        rw [u1 c g h2, s1 c g (by omega) (by omega) (by omega) (by omega), f1 c g (by unfold Wk; omega)]
      rcases rd U (fun c g h => u6 c g (by omega) (by omega)) with ⟨S3, T2, b1, _⟩ | ⟨S3, T2, N, M, φ, ψ, own, up, Z, b1, b2, _, b4, b5, _, b7, b8, b9⟩
      · rw [a1] at b1
        exact absurd (show (1 : Int) = 0 from congrArg Prod.fst (Option.some.inj b1)) (by decide)
      · have e3 : S3 = S' := by
          rw [a1] at b1
          exact (congrArg Prod.snd (Option.some.inj b1)).symm
        rw [e3, ← hv] at b2
        rw [← hv] at a5
        obtain ⟨g1, g2, g3, g4⟩ := fr_265 b2
        have n1 : T2.1 621 1 = S.1 1 1 := by rw [g1 _ _ (by unfold Rk; omega), u6 _ _ (by omega) (by omega), d3]
        obtain ⟨T3, r1, r2, r3, r4⟩ := sp_271l (Q := Q) (l := l) (x7 := v) (n := S.1 1 1) hl26 ⟨d1, d2⟩ (S.1 1 1).toNat Q 0 T2 (by omega) (by omega) (by omega) n1
        obtain ⟨S2, hS2⟩ : ∃ S2, S2 = ev_pI (ev_pI T3 623 l (S.1 1 1)) 621 1 0 := ⟨_, rfl⟩
        have r5 : jm_271 Q a (ev_pL S1 723 0 (ev_i2l v)) = some (v, S2) := by
          unfold jm_271
          rw [sp_b, ← hU, sp_224, cl, sp_bd, if_pos (by decide), sp_ck (by omega), show a - 97 = (l : Int) from by omega, b2, sp_bd, if_neg (by omega), el, r1, hS2]
        have w1 : ∀ c g, c ≠ 624 → ¬ (c = 623 ∧ g = l) → ¬ (c = 621 ∧ g = 1) → S2.1 c g = T2.1 c g := fun c g h1 h2 h3 => by
          rw [hS2, sp_pI1, if_neg h3, sp_pI1, if_neg h2, r3 c g h1]
        have w2 : ∀ c g, ¬ Rk c g → c ≠ 624 → ¬ (c = 623 ∧ g = l) → ¬ (c = 621 ∧ g ≤ 1) → S2.1 c g = S1.1 c g := fun c g h0 h1 h2 h3 => by
          rw [w1 c g h1 h2 (by omega), g1 c g h0, u1 c g (by omega)]
        have w3 : ∀ g : Nat, S2.1 624 g = if 120 * (l : Int) ≤ (g : Int) ∧ (g : Int) < 120 * l + S.1 1 1 then S.1 2 ((g : Int) - 120 * l).toNat else S.1 624 g := fun g => by
          rw [hS2, rd_nk (by omega), rd_nk (by omega), r2, g1 622 _ (by unfold Rk; omega), g1 624 _ (by unfold Rk; omega), u6 622 _ (by omega) (by omega), u6 624 _ (by omega) (by omega)]
          by_cases e : 120 * (l : Int) ≤ (g : Int) ∧ (g : Int) < 120 * l + S.1 1 1
          · rw [if_pos (by omega), if_pos e]
            exact (d4 _ (by omega)).1
          · rw [if_neg (by omega), if_neg e]
        have w4 : S2.2 = T2.2 := by rw [hS2]; exact r4
        have w5 : S2.1 621 1 = 0 ∧ S2.1 623 l = S.1 1 1 ∧ S2.1 621 0 = 0 := by
          refine ⟨by rw [hS2, rd_eq], by rw [hS2, rd_nk (by omega), rd_eq], ?_⟩
          rw [w1 _ _ (by omega) (by omega) (by omega), g1 _ _ (by unfold Rk; omega), hU, rd_eq]
        -- what is left of the class's cells
        have w6 : ∀ c g, c < 232 → c ≠ 3 → ¬ (6 ≤ c ∧ c ≤ 168) → c ≠ 169 + 2 * l → c ≠ 169 + 2 * l + 1 → ¬ (c = 5 ∧ g = l) → ¬ (c = 1 ∧ g = 1) → S2.1 c g = S.1 c g := fun c g h1 h2 h3 h4 h5 h6 h7 => by
          rw [w2 c g (by unfold Rk; omega) (by omega) (by omega) (by omega), s1 c g h4 h5 h6 h7, f1 c g (by unfold Wk; omega)]
        have x5 : S2.1 5 l = 1 := by rw [w2 _ _ (by unfold Rk; omega) (by omega) (by omega) (by omega), s5]
        have xn : S2.1 (169 + 2 * l) 1 = S.1 1 1 := by rw [w2 _ _ (by unfold Rk; omega) (by omega) (by omega) (by omega), s2]
        have xg : ∀ g : Nat, (g : Int) < S.1 1 1 → S2.1 (169 + 2 * l + 1) g = S.1 2 g := fun g hg => by rw [w2 _ _ (by unfold Rk; omega) (by omega) (by omega) (by omega), s3 g hg]
        have x11 : S2.1 1 1 = 0 := by rw [w2 _ _ (by unfold Rk; omega) (by omega) (by omega) (by omega), s4]
        have xa : sp_at S2 (169 + 2 * l) = sp_at S 1 := funext fun p => by
          unfold sp_at
          rw [xn]
          by_cases h : 0 ≤ p ∧ p < S.1 1 1
          · rw [if_pos h, if_pos h, xg _ (by omega)]
          · rw [if_neg h, if_neg h]
        have xo : ∀ i, i < 26 → i ≠ l → S2.1 5 i = S.1 5 i ∧ sp_at S2 (169 + 2 * i) = sp_at S (169 + 2 * i) ∧ S2.1 (169 + 2 * i) 1 = S.1 (169 + 2 * i) 1 := fun i hi ne => by
          have e1 : S2.1 (169 + 2 * i) 1 = S.1 (169 + 2 * i) 1 := w6 _ _ (by omega) (by omega) (by omega) (by omega) (by omega) (by omega) (by omega)
          refine ⟨w6 _ _ (by omega) (by omega) (by omega) (by omega) (by omega) (by omega) (by omega), funext fun p => ?_, e1⟩
          unfold sp_at
          rw [e1, w6 (169 + 2 * i + 1) _ (by omega) (by omega) (by omega) (by omega) (by omega) (by omega) (by omega)]
        refine ⟨S2, fun K => la_2 (S1 := ev_pL S1 723 0 (ev_i2l v)) (c := 0) (b := v) hL hj ?_ ?_ w5.2.2 (fun _ => ?_), ?_, ⟨fun i hi => ?_, RKP_new hrk b9 hl26 rfl ⟨x5, xa, xn⟩ xo⟩, fun c g h => ?_, fun c g h => ?_, fun c g h => ?_, ?_, ?_, ?_, ?_⟩
        · rw [← ha]
          exact lw_2_ok a c1
        · rw [← ha]
          exact r5
        · rw [w4, g2 _ _ (by unfold Rk; omega), hU]
          exact rd_L
        · exact ⟨by omega, by omega, by rw [w5.1, x11], fun g hg => by omega⟩
        · by_cases ei : i = l
          · subst ei
            rw [x5, xn, w5.2.1]
            refine Or.inr ⟨rfl, ⟨d1, d2⟩, rfl, fun g hg => ?_⟩
            rw [w3, if_pos (by omega), xg g hg, show (((120 * i + g : Nat) : Int) - 120 * (i : Int)).toNat = g from by omega]
            exact ⟨rfl, (d4 g hg).2⟩
          · obtain ⟨o1, o2, o3⟩ := xo i hi ei
            rw [o1, o3, w1 623 i (by omega) (by omega) (by omega), g1 _ _ (by unfold Rk; omega), u6 _ _ (by omega) (by omega)]
            rcases hPx i hi with z | ⟨z1, z2, z3, z4⟩
            · exact Or.inl z
            · refine Or.inr ⟨z1, z2, z3, fun g hg => ?_⟩
              rw [w3, if_neg (by omega), w6 (169 + 2 * i + 1) g (by omega) (by omega) (by omega) (by omega) (by omega) (by omega) (by omega)]
              exact z4 g hg
        · have nw : ¬ Wk 232 c := fun z => h (Or.inl ⟨rfl, Or.inl z⟩)
          have h' : ¬ ((c = 1 ∧ g = 1) ∨ c = 5 ∨ (169 ≤ c ∧ c < 221) ∨ (c = 621 ∧ g ≤ 1) ∨ c = 623 ∨ c = 624) := fun z => h (Or.inl ⟨rfl, Or.inr (by
            rcases z with z | z | z | z | z | z
            · exact Or.inl z
            · exact Or.inr (Or.inl z)
            · exact Or.inr (Or.inr (Or.inl z))
            · exact Or.inr (Or.inr (Or.inr (Or.inl z)))
            · exact Or.inr (Or.inr (Or.inr (Or.inr (Or.inl z))))
            · exact Or.inr (Or.inr (Or.inr (Or.inr (Or.inr (Or.inl z))))))⟩)
          have base : U.1 c g = S.1 c g := by
            rw [u1 c g (by omega), s1 c g (by omega) (by omega) (by omega) (by omega), f1 c g nw]
          by_cases hr : Rk c g
          · have lo : LOWc c g := Classical.byContradiction fun z => h (Or.inl ⟨rfl, by
              refine Or.inr (Or.inr (Or.inr (Or.inr (Or.inr (Or.inr (Or.inr ⟨hr, z⟩))))))⟩)
            rw [w1 c g (by omega) (by omega) (by omega), b8.1 c g lo, base]
          · rw [w1 c g (by omega) (by omega) (by omega), g1 c g hr, base]
        · have nw : ¬ Wk 232 c := fun z => h (Or.inr (Or.inl ⟨rfl, Or.inl z⟩))
          have n7 : c ≠ 723 := fun z => h (Or.inr (Or.inl ⟨rfl, Or.inr (Or.inl z)⟩))
          have uL : U.2.1 c g = S.2.1 c g := by
            rw [hU, sp_pI2, sp_pL2, if_neg (fun z => n7 z.1), s6, f2 c g nw]
          by_cases hr : Rk c g
          · have lo : 633 ≤ c ∧ c ≤ 634 ∧ g < 3840 := Classical.byContradiction fun z => h (Or.inr (Or.inl ⟨rfl, Or.inr (Or.inr ⟨hr, z⟩)⟩))
            rw [w4, b8.2 c g lo.1 lo.2.1 lo.2.2, uL]
          · rw [w4, g2 c g hr, uL]
        · have n : ¬ (c = 3 ∨ c = 6 ∨ c = 15) := fun z => h (Or.inr (Or.inr ⟨rfl, z⟩))
          rw [w4, g3, hU]
          show S1.2.2.1 c g = _
          rw [s6]
          exact f3 c g (by omega) (by omega) (by omega)
        · rw [w4, g4, hU]
          show S1.2.2.2.1 = _
          rw [s6, f4]
        · rw [w4, g4, hU]
          show S1.2.2.2.2.1 = _
          rw [s6, f4]
        · rw [w4, g4, hU]
          show S1.2.2.2.2.2.1 ≤ _
          rw [s6, f4]
          exact Nat.le_succ _
        · rw [w4, g4, hU]
          show S1.2.2.2.2.2.2 ≤ _
          rw [s6, f4]
          exact Nat.le_add_right _ _
  · have cl : ch_l a = 0 := if_neg hl
    have fF := sp_F_no2 (S := S) (c := 0) (d := 1)
    have h0 : ∀ c g, ¬ (c = 621 ∧ g = 0) → (ev_pI (ev_pI (ev_tick S) 621 0 0) 621 0 1).1 c g = S.1 c g := fun c g h => (if_neg h).trans (if_neg h)
    have pc := PA_c (S := S) (S2 := ev_pI (ev_pI (ev_tick S) 621 0 0) 621 0 1) (fun x g h => h0 x g (by omega)) (fun x g h => h0 x g (by omega))
    refine ⟨_, fun K => la_2 (S1 := ev_tick S) (c := 1) (b := 0) hL hj ?_ ?_ rd_eq (fun q => by cases q), pc.1 hD0, pc.2 hP0, sp_H_F fF (fun b g w => Or.inl ⟨rfl, ?_⟩) (fun g => Or.inr (Or.inl ⟨rfl, Or.inr (Or.inl rfl)⟩))⟩
    · rw [← ha]
      refine lw_2_x0 a ?_
      unfold jm_168
      rw [sp_209, cl, sp_bd, if_neg (by decide)]
    · rw [← ha]
      unfold jm_271
      rw [sp_b, sp_224, cl, sp_bd, if_neg (by decide)]
      rfl
    · unfold sp_Wc at w
      omega
end OPWB
