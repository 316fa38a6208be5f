/-! ASSEMBLY: M2, M3, M4: calls 4, 3 and 12 with what the invariant wants beside -/
section OSX0
variable {B : Nat} {S S2 : ev_St}
/-- an engine's cells, whatever program it had -/
def THn (k wd B : Nat) (S : ev_St) : Prop := ∃ l l2 s s2 st : Nat, (S.2.2.1 k 2 = l + 1 ∧ S.2.2.1 k 3 = l2 + 1 ∧ S.2.2.1 k 4 = s + 1 ∧ S.2.2.1 k 5 = s2 + 1) ∧ (S.1 k 0 = (wd : Int) ∧ S.1 k 7 = (st : Int)) ∧ (((l = k + 1 ∧ l2 = k + 2) ∨ (l = k + 2 ∧ l2 = k + 1)) ∧ ((s = k + 8 ∧ s2 = k + 9) ∨ (s = k + 9 ∧ s2 = k + 8))) ∧ st ≤ B ∧ ∀ i, i < 208 → S.1 (k + 3) i ≤ (st : Int)
theorem THn_c {kt wd : Nat} (h : THn kt wd B S) (h1 : ∀ c g, kt ≤ c → c ≤ kt + 9 → S2.1 c g = S.1 c g) (h2 : ∀ g, S2.2.2.1 kt g = S.2.2.1 kt g) {B2 : Nat} (hb : B ≤ B2) : THn kt wd B2 S2 := by
  obtain ⟨l, l2, s, s2, st, ⟨r2, r3, r4, r5⟩, ⟨e0, e7⟩, ll, hst, hse⟩ := h
  exact ⟨l, l2, s, s2, st, ⟨by rw [h2]; exact r2, by rw [h2]; exact r3, by rw [h2]; exact r4, by rw [h2]; exact r5⟩, ⟨by rw [h1 _ _ (by omega) (by omega)]; exact e0, by rw [h1 _ _ (by omega) (by omega)]; exact e7⟩, ll, by omega, fun i hi => by rw [h1 _ _ (by omega) (by omega)]; exact hse i hi⟩
end OSX0
section OSX1
variable {Q L j : Nat} {xs : Nat → Int32} {S : ev_St}
theorem op_4b (hQ : 1000000 ≤ Q) (hD : sp_DR S) (hT : sp_TR S) (hL : L ≤ 3072) (hj : j + 6 ≤ L) : ∃ S2, (∀ K, ja_357 Q L xs K S = K S2) ∧ sp_DR S2 ∧ sp_TR S2 ∧ sp_F sp_Wt S S2 ∧ S.1 0 7 ≤ S2.1 0 7 := by
  have hD0 := hD
  have hT0 := hT
  obtain ⟨d1, d2, d3, d4⟩ := hD
  obtain ⟨⟨t1, t2⟩, t3, t4⟩ := hT
  have TR_c : ∀ {U : ev_St}, (∀ k g, k ≠ 621 → k ≠ 723 → U.1 k g = S.1 k g) → U.1 621 110 = S.1 621 110 → sp_TR U := fun {U} h1 h2 => by
    unfold sp_TR
    rw [h1 0 7 (by omega) (by omega), h2]
    refine ⟨⟨t1, t2⟩, t3, fun t ht => ?_⟩
    obtain ⟨a1, a2, a3, a4⟩ := t4 t ht
    have e : sp_at U (553 + 2 * t) = sp_at S (553 + 2 * t) := funext fun p => by
      unfold sp_at
      rw [h1 _ 1 (by omega) (by omega), h1 (553 + 2 * t + 1) _ (by omega) (by omega)]
    rw [h1 701 t (by omega) (by omega), h1 _ 1 (by omega) (by omega), e]
    exact ⟨a1, a2, fun g hg => by rw [h1 700 _ (by omega) (by omega), h1 _ g (by omega) (by omega)]; exact a3 g hg, a4⟩
  have DR_c : ∀ {U : ev_St}, (∀ k g, k ≠ 621 → k ≠ 723 → U.1 k g = S.1 k g) → U.1 621 1 = S.1 621 1 → sp_DR U := fun {U} h1 h2 => by
    unfold sp_DR
    rw [h1 1 1 (by omega) (by omega), h2]
    exact ⟨d1, d2, d3, fun g hg => by rw [h1 622 g (by omega) (by omega), h1 2 g (by omega) (by omega)]; exact d4 g hg⟩
  by_cases h8 : S.1 0 7 < 8
  · obtain ⟨v, w1, w2, w3⟩ := tl_loop (Q := Q) (S := S) (T := S) ⟨d1, d2⟩ d3 (fun g hg => (d4 g hg).1) 129 Q Q 0 0 (by omega) (by omega) (by omega) (by omega) (by omega) (Or.inl rfl)
    by_cases hv : v = 1
    · subst hv
      have hv := w1.resolve_left (by decide)
      obtain ⟨t, et⟩ : ∃ t : Nat, S.1 0 7 = (t : Int) := ⟨(S.1 0 7).toNat, by omega⟩
      have c1 : jm_170 Q S = some (.inl (t : Int), ev_pI (ev_pI (ev_pI (ev_cpI S 2 (553 + 2 * t + 1) 0 0 160) (553 + 2 * t) 1 (S.1 1 1)) 1 1 0) 0 7 ((t : Int) + 1)) := by
        unfold jm_170
        rw [sp_b, if_pos h8]
        unfold jm_48
        rw [w2, sp_bd, if_pos (by decide), sp_b, et, sp_if (by omega), sp_b, Int.toNat_natCast, sp_153 (sp_tmp t (by omega)) sp_is1 (by omega), sp_bd, sp_b, sp_b, rd_nk (by omega), rd_nk (by omega), sp_cp1, if_neg (by omega), et, sp_ck (by omega), sp_b, sp_b, rd_eq, sp_ck (by omega), show (t : Int) + 1 - 1 = t from by omega]
      generalize hS1 : ev_pI (ev_pI (ev_pI (ev_cpI S 2 (553 + 2 * t + 1) 0 0 160) (553 + 2 * t) 1 (S.1 1 1)) 1 1 0) 0 7 ((t : Int) + 1) = S1 at c1
      have s1 : ∀ k g, k ≠ 553 + 2 * t → k ≠ 553 + 2 * t + 1 → ¬ (k = 1 ∧ g = 1) → ¬ (k = 0 ∧ g = 7) → S1.1 k g = S.1 k g := fun k g h1 h2 h3 h4 => by
        rw [← hS1, sp_pI1, if_neg h4, sp_pI1, if_neg h3, rd_nk h1, sp_cp1, if_neg (fun z => h2 z.1)]
      have s2 : S1.1 (553 + 2 * t) 1 = S.1 1 1 := by rw [← hS1, rd_nk (by omega), rd_nk (by omega), rd_eq]
      have s3 : ∀ g : Nat, (g : Int) < S.1 1 1 → S1.1 (553 + 2 * t + 1) g = S.1 2 g := fun g hg => by
        rw [← hS1, rd_nk (by omega), rd_nk (by omega), rd_nk (by omega), sp_cp1, if_pos ⟨rfl, by omega, by omega⟩, show 0 + (g - 0) = g from by omega]
      have s4 : S1.1 1 1 = 0 := by rw [← hS1, rd_nk (by omega), rd_eq]
      have s5 : S1.1 0 7 = (t : Int) + 1 := by rw [← hS1, rd_eq]
      have s6 : S1.2 = S.2 := by rw [← hS1]; rfl
      have f1 : ∀ k g, ¬ (k = 621 ∧ g = 0) → (ev_pI (ev_pL S1 723 0 (ev_i2l t)) 621 0 0).1 k g = S1.1 k g := fun k g h => if_neg h
      obtain ⟨v', _, _, w3'⟩ := tl_loop (Q := Q) (S := S) (T := ev_pI (ev_pL S1 723 0 (ev_i2l t)) 621 0 0) ⟨d1, d2⟩ (by rw [f1 621 1 (by omega), s1 621 1 (by omega) (by omega) (by omega) (by omega), d3]) (fun g hg => by rw [f1 622 g (by omega), s1 622 g (by omega) (by omega) (by omega) (by omega)]; exact (d4 g hg).1) 129 Q Q 0 0 (by omega) (by omega) (by omega) (by omega) (by omega) (Or.inl rfl)
      have ev : v' = 1 := by
        have q := ‹jl_48_6 Q (1 + 1) Q 0 0 S = some (v', S)›
        rw [w2] at q
        injection q with q
        injection q with q
        exact q.symm
      subst ev
      obtain ⟨T1, r1, r2, r3, r4⟩ := sp_337l (Q := Q) (n := S.1 1 1) (t := t) ⟨d1, d2⟩ (by omega) (S.1 1 1).toNat Q 0 (ev_pI (ev_pL S1 723 0 (ev_i2l t)) 621 0 0) (by omega) (by omega) (by omega) (by rw [f1 621 1 (by omega), s1 621 1 (by omega) (by omega) (by omega) (by omega), d3]) (by rw [f1 621 110 (by omega), s1 621 110 (by omega) (by omega) (by omega) (by omega), t3, et])
      have e2 : jm_337 Q (ev_pL S1 723 0 (ev_i2l t)) = some ((t : Int), ev_pI (ev_pI (ev_pI T1 701 (t : Int).toNat (S.1 1 1)) 621 1 0) 621 110 ((t : Int) + 1)) := by
        unfold jm_337
        rw [sp_b, sp_b, f1 621 110 (by omega), s1 621 110 (by omega) (by omega) (by omega) (by omega), t3, et, if_pos (by omega)]
        unfold jm_336
        rw [w3', sp_bd, if_pos (by decide), r1]
      generalize hS2 : ev_pI (ev_pI (ev_pI T1 701 (t : Int).toNat (S.1 1 1)) 621 1 0) 621 110 ((t : Int) + 1) = S2 at e2
      have u1 : ∀ k g, k ≠ 700 → ¬ (k = 701 ∧ g = t) → ¬ (k = 621 ∧ (g = 0 ∨ g = 1 ∨ g = 110)) → S2.1 k g = S1.1 k g := fun k g h1 h2 h3 => by
        rw [← hS2, sp_pI1, if_neg (by omega), sp_pI1, if_neg (by omega), sp_pI1, if_neg (by omega), r3 k g h1, f1 k g (by omega)]
      have u2 : S2.1 621 0 = 0 ∧ S2.1 621 1 = 0 ∧ S2.1 621 110 = (t : Int) + 1 ∧ S2.1 701 t = S.1 1 1 := by
        rw [← hS2]
        refine ⟨by rw [rd_nf (by omega), rd_nf (by omega), rd_nk (by omega), r3 621 0 (by omega), rd_eq], by rw [rd_nf (by omega), rd_eq], rd_eq, by rw [rd_nk (by omega), rd_nk (by omega), Int.toNat_natCast, rd_eq]⟩
      have u3 : ∀ g : Nat, S2.1 700 g = if 120 * (t : Int) ≤ (g : Int) ∧ (g : Int) < 120 * t + S.1 1 1 then S.1 2 ((g : Int) - 120 * t).toNat else S.1 700 g := fun g => by
        rw [← hS2, rd_nk (by omega), rd_nk (by omega), rd_nk (by omega), r2, f1 622 _ (by omega), s1 622 _ (by omega) (by omega) (by omega) (by omega), f1 700 _ (by omega), s1 700 _ (by omega) (by omega) (by omega) (by omega)]
        by_cases e : 120 * (t : Int) ≤ (g : Int) ∧ (g : Int) < 120 * t + S.1 1 1
        · rw [if_pos (by omega), if_pos e]
          exact (d4 _ (by omega)).1
        · rw [if_neg (by omega), if_neg e]
      have u4 : S2.2 = (ev_pL S1 723 0 (ev_i2l t)).2 := by rw [← hS2]; exact r4
      refine ⟨S2, fun K => la_4 (c := 0) (b := (t : Int)) hL hj (lw_4_ok c1) e2 u2.1 (fun _ => by rw [u4]; exact rd_L), ?_, ?_, ?_, by rw [u1 0 7 (by omega) (by omega) (by omega), s5]; omega⟩
      · have e11 : S2.1 1 1 = 0 := by rw [u1 1 1 (by omega) (by omega) (by omega), s4]
        exact ⟨by omega, by omega, by rw [u2.2.1, e11], fun g hg => by omega⟩
      · have e07 : S2.1 0 7 = (t : Int) + 1 := by rw [u1 0 7 (by omega) (by omega) (by omega), s5]
        unfold sp_TR
        rw [e07]
        refine ⟨by omega, u2.2.2.1, fun i hi => ?_⟩
        by_cases ei : i = t
        · subst ei
          have en : S2.1 (553 + 2 * i) 1 = S.1 1 1 := by rw [u1 _ 1 (by omega) (by omega) (by omega), s2]
          have eg : ∀ g : Nat, (g : Int) < S.1 1 1 → S2.1 (553 + 2 * i + 1) g = S.1 2 g := fun g hg => by rw [u1 _ g (by omega) (by omega) (by omega), s3 g hg]
          rw [en, u2.2.2.2]
          refine ⟨rfl, ⟨d1, d2⟩, fun g hg => ?_, ?_⟩
          · rw [u3, if_pos (by omega), eg g hg, show (((120 * i + g : Nat) : Int) - 120 * (i : Int)).toNat = g from by omega]
            exact ⟨rfl, (d4 g hg).2⟩
          · have e : sp_at S2 (553 + 2 * i) = sp_at S 1 := funext fun p => by
              unfold sp_at
              rw [en]
              by_cases h : 0 ≤ p ∧ p < S.1 1 1
              · rw [if_pos h, if_pos h, eg _ (by omega)]
              · rw [if_neg h, if_neg h]
            rw [e]
            exact hv.2
        · obtain ⟨a1, a2, a3, a4⟩ := t4 i (by omega)
          have ek : ∀ k g, k = 553 + 2 * i ∨ k = 553 + 2 * i + 1 → S2.1 k g = S.1 k g := fun k g hk => by rw [u1 k g (by omega) (by omega) (by omega), s1 k g (by omega) (by omega) (by omega) (by omega)]
          have e : sp_at S2 (553 + 2 * i) = sp_at S (553 + 2 * i) := funext fun p => by
            unfold sp_at
            rw [ek _ 1 (Or.inl rfl), ek _ _ (Or.inr rfl)]
          rw [u1 701 i (by omega) (by omega) (by omega), s1 701 i (by omega) (by omega) (by omega) (by omega), ek _ 1 (Or.inl rfl), e]
          refine ⟨a1, a2, fun g hg => ?_, a4⟩
          rw [u3, if_neg (by omega), ek _ g (Or.inr rfl)]
          exact a3 g hg
      · refine ⟨fun b g w => ?_, fun b g hb => ?_, ?_, ?_, ?_, ?_, ?_⟩
        · unfold sp_Wt at w
          rw [u1 b g (by omega) (by omega) (by omega), s1 b g (by omega) (by omega) (by omega) (by omega)]
        · rw [u4, sp_pL2, if_neg (fun z => hb z.1), s6]
        · rw [u4, sp_pL3, s6]
        · rw [u4, sp_pL3, s6]
        · rw [u4, sp_pL3, s6]
        · rw [u4, sp_pL3, s6]
          omega
        · rw [u4, sp_pL3, s6]
          omega
    · have hv : v = 0 := by omega
      subst hv
      have f1 : ∀ k g, ¬ (k = 621 ∧ g = 0) → (ev_pI (ev_pL S 723 0 (ev_i2l (-1))) 621 0 0).1 k g = S.1 k g := fun k g h => if_neg h
      obtain ⟨v', _, w2', w3'⟩ := tl_loop (Q := Q) (S := S) (T := ev_pI (ev_pL S 723 0 (ev_i2l (-1))) 621 0 0) ⟨d1, d2⟩ (by rw [f1 621 1 (by omega), d3]) (fun g hg => by rw [f1 622 g (by omega)]; exact (d4 g hg).1) 129 Q Q 0 0 (by omega) (by omega) (by omega) (by omega) (by omega) (Or.inl rfl)
      have ev : v' = 0 := by
        rw [w2] at w2'
        injection w2' with q
        injection q with q
        exact q.symm
      subst ev
      refine ⟨ev_pI (ev_pL S 723 0 (ev_i2l (-1))) 621 0 0, fun K => la_4 (c := 0) (b := -1) hL hj (lw_4_ok (S1 := S) (v := -1) ?_) ?_ rd_eq (fun _ => rd_L), DR_c (fun k g h1 h2 => f1 k g (by omega)) (f1 621 1 (by omega)), TR_c (fun k g h1 h2 => f1 k g (by omega)) (f1 621 110 (by omega)), ?_, Int.le_of_eq (f1 0 7 (by omega)).symm⟩
      · unfold jm_170
        rw [sp_b, if_pos h8]
        unfold jm_48
        rw [w2, sp_bd, if_neg (by decide)]
      · unfold jm_337
        rw [sp_b, sp_b, f1 621 110 (by omega), t3, if_pos (by omega)]
        unfold jm_336
        rw [w3', sp_bd, if_neg (by decide)]
      · exact ⟨fun b g w => (sp_F_ok (v := -1) (c := 0)).1 b g (fun q => w (by unfold sp_Wt; unfold sp_Wc at q; omega)), (sp_F_ok (v := -1) (c := 0)).2⟩
  · have e8 : S.1 0 7 = 8 := by omega
    refine ⟨_, fun K => la_4 (S1 := ev_tick S) (c := 1) (b := 0) hL hj (lw_4_x0 ?_) ?_ rd_eq (fun q => by cases q), DR_c (U := ev_pI (ev_pI (ev_tick S) 621 0 0) 621 0 1) (fun k g h1 h2 => (if_neg (by omega)).trans (if_neg (by omega))) (by rw [rd_nf (by omega), rd_nf (by omega)]; rfl), TR_c (fun k g h1 h2 => (if_neg (by omega)).trans (if_neg (by omega))) (by rw [rd_nf (by omega), rd_nf (by omega)]; rfl), ?_, by rw [rd_nk (by decide), rd_nk (by decide)]; exact Int.le_refl _⟩
    · unfold jm_170
      rw [sp_b, if_neg h8]
    · unfold jm_337
      rw [sp_b, sp_b, rd_nf (by omega), sp_tick1, t3, e8, if_neg (by decide)]
      rfl
    · exact ⟨fun b g w => (sp_F_no2 (c := 0) (d := 1)).1 b g (fun q => w (by unfold sp_Wt; unfold sp_Wc at q; omega)), (sp_F_no2 (c := 0) (d := 1)).2⟩
end OSX1
section OSX2
variable {Q k L j p : Nat} {xs : Nat → Int32} {rk : Nat → Nat} {S S2 T T2 U : ev_St}
theorem op_3b (hQ : QBp Q) (hD : sp_DR S) (hP : sp_PA S) (hK : sp_PT S) (hL : L ≤ 3072) (hj : j + 6 ≤ L) : ∃ S2, (∀ K, ja_313 Q L xs K S = K S2) ∧ sp_DR S2 ∧ sp_PA S2 ∧ sp_PT S2 ∧ sp_H sp_W3 S S2 ∧ (sp_ZR S → sp_ZR S2) ∧ S.1 0 5 ≤ S2.1 0 5 ∧ ∀ q : Nat, (q : Int) < S.1 0 5 → (∀ c g, 313 + 20 * q ≤ c → c ≤ 313 + 20 * q + 19 → S2.1 c g = S.1 c g ∧ S2.2.1 c g = S.2.1 c g) ∧ ∀ c g, 662 ≤ c → c ≤ 664 → 210 * q ≤ g → g < 210 * q + 210 → S2.1 c g = S.1 c g := by
  have hQ1 : 1000000 ≤ Q := hQ.2
  have hD0 := hD
  have hP0 := hP
  have hK0 := hK
  obtain ⟨d1, d2, d3, d4⟩ := hD
  obtain ⟨hPx, rk, hrk⟩ := hP
  obtain ⟨⟨k1, k2, k3⟩, k4⟩ := hK
  by_cases full : S.1 0 5 < 12
  · obtain ⟨p, hp⟩ : ∃ p : Nat, S.1 0 5 = (p : Int) := ⟨(S.1 0 5).toNat, by omega⟩
    have hp12 : p < 12 := by omega
    obtain ⟨k, hk⟩ : ∃ k, k = 313 + 20 * p := ⟨_, rfl⟩
    obtain ⟨ok1, ok2⟩ := pk_ob p hp12
    rw [← hk] at ok1 ok2
    have hDx : ∀ U : ev_St, (∀ c g, c = 621 ∧ g = 1 ∨ (622 ≤ c ∧ c ≤ 624) → U.1 c g = S.1 c g) → DRx S U ∧ PRx S U := fun U hU => by
      refine ⟨⟨⟨d1, d2⟩, by rw [hU _ _ (by omega), d3], fun g hg => by rw [hU _ _ (by omega)]; exact d4 g hg⟩, fun i hi => ?_⟩
      rw [hU 623 i (by omega)]
      rcases hPx i hi with z | ⟨z1, z2, z3, z4⟩
      · exact Or.inl z
      · exact Or.inr ⟨z1, z2, z3, fun g hg => by rw [hU 624 _ (by omega)]; exact z4 g hg⟩
    have rd := fun (U : ev_St) (hU : ∀ c g, c = 621 ∧ g = 1 ∨ (622 ≤ c ∧ c ≤ 624) → U.1 c g = S.1 c g) => rd_all (Q := Q) (k := k) (S := S) (T := U) (rk := rk) (a2 := -1) (a0 := -1) (by omega) ok1 (by omega) (hDx U hU).1 (hDx U hU).2 hrk (Or.inl ⟨rfl, rfl⟩)
    rcases rd S (fun _ _ _ => rfl) with ⟨S', T0, a1, _, a3, _⟩ | ⟨S', T0, N, M, φ, ψ, own, up, Z, a1, _, a3, a4, a5, a6, a7, a8, a9⟩
    · -- both refuse
      obtain ⟨f1, f2, f3, f4, f5⟩ := a3
      obtain ⟨U, hU⟩ : ∃ U, U = ev_pI (ev_pL S' 723 0 (ev_i2l (-1))) 621 0 0 := ⟨_, rfl⟩
      have u1 : ∀ c g, ¬ (c = 621 ∧ g = 0) → U.1 c g = S'.1 c g := fun c g h => by rw [hU]; exact if_neg h
      have u0 : ∀ c g, ¬ Wk k c → ¬ (c = 621 ∧ g = 0) → U.1 c g = S.1 c g := fun c g h1 h2 => by rw [u1 c g h2, f1 c g h1]
      have c1 : jm_169 Q S = some (.inl (-1), S') := by
        unfold jm_169
        rw [sp_b, if_pos full, sp_b, hp, sp_if (by omega), sp_b, Int.toNat_natCast, ← hk, show (1 + 1 : Nat) = 2 from rfl, a1, sp_bd, if_neg (by decide)]
      rcases rd U (fun c g h => u0 c g (by unfold Wk; omega) (by omega)) with ⟨S3, T2, b1, b2, b3, b4⟩ | ⟨S3, T2, _, _, _, _, _, _, _, b1, _⟩
      · have r1 : jm_272 Q (ev_pL S' 723 0 (ev_i2l (-1))) = some (-1, T2) := by
          unfold jm_272
          rw [sp_b, ← hU, sp_b, u0 621 5 (by unfold Wk; omega) (by omega), k3, if_pos (by omega), b2, sp_bd, if_neg (fun z => z rfl)]
        obtain ⟨g1, g2, g3, g4⟩ := fr_265 b2
        have t0 : ∀ c g, ¬ Wk k c → ¬ Rk c g → ¬ (c = 621 ∧ g = 0) → T2.1 c g = S.1 c g := fun c g h1 h2 h3 => by rw [g1 c g h2, u0 c g h1 h3]
        have tl : ∀ c g, LOWc c g → T2.1 c g = S.1 c g := fun c g h => by
          rw [b4.1 c g h, u0 c g (by unfold LOWc at h; unfold Wk; omega) (by unfold LOWc at h; omega)]
        have uL : ∀ c g, ¬ Wk k c → c ≠ 723 → U.2.1 c g = S.2.1 c g := fun c g nw n7 => by
          rw [hU, sp_pI2, sp_pL2, if_neg (fun z => n7 z.1), f2 c g nw]
        have tL : ∀ c g, ¬ Wk k c → ¬ Rk c g → c ≠ 723 → T2.2.1 c g = S.2.1 c g := fun c g h1 h2 h3 => by rw [g2 c g h2, uL c g h1 h3]
        refine ⟨T2, fun K => la_3 (S1 := ev_pL S' 723 0 (ev_i2l (-1))) (c := 0) (b := -1) hL hj (lw_3_ok c1) r1 ?_ (fun _ => ?_), DR_c2 (fun x g h => t0 x g (by unfold Wk; omega) (by unfold Rk; omega) (by omega)) hD0, PA_c2 (fun x g h => t0 x g (by unfold Wk; omega) (by unfold Rk; omega) (by omega)) hP0, PT_c hK0 ⟨t0 _ _ (by unfold Wk; omega) (by unfold Rk; omega) (by omega), t0 _ _ (by unfold Wk; omega) (by unfold Rk; omega) (by omega)⟩ (fun q hq => ⟨fun x i x1 x2 => ⟨t0 x i (by unfold Wk; omega) (by unfold Rk; omega) (by omega), tL x i (by unfold Wk; omega) (by unfold Rk; omega) (by omega)⟩, ⟨fun c g y1 y2 y3 => ?_, fun c g y1 y2 y3 y4 => ?_, fun c y => tl c q (by unfold LOWc; omega), fun i hi => tl _ _ (by unfold LOWc; omega), fun i hi => tl _ _ (by unfold LOWc; omega)⟩, ⟨t0 _ _ (by unfold Wk; omega) (by unfold Rk; omega) (by omega), t0 _ _ (by unfold Wk; omega) (by unfold Rk; omega) (by omega), fun c g y1 y2 _ _ => t0 _ _ (by unfold Wk; omega) (by unfold Rk; omega) (by omega)⟩⟩), ⟨fun c g h => ?_, fun c g h => ?_, fun c g h => ?_, ?_, ?_, ?_, ?_⟩, fun hZ => ZR_c hZ (fun c g hh => t0 c g (by unfold Wk; omega) (by unfold Rk; omega) (by omega)), Int.le_of_eq (t0 0 5 (by unfold Wk; omega) (by unfold Rk; omega) (by omega)).symm, fun q hq => ⟨fun c g w1 w2 => ⟨t0 c g (by unfold Wk; omega) (by unfold Rk; omega) (by omega), tL c g (by unfold Wk; omega) (by unfold Rk; omega) (by omega)⟩, fun c g w1 w2 _ _ => t0 c g (by unfold Wk; omega) (by unfold Rk; omega) (by omega)⟩⟩
        · rw [g1 _ _ (by unfold Rk; omega), hU, rd_eq]
        · rw [g2 _ _ (by unfold Rk; omega), hU]
          exact rd_L
        · by_cases z : c ≤ 632
          · exact tl c g (by unfold LOWc; omega)
          · exact t0 _ _ (by unfold Wk; omega) (by unfold Rk; omega) (by omega)
        · rw [b4.2 c g y1 y2 (by omega), uL c g (by unfold Wk; omega) (by omega)]
        · have h' : ¬ W3i c g := fun z => h (Or.inl ⟨rfl, z⟩)
          unfold W3i at h'
          exact t0 c g (by unfold Wk; omega) (by unfold Rk; omega) (by omega)
        · have h' : ¬ W3l c := fun z => h (Or.inr (Or.inl ⟨rfl, z⟩))
          unfold W3l at h'
          exact tL c g (by unfold Wk; omega) (by unfold Rk; omega) (by omega)
        · have n : ¬ (c = 3 ∨ c = 6 ∨ c = 15 ∨ (c = 221 ∧ g = 9)) := fun z => h (Or.inr (Or.inr ⟨rfl, z⟩))
          rw [g3, hU]
          exact f3 c g (by omega) (by omega) (by omega)
        · rw [g4, hU]
          exact congrArg (fun z => z.1) f4
        · rw [g4, hU]
          exact congrArg (fun z => z.2.1) f4
        · rw [g4, hU]
          have := congrArg (fun z => z.2.2.1) f4
          exact Nat.le_trans (Nat.le_of_eq this) (Nat.le_succ _)
        · rw [g4, hU]
          have := congrArg (fun z => z.2.2.2) f4
          exact Nat.le_trans (Nat.le_of_eq this) (Nat.le_add_right _ _)
      · rw [a1] at b1
        exact absurd (show (0 : Int) = 1 from congrArg Prod.fst (Option.some.inj b1)) (by decide)
    · -- both read it
      obtain ⟨f1, f2, f3, f4, f5⟩ := a3
      obtain ⟨V, _, v1, ⟨v2, v3, v4, v5⟩, _⟩ := keep_two (Q := Q) a4 hp12 hk hQ
      have q1 : ∀ c g, ¬ Wk k c → ¬ (222 ≤ c ∧ c ≤ 231) → ¬ (k ≤ c ∧ c < k + 20) → V.1 c g = S.1 c g := fun c g h1 h2 h3 => by
        rw [v2 c g h2 (by omega) (by omega), f1 c g h1]
      have q2 : ∀ c g, ¬ Wk k c → ¬ (222 ≤ c ∧ c ≤ 231) → ¬ (k ≤ c ∧ c < k + 20) → V.2.1 c g = S.2.1 c g := fun c g h1 h2 h3 => by
        rw [v3 c g h2 (by omega) (by omega), f2 c g h1]
      obtain ⟨S1, hS1⟩ : ∃ S1, S1 = ev_pI (ev_pI V 1 1 0) 0 5 ((p : Int) + 1) := ⟨_, rfl⟩
      have c1 : jm_169 Q S = some (.inl (p : Int), S1) := by
        have e5 : V.1 0 5 = (p : Int) := by rw [q1 0 5 (by unfold Wk; omega) (by omega) (by omega), hp]
        unfold jm_169
        rw [sp_b, if_pos full, sp_b, hp, sp_if (by omega), sp_b, Int.toNat_natCast, ← hk, show (1 + 1 : Nat) = 2 from rfl, a1, sp_bd, if_pos (by decide), v1, sp_bd, sp_b, sp_b, rd_nk (by decide), e5, sp_ck (by omega), sp_b, ← hS1, sp_b, hS1, rd_eq, sp_ck (by omega), show (p : Int) + 1 - 1 = (p : Int) from by omega]
      have s1 : ∀ c g, ¬ (c = 1 ∧ g = 1) → ¬ (c = 0 ∧ g = 5) → S1.1 c g = V.1 c g := fun c g h1 h2 => by rw [hS1, sp_pI1, if_neg h2, sp_pI1, if_neg h1]
      have s2 : S1.2 = V.2 := by rw [hS1]; rfl
      obtain ⟨U, hU⟩ : ∃ U, U = ev_pI (ev_pL S1 723 0 (ev_i2l (p : Int))) 621 0 0 := ⟨_, rfl⟩
      have u1 : ∀ c g, ¬ (c = 621 ∧ g = 0) → U.1 c g = S1.1 c g := fun c g h => by rw [hU]; exact if_neg h
      have u2 : ∀ c g, c ≠ 723 → U.2.1 c g = V.2.1 c g := fun c g h => by
        rw [hU, sp_pI2, sp_pL2, if_neg (fun z => h z.1), s2]
      have u3 : U.2.2 = V.2.2 := by
        rw [hU]
        show S1.2.2 = _
        rw [s2]
      have u5 : ∀ c g, 553 ≤ c → ¬ (c = 621 ∧ g = 0) → U.1 c g = S.1 c g := fun c g h1 h2 => by
        rw [u1 c g h2, s1 c g (by omega) (by omega), q1 c g (by unfold Wk; omega) (by omega) (by omega)]
      rcases rd U (fun c g h => u5 c g (by omega) (by omega)) with ⟨S3, T2, b1, _⟩ | ⟨S3, T2, N, M, φ, ψ, own, up, Z, b1, b2, _, b4, b5, _, b7, b8, b9⟩
      · rw [a1] at b1
        exact absurd (show (1 : Int) = 0 from congrArg Prod.fst (Option.some.inj b1)) (by decide)
      · have e3 : S3 = S' := by
          rw [a1] at b1
          exact (congrArg Prod.snd (Option.some.inj b1)).symm
        rw [e3] at b2 b4 b5
        obtain ⟨g1, g2, g3, g4⟩ := fr_265 b2
        obtain ⟨V9, T4, w1, _, w3, w4, w5, w6, w7, w8⟩ := keep_two (Q := Q) b4 hp12 hk hQ
        have eV : V9 = V := by
          rw [v1] at w1
          exact (congrArg Prod.snd (Option.some.inj w1)).symm
        rw [eV] at w4
        have n5 : T2.1 621 5 = (p : Int) := by rw [g1 _ _ (by unfold Rk; omega), u5 _ _ (by omega) (by omega), k3, hp]
        have n5' : T4.1 621 5 = (p : Int) := by
          rw [w5 _ _ (by unfold RTc KPc; omega), n5]
        obtain ⟨S2, hS2⟩ : ∃ S2, S2 = ev_pI (ev_pI T4 621 1 0) 621 5 ((p : Int) + 1) := ⟨_, rfl⟩
        have r5 : jm_272 Q (ev_pL S1 723 0 (ev_i2l (p : Int))) = some ((p : Int), S2) := by
          unfold jm_272
          rw [sp_b, ← hU, sp_b, u5 621 5 (by omega) (by omega), k3, hp, if_pos (by omega), b2, sp_bd, if_pos (by omega), sp_b, n5, w3, sp_bd, sp_b, sp_b, rd_nf (by decide), n5', sp_ck (by omega), sp_b, ← hS2, sp_b, hS2, rd_eq, sp_ck (by omega), show (p : Int) + 1 - 1 = (p : Int) from by omega]
        have z1 : ∀ c g, ¬ (c = 621 ∧ (g = 1 ∨ g = 5)) → S2.1 c g = T4.1 c g := fun c g h => by rw [hS2, sp_pI1, if_neg (by omega), sp_pI1, if_neg (by omega)]
        have z2 : S2.2 = T4.2 := by rw [hS2]; rfl
        have z3 : ∀ c g, ¬ (c = 621 ∧ (g = 1 ∨ g = 5)) → ¬ RTc p c g → ¬ Rk c g ∨ LOWc c g → S2.1 c g = U.1 c g := fun c g h1 h2 h3 => by
          rw [z1 c g h1, w5 c g h2]
          rcases h3 with y | y
          · exact g1 c g y
          · exact b8.1 c g y
        have z4 : ∀ c g, c < 553 → S2.1 c g = S1.1 c g := fun c g h => by
          rw [z3 c g (by omega) (by unfold RTc KPc; omega) (Or.inl (by unfold Rk; omega)), u1 c g (by omega)]
        have z5 : ∀ c g, 553 ≤ c → ¬ (c = 621 ∧ (g = 0 ∨ g = 1 ∨ g = 5)) → ¬ RTc p c g → ¬ Rk c g ∨ LOWc c g → S2.1 c g = S.1 c g := fun c g h1 h2 h3 h4 => by
          rw [z3 c g (by omega) h3 h4, u5 c g h1 (by omega)]
        have z6 : ∀ c g, c < 553 → ¬ Wk k c → ¬ (222 ≤ c ∧ c ≤ 231) → ¬ (k ≤ c ∧ c < k + 20) → ¬ (c = 1 ∧ g = 1) → ¬ (c = 0 ∧ g = 5) → S2.1 c g = S.1 c g := fun c g h1 h2 h3 h4 h5 h6 => by
          rw [z4 c g h1, s1 c g h5 h6, q1 c g h2 h3 h4]
        have y1 : ∀ c g, c < 553 → S2.2.1 c g = V.2.1 c g := fun c g h => by
          rw [z2, w6 c g (by omega), g2 c g (by unfold Rk; omega), u2 c g (by omega)]
        have y2 : ∀ c g, c < 553 → ¬ Wk k c → ¬ (222 ≤ c ∧ c ≤ 231) → ¬ (k ≤ c ∧ c < k + 20) → S2.2.1 c g = S.2.1 c g := fun c g h1 h2 h3 h4 => by
          rw [y1 c g h1, q2 c g h2 h3 h4]
        have x05 : S2.1 0 5 = (p : Int) + 1 := by rw [z4 _ _ (by omega), hS1, rd_eq]
        have x11 : S2.1 1 1 = 0 := by rw [z4 _ _ (by omega), hS1, rd_nk (by decide), rd_eq]
        have x621 : S2.1 621 5 = (p : Int) + 1 ∧ S2.1 621 1 = 0 ∧ S2.1 621 0 = 0 := by
          refine ⟨by rw [hS2, rd_eq], by rw [hS2, rd_nf (by decide), rd_eq], ?_⟩
          rw [z3 _ _ (by omega) (by unfold RTc KPc; omega) (Or.inl (by unfold Rk; omega)), hU, rd_eq]
        refine ⟨S2, fun K => la_3 (S1 := ev_pL S1 723 0 (ev_i2l (p : Int))) (c := 0) (b := (p : Int)) hL hj (lw_3_ok c1) r5 x621.2.2 (fun _ => ?_), ⟨by omega, by omega, by rw [x621.2.1, x11], fun g hg => by omega⟩, PA_c2 (fun x g h => ?_) hP0, ⟨⟨by omega, by omega, by rw [x621.1, x05]⟩, fun q hq => ?_⟩, ⟨fun c g h => ?_, fun c g h => ?_, fun c g h => ?_, ?_, ?_, ?_, ?_⟩, fun hZ q c g n0 n1 n2 n3 hq => ?_, by rw [x05, hp]; omega, fun q hq => ⟨fun c g i1 i2 => ⟨z6 c g (by omega) (by unfold Wk; omega) (by omega) (by omega) (by omega) (by omega), y2 c g (by omega) (by unfold Wk; omega) (by omega) (by omega)⟩, fun c g i1 i2 i3 i4 => z5 _ _ (by omega) (by omega) (by unfold RTc KPc; omega) (Or.inl (by unfold Rk; omega))⟩⟩
        · rw [z2, w6 _ _ (by omega), g2 _ _ (by unfold Rk; omega), hU]
          exact rd_L
        · by_cases y : x < 553
          · exact z6 x g y (by unfold Wk; omega) (by omega) (by omega) (by omega) (by omega)
          · exact z5 x g (by omega) (by omega) (by unfold RTc KPc; omega) (Or.inl (by unfold Rk; omega))
        · by_cases e : q = p
          · subst e
            rw [← hk]
            refine KEPT_c w4 (fun x i i1 i2 => ⟨?_, y1 x i (by omega)⟩) ⟨fun c g _ _ _ => z1 c g (by omega), fun c g _ _ _ _ => by rw [z2], fun c _ => z1 _ _ (by omega), fun i _ => z1 _ _ (by omega), fun l _ => z1 _ _ (by omega)⟩ ⟨z1 _ _ (by omega), z1 _ _ (by omega), fun c g _ _ _ _ => z1 _ _ (by omega)⟩
            rw [z4 x i (by omega), s1 x i (by omega) (by omega)]
          · have ql : q < p := by omega
            refine KEPT_c (k4 q (by omega)) (fun x i i1 i2 => ⟨z6 x i (by omega) (by unfold Wk; omega) (by omega) (by omega) (by omega) (by omega), y2 x i (by omega) (by unfold Wk; omega) (by omega) (by omega)⟩) ⟨fun c g i1 i2 i3 => ?_, fun c g i1 i2 i3 i4 => ?_, fun c i1 => ?_, fun i i1 => ?_, fun l i1 => ?_⟩ ⟨?_, ?_, fun c g i1 i2 i3 i4 => ?_⟩
            · refine z5 c g (by omega) (by omega) (by unfold RTc KPc; omega) ?_
              by_cases y : c ≤ 632
              · exact Or.inr (by unfold LOWc; omega)
              · exact Or.inl (by unfold Rk; omega)
            · rw [z2, w6 c g (by omega), b8.2 c g i1 i2 (by omega), u2 c g (by omega), q2 c g (by unfold Wk; omega) (by omega) (by omega)]
            · exact z5 _ _ (by omega) (by omega) (by unfold RTc KPc; omega) (Or.inr (by unfold LOWc; omega))
            · exact z5 _ _ (by omega) (by omega) (by unfold RTc KPc; omega) (Or.inr (by unfold LOWc; omega))
            · exact z5 _ _ (by omega) (by omega) (by unfold RTc KPc; omega) (Or.inr (by unfold LOWc; omega))
            · exact z5 _ _ (by omega) (by omega) (by unfold RTc KPc; omega) (Or.inl (by unfold Rk; omega))
            · exact z5 _ _ (by omega) (by omega) (by unfold RTc KPc; omega) (Or.inl (by unfold Rk; omega))
            · exact z5 _ _ (by omega) (by omega) (by unfold RTc KPc; omega) (Or.inl (by unfold Rk; omega))
        · have h' : ¬ W3i c g := fun z => h (Or.inl ⟨rfl, z⟩)
          unfold W3i at h'
          by_cases y : c < 553
          · exact z6 c g y (by unfold Wk; omega) (by omega) (by omega) (by omega) (by omega)
          · exact z5 c g (by omega) (by omega) (by unfold RTc KPc; omega) (Or.inl (by unfold Rk; omega))
        · have h' : ¬ W3l c := fun z => h (Or.inr (Or.inl ⟨rfl, z⟩))
          unfold W3l at h'
          by_cases y : c < 553
          · exact y2 c g y (by unfold Wk; omega) (by omega) (by omega)
          · rw [z2, w6 c g (by omega), g2 c g (by unfold Rk; omega), u2 c g (by omega), q2 c g (by unfold Wk; omega) (by omega) (by omega)]
        · have n : ¬ (c = 3 ∨ c = 6 ∨ c = 15 ∨ (c = 221 ∧ g = 9)) := fun z => h (Or.inr (Or.inr ⟨rfl, z⟩))
          rw [z2, w7, g3, u3, v4 c g (by omega)]
          exact f3 c g (by omega) (by omega) (by omega)
        · rw [z2, w7, g4, u3, v5, f4]
        · rw [z2, w7, g4, u3, v5, f4]
        · rw [z2, w7, g4, u3, v5, f4]
          exact Nat.le_succ _
        · rw [z2, w7, g4, u3, v5, f4]
          exact Nat.le_add_right _ _
        · rw [x621.1] at hq
          by_cases e : q = p
          · rcases hq with y | ⟨e1, e2⟩
            · omega
            · rw [e, z1 639 _ (by omega)] at e1
              rw [e, z1 665 _ (by omega)] at e2
              rw [e, z1 c _ (by omega), w8 c g n1 n2 n3 e1 e2, g1 c _ (by unfold Rk; omega), u5 c _ (by omega) (by omega)]
              exact hZ p c g hp12 n1 n2 n3 (Or.inl (by omega))
          · rw [z5 c _ (by omega) (by omega) (by unfold RTc KPc; omega) (Or.inl (by unfold Rk; omega))]
            rw [z5 639 q (by omega) (by omega) (by unfold RTc KPc; omega) (Or.inl (by unfold Rk; omega)), z5 665 q (by omega) (by omega) (by unfold RTc KPc; omega) (Or.inl (by unfold Rk; omega))] at hq
            refine hZ q c g n0 n1 n2 n3 ?_
            rcases hq with y | y
            · exact Or.inl (by omega)
            · exact Or.inr y
  · have fF := sp_F_no2 (S := S) (c := 0) (d := 1)
    have h0 : ∀ c g, ¬ (c = 621 ∧ g = 0) → (ev_pI (ev_pI (ev_tick S) 621 0 0) 621 0 1).1 c g = S.1 c g := fun c g h => (if_neg h).trans (if_neg h)
    have hl : (ev_pI (ev_pI (ev_tick S) 621 0 0) 621 0 1).2.1 = S.2.1 := rfl
    refine ⟨_, fun K => la_3 (S1 := ev_tick S) (c := 1) (b := 0) hL hj (lw_3_x0 ?_) ?_ rd_eq (fun q => by cases q), DR_c2 (fun x g h => h0 x g (by omega)) hD0, PA_c2 (fun x g h => h0 x g (by omega)) hP0, PT_c hK0 ⟨h0 _ _ (by omega), h0 _ _ (by omega)⟩ (fun q hq => ⟨fun x i x1 x2 => ⟨h0 x i (by omega), by rw [hl]⟩, ⟨fun c g _ _ _ => h0 c g (by omega), fun c g _ _ _ _ => by rw [hl], fun c _ => h0 _ _ (by omega), fun i _ => h0 _ _ (by omega), fun l _ => h0 _ _ (by omega)⟩, ⟨h0 _ _ (by omega), h0 _ _ (by omega), fun c g _ _ _ _ => h0 _ _ (by omega)⟩⟩), sp_H_F fF (fun b g w => Or.inl ⟨rfl, ?_⟩) (fun g => Or.inr (Or.inl ⟨rfl, ?_⟩)), fun hZ => ZR_c hZ (fun c g hh => h0 c g (by omega)), Int.le_of_eq (h0 0 5 (by omega)).symm, fun q hq => ⟨fun c g w1 w2 => ⟨h0 c g (by omega), by rw [hl]⟩, fun c g w1 w2 _ _ => h0 c g (by omega)⟩⟩
    · unfold jm_169
      rw [sp_b, if_neg full]
    · unfold jm_272
      rw [sp_b, sp_b, if_neg (fun z => z (by show S.1 621 5 = 12; omega))]
      rfl
    · unfold sp_Wc at w
      unfold W3i
      omega
    · unfold W3l
      omega
end OSX2
section OSX3
variable {Q k g w l l2 s s2 wd n x d i pc f m len st r : Nat} {P : Nat → T3} {E : Nat → Int → Bool} {X : Nat → SNs} {lv A : SNs} {c : CPs} {out rs : LFs} {L : List INS} {S S0 S1 S2 T U : ev_St} {a b v stamp : Int} {z : INS} {ms : Bool}
theorem cl_157b (hR : RST Q k g w wd n len L P E X lv S0) (hQ : 6000 ≤ Q) (hX : ∀ i, X len i = false) (hs : (S0.2.2.1 k 2 = l + 1 ∧ S0.2.2.1 k 3 = l2 + 1 ∧ S0.2.2.1 k 4 = s + 1 ∧ S0.2.2.1 k 5 = s2 + 1) ∧ (S0.1 k 0 = (wd : Int) ∧ S0.1 k 7 = (st : Int)) ∧ (((l = k + 1 ∧ l2 = k + 2) ∨ (l = k + 2 ∧ l2 = k + 1)) ∧ ((s = k + 8 ∧ s2 = k + 9) ∨ (s = k + 9 ∧ s2 = k + 8)))) (hst : st + len ≤ 1999999900) (hse : ∀ i, i < 208 → S0.1 (k + 3) i ≤ (st : Int)) (hx : x ≤ len) : ∃ S', jm_157 Q k (g + 1) (w + 1) (x : Int) S0 = some ((), S') ∧ GTc k S0 S' ∧ THc k wd (st + len + 2) S' ∧ (match PK P n E X lv (len - x) x [] true with
    | none => S'.1 k 14 = 0
    | some e => S'.1 k 14 = 1 ∧ S'.1 k 13 = (e.1 : Int) ∧ ∀ j, j < wd → S'.1 (k + 7) j = e.2 j) := by
  obtain ⟨⟨r2, r3, r4, r5⟩, ⟨e0, e7⟩, lsw, ssw⟩ := hs
  have hR0 := hR
  obtain ⟨⟨⟨a1, a2, a3, a4, a5, a6, a7, a8, a9⟩, ag⟩, ⟨hp, hn, h0⟩, hI, hl, hE, hXX, ⟨w1, w2, w3, w4, w5⟩, ⟨k1, k4⟩, hw⟩ := hR
  obtain ⟨Y, hY⟩ : ∃ Y, Y = ev_pI (ev_pI (ev_pR S0 k 11 (g + 1)) k 15 0) k 14 0 := ⟨_, rfl⟩
  obtain ⟨Z, hZ⟩ : ∃ Z, Z = ev_pI Y k 7 ((st + 1 : Nat) : Int) := ⟨_, rfl⟩
  have zo : ∀ c i, ¬ (c = k ∧ (i = 15 ∨ i = 14 ∨ i = 7)) → Z.1 c i = S0.1 c i := fun c i h => by
    rw [hZ, sp_pI1, if_neg (by omega)]
    try dsimp only
    rw [hY, sp_pI1, if_neg (by omega)]
    try dsimp only
    rw [sp_pI1, if_neg (by omega)]
    rfl
  have zr : ∀ c i, Z.2.2.1 c i = if c = k ∧ i = 11 then g + 1 else S0.2.2.1 c i := fun c i => by
    rw [hZ, hY]
    rfl
  have GZ : GTc k S0 Z := ⟨fun c i h => zo c i (by omega), by rw [hZ, hY]; rfl, fun c i h => by rw [zr, if_neg (by omega)], by rw [hZ, hY]; rfl⟩
  -- the same ground, with the program in its place
  have hRZ : RST Q k g w wd n len L P E X lv Z := by
    refine ⟨⟨⟨a1, a2, a3, a4, a5, a6, a7, a8, a9⟩, ag⟩, ⟨⟨?_, hp.2.1, fun i z hz => ?_⟩, hn, h0⟩, hI, fun a ha => ?_, fun x hx i z hz h1 S hS => hE x hx i z hz h1 S (GTc_t GZ hS), fun x hx i z hz h1 => ?_, ⟨w1, w2, w3, ?_, w5⟩, ⟨k1, k4⟩, hw⟩
    · rw [zo _ _ (by omega)]
      exact hp.1
    · obtain ⟨y1, y2, y3⟩ := hp.2.2 i z hz
      rw [zo _ _ (by omega), zo _ _ (by omega), GZ.2.1]
      exact ⟨y1, y2, y3⟩
    · rw [zo _ _ (by omega)]
      exact hl a ha
    · rw [show sp_at Z w (x : Int) = sp_at S0 w (x : Int) by unfold sp_at; rw [zo w 1 (by omega), zo (w + 1) _ (by omega)]]
      exact hXX x hx i z hz h1
    · rw [zo _ _ (by omega)]
      exact w4
  have sZ : SWc k g wd l l2 s s2 (st + 1) Z := by
    refine ⟨⟨?_, ?_, ?_, ?_, ?_⟩, ⟨?_, by rw [hZ, rd_eq]⟩, lsw, ssw⟩
    · rw [zr, if_pos ⟨rfl, rfl⟩]
    · rw [zr, if_neg (by omega)]
      exact r2
    · rw [zr, if_neg (by omega)]
      exact r3
    · rw [zr, if_neg (by omega)]
      exact r4
    · rw [zr, if_neg (by omega)]
      exact r5
    · rw [zo _ _ (by omega)]
      exact e0
  have z14 : Z.1 k 14 = 0 := by rw [hZ, rd_nf (by omega), hY, rd_eq]
  have TZ : TRc k l s wd n ((st + 1 : Nat) : Int) (dfsL P (E x) x n [] (fun _ => false)).2 (fun j => Z.1 (k + 6) j) (flt lv (dfsL P (E x) x n [] (fun _ => false)).1) Z := by
    refine ⟨fun i hi => ?_, fun j hj => rfl, ?_, fun i q e he => by cases he⟩
    · rw [zo _ _ (by omega)]
      have := hse i hi
      refine ⟨by omega, fun _ => ⟨fun h => absurd (show false = true from h) (by decide), fun h => by omega⟩⟩
    · rw [hZ, rd_nf (by omega), hY, rd_nf (by omega), rd_eq]
      rfl
  obtain ⟨S', i1, i2, i3, i4⟩ := cl_run hRZ hQ hX (len - x) x l l2 s s2 (st + 1) true [] (fun j => Z.1 (k + 6) j) Z Q (by omega) GTc_r sZ (by omega) TZ (fun y hy => by cases hy) ⟨fun _ => z14, fun _ => rfl⟩ (by omega)
  obtain ⟨t1, t2, t3, t4, t5, t6, t7, t8, t9⟩ := i3
  refine ⟨S', ?_, GTc_t GZ i2, ⟨t1, t2, t3, t4, t5, t6, t7, by omega, t9⟩, ?_⟩
  · unfold jm_157 jm_158
    rw [sp_b, sp_b, sp_b, ← hY, sp_b, show Y.1 k 7 = (st : Int) by rw [hY, rd_nf (by omega), rd_nf (by omega)]; exact e7, sp_ck (by omega), sp_b, show (st : Int) + 1 = ((st + 1 : Nat) : Int) from by omega, ← hZ, sp_bd]
    exact i1
  · generalize PK P n E X lv (len - x) x [] true = o at i4 ⊢
    cases o with
    | none => exact i4.1.trans z14
    | some e => exact i4
end OSX3
section OSX4
variable {Q k p N M m n w len x i kt wd b B : Nat} {φ ψ own up lo : Nat → Nat} {S S1 T T1 U V : ev_St} {L : List INS} {g v y : Int}
theorem THn_of (h : THc k wd B S) : THn k wd B S := by
  obtain ⟨g', l, l2, s, s2, st, ⟨⟨r1, r2, r3, r4, r5⟩, ⟨e0, e7⟩, ll, ss⟩, hst, hse⟩ := h
  exact ⟨l, l2, s, s2, st, ⟨r2, r3, r4, r5⟩, ⟨e0, e7⟩, ⟨ll, ss⟩, hst, hse⟩
theorem eng_twob (hQ : 1000000 ≤ Q) (hK : sp_PT S) (hB : sp_BR S) (hG : SG S) (hp : (p : Int) < S.1 0 5) (hm : m < 3) (hl : S.1 (263 + 2 * m) 1 = (len : Int)) (hl2 : len ≤ 80) (hx : x ≤ len) (h14 : S.1 (313 + 20 * p) 14 ≠ 0) (hk : (kt = 284 ∧ wd = 20) ∨ (kt = 294 ∧ wd = 1)) (hT : THn kt wd B S) (hb : B ≤ 1999999000) : ∃ S1, jm_157 Q kt (313 + 20 * p + 12 + 1) (263 + 2 * m + 1) (x : Int) S = some ((), S1) ∧ GTc kt S S1 ∧ THn kt wd (B + 90) S1 ∧ ∀ T, RFs S T → ∃ T1 T2 v, jm_288 Q (m : Int) T = some ((), T1) ∧ jm_315 Q (p : Int) (x : Int) T1 = some (v, T2) ∧ (∀ c g, ¬ (c = 621 ∧ (g = 73 ∨ g = 81)) → ¬ (669 ≤ c ∧ c ≤ 672) → ¬ (678 ≤ c ∧ c ≤ 680) → T2.1 c g = T.1 c g) ∧ T2.2 = T.2 ∧ ∀ g, 0 ≤ g ∧ g ≤ 9 → wd = 20 ∨ g = 0 → ∃ r, jm_159 Q kt g S1 = some (r, S1) ∧ jm_327 Q (if v = 0 then 0 else 1) g T2 = some (r, T2) := by
  have hp12 : p < 12 := by have := hK.1; omega
  obtain ⟨N, M, φ, ψ, own, up, lo, L, hA, hP⟩ := PRG_of (hK.2 p hp) hp12 rfl h14
  obtain ⟨hw, l0, l201, In, hlb, hi0⟩ := PU_wf hP
  have hR := RST_of (Q := Q) hA hP hk hm hl hl2
  obtain ⟨l, l2, s, s2, st, hs1, hs2, hs3, hst, hse⟩ := hT
  obtain ⟨S1, c1, c2, c3, c4⟩ := cl_157b hR (by omega) (fun i => sX_end) ⟨hs1, hs2, hs3⟩ (by omega) hse hx
  obtain ⟨th1, th2, th3, th4, th5, th6, th7, th8, th9⟩ := c3
  have lv := PK_live (E := tE S (263 + 2 * m) len) hw l0 (PU_lv hP) (PU_lvX (w := 263 + 2 * m) (len := len) hP) (len - x) x [] [] true (fun y hy => by cases hy) (fun y hy => by cases hy) rfl
  rw [lv] at c4
  refine ⟨S1, c1, c2, THn_of ⟨th1, th2, th3, th4, th5, th6, th7, by omega, th9⟩, fun T hT2 => ?_⟩
  obtain ⟨d1, d2, d3, d4⟩ := hB m hm
  obtain ⟨T1, v1, v2, v3, v4, v5⟩ := sp_288 (Q := Q) (T := T) (len := len) hm (by omega) (by rw [hT2.1 707 m (by omega) (by omega) (by omega) (by omega)]; omega) (by omega)
  have hS := RSt_of (Q := Q) (T := T1) hA hP hm hl hl2 hG (fun c g h => by rw [v4 c g (by omega) (by omega)]; exact hT2.1 c g (by omega) (by omega) (by omega) (by omega)) (fun c g h1 h2 => by rw [v5]; exact hT2.2 c g (by omega)) v2 (fun i hi => by
    rw [v3 i hi, hT2.1 708 _ (by omega) (by omega) (by omega) (by omega)]
    exact (d4 i (by omega)).1)
  obtain ⟨T2, e1, e2, e3⟩ := sp_315 hS l0 hQ hx
  have lb := fun e => PK_lb (E := tE S (263 + 2 * m) len) (X := sX S (263 + 2 * m) len L) (lv := fun _ => true) (In := In) hw l0 hlb hi0 (len - x) x [] true e (by omega) (fun y hy => by cases hy)
  have fr : (∀ c g, ¬ (c = 621 ∧ (g = 73 ∨ g = 81)) → ¬ (669 ≤ c ∧ c ≤ 672) → ¬ (678 ≤ c ∧ c ≤ 680) → T2.1 c g = T.1 c g) ∧ T2.2 = T.2 := ⟨fun c g y1 y2 y3 => (e2 c g (by omega) y2 (by omega)).trans (v4 c g (by omega) (by omega)), e3.trans v5⟩
  generalize PK (tP p S) L.length (tE S (263 + 2 * m) len) (sX S (263 + 2 * m) len L) (fun _ => true) (len - x) x [] true = o at c4 e1 lb
  cases o with
  | none =>
    refine ⟨T1, T2, 0, v1, e1, fr.1, fr.2, fun g hg hw2 => ⟨-1, ?_, ?_⟩⟩
    · unfold jm_159
      rw [sp_b, c4, if_neg (fun q => q rfl)]
    · unfold jm_327
      rw [if_pos rfl, if_neg (by decide), if_neg (fun q => q rfl)]
  | some e =>
    obtain ⟨f1, f2, f3, f4⟩ := e1
    obtain ⟨h1, h2, h3⟩ := c4
    obtain ⟨⟨q, iv⟩, le⟩ := lb e rfl
    refine ⟨T1, T2, 1, v1, f1, fr.1, fr.2, fun g hg hw2 => ?_⟩
    rw [if_neg (by decide)]
    exact told_th hk iv (by omega) th7.2.1.1 h1 h2 h3 f2 f3 f4 hg hw2
end OSX4
section OSX5
variable {Q p k w len n m i j L B : Nat} {xs : Nat → Int32} {S S0 S1 S2 T T0 T2 U V : ev_St} {a b x y g e vc vr : Int}
theorem op_12b (hS : HSIM Q S) (hQ : 1000000 ≤ Q) (hK : sp_PT S) (hB : sp_BR S) (hG : SG S) (h8 : ∀ b, b < 3 → S.1 (263 + 2 * b) 1 ≤ 80) (hT1 : THn 284 20 B S) (hT2 : THn 294 1 B S) (hb : B ≤ 1999999000) (hL : L ≤ 3072) (hj : j + 6 ≤ L) : ∃ S2, (∀ K, ja_896 Q L xs (j : Int) K S = K S2) ∧ sp_FE S S2 ∧ THn 284 20 (B + 90) S2 ∧ THn 294 1 (B + 90) S2 := by
  obtain ⟨e, he⟩ : ∃ e, e = (xs (Int.toNat ((j : Int) + 1))).toInt := ⟨_, rfl⟩
  obtain ⟨a, ha⟩ : ∃ a, a = (xs (Int.toNat ((j : Int) + 2))).toInt := ⟨_, rfl⟩
  obtain ⟨b, hb'⟩ : ∃ b, b = (xs (Int.toNat ((j : Int) + 3))).toInt := ⟨_, rfl⟩
  obtain ⟨x, hx⟩ : ∃ x, x = (xs (Int.toNat ((j : Int) + 4))).toInt := ⟨_, rfl⟩
  obtain ⟨g, hg⟩ : ∃ g, g = (xs (Int.toNat ((j : Int) + 5))).toInt := ⟨_, rfl⟩
  obtain ⟨k1, k2, k3⟩ := hK.1
  have eqv : ((0 ≤ a ∧ a < S.1 0 5) ∧ (0 ≤ b ∧ b < 3) ∧ (0 ≤ x ∧ x ≤ S.1 (263 + 2 * b.toNat) 1) ∧ (0 ≤ g ∧ g ≤ S.1 (313 + 20 * a.toNat) 12)) ↔ ((0 ≤ a ∧ a < S.1 0 5) ∧ (0 ≤ b ∧ b < 3) ∧ (0 ≤ x ∧ x ≤ S.1 707 b.toNat) ∧ 0 ≤ g ∧ g ≤ S.1 636 a.toNat) := by
    have e1 : 0 ≤ b ∧ b < 3 → S.1 707 b.toNat = S.1 (263 + 2 * b.toNat) 1 := fun h => (hB b.toNat (by omega)).2.2.1
    have e2 : 0 ≤ a ∧ a < S.1 0 5 → S.1 (313 + 20 * a.toNat) 12 = S.1 636 a.toNat := fun h => (kp_num (hK.2 a.toNat (by omega))).1.1
    constructor
    · rintro ⟨y1, y2, y3, y4⟩
      rw [← e1 y2] at y3
      rw [e2 y1] at y4
      exact ⟨y1, y2, y3, y4⟩
    · rintro ⟨y1, y2, y3, y4⟩
      rw [e1 y2] at y3
      rw [← e2 y1] at y4
      exact ⟨y1, y2, y3, y4⟩
  -- a refusal
  have no : ∀ cc : Int, cc ≠ 0 → jm_375 Q (0 + 1) e a b x g (723 + 1) S = some (cc, ev_tick S) → jm_330 Q e a b x g (ev_tick S) = some (0, ev_pI (ev_tick S) 621 0 cc) → ∃ S2, (∀ K, ja_896 Q L xs (j : Int) K S = K S2) ∧ sp_FE S S2 ∧ THn 284 20 (B + 90) S2 ∧ THn 294 1 (B + 90) S2 := fun cc c0 h1 h2 => by
    have fr : sp_FE S (ev_pI (ev_tick S) 621 0 cc) := FE_of (FS_of sp_F_no (fun c g y => Or.inl ⟨y.1, Or.inl y.2⟩))
    refine ⟨_, fun K => la_12 (c := cc) (b := 0) hL hj (by rw [← he, ← ha, ← hb', ← hx, ← hg]; exact h1) (by rw [← he, ← ha, ← hb', ← hx, ← hg]; exact h2) rd_eq (fun q => absurd q c0), fr, THn_c hT1 (fun c g y1 y2 => rd_nk (by omega)) (fun _ => rfl) (by omega), THn_c hT2 (fun c g y1 y2 => rd_nk (by omega)) (fun _ => rfl) (by omega)⟩
  by_cases h : (0 ≤ a ∧ a < S.1 0 5) ∧ (0 ≤ b ∧ b < 3) ∧ (0 ≤ x ∧ x ≤ S.1 (263 + 2 * b.toNat) 1) ∧ (0 ≤ g ∧ g ≤ S.1 (313 + 20 * a.toNat) 12)
  · have h203 := (sp_203 (Q := Q) hK).1 h
    have hr := eqv.mp h
    by_cases h2 : 0 ≤ e ∧ e ≤ 2
    · have hr0 := hr
      obtain ⟨⟨a1, a2⟩, ⟨b1, b2⟩, ⟨x1, x2⟩, g1, g2⟩ := hr
      -- an answer, with what it leaves
      have fin : ∀ (v : Int) (S1 T2 : ev_St), jm_178 Q e a b x g S = some (.inl v, S1) → jm_330 Q e a b x g (ev_pL S1 723 0 (ev_i2l v)) = some (v, T2) → T2.1 621 0 = 0 → T2.2.1 723 0 = ev_i2l v → sp_FE S T2 → THn 284 20 (B + 90) T2 → THn 294 1 (B + 90) T2 → ∃ S2, (∀ K, ja_896 Q L xs (j : Int) K S = K S2) ∧ sp_FE S S2 ∧ THn 284 20 (B + 90) S2 ∧ THn 294 1 (B + 90) S2 := fun v S1 T2 h1 h2 h3 h4 h5 h6 h7 => ⟨T2, fun K => la_12 (c := 0) (b := v) hL hj (by rw [← he, ← ha, ← hb', ← hx, ← hg]; exact lw_12_ok e a b x g h1) (by rw [← he, ← ha, ← hb', ← hx, ← hg]; exact h2) h3 (fun _ => h4), h5, h6, h7⟩
      by_cases e0 : e = 0
      · obtain ⟨v, S1, c204, ⟨f1, f2, f3, f4⟩, ref⟩ := find_two hS (by omega) hK hB hr0
        have cc : jm_178 Q e a b x g S = some (.inl v, S1) := by
          unfold jm_178
          rw [h203, sp_bd, if_pos (by decide)]
          try dsimp only
          rw [if_neg (by omega)]
          try dsimp only
          rw [if_pos (by omega)]
          try dsimp only
          rw [if_neg (fun z => z e0)]
          try dsimp only
          rw [c204, sp_bd]
        obtain ⟨T, hT⟩ : ∃ T, T = ev_pL S1 723 0 (ev_i2l v) := ⟨_, rfl⟩
        have tI : ∀ c g, T.1 c g = S1.1 c g := fun c g => by rw [hT]; rfl
        have tL : ∀ c g, T.2.1 c g = if c = 723 ∧ g = 0 then ev_i2l v else S1.2.1 c g := fun c g => by rw [hT, sp_pL2]
        obtain ⟨U, hU⟩ : ∃ U, U = ev_pI T 621 0 0 := ⟨_, rfl⟩
        have uI : ∀ c g, ¬ (c = 621 ∧ g = 0) → U.1 c g = S1.1 c g := fun c g y => by rw [hU, sp_pI1, if_neg y, tI]
        have rf : RFs S U := ⟨fun c g y1 y2 y3 y4 => by rw [uI c g (by omega), f1 c g (by omega)], fun c g y => by rw [hU, sp_pI2, tL, if_neg (fun z => y z.1), f2]⟩
        obtain ⟨T2, j1, j2, j3, j4, j5, j6⟩ := ref U rf
        have rr := (ref_330a (Q := Q) (T := T) (a := a) (b := b) (x := x) (g := g) (e := e) ⟨k1, k2⟩ (by rw [tI, f1 _ _ (by omega)]; exact k3)).1 ⟨⟨a1, a2⟩, ⟨b1, b2⟩, ⟨x1, by rw [tI, f1 _ _ (by omega)]; exact x2⟩, g1, by rw [tI, f1 _ _ (by omega)]; exact g2⟩ h2
        have tl : T2.2.2.2 = S.2.2.2 := by
          rw [j5, hU]
          show T.2.2.2 = _
          rw [hT]
          exact f4
        have fe : sp_FE S T2 := by
          refine ⟨fun c g y1 y2 y3 => ?_, fun c g y => ?_, fun c g y1 y2 y3 => ?_, by rw [tl], by rw [tl], by rw [tl]; exact Nat.le_succ _, by rw [tl]; exact Nat.le_add_right _ _⟩
          · unfold sp_WS at y1
            rw [j2 c g (by omega) (by omega), uI c g (by omega), f1 c g (by omega)]
          · rw [j3, hU, sp_pI2, tL, if_neg (fun z => y z.1)]
            try dsimp only
            rw [f2]
          · rw [j4, hU]
            show T.2.2.1 c g = _
            rw [hT]
            exact f3 c g y1
        refine fin v S1 T2 cc (by rw [← hT, rr, if_neg (fun z => z e0), ← hU, j1, sp_bd]) j6 (by rw [j3, hU, sp_pI2, tL, if_pos ⟨rfl, rfl⟩]) fe (THn_c hT1 (fun c g y1 y2 => ?_) (fun g => ?_) (by omega)) (THn_c hT2 (fun c g y1 y2 => ?_) (fun g => ?_) (by omega))
        · rw [j2 c g (by omega) (by omega), uI c g (by omega), f1 c g (by omega)]
        · exact (by
            rw [j4, hU]
            show T.2.2.1 284 g = _
            rw [hT]
            exact f3 _ _ (by decide))
        · rw [j2 c g (by omega) (by omega), uI c g (by omega), f1 c g (by omega)]
        · exact (by
            rw [j4, hU]
            show T.2.2.1 294 g = _
            rw [hT]
            exact f3 _ _ (by decide))
      · have e12 : e = 1 ∨ e = 2 := by omega
        have kn := kp_num (hK.2 a.toNat (by omega))
        have l39 : (0 : Int) ≤ a ∧ a < (ev_aln 639 : Int) := by
          rcases al_639 with q | q <;> rw [q] <;> omega
        have c178 : ∀ v S1, jm_205 Q e a b x g S = some (v, S1) → jm_178 Q e a b x g S = some (.inl v, S1) := fun v S1 h => by
          unfold jm_178
          rw [h203, sp_bd, if_pos (by decide)]
          try dsimp only
          rw [if_neg (by omega)]
          try dsimp only
          rw [if_pos (by omega)]
          try dsimp only
          rw [if_pos e0]
          try dsimp only
          rw [h, sp_bd]
        have cl := c205 (Q := Q) (x := x) (g := g) hK ⟨a1, a2⟩ ⟨b1, b2⟩ e12
        by_cases tk : (e = 1 ∧ S.1 (313 + 20 * a.toNat) 14 ≠ 0) ∨ (e = 2 ∧ S.1 (313 + 20 * a.toNat) 15 ≠ 0 ∧ g = 0)
        · rw [if_pos tk] at cl
          obtain ⟨p, hp⟩ : ∃ p : Nat, a = (p : Int) := ⟨a.toNat, by omega⟩
          obtain ⟨m, hm⟩ : ∃ m : Nat, b = (m : Int) := ⟨b.toNat, by omega⟩
          obtain ⟨x', hx'⟩ : ∃ x' : Nat, x = (x' : Int) := ⟨x.toNat, by omega⟩
          have ap : a.toNat = p := by omega
          have bm : b.toNat = m := by omega
          have hm3 : m < 3 := by omega
          rw [ap] at cl tk kn
          rw [bm] at cl
          obtain ⟨d1, d2, d3, _⟩ := hB m hm3
          obtain ⟨len, hl⟩ : ∃ len : Nat, S.1 (263 + 2 * m) 1 = (len : Int) := ⟨(S.1 (263 + 2 * m) 1).toNat, by omega⟩
          have l80 := h8 m hm3
          rw [bm] at x2
          obtain ⟨kt, wd, hk, hkt, h14, hw, hTH⟩ : ∃ kt wd, ((kt = 284 ∧ wd = 20) ∨ (kt = 294 ∧ wd = 1)) ∧ (if e = 1 then 284 else 294) = kt ∧ S.1 (313 + 20 * p) 14 ≠ 0 ∧ (wd = 20 ∨ g = 0) ∧ THn kt wd B S := by
            rcases tk with ⟨q1, q2⟩ | ⟨q1, q2, q3⟩
            · exact ⟨284, 20, Or.inl ⟨rfl, rfl⟩, if_pos q1, q2, Or.inl rfl, hT1⟩
            · exact ⟨294, 1, Or.inr ⟨rfl, rfl⟩, if_neg (by omega), by omega, Or.inr q3, hT2⟩
          obtain ⟨S1, s1, s2, s3, s4⟩ := eng_twob (x := x') hQ hK hB hG (show (p : Int) < S.1 0 5 by omega) hm3 hl (by omega) (by omega) h14 hk hTH hb
          have g9 : 0 ≤ g ∧ g ≤ 9 := ⟨g1, by
            rw [ap] at g2
            have := kn.1.2.2
            omega⟩
          obtain ⟨_, _, v0, _, _, _, _, t0⟩ := s4 S ⟨fun _ _ _ _ _ _ => rfl, fun _ _ _ => rfl⟩
          obtain ⟨r, r1, _⟩ := t0 g g9 hw
          rw [hkt, hx', s1, sp_bd, r1, sp_bd] at cl
          obtain ⟨T, hT⟩ : ∃ T, T = ev_pL S1 723 0 (ev_i2l r) := ⟨_, rfl⟩
          have tI : ∀ c g, T.1 c g = S1.1 c g := fun c g => by rw [hT]; rfl
          have tL : ∀ c g, T.2.1 c g = if c = 723 ∧ g = 0 then ev_i2l r else S1.2.1 c g := fun c g => by rw [hT, sp_pL2]
          have sI : ∀ c g, ¬ (284 ≤ c ∧ c ≤ 303) → S1.1 c g = S.1 c g := fun c g y => s2.1 c g (by omega)
          obtain ⟨U, hU⟩ : ∃ U, U = ev_pI T 621 0 0 := ⟨_, rfl⟩
          have uI : ∀ c g, ¬ (c = 621 ∧ g = 0) → U.1 c g = S1.1 c g := fun c g y => by rw [hU, sp_pI1, if_neg y, tI]
          have rf : RFs S U := ⟨fun c g y1 y2 y3 y4 => by rw [uI c g (by omega), sI c g (by omega)], fun c g y => by rw [hU, sp_pI2, tL, if_neg (fun z => y z.1), s2.2.1]⟩
          obtain ⟨T1, T2, v, v1, v2, v3, v4, v5⟩ := s4 U rf
          obtain ⟨r', r2, r3⟩ := v5 g g9 hw
          have rr' : r' = r := (congrArg Prod.fst (Option.some.inj (r1.symm.trans r2))).symm
          rw [rr'] at r3
          have rr := (ref_330a (Q := Q) (T := T) (a := a) (b := b) (x := x) (g := g) (e := e) ⟨k1, k2⟩ (by rw [tI, sI _ _ (by omega)]; exact k3)).1 ⟨⟨a1, a2⟩, ⟨b1, b2⟩, ⟨x1, by rw [tI, sI _ _ (by omega), bm]; exact x2⟩, g1, by rw [tI, sI _ _ (by omega)]; exact g2⟩ h2
          have u39 : U.1 639 p = S.1 639 p := by rw [uI _ _ (by omega), sI _ _ (by omega)]
          have nt : F330 Q e a b x g U = some (r, T2) := by
            have tail : (ev_bd (jm_288 Q b U) fun _ s31 => ev_bd (jm_315 Q a x s31) fun x33 s32 => ev_jn (fun (x34 : Int) (s37 : ev_St) => ev_bd (jm_327 Q x34 g s37) fun x39 s38 => some (x39, s38)) fun K137 => if x33 = 0 then (K137 0 s32) else (K137 1 s32)) = some (r, T2) := by
              rw [hm, v1, sp_bd, hp, hx', v2, sp_bd, sp_jn]
              by_cases z : v = 0
              · rw [if_pos z] at r3
                rw [if_pos z]
                try dsimp only
                rw [r3, sp_bd]
              · rw [if_neg z] at r3
                rw [if_neg z]
                try dsimp only
                rw [r3, sp_bd]
            unfold F330
            rcases tk with ⟨q1, q2⟩ | ⟨q1, q2, q3⟩
            · rw [sp_jn, if_neg (fun z => z q1)]
              try dsimp only
              rw [sp_if l39, sp_b, ap, u39, if_neg (by omega)]
              try dsimp only
              rw [sp_jn, if_pos (by omega)]
              exact tail
            · rw [sp_jn, if_pos (by omega)]
              try dsimp only
              rw [sp_jn, if_neg (fun z => z q1)]
              try dsimp only
              rw [sp_if l39, sp_b, ap, u39, if_neg (by omega)]
              try dsimp only
              rw [if_pos (by omega)]
              exact tail
          have tl : T2.2.2.2 = S.2.2.2 := by
            rw [v4, hU]
            show T.2.2.2 = _
            rw [hT]
            exact s2.2.2.2
          have tr : ∀ c g, T2.2.2.1 c g = S1.2.2.1 c g := fun c g => by
            rw [v4, hU, hT]
            rfl
          have fe : sp_FE S T2 := by
            refine ⟨fun c g y1 y2 y3 => ?_, fun c g y => ?_, fun c g y1 y2 y3 => ?_, by rw [tl], by rw [tl], by rw [tl]; exact Nat.le_succ _, by rw [tl]; exact Nat.le_add_right _ _⟩
            · unfold sp_WS at y1
              rw [v3 c g (by omega) (by omega) (by omega), uI c g (by omega), sI c g (by omega)]
            · rw [v4, hU, sp_pI2, tL, if_neg (fun z => y z.1)]
              try dsimp only
              rw [s2.2.1]
            · rw [tr]
              exact s2.2.2.1 c g (by omega)
          have same : ∀ c g, c < 621 → T2.1 c g = S1.1 c g := fun c g y => by rw [v3 c g (by omega) (by omega) (by omega), uI c g (by omega)]
          have oth : ∀ k2 w2, (k2 = 284 ∨ k2 = 294) → k2 ≠ kt → THn k2 w2 B S → THn k2 w2 (B + 90) T2 := fun k2 w2 y1 y2 y3 => THn_c y3 (fun c g z1 z2 => by rw [same c g (by omega)]; exact s2.1 c g (by omega)) (fun g => by rw [tr]; exact s2.2.2.1 _ _ (by omega)) (by omega)
          have me : THn kt wd (B + 90) T2 := THn_c s3 (fun c g z1 z2 => same c g (by omega)) (fun g => tr _ _) (Nat.le_refl _)
          refine fin r S1 T2 (c178 _ _ (by rw [hx']; exact cl)) (by rw [← hT, rr, if_pos e0, ← hU, nt]) (by rw [v3 621 0 (by omega) (by omega) (by omega), hU, rd_eq]) (by rw [v4, hU, sp_pI2, tL, if_pos ⟨rfl, rfl⟩]) fe ?_ ?_
          · rcases hk with ⟨q1, q2⟩ | ⟨q1, q2⟩
            · rw [q1, q2] at me
              exact me
            · exact oth 284 20 (Or.inl rfl) (by omega) hT1
          · rcases hk with ⟨q1, q2⟩ | ⟨q1, q2⟩
            · exact oth 294 1 (Or.inr rfl) (by omega) hT2
            · rw [q1, q2] at me
              exact me
        · rw [if_neg tk] at cl
          obtain ⟨T, hT⟩ : ∃ T, T = ev_pL S 723 0 (ev_i2l (-4)) := ⟨_, rfl⟩
          have tI : ∀ c g, T.1 c g = S.1 c g := fun c g => by rw [hT]; rfl
          have rr := (ref_330a (Q := Q) (T := T) (a := a) (b := b) (x := x) (g := g) (e := e) ⟨k1, k2⟩ (by rw [tI]; exact k3)).1 ⟨⟨a1, a2⟩, ⟨b1, b2⟩, ⟨x1, by rw [tI]; exact x2⟩, g1, by rw [tI]; exact g2⟩ h2
          obtain ⟨U, hU⟩ : ∃ U, U = ev_pI T 621 0 0 := ⟨_, rfl⟩
          have u39 : U.1 639 a.toNat = S.1 639 a.toNat := by rw [hU, rd_nk (by decide), tI]
          have nt : F330 Q e a b x g U = some (-4, U) := by
            unfold F330
            rcases e12 with q | q
            · rw [sp_jn, if_neg (fun z => z q)]
              try dsimp only
              rw [sp_if l39, sp_b, u39, if_pos (by omega)]
            · rw [sp_jn, if_pos (by omega)]
              try dsimp only
              rw [sp_jn, if_neg (fun z => z q)]
              try dsimp only
              rw [sp_if l39, sp_b, u39]
              by_cases w : S.1 639 a.toNat < 2
              · rw [if_pos w]
              · rw [if_neg w, if_neg (by omega)]
          have fr : ∀ c g, ¬ (c = 621 ∧ g = 0) → U.1 c g = S.1 c g := fun c g y => by rw [hU, sp_pI1, if_neg y, tI]
          have fe : sp_FE S U := by
            refine ⟨fun c g y1 y2 y3 => fr c g (fun z => y1 (Or.inl ⟨z.1, Or.inl z.2⟩)), fun c g y => ?_, fun c g y1 y2 y3 => ?_, ?_, ?_, ?_, ?_⟩
            · rw [hU, sp_pI2, hT, sp_pL2, if_neg (fun z => y z.1)]
            · rw [hU, hT]
              rfl
            · rw [hU, hT]
              rfl
            · rw [hU, hT]
              rfl
            · rw [hU, hT]
              exact Nat.le_succ _
            · rw [hU, hT]
              exact Nat.le_add_right _ _
          refine fin (-4) S U (c178 _ _ cl) (by rw [← hT, rr, if_pos e0, ← hU, nt]) (by rw [hU, rd_eq]) (by rw [hU, sp_pI2, hT, sp_pL2, if_pos ⟨rfl, rfl⟩]) fe (THn_c hT1 (fun c g y1 y2 => fr c g (by omega)) (fun g => ?_) (by omega)) (THn_c hT2 (fun c g y1 y2 => fr c g (by omega)) (fun g => ?_) (by omega))
          · rw [hU, hT]
            rfl
          · rw [hU, hT]
            rfl
    · refine no 2 (by decide) (lw_12_x1 e a b x g ?_) ((ref_330a (T := ev_tick S) ⟨k1, k2⟩ k3).2.1 hr h2)
      unfold jm_178
      rw [h203, sp_bd, if_pos (by decide)]
      by_cases z : e < 0
      · rw [if_pos z]
      · rw [if_neg z, if_neg (by omega)]
  · have h203 := (sp_203 (Q := Q) hK).2 h
    refine no 1 (by decide) (lw_12_x0 e a b x g ?_) ((ref_330a (T := ev_tick S) ⟨k1, k2⟩ k3).2.2 (fun z => h (eqv.mpr z)))
    unfold jm_178
    rw [h203, sp_bd, if_neg (fun z => z rfl)]
end OSX5
