/-! REPLACE: the call -/
section OSK
variable {Q p k t m i j len w s E b c0 G cnt L : Nat} {xs : Nat → Int32} {n o0 : Int} {S S1 S2 S' T T1 T2 T' U V C W X : ev_St} {a c d e f v x y md lim a0 a1 a2 a3 : Int} {D : lg_D}
/-- what a done replacement comes to, on both sides -/
theorem done20 (hQ : 40000000000 ≤ Q) (hn : 0 ≤ n ∧ n ≤ 511) (hK : sp_PT S) (hTR : sp_TR S) (hG : SG S) (hLG : LG n D S) (h8 : B8 D S S) (hp : (p : Int) < S.1 0 5) (ht : (t : Int) < S.1 0 7) (hb : b < 3) (hl : S.1 (263 + 2 * b) 1 = (len : Int)) (hW : jm_43 Q (263 + 2 * b + 1) S = some ((), W)) (hT : RFq S T) : ∃ v T1 T', jm_288 Q (b : Int) T = some ((), T1) ∧ jm_349 Q (p : Int) (t : Int) lim T1 = some (v, T') ∧ FPq T T' ∧ ((v = -1 ∧ ∃ S', jm_44 Q 282 (313 + 20 * p + 1) (553 + 2 * t + 1) lim W = some (-1, S') ∧ (∀ c g, ¬ (269 ≤ c ∧ c ≤ 283) → S'.1 c g = S.1 c g) ∧ (∀ c g, S'.2.1 c g = S.2.1 c g) ∧ (∀ c g, c ≠ 281 → S'.2.2.1 c g = S.2.2.1 c g) ∧ S'.2.2.2 = S.2.2.2) ∨ (v ≠ -1 ∧ ∃ D' C0 C T4 T5, jm_44 Q 282 (313 + 20 * p + 1) (553 + 2 * t + 1) lim W = some (v, C0) ∧ jm_47 Q 255 (b : Int) C0 = some ((), C) ∧ jm_350 Q (b : Int) v T' = some ((), T4) ∧ jm_345 Q T4 = some ((), T5) ∧ L2 (n + 1) D' C T5 ∧ B8 D' C T5 ∧ FRd T' T5 ∧ (∀ c g, c < 724 → ¬ (269 ≤ c ∧ c ≤ 283) → c ≠ 258 → ¬ (261 ≤ c ∧ c ≤ 268) → ¬ (c = 254 ∧ 9 ≤ g ∧ g ≤ 13) → C.1 c g = S.1 c g) ∧ (∀ c g, C.2.1 c g = S.2.1 c g) ∧ (∀ c j, c ≠ 259 → c ≠ 260 → c ≠ 281 → C.2.2.1 c j = S.2.2.1 c j) ∧ (ev_sC C + ev_sN S = ev_sC S + ev_sN C ∧ ev_sZ C + 1024 * ev_sN S = ev_sZ S + 1024 * ev_sN C))) := by
  have hB : sp_BR S := hLG.2.1.2.2.2.1
  have l80 : len ≤ 80 := by
    have := h8.1 b hb
    omega
  obtain ⟨v, S', T1, T', q1, q2, q3, q4, q5, q6⟩ := one20 (lim := lim) hQ hK hTR hG hB hp ht hb hl l80 hW hT
  obtain ⟨W', w1, w2, w3, w4, w5, w6, w7⟩ := sp_43 (Q := Q) (S := S) hb
  have e : W' = W := (congrArg Prod.snd (Option.some.inj (hW.symm.trans w1))).symm
  subst e
  have sI : ∀ c g, ¬ (269 ≤ c ∧ c ≤ 283) → S'.1 c g = S.1 c g := fun c g y => by rw [q4.1 c g (by omega) (by omega) (by omega), w6 c g (by omega) (by omega) (by omega)]
  have sL : ∀ c g, S'.2.1 c g = S.2.1 c g := fun c g => by rw [q4.2.1, w7]
  have sR : ∀ c g, c ≠ 281 → S'.2.2.1 c g = S.2.2.1 c g := fun c g y => by rw [q4.2.2.1 c g y, w7]
  have sN : S'.2.2.2 = S.2.2.2 := by rw [q4.2.2.2, w7]
  refine ⟨v, T1, T', q1, q3, q5, ?_⟩
  rcases q6 with y | ⟨m, s, E, y1, y2⟩
  · rw [if_pos y] at q2
    exact Or.inl ⟨y, S', q2, sI, sL, sR, sN⟩
  · have nv : v ≠ -1 := by omega
    rw [if_neg nv] at q2
    have L0 : L2 n D S' T' := L2_c2 (L2_of hLG) (fun k g hk => sI k g (by omega)) (fun a j ha => sR a j (by omega)) (by unfold ev_sN; rw [sN]) (fun k g hk => by rw [q5.1 k g (by omega) (by omega) (by omega), hT.1 k g (by omega) (by omega) (by omega) (by omega) (by omega)])
    have B0 : B8 D S' T' := B8_c h8 (fun b hb => sI _ _ (by omega)) (sI _ _ (by omega)) (fun g => by rw [q5.1 714 g (by omega) (by omega) (by omega), hT.1 714 g (by omega) (by omega) (by omega) (by omega) (by omega)])
    obtain ⟨D', C0, C, T4, T5, z1, z2, z3, z4, z5, z6, z7, z8⟩ := edits20 (Q := Q) (by omega) y2 l80 (by rw [q4.1 270 1 (by omega) (by omega) (by omega), w2]; exact hl) (by rw [q4.1 269 9 (by omega) (by omega) (by omega)]; exact w4) (by rw [q4.1 269 10 (by omega) (by omega) (by omega)]; exact w5) L0 hn B0 hb (by rw [sI _ _ (by omega)]; exact hl)
    rw [y1] at q2 ⊢
    rw [z1, sp_bd] at q2
    refine Or.inr ⟨by omega, D', C0, C, T4, T5, q2, z2, z3, z4, z5, z6, z8, fun c g g1 g2 g3 g4 g5 => ?_, fun c g => by rw [z7.2.1, sL], fun c g g1 g2 g3 => by rw [z7.2.2.1 c g g1 g2, sR c g g3], ?_⟩
    · rw [z7.1 c g g1 (by omega) g3 g4 g5, sI c g g2]
    · have q := z7.2.2.2
      unfold ev_sC ev_sN ev_sZ at q ⊢
      rw [sN] at q
      exact q
theorem op_20 (hQ : 40000000000 ≤ Q) (hn : 0 ≤ n ∧ n ≤ 511) (hK : sp_PT S) (hTR : sp_TR S) (hG : SG S) (hLG : LG n D S) (h8 : B8 D S S) (hRR : sp_RR S) (hRM : sp_RM S) (hL : L ≤ 3072) (hj : j + 6 ≤ L) : ∃ D' S2, (∀ K, ja_1488 Q L xs (j : Int) K S = K S2) ∧ LG (n + 1) D' S2 ∧ B8 D' S2 S2 ∧ sp_RR S2 ∧ sp_RM S2 ∧ sp_GR S S2 := by
  obtain ⟨a0, ha0⟩ : ∃ a, a = (xs (Int.toNat ((j : Int) + 1))).toInt := ⟨_, rfl⟩
  obtain ⟨a1, ha1⟩ : ∃ a, a = (xs (Int.toNat ((j : Int) + 2))).toInt := ⟨_, rfl⟩
  obtain ⟨a2, ha2⟩ : ∃ a, a = (xs (Int.toNat ((j : Int) + 3))).toInt := ⟨_, rfl⟩
  obtain ⟨a3, ha3⟩ : ∃ a, a = (xs (Int.toNat ((j : Int) + 4))).toInt := ⟨_, rfl⟩
  obtain ⟨k1, k2, k3⟩ := hK.1
  obtain ⟨⟨t1, t2⟩, t3, _⟩ := id hTR
  obtain ⟨⟨m1, m2⟩, m3, m4, m45, m5, m7⟩ := id hRR
  have r6 := RR_6 hRR
  have cl := c186 (Q := Q) (a0 := a0) (a1 := a1) (a2 := a2) (a3 := a3) hK ⟨t1, t2⟩
  have rf : ∀ X : ev_St, X.1 621 5 = S.1 621 5 → X.1 621 110 = S.1 621 110 → _ := fun X h1 h2 => r351 (Q := Q) (T := X) (a0 := a0) (a1 := a1) (a2 := a2) (a3 := a3) (np := S.1 0 5) (nt := S.1 0 7) (h1.trans k3) ⟨k1, k2⟩ (h2.trans t3) ⟨t1, t2⟩
  -- refusals that are told at once
  have no : ∀ cc : Int, cc ≠ 0 → jm_383 Q (0 + 1) a0 a1 a2 a3 (723 + 1) S = some (cc, ev_tick S) → jm_351 Q a0 a1 a2 a3 (ev_tick S) = some (0, ev_pI (ev_tick S) 621 0 cc) → ∃ D' S2, (∀ K, ja_1488 Q L xs (j : Int) K S = K S2) ∧ LG (n + 1) D' S2 ∧ B8 D' S2 S2 ∧ sp_RR S2 ∧ sp_RM S2 ∧ sp_GR S S2 := fun cc c0 h1 h2 => ⟨D, ev_pI (ev_tick S) 621 0 cc, fun K => la_20 (c := cc) (b := 0) hL hj (by rw [← ha0, ← ha1, ← ha2, ← ha3]; exact h1) (by rw [← ha0, ← ha1, ← ha2, ← ha3]; exact h2) rd_eq (fun z => absurd z c0), rp_no hn hLG h8 hRR hRM (fun c g y1 y2 y3 y4 => by rw [sp_pI1, if_neg (by omega)]; rfl) (fun c g _ => rfl) (fun c g _ => rfl) rfl (Nat.le_refl _) (Nat.le_refl _)⟩
  by_cases hv : (0 ≤ a0 ∧ a0 < S.1 0 5) ∧ (0 ≤ a1 ∧ a1 < S.1 0 7) ∧ 0 ≤ a2 ∧ a2 < 3
  · by_cases hm : 1 ≤ a3 ∧ a3 ≤ 100
    · have cl := cl.1 hv hm
      obtain ⟨p, hp⟩ : ∃ p : Nat, a0 = (p : Int) := ⟨a0.toNat, by omega⟩
      obtain ⟨t, ht⟩ : ∃ t : Nat, a1 = (t : Int) := ⟨a1.toNat, by omega⟩
      obtain ⟨b, hb⟩ : ∃ b : Nat, a2 = (b : Int) := ⟨a2.toNat, by omega⟩
      have hb3 : b < 3 := by omega
      rw [show a0.toNat = p by omega, show a1.toNat = t by omega, show a2.toNat = b by omega] at cl
      obtain ⟨G, hG15⟩ : ∃ G : Nat, S.1 0 15 = (G : Int) := ⟨(S.1 0 15).toNat, by omega⟩
      by_cases hf : S.1 0 16 ≠ 0 ∧ S.1 0 15 < 6 ∧ 10 ≤ S.1 311 (S.1 0 15).toNat
      · obtain ⟨f1, f2, f3⟩ := hf
        obtain ⟨_, l311, l716, _⟩ := al_mac
        rw [hG15, Int.toNat_natCast] at f3
        have g10 := (hRM G (by omega)).1.2
        have e716 := m5 G (by omega)
        refine no 3 (by decide) (lw_20_x2 a0 a1 a2 a3 ?_) ?_
        · rw [cl]
          unfold B186
          rw [sp_b, sp_jn, if_neg f1, sp_b, if_neg (by omega), sp_b, hG15, sp_if (by rw [l311]; omega), sp_b, Int.toNat_natCast, if_neg (by omega)]
        · rw [(rf (ev_tick S) rfl rfl).1 hv hm]
          have i136 : (ev_pI (ev_tick S) 621 0 0).1 621 136 = S.1 0 16 := (rd_nf (by decide)).trans m4
          have i135 : (ev_pI (ev_tick S) 621 0 0).1 621 135 = (G : Int) := ((rd_nf (by decide)).trans m3).trans hG15
          have i716 : (ev_pI (ev_tick S) 621 0 0).1 716 G = 10 := (rd_nk (by decide)).trans (e716.trans (by omega))
          unfold B351
          rw [sp_b, i136, sp_jn, if_neg f1, sp_b, i135, sp_if (by rw [l716]; omega), sp_b, Int.toNat_natCast, i716, if_neg (fun z => z rfl)]
          show some ((0 : Int), ev_pI (ev_pI (ev_tick S) 621 0 0) 621 0 3) = _
          rw [pI_pI]
      · rw [b186 hf m1] at cl
        obtain ⟨W, hW, _⟩ := sp_43 (Q := Q) (S := S) hb3
        obtain ⟨len, hl⟩ : ∃ len : Nat, S.1 (263 + 2 * b) 1 = (len : Int) := ⟨(S.1 (263 + 2 * b) 1).toNat, by have := (hLG.2.1.2.2.2.1 b hb3).1; omega⟩
        have dn : ∀ T, RFq S T → _ := fun T hT => done20 (lim := a3) hQ hn hK hTR hG hLG h8 (show (p : Int) < S.1 0 5 by omega) (show (t : Int) < S.1 0 7 by omega) hb3 hl hW hT
        rw [hW, sp_bd] at cl
        have nf : ∀ X : ev_St, X.1 621 136 = S.1 621 136 → X.1 621 135 = S.1 621 135 → (∀ g, X.1 716 g = S.1 716 g) → ¬ (X.1 621 136 ≠ 0 ∧ X.1 716 (X.1 621 135).toNat = 10) := fun X h1 h2 h3 ⟨z1, z2⟩ => by
          rw [h1, m4] at z1
          rw [h2, m3, hG15, Int.toNat_natCast, h3] at z2
          have e := m5 G (by omega)
          exact hf ⟨z1, by omega, by rw [hG15, Int.toNat_natCast, ← e, z2]; exact Int.le_refl _⟩
        obtain ⟨v, _, _, _, _, _, alt⟩ := dn S ⟨fun _ _ _ _ _ _ _ => rfl, fun _ _ _ => rfl⟩
        rcases alt with ⟨v1, S', s1, s2, s3, s4, s5⟩ | ⟨v1, D1, C0, C, T4, T5, s1, s2, _, _, _, _, _, s3, s4, s5, s6⟩
        · -- not enough room, or too many steps
          rw [s1, sp_bd, if_neg (fun z => z rfl)] at cl
          obtain ⟨X, hX⟩ : ∃ X, X = ev_pI (ev_tick S') 621 0 0 := ⟨_, rfl⟩
          have xI : ∀ c g, ¬ (c = 621 ∧ g = 0) → X.1 c g = S'.1 c g := fun c g y => by
            rw [hX, sp_pI1, if_neg y]
            rfl
          obtain ⟨v', T1, T', q1, q2, q3, q4⟩ := dn X ⟨fun c g y1 y2 y3 y4 y5 => by rw [xI c g (by omega), s2 c g (by omega)], fun c g _ => by rw [hX]; exact s3 c g⟩
          have v' : v' = -1 := by
            rcases q4 with ⟨z, _⟩ | ⟨z, _, _, _, _, _, z2, _⟩
            · exact z
            · have z3 : (-1 : Int) = v' := congrArg Prod.fst (Option.some.inj (s1.symm.trans z2))
              exact absurd z3.symm z
          rw [v'] at q2
          have rr : jm_351 Q a0 a1 a2 a3 (ev_tick S') = some (0, ev_pI T' 621 0 3) := by
            rw [(rf (ev_tick S') (s2 _ _ (by omega)) (s2 _ _ (by omega))).1 hv hm, ← hX, b351 (nf X ((xI _ _ (by omega)).trans (s2 _ _ (by omega))) ((xI _ _ (by omega)).trans (s2 _ _ (by omega))) (fun g => (xI _ _ (by omega)).trans (s2 _ _ (by omega)))) (by rw [xI _ _ (by omega), s2 _ _ (by omega)]; omega), hb, q1, sp_bd, hp, ht, q2, sp_bd, if_neg (fun z => z rfl)]
            rfl
          refine ⟨D, ev_pI T' 621 0 3, fun K => la_20 (c := 3) (b := 0) hL hj (by rw [← ha0, ← ha1, ← ha2, ← ha3]; exact lw_20_x2 a0 a1 a2 a3 cl) (by rw [← ha0, ← ha1, ← ha2, ← ha3]; exact rr) rd_eq (fun z => absurd z (by decide)), rp_no hn hLG h8 hRR hRM (fun c g y1 y2 y3 y4 => ?_) (fun c g y => ?_) (fun c g y => ?_) ?_ ?_ ?_⟩
          · rw [sp_pI1, if_neg (by omega), q3.1 c g (by omega) y3 y4, xI c g (by omega), s2 c g y1]
          · show T'.2.1 c g = _
            rw [q3.2.1, hX]
            exact s3 c g
          · show T'.2.2.1 c g = _
            rw [q3.2.2.1, hX]
            exact s4 c g y
          · show ev_sN T' = _
            unfold ev_sN
            rw [q3.2.2.2, hX]
            show S'.2.2.2.2.1 = _
            rw [s5]
          · show ev_sC T' ≤ _
            unfold ev_sC
            rw [q3.2.2.2, hX]
            show S'.2.2.2.2.2.1 + 1 ≤ _
            rw [s5]
            exact Nat.le_refl _
          · show ev_sZ T' ≤ _
            unfold ev_sZ
            rw [q3.2.2.2, hX]
            show S'.2.2.2.2.2.2 + 6 ≤ _
            rw [s5]
            exact Nat.le_refl _
        · -- done
          rw [s1, sp_bd, if_pos v1, hb, s2, sp_bd, sp_b] at cl
          have c16 : C.1 0 16 = S.1 0 16 := s3 _ _ (by omega) (by omega) (by omega) (by omega) (by omega)
          have c15 : C.1 0 15 = (G : Int) := (s3 _ _ (by omega) (by omega) (by omega) (by omega) (by omega)).trans hG15
          rw [c16, ← hb] at cl
          -- the reference, behind a class's state that is C but for the macros
          have run : ∀ Cf : ev_St, (∀ c g, ¬ (305 ≤ c ∧ c ≤ 311) → Cf.1 c g = C.1 c g) → Cf.2 = C.2 → ∃ D' T1 T' T4 T5, jm_288 Q (b : Int) (ev_pI (ev_pL Cf 723 0 (ev_i2l v)) 621 0 0) = some ((), T1) ∧ jm_349 Q (p : Int) (t : Int) a3 T1 = some (v, T') ∧ jm_350 Q (b : Int) v T' = some ((), T4) ∧ jm_345 Q T4 = some ((), T5) ∧ LG (n + 1) D' T5 ∧ B8 D' T5 T5 ∧ (∀ c g, c < 724 → ¬ sp_W20 c g → T5.1 c g = S.1 c g) ∧ (∀ c g, (305 ≤ c ∧ c ≤ 311) → T5.1 c g = Cf.1 c g) ∧ (∀ c g, c = 716 ∨ c = 717 → T5.1 c g = S.1 c g) ∧ T5.1 621 0 = 0 ∧ (∀ c g, T5.2.1 c g = if c = 723 ∧ g = 0 then ev_i2l v else S.2.1 c g) ∧ (∀ c g, c ≠ 259 → c ≠ 260 → c ≠ 281 → T5.2.2.1 c g = S.2.2.1 c g) ∧ (ev_sC T5 + ev_sN S = ev_sC S + ev_sN T5 ∧ ev_sZ T5 + 1024 * ev_sN S = ev_sZ S + 1024 * ev_sN T5) := fun Cf f1 f2 => by
            obtain ⟨X, hX⟩ : ∃ X, X = ev_pI (ev_pL Cf 723 0 (ev_i2l v)) 621 0 0 := ⟨_, rfl⟩
            have xI : ∀ c g, ¬ (c = 621 ∧ g = 0) → X.1 c g = Cf.1 c g := fun c g y => by
              rw [hX, sp_pI1, if_neg y]
              rfl
            have xL : ∀ c g, X.2.1 c g = if c = 723 ∧ g = 0 then ev_i2l v else S.2.1 c g := fun c g => by
              rw [hX, sp_pI2, sp_pL2, f2, s4]
            have xR : X.2.2 = C.2.2 := by
              rw [hX]
              show Cf.2.2 = _
              rw [f2]
            have xC : ∀ c g, 621 ≤ c → c < 723 → ¬ (c = 621 ∧ g = 0) → X.1 c g = S.1 c g := fun c g y1 y2 y3 => by rw [xI c g y3, f1 c g (by omega), s3 c g (by omega) (by omega) (by omega) (by omega) (by omega)]
            obtain ⟨v', T1, T', q1, q2, q3, q4⟩ := dn X ⟨fun c g y1 y2 y3 y4 y5 => xC c g y1 y2 (by omega), fun c g y => by rw [xL, if_neg (fun z => y z.1)]⟩
            rcases q4 with ⟨z, S'', z2, _⟩ | ⟨z, D', C0', C', T4, T5, z1, z2, z3, z4, z5, z6, z7, z8, z9, z10, z11⟩
            · have z3 : v = -1 := congrArg Prod.fst (Option.some.inj (s1.symm.trans z2))
              exact absurd z3 v1
            · have za : v = v' := congrArg Prod.fst (Option.some.inj (s1.symm.trans z1))
              have zb : C0 = C0' := congrArg Prod.snd (Option.some.inj (s1.symm.trans z1))
              subst za
              subst zb
              have zc : C = C' := congrArg Prod.snd (Option.some.inj (s2.symm.trans z2))
              subst zc
              have t5X : ∀ c g, c ≠ 707 → c ≠ 708 → c ≠ 710 → ¬ (712 ≤ c ∧ c ≤ 715) → ¬ (c = 621 ∧ ((73 ≤ g ∧ g ≤ 105) ∨ g = 113 ∨ g = 125 ∨ g = 126 ∨ g = 128 ∨ g = 130 ∨ g = 131)) → ¬ (678 ≤ c ∧ c ≤ 699) → ¬ (702 ≤ c ∧ c ≤ 705) → T5.1 c g = X.1 c g := fun c g y1 y2 y3 y4 y5 y6 y7 => by rw [z7.1 c g y1 y2 y3 y4 (by omega), q3.1 c g (by omega) y6 y7]
              have t5C : ∀ c g, c < 621 ∨ 723 ≤ c → ¬ (305 ≤ c ∧ c ≤ 311) → T5.1 c g = C.1 c g := fun c g y1 y2 => by rw [t5X c g (by omega) (by omega) (by omega) (by omega) (by omega) (by omega) (by omega), xI c g (by omega), f1 c g y2]
              have t5R : ∀ c g, T5.2.2.1 c g = C.2.2.1 c g := fun c g => by rw [z7.2, q3.2.2.1, xR]
              have t5N : T5.2.2.2 = C.2.2.2 := by rw [z7.2, q3.2.2.2, xR]
              refine ⟨D', T1, T', T4, T5, by rw [← hX]; exact q1, q2, z3, z4, LG_of (L2_c2 z5 (fun k g hk => t5C k g (by omega) (by omega)) (fun a j _ => t5R a j) (by unfold ev_sN; rw [t5N]) (fun _ _ _ => rfl)), B8_c z6 (fun b hb => t5C _ _ (by omega) (by omega)) (t5C _ _ (by omega) (by omega)) (fun _ => rfl), fun c g y1 y2 => ?_, fun c g y => ?_, fun c g y => ?_, ?_, fun c g => ?_, fun c g y1 y2 y3 => by rw [t5R]; exact s5 c g y1 y2 y3, ?_⟩
              · unfold sp_W20 at y2
                rw [t5X c g (by omega) (by omega) (by omega) (by omega) (by omega) (by omega) (by omega), xI c g (by omega), f1 c g (by omega), s3 c g y1 (by omega) (by omega) (by omega) (by omega)]
              · rw [t5X c g (by omega) (by omega) (by omega) (by omega) (by omega) (by omega) (by omega), xI c g (by omega)]
              · rw [t5X c g (by omega) (by omega) (by omega) (by omega) (by omega) (by omega) (by omega), xC c g (by omega) (by omega) (by omega)]
              · rw [t5X 621 0 (by omega) (by omega) (by omega) (by omega) (by omega) (by omega) (by omega), hX, rd_eq]
              · rw [z7.2, q3.2.1, xL]
              · have q := s6
                unfold ev_sC ev_sN ev_sZ at q ⊢
                rw [t5N]
                exact q
          by_cases hr : S.1 0 16 = 0
          · rw [if_pos hr] at cl
            obtain ⟨D', T1, T', T4, T5, q1, q2, q3, q4, q5, q6, q7, q8, q9, q10, q11, q12, q13⟩ := run C (fun _ _ _ => rfl) rfl
            have o136 : T5.1 621 136 = 0 := by
              rw [q7 621 136 (by omega) (by unfold sp_W20; omega), m4]
              exact hr
            have rr : jm_351 Q a0 a1 a2 a3 (ev_pL C 723 0 (ev_i2l v)) = some (v, T5) := by
              obtain ⟨Y, hY⟩ : ∃ Y, Y = ev_pI (ev_pL C 723 0 (ev_i2l v)) 621 0 0 := ⟨_, rfl⟩
              have yI : ∀ c g, ¬ (c = 621 ∧ g = 0) → Y.1 c g = C.1 c g := fun c g y => by
                rw [hY, sp_pI1, if_neg y]
                rfl
              have yS : ∀ c g, (c = 621 ∧ (g = 135 ∨ g = 136)) ∨ c = 716 → Y.1 c g = S.1 c g := fun c g y => by rw [yI c g (by omega), s3 c g (by omega) (by omega) (by omega) (by omega) (by omega)]
              rw [← hY] at q1
              rw [(rf (ev_pL C 723 0 (ev_i2l v)) (s3 _ _ (by omega) (by omega) (by omega) (by omega) (by omega)) (s3 _ _ (by omega) (by omega) (by omega) (by omega) (by omega))).1 hv hm, ← hY, b351 (T := Y) (nf Y (yS _ _ (by omega)) (yS _ _ (by omega)) (fun g => yS _ _ (by omega))) (by rw [yS _ _ (by omega)]; omega), hb, q1, sp_bd, hp, ht, q2, sp_bd, if_pos v1, q3, sp_bd, q4, sp_bd, sp_b, o136, if_pos rfl]
            have same : ∀ c g, (305 ≤ c ∧ c ≤ 311) ∨ c = 716 ∨ c = 717 → T5.1 c g = S.1 c g := fun c g y => by
              by_cases z : 305 ≤ c ∧ c ≤ 311
              · rw [q8 c g z, s3 c g (by omega) (by omega) (by omega) (by omega) (by omega)]
              · exact q9 c g (by omega)
            have sam2 : ∀ c g, (c = 0 ∧ (g = 5 ∨ g = 7 ∨ g = 15 ∨ g = 16)) ∨ (c = 621 ∧ (g = 135 ∨ g = 136)) → T5.1 c g = S.1 c g := fun c g y => q7 c g (by omega) (by unfold sp_W20; omega)
            refine ⟨D', T5, fun K => la_20 (c := 0) (b := v) hL hj (by rw [← ha0, ← ha1, ← ha2, ← ha3]; exact lw_20_ok a0 a1 a2 a3 cl) (by rw [← ha0, ← ha1, ← ha2, ← ha3]; exact rr) q10 (fun _ => by rw [q11, if_pos ⟨rfl, rfl⟩]), q5, q6, RR_c hRR (fun c g y => ?_), RM_c hRM (fun c g y => ?_) r6, q7, fun c g y => by rw [q11, if_neg (fun z => y z.1)], q12, by omega, by omega⟩
            · by_cases z : (c = 0 ∧ (g = 15 ∨ g = 16)) ∨ (c = 621 ∧ (g = 135 ∨ g = 136))
              · exact sam2 c g (by omega)
              · exact same c g (by omega)
            · by_cases z : c = 0
              · exact sam2 c g (by omega)
              · exact same c g (by omega)
          · rw [if_neg hr] at cl
            have G6 : G < 6 := by omega
            obtain ⟨g0, g10⟩ := (hRM G (by omega)).1
            obtain ⟨cnt, hcnt⟩ : ∃ cnt : Nat, S.1 311 G = (cnt : Int) := ⟨(S.1 311 G).toNat, by omega⟩
            have c10 : cnt < 10 := by
              apply Classical.byContradiction
              intro y
              exact hf ⟨hr, by omega, by rw [hG15, Int.toNat_natCast, hcnt]; omega⟩
            have c311 : C.1 311 G = (cnt : Int) := (s3 _ _ (by omega) (by omega) (by omega) (by omega) (by omega)).trans hcnt
            obtain ⟨Cf, hCf⟩ : ∃ Cf, Cf = ev_pI (ev_pI (ev_pI (ev_pI C (305 + G) (3 * cnt) a0) (305 + G) (3 * cnt + 1) a1) (305 + G) (3 * cnt + 2) a3) 311 G ((cnt : Int) + 1) := ⟨_, rfl⟩
            rw [c206 c15 G6 c311 c10, sp_bd, ← hCf] at cl
            obtain ⟨D', T1, T', T4, T5, q1, q2, q3, q4, q5, q6, q7, q8, q9, q10, q11, q12, q13⟩ := run Cf (fun c g y => by rw [hCf, sp_pI1, if_neg (by omega), sp_pI1, if_neg (by omega), sp_pI1, if_neg (by omega), sp_pI1, if_neg (by omega)]) (by rw [hCf]; rfl)
            have o136 : T5.1 621 136 = S.1 0 16 := by rw [q7 621 136 (by omega) (by unfold sp_W20; omega), m4]
            have o135 : T5.1 621 135 = (G : Int) := by rw [q7 621 135 (by omega) (by unfold sp_W20; omega), m3, hG15]
            have o716 : T5.1 716 G = (cnt : Int) := by rw [q9 716 G (Or.inl rfl), m5 G (by omega), hcnt]
            obtain ⟨_, _, l716, l717⟩ := al_mac
            obtain ⟨U, hU⟩ : ∃ U, U = ev_pI (ev_pI (ev_pI (ev_pI T5 717 (30 * G + 3 * cnt) a0) 717 (30 * G + 3 * cnt + 1) a1) 717 (30 * G + 3 * cnt + 2) a3) 716 G ((cnt : Int) + 1) := ⟨_, rfl⟩
            have uI : ∀ c g, c ≠ 716 → c ≠ 717 → U.1 c g = T5.1 c g := fun c g y1 y2 => by rw [hU, rd_nk y1, rd_nk y2, rd_nk y2, rd_nk y2]
            have u2 : U.2 = T5.2 := by rw [hU]; rfl
            have rr : jm_351 Q a0 a1 a2 a3 (ev_pL Cf 723 0 (ev_i2l v)) = some (v, U) := by
              have cf : ∀ c g, ¬ (305 ≤ c ∧ c ≤ 311) → Cf.1 c g = C.1 c g := fun c g y => by rw [hCf, sp_pI1, if_neg (by omega), sp_pI1, if_neg (by omega), sp_pI1, if_neg (by omega), sp_pI1, if_neg (by omega)]
              have cs : ∀ c g, (c = 621 ∧ (g = 5 ∨ g = 110 ∨ g = 135 ∨ g = 136)) ∨ c = 716 → Cf.1 c g = S.1 c g := fun c g y => (cf c g (by omega)).trans (s3 c g (by omega) (by omega) (by omega) (by omega) (by omega))
              obtain ⟨Y, hY⟩ : ∃ Y, Y = ev_pI (ev_pL Cf 723 0 (ev_i2l v)) 621 0 0 := ⟨_, rfl⟩
              have yS : ∀ c g, (c = 621 ∧ (g = 135 ∨ g = 136)) ∨ c = 716 → Y.1 c g = S.1 c g := fun c g y => by
                rw [hY, sp_pI1, if_neg (by omega)]
                exact cs c g (by omega)
              rw [← hY] at q1
              rw [(rf (ev_pL Cf 723 0 (ev_i2l v)) (cs _ _ (by omega)) (cs _ _ (by omega))).1 hv hm, ← hY, b351 (T := Y) (nf Y (yS _ _ (by omega)) (yS _ _ (by omega)) (fun g => yS _ _ (by omega))) (by rw [yS _ _ (by omega)]; omega), hb, q1, sp_bd, hp, ht, q2, sp_bd, if_pos v1, q3, sp_bd, q4, sp_bd, sp_b, o136, if_neg hr, sp_b, o135, sp_ck (by omega), sp_b, sp_if (by rw [l716]; omega), sp_b, Int.toNat_natCast, o716, sp_ck (by omega), sp_ck (by omega), sp_if (by rw [l717]; omega), sp_b, sp_ck (by omega), sp_if (by rw [l717]; omega), sp_b, sp_ck (by omega), sp_if (by rw [l717]; omega), sp_b, sp_b, rd_nk (by decide), rd_nk (by decide), rd_nk (by decide), o135, sp_if (by rw [l716]; omega), sp_b, Int.toNat_natCast, rd_nk (by decide), rd_nk (by decide), rd_nk (by decide), o716, sp_ck (by omega), sp_if (by rw [l716]; omega), sp_b, show (30 * (G : Int) + 3 * (cnt : Int)).toNat = 30 * G + 3 * cnt by omega, show (30 * (G : Int) + 3 * (cnt : Int) + 1).toNat = 30 * G + 3 * cnt + 1 by omega, show (30 * (G : Int) + 3 * (cnt : Int) + 2).toNat = 30 * G + 3 * cnt + 2 by omega, ← ht, ← hp, ← hU]
            have o0 : ∀ g, g = 5 ∨ g = 7 ∨ g = 15 ∨ g = 16 → U.1 0 g = S.1 0 g := fun g y => by rw [uI _ _ (by decide) (by decide), q7 0 g (by omega) (by unfold sp_W20; omega)]
            have o311 : ∀ g, U.1 311 g = if g = G then (cnt : Int) + 1 else S.1 311 g := fun g => by
              rw [uI _ _ (by decide) (by decide), q8 311 g (by omega), hCf, sp_pI1]
              by_cases z : g = G
              · rw [if_pos ⟨rfl, z⟩, if_pos z]
              · rw [if_neg (fun y => z y.2), if_neg z, rd_nk (by omega), rd_nk (by omega), rd_nk (by omega), s3 _ _ (by omega) (by omega) (by omega) (by omega) (by omega)]
            have orow : ∀ g x, g < 6 → ¬ (g = G ∧ 3 * cnt ≤ x ∧ x ≤ 3 * cnt + 2) → U.1 (305 + g) x = S.1 (305 + g) x := fun g x hg y => by
              rw [uI _ _ (by omega) (by omega), q8 (305 + g) x (by omega), hCf, sp_pI1, if_neg (by omega), sp_pI1, if_neg (by omega), sp_pI1, if_neg (by omega), sp_pI1, if_neg (by omega), s3 _ _ (by omega) (by omega) (by omega) (by omega) (by omega)]
            have nrow : U.1 (305 + G) (3 * cnt) = a0 ∧ U.1 (305 + G) (3 * cnt + 1) = a1 ∧ U.1 (305 + G) (3 * cnt + 2) = a3 := by
              refine ⟨?_, ?_, ?_⟩
              · rw [uI _ _ (by omega) (by omega), q8 _ _ (by omega), hCf, rd_nk (by omega), rd_nf (by omega), rd_nf (by omega), rd_eq]
              · rw [uI _ _ (by omega) (by omega), q8 _ _ (by omega), hCf, rd_nk (by omega), rd_nf (by omega), rd_eq]
              · rw [uI _ _ (by omega) (by omega), q8 _ _ (by omega), hCf, rd_nk (by omega), rd_eq]
            have o717 : ∀ x, ¬ (30 * G + 3 * cnt ≤ x ∧ x ≤ 30 * G + 3 * cnt + 2) → U.1 717 x = S.1 717 x := fun x y => by rw [hU, rd_nk (by decide), rd_nf (by omega), rd_nf (by omega), rd_nf (by omega), q9 717 x (Or.inr rfl)]
            have n717 : U.1 717 (30 * G + 3 * cnt) = a0 ∧ U.1 717 (30 * G + 3 * cnt + 1) = a1 ∧ U.1 717 (30 * G + 3 * cnt + 2) = a3 := by
              refine ⟨?_, ?_, ?_⟩
              · rw [hU, rd_nk (by decide), rd_nf (by omega), rd_nf (by omega), rd_eq]
              · rw [hU, rd_nk (by decide), rd_nf (by omega), rd_eq]
              · rw [hU, rd_nk (by decide), rd_eq]
            have o716' : ∀ g, U.1 716 g = if g = G then (cnt : Int) + 1 else S.1 716 g := fun g => by
              rw [hU, sp_pI1]
              by_cases z : g = G
              · rw [if_pos ⟨rfl, z⟩, if_pos z]
              · rw [if_neg (fun y => z y.2), if_neg z, rd_nk (by decide), rd_nk (by decide), rd_nk (by decide), q9 716 g (Or.inl rfl)]
            have hRRU : sp_RR U := by
              unfold sp_RR
              rw [o0 15 (by omega), o0 16 (by omega), uI 621 135 (by decide) (by decide), uI 621 136 (by decide) (by decide), o135, o136]
              refine ⟨⟨m1, m2⟩, hG15.symm, rfl, m45, fun g hg => ?_, fun g hg => ?_⟩
              · rw [o716', o311]
                by_cases z : g = G
                · rw [if_pos z, if_pos z]
                · rw [if_neg z, if_neg z]
                  exact m5 g hg
              · rw [o311, if_neg (by omega)]
                exact m7 g hg
            have hRMU : sp_RM U := fun g hg => by
              rw [o0 15 (by omega), o0 16 (by omega)] at hg
              have g6 : g < 6 := by omega
              obtain ⟨y1, y2⟩ := hRM g hg
              by_cases z : g = G
              · subst z
                rw [o311, if_pos rfl]
                refine ⟨by omega, fun i hi => ?_⟩
                by_cases w : i = cnt
                · subst w
                  rw [n717.1, n717.2.1, n717.2.2, nrow.1, nrow.2.1, nrow.2.2, o0 5 (by omega), o0 7 (by omega)]
                  exact ⟨⟨rfl, rfl, rfl⟩, hv.1, hv.2.1, hm⟩
                · rw [o717 _ (by omega), o717 _ (by omega), o717 _ (by omega), orow g _ g6 (by omega), orow g _ g6 (by omega), orow g _ g6 (by omega), o0 5 (by omega), o0 7 (by omega)]
                  exact y2 i (by omega)
              · rw [o311, if_neg z]
                refine ⟨y1, fun i hi => ?_⟩
                rw [o717 _ (by omega), o717 _ (by omega), o717 _ (by omega), orow g _ g6 (by omega), orow g _ g6 (by omega), orow g _ g6 (by omega), o0 5 (by omega), o0 7 (by omega)]
                exact y2 i hi
            refine ⟨D', U, fun K => la_20 (c := 0) (b := v) hL hj (by rw [← ha0, ← ha1, ← ha2, ← ha3]; exact lw_20_ok a0 a1 a2 a3 cl) (by rw [← ha0, ← ha1, ← ha2, ← ha3]; exact rr) (by rw [uI _ _ (by decide) (by decide)]; exact q10) (fun _ => by rw [u2, q11, if_pos ⟨rfl, rfl⟩]), LG_c2 q5 (fun k g hk => uI k g (by omega) (by omega)) (fun a j _ => by rw [u2]) (by unfold ev_sN; rw [u2]) (fun k g hk => uI k g (by omega) (by omega)), B8_c q6 (fun b hb => uI _ _ (by omega) (by omega)) (uI _ _ (by omega) (by omega)) (fun g => uI _ _ (by decide) (by decide)), hRRU, hRMU, fun c g y1 y2 => ?_, fun c g y => by rw [u2, q11, if_neg (fun z => y z.1)], fun c g y1 y2 y3 => by rw [u2]; exact q12 c g y1 y2 y3, ?_, ?_⟩
            · have y3 := y2
              unfold sp_W20 at y3
              rw [uI c g (by omega) (by omega)]
              exact q7 c g y1 y2
            · unfold ev_sC ev_sN at q13 ⊢
              rw [u2]
              omega
            · unfold ev_sZ ev_sN at q13 ⊢
              rw [u2]
              omega
    · exact no 2 (by decide) (lw_20_x1 a0 a1 a2 a3 (cl.2.1 hv hm)) ((rf (ev_tick S) rfl rfl).2.1 hv hm)
  · exact no 1 (by decide) (lw_20_x0 a0 a1 a2 a3 (cl.2.2 hv)) ((rf (ev_tick S) rfl rfl).2.2 hv)
end OSK
