/-! PATTERNS: the call -/
section OPXO
variable {Q k L j p : Nat} {xs : Nat → Int32} {rk : Nat → Nat} {S S2 T T2 U : ev_St}
/-- what stands of all kept patterns -/
def sp_PT (S : ev_St) : Prop := (0 ≤ S.1 0 5 ∧ S.1 0 5 ≤ 12 ∧ S.1 621 5 = S.1 0 5) ∧ ∀ p : Nat, (p : Int) < S.1 0 5 → KEPT (313 + 20 * p) p S S
/-- beyond the programs the reference's rows are empty -/
def sp_ZR (S : ev_St) : Prop := ∀ p c g : Nat, p < 12 → 662 ≤ c → c ≤ 664 → g < 210 → (S.1 621 5 ≤ (p : Int) ∨ (S.1 639 p ≠ 0 ∧ S.1 665 p < (g : Int))) → S.1 c (210 * p + g) = 0
theorem ZR_c (h : sp_ZR S) (h2 : ∀ c g, (c = 621 ∧ g = 5) ∨ c = 639 ∨ (662 ≤ c ∧ c ≤ 665) → S2.1 c g = S.1 c g) : sp_ZR S2 := fun p c g a b d e f => by
  rw [h2 621 5 (by omega), h2 639 p (by omega), h2 665 p (by omega)] at f
  rw [h2 c _ (by omega)]
  exact h p c g a b d e f
def W3i (b g : Nat) : Prop := (b = 0 ∧ g = 5) ∨ (b = 1 ∧ g = 1) ∨ b = 3 ∨ (6 ≤ b ∧ b ≤ 168) ∨ (222 ≤ b ∧ b ≤ 231) ∨ (313 ≤ b ∧ b < 553) ∨ (b = 621 ∧ (g = 0 ∨ g = 1 ∨ g = 5 ∨ (25 ≤ g ∧ g ≤ 42) ∨ g = 54 ∨ g = 59)) ∨ (625 ≤ b ∧ b ≤ 657) ∨ (662 ≤ b ∧ b ≤ 668)
def W3l (b : Nat) : Prop := b = 3 ∨ (6 ≤ b ∧ b ≤ 168) ∨ (222 ≤ b ∧ b ≤ 231) ∨ (313 ≤ b ∧ b < 553) ∨ (633 ≤ b ∧ b ≤ 634) ∨ b = 723 ∨ (625 ≤ b ∧ b ≤ 638) ∨ (644 ≤ b ∧ b ≤ 657) ∨ b = 621
def sp_W3 (q b g : Nat) : Prop := (q = 0 ∧ W3i b g) ∨ (q = 1 ∧ W3l b) ∨ (q = 2 ∧ (b = 3 ∨ b = 6 ∨ b = 15 ∨ (b = 221 ∧ g = 9)))
theorem RKP_c3 (h : ∀ x g, x = 5 ∨ (169 ≤ x ∧ x < 221) → S2.1 x g = S.1 x g) (hr : RKP rk S) : RKP rk S2 := by
  have e : ∀ l, l < 26 → sp_at S2 (169 + 2 * l) = sp_at S (169 + 2 * l) := fun l hl => funext fun q => by
    unfold sp_at
    rw [h (169 + 2 * l) 1 (by omega), h (169 + 2 * l + 1) _ (by omega)]
  intro l hl h5 m hm l' hl' hi
  rw [h 5 l (by omega)] at h5
  rw [e l hl, h (169 + 2 * l) 1 (by omega)] at hm
  rw [e l hl] at hi
  exact hr l hl h5 m hm l' hl' hi
theorem PA_c2 (h : ∀ x g, x = 5 ∨ (169 ≤ x ∧ x < 221) ∨ x = 623 ∨ x = 624 → S2.1 x g = S.1 x g) (hP : sp_PA S) : sp_PA S2 := by
  obtain ⟨q, rk, hr⟩ := hP
  refine ⟨fun l hl => ?_, rk, RKP_c3 (fun x g y => h x g (by omega)) hr⟩
  rw [h 5 l (by omega), h 623 l (by omega), h (169 + 2 * l) 1 (by omega)]
  rcases q l hl with z | ⟨z1, z2, z3, z4⟩
  · exact Or.inl z
  · exact Or.inr ⟨z1, z2, z3, fun g hg => by rw [h 624 _ (by omega), h (169 + 2 * l + 1) g (by omega)]; exact z4 g hg⟩
theorem DR_c2 (h : ∀ x g, (x = 1 ∧ g = 1) ∨ x = 2 ∨ (x = 621 ∧ g = 1) ∨ x = 622 → S2.1 x g = S.1 x g) (hD : sp_DR S) : sp_DR S2 := by
  obtain ⟨d1, d2, d3, d4⟩ := hD
  unfold sp_DR
  rw [h 1 1 (by omega), h 621 1 (by omega)]
  exact ⟨d1, d2, d3, fun g hg => by rw [h 622 g (by omega), h 2 g (by omega)]; exact d4 g hg⟩
/-- frames under which the patterns stay -/
theorem PT_c (h : sp_PT S) (h1 : S2.1 0 5 = S.1 0 5 ∧ S2.1 621 5 = S.1 621 5) (h2 : ∀ p : Nat, (p : Int) < S.1 0 5 → AGC (313 + 20 * p) S S2 ∧ AGR p S S2 ∧ AGP p S S2) : sp_PT S2 := by
  obtain ⟨a, b⟩ := h
  refine ⟨by rw [h1.1, h1.2]; exact a, fun p hp => ?_⟩
  rw [h1.1] at hp
  obtain ⟨c, d, e⟩ := h2 p hp
  exact KEPT_c (b p hp) c d e
theorem op_3 (hQ : QBp Q) (hD : sp_DR S) (hP : sp_PA S) (hK : sp_PT S) (hL : L ≤ 3072) (hj : j + 6 ≤ L) : ∃ S2, (∀ K, ja_313 Q L xs K S = K S2) ∧ sp_DR S2 ∧ sp_PA S2 ∧ sp_PT S2 ∧ sp_H sp_W3 S S2 ∧ (sp_ZR S → sp_ZR S2) := by
  have hQ1 : 1000000 ≤ Q := hQ.2
  have hD0 := hD
  have hP0 := hP
  have hK0 := hK
  obtain ⟨d1, d2, d3, d4⟩ := hD
  obtain ⟨hPx, rk, hrk⟩ := hP
  obtain ⟨⟨k1, k2, k3⟩, k4⟩ := hK
  by_cases full : S.1 0 5 < 12
  · obtain ⟨p, hp⟩ : ∃ p : Nat, S.1 0 5 = (p : Int) := ⟨(S.1 0 5).toNat, by omega⟩
    have hp12 : p < 12 := by omega
    obtain ⟨k, hk⟩ : ∃ k, k = 313 + 20 * p := ⟨_, rfl⟩
    obtain ⟨ok1, ok2⟩ := pk_ob p hp12
    rw [← hk] at ok1 ok2
    have hDx : ∀ U : ev_St, (∀ c g, c = 621 ∧ g = 1 ∨ (622 ≤ c ∧ c ≤ 624) → U.1 c g = S.1 c g) → DRx S U ∧ PRx S U := fun U hU => by
      refine ⟨⟨⟨d1, d2⟩, by rw [hU _ _ (by omega), d3], fun g hg => by rw [hU _ _ (by omega)]; exact d4 g hg⟩, fun i hi => ?_⟩
      rw [hU 623 i (by omega)]
      rcases hPx i hi with z | ⟨z1, z2, z3, z4⟩
      · exact Or.inl z
      · exact Or.inr ⟨z1, z2, z3, fun g hg => by rw [hU 624 _ (by omega)]; exact z4 g hg⟩
    have rd := fun (U : ev_St) (hU : ∀ c g, c = 621 ∧ g = 1 ∨ (622 ≤ c ∧ c ≤ 624) → U.1 c g = S.1 c g) => rd_all (Q := Q) (k := k) (S := S) (T := U) (rk := rk) (a2 := -1) (a0 := -1) (by omega) ok1 (by omega) (hDx U hU).1 (hDx U hU).2 hrk (Or.inl ⟨rfl, rfl⟩)
    rcases rd S (fun _ _ _ => rfl) with ⟨S', T0, a1, _, a3, _⟩ | ⟨S', T0, N, M, φ, ψ, own, up, Z, a1, _, a3, a4, a5, a6, a7, a8, a9⟩
    · -- both refuse
      obtain ⟨f1, f2, f3, f4, f5⟩ := a3
      obtain ⟨U, hU⟩ : ∃ U, U = ev_pI (ev_pL S' 723 0 (ev_i2l (-1))) 621 0 0 := ⟨_, rfl⟩
      have u1 : ∀ c g, ¬ (c = 621 ∧ g = 0) → U.1 c g = S'.1 c g := fun c g h => by rw [hU]; exact if_neg h
      have u0 : ∀ c g, ¬ Wk k c → ¬ (c = 621 ∧ g = 0) → U.1 c g = S.1 c g := fun c g h1 h2 => by rw [u1 c g h2, f1 c g h1]
      have c1 : jm_169 Q S = some (.inl (-1), S') := by
        unfold jm_169
        rw [sp_b, if_pos full, sp_b, hp, sp_if (by omega), sp_b, Int.toNat_natCast, ← hk, show (1 + 1 : Nat) = 2 from rfl, a1, sp_bd, if_neg (by decide)]
      rcases rd U (fun c g h => u0 c g (by unfold Wk; omega) (by omega)) with ⟨S3, T2, b1, b2, b3, b4⟩ | ⟨S3, T2, _, _, _, _, _, _, _, b1, _⟩
      · have r1 : jm_272 Q (ev_pL S' 723 0 (ev_i2l (-1))) = some (-1, T2) := by
          unfold jm_272
          rw [sp_b, ← hU, sp_b, u0 621 5 (by unfold Wk; omega) (by omega), k3, if_pos (by omega), b2, sp_bd, if_neg (fun z => z rfl)]
        obtain ⟨g1, g2, g3, g4⟩ := fr_265 b2
        have t0 : ∀ c g, ¬ Wk k c → ¬ Rk c g → ¬ (c = 621 ∧ g = 0) → T2.1 c g = S.1 c g := fun c g h1 h2 h3 => by rw [g1 c g h2, u0 c g h1 h3]
        have tl : ∀ c g, LOWc c g → T2.1 c g = S.1 c g := fun c g h => by
          rw [b4.1 c g h, u0 c g (by unfold LOWc at h; unfold Wk; omega) (by unfold LOWc at h; omega)]
        have uL : ∀ c g, ¬ Wk k c → c ≠ 723 → U.2.1 c g = S.2.1 c g := fun c g nw n7 => by
          rw [hU, sp_pI2, sp_pL2, if_neg (fun z => n7 z.1), f2 c g nw]
        have tL : ∀ c g, ¬ Wk k c → ¬ Rk c g → c ≠ 723 → T2.2.1 c g = S.2.1 c g := fun c g h1 h2 h3 => by rw [g2 c g h2, uL c g h1 h3]
        refine ⟨T2, fun K => la_3 (S1 := ev_pL S' 723 0 (ev_i2l (-1))) (c := 0) (b := -1) hL hj (lw_3_ok c1) r1 ?_ (fun _ => ?_), DR_c2 (fun x g h => t0 x g (by unfold Wk; omega) (by unfold Rk; omega) (by omega)) hD0, PA_c2 (fun x g h => t0 x g (by unfold Wk; omega) (by unfold Rk; omega) (by omega)) hP0, PT_c hK0 ⟨t0 _ _ (by unfold Wk; omega) (by unfold Rk; omega) (by omega), t0 _ _ (by unfold Wk; omega) (by unfold Rk; omega) (by omega)⟩ (fun q hq => ⟨fun x i x1 x2 => ⟨t0 x i (by unfold Wk; omega) (by unfold Rk; omega) (by omega), tL x i (by unfold Wk; omega) (by unfold Rk; omega) (by omega)⟩, ⟨fun c g y1 y2 y3 => ?_, fun c g y1 y2 y3 y4 => ?_, fun c y => tl c q (by unfold LOWc; omega), fun i hi => tl _ _ (by unfold LOWc; omega), fun i hi => tl _ _ (by unfold LOWc; omega)⟩, ⟨t0 _ _ (by unfold Wk; omega) (by unfold Rk; omega) (by omega), t0 _ _ (by unfold Wk; omega) (by unfold Rk; omega) (by omega), fun c g y1 y2 _ _ => t0 _ _ (by unfold Wk; omega) (by unfold Rk; omega) (by omega)⟩⟩), ⟨fun c g h => ?_, fun c g h => ?_, fun c g h => ?_, ?_, ?_, ?_, ?_⟩, fun hZ => ZR_c hZ (fun c g hh => t0 c g (by unfold Wk; omega) (by unfold Rk; omega) (by omega))⟩
        · rw [g1 _ _ (by unfold Rk; omega), hU, rd_eq]
        · rw [g2 _ _ (by unfold Rk; omega), hU]
          exact rd_L
        · by_cases z : c ≤ 632
          · exact tl c g (by unfold LOWc; omega)
          · exact t0 _ _ (by unfold Wk; omega) (by unfold Rk; omega) (by omega)
        · rw [b4.2 c g y1 y2 (by omega), uL c g (by unfold Wk; omega) (by omega)]
        · have h' : ¬ W3i c g := fun z => h (Or.inl ⟨rfl, z⟩)
          unfold W3i at h'
          exact t0 c g (by unfold Wk; omega) (by unfold Rk; omega) (by omega)
        · have h' : ¬ W3l c := fun z => h (Or.inr (Or.inl ⟨rfl, z⟩))
          unfold W3l at h'
          exact tL c g (by unfold Wk; omega) (by unfold Rk; omega) (by omega)
        · have n : ¬ (c = 3 ∨ c = 6 ∨ c = 15 ∨ (c = 221 ∧ g = 9)) := fun z => h (Or.inr (Or.inr ⟨rfl, z⟩))
          rw [g3, hU]
          exact f3 c g (by omega) (by omega) (by omega)
        · rw [g4, hU]
          exact congrArg (fun z => z.1) f4
        · rw [g4, hU]
          exact congrArg (fun z => z.2.1) f4
        · rw [g4, hU]
          have := congrArg (fun z => z.2.2.1) f4
          exact Nat.le_trans (Nat.le_of_eq this) (Nat.le_succ _)
        · rw [g4, hU]
          have := congrArg (fun z => z.2.2.2) f4
          exact Nat.le_trans (Nat.le_of_eq this) (Nat.le_add_right _ _)
      · rw [a1] at b1
        exact absurd (show (0 : Int) = 1 from congrArg Prod.fst (Option.some.inj b1)) (by decide)
    · -- both read it
      obtain ⟨f1, f2, f3, f4, f5⟩ := a3
      obtain ⟨V, _, v1, ⟨v2, v3, v4, v5⟩, _⟩ := keep_two (Q := Q) a4 hp12 hk hQ
      have q1 : ∀ c g, ¬ Wk k c → ¬ (222 ≤ c ∧ c ≤ 231) → ¬ (k ≤ c ∧ c < k + 20) → V.1 c g = S.1 c g := fun c g h1 h2 h3 => by
        rw [v2 c g h2 (by omega) (by omega), f1 c g h1]
      have q2 : ∀ c g, ¬ Wk k c → ¬ (222 ≤ c ∧ c ≤ 231) → ¬ (k ≤ c ∧ c < k + 20) → V.2.1 c g = S.2.1 c g := fun c g h1 h2 h3 => by
        rw [v3 c g h2 (by omega) (by omega), f2 c g h1]
      obtain ⟨S1, hS1⟩ : ∃ S1, S1 = ev_pI (ev_pI V 1 1 0) 0 5 ((p : Int) + 1) := ⟨_, rfl⟩
      have c1 : jm_169 Q S = some (.inl (p : Int), S1) := by
        have e5 : V.1 0 5 = (p : Int) := by rw [q1 0 5 (by unfold Wk; omega) (by omega) (by omega), hp]
        unfold jm_169
        rw [sp_b, if_pos full, sp_b, hp, sp_if (by omega), sp_b, Int.toNat_natCast, ← hk, show (1 + 1 : Nat) = 2 from rfl, a1, sp_bd, if_pos (by decide), v1, sp_bd, sp_b, sp_b, rd_nk (by decide), e5, sp_ck (by omega), sp_b, ← hS1, sp_b, hS1, rd_eq, sp_ck (by omega), show (p : Int) + 1 - 1 = (p : Int) from by omega]
      have s1 : ∀ c g, ¬ (c = 1 ∧ g = 1) → ¬ (c = 0 ∧ g = 5) → S1.1 c g = V.1 c g := fun c g h1 h2 => by rw [hS1, sp_pI1, if_neg h2, sp_pI1, if_neg h1]
      have s2 : S1.2 = V.2 := by rw [hS1]; rfl
      obtain ⟨U, hU⟩ : ∃ U, U = ev_pI (ev_pL S1 723 0 (ev_i2l (p : Int))) 621 0 0 := ⟨_, rfl⟩
      have u1 : ∀ c g, ¬ (c = 621 ∧ g = 0) → U.1 c g = S1.1 c g := fun c g h => by rw [hU]; exact if_neg h
      have u2 : ∀ c g, c ≠ 723 → U.2.1 c g = V.2.1 c g := fun c g h => by
        rw [hU, sp_pI2, sp_pL2, if_neg (fun z => h z.1), s2]
      have u3 : U.2.2 = V.2.2 := by
        rw [hU]
        show S1.2.2 = _
        rw [s2]
      have u5 : ∀ c g, 553 ≤ c → ¬ (c = 621 ∧ g = 0) → U.1 c g = S.1 c g := fun c g h1 h2 => by
        rw [u1 c g h2, s1 c g (by omega) (by omega), q1 c g (by unfold Wk; omega) (by omega) (by omega)]
      rcases rd U (fun c g h => u5 c g (by omega) (by omega)) with ⟨S3, T2, b1, _⟩ | ⟨S3, T2, N, M, φ, ψ, own, up, Z, b1, b2, _, b4, b5, _, b7, b8, b9⟩
      · rw [a1] at b1
        exact absurd (show (1 : Int) = 0 from congrArg Prod.fst (Option.some.inj b1)) (by decide)
      · have e3 : S3 = S' := by
          rw [a1] at b1
          exact (congrArg Prod.snd (Option.some.inj b1)).symm
        rw [e3] at b2 b4 b5
        obtain ⟨g1, g2, g3, g4⟩ := fr_265 b2
        obtain ⟨V9, T4, w1, _, w3, w4, w5, w6, w7, w8⟩ := keep_two (Q := Q) b4 hp12 hk hQ
        have eV : V9 = V := by
          rw [v1] at w1
          exact (congrArg Prod.snd (Option.some.inj w1)).symm
        rw [eV] at w4
        have n5 : T2.1 621 5 = (p : Int) := by rw [g1 _ _ (by unfold Rk; omega), u5 _ _ (by omega) (by omega), k3, hp]
        have n5' : T4.1 621 5 = (p : Int) := by
          rw [w5 _ _ (by unfold RTc KPc; omega), n5]
        obtain ⟨S2, hS2⟩ : ∃ S2, S2 = ev_pI (ev_pI T4 621 1 0) 621 5 ((p : Int) + 1) := ⟨_, rfl⟩
        have r5 : jm_272 Q (ev_pL S1 723 0 (ev_i2l (p : Int))) = some ((p : Int), S2) := by
          unfold jm_272
          rw [sp_b, ← hU, sp_b, u5 621 5 (by omega) (by omega), k3, hp, if_pos (by omega), b2, sp_bd, if_pos (by omega), sp_b, n5, w3, sp_bd, sp_b, sp_b, rd_nf (by decide), n5', sp_ck (by omega), sp_b, ← hS2, sp_b, hS2, rd_eq, sp_ck (by omega), show (p : Int) + 1 - 1 = (p : Int) from by omega]
        have z1 : ∀ c g, ¬ (c = 621 ∧ (g = 1 ∨ g = 5)) → S2.1 c g = T4.1 c g := fun c g h => by rw [hS2, sp_pI1, if_neg (by omega), sp_pI1, if_neg (by omega)]
        have z2 : S2.2 = T4.2 := by rw [hS2]; rfl
        have z3 : ∀ c g, ¬ (c = 621 ∧ (g = 1 ∨ g = 5)) → ¬ RTc p c g → ¬ Rk c g ∨ LOWc c g → S2.1 c g = U.1 c g := fun c g h1 h2 h3 => by
          rw [z1 c g h1, w5 c g h2]
          rcases h3 with y | y
          · exact g1 c g y
          · exact b8.1 c g y
        have z4 : ∀ c g, c < 553 → S2.1 c g = S1.1 c g := fun c g h => by
          rw [z3 c g (by omega) (by unfold RTc KPc; omega) (Or.inl (by unfold Rk; omega)), u1 c g (by omega)]
        have z5 : ∀ c g, 553 ≤ c → ¬ (c = 621 ∧ (g = 0 ∨ g = 1 ∨ g = 5)) → ¬ RTc p c g → ¬ Rk c g ∨ LOWc c g → S2.1 c g = S.1 c g := fun c g h1 h2 h3 h4 => by
          rw [z3 c g (by omega) h3 h4, u5 c g h1 (by omega)]
        have z6 : ∀ c g, c < 553 → ¬ Wk k c → ¬ (222 ≤ c ∧ c ≤ 231) → ¬ (k ≤ c ∧ c < k + 20) → ¬ (c = 1 ∧ g = 1) → ¬ (c = 0 ∧ g = 5) → S2.1 c g = S.1 c g := fun c g h1 h2 h3 h4 h5 h6 => by
          rw [z4 c g h1, s1 c g h5 h6, q1 c g h2 h3 h4]
        have y1 : ∀ c g, c < 553 → S2.2.1 c g = V.2.1 c g := fun c g h => by
          rw [z2, w6 c g (by omega), g2 c g (by unfold Rk; omega), u2 c g (by omega)]
        have y2 : ∀ c g, c < 553 → ¬ Wk k c → ¬ (222 ≤ c ∧ c ≤ 231) → ¬ (k ≤ c ∧ c < k + 20) → S2.2.1 c g = S.2.1 c g := fun c g h1 h2 h3 h4 => by
          rw [y1 c g h1, q2 c g h2 h3 h4]
        have x05 : S2.1 0 5 = (p : Int) + 1 := by rw [z4 _ _ (by omega), hS1, rd_eq]
        have x11 : S2.1 1 1 = 0 := by rw [z4 _ _ (by omega), hS1, rd_nk (by decide), rd_eq]
        have x621 : S2.1 621 5 = (p : Int) + 1 ∧ S2.1 621 1 = 0 ∧ S2.1 621 0 = 0 := by
          refine ⟨by rw [hS2, rd_eq], by rw [hS2, rd_nf (by decide), rd_eq], ?_⟩
          rw [z3 _ _ (by omega) (by unfold RTc KPc; omega) (Or.inl (by unfold Rk; omega)), hU, rd_eq]
        refine ⟨S2, fun K => la_3 (S1 := ev_pL S1 723 0 (ev_i2l (p : Int))) (c := 0) (b := (p : Int)) hL hj (lw_3_ok c1) r5 x621.2.2 (fun _ => ?_), ⟨by omega, by omega, by rw [x621.2.1, x11], fun g hg => by omega⟩, PA_c2 (fun x g h => ?_) hP0, ⟨⟨by omega, by omega, by rw [x621.1, x05]⟩, fun q hq => ?_⟩, ⟨fun c g h => ?_, fun c g h => ?_, fun c g h => ?_, ?_, ?_, ?_, ?_⟩, fun hZ q c g n0 n1 n2 n3 hq => ?_⟩
        · rw [z2, w6 _ _ (by omega), g2 _ _ (by unfold Rk; omega), hU]
          exact rd_L
        · by_cases y : x < 553
          · exact z6 x g y (by unfold Wk; omega) (by omega) (by omega) (by omega) (by omega)
          · exact z5 x g (by omega) (by omega) (by unfold RTc KPc; omega) (Or.inl (by unfold Rk; omega))
        · by_cases e : q = p
          · subst e
            rw [← hk]
            refine KEPT_c w4 (fun x i i1 i2 => ⟨?_, y1 x i (by omega)⟩) ⟨fun c g _ _ _ => z1 c g (by omega), fun c g _ _ _ _ => by rw [z2], fun c _ => z1 _ _ (by omega), fun i _ => z1 _ _ (by omega), fun l _ => z1 _ _ (by omega)⟩ ⟨z1 _ _ (by omega), z1 _ _ (by omega), fun c g _ _ _ _ => z1 _ _ (by omega)⟩
            rw [z4 x i (by omega), s1 x i (by omega) (by omega)]
          · have ql : q < p := by omega
            refine KEPT_c (k4 q (by omega)) (fun x i i1 i2 => ⟨z6 x i (by omega) (by unfold Wk; omega) (by omega) (by omega) (by omega) (by omega), y2 x i (by omega) (by unfold Wk; omega) (by omega) (by omega)⟩) ⟨fun c g i1 i2 i3 => ?_, fun c g i1 i2 i3 i4 => ?_, fun c i1 => ?_, fun i i1 => ?_, fun l i1 => ?_⟩ ⟨?_, ?_, fun c g i1 i2 i3 i4 => ?_⟩
            · refine z5 c g (by omega) (by omega) (by unfold RTc KPc; omega) ?_
              by_cases y : c ≤ 632
              · exact Or.inr (by unfold LOWc; omega)
              · exact Or.inl (by unfold Rk; omega)
            · rw [z2, w6 c g (by omega), b8.2 c g i1 i2 (by omega), u2 c g (by omega), q2 c g (by unfold Wk; omega) (by omega) (by omega)]
            · exact z5 _ _ (by omega) (by omega) (by unfold RTc KPc; omega) (Or.inr (by unfold LOWc; omega))
            · exact z5 _ _ (by omega) (by omega) (by unfold RTc KPc; omega) (Or.inr (by unfold LOWc; omega))
            · exact z5 _ _ (by omega) (by omega) (by unfold RTc KPc; omega) (Or.inr (by unfold LOWc; omega))
            · exact z5 _ _ (by omega) (by omega) (by unfold RTc KPc; omega) (Or.inl (by unfold Rk; omega))
            · exact z5 _ _ (by omega) (by omega) (by unfold RTc KPc; omega) (Or.inl (by unfold Rk; omega))
            · exact z5 _ _ (by omega) (by omega) (by unfold RTc KPc; omega) (Or.inl (by unfold Rk; omega))
        · have h' : ¬ W3i c g := fun z => h (Or.inl ⟨rfl, z⟩)
          unfold W3i at h'
          by_cases y : c < 553
          · exact z6 c g y (by unfold Wk; omega) (by omega) (by omega) (by omega) (by omega)
          · exact z5 c g (by omega) (by omega) (by unfold RTc KPc; omega) (Or.inl (by unfold Rk; omega))
        · have h' : ¬ W3l c := fun z => h (Or.inr (Or.inl ⟨rfl, z⟩))
          unfold W3l at h'
          by_cases y : c < 553
          · exact y2 c g y (by unfold Wk; omega) (by omega) (by omega)
          · rw [z2, w6 c g (by omega), g2 c g (by unfold Rk; omega), u2 c g (by omega), q2 c g (by unfold Wk; omega) (by omega) (by omega)]
        · have n : ¬ (c = 3 ∨ c = 6 ∨ c = 15 ∨ (c = 221 ∧ g = 9)) := fun z => h (Or.inr (Or.inr ⟨rfl, z⟩))
          rw [z2, w7, g3, u3, v4 c g (by omega)]
          exact f3 c g (by omega) (by omega) (by omega)
        · rw [z2, w7, g4, u3, v5, f4]
        · rw [z2, w7, g4, u3, v5, f4]
        · rw [z2, w7, g4, u3, v5, f4]
          exact Nat.le_succ _
        · rw [z2, w7, g4, u3, v5, f4]
          exact Nat.le_add_right _ _
        · rw [x621.1] at hq
          by_cases e : q = p
          · rcases hq with y | ⟨e1, e2⟩
            · omega
            · rw [e, z1 639 _ (by omega)] at e1
              rw [e, z1 665 _ (by omega)] at e2
              rw [e, z1 c _ (by omega), w8 c g n1 n2 n3 e1 e2, g1 c _ (by unfold Rk; omega), u5 c _ (by omega) (by omega)]
              exact hZ p c g hp12 n1 n2 n3 (Or.inl (by omega))
          · rw [z5 c _ (by omega) (by omega) (by unfold RTc KPc; omega) (Or.inl (by unfold Rk; omega))]
            rw [z5 639 q (by omega) (by omega) (by unfold RTc KPc; omega) (Or.inl (by unfold Rk; omega)), z5 665 q (by omega) (by omega) (by unfold RTc KPc; omega) (Or.inl (by unfold Rk; omega))] at hq
            refine hZ q c g n0 n1 n2 n3 ?_
            rcases hq with y | y
            · exact Or.inl (by omega)
            · exact Or.inr y
  · have fF := sp_F_no2 (S := S) (c := 0) (d := 1)
    have h0 : ∀ c g, ¬ (c = 621 ∧ g = 0) → (ev_pI (ev_pI (ev_tick S) 621 0 0) 621 0 1).1 c g = S.1 c g := fun c g h => (if_neg h).trans (if_neg h)
    have hl : (ev_pI (ev_pI (ev_tick S) 621 0 0) 621 0 1).2.1 = S.2.1 := rfl
    refine ⟨_, fun K => la_3 (S1 := ev_tick S) (c := 1) (b := 0) hL hj (lw_3_x0 ?_) ?_ rd_eq (fun q => by cases q), DR_c2 (fun x g h => h0 x g (by omega)) hD0, PA_c2 (fun x g h => h0 x g (by omega)) hP0, PT_c hK0 ⟨h0 _ _ (by omega), h0 _ _ (by omega)⟩ (fun q hq => ⟨fun x i x1 x2 => ⟨h0 x i (by omega), by rw [hl]⟩, ⟨fun c g _ _ _ => h0 c g (by omega), fun c g _ _ _ _ => by rw [hl], fun c _ => h0 _ _ (by omega), fun i _ => h0 _ _ (by omega), fun l _ => h0 _ _ (by omega)⟩, ⟨h0 _ _ (by omega), h0 _ _ (by omega), fun c g _ _ _ _ => h0 _ _ (by omega)⟩⟩), sp_H_F fF (fun b g w => Or.inl ⟨rfl, ?_⟩) (fun g => Or.inr (Or.inl ⟨rfl, ?_⟩)), fun hZ => ZR_c hZ (fun c g hh => h0 c g (by omega))⟩
    · unfold jm_169
      rw [sp_b, if_neg full]
    · unfold jm_272
      rw [sp_b, sp_b, if_neg (fun z => z (by show S.1 621 5 = 12; omega))]
      rfl
    · unfold sp_Wc at w
      unfold W3i
      omega
    · unfold W3l
      omega
end OPXO
