/-! M1: the log once more, its characters signs (osf osg osh osj osk) -/
section OSF
variable {Q p k t m i j len w s E b c0 : Nat} {n o0 : Int} {S S1 S2 S' T T1 T2 T' U V : ev_St} {a c d e f v x y md lim : Int} {D : lg_D}
theorem ct_343_g {c : Nat} {f r i fr : Int} (hQ : 1000 ≤ Q) (hT : lg_T_g n D E c S T) (hn0 : n ≤ 512) (hb : b < 3) (hf : 0 ≤ f ∧ f ≤ 80) (hr : 0 ≤ r ∧ r ≤ 80) (hi : 0 ≤ i ∧ i ≤ 80) (hfr : f + r ≤ S.1 (263 + 2 * b) 1) (hn : S.1 (263 + 2 * b) 1 - r + i ≤ 160) (hy : ∀ g : Nat, (g : Int) < i → 0 ≤ T.1 702 (fr + (g : Int)).toNat ∧ T.1 702 (fr + (g : Int)).toNat < 127) (hD : 0 ≤ fr ∧ fr + i ≤ 200) (hc : (c : Int) < 420000) (hs : dS D c + r + i ≤ 840000) (h126 : T.1 621 126 ≤ 1000000) (hj : jm_343 Q (b : Int) f (f + r) fr i 0 T = some ((), T')) : ∀ g : Nat, (g : Int) < S.1 (263 + 2 * b) 1 + (i - r) → T'.1 708 (200 * b + g) = if (g : Int) < f then T.1 708 (200 * b + g) else if (g : Int) < f + i then T.1 702 (fr + ((g : Int) - f)).toNat else T.1 708 (200 * b + ((g : Int) - i + r).toNat) := fun g hg => by
  obtain ⟨hC, ⟨t1, t2, t3, t0⟩, ⟨t4, t5⟩, ⟨t6, t7⟩, t8, t9, t10, t11⟩ := hT
  have mn : ∀ g : Nat, (g : Int) < S.1 254 12 → T.1 714 g = sp_bs (T.1 714) g + S.1 261 g ∧ 0 ≤ S.1 261 g := fun g hg => ⟨(t11 g hg).1, (t11 g hg).2.1⟩
  obtain ⟨b1, b2, b3, b4⟩ := hC.2.2.2.1 b hb
  obtain ⟨u1, u2, u3, u4⟩ := hC.2.2.2.2.1
  have hdc := lg_mono2 hC.2.2.2.2.2.1 hC.1 (Nat.le_refl _)
  have hd0 := lg_mono2 hC.2.2.2.2.2.1 (Nat.zero_le c) hC.1
  have dc0 : 0 ≤ dS D c := by
    have := lg_mono2 hC.2.2.2.2.2.1 (Nat.le_refl c) hC.1
    exact this.1
  obtain ⟨T1, e1, e2, e3, e4, e5, e6, e7, e8⟩ := ed_R (Q := Q) (b := b) (f := f) (r := r) (i := i) (c := (c : Int)) (s := dS D c) (fr := fr) (P := f + 128 * r + 16384 * i + 2097152 * (b : Int)) (isD := 0) (u := S.1 254 12) (y := fun g => T.1 702 (fr + (g : Int)).toNat) (T := T) hQ hb hf.1 ⟨hr.1, by omega⟩ ⟨hi.1, by omega⟩ (by omega) (fun g hg => by
    have := b4 g (by omega)
    rw [this.1]
    exact ⟨this.2.1, this.2.2.1⟩) hy (Or.inl ⟨rfl, hD, fun _ _ => rfl⟩) t1 (by omega) (by rw [← t1]; exact t9) (fun w => by
    have l0 := t10 (by omega)
    refine ⟨by omega, ?_⟩
    by_cases e : S.1 254 12 = 0
    · rw [e] at t8 ⊢
      have e0 : sp_bs (T.1 714) 0 = 0 := rfl
      rw [show c = 0 from by omega, hC.2.2.2.2.2.1.1]
      rfl
    · have q := (t11 (S.1 254 12 - 1).toNat (by omega)).2.2
      have q2 : sp_bs (T.1 714) (S.1 254 12) = T.1 714 (S.1 254 12 - 1).toNat := if_neg e
      unfold sp_bs
      rw [if_neg e, q, show (T.1 714 (S.1 254 12 - 1).toNat).toNat = c from by omega]) ⟨by omega, hc⟩ ⟨dc0, hs⟩ ⟨by omega, h126⟩ rfl (by omega)
  obtain ⟨T2, p1, p2, p3, _⟩ := pf_R (Q := Q) (b := b) (p := f) (r := r) (s3 := dS D c + r) (i := i) (n := S.1 (263 + 2 * b) 1) (T := T1) (by omega) hb hf.1 hr.1 hi.1 (by rw [e8.1 707 b (by omega) (by omega) (by omega)]; exact b3) b2 hfr hn ⟨by omega, by omega⟩ (by rw [e8.1 621 121 (by omega) (by omega) (by omega), u3]; exact ⟨u1, u2⟩) (fun g hg => by
    rw [e8.1 621 121 (by omega) (by omega) (by omega), u3] at hg
    rw [e8.1 710 g (by omega) (by omega) (by omega)]
    obtain ⟨_, _, v3, v4, _, v6, v7⟩ := u4 g hg
    rw [v3]
    have := hC.2.2.2.1 (S.1 256 g).toNat (by omega)
    omega)
  rw [e1, p1, sp_bd] at hj
  have e : T2 = T' := congrArg Prod.snd (Option.some.inj hj)
  subst e
  have k708 : ∀ x, T1.1 708 x = T.1 708 x := fun x => e8.1 708 x (by omega) (by omega) (by omega)
  rw [p3 g hg, k708, k708]
  by_cases z1 : (g : Int) < f
  · rw [if_pos z1, if_pos z1]
  · rw [if_neg z1, if_neg z1]
    by_cases z2 : (g : Int) < f + i
    · rw [if_pos z2, if_pos z2, e7, if_neg (by omega), if_pos (by omega)]
      show T.1 702 (fr + (((((dS D c + r + ((g : Int) - f)).toNat : Nat) : Int) - (dS D c + r)).toNat : Int)).toNat = _
      rw [show ((((dS D c + r + ((g : Int) - f)).toNat : Nat) : Int) - (dS D c + r)).toNat = ((g : Int) - f).toNat by omega, show (((g : Int) - f).toNat : Int) = (g : Int) - f by omega]
    · rw [if_neg z2, if_neg z2]
theorem blk_g (hQ : 1000 ≤ Q) (hn0 : n ≤ 512) (hb : b < 3) (hR : RCT m E s T) (hE : E ≤ len) (h80 : len ≤ 80 ∧ s ≤ 80) (hm81 : m ≤ 81) (hm0 : 0 < m) (h30 : T.1 703 0 = 0) (hN : ∀ i, i < m → RCN c0 o0 m s S T i) (hc0 : c0 + m ≤ 820) (ho : 0 ≤ o0 ∧ o0 + (s : Int) ≤ 800) (h9 : ((c0 + m : Nat) : Int) ≤ S.1 269 9) {tx : Nat → Int} {cc : Nat} (hcc : (cc : Int) + m < 420000) (hds : dS D cc + 160 ≤ 840000) : ∀ (r j q q' E2 : Nat) (D2 : lg_D) (U X : ev_St), j + r = m → r < q → r < q' → lg_T_g n D2 E2 (cc + j) U X → eg_C S U → eg_R T X → (0 < j → E2 = cc + j ∧ U.1 254 13 = U.1 254 12 ∧ X.1 621 131 = X.1 621 130 ∧ 0 < U.1 254 11) → U.1 (263 + 2 * b) 1 = (len : Int) - (gsm T m - gsm T (m - j)) + ((s : Int) - T.1 703 (m - j)) → (∀ k, k ≤ cc → ∀ b', dL D2 k b' = dL D k b') → (∀ b', b' ≠ b → dL D2 (cc + j) b' = dL D cc b') → dS D2 (cc + j) = dS D cc + (gsm T m - gsm T (m - j)) + ((s : Int) - T.1 703 (m - j)) → (∀ g : Nat, (g : Int) < U.1 (263 + 2 * b) 1 → X.1 708 (200 * b + g) = Rt T tx m j g) → ∃ (D3 : lg_D) (S' T' : ev_St), jl_47_5 Q 255 (b : Int) q (o0 + ((s : Int) - T.1 703 (m - j))) ((c0 + j : Nat) : Int) U = jl_47_5 Q 255 (b : Int) (q - r) (o0 + (s : Int)) ((c0 + m : Nat) : Int) S' ∧ jl_350_4 Q (b : Int) q' ((m : Int) - 1 - (j : Int)) X = some ((), T') ∧ lg_T_g n D3 (cc + m) (cc + m) S' T' ∧ (S'.1 254 13 = S'.1 254 12 ∧ T'.1 621 131 = T'.1 621 130 ∧ 0 < S'.1 254 11) ∧ eg_C S S' ∧ eg_R T T' ∧ S'.1 (263 + 2 * b) 1 = (len : Int) - gsm T m + (s : Int) ∧ (∀ k, k ≤ cc → ∀ b', dL D3 k b' = dL D k b') ∧ (∀ b', b' ≠ b → dL D3 (cc + m) b' = dL D cc b') ∧ dS D3 (cc + m) = dS D cc + gsm T m + (s : Int) ∧ (∀ g : Nat, (g : Int) < S'.1 (263 + 2 * b) 1 → T'.1 708 (200 * b + g) = Rt T tx m m g) := fun r => by
  obtain ⟨l703, l704, l705, l277, l278, l279, l280⟩ := al_720
  induction r with
  | zero =>
    intro j q q' E2 D2 U X h1 h2 h3 hT fC fR hE2 hl hD hDb hS hX
    obtain ⟨q', rfl⟩ : ∃ r, q' = r + 1 := ⟨q' - 1, by omega⟩
    have e : j = m := by omega
    subst e
    have g0 : gsm T 0 = 0 := rfl
    rw [Nat.sub_self, h30, g0] at hl hS
    rw [Nat.sub_self, h30]
    obtain ⟨x1, x2⟩ := hE2 hm0
    subst x1
    refine ⟨D2, U, X, by rw [Nat.sub_zero, show (s : Int) - 0 = (s : Int) by omega], ?_, hT, x2, fC, fR, by rw [hl]; omega, hD, hDb, by rw [hS]; omega, hX⟩
    show jb_350_4 Q (b : Int) _ _ X = _
    unfold jb_350_4
    rw [if_pos (by omega)]
  | succ r ih =>
    intro j q q' E2 D2 U X h1 h2 h3 hT fC fR hE2 hl hD hDb hS hX
    obtain ⟨q, rfl⟩ : ∃ r, q = r + 1 := ⟨q - 1, by omega⟩
    obtain ⟨q', rfl⟩ : ∃ r, q' = r + 1 := ⟨q' - 1, by omega⟩
    obtain ⟨x, hx⟩ : ∃ x, x = m - 1 - j := ⟨_, rfl⟩
    have xj : m - j = x + 1 := by omega
    have xj2 : m - (j + 1) = x := by omega
    obtain ⟨a, bb, e1, e2, e3, e4⟩ := hR.1 x (by omega)
    obtain ⟨n1, n2, n3, n4⟩ := hN j (by omega)
    rw [← hx, e1] at n1
    rw [← hx, e1, e2] at n2
    rw [← hx, xj] at n3 n4
    have k0 := RCT_le hR x (by omega) hm0
    have k1 := RCT_le hR (x + 1) (by omega) hm0
    have k2 := hR.2.2.2.2 x (by omega)
    have gb := gsm_be hR (x := x) (m - (x + 1)) (by omega)
    rw [show x + 1 + (m - (x + 1)) = m by omega] at gb
    have gu := gsm_up hR (m - (x + 1)) (x + 1) (by omega)
    rw [show x + 1 + (m - (x + 1)) = m by omega] at gu
    have gx := gsm_up hR x 0 (by omega)
    rw [Nat.zero_add] at gx
    have g0 : gsm T 0 = 0 := rfl
    have ge : gsm T (x + 1) = gsm T x + (T.1 705 x - T.1 704 x) := rfl
    rw [xj] at hl hS ⊢
    have u27 : ∀ c g, 269 ≤ c → c ≤ 280 → U.1 c g = S.1 c g := fun c g y1 y2 => fC.1 c g (by omega) (by omega) (by omega) (by omega) (by omega)
    have x70 : ∀ c g, 702 ≤ c → c ≤ 705 → X.1 c g = T.1 c g := fun c g y1 y2 => fR.1 c g (by omega) (by omega) (by omega) (by omega) (by omega) (by omega)
    have gone : gsm T m ≤ (len : Int) := by
      have := gsm_be hR (x := 0)
      by_cases z : m = 0
      · omega
      · have q1 := this (m - 1) (by omega)
        rw [show 0 + 1 + (m - 1) = m by omega] at q1
        obtain ⟨a', b', y1, y2, y3, y4⟩ := hR.1 0 (by omega)
        have q2 : gsm T (0 + 1) = 0 + (T.1 705 0 - T.1 704 0) := rfl
        omega
    obtain ⟨S1, T1, p1, p2, p3, ⟨p4, p5, p6⟩, p7, p8⟩ := lg_T_edit_g (Q := Q) (b := b) (k := 280) (f := (a : Int)) (r := (bb : Int) - (a : Int)) (off := o0 + ((s : Int) - T.1 703 (x + 1))) (i := T.1 703 (x + 1) - T.1 703 x) (fr := T.1 703 x) (isD := 0) (y := fun g => T.1 702 (T.1 703 x + (g : Int)).toNat) hQ hT hn0 hb (by omega) (by omega) (by omega) (by omega) (by omega) (by decide) (by decide) ⟨by omega, by rw [l280]; omega, by rw [l280]; decide⟩ (fun g hg => by
      obtain ⟨z1, z2⟩ := n4 g hg
      rw [u27 280 _ (by decide) (by decide)]
      exact ⟨z1, (sp_sign_r z2).1, (sp_sign_r z2).2, z2⟩) (Or.inl ⟨rfl, ⟨by omega, by omega⟩, fun g hg => x70 _ _ (by decide) (by decide)⟩) (by omega) (by omega)
    rw [show (a : Int) + ((bb : Int) - (a : Int)) = (bb : Int) by omega] at p2
    have l1 : S1.1 (263 + 2 * b) 1 = U.1 (263 + 2 * b) 1 + ((T.1 703 (x + 1) - T.1 703 x) - ((bb : Int) - (a : Int))) := by
      rw [p3.1.2.1.2.2 b hb]
      have e : dL (lg_N D2 (cc + j) b (a : Int) ((bb : Int) - (a : Int)) (T.1 703 (x + 1) - T.1 703 x)) (cc + j + 1) b = dL D2 (cc + j) b + ((T.1 703 (x + 1) - T.1 703 x) - ((bb : Int) - (a : Int))) := (if_pos rfl).trans (if_pos rfl)
      rw [e, ← hT.1.2.1.2.2 b hb]
    obtain ⟨D3, S', T', r1, r2, r3⟩ := ih (j + 1) q q' (cc + j + 1) (lg_N D2 (cc + j) b (a : Int) ((bb : Int) - (a : Int)) (T.1 703 (x + 1) - T.1 703 x)) S1 T1 (by omega) (by omega) (by omega) p3 (eg_C_t fC p7) (eg_R_t fR p8) (fun _ => ⟨rfl, p4, p5, p6⟩) (by
      rw [xj2, l1, hl]
      omega) (fun k hk b' => by
      rw [lg_N_L (by omega)]
      exact hD k hk b') (fun b' hb' => by
      have e : dL (lg_N D2 (cc + j) b (a : Int) ((bb : Int) - (a : Int)) (T.1 703 (x + 1) - T.1 703 x)) (cc + (j + 1)) b' = dL D2 (cc + j) b' := (if_pos rfl).trans (if_neg hb')
      rw [e]
      exact hDb b' hb') (by
      rw [xj2, show cc + (j + 1) = cc + j + 1 by omega, lg_N_S1, hS]
      omega) (fun g hg => by
      rw [l1] at hg
      have x126 : X.1 621 126 ≤ 1000000 := by
        have q1 := hT.2.2.2.2.1
        have q2 := hT.2.2.2.1
        have q3 := hT.2.1
        have q4 : 0 ≤ sp_bs (X.1 714) (U.1 254 12) := by
          have mn : ∀ g : Nat, (g : Int) < U.1 254 12 → X.1 714 g = sp_bs (X.1 714) g + U.1 261 g ∧ 0 ≤ U.1 261 g := fun g hg => ⟨(hT.2.2.2.2.2.2.2 g hg).1, (hT.2.2.2.2.2.2.2 g hg).2.1⟩
          have q := t_mono mn (U.1 254 12).toNat 0 (by omega)
          rw [show ((0 + (U.1 254 12).toNat : Nat) : Int) = U.1 254 12 from by omega] at q
          have e0 : sp_bs (X.1 714) ((0 : Nat) : Int) = 0 := rfl
          omega
        omega
      have ct := ct_343_g (Q := Q) (f := (a : Int)) (r := (bb : Int) - (a : Int)) (i := T.1 703 (x + 1) - T.1 703 x) (fr := T.1 703 x) (T' := T1) hQ hT hn0 hb (by omega) (by omega) (by omega) (by omega) (by omega) (fun g hg => by
        obtain ⟨z1, z2⟩ := n4 g hg
        rw [x70 702 _ (by decide) (by decide)]
        exact sp_sign_r z2) (by omega) (by omega) (by omega) x126 (by rw [show (a : Int) + ((bb : Int) - (a : Int)) = (bb : Int) by omega]; exact p2) g (by omega)
      rw [ct]
      unfold Rt
      rw [← hx, e1, e2]
      by_cases z1 : (g : Int) < (a : Int)
      · rw [if_pos z1, if_pos z1]
        exact hX g (by omega)
      · rw [if_neg z1, if_neg z1]
        by_cases z2 : (g : Int) < (a : Int) + (T.1 703 (x + 1) - T.1 703 x)
        · rw [if_pos z2, if_pos z2]
          exact x70 _ _ (by decide) (by decide)
        · rw [if_neg z2, if_neg z2]
          exact hX _ (by omega))
    rw [xj2] at r1
    refine ⟨D3, S', T', ?_, ?_, r3⟩
    · rw [show q + 1 - (r + 1) = q - r by omega, ← r1]
      show jb_47_5 Q 255 (b : Int) (jl_47_5 Q 255 (b : Int) q) _ _ U = _
      have c9 : ¬ U.1 269 9 ≤ ((c0 + j : Nat) : Int) := by
        rw [u27 269 9 (by decide) (by decide)]
        omega
      have s1 : ∀ g, S1.1 279 g = S.1 279 g := fun g => by
        rw [p7.1 _ _ (by omega) (by omega) (by omega) (by omega) (by omega)]
        exact u27 _ _ (by decide) (by decide)
      unfold jb_47_5
      rw [sp_b, sp_jn, if_neg c9, if_neg (by omega), sp_if (by rw [l277]; omega), sp_b, Int.toNat_natCast, sp_if (by rw [l278]; omega), sp_b, sp_if (by rw [l279]; omega), sp_b, sp_if (by decide), u27 277 _ (by decide) (by decide), u27 278 _ (by decide) (by decide), u27 279 _ (by decide) (by decide), n1, n2, n3, p1, sp_bd, sp_if (by rw [l279]; omega), sp_b, s1, n3, sp_ck (by omega), sp_ck (by omega), show o0 + ((s : Int) - T.1 703 (x + 1)) + (T.1 703 (x + 1) - T.1 703 x) = o0 + ((s : Int) - T.1 703 x) by omega, show ((c0 + j : Nat) : Int) + 1 = ((c0 + (j + 1) : Nat) : Int) by omega]
    · show jb_350_4 Q (b : Int) (jl_350_4 Q (b : Int) q') _ X = _
      have xi : (m : Int) - 1 - (j : Int) = (x : Int) := by omega
      unfold jb_350_4
      rw [xi, if_neg (by omega), sp_if (by rw [l704]; omega), sp_b, Int.toNat_natCast, sp_if (by rw [l705]; omega), sp_b, sp_if (by rw [l703]; omega), sp_b, sp_ck (by omega), sp_if (by rw [l703]; omega), sp_b, sp_if (by rw [l703]; omega), sp_b, show ((x : Int) + 1).toNat = x + 1 by omega, x70 704 _ (by decide) (by decide), x70 705 _ (by decide) (by decide), x70 703 _ (by decide) (by decide), x70 703 _ (by decide) (by decide), e1, e2, sp_ck (by omega), p2, sp_bd, sp_ck (by omega), show (x : Int) + -1 = (m : Int) - 1 - ((j + 1 : Nat) : Int) by omega]
      exact r2
end OSF
section OSG
variable {n : Int} {D : lg_D} {E c m : Nat} {S T S2 T2 : ev_St}
theorem lg_H_c2_g (h : lg_H_g D E S T) (hW : lg_W S) (h1 : RGs S S2) (h2 : ∀ k g, 724 ≤ k → S2.1 k g = S.1 k g) (h3 : ∀ k g, k = 712 ∨ k = 713 → T2.1 k g = T.1 k g) : lg_H_g D E S2 T2 := by
  refine ⟨fun k hk => ?_, fun j hj => ?_⟩
  · rw [lg_r_c2 hW (Or.inl rfl) h1 h2, h3 712 k (Or.inl rfl)]
    exact h.1 k hk
  · rw [lg_r_c2 hW (Or.inr rfl) h1 h2, h3 713 j (Or.inr rfl)]
    exact h.2 j hj
theorem lg_C_c2_g (h : lg_C_g D E c S T) (hS : ∀ k g, (k = 254 ∧ (g = 4 ∨ g = 9 ∨ g = 10)) ∨ (256 ≤ k ∧ k ≤ 258) ∨ (263 ≤ k ∧ k ≤ 268) ∨ 724 ≤ k → S2.1 k g = S.1 k g) (hR : RGs S S2) (hN : ev_sN S2 = ev_sN S) (hT : ∀ k g, 707 ≤ k ∧ k ≤ 713 ∨ (k = 621 ∧ g = 121) → T2.1 k g = T.1 k g) : lg_C_g D E c S2 T2 := by
  obtain ⟨c1, ⟨c2, c3, c4⟩, c5, c6, c7, c8, c9⟩ := h
  exact ⟨c1, ⟨by rw [hS 254 9 (by omega), c2], by rw [hS 254 10 (by omega), c3], fun b hb => by rw [hS _ _ (by omega), c4 b hb]⟩, lg_W_c2 c5 hR hN, t2_B_c_g c6 (fun b g h1 h2 => hS b g (by omega)) (fun b g hb => hT b g (by omega)), t2_M_c c7 (hS _ _ (by omega)) (fun b g h1 h2 => hS b g (by omega)) (fun b hb => hS _ _ (by omega)) (hT _ _ (by omega)) (fun b g h1 h2 => hT b g (by omega)), c8, lg_H_c2_g c9 c5 hR (fun k g hk => hS k g (by omega)) (fun k g hk => hT k g (by omega))⟩
theorem lg_T_c2_g (h : lg_T_g n D E c S T) (hS : ∀ k g, (k = 254 ∧ (g = 4 ∨ (9 ≤ g ∧ g ≤ 14))) ∨ (256 ≤ k ∧ k ≤ 258) ∨ k = 261 ∨ (263 ≤ k ∧ k ≤ 268) ∨ 724 ≤ k → S2.1 k g = S.1 k g) (hR : RGs S S2) (hN : ev_sN S2 = ev_sN S) (hT : ∀ k g, 707 ≤ k ∧ k ≤ 715 ∨ (k = 621 ∧ (g = 121 ∨ (125 ≤ g ∧ g ≤ 132))) → T2.1 k g = T.1 k g) : lg_T_g n D E c S2 T2 := by
  obtain ⟨hC, t1, t4, t6, t8, t9, t10, t11⟩ := h
  have e714 : T2.1 714 = T.1 714 := funext fun g => hT 714 g (by omega)
  unfold lg_T_g
  rw [e714, hS 254 11 (by omega), hS 254 12 (by omega), hS 254 14 (by omega), hT 621 130 (by omega), hT 621 131 (by omega), hT 621 132 (by omega), hT 621 126 (by omega), hT 621 125 (by omega), hT 621 128 (by omega)]
  refine ⟨lg_C_c2_g hC (fun k g hk => hS k g (by omega)) hR hN (fun k g hk => hT k g (by omega)), t1, t4, t6, t8, t9, t10, fun g hg => ?_⟩
  rw [hS 261 g (by omega), hT 715 g (by omega)]
  exact t11 g hg
theorem L2_c2_g (h : L2_g n D S T) (hS : ∀ k g, (k = 254 ∧ (g = 4 ∨ (9 ≤ g ∧ g ≤ 14))) ∨ (256 ≤ k ∧ k ≤ 258) ∨ k = 261 ∨ (263 ≤ k ∧ k ≤ 268) ∨ 724 ≤ k → S2.1 k g = S.1 k g) (hR : RGs S S2) (hN : ev_sN S2 = ev_sN S) (hT : ∀ k g, 707 ≤ k ∧ k ≤ 715 ∨ (k = 621 ∧ (g = 121 ∨ (125 ≤ g ∧ g ≤ 132))) → T2.1 k g = T.1 k g) : L2_g n D S2 T2 := by
  obtain ⟨h1, h2, h3, h4, h5, h6, E, e1, e2, e3, e4, e5, e6⟩ := h
  have e714 : T2.1 714 = T.1 714 := funext fun g => hT 714 g (by omega)
  have s : ∀ g, 9 ≤ g → g ≤ 14 → S2.1 254 g = S.1 254 g := fun g a b => hS 254 g (by omega)
  have t : ∀ g, 125 ≤ g → g ≤ 132 → T2.1 621 g = T.1 621 g := fun g a b => hT 621 g (by omega)
  unfold L2_g
  rw [e714, s 9 (by omega) (by omega), s 11 (by omega) (by omega), s 12 (by omega) (by omega), s 13 (by omega) (by omega), s 14 (by omega) (by omega), t 130 (by omega) (by omega), t 131 (by omega) (by omega), t 132 (by omega) (by omega), t 126 (by omega) (by omega), t 125 (by omega) (by omega), t 128 (by omega) (by omega)]
  refine ⟨h1, h2, h3, h4, h5, fun g hg => ?_, E, e1, lg_C_c2_g e2 (fun k g hk => hS k g (by omega)) hR hN (fun k g hk => hT k g (by omega)), e3, e4, e5, e6⟩
  rw [hS 261 g (by omega), hT 715 g (by omega)]
  exact h6 g hg
theorem LG_c2_g (h : LG_g n D S) (hS : ∀ k g, (k = 254 ∧ (g = 4 ∨ (9 ≤ g ∧ g ≤ 14))) ∨ (256 ≤ k ∧ k ≤ 258) ∨ k = 261 ∨ (263 ≤ k ∧ k ≤ 268) ∨ 724 ≤ k → S2.1 k g = S.1 k g) (hR : RGs S S2) (hN : ev_sN S2 = ev_sN S) (hT : ∀ k g, 707 ≤ k ∧ k ≤ 715 ∨ (k = 621 ∧ (g = 121 ∨ (125 ≤ g ∧ g ≤ 132))) → S2.1 k g = S.1 k g) : LG_g n D S2 := LG_of_g (L2_c2_g (L2_of_g h) hS hR hN hT)
end OSG
section OSH
variable {Q p k t m i j len w s E b c0 : Nat} {n o0 : Int} {S S1 S2 S' T T1 T2 T' U V C : ev_St} {a c d e f v x y md lim : Int} {D : lg_D}
theorem edits20_g (hQ : 1000 ≤ Q) (hF : FNL m len s E S T) (h80 : len ≤ 80) (h70 : S.1 270 1 = (len : Int)) (h9 : S.1 269 9 = 0) (h10 : S.1 269 10 = 0) (hL : L2_g n D S T) (hn : 0 ≤ n ∧ n ≤ 511) (h8 : B8 D S T) (hb : b < 3) (hbl : S.1 (263 + 2 * b) 1 = (len : Int)) : ∃ (D' : lg_D) (C0 C T4 T5 : ev_St), jm_45 Q (m : Int) S = some ((), C0) ∧ jm_47 Q 255 (b : Int) C0 = some ((), C) ∧ jm_350 Q (b : Int) (m : Int) T = some ((), T4) ∧ jm_345 Q T4 = some ((), T5) ∧ L2_g (n + 1) D' C T5 ∧ B8 D' C T5 ∧ FCd S C ∧ FRd T T5 := by
  have hF0 := hF
  obtain ⟨m81, hM, hR, hD, hE, hg, h80s⟩ := hF
  have s80 : s ≤ 80 := by omega
  obtain ⟨Q', rfl⟩ : ∃ r, Q = r + 1 := ⟨Q - 1, by omega⟩
  have m272 : S.1 272 1 = (s : Int) := by rw [hM.2.1, if_pos (by omega)]
  have e45 : jm_45 (Q' + 1) (m : Int) S = jl_45_17 (Q' + 1) (Q' + 1) (s : Int) ((m : Int) - 1) S := by
    unfold jm_45
    rw [sp_b, m272, sp_b, sp_imin2 (by omega) (by omega), if_neg (by omega), sp_ck (by omega)]
  have e350 : jm_350 (Q' + 1) (b : Int) (m : Int) T = jl_350_4 (Q' + 1) (b : Int) (Q' + 1) ((m : Int) - 1) T := by
    unfold jm_350
    rw [sp_ck (by omega)]
  obtain ⟨E0, hE1, hE2, hT⟩ := lg_T_of_g hL
  obtain ⟨cc, hcc⟩ : ∃ cc, (S.1 254 9).toNat = cc := ⟨_, rfl⟩
  rw [hcc] at hT
  by_cases hm : m = 0
  · subst hm
    have c45 : jm_45 (Q' + 1) ((0 : Nat) : Int) S = some ((), S) := by
      rw [e45]
      show jb_45_17 _ _ _ _ S = _
      unfold jb_45_17
      rw [if_pos (by decide)]
    have c350 : jm_350 (Q' + 1) (b : Int) ((0 : Nat) : Int) T = some ((), T) := by
      rw [e350]
      show jb_350_4 _ _ _ _ T = _
      unfold jb_350_4
      rw [if_pos (by decide)]
    have l0 : S.1 254 14 = 0 → S.1 254 11 = 0 := hL.2.2.1
    have c3 : jm_3 (Q' + 1) S = some ((), S) := by
      unfold jm_3
      rw [sp_b]
      by_cases z : S.1 254 14 ≠ 0
      · rw [if_pos z]
      · rw [if_neg z, sp_b, if_pos (l0 (Decidable.not_not.mp z))]
    have c345 : jm_345 (Q' + 1) T = some ((), T) := by
      have q1 := hL.1.2.2.1
      have q2 := hL.1.2.2.2
      unfold jm_345
      rw [sp_b]
      by_cases z : T.1 621 132 ≠ 0
      · rw [if_pos z]
      · have z' := Decidable.not_not.mp z
        have z2 := l0 (by rw [← q1]; exact z')
        rw [if_neg z]
        unfold jm_344
        rw [sp_b, if_pos (by omega), sp_bd]
    have c47 : jm_47 (Q' + 1) 255 (b : Int) S = some ((), S) := by
      show jb_47_5 (Q' + 1) 255 (b : Int) (jl_47_5 (Q' + 1) 255 (b : Int) Q') 0 0 S = _
      unfold jb_47_5
      rw [sp_b, sp_jn, if_pos (by omega)]
      try dsimp only
      rw [sp_if (by decide), c3, sp_bd]
    exact ⟨D, S, S, T, T, c45, c47, c350, c345, L2_mono_g (by omega) hL, h8, ⟨fun _ _ _ _ _ _ _ => rfl, fun _ _ => rfl, fun _ _ _ _ => rfl, rfl, rfl⟩, ⟨fun _ _ _ _ _ _ _ => rfl, rfl⟩⟩
  · have hm0 : 0 < m := by omega
    have s703 := (hR.2.2.2.1 hm0).2
    have z703 := (hR.2.2.2.1 hm0).1
    obtain ⟨C0, a1, a2, ⟨a3, a4⟩, a5, a6, a7, a8, _⟩ := note_all (Q := Q' + 1) (c0 := 0) (o0 := 0) hF0 h70 ⟨h80, s80⟩ (by rw [h9]; rfl) h10 (by omega) ⟨by omega, by omega⟩ hm0 m 0 (Q' + 1) S (by omega) (by omega) FRnt_r (by rw [Nat.sub_zero, s703, h70]; omega) ⟨by rw [h9]; rfl, by rw [Nat.sub_zero, s703, h10]; omega⟩ (fun i h => absurd h (Nat.not_lt_zero i)) (fun _ _ _ _ _ => rfl) (fun _ _ => rfl) (fun _ _ => rfl)
    rw [Nat.sub_zero, s703, show (m : Int) - 1 - ((0 : Nat) : Int) = (m : Int) - 1 by omega] at a1
    have c45 : jm_45 (Q' + 1) (m : Int) S = some ((), C0) := by
      rw [e45]
      exact a1
    have hcE := hT.1.1
    have hdc := lg_mono2 hT.1.2.2.2.2.2.1 hcE (Nat.le_refl _)
    have hT2 : lg_T_g n D E0 cc C0 T := lg_T_c2_g hT (fun k g hk => a2.1 k g (by omega) (by omega) (by omega) (by omega)) (fun a j _ => by rw [a2.2]) (by unfold ev_sN; rw [a2.2]) (fun _ _ _ => rfl)
    have blen : C0.1 (263 + 2 * b) 1 = (len : Int) := by rw [a2.1 _ _ (by omega) (by omega) (by omega) (by omega)]; exact hbl
    obtain ⟨D3, C1, T4, b1, b2, b3, ⟨b4, b5, b6⟩, b7, b8, b9, b10, b11, b12, _⟩ := blk_g (Q := Q' + 1) (n := n) (S := C0) (T := T) (c0 := 0) (o0 := 0) (cc := cc) (D := D) (b := b) (tx := fun g => T.1 708 (200 * b + g)) hQ (by omega) hb hR hE ⟨h80, s80⟩ m81 hm0 z703 a5 (by omega) ⟨by omega, by omega⟩ (by rw [a3]; omega) (by omega) (by omega) m 0 (Q' + 1) (Q' + 1) E0 D C0 T (by omega) (by omega) (by omega) hT2 eg_C_r eg_R_r (fun h => absurd h (Nat.lt_irrefl 0)) (by rw [Nat.sub_zero, s703, blen]; omega) (fun _ _ _ => rfl) (fun _ _ => rfl) (by rw [Nat.sub_zero, s703]; show _ = _ + (_ - _) + _; rw [Nat.add_zero]; omega) (fun _ _ => rfl)
    rw [Nat.sub_zero, s703] at b1
    have b1' : jl_47_5 (Q' + 1) 255 (b : Int) (Q' + 1) 0 0 C0 = jl_47_5 (Q' + 1) 255 (b : Int) (Q' + 1 - m) (0 + (s : Int)) ((0 + m : Nat) : Int) C1 := by
      rw [← b1, show (0 : Int) + ((s : Int) - (s : Int)) = 0 by omega]
      rfl
    rw [show (m : Int) - 1 - ((0 : Nat) : Int) = (m : Int) - 1 by omega] at b2
    have c350 : jm_350 (Q' + 1) (b : Int) (m : Int) T = some ((), T4) := by
      rw [e350]
      exact b2
    obtain ⟨C, T5, d1, d2, d3, d4, d5, d6, d7, d8⟩ := lg_T_end_g (Q := Q' + 1) b3 hn.2 ⟨b4, b5, b6⟩ (by omega) (by rw [b12]; omega)
    have c47 : jm_47 (Q' + 1) 255 (b : Int) C0 = some ((), C) := by
      obtain ⟨q, hq⟩ : ∃ q, Q' + 1 - m = q + 1 := ⟨Q' - m, by omega⟩
      show jl_47_5 (Q' + 1) 255 (b : Int) (Q' + 1) 0 0 C0 = _
      rw [b1', hq]
      show jb_47_5 (Q' + 1) 255 (b : Int) (jl_47_5 (Q' + 1) 255 (b : Int) q) _ _ C1 = _
      have c9 : C1.1 269 9 ≤ ((0 + m : Nat) : Int) := by
        rw [b7.1 269 9 (by omega) (by omega) (by omega) (by omega) (by omega), a3]
        exact Int.le_refl _
      unfold jb_47_5
      rw [sp_b, sp_jn, if_pos c9]
      try dsimp only
      rw [sp_if (by decide), d1, sp_bd]
    have dl : ∀ b', b' < 3 → dL D3 (cc + m) b' ≤ 80 := fun b' hb' => by
      by_cases z : b' = b
      · subst z
        rw [← b3.1.2.1.2.2 b' hb', b9]
        omega
      · rw [b11 b' z, ← hT.1.2.1.2.2 b' hb']
        exact h8.1 b' hb'
    have e714 : T4.1 714 = T.1 714 := funext fun g => b8.1 714 g (by omega) (by omega) (by omega) (by omega) (by omega) (by omega)
    have e12 : C1.1 254 12 = C0.1 254 12 := b7.2.1
    have f12 : C0.1 254 12 = S.1 254 12 := a2.1 _ _ (by omega) (by omega) (by omega) (by omega)
    refine ⟨D3, C0, C, T4, T5, c45, c47, c350, d2, d3, ⟨fun b' hb' => ?_, fun b' hb' => ?_, fun g hg b' hb' => ?_⟩, ⟨fun c g y1 y2 y3 y4 y5 => ?_, fun c g => ?_, fun c j y1 y2 => ?_, ?_⟩, ⟨fun c g y1 y2 y3 y4 y5 => ?_, d8.trans b8.2⟩⟩
    · rw [d5 _ _ (by omega) (by omega), b3.1.2.1.2.2 b' hb']
      exact dl b' hb'
    · rw [b10 0 (Nat.zero_le _) b']
      exact h8.2.1 b' hb'
    · rcases d4 g hg with y | ⟨y1, y2⟩
      · rw [y, Int.toNat_natCast]
        exact dl b' hb'
      · have mn : ∀ g : Nat, (g : Int) < S.1 254 12 → T.1 714 g = sp_bs (T.1 714) g + S.1 261 g ∧ 0 ≤ S.1 261 g := fun g hg => ⟨(hT.2.2.2.2.2.2.2 g hg).1, (hT.2.2.2.2.2.2.2 g hg).2.1⟩
        have q2 := t_le mn (g := g) (by omega)
        have q3 := hT.2.2.2.2.1
        have q4 := hT.2.2.2.1.2
        rw [y2, e714, b10 _ (by omega) b']
        have q5 := hL.2.1.2.1
        exact h8.2.2 g (by omega) b' hb'
    · rw [d5 c g (by omega) (by omega), b7.1 c g y1 y3 (by omega) (by omega) (by omega), a2.1 c g (by omega) (by omega) (by omega) (by omega)]
    · rw [d6, b7.2.2.1, a2.2]
    · rw [d6, b7.2.2.2.1 c j y1 y2, a2.2]
    · have q := b7.2.2.2.2
      unfold ev_sC ev_sN ev_sZ at q ⊢
      rw [d6]
      rw [a2.2] at q
      exact q
    · rw [d7 c g (by omega) (by omega) (by omega), b8.1 c g y1 y2 y3 (by omega) (by omega) (by omega)]
end OSH
section OSJ
variable {Q p k t m i j len w s E b c0 G cnt L : Nat} {xs : Nat → Int32} {n o0 : Int} {S S1 S2 S' T T1 T2 T' U V C W X : ev_St} {a c d e f v x y md lim a0 a1 a2 a3 : Int} {D : lg_D}
theorem rp_no_g (hn : 0 ≤ n ∧ n ≤ 511) (hLG : LG_g n D S) (h8 : B8 D S S) (hRR : sp_RR S) (hRM : sp_RM S) (f : ∀ c g, ¬ (269 ≤ c ∧ c ≤ 283) → ¬ (c = 621 ∧ (g = 0 ∨ (73 ≤ g ∧ g ≤ 105) ∨ g = 113)) → ¬ (678 ≤ c ∧ c ≤ 699) → ¬ (702 ≤ c ∧ c ≤ 705) → S2.1 c g = S.1 c g) (l : ∀ c g, c ≠ 723 → S2.2.1 c g = S.2.1 c g) (r : ∀ c g, c ≠ 281 → S2.2.2.1 c g = S.2.2.1 c g) (hN : ev_sN S2 = ev_sN S) (hC : ev_sC S2 ≤ ev_sC S + 1) (hZ : ev_sZ S2 ≤ ev_sZ S + 6) : LG_g (n + 1) D S2 ∧ B8 D S2 S2 ∧ sp_RR S2 ∧ sp_RM S2 ∧ sp_GR S S2 := by
  refine ⟨LG_of_g (L2_mono_g (by omega) (L2_c2_g (L2_of_g hLG) (fun k g hk => f k g (by omega) (by omega) (by omega) (by omega)) (fun a j ha => r a j (by omega)) hN (fun k g hk => f k g (by omega) (by omega) (by omega) (by omega)))), B8_c h8 (fun b hb => f _ _ (by omega) (by omega) (by omega) (by omega)) (f _ _ (by omega) (by omega) (by omega) (by omega)) (fun g => f _ _ (by omega) (by omega) (by omega) (by omega)), RR_c hRR (fun c g y => f c g (by omega) (by omega) (by omega) (by omega)), RM_c hRM (fun c g y => f c g (by omega) (by omega) (by omega) (by omega)) (RR_6 hRR), fun c g y1 y2 => ?_, l, fun c g _ _ y => r c g y, by omega, by omega⟩
  unfold sp_W20 at y2
  exact f c g (by omega) (by omega) (by omega) (by omega)
end OSJ
section OSK
variable {Q p k t m i j len w s E b c0 G cnt L : Nat} {xs : Nat → Int32} {n o0 : Int} {S S1 S2 S' T T1 T2 T' U V C W X : ev_St} {a c d e f v x y md lim a0 a1 a2 a3 : Int} {D : lg_D}
theorem done20_g (hQ : 40000000000 ≤ Q) (hn : 0 ≤ n ∧ n ≤ 511) (hK : sp_PT S) (hTR : sp_TR S) (hG : SG S) (hLG : LG_g n D S) (h8 : B8 D S S) (hp : (p : Int) < S.1 0 5) (ht : (t : Int) < S.1 0 7) (hb : b < 3) (hl : S.1 (263 + 2 * b) 1 = (len : Int)) (hW : jm_43 Q (263 + 2 * b + 1) S = some ((), W)) (hT : RFq S T) : ∃ v T1 T', jm_288 Q (b : Int) T = some ((), T1) ∧ jm_349 Q (p : Int) (t : Int) lim T1 = some (v, T') ∧ FPq T T' ∧ ((v = -1 ∧ ∃ S', jm_44 Q 282 (313 + 20 * p + 1) (553 + 2 * t + 1) lim W = some (-1, S') ∧ (∀ c g, ¬ (269 ≤ c ∧ c ≤ 283) → S'.1 c g = S.1 c g) ∧ (∀ c g, S'.2.1 c g = S.2.1 c g) ∧ (∀ c g, c ≠ 281 → S'.2.2.1 c g = S.2.2.1 c g) ∧ S'.2.2.2 = S.2.2.2) ∨ (v ≠ -1 ∧ ∃ D' C0 C T4 T5, jm_44 Q 282 (313 + 20 * p + 1) (553 + 2 * t + 1) lim W = some (v, C0) ∧ jm_47 Q 255 (b : Int) C0 = some ((), C) ∧ jm_350 Q (b : Int) v T' = some ((), T4) ∧ jm_345 Q T4 = some ((), T5) ∧ L2_g (n + 1) D' C T5 ∧ B8 D' C T5 ∧ FRd T' T5 ∧ (∀ c g, c < 724 → ¬ (269 ≤ c ∧ c ≤ 283) → c ≠ 258 → ¬ (261 ≤ c ∧ c ≤ 268) → ¬ (c = 254 ∧ 9 ≤ g ∧ g ≤ 13) → C.1 c g = S.1 c g) ∧ (∀ c g, C.2.1 c g = S.2.1 c g) ∧ (∀ c j, c ≠ 259 → c ≠ 260 → c ≠ 281 → C.2.2.1 c j = S.2.2.1 c j) ∧ (ev_sC C + ev_sN S = ev_sC S + ev_sN C ∧ ev_sZ C + 1024 * ev_sN S = ev_sZ S + 1024 * ev_sN C))) := by
  have hB : sp_BR S := t2_B_i_g hLG.2.1.2.2.2.1
  have l80 : len ≤ 80 := by
    have := h8.1 b hb
    omega
  obtain ⟨v, S', T1, T', q1, q2, q3, q4, q5, q6⟩ := one20 (lim := lim) hQ hK hTR hG hB hp ht hb hl l80 hW hT
  obtain ⟨W', w1, w2, w3, w4, w5, w6, w7⟩ := sp_43 (Q := Q) (S := S) hb
  have e : W' = W := (congrArg Prod.snd (Option.some.inj (hW.symm.trans w1))).symm
  subst e
  have sI : ∀ c g, ¬ (269 ≤ c ∧ c ≤ 283) → S'.1 c g = S.1 c g := fun c g y => by rw [q4.1 c g (by omega) (by omega) (by omega), w6 c g (by omega) (by omega) (by omega)]
  have sL : ∀ c g, S'.2.1 c g = S.2.1 c g := fun c g => by rw [q4.2.1, w7]
  have sR : ∀ c g, c ≠ 281 → S'.2.2.1 c g = S.2.2.1 c g := fun c g y => by rw [q4.2.2.1 c g y, w7]
  have sN : S'.2.2.2 = S.2.2.2 := by rw [q4.2.2.2, w7]
  refine ⟨v, T1, T', q1, q3, q5, ?_⟩
  rcases q6 with y | ⟨m, s, E, y1, y2⟩
  · rw [if_pos y] at q2
    exact Or.inl ⟨y, S', q2, sI, sL, sR, sN⟩
  · have nv : v ≠ -1 := by omega
    rw [if_neg nv] at q2
    have L0 : L2_g n D S' T' := L2_c2_g (L2_of_g hLG) (fun k g hk => sI k g (by omega)) (fun a j ha => sR a j (by omega)) (by unfold ev_sN; rw [sN]) (fun k g hk => by rw [q5.1 k g (by omega) (by omega) (by omega), hT.1 k g (by omega) (by omega) (by omega) (by omega) (by omega)])
    have B0 : B8 D S' T' := B8_c h8 (fun b hb => sI _ _ (by omega)) (sI _ _ (by omega)) (fun g => by rw [q5.1 714 g (by omega) (by omega) (by omega), hT.1 714 g (by omega) (by omega) (by omega) (by omega) (by omega)])
    obtain ⟨D', C0, C, T4, T5, z1, z2, z3, z4, z5, z6, z7, z8⟩ := edits20_g (Q := Q) (by omega) y2 l80 (by rw [q4.1 270 1 (by omega) (by omega) (by omega), w2]; exact hl) (by rw [q4.1 269 9 (by omega) (by omega) (by omega)]; exact w4) (by rw [q4.1 269 10 (by omega) (by omega) (by omega)]; exact w5) L0 hn B0 hb (by rw [sI _ _ (by omega)]; exact hl)
    rw [y1] at q2 ⊢
    rw [z1, sp_bd] at q2
    refine Or.inr ⟨by omega, D', C0, C, T4, T5, q2, z2, z3, z4, z5, z6, z8, fun c g g1 g2 g3 g4 g5 => ?_, fun c g => by rw [z7.2.1, sL], fun c g g1 g2 g3 => by rw [z7.2.2.1 c g g1 g2, sR c g g3], ?_⟩
    · rw [z7.1 c g g1 (by omega) g3 g4 g5, sI c g g2]
    · have q := z7.2.2.2
      unfold ev_sC ev_sN ev_sZ at q ⊢
      rw [sN] at q
      exact q
theorem op_20_g (hQ : 40000000000 ≤ Q) (hn : 0 ≤ n ∧ n ≤ 511) (hK : sp_PT S) (hTR : sp_TR S) (hG : SG S) (hLG : LG_g n D S) (h8 : B8 D S S) (hRR : sp_RR S) (hRM : sp_RM S) (hL : L ≤ 3072) (hj : j + 6 ≤ L) : ∃ D' S2, (∀ K, ja_1488 Q L xs (j : Int) K S = K S2) ∧ LG_g (n + 1) D' S2 ∧ B8 D' S2 S2 ∧ sp_RR S2 ∧ sp_RM S2 ∧ sp_GR S S2 := by
  obtain ⟨a0, ha0⟩ : ∃ a, a = (xs (Int.toNat ((j : Int) + 1))).toInt := ⟨_, rfl⟩
  obtain ⟨a1, ha1⟩ : ∃ a, a = (xs (Int.toNat ((j : Int) + 2))).toInt := ⟨_, rfl⟩
  obtain ⟨a2, ha2⟩ : ∃ a, a = (xs (Int.toNat ((j : Int) + 3))).toInt := ⟨_, rfl⟩
  obtain ⟨a3, ha3⟩ : ∃ a, a = (xs (Int.toNat ((j : Int) + 4))).toInt := ⟨_, rfl⟩
  obtain ⟨k1, k2, k3⟩ := hK.1
  obtain ⟨⟨t1, t2⟩, t3, _⟩ := id hTR
  obtain ⟨⟨m1, m2⟩, m3, m4, m45, m5, m7⟩ := id hRR
  have r6 := RR_6 hRR
  have cl := c186 (Q := Q) (a0 := a0) (a1 := a1) (a2 := a2) (a3 := a3) hK ⟨t1, t2⟩
  have rf : ∀ X : ev_St, X.1 621 5 = S.1 621 5 → X.1 621 110 = S.1 621 110 → _ := fun X h1 h2 => r351 (Q := Q) (T := X) (a0 := a0) (a1 := a1) (a2 := a2) (a3 := a3) (np := S.1 0 5) (nt := S.1 0 7) (h1.trans k3) ⟨k1, k2⟩ (h2.trans t3) ⟨t1, t2⟩
  -- refusals that are told at once
  have no : ∀ cc : Int, cc ≠ 0 → jm_383 Q (0 + 1) a0 a1 a2 a3 (723 + 1) S = some (cc, ev_tick S) → jm_351 Q a0 a1 a2 a3 (ev_tick S) = some (0, ev_pI (ev_tick S) 621 0 cc) → ∃ D' S2, (∀ K, ja_1488 Q L xs (j : Int) K S = K S2) ∧ LG_g (n + 1) D' S2 ∧ B8 D' S2 S2 ∧ sp_RR S2 ∧ sp_RM S2 ∧ sp_GR S S2 := fun cc c0 h1 h2 => ⟨D, ev_pI (ev_tick S) 621 0 cc, fun K => la_20 (c := cc) (b := 0) hL hj (by rw [← ha0, ← ha1, ← ha2, ← ha3]; exact h1) (by rw [← ha0, ← ha1, ← ha2, ← ha3]; exact h2) rd_eq (fun z => absurd z c0), rp_no_g hn hLG h8 hRR hRM (fun c g y1 y2 y3 y4 => by rw [sp_pI1, if_neg (by omega)]; rfl) (fun c g _ => rfl) (fun c g _ => rfl) rfl (Nat.le_refl _) (Nat.le_refl _)⟩
  by_cases hv : (0 ≤ a0 ∧ a0 < S.1 0 5) ∧ (0 ≤ a1 ∧ a1 < S.1 0 7) ∧ 0 ≤ a2 ∧ a2 < 3
  · by_cases hm : 1 ≤ a3 ∧ a3 ≤ 100
    · have cl := cl.1 hv hm
      obtain ⟨p, hp⟩ : ∃ p : Nat, a0 = (p : Int) := ⟨a0.toNat, by omega⟩
      obtain ⟨t, ht⟩ : ∃ t : Nat, a1 = (t : Int) := ⟨a1.toNat, by omega⟩
      obtain ⟨b, hb⟩ : ∃ b : Nat, a2 = (b : Int) := ⟨a2.toNat, by omega⟩
      have hb3 : b < 3 := by omega
      rw [show a0.toNat = p by omega, show a1.toNat = t by omega, show a2.toNat = b by omega] at cl
      obtain ⟨G, hG15⟩ : ∃ G : Nat, S.1 0 15 = (G : Int) := ⟨(S.1 0 15).toNat, by omega⟩
      by_cases hf : S.1 0 16 ≠ 0 ∧ S.1 0 15 < 6 ∧ 10 ≤ S.1 311 (S.1 0 15).toNat
      · obtain ⟨f1, f2, f3⟩ := hf
        obtain ⟨_, l311, l716, _⟩ := al_mac
        rw [hG15, Int.toNat_natCast] at f3
        have g10 := (hRM G (by omega)).1.2
        have e716 := m5 G (by omega)
        refine no 3 (by decide) (lw_20_x2 a0 a1 a2 a3 ?_) ?_
        · rw [cl]
          unfold B186
          rw [sp_b, sp_jn, if_neg f1, sp_b, if_neg (by omega), sp_b, hG15, sp_if (by rw [l311]; omega), sp_b, Int.toNat_natCast, if_neg (by omega)]
        · rw [(rf (ev_tick S) rfl rfl).1 hv hm]
          have i136 : (ev_pI (ev_tick S) 621 0 0).1 621 136 = S.1 0 16 := (rd_nf (by decide)).trans m4
          have i135 : (ev_pI (ev_tick S) 621 0 0).1 621 135 = (G : Int) := ((rd_nf (by decide)).trans m3).trans hG15
          have i716 : (ev_pI (ev_tick S) 621 0 0).1 716 G = 10 := (rd_nk (by decide)).trans (e716.trans (by omega))
          unfold B351
          rw [sp_b, i136, sp_jn, if_neg f1, sp_b, i135, sp_if (by rw [l716]; omega), sp_b, Int.toNat_natCast, i716, if_neg (fun z => z rfl)]
          show some ((0 : Int), ev_pI (ev_pI (ev_tick S) 621 0 0) 621 0 3) = _
          rw [pI_pI]
      · rw [b186 hf m1] at cl
        obtain ⟨W, hW, _⟩ := sp_43 (Q := Q) (S := S) hb3
        obtain ⟨len, hl⟩ : ∃ len : Nat, S.1 (263 + 2 * b) 1 = (len : Int) := ⟨(S.1 (263 + 2 * b) 1).toNat, by have := (hLG.2.1.2.2.2.1 b hb3).1; omega⟩
        have dn : ∀ T, RFq S T → _ := fun T hT => done20_g (lim := a3) hQ hn hK hTR hG hLG h8 (show (p : Int) < S.1 0 5 by omega) (show (t : Int) < S.1 0 7 by omega) hb3 hl hW hT
        rw [hW, sp_bd] at cl
        have nf : ∀ X : ev_St, X.1 621 136 = S.1 621 136 → X.1 621 135 = S.1 621 135 → (∀ g, X.1 716 g = S.1 716 g) → ¬ (X.1 621 136 ≠ 0 ∧ X.1 716 (X.1 621 135).toNat = 10) := fun X h1 h2 h3 ⟨z1, z2⟩ => by
          rw [h1, m4] at z1
          rw [h2, m3, hG15, Int.toNat_natCast, h3] at z2
          have e := m5 G (by omega)
          exact hf ⟨z1, by omega, by rw [hG15, Int.toNat_natCast, ← e, z2]; exact Int.le_refl _⟩
        obtain ⟨v, _, _, _, _, _, alt⟩ := dn S ⟨fun _ _ _ _ _ _ _ => rfl, fun _ _ _ => rfl⟩
        rcases alt with ⟨v1, S', s1, s2, s3, s4, s5⟩ | ⟨v1, D1, C0, C, T4, T5, s1, s2, _, _, _, _, _, s3, s4, s5, s6⟩
        · -- not enough room, or too many steps
          rw [s1, sp_bd, if_neg (fun z => z rfl)] at cl
          obtain ⟨X, hX⟩ : ∃ X, X = ev_pI (ev_tick S') 621 0 0 := ⟨_, rfl⟩
          have xI : ∀ c g, ¬ (c = 621 ∧ g = 0) → X.1 c g = S'.1 c g := fun c g y => by
            rw [hX, sp_pI1, if_neg y]
            rfl
          obtain ⟨v', T1, T', q1, q2, q3, q4⟩ := dn X ⟨fun c g y1 y2 y3 y4 y5 => by rw [xI c g (by omega), s2 c g (by omega)], fun c g _ => by rw [hX]; exact s3 c g⟩
          have v' : v' = -1 := by
            rcases q4 with ⟨z, _⟩ | ⟨z, _, _, _, _, _, z2, _⟩
            · exact z
            · have z3 : (-1 : Int) = v' := congrArg Prod.fst (Option.some.inj (s1.symm.trans z2))
              exact absurd z3.symm z
          rw [v'] at q2
          have rr : jm_351 Q a0 a1 a2 a3 (ev_tick S') = some (0, ev_pI T' 621 0 3) := by
            rw [(rf (ev_tick S') (s2 _ _ (by omega)) (s2 _ _ (by omega))).1 hv hm, ← hX, b351 (nf X ((xI _ _ (by omega)).trans (s2 _ _ (by omega))) ((xI _ _ (by omega)).trans (s2 _ _ (by omega))) (fun g => (xI _ _ (by omega)).trans (s2 _ _ (by omega)))) (by rw [xI _ _ (by omega), s2 _ _ (by omega)]; omega), hb, q1, sp_bd, hp, ht, q2, sp_bd, if_neg (fun z => z rfl)]
            rfl
          refine ⟨D, ev_pI T' 621 0 3, fun K => la_20 (c := 3) (b := 0) hL hj (by rw [← ha0, ← ha1, ← ha2, ← ha3]; exact lw_20_x2 a0 a1 a2 a3 cl) (by rw [← ha0, ← ha1, ← ha2, ← ha3]; exact rr) rd_eq (fun z => absurd z (by decide)), rp_no_g hn hLG h8 hRR hRM (fun c g y1 y2 y3 y4 => ?_) (fun c g y => ?_) (fun c g y => ?_) ?_ ?_ ?_⟩
          · rw [sp_pI1, if_neg (by omega), q3.1 c g (by omega) y3 y4, xI c g (by omega), s2 c g y1]
          · show T'.2.1 c g = _
            rw [q3.2.1, hX]
            exact s3 c g
          · show T'.2.2.1 c g = _
            rw [q3.2.2.1, hX]
            exact s4 c g y
          · show ev_sN T' = _
            unfold ev_sN
            rw [q3.2.2.2, hX]
            show S'.2.2.2.2.1 = _
            rw [s5]
          · show ev_sC T' ≤ _
            unfold ev_sC
            rw [q3.2.2.2, hX]
            show S'.2.2.2.2.2.1 + 1 ≤ _
            rw [s5]
            exact Nat.le_refl _
          · show ev_sZ T' ≤ _
            unfold ev_sZ
            rw [q3.2.2.2, hX]
            show S'.2.2.2.2.2.2 + 6 ≤ _
            rw [s5]
            exact Nat.le_refl _
        · -- done
          rw [s1, sp_bd, if_pos v1, hb, s2, sp_bd, sp_b] at cl
          have c16 : C.1 0 16 = S.1 0 16 := s3 _ _ (by omega) (by omega) (by omega) (by omega) (by omega)
          have c15 : C.1 0 15 = (G : Int) := (s3 _ _ (by omega) (by omega) (by omega) (by omega) (by omega)).trans hG15
          rw [c16, ← hb] at cl
          -- the reference, behind a class's state that is C but for the macros
          have run : ∀ Cf : ev_St, (∀ c g, ¬ (305 ≤ c ∧ c ≤ 311) → Cf.1 c g = C.1 c g) → Cf.2 = C.2 → ∃ D' T1 T' T4 T5, jm_288 Q (b : Int) (ev_pI (ev_pL Cf 723 0 (ev_i2l v)) 621 0 0) = some ((), T1) ∧ jm_349 Q (p : Int) (t : Int) a3 T1 = some (v, T') ∧ jm_350 Q (b : Int) v T' = some ((), T4) ∧ jm_345 Q T4 = some ((), T5) ∧ LG_g (n + 1) D' T5 ∧ B8 D' T5 T5 ∧ (∀ c g, c < 724 → ¬ sp_W20 c g → T5.1 c g = S.1 c g) ∧ (∀ c g, (305 ≤ c ∧ c ≤ 311) → T5.1 c g = Cf.1 c g) ∧ (∀ c g, c = 716 ∨ c = 717 → T5.1 c g = S.1 c g) ∧ T5.1 621 0 = 0 ∧ (∀ c g, T5.2.1 c g = if c = 723 ∧ g = 0 then ev_i2l v else S.2.1 c g) ∧ (∀ c g, c ≠ 259 → c ≠ 260 → c ≠ 281 → T5.2.2.1 c g = S.2.2.1 c g) ∧ (ev_sC T5 + ev_sN S = ev_sC S + ev_sN T5 ∧ ev_sZ T5 + 1024 * ev_sN S = ev_sZ S + 1024 * ev_sN T5) := fun Cf f1 f2 => by
            obtain ⟨X, hX⟩ : ∃ X, X = ev_pI (ev_pL Cf 723 0 (ev_i2l v)) 621 0 0 := ⟨_, rfl⟩
            have xI : ∀ c g, ¬ (c = 621 ∧ g = 0) → X.1 c g = Cf.1 c g := fun c g y => by
              rw [hX, sp_pI1, if_neg y]
              rfl
            have xL : ∀ c g, X.2.1 c g = if c = 723 ∧ g = 0 then ev_i2l v else S.2.1 c g := fun c g => by
              rw [hX, sp_pI2, sp_pL2, f2, s4]
            have xR : X.2.2 = C.2.2 := by
              rw [hX]
              show Cf.2.2 = _
              rw [f2]
            have xC : ∀ c g, 621 ≤ c → c < 723 → ¬ (c = 621 ∧ g = 0) → X.1 c g = S.1 c g := fun c g y1 y2 y3 => by rw [xI c g y3, f1 c g (by omega), s3 c g (by omega) (by omega) (by omega) (by omega) (by omega)]
            obtain ⟨v', T1, T', q1, q2, q3, q4⟩ := dn X ⟨fun c g y1 y2 y3 y4 y5 => xC c g y1 y2 (by omega), fun c g y => by rw [xL, if_neg (fun z => y z.1)]⟩
            rcases q4 with ⟨z, S'', z2, _⟩ | ⟨z, D', C0', C', T4, T5, z1, z2, z3, z4, z5, z6, z7, z8, z9, z10, z11⟩
            · have z3 : v = -1 := congrArg Prod.fst (Option.some.inj (s1.symm.trans z2))
              exact absurd z3 v1
            · have za : v = v' := congrArg Prod.fst (Option.some.inj (s1.symm.trans z1))
              have zb : C0 = C0' := congrArg Prod.snd (Option.some.inj (s1.symm.trans z1))
              subst za
              subst zb
              have zc : C = C' := congrArg Prod.snd (Option.some.inj (s2.symm.trans z2))
              subst zc
              have t5X : ∀ c g, c ≠ 707 → c ≠ 708 → c ≠ 710 → ¬ (712 ≤ c ∧ c ≤ 715) → ¬ (c = 621 ∧ ((73 ≤ g ∧ g ≤ 105) ∨ g = 113 ∨ g = 125 ∨ g = 126 ∨ g = 128 ∨ g = 130 ∨ g = 131)) → ¬ (678 ≤ c ∧ c ≤ 699) → ¬ (702 ≤ c ∧ c ≤ 705) → T5.1 c g = X.1 c g := fun c g y1 y2 y3 y4 y5 y6 y7 => by rw [z7.1 c g y1 y2 y3 y4 (by omega), q3.1 c g (by omega) y6 y7]
              have t5C : ∀ c g, c < 621 ∨ 723 ≤ c → ¬ (305 ≤ c ∧ c ≤ 311) → T5.1 c g = C.1 c g := fun c g y1 y2 => by rw [t5X c g (by omega) (by omega) (by omega) (by omega) (by omega) (by omega) (by omega), xI c g (by omega), f1 c g y2]
              have t5R : ∀ c g, T5.2.2.1 c g = C.2.2.1 c g := fun c g => by rw [z7.2, q3.2.2.1, xR]
              have t5N : T5.2.2.2 = C.2.2.2 := by rw [z7.2, q3.2.2.2, xR]
              refine ⟨D', T1, T', T4, T5, by rw [← hX]; exact q1, q2, z3, z4, LG_of_g (L2_c2_g z5 (fun k g hk => t5C k g (by omega) (by omega)) (fun a j _ => t5R a j) (by unfold ev_sN; rw [t5N]) (fun _ _ _ => rfl)), B8_c z6 (fun b hb => t5C _ _ (by omega) (by omega)) (t5C _ _ (by omega) (by omega)) (fun _ => rfl), fun c g y1 y2 => ?_, fun c g y => ?_, fun c g y => ?_, ?_, fun c g => ?_, fun c g y1 y2 y3 => by rw [t5R]; exact s5 c g y1 y2 y3, ?_⟩
              · unfold sp_W20 at y2
                rw [t5X c g (by omega) (by omega) (by omega) (by omega) (by omega) (by omega) (by omega), xI c g (by omega), f1 c g (by omega), s3 c g y1 (by omega) (by omega) (by omega) (by omega)]
              · rw [t5X c g (by omega) (by omega) (by omega) (by omega) (by omega) (by omega) (by omega), xI c g (by omega)]
              · rw [t5X c g (by omega) (by omega) (by omega) (by omega) (by omega) (by omega) (by omega), xC c g (by omega) (by omega) (by omega)]
              · rw [t5X 621 0 (by omega) (by omega) (by omega) (by omega) (by omega) (by omega) (by omega), hX, rd_eq]
              · rw [z7.2, q3.2.1, xL]
              · have q := s6
                unfold ev_sC ev_sN ev_sZ at q ⊢
                rw [t5N]
                exact q
          by_cases hr : S.1 0 16 = 0
          · rw [if_pos hr] at cl
            obtain ⟨D', T1, T', T4, T5, q1, q2, q3, q4, q5, q6, q7, q8, q9, q10, q11, q12, q13⟩ := run C (fun _ _ _ => rfl) rfl
            have o136 : T5.1 621 136 = 0 := by
              rw [q7 621 136 (by omega) (by unfold sp_W20; omega), m4]
              exact hr
            have rr : jm_351 Q a0 a1 a2 a3 (ev_pL C 723 0 (ev_i2l v)) = some (v, T5) := by
              obtain ⟨Y, hY⟩ : ∃ Y, Y = ev_pI (ev_pL C 723 0 (ev_i2l v)) 621 0 0 := ⟨_, rfl⟩
              have yI : ∀ c g, ¬ (c = 621 ∧ g = 0) → Y.1 c g = C.1 c g := fun c g y => by
                rw [hY, sp_pI1, if_neg y]
                rfl
              have yS : ∀ c g, (c = 621 ∧ (g = 135 ∨ g = 136)) ∨ c = 716 → Y.1 c g = S.1 c g := fun c g y => by rw [yI c g (by omega), s3 c g (by omega) (by omega) (by omega) (by omega) (by omega)]
              rw [← hY] at q1
              rw [(rf (ev_pL C 723 0 (ev_i2l v)) (s3 _ _ (by omega) (by omega) (by omega) (by omega) (by omega)) (s3 _ _ (by omega) (by omega) (by omega) (by omega) (by omega))).1 hv hm, ← hY, b351 (T := Y) (nf Y (yS _ _ (by omega)) (yS _ _ (by omega)) (fun g => yS _ _ (by omega))) (by rw [yS _ _ (by omega)]; omega), hb, q1, sp_bd, hp, ht, q2, sp_bd, if_pos v1, q3, sp_bd, q4, sp_bd, sp_b, o136, if_pos rfl]
            have same : ∀ c g, (305 ≤ c ∧ c ≤ 311) ∨ c = 716 ∨ c = 717 → T5.1 c g = S.1 c g := fun c g y => by
              by_cases z : 305 ≤ c ∧ c ≤ 311
              · rw [q8 c g z, s3 c g (by omega) (by omega) (by omega) (by omega) (by omega)]
              · exact q9 c g (by omega)
            have sam2 : ∀ c g, (c = 0 ∧ (g = 5 ∨ g = 7 ∨ g = 15 ∨ g = 16)) ∨ (c = 621 ∧ (g = 135 ∨ g = 136)) → T5.1 c g = S.1 c g := fun c g y => q7 c g (by omega) (by unfold sp_W20; omega)
            refine ⟨D', T5, fun K => la_20 (c := 0) (b := v) hL hj (by rw [← ha0, ← ha1, ← ha2, ← ha3]; exact lw_20_ok a0 a1 a2 a3 cl) (by rw [← ha0, ← ha1, ← ha2, ← ha3]; exact rr) q10 (fun _ => by rw [q11, if_pos ⟨rfl, rfl⟩]), q5, q6, RR_c hRR (fun c g y => ?_), RM_c hRM (fun c g y => ?_) r6, q7, fun c g y => by rw [q11, if_neg (fun z => y z.1)], q12, by omega, by omega⟩
            · by_cases z : (c = 0 ∧ (g = 15 ∨ g = 16)) ∨ (c = 621 ∧ (g = 135 ∨ g = 136))
              · exact sam2 c g (by omega)
              · exact same c g (by omega)
            · by_cases z : c = 0
              · exact sam2 c g (by omega)
              · exact same c g (by omega)
          · rw [if_neg hr] at cl
            have G6 : G < 6 := by omega
            obtain ⟨g0, g10⟩ := (hRM G (by omega)).1
            obtain ⟨cnt, hcnt⟩ : ∃ cnt : Nat, S.1 311 G = (cnt : Int) := ⟨(S.1 311 G).toNat, by omega⟩
            have c10 : cnt < 10 := by
              apply Classical.byContradiction
              intro y
              exact hf ⟨hr, by omega, by rw [hG15, Int.toNat_natCast, hcnt]; omega⟩
            have c311 : C.1 311 G = (cnt : Int) := (s3 _ _ (by omega) (by omega) (by omega) (by omega) (by omega)).trans hcnt
            obtain ⟨Cf, hCf⟩ : ∃ Cf, Cf = ev_pI (ev_pI (ev_pI (ev_pI C (305 + G) (3 * cnt) a0) (305 + G) (3 * cnt + 1) a1) (305 + G) (3 * cnt + 2) a3) 311 G ((cnt : Int) + 1) := ⟨_, rfl⟩
            rw [c206 c15 G6 c311 c10, sp_bd, ← hCf] at cl
            obtain ⟨D', T1, T', T4, T5, q1, q2, q3, q4, q5, q6, q7, q8, q9, q10, q11, q12, q13⟩ := run Cf (fun c g y => by rw [hCf, sp_pI1, if_neg (by omega), sp_pI1, if_neg (by omega), sp_pI1, if_neg (by omega), sp_pI1, if_neg (by omega)]) (by rw [hCf]; rfl)
            have o136 : T5.1 621 136 = S.1 0 16 := by rw [q7 621 136 (by omega) (by unfold sp_W20; omega), m4]
            have o135 : T5.1 621 135 = (G : Int) := by rw [q7 621 135 (by omega) (by unfold sp_W20; omega), m3, hG15]
            have o716 : T5.1 716 G = (cnt : Int) := by rw [q9 716 G (Or.inl rfl), m5 G (by omega), hcnt]
            obtain ⟨_, _, l716, l717⟩ := al_mac
            obtain ⟨U, hU⟩ : ∃ U, U = ev_pI (ev_pI (ev_pI (ev_pI T5 717 (30 * G + 3 * cnt) a0) 717 (30 * G + 3 * cnt + 1) a1) 717 (30 * G + 3 * cnt + 2) a3) 716 G ((cnt : Int) + 1) := ⟨_, rfl⟩
            have uI : ∀ c g, c ≠ 716 → c ≠ 717 → U.1 c g = T5.1 c g := fun c g y1 y2 => by rw [hU, rd_nk y1, rd_nk y2, rd_nk y2, rd_nk y2]
            have u2 : U.2 = T5.2 := by rw [hU]; rfl
            have rr : jm_351 Q a0 a1 a2 a3 (ev_pL Cf 723 0 (ev_i2l v)) = some (v, U) := by
              have cf : ∀ c g, ¬ (305 ≤ c ∧ c ≤ 311) → Cf.1 c g = C.1 c g := fun c g y => by rw [hCf, sp_pI1, if_neg (by omega), sp_pI1, if_neg (by omega), sp_pI1, if_neg (by omega), sp_pI1, if_neg (by omega)]
              have cs : ∀ c g, (c = 621 ∧ (g = 5 ∨ g = 110 ∨ g = 135 ∨ g = 136)) ∨ c = 716 → Cf.1 c g = S.1 c g := fun c g y => (cf c g (by omega)).trans (s3 c g (by omega) (by omega) (by omega) (by omega) (by omega))
              obtain ⟨Y, hY⟩ : ∃ Y, Y = ev_pI (ev_pL Cf 723 0 (ev_i2l v)) 621 0 0 := ⟨_, rfl⟩
              have yS : ∀ c g, (c = 621 ∧ (g = 135 ∨ g = 136)) ∨ c = 716 → Y.1 c g = S.1 c g := fun c g y => by
                rw [hY, sp_pI1, if_neg (by omega)]
                exact cs c g (by omega)
              rw [← hY] at q1
              rw [(rf (ev_pL Cf 723 0 (ev_i2l v)) (cs _ _ (by omega)) (cs _ _ (by omega))).1 hv hm, ← hY, b351 (T := Y) (nf Y (yS _ _ (by omega)) (yS _ _ (by omega)) (fun g => yS _ _ (by omega))) (by rw [yS _ _ (by omega)]; omega), hb, q1, sp_bd, hp, ht, q2, sp_bd, if_pos v1, q3, sp_bd, q4, sp_bd, sp_b, o136, if_neg hr, sp_b, o135, sp_ck (by omega), sp_b, sp_if (by rw [l716]; omega), sp_b, Int.toNat_natCast, o716, sp_ck (by omega), sp_ck (by omega), sp_if (by rw [l717]; omega), sp_b, sp_ck (by omega), sp_if (by rw [l717]; omega), sp_b, sp_ck (by omega), sp_if (by rw [l717]; omega), sp_b, sp_b, rd_nk (by decide), rd_nk (by decide), rd_nk (by decide), o135, sp_if (by rw [l716]; omega), sp_b, Int.toNat_natCast, rd_nk (by decide), rd_nk (by decide), rd_nk (by decide), o716, sp_ck (by omega), sp_if (by rw [l716]; omega), sp_b, show (30 * (G : Int) + 3 * (cnt : Int)).toNat = 30 * G + 3 * cnt by omega, show (30 * (G : Int) + 3 * (cnt : Int) + 1).toNat = 30 * G + 3 * cnt + 1 by omega, show (30 * (G : Int) + 3 * (cnt : Int) + 2).toNat = 30 * G + 3 * cnt + 2 by omega, ← ht, ← hp, ← hU]
            have o0 : ∀ g, g = 5 ∨ g = 7 ∨ g = 15 ∨ g = 16 → U.1 0 g = S.1 0 g := fun g y => by rw [uI _ _ (by decide) (by decide), q7 0 g (by omega) (by unfold sp_W20; omega)]
            have o311 : ∀ g, U.1 311 g = if g = G then (cnt : Int) + 1 else S.1 311 g := fun g => by
              rw [uI _ _ (by decide) (by decide), q8 311 g (by omega), hCf, sp_pI1]
              by_cases z : g = G
              · rw [if_pos ⟨rfl, z⟩, if_pos z]
              · rw [if_neg (fun y => z y.2), if_neg z, rd_nk (by omega), rd_nk (by omega), rd_nk (by omega), s3 _ _ (by omega) (by omega) (by omega) (by omega) (by omega)]
            have orow : ∀ g x, g < 6 → ¬ (g = G ∧ 3 * cnt ≤ x ∧ x ≤ 3 * cnt + 2) → U.1 (305 + g) x = S.1 (305 + g) x := fun g x hg y => by
              rw [uI _ _ (by omega) (by omega), q8 (305 + g) x (by omega), hCf, sp_pI1, if_neg (by omega), sp_pI1, if_neg (by omega), sp_pI1, if_neg (by omega), sp_pI1, if_neg (by omega), s3 _ _ (by omega) (by omega) (by omega) (by omega) (by omega)]
            have nrow : U.1 (305 + G) (3 * cnt) = a0 ∧ U.1 (305 + G) (3 * cnt + 1) = a1 ∧ U.1 (305 + G) (3 * cnt + 2) = a3 := by
              refine ⟨?_, ?_, ?_⟩
              · rw [uI _ _ (by omega) (by omega), q8 _ _ (by omega), hCf, rd_nk (by omega), rd_nf (by omega), rd_nf (by omega), rd_eq]
              · rw [uI _ _ (by omega) (by omega), q8 _ _ (by omega), hCf, rd_nk (by omega), rd_nf (by omega), rd_eq]
              · rw [uI _ _ (by omega) (by omega), q8 _ _ (by omega), hCf, rd_nk (by omega), rd_eq]
            have o717 : ∀ x, ¬ (30 * G + 3 * cnt ≤ x ∧ x ≤ 30 * G + 3 * cnt + 2) → U.1 717 x = S.1 717 x := fun x y => by rw [hU, rd_nk (by decide), rd_nf (by omega), rd_nf (by omega), rd_nf (by omega), q9 717 x (Or.inr rfl)]
            have n717 : U.1 717 (30 * G + 3 * cnt) = a0 ∧ U.1 717 (30 * G + 3 * cnt + 1) = a1 ∧ U.1 717 (30 * G + 3 * cnt + 2) = a3 := by
              refine ⟨?_, ?_, ?_⟩
              · rw [hU, rd_nk (by decide), rd_nf (by omega), rd_nf (by omega), rd_eq]
              · rw [hU, rd_nk (by decide), rd_nf (by omega), rd_eq]
              · rw [hU, rd_nk (by decide), rd_eq]
            have o716' : ∀ g, U.1 716 g = if g = G then (cnt : Int) + 1 else S.1 716 g := fun g => by
              rw [hU, sp_pI1]
              by_cases z : g = G
              · rw [if_pos ⟨rfl, z⟩, if_pos z]
              · rw [if_neg (fun y => z y.2), if_neg z, rd_nk (by decide), rd_nk (by decide), rd_nk (by decide), q9 716 g (Or.inl rfl)]
            have hRRU : sp_RR U := by
              unfold sp_RR
              rw [o0 15 (by omega), o0 16 (by omega), uI 621 135 (by decide) (by decide), uI 621 136 (by decide) (by decide), o135, o136]
              refine ⟨⟨m1, m2⟩, hG15.symm, rfl, m45, fun g hg => ?_, fun g hg => ?_⟩
              · rw [o716', o311]
                by_cases z : g = G
                · rw [if_pos z, if_pos z]
                · rw [if_neg z, if_neg z]
                  exact m5 g hg
              · rw [o311, if_neg (by omega)]
                exact m7 g hg
            have hRMU : sp_RM U := fun g hg => by
              rw [o0 15 (by omega), o0 16 (by omega)] at hg
              have g6 : g < 6 := by omega
              obtain ⟨y1, y2⟩ := hRM g hg
              by_cases z : g = G
              · subst z
                rw [o311, if_pos rfl]
                refine ⟨by omega, fun i hi => ?_⟩
                by_cases w : i = cnt
                · subst w
                  rw [n717.1, n717.2.1, n717.2.2, nrow.1, nrow.2.1, nrow.2.2, o0 5 (by omega), o0 7 (by omega)]
                  exact ⟨⟨rfl, rfl, rfl⟩, hv.1, hv.2.1, hm⟩
                · rw [o717 _ (by omega), o717 _ (by omega), o717 _ (by omega), orow g _ g6 (by omega), orow g _ g6 (by omega), orow g _ g6 (by omega), o0 5 (by omega), o0 7 (by omega)]
                  exact y2 i (by omega)
              · rw [o311, if_neg z]
                refine ⟨y1, fun i hi => ?_⟩
                rw [o717 _ (by omega), o717 _ (by omega), o717 _ (by omega), orow g _ g6 (by omega), orow g _ g6 (by omega), orow g _ g6 (by omega), o0 5 (by omega), o0 7 (by omega)]
                exact y2 i hi
            refine ⟨D', U, fun K => la_20 (c := 0) (b := v) hL hj (by rw [← ha0, ← ha1, ← ha2, ← ha3]; exact lw_20_ok a0 a1 a2 a3 cl) (by rw [← ha0, ← ha1, ← ha2, ← ha3]; exact rr) (by rw [uI _ _ (by decide) (by decide)]; exact q10) (fun _ => by rw [u2, q11, if_pos ⟨rfl, rfl⟩]), LG_c2_g q5 (fun k g hk => uI k g (by omega) (by omega)) (fun a j _ => by rw [u2]) (by unfold ev_sN; rw [u2]) (fun k g hk => uI k g (by omega) (by omega)), B8_c q6 (fun b hb => uI _ _ (by omega) (by omega)) (uI _ _ (by omega) (by omega)) (fun g => uI _ _ (by decide) (by decide)), hRRU, hRMU, fun c g y1 y2 => ?_, fun c g y => by rw [u2, q11, if_neg (fun z => y z.1)], fun c g y1 y2 y3 => by rw [u2]; exact q12 c g y1 y2 y3, ?_, ?_⟩
            · have y3 := y2
              unfold sp_W20 at y3
              rw [uI c g (by omega) (by omega)]
              exact q7 c g y1 y2
            · unfold ev_sC ev_sN at q13 ⊢
              rw [u2]
              omega
            · unfold ev_sZ ev_sN at q13 ⊢
              rw [u2]
              omega
    · exact no 2 (by decide) (lw_20_x1 a0 a1 a2 a3 (cl.2.1 hv hm)) ((rf (ev_tick S) rfl rfl).2.1 hv hm)
  · exact no 1 (by decide) (lw_20_x0 a0 a1 a2 a3 (cl.2.2 hv)) ((rf (ev_tick S) rfl rfl).2.2 hv)
end OSK
