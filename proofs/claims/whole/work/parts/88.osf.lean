/-! MENDING: the edits are made, on both sides -/
section OSF
variable {Q p k t m i j len w s E b c0 : Nat} {n o0 : Int} {S S1 S2 S' T T1 T2 T' U V : ev_St} {a c d e f v x y md lim : Int} {D : lg_D}
theorem eg_C_t (h : eg_C S S2) (g : eg_C S2 S') : eg_C S S' := by
  obtain ⟨a1, a2, a3, a4, a5, a6⟩ := h
  obtain ⟨b1, b2, b3, b4, b5, b6⟩ := g
  exact ⟨fun k g h1 h2 h3 h4 h5 => (b1 k g h1 h2 h3 h4 h5).trans (a1 k g h1 h2 h3 h4 h5), b2.trans a2, b3.trans a3, fun c j h1 h2 => (b4 c j h1 h2).trans (a4 c j h1 h2), by omega, by omega⟩
theorem eg_C_r : eg_C S S := ⟨fun _ _ _ _ _ _ _ => rfl, rfl, rfl, fun _ _ _ _ => rfl, rfl, rfl⟩
theorem eg_R_t (h : eg_R T T2) (g : eg_R T2 T') : eg_R T T' := ⟨fun k x a b c d e f => (g.1 k x a b c d e f).trans (h.1 k x a b c d e f), g.2.trans h.2⟩
theorem eg_R_r : eg_R T T := ⟨fun _ _ _ _ _ _ _ _ => rfl, rfl⟩
/-- what an edit makes of a buffer's text -/
theorem ct_343 {c : Nat} {f r i fr : Int} (hQ : 1000 ≤ Q) (hT : lg_T n D E c S T) (hn0 : n ≤ 512) (hb : b < 3) (hf : 0 ≤ f ∧ f ≤ 80) (hr : 0 ≤ r ∧ r ≤ 80) (hi : 0 ≤ i ∧ i ≤ 80) (hfr : f + r ≤ S.1 (263 + 2 * b) 1) (hn : S.1 (263 + 2 * b) 1 - r + i ≤ 160) (hy : ∀ g : Nat, (g : Int) < i → 0 ≤ T.1 702 (fr + (g : Int)).toNat ∧ T.1 702 (fr + (g : Int)).toNat < 127) (hD : 0 ≤ fr ∧ fr + i ≤ 200) (hc : (c : Int) < 420000) (hs : dS D c + r + i ≤ 840000) (h126 : T.1 621 126 ≤ 1000000) (hj : jm_343 Q (b : Int) f (f + r) fr i 0 T = some ((), T')) : ∀ g : Nat, (g : Int) < S.1 (263 + 2 * b) 1 + (i - r) → T'.1 708 (200 * b + g) = if (g : Int) < f then T.1 708 (200 * b + g) else if (g : Int) < f + i then T.1 702 (fr + ((g : Int) - f)).toNat else T.1 708 (200 * b + ((g : Int) - i + r).toNat) := fun g hg => by
  obtain ⟨hC, ⟨t1, t2, t3, t0⟩, ⟨t4, t5⟩, ⟨t6, t7⟩, t8, t9, t10, t11⟩ := hT
  have mn : ∀ g : Nat, (g : Int) < S.1 254 12 → T.1 714 g = sp_bs (T.1 714) g + S.1 261 g ∧ 0 ≤ S.1 261 g := fun g hg => ⟨(t11 g hg).1, (t11 g hg).2.1⟩
  obtain ⟨b1, b2, b3, b4⟩ := hC.2.2.2.1 b hb
  obtain ⟨u1, u2, u3, u4⟩ := hC.2.2.2.2.1
  have hdc := lg_mono2 hC.2.2.2.2.2.1 hC.1 (Nat.le_refl _)
  have hd0 := lg_mono2 hC.2.2.2.2.2.1 (Nat.zero_le c) hC.1
  have dc0 : 0 ≤ dS D c := by
    have := lg_mono2 hC.2.2.2.2.2.1 (Nat.le_refl c) hC.1
    exact this.1
  obtain ⟨T1, e1, e2, e3, e4, e5, e6, e7, e8⟩ := ed_R (Q := Q) (b := b) (f := f) (r := r) (i := i) (c := (c : Int)) (s := dS D c) (fr := fr) (P := f + 128 * r + 16384 * i + 2097152 * (b : Int)) (isD := 0) (u := S.1 254 12) (y := fun g => T.1 702 (fr + (g : Int)).toNat) (T := T) hQ hb hf.1 ⟨hr.1, by omega⟩ ⟨hi.1, by omega⟩ (by omega) (fun g hg => by
    have := b4 g (by omega)
    rw [this.1]
    exact this.2) hy (Or.inl ⟨rfl, hD, fun _ _ => rfl⟩) t1 (by omega) (by rw [← t1]; exact t9) (fun w => by
    have l0 := t10 (by omega)
    refine ⟨by omega, ?_⟩
    by_cases e : S.1 254 12 = 0
    · rw [e] at t8 ⊢
      have e0 : sp_bs (T.1 714) 0 = 0 := rfl
      rw [show c = 0 from by omega, hC.2.2.2.2.2.1.1]
      rfl
    · have q := (t11 (S.1 254 12 - 1).toNat (by omega)).2.2
      have q2 : sp_bs (T.1 714) (S.1 254 12) = T.1 714 (S.1 254 12 - 1).toNat := if_neg e
      unfold sp_bs
      rw [if_neg e, q, show (T.1 714 (S.1 254 12 - 1).toNat).toNat = c from by omega]) ⟨by omega, hc⟩ ⟨dc0, hs⟩ ⟨by omega, h126⟩ rfl (by omega)
  obtain ⟨T2, p1, p2, p3, _⟩ := pf_R (Q := Q) (b := b) (p := f) (r := r) (s3 := dS D c + r) (i := i) (n := S.1 (263 + 2 * b) 1) (T := T1) (by omega) hb hf.1 hr.1 hi.1 (by rw [e8.1 707 b (by omega) (by omega) (by omega)]; exact b3) b2 hfr hn ⟨by omega, by omega⟩ (by rw [e8.1 621 121 (by omega) (by omega) (by omega), u3]; exact ⟨u1, u2⟩) (fun g hg => by
    rw [e8.1 621 121 (by omega) (by omega) (by omega), u3] at hg
    rw [e8.1 710 g (by omega) (by omega) (by omega)]
    obtain ⟨_, _, v3, v4, _, v6, v7⟩ := u4 g hg
    rw [v3]
    have := hC.2.2.2.1 (S.1 256 g).toNat (by omega)
    omega)
  rw [e1, p1, sp_bd] at hj
  have e : T2 = T' := congrArg Prod.snd (Option.some.inj hj)
  subst e
  have k708 : ∀ x, T1.1 708 x = T.1 708 x := fun x => e8.1 708 x (by omega) (by omega) (by omega)
  rw [p3 g hg, k708, k708]
  by_cases z1 : (g : Int) < f
  · rw [if_pos z1, if_pos z1]
  · rw [if_neg z1, if_neg z1]
    by_cases z2 : (g : Int) < f + i
    · rw [if_pos z2, if_pos z2, e7, if_neg (by omega), if_pos (by omega)]
      show T.1 702 (fr + (((((dS D c + r + ((g : Int) - f)).toNat : Nat) : Int) - (dS D c + r)).toNat : Int)).toNat = _
      rw [show ((((dS D c + r + ((g : Int) - f)).toNat : Nat) : Int) - (dS D c + r)).toNat = ((g : Int) - f).toNat by omega, show (((g : Int) - f).toNat : Int) = (g : Int) - f by omega]
    · rw [if_neg z2, if_neg z2]
theorem al_720 : ev_aln 703 = 102 ∧ ev_aln 704 = 102 ∧ ev_aln 705 = 102 ∧ ev_aln 277 = 820 ∧ ev_aln 278 = 820 ∧ ev_aln 279 = 820 ∧ ev_aln 280 = 800 := by decide +kernel
/-- the edits of one replacement: behind what the class has made already, from the last to the first -/
theorem blk (hQ : 1000 ≤ Q) (hn0 : n ≤ 512) (hb : b < 3) (hR : RCT m E s T) (hE : E ≤ len) (h80 : len ≤ 80 ∧ s ≤ 80) (hm81 : m ≤ 81) (hm0 : 0 < m) (h30 : T.1 703 0 = 0) (hN : ∀ i, i < m → RCN c0 o0 m s S T i) (hc0 : c0 + m ≤ 820) (ho : 0 ≤ o0 ∧ o0 + (s : Int) ≤ 800) (h9 : ((c0 + m : Nat) : Int) ≤ S.1 269 9) {tx : Nat → Int} {cc : Nat} (hcc : (cc : Int) + m < 420000) (hds : dS D cc + 160 ≤ 840000) : ∀ (r j q q' E2 : Nat) (D2 : lg_D) (U X : ev_St), j + r = m → r < q → r < q' → lg_T n D2 E2 (cc + j) U X → eg_C S U → eg_R T X → (0 < j → E2 = cc + j ∧ U.1 254 13 = U.1 254 12 ∧ X.1 621 131 = X.1 621 130 ∧ 0 < U.1 254 11) → U.1 (263 + 2 * b) 1 = (len : Int) - (gsm T m - gsm T (m - j)) + ((s : Int) - T.1 703 (m - j)) → (∀ k, k ≤ cc → ∀ b', dL D2 k b' = dL D k b') → (∀ b', b' ≠ b → dL D2 (cc + j) b' = dL D cc b') → dS D2 (cc + j) = dS D cc + (gsm T m - gsm T (m - j)) + ((s : Int) - T.1 703 (m - j)) → (∀ g : Nat, (g : Int) < U.1 (263 + 2 * b) 1 → X.1 708 (200 * b + g) = Rt T tx m j g) → ∃ (D3 : lg_D) (S' T' : ev_St), jl_47_5 Q 255 (b : Int) q (o0 + ((s : Int) - T.1 703 (m - j))) ((c0 + j : Nat) : Int) U = jl_47_5 Q 255 (b : Int) (q - r) (o0 + (s : Int)) ((c0 + m : Nat) : Int) S' ∧ jl_350_4 Q (b : Int) q' ((m : Int) - 1 - (j : Int)) X = some ((), T') ∧ lg_T n D3 (cc + m) (cc + m) S' T' ∧ (S'.1 254 13 = S'.1 254 12 ∧ T'.1 621 131 = T'.1 621 130 ∧ 0 < S'.1 254 11) ∧ eg_C S S' ∧ eg_R T T' ∧ S'.1 (263 + 2 * b) 1 = (len : Int) - gsm T m + (s : Int) ∧ (∀ k, k ≤ cc → ∀ b', dL D3 k b' = dL D k b') ∧ (∀ b', b' ≠ b → dL D3 (cc + m) b' = dL D cc b') ∧ dS D3 (cc + m) = dS D cc + gsm T m + (s : Int) ∧ (∀ g : Nat, (g : Int) < S'.1 (263 + 2 * b) 1 → T'.1 708 (200 * b + g) = Rt T tx m m g) := fun r => by
  obtain ⟨l703, l704, l705, l277, l278, l279, l280⟩ := al_720
  induction r with
  | zero =>
    intro j q q' E2 D2 U X h1 h2 h3 hT fC fR hE2 hl hD hDb hS hX
    obtain ⟨q', rfl⟩ : ∃ r, q' = r + 1 := ⟨q' - 1, by omega⟩
    have e : j = m := by omega
    subst e
    have g0 : gsm T 0 = 0 := rfl
    rw [Nat.sub_self, h30, g0] at hl hS
    rw [Nat.sub_self, h30]
    obtain ⟨x1, x2⟩ := hE2 hm0
    subst x1
    refine ⟨D2, U, X, by rw [Nat.sub_zero, show (s : Int) - 0 = (s : Int) by omega], ?_, hT, x2, fC, fR, by rw [hl]; omega, hD, hDb, by rw [hS]; omega, hX⟩
    show jb_350_4 Q (b : Int) _ _ X = _
    unfold jb_350_4
    rw [if_pos (by omega)]
  | succ r ih =>
    intro j q q' E2 D2 U X h1 h2 h3 hT fC fR hE2 hl hD hDb hS hX
    obtain ⟨q, rfl⟩ : ∃ r, q = r + 1 := ⟨q - 1, by omega⟩
    obtain ⟨q', rfl⟩ : ∃ r, q' = r + 1 := ⟨q' - 1, by omega⟩
    obtain ⟨x, hx⟩ : ∃ x, x = m - 1 - j := ⟨_, rfl⟩
    have xj : m - j = x + 1 := by omega
    have xj2 : m - (j + 1) = x := by omega
    obtain ⟨a, bb, e1, e2, e3, e4⟩ := hR.1 x (by omega)
    obtain ⟨n1, n2, n3, n4⟩ := hN j (by omega)
    rw [← hx, e1] at n1
    rw [← hx, e1, e2] at n2
    rw [← hx, xj] at n3 n4
    have k0 := RCT_le hR x (by omega) hm0
    have k1 := RCT_le hR (x + 1) (by omega) hm0
    have k2 := hR.2.2.2.2 x (by omega)
    have gb := gsm_be hR (x := x) (m - (x + 1)) (by omega)
    rw [show x + 1 + (m - (x + 1)) = m by omega] at gb
    have gu := gsm_up hR (m - (x + 1)) (x + 1) (by omega)
    rw [show x + 1 + (m - (x + 1)) = m by omega] at gu
    have gx := gsm_up hR x 0 (by omega)
    rw [Nat.zero_add] at gx
    have g0 : gsm T 0 = 0 := rfl
    have ge : gsm T (x + 1) = gsm T x + (T.1 705 x - T.1 704 x) := rfl
    rw [xj] at hl hS ⊢
    have u27 : ∀ c g, 269 ≤ c → c ≤ 280 → U.1 c g = S.1 c g := fun c g y1 y2 => fC.1 c g (by omega) (by omega) (by omega) (by omega) (by omega)
    have x70 : ∀ c g, 702 ≤ c → c ≤ 705 → X.1 c g = T.1 c g := fun c g y1 y2 => fR.1 c g (by omega) (by omega) (by omega) (by omega) (by omega) (by omega)
    have gone : gsm T m ≤ (len : Int) := by
      have := gsm_be hR (x := 0)
      by_cases z : m = 0
      · omega
      · have q1 := this (m - 1) (by omega)
        rw [show 0 + 1 + (m - 1) = m by omega] at q1
        obtain ⟨a', b', y1, y2, y3, y4⟩ := hR.1 0 (by omega)
        have q2 : gsm T (0 + 1) = 0 + (T.1 705 0 - T.1 704 0) := rfl
        omega
    obtain ⟨S1, T1, p1, p2, p3, ⟨p4, p5, p6⟩, p7, p8⟩ := lg_T_edit (Q := Q) (b := b) (k := 280) (f := (a : Int)) (r := (bb : Int) - (a : Int)) (off := o0 + ((s : Int) - T.1 703 (x + 1))) (i := T.1 703 (x + 1) - T.1 703 x) (fr := T.1 703 x) (isD := 0) (y := fun g => T.1 702 (T.1 703 x + (g : Int)).toNat) hQ hT hn0 hb (by omega) (by omega) (by omega) (by omega) (by omega) (by decide) (by decide) ⟨by omega, by rw [l280]; omega, by rw [l280]; decide⟩ (fun g hg => by
      obtain ⟨z1, z2⟩ := n4 g hg
      rw [u27 280 _ (by decide) (by decide)]
      exact ⟨z1, sp_sign_r z2⟩) (Or.inl ⟨rfl, ⟨by omega, by omega⟩, fun g hg => x70 _ _ (by decide) (by decide)⟩) (by omega) (by omega)
    rw [show (a : Int) + ((bb : Int) - (a : Int)) = (bb : Int) by omega] at p2
    have l1 : S1.1 (263 + 2 * b) 1 = U.1 (263 + 2 * b) 1 + ((T.1 703 (x + 1) - T.1 703 x) - ((bb : Int) - (a : Int))) := by
      rw [p3.1.2.1.2.2 b hb]
      have e : dL (lg_N D2 (cc + j) b (a : Int) ((bb : Int) - (a : Int)) (T.1 703 (x + 1) - T.1 703 x)) (cc + j + 1) b = dL D2 (cc + j) b + ((T.1 703 (x + 1) - T.1 703 x) - ((bb : Int) - (a : Int))) := (if_pos rfl).trans (if_pos rfl)
      rw [e, ← hT.1.2.1.2.2 b hb]
    obtain ⟨D3, S', T', r1, r2, r3⟩ := ih (j + 1) q q' (cc + j + 1) (lg_N D2 (cc + j) b (a : Int) ((bb : Int) - (a : Int)) (T.1 703 (x + 1) - T.1 703 x)) S1 T1 (by omega) (by omega) (by omega) p3 (eg_C_t fC p7) (eg_R_t fR p8) (fun _ => ⟨rfl, p4, p5, p6⟩) (by
      rw [xj2, l1, hl]
      omega) (fun k hk b' => by
      rw [lg_N_L (by omega)]
      exact hD k hk b') (fun b' hb' => by
      have e : dL (lg_N D2 (cc + j) b (a : Int) ((bb : Int) - (a : Int)) (T.1 703 (x + 1) - T.1 703 x)) (cc + (j + 1)) b' = dL D2 (cc + j) b' := (if_pos rfl).trans (if_neg hb')
      rw [e]
      exact hDb b' hb') (by
      rw [xj2, show cc + (j + 1) = cc + j + 1 by omega, lg_N_S1, hS]
      omega) (fun g hg => by
      rw [l1] at hg
      have x126 : X.1 621 126 ≤ 1000000 := by
        have q1 := hT.2.2.2.2.1
        have q2 := hT.2.2.2.1
        have q3 := hT.2.1
        have q4 : 0 ≤ sp_bs (X.1 714) (U.1 254 12) := by
          have mn : ∀ g : Nat, (g : Int) < U.1 254 12 → X.1 714 g = sp_bs (X.1 714) g + U.1 261 g ∧ 0 ≤ U.1 261 g := fun g hg => ⟨(hT.2.2.2.2.2.2.2 g hg).1, (hT.2.2.2.2.2.2.2 g hg).2.1⟩
          have q := t_mono mn (U.1 254 12).toNat 0 (by omega)
          rw [show ((0 + (U.1 254 12).toNat : Nat) : Int) = U.1 254 12 from by omega] at q
          have e0 : sp_bs (X.1 714) ((0 : Nat) : Int) = 0 := rfl
          omega
        omega
      have ct := ct_343 (Q := Q) (f := (a : Int)) (r := (bb : Int) - (a : Int)) (i := T.1 703 (x + 1) - T.1 703 x) (fr := T.1 703 x) (T' := T1) hQ hT hn0 hb (by omega) (by omega) (by omega) (by omega) (by omega) (fun g hg => by
        obtain ⟨z1, z2⟩ := n4 g hg
        rw [x70 702 _ (by decide) (by decide)]
        exact sp_sign_r z2) (by omega) (by omega) (by omega) x126 (by rw [show (a : Int) + ((bb : Int) - (a : Int)) = (bb : Int) by omega]; exact p2) g (by omega)
      rw [ct]
      unfold Rt
      rw [← hx, e1, e2]
      by_cases z1 : (g : Int) < (a : Int)
      · rw [if_pos z1, if_pos z1]
        exact hX g (by omega)
      · rw [if_neg z1, if_neg z1]
        by_cases z2 : (g : Int) < (a : Int) + (T.1 703 (x + 1) - T.1 703 x)
        · rw [if_pos z2, if_pos z2]
          exact x70 _ _ (by decide) (by decide)
        · rw [if_neg z2, if_neg z2]
          exact hX _ (by omega))
    rw [xj2] at r1
    refine ⟨D3, S', T', ?_, ?_, r3⟩
    · rw [show q + 1 - (r + 1) = q - r by omega, ← r1]
      show jb_47_5 Q 255 (b : Int) (jl_47_5 Q 255 (b : Int) q) _ _ U = _
      have c9 : ¬ U.1 269 9 ≤ ((c0 + j : Nat) : Int) := by
        rw [u27 269 9 (by decide) (by decide)]
        omega
      have s1 : ∀ g, S1.1 279 g = S.1 279 g := fun g => by
        rw [p7.1 _ _ (by omega) (by omega) (by omega) (by omega) (by omega)]
        exact u27 _ _ (by decide) (by decide)
      unfold jb_47_5
      rw [sp_b, sp_jn, if_neg c9, if_neg (by omega), sp_if (by rw [l277]; omega), sp_b, Int.toNat_natCast, sp_if (by rw [l278]; omega), sp_b, sp_if (by rw [l279]; omega), sp_b, sp_if (by decide), u27 277 _ (by decide) (by decide), u27 278 _ (by decide) (by decide), u27 279 _ (by decide) (by decide), n1, n2, n3, p1, sp_bd, sp_if (by rw [l279]; omega), sp_b, s1, n3, sp_ck (by omega), sp_ck (by omega), show o0 + ((s : Int) - T.1 703 (x + 1)) + (T.1 703 (x + 1) - T.1 703 x) = o0 + ((s : Int) - T.1 703 x) by omega, show ((c0 + j : Nat) : Int) + 1 = ((c0 + (j + 1) : Nat) : Int) by omega]
    · show jb_350_4 Q (b : Int) (jl_350_4 Q (b : Int) q') _ X = _
      have xi : (m : Int) - 1 - (j : Int) = (x : Int) := by omega
      unfold jb_350_4
      rw [xi, if_neg (by omega), sp_if (by rw [l704]; omega), sp_b, Int.toNat_natCast, sp_if (by rw [l705]; omega), sp_b, sp_if (by rw [l703]; omega), sp_b, sp_ck (by omega), sp_if (by rw [l703]; omega), sp_b, sp_if (by rw [l703]; omega), sp_b, show ((x : Int) + 1).toNat = x + 1 by omega, x70 704 _ (by decide) (by decide), x70 705 _ (by decide) (by decide), x70 703 _ (by decide) (by decide), x70 703 _ (by decide) (by decide), e1, e2, sp_ck (by omega), p2, sp_bd, sp_ck (by omega), show (x : Int) + -1 = (m : Int) - 1 - ((j + 1 : Nat) : Int) by omega]
      exact r2
end OSF
