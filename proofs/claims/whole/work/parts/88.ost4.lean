/-! M1: the log once more, its characters signs (osn osp osq osr oss) -/
section OSN
variable {Q p k t m i j len w s E b c0 cc q : Nat} {n o0 : Int} {S S1 S2 S' T T1 T2 T' U V W X C : ev_St} {a c d e f v x y md lim : Int} {D : lg_D}
theorem com1_g (hQ : 40000000000 ≤ Q) (hK : sp_PT S) (hTR : sp_TR S) (hp : (p : Int) < S.1 0 5) (ht : (t : Int) < S.1 0 7) (hU : TXW len c0 o0 S U) (hc : c0 ≤ 739) (ho : 0 ≤ o0 ∧ o0 ≤ 720) (hj : jm_44 Q 282 (313 + 20 * p + 1) (553 + 2 * t + 1) lim U = some (v, S1)) (hv : v ≠ -1) (hT : RFw S T) (hLT : lg_T_g n D E cc C T) (hn0 : n ≤ 512) (hb : b < 3) (hCl : C.1 (263 + 2 * b) 1 = (len : Int)) (hX : ∀ g, g < len → T.1 708 (200 * b + g) = U.1 271 g) (hC9 : S1.1 269 9 ≤ C.1 269 9) (hCe : ∀ c g : Nat, 277 ≤ c → c ≤ 279 → (g : Int) < S1.1 269 9 → C.1 c g = S1.1 c g) (hC8 : ∀ g : Nat, (g : Int) < S1.1 269 10 → C.1 280 g = S1.1 280 g) (hcc : (cc : Int) + 81 < 420000) (hds : dS D cc + 160 ≤ 840000) (hq : 81 < q) : ∃ (m s E' : Nat) (D' : lg_D) (C' T1 T2 T3 : ev_St), v = (m : Int) ∧ NTD c0 m s o0 U S1 ∧ jl_47_5 Q 255 (b : Int) q o0 (c0 : Int) C = jl_47_5 Q 255 (b : Int) (q - m) (o0 + (s : Int)) ((c0 + m : Nat) : Int) C' ∧ jm_288 Q (b : Int) T = some ((), T1) ∧ jm_349 Q (p : Int) (t : Int) lim T1 = some (v, T2) ∧ jm_350 Q (b : Int) v T2 = some ((), T3) ∧ lg_T_g n D' E' (cc + m) C' T3 ∧ ((m = 0 ∧ E' = E ∧ D' = D ∧ C' = C ∧ FRm T T3) ∨ EDn E' (cc + m) C' T3) ∧ eg_C C C' ∧ FRpl T T3 ∧ C'.1 (263 + 2 * b) 1 = S1.1 270 1 ∧ (∀ k, k ≤ cc → ∀ b', dL D' k b' = dL D k b') ∧ (∀ b', b' ≠ b → dL D' (cc + m) b' = dL D cc b') ∧ dS D' (cc + m) ≤ dS D cc + 160 ∧ (∀ g : Nat, (g : Int) < S1.1 270 1 → T3.1 708 (200 * b + g) = S1.1 271 g) := by
  obtain ⟨_, _, t707, _⟩ := hLT.1.2.2.2.1 b hb
  have l80 : len ≤ 80 := hU.1
  have u3 := hU.2.2.1
  obtain ⟨T1, a1, a2, a3, a4, a5⟩ := sp_288 (Q := Q) (m := b) (len := len) (T := T) hb (by omega) (by rw [t707]; exact hCl) (by omega)
  have f1 : FRm T T1 := ⟨fun c g y1 y2 y3 => a4 c g (by omega) (by omega), fun _ _ => by rw [a5], fun _ _ => by rw [a5], by rw [a5]⟩
  obtain ⟨v', S1', T2, p1, p2, p3, p4, ⟨p5, p6⟩, p7⟩ := mend_n (lim := lim) hQ hK hTR hp ht hU hc ho (RFw_m hT f1) a2 (fun i hi => (a3 i hi).trans (hX i hi))
  have ev : v = v' := congrArg Prod.fst (Option.some.inj (hj.symm.trans p1))
  have es : S1 = S1' := congrArg Prod.snd (Option.some.inj (hj.symm.trans p1))
  subst ev
  subst es
  obtain ⟨m, s, G, S', y1, hF, y3, y4, y5, y6, y7, y8⟩ := p7.resolve_left hv
  subst y1
  have hF0 := hF
  obtain ⟨m81, hM, hR, hD, hE, hg, h80s⟩ := hF
  have s80 := y5.1.2
  have f2 : FRm T T2 := FRm_t f1 (FRm_p p4)
  have hL2 : lg_T_g n D E cc C T2 := lg_T_c2_g hLT (fun _ _ _ => rfl) (fun _ _ _ => rfl) rfl (fun k g hk => f2.1 k g (by omega) (by omega) (by omega))
  have e350 : jm_350 Q (b : Int) (m : Int) T2 = jl_350_4 Q (b : Int) Q ((m : Int) - 1) T2 := by
    unfold jm_350
    rw [sp_ck (by omega)]
  have tx : ∀ g, g < len → T2.1 708 (200 * b + g) = U.1 271 g := fun g hg => (f2.1 708 _ (by omega) (by omega) (by omega)).trans (hX g hg)
  by_cases hm : m = 0
  · subst hm
    have s0 : s = 0 := hR.2.2.1 rfl
    subst s0
    have g0 : gsm T2 0 = 0 := rfl
    refine ⟨0, 0, E, D, C, T1, T2, T2, rfl, y5, ?_, a1, p2, ?_, hL2, Or.inl ⟨rfl, rfl, rfl, rfl, f2⟩, eg_C_r, FRpl_m f2, by rw [hCl, y7, g0]; omega, fun _ _ _ => rfl, fun _ _ => rfl, by rw [Nat.add_zero]; omega, fun g hg => ?_⟩
    · rw [Nat.sub_zero, Nat.add_zero, show o0 + ((0 : Nat) : Int) = o0 by omega]
    · rw [e350]
      obtain ⟨Q', hQ'⟩ : ∃ r, Q = r + 1 := ⟨Q - 1, by omega⟩
      rw [hQ']
      show jb_350_4 _ _ _ _ T2 = _
      unfold jb_350_4
      rw [if_pos (by decide)]
    · rw [(y8 g hg).1]
      exact tx g (by omega)
  · have hm0 : 0 < m := by omega
    have s703 := (hR.2.2.2.1 hm0).2
    have z703 := (hR.2.2.2.1 hm0).1
    have g0 : gsm T2 0 = 0 := rfl
    have r9 := y5.2.1.1
    have r10 := y5.2.1.2
    obtain ⟨D3, C1, T4, b1, b2, b3, ⟨b4, b5, b6⟩, b7, b8, b9, b10, b11, b12, b13⟩ := blk_g (Q := Q) (n := n) (S := C) (T := T2) (c0 := c0) (o0 := o0) (cc := cc) (D := D) (b := b) (len := len) (s := s) (m := m) (E := G) (tx := fun g => T2.1 708 (200 * b + g)) (by omega) hn0 hb hR hE ⟨l80, s80⟩ m81 hm0 z703 (fun i hi => by
      obtain ⟨n1, n2, n3, n4⟩ := y6 i hi
      unfold RCN
      rw [hCe 277 _ (by omega) (by omega) (by omega), hCe 278 _ (by omega) (by omega) (by omega), hCe 279 _ (by omega) (by omega) (by omega)]
      refine ⟨n1, n2, n3, fun g hg => ?_⟩
      have k0 := RCT_le hR (m - 1 - i) (by omega) hm0
      have k1 := RCT_le hR (m - i) (by omega) hm0
      rw [hC8 _ (by omega)]
      exact n4 g hg) (by omega) ⟨by omega, by omega⟩ (by omega) (by omega) (by omega) m 0 q Q E D C T2 (by omega) (by omega) (by omega) hL2 eg_C_r eg_R_r (fun h => absurd h (Nat.lt_irrefl 0)) (by rw [Nat.sub_zero, s703, hCl]; omega) (fun _ _ _ => rfl) (fun _ _ => rfl) (by rw [Nat.sub_zero, s703, Nat.add_zero]; omega) (fun _ _ => rfl)
    rw [Nat.sub_zero, s703, show o0 + ((s : Int) - (s : Int)) = o0 by omega, Nat.add_zero] at b1
    rw [show (m : Int) - 1 - ((0 : Nat) : Int) = (m : Int) - 1 by omega] at b2
    refine ⟨m, s, cc + m, D3, C1, T1, T2, T4, rfl, y5, b1, a1, p2, by rw [e350]; exact b2, b3, Or.inr ⟨rfl, b4, b5, b6⟩, b7, FRpl_t (FRpl_m f2) (FRpl_e b8), by rw [b9, y7], b10, b11, by rw [b12]; omega, fun g hg => ?_⟩
    rw [b13 g (by rw [b9, ← y7]; exact hg), (y8 g hg).1]
    exact (Rt_two (tx := U.1 271) (ty := fun g => T2.1 708 (200 * b + g)) hF0 (fun g hg => ⟨(tx g hg).symm, u3 g hg⟩) hm0 m (Nat.le_refl m) g (by rw [Nat.sub_self, z703, g0]; omega)).1.symm
end OSN
section OSP
variable {Q p k t m b G cnt : Nat} {n : Int} {S S1 S2 S' T T1 T2 T' U V W X C : ev_St}
theorem pl_ind_g (hQ : 40000000000 ≤ Q) (hK : sp_PT S) (hTR : sp_TR S) (hP : PLY S G cnt) (hb : b < 3) (hn0 : n ≤ 512) : ∀ (r i q q' len c0 : Nat) (o0 x : Int) (U T : ev_St), i + r = cnt → r < q → r < q' → TXW len c0 o0 S U → c0 ≤ 81 * i → (0 ≤ o0 ∧ o0 ≤ 80 * (i : Int)) → (0 ≤ x ∧ x ≤ 81 * (i : Int)) → RFw S T → T.1 621 73 = (len : Int) → (∀ j, j < len → T.1 678 j = U.1 271 j) → (∃ S' T' : ev_St, jl_194_64 Q (G : Int) (b : Int) q (305 + G) x (i : Int) U = some (.inr "java/lang/IllegalStateException", ev_tick S') ∧ jl_361_50 Q (G : Int) (b : Int) q' (30 * (G : Int) + 3 * (i : Int)) T = some (0, ev_pI T' 621 0 2) ∧ FCm U S' ∧ FRm T T') ∨ (∃ (SF TF : ev_St) (c1 s1 : Nat), jl_194_64 Q (G : Int) (b : Int) q (305 + G) x (i : Int) U = (ev_bd (jm_47 Q 255 (b : Int) SF) fun _ s => some (.inl (x + (c1 : Int)), s)) ∧ jl_361_50 Q (G : Int) (b : Int) q' (30 * (G : Int) + 3 * (i : Int)) T = jl_361_127 Q (G : Int) (b : Int) Q 0 (30 * (G : Int)) TF ∧ FCm U SF ∧ FRm T TF ∧ (SF.1 269 9 = ((c0 + c1 : Nat) : Int) ∧ SF.1 269 10 = o0 + (s1 : Int)) ∧ (∀ c g, 277 ≤ c → c ≤ 279 → g < c0 → SF.1 c g = U.1 c g) ∧ (∀ g : Nat, (g : Int) < o0 → SF.1 280 g = U.1 280 g) ∧ (c1 ≤ 81 * r ∧ s1 ≤ 80 * r) ∧ ∀ (q1 q2 : Nat) (y : Int) (C T2 : ev_St) (cc E : Nat) (D : lg_D), 81 * r + 1 < q1 → r < q2 → (0 ≤ y ∧ y ≤ 81 * (i : Int)) → RFw S T2 → lg_T_g n D E cc C T2 → C.1 (263 + 2 * b) 1 = (len : Int) → (∀ g, g < len → T2.1 708 (200 * b + g) = U.1 271 g) → SF.1 269 9 ≤ C.1 269 9 → (∀ c g : Nat, 277 ≤ c → c ≤ 279 → (g : Int) < SF.1 269 9 → C.1 c g = SF.1 c g) → (∀ g : Nat, (g : Int) < SF.1 269 10 → C.1 280 g = SF.1 280 g) → (cc : Int) + 81 * r < 420000 → dS D cc + 160 * r ≤ 840000 → ∃ (E' : Nat) (D' : lg_D) (C' T3 : ev_St), jl_47_5 Q 255 (b : Int) q1 o0 (c0 : Int) C = jl_47_5 Q 255 (b : Int) (q1 - c1) (o0 + (s1 : Int)) ((c0 + c1 : Nat) : Int) C' ∧ jl_361_127 Q (G : Int) (b : Int) q2 y (30 * (G : Int) + 3 * (i : Int)) T2 = (ev_bd (jm_345 Q T3) fun _ s => some (y + (c1 : Int), s)) ∧ lg_T_g n D' E' (cc + c1) C' T3 ∧ ((c1 = 0 ∧ E' = E ∧ D' = D ∧ C' = C ∧ FRm T2 T3) ∨ EDn E' (cc + c1) C' T3) ∧ eg_C C C' ∧ FRpl T2 T3 ∧ C'.1 (263 + 2 * b) 1 ≤ 80 ∧ (∀ k, k ≤ cc → ∀ b', dL D' k b' = dL D k b') ∧ (∀ b', b' ≠ b → dL D' (cc + c1) b' = dL D cc b') ∧ dS D' (cc + c1) ≤ dS D cc + 160 * r) := fun r => by
  obtain ⟨⟨hG, h10⟩, ⟨h311, h716⟩, hrows⟩ := hP
  obtain ⟨k1, k2, _⟩ := hK.1
  obtain ⟨t1, t2⟩ := hTR.1
  have m716 : ∀ T, RFw S T → T.1 716 G = (cnt : Int) := fun T h => (h.1 716 G (by omega) (by omega) (by omega) (by omega) (by omega)).trans h716
  have m717 : ∀ T, RFw S T → ∀ g, T.1 717 g = S.1 717 g := fun T h g => h.1 717 g (by omega) (by omega) (by omega) (by omega) (by omega)
  induction r with
  | zero =>
    intro i q q' len c0 o0 x U T h1 h2 h3 hU hc ho hx hT t73 tx
    obtain ⟨q, rfl⟩ : ∃ r, q = r + 1 := ⟨q - 1, by omega⟩
    obtain ⟨q', rfl⟩ : ∃ r, q' = r + 1 := ⟨q' - 1, by omega⟩
    have e : i = cnt := by omega
    subst e
    have u6 := hU.2.2.2.2.2.1
    refine Or.inr ⟨U, T, 0, 0, ?_, pl_Re hG h10 (m716 T hT), ⟨fun _ _ _ => rfl, fun _ _ => rfl, fun _ _ _ => rfl, rfl⟩, ⟨fun _ _ _ _ _ => rfl, fun _ _ => rfl, fun _ _ => rfl, rfl⟩, ⟨hU.2.2.2.1, by rw [hU.2.2.2.2.1]; omega⟩, fun _ _ _ _ _ => rfl, fun _ _ => rfl, ⟨Nat.le_refl _, Nat.le_refl _⟩, ?_⟩
    · rw [pl_Ce hG (by rw [u6 311 _ (by omega) (by omega)]; exact h311), show x + ((0 : Nat) : Int) = x by omega]
    · intro q1 q2 y C T2 cc E D g1 g2 g3 g4 g5 g6 g7 g8 g9 g10 g11 g12
      obtain ⟨q2, rfl⟩ : ∃ r, q2 = r + 1 := ⟨q2 - 1, by omega⟩
      refine ⟨E, D, C, T2, ?_, ?_, g5, Or.inl ⟨rfl, rfl, rfl, rfl, FRm_r⟩, eg_C_r, FRpl_r, ?_, fun _ _ _ => rfl, fun _ _ => rfl, ?_⟩
      · rw [Nat.sub_zero, Nat.add_zero, show o0 + ((0 : Nat) : Int) = o0 by omega]
      · rw [pl_Me hG h10 (m716 T2 g4), show y + ((0 : Nat) : Int) = y by omega]
      · have := hU.1
        omega
      · rw [Nat.add_zero]
        omega
  | succ r ih =>
    intro i q q' len c0 o0 x U T h1 h2 h3 hU hc ho hx hT t73 tx
    obtain ⟨q, rfl⟩ : ∃ r, q = r + 1 := ⟨q - 1, by omega⟩
    obtain ⟨q', rfl⟩ : ∃ r, q' = r + 1 := ⟨q' - 1, by omega⟩
    have hi : i < cnt := by omega
    obtain ⟨p, t, ⟨hp, ht⟩, ⟨r0, r1⟩, r2, r3, r4⟩ := hrows i hi
    have u6 := hU.2.2.2.2.2.1
    obtain ⟨lim, hlim⟩ : ∃ lim, lim = S.1 (305 + G) (3 * i + 2) := ⟨_, rfl⟩
    have eC := pl_C (Q := Q) (b := b) (q := q) (u0 := x) ⟨k1, k2⟩ ⟨t1, t2⟩ hG h10 h311 hi hp ht r0 r1 u6
    rw [← hlim] at eC
    have eR := pl_R (Q := Q) (b := b) (q := q') (p := p) (t := t) (lim := lim) (T := T) hG h10 (m716 T hT) hi (by rw [m717 T hT]; exact r2) (by rw [m717 T hT]; exact r3) (by rw [m717 T hT, hlim]; exact r4)
    obtain ⟨v, S1, T', p1, p2, p3, p4, p5⟩ := trial1 (lim := lim) hQ hK hTR hp ht hU (by omega) (by omega) hT t73 tx
    rw [p1, sp_bd] at eC
    rw [p2, sp_bd] at eR
    rcases p5 with y | ⟨m, s, L, T1, y1, y2, y3, y4, y5, y6, y7⟩
    · subst y
      rw [if_neg (fun z => z rfl)] at eC eR
      exact Or.inl ⟨S1, T', eC, eR, p3, p4⟩
    · subst y1
      have hv : (m : Int) ≠ -1 := by omega
      have m81 := y4.1.1
      have s80 := y4.1.2
      rw [if_pos hv, sp_ck (by omega), sp_ck (by omega), show (i : Int) + 1 = ((i + 1 : Nat) : Int) by omega] at eC
      rw [if_pos hv, y2, sp_bd] at eR
      rcases ih (i + 1) q q' L (c0 + m) (o0 + (s : Int)) (x + (m : Int)) S1 T1 (by omega) (by omega) (by omega) y5 (by omega) (by omega) (by omega) (RFw_m hT y3) y6 y7 with ⟨S', T'', z1, z2, z3, z4⟩ | ⟨SF, TF, c1, s1, z1, z2, z3, z4, ⟨z5, z6⟩, z7, z8, ⟨z9, z10⟩, z11⟩
      · exact Or.inl ⟨S', T'', eC.trans z1, eR.trans z2, FCm_t p3 z3, FRm_t y3 z4⟩
      · have a9 := y4.2.1.1
        have a10 := y4.2.1.2
        refine Or.inr ⟨SF, TF, m + c1, s + s1, ?_, eR.trans z2, FCm_t p3 z3, FRm_t y3 z4, ⟨by rw [z5]; omega, by rw [z6]; omega⟩, fun c g w1 w2 w3 => (z7 c g w1 w2 (by omega)).trans (y4.2.2.1 c g w1 w2 w3), fun g w => (z8 g (by omega)).trans (y4.2.2.2 g w), ⟨by omega, by omega⟩, ?_⟩
        · rw [eC, z1, show x + (m : Int) + (c1 : Int) = x + ((m + c1 : Nat) : Int) by omega]
        · intro q1 q2 y C T2 cc E D g1 g2 g3 g4 g5 g6 g7 g8 g9 g10 g11 g12
          obtain ⟨q2, rfl⟩ : ∃ r, q2 = r + 1 := ⟨q2 - 1, by omega⟩
          obtain ⟨m', s', E1, D1, C1, V1, V2, V3, w1, w2, w3, w4, w5, w6, w7, w8, w9, w10, w11, w12, w13, w14, w15⟩ := com1_g (Q := Q) (n := n) (b := b) (q := q1) (C := C) (T := T2) (cc := cc) (E := E) (D := D) (lim := lim) hQ hK hTR hp ht hU (by omega) (by omega) p1 hv g4 g5 hn0 hb g6 g7 (by omega) (fun c g f1 f2 f3 => (g9 c g f1 f2 (by omega)).trans (z7 c g f1 f2 (by omega))) (fun g f => (g10 g (by omega)).trans (z8 g (by omega))) (by omega) (by omega) (by omega)
          have em : m' = m := by omega
          subst em
          have es : s' = s := by
            have := w2.2.1.2
            omega
          subst es
          have f1 := sp_288 (Q := Q) (m := b) (T := T2) (len := len) hb (by have := hU.1; omega) (by rw [(g5.1.2.2.2.1 b hb).2.2.1]; exact g6) (by omega)
          have v717 : ∀ g, V1.1 717 g = S.1 717 g := fun g => by
            obtain ⟨V, j1, _, _, j4, _⟩ := f1
            have : V = V1 := congrArg Prod.snd (Option.some.inj (j1.symm.trans w4))
            subst this
            rw [j4 717 g (by omega) (by omega)]
            exact m717 T2 g4 g
          have eM := pl_M (Q := Q) (b := b) (q := q2) (p := p) (t := t) (lim := lim) (T := T2) (y := y) hG h10 (m716 T2 g4) hi w4 (by rw [v717]; exact r2) (by rw [v717]; exact r3) (by rw [v717, hlim]; exact r4) w5 w6 (by omega) (by omega)
          have eg : ∀ c g, 269 ≤ c → c ≤ 280 → C1.1 c g = C.1 c g := fun c g f1 f2 => w9.1 c g (by omega) (by omega) (by omega) (by omega) (by omega)
          obtain ⟨E2, D2, C2, V4, x1, x2, x3, x4, x5, x6, x7, x8, x9, x10⟩ := z11 (q1 - m') q2 (y + (m' : Int)) C1 V3 (cc + m') E1 D1 (by omega) (by omega) (by omega) (RFw_z g4 w10) w7 (w11.trans y5.2.1) (fun g hg => w15 g (by rw [y5.2.1]; omega)) (by rw [eg _ _ (by omega) (by omega)]; exact g8) (fun c g f1 f2 f3 => (eg c g (by omega) (by omega)).trans (g9 c g f1 f2 f3)) (fun g f => (eg 280 g (by omega) (by omega)).trans (g10 g f)) (by omega) (by omega)
          rw [show cc + m' + c1 = cc + (m' + c1) by omega] at x3 x4 x9 x10
          refine ⟨E2, D2, C2, V4, ?_, ?_, x3, ?_, eg_C_t w9 x5, FRpl_t w10 x6, x7, fun k hk b' => (x8 k (by omega) b').trans (w12 k hk b'), fun b' hb' => (x9 b' hb').trans (w13 b' hb'), by omega⟩
          · rw [w3, x1, show q1 - m' - c1 = q1 - (m' + c1) by omega, show c0 + m' + c1 = c0 + (m' + c1) by omega, show o0 + (s' : Int) + (s1 : Int) = o0 + ((s' + s1 : Nat) : Int) by omega]
          · rw [eM, x2, show y + (m' : Int) + (c1 : Int) = y + ((m' + c1 : Nat) : Int) by omega]
          · rcases x4 with ⟨b1, b2, b3, b4, b5⟩ | b
            · rcases w8 with ⟨d1, d2, d3, d4, d5⟩ | ⟨d1, d2, d3, d4⟩
              · exact Or.inl ⟨by omega, b2.trans d2, b3.trans d3, b4.trans d4, FRm_t d5 b5⟩
              · subst b4
                exact Or.inr ⟨by omega, d2, by rw [b5.1 621 131 (by omega) (by omega) (by omega), d3, x6.1 621 130 (by omega) (by omega) (by omega) (by omega) (by omega) (by omega)], d4⟩
            · exact Or.inr b
end OSP
section OSQ
variable {Q p k t m i j len b G cnt L : Nat} {n a0 a1 : Int} {S S1 S2 S' T T1 T2 T' U V W X C : ev_St} {xs : Nat → Int32} {D : lg_D}
theorem play_done_g (hQ : 40000000000 ≤ Q) (hn : 0 ≤ n ∧ n ≤ 511) (hK : sp_PT S) (hTR : sp_TR S) (hG : SG S) (hLG : LG_g n D S) (h8 : B8 D S S) (hP : PLY S G cnt) (hb : b < 3) (hl : S.1 (263 + 2 * b) 1 = (len : Int)) (hW : jm_43 Q (263 + 2 * b + 1) S = some ((), W)) (hT : RFq S T) : ∃ T1, jm_288 Q (b : Int) T = some ((), T1) ∧ ((∃ S' T' : ev_St, jl_194_64 Q (G : Int) (b : Int) Q (305 + G) 0 0 W = some (.inr "java/lang/IllegalStateException", ev_tick S') ∧ jl_361_50 Q (G : Int) (b : Int) Q (30 * (G : Int)) T1 = some (0, ev_pI T' 621 0 2) ∧ FRpe T T' ∧ (∀ c g, ¬ (269 ≤ c ∧ c ≤ 283) → S'.1 c g = S.1 c g) ∧ (∀ c g, S'.2.1 c g = S.2.1 c g) ∧ (∀ c g, c ≠ 281 → S'.2.2.1 c g = S.2.2.1 c g) ∧ S'.2.2.2 = S.2.2.2 ∧ FRm T T') ∨ (∃ (v : Int) (D' : lg_D) (C T5 : ev_St), jl_194_64 Q (G : Int) (b : Int) Q (305 + G) 0 0 W = some (.inl v, C) ∧ jl_361_50 Q (G : Int) (b : Int) Q (30 * (G : Int)) T1 = some (v, T5) ∧ L2_g (n + 1) D' C T5 ∧ B8 D' C T5 ∧ FRpe T T5 ∧ (∀ c g, c < 724 → ¬ (269 ≤ c ∧ c ≤ 283) → c ≠ 258 → ¬ (261 ≤ c ∧ c ≤ 268) → ¬ (c = 254 ∧ 9 ≤ g ∧ g ≤ 13) → C.1 c g = S.1 c g) ∧ (∀ c g, C.2.1 c g = S.2.1 c g) ∧ (∀ c j, c ≠ 259 → c ≠ 260 → c ≠ 281 → C.2.2.1 c j = S.2.2.1 c j) ∧ (ev_sC C + ev_sN S = ev_sC S + ev_sN C ∧ ev_sZ C + 1024 * ev_sN S = ev_sZ S + 1024 * ev_sN C))) := by
  have hB : sp_BR S := t2_B_i_g hLG.2.1.2.2.2.1
  have l80 : len ≤ 80 := by
    have := h8.1 b hb
    omega
  obtain ⟨b1, b2, b3, b4⟩ := hB b hb
  obtain ⟨W', w1, w2, w3, w4, w5, w6, w7⟩ := sp_43 (Q := Q) (S := S) hb
  have e : W' = W := (congrArg Prod.snd (Option.some.inj (hW.symm.trans w1))).symm
  subst e
  obtain ⟨T1, t1, t2, t3, t4, t5⟩ := sp_288 (Q := Q) (m := b) (len := len) (T := T) hb (by omega) (by rw [hT.1 707 b (by omega) (by omega) (by omega) (by omega) (by omega), b3]; exact hl) (by omega)
  have f1 : FRm T T1 := ⟨fun c g y1 y2 y3 => t4 c g (by omega) (by omega), fun _ _ => by rw [t5], fun _ _ => by rw [t5], by rw [t5]⟩
  have wF : FCm S W' := ⟨fun c g y => w6 c g (by omega) (by omega) (by omega), fun _ _ => by rw [w7], fun _ _ _ => by rw [w7], by rw [w7]⟩
  have c10 := hP.1.2
  have t708 : ∀ g, g < len → T.1 708 (200 * b + g) = W'.1 271 g := fun g hg => by
    rw [w3 g (by omega), hT.1 708 _ (by omega) (by omega) (by omega) (by omega) (by omega), (b4 g (by omega)).1]
  have hU : TXW len 0 0 S W' := ⟨l80, by rw [w2]; exact hl, fun i hi => by rw [w3 i (by omega)]; exact hG b hb i (by omega), w4, w5, fun c g y _ => wF.1 c g y, fun c g _ => wF.2.1 c g⟩
  refine ⟨T1, t1, ?_⟩
  have pl := pl_ind_g (Q := Q) (n := n) (b := b) hQ hK hTR hP hb (by omega) cnt 0 Q Q len 0 0 0 W' T1 (by omega) (by omega) (by omega) hU (by omega) (by omega) (by omega) (RFw_m (RFw_of hT) f1) t2 (fun j hj => (t3 j hj).trans (t708 j hj))
  have e30 : 30 * (G : Int) + 3 * ((0 : Nat) : Int) = 30 * (G : Int) := by omega
  have e0 : ((0 : Nat) : Int) = 0 := rfl
  rw [e30, e0] at pl
  rcases pl with ⟨S', T', z1, z2, z3, z4⟩ | ⟨SF, TF, c1, s1, z1, z2, z3, z4, ⟨z5, z6⟩, _, _, ⟨z9, z10⟩, z11⟩
  · have f := FCm_t wF z3
    exact Or.inl ⟨S', T', z1, z2, FRpe_p (FRpl_m (FRm_t f1 z4)), f.1, f.2.1, f.2.2.1, f.2.2.2, FRm_t f1 z4⟩
  · refine Or.inr ?_
    have f := FCm_t wF z3
    have fT := FRm_t f1 z4
    have tS : ∀ k g, 707 ≤ k ∧ k ≤ 715 ∨ (k = 621 ∧ (g = 121 ∨ (125 ≤ g ∧ g ≤ 132))) → TF.1 k g = S.1 k g := fun k g hk => by rw [fT.1 k g (by omega) (by omega) (by omega), hT.1 k g (by omega) (by omega) (by omega) (by omega) (by omega)]
    have L0 : L2_g n D SF TF := L2_c2_g (L2_of_g hLG) (fun k g hk => f.1 k g (by omega)) (fun a j ha => f.2.2.1 a j (by omega)) (by unfold ev_sN; rw [f.2.2.2]) tS
    have B0 : B8 D SF TF := B8_c h8 (fun b hb => f.1 _ _ (by omega)) (f.1 _ _ (by omega)) (fun g => tS _ _ (by omega))
    obtain ⟨E0, hE1, hE2, hLT⟩ := lg_T_of_g L0
    obtain ⟨cc, hcc⟩ : ∃ cc, (SF.1 254 9).toNat = cc := ⟨_, rfl⟩
    rw [hcc] at hLT
    have hcE := hLT.1.1
    have hdc := lg_mono2 hLT.1.2.2.2.2.2.1 hcE (Nat.le_refl _)
    obtain ⟨E', D', C1, T3, x1, x2, x3, x4, x5, x6, x7, x8, x9, x10⟩ := z11 Q Q 0 SF TF cc E0 D (by omega) (by omega) (by omega) (RFw_m (RFw_of hT) fT) hLT (by rw [f.1 _ _ (by omega)]; exact hl) (fun g hg => by rw [fT.1 708 _ (by omega) (by omega) (by omega)]; exact t708 g hg) (Int.le_refl _) (fun _ _ _ _ _ => rfl) (fun _ _ => rfl) (by omega) (by omega)
    rw [x2] at z2
    have e47 : jm_47 Q 255 (b : Int) SF = jl_47_5 Q 255 (b : Int) (Q - c1) (0 + (s1 : Int)) ((0 + c1 : Nat) : Int) C1 := x1
    have fC : ∀ c g, c < 724 → ¬ (269 ≤ c ∧ c ≤ 283) → c ≠ 258 → ¬ (261 ≤ c ∧ c ≤ 268) → ¬ (c = 254 ∧ 9 ≤ g ∧ g ≤ 13) → C1.1 c g = S.1 c g := fun c g g1 g2 g3 g4 g5 => by rw [x5.1 c g g1 g3 (by omega) (by omega) g5, f.1 c g g2]
    have c9 : C1.1 269 9 ≤ ((0 + c1 : Nat) : Int) := by
      rw [x5.1 269 9 (by omega) (by omega) (by omega) (by omega) (by omega), z5]
      exact Int.le_refl _
    have go : ∀ C, jm_3 Q C1 = some ((), C) → jm_47 Q 255 (b : Int) SF = some ((), C) := fun C hC => by
      obtain ⟨q, hq⟩ : ∃ q, Q - c1 = q + 1 := ⟨Q - c1 - 1, by omega⟩
      rw [e47, hq]
      show jb_47_5 Q 255 (b : Int) (jl_47_5 Q 255 (b : Int) q) _ _ C1 = _
      unfold jb_47_5
      rw [sp_b, sp_jn, if_pos c9]
      try dsimp only
      rw [sp_if (by decide), hC, sp_bd]
    have vv : (0 : Int) + (c1 : Int) = (c1 : Int) := by omega
    have cnt2 : ev_sC C1 + ev_sN S = ev_sC S + ev_sN C1 ∧ ev_sZ C1 + 1024 * ev_sN S = ev_sZ S + 1024 * ev_sN C1 := by
      have q := x5.2.2.2.2
      have q2 := f.2.2.2
      unfold ev_sC ev_sN ev_sZ at q ⊢
      rw [q2] at q
      exact q
    rcases x4 with ⟨y1, y2, y3, y4, y5⟩ | ⟨y1, y2, y3, y4⟩
    · subst y4
      have fT3 := FRm_t fT y5
      have tS3 : ∀ k g, 707 ≤ k ∧ k ≤ 715 ∨ (k = 621 ∧ (g = 121 ∨ (125 ≤ g ∧ g ≤ 132))) → T3.1 k g = S.1 k g := fun k g hk => by rw [fT3.1 k g (by omega) (by omega) (by omega), hT.1 k g (by omega) (by omega) (by omega) (by omega) (by omega)]
      have L3 : L2_g n D C1 T3 := L2_c2_g (L2_of_g hLG) (fun k g hk => f.1 k g (by omega)) (fun a j ha => f.2.2.1 a j (by omega)) (by unfold ev_sN; rw [f.2.2.2]) tS3
      have l0 : C1.1 254 14 = 0 → C1.1 254 11 = 0 := L3.2.2.1
      have c3 : jm_3 Q C1 = some ((), C1) := by
        unfold jm_3
        rw [sp_b]
        by_cases z : C1.1 254 14 ≠ 0
        · rw [if_pos z]
        · rw [if_neg z, sp_b, if_pos (l0 (Decidable.not_not.mp z))]
      have c345 : jm_345 Q T3 = some ((), T3) := by
        have q1 := L3.1.2.2.1
        have q2 := L3.1.2.2.2
        unfold jm_345
        rw [sp_b]
        by_cases z : T3.1 621 132 ≠ 0
        · rw [if_pos z]
        · have z' := Decidable.not_not.mp z
          have z2 := l0 (by rw [← q1]; exact z')
          rw [if_neg z]
          unfold jm_344
          rw [sp_b, if_pos (by omega), sp_bd]
      rw [go C1 c3, sp_bd, vv] at z1
      rw [c345, sp_bd, vv] at z2
      exact ⟨c1, D, C1, T3, z1, z2, L2_mono_g (by omega) L3, B8_c h8 (fun b hb => f.1 _ _ (by omega)) (f.1 _ _ (by omega)) (fun g => tS3 _ _ (by omega)), FRpe_p (FRpl_m fT3), fC, f.2.1, fun c j _ _ g3 => f.2.2.1 c j g3, cnt2⟩
    · subst y1
      obtain ⟨C, T5, d1, d2, d3, d4, d5, d6, d7, d8⟩ := lg_T_end_g (Q := Q) x3 hn.2 ⟨y2, y3, y4⟩ (by omega) (by omega)
      rw [go C d1, sp_bd, vv] at z1
      rw [d2, sp_bd, vv] at z2
      have dl : ∀ b', b' < 3 → dL D' (cc + c1) b' ≤ 80 := fun b' hb' => by
        by_cases z : b' = b
        · subst z
          rw [← x3.1.2.1.2.2 b' hb']
          exact x7
        · rw [x9 b' z, ← hLT.1.2.1.2.2 b' hb']
          exact B0.1 b' hb'
      have e714 : T3.1 714 = TF.1 714 := funext fun g => x6.1 714 g (by omega) (by omega) (by omega) (by omega) (by omega) (by omega)
      have e12 : C1.1 254 12 = SF.1 254 12 := x5.2.1
      refine ⟨c1, D', C, T5, z1, z2, d3, ⟨fun b' hb' => ?_, fun b' hb' => ?_, fun g hg b' hb' => ?_⟩, FRpe_t (FRpe_p (FRpl_t (FRpl_m fT) x6)) ⟨fun c g y1 y2 y3 y4 y5 => d7 c g (by omega) (by omega) (by omega), fun _ _ => by rw [d8], fun _ _ => by rw [d8], by rw [d8]⟩, fun c g g1 g2 g3 g4 g5 => by rw [d5 c g (by omega) (by omega)]; exact fC c g g1 g2 g3 g4 g5, fun c g => by rw [d6, x5.2.2.1, f.2.1], fun c j g1 g2 g3 => by rw [d6, x5.2.2.2.1 c j g1 g2, f.2.2.1 c j g3], ?_⟩
      · rw [d5 _ _ (by omega) (by omega), x3.1.2.1.2.2 b' hb']
        exact dl b' hb'
      · rw [x8 0 (Nat.zero_le _) b']
        exact B0.2.1 b' hb'
      · rcases d4 g hg with y | ⟨y1, y2⟩
        · rw [y, Int.toNat_natCast]
          exact dl b' hb'
        · have mn : ∀ g : Nat, (g : Int) < SF.1 254 12 → TF.1 714 g = sp_bs (TF.1 714) g + SF.1 261 g ∧ 0 ≤ SF.1 261 g := fun g hg => ⟨(hLT.2.2.2.2.2.2.2 g hg).1, (hLT.2.2.2.2.2.2.2 g hg).2.1⟩
          have q2 := t_le mn (g := g) (by omega)
          have q3 := hLT.2.2.2.2.1
          have q4 := hLT.2.2.2.1.2
          rw [y2, e714, x8 _ (by omega) b']
          have q5 := L0.2.1.2.1
          exact B0.2.2 g (by omega) b' hb'
      · unfold ev_sC ev_sN ev_sZ at cnt2 ⊢
        rw [d6]
        exact cnt2
end OSQ
section OSR
variable {Q p k t m i j len b G cnt L : Nat} {n a0 a1 : Int} {S S1 S2 S' T T1 T2 T' U V W X C : ev_St} {xs : Nat → Int32} {D : lg_D}
theorem op_28_g (hQ : 40000000000 ≤ Q) (hn : 0 ≤ n ∧ n ≤ 511) (hK : sp_PT S) (hTR : sp_TR S) (hG : SG S) (hLG : LG_g n D S) (h8 : B8 D S S) (hRR : sp_RR S) (hRM : sp_RM S) (hL : L ≤ 3072) (hj : j + 6 ≤ L) : ∃ D' S2, (∀ K, ja_1952 Q L xs (j : Int) K S = K S2) ∧ LG_g (n + 1) D' S2 ∧ B8 D' S2 S2 ∧ sp_RR S2 ∧ sp_RM S2 ∧ sp_GR S S2 := by
  obtain ⟨a0, ha0⟩ : ∃ a, a = (xs (Int.toNat ((j : Int) + 1))).toInt := ⟨_, rfl⟩
  obtain ⟨a1, ha1⟩ : ∃ a, a = (xs (Int.toNat ((j : Int) + 2))).toInt := ⟨_, rfl⟩
  obtain ⟨⟨m1, m2⟩, m3, m4, m45, m5, m7⟩ := id hRR
  have r6 := RR_6 hRR
  have cl := c194 (Q := Q) (a0 := a0) (a1 := a1) (S := S) (by omega)
  have rf : ∀ X : ev_St, X.1 621 135 = S.1 621 135 → _ := fun X h1 => r361 (Q := Q) (T := X) (a0 := a0) (a1 := a1) (M := S.1 0 15) (h1.trans m3) ⟨by omega, by omega⟩
  by_cases hv : (0 ≤ a0 ∧ a0 < S.1 0 15) ∧ 0 ≤ a1 ∧ a1 < 3
  · have cl := cl.1 hv
    obtain ⟨G, hg⟩ : ∃ G : Nat, a0 = (G : Int) := ⟨a0.toNat, by omega⟩
    obtain ⟨b, hb⟩ : ∃ b : Nat, a1 = (b : Int) := ⟨a1.toNat, by omega⟩
    have hb3 : b < 3 := by omega
    have hG6 : G < 6 := by omega
    rw [show a0.toNat = G by omega, show a1.toNat = b by omega] at cl
    obtain ⟨g1, g2⟩ := hRM G (by omega)
    obtain ⟨cnt, hcnt⟩ : ∃ cnt : Nat, S.1 311 G = (cnt : Int) := ⟨(S.1 311 G).toNat, by omega⟩
    have hP : PLY S G cnt := by
      refine ⟨⟨hG6, by omega⟩, ⟨hcnt, (m5 G (by omega)).trans hcnt⟩, fun i hi => ?_⟩
      obtain ⟨⟨y1, y2, y3⟩, y4, y5, _⟩ := g2 i (by omega)
      exact ⟨(S.1 (305 + G) (3 * i)).toNat, (S.1 (305 + G) (3 * i + 1)).toNat, ⟨by omega, by omega⟩, ⟨by omega, by omega⟩, by omega, by omega, y3⟩
    obtain ⟨W, hW, _⟩ := sp_43 (Q := Q) (S := S) hb3
    obtain ⟨len, hl⟩ : ∃ len : Nat, S.1 (263 + 2 * b) 1 = (len : Int) := ⟨(S.1 (263 + 2 * b) 1).toNat, by have := (hLG.2.1.2.2.2.1 b hb3).1; omega⟩
    have dn : ∀ T, RFq S T → _ := fun T hT => play_done_g hQ hn hK hTR hG hLG h8 hP hb3 hl hW hT
    rw [hW, sp_bd] at cl
    have rr : ∀ X Y : ev_St, Y = ev_pI X 621 0 0 → X.1 621 135 = S.1 621 135 → ∀ T1 z, jm_288 Q (b : Int) Y = some ((), T1) → jl_361_50 Q (G : Int) (b : Int) Q (30 * (G : Int)) T1 = z → jm_361 Q a0 a1 X = z := fun X Y hY h1 T1 z q1 q2 => by
      rw [(rf X h1).1 hv, ← hY, hb, q1, sp_bd, hg]
      exact q2
    obtain ⟨_, _, alt⟩ := dn S ⟨fun _ _ _ _ _ _ _ => rfl, fun _ _ _ => rfl⟩
    rcases alt with ⟨S', _, s1, _, _, s2, s3, s4, s5, _⟩ | ⟨v, D1, C, _, s1, _, _, _, _, s3, s4, s5, s6⟩
    · rw [hg, hb, s1] at cl
      rw [← hg, ← hb] at cl
      obtain ⟨X, hX⟩ : ∃ X, X = ev_pI (ev_tick S') 621 0 0 := ⟨_, rfl⟩
      have xI : ∀ c g, ¬ (c = 621 ∧ g = 0) → X.1 c g = S'.1 c g := fun c g y => by
        rw [hX, sp_pI1, if_neg y]
        rfl
      obtain ⟨T1, q1, q4⟩ := dn X ⟨fun c g y1 y2 y3 y4 y5 => by rw [xI c g (by omega), s2 c g (by omega)], fun c g _ => by rw [hX]; exact s3 c g⟩
      rcases q4 with ⟨S'', T', z1, z2, z3, z4, z5, z6, z7, z8⟩ | ⟨v', _, C', _, z1, _⟩
      · have ra := rr (ev_tick S') X hX (s2 _ _ (by omega)) T1 _ q1 z2
        refine ⟨D, ev_pI T' 621 0 2, fun K => la_28 (c := 2) (b := 0) hL hj (by rw [← ha0, ← ha1]; exact lw_28_x1 a0 a1 cl) (by rw [← ha0, ← ha1]; exact ra) rd_eq (fun z => absurd z (by decide)), ?_⟩
        have gI : ∀ c g, ¬ (269 ≤ c ∧ c ≤ 283) → ¬ (c = 621 ∧ (g = 0 ∨ (73 ≤ g ∧ g ≤ 105) ∨ g = 113)) → ¬ (678 ≤ c ∧ c ≤ 699) → ¬ (702 ≤ c ∧ c ≤ 706) → (ev_pI T' 621 0 2).1 c g = S.1 c g := fun c g y1 y2 y3 y4 => by rw [sp_pI1, if_neg (by omega), z8.1 c g (by omega) y3 y4, xI c g (by omega), s2 c g y1]
        have gL : ∀ c g, (ev_pI T' 621 0 2).2.1 c g = S.2.1 c g := fun c g => by
          show T'.2.1 c g = _
          rw [z8.2.1, hX]
          exact s3 c g
        have gR : ∀ c g, c ≠ 281 → (ev_pI T' 621 0 2).2.2.1 c g = S.2.2.1 c g := fun c g y => by
          show T'.2.2.1 c g = _
          rw [z8.2.2.1, hX]
          exact s4 c g y
        have gN : (ev_pI T' 621 0 2).2.2.2 = (ev_tick S').2.2.2 := by
          show T'.2.2.2 = _
          rw [z8.2.2.2, hX]
          rfl
        have hNn : ev_sN (ev_pI T' 621 0 2) = ev_sN S := by
          unfold ev_sN
          rw [gN, ← s5]
          rfl
        have hCc : ev_sC (ev_pI T' 621 0 2) ≤ ev_sC S + 1 := by
          unfold ev_sC
          rw [gN, ← s5]
          exact Nat.le_refl _
        have hZz : ev_sZ (ev_pI T' 621 0 2) ≤ ev_sZ S + 6 := by
          unfold ev_sZ
          rw [gN, ← s5]
          exact Nat.le_refl _
        refine ⟨LG_of_g (L2_mono_g (by omega) (L2_c2_g (L2_of_g hLG) (fun k g hk => gI k g (by omega) (by omega) (by omega) (by omega)) (fun a j ha => gR a j (by omega)) hNn (fun k g hk => gI k g (by omega) (by omega) (by omega) (by omega)))), B8_c h8 (fun b hb => gI _ _ (by omega) (by omega) (by omega) (by omega)) (gI _ _ (by omega) (by omega) (by omega) (by omega)) (fun g => gI _ _ (by omega) (by omega) (by omega) (by omega)), RR_c hRR (fun c g y => gI c g (by omega) (by omega) (by omega) (by omega)), RM_c hRM (fun c g y => gI c g (by omega) (by omega) (by omega) (by omega)) r6, fun c g y1 y2 => ?_, fun c g _ => gL c g, fun c g _ _ y => gR c g y, by omega, by omega⟩
        unfold sp_W20 at y2
        exact gI c g (by omega) (by omega) (by omega) (by omega)
      · have z := s1.symm.trans z1
        have z := congrArg Prod.fst (Option.some.inj z)
        exact absurd z (by intro h; cases h)
    · rw [hg, hb, s1] at cl
      rw [← hg, ← hb] at cl
      obtain ⟨X, hX⟩ : ∃ X, X = ev_pI (ev_pL C 723 0 (ev_i2l v)) 621 0 0 := ⟨_, rfl⟩
      have xI : ∀ c g, ¬ (c = 621 ∧ g = 0) → X.1 c g = C.1 c g := fun c g y => by
        rw [hX, sp_pI1, if_neg y]
        rfl
      have xL : ∀ c g, X.2.1 c g = if c = 723 ∧ g = 0 then ev_i2l v else S.2.1 c g := fun c g => by
        rw [hX, sp_pI2, sp_pL2, s4]
      have xR : X.2.2 = C.2.2 := by
        rw [hX]
        rfl
      have xC : ∀ c g, 621 ≤ c → c < 723 → ¬ (c = 621 ∧ g = 0) → X.1 c g = S.1 c g := fun c g y1 y2 y3 => by rw [xI c g y3, s3 c g (by omega) (by omega) (by omega) (by omega) (by omega)]
      obtain ⟨T1, q1, q4⟩ := dn X ⟨fun c g y1 y2 y3 y4 y5 => xC c g y1 y2 (by omega), fun c g y => by rw [xL, if_neg (fun z => y z.1)]⟩
      rcases q4 with ⟨S'', _, z1, _⟩ | ⟨v', D', C', T5, z1, z2, z5, z6, z7, z8, z9, z10, z11⟩
      · have z := congrArg Prod.fst (Option.some.inj (s1.symm.trans z1))
        exact absurd z (by intro h; cases h)
      · have zb : C = C' := congrArg Prod.snd (Option.some.inj (s1.symm.trans z1))
        have za : v = v' := Sum.inl.inj (congrArg Prod.fst (Option.some.inj (s1.symm.trans z1)))
        subst za
        subst zb
        have ra := rr (ev_pL C 723 0 (ev_i2l v)) X hX (s3 _ _ (by omega) (by omega) (by omega) (by omega) (by omega)) T1 _ q1 z2
        have t5X : ∀ c g, ¬ (c = 621 ∧ ((73 ≤ g ∧ g ≤ 105) ∨ g = 113 ∨ g = 125 ∨ g = 126 ∨ g = 128 ∨ g = 130 ∨ g = 131)) → ¬ (678 ≤ c ∧ c ≤ 699) → ¬ (702 ≤ c ∧ c ≤ 708) → c ≠ 710 → ¬ (712 ≤ c ∧ c ≤ 715) → T5.1 c g = X.1 c g := z7.1
        have t5C : ∀ c g, c < 621 ∨ 723 ≤ c → T5.1 c g = C.1 c g := fun c g y1 => by rw [t5X c g (by omega) (by omega) (by omega) (by omega) (by omega), xI c g (by omega)]
        have t5R : ∀ c g, T5.2.2.1 c g = C.2.2.1 c g := fun c g => by rw [z7.2.2.1, xR]
        have t5N : T5.2.2.2 = C.2.2.2 := by rw [z7.2.2.2, xR]
        have t5L : ∀ c g, T5.2.1 c g = if c = 723 ∧ g = 0 then ev_i2l v else S.2.1 c g := fun c g => by rw [z7.2.1, xL]
        have gI : ∀ c g, c < 724 → ¬ (269 ≤ c ∧ c ≤ 283) → c ≠ 258 → ¬ (261 ≤ c ∧ c ≤ 268) → ¬ (c = 254 ∧ 9 ≤ g ∧ g ≤ 13) → ¬ (c = 621 ∧ (g = 0 ∨ (73 ≤ g ∧ g ≤ 105) ∨ g = 113 ∨ g = 125 ∨ g = 126 ∨ g = 128 ∨ g = 130 ∨ g = 131)) → ¬ (678 ≤ c ∧ c ≤ 699) → ¬ (702 ≤ c ∧ c ≤ 708) → c ≠ 710 → ¬ (712 ≤ c ∧ c ≤ 715) → T5.1 c g = S.1 c g := fun c g y1 y2 y3 y4 y5 y6 y7 y8 y9 y10 => by rw [t5X c g (by omega) y7 y8 y9 y10, xI c g (by omega), s3 c g y1 y2 y3 y4 y5]
        have o0 : T5.1 621 0 = 0 := by rw [t5X 621 0 (by omega) (by omega) (by omega) (by omega) (by omega), hX, rd_eq]
        refine ⟨D', T5, fun K => la_28 (c := 0) (b := v) hL hj (by rw [← ha0, ← ha1]; exact lw_28_ok a0 a1 cl) (by rw [← ha0, ← ha1]; exact ra) o0 (fun _ => by rw [t5L, if_pos ⟨rfl, rfl⟩]), LG_of_g (L2_c2_g z5 (fun k g hk => t5C k g (by omega)) (fun a j _ => t5R a j) (by unfold ev_sN; rw [t5N]) (fun _ _ _ => rfl)), B8_c z6 (fun b hb => t5C _ _ (by omega)) (t5C _ _ (by omega)) (fun _ => rfl), RR_c hRR (fun c g y => gI c g (by omega) (by omega) (by omega) (by omega) (by omega) (by omega) (by omega) (by omega) (by omega) (by omega)), RM_c hRM (fun c g y => gI c g (by omega) (by omega) (by omega) (by omega) (by omega) (by omega) (by omega) (by omega) (by omega) (by omega)) r6, fun c g y1 y2 => ?_, fun c g y => by rw [t5L, if_neg (fun z => y z.1)], fun c g y1 y2 y3 => by rw [t5R]; exact s5 c g y1 y2 y3, ?_, ?_⟩
        · unfold sp_W20 at y2
          exact gI c g y1 (by omega) (by omega) (by omega) (by omega) (by omega) (by omega) (by omega) (by omega) (by omega)
        · have q := s6.1
          unfold ev_sC ev_sN at q ⊢
          rw [t5N]
          omega
        · have q := s6.2
          unfold ev_sZ ev_sN at q ⊢
          rw [t5N]
          omega
  · refine ⟨D, ev_pI (ev_tick S) 621 0 1, fun K => la_28 (c := 1) (b := 0) hL hj (by rw [← ha0, ← ha1]; exact lw_28_x0 a0 a1 (cl.2 hv)) (by rw [← ha0, ← ha1]; exact (rf (ev_tick S) rfl).2 hv) rd_eq (fun z => absurd z (by decide)), rp_no_g hn hLG h8 hRR hRM (fun c g y1 y2 y3 y4 => by rw [sp_pI1, if_neg (by omega)]; rfl) (fun c g _ => rfl) (fun c g _ => rfl) rfl (Nat.le_refl _) (Nat.le_refl _)⟩
end OSR
section OSS
variable {Q L j : Nat} {xs : Nat → Int32} {S S2 A B : ev_St} {n : Int} {D : lg_D}
theorem LG_M_g (h : LG_g n D S) (hF : sp_F sp_Wm S S2) (hM : sp_MR S2) : LG_g n D S2 := by
  obtain ⟨h1, ⟨c1, ⟨c2, c3, c4⟩, c5, c6, c7, c8, c9⟩, h3, h4, h5⟩ := h
  have f : ∀ c g, c ≠ 256 → c ≠ 257 → c ≠ 258 → ¬ (c = 254 ∧ g = 4) → ¬ (709 ≤ c ∧ c ≤ 711) → ¬ (c = 621 ∧ (g = 0 ∨ g = 121)) → S2.1 c g = S.1 c g := fun c g y1 y2 y3 y4 y5 y6 => hF.1 c g (by unfold sp_Wm; omega)
  have e714 : S2.1 714 = S.1 714 := funext fun g => f 714 g (by omega) (by omega) (by omega) (by omega) (by omega) (by omega)
  have eE : lg_E S2 = lg_E S := by
    unfold lg_E
    rw [e714, f 254 12 (by omega) (by omega) (by omega) (by omega) (by omega) (by omega), f 254 13 (by omega) (by omega) (by omega) (by omega) (by omega) (by omega), f 254 9 (by omega) (by omega) (by omega) (by omega) (by omega) (by omega)]
  have hR : RGs S S2 := fun a j _ => by rw [hF.2.2.1]
  have hN : ev_sN S2 = ev_sN S := hF.2.2.2.2.1
  unfold LG_g
  rw [eE, f 254 9 (by omega) (by omega) (by omega) (by omega) (by omega) (by omega), f 254 13 (by omega) (by omega) (by omega) (by omega) (by omega) (by omega), f 621 125 (by omega) (by omega) (by omega) (by omega) (by omega) (by omega), f 621 128 (by omega) (by omega) (by omega) (by omega) (by omega) (by omega), e714]
  refine ⟨sp_LR_F h1 hF (fun g y => by unfold sp_Wm; omega) (fun g y => by unfold sp_Wm; omega) (fun g => by unfold sp_Wm; omega) (fun g => by unfold sp_Wm; omega), ⟨c1, ⟨(f 254 9 (by omega) (by omega) (by omega) (by omega) (by omega) (by omega)).trans c2, (f 254 10 (by omega) (by omega) (by omega) (by omega) (by omega) (by omega)).trans c3, fun b hb => by rw [f _ _ (by omega) (by omega) (by omega) (by omega) (by omega) (by omega), c4 b hb]⟩, lg_W_c2 c5 hR hN, t2_B_c_g c6 (fun b g h1 h2 => f b g (by omega) (by omega) (by omega) (by omega) (by omega) (by omega)) (fun b g hb => f b g (by omega) (by omega) (by omega) (by omega) (by omega) (by omega)), hM, c8, lg_H_c2_g c9 c5 hR (fun k g hk => f k g (by omega) (by omega) (by omega) (by omega) (by omega) (by omega)) (fun k g hk => f k g (by omega) (by omega) (by omega) (by omega) (by omega) (by omega))⟩, h3, h4, fun g hg => ?_⟩
  rw [f 261 g (by omega) (by omega) (by omega) (by omega) (by omega) (by omega), f 715 g (by omega) (by omega) (by omega) (by omega) (by omega) (by omega)]
  exact h5 g hg
theorem LG_O_g (h : LG_g n D S) (hLR : sp_LR n S2) (f : ∀ c g, ¬ (c = 254 ∧ g = 14) → ¬ (c = 621 ∧ (g = 0 ∨ g = 132)) → S2.1 c g = S.1 c g) (hR : S2.2.2.1 = S.2.2.1) (hN : ev_sN S2 = ev_sN S) : LG_g n D S2 := by
  obtain ⟨h1, h2, h3, h4, h5⟩ := h
  have e714 : S2.1 714 = S.1 714 := funext fun g => f 714 g (by omega) (by omega)
  have eE : lg_E S2 = lg_E S := by
    unfold lg_E
    rw [e714, f 254 12 (by omega) (by omega), f 254 13 (by omega) (by omega), f 254 9 (by omega) (by omega)]
  unfold LG_g
  rw [eE, f 254 9 (by omega) (by omega), f 254 13 (by omega) (by omega), f 621 125 (by omega) (by omega), f 621 128 (by omega) (by omega), e714]
  refine ⟨hLR, lg_C_c_g h2 (fun k g hk => f k g (by omega) (by omega)) hR hN (fun k g hk => f k g (by omega) (by omega)), h3, h4, fun g hg => ?_⟩
  rw [f 261 g (by omega) (by omega), f 715 g (by omega) (by omega)]
  exact h5 g hg
theorem op_23L_g (hG : LG_g n D S) (h8 : B8 D S S) (hL : L ≤ 3072) (hj : j + 6 ≤ L) : ∃ S2, (∀ K, ja_1732 Q L xs K S = K S2) ∧ LG_g n D S2 ∧ B8 D S2 S2 ∧ sp_F sp_Wl S S2 := by
  obtain ⟨S2, k1, k2, k3⟩ := op_23 (Q := Q) (xs := xs) hG.1 hL hj
  obtain ⟨⟨g1, g2, g3, g4⟩, ⟨g5, g6, g7, g8, g9⟩, g10, _⟩ := hG.1
  by_cases h : S.1 254 14 = 0
  · have e := det k1 (fun K => op_23_ok (Q := Q) (xs := xs) h (by omega) g1.symm hL hj K)
    have f : ∀ c g, ¬ (c = 254 ∧ g = 14) → ¬ (c = 621 ∧ (g = 0 ∨ g = 132)) → S2.1 c g = S.1 c g := fun c g y1 y2 => by
      rw [e, sp_pI1, if_neg (by omega), sp_pI1, if_neg (by omega), sp_pL1, sp_pI1, if_neg y1]
    exact ⟨S2, k1, LG_O_g hG k2 f k3.2.2.1 k3.2.2.2.2.1, B8_O h8 f, k3⟩
  · have e := det k1 (fun K => op_23_no (Q := Q) (xs := xs) h (by omega) hL hj K)
    have f : ∀ c g, ¬ (c = 254 ∧ g = 14) → ¬ (c = 621 ∧ (g = 0 ∨ g = 132)) → S2.1 c g = S.1 c g := fun c g y1 y2 => by
      rw [e, sp_pI1, if_neg (by omega)]
      rfl
    exact ⟨S2, k1, LG_O_g hG k2 f k3.2.2.1 k3.2.2.2.2.1, B8_O h8 f, k3⟩
theorem op_24L_g (hn : n ≤ 512) (hG : LG_g n D S) (h8 : B8 D S S) (hL : L ≤ 3072) (hj : j + 6 ≤ L) : ∃ S2, (∀ K, ja_1776 Q L xs K S = K S2) ∧ LG_g n D S2 ∧ B8 D S2 S2 ∧ sp_F sp_Wl S S2 := by
  obtain ⟨S2, k1, k2, k3⟩ := op_24 (Q := Q) (xs := xs) (n := n) (by omega) hG.1 hL hj
  have hG0 := hG
  obtain ⟨⟨⟨g1, g2, g3, g4⟩, ⟨g5, g6, g7, g8, g9⟩, g10, g11, g12, g13, g14⟩, hC, hE, ⟨h125, h128⟩, h261⟩ := hG
  by_cases h : S.1 254 14 = 0
  · have e := det k1 (fun K => la_24 (Q := Q) (xs := xs) (K := K) (c := 1) (b := 0) hL hj (lw_24_x0 (sp_190_no h)) (sp_355_no (S := ev_tick S) (by rw [sp_tick1]; omega)) (by simp [sp_pI1]) (fun q => by cases q))
    have f : ∀ c g, ¬ (c = 254 ∧ g = 14) → ¬ (c = 621 ∧ (g = 0 ∨ g = 132)) → S2.1 c g = S.1 c g := fun c g y1 y2 => by
      rw [e, sp_pI1, if_neg (by omega)]
      rfl
    exact ⟨S2, k1, LG_O_g hG0 k2 f k3.2.2.1 k3.2.2.2.2.1, B8_O h8 f, k3⟩
  · by_cases h0 : S.1 254 11 = 0
    · have e := det k1 (fun K => la_24 (Q := Q) (xs := xs) (K := K) (c := 0) (b := S.1 254 12) hL hj (lw_24_ok (sp_190_0 h h0)) ((sp_355_0 (S := ev_pL (ev_pI S 254 14 0) 723 0 (ev_i2l (S.1 254 12))) (by simp [sp_pI1, sp_pL1]; omega) (by simp [sp_pI1, sp_pL1]; omega)).trans (by simp [sp_pI1, sp_pL1, g1]; rfl)) (by simp [sp_pI1]) (fun _ => by simp [sp_pI2, sp_pL2]))
      have f : ∀ c g, ¬ (c = 254 ∧ g = 14) → ¬ (c = 621 ∧ (g = 0 ∨ g = 132)) → S2.1 c g = S.1 c g := fun c g y1 y2 => by
        rw [e, sp_pI1, if_neg (by omega), sp_pI1, if_neg (by omega), sp_pL1, sp_pI1, if_neg y1]
      exact ⟨S2, k1, LG_O_g hG0 k2 f k3.2.2.1 k3.2.2.2.2.1, B8_O h8 f, k3⟩
    · obtain ⟨y1, y2⟩ := g11 (by omega)
      obtain ⟨y3, y4⟩ := g12 y1
      have e2 := sp_355_1 (Q := Q) (S := ev_pL (sp_shC S) 723 0 (ev_i2l (S.1 254 12 + 1))) (by unfold sp_shC; simp [sp_pI1, sp_pL1]; omega) (by unfold sp_shC; simp [sp_pI1, sp_pL1]; omega) (by unfold sp_shC; simp [sp_pI1, sp_pL1]; omega)
      have e3 : (ev_pL (sp_shC S) 723 0 (ev_i2l (S.1 254 12 + 1))).1 621 130 + 1 = S.1 254 12 + 1 := by
        unfold sp_shC
        simp [sp_pI1, sp_pL1]
        omega
      rw [e3] at e2
      have e := det k1 (fun K => la_24 (Q := Q) (xs := xs) (K := K) (c := 0) (b := S.1 254 12 + 1) hL hj (lw_24_ok (sp_190_1 h h0 ⟨g5, by omega⟩)) e2 (by unfold sp_shR; simp [sp_pI1]) (fun _ => by unfold sp_shR; simp [sp_pI2, sp_pL2]))
      have v714 : ∀ g : Nat, S2.1 714 g = if g = (S.1 254 12).toNat then S.1 254 9 else S.1 714 g := fun g => by
        rw [e]
        unfold sp_shR sp_shC
        simp [sp_pI1, sp_pL1, g1, y3]
      have v715 : ∀ g : Nat, S2.1 715 g = if g = (S.1 254 12).toNat then S.1 621 128 else S.1 715 g := fun g => by
        rw [e]
        unfold sp_shR sp_shC
        simp [sp_pI1, sp_pL1, g1]
      have v261 : ∀ g : Nat, S2.1 261 g = if g = (S.1 254 12).toNat then S.1 254 11 else S.1 261 g := fun g => by
        rw [e]
        unfold sp_shR sp_shC
        simp [sp_pI1, sp_pL1]
      have f : ∀ c g, ¬ (c = 254 ∧ 11 ≤ g ∧ g ≤ 14) → ¬ (c = 621 ∧ (g = 0 ∨ g = 126 ∨ (130 ≤ g ∧ g ≤ 132))) → c ≠ 261 → c ≠ 714 → c ≠ 715 → S2.1 c g = S.1 c g := fun c g y1 y2 y3 y4 y5 => k3.1 c g (by unfold sp_Wl; omega)
      have v12 : S2.1 254 12 = S.1 254 12 + 1 ∧ S2.1 254 13 = S.1 254 12 + 1 := by
        rw [e]
        unfold sp_shR sp_shC
        simp [sp_pI1, sp_pL1]
      have eE : lg_E S2 = lg_E S := by
        unfold lg_E
        rw [v12.1, v12.2, if_pos rfl, if_pos y1, f 254 9 (by omega) (by omega) (by omega) (by omega) (by omega)]
      have eE9 : lg_E S = S.1 254 9 := by
        unfold lg_E
        rw [if_pos y1]
      have c9 := hC.2.1.1
      refine ⟨S2, k1, ?_, ⟨fun b hb => by rw [f _ _ (by omega) (by omega) (by omega) (by omega) (by omega)]; exact h8.1 b hb, h8.2.1, fun g hg b hb => ?_⟩, k3⟩
      · unfold LG_g
        rw [eE, v12.2, f 254 9 (by omega) (by omega) (by omega) (by omega) (by omega), f 621 125 (by omega) (by omega) (by omega) (by omega) (by omega), f 621 128 (by omega) (by omega) (by omega) (by omega) (by omega)]
        refine ⟨k2, lg_C_c_g hC (fun k g hk => f k g (by omega) (by omega) (by omega) (by omega) (by omega)) k3.2.2.1 k3.2.2.2.2.1 (fun k g hk => f k g (by omega) (by omega) (by omega) (by omega) (by omega)), hE, ⟨h125, h128⟩, fun g hg => ?_⟩
        rw [v261, v715, v714]
        by_cases z : g = (S.1 254 12).toNat
        · rw [if_pos z, if_pos z, if_pos z]
          exact ⟨by omega, by rw [h128, eE9]⟩
        · rw [if_neg z, if_neg z, if_neg z]
          exact h261 g (by omega)
      · rw [v12.2] at hg
        rw [v714]
        by_cases z : g = (S.1 254 12).toNat
        · rw [if_pos z, ← hC.2.1.2.2 b hb]
          exact h8.1 b hb
        · rw [if_neg z]
          exact h8.2.2 g (by omega) b hb
theorem B8_u_g (h : LG_g n D S) (h2 : LG_g n D S2) (h8 : B8 D S S) (hF : sp_F sp_Wu S S2) : B8 D S2 S2 := by
  obtain ⟨⟨⟨g1, g2, g3, g4⟩, ⟨g5, g6, g7, g8, g9⟩, g10, g11, g12, g13, g14⟩, hC, hE, h125, h261⟩ := h
  obtain ⟨⟨⟨r1, r2, r3, r4⟩, ⟨r5, r6, r7, r8, r9⟩, r10, r11, r12, r13, r14⟩, rC, rE, r125, r261⟩ := h2
  have f : ∀ c g, ¬ (c = 254 ∧ (g = 9 ∨ g = 10 ∨ g = 12)) → ¬ (c = 621 ∧ (g = 0 ∨ g = 130)) → c ≠ 258 → ¬ (262 ≤ c ∧ c ≤ 268) → c ≠ 707 → c ≠ 708 → c ≠ 710 → S2.1 c g = S.1 c g := fun c g y1 y2 y3 y4 y5 y6 y7 => hF.1 c g (by unfold sp_Wu; omega)
  have e714 : S2.1 714 = S.1 714 := funext fun g => f 714 g (by omega) (by omega) (by omega) (by omega) (by omega) (by omega) (by omega)
  have e11 := f 254 11 (by omega) (by omega) (by omega) (by omega) (by omega) (by omega) (by omega)
  have e13 := f 254 13 (by omega) (by omega) (by omega) (by omega) (by omega) (by omega) (by omega)
  refine ⟨fun b hb => ?_, h8.2.1, fun g hg b hb => ?_⟩
  · rw [rC.2.1.2.2 b hb]
    by_cases z : 0 < S.1 254 11
    · have q1 := g11 z
      have q2 := r11 (by omega)
      have q3 : S2.1 254 12 = S.1 254 12 := by omega
      have q4 : S2.1 254 9 = S.1 254 9 := by rw [r13, g13, e714, q3, e11]
      rw [q4, ← hC.2.1.2.2 b hb]
      exact h8.1 b hb
    · have q4 : S2.1 254 9 = sp_bs (S.1 714) (S2.1 254 12) := by rw [r13, e714]; omega
      rw [q4]
      by_cases w : S2.1 254 12 = 0
      · have e0 : sp_bs (S.1 714) 0 = 0 := rfl
        rw [w, e0]
        exact h8.2.1 b hb
      · have e1 : sp_bs (S.1 714) (S2.1 254 12) = S.1 714 (S2.1 254 12 - 1).toNat := if_neg w
        rw [e1]
        exact h8.2.2 _ (by omega) b hb
  · rw [e714]
    rw [e13] at hg
    exact h8.2.2 g hg b hb
end OSS
