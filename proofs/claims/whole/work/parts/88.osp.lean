/-! PLAY: a macro's replacements, on both sides -/
section OSP
variable {Q p k t m b G cnt : Nat} {n : Int} {S S1 S2 S' T T1 T2 T' U V W X C : ev_St}
theorem pl_ind (hQ : 40000000000 ≤ Q) (hK : sp_PT S) (hTR : sp_TR S) (hP : PLY S G cnt) (hb : b < 3) (hn0 : n ≤ 512) : ∀ (r i q q' len c0 : Nat) (o0 x : Int) (U T : ev_St), i + r = cnt → r < q → r < q' → TXW len c0 o0 S U → c0 ≤ 81 * i → (0 ≤ o0 ∧ o0 ≤ 80 * (i : Int)) → (0 ≤ x ∧ x ≤ 81 * (i : Int)) → RFw S T → T.1 621 73 = (len : Int) → (∀ j, j < len → T.1 678 j = U.1 271 j) → (∃ S' T' : ev_St, jl_194_64 Q (G : Int) (b : Int) q (305 + G) x (i : Int) U = some (.inr "java/lang/IllegalStateException", ev_tick S') ∧ jl_361_50 Q (G : Int) (b : Int) q' (30 * (G : Int) + 3 * (i : Int)) T = some (0, ev_pI T' 621 0 2) ∧ FCm U S' ∧ FRm T T') ∨ (∃ (SF TF : ev_St) (c1 s1 : Nat), jl_194_64 Q (G : Int) (b : Int) q (305 + G) x (i : Int) U = (ev_bd (jm_47 Q 255 (b : Int) SF) fun _ s => some (.inl (x + (c1 : Int)), s)) ∧ jl_361_50 Q (G : Int) (b : Int) q' (30 * (G : Int) + 3 * (i : Int)) T = jl_361_127 Q (G : Int) (b : Int) Q 0 (30 * (G : Int)) TF ∧ FCm U SF ∧ FRm T TF ∧ (SF.1 269 9 = ((c0 + c1 : Nat) : Int) ∧ SF.1 269 10 = o0 + (s1 : Int)) ∧ (∀ c g, 277 ≤ c → c ≤ 279 → g < c0 → SF.1 c g = U.1 c g) ∧ (∀ g : Nat, (g : Int) < o0 → SF.1 280 g = U.1 280 g) ∧ (c1 ≤ 81 * r ∧ s1 ≤ 80 * r) ∧ ∀ (q1 q2 : Nat) (y : Int) (C T2 : ev_St) (cc E : Nat) (D : lg_D), 81 * r + 1 < q1 → r < q2 → (0 ≤ y ∧ y ≤ 81 * (i : Int)) → RFw S T2 → lg_T n D E cc C T2 → C.1 (263 + 2 * b) 1 = (len : Int) → (∀ g, g < len → T2.1 708 (200 * b + g) = U.1 271 g) → SF.1 269 9 ≤ C.1 269 9 → (∀ c g : Nat, 277 ≤ c → c ≤ 279 → (g : Int) < SF.1 269 9 → C.1 c g = SF.1 c g) → (∀ g : Nat, (g : Int) < SF.1 269 10 → C.1 280 g = SF.1 280 g) → (cc : Int) + 81 * r < 420000 → dS D cc + 160 * r ≤ 840000 → ∃ (E' : Nat) (D' : lg_D) (C' T3 : ev_St), jl_47_5 Q 255 (b : Int) q1 o0 (c0 : Int) C = jl_47_5 Q 255 (b : Int) (q1 - c1) (o0 + (s1 : Int)) ((c0 + c1 : Nat) : Int) C' ∧ jl_361_127 Q (G : Int) (b : Int) q2 y (30 * (G : Int) + 3 * (i : Int)) T2 = (ev_bd (jm_345 Q T3) fun _ s => some (y + (c1 : Int), s)) ∧ lg_T n D' E' (cc + c1) C' T3 ∧ ((c1 = 0 ∧ E' = E ∧ D' = D ∧ C' = C ∧ FRm T2 T3) ∨ EDn E' (cc + c1) C' T3) ∧ eg_C C C' ∧ FRpl T2 T3 ∧ C'.1 (263 + 2 * b) 1 ≤ 80 ∧ (∀ k, k ≤ cc → ∀ b', dL D' k b' = dL D k b') ∧ (∀ b', b' ≠ b → dL D' (cc + c1) b' = dL D cc b') ∧ dS D' (cc + c1) ≤ dS D cc + 160 * r) := fun r => by
  obtain ⟨⟨hG, h10⟩, ⟨h311, h716⟩, hrows⟩ := hP
  obtain ⟨k1, k2, _⟩ := hK.1
  obtain ⟨t1, t2⟩ := hTR.1
  have m716 : ∀ T, RFw S T → T.1 716 G = (cnt : Int) := fun T h => (h.1 716 G (by omega) (by omega) (by omega) (by omega) (by omega)).trans h716
  have m717 : ∀ T, RFw S T → ∀ g, T.1 717 g = S.1 717 g := fun T h g => h.1 717 g (by omega) (by omega) (by omega) (by omega) (by omega)
  induction r with
  | zero =>
    intro i q q' len c0 o0 x U T h1 h2 h3 hU hc ho hx hT t73 tx
    obtain ⟨q, rfl⟩ : ∃ r, q = r + 1 := ⟨q - 1, by omega⟩
    obtain ⟨q', rfl⟩ : ∃ r, q' = r + 1 := ⟨q' - 1, by omega⟩
    have e : i = cnt := by omega
    subst e
    have u6 := hU.2.2.2.2.2.1
    refine Or.inr ⟨U, T, 0, 0, ?_, pl_Re hG h10 (m716 T hT), ⟨fun _ _ _ => rfl, fun _ _ => rfl, fun _ _ _ => rfl, rfl⟩, ⟨fun _ _ _ _ _ => rfl, fun _ _ => rfl, fun _ _ => rfl, rfl⟩, ⟨hU.2.2.2.1, by rw [hU.2.2.2.2.1]; omega⟩, fun _ _ _ _ _ => rfl, fun _ _ => rfl, ⟨Nat.le_refl _, Nat.le_refl _⟩, ?_⟩
    · rw [pl_Ce hG (by rw [u6 311 _ (by omega) (by omega)]; exact h311), show x + ((0 : Nat) : Int) = x by omega]
    · intro q1 q2 y C T2 cc E D g1 g2 g3 g4 g5 g6 g7 g8 g9 g10 g11 g12
      obtain ⟨q2, rfl⟩ : ∃ r, q2 = r + 1 := ⟨q2 - 1, by omega⟩
      refine ⟨E, D, C, T2, ?_, ?_, g5, Or.inl ⟨rfl, rfl, rfl, rfl, FRm_r⟩, eg_C_r, FRpl_r, ?_, fun _ _ _ => rfl, fun _ _ => rfl, ?_⟩
      · rw [Nat.sub_zero, Nat.add_zero, show o0 + ((0 : Nat) : Int) = o0 by omega]
      · rw [pl_Me hG h10 (m716 T2 g4), show y + ((0 : Nat) : Int) = y by omega]
      · have := hU.1
        omega
      · rw [Nat.add_zero]
        omega
  | succ r ih =>
    intro i q q' len c0 o0 x U T h1 h2 h3 hU hc ho hx hT t73 tx
    obtain ⟨q, rfl⟩ : ∃ r, q = r + 1 := ⟨q - 1, by omega⟩
    obtain ⟨q', rfl⟩ : ∃ r, q' = r + 1 := ⟨q' - 1, by omega⟩
    have hi : i < cnt := by omega
    obtain ⟨p, t, ⟨hp, ht⟩, ⟨r0, r1⟩, r2, r3, r4⟩ := hrows i hi
    have u6 := hU.2.2.2.2.2.1
    obtain ⟨lim, hlim⟩ : ∃ lim, lim = S.1 (305 + G) (3 * i + 2) := ⟨_, rfl⟩
    have eC := pl_C (Q := Q) (b := b) (q := q) (u0 := x) ⟨k1, k2⟩ ⟨t1, t2⟩ hG h10 h311 hi hp ht r0 r1 u6
    rw [← hlim] at eC
    have eR := pl_R (Q := Q) (b := b) (q := q') (p := p) (t := t) (lim := lim) (T := T) hG h10 (m716 T hT) hi (by rw [m717 T hT]; exact r2) (by rw [m717 T hT]; exact r3) (by rw [m717 T hT, hlim]; exact r4)
    obtain ⟨v, S1, T', p1, p2, p3, p4, p5⟩ := trial1 (lim := lim) hQ hK hTR hp ht hU (by omega) (by omega) hT t73 tx
    rw [p1, sp_bd] at eC
    rw [p2, sp_bd] at eR
    rcases p5 with y | ⟨m, s, L, T1, y1, y2, y3, y4, y5, y6, y7⟩
    · subst y
      rw [if_neg (fun z => z rfl)] at eC eR
      exact Or.inl ⟨S1, T', eC, eR, p3, p4⟩
    · subst y1
      have hv : (m : Int) ≠ -1 := by omega
      have m81 := y4.1.1
      have s80 := y4.1.2
      rw [if_pos hv, sp_ck (by omega), sp_ck (by omega), show (i : Int) + 1 = ((i + 1 : Nat) : Int) by omega] at eC
      rw [if_pos hv, y2, sp_bd] at eR
      rcases ih (i + 1) q q' L (c0 + m) (o0 + (s : Int)) (x + (m : Int)) S1 T1 (by omega) (by omega) (by omega) y5 (by omega) (by omega) (by omega) (RFw_m hT y3) y6 y7 with ⟨S', T'', z1, z2, z3, z4⟩ | ⟨SF, TF, c1, s1, z1, z2, z3, z4, ⟨z5, z6⟩, z7, z8, ⟨z9, z10⟩, z11⟩
      · exact Or.inl ⟨S', T'', eC.trans z1, eR.trans z2, FCm_t p3 z3, FRm_t y3 z4⟩
      · have a9 := y4.2.1.1
        have a10 := y4.2.1.2
        refine Or.inr ⟨SF, TF, m + c1, s + s1, ?_, eR.trans z2, FCm_t p3 z3, FRm_t y3 z4, ⟨by rw [z5]; omega, by rw [z6]; omega⟩, fun c g w1 w2 w3 => (z7 c g w1 w2 (by omega)).trans (y4.2.2.1 c g w1 w2 w3), fun g w => (z8 g (by omega)).trans (y4.2.2.2 g w), ⟨by omega, by omega⟩, ?_⟩
        · rw [eC, z1, show x + (m : Int) + (c1 : Int) = x + ((m + c1 : Nat) : Int) by omega]
        · intro q1 q2 y C T2 cc E D g1 g2 g3 g4 g5 g6 g7 g8 g9 g10 g11 g12
          obtain ⟨q2, rfl⟩ : ∃ r, q2 = r + 1 := ⟨q2 - 1, by omega⟩
          obtain ⟨m', s', E1, D1, C1, V1, V2, V3, w1, w2, w3, w4, w5, w6, w7, w8, w9, w10, w11, w12, w13, w14, w15⟩ := com1 (Q := Q) (n := n) (b := b) (q := q1) (C := C) (T := T2) (cc := cc) (E := E) (D := D) (lim := lim) hQ hK hTR hp ht hU (by omega) (by omega) p1 hv g4 g5 hn0 hb g6 g7 (by omega) (fun c g f1 f2 f3 => (g9 c g f1 f2 (by omega)).trans (z7 c g f1 f2 (by omega))) (fun g f => (g10 g (by omega)).trans (z8 g (by omega))) (by omega) (by omega) (by omega)
          have em : m' = m := by omega
          subst em
          have es : s' = s := by
            have := w2.2.1.2
            omega
          subst es
          have f1 := sp_288 (Q := Q) (m := b) (T := T2) (len := len) hb (by have := hU.1; omega) (by rw [(g5.1.2.2.2.1 b hb).2.2.1]; exact g6) (by omega)
          have v717 : ∀ g, V1.1 717 g = S.1 717 g := fun g => by
            obtain ⟨V, j1, _, _, j4, _⟩ := f1
            have : V = V1 := congrArg Prod.snd (Option.some.inj (j1.symm.trans w4))
            subst this
            rw [j4 717 g (by omega) (by omega)]
            exact m717 T2 g4 g
          have eM := pl_M (Q := Q) (b := b) (q := q2) (p := p) (t := t) (lim := lim) (T := T2) (y := y) hG h10 (m716 T2 g4) hi w4 (by rw [v717]; exact r2) (by rw [v717]; exact r3) (by rw [v717, hlim]; exact r4) w5 w6 (by omega) (by omega)
          have eg : ∀ c g, 269 ≤ c → c ≤ 280 → C1.1 c g = C.1 c g := fun c g f1 f2 => w9.1 c g (by omega) (by omega) (by omega) (by omega) (by omega)
          obtain ⟨E2, D2, C2, V4, x1, x2, x3, x4, x5, x6, x7, x8, x9, x10⟩ := z11 (q1 - m') q2 (y + (m' : Int)) C1 V3 (cc + m') E1 D1 (by omega) (by omega) (by omega) (RFw_z g4 w10) w7 (w11.trans y5.2.1) (fun g hg => w15 g (by rw [y5.2.1]; omega)) (by rw [eg _ _ (by omega) (by omega)]; exact g8) (fun c g f1 f2 f3 => (eg c g (by omega) (by omega)).trans (g9 c g f1 f2 f3)) (fun g f => (eg 280 g (by omega) (by omega)).trans (g10 g f)) (by omega) (by omega)
          rw [show cc + m' + c1 = cc + (m' + c1) by omega] at x3 x4 x9 x10
          refine ⟨E2, D2, C2, V4, ?_, ?_, x3, ?_, eg_C_t w9 x5, FRpl_t w10 x6, x7, fun k hk b' => (x8 k (by omega) b').trans (w12 k hk b'), fun b' hb' => (x9 b' hb').trans (w13 b' hb'), by omega⟩
          · rw [w3, x1, show q1 - m' - c1 = q1 - (m' + c1) by omega, show c0 + m' + c1 = c0 + (m' + c1) by omega, show o0 + (s' : Int) + (s1 : Int) = o0 + ((s' + s1 : Nat) : Int) by omega]
          · rw [eM, x2, show y + (m' : Int) + (c1 : Int) = y + ((m' + c1 : Nat) : Int) by omega]
          · rcases x4 with ⟨b1, b2, b3, b4, b5⟩ | b
            · rcases w8 with ⟨d1, d2, d3, d4, d5⟩ | ⟨d1, d2, d3, d4⟩
              · exact Or.inl ⟨by omega, b2.trans d2, b3.trans d3, b4.trans d4, FRm_t d5 b5⟩
              · subst b4
                exact Or.inr ⟨by omega, d2, by rw [b5.1 621 131 (by omega) (by omega) (by omega), d3, x6.1 621 130 (by omega) (by omega) (by omega) (by omega) (by omega) (by omega)], d4⟩
            · exact Or.inr b
end OSP
