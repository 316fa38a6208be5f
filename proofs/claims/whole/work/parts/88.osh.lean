/-! MENDING: a replacement, from the text that is loaded to the edits that are made -/
section OSH
variable {Q p k t m i j len w s E b c0 : Nat} {n o0 : Int} {S S1 S2 S' T T1 T2 T' U V C : ev_St} {a c d e f v x y md lim : Int} {D : lg_D}
def RFq (S T : ev_St) : Prop := (∀ c g, 621 ≤ c → c < 723 → ¬ (c = 621 ∧ (g = 0 ∨ (73 ≤ g ∧ g ≤ 105) ∨ g = 113)) → ¬ (678 ≤ c ∧ c ≤ 699) → ¬ (702 ≤ c ∧ c ≤ 706) → T.1 c g = S.1 c g) ∧ ∀ c g, c ≠ 723 → T.2.1 c g = S.2.1 c g
/-- the same but for the buffers and their log -/
def RFw (S T : ev_St) : Prop := (∀ c g, 621 ≤ c → c < 723 → ¬ (c = 621 ∧ (g = 0 ∨ (73 ≤ g ∧ g ≤ 105) ∨ g = 113 ∨ (125 ≤ g ∧ g ≤ 131))) → ¬ (678 ≤ c ∧ c ≤ 699) → ¬ (702 ≤ c ∧ c ≤ 715) → T.1 c g = S.1 c g) ∧ ∀ c g, c ≠ 723 → T.2.1 c g = S.2.1 c g
theorem RFw_of (h : RFq S T) : RFw S T := ⟨fun c g y1 y2 y3 y4 y5 => h.1 c g y1 y2 (by omega) y4 (by omega), h.2⟩
/-- the class's text that is mended -/
theorem sp_43 (hb : b < 3) : ∃ W, jm_43 Q (263 + 2 * b + 1) S = some ((), W) ∧ W.1 270 1 = S.1 (263 + 2 * b) 1 ∧ (∀ i, i < 160 → W.1 271 i = S.1 (263 + 2 * b + 1) i) ∧ W.1 269 9 = 0 ∧ W.1 269 10 = 0 ∧ (∀ c g, c ≠ 271 → ¬ (c = 270 ∧ g = 1) → ¬ (c = 269 ∧ (g = 9 ∨ g = 10)) → W.1 c g = S.1 c g) ∧ W.2 = S.2 := by
  refine ⟨ev_pI (ev_pI (ev_pI (ev_cpI S (263 + 2 * b + 1) (270 + 1) 0 0 160) 270 1 (S.1 (263 + 2 * b) 1)) 269 9 0) 269 10 0, ?_, ?_, fun i hi => ?_, ?_, ?_, fun c g h1 h2 h3 => ?_, rfl⟩
  · unfold jm_43
    rw [sp_153 al_fl.2.2.2.2.2.2.2.2 (sp_buf b hb) (by omega), sp_bd, sp_b, sp_b]
  · rw [rd_nk (by decide), rd_nk (by decide), rd_eq]
  · rw [rd_nk (by decide), rd_nk (by decide), rd_nk (by decide), sp_cp1, if_pos ⟨rfl, by omega, by omega⟩, show 0 + (i - 0) = i by omega]
  · rw [rd_nf (by decide), rd_eq]
  · rw [rd_eq]
  · rw [sp_pI1, if_neg (by omega), sp_pI1, if_neg (by omega), sp_pI1, if_neg (by omega), sp_cp1, if_neg (by omega)]
/-- a replacement is prepared, on both sides; W: the class's state -/
theorem mend_two {W : ev_St} (hQ : 40000000000 ≤ Q) (hK : sp_PT S) (hTR : sp_TR S) (hp : (p : Int) < S.1 0 5) (ht : (t : Int) < S.1 0 7) (h80 : len ≤ 80) (w70 : W.1 270 1 = (len : Int)) (wI : ∀ c g, ¬ (269 ≤ c ∧ c ≤ 283) → c < 621 → W.1 c g = S.1 c g) (wL : ∀ c g, c ≠ 723 → W.2.1 c g = S.2.1 c g) (hT : RFw S T) (t73 : T.1 621 73 = (len : Int)) (tx : ∀ i, i < len → W.1 271 i = T.1 678 i ∧ sp_sign (W.1 271 i) = 1) : ∃ v S' T', jm_44 Q 282 (313 + 20 * p + 1) (553 + 2 * t + 1) lim W = (if v = -1 then some (-1, S') else ev_bd (jm_45 Q v S') fun _ s => some (v, s)) ∧ jm_349 Q (p : Int) (t : Int) lim T = some (v, T') ∧ FPs W S' ∧ FPt T T' ∧ (T'.1 621 73 = T.1 621 73 ∧ ∀ i, i < len → T'.1 678 i = T.1 678 i) ∧ (v = -1 ∨ ∃ m s E, v = ((m : Nat) : Int) ∧ FNL m len s E S' T') := by
  obtain ⟨k1, k2, k3⟩ := hK.1
  obtain ⟨W1, hW1⟩ : ∃ W1, W1 = ev_pI W 272 1 0 := ⟨_, rfl⟩
  obtain ⟨X, hX⟩ : ∃ X, X = ev_pI T 621 113 0 := ⟨_, rfl⟩
  have w1I : ∀ c g, ¬ (c = 272 ∧ g = 1) → W1.1 c g = W.1 c g := fun c g y => by rw [hW1, sp_pI1, if_neg y]
  have xI : ∀ c g, ¬ (c = 621 ∧ g = 113) → X.1 c g = T.1 c g := fun c g y => by rw [hX, sp_pI1, if_neg y]
  have cS : ∀ c g, ¬ (269 ≤ c ∧ c ≤ 283) → c < 621 → W1.1 c g = S.1 c g := fun c g y1 y2 => by rw [w1I c g (by omega), wI c g y1 y2]
  have rS : ∀ c g, 622 ≤ c → c < 723 → ¬ ((678 ≤ c ∧ c ≤ 699) ∨ (702 ≤ c ∧ c ≤ 715)) → X.1 c g = S.1 c g := fun c g y1 y2 y3 => by rw [xI c g (by omega), hT.1 c g (by omega) (by omega) (by omega) (by omega) (by omega)]
  have l1 : ∀ c g, c ≠ 723 → W1.2.1 c g = S.2.1 c g := fun c g y => by
    rw [hW1]
    exact wL c g y
  have hPT : sp_PT (mrg W1 X) := PT_c hK ⟨by rw [mC (by omega), cS _ _ (by omega) (by omega)], by rw [mR (by omega), xI _ _ (by omega), hT.1 _ _ (by omega) (by omega) (by omega) (by omega) (by omega)]⟩ fun q hq => ⟨fun x i x1 x2 => ⟨by rw [mC (by omega), cS _ _ (by omega) (by omega)], l1 x i (by omega)⟩, ⟨fun c g y _ _ => by rw [mR (by omega), rS _ _ (by omega) (by omega) (by omega)], fun c g y1 y2 _ _ => l1 c g (by omega), fun c y => by rw [mR (by omega), rS _ _ (by omega) (by omega) (by omega)], fun i _ => by rw [mR (by omega), rS _ _ (by omega) (by omega) (by omega)], fun i _ => by rw [mR (by omega), rS _ _ (by omega) (by omega) (by omega)]⟩, by rw [mR (by omega), rS _ _ (by omega) (by omega) (by omega)], by rw [mR (by omega), rS _ _ (by omega) (by omega) (by omega)], fun c g y1 y2 _ _ => by rw [mR (by omega), rS _ _ (by omega) (by omega) (by omega)]⟩
  obtain ⟨⟨u1, u2⟩, u3, u4⟩ := hTR
  obtain ⟨v1, v2, v3, v4⟩ := u4 t ht
  obtain ⟨nt, hnt⟩ : ∃ nt : Nat, S.1 (553 + 2 * t) 1 = (nt : Int) := ⟨(S.1 (553 + 2 * t) 1).toNat, by omega⟩
  have hPR : PRC p t len nt W1 X := by
    refine ⟨⟨hPT, by rw [cS _ _ (by omega) (by omega)]; exact hp⟩, fun c g y => ?_, ⟨by rw [w1I _ _ (by omega)]; exact w70, by rw [xI _ _ (by omega)]; exact t73, h80, fun i hi => by rw [w1I _ _ (by omega), xI _ _ (by omega)]; exact tx i hi⟩, ⟨by omega, by rw [cS _ _ (by omega) (by omega)]; exact hnt, by omega, fun g hg => ?_⟩, ?_, ?_⟩
    · rw [l1 c g y, ← hT.2 c g y, hX]
      rfl
    · rw [rS _ _ (by omega) (by omega) (by omega), cS _ _ (by omega) (by omega)]
      exact v3 g (by omega)
    · rw [rS _ _ (by omega) (by omega) (by omega), v1, hnt]
    · have ea : sp_at W1 (553 + 2 * t) = sp_at S (553 + 2 * t) := funext fun x => by
        unfold sp_at
        rw [cS _ _ (by omega) (by omega), cS _ _ (by omega) (by omega)]
      rw [ea, ← hnt]
      exact v4
  have M0 : MD 0 W1 X := ⟨by rw [hX, rd_eq]; rfl, by rw [hW1, rd_eq]; rfl, fun i h => absurd h (Nat.not_lt_zero i)⟩
  obtain ⟨v, T', p1, p2, p3, _, p5⟩ := prep (lim := lim) hQ (len + 1) 0 Q Q 0 0 0 W1 X (by omega) (by omega) (by omega) (by omega) hPR M0 (by omega) ⟨fun j h => absurd h (Nat.not_lt_zero j), fun j h => absurd h (by omega), fun _ => rfl, fun h => absurd h (Nat.lt_irrefl 0), fun j h => absurd h (Nat.not_lt_zero j)⟩ ⟨Nat.le_refl _, Nat.le_refl _, Nat.zero_le _⟩ ⟨Int.le_refl _, Int.le_refl _⟩ (fun _ j h => absurd h (Nat.not_lt_zero j))
  obtain ⟨S', s1, s2, s3⟩ := p5 (by omega)
  have g0 : (len : Int) - gsm X 0 = (len : Int) := by
    show (len : Int) - 0 = _
    omega
  rw [g0] at p1 s1
  rw [if_pos (Nat.zero_le len)] at p1
  refine ⟨v, S', T', ?_, ?_, ?_, ?_, ⟨p3.1.trans (xI _ _ (by omega)), fun i hi => (p3.2 i hi).trans (xI _ _ (by omega))⟩, s3⟩
  · unfold jm_44
    rw [sp_b, ← hW1, sp_b, w1I 270 1 (by omega), w70]
    exact s1
  · unfold jm_349
    rw [sp_b, ← hX, sp_b, xI 621 73 (by omega), t73]
    exact p1
  · refine FPs_t ⟨fun c g y1 y2 y3 => w1I c g (by omega), fun c g => ?_, fun c g _ => ?_, ?_⟩ s2
    · rw [hW1]
      rfl
    · rw [hW1]
      rfl
    · rw [hW1]
      rfl
  · refine FPt_t ⟨fun c g y1 y2 y3 y4 => xI c g (by omega), fun c g => ?_, fun c g => ?_, ?_⟩ p2
    · rw [hX]
      rfl
    · rw [hX]
      rfl
    · rw [hX]
      rfl
/-- frames of the edits -/
def FCd (S C : ev_St) : Prop := (∀ c g, c < 724 → ¬ (269 ≤ c ∧ c ≤ 280) → c ≠ 258 → ¬ (261 ≤ c ∧ c ≤ 268) → ¬ (c = 254 ∧ 9 ≤ g ∧ g ≤ 13) → C.1 c g = S.1 c g) ∧ (∀ c g, C.2.1 c g = S.2.1 c g) ∧ (∀ c j, c ≠ 259 → c ≠ 260 → C.2.2.1 c j = S.2.2.1 c j) ∧ (ev_sC C + ev_sN S = ev_sC S + ev_sN C ∧ ev_sZ C + 1024 * ev_sN S = ev_sZ S + 1024 * ev_sN C)
def FRd (T U : ev_St) : Prop := (∀ c g, c ≠ 707 → c ≠ 708 → c ≠ 710 → ¬ (712 ≤ c ∧ c ≤ 715) → ¬ (c = 621 ∧ (g = 125 ∨ g = 126 ∨ g = 128 ∨ g = 130 ∨ g = 131)) → U.1 c g = T.1 c g) ∧ U.2 = T.2
/-- the edits of one replacement alone -/
theorem edits20 (hQ : 1000 ≤ Q) (hF : FNL m len s E S T) (h80 : len ≤ 80) (h70 : S.1 270 1 = (len : Int)) (h9 : S.1 269 9 = 0) (h10 : S.1 269 10 = 0) (hL : L2 n D S T) (hn : 0 ≤ n ∧ n ≤ 511) (h8 : B8 D S T) (hb : b < 3) (hbl : S.1 (263 + 2 * b) 1 = (len : Int)) : ∃ (D' : lg_D) (C0 C T4 T5 : ev_St), jm_45 Q (m : Int) S = some ((), C0) ∧ jm_47 Q 255 (b : Int) C0 = some ((), C) ∧ jm_350 Q (b : Int) (m : Int) T = some ((), T4) ∧ jm_345 Q T4 = some ((), T5) ∧ L2 (n + 1) D' C T5 ∧ B8 D' C T5 ∧ FCd S C ∧ FRd T T5 := by
  have hF0 := hF
  obtain ⟨m81, hM, hR, hD, hE, hg, h80s⟩ := hF
  have s80 : s ≤ 80 := by omega
  obtain ⟨Q', rfl⟩ : ∃ r, Q = r + 1 := ⟨Q - 1, by omega⟩
  have m272 : S.1 272 1 = (s : Int) := by rw [hM.2.1, if_pos (by omega)]
  have e45 : jm_45 (Q' + 1) (m : Int) S = jl_45_17 (Q' + 1) (Q' + 1) (s : Int) ((m : Int) - 1) S := by
    unfold jm_45
    rw [sp_b, m272, sp_b, sp_imin2 (by omega) (by omega), if_neg (by omega), sp_ck (by omega)]
  have e350 : jm_350 (Q' + 1) (b : Int) (m : Int) T = jl_350_4 (Q' + 1) (b : Int) (Q' + 1) ((m : Int) - 1) T := by
    unfold jm_350
    rw [sp_ck (by omega)]
  obtain ⟨E0, hE1, hE2, hT⟩ := lg_T_of hL
  obtain ⟨cc, hcc⟩ : ∃ cc, (S.1 254 9).toNat = cc := ⟨_, rfl⟩
  rw [hcc] at hT
  by_cases hm : m = 0
  · subst hm
    have c45 : jm_45 (Q' + 1) ((0 : Nat) : Int) S = some ((), S) := by
      rw [e45]
      show jb_45_17 _ _ _ _ S = _
      unfold jb_45_17
      rw [if_pos (by decide)]
    have c350 : jm_350 (Q' + 1) (b : Int) ((0 : Nat) : Int) T = some ((), T) := by
      rw [e350]
      show jb_350_4 _ _ _ _ T = _
      unfold jb_350_4
      rw [if_pos (by decide)]
    have l0 : S.1 254 14 = 0 → S.1 254 11 = 0 := hL.2.2.1
    have c3 : jm_3 (Q' + 1) S = some ((), S) := by
      unfold jm_3
      rw [sp_b]
      by_cases z : S.1 254 14 ≠ 0
      · rw [if_pos z]
      · rw [if_neg z, sp_b, if_pos (l0 (Decidable.not_not.mp z))]
    have c345 : jm_345 (Q' + 1) T = some ((), T) := by
      have q1 := hL.1.2.2.1
      have q2 := hL.1.2.2.2
      unfold jm_345
      rw [sp_b]
      by_cases z : T.1 621 132 ≠ 0
      · rw [if_pos z]
      · have z' := Decidable.not_not.mp z
        have z2 := l0 (by rw [← q1]; exact z')
        rw [if_neg z]
        unfold jm_344
        rw [sp_b, if_pos (by omega), sp_bd]
    have c47 : jm_47 (Q' + 1) 255 (b : Int) S = some ((), S) := by
      show jb_47_5 (Q' + 1) 255 (b : Int) (jl_47_5 (Q' + 1) 255 (b : Int) Q') 0 0 S = _
      unfold jb_47_5
      rw [sp_b, sp_jn, if_pos (by omega)]
      try dsimp only
      rw [sp_if (by decide), c3, sp_bd]
    exact ⟨D, S, S, T, T, c45, c47, c350, c345, L2_mono (by omega) hL, h8, ⟨fun _ _ _ _ _ _ _ => rfl, fun _ _ => rfl, fun _ _ _ _ => rfl, rfl, rfl⟩, ⟨fun _ _ _ _ _ _ _ => rfl, rfl⟩⟩
  · have hm0 : 0 < m := by omega
    have s703 := (hR.2.2.2.1 hm0).2
    have z703 := (hR.2.2.2.1 hm0).1
    obtain ⟨C0, a1, a2, ⟨a3, a4⟩, a5, a6, a7, a8, _⟩ := note_all (Q := Q' + 1) (c0 := 0) (o0 := 0) hF0 h70 ⟨h80, s80⟩ (by rw [h9]; rfl) h10 (by omega) ⟨by omega, by omega⟩ hm0 m 0 (Q' + 1) S (by omega) (by omega) FRnt_r (by rw [Nat.sub_zero, s703, h70]; omega) ⟨by rw [h9]; rfl, by rw [Nat.sub_zero, s703, h10]; omega⟩ (fun i h => absurd h (Nat.not_lt_zero i)) (fun _ _ _ _ _ => rfl) (fun _ _ => rfl) (fun _ _ => rfl)
    rw [Nat.sub_zero, s703, show (m : Int) - 1 - ((0 : Nat) : Int) = (m : Int) - 1 by omega] at a1
    have c45 : jm_45 (Q' + 1) (m : Int) S = some ((), C0) := by
      rw [e45]
      exact a1
    have hcE := hT.1.1
    have hdc := lg_mono2 hT.1.2.2.2.2.2.1 hcE (Nat.le_refl _)
    have hT2 : lg_T n D E0 cc C0 T := lg_T_c2 hT (fun k g hk => a2.1 k g (by omega) (by omega) (by omega) (by omega)) (fun a j _ => by rw [a2.2]) (by unfold ev_sN; rw [a2.2]) (fun _ _ _ => rfl)
    have blen : C0.1 (263 + 2 * b) 1 = (len : Int) := by rw [a2.1 _ _ (by omega) (by omega) (by omega) (by omega)]; exact hbl
    obtain ⟨D3, C1, T4, b1, b2, b3, ⟨b4, b5, b6⟩, b7, b8, b9, b10, b11, b12, _⟩ := blk (Q := Q' + 1) (n := n) (S := C0) (T := T) (c0 := 0) (o0 := 0) (cc := cc) (D := D) (b := b) (tx := fun g => T.1 708 (200 * b + g)) hQ (by omega) hb hR hE ⟨h80, s80⟩ m81 hm0 z703 a5 (by omega) ⟨by omega, by omega⟩ (by rw [a3]; omega) (by omega) (by omega) m 0 (Q' + 1) (Q' + 1) E0 D C0 T (by omega) (by omega) (by omega) hT2 eg_C_r eg_R_r (fun h => absurd h (Nat.lt_irrefl 0)) (by rw [Nat.sub_zero, s703, blen]; omega) (fun _ _ _ => rfl) (fun _ _ => rfl) (by rw [Nat.sub_zero, s703]; show _ = _ + (_ - _) + _; rw [Nat.add_zero]; omega) (fun _ _ => rfl)
    rw [Nat.sub_zero, s703] at b1
    have b1' : jl_47_5 (Q' + 1) 255 (b : Int) (Q' + 1) 0 0 C0 = jl_47_5 (Q' + 1) 255 (b : Int) (Q' + 1 - m) (0 + (s : Int)) ((0 + m : Nat) : Int) C1 := by
      rw [← b1, show (0 : Int) + ((s : Int) - (s : Int)) = 0 by omega]
      rfl
    rw [show (m : Int) - 1 - ((0 : Nat) : Int) = (m : Int) - 1 by omega] at b2
    have c350 : jm_350 (Q' + 1) (b : Int) (m : Int) T = some ((), T4) := by
      rw [e350]
      exact b2
    obtain ⟨C, T5, d1, d2, d3, d4, d5, d6, d7, d8⟩ := lg_T_end (Q := Q' + 1) b3 hn.2 ⟨b4, b5, b6⟩ (by omega) (by rw [b12]; omega)
    have c47 : jm_47 (Q' + 1) 255 (b : Int) C0 = some ((), C) := by
      obtain ⟨q, hq⟩ : ∃ q, Q' + 1 - m = q + 1 := ⟨Q' - m, by omega⟩
      show jl_47_5 (Q' + 1) 255 (b : Int) (Q' + 1) 0 0 C0 = _
      rw [b1', hq]
      show jb_47_5 (Q' + 1) 255 (b : Int) (jl_47_5 (Q' + 1) 255 (b : Int) q) _ _ C1 = _
      have c9 : C1.1 269 9 ≤ ((0 + m : Nat) : Int) := by
        rw [b7.1 269 9 (by omega) (by omega) (by omega) (by omega) (by omega), a3]
        exact Int.le_refl _
      unfold jb_47_5
      rw [sp_b, sp_jn, if_pos c9]
      try dsimp only
      rw [sp_if (by decide), d1, sp_bd]
    have dl : ∀ b', b' < 3 → dL D3 (cc + m) b' ≤ 80 := fun b' hb' => by
      by_cases z : b' = b
      · subst z
        rw [← b3.1.2.1.2.2 b' hb', b9]
        omega
      · rw [b11 b' z, ← hT.1.2.1.2.2 b' hb']
        exact h8.1 b' hb'
    have e714 : T4.1 714 = T.1 714 := funext fun g => b8.1 714 g (by omega) (by omega) (by omega) (by omega) (by omega) (by omega)
    have e12 : C1.1 254 12 = C0.1 254 12 := b7.2.1
    have f12 : C0.1 254 12 = S.1 254 12 := a2.1 _ _ (by omega) (by omega) (by omega) (by omega)
    refine ⟨D3, C0, C, T4, T5, c45, c47, c350, d2, d3, ⟨fun b' hb' => ?_, fun b' hb' => ?_, fun g hg b' hb' => ?_⟩, ⟨fun c g y1 y2 y3 y4 y5 => ?_, fun c g => ?_, fun c j y1 y2 => ?_, ?_⟩, ⟨fun c g y1 y2 y3 y4 y5 => ?_, d8.trans b8.2⟩⟩
    · rw [d5 _ _ (by omega) (by omega), b3.1.2.1.2.2 b' hb']
      exact dl b' hb'
    · rw [b10 0 (Nat.zero_le _) b']
      exact h8.2.1 b' hb'
    · rcases d4 g hg with y | ⟨y1, y2⟩
      · rw [y, Int.toNat_natCast]
        exact dl b' hb'
      · have mn : ∀ g : Nat, (g : Int) < S.1 254 12 → T.1 714 g = sp_bs (T.1 714) g + S.1 261 g ∧ 0 ≤ S.1 261 g := fun g hg => ⟨(hT.2.2.2.2.2.2.2 g hg).1, (hT.2.2.2.2.2.2.2 g hg).2.1⟩
        have q2 := t_le mn (g := g) (by omega)
        have q3 := hT.2.2.2.2.1
        have q4 := hT.2.2.2.1.2
        rw [y2, e714, b10 _ (by omega) b']
        have q5 := hL.2.1.2.1
        exact h8.2.2 g (by omega) b' hb'
    · rw [d5 c g (by omega) (by omega), b7.1 c g y1 y3 (by omega) (by omega) (by omega), a2.1 c g (by omega) (by omega) (by omega) (by omega)]
    · rw [d6, b7.2.2.1, a2.2]
    · rw [d6, b7.2.2.2.1 c j y1 y2, a2.2]
    · have q := b7.2.2.2.2
      unfold ev_sC ev_sN ev_sZ at q ⊢
      rw [d6]
      rw [a2.2] at q
      exact q
    · rw [d7 c g (by omega) (by omega) (by omega), b8.1 c g y1 y2 y3 (by omega) (by omega) (by omega)]
end OSH
