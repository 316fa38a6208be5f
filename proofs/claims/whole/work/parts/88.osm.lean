/-! PLAY: one replacement of a macro, tried on both sides -/
section OSM
variable {Q p k t m i j len w s E b c0 : Nat} {n o0 : Int} {S S1 S2 S' T T1 T2 T' U V W X C : ev_St} {a c d e f v x y md lim : Int} {D : lg_D}
/-- the text made depends on the text before, and is of signs -/
theorem Rt_two (hF : FNL m len s E S T) {tx ty : Nat → Int} (hx : ∀ g, g < len → tx g = ty g ∧ sp_sign (tx g) = 1) (hm0 : 0 < m) : ∀ d, d ≤ m → ∀ g : Nat, (g : Int) < (len : Int) - (gsm T m - gsm T (m - d)) + ((s : Int) - T.1 703 (m - d)) → Rt T tx m d g = Rt T ty m d g ∧ sp_sign (Rt T tx m d g) = 1 := fun d => by
  obtain ⟨m81, hM, hR, hD, hE, hg, h80s⟩ := hF
  have sm : T.1 703 m = (s : Int) := (hR.2.2.2.1 hm0).2
  induction d with
  | zero =>
    intro _ g h
    rw [Nat.sub_zero, sm] at h
    exact hx g (by omega)
  | succ d ih =>
    intro hd g h
    obtain ⟨x, hx⟩ : ∃ x, x = m - 1 - d := ⟨_, rfl⟩
    have xj : m - d = x + 1 := by omega
    have xj2 : m - (d + 1) = x := by omega
    have k0 := RCT_le hR x (by omega) hm0
    have k1 := RCT_le hR (x + 1) (by omega) hm0
    have k2 := hR.2.2.2.2 x (by omega)
    have gb := gsm_be hR (x := x) (m - (x + 1)) (by omega)
    rw [show x + 1 + (m - (x + 1)) = m by omega] at gb
    have ge : gsm T (x + 1) = gsm T x + (T.1 705 x - T.1 704 x) := rfl
    obtain ⟨a, b, e1, e2, e3, e4⟩ := hR.1 x (by omega)
    rw [xj2] at h
    rw [xj] at ih
    have ih := ih (by omega)
    unfold Rt
    rw [← hx]
    by_cases z1 : (g : Int) < T.1 704 x
    · rw [if_pos z1, if_pos z1]
      exact ih g (by omega)
    · rw [if_neg z1, if_neg z1]
      by_cases z2 : (g : Int) < T.1 704 x + (T.1 703 (x + 1) - T.1 703 x)
      · rw [if_pos z2, if_pos z2]
        have hs80 : s ≤ 160 := by omega
        have q := hM.2.2 (T.1 703 x + ((g : Int) - T.1 704 x)).toNat (by omega) (by omega)
        exact ⟨rfl, by rw [← q.1]; exact q.2⟩
      · rw [if_neg z2, if_neg z2]
        exact ih _ (by omega)
/-- what is noted down, in whatever state the places stand -/
theorem one_note (hQ : 1000 ≤ Q) (hF : FNL m len s E S T) (hl : S.1 270 1 = (len : Int)) (h80 : len ≤ 80) (h9 : S.1 269 9 = (c0 : Int)) (h10 : S.1 269 10 = o0) (hc : c0 ≤ 739) (ho : 0 ≤ o0 ∧ o0 ≤ 720) : s ≤ 80 ∧ ∃ S1, jm_45 Q (m : Int) S = some ((), S1) ∧ FRnt S S1 ∧ (S1.1 269 9 = ((c0 + m : Nat) : Int) ∧ S1.1 269 10 = o0 + (s : Int)) ∧ (∀ i, i < m → RCN c0 o0 m s S1 T i) ∧ (∀ c g, 277 ≤ c → c ≤ 279 → g < c0 → S1.1 c g = S.1 c g) ∧ (∀ g : Nat, (g : Int) < o0 → S1.1 280 g = S.1 280 g) ∧ S1.1 270 1 = (len : Int) - gsm T m + (s : Int) ∧ (∀ g : Nat, (g : Int) < S1.1 270 1 → S1.1 271 g = Rt T (S.1 271) m m g) := by
  have hF0 := hF
  obtain ⟨m81, hM, hR, hD, hE, hg, h80s⟩ := hF
  have s80 : s ≤ 80 := by omega
  obtain ⟨Q', rfl⟩ : ∃ r, Q = r + 1 := ⟨Q - 1, by omega⟩
  have m272 : S.1 272 1 = (s : Int) := by rw [hM.2.1, if_pos (by omega)]
  have e45 : jm_45 (Q' + 1) (m : Int) S = jl_45_17 (Q' + 1) (Q' + 1) (s : Int) ((m : Int) - 1) S := by
    unfold jm_45
    rw [sp_b, m272, sp_b, sp_imin2 (by omega) (by omega), if_neg (by omega), sp_ck (by omega)]
  refine ⟨s80, ?_⟩
  by_cases hm : m = 0
  · subst hm
    have s0 : s = 0 := hR.2.2.1 rfl
    have c45 : jm_45 (Q' + 1) ((0 : Nat) : Int) S = some ((), S) := by
      rw [e45]
      show jb_45_17 _ _ _ _ S = _
      unfold jb_45_17
      rw [if_pos (by decide)]
    have g0 : gsm T 0 = 0 := rfl
    exact ⟨S, c45, FRnt_r, ⟨h9, by omega⟩, fun i h => absurd h (Nat.not_lt_zero i), fun _ _ _ _ _ => rfl, fun _ _ => rfl, by omega, fun _ _ => rfl⟩
  · have hm0 : 0 < m := by omega
    have s703 := (hR.2.2.2.1 hm0).2
    have z703 := (hR.2.2.2.1 hm0).1
    obtain ⟨C0, a1, a2, ⟨a3, a4⟩, a5, a6, a7, a8, a9⟩ := note_all (Q := Q' + 1) (c0 := c0) (o0 := o0) hF0 hl ⟨h80, s80⟩ h9 h10 (by omega) ⟨by omega, by omega⟩ hm0 m 0 (Q' + 1) S (by omega) (by omega) FRnt_r (by rw [Nat.sub_zero, s703, hl]; omega) ⟨by rw [h9]; rfl, by rw [Nat.sub_zero, s703, h10]; omega⟩ (fun i h => absurd h (Nat.not_lt_zero i)) (fun _ _ _ _ _ => rfl) (fun _ _ => rfl) (fun _ _ => rfl)
    rw [Nat.sub_zero, s703, show (m : Int) - 1 - ((0 : Nat) : Int) = (m : Int) - 1 by omega] at a1
    refine ⟨C0, by rw [e45]; exact a1, a2, ⟨a3, by rw [a4, z703]; omega⟩, a5, a6, a7, by rw [a8, z703]; omega, a9⟩
def FCm (U S1 : ev_St) : Prop := (∀ c g, ¬ (269 ≤ c ∧ c ≤ 283) → S1.1 c g = U.1 c g) ∧ (∀ c g, S1.2.1 c g = U.2.1 c g) ∧ (∀ c g, c ≠ 281 → S1.2.2.1 c g = U.2.2.1 c g) ∧ S1.2.2.2 = U.2.2.2
theorem FCm_t (h : FCm S S1) (g : FCm S1 S2) : FCm S S2 := ⟨fun c i y => (g.1 c i y).trans (h.1 c i y), fun c i => (g.2.1 c i).trans (h.2.1 c i), fun c i y => (g.2.2.1 c i y).trans (h.2.2.1 c i y), g.2.2.2.trans h.2.2.2⟩
theorem FCm_s (h : FPs U S1) : FCm U S1 := ⟨fun c g y => h.1 c g (by omega) (by omega) (by omega), h.2⟩
theorem FCm_n (h : FRnt U S1) : FCm U S1 := ⟨fun c g y => h.1 c g (by omega) (by omega) (by omega) (by omega), fun _ _ => by rw [h.2], fun _ _ _ => by rw [h.2], by rw [h.2]⟩
def FRm (T T1 : ev_St) : Prop := (∀ c g, ¬ (c = 621 ∧ ((73 ≤ g ∧ g ≤ 105) ∨ g = 113)) → ¬ (678 ≤ c ∧ c ≤ 699) → ¬ (702 ≤ c ∧ c ≤ 706) → T1.1 c g = T.1 c g) ∧ (∀ c g, T1.2.1 c g = T.2.1 c g) ∧ (∀ c g, T1.2.2.1 c g = T.2.2.1 c g) ∧ T1.2.2.2 = T.2.2.2
theorem FRm_t (h : FRm T T1) (g : FRm T1 T2) : FRm T T2 := ⟨fun c i y1 y2 y3 => (g.1 c i y1 y2 y3).trans (h.1 c i y1 y2 y3), fun c i => (g.2.1 c i).trans (h.2.1 c i), fun c i => (g.2.2.1 c i).trans (h.2.2.1 c i), g.2.2.2.trans h.2.2.2⟩
theorem FRm_p (h : FPt T T1) : FRm T T1 := ⟨fun c g y1 y2 y3 => h.1 c g (by omega) (by omega) (by omega) (by omega), h.2⟩
/-- a text under work: the class's and the reference's are one -/
def TXW (len : Nat) (c0 : Nat) (o0 : Int) (S U : ev_St) : Prop := len ≤ 80 ∧ U.1 270 1 = (len : Int) ∧ (∀ i, i < len → sp_sign (U.1 271 i) = 1) ∧ U.1 269 9 = (c0 : Int) ∧ U.1 269 10 = o0 ∧ (∀ c g, ¬ (269 ≤ c ∧ c ≤ 283) → c < 621 → U.1 c g = S.1 c g) ∧ (∀ c g, c ≠ 723 → U.2.1 c g = S.2.1 c g)
/-- what a replacement leaves noted, beside what was noted -/
def NTD (c0 m s : Nat) (o0 : Int) (U S1 : ev_St) : Prop := (m ≤ 81 ∧ s ≤ 80) ∧ (S1.1 269 9 = ((c0 + m : Nat) : Int) ∧ S1.1 269 10 = o0 + (s : Int)) ∧ (∀ c g, 277 ≤ c → c ≤ 279 → g < c0 → S1.1 c g = U.1 c g) ∧ ∀ g : Nat, (g : Int) < o0 → S1.1 280 g = U.1 280 g
/-- one replacement, whatever reference's state it is held against -/
theorem mend_n (hQ : 40000000000 ≤ Q) (hK : sp_PT S) (hTR : sp_TR S) (hp : (p : Int) < S.1 0 5) (ht : (t : Int) < S.1 0 7) (hU : TXW len c0 o0 S U) (hc : c0 ≤ 739) (ho : 0 ≤ o0 ∧ o0 ≤ 720) (hT : RFw S T) (t73 : T.1 621 73 = (len : Int)) (tx : ∀ i, i < len → T.1 678 i = U.1 271 i) : ∃ v S1 T', jm_44 Q 282 (313 + 20 * p + 1) (553 + 2 * t + 1) lim U = some (v, S1) ∧ jm_349 Q (p : Int) (t : Int) lim T = some (v, T') ∧ FCm U S1 ∧ FPt T T' ∧ (T'.1 621 73 = (len : Int) ∧ ∀ i, i < len → T'.1 678 i = U.1 271 i) ∧ (v = -1 ∨ ∃ (m s E : Nat) (S' : ev_St), v = (m : Int) ∧ FNL m len s E S' T' ∧ FRnt S' S1 ∧ (∀ i, S'.1 271 i = U.1 271 i) ∧ NTD c0 m s o0 U S1 ∧ (∀ i, i < m → RCN c0 o0 m s S1 T' i) ∧ S1.1 270 1 = (len : Int) - gsm T' m + (s : Int) ∧ (∀ g : Nat, (g : Int) < S1.1 270 1 → S1.1 271 g = Rt T' (U.1 271) m m g ∧ sp_sign (S1.1 271 g) = 1)) := by
  obtain ⟨u1, u2, u3, u4, u5, u6, u7⟩ := hU
  obtain ⟨v, S', T', p1, p2, p3, p4, ⟨p5, p6⟩, p7⟩ := mend_two (lim := lim) (W := U) hQ hK hTR hp ht u1 u2 u6 u7 hT t73 (fun i hi => ⟨(tx i hi).symm, u3 i hi⟩)
  by_cases hv : v = -1
  · rw [if_pos hv] at p1
    subst hv
    exact ⟨-1, S', T', p1, p2, FCm_s p3, p4, ⟨p5.trans t73, fun i hi => (p6 i hi).trans (tx i hi)⟩, Or.inl rfl⟩
  · rw [if_neg hv] at p1
    obtain ⟨m, s, E, y1, y2⟩ := p7.resolve_left hv
    subst y1
    have e271 : ∀ i, S'.1 271 i = U.1 271 i := fun i => p3.1 _ _ (by omega) (by omega) (by omega)
    obtain ⟨s80, S1, q1, q2, q3, q4, q5, q6, q7, q8⟩ := one_note (Q := Q) (c0 := c0) (o0 := o0) (by omega) y2 (by rw [p3.1 270 1 (by omega) (by omega) (by omega)]; exact u2) u1 (by rw [p3.1 269 9 (by omega) (by omega) (by omega)]; exact u4) (by rw [p3.1 269 10 (by omega) (by omega) (by omega)]; exact u5) hc ho
    rw [q1, sp_bd] at p1
    refine ⟨(m : Int), S1, T', p1, p2, FCm_t (FCm_s p3) (FCm_n q2), p4, ⟨p5.trans t73, fun i hi => (p6 i hi).trans (tx i hi)⟩, Or.inr ⟨m, s, E, S', rfl, y2, q2, e271, ⟨⟨y2.1, s80⟩, q3, fun c g h1 h2 h3 => (q5 c g h1 h2 h3).trans (p3.1 c g (by omega) (by omega) (by omega)), fun g hg => (q6 g hg).trans (p3.1 280 g (by omega) (by omega) (by omega))⟩, q4, q7, fun g hg => ?_⟩⟩
    have e : S'.1 271 = U.1 271 := funext e271
    rw [q8 g hg, e]
    rw [q7] at hg
    by_cases hm : m = 0
    · subst hm
      have s0 : s = 0 := y2.2.2.1.2.2.1 rfl
      have g0 : gsm T' 0 = 0 := rfl
      exact ⟨rfl, u3 g (by omega)⟩
    · have z703 := (y2.2.2.1.2.2.2.1 (by omega)).1
      have g0 : gsm T' 0 = 0 := rfl
      have r := Rt_two (tx := U.1 271) (ty := U.1 271) y2 (fun g hg => ⟨rfl, u3 g hg⟩) (by omega) m (Nat.le_refl m) g (by rw [Nat.sub_self, z703, g0]; omega)
      exact ⟨rfl, r.2⟩
/-- one of them tried: the text under work and the reference's trial go on as one -/
theorem trial1 (hQ : 40000000000 ≤ Q) (hK : sp_PT S) (hTR : sp_TR S) (hp : (p : Int) < S.1 0 5) (ht : (t : Int) < S.1 0 7) (hU : TXW len c0 o0 S U) (hc : c0 ≤ 739) (ho : 0 ≤ o0 ∧ o0 ≤ 720) (hT : RFw S T) (t73 : T.1 621 73 = (len : Int)) (tx : ∀ i, i < len → T.1 678 i = U.1 271 i) : ∃ v S1 T', jm_44 Q 282 (313 + 20 * p + 1) (553 + 2 * t + 1) lim U = some (v, S1) ∧ jm_349 Q (p : Int) (t : Int) lim T = some (v, T') ∧ FCm U S1 ∧ FRm T T' ∧ (v = -1 ∨ ∃ (m s L : Nat) (T1 : ev_St), v = (m : Int) ∧ jm_360 Q v T' = some ((), T1) ∧ FRm T T1 ∧ NTD c0 m s o0 U S1 ∧ TXW L (c0 + m) (o0 + (s : Int)) S S1 ∧ T1.1 621 73 = (L : Int) ∧ ∀ i, i < L → T1.1 678 i = S1.1 271 i) := by
  obtain ⟨v, S1, T', p1, p2, p3, p4, ⟨p5, p6⟩, p7⟩ := mend_n (lim := lim) hQ hK hTR hp ht hU hc ho hT t73 tx
  obtain ⟨u1, u2, u3, u4, u5, u6, u7⟩ := hU
  refine ⟨v, S1, T', p1, p2, p3, FRm_p p4, ?_⟩
  rcases p7 with y | ⟨m, s, E, S', y1, hF, y3, y4, y5, y6, y7, y8⟩
  · exact Or.inl y
  · refine Or.inr ?_
    have hF0 := hF
    obtain ⟨m81, hM, hR, hD, hE, hg, h80s⟩ := hF
    have s80 := y5.1.2
    have dm : (len : Int) - Dk T' m = (len : Int) - gsm T' m + (s : Int) := by
      unfold Dk
      by_cases hm : m = 0
      · subst hm
        have s0 : s = 0 := hR.2.2.1 rfl
        have g0 : gsm T' 0 = 0 := rfl
        rw [if_pos rfl]
        omega
      · have sm := (hR.2.2.2.1 (by omega)).2
        rw [if_neg hm]
        omega
    obtain ⟨L, hL⟩ : ∃ L : Nat, (L : Int) = (len : Int) - gsm T' m + (s : Int) := ⟨((len : Int) - gsm T' m + (s : Int)).toNat, by omega⟩
    obtain ⟨T1, r1, r2, r3, r4, r5⟩ := r360 (Q := Q) (by omega) hR hE ⟨u1, s80⟩ m81 p5 hM.1 m 0 Q T' (by omega) (by omega) FR6_r (fun g hg => by
      have e0 : ep T' 0 = 0 := rfl
      rw [Dk_0, e0] at hg
      omega)
    refine ⟨m, s, L, T1, y1, ?_, ?_, y5, ⟨by omega, y7.trans hL.symm, fun i hi => (y8 i (by omega)).2, y5.2.1.1, y5.2.1.2, fun c g z1 z2 => (p3.1 c g z1).trans (u6 c g z1 z2), fun c g z => (p3.2.1 c g).trans (u7 c g z)⟩, by rw [r2, dm, hL], fun i hi => ?_⟩
    · rw [Dk_0] at r1
      rw [y1]
      exact r1
    · refine FRm_t (FRm_p p4) ⟨fun c g z1 z2 z3 => r4 c g (by omega) (by omega) (by omega), fun _ _ => by rw [r5], fun _ _ => by rw [r5], by rw [r5]⟩
    · rw [r3 i (by omega), (y8 i (by omega)).1]
      by_cases hm : m = 0
      · subst hm
        have s0 : s = 0 := hR.2.2.1 rfl
        have g0 : gsm T' 0 = 0 := rfl
        exact p6 i (by omega)
      · have z703 := (hR.2.2.2.1 (by omega)).1
        have g0 : gsm T' 0 = 0 := rfl
        exact (Rt_two (tx := U.1 271) (ty := T'.1 678) hF0 (fun g hg => ⟨(p6 g hg).symm, u3 g hg⟩) (by omega) m (Nat.le_refl m) i (by rw [Nat.sub_self, z703, g0]; omega)).1.symm
end OSM
