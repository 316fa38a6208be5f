/-! PLAY: one replacement of a macro, made on both sides -/
section OSN
variable {Q p k t m i j len w s E b c0 cc q : Nat} {n o0 : Int} {S S1 S2 S' T T1 T2 T' U V W X C : ev_St} {a c d e f v x y md lim : Int} {D : lg_D}
/-- edits were made -/
def EDn (E cc : Nat) (C T : ev_St) : Prop := E = cc ∧ C.1 254 13 = C.1 254 12 ∧ T.1 621 131 = T.1 621 130 ∧ 0 < C.1 254 11
def FRpl (T T1 : ev_St) : Prop := (∀ c g, ¬ (c = 621 ∧ ((73 ≤ g ∧ g ≤ 105) ∨ g = 113 ∨ g = 125 ∨ g = 126 ∨ g = 128 ∨ g = 131)) → ¬ (678 ≤ c ∧ c ≤ 699) → ¬ (702 ≤ c ∧ c ≤ 708) → c ≠ 710 → c ≠ 712 → c ≠ 713 → T1.1 c g = T.1 c g) ∧ (∀ c g, T1.2.1 c g = T.2.1 c g) ∧ (∀ c g, T1.2.2.1 c g = T.2.2.1 c g) ∧ T1.2.2.2 = T.2.2.2
theorem FRpl_t (h : FRpl T T1) (g : FRpl T1 T2) : FRpl T T2 := ⟨fun c i y1 y2 y3 y4 y5 y6 => (g.1 c i y1 y2 y3 y4 y5 y6).trans (h.1 c i y1 y2 y3 y4 y5 y6), fun c i => (g.2.1 c i).trans (h.2.1 c i), fun c i => (g.2.2.1 c i).trans (h.2.2.1 c i), g.2.2.2.trans h.2.2.2⟩
theorem FRpl_m (h : FRm T T1) : FRpl T T1 := ⟨fun c g y1 y2 y3 y4 y5 y6 => h.1 c g (by omega) y2 (by omega), h.2⟩
theorem FRpl_e (h : eg_R T T1) : FRpl T T1 := ⟨fun c g y1 y2 y3 y4 y5 y6 => h.1 c g (by omega) (by omega) y4 y5 y6 (by omega), fun _ _ => by rw [h.2], fun _ _ => by rw [h.2], by rw [h.2]⟩
theorem FRm_r : FRm T T := ⟨fun _ _ _ _ _ => rfl, fun _ _ => rfl, fun _ _ => rfl, rfl⟩
theorem FRpl_r : FRpl T T := ⟨fun _ _ _ _ _ _ _ _ => rfl, fun _ _ => rfl, fun _ _ => rfl, rfl⟩
theorem RFw_z (h : RFw S T) (g : FRpl T T1) : RFw S T1 := ⟨fun c i y1 y2 y3 y4 y5 => (g.1 c i (by omega) (by omega) (by omega) (by omega) (by omega) (by omega)).trans (h.1 c i y1 y2 y3 y4 y5), fun c i y => (g.2.1 c i).trans (h.2 c i y)⟩
theorem RFw_m (h : RFw S T) (g : FRm T T1) : RFw S T1 := RFw_z h (FRpl_m g)
theorem com1 (hQ : 40000000000 ≤ Q) (hK : sp_PT S) (hTR : sp_TR S) (hp : (p : Int) < S.1 0 5) (ht : (t : Int) < S.1 0 7) (hU : TXW len c0 o0 S U) (hc : c0 ≤ 739) (ho : 0 ≤ o0 ∧ o0 ≤ 720) (hj : jm_44 Q 282 (313 + 20 * p + 1) (553 + 2 * t + 1) lim U = some (v, S1)) (hv : v ≠ -1) (hT : RFw S T) (hLT : lg_T n D E cc C T) (hn0 : n ≤ 512) (hb : b < 3) (hCl : C.1 (263 + 2 * b) 1 = (len : Int)) (hX : ∀ g, g < len → T.1 708 (200 * b + g) = U.1 271 g) (hC9 : S1.1 269 9 ≤ C.1 269 9) (hCe : ∀ c g : Nat, 277 ≤ c → c ≤ 279 → (g : Int) < S1.1 269 9 → C.1 c g = S1.1 c g) (hC8 : ∀ g : Nat, (g : Int) < S1.1 269 10 → C.1 280 g = S1.1 280 g) (hcc : (cc : Int) + 81 < 420000) (hds : dS D cc + 160 ≤ 840000) (hq : 81 < q) : ∃ (m s E' : Nat) (D' : lg_D) (C' T1 T2 T3 : ev_St), v = (m : Int) ∧ NTD c0 m s o0 U S1 ∧ jl_47_5 Q 255 (b : Int) q o0 (c0 : Int) C = jl_47_5 Q 255 (b : Int) (q - m) (o0 + (s : Int)) ((c0 + m : Nat) : Int) C' ∧ jm_288 Q (b : Int) T = some ((), T1) ∧ jm_349 Q (p : Int) (t : Int) lim T1 = some (v, T2) ∧ jm_350 Q (b : Int) v T2 = some ((), T3) ∧ lg_T n D' E' (cc + m) C' T3 ∧ ((m = 0 ∧ E' = E ∧ D' = D ∧ C' = C ∧ FRm T T3) ∨ EDn E' (cc + m) C' T3) ∧ eg_C C C' ∧ FRpl T T3 ∧ C'.1 (263 + 2 * b) 1 = S1.1 270 1 ∧ (∀ k, k ≤ cc → ∀ b', dL D' k b' = dL D k b') ∧ (∀ b', b' ≠ b → dL D' (cc + m) b' = dL D cc b') ∧ dS D' (cc + m) ≤ dS D cc + 160 ∧ (∀ g : Nat, (g : Int) < S1.1 270 1 → T3.1 708 (200 * b + g) = S1.1 271 g) := by
  obtain ⟨_, _, t707, _⟩ := hLT.1.2.2.2.1 b hb
  have l80 : len ≤ 80 := hU.1
  have u3 := hU.2.2.1
  obtain ⟨T1, a1, a2, a3, a4, a5⟩ := sp_288 (Q := Q) (m := b) (len := len) (T := T) hb (by omega) (by rw [t707]; exact hCl) (by omega)
  have f1 : FRm T T1 := ⟨fun c g y1 y2 y3 => a4 c g (by omega) (by omega), fun _ _ => by rw [a5], fun _ _ => by rw [a5], by rw [a5]⟩
  obtain ⟨v', S1', T2, p1, p2, p3, p4, ⟨p5, p6⟩, p7⟩ := mend_n (lim := lim) hQ hK hTR hp ht hU hc ho (RFw_m hT f1) a2 (fun i hi => (a3 i hi).trans (hX i hi))
  have ev : v = v' := congrArg Prod.fst (Option.some.inj (hj.symm.trans p1))
  have es : S1 = S1' := congrArg Prod.snd (Option.some.inj (hj.symm.trans p1))
  subst ev
  subst es
  obtain ⟨m, s, G, S', y1, hF, y3, y4, y5, y6, y7, y8⟩ := p7.resolve_left hv
  subst y1
  have hF0 := hF
  obtain ⟨m81, hM, hR, hD, hE, hg, h80s⟩ := hF
  have s80 := y5.1.2
  have f2 : FRm T T2 := FRm_t f1 (FRm_p p4)
  have hL2 : lg_T n D E cc C T2 := lg_T_c2 hLT (fun _ _ _ => rfl) (fun _ _ _ => rfl) rfl (fun k g hk => f2.1 k g (by omega) (by omega) (by omega))
  have e350 : jm_350 Q (b : Int) (m : Int) T2 = jl_350_4 Q (b : Int) Q ((m : Int) - 1) T2 := by
    unfold jm_350
    rw [sp_ck (by omega)]
  have tx : ∀ g, g < len → T2.1 708 (200 * b + g) = U.1 271 g := fun g hg => (f2.1 708 _ (by omega) (by omega) (by omega)).trans (hX g hg)
  by_cases hm : m = 0
  · subst hm
    have s0 : s = 0 := hR.2.2.1 rfl
    subst s0
    have g0 : gsm T2 0 = 0 := rfl
    refine ⟨0, 0, E, D, C, T1, T2, T2, rfl, y5, ?_, a1, p2, ?_, hL2, Or.inl ⟨rfl, rfl, rfl, rfl, f2⟩, eg_C_r, FRpl_m f2, by rw [hCl, y7, g0]; omega, fun _ _ _ => rfl, fun _ _ => rfl, by rw [Nat.add_zero]; omega, fun g hg => ?_⟩
    · rw [Nat.sub_zero, Nat.add_zero, show o0 + ((0 : Nat) : Int) = o0 by omega]
    · rw [e350]
      obtain ⟨Q', hQ'⟩ : ∃ r, Q = r + 1 := ⟨Q - 1, by omega⟩
      rw [hQ']
      show jb_350_4 _ _ _ _ T2 = _
      unfold jb_350_4
      rw [if_pos (by decide)]
    · rw [(y8 g hg).1]
      exact tx g (by omega)
  · have hm0 : 0 < m := by omega
    have s703 := (hR.2.2.2.1 hm0).2
    have z703 := (hR.2.2.2.1 hm0).1
    have g0 : gsm T2 0 = 0 := rfl
    have r9 := y5.2.1.1
    have r10 := y5.2.1.2
    obtain ⟨D3, C1, T4, b1, b2, b3, ⟨b4, b5, b6⟩, b7, b8, b9, b10, b11, b12, b13⟩ := blk (Q := Q) (n := n) (S := C) (T := T2) (c0 := c0) (o0 := o0) (cc := cc) (D := D) (b := b) (len := len) (s := s) (m := m) (E := G) (tx := fun g => T2.1 708 (200 * b + g)) (by omega) hn0 hb hR hE ⟨l80, s80⟩ m81 hm0 z703 (fun i hi => by
      obtain ⟨n1, n2, n3, n4⟩ := y6 i hi
      unfold RCN
      rw [hCe 277 _ (by omega) (by omega) (by omega), hCe 278 _ (by omega) (by omega) (by omega), hCe 279 _ (by omega) (by omega) (by omega)]
      refine ⟨n1, n2, n3, fun g hg => ?_⟩
      have k0 := RCT_le hR (m - 1 - i) (by omega) hm0
      have k1 := RCT_le hR (m - i) (by omega) hm0
      rw [hC8 _ (by omega)]
      exact n4 g hg) (by omega) ⟨by omega, by omega⟩ (by omega) (by omega) (by omega) m 0 q Q E D C T2 (by omega) (by omega) (by omega) hL2 eg_C_r eg_R_r (fun h => absurd h (Nat.lt_irrefl 0)) (by rw [Nat.sub_zero, s703, hCl]; omega) (fun _ _ _ => rfl) (fun _ _ => rfl) (by rw [Nat.sub_zero, s703, Nat.add_zero]; omega) (fun _ _ => rfl)
    rw [Nat.sub_zero, s703, show o0 + ((s : Int) - (s : Int)) = o0 by omega, Nat.add_zero] at b1
    rw [show (m : Int) - 1 - ((0 : Nat) : Int) = (m : Int) - 1 by omega] at b2
    refine ⟨m, s, cc + m, D3, C1, T1, T2, T4, rfl, y5, b1, a1, p2, by rw [e350]; exact b2, b3, Or.inr ⟨rfl, b4, b5, b6⟩, b7, FRpl_t (FRpl_m f2) (FRpl_e b8), by rw [b9, y7], b10, b11, by rw [b12]; omega, fun g hg => ?_⟩
    rw [b13 g (by rw [b9, ← y7]; exact hg), (y8 g hg).1]
    exact (Rt_two (tx := U.1 271) (ty := fun g => T2.1 708 (200 * b + g)) hF0 (fun g hg => ⟨(tx g hg).symm, u3 g hg⟩) hm0 m (Nat.le_refl m) g (by rw [Nat.sub_self, z703, g0]; omega)).1.symm
end OSN
