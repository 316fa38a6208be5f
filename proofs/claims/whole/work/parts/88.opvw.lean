/-! THE READER: the end of a reading -/
section RFIN
variable {Q k n m w d N M D lv t : Nat} {φ ψ own up inn G R ws y rk : Nat → Nat} {P q : Nat → Int} {S O T S0 T0 S1 S' S2 T' T2 T1 T3 U : ev_St} {Z : Nat → Prop}
theorem FIN_c (h : FIN k N M φ ψ own S T) (s1 : ∀ j b, 1 ≤ j → j ≤ 5 → b < M → S2.1 (k + j) b = S.1 (k + j) b) (s2 : ∀ j b, 8 ≤ j → j ≤ 9 → S2.2.1 (k + j) b = S.2.1 (k + j) b) (t1 : ∀ c m, 625 ≤ c → c ≤ 632 → m < N → T2.1 c (3840 + m) = T.1 c (3840 + m)) (t2 : ∀ c m, 633 ≤ c → c ≤ 634 → T2.2.1 c (3840 + m) = T.2.1 c (3840 + m)) : FIN k N M φ ψ own S2 T2 := by
  obtain ⟨h1, ⟨a1, a2, a3, a4, a5, a6⟩, b1, b2, b3, b4, b5⟩ := h
  refine ⟨fun m hm h0 => ?_, ⟨a1, a2, a3, by rw [s1 1 _ (by omega) (by omega) a1]; exact a4, by rw [s1 5 _ (by omega) (by omega) a1]; exact a5, ?_⟩, b1, (t1 625 0 (by omega) (by omega) b1).trans b2, fun z => b3 ((t1 626 0 (by omega) (by omega) b1).symm.trans z), (t1 627 0 (by omega) (by omega) b1).trans b4, (t1 630 0 (by omega) (by omega) b1).trans b5⟩
  · obtain ⟨⟨g1, g2, g3, g4⟩, g5, g6, g7⟩ := h1 m hm h0
    refine ⟨⟨g1, g2, g3, g4⟩, KD_c g5 (fun j x y => s1 j _ x (by omega) g1) (fun j x y => s2 j _ x y) (fun c x y _ => t1 c m x y hm) (fun c x y => t2 c m x y), rpt_c g6 (Nat.le_refl _) (fun _ _ => rfl) ⟨g1, g3⟩ ⟨g2, g4⟩ (fun b j hb _ x y _ => s1 j b x y hb) (fun c x y _ => t1 c m x y hm), ?_⟩
    rw [t1 625 m (by omega) (by omega) hm, t1 626 m (by omega) (by omega) hm, t1 627 m (by omega) (by omega) hm, s1 4 _ (by omega) (by omega) g1, s1 5 _ (by omega) (by omega) g2]
    exact g7
  · rw [s1 4 _ (by omega) (by omega) a1, show T2.1 626 3840 = T.1 626 3840 from t1 626 0 (by omega) (by omega) b1]
    exact a6
theorem UPf_c (h : UPf k N M φ ψ own up S T) (hψ : ∀ m, m < N → ψ m < M) (s1 : ∀ b, b < M → S2.1 (k + 4) b = S.1 (k + 4) b) (t1 : ∀ m c, m < N → c = 626 ∨ c = 627 ∨ c = 630 → T2.1 c (3840 + m) = T.1 c (3840 + m)) : UPf k N M φ ψ own up S2 T2 := by
  obtain ⟨⟨a1, a2, a3, a8⟩, a5, a6, a7⟩ := h
  refine ⟨⟨a1, fun m t hm ht => a2 m t hm ((t1 m 626 hm (by omega)).symm.trans ht), fun m t hm ht => a3 m t hm ((t1 m 627 hm (by omega)).symm.trans ht), LND_c a8 a1 (fun m c hm hc => t1 m c hm (by omega))⟩, a5, fun b hb => ?_, fun b hb => by rw [s1 b hb]; exact a7 b hb⟩
  have q := a6 b hb
  exact ⟨q.1, q.2.imp_right (Or.imp_right fun z => HLP_c z rfl (hψ _ q.1) a7 s1 (t1 _ _ q.1 (by omega)))⟩
/-- names and numbers put in their place -/
theorem FIN_res (h : FIN k N M φ ψ own S T) (hU : UPf k N M φ ψ own up S T) (hV : RV N T) (hval : ∀ m, m < N → m ≠ 0 → (T.1 625 (3840 + m) = 7 ∨ T.1 625 (3840 + m) = 13 ∨ T.1 625 (3840 + m) = 14) → cnC k S (φ m) = ckn T m) (hS : CCi k M S S2) (hT : CKi N N T T2) : FIN k N M φ ψ own S2 T2 := by
  obtain ⟨c1, c2, c3, _⟩ := hS
  obtain ⟨d1, d2, d3, _⟩ := hT
  have n7 : ∀ b, b < M → S.1 (k + 1) b ≠ 7 → S2.1 (k + 2) b = S.1 (k + 2) b := fun b hb h7 => by
    rw [c2 b hb]
    unfold cnC
    rw [if_neg (fun z => h7 z.1)]
  have so : ∀ j b, j ≠ 2 → S2.1 (k + j) b = S.1 (k + j) b := fun j b hj => c1 _ _ (by omega)
  have to : ∀ c m, 625 ≤ c → c ≤ 632 → c ≠ 628 → T2.1 c (3840 + m) = T.1 c (3840 + m) := fun c m x y z => d1 _ _ (by omega) (by omega)
  have hF := h
  obtain ⟨h1, ⟨a1, a2, a3, a4, a5, a6⟩, b1, b2, b3, b4, b5⟩ := h
  refine ⟨fun m hm h0 => ?_, ⟨a1, a2, a3, by rw [so 1 _ (by omega)]; exact a4, by rw [so 5 _ (by omega)]; exact a5, ?_⟩, b1, (to 625 0 (by omega) (by omega) (by omega)).trans b2, fun z => b3 ((to 626 0 (by omega) (by omega) (by omega)).symm.trans z), (to 627 0 (by omega) (by omega) (by omega)).trans b4, (to 630 0 (by omega) (by omega) (by omega)).trans b5⟩
  · obtain ⟨⟨g1, g2, g3, g4⟩, ⟨p1, p2, p3, p4⟩, g6, g7⟩ := h1 m hm h0
    refine ⟨⟨g1, g2, g3, g4⟩, ⟨?_, ?_, fun z => ?_, fun z => ?_⟩, ?_, ?_⟩
    · rw [so 1 _ (by omega), to 625 m (by omega) (by omega) (by omega), to 629 m (by omega) (by omega) (by omega)]
      exact p1
    · rw [to 625 m (by omega) (by omega) (by omega), c3, d3]
      exact p2
    · rw [to 625 m (by omega) (by omega) (by omega)] at z
      rw [d2 m hm]
      by_cases e8 : T.1 625 (3840 + m) = 8
      · rw [n7 _ g1 (by rw [p1, e8]; unfold kcl; simp), p3 z]
        unfold ckn
        rw [if_neg (by omega)]
      · rw [c2 _ g1, hval m hm h0 (by omega)]
    · rw [to 625 m (by omega) (by omega) (by omega)] at z
      rw [so 3 _ (by omega), to 629 m (by omega) (by omega) (by omega)]
      exact p4 z
    · unfold rpt
      rw [to 630 m (by omega) (by omega) (by omega), to 631 m (by omega) (by omega) (by omega), to 632 m (by omega) (by omega) (by omega), so 1 _ (by omega), so 4 _ (by omega), so 3 _ (by omega), so 5 _ (by omega)]
      rcases g6 with z | ⟨z1, z2, z3, z4, z5, z6⟩ | ⟨z1, x, y, z2, z3, z4, ⟨z5, z6, z7, z8, z9⟩, z10⟩
      · exact Or.inl z
      · exact Or.inr (Or.inl ⟨z1, z2, z3, by rw [n7 _ g2 (by omega)]; exact z4, z5, z6⟩)
      · refine Or.inr (Or.inr ⟨z1, x, y, z2, z3, ?_, ⟨?_, ?_, ?_, ?_, ?_⟩, z10⟩)
        · rw [so 1 _ (by omega), so 4 _ (by omega), so 5 _ (by omega)]
          exact z4
        · rw [so 1 _ (by omega)]
          exact z5
        · rw [so 4 _ (by omega)]
          exact z6
        · rw [n7 _ z2.2.1 (by omega)]
          exact z7
        · rw [so 3 _ (by omega)]
          exact z8
        · rw [so 5 _ (by omega)]
          exact z9
    · rw [to 625 m (by omega) (by omega) (by omega), to 626 m (by omega) (by omega) (by omega), to 627 m (by omega) (by omega) (by omega), so 4 _ (by omega), so 5 _ (by omega)]
      exact g7
  · rw [so 4 _ (by omega), show T2.1 626 3840 = T.1 626 3840 from to 626 0 (by omega) (by omega) (by omega)]
    exact a6
theorem RV_res (hV : RV N T) (hn : ∀ l, l < 26 → 0 ≤ T.1 638 (312 + l) ∧ T.1 638 (312 + l) ≤ 9) (hok : ∀ m, m < N → okm T m) (hT : CKi N N T T2) : RV N T2 ∧ ∀ m, m < N → T.1 625 (3840 + m) = 7 → 1 ≤ T2.1 628 (3840 + m) ∧ T2.1 628 (3840 + m) ≤ 9 := by
  obtain ⟨d1, d2, d3, _⟩ := hT
  have to : ∀ c m, 625 ≤ c → c ≤ 632 → c ≠ 628 → T2.1 c (3840 + m) = T.1 c (3840 + m) := fun c m x y z => d1 _ _ (by omega) (by omega)
  have k7 : ∀ m, m < N → T.1 625 (3840 + m) = 7 → 1 ≤ T2.1 628 (3840 + m) ∧ T2.1 628 (3840 + m) ≤ 9 := fun m hm h7 => by
    have v := (hV.1 m hm).1.2.2.1 h7
    have o := (hok m hm).1
    rw [d2 m hm]
    by_cases z : T.1 628 (3840 + m) < 0
    · have o' := o ⟨h7, z⟩
      unfold ckn at o' ⊢
      rw [if_pos ⟨h7, z⟩] at o' ⊢
      have := hn (-T.1 628 (3840 + m) - 1).toNat (by omega)
      rw [show 312 + (-T.1 628 (3840 + m) - 1).toNat = (311 - T.1 628 (3840 + m)).toNat from by omega] at this
      omega
    · unfold ckn
      rw [if_neg (fun w => z w.2)]
      omega
  refine ⟨⟨fun m hm => ?_, RVl_c hV.2 (fun m c hm hc => to c m (by omega) (by omega) (by omega))⟩, k7⟩
  obtain ⟨⟨v1, v2, v3, v4, v5, v6⟩, w1, w2⟩ := hV.1 m hm
  have same : T.1 625 (3840 + m) ≠ 7 → T2.1 628 (3840 + m) = T.1 628 (3840 + m) := fun h7 => by
    rw [d2 m hm]
    unfold ckn
    rw [if_neg (fun z => h7 z.1)]
  unfold RV1
  rw [to 625 m (by omega) (by omega) (by omega), to 629 m (by omega) (by omega) (by omega), to 630 m (by omega) (by omega) (by omega), to 631 m (by omega) (by omega) (by omega), to 632 m (by omega) (by omega) (by omega), d1 636 12 (by omega) (by omega)]
  refine ⟨⟨v1, v2, fun z => ?_, fun z => ?_, fun z => ?_, fun z => ?_⟩, w1, fun z => ?_⟩
  · have := k7 m hm z
    omega
  · rw [same (by omega)]
    exact v4 z
  · rw [same (by omega)]
    exact v5 z
  · rw [same (by omega)]
    exact v6 z
  · rw [same (by omega), d1 637 _ (by omega) (by omega)]
    exact w2 z
end RFIN
