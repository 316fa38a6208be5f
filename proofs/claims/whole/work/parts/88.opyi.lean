/-! LITERAL: the call -/
section OPYI
variable {Q k p N M m n g u s t L j : Nat} {xs : Nat → Int32} {φ ψ own up lo : Nat → Nat} {S S0 S2 T T0 U V : ev_St} {W : Nat → FV} {a b : Int}
theorem lit_root (hF : FINX k N M φ ψ own up S0 (sft p T0)) (hp : p < 12) (hQ : 2000 ≤ Q) (ha0 : 0 ≤ a) (hU : AG0 p T0 U) : ∃ V, lwJ9 Q a p Q 0 0 0 0 0 0 U = some (getA a (litR k M S0), V) ∧ (∀ c i, c ≠ 660 → c ≠ 661 → V.1 c i = U.1 c i) ∧ V.2 = U.2 := by
  have h := TREE_of hF
  have hN : N ≤ 320 := hF.2.1.2.2.2
  have hN0 : 0 < N := hF.1.1.2.2.1
  have hM : M ≤ 400 := hF.2.1.2.1
  obtain ⟨i1, i2, i3, i4, i5, _⟩ := hF.1.2.2.2.2
  obtain ⟨y, _, _, lo, hL⟩ := hF.2.2.2.2.2.2.2
  have eK : ∀ m, tK (sft p T0) m = T0.1 625 (320 * p + m) := fun m => sft_1 (by omega) (by omega)
  have eC : ∀ m, tC (sft p T0) m = T0.1 626 (320 * p + m) := fun m => sft_1 (by omega) (by omega)
  have eX : ∀ m, tX (sft p T0) m = T0.1 627 (320 * p + m) := fun m => sft_1 (by omega) (by omega)
  have k9 : T0.1 625 (320 * p + 0) = 9 := by
    rw [← eK]
    rcases FINX_K hF hN0 with ⟨_, y | y⟩
    · exact y.2.1
    · exact absurd rfl y.1
  have r0 : T0.1 630 (320 * p + 0) = -1 := by
    have y : (sft p T0).1 630 (3840 + 0) = -1 := hF.1.1.2.2.2.2.2.2
    rw [sft_1 (by decide) (by decide)] at y
    exact y
  have x0 : T0.1 627 (320 * p + 0) = -1 := by
    have y : (sft p T0).1 627 (3840 + 0) = -1 := hF.1.1.2.2.2.2.2.1
    rw [sft_1 (by decide) (by decide)] at y
    exact y
  have c0 : tC (sft p T0) 0 ≠ -1 := hF.1.1.2.2.2.2.1
  obtain ⟨t, t1, t2, t3, t4, t5⟩ := (h.2.2.2.1 0 hN0).resolve_left c0
  have t18 : tK (sft p T0) t = 18 := t5.mpr (by rw [eK]; omega)
  have rM := (h.1 t t3).1
  have f0 := (h.1 0 hN0).1
  have hc := (h.2.1 0 hN0).2 (by rw [eK]; omega)
  rw [t1] at hc
  have hc2 : S0.1 (k + 4) (φ 0) = ((φ t : Nat) : Int) := by
    rw [hc]
    unfold img
    rw [if_neg (by omega), Int.toNat_natCast]
  have hs := ((h.2.2.1 t t3 (by omega)).2 t18).1
  rw [eX] at hs
  have a2 := hL.2.2.1
  have lt := (a2 0 t hN0 t1).1
  have c1 := t1
  rw [eC] at t1
  have s0 : S0.1 (k + 10) 0 = (φ 0 : Int) := hF.2.2.2.2.2.1.2
  have onl : onlyC k M S0 (φ 0 : Int) = if T0.1 627 (320 * p + t) = -1 then (φ t : Int) else -1 := by
    unfold onlyC rowC
    rw [if_pos (show litV M (φ 0 : Int) from ⟨by omega, by omega, by omega⟩), Int.toNat_natCast, hc2, if_pos (show litV M (φ t : Int) from ⟨by omega, by omega, by omega⟩), Int.toNat_natCast, hs]
    unfold img
    by_cases y : T0.1 627 (320 * p + t) = -1
    · rw [if_pos y, if_pos y, if_neg (by omega)]
    · rw [if_neg y, if_neg y, if_pos (by omega)]
  obtain ⟨q, hq⟩ : ∃ q, Q = q + 1 := ⟨Q - 1, by omega⟩
  have fu : lwJ9 Q a p Q 0 0 0 0 0 0 U = lwJ9 Q a p (q + 1) 0 0 0 0 0 0 U := congrArg (fun f => lwJ9 Q a p f 0 0 0 0 0 0 U) hq
  by_cases ho : T0.1 627 (320 * p + t) = -1
  · have root : litR k M S0 = litF k M S0 1600 (S0.1 (k + 6) (φ t)) [] [] := by
      have g : ∀ o : Int, o = (φ t : Int) → litF k M S0 1600 (if litV M o then S0.1 (k + 6) o.toNat else -1) [] [] = litF k M S0 1600 (S0.1 (k + 6) (φ t)) [] [] := fun o e => by
        subst e
        rw [if_pos (show litV M (φ t : Int) from ⟨by omega, by omega, by omega⟩), Int.toNat_natCast]
      unfold litR
      exact g _ (by rw [s0, onl, if_pos ho])
    have op0 : opN p T0 0 := ⟨Or.inr (Or.inl k9), r0, by rw [t1, Int.toNat_natCast]; exact ho⟩
    have q2 := i2 t t3 t18
    rw [show (sft p T0).1 626 (3840 + t) = T0.1 626 (320 * p + t) from eC t, t4] at q2
    have ro := r_open (Q := Q) (q := q) (B := 0) (st := 0) (pos := 0) (r := 0) (a := a) (d := 0) hp (show 0 < 320 by omega) (by omega) hU op0 t1 (by omega)
    obtain ⟨U2, hU2⟩ : ∃ U2, U2 = ev_pI U 660 0 (T0.1 627 (320 * p + 0)) := ⟨_, rfl⟩
    rw [← hU2] at ro
    have u2 : ∀ c i, ¬ (c = 660 ∧ i = 0) → U2.1 c i = U.1 c i := fun c i y => by rw [hU2, sp_pI1, if_neg y]
    have ag : AG0 p T0 U2 := AG0_c hU (fun c i y _ => u2 c i (by omega)) (fun c i _ => by rw [hU2]; rfl)
    have os : OSo N p up T0 [0] := rfl
    have sto : STo p T0 U2 [0] := ⟨by rw [hU2]; exact rd_eq, trivial⟩
    have rb : RBo U2 0 0 [] [] := ⟨⟨Nat.le_refl _, fun i hi => absurd hi (Nat.not_lt_zero i)⟩, Nat.le_refl _, fun i hi => absurd hi (Nat.not_lt_zero i)⟩
    have e2 : U2.2 = U.2 := by rw [hU2]; rfl
    have fu2 : lwJ9 Q a p Q 0 0 0 0 0 0 U = lwJ9 Q a p q 0 0 0 0 ((0 + 1 : Nat) : Int) (T0.1 626 (320 * p + t)) U2 := fu.trans ro
    rw [root, q2, fu2]
    obtain ⟨s1, s2⟩ := simW (Q := Q) (a := a) hF hL hp (by omega) ha0 1600
    by_cases y : T0.1 626 (320 * p + t) = -1
    · rw [if_pos y, y]
      obtain ⟨V, v1, v2, v3⟩ := s2 0 [] U2 [] [] 0 0 q os sto ag rb (Nat.zero_le _) (by omega) (by omega)
      exact ⟨V, v1, fun c i y1 y2 => by rw [v2 c i y1 y2, u2 c i (by omega)], by rw [v3, e2]⟩
    · obtain ⟨t', z1, z2, z3, z4, z5⟩ := (h.2.2.2.1 t t3).resolve_left (by rw [eC]; exact y)
      rw [eC] at z1
      rw [if_neg y, z1, Int.toNat_natCast]
      obtain ⟨V, v1, v2, v3⟩ := s1 t' 0 [] U2 [] [] 0 0 q z3 (by omega) (by
        intro w
        have := z5.mp (by rw [eK]; exact w)
        exact this t18) (by rw [z4, t4]) os sto ag rb (Nat.zero_le _) (by omega) (by omega)
      exact ⟨V, v1, fun c i y1 y2 => by rw [v2 c i y1 y2, u2 c i (by omega)], by rw [v3, e2]⟩
  · have root : litR k M S0 = [] := by
      have g : ∀ o : Int, o = -1 → litF k M S0 1600 (if litV M o then S0.1 (k + 6) o.toNat else -1) [] [] = [] := fun o e => by
        subst e
        rw [if_neg (fun z => by have := z.1; omega), litF_0]
        rfl
      unfold litR
      exact g _ (by rw [s0, onl, if_neg ho])
    have no : ¬ opN p T0 0 := fun z => ho (by
      have w := z.2.2
      rw [t1, Int.toNat_natCast] at w
      exact w)
    have rn := r_node (Q := Q) (q := q) (B := 0) (st := 0) (pos := 0) (r := 0) (a := a) (d := 0) (s := -1) (P2 := 0) (r2 := 0) hp (show 0 < 320 by omega) hU no (fun _ => ⟨t, t1, by omega⟩) (fun z => absurd (k9.symm.trans z.1) (by decide)) (fun _ => rfl) ⟨by decide, by decide⟩ ⟨by decide, by decide⟩ (by rw [if_neg (fun z => z rfl)]) (by rw [if_neg (fun z => z rfl)])
    rw [if_pos (Int.le_refl 0), if_pos (Int.le_refl 0), x0] at rn
    obtain ⟨q, rfl⟩ : ∃ r, q = r + 1 := ⟨q - 1, by omega⟩
    have rf := r_fin (Q := Q) (p := p) (q := q) (st := 0) (B := 0) (pos := 0) (r := 0) (U := ev_pI U 661 (0 : Int).toNat (-1)) ha0 ⟨by decide, by decide⟩
    rw [if_neg (by omega)] at rf
    have ge : getA a (litR k M S0) = -1 := by
      rw [root]
      unfold getA
      rw [if_neg (by
        show ¬ (a < 0)
        omega)]
    rw [ge]
    refine ⟨_, fu.trans (rn.trans rf), fun c i y1 y2 => ?_, rfl⟩
    rw [sp_pI1, if_neg (by omega)]
theorem op_8 (hQ : 1000000 ≤ Q) (hK : sp_PT S) (hL : L ≤ 3072) (hj : j + 6 ≤ L) : ∃ S2, (∀ K, ja_588 Q L xs (j : Int) K S = K S2) ∧ sp_F sp_W7 S S2 := by
  obtain ⟨a, ha⟩ : ∃ a, a = (xs (Int.toNat ((j : Int) + 1))).toInt := ⟨_, rfl⟩
  obtain ⟨b, hb⟩ : ∃ b, b = (xs (Int.toNat ((j : Int) + 2))).toInt := ⟨_, rfl⟩
  have wc : ∀ c g, sp_Wc c g → sp_W7 c g := fun c g y => Or.inl y
  by_cases h : 0 ≤ a ∧ a < S.1 0 5
  · by_cases hb0 : 0 ≤ b
    · obtain ⟨p, hp⟩ : ∃ p : Nat, a = (p : Int) := ⟨a.toNat, by omega⟩
      have k12 := hK.1.2.1
      have hp12 : p < 12 := by omega
      obtain ⟨S0, T0, T1, N, M, φ, ψ, own, up, W, ⟨hF, _, _, _, hR, _⟩, agc, agr, _⟩ := hK.2 p (by omega)
      obtain ⟨k, hk⟩ : ∃ k, k = 313 + 20 * p := ⟨_, rfl⟩
      have ob := (pk_ob p hp12).2
      rw [← hk] at hF hR agc ob
      obtain ⟨R1, R2, R3⟩ := hR
      have g1 : S.1 (k + 18) 1 = ((litR k M S0).length : Int) := by rw [(agc (k + 18) 1 (by omega) (by omega)).1, R1]
      have at' : sp_at S (k + 18) b = getA b (litR k M S0) := by
        unfold sp_at getA
        rw [g1]
        by_cases y : b < ((litR k M S0).length : Int)
        · rw [if_pos ⟨hb0, y⟩, if_pos y, (agc (k + 18 + 1) b.toNat (by omega) (by omega)).1, R3 _ (by omega)]
        · rw [if_neg (fun z => y z.2), if_neg y]
      obtain ⟨v, hv⟩ : ∃ v, v = getA b (litR k M S0) := ⟨_, rfl⟩
      have c1 : jm_174 Q a b S = some (.inl v, S) := by
        unfold jm_174
        rw [(sp_200 hK).1 h, sp_bd, if_neg (by omega), if_pos hb0, hp, Int.toNat_natCast, ← hk, show k + 1 - 1 = k from rfl, sp_151 ob (by omega), sp_bd, at', ← hv]
      obtain ⟨U, hU⟩ : ∃ U, U = ev_pI (ev_pI (ev_pL S 723 0 (ev_i2l v)) 621 0 0) 660 0 (-1) := ⟨_, rfl⟩
      have u1 : ∀ c i, ¬ (c = 621 ∧ i = 0) → ¬ (c = 660 ∧ i = 0) → U.1 c i = S.1 c i := fun c i y1 y2 => by
        rw [hU, sp_pI1, if_neg y2, sp_pI1, if_neg y1]
        rfl
      have ag : AG0 p T0 U := by
        refine AG0_c (AG0_of agr) (fun c i y1 y2 => u1 c i (by omega) (by omega)) (fun c i y1 => ?_)
        rw [hU, sp_pI2, sp_pI2, sp_pL2, if_neg (by omega)]
      obtain ⟨V, s1, s2, s3⟩ := lit_root (Q := Q) (a := b) hF hp12 (by omega) hb0 ag
      have j279 : jm_279 Q a b (ev_pL S 723 0 (ev_i2l v)) = some (v, V) := by
        unfold jm_279
        rw [sp_b, sp_273y (PT_0 (PT_L hK)) (by rw [rd_nk (by decide)]; exact h), sp_bd, if_pos (by decide), if_pos hb0, hp, sp_ck (by omega), sp_if (by rw [al660.1]; omega), sp_b, show Int.toNat 0 = 0 from rfl, ← hU, hv]
        exact s1
      refine ⟨V, fun K => la_8 (c := 0) (b := v) hL hj (by rw [← ha, ← hb]; exact lw_8_ok a b c1) (by rw [← ha, ← hb]; exact j279) ?_ (fun _ => ?_), fun c g y => ?_, fun c g y => ?_, ?_, ?_, ?_, ?_, ?_⟩
      · rw [s2 _ _ (by decide) (by decide), hU, rd_nk (by decide), rd_eq]
      · rw [s3, hU]
        exact rd_L
      · unfold sp_W7 at y
        rw [s2 c g (by omega) (by omega), u1 c g (by omega) (by omega)]
      · rw [s3, hU, sp_pI2, sp_pI2, sp_pL2, if_neg (fun z => y z.1)]
      · rw [s3, hU]
        rfl
      · rw [s3, hU]
        rfl
      · rw [s3, hU]
        rfl
      · rw [s3, hU]
        exact Nat.le_succ _
      · rw [s3, hU]
        exact Nat.le_add_right _ _
    · refine ⟨_, fun K => la_8 (S2 := ev_pI (ev_pI (ev_tick S) 621 0 0) 621 0 2) (c := 2) (b := 0) hL hj (by
        rw [← ha, ← hb]
        refine lw_8_x1 a b ?_
        unfold jm_174
        rw [(sp_200 hK).1 h, sp_bd, if_neg (by omega), if_neg hb0]) (by
        rw [← ha, ← hb]
        unfold jm_279
        rw [sp_b, sp_273y (PT_0 (PT_t hK)) (by rw [rd_nk (by decide)]; exact h), sp_bd, if_pos (by decide), if_neg hb0]
        rfl) rd_eq (fun q => by cases q), sp_F_w sp_F_no2 wc⟩
  · refine ⟨_, fun K => la_8 (S2 := ev_pI (ev_pI (ev_tick S) 621 0 0) 621 0 1) (c := 1) (b := 0) hL hj (by
      rw [← ha, ← hb]
      refine lw_8_x0 a b ?_
      unfold jm_174
      rw [(sp_200 hK).2 h, sp_bd, if_pos rfl]) (by
      rw [← ha, ← hb]
      unfold jm_279
      rw [sp_b, sp_273n (PT_0 (PT_t hK)) (by rw [rd_nk (by decide)]; exact h), sp_bd, if_neg (fun z => z rfl)]
      rfl) rd_eq (fun q => by cases q), sp_F_w sp_F_no2 wc⟩
end OPYI
