/-! FIND, given what one place comes to -/
section OPYL
variable {Q p k w len n m i j L : Nat} {xs : Nat → Int32} {S S0 S1 S2 T T0 T2 U V : ev_St} {B R : ev_St → ev_St → Prop} {a b x y g vc vr : Int}
def CLs (S0 S : ev_St) : Prop := (∀ c g, c < 621 ∨ 723 < c → ¬ (281 ≤ c ∧ c ≤ 283) → S.1 c g = S0.1 c g) ∧ (∀ c g, c ≠ 723 → S.2.1 c g = S0.2.1 c g) ∧ ∀ c g, c ≠ 281 → S.2.2.1 c g = S0.2.2.1 c g
def RFs (S0 T : ev_St) : Prop := (∀ c g, 621 ≤ c → c < 723 → ¬ (c = 621 ∧ (g = 0 ∨ (73 ≤ g ∧ g ≤ 105))) → ¬ (678 ≤ c ∧ c ≤ 699) → T.1 c g = S0.1 c g) ∧ ∀ c g, c ≠ 723 → T.2.1 c g = S0.2.1 c g
/-- what is still to be shown of the two machines: one place comes to the same on both sides -/
def HSIM (Q : Nat) (S0 : ev_St) : Prop := ∀ p b len : Nat, (p : Int) < S0.1 0 5 → b < 3 → S0.1 (263 + 2 * b) 1 = (len : Int) → ∃ B R, SIM Q p (313 + 20 * p) (263 + 2 * b) len B R ∧ ∀ S T, CLs S0 S → RFs S0 T → T.1 621 73 = (len : Int) → (∀ i, i < len → T.1 678 i = S0.1 708 (200 * b + i)) → B S T
def sp_WS (c g : Nat) : Prop := (c = 621 ∧ (g = 0 ∨ (73 ≤ g ∧ g ≤ 105))) ∨ (281 ≤ c ∧ c ≤ 283) ∨ (678 ≤ c ∧ c ≤ 699)
/-- the frame of a search -/
def sp_FS (S S2 : ev_St) : Prop := (∀ c g, ¬ sp_WS c g → S2.1 c g = S.1 c g) ∧ (∀ c g, c ≠ 723 → S2.2.1 c g = S.2.1 c g) ∧ (∀ c g, c ≠ 281 → S2.2.2.1 c g = S.2.2.1 c g) ∧ S2.2.2.2.1 = S.2.2.2.1 ∧ S2.2.2.2.2.1 = S.2.2.2.2.1 ∧ S2.2.2.2.2.2.1 ≤ S.2.2.2.2.2.1 + 1 ∧ S2.2.2.2.2.2.2 ≤ S.2.2.2.2.2.2 + 6
theorem FS_of {W : Nat → Nat → Prop} (h : sp_F W S S2) (hw : ∀ c g, W c g → sp_WS c g) : sp_FS S S2 := ⟨fun c g y => h.1 c g (fun z => y (hw c g z)), h.2.1, fun c g _ => by rw [h.2.2.1], h.2.2.2.1, h.2.2.2.2.1, h.2.2.2.2.2.1, h.2.2.2.2.2.2⟩
theorem PT_FS (hK : sp_PT S) (hF : sp_FS S S2) : sp_PT S2 := by
  obtain ⟨f, l, _⟩ := hF
  have hc := hK.1
  have f2 : ∀ c g, ¬ (c = 621 ∧ (g = 0 ∨ (73 ≤ g ∧ g ≤ 105))) → ¬ (281 ≤ c ∧ c ≤ 283) → ¬ (678 ≤ c ∧ c ≤ 699) → S2.1 c g = S.1 c g := fun c g y1 y2 y3 => f c g (fun z => by rcases z with z | z | z; exact y1 z; exact y2 z; exact y3 z)
  refine PT_c hK ⟨f2 _ _ (by omega) (by omega) (by omega), f2 _ _ (by omega) (by omega) (by omega)⟩ fun p hp => ⟨fun x i x1 x2 => ⟨f2 x i (by omega) (by omega) (by omega), l x i (by omega)⟩, ⟨fun c g y _ _ => f2 c g (by omega) (by omega) (by omega), fun c g y1 y2 _ _ => l c g (by omega), fun c y => f2 c p (by omega) (by omega) (by omega), fun i _ => f2 _ _ (by omega) (by omega) (by omega), fun i _ => f2 _ _ (by omega) (by omega) (by omega)⟩, f2 _ _ (by omega) (by omega) (by omega), f2 _ _ (by omega) (by omega) (by omega), fun c g y1 y2 _ _ => f2 c g (by omega) (by omega) (by omega)⟩
theorem frC {ρ : Type} {r : ρ} {W : List (Nat × Nat × Nat)} {E : Option (ρ × ev_St)} (h : efo W S E) (e : E = some (r, S1)) (hw : W = wl_115 ∨ W = wl_116) : (∀ c g, ¬ (281 ≤ c ∧ c ≤ 283) → S1.1 c g = S.1 c g) ∧ (∀ c g, S1.2.1 c g = S.2.1 c g) ∧ (∀ c g, c ≠ 281 → S1.2.2.1 c g = S.2.2.1 c g) ∧ S1.2.2.2 = S.2.2.2 := by
  obtain ⟨h1, h2, h3, h4⟩ := h _ _ e
  refine ⟨fun c g y => h1 c g (wm_by (C := fun c => decide (281 ≤ c ∧ c ≤ 283)) (D := fun _ _ => false) ?_ (decide_eq_false y) rfl), fun c g => h2 c g (wm_by (C := fun _ => false) (D := fun _ _ => false) ?_ rfl rfl), fun c g y => h3 c g (wm_by (C := fun c => decide (c = 281)) (D := fun _ _ => false) ?_ (decide_eq_false y) rfl), h4⟩ <;> rcases hw with rfl | rfl <;> decide
theorem frR {ρ : Type} {r : ρ} {W : List (Nat × Nat × Nat)} {E : Option (ρ × ev_St)} (h : efo W S E) (e : E = some (r, S1)) (hw : W = wl_288 ∨ W = wl_308) : (∀ c g, ¬ (c = 621 ∧ 73 ≤ g ∧ g ≤ 105) → ¬ (678 ≤ c ∧ c ≤ 699) → S1.1 c g = S.1 c g) ∧ (∀ c g, S1.2.1 c g = S.2.1 c g) ∧ (∀ c g, S1.2.2.1 c g = S.2.2.1 c g) ∧ S1.2.2.2 = S.2.2.2 := by
  obtain ⟨h1, h2, h3, h4⟩ := h _ _ e
  refine ⟨fun c g y1 y2 => h1 c g (wm_by (C := fun c => decide (678 ≤ c ∧ c ≤ 699)) (D := fun c g => decide (c = 621 ∧ 73 ≤ g ∧ g ≤ 105)) ?_ (decide_eq_false y2) (decide_eq_false y1)), fun c g => h2 c g (wm_by (C := fun _ => false) (D := fun _ _ => false) ?_ rfl rfl), fun c g => h3 c g (wm_by (C := fun _ => false) (D := fun _ _ => false) ?_ rfl rfl), h4⟩ <;> rcases hw with rfl | rfl <;> decide
theorem c273 (h5 : T.1 621 5 = y) (hy : 0 ≤ y ∧ y ≤ 12) : jm_273 Q a T = some (if 0 ≤ a ∧ a < y then 1 else 0, T) := by
  unfold jm_273
  rw [sp_b, h5, sp_ck (by omega), sp_222]
  by_cases z : 0 ≤ a ∧ a < y
  · rw [sp_in1.1 (by omega), sp_bd, if_pos z, sp_if (Or.inr rfl)]
  · rw [sp_in1.2 (by omega), sp_bd, if_neg z, sp_if (Or.inl rfl)]
/-- the reference, loaded and run -/
theorem srch (hS : HSIM Q S) (hQ : 400 ≤ Q) (hp : (p : Int) < S.1 0 5) (hm : m < 3) (hl : S.1 (263 + 2 * m) 1 = (len : Int)) (hl2 : len ≤ 160) (h7 : S.1 707 m = (len : Int)) (hx : 0 ≤ x) : ∃ B vc S1, jm_115 Q (313 + 20 * p + 1) (263 + 2 * m + 1) x S = some (vc, S1) ∧ ∀ T, RFs S T → ∃ T1 vr T2, jm_288 Q (m : Int) T = some ((), T1) ∧ jm_308 Q (p : Int) x 0 T1 = some (vr, T2) ∧ TOLD Q B x vc vr S1 T2 := by
  obtain ⟨B, R, h1, h2⟩ := hS p m len hp hm hl
  have go : ∀ T, RFs S T → ∃ T1, jm_288 Q (m : Int) T = some ((), T1) ∧ B S T1 := fun T hT => by
    obtain ⟨V, v1, v2, v3, v4, v5⟩ := sp_288 (Q := Q) (T := T) hm hl2 (by rw [hT.1 707 m (by omega) (by omega) (by omega) (by omega)]; exact h7) hQ
    refine ⟨V, v1, h2 S V ⟨fun _ _ _ _ => rfl, fun _ _ _ => rfl, fun _ _ _ => rfl⟩ ⟨fun c g y1 y2 y3 y4 => ?_, fun c g y => ?_⟩ v2 (fun i hi => ?_)⟩
    · rw [v4 c g (by omega) (by omega), hT.1 c g y1 y2 y3 y4]
    · rw [v5, hT.2 c g y]
    · rw [v3 i hi, hT.1 _ _ (by omega) (by omega) (by omega) (by omega)]
  obtain ⟨T1, t1, t2⟩ := go S ⟨fun _ _ _ _ _ _ => rfl, fun _ _ _ => rfl⟩
  obtain ⟨vc, vr, S1, T2, s1, _, _⟩ := sp_ahead h1 hl2 hQ t2 hx
  refine ⟨B, vc, S1, s1, fun T hT => ?_⟩
  obtain ⟨U1, u1, u2⟩ := go T hT
  obtain ⟨vc', vr', S1', T2', w1, w2, w3⟩ := sp_ahead h1 hl2 hQ u2 hx
  rw [s1] at w1
  injection w1 with w1
  injection w1 with w4 w5
  subst w4
  subst w5
  exact ⟨U1, vr', T2', u1, w2, w3⟩
theorem op_10 (hS : HSIM Q S) (hQ : 400 ≤ Q) (hK : sp_PT S) (hB : sp_BR S) (hL : L ≤ 3072) (hj : j + 6 ≤ L) : ∃ S2, (∀ K, ja_712 Q L xs (j : Int) K S = K S2) ∧ sp_FS S S2 := by
  obtain ⟨a, ha⟩ : ∃ a, a = (xs (Int.toNat ((j : Int) + 1))).toInt := ⟨_, rfl⟩
  obtain ⟨b, hb⟩ : ∃ b, b = (xs (Int.toNat ((j : Int) + 2))).toInt := ⟨_, rfl⟩
  obtain ⟨x, hx⟩ : ∃ x, x = (xs (Int.toNat ((j : Int) + 3))).toInt := ⟨_, rfl⟩
  obtain ⟨g, hg⟩ : ∃ g, g = (xs (Int.toNat ((j : Int) + 4))).toInt := ⟨_, rfl⟩
  obtain ⟨k1, k2, k3⟩ := hK.1
  have eqv : ((0 ≤ a ∧ a < S.1 0 5) ∧ (0 ≤ b ∧ b < 3) ∧ (0 ≤ x ∧ x ≤ S.1 (263 + 2 * b.toNat) 1) ∧ (0 ≤ g ∧ g ≤ S.1 (313 + 20 * a.toNat) 12)) ↔ ((0 ≤ a ∧ a < S.1 0 5) ∧ (0 ≤ b ∧ b < 3) ∧ (0 ≤ x ∧ x ≤ S.1 707 b.toNat) ∧ 0 ≤ g ∧ g ≤ S.1 636 a.toNat) := by
    have e1 : 0 ≤ b ∧ b < 3 → S.1 707 b.toNat = S.1 (263 + 2 * b.toNat) 1 := fun h => (hB b.toNat (by omega)).2.2.1
    have e2 : 0 ≤ a ∧ a < S.1 0 5 → S.1 (313 + 20 * a.toNat) 12 = S.1 636 a.toNat := fun h => (kp_num (hK.2 a.toNat (by omega))).1.1
    constructor
    · rintro ⟨y1, y2, y3, y4⟩
      rw [← e1 y2] at y3
      rw [e2 y1] at y4
      exact ⟨y1, y2, y3, y4⟩
    · rintro ⟨y1, y2, y3, y4⟩
      rw [e1 y2] at y3
      rw [← e2 y1] at y4
      exact ⟨y1, y2, y3, y4⟩
  by_cases h : (0 ≤ a ∧ a < S.1 0 5) ∧ (0 ≤ b ∧ b < 3) ∧ (0 ≤ x ∧ x ≤ S.1 (263 + 2 * b.toNat) 1) ∧ (0 ≤ g ∧ g ≤ S.1 (313 + 20 * a.toNat) 12)
  · have h203 := (sp_203 (Q := Q) hK).1 h
    have hr := eqv.mp h
    obtain ⟨⟨a1, a2⟩, ⟨b1, b2⟩, ⟨x1, x2⟩, g1, g2⟩ := hr
    obtain ⟨p, hp⟩ : ∃ p : Nat, a = (p : Int) := ⟨a.toNat, by omega⟩
    obtain ⟨m, hm⟩ : ∃ m : Nat, b = (m : Int) := ⟨b.toNat, by omega⟩
    have hm3 : m < 3 := by omega
    have ap : a.toNat = p := by omega
    have bm : b.toNat = m := by omega
    rw [bm] at x2
    rw [ap] at g2
    obtain ⟨c1, c2, c3, _⟩ := hB m hm3
    have n9 := (kp_num (hK.2 p (by omega))).1.2.2
    obtain ⟨len, hl⟩ : ∃ len : Nat, S.1 (263 + 2 * m) 1 = (len : Int) := ⟨(S.1 (263 + 2 * m) 1).toNat, by omega⟩
    obtain ⟨B, vc, S1, s1, s2⟩ := srch (Q := Q) (x := x) hS hQ (show (p : Int) < S.1 0 5 by omega) hm3 hl (by omega) (by omega) x1
    obtain ⟨f1, f2, f3, f4⟩ := frC ef_115 s1 (Or.inl rfl)
    obtain ⟨_, _, _, _, _, t3⟩ := s2 S ⟨fun _ _ _ _ _ _ => rfl, fun _ _ _ => rfl⟩
    obtain ⟨v, v1, _⟩ := told_eq t3 (g := g) ⟨g1, by omega⟩
    have c204 : jm_204 Q a b x g S = some (v, S1) := by
      unfold jm_204
      rw [(sp_200 hK).1 ⟨a1, a2⟩, sp_bd, sp_1b.1 ⟨b1, b2⟩, sp_bd, if_neg (by omega), if_neg (by omega), ap, bm, s1, sp_bd]
      exact v1
    have cc : jm_176 Q a b x g S = some (.inl v, S1) := by
      unfold jm_176
      rw [h203, sp_bd, if_pos (by decide), c204, sp_bd]
    obtain ⟨T, hT⟩ : ∃ T, T = ev_pL S1 723 0 (ev_i2l v) := ⟨_, rfl⟩
    have tI : ∀ c g, T.1 c g = S1.1 c g := fun c g => by rw [hT]; rfl
    obtain ⟨U, hU⟩ : ∃ U, U = ev_pI T 621 0 0 := ⟨_, rfl⟩
    have uI : ∀ c g, ¬ (c = 621 ∧ g = 0) → U.1 c g = S1.1 c g := fun c g y => by rw [hU, sp_pI1, if_neg y, tI]
    have uL : ∀ c g, U.2.1 c g = if c = 723 ∧ g = 0 then ev_i2l v else S1.2.1 c g := fun c g => by rw [hU, sp_pI2, hT, sp_pL2]
    have rf : RFs S U := ⟨fun c g y1 y2 y3 y4 => by rw [uI c g (by omega), f1 c g (by omega)], fun c g y => by rw [uL, if_neg (fun z => y z.1), f2]⟩
    obtain ⟨T1, vr, T2, r1, r2, r3⟩ := s2 U rf
    obtain ⟨v', v2, v3⟩ := told_eq r3 (g := g) ⟨g1, by omega⟩
    have vv : v' = v := by
      exact (congrArg Prod.fst (Option.some.inj (v1.symm.trans v2))).symm
    rw [vv] at v3
    have tc : jm_273 Q a T = some (1, T) := by
      rw [c273 (y := S.1 0 5) (by rw [tI, f1 _ _ (by omega)]; exact k3) ⟨k1, k2⟩, if_pos ⟨a1, a2⟩]
    have j328 : jm_328 Q a b x g T = some (v, T2) := by
      rw [ref_328y tc ⟨a1, by omega⟩ ⟨b1, b2⟩ ⟨x1, by rw [tI, f1 _ _ (by omega), bm]; exact x2⟩ ⟨g1, by rw [tI, f1 _ _ (by omega), ap]; exact g2⟩, ← hU, hm, r1, sp_bd, hp, r2, sp_bd, v3, sp_bd]
    obtain ⟨q1, q2, q3, q4⟩ := frR ef_288 r1 (Or.inl rfl)
    obtain ⟨o1, o2, o3, o4⟩ := frR ef_308 r2 (Or.inr rfl)
    have e4 : T2.2.2.2 = S.2.2.2 := by
      rw [o4, q4, hU]
      show T.2.2.2 = _
      rw [hT]
      exact f4
    refine ⟨T2, fun K => la_10 (c := 0) (b := v) hL hj (by rw [← ha, ← hb, ← hx, ← hg]; exact lw_10_ok a b x g cc) (by rw [← ha, ← hb, ← hx, ← hg, ← hT]; exact j328) ?_ (fun _ => ?_), fun c g y => ?_, fun c g y => ?_, fun c g y => ?_, by rw [e4], by rw [e4], by rw [e4]; exact Nat.le_succ _, by rw [e4]; exact Nat.le_add_right _ _⟩
    · rw [o1 _ _ (by omega) (by omega), q1 _ _ (by omega) (by omega), hU, rd_eq]
    · rw [o2, q2, uL, if_pos ⟨rfl, rfl⟩]
    · unfold sp_WS at y
      rw [o1 _ _ (by omega) (by omega), q1 _ _ (by omega) (by omega), uI _ _ (by omega), f1 _ _ (by omega)]
    · rw [o2, q2, uL, if_neg (fun z => y z.1), f2]
    · rw [o3, q3, hU]
      show T.2.2.1 c g = _
      rw [hT]
      exact f3 c g y
  · have h203 := (sp_203 (Q := Q) hK).2 h
    refine ⟨_, fun K => la_10 (S2 := ev_pI (ev_tick S) 621 0 1) (c := 1) (b := 0) hL hj (by
      rw [← ha, ← hb, ← hx, ← hg]
      refine lw_10_x0 a b x g ?_
      unfold jm_176
      rw [h203, sp_bd, if_neg (fun z => z rfl)]) (by
      rw [← ha, ← hb, ← hx, ← hg]
      exact ref_328n (n := S.1 0 5) (c273 (T := ev_tick S) k3 ⟨k1, k2⟩) k2 (fun z => h (eqv.mpr z))) rd_eq (fun q => by cases q), FS_of sp_F_no (fun c g y => Or.inl ⟨y.1, Or.inl y.2⟩)⟩
end OPYL
