/-! ASSEMBLY: calls 21, 23, 24, 25, 26 over the whole log -/
section OSS
variable {Q L j : Nat} {xs : Nat → Int32} {S S2 A B : ev_St} {n : Int} {D : lg_D}
theorem det {f : (ev_St → Option (Int × ev_St)) → ev_St → Option (Int × ev_St)} (h1 : ∀ K, f K S = K A) (h2 : ∀ K, f K S = K B) : A = B :=
  congrArg Prod.snd (Option.some.inj (((h1 (fun s => some (0, s))).symm.trans (h2 (fun s => some (0, s)))) : some ((0 : Int), A) = some (0, B)))
/-- the log where marks changed, no group, no step -/
theorem LG_M (h : LG n D S) (hF : sp_F sp_Wm S S2) (hM : sp_MR S2) : LG n D S2 := by
  obtain ⟨h1, ⟨c1, ⟨c2, c3, c4⟩, c5, c6, c7, c8, c9⟩, h3, h4, h5⟩ := h
  have f : ∀ c g, c ≠ 256 → c ≠ 257 → c ≠ 258 → ¬ (c = 254 ∧ g = 4) → ¬ (709 ≤ c ∧ c ≤ 711) → ¬ (c = 621 ∧ (g = 0 ∨ g = 121)) → S2.1 c g = S.1 c g := fun c g y1 y2 y3 y4 y5 y6 => hF.1 c g (by unfold sp_Wm; omega)
  have e714 : S2.1 714 = S.1 714 := funext fun g => f 714 g (by omega) (by omega) (by omega) (by omega) (by omega) (by omega)
  have eE : lg_E S2 = lg_E S := by
    unfold lg_E
    rw [e714, f 254 12 (by omega) (by omega) (by omega) (by omega) (by omega) (by omega), f 254 13 (by omega) (by omega) (by omega) (by omega) (by omega) (by omega), f 254 9 (by omega) (by omega) (by omega) (by omega) (by omega) (by omega)]
  have hR : RGs S S2 := fun a j _ => by rw [hF.2.2.1]
  have hN : ev_sN S2 = ev_sN S := hF.2.2.2.2.1
  unfold LG
  rw [eE, f 254 9 (by omega) (by omega) (by omega) (by omega) (by omega) (by omega), f 254 13 (by omega) (by omega) (by omega) (by omega) (by omega) (by omega), f 621 125 (by omega) (by omega) (by omega) (by omega) (by omega) (by omega), f 621 128 (by omega) (by omega) (by omega) (by omega) (by omega) (by omega), e714]
  refine ⟨sp_LR_F h1 hF (fun g y => by unfold sp_Wm; omega) (fun g y => by unfold sp_Wm; omega) (fun g => by unfold sp_Wm; omega) (fun g => by unfold sp_Wm; omega), ⟨c1, ⟨(f 254 9 (by omega) (by omega) (by omega) (by omega) (by omega) (by omega)).trans c2, (f 254 10 (by omega) (by omega) (by omega) (by omega) (by omega) (by omega)).trans c3, fun b hb => by rw [f _ _ (by omega) (by omega) (by omega) (by omega) (by omega) (by omega), c4 b hb]⟩, lg_W_c2 c5 hR hN, t2_B_c c6 (fun b g h1 h2 => f b g (by omega) (by omega) (by omega) (by omega) (by omega) (by omega)) (fun b g hb => f b g (by omega) (by omega) (by omega) (by omega) (by omega) (by omega)), hM, c8, lg_H_c2 c9 c5 hR (fun k g hk => f k g (by omega) (by omega) (by omega) (by omega) (by omega) (by omega)) (fun k g hk => f k g (by omega) (by omega) (by omega) (by omega) (by omega) (by omega))⟩, h3, h4, fun g hg => ?_⟩
  rw [f 261 g (by omega) (by omega) (by omega) (by omega) (by omega) (by omega), f 715 g (by omega) (by omega) (by omega) (by omega) (by omega) (by omega)]
  exact h5 g hg
/-- the log where only what is open changes -/
theorem LG_O (h : LG n D S) (hLR : sp_LR n S2) (f : ∀ c g, ¬ (c = 254 ∧ g = 14) → ¬ (c = 621 ∧ (g = 0 ∨ g = 132)) → S2.1 c g = S.1 c g) (hR : S2.2.2.1 = S.2.2.1) (hN : ev_sN S2 = ev_sN S) : LG n D S2 := by
  obtain ⟨h1, h2, h3, h4, h5⟩ := h
  have e714 : S2.1 714 = S.1 714 := funext fun g => f 714 g (by omega) (by omega)
  have eE : lg_E S2 = lg_E S := by
    unfold lg_E
    rw [e714, f 254 12 (by omega) (by omega), f 254 13 (by omega) (by omega), f 254 9 (by omega) (by omega)]
  unfold LG
  rw [eE, f 254 9 (by omega) (by omega), f 254 13 (by omega) (by omega), f 621 125 (by omega) (by omega), f 621 128 (by omega) (by omega), e714]
  refine ⟨hLR, lg_C_c h2 (fun k g hk => f k g (by omega) (by omega)) hR hN (fun k g hk => f k g (by omega) (by omega)), h3, h4, fun g hg => ?_⟩
  rw [f 261 g (by omega) (by omega), f 715 g (by omega) (by omega)]
  exact h5 g hg
theorem B8_O (h8 : B8 D S S) (f : ∀ c g, ¬ (c = 254 ∧ g = 14) → ¬ (c = 621 ∧ (g = 0 ∨ g = 132)) → S2.1 c g = S.1 c g) : B8 D S2 S2 := B8_c h8 (fun b hb => f _ _ (by omega) (by omega)) (f _ _ (by omega) (by omega)) (fun g => f _ _ (by omega) (by omega))
theorem op_23L (hG : LG n D S) (h8 : B8 D S S) (hL : L ≤ 3072) (hj : j + 6 ≤ L) : ∃ S2, (∀ K, ja_1732 Q L xs K S = K S2) ∧ LG n D S2 ∧ B8 D S2 S2 ∧ sp_F sp_Wl S S2 := by
  obtain ⟨S2, k1, k2, k3⟩ := op_23 (Q := Q) (xs := xs) hG.1 hL hj
  obtain ⟨⟨g1, g2, g3, g4⟩, ⟨g5, g6, g7, g8, g9⟩, g10, _⟩ := hG.1
  by_cases h : S.1 254 14 = 0
  · have e := det k1 (fun K => op_23_ok (Q := Q) (xs := xs) h (by omega) g1.symm hL hj K)
    have f : ∀ c g, ¬ (c = 254 ∧ g = 14) → ¬ (c = 621 ∧ (g = 0 ∨ g = 132)) → S2.1 c g = S.1 c g := fun c g y1 y2 => by
      rw [e, sp_pI1, if_neg (by omega), sp_pI1, if_neg (by omega), sp_pL1, sp_pI1, if_neg y1]
    exact ⟨S2, k1, LG_O hG k2 f k3.2.2.1 k3.2.2.2.2.1, B8_O h8 f, k3⟩
  · have e := det k1 (fun K => op_23_no (Q := Q) (xs := xs) h (by omega) hL hj K)
    have f : ∀ c g, ¬ (c = 254 ∧ g = 14) → ¬ (c = 621 ∧ (g = 0 ∨ g = 132)) → S2.1 c g = S.1 c g := fun c g y1 y2 => by
      rw [e, sp_pI1, if_neg (by omega)]
      rfl
    exact ⟨S2, k1, LG_O hG k2 f k3.2.2.1 k3.2.2.2.2.1, B8_O h8 f, k3⟩
theorem op_24L (hn : n ≤ 512) (hG : LG n D S) (h8 : B8 D S S) (hL : L ≤ 3072) (hj : j + 6 ≤ L) : ∃ S2, (∀ K, ja_1776 Q L xs K S = K S2) ∧ LG n D S2 ∧ B8 D S2 S2 ∧ sp_F sp_Wl S S2 := by
  obtain ⟨S2, k1, k2, k3⟩ := op_24 (Q := Q) (xs := xs) (n := n) (by omega) hG.1 hL hj
  have hG0 := hG
  obtain ⟨⟨⟨g1, g2, g3, g4⟩, ⟨g5, g6, g7, g8, g9⟩, g10, g11, g12, g13, g14⟩, hC, hE, ⟨h125, h128⟩, h261⟩ := hG
  by_cases h : S.1 254 14 = 0
  · have e := det k1 (fun K => la_24 (Q := Q) (xs := xs) (K := K) (c := 1) (b := 0) hL hj (lw_24_x0 (sp_190_no h)) (sp_355_no (S := ev_tick S) (by rw [sp_tick1]; omega)) (by simp [sp_pI1]) (fun q => by cases q))
    have f : ∀ c g, ¬ (c = 254 ∧ g = 14) → ¬ (c = 621 ∧ (g = 0 ∨ g = 132)) → S2.1 c g = S.1 c g := fun c g y1 y2 => by
      rw [e, sp_pI1, if_neg (by omega)]
      rfl
    exact ⟨S2, k1, LG_O hG0 k2 f k3.2.2.1 k3.2.2.2.2.1, B8_O h8 f, k3⟩
  · by_cases h0 : S.1 254 11 = 0
    · have e := det k1 (fun K => la_24 (Q := Q) (xs := xs) (K := K) (c := 0) (b := S.1 254 12) hL hj (lw_24_ok (sp_190_0 h h0)) ((sp_355_0 (S := ev_pL (ev_pI S 254 14 0) 723 0 (ev_i2l (S.1 254 12))) (by simp [sp_pI1, sp_pL1]; omega) (by simp [sp_pI1, sp_pL1]; omega)).trans (by simp [sp_pI1, sp_pL1, g1]; rfl)) (by simp [sp_pI1]) (fun _ => by simp [sp_pI2, sp_pL2]))
      have f : ∀ c g, ¬ (c = 254 ∧ g = 14) → ¬ (c = 621 ∧ (g = 0 ∨ g = 132)) → S2.1 c g = S.1 c g := fun c g y1 y2 => by
        rw [e, sp_pI1, if_neg (by omega), sp_pI1, if_neg (by omega), sp_pL1, sp_pI1, if_neg y1]
      exact ⟨S2, k1, LG_O hG0 k2 f k3.2.2.1 k3.2.2.2.2.1, B8_O h8 f, k3⟩
    · obtain ⟨y1, y2⟩ := g11 (by omega)
      obtain ⟨y3, y4⟩ := g12 y1
      have e2 := sp_355_1 (Q := Q) (S := ev_pL (sp_shC S) 723 0 (ev_i2l (S.1 254 12 + 1))) (by unfold sp_shC; simp [sp_pI1, sp_pL1]; omega) (by unfold sp_shC; simp [sp_pI1, sp_pL1]; omega) (by unfold sp_shC; simp [sp_pI1, sp_pL1]; omega)
      have e3 : (ev_pL (sp_shC S) 723 0 (ev_i2l (S.1 254 12 + 1))).1 621 130 + 1 = S.1 254 12 + 1 := by
        unfold sp_shC
        simp [sp_pI1, sp_pL1]
        omega
      rw [e3] at e2
      have e := det k1 (fun K => la_24 (Q := Q) (xs := xs) (K := K) (c := 0) (b := S.1 254 12 + 1) hL hj (lw_24_ok (sp_190_1 h h0 ⟨g5, by omega⟩)) e2 (by unfold sp_shR; simp [sp_pI1]) (fun _ => by unfold sp_shR; simp [sp_pI2, sp_pL2]))
      have v714 : ∀ g : Nat, S2.1 714 g = if g = (S.1 254 12).toNat then S.1 254 9 else S.1 714 g := fun g => by
        rw [e]
        unfold sp_shR sp_shC
        simp [sp_pI1, sp_pL1, g1, y3]
      have v715 : ∀ g : Nat, S2.1 715 g = if g = (S.1 254 12).toNat then S.1 621 128 else S.1 715 g := fun g => by
        rw [e]
        unfold sp_shR sp_shC
        simp [sp_pI1, sp_pL1, g1]
      have v261 : ∀ g : Nat, S2.1 261 g = if g = (S.1 254 12).toNat then S.1 254 11 else S.1 261 g := fun g => by
        rw [e]
        unfold sp_shR sp_shC
        simp [sp_pI1, sp_pL1]
      have f : ∀ c g, ¬ (c = 254 ∧ 11 ≤ g ∧ g ≤ 14) → ¬ (c = 621 ∧ (g = 0 ∨ g = 126 ∨ (130 ≤ g ∧ g ≤ 132))) → c ≠ 261 → c ≠ 714 → c ≠ 715 → S2.1 c g = S.1 c g := fun c g y1 y2 y3 y4 y5 => k3.1 c g (by unfold sp_Wl; omega)
      have v12 : S2.1 254 12 = S.1 254 12 + 1 ∧ S2.1 254 13 = S.1 254 12 + 1 := by
        rw [e]
        unfold sp_shR sp_shC
        simp [sp_pI1, sp_pL1]
      have eE : lg_E S2 = lg_E S := by
        unfold lg_E
        rw [v12.1, v12.2, if_pos rfl, if_pos y1, f 254 9 (by omega) (by omega) (by omega) (by omega) (by omega)]
      have eE9 : lg_E S = S.1 254 9 := by
        unfold lg_E
        rw [if_pos y1]
      have c9 := hC.2.1.1
      refine ⟨S2, k1, ?_, ⟨fun b hb => by rw [f _ _ (by omega) (by omega) (by omega) (by omega) (by omega)]; exact h8.1 b hb, h8.2.1, fun g hg b hb => ?_⟩, k3⟩
      · unfold LG
        rw [eE, v12.2, f 254 9 (by omega) (by omega) (by omega) (by omega) (by omega), f 621 125 (by omega) (by omega) (by omega) (by omega) (by omega), f 621 128 (by omega) (by omega) (by omega) (by omega) (by omega)]
        refine ⟨k2, lg_C_c hC (fun k g hk => f k g (by omega) (by omega) (by omega) (by omega) (by omega)) k3.2.2.1 k3.2.2.2.2.1 (fun k g hk => f k g (by omega) (by omega) (by omega) (by omega) (by omega)), hE, ⟨h125, h128⟩, fun g hg => ?_⟩
        rw [v261, v715, v714]
        by_cases z : g = (S.1 254 12).toNat
        · rw [if_pos z, if_pos z, if_pos z]
          exact ⟨by omega, by rw [h128, eE9]⟩
        · rw [if_neg z, if_neg z, if_neg z]
          exact h261 g (by omega)
      · rw [v12.2] at hg
        rw [v714]
        by_cases z : g = (S.1 254 12).toNat
        · rw [if_pos z, ← hC.2.1.2.2 b hb]
          exact h8.1 b hb
        · rw [if_neg z]
          exact h8.2.2 g (by omega) b hb
/-- behind undo and redo -/
theorem B8_u (h : LG n D S) (h2 : LG n D S2) (h8 : B8 D S S) (hF : sp_F sp_Wu S S2) : B8 D S2 S2 := by
  obtain ⟨⟨⟨g1, g2, g3, g4⟩, ⟨g5, g6, g7, g8, g9⟩, g10, g11, g12, g13, g14⟩, hC, hE, h125, h261⟩ := h
  obtain ⟨⟨⟨r1, r2, r3, r4⟩, ⟨r5, r6, r7, r8, r9⟩, r10, r11, r12, r13, r14⟩, rC, rE, r125, r261⟩ := h2
  have f : ∀ c g, ¬ (c = 254 ∧ (g = 9 ∨ g = 10 ∨ g = 12)) → ¬ (c = 621 ∧ (g = 0 ∨ g = 130)) → c ≠ 258 → ¬ (262 ≤ c ∧ c ≤ 268) → c ≠ 707 → c ≠ 708 → c ≠ 710 → S2.1 c g = S.1 c g := fun c g y1 y2 y3 y4 y5 y6 y7 => hF.1 c g (by unfold sp_Wu; omega)
  have e714 : S2.1 714 = S.1 714 := funext fun g => f 714 g (by omega) (by omega) (by omega) (by omega) (by omega) (by omega) (by omega)
  have e11 := f 254 11 (by omega) (by omega) (by omega) (by omega) (by omega) (by omega) (by omega)
  have e13 := f 254 13 (by omega) (by omega) (by omega) (by omega) (by omega) (by omega) (by omega)
  refine ⟨fun b hb => ?_, h8.2.1, fun g hg b hb => ?_⟩
  · rw [rC.2.1.2.2 b hb]
    by_cases z : 0 < S.1 254 11
    · have q1 := g11 z
      have q2 := r11 (by omega)
      have q3 : S2.1 254 12 = S.1 254 12 := by omega
      have q4 : S2.1 254 9 = S.1 254 9 := by rw [r13, g13, e714, q3, e11]
      rw [q4, ← hC.2.1.2.2 b hb]
      exact h8.1 b hb
    · have q4 : S2.1 254 9 = sp_bs (S.1 714) (S2.1 254 12) := by rw [r13, e714]; omega
      rw [q4]
      by_cases w : S2.1 254 12 = 0
      · have e0 : sp_bs (S.1 714) 0 = 0 := rfl
        rw [w, e0]
        exact h8.2.1 b hb
      · have e1 : sp_bs (S.1 714) (S2.1 254 12) = S.1 714 (S2.1 254 12 - 1).toNat := if_neg w
        rw [e1]
        exact h8.2.2 _ (by omega) b hb
  · rw [e714]
    rw [e13] at hg
    exact h8.2.2 g hg b hb
end OSS
