/-! groups of edits: open, shut -/
def sp_bs (f : Nat → Int) (d : Int) : Int := if d = 0 then 0 else f (d - 1).toNat
/-- the log's counts; n: at most so many groups -/
def sp_LR (n : Int) (S : ev_St) : Prop := (S.1 621 130 = S.1 254 12 ∧ S.1 621 131 = S.1 254 13 ∧ S.1 621 132 = S.1 254 14 ∧ S.1 621 126 = S.1 254 11) ∧ (0 ≤ S.1 254 12 ∧ S.1 254 12 ≤ S.1 254 13 ∧ S.1 254 13 ≤ n ∧ 0 ≤ S.1 254 11 ∧ (S.1 254 14 = 0 ∨ S.1 254 14 = 1)) ∧ (S.1 254 14 = 0 → S.1 254 11 = 0) ∧ (0 < S.1 254 11 → S.1 254 12 = S.1 254 13 ∧ S.1 254 12 < n) ∧ (S.1 254 12 = S.1 254 13 → S.1 621 125 = S.1 254 9 ∧ S.1 621 128 = S.1 254 10) ∧ S.1 254 9 = sp_bs (S.1 714) (S.1 254 12) + S.1 254 11 ∧ ∀ g : Nat, (g : Int) < S.1 254 13 → S.1 714 g = sp_bs (S.1 714) g + S.1 261 g
def sp_Wl (b g : Nat) : Prop := (b = 621 ∧ (g = 0 ∨ g = 126 ∨ g = 130 ∨ g = 131 ∨ g = 132)) ∨ (b = 254 ∧ (g = 11 ∨ g = 12 ∨ g = 13 ∨ g = 14)) ∨ b = 261 ∨ b = 714 ∨ b = 715
theorem sp_alnG : ev_aln 261 = 1024 ∧ 1024 ≤ ev_aln 714 ∧ 1024 ≤ ev_aln 715 := by decide +kernel
theorem sp_bs_c {f g : Nat → Int} {d : Int} {m : Nat} (h : ∀ i : Nat, i ≠ m → f i = g i) (h0 : 0 ≤ d) (h1 : d ≤ m) : sp_bs f d = sp_bs g d := by
  unfold sp_bs
  split
  · rfl
  · exact h _ (by omega)
def sp_shC (S : ev_St) : ev_St := ev_pI (ev_pI (ev_pI (ev_pI (ev_pI S 254 14 0) 261 (S.1 254 12).toNat (S.1 254 11)) 254 11 0) 254 12 (S.1 254 12 + 1)) 254 13 (S.1 254 12 + 1)
def sp_shR (S : ev_St) : ev_St := ev_pI (ev_pI (ev_pI (ev_pI (ev_pI (ev_pI (ev_pI S 621 0 0) 621 132 0) 714 (S.1 621 130).toNat (S.1 621 125)) 715 (S.1 621 130).toNat (S.1 621 128)) 621 130 (S.1 621 130 + 1)) 621 131 (S.1 621 130 + 1)) 621 126 0
theorem sp_190_0 {Q : Nat} {S : ev_St} (h : S.1 254 14 ≠ 0) (h0 : S.1 254 11 = 0) : jm_190 Q S = some (.inl (S.1 254 12), ev_pI S 254 14 0) := by
  unfold jm_190 jm_3
  simp [sp_b, sp_pI1, sp_bd, h, h0]
theorem sp_190_1 {Q : Nat} {S : ev_St} (h : S.1 254 14 ≠ 0) (h0 : S.1 254 11 ≠ 0) (h1 : 0 ≤ S.1 254 12 ∧ S.1 254 12 < 1024) : jm_190 Q S = some (.inl (S.1 254 12 + 1), sp_shC S) := by
  have l := sp_alnG.1
  have h2 : ¬ S.1 254 12 < 0 := by omega
  unfold jm_190 jm_3 sp_shC
  simp [sp_b, sp_pI1, h, h0, h2, h1.2]
  rw [sp_if (by rw [l]; omega), sp_ck (by omega)]
  simp [sp_bd, sp_pI1]
theorem sp_190_no {Q : Nat} {S : ev_St} (h : S.1 254 14 = 0) : jm_190 Q S = some (.inr "java/lang/IllegalStateException", ev_tick S) := by
  unfold jm_190
  simp [sp_b, h]
theorem sp_355_0 {Q : Nat} {S : ev_St} (h : S.1 621 132 ≠ 0) (h0 : S.1 621 126 = 0) : jm_355 Q S = some (S.1 621 130, ev_pI (ev_pI S 621 0 0) 621 132 0) := by
  unfold jm_355 jm_344
  simp [sp_b, sp_jn, sp_pI1, sp_bd, h, h0]
theorem sp_355_1 {Q : Nat} {S : ev_St} (h : S.1 621 132 ≠ 0) (h0 : 0 < S.1 621 126) (h1 : 0 ≤ S.1 621 130 ∧ S.1 621 130 < 1024) : jm_355 Q S = some (S.1 621 130 + 1, sp_shR S) := by
  obtain ⟨_, l1, l2⟩ := sp_alnG
  have h2 : ¬ S.1 621 126 ≤ 0 := by omega
  unfold jm_355 jm_344 sp_shR
  simp [sp_b, sp_jn, sp_pI1, h, h2]
  rw [sp_if (by omega), sp_if (by omega), sp_ck (by omega)]
  simp [sp_bd, sp_pI1]
theorem sp_355_no {Q : Nat} {S : ev_St} (h : S.1 621 132 = 0) : jm_355 Q S = some (0, ev_pI S 621 0 1) := by
  unfold jm_355
  simp [sp_b, sp_jn, sp_pI1, h]
section OPS5
variable {Q L j : Nat} {xs : Nat → Int32} {S : ev_St} {n : Int}
/-- open -/
theorem op_23 (hG : sp_LR n S) (hL : L ≤ 3072) (hj : j + 6 ≤ L) : ∃ S2, (∀ K, ja_1732 Q L xs K S = K S2) ∧ sp_LR n S2 ∧ sp_F sp_Wl S S2 := by
  obtain ⟨⟨g1, g2, g3, g4⟩, ⟨g5, g6, g7, g8, g9⟩, g10, g11, g12, g13, g14⟩ := hG
  by_cases h : S.1 254 14 = 0
  · refine ⟨_, fun K => op_23_ok h (by omega) g1.symm hL hj K, ?_, ?_⟩
    · unfold sp_LR
      simp [sp_pI1, sp_pL1]
      refine ⟨⟨g1, g2, g4⟩, ⟨g5, g6, g7, g8⟩, g11, g12, g13, g14⟩
    · refine ⟨fun b g w => ?_, fun b g w => ?_, rfl, rfl, rfl, Nat.le_succ _, Nat.le_add_right _ _⟩
      · unfold sp_Wl at w
        simp only [sp_pI1, sp_pL1]
        rw [if_neg (by omega), if_neg (by omega), if_neg (by omega)]
      · simp only [sp_pI2, sp_pL2]
        rw [if_neg (fun q => w q.1)]
  · refine ⟨_, fun K => op_23_no h (by omega) hL hj K, ?_, ?_⟩
    · unfold sp_LR
      simp [sp_pI1, sp_tick1]
      refine ⟨⟨g1, g2, g3, g4⟩, ⟨g5, g6, g7, g8, g9⟩, g10, g11, g12, g13, g14⟩
    · exact ⟨fun b g w => (sp_F_no (c := 1)).1 b g (fun q => w (Or.inl ⟨q.1, Or.inl q.2⟩)), (sp_F_no (c := 1)).2⟩
/-- shut -/
theorem op_24 (hn : n ≤ 1024) (hG : sp_LR n S) (hL : L ≤ 3072) (hj : j + 6 ≤ L) : ∃ S2, (∀ K, ja_1776 Q L xs K S = K S2) ∧ sp_LR n S2 ∧ sp_F sp_Wl S S2 := by
  have hG0 := hG
  obtain ⟨⟨g1, g2, g3, g4⟩, ⟨g5, g6, g7, g8, g9⟩, g10, g11, g12, g13, g14⟩ := hG
  by_cases h : S.1 254 14 = 0
  · refine ⟨_, fun K => la_24 (c := 1) (b := 0) hL hj (lw_24_x0 (sp_190_no h)) (sp_355_no (S := ev_tick S) (by rw [sp_tick1]; omega)) (by simp [sp_pI1]) (fun q => by cases q), ?_, ?_⟩
    · unfold sp_LR
      simp [sp_pI1, sp_tick1]
      refine ⟨⟨g1, g2, g3, g4⟩, ⟨g5, g6, g7, g8, g9⟩, g10, g11, g12, g13, g14⟩
    · exact ⟨fun b g w => (sp_F_no (c := 1)).1 b g (fun q => w (Or.inl ⟨q.1, Or.inl q.2⟩)), (sp_F_no (c := 1)).2⟩
  · by_cases h0 : S.1 254 11 = 0
    · refine ⟨_, fun K => la_24 (c := 0) (b := S.1 254 12) hL hj (lw_24_ok (sp_190_0 h h0)) ((sp_355_0 (S := ev_pL (ev_pI S 254 14 0) 723 0 (ev_i2l (S.1 254 12))) (by simp [sp_pI1, sp_pL1]; omega) (by simp [sp_pI1, sp_pL1]; omega)).trans (by simp [sp_pI1, sp_pL1, g1]; rfl)) (by simp [sp_pI1]) (fun _ => by simp [sp_pI2, sp_pL2]), ?_, ?_⟩
      · unfold sp_LR
        simp [sp_pI1, sp_pL1]
        refine ⟨⟨g1, g2, g4⟩, ⟨g5, g6, g7, g8⟩, h0, g11, g12, g13, g14⟩
      · refine ⟨fun b g w => ?_, fun b g w => ?_, rfl, rfl, rfl, Nat.le_succ _, Nat.le_add_right _ _⟩
        · unfold sp_Wl at w
          simp only [sp_pI1, sp_pL1]
          rw [if_neg (by omega), if_neg (by omega), if_neg (by omega)]
        · simp only [sp_pI2, sp_pL2]
          rw [if_neg (fun q => w q.1)]
    · obtain ⟨k1, k2⟩ := g11 (by omega)
      obtain ⟨k3, k4⟩ := g12 k1
      have e2 := sp_355_1 (Q := Q) (S := ev_pL (sp_shC S) 723 0 (ev_i2l (S.1 254 12 + 1))) (by unfold sp_shC; simp [sp_pI1, sp_pL1]; omega) (by unfold sp_shC; simp [sp_pI1, sp_pL1]; omega) (by unfold sp_shC; simp [sp_pI1, sp_pL1]; omega)
      have e3 : (ev_pL (sp_shC S) 723 0 (ev_i2l (S.1 254 12 + 1))).1 621 130 + 1 = S.1 254 12 + 1 := by
        unfold sp_shC
        simp [sp_pI1, sp_pL1]
        omega
      rw [e3] at e2
      refine ⟨_, fun K => la_24 (c := 0) (b := S.1 254 12 + 1) hL hj (lw_24_ok (sp_190_1 h h0 ⟨g5, by omega⟩)) e2 (by unfold sp_shR; simp [sp_pI1]) (fun _ => by unfold sp_shR; simp [sp_pI2, sp_pL2]), ?_, ?_⟩
      · have v714 : ∀ g : Nat, (sp_shR (ev_pL (sp_shC S) 723 0 (ev_i2l (S.1 254 12 + 1)))).1 714 g = if g = (S.1 254 12).toNat then S.1 254 9 else S.1 714 g := fun g => by
          unfold sp_shR sp_shC
          simp [sp_pI1, sp_pL1, g1, k3]
        have v261 : ∀ g : Nat, (sp_shR (ev_pL (sp_shC S) 723 0 (ev_i2l (S.1 254 12 + 1)))).1 261 g = if g = (S.1 254 12).toNat then S.1 254 11 else S.1 261 g := fun g => by
          unfold sp_shR sp_shC
          simp [sp_pI1, sp_pL1]
        have vs : (sp_shR (ev_pL (sp_shC S) 723 0 (ev_i2l (S.1 254 12 + 1)))).1 621 130 = S.1 254 12 + 1 ∧ (sp_shR (ev_pL (sp_shC S) 723 0 (ev_i2l (S.1 254 12 + 1)))).1 621 131 = S.1 254 12 + 1 ∧ (sp_shR (ev_pL (sp_shC S) 723 0 (ev_i2l (S.1 254 12 + 1)))).1 621 132 = 0 ∧ (sp_shR (ev_pL (sp_shC S) 723 0 (ev_i2l (S.1 254 12 + 1)))).1 621 126 = 0 ∧ (sp_shR (ev_pL (sp_shC S) 723 0 (ev_i2l (S.1 254 12 + 1)))).1 621 125 = S.1 254 9 ∧ (sp_shR (ev_pL (sp_shC S) 723 0 (ev_i2l (S.1 254 12 + 1)))).1 621 128 = S.1 254 10 ∧ (sp_shR (ev_pL (sp_shC S) 723 0 (ev_i2l (S.1 254 12 + 1)))).1 254 12 = S.1 254 12 + 1 ∧ (sp_shR (ev_pL (sp_shC S) 723 0 (ev_i2l (S.1 254 12 + 1)))).1 254 13 = S.1 254 12 + 1 ∧ (sp_shR (ev_pL (sp_shC S) 723 0 (ev_i2l (S.1 254 12 + 1)))).1 254 14 = 0 ∧ (sp_shR (ev_pL (sp_shC S) 723 0 (ev_i2l (S.1 254 12 + 1)))).1 254 11 = 0 ∧ (sp_shR (ev_pL (sp_shC S) 723 0 (ev_i2l (S.1 254 12 + 1)))).1 254 9 = S.1 254 9 ∧ (sp_shR (ev_pL (sp_shC S) 723 0 (ev_i2l (S.1 254 12 + 1)))).1 254 10 = S.1 254 10 := by
          unfold sp_shR sp_shC
          simp [sp_pI1, sp_pL1, g1, k3, k4]
        generalize sp_shR (ev_pL (sp_shC S) 723 0 (ev_i2l (S.1 254 12 + 1))) = S2 at v714 v261 vs
        obtain ⟨a1, a2, a3, a4, a5, a6, a7, a8, a9, a10, a11, a12⟩ := vs
        have bs : ∀ d : Int, 0 ≤ d → d ≤ S.1 254 12 → sp_bs (S2.1 714) d = sp_bs (S.1 714) d := fun d d0 d1 => sp_bs_c (m := (S.1 254 12).toNat) (fun i hi => by rw [v714, if_neg hi]) d0 (by omega)
        have b1 : sp_bs (S2.1 714) (S.1 254 12 + 1) = S.1 254 9 := by
          unfold sp_bs
          rw [if_neg (by omega), v714, if_pos (by omega)]
        unfold sp_LR
        rw [a1, a2, a3, a4, a5, a6, a7, a8, a9, a10, a11, a12, b1]
        refine ⟨⟨rfl, rfl, rfl, rfl⟩, ⟨by omega, by omega, by omega, by omega, Or.inl rfl⟩, fun _ => rfl, fun q => by omega, fun _ => ⟨rfl, rfl⟩, by omega, fun g hg => ?_⟩
        rw [v714, v261, bs _ (by omega) (by omega)]
        by_cases hgd : g = (S.1 254 12).toNat
        · rw [if_pos hgd, if_pos hgd, hgd, g13, show (((S.1 254 12).toNat : Nat) : Int) = S.1 254 12 from by omega]
        · rw [if_neg hgd, if_neg hgd]
          exact g14 g (by omega)
      · refine ⟨fun b g w => ?_, fun b g w => ?_, rfl, rfl, rfl, Nat.le_succ _, Nat.le_add_right _ _⟩
        · unfold sp_Wl at w
          unfold sp_shR sp_shC
          simp only [sp_pI1, sp_pL1]
          rw [if_neg (by omega), if_neg (by omega), if_neg (by omega), if_neg (by omega), if_neg (by omega), if_neg (by omega), if_neg (by omega), if_neg (by omega), if_neg (by omega), if_neg (by omega), if_neg (by omega), if_neg (by omega)]
        · unfold sp_shR sp_shC
          simp only [sp_pI2, sp_pL2]
          rw [if_neg (fun q => w q.1)]
end OPS5
