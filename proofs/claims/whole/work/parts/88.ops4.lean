/-! macros: record -/
/-- macros: how many, recording or not, how long each is -/
def sp_RR (S : ev_St) : Prop := (0 ≤ S.1 0 15 ∧ S.1 0 15 ≤ 6) ∧ S.1 621 135 = S.1 0 15 ∧ S.1 621 136 = S.1 0 16 ∧ (S.1 0 16 = 0 ∨ S.1 0 16 = 1 ∧ S.1 0 15 < 6) ∧ (∀ g : Nat, (g : Int) < S.1 0 15 + S.1 0 16 → S.1 716 g = S.1 311 g) ∧ ∀ g : Nat, S.1 0 15 + S.1 0 16 ≤ (g : Int) → S.1 311 g = 0
def sp_Wr (b g : Nat) : Prop := (b = 621 ∧ g = 0) ∨ (b = 0 ∧ (g = 15 ∨ g = 16)) ∨ (b = 621 ∧ (g = 135 ∨ g = 136)) ∨ b = 716
theorem sp_359_no {Q : Nat} {S : ev_St} (hc : S.1 621 135 = 6) (hr : S.1 621 136 = 0) : jm_359 Q S = some (0, ev_pI S 621 0 1) := by
  unfold jm_359
  simp [sp_b, sp_jn, sp_pI1, hr, hc]
section OPS4
variable {Q L j : Nat} {xs : Nat → Int32} {S : ev_St}
theorem op_27 (hR : sp_RR S) (hL : L ≤ 3072) (hj : j + 6 ≤ L) : ∃ S2, (∀ K, ja_1908 Q L xs K S = K S2) ∧ sp_RR S2 ∧ sp_F sp_Wr S S2 := by
  obtain ⟨r1, r2, r3, r4, r5, r6⟩ := hR
  by_cases h6 : S.1 0 15 = 6
  · have h0 : S.1 0 16 = 0 := by omega
    refine ⟨_, fun K => la_27 (c := 1) (b := 0) hL hj (lw_27_x0 (sp_193_no (by omega))) (sp_359_no (S := ev_tick S) (by rw [sp_tick1]; omega) (by rw [sp_tick1]; omega)) (by simp [sp_pI1]) (fun q => by cases q), ?_, ?_⟩
    · refine ⟨r1, ?_, ?_, r4, fun g hg => ?_, r6⟩
      · simpa [sp_pI1, sp_tick1] using r2
      · simpa [sp_pI1, sp_tick1] using r3
      · have q := r5 g hg
        simpa [sp_pI1, sp_tick1] using q
    · exact ⟨fun b g w => (sp_F_no (c := 1)).1 b g (fun q => w (Or.inl q)), (sp_F_no (c := 1)).2⟩
  · rcases r4 with h0 | ⟨h0, _⟩
    · refine ⟨_, fun K => op_27_begin r2.symm h0 (by omega) ⟨r1.1, by omega⟩ hL hj K, ?_, ?_⟩
      · refine ⟨by simp [sp_pI1, sp_pL1]; omega, by simp [sp_pI1, sp_pL1]; omega, by simp [sp_pI1, sp_pL1], Or.inr (by simp [sp_pI1, sp_pL1]; omega), fun g hg => ?_, fun g hg => ?_⟩
        · simp [sp_pI1, sp_pL1] at hg ⊢
          by_cases e : g = (S.1 621 135).toNat
          · rw [if_pos e]
            exact (r6 g (by omega)).symm
          · rw [if_neg e]
            exact r5 g (by omega)
        · simp [sp_pI1, sp_pL1] at hg ⊢
          exact r6 g (by omega)
      · refine ⟨fun b g w => ?_, fun b g w => ?_, rfl, rfl, rfl, Nat.le_succ _, Nat.le_add_right _ _⟩
        · unfold sp_Wr at w
          simp only [sp_pI1, sp_pL1]
          rw [if_neg (by omega), if_neg (by omega), if_neg (by omega), if_neg (by omega)]
        · simp only [sp_pI2, sp_pL2]
          rw [if_neg (fun q => w q.1)]
    · refine ⟨_, fun K => op_27_end r2.symm h0 (by omega) ⟨r1.1, by omega⟩ hL hj K, ?_, ?_⟩
      · refine ⟨by simp [sp_pI1, sp_pL1]; omega, by simp [sp_pI1, sp_pL1]; omega, by simp [sp_pI1, sp_pL1], Or.inl (by simp [sp_pI1, sp_pL1]), fun g hg => ?_, fun g hg => ?_⟩
        · simp [sp_pI1, sp_pL1] at hg ⊢
          exact r5 g (by omega)
        · simp [sp_pI1, sp_pL1] at hg ⊢
          exact r6 g (by omega)
      · refine ⟨fun b g w => ?_, fun b g w => ?_, rfl, rfl, rfl, Nat.le_succ _, Nat.le_add_right _ _⟩
        · unfold sp_Wr at w
          simp only [sp_pI1, sp_pL1]
          rw [if_neg (by omega), if_neg (by omega), if_neg (by omega), if_neg (by omega), if_neg (by omega)]
        · simp only [sp_pI2, sp_pL2]
          rw [if_neg (fun q => w q.1)]
end OPS4
