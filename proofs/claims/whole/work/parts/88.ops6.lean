/-! the components where the law begins -/
theorem s0_DR : sp_DR ev_S0 := by
  have e1 : ev_S0.1 1 1 = 0 := by decide +kernel
  have e2 : ev_S0.1 621 1 = 0 := by decide +kernel
  unfold sp_DR
  rw [e1, e2]
  exact ⟨by omega, by omega, rfl, fun g hg => by omega⟩
theorem s0_BR : sp_BR ev_S0 := fun b hb => by
  have e1 : ∀ b : Fin 3, ev_S0.1 (263 + 2 * b.1) 1 = 0 ∧ ev_S0.1 707 b.1 = 0 := by decide +kernel
  obtain ⟨e2, e3⟩ := e1 ⟨b, hb⟩
  rw [e2, e3]
  exact ⟨by omega, by omega, rfl, fun g hg => by omega⟩
theorem s0_MR : sp_MR ev_S0 := by
  have e1 : ev_S0.1 254 4 = 0 := by decide +kernel
  have e2 : ev_S0.1 621 121 = 0 := by decide +kernel
  unfold sp_MR
  rw [e1, e2]
  exact ⟨by omega, by omega, rfl, fun g hg => by omega⟩
theorem s0_RR : sp_RR ev_S0 := by
  have e1 : ev_S0.1 0 15 = 0 ∧ ev_S0.1 0 16 = 0 ∧ ev_S0.1 621 135 = 0 ∧ ev_S0.1 621 136 = 0 := by decide +kernel
  obtain ⟨e2, e3, e4, e5⟩ := e1
  have e6 : ∀ g : Nat, ev_S0.1 311 g = 0 := fun g => rfl
  unfold sp_RR
  rw [e2, e3, e4, e5]
  exact ⟨by omega, rfl, rfl, Or.inl rfl, fun g hg => by omega, fun g _ => e6 g⟩
theorem s0_LR {n : Int} (hn : 0 ≤ n) : sp_LR n ev_S0 := by
  have e1 : ev_S0.1 254 9 = 0 ∧ ev_S0.1 254 10 = 0 ∧ ev_S0.1 254 11 = 0 ∧ ev_S0.1 254 12 = 0 ∧ ev_S0.1 254 13 = 0 ∧ ev_S0.1 254 14 = 0 ∧ ev_S0.1 621 125 = 0 ∧ ev_S0.1 621 126 = 0 ∧ ev_S0.1 621 128 = 0 ∧ ev_S0.1 621 130 = 0 ∧ ev_S0.1 621 131 = 0 ∧ ev_S0.1 621 132 = 0 := by decide +kernel
  obtain ⟨a1, a2, a3, a4, a5, a6, a7, a8, a9, a10, a11, a12⟩ := e1
  unfold sp_LR
  rw [a1, a2, a3, a4, a5, a6, a7, a8, a9, a10, a11, a12]
  exact ⟨⟨rfl, rfl, rfl, rfl⟩, ⟨by omega, by omega, hn, by omega, Or.inl rfl⟩, fun _ => rfl, fun q => by omega, fun _ => ⟨rfl, rfl⟩, rfl, fun g hg => by omega⟩
