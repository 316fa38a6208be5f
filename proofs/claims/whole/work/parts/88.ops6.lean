/-! the components where the law begins -/
theorem s0_DR : sp_DR ev_S0 := by
  have e1 : ev_S0.1 1 1 = 0 := by decide +kernel
  have e2 : ev_S0.1 621 1 = 0 := by decide +kernel
  unfold sp_DR
  rw [e1, e2]
  exact ⟨by omega, by omega, rfl, fun g hg => by omega⟩
theorem s0_BR : sp_BR ev_S0 := fun b hb => by
  have e1 : ∀ b : Fin 3, ev_S0.1 (263 + 2 * b.1) 1 = 0 ∧ ev_S0.1 707 b.1 = 0 := by decide +kernel
  obtain ⟨e2, e3⟩ := e1 ⟨b, hb⟩
  rw [e2, e3]
  exact ⟨by omega, by omega, rfl, fun g hg => by omega⟩
theorem s0_MR : sp_MR ev_S0 := by
  have e1 : ev_S0.1 254 4 = 0 := by decide +kernel
  have e2 : ev_S0.1 621 121 = 0 := by decide +kernel
  unfold sp_MR
  rw [e1, e2]
  exact ⟨by omega, by omega, rfl, fun g hg => by omega⟩
