/-! the components where the law begins -/
theorem s0_DR : sp_DR ev_S0 := by
  have e1 : ev_S0.1 1 1 = 0 := by decide +kernel
  have e2 : ev_S0.1 621 1 = 0 := by decide +kernel
  unfold sp_DR
  rw [e1, e2]
  exact ⟨by omega, by omega, rfl, fun g hg => by omega⟩
theorem s0_BR : sp_BR ev_S0 := fun b hb => by
  have e1 : ∀ b : Fin 3, ev_S0.1 (263 + 2 * b.1) 1 = 0 ∧ ev_S0.1 707 b.1 = 0 := by decide +kernel
  obtain ⟨e2, e3⟩ := e1 ⟨b, hb⟩
  rw [e2, e3]
  exact ⟨by omega, by omega, rfl, fun g hg => by omega⟩
theorem s0_MR : sp_MR ev_S0 := by
  have e1 : ev_S0.1 254 4 = 0 := by decide +kernel
  have e2 : ev_S0.1 621 121 = 0 := by decide +kernel
  unfold sp_MR
  rw [e1, e2]
  exact ⟨by omega, by omega, rfl, fun g hg => by omega⟩
theorem s0_RR : sp_RR ev_S0 := by
  have e1 : ev_S0.1 0 15 = 0 ∧ ev_S0.1 0 16 = 0 ∧ ev_S0.1 621 135 = 0 ∧ ev_S0.1 621 136 = 0 := by decide +kernel
  obtain ⟨e2, e3, e4, e5⟩ := e1
  have e6 : ∀ g : Nat, ev_S0.1 311 g = 0 := fun g => rfl
  unfold sp_RR
  rw [e2, e3, e4, e5]
  exact ⟨by omega, rfl, rfl, Or.inl rfl, fun g hg => by omega, fun g _ => e6 g⟩
theorem s0_LR {n : Int} (hn : 0 ≤ n) : sp_LR n ev_S0 := by
  have e1 : ev_S0.1 254 9 = 0 ∧ ev_S0.1 254 10 = 0 ∧ ev_S0.1 254 11 = 0 ∧ ev_S0.1 254 12 = 0 ∧ ev_S0.1 254 13 = 0 ∧ ev_S0.1 254 14 = 0 ∧ ev_S0.1 621 125 = 0 ∧ ev_S0.1 621 126 = 0 ∧ ev_S0.1 621 128 = 0 ∧ ev_S0.1 621 130 = 0 ∧ ev_S0.1 621 131 = 0 ∧ ev_S0.1 621 132 = 0 := by decide +kernel
  obtain ⟨a1, a2, a3, a4, a5, a6, a7, a8, a9, a10, a11, a12⟩ := e1
  unfold sp_LR
  rw [a1, a2, a3, a4, a5, a6, a7, a8, a9, a10, a11, a12]
  exact ⟨⟨rfl, rfl, rfl, rfl⟩, ⟨by omega, by omega, hn, by omega, Or.inl rfl⟩, fun _ => rfl, fun q => by omega, fun _ => ⟨rfl, rfl⟩, rfl, fun g hg => by omega⟩
/-! macros and log over a frame -/
theorem sp_RR_F {S S2 : ev_St} {W : Nat → Nat → Prop} (hR : sp_RR S) (hF : sp_F W S S2) (h1 : ∀ g, g = 15 ∨ g = 16 → ¬ W 0 g) (h2 : ∀ g, g = 135 ∨ g = 136 → ¬ W 621 g) (h3 : ∀ g, ¬ W 311 g) (h4 : ∀ g, ¬ W 716 g) : sp_RR S2 := by
  obtain ⟨f, _⟩ := hF
  obtain ⟨r1, r2, r3, r4, r5, r6⟩ := hR
  unfold sp_RR
  rw [f 0 15 (h1 _ (Or.inl rfl)), f 0 16 (h1 _ (Or.inr rfl)), f 621 135 (h2 _ (Or.inl rfl)), f 621 136 (h2 _ (Or.inr rfl))]
  refine ⟨r1, r2, r3, r4, fun g hg => ?_, fun g hg => ?_⟩
  · rw [f 716 g (h4 g), f 311 g (h3 g)]
    exact r5 g hg
  · rw [f 311 g (h3 g)]
    exact r6 g hg
theorem sp_LR_F {S S2 : ev_St} {n : Int} {W : Nat → Nat → Prop} (hG : sp_LR n S) (hF : sp_F W S S2) (h1 : ∀ g, 9 ≤ g ∧ g ≤ 14 → ¬ W 254 g) (h2 : ∀ g, 125 ≤ g ∧ g ≤ 132 → ¬ W 621 g) (h3 : ∀ g, ¬ W 261 g) (h4 : ∀ g, ¬ W 714 g) : sp_LR n S2 := by
  obtain ⟨f, _⟩ := hF
  have e : S2.1 714 = S.1 714 := funext fun g => f 714 g (h4 g)
  unfold sp_LR at hG ⊢
  rw [f 254 9 (h1 _ (by omega)), f 254 10 (h1 _ (by omega)), f 254 11 (h1 _ (by omega)), f 254 12 (h1 _ (by omega)), f 254 13 (h1 _ (by omega)), f 254 14 (h1 _ (by omega)), f 621 125 (h2 _ (by omega)), f 621 126 (h2 _ (by omega)), f 621 128 (h2 _ (by omega)), f 621 130 (h2 _ (by omega)), f 621 131 (h2 _ (by omega)), f 621 132 (h2 _ (by omega)), e]
  obtain ⟨g1, g2, g3, g4, g5, g6, g7⟩ := hG
  refine ⟨g1, g2, g3, g4, g5, g6, fun g hg => ?_⟩
  rw [f 261 g (h3 g)]
  exact g7 g hg
theorem sp_LR_mono {S : ev_St} {n m : Int} (h : n ≤ m) (hG : sp_LR n S) : sp_LR m S := by
  obtain ⟨g1, ⟨g2, g3, g4, g5, g6⟩, g7, g8, g9⟩ := hG
  exact ⟨g1, ⟨g2, g3, by omega, g5, g6⟩, g7, fun q => ⟨(g8 q).1, by have := (g8 q).2; omega⟩, g9⟩
