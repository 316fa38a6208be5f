/-! ASSEMBLY: where the law begins -/
section OSU
variable {Q L j k B : Nat} {xs : Nat → Int32} {S S2 : ev_St} {n : Int} {D D' : lg_D}
def D0 : lg_D := (fun _ => 0, fun _ => 0, fun _ => 0, fun _ => 0, fun _ _ => 0, fun _ => 0)
theorem s0_PA : sp_PA ev_S0 := by
  have e : ∀ l : Fin 26, ev_S0.1 5 l.1 = 0 ∧ ev_S0.1 623 l.1 = -1 := by decide +kernel
  refine ⟨fun l hl => Or.inl (e ⟨l, hl⟩), fun _ => 0, fun l hl h => ?_⟩
  have := (e ⟨l, hl⟩).1
  rw [this] at h
  exact absurd h (by decide)
theorem s0_PT : sp_PT ev_S0 := by
  have e : ev_S0.1 0 5 = 0 ∧ ev_S0.1 621 5 = 0 := by decide +kernel
  refine ⟨⟨by rw [e.1]; decide, by rw [e.1]; decide, by rw [e.1, e.2]⟩, fun p hp => ?_⟩
  rw [e.1] at hp
  omega
theorem s0_TR : sp_TR ev_S0 := by
  have e : ev_S0.1 0 7 = 0 ∧ ev_S0.1 621 110 = 0 := by decide +kernel
  unfold sp_TR
  rw [e.1, e.2]
  exact ⟨⟨by decide, by decide⟩, rfl, fun t ht => by omega⟩
theorem s0_W : lg_W ev_S0 := by
  have e : ∀ i : Nat, ev_S0.2.2.1 259 i = 0 ∧ ev_S0.2.2.1 260 i = 0 := fun i => ⟨rfl, rfl⟩
  have z : ∀ a i, a = 259 ∨ a = 260 → ev_S0.2.2.1 a i = 0 := fun a i h => by
    rcases h with h | h
    · rw [h]
      exact (e i).1
    · rw [h]
      exact (e i).2
  have ln : ∀ a, a = 259 ∨ a = 260 → lg_n a ev_S0 = 0 := fun a h => by
    unfold lg_n
    rw [List.countP_eq_zero]
    intro i _
    rw [z a i h]
    decide
  refine ⟨Nat.le_refl _, fun a i h y => absurd (z a i h) y, fun a i b j h _ y => absurd (z a i h) y, ?_⟩
  rw [ln 259 (Or.inl rfl), ln 260 (Or.inr rfl)]
  rfl
theorem s0_BRg : t2_B_g ev_S0 ev_S0 := fun b hb => by
  have e1 : ∀ b : Fin 3, ev_S0.1 (263 + 2 * b.1) 1 = 0 ∧ ev_S0.1 707 b.1 = 0 := by decide +kernel
  obtain ⟨e2, e3⟩ := e1 ⟨b, hb⟩
  rw [e2, e3]
  exact ⟨by omega, by omega, rfl, fun g hg => by omega⟩
theorem s0_LG : LG_g 0 D0 ev_S0 := by
  have e : ev_S0.1 254 9 = 0 ∧ ev_S0.1 254 10 = 0 ∧ ev_S0.1 254 12 = 0 ∧ ev_S0.1 254 13 = 0 ∧ ev_S0.1 621 125 = 0 ∧ ev_S0.1 621 128 = 0 := by decide +kernel
  obtain ⟨e1, e2, e3, e4, e5, e6⟩ := e
  have eb : ∀ b : Fin 3, ev_S0.1 (263 + 2 * b.1) 1 = 0 := by decide +kernel
  have eE : lg_E ev_S0 = 0 := by
    unfold lg_E
    rw [e3, e4, if_pos rfl, e1]
  unfold LG_g
  rw [eE, e1, e4, e5, e6]
  exact ⟨s0_LR (Int.le_refl 0), ⟨Nat.le_refl _, ⟨e1, e2, fun b hb => eb ⟨b, hb⟩⟩, s0_W, s0_BRg, s0_MR, ⟨rfl, fun k hk => absurd hk (Nat.not_lt_zero k)⟩, fun k hk => absurd hk (Nat.not_lt_zero k), fun j hj => by
    have : dS D0 (0 : Int).toNat = 0 := rfl
    omega⟩, ⟨Int.le_refl 0, Int.le_refl 0, Int.le_refl 0⟩, ⟨rfl, rfl⟩, fun g hg => by omega⟩
theorem s0_B8 : B8 D0 ev_S0 ev_S0 := by
  have eb : ∀ b : Fin 3, ev_S0.1 (263 + 2 * b.1) 1 = 0 := by decide +kernel
  have e4 : ev_S0.1 254 13 = 0 := by decide +kernel
  refine ⟨fun b hb => by rw [eb ⟨b, hb⟩]; decide, fun b _ => (by decide : (0 : Int) ≤ 80), fun g hg => ?_⟩
  rw [e4] at hg
  omega
theorem s0_RM : sp_RM ev_S0 := fun g hg => by
  have e : ev_S0.1 0 15 = 0 ∧ ev_S0.1 0 16 = 0 := by decide +kernel
  rw [e.1, e.2] at hg
  omega
theorem s0_TH1 : THn 284 20 0 ev_S0 := by
  have e : ev_S0.2.2.1 284 2 = 286 ∧ ev_S0.2.2.1 284 3 = 287 ∧ ev_S0.2.2.1 284 4 = 293 ∧ ev_S0.2.2.1 284 5 = 294 ∧ ev_S0.1 284 0 = 20 ∧ ev_S0.1 284 7 = 0 := by decide +kernel
  obtain ⟨e1, e2, e3, e4, e5, e6⟩ := e
  exact ⟨285, 286, 292, 293, 0, ⟨e1, e2, e3, e4⟩, ⟨e5, e6⟩, ⟨Or.inl ⟨rfl, rfl⟩, Or.inl ⟨rfl, rfl⟩⟩, Nat.le_refl _, fun i _ => Int.le_refl 0⟩
theorem s0_TH2 : THn 294 1 0 ev_S0 := by
  have e : ev_S0.2.2.1 294 2 = 296 ∧ ev_S0.2.2.1 294 3 = 297 ∧ ev_S0.2.2.1 294 4 = 303 ∧ ev_S0.2.2.1 294 5 = 304 ∧ ev_S0.1 294 0 = 1 ∧ ev_S0.1 294 7 = 0 := by decide +kernel
  obtain ⟨e1, e2, e3, e4, e5, e6⟩ := e
  exact ⟨295, 296, 302, 303, 0, ⟨e1, e2, e3, e4⟩, ⟨e5, e6⟩, ⟨Or.inl ⟨rfl, rfl⟩, Or.inl ⟨rfl, rfl⟩⟩, Nat.le_refl _, fun i _ => Int.le_refl 0⟩
set_option maxRecDepth 100000 in
theorem s0_ST : sp_ST 0 ev_S0 := by
  have e : ev_S0.1 0 18 = 0 ∧ ev_S0.1 621 139 = 0 := by decide +kernel
  refine ⟨⟨by rw [e.1]; decide, by rw [e.1]; decide, by rw [e.1, e.2]⟩, fun s hs h => ?_, fun s hs _ => ?_⟩
  · rw [e.1] at h
    omega
  · have r : ∀ s : Fin 4, (ev_S0.2.2.1 (569 + 13 * s.1 + 3) 2 = 569 + 13 * s.1 + 3 + 1 + 1 ∧ ev_S0.2.2.1 (569 + 13 * s.1 + 3) 3 = 569 + 13 * s.1 + 3 + 2 + 1 ∧ ev_S0.2.2.1 (569 + 13 * s.1 + 3) 4 = 569 + 13 * s.1 + 3 + 8 + 1 ∧ ev_S0.2.2.1 (569 + 13 * s.1 + 3) 5 = 569 + 13 * s.1 + 3 + 9 + 1) ∧ (ev_S0.1 (569 + 13 * s.1 + 3) 0 = 1 ∧ ev_S0.1 (569 + 13 * s.1 + 3) 7 = 0) ∧ ev_S0.1 (569 + 13 * s.1 + 1) 1 = 0 ∧ ev_S0.1 (569 + 13 * s.1) 3 = 0 ∧ ev_S0.1 720 s.1 = 0 ∧ ev_S0.1 721 s.1 = 0 := by decide +kernel
    have z : ∀ i, ev_S0.1 (569 + 13 * s + 3 + 3) i = 0 := fun i => by
      rcases (show s = 0 ∨ s = 1 ∨ s = 2 ∨ s = 3 by omega) with y | y | y | y <;> subst y <;> rfl
    obtain ⟨r1, r2, r3, r4, r5, r6⟩ := r ⟨s, hs⟩
    exact ⟨r1, r2, fun i _ => z i, r3, r4, r5, r6⟩
set_option maxRecDepth 100000 in
theorem s0_ZR : sp_ZR ev_S0 := fun p c g _ h1 h2 _ _ => by
  rcases (show c = 662 ∨ c = 663 ∨ c = 664 by omega) with y | y | y <;> subst y <;> rfl
theorem s0_INV : INV 0 ev_S0 := ⟨D0, ⟨s0_DR, s0_PA, s0_PT, s0_TR⟩, ⟨s0_LG, s0_B8, s0_RR, s0_RM⟩, ⟨s0_TH1, s0_TH2⟩, ⟨s0_ST, s0_ZR⟩, Nat.le_refl _, Nat.le_refl _⟩
/-- the counters -/
theorem lg_nle2 {a : Nat} : lg_n a S ≤ 1024 := by
  have h := List.countP_le_length (p := fun i => decide (S.2.2.1 a i ≠ 0)) (l := List.range 1024)
  rw [List.length_range] at h
  exact h
theorem INV_cnt (h : INV k S) (hk : k ≤ 512) : ev_sC S ≤ 94866 ∧ ev_sZ S ≤ 8811508 := by
  obtain ⟨D, _, ⟨hLG, _⟩, _, _, h1, h2⟩ := h
  have hW := hLG.2.1.2.2.1.2.2.2
  have n1 := lg_nle2 (S := S) (a := 259)
  have n2 := lg_nle2 (S := S) (a := 260)
  generalize ev_sC S = x at *
  generalize ev_sZ S = y at *
  generalize ev_sN S = z at *
  exact ⟨by omega, by omega⟩
end OSU
