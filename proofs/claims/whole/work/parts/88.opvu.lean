/-! THE READER: the first state keeps to it all -/
section RSTA3
variable {Q k n m w d N M D lv t : Nat} {rk : Nat → Nat} {S T S0 T0 S1 S' S2 T' T2 T1 T3 U : ev_St}
theorem start_RI {a2 a0 : Int} (hkr : 232 ≤ k) (hD : DRx S T) (hP : PRx S T) (ha : (a2 = -1 ∧ a0 = -1) ∨ (a2 = a0 + 97 ∧ 0 ≤ a0 ∧ a0 < 26)) (c1 : S1.1 3 12 = a2 ∧ S1.1 3 8 = 0 ∧ S1.1 3 6 = 0 ∧ S1.1 3 10 = 0 ∧ S1.1 3 11 = 0 ∧ S1.1 3 14 = 0 ∧ S1.1 3 13 = 0) (c2 : S1.1 k 11 = 0 ∧ S1.1 k 12 = 0 ∧ ∀ l, l < 26 → S1.1 (k + 11) l = 0) (c3 : S1.1 17 0 = 16 ∧ S1.1 17 1 = 0 ∧ S1.1 17 2 = 0 ∧ S1.1 17 3 = 1 ∧ ∀ g, 4 ≤ g → g ≤ 8 → S1.1 17 g = -1) (c4 : ∀ x g, x ≠ 3 → x ≠ 17 → x ≠ k → x ≠ k + 11 → S1.1 x g = S.1 x g) (c5 : S1.2.2.1 3 7 = 2 ∧ S1.2.2.1 3 9 = k + 1) (r1 : T1.1 621 26 = a0 ∧ T1.1 621 25 = 0 ∧ T1.1 621 27 = 0 ∧ T1.1 621 28 = 0 ∧ T1.1 621 31 = 1 ∧ T1.1 621 40 = 0 ∧ T1.1 621 37 = 1 ∧ T1.1 621 38 = -1 ∧ T1.1 621 39 = -1) (r2 : T1.1 635 12 = 2 ∧ T1.1 636 12 = 0 ∧ (∀ l, l < 26 → T1.1 638 (312 + l) = 0) ∧ T1.1 637 120 = 0 ∧ T1.1 644 0 = -1 ∧ T1.1 645 0 = 0) (r3 : T1.1 646 0 = 0 ∧ T1.1 649 0 = 0 ∧ T1.1 650 0 = 0) (r4 : (T1.1 625 3840 = 9 ∧ T1.1 626 3840 = 1 ∧ T1.1 627 3840 = -1 ∧ T1.1 628 3840 = 0 ∧ T1.1 629 3840 = 0 ∧ T1.1 630 3840 = -1) ∧ T1.1 625 3841 = 18 ∧ T1.1 626 3841 = -1 ∧ T1.1 627 3841 = -1 ∧ T1.1 628 3841 = 0 ∧ T1.1 629 3841 = 0 ∧ T1.1 630 3841 = -1) (r5 : ∀ x g, (x = 621 ∧ g = 1) ∨ (622 ≤ x ∧ x ≤ 624) → T1.1 x g = T.1 x g) : RIa k 0 (fun _ => 1) S1 T1 ∧ INC 0 (fun _ => 1) (fun _ => False) rk S1 T1 := by
  obtain ⟨⟨k0, k1, k2, k3, k4, k5⟩, j0, j1, j2, j3, j4, j5⟩ := r4
  have two : ∀ m, m < 2 → m = 0 ∨ m = 1 := fun m hm => by omega
  have noclo : ∀ m, ¬ clo 2 0 (fun _ => 0) (fun _ => 1) m := fun m h => h.2 ⟨0, Nat.le_refl _, by have := two m h.1; omega⟩
  refine ⟨⟨2, 0, 0, fun _ => 0, fun _ => 0, fun _ => 0, fun _ => 0, fun _ => 0, fun _ => 1, fun _ => -1, fun _ => -1, fun _ => 0, ⟨⟨⟨⟨r2.1, c2.1, c1.2.2.2.1, by rw [r1.2.2.2.2.1]; rfl, by decide⟩, fun i hi => ⟨Nat.zero_lt_two, Nat.one_lt_two, fun j hj => ⟨Nat.zero_ne_one, fun h => by omega⟩⟩, fun i hi => ⟨?_, fun h => absurd h (Nat.not_lt_zero i)⟩, ⟨r1.2.2.2.2.2.2.1, r1.2.2.2.2.2.2.2.1⟩, fun i hi => ?_, fun m hm => absurd hm (noclo m)⟩, ?_⟩, ?_, ?_, ⟨⟨?_, ?_, ?_⟩, ?_, ?_, ?_, ?_⟩, ⟨?_, ?_, ?_⟩, Or.inl ⟨c1.2.2.2.2.2.2, r1.2.2.2.2.2.2.2.2⟩, c5.2, r1.2.1⟩, ?_, ⟨by decide, k0, fun i hi => ?_, ?_⟩, ?_⟩, ?_⟩
  · obtain rfl : i = 0 := by omega
    exact r3.1
  · obtain rfl : i = 0 := by omega
    refine ⟨Or.inl ⟨rfl, k1, c3.2.2.2.2 4 (by decide) (by decide), c3.2.2.2.2 5 (by decide) (by decide)⟩, Or.inl ⟨rfl, j1, c3.2.2.2.2 6 (by decide) (by decide), c3.2.2.2.2 7 (by decide) (by decide)⟩, ⟨j0, j2, j5, k2, k5⟩, ?_, ?_, fun _ => ?_, ?_, ?_⟩
    · show 8 ≤ T1.1 625 3840 ∧ T1.1 625 3840 ≤ 13
      rw [k0]
      decide
    · rw [if_pos rfl]
      exact c3.1
    · show S1.1 17 1 = T1.1 628 3840
      rw [c3.2.1, k3]
    · show S1.1 17 2 = T1.1 649 0
      rw [c3.2.2.1, r3.2.1]
    · rw [if_pos rfl]
      exact c3.2.2.2.1
  · refine ⟨fun m t hm ht => ?_, fun m t hm => ?_, fun m hm h18 => ?_⟩
    · rcases two m hm with e | e
      · subst e
        have a : T1.1 626 (3840 + 0) = 1 := k1
        have b : T1.1 627 (3840 + 0) = -1 := k2
        exact ⟨by omega, rfl⟩
      · subst e
        have a : T1.1 626 (3840 + 1) = -1 := j1
        have b : T1.1 627 (3840 + 1) = -1 := j2
        omega
    · rintro ⟨z1, z2⟩
      rcases two m hm with e | e
      · subst e
        have b : T1.1 627 (3840 + 0) = -1 := k2
        omega
      · subst e
        have b : T1.1 627 (3840 + 1) = -1 := j2
        omega
    · rcases two m hm with e | e
      · subst e
        exact k5
      · subst e
        exact j5
  · have cnt : S1.1 1 1 = S.1 1 1 := c4 1 1 (by omega) (by omega) (by omega) (by omega)
    refine ⟨⟨by rw [cnt]; exact hD.1, by rw [cnt, r5 _ _ (by omega)]; exact hD.2.1, fun g hg => ?_⟩, fun l hl => ?_, ⟨by decide, r1.2.2.2.1, c1.2.2.1⟩, fun i hi => ?_, fun i hi => absurd hi (Nat.not_lt_zero i), ⟨c5.1, ?_⟩, ?_⟩
    · rw [cnt] at hg
      rw [r5 _ _ (by omega), c4 2 g (by omega) (by omega) (by omega) (by omega)]
      exact hD.2.2 g hg
    · rw [c4 5 l (by omega) (by omega) (by omega) (by omega), r5 623 l (by omega), c4 (169 + 2 * l) 1 (by omega) (by omega) (by omega) (by omega)]
      rcases hP l hl with z | ⟨z1, z2, z3, z4⟩
      · exact Or.inl z
      · refine Or.inr ⟨z1, z2, z3, fun g hg => ?_⟩
        rw [r5 624 _ (by omega), c4 (169 + 2 * l + 1) g (by omega) (by omega) (by omega) (by omega)]
        exact z4 g hg
    · obtain rfl : i = 0 := by omega
      refine ⟨Or.inl ⟨rfl, r2.2.2.2.2.1, rfl⟩, by rw [r2.2.2.2.2.2]; exact Int.le_refl _, ?_⟩
      rw [r2.2.2.2.2.2, cnt]
      exact hD.1.1
    · rw [c1.2.1, r2.2.2.2.2.2]
    · rw [c1.1, r1.1]
      exact ha
  · refine ⟨⟨by rw [c2.2.1, r2.2.1], by rw [r2.2.1]; decide, by rw [r2.2.1]; decide⟩, fun l hl => ?_, fun j h1 h2 => ?_, fun i hi h8 => ?_, rfl, r2.2.2.2.1⟩
    · rw [c2.2.2 l hl, r2.2.2.1 l hl, r2.2.1]
      decide
    · rw [r2.2.1] at h2
      omega
    · have a : T1.1 625 (3840 + 0) = 9 := k0
      have h8' : T1.1 625 (3840 + 0) = 8 := h8
      omega
  · rw [c1.2.2.2.2.2.1, r1.2.2.1]
  · rw [r1.2.2.1]
    decide
  · rw [r1.2.2.1]
    decide
  · rw [r1.2.2.1]
    decide
  · rw [r1.2.2.1, c1.2.2.2.2.2.2]
    decide
  · rw [r1.2.2.1]
    decide
  · rw [r1.2.2.1]
    have e0 : Kn T1 0 = 9 := k0
    have e1 : Kn T1 1 = 18 := j0
    show (((0 + (if Kn T1 0 = 18 then 0 else 1)) + (if Kn T1 1 = 18 then 0 else 1) : Nat) : Int) ≤ 0 + 1
    rw [e0, e1]
    decide
  · rw [c1.2.2.2.2.1, r1.2.2.2.2.2.1]
  · rw [r1.2.2.2.2.2.1]
    decide
  · rw [r1.2.2.2.2.2.1]
    decide
  · refine ⟨rfl, fun m hm h18 h0 => ?_, fun m t hm h18 hx => ?_, fun i hi => ⟨fun t ht => ?_, fun h => ?_⟩⟩
    · rcases two m hm with e | e
      · exact absurd e h0
      · subst e
        exact absurd j0 h18
    · rcases two m hm with e | e
      · subst e
        have b : Xt T1 0 = -1 := k2
        omega
      · subst e
        exact absurd j0 h18
    · have : (-1 : Int) = (t : Int) := ht
      omega
    · omega
  · obtain rfl : i = 0 := by omega
    rw [r3.2.1]
    decide
  · refine ⟨fun m hm => ?_, fun m hm => ?_⟩
    · rcases two m hm with e | e
      · subst e
        refine ⟨?_, fun z => absurd k5 z, fun z => ?_⟩
        · show nval (T1.1 625 3840) (T1.1 628 3840) (T1.1 629 3840)
          rw [k0, k3, k4]
          decide
        · have a : T1.1 625 (3840 + 0) = 9 := k0
          omega
      · subst e
        refine ⟨?_, fun z => absurd j5 z, fun z => ?_⟩
        · show nval (T1.1 625 3841) (T1.1 628 3841) (T1.1 629 3841)
          rw [j0, j3, j4]
          decide
        · have a : T1.1 625 (3840 + 1) = 18 := j0
          omega
    · rcases two m hm with e | e
      · subst e
        have a0 : T1.1 625 (3840 + 0) = 9 := k0
        have a1 : T1.1 626 (3840 + 0) = 1 := k1
        have a2 : T1.1 627 (3840 + 0) = -1 := k2
        refine ⟨fun t ht => by omega, fun t ht => ?_, fun t ht => by omega, fun _ => by omega⟩
        have e : t = 1 := by omega
        subst e
        have b0 : T1.1 625 (3840 + 1) = 18 := j0
        rw [a0, b0]
        decide
      · subst e
        exact RVl_n j1 j2 (by
          have a : T1.1 625 (3840 + 1) = 18 := j0
          omega)
  · have lo0 : LO 2 0 0 (fun _ => 0) (fun _ => 0) (fun _ => 0) (fun _ => 0) (fun _ => 0) (fun _ => 1) (fun _ => -1) T1 := by
      have nx : ∀ m t : Nat, m < 2 → T1.1 627 (3840 + m) ≠ (t : Int) := fun m t hm hx => by
        rcases two m hm with e | e
        · subst e
          have b : T1.1 627 (3840 + 0) = -1 := k2
          omega
        · subst e
          have b : T1.1 627 (3840 + 1) = -1 := j2
          omega
      have nc : ∀ m t : Nat, m < 2 → T1.1 626 (3840 + m) = (t : Int) → m = 0 ∧ t = 1 := fun m t hm hx => by
        rcases two m hm with e | e
        · subst e
          have b : T1.1 626 (3840 + 0) = 1 := k1
          exact ⟨rfl, by omega⟩
        · subst e
          have b : T1.1 626 (3840 + 1) = -1 := j1
          omega
      refine ⟨⟨rfl, fun m hm => absurd hm (noclo m)⟩, fun m t hm hx => ?_, fun s t hs hx => absurd hx (nx s t hs), fun s hs => absurd hs (noclo s), fun m hm => absurd hm (noclo m), fun i hi => ⟨fun s hs => absurd hs (noclo s), fun s hs => absurd hs (noclo s)⟩, ⟨fun _ => ⟨rfl, rfl⟩, fun t ht => ?_⟩, fun i hi => ⟨Nat.zero_lt_one, fun h => by omega⟩, fun m t u v hm hx => absurd hx (nx m t hm), fun x hx u v h1 h2 hv hl => ?_⟩
      · obtain ⟨e1, e2⟩ := nc m t hm hx
        exact ⟨rfl, by omega, by omega⟩
      · have : (-1 : Int) = (t : Int) := ht
        omega
      · rcases hl with y | y
        · have := nc v u hv y
          omega
        · exact absurd y (nx v u hv)
    refine ⟨fun _ => 0, ⟨⟨fun t ht => Nat.zero_lt_two, fun m t hm ht => ?_, fun m t hm ht => ?_, fun t h0 ht => ?_⟩, fun i hi => ⟨rfl, fun t ht => ?_, fun h => by omega⟩, fun t ht => absurd ht (noclo t), fun b hb => absurd hb (Nat.not_lt_zero b), fun b hb => absurd hb (Nat.not_lt_zero b)⟩, fun _ => 0, lo0⟩
    · rcases two m hm with e | e
      · exact e.symm
      · subst e
        have b : T1.1 626 (3840 + 1) = -1 := j1
        omega
    · rcases two m hm with e | e
      · subst e
        have b : T1.1 627 (3840 + 0) = -1 := k2
        omega
      · subst e
        have b : T1.1 627 (3840 + 1) = -1 := j2
        omega
    · have e : t = 1 := by omega
      rw [e]
      exact Or.inl k1
    · have : (-1 : Int) = (t : Int) := ht
      omega
  · refine ⟨fun i hi => ?_, fun l hl => absurd hl (fun z => z), fun i h1 h2 => absurd h2 (Nat.not_lt_zero i)⟩
    obtain rfl : i = 0 := by omega
    exact ⟨0, by rw [r2.2.2.2.2.2]; rfl, fun m hm => absurd hm (Nat.not_lt_zero m)⟩
end RSTA3
