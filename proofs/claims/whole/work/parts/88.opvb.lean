/-! THE READER: a part is included, a group of its own text opens -/
section RINC
variable {Q k n m w d N M D lv t : Nat} {φ ψ own inn G R ws y : Nat → Nat} {P q : Nat → Int} {S T S0 T0 S1 S' S2 T2 T1 T3 U : ev_St}
theorem al_I : ev_aln 623 = 26 ∧ ev_aln 5 = 26 ∧ ev_aln 16 = 28 ∧ ev_aln 644 = 28 ∧ ev_aln 645 = 28 := by decide +kernel
theorem BGc_cmp {a b c : Int} {x g : Nat} (h : BGc d a b c S1 S2) (h' : BGc d a b c U S') (e : U.1 3 11 = S1.1 3 11) (hx : U.1 x g = S1.1 x g) : S'.1 x g = S2.1 x g := by
  obtain ⟨⟨b1, b2, b3, b4, b5⟩, ⟨b6, b7⟩, b8, b9⟩ := h
  obtain ⟨⟨c1, c2, c3, c4, c5⟩, ⟨c6, c7⟩, c8, c9⟩ := h'
  by_cases z1 : x = 3 ∧ g = 10
  · rw [z1.1, z1.2, c6, b6]
  by_cases z2 : x = 3 ∧ g = 13
  · rw [z2.1, z2.2, c7, b7]
  by_cases z3 : x = 17 + d ∧ g ≤ 8
  · have hg : g = 0 ∨ g = 1 ∨ g = 2 ∨ g = 3 ∨ 4 ≤ g := by omega
    rw [z3.1]
    rcases hg with z | z | z | z | z
    · rw [z, b1, c1]
    · rw [z, b2, c2]
    · rw [z, b3, c3, e]
    · rw [z, b4, c4]
    · rw [b5 g z z3.2, c5 g z z3.2]
  · rw [c8 x g (by omega) z3, b8 x g (by omega) z3, hx]
/-- the reference's look at the letters around -/
theorem inc_loop {a : Int} {X : Option (Unit × ev_St)} (hv : T0.1 621 28 = (lv : Int)) (hl : lv < 28) : ∀ (n q : Nat) (j x : Int), (n : Int) = (lv : Int) + 1 - j → 0 ≤ j → n < q → (x = 0 ∨ x = 1) → (∀ x' : Int, (x' = 0 ∨ x' = 1) → ((x = 1 ∧ ∀ i : Nat, j ≤ (i : Int) → i ≤ lv → T0.1 644 i ≠ a) → x' = 1) → (x = 0 → x' = 0) → (if x' = 0 then (ev_b (ev_pI T0 621 25 1) fun s18 => some ((), s18)) else (ev_b (T0.1 621 26) fun x19 => if x19 = a then (ev_b (ev_pI T0 621 25 1) fun s21 => some ((), s21)) else (ev_b (T0.1 621 28) fun x22 => if x22 ≠ 27 then (ev_bd (jm_237 Q 9 T0) fun x25 s24 => ev_bd (jm_239 Q x25 1 s24) fun _ s26 => ev_b (s26.1 621 28) fun x27 => ev_ck (x27 + 1) fun x28 => ev_b (ev_pI s26 621 28 x28) fun s29 => ev_b (s29.1 621 28) fun x30 => ev_if ((0 : Int) ≤ x30 ∧ x30 < (ev_aln 644 : Int)) (ev_b (ev_pI s29 644 (Int.toNat x30) a) fun s31 => ev_b (s31.1 621 28) fun x32 => ev_if ((0 : Int) ≤ x32 ∧ x32 < (ev_aln 645 : Int)) (ev_b (ev_pI s31 645 (Int.toNat x32) 0) fun s33 => some ((), s33)))) else (ev_b (ev_pI T0 621 25 1) fun s34 => some ((), s34))))) = X) → jl_260_18 Q a q x j T0 = X := fun n => by
  obtain ⟨_, _, _, l4, _⟩ := al_I
  induction n with
  | zero =>
    intro q j x hn hj hq hx hX
    obtain ⟨q', rfl⟩ : ∃ q', q = q' + 1 := ⟨q - 1, by omega⟩
    show jb_260_18 Q a _ _ _ _ = _
    unfold jb_260_18
    rw [sp_b, hv, if_pos (by omega)]
    have := hX x hx (fun z => z.1) (fun z => z)
    rw [hv] at this
    exact this
  | succ n ih =>
    intro q j x hn hj hq hx hX
    obtain ⟨q', rfl⟩ : ∃ q', q = q' + 1 := ⟨q - 1, by omega⟩
    show jb_260_18 Q a _ _ _ _ = _
    unfold jb_260_18
    rw [sp_b, hv, if_neg (by omega), sp_jn, sp_jn]
    rcases hx with z | z
    · rw [if_pos z]
      try dsimp only
      rw [sp_ck (by omega)]
      exact ih q' (j + 1) 0 (by omega) (by omega) (by omega) (Or.inl rfl) (fun x' h1 h2 h3 => hX x' h1 (fun y => absurd y.1 (by omega)) (fun _ => h3 rfl))
    · rw [if_neg (by omega), sp_if (by rw [l4]; omega), sp_b]
      by_cases z2 : T0.1 644 j.toNat = a
      · rw [if_pos z2]
        try dsimp only
        rw [sp_ck (by omega)]
        exact ih q' (j + 1) 0 (by omega) (by omega) (by omega) (Or.inl rfl) (fun x' h1 h2 h3 => hX x' h1 (fun y => absurd z2 (y.2 j.toNat (by omega) (by omega))) (fun y => by omega))
      · rw [if_neg z2]
        try dsimp only
        rw [sp_ck (by omega)]
        exact ih q' (j + 1) 1 (by omega) (by omega) (by omega) (Or.inr rfl) (fun x' h1 h2 h3 => hX x' h1 (fun y => h2 ⟨rfl, fun i hi hi2 => y.2 i (by omega) hi2⟩) (fun y => by omega))
end RINC
