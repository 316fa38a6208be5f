/-! THE READER: what the nodes' numbers can be -/
section RVAL
variable {N m : Nat} {T T' : ev_St}
abbrev nval (c ng f : Int) : Prop := (0 ≤ c ∧ c ≤ 18) ∧ (c ≠ 18 → 0 ≤ f ∧ f ≤ 4) ∧ (c = 7 → -26 ≤ ng ∧ ng ≤ 9 ∧ ng ≠ 0) ∧ (c = 8 ∨ c = 13 → 1 ≤ ng ∧ ng ≤ 9) ∧ (c = 14 → 0 ≤ ng ∧ ng ≤ 9)
abbrev bval (lo hi : Int) : Prop := (0 ≤ lo ∧ lo ≤ 20) ∧ (-1 ≤ hi ∧ hi ≤ 20) ∧ (hi = -1 ∨ lo ≤ hi)
theorem nv_1 {c g f : Int} (h1 : 0 ≤ c ∧ c ≤ 18 ∧ c ≠ 7 ∧ c ≠ 8 ∧ c ≠ 13 ∧ c ≠ 14) (h2 : 0 ≤ f ∧ f ≤ 4) : nval c g f ∧ c ≠ 8 := ⟨⟨by omega, fun _ => h2, fun z => by omega, fun z => by omega, fun z => by omega⟩, by omega⟩
theorem nv_7 {g f : Int} (h1 : -26 ≤ g ∧ g ≤ 9 ∧ g ≠ 0) (h2 : 0 ≤ f ∧ f ≤ 4) : nval 7 g f ∧ (7 : Int) ≠ 8 := ⟨⟨by omega, fun _ => h2, fun _ => h1, fun z => by omega, fun z => by omega⟩, by omega⟩
theorem nv_p {c g f : Int} (h1 : 8 ≤ c ∧ c ≤ 13) (h2 : 0 ≤ f ∧ f ≤ 4) (h3 : c = 8 ∨ c = 13 → 1 ≤ g ∧ g ≤ 9) : nval c g f := ⟨by omega, fun _ => h2, fun z => by omega, fun z => h3 z, fun z => by omega⟩
theorem nv_14 {g f : Int} (h1 : 0 ≤ g ∧ g ≤ 9) (h2 : 0 ≤ f ∧ f ≤ 4) : nval 14 g f ∧ (14 : Int) ≠ 8 := ⟨⟨by omega, fun _ => h2, fun z => by omega, fun z => by omega, fun _ => h1⟩, by omega⟩
def RV1 (T : ev_St) (m : Nat) : Prop := nval (T.1 625 (3840 + m)) (T.1 628 (3840 + m)) (T.1 629 (3840 + m)) ∧ (T.1 630 (3840 + m) ≠ -1 → bval (T.1 631 (3840 + m)) (T.1 632 (3840 + m))) ∧ (T.1 625 (3840 + m) = 8 → T.1 628 (3840 + m) ≤ T.1 636 12 ∧ T.1 637 (120 + (T.1 628 (3840 + m)).toNat) = (m : Int))
/-- links go on to larger numbers -/
def RVl (T : ev_St) (m : Nat) : Prop := ∀ t : Nat, (T.1 626 (3840 + m) = (t : Int) ∨ T.1 627 (3840 + m) = (t : Int)) → m < t
def RV (N : Nat) (T : ev_St) : Prop := (∀ m, m < N → RV1 T m) ∧ ∀ m, m < N → RVl T m
theorem RVl_l (h : ∀ m, m < N → RVl T m) (h1 : ∀ m c, m < N → c = 626 ∨ c = 627 → T'.1 c (3840 + m) = T.1 c (3840 + m) ∨ T'.1 c (3840 + m) = (N : Int)) : ∀ m, m < N → RVl T' m := fun m hm t ht => by
  rcases ht with z | z
  · rcases h1 m 626 hm (Or.inl rfl) with y | y
    · exact h m hm t (Or.inl (y.symm.trans z))
    · omega
  · rcases h1 m 627 hm (Or.inr rfl) with y | y
    · exact h m hm t (Or.inr (y.symm.trans z))
    · omega
theorem RVl_c (h : ∀ m, m < N → RVl T m) (h1 : ∀ m c, m < N → c = 626 ∨ c = 627 → T'.1 c (3840 + m) = T.1 c (3840 + m)) : ∀ m, m < N → RVl T' m := RVl_l h fun m c a b => Or.inl (h1 m c a b)
theorem RVl_n {a b : Int} (h1 : T'.1 626 (3840 + m) = a) (h2 : T'.1 627 (3840 + m) = b) (h3 : a = -1 ∨ a = (m : Int) + 1) (h4 : b = -1) : RVl T' m := fun t ht => by
  rcases ht with z | z <;> omega
theorem RV1_c (h : RV1 T m) (h1 : ∀ c, 625 ≤ c → c ≤ 632 → c ≠ 626 → c ≠ 627 → T'.1 c (3840 + m) = T.1 c (3840 + m)) (h2 : T.1 636 12 ≤ T'.1 636 12 ∧ ∀ j : Nat, 1 ≤ j → (j : Int) ≤ T.1 636 12 → T'.1 637 (120 + j) = T.1 637 (120 + j)) : RV1 T' m := by
  obtain ⟨a, b, c⟩ := h
  unfold RV1
  rw [h1 625 (by omega) (by omega) (by omega) (by omega), h1 628 (by omega) (by omega) (by omega) (by omega), h1 629 (by omega) (by omega) (by omega) (by omega), h1 630 (by omega) (by omega) (by omega) (by omega), h1 631 (by omega) (by omega) (by omega) (by omega), h1 632 (by omega) (by omega) (by omega) (by omega)]
  refine ⟨a, b, fun z => ?_⟩
  have c' := c z
  have a4 := a.2.2.2.1 (Or.inl z)
  refine ⟨by omega, ?_⟩
  rw [h2.2 _ (by omega) (by omega)]
  exact c'.2
theorem RV_c (h : RV N T) (h1 : ∀ c m, 625 ≤ c → c ≤ 632 → m < N → T'.1 c (3840 + m) = T.1 c (3840 + m)) (h2 : T'.1 636 12 = T.1 636 12 ∧ ∀ j : Nat, T'.1 637 j = T.1 637 j) : RV N T' := ⟨fun m hm => RV1_c (h.1 m hm) (fun c a b _ _ => h1 c m a b hm) ⟨by omega, fun j _ _ => h2.2 _⟩, RVl_c h.2 (fun m c a b => h1 c m (by omega) (by omega) a)⟩
theorem RV_leaf (h : RV N T) (h1 : ∀ c m, 625 ≤ c → c ≤ 632 → c ≠ 626 → c ≠ 627 → m < N → T'.1 c (3840 + m) = T.1 c (3840 + m)) (hlk : ∀ m c, m < N → c = 626 ∨ c = 627 → T'.1 c (3840 + m) = T.1 c (3840 + m) ∨ T'.1 c (3840 + m) = (N : Int)) (h2 : T'.1 636 12 = T.1 636 12 ∧ ∀ j : Nat, T'.1 637 j = T.1 637 j) (h3 : nval (T'.1 625 (3840 + N)) (T'.1 628 (3840 + N)) (T'.1 629 (3840 + N))) (h4 : T'.1 630 (3840 + N) = -1) (h5 : T'.1 625 (3840 + N) ≠ 8) (h7 : T'.1 626 (3840 + N) = -1 ∧ T'.1 627 (3840 + N) = -1) : RV (N + 1) T' := ⟨fun m hm => by
  by_cases e : m = N
  · subst e
    exact ⟨h3, fun z => absurd h4 z, fun z => absurd z h5⟩
  · exact RV1_c (h.1 m (by omega)) (fun c a b x y => h1 c m a b x y (by omega)) ⟨by omega, fun j _ _ => h2.2 _⟩, fun m hm => by
  by_cases e : m = N
  · subst e
    exact RVl_n h7.1 h7.2 (Or.inl rfl) rfl
  · exact RVl_l h.2 hlk m (by omega)⟩
theorem RV_open (h : RV N T) (h1 : ∀ c m, 625 ≤ c → c ≤ 632 → c ≠ 626 → c ≠ 627 → m < N → T'.1 c (3840 + m) = T.1 c (3840 + m)) (hlk : ∀ m c, m < N → c = 626 ∨ c = 627 → T'.1 c (3840 + m) = T.1 c (3840 + m) ∨ T'.1 c (3840 + m) = (N : Int)) (h2 : T.1 636 12 ≤ T'.1 636 12 ∧ ∀ j : Nat, 1 ≤ j → (j : Int) ≤ T.1 636 12 → T'.1 637 (120 + j) = T.1 637 (120 + j)) (h3 : nval (T'.1 625 (3840 + N)) (T'.1 628 (3840 + N)) (T'.1 629 (3840 + N))) (h4 : T'.1 630 (3840 + N) = -1) (h5 : T'.1 625 (3840 + N) = 8 → T'.1 628 (3840 + N) ≤ T'.1 636 12 ∧ T'.1 637 (120 + (T'.1 628 (3840 + N)).toNat) = (N : Int)) (h6 : T'.1 625 (3840 + (N + 1)) = 18 ∧ T'.1 630 (3840 + (N + 1)) = -1) (h7 : T'.1 626 (3840 + N) = (N : Int) + 1 ∧ T'.1 627 (3840 + N) = -1) (h8 : T'.1 626 (3840 + (N + 1)) = -1 ∧ T'.1 627 (3840 + (N + 1)) = -1) : RV (N + 2) T' := ⟨fun m hm => by
  by_cases e : m = N
  · subst e
    exact ⟨h3, fun z => absurd h4 z, h5⟩
  by_cases e2 : m = N + 1
  · subst e2
    refine ⟨?_, fun z => absurd h6.2 z, fun z => by omega⟩
    rw [h6.1]
    exact ⟨by omega, fun z => absurd rfl z, fun z => by omega, fun z => by omega, fun z => by omega⟩
  · exact RV1_c (h.1 m (by omega)) (fun c a b x y => h1 c m a b x y (by omega)) h2, fun m hm => by
  by_cases e : m = N
  · subst e
    exact RVl_n h7.1 h7.2 (Or.inr rfl) rfl
  by_cases e2 : m = N + 1
  · subst e2
    exact RVl_n h8.1 h8.2 (Or.inl rfl) rfl
  · exact RVl_l h.2 hlk m (by omega)⟩
theorem RV_row (h : RV N T) (h1 : ∀ c m, 625 ≤ c → c ≤ 632 → c ≠ 626 → c ≠ 627 → m < N → T'.1 c (3840 + m) = T.1 c (3840 + m)) (hlk : ∀ m c, m < N → c = 626 ∨ c = 627 → T'.1 c (3840 + m) = T.1 c (3840 + m) ∨ T'.1 c (3840 + m) = (N : Int)) (h2 : T'.1 636 12 = T.1 636 12 ∧ ∀ j : Nat, T'.1 637 j = T.1 637 j) (h3 : T'.1 625 (3840 + N) = 18 ∧ T'.1 630 (3840 + N) = -1) (h7 : T'.1 626 (3840 + N) = -1 ∧ T'.1 627 (3840 + N) = -1) : RV (N + 1) T' := RV_leaf h h1 hlk h2 (by
  rw [h3.1]
  exact ⟨by omega, fun z => absurd rfl z, fun z => by omega, fun z => by omega, fun z => by omega⟩) h3.2 (by omega) h7
theorem RV_rep {t : Nat} (h : RV N T) (h1 : ∀ c m, 625 ≤ c → c ≤ 632 → m < N → m ≠ t → T'.1 c (3840 + m) = T.1 c (3840 + m)) (ht : ∀ c, 625 ≤ c → c ≤ 629 → T'.1 c (3840 + t) = T.1 c (3840 + t)) (h2 : T'.1 636 12 = T.1 636 12 ∧ ∀ j : Nat, T'.1 637 j = T.1 637 j) (h3 : bval (T'.1 631 (3840 + t)) (T'.1 632 (3840 + t))) : RV N T' := ⟨fun m hm => by
  by_cases e : m = t
  · subst e
    obtain ⟨a, b, c⟩ := h.1 m hm
    unfold RV1
    rw [ht 625 (by omega) (by omega), ht 628 (by omega) (by omega), ht 629 (by omega) (by omega), h2.1]
    exact ⟨a, fun _ => h3, fun z => by rw [h2.2]; exact c z⟩
  · exact RV1_c (h.1 m hm) (fun c a b _ _ => h1 c m a b hm e) ⟨by omega, fun j _ _ => h2.2 _⟩, RVl_c h.2 (fun m c a b => by
  by_cases e : m = t
  · rw [e, ht c (by omega) (by omega)]
  · exact h1 c m (by omega) (by omega) a e)⟩
end RVAL
