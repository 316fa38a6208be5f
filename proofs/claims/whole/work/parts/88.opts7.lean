/-! THE READER: what the nodes' numbers can be -/
section RVAL
variable {N m : Nat} {T T' : ev_St}
abbrev nval (c ng f : Int) : Prop := (0 ≤ c ∧ c ≤ 18) ∧ (c ≠ 18 → 0 ≤ f ∧ f ≤ 4) ∧ (c = 7 → -26 ≤ ng ∧ ng ≤ 9 ∧ ng ≠ 0) ∧ (c = 8 ∨ c = 13 → 1 ≤ ng ∧ ng ≤ 9) ∧ (c = 14 → 0 ≤ ng ∧ ng ≤ 9) ∧ (c = 9 → ng = 0)
abbrev bval (lo hi : Int) : Prop := (0 ≤ lo ∧ lo ≤ 20) ∧ (-1 ≤ hi ∧ hi ≤ 20) ∧ (hi = -1 ∨ lo ≤ hi)
theorem nv_1 {c g f : Int} (h1 : 0 ≤ c ∧ c ≤ 18 ∧ c ≠ 7 ∧ c ≠ 14 ∧ ¬ (8 ≤ c ∧ c ≤ 13)) (h2 : 0 ≤ f ∧ f ≤ 4) : nval c g f ∧ ¬ (8 ≤ c ∧ c ≤ 13) := ⟨⟨by omega, fun _ => h2, fun z => by omega, fun z => by omega, fun z => by omega, fun z => by omega⟩, by omega⟩
theorem nv_7 {g f : Int} (h1 : -26 ≤ g ∧ g ≤ 9 ∧ g ≠ 0) (h2 : 0 ≤ f ∧ f ≤ 4) : nval 7 g f ∧ ¬ (8 ≤ (7 : Int) ∧ (7 : Int) ≤ 13) := ⟨⟨by omega, fun _ => h2, fun _ => h1, fun z => by omega, fun z => by omega, fun z => by omega⟩, by omega⟩
theorem nv_p {c g f : Int} (h1 : 8 ≤ c ∧ c ≤ 13) (h2 : 0 ≤ f ∧ f ≤ 4) (h3 : c = 8 ∨ c = 13 → 1 ≤ g ∧ g ≤ 9) (h4 : c = 9 → g = 0) : nval c g f := ⟨by omega, fun _ => h2, fun z => by omega, fun z => h3 z, fun z => by omega, h4⟩
theorem nv_14 {g f : Int} (h1 : 0 ≤ g ∧ g ≤ 9) (h2 : 0 ≤ f ∧ f ≤ 4) : nval 14 g f ∧ ¬ (8 ≤ (14 : Int) ∧ (14 : Int) ≤ 13) := ⟨⟨by omega, fun _ => h2, fun z => by omega, fun z => by omega, fun _ => h1, fun z => by omega⟩, by omega⟩
def RV1 (T : ev_St) (m : Nat) : Prop := nval (T.1 625 (3840 + m)) (T.1 628 (3840 + m)) (T.1 629 (3840 + m)) ∧ (T.1 630 (3840 + m) ≠ -1 → bval (T.1 631 (3840 + m)) (T.1 632 (3840 + m))) ∧ (T.1 625 (3840 + m) = 8 → T.1 628 (3840 + m) ≤ T.1 636 12 ∧ T.1 637 (120 + (T.1 628 (3840 + m)).toNat) = (m : Int))
/-- patterns that are kept are not touched -/
def LOWc (c g : Nat) : Prop := (625 ≤ c ∧ c ≤ 632 ∧ g < 3840) ∨ (c = 635 ∧ g < 12) ∨ (c = 636 ∧ g < 12) ∨ (c = 637 ∧ g < 120) ∨ (c = 638 ∧ g < 312)
def LOW (T T' : ev_St) : Prop := (∀ c g, LOWc c g → T'.1 c g = T.1 c g) ∧ ∀ c g, 633 ≤ c → c ≤ 634 → g < 3840 → T'.2.1 c g = T.2.1 c g
theorem LOW_r : LOW T T := ⟨fun _ _ _ => rfl, fun _ _ _ _ _ => rfl⟩
theorem LOW_t {T2 : ev_St} (h : LOW T T') (h2 : LOW T' T2) : LOW T T2 := ⟨fun c g z => (h2.1 c g z).trans (h.1 c g z), fun c g a b z => (h2.2 c g a b z).trans (h.2 c g a b z)⟩
/-- links go on to larger numbers; rows and items -/
def RVl (N : Nat) (T : ev_St) (m : Nat) : Prop := (∀ t : Nat, (T.1 626 (3840 + m) = (t : Int) ∨ T.1 627 (3840 + m) = (t : Int)) → m < t ∧ t < N) ∧ (∀ t : Nat, T.1 626 (3840 + m) = (t : Int) → (T.1 625 (3840 + t) = 18 ↔ T.1 625 (3840 + m) ≠ 18)) ∧ (∀ t : Nat, T.1 627 (3840 + m) = (t : Int) → (T.1 625 (3840 + t) = 18 ↔ T.1 625 (3840 + m) = 18)) ∧ (T.1 625 (3840 + m) ≠ 18 → (T.1 626 (3840 + m) ≠ -1 ↔ 8 ≤ T.1 625 (3840 + m) ∧ T.1 625 (3840 + m) ≤ 13))
def RV (N : Nat) (T : ev_St) : Prop := (∀ m, m < N → RV1 T m) ∧ ∀ m, m < N → RVl N T m
/-- a new link keeps to the kinds -/
def LKc (N : Nat) (T T' : ev_St) (m c : Nat) : Prop := (c = 626 ∧ T.1 625 (3840 + m) = 18 ∧ T'.1 625 (3840 + N) ≠ 18) ∨ (c = 627 ∧ (T.1 625 (3840 + m) = 18 ↔ T'.1 625 (3840 + N) = 18))
theorem RVl_l {N2 : Nat} (hN : N < N2) (h : ∀ m, m < N → RVl N T m) (h0 : ∀ m, m < N → T'.1 625 (3840 + m) = T.1 625 (3840 + m)) (h1 : ∀ m c, m < N → c = 626 ∨ c = 627 → T'.1 c (3840 + m) = T.1 c (3840 + m) ∨ (T'.1 c (3840 + m) = (N : Int) ∧ LKc N T T' m c)) : ∀ m, m < N → RVl N2 T' m := fun m hm => by
  obtain ⟨a, b, c, d⟩ := h m hm
  refine ⟨fun t ht => ?_, fun t ht => ?_, fun t ht => ?_, fun z => ?_⟩
  · rcases ht with z | z
    · rcases h1 m 626 hm (Or.inl rfl) with y | ⟨y, _⟩
      · have := a t (Or.inl (y.symm.trans z))
        omega
      · omega
    · rcases h1 m 627 hm (Or.inr rfl) with y | ⟨y, _⟩
      · have := a t (Or.inr (y.symm.trans z))
        omega
      · omega
  · rcases h1 m 626 hm (Or.inl rfl) with y | ⟨y, w⟩
    · have ht' := y.symm.trans ht
      rw [h0 t (a t (Or.inl ht')).2, h0 m hm]
      exact b t ht'
    · have e : t = N := by omega
      rw [e, h0 m hm]
      rcases w with w | w
      · exact ⟨fun x => absurd x w.2.2, fun x => absurd w.2.1 x⟩
      · exact absurd w.1 (by decide)
  · rcases h1 m 627 hm (Or.inr rfl) with y | ⟨y, w⟩
    · have ht' := y.symm.trans ht
      rw [h0 t (a t (Or.inr ht')).2, h0 m hm]
      exact c t ht'
    · have e : t = N := by omega
      rw [e, h0 m hm]
      rcases w with w | w
      · exact absurd w.1 (by decide)
      · exact w.2.symm
  · rw [h0 m hm] at z ⊢
    rcases h1 m 626 hm (Or.inl rfl) with y | ⟨y, w | w⟩
    · rw [y]
      exact d z
    · exact absurd w.2.1 z
    · exact absurd w.1 (by decide)
theorem RVl_c (h : ∀ m, m < N → RVl N T m) (h1 : ∀ m c, m < N → c = 625 ∨ c = 626 ∨ c = 627 → T'.1 c (3840 + m) = T.1 c (3840 + m)) : ∀ m, m < N → RVl N T' m := fun m hm => by
  obtain ⟨a, b, c, d⟩ := h m hm
  have e5 := h1 m 625 hm (by omega)
  have e6 := h1 m 626 hm (by omega)
  have e7 := h1 m 627 hm (by omega)
  refine ⟨fun t ht => ?_, fun t ht => ?_, fun t ht => ?_, fun z => ?_⟩
  · rw [e6, e7] at ht
    exact a t ht
  · rw [e6] at ht
    rw [e5, h1 t 625 (a t (Or.inl ht)).2 (by omega)]
    exact b t ht
  · rw [e7] at ht
    rw [e5, h1 t 625 (a t (Or.inr ht)).2 (by omega)]
    exact c t ht
  · rw [e5] at z ⊢
    rw [e6]
    exact d z
theorem RVl_n (h1 : T'.1 626 (3840 + m) = -1) (h2 : T'.1 627 (3840 + m) = -1) (h3 : ¬ (8 ≤ T'.1 625 (3840 + m) ∧ T'.1 625 (3840 + m) ≤ 13)) : RVl N T' m := ⟨fun t ht => by rcases ht with z | z <;> omega, fun t ht => by omega, fun t ht => by omega, fun _ => ⟨fun z => absurd h1 z, fun z => absurd z h3⟩⟩
theorem RVl_g (h1 : T'.1 626 (3840 + m) = (m : Int) + 1) (h2 : T'.1 627 (3840 + m) = -1) (h3 : T'.1 625 (3840 + (m + 1)) = 18) (h4 : 8 ≤ T'.1 625 (3840 + m) ∧ T'.1 625 (3840 + m) ≤ 13) : RVl (m + 2) T' m := ⟨fun t ht => by rcases ht with z | z <;> omega, fun t ht => by
  have e : t = m + 1 := by omega
  rw [e]
  exact ⟨fun _ => by omega, fun _ => h3⟩, fun t ht => by omega, fun _ => ⟨fun _ => h4, fun _ => by omega⟩⟩
theorem RV1_c (h : RV1 T m) (h1 : ∀ c, 625 ≤ c → c ≤ 632 → c ≠ 626 → c ≠ 627 → T'.1 c (3840 + m) = T.1 c (3840 + m)) (h2 : T.1 636 12 ≤ T'.1 636 12 ∧ ∀ j : Nat, 1 ≤ j → (j : Int) ≤ T.1 636 12 → T'.1 637 (120 + j) = T.1 637 (120 + j)) : RV1 T' m := by
  obtain ⟨a, b, c⟩ := h
  unfold RV1
  rw [h1 625 (by omega) (by omega) (by omega) (by omega), h1 628 (by omega) (by omega) (by omega) (by omega), h1 629 (by omega) (by omega) (by omega) (by omega), h1 630 (by omega) (by omega) (by omega) (by omega), h1 631 (by omega) (by omega) (by omega) (by omega), h1 632 (by omega) (by omega) (by omega) (by omega)]
  refine ⟨a, b, fun z => ?_⟩
  have c' := c z
  have a4 := a.2.2.2.1 (Or.inl z)
  refine ⟨by omega, ?_⟩
  rw [h2.2 _ (by omega) (by omega)]
  exact c'.2
theorem RV_c (h : RV N T) (h1 : ∀ c m, 625 ≤ c → c ≤ 632 → m < N → T'.1 c (3840 + m) = T.1 c (3840 + m)) (h2 : T'.1 636 12 = T.1 636 12 ∧ ∀ j : Nat, T'.1 637 j = T.1 637 j) : RV N T' := ⟨fun m hm => RV1_c (h.1 m hm) (fun c a b _ _ => h1 c m a b hm) ⟨by omega, fun j _ _ => h2.2 _⟩, RVl_c h.2 (fun m c a b => h1 c m (by omega) (by omega) a)⟩
theorem RV_leaf (h : RV N T) (h1 : ∀ c m, 625 ≤ c → c ≤ 632 → c ≠ 626 → c ≠ 627 → m < N → T'.1 c (3840 + m) = T.1 c (3840 + m)) (hlk : ∀ m c, m < N → c = 626 ∨ c = 627 → T'.1 c (3840 + m) = T.1 c (3840 + m) ∨ (T'.1 c (3840 + m) = (N : Int) ∧ LKc N T T' m c)) (h2 : T'.1 636 12 = T.1 636 12 ∧ ∀ j : Nat, T'.1 637 j = T.1 637 j) (h3 : nval (T'.1 625 (3840 + N)) (T'.1 628 (3840 + N)) (T'.1 629 (3840 + N))) (h4 : T'.1 630 (3840 + N) = -1) (h5 : ¬ (8 ≤ T'.1 625 (3840 + N) ∧ T'.1 625 (3840 + N) ≤ 13)) (h7 : T'.1 626 (3840 + N) = -1 ∧ T'.1 627 (3840 + N) = -1) : RV (N + 1) T' := ⟨fun m hm => by
  by_cases e : m = N
  · subst e
    exact ⟨h3, fun z => absurd h4 z, fun z => absurd (⟨by omega, by omega⟩ : 8 ≤ T'.1 625 (3840 + m) ∧ T'.1 625 (3840 + m) ≤ 13) h5⟩
  · exact RV1_c (h.1 m (by omega)) (fun c a b x y => h1 c m a b x y (by omega)) ⟨by omega, fun j _ _ => h2.2 _⟩, fun m hm => by
  by_cases e : m = N
  · subst e
    exact RVl_n h7.1 h7.2 h5
  · exact RVl_l (Nat.lt_succ_self N) h.2 (fun m hm => h1 625 m (by omega) (by omega) (by omega) (by omega) hm) hlk m (by omega)⟩
theorem RV_open (h : RV N T) (h1 : ∀ c m, 625 ≤ c → c ≤ 632 → c ≠ 626 → c ≠ 627 → m < N → T'.1 c (3840 + m) = T.1 c (3840 + m)) (hlk : ∀ m c, m < N → c = 626 ∨ c = 627 → T'.1 c (3840 + m) = T.1 c (3840 + m) ∨ (T'.1 c (3840 + m) = (N : Int) ∧ LKc N T T' m c)) (h2 : T.1 636 12 ≤ T'.1 636 12 ∧ ∀ j : Nat, 1 ≤ j → (j : Int) ≤ T.1 636 12 → T'.1 637 (120 + j) = T.1 637 (120 + j)) (h3 : nval (T'.1 625 (3840 + N)) (T'.1 628 (3840 + N)) (T'.1 629 (3840 + N))) (h4 : T'.1 630 (3840 + N) = -1) (h5 : T'.1 625 (3840 + N) = 8 → T'.1 628 (3840 + N) ≤ T'.1 636 12 ∧ T'.1 637 (120 + (T'.1 628 (3840 + N)).toNat) = (N : Int)) (h6 : T'.1 625 (3840 + (N + 1)) = 18 ∧ T'.1 630 (3840 + (N + 1)) = -1) (h7 : T'.1 626 (3840 + N) = (N : Int) + 1 ∧ T'.1 627 (3840 + N) = -1) (h8 : T'.1 626 (3840 + (N + 1)) = -1 ∧ T'.1 627 (3840 + (N + 1)) = -1) (h9 : 8 ≤ T'.1 625 (3840 + N) ∧ T'.1 625 (3840 + N) ≤ 13) : RV (N + 2) T' := ⟨fun m hm => by
  by_cases e : m = N
  · subst e
    exact ⟨h3, fun z => absurd h4 z, h5⟩
  by_cases e2 : m = N + 1
  · subst e2
    refine ⟨?_, fun z => absurd h6.2 z, fun z => by omega⟩
    rw [h6.1]
    exact ⟨by omega, fun z => absurd rfl z, fun z => by omega, fun z => by omega, fun z => by omega, fun z => by omega⟩
  · exact RV1_c (h.1 m (by omega)) (fun c a b x y => h1 c m a b x y (by omega)) h2, fun m hm => by
  by_cases e : m = N
  · subst e
    exact RVl_g h7.1 h7.2 h6.1 h9
  by_cases e2 : m = N + 1
  · subst e2
    exact RVl_n h8.1 h8.2 (by omega)
  · exact RVl_l (show N < N + 2 by omega) h.2 (fun m hm => h1 625 m (by omega) (by omega) (by omega) (by omega) hm) hlk m (by omega)⟩
theorem RV_row (h : RV N T) (h1 : ∀ c m, 625 ≤ c → c ≤ 632 → c ≠ 626 → c ≠ 627 → m < N → T'.1 c (3840 + m) = T.1 c (3840 + m)) (hlk : ∀ m c, m < N → c = 626 ∨ c = 627 → T'.1 c (3840 + m) = T.1 c (3840 + m) ∨ (T'.1 c (3840 + m) = (N : Int) ∧ LKc N T T' m c)) (h2 : T'.1 636 12 = T.1 636 12 ∧ ∀ j : Nat, T'.1 637 j = T.1 637 j) (h3 : T'.1 625 (3840 + N) = 18 ∧ T'.1 630 (3840 + N) = -1) (h7 : T'.1 626 (3840 + N) = -1 ∧ T'.1 627 (3840 + N) = -1) : RV (N + 1) T' := RV_leaf h h1 hlk h2 (by
  rw [h3.1]
  exact ⟨by omega, fun z => absurd rfl z, fun z => by omega, fun z => by omega, fun z => by omega, fun z => by omega⟩) h3.2 (by omega) h7
theorem RV_rep {t : Nat} (h : RV N T) (h1 : ∀ c m, 625 ≤ c → c ≤ 632 → m < N → m ≠ t → T'.1 c (3840 + m) = T.1 c (3840 + m)) (ht : ∀ c, 625 ≤ c → c ≤ 629 → T'.1 c (3840 + t) = T.1 c (3840 + t)) (h2 : T'.1 636 12 = T.1 636 12 ∧ ∀ j : Nat, T'.1 637 j = T.1 637 j) (h3 : bval (T'.1 631 (3840 + t)) (T'.1 632 (3840 + t))) : RV N T' := ⟨fun m hm => by
  by_cases e : m = t
  · subst e
    obtain ⟨a, b, c⟩ := h.1 m hm
    unfold RV1
    rw [ht 625 (by omega) (by omega), ht 628 (by omega) (by omega), ht 629 (by omega) (by omega), h2.1]
    exact ⟨a, fun _ => h3, fun z => by rw [h2.2]; exact c z⟩
  · exact RV1_c (h.1 m hm) (fun c a b _ _ => h1 c m a b hm e) ⟨by omega, fun j _ _ => h2.2 _⟩, RVl_c h.2 (fun m c a b => by
  by_cases e : m = t
  · rw [e, ht c (by omega) (by omega)]
  · exact h1 c m (by omega) (by omega) a e)⟩
end RVAL
section RVAL2
variable {k N M D m : Nat} {φ ψ own G R : Nat → Nat} {P q : Nat → Int} {S T T' : ev_St}
theorem lk_kd {s0 rc : Nat} (hR : RDR k N M D φ ψ own G R P q S T) (k3 : (P D = -1 ∧ rc = 626 ∧ s0 = R D) ∨ (P D = (s0 : Int) ∧ rc = 627)) : (rc = 626 ∧ T.1 625 (3840 + s0) = 18) ∨ (rc = 627 ∧ T.1 625 (3840 + s0) ≠ 18) := by
  have z := hR.2.2.2.2.1 D (Nat.le_refl _)
  rcases k3 with ⟨_, e1, e2⟩ | ⟨e1, e2⟩
  · exact Or.inl ⟨e1, by rw [e2]; exact z.2.2.1.1⟩
  · rcases z.2.1 with ⟨z1, _⟩ | ⟨t, u, z1, ⟨_, z2, _⟩, _⟩
    · omega
    · have : t = s0 := by omega
      exact Or.inr ⟨e2, by rw [← this]; exact z2⟩
theorem LKc_i {s0 rc c : Nat} (h : (rc = 626 ∧ T.1 625 (3840 + s0) = 18) ∨ (rc = 627 ∧ T.1 625 (3840 + s0) ≠ 18)) (e : c = rc ∧ m = s0) (hN : T'.1 625 (3840 + N) ≠ 18) : LKc N T T' m c := by
  rw [e.1, e.2]
  rcases h with ⟨a, b⟩ | ⟨a, b⟩
  · exact Or.inl ⟨a, b, hN⟩
  · exact Or.inr ⟨a, fun z => absurd z b, fun z => absurd z hN⟩
end RVAL2
