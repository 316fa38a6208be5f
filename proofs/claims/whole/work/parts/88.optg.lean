/-! THE READER'S TABLES: each node of the reference is linked from one place -/
section INNS
variable {N s rc : Nat} {inn : Nat → Nat} {T T2 : ev_St}
def INN (N : Nat) (inn : Nat → Nat) (T : ev_St) : Prop := ∀ m t : Nat, m < N → (T.1 626 (3840 + m) = (t : Int) ∨ T.1 627 (3840 + m) = (t : Int)) → t < N ∧ inn t = m
theorem INN_leaf (h : INN N inn T) (hs : s < N) (hrc : rc = 626 ∨ rc = 627) (tl : T2.1 rc (3840 + s) = (N : Int)) (tn : T2.1 626 (3840 + N) = -1 ∧ T2.1 627 (3840 + N) = -1) (tf : ∀ c m, (c = 626 ∨ c = 627) → m < N → ¬ (c = rc ∧ m = s) → T2.1 c (3840 + m) = T.1 c (3840 + m)) : INN (N + 1) (nup inn N s) T2 := by
  intro m t hm ht
  by_cases e : m = N
  · subst e
    omega
  · have hm' : m < N := by omega
    have old : ∀ c, (c = 626 ∨ c = 627) → T2.1 c (3840 + m) = (t : Int) → ¬ (c = rc ∧ m = s) → t < N ∧ inn t = m := fun c hc hv hn => by
      rw [tf c m hc hm' hn] at hv
      exact h m t hm' (by
        rcases hc with z | z
        · subst z
          exact Or.inl hv
        · subst z
          exact Or.inr hv)
    have one : ∀ c, (c = 626 ∨ c = 627) → T2.1 c (3840 + m) = (t : Int) → t < N + 1 ∧ nup inn N s t = m := fun c hc hv => by
      by_cases hl : c = rc ∧ m = s
      · obtain ⟨h1, h2⟩ := hl
        subst h1 h2
        have : t = N := by omega
        subst this
        exact ⟨by omega, nup_eq⟩
      · obtain ⟨h1, h2⟩ := old c hc hv hl
        exact ⟨by omega, by rw [nup_ne (by omega), h2]⟩
    rcases ht with z | z
    · exact one 626 (Or.inl rfl) z
    · exact one 627 (Or.inr rfl) z
end INNS
