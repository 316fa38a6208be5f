/-! THE READER'S TABLES: links of the reference's nodes, kept by every step -/
section LINKS
variable {N s rc : Nat} {inn : Nat → Nat} {T T2 : ev_St}
/-- no node is linked twice from one node -/
def LK1 (N : Nat) (T : ev_St) : Prop := ∀ m t : Nat, m < N → ¬ (T.1 626 (3840 + m) = (t : Int) ∧ T.1 627 (3840 + m) = (t : Int))
/-- rows are not repeated -/
def LK2 (N : Nat) (T : ev_St) : Prop := ∀ m : Nat, m < N → T.1 625 (3840 + m) = 18 → T.1 630 (3840 + m) = -1
def LKS (N : Nat) (inn : Nat → Nat) (T : ev_St) : Prop := INN N inn T ∧ LK1 N T ∧ LK2 N T
theorem LK1_leaf (h : LK1 N T) (hi : INN N inn T) (hs : s < N) (hrc : rc = 626 ∨ rc = 627) (tl : T2.1 rc (3840 + s) = (N : Int)) (tn : T2.1 626 (3840 + N) = -1 ∧ T2.1 627 (3840 + N) = -1) (tf : ∀ c m, (c = 626 ∨ c = 627) → m < N → ¬ (c = rc ∧ m = s) → T2.1 c (3840 + m) = T.1 c (3840 + m)) : LK1 (N + 1) T2 := by
  intro m t hm ⟨h1, h2⟩
  by_cases e : m = N
  · subst e
    omega
  · have hm' : m < N := by omega
    by_cases es : m = s
    · subst es
      rcases hrc with z | z
      · subst z
        rw [tf 627 m (Or.inr rfl) hm' (fun w => absurd w.1 (by decide))] at h2
        have := (hi m t hm' (Or.inr h2)).1
        omega
      · subst z
        rw [tf 626 m (Or.inl rfl) hm' (fun w => absurd w.1 (by decide))] at h1
        have := (hi m t hm' (Or.inl h1)).1
        omega
    · rw [tf 626 m (Or.inl rfl) hm' (fun w => es w.2)] at h1
      rw [tf 627 m (Or.inr rfl) hm' (fun w => es w.2)] at h2
      exact h m t hm' ⟨h1, h2⟩
/-- one node more: a leaf, a row -/
theorem LKS_1 (h : LKS N inn T) (hs : s < N) (hrc : rc = 626 ∨ rc = 627) (tl : T2.1 rc (3840 + s) = (N : Int)) (tn : T2.1 626 (3840 + N) = -1 ∧ T2.1 627 (3840 + N) = -1 ∧ (T2.1 625 (3840 + N) = 18 → T2.1 630 (3840 + N) = -1)) (tf : ∀ c m, c = 625 ∨ c = 626 ∨ c = 627 ∨ c = 630 → m < N → ¬ (c = rc ∧ m = s) → T2.1 c (3840 + m) = T.1 c (3840 + m)) : LKS (N + 1) (nup inn N s) T2 := by
  obtain ⟨h1, h2, h3⟩ := h
  have tf' : ∀ c m, (c = 626 ∨ c = 627) → m < N → ¬ (c = rc ∧ m = s) → T2.1 c (3840 + m) = T.1 c (3840 + m) := fun c m hc => tf c m (by omega)
  refine ⟨INN_leaf h1 hs hrc tl ⟨tn.1, tn.2.1⟩ tf', LK1_leaf h2 h1 hs hrc tl ⟨tn.1, tn.2.1⟩ tf', fun m hm => ?_⟩
  by_cases e : m = N
  · subst e
    exact tn.2.2
  · have hm' : m < N := by omega
    rw [tf 625 m (by omega) hm' (by omega), tf 630 m (by omega) hm' (by omega)]
    exact h3 m hm'
/-- a group and its first row -/
theorem LKS_2 (h : LKS N inn T) (hs : s < N) (hrc : rc = 626 ∨ rc = 627) (tl : T2.1 rc (3840 + s) = (N : Int)) (tn : T2.1 626 (3840 + N) = (N : Int) + 1 ∧ T2.1 627 (3840 + N) = -1 ∧ (T2.1 625 (3840 + N) = 18 → T2.1 630 (3840 + N) = -1)) (tr : T2.1 626 (3840 + (N + 1)) = -1 ∧ T2.1 627 (3840 + (N + 1)) = -1 ∧ T2.1 630 (3840 + (N + 1)) = -1) (tf : ∀ c m, c = 625 ∨ c = 626 ∨ c = 627 ∨ c = 630 → m < N → ¬ (c = rc ∧ m = s) → T2.1 c (3840 + m) = T.1 c (3840 + m)) : LKS (N + 2) (nup (nup inn N s) (N + 1) N) T2 := by
  have v : ∀ c g, ¬ (c = 626 ∧ g = 3840 + N) → (ev_pI T2 626 (3840 + N) (-1)).1 c g = T2.1 c g := fun c g hg => by
    rw [sp_pI1, if_neg hg]
  have h1 : LKS (N + 1) (nup inn N s) (ev_pI T2 626 (3840 + N) (-1)) := by
    refine LKS_1 h hs hrc ?_ ⟨rd_eq, ?_, ?_⟩ (fun c m hc hm hn => ?_)
    · rw [v _ _ (by omega), tl]
    · rw [v _ _ (by omega), tn.2.1]
    · rw [v _ _ (by omega), v _ _ (by omega)]
      exact tn.2.2
    · rw [v _ _ (by omega), tf c m hc hm hn]
  refine LKS_1 h1 (Nat.lt_succ_self _) (Or.inl rfl) (by rw [tn.1]; omega) ⟨tr.1, tr.2.1, fun _ => tr.2.2⟩ (fun c m hc hm hn => ?_)
  rw [v _ _ (by omega)]
/-- nothing is linked anew; what is repeated is no row -/
theorem LKS_c (h : LKS N inn T) (tf : ∀ c m, c = 625 ∨ c = 626 ∨ c = 627 → m < N → T2.1 c (3840 + m) = T.1 c (3840 + m)) (tg : ∀ m, m < N → T.1 625 (3840 + m) = 18 → T2.1 630 (3840 + m) = T.1 630 (3840 + m)) : LKS N inn T2 := by
  obtain ⟨h1, h2, h3⟩ := h
  refine ⟨fun m t hm => ?_, fun m t hm => ?_, fun m hm e => ?_⟩
  · rw [tf 626 m (by omega) hm, tf 627 m (by omega) hm]
    exact h1 m t hm
  · rw [tf 626 m (by omega) hm, tf 627 m (by omega) hm]
    exact h2 m t hm
  · rw [tf 625 m (by omega) hm] at e
    rw [tg m hm e]
    exact h3 m hm e
end LINKS
