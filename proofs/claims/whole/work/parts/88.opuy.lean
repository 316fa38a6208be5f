/-! THE READER: switches, flags stay small -/
theorem swf7 {c : Int → Int} : ∀ (n : Nat) (p a : Int), 0 ≤ a ∧ a ≤ 7 → 0 ≤ swf c n p a ∧ swf c n p a ≤ 7 := fun n => by
  induction n with
  | zero => exact fun p a h => h
  | succ n ih =>
    intro p a h
    unfold swf
    by_cases z : c p = 105 ∨ c p = 115 ∨ c p = 109
    · rw [if_pos z]
      have h8 := ior7 h (swv_n z).1
      exact ih _ _ ⟨h8.1, h8.2.1⟩
    · rw [if_neg z]
      exact h
theorem swF7 {f on off : Int} (h1 : 0 ≤ f ∧ f ≤ 7) (h2 : 0 ≤ on ∧ on ≤ 7) (h3 : 0 ≤ off ∧ off ≤ 7) : 0 ≤ swF f on off ∧ swF f on off ≤ 7 := by
  have h : ∀ a b c : Fin 8, 0 ≤ swF ((a.1 : Nat) : Int) ((b.1 : Nat) : Int) ((c.1 : Nat) : Int) ∧ swF ((a.1 : Nat) : Int) ((b.1 : Nat) : Int) ((c.1 : Nat) : Int) ≤ 7 := by decide +kernel
  have e1 : ((f.toNat : Nat) : Int) = f := by omega
  have e2 : ((on.toNat : Nat) : Int) = on := by omega
  have e3 : ((off.toNat : Nat) : Int) = off := by omega
  have z := h ⟨f.toNat, by omega⟩ ⟨on.toNat, by omega⟩ ⟨off.toNat, by omega⟩
  rw [show (((⟨f.toNat, by omega⟩ : Fin 8).1 : Nat) : Int) = f from e1, show (((⟨on.toNat, by omega⟩ : Fin 8).1 : Nat) : Int) = on from e2, show (((⟨off.toNat, by omega⟩ : Fin 8).1 : Nat) : Int) = off from e3] at z
  exact z
