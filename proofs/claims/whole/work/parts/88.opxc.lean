/-! PROGRAMS: jumps and forks stay within -/
section PROG12
variable {k N M m t p : Nat} {φ ψ own up : Nat → Nat} {S T : ev_St} {CA CI : Nat → List INS}
/-- an instruction at i of n goes to a place up to n; what is none is small -/
def tgI (i n : Nat) (x : INS) : Prop := ((x.1 = 2 ∨ x.1 = 3 ∨ x.1 = 4) ∧ 0 ≤ (i : Int) + x.2.1 ∧ (i : Int) + x.2.1 ≤ n) ∨ (¬ (x.1 = 2 ∨ x.1 = 3 ∨ x.1 = 4) ∧ 0 ≤ x.2.1 ∧ x.2.1 ≤ 20)
def TG (L : List INS) : Prop := ∀ (i : Nat) (x : INS), L[i]? = some x → tgI i L.length x
theorem TG_0 : TG [] := fun i x h => by cases h
theorem TG_1 {x : INS} (h : tgI 0 1 x) : TG [x] := fun i y hy => by
  cases i with
  | zero =>
    have e : x = y := Option.some.inj hy
    rw [← e]
    exact h
  | succ i => cases hy
theorem tgI_up {i n a c : Nat} {x : INS} (h : tgI i n x) : tgI (a + i) (a + n + c) x := by
  rcases h with ⟨z, h1, h2⟩ | ⟨z, h1, h2⟩
  · exact Or.inl ⟨z, by omega, by omega⟩
  · exact Or.inr ⟨z, h1, h2⟩
theorem TG_app {A B : List INS} (ha : TG A) (hb : TG B) : TG (A ++ B) := fun i x h => by
  rw [List.length_append]
  by_cases e : i < A.length
  · rw [List.getElem?_append_left e] at h
    have q := tgI_up (a := 0) (c := B.length) (ha i x h)
    rw [Nat.zero_add, Nat.zero_add] at q
    exact q
  · rw [List.getElem?_append_right (by omega)] at h
    have q := tgI_up (a := A.length) (c := 0) (hb _ x h)
    rw [Nat.add_zero, show A.length + (i - A.length) = i from by omega] at q
    exact q
theorem TG_flat : ∀ l : List (List INS), (∀ a, a ∈ l → TG a) → TG l.flatten
  | [], _ => TG_0
  | a :: l, h => by
    rw [List.flatten_cons]
    exact TG_app (h a List.mem_cons_self) (TG_flat l fun b hb => h b (List.mem_cons_of_mem _ hb))
/-- one ahead -/
theorem TG_cons {x : INS} {A : List INS} (hx : tgI 0 (A.length + 1) x) (ha : TG A) : TG (x :: A) := fun i y h => by
  rw [List.length_cons]
  cases i with
  | zero =>
    have e : x = y := Option.some.inj h
    rw [← e]
    exact hx
  | succ i =>
    rw [List.getElem?_cons_succ] at h
    have q := tgI_up (a := 1) (c := 0) (ha i y h)
    rw [Nat.add_zero, Nat.add_comm 1 i, Nat.add_comm 1 A.length] at q
    exact q
theorem TG_cdR : ∀ l : List (List INS), (∀ a, a ∈ l → TG a) → TG (cdR l)
  | [], _ => TG_0
  | [r], h => h r List.mem_cons_self
  | r :: s :: rs, h => by
    have ih := TG_cdR (s :: rs) fun a ha => h a (List.mem_cons_of_mem _ ha)
    have hr := h r List.mem_cons_self
    show TG ((ins 3 ((r.length : Int) + 2) :: r) ++ ins 2 (((cdR (s :: rs)).length : Int) + 1) :: cdR (s :: rs))
    generalize cdR (s :: rs) = B at ih ⊢
    rw [List.cons_append]
    refine TG_cons (Or.inl ⟨Or.inr (Or.inl rfl), ?_, ?_⟩) (TG_app hr (TG_cons (Or.inl ⟨Or.inl rfl, ?_, ?_⟩) ih))
    · show (0 : Int) ≤ ((0 : Nat) : Int) + ((r.length : Int) + 2)
      omega
    · show ((0 : Nat) : Int) + ((r.length : Int) + 2) ≤ _
      rw [List.length_append, List.length_cons]
      omega
    · show (0 : Int) ≤ ((0 : Nat) : Int) + ((B.length : Int) + 1)
      omega
    · show ((0 : Nat) : Int) + ((B.length : Int) + 1) ≤ _
      omega
theorem TG_more {fork lo hi : Int} {copies : Nat} {Y : List INS} (hf : fork = 3 ∨ fork = 4) (hh : hi ≠ -1) (hy : TG Y) : ∀ r i : Nat, i + r = copies → TG (moreL fork lo hi copies Y r i)
  | 0, i, _ => TG_0
  | r + 1, i, h => by
    have ih := TG_more (lo := lo) (copies := copies) hf hh hy r (i + 1) (by omega)
    unfold moreL
    rw [if_neg hh]
    by_cases z : (i : Int) < lo
    · rw [if_pos z, List.nil_append]
      exact TG_app hy ih
    · rw [if_neg z, List.append_assoc, List.singleton_append]
      have l := moreL_n (fork := fork) (lo := lo) (hi := hi) (copies := copies) (Y := Y) r (i + 1) (by omega)
      have e : ((copies : Int) - (i : Int)) * ((Y.length : Int) + 1) = ((r * (Y.length + 1) : Nat) : Int) + (Y.length : Int) + 1 := by
        rw [show (copies : Int) - (i : Int) = ((r + 1 : Nat) : Int) from by omega, show (Y.length : Int) + 1 = ((Y.length + 1 : Nat) : Int) from by omega, ← Int.natCast_mul, Nat.succ_mul]
        omega
      refine TG_cons (Or.inl ⟨Or.inr hf, ?_, ?_⟩) (TG_app hy ih)
      · rw [e]
        show (0 : Int) ≤ ((0 : Nat) : Int) + (((r * (Y.length + 1) : Nat) : Int) + (Y.length : Int) + 1)
        omega
      · rw [e, List.length_append, l]
        show ((0 : Nat) : Int) + (((r * (Y.length + 1) : Nat) : Int) + (Y.length : Int) + 1) ≤ _
        omega
end PROG12
