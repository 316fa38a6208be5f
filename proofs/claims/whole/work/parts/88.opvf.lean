/-! THE READER: what is included, letters around -/
section RLET
variable {Q k n m w d N M D lv t : Nat} {φ ψ own inn G R ws y rk : Nat → Nat} {P q : Nat → Int} {S T S0 T0 S1 S' S2 T2 T1 T3 U : ev_St} {Z Z2 : Nat → Prop}
/-- no two alike: not more than there are -/
theorem pig : ∀ (n m : Nat) (f : Nat → Nat), (∀ i, i < m → f i < n) → (∀ i j, i < j → j < m → f i ≠ f j) → m ≤ n := fun n => by
  induction n with
  | zero =>
    intro m f h _
    by_cases e : m = 0
    · omega
    · have := h 0 (by omega)
      omega
  | succ n ih =>
    intro m f h1 h2
    by_cases e : ∃ i, i < m ∧ f i = n
    · obtain ⟨i0, hi0, e0⟩ := e
      have := ih (m - 1) (fun i => if i < i0 then f i else f (i + 1)) (fun i hi => by
        show (if i < i0 then f i else f (i + 1)) < n
        split
        · have a := h1 i (by omega)
          have b := h2 i i0 (by omega) hi0
          omega
        · have a := h1 (i + 1) (by omega)
          have b := h2 i0 (i + 1) (by omega) (by omega)
          omega) (fun i j hij hj => by
        show (if i < i0 then f i else f (i + 1)) ≠ (if j < i0 then f j else f (j + 1))
        split <;> split
        · exact h2 i j hij (by omega)
        · exact h2 i (j + 1) (by omega) (by omega)
        · omega
        · exact h2 (i + 1) (j + 1) (by omega) (by omega))
      omega
    · have := ih m f (fun i hi => by
        have a := h1 i hi
        have b : f i ≠ n := fun z => e ⟨i, hi, z⟩
        omega) h2
      omega
/-- the text of a part has no other inclusions than such as stand in Z -/
def ZC (Z : Nat → Prop) (S : ev_St) (l : Nat) : Prop := ∀ m, nxi (sp_at S (169 + 2 * l)) m < S.1 (169 + 2 * l) 1 → ∀ l', l' < 26 → icl (sp_at S (169 + 2 * l)) (nxi (sp_at S (169 + 2 * l)) m) l' → Z l'
/-- ranks of the letters fall along inclusions -/
def RKP (rk : Nat → Nat) (S : ev_St) : Prop := ∀ l, l < 26 → S.1 5 l = 1 → ∀ m, nxi (sp_at S (169 + 2 * l)) m < S.1 (169 + 2 * l) 1 → ∀ l', l' < 26 → icl (sp_at S (169 + 2 * l)) (nxi (sp_at S (169 + 2 * l)) m) l' → rk l' < rk l
def INC (lv : Nat) (ws : Nat → Nat) (Z : Nat → Prop) (rk : Nat → Nat) (S T : ev_St) : Prop := (∀ i, i ≤ lv → ∃ n, nxi (sp_at S (ws i)) n = T.1 645 i ∧ ∀ m, m < n → ∀ l, l < 26 → icl (sp_at S (ws i)) (nxi (sp_at S (ws i)) m) l → Z l) ∧ (∀ l, Z l → l < 26 ∧ S.1 5 l = 1 ∧ (l : Int) ≠ T.1 621 26 ∧ ((∃ i, 1 ≤ i ∧ i ≤ lv ∧ T.1 644 i = (l : Int)) ∨ ZC Z S l)) ∧ (∀ i, 1 ≤ i → i < lv → rk (T.1 644 (i + 1)).toNat < rk (T.1 644 i).toNat)
theorem INC_ch (h : INC lv ws Z rk S T) : ∀ j i, 1 ≤ i → i < j → j ≤ lv → rk (T.1 644 j).toNat < rk (T.1 644 i).toNat := fun j => by
  induction j with
  | zero => intro i h1 h2 _; omega
  | succ j ih =>
    intro i h1 h2 h3
    have a := h.2.2 j (by omega) (by omega)
    by_cases e : i = j
    · rw [e]
      exact a
    · have := ih i h1 (by omega) (by omega)
      omega
/-- letters around are less than 27 -/
theorem INC_lv (ht : RIt lv ws S T) (h : INC lv ws Z rk S T) : lv ≤ 26 := by
  refine pig 26 lv (fun i => (T.1 644 (i + 1)).toNat) (fun i hi => ?_) (fun i j hij hj => ?_)
  · show (T.1 644 (i + 1)).toNat < 26
    rcases (ht.2.2.2.1 (i + 1) (by omega)).1 with ⟨z, _⟩ | ⟨_, l, h1, h2, _⟩
    · omega
    · rw [h2]
      omega
  · show (T.1 644 (i + 1)).toNat ≠ (T.1 644 (j + 1)).toNat
    have := INC_ch h (j + 1) (i + 1) (by omega) (by omega) (by omega)
    intro z
    rw [z] at this
    omega
/-- a letter that is told at the spot is none of those around -/
theorem INC_st (ht : RIt lv ws S T) (h : INC lv ws Z rk S T) (hr : RKP rk S) (hc : sp_at S (ws lv) (T.1 645 lv) ≠ -1) {l : Nat} (hl : l < 26) (hi : icl (sp_at S (ws lv)) (T.1 645 lv) l) : (1 ≤ lv → rk l < rk (T.1 644 lv).toNat) ∧ ∀ i, i ≤ lv → T.1 644 i ≠ (l : Int) := by
  have p0 := ht.2.2.2.1 lv (Nat.le_refl _)
  have hin := at_in (S := S) (w := ws lv) (p := T.1 645 lv) p0.2.1 hc
  have main : 1 ≤ lv → rk l < rk (T.1 644 lv).toNat := fun h1 => by
    obtain ⟨n, n1, n2⟩ := h.1 lv (Nat.le_refl _)
    rcases p0.1 with ⟨z, _⟩ | ⟨_, l0, a1, a2, a3, a4⟩
    · omega
    · rw [a2, Int.toNat_natCast]
      rw [a3] at n1 hin hi
      exact hr l0 a1 a4 n (by rw [n1]; exact hin) l hl (by rw [n1]; exact hi)
  refine ⟨main, fun i hi2 => ?_⟩
  by_cases e : i = 0
  · rcases (ht.2.2.2.1 i hi2).1 with ⟨_, z, _⟩ | ⟨z, _⟩
    · rw [e, z]
      omega
    · omega
  · have m := main (by omega)
    intro z
    by_cases e2 : i = lv
    · rw [← e2, z, Int.toNat_natCast] at m
      omega
    · have := INC_ch h lv i (by omega) (by omega) (Nat.le_refl _)
      rw [z, Int.toNat_natCast] at this
      omega
end RLET
