/-! PHASE 2: what the functions tell; the words of the functions, as rewriting -/
theorem sp_b {α β : Type} (a : α) (f : α → β) : ev_b a f = f a := rfl
theorem sp_ck {β : Type} {e : Int} {f : Int → Option β} (h : -2147483648 ≤ e ∧ e ≤ 2147483647) : ev_ck e f = f e := if_pos h
theorem sp_if {β : Type} {c : Prop} [Decidable c] {J : Option β} (h : c) : ev_if c J = J := if_pos h
theorem sp_bd {γ δ : Type} (x : γ) (S : ev_St) (K : γ → ev_St → Option δ) : ev_bd (some (x, S)) K = K x S := rfl
theorem sp_bxl {γ δ : Type} (x : γ) (S : ev_St) (K1 : γ → ev_St → Option δ) (K2 : String → ev_St → Option δ) : ev_bx (some (.inl x, S)) K1 K2 = K1 x S := rfl
theorem sp_bxr {γ δ : Type} (E : String) (S : ev_St) (K1 : γ → ev_St → Option δ) (K2 : String → ev_St → Option δ) : ev_bx (some (.inr E, S)) K1 K2 = K2 E S := rfl
theorem sp_jn {γ δ : Type} (t : γ) (f : γ → δ) : ev_jn t f = f t := rfl
theorem sp_pI1 (S : ev_St) (k f a b : Nat) (x : Int) : (ev_pI S k f x).1 a b = if a = k ∧ b = f then x else S.1 a b := rfl
theorem sp_pI2 (S : ev_St) (k f : Nat) (x : Int) : (ev_pI S k f x).2 = S.2 := rfl
theorem sp_pL1 (S : ev_St) (k f : Nat) (x : Int64) : (ev_pL S k f x).1 = S.1 := rfl
theorem sp_pL2 (S : ev_St) (k f a b : Nat) (x : Int64) : (ev_pL S k f x).2.1 a b = if a = k ∧ b = f then x else S.2.1 a b := rfl
theorem sp_pL3 (S : ev_St) (k f : Nat) (x : Int64) : (ev_pL S k f x).2.2 = S.2.2 := rfl
theorem sp_tick1 (S : ev_St) : (ev_tick S).1 = S.1 := rfl
theorem sp_tick2 (S : ev_St) : (ev_tick S).2.1 = S.2.1 := rfl
theorem sp_tick3 (S : ev_St) : (ev_tick S).2.2.1 = S.2.2.1 := rfl
/-- lengths of what a class's fixed fields refer to -/
def sp_qN (N : Nat) (q : Nat × Nat × FieldType × Nat × Nat) : Bool := Nat.beq q.2.1 N
theorem sp_len {ci z N k : Nat} (e : ev_tls ci z (sp_qN N) ev_shs = true) (h : ev_isOb k ci = true) : ev_aln (k + z) = N := by
  obtain ⟨t, hs⟩ := ev_isOb_sh h
  obtain ⟨q, e1, e2⟩ := ev_tls_ok e k t hs
  obtain ⟨q1, q2, q3⟩ := q
  unfold ev_aln
  rw [e1]
  exact Nat.eq_of_beq_eq_true e2
theorem sp_len_text {k : Nat} (h : ev_isOb k 10 = true) : ev_aln (k + 1) = 160 := sp_len (by decide +kernel) h
/-! texts of the class -/
/-- the sign of a text at a place, -1 if there is none -/
def sp_at (S : ev_St) (k : Nat) (p : Int) : Int := if 0 ≤ p ∧ p < S.1 k 1 then S.1 (k + 1) p.toNat else -1
theorem sp_151 {Q k : Nat} {p : Int} {S : ev_St} (hk : ev_isOb k 10 = true) (hc : S.1 k 1 ≤ 160) : jm_151 Q k p S = some (sp_at S k p, S) := by
  have hl := sp_len_text hk
  unfold jm_151 sp_at
  simp only [sp_b]
  by_cases h1 : p < 0
  · rw [if_pos h1, if_neg (by omega)]
  · rw [if_neg h1]
    by_cases h2 : S.1 k 1 ≤ p
    · rw [if_pos h2, if_neg (by omega)]
    · rw [if_neg h2, if_neg (by omega), sp_if (by omega), if_pos (by omega)]
theorem sp_152 {Q k : Nat} {x : Int} {S : ev_St} (hk : ev_isOb k 10 = true) (hc : 0 ≤ S.1 k 1 ∧ S.1 k 1 < 160) : jm_152 Q k x S = some ((), ev_pI (ev_pI S (k + 1) (S.1 k 1).toNat x) k 1 (S.1 k 1 + 1)) := by
  have hl := sp_len_text hk
  unfold jm_152
  simp only [sp_b]
  rw [if_neg (by omega), if_neg (by omega), sp_if (by omega)]
  simp only [sp_pI1]
  rw [if_neg (by omega), sp_ck (by omega)]
/-! the reference's leaves -/
def sp_in (v a b : Int) : Int := if v < a then 0 else if b < v then 0 else 1
theorem sp_222 {Q : Nat} {v a b : Int} {S : ev_St} : jm_222 Q v a b S = some (sp_in v a b, S) := by
  unfold jm_222 sp_in
  split
  · rfl
  · split <;> rfl
def sp_sign (c : Int) : Int := if c = 10 ∨ (32 ≤ c ∧ c ≤ 126) then 1 else 0
theorem sp_223 {Q : Nat} {c : Int} {S : ev_St} : jm_223 Q c S = some (sp_sign c, S) := by
  unfold jm_223 sp_sign
  by_cases h1 : c = 10
  · rw [if_pos h1, if_pos (Or.inl h1)]
  · rw [if_neg h1, sp_222, sp_bd]
    unfold sp_in
    by_cases h2 : c < 32
    · rw [if_pos h2, if_pos rfl, if_neg (by omega)]
    · rw [if_neg h2]
      by_cases h3 : 126 < c
      · rw [if_pos h3, if_pos rfl, if_neg (by omega)]
      · rw [if_neg h3, if_neg (by decide), if_pos (by omega)]
theorem sp_207 {Q : Nat} {c : Int} {S : ev_St} : jm_207 Q c S = some (sp_sign c, S) := by
  unfold jm_207 sp_sign
  split
  · rw [if_pos (by omega)]
  · split
    · rw [if_neg (by omega)]
    · split
      · rw [if_neg (by omega)]
      · rw [if_pos (by omega)]
theorem sp_220 {Q : Nat} {S : ev_St} : jm_220 Q S = some (S.1 621 0, S) := rfl
