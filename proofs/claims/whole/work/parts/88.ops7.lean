/-! a text's part is put in another's place: the class's -/
theorem sp_cp1 (S : ev_St) (k0 k1 sp dp n a b : Nat) : (ev_cpI S k0 k1 sp dp n).1 a b = if a = k1 ∧ dp ≤ b ∧ b < dp + n then S.1 k0 (sp + (b - dp)) else S.1 a b := rfl
theorem sp_cp2 (S : ev_St) (k0 k1 sp dp n : Nat) : (ev_cpI S k0 k1 sp dp n).2 = S.2 := rfl
/-- from the place p of the text k, r signs give way to i signs of the array s, from its place o -/
def sp_spl (k : Nat) (p r : Int) (s : Nat) (o i : Int) (S : ev_St) : ev_St := ev_pI (ev_cpI (ev_cpI S (k + 1) (k + 1) (p + r).toNat (p + i).toNat (S.1 k 1 - (p + r)).toNat) s (k + 1) o.toNat p.toNat i.toNat) k 1 (S.1 k 1 + (i - r))
theorem sp_154 {Q k s : Nat} {p r o i : Int} {S : ev_St} (hk : ev_isOb k 10 = true) (hs : 0 ≤ S.1 k 1 ∧ S.1 k 1 ≤ 160) (hp : 0 ≤ p) (hr : 0 ≤ r) (hpr : p + r ≤ S.1 k 1) (hi : 0 ≤ i) (hn : S.1 k 1 - r + i ≤ 160) (ho : 0 ≤ o) (hoi : o + i ≤ (ev_aln s : Int)) (hl : ev_aln s ≤ 1000000) : jm_154 Q k p r (s + 1) o i S = some ((), sp_spl k p r s o i S) := by
  have l := sp_len_text hk
  unfold jm_154 sp_spl
  rw [sp_ck (by omega)]
  simp only [sp_jn, sp_b, show s + 1 - 1 = s from rfl]
  rw [if_neg (by omega), if_neg (by omega), if_neg (by omega), sp_ck (by omega), sp_ck (by omega), if_neg (by omega), if_neg (by decide), if_neg (by omega), if_neg (by omega), sp_ck (by omega), sp_if (by omega), if_pos (by omega), sp_ck (by omega), sp_ck (by omega), sp_if (by rw [l]; omega), sp_if (by omega), sp_if (by rw [l]; omega), sp_ck (by omega)]
  rw [sp_cp1, if_neg (by omega), sp_cp1, if_neg (by omega), sp_ck (by omega)]
/-- what it is then -/
theorem sp_spl_at {k s : Nat} {p r o i : Int} {S : ev_St} (hp : 0 ≤ p) (hr : 0 ≤ r) (hpr : p + r ≤ S.1 k 1) (hi : 0 ≤ i) (ho : 0 ≤ o) (hsk : s ≠ k + 1) : ∀ g : Nat, (g : Int) < S.1 k 1 + (i - r) → (sp_spl k p r s o i S).1 (k + 1) g = if (g : Int) < p then S.1 (k + 1) g else if (g : Int) < p + i then S.1 s (o + ((g : Int) - p)).toNat else S.1 (k + 1) ((g : Int) - i + r).toNat := fun g hg => by
  unfold sp_spl
  rw [sp_pI1, if_neg (by omega), sp_cp1]
  by_cases h1 : (g : Int) < p
  · rw [if_neg (by omega), if_pos h1, sp_cp1, if_neg (by omega)]
  · rw [if_neg h1]
    by_cases h2 : (g : Int) < p + i
    · rw [if_pos ⟨rfl, by omega, by omega⟩, if_pos h2, sp_cp1, if_neg (fun q => hsk q.1), show o.toNat + (g - p.toNat) = (o + ((g : Int) - p)).toNat from by omega]
    · rw [if_neg (by omega), if_neg h2, sp_cp1, if_pos ⟨rfl, by omega, by omega⟩, show (p + r).toNat + (g - (p + i).toNat) = ((g : Int) - i + r).toNat from by omega]
theorem sp_spl_n {k s : Nat} {p r o i : Int} {S : ev_St} : (sp_spl k p r s o i S).1 k 1 = S.1 k 1 + (i - r) := by
  unfold sp_spl
  simp [sp_pI1]
theorem sp_spl_f {k s : Nat} {p r o i : Int} {S : ev_St} {b g : Nat} (h1 : b ≠ k + 1) (h2 : ¬ (b = k ∧ g = 1)) : (sp_spl k p r s o i S).1 b g = S.1 b g := by
  unfold sp_spl
  rw [sp_pI1, if_neg h2, sp_cp1, if_neg (fun q => h1 q.1), sp_cp1, if_neg (fun q => h1 q.1)]
