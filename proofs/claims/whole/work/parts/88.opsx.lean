/-! THE READER'S LEAVES: nodes and numbers on both sides -/
section RLEAF
variable {Q k n m w : Nat} {S T : ev_St}
theorem al_Pt (h : ev_isOb k 5 = true) : ev_aln (k + 1) = 400 ∧ ev_aln (k + 2) = 400 ∧ ev_aln (k + 3) = 400 ∧ ev_aln (k + 4) = 400 ∧ ev_aln (k + 5) = 400 ∧ ev_aln (k + 6) = 400 ∧ ev_aln (k + 7) = 400 ∧ ev_aln (k + 8) = 400 ∧ ev_aln (k + 9) = 400 := ⟨sp_len (by decide +kernel) h, sp_len (by decide +kernel) h, sp_len (by decide +kernel) h, sp_len (by decide +kernel) h, sp_len (by decide +kernel) h, sp_len (by decide +kernel) h, sp_len (by decide +kernel) h, sp_len (by decide +kernel) h, sp_len (by decide +kernel) h⟩
/-- the class's new node -/
theorem sp_58e {a b c : Int} (hk : ev_isOb k 5 = true) (hn : S.1 k 11 = (n : Int)) (hh : n < 400) : jm_58 Q k a b c S = some ((n : Int), ev_pI (ev_pI (ev_pI (ev_pI (ev_pI (ev_pI (ev_pI (ev_pI S (k + 1) (n) (a)) (k + 2) (n) (b)) (k + 3) (n) (c)) (k + 4) (n) (-1)) (k + 5) (n) (-1)) (k + 6) (n) (-1)) (k + 7) (n) (-1)) (k) (11) ((n : Int) + 1)) := by
  obtain ⟨l1, l2, l3, l4, l5, l6, l7, _, _⟩ := al_Pt hk
  have r : ∀ (X : ev_St) (j : Nat) (x : Int), X.1 k 11 = (n : Int) → (ev_pI X (k + (j + 1)) n x).1 k 11 = (n : Int) := fun X j x h => by rw [rd_nk (by omega), h]
  unfold jm_58
  rw [sp_b, hn, if_neg (by omega), sp_b, if_pos (by omega), sp_b, sp_if (by rw [l1]; omega), Int.toNat_natCast, sp_b]
  rw [sp_b, r _ 0 _ hn, sp_if (by rw [l2]; omega), Int.toNat_natCast, sp_b]
  rw [sp_b, r _ 1 _ (r _ 0 _ hn), sp_if (by rw [l3]; omega), Int.toNat_natCast, sp_b]
  rw [sp_b, r _ 2 _ (r _ 1 _ (r _ 0 _ hn)), sp_if (by rw [l4]; omega), Int.toNat_natCast, sp_b]
  rw [sp_b, r _ 3 _ (r _ 2 _ (r _ 1 _ (r _ 0 _ hn))), sp_if (by rw [l5]; omega), Int.toNat_natCast, sp_b]
  rw [sp_b, r _ 4 _ (r _ 3 _ (r _ 2 _ (r _ 1 _ (r _ 0 _ hn)))), sp_if (by rw [l6]; omega), Int.toNat_natCast, sp_b]
  rw [sp_b, r _ 5 _ (r _ 4 _ (r _ 3 _ (r _ 2 _ (r _ 1 _ (r _ 0 _ hn))))), sp_if (by rw [l7]; omega), Int.toNat_natCast, sp_b]
  rw [sp_b, r _ 6 _ (r _ 5 _ (r _ 4 _ (r _ 3 _ (r _ 2 _ (r _ 1 _ (r _ 0 _ hn)))))), sp_ck (by omega), sp_b, sp_b, rd_eq, sp_ck (by omega), show (n : Int) + 1 - 1 = (n : Int) from by omega]
theorem sp_58 {a b c : Int} (hk : ev_isOb k 5 = true) (hn : S.1 k 11 = (n : Int)) (hh : n < 400) : ∃ S', jm_58 Q k a b c S = some ((n : Int), S') ∧ (S'.1 k 11 = (n : Int) + 1 ∧ S'.1 (k + 1) n = a ∧ S'.1 (k + 2) n = b ∧ S'.1 (k + 3) n = c ∧ ∀ j, 4 ≤ j → j ≤ 7 → S'.1 (k + j) n = -1) ∧ (∀ x g, ¬ (x = k ∧ g = 11) → ¬ (k + 1 ≤ x ∧ x ≤ k + 7 ∧ g = n) → S'.1 x g = S.1 x g) ∧ S'.2 = S.2 := by
  refine ⟨ev_pI (ev_pI (ev_pI (ev_pI (ev_pI (ev_pI (ev_pI (ev_pI S (k + 1) (n) (a)) (k + 2) (n) (b)) (k + 3) (n) (c)) (k + 4) (n) (-1)) (k + 5) (n) (-1)) (k + 6) (n) (-1)) (k + 7) (n) (-1)) (k) (11) ((n : Int) + 1), sp_58e hk hn hh, ⟨rd_eq, ?_, ?_, ?_, fun j h1 h2 => ?_⟩, fun x g h1 h2 => ?_, rfl⟩
  · rw [rd_nk (by omega), rd_nk (by omega), rd_nk (by omega), rd_nk (by omega), rd_nk (by omega), rd_nk (by omega), rd_nk (by omega), rd_eq]
  · rw [rd_nk (by omega), rd_nk (by omega), rd_nk (by omega), rd_nk (by omega), rd_nk (by omega), rd_nk (by omega), rd_eq]
  · rw [rd_nk (by omega), rd_nk (by omega), rd_nk (by omega), rd_nk (by omega), rd_nk (by omega), rd_eq]
  · rw [rd_nk (by omega)]
    obtain rfl | rfl | rfl | rfl : j = 4 ∨ j = 5 ∨ j = 6 ∨ j = 7 := by omega
    · rw [rd_nk (by omega), rd_nk (by omega), rd_nk (by omega), rd_eq]
    · rw [rd_nk (by omega), rd_nk (by omega), rd_eq]
    · rw [rd_nk (by omega), rd_eq]
    · rw [rd_eq]
  · rw [sp_pI1, if_neg h1, sp_pI1, if_neg (by omega), sp_pI1, if_neg (by omega), sp_pI1, if_neg (by omega), sp_pI1, if_neg (by omega), sp_pI1, if_neg (by omega), sp_pI1, if_neg (by omega), sp_pI1, if_neg (by omega)]
theorem sp_59 {a : Int} : jm_59 Q k a S = some (if 0 ≤ a ∧ a < S.1 k 11 ∧ a < 400 then 1 else 0, S) := by
  unfold jm_59
  by_cases h1 : a < 0
  · rw [if_pos h1, if_neg (by omega)]
  · rw [if_neg h1, sp_b]
    by_cases h2 : S.1 k 11 ≤ a
    · rw [if_pos h2, if_neg (by omega)]
    · rw [if_neg h2]
      by_cases h3 : 400 ≤ a
      · rw [if_pos h3, if_neg (by omega)]
      · rw [if_neg h3, if_pos (by omega)]
theorem sp_84 {a : Int} (hk : ev_isOb w 10 = true) (hc : S.1 w 1 ≤ 160) (ht : S.2.2.1 3 7 = w + 1) (hp : -1000 ≤ S.1 3 8 + a ∧ S.1 3 8 + a ≤ 1000) : jm_84 Q a S = some (sp_at S w (S.1 3 8 + a), S) := by
  unfold jm_84
  rw [ht, sp_b, sp_b, sp_ck (by omega), sp_if (by omega), show w + 1 - 1 = w from rfl, sp_151 hk hc, sp_bd]
theorem sp_86 {a : Int} : jm_86 Q a S = some (if ev_iand (S.1 3 11) a = 0 then 0 else 1, S) := by
  unfold jm_86
  rw [sp_b, sp_b]
  split <;> rfl
theorem sp_87 (h : 0 ≤ S.1 3 14 ∧ S.1 3 14 ≤ 1000) : jm_87 Q S = some (if 150 ≤ S.1 3 14 then 0 else 1, ev_pI S 3 14 (S.1 3 14 + 1)) := by
  unfold jm_87
  rw [sp_b, sp_ck (by omega), sp_b, sp_b, rd_eq]
  by_cases e : 150 ≤ S.1 3 14
  · rw [if_pos (by omega), if_pos e]
  · rw [if_neg (by omega), if_neg e]
theorem pI_id {f : Nat} : ev_pI S k f (S.1 k f) = S := by
  have h : (fun a b => if a = k ∧ b = f then S.1 k f else S.1 a b) = S.1 := by
    funext a b
    split
    · next e => rw [e.1, e.2]
    · rfl
  unfold ev_pI
  rw [h]
/-! numbers of one or two digits -/
def nbl (c d : Int) : Int := if ch_d c = 0 then 0 else if ch_d d = 0 then 1 else 2
def nbv (c d : Int) : Int := if ch_d c = 0 then -1 else if ch_d d = 0 then c - 48 else 10 * (c - 48) + d - 48
theorem sp_95 (hk : ev_isOb w 10 = true) (hc : S.1 w 1 ≤ 160) (ht : S.2.2.1 3 7 = w + 1) (hw : w ≠ 3 ∧ w + 1 ≠ 3) (hp : 0 ≤ S.1 3 8 ∧ S.1 3 8 ≤ 900) : jm_95 Q S = some (nbv (sp_at S w (S.1 3 8)) (sp_at S w (S.1 3 8 + 1)), ev_pI S 3 8 (S.1 3 8 + nbl (sp_at S w (S.1 3 8)) (sp_at S w (S.1 3 8 + 1)))) := by
  have at1 : ∀ x p, sp_at (ev_pI S 3 8 x) w p = sp_at S w p := fun x p => by
    unfold sp_at
    rw [rd_nk (by omega), rd_nk (by omega)]
  have s84 : ∀ x a, -1000 ≤ x + a ∧ x + a ≤ 1000 → jm_84 Q a (ev_pI S 3 8 x) = some (sp_at S w (x + a), ev_pI S 3 8 x) := fun x a h => by
    rw [sp_84 (S := ev_pI S 3 8 x) hk (by rw [rd_nk (by omega)]; exact hc) ht (by rw [rd_eq]; exact h), rd_eq, at1]
  unfold jm_95 nbv nbl
  rw [sp_84 hk hc ht (by omega), sp_bd, sp_208, sp_bd, show S.1 3 8 + 0 = S.1 3 8 from by omega]
  obtain ⟨i1, i2⟩ := ch_d_i (sp_at S w (S.1 3 8))
  obtain ⟨j1, j2⟩ := ch_d_i (sp_at S w (S.1 3 8 + 1))
  by_cases h : ch_d (sp_at S w (S.1 3 8)) = 0
  · rw [if_neg (by omega), if_pos h, if_pos h, show S.1 3 8 + 0 = S.1 3 8 from by omega, pI_id]
  · have q := i1.mp (by omega)
    rw [if_pos h, if_neg h, if_neg h, sp_84 hk hc ht (by omega), sp_bd, show S.1 3 8 + 0 = S.1 3 8 from by omega, sp_ck (by omega), sp_b, sp_ck (by omega), sp_b, s84 _ _ (by omega), sp_bd, show S.1 3 8 + 1 + 0 = S.1 3 8 + 1 from by omega, sp_208, sp_bd]
    by_cases h2 : ch_d (sp_at S w (S.1 3 8 + 1)) = 0
    · rw [if_pos h2, if_pos h2, if_pos h2]
    · have q2 := j1.mp (by omega)
      rw [if_neg h2, if_neg h2, if_neg h2, sp_ck (by omega), s84 _ _ (by omega), sp_bd, show S.1 3 8 + 1 + 0 = S.1 3 8 + 1 from by omega, sp_ck (by omega), sp_ck (by omega), sp_b, rd_eq, sp_ck (by omega), sp_b, pI_pI, show S.1 3 8 + 1 + 1 = S.1 3 8 + 2 from by omega]
theorem sp_254 (h : RT S w T) (hQ : 3 ≤ Q) (hp : 0 ≤ rpos T ∧ rpos T ≤ 300) : jm_254 Q T = some (if nbv (sp_at S w (rpos T)) (sp_at S w (rpos T + 1)) ≤ 20 then nbv (sp_at S w (rpos T)) (sp_at S w (rpos T + 1)) else -1, ev_pI T 645 (T.1 621 28).toNat (rpos T + nbl (sp_at S w (rpos T)) (sp_at S w (rpos T + 1)))) := by
  obtain ⟨q, rfl⟩ : ∃ q, Q = q + 3 := ⟨Q - 3, by omega⟩
  have h28 := h.2.2.1
  have e28 : ∀ x, (ev_pI T 645 (T.1 621 28).toNat x).1 621 28 = T.1 621 28 := fun x => rd_nk (by omega)
  have rp : ∀ x, rpos (ev_pI T 645 (T.1 621 28).toNat x) = x := fun x => rpos_pI rfl
  have RTx : ∀ x, RT S w (ev_pI T 645 (T.1 621 28).toNat x) := fun x => RT_c h (fun a g ha => if_neg (by omega))
  have end_ : ∀ (K : Int → Int → ev_St → Option (Int × ev_St)) (v : Int) (U : ev_St), jb_254_4 (q + 3) K v 2 U = some (if v ≤ 20 then v else -1, U) := fun K v U => by
    unfold jb_254_4
    rw [sp_jn, if_pos (by decide)]
    dsimp only
    by_cases e : v ≤ 20
    · rw [if_pos e, if_pos e]
    · rw [if_neg e, if_neg e]
  obtain ⟨i1, i2⟩ := ch_d_i (sp_at S w (rpos T))
  obtain ⟨j1, j2⟩ := ch_d_i (sp_at S w (rpos T + 1))
  unfold jm_254 nbv nbl
  show jb_254_4 (q + 3) (jl_254_4 (q + 3) (q + 2)) (-1) 0 T = _
  unfold jb_254_4
  rw [sp_jn, if_neg (by decide), sp_233 h (by omega), sp_bd, sp_226, sp_bd, show rpos T + 0 = rpos T from by omega]
  by_cases e1 : ch_d (sp_at S w (rpos T)) = 0
  · rw [if_pos e1, if_pos e1, if_pos e1, show rpos T + 0 = rpos T from by omega]
    rw [show ev_pI T 645 (T.1 621 28).toNat (rpos T) = T from pI_id]
    rfl
  · have c1 := i1.mp (by omega)
    rw [if_neg e1, if_neg e1, if_neg e1, sp_jn, if_neg (by decide)]
    dsimp only
    rw [sp_233 h (by omega), sp_bd, show rpos T + 0 = rpos T from by omega, sp_ck (by omega), sp_ck (by omega), sp_234 h28 (by omega), sp_bd, sp_ck (by omega)]
    show jb_254_4 (q + 3) (jl_254_4 (q + 3) (q + 1)) (0 + sp_at S w (rpos T) - 48) 1 (ev_pI T 645 (T.1 621 28).toNat (rpos T + 1)) = _
    unfold jb_254_4
    rw [sp_jn, if_neg (by decide), sp_233 (RTx _) (by rw [rp]; omega), sp_bd, sp_226, sp_bd, rp, show rpos T + 1 + 0 = rpos T + 1 from by omega]
    by_cases e2 : ch_d (sp_at S w (rpos T + 1)) = 0
    · rw [if_pos e2, if_pos e2, if_pos e2, show 0 + sp_at S w (rpos T) - 48 = sp_at S w (rpos T) - 48 from by omega]
      dsimp only
      rw [if_pos (show sp_at S w (rpos T) - 48 ≤ 20 by omega), if_pos (show sp_at S w (rpos T) - 48 ≤ 20 by omega)]
    · have c2 := j1.mp (by omega)
      rw [if_neg e2, if_neg e2, if_neg e2, sp_jn, if_pos (by omega), sp_ck (by omega)]
      dsimp only
      rw [sp_233 (RTx _) (by rw [rp]; omega), sp_bd, rp, show rpos T + 1 + 0 = rpos T + 1 from by omega, sp_ck (by omega), sp_ck (by omega), sp_234 (by rw [e28]; exact h28) (by rw [rp]; omega), sp_bd, sp_ck (by omega), rp, e28, pI_pI]
      show jb_254_4 (q + 3) (jl_254_4 (q + 3) q) (10 * (0 + sp_at S w (rpos T) - 48) + sp_at S w (rpos T + 1) - 48) 2 (ev_pI T 645 (T.1 621 28).toNat (rpos T + 1 + 1)) = _
      rw [end_, show 0 + sp_at S w (rpos T) - 48 = sp_at S w (rpos T) - 48 from by omega, show rpos T + 1 + 1 = rpos T + 2 from by omega]
end RLEAF
