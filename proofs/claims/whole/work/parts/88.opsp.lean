/-! CLASSES OF CHARACTERS: the class's steps and the reference's -/
theorem al_C : ev_aln 7 = 128 ∧ ev_aln 8 = 128 ∧ ev_aln 9 = 128 ∧ ev_aln 10 = 128 ∧ ev_aln 11 = 128 ∧ ev_aln 12 = 128 ∧ ev_aln 13 = 128 := by decide +kernel
theorem al_R : ev_aln 651 = 128 ∧ ev_aln 652 = 128 ∧ ev_aln 653 = 128 ∧ ev_aln 654 = 128 ∧ ev_aln 655 = 128 ∧ ev_aln 656 = 128 ∧ ev_aln 657 = 128 := by decide +kernel
theorem al_T : ev_aln 644 = 28 ∧ ev_aln 645 = 28 ∧ ev_aln 623 = 26 ∧ ev_aln 624 = 3120 := by decide +kernel
theorem rdL_nk {S : ev_St} {k f a b : Nat} {x : Int64} (h : a ≠ k) : (ev_pL S k f x).2.1 a b = S.2.1 a b := if_neg (fun q => h q.1)
theorem rdL_nf {S : ev_St} {k f a b : Nat} {x : Int64} (h : b ≠ f) : (ev_pL S k f x).2.1 a b = S.2.1 a b := if_neg (fun q => h q.2)
abbrev L0 : Int64 := Int64.ofNat ((0 : Fin 2) : Nat)
/-- the reference's text at a place -/
def rt_at (T : ev_St) (p : Int) : Int := if T.1 644 (T.1 621 28).toNat ≠ -1 then (if p < T.1 623 (T.1 644 (T.1 621 28).toNat).toNat then T.1 624 (120 * T.1 644 (T.1 621 28).toNat + p).toNat else -1) else (if p < T.1 621 1 then T.1 622 p.toNat else -1)
def rpos (T : ev_St) : Int := T.1 645 (T.1 621 28).toNat
/-- the same text on both sides: the class's at w -/
def RT (S : ev_St) (w : Nat) (T : ev_St) : Prop := ev_isOb w 10 = true ∧ (0 ≤ S.1 w 1 ∧ S.1 w 1 ≤ 120) ∧ (0 ≤ T.1 621 28 ∧ T.1 621 28 < 28) ∧ (-1 ≤ T.1 644 (T.1 621 28).toNat ∧ T.1 644 (T.1 621 28).toNat < 26) ∧ (T.1 644 (T.1 621 28).toNat = -1 → T.1 621 1 = S.1 w 1) ∧ (T.1 644 (T.1 621 28).toNat ≠ -1 → T.1 623 (T.1 644 (T.1 621 28).toNat).toNat = S.1 w 1) ∧ ∀ p : Int, 0 ≤ p → rt_at T p = sp_at S w p ∧ (sp_at S w p = -1 ∨ sp_sign (sp_at S w p) = 1)
theorem sp_233 {Q w : Nat} {a : Int} {S T : ev_St} (h : RT S w T) (hp : 0 ≤ rpos T + a ∧ rpos T + a ≤ 400) : jm_233 Q a T = some (sp_at S w (rpos T + a), T) := by
  obtain ⟨r0, r1, r2, r3, r4, r5, r6⟩ := h
  obtain ⟨l1, l2, l3, l4⟩ := al_T
  rw [← (r6 _ hp.1).1]
  unfold rpos at hp ⊢
  unfold jm_233 rt_at
  rw [sp_b, sp_if (by rw [l1]; omega), sp_b, sp_b, sp_if (by rw [l2]; omega), sp_b, sp_ck (by omega)]
  by_cases e : T.1 644 (T.1 621 28).toNat = -1
  · have q := r4 e
    rw [if_neg (fun z => z e), if_neg (fun z => z e), sp_b]
    by_cases g : T.1 621 1 ≤ T.1 645 (T.1 621 28).toNat + a
    · rw [if_pos g, if_neg (by omega)]
    · rw [if_neg g, if_pos (by omega), sp_if (by rw [sp_aln622]; omega), sp_b]
  · have q := r5 e
    rw [if_pos e, if_pos e, sp_if (by rw [l3]; omega), sp_b]
    by_cases g : T.1 623 (T.1 644 (T.1 621 28).toNat).toNat ≤ T.1 645 (T.1 621 28).toNat + a
    · rw [if_pos g, if_neg (by omega)]
    · rw [if_neg g, if_pos (by omega), sp_ck (by omega), sp_ck (by omega), sp_if (by rw [l4]; omega), sp_b]
theorem sp_234 {Q : Nat} {a : Int} {T : ev_St} (h : 0 ≤ T.1 621 28 ∧ T.1 621 28 < 28) (hp : -1000 ≤ rpos T + a ∧ rpos T + a ≤ 1000) : jm_234 Q a T = some ((), ev_pI T 645 (T.1 621 28).toNat (rpos T + a)) := by
  obtain ⟨l1, l2, l3, l4⟩ := al_T
  unfold rpos at hp ⊢
  unfold jm_234
  rw [sp_b, sp_if (by rw [l2]; omega), sp_b, sp_ck (by omega), sp_if (by rw [l2]; omega), sp_b]
/-! the class's -/
section CLS
variable {Q k : Nat} {S : ev_St}
theorem sp_20 (hk : S.1 6 7 = (k : Int)) (h : k < 128) : jm_20 Q S = some ((), ev_pI (ev_pL (ev_pL S 9 k L0) 10 k L0) 11 k 0) := by
  obtain ⟨l7, l8, l9, l10, l11, l12, l13⟩ := al_C
  unfold jm_20
  rw [sp_b, hk, if_neg (by omega), sp_b, if_neg (by omega), sp_b, sp_if (by rw [l9]; omega), sp_b, sp_b, Int.toNat_natCast]
  rw [show (ev_pL S 9 k L0).1 6 7 = (k : Int) from hk, sp_if (by rw [l10]; omega), sp_b, sp_b, Int.toNat_natCast]
  rw [show (ev_pL (ev_pL S 9 k L0) 10 k L0).1 6 7 = (k : Int) from hk, sp_if (by rw [l11]; omega), sp_b, Int.toNat_natCast]
theorem sp_22 {l h : Int64} (hk : S.1 6 7 = (k : Int)) (hh : k < 128) : jm_22 Q l h S = some (1, ev_pI (ev_pL (ev_pL S 9 k (S.2.1 9 k ||| l)) 10 k (S.2.1 10 k ||| h)) 11 k 1) := by
  obtain ⟨l7, l8, l9, l10, l11, l12, l13⟩ := al_C
  unfold jm_22
  rw [sp_b, hk, if_neg (by omega), sp_b, if_pos (by omega), sp_b, sp_if (by rw [l9]; omega), sp_b, sp_b, sp_if (by rw [l9]; omega), sp_b, sp_b, Int.toNat_natCast]
  rw [show (ev_pL S 9 k (S.2.1 9 k ||| l)).1 6 7 = (k : Int) from hk, sp_if (by rw [l10]; omega), sp_b, sp_b, sp_if (by rw [l10]; omega), sp_b, sp_b, Int.toNat_natCast]
  rw [show (ev_pL (ev_pL S 9 k (S.2.1 9 k ||| l)) 10 k ((ev_pL S 9 k (S.2.1 9 k ||| l)).2.1 10 k ||| h)).1 6 7 = (k : Int) from hk, sp_if (by rw [l11]; omega), sp_b, Int.toNat_natCast]
  rw [show (ev_pL S 9 k (S.2.1 9 k ||| l)).2.1 10 k = S.2.1 10 k from rdL_nk (by omega)]
def jnL (j : Int) (t o : Int64) : Int64 := if j = 38 then t &&& o else if j = 45 then t &&& (o ^^^ (-1)) else o
theorem sp_24_0 (hk : S.1 6 7 = (k : Int)) (hh : k < 128) (h : S.1 11 k = 0) : jm_24 Q S = some (0, S) := by
  obtain ⟨l7, l8, l9, l10, l11, l12, l13⟩ := al_C
  unfold jm_24
  rw [sp_b, hk, if_neg (by omega), sp_b, if_neg (by omega), sp_b, sp_if (by rw [l11]; omega), sp_b, Int.toNat_natCast, h, if_neg (fun z => z rfl)]
theorem sp_24_1 (hk : S.1 6 7 = (k : Int)) (hh : k < 128) (h : S.1 11 k ≠ 0) : jm_24 Q S = some (1, ev_pL (ev_pL S 7 k (jnL (S.1 13 k) (S.2.1 7 k) (S.2.1 9 k))) 8 k (jnL (S.1 13 k) (S.2.1 8 k) (S.2.1 10 k))) := by
  obtain ⟨l7, l8, l9, l10, l11, l12, l13⟩ := al_C
  have e7 : ∀ y : Int64, (ev_pL S 7 k y).1 6 7 = (k : Int) := fun _ => hk
  have e8 : ∀ y : Int64, (ev_pL S 7 k y).2.1 8 k = S.2.1 8 k := fun _ => rdL_nk (by omega)
  have e10 : ∀ y : Int64, (ev_pL S 7 k y).2.1 10 k = S.2.1 10 k := fun _ => rdL_nk (by omega)
  have b7 : (0 : Int) ≤ (k : Int) ∧ (k : Int) < (ev_aln 7 : Int) := by rw [l7]; omega
  have b8 : (0 : Int) ≤ (k : Int) ∧ (k : Int) < (ev_aln 8 : Int) := by rw [l8]; omega
  have b9 : (0 : Int) ≤ (k : Int) ∧ (k : Int) < (ev_aln 9 : Int) := by rw [l9]; omega
  have b10 : (0 : Int) ≤ (k : Int) ∧ (k : Int) < (ev_aln 10 : Int) := by rw [l10]; omega
  have b11 : (0 : Int) ≤ (k : Int) ∧ (k : Int) < (ev_aln 11 : Int) := by rw [l11]; omega
  have b13 : (0 : Int) ≤ (k : Int) ∧ (k : Int) < (ev_aln 13 : Int) := by rw [l13]; omega
  unfold jm_24 jnL
  simp only [sp_b, hk, e7, e8, e10, Int.toNat_natCast, sp_if b7, sp_if b8, sp_if b9, sp_if b10, sp_if b11, sp_if b13]
  rw [if_neg (by omega), if_neg (by omega), if_pos h]
  by_cases e1 : S.1 13 k = 38
  · rw [if_neg (fun z => z e1), if_pos e1, if_pos e1]
  · rw [if_pos e1, if_neg e1, if_neg e1]
    by_cases e2 : S.1 13 k = 45
    · rw [if_neg (fun z => z e2), if_pos e2, if_pos e2]
    · rw [if_pos e2, if_neg e2, if_neg e2]
/-- a class begins: at the level k -/
theorem sp_19 {w : Nat} {p : Int} (hk : S.1 6 7 = (k : Int) - 1) (hh : k < 128) (hw : ev_isOb w 10 = true) (hc : S.1 w 1 ≤ 160) (hr : S.2.2.1 6 8 = w + 1) (hp : S.1 6 9 = p) (hp2 : 0 ≤ p ∧ p ≤ 400) (hn : w ≠ 6 ∧ w ≠ 11 ∧ w ≠ 12 ∧ w ≠ 13 ∧ w + 1 ≠ 6 ∧ w + 1 ≠ 11 ∧ w + 1 ≠ 12 ∧ w + 1 ≠ 13) : ∃ S', jm_19 Q S = some (1, S') ∧ S'.1 6 7 = (k : Int) ∧ (S'.1 6 9 = if sp_at S w p = 94 then p + 1 else p) ∧ (S'.1 12 k = if sp_at S w p = 94 then 1 else 0) ∧ S'.1 11 k = 0 ∧ S'.1 13 k = 0 ∧ S'.2.1 9 k = L0 ∧ S'.2.1 10 k = L0 ∧ (∀ a g, ¬ (a = 6 ∧ (g = 7 ∨ g = 9)) → ¬ ((a = 11 ∨ a = 12 ∨ a = 13) ∧ g = k) → S'.1 a g = S.1 a g) ∧ (∀ a g, ¬ (7 ≤ a ∧ a ≤ 10 ∧ g = k) → S'.2.1 a g = S.2.1 a g) ∧ S'.2.2 = S.2.2 := by
  obtain ⟨l7, l8, l9, l10, l11, l12, l13⟩ := al_C
  unfold jm_19
  rw [sp_b, hk, sp_ck (by omega), if_neg (by omega), sp_b, sp_ck (by omega), if_pos (by omega), sp_b, sp_ck (by omega), show (k : Int) - 1 + 1 = (k : Int) from by omega, sp_b, sp_b, rd_eq, sp_if (by rw [l7]; omega), sp_b, sp_b, Int.toNat_natCast]
  rw [show (ev_pL (ev_pI S 6 7 (k : Int)) 7 k L0).1 6 7 = (k : Int) by rw [sp_pL1, rd_eq], sp_if (by rw [l8]; omega), sp_b, sp_b, Int.toNat_natCast]
  rw [show (ev_pL (ev_pL (ev_pI S 6 7 (k : Int)) 7 k L0) 8 k L0).1 6 7 = (k : Int) by rw [sp_pL1, sp_pL1, rd_eq], sp_if (by rw [l13]; omega), sp_b, Int.toNat_natCast]
  generalize hS1 : ev_pI (ev_pL (ev_pL (ev_pI S 6 7 (k : Int)) 7 k L0) 8 k L0) 13 k 0 = S1
  have a1 : ∀ a g, ¬ (a = 6 ∧ g = 7) → ¬ (a = 13 ∧ g = k) → S1.1 a g = S.1 a g := fun a g h1 h2 => by
    rw [← hS1, sp_pI1, if_neg h2, sp_pL1, sp_pL1, sp_pI1, if_neg h1]
  have a2 : S1.1 6 7 = (k : Int) := by rw [← hS1, rd_nk (by omega), sp_pL1, sp_pL1, rd_eq]
  have a3 : S1.1 13 k = 0 := by rw [← hS1, rd_eq]
  have a4 : ∀ a g, ¬ (7 ≤ a ∧ a ≤ 8 ∧ g = k) → S1.2.1 a g = S.2.1 a g := fun a g h1 => by
    rw [← hS1]
    show (ev_pL (ev_pL (ev_pI S 6 7 (k : Int)) 7 k L0) 8 k L0).2.1 a g = _
    rw [sp_pL2, if_neg (by omega), sp_pL2, if_neg (by omega)]
    rfl
  have a5 : S1.2.2 = S.2.2 := by rw [← hS1]; rfl
  rw [sp_20 a2 hh, sp_bd, sp_b]
  generalize hS2 : ev_pI (ev_pL (ev_pL S1 9 k L0) 10 k L0) 11 k 0 = S2
  have b1 : ∀ a g, ¬ (a = 11 ∧ g = k) → S2.1 a g = S1.1 a g := fun a g h1 => by rw [← hS2, sp_pI1, if_neg h1, sp_pL1, sp_pL1]
  have b2 : S2.1 11 k = 0 := by rw [← hS2, rd_eq]
  have b3 : S2.2.1 9 k = L0 ∧ S2.2.1 10 k = L0 := by
    rw [← hS2]
    exact ⟨(rdL_nk (by omega)).trans rd_L, rd_L⟩
  have b4 : ∀ a g, ¬ (9 ≤ a ∧ a ≤ 10 ∧ g = k) → S2.2.1 a g = S1.2.1 a g := fun a g h1 => by
    rw [← hS2]
    show (ev_pL (ev_pL S1 9 k L0) 10 k L0).2.1 a g = _
    rw [sp_pL2, if_neg (by omega), sp_pL2, if_neg (by omega)]
  have b5 : S2.2.2 = S.2.2 := by rw [← hS2, ← a5]; rfl
  have c67 : S2.1 6 7 = (k : Int) := by rw [b1 6 7 (by omega), a2]
  have c69 : S2.1 6 9 = p := by rw [b1 6 9 (by omega), a1 6 9 (by omega) (by omega), hp]
  have cw : S2.1 w 1 = S.1 w 1 := by rw [b1 w 1 (by omega), a1 w 1 (by omega) (by omega)]
  have cat : sp_at S2 w p = sp_at S w p := by
    unfold sp_at
    rw [cw, b1 (w + 1) _ (by omega), a1 (w + 1) _ (by omega) (by omega)]
  rw [c67, sp_b, b5, hr, sp_b, c69, sp_if (by omega), show w + 1 - 1 = w from rfl, sp_151 hw (by rw [cw]; exact hc), sp_bd, cat]
  have fin : ∀ v : Int, v = 0 ∨ v = 1 → ∃ S', (ev_if (ev_bl v) (ev_if ((0 : Int) ≤ (k : Int) ∧ (k : Int) < (ev_aln 12 : Int)) (ev_b (ev_pI S2 12 (k : Int).toNat v) fun s29 => ev_b (s29.1 6 7) fun x31 => ev_if ((0 : Int) ≤ x31 ∧ x31 < (ev_aln 12 : Int)) (ev_b (s29.1 12 (Int.toNat x31)) fun x32 => if x32 = 0 then (some ((1 : Int), s29)) else (ev_b (s29.1 6 9) fun x34 => ev_ck (x34 + 1) fun x35 => ev_b (ev_pI s29 6 9 x35) fun s36 => some (1, s36)))))) = some (1, S') ∧ S'.1 6 7 = (k : Int) ∧ (S'.1 6 9 = if v = 1 then p + 1 else p) ∧ S'.1 12 k = v ∧ S'.1 11 k = 0 ∧ S'.1 13 k = 0 ∧ S'.2.1 9 k = L0 ∧ S'.2.1 10 k = L0 ∧ (∀ a g, ¬ (a = 6 ∧ (g = 7 ∨ g = 9)) → ¬ ((a = 11 ∨ a = 12 ∨ a = 13) ∧ g = k) → S'.1 a g = S.1 a g) ∧ (∀ a g, ¬ (7 ≤ a ∧ a ≤ 10 ∧ g = k) → S'.2.1 a g = S.2.1 a g) ∧ S'.2.2 = S.2.2 := fun v hv => by
    have d67 : (ev_pI S2 12 k v).1 6 7 = (k : Int) := by rw [rd_nk (by omega), c67]
    have d69 : (ev_pI S2 12 k v).1 6 9 = p := by rw [rd_nk (by omega), c69]
    rw [sp_if hv, sp_if (by rw [l12]; omega), sp_b, Int.toNat_natCast, sp_b, d67, sp_if (by rw [l12]; omega), sp_b, Int.toNat_natCast, rd_eq]
    by_cases e : v = 0
    · rw [if_pos e]
      refine ⟨_, rfl, d67, by rw [d69, if_neg (by omega)], rd_eq, by rw [rd_nk (by omega), b2], by rw [rd_nk (by omega), b1 13 k (by omega), a3], b3.1, b3.2, fun a g h1 h2 => ?_, fun a g h1 => ?_, b5⟩
      · rw [sp_pI1, if_neg (by omega), b1 a g (by omega), a1 a g (by omega) (by omega)]
      · show S2.2.1 a g = _
        rw [b4 a g (by omega), a4 a g (by omega)]
    · rw [if_neg e, sp_b, d69, sp_ck (by omega), sp_b]
      refine ⟨_, rfl, by rw [rd_nf (by omega), d67], by rw [rd_eq, if_pos (by omega)], by rw [rd_nk (by omega), rd_eq], by rw [rd_nk (by omega), rd_nk (by omega), b2], by rw [rd_nk (by omega), rd_nk (by omega), b1 13 k (by omega), a3], b3.1, b3.2, fun a g h1 h2 => ?_, fun a g h1 => ?_, b5⟩
      · rw [sp_pI1, if_neg (by omega), sp_pI1, if_neg (by omega), b1 a g (by omega), a1 a g (by omega) (by omega)]
      · show S2.2.1 a g = _
        rw [b4 a g (by omega), a4 a g (by omega)]
  rw [sp_jn]
  by_cases e : sp_at S w p = 94
  · rw [if_neg (fun z => z e), if_pos e, if_pos e]
    have q := fin 1 (Or.inr rfl)
    rw [if_pos rfl] at q
    exact q
  · rw [if_pos e, if_neg e, if_neg e]
    have q := fin 0 (Or.inl rfl)
    rw [if_neg (by decide)] at q
    exact q
end CLS
