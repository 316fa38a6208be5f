/-! SEARCH: choices laid and taken up -/
section OPYS
variable {Q u h : Nat} {S T : ev_St} {k nd v a b : Int}
theorem al_Sk : ev_aln 687 = 100000 ∧ ev_aln 688 = 100000 ∧ ev_aln 689 = 100000 ∧ ev_aln 690 = 100000 ∧ ev_aln 691 = 100000 ∧ ev_aln 692 = 100000 ∧ ev_aln 693 = 100000 ∧ ev_aln 694 = 100000 ∧ ev_aln 695 = 100000 := by decide +kernel
/-- a choice of the reference is laid -/
def pRch (T : ev_St) (u : Nat) (k nd v : Int) : ev_St := ev_pI (ev_pI (ev_pI (ev_pI (ev_pI (ev_pI (ev_pI (ev_pI (ev_pI (ev_pI T 687 u k) 688 u nd) 689 u v) 690 u (T.1 621 81)) 691 u (T.1 621 82)) 692 u (T.1 621 83)) 693 u (T.1 621 84)) 694 u (T.1 621 88)) 695 u (T.1 621 105)) 621 95 ((u + 1 : Nat) : Int)
theorem rf_chc (hu : T.1 621 95 = (u : Int)) (h2 : u < 100000) : jm_292 Q k nd v T = some ((), pRch T u k nd v) := by
  obtain ⟨l1, l2, l3, l4, l5, l6, l7, l8, l9⟩ := al_Sk
  have r : ∀ (X : ev_St) (c f g : Nat) (x : Int), c ≠ 621 → (ev_pI X c f x).1 621 g = X.1 621 g := fun X c f g x y => rd_nk (Ne.symm y)
  have e : (u : Int) + 1 = ((u + 1 : Nat) : Int) := by omega
  unfold jm_292 pRch
  repeat (first | rw [r _ _ _ _ _ (by decide)] | rw [hu] | rw [sp_if (by omega)] | rw [sp_b])
  rw [sp_ck (by omega), sp_b, Int.toNat_natCast, e]
/-- a choice of the reference is taken up -/
def pRet (T : ev_St) (u : Nat) : ev_St := ev_pI (ev_pI (ev_pI (ev_pI (ev_pI (ev_pI (ev_pI (ev_pI T 621 95 (u : Int)) 621 81 (T.1 690 u)) 621 82 (T.1 691 u)) 621 83 (T.1 692 u)) 621 84 (T.1 693 u)) 621 88 (T.1 694 u)) 621 105 (T.1 695 u)) 621 80 (T.1 688 u)
theorem rf_ret (h2 : u < 100000) : jm_293 Q (u : Int) T = some ((), pRet T u) := by
  obtain ⟨l1, l2, l3, l4, l5, l6, l7, l8, l9⟩ := al_Sk
  have r : ∀ (X : ev_St) (c f g : Nat) (x : Int), c ≠ 621 → (ev_pI X 621 g x).1 c f = X.1 c f := fun X c f g x y => rd_nk y
  unfold jm_293 pRet
  simp (disch := omega) only [sp_b, sp_if, r, Int.toNat_natCast]
/-- a choice of the class is taken up: place and frame as told, groups and cells as they were -/
def pRst (S : ev_St) (h : Nat) (a b : Int) : ev_St := ev_pI (ev_pI (ev_pI (ev_pI S 281 3 a) 281 4 b) 281 5 (S.1 283 (6 * h + 4))) 281 7 (S.1 283 (6 * h + 5))
theorem cs_rst (h2 : h + 1 ≤ 1002) : jm_132 Q ((6 * h : Nat) : Int) a b S = some ((), pRst S h a b) := by
  obtain ⟨_, l83⟩ := al_Sc
  unfold jm_132 pRst
  rw [if_neg (by omega), sp_ck (by omega), sp_b, l83, if_neg (by omega), sp_b, sp_b, sp_ck (by omega), sp_if (by omega), sp_b, rd_nk (by decide), rd_nk (by decide), sp_b, sp_ck (by omega), sp_if (by omega), sp_b, rd_nk (by decide), rd_nk (by decide), rd_nk (by decide), sp_b, show Int.toNat (((6 * h : Nat) : Int) + 4) = 6 * h + 4 from by omega, show Int.toNat (((6 * h : Nat) : Int) + 5) = 6 * h + 5 from by omega]
end OPYS
