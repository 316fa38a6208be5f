/-! SEARCH: the leaves of both machines -/
section OPYP
variable {Q n u h : Nat} {S T : ev_St} {f o t a b c : Int}
theorem al_Sc : ev_aln 282 = 76072 ∧ ev_aln 283 = 6012 := by decide +kernel
theorem al_Sr : ev_aln 681 = 150000 ∧ ev_aln 682 = 150000 ∧ ev_aln 683 = 150000 ∧ ev_aln 684 = 150000 ∧ ev_aln 685 = 150000 ∧ ev_aln 686 = 150000 := by decide +kernel
theorem cs_step (hn : S.1 281 14 = (n : Int)) : (n < 1000 → jm_123 Q S = some (1, ev_pI S 281 14 ((n + 1 : Nat) : Int))) ∧ (1000 ≤ n → jm_123 Q S = some (0, ev_pI S 281 10 1)) := by
  unfold jm_123
  rw [sp_b, hn]
  refine ⟨fun y => by rw [if_pos (by omega), sp_b, sp_ck (by omega), sp_b, show (n : Int) + 1 = ((n + 1 : Nat) : Int) from by omega], fun y => by rw [if_neg (by omega), sp_b]⟩
theorem cs_is (hu : S.1 281 7 = (u : Int)) (h2 : u ≤ 76072) : (f < 0 → jm_126 Q f S = some (0, S)) ∧ (0 ≤ f → f + 4 ≤ (u : Int) → jm_126 Q f S = some (1, S)) := by
  obtain ⟨l82, _⟩ := al_Sc
  unfold jm_126
  refine ⟨fun y => by rw [if_pos y], fun y z => ?_⟩
  rw [if_neg (by omega), sp_ck (by omega), sp_b, hu, if_neg (by omega), sp_b, sp_b, l82, if_neg (by omega)]
/-- a cell of the class's machine is laid -/
def pCell (S : ev_St) (u : Nat) (o t a b : Int) : ev_St := ev_pI (ev_pI (ev_pI (ev_pI (ev_pI S 282 u o) 282 (u + 1) t) 282 (u + 2) a) 282 (u + 3) b) 281 7 ((u + 4 : Nat) : Int)
theorem cs_cell (hu : S.1 281 7 = (u : Int)) (h2 : u + 4 ≤ 76072) : jm_125 Q o t a b S = some ((u : Int), pCell S u o t a b) := by
  obtain ⟨l82, _⟩ := al_Sc
  unfold jm_125 pCell
  rw [sp_b, hu, if_neg (by omega), sp_ck (by omega), sp_b, l82, if_pos (by omega), sp_if (by omega), sp_b, sp_ck (by omega), sp_if (by omega), sp_b, sp_ck (by omega), sp_if (by omega), sp_b, sp_ck (by omega), sp_if (by omega), sp_b, sp_b, rd_nk (by decide), rd_nk (by decide), rd_nk (by decide), rd_nk (by decide), hu, sp_ck (by omega), sp_b, show Int.toNat (u : Int) = u from Int.toNat_natCast _, show Int.toNat ((u : Int) + 1) = u + 1 from by omega, show Int.toNat ((u : Int) + 2) = u + 2 from by omega, show Int.toNat ((u : Int) + 3) = u + 3 from by omega, show (u : Int) + 4 = ((u + 4 : Nat) : Int) from by omega]
theorem pCell_r {i : Nat} : ((pCell S u o t a b).1 282 u = o ∧ (pCell S u o t a b).1 282 (u + 1) = t ∧ (pCell S u o t a b).1 282 (u + 2) = a ∧ (pCell S u o t a b).1 282 (u + 3) = b) ∧ (pCell S u o t a b).1 281 7 = ((u + 4 : Nat) : Int) ∧ (i < u → (pCell S u o t a b).1 282 i = S.1 282 i) ∧ (∀ c g, c ≠ 282 → ¬ (c = 281 ∧ g = 7) → (pCell S u o t a b).1 c g = S.1 c g) ∧ (pCell S u o t a b).2 = S.2 := by
  unfold pCell
  refine ⟨⟨?_, ?_, ?_, ?_⟩, rd_eq, fun y => ?_, fun c g y z => ?_, rfl⟩
  · rw [rd_nk (by decide), rd_nf (by omega), rd_nf (by omega), rd_nf (by omega), rd_eq]
  · rw [rd_nk (by decide), rd_nf (by omega), rd_nf (by omega), rd_eq]
  · rw [rd_nk (by decide), rd_nf (by omega), rd_eq]
  · rw [rd_nk (by decide), rd_eq]
  · rw [rd_nk (by decide), rd_nf (by omega), rd_nf (by omega), rd_nf (by omega), rd_nf (by omega)]
  · rw [sp_pI1, if_neg z, rd_nk y, rd_nk y, rd_nk y, rd_nk y]
/-- a choice of the class's machine is laid -/
def pChc (S : ev_St) (h : Nat) (kd cd fr : Int) : ev_St := ev_pI (ev_pI (ev_pI (ev_pI (ev_pI (ev_pI (ev_pI S 283 (6 * h) kd) 283 (6 * h + 1) cd) 283 (6 * h + 2) (S.1 281 3)) 283 (6 * h + 3) fr) 283 (6 * h + 4) (S.1 281 5)) 283 (6 * h + 5) (S.1 281 7)) 281 9 ((h + 1 : Nat) : Int)
theorem cs_chc (hh : S.1 281 9 = (h : Int)) (h2 : h + 1 ≤ 1002) : jm_130 Q a b c S = some ((), pChc S h a b c) := by
  obtain ⟨_, l83⟩ := al_Sc
  unfold jm_130 pChc
  rw [sp_b, hh, sp_ck (by omega), sp_b, if_neg (by omega), sp_ck (by omega), sp_b, l83, if_pos (by omega), sp_if (by omega), sp_b, sp_ck (by omega), sp_if (by omega), sp_b, sp_ck (by omega), sp_b, rd_nk (by decide), rd_nk (by decide), sp_if (by omega), sp_b, sp_ck (by omega), sp_if (by omega), sp_b, sp_ck (by omega), sp_b, rd_nk (by decide), rd_nk (by decide), rd_nk (by decide), rd_nk (by decide), sp_if (by omega), sp_b, sp_ck (by omega), sp_b, rd_nk (by decide), rd_nk (by decide), rd_nk (by decide), rd_nk (by decide), rd_nk (by decide), sp_if (by omega), sp_b, sp_b, rd_nk (by decide), rd_nk (by decide), rd_nk (by decide), rd_nk (by decide), rd_nk (by decide), rd_nk (by decide), hh, sp_ck (by omega), sp_b, show Int.toNat (6 * (h : Int)) = 6 * h from by omega, show Int.toNat (6 * (h : Int) + 1) = 6 * h + 1 from by omega, show Int.toNat (6 * (h : Int) + 2) = 6 * h + 2 from by omega, show Int.toNat (6 * (h : Int) + 3) = 6 * h + 3 from by omega, show Int.toNat (6 * (h : Int) + 4) = 6 * h + 4 from by omega, show Int.toNat (6 * (h : Int) + 5) = 6 * h + 5 from by omega, show (h : Int) + 1 = ((h + 1 : Nat) : Int) from by omega]
/-- a step of the reference -/
theorem rf_step (hn : T.1 621 75 = (n : Int)) (hb : n ≤ 100000) (hf : T.1 621 76 = 0) : (n < 1000 → jm_290 Q T = some ((), ev_pI (ev_pI T 621 75 ((n + 1 : Nat) : Int)) 621 76 0)) ∧ (1000 ≤ n → jm_290 Q T = some ((), ev_pI (ev_pI T 621 75 ((n + 1 : Nat) : Int)) 621 76 1)) := by
  unfold jm_290
  rw [sp_b, hn, sp_ck (by omega), sp_b, sp_b, rd_nf (by decide), hf, if_neg (fun z => z rfl), sp_b, rd_eq, show (n : Int) + 1 = ((n + 1 : Nat) : Int) from by omega]
  exact ⟨fun y => by rw [if_pos (by omega), sp_b], fun y => by rw [if_neg (by omega), sp_b]⟩
/-- a frame of the reference -/
def pFrm (T : ev_St) (u : Nat) (k nd v had nx dp : Int) : ev_St := ev_pI (ev_pI (ev_pI (ev_pI (ev_pI (ev_pI (ev_pI T 681 u k) 682 u nd) 683 u v) 684 u had) 685 u nx) 686 u dp) 621 88 ((u + 1 : Nat) : Int)
theorem rf_frm {k nd v had nx dp : Int} (hu : T.1 621 88 = (u : Int)) (h2 : u < 150000) : jm_291 Q k nd v had nx dp T = some ((u : Int), pFrm T u k nd v had nx dp) := by
  obtain ⟨l1, l2, l3, l4, l5, l6⟩ := al_Sr
  unfold jm_291 pFrm
  rw [sp_b, hu, sp_if (by omega), sp_b, sp_b, rd_nk (by decide), hu, sp_if (by omega), sp_b, sp_b, rd_nk (by decide), rd_nk (by decide), hu, sp_if (by omega), sp_b, sp_b, rd_nk (by decide), rd_nk (by decide), rd_nk (by decide), hu, sp_if (by omega), sp_b, sp_b, rd_nk (by decide), rd_nk (by decide), rd_nk (by decide), rd_nk (by decide), hu, sp_if (by omega), sp_b, sp_b, rd_nk (by decide), rd_nk (by decide), rd_nk (by decide), rd_nk (by decide), rd_nk (by decide), hu, sp_if (by omega), sp_b, sp_b, rd_nk (by decide), rd_nk (by decide), rd_nk (by decide), rd_nk (by decide), rd_nk (by decide), rd_nk (by decide), hu, sp_ck (by omega), sp_b, sp_b, rd_eq, sp_ck (by omega), Int.toNat_natCast, show (u : Int) + 1 = ((u + 1 : Nat) : Int) from by omega, show ((u + 1 : Nat) : Int) - 1 = (u : Int) from by omega]
end OPYP
