/-! SEARCH: what is read of what was laid -/
section OPYT
variable {Q u h : Nat} {S T : ev_St} {k nd v had nx dp : Int}
theorem pFrm_at : (pFrm T u k nd v had nx dp).1 681 u = k ∧ (pFrm T u k nd v had nx dp).1 682 u = nd ∧ (pFrm T u k nd v had nx dp).1 683 u = v ∧ (pFrm T u k nd v had nx dp).1 684 u = had ∧ (pFrm T u k nd v had nx dp).1 685 u = nx ∧ (pFrm T u k nd v had nx dp).1 686 u = dp ∧ (pFrm T u k nd v had nx dp).1 621 88 = ((u + 1 : Nat) : Int) := by
  refine ⟨?_, ?_, ?_, ?_, ?_, ?_, ?_⟩
  · unfold pFrm; repeat (first | rw [rd_eq] | rw [rd_nk (by decide)] | rw [rd_nf (by omega)])
  · unfold pFrm; repeat (first | rw [rd_eq] | rw [rd_nk (by decide)] | rw [rd_nf (by omega)])
  · unfold pFrm; repeat (first | rw [rd_eq] | rw [rd_nk (by decide)] | rw [rd_nf (by omega)])
  · unfold pFrm; repeat (first | rw [rd_eq] | rw [rd_nk (by decide)] | rw [rd_nf (by omega)])
  · unfold pFrm; repeat (first | rw [rd_eq] | rw [rd_nk (by decide)] | rw [rd_nf (by omega)])
  · unfold pFrm; repeat (first | rw [rd_eq] | rw [rd_nk (by decide)] | rw [rd_nf (by omega)])
  · unfold pFrm; repeat (first | rw [rd_eq] | rw [rd_nk (by decide)] | rw [rd_nf (by omega)])
theorem pFrm_low {c i : Nat} (hc : 681 ≤ c ∧ c ≤ 686) (hi : i < u) : (pFrm T u k nd v had nx dp).1 c i = T.1 c i := by
  unfold pFrm
  rw [rd_nk (by omega)]
  repeat (first | rw [rd_nf (by omega)])
theorem pFrm_oth {c i : Nat} (hc : ¬ (681 ≤ c ∧ c ≤ 686)) (hi : ¬ (c = 621 ∧ i = 88)) : (pFrm T u k nd v had nx dp).1 c i = T.1 c i ∧ (pFrm T u k nd v had nx dp).2 = T.2 := by
  unfold pFrm
  refine ⟨?_, rfl⟩
  rw [sp_pI1, if_neg hi]
  repeat (first | rw [rd_nk (by omega)])
theorem pRch_at : (pRch T u k nd v).1 687 u = k ∧ (pRch T u k nd v).1 688 u = nd ∧ (pRch T u k nd v).1 689 u = v ∧ (pRch T u k nd v).1 690 u = T.1 621 81 ∧ (pRch T u k nd v).1 691 u = T.1 621 82 ∧ (pRch T u k nd v).1 692 u = T.1 621 83 ∧ (pRch T u k nd v).1 693 u = T.1 621 84 ∧ (pRch T u k nd v).1 694 u = T.1 621 88 ∧ (pRch T u k nd v).1 695 u = T.1 621 105 ∧ (pRch T u k nd v).1 621 95 = ((u + 1 : Nat) : Int) := by
  refine ⟨?_, ?_, ?_, ?_, ?_, ?_, ?_, ?_, ?_, ?_⟩
  · unfold pRch; repeat (first | rw [rd_eq] | rw [rd_nk (by decide)] | rw [rd_nf (by omega)])
  · unfold pRch; repeat (first | rw [rd_eq] | rw [rd_nk (by decide)] | rw [rd_nf (by omega)])
  · unfold pRch; repeat (first | rw [rd_eq] | rw [rd_nk (by decide)] | rw [rd_nf (by omega)])
  · unfold pRch; repeat (first | rw [rd_eq] | rw [rd_nk (by decide)] | rw [rd_nf (by omega)])
  · unfold pRch; repeat (first | rw [rd_eq] | rw [rd_nk (by decide)] | rw [rd_nf (by omega)])
  · unfold pRch; repeat (first | rw [rd_eq] | rw [rd_nk (by decide)] | rw [rd_nf (by omega)])
  · unfold pRch; repeat (first | rw [rd_eq] | rw [rd_nk (by decide)] | rw [rd_nf (by omega)])
  · unfold pRch; repeat (first | rw [rd_eq] | rw [rd_nk (by decide)] | rw [rd_nf (by omega)])
  · unfold pRch; repeat (first | rw [rd_eq] | rw [rd_nk (by decide)] | rw [rd_nf (by omega)])
  · unfold pRch; repeat (first | rw [rd_eq] | rw [rd_nk (by decide)] | rw [rd_nf (by omega)])
theorem pRch_low {c i : Nat} (hc : 687 ≤ c ∧ c ≤ 695) (hi : i < u) : (pRch T u k nd v).1 c i = T.1 c i := by
  unfold pRch
  rw [rd_nk (by omega)]
  repeat (first | rw [rd_nf (by omega)])
theorem pRch_oth {c i : Nat} (hc : ¬ (687 ≤ c ∧ c ≤ 695)) (hi : ¬ (c = 621 ∧ i = 95)) : (pRch T u k nd v).1 c i = T.1 c i ∧ (pRch T u k nd v).2 = T.2 := by
  unfold pRch
  refine ⟨?_, rfl⟩
  rw [sp_pI1, if_neg hi]
  repeat (first | rw [rd_nk (by omega)])
end OPYT
