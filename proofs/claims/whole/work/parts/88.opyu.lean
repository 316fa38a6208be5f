/-! SEARCH: what is read of a choice of the class -/
section OPYU
variable {Q u h : Nat} {S T : ev_St} {kd cd fr a b : Int}
theorem pChc_at : (pChc S h kd cd fr).1 283 (6 * h) = kd ∧ (pChc S h kd cd fr).1 283 (6 * h + 1) = cd ∧ (pChc S h kd cd fr).1 283 (6 * h + 2) = S.1 281 3 ∧ (pChc S h kd cd fr).1 283 (6 * h + 3) = fr ∧ (pChc S h kd cd fr).1 283 (6 * h + 4) = S.1 281 5 ∧ (pChc S h kd cd fr).1 283 (6 * h + 5) = S.1 281 7 ∧ (pChc S h kd cd fr).1 281 9 = ((h + 1 : Nat) : Int) := by
  refine ⟨?_, ?_, ?_, ?_, ?_, ?_, ?_⟩
  · unfold pChc; repeat (first | rw [rd_eq] | rw [rd_nk (by decide)] | rw [rd_nf (by omega)])
  · unfold pChc; repeat (first | rw [rd_eq] | rw [rd_nk (by decide)] | rw [rd_nf (by omega)])
  · unfold pChc; repeat (first | rw [rd_eq] | rw [rd_nk (by decide)] | rw [rd_nf (by omega)])
  · unfold pChc; repeat (first | rw [rd_eq] | rw [rd_nk (by decide)] | rw [rd_nf (by omega)])
  · unfold pChc; repeat (first | rw [rd_eq] | rw [rd_nk (by decide)] | rw [rd_nf (by omega)])
  · unfold pChc; repeat (first | rw [rd_eq] | rw [rd_nk (by decide)] | rw [rd_nf (by omega)])
  · unfold pChc; repeat (first | rw [rd_eq] | rw [rd_nk (by decide)] | rw [rd_nf (by omega)])
theorem pChc_low {i : Nat} (hi : i < 6 * h) : (pChc S h kd cd fr).1 283 i = S.1 283 i := by
  unfold pChc
  rw [rd_nk (by decide)]
  repeat (first | rw [rd_nf (by omega)])
theorem pChc_oth {c i : Nat} (hc : c ≠ 283) (hi : ¬ (c = 281 ∧ i = 9)) : (pChc S h kd cd fr).1 c i = S.1 c i ∧ (pChc S h kd cd fr).2 = S.2 := by
  unfold pChc
  refine ⟨?_, rfl⟩
  rw [sp_pI1, if_neg hi]
  repeat (first | rw [rd_nk (by omega)])
theorem pRst_at : (pRst S h a b).1 281 3 = a ∧ (pRst S h a b).1 281 4 = b ∧ (pRst S h a b).1 281 5 = S.1 283 (6 * h + 4) ∧ (pRst S h a b).1 281 7 = S.1 283 (6 * h + 5) := by
  refine ⟨?_, ?_, ?_, ?_⟩
  · unfold pRst; repeat (first | rw [rd_eq] | rw [rd_nf (by decide)])
  · unfold pRst; repeat (first | rw [rd_eq] | rw [rd_nf (by decide)])
  · unfold pRst; repeat (first | rw [rd_eq] | rw [rd_nf (by decide)])
  · unfold pRst; repeat (first | rw [rd_eq] | rw [rd_nf (by decide)])
theorem pRst_oth {c i : Nat} (hi : ¬ (c = 281 ∧ (i = 3 ∨ i = 4 ∨ i = 5 ∨ i = 7))) : (pRst S h a b).1 c i = S.1 c i ∧ (pRst S h a b).2 = S.2 := by
  unfold pRst
  refine ⟨?_, rfl⟩
  rw [sp_pI1, if_neg (by omega), sp_pI1, if_neg (by omega), sp_pI1, if_neg (by omega), sp_pI1, if_neg (by omega)]
theorem pRet_at : (pRet T u).1 621 95 = (u : Int) ∧ (pRet T u).1 621 81 = T.1 690 u ∧ (pRet T u).1 621 82 = T.1 691 u ∧ (pRet T u).1 621 83 = T.1 692 u ∧ (pRet T u).1 621 84 = T.1 693 u ∧ (pRet T u).1 621 88 = T.1 694 u ∧ (pRet T u).1 621 105 = T.1 695 u ∧ (pRet T u).1 621 80 = T.1 688 u := by
  refine ⟨?_, ?_, ?_, ?_, ?_, ?_, ?_, ?_⟩
  · unfold pRet; repeat (first | rw [rd_eq] | rw [rd_nf (by decide)])
  · unfold pRet; repeat (first | rw [rd_eq] | rw [rd_nf (by decide)])
  · unfold pRet; repeat (first | rw [rd_eq] | rw [rd_nf (by decide)])
  · unfold pRet; repeat (first | rw [rd_eq] | rw [rd_nf (by decide)])
  · unfold pRet; repeat (first | rw [rd_eq] | rw [rd_nf (by decide)])
  · unfold pRet; repeat (first | rw [rd_eq] | rw [rd_nf (by decide)])
  · unfold pRet; repeat (first | rw [rd_eq] | rw [rd_nf (by decide)])
  · unfold pRet; repeat (first | rw [rd_eq] | rw [rd_nf (by decide)])
theorem pRet_oth {c i : Nat} (hi : ¬ (c = 621 ∧ (i = 80 ∨ (81 ≤ i ∧ i ≤ 84) ∨ i = 88 ∨ i = 95 ∨ i = 105))) : (pRet T u).1 c i = T.1 c i ∧ (pRet T u).2 = T.2 := by
  unfold pRet
  refine ⟨?_, rfl⟩
  repeat (first | rw [sp_pI1, if_neg (by omega)])
end OPYU
