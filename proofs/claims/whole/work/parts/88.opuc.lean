/-! THE READER: "*", "+", "?" -/
section RREP3
variable {Q k n m w d N M D lv : Nat} {φ ψ own inn G R ws y : Nat → Nat} {P q : Nat → Int} {S T S0 T0 S2 T2 T1 U : ev_St}
theorem nx_rep {c : Int → Int} {p : Int} (h : c p = 63 ∨ c p = 42 ∨ c p = 43) : nx c p = p + 1 + rsl (c (p + 1)) := by
  unfold nx
  rw [if_neg (by omega), if_neg (by omega), if_neg (by omega), if_pos h]
theorem tk_star {p c lo hi : Int} (hk : ev_isOb k 5 = true) (hkr : 232 ≤ k) (H : RIy k lv ws N M D φ ψ own inn G R y P q S T) (hp : T.1 645 lv = p) (hc : sp_at S (ws lv) p = c) (hx : (c = 42 ∧ lo = 0 ∧ hi = -1) ∨ (c = 43 ∧ lo = 1 ∧ hi = -1) ∨ (c = 63 ∧ lo = 0 ∧ hi = 1)) : TK0 k lv ws (nx (sp_at S (ws lv)) p) S T (jm_85 Q S) (jm_263 Q T) := by
  have ht := H.1.2.1
  obtain ⟨⟨g1, g2, g3, g4, g5⟩, g6, g7⟩ := hd_85 (Q := Q) (c := c) ht (by rw [hp]; exact hc) (by omega)
  rw [nx_rep (by omega)]
  obtain ⟨T2, t1, t2⟩ := tk_rep (Q := Q) (lo := lo) (hi := hi) (r := p + 1) (s := sp_at S (ws lv) (p + 1)) hk hkr H mv_pI (by omega) rfl ⟨by omega, by omega, by omega⟩
  rw [hp] at g3 g4 g7
  refine TK0_of t2 (fun hA => ?_) ?_
  · unfold jm_85
    rw [g1, sp_bd, sp_b, g3, sp_ck (by omega), sp_b]
    rcases hx with ⟨rfl, rfl, rfl⟩ | ⟨rfl, rfl, rfl⟩ | ⟨rfl, rfl, rfl⟩
    · rw [if_neg (show ¬ ((42 : Int) = 36) by decide), if_neg (show ¬ ((42 : Int) = 40) by decide), if_neg (show ¬ ((42 : Int) = 41) by decide), if_pos rfl]
      exact fin_bd hA
    · rw [if_neg (show ¬ ((43 : Int) = 36) by decide), if_neg (show ¬ ((43 : Int) = 40) by decide), if_neg (show ¬ ((43 : Int) = 41) by decide), if_neg (show ¬ ((43 : Int) = 42) by decide), if_pos rfl]
      exact fin_bd hA
    · rw [if_neg (show ¬ ((63 : Int) = 36) by decide), if_neg (show ¬ ((63 : Int) = 40) by decide), if_neg (show ¬ ((63 : Int) = 41) by decide), if_neg (show ¬ ((63 : Int) = 42) by decide), if_neg (show ¬ ((63 : Int) = 43) by decide), if_neg (show ¬ ((63 : Int) = 46) by decide), if_pos rfl]
      exact fin_bd hA
  · have e255 : jm_255 Q T = rpR Q lo hi (ev_pI T 645 lv (p + 1)) := by
      unfold jm_255
      rw [g2, sp_bd, g7 1 (by omega), sp_bd, sp_jn]
      rcases hx with ⟨rfl, rfl, rfl⟩ | ⟨rfl, rfl, rfl⟩ | ⟨rfl, rfl, rfl⟩
      · rw [if_pos (show ((42 : Int) ≠ 43) by decide)]
        dsimp only
        rw [sp_jn, if_pos (show ((42 : Int) ≠ 63) by decide)]
        dsimp only
        rw [sp_jn, if_pos (show ((42 : Int) ≠ 123) by decide)]
        rfl
      · rw [if_neg (fun z => z rfl)]
        dsimp only
        rw [sp_jn, if_pos (show ((43 : Int) ≠ 63) by decide)]
        dsimp only
        rw [sp_jn, if_pos (show ((43 : Int) ≠ 123) by decide)]
        rfl
      · rw [if_pos (show ((63 : Int) ≠ 43) by decide)]
        dsimp only
        rw [sp_jn, if_neg (fun z => z rfl)]
        dsimp only
        rw [sp_jn, if_pos (show ((63 : Int) ≠ 123) by decide)]
        rfl
    unfold jm_263
    rw [g2, sp_bd, sp_jn]
    rcases hx with ⟨rfl, _⟩ | ⟨rfl, _⟩ | ⟨rfl, _⟩
    · rw [if_neg (show ¬ ((42 : Int) = 63) by decide), if_pos rfl]
      dsimp only
      rw [e255, t1, sp_bd]
    · rw [if_neg (show ¬ ((43 : Int) = 63) by decide), if_neg (show ¬ ((43 : Int) = 42) by decide), if_pos rfl]
      dsimp only
      rw [e255, t1, sp_bd]
    · rw [if_pos rfl]
      dsimp only
      rw [e255, t1, sp_bd]
end RREP3
