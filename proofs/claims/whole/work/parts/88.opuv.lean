/-! THE READER: switches, the class's loop from its start -/
section RSWI3
variable {Q k n m w d N M D lv t : Nat} {φ ψ own inn G R ws y : Nat → Nat} {P q : Nat → Int} {S T S0 T0 S1 S' S2 T2 T1 T3 U : ev_St}
theorem sw_C1 {r : Int} (ht : RIt lv ws S T) (hr : 0 ≤ r) : ∀ (n q : Nat) (on p x4 x5 : Int), x4 = p - r → r ≤ p ∧ p ≤ 200 → 0 ≤ x5 ∧ x5 ≤ p → 0 ≤ on ∧ on ≤ 7 → S.1 (ws lv) 1 ≤ p + n → n + 162 < q → jl_109_12 Q q on 0 0 x4 x5 (ev_pI S 3 8 r) = (if sp_at S (ws lv) (p + swl (sp_at S (ws lv)) n p) = 45 then swEnd Q (swf (sp_at S (ws lv)) n p on) (swf (sp_at S (ws lv)) 160 (p + swl (sp_at S (ws lv)) n p + 1) 0) 1 (p + swl (sp_at S (ws lv)) n p + 1 + swl (sp_at S (ws lv)) 160 (p + swl (sp_at S (ws lv)) n p + 1) - r) (ev_pI S 3 8 r) else swEnd Q (swf (sp_at S (ws lv)) n p on) 0 0 (p + swl (sp_at S (ws lv)) n p - r) (ev_pI S 3 8 r)) := fun n => by
  have h120 := (LV_tx ht.1 ht.2.1 (ht.2.2.2.1 lv (Nat.le_refl _)).1).2.2.1
  have stop : ∀ (q : Nat) (on p x4 x5 : Int), x4 = p - r → r ≤ p ∧ p ≤ 200 → 0 ≤ x5 ∧ x5 ≤ p → 0 ≤ on ∧ on ≤ 7 → 161 < q → ¬ (sp_at S (ws lv) p = 105 ∨ sp_at S (ws lv) p = 115 ∨ sp_at S (ws lv) p = 109) → jl_109_12 Q (q + 1) on 0 0 x4 x5 (ev_pI S 3 8 r) = (if sp_at S (ws lv) p = 45 then swEnd Q on (swf (sp_at S (ws lv)) 160 (p + 1) 0) 1 (p + 1 + swl (sp_at S (ws lv)) 160 (p + 1) - r) (ev_pI S 3 8 r) else swEnd Q on 0 0 (p - r) (ev_pI S 3 8 r)) := fun q on p x4 x5 h4 hp h5 h7 hq e => by
    show jb_109_12 Q _ _ _ _ _ _ _ = _
    unfold jb_109_12
    rw [sp_jn, ← h4]
    by_cases z2 : sp_at S (ws lv) p = 45
    · have hin := at_in (S := S) (w := ws lv) (p := p) (by omega) (by omega)
      have hi := sw_C2 (Q := Q) ht hr 160 q on 0 (p + 1) (x4 + 1) (x5 + 1) (by omega) (by omega) (by omega) (by omega) (by omega)
      rw [if_pos z2, ← hi, if_neg (by omega), pk_Sp ht (by omega), sp_bd, sp_110, sp_bd, sp_jn, show r + x4 = p from by omega, swv_0 e, if_neg (fun y => y rfl), pk_Sp ht (by omega), sp_bd, show r + x4 = p from by omega, if_neg (fun y => y z2), if_pos rfl]
      try dsimp only
      rw [sp_jn, if_pos rfl, sp_b, (ior7 h7 (Or.inl rfl)).2.2.1 rfl, sp_jn, if_neg (fun y => y rfl)]
      try dsimp only
      rw [sp_ck (by omega), sp_ck (by omega)]
    · rw [if_neg z2]
      by_cases z : 160 ≤ x5
      · rw [if_pos z]
        rfl
      · rw [if_neg z, pk_Sp ht (by omega), sp_bd, sp_110, sp_bd, sp_jn, show r + x4 = p from by omega, swv_0 e, if_neg (fun y => y rfl), pk_Sp ht (by omega), sp_bd, show r + x4 = p from by omega, if_pos z2]
        rfl
  induction n with
  | zero =>
    intro q on p x4 x5 h4 hp h5 h7 hn hq
    obtain ⟨q', rfl⟩ : ∃ q', q = q' + 1 := ⟨q - 1, by omega⟩
    have e : ¬ (sp_at S (ws lv) p = 105 ∨ sp_at S (ws lv) p = 115 ∨ sp_at S (ws lv) p = 109) := fun z => by
      have := at_in (S := S) (w := ws lv) (p := p) (by omega) (by omega)
      omega
    rw [stop q' on p x4 x5 h4 hp h5 h7 (by omega) e, show swl (sp_at S (ws lv)) 0 p = 0 from rfl, Int.add_zero]
    rfl
  | succ n ih =>
    intro q on p x4 x5 h4 hp h5 h7 hn hq
    obtain ⟨q', rfl⟩ : ∃ q', q = q' + 1 := ⟨q - 1, by omega⟩
    by_cases z : sp_at S (ws lv) p = 105 ∨ sp_at S (ws lv) p = 115 ∨ sp_at S (ws lv) p = 109
    · have hin := at_in (S := S) (w := ws lv) (p := p) (by omega) (by omega)
      have hv := swv_n z
      have h8 := ior7 h7 hv.1
      have hi := ih q' (ev_ior on (swv (sp_at S (ws lv) p))) (p + 1) (x4 + 1) (x5 + 1) (by omega) (by omega) (by omega) ⟨h8.1, h8.2.1⟩ (by omega) (by omega)
      rw [show swl (sp_at S (ws lv)) (n + 1) p = 1 + swl (sp_at S (ws lv)) n (p + 1) from if_pos z, show swf (sp_at S (ws lv)) (n + 1) p on = swf (sp_at S (ws lv)) n (p + 1) (ev_ior on (swv (sp_at S (ws lv) p))) from if_pos z, show p + (1 + swl (sp_at S (ws lv)) n (p + 1)) = p + 1 + swl (sp_at S (ws lv)) n (p + 1) from by omega, ← hi]
      show jb_109_12 Q _ _ _ _ _ _ _ = _
      unfold jb_109_12
      rw [sp_jn, if_neg (by omega), pk_Sp ht (by omega), sp_bd, sp_110, sp_bd, sp_jn, show r + x4 = p from by omega, if_pos hv.2]
      try dsimp only
      rw [sp_jn, if_pos rfl, sp_b, sp_jn, if_pos hv.2]
      try dsimp only
      rw [sp_ck (by omega), sp_ck (by omega)]
    · rw [show swl (sp_at S (ws lv)) (n + 1) p = 0 from if_neg z, show swf (sp_at S (ws lv)) (n + 1) p on = on from if_neg z, Int.add_zero]
      exact stop q' on p x4 x5 h4 hp h5 h7 (by omega) z
end RSWI3
