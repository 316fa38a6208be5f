/-! THE READER: switches, the class's end -/
section RSWI4
variable {Q k n m w d N M D lv t : Nat} {φ ψ own inn G R ws y : Nat → Nat} {P q : Nat → Int} {S T S0 T0 S1 S' S2 T2 T1 T3 U : ev_St}
/-- the flags that switches make -/
def swF (f on off : Int) : Int := ev_iand (ev_ior f on) (ev_ixor off (-1))
theorem sw_E {x1 x2 x3 p r e : Int} (ht : RIt lv ws S T) (hr : 0 ≤ r ∧ r ≤ p) (hp : p ≤ 200) (he : sp_at S (ws lv) p = e) : ((if x3 = 0 then x1 else x2) = 0 ∨ (e ≠ 41 ∧ e ≠ 58) → swEnd Q x1 x2 x3 (p - r) (ev_pI S 3 8 r) = some (0, ev_pI S 3 8 r)) ∧ ((if x3 = 0 then x1 else x2) ≠ 0 → e = 41 → swEnd Q x1 x2 x3 (p - r) (ev_pI S 3 8 r) = some (1, ev_pI (ev_pI (ev_pI S 3 8 (p + 1)) 3 11 (swF (S.1 3 11) x1 x2)) 3 13 0)) ∧ ((if x3 = 0 then x1 else x2) ≠ 0 → e = 58 → ∀ x U, jm_103 Q 0 17 0 (ev_pI S 3 8 (p + 1)) = some (x, U) → swEnd Q x1 x2 x3 (p - r) (ev_pI S 3 8 r) = if x ≠ 0 then some (1, ev_pI (ev_pI U 3 11 (swF (U.1 3 11) x1 x2)) 3 13 0) else some (0, U)) := by
  have hd : ∀ X, (∀ sel, sel = (if x3 = 0 then x1 else x2) → (if sel = 0 then (some ((0 : Int), ev_pI S 3 8 r)) else (ev_jn (fun (s39 : ev_St) => ev_b (s39.1 3 8) fun x40 => ev_ck ((p - r) + 1) fun x41 => ev_ck (x40 + x41) fun x42 => ev_b (ev_pI s39 3 8 x42) fun s43 => ev_jn (fun (s48 : ev_St) => ev_b (s48.1 3 11) fun x49 => ev_b (ev_ior x49 x1) fun x50 => ev_b (ev_ixor x2 ((-1))) fun x51 => ev_b (ev_iand x50 x51) fun x52 => ev_b (ev_pI s48 3 11 x52) fun s53 => ev_b (ev_pI s53 3 13 0) fun s54 => some ((1 : Int), s54)) fun K160 => if e ≠ 58 then (K160 s43) else (ev_bd (jm_103 Q 0 17 0 s43) fun x57 s56 => if x57 ≠ 0 then (K160 s56) else (some (0, s56)))) fun K127 => if e = 41 then (K127 (ev_pI S 3 8 r)) else (if e = 58 then (K127 (ev_pI S 3 8 r)) else (some (0, ev_pI S 3 8 r))))) = X) → swEnd Q x1 x2 x3 (p - r) (ev_pI S 3 8 r) = X := fun X hX => by
    unfold swEnd
    rw [pk_Sp ht (by omega), sp_bd, show r + (p - r) = p from by omega, he, sp_jn]
    by_cases z : x3 = 0
    · rw [if_pos z]
      exact hX x1 (by rw [if_pos z])
    · rw [if_neg z]
      exact hX x2 (by rw [if_neg z])
  refine ⟨fun h => hd _ fun sel hs => ?_, fun h1 h2 => hd _ fun sel hs => ?_, fun h1 h2 x U hU => hd _ fun sel hs => ?_⟩
  · rw [← hs] at h
    by_cases z : sel = 0
    · rw [if_pos z]
    · rw [if_neg z, sp_jn, if_neg (by omega), if_neg (by omega)]
  · rw [← hs] at h1
    rw [if_neg h1, sp_jn, if_pos h2]
    try dsimp only
    rw [sp_b, rd_eq, sp_ck (by omega), sp_ck (by omega), sp_b, pI_pI, show r + (p - r + 1) = p + 1 from by omega, sp_jn, if_pos (by omega)]
    try dsimp only
    rw [sp_b, rd_nf (by omega), sp_b, sp_b, sp_b, sp_b, sp_b]
    rfl
  · rw [← hs] at h1
    rw [if_neg h1, sp_jn, if_neg (by omega), if_pos h2]
    try dsimp only
    rw [sp_b, rd_eq, sp_ck (by omega), sp_ck (by omega), sp_b, pI_pI, show r + (p - r + 1) = p + 1 from by omega, sp_jn, if_neg (fun y => y h2), hU, sp_bd]
    rfl
end RSWI4
