/-! THE READER: switches, the class's loop -/
section RSWI2
variable {Q k n m w d N M D lv t : Nat} {φ ψ own inn G R ws y : Nat → Nat} {P q : Nat → Int} {S T S0 T0 S1 S' S2 T2 T1 T3 U : ev_St}
/-- the class's switches behind their letters -/
def swEnd (Q : Nat) (x1 x2 x3 x4 : Int) (s20 : ev_St) : Option (Int × ev_St) := ev_bd (jm_84 Q x4 s20) fun x22 s21 => ev_jn (fun (x23 : Int) (x24 : Int) (s31 : ev_St) => if x24 = 0 then (some (0, s31)) else (ev_jn (fun (s39 : ev_St) => ev_b (s39.1 3 8) fun x40 => ev_ck (x4 + 1) fun x41 => ev_ck (x40 + x41) fun x42 => ev_b (ev_pI s39 3 8 x42) fun s43 => ev_jn (fun (s48 : ev_St) => ev_b (s48.1 3 11) fun x49 => ev_b (ev_ior x49 x1) fun x50 => ev_b (ev_ixor x2 ((-1))) fun x51 => ev_b (ev_iand x50 x51) fun x52 => ev_b (ev_pI s48 3 11 x52) fun s53 => ev_b (ev_pI s53 3 13 0) fun s54 => some (1, s54)) fun K160 => if x23 ≠ 58 then (K160 s43) else (ev_bd (jm_103 Q 0 17 0 s43) fun x57 s56 => if x57 ≠ 0 then (K160 s56) else (some (0, s56)))) fun K127 => if x23 = 41 then (K127 s31) else (if x23 = 58 then (K127 s31) else (some (0, s31))))) fun K108 => if x3 = 0 then (K108 x22 x1 s21) else (K108 x22 x2 s21)
theorem sp_110 {e : Int} : jm_110 Q e S = some (swv e, S) := by
  unfold jm_110 swv
  by_cases z1 : e = 105
  · rw [if_neg (fun y => y z1), if_pos z1]
  · by_cases z2 : e = 115
    · rw [if_pos z1, if_neg (fun y => y z2), if_neg z1, if_pos z2]
    · by_cases z3 : e = 109
      · rw [if_pos z1, if_pos z2, if_neg (fun y => y z3), if_neg z1, if_neg z2, if_pos z3]
      · rw [if_pos z1, if_pos z2, if_pos z3, if_neg z1, if_neg z2, if_neg z3]
theorem swv_n {e : Int} (h : e = 105 ∨ e = 115 ∨ e = 109) : (swv e = 0 ∨ swv e = 1 ∨ swv e = 2 ∨ swv e = 4) ∧ swv e ≠ 0 := by
  rcases h with rfl | rfl | rfl <;> decide
theorem swv_0 {e : Int} (h : ¬ (e = 105 ∨ e = 115 ∨ e = 109)) : swv e = 0 := by
  unfold swv
  rw [if_neg (by omega), if_neg (by omega), if_neg (by omega)]
theorem sw_C2 {r : Int} (ht : RIt lv ws S T) (hr : 0 ≤ r) : ∀ (n q : Nat) (on off p x4 x5 : Int), x4 = p - r → r ≤ p ∧ p ≤ 200 → 0 ≤ x5 ∧ x5 ≤ p → S.1 (ws lv) 1 ≤ p + n → n < q → jl_109_12 Q q on off 1 x4 x5 (ev_pI S 3 8 r) = swEnd Q on (swf (sp_at S (ws lv)) n p off) 1 (p + swl (sp_at S (ws lv)) n p - r) (ev_pI S 3 8 r) := fun n => by
  have h120 := (LV_tx ht.1 ht.2.1 (ht.2.2.2.1 lv (Nat.le_refl _)).1).2.2.1
  have stop : ∀ (q : Nat) (on off p x4 x5 : Int), x4 = p - r → r ≤ p ∧ p ≤ 200 → ¬ (sp_at S (ws lv) p = 105 ∨ sp_at S (ws lv) p = 115 ∨ sp_at S (ws lv) p = 109) → jl_109_12 Q (q + 1) on off 1 x4 x5 (ev_pI S 3 8 r) = swEnd Q on off 1 (p - r) (ev_pI S 3 8 r) := fun q on off p x4 x5 h4 hp e => by
    show jb_109_12 Q _ _ _ _ _ _ _ = _
    unfold jb_109_12
    rw [sp_jn, ← h4]
    by_cases z : 160 ≤ x5
    · rw [if_pos z]
      rfl
    · rw [if_neg z, pk_Sp ht (by omega), sp_bd, sp_110, sp_bd, sp_jn, show r + x4 = p from by omega, swv_0 e, if_neg (fun y => y rfl), pk_Sp ht (by omega), sp_bd, show r + x4 = p from by omega]
      by_cases z2 : sp_at S (ws lv) p = 45
      · rw [if_neg (fun y => y z2), if_neg (by decide)]
        rfl
      · rw [if_pos z2]
        rfl
  induction n with
  | zero =>
    intro q on off p x4 x5 h4 hp h5 hn hq
    obtain ⟨q', rfl⟩ : ∃ q', q = q' + 1 := ⟨q - 1, by omega⟩
    have e : ¬ (sp_at S (ws lv) p = 105 ∨ sp_at S (ws lv) p = 115 ∨ sp_at S (ws lv) p = 109) := fun z => by
      have := at_in (S := S) (w := ws lv) (p := p) (by omega) (by omega)
      omega
    rw [stop q' on off p x4 x5 h4 hp e]
    show _ = swEnd Q on off 1 (p + 0 - r) (ev_pI S 3 8 r)
    rw [Int.add_zero]
  | succ n ih =>
    intro q on off p x4 x5 h4 hp h5 hn hq
    obtain ⟨q', rfl⟩ : ∃ q', q = q' + 1 := ⟨q - 1, by omega⟩
    unfold swf swl
    by_cases z : sp_at S (ws lv) p = 105 ∨ sp_at S (ws lv) p = 115 ∨ sp_at S (ws lv) p = 109
    · have hin := at_in (S := S) (w := ws lv) (p := p) (by omega) (by omega)
      have hi := ih q' on (ev_ior off (swv (sp_at S (ws lv) p))) (p + 1) (x4 + 1) (x5 + 1) (by omega) (by omega) (by omega) (by omega) (by omega)
      rw [if_pos z, if_pos z, show p + (1 + swl (sp_at S (ws lv)) n (p + 1)) = p + 1 + swl (sp_at S (ws lv)) n (p + 1) from by omega, ← hi]
      show jb_109_12 Q _ _ _ _ _ _ _ = _
      unfold jb_109_12
      rw [sp_jn, if_neg (by omega), pk_Sp ht (by omega), sp_bd, sp_110, sp_bd, sp_jn, show r + x4 = p from by omega, if_pos (swv_n z).2]
      try dsimp only
      rw [sp_jn, if_neg (by decide), sp_b]
      try dsimp only
      rw [sp_ck (by omega), sp_ck (by omega)]
    · rw [if_neg z, if_neg z, Int.add_zero]
      exact stop q' on off p x4 x5 h4 hp z
end RSWI2
