/-! THE READER: switches, the letters -/
section RSWI
variable {Q k n m w d N M D lv t : Nat} {φ ψ own inn G R ws y : Nat → Nat} {P q : Nat → Int} {S T S0 T0 S1 S' S2 T2 T1 T3 U : ev_St}
/-- what a letter of a switch stands for -/
def swv (e : Int) : Int := if e = 105 then 1 else if e = 115 then 2 else if e = 109 then 4 else 0
/-- letters in a row, put together -/
def swf (c : Int → Int) : Nat → Int → Int → Int
  | 0, _, a => a
  | n + 1, p, a => if c p = 105 ∨ c p = 115 ∨ c p = 109 then swf c n (p + 1) (ev_ior a (swv (c p))) else a
theorem swl_b {c : Int → Int} {L : Int} (hc : ∀ x, L ≤ x → c x = -1) : ∀ (n : Nat) (p : Int), 0 ≤ swl c n p ∧ (p ≤ L → p + swl c n p ≤ L) ∧ (L ≤ p + n → swv (c (p + swl c n p)) = 0) := fun n => by
  induction n with
  | zero => 
    intro p
    refine ⟨Int.le_refl _, fun h => by show p + 0 ≤ L; omega, fun h => ?_⟩
    show swv (c (p + 0)) = 0
    rw [hc _ (by omega)]
    rfl
  | succ n ih =>
    intro p
    obtain ⟨i1, i2, i3⟩ := ih (p + 1)
    unfold swl
    by_cases z : c p = 105 ∨ c p = 115 ∨ c p = 109
    · rw [if_pos z, show p + (1 + swl c n (p + 1)) = p + 1 + swl c n (p + 1) from by omega]
      have hL : p < L := by
        by_cases y : p < L
        · exact y
        · rw [hc p (by omega)] at z
          omega
      exact ⟨by omega, fun _ => i2 (by omega), fun h => i3 (by omega)⟩
    · rw [if_neg z, Int.add_zero]
      refine ⟨Int.le_refl _, fun h => h, fun _ => ?_⟩
      unfold swv
      rw [if_neg (by omega), if_neg (by omega), if_neg (by omega)]
theorem sw_R {b : Int} (ht : RIt lv ws S T) : ∀ (n q : Nat) (p a : Int), 0 ≤ p ∧ p ≤ 200 → S.1 (ws lv) 1 ≤ p + n → n < q → jl_257_8 Q q a (sp_at S (ws lv) p) (xS lv T p b) = some (swf (sp_at S (ws lv)) n p a, xS lv T (p + swl (sp_at S (ws lv)) n p) b) := fun n => by
  have h120 := (LV_tx ht.1 ht.2.1 (ht.2.2.2.1 lv (Nat.le_refl _)).1).2.2.1
  induction n with
  | zero =>
    intro q p a hp hn hq
    obtain ⟨q', rfl⟩ : ∃ q', q = q' + 1 := ⟨q - 1, by omega⟩
    have e : ¬ (sp_at S (ws lv) p = 105 ∨ sp_at S (ws lv) p = 115 ∨ sp_at S (ws lv) p = 109) := fun z => by
      have := at_in (S := S) (w := ws lv) (p := p) hp.1 (by omega)
      omega
    show jb_257_8 Q _ _ _ _ = _
    unfold jb_257_8
    rw [sp_jn, if_neg (by omega), if_neg (by omega), if_pos (by omega)]
    show some (a, xS lv T p b) = some (a, xS lv T (p + 0) b)
    rw [Int.add_zero]
  | succ n ih =>
    intro q p a hp hn hq
    obtain ⟨q', rfl⟩ : ∃ q', q = q' + 1 := ⟨q - 1, by omega⟩
    show jb_257_8 Q _ _ _ _ = _
    unfold jb_257_8 swf swl
    by_cases z : sp_at S (ws lv) p = 105 ∨ sp_at S (ws lv) p = 115 ∨ sp_at S (ws lv) p = 109
    · have hin := at_in (S := S) (w := ws lv) (p := p) hp.1 (by omega)
      have hi := ih q' (p + 1) (ev_ior a (swv (sp_at S (ws lv) p))) (by omega) (by omega) (by omega)
      rw [if_pos z, if_pos z, show p + (1 + swl (sp_at S (ws lv)) n (p + 1)) = p + 1 + swl (sp_at S (ws lv)) n (p + 1) from by omega, ← hi, sp_jn]
      by_cases z1 : sp_at S (ws lv) p = 105
      · rw [if_pos z1]
        try dsimp only
        rw [sp_jn, if_neg (fun y => y z1)]
        try dsimp only
        rw [sp_b, xG ht (by omega), sp_bd, xT ht (by omega), sp_bd, Int.add_zero, show swv (sp_at S (ws lv) p) = 1 from by rw [z1]; rfl]
      · by_cases z2 : sp_at S (ws lv) p = 115
        · rw [if_neg z1, if_pos z2]
          try dsimp only
          rw [sp_jn, if_pos z1, if_neg (fun y => y z2)]
          try dsimp only
          rw [sp_b, xG ht (by omega), sp_bd, xT ht (by omega), sp_bd, Int.add_zero, show swv (sp_at S (ws lv) p) = 2 from by rw [z2]; rfl]
        · rw [if_neg z1, if_neg z2, if_neg (by omega)]
          try dsimp only
          rw [sp_jn, if_pos z1, if_pos z2]
          try dsimp only
          rw [sp_b, xG ht (by omega), sp_bd, xT ht (by omega), sp_bd, Int.add_zero, show swv (sp_at S (ws lv) p) = 4 from by rw [show sp_at S (ws lv) p = 109 from by omega]; rfl]
    · rw [if_neg z, if_neg z, sp_jn, if_neg (by omega), if_neg (by omega), if_pos (by omega), Int.add_zero]
theorem sw_R257 {b p : Int} (hQ : 161 ≤ Q) (ht : RIt lv ws S T) (hp : 0 ≤ p ∧ p ≤ 200) : jm_257 Q (xS lv T p b) = some (swf (sp_at S (ws lv)) 160 p 0, xS lv T (p + swl (sp_at S (ws lv)) 160 p) b) := by
  have h120 := (LV_tx ht.1 ht.2.1 (ht.2.2.2.1 lv (Nat.le_refl _)).1).2.2.1
  unfold jm_257
  rw [xT ht (by omega), sp_bd, Int.add_zero, sw_R ht 160 Q p 0 hp (by omega) (by omega)]
/-- flags are 0 to 7 -/
theorem ior7 {a v : Int} (ha : 0 ≤ a ∧ a ≤ 7) (hv : v = 0 ∨ v = 1 ∨ v = 2 ∨ v = 4) : 0 ≤ ev_ior a v ∧ ev_ior a v ≤ 7 ∧ (v = 0 → ev_ior a v = a) ∧ (v ≠ 0 → ev_ior a v ≠ 0) := by
  have h : a = 0 ∨ a = 1 ∨ a = 2 ∨ a = 3 ∨ a = 4 ∨ a = 5 ∨ a = 6 ∨ a = 7 := by omega
  rcases h with rfl | rfl | rfl | rfl | rfl | rfl | rfl | rfl <;> rcases hv with rfl | rfl | rfl | rfl <;> decide +kernel
end RSWI
