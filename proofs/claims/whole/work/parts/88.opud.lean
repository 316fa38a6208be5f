/-! THE READER: "{2,3}" -/
section RREP4
variable {Q k n m w d N M D lv : Nat} {φ ψ own inn G R ws y : Nat → Nat} {P q : Nat → Int} {S T S0 T0 S2 T2 T1 U : ev_St}
theorem nb_i (c d : Int) : (-1 ≤ nbv c d ∧ nbv c d ≤ 99) ∧ (0 ≤ nbl c d ∧ nbl c d ≤ 2) ∧ (nbv c d = -1 → nbl c d = 0) := by
  have i1 := ch_d_i c
  have i2 := ch_d_i d
  unfold nbv nbl
  by_cases e1 : ch_d c = 0
  · rw [if_pos e1, if_pos e1]
    omega
  · by_cases e2 : ch_d d = 0
    · rw [if_neg e1, if_neg e1, if_pos e2, if_pos e2]
      omega
    · rw [if_neg e1, if_neg e1, if_neg e2, if_neg e2]
      omega
/-- numbers at any spot -/
theorem nb_S {x : Int} (ht : RIt lv ws S T) (hp : 0 ≤ x ∧ x ≤ 800) : jm_95 Q (ev_pI S 3 8 x) = some (nbv (sp_at S (ws lv) x) (sp_at S (ws lv) (x + 1)), ev_pI S 3 8 (x + nbl (sp_at S (ws lv) x) (sp_at S (ws lv) (x + 1)))) := by
  obtain ⟨r1, r2, r3, r4, r5, r6⟩ := RT_ofL ht
  unfold isTx at r2
  have e : ∀ z, sp_at (ev_pI S 3 8 x) (ws lv) z = sp_at S (ws lv) z := fun z => by
    unfold sp_at
    rw [rd_nk (by omega), rd_nk (by omega)]
  rw [sp_95 (S := ev_pI S 3 8 x) (w := ws lv) r1.1 (by rw [rd_nk (by omega)]; have := r1.2.1; omega) r6 (by omega) (by rw [rd_eq]; omega), rd_eq, e, e, pI_pI]
theorem nb_T {x : Int} (hQ : 3 ≤ Q) (ht : RIt lv ws S T) (hU : ∀ a g, a = 622 ∨ a = 623 ∨ a = 624 ∨ a = 644 ∨ (a = 621 ∧ (g = 1 ∨ g = 28)) → U.1 a g = T.1 a g) (hx : U.1 645 lv = x) (hp : 0 ≤ x ∧ x ≤ 300) : jm_254 Q U = some (if nbv (sp_at S (ws lv) x) (sp_at S (ws lv) (x + 1)) ≤ 20 then nbv (sp_at S (ws lv) x) (sp_at S (ws lv) (x + 1)) else -1, ev_pI U 645 lv (x + nbl (sp_at S (ws lv) x) (sp_at S (ws lv) (x + 1)))) := by
  obtain ⟨r1, r2, r3, r4, r5, r6⟩ := RT_ofL ht
  have rU := RT_c r1 hU
  have e28 : (U.1 621 28).toNat = lv := by rw [hU 621 28 (by omega), ht.2.2.1.2.1, Int.toNat_natCast]
  have e : rpos U = x := by
    unfold rpos
    rw [e28, hx]
  rw [sp_254 rU hQ (by omega), e, e28]
/-- where the bounds end, what they are, and whether they are such -/
def bdr (c : Int → Int) (p : Int) : Int := if c (p + 1 + nbl (c (p + 1)) (c (p + 2))) = 44 then (if c (p + 2 + nbl (c (p + 1)) (c (p + 2))) = 125 then p + 3 + nbl (c (p + 1)) (c (p + 2)) else p + 3 + nbl (c (p + 1)) (c (p + 2)) + nbl (c (p + 2 + nbl (c (p + 1)) (c (p + 2)))) (c (p + 3 + nbl (c (p + 1)) (c (p + 2))))) else p + 2 + nbl (c (p + 1)) (c (p + 2))
def bdh (c : Int → Int) (p : Int) : Int := if c (p + 1 + nbl (c (p + 1)) (c (p + 2))) = 44 then (if c (p + 2 + nbl (c (p + 1)) (c (p + 2))) = 125 then -1 else nbv (c (p + 2 + nbl (c (p + 1)) (c (p + 2)))) (c (p + 3 + nbl (c (p + 1)) (c (p + 2))))) else nbv (c (p + 1)) (c (p + 2))
def bdl (c : Int → Int) (p : Int) : Int := nbv (c (p + 1)) (c (p + 2))
abbrev bdo (c : Int → Int) (p : Int) : Prop := c (bdr c p - 1) = 125 ∧ (0 ≤ bdl c p ∧ bdl c p ≤ 20) ∧ bdh c p ≤ 20 ∧ (bdh c p = -1 ∨ bdl c p ≤ bdh c p)
theorem bnd_r (c : Int → Int) (p : Int) : bnd c p = bdr c p + rsl (c (bdr c p)) := by
  unfold bnd bdr
  (repeat' split) <;> rfl
theorem bd_C {p : Int} (ht : RIt lv ws S T) (hp : 0 ≤ p ∧ p ≤ 130) : (bdo (sp_at S (ws lv)) p → jm_94 Q (ev_pI S 3 8 (p + 1)) = ev_bd (jm_92 Q (bdl (sp_at S (ws lv)) p) (bdh (sp_at S (ws lv)) p) (ev_pI S 3 8 (bdr (sp_at S (ws lv)) p))) fun x s => if x = 0 then (some (0, s)) else (some (1, s))) ∧ (¬ bdo (sp_at S (ws lv)) p → ∃ S', jm_94 Q (ev_pI S 3 8 (p + 1)) = some (0, S')) := by
  have i1 := nb_i (sp_at S (ws lv) (p + 1)) (sp_at S (ws lv) (p + 2))
  have tail : ∀ (lo hi r : Int), -1 ≤ r ∧ r ≤ 300 → ((ev_bd (jm_84 Q 0 (ev_pI S 3 8 r)) fun x13 s12 => ev_jn (fun (x14 : Int) (s19 : ev_St) => ev_b (s19.1 3 8) fun x20 => ev_ck (x20 + 1) fun x21 => ev_b (ev_pI s19 3 8 x21) fun s22 => if x14 = 0 then (some (0, s22)) else (if lo < 0 then (some (0, s22)) else (if 20 < lo then (some (0, s22)) else (if hi ≤ 20 then (ev_jn (fun  (s31 : ev_St) => ev_bd (jm_92 Q lo hi s31) fun x33 s32 => if x33 = 0 then (some (0, s32)) else (some (1, s32))) fun K104 => if hi = (-1) then (K104  s22) else (if hi < lo then (some (0, s22)) else (K104  s22))) else (some (0, s22)))))) fun K61 => if x13 ≠ 125 then (K61 0 s12) else (K61 1 s12)) : Option (Int × ev_St)) = if sp_at S (ws lv) r = 125 ∧ (0 ≤ lo ∧ lo ≤ 20) ∧ hi ≤ 20 ∧ (hi = -1 ∨ lo ≤ hi) then (ev_bd (jm_92 Q lo hi (ev_pI S 3 8 (r + 1))) fun x s => if x = 0 then (some (0, s)) else (some (1, s))) else some (0, ev_pI S 3 8 (r + 1)) := fun lo hi r hr => by
    rw [pk_Sp ht (by omega), sp_bd, Int.add_zero, sp_jn]
    by_cases e1 : sp_at S (ws lv) r = 125
    · rw [if_neg (fun z => z e1)]
      try dsimp only
      rw [sp_b, rd_eq, sp_ck (by omega), sp_b, pI_pI, if_neg (by decide)]
      by_cases e2 : lo < 0
      · rw [if_pos e2, if_neg (by omega)]
      · rw [if_neg e2]
        by_cases e3 : 20 < lo
        · rw [if_pos e3, if_neg (by omega)]
        · rw [if_neg e3]
          by_cases e4 : hi ≤ 20
          · rw [if_pos e4, sp_jn]
            by_cases e5 : hi = -1
            · rw [if_pos e5, if_pos (by omega)]
            · rw [if_neg e5]
              by_cases e6 : hi < lo
              · rw [if_pos e6, if_neg (by omega)]
              · rw [if_neg e6, if_pos (by omega)]
          · rw [if_neg e4, if_neg (by omega)]
    · rw [if_pos e1, if_neg (fun z => e1 z.1)]
      try dsimp only
      rw [sp_b, rd_eq, sp_ck (by omega), sp_b, pI_pI, if_pos rfl]
  have main : jm_94 Q (ev_pI S 3 8 (p + 1)) = if bdo (sp_at S (ws lv)) p then (ev_bd (jm_92 Q (bdl (sp_at S (ws lv)) p) (bdh (sp_at S (ws lv)) p) (ev_pI S 3 8 (bdr (sp_at S (ws lv)) p))) fun x s => if x = 0 then (some (0, s)) else (some (1, s))) else some (0, ev_pI S 3 8 (bdr (sp_at S (ws lv)) p)) := by
    unfold jm_94
    rw [nb_S ht (by omega), show p + 1 + 1 = p + 2 from by omega, sp_bd, pk_Sp ht (by omega), sp_bd, sp_jn, Int.add_zero]
    unfold bdo bdl bdh bdr
    generalize nbv (sp_at S (ws lv) (p + 1)) (sp_at S (ws lv) (p + 2)) = lo at *
    generalize nbl (sp_at S (ws lv) (p + 1)) (sp_at S (ws lv) (p + 2)) = n1 at *
    by_cases e1 : sp_at S (ws lv) (p + 1 + n1) = 44
    · rw [if_neg (fun z => z e1), if_pos e1, if_pos e1, sp_b, rd_eq, sp_ck (by omega), sp_b, pI_pI, pk_Sp ht (by omega), sp_bd, sp_jn, Int.add_zero, show p + 1 + n1 + 1 = p + 2 + n1 from by omega]
      by_cases e2 : sp_at S (ws lv) (p + 2 + n1) = 125
      · rw [if_neg (fun z => z e2), if_pos e2, if_pos e2]
        try dsimp only
        refine (tail lo (-1) (p + 2 + n1) (by omega)).trans ?_
        rw [show p + 3 + n1 - 1 = p + 2 + n1 from by omega, show p + 2 + n1 + 1 = p + 3 + n1 from by omega]
      · rw [if_pos e2, if_neg e2, if_neg e2]
        have i2 := nb_i (sp_at S (ws lv) (p + 2 + n1)) (sp_at S (ws lv) (p + 3 + n1))
        rw [nb_S ht (by omega), show p + 2 + n1 + 1 = p + 3 + n1 from by omega, sp_bd]
        generalize nbv (sp_at S (ws lv) (p + 2 + n1)) (sp_at S (ws lv) (p + 3 + n1)) = hi at *
        generalize nbl (sp_at S (ws lv) (p + 2 + n1)) (sp_at S (ws lv) (p + 3 + n1)) = n2 at *
        try dsimp only
        refine (tail lo hi (p + 2 + n1 + n2) (by omega)).trans ?_
        rw [show p + 3 + n1 + n2 - 1 = p + 2 + n1 + n2 from by omega, show p + 2 + n1 + n2 + 1 = p + 3 + n1 + n2 from by omega]
    · rw [if_pos e1, if_neg e1, if_neg e1]
      try dsimp only
      refine (tail lo lo (p + 1 + n1) (by omega)).trans ?_
      rw [show p + 2 + n1 - 1 = p + 1 + n1 from by omega, show p + 1 + n1 + 1 = p + 2 + n1 from by omega]
  constructor
  · intro h
    rw [main, if_pos h]
  · intro h
    exact ⟨_, by rw [main, if_neg h]⟩
end RREP4
