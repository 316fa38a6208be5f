/-! THE READER: switches, the reference's letters -/
section RSWI5
variable {Q k n m w d N M D lv t : Nat} {φ ψ own inn G R ws y : Nat → Nat} {P q : Nat → Int} {S T S0 T0 S1 S' S2 T2 T1 T3 U : ev_St}
/-- the reference's switches behind their letters -/
def swK (Q : Nat) (x5 x6 : Int) (s19 : ev_St) : Option (Unit × ev_St) := ev_bd (jm_233 Q 0 s19) fun x22 s21 => ev_bd (jm_234 Q 1 s21) fun _ s23 => if x22 ≠ 41 then (if x22 ≠ 58 then (ev_b (ev_pI s23 621 25 1) fun s26 => some ((), s26)) else (ev_bd (jm_237 Q 9 s23) fun x28 s27 => ev_bd (jm_239 Q x28 0 s27) fun _ s29 => ev_b (s29.1 621 40) fun x30 => ev_b (ev_ior x30 x5) fun x31 => ev_b (ev_ixor x6 ((-1))) fun x32 => ev_b (ev_iand x31 x32) fun x33 => ev_b (ev_pI s29 621 40 x33) fun s34 => some ((), s34))) else (ev_b (s23.1 621 40) fun x35 => ev_b (ev_ior x35 x5) fun x36 => ev_b (ev_ixor x6 ((-1))) fun x37 => ev_b (ev_iand x36 x37) fun x38 => ev_b (ev_pI s23 621 40 x38) fun s39 => ev_b (ev_pI s39 621 39 ((-1))) fun s40 => some ((), s40))
theorem sw_R258 {p on off n1 n2 : Int} (hQ : 161 ≤ Q) (ht : RIt lv ws S T) (hp : 0 ≤ p ∧ p ≤ S.1 (ws lv) 1) (ho : swf (sp_at S (ws lv)) 160 p 0 = on) (hn1 : swl (sp_at S (ws lv)) 160 p = n1) (hof : swf (sp_at S (ws lv)) 160 (p + n1 + 1) 0 = off) (hn2 : swl (sp_at S (ws lv)) 160 (p + n1 + 1) = n2) : (sp_at S (ws lv) (p + n1) ≠ 45 → jm_258 Q (xS lv T p 0) = swK Q on 0 (xS lv T (p + n1) (if on = 0 then 1 else 0))) ∧ (sp_at S (ws lv) (p + n1) = 45 → jm_258 Q (xS lv T p 0) = swK Q on off (xS lv T (p + n1 + 1 + n2) (if off = 0 then 1 else 0))) := by
  have h120 := (LV_tx ht.1 ht.2.1 (ht.2.2.2.1 lv (Nat.le_refl _)).1).2.2.1
  have hc : ∀ x, S.1 (ws lv) 1 ≤ x → sp_at S (ws lv) x = -1 := fun x hx => by
    by_cases z : sp_at S (ws lv) x = -1
    · exact z
    · have := at_in (S := S) (w := ws lv) (p := x) (by omega) z
      omega
  obtain ⟨b1, b2, b3⟩ := swl_b hc 160 p
  rw [hn1] at b1 b2
  have b2 := b2 hp.2
  constructor
  · intro h
    unfold jm_258
    rw [sw_R257 hQ ht (by omega), sp_bd, ho, hn1, xT ht (by omega), sp_bd, Int.add_zero, sp_jn, if_pos h]
    try dsimp only
    rw [sp_b, xS_25, sp_jn, sp_jn, if_neg (fun z => z rfl), sp_jn]
    by_cases z : on = 0
    · rw [if_neg (fun y => y z), if_neg (fun y => y rfl), if_pos z]
      try dsimp only
      rw [sp_if (Or.inr rfl), sp_b, xS_w]
      rfl
    · rw [if_pos z, if_neg z]
      try dsimp only
      rw [sp_if (Or.inl rfl), sp_b, xS_w]
      rfl
  · intro h
    have hin := at_in (S := S) (w := ws lv) (p := p + n1) (by omega) (by rw [h]; omega)
    unfold jm_258
    rw [sw_R257 hQ ht (by omega), sp_bd, ho, hn1, xT ht (by omega), sp_bd, Int.add_zero, sp_jn, if_neg (fun y => y h), xG ht (by omega), sp_bd, sw_R257 hQ ht (by omega), sp_bd, hof, hn2, sp_b, xS_25, sp_jn, sp_jn, if_neg (fun y => y rfl)]
    by_cases z : off = 0
    · rw [if_neg (fun y => y z), if_pos z]
      try dsimp only
      rw [sp_if (Or.inr rfl), sp_b, xS_w, sp_b, xS_25, sp_jn, sp_jn, if_pos (by decide)]
      try dsimp only
      rw [sp_if (Or.inr rfl), sp_b, xS_w]
      rfl
    · rw [if_pos z, if_neg z]
      try dsimp only
      rw [sp_if (Or.inl rfl), sp_b, xS_w, sp_b, xS_25, sp_jn, sp_jn, if_neg (fun y => y rfl), sp_jn]
      by_cases z3 : on = 0
      · rw [if_neg (fun y => y z3), if_pos z]
        try dsimp only
        rw [sp_if (Or.inl rfl), sp_b, xS_w]
        rfl
      · rw [if_pos z3]
        try dsimp only
        rw [sp_if (Or.inl rfl), sp_b, xS_w]
        rfl
end RSWI5
