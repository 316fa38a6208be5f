/-! CLASSES OF CHARACTERS: the whole class -/
section ELEM5
variable {Q k w : Nat} {S T : ev_St}
theorem wm_hi {L : List (Nat × Nat × Nat)} {b q c f : Nat} (h : L.all (fun x => Nat.ble x.2.1 b) = true) (hc : b < c) : wm L q c f = false := by
  cases e : wm L q c f with
  | false => rfl
  | true =>
    exfalso
    obtain ⟨x, hx, e1⟩ := List.any_eq_true.mp e
    have e2 := List.all_eq_true.mp h x hx
    simp only [Bool.and_eq_true, Nat.beq_eq, Nat.ble_eq] at e1 e2
    omega
/-- every element comes to the same -/
theorem el_any (hQ : 300 ≤ Q) (hC : CRel k w S T) : EL Q k w S T := by
  by_cases h1 : sp_at S w (rpos T) = 93
  · exact el_close hC h1
  · by_cases h2 : sp_at S w (rpos T) = 91
    · exact el_open hC h2
    · by_cases h3 : (sp_at S w (rpos T) = 38 ∧ sp_at S w (rpos T + 1) = 38) ∨ (sp_at S w (rpos T) = 45 ∧ sp_at S w (rpos T + 1) = 45)
      · exact el_joint hC h3
      · by_cases h4 : sp_at S w (rpos T) = 92 → isKd (sp_at S w (rpos T + 1)) = 0
        · exact el_range hQ hC h1 h2 h3 h4
        · obtain ⟨h5, h6⟩ := Classical.not_imp.mp h4
          exact el_kind hQ hC h5 h6
/-- where a class ends, n elements at most; k levels -/
def clF (c : Int → Int) : Nat → Int → Int → Int
  | 0, p, _ => p
  | n + 1, p, k => if k < 0 then p else clF c n (cxp c p) (cxk c p k)
/-- what both come to -/
def CLres (e : Int) (w : Nat) (S T : ev_St) (A : Option (Int × ev_St)) (B : Option (Unit × ev_St)) : Prop := (∃ S' T', A = some (-1, S') ∧ B = some ((), T') ∧ T'.1 621 25 ≠ 0) ∨ (∃ S' T', A = some (rpos T', S') ∧ B = some ((), T') ∧ SB (S'.2.1 6 11) (S'.2.1 6 12) (T'.2.1 621 41) (T'.2.1 621 42) ∧ SV (S'.2.1 6 11) (S'.2.1 6 12) ∧ T'.1 621 25 = 0 ∧ rpos T < rpos T' ∧ rpos T' ≤ S.1 w 1 ∧ rpos T' = e)
theorem cl_loop (hQ : 300 ≤ Q) : ∀ (m q r k : Nat) (c : Int) (S T : ev_St), CRel k w S T → 120 - rpos T < (m : Int) → m < q → m < r → 0 ≤ c ∧ c ≤ rpos T → ∀ n, m < n → CLres (clF (sp_at S w) n (rpos T) (k : Int)) w S T (jl_18_32 Q q c S) (jl_253_7 Q r (k : Int) T)
  | 0, q, r, k, c, S, T, hC, hm, _, _, _, _, _ => by
    have := CRel_k hC
    obtain ⟨_, _, ⟨_, _, _⟩, _⟩ := hC
    omega
  | m + 1, q + 1, r + 1, k, c, S, T, hC, hm, hq, hr, hc, n + 1, hn => by
    have hk := CRel_k hC
    have hC0 := hC
    obtain ⟨⟨c1, c2, c3⟩, c4, ⟨c5, c6, c7⟩, c8, c9, c10⟩ := hC
    have lC : ∀ v s, jm_21 Q S = some (v, s) → jl_18_32 Q (q + 1) c S = if v ≠ 0 then jl_18_32 Q q (c + 1) s else some (-1, s) := fun v s hR => by
      show jb_18_32 Q (jl_18_32 Q q) c S = _
      unfold jb_18_32
      rw [if_neg (show ¬ (160 : Int) ≤ c by omega), sp_b, c2, if_pos (by omega), hR, sp_bd]
      by_cases e : v ≠ 0
      · rw [if_pos e, if_pos e, sp_ck (by omega)]
      · rw [if_neg e, if_neg e]
    have lR : jl_253_7 Q (r + 1) (k : Int) T = jb_253_7 Q (jl_253_7 Q r) (k : Int) T := rfl
    rcases el_any hQ hC0 with ⟨S', a1, x', T', a2, a3⟩ | ⟨k', S', T', a1, a2, a3, a4, aa, ab⟩ | ⟨S', T', a1, a2, a3, a4, a5, a6, a7, a8, a9, aa, ab⟩
    · refine Or.inl ⟨S', T', ?_, ?_, a3⟩
      · rw [lC _ _ a1, if_neg (fun z => z rfl)]
      · rw [lR, a2]
        obtain ⟨r', rfl⟩ : ∃ r', r = r' + 1 := ⟨r - 1, by omega⟩
        show jb_253_7 Q (jl_253_7 Q r') x' T' = _
        unfold jb_253_7
        by_cases e : x' < 0
        · rw [if_pos e]
        · rw [if_neg e, sp_b, if_pos a3]
    · have wS : S'.1 w 1 = S.1 w 1 := ((ef_21 (Q := Q) (S := S)) _ _ a1).1 w 1 (by
        unfold isTx at c1
        rcases c1 with h | ⟨h1, h2⟩
        · subst h
          decide
        · exact wm_hi (b := 13) (by decide) (by omega))
      have wS1 : ∀ g, S'.1 (w + 1) g = S.1 (w + 1) g := fun g => ((ef_21 (Q := Q) (S := S)) _ _ a1).1 (w + 1) g (by
        unfold isTx at c1
        rcases c1 with h | ⟨h1, h2⟩
        · subst h
          rfl
        · exact wm_hi (b := 13) (by decide) (by omega))
      have wA : sp_at S' w = sp_at S w := funext fun p => by
        unfold sp_at
        rw [wS, wS1]
      rw [lC _ _ a1, if_pos (by decide), lR, a2]
      have q1 := cl_loop hQ m q r k' (c + 1) S' T' a3 (by omega) (by omega) (by omega) (by omega) n (by omega)
      have qe : clF (sp_at S w) (n + 1) (rpos T) (k : Int) = clF (sp_at S' w) n (rpos T') (k' : Int) := by
        rw [wA, aa, ab]
        exact if_neg (by omega)
      rcases q1 with h | ⟨S2, T2, b1, b2, b3, b4, b5, b6, b7, b8⟩
      · exact Or.inl h
      · exact Or.inr ⟨S2, T2, b1, b2, b3, b4, b5, by omega, by rw [← wS]; exact b7, by rw [qe]; exact b8⟩
    · have qe : clF (sp_at S w) (n + 1) (rpos T) (k : Int) = rpos T' := by
        show (if (k : Int) < 0 then rpos T else clF (sp_at S w) n (cxp (sp_at S w) (rpos T)) (cxk (sp_at S w) (rpos T) k)) = _
        rw [if_neg (by omega), ← aa, ← ab]
        cases n with
        | zero => rfl
        | succ n => exact if_pos (by decide)
      refine Or.inr ⟨S', T', ?_, ?_, a4, a5, a7, a8, a9, qe.symm⟩
      · obtain ⟨q', rfl⟩ : ∃ q', q = q' + 1 := ⟨q - 1, by omega⟩
        rw [lC _ _ a1, if_pos (by decide)]
        show jb_18_32 Q (jl_18_32 Q q') (c + 1) S' = _
        unfold jb_18_32
        rw [if_neg (show ¬ (160 : Int) ≤ c + 1 by omega), sp_b, a3, if_neg (by decide), sp_b, a6]
      · rw [lR, a2]
        obtain ⟨r', rfl⟩ : ∃ r', r = r' + 1 := ⟨r - 1, by omega⟩
        show jb_253_7 Q (jl_253_7 Q r') (-1) T' = _
        unfold jb_253_7
        rw [if_pos (by decide)]
/-- a class of characters is read on both sides -/
theorem sp_cls (hQ : 300 ≤ Q) (hw : isTx w) (hR : RT S w T) (hc : sp_at S w (rpos T) = 91) (hp : 0 ≤ rpos T) (h25 : T.1 621 25 = 0) {f : Int} (hf : (f = 0 ∧ ev_iand (T.1 621 40) 1 = 0) ∨ (f = 1 ∧ ev_iand (T.1 621 40) 1 = 1)) : CLres (clF (sp_at S w) 130 (if sp_at S w (rpos T + 1) = 94 then rpos T + 2 else rpos T + 1) 0) w S T (jm_18 Q (w + 1) (rpos T + 1) f S) (jm_253 Q T) := by
  have hin := at_in (S := S) (w := w) (p := rpos T) hp (by rw [hc]; decide)
  have wc : S.1 w 1 ≤ 120 := hR.2.1.2
  have tx : w ≠ 6 ∧ w ≠ 11 ∧ w ≠ 12 ∧ w ≠ 13 ∧ w + 1 ≠ 6 ∧ w + 1 ≠ 11 ∧ w + 1 ≠ 12 ∧ w + 1 ≠ 13 := by
    unfold isTx at hw
    omega
  have u1 : ∀ a g, ¬ (a = 6 ∧ (g = 7 ∨ g = 9 ∨ g = 10)) → (ev_pI (ev_pI (ev_pI (ev_pR S 6 8 (w + 1)) 6 9 (rpos T + 1)) 6 10 f) 6 7 (-1)).1 a g = S.1 a g := fun a g h => by
    rw [sp_pI1, if_neg (by omega), sp_pI1, if_neg (by omega), sp_pI1, if_neg (by omega)]
    rfl
  have u2 : (ev_pI (ev_pI (ev_pI (ev_pR S 6 8 (w + 1)) 6 9 (rpos T + 1)) 6 10 f) 6 7 (-1)).2.1 = S.2.1 := rfl
  have u3 : (ev_pI (ev_pI (ev_pI (ev_pR S 6 8 (w + 1)) 6 9 (rpos T + 1)) 6 10 f) 6 7 (-1)).2.2.1 6 8 = w + 1 := by
    show (ev_pR S 6 8 (w + 1)).2.2.1 6 8 = w + 1
    show (if (6 : Nat) = 6 ∧ (8 : Nat) = 8 then w + 1 else S.2.2.1 6 8) = w + 1
    rw [if_pos ⟨rfl, rfl⟩]
  have u67 : (ev_pI (ev_pI (ev_pI (ev_pR S 6 8 (w + 1)) 6 9 (rpos T + 1)) 6 10 f) 6 7 (-1)).1 6 7 = -1 := rd_eq
  have u610 : (ev_pI (ev_pI (ev_pI (ev_pR S 6 8 (w + 1)) 6 9 (rpos T + 1)) 6 10 f) 6 7 (-1)).1 6 10 = f := by
    rw [rd_nf (by omega), rd_eq]
  have u69 : (ev_pI (ev_pI (ev_pI (ev_pR S 6 8 (w + 1)) 6 9 (rpos T + 1)) 6 10 f) 6 7 (-1)).1 6 9 = rpos T + 1 := by
    rw [rd_nf (by omega), rd_nf (by omega), rd_eq]
  have red : jm_18 Q (w + 1) (rpos T + 1) f S = ev_bd (jm_19 Q (ev_pI (ev_pI (ev_pI (ev_pR S 6 8 (w + 1)) 6 9 (rpos T + 1)) 6 10 f) 6 7 (-1))) fun x7 s6 => if x7 ≠ 0 then (jl_18_32 Q Q 0 s6) else (some ((-1), s6)) := by
    unfold jm_18
    rw [sp_b, sp_b, sp_if (show ev_bl f by rcases hf with ⟨h, _⟩ | ⟨h, _⟩; exact Or.inl h; exact Or.inr h), sp_b, sp_b]
  generalize ev_pI (ev_pI (ev_pI (ev_pR S 6 8 (w + 1)) 6 9 (rpos T + 1)) 6 10 f) 6 7 (-1) = U at *
  have wU : U.1 w 1 = S.1 w 1 := u1 w 1 (by omega)
  have atU : ∀ p, sp_at U w p = sp_at S w p := fun p => by
    unfold sp_at
    rw [wU, u1 _ _ (by omega)]
  have hRU : RT U w T := RT_cS hR (fun g => u1 w g (by omega)) (fun g => u1 _ g (by omega))
  obtain ⟨S', s1, s2, s3, s4, s5, s6, s7, s8, s9, s10, s11⟩ := sp_19 (Q := Q) (k := 0) (w := w) (p := rpos T + 1) (S := U) (by rw [u67]; rfl) (by omega) hR.1 (by rw [wU]; omega) u3 u69 (by omega) tx
  rw [atU] at s3 s4
  obtain ⟨T', t1, t2, t3, t4, t5, t6, t7, t8, t9, t10⟩ := sp_252 (Q := Q) (k := 0) (p := rpos T) hR (by omega) rfl (by omega)
  have wS' : S'.1 w 1 = S.1 w 1 := by rw [s9 w 1 (by omega) (by omega), wU]
  have le : rpos T' ≤ S.1 w 1 := by
    rw [t2]
    split
    · next h =>
      have := at_in (S := S) (w := w) (p := rpos T + 1) (by omega) (by rw [h]; decide)
      omega
    · omega
  have ge : rpos T + 1 ≤ rpos T' := by
    rw [t2]
    split <;> omega
  have hC : CRel 0 w S' T' := by
    refine ⟨⟨hw, s2, by rw [s11]; exact u3⟩, ?_, ⟨?_, ?_, ?_⟩, ?_, ?_, fun i hi => ?_⟩
    · refine RT_c (RT_cS hRU (fun g => s9 w g (by omega) (by omega)) (fun g => s9 _ g (by omega) (by omega))) (fun a g ha => t8 a g (by omega) (by omega))
    · rw [s3, t2, show rpos T + 1 + 1 = rpos T + 2 from by omega]
    · omega
    · rw [wS']
      exact le
    · rw [t8 621 25 (by omega) (by omega), h25]
    · rw [s9 6 10 (by omega) (by omega), u610, t8 621 40 (by omega) (by omega)]
      exact hf
    · obtain rfl : i = 0 := by omega
      unfold CL
      rw [s7, s8, t6, t7, s5, t4, s4, t3, s6, t5]
      refine ⟨SB_0, SV_0, ⟨rfl, Or.inl rfl⟩, ⟨rfl, ?_⟩, Or.inl ⟨rfl, rfl⟩⟩
      split
      · exact Or.inr rfl
      · exact Or.inl rfl
  have lp := cl_loop hQ 125 Q Q 0 0 S' T' hC (by omega) (by omega) (by omega) (by omega) 130 (by omega)
  have wA : sp_at S' w = sp_at S w := funext fun p => by
    rw [← atU p]
    unfold sp_at
    rw [s9 w 1 (by omega) (by omega), s9 (w + 1) _ (by omega) (by omega)]
  rw [wA, t2, show (((0 : Nat) : Int)) = 0 from rfl] at lp
  generalize clF (sp_at S w) 130 (if sp_at S w (rpos T + 1) = 94 then rpos T + 2 else rpos T + 1) 0 = ee at lp ⊢
  rw [red, s1, sp_bd, if_pos (by decide)]
  unfold jm_253
  have t1' : jm_252 Q 0 T = some ((), T') := t1
  rw [t1', sp_bd]
  rcases lp with h | ⟨S2, T2, b1, b2, b3, b4, b5, b6, b7, b8⟩
  · exact Or.inl h
  · exact Or.inr ⟨S2, T2, b1, b2, b3, b4, b5, by omega, by rw [← wS']; exact b7, b8⟩
end ELEM5
