/-! CLASSES OF CHARACTERS: kinds, single ones and ranges, the end -/
section ELEM2
variable {Q k w : Nat} {S T : ev_St}
/-- "\d" and the like -/
theorem el_kind (hQ : 300 ≤ Q) (hC : CRel k w S T) (hc : sp_at S w (rpos T) = 92) (hd : isKd (sp_at S w (rpos T + 1)) ≠ 0) : EL Q k w S T := by
  have hk := (CRel_k hC).1
  obtain ⟨z1, z2, z3, z4⟩ := CRel_b hC
  have hC0 := hC
  obtain ⟨⟨c1, c2, c3⟩, c4, ⟨c5, c6, c7⟩, c8, c9, c10⟩ := hC
  have hK := isKd_i hd
  have hd1 : sp_at S w (rpos T + 1) ≠ -1 := fun z => by
    rw [z] at hK
    unfold isK at hK
    omega
  have hd2 : (92 : Int) ≠ sp_at S w (rpos T + 1) := fun z => by
    rw [← z] at hK
    unfold isK at hK
    omega
  have hdr : -1 ≤ sp_at S w (rpos T + 1) ∧ sp_at S w (rpos T + 1) < 127 := by
    rcases (c4.2.2.2.2.2.2 (rpos T + 1) (by omega)).2 with h | h
    · omega
    · have := sp_sign_r h
      omega
  have hin := at_in (S := S) (w := w) (p := rpos T + 1) (by omega) hd1
  obtain ⟨T1, t1, t2, t3, t4, t5⟩ := sp_246 (Q := Q) (k := sp_at S w (rpos T + 1)) (S := T) (by omega) hK
  have e28 : T1.1 621 28 = T.1 621 28 := by rw [t3]
  have rp1 : rpos T1 = rpos T := by
    unfold rpos
    rw [t3]
  have rp2 : rpos (ev_pI T1 645 (T.1 621 28).toNat (rpos T + 2)) = rpos T + 2 := rpos_pI e28
  have d249 : ev_isOb w 10 = true := z1
  obtain ⟨S', T', q1, q2, q3, q4⟩ := CR_put (Q := Q) (l := klw (sp_at S w (rpos T + 1))) (h := khi (sp_at S w (rpos T + 1))) hC0 (T1 := ev_pI T1 645 (T.1 621 28).toNat (rpos T + 2)) ⟨fun c hc => by
    rw [cb_kind hK hc]
    exact (t2.1 c hc).symm, t2.2⟩ (SV_kind hK) (S1 := ev_pI S 6 9 (rpos T + 2)) (fun a g h => if_neg h) rfl (fun a g h1 h2 => by rw [sp_pI1, if_neg h1, t3]) (fun a g h => t4 a g h) t5 (by rw [rd_nk (by omega), t3, c8]) (by rw [rd_eq, rp2]) (by rw [rp2]; omega)
  refine Or.inr (Or.inl ⟨k, S', T', ?_, fun K => ?_, q3, by rw [q4, rp2]; omega, by rw [q4, rp2]; exact (cxp_kind hc hd).symm, (cxk_no (by omega) (by omega)).symm⟩)
  · unfold jm_21
    rw [c3, sp_b, sp_b, c5, sp_if (by omega), show w + 1 - 1 = w from rfl, sp_151 z1 (by omega), sp_bd, c3, sp_b, sp_b, c5, sp_ck (by omega), sp_if (by omega), show w + 1 - 1 = w from rfl, sp_151 z1 (by omega), sp_bd, hc, if_pos (by decide), if_pos (by decide), sp_jn, if_pos hd2]
    dsimp only
    rw [sp_jn, if_neg (by decide), sp_216, sp_bd]
    have hd' : ¬ ((if sp_at S w (rpos T + 1) = 100 ∨ sp_at S w (rpos T + 1) = 119 ∨ sp_at S w (rpos T + 1) = 115 ∨ sp_at S w (rpos T + 1) = 68 ∨ sp_at S w (rpos T + 1) = 87 ∨ sp_at S w (rpos T + 1) = 83 then (1 : Int) else 0) = 0) := hd
    rw [if_neg hd', sp_b, c5, sp_ck (by omega), sp_b, sp_217, sp_bd, sp_218, sp_bd, q1, sp_bd, sp_if (Or.inr rfl)]
  · unfold jb_253_7
    rw [if_neg (by omega), sp_b, c8, if_neg (fun z => z rfl), sp_233 c4 (by omega), sp_bd, sp_233 c4 (by omega), sp_bd, sp_250 c4 (by omega) (by omega), sp_bd, sp_jn, show rpos T + 0 = rpos T from by omega, hc, if_pos (by decide), if_pos (by decide), sp_jn, if_neg (by decide), sp_247 hdr, sp_bd]
    have hd' : ¬ ((if sp_at S w (rpos T + 1) = 100 ∨ sp_at S w (rpos T + 1) = 119 ∨ sp_at S w (rpos T + 1) = 115 ∨ sp_at S w (rpos T + 1) = 68 ∨ sp_at S w (rpos T + 1) = 87 ∨ sp_at S w (rpos T + 1) = 83 then (1 : Int) else 0) = 0) := hd
    rw [if_neg hd', t1, sp_bd, sp_234 (by rw [e28]; exact z4) (by rw [rp1]; omega), sp_bd, rp1, e28, q2, sp_bd]
/-- the class's single character -/
theorem sp_27 (hC : CRel k w S T) {p : Int} {U : ev_St} (hU : ∀ a g, ¬ (a = 6 ∧ g = 9) → U.1 a g = S.1 a g) (hU2 : U.2 = S.2) (hp : U.1 6 9 = p) (hp2 : 0 ≤ p ∧ p ≤ 200) : (sgl (sp_at S w p) (sp_at S w (p + 1)) = 0 ∧ ∃ v U', jm_27 Q U = some (v, U') ∧ v < 0) ∨ (sgl (sp_at S w p) (sp_at S w (p + 1)) ≠ 0 ∧ jm_27 Q U = some (sga (sp_at S w p) (sp_at S w (p + 1)), ev_pI U 6 9 (p + sgl (sp_at S w p) (sp_at S w (p + 1)))) ∧ sp_sign (sga (sp_at S w p) (sp_at S w (p + 1))) = 1 ∧ (p + sgl (sp_at S w p) (sp_at S w (p + 1)) ≤ S.1 w 1 ∧ 1 ≤ sgl (sp_at S w p) (sp_at S w (p + 1)) ∧ sgl (sp_at S w p) (sp_at S w (p + 1)) ≤ 2)) := by
  obtain ⟨z1, z2, z3, z4⟩ := CRel_b hC
  obtain ⟨⟨c1, c2, c3⟩, c4, _⟩ := hC
  have tx := c1
  unfold isTx at tx
  have atU : ∀ V : ev_St, (∀ a g, ¬ (a = 6 ∧ g = 9) → V.1 a g = S.1 a g) → ∀ x, sp_at V w x = sp_at S w x := fun V hV x => by
    unfold sp_at
    rw [hV w 1 (by omega), hV (w + 1) _ (by omega)]
  have g1 : ∀ x : Int, 0 ≤ x → sp_at S w x = -1 ∨ sp_sign (sp_at S w x) = 1 := fun x hx => (c4.2.2.2.2.2.2 x hx).2
  have f8 : U.2.2.1 6 8 = w + 1 := by rw [hU2, c3]
  have red : jm_27 Q U = if sp_at S w p = 91 then some (-1, U) else if sp_at S w p = 93 then some (-1, U) else if sp_at S w p = 45 then some (-1, U) else if sp_at S w p = 38 ∧ sp_at S w (p + 1) = 38 then some (-1, U) else if sp_at S w p = 92 then (if sp_at S w (p + 1) = 110 then some (10, ev_pI U 6 9 (p + 2)) else if ch_e (sp_at S w (p + 1)) = 0 then some (-1, ev_pI U 6 9 (p + 2)) else some (sp_at S w (p + 1), ev_pI U 6 9 (p + 2))) else some (sp_at S w p, ev_pI U 6 9 (p + 1)) := by
    have e2 : (ev_pI (ev_pI U 6 9 (p + 1)) 6 9 (p + 1 + 1)) = ev_pI U 6 9 (p + 2) := by rw [pI_pI, show p + 1 + 1 = p + 2 from by omega]
    unfold jm_27
    rw [f8, sp_b, sp_b, hp, sp_if (by omega), show w + 1 - 1 = w from rfl, sp_151 z1 (by rw [hU w 1 (by omega)]; omega), sp_bd, f8, sp_b, sp_b, hp, sp_ck (by omega), sp_if (by omega), show w + 1 - 1 = w from rfl, sp_151 z1 (by rw [hU w 1 (by omega)]; omega), sp_bd, atU U hU, atU U hU]
    simp only [sp_jn, sp_b, hp, rd_eq, sp_ck (show -2147483648 ≤ p + 1 ∧ p + 1 ≤ 2147483647 by omega), sp_ck (show -2147483648 ≤ p + 1 + 1 ∧ p + 1 + 1 ≤ 2147483647 by omega), e2, sp_211, sp_bd]
    (repeat' split) <;> first | rfl | (exfalso; omega)
  have i3 := ch_e_i (sp_at S w (p + 1))
  rw [red]
  have a0 := g1 p hp2.1
  have a1 := g1 (p + 1) (by omega)
  have b0 : sp_at S w p ≠ -1 → p < S.1 w 1 := fun h => at_in hp2.1 h
  have b1 : sp_at S w (p + 1) ≠ -1 → p + 1 < S.1 w 1 := fun h => at_in (by omega) h
  unfold sgl sga
  generalize sp_at S w p = c at *
  generalize sp_at S w (p + 1) = d at *
  by_cases h92 : c = 92
  · subst h92
    rw [if_neg (show ¬ ((92 : Int) = 91) by decide), if_neg (show ¬ ((92 : Int) = 93) by decide), if_neg (show ¬ ((92 : Int) = 45) by decide), if_neg (show ¬ ((92 : Int) = 38 ∧ d = 38) by omega), if_pos rfl, if_pos rfl, if_pos rfl]
    by_cases h110 : d = 110
    · rw [if_pos (Or.inl h110), if_pos h110, if_pos h110]
      exact Or.inr ⟨by decide, rfl, by decide, by omega, by omega, by omega⟩
    · rw [if_neg h110, if_neg h110]
      by_cases he : ch_e d = 1
      · rw [if_pos (Or.inr he), if_neg (by omega)]
        exact Or.inr ⟨by decide, rfl, a1.resolve_left (by omega), by omega, by omega, by omega⟩
      · rw [if_neg (by omega), if_pos (by omega)]
        exact Or.inl ⟨rfl, -1, _, rfl, by omega⟩
  · rw [if_neg h92, if_neg h92, if_neg h92]
    by_cases hb : c = -1 ∨ c = 91 ∨ c = 93 ∨ c = 45 ∨ (c = 38 ∧ d = 38)
    · rw [if_pos hb]
      refine Or.inl ⟨rfl, ?_⟩
      (repeat' split) <;> first | exact ⟨-1, _, rfl, by omega⟩ | exact ⟨c, _, rfl, by omega⟩
    · rw [if_neg hb, if_neg (by omega), if_neg (by omega), if_neg (by omega), if_neg (by omega)]
      exact Or.inr ⟨by decide, rfl, a0.resolve_left (by omega), by omega, by omega, by omega⟩
end ELEM2
