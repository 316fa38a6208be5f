/-! THE READER: switches on both sides -/
section RSWI7
variable {Q k n m w d N M D lv t : Nat} {φ ψ own inn G R ws y : Nat → Nat} {P q : Nat → Int} {S T S0 T0 S1 S' S2 T2 T1 T3 U : ev_St} {B : Option (Unit × ev_St)} {C : Option (Int × ev_St)}
theorem tk_swG {p pe on off x3 sel r : Int} (H : RIy k lv ws N M D φ ψ own inn G R y P q S T) (hkr : 232 ≤ k) (hs : sel = if x3 = 0 then on else off) (hp : T.1 645 lv = p) (hr : r = p + 1) (hpe : p + 2 ≤ pe ∧ pe ≤ 200) (hon : 0 ≤ on ∧ on ≤ 7) (hof : 0 ≤ off ∧ off ≤ 7) (hA : ∀ A, ((∃ S', A = some (0, S')) ∨ ∃ S', A = some (1, S')) → swEnd Q on off x3 (pe - r) (ev_pI S 3 8 r) = A → C = A) (hB : ∀ T', swK Q on off (xS lv T pe (if sel = 0 then 1 else 0)) = some ((), T') → B = some ((), T')) : TK0 k lv ws (pe + 1) S T C B := by
  have ht := H.1.2.1
  have hp0 := (ht.2.2.2.1 lv (Nat.le_refl _)).2.1
  have h120 := (LV_tx ht.1 ht.2.1 (ht.2.2.2.1 lv (Nat.le_refl _)).1).2.2.1
  obtain ⟨n1, n2, n3, n4, n5, n6⟩ := RIy_n H.1
  have h25 := H.1.2.2.2.2.2.2.2
  have hf := H.1.2.2.2.2.1
  unfold RIf at hf
  obtain ⟨e, he⟩ : ∃ e, sp_at S (ws lv) pe = e := ⟨_, rfl⟩
  obtain ⟨E1, E2, E3⟩ := sw_E (Q := Q) (x1 := on) (x2 := off) (x3 := x3) (p := pe) (r := r) (e := e) ht (by omega) (by omega) he
  rw [← hs] at E1 E2 E3
  by_cases z0 : sel = 0
  · obtain ⟨T', k1, k2⟩ := swK_bad (Q := Q) (x5 := on) (x6 := off) (pe := pe) H.1 (by omega)
    rw [if_pos z0] at hB
    exact Or.inl ⟨_, T', hA _ (Or.inl ⟨_, rfl⟩) (E1 (Or.inl z0)), hB T' k1, k2⟩
  · rw [if_neg z0] at hB
    have run : ∀ T', (if e ≠ 41 then (if e ≠ 58 then (ev_b (ev_pI (xS lv T (pe + 1) 0) 621 25 1) fun s26 => some ((), s26)) else (ev_bd (jm_237 Q 9 (xS lv T (pe + 1) 0)) fun x28 s27 => ev_bd (jm_239 Q x28 0 s27) fun _ s29 => ev_b (s29.1 621 40) fun x30 => ev_b (ev_ior x30 on) fun x31 => ev_b (ev_ixor off ((-1))) fun x32 => ev_b (ev_iand x31 x32) fun x33 => ev_b (ev_pI s29 621 40 x33) fun s34 => some ((), s34))) else (ev_b ((xS lv T (pe + 1) 0).1 621 40) fun x35 => ev_b (ev_ior x35 on) fun x36 => ev_b (ev_ixor off ((-1))) fun x37 => ev_b (ev_iand x36 x37) fun x38 => ev_b (ev_pI (xS lv T (pe + 1) 0) 621 40 x38) fun s39 => ev_b (ev_pI s39 621 39 ((-1))) fun s40 => some ((), s40))) = some ((), T') → B = some ((), T') := fun T' h => by
      refine hB T' ?_
      unfold swK
      rw [xT ht (by omega), sp_bd, Int.add_zero, he, xG ht (by omega), sp_bd]
      exact h
    by_cases e1 : e = 41
    · have hin := at_in (S := S) (w := ws lv) (p := pe) (by omega) (by rw [he]; omega)
      have A := E2 z0 e1
      obtain ⟨r1, r2⟩ := RIa_mv (p := pe + 1) ⟨N, M, D, φ, ψ, own, inn, G, R, P, q, y, H⟩ hkr (by omega)
      have f7 := swF7 (f := S.1 3 11) (by omega) hon hof
      obtain ⟨r3, r4⟩ := RIa_fl hkr r1 r2 f7
      obtain ⟨r5, r6⟩ := RIa_may hkr r3 r4
      refine Or.inr ⟨_, _, hA _ (Or.inr ⟨_, rfl⟩) A, run _ ?_, r5, r6⟩
      rw [if_neg (fun z => z e1), ← xS_0 h25, rd_nk (by omega), ← hf.1]
      rfl
    by_cases e2 : e = 58
    · have hin := at_in (S := S) (w := ws lv) (p := pe) (by omega) (by rw [he]; omega)
      obtain ⟨T1, t1, ta, t2⟩ := tk_openB (Q := Q) (p := pe + 1) (x := 17) 9 0 0 H hkr (by show T.1 645 lv + ((3 : Nat) : Int) ≤ _ ∧ _; omega) (by omega) rfl (by decide) (by omega) (fun _ => rfl)
      obtain ⟨T3, t3, t4, t5⟩ := t2 T1 ta (fun _ _ _ => rfl) rfl
      have run2 : B = some ((), ev_pI T3 621 40 (swF (T3.1 621 40) on off)) := by
        refine run _ ?_
        rw [if_pos e1, if_neg (fun z => z e2), ← xS_0 h25, t1, sp_bd, t3, sp_bd]
        rfl
      have e3 := H.1.1.1.1.2.2.1
      rcases sp_103 (Q := Q) (a := 0) (kd := 17) (gr := 0) (r := pe + 1) (D := D) (U := ev_pI S 3 8 (pe + 1)) ⟨rd_eq, by omega, by omega⟩ (by rw [rd_nf (by omega)]; omega) (by rw [rd_nf (by omega), e3]) (by
        by_cases z : D + 1 < 152
        · exact z
        · omega) with ⟨z, S', s1⟩ | ⟨z, S', s1, s2⟩
      · rw [rd_nf (by omega)] at z
        have A := E3 z0 e2 _ _ s1
        rw [if_neg (by decide)] at A
        exact Or.inl ⟨_, _, hA _ (Or.inl ⟨_, rfl⟩) A, run2, by rw [rd_nf (by omega)]; exact t4 (by omega)⟩
      · rw [rd_nf (by omega)] at z
        have A := E3 z0 e2 _ _ s1
        rw [if_pos (by decide)] at A
        rw [rd_nf (by omega), pI_pI, Int.add_zero] at s2
        obtain ⟨r1, r2⟩ := t5 (by omega) S' 0 (fun _ => rfl) s2
        have r1' := r1
        obtain ⟨N', M', D', φ', ψ', own', inn', G', R', P', q', y', ⟨_, _, _, _, hf', hy', _, _⟩, _, _⟩ := r1'
        have s13 : S'.1 3 13 = 0 := s2.2.1.2
        have t39 : T3.1 621 39 = -1 := by
          rcases hy' with z | ⟨z, _⟩
          · exact z.2
          · omega
        unfold RIf at hf'
        have f7 := swF7 (f := S'.1 3 11) (by omega) hon hof
        obtain ⟨r3, r4⟩ := RIa_fl hkr r1 r2 f7
        obtain ⟨r5, r6⟩ := RIa_may hkr r3 r4
        rw [hf'.1] at A r5 r6
        rw [pI_idx (show (ev_pI T3 621 40 (swF (T3.1 621 40) on off)).1 621 39 = -1 from by rw [rd_nf (by omega), t39])] at r5 r6
        exact Or.inr ⟨_, _, hA _ (Or.inr ⟨_, rfl⟩) A, run2, r5, r6⟩
    · refine Or.inl ⟨_, ev_pI (xS lv T (pe + 1) 0) 621 25 1, hA _ (Or.inl ⟨_, rfl⟩) (E1 (Or.inr ⟨e1, e2⟩)), run _ ?_, ?_⟩
      · rw [if_pos e1, if_pos e2, sp_b]
      · exact rd_eq
/-- switches -/
theorem tk_sw {p b : Int} (hQ : 400 ≤ Q) (hkr : 232 ≤ k) (H : RIy k lv ws N M D φ ψ own inn G R y P q S T) (hp : T.1 645 lv = p) (hc : sp_at S (ws lv) p = 40) (h1 : sp_at S (ws lv) (p + 1) = 63) (hb : sp_at S (ws lv) (p + 2) = b) (hn : b ≠ 33 ∧ b ≠ 38 ∧ b ≠ 40 ∧ b ≠ 58 ∧ b ≠ 60 ∧ b ≠ 61 ∧ b ≠ 62) (hd : ¬ (48 ≤ b ∧ b ≤ 57)) : TK0 k lv ws (swE (sp_at S (ws lv)) (p + 2)) S T (jm_85 Q S) (jm_263 Q T) := by
  have ht := H.1.2.1
  have hp0 := (ht.2.2.2.1 lv (Nat.le_refl _)).2.1
  have h120 := (LV_tx ht.1 ht.2.1 (ht.2.2.2.1 lv (Nat.le_refl _)).1).2.2.1
  have h25 := H.1.2.2.2.2.2.2.2
  have hin1 := at_in (S := S) (w := ws lv) (p := p + 1) (by omega) (by rw [h1]; decide)
  have hcd : ch_d b = 0 := by
    have := (ch_d_i b)
    rcases this.2 with z | z
    · exact z
    · exact absurd (this.1.mp z) hd
  have hB : ∀ T', jm_258 Q (xS lv T (p + 2) 0) = some ((), T') → jm_263 Q T = some ((), T') := fun T' h => by
    rw [br_R ht hp.symm hc, if_pos h1, xS_0 h25]
    unfold jm_261
    rw [xT ht (by omega), sp_bd, xT ht (by omega), sp_bd, xT ht (by omega), sp_bd, Int.add_zero, hb, sp_jn, if_pos (by omega)]
    try dsimp only
    rw [if_pos (by omega), sp_jn, if_neg (by omega), if_neg (by omega), if_neg (by omega), if_pos (by omega), if_pos (by omega), sp_226, sp_bd, hcd, if_pos rfl, if_pos (by omega), h, sp_bd, sp_bd]
  have hcz : ∀ x, S.1 (ws lv) 1 ≤ x → sp_at S (ws lv) x = -1 := fun x hx => by
    by_cases z : sp_at S (ws lv) x = -1
    · exact z
    · have := at_in (S := S) (w := ws lv) (p := x) (by omega) z
      omega
  obtain ⟨on, hon⟩ : ∃ on, swf (sp_at S (ws lv)) 160 (p + 2) 0 = on := ⟨_, rfl⟩
  obtain ⟨n1, hn1⟩ : ∃ n1, swl (sp_at S (ws lv)) 160 (p + 2) = n1 := ⟨_, rfl⟩
  obtain ⟨off, hof⟩ : ∃ off, swf (sp_at S (ws lv)) 160 (p + 2 + n1 + 1) 0 = off := ⟨_, rfl⟩
  obtain ⟨n2, hn2⟩ : ∃ n2, swl (sp_at S (ws lv)) 160 (p + 2 + n1 + 1) = n2 := ⟨_, rfl⟩
  have on7 := swf7 (c := sp_at S (ws lv)) 160 (p + 2) 0 (by decide)
  have of7 := swf7 (c := sp_at S (ws lv)) 160 (p + 2 + n1 + 1) 0 (by decide)
  rw [hon] at on7
  rw [hof] at of7
  obtain ⟨b1, b2, _⟩ := swl_b hcz 160 (p + 2)
  rw [hn1] at b1 b2
  have b2 := b2 (by omega)
  obtain ⟨d1, d2, _⟩ := swl_b hcz 160 (p + 2 + n1 + 1)
  rw [hn2] at d1 d2
  obtain ⟨R1, R2⟩ := sw_R258 (Q := Q) (p := p + 2) (by omega) ht (by omega) hon hn1 hof hn2
  have hC := sw_C1 (Q := Q) (r := p + 1) ht (by omega) 160 Q 0 (p + 2) 1 0 (by omega) (by omega) (by omega) (by omega) (by omega) (by omega)
  rw [hon, hn1, hof, hn2] at hC
  have hA : ∀ {E : Option (Int × ev_St)}, (b = 45 ∨ b = 105 ∨ b = 109 ∨ b = 115) → jl_109_12 Q Q 0 0 0 1 0 (ev_pI S 3 8 (p + 1)) = E → ∀ A, ((∃ S', A = some (0, S')) ∨ ∃ S', A = some (1, S')) → E = A → jm_85 Q S = A := fun {E} hb4 h A hA hE => by
    rw [br_C ht hp.symm hc]
    unfold jm_102
    rw [pk_Sp ht (by omega), sp_bd, Int.add_zero, h1, if_pos (by decide), pk_Sp ht (by omega), sp_bd, Int.add_zero, h1, if_pos rfl, pk_Sp ht (by omega), sp_bd, show p + 1 + 1 = p + 2 from by omega, hb, if_neg hn.1, if_neg hn.2.1, if_neg hn.2.2.1, if_pos hb4]
    unfold jm_109
    rw [h, hE, fin_bd hA]
    exact fin_bd hA
  have hA0 : ¬ (b = 45 ∨ b = 105 ∨ b = 109 ∨ b = 115) → ∃ S', jm_85 Q S = some (0, S') := fun hb4 => by
    refine ⟨ev_pI S 3 8 (p + 1), df_C ht hp.symm (by omega) hc h1 hb (by omega) (Or.inl ⟨_, rfl⟩) ?_⟩
    unfold jm_107
    rw [pk_Sp ht (by omega), sp_bd, show p + 1 + 1 = p + 2 from by omega, hb, sp_208, sp_bd, hcd, if_pos rfl]
  by_cases z45 : sp_at S (ws lv) (p + 2 + n1) = 45
  · have hin := at_in (S := S) (w := ws lv) (p := p + 2 + n1) (by omega) (by rw [z45]; decide)
    have d2 := d2 (by omega)
    have RR := R2 z45
    rw [if_pos z45] at hC
    rw [show swE (sp_at S (ws lv)) (p + 2) = p + 2 + n1 + 1 + n2 + 1 from by unfold swE; rw [hn1, if_pos z45, hn2]]
    by_cases hb4 : b = 45 ∨ b = 105 ∨ b = 109 ∨ b = 115
    · exact tk_swG (x3 := 1) (sel := off) (on := on) (off := off) (r := p + 1) (pe := p + 2 + n1 + 1 + n2) H hkr (by rw [if_neg (by decide)]) hp rfl (by omega) on7 of7 (fun A h h2 => hA hb4 hC A h h2) (fun T' h => hB T' (RR.trans h))
    · exfalso
      have q : swl (sp_at S (ws lv)) 160 (p + 2) = 0 := if_neg (by rw [hb]; omega)
      have : n1 = 0 := by omega
      rw [this, Int.add_zero, hb] at z45
      exact hb4 (Or.inl z45)
  · have RR := R1 z45
    rw [if_neg z45] at hC
    rw [show swE (sp_at S (ws lv)) (p + 2) = p + 2 + n1 + 1 from by unfold swE; rw [hn1, if_neg z45]]
    by_cases hb4 : b = 45 ∨ b = 105 ∨ b = 109 ∨ b = 115
    · exact tk_swG (x3 := 0) (sel := on) (on := on) (off := 0) (r := p + 1) (pe := p + 2 + n1) H hkr (by rw [if_pos rfl]) hp rfl (by omega) on7 (by decide) (fun A h h2 => hA hb4 hC A h h2) (fun T' h => hB T' (RR.trans h))
    · have q : swl (sp_at S (ws lv)) 160 (p + 2) = 0 := if_neg (by rw [hb]; omega)
      have q2 : swf (sp_at S (ws lv)) 160 (p + 2) 0 = 0 := if_neg (by rw [hb]; omega)
      have o0 : on = 0 := by omega
      rw [if_pos o0] at RR
      obtain ⟨S', a1⟩ := hA0 hb4
      obtain ⟨T', k1, k2⟩ := swK_bad (Q := Q) (x5 := on) (x6 := 0) (pe := p + 2 + n1) H.1 (by omega)
      exact Or.inl ⟨S', T', a1, hB T' (RR.trans k1), k2⟩
end RSWI7
