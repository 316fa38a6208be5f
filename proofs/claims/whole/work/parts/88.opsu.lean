/-! CLASSES OF CHARACTERS: ranges -/
section ELEM3
variable {Q k w : Nat} {S T : ev_St}
theorem rpos_c {X Y : ev_St} (h1 : X.1 621 28 = Y.1 621 28) (h2 : ∀ g, X.1 645 g = Y.1 645 g) : rpos X = rpos Y := by
  unfold rpos
  rw [h1, h2]
theorem cb_00 (c : Int) : cb L0 L0 c = false := by
  unfold cb
  rw [lb_0, lb_0]
  split <;> rfl
/-- a range is put into the operand -/
theorem rg_ok (hQ : 300 ≤ Q) (hC : CRel k w S T) {f v bo : Int} (hf : 0 ≤ f) (hv : v ≤ 126) (hbo : (S.1 6 10 = 0 ∧ bo = 0) ∨ (S.1 6 10 = 1 ∧ bo = 1)) {S1 T1 : ev_St} (s1 : ∀ a g, ¬ (a = 6 ∧ g = 9) → S1.1 a g = S.1 a g) (s2 : S1.2 = S.2) (t1 : ∀ a g, ¬ (a = 645 ∧ g = (T.1 621 28).toNat) → ¬ (a = 621 ∧ g = 25) → T1.1 a g = T.1 a g) (t2 : T1.2 = T.2) (hb : T1.1 621 25 = 0) (hp : S1.1 6 9 = rpos T1) (hp1 : rpos T < rpos T1 ∧ rpos T1 ≤ S.1 w 1) : ∃ S' T2 T', jl_26_79 Q v Q L0 L0 f S1 = some (1, S') ∧ jm_245 Q f v bo T1 = some ((), T2) ∧ jm_249 Q (k : Int) T2 = some ((), T') ∧ CRel k w S' T' ∧ rpos T' = rpos T1 := by
  obtain ⟨l, h, a1, a2, a3⟩ := sp_26l (Q := Q) (e := v) (S := S1) hv (v + 1 - f).toNat Q L0 L0 f (by omega) (by omega) hf
  obtain ⟨T2, b1, b2, b3, b4, b5⟩ := sp_245 (Q := Q) (x := f) (e := v) (bo := bo) (S := T1) (by omega) hv hf
  have e610 : S1.1 6 10 = S.1 6 10 := s1 _ _ (by omega)
  have rp : rpos T2 = rpos T1 := by
    unfold rpos
    rw [b3]
  have hcb : ∀ c, sp_sign c = 1 → cb l h c = decide (f ≤ c ∧ c ≤ v) := fun c hc => by rw [a2 c hc, cb_00, Bool.false_or]
  obtain ⟨S', T', q1, q2, q3, q4⟩ := CR_put (Q := Q) (l := l) (h := if S1.1 6 10 = 0 then h else fh h) hC (T1 := T2) ⟨fun c hc => by
    rw [b2.1 c hc, e610]
    rcases hbo with ⟨h1, h2⟩ | ⟨h1, h2⟩
    · rw [if_pos h1, h2, hcb c hc, decide_eq_false (show ¬ (0 : Int) ≠ 0 by decide)]
      simp
    · rw [if_neg (by omega), h2, cb_fh hc (fun _ _ _ => trivial), hcb c hc, hcb _ (oth_sign hc), decide_eq_true (show (1 : Int) ≠ 0 by decide), Bool.true_and]
      by_cases e : oth c = c
      · rw [e, decide_eq_false (show ¬ c ≠ c from fun z => z rfl)]
        simp
      · rw [decide_eq_true e, Bool.true_and], b2.2⟩ (by
    have q := a3 SV_0
    split
    · exact q
    · refine ⟨q.1, fun i hi e => ?_⟩
      rw [lb_fh _ hi, Bool.or_eq_true, Bool.or_eq_true, Bool.and_eq_true, Bool.and_eq_true] at e
      rcases e with (e | e) | e
      · exact q.2 i hi e
      · have := of_decide_eq_true e.1
        omega
      · have := of_decide_eq_true e.1
        omega) (S1 := S1) s1 s2 (fun a g h1 h2 => by rw [b3]; exact t1 a g h1 h2) (fun a g hg => by rw [b4 a g hg, t2]) (by rw [b5, t2]) (by rw [b3]; exact hb) (by rw [rp]; exact hp) (by rw [rp]; exact hp1)
  exact ⟨S', T2, T', by rw [a1, q1, sp_bd, sp_if (Or.inr rfl)], b1, q2, q3, by rw [q4, rp]⟩
/-- single ones and ranges -/
theorem el_range (hQ : 300 ≤ Q) (hC : CRel k w S T) (n93 : sp_at S w (rpos T) ≠ 93) (n91 : sp_at S w (rpos T) ≠ 91) (nj : ¬ ((sp_at S w (rpos T) = 38 ∧ sp_at S w (rpos T + 1) = 38) ∨ (sp_at S w (rpos T) = 45 ∧ sp_at S w (rpos T + 1) = 45))) (nk : sp_at S w (rpos T) = 92 → isKd (sp_at S w (rpos T + 1)) = 0) : EL Q k w S T := by
  have hk := (CRel_k hC).1
  obtain ⟨z1, z2, z3, z4⟩ := CRel_b hC
  have hC0 := hC
  obtain ⟨⟨c1, c2, c3⟩, c4, ⟨c5, c6, c7⟩, c8, c9, c10⟩ := hC
  have tx := c1
  unfold isTx at tx
  have atr : ∀ x : Int, 0 ≤ x → -1 ≤ sp_at S w x ∧ sp_at S w x < 127 := fun x hx => by
    rcases (c4.2.2.2.2.2.2 x hx).2 with h | h
    · omega
    · have := sp_sign_r h
      omega
  have fin : ∀ (v : Int) (X : ev_St), (v = 0 ∨ v = 1) → (ev_bd (some (v, X)) fun x23 s22 => ev_if (ev_bl x23) (some (x23, s22))) = some (v, X) := fun v X hv => by rw [sp_bd, sp_if hv]
  -- the class comes to a range
  have redC : jm_21 Q S = ev_bd (jm_26 Q S) fun x23 s22 => ev_if (ev_bl x23) (some (x23, s22)) := by
    unfold jm_21
    rw [c3, sp_b, sp_b, c5, sp_if (by omega), show w + 1 - 1 = w from rfl, sp_151 z1 (by omega), sp_bd, c3, sp_b, sp_b, c5, sp_ck (by omega), sp_if (by omega), show w + 1 - 1 = w from rfl, sp_151 z1 (by omega), sp_bd, if_pos n93, if_pos n91, sp_jn]
    have t : ∀ (J : Option (Int × ev_St)), (ev_jn (fun (s21 : ev_St) => J) fun K137 => if sp_at S w (rpos T) ≠ 92 then (K137 S) else (ev_bd (jm_216 Q (sp_at S w (rpos T + 1)) S) fun x27 s26 => if x27 = 0 then (K137 s26) else (ev_b (s26.1 6 9) fun x29 => ev_ck (x29 + 2) fun x30 => ev_b (ev_pI s26 6 9 x30) fun s31 => ev_bd (jm_217 Q (sp_at S w (rpos T + 1)) s31) fun y33 s32 => ev_bd (jm_218 Q (sp_at S w (rpos T + 1)) s32) fun y35 s34 => ev_bd (jm_22 Q y33 y35 s34) fun x37 s36 => ev_if (ev_bl x37) (some (x37, s36))))) = J := fun J => by
      rw [sp_jn]
      by_cases h : sp_at S w (rpos T) = 92
      · have q : (if sp_at S w (rpos T + 1) = 100 ∨ sp_at S w (rpos T + 1) = 119 ∨ sp_at S w (rpos T + 1) = 115 ∨ sp_at S w (rpos T + 1) = 68 ∨ sp_at S w (rpos T + 1) = 87 ∨ sp_at S w (rpos T + 1) = 83 then (1 : Int) else 0) = 0 := nk h
        rw [if_neg (fun z => z h), sp_216, sp_bd, if_pos q]
      · rw [if_pos h]
    have u : ∀ (J : ev_St → Option (Int × ev_St)), (ev_jn (fun (s21 : ev_St) => J s21) fun K137 => if sp_at S w (rpos T) ≠ 92 then (K137 S) else (ev_bd (jm_216 Q (sp_at S w (rpos T + 1)) S) fun x27 s26 => if x27 = 0 then (K137 s26) else (ev_b (s26.1 6 9) fun x29 => ev_ck (x29 + 2) fun x30 => ev_b (ev_pI s26 6 9 x30) fun s31 => ev_bd (jm_217 Q (sp_at S w (rpos T + 1)) s31) fun y33 s32 => ev_bd (jm_218 Q (sp_at S w (rpos T + 1)) s32) fun y35 s34 => ev_bd (jm_22 Q y33 y35 s34) fun x37 s36 => ev_if (ev_bl x37) (some (x37, s36))))) = J S := fun J => by
      rw [sp_jn]
      by_cases h : sp_at S w (rpos T) = 92
      · have q : (if sp_at S w (rpos T + 1) = 100 ∨ sp_at S w (rpos T + 1) = 119 ∨ sp_at S w (rpos T + 1) = 115 ∨ sp_at S w (rpos T + 1) = 68 ∨ sp_at S w (rpos T + 1) = 87 ∨ sp_at S w (rpos T + 1) = 83 then (1 : Int) else 0) = 0 := nk h
        rw [if_neg (fun z => z h), sp_216, sp_bd, if_pos q]
      · rw [if_pos h]
    by_cases e : sp_at S w (rpos T) = sp_at S w (rpos T + 1)
    · rw [if_neg (fun z => z e), sp_jn, if_neg (by omega), if_pos (by omega)]
      exact u (fun s => ev_bd (jm_26 Q s) fun x23 s22 => ev_if (ev_bl x23) (some (x23, s22)))
    · rw [if_pos e]
      exact u (fun s => ev_bd (jm_26 Q s) fun x23 s22 => ev_if (ev_bl x23) (some (x23, s22)))
  -- so does the reference
  have redR : ∀ (K : Int → ev_St → Option (Unit × ev_St)) (R : Option (Unit × ev_St)), (∀ (J : ev_St → Option (Unit × ev_St)) , J T = R → (if sp_at S w (rpos T) ≠ 92 then (J T) else (ev_bd (jm_247 Q (sp_at S w (rpos T + 1)) T) fun x129 s128 => if x129 = 0 then (J s128) else (ev_bd (jm_246 Q (sp_at S w (rpos T + 1)) s128) fun _ s131 => ev_bd (jm_234 Q 2 s131) fun _ s132 => ev_bd (jm_249 Q (k : Int) s132) fun _ s133 => K (k : Int) s133))) = R) := fun K R J hJ => by
    by_cases h : sp_at S w (rpos T) = 92
    · have q : (if sp_at S w (rpos T + 1) = 100 ∨ sp_at S w (rpos T + 1) = 119 ∨ sp_at S w (rpos T + 1) = 115 ∨ sp_at S w (rpos T + 1) = 68 ∨ sp_at S w (rpos T + 1) = 87 ∨ sp_at S w (rpos T + 1) = 83 then (1 : Int) else 0) = 0 := nk h
      rw [if_neg (fun z => z h), sp_247 (atr _ (by omega)), sp_bd, if_pos q, hJ]
    · rw [if_pos h, hJ]
  rcases sp_27 (Q := Q) hC0 (p := rpos T) (U := S) (fun _ _ _ => rfl) rfl c5 (by omega) with ⟨g0, v, U', g1, g2⟩ | ⟨g0, g1, g2, g3, g4, g5⟩
  · -- none
    refine Or.inl ⟨U', ?_, (k : Int), ev_pI T 621 25 1, fun K => ?_, by rw [rd_eq]; decide⟩
    · rw [redC]
      unfold jm_26
      rw [g1, sp_bd, sp_jn, if_pos g2]
      dsimp only
      rw [if_pos g2, fin 0 U' (Or.inl rfl)]
    · unfold jb_253_7
      rw [if_neg (by omega), sp_b, c8, if_neg (fun z => z rfl), sp_233 c4 (by omega), sp_bd, sp_233 c4 (by omega), sp_bd, sp_250 c4 (by omega) (by omega), sp_bd, sp_jn, show rpos T + 0 = rpos T from by omega, if_pos n93, if_pos n91, sp_jn, g0]
      refine redR K _ _ ?_
      dsimp only
      rw [if_pos (show (0 : Int) ≤ 0 by decide), sp_jn, sp_jn]
      by_cases e38 : sp_at S w (rpos T) = 38
      · rw [if_neg (fun z => z e38), if_neg (by omega)]
        dsimp only
        rw [sp_jn, if_pos (by omega)]
        rfl
      · rw [if_pos e38]
        dsimp only
        rw [sp_jn]
        by_cases e45 : sp_at S w (rpos T) = 45
        · rw [if_neg (fun z => z e45), if_pos (by omega)]
          rfl
        · rw [if_pos e45]
          rfl
  · -- one, perhaps a range
    have rb : ∃ bo : Int, ((S.1 6 10 = 0 ∧ bo = 0) ∨ (S.1 6 10 = 1 ∧ bo = 1)) ∧ ((ev_iand (T.1 621 40) 1 ≤ 0 ∧ bo = 0) ∨ (¬ ev_iand (T.1 621 40) 1 ≤ 0 ∧ bo = 1)) := by
      rcases c9 with ⟨h1, h2⟩ | ⟨h1, h2⟩
      · exact ⟨0, Or.inl ⟨h1, rfl⟩, Or.inl ⟨by omega, rfl⟩⟩
      · exact ⟨1, Or.inr ⟨h1, rfl⟩, Or.inr ⟨by omega, rfl⟩⟩
    obtain ⟨bo, bo1, bo2⟩ := rb
    have hf := sp_sign_r g2
    generalize hn1 : sgl (sp_at S w (rpos T)) (sp_at S w (rpos T + 1)) = n1 at *
    generalize hfv : sga (sp_at S w (rpos T)) (sp_at S w (rpos T + 1)) = f at *
    -- the reference, from what it has read on
    have tailR : ∀ (K : Int → ev_St → Option (Unit × ev_St)) (v : Int) (T1 T2 T' : ev_St), T1.1 621 40 = T.1 621 40 → jm_245 Q f v bo T1 = some ((), T2) → jm_249 Q (k : Int) T2 = some ((), T') → (ev_b (T1.1 621 40) fun x74 => ev_b (ev_iand x74 1) fun x75 => ev_jn (fun (x78 : Int) (x77 : Int) (x76 : Int) (s82 : ev_St) => ev_bd (jm_245 Q x76 x77 x78 s82) fun _ s83 => ev_bd (jm_249 Q (k : Int) s83) fun _ s84 => K (k : Int) s84) fun K299 => if x75 ≤ 0 then (K299 0 v f T1) else (K299 1 v f T1)) = K (k : Int) T' := fun K v T1 T2 T' h40 h1 h2 => by
      rw [sp_b, h40, sp_b, sp_jn]
      rcases bo2 with ⟨q1, q2⟩ | ⟨q1, q2⟩
      · subst q2
        rw [if_pos q1]
        dsimp only
        rw [h1, sp_bd, h2, sp_bd]
      · subst q2
        rw [if_neg q1]
        dsimp only
        rw [h1, sp_bd, h2, sp_bd]
    have rpA : rpos (ev_pI T 645 (T.1 621 28).toNat (rpos T + n1)) = rpos T + n1 := rpos_pI rfl
    have RA : RT S w (ev_pI T 645 (T.1 621 28).toNat (rpos T + n1)) := RT_c c4 (fun a g ha => if_neg (by omega))
    have A40 : (ev_pI T 645 (T.1 621 28).toNat (rpos T + n1)).1 621 40 = T.1 621 40 := rd_nk (by omega)
    have A25 : (ev_pI T 645 (T.1 621 28).toNat (rpos T + n1)).1 621 25 = 0 := by rw [rd_nk (by omega), c8]
    have A28 : (ev_pI T 645 (T.1 621 28).toNat (rpos T + n1)).1 621 28 = T.1 621 28 := rd_nk (by omega)
    -- the reference up to the range's sign
    have headR : ∀ (K : Int → ev_St → Option (Unit × ev_St)) (T' : ev_St), (∀ (t : Int → Int → ev_St → Option (Unit × ev_St)), (∀ v T1 T2 T3, T1.1 621 40 = T.1 621 40 → jm_245 Q f v bo T1 = some ((), T2) → jm_249 Q (k : Int) T2 = some ((), T3) → t f v T1 = K (k : Int) T3) → (if sp_at S w (rpos T + n1) ≠ 45 then t f f (ev_pI T 645 (T.1 621 28).toNat (rpos T + n1)) else (ev_bd (jm_233 Q 1 (ev_pI T 645 (T.1 621 28).toNat (rpos T + n1))) fun x88 s87 => if x88 = 45 then (t f f s87) else (ev_bd (jm_250 Q 1 s87) fun x91 s90 => ev_jn (fun (x92 : Int) (x93 : Int) (s99 : ev_St) => ev_b (s99.1 621 25) fun x100 => ev_jn (fun (x101 : Int) (x102 : Int) (s109 : ev_St) => ev_if (ev_bl x102) (ev_b (ev_pI s109 621 25 x102) fun s110 => ev_ck (1 + x92) fun x112 => ev_bd (jm_234 Q x112 s110) fun _ s113 => t f x101 s113)) fun K269 => ev_jn (fun (x114 : Int) (s121 : ev_St) => K269 x114 1 s121) fun K264 => if x100 ≠ 0 then (K264 x93 s99) else (if f ≤ x93 then (K269 x93 0 s99) else (K264 x93 s99))) fun K247 => if x91 ≤ 0 then (K247 x91 ((-1)) s90) else (ev_bd (jm_251 Q 1 s90) fun x126 s125 => K247 x91 x126 s125)))) = K (k : Int) T') → jb_253_7 Q K (k : Int) T = K (k : Int) T' := fun K T' hh => by
      unfold jb_253_7
      rw [if_neg (by omega), sp_b, c8, if_neg (fun z => z rfl), sp_233 c4 (by omega), sp_bd, sp_233 c4 (by omega), sp_bd, sp_250 c4 (by omega) (by omega), sp_bd, sp_jn, show rpos T + 0 = rpos T from by omega, if_pos n93, if_pos n91, sp_jn, hn1]
      refine redR K _ _ ?_
      dsimp only
      rw [if_neg (by omega), sp_251 c4 (by omega) (by omega), sp_bd, show rpos T + 0 = rpos T from by omega, hfv, sp_234 z4 (by omega), sp_bd, sp_233 RA (by rw [rpA]; omega), sp_bd, rpA, show rpos T + n1 + 0 = rpos T + n1 from by omega, sp_jn]
      exact hh (fun x66 x67 s73 => ev_b (s73.1 621 40) fun x74 => ev_b (ev_iand x74 1) fun x75 => ev_jn (fun (x78 : Int) (x77 : Int) (x76 : Int) (s82 : ev_St) => ev_bd (jm_245 Q x76 x77 x78 s82) fun _ s83 => ev_bd (jm_249 Q (k : Int) s83) fun _ s84 => K (k : Int) s84) fun K299 => if x75 ≤ 0 then (K299 0 x67 x66 s73) else (K299 1 x67 x66 s73)) (fun v T1 T2 T3 h1 h2 h3 => tailR K v T1 T2 T3 h1 h2 h3)
    have hsp : ∀ x, sp_at (ev_pI S 6 9 (rpos T + n1)) w x = sp_at S w x := fun x => by
      unfold sp_at
      rw [rd_nk (by omega), rd_nk (by omega)]
    have wU : (ev_pI S 6 9 (rpos T + n1)).1 w 1 = S.1 w 1 := rd_nk (by omega)
    by_cases hrg : sp_at S w (rpos T + n1) = 45 ∧ sp_at S w (rpos T + n1 + 1) ≠ 45
    · obtain ⟨r1, r2⟩ := hrg
      have r3 := at_in (S := S) (w := w) (p := rpos T + n1) (by omega) (by rw [r1]; decide)
      -- the class
      have headC : jm_26 Q S = ev_bd (jm_27 Q (ev_pI S 6 9 (rpos T + n1 + 1))) fun x95 s94 => if f < 0 then (some (0, s94)) else (if f ≤ x95 then (jl_26_79 Q x95 Q L0 L0 f s94) else (some (0, s94))) := by
        unfold jm_26
        rw [g1, sp_bd, sp_jn, if_neg (by omega), show (ev_pI S 6 9 (rpos T + n1)).2.2.1 6 8 = w + 1 from c3, sp_b, sp_b, rd_eq, sp_if (by omega), show w + 1 - 1 = w from rfl, sp_151 z1 (by rw [wU]; omega), sp_bd, hsp, r1, if_neg (fun z => z rfl), show (ev_pI S 6 9 (rpos T + n1)).2.2.1 6 8 = w + 1 from c3, sp_b, sp_b, rd_eq, sp_ck (by omega), sp_if (by omega), show w + 1 - 1 = w from rfl, sp_151 z1 (by rw [wU]; omega), sp_bd, hsp, if_neg r2, sp_b, rd_eq, sp_ck (by omega), sp_b, pI_pI]
      -- the reference
      have bodyR : ∀ (t : Int → Int → ev_St → Option (Unit × ev_St)) (X : Option (Unit × ev_St)), (∀ (v n2 : Int) , (v = if sgl (sp_at S w (rpos T + n1 + 1)) (sp_at S w (rpos T + n1 + 2)) ≤ 0 then -1 else sga (sp_at S w (rpos T + n1 + 1)) (sp_at S w (rpos T + n1 + 2))) → n2 = sgl (sp_at S w (rpos T + n1 + 1)) (sp_at S w (rpos T + n1 + 2)) → t f v (ev_pI (ev_pI (ev_pI T 645 (T.1 621 28).toNat (rpos T + n1)) 621 25 (if f ≤ v then 0 else 1)) 645 (T.1 621 28).toNat (rpos T + n1 + (1 + n2))) = X) → (if sp_at S w (rpos T + n1) ≠ 45 then t f f (ev_pI T 645 (T.1 621 28).toNat (rpos T + n1)) else (ev_bd (jm_233 Q 1 (ev_pI T 645 (T.1 621 28).toNat (rpos T + n1))) fun x88 s87 => if x88 = 45 then (t f f s87) else (ev_bd (jm_250 Q 1 s87) fun x91 s90 => ev_jn (fun (x92 : Int) (x93 : Int) (s99 : ev_St) => ev_b (s99.1 621 25) fun x100 => ev_jn (fun (x101 : Int) (x102 : Int) (s109 : ev_St) => ev_if (ev_bl x102) (ev_b (ev_pI s109 621 25 x102) fun s110 => ev_ck (1 + x92) fun x112 => ev_bd (jm_234 Q x112 s110) fun _ s113 => t f x101 s113)) fun K269 => ev_jn (fun (x114 : Int) (s121 : ev_St) => K269 x114 1 s121) fun K264 => if x100 ≠ 0 then (K264 x93 s99) else (if f ≤ x93 then (K269 x93 0 s99) else (K264 x93 s99))) fun K247 => if x91 ≤ 0 then (K247 x91 ((-1)) s90) else (ev_bd (jm_251 Q 1 s90) fun x126 s125 => K247 x91 x126 s125)))) = X := fun t X hX => by
        have sb : 0 ≤ sgl (sp_at S w (rpos T + n1 + 1)) (sp_at S w (rpos T + n1 + 2)) ∧ sgl (sp_at S w (rpos T + n1 + 1)) (sp_at S w (rpos T + n1 + 2)) ≤ 2 := by
          unfold sgl
          (repeat' split) <;> omega
        rw [if_neg (fun z => z r1), sp_233 RA (by rw [rpA]; omega), sp_bd, rpA, if_neg r2, sp_250 RA (by omega) (by rw [rpA]; omega), sp_bd, rpA, show rpos T + n1 + 1 + 1 = rpos T + n1 + 2 from by omega]
        have g234 : ∀ (b x : Int), b = 0 ∨ b = 1 → 0 ≤ x ∧ x ≤ 2 → jm_234 Q (1 + x) (ev_pI (ev_pI T 645 (T.1 621 28).toNat (rpos T + n1)) 621 25 b) = some ((), ev_pI (ev_pI (ev_pI T 645 (T.1 621 28).toNat (rpos T + n1)) 621 25 b) 645 (T.1 621 28).toNat (rpos T + n1 + (1 + x))) := fun b x hb hx => by
          have e1 : (ev_pI (ev_pI T 645 (T.1 621 28).toNat (rpos T + n1)) 621 25 b).1 621 28 = T.1 621 28 := by rw [rd_nf (by omega), A28]
          have e2 : rpos (ev_pI (ev_pI T 645 (T.1 621 28).toNat (rpos T + n1)) 621 25 b) = rpos T + n1 := by
            exact (rpos_c (rd_nf (by omega)) (fun g => rd_nk (by omega))).trans rpA
          rw [sp_234 (by rw [e1]; exact z4) (by rw [e2]; omega), e1, e2]
        have join : ∀ v : Int, (v = if sgl (sp_at S w (rpos T + n1 + 1)) (sp_at S w (rpos T + n1 + 2)) ≤ 0 then -1 else sga (sp_at S w (rpos T + n1 + 1)) (sp_at S w (rpos T + n1 + 2))) → (ev_b ((ev_pI T 645 (T.1 621 28).toNat (rpos T + n1)).1 621 25) fun x100 => ev_jn (fun (x101 : Int) (x102 : Int) (s109 : ev_St) => ev_if (ev_bl x102) (ev_b (ev_pI s109 621 25 x102) fun s110 => ev_ck (1 + sgl (sp_at S w (rpos T + n1 + 1)) (sp_at S w (rpos T + n1 + 2))) fun x112 => ev_bd (jm_234 Q x112 s110) fun _ s113 => t f x101 s113)) fun K269 => ev_jn (fun (x114 : Int) (s121 : ev_St) => K269 x114 1 s121) fun K264 => if x100 ≠ 0 then (K264 v (ev_pI T 645 (T.1 621 28).toNat (rpos T + n1))) else (if f ≤ v then (K269 v 0 (ev_pI T 645 (T.1 621 28).toNat (rpos T + n1))) else (K264 v (ev_pI T 645 (T.1 621 28).toNat (rpos T + n1))))) = X := fun v hv => by
          have q := hX v _ hv rfl
          rw [sp_b, A25, sp_jn, sp_jn, if_neg (fun z => z rfl)]
          by_cases e : f ≤ v
          · rw [if_pos e] at q ⊢
            dsimp only
            rw [sp_if (show ev_bl 0 from Or.inl rfl), sp_b, sp_ck (by omega), g234 0 _ (Or.inl rfl) sb, sp_bd]
            exact q
          · rw [if_neg e] at q ⊢
            dsimp only
            rw [sp_if (show ev_bl 1 from Or.inr rfl), sp_b, sp_ck (by omega), g234 1 _ (Or.inr rfl) sb, sp_bd]
            exact q
        rw [sp_jn]
        by_cases e : sgl (sp_at S w (rpos T + n1 + 1)) (sp_at S w (rpos T + n1 + 2)) ≤ 0
        · rw [if_pos e]
          exact join (-1) (by rw [if_pos e])
        · rw [if_neg e, sp_251 RA (by omega) (by rw [rpA]; omega), sp_bd, rpA, show rpos T + n1 + 1 + 1 = rpos T + n1 + 2 from by omega]
          exact join _ (by rw [if_neg e])
      rcases sp_27 (Q := Q) hC0 (p := rpos T + n1 + 1) (U := ev_pI S 6 9 (rpos T + n1 + 1)) (fun a g h => if_neg h) rfl rd_eq (by omega) with ⟨k0, v, U', k1, k2⟩ | ⟨k0, k1, k2, k3, k4, k5⟩
      · -- no single one behind "-"
        rw [show rpos T + n1 + 1 + 1 = rpos T + n1 + 2 from by omega] at k0
        obtain ⟨T2, b1, b2, b3, b4, b5⟩ := sp_245 (Q := Q) (x := f) (e := -1) (bo := bo) (S := ev_pI (ev_pI (ev_pI T 645 (T.1 621 28).toNat (rpos T + n1)) 621 25 (if f ≤ -1 then 0 else 1)) 645 (T.1 621 28).toNat (rpos T + n1 + (1 + 0))) (by omega) (by omega) (by omega)
        refine Or.inl ⟨U', ?_, (k : Int), ev_pI (ev_pL (ev_pL T2 653 k (T2.2.1 653 k ||| T2.2.1 621 41)) 654 k (T2.2.1 654 k ||| T2.2.1 621 42)) 656 k 1, fun K => headR K _ (fun t ht => bodyR t _ (fun v' n2 hv' hn2 => ?_)), ?_⟩
        · rw [redC, headC, k1, sp_bd, if_neg (by omega), if_neg (by omega), fin 0 U' (Or.inl rfl)]
        · rw [k0, if_pos (by decide)] at hv'
          rw [k0] at hn2
          subst hv'
          subst hn2
          exact ht _ _ T2 _ (by rw [rd_nk (by omega), rd_nf (by omega), A40]) b1 (sp_249 (by omega))
        · rw [rd_nk (by omega), sp_pL1, sp_pL1, b3, rd_nk (by omega), rd_eq, if_neg (by omega)]
          decide
      · rw [show rpos T + n1 + 1 + 1 = rpos T + n1 + 2 from by omega] at k0 k1 k2 k3 k4 k5
        have hl := sp_sign_r k2
        have hm : (if sgl (sp_at S w (rpos T + n1 + 1)) (sp_at S w (rpos T + n1 + 2)) ≤ 0 then -1 else sga (sp_at S w (rpos T + n1 + 1)) (sp_at S w (rpos T + n1 + 2))) = sga (sp_at S w (rpos T + n1 + 1)) (sp_at S w (rpos T + n1 + 2)) := if_neg (by omega)
        rw [hm] at bodyR
        generalize hn2e : sgl (sp_at S w (rpos T + n1 + 1)) (sp_at S w (rpos T + n1 + 2)) = n2 at *
        generalize sga (sp_at S w (rpos T + n1 + 1)) (sp_at S w (rpos T + n1 + 2)) = l at *
        by_cases hfl : f ≤ l
        · have rpB : rpos (ev_pI (ev_pI (ev_pI T 645 (T.1 621 28).toNat (rpos T + n1)) 621 25 (if f ≤ l then 0 else 1)) 645 (T.1 621 28).toNat (rpos T + n1 + (1 + n2))) = rpos T + n1 + (1 + n2) := rpos_pI (by rw [rd_nf (by omega), A28])
          obtain ⟨S', T2, T', m1, m2, m3, m4, m5⟩ := rg_ok (Q := Q) hQ hC0 (f := f) (v := l) (bo := bo) (by omega) (by omega) bo1 (S1 := ev_pI (ev_pI S 6 9 (rpos T + n1 + 1)) 6 9 (rpos T + n1 + 1 + n2)) (T1 := ev_pI (ev_pI (ev_pI T 645 (T.1 621 28).toNat (rpos T + n1)) 621 25 (if f ≤ l then 0 else 1)) 645 (T.1 621 28).toNat (rpos T + n1 + (1 + n2))) (fun a g h => by rw [sp_pI1, if_neg h, sp_pI1, if_neg h]) rfl (fun a g h1 h2 => by rw [sp_pI1, if_neg h1, sp_pI1, if_neg h2, sp_pI1, if_neg h1]) rfl (by rw [rd_nk (by omega), rd_eq, if_pos hfl]) (by rw [rd_eq, rpB]; omega) (by rw [rpB]; omega)
          refine Or.inr (Or.inl ⟨k, S', T', ?_, fun K => headR K _ (fun t ht => bodyR t _ (fun v' n2' hv' hn2 => ?_)), m4, by rw [m5, rpB]; omega, ?_, (cxk_no n93 n91).symm⟩)
          · rw [redC, headC, k1, sp_bd, if_neg (by omega), if_pos hfl, m1, fin 1 S' (Or.inr rfl)]
          · subst hv'
            subst hn2
            exact ht _ _ T2 _ (by rw [rd_nk (by omega), rd_nf (by omega), A40]) m2 m3
          · rw [m5, rpB, cxp_range n93 n91 nj nk, hn1]
            unfold cxr
            rw [if_pos ⟨r1, r2⟩, hn2e]
            omega
        · obtain ⟨T2, b1, b2, b3, b4, b5⟩ := sp_245 (Q := Q) (x := f) (e := l) (bo := bo) (S := ev_pI (ev_pI (ev_pI T 645 (T.1 621 28).toNat (rpos T + n1)) 621 25 (if f ≤ l then 0 else 1)) 645 (T.1 621 28).toNat (rpos T + n1 + (1 + n2))) (by omega) (by omega) (by omega)
          refine Or.inl ⟨ev_pI (ev_pI S 6 9 (rpos T + n1 + 1)) 6 9 (rpos T + n1 + 1 + n2), ?_, (k : Int), ev_pI (ev_pL (ev_pL T2 653 k (T2.2.1 653 k ||| T2.2.1 621 41)) 654 k (T2.2.1 654 k ||| T2.2.1 621 42)) 656 k 1, fun K => headR K _ (fun t ht => bodyR t _ (fun v' n2' hv' hn2 => ?_)), ?_⟩
          · rw [redC, headC, k1, sp_bd, if_neg (by omega), if_neg hfl, fin 0 _ (Or.inl rfl)]
          · subst hv'
            subst hn2
            exact ht _ _ T2 _ (by rw [rd_nk (by omega), rd_nf (by omega), A40]) b1 (sp_249 (by omega))
          · rw [rd_nk (by omega), sp_pL1, sp_pL1, b3, rd_nk (by omega), rd_eq, if_neg hfl]
            decide
    · -- one alone
      obtain ⟨S', T2, T', m1, m2, m3, m4, m5⟩ := rg_ok (Q := Q) hQ hC0 (f := f) (v := f) (bo := bo) (by omega) (by omega) bo1 (S1 := ev_pI S 6 9 (rpos T + n1)) (T1 := ev_pI T 645 (T.1 621 28).toNat (rpos T + n1)) (fun a g h => if_neg h) rfl (fun a g h1 h2 => if_neg h1) rfl A25 (by rw [rd_eq, rpA]) (by rw [rpA]; omega)
      refine Or.inr (Or.inl ⟨k, S', T', ?_, fun K => headR K T' (fun t ht => ?_), m4, by rw [m5, rpA]; omega, ?_, (cxk_no n93 n91).symm⟩)
      · rw [redC]
        unfold jm_26
        rw [g1, sp_bd, sp_jn, if_neg (by omega), show (ev_pI S 6 9 (rpos T + n1)).2.2.1 6 8 = w + 1 from c3, sp_b, sp_b, rd_eq, sp_if (by omega), show w + 1 - 1 = w from rfl, sp_151 z1 (by rw [wU]; omega), sp_bd, hsp]
        by_cases e : sp_at S w (rpos T + n1) = 45
        · rw [if_neg (fun z => z e), show (ev_pI S 6 9 (rpos T + n1)).2.2.1 6 8 = w + 1 from c3, sp_b, sp_b, rd_eq, sp_ck (by omega), sp_if (by omega), show w + 1 - 1 = w from rfl, sp_151 z1 (by rw [wU]; omega), sp_bd, hsp, if_pos (Decidable.not_not.mp (fun z => hrg ⟨e, z⟩))]
          dsimp only
          rw [if_neg (by omega), if_pos (Int.le_refl f), m1, fin 1 S' (Or.inr rfl)]
        · rw [if_pos e]
          dsimp only
          rw [if_neg (by omega), if_pos (Int.le_refl f), m1, fin 1 S' (Or.inr rfl)]
      · by_cases e : sp_at S w (rpos T + n1) = 45
        · rw [if_neg (fun z => z e), sp_233 RA (by rw [rpA]; omega), sp_bd, rpA, if_pos (Decidable.not_not.mp (fun z => hrg ⟨e, z⟩))]
          exact ht _ _ T2 _ A40 m2 m3
        · rw [if_pos e]
          exact ht _ _ T2 _ A40 m2 m3
      · rw [m5, rpA, cxp_range n93 n91 nj nk, hn1]
        unfold cxr
        rw [if_neg hrg]
end ELEM3
