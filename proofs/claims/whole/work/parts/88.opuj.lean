/-! THE READER: ")" and the end of a text within -/
section RCLO
variable {Q k n m w d N M D lv t : Nat} {φ ψ own inn G R ws y : Nat → Nat} {P q : Nat → Int} {S T S0 T0 S2 T2 T1 U : ev_St}
theorem tk_close {p : Int} (hk : ev_isOb k 5 = true) (hkr : 232 ≤ k) (H : RIy k lv ws N M D φ ψ own inn G R y P q S T) (hp : T.1 645 lv = p) (hc : sp_at S (ws lv) p = 41) : TK0 k lv ws (nx (sp_at S (ws lv)) p) S T (jm_85 Q S) (jm_263 Q T) := by
  obtain ⟨h, hg, hN0, hU⟩ := H
  have htx := h.2.1
  obtain ⟨⟨g1, g2, g3, g4, g5⟩, g6, g7⟩ := hd_85 (Q := Q) (c := 41) htx (by rw [hp]; exact hc) (by decide)
  rw [nx_1 (by rw [hc]; decide)]
  rw [hp] at g3 g4 g7
  obtain ⟨o1, o2, o3, o4, o5⟩ := al_O
  have mv : MVd lv (p + 1) S T (ev_pI S 3 8 (p + 1)) (ev_pI T 645 lv (p + 1)) := mv_pI
  have h0 := RIb_mv h hkr mv (by omega)
  obtain ⟨m1, m2, m3, m4, m5, m6, m7, m8⟩ := mv
  have redC : jm_85 Q S = (ev_b ((ev_pI S 3 8 (p + 1)).1 3 10) fun x21 => if x21 < 0 then (some (0, ev_pI S 3 8 (p + 1))) else (ev_b ((ev_pI S 3 8 (p + 1)).1 3 10) fun x23 => if 152 ≤ x23 then (some (0, ev_pI S 3 8 (p + 1))) else (ev_b ((ev_pI S 3 8 (p + 1)).1 3 10) fun x25 => ev_if ((0 : Int) ≤ x25 ∧ x25 < (152 : Int)) (ev_b (17 + 1 * Int.toNat x25) fun _ => ev_b ((ev_pI S 3 8 (p + 1)).1 ((17 + 1 * Int.toNat x25)) 3) fun x28 => if x28 ≠ 0 then (some (0, ev_pI S 3 8 (p + 1))) else (ev_bd (jm_100 Q (ev_pI S 3 8 (p + 1))) fun x31 s30 => if x31 = 0 then (some (0, s30)) else (some (1, s30))))))) := by
    unfold jm_85
    rw [g1, sp_bd, sp_b, g3, sp_ck (by omega), sp_b, if_neg (show ¬ ((41 : Int) = 36) by decide), if_neg (show ¬ ((41 : Int) = 40) by decide), if_pos rfl]
  have redR : jm_263 Q T = (ev_b ((ev_pI T 645 lv (p + 1)).1 621 25) fun x61 => ev_jn (fun (x62 : Int) (s65 : ev_St) => ev_if (ev_bl x62) (ev_b (ev_pI s65 621 25 x62) fun s66 => ev_b (s66.1 621 25) fun x68 => if x68 ≠ 0 then (some ((), s66)) else (ev_bd (jm_240 Q  s66) fun _ s70 => some ((), s70)))) fun K206 => ev_jn (fun  (s73 : ev_St) => K206 1 s73) fun K201 => if x61 ≠ 0 then (K201  (ev_pI T 645 lv (p + 1))) else (ev_b ((ev_pI T 645 lv (p + 1)).1 621 31) fun x75 => if x75 < 2 then (K201  (ev_pI T 645 lv (p + 1))) else (ev_b ((ev_pI T 645 lv (p + 1)).1 621 31) fun x77 => ev_ck (x77 - 1) fun x78 => ev_if ((0 : Int) ≤ x78 ∧ x78 < (ev_aln 650 : Int)) (ev_b ((ev_pI T 645 lv (p + 1)).1 650 (Int.toNat x78)) fun x79 => if x79 = 0 then (K206 0 (ev_pI T 645 lv (p + 1))) else (K201  (ev_pI T 645 lv (p + 1))))))) := by
    unfold jm_263
    rw [g2, sp_bd, sp_jn, if_neg (show ¬ ((41 : Int) = 63) by decide), if_neg (show ¬ ((41 : Int) = 42) by decide), if_neg (show ¬ ((41 : Int) = 43) by decide), if_pos (show ((41 : Int) ≠ 123) by decide), if_pos (show ((41 : Int) ≠ 92) by decide), if_pos (show ((41 : Int) ≠ 91) by decide), if_pos (show ((41 : Int) ≠ 40) by decide), if_neg (fun z => z rfl), g7 1 (by omega), sp_bd]
  generalize ev_pI S 3 8 (p + 1) = S0 at *
  generalize ev_pI T 645 lv (p + 1) = T0 at *
  obtain ⟨n1, n2, n3, n4, n5, n6⟩ := RIy_n h0
  have e3 := h0.1.1.1.2.2.1
  have e4 := h0.1.1.1.2.2.2.1
  have h25 := h0.2.2.2.2.2.2.2
  have hst := (h0.1.1.2.2.2.2.1 D (Nat.le_refl _)).2.2.2.2.2.2.2
  have e0 : ev_pI T0 621 25 0 = T0 := by
    have := pI_id (S := T0) (k := 621) (f := 25)
    rw [h25] at this
    exact this
  rw [e3, sp_b, if_neg (by omega), sp_b, if_neg (by omega), sp_b, sp_if (by omega), sp_b, show 17 + 1 * ((D : Int)).toNat = 17 + D from by omega, hst, sp_b] at redC
  rw [sp_b, h25, sp_jn, sp_jn, if_neg (fun z => z rfl), sp_b, e4] at redR
  cases D with
  | zero =>
    rw [if_pos rfl, if_pos (by decide)] at redC
    rw [if_pos (by decide)] at redR
    refine Or.inl ⟨S0, ev_pI T0 621 25 1, redC, ?_, rd_eq⟩
    rw [redR]
    try dsimp only
    rw [sp_if (show ev_bl 1 from Or.inr rfl), sp_b, rd_eq, sp_b, if_pos (by decide)]
  | succ D =>
    rw [if_neg (show ¬ (D + 1 = 0) by omega)] at redC
    rw [if_neg (by omega), sp_b, sp_ck (by omega), show ((D + 1 : Nat) : Int) + 1 - 1 = ((D + 1 : Nat) : Int) from by omega, sp_if (by rw [o5]; omega), Int.toNat_natCast, sp_b] at redR
    by_cases e5 : T0.1 650 (D + 1) = 0
    · rw [if_neg (fun z => z e5)] at redC
      rw [if_pos e5] at redR
      obtain ⟨S', T', φ', ψ', own', s1, t1, ⟨hR2, hL2⟩, r1, r2, r3, r4, r5, ⟨r6, r7⟩, r8, r9, rU⟩ := cl_core (Q := Q) hk hkr (RIw_of h0) (by
        rw [m4 _ _ (by omega) (by omega)]
        exact hN0.2.2.1 _ (Nat.le_refl _))
      refine Or.inr ⟨S', T', by rw [redC, s1, sp_bd, if_neg (by decide)], ?_, ⟨N, M + 2, D, φ', ψ', own', inn, G, R, _, q, y, ⟨⟨hR2, hL2⟩, RIt_pos h0.2.1 (fun x g z => r6 x g (by unfold KTs at z; omega)) (fun x g _ => by rw [r7]) (fun x g z => r8 x g (by unfold KTt at z; omega)) (fun i hi => r8 _ _ (by omega)) ?_, r1, r2, r3, r4, r5, by rw [r8 _ _ (by omega), h25]⟩, ?_, ⟨hN0.1, ?_, fun i hi => ?_, ?_⟩, ?up⟩, ?_, fun i hi => ?_, fun x g z => ?_, fun x g z => ?_, fun x g z => ?_, ?_, fun c g z => by unfold LOWc at z; rw [r8 c g (by omega), m4 c g (by omega) (by omega)], fun c g x y z => by rw [r9, m7 c g x y]⟩
      case up => exact rU (UPe_c hU h.1.1 (fun b hb => m1 _ _ (by omega) (by omega)) (fun m c hm hc => m4 _ _ (by omega) (by omega)))
      · rw [redR]
        try dsimp only
        rw [sp_if (show ev_bl 0 from Or.inl rfl), sp_b, e0, h25, sp_b, if_neg (fun z => z rfl), t1, sp_bd]
      · have pp := h0.2.1.2.2.2.1 lv (Nat.le_refl _)
        have p2 := h0.2.1.2.2.2.2.2.1.2
        rw [r8 645 lv (by omega), r6 3 8 (by omega)]
        exact ⟨p2, pp.2⟩
      · have eK : Kt T' = Kt T := funext fun m => by
          show T'.1 625 (3840 + m) = T.1 625 (3840 + m)
          rw [r8 _ _ (by omega), m4 _ _ (by omega) (by omega)]
        have eX : Xt T' = Xt T := funext fun m => by
          show T'.1 627 (3840 + m) = T.1 627 (3840 + m)
          rw [r8 _ _ (by omega), m4 _ _ (by omega) (by omega)]
        have eO : T'.1 650 = T.1 650 := funext fun i => by rw [r8 _ _ (by omega), m4 _ _ (by omega) (by omega)]
        rw [eK, eX, eO]
        refine GH_close hg ?_ (fun j hj => ?_)
        · rw [m4 _ _ (by omega) (by omega)] at e5
          rw [if_neg (fun z => z e5)]
          rfl
        · rw [r8 _ _ (by omega)]
          by_cases e : j = lv
          · subst e
            rw [m5]
            omega
          · rw [m4 _ _ (by omega) (by omega)]
            exact Int.le_refl _
      · rw [r8 _ _ (by omega), m4 _ _ (by omega) (by omega)]
        exact hN0.2.1
      · rw [r8 _ _ (by omega), m4 _ _ (by omega) (by omega)]
        exact hN0.2.2.1 i (by omega)
      · exact RV_c hN0.2.2.2 (fun c m _ _ _ => by rw [r8 _ _ (by omega), m4 _ _ (by omega) (by omega)]) ⟨by rw [r8 _ _ (by omega), m4 _ _ (by omega) (by omega)], fun j => by rw [r8 _ _ (by omega), m4 _ _ (by omega) (by omega)]⟩
      · rw [r8 _ _ (by omega), m5]
      · rw [r8 _ _ (by omega), m4 _ _ (by omega) (by omega)]
      · rw [r8 x g (by unfold KTt at z; omega), m4 x g (by unfold KTt at z; omega) (by unfold KTt at z; omega)]
      · rw [r6 x g (by unfold KTs at z; omega), m1 x g (by unfold KTs at z; omega) (by unfold KTs at z; omega)]
      · rw [r7, m3 x g (by omega)]
      · rw [r8 _ _ (by omega), m4 _ _ (by omega) (by omega)]
        exact Int.le_refl _
    · rw [if_pos e5] at redC
      rw [if_neg e5] at redR
      refine Or.inl ⟨S0, ev_pI T0 621 25 1, redC, ?_, rd_eq⟩
      rw [redR]
      try dsimp only
      rw [sp_if (show ev_bl 1 from Or.inr rfl), sp_b, rd_eq, sp_b, if_pos (by decide)]
/-- the end of a text within: the class's, and the reference's -/
def enR (Q : Nat) (s56 : ev_St) : Option (Unit × ev_St) := ev_b (s56.1 621 31) fun x59 => ev_ck (x59 - 1) fun x60 => ev_if ((0 : Int) ≤ x60 ∧ x60 < (ev_aln 650 : Int)) (ev_b (s56.1 650 (Int.toNat x60)) fun x61 => ev_jn (fun (x62 : Int) (s65 : ev_St) => ev_if (ev_bl x62) (ev_b (ev_pI s65 621 25 x62) fun s66 => ev_b (s66.1 621 28) fun x68 => ev_ck (x68 - 1) fun x69 => ev_b (ev_pI s66 621 28 x69) fun s70 => ev_b (s70.1 621 25) fun x71 => if x71 ≠ 0 then some ((), s70) else (jm_240 Q  s70))) fun K173 => if x61 ≠ 0 then (K173 0 s56) else (K173 1 s56))
theorem tk_end (hk : ev_isOb k 5 = true) (hkr : 232 ≤ k) (H : RIy k (lv + 1) ws N M D φ ψ own inn G R y P q S T) : (∃ S' T', jm_112 Q S = some (0, S') ∧ enR Q T = some ((), T') ∧ T'.1 621 25 = 1 ∧ LOW T T') ∨ ∃ S' T', jm_112 Q S = some (1, S') ∧ enR Q T = some ((), T') ∧ RIa k lv ws S' T' ∧ (∀ i, T'.1 645 i = T.1 645 i) ∧ (∀ x g, KTt x g → ¬ (x = 621 ∧ g = 28) → T'.1 x g = T.1 x g) ∧ (∀ x g, KTs x g → ¬ (x = 3 ∧ g = 6) → S'.1 x g = S.1 x g) ∧ (∀ x g, x = 15 → S'.2.2.1 x g = S.2.2.1 x g) ∧ T'.1 621 27 = T.1 621 27 ∧ LOW T T' := by
  obtain ⟨h, hg, hN0, hU⟩ := H
  have ht := h.2.1
  obtain ⟨o1, o2, o3, o4, o5⟩ := al_O
  obtain ⟨n1, n2, n3, n4, n5, n6⟩ := RIy_n h
  have e3 := h.1.1.1.2.2.1
  have e4 := h.1.1.1.2.2.2.1
  have h25 := h.2.2.2.2.2.2.2
  have hst := (h.1.1.2.2.2.2.1 D (Nat.le_refl _)).2.2.2.2.2.2.2
  have e0 : ev_pI T 621 25 0 = T := by
    have := pI_id (S := T) (k := 621) (f := 25)
    rw [h25] at this
    exact this
  have redC : jm_112 Q S = if (if D = 0 then (1 : Int) else T.1 650 D) = 0 then some (0, S) else (ev_bd (jm_100 Q  S) fun x11 s10 => if x11 ≠ 0 then (ev_b (s10.1 3 6) fun x13 => ev_ck (x13 - 1) fun x14 => ev_b (ev_pI s10 3 6 x14) fun s15 => ev_b (s15.1 3 6) fun x16 => ev_jn (fun (r17 : Nat) (s20 : ev_St) => if (r17 : Nat) = 0 then (some (0, s20)) else (ev_b (ev_pR s20 3 7 r17) fun s22 => ev_b (s22.1 3 6) fun x23 => ev_if ((0 : Int) ≤ x23 ∧ x23 < (ev_aln 16 : Int)) (ev_b (s22.1 16 (Int.toNat x23)) fun x24 => ev_b (ev_pI s22 3 8 x24) fun s25 => some (1, s25)))) fun K82 => ev_jn (fun  (s28 : ev_St) => K82 0 s28) fun K81 => if x16 < 0 then (K81  s15) else (ev_b (s15.1 3 6) fun x30 => if 28 ≤ x30 then (K81  s15) else (ev_b (s15.1 3 6) fun x32 => ev_if ((0 : Int) ≤ x32 ∧ x32 < (28 : Int)) (ev_b (s15.2.2.1 15 (Int.toNat x32)) fun r33 => K82 r33 s15)))) else (some (0, s10))) := by
    unfold jm_112
    rw [e3, sp_b, if_neg (by omega), sp_b, if_neg (by omega), sp_b, sp_if (by omega), sp_b, show 17 + 1 * ((D : Int)).toNat = 17 + D from by omega, hst, sp_b]
  have redR : enR Q T = (ev_jn (fun (x62 : Int) (s65 : ev_St) => ev_if (ev_bl x62) (ev_b (ev_pI s65 621 25 x62) fun s66 => ev_b (s66.1 621 28) fun x68 => ev_ck (x68 - 1) fun x69 => ev_b (ev_pI s66 621 28 x69) fun s70 => ev_b (s70.1 621 25) fun x71 => if x71 ≠ 0 then some ((), s70) else (jm_240 Q  s70))) fun K173 => if T.1 650 D ≠ 0 then (K173 0 T) else (K173 1 T)) := by
    unfold enR
    rw [e4, sp_b, sp_ck (by omega), show (D : Int) + 1 - 1 = (D : Int) from by omega, sp_if (by rw [o5]; omega), Int.toNat_natCast, sp_b]
  have v28 : T.1 621 28 = (lv : Int) + 1 := by
    have := ht.2.2.1.2.1
    omega
  have v36 : S.1 3 6 = (lv : Int) + 1 := by
    have := ht.2.2.1.2.2
    omega
  have l28 := ht.2.2.1.1
  have hl := hg.1
  cases D with
  | zero => exact absurd hl (by show ¬ (0 = lv + 1); omega)
  | succ D =>
    rw [if_neg (show ¬ (D + 1 = 0) by omega)] at redC
    by_cases e5 : T.1 650 (D + 1) = 0
    · rw [if_pos e5] at redC
      refine Or.inl ⟨S, ev_pI (ev_pI T 621 25 1) 621 28 (lv : Int), redC, ?_, by rw [rd_nf (by omega), rd_eq], fun c g z => by unfold LOWc at z; rw [rd_nk (by omega), rd_nk (by omega)], fun _ _ _ _ _ => rfl⟩
      rw [redR, sp_jn, if_neg (fun z => z e5)]
      try dsimp only
      rw [sp_if (show ev_bl 1 from Or.inr rfl), sp_b, rd_nf (by omega), v28, sp_b, sp_ck (by omega), show (lv : Int) + 1 - 1 = (lv : Int) from by omega, sp_b, rd_nf (by omega), rd_eq, sp_b, if_pos (by decide)]
    · rw [if_neg e5] at redC
      obtain ⟨T0, hT0⟩ : ∃ T0, T0 = ev_pI T 621 28 (lv : Int) := ⟨_, rfl⟩
      have t0f : ∀ x g, ¬ (x = 621 ∧ g = 28) → T0.1 x g = T.1 x g := fun x g hx => by rw [hT0, sp_pI1, if_neg hx]
      have hw := RIw_c (S2 := S) (T2 := T0) (RIw_of h) hkr (fun _ _ _ _ => rfl) rfl rfl (fun x g h1 h2 h3 => t0f x g (by omega)) (by rw [hT0]; rfl)
      obtain ⟨S1, T', φ', ψ', own', s1, t1, ⟨hR2, hL2⟩, r1, r2, r3, r4, r5, ⟨r6, r7⟩, r8, r9, rU⟩ := cl_core (Q := Q) hk hkr hw (by
        rw [t0f _ _ (by omega)]
        exact hN0.2.2.1 _ (Nat.le_refl _))
      have hlv := ht.2.2.2.1
      have hw1 := ht.2.2.2.2.1 lv (by omega)
      obtain ⟨S', hS'⟩ : ∃ S', S' = ev_pI (ev_pR (ev_pI S1 3 6 (lv : Int)) 3 7 (ws lv + 1)) 3 8 (T.1 645 lv) := ⟨_, rfl⟩
      have f1 : ∀ x g, ¬ (x = 3 ∧ (g = 6 ∨ g = 8)) → S'.1 x g = S1.1 x g := fun x g hx => by
        rw [hS', sp_pI1, if_neg (by omega)]
        show (ev_pI S1 3 6 (lv : Int)).1 x g = _
        rw [sp_pI1, if_neg (by omega)]
      have f6 : S'.1 3 6 = (lv : Int) := by
        rw [hS', rd_nf (by omega)]
        show (ev_pI S1 3 6 (lv : Int)).1 3 6 = _
        exact rd_eq
      have f8 : S'.1 3 8 = T.1 645 lv := by rw [hS', rd_eq]
      have fR : S'.2.2.1 3 7 = ws lv + 1 := by
        rw [hS']
        show (if (3 : Nat) = 3 ∧ (7 : Nat) = 7 then ws lv + 1 else S1.2.2.1 3 7) = _
        rw [if_pos ⟨rfl, rfl⟩]
      have fR2 : ∀ x g, ¬ (x = 3 ∧ g = 7) → S'.2.2.1 x g = S.2.2.1 x g := fun x g hx => by
        rw [hS']
        show (if x = 3 ∧ g = 7 then ws lv + 1 else S1.2.2.1 x g) = _
        rw [if_neg hx, r7]
      have fL : S'.2.1 = S1.2.1 := by rw [hS']; rfl
      have runC : jm_112 Q S = some (1, S') := by
        rw [redC, s1, sp_bd, if_pos (by decide), r6 3 6 (by omega), v36, sp_b, sp_ck (by omega), show (lv : Int) + 1 - 1 = (lv : Int) from by omega, sp_b, rd_eq, sp_b, sp_jn, sp_jn, if_neg (by omega), sp_b, if_neg (by omega), sp_b, sp_if (by omega), Int.toNat_natCast, show (ev_pI S1 3 6 (lv : Int)).2.2.1 15 lv = ws lv + 1 from by show S1.2.2.1 15 lv = _; rw [r7]; exact hw1.1, sp_b]
        try dsimp only
        rw [if_neg (by omega), sp_b, show (ev_pR (ev_pI S1 3 6 (lv : Int)) 3 7 (ws lv + 1)).1 3 6 = (lv : Int) from (rd_eq : (ev_pI S1 3 6 (lv : Int)).1 3 6 = _), sp_b, sp_if (by rw [show ev_aln 16 = 28 from by decide +kernel]; omega), Int.toNat_natCast, show (ev_pR (ev_pI S1 3 6 (lv : Int)) 3 7 (ws lv + 1)).1 16 lv = T.1 645 lv from by show (ev_pI S1 3 6 (lv : Int)).1 16 lv = _; rw [rd_nk (by omega), r6 16 lv (by omega)]; exact hw1.2, sp_b, sp_b, hS']
      have runR : enR Q T = some ((), T') := by
        rw [redR, sp_jn, if_pos e5]
        try dsimp only
        rw [sp_if (show ev_bl 0 from Or.inl rfl), sp_b, e0, v28, sp_b, sp_ck (by omega), show (lv : Int) + 1 - 1 = (lv : Int) from by omega, sp_b, ← hT0, t0f _ _ (by omega), h25, sp_b, if_neg (fun z => z rfl), t1]
      have tT : ∀ c g, ¬ (c = 621 ∧ (g = 28 ∨ g = 31 ∨ g = 37 ∨ g = 38 ∨ g = 39 ∨ g = 40)) → T'.1 c g = T.1 c g := fun c g hx => by
        rw [r8 c g (by omega), t0f c g (by omega)]
      have sS : ∀ x g, KTs x g → ¬ (x = 3 ∧ g = 6) → S'.1 x g = S.1 x g := fun x g z hx => by
        rw [f1 x g (by unfold KTs at z; omega), r6 x g (by unfold KTs at z; omega)]
      have hw2 := RIw_c (S2 := S') (T2 := T') ⟨⟨hR2, hL2⟩, r1, r2, r3, r4, r5⟩ hkr (fun x g hx _ => f1 x g hx) fL (by rw [fR2 3 9 (by omega), r7]) (fun _ _ _ _ _ => rfl) rfl
      have hRt : RIt lv ws S' T' := by
        obtain ⟨hD, hP, hv, hl', h4, h5, h7⟩ := ht
        have tx : ∀ i, i ≤ lv → isTx (ws i) := fun i hi => (LV_tx hD hP (hl' i (by omega)).1).1
        have c1 : S'.1 1 1 = S.1 1 1 := sS _ _ (Or.inl ⟨rfl, rfl⟩) (by omega)
        have sx : ∀ x g, 169 ≤ x → x < 221 → S'.1 x g = S.1 x g := fun x g h1 h2 => sS x g (Or.inr (Or.inr (Or.inr (Or.inr (Or.inl ⟨h1, h2⟩))))) (by omega)
        have s5 : ∀ g, S'.1 5 g = S.1 5 g := fun g => sS _ _ (Or.inr (Or.inr (Or.inl rfl))) (by omega)
        have s2' : ∀ g, S'.1 2 g = S.1 2 g := fun g => sS _ _ (Or.inr (Or.inl rfl)) (by omega)
        have s16 : ∀ g, S'.1 16 g = S.1 16 g := fun g => sS _ _ (Or.inr (Or.inr (Or.inr (Or.inl rfl)))) (by omega)
        have cw : ∀ i, i ≤ lv → S'.1 (ws i) 1 = S.1 (ws i) 1 := fun i hi => by
          have := tx i hi
          unfold isTx at this
          rcases this with z | z
          · rw [z, c1]
          · exact sx _ _ z.1 z.2
        refine ⟨⟨?_, ?_, fun g hg' => ?_⟩, fun l hl2 => ?_, ⟨by omega, ?_, f6⟩, fun i hi => ⟨?_, ?_⟩, fun i hi => ⟨?_, ?_⟩, ⟨fR, ?_⟩, ?_⟩
        · rw [c1]
          exact hD.1
        · rw [c1, tT _ _ (by omega)]
          exact hD.2.1
        · rw [c1] at hg'
          rw [s2', tT _ _ (by omega)]
          exact hD.2.2 g hg'
        · rw [s5, tT _ _ (by omega), sx _ _ (by omega) (by omega)]
          rcases hP l hl2 with z | ⟨z1, z2, z3, z4⟩
          · exact Or.inl z
          · refine Or.inr ⟨z1, z2, z3, fun g hg' => ?_⟩
            rw [tT _ _ (by omega), sx _ _ (by omega) (by omega)]
            exact z4 g hg'
        · rw [r8 _ _ (by omega), hT0, rd_eq]
        · rcases (hl' i (by omega)).1 with ⟨a, b, c⟩ | ⟨a, l, b, c, d, e⟩
          · exact Or.inl ⟨a, by rw [tT _ _ (by omega), b], c⟩
          · exact Or.inr ⟨a, l, b, by rw [tT _ _ (by omega), c], d, by rw [s5, e]⟩
        · rw [cw i hi, tT _ _ (by omega)]
          exact (hl' i (by omega)).2
        · rw [fR2 _ _ (by omega)]
          exact (h4 i (by omega)).1
        · rw [s16, tT _ _ (by omega)]
          exact (h4 i (by omega)).2
        · rw [f8, tT _ _ (by omega)]
        · rw [sS 3 12 (Or.inr (Or.inr (Or.inr (Or.inr (Or.inr ⟨rfl, Or.inr rfl⟩))))) (by omega), tT _ _ (by omega)]
          exact h7
      refine Or.inr ⟨S', T', runC, runR, ⟨N, M + 2, D, φ', ψ', own', inn, G, R, _, q, y, ⟨hw2.1, hRt, hw2.2.1, hw2.2.2.1, hw2.2.2.2.1, hw2.2.2.2.2.1, hw2.2.2.2.2.2, by rw [tT _ _ (by omega), h25]⟩, ?_, ⟨hN0.1, ?_, fun i hi => ?_, ?_⟩, ?up⟩, fun i => tT _ _ (by omega), fun x g z hx => tT x g (by unfold KTt at z; omega), sS, fun x g hx => fR2 x g (by omega), tT _ _ (by omega), fun c g z => by unfold LOWc at z; exact tT c g (by omega), fun c g x y z => by rw [r9, hT0]; rfl⟩
      case up => exact UPe_c (rU (UPe_c hU h.1.1 (fun b hb => rfl) (fun m c hm hc => t0f _ _ (by omega)))) hR2 (fun b hb => f1 _ _ (by omega)) (fun _ _ _ _ => rfl)
      · have eK : Kt T' = Kt T := funext fun m => tT _ _ (by omega)
        have eX : Xt T' = Xt T := funext fun m => tT _ _ (by omega)
        have eO : T'.1 650 = T.1 650 := funext fun i => tT _ _ (by omega)
        have eV : T'.1 645 = T.1 645 := funext fun i => tT _ _ (by omega)
        rw [eK, eX, eO, eV]
        refine GH_close hg ?_ (fun j hj => Int.le_refl _)
        rw [if_pos e5]
      · rw [tT _ _ (by omega)]
        exact hN0.2.1
      · rw [tT _ _ (by omega)]
        exact hN0.2.2.1 i (by omega)
      · exact RV_c hN0.2.2.2 (fun c m _ _ _ => tT _ _ (by omega)) ⟨tT _ _ (by omega), fun j => tT _ _ (by omega)⟩
end RCLO
