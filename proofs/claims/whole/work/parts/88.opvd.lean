/-! THE READER: a part is included: the token -/
section RINC3
variable {Q k n m w d N M D lv t : Nat} {φ ψ own inn G R ws y : Nat → Nat} {P q : Nat → Int} {S T S0 T0 S1 S' S2 T2 T1 T3 T4 U : ev_St}
/-- the reference's inclusion -/
theorem inc_R {p d e : Int} (ht : RIt lv ws S T) (h25 : T.1 621 25 = 0) (hp : T.1 645 lv = p) (hp0 : 0 ≤ p ∧ p ≤ 200) (hc : sp_at S (ws lv) p = 40) (h1 : sp_at S (ws lv) (p + 1) = 63) (hb : sp_at S (ws lv) (p + 2) = 38) (hd : sp_at S (ws lv) (p + 3) = d) (he : sp_at S (ws lv) (p + 4) = e) (hd0 : -1 ≤ d ∧ d ≤ 1000) {v : Int} {T' : ev_St} (hT : (v = 1 ∧ (ch_l d = 0 ∨ e ≠ 41) ∧ T' = xS lv T (p + 5) 1) ∨ (v = 0 ∧ ch_l d = 1 ∧ e = 41 ∧ jm_260 Q (d - 97) (xS lv T (p + 5) 0) = some ((), T'))) : jm_263 Q T = some ((), T') := by
  have cd0 : ch_d 38 = 0 := by decide
  have body : ∀ w : Int, w = v → (ev_if (ev_bl w) (ev_b (ev_pI (xS lv T (p + 2) 0) 621 25 w) fun s61 => ev_bd (jm_234 Q 3 s61) fun _ s63 => ev_b (s63.1 621 25) fun x64 => if x64 ≠ 0 then (some ((), s63)) else (ev_ck (d - 97) fun x66 => ev_bd (jm_260 Q x66 s63) fun _ s67 => some ((), s67)))) = some ((), T') := fun w hw => by
    rcases hT with ⟨z1, _, z2⟩ | ⟨z1, _, _, z2⟩
    · rw [hw, z1, sp_if (show ev_bl 1 from Or.inr rfl), sp_b, xS_w, xG ht (by omega), sp_bd, sp_b, xS_25, if_pos (by decide), z2, show p + 2 + 3 = p + 5 from by omega]
    · rw [hw, z1, sp_if (show ev_bl 0 from Or.inl rfl), sp_b, xS_w, xG ht (by omega), sp_bd, sp_b, xS_25, if_neg (fun z => z rfl), sp_ck (by omega), show p + 2 + 3 = p + 5 from by omega, z2, sp_bd]
  rw [br_R ht hp.symm hc, if_pos h1, xS_0 h25]
  unfold jm_261
  rw [xT ht (by omega), sp_bd, xT ht (by omega), sp_bd, xT ht (by omega), sp_bd, Int.add_zero, hb, show p + 2 + 1 = p + 3 from by omega, show p + 2 + 2 = p + 4 from by omega, hd, he, sp_jn, if_pos (by omega)]
  try dsimp only
  rw [if_pos (by omega), sp_jn, if_neg (by omega), if_neg (by omega), if_neg (by omega), if_pos (by omega), if_pos (by omega), sp_226, sp_bd, cd0, if_pos rfl, if_neg (by omega), sp_b, xS_25, sp_jn, sp_jn, if_neg (fun z => z rfl), sp_224, sp_bd]
  by_cases z1 : ch_l d = 0
  · rw [if_pos z1]
    try dsimp only
    rw [body 1 (by omega), sp_bd]
  · rw [if_neg z1]
    by_cases z2 : e = 41
    · rw [if_pos z2]
      try dsimp only
      rw [body 0 (by omega), sp_bd]
    · rw [if_neg z2]
      try dsimp only
      rw [body 1 (by omega), sp_bd]
theorem tk_inc {p : Int} (hQ : 400 ≤ Q) (hk : ev_isOb k 5 = true) (hkr : 232 ≤ k) (H : RIy k lv ws N M D φ ψ own inn G R y P q S T) (hp : T.1 645 lv = p) (hc : sp_at S (ws lv) p = 40) (h1 : sp_at S (ws lv) (p + 1) = 63) (hb : sp_at S (ws lv) (p + 2) = 38) (hlv : lv < 27) (hst : ∀ l : Nat, l < 26 → S.1 5 l = 1 → (l : Int) ≠ T.1 621 26 → sp_at S (ws lv) (p + 3) = 97 + (l : Int) → ∀ i, i ≤ lv → T.1 644 i ≠ (l : Int)) : (∃ S' T', jm_85 Q S = some (0, S') ∧ jm_263 Q T = some ((), T') ∧ T'.1 621 25 = 1) ∨ ∃ S' T', ∃ l : Nat, l < 26 ∧ sp_at S (ws lv) (p + 3) = 97 + (l : Int) ∧ S.1 5 l = 1 ∧ (l : Int) ≠ T.1 621 26 ∧ jm_85 Q S = some (1, S') ∧ jm_263 Q T = some ((), T') ∧ RIa k (lv + 1) (nup ws (lv + 1) (169 + 2 * l)) S' T' ∧ INp lv l p S T S' T' ∧ T'.1 621 27 = T.1 621 27 + 1 ∧ LOW T T' := by
  obtain ⟨h, hg, hN0, hUP⟩ := H
  have ht := h.2.1
  have p0 := ht.2.2.2.1 lv (Nat.le_refl _)
  have htx := LV_tx ht.1 ht.2.1 p0.1
  have h120 := htx.2.2.1
  have hin0 := at_in (S := S) (w := ws lv) (p := p) (by omega) (by rw [hc]; decide)
  obtain ⟨n1, n2, n3, n4, n5, n6⟩ := RIy_n h
  have h25 := h.2.2.2.2.2.2.2
  obtain ⟨i1, i2, i3, i4, i5⟩ := al_I
  obtain ⟨d, hd⟩ : ∃ d, sp_at S (ws lv) (p + 3) = d := ⟨_, rfl⟩
  obtain ⟨e, he⟩ : ∃ e, sp_at S (ws lv) (p + 4) = e := ⟨_, rfl⟩
  have hd0 : -1 ≤ d ∧ d ≤ 1000 := by
    have := htx.2.2.2 (p + 3)
    rw [hd] at this
    rcases this with z | z
    · omega
    · have := sp_sign_r z
      omega
  have redC : ∀ {A : Option (Int × ev_St)}, ((∃ S', A = some (0, S')) ∨ ∃ S', A = some (1, S')) → jm_111 Q (ev_pI S 3 8 (p + 1)) = A → jm_85 Q S = A := fun {A} hA hr => by
    rw [br_C ht hp.symm hc]
    unfold jm_102
    rw [pk_Sp ht (by omega), sp_bd, Int.add_zero, h1, if_pos (by decide), pk_Sp ht (by omega), sp_bd, Int.add_zero, h1, if_pos rfl, pk_Sp ht (by omega), sp_bd, show p + 1 + 1 = p + 2 from by omega, hb, if_neg (by decide), if_pos rfl, hr, fin_bd hA]
    exact fin_bd hA
  have refR := fun {v : Int} {T' : ev_St} => inc_R (Q := Q) (v := v) (T' := T') ht h25 hp (by omega) hc h1 hb hd he hd0
  by_cases zl : ch_l d = 0 ∨ e ≠ 41
  · obtain ⟨S', s1⟩ := (inc_C (Q := Q) (L := 0) ht (by omega) hd he (by omega) hlv).1 zl
    exact Or.inl ⟨S', _, redC (Or.inl ⟨S', rfl⟩) s1, refR (v := 1) (Or.inl ⟨rfl, zl, rfl⟩), xS_25⟩
  have hcl : ch_l d = 1 := by
    rcases (ch_l_i d).2 with z | z
    · omega
    · exact z
  have he41 : e = 41 := by omega
  have hdr := (ch_l_i d).1.mp hcl
  obtain ⟨L, hL⟩ : ∃ L : Nat, d = 97 + (L : Int) := ⟨(d - 97).toNat, by omega⟩
  have hL26 : L < 26 := by omega
  have hin := at_in (S := S) (w := ws lv) (p := p + 4) (by omega) (by rw [he]; omega)
  obtain ⟨C1, C2⟩ := (inc_C (Q := Q) (L := L) ht (by omega) hd he (by omega) hlv).2 hL hL26 he41
  have eL : d - 97 = (L : Int) := by omega
  rw [eL] at refR
  have mv : MVd lv (p + 5) S T (ev_pI S 3 8 (p + 5)) (ev_pI T 645 lv (p + 5)) := mv_pI
  have eT0 : xS lv T (p + 5) 0 = ev_pI T 645 lv (p + 5) := (xS_0 h25).symm
  rw [eT0] at refR
  have h0 := RIb_mv h hkr mv (by omega)
  have v28 : (ev_pI T 645 lv (p + 5)).1 621 28 = (lv : Int) := (rd_nk (by omega)).trans ht.2.2.1.2.1
  have v26 : (ev_pI T 645 lv (p + 5)).1 621 26 = T.1 621 26 := rd_nk (by omega)
  have h5 := ht.2.1 L hL26
  have h623 : (ev_pI T 645 lv (p + 5)).1 623 L = T.1 623 L := rd_nk (by omega)
  have run260 : ∀ {X : Option (Unit × ev_St)}, (∀ x' : Int, (x' = 0 ∨ x' = 1) → ((S.1 5 L = 1 ∧ (L : Int) ≠ T.1 621 26) → x' = 1) → (S.1 5 L = 0 → x' = 0) → (if x' = 0 then (ev_b (ev_pI (ev_pI T 645 lv (p + 5)) 621 25 1) fun s18 => some ((), s18)) else (ev_b ((ev_pI T 645 lv (p + 5)).1 621 26) fun x19 => if x19 = (L : Int) then (ev_b (ev_pI (ev_pI T 645 lv (p + 5)) 621 25 1) fun s21 => some ((), s21)) else (ev_b ((ev_pI T 645 lv (p + 5)).1 621 28) fun x22 => if x22 ≠ 27 then (ev_bd (jm_237 Q 9 (ev_pI T 645 lv (p + 5))) fun x25 s24 => ev_bd (jm_239 Q x25 1 s24) fun _ s26 => ev_b (s26.1 621 28) fun x27 => ev_ck (x27 + 1) fun x28 => ev_b (ev_pI s26 621 28 x28) fun s29 => ev_b (s29.1 621 28) fun x30 => ev_if ((0 : Int) ≤ x30 ∧ x30 < (ev_aln 644 : Int)) (ev_b (ev_pI s29 644 (Int.toNat x30) (L : Int)) fun s31 => ev_b (s31.1 621 28) fun x32 => ev_if ((0 : Int) ≤ x32 ∧ x32 < (ev_aln 645 : Int)) (ev_b (ev_pI s31 645 (Int.toNat x32) 0) fun s33 => some ((), s33)))) else (ev_b (ev_pI (ev_pI T 645 lv (p + 5)) 621 25 1) fun s34 => some ((), s34))))) = X) → jm_260 Q (L : Int) (ev_pI T 645 lv (p + 5)) = X := fun {X} hX => by
    unfold jm_260
    rw [sp_if (by rw [i1]; omega), Int.toNat_natCast, sp_b, h623, sp_jn]
    by_cases z : T.1 623 L = -1
    · rw [if_pos z]
      try dsimp only
      exact inc_loop v28 (by omega) (lv + 1) Q 0 0 (by omega) (by omega) (by omega) (Or.inl rfl) (fun x' a1 a2 a3 => hX x' a1 (fun y => by rcases h5 with w | w <;> omega) (fun _ => a3 rfl))
    · rw [if_neg z]
      try dsimp only
      refine inc_loop v28 (by omega) (lv + 1) Q 0 1 (by omega) (by omega) (by omega) (Or.inr rfl) (fun x' a1 a2 a3 => hX x' a1 (fun y => a2 ⟨rfl, fun i _ hi => ?_⟩) (fun y => by rcases h5 with w | w <;> omega))
      rw [show (ev_pI T 645 lv (p + 5)).1 644 i = T.1 644 i from rd_nk (by omega)]
      exact hst L hL26 y.1 y.2 (by rw [hd, hL]) i hi
  by_cases z1 : (L : Int) = T.1 621 26
  · obtain ⟨S', s1⟩ := C1 (Or.inl z1)
    refine Or.inl ⟨S', ev_pI (ev_pI T 645 lv (p + 5)) 621 25 1, redC (Or.inl ⟨S', rfl⟩) s1, refR (v := 0) (Or.inr ⟨rfl, hcl, he41, run260 fun x' a1 a2 a3 => ?_⟩), rd_eq⟩
    rcases a1 with w | w
    · rw [if_pos w, sp_b]
    · rw [if_neg (by omega), sp_b, v26, if_pos z1.symm, sp_b]
  by_cases z2 : S.1 5 L = 0
  · obtain ⟨S', s1⟩ := C1 (Or.inr (Or.inl z2))
    refine Or.inl ⟨S', ev_pI (ev_pI T 645 lv (p + 5)) 621 25 1, redC (Or.inl ⟨S', rfl⟩) s1, refR (v := 0) (Or.inr ⟨rfl, hcl, he41, run260 fun x' a1 a2 a3 => ?_⟩), rd_eq⟩
    rw [if_pos (a3 z2), sp_b]
  have z5 : S.1 5 L = 1 := by
    rcases h5 with w | w
    · omega
    · exact w.1
  obtain ⟨T1, t1, u⟩ := tk_add (Q := Q) 9 h hkr mv (by omega)
  have e4 := h.1.1.1.2.2.2.1
  have e27 : (ev_pI T 645 lv (p + 5)).1 621 27 = T.1 621 27 := rd_nk (by omega)
  have e25 : (ev_pI T 645 lv (p + 5)).1 621 25 = 0 := (rd_nk (by omega)).trans h25
  have e31 : T1.1 621 31 = T.1 621 31 := by rw [ADr_o u (by omega) (by omega) (by omega), rd_nk (by omega)]
  have e28 : T1.1 621 28 = (lv : Int) := by rw [ADr_o u (by omega) (by omega) (by omega), v28]
  obtain ⟨T3, t3, hO⟩ := sp_239 (Q := Q) (T := T1) (d := D + 1) (m := N + 1) (n := N) (tx := 1) (by rw [e31, e4]; omega) (by omega) (by rw [u.1.1]; omega) (by omega) (by omega) (Or.inr rfl)
  have hO : OPr (D + 1) N (N + 1) 1 T1 T3 := hO
  have v25 : T3.1 621 25 = if T.1 621 27 < 150 then 0 else 1 := by
    rw [hO.2.2.2.2.1 _ _ (by omega) (by omega) (by omega) (by omega) (by omega), u.1.2.2.1, e25, e27]
    by_cases z : T.1 621 27 < 150
    · rw [if_pos z, if_pos ⟨rfl, z⟩]
    · rw [if_neg z, if_neg (fun y => z y.2)]
  have w28 : T3.1 621 28 = (lv : Int) := by rw [hO.2.2.2.2.1 _ _ (by omega) (by omega) (by omega) (by omega) (by omega), e28]
  obtain ⟨T4, hT4⟩ : ∃ T4, T4 = ev_pI (ev_pI (ev_pI T3 621 28 ((lv : Int) + 1)) 644 (lv + 1) (L : Int)) 645 (lv + 1) 0 := ⟨_, rfl⟩
  have runR : jm_263 Q T = some ((), T4) := refR (v := 0) (Or.inr ⟨rfl, hcl, he41, run260 fun x' a1 a2 a3 => by
    rw [if_neg (by have := a2 ⟨z5, z1⟩; omega), sp_b, v26, if_neg (fun z => z1 z.symm), sp_b, v28, if_pos (by omega), t1, sp_bd, t3, sp_bd, sp_b, w28, sp_ck (by omega), sp_b, sp_b, rd_eq, sp_if (by rw [i4]; omega), show ((lv : Int) + 1).toNat = lv + 1 from by omega, sp_b, sp_b, rd_nk (by omega), rd_eq, sp_if (by rw [i5]; omega), show ((lv : Int) + 1).toNat = lv + 1 from by omega, sp_b, ← hT4]⟩)
  have q4 : ∀ c g, ¬ (c = 621 ∧ g = 28) → ¬ (c = 644 ∧ g = lv + 1) → ¬ (c = 645 ∧ g = lv + 1) → T4.1 c g = T3.1 c g := fun c g a b c' => by
    rw [hT4, sp_pI1, if_neg c', sp_pI1, if_neg b, sp_pI1, if_neg a]
  by_cases z3 : 150 ≤ S.1 3 14
  · obtain ⟨S', s1⟩ := C1 (Or.inr (Or.inr z3))
    exact Or.inl ⟨S', T4, redC (Or.inl ⟨S', rfl⟩) s1, runR, by rw [q4 _ _ (by omega) (by omega) (by omega), v25, if_neg (by omega)]⟩
  have lt : S.1 3 14 < 150 := by omega
  have e3 := h.1.1.1.2.2.1
  obtain ⟨B1, hB1⟩ : ∃ B1, B1 = ev_pI (ev_pI S 3 8 (p + 5)) 3 14 (S.1 3 14 + 1) := ⟨_, rfl⟩
  have b14 : B1.1 3 14 = S.1 3 14 + 1 := by rw [hB1, rd_eq]
  have bo : ∀ x g, ¬ (x = 3 ∧ (g = 8 ∨ g = 14)) → B1.1 x g = S.1 x g := fun x g hx => by rw [hB1, sp_pI1, if_neg (by omega), sp_pI1, if_neg (by omega)]
  have bR : B1.2 = S.2 := by rw [hB1]; rfl
  obtain ⟨U, hU⟩ : ∃ U, U = incS S p lv (ws lv) L := ⟨_, rfl⟩
  have uo : ∀ x g, ¬ (x = 3 ∧ (g = 6 ∨ g = 8 ∨ g = 14)) → ¬ (x = 16 ∧ g = lv) → U.1 x g = S.1 x g := fun x g a b => by rw [hU]; exact incS_1 a b
  have u6 : U.1 3 6 = (lv : Int) + 1 := by rw [hU]; exact incS_6
  have u8 : U.1 3 8 = 0 := by rw [hU]; exact rd_eq
  have u14 : U.1 3 14 = S.1 3 14 + 1 := by rw [hU]; exact incS_14
  have u16 : U.1 16 lv = p + 5 := by rw [hU]; exact incS_16
  have uR : ∀ x g, U.2.2.1 x g = if x = 3 ∧ g = 7 then 169 + 2 * L + 1 else if x = 15 ∧ g = lv then ws lv + 1 else S.2.2.1 x g := fun x g => by rw [hU]; exact incS_R
  have uL : U.2.1 = S.2.1 := by rw [hU]; exact incS_L
  obtain ⟨S', s1, s2⟩ := sp_98 (Q := Q) (a := 17) (b := 0) (c := 1) (d := D + 1) (S := U) (by rw [uo _ _ (by omega) (by omega), e3]; omega) (by omega) (Or.inr rfl)
  have s2 : BGc (D + 1) 17 0 1 U S' := s2
  obtain ⟨S2, _, s4⟩ := sp_98 (Q := Q) (a := 17) (b := 0) (c := 1) (d := D + 1) (S := B1) (by rw [bo _ _ (by omega), e3]; omega) (by omega) (Or.inr rfl)
  have s4 : BGc (D + 1) 17 0 1 B1 S2 := s4
  have runC : jm_85 Q S = some (1, S') := redC (Or.inr ⟨S', rfl⟩) (C2 z1 z5 lt S' (by rw [← hU]; exact s1))
  obtain ⟨s0, rc, hs, hrc, k1, k2, k3⟩ := RDR_lk h0.1.1
  have f1 := u.2.2.1
  rw [k1, k2] at f1
  have u38 := u.1.2.2.2.2.2
  rw [k1, k2] at u38
  have hO' := hO
  obtain ⟨⟨p1, p2, p3, p4, p5⟩, ⟨o1, o2, o3, o4, o5⟩, ⟨r1, r2, r3, r4, r5, r6⟩, g1, g2, g3, g4⟩ := hO'
  have off := fun {e f : Nat} => op_off (e := e) (f := f) u (fun _ _ _ _ _ _ => rfl) hO
  have s4' := s4
  obtain ⟨_, _, b8, b9⟩ := s4'
  have hw := op_w (S1 := B1) (yv := 0) (ng := 0) (c := 9) (f := 0) (x := 17) (b := 1) (RIw_of h0) hkr (by rw [rd_nk (by omega)]; exact (hN0.2.2.1 D (Nat.le_refl _)).1) (by omega) rfl (fun _ => rfl) (by rw [e27]; omega) (fun x g h1 h2 h3 => by
    rw [hB1, sp_pI1, if_neg h1]) (by rw [hB1, rd_nk (by omega)]) (by rw [b14, rd_nf (by omega)]) (by rw [hB1]; rfl) u ⟨u.2.1.2.2.2.1, u.2.1.2.2.2.2.1⟩ (fun _ _ _ _ _ _ => rfl) rfl hO s4 (RIg_open (c := 9) h0.1.1 h0.2.2.1 hkr (by omega) ⟨by
      rw [b8 _ _ (by omega) (by omega), bo _ _ (by omega), rd_nk (by omega)], fun g => by
      rw [b8 _ _ (by omega) (by omega), bo _ _ (by omega), rd_nk (by omega)], fun g => by
      rw [b8 _ _ (by omega) (by omega), bo _ _ (by omega), rd_nk (by omega)]⟩ (fun g => ⟨by
      rw [g2 _ _ (by omega) (by omega) (by omega) (by omega) (by omega), f1 _ _ (by omega) (by omega) (by omega) (by omega)], by
      rw [g2 _ _ (by omega) (by omega) (by omega) (by omega) (by omega), f1 _ _ (by omega) (by omega) (by omega) (by omega)], by
      rw [g2 _ _ (by omega) (by omega) (by omega) (by omega) (by omega), f1 _ _ (by omega) (by omega) (by omega) (by omega)]⟩) (fun g hg => ⟨by
      rw [g2 _ _ (by omega) (by omega) (by omega) (by omega) (by omega), f1 _ _ (by omega) (by omega) (by omega) (by omega)], by
      rw [g2 _ _ (by omega) (by omega) (by omega) (by omega) (by omega), f1 _ _ (by omega) (by omega) (by omega) (by omega)]⟩) (by
      rw [g2 _ _ (by omega) (by omega) (by omega) (by omega) (by omega), u.2.1.1]))
  have hw2 := RIw_c (S2 := S') (T2 := T4) hw hkr (fun x g a b => BGc_cmp s4 s2 (by rw [uo _ _ (by omega) (by omega), bo _ _ (by omega)]) (by
    by_cases z : x = 3 ∧ g = 14
    · rw [z.1, z.2, u14, b14]
    · rw [uo _ _ (by omega) (by omega), bo _ _ (by omega)])) (by rw [s2.2.2.2, b9, uL, bR]) (by rw [s2.2.2.2, b9, uR, if_neg (by omega), if_neg (by omega), bR]) (fun x g a b c => q4 x g (by omega) (by omega) (by omega)) (by rw [hT4]; rfl)
  have to : ∀ c g, c ≤ 650 → ¬ (c = 635 ∧ g = 12) → ¬ (625 ≤ c ∧ c ≤ 632) → ¬ (c = 621 ∧ (g = 25 ∨ g = 27 ∨ g = 28 ∨ g = 31 ∨ g = 37 ∨ g = 38 ∨ g = 39)) → ¬ (646 ≤ c ∧ c ≤ 650 ∧ g = D + 1) → c ≠ 636 → c ≠ 637 → c ≠ 638 → ¬ (c = 645 ∧ (g = lv ∨ g = lv + 1)) → ¬ (c = 644 ∧ g = lv + 1) → T4.1 c g = T.1 c g := fun c g h0 h1 h2 h3 h4 h5 h6 h7 h8 h9 => by
    rw [q4 c g (by omega) (by omega) (by omega), off h1 h2 (by omega) h4 ⟨h5, h6, h7⟩, sp_pI1, if_neg (by omega)]
  have gt : ∀ c g, 625 ≤ c → c ≤ 632 → g < N → ¬ (c = rc ∧ g = s0) → T4.1 c (3840 + g) = T.1 c (3840 + g) := fun c g h1 h2 h3 h4 => by
    rw [q4 c _ (by omega) (by omega) (by omega), g2 c _ (by omega) (by omega) (by omega) (by omega) (by omega), f1 c _ (by omega) (by omega) (by omega) (by omega), sp_pI1, if_neg (by omega)]
  have v645 : T4.1 645 lv = p + 5 := by
    rw [q4 _ _ (by omega) (by omega) (by omega), g2 _ _ (by omega) (by omega) (by omega) (by omega) (by omega), f1 _ _ (by omega) (by omega) (by omega) (by omega), rd_eq]
  have w645 : T4.1 645 (lv + 1) = 0 := by rw [hT4, rd_eq]
  have w644 : T4.1 644 (lv + 1) = (L : Int) := by rw [hT4, rd_nk (by omega), rd_eq]
  have x28 : T4.1 621 28 = (lv : Int) + 1 := by rw [hT4, rd_nk (by omega), rd_nk (by omega), rd_eq]
  have sK : ∀ x g, ¬ (x = 3 ∧ (g = 6 ∨ g = 8 ∨ g = 10 ∨ g = 13 ∨ g = 14)) → ¬ (x = 16 ∧ g = lv) → ¬ (17 ≤ x ∧ x < 169) → S'.1 x g = S.1 x g := fun x g a b c => by
    rw [s2.2.2.1 x g (by omega) (by omega), uo x g (by omega) b]
  have sR : ∀ x g, S'.2.2.1 x g = if x = 3 ∧ g = 7 then 169 + 2 * L + 1 else if x = 15 ∧ g = lv then ws lv + 1 else S.2.2.1 x g := fun x g => by rw [s2.2.2.2]; exact uR x g
  have s6 : S'.1 3 6 = (lv : Int) + 1 := by rw [s2.2.2.1 3 6 (by omega) (by omega), u6]
  have s8 : S'.1 3 8 = 0 := by rw [s2.2.2.1 3 8 (by omega) (by omega), u8]
  have s16 : S'.1 16 lv = p + 5 := by rw [s2.2.2.1 16 lv (by omega) (by omega), u16]
  have hRt : RIt (lv + 1) (nup ws (lv + 1) (169 + 2 * L)) S' T4 := by
    obtain ⟨hD, hP, hv, hl', h4, h5', h7⟩ := ht
    have tx : ∀ i, i ≤ lv → isTx (ws i) := fun i hi => (LV_tx hD hP (hl' i (by omega)).1).1
    have cw : ∀ i, i ≤ lv → S'.1 (ws i) 1 = S.1 (ws i) 1 := fun i hi => by
      have := tx i hi
      unfold isTx at this
      exact sK _ _ (by omega) (by omega) (by omega)
    refine ⟨⟨?_, ?_, fun g hg' => ?_⟩, fun l hl2 => ?_, ⟨by omega, ?_, ?_⟩, fun i hi => ?_, fun i hi => ?_, ⟨?_, ?_⟩, ?_⟩
    · rw [sK 1 1 (by omega) (by omega) (by omega)]
      exact hD.1
    · rw [sK 1 1 (by omega) (by omega) (by omega), to _ _ (by omega) (by omega) (by omega) (by omega) (by omega) (by omega) (by omega) (by omega) (by omega) (by omega)]
      exact hD.2.1
    · rw [sK 1 1 (by omega) (by omega) (by omega)] at hg'
      rw [sK 2 g (by omega) (by omega) (by omega), to _ _ (by omega) (by omega) (by omega) (by omega) (by omega) (by omega) (by omega) (by omega) (by omega) (by omega)]
      exact hD.2.2 g hg'
    · rw [sK 5 l (by omega) (by omega) (by omega), to _ _ (by omega) (by omega) (by omega) (by omega) (by omega) (by omega) (by omega) (by omega) (by omega) (by omega), sK (169 + 2 * l) 1 (by omega) (by omega) (by omega)]
      rcases hP l hl2 with z | ⟨z1, z2, z3, z4⟩
      · exact Or.inl z
      · refine Or.inr ⟨z1, z2, z3, fun g hg' => ?_⟩
        rw [to _ _ (by omega) (by omega) (by omega) (by omega) (by omega) (by omega) (by omega) (by omega) (by omega) (by omega), sK _ _ (by omega) (by omega) (by omega)]
        exact z4 g hg'
    · rw [x28]
      omega
    · rw [s6]
      omega
    · by_cases e : i = lv + 1
      · subst e
        rw [nup_eq, w645]
        refine ⟨Or.inr ⟨by omega, L, hL26, w644, rfl, by rw [sK 5 L (by omega) (by omega) (by omega), z5]⟩, Int.le_refl _, ?_⟩
        rw [sK _ _ (by omega) (by omega) (by omega)]
        rcases hP L hL26 with w | w
        · omega
        · exact w.2.1.1
      · have hi' : i ≤ lv := by omega
        have q := hl' i hi'
        rw [nup_ne e, cw i hi']
        refine ⟨?_, ?_⟩
        · rcases q.1 with ⟨a, b, c⟩ | ⟨a, l, b, c, d', e'⟩
          · exact Or.inl ⟨a, by rw [to _ _ (by omega) (by omega) (by omega) (by omega) (by omega) (by omega) (by omega) (by omega) (by omega) (by omega), b], c⟩
          · exact Or.inr ⟨a, l, b, by rw [to _ _ (by omega) (by omega) (by omega) (by omega) (by omega) (by omega) (by omega) (by omega) (by omega) (by omega), c], d', by rw [sK 5 l (by omega) (by omega) (by omega), e']⟩
        · by_cases e2 : i = lv
          · rw [e2, v645]
            omega
          · rw [to _ _ (by omega) (by omega) (by omega) (by omega) (by omega) (by omega) (by omega) (by omega) (by omega) (by omega)]
            exact q.2
    · rw [nup_ne (by omega), sR, if_neg (by omega)]
      by_cases e2 : i = lv
      · rw [if_pos ⟨rfl, e2⟩, e2, s16, v645]
        exact ⟨rfl, rfl⟩
      · rw [if_neg (by omega), sK 16 i (by omega) (by omega) (by omega), to _ _ (by omega) (by omega) (by omega) (by omega) (by omega) (by omega) (by omega) (by omega) (by omega) (by omega)]
        exact h4 i (by omega)
    · rw [nup_eq, sR, if_pos ⟨rfl, rfl⟩]
    · rw [s8, w645]
    · rw [sK 3 12 (by omega) (by omega) (by omega), to _ _ (by omega) (by omega) (by omega) (by omega) (by omega) (by omega) (by omega) (by omega) (by omega) (by omega)]
      exact h7
  refine Or.inr ⟨S', T4, L, hL26, by rw [hd, hL], z5, z1, runC, runR, ⟨N + 2, M, D + 1, φ, ψ, own, _, _, _, _, _, nup y N (T.1 645 lv).toNat, ⟨hw2.1, hRt, hw2.2.1, hw2.2.2.1, hw2.2.2.2.1, hw2.2.2.2.2.1, hw2.2.2.2.2.2, ?_⟩, ?_, ⟨by omega, ?_, fun i hi => ?_, ?_⟩, ?up⟩, ⟨v645, w645, fun i a b => ?_, w644, fun x g z a b => ?_, fun x g z a b => ?_⟩, ?_, fun c g z => ?_, fun c g x y z => ?_⟩
  case up =>
    refine UL_open (s0 := s0) (rc := rc) hUP h.1.1 h.1.2.1 hs k3 (fun m c hm hc he => gt c m (by omega) (by omega) hm (by omega)) ?_ ⟨?_, ?_⟩ ⟨?_, ?_⟩ (fun b hb => sK _ _ (by omega) (by omega) (by omega))
    · rw [q4 _ _ (by omega) (by omega) (by omega), g2 _ _ (by omega) (by omega) (by omega) (by omega) (by omega), u38]
    · rw [q4 _ _ (by omega) (by omega) (by omega), g1]
      omega
    · rw [q4 _ _ (by omega) (by omega) (by omega), g2 _ _ (by omega) (by omega) (by omega) (by omega) (by omega), u.2.1.2.2.1]
    · rw [q4 _ _ (by omega) (by omega) (by omega), r2]
    · rw [q4 _ _ (by omega) (by omega) (by omega), r3]
  · rw [q4 _ _ (by omega) (by omega) (by omega), v25, if_pos (by omega)]
  · have qq := GH_open (x := 1) (K2 := Kt T4) (X2 := Xt T4) (V2 := T4.1 645) (O2 := T4.1 650) (G2 := nup G (D + 1) N) (P2 := iup P (D + 1) (-1)) hg hN0.1 (fun m hm => gt 625 m (by omega) (by omega) hm (by omega)) (fun m hm => ?_) ?_ ?_ ?_ p0.2.1 ?_ (by rw [v645]; omega) (fun j hj => ?_) (fun i h1 h2 => ?_) ?_ (fun i hi => nup_ne (by omega)) nup_eq (fun i hi => iup_ne (by omega)) iup_eq
    · rw [if_pos (by decide)] at qq
      exact qq
    · rcases k3 with ⟨z1, z2, z3⟩ | ⟨z1, z2⟩
      · exact Or.inl (gt 627 m (by omega) (by omega) hm (by omega))
      · by_cases e : m = s0
        · refine Or.inr ⟨by omega, ?_⟩
          show T4.1 627 (3840 + m) = _
          rw [q4 _ _ (by omega) (by omega) (by omega), g2 _ _ (by omega) (by omega) (by omega) (by omega) (by omega), e, ← z2, u38]
        · exact Or.inl (gt 627 m (by omega) (by omega) hm (by omega))
    · show T4.1 625 (3840 + N) ≠ 18
      rw [q4 _ _ (by omega) (by omega) (by omega), g2 _ _ (by omega) (by omega) (by omega) (by omega) (by omega), u.2.1.1]
      omega
    · show T4.1 625 (3840 + (N + 1)) = 18
      rw [q4 _ _ (by omega) (by omega) (by omega)]
      exact r1
    · show T4.1 627 (3840 + N) = -1
      rw [q4 _ _ (by omega) (by omega) (by omega), g2 _ _ (by omega) (by omega) (by omega) (by omega) (by omega), u.2.1.2.2.1]
    · rw [v645, show Kt T4 N = 9 from by show T4.1 625 (3840 + N) = _; rw [q4 _ _ (by omega) (by omega) (by omega), g2 _ _ (by omega) (by omega) (by omega) (by omega) (by omega), u.2.1.1], hp]
      show p + ((3 : Nat) : Int) ≤ _
      omega
    · exact to _ _ (by omega) (by omega) (by omega) (by omega) (by omega) (by omega) (by omega) (by omega) (by omega) (by omega)
    · exact to _ _ (by omega) (by omega) (by omega) (by omega) (by omega) (by omega) (by omega) (by omega) (by omega) (by omega)
    · rw [q4 _ _ (by omega) (by omega) (by omega)]
      exact o5
  · have z := gt 625 0 (by omega) (by omega) (by have := hN0.1; omega) (by omega)
    exact z.trans hN0.2.1
  · by_cases e : i = D + 1
    · rw [e, q4 _ _ (by omega) (by omega) (by omega), o4, f1 _ _ (by omega) (by omega) (by omega) (by omega), rd_nk (by omega)]
      exact h.2.2.2.2.1.2
    · rw [to _ _ (by omega) (by omega) (by omega) (by omega) (by omega) (by omega) (by omega) (by omega) (by omega) (by omega)]
      exact hN0.2.2.1 i (by omega)
  · refine RV_open hN0.2.2.2 (fun c m a b x y hm => gt c m a b hm (by omega)) (fun m c hm hc => ?_) ⟨?_, fun j _ _ => ?_⟩ ?_ ?_ (fun z => ?_) ⟨?_, ?_⟩ ⟨by rw [q4 _ _ (by omega) (by omega) (by omega), g1]; omega, by rw [q4 _ _ (by omega) (by omega) (by omega), g2 _ _ (by omega) (by omega) (by omega) (by omega) (by omega), u.2.1.2.2.1]⟩ ⟨by rw [q4 _ _ (by omega) (by omega) (by omega), r2], by rw [q4 _ _ (by omega) (by omega) (by omega), r3]⟩ (by rw [q4 625 _ (by omega) (by omega) (by omega), g2 625 _ (by omega) (by omega) (by omega) (by omega) (by omega), u.2.1.1]; decide)
    · by_cases e : c = rc ∧ m = s0
      · refine Or.inr ⟨?_, LKc_i (lk_kd h.1.1 k3) e (by rw [q4 625 _ (by omega) (by omega) (by omega), g2 625 _ (by omega) (by omega) (by omega) (by omega) (by omega), u.2.1.1]; decide)⟩
        rw [q4 _ _ (by omega) (by omega) (by omega), g2 _ _ (by omega) (by omega) (by omega) (by omega) (by omega), e.1, e.2, u38]
      · exact Or.inl (gt c m (by omega) (by omega) hm e)
    · rw [q4 _ _ (by omega) (by omega) (by omega), g2 _ _ (by omega) (by omega) (by omega) (by omega) (by omega), f1 _ _ (by omega) (by omega) (by omega) (by omega), rd_nk (by omega)]
      exact Int.le_refl _
    · rw [q4 _ _ (by omega) (by omega) (by omega), g2 _ _ (by omega) (by omega) (by omega) (by omega) (by omega), f1 _ _ (by omega) (by omega) (by omega) (by omega), rd_nk (by omega)]
    · rw [q4 625 _ (by omega) (by omega) (by omega), g2 625 _ (by omega) (by omega) (by omega) (by omega) (by omega), u.2.1.1, q4 629 _ (by omega) (by omega) (by omega), g2 629 _ (by omega) (by omega) (by omega) (by omega) (by omega), u.2.1.2.2.2.2.1]
      exact nv_p (by omega) (by omega) (fun z => by omega) (fun _ => by rw [q4 628 _ (by omega) (by omega) (by omega), g2 628 _ (by omega) (by omega) (by omega) (by omega) (by omega), u.2.1.2.2.2.1])
    · rw [q4 _ _ (by omega) (by omega) (by omega), g2 _ _ (by omega) (by omega) (by omega) (by omega) (by omega), u.2.1.2.2.2.2.2.1]
    · rw [q4 625 _ (by omega) (by omega) (by omega), g2 625 _ (by omega) (by omega) (by omega) (by omega) (by omega), u.2.1.1] at z
      omega
    · rw [q4 _ _ (by omega) (by omega) (by omega)]
      exact r1
    · rw [q4 _ _ (by omega) (by omega) (by omega)]
      exact r6
  · exact to _ _ (by omega) (by omega) (by omega) (by omega) (by omega) (by omega) (by omega) (by omega) (by omega) (by omega)
  · exact to x g (by unfold KTt at z; omega) (by unfold KTt at z; omega) (by unfold KTt at z; omega) (by unfold KTt at z; omega) (by unfold KTt at z; omega) (by unfold KTt at z; omega) (by unfold KTt at z; omega) (by unfold KTt at z; omega) (by unfold KTt at z; omega) (by omega)
  · exact sK x g (by unfold KTs at z; omega) b (by unfold KTs at z; omega)
  · rw [q4 _ _ (by omega) (by omega) (by omega), g2 _ _ (by omega) (by omega) (by omega) (by omega) (by omega), u.1.2.1, e27]
  · unfold LOWc at z
    rw [q4 c g (by omega) (by omega) (by omega), g2 c g (by omega) (by omega) (by omega) (by omega) (by omega), f1 c g (by omega) (by omega) (by omega) (by omega), rd_nk (by omega)]
  · rw [show T4.2 = T3.2 from by rw [hT4]; rfl, g3 c g (by omega), u.2.2.2.1 c g (by omega)]
    rfl
end RINC3
