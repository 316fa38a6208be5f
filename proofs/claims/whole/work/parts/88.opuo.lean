/-! THE READER: calls and verbs -/
section RPAR4
variable {Q k n m w d N M D lv t : Nat} {φ ψ own inn G R ws y : Nat → Nat} {P q : Nat → Int} {S T S0 T0 S1 S' S2 T2 T1 T3 U : ev_St}
/-- what is no part of what stands in "(?" is told by the class's call alone -/
theorem df_C {p b : Int} (ht : RIt lv ws S T) (hp : p = T.1 645 lv) (hp1 : 0 ≤ p ∧ p ≤ 200) (hc : sp_at S (ws lv) p = 40) (h1 : sp_at S (ws lv) (p + 1) = 63) (hb : sp_at S (ws lv) (p + 2) = b) (hn : b ≠ 33 ∧ b ≠ 38 ∧ b ≠ 40 ∧ b ≠ 45 ∧ b ≠ 105 ∧ b ≠ 109 ∧ b ≠ 115 ∧ b ≠ 58 ∧ b ≠ 60 ∧ b ≠ 61 ∧ b ≠ 62) {A : Option (Int × ev_St)} (hA : (∃ S', A = some (0, S')) ∨ ∃ S', A = some (1, S')) (hr : jm_107 Q (ev_pI S 3 8 (p + 1)) = A) : jm_85 Q S = A := by
  rw [br_C ht hp hc]
  unfold jm_102
  rw [pk_Sp ht (by omega), sp_bd, Int.add_zero, h1, if_pos (by decide), pk_Sp ht (by omega), sp_bd, Int.add_zero, h1, if_pos rfl, pk_Sp ht (by omega), sp_bd, show p + 1 + 1 = p + 2 from by omega, hb, if_neg hn.1, if_neg hn.2.1, if_neg hn.2.2.1, if_neg (by omega), if_neg (by omega), if_neg (by omega), if_neg (by omega), if_neg (by omega), hr, fin_bd hA]
  exact fin_bd hA
theorem tk_call {p b : Int} (hk : ev_isOb k 5 = true) (hkr : 232 ≤ k) (H : RIy k lv ws N M D φ ψ own inn G R y P q S T) (hp : T.1 645 lv = p) (hc : sp_at S (ws lv) p = 40) (h1 : sp_at S (ws lv) (p + 1) = 63) (hb : sp_at S (ws lv) (p + 2) = b) (hd : 48 ≤ b ∧ b ≤ 57) : TK0 k lv ws (p + 4) S T (jm_85 Q S) (jm_263 Q T) := by
  have ht := H.1.2.1
  have hp0 := (ht.2.2.2.1 lv (Nat.le_refl _)).2.1
  have hin := at_in (S := S) (w := ws lv) (p := p + 2) (by omega) (by rw [hb]; omega)
  have h120 := (LV_tx ht.1 ht.2.1 (ht.2.2.2.1 lv (Nat.le_refl _)).1).2.2.1
  obtain ⟨l1, l2, l3, l4, l5, l6, l7, l8, l9, l10, l11⟩ := al_N
  obtain ⟨n1, n2, n3, n4, n5, n6⟩ := RIy_n H.1
  have h25 := H.1.2.2.2.2.2.2.2
  have hcd : ch_d b = 1 := (ch_d_i b).1.mpr hd
  obtain ⟨ee, he⟩ : ∃ ee, sp_at S (ws lv) (p + 3) = ee := ⟨_, rfl⟩
  have tl : ∀ (v : Int) (T1 : ev_St), v = 0 ∨ v = 1 → jm_237 Q 14 (xS lv T (p + 4) v) = some ((N : Int), T1) → ((v = 0 ∧ ee = 41) ∨ (v = 1 ∧ ee ≠ 41)) → jm_263 Q T = some ((), ev_pI T1 628 (3840 + N) (b - 48)) := fun v T1 hv t1 hbb => by
    have body : ∀ v : Int, v = 0 ∨ v = 1 → jm_237 Q 14 (xS lv T (p + 4) v) = some ((N : Int), T1) → (ev_if (ev_bl v) (ev_b (ev_pI (xS lv T (p + 2) 0) 621 25 v) fun s83 => ev_bd (jm_234 Q 2 s83) fun _ s85 => ev_bd (jm_237 Q 14 s85) fun x87 s86 => ev_bd (jm_232 Q  s86) fun x89 s88 => ev_ck (x89 + x87) fun x90 => ev_ck (b - 48) fun x91 => ev_if ((0 : Int) ≤ x90 ∧ x90 < (ev_aln 628 : Int)) (ev_b (ev_pI s88 628 (Int.toNat x90) x91) fun s92 => some ((), s92)))) = some ((), ev_pI T1 628 (3840 + N) (b - 48)) := fun v hv t1 => by
      rw [sp_if (show ev_bl v from hv), sp_b, xS_w, xG ht (by omega), sp_bd, show p + 2 + 2 = p + 4 from by omega, t1, sp_bd, sp_232, sp_bd, sp_ck (by omega), sp_ck (by omega), sp_if (by rw [l4]; omega), show ((3840 : Int) + (N : Int)).toNat = 3840 + N from by omega, sp_b]
    rw [br_R ht hp.symm hc, if_pos h1, xS_0 h25]
    unfold jm_261
    rw [xT ht (by omega), sp_bd, xT ht (by omega), sp_bd, xT ht (by omega), sp_bd, Int.add_zero, hb, show p + 2 + 1 = p + 3 from by omega, he, sp_jn, if_pos (by omega)]
    try dsimp only
    rw [if_pos (by omega), sp_jn, if_neg (by omega), if_neg (by omega), if_neg (by omega), if_pos (by omega), if_pos (by omega), sp_226, sp_bd, hcd, if_neg (by decide), sp_b, xS_25, sp_jn, sp_jn, if_neg (fun z => z rfl)]
    by_cases z2 : ee = 41
    · have hb0 : v = 0 := by omega
      rw [if_pos z2]
      try dsimp only
      rw [body 0 (Or.inl rfl) (by rw [← hb0]; exact t1), sp_bd]
    · have hb0 : v = 1 := by omega
      rw [if_neg z2]
      try dsimp only
      rw [body 1 (Or.inr rfl) (by rw [← hb0]; exact t1), sp_bd]
  by_cases good : ee = 41
  · have hin2 := at_in (S := S) (w := ws lv) (p := p + 3) (by omega) (by rw [he]; omega)
    obtain ⟨T1, t1, ⟨ta, tb⟩, _, t2⟩ := tk_kind (Q := Q) (p := p + 4) (x := 9) (z := b - 48) (v := 0) 14 (b - 48) 0 H hk hkr (mv_pI (S := S) (T := T)) (by show T.1 645 lv + ((3 : Nat) : Int) ≤ _ ∧ _; omega) rfl (by decide) (fun _ => rfl) (fun z => absurd z (by decide)) (nv_14 (by omega) (by decide))
    have t3 := t2 (ev_pI T1 628 (3840 + N) (b - 48)) ⟨rd_eq, by rw [rd_nk (by omega)]; exact tb⟩ (fun a g h => by rw [sp_pI1, if_neg (by omega)]) rfl
    refine TK0_of t3 (fun hA => df_C ht hp.symm (by omega) hc h1 hb (by omega) hA ?_) (tl 0 T1 (Or.inl rfl) (by rw [← xS_0 h25]; exact t1) (Or.inl ⟨rfl, good⟩))
    unfold jm_107
    rw [pk_Sp ht (by omega), sp_bd, show p + 1 + 1 = p + 2 from by omega, hb, sp_208, sp_bd, hcd, if_neg (by decide), pk_Sp ht (by omega), sp_bd, show p + 1 + 2 = p + 3 from by omega, he, if_pos good, sp_b, rd_eq, sp_ck (by omega), sp_b, pI_pI, sp_ck (by omega), show p + 1 + 3 = p + 4 from by omega]
    exact fin_bd hA
  · obtain ⟨T1, t1, u, u25, _⟩ := tk_badO (Q := Q) 14 (r := p + 4) H.1
    refine Or.inl ⟨ev_pI S 3 8 (p + 1), _, df_C ht hp.symm (by omega) hc h1 hb (by omega) (Or.inl ⟨_, rfl⟩) ?_, tl 1 T1 (Or.inr rfl) t1 (Or.inr ⟨rfl, good⟩), by rw [rd_nk (by omega), u25]⟩
    unfold jm_107
    rw [pk_Sp ht (by omega), sp_bd, show p + 1 + 1 = p + 2 from by omega, hb, sp_208, sp_bd, hcd, if_neg (by decide), pk_Sp ht (by omega), sp_bd, show p + 1 + 2 = p + 3 from by omega, he, if_neg good]
/-- nothing there may be repeated -/
theorem RIa_may {p : Int} (hkr : 232 ≤ k) (h : RIa k lv ws S' T3) (h2 : TKp lv p S T S' T3) : RIa k lv ws (ev_pI S' 3 13 0) (ev_pI T3 621 39 (-1)) ∧ TKp lv p S T (ev_pI S' 3 13 0) (ev_pI T3 621 39 (-1)) := by
  have s1 : ∀ x g, ¬ (x = 3 ∧ g = 13) → (ev_pI S' 3 13 0).1 x g = S'.1 x g := fun x g hx => by rw [sp_pI1, if_neg hx]
  have t1 : ∀ x g, ¬ (x = 621 ∧ g = 39) → (ev_pI T3 621 39 (-1)).1 x g = T3.1 x g := fun x g hx => by rw [sp_pI1, if_neg hx]
  obtain ⟨N, M, D, φ, ψ, own, inn, G, R, P, q, y, ⟨⟨hR, hL⟩, ht, hg, hc, hf, hy, h9, h25⟩, hg2, hz, hU⟩ := h
  obtain ⟨a1, a2, a3, a4, a5, a6, a7⟩ := h2
  have hd := hR.1.2.2.2.2
  have hl := ht.2.2.2.1 lv (Nat.le_refl _)
  have hm0 : 0 ≤ S'.1 3 13 := by
    rcases hy with z | z
    · omega
    · omega
  refine ⟨⟨N, M, D, φ, ψ, own, inn, G, R, P, q, y, ⟨⟨RDR_c hR ⟨s1 _ _ (by omega), s1 _ _ (by omega)⟩ (fun i hi => funext fun g => s1 _ _ (by omega)) (fun j h1 h2 => funext fun g => s1 _ _ (by omega)) (fun j _ _ => rfl) ⟨t1 _ _ (by omega), t1 _ _ (by omega), t1 _ _ (by omega), t1 _ _ (by omega)⟩ (fun c _ _ => funext fun g => t1 _ _ (by omega)) (fun c _ _ => funext fun g => t1 _ _ (by omega)) (fun _ _ _ => rfl), LKS_c hL (fun c m _ _ => t1 _ _ (by omega)) (fun m _ _ => t1 _ _ (by omega))⟩, RIt_pos ht (fun x g z => s1 x g (by unfold KTs at z; omega)) (fun _ _ _ => rfl) (fun x g z => t1 x g (by unfold KTt at z; omega)) (fun i _ => t1 _ _ (by omega)) ⟨by rw [s1 _ _ (by omega), t1 _ _ (by omega)]; exact ht.2.2.2.2.2.1.2, by rw [t1 _ _ (by omega)]; exact hl.2.1, by rw [t1 _ _ (by omega)]; exact hl.2.2⟩, ?_, ?_, ?_, Or.inl ⟨rd_eq, rd_eq⟩, h9, by rw [t1 _ _ (by omega)]; exact h25⟩, ?_, ⟨hz.1, by rw [t1 _ _ (by omega)]; exact hz.2.1, fun i hi => by rw [t1 _ _ (by omega)]; exact hz.2.2.1 i hi, RV_c hz.2.2.2 (fun c m _ _ _ => t1 _ _ (by omega)) ⟨t1 _ _ (by omega), fun j => t1 _ _ (by omega)⟩⟩, UPe_c hU hR (fun b hb => s1 _ _ (by omega)) (fun m c hm hc => t1 _ _ (by omega))⟩, by rw [t1 _ _ (by omega)]; exact a1, fun i hi => by rw [t1 _ _ (by omega)]; exact a2 i hi, fun x g z => by rw [t1 x g (by unfold KTt at z; omega)]; exact a3 x g z, fun x g z => by rw [s1 x g (by unfold KTs at z; omega)]; exact a4 x g z, a5, by rw [t1 _ _ (by omega)]; exact a6, LOW_t a7 ⟨fun c g z => by unfold LOWc at z; exact t1 c g (by omega), fun _ _ _ _ _ => rfl⟩⟩
  · unfold RIg at hg ⊢
    rw [s1 k 12 (by omega), t1 636 12 (by omega), t1 637 120 (by omega)]
    refine ⟨hg.1, fun l hl => ?_, fun j h1 h2 => ?_, fun i h1 h2 => ?_, hg.2.2.2.2⟩
    · rw [s1 _ _ (by omega), t1 _ _ (by omega)]
      exact hg.2.1 l hl
    · obtain ⟨t, z1, z2, z3, z4, z5⟩ := hg.2.2.1 j h1 h2
      exact ⟨t, by rw [t1 _ _ (by omega), z1], z2, by rw [t1 _ _ (by omega), z3], by rw [t1 _ _ (by omega), z4], fun y => by rw [s1 _ _ (by omega), z5 y]⟩
    · rw [t1 _ _ (by omega)] at h2
      obtain ⟨j, z1, z2, z3, z4⟩ := hg.2.2.2.1 i h1 h2
      exact ⟨j, z1, z2, by rw [t1 _ _ (by omega), z3], by rw [t1 _ _ (by omega), z4]⟩
  · unfold RIc at hc ⊢
    rw [s1 3 14 (by omega), rd_eq, t1 621 27 (by omega), nrc_c (f := Kn T3) (f' := Kn (ev_pI T3 621 39 (-1))) N (fun m _ => t1 _ _ (by omega))]
    exact ⟨hc.1, hc.2.1, by omega, hc.2.2.2⟩
  · unfold RIf at hf ⊢
    rw [s1 3 11 (by omega), t1 621 40 (by omega)]
    exact hf
  · have eK : Kt (ev_pI T3 621 39 (-1)) = Kt T3 := funext fun m => t1 _ _ (by omega)
    have eX : Xt (ev_pI T3 621 39 (-1)) = Xt T3 := funext fun m => t1 _ _ (by omega)
    have eO : (ev_pI T3 621 39 (-1)).1 650 = T3.1 650 := funext fun m => t1 _ _ (by omega)
    have eV : (ev_pI T3 621 39 (-1)).1 645 = T3.1 645 := funext fun m => t1 _ _ (by omega)
    rw [eK, eX, eO, eV]
    exact hg2
theorem tk_verb {p : Int} (hk : ev_isOb k 5 = true) (hkr : 232 ≤ k) (H : RIy k lv ws N M D φ ψ own inn G R y P q S T) (hp : T.1 645 lv = p) (hc : sp_at S (ws lv) p = 40) (h1 : sp_at S (ws lv) (p + 1) = 42) : TK0 k lv ws (p + 4) S T (jm_85 Q S) (jm_263 Q T) := by
  have ht := H.1.2.1
  have hp0 := (ht.2.2.2.1 lv (Nat.le_refl _)).2.1
  have hin := at_in (S := S) (w := ws lv) (p := p + 1) (by omega) (by rw [h1]; decide)
  have h120 := (LV_tx ht.1 ht.2.1 (ht.2.2.2.1 lv (Nat.le_refl _)).1).2.2.1
  obtain ⟨n1, n2, n3, n4, n5, n6⟩ := RIy_n H.1
  have h25 := H.1.2.2.2.2.2.2.2
  obtain ⟨v, hv⟩ : ∃ v, sp_at S (ws lv) (p + 2) = v := ⟨_, rfl⟩
  obtain ⟨ee, he⟩ : ∃ ee, sp_at S (ws lv) (p + 3) = ee := ⟨_, rfl⟩
  obtain ⟨c, hcv⟩ : ∃ c : Int, c = if v = 70 then 15 else if v = 67 then 16 else 17 := ⟨_, rfl⟩
  have hc3 : (v = 70 ∧ c = 15) ∨ (v = 67 ∧ c = 16) ∨ (v ≠ 70 ∧ v ≠ 67 ∧ c = 17) := by
    rw [hcv]
    by_cases e1 : v = 70
    · exact Or.inl ⟨e1, if_pos e1⟩
    · rw [if_neg e1]
      by_cases e2 : v = 67
      · exact Or.inr (Or.inl ⟨e2, if_pos e2⟩)
      · exact Or.inr (Or.inr ⟨e1, e2, if_neg e2⟩)
  have tl : ∀ (b : Int) (T1 : ev_St), b = 0 ∨ b = 1 → jm_237 Q c (xS lv T (p + 4) b) = some ((N : Int), T1) → ((b = 0 ∧ (v = 70 ∨ v = 67 ∨ v = 83) ∧ ee = 41) ∨ (b = 1 ∧ ¬ ((v = 70 ∨ v = 67 ∨ v = 83) ∧ ee = 41))) → jm_263 Q T = some ((), ev_pI T1 621 39 (-1)) := fun b T1 hb t1 hbb => by
    have body : ∀ b : Int, b = 0 ∨ b = 1 → jm_237 Q c (xS lv T (p + 4) b) = some ((N : Int), T1) → (ev_if (ev_bl b) (ev_b (ev_pI (xS lv T (p + 2) 0) 621 25 b) fun s10 => ev_bd (jm_234 Q 2 s10) fun _ s12 => ev_jn (fun (x13 : Int) (s16 : ev_St) => ev_bd (jm_237 Q x13 s16) fun x18 s17 => ev_b (ev_pI s17 621 39 ((-1))) fun s19 => some ((), s19)) fun K80 => if v ≠ 70 then (if v ≠ 67 then (K80 17 s12) else (K80 16 s12)) else (K80 15 s12))) = some ((), ev_pI T1 621 39 (-1)) := fun b hb t1 => by
      rw [sp_if (show ev_bl b from hb), sp_b, xS_w, xG ht (by omega), sp_bd, show p + 2 + 2 = p + 4 from by omega, sp_jn]
      rcases hc3 with ⟨e1, e2⟩ | ⟨e1, e2⟩ | ⟨e1, e2, e3⟩
      · rw [if_neg (fun z => z e1)]
        try dsimp only
        rw [← e2, t1, sp_bd, sp_b]
      · rw [if_pos (by omega), if_neg (fun z => z e1)]
        try dsimp only
        rw [← e2, t1, sp_bd, sp_b]
      · rw [if_pos e1, if_pos e2]
        try dsimp only
        rw [← e3, t1, sp_bd, sp_b]
    rw [br_R ht hp.symm hc, if_neg (by omega), if_pos h1, xS_0 h25]
    unfold jm_262
    rw [xT ht (by omega), sp_bd, Int.add_zero, hv, sp_b, xS_25, sp_jn, sp_jn, if_neg (fun z => z rfl), sp_jn]
    by_cases z1 : v = 70 ∨ v = 67 ∨ v = 83
    · by_cases z2 : ee = 41
      · have hb0 : b = 0 := by omega
        by_cases y1 : v = 70
        · rw [if_pos y1]
          try dsimp only
          rw [xT ht (by omega), sp_bd, show p + 2 + 1 = p + 3 from by omega, he, if_pos z2]
          try dsimp only
          rw [body 0 (Or.inl rfl) (by rw [← hb0]; exact t1), sp_bd]
        by_cases y2 : v = 67
        · rw [if_neg y1, if_pos y2]
          try dsimp only
          rw [xT ht (by omega), sp_bd, show p + 2 + 1 = p + 3 from by omega, he, if_pos z2]
          try dsimp only
          rw [body 0 (Or.inl rfl) (by rw [← hb0]; exact t1), sp_bd]
        · rw [if_neg y1, if_neg y2, if_neg (by omega)]
          try dsimp only
          rw [xT ht (by omega), sp_bd, show p + 2 + 1 = p + 3 from by omega, he, if_pos z2]
          try dsimp only
          rw [body 0 (Or.inl rfl) (by rw [← hb0]; exact t1), sp_bd]
      · have hb0 : b = 1 := by omega
        by_cases y1 : v = 70
        · rw [if_pos y1]
          try dsimp only
          rw [xT ht (by omega), sp_bd, show p + 2 + 1 = p + 3 from by omega, he, if_neg z2]
          try dsimp only
          rw [body 1 (Or.inr rfl) (by rw [← hb0]; exact t1), sp_bd]
        by_cases y2 : v = 67
        · rw [if_neg y1, if_pos y2]
          try dsimp only
          rw [xT ht (by omega), sp_bd, show p + 2 + 1 = p + 3 from by omega, he, if_neg z2]
          try dsimp only
          rw [body 1 (Or.inr rfl) (by rw [← hb0]; exact t1), sp_bd]
        · rw [if_neg y1, if_neg y2, if_neg (by omega)]
          try dsimp only
          rw [xT ht (by omega), sp_bd, show p + 2 + 1 = p + 3 from by omega, he, if_neg z2]
          try dsimp only
          rw [body 1 (Or.inr rfl) (by rw [← hb0]; exact t1), sp_bd]
    · have hb0 : b = 1 := by omega
      rw [if_neg (by omega), if_neg (by omega), if_pos (by omega)]
      try dsimp only
      rw [body 1 (Or.inr rfl) (by rw [← hb0]; exact t1), sp_bd]
  have redC : ∀ {A : Option (Int × ev_St)}, ((∃ S', A = some (0, S')) ∨ ∃ S', A = some (1, S')) → jm_108 Q (ev_pI S 3 8 (p + 1)) = A → jm_85 Q S = A := fun {A} hA hr => by
    rw [br_C ht hp.symm hc]
    unfold jm_102
    rw [pk_Sp ht (by omega), sp_bd, Int.add_zero, h1, if_neg (fun z => z rfl), hr, fin_bd hA]
    exact fin_bd hA
  by_cases good : (v = 70 ∨ v = 67 ∨ v = 83) ∧ ee = 41
  · have hin2 := at_in (S := S) (w := ws lv) (p := p + 3) (by omega) (by rw [he]; omega)
    have hcs : cst c = 0 := by
      rcases hc3 with ⟨_, rfl⟩ | ⟨_, rfl⟩ | ⟨_, _, rfl⟩ <;> rfl
    obtain ⟨T1, t1, ⟨ta, tb⟩, _, t2⟩ := tk_kind (Q := Q) (p := p + 4) (x := kcl c 0) (z := 0) (v := 0) c 0 0 H hk hkr (mv_pI (S := S) (T := T)) (by rw [hcs]; omega) rfl (by omega) (by omega) (by omega) (nv_1 (by omega) (by decide))
    have t3 := t2 T1 ⟨ta, tb⟩ (fun _ _ _ => rfl) rfl
    have e108 : ∀ (A : Int) (S' : ev_St), (A = 0 ∨ A = 1) → jm_88 Q (kcl c 0) 0 0 (ev_pI S 3 8 (p + 4)) = some (A, S') → jm_108 Q (ev_pI S 3 8 (p + 1)) = some (A, ev_pI S' 3 13 0) := fun A S' hA hr => by
      unfold jm_108
      rw [pk_Sp ht (by omega), sp_bd, show p + 1 + 1 = p + 2 from by omega, hv, pk_Sp ht (by omega), sp_bd, show p + 1 + 2 = p + 3 from by omega, he, if_neg (by omega), sp_jn]
      rcases hc3 with ⟨e1, e2⟩ | ⟨e1, e2⟩ | ⟨e1, e2, e3⟩
      · rw [if_pos e1]
        try dsimp only
        rw [sp_b, rd_eq, sp_ck (by omega), sp_b, pI_pI, show p + 1 + 3 = p + 4 from by omega, sp_jn, if_neg (fun z => z e1)]
        try dsimp only
        rw [show (10 : Int) = kcl c 0 from by rw [e2]; rfl, hr, sp_bd, sp_b, sp_if (show ev_bl A from hA)]
      · rw [if_neg (by omega), if_pos e1]
        try dsimp only
        rw [sp_b, rd_eq, sp_ck (by omega), sp_b, pI_pI, show p + 1 + 3 = p + 4 from by omega, sp_jn, if_pos (by omega), if_neg (fun z => z e1)]
        try dsimp only
        rw [show (11 : Int) = kcl c 0 from by rw [e2]; rfl, hr, sp_bd, sp_b, sp_if (show ev_bl A from hA)]
      · rw [if_neg e1, if_neg e2, if_pos (by omega)]
        try dsimp only
        rw [sp_b, rd_eq, sp_ck (by omega), sp_b, pI_pI, show p + 1 + 3 = p + 4 from by omega, sp_jn, if_pos e1, if_pos e2]
        try dsimp only
        rw [show (12 : Int) = kcl c 0 from by rw [e3]; rfl, hr, sp_bd, sp_b, sp_if (show ev_bl A from hA)]
    have runR := tl 0 T1 (Or.inl rfl) (by rw [← xS_0 h25]; exact t1) (Or.inl ⟨rfl, good⟩)
    rcases t3 with ⟨S', d1, d2⟩ | ⟨S', d1, d2, d3⟩
    · exact Or.inl ⟨ev_pI S' 3 13 0, _, redC (Or.inl ⟨_, rfl⟩) (e108 0 S' (Or.inl rfl) d1), runR, by rw [rd_nf (by omega), d2]⟩
    · obtain ⟨r1, r2⟩ := RIa_may hkr d2 d3
      exact Or.inr ⟨ev_pI S' 3 13 0, _, redC (Or.inr ⟨_, rfl⟩) (e108 1 S' (Or.inr rfl) d1), runR, r1, r2⟩
  · obtain ⟨T1, t1, u, u25, _⟩ := tk_badO (Q := Q) c (r := p + 4) H.1
    refine Or.inl ⟨ev_pI S 3 8 (p + 1), _, redC (Or.inl ⟨_, rfl⟩) ?_, tl 1 T1 (Or.inr rfl) t1 (Or.inr ⟨rfl, good⟩), by rw [rd_nf (by omega), u25]⟩
    unfold jm_108
    rw [pk_Sp ht (by omega), sp_bd, show p + 1 + 1 = p + 2 from by omega, hv, pk_Sp ht (by omega), sp_bd, show p + 1 + 2 = p + 3 from by omega, he]
    by_cases z : ee = 41
    · rw [if_neg (fun y => y z), sp_jn, if_neg (by omega), if_neg (by omega), if_neg (by omega)]
    · rw [if_pos z]
end RPAR4
