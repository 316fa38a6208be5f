/-! THE READER: a repeat on both sides -/
section RREP2
variable {Q k n m w d N M D lv : Nat} {φ ψ own inn G R ws y : Nat → Nat} {P q : Nat → Int} {S T S0 T0 S2 T2 T1 U : ev_St}
/-- the reference's repeat behind its bounds -/
def rpR (Q : Nat) (x17 x18 : Int) (s23 : ev_St) : Option (Unit × ev_St) := ev_b (s23.1 621 39) fun x24 => if x24 ≠ (-1) then (ev_bd (jm_236 Q  s23) fun _ s26 => ev_bd (jm_232 Q  s26) fun x28 s27 => ev_b (s27.1 621 39) fun x29 => ev_ck (x28 + x29) fun x30 => ev_bd (jm_233 Q 0 s27) fun x32 s31 => ev_jn (fun (x33 : Int) (x34 : Int) (x37 : Int) (x36 : Int) (r35 : Nat) (s44 : ev_St) => ev_if ((0 : Int) ≤ x36 ∧ x36 < (ev_aln r35 : Int)) (ev_b (ev_pI s44 r35 (Int.toNat x36) x37) fun s45 => ev_if ((0 : Int) ≤ x33 ∧ x33 < (ev_aln 631 : Int)) (ev_b (ev_pI s45 631 (Int.toNat x33) x17) fun s46 => ev_if ((0 : Int) ≤ x33 ∧ x33 < (ev_aln 632 : Int)) (ev_b (ev_pI s46 632 (Int.toNat x33) x18) fun s47 => ev_jn (fun (x48 : Int) (s51 : ev_St) => ev_bd (jm_234 Q x48 s51) fun _ s52 => ev_b (ev_pI s52 621 39 ((-1))) fun s53 => some ((), s53)) fun K260 => ev_jn (fun  (s56 : ev_St) => K260 1 s56) fun K255 => if x34 = 63 then (K255  s47) else (if x34 ≠ 43 then (K260 0 s47) else (K255  s47)))))) fun K223 => if x32 ≠ 63 then (if x32 ≠ 43 then (K223 x30 x32 0 x30 630 s31) else (K223 x30 x32 2 x30 630 s31)) else (K223 x30 x32 1 x30 630 s31)) else (ev_b (ev_pI s23 621 25 1) fun s61 => some ((), s61))
def rmd (s : Int) : Int := if s = 63 then 1 else if s = 43 then 2 else 0
theorem rp_R {lo hi r s : Int} {t : Nat} (ht : RIt lv ws S T) (hU : ∀ a g, a = 622 ∨ a = 623 ∨ a = 624 ∨ a = 644 ∨ (a = 621 ∧ (g = 1 ∨ g = 28)) → T0.1 a g = T.1 a g) (hx : T0.1 645 lv = r) (hp : 0 ≤ r ∧ r ≤ 300) (hs : sp_at S (ws lv) r = s) (h39 : T0.1 621 39 = (t : Int)) (htt : t < 320) (hc : 0 ≤ T0.1 621 27 ∧ T0.1 621 27 ≤ 1000) : ∃ T', rpR Q lo hi T0 = some ((), T') ∧ (T'.1 630 (3840 + t) = rmd s ∧ T'.1 631 (3840 + t) = lo ∧ T'.1 632 (3840 + t) = hi) ∧ (T'.1 621 27 = T0.1 621 27 + 1 ∧ T'.1 621 25 = (if T0.1 621 25 = 0 ∧ T0.1 621 27 < 150 then 0 else 1) ∧ T'.1 621 39 = -1 ∧ T'.1 645 lv = r + rsl s) ∧ (∀ c g, ¬ (630 ≤ c ∧ c ≤ 632 ∧ g = 3840 + t) → ¬ (c = 621 ∧ (g = 25 ∨ g = 27 ∨ g = 39)) → ¬ (c = 645 ∧ g = lv) → T'.1 c g = T0.1 c g) ∧ T'.2 = T0.2 := by
  obtain ⟨l1, l2, l3, l4, l5, l6, l7, l8, l9, l10, l11⟩ := al_N
  obtain ⟨V, hV⟩ : ∃ V, V = ev_pI (ev_pI T0 621 27 (T0.1 621 27 + 1)) 621 25 (if T0.1 621 25 = 0 ∧ T0.1 621 27 < 150 then 0 else 1) := ⟨_, rfl⟩
  have v1 : ∀ c g, ¬ (c = 621 ∧ (g = 25 ∨ g = 27)) → V.1 c g = T0.1 c g := fun c g h => by
    rw [hV, sp_pI1, if_neg (by omega), sp_pI1, if_neg (by omega)]
  have v2 : V.2 = T0.2 := by rw [hV]; rfl
  have v27 : V.1 621 27 = T0.1 621 27 + 1 := by rw [hV, rd_nf (by omega), rd_eq]
  have v25 : V.1 621 25 = (if T0.1 621 25 = 0 ∧ T0.1 621 27 < 150 then 0 else 1) := by rw [hV, rd_eq]
  have pk : jm_233 Q 0 V = some (s, V) := by
    have := pk_T (Q := Q) (a := 0) (U := V) (x := r) ht (fun a g h => by rw [v1 a g (by omega), hU a g h]) (by rw [v1 _ _ (by omega), hx]) (by omega)
    rw [Int.add_zero, hs] at this
    exact this
  obtain ⟨W, hW⟩ : ∃ W, W = ev_pI (ev_pI (ev_pI V 630 (3840 + t) (rmd s)) 631 (3840 + t) lo) 632 (3840 + t) hi := ⟨_, rfl⟩
  have w1 : ∀ c g, ¬ (630 ≤ c ∧ c ≤ 632 ∧ g = 3840 + t) → W.1 c g = V.1 c g := fun c g h => by
    rw [hW, sp_pI1, if_neg (by omega), sp_pI1, if_neg (by omega), sp_pI1, if_neg (by omega)]
  have wo : W.1 630 (3840 + t) = rmd s ∧ W.1 631 (3840 + t) = lo ∧ W.1 632 (3840 + t) = hi := by
    rw [hW]
    exact ⟨by rw [rd_nk (by omega), rd_nk (by omega), rd_eq], by rw [rd_nk (by omega), rd_eq], rd_eq⟩
  have w2 : W.2 = T0.2 := by rw [← v2, hW]; rfl
  have go : ∀ a : Int, 0 ≤ a ∧ a ≤ 1 → jm_234 Q a W = some ((), ev_pI W 645 lv (r + a)) := fun a ha => go_T (x := r) ht (by rw [w1 _ _ (by omega), v1 _ _ (by omega), hU _ _ (by omega)]) (by rw [w1 _ _ (by omega), v1 _ _ (by omega), hx]) (by omega)
  have run : rpR Q lo hi T0 = some ((), ev_pI (ev_pI W 645 lv (r + rsl s)) 621 39 (-1)) := by
    unfold rpR
    rw [sp_b, h39, if_pos (by omega), sp_236b hc, sp_bd, ← hV, sp_232, sp_bd, v1 _ _ (by omega), h39, sp_b, sp_ck (by omega), pk, sp_bd, sp_jn]
    by_cases e1 : s = 63
    · have m : rmd s = 1 := by unfold rmd; rw [if_pos e1]
      have g : rsl s = 1 := by unfold rsl; rw [if_pos (Or.inl e1)]
      rw [m] at hW
      rw [if_neg (fun z => z e1)]
      try dsimp only
      rw [sp_if (by rw [l6]; omega), show ((3840 : Int) + (t : Int)).toNat = 3840 + t from by omega, sp_b, sp_if (by rw [l7]; omega), sp_b, sp_if (by rw [l8]; omega), sp_b, ← hW, sp_jn]
      try dsimp only
      rw [sp_jn, if_pos e1]
      try dsimp only
      rw [go 1 (by omega), sp_bd, sp_b, g]
    · rw [if_pos e1]
      by_cases e2 : s = 43
      · have m : rmd s = 2 := by unfold rmd; rw [if_neg e1, if_pos e2]
        have g : rsl s = 1 := by unfold rsl; rw [if_pos (Or.inr e2)]
        rw [m] at hW
        rw [if_neg (fun z => z e2)]
        try dsimp only
        rw [sp_if (by rw [l6]; omega), show ((3840 : Int) + (t : Int)).toNat = 3840 + t from by omega, sp_b, sp_if (by rw [l7]; omega), sp_b, sp_if (by rw [l8]; omega), sp_b, ← hW, sp_jn]
        try dsimp only
        rw [sp_jn, if_neg e1, if_neg (fun z => z e2)]
        try dsimp only
        rw [go 1 (by omega), sp_bd, sp_b, g]
      · have m : rmd s = 0 := by unfold rmd; rw [if_neg e1, if_neg e2]
        have g : rsl s = 0 := by unfold rsl; rw [if_neg (by omega)]
        rw [m] at hW
        rw [if_pos e2]
        try dsimp only
        rw [sp_if (by rw [l6]; omega), show ((3840 : Int) + (t : Int)).toNat = 3840 + t from by omega, sp_b, sp_if (by rw [l7]; omega), sp_b, sp_if (by rw [l8]; omega), sp_b, ← hW, sp_jn]
        try dsimp only
        rw [sp_jn, if_neg e1, if_pos e2]
        try dsimp only
        rw [go 0 (by omega), sp_bd, sp_b, g]
  refine ⟨_, run, ⟨?_, ?_, ?_⟩, ⟨?_, ?_, rd_eq, ?_⟩, fun c g h1 h2 h3 => ?_, ?_⟩
  · rw [rd_nk (by omega), rd_nk (by omega)]; exact wo.1
  · rw [rd_nk (by omega), rd_nk (by omega)]; exact wo.2.1
  · rw [rd_nk (by omega), rd_nk (by omega)]; exact wo.2.2
  · rw [rd_nf (by omega), rd_nk (by omega), w1 _ _ (by omega), v27]
  · rw [rd_nf (by omega), rd_nk (by omega), w1 _ _ (by omega), v25]
  · rw [rd_nk (by omega), rd_eq]
  · rw [sp_pI1, if_neg (by omega), sp_pI1, if_neg h3, w1 c g h1, v1 c g (by omega)]
  · show W.2 = _
    exact w2
/-- a repeat -/
theorem tk_rep {lo hi r s : Int} (hk : ev_isOb k 5 = true) (hkr : 232 ≤ k) (H : RIy k lv ws N M D φ ψ own inn G R y P q S T) (hm : MVd lv r S T S0 T0) (hr : T.1 645 lv ≤ r ∧ r ≤ S.1 (ws lv) 1) (hs : sp_at S (ws lv) r = s) (hbv : bval lo hi) : ∃ T2, rpR Q lo hi T0 = some ((), T2) ∧ ((∃ S', jm_92 Q lo hi S0 = some (0, S') ∧ T2.1 621 25 = 1) ∨ ∃ S', jm_92 Q lo hi S0 = some (1, S') ∧ RIa k lv ws S' T2 ∧ TKp lv (r + rsl s) S T S' T2) := by
  obtain ⟨h, hg, hN0, hU⟩ := H
  have htx := h.2.1
  have p0 := htx.2.2.2.1 lv (Nat.le_refl _)
  have h120 := (LV_tx htx.1 htx.2.1 p0.1)
  have h0 := RIb_mv h hkr hm (by omega)
  obtain ⟨n1, n2, n3, n4, n5, n6⟩ := RIy_n h0
  obtain ⟨b1, b2, b3⟩ := RDR_b h0.1.1
  have hm0 := hm
  obtain ⟨m1, m2, m3, m4, m5, m6, m7, m8⟩ := hm
  have hrs : r + rsl s ≤ S.1 (ws lv) 1 := by
    unfold rsl
    split
    · have := at_in (S := S) (w := ws lv) (p := r) (by omega) (by rw [hs]; omega)
      omega
    · omega
  have hsS : sp_at S0 (ws lv) r = s := by
    rw [← hs]
    have tx := h120.1
    unfold isTx at tx
    unfold sp_at
    rw [m1 _ _ (by omega) (by omega), m1 _ _ (by omega) (by omega)]
  obtain ⟨⟨hR, hL⟩, ht, hgg, hc, hf, hy, h9, h25⟩ := h0
  rcases hy with ⟨y1, y2⟩ | ⟨y1, t, y2, y3, y4⟩
  · -- nothing to repeat
    refine ⟨ev_pI T0 621 25 1, ?_, Or.inl ⟨S0, ?_, rd_eq⟩⟩
    · unfold rpR
      rw [sp_b, y2, if_neg (fun z => z rfl), sp_b]
    · unfold jm_92
      rw [sp_b, y1, if_pos rfl]
  · obtain ⟨hD1, hDG, hst, ⟨e6, e7⟩, ho, hn⟩ := hR
    have hR : RDR k N M D φ ψ own G R P q S0 T0 := ⟨hD1, hDG, hst, ⟨e6, e7⟩, ho, hn⟩
    have tN : t < N := by
      rcases (ho D (Nat.le_refl _)).2.1 with ⟨z1, _⟩ | ⟨t', u, z1, ⟨z2, _⟩, _⟩
      · omega
      · have := z2.1
        omega
    obtain ⟨T2, q1, ⟨q2, q3, q4⟩, ⟨q5, q6, q7, q8⟩, q9, q10⟩ := rp_R (Q := Q) (lo := lo) (hi := hi) (T0 := T0) (t := t) ht (fun a g _ => rfl) m5 (by omega) hsS y2 (by omega) (by omega)
    refine ⟨T2, q1, ?_⟩
    by_cases e150 : 150 ≤ T0.1 621 27
    · refine Or.inl ⟨ev_pI S0 3 14 (S0.1 3 14 + 1), ?_, ?_⟩
      · unfold jm_92
        rw [sp_b, y1, if_neg (by decide), sp_b, hD1.2.2.1, if_neg (by omega), sp_b, if_neg (by omega), sp_87 (by omega), if_pos (by omega), sp_bd, if_neg (fun z => z rfl)]
      · rw [q6, if_neg (by omega)]
    · have hla : ∃ a : Nat, S0.1 (17 + D) 7 = (a : Int) ∧ a < M := by
        rcases RDR_last hR with ⟨z1, _⟩ | ⟨t', z1, z2, z3, z4⟩
        · omega
        · exact ⟨ψ t', z3, z4⟩
      have hb : -1 ≤ S0.1 (17 + D) 8 ∧ S0.1 (17 + D) 8 < M := by
        rcases (ho D (Nat.le_refl _)).2.1 with ⟨z1, _⟩ | ⟨t', u, z1, _, _, ⟨_, z2⟩ | ⟨b, z2, _, _, _, _, z3⟩⟩
        · omega
        · omega
        · have := (hn b z2).1.2.1
          omega
      have hM3 : M + 3 ≤ 400 := by
        have := hc.2.2.1
        omega
      obtain ⟨j, S', s1, ⟨⟨s2, s3⟩, ⟨s4, s5, s6⟩, s7, s8⟩, s9, s10⟩ := sp_92h (Q := Q) (lo := lo) (hi := hi) (r := r) (s := s) ht y1 hD1.2.2.1 n4 (by omega) ⟨m2, by omega⟩ hsS hk hkr h9 hD1.2.1 hM3 hla hb
      have ck := ck_i k D (S0.1 (17 + D) 8)
      have t2' : ∀ c g, ¬ (630 ≤ c ∧ c ≤ 632 ∧ g = 3840 + t) → ¬ (c = 621 ∧ (g = 25 ∨ g = 27 ∨ g = 39)) → ¬ (c = 645) → T2.1 c g = T0.1 c g := fun c g h1 h2 h3 => q9 c g h1 h2 (by omega)
      have rest : ∀ (M2 : Nat) (ψ2 own2 : Nat → Nat), M ≤ M2 → M2 ≤ M + 3 → RDR k N M2 D φ ψ2 own2 G R P q S' T2 → j < M2 → UPe k N M2 D φ ψ2 own2 G R P S' T2 → RIa k lv ws S' T2 := fun M2 ψ2 own2 hM2 hM2' hR2 hjM hU2 => by
        refine ⟨N, M2, D, φ, ψ2, own2, inn, G, R, P, q, y, ⟨⟨hR2, LKS_c hL (fun c m _ _ => q9 _ _ (by omega) (by omega) (by omega)) (fun m hm h18 => ?_)⟩, RIt_pos ht (fun x g z => s7 x g (by unfold KTs at z; omega) (by unfold KTs at z; omega) (by unfold KTs at z; omega) (by unfold KTs at z; omega) (by unfold KTs at z; omega)) (fun x g _ => by rw [s8]) (fun x g z => q9 x g (by unfold KTt at z; omega) (by unfold KTt at z; omega) (by unfold KTt at z; omega)) (fun i hi => q9 _ _ (by omega) (by omega) (by omega)) ⟨by rw [s4, q8], by rw [q8]; unfold rsl; split <;> omega, by
          have tx := h120.1
          unfold isTx at tx
          rw [q8, m1 _ _ (by omega) (by omega)]
          exact hrs⟩, ?_, ?_, ?_, Or.inl ⟨s5, q7⟩, by rw [s8]; exact h9, by rw [q6, if_pos (by omega)]⟩, ?_, ⟨hN0.1, by rw [q9 _ _ (by omega) (by omega) (by omega), m4 _ _ (by omega) (by omega)]; exact hN0.2.1, fun i hi => by rw [q9 _ _ (by omega) (by omega) (by omega), m4 _ _ (by omega) (by omega)]; exact hN0.2.2.1 i hi, RV_rep (t := t) hN0.2.2.2 (fun c m a b _ hmt => by rw [q9 _ _ (by omega) (by omega) (by omega), m4 _ _ (by omega) (by omega)]) (fun c a b => by rw [q9 _ _ (by omega) (by omega) (by omega), m4 _ _ (by omega) (by omega)]) ⟨by rw [q9 _ _ (by omega) (by omega) (by omega), m4 _ _ (by omega) (by omega)], fun j => by rw [q9 _ _ (by omega) (by omega) (by omega), m4 _ _ (by omega) (by omega)]⟩ (by rw [q3, q4]; exact hbv)⟩, hU2⟩
        · by_cases e : m = t
          · subst e
            rcases (ho D (Nat.le_refl _)).2.1 with ⟨z1, _⟩ | ⟨t', u, z1, ⟨z2, z3, _⟩, _⟩
            · omega
            · have : t' = m := by omega
              subst this
              exact absurd h18 z3
          · exact q9 _ _ (by omega) (by omega) (by omega)
        · refine ⟨?_, fun l hl => ?_, fun j' h1 h2 => ?_, fun i h1 h2 => ?_, ?_⟩
          · rw [s7 k 12 (by omega) (by omega) (by omega) (by omega) (by omega), q9 636 12 (by omega) (by omega) (by omega)]
            exact hgg.1
          · rw [s7 (k + 11) l (by omega) (by omega) (by omega) (by omega) (by omega), q9 638 _ (by omega) (by omega) (by omega), q9 636 12 (by omega) (by omega) (by omega)]
            exact hgg.2.1 l hl
          · rw [q9 636 12 (by omega) (by omega) (by omega)] at h2
            obtain ⟨t', z1, z2, z3, z4, z5⟩ := hgg.2.2.1 j' h1 h2
            refine ⟨t', by rw [q9 637 _ (by omega) (by omega) (by omega), z1], z2, by rw [q9 625 _ (by omega) (by omega) (by omega), z3], by rw [q9 628 _ (by omega) (by omega) (by omega), z4], fun w => ?_⟩
            rw [s7 (k + 10) j' (by omega) (by omega) (by omega) (by omega) (by omega), z5 w]
          · rw [q9 625 _ (by omega) (by omega) (by omega)] at h2
            obtain ⟨j', z1, z2, z3, z4⟩ := hgg.2.2.2.1 i h1 h2
            exact ⟨j', z1, by rw [q9 636 12 (by omega) (by omega) (by omega)]; exact z2, by rw [q9 628 _ (by omega) (by omega) (by omega), z3], by rw [q9 637 _ (by omega) (by omega) (by omega), z4]⟩
          · rw [q9 637 120 (by omega) (by omega) (by omega)]
            exact hgg.2.2.2.2
        · obtain ⟨⟨c1, c2, c3⟩, c4, c5, c6, c7⟩ := hc
          unfold RIc
          rw [s6, s5, q5, nrc_c (f := Kn T0) (f' := Kn T2) N (fun m _ => q9 _ _ (by omega) (by omega) (by omega))]
          exact ⟨by omega, by omega, by omega, by omega, by omega⟩
        · unfold RIf at hf ⊢
          rw [s7 3 11 (by omega) (by omega) (by omega) (by omega) (by omega), q9 621 40 (by omega) (by omega) (by omega)]
          exact hf
        · have eK : Kt T2 = Kt T := funext fun m => by
            show T2.1 625 (3840 + m) = T.1 625 (3840 + m)
            rw [q9 _ _ (by omega) (by omega) (by omega), m4 _ _ (by omega) (by omega)]
          have eX : Xt T2 = Xt T := funext fun m => by
            show T2.1 627 (3840 + m) = T.1 627 (3840 + m)
            rw [q9 _ _ (by omega) (by omega) (by omega), m4 _ _ (by omega) (by omega)]
          have eO : T2.1 650 = T.1 650 := funext fun i => by rw [q9 _ _ (by omega) (by omega) (by omega), m4 _ _ (by omega) (by omega)]
          rw [eK, eX, eO]
          refine GH_pos hg (fun j' hj => ?_)
          by_cases e : j' = lv
          · subst e
            rw [q8]
            unfold rsl
            split <;> omega
          · rw [q9 _ _ (by omega) (by omega) (by omega), m4 _ _ (by omega) (by omega)]
            exact Int.le_refl _
      have tkp : TKp lv (r + rsl s) S T S' T2 := by
        refine ⟨q8, fun i hi => by rw [q9 _ _ (by omega) (by omega) (by omega), m4 _ _ (by omega) (by omega)], fun x g z => ?_, fun x g z => ?_, fun x g z => by rw [s8, m3 x g (by omega)], ?q27, fun c g z => by unfold LOWc at z; rw [q9 c g (by omega) (by omega) (by omega), m4 c g (by omega) (by omega)], fun c g x y z => by rw [q10, m7 c g x y]⟩
        case q27 => rw [q5, m4 _ _ (by omega) (by omega)]; omega
        · rw [q9 x g (by unfold KTt at z; omega) (by unfold KTt at z; omega) (by unfold KTt at z; omega), m4 x g (by unfold KTt at z; omega) (by unfold KTt at z; omega)]
        · rw [s7 x g (by unfold KTs at z; omega) (by unfold KTs at z; omega) (by unfold KTs at z; omega) (by unfold KTs at z; omega) (by unfold KTs at z; omega), m1 x g (by unfold KTs at z; omega) (by unfold KTs at z; omega)]
      have sL : S'.2.1 = S0.2.1 := by rw [s8]
      have hR0 : RDR k N M D φ ψ own G R P q S T := h.1.1
      have h630 : T.1 630 (3840 + t) = -1 := by
        rw [← m4 _ _ (by omega) (by omega)]
        exact y4
      have sb : ∀ b, b < M → S'.1 (k + 4) b = S.1 (k + 4) b := fun b hb => by rw [s7 _ _ (by omega) (by omega) (by omega) (by omega) (by omega), m1 _ _ (by omega) (by omega)]
      obtain ⟨la, hla1, hla2⟩ := hla
      have hla4 := s9.2.2.2.1
      rw [hla1] at hla4
      have tL : T2.2.1 = T0.2.1 := by rw [q10]
      rcases s10 with ⟨x1, x2, x3⟩ | ⟨x1, x2, x3, x4, x5⟩
      · subst x2
        have md : rmd s = 0 ∨ rmd s = 1 := by
          unfold rmd
          rw [if_neg x1]
          split
          · exact Or.inr rfl
          · exact Or.inl rfl
        refine Or.inr ⟨S', s1, rest (j + 1) _ _ (by omega) (by omega) (RDR_rep1 hR hkr hL.1 y3 y4 md ⟨x3, ?_, s9.2.1, s9.2.2.1, s9.2.2.2.1, s9.2.2.2.2⟩ ⟨s2, s3⟩ (fun x g h1 h2 h3 h4 h5 => s7 x g (by omega) h2 (by omega) h4 h5) sL ⟨q2, q3, q4⟩ t2' tL) (by omega) (UL_rep hU hR0 y3 h630 (Nat.le_succ _) (fun b hb => nup_ne (by omega)) (fun b b1 b2 => by
          have eb : b = j := by omega
          rw [eb, nup_eq, s9.2.2.2.1]
          exact ⟨rfl, Or.inl rfl, by omega⟩) sb (fun m c hm hc => by rw [q9 _ _ (by omega) (by omega) (by omega), m4 _ _ (by omega) (by omega)]) rfl (Or.inl ⟨by rw [q2]; rcases md with z | z <;> omega, rfl⟩)), tkp⟩
        rw [s9.1]
        unfold rmd
        rw [if_neg x1]
        split <;> rfl
      · subst x2
        have e2 : rmd s = 2 := by
          unfold rmd
          rw [if_neg (by omega), if_pos x1]
        refine Or.inr ⟨S', s1, rest (M + 3) _ _ (by omega) (by omega) (RDR_rep2 hR hkr hL.1 y3 y4 ⟨x3, by rw [s9.1, if_neg (by omega)], s9.2.1, s9.2.2.1, s9.2.2.2.1, s9.2.2.2.2⟩ x4 x5 ⟨s2, s3⟩ (fun x g h1 h2 h3 h4 h5 => s7 x g (by omega) h2 h3 h4 h5) sL ⟨by rw [q2, e2], q3, q4⟩ t2' tL) (by omega) (UL_rep hU hR0 y3 h630 (by omega) (fun b hb => by rw [nup_ne (by omega), nup_ne (by omega), nup_ne (by omega)]) (fun b b1 b2 => by
          have eb : b = M ∨ b = M + 1 ∨ b = M + 2 := by omega
          rcases eb with eb | eb | eb
          · rw [eb, nup_ne (by omega), nup_ne (by omega), nup_eq, s9.2.2.2.1]
            exact ⟨rfl, Or.inr ⟨by rw [q2, e2], Or.inr ⟨M + 1, by rw [nup_eq, x5.2.1], by rw [x4.2.1]⟩⟩, by omega⟩
          · rw [eb, nup_ne (by omega), nup_eq, x4.2.1]
            exact ⟨rfl, Or.inr ⟨by rw [q2, e2], Or.inl (by rw [nup_eq, x5.2.1])⟩, by omega⟩
          · rw [eb, nup_eq, x5.2.1]
            exact ⟨rfl, Or.inl rfl, by omega⟩) sb (fun m c hm hc => by rw [q9 _ _ (by omega) (by omega) (by omega), m4 _ _ (by omega) (by omega)]) rfl (Or.inr ⟨by rw [q2, e2], rfl⟩)), tkp⟩
end RREP2
