/-! PLAY: the call itself -/
section OSR
variable {Q p k t m i j len b G cnt L : Nat} {n a0 a1 : Int} {S S1 S2 S' T T1 T2 T' U V W X C : ev_St} {xs : Nat → Int32} {D : lg_D}
theorem c194 (h15 : S.1 0 15 ≤ 6) : (((0 ≤ a0 ∧ a0 < S.1 0 15) ∧ 0 ≤ a1 ∧ a1 < 3) → jm_194 Q a0 a1 S = ev_bd (jm_43 Q (263 + 2 * a1.toNat + 1) S) fun _ s => jl_194_64 Q a0 a1 Q (305 + a0.toNat) 0 0 s) ∧ (¬ ((0 ≤ a0 ∧ a0 < S.1 0 15) ∧ 0 ≤ a1 ∧ a1 < 3) → jm_194 Q a0 a1 S = some (.inr "java/lang/IndexOutOfBoundsException", ev_tick S)) := by
  have u3 := sp_1 (Q := Q) (b := a1) (S := S)
  refine ⟨fun h => ?_, fun h => ?_⟩
  · obtain ⟨x1, x2⟩ := h
    rw [if_pos x2] at u3
    have st : ∀ s, (ev_if ((0 : Int) ≤ a0 ∧ a0 < (6 : Int)) (ev_b (305 + 1 * Int.toNat a0) fun _ => jl_194_64 Q a0 a1 Q ((305 + 1 * Int.toNat a0)) 0 0 s)) = jl_194_64 Q a0 a1 Q (305 + a0.toNat) 0 0 s := fun s => by
      rw [sp_if (by omega), sp_b, Nat.one_mul]
    unfold jm_194
    rw [u3, sp_bd, if_neg (by omega), sp_b, if_neg (by omega), if_neg (by omega), if_neg (by omega)]
    simp only [st]
  · unfold jm_194
    rw [u3, sp_bd]
    by_cases x0 : a0 < 0
    · rw [if_pos x0]
    · rw [if_neg x0, sp_b]
      by_cases x1 : S.1 0 15 ≤ a0
      · rw [if_pos x1]
      · rw [if_neg x1, if_neg (show ¬ 6 ≤ a0 by omega), if_neg (show ¬ (0 ≤ a1 ∧ a1 < 3) by omega), if_pos rfl]
theorem r361 {M : Int} (h135 : T.1 621 135 = M) (hM : 0 ≤ M ∧ M ≤ 6) : (((0 ≤ a0 ∧ a0 < M) ∧ 0 ≤ a1 ∧ a1 < 3) → jm_361 Q a0 a1 T = ev_bd (jm_288 Q a1 (ev_pI T 621 0 0)) fun _ s => jl_361_50 Q a0 a1 Q (30 * a0) s) ∧ (¬ ((0 ≤ a0 ∧ a0 < M) ∧ 0 ≤ a1 ∧ a1 < 3) → jm_361 Q a0 a1 T = some (0, ev_pI T 621 0 1)) := by
  refine ⟨fun h => ?_, fun h => ?_⟩
  · obtain ⟨x1, x2⟩ := h
    have st : ∀ s, (ev_ck (30 * a0) fun x15 => jl_361_50 Q a0 a1 Q x15 s) = jl_361_50 Q a0 a1 Q (30 * a0) s := fun s => by
      rw [sp_ck (by omega)]
    unfold jm_361
    rw [sp_b, h135, sp_ck (by omega), sp_222e, sp_bd, sp_jn, sp_jn, if_pos (show 0 ≤ a0 ∧ a0 ≤ M - 1 by omega), if_neg (by decide), sp_325b, sp_bd, if_pos x2, if_neg (by decide)]
    try dsimp only
    rw [sp_b, sp_b, rd_eq, if_pos (Int.le_refl _)]
    simp only [st]
  · unfold jm_361
    rw [sp_b, h135, sp_ck (by omega), sp_222e, sp_bd, sp_jn, sp_jn]
    by_cases x1 : 0 ≤ a0 ∧ a0 ≤ M - 1
    · rw [if_pos x1, if_neg (by decide), sp_325b, sp_bd, if_neg (show ¬ (0 ≤ a1 ∧ a1 < 3) by omega), if_pos rfl]
      try dsimp only
      rw [sp_b, sp_b, rd_eq, if_neg (by decide)]
    · rw [if_neg x1, if_pos rfl]
      try dsimp only
      rw [sp_b, sp_b, rd_eq, if_neg (by decide)]
theorem op_28 (hQ : 40000000000 ≤ Q) (hn : 0 ≤ n ∧ n ≤ 511) (hK : sp_PT S) (hTR : sp_TR S) (hG : SG S) (hLG : LG n D S) (h8 : B8 D S S) (hRR : sp_RR S) (hRM : sp_RM S) (hL : L ≤ 3072) (hj : j + 6 ≤ L) : ∃ D' S2, (∀ K, ja_1952 Q L xs (j : Int) K S = K S2) ∧ LG (n + 1) D' S2 ∧ B8 D' S2 S2 ∧ sp_RR S2 ∧ sp_RM S2 ∧ sp_GR S S2 := by
  obtain ⟨a0, ha0⟩ : ∃ a, a = (xs (Int.toNat ((j : Int) + 1))).toInt := ⟨_, rfl⟩
  obtain ⟨a1, ha1⟩ : ∃ a, a = (xs (Int.toNat ((j : Int) + 2))).toInt := ⟨_, rfl⟩
  obtain ⟨⟨m1, m2⟩, m3, m4, m45, m5, m7⟩ := id hRR
  have r6 := RR_6 hRR
  have cl := c194 (Q := Q) (a0 := a0) (a1 := a1) (S := S) (by omega)
  have rf : ∀ X : ev_St, X.1 621 135 = S.1 621 135 → _ := fun X h1 => r361 (Q := Q) (T := X) (a0 := a0) (a1 := a1) (M := S.1 0 15) (h1.trans m3) ⟨by omega, by omega⟩
  by_cases hv : (0 ≤ a0 ∧ a0 < S.1 0 15) ∧ 0 ≤ a1 ∧ a1 < 3
  · have cl := cl.1 hv
    obtain ⟨G, hg⟩ : ∃ G : Nat, a0 = (G : Int) := ⟨a0.toNat, by omega⟩
    obtain ⟨b, hb⟩ : ∃ b : Nat, a1 = (b : Int) := ⟨a1.toNat, by omega⟩
    have hb3 : b < 3 := by omega
    have hG6 : G < 6 := by omega
    rw [show a0.toNat = G by omega, show a1.toNat = b by omega] at cl
    obtain ⟨g1, g2⟩ := hRM G (by omega)
    obtain ⟨cnt, hcnt⟩ : ∃ cnt : Nat, S.1 311 G = (cnt : Int) := ⟨(S.1 311 G).toNat, by omega⟩
    have hP : PLY S G cnt := by
      refine ⟨⟨hG6, by omega⟩, ⟨hcnt, (m5 G (by omega)).trans hcnt⟩, fun i hi => ?_⟩
      obtain ⟨⟨y1, y2, y3⟩, y4, y5, _⟩ := g2 i (by omega)
      exact ⟨(S.1 (305 + G) (3 * i)).toNat, (S.1 (305 + G) (3 * i + 1)).toNat, ⟨by omega, by omega⟩, ⟨by omega, by omega⟩, by omega, by omega, y3⟩
    obtain ⟨W, hW, _⟩ := sp_43 (Q := Q) (S := S) hb3
    obtain ⟨len, hl⟩ : ∃ len : Nat, S.1 (263 + 2 * b) 1 = (len : Int) := ⟨(S.1 (263 + 2 * b) 1).toNat, by have := (hLG.2.1.2.2.2.1 b hb3).1; omega⟩
    have dn : ∀ T, RFq S T → _ := fun T hT => play_done hQ hn hK hTR hG hLG h8 hP hb3 hl hW hT
    rw [hW, sp_bd] at cl
    have rr : ∀ X Y : ev_St, Y = ev_pI X 621 0 0 → X.1 621 135 = S.1 621 135 → ∀ T1 z, jm_288 Q (b : Int) Y = some ((), T1) → jl_361_50 Q (G : Int) (b : Int) Q (30 * (G : Int)) T1 = z → jm_361 Q a0 a1 X = z := fun X Y hY h1 T1 z q1 q2 => by
      rw [(rf X h1).1 hv, ← hY, hb, q1, sp_bd, hg]
      exact q2
    obtain ⟨_, _, alt⟩ := dn S ⟨fun _ _ _ _ _ _ _ => rfl, fun _ _ _ => rfl⟩
    rcases alt with ⟨S', _, s1, _, _, s2, s3, s4, s5, _⟩ | ⟨v, D1, C, _, s1, _, _, _, _, s3, s4, s5, s6⟩
    · rw [hg, hb, s1] at cl
      rw [← hg, ← hb] at cl
      obtain ⟨X, hX⟩ : ∃ X, X = ev_pI (ev_tick S') 621 0 0 := ⟨_, rfl⟩
      have xI : ∀ c g, ¬ (c = 621 ∧ g = 0) → X.1 c g = S'.1 c g := fun c g y => by
        rw [hX, sp_pI1, if_neg y]
        rfl
      obtain ⟨T1, q1, q4⟩ := dn X ⟨fun c g y1 y2 y3 y4 y5 => by rw [xI c g (by omega), s2 c g (by omega)], fun c g _ => by rw [hX]; exact s3 c g⟩
      rcases q4 with ⟨S'', T', z1, z2, z3, z4, z5, z6, z7, z8⟩ | ⟨v', _, C', _, z1, _⟩
      · have ra := rr (ev_tick S') X hX (s2 _ _ (by omega)) T1 _ q1 z2
        refine ⟨D, ev_pI T' 621 0 2, fun K => la_28 (c := 2) (b := 0) hL hj (by rw [← ha0, ← ha1]; exact lw_28_x1 a0 a1 cl) (by rw [← ha0, ← ha1]; exact ra) rd_eq (fun z => absurd z (by decide)), ?_⟩
        have gI : ∀ c g, ¬ (269 ≤ c ∧ c ≤ 283) → ¬ (c = 621 ∧ (g = 0 ∨ (73 ≤ g ∧ g ≤ 105) ∨ g = 113)) → ¬ (678 ≤ c ∧ c ≤ 699) → ¬ (702 ≤ c ∧ c ≤ 706) → (ev_pI T' 621 0 2).1 c g = S.1 c g := fun c g y1 y2 y3 y4 => by rw [sp_pI1, if_neg (by omega), z8.1 c g (by omega) y3 y4, xI c g (by omega), s2 c g y1]
        have gL : ∀ c g, (ev_pI T' 621 0 2).2.1 c g = S.2.1 c g := fun c g => by
          show T'.2.1 c g = _
          rw [z8.2.1, hX]
          exact s3 c g
        have gR : ∀ c g, c ≠ 281 → (ev_pI T' 621 0 2).2.2.1 c g = S.2.2.1 c g := fun c g y => by
          show T'.2.2.1 c g = _
          rw [z8.2.2.1, hX]
          exact s4 c g y
        have gN : (ev_pI T' 621 0 2).2.2.2 = (ev_tick S').2.2.2 := by
          show T'.2.2.2 = _
          rw [z8.2.2.2, hX]
          rfl
        have hNn : ev_sN (ev_pI T' 621 0 2) = ev_sN S := by
          unfold ev_sN
          rw [gN, ← s5]
          rfl
        have hCc : ev_sC (ev_pI T' 621 0 2) ≤ ev_sC S + 1 := by
          unfold ev_sC
          rw [gN, ← s5]
          exact Nat.le_refl _
        have hZz : ev_sZ (ev_pI T' 621 0 2) ≤ ev_sZ S + 6 := by
          unfold ev_sZ
          rw [gN, ← s5]
          exact Nat.le_refl _
        refine ⟨LG_of (L2_mono (by omega) (L2_c2 (L2_of hLG) (fun k g hk => gI k g (by omega) (by omega) (by omega) (by omega)) (fun a j ha => gR a j (by omega)) hNn (fun k g hk => gI k g (by omega) (by omega) (by omega) (by omega)))), B8_c h8 (fun b hb => gI _ _ (by omega) (by omega) (by omega) (by omega)) (gI _ _ (by omega) (by omega) (by omega) (by omega)) (fun g => gI _ _ (by omega) (by omega) (by omega) (by omega)), RR_c hRR (fun c g y => gI c g (by omega) (by omega) (by omega) (by omega)), RM_c hRM (fun c g y => gI c g (by omega) (by omega) (by omega) (by omega)) r6, fun c g y1 y2 => ?_, fun c g _ => gL c g, fun c g _ _ y => gR c g y, by omega, by omega⟩
        unfold sp_W20 at y2
        exact gI c g (by omega) (by omega) (by omega) (by omega)
      · have z := s1.symm.trans z1
        have z := congrArg Prod.fst (Option.some.inj z)
        exact absurd z (by intro h; cases h)
    · rw [hg, hb, s1] at cl
      rw [← hg, ← hb] at cl
      obtain ⟨X, hX⟩ : ∃ X, X = ev_pI (ev_pL C 723 0 (ev_i2l v)) 621 0 0 := ⟨_, rfl⟩
      have xI : ∀ c g, ¬ (c = 621 ∧ g = 0) → X.1 c g = C.1 c g := fun c g y => by
        rw [hX, sp_pI1, if_neg y]
        rfl
      have xL : ∀ c g, X.2.1 c g = if c = 723 ∧ g = 0 then ev_i2l v else S.2.1 c g := fun c g => by
        rw [hX, sp_pI2, sp_pL2, s4]
      have xR : X.2.2 = C.2.2 := by
        rw [hX]
        rfl
      have xC : ∀ c g, 621 ≤ c → c < 723 → ¬ (c = 621 ∧ g = 0) → X.1 c g = S.1 c g := fun c g y1 y2 y3 => by rw [xI c g y3, s3 c g (by omega) (by omega) (by omega) (by omega) (by omega)]
      obtain ⟨T1, q1, q4⟩ := dn X ⟨fun c g y1 y2 y3 y4 y5 => xC c g y1 y2 (by omega), fun c g y => by rw [xL, if_neg (fun z => y z.1)]⟩
      rcases q4 with ⟨S'', _, z1, _⟩ | ⟨v', D', C', T5, z1, z2, z5, z6, z7, z8, z9, z10, z11⟩
      · have z := congrArg Prod.fst (Option.some.inj (s1.symm.trans z1))
        exact absurd z (by intro h; cases h)
      · have zb : C = C' := congrArg Prod.snd (Option.some.inj (s1.symm.trans z1))
        have za : v = v' := Sum.inl.inj (congrArg Prod.fst (Option.some.inj (s1.symm.trans z1)))
        subst za
        subst zb
        have ra := rr (ev_pL C 723 0 (ev_i2l v)) X hX (s3 _ _ (by omega) (by omega) (by omega) (by omega) (by omega)) T1 _ q1 z2
        have t5X : ∀ c g, ¬ (c = 621 ∧ ((73 ≤ g ∧ g ≤ 105) ∨ g = 113 ∨ g = 125 ∨ g = 126 ∨ g = 128 ∨ g = 130 ∨ g = 131)) → ¬ (678 ≤ c ∧ c ≤ 699) → ¬ (702 ≤ c ∧ c ≤ 708) → c ≠ 710 → ¬ (712 ≤ c ∧ c ≤ 715) → T5.1 c g = X.1 c g := z7.1
        have t5C : ∀ c g, c < 621 ∨ 723 ≤ c → T5.1 c g = C.1 c g := fun c g y1 => by rw [t5X c g (by omega) (by omega) (by omega) (by omega) (by omega), xI c g (by omega)]
        have t5R : ∀ c g, T5.2.2.1 c g = C.2.2.1 c g := fun c g => by rw [z7.2.2.1, xR]
        have t5N : T5.2.2.2 = C.2.2.2 := by rw [z7.2.2.2, xR]
        have t5L : ∀ c g, T5.2.1 c g = if c = 723 ∧ g = 0 then ev_i2l v else S.2.1 c g := fun c g => by rw [z7.2.1, xL]
        have gI : ∀ c g, c < 724 → ¬ (269 ≤ c ∧ c ≤ 283) → c ≠ 258 → ¬ (261 ≤ c ∧ c ≤ 268) → ¬ (c = 254 ∧ 9 ≤ g ∧ g ≤ 13) → ¬ (c = 621 ∧ (g = 0 ∨ (73 ≤ g ∧ g ≤ 105) ∨ g = 113 ∨ g = 125 ∨ g = 126 ∨ g = 128 ∨ g = 130 ∨ g = 131)) → ¬ (678 ≤ c ∧ c ≤ 699) → ¬ (702 ≤ c ∧ c ≤ 708) → c ≠ 710 → ¬ (712 ≤ c ∧ c ≤ 715) → T5.1 c g = S.1 c g := fun c g y1 y2 y3 y4 y5 y6 y7 y8 y9 y10 => by rw [t5X c g (by omega) y7 y8 y9 y10, xI c g (by omega), s3 c g y1 y2 y3 y4 y5]
        have o0 : T5.1 621 0 = 0 := by rw [t5X 621 0 (by omega) (by omega) (by omega) (by omega) (by omega), hX, rd_eq]
        refine ⟨D', T5, fun K => la_28 (c := 0) (b := v) hL hj (by rw [← ha0, ← ha1]; exact lw_28_ok a0 a1 cl) (by rw [← ha0, ← ha1]; exact ra) o0 (fun _ => by rw [t5L, if_pos ⟨rfl, rfl⟩]), LG_of (L2_c2 z5 (fun k g hk => t5C k g (by omega)) (fun a j _ => t5R a j) (by unfold ev_sN; rw [t5N]) (fun _ _ _ => rfl)), B8_c z6 (fun b hb => t5C _ _ (by omega)) (t5C _ _ (by omega)) (fun _ => rfl), RR_c hRR (fun c g y => gI c g (by omega) (by omega) (by omega) (by omega) (by omega) (by omega) (by omega) (by omega) (by omega) (by omega)), RM_c hRM (fun c g y => gI c g (by omega) (by omega) (by omega) (by omega) (by omega) (by omega) (by omega) (by omega) (by omega) (by omega)) r6, fun c g y1 y2 => ?_, fun c g y => by rw [t5L, if_neg (fun z => y z.1)], fun c g y1 y2 y3 => by rw [t5R]; exact s5 c g y1 y2 y3, ?_, ?_⟩
        · unfold sp_W20 at y2
          exact gI c g y1 (by omega) (by omega) (by omega) (by omega) (by omega) (by omega) (by omega) (by omega) (by omega)
        · have q := s6.1
          unfold ev_sC ev_sN at q ⊢
          rw [t5N]
          omega
        · have q := s6.2
          unfold ev_sZ ev_sN at q ⊢
          rw [t5N]
          omega
  · refine ⟨D, ev_pI (ev_tick S) 621 0 1, fun K => la_28 (c := 1) (b := 0) hL hj (by rw [← ha0, ← ha1]; exact lw_28_x0 a0 a1 (cl.2 hv)) (by rw [← ha0, ← ha1]; exact (rf (ev_tick S) rfl).2 hv) rd_eq (fun z => absurd z (by decide)), rp_no hn hLG h8 hRR hRM (fun c g y1 y2 y3 y4 => by rw [sp_pI1, if_neg (by omega)]; rfl) (fun c g _ => rfl) (fun c g _ => rfl) rfl (Nat.le_refl _) (Nat.le_refl _)⟩
end OSR
