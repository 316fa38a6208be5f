/-! STREAMS: a stream begins -/
section ORW
variable {Q s p len B B2 L j : Nat} {xs : Nat → Int32} {S S1 S2 T U V : ev_St} {an : Bool} {a x y v : Int}
/-- the class's begin -/
theorem st_begin {L2 : List INS} {P : Nat → T3} {lv : SNs} (hs : s < 4) (hU : StU s S) (hP : PRf p L2 P lv S) (hb : x = 0 ∨ x = 1) (hQ : 6000 ≤ Q) : ∃ V, jm_147 Q (569 + 13 * s) (313 + 20 * p + 12 + 1) x S = some ((), V) ∧ (∀ c i, ¬ (569 + 13 * s + 3 ≤ c ∧ c ≤ 569 + 13 * s + 12) → ¬ (c = 569 + 13 * s ∧ i = 2) → V.1 c i = S.1 c i) ∧ V.1 (569 + 13 * s) 2 = x ∧ V.2.1 = S.2.1 ∧ (∀ c i, c ≠ 569 + 13 * s + 3 → V.2.2.1 c i = S.2.2.1 c i) ∧ V.2.2.2 = S.2.2.2 ∧ SSc (569 + 13 * s + 3) (313 + 20 * p + 12) 1 L2.length P (sX V (569 + 13 * s + 1) 0 L2) lv an 1 0 V := by
  obtain ⟨⟨a1, a2, a3, a4⟩, ⟨b1, b2⟩, c1, d1, e1, f1, g1⟩ := hU
  obtain ⟨W, hW⟩ : ∃ W, W = ev_pI (ev_pI (ev_pI (ev_pR (ev_pI S (569 + 13 * s) 2 x) (569 + 13 * s + 3) 11 (313 + 20 * p + 12 + 1)) (569 + 13 * s + 3) 15 0) (569 + 13 * s + 3) 14 0) (569 + 13 * s + 3) 7 1 := ⟨_, rfl⟩
  have wI : ∀ c i, ¬ (c = 569 + 13 * s + 3 ∧ (i = 7 ∨ i = 14 ∨ i = 15)) → ¬ (c = 569 + 13 * s ∧ i = 2) → W.1 c i = S.1 c i := fun c i y1 y2 => by
    rw [hW, sp_pI1, if_neg (by omega), sp_pI1, if_neg (by omega), sp_pI1, if_neg (by omega)]
    show (ev_pI S (569 + 13 * s) 2 x).1 c i = _
    rw [sp_pI1, if_neg y2]
  have wR : ∀ c i, W.2.2.1 c i = if c = 569 + 13 * s + 3 ∧ i = 11 then 313 + 20 * p + 12 + 1 else S.2.2.1 c i := fun c i => by
    rw [hW]
    rfl
  have wL : W.2.1 = S.2.1 := by rw [hW]; rfl
  have w4 : W.2.2.2 = S.2.2.2 := by rw [hW]; rfl
  have j158 : jm_158 Q (569 + 13 * s + 3) (313 + 20 * p + 12 + 1) (ev_pI S (569 + 13 * s) 2 x) = some ((), W) := by
    unfold jm_158
    have e7 : (ev_pI (ev_pI (ev_pR (ev_pI S (569 + 13 * s) 2 x) (569 + 13 * s + 3) 11 (313 + 20 * p + 12 + 1)) (569 + 13 * s + 3) 15 0) (569 + 13 * s + 3) 14 0).1 (569 + 13 * s + 3) 7 = 0 := by
      rw [rd_nf (by decide), rd_nf (by decide)]
      show (ev_pI S (569 + 13 * s) 2 x).1 (569 + 13 * s + 3) 7 = 0
      rw [rd_nf (by decide)]
      exact b2
    rw [sp_b, sp_b, sp_b, sp_b, e7, sp_ck (by omega), sp_b, hW]
    rfl
  have hPW : PRf p L2 P lv W := PRf_c hP (fun c i y1 y2 => wI c i (by omega) (by omega)) (fun c i _ _ => by rw [wL])
  have hl : W.1 (569 + 13 * s + 1) 1 = ((0 : Nat) : Int) := by
    rw [wI _ _ (by omega) (by omega)]
    exact d1
  have sw : SWc (569 + 13 * s + 3) (313 + 20 * p + 12) 1 (569 + 13 * s + 3 + 1) (569 + 13 * s + 3 + 2) (569 + 13 * s + 3 + 8) (569 + 13 * s + 3 + 9) 1 W := by
    refine ⟨⟨by rw [wR, if_pos ⟨rfl, rfl⟩], by rw [wR, if_neg (by omega)]; exact a1, by rw [wR, if_neg (by omega)]; exact a2, by rw [wR, if_neg (by omega)]; exact a3, by rw [wR, if_neg (by omega)]; exact a4⟩, ⟨by rw [wI _ _ (by omega) (by omega)]; exact b1, ?_⟩, Or.inl ⟨rfl, rfl⟩, Or.inl ⟨rfl, rfl⟩⟩
    rw [hW, rd_eq]
    rfl
  have w14 : W.1 (569 + 13 * s + 3) 14 = 0 := by
    rw [hW, rd_nf (by decide), rd_eq]
  have w15 : W.1 (569 + 13 * s + 3) 15 = 0 := by
    rw [hW, rd_nf (by decide), rd_nf (by decide), rd_eq]
  obtain ⟨V, v1, v2, v3⟩ := cl_first (Q := Q) (an := an) (B := 1) (RST_st hPW hs hl (by omega)) hQ sw (Nat.le_refl 1) (fun i hi => by
    rw [wI _ _ (by omega) (by omega), c1 i hi]
    decide) w14 w15
  refine ⟨V, ?_, fun c i y1 y2 => ?_, ?_, v2.2.1.trans wL, fun c i y => ?_, v2.2.2.2.trans w4, SSc_X v3 hP.2.2.2.2.2.1 hP.2.2.1 (fun j i hj _ _ => absurd hj (Nat.not_lt_zero j))⟩
  · unfold jm_147
    rw [sp_if hb, sp_b, j158, sp_bd, v1, sp_bd]
  · rw [v2.1 c i (by omega), wI c i (by omega) y2]
  · rw [v2.1 _ _ (by omega), hW, rd_nk (by omega), rd_nk (by omega), rd_nk (by omega)]
    exact (rd_eq : (ev_pI S (569 + 13 * s) 2 x).1 (569 + 13 * s) 2 = x)
  · rw [v2.2.2.1 c i (by omega), wR, if_neg (fun z => y z.1)]
theorem op_29 (hQ : 1000000 ≤ Q) (hK : sp_PT S) (hST : sp_ST B S) (hD : sp_DR S) (hL : L ≤ 3072) (hj : j + 6 ≤ L) : ∃ S2, (∀ K, ja_2020 Q L xs (j : Int) K S = K S2) ∧ sp_FT S S2 ∧ sp_ST (B + 90) S2 ∧ sp_DR S2 := by
  obtain ⟨a, ha⟩ : ∃ a, a = (xs (Int.toNat ((j : Int) + 1))).toInt := ⟨_, rfl⟩
  obtain ⟨b, hb⟩ : ∃ b, b = sp_nz ((xs (Int.toNat ((j : Int) + 2))).toInt) := ⟨_, rfl⟩
  have b01 : b = 0 ∨ b = 1 := by
    rw [hb]
    exact sp_nz01 _
  obtain ⟨t1, t2, t3⟩ := hST.1
  obtain ⟨k1, k2, k3⟩ := hK.1
  have l718 : ev_aln 718 = 4 := al_318.2.2.2.2.2.2.2.2.1
  have l719 : ev_aln 719 = 4 := al_318.2.2.2.2.2.2.2.2.2.1
  have no : ∀ cc : Int, cc ≠ 0 → jm_392 Q (0 + 1) a b (723 + 1) S = some (cc, ev_tick S) → jm_321 Q a b (ev_tick S) = some (0, ev_pI (ev_pI (ev_tick S) 621 0 0) 621 0 cc) → ∃ S2, (∀ K, ja_2020 Q L xs (j : Int) K S = K S2) ∧ sp_FT S S2 ∧ sp_ST (B + 90) S2 ∧ sp_DR S2 := fun cc c0 h1 h2 => by
    rw [pI_pI] at h2
    exact ⟨_, fun K => la_29 (c := cc) (b := 0) hL hj (by rw [← ha, ← hb]; exact h1) (by rw [← ha, ← hb]; exact h2) rd_eq (fun z => absurd z c0), st_no hST hD k2⟩
  have c73 : ∀ X : ev_St, X.1 621 5 = S.1 621 5 → jm_273 Q a X = some (if 0 ≤ a ∧ a < S.1 0 5 then 1 else 0, X) := fun X hX => c273 (hX.trans k3) ⟨k1, k2⟩
  by_cases h : 0 ≤ a ∧ a < S.1 0 5
  · obtain ⟨p, hp⟩ : ∃ p : Nat, a = (p : Int) := ⟨a.toNat, by omega⟩
    have ap : a.toNat = p := by omega
    have c200 := (sp_200 (Q := Q) (a := a) hK).1 h
    rw [ap] at c200
    have kn := (kp_num (hK.2 p (by omega))).2.1
    have l639 : ¬ (¬ ((0 : Int) ≤ a ∧ a < (ev_aln 639 : Int))) := fun z => z (by
      rcases al_639 with q | q <;> rw [q] <;> omega)
    have l39 : (0 : Int) ≤ a ∧ a < (ev_aln 639 : Int) := Decidable.not_not.mp l639
    by_cases z : S.1 (313 + 20 * p) 15 = 0
    · have s39 : S.1 639 p < 2 := by
        rcases kn with y | y | y <;> omega
      refine no 2 (by decide) (lw_29_x1 a b ?_) ?_
      · unfold jm_195
        rw [c200, sp_bd, if_neg (by omega), show 313 + 20 * p + 1 - 1 = 313 + 20 * p from rfl, sp_b, if_pos z]
      · unfold jm_321
        rw [sp_b, c73 (ev_pI (ev_tick S) 621 0 0) (rd_nf (by decide)), if_pos h, sp_bd, if_pos (by decide), sp_if l39, sp_b, ap, sp_jn, rd_nk (by decide), show (ev_tick S).1 639 p = S.1 639 p from rfl, if_pos s39]
        rfl
    · have s39 : ¬ S.1 639 p < 2 := by
        rcases kn with y | y | y <;> omega
      by_cases w : S.1 0 18 < 4
      · obtain ⟨s, hs⟩ : ∃ s : Nat, S.1 0 18 = (s : Int) := ⟨(S.1 0 18).toNat, by omega⟩
        have hs4 : s < 4 := by omega
        have su := hST.2.2 s hs4 (by omega)
        obtain ⟨N, M, φ, ψ, own, up, lo, L2, b1, b2, b3, b4, b5, b6⟩ := st_prog hK ⟨by omega, z⟩
        obtain ⟨V, v1, v2, v3, v4, v5, v6, v7⟩ := st_begin (Q := Q) (an := decide (b ≠ 0)) hs4 su b6 b01 (by omega)
        have su0 := su
        obtain ⟨_, _, _, d1, e1, f1, g1⟩ := su0
        obtain ⟨V2, hV2⟩ : ∃ V2, V2 = ev_pI V 0 18 ((s : Int) + 1) := ⟨_, rfl⟩
        have cl : jm_195 Q a b S = some (.inl (s : Int), V2) := by
          unfold jm_195
          rw [c200, sp_bd, if_neg (by omega), show 313 + 20 * p + 1 - 1 = 313 + 20 * p from rfl, sp_b, if_neg z, sp_b, if_pos w, sp_b, sp_if (by omega), sp_b, hs, Int.toNat_natCast, v1, sp_bd, sp_b, v2 0 18 (by omega) (by omega), hs, sp_ck (by omega), sp_b, sp_b, rd_eq, sp_ck (by omega), ← hV2, show (s : Int) + 1 - 1 = (s : Int) by omega]
        obtain ⟨T, hT⟩ : ∃ T, T = ev_pI (ev_pL V2 723 0 (ev_i2l (s : Int))) 621 0 0 := ⟨_, rfl⟩
        obtain ⟨U, hU⟩ : ∃ U, U = ev_pI (ev_pI (ev_pI T 718 s a) 719 s b) 621 139 ((s : Int) + 1) := ⟨_, rfl⟩
        have tI : ∀ c g, ¬ (c = 621 ∧ g = 0) → ¬ (c = 0 ∧ g = 18) → T.1 c g = V.1 c g := fun c g y1 y2 => by
          rw [hT, sp_pI1, if_neg y1]
          show V2.1 c g = _
          rw [hV2, sp_pI1, if_neg y2]
        have uT : ∀ c g, ¬ (c = 718 ∧ g = s) → ¬ (c = 719 ∧ g = s) → ¬ (c = 621 ∧ g = 139) → U.1 c g = T.1 c g := fun c g y1 y2 y3 => by rw [hU, sp_pI1, if_neg y3, sp_pI1, if_neg y2, sp_pI1, if_neg y1]
        have uV : ∀ c g, ¬ (c = 621 ∧ (g = 0 ∨ g = 139)) → ¬ (c = 0 ∧ g = 18) → ¬ (c = 718 ∧ g = s) → ¬ (c = 719 ∧ g = s) → U.1 c g = V.1 c g := fun c g y1 y2 y3 y4 => by rw [uT c g y3 y4 (by omega), tI c g (by omega) y2]
        have uI : ∀ c g, ¬ (569 + 13 * s ≤ c ∧ c ≤ 569 + 13 * s + 12) → ¬ (c = 621 ∧ (g = 0 ∨ g = 139)) → ¬ (c = 0 ∧ g = 18) → ¬ (c = 718 ∧ g = s) → ¬ (c = 719 ∧ g = s) → U.1 c g = S.1 c g := fun c g y0 y1 y2 y3 y4 => by rw [uV c g y1 y2 y3 y4, v2 c g (by omega) (by omega)]
        have uL : ∀ c g, U.2.1 c g = if c = 723 ∧ g = 0 then ev_i2l (s : Int) else S.2.1 c g := fun c g => by
          rw [← v4, hU, hT, hV2]
          rfl
        have ul : ∀ c g, c ≠ 723 → U.2.1 c g = S.2.1 c g := fun c g y => by rw [uL, if_neg (fun z => y z.1)]
        have ur : ∀ c i, U.2.2.1 c i = V.2.2.1 c i := fun c i => by
          rw [hU, hT, hV2]
          rfl
        have ut : U.2.2.2 = S.2.2.2 := by
          rw [← v6, hU, hT, hV2]
          rfl
        have kw : ∀ c g, 569 + 13 * s ≤ c → c ≤ 569 + 13 * s + 12 → U.1 c g = V.1 c g := fun c g y1 y2 => uV c g (by omega) (by omega) (by omega) (by omega)
        have e718 : U.1 718 s = a := by rw [hU, rd_nk (by decide), rd_nk (by decide), rd_eq]
        have e719 : U.1 719 s = b := by rw [hU, rd_nk (by decide), rd_eq]
        have e139 : U.1 621 139 = (s : Int) + 1 := by rw [hU, rd_eq]
        have e18 : U.1 0 18 = (s : Int) + 1 := by
          rw [uT _ _ (by omega) (by omega) (by omega), hT, rd_nk (by decide)]
          show V2.1 0 18 = _
          rw [hV2, rd_eq]
        have rf : jm_321 Q a b (ev_pL V2 723 0 (ev_i2l (s : Int))) = some ((s : Int), U) := by
          have q5 : T.1 621 5 = S.1 621 5 := by rw [tI _ _ (by omega) (by omega), v2 _ _ (by omega) (by omega)]
          have q39 : T.1 639 p = S.1 639 p := by rw [tI _ _ (by omega) (by omega), v2 _ _ (by omega) (by omega)]
          have q139 : T.1 621 139 = (s : Int) := by rw [tI _ _ (by omega) (by omega), v2 _ _ (by omega) (by omega), t3, hs]
          unfold jm_321
          rw [sp_b, ← hT, c73 T q5, if_pos h, sp_bd, if_pos (by decide), sp_if l39, sp_b, ap, sp_jn, q39, if_neg s39, sp_b, q139, if_pos (by omega), sp_b, sp_if (by rw [l718]; omega), sp_b, Int.toNat_natCast, sp_b, rd_nk (by decide), q139, sp_if b01, sp_if (by rw [l719]; omega), sp_b, Int.toNat_natCast, sp_b, rd_nk (by decide), rd_nk (by decide), q139, sp_ck (by omega), sp_b, sp_b, rd_eq, sp_ck (by omega), ← hU, show (s : Int) + 1 - 1 = (s : Int) by omega]
        have fu : sp_FT S U := ⟨fun c g y => by
          unfold sp_WT at y
          exact uI c g (by omega) (by omega) (by omega) (by omega) (by omega), ul, fun c g y => by rw [ur]; exact v5 c g (by omega), by rw [ut], by rw [ut], by rw [ut]; exact Nat.le_succ _, by rw [ut]; exact Nat.le_add_right _ _⟩
        have sU : StL s (B + 90) U := by
          refine ⟨p, 0, L2, decide (b ≠ 0), ⟨by rw [uI _ _ (by omega) (by omega) (by omega) (by omega) (by omega)]; omega, by rw [e718, hp], by rw [uI _ _ (by omega) (by omega) (by omega) (by omega) (by omega)]; exact z⟩, ⟨by rw [kw _ _ (by omega) (by omega), v3, e719], by rw [e719]; exact decide_eq_true_iff⟩, by rw [kw _ _ (by omega) (by omega), v2 _ _ (by omega) (by omega), uI 720 _ (by omega) (by omega) (by omega) (by omega) (by omega), e1, f1], ⟨by rw [uI _ _ (by omega) (by omega) (by omega) (by omega) (by omega)]; exact g1, by rw [kw _ _ (by omega) (by omega), v2 _ _ (by omega) (by omega)]; exact d1, Nat.zero_le _⟩, fun i hi => absurd hi (Nat.not_lt_zero i), PL_c b2.1 (fun c i y1 y2 => uI c i (by omega) (by omega) (by omega) (by omega) (by omega)) (fun c i y1 y2 => ul c i (by omega)), ?_⟩
          rw [show tQ p U = tQ p S from tQ_c (fun c i y1 y2 _ _ => uI c i (by omega) (by omega) (by omega) (by omega) (by omega)), show lvB (313 + 20 * p + 12) U = lvB (313 + 20 * p + 12) S from lvB_c (fun i => uI _ i (by omega) (by omega) (by omega) (by omega) (by omega)), show sX U (569 + 13 * s + 1) 0 L2 = sX V (569 + 13 * s + 1) 0 L2 from sX_c (at_c2 (kw _ _ (by omega) (by omega)) (fun i => kw _ _ (by omega) (by omega)))]
          exact SSc_c v7 (by omega) (fun c i y1 y2 => kw c i (by omega) (by omega)) (fun i => ur _ _)
        have sT : sp_ST (B + 90) U := ST_one hST (Nat.le_add_right _ _) hs4 k2 ⟨by rw [e18]; omega, by rw [e18]; omega, by rw [e18, e139]⟩ (fun t y => by rw [e18, hs]; omega) (by rw [e18]; omega) sU (fun c g y1 y2 y3 y4 y5 y6 => uI c g (by omega) (by omega) y4 (by omega) (by omega)) ul (fun c i y => by rw [ur]; exact v5 c i y)
        exact ⟨U, fun K => la_29 (c := 0) (b := (s : Int)) hL hj (by rw [← ha, ← hb]; exact lw_29_ok a b cl) (by rw [← ha, ← hb]; exact rf) (by rw [uT _ _ (by omega) (by omega) (by omega), hT, rd_eq]) (fun _ => by rw [uL, if_pos ⟨rfl, rfl⟩]), fu, sT, DR_c2 (fun c g y => uI c g (by omega) (by omega) (by omega) (by omega) (by omega)) hD⟩
      · refine no 2 (by decide) (lw_29_x1 a b ?_) ?_
        · unfold jm_195
          rw [c200, sp_bd, if_neg (by omega), show 313 + 20 * p + 1 - 1 = 313 + 20 * p from rfl, sp_b, if_neg z, sp_b, if_neg w]
        · have q4 : ¬ (ev_pI (ev_tick S) 621 0 0).1 621 139 ≠ 4 := fun y => y (by
            rw [rd_nf (by decide)]
            show S.1 621 139 = 4
            omega)
          unfold jm_321
          rw [sp_b, c73 (ev_pI (ev_tick S) 621 0 0) (rd_nf (by decide)), if_pos h, sp_bd, if_pos (by decide), sp_if l39, sp_b, ap, sp_jn, rd_nk (by decide), show (ev_tick S).1 639 p = S.1 639 p from rfl, if_neg s39, sp_b, if_neg q4]
          rfl
  · have c200 := (sp_200 (Q := Q) (a := a) hK).2 h
    refine no 1 (by decide) (lw_29_x0 a b ?_) ?_
    · unfold jm_195
      rw [c200, sp_bd, if_pos rfl]
    · unfold jm_321
      rw [sp_b, c73 (ev_pI (ev_tick S) 621 0 0) (rd_nf (by decide)), if_neg h, sp_bd, if_neg (fun z => z rfl)]
      rfl
end ORW
