/-! STREAMS: feed -/
section ORV
variable {Q s p len B B2 L j : Nat} {xs : Nat → Int32} {S S1 S2 T U V : ev_St} {an : Bool} {a x y v : Int}
/-- the reference's loop that takes the draft -/
theorem r_feed {D len0 : Nat} (hs : s < 4) (hD : S.1 621 1 = (D : Int)) (hl2 : len0 + D ≤ 80) : ∀ (m q i : Nat) (T : ev_St), i + m = D → m < q → (∀ c g, ¬ (c = 721 ∧ g = s) → ¬ (c = 722 ∧ 80 * s + len0 ≤ g ∧ g < 80 * s + len0 + D) → T.1 c g = S.1 c g) → T.2 = S.2 → T.1 721 s = ((len0 + i : Nat) : Int) → (∀ j, j < i → T.1 722 (80 * s + (len0 + j)) = S.1 622 j) → ∃ U, jl_322_52 Q (s : Int) q (i : Int) T = (ev_bd (jm_319 Q (s : Int) U) fun x26 s25 => some (x26, s25)) ∧ (∀ c g, ¬ (c = 621 ∧ g = 1) → ¬ (c = 721 ∧ g = s) → ¬ (c = 722 ∧ 80 * s + len0 ≤ g ∧ g < 80 * s + len0 + D) → U.1 c g = S.1 c g) ∧ U.2 = S.2 ∧ U.1 621 1 = 0 ∧ U.1 721 s = ((len0 + D : Nat) : Int) ∧ ∀ j, j < D → U.1 722 (80 * s + (len0 + j)) = S.1 622 j
  | m, 0, i, T, _, h, _, _, _, _ => by omega
  | 0, q + 1, i, T, h1, _, f, f2, g1, g2 => by
    have e : i = D := by omega
    subst e
    refine ⟨ev_pI T 621 1 0, ?_, fun c g y1 y2 y3 => by rw [sp_pI1, if_neg y1]; exact f c g y2 y3, f2, rd_eq, by rw [rd_nk (by decide)]; exact g1, fun j hj => by rw [rd_nk (by decide)]; exact g2 j hj⟩
    show jb_322_52 Q (s : Int) (jl_322_52 Q (s : Int) q) (i : Int) T = _
    unfold jb_322_52
    rw [sp_b, f 621 1 (by omega) (by omega), hD, if_pos (Int.le_refl _), sp_b]
  | m + 1, q + 1, i, T, h1, h2, f, f2, g1, g2 => by
    have l721 : ev_aln 721 = 4 := al_318.2.2.2.2.2.2.2.2.2.2.2.1
    have l722 : ev_aln 722 = 320 := al_318.2.2.2.2.2.2.2.2.2.2.2.2.1
    have l622 : ev_aln 622 = 120 := by decide +kernel
    obtain ⟨T1, hT1⟩ : ∃ T1, T1 = ev_pI T 722 (80 * s + (len0 + i)) (T.1 622 i) := ⟨_, rfl⟩
    obtain ⟨T2, hT2⟩ : ∃ T2, T2 = ev_pI T1 721 s ((len0 + (i + 1) : Nat) : Int) := ⟨_, rfl⟩
    have i1 : T.1 622 i = S.1 622 i := f _ _ (by omega) (by omega)
    have e2 : ∀ c g, ¬ (c = 721 ∧ g = s) → ¬ (c = 722 ∧ g = 80 * s + (len0 + i)) → T2.1 c g = T.1 c g := fun c g y1 y2 => by rw [hT2, sp_pI1, if_neg y1, hT1, sp_pI1, if_neg y2]
    obtain ⟨U, u1, u2⟩ := r_feed hs hD hl2 m q (i + 1) T2 (by omega) (by omega) (fun c g y1 y2 => by rw [e2 c g y1 (by omega)]; exact f c g y1 y2) (by rw [hT2, hT1]; exact f2) (by rw [hT2, rd_eq]) (fun j hj => by
      by_cases e : j = i
      · rw [e, hT2, rd_nk (by decide), hT1, rd_eq, i1]
      · rw [e2 _ _ (by omega) (by omega)]
        exact g2 j (by omega))
    refine ⟨U, ?_, u2⟩
    show jb_322_52 Q (s : Int) (jl_322_52 Q (s : Int) q) (i : Int) T = _
    unfold jb_322_52
    rw [sp_b, f 621 1 (by omega) (by omega), hD, if_neg (by omega), sp_ck (by omega), sp_if (by rw [l721]; omega), sp_b, Int.toNat_natCast, g1, sp_ck (by omega), sp_if (by rw [l622]; omega), sp_b, Int.toNat_natCast, sp_if (by rw [l722]; omega), sp_b, show (80 * (s : Int) + ((len0 + i : Nat) : Int)).toNat = 80 * s + (len0 + i) by omega, ← hT1, sp_if (by rw [l721]; omega), sp_b, show T1.1 721 s = ((len0 + i : Nat) : Int) from by rw [hT1, rd_nk (by decide)]; exact g1, sp_ck (by omega), sp_if (by rw [l721]; omega), sp_b, show ((len0 + i : Nat) : Int) + 1 = ((len0 + (i + 1) : Nat) : Int) by omega, ← hT2, sp_ck (by omega), show (i : Int) + 1 = ((i + 1 : Nat) : Int) by omega]
    exact u1
theorem op_30 (hQ : 1000000 ≤ Q) (hK : sp_PT S) (hZ : sp_ZR S) (hST : sp_ST B S) (hD : sp_DR S) (hB : B ≤ 1999999000) (hL : L ≤ 3072) (hj : j + 6 ≤ L) : ∃ S2, (∀ K, ja_2104 Q L xs (j : Int) K S = K S2) ∧ sp_FT S S2 ∧ sp_ST (B + 90) S2 ∧ sp_DR S2 := by
  obtain ⟨a, ha⟩ : ∃ a, a = (xs (Int.toNat ((j : Int) + 1))).toInt := ⟨_, rfl⟩
  obtain ⟨t1, t2, t3⟩ := hST.1
  obtain ⟨k1, k2, k3⟩ := hK.1
  obtain ⟨d1, d2, d3, d4⟩ := hD
  have l720 : ev_aln 720 = 4 := al_318.2.2.2.2.2.2.2.2.2.2.1
  have l721 : ev_aln 721 = 4 := al_318.2.2.2.2.2.2.2.2.2.2.2.1
  have c2 := c202 (Q := Q) (a := a) ⟨t1, t2⟩
  by_cases h : 0 ≤ a ∧ a < S.1 0 18
  · obtain ⟨s, hs⟩ : ∃ s : Nat, a = (s : Int) := ⟨a.toNat, by omega⟩
    have as : a.toNat = s := by omega
    have hs4 : s < 4 := by omega
    rw [if_pos h, as] at c2
    have sl := hST.2.1 s hs4 (by omega)
    have e3 := StL_3 sl
    obtain ⟨p, len0, L', an, ⟨m1, m2, m3⟩, ⟨n1, n2⟩, _, ⟨o1, o2, o3⟩, q1, f1, g1⟩ := sl
    have r139 : ∀ X : ev_St, X.1 621 139 = S.1 621 139 → jm_320 Q a X = some (1, X) := fun X hX => by rw [c320 (hX.trans t3) ⟨t1, t2⟩, if_pos h]
    by_cases z : S.1 (569 + 13 * s) 3 = 0
    · obtain ⟨D, eD⟩ : ∃ D : Nat, S.1 1 1 = (D : Int) := ⟨(S.1 1 1).toNat, by omega⟩
      by_cases w : len0 + D ≤ 80
      · obtain ⟨N, M, φ, ψ, own, up, lo, L2, b1, b2, b3, b4, b5, b6⟩ := st_prog hK ⟨m1, m3⟩
        have el : L'.length = L2.length := by
          have := f1.1.symm.trans b2.1.1
          omega
        have g1' := g1
        rw [el, sX_u f1 b2.1] at g1'
        obtain ⟨W1, c1, c3, c4, c5, c6, c7, c8⟩ := st_take (S := S) (Q := Q) (B := B) (P := tQ p S) (lv := lvB (313 + 20 * p + 12) S) (L := L2) (an := an) (p := p) hs4 (by omega) eD (by omega) w (by rw [n1]; exact n2) D Q 0 S (by omega) (by omega) FRs_r b6 o2 (fun j hj => absurd hj (Nat.not_lt_zero j)) (fun _ _ => rfl) g1' (by omega)
        obtain ⟨V, hV⟩ : ∃ V, V = ev_pI W1 1 1 0 := ⟨_, rfl⟩
        have vI : ∀ c g, ¬ (569 + 13 * s + 1 ≤ c ∧ c ≤ 569 + 13 * s + 12) → ¬ (c = 1 ∧ g = 1) → V.1 c g = S.1 c g := fun c g y1 y2 => by rw [hV, sp_pI1, if_neg y2, c3.1 c g y1]
        have vW : ∀ c g, ¬ (c = 1 ∧ g = 1) → V.1 c g = W1.1 c g := fun c g y => by rw [hV, sp_pI1, if_neg y]
        have one : ∀ y : Int64, ∃ v W, jm_149 Q (569 + 13 * s) V = some (v, V) ∧ jm_322 Q a (ev_pL V 723 0 y) = some (v, W) ∧ (sp_FT S W ∧ sp_ST (B + 90) W ∧ sp_DR W) ∧ W.1 621 0 = 0 ∧ W.2.1 723 0 = y := fun y => by
          obtain ⟨U0, hU0⟩ : ∃ U0, U0 = ev_pI (ev_pL V 723 0 y) 621 0 0 := ⟨_, rfl⟩
          have u0 : ∀ c g, ¬ (c = 621 ∧ g = 0) → U0.1 c g = V.1 c g := fun c g y => by
            rw [hU0, sp_pI1, if_neg y]
            rfl
          have e622 : ∀ i, U0.1 622 i = S.1 622 i := fun i => by rw [u0 _ _ (by omega), vI _ _ (by omega) (by omega)]
          obtain ⟨U, u1, u2, u3, u4, u5, u6⟩ := r_feed (Q := Q) (S := U0) (D := D) (len0 := len0) hs4 (by rw [u0 _ _ (by omega), vI _ _ (by omega) (by omega)]; omega) w D Q 0 U0 (by omega) (by omega) (fun _ _ _ _ => rfl) rfl (by rw [u0 _ _ (by omega), vI _ _ (by omega) (by omega)]; exact o1) (fun j hj => absurd hj (Nat.not_lt_zero j))
          have uV : ∀ c g, ¬ (c = 621 ∧ (g = 0 ∨ g = 1)) → ¬ (c = 721 ∧ g = s) → ¬ (c = 722 ∧ 80 * s + len0 ≤ g ∧ g < 80 * s + len0 + D) → U.1 c g = V.1 c g := fun c g y1 y2 y3 => by rw [u2 c g (by omega) y2 y3, u0 c g (by omega)]
          have uI : ∀ c g, ¬ (569 + 13 * s + 1 ≤ c ∧ c ≤ 569 + 13 * s + 12) → ¬ (c = 1 ∧ g = 1) → ¬ (c = 621 ∧ (g = 0 ∨ g = 1)) → ¬ (c = 721 ∧ g = s) → ¬ (c = 722 ∧ 80 * s + len0 ≤ g ∧ g < 80 * s + len0 + D) → U.1 c g = S.1 c g := fun c g y1 y2 y3 y4 y5 => by rw [uV c g y3 y4 y5, vI c g y1 y2]
          have uL : ∀ c g, U.2.1 c g = if c = 723 ∧ g = 0 then y else S.2.1 c g := fun c g => by
            rw [u3, hU0, sp_pI2, sp_pL2, hV]
            show (if _ then _ else W1.2.1 c g) = _
            rw [c3.2.1]
          have ul : ∀ c g, c ≠ 723 → U.2.1 c g = S.2.1 c g := fun c g y => by rw [uL, if_neg (fun z => y z.1)]
          have ur : ∀ c i, U.2.2.1 c i = W1.2.2.1 c i := fun c i => by
            rw [u3, hU0, hV]
            rfl
          have ut : U.2.2.2 = S.2.2.2 := by
            rw [u3, hU0, hV]
            exact c3.2.2.2
          have fu : sp_FT S U := ⟨fun c g y => by
            unfold sp_WT at y
            exact uI c g (by omega) (by omega) (by omega) (by omega) (by omega), ul, fun c g y => by rw [ur]; exact c3.2.2.1 c g (by omega), by rw [ut], by rw [ut], by rw [ut]; exact Nat.le_succ _, by rw [ut]; exact Nat.le_add_right _ _⟩
          have e18 : U.1 0 18 = S.1 0 18 := uI _ _ (by omega) (by omega) (by omega) (by omega) (by omega)
          have ks : ∀ g, U.1 (569 + 13 * s) g = S.1 (569 + 13 * s) g := fun g => uI _ _ (by omega) (by omega) (by omega) (by omega) (by omega)
          have kw : ∀ c g, 569 + 13 * s + 1 ≤ c → c ≤ 569 + 13 * s + 12 → U.1 c g = W1.1 c g := fun c g y1 y2 => by rw [uV c g (by omega) (by omega) (by omega), vW c g (by omega)]
          have sU : StL s (B + 90) U := by
            refine ⟨p, len0 + D, L2, an, ⟨by rw [uI _ _ (by omega) (by omega) (by omega) (by omega) (by omega)]; exact m1, by rw [uI _ _ (by omega) (by omega) (by omega) (by omega) (by omega)]; exact m2, by rw [uI _ _ (by omega) (by omega) (by omega) (by omega) (by omega)]; exact m3⟩, ⟨by rw [ks, uI 719 _ (by omega) (by omega) (by omega) (by omega) (by omega)]; exact n1, by rw [uI 719 _ (by omega) (by omega) (by omega) (by omega) (by omega)]; exact n2⟩, by rw [ks, uI 720 _ (by omega) (by omega) (by omega) (by omega) (by omega)]; exact e3, ⟨u5, by rw [kw _ _ (by omega) (by omega)]; exact c5, w⟩, fun i hi => ?_, PL_c b2.1 (fun c i y1 y2 => uI c i (by omega) (by omega) (by omega) (by omega) (by omega)) (fun c i y1 y2 => ul c i (by omega)), ?_⟩
            · rw [kw (569 + 13 * s + 1 + 1) i (by omega) (by omega)]
              by_cases li : i < len0
              · rw [uI 722 _ (by omega) (by omega) (by omega) (by omega) (by omega), c7 i li]
                exact q1 i li
              · obtain ⟨t, ht⟩ : ∃ t, i = len0 + t := ⟨i - len0, by omega⟩
                subst ht
                obtain ⟨x1, x2⟩ := d4 t (by omega)
                rw [u6 t (by omega), c6 t (by omega), e622, x1]
                exact ⟨rfl, x2⟩
            · rw [show tQ p U = tQ p S from tQ_c (fun c i y1 y2 _ _ => uI c i (by omega) (by omega) (by omega) (by omega) (by omega)), show lvB (313 + 20 * p + 12) U = lvB (313 + 20 * p + 12) S from lvB_c (fun i => uI _ i (by omega) (by omega) (by omega) (by omega) (by omega)), show sX U (569 + 13 * s + 1) (len0 + D) L2 = sX W1 (569 + 13 * s + 1) (len0 + D) L2 from sX_c (at_c2 (kw _ _ (by omega) (by omega)) (fun i => kw _ _ (by omega) (by omega)))]
              exact SSc_c c8 (by omega) (fun c i y1 y2 => kw c i (by omega) (by omega)) (fun i => ur _ _)
          have su : sp_ST (B + 90) U := ST_one hST (Nat.le_add_right _ _) hs4 k2 ⟨by rw [e18]; exact t1, by rw [e18]; exact t2, by rw [e18, uI _ _ (by omega) (by omega) (by omega) (by omega) (by omega)]; exact t3⟩ (fun t _ => by rw [e18]) (by rw [e18]; omega) sU (fun c g y1 y2 y3 y4 y5 y6 => uI c g (by omega) y5 (by omega) (by omega) (by omega)) ul (fun c i y => by rw [ur]; exact c3.2.2.1 c i y)
          have dU : sp_DR U := by
            have x1 : U.1 1 1 = 0 := by
              rw [uV _ _ (by omega) (by omega) (by omega), hV, rd_eq]
            exact ⟨by rw [x1]; exact Int.le_refl 0, by rw [x1]; decide, by rw [x1]; exact u4, fun g hg => by rw [x1] at hg; omega⟩
          obtain ⟨v, ⟨W, w1, w2, w3⟩, tl⟩ := tell_two (Q := Q) (PT_FT hK fu) (ZR_FT hZ fu) hs4 sU (by omega)
          refine ⟨v, W, tl V (fun c g _ _ => (uV c g (by omega) (by omega) (by omega)).symm) (fun i => by rw [ur, hV]; rfl), ?_, tl_end fu su dU (by rw [uI _ _ (by omega) (by omega) (by omega) (by omega) (by omega)]; exact k2) w2 w3, ?_, ?_⟩
          · unfold jm_322
            rw [sp_b, ← hU0, r139 U0 (by rw [u0 _ _ (by omega), vI _ _ (by omega) (by omega)]), sp_bd, if_pos (by decide), sp_if (by rw [l720]; omega), sp_b, as, sp_jn, u0 _ _ (by omega), vI _ _ (by omega) (by omega), ← e3, if_neg (fun y => y z), sp_if (by rw [l721]; omega), sp_b, sp_b, u0 721 _ (by omega), vI 721 _ (by omega) (by omega), o1, u0 _ _ (by omega), vI _ _ (by omega) (by omega), d3, eD, sp_ck (by omega), if_pos (by omega), hs]
            rw [show ((0 : Int)) = ((0 : Nat) : Int) from rfl, u1, w1, sp_bd]
          · rw [w2 _ _ (by omega) (by omega) (by omega), u2 _ _ (by omega) (by omega) (by omega), hU0, rd_eq]
          · rw [w3, uL, if_pos ⟨rfl, rfl⟩]
        obtain ⟨v, _, v1, _⟩ := one 0
        obtain ⟨v', W, v1', w1, w2, w3, w4⟩ := one (ev_i2l v)
        have vv : v' = v := (congrArg Prod.fst (Option.some.inj (v1.symm.trans v1'))).symm
        rw [vv] at w1
        have cl : jm_196 Q a S = some (.inl v, V) := by
          unfold jm_196
          rw [c2, sp_bd, if_neg (by omega), show 569 + 13 * s + 1 - 1 = 569 + 13 * s from rfl, sp_b, if_neg (fun y => y z), sp_b, sp_b, o2, eD, sp_ck (by omega), if_pos (by omega)]
          unfold jm_148
          rw [show (1 : Nat) + 1 = 2 from rfl, show ((0 : Int)) = ((0 : Nat) : Int) from rfl, c1, sp_bd, sp_b]
          rw [show ev_pI W1 1 1 ((0 : Nat) : Int) = V from hV.symm, v1, sp_bd]
        exact ⟨W, fun K => la_30 (c := 0) (b := v) hL hj (by rw [← ha]; exact lw_30_ok a cl) (by rw [← ha]; exact w1) w3 (fun _ => w4), w2⟩
      · have cl : jm_196 Q a S = some (.inr "java/lang/IllegalStateException", ev_tick S) := by
          unfold jm_196
          rw [c2, sp_bd, if_neg (by omega), show 569 + 13 * s + 1 - 1 = 569 + 13 * s from rfl, sp_b, if_neg (fun y => y z), sp_b, sp_b, o2, eD, sp_ck (by omega), if_neg (by omega)]
        have rf : jm_322 Q a (ev_tick S) = some (0, ev_pI (ev_pI (ev_tick S) 621 0 0) 621 0 2) := by
          unfold jm_322
          rw [sp_b, r139 (ev_pI (ev_tick S) 621 0 0) (rd_nf (by decide)), sp_bd, if_pos (by decide), sp_if (by rw [l720]; omega), sp_b, as, sp_jn, rd_nk (by decide), show (ev_tick S).1 720 s = S.1 720 s from rfl, ← e3, if_neg (fun y => y z), sp_if (by rw [l721]; omega), sp_b, sp_b, rd_nk (by decide), rd_nf (by decide), show (ev_tick S).1 721 s = S.1 721 s from rfl, show (ev_tick S).1 621 1 = S.1 621 1 from rfl, o1, d3, eD, sp_ck (by omega), if_neg (by omega)]
          rfl
        rw [pI_pI] at rf
        exact ⟨_, fun K => la_30 (c := 2) (b := 0) hL hj (by rw [← ha]; exact lw_30_x1 a cl) (by rw [← ha]; exact rf) rd_eq (fun z => absurd z (by decide)), st_no hST ⟨d1, d2, d3, d4⟩ k2⟩
    · have cl : jm_196 Q a S = some (.inr "java/lang/IllegalStateException", ev_tick S) := by
        unfold jm_196
        rw [c2, sp_bd, if_neg (by omega), show 569 + 13 * s + 1 - 1 = 569 + 13 * s from rfl, sp_b, if_pos z]
      have rf : jm_322 Q a (ev_tick S) = some (0, ev_pI (ev_pI (ev_tick S) 621 0 0) 621 0 2) := by
        unfold jm_322
        rw [sp_b, r139 (ev_pI (ev_tick S) 621 0 0) (rd_nf (by decide)), sp_bd, if_pos (by decide), sp_if (by rw [l720]; omega), sp_b, as, sp_jn, rd_nk (by decide), show (ev_tick S).1 720 s = S.1 720 s from rfl, ← e3, if_pos z]
        rfl
      rw [pI_pI] at rf
      exact ⟨_, fun K => la_30 (c := 2) (b := 0) hL hj (by rw [← ha]; exact lw_30_x1 a cl) (by rw [← ha]; exact rf) rd_eq (fun z => absurd z (by decide)), st_no hST ⟨d1, d2, d3, d4⟩ k2⟩
  · rw [if_neg h] at c2
    have cl : jm_196 Q a S = some (.inr "java/lang/IndexOutOfBoundsException", ev_tick S) := by
      unfold jm_196
      rw [c2, sp_bd, if_pos rfl]
    have rf : jm_322 Q a (ev_tick S) = some (0, ev_pI (ev_pI (ev_tick S) 621 0 0) 621 0 1) := by
      unfold jm_322
      rw [sp_b, c320 (T := ev_pI (ev_tick S) 621 0 0) (y := S.1 0 18) ((rd_nf (by decide)).trans t3) ⟨t1, t2⟩, if_neg h, sp_bd, if_neg (fun z => z rfl)]
      rfl
    rw [pI_pI] at rf
    exact ⟨_, fun K => la_30 (c := 1) (b := 0) hL hj (by rw [← ha]; exact lw_30_x0 a cl) (by rw [← ha]; exact rf) rd_eq (fun z => absurd z (by decide)), st_no hST ⟨d1, d2, d3, d4⟩ k2⟩
end ORV
