/-! SEARCH: both machines from any point where they meet -/
section OQC
variable {Q k p N M m n n2 h h2 us us2 vs vs2 ls ls2 w len x0 x y u v g a b r j t uu i : Nat} {C : Int} {φ ψ own up lo : Nat → Nat} {S S1 S2 T T1 T2 U X Y R : ev_St} {V : Nat → Nat → Nat → List KT → Nat → Int} {ks : List KT} {κ : KT} {c f td nd had th dp kd cd fr vv a1 a2 hh al x17 x18 gg : Int}
theorem RES_end {o rr : Int} (h10 : S.1 281 10 = 0) (h76 : T.1 621 76 = 0) (hn : n ≤ 1000) (h14 : S.1 281 14 = (n : Int)) (h75 : T.1 621 75 = (n : Int)) (q : (o = 3 ∧ rr = 2) ∨ (o = 4 ∧ rr = 3 ∧ S.1 281 13 = T.1 621 77) ∨ (o = 2 ∧ rr = 0)) : RESs Q (x0 : Int) o rr S T := by
  refine Or.inr ⟨h10, h76, ⟨n, hn, h14, h75⟩, ?_⟩
  rcases q with z | z | z
  · exact Or.inr (Or.inl z)
  · exact Or.inr (Or.inr (Or.inl z))
  · exact Or.inr (Or.inr (Or.inr z))
theorem kcl_ge {q1 q2 : Int} : 0 ≤ kcl q1 q2 := by
  unfold kcl
  (repeat' split) <;> omega
/-- falling back -/
theorem bck (hX : FIX Q k p N M φ ψ own up lo U w len C V) (ih : ALL Q k p N φ ψ own up lo U w len x0 C V j) : ∀ (h : Nat) (S T : ev_St) (n us vs ls c : Nat), COB k p N φ ψ own up lo U w len x0 C V S T n us h vs ls → T.1 621 78 = 5 → 15163 * (2 * (1000 - n) + cW T h) ≤ j → c + h < 100000000 → ∃ (o : Int) (S1 : ev_St), (∀ q, h < q → jl_131_2 Q q (c : Int) S = some (o, S1)) ∧ ((o = 0 ∧ GZ Q x0 (j + 1) (1100 * j + 42 + h) 1 S1 T) ∨ (o ≠ 0 ∧ ∀ q2, h + 3 < q2 → ∃ rr T2, jl_306_68 Q q2 (-1) T = some (rr, T2) ∧ RESs Q (x0 : Int) o rr S1 T2)) := fun h => by
  induction h using Nat.strongRecOn with
  | _ h ihh =>
    intro S T n us vs ls c hc t78 hm hch
    have hX0 := hX
    obtain ⟨hA, hV, _, hC7, hQ⟩ := hX
    obtain ⟨hB, ⟨s9, s10, s14, s11⟩, ⟨t75, t76, t95⟩, ⟨n1, hn, uu, y7, y8, y9⟩, hcp⟩ := hc
    cases h with
    | zero =>
      refine ⟨2, S, fun q hq => ?_, Or.inr ⟨by decide, fun q2 hq2 => ⟨0, T, ?_, RES_end s10 t76 n1 s14 t75 (Or.inr (Or.inr ⟨rfl, rfl⟩))⟩⟩⟩
      · obtain ⟨q, rfl⟩ : ∃ r, q = r + 1 := ⟨q - 1, by omega⟩
        show jb_131_2 Q _ _ S = _
        unfold jb_131_2
        rw [if_neg (by omega)]
        try dsimp only
        rw [sp_b, s9, if_pos (by decide)]
      · obtain ⟨q2, rfl⟩ : ∃ r, q2 = r + 2 := ⟨q2 - 2, by omega⟩
        have e : jm_305 Q T = some (0, T) := by
          unfold jm_305
          rw [sp_b, t95, if_neg (by decide)]
        rw [rt_5 t76 t78 e, rt_told t76 (by decide)]
    | succ h =>
      obtain ⟨u, v, g, e1, e2, e3, pa, cp⟩ := hcp
      obtain ⟨kd1, kd2, kd3⟩ := pair_kd pa
      obtain ⟨X, hX1⟩ : ∃ X, X = ev_pI S 281 9 (h : Int) := ⟨_, rfl⟩
      have aX : ∀ v h2, AC v h2 S X := fun v h2 => by
        rw [hX1]
        exact AC_i AC_r
      have cX : CB X h n (x0 : Int) := by
        rw [hX1]
        exact ⟨rd_eq, s10, s14, s11⟩
      have x7 : X.1 281 7 = (uu : Int) := by
        rw [hX1]
        exact y7
      obtain ⟨rt1, rt2⟩ := r305_top (Q := Q) t95 (by omega) (by omega)
      have top := fun q => bt_top (Q := Q) (q := q) (c := (c : Int)) (S := S) (h := h) ⟨by omega, by omega⟩ s9 (by omega) hX1
      have cws := cW_s (T := T) (h := h)
      -- a look without a way, here or below a verb
      have wall : ∀ (b : Nat) (Y : ev_St) (u v g : Nat) (al : Int), b ≤ h → PAIR k p N φ ψ own up lo U len x0 C V S T b u v g n → CPS k p N φ ψ own up lo U len x0 C V S T n b u v g → u ≤ us → S.1 283 (6 * b) = 1 → (∀ v h2, AC v h2 S Y) → CB Y b n (x0 : Int) → Y.1 281 7 = (uu : Int) → jm_305 Q T = R305 Q b al T → (T.1 687 b = 5 → T.1 689 b ≤ 0 ∨ al ≠ 0) → (∀ q, jm_134 Q ((6 * b : Nat) : Int) Y = some (0, Y) → jl_131_2 Q (q + 1) (c : Int) S = jl_131_2 Q q ((c : Int) + 1) Y) → (∀ q S1, jm_134 Q ((6 * b : Nat) : Int) Y = some (1, S1) → S1.1 281 10 = 0 → jl_131_2 Q (q + 1) (c : Int) S = some (0, S1)) → ∃ (o : Int) (S1 : ev_St), (∀ q, h + 1 < q → jl_131_2 Q q (c : Int) S = some (o, S1)) ∧ ((o = 0 ∧ GZ Q x0 (j + 1) (1100 * j + 42 + (h + 1)) 1 S1 T) ∨ (o ≠ 0 ∧ ∀ q2, h + 1 + 3 < q2 → ∃ rr T2, jl_306_68 Q q2 (-1) T = some (rr, T2) ∧ RESs Q (x0 : Int) o rr S1 T2)) := fun b Y u v g al w0 w1 w2 w3 w4 w5 w6 w7 w8 w9 w10 w11 => by
        rcases wall_b hX0 hB w1 w2 w4 (by omega) n1 w5 w6 w7 ⟨by omega, y9⟩ w8 w9 t78 t75 t76 with ⟨T1, z1, z2, z3, z4, z5⟩ | ⟨S1, T1, ks, x, z1, z2, z3, z4, z5⟩
        · have cm := cW_mono (T := T) (show b ≤ h + 1 by omega)
          obtain ⟨o, S1, i1, i2⟩ := ihh b (by omega) Y T1 n u v g (c + 1) z3 z4 (by
            rw [cW_c (z5 0 b 0) b (Nat.le_refl b)]
            omega) (by omega)
          refine ⟨o, S1, fun q hq => ?_, ?_⟩
          · obtain ⟨q, rfl⟩ : ∃ r, q = r + 1 := ⟨q - 1, by omega⟩
            rw [w10 q z1, show (c : Int) + 1 = ((c + 1 : Nat) : Int) from by omega]
            exact i1 q (by omega)
          · rcases i2 with ⟨i3, i4⟩ | ⟨i3, i4⟩
            · exact Or.inl ⟨i3, GZ_le (GZ_r i4 fun q => rt_5 t76 t78 z2) (Nat.le_refl _) (by omega)⟩
            · refine Or.inr ⟨i3, fun q2 hq2 => ?_⟩
              obtain ⟨q2, rfl⟩ : ∃ r, q2 = r + 1 := ⟨q2 - 1, by omega⟩
              rw [rt_5 t76 t78 z2]
              exact i4 q2 (by omega)
        · have cst := cW_str (T := T) (show b < h + 1 by omega) (by
            have := (pair_kd w1).1.mp w4
            exact this.1)
          have go := ih.1 S1 T1 ks x n u b v g z4 (by
            refine Nat.le_trans (mu_b z4.1.2.2.2.1.2.2.2.1) ?_
            rw [cW_c (z5 0 b 0) b (Nat.le_refl b)]
            omega)
          refine ⟨0, S1, fun q hq => ?_, Or.inl ⟨rfl, GZ_le (GZ_r go fun q => rt_5 t76 t78 z3) (Nat.le_succ _) (by omega)⟩⟩
          obtain ⟨q, rfl⟩ : ∃ r, q = r + 1 := ⟨q - 1, by omega⟩
          exact w11 q S1 z1 z2
      by_cases k0 : S.1 283 (6 * h) = 0
      · obtain ⟨S1, b1, b2⟩ := bk_try hX0 ih hB pa cp k0 (by omega) n1 cX aX rt1 t78 t75 t76 hm
        refine ⟨0, S1, fun q hq => ?_, Or.inl ⟨rfl, GZ_le b2 (Nat.le_refl _) (by omega)⟩⟩
        obtain ⟨q, rfl⟩ : ∃ r, q = r + 1 := ⟨q - 1, by omega⟩
        exact (top q).1 k0 S1 b1
      by_cases k1 : S.1 283 (6 * h) = 1
      · have w35 := kd1.mp k1
        have e305 := rt1 (by omega)
        by_cases hf : T.1 687 h = 5 ∧ 0 < T.1 689 h
        · obtain ⟨y, hy⟩ : ∃ y : Nat, T.1 689 h = (y : Int) := ⟨(T.1 689 h).toNat, by have := hf.2; omega⟩
          obtain ⟨S1, T1, b1, b2, b3⟩ := bk_beh (y := y) hX0 ih hB pa cp k1 hf.1 hy (by have := hf.2; omega) (by omega) n1 cX aX e305 t78 t75 t76 hm
          rcases b3 with ⟨b4, b5⟩ | ⟨b4, b5⟩
          · refine ⟨0, S1, fun q hq => ?_, Or.inl ⟨rfl, GZ_le (GZ_r b5 fun q => rt_5 t76 t78 b2) (Nat.le_succ _) (by omega)⟩⟩
            obtain ⟨q, rfl⟩ : ∃ r, q = r + 1 := ⟨q - 1, by omega⟩
            rw [((top q).2.1 k1).1 S1 b1, if_pos b4]
          · refine ⟨2, S1, fun q hq => ?_, Or.inr ⟨by decide, fun q2 hq2 => ⟨-2, T1, ?_, Or.inl ⟨rfl, b4⟩⟩⟩⟩
            · obtain ⟨q, rfl⟩ : ∃ r, q = r + 1 := ⟨q - 1, by omega⟩
              rw [((top q).2.1 k1).1 S1 b1, if_neg b4]
            · obtain ⟨q2, rfl⟩ : ∃ r, q2 = r + 2 := ⟨q2 - 2, by omega⟩
              rw [rt_5 t76 t78 b2, rt_far b5]
        · -- nothing further ahead
          have e133 : jm_133 Q ((6 * h : Nat) : Int) X = some (0, X) := by
            obtain ⟨⟨o1, o2, o3, o4⟩, o5⟩ := pa
            rcases o5 with ⟨z, _⟩ | ⟨ks, x, ng, p1, ⟨p2, p3, p4⟩, p5, p6, p7, p8, p9, p10, ⟨z1, z2, z3⟩ | ⟨_, m, bn, mN, q1, q2, q3, ⟨u0, q4, q5, q6, q7, q8, q9⟩, q10, q11, q12, q13, q14⟩⟩
            · rcases z with z | z
              · have := z.1
                omega
              · have := z.1
                omega
            · omega
            · have xi : ∀ i, X.1 283 i = S.1 283 i := fun i => (aX 0 (i + 1)).2.1 i (by omega)
              have bX := BAS_m hB (aX 0 0) (AR_r (T := T) (vs := 0) (h := 0) (ls := 0))
              have kk : (bn = φ m ∧ 10 ≤ U.1 625 (320 * p + m) ∧ U.1 625 (320 * p + m) ≤ 12) ∨ (bn = ψ m ∧ U.1 630 (320 * p + m) = 2) := by
                rcases q10 with ⟨_, z | z⟩ | ⟨_, z1, z2⟩ | ⟨_, z1, z2, _⟩
                · exact Or.inl ⟨z.1, by omega, by omega⟩
                · exact Or.inr z
                · exact Or.inl ⟨z1, by omega, by omega⟩
                · exact Or.inl ⟨z1, by omega, by omega⟩
              obtain ⟨l1, l2, l3, l4, l5, l6, l7⟩ := pl_of hA mN kk
              have e22 : U.1 (k + 1) bn < 22 ∨ (T.1 687 h = 5 ∧ U.1 (k + 1) bn = if U.1 629 (320 * p + m) = 0 then 22 else 23) := by
                rcases q10 with ⟨_, z | z⟩ | ⟨_, z1, z2⟩ | ⟨z0, z1, z2, _⟩
                · refine Or.inl ?_
                  rw [l4 z.1, kcl_v.2.2.2.2.1 z.2]
                  decide
                · refine Or.inl ?_
                  by_cases e : bn = φ m
                  · exfalso
                    rcases sa_rep hA mN with y | ⟨y, _⟩
                    · have := y.1
                      omega
                    · have y2 := y.resolve_left (fun z => by have := z.1; omega)
                      have := y2.2.1
                      have := y2.2.2.1
                      omega
                  · rw [l5 z.1 e]
                    decide
                · refine Or.inl ?_
                  rw [l4 z1, kcl_v.2.2.2.2.2.1 z2]
                  split <;> decide
                · exact Or.inr ⟨z0, by rw [l4 z1]; exact kcl_v.2.2.2.2.2.2.1 z2⟩
              have kn : ∃ kd2 : Nat, U.1 (k + 1) bn = (kd2 : Int) ∧ (kd2 < 22 ∨ T.1 687 h = 5) := by
                rcases e22 with e | ⟨e, e'⟩
                · have g0 : 0 ≤ U.1 (k + 1) bn := by
                    rcases kk with ⟨z, _⟩ | ⟨z, _⟩
                    · rw [l4 z]
                      exact kcl_ge
                    · by_cases e : bn = φ m
                      · rw [l4 e]
                        exact kcl_ge
                      · rw [l5 z e]
                        decide
                  exact ⟨(U.1 (k + 1) bn).toNat, by omega, Or.inl (by omega)⟩
                · exact ⟨(U.1 (k + 1) bn).toNat, by rw [e']; split <;> rfl, Or.inr e⟩
              obtain ⟨kd2, hk2, hk3⟩ := kn
              by_cases z5 : T.1 687 h = 5
              · obtain ⟨y', z3, z4, z6⟩ : ∃ y' : Nat, S.1 283 (6 * h + 2) = (y' : Int) ∧ T.1 689 h = (y' : Int) ∧ y' ≤ x := by
                  rcases q10 with z | z | ⟨_, z1, z2, y', z3, z4, z5⟩
                  · have := z.1
                    omega
                  · have := z.1
                    omega
                  · exact ⟨y', z3, z4, z5⟩
                have y0 : y' = 0 := Classical.byContradiction fun w => hf ⟨z5, by omega⟩
                exact (w_133 (Q := Q) (kd := kd2) (y := 0) (u := u) (f := S.1 283 (6 * h + 3)) (g := S.1 283 (6 * h + 4)) (by omega) hA bX cX (by omega) l1 (by rw [xi]; exact q2) hk2 (fun _ => by rw [xi, z3, y0]) (xi _) (xi _) (by rw [xi]; exact o1)).1 (Or.inr rfl)
              · have k22 := hk3.resolve_right z5
                exact (w_133 (Q := Q) (kd := kd2) (y := 0) (u := u) (f := S.1 283 (6 * h + 3)) (g := S.1 283 (6 * h + 4)) (by omega) hA bX cX (by omega) l1 (by rw [xi]; exact q2) hk2 (fun z => by omega) (xi _) (xi _) (by rw [xi]; exact o1)).1 (Or.inl k22)
          exact wall h X u v g 0 (Nat.le_refl h) pa cp e1 k1 aX cX x7 e305 (fun z => Or.inl (by
            by_cases w : 0 < T.1 689 h
            · exact absurd ⟨z, w⟩ hf
            · omega)) (fun q => (((top q).2.1 k1).2 e133).1) (fun q S1 => (((top q).2.1 k1).2 e133).2 S1)
      · -- a verb
        have k23 : S.1 283 (6 * h) = 2 ∨ S.1 283 (6 * h) = 3 := by
          rcases kd3 with z | z | z
          · exact absurd z k0
          · exact absurd z k1
          · exact z
        obtain ⟨q2, hq2, e305⟩ := rt2 (kd2.mp k23)
        have xi : ∀ i, X.1 283 i = S.1 283 i := fun i => (aX 0 (i + 1)).2.1 i (by omega)
        have e135 : jm_135 Q (h : Int) X = jl_135_4 Q Q ((h : Int) - 1) X := by
          unfold jm_135
          rw [sp_ck (by omega)]
        rcases find_w (Q := Q) (S := X) (T := T) (x17 := T.1 687 h) (x18 := T.1 690 h) (h := h) (by omega) h (Nat.le_refl h) (fun b hb => by
          obtain ⟨_, _, _, _, _, _, pb, _⟩ := cps_at h u v g cp b hb
          rw [xi]
          exact (pair_kd pb).1) Q q2 (by omega) (by omega) with ⟨b, z1, z2, z3, z4⟩ | ⟨z1, z2⟩
        · obtain ⟨u2, v2, g2, f1, f2, f3, pb, cb⟩ := cps_at h u v g cp b z1
          rw [← e135] at z3
          rw [xi] at z2
          obtain ⟨Y, hY⟩ : ∃ Y, Y = ev_pI X 281 9 (b : Int) := ⟨_, rfl⟩
          have aY : ∀ v h2, AC v h2 S Y := fun v h2 => by
            rw [hY]
            exact AC_i (aX v h2)
          have cY : CB Y b n (x0 : Int) := by
            rw [hY]
            exact ⟨rd_eq, cX.2.1, cX.2.2.1, cX.2.2.2⟩
          have y7' : Y.1 281 7 = (uu : Int) := by
            rw [hY]
            exact x7
          exact wall b Y u2 v2 g2 1 (by omega) pb cb (by omega) z2 aY cY y7' (by rw [e305]; exact z4) (fun _ => Or.inr (by decide)) (fun q => (((top q).2.2 k23).1 b Y (by omega) z3 hY).1) (fun q S1 => (((top q).2.2 k23).1 b Y (by omega) z3 hY).2 S1)
        · rw [← e135] at z1
          rw [← e305] at z2
          obtain ⟨⟨_, _, _, _⟩, o5⟩ := pa
          have vb : ((S.1 283 (6 * h) = 2 ∧ T.1 687 h = 6) ∨ (S.1 283 (6 * h) = 3 ∧ T.1 687 h = 7)) ∧ S.1 283 (6 * h + 2) = T.1 690 h := by
            rcases o5 with z | ⟨_, _, _, _, _, _, _, _, _, _, _, ⟨z, _⟩ | ⟨z, _⟩⟩
            · exact z
            · exact absurd z k0
            · exact absurd z k1
          refine ⟨if S.1 283 (6 * h) = 2 then 3 else 4, ev_pI (ev_pI X 281 9 (-1)) 281 13 (S.1 283 (6 * h + 2)), fun q hq => ?_, Or.inr ⟨?_, fun q3 hq3 => ⟨if T.1 687 h ≠ 6 then 3 else 2, ev_pI T 621 77 (T.1 690 h), ?_, RES_end (n := n) ?_ ?_ n1 ?_ ?_ ?_⟩⟩⟩
          · obtain ⟨q, rfl⟩ : ∃ r, q = r + 1 := ⟨q - 1, by omega⟩
            exact ((top q).2.2 k23).2 z1
          · split <;> decide
          · obtain ⟨q3, rfl⟩ : ∃ r, q3 = r + 2 := ⟨q3 - 2, by omega⟩
            rw [rt_5 t76 t78 z2]
            exact rt_told (T := ev_pI T 621 77 (T.1 690 h)) t76 (by split <;> decide)
          · rw [hX1]
            exact s10
          · exact t76
          · rw [hX1]
            exact s14
          · exact t75
          · rcases vb with ⟨z | z, z3⟩
            · exact Or.inl ⟨if_pos z.1, if_neg (fun w => w z.2)⟩
            · refine Or.inr (Or.inl ⟨if_neg (by rw [z.1]; decide), if_pos (by rw [z.2]; decide), ?_⟩)
              rw [rd_eq, rd_eq]
              exact z3
theorem off_go (hX : FIX Q k p N M φ ψ own up lo U w len C V) (ih : ALL Q k p N φ ψ own up lo U w len x0 C V j) (hc : COB k p N φ ψ own up lo U w len x0 C V S T n us h vs ls) (t78 : T.1 621 78 = 5) (hm : 15163 * (2 * (1000 - n) + cW T h) + 1 ≤ j + 1) : GZ Q x0 (j + 1) (1100 * (j + 1)) 0 S T := by
  have hQ := hX.2.2.2.2
  have hh : h ≤ 1000 := by
    have q1 := hc.2.2.2.1.1
    have q2 := hc.2.2.2.1.2.1
    omega
  obtain ⟨o, S1, b1, b2⟩ := bck hX ih h S T n us vs ls 0 hc t78 (by omega) (by omega)
  have e : jm_131 Q S = some (o, S1) := b1 Q (by omega)
  rcases b2 with ⟨b3, b4⟩ | ⟨b3, b4⟩
  · rw [b3] at e
    exact GZ_le (GZ_off b4 e) (Nat.le_refl _) (by omega)
  · intro q q2 i h1 h2 h3
    obtain ⟨q, rfl⟩ : ∃ r, q = r + 1 := ⟨q - 1, by omega⟩
    obtain ⟨rr, T2, c1, c2⟩ := b4 q2 (by omega)
    exact ⟨o, rr, S1, T2, by rw [ct_off ⟨by omega, by omega⟩ e, if_neg b3], c1, c2⟩
end OQC
