/-! THE READER: a group opens, all that stands beside the tables -/
section ROPN
variable {Q k n m w d N M D lv t : Nat} {φ ψ own inn G R ws y : Nat → Nat} {P q : Nat → Int} {S T S0 T0 S1 S' S2 T2 T1 T3 U : ev_St}
theorem op_w {c f x yv ng b : Int} (hw : RIw k N M D φ ψ own inn G R P q S0 T0) (hkr : 232 ≤ k) (h649 : 0 ≤ T0.1 649 D) (hc : 8 ≤ c ∧ c ≤ 13) (hx : x = kcl c f) (hy : c = 8 ∨ c = 13 → yv = ng) (lt : T0.1 621 27 < 150) (s1 : ∀ x g, ¬ (x = 3 ∧ g = 14) → x ≠ k → x ≠ k + 11 → S1.1 x g = S0.1 x g) (s1k : S1.1 k 11 = S0.1 k 11) (s14 : S1.1 3 14 = S0.1 3 14 + 1) (s2 : S1.2 = S0.2) (h1 : ADr N c T0 T1) (v : T2.1 628 (3840 + N) = ng ∧ T2.1 629 (3840 + N) = f) (v1 : ∀ a g, ¬ ((a = 628 ∨ a = 629) ∧ g = 3840 + N) → a ≠ 636 → a ≠ 637 → a ≠ 638 → T2.1 a g = T1.1 a g) (v2 : T2.2 = T1.2) (h2 : OPr (D + 1) N (N + 1) b T2 T3) (s : BGc (D + 1) x yv b S1 S') (hg' : RIg k (N + 2) (D + 1) φ (nup G (D + 1) N) (nup R (D + 1) (N + 1)) S' T3) : RIw k (N + 2) M (D + 1) φ ψ own (nup (nup inn N (lkp (T0.1 621 38) (T0.1 621 37) - 3840)) (N + 1) N) (nup G (D + 1) N) (nup R (D + 1) (N + 1)) (iup P (D + 1) (-1)) (iup q (D + 1) (-1)) S' T3 := by
  obtain ⟨⟨hR, hL⟩, hgg, hcc, hf, hy', h9⟩ := hw
  have hD152 : D + 1 < 152 := by
    have := hcc.2.2.2.1
    omega
  have n6 : 0 ≤ S0.1 3 13 := by
    rcases hy' with z | z
    · omega
    · omega
  obtain ⟨s0, rc, hs, hrc, k1, k2, k3⟩ := RDR_lk hR
  have hdd := hR.1.2.2.2.2
  have hR1 : RDR k N M D φ ψ own G R P q S1 T0 := RDR_c hR ⟨s1k, s1 _ _ (by omega) (by omega) (by omega)⟩ (fun i hi => funext fun g => s1 _ _ (by omega) (by omega) (by omega)) (fun j a b => funext fun g => s1 _ _ (by omega) (by omega) (by omega)) (fun j _ _ => by rw [s2]) ⟨rfl, rfl, rfl, rfl⟩ (fun _ _ _ => rfl) (fun _ _ _ => rfl) (fun _ _ _ => rfl)
  have hR2 := grp_open (S := S1) (x := x) (y := yv) (b := b) (ng := ng) (f := f) hR1 hkr hD152 hc hx hy (by rw [s1 _ _ (by omega) (by omega) (by omega)]; exact hf.1) h1 v v1 v2 h2 s
  obtain ⟨⟨a1, a2, a3, a4, a5, a6⟩, ⟨u1, u2, u3, u4, u5, u6, u7, u8, u9, u10⟩, f1, f2, f3⟩ := h1
  obtain ⟨⟨p1, p2, p3, p4, p5⟩, ⟨o1, o2, o3, o4, o5⟩, ⟨r1, r2, r3, r4, r5, r6⟩, g1, g2, g3, g4⟩ := h2
  obtain ⟨⟨b1, b2, b3, b4, b5⟩, ⟨b6, b7⟩, b8, b9⟩ := s
  rw [k1, k2] at f1 a6
  rw [k2, show 3840 + s0 - 3840 = s0 from by omega]
  have gN : ∀ c, 625 ≤ c → c ≤ 632 → c ≠ 626 → c ≠ 628 → c ≠ 629 → T3.1 c (3840 + N) = T1.1 c (3840 + N) := fun c h1 h2 h3 h4 h5 => by
    rw [g2 c _ (by omega) (by omega) (by omega) (by omega) (by omega), v1 c _ (by omega) (by omega) (by omega) (by omega)]
  have gt : ∀ c g, 625 ≤ c → c ≤ 632 → g < N → ¬ (c = rc ∧ g = s0) → T3.1 c (3840 + g) = T0.1 c (3840 + g) := fun c g h1 h2 h3 h4 => by
    rw [g2 c _ (by omega) (by omega) (by omega) (by omega) (by omega), v1 c _ (by omega) (by omega) (by omega) (by omega), f1 c _ (by omega) (by omega) (by omega) (by omega)]
  refine ⟨⟨hR2, LKS_2 hL hs hrc ?_ ⟨by rw [g1]; omega, ?_, fun z => ?_⟩ ⟨r2, r3, r6⟩ (fun c m h1 h2 h3 => gt c m (by omega) (by omega) h2 h3)⟩, hg', ?_, ?_, Or.inl ⟨b7, p5⟩, by rw [b9, s2]; exact h9⟩
  · rw [g2 _ _ (by omega) (by omega) (by omega) (by omega) (by omega), v1 _ _ (by omega) (by omega) (by omega) (by omega), a6]
  · rw [gN 627 (by omega) (by omega) (by omega) (by omega) (by omega), u3]
  · rw [gN 625 (by omega) (by omega) (by omega) (by omega) (by omega), u1] at z
    omega
  · obtain ⟨⟨c1, c2, c3⟩, c4, c5, c6, c7⟩ := hcc
    unfold RIc
    rw [b8 3 14 (by omega) (by omega), s14, b7, g2 621 27 (by omega) (by omega) (by omega) (by omega) (by omega), v1 621 27 (by omega) (by omega) (by omega) (by omega), a2]
    have e1 := nrc_c (f := Kn T0) (f' := Kn T3) N (fun m hm => gt 625 m (by omega) (by omega) hm (by omega))
    have e2 : Kn T3 (N + 1) = 18 := r1
    have e3 : nrc (Kn T3) (N + 2) ≤ nrc (Kn T0) N + 1 := by
      show (nrc (Kn T3) N + (if Kn T3 N = 18 then 0 else 1)) + (if Kn T3 (N + 1) = 18 then 0 else 1) ≤ _
      rw [e1, e2, if_pos rfl]
      split <;> omega
    exact ⟨by omega, by omega, by omega, by omega, by omega⟩
  · unfold RIf at hf ⊢
    rw [b8 3 11 (by omega) (by omega), s1 _ _ (by omega) (by omega) (by omega), g2 621 40 (by omega) (by omega) (by omega) (by omega) (by omega), v1 621 40 (by omega) (by omega) (by omega) (by omega), f1 621 40 (by omega) (by omega) (by omega) (by omega)]
    exact hf
/-- groups, names and bodies: nothing new -/
theorem RIg_open {c : Int} (hR : RDR k N M D φ ψ own G R P q S0 T0) (hgg : RIg k N D φ G R S0 T0) (hkr : 232 ≤ k) (hc : c ≠ 8) (s1 : S'.1 k 12 = S0.1 k 12 ∧ (∀ g, S'.1 (k + 11) g = S0.1 (k + 11) g) ∧ ∀ g, S'.1 (k + 10) g = S0.1 (k + 10) g) (t1 : ∀ g, T3.1 636 g = T0.1 636 g ∧ T3.1 637 g = T0.1 637 g ∧ T3.1 638 g = T0.1 638 g) (t2 : ∀ g, g < N → T3.1 625 (3840 + g) = T0.1 625 (3840 + g) ∧ T3.1 628 (3840 + g) = T0.1 628 (3840 + g)) (t3 : T3.1 625 (3840 + N) = c) : RIg k (N + 2) (D + 1) φ (nup G (D + 1) N) (nup R (D + 1) (N + 1)) S' T3 := by
  obtain ⟨g1, g2, g3, g4, g5⟩ := hgg
  have hG := hR.2.1
  refine ⟨?_, fun l hl => ?_, fun j h1 h2 => ?_, fun i h1 h2 => ?_, ?_⟩
  · rw [s1.1, (t1 12).1]
    exact g1
  · rw [s1.2.1, (t1 _).2.2, (t1 _).1]
    exact g2 l hl
  · rw [(t1 _).1] at h2
    obtain ⟨t, z1, z2, z3, z4, z5⟩ := g3 j h1 h2
    refine ⟨t, by rw [(t1 _).2.1, z1], by omega, by rw [(t2 t z2).1, z3], by rw [(t2 t z2).2, z4], fun w => ?_⟩
    rw [s1.2.2]
    refine z5 ⟨z2, ?_⟩
    rintro ⟨i, hi, z⟩
    refine w.2 ⟨i, by omega, ?_⟩
    rw [nup_ne (by omega), nup_ne (by omega)]
    exact z
  · by_cases e : i = D + 1
    · subst e
      rw [nup_eq] at h2
      rw [t3] at h2
      exact absurd h2 hc
    · rw [nup_ne e] at h2 ⊢
      have hi := (hG i (by omega)).1
      rw [(t2 _ hi).1] at h2
      obtain ⟨j, z1, z2, z3, z4⟩ := g4 i (by omega) h2
      exact ⟨j, z1, by rw [(t1 _).1]; exact z2, by rw [(t2 _ hi).2, z3], by rw [(t1 _).2.1, z4]⟩
  · rw [nup_ne (by omega), (t1 _).2.1]
    exact g5
/-- off the tables nothing is changed where a part opens -/
theorem op_off {c0 b : Int} {e f : Nat} (h1 : ADr N c0 T0 T1) (v1 : ∀ a g, ¬ ((a = 628 ∨ a = 629) ∧ g = 3840 + N) → a ≠ 636 → a ≠ 637 → a ≠ 638 → T2.1 a g = T1.1 a g) (h2 : OPr d N (N + 1) b T2 T3) (q1 : ¬ (e = 635 ∧ f = 12)) (q2 : ¬ (625 ≤ e ∧ e ≤ 632)) (q3 : ¬ (e = 621 ∧ (f = 25 ∨ f = 27 ∨ f = 31 ∨ f = 37 ∨ f = 38 ∨ f = 39))) (q4 : ¬ (646 ≤ e ∧ e ≤ 650 ∧ f = d)) (q5 : e ≠ 636 ∧ e ≠ 637 ∧ e ≠ 638) : T3.1 e f = T0.1 e f := by
  rw [h2.2.2.2.2.1 e f q1 (by omega) (by omega) (by omega) q4, v1 e f (by omega) q5.1 q5.2.1 q5.2.2, ADr_o h1 q1 q2 (by omega)]
/-- a part opens by a bracket -/
theorem tk_openA {c f x yv ng p : Int} (H : RIy k lv ws N M D φ ψ own inn G R y P q S T) (hkr : 232 ≤ k) (hm : MVd lv p S T S0 T0) (hp : T.1 645 lv + cst c ≤ p ∧ p ≤ S.1 (ws lv) 1) (hc : 8 ≤ c ∧ c ≤ 13) (hx : x = kcl c f) (hy : c = 8 ∨ c = 13 → yv = ng) (lt : T0.1 621 27 < 150) (s1 : ∀ x g, ¬ (x = 3 ∧ g = 14) → x ≠ k → x ≠ k + 11 → S1.1 x g = S0.1 x g) (s1k : S1.1 k 11 = S0.1 k 11) (s14 : S1.1 3 14 = S0.1 3 14 + 1) (s2 : S1.2 = S0.2) (h1 : ADr N c T0 T1) (v : T2.1 628 (3840 + N) = ng ∧ T2.1 629 (3840 + N) = f) (v1 : ∀ a g, ¬ ((a = 628 ∨ a = 629) ∧ g = 3840 + N) → a ≠ 636 → a ≠ 637 → a ≠ 638 → T2.1 a g = T1.1 a g) (v2 : T2.2 = T1.2) (h2 : OPr (D + 1) N (N + 1) 0 T2 T3) (s : BGc (D + 1) x yv 0 S1 S') (hg' : RIg k (N + 2) (D + 1) φ (nup G (D + 1) N) (nup R (D + 1) (N + 1)) S' T3) (hv : RV (N + 2) T3) (vlow : ∀ a g, (a = 636 ∧ g < 12) ∨ (a = 637 ∧ g < 120) ∨ (a = 638 ∧ g < 312) → T2.1 a g = T1.1 a g) : RIa k lv ws S' T3 ∧ TKp lv p S T S' T3 := by
  obtain ⟨h, hg, hN0, hU⟩ := H
  have p0 := h.2.1.2.2.2.1 lv (Nat.le_refl _)
  have h120 := (LV_tx h.2.1.1 h.2.1.2.1 p0.1).2.2.1
  have h0 := RIb_mv h hkr hm (by omega)
  obtain ⟨m1, m2, m3, m4, m5, m6, m7, m8⟩ := hm
  have h25 := h0.2.2.2.2.2.2.2
  have hD152 : D + 1 < 152 := by
    have := h0.2.2.2.1.2.2.2
    omega
  have hw := op_w (RIw_of h0) hkr (by rw [m4 _ _ (by omega) (by omega)]; exact (hN0.2.2.1 D (Nat.le_refl _)).1) hc hx hy lt s1 s1k s14 s2 h1 v v1 v2 h2 s hg'
  obtain ⟨s0, rc, hs, hrc, k1, k2, k3⟩ := RDR_lk h0.1.1
  have hf0 := h0.2.2.2.2.1
  have off := fun {e f : Nat} => op_off (e := e) (f := f) h1 v1 h2
  obtain ⟨⟨a1, a2, a3, a4, a5, a6⟩, ⟨u1, u2, u3, u4, u5, u6, u7, u8, u9, u10⟩, f1, f2, f3⟩ := h1
  obtain ⟨⟨p1, p2, p3, p4, p5⟩, ⟨o1, o2, o3, o4, o5⟩, ⟨r1, r2, r3, r4, r5, r6⟩, g1, g2, g3, g4⟩ := h2
  obtain ⟨⟨b1, b2, b3, b4, b5⟩, ⟨b6, b7⟩, b8, b9⟩ := s
  rw [k1, k2] at f1 a6
  have hdd := h0.1.1.1.2.2.2.2
  have to : ∀ c g, c ≤ 650 → ¬ (c = 635 ∧ g = 12) → ¬ (625 ≤ c ∧ c ≤ 632) → ¬ (c = 621 ∧ (g = 25 ∨ g = 27 ∨ g = 31 ∨ g = 37 ∨ g = 38 ∨ g = 39)) → ¬ (646 ≤ c ∧ c ≤ 650 ∧ g = D + 1) → c ≠ 636 → c ≠ 637 → c ≠ 638 → ¬ (c = 645 ∧ g = lv) → T3.1 c g = T.1 c g := fun c g h0 h1 h2 h3 h4 h5 h6 h7 h8 => by
    rw [off h1 h2 h3 h4 ⟨h5, h6, h7⟩, m4 c g h8 (fun z => absurd z.1 (Nat.not_le_of_lt (Nat.lt_succ_of_le h0)))]
  have gt : ∀ c g, 625 ≤ c → c ≤ 632 → g < N → ¬ (c = rc ∧ g = s0) → T3.1 c (3840 + g) = T.1 c (3840 + g) := fun c g h1 h2 h3 h4 => by
    rw [g2 c _ (by omega) (by omega) (by omega) (by omega) (by omega), v1 c _ (by omega) (by omega) (by omega) (by omega), f1 c _ (by omega) (by omega) (by omega) (by omega), m4 _ _ (by omega) (by omega)]
  have v645 : T3.1 645 lv = p := by
    rw [g2 _ _ (by omega) (by omega) (by omega) (by omega) (by omega), v1 _ _ (by omega) (by omega) (by omega) (by omega), f1 _ _ (by omega) (by omega) (by omega) (by omega), m5]
  have v25 : T3.1 621 25 = 0 := by
    rw [g2 _ _ (by omega) (by omega) (by omega) (by omega) (by omega), v1 _ _ (by omega) (by omega) (by omega) (by omega), a3, if_pos ⟨h25, lt⟩]
  have sK : ∀ x g, KTs x g ∨ (x = 3 ∧ g = 8) → S'.1 x g = S0.1 x g := fun x g z => by
    rw [b8 x g (by unfold KTs at z; omega) (by unfold KTs at z; omega), s1 x g (by unfold KTs at z; omega) (by unfold KTs at z; omega) (by unfold KTs at z; omega)]
  have sR : S'.2 = S0.2 := by rw [b9, s2]
  refine ⟨⟨N + 2, M, D + 1, φ, ψ, own, _, _, _, _, _, nup y N (T.1 645 lv).toNat, ⟨hw.1, RIt_pos h0.2.1 (fun x g z => sK x g (Or.inl z)) (fun x g _ => by rw [sR]) (fun x g z => ?_) (fun i hi => ?_) ?_, hw.2.1, hw.2.2.1, hw.2.2.2.1, hw.2.2.2.2.1, hw.2.2.2.2.2, v25⟩, ?_, ⟨by omega, ?_, fun i hi => ?_, hv⟩, ?up⟩, v645, fun i hi => ?_, fun x g z => ?_, fun x g z => ?_, fun x g z => ?_, ?_, fun c g z => ?_, fun c g x y z => by rw [g3 c g (by omega), v2, f2 c g (by omega), m7 c g x y]⟩
  case up =>
    refine UL_open (s0 := s0) (rc := rc) hU h.1.1 h.1.2.1 hs k3 (fun m c hm hc he => gt c m (by omega) (by omega) hm (by omega)) ?_ ⟨by rw [g1]; omega, ?_⟩ ⟨r2, r3⟩ (fun b hb => ?_)
    · rw [g2 _ _ (by omega) (by omega) (by omega) (by omega) (by omega), v1 _ _ (by omega) (by omega) (by omega) (by omega), a6]
    · rw [g2 _ _ (by omega) (by omega) (by omega) (by omega) (by omega), v1 _ _ (by omega) (by omega) (by omega) (by omega), u3]
    · rw [b8 _ _ (by omega) (by omega), s1 _ _ (by omega) (by omega) (by omega), m1 _ _ (by omega) (by omega)]
  · rw [to x g (by unfold KTt at z; omega) (by unfold KTt at z; omega) (by unfold KTt at z; omega) (by unfold KTt at z; omega) (by unfold KTt at z; omega) (by unfold KTt at z; omega) (by unfold KTt at z; omega) (by unfold KTt at z; omega) (by unfold KTt at z; omega), m4 x g (by unfold KTt at z; omega) (by unfold KTt at z; omega)]
  · rw [to _ _ (by omega) (by omega) (by omega) (by omega) (by omega) (by omega) (by omega) (by omega) (by omega), m4 _ _ (by omega) (by omega)]
  · have tx := (LV_tx h.2.1.1 h.2.1.2.1 p0.1).1
    unfold isTx at tx
    rw [v645, sK 3 8 (Or.inr ⟨rfl, rfl⟩), m2, m1 _ _ (by omega) (by omega)]
    omega
  · have q := GH_open (x := 0) (K2 := Kt T3) (X2 := Xt T3) (V2 := T3.1 645) (O2 := T3.1 650) (G2 := nup G (D + 1) N) (P2 := iup P (D + 1) (-1)) hg hN0.1 (fun m hm => gt 625 m (by omega) (by omega) hm (by omega)) (fun m hm => ?_) ?_ r1 ?_ p0.2.1 ?_ (by rw [v645]; omega) (fun j hj => ?_) (fun i h1 h2 => ?_) o5 (fun i hi => nup_ne (by omega)) nup_eq (fun i hi => iup_ne (by omega)) iup_eq
    · rw [if_neg (by decide)] at q
      exact q
    · rcases k3 with ⟨z1, z2, z3⟩ | ⟨z1, z2⟩
      · exact Or.inl (gt 627 m (by omega) (by omega) hm (by omega))
      · by_cases e : m = s0
        · refine Or.inr ⟨by omega, ?_⟩
          show T3.1 627 (3840 + m) = _
          rw [g2 _ _ (by omega) (by omega) (by omega) (by omega) (by omega), v1 _ _ (by omega) (by omega) (by omega) (by omega), e, ← z2, a6]
        · exact Or.inl (gt 627 m (by omega) (by omega) hm (by omega))
    · show T3.1 625 (3840 + N) ≠ 18
      rw [g2 _ _ (by omega) (by omega) (by omega) (by omega) (by omega), v1 _ _ (by omega) (by omega) (by omega) (by omega), u1]
      omega
    · show T3.1 627 (3840 + N) = -1
      rw [g2 _ _ (by omega) (by omega) (by omega) (by omega) (by omega), v1 _ _ (by omega) (by omega) (by omega) (by omega), u3]
    · rw [v645, show Kt T3 N = c from by show T3.1 625 (3840 + N) = _; rw [g2 _ _ (by omega) (by omega) (by omega) (by omega) (by omega), v1 _ _ (by omega) (by omega) (by omega) (by omega), u1]]
      exact hp.1
    · exact to _ _ (by omega) (by omega) (by omega) (by omega) (by omega) (by omega) (by omega) (by omega) (by omega)
    · exact to _ _ (by omega) (by omega) (by omega) (by omega) (by omega) (by omega) (by omega) (by omega) (by omega)
  · have z := gt 625 0 (by omega) (by omega) (by have := hN0.1; omega) (by omega)
    exact z.trans hN0.2.1
  · by_cases e : i = D + 1
    · rw [e, o4, v1 _ _ (by omega) (by omega) (by omega) (by omega), f1 _ _ (by omega) (by omega) (by omega) (by omega)]
      exact hf0.2
    · rw [to _ _ (by omega) (by omega) (by omega) (by omega) (by omega) (by omega) (by omega) (by omega) (by omega)]
      exact hN0.2.2.1 i (by omega)
  · exact to _ _ (by omega) (by omega) (by omega) (by omega) (by omega) (by omega) (by omega) (by omega) (by omega)
  · exact to x g (by unfold KTt at z; omega) (by unfold KTt at z; omega) (by unfold KTt at z; omega) (by unfold KTt at z; omega) (by unfold KTt at z; omega) (by unfold KTt at z; omega) (by unfold KTt at z; omega) (by unfold KTt at z; omega) (by unfold KTt at z; omega)
  · rw [sK x g (Or.inl z), m1 x g (by unfold KTs at z; omega) (by unfold KTs at z; omega)]
  · rw [sR, m3 x g (by omega)]
  · rw [g2 _ _ (by omega) (by omega) (by omega) (by omega) (by omega), v1 _ _ (by omega) (by omega) (by omega) (by omega), a2, m4 _ _ (by omega) (by omega)]
    omega
  · have z' := z
    unfold LOWc at z'
    rw [g2 c g (by omega) (by omega) (by omega) (by omega) (by omega)]
    by_cases w : c = 636 ∨ c = 637 ∨ c = 638
    · rw [vlow c g (by omega), f1 c g (by omega) (by omega) (by omega) (by omega), m4 c g (by omega) (by omega)]
    · rw [v1 c g (by omega) (by omega) (by omega) (by omega), f1 c g (by omega) (by omega) (by omega) (by omega), m4 c g (by omega) (by omega)]
end ROPN
