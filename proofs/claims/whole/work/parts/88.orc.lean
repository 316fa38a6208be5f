/-! ENGINES: the program of a pattern that is kept -/
section ORC
variable {Q k p N M m n w len x i kt wd b : Nat} {φ ψ own up lo : Nat → Nat} {S T U V S0 T0 T1 : ev_St} {L : List INS}
def tP (p : Nat) (U : ev_St) (i : Nat) : T3 := (U.1 662 (210 * p + i), U.1 663 (210 * p + i), U.1 664 (210 * p + i))
def tE (U : ev_St) (w len : Nat) (x : Nat) (v : Int) : Bool := decide (edge U w len (U.1 625 v.toNat) (U.1 629 v.toNat) x = 1)
noncomputable def sX (U : ev_St) (w len : Nat) (L : List INS) (x : Nat) (i : Nat) : Bool := @decide (x < len ∧ ∃ z, L[i]? = some z ∧ z.1 = 0 ∧ cs z.2.2.1 z.2.2.2 (sp_at U w (x : Int)) ≠ 0) (Classical.propDecidable _)
def lvB (g : Nat) (U : ev_St) (i : Nat) : Bool := decide (U.1 (g + 5) i ≠ 0)
def PRGU (k p N : Nat) (φ : Nat → Nat) (U : ev_St) (L : List INS) : Prop := PL (k + 12) U L ∧ (∃ A, L = A ++ [ins 6 0] ∧ LB A ∧ A.length ≤ 200) ∧ LVD (k + 12) L U ∧ ∀ i x, L[i]? = some x → insP i x (tP p U i) ∧ RX k N p φ U U i x (tP p U i)
theorem PRG_of (h : KEPT k p U U) (hp : p < 12) (hk : k = 313 + 20 * p) (h14 : U.1 k 14 ≠ 0) : ∃ N M φ ψ own up lo L, STA k p N M φ ψ own up lo U ∧ PRGU k p N φ U L := by
  obtain ⟨S0, T0, T1, N, M, φ, ψ, own, up, W, ⟨hF, _, _, _, _, hE⟩, hc, hr, hg⟩ := h
  have hN := hF.2.1.2.2.2
  have t1 : ∀ c m, 625 ≤ c → c ≤ 632 → m < N → (sft p U).1 c (3840 + m) = (sft p T0).1 c (3840 + m) := fun c m h1 h2 hm => by
    rw [sft_1 h1 h2, sft_1 h1 h2]
    exact hr.1 c _ (by omega) (by omega) (by omega)
  have hF2 : FINX k N M φ ψ own up U (sft p U) := FINX_c1 hF (fun g _ => (hc k g (by omega) (by omega)).1) (fun j b _ _ => (hc (k + j) b (by omega) (by omega)).1) (fun j b _ _ => (hc (k + j) b (by omega) (by omega)).2) t1 (fun c m h1 h2 hm => by
    rw [sft_L h1 h2, sft_L h1 h2]
    exact hr.2.1 c _ h1 h2 (by omega) (by omega)) (fun c h => by
    rw [sft_5 h, sft_5 h]
    exact hr.2.2.1 c h) (fun j hj => by
    rw [sft_7, sft_7]
    exact hr.2.2.2.1 j (by omega)) (fun l hl => by
    rw [sft_8, sft_8]
    exact hr.2.2.2.2 l hl)
  have hF0 := hF
  obtain ⟨_, _, _, _, _, _, _, y, _, _, lo, hL⟩ := hF
  have hA : STA k p N M φ ψ own up lo U := ⟨hF2, LOf_c hL (fun m c hm hc => t1 c m (by omega) (by omega) hm), hp, hk⟩
  rcases hE with ⟨_, e2, _⟩ | ⟨ok, e2, e3, CA, CI, L', ⟨q1, q2, q3, q4, q5⟩, r1, r2, r3⟩
  · rw [(hc k 14 (by omega) (by omega)).1] at h14
    exact absurd e2 h14
  · refine ⟨N, M, φ, ψ, own, up, lo, CA 0 ++ [ins 6 0], hA, ⟨?_, q2.2.1, fun i x hx => ?_⟩, ⟨CA 0, rfl, ?_, q5⟩, fun a ha => ?_, fun i x hx => ?_⟩
    · rw [(hc (k + 12) 5 (by omega) (by omega)).1]
      exact q2.1
    · obtain ⟨u1, u2, u3⟩ := q2.2.2 i x hx
      refine ⟨?_, ?_, fun h0 => ⟨?_, ?_⟩⟩
      · rw [(hc (k + 12 + 1) i (by omega) (by omega)).1]
        exact u1
      · rw [(hc (k + 12 + 2) i (by omega) (by omega)).1]
        exact u2
      · rw [(hc (k + 12 + 3) i (by omega) (by omega)).2]
        exact (u3 h0).1
      · rw [(hc (k + 12 + 4) i (by omega) (by omega)).2]
        exact (u3 h0).2
    · have n0 := (sa_num hA).1.1
      refine (LBL_all hF0 q1 (fun m hm => ?_) N 0 n0 (by omega)).1
      obtain ⟨o1, o2, _⟩ := ok.1 m hm
      refine ⟨?_, ?_⟩
      · show (sft p T0).1 625 (3840 + m) < 7 ∨ _
        have e : tK (sft p T0) m = T0.1 625 (320 * p + m) := sft_1 (by omega) (by omega)
        show tK (sft p T0) m < 7 ∨ tK (sft p T0) m = 8 ∨ tK (sft p T0) m = 9 ∨ tK (sft p T0) m = 18
        rw [e]
        exact o1
      · have e : tR (sft p T0) m = T0.1 630 (320 * p + m) := sft_1 (by omega) (by omega)
        rw [e]
        exact o2
    · rw [(hc (k + 12 + 5) a (by omega) (by omega)).1]
      exact q4 a ha
    · have li : i < (CA 0 ++ [ins 6 0]).length := by
        apply Classical.byContradiction
        intro z
        rw [List.getElem?_eq_none (by omega)] at hx
        cases hx
      rw [List.length_append] at li
      have li' : i < (CA 0).length + 1 := li
      obtain ⟨t, s1, s2⟩ := RLs_get _ _ 0 i x r2 hx
      rw [Nat.zero_add] at s2
      obtain ⟨v1, v2, v3⟩ := r1 i t s1
      have et : tP p U i = t := by
        show (U.1 662 (210 * p + i), U.1 663 (210 * p + i), U.1 664 (210 * p + i)) = t
        rw [hg.2.2 662 _ (by omega) (by omega) (by omega) (by omega), hg.2.2 663 _ (by omega) (by omega) (by omega) (by omega), hg.2.2 664 _ (by omega) (by omega) (by omega) (by omega), v1, v2, v3]
      rw [et]
      have rx : RX k N p φ U U i x t := by
        rcases s2 with ⟨y1, y2, m, y3, y4, y5, y6⟩ | ⟨y1, y2, m, y3, y4, y5, y6⟩ | z
        · refine Or.inl ⟨y1, y2, m, y3, ?_, ?_, y6⟩
          · rw [hr.1 625 _ (by omega) (by omega) (by omega)]
            exact y4
          · rw [(hc (k + 8) (φ m) (by omega) (by omega)).2, (hc (k + 9) (φ m) (by omega) (by omega)).2]
            exact y5
        · refine Or.inr (Or.inl ⟨y1, y2, m, y3, ?_, ?_, y6⟩)
          · rw [hr.1 625 _ (by omega) (by omega) (by omega)]
            exact y4
          · rw [(hc (k + 1) (φ m) (by omega) (by omega)).1]
            exact y5
        · exact Or.inr (Or.inr z)
      refine ⟨?_, rx⟩
      rcases s2 with ⟨y1, y2, _⟩ | ⟨y1, y2, _⟩ | y | y | y | y | y
      · exact Or.inl ⟨y1, y2⟩
      · exact Or.inr (Or.inl ⟨y1, y2⟩)
      · exact Or.inr (Or.inr (Or.inl y))
      · exact Or.inr (Or.inr (Or.inr (Or.inl y)))
      · exact Or.inr (Or.inr (Or.inr (Or.inr (Or.inl y))))
      · exact Or.inr (Or.inr (Or.inr (Or.inr (Or.inr (Or.inl y)))))
      · exact Or.inr (Or.inr (Or.inr (Or.inr (Or.inr (Or.inr y)))))
/-- where an instruction stands -/
theorem PU_at (h : PRGU k p N φ U L) (hi : i < L.length) : ∃ z, L[i]? = some z ∧ insP i z (tP p U i) ∧ RX k N p φ U U i z (tP p U i) ∧ L.length ≤ 201 ∧ (∃ In : Nat → Int → Prop, (∀ g, ¬ In 0 g) ∧ ∀ j y, L[j]? = some y → (y.1 ≠ 6 → lbI In j y ∧ tgI j (L.length - 1) y ∧ j + 1 < L.length)) := by
  obtain ⟨h1, ⟨A, hA, ⟨In, a1, a2, a3⟩, hl⟩, h3, h4⟩ := h
  have z1 : L[i]? = some L[i] := List.getElem?_eq_getElem hi
  obtain ⟨y1, y2⟩ := h4 i _ z1
  have ln : L.length = A.length + 1 := by
    rw [hA, List.length_append]
    rfl
  refine ⟨L[i], z1, y1, y2, by omega, In, a1, fun j y hy h6 => ?_⟩
  have hj : j < A.length := by
    apply Classical.byContradiction
    intro q
    rw [hA, List.getElem?_append_right (by omega)] at hy
    cases e : j - A.length with
    | zero =>
      rw [e] at hy
      have : ins 6 0 = y := Option.some.inj hy
      rw [← this] at h6
      exact h6 rfl
    | succ u =>
      rw [e] at hy
      cases hy
  have hy' : A[j]? = some y := by
    rw [hA, List.getElem?_append_left hj] at hy
    exact hy
  obtain ⟨b1, b2⟩ := a3 j y hy'
  exact ⟨b1, by rw [ln]; exact b2, by omega⟩
theorem PU_wf (h : PRGU k p N φ U L) : wfP (tP p U) L.length ∧ 0 < L.length ∧ L.length ≤ 201 ∧ ∃ In, lbP (tP p U) L.length In ∧ ∀ g, ¬ In 0 g := by
  have l0 : 0 < L.length ∧ L.length ≤ 201 := by
    obtain ⟨_, ⟨A, hA, _, hl⟩, _⟩ := h
    rw [hA, List.length_append]
    show 0 < A.length + 1 ∧ A.length + 1 ≤ 201
    omega
  obtain ⟨_, _, _, _, _, In, i0, i1⟩ := PU_at h l0.1
  refine ⟨fun i hi => ?_, l0.1, l0.2, In, fun i hi g => ?_, i0⟩
  · obtain ⟨z, z1, z2, _⟩ := PU_at h hi
    have q := i1 i z z1
    by_cases h6 : z.1 = 6
    · rcases z2 with y | y | y | y | y | y | y
      · omega
      · omega
      · omega
      · omega
      · omega
      · omega
      · exact Or.inr (Or.inr (Or.inr (Or.inr (Or.inr y.2))))
    · obtain ⟨q1, q2, q3⟩ := q h6
      rcases z2 with ⟨y1, y2⟩ | ⟨y1, y2⟩ | ⟨y1, y2, y3⟩ | ⟨y1, y2, y3, y4⟩ | ⟨y1, y2, y3, y4⟩ | ⟨y1, y2, y3⟩ | ⟨y1, y2⟩
      · exact Or.inl ⟨y2, q3⟩
      · exact Or.inr (Or.inl ⟨y2, q3⟩)
      · rcases q2 with ⟨_, u1, u2⟩ | ⟨u, _⟩
        · exact Or.inr (Or.inr (Or.inr (Or.inl ⟨y2, by omega, by omega⟩)))
        · exact absurd (Or.inl y1) u
      · rcases q2 with ⟨_, u1, u2⟩ | ⟨u, _⟩
        · exact Or.inr (Or.inr (Or.inl ⟨y2, ⟨by omega, by omega⟩, by omega, by omega⟩))
        · exact absurd (Or.inr (Or.inl y1)) u
      · rcases q2 with ⟨_, u1, u2⟩ | ⟨u, _⟩
        · exact Or.inr (Or.inr (Or.inl ⟨y2, ⟨by omega, by omega⟩, by omega, by omega⟩))
        · exact absurd (Or.inr (Or.inr y1)) u
      · obtain ⟨_, _, u1, u2⟩ := (q1 0).2.2.2 y1
        exact Or.inr (Or.inr (Or.inr (Or.inr (Or.inl ⟨y2, q3, by omega, by omega⟩))))
      · exact absurd y1 h6
  · obtain ⟨z, z1, z2, _⟩ := PU_at h hi
    by_cases h6 : z.1 = 6
    · have o5 : (tP p U i).1 = 5 := by
        rcases z2 with y | y | y | y | y | y | y <;> omega
      rw [o5]
      exact ⟨fun q => absurd q (by decide), fun q => absurd q (by decide), fun q => absurd q (by decide), fun q => absurd q (by decide)⟩
    · obtain ⟨q1, q2, q3⟩ := i1 i z z1 h6
      obtain ⟨b1, b2, b3, b4⟩ := q1 g
      rcases z2 with ⟨y1, y2⟩ | ⟨y1, y2⟩ | ⟨y1, y2, y3⟩ | ⟨y1, y2, y3, y4⟩ | ⟨y1, y2, y3, y4⟩ | ⟨y1, y2, y3⟩ | ⟨y1, y2⟩
      · rw [y2]
        exact ⟨fun q => absurd q (by decide), fun q => absurd q (by decide), fun _ => b3 (Or.inl y1), fun q => absurd q (by decide)⟩
      · rw [y2]
        exact ⟨fun q => absurd q (by decide), fun q => absurd q (by decide), fun _ => b3 (Or.inr y1), fun q => absurd q (by decide)⟩
      · rw [y2, y3]
        exact ⟨fun _ => b1 y1, fun q => absurd q (by decide), fun q => absurd q (by decide), fun q => absurd q (by decide)⟩
      · rw [y2, y3, y4]
        refine ⟨fun q => absurd q (by decide), fun _ w => b2 (Or.inl y1) ?_, fun q => absurd q (by decide), fun q => absurd q (by decide)⟩
        rw [show ((i : Int) + 1).toNat = i + 1 by omega] at w
        exact w
      · rw [y2, y3, y4]
        refine ⟨fun q => absurd q (by decide), fun _ w => b2 (Or.inr y1) ?_, fun q => absurd q (by decide), fun q => absurd q (by decide)⟩
        rw [show ((i : Int) + 1).toNat = i + 1 by omega] at w
        exact w.symm
      · rw [y2, y3]
        exact ⟨fun q => absurd q (by decide), fun q => absurd q (by decide), fun q => absurd q (by decide), fun _ => ⟨(b4 y1).1, (b4 y1).2.1⟩⟩
      · exact absurd y1 h6
theorem lvB_iff (h : PRGU k p N φ U L) (hi : i < L.length) : lvB (k + 12) U i = true ↔ LVE L i := by
  unfold lvB
  rw [decide_eq_true_iff]
  exact h.2.2.1 i hi
theorem LVE_i {i : Nat} {z : INS} (hz : L[i]? = some z) (h : LVE L i) : ldQ (LVE L) L.length i z := by
  have q := h (fun j => ∃ y, L[j]? = some y ∧ ldQ (LVE L) L.length j y) (fun j y hy hd => ⟨y, hy, ldQ_m (fun a _ w => by
    obtain ⟨u, u1, u2⟩ := w
    exact LVE_c a u u1 u2) hd⟩)
  obtain ⟨y, y1, y2⟩ := q
  rw [hz] at y1
  rw [Option.some.inj y1]
  exact y2
theorem PU_lv (h : PRGU k p N φ U L) : lvP (tP p U) L.length (lvB (k + 12) U) := fun i hi => by
  obtain ⟨hw, _⟩ := PU_wf h
  obtain ⟨z, z1, z2, _⟩ := PU_at h hi
  have w' := hw i hi
  have key : ldQ (LVE L) L.length i z → lvB (k + 12) U i = true := fun q => (lvB_iff h hi).mpr (LVE_c i z z1 q)
  have tg : ∀ v : Int, 0 ≤ v → v < L.length → (lvB (k + 12) U v.toNat = true → LVE L v.toNat) := fun v h1 h2 q => (lvB_iff h (by omega)).mp q
  refine ⟨fun o q => ?_, fun o q => ?_, fun o q => ?_, fun o => ?_⟩
  · have w2 : (0 ≤ (tP p U i).2.1 ∧ (tP p U i).2.1 < (L.length : Int)) ∧ (0 ≤ (tP p U i).2.2 ∧ (tP p U i).2.2 < (L.length : Int)) := by
      rcases w' with y | y | y | y | y | y
      · omega
      · omega
      · exact y.2
      · omega
      · omega
      · omega
    apply key
    have q' : LVE L (tP p U i).2.1.toNat ∨ LVE L (tP p U i).2.2.toNat := by
      rcases q with q | q
      · exact Or.inl (tg _ w2.1.1 w2.1.2 q)
      · exact Or.inr (tg _ w2.2.1 w2.2.2 q)
    unfold ldQ
    rcases z2 with ⟨y1, y2⟩ | ⟨y1, y2⟩ | ⟨y1, y2, y3⟩ | ⟨y1, y2, y3, y4⟩ | ⟨y1, y2, y3, y4⟩ | ⟨y1, y2, y3⟩ | ⟨y1, y2⟩
    · omega
    · omega
    · omega
    · rw [y3, y4] at q' w2
      rw [if_neg (by omega), if_neg (by omega), if_pos (Or.inl y1)]
      rcases q' with q' | q'
      · rw [show ((i : Int) + 1).toNat = i + 1 by omega] at q'
        exact Or.inl ⟨by omega, q'⟩
      · exact Or.inr ⟨w2.2, q'⟩
    · rw [y3, y4] at q' w2
      rw [if_neg (by omega), if_neg (by omega), if_pos (Or.inr y1)]
      rcases q' with q' | q'
      · exact Or.inr ⟨w2.1, q'⟩
      · rw [show ((i : Int) + 1).toNat = i + 1 by omega] at q'
        exact Or.inl ⟨by omega, q'⟩
    · omega
    · omega
  · have w3 : 0 ≤ (tP p U i).2.1 ∧ (tP p U i).2.1 < (L.length : Int) := by
      rcases w' with y | y | y | y | y | y
      · omega
      · omega
      · omega
      · exact y.2
      · omega
      · omega
    apply key
    have q' := tg _ w3.1 w3.2 q
    unfold ldQ
    rcases z2 with ⟨y1, y2⟩ | ⟨y1, y2⟩ | ⟨y1, y2, y3⟩ | ⟨y1, y2, y3, y4⟩ | ⟨y1, y2, y3, y4⟩ | ⟨y1, y2, y3⟩ | ⟨y1, y2⟩
    · omega
    · omega
    · rw [y3] at q' w3
      rw [if_neg (by omega), if_pos y1]
      exact ⟨w3, q'⟩
    · omega
    · omega
    · omega
    · omega
  · have w4 : i + 1 < L.length := by
      rcases w' with y | y | y | y | y | y <;> omega
    apply key
    have q' := (lvB_iff h w4).mp q
    unfold ldQ
    have hz : z.1 = 5 ∨ z.1 = 1 := by
      rcases z2 with y | y | y | y | y | y | y <;> omega
    rw [if_neg (by omega), if_neg (by omega), if_neg (by omega), if_neg (by omega)]
    exact ⟨w4, q'⟩
  · apply key
    unfold ldQ
    have hz : z.1 = 6 := by
      rcases z2 with y | y | y | y | y | y | y <;> omega
    rw [if_neg (by omega), if_neg (by omega), if_neg (by omega), if_pos hz]
    exact True.intro
theorem sX_iff {z : INS} (hz : L[i]? = some z) (h0 : z.1 = 0) : sX U w len L x i = true ↔ (x < len ∧ cs z.2.2.1 z.2.2.2 (sp_at U w (x : Int)) ≠ 0) := by
  unfold sX
  refine (@decide_eq_true_iff _ (Classical.propDecidable _)).trans ⟨fun h => ?_, fun h => ⟨h.1, z, hz, h0, h.2⟩⟩
  obtain ⟨h1, y, y1, y2, y3⟩ := h
  rw [hz] at y1
  rw [Option.some.inj y1]
  exact ⟨h1, y3⟩
theorem cs_n0 {l h : Int64} {c : Int} (hc : cs l h c ≠ 0) : l ≠ 0 ∨ h ≠ 0 := Classical.byContradiction fun z => by
  have e1 : l = 0 := Classical.byContradiction fun y => z (Or.inl y)
  have e2 : h = 0 := Classical.byContradiction fun y => z (Or.inr y)
  apply hc
  unfold cs
  rw [e1, e2, if_neg]
  rintro ⟨_, _, q⟩
  split at q <;> (rw [lb_z] at q; cases q)
theorem PU_lvX (h : PRGU k p N φ U L) : lvX (tP p U) L.length (sX U w len L) (lvB (k + 12) U) := fun x i hi o0 hx => by
  obtain ⟨hw, _⟩ := PU_wf h
  obtain ⟨z, z1, z2, _⟩ := PU_at h hi
  have hz : z.1 = 0 := by
    rcases z2 with y | y | y | y | y | y | y <;> omega
  have w1 : i + 1 < L.length := by
    rcases hw i hi with y | y | y | y | y | y <;> omega
  have nz := cs_n0 ((sX_iff z1 hz).mp hx).2
  have eqv : lvB (k + 12) U i = true ↔ lvB (k + 12) U (i + 1) = true := by
    rw [lvB_iff h hi, lvB_iff h w1]
    refine ⟨fun q => ?_, fun q => ?_⟩
    · have d := LVE_i z1 q
      unfold ldQ at d
      rw [if_pos hz] at d
      exact d.1.2
    · refine LVE_c i z z1 ?_
      unfold ldQ
      rw [if_pos hz]
      exact ⟨⟨w1, q⟩, nz⟩
  cases e1 : lvB (k + 12) U i with
  | true => exact (eqv.mp e1).symm
  | false =>
    cases e2 : lvB (k + 12) U (i + 1) with
    | true => rw [eqv.mpr e2] at e1; cases e1
    | false => rfl
end ORC
