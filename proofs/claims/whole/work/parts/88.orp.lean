/-! STREAMS: programs of automata, all their places -/
section ORP
variable {Q k p N M m n w len x i kt wd b : Nat} {φ ψ own up lo : Nat → Nat} {S T U V S0 T0 T1 : ev_St} {L : List INS}
theorem PRG_of2 (h : KEPT k p U U) (hp : p < 12) (hk : k = 313 + 20 * p) (h14 : U.1 k 14 ≠ 0) : ∃ N M φ ψ own up lo L, STA k p N M φ ψ own up lo U ∧ PRGU k p N φ U L ∧ U.1 665 p + 1 = (L.length : Int) ∧ (U.1 639 p = 3 → ∀ (i : Nat) (z : INS), L[i]? = some z → z.1 ≠ 1) := by
  obtain ⟨S0, T0, T1, N, M, φ, ψ, own, up, W, ⟨hF, _, _, _, _, hE⟩, hc, hr, hg⟩ := h
  have hN := hF.2.1.2.2.2
  have t1 : ∀ c m, 625 ≤ c → c ≤ 632 → m < N → (sft p U).1 c (3840 + m) = (sft p T0).1 c (3840 + m) := fun c m h1 h2 hm => by
    rw [sft_1 h1 h2, sft_1 h1 h2]
    exact hr.1 c _ (by omega) (by omega) (by omega)
  have hF2 : FINX k N M φ ψ own up U (sft p U) := FINX_c1 hF (fun g _ => (hc k g (by omega) (by omega)).1) (fun j b _ _ => (hc (k + j) b (by omega) (by omega)).1) (fun j b _ _ => (hc (k + j) b (by omega) (by omega)).2) t1 (fun c m h1 h2 hm => by
    rw [sft_L h1 h2, sft_L h1 h2]
    exact hr.2.1 c _ h1 h2 (by omega) (by omega)) (fun c h => by
    rw [sft_5 h, sft_5 h]
    exact hr.2.2.1 c h) (fun j hj => by
    rw [sft_7, sft_7]
    exact hr.2.2.2.1 j (by omega)) (fun l hl => by
    rw [sft_8, sft_8]
    exact hr.2.2.2.2 l hl)
  have hF0 := hF
  obtain ⟨_, _, _, _, _, _, _, y, _, _, lo, hL⟩ := hF
  have hA : STA k p N M φ ψ own up lo U := ⟨hF2, LOf_c hL (fun m c hm hc => t1 c m (by omega) (by omega) hm), hp, hk⟩
  rcases hE with ⟨_, e2, _⟩ | ⟨ok, e2, e3, CA, CI, L', ⟨q1, q2, q3, q4, q5⟩, r1, r2, r3⟩
  · rw [(hc k 14 (by omega) (by omega)).1] at h14
    exact absurd e2 h14
  · refine ⟨N, M, φ, ψ, own, up, lo, CA 0 ++ [ins 6 0], hA, ⟨⟨?_, q2.2.1, fun i x hx => ?_⟩, ⟨CA 0, rfl, ?_, q5⟩, fun a ha => ?_, fun i x hx => ?_⟩, ?_, fun h3 i z hz z1 => ?_⟩
    · rw [(hc (k + 12) 5 (by omega) (by omega)).1]
      exact q2.1
    · obtain ⟨u1, u2, u3⟩ := q2.2.2 i x hx
      refine ⟨?_, ?_, fun h0 => ⟨?_, ?_⟩⟩
      · rw [(hc (k + 12 + 1) i (by omega) (by omega)).1]
        exact u1
      · rw [(hc (k + 12 + 2) i (by omega) (by omega)).1]
        exact u2
      · rw [(hc (k + 12 + 3) i (by omega) (by omega)).2]
        exact (u3 h0).1
      · rw [(hc (k + 12 + 4) i (by omega) (by omega)).2]
        exact (u3 h0).2
    · have n0 := (sa_num hA).1.1
      refine (LBL_all hF0 q1 (fun m hm => ?_) N 0 n0 (by omega)).1
      obtain ⟨o1, o2, _⟩ := ok.1 m hm
      refine ⟨?_, ?_⟩
      · show (sft p T0).1 625 (3840 + m) < 7 ∨ _
        have e : tK (sft p T0) m = T0.1 625 (320 * p + m) := sft_1 (by omega) (by omega)
        show tK (sft p T0) m < 7 ∨ tK (sft p T0) m = 8 ∨ tK (sft p T0) m = 9 ∨ tK (sft p T0) m = 18
        rw [e]
        exact o1
      · have e : tR (sft p T0) m = T0.1 630 (320 * p + m) := sft_1 (by omega) (by omega)
        rw [e]
        exact o2
    · rw [(hc (k + 12 + 5) a (by omega) (by omega)).1]
      exact q4 a ha
    · have li : i < (CA 0 ++ [ins 6 0]).length := by
        apply Classical.byContradiction
        intro z
        rw [List.getElem?_eq_none (by omega)] at hx
        cases hx
      rw [List.length_append] at li
      have li' : i < (CA 0).length + 1 := li
      obtain ⟨t, s1, s2⟩ := RLs_get _ _ 0 i x r2 hx
      rw [Nat.zero_add] at s2
      obtain ⟨v1, v2, v3⟩ := r1 i t s1
      have et : tP p U i = t := by
        show (U.1 662 (210 * p + i), U.1 663 (210 * p + i), U.1 664 (210 * p + i)) = t
        rw [hg.2.2 662 _ (by omega) (by omega) (by omega) (by omega), hg.2.2 663 _ (by omega) (by omega) (by omega) (by omega), hg.2.2 664 _ (by omega) (by omega) (by omega) (by omega), v1, v2, v3]
      rw [et]
      have rx : RX k N p φ U U i x t := by
        rcases s2 with ⟨y1, y2, m, y3, y4, y5, y6⟩ | ⟨y1, y2, m, y3, y4, y5, y6⟩ | z
        · refine Or.inl ⟨y1, y2, m, y3, ?_, ?_, y6⟩
          · rw [hr.1 625 _ (by omega) (by omega) (by omega)]
            exact y4
          · rw [(hc (k + 8) (φ m) (by omega) (by omega)).2, (hc (k + 9) (φ m) (by omega) (by omega)).2]
            exact y5
        · refine Or.inr (Or.inl ⟨y1, y2, m, y3, ?_, ?_, y6⟩)
          · rw [hr.1 625 _ (by omega) (by omega) (by omega)]
            exact y4
          · rw [(hc (k + 1) (φ m) (by omega) (by omega)).1]
            exact y5
        · exact Or.inr (Or.inr z)
      refine ⟨?_, rx⟩
      rcases s2 with ⟨y1, y2, _⟩ | ⟨y1, y2, _⟩ | y | y | y | y | y
      · exact Or.inl ⟨y1, y2⟩
      · exact Or.inr (Or.inl ⟨y1, y2⟩)
      · exact Or.inr (Or.inr (Or.inl y))
      · exact Or.inr (Or.inr (Or.inr (Or.inl y)))
      · exact Or.inr (Or.inr (Or.inr (Or.inr (Or.inl y))))
      · exact Or.inr (Or.inr (Or.inr (Or.inr (Or.inr (Or.inl y)))))
      · exact Or.inr (Or.inr (Or.inr (Or.inr (Or.inr (Or.inr y)))))
    · rw [hg.2.1, r3, List.length_append]
      rfl
    · have n15 : ¬ ∃ m, m < N ∧ edR (320 * p + m) T0 := by
        rcases e3 with ⟨_, y⟩ | ⟨_, _, y⟩
        · rw [hg.1, y] at h3
          exact absurd h3 (by decide)
        · exact y
      obtain ⟨t, s1, s2⟩ := RLs_get _ _ 0 i z r2 hz
      rcases s2 with ⟨y1, _⟩ | ⟨y1, y2, m, y3, y4, _⟩ | ⟨y1, _⟩ | ⟨y1, _⟩ | ⟨y1, _⟩ | ⟨y1, _⟩ | ⟨y1, _⟩
      · omega
      · exact n15 ⟨m, y3, y4⟩
      · omega
      · omega
      · omega
      · omega
      · omega
/-- bounds of all 210 places of a program's row -/
theorem PU_enB (h : PRGU k p N φ U L) (hN : N ≤ 320) (hp : p < 12) (hZ : sp_ZR U) (h9 : U.1 639 p ≠ 0) (h5 : U.1 665 p + 1 = (L.length : Int)) : ∀ i, i < 210 → enB p i U := fun i hi => by
  by_cases li : i < L.length
  · obtain ⟨hw, _, l201, _⟩ := PU_wf h
    have w := hw i li
    obtain ⟨z, z1, z2, z3, _⟩ := PU_at h li
    have e1 : (tP p U i).1 = U.1 662 (210 * p + i) := rfl
    have e2 : (tP p U i).2.1 = U.1 663 (210 * p + i) := rfl
    have e3 : (tP p U i).2.2 = U.1 664 (210 * p + i) := rfl
    have r0 : (tP p U i).1 = 0 → ∃ m, m < N ∧ (tP p U i).2.1 = ((320 * p + m : Nat) : Int) := fun o => by
      rcases z3 with ⟨_, _, m, y3, _, _, y6⟩ | ⟨_, y2, _⟩ | ⟨_, y2, _⟩ | ⟨_, y2, _⟩ | ⟨_, y2, _⟩ | ⟨_, y2, _⟩ | ⟨_, y2⟩
      · exact ⟨m, y3, y6⟩
      · omega
      · omega
      · omega
      · omega
      · omega
      · omega
    clear z1 z2 z3
    unfold enB
    rw [← e1, ← e2, ← e3]
    refine ⟨fun o => ?_, fun o => ?_, fun o => ?_⟩
    · obtain ⟨m, m1, m2⟩ := r0 o
      rw [m2]
      omega
    · rcases w with y | y | y | y | y | y
      · omega
      · omega
      · omega
      · omega
      · omega
      · omega
    · rcases w with y | y | y | y | y | y
      · omega
      · omega
      · omega
      · omega
      · omega
      · omega
  · have a1 := hZ p 662 i hp (by decide) (by decide) hi (Or.inr ⟨h9, by omega⟩)
    have a2 := hZ p 663 i hp (by decide) (by decide) hi (Or.inr ⟨h9, by omega⟩)
    unfold enB
    rw [a1, a2]
    refine ⟨fun _ => ?_, fun o => ?_, fun o => ?_⟩
    · omega
    · omega
    · exact absurd o (by decide)
end ORP
