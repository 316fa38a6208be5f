/-! STREAMS: which places reach an end, on both sides -/
section ORQ
variable {Q k p N M n a : Nat} {φ ψ own up lo : Nat → Nat} {U : ev_St} {L : List INS} {l h c d : Int64}
/-- a set is empty on both sides at once -/
theorem RZ_iff (hB : SB l h c d) (hV : SV l h) : (l ≠ 0 ∨ h ≠ 0) ↔ (c ≠ 0 ∨ d ≠ 0) := by
  have z0 : ∀ i, lb (0 : Int64) i = false := fun i => lb_z i
  have sg : ∀ x : Int, (x = 10 ∨ (32 ≤ x ∧ x ≤ 126)) → sp_sign x = 1 := fun x hx => by
    unfold sp_sign
    exact if_pos hx
  have key : (l = 0 ∧ h = 0) ↔ (c = 0 ∧ d = 0) := by
    constructor
    · rintro ⟨rfl, rfl⟩
      have cz : ∀ x : Int, cb 0 0 x = false := fun x => by
        unfold cb
        split <;> exact z0 _
      refine ⟨lb_ext fun i hi => ?_, lb_ext fun i hi => ?_⟩
      · rw [z0]
        by_cases e : i = 0
        · have q := hB.1 10 (sg 10 (Or.inl rfl))
          rw [cz] at q
          have rx : rix 10 = 0 := rfl
          unfold rb at q
          rw [rx, if_pos (by decide)] at q
          rw [e]
          exact q.symm
        · have q := hB.1 ((i : Int) + 31) (sg _ (by omega))
          rw [cz] at q
          have rx : rix ((i : Int) + 31) = (i : Int) := by
            unfold rix
            rw [if_neg (by omega)]
            omega
          unfold rb at q
          rw [rx, if_pos (by omega), Int.toNat_natCast] at q
          exact q.symm
      · rw [z0]
        by_cases e : i < 32
        · have q := hB.1 ((i : Int) + 95) (sg _ (by omega))
          rw [cz] at q
          have rx : rix ((i : Int) + 95) = (i : Int) + 64 := by
            unfold rix
            rw [if_neg (by omega)]
            omega
          unfold rb at q
          rw [rx, if_neg (by omega), show ((i : Int) + 64 - 64).toNat = i by omega] at q
          exact q.symm
        · cases y : lb d i with
          | false => rfl
          | true => exact absurd (hB.2 i hi y) e
    · rintro ⟨rfl, rfl⟩
      have cz : ∀ x : Int, rb 0 0 x = false := fun x => by
        unfold rb
        split <;> exact z0 _
      refine ⟨lb_ext fun i hi => ?_, lb_ext fun i hi => ?_⟩
      · rw [z0]
        cases y : lb l i with
        | false => rfl
        | true =>
          have s := hV.1 i hi y
          have q := hB.1 (i : Int) (sg _ (by omega))
          rw [cz] at q
          unfold cb at q
          rw [if_pos (by omega), Int.toNat_natCast, y] at q
          cases q
      · rw [z0]
        cases y : lb h i with
        | false => rfl
        | true =>
          have s := hV.2 i hi y
          have q := hB.1 ((i : Int) + 64) (sg _ (by omega))
          rw [cz] at q
          unfold cb at q
          rw [if_neg (by omega), show ((i : Int) + 64 - 64).toNat = i by omega, y] at q
          cases q
  constructor
  · intro z
    apply Classical.byContradiction
    intro y
    have y1 : c = 0 := Classical.byContradiction fun t => y (Or.inl t)
    have y2 : d = 0 := Classical.byContradiction fun t => y (Or.inr t)
    obtain ⟨t1, t2⟩ := key.mpr ⟨y1, y2⟩
    rcases z with z | z
    · exact z t1
    · exact z t2
  · intro z
    apply Classical.byContradiction
    intro y
    have y1 : l = 0 := Classical.byContradiction fun t => y (Or.inl t)
    have y2 : h = 0 := Classical.byContradiction fun t => y (Or.inr t)
    obtain ⟨t1, t2⟩ := key.mp ⟨y1, y2⟩
    rcases z with z | z
    · exact z t1
    · exact z t2
/-- a character's set, both sides -/
theorem PU_z (hA : STA k p N M φ ψ own up lo U) (hP : PRGU k p N φ U L) {z : INS} (hz : L[a]? = some z) (h0 : z.1 = 0) : (z.2.2.1 ≠ 0 ∨ z.2.2.2 ≠ 0) ↔ (U.2.1 633 (U.1 663 (210 * p + a)).toNat ≠ 0 ∨ U.2.1 634 (U.1 663 (210 * p + a)).toNat ≠ 0) := by
  obtain ⟨_, rx⟩ := hP.2.2.2 a z hz
  rcases rx with ⟨y1, y2, m, y3, y4, y5, y6⟩ | ⟨y1, _⟩ | ⟨y1, _⟩ | ⟨y1, _⟩ | ⟨y1, _⟩ | ⟨y1, _⟩ | ⟨y1, _⟩
  · have m0 : m ≠ 0 := fun e => by
      have q := (sa_num hA).2.2.2.1
      rw [e, Nat.add_zero] at y4
      omega
    obtain ⟨b1, b2⟩ := (sa_kd hA y3 m0).1 y4
    have e : U.1 663 (210 * p + a) = ((320 * p + m : Nat) : Int) := y6
    rw [e, Int.toNat_natCast, y5]
    exact RZ_iff b1 b2
  · omega
  · omega
  · omega
  · omega
  · omega
  · omega
/-- the class's ends are closed under the reference's steps -/
theorem en_c (hA : STA k p N M φ ψ own up lo U) (hP : PRGU k p N φ U L) (ha : a < L.length) (h : enQ (fun j => lvB (k + 12) U j = true) p a U) : lvB (k + 12) U a = true := by
  obtain ⟨hw, _⟩ := PU_wf hP
  obtain ⟨l1, l2, l3, l4⟩ := PU_lv hP a ha
  obtain ⟨z, z1, z2, _⟩ := PU_at hP ha
  have w := hw a ha
  have e1 : (tP p U a).1 = U.1 662 (210 * p + a) := rfl
  have e2 : (tP p U a).2.1 = U.1 663 (210 * p + a) := rfl
  have e3 : (tP p U a).2.2 = U.1 664 (210 * p + a) := rfl
  rw [e1, e2] at l2
  rw [e1, e2, e3] at l1
  rw [e1] at l3 l4
  rcases h with h | ⟨h1, h2, h3⟩ | ⟨h1, h2⟩ | ⟨h1, h2⟩ | ⟨h1, h2⟩
  · exact l4 h
  · have hz : z.1 = 0 := by
      unfold insP at z2
      rw [e1] at z2
      rcases z2 with y | y | y | y | y | y | y <;> omega
    have w1 : a + 1 < L.length := by
      rw [e1] at w
      rcases w with y | y | y | y | y | y <;> omega
    refine (lvB_iff hP ha).mpr (LVE_c a z z1 ?_)
    unfold ldQ
    rw [if_pos hz]
    exact ⟨⟨w1, (lvB_iff hP w1).mp h3⟩, (PU_z hA hP z1 hz).mpr h2⟩
  · exact l3 (Or.inl h1) h2
  · rcases h1 with h1 | h1
    · exact l1 h1 (Or.inl h2)
    · exact l2 h1 h2
  · exact l1 h1 (Or.inr h2)
/-- and the least such set -/
theorem en_m (hA : STA k p N M φ ψ own up lo U) (hP : PRGU k p N φ U L) (hn : ∀ (i : Nat) (z : INS), L[i]? = some z → z.1 ≠ 1) {G : Nat → Prop} (hG : ∀ i, i < L.length → enQ G p i U → G i) (ha : a < L.length) (h : lvB (k + 12) U a = true) : G a := by
  have q := (lvB_iff hP ha).mp h (fun j => j < L.length ∧ G j) (fun i z hz hd => by
    have li : i < L.length := by
      apply Classical.byContradiction
      intro y
      rw [List.getElem?_eq_none (by omega)] at hz
      cases hz
    refine ⟨li, hG i li ?_⟩
    obtain ⟨z2, _⟩ := hP.2.2.2 i z hz
    have e1 : (tP p U i).1 = U.1 662 (210 * p + i) := rfl
    have e2 : (tP p U i).2.1 = U.1 663 (210 * p + i) := rfl
    have e3 : (tP p U i).2.2 = U.1 664 (210 * p + i) := rfl
    unfold insP at z2
    rw [e1, e2, e3] at z2
    unfold ldQ at hd
    unfold enQ
    rcases z2 with ⟨y1, y2⟩ | ⟨y1, y2⟩ | ⟨y1, y2, y3⟩ | ⟨y1, y2, y3, y4⟩ | ⟨y1, y2, y3, y4⟩ | ⟨y1, y2, y3⟩ | ⟨y1, y2⟩
    · rw [if_pos y1] at hd
      exact Or.inr (Or.inl ⟨y2, (PU_z hA hP hz y1).mp hd.2, hd.1.2.2⟩)
    · exact absurd y1 (hn i z hz)
    · rw [if_neg (by omega), if_pos y1] at hd
      rw [y3]
      exact Or.inr (Or.inr (Or.inr (Or.inl ⟨Or.inr y2, hd.2.2⟩)))
    · rw [if_neg (by omega), if_neg (by omega), if_pos (Or.inl y1)] at hd
      rw [y3, y4]
      rcases hd with ⟨_, d⟩ | ⟨_, d⟩
      · refine Or.inr (Or.inr (Or.inr (Or.inl ⟨Or.inl y2, ?_⟩)))
        rw [show ((i : Int) + 1).toNat = i + 1 by omega]
        exact d.2
      · exact Or.inr (Or.inr (Or.inr (Or.inr ⟨y2, d.2⟩)))
    · rw [if_neg (by omega), if_neg (by omega), if_pos (Or.inr y1)] at hd
      rw [y3, y4]
      rcases hd with ⟨_, d⟩ | ⟨_, d⟩
      · refine Or.inr (Or.inr (Or.inr (Or.inr ⟨y2, ?_⟩)))
        rw [show ((i : Int) + 1).toNat = i + 1 by omega]
        exact d.2
      · exact Or.inr (Or.inr (Or.inr (Or.inl ⟨Or.inl y2, d.2⟩)))
    · rw [if_neg (by omega), if_neg (by omega), if_neg (by omega), if_neg (by omega)] at hd
      exact Or.inr (Or.inr (Or.inl ⟨y2, hd.2.2⟩))
    · exact Or.inl y2)
  exact q.2
end ORQ
