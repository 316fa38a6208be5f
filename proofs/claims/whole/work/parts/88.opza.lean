/-! SEARCH: what is fixed of a pattern, in one place -/
section OPZA
variable {Q k p N M m n b : Nat} {φ ψ own up lo : Nat → Nat} {S T U S0 T0 : ev_St}
/-- the pattern p as it stands in the cells of U -/
def STA (k p N M : Nat) (φ ψ own up lo : Nat → Nat) (U : ev_St) : Prop := FINX k N M φ ψ own up U (sft p U) ∧ LOf N M φ ψ up lo (sft p U) ∧ p < 12 ∧ k = 313 + 20 * p
theorem STA_of (h : KEPT k p S S) (hp : p < 12) (hk : k = 313 + 20 * p) : ∃ N M φ ψ own up lo, STA k p N M φ ψ own up lo S := by
  obtain ⟨S0, T0, T1, N, M, φ, ψ, own, up, W, ⟨hF, _⟩, hc, hr, _⟩ := h
  have hN := hF.2.1.2.2.2
  have t1 : ∀ c m, 625 ≤ c → c ≤ 632 → m < N → (sft p S).1 c (3840 + m) = (sft p T0).1 c (3840 + m) := fun c m h1 h2 hm => by
    rw [sft_1 h1 h2, sft_1 h1 h2]
    exact hr.1 c _ (by omega) (by omega) (by omega)
  have hF2 : FINX k N M φ ψ own up S (sft p S) := FINX_c1 hF (fun g _ => (hc k g (by omega) (by omega)).1) (fun j b _ _ => (hc (k + j) b (by omega) (by omega)).1) (fun j b _ _ => (hc (k + j) b (by omega) (by omega)).2) t1 (fun c m h1 h2 hm => by
    rw [sft_L h1 h2, sft_L h1 h2]
    exact hr.2.1 c _ h1 h2 (by omega) (by omega)) (fun c h => by
    rw [sft_5 h, sft_5 h]
    exact hr.2.2.1 c h) (fun j hj => by
    rw [sft_7, sft_7]
    exact hr.2.2.2.1 j (by omega)) (fun l hl => by
    rw [sft_8, sft_8]
    exact hr.2.2.2.2 l hl)
  obtain ⟨_, _, _, _, _, _, _, y, _, _, lo, hL⟩ := hF
  exact ⟨N, M, φ, ψ, own, up, lo, hF2, LOf_c hL (fun m c hm hc => t1 c m (by omega) (by omega) hm), hp, hk⟩
variable (hA : STA k p N M φ ψ own up lo U)
theorem sa_num (hA : STA k p N M φ ψ own up lo U) : (0 < N ∧ N ≤ 320 ∧ M ≤ 400) ∧ U.1 k 11 = (M : Int) ∧ U.1 (k + 10) 0 = (φ 0 : Int) ∧ (U.1 625 (320 * p) = 9 ∧ U.1 627 (320 * p) = -1 ∧ U.1 630 (320 * p) = -1 ∧ ψ 0 = φ 0 ∧ U.1 (k + 1) (φ 0) = 16) := by
  obtain ⟨⟨⟨f1, ⟨f2, f3, f4, f5, f6, f7⟩, f8, f9, f10, f11, f12⟩, _⟩, ⟨n1, n2, n3, n4⟩, _, _, _, ⟨_, r2⟩, _⟩ := hA.1
  have e : ∀ c, 625 ≤ c → c ≤ 632 → (sft p U).1 c 3840 = U.1 c (320 * p) := fun c h1 h2 => sft_1 (m := 0) h1 h2
  rw [e 625 (by omega) (by omega)] at f9
  rw [e 627 (by omega) (by omega)] at f11
  rw [e 630 (by omega) (by omega)] at f12
  exact ⟨⟨f8, n4, n2⟩, n1, r2, f9, f11, f12, f3, f5⟩
theorem sa_node (hA : STA k p N M φ ψ own up lo U) (hm : m < N) : (φ m < M ∧ ψ m < M ∧ own (φ m) = m ∧ own (ψ m) = m ∧ up m < N) ∧ (0 ≤ U.1 625 (320 * p + m) ∧ U.1 625 (320 * p + m) ≤ 18) ∧ (m ≠ 0 → U.1 (k + 1) (φ m) = kcl (U.1 625 (320 * p + m)) (U.1 629 (320 * p + m))) ∧ (U.1 625 (320 * p + m) ≠ 18 → 0 ≤ U.1 629 (320 * p + m) ∧ U.1 629 (320 * p + m) ≤ 4) ∧ (U.1 630 (320 * p + m) ≠ -1 → bval (U.1 631 (320 * p + m)) (U.1 632 (320 * p + m))) := by
  have h := TREE_of hA.1
  obtain ⟨a1, a2, a3, a4⟩ := h.1 m hm
  obtain ⟨b1, b2⟩ := FINX_K hA.1 hm
  have v := (hA.1.1.2.2.2.1.1 m hm)
  have e : ∀ c, 625 ≤ c → c ≤ 632 → (sft p U).1 c (3840 + m) = U.1 c (320 * p + m) := fun c h1 h2 => sft_1 h1 h2
  have b1' : 0 ≤ (sft p U).1 625 (3840 + m) ∧ (sft p U).1 625 (3840 + m) ≤ 18 := b1
  rw [e 625 (by omega) (by omega)] at b1'
  have v1 := v.1
  have v2 := v.2.1
  rw [e 625 (by omega) (by omega), e 628 (by omega) (by omega), e 629 (by omega) (by omega)] at v1
  rw [e 630 (by omega) (by omega), e 631 (by omega) (by omega), e 632 (by omega) (by omega)] at v2
  refine ⟨⟨a1, a2, a3, a4, hA.1.1.2.1.1.1 m hm⟩, b1', fun h0 => ?_, v1.2.1, v2⟩
  rcases b2 with y | y
  · exact absurd y.1 h0
  · have y2 : U.1 (k + 1) (φ m) = kcl ((sft p U).1 625 (3840 + m)) ((sft p U).1 629 (3840 + m)) := y.2
    rw [e 625 (by omega) (by omega), e 629 (by omega) (by omega)] at y2
    exact y2
theorem sa_kd (hA : STA k p N M φ ψ own up lo U) (hm : m < N) (h0 : m ≠ 0) : (U.1 625 (320 * p + m) = 0 → SB (U.2.1 (k + 8) (φ m)) (U.2.1 (k + 9) (φ m)) (U.2.1 633 (320 * p + m)) (U.2.1 634 (320 * p + m)) ∧ SV (U.2.1 (k + 8) (φ m)) (U.2.1 (k + 9) (φ m))) ∧ (U.1 625 (320 * p + m) = 7 ∨ U.1 625 (320 * p + m) = 8 ∨ U.1 625 (320 * p + m) = 13 ∨ U.1 625 (320 * p + m) = 14 → U.1 (k + 2) (φ m) = U.1 628 (320 * p + m)) ∧ (U.1 625 (320 * p + m) = 7 → U.1 (k + 3) (φ m) = U.1 629 (320 * p + m)) ∧ (U.1 625 (320 * p + m) = 7 ∨ U.1 625 (320 * p + m) = 8 ∨ U.1 625 (320 * p + m) = 13 → 1 ≤ U.1 628 (320 * p + m) ∧ U.1 628 (320 * p + m) ≤ 9) ∧ (U.1 625 (320 * p + m) = 14 → 0 ≤ U.1 628 (320 * p + m) ∧ U.1 628 (320 * p + m) ≤ 9) := by
  have e : ∀ c, 625 ≤ c → c ≤ 632 → (sft p U).1 c (3840 + m) = U.1 c (320 * p + m) := fun c h1 h2 => sft_1 h1 h2
  have kd := (hA.1.1.1.1 m hm h0).2.1
  have v := (hA.1.1.2.2.2.1.1 m hm).1
  have g := (hA.1.2.2.2.2.2.2.1 m hm).1
  obtain ⟨_, k2, k3, k4⟩ := kd
  rw [e 625 (by omega) (by omega), sft_L (by omega) (by omega), sft_L (by omega) (by omega)] at k2
  rw [e 625 (by omega) (by omega), e 628 (by omega) (by omega)] at k3
  rw [e 625 (by omega) (by omega), e 629 (by omega) (by omega)] at k4
  rw [e 625 (by omega) (by omega), e 628 (by omega) (by omega), e 629 (by omega) (by omega)] at v
  rw [e 625 (by omega) (by omega), e 628 (by omega) (by omega)] at g
  refine ⟨k2, k3, k4, fun y => ?_, v.2.2.2.2.1⟩
  rcases y with y | y | y
  · exact g y
  · exact v.2.2.2.1 (Or.inl y)
  · exact v.2.2.2.1 (Or.inr y)
/-- the class's node that repeats the item m -/
def bt (k p : Nat) (ψ : Nat → Nat) (U : ev_St) (m : Nat) : Nat := if U.1 630 (320 * p + m) = 2 then (U.1 (k + 4) (U.1 (k + 4) (ψ m)).toNat).toNat else ψ m
theorem sa_rep (hA : STA k p N M φ ψ own up lo U) (hm : m < N) : (U.1 630 (320 * p + m) = -1 ∧ ψ m = φ m) ∨ (((U.1 630 (320 * p + m) = 0 ∨ U.1 630 (320 * p + m) = 1) ∧ bt k p ψ U m = ψ m ∧ φ m < ψ m) ∨ (U.1 630 (320 * p + m) = 2 ∧ φ m < bt k p ψ U m ∧ bt k p ψ U m + 2 ≤ ψ m ∧ U.1 (k + 1) (ψ m) = 19 ∧ U.1 (k + 6) (ψ m) = 4 * (bt k p ψ U m : Int) ∧ U.1 (k + 7) (bt k p ψ U m) = 4 * (ψ m : Int) + 1)) ∧ bt k p ψ U m < M ∧ own (bt k p ψ U m) = m ∧ U.1 (k + 1) (bt k p ψ U m) = (if U.1 630 (320 * p + m) = 1 then 14 else 13) ∧ U.1 (k + 2) (bt k p ψ U m) = U.1 631 (320 * p + m) ∧ U.1 (k + 3) (bt k p ψ U m) = U.1 632 (320 * p + m) ∧ U.1 (k + 4) (bt k p ψ U m) = (φ m : Int) ∧ U.1 (k + 7) (φ m) = 4 * (bt k p ψ U m : Int) + 1 := by
  have h := TREE_of hA.1
  have hr := TREE_r h hm
  have nb := h.1 m hm
  have tie := (hA.1.1.2.2.2.2.2.2.2.1 m hm)
  have e : ∀ c, 625 ≤ c → c ≤ 632 → (sft p U).1 c (3840 + m) = U.1 c (320 * p + m) := fun c h1 h2 => sft_1 h1 h2
  rw [e 630 (by omega) (by omega)] at tie
  have r := h.2.2.2.2.2.2.2.2 m hm
  have rd : rpt k M own m (φ m) (ψ m) U (sft p U) := r
  unfold rpt at rd
  rw [e 630 (by omega) (by omega), e 631 (by omega) (by omega), e 632 (by omega) (by omega)] at rd
  have hr1 : (U.1 630 (320 * p + m) = 0 ∨ U.1 630 (320 * p + m) = 1) → φ m < ψ m := fun y => hr.1 (by
    show (sft p U).1 630 (3840 + m) = 0 ∨ (sft p U).1 630 (3840 + m) = 1
    rw [e 630 (by omega) (by omega)]
    exact y)
  rcases rd with ⟨y1, y2⟩ | ⟨⟨y1, y2⟩, y3, y4, y5, y6, y7⟩ | ⟨⟨y1, y2⟩, x, y, ⟨a1, a2, a3, a4, a5, a6⟩, ⟨b1, b2⟩, ⟨c1, c2, c3⟩, ⟨d1, d2, d3, d4, d5⟩, d6⟩
  · exact Or.inl ⟨y1, y2⟩
  · have eb : bt k p ψ U m = ψ m := if_neg (by omega)
    rw [eb]
    refine Or.inr ⟨Or.inl ⟨y1, rfl, hr1 y1⟩, nb.2.1, nb.2.2.2, ?_, y5, y6, y4, tie.1 y1⟩
    rw [y3]
    rcases y1 with z | z <;> rw [z] <;> decide
  · have eb : bt k p ψ U m = y := by
      unfold bt
      rw [if_pos y1, b2, Int.toNat_natCast, c2, Int.toNat_natCast]
    have q := hr.2 (by
      show (sft p U).1 630 (3840 + m) = 2
      rw [e 630 (by omega) (by omega)]
      exact y1) x y b2 c2
    obtain ⟨x', y', t1, t2, t3, t4, t5⟩ := tie.2 y1
    have ex : x' = x := by omega
    rw [ex] at t2
    have ey : y' = y := by omega
    rw [ey] at t3 t4 t5
    rw [eb]
    refine Or.inr ⟨Or.inr ⟨y1, q.1, by have := q.2.1; have := q.2.2.1; omega, b1, t5, t4⟩, a2, a4, ?_, d3, d4, d2, t3⟩
    rw [d1, if_neg (by omega)]
theorem sa_child (hA : STA k p N M φ ψ own up lo U) (hm : m < N) : (U.1 626 (320 * p + m) = -1 ∧ lo m = φ m ∧ ¬ (8 ≤ U.1 625 (320 * p + m) ∧ U.1 625 (320 * p + m) ≤ 13)) ∨ (U.1 626 (320 * p + m) = ((m + 1 : Nat) : Int) ∧ m + 1 < N ∧ up (m + 1) = m ∧ (U.1 625 (320 * p + (m + 1)) = 18 ↔ U.1 625 (320 * p + m) ≠ 18) ∧ lo (m + 1) = lo m) := by
  have h := TREE_of hA.1
  obtain ⟨a0, a1, a2, a3, a4, a5, a6⟩ := hA.2.1
  have e : ∀ c m, 625 ≤ c → c ≤ 632 → (sft p U).1 c (3840 + m) = U.1 c (320 * p + m) := fun c m h1 h2 => sft_1 h1 h2
  have a1' := a1 m hm
  have a2' := a2 m
  have v := (hA.1.1.2.2.2.1.2 m hm).2.2.2
  have q := h.2.2.2.1 m hm
  have q' : (sft p U).1 626 (3840 + m) = -1 ∨ ∃ t : Nat, (sft p U).1 626 (3840 + m) = (t : Int) ∧ m < t ∧ t < N ∧ up t = m ∧ ((sft p U).1 625 (3840 + t) = 18 ↔ (sft p U).1 625 (3840 + m) ≠ 18) := q
  rw [e 625 m (by omega) (by omega), e 626 m (by omega) (by omega)] at v
  rw [e 626 m (by omega) (by omega)] at q' a1'
  rcases q' with y | ⟨t, t1, t2, t3, t4, t5⟩
  · exact Or.inl ⟨y, (a1' y).symm, fun z => (v (by omega)).mpr z y⟩
  · have l := a2' t hm (by rw [e 626 m (by omega) (by omega)]; exact t1)
    have et := l.2.1
    subst et
    rw [e 625 (m + 1) (by omega) (by omega), e 625 m (by omega) (by omega)] at t5
    exact Or.inr ⟨t1, t3, t4, t5, l.1⟩
theorem sa_next (hA : STA k p N M φ ψ own up lo U) (hm : m < N) : (U.1 627 (320 * p + m) = -1 ∧ (m ≠ 0 → φ (up m) = ψ m + 1)) ∨ ∃ t : Nat, U.1 627 (320 * p + m) = (t : Int) ∧ m < t ∧ t < N ∧ up t = up m ∧ (U.1 625 (320 * p + t) = 18 ↔ U.1 625 (320 * p + m) = 18) ∧ lo t = ψ m + 1 := by
  have h := TREE_of hA.1
  obtain ⟨a0, a1, a2, a3, a4, a5, a6⟩ := hA.2.1
  have e : ∀ c m, 625 ≤ c → c ≤ 632 → (sft p U).1 c (3840 + m) = U.1 c (320 * p + m) := fun c m h1 h2 => sft_1 h1 h2
  have q : (sft p U).1 627 (3840 + m) = -1 ∨ ∃ t : Nat, (sft p U).1 627 (3840 + m) = (t : Int) ∧ m < t ∧ t < N ∧ up t = up m ∧ ((sft p U).1 625 (3840 + t) = 18 ↔ (sft p U).1 625 (3840 + m) = 18) := h.2.2.2.2.1 m hm
  rw [e 627 m (by omega) (by omega)] at q
  rcases q with y | ⟨t, t1, t2, t3, t4, t5⟩
  · exact Or.inl ⟨y, fun h0 => a4 m hm h0 (by rw [e 627 m (by omega) (by omega)]; exact y)⟩
  · rw [e 625 t (by omega) (by omega), e 625 m (by omega) (by omega)] at t5
    exact Or.inr ⟨t, t1, t2, t3, t4, t5, (a3 m t hm (by rw [e 627 m (by omega) (by omega)]; exact t1)).1⟩
theorem sa_row (hA : STA k p N M φ ψ own up lo U) (hm : m < N) (h18 : U.1 625 (320 * p + m) = 18) : m ≠ 0 ∧ ψ m = φ m ∧ U.1 630 (320 * p + m) = -1 ∧ U.1 (k + 1) (φ m) = 15 ∧ U.1 (k + 6) (φ m) = (if U.1 626 (320 * p + m) = -1 then 4 * (φ (up m) : Int) + 1 else 4 * (ψ (U.1 626 (320 * p + m)).toNat : Int)) ∧ U.1 (k + 5) (φ m) = (if U.1 627 (320 * p + m) = -1 then -1 else (φ (U.1 627 (320 * p + m)).toNat : Int)) := by
  have h := TREE_of hA.1
  have h0 : m ≠ 0 := fun z => by
    subst z
    have := (sa_num hA).2.2.2.1
    rw [Nat.add_zero] at h18
    omega
  have e : ∀ c m, 625 ≤ c → c ≤ 632 → (sft p U).1 c (3840 + m) = U.1 c (320 * p + m) := fun c m h1 h2 => sft_1 h1 h2
  have s18 : tK (sft p U) m = 18 := (e 625 m (by omega) (by omega)).trans h18
  obtain ⟨x1, x2⟩ := (h.2.2.1 m hm h0).2 s18
  have x1' : U.1 (k + 5) (φ m) = img φ ((sft p U).1 627 (3840 + m)) := x1
  rw [e 627 m (by omega) (by omega)] at x1'
  have r : (sft p U).1 630 (3840 + m) = -1 := hA.1.1.2.2.1 m hm s18
  rw [e 630 m (by omega) (by omega)] at r
  have t := hA.1.1.2.2.2.2.2.1 m hm s18
  rw [e 626 m (by omega) (by omega)] at t
  have kd := (sa_node hA hm).2.2.1 h0
  rw [h18] at kd
  exact ⟨h0, x2.symm, r, kd, t, x1'⟩
theorem sa_part (hA : STA k p N M φ ψ own up lo U) (hm : m < N) (h8 : 8 ≤ U.1 625 (320 * p + m) ∧ U.1 625 (320 * p + m) ≤ 13) : U.1 626 (320 * p + m) = ((m + 1 : Nat) : Int) ∧ m + 1 < N ∧ up (m + 1) = m ∧ U.1 625 (320 * p + (m + 1)) = 18 ∧ lo (m + 1) = lo m ∧ U.1 (k + 4) (φ m) = (φ (m + 1) : Int) ∧ U.1 (k + 6) (φ m) = (if U.1 627 (320 * p + (m + 1)) = -1 then U.1 (k + 6) (φ (m + 1)) else 4 * (φ (m + 1) : Int)) := by
  have h := TREE_of hA.1
  have e : ∀ c m, 625 ≤ c → c ≤ 632 → (sft p U).1 c (3840 + m) = U.1 c (320 * p + m) := fun c m h1 h2 => sft_1 h1 h2
  rcases sa_child hA hm with y | ⟨y1, y2, y3, y4, y5⟩
  · exact absurd h8 y.2.2
  · have c := (h.2.1 m hm).2 (by
      show (sft p U).1 625 (3840 + m) ≠ 18
      rw [e 625 m (by omega) (by omega)]
      omega)
    have c' : U.1 (k + 4) (φ m) = img φ ((sft p U).1 626 (3840 + m)) := c
    rw [e 626 m (by omega) (by omega), y1] at c'
    unfold img at c'
    rw [if_neg (by omega), Int.toNat_natCast] at c'
    have t := hA.1.1.2.2.2.2.2.2.1 m hm (by
      show 8 ≤ (sft p U).1 625 (3840 + m) ∧ (sft p U).1 625 (3840 + m) ≤ 13
      rw [e 625 m (by omega) (by omega)]
      exact h8)
    rw [e 626 m (by omega) (by omega), y1, Int.toNat_natCast, e 627 _ (by omega) (by omega)] at t
    exact ⟨y1, y2, y3, y4.mpr (by omega), y5, c', t⟩
/-- the class's code behind the item m -/
def nxC2 (p : Nat) (φ ψ up : Nat → Nat) (U : ev_St) (m : Nat) : Int := if U.1 627 (320 * p + m) = -1 then 4 * (φ (up (up m)) : Int) + 1 else 4 * (ψ (U.1 627 (320 * p + m)).toNat : Int)
theorem sa_after (hA : STA k p N M φ ψ own up lo U) (hm : m < N) (h0 : m ≠ 0) (h18 : U.1 625 (320 * p + m) ≠ 18) : U.1 (k + 7) (ψ m) = nxC2 p φ ψ up U m ∧ U.1 625 (320 * p + up m) = 18 ∧ up m ≠ 0 ∧ up (up m) < up m ∧ up m < m ∧ U.1 625 (320 * p + up (up m)) ≠ 18 ∧ (8 ≤ U.1 625 (320 * p + up (up m)) ∧ U.1 625 (320 * p + up (up m)) ≤ 13) := by
  have e : ∀ c m, 625 ≤ c → c ≤ 632 → (sft p U).1 c (3840 + m) = U.1 c (320 * p + m) := fun c m h1 h2 => sft_1 h1 h2
  have t := hA.1.1.2.2.2.2.1 m hm h0 (by rw [e 625 m (by omega) (by omega)]; exact h18)
  rw [e 627 m (by omega) (by omega)] at t
  have hU := hA.1.1.2.1.1
  -- a node's parent: a row has items in it, the rest rows
  have par : ∀ n t : Nat, t ≤ n → t ≠ 0 → t < N → up t < t ∧ (U.1 625 (320 * p + t) = 18 ↔ U.1 625 (320 * p + up t) ≠ 18) ∧ (U.1 625 (320 * p + t) = 18 → 8 ≤ U.1 625 (320 * p + up t) ∧ U.1 625 (320 * p + up t) ≤ 13) := fun n => by
    induction n with
    | zero => exact fun t h1 h2 _ => absurd (Nat.le_zero.mp h1) h2
    | succ n ih =>
      intro t h1 h2 h3
      rcases hU.2.2.2 t h2 h3 with y | ⟨s, y1, y2, y3⟩
      · have uN := hU.1 t h3
        rw [e 626 _ (by omega) (by omega)] at y
        rcases sa_child hA uN with z | ⟨z1, z2, z3, z4, z5⟩
        · exfalso
          rw [y] at z
          omega
        · have te : t = up t + 1 := by omega
          rw [← te] at z4
          refine ⟨by omega, z4, fun w => ?_⟩
          have v := (hA.1.1.2.2.2.1.2 (up t) uN).2.2.2
          rw [e 625 _ (by omega) (by omega), e 626 _ (by omega) (by omega)] at v
          exact (v (z4.mp w)).mp (by omega)
      · rw [e 627 _ (by omega) (by omega)] at y2
        rcases sa_next hA y1 with z | ⟨t', z1, z2, z3, z4, z5, z6⟩
        · exfalso
          omega
        · have te : t' = t := by omega
          subst te
          have s0 : s ≠ 0 := fun w => by
            subst w
            have := (sa_num hA).2.2.2.2.1
            rw [Nat.add_zero] at y2
            omega
          obtain ⟨i1, i2, i3⟩ := ih s (by omega) s0 y1
          rw [y3] at i1 i2 i3
          exact ⟨by omega, z5.trans i2, fun w => i3 (z5.mp w)⟩
  obtain ⟨p1, p2, _⟩ := par m m (Nat.le_refl _) h0 hm
  have u18 : U.1 625 (320 * p + up m) = 18 := Classical.byContradiction fun z => h18 (p2.mpr z)
  have u0 : up m ≠ 0 := (sa_row hA (by omega) u18).1
  obtain ⟨q1, q2, q3⟩ := par (up m) (up m) (Nat.le_refl _) u0 (by omega)
  exact ⟨t, u18, u0, q1, p1, q2.mp u18, q3 u18⟩
theorem sa_call (hA : STA k p N M φ ψ own up lo U) (hm : m < N) (h14 : U.1 625 (320 * p + m) = 14) : ∃ g : Nat, g < N ∧ (g = 0 ∨ U.1 625 (320 * p + g) = 8) ∧ (8 ≤ U.1 625 (320 * p + g) ∧ U.1 625 (320 * p + g) ≤ 13) ∧ ∃ j : Nat, U.1 628 (320 * p + m) = (j : Int) ∧ j < 10 ∧ U.1 637 (10 * p + j) = (g : Int) ∧ U.1 (k + 10) j = (φ g : Int) := by
  have e : ∀ c m, 625 ≤ c → c ≤ 632 → (sft p U).1 c (3840 + m) = U.1 c (320 * p + m) := fun c m h1 h2 => sft_1 h1 h2
  have h0 : m ≠ 0 := fun z => by
    subst z
    have := (sa_num hA).2.2.2.1
    rw [Nat.add_zero] at h14
    omega
  have kd := (sa_kd hA hm h0).2.2.2.2 h14
  obtain ⟨j, hj⟩ : ∃ j : Nat, U.1 628 (320 * p + m) = (j : Int) := ⟨(U.1 628 (320 * p + m)).toNat, by omega⟩
  obtain ⟨_, _, _, _, g5, g6, g7, _⟩ := hA.1
  have g7' := (g7 m hm).2
  rw [e 625 m (by omega) (by omega), e 628 m (by omega) (by omega)] at g7'
  have le := g7' (Or.inr (Or.inr h14))
  by_cases z : j = 0
  · subst z
    have q := g6.1
    rw [show (sft p U).1 637 120 = U.1 637 (10 * p) from sft_7 (j := 0)] at q
    exact ⟨0, (sa_num hA).1.1, Or.inl rfl, by rw [Nat.add_zero, (sa_num hA).2.2.2.1]; decide, 0, hj, by omega, q, g6.2⟩
  · obtain ⟨t, t1, t2, t3, t4, t5⟩ := g5 j (by omega) (by omega)
    rw [sft_7] at t1
    rw [e 625 t (by omega) (by omega)] at t3
    exact ⟨t, t2, Or.inr t3, by omega, j, hj, by omega, t1, t5⟩
end OPZA
