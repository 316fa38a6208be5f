/-! FRAMES: the pattern's tree as intervals of numbers -/
section OQG
variable {N m t u v a b c : Nat} {kd ch nx : Nat → Int} {up : Nat → Nat}
def zz (up : Nat → Nat) (N m : Nat) : Nat → Nat
  | 0 => m + 1
  | f + 1 => if zz up N m f < N ∧ m ≤ up (zz up N m f) then zz up N m f + 1 else zz up N m f
/-- where the part of the tree under m ends -/
def zE (up : Nat → Nat) (N m : Nat) : Nat := zz up N m N
theorem zz_s (f : Nat) : zz up N m (f + 1) = if zz up N m f < N ∧ m ≤ up (zz up N m f) then zz up N m f + 1 else zz up N m f := rfl
theorem zz_in (hm : m < N) : ∀ f, m < zz up N m f ∧ zz up N m f ≤ N ∧ (∀ u, m < u → u < zz up N m f → m ≤ up u) ∧ (zz up N m f = m + 1 + f ∨ ¬ (zz up N m f < N ∧ m ≤ up (zz up N m f))) := fun f => by
  induction f with
  | zero => exact ⟨Nat.lt_succ_self m, hm, fun u h1 h2 => absurd (show u < m + 1 from h2) (by omega), Or.inl rfl⟩
  | succ f ih =>
    obtain ⟨i1, i2, i3, i4⟩ := ih
    rw [zz_s]
    by_cases z : zz up N m f < N ∧ m ≤ up (zz up N m f)
    · rw [if_pos z]
      refine ⟨by omega, by omega, fun u h1 h2 => ?_, Or.inl ?_⟩
      · by_cases e : u = zz up N m f
        · rw [e]
          exact z.2
        · exact i3 u h1 (by omega)
      · rcases i4 with y | y
        · omega
        · exact absurd z y
    · rw [if_neg z]
      exact ⟨i1, i2, i3, Or.inr z⟩
theorem zE_in (hm : m < N) : m < zE up N m ∧ zE up N m ≤ N ∧ (∀ u, m < u → u < zE up N m → m ≤ up u) ∧ (zE up N m = N ∨ up (zE up N m) < m) := by
  obtain ⟨i1, i2, i3, i4⟩ := zz_in (up := up) hm N
  refine ⟨i1, i2, i3, ?_⟩
  show zz up N m N = N ∨ up (zz up N m N) < m
  rcases i4 with y | y <;> omega
theorem zE_eq (hm : m < N) (h1 : m < t) (h2 : t ≤ N) (h3 : ∀ u, m < u → u < t → m ≤ up u) (h4 : t = N ∨ up t < m) : zE up N m = t := by
  obtain ⟨i1, i2, i3, i4⟩ := zE_in (up := up) hm
  have a1 : ¬ zE up N m < t := fun z => by
    have := h3 _ i1 z
    omega
  have a2 : ¬ t < zE up N m := fun z => by
    have := i3 _ h1 z
    omega
  omega
theorem zE_ne (hm : m < N) (h1 : m < v) (h2 : v < zE up N m) : zE up N v ≤ zE up N m := by
  obtain ⟨i1, i2, i3, i4⟩ := zE_in (up := up) hm
  obtain ⟨j1, j2, j3, j4⟩ := zE_in (up := up) (m := v) (show v < N by omega)
  apply Nat.le_of_not_lt
  intro z
  have := j3 _ h2 z
  omega
def TRE (N : Nat) (kd ch nx : Nat → Int) (up : Nat → Nat) : Prop := (0 < N) ∧ (kd 0 = 9) ∧ (nx 0 = -1) ∧ (∀ t, t < N → up t < N) ∧ (∀ m, m < N → ch m = -1 ∨ (ch m = ((m + 1 : Nat) : Int) ∧ m + 1 < N ∧ up (m + 1) = m ∧ (kd (m + 1) = 18 ↔ kd m ≠ 18))) ∧ (∀ m, m < N → kd m ≠ 18 → (ch m ≠ -1 ↔ 8 ≤ kd m ∧ kd m ≤ 13)) ∧ (∀ m, m < N → nx m = -1 ∨ ∃ t : Nat, nx m = (t : Int) ∧ m < t ∧ t < N ∧ up t = up m ∧ (kd t = 18 ↔ kd m = 18)) ∧ (∀ m t u v : Nat, m < N → nx m = (t : Int) → m < u → u < t → v < N → (ch v = (u : Int) ∨ nx v = (u : Int)) → m ≤ v) ∧ (∀ t : Nat, t ≠ 0 → t < N → ch (up t) = (t : Int) ∨ ∃ s : Nat, s < N ∧ nx s = (t : Int) ∧ up s = up t)
theorem TRE.n0 (h : TRE N kd ch nx up) : 0 < N := h.1
theorem TRE.k0 (h : TRE N kd ch nx up) : kd 0 = 9 := h.2.1
theorem TRE.x0 (h : TRE N kd ch nx up) : nx 0 = -1 := h.2.2.1
theorem TRE.un (h : TRE N kd ch nx up) : ∀ t, t < N → up t < N := h.2.2.2.1
theorem TRE.c1 (h : TRE N kd ch nx up) : ∀ m, m < N → ch m = -1 ∨ (ch m = ((m + 1 : Nat) : Int) ∧ m + 1 < N ∧ up (m + 1) = m ∧ (kd (m + 1) = 18 ↔ kd m ≠ 18)) := h.2.2.2.2.1
theorem TRE.c2 (h : TRE N kd ch nx up) : ∀ m, m < N → kd m ≠ 18 → (ch m ≠ -1 ↔ 8 ≤ kd m ∧ kd m ≤ 13) := h.2.2.2.2.2.1
theorem TRE.x1 (h : TRE N kd ch nx up) : ∀ m, m < N → nx m = -1 ∨ ∃ t : Nat, nx m = (t : Int) ∧ m < t ∧ t < N ∧ up t = up m ∧ (kd t = 18 ↔ kd m = 18) := h.2.2.2.2.2.2.1
theorem TRE.x2 (h : TRE N kd ch nx up) : ∀ m t u v : Nat, m < N → nx m = (t : Int) → m < u → u < t → v < N → (ch v = (u : Int) ∨ nx v = (u : Int)) → m ≤ v := h.2.2.2.2.2.2.2.1
theorem TRE.lk (h : TRE N kd ch nx up) : ∀ t : Nat, t ≠ 0 → t < N → ch (up t) = (t : Int) ∨ ∃ s : Nat, s < N ∧ nx s = (t : Int) ∧ up s = up t := h.2.2.2.2.2.2.2.2
theorem tr_up (h : TRE N kd ch nx up) : ∀ t, t ≠ 0 → t < N → up t < t := fun t => by
  induction t using Nat.strongRecOn with
  | ind t ih =>
    intro h0 hN
    rcases h.lk t h0 hN with y | ⟨s, s1, s2, s3⟩
    · rcases h.c1 _ (h.un t hN) with z | ⟨z, _⟩
      · omega
      · omega
    · rcases h.x1 s s1 with z | ⟨r, z1, z2, _⟩
      · omega
      · have hs : s ≠ 0 := fun e => by
          have := h.x0
          rw [e] at s2
          omega
        have := ih s (by omega) hs s1
        omega
theorem tr_x (h : TRE N kd ch nx up) (hm : m < N) (hx : nx m = (t : Int)) : zE up N m = t := by
  obtain ⟨e1, e2, e3⟩ : m < t ∧ t < N ∧ up t = up m := by
    rcases h.x1 m hm with y | ⟨r, y1, y2, y3, y4, _⟩
    · omega
    · obtain rfl : r = t := by omega
      exact ⟨y2, y3, y4⟩
  have m0 : m ≠ 0 := fun e => by
    have := h.x0
    rw [e] at hx
    omega
  have um := tr_up h m m0 hm
  refine zE_eq hm e1 (by omega) (fun u => ?_) (Or.inr (by omega))
  induction u using Nat.strongRecOn with
  | ind u ih =>
    intro u1 u2
    rcases h.lk u (by omega) (by omega) with y | ⟨s, s1, s2, s3⟩
    · exact h.x2 m t u (up u) hm hx u1 u2 (h.un u (by omega)) (Or.inl y)
    · have q := h.x2 m t u s hm hx u1 u2 s1 (Or.inr s2)
      rcases h.x1 s s1 with z | ⟨r, z1, z2, _⟩
      · omega
      · by_cases e : s = m
        · subst e
          omega
        · have := ih s (by omega) (by omega) (by omega)
          omega
/-- each number lies in the part of the one it hangs from -/
theorem tr_w (h : TRE N kd ch nx up) (hm : m < N) (m0 : m ≠ 0) : m < zE up N (up m) := by
  have um := tr_up h m m0 hm
  have hu := h.un m hm
  obtain ⟨i1, i2, i3, i4⟩ := zE_in (up := up) hu
  apply Nat.lt_of_not_le
  intro z
  rcases i4 with y | y
  · omega
  · -- the first number behind the part hangs lower, so m would too
    have q : ∀ j, zE up N (up m) ≤ j → j ≤ m → j < N → up j < up m ∨ up m < up j ∧ zE up N (up m) ≤ up j := fun j => by
      induction j using Nat.strongRecOn with
      | ind j ih =>
        intro j1 j2 j3
        by_cases e : j = zE up N (up m)
        · rw [e]
          exact Or.inl y
        · rcases h.lk j (by omega) j3 with w | ⟨s, s1, s2, s3⟩
          · rcases h.c1 _ (h.un j j3) with w2 | ⟨w2, w3⟩
            · omega
            · exact Or.inr ⟨by omega, by omega⟩
          · rcases h.x1 s s1 with w2 | ⟨r, w2, w3, _⟩
            · omega
            · by_cases f : zE up N (up m) ≤ s
              · have := ih s (by omega) f (by omega) s1
                omega
              · by_cases f2 : s ≤ up m
                · have us : s = 0 ∨ up s < s := by
                    by_cases s0 : s = 0
                    · exact Or.inl s0
                    · exact Or.inr (tr_up h s s0 s1)
                  rcases us with us | us
                  · rw [us, h.x0] at s2
                    omega
                  · left
                    omega
                · exfalso
                  have zs := tr_x h s1 s2
                  have := zE_ne hu (by omega) (show s < zE up N (up m) by omega)
                  omega
    rcases q m z (Nat.le_refl m) hm with w | w <;> omega
theorem tr_l (h : TRE N kd ch nx up) (hm : m < N) (m0 : m ≠ 0) (hx : nx m = -1) : zE up N m = zE up N (up m) := by
  have um := tr_up h m m0 hm
  have hu := h.un m hm
  obtain ⟨i1, i2, i3, i4⟩ := zE_in (up := up) hu
  have ml := tr_w h hm m0
  refine zE_eq hm ml i2 (fun u => ?_) ?_
  · induction u using Nat.strongRecOn with
    | ind u ih =>
      intro u1 u2
      have hu2 : u < N := by omega
      rcases h.lk u (by omega) hu2 with y | ⟨s, s1, s2, s3⟩
      · rcases h.c1 _ (h.un u hu2) with z | ⟨z, _⟩ <;> omega
      · rcases h.x1 s s1 with z | ⟨r, z1, z2, _⟩
        · omega
        · by_cases e : m < s
          · have := ih s (by omega) e (by omega)
            omega
          · by_cases e2 : s = m
            · subst e2
              omega
            · exfalso
              have zs := tr_x h s1 s2
              have w := (zE_in (up := up) s1).2.2.1 m (by omega) (by omega)
              have w2 := i3 u (by omega) u2
              have s0 : s ≠ 0 := fun e3 => by
                have := h.x0
                rw [e3] at s2
                omega
              have := tr_up h s s0 s1
              omega
  · rcases i4 with y | y
    · exact Or.inl y
    · exact Or.inr (by omega)
theorem tr_c (h : TRE N kd ch nx up) (hm : m < N) (hc : ch m = -1) : zE up N m = m + 1 := by
  refine zE_eq hm (Nat.lt_succ_self m) hm (fun u h1 h2 => absurd h2 (by omega)) ?_
  by_cases e : m + 1 = N
  · exact Or.inl e
  · refine Or.inr ?_
    rcases h.lk (m + 1) (by omega) (by omega) with y | ⟨s, s1, s2, s3⟩
    · rcases h.c1 _ (h.un (m + 1) (by omega)) with z | ⟨z, _⟩
      · omega
      · have : up (m + 1) = m := by omega
        rw [this] at z
        omega
    · rcases h.x1 s s1 with z | ⟨r, z1, z2, _⟩
      · omega
      · have s0 : s ≠ 0 := fun e3 => by
          have := h.x0
          rw [e3] at s2
          omega
        have := tr_up h s s0 s1
        omega
theorem tr_0 (h : TRE N kd ch nx up) : zE up N 0 = N := zE_eq h.n0 h.n0 (Nat.le_refl N) (fun _ _ _ => Nat.zero_le _) (Or.inl rfl)
/-- a part's first row lies within -/
theorem tr_i (h : TRE N kd ch nx up) (hm : m < N) (hc : ch m ≠ -1) : m + 1 < N ∧ up (m + 1) = m ∧ (kd (m + 1) = 18 ↔ kd m ≠ 18) ∧ m + 1 < zE up N m ∧ zE up N (m + 1) ≤ zE up N m := by
  rcases h.c1 m hm with y | ⟨y1, y2, y3, y4⟩
  · exact absurd y hc
  · obtain ⟨i1, i2, i3, i4⟩ := zE_in (up := up) hm
    have l : m + 1 < zE up N m := by
      apply Nat.lt_of_not_le
      intro z
      have e : zE up N m = m + 1 := by omega
      rw [e] at i4
      omega
    exact ⟨y2, y3, y4, l, zE_ne hm (Nat.lt_succ_self m) l⟩
end OQG
