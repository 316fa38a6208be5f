/-! PLAY: the text that a replacement would make, as the reference tries it -/
section OSL
variable {Q m len s E d k g : Nat} {S T T' U V X : ev_St} {tx : Nat → Int} {a0 x3 : Int} {K7 : Int → Int → Int → ev_St → Option (Unit × ev_St)}
/-- how far a place behind the first k of them moves -/
def Dk (T : ev_St) (k : Nat) : Int := gsm T k - T.1 703 k
/-- where the k-th piece of the text before begins -/
def ep (T : ev_St) (k : Nat) : Int := if k = 0 then 0 else T.1 705 (k - 1)
theorem ep_b (h : RCT m E s T) (hk : k ≤ m) : 0 ≤ ep T k ∧ ep T k ≤ (E : Int) ∧ (k < m → ep T k ≤ T.1 704 k) := by
  unfold ep
  by_cases z : k = 0
  · rw [if_pos z]
    refine ⟨by omega, by omega, fun hm => ?_⟩
    obtain ⟨a, b, e1, _⟩ := h.1 k hm
    omega
  · rw [if_neg z]
    obtain ⟨a, b, e1, e2, e3, e4⟩ := h.1 (k - 1) (by omega)
    refine ⟨by omega, by omega, fun hm => ?_⟩
    have := h.2.1 (k - 1) (by omega)
    rw [show k - 1 + 1 = k by omega] at this
    exact this
theorem Dk_s : Dk T (k + 1) = Dk T k + (T.1 705 k - T.1 704 k) - (T.1 703 (k + 1) - T.1 703 k) := by
  unfold Dk
  have e : gsm T (k + 1) = gsm T k + (T.1 705 k - T.1 704 k) := rfl
  omega
theorem Dk_0 (h : T.1 703 0 = 0) : Dk T 0 = 0 := by
  unfold Dk
  have e : gsm T 0 = 0 := rfl
  omega
/-- behind the first k of them -/
theorem Rt_A (h : RCT m E s T) (h0 : T.1 703 0 = 0) : ∀ k, k ≤ m → ∀ g : Nat, ep T k - Dk T k ≤ (g : Int) → 0 ≤ (g : Int) + Dk T k → Rt T tx m m g = Rt T tx m (m - k) ((g : Int) + Dk T k).toNat := fun k => by
  induction k with
  | zero =>
    intro _ g _ _
    rw [Dk_0 h0, Nat.sub_zero, show ((g : Int) + 0).toNat = g by omega]
  | succ k ih =>
    intro hk g hg hg2
    have e1 : ep T (k + 1) = T.1 705 k := if_neg (Nat.succ_ne_zero k)
    have eb := ep_b h (show k ≤ m by omega)
    have p := h.2.2.2.2 k (by omega)
    obtain ⟨a, b, y1, y2, y3, y4⟩ := h.1 k (by omega)
    have eb2 := eb.2.2 (by omega)
    rw [e1, Dk_s] at hg
    rw [Dk_s] at hg2
    rw [ih (by omega) g (by omega) (by omega), show m - k = (m - (k + 1)) + 1 by omega]
    rw [Rt]
    rw [show m - 1 - (m - (k + 1)) = k by omega, if_neg (by omega), if_neg (by omega), Dk_s]
    congr 1
    omega
/-- before the next of them -/
theorem Rt_B (h : RCT m E s T) : ∀ d, d ≤ m → ∀ g : Nat, (d = 0 ∨ (g : Int) < T.1 704 (m - d)) → Rt T tx m d g = tx g := fun d => by
  induction d with
  | zero => exact fun _ g _ => rfl
  | succ d ih =>
    intro hd g hg
    have hg : (g : Int) < T.1 704 (m - (d + 1)) := hg.resolve_left (Nat.succ_ne_zero d)
    have k : m - 1 - d = m - (d + 1) := by omega
    rw [Rt, k, if_pos hg]
    refine ih (by omega) g ?_
    by_cases z : d = 0
    · exact Or.inl z
    · refine Or.inr ?_
      have q := h.2.1 (m - (d + 1)) (by omega)
      rw [show m - (d + 1) + 1 = m - d by omega] at q
      obtain ⟨a, b, y1, y2, y3, y4⟩ := h.1 (m - (d + 1)) (by omega)
      omega
theorem al_706 : ev_aln 706 = 400 ∧ ev_aln 678 = 400 ∧ ev_aln 702 = 200 ∧ ev_aln 703 = 102 ∧ ev_aln 704 = 102 ∧ ev_aln 705 = 102 := by decide +kernel
/-- only the trial is written -/
def FR6 (T U : ev_St) : Prop := (∀ c i, c ≠ 706 → U.1 c i = T.1 c i) ∧ U.2 = T.2
theorem FR6_r : FR6 T T := ⟨fun _ _ _ => rfl, rfl⟩
theorem FR6_t (h : FR6 T U) (g : FR6 U V) : FR6 T V := ⟨fun c i y => (g.1 c i y).trans (h.1 c i y), g.2.trans h.2⟩
/-- a piece of the text before -/
theorem c38 : ∀ (r q x y : Nat) (U : ev_St), r < q → x + r ≤ 400 → y + r ≤ 400 → ∃ V, jl_360_38 Q a0 x3 K7 q (x : Int) ((y + r : Nat) : Int) (y : Int) U = (if a0 ≤ x3 then (ev_b (V.1 621 113) fun z => jl_360_89 Q a0 x3 K7 Q ((x + r : Nat) : Int) z V) else (ev_if ((0 : Int) ≤ x3 ∧ x3 < (ev_aln 703 : Int)) (ev_b (V.1 703 (Int.toNat x3)) fun z => jl_360_89 Q a0 x3 K7 Q ((x + r : Nat) : Int) z V))) ∧ FR6 U V ∧ (∀ i, i < r → V.1 706 (x + i) = U.1 678 (y + i)) ∧ (∀ g, g < x → V.1 706 g = U.1 706 g) := fun r => by
  obtain ⟨l706, l678, _⟩ := al_706
  induction r with
  | zero =>
    intro q x y U h1 h2 h3
    obtain ⟨q, rfl⟩ : ∃ r, q = r + 1 := ⟨q - 1, by omega⟩
    refine ⟨U, ?_, FR6_r, fun i h => absurd h (Nat.not_lt_zero i), fun _ _ => rfl⟩
    show jb_360_38 Q a0 x3 K7 _ _ _ _ U = _
    unfold jb_360_38
    rw [if_pos (by omega), sp_jn]
    rfl
  | succ r ih =>
    intro q x y U h1 h2 h3
    obtain ⟨q, rfl⟩ : ∃ r, q = r + 1 := ⟨q - 1, by omega⟩
    obtain ⟨U1, hU1⟩ : ∃ U1, U1 = ev_pI U 706 x (U.1 678 y) := ⟨_, rfl⟩
    obtain ⟨V, v1, v2, v3, v4⟩ := ih q (x + 1) (y + 1) U1 (by omega) (by omega) (by omega)
    have f1 : FR6 U U1 := ⟨fun c i z => by rw [hU1, rd_nk z], by rw [hU1]; rfl⟩
    refine ⟨V, ?_, FR6_t f1 v2, fun i hi => ?_, fun g hg => ?_⟩
    · show jb_360_38 Q a0 x3 K7 (jl_360_38 Q a0 x3 K7 q) _ _ _ U = _
      unfold jb_360_38
      rw [if_neg (by omega), sp_if (by rw [l678]; omega), sp_b, Int.toNat_natCast, sp_if (by rw [l706]; omega), sp_b, Int.toNat_natCast, sp_ck (by omega), sp_ck (by omega), ← hU1, show (x : Int) + 1 = ((x + 1 : Nat) : Int) by omega, show (y : Int) + 1 = ((y + 1 : Nat) : Int) by omega, show ((y + (r + 1) : Nat) : Int) = ((y + 1 + r : Nat) : Int) by omega, v1, show x + 1 + r = x + (r + 1) by omega]
    · cases i with
      | zero =>
        rw [Nat.add_zero, Nat.add_zero, v4 x (by omega), hU1, rd_eq]
      | succ i =>
        rw [show x + (i + 1) = x + 1 + i by omega, v3 i (by omega), f1.1 678 _ (by decide), show y + 1 + i = y + (i + 1) by omega]
    · rw [v4 g (by omega), hU1, rd_nf (by omega)]
/-- a piece of what is made -/
theorem c89 {z2 : Int} (hz : ∀ U, FR6 T U → (if a0 ≤ x3 then U.1 621 113 = z2 else (0 ≤ x3 ∧ x3 + 1 < 102 ∧ U.1 703 (x3 + 1).toNat = z2))) (h3 : -1000 ≤ x3 ∧ x3 ≤ 1000) : ∀ (r q x y : Nat) (U : ev_St), FR6 T U → z2 = ((y + r : Nat) : Int) → r < q → x + r ≤ 400 → y + r ≤ 200 → ∃ V, jl_360_89 Q a0 x3 K7 q (x : Int) (y : Int) U = (if a0 ≤ x3 then (ev_b (V.1 621 73) fun z => K7 ((x + r : Nat) : Int) z (x3 + 1) V) else (ev_if ((0 : Int) ≤ x3 ∧ x3 < (ev_aln 705 : Int)) (ev_b (V.1 705 (Int.toNat x3)) fun z => K7 ((x + r : Nat) : Int) z (x3 + 1) V))) ∧ FR6 U V ∧ (∀ i, i < r → V.1 706 (x + i) = U.1 702 (y + i)) ∧ (∀ g, g < x → V.1 706 g = U.1 706 g) := fun r => by
  obtain ⟨l706, l678, l702, l703, _⟩ := al_706
  have pre : ∀ (q x y : Nat) (U : ev_St), FR6 T U → jl_360_89 Q a0 x3 K7 (q + 1) (x : Int) (y : Int) U = if z2 ≤ (y : Int) then (if a0 ≤ x3 then (ev_b (U.1 621 73) fun z => K7 (x : Int) z (x3 + 1) U) else (ev_if ((0 : Int) ≤ x3 ∧ x3 < (ev_aln 705 : Int)) (ev_b (U.1 705 (Int.toNat x3)) fun z => K7 (x : Int) z (x3 + 1) U))) else (ev_if ((0 : Int) ≤ (y : Int) ∧ (y : Int) < (ev_aln 702 : Int)) (ev_b (U.1 702 (Int.toNat (y : Int))) fun v => ev_if ((0 : Int) ≤ (x : Int) ∧ (x : Int) < (ev_aln 706 : Int)) (ev_b (ev_pI U 706 (Int.toNat (x : Int)) v) fun s => ev_ck ((x : Int) + 1) fun a => ev_ck ((y : Int) + 1) fun b => jl_360_89 Q a0 x3 K7 q a b s))) := fun q x y U hU => by
    have e : jl_360_89 Q a0 x3 K7 (q + 1) (x : Int) (y : Int) U = jb_360_89 Q a0 x3 K7 (jl_360_89 Q a0 x3 K7 q) (x : Int) (y : Int) U := rfl
    have z := hz U hU
    rw [e]
    unfold jb_360_89
    rw [sp_jn]
    by_cases w : a0 ≤ x3
    · rw [if_pos w] at z
      rw [if_pos w, sp_b, z]
      try dsimp only
      by_cases u : z2 ≤ (y : Int)
      · rw [if_pos u, if_pos u, sp_jn, if_pos w, if_pos w, sp_b]
        try dsimp only
        rw [sp_ck (by omega)]
        rfl
      · rw [if_neg u, if_neg u]
    · rw [if_neg w] at z
      rw [if_neg w, sp_ck (by omega), sp_if (by rw [l703]; omega), sp_b, z.2.2]
      try dsimp only
      by_cases u : z2 ≤ (y : Int)
      · rw [if_pos u, if_pos u, sp_jn, if_neg w, if_neg w]
        unfold ev_if
        by_cases t : 0 ≤ x3 ∧ x3 < (ev_aln 705 : Int)
        · rw [if_pos t, if_pos t, sp_b]
          try dsimp only
          rw [sp_ck (by omega)]
          rfl
        · rw [if_neg t, if_neg t]
      · rw [if_neg u, if_neg u]
  induction r with
  | zero =>
    intro q x y U hU h1 h2 h4 h5
    obtain ⟨q, rfl⟩ : ∃ r, q = r + 1 := ⟨q - 1, by omega⟩
    exact ⟨U, by rw [pre q x y U hU, if_pos (by omega), Nat.add_zero], FR6_r, fun i h => absurd h (Nat.not_lt_zero i), fun _ _ => rfl⟩
  | succ r ih =>
    intro q x y U hU h1 h2 h4 h5
    obtain ⟨q, rfl⟩ : ∃ r, q = r + 1 := ⟨q - 1, by omega⟩
    obtain ⟨U1, hU1⟩ : ∃ U1, U1 = ev_pI U 706 x (U.1 702 y) := ⟨_, rfl⟩
    have f1 : FR6 U U1 := ⟨fun c i z => by rw [hU1, rd_nk z], by rw [hU1]; rfl⟩
    obtain ⟨V, v1, v2, v3, v4⟩ := ih q (x + 1) (y + 1) U1 (FR6_t hU f1) (by omega) (by omega) (by omega) (by omega)
    refine ⟨V, ?_, FR6_t f1 v2, fun i hi => ?_, fun g hg => ?_⟩
    · rw [pre q x y U hU, if_neg (by omega), sp_if (by rw [l702]; omega), sp_b, Int.toNat_natCast, sp_if (by rw [l706]; omega), sp_b, Int.toNat_natCast, sp_ck (by omega), sp_ck (by omega), ← hU1, show (x : Int) + 1 = ((x + 1 : Nat) : Int) by omega, show (y : Int) + 1 = ((y + 1 : Nat) : Int) by omega, v1, show x + 1 + r = x + (r + 1) by omega]
    · cases i with
      | zero =>
        rw [Nat.add_zero, Nat.add_zero, v4 x (by omega), hU1, rd_eq]
      | succ i =>
        rw [show x + (i + 1) = x + 1 + i by omega, v3 i (by omega), f1.1 702 _ (by decide), show y + 1 + i = y + (i + 1) by omega]
    · rw [v4 g (by omega), hU1, rd_nf (by omega)]
/-- the trial is put back as the text -/
theorem c173 : ∀ (r q y : Nat) (U : ev_St), y + r ≤ 400 → r < q → ∃ V, jl_360_173 Q ((y + r : Nat) : Int) q (y : Int) U = some ((), V) ∧ (∀ g, y ≤ g → g < y + r → V.1 678 g = U.1 706 g) ∧ (∀ c g, ¬ (c = 678 ∧ y ≤ g) → V.1 c g = U.1 c g) ∧ V.2 = U.2 := fun r => by
  obtain ⟨l706, l678, _⟩ := al_706
  induction r with
  | zero =>
    intro q y U h1 h2
    obtain ⟨q, rfl⟩ : ∃ r, q = r + 1 := ⟨q - 1, by omega⟩
    refine ⟨U, ?_, fun g a b => by omega, fun _ _ _ => rfl, rfl⟩
    show jb_360_173 Q _ _ _ U = _
    unfold jb_360_173
    rw [if_pos (by omega)]
  | succ r ih =>
    intro q y U h1 h2
    obtain ⟨q, rfl⟩ : ∃ r, q = r + 1 := ⟨q - 1, by omega⟩
    obtain ⟨U1, hU1⟩ : ∃ U1, U1 = ev_pI U 678 y (U.1 706 y) := ⟨_, rfl⟩
    obtain ⟨V, v1, v2, v3, v4⟩ := ih q (y + 1) U1 (by omega) (by omega)
    refine ⟨V, ?_, fun g a b => ?_, fun c g z => ?_, by rw [v4, hU1]; rfl⟩
    · show jb_360_173 Q _ (jl_360_173 Q ((y + (r + 1) : Nat) : Int) q) _ U = _
      unfold jb_360_173
      rw [if_neg (by omega), sp_if (by rw [l706]; omega), sp_b, Int.toNat_natCast, sp_if (by rw [l678]; omega), sp_b, sp_ck (by omega), ← hU1, show (y : Int) + 1 = ((y + 1 : Nat) : Int) by omega, show y + (r + 1) = y + 1 + r by omega]
      exact v1
    · by_cases e : g = y
      · rw [e, v3 678 y (by omega), hU1, rd_eq]
      · rw [v2 g (by omega) (by omega), hU1, rd_nk (by decide)]
    · rw [v3 c g (by omega), hU1, sp_pI1, if_neg (by omega)]
end OSL
