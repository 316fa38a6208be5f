/-! PLAY: the text that a replacement would make, as the reference tries it -/
section OSL
variable {Q m len s E d k g : Nat} {S T T' U V X : ev_St} {tx : Nat → Int} {a0 x3 : Int} {K7 : Int → Int → Int → ev_St → Option (Unit × ev_St)}
/-- how far a place behind the first k of them moves -/
def Dk (T : ev_St) (k : Nat) : Int := if k = 0 then 0 else gsm T k - T.1 703 k
/-- where the k-th piece of the text before begins -/
def ep (T : ev_St) (k : Nat) : Int := if k = 0 then 0 else T.1 705 (k - 1)
theorem ep_b (h : RCT m E s T) (hk : k ≤ m) : 0 ≤ ep T k ∧ ep T k ≤ (E : Int) ∧ (k < m → ep T k ≤ T.1 704 k) := by
  unfold ep
  by_cases z : k = 0
  · rw [if_pos z]
    refine ⟨by omega, by omega, fun hm => ?_⟩
    obtain ⟨a, b, e1, _⟩ := h.1 k hm
    omega
  · rw [if_neg z]
    obtain ⟨a, b, e1, e2, e3, e4⟩ := h.1 (k - 1) (by omega)
    refine ⟨by omega, by omega, fun hm => ?_⟩
    have := h.2.1 (k - 1) (by omega)
    rw [show k - 1 + 1 = k by omega] at this
    exact this
theorem Dk_s (h : RCT m E s T) (hk : k < m) : Dk T (k + 1) = Dk T k + (T.1 705 k - T.1 704 k) - (T.1 703 (k + 1) - T.1 703 k) := by
  have z : T.1 703 0 = 0 := (h.2.2.2.1 (by omega)).1
  have e : gsm T (k + 1) = gsm T k + (T.1 705 k - T.1 704 k) := rfl
  unfold Dk
  rw [if_neg (Nat.succ_ne_zero k)]
  by_cases w : k = 0
  · subst w
    have e0 : gsm T 0 = 0 := rfl
    rw [if_pos rfl]
    omega
  · rw [if_neg w]
    omega
theorem Dk_0 : Dk T 0 = 0 := if_pos rfl
theorem gsm_ep (h : RCT m E s T) : ∀ k, k ≤ m → 0 ≤ gsm T k ∧ gsm T k ≤ ep T k := fun k => by
  induction k with
  | zero => exact fun _ => ⟨Int.le_refl _, Int.le_refl _⟩
  | succ k ih =>
    intro hk
    have i1 := ih (by omega)
    have i2 := (ep_b h (show k ≤ m by omega)).2.2 (by omega)
    obtain ⟨a, b, y1, y2, y3, y4⟩ := h.1 k (by omega)
    have e : gsm T (k + 1) = gsm T k + (T.1 705 k - T.1 704 k) := rfl
    have e1 : ep T (k + 1) = T.1 705 k := if_neg (Nat.succ_ne_zero k)
    omega
theorem Dk_b (h : RCT m E s T) (hk : k ≤ m) : -(s : Int) ≤ Dk T k ∧ Dk T k ≤ ep T k := by
  have g := gsm_ep h k hk
  unfold Dk
  by_cases w : k = 0
  · rw [if_pos w]
    omega
  · rw [if_neg w]
    have := RCT_le h k hk (by omega)
    omega
/-- behind the first k of them -/
theorem Rt_A (h : RCT m E s T) : ∀ k, k ≤ m → ∀ g : Nat, ep T k - Dk T k ≤ (g : Int) → 0 ≤ (g : Int) + Dk T k → Rt T tx m m g = Rt T tx m (m - k) ((g : Int) + Dk T k).toNat := fun k => by
  induction k with
  | zero =>
    intro _ g _ _
    rw [Dk_0, Nat.sub_zero, show ((g : Int) + 0).toNat = g by omega]
  | succ k ih =>
    intro hk g hg hg2
    have e1 : ep T (k + 1) = T.1 705 k := if_neg (Nat.succ_ne_zero k)
    have eb := ep_b h (show k ≤ m by omega)
    have p := h.2.2.2.2 k (by omega)
    obtain ⟨a, b, y1, y2, y3, y4⟩ := h.1 k (by omega)
    have eb2 := eb.2.2 (by omega)
    have ds := Dk_s h (show k < m by omega)
    rw [e1, ds] at hg
    rw [ds] at hg2
    rw [ih (by omega) g (by omega) (by omega), show m - k = (m - (k + 1)) + 1 by omega]
    rw [Rt]
    rw [show m - 1 - (m - (k + 1)) = k by omega, if_neg (by omega), if_neg (by omega), ds]
    congr 1
    omega
/-- before the next of them -/
theorem Rt_B (h : RCT m E s T) : ∀ d, d ≤ m → ∀ g : Nat, (d = 0 ∨ (g : Int) < T.1 704 (m - d)) → Rt T tx m d g = tx g := fun d => by
  induction d with
  | zero => exact fun _ g _ => rfl
  | succ d ih =>
    intro hd g hg
    have hg : (g : Int) < T.1 704 (m - (d + 1)) := hg.resolve_left (Nat.succ_ne_zero d)
    have k : m - 1 - d = m - (d + 1) := by omega
    rw [Rt, k, if_pos hg]
    refine ih (by omega) g ?_
    by_cases z : d = 0
    · exact Or.inl z
    · refine Or.inr ?_
      have q := h.2.1 (m - (d + 1)) (by omega)
      rw [show m - (d + 1) + 1 = m - d by omega] at q
      obtain ⟨a, b, y1, y2, y3, y4⟩ := h.1 (m - (d + 1)) (by omega)
      omega
theorem al_706 : ev_aln 706 = 400 ∧ ev_aln 678 = 400 ∧ ev_aln 702 = 200 ∧ ev_aln 703 = 102 ∧ ev_aln 704 = 102 ∧ ev_aln 705 = 102 := by decide +kernel
/-- only the trial is written -/
def FR6 (T U : ev_St) : Prop := (∀ c i, c ≠ 706 → U.1 c i = T.1 c i) ∧ U.2 = T.2
theorem FR6_r : FR6 T T := ⟨fun _ _ _ => rfl, rfl⟩
theorem FR6_t (h : FR6 T U) (g : FR6 U V) : FR6 T V := ⟨fun c i y => (g.1 c i y).trans (h.1 c i y), g.2.trans h.2⟩
/-- a piece of the text before -/
theorem c38 : ∀ (r q x y : Nat) (U : ev_St), r < q → x + r ≤ 400 → y + r ≤ 400 → ∃ V, jl_360_38 Q a0 x3 K7 q (x : Int) ((y + r : Nat) : Int) (y : Int) U = (if a0 ≤ x3 then (ev_b (V.1 621 113) fun z => jl_360_89 Q a0 x3 K7 Q ((x + r : Nat) : Int) z V) else (ev_if ((0 : Int) ≤ x3 ∧ x3 < (ev_aln 703 : Int)) (ev_b (V.1 703 (Int.toNat x3)) fun z => jl_360_89 Q a0 x3 K7 Q ((x + r : Nat) : Int) z V))) ∧ FR6 U V ∧ (∀ i, i < r → V.1 706 (x + i) = U.1 678 (y + i)) ∧ (∀ g, g < x → V.1 706 g = U.1 706 g) := fun r => by
  obtain ⟨l706, l678, _⟩ := al_706
  induction r with
  | zero =>
    intro q x y U h1 h2 h3
    obtain ⟨q, rfl⟩ : ∃ r, q = r + 1 := ⟨q - 1, by omega⟩
    refine ⟨U, ?_, FR6_r, fun i h => absurd h (Nat.not_lt_zero i), fun _ _ => rfl⟩
    show jb_360_38 Q a0 x3 K7 _ _ _ _ U = _
    unfold jb_360_38
    rw [if_pos (by omega), sp_jn]
    rfl
  | succ r ih =>
    intro q x y U h1 h2 h3
    obtain ⟨q, rfl⟩ : ∃ r, q = r + 1 := ⟨q - 1, by omega⟩
    obtain ⟨U1, hU1⟩ : ∃ U1, U1 = ev_pI U 706 x (U.1 678 y) := ⟨_, rfl⟩
    obtain ⟨V, v1, v2, v3, v4⟩ := ih q (x + 1) (y + 1) U1 (by omega) (by omega) (by omega)
    have f1 : FR6 U U1 := ⟨fun c i z => by rw [hU1, rd_nk z], by rw [hU1]; rfl⟩
    refine ⟨V, ?_, FR6_t f1 v2, fun i hi => ?_, fun g hg => ?_⟩
    · show jb_360_38 Q a0 x3 K7 (jl_360_38 Q a0 x3 K7 q) _ _ _ U = _
      unfold jb_360_38
      rw [if_neg (by omega), sp_if (by rw [l678]; omega), sp_b, Int.toNat_natCast, sp_if (by rw [l706]; omega), sp_b, Int.toNat_natCast, sp_ck (by omega), sp_ck (by omega), ← hU1, show (x : Int) + 1 = ((x + 1 : Nat) : Int) by omega, show (y : Int) + 1 = ((y + 1 : Nat) : Int) by omega, show ((y + (r + 1) : Nat) : Int) = ((y + 1 + r : Nat) : Int) by omega, v1, show x + 1 + r = x + (r + 1) by omega]
    · cases i with
      | zero =>
        rw [Nat.add_zero, Nat.add_zero, v4 x (by omega), hU1, rd_eq]
      | succ i =>
        rw [show x + (i + 1) = x + 1 + i by omega, v3 i (by omega), f1.1 678 _ (by decide), show y + 1 + i = y + (i + 1) by omega]
    · rw [v4 g (by omega), hU1, rd_nf (by omega)]
/-- a piece of what is made -/
theorem c89 {z2 : Int} (hz : ∀ U, FR6 T U → (if a0 ≤ x3 then U.1 621 113 = z2 else (0 ≤ x3 ∧ x3 + 1 < 102 ∧ U.1 703 (x3 + 1).toNat = z2))) (h3 : -1000 ≤ x3 ∧ x3 ≤ 1000) : ∀ (r q x y : Nat) (U : ev_St), FR6 T U → z2 = ((y + r : Nat) : Int) → r < q → x + r ≤ 400 → y + r ≤ 200 → ∃ V, jl_360_89 Q a0 x3 K7 q (x : Int) (y : Int) U = (if a0 ≤ x3 then (ev_b (V.1 621 73) fun z => K7 ((x + r : Nat) : Int) z (x3 + 1) V) else (ev_if ((0 : Int) ≤ x3 ∧ x3 < (ev_aln 705 : Int)) (ev_b (V.1 705 (Int.toNat x3)) fun z => K7 ((x + r : Nat) : Int) z (x3 + 1) V))) ∧ FR6 U V ∧ (∀ i, i < r → V.1 706 (x + i) = U.1 702 (y + i)) ∧ (∀ g, g < x → V.1 706 g = U.1 706 g) := fun r => by
  obtain ⟨l706, l678, l702, l703, _⟩ := al_706
  have pre : ∀ (q x y : Nat) (U : ev_St), FR6 T U → jl_360_89 Q a0 x3 K7 (q + 1) (x : Int) (y : Int) U = if z2 ≤ (y : Int) then (if a0 ≤ x3 then (ev_b (U.1 621 73) fun z => K7 (x : Int) z (x3 + 1) U) else (ev_if ((0 : Int) ≤ x3 ∧ x3 < (ev_aln 705 : Int)) (ev_b (U.1 705 (Int.toNat x3)) fun z => K7 (x : Int) z (x3 + 1) U))) else (ev_if ((0 : Int) ≤ (y : Int) ∧ (y : Int) < (ev_aln 702 : Int)) (ev_b (U.1 702 (Int.toNat (y : Int))) fun v => ev_if ((0 : Int) ≤ (x : Int) ∧ (x : Int) < (ev_aln 706 : Int)) (ev_b (ev_pI U 706 (Int.toNat (x : Int)) v) fun s => ev_ck ((x : Int) + 1) fun a => ev_ck ((y : Int) + 1) fun b => jl_360_89 Q a0 x3 K7 q a b s))) := fun q x y U hU => by
    have e : jl_360_89 Q a0 x3 K7 (q + 1) (x : Int) (y : Int) U = jb_360_89 Q a0 x3 K7 (jl_360_89 Q a0 x3 K7 q) (x : Int) (y : Int) U := rfl
    have z := hz U hU
    rw [e]
    unfold jb_360_89
    rw [sp_jn]
    by_cases w : a0 ≤ x3
    · rw [if_pos w] at z
      rw [if_pos w, sp_b, z]
      try dsimp only
      by_cases u : z2 ≤ (y : Int)
      · rw [if_pos u, if_pos u, sp_jn, if_pos w, if_pos w, sp_b]
        try dsimp only
        rw [sp_ck (by omega)]
        rfl
      · rw [if_neg u, if_neg u]
    · rw [if_neg w] at z
      rw [if_neg w, sp_ck (by omega), sp_if (by rw [l703]; omega), sp_b, z.2.2]
      try dsimp only
      by_cases u : z2 ≤ (y : Int)
      · rw [if_pos u, if_pos u, sp_jn, if_neg w, if_neg w]
        unfold ev_if
        by_cases t : 0 ≤ x3 ∧ x3 < (ev_aln 705 : Int)
        · rw [if_pos t, if_pos t, sp_b]
          try dsimp only
          rw [sp_ck (by omega)]
          rfl
        · rw [if_neg t, if_neg t]
      · rw [if_neg u, if_neg u]
  induction r with
  | zero =>
    intro q x y U hU h1 h2 h4 h5
    obtain ⟨q, rfl⟩ : ∃ r, q = r + 1 := ⟨q - 1, by omega⟩
    exact ⟨U, by rw [pre q x y U hU, if_pos (by omega), Nat.add_zero], FR6_r, fun i h => absurd h (Nat.not_lt_zero i), fun _ _ => rfl⟩
  | succ r ih =>
    intro q x y U hU h1 h2 h4 h5
    obtain ⟨q, rfl⟩ : ∃ r, q = r + 1 := ⟨q - 1, by omega⟩
    obtain ⟨U1, hU1⟩ : ∃ U1, U1 = ev_pI U 706 x (U.1 702 y) := ⟨_, rfl⟩
    have f1 : FR6 U U1 := ⟨fun c i z => by rw [hU1, rd_nk z], by rw [hU1]; rfl⟩
    obtain ⟨V, v1, v2, v3, v4⟩ := ih q (x + 1) (y + 1) U1 (FR6_t hU f1) (by omega) (by omega) (by omega) (by omega)
    refine ⟨V, ?_, FR6_t f1 v2, fun i hi => ?_, fun g hg => ?_⟩
    · rw [pre q x y U hU, if_neg (by omega), sp_if (by rw [l702]; omega), sp_b, Int.toNat_natCast, sp_if (by rw [l706]; omega), sp_b, Int.toNat_natCast, sp_ck (by omega), sp_ck (by omega), ← hU1, show (x : Int) + 1 = ((x + 1 : Nat) : Int) by omega, show (y : Int) + 1 = ((y + 1 : Nat) : Int) by omega, v1, show x + 1 + r = x + (r + 1) by omega]
    · cases i with
      | zero =>
        rw [Nat.add_zero, Nat.add_zero, v4 x (by omega), hU1, rd_eq]
      | succ i =>
        rw [show x + (i + 1) = x + 1 + i by omega, v3 i (by omega), f1.1 702 _ (by decide), show y + 1 + i = y + (i + 1) by omega]
    · rw [v4 g (by omega), hU1, rd_nf (by omega)]
/-- the trial is put back as the text -/
theorem c173 : ∀ (r q y : Nat) (U : ev_St), y + r ≤ 400 → r < q → ∃ V, jl_360_173 Q ((y + r : Nat) : Int) q (y : Int) U = some ((), V) ∧ (∀ g, y ≤ g → g < y + r → V.1 678 g = U.1 706 g) ∧ (∀ c g, ¬ (c = 678 ∧ y ≤ g) → V.1 c g = U.1 c g) ∧ V.2 = U.2 := fun r => by
  obtain ⟨l706, l678, _⟩ := al_706
  induction r with
  | zero =>
    intro q y U h1 h2
    obtain ⟨q, rfl⟩ : ∃ r, q = r + 1 := ⟨q - 1, by omega⟩
    refine ⟨U, ?_, fun g a b => by omega, fun _ _ _ => rfl, rfl⟩
    show jb_360_173 Q _ _ _ U = _
    unfold jb_360_173
    rw [if_pos (by omega)]
  | succ r ih =>
    intro q y U h1 h2
    obtain ⟨q, rfl⟩ : ∃ r, q = r + 1 := ⟨q - 1, by omega⟩
    obtain ⟨U1, hU1⟩ : ∃ U1, U1 = ev_pI U 678 y (U.1 706 y) := ⟨_, rfl⟩
    obtain ⟨V, v1, v2, v3, v4⟩ := ih q (y + 1) U1 (by omega) (by omega)
    refine ⟨V, ?_, fun g a b => ?_, fun c g z => ?_, by rw [v4, hU1]; rfl⟩
    · show jb_360_173 Q _ (jl_360_173 Q ((y + (r + 1) : Nat) : Int) q) _ U = _
      unfold jb_360_173
      rw [if_neg (by omega), sp_if (by rw [l706]; omega), sp_b, Int.toNat_natCast, sp_if (by rw [l678]; omega), sp_b, sp_ck (by omega), ← hU1, show (y : Int) + 1 = ((y + 1 : Nat) : Int) by omega, show y + (r + 1) = y + 1 + r by omega]
      exact v1
    · by_cases e : g = y
      · rw [e, v3 678 y (by omega), hU1, rd_eq]
      · rw [v2 g (by omega) (by omega), hU1, rd_nk (by decide)]
    · rw [v3 c g (by omega), hU1, sp_pI1, if_neg (by omega)]
/-- the trial's text -/
theorem r360 (hQ : 1000 ≤ Q) (hR : RCT m E s T) (hE : E ≤ len) (h80 : len ≤ 80 ∧ s ≤ 80) (hm : m ≤ 81) (t73 : T.1 621 73 = (len : Int)) (t113 : T.1 621 113 = (s : Int)) : ∀ (r k q : Nat) (U : ev_St), k + r = m → r + 1 < q → FR6 T U → (∀ g : Nat, (g : Int) < ep T k - Dk T k → U.1 706 g = Rt T (T.1 678) m m g) → ∃ V, jl_360_7 Q (m : Int) q (ep T k - Dk T k) (ep T k) (k : Int) U = some ((), V) ∧ V.1 621 73 = (len : Int) - Dk T m ∧ (∀ g : Nat, (g : Int) < (len : Int) - Dk T m → V.1 678 g = Rt T (T.1 678) m m g) ∧ (∀ c g, c ≠ 706 → c ≠ 678 → ¬ (c = 621 ∧ g = 73) → V.1 c g = T.1 c g) ∧ V.2 = T.2 := fun r => by
  obtain ⟨l706, l678, l702, l703, l704, l705⟩ := al_706
  induction r with
  | zero =>
    intro k q U h1 h2 hU hX
    obtain ⟨q, rfl⟩ : ∃ r, q = r + 1 := ⟨q - 1, by omega⟩
    obtain ⟨q, rfl⟩ : ∃ r, q = r + 1 := ⟨q - 1, by omega⟩
    have e : k = m := by omega
    subst e
    have d1 := Dk_b hR (Nat.le_refl k)
    have d2 := ep_b hR (Nat.le_refl k)
    obtain ⟨x, hx⟩ : ∃ x : Nat, (x : Int) = ep T k - Dk T k := ⟨(ep T k - Dk T k).toNat, by omega⟩
    obtain ⟨y, hy⟩ : ∃ y : Nat, (y : Int) = ep T k := ⟨(ep T k).toNat, by omega⟩
    obtain ⟨V, v1, v2, v3, v4⟩ := c38 (Q := Q) (a0 := (k : Int)) (x3 := (k : Int)) (K7 := jl_360_7 Q (k : Int) (q + 1)) (len - y) Q x y U (by omega) (by omega) (by omega)
    rw [if_pos (Int.le_refl _)] at v1
    have hV := FR6_t hU v2
    have v113 : V.1 621 113 = (s : Int) := (hV.1 _ _ (by decide)).trans t113
    have v73 : V.1 621 73 = (len : Int) := (hV.1 _ _ (by decide)).trans t73
    obtain ⟨W, w1, w2, w3, w4⟩ := c89 (Q := Q) (a0 := (k : Int)) (x3 := (k : Int)) (T := T) (K7 := jl_360_7 Q (k : Int) (q + 1)) (z2 := (s : Int)) (fun X hX => by rw [if_pos (Int.le_refl _), hX.1 _ _ (by decide)]; exact t113) (by omega) 0 Q (x + (len - y)) s V hV (by omega) (by omega) (by omega) (by omega)
    rw [if_pos (Int.le_refl _), Nat.add_zero] at w1
    have hW := FR6_t hV w2
    have w73 : W.1 621 73 = (len : Int) := (hW.1 _ _ (by decide)).trans t73
    obtain ⟨L, hL⟩ : ∃ L : Nat, L = x + (len - y) := ⟨_, rfl⟩
    have Le : (L : Int) = (len : Int) - Dk T k := by omega
    obtain ⟨W1, hW1⟩ : ∃ W1, W1 = ev_pI W 621 73 (L : Int) := ⟨_, rfl⟩
    obtain ⟨Z, z1, z2, z3, z4⟩ := c173 (Q := Q) L Q 0 W1 (by omega) (by omega)
    refine ⟨Z, ?_, ?_, fun g hg => ?_, fun c g y1 y2 y3 => ?_, ?_⟩
    · show jb_360_7 Q (k : Int) (jl_360_7 Q (k : Int) (q + 1)) _ _ _ U = _
      unfold jb_360_7
      rw [if_neg (by omega), sp_jn, if_pos (Int.le_refl _), sp_b, (hU.1 621 73 (by decide)).trans t73, ← hx, ← hy]
      try dsimp only
      rw [show (len : Int) = ((y + (len - y) : Nat) : Int) by omega, v1, sp_b, v113, w1, sp_b, w73]
      show jb_360_7 Q (k : Int) (jl_360_7 Q (k : Int) q) _ _ _ W = _
      unfold jb_360_7
      rw [if_pos (by omega), sp_b, Nat.add_zero, ← hL, ← hW1]
      rw [Nat.zero_add] at z1
      exact z1
    · rw [z3 _ _ (by omega), hW1, rd_eq, Le]
    · rw [z2 g (Nat.zero_le g) (by omega), hW1, rd_nk (by decide), w4 g (by omega)]
      by_cases u : g < x
      · rw [v4 g u]
        exact hX g (by omega)
      · have a1 := Rt_A (tx := T.1 678) hR k (Nat.le_refl k) g (by omega) (by omega)
        rw [a1, Nat.sub_self]
        have a2 := v3 (g - x) (by omega)
        rw [show x + (g - x) = g by omega] at a2
        rw [a2, hU.1 678 _ (by decide)]
        show _ = T.1 678 _
        rw [show ((g : Int) + Dk T k).toNat = y + (g - x) by omega]
    · rw [z3 c g (by omega), hW1, sp_pI1, if_neg y3, hW.1 c g y1]
    · rw [z4, hW1]
      exact hW.2
  | succ r ih =>
    intro k q U h1 h2 hU hX
    obtain ⟨q, rfl⟩ : ∃ r, q = r + 1 := ⟨q - 1, by omega⟩
    have hk : k < m := by omega
    have d1 := Dk_b hR (Nat.le_of_lt hk)
    have d2 := ep_b hR (Nat.le_of_lt hk)
    have d3 := d2.2.2 hk
    have d4 := Dk_b hR (show k + 1 ≤ m by omega)
    have d5 := ep_b hR (show k + 1 ≤ m by omega)
    have ds := Dk_s hR hk
    have e1 : ep T (k + 1) = T.1 705 k := if_neg (Nat.succ_ne_zero k)
    obtain ⟨a, b, y1, y2, y3, y4⟩ := hR.1 k hk
    have k0 := RCT_le hR k (by omega) (by omega)
    have k1 := RCT_le hR (k + 1) (by omega) (by omega)
    have k2 := hR.2.2.2.2 k hk
    obtain ⟨x, hx⟩ : ∃ x : Nat, (x : Int) = ep T k - Dk T k := ⟨(ep T k - Dk T k).toNat, by omega⟩
    obtain ⟨y, hy⟩ : ∃ y : Nat, (y : Int) = ep T k := ⟨(ep T k).toNat, by omega⟩
    obtain ⟨f, hf⟩ : ∃ f : Nat, (f : Int) = T.1 703 k := ⟨(T.1 703 k).toNat, by omega⟩
    obtain ⟨n, hn⟩ : ∃ n : Nat, (n : Int) = T.1 703 (k + 1) - T.1 703 k := ⟨(T.1 703 (k + 1) - T.1 703 k).toNat, by omega⟩
    obtain ⟨V, v1, v2, v3, v4⟩ := c38 (Q := Q) (a0 := (m : Int)) (x3 := (k : Int)) (K7 := jl_360_7 Q (m : Int) q) (a - y) Q x y U (by omega) (by omega) (by omega)
    rw [if_neg (by omega), sp_if (by rw [l703]; omega), sp_b, Int.toNat_natCast] at v1
    have hV := FR6_t hU v2
    have v703 : V.1 703 k = (f : Int) := (hV.1 _ _ (by decide)).trans hf.symm
    obtain ⟨W, w1, w2, w3, w4⟩ := c89 (Q := Q) (a0 := (m : Int)) (x3 := (k : Int)) (T := T) (K7 := jl_360_7 Q (m : Int) q) (z2 := T.1 703 (k + 1)) (fun X hX => by
      rw [if_neg (by omega), hX.1 _ _ (by decide), show ((k : Int) + 1).toNat = k + 1 by omega]
      exact ⟨by omega, by omega, rfl⟩) (by omega) n Q (x + (a - y)) f V hV (by omega) (by omega) (by omega) (by omega)
    rw [if_neg (by omega), sp_if (by rw [l705]; omega), sp_b, Int.toNat_natCast] at w1
    have hW := FR6_t hV w2
    have w705 : W.1 705 k = T.1 705 k := hW.1 _ _ (by decide)
    have nx : ((x + (a - y) + n : Nat) : Int) = ep T (k + 1) - Dk T (k + 1) := by omega
    obtain ⟨Z, z1, z2⟩ := ih (k + 1) q W (by omega) (by omega) hW (fun g hg => by
      by_cases u2 : g < x + (a - y)
      · rw [w4 g u2]
        by_cases u : g < x
        · rw [v4 g u]
          exact hX g (by omega)
        · have a1 := Rt_A (tx := T.1 678) hR k (Nat.le_of_lt hk) g (by omega) (by omega)
          have a2 := v3 (g - x) (by omega)
          rw [show x + (g - x) = g by omega] at a2
          have a3 : ((g : Int) + Dk T k).toNat = y + (g - x) := by omega
          rw [a1, a2, hU.1 678 _ (by decide), a3, Rt_B hR (m - k) (by omega) (y + (g - x)) (Or.inr (by
            rw [show m - (m - k) = k by omega]
            omega))]
      · have a1 := Rt_A (tx := T.1 678) hR k (Nat.le_of_lt hk) g (by omega) (by omega)
        have a2 := w3 (g - (x + (a - y))) (by omega)
        rw [show x + (a - y) + (g - (x + (a - y))) = g by omega] at a2
        rw [a1, a2, hV.1 702 _ (by decide), show m - k = (m - (k + 1)) + 1 by omega]
        rw [Rt]
        rw [show m - 1 - (m - (k + 1)) = k by omega, if_neg (by omega), if_pos (by omega)]
        exact congrArg (T.1 702) (by omega))
    refine ⟨Z, ?_, z2⟩
    show jb_360_7 Q (m : Int) (jl_360_7 Q (m : Int) q) _ _ _ U = _
    unfold jb_360_7
    rw [if_neg (by omega), sp_jn, if_neg (by omega), sp_if (by rw [l704]; omega), sp_b, Int.toNat_natCast, (hU.1 704 k (by decide)).trans y1, ← hx, ← hy]
    try dsimp only
    rw [show (a : Int) = ((y + (a - y) : Nat) : Int) by omega, v1, v703, w1, w705, nx, ← e1, show (k : Int) + 1 = ((k + 1 : Nat) : Int) by omega]
    exact z1
end OSL
