/-! SEARCH: a place, on both sides; HSIM, given the potential -/
section OQE
variable {Q k p N M m n n2 h h2 us us2 vs vs2 ls ls2 w len x0 x y u v g a b r j t uu i : Nat} {C : Int} {φ ψ own up lo : Nat → Nat} {S S1 S2 T T1 T2 U X Y R : ev_St} {V : Nat → Nat → Nat → List KT → Nat → Int} {ks : List KT} {κ : KT} {c f td nd had th dp kd cd fr vv a1 a2 hh al x17 x18 gg : Int}
/-- what is owed: a potential of the reference's frames that starts low -/
def POTX (p N : Nat) (U : ev_St) (len : Nat) : Prop := ∃ V, POT p N U len V ∧ ∀ x, x ≤ len → 2 + V 3 0 0 [] x ≤ 980
theorem cs_run (hX : FIX Q k p N M φ ψ own up lo U w len C V) (hB : BAS k p U w len S T) (hn : n ≤ 1000) (s10 : S.1 281 10 = 0) (s14 : S.1 281 14 = (n : Int)) : ∃ S0, jm_122 Q (x : Int) S = jl_122_74 Q Q 1 0 S0 ∧ AC 0 0 S S0 ∧ CN S0 (U.1 (k + 6) (φ 0)) (x : Int) (-1) (-1) 0 0 n (x : Int) := by
  obtain ⟨hA, hV, hw, hC7, hQ⟩ := hX
  have hn0 := sa_num hA
  have nd := sa_node hA hn0.1.1
  obtain ⟨A, hA1⟩ : ∃ A, A = ev_pI (ev_pI (ev_pI (ev_pI (ev_pI (ev_pI S 281 11 (x : Int)) 281 3 (x : Int)) 281 4 (-1)) 281 5 (-1)) 281 7 0) 281 9 0 := ⟨_, rfl⟩
  have aA : AC 0 0 S A := by
    rw [hA1]
    exact AC_i (AC_i (AC_i (AC_i (AC_i (AC_i AC_r)))))
  have bA := BAS_m hB aA (AR_r (T := T) (vs := 0) (h := 0) (ls := 0))
  refine ⟨ev_pI A 281 2 (U.1 (k + 6) (φ 0)), ?_, AC_i aA, ⟨⟨rd_eq, ?_, ?_, ?_⟩, ?_, ?_, ?_, ?_, ?_⟩⟩
  · unfold jm_122
    rw [sp_b, sp_b, sp_b, sp_b, sp_b, sp_b, ← hA1, sp_b, bA.2.2.1.1, sp_b, sp_if (by omega), show k + 1 - 1 = k from rfl, c60 hA bA, sp_bd, sp_if (by omega), c59 hA bA nd.1.1, sp_bd, sp_jn, if_neg (by decide)]
    try dsimp only
    rw [sp_b, bA.2.2.1.1, sp_if (by omega), sp_b, sp_if (by omega), show k + 1 - 1 = k from rfl, c60 hA bA, sp_bd, (al_k hA).2.2.2.2.2.1, sp_if (by have := nd.1.1; have := hn0.1.2.2; omega), sp_b, Int.toNat_natCast, (cl_k hA bA).1 6 _ (by omega), sp_b]
  · rw [hA1]
    rfl
  · rw [hA1]
    rfl
  · rw [hA1]
    rfl
  · rw [hA1]
    rfl
  · rw [hA1]
    rfl
  · rw [hA1]
    exact s10
  · rw [hA1]
    exact s14
  · rw [hA1]
    rfl
theorem rf_run (hp : p < 12) (hn : n ≤ 1000) (t75 : T.1 621 75 = (n : Int)) (t76 : T.1 621 76 = 0) : ∃ T0, jm_306 Q (p : Int) (x : Int) T = jl_306_68 Q Q (-1) T0 ∧ TN T0 3 ((320 * p : Nat) : Int) (x : Int) (-1) 0 0 1 0 0 n 0 ∧ T0.1 681 0 = 0 ∧ T0.1 621 79 = ((320 * p : Nat) : Int) ∧ (∀ c g, ¬ (c = 621 ∧ 75 ≤ g ∧ g ≤ 105) → ¬ (681 ≤ c ∧ c ≤ 699) → T0.1 c g = T.1 c g) ∧ T0.2 = T.2 := by
  obtain ⟨A, hA1⟩ : ∃ A, A = ev_pI (ev_pI (ev_pI (ev_pI (ev_pI (ev_pI (ev_pI T 621 79 ((320 * p : Nat) : Int)) 621 88 0) 621 105 0) 621 95 0) 621 81 (x : Int)) 621 82 (-1)) 621 84 0 := ⟨_, rfl⟩
  have tA : TN A (T.1 621 78) (T.1 621 80) (x : Int) (-1) (T.1 621 83) 0 0 0 0 n 0 := by
    rw [hA1]
    exact ⟨⟨rfl, rfl, rfl, rfl, rfl, rfl⟩, rfl, rfl, rfl, t75, t76⟩
  obtain ⟨X, x1, x2, x3, x4⟩ := c_frm (Q := Q) (kd := 0) (a := 0) (vv := 0) (hd := -1) (nx := -1) (d2 := 0) tA (by decide)
  have x79 : X.1 621 79 = ((320 * p : Nat) : Int) := by
    rw [x2.2.2.2.2 _ _ (by omega) (by omega), hA1]
    rfl
  refine ⟨ev_pI (ev_pI (ev_pI X 621 83 0) 621 80 ((320 * p : Nat) : Int)) 621 78 3, ?_, TN_78 (TN_80 (TN_83 x3)), ?_, ?_, fun c g z1 z2 => ?_, ?_⟩
  · unfold jm_306
    rw [sp_ck (by omega), show 320 * (p : Int) = ((320 * p : Nat) : Int) from by omega, sp_b, sp_b, sp_b, sp_b, sp_b, sp_b, sp_b, ← hA1, x1, sp_bd, sp_b, sp_b, show (ev_pI X 621 83 ((0 : Nat) : Int)).1 621 79 = ((320 * p : Nat) : Int) from x79, sp_b, sp_b]
    rfl
  · rw [rd_nk (by decide), rd_nk (by decide), rd_nk (by decide)]
    exact x4.1
  · rw [rd_nf (by decide), rd_nf (by decide), rd_nf (by decide)]
    exact x79
  · rw [sp_pI1, if_neg (by omega)]
    try dsimp only
    rw [sp_pI1, if_neg (by omega)]
    try dsimp only
    rw [sp_pI1, if_neg (by omega)]
    try dsimp only
    rw [x2.2.2.2.2 c g (by omega) z2, hA1, sp_pI1, if_neg (by omega)]
    try dsimp only
    rw [sp_pI1, if_neg (by omega)]
    try dsimp only
    rw [sp_pI1, if_neg (by omega)]
    try dsimp only
    rw [sp_pI1, if_neg (by omega)]
    try dsimp only
    rw [sp_pI1, if_neg (by omega)]
    try dsimp only
    rw [sp_pI1, if_neg (by omega)]
    try dsimp only
    rw [sp_pI1, if_neg (by omega)]
  · show X.2 = _
    rw [x2.2.2.2.1, hA1]
    rfl
theorem place_go (hX : FIX Q k p N M φ ψ own up lo U w len C V) (hC : ∀ x, x ≤ len → 2 + V 3 0 0 [] x ≤ C) (hQ2 : 40000000000 ≤ Q) (h1 : CLs U S) (h2 : RFs U T) (h3 : S.2.2.1 281 0 = k + 1 ∧ S.2.2.1 281 1 = w + 1) (h4 : T.1 621 73 = (len : Int) ∧ ∀ i, i < len → T.1 678 i = U.1 (w + 1) i) (hn : n ≤ 1000) (s10 : S.1 281 10 = 0) (s14 : S.1 281 14 = (n : Int)) (t75 : T.1 621 75 = (n : Int)) (t76 : T.1 621 76 = 0) (hx : x ≤ len) : ∃ rc rr S2 T2, jm_122 Q (x : Int) S = some (rc, S2) ∧ jm_306 Q (p : Int) (x : Int) T = some (rr, T2) ∧ RESs Q (x : Int) rc rr S2 T2 := by
  have hX0 := hX
  obtain ⟨hA, hV, hw, hC7, hQ⟩ := hX
  have hp := hA.2.2.1
  have hn0 := sa_num hA
  have nd := sa_node hA hn0.1.1
  obtain ⟨T0, r1, r2, r3, r4, r5, r6⟩ := rf_run (Q := Q) (x := x) hp hn t75 t76
  -- the reference's side of the ground
  have bT : BAS k p U w len S T0 := by
    refine ⟨h1, ⟨fun c g y1 y2 y3 y4 => ?_, fun c g y => by rw [r6]; exact h2.2 c g y⟩, h3, r4, ?_, fun i hi => ?_⟩
    · rw [r5 c g (by omega) (by omega)]
      exact h2.1 c g y1 y2 y3 y4
    · rw [r5 _ _ (by omega) (by omega)]
      exact h4.1
    · rw [r5 _ _ (by omega) (by omega)]
      exact h4.2 i hi
  obtain ⟨S0, s1, s2, s3⟩ := cs_run (x := x) hX0 bT hn s10 s14
  have p18 := pcL_18 (a := pE lo 0 + 1) hA
  have vC := hC x hx
  have hcn : COR k p N φ ψ own up lo U w len x C V S0 T0 [] x n 0 0 1 0 := cor_mk (BAS_m bT s2 (AR_r (vs := 0) (h := 0) (ls := 0))) s3 r2 ⟨hx, hn, Or.inl rfl, Nat.zero_le _, Nat.zero_le _, Nat.zero_le _, Nat.le_refl x⟩ True.intro ⟨rfl, 0, rfl, Nat.lt_succ_self 0, r3⟩ ⟨0, Nat.le_refl 0, rfl, rfl⟩ True.intro
  have go := (all_j (x0 := x) hX0 30341163).2.2.2.1 0 S0 T0 [] x n 0 0 1 0 ⟨⟨hcn, s3.1.1, r2.1.1, by
    show 0 + 4 * (pcL p N φ lo U (pE lo 0 + 1) + 0) ≤ 76 * n + 72
    omega, by omega⟩, r2.1.2.1, hn0.1.1, by rw [Nat.add_zero, hn0.2.2.2.1]; decide, rfl⟩ (by
    refine Nat.le_trans (mu_b (Nat.zero_le 20)) ?_
    show 15163 * (2 * (1000 - n) + 0) + 15162 ≤ 30341163
    omega)
  obtain ⟨rc, rr, S2, T2, g1, g2, g3⟩ := go Q Q 0 (by omega) (by omega) (by omega)
  exact ⟨rc, rr, S2, T2, by rw [s1]; exact g1, by rw [r1]; exact g2, g3⟩
end OQE
