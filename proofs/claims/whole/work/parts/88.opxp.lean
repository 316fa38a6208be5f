/-! PATTERNS: the calls groups and least -/
section OPXP
variable {Q k L j p : Nat} {xs : Nat → Int32} {S S2 T T2 U : ev_St} {a : Int}
theorem kp_num (h : KEPT k p S T) : (S.1 k 12 = T.1 636 p ∧ 0 ≤ T.1 636 p ∧ T.1 636 p ≤ 9) ∧ ((S.1 k 14 = 0 ∧ S.1 k 15 = 0 ∧ T.1 639 p = 0) ∨ (S.1 k 14 = 1 ∧ S.1 k 15 = 0 ∧ T.1 639 p = 1) ∨ (S.1 k 14 = 1 ∧ S.1 k 15 = 1 ∧ T.1 639 p = 3)) ∧ S.1 k 16 = T.1 641 (320 * p) := by
  obtain ⟨S0, T0, T1, N, M, φ, ψ, own, up, W, ⟨hF, hq, hw, hn, _, he⟩, b, c, d⟩ := h
  have hN0 : 0 < N := hF.1.1.2.2.1
  have ψ0 : ψ 0 = φ 0 := hF.1.1.2.1.2.1
  have sk : ∀ i, S.1 k i = S0.1 k i := fun i => (b k i (by omega) (by omega)).1
  rw [sk, sk, sk, sk, d.1, c.2.2.1 636 (Or.inr rfl), c.1 641 _ (by omega) (by omega) (by omega)]
  refine ⟨?_, ?_, ?_⟩
  · obtain ⟨q1, q2, q3⟩ := hF.2.2.1
    rw [sft_5 (Or.inr rfl)] at q1 q2 q3
    exact ⟨q1, q2, q3⟩
  · rcases he with ⟨_, y1, y2, y3⟩ | ⟨_, y1, ⟨y2, y3⟩ | ⟨y2, y3, _⟩, _⟩
    · exact Or.inl ⟨y1, y2, y3⟩
    · exact Or.inr (Or.inl ⟨y1, y2, y3⟩)
    · exact Or.inr (Or.inr ⟨y1, y2, y3⟩)
  · have lb := (LB_all hF hw hq N 0 hN0 (by omega)).2.1
    rw [ψ0] at lb
    rw [hn.1]
    exact lb
theorem sp_200 (hK : sp_PT S) : (0 ≤ a ∧ a < S.1 0 5 → jm_200 Q a S = some (313 + 20 * a.toNat + 1, S)) ∧ (¬ (0 ≤ a ∧ a < S.1 0 5) → jm_200 Q a S = some (0, S)) := by
  obtain ⟨⟨k1, k2, k3⟩, _⟩ := hK
  refine ⟨fun h => ?_, fun h => ?_⟩
  · unfold jm_200
    rw [if_neg (by omega), sp_b, if_neg (by omega), if_neg (by omega), sp_if (by omega), sp_b]
  · unfold jm_200
    by_cases y : a < 0
    · rw [if_pos y]
    · rw [if_neg y, sp_b, if_pos (by omega)]
theorem sp_273 (hK : sp_PT S) : jm_273 Q a S = some (if 0 ≤ a ∧ a < S.1 0 5 then 1 else 0, S) := by
  obtain ⟨⟨k1, k2, k3⟩, _⟩ := hK
  have e : sp_in a 0 (S.1 0 5 - 1) = if 0 ≤ a ∧ a < S.1 0 5 then 1 else 0 := by
    unfold sp_in
    by_cases y : 0 ≤ a ∧ a < S.1 0 5
    · rw [if_neg (by omega), if_neg (by omega), if_pos y]
    · rw [if_neg y]
      by_cases z : a < 0
      · rw [if_pos z]
      · rw [if_neg z, if_pos (by omega)]
  unfold jm_273
  rw [sp_b, k3, sp_ck (by omega), sp_222, e, sp_bd]
  by_cases y : 0 ≤ a ∧ a < S.1 0 5
  · rw [if_pos y, sp_if (Or.inr rfl)]
  · rw [if_neg y, sp_if (Or.inl rfl)]
theorem sp_273y (hK : sp_PT S) (h : 0 ≤ a ∧ a < S.1 0 5) : jm_273 Q a S = some (1, S) := by
  rw [sp_273 hK, if_pos h]
theorem sp_273n (hK : sp_PT S) (h : ¬ (0 ≤ a ∧ a < S.1 0 5)) : jm_273 Q a S = some (0, S) := by
  rw [sp_273 hK, if_neg h]
theorem PT_F {W : Nat → Nat → Prop} (hK : sp_PT S) (hF : sp_F W S S2) (h1 : ¬ W 0 5) (h2 : ¬ W 621 5) (h3 : ∀ b g, 313 ≤ b → b < 553 → ¬ W b g) (h4 : ∀ b g, (625 ≤ b ∧ b ≤ 643) ∨ (662 ≤ b ∧ b ≤ 665) → ¬ W b g) : sp_PT S2 := by
  obtain ⟨f, l, _⟩ := hF
  have hc := hK.1
  refine PT_c hK ⟨f _ _ h1, f _ _ h2⟩ fun p hp => ⟨fun x i x1 x2 => ⟨f x i (h3 x i (by omega) (by omega)), l x i (by omega)⟩, ⟨fun c g y _ _ => f c g (h4 c g (by omega)), fun c g y1 y2 _ _ => l c g (by omega), fun c y => f c p (h4 c p (by omega)), fun i _ => f _ _ (h4 _ _ (by omega)), fun i _ => f _ _ (h4 _ _ (by omega))⟩, f _ _ (h4 _ _ (by omega)), f _ _ (h4 _ _ (by omega)), fun c g y1 y2 _ _ => f c g (h4 c g (by omega))⟩
theorem PT_L {y : Int64} (hK : sp_PT S) : sp_PT (ev_pL S 723 0 y) := by
  refine PT_c hK ⟨rfl, rfl⟩ fun p hp => ⟨fun x i x1 x2 => ⟨rfl, ?_⟩, ⟨fun _ _ _ _ _ => rfl, fun c g y1 y2 _ _ => ?_, fun _ _ => rfl, fun _ _ => rfl, fun _ _ => rfl⟩, rfl, rfl, fun _ _ _ _ _ _ => rfl⟩
  · have hc := hK.1
    rw [sp_pL2, if_neg (by omega)]
  · rw [sp_pL2, if_neg (by omega)]
theorem PT_t (hK : sp_PT S) : sp_PT (ev_tick S) := PT_c hK ⟨rfl, rfl⟩ fun p hp => ⟨fun _ _ _ _ => ⟨rfl, rfl⟩, ⟨fun _ _ _ _ _ => rfl, fun _ _ _ _ _ _ => rfl, fun _ _ => rfl, fun _ _ => rfl, fun _ _ => rfl⟩, rfl, rfl, fun _ _ _ _ _ _ => rfl⟩
theorem PT_0 {x : Int} (hK : sp_PT S) : sp_PT (ev_pI S 621 0 x) := by
  have f : ∀ c g, ¬ (c = 621 ∧ g = 0) → (ev_pI S 621 0 x).1 c g = S.1 c g := fun c g h => by rw [sp_pI1, if_neg h]
  have hc := hK.1
  exact PT_c hK ⟨f _ _ (by omega), f _ _ (by omega)⟩ fun p hp => ⟨fun x i x1 x2 => ⟨f _ _ (by omega), rfl⟩, ⟨fun _ _ _ _ _ => f _ _ (by omega), fun _ _ _ _ _ _ => rfl, fun _ _ => f _ _ (by omega), fun _ _ => f _ _ (by omega), fun _ _ => f _ _ (by omega)⟩, f _ _ (by omega), f _ _ (by omega), fun _ _ _ _ _ _ => f _ _ (by omega)⟩
theorem op_5 (hK : sp_PT S) (hL : L ≤ 3072) (hj : j + 6 ≤ L) : ∃ S2, (∀ K, ja_401 Q L xs (j : Int) K S = K S2) ∧ sp_F sp_Wc S S2 := by
  obtain ⟨a, ha⟩ : ∃ a, a = (xs (Int.toNat ((j : Int) + 1))).toInt := ⟨_, rfl⟩
  have l36 : ev_aln 636 = 13 := al_K.2.2.2.2.2.2.2.2.2.2.2.1
  have l39 : ev_aln 639 = 13 := al_K.2.2.2.2.2.2.2.2.2.2.2.2.2.2
  by_cases h : 0 ≤ a ∧ a < S.1 0 5
  · obtain ⟨p, hp⟩ : ∃ p : Nat, a = (p : Int) := ⟨a.toNat, by omega⟩
    have kp := hK.2 p (by omega)
    have k12 := hK.1.2.1
    obtain ⟨⟨n1, n2, n3⟩, n4, _⟩ := kp_num kp
    obtain ⟨k, hk⟩ : ∃ k, k = 313 + 20 * p := ⟨_, rfl⟩
    rw [← hk] at n1 n4
    have c1 : jm_171 Q a S = some (.inl (10 * S.1 636 p + S.1 639 p), S) := by
      unfold jm_171
      rw [(sp_200 hK).1 h, sp_bd, if_neg (by omega), hp, Int.toNat_natCast, ← hk, show k + 1 - 1 = k from rfl, sp_b, n1, sp_ck (by omega), sp_b, sp_jn]
      rcases n4 with ⟨y1, y2, y3⟩ | ⟨y1, y2, y3⟩ | ⟨y1, y2, y3⟩
      · rw [y1, if_pos rfl]
        try dsimp only
        rw [sp_ck (by omega), sp_b, y2, if_pos rfl, sp_ck (by omega), y3, Int.add_zero, Int.add_zero]
      · rw [y1, if_neg (by decide)]
        try dsimp only
        rw [sp_ck (by omega), sp_b, y2, if_pos rfl, sp_ck (by omega), y3, Int.add_zero]
      · rw [y1, if_neg (by decide)]
        try dsimp only
        rw [sp_ck (by omega), sp_b, y2, if_neg (by decide), sp_ck (by omega), y3, Int.add_assoc]
        rfl
    have b0 : -10 ≤ S.1 639 p ∧ S.1 639 p ≤ 10 := by omega
    refine ⟨_, fun K => la_5 (c := 0) (b := 10 * S.1 636 p + S.1 639 p) hL hj (by rw [← ha]; exact lw_5_ok a c1) (S2 := ev_pI (ev_pL S 723 0 (ev_i2l (10 * S.1 636 p + S.1 639 p))) 621 0 0) (by
      rw [← ha]
      unfold jm_274
      rw [sp_b, sp_273y (PT_0 (PT_L hK)) (by rw [rd_nk (by decide)]; exact h), sp_bd, if_neg (by decide), hp, sp_if (by rw [l36]; omega), sp_b, Int.toNat_natCast, rd_nk (by decide), sp_pL1, sp_ck (by omega), sp_if (by rw [l39]; omega), sp_b, rd_nk (by decide), sp_pL1, sp_ck (by omega)]) rd_eq (fun _ => rd_L), sp_F_ok⟩
  · refine ⟨_, fun K => la_5 (S2 := ev_pI (ev_pI (ev_tick S) 621 0 0) 621 0 1) (c := 1) (b := 0) hL hj (by
      rw [← ha]
      refine lw_5_x0 a ?_
      unfold jm_171
      rw [(sp_200 hK).2 h, sp_bd, if_pos rfl]) (by
      rw [← ha]
      unfold jm_274
      rw [sp_b, sp_273n (PT_0 (PT_t hK)) (by rw [rd_nk (by decide)]; exact h), sp_bd, if_pos rfl]
      rfl) rd_eq (fun q => by cases q), sp_F_no2⟩
theorem op_6 (hK : sp_PT S) (hL : L ≤ 3072) (hj : j + 6 ≤ L) : ∃ S2, (∀ K, ja_457 Q L xs (j : Int) K S = K S2) ∧ sp_F sp_Wc S S2 := by
  obtain ⟨a, ha⟩ : ∃ a, a = (xs (Int.toNat ((j : Int) + 1))).toInt := ⟨_, rfl⟩
  have l41 := al_F.2.1
  by_cases h : 0 ≤ a ∧ a < S.1 0 5
  · obtain ⟨p, hp⟩ : ∃ p : Nat, a = (p : Int) := ⟨a.toNat, by omega⟩
    have kp := hK.2 p (by omega)
    have k12 := hK.1.2.1
    obtain ⟨_, _, n5⟩ := kp_num kp
    obtain ⟨k, hk⟩ : ∃ k, k = 313 + 20 * p := ⟨_, rfl⟩
    rw [← hk] at n5
    have c1 : jm_172 Q a S = some (.inl (S.1 641 (320 * p)), S) := by
      unfold jm_172
      rw [(sp_200 hK).1 h, sp_bd, if_neg (by omega), hp, Int.toNat_natCast, ← hk, show k + 1 - 1 = k from rfl, sp_b, n5]
    refine ⟨_, fun K => la_6 (c := 0) (b := S.1 641 (320 * p)) hL hj (by rw [← ha]; exact lw_6_ok a c1) (S2 := ev_pI (ev_pL S 723 0 (ev_i2l (S.1 641 (320 * p)))) 621 0 0) (by
      rw [← ha]
      unfold jm_275
      rw [sp_b, sp_273y (PT_0 (PT_L hK)) (by rw [rd_nk (by decide)]; exact h), sp_bd, if_neg (by decide), hp, sp_ck (by omega), sp_if (by rw [l41]; omega), sp_b, show (320 * (p : Int)).toNat = 320 * p from by omega, rd_nk (by decide), sp_pL1]) rd_eq (fun _ => rd_L), sp_F_ok⟩
  · refine ⟨_, fun K => la_6 (S2 := ev_pI (ev_pI (ev_tick S) 621 0 0) 621 0 1) (c := 1) (b := 0) hL hj (by
      rw [← ha]
      refine lw_6_x0 a ?_
      unfold jm_172
      rw [(sp_200 hK).2 h, sp_bd, if_pos rfl]) (by
      rw [← ha]
      unfold jm_275
      rw [sp_b, sp_273n (PT_0 (PT_t hK)) (by rw [rd_nk (by decide)]; exact h), sp_bd, if_pos rfl]
      rfl) rd_eq (fun q => by cases q), sp_F_no2⟩
end OPXP
