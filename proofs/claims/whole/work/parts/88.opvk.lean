/-! THE READER: the root ends, the class's side -/
section RENDR
variable {Q k n m w d N M D lv : Nat} {S T S0 T0 S2 T2 T1 U : ev_St}
def ENr (k M : Nat) (S S' : ev_St) : Prop := S'.1 k 11 = (M : Int) + 2 ∧ (S'.1 (k + 1) M = 15 ∧ S'.1 (k + 4) M = S.1 17 6 ∧ S'.1 (k + 5) M = -1) ∧ (S'.1 (k + 1) (M + 1) = 16 ∧ S'.1 (k + 5) (M + 1) = -1 ∧ S'.1 (k + 7) (M + 1) = -1) ∧ ((S.1 17 5 = -1 → S'.1 (k + 4) (M + 1) = (M : Int)) ∧ ∀ b : Nat, S.1 17 5 = (b : Int) → S'.1 (k + 4) (M + 1) = S.1 17 4 ∧ S'.1 (k + 5) b = (M : Int)) ∧ S'.1 (k + 10) 0 = (M : Int) + 1 ∧ (∀ x g, ¬ (x = 3 ∧ (g = 10 ∨ g = 11 ∨ g = 13)) → ¬ (x = k ∧ g = 11) → ¬ (k + 1 ≤ x ∧ x ≤ k + 7 ∧ M ≤ g ∧ g ≤ M + 1) → ¬ (x = 17 ∧ 4 ≤ g ∧ g ≤ 8) → ¬ (x = k + 5 ∧ S.1 17 5 = (g : Int)) → ¬ (x = k + 10 ∧ g = 0) → S'.1 x g = S.1 x g) ∧ S'.2 = S.2
theorem sp_100r (hk : ev_isOb k 5 = true) (hkr : 232 ≤ k) (h9 : S.2.2.1 3 9 = k + 1) (hd : S.1 3 10 = 0) (hn : S.1 k 11 = (M : Int)) (hh : M + 2 ≤ 400) (hl : -1 ≤ S.1 17 5 ∧ S.1 17 5 < M) (hkd : S.1 17 0 = 16) (hg : S.1 17 1 = 0) : ∃ S', jm_100 Q S = some (1, S') ∧ ENr k M S S' := by
  obtain ⟨l1, l2, l3, l4, l5, l6, l7, l8, l9⟩ := al_Pt hk
  obtain ⟨l10, l11⟩ := al_B hk
  obtain ⟨o, ho⟩ : ∃ o : Nat, o = 17 := ⟨_, rfl⟩
  rw [← ho] at hl hkd hg
  have dn : 17 + 1 * (0 : Int).toNat = o := by rw [ho]; rfl
  obtain ⟨V1, a1, ⟨b1, b2, b3, b4⟩, ⟨b5, b6, b7, b8⟩, b9, b10, b11, b12⟩ := sp_99 (Q := Q) (M := M) (o := o) (S := S) hk hkr (by omega) h9 hn (by omega) hl
  have k9 : V1.2.2.1 3 9 = k + 1 := by rw [b12, h9]
  have v0 : V1.1 o 0 = 16 := by rw [b11 _ _ (by omega) (by omega) (by omega) (by omega) (rk_n (by omega) (by omega) hl.1), hkd]
  have v1 : V1.1 o 1 = 0 := by rw [b11 _ _ (by omega) (by omega) (by omega) (by omega) (rk_n (by omega) (by omega) hl.1), hg]
  have v2 : V1.1 o 2 = S.1 o 2 := b11 _ _ (by omega) (by omega) (by omega) (by omega) (rk_n (by omega) (by omega) hl.1)
  obtain ⟨V2, c1, ⟨c2, c3, c4, c5, c6⟩, c7, c8⟩ := sp_58 (Q := Q) (S := V1) (n := M + 1) (a := 16) (b := 0) (c := 0) hk (by rw [b1]; omega) (by omega)
  have k9' : V2.2.2.1 3 9 = k + 1 := by rw [c8, k9]
  obtain ⟨F, hF⟩ : ∃ F, F = V2.1 o 4 := ⟨_, rfl⟩
  have hF1 : F = V1.1 o 4 := by rw [hF, c7 _ _ (by omega) (by omega)]
  have w0 : V2.1 o 0 = 16 := by rw [c7 _ _ (by omega) (by omega), v0]
  have w1 : V2.1 o 1 = 0 := by rw [c7 _ _ (by omega) (by omega), v1]
  have w2 : V2.1 o 2 = S.1 o 2 := by rw [c7 _ _ (by omega) (by omega), v2]
  obtain ⟨V3, hV3⟩ : ∃ V, V = ev_pI V2 (k + 4) (M + 1) F := ⟨_, rfl⟩
  have d1 : ∀ x g, ¬ (x = k + 4 ∧ g = M + 1) → V3.1 x g = V2.1 x g := fun x g h => by rw [hV3, sp_pI1, if_neg h]
  have d2 : V3.2 = V2.2 := by rw [hV3]; rfl
  obtain ⟨V4, hV4⟩ : ∃ V, V = ev_pI V3 (k + 10) 0 ((M + 1 : Nat) : Int) := ⟨_, rfl⟩
  have f1 : ∀ x g, ¬ (x = k + 10 ∧ g = 0) → V4.1 x g = V3.1 x g := fun x g h => by
    rw [hV4, sp_pI1, if_neg h]
  have f2 : V4.2 = V3.2 := by rw [hV4]; rfl
  have f3 : V4.1 (k + 10) 0 = (M : Int) + 1 := by
    rw [hV4, rd_eq]
    omega
  obtain ⟨V5, hV5⟩ : ∃ V, V = ev_pI (ev_pI (ev_pI V4 3 11 (S.1 o 2)) 3 10 (-1)) 3 13 1 := ⟨_, rfl⟩
  have g1 : ∀ x g, ¬ (x = 3 ∧ (g = 10 ∨ g = 11 ∨ g = 13)) → V5.1 x g = V4.1 x g := fun x g h => by
    rw [hV5, sp_pI1, if_neg (by omega), sp_pI1, if_neg (by omega), sp_pI1, if_neg (by omega)]
  have g2 : V5.2 = V4.2 := by rw [hV5]; rfl
  have g3 : V5.1 3 10 = -1 := by
    rw [hV5, rd_nf (by omega), rd_eq]
  have all2 : V5.2 = S.2 := by rw [g2, f2, d2, c8, b12]
  have base : ∀ x g, ¬ (x = 3 ∧ (g = 10 ∨ g = 11 ∨ g = 13)) → ¬ (x = k ∧ g = 11) → ¬ (k + 1 ≤ x ∧ x ≤ k + 7 ∧ M ≤ g ∧ g ≤ M + 1) → ¬ (x = o ∧ 4 ≤ g ∧ g ≤ 8) → ¬ (x = k + 5 ∧ S.1 o 5 = (g : Int)) → ¬ (x = k + 10 ∧ g = 0) → V5.1 x g = S.1 x g := fun x g h1 h2 h3 h4 h5 h6 => by
    rw [g1 x g h1, f1 x g h6, d1 x g (fun z => h3 (by omega)), c7 x g h2 (fun z => h3 (by omega)), b11 x g (fun z => h1 ⟨z.1, Or.inr (Or.inr z.2)⟩) h2 (fun z => h3 (by omega)) (fun z => h4 (by omega)) (rk_n h4 h5 hl.1)]
  have nodeM : ∀ x, k + 1 ≤ x → x ≤ k + 7 → V5.1 x M = V1.1 x M := fun x h1 h2 => by
    rw [g1 _ _ (by omega), f1 _ _ (by omega), d1 _ _ (by omega), c7 _ _ (by omega) (by omega)]
  have nodeM1 : ∀ x, k + 1 ≤ x → x ≤ k + 7 → x ≠ k + 4 → V5.1 x (M + 1) = V2.1 x (M + 1) := fun x h1 h2 h3 => by
    rw [g1 _ _ (by omega), f1 _ _ (by omega), d1 _ _ (by omega)]
  have m14 : V5.1 (k + 4) (M + 1) = F := by
    rw [g1 _ _ (by omega), f1 _ _ (by omega), hV3, rd_eq]
  have run : jm_100 Q S = some (1, V5) := by
    unfold jm_100
    rw [sp_b, hd, if_neg (by omega), sp_b, if_pos (by omega), sp_b, sp_if (by omega), dn, sp_b, a1, sp_bd, sp_jn, if_neg (by decide), k9, sp_b, v0, sp_b, v1, sp_b, sp_if (by omega), show k + 1 - 1 = k from rfl, c1, sp_bd]
    try dsimp only
    rw [k9', sp_b, sp_if (by omega), show k + 1 - 1 = k from rfl, sp_59, if_pos (by rw [c2]; omega), sp_bd, if_pos (by decide), k9', sp_b, sp_if (by omega), ← hF, sp_b, show k + 1 - 1 = k from rfl, sp_if (by rw [l4]; omega), Int.toNat_natCast, sp_b, ← hV3, d1 _ _ (by omega), w0, sp_b, sp_jn, sp_jn, if_neg (by decide), sp_b, if_neg (fun z => z rfl)]
    try dsimp only
    rw [sp_jn, if_neg (by decide), d1 _ _ (by omega), w1, sp_b, if_neg (by omega), sp_b, if_neg (by omega), d2, k9', sp_b, sp_if (by omega), sp_b, show k + 1 - 1 = k from rfl, sp_if (by rw [l10]; omega), sp_b, show (0 : Int).toNat = 0 from rfl, ← hV4]
    try dsimp only
    rw [f1 _ _ (by omega), d1 _ _ (by omega), w2, sp_b, sp_b, rd_nf (by omega), f1 _ _ (by omega), d1 _ _ (by omega), c7 _ _ (by omega) (by omega), b11 _ _ (by omega) (by omega) (by omega) (by omega) (rk_n (by omega) (by omega) hl.1), hd, sp_b, sp_ck (by omega), show (0 : Int) - 1 = -1 from by omega, sp_b, sp_b, ← hV5, g3, sp_b, if_pos (by omega)]
  refine ⟨V5, run, ?_⟩
  unfold ENr
  rw [← ho]
  refine ⟨?_, ⟨?_, ?_, ?_⟩, ⟨?_, ?_, ?_⟩, ⟨fun z => ?_, fun b hb => ⟨?_, ?_⟩⟩, ?_, base, all2⟩
  · rw [g1 _ _ (by omega), f1 _ _ (by omega), d1 _ _ (by omega), c2]
    omega
  · rw [nodeM _ (by omega) (by omega), b2]
  · rw [nodeM _ (by omega) (by omega), b3]
  · rw [nodeM _ (by omega) (by omega), b4]
  · rw [nodeM1 _ (by omega) (by omega) (by omega), c3]
  · rw [nodeM1 _ (by omega) (by omega) (by omega)]
    exact c6 5 (by omega) (by omega)
  · rw [nodeM1 _ (by omega) (by omega) (by omega)]
    exact c6 7 (by omega) (by omega)
  · rw [m14, hF1]
    rcases rk_i k o (S.1 o 5) with ⟨y1, y2, y3⟩ | ⟨y1, y2, y3⟩
    · rw [y2, y3] at b10
      exact b10
    · exact absurd z y1
  · rw [m14, hF1, b11 _ _ (by omega) (by omega) (by omega) (by omega) (by have := rk_i k o (S.1 o 5); omega)]
  · rcases rk_i k o (S.1 o 5) with ⟨y1, y2, y3⟩ | ⟨y1, y2, y3⟩
    · omega
    · rw [g1 _ _ (by omega), f1 _ _ (by omega), d1 _ _ (by omega), c7 _ _ (by omega) (by omega)]
      rw [y2, y3, hb, Int.toNat_natCast] at b10
      exact b10
  · rw [g1 _ _ (by omega), f3]
end RENDR
