/-! THE READER: a group ends, the class's side -/
section REND
variable {Q k n m w d N M D lv : Nat} {φ ψ own inn G R ws y : Nat → Nat} {P q : Nat → Int} {S T S0 T0 S2 T2 T1 U : ev_St}
/-- what the class's end of a group comes to: o its cell, D the outer one's number -/
def ENc (k D M : Nat) (S S' : ev_St) : Prop := (S'.1 k 11 = (M : Int) + 2 ∧ S'.1 3 10 = (D : Int) ∧ S'.1 3 11 = S.1 (17 + (D + 1)) 2 ∧ S'.1 3 13 = 1) ∧ (S'.1 (k + 1) M = 15 ∧ S'.1 (k + 4) M = S.1 (17 + (D + 1)) 6 ∧ S'.1 (k + 5) M = -1) ∧ (S'.1 (k + 1) (M + 1) = S.1 (17 + (D + 1)) 0 ∧ S'.1 (k + 2) (M + 1) = S.1 (17 + (D + 1)) 1 ∧ S'.1 (k + 5) (M + 1) = -1) ∧ ((S.1 (17 + (D + 1)) 5 = -1 → S'.1 (k + 4) (M + 1) = (M : Int)) ∧ ∀ b : Nat, S.1 (17 + (D + 1)) 5 = (b : Int) → S'.1 (k + 4) (M + 1) = S.1 (17 + (D + 1)) 4 ∧ S'.1 (k + 5) b = (M : Int)) ∧ (S'.1 (17 + D) 7 = (M : Int) + 1 ∧ S'.1 (17 + D) 8 = S.1 (17 + D) 7) ∧ S'.1 (ckc k D (S.1 (17 + D) 7)) (ckp (S.1 (17 + D) 7)) = (M : Int) + 1 ∧ (S.1 (17 + (D + 1)) 0 = 18 → S'.1 (k + 10) (S.1 (17 + (D + 1)) 1).toNat = (M : Int) + 1) ∧ (∀ x g, ¬ (x = 3 ∧ (g = 10 ∨ g = 11 ∨ g = 13)) → ¬ (x = k ∧ g = 11) → ¬ (k + 1 ≤ x ∧ x ≤ k + 7 ∧ M ≤ g ∧ g ≤ M + 1) → ¬ (x = 17 + (D + 1) ∧ 4 ≤ g ∧ g ≤ 8) → ¬ (x = 17 + D ∧ (g = 7 ∨ g = 8)) → ¬ (x = k + 5 ∧ S.1 (17 + (D + 1)) 5 = (g : Int)) → ¬ (x = ckc k D (S.1 (17 + D) 7) ∧ g = ckp (S.1 (17 + D) 7)) → ¬ (S.1 (17 + (D + 1)) 0 = 18 ∧ x = k + 10 ∧ g = (S.1 (17 + (D + 1)) 1).toNat) → S'.1 x g = S.1 x g) ∧ S'.2 = S.2
theorem rk_n {k o : Nat} {l : Int} {x g : Nat} (h1 : ¬ (x = o ∧ 4 ≤ g ∧ g ≤ 8)) (h2 : ¬ (x = k + 5 ∧ l = (g : Int))) (hl : -1 ≤ l) : ¬ (x = rkc k o l ∧ g = rkp l) := by
  have rk := rk_i k o l
  omega
theorem al_B (h : ev_isOb k 5 = true) : ev_aln (k + 10) = 10 ∧ ev_aln (k + 11) = 26 := ⟨sp_len (by decide +kernel) h, sp_len (by decide +kernel) h⟩
theorem sp_100 (hk : ev_isOb k 5 = true) (hkr : 232 ≤ k) (h9 : S.2.2.1 3 9 = k + 1) (hd : S.1 3 10 = ((D + 1 : Nat) : Int)) (hD : D + 1 < 152) (hn : S.1 k 11 = (M : Int)) (hh : M + 2 ≤ 400) (hl : -1 ≤ S.1 (17 + (D + 1)) 5 ∧ S.1 (17 + (D + 1)) 5 < M) (hi : -1 ≤ S.1 (17 + D) 7 ∧ S.1 (17 + D) 7 < M) (hkd : S.1 (17 + (D + 1)) 0 ≠ 16) (hg : S.1 (17 + (D + 1)) 0 = 18 → 0 ≤ S.1 (17 + (D + 1)) 1 ∧ S.1 (17 + (D + 1)) 1 ≤ 9) (hne : ∀ b : Nat, S.1 (17 + (D + 1)) 5 = (b : Int) → S.1 (17 + D) 7 ≠ (b : Int)) : ∃ S', jm_100 Q S = some (1, S') ∧ ENc k D M S S' := by
  obtain ⟨l1, l2, l3, l4, l5, l6, l7, l8, l9⟩ := al_Pt hk
  obtain ⟨l10, l11⟩ := al_B hk
  have dn : 17 + 1 * (((D + 1 : Nat) : Int)).toNat = 17 + (D + 1) := by omega
  obtain ⟨o, ho⟩ : ∃ o, o = 17 + (D + 1) := ⟨_, rfl⟩
  rw [← ho] at dn hl hkd hg hne
  obtain ⟨kd, hkd'⟩ : ∃ x, x = S.1 o 0 := ⟨_, rfl⟩
  obtain ⟨gr, hgr⟩ : ∃ x, x = S.1 o 1 := ⟨_, rfl⟩
  obtain ⟨V1, a1, ⟨b1, b2, b3, b4⟩, ⟨b5, b6, b7, b8⟩, b9, b10, b11, b12⟩ := sp_99 (Q := Q) (M := M) (o := o) (S := S) hk hkr (by omega) h9 hn (by omega) hl
  have k9 : V1.2.2.1 3 9 = k + 1 := by rw [b12, h9]
  have v0 : V1.1 o 0 = kd := by rw [b11 _ _ (by omega) (by omega) (by omega) (by omega) (rk_n (by omega) (by omega) hl.1), hkd']
  have v1 : V1.1 o 1 = gr := by rw [b11 _ _ (by omega) (by omega) (by omega) (by omega) (rk_n (by omega) (by omega) hl.1), hgr]
  have v2 : V1.1 o 2 = S.1 o 2 := b11 _ _ (by omega) (by omega) (by omega) (by omega) (rk_n (by omega) (by omega) hl.1)
  obtain ⟨V2, c1, ⟨c2, c3, c4, c5, c6⟩, c7, c8⟩ := sp_58 (Q := Q) (S := V1) (n := M + 1) (a := kd) (b := gr) (c := 0) hk (by rw [b1]; omega) (by omega)
  have k9' : V2.2.2.1 3 9 = k + 1 := by rw [c8, k9]
  obtain ⟨F, hF⟩ : ∃ F, F = V2.1 o 4 := ⟨_, rfl⟩
  have hF1 : F = V1.1 o 4 := by rw [hF, c7 _ _ (by omega) (by omega)]
  have w0 : V2.1 o 0 = kd := by rw [c7 _ _ (by omega) (by omega), v0]
  have w1 : V2.1 o 1 = gr := by rw [c7 _ _ (by omega) (by omega), v1]
  have w2 : V2.1 o 2 = S.1 o 2 := by rw [c7 _ _ (by omega) (by omega), v2]
  obtain ⟨V3, hV3⟩ : ∃ V, V = ev_pI V2 (k + 4) (M + 1) F := ⟨_, rfl⟩
  have d1 : ∀ x g, ¬ (x = k + 4 ∧ g = M + 1) → V3.1 x g = V2.1 x g := fun x g h => by rw [hV3, sp_pI1, if_neg h]
  have d2 : V3.2 = V2.2 := by rw [hV3]; rfl
  obtain ⟨V4, hV4⟩ : ∃ V, V = if kd = 18 then ev_pI V3 (k + 10) gr.toNat ((M + 1 : Nat) : Int) else V3 := ⟨_, rfl⟩
  have f1 : ∀ x g, ¬ (kd = 18 ∧ x = k + 10 ∧ g = gr.toNat) → V4.1 x g = V3.1 x g := fun x g h => by
    rw [hV4]
    by_cases e : kd = 18
    · rw [if_pos e, sp_pI1, if_neg (by omega)]
    · rw [if_neg e]
  have f2 : V4.2 = V3.2 := by
    rw [hV4]
    split
    · rfl
    · rfl
  have f3 : kd = 18 → V4.1 (k + 10) gr.toNat = (M : Int) + 1 := fun e => by
    rw [hV4, if_pos e, rd_eq]
    omega
  obtain ⟨V5, hV5⟩ : ∃ V, V = ev_pI (ev_pI (ev_pI V4 3 11 (S.1 o 2)) 3 10 (D : Int)) 3 13 1 := ⟨_, rfl⟩
  have g1 : ∀ x g, ¬ (x = 3 ∧ (g = 10 ∨ g = 11 ∨ g = 13)) → V5.1 x g = V4.1 x g := fun x g h => by
    rw [hV5, sp_pI1, if_neg (by omega), sp_pI1, if_neg (by omega), sp_pI1, if_neg (by omega)]
  have g2 : V5.2 = V4.2 := by rw [hV5]; rfl
  have g3 : V5.1 3 10 = (D : Int) ∧ V5.1 3 11 = S.1 o 2 ∧ V5.1 3 13 = 1 := by
    rw [hV5]
    exact ⟨by rw [rd_nf (by omega), rd_eq], by rw [rd_nf (by omega), rd_nf (by omega), rd_eq], rd_eq⟩
  have all2 : V5.2 = S.2 := by rw [g2, f2, d2, c8, b12]
  -- all but the last step
  have base : ∀ x g, ¬ (x = 3 ∧ (g = 10 ∨ g = 11 ∨ g = 13)) → ¬ (x = k ∧ g = 11) → ¬ (k + 1 ≤ x ∧ x ≤ k + 7 ∧ M ≤ g ∧ g ≤ M + 1) → ¬ (x = o ∧ 4 ≤ g ∧ g ≤ 8) → ¬ (x = k + 5 ∧ S.1 o 5 = (g : Int)) → ¬ (kd = 18 ∧ x = k + 10 ∧ g = gr.toNat) → V5.1 x g = S.1 x g := fun x g h1 h2 h3 h4 h5 h6 => by
    rw [g1 x g h1, f1 x g h6, d1 x g (fun z => h3 (by omega)), c7 x g h2 (fun z => h3 (by omega)), b11 x g (fun z => h1 ⟨z.1, Or.inr (Or.inr z.2)⟩) h2 (fun z => h3 (by omega)) (fun z => h4 (by omega)) (rk_n h4 h5 hl.1)]
  have m11 : V5.1 k 11 = (M : Int) + 2 := by
    rw [g1 _ _ (by omega), f1 _ _ (by omega), d1 _ _ (by omega), c2]
    omega
  have nodeM : ∀ x, k + 1 ≤ x → x ≤ k + 7 → V5.1 x M = V1.1 x M := fun x h1 h2 => by
    rw [g1 _ _ (by omega), f1 _ _ (by omega), d1 _ _ (by omega), c7 _ _ (by omega) (by omega)]
  have nodeM1 : ∀ x, k + 1 ≤ x → x ≤ k + 7 → x ≠ k + 4 → V5.1 x (M + 1) = V2.1 x (M + 1) := fun x h1 h2 h3 => by
    rw [g1 _ _ (by omega), f1 _ _ (by omega), d1 _ _ (by omega)]
  have m14 : V5.1 (k + 4) (M + 1) = F := by
    rw [g1 _ _ (by omega), f1 _ _ (by omega), hV3, rd_eq]
  have e7 : V5.1 (17 + D) 7 = S.1 (17 + D) 7 := base _ _ (by omega) (by omega) (by omega) (by omega) (by omega) (by omega)
  obtain ⟨S', s1, ⟨s2, s3, s4⟩, s5, s6⟩ := sp_91 (Q := Q) (S := V5) (n := M + 1) (d := D) hk hkr (by rw [all2, h9]) g3.1 (by omega) (by rw [m11]; omega) (by rw [m11]; omega) (by rw [e7, m11]; omega)
  rw [e7] at s3 s4 s5
  have run : jm_100 Q S = some (1, S') := by
    unfold jm_100
    rw [sp_b, hd, if_neg (by omega), sp_b, if_pos (by omega), sp_b, sp_if (by omega), dn, sp_b, a1, sp_bd, sp_jn, if_neg (by decide), k9, sp_b, v0, sp_b, v1, sp_b, sp_if (by omega), show k + 1 - 1 = k from rfl, c1, sp_bd]
    try dsimp only
    rw [k9', sp_b, sp_if (by omega), show k + 1 - 1 = k from rfl, sp_59, if_pos (by rw [c2]; omega), sp_bd, if_pos (by decide), k9', sp_b, sp_if (by omega), ← hF, sp_b, show k + 1 - 1 = k from rfl, sp_if (by rw [l4]; omega), Int.toNat_natCast, sp_b, ← hV3, d1 _ _ (by omega), w0, sp_b, sp_jn, sp_jn]
    by_cases e : kd = 18
    · have hg' := hg (by omega)
      have h4 : V4 = ev_pI V3 (k + 10) gr.toNat ((M + 1 : Nat) : Int) := by rw [hV4, if_pos e]
      rw [if_pos e]
      try dsimp only
      rw [sp_jn, if_neg (by decide), d1 _ _ (by omega), w1, sp_b, if_neg (by omega), sp_b, if_neg (by omega), d2, k9', sp_b, sp_if (by omega), sp_b, show k + 1 - 1 = k from rfl, sp_if (by rw [l10]; omega), sp_b, ← h4]
      try dsimp only
      rw [f1 _ _ (by omega), d1 _ _ (by omega), w2, sp_b, sp_b, rd_nf (by omega), f1 _ _ (by omega), d1 _ _ (by omega), c7 _ _ (by omega) (by omega), b11 _ _ (by omega) (by omega) (by omega) (by omega) (rk_n (by omega) (by omega) hl.1), hd, sp_b, sp_ck (by omega), show (((D + 1 : Nat) : Int)) - 1 = (D : Int) from by omega, sp_b, sp_b, ← hV5, g3.1, sp_b, if_neg (by omega), s1, sp_bd, if_neg (by decide)]
    · have h4 : V4 = V3 := by rw [hV4, if_neg e]
      rw [if_neg e, sp_b, if_pos (by omega)]
      try dsimp only
      rw [sp_jn, if_pos rfl, ← h4]
      try dsimp only
      rw [f1 _ _ (by omega), d1 _ _ (by omega), w2, sp_b, sp_b, rd_nf (by omega), f1 _ _ (by omega), d1 _ _ (by omega), c7 _ _ (by omega) (by omega), b11 _ _ (by omega) (by omega) (by omega) (by omega) (rk_n (by omega) (by omega) hl.1), hd, sp_b, sp_ck (by omega), show (((D + 1 : Nat) : Int)) - 1 = (D : Int) from by omega, sp_b, sp_b, ← hV5, g3.1, sp_b, if_neg (by omega), s1, sp_bd, if_neg (by decide)]
  refine ⟨S', run, ?_⟩
  have ck := ck_i k D (S.1 (17 + D) 7)
  have sN : ∀ x g : Nat, ¬ (x = 17 + D) → ¬ (x = k + 5 ∧ S.1 (17 + D) 7 = (g : Int)) → S'.1 x g = V5.1 x g := fun x g h1 h2 => s5 x g (by omega) (by omega)
  unfold ENc
  rw [← ho, ← hkd', ← hgr]
  refine ⟨⟨?_, ?_, ?_, ?_⟩, ⟨?_, ?_, ?_⟩, ⟨?_, ?_, ?_⟩, ⟨fun z => ?_, fun b hb => ⟨?_, ?_⟩⟩, ⟨?_, ?_⟩, ?_, fun e => ?_, fun x g h1 h2 h3 h4 h5 h6 h7 h8 => ?_, by rw [s6, all2]⟩
  · rw [sN _ _ (by omega) (by omega), m11]
  · rw [sN _ _ (by omega) (by omega), g3.1]
  · rw [sN _ _ (by omega) (by omega), g3.2.1]
  · rw [sN _ _ (by omega) (by omega), g3.2.2]
  · rw [sN _ _ (by omega) (by omega), nodeM _ (by omega) (by omega), b2]
  · rw [sN _ _ (by omega) (by omega), nodeM _ (by omega) (by omega), b3]
  · rw [sN _ _ (by omega) (by omega), nodeM _ (by omega) (by omega), b4]
  · rw [sN _ _ (by omega) (by omega), nodeM1 _ (by omega) (by omega) (by omega), c3]
  · rw [sN _ _ (by omega) (by omega), nodeM1 _ (by omega) (by omega) (by omega), c4]
  · rw [sN _ _ (by omega) (by omega), nodeM1 _ (by omega) (by omega) (by omega)]
    exact c6 5 (by omega) (by omega)
  · rw [sN _ _ (by omega) (by omega), m14, hF1]
    rcases rk_i k o (S.1 o 5) with ⟨y1, y2, y3⟩ | ⟨y1, y2, y3⟩
    · rw [y2, y3] at b10
      exact b10
    · exact absurd z y1
  · rw [sN _ _ (by omega) (by omega), m14, hF1, b11 _ _ (by omega) (by omega) (by omega) (by omega) (by have := rk_i k o (S.1 o 5); omega)]
  · rcases rk_i k o (S.1 o 5) with ⟨y1, y2, y3⟩ | ⟨y1, y2, y3⟩
    · omega
    · have e := hne b hb
      rw [sN _ _ (by omega) (fun z => e z.2), g1 _ _ (by omega), f1 _ _ (by omega), d1 _ _ (by omega), c7 _ _ (by omega) (by omega)]
      rw [y2, y3, hb, Int.toNat_natCast] at b10
      exact b10
  · rw [s2]
    omega
  · exact s3
  · rw [s4]
    omega
  · rw [sN _ _ (by omega) (by omega), g1 _ _ (by omega), f3 e]
  · rw [s5 x g h5 h7, base x g h1 h2 h3 h4 h6 h8]
end REND
