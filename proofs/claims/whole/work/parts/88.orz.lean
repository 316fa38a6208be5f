/-! MENDING: one item of a template, on both sides -/
section ORZ
variable {Q p k t n m i j len s : Nat} {S S2 S' T T2 T' U V : ev_St} {a c d e f v x md al st num a0 a2 x2 x3 x4 x5 x6 x7 x8 x9 N : Int} {K : Int → Int → Int → Int → Int → Int → ev_St → Option (Unit × ev_St)} {K3 : Int → Int → Int → ev_St → Option (Unit × ev_St)}
theorem r340_chr (h36 : c ≠ 36) (h92 : c ≠ 92) (h63 : c ≠ 63) (h8 : 0 ≤ x8 ∧ x8 ≤ 1000) : R340 Q a0 a2 K x4 x5 x6 x7 x8 x9 c d T = if 0 < x5 ∧ c = 125 then K x4 0 1 x7 (x8 + 1) x9 T else if x5 = 1 ∧ c = 124 then K x4 2 (if x7 ≠ 0 then 0 else 1) x7 (x8 + 1) x9 T else if x6 = 0 then K x4 x5 x6 x7 (x8 + 1) x9 T else ev_bd (jm_338 Q c x4 T) fun _ s => K x4 x5 x6 x7 (x8 + 1) x9 s := by
  unfold R340
  rw [sp_ck (by omega)]
  simp only [sp_jn]
  rw [if_pos h36, if_pos h92, if_pos h63]
  by_cases z1 : x5 ≤ 0
  · have n1 : ¬ (0 < x5 ∧ c = 125) := fun y => Int.not_lt.mpr z1 y.1
    have n2 : ¬ (x5 = 1 ∧ c = 124) := fun y => by omega
    have n3 : x5 ≠ 1 := by omega
    rw [if_pos z1, if_pos n3, if_neg n1, if_neg n2]
  · rw [if_neg z1]
    by_cases z2 : c = 125
    · have n1 : 0 < x5 ∧ c = 125 := ⟨by omega, z2⟩
      have n2 : ¬ c ≠ 125 := fun y => y z2
      rw [if_neg n2, if_pos n1]
    · have n1 : ¬ (0 < x5 ∧ c = 125) := fun y => z2 y.2
      have n2 : c ≠ 125 := z2
      rw [if_pos n2, if_neg n1]
      by_cases z3 : x5 = 1
      · have n3 : ¬ x5 ≠ 1 := fun y => y z3
        rw [if_neg n3]
        by_cases z4 : c = 124
        · have n4 : ¬ c ≠ 124 := fun y => y z4
          have n5 : x5 = 1 ∧ c = 124 := ⟨z3, z4⟩
          rw [if_neg n4, if_pos n5]
          by_cases z5 : x7 ≠ 0
          · rw [if_pos z5, if_pos z5]
          · rw [if_neg z5, if_neg z5]
        · have n4 : c ≠ 124 := z4
          have n5 : ¬ (x5 = 1 ∧ c = 124) := fun y => z4 y.2
          rw [if_pos n4, if_neg n5]
      · have n3 : x5 ≠ 1 := z3
        have n5 : ¬ (x5 = 1 ∧ c = 124) := fun y => z3 y.1
        rw [if_pos n3, if_neg n5]
theorem r340_63 (h8 : 0 ≤ x8 ∧ x8 ≤ 1000) (hd : -1 ≤ d ∧ d ≤ 1000) : R340 Q a0 a2 K x4 x5 x6 x7 x8 x9 63 d T = ev_bd (jm_339 Q a0 (d - 48) T) fun v s => K x4 1 v v (x8 + 3) x9 s := by
  unfold R340
  rw [sp_ck (by omega)]
  simp only [sp_jn]
  rw [if_pos (by decide), if_pos (by decide), if_neg (fun z => z rfl), sp_ck (by omega)]
  congr 1
  funext v s
  rw [sp_ck (by omega), show x8 + 1 + 2 = x8 + 3 by omega]
theorem r340_92 (h8 : 0 ≤ x8 ∧ x8 ≤ 1000) (ha : 0 ≤ a2 ∧ a2 ≤ 1000) : R340 Q a0 a2 K x4 x5 x6 x7 x8 x9 92 d T = if x6 = 0 then K x4 x5 x6 x7 (x8 + 2) x9 T else if d = 85 then K 1 x5 x6 x7 (x8 + 2) x9 T else if d = 76 then K 2 x5 x6 x7 (x8 + 2) x9 T else if d = 69 then K 0 x5 x6 x7 (x8 + 2) x9 T else if d = 35 then (if a2 ≤ 9 then ev_bd (jm_338 Q (48 + a2 % 10) x4 T) fun _ s => K x4 x5 x6 x7 (x8 + 2) x9 s else ev_bd (jm_338 Q (48 + a2 / 10) x4 T) fun _ s => ev_bd (jm_338 Q (48 + a2 % 10) x4 s) fun _ s => K x4 x5 x6 x7 (x8 + 2) x9 s) else if d = 110 then (ev_bd (jm_338 Q 10 x4 T) fun _ s => K x4 x5 x6 x7 (x8 + 2) x9 s) else if ch_e d = 0 then K x4 x5 x6 x7 (x8 + 2) x9 T else ev_bd (jm_338 Q d x4 T) fun _ s => K x4 x5 x6 x7 (x8 + 2) x9 s := by
  have dv : ev_idiv a2 10 = a2 / 10 := sp_div (by omega) (by decide)
  have rm : ev_irem a2 10 = a2 % 10 := sp_rem (by omega) (by decide)
  have b1 : 0 ≤ a2 % 10 ∧ a2 % 10 < 10 := ⟨Int.emod_nonneg _ (by decide), Int.emod_lt_of_pos _ (by decide)⟩
  have b2 : 0 ≤ a2 / 10 ∧ a2 / 10 ≤ 1000 := by omega
  unfold R340
  rw [sp_ck (by omega)]
  simp only [sp_jn]
  rw [if_pos (show (92 : Int) ≠ 36 by decide), if_neg (show ¬ ((92 : Int) ≠ 92) from fun z => z rfl), sp_ck (by omega), show x8 + 1 + 1 = x8 + 2 by omega]
  by_cases z6 : x6 = 0
  · simp only [if_pos z6]
  · simp only [if_neg z6]
    by_cases z1 : d = 85
    · have n1 : ¬ d ≠ 85 := fun y => y z1
      simp only [if_pos z1, if_neg n1]
    · have n1 : d ≠ 85 := z1
      simp only [if_neg z1, if_pos n1]
      by_cases z2 : d = 76
      · have n2 : ¬ d ≠ 76 := fun y => y z2
        simp only [if_pos z2, if_neg n2]
      · have n2 : d ≠ 76 := z2
        simp only [if_neg z2, if_pos n2]
        by_cases z3 : d = 69
        · have n3 : ¬ d ≠ 69 := fun y => y z3
          simp only [if_pos z3, if_neg n3]
        · have n3 : d ≠ 69 := z3
          simp only [if_neg z3, if_pos n3]
          by_cases z4 : d = 35
          · have n4 : ¬ d ≠ 35 := fun y => y z4
            simp only [if_pos z4, if_neg n4]
            by_cases z5 : a2 ≤ 9
            · rw [if_pos z5, if_pos z5, sp_if (by decide), sp_b, rm, sp_ck (by omega)]
            · rw [if_neg z5, if_neg z5, sp_if (by decide), sp_b, dv, sp_ck (by omega)]
              congr 1
              funext _ s
              rw [sp_if (by decide), sp_b, rm, sp_ck (by omega)]
          · have n4 : d ≠ 35 := z4
            simp only [if_neg z4, if_pos n4]
            by_cases z7 : d = 110
            · have n7 : ¬ d ≠ 110 := fun y => y z7
              simp only [if_pos z7, if_neg n7]
            · have n7 : d ≠ 110 := z7
              simp only [if_neg z7, if_pos n7, sp_228, sp_bd]
/-- a group's sign, by a digit -/
theorem r340_d (h8 : 0 ≤ x8 ∧ x8 ≤ 1000) (hd : 48 ≤ d ∧ d ≤ 57) : R340 Q a0 a2 K x4 x5 x6 x7 x8 x9 36 d T = if x6 = 0 then ev_b (T.1 621 73) fun y => jl_340_193 Q a0 a2 x4 x5 x6 x7 x9 (d - 48) 1 (x8 + 2) (fun b1 b2 b3 b4 b5 s => K b1 b2 b3 b4 b5 x9 s) Q y T else ev_bd (jm_339 Q a0 (d - 48) T) fun v s => if v = 0 then (ev_b (s.1 621 73) fun y => jl_340_193 Q a0 a2 x4 x5 x6 x7 x9 (d - 48) 1 (x8 + 2) (fun b1 b2 b3 b4 b5 s => K b1 b2 b3 b4 b5 x9 s) Q y s) else ev_if ((0 : Int) ≤ d - 48 ∧ d - 48 < (ev_aln 679 : Int)) (ev_b (s.1 679 (Int.toNat (d - 48))) fun y => jl_340_193 Q a0 a2 x4 x5 x6 x7 x9 (d - 48) 1 (x8 + 2) (fun b1 b2 b3 b4 b5 s => K b1 b2 b3 b4 b5 x9 s) Q y s) := by
  have cd : ch_d d = 1 := (ch_d_i d).1.mpr hd
  unfold R340
  rw [sp_ck (by omega)]
  simp only [sp_jn]
  rw [if_neg (fun z => z rfl), sp_226, sp_bd, cd, if_neg (by decide), sp_ck (by omega), sp_226, sp_bd, cd, if_pos (by decide), sp_226, sp_bd, cd, if_neg (by decide), sp_ck (by omega), if_neg (by decide), show x8 + 1 + 1 = x8 + 2 by omega]
/-- and by a name -/
theorem r340_n {l : Int} (h8 : 0 ≤ x8 ∧ x8 ≤ 1000) (hd : d = 123) (hc : T.1 700 (x8 + 2).toNat = l) (hl : 97 ≤ l ∧ l ≤ 122) (hl2 : x8 + 2 < 960) (ha : 0 ≤ a0 ∧ a0 < 12) (hg : T.1 638 (26 * a0 + l - 97).toNat = v) : R340 Q a0 a2 K x4 x5 x6 x7 x8 x9 36 d T = if v ≤ 0 ∨ x6 = 0 then ev_b (T.1 621 73) fun y => jl_340_193 Q a0 a2 x4 x5 x6 x7 x9 v (if v ≤ 0 then 0 else 1) (x8 + 4) (fun b1 b2 b3 b4 b5 s => K b1 b2 b3 b4 b5 x9 s) Q y T else ev_bd (jm_339 Q a0 v T) fun g s => if g = 0 then (ev_b (s.1 621 73) fun y => jl_340_193 Q a0 a2 x4 x5 x6 x7 x9 v 1 (x8 + 4) (fun b1 b2 b3 b4 b5 s => K b1 b2 b3 b4 b5 x9 s) Q y s) else ev_if ((0 : Int) ≤ v ∧ v < (ev_aln 679 : Int)) (ev_b (s.1 679 (Int.toNat v)) fun y => jl_340_193 Q a0 a2 x4 x5 x6 x7 x9 v 1 (x8 + 4) (fun b1 b2 b3 b4 b5 s => K b1 b2 b3 b4 b5 x9 s) Q y s) := by
  have cd : ch_d d = 0 := by
    unfold ch_d
    rw [if_neg (by omega)]
  obtain ⟨l36, l38, l79, l80, l78, l00, l01, _⟩ := al_fl
  unfold R340
  rw [sp_ck (by omega)]
  simp only [sp_jn]
  rw [if_neg (fun z => z rfl), sp_226, sp_bd, cd, if_pos rfl, sp_ck (by omega), sp_ck (by omega), sp_if (by rw [l00]; omega), sp_b, show x8 + 1 + 1 = x8 + 2 by omega, hc, sp_ck (by omega), sp_ck (by omega), sp_if (by rw [l38]; omega), sp_b, hg, sp_226, sp_bd, cd, if_neg (fun z => z rfl)]
  by_cases z : v ≤ 0
  · rw [if_pos z, sp_226, sp_bd, cd, if_pos rfl, sp_ck (by omega), if_pos trivial, if_pos (Or.inl z), if_pos z, show x8 + 1 + 3 = x8 + 4 by omega]
  · rw [if_neg z, sp_226, sp_bd, cd, if_pos rfl, sp_ck (by omega), if_neg (by decide), if_neg z, show x8 + 1 + 3 = x8 + 4 by omega]
    by_cases z6 : x6 = 0
    · rw [if_pos z6, if_pos (Or.inr z6)]
    · rw [if_neg z6, if_neg (fun y => y.elim z z6)]
/-- the class's turn -/
theorem c50_in (hF : FLC Q k p t len n S T) (hk : i < n) (hN : tl_n (sp_at S (553 + 2 * t) (i : Int)) (sp_at S (553 + 2 * t) ((i : Int) + 1)) (sp_at S (553 + 2 * t) ((i : Int) + 2)) (sp_at S (553 + 2 * t) ((i : Int) + 3)) x2 = N) (hN2 : 1 ≤ N ∧ N ≤ 4) (hd : -1 ≤ sp_at S (553 + 2 * t) ((i : Int) + 1) ∧ sp_at S (553 + 2 * t) ((i : Int) + 1) ≤ 1000) : jb_50_17 Q (553 + 2 * t + 1) 282 num K3 x2 x3 (i : Int) S = if sp_at S (553 + 2 * t) (i : Int) = 63 then (ev_bd (jm_118 Q (sp_at S (553 + 2 * t) ((i : Int) + 1) - 48) S) fun v s => if v < 0 then K3 1 0 ((i : Int) + N) s else K3 1 1 ((i : Int) + N) s) else if x2 ≠ 0 ∧ sp_at S (553 + 2 * t) (i : Int) = 124 then K3 x2 (if x3 ≠ 0 then 0 else 1) ((i : Int) + N) S else if x2 ≠ 0 ∧ sp_at S (553 + 2 * t) (i : Int) = 125 then K3 0 1 ((i : Int) + N) S else if x3 = 0 then K3 x2 x3 ((i : Int) + N) S else ev_bd (jm_51 Q (553 + 2 * t + 1) (i : Int) 282 num S) fun _ s => K3 x2 x3 ((i : Int) + N) s := by
  obtain ⟨g1, g2, g3, g4⟩ := hF.2.2.2.2.2.2
  have ob := sp_tmp t g1
  have mx : ev_imax 1 N = N := by
    have q : ∀ y : Fin 5, 1 ≤ (y.val : Int) → ev_imax 1 (y.val : Int) = (y.val : Int) := by decide +kernel
    have := q ⟨N.toNat, by omega⟩ (by show 1 ≤ ((N.toNat : Nat) : Int); omega)
    rw [show ((N.toNat : Nat) : Int) = N by omega] at this
    exact this
  unfold jb_50_17
  rw [sp_if (by omega), show 553 + 2 * t + 1 - 1 = 553 + 2 * t from rfl, sp_b, g2, if_neg (by omega), sp_49 ob (by omega) (by omega), hN, sp_bd, sp_b, mx, sp_if (by omega), sp_151 ob (by omega), sp_bd]
  simp only [sp_jn]
  generalize sp_at S (553 + 2 * t) (i : Int) = c at hN ⊢
  generalize hdd : sp_at S (553 + 2 * t) ((i : Int) + 1) = d at hN hd ⊢
  have ckN : ∀ {F : Int → Option (Unit × ev_St)}, ev_ck ((i : Int) + N) F = F ((i : Int) + N) := fun {F} => sp_ck (by omega)
  simp only [ckN]
  by_cases z1 : c = 63
  · have n1 : ¬ c ≠ 63 := fun y => y z1
    rw [if_neg n1, if_pos z1, sp_ck (by omega), sp_if (by omega), sp_151 ob (by omega), sp_bd, hdd, sp_ck (by omega), sp_if (by decide)]
  · have n1 : c ≠ 63 := z1
    rw [if_pos n1, if_neg z1]
    by_cases z2 : x2 = 0
    · have n2 : ¬ (x2 ≠ 0 ∧ c = 124) := fun y => y.1 z2
      have n3 : ¬ (x2 ≠ 0 ∧ c = 125) := fun y => y.1 z2
      rw [if_neg n2, if_neg n3]
      simp only [if_pos z2]
    · simp only [if_neg z2]
      by_cases z4 : c = 124
      · have n4 : ¬ c ≠ 124 := fun y => y z4
        have n5 : x2 ≠ 0 ∧ c = 124 := ⟨z2, z4⟩
        rw [if_neg n4, if_pos n5]
        by_cases z3 : x3 ≠ 0
        · rw [if_pos z3, if_pos z3]
        · rw [if_neg z3, if_neg z3]
      · have n4 : c ≠ 124 := z4
        have n5 : ¬ (x2 ≠ 0 ∧ c = 124) := fun y => z4 y.2
        rw [if_pos n4, if_neg n5]
        by_cases z5 : c = 125
        · have n6 : ¬ c ≠ 125 := fun y => y z5
          have n7 : x2 ≠ 0 ∧ c = 125 := ⟨z2, z5⟩
          rw [if_neg n6, if_pos n7]
        · have n6 : c ≠ 125 := z5
          have n7 : ¬ (x2 ≠ 0 ∧ c = 125) := fun y => z5 y.2
          rw [if_pos n6, if_neg n7]
end ORZ
