/-! SEARCH: falling back, side by side -/
section OPZZ
variable {Q k p N M m n n2 h h2 us us2 vs vs2 ls ls2 w len x0 x y u v g a b r j t uu i : Nat} {C : Int} {φ ψ own up lo : Nat → Nat} {S S1 S2 T T1 T2 U X Y : ev_St} {V : Nat → Nat → Nat → List KT → Nat → Int} {ks : List KT} {κ : KT} {c f td nd had th dp kd cd fr vv a1 a2 hh al x17 x18 gg : Int}
/-- the class's turns as it falls back -/
theorem bt_top {q : Nat} (hc : 0 ≤ c ∧ c < 100000000) (h9 : S.1 281 9 = ((h + 1 : Nat) : Int)) (hh : h + 1 ≤ 1002) (hX : X = ev_pI S 281 9 (h : Int)) : (S.1 283 (6 * h) = 0 → ∀ S1, jm_132 Q ((6 * h : Nat) : Int) (S.1 283 (6 * h + 2)) (S.1 283 (6 * h + 3)) (ev_pI X 281 2 (S.1 283 (6 * h + 1))) = some ((), S1) → jl_131_2 Q (q + 1) c S = some (0, S1)) ∧ (S.1 283 (6 * h) = 1 → (∀ S1, jm_133 Q ((6 * h : Nat) : Int) X = some (1, S1) → jl_131_2 Q (q + 1) c S = if S1.1 281 10 = 0 then some (0, S1) else some (2, S1)) ∧ (jm_133 Q ((6 * h : Nat) : Int) X = some (0, X) → (jm_134 Q ((6 * h : Nat) : Int) X = some (0, X) → jl_131_2 Q (q + 1) c S = jl_131_2 Q q (c + 1) X) ∧ ∀ S1, jm_134 Q ((6 * h : Nat) : Int) X = some (1, S1) → S1.1 281 10 = 0 → jl_131_2 Q (q + 1) c S = some (0, S1))) ∧ (S.1 283 (6 * h) = 2 ∨ S.1 283 (6 * h) = 3 → (∀ (b : Nat) (Y : ev_St), b + 1 ≤ 1002 → jm_135 Q (h : Int) X = some ((b : Int), X) → Y = ev_pI X 281 9 (b : Int) → (jm_134 Q ((6 * b : Nat) : Int) Y = some (0, Y) → jl_131_2 Q (q + 1) c S = jl_131_2 Q q (c + 1) Y) ∧ ∀ S1, jm_134 Q ((6 * b : Nat) : Int) Y = some (1, S1) → S1.1 281 10 = 0 → jl_131_2 Q (q + 1) c S = some (0, S1)) ∧ (jm_135 Q (h : Int) X = some (-1, X) → jl_131_2 Q (q + 1) c S = some (if S.1 283 (6 * h) = 2 then 3 else 4, ev_pI (ev_pI X 281 9 (-1)) 281 13 (S.1 283 (6 * h + 2))))) := by
  obtain ⟨l82, l83⟩ := al_Sc
  have x9 : X.1 281 9 = (h : Int) := by rw [hX, rd_eq]
  have xi : ∀ i, X.1 283 i = S.1 283 i := fun i => by rw [hX, rd_nk (by decide)]
  have e1 := rd8s (S := X) (β := Int × ev_St) (j := 1) hh (by omega)
  have e2 := rd8s (S := X) (β := Int × ev_St) (j := 2) hh (by omega)
  refine ⟨fun z S1 h1 => ?_, fun z => ⟨fun S1 h1 => ?_, fun h1 => ⟨fun h2 => ?_, fun S1 h2 h3 => ?_⟩⟩, fun z => ⟨fun b Y hb h1 hY => ⟨fun h2 => ?_, fun S1 h2 h3 => ?_⟩, fun h1 => ?_⟩⟩
  · have e2' := rd8s (S := ev_pI X 281 2 (S.1 283 (6 * h + 1))) (β := Int × ev_St) (j := 2) hh (by omega)
    have e3' := rd8s (S := ev_pI X 281 2 (S.1 283 (6 * h + 1))) (β := Int × ev_St) (j := 3) hh (by omega)
    show jb_131_2 Q _ _ S = _
    unfold jb_131_2
    rw [if_neg (by omega)]
    try dsimp only
    rw [sp_b, h9, if_neg (by omega)]
    try dsimp only
    rw [sp_b, sp_ck (by omega), sp_b, show ((h + 1 : Nat) : Int) - 1 = (h : Int) from by omega, ← hX, sp_b, x9, sp_ck (by omega), if_neg (by omega)]
    try dsimp only
    rw [sp_ck (by omega), sp_b, l83, if_pos (by omega)]
    try dsimp only
    rw [sp_if (by omega), sp_b, show Int.toNat (6 * (h : Int)) = 6 * h from by omega, xi, z, if_neg (by decide)]
    try dsimp only
    rw [show 6 * (h : Int) = ((6 * h : Nat) : Int) from by omega, ← l83, show (((6 * h : Nat) : Int) + 1) = ((6 * h : Nat) : Int) + ((1 : Nat) : Int) from rfl, e1, xi, sp_b, show (((6 * h : Nat) : Int) + 2) = ((6 * h : Nat) : Int) + ((2 : Nat) : Int) from rfl, e2', show (((6 * h : Nat) : Int) + 3) = ((6 * h : Nat) : Int) + ((3 : Nat) : Int) from rfl, e3', rd_nk (by decide), rd_nk (by decide), xi, xi, h1, sp_bd]
  · show jb_131_2 Q _ _ S = _
    unfold jb_131_2
    rw [if_neg (by omega)]
    try dsimp only
    rw [sp_b, h9, if_neg (by omega)]
    try dsimp only
    rw [sp_b, sp_ck (by omega), sp_b, show ((h + 1 : Nat) : Int) - 1 = (h : Int) from by omega, ← hX, sp_b, x9, sp_ck (by omega), if_neg (by omega)]
    try dsimp only
    rw [sp_ck (by omega), sp_b, l83, if_pos (by omega)]
    try dsimp only
    rw [sp_if (by omega), sp_b, show Int.toNat (6 * (h : Int)) = 6 * h from by omega, xi, z, if_pos (by decide)]
    try dsimp only
    rw [sp_jn, if_pos rfl]
    try dsimp only
    rw [sp_jn, sp_jn, if_neg (by decide)]
    try dsimp only
    rw [show 6 * (h : Int) = ((6 * h : Nat) : Int) from by omega, h1, sp_bd, if_pos (by decide)]
    try dsimp only
    rw [sp_b]
  · show jb_131_2 Q _ _ S = _
    unfold jb_131_2
    rw [if_neg (by omega)]
    try dsimp only
    rw [sp_b, h9, if_neg (by omega)]
    try dsimp only
    rw [sp_b, sp_ck (by omega), sp_b, show ((h + 1 : Nat) : Int) - 1 = (h : Int) from by omega, ← hX, sp_b, x9, sp_ck (by omega), if_neg (by omega)]
    try dsimp only
    rw [sp_ck (by omega), sp_b, l83, if_pos (by omega)]
    try dsimp only
    rw [sp_if (by omega), sp_b, show Int.toNat (6 * (h : Int)) = 6 * h from by omega, xi, z, if_pos (by decide)]
    try dsimp only
    rw [sp_jn, if_pos rfl]
    try dsimp only
    rw [sp_jn, sp_jn, if_neg (by decide)]
    try dsimp only
    rw [show 6 * (h : Int) = ((6 * h : Nat) : Int) from by omega, h1, sp_bd, if_neg (by decide)]
    try dsimp only
    rw [h2, sp_bd, if_pos rfl]
    try dsimp only
    rw [sp_ck (by omega)]
  · show jb_131_2 Q _ _ S = _
    unfold jb_131_2
    rw [if_neg (by omega)]
    try dsimp only
    rw [sp_b, h9, if_neg (by omega)]
    try dsimp only
    rw [sp_b, sp_ck (by omega), sp_b, show ((h + 1 : Nat) : Int) - 1 = (h : Int) from by omega, ← hX, sp_b, x9, sp_ck (by omega), if_neg (by omega)]
    try dsimp only
    rw [sp_ck (by omega), sp_b, l83, if_pos (by omega)]
    try dsimp only
    rw [sp_if (by omega), sp_b, show Int.toNat (6 * (h : Int)) = 6 * h from by omega, xi, z, if_pos (by decide)]
    try dsimp only
    rw [sp_jn, if_pos rfl]
    try dsimp only
    rw [sp_jn, sp_jn, if_neg (by decide)]
    try dsimp only
    rw [show 6 * (h : Int) = ((6 * h : Nat) : Int) from by omega, h1, sp_bd, if_neg (by decide)]
    try dsimp only
    rw [h2, sp_bd, if_neg (by decide)]
    try dsimp only
    rw [sp_b, if_pos h3]
  · have y9 : Y.1 281 9 = (b : Int) := by rw [hY, rd_eq]
    show jb_131_2 Q _ _ S = _
    unfold jb_131_2
    rw [if_neg (by omega)]
    try dsimp only
    rw [sp_b, h9, if_neg (by omega)]
    try dsimp only
    rw [sp_b, sp_ck (by omega), sp_b, show ((h + 1 : Nat) : Int) - 1 = (h : Int) from by omega, ← hX, sp_b, x9, sp_ck (by omega), if_neg (by omega)]
    try dsimp only
    rw [sp_ck (by omega), sp_b, l83, if_pos (by omega)]
    try dsimp only
    rw [sp_if (by omega), sp_b, show Int.toNat (6 * (h : Int)) = 6 * h from by omega, xi, if_pos (by omega)]
    try dsimp only
    rw [sp_jn, if_neg (by omega)]
    try dsimp only
    rw [sp_b, h1, sp_bd, sp_b, ← hY, sp_b, y9, if_pos (by omega)]
    try dsimp only
    rw [sp_b, sp_ck (by omega), show 6 * (b : Int) = ((6 * b : Nat) : Int) from by omega]
    try dsimp only
    rw [sp_jn, sp_jn, if_pos (by omega)]
    try dsimp only
    rw [h2, sp_bd, if_pos rfl]
    try dsimp only
    rw [sp_ck (by omega)]
  · have y9 : Y.1 281 9 = (b : Int) := by rw [hY, rd_eq]
    show jb_131_2 Q _ _ S = _
    unfold jb_131_2
    rw [if_neg (by omega)]
    try dsimp only
    rw [sp_b, h9, if_neg (by omega)]
    try dsimp only
    rw [sp_b, sp_ck (by omega), sp_b, show ((h + 1 : Nat) : Int) - 1 = (h : Int) from by omega, ← hX, sp_b, x9, sp_ck (by omega), if_neg (by omega)]
    try dsimp only
    rw [sp_ck (by omega), sp_b, l83, if_pos (by omega)]
    try dsimp only
    rw [sp_if (by omega), sp_b, show Int.toNat (6 * (h : Int)) = 6 * h from by omega, xi, if_pos (by omega)]
    try dsimp only
    rw [sp_jn, if_neg (by omega)]
    try dsimp only
    rw [sp_b, h1, sp_bd, sp_b, ← hY, sp_b, y9, if_pos (by omega)]
    try dsimp only
    rw [sp_b, sp_ck (by omega), show 6 * (b : Int) = ((6 * b : Nat) : Int) from by omega]
    try dsimp only
    rw [sp_jn, sp_jn, if_pos (by omega)]
    try dsimp only
    rw [h2, sp_bd, if_neg (by decide)]
    try dsimp only
    rw [sp_b, if_pos h3]
  · have e2'' := rd8s (S := ev_pI X 281 9 (-1)) (β := Int × ev_St) (j := 2) hh (by omega)
    show jb_131_2 Q _ _ S = _
    unfold jb_131_2
    rw [if_neg (by omega)]
    try dsimp only
    rw [sp_b, h9, if_neg (by omega)]
    try dsimp only
    rw [sp_b, sp_ck (by omega), sp_b, show ((h + 1 : Nat) : Int) - 1 = (h : Int) from by omega, ← hX, sp_b, x9, sp_ck (by omega), if_neg (by omega)]
    try dsimp only
    rw [sp_ck (by omega), sp_b, l83, if_pos (by omega)]
    try dsimp only
    rw [sp_if (by omega), sp_b, show Int.toNat (6 * (h : Int)) = 6 * h from by omega, xi, if_pos (by omega)]
    try dsimp only
    rw [sp_jn, if_neg (by omega)]
    try dsimp only
    rw [sp_b, h1, sp_bd, sp_b, sp_b, rd_eq, if_neg (by omega)]
    try dsimp only
    rw [show 6 * (h : Int) = ((6 * h : Nat) : Int) from by omega, ← l83, show (((6 * h : Nat) : Int) + 2) = ((6 * h : Nat) : Int) + ((2 : Nat) : Int) from rfl, e2'', rd_nk (by decide), xi, sp_b]
    rcases z with z | z
    · rw [if_neg (by omega), if_pos z]
    · rw [if_pos (by omega), if_neg (by omega)]
/-- the wall below, on both sides -/
theorem find_w (hh : h ≤ 1001) : ∀ i, i ≤ h → (∀ b, b < i → (S.1 283 (6 * b) = 1 ↔ 3 ≤ T.1 687 b ∧ T.1 687 b ≤ 5)) → ∀ q q2 : Nat, i < q → i < q2 → (∃ b, b < i ∧ S.1 283 (6 * b) = 1 ∧ jl_135_4 Q q ((i : Int) - 1) S = some ((b : Int), S) ∧ jl_305_45 Q q2 ((i : Int) - 1) 1 x17 x18 T = R305 Q b 1 T) ∨ (jl_135_4 Q q ((i : Int) - 1) S = some (-1, S) ∧ jl_305_45 Q q2 ((i : Int) - 1) 1 x17 x18 T = some (if x17 ≠ 6 then 3 else 2, ev_pI T 621 77 x18)) := fun i => by
  obtain ⟨l82, l83⟩ := al_Sc
  have l87 := al_Sk.1
  have i1 : ¬ ((1 : Int) = 0) := by decide
  induction i with
  | zero =>
    intro h1 h2 q q2 h3 h4
    obtain ⟨q, rfl⟩ : ∃ r, q = r + 1 := ⟨q - 1, by omega⟩
    obtain ⟨q2, rfl⟩ : ∃ r, q2 = r + 1 := ⟨q2 - 1, by omega⟩
    refine Or.inr ⟨?_, ?_⟩
    · show jb_135_4 Q _ _ S = _
      unfold jb_135_4
      rw [if_pos (by omega)]
    · show jb_305_45 Q _ _ _ _ _ T = _
      unfold jb_305_45
      rw [sp_jn, if_neg i1]
      try dsimp only
      rw [if_pos (by omega)]
      try dsimp only
      rw [if_neg (by omega)]
      try dsimp only
      rw [sp_b]
      by_cases z : x17 ≠ 6
      · rw [if_pos z, if_pos z]
      · rw [if_neg z, if_neg z]
  | succ i ih =>
    intro h1 h2 q q2 h3 h4
    obtain ⟨q, rfl⟩ : ∃ r, q = r + 1 := ⟨q - 1, by omega⟩
    obtain ⟨q2, rfl⟩ : ∃ r, q2 = r + 1 := ⟨q2 - 1, by omega⟩
    rw [show ((i + 1 : Nat) : Int) - 1 = (i : Int) from by omega]
    by_cases z : S.1 283 (6 * i) = 1
    · have z2 := (h2 i (by omega)).mp z
      refine Or.inl ⟨i, Nat.lt_succ_self i, z, ?_, ?_⟩
      · show jb_135_4 Q _ _ S = _
        unfold jb_135_4
        rw [if_neg (by omega)]
        try dsimp only
        rw [sp_ck (by omega), sp_ck (by omega), sp_b, sp_jn, l83, if_neg (by omega)]
        try dsimp only
        rw [sp_if (by omega), sp_b, show Int.toNat (6 * (i : Int)) = 6 * i from by omega, z, if_neg (by decide)]
      · show jb_305_45 Q _ _ _ _ _ T = _
        unfold jb_305_45
        rw [sp_jn, if_neg i1]
        try dsimp only
        rw [if_neg (by omega)]
        try dsimp only
        rw [rdh (by omega) (by omega), sp_jn, if_neg (by omega)]
        try dsimp only
        rw [rdh (by omega) (by omega), if_pos z2.2]
        try dsimp only
        rw [if_pos (by omega)]
        rfl
    · have z2 : ¬ (3 ≤ T.1 687 i ∧ T.1 687 i ≤ 5) := fun w => z ((h2 i (by omega)).mpr w)
      have s1 : jl_135_4 Q (q + 1) (i : Int) S = jl_135_4 Q q ((i : Int) - 1) S := by
        show jb_135_4 Q _ _ S = _
        unfold jb_135_4
        rw [if_neg (by omega)]
        try dsimp only
        rw [sp_ck (by omega), sp_ck (by omega), sp_b, sp_jn, l83, if_neg (by omega)]
        try dsimp only
        rw [sp_if (by omega), sp_b, show Int.toNat (6 * (i : Int)) = 6 * i from by omega, if_pos z]
        try dsimp only
        rw [sp_ck (by omega), show (i : Int) + -1 = (i : Int) - 1 from by omega]
      have s2 : jl_305_45 Q (q2 + 1) (i : Int) 1 x17 x18 T = jl_305_45 Q q2 ((i : Int) - 1) 1 x17 x18 T := by
        show jb_305_45 Q _ _ _ _ _ T = _
        unfold jb_305_45
        rw [sp_jn, if_neg i1]
        try dsimp only
        rw [if_neg (by omega)]
        try dsimp only
        rw [rdh (by omega) (by omega), sp_jn]
        by_cases w : T.1 687 i < 3
        · rw [if_pos w]
          try dsimp only
          rw [sp_ck (by omega), show (i : Int) + -1 = (i : Int) - 1 from by omega]
        · rw [if_neg w]
          try dsimp only
          rw [rdh (by omega) (by omega), if_neg (by omega)]
          try dsimp only
          rw [sp_ck (by omega), show (i : Int) + -1 = (i : Int) - 1 from by omega]
      rw [s1, s2]
      rcases ih (by omega) (fun b hb => h2 b (by omega)) q q2 (by omega) (by omega) with ⟨b, y1, y2⟩ | y
      · exact Or.inl ⟨b, by omega, y2⟩
      · exact Or.inr y
/-- the last choice of the reference -/
theorem r305_top (h95 : T.1 621 95 = ((h + 1 : Nat) : Int)) (hh : h + 1 ≤ 1002) (hQ : 2000 ≤ Q) : (T.1 687 h ≤ 5 → jm_305 Q T = R305 Q h 0 T) ∧ (5 < T.1 687 h → ∃ q2, 1500 ≤ q2 ∧ jm_305 Q T = jl_305_45 Q q2 ((h : Int) - 1) 1 (T.1 687 h) (T.1 690 h) T) := by
  obtain ⟨Q1, hQ1⟩ : ∃ Q1, Q = Q1 + 1 := ⟨Q - 1, by omega⟩
  have pre : ∀ al : Int, al = (if T.1 687 h ≤ 5 then 0 else 1) → jm_305 Q T = jl_305_45 Q (Q1 + 1) (h : Int) al (T.1 687 h) (T.1 690 h) T := fun al hal => by
    unfold jm_305
    rw [sp_b, h95, if_pos (by omega)]
    try dsimp only
    rw [sp_b, sp_ck (by omega), show ((h + 1 : Nat) : Int) - 1 = (h : Int) from by omega, rdh (by omega) (by omega), sp_jn]
    by_cases z : T.1 687 h ≤ 5
    · rw [if_pos z] at hal
      rw [if_pos z]
      try dsimp only
      rw [rdh (by omega) (by omega), hal, ← hQ1]
    · rw [if_neg z] at hal
      rw [if_neg z]
      try dsimp only
      rw [rdh (by omega) (by omega), hal, ← hQ1]
  refine ⟨fun z => ?_, fun z => ⟨Q1, by omega, ?_⟩⟩
  · rw [pre 0 (by rw [if_pos z])]
    show jb_305_45 Q _ _ _ _ _ T = _
    unfold jb_305_45
    rw [sp_jn, if_pos rfl]
    try dsimp only
    rw [if_pos (by omega)]
    rfl
  · rw [pre 1 (by rw [if_neg (by omega)])]
    show jb_305_45 Q _ _ _ _ _ T = _
    unfold jb_305_45
    rw [sp_jn, if_neg (by decide)]
    try dsimp only
    rw [if_neg (by omega)]
    try dsimp only
    rw [rdh (by omega) (by omega), sp_jn, if_neg (by omega)]
    try dsimp only
    rw [rdh (by omega) (by omega), if_neg (by omega)]
    try dsimp only
    rw [sp_ck (by omega), show (h : Int) + -1 = (h : Int) - 1 from by omega]
end OPZZ
