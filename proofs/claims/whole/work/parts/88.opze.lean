/-! SEARCH: turns of both machines -/
section OPZE
variable {Q k p N M m n m2 n2 b w len : Nat} {φ ψ own up lo : Nat → Nat} {S S1 S2 T T1 T2 U : ev_St} {o o1 x x0 v : Int}
theorem code_2 : ∀ x : Fin 400, ev_ishr (4 * ((x.1 : Nat) : Int) + 2) 2 = ((x.1 : Nat) : Int) ∧ ev_iand (4 * ((x.1 : Nat) : Int) + 2) 3 = 2 := by decide +kernel
theorem code_3 (hb : b < 400) : (ev_ishr (4 * (b : Int)) 2 = (b : Int) ∧ ev_iand (4 * (b : Int)) 3 = 0) ∧ (ev_ishr (4 * (b : Int) + 1) 2 = (b : Int) ∧ ev_iand (4 * (b : Int) + 1) 3 = 1) ∧ (ev_ishr (4 * (b : Int) + 2) 2 = (b : Int) ∧ ev_iand (4 * (b : Int) + 2) 3 = 2) := ⟨(code_d ⟨b, hb⟩).1, (code_d ⟨b, hb⟩).2, code_2 ⟨b, hb⟩⟩
/-- the class's cells of the pattern, as a search has them -/
theorem cl_k (hA : STA k p N M φ ψ own up lo U) (hB : BAS k p U w len S T) : (∀ j g, j < 20 → S.1 (k + j) g = U.1 (k + j) g) ∧ (∀ j g, j < 20 → S.2.1 (k + j) g = U.2.1 (k + j) g) ∧ (∀ c m, 625 ≤ c → c ≤ 632 → T.1 c (320 * p + m) = U.1 c (320 * p + m)) ∧ (∀ c m, 633 ≤ c → c ≤ 634 → T.2.1 c (320 * p + m) = U.2.1 c (320 * p + m)) ∧ ∀ j, T.1 637 j = U.1 637 j := by
  obtain ⟨⟨a1, a2, a3⟩, ⟨b1, b2⟩, _⟩ := hB
  have hp := hA.2.2
  exact ⟨fun j g hj => a1 _ _ (by omega) (by omega), fun j g hj => a2 _ _ (by omega), fun c m h1 h2 => b1 _ _ (by omega) (by omega) (by omega) (by omega), fun c m h1 h2 => b2 _ _ (by omega), fun j => b1 _ _ (by omega) (by omega) (by omega) (by omega)⟩
theorem al_k (hA : STA k p N M φ ψ own up lo U) : ev_aln (k + 1) = 400 ∧ ev_aln (k + 2) = 400 ∧ ev_aln (k + 3) = 400 ∧ ev_aln (k + 4) = 400 ∧ ev_aln (k + 5) = 400 ∧ ev_aln (k + 6) = 400 ∧ ev_aln (k + 7) = 400 ∧ ev_aln (k + 8) = 400 ∧ ev_aln (k + 9) = 400 ∧ ev_aln (k + 10) = 10 := by
  have q : ∀ p, p < 12 → ev_aln (313 + 20 * p + 1) = 400 ∧ ev_aln (313 + 20 * p + 2) = 400 ∧ ev_aln (313 + 20 * p + 3) = 400 ∧ ev_aln (313 + 20 * p + 4) = 400 ∧ ev_aln (313 + 20 * p + 5) = 400 ∧ ev_aln (313 + 20 * p + 6) = 400 ∧ ev_aln (313 + 20 * p + 7) = 400 ∧ ev_aln (313 + 20 * p + 8) = 400 ∧ ev_aln (313 + 20 * p + 9) = 400 ∧ ev_aln (313 + 20 * p + 10) = 10 := by decide +kernel
  have := q p hA.2.2.1
  rw [← hA.2.2.2] at this
  exact this
theorem al_rp : ev_aln 625 = 4160 ∧ ev_aln 626 = 4160 ∧ ev_aln 627 = 4160 ∧ ev_aln 628 = 4160 ∧ ev_aln 629 = 4160 ∧ ev_aln 630 = 4160 ∧ ev_aln 631 = 4160 ∧ ev_aln 632 = 4160 ∧ ev_aln 633 = 4160 ∧ ev_aln 634 = 4160 ∧ ev_aln 637 = 130 ∧ ev_aln 678 = 400 := by decide +kernel
theorem c59 (hA : STA k p N M φ ψ own up lo U) (hB : BAS k p U w len S T) (hb : b < M) : jm_59 Q k (b : Int) S = some (1, S) := by
  have n := sa_num hA
  rw [sp_59, show S.1 k 11 = U.1 k 11 from (cl_k hA hB).1 0 11 (by omega), n.2.1, if_pos (by omega)]
theorem c60 (hA : STA k p N M φ ψ own up lo U) (hB : BAS k p U w len S T) : jm_60 Q k S = some ((φ 0 : Int), S) := by
  have n := sa_num hA
  unfold jm_60
  rw [sp_if (by rw [(al_k hA).2.2.2.2.2.2.2.2.2]; omega), sp_b, show Int.toNat 0 = 0 from rfl, (cl_k hA hB).1 10 0 (by omega), n.2.2.1]
/-- one turn of the class: a node is entered -/
theorem ct_E {q : Nat} {i : Int} (hA : STA k p N M φ ψ own up lo U) (hB : BAS k p U w len S T) (hi : 0 ≤ i ∧ i < 100000000) (hb : b < M) (hc : S.1 281 2 = 4 * (b : Int)) (he : jm_136 Q (b : Int) S = some (x, S1)) : jl_122_74 Q (q + 1) 1 i S = if S1.1 281 10 = 0 then jl_122_74 Q q x (i + 1) S1 else some (2, S1) := by
  have hM := (sa_num hA).1.2.2
  obtain ⟨⟨d1, d2⟩, _⟩ := code_3 (show b < 400 by omega)
  show jb_122_74 Q _ _ _ S = _
  unfold jb_122_74
  rw [if_neg (by omega), sp_jn, if_pos (by decide)]
  try dsimp only
  rw [sp_b, hc, sp_b, d1, sp_b, sp_b, d2, sp_b, hB.2.2.1.1, sp_if (by omega), show k + 1 - 1 = k from rfl, c59 hA hB hb, sp_bd, if_pos (by decide)]
  try dsimp only
  rw [sp_jn, if_pos (by decide)]
  try dsimp only
  rw [sp_jn, if_neg (by decide)]
  try dsimp only
  rw [he, sp_bd, sp_b]
  by_cases z : S1.1 281 10 = 0
  · rw [if_pos z, if_pos z, sp_ck (by omega)]
  · rw [if_neg z, if_neg z]
/-- a round is begun -/
theorem ct_R {q : Nat} {i : Int} (hA : STA k p N M φ ψ own up lo U) (hB : BAS k p U w len S T) (hi : 0 ≤ i ∧ i < 100000000) (hb : b < M) (hc : S.1 281 2 = 4 * (b : Int) + 2) (he : jm_144 Q (b : Int) S = some (x, S1)) : jl_122_74 Q (q + 1) 1 i S = if S1.1 281 10 = 0 then jl_122_74 Q q x (i + 1) S1 else some (2, S1) := by
  have hM := (sa_num hA).1.2.2
  obtain ⟨_, _, d1, d2⟩ := code_3 (show b < 400 by omega)
  show jb_122_74 Q _ _ _ S = _
  unfold jb_122_74
  rw [if_neg (by omega), sp_jn, if_pos (by decide)]
  try dsimp only
  rw [sp_b, hc, sp_b, d1, sp_b, sp_b, d2, sp_b, hB.2.2.1.1, sp_if (by omega), show k + 1 - 1 = k from rfl, c59 hA hB hb, sp_bd, if_pos (by decide)]
  try dsimp only
  rw [sp_jn, if_pos (by decide)]
  try dsimp only
  rw [sp_jn, if_pos (by decide)]
  try dsimp only
  rw [if_pos (by decide)]
  try dsimp only
  rw [he, sp_bd, sp_b]
  by_cases z : S1.1 281 10 = 0
  · rw [if_pos z, if_pos z, sp_ck (by omega)]
  · rw [if_neg z, if_neg z]
/-- a node is left -/
theorem ct_L {q : Nat} {i : Int} (hA : STA k p N M φ ψ own up lo U) (hB : BAS k p U w len S T) (hi : 0 ≤ i ∧ i < 100000000) (hb : b < M) (hc : S.1 281 2 = 4 * (b : Int) + 1) (hn : b ≠ φ 0 ∨ 0 ≤ S.1 281 4) (he : jm_141 Q (b : Int) S = some (x, S1)) : jl_122_74 Q (q + 1) 1 i S = if S1.1 281 10 = 0 then jl_122_74 Q q x (i + 1) S1 else some (2, S1) := by
  have hM := (sa_num hA).1.2.2
  obtain ⟨_, ⟨d1, d2⟩, _⟩ := code_3 (show b < 400 by omega)
  show jb_122_74 Q _ _ _ S = _
  unfold jb_122_74
  rw [if_neg (by omega), sp_jn, if_pos (by decide)]
  try dsimp only
  rw [sp_b, hc, sp_b, d1, sp_b, sp_b, d2, sp_b, hB.2.2.1.1, sp_if (by omega), show k + 1 - 1 = k from rfl, c59 hA hB hb, sp_bd, if_pos (by decide)]
  try dsimp only
  rw [sp_jn, if_neg (by decide)]
  try dsimp only
  rw [sp_b, hB.2.2.1.1, sp_if (by omega), show k + 1 - 1 = k from rfl, c60 hA hB, sp_bd]
  have fin : (ev_jn (fun (x48 : Int) (s52 : ev_St) => ev_b (s52.1 281 10) fun x53 => if x53 = 0 then (ev_ck (i + 1) fun x55 => jl_122_74 Q q x48 x55 s52) else (some (2, s52))) fun K198 => if (1 : Int) ≠ 0 then (if (1 : Int) ≠ 1 then (ev_bd (jm_144 Q (b : Int) S) fun x59 s58 => K198 x59 s58) else (ev_bd (jm_141 Q (b : Int) S) fun x61 s60 => K198 x61 s60)) else (ev_bd (jm_136 Q (b : Int) S) fun x63 s62 => K198 x63 s62)) = if S1.1 281 10 = 0 then jl_122_74 Q q x (i + 1) S1 else some (2, S1) := by
    rw [sp_jn, if_pos (by decide)]
    try dsimp only
    rw [if_neg (by decide)]
    try dsimp only
    rw [he, sp_bd, sp_b]
    by_cases z : S1.1 281 10 = 0
    · rw [if_pos z, if_pos z, sp_ck (by omega)]
    · rw [if_neg z, if_neg z]
  by_cases y : b = φ 0
  · have f0 : 0 ≤ S.1 281 4 := hn.resolve_left (fun z => z y)
    rw [if_neg (by omega), sp_b, if_pos f0]
    exact fin
  · rw [if_pos (by omega)]
    exact fin
/-- the end -/
theorem ct_F {q : Nat} {i : Int} (hA : STA k p N M φ ψ own up lo U) (hB : BAS k p U w len S T) (hi : 0 ≤ i ∧ i < 100000000) (hc : S.1 281 2 = 4 * (φ 0 : Int) + 1) (hn : S.1 281 4 < 0) : jl_122_74 Q (q + 1) 1 i S = some (1, ev_pI S 281 12 (S.1 281 3)) := by
  have hn0 := sa_num hA
  have hb := (sa_node hA hn0.1.1).1.1
  obtain ⟨_, ⟨d1, d2⟩, _⟩ := code_3 (show φ 0 < 400 by omega)
  show jb_122_74 Q _ _ _ S = _
  unfold jb_122_74
  rw [if_neg (by omega), sp_jn, if_pos (by decide)]
  try dsimp only
  rw [sp_b, hc, sp_b, d1, sp_b, sp_b, d2, sp_b, hB.2.2.1.1, sp_if (by omega), show k + 1 - 1 = k from rfl, c59 hA hB hb, sp_bd, if_pos (by decide)]
  try dsimp only
  rw [sp_jn, if_neg (by decide)]
  try dsimp only
  rw [sp_b, hB.2.2.1.1, sp_if (by omega), show k + 1 - 1 = k from rfl, c60 hA hB, sp_bd, if_neg (fun z => z rfl)]
  try dsimp only
  rw [sp_b, if_neg (by omega)]
  try dsimp only
  rw [sp_b, sp_b]
/-- the last choice is taken up, in the same turn -/
theorem ct_off {q : Nat} {i : Int} (hi : 0 ≤ i ∧ i < 100000000) (he : jm_131 Q S = some (x, S1)) : jl_122_74 Q (q + 1) 0 i S = if x = 0 then jl_122_74 Q (q + 1) 1 i S1 else some (x, S1) := by
  show jb_122_74 Q _ _ _ S = _
  by_cases z : x = 0
  · rw [if_pos z]
    show jb_122_74 Q _ _ _ S = jb_122_74 Q _ _ _ S1
    unfold jb_122_74
    rw [if_neg (by omega), sp_jn, if_neg (by decide)]
    try dsimp only
    rw [he, sp_bd, if_pos z]
    try dsimp only
    rw [if_neg (by omega)]
    try dsimp only
    rw [sp_jn, if_pos (by decide)]
    try dsimp only
  · rw [if_neg z]
    unfold jb_122_74
    rw [if_neg (by omega), sp_jn, if_neg (by decide)]
    try dsimp only
    rw [he, sp_bd, if_neg z]
    try dsimp only
/-- turns of the reference -/
theorem rt_far {q : Nat} (hf : T.1 621 76 ≠ 0) : jl_306_68 Q (q + 1) x T = some (-2, T) := by
  show jb_306_68 Q _ _ T = _
  unfold jb_306_68
  rw [sp_jn]
  by_cases z : x = -1
  · rw [if_neg (fun y => y z), sp_b, if_pos hf]
    try dsimp only
    rw [sp_b, if_neg hf]
  · rw [if_pos z]
    try dsimp only
    rw [sp_b, if_neg hf]
theorem rt_told {q : Nat} (hf : T.1 621 76 = 0) (hx : x ≠ -1) : jl_306_68 Q (q + 1) x T = some (x, T) := by
  show jb_306_68 Q _ _ T = _
  unfold jb_306_68
  rw [sp_jn, if_pos hx]
  try dsimp only
  try dsimp only
  rw [sp_b, if_pos hf]
theorem rt_0 {q : Nat} (hf : T.1 621 76 = 0) (ht : T.1 621 78 = 0) : jl_306_68 Q (q + 1) (-1) T = jl_306_68 Q q 1 T := by
  show jb_306_68 Q _ _ T = _
  unfold jb_306_68
  rw [sp_jn, if_neg (by decide)]
  try dsimp only
  rw [sp_b, if_neg (fun y => y hf)]
  try dsimp only
  rw [sp_b, if_neg (fun y => y ht)]
  try dsimp only
theorem rt_1 {q : Nat} (hf : T.1 621 76 = 0) (ht : T.1 621 78 = 1) (he : jm_303 Q (T.1 621 80) T = some ((), T1)) : jl_306_68 Q (q + 1) (-1) T = jl_306_68 Q q (-1) T1 := by
  show jb_306_68 Q _ _ T = _
  unfold jb_306_68
  rw [sp_jn, if_neg (by decide)]
  try dsimp only
  rw [sp_b, if_neg (fun y => y hf)]
  try dsimp only
  rw [sp_b, ht, if_pos (by decide)]
  try dsimp only
  rw [sp_b, if_neg (by decide)]
  try dsimp only
  rw [sp_b, he, sp_bd]
theorem rt_2 {q : Nat} (hf : T.1 621 76 = 0) (ht : T.1 621 78 = 2) (he : jm_299 Q (T.1 621 80) T = some ((), T1)) : jl_306_68 Q (q + 1) (-1) T = jl_306_68 Q q (-1) T1 := by
  show jb_306_68 Q _ _ T = _
  unfold jb_306_68
  rw [sp_jn, if_neg (by decide)]
  try dsimp only
  rw [sp_b, if_neg (fun y => y hf)]
  try dsimp only
  rw [sp_b, ht, if_pos (by decide)]
  try dsimp only
  rw [sp_b, if_pos (by decide)]
  try dsimp only
  rw [sp_b, if_neg (by decide)]
  try dsimp only
  rw [sp_b, he, sp_bd]
theorem rt_4 {q : Nat} (hf : T.1 621 76 = 0) (ht : T.1 621 78 = 4) (he : jm_304 Q T = some ((), T1)) : jl_306_68 Q (q + 1) (-1) T = jl_306_68 Q q (-1) T1 := by
  show jb_306_68 Q _ _ T = _
  unfold jb_306_68
  rw [sp_jn, if_neg (by decide)]
  try dsimp only
  rw [sp_b, if_neg (fun y => y hf)]
  try dsimp only
  rw [sp_b, ht, if_pos (by decide)]
  try dsimp only
  rw [sp_b, if_pos (by decide)]
  try dsimp only
  rw [sp_b, if_pos (by decide)]
  try dsimp only
  rw [sp_b, if_pos (by decide)]
  try dsimp only
  rw [sp_b, if_neg (by decide)]
  try dsimp only
  rw [he, sp_bd]
theorem rt_5 {q : Nat} (hf : T.1 621 76 = 0) (ht : T.1 621 78 = 5) (he : jm_305 Q T = some (x, T1)) : jl_306_68 Q (q + 1) (-1) T = jl_306_68 Q q x T1 := by
  show jb_306_68 Q _ _ T = _
  unfold jb_306_68
  rw [sp_jn, if_neg (by decide)]
  try dsimp only
  rw [sp_b, if_neg (fun y => y hf)]
  try dsimp only
  rw [sp_b, ht, if_pos (by decide)]
  try dsimp only
  rw [sp_b, if_pos (by decide)]
  try dsimp only
  rw [sp_b, if_pos (by decide)]
  try dsimp only
  rw [sp_b, if_pos (by decide)]
  try dsimp only
  rw [sp_b, if_pos (by decide)]
  try dsimp only
  rw [sp_b, if_neg (by decide)]
  try dsimp only
  rw [he, sp_bd]
theorem rt_6 {q : Nat} (hf : T.1 621 76 = 0) (ht : T.1 621 78 = 6) (he : jm_301 Q (T.1 621 80) T = some ((), T1)) : jl_306_68 Q (q + 1) (-1) T = jl_306_68 Q q (-1) T1 := by
  show jb_306_68 Q _ _ T = _
  unfold jb_306_68
  rw [sp_jn, if_neg (by decide)]
  try dsimp only
  rw [sp_b, if_neg (fun y => y hf)]
  try dsimp only
  rw [sp_b, ht, if_pos (by decide)]
  try dsimp only
  rw [sp_b, if_pos (by decide)]
  try dsimp only
  rw [sp_b, if_pos (by decide)]
  try dsimp only
  rw [sp_b, if_pos (by decide)]
  try dsimp only
  rw [sp_b, if_pos (by decide)]
  try dsimp only
  rw [sp_b, if_pos (by decide)]
  try dsimp only
  rw [sp_b, if_neg (by decide)]
  try dsimp only
  rw [sp_b, he, sp_bd]
/-- what a start comes to -/
def RESs (Q : Nat) (x0 rc rr : Int) (S2 T2 : ev_St) : Prop := (rr = -2 ∧ S2.1 281 10 ≠ 0) ∨ (S2.1 281 10 = 0 ∧ T2.1 621 76 = 0 ∧ (∃ n : Nat, n ≤ 1000 ∧ S2.1 281 14 = (n : Int) ∧ T2.1 621 75 = (n : Int)) ∧ ((rc = 1 ∧ rr = 1 ∧ FND Q x0 S2 T2) ∨ (rc = 3 ∧ rr = 2) ∨ (rc = 4 ∧ rr = 3 ∧ S2.1 281 13 = T2.1 621 77) ∨ (rc = 2 ∧ rr = 0)))
/-- both machines from here on: the class within n turns, the reference within m -/
def GZ (Q : Nat) (x0 : Int) (n m : Nat) (o : Int) (S T : ev_St) : Prop := ∀ q q2 i : Nat, n < q → m < q2 → i + n < 100000000 → ∃ rc rr S2 T2, jl_122_74 Q q o (i : Int) S = some (rc, S2) ∧ jl_306_68 Q q2 (-1) T = some (rr, T2) ∧ RESs Q x0 rc rr S2 T2
theorem GZ_le (h : GZ Q x0 n m o S T) (hn : n ≤ n2) (hm : m ≤ m2) : GZ Q x0 n2 m2 o S T := fun q q2 i h1 h2 h3 => h q q2 i (by omega) (by omega) (by omega)
theorem GZ_c (h : GZ Q x0 n m o1 S1 T) (ht : ∀ (q : Nat) (i : Int), 0 ≤ i → i < 100000000 → jl_122_74 Q (q + 1) o i S = jl_122_74 Q q o1 (i + 1) S1) : GZ Q x0 (n + 1) m o S T := fun q q2 i h1 h2 h3 => by
  obtain ⟨q, rfl⟩ : ∃ r, q = r + 1 := ⟨q - 1, by omega⟩
  obtain ⟨rc, rr, S2, T2, a1, a2, a3⟩ := h q q2 (i + 1) (by omega) h2 (by omega)
  exact ⟨rc, rr, S2, T2, by rw [ht q i (by omega) (by omega)]; exact a1, a2, a3⟩
theorem GZ_r (h : GZ Q x0 n m o S T1) (ht : ∀ q : Nat, jl_306_68 Q (q + 1) (-1) T = jl_306_68 Q q (-1) T1) : GZ Q x0 n (m + 1) o S T := fun q q2 i h1 h2 h3 => by
  obtain ⟨q2, rfl⟩ : ∃ r, q2 = r + 1 := ⟨q2 - 1, by omega⟩
  obtain ⟨rc, rr, S2, T2, a1, a2, a3⟩ := h q q2 i h1 (by omega) h3
  exact ⟨rc, rr, S2, T2, a1, by rw [ht q2]; exact a2, a3⟩
theorem GZ_off (h : GZ Q x0 n m 1 S1 T) (he : jm_131 Q S = some (0, S1)) : GZ Q x0 n m 0 S T := fun q q2 i h1 h2 h3 => by
  obtain ⟨q, rfl⟩ : ∃ r, q = r + 1 := ⟨q - 1, by omega⟩
  obtain ⟨rc, rr, S2, T2, a1, a2, a3⟩ := h (q + 1) q2 i h1 h2 h3
  exact ⟨rc, rr, S2, T2, by rw [ct_off ⟨by omega, by omega⟩ he, if_pos rfl]; exact a1, a2, a3⟩
theorem GZ_far (h1 : S1.1 281 10 ≠ 0) (h2 : T.1 621 76 ≠ 0) (ht : ∀ (q : Nat) (i : Int), 0 ≤ i → i < 100000000 → jl_122_74 Q (q + 1) o i S = some (2, S1)) : GZ Q x0 n m o S T := fun q q2 i a1 a2 a3 => by
  obtain ⟨q, rfl⟩ : ∃ r, q = r + 1 := ⟨q - 1, by omega⟩
  obtain ⟨q2, rfl⟩ : ∃ r, q2 = r + 1 := ⟨q2 - 1, by omega⟩
  exact ⟨2, -2, S1, T, ht q i (by omega) (by omega), rt_far h2, Or.inl ⟨rfl, h1⟩⟩
/-- a step, on both sides -/
def stq (T : ev_St) (n : Nat) : ev_St := ev_pI (ev_pI T 621 75 ((n + 1 : Nat) : Int)) 621 76 (if n < 1000 then 0 else 1)
theorem rf_stq (hn : T.1 621 75 = (n : Int)) (hb : n ≤ 100000) (hf : T.1 621 76 = 0) : jm_290 Q T = some ((), stq T n) := by
  unfold stq
  by_cases z : n < 1000
  · rw [if_pos z]
    exact (rf_step hn hb hf).1 z
  · rw [if_neg z]
    exact (rf_step hn hb hf).2 (by omega)
end OPZE
