/-! LITERAL: the reference's walk, turn by turn -/
section OPYE
variable {Q k n m p d q : Nat} {U T0 : ev_St} {a B st pos r s : Int} {t u : Nat}
abbrev lwJ9 (Q : Nat) (a : Int) (p q : Nat) (B st pos r x12 x13 : Int) (U : ev_St) : Option (Int × ev_St) := jl_279_60 Q a q (320 * (p : Int)) B st pos r x12 x13 U
theorem al660 : ev_aln 660 = 320 ∧ ev_aln 661 = 322 := by decide +kernel
theorem r_pop (hd : d < 320) : lwJ9 Q a p (q + 1) B st pos r ((d + 1 : Nat) : Int) (-1) U = lwJ9 Q a p q B st pos r (d : Int) (U.1 660 d) U := by
  obtain ⟨l60, _⟩ := al660
  show jb_279_60 Q _ _ _ _ _ _ _ _ _ U = _
  unfold jb_279_60
  rw [sp_jn, if_neg (fun z => z rfl), if_neg (by omega)]
  try dsimp only
  rw [if_neg (fun z => z rfl), sp_ck (by omega), show ((d + 1 : Nat) : Int) + -1 = (d : Int) from by omega, sp_if (by rw [l60]; omega), sp_b, Int.toNat_natCast]
theorem r_fin (ha : 0 ≤ a) (hB : 0 ≤ st ∧ st + B ≤ 322) : lwJ9 Q a p (q + 1) B st pos r 0 (-1) U = some (if a < B then U.1 661 (st + a).toNat else -1, U) := by
  obtain ⟨_, l61⟩ := al660
  show jb_279_60 Q _ _ _ _ _ _ _ _ _ U = _
  unfold jb_279_60
  rw [sp_jn, if_neg (fun z => z rfl), if_pos (Int.le_refl 0)]
  by_cases y : B ≤ a
  · rw [if_pos y, if_neg (by omega)]
  · rw [if_neg y, if_pos (by omega), sp_ck (by omega), sp_if (by rw [l61]; omega), sp_b]
/-- a part of one row, not repeated -/
def opN (p : Nat) (T0 : ev_St) (m : Nat) : Prop := (T0.1 625 (320 * p + m) = 8 ∨ T0.1 625 (320 * p + m) = 9 ∨ T0.1 625 (320 * p + m) = 10) ∧ T0.1 630 (320 * p + m) = -1 ∧ T0.1 627 (320 * p + (T0.1 626 (320 * p + m)).toNat) = -1
theorem r_stA (hp : p < 12) (hm : m < 320) (ha : AG0 p T0 U) (h1 : T0.1 625 (320 * p + m) = 0 ∧ T0.1 630 (320 * p + m) = -1 → jm_278 Q ((320 * p + m : Nat) : Int) U = some (s, U)) (h2 : ¬ (T0.1 625 (320 * p + m) = 0 ∧ T0.1 630 (320 * p + m) = -1) → s = -1) (JJ : Int → Int → ev_St → Option (Int × ev_St)) : ev_jn JJ (fun K129 => ev_jn (fun (x171 : Int) (s182 : ev_St) => K129 x171 (-1) s182) fun K128 => if U.1 625 (320 * p + m) ≠ 0 then (K128 ((320 * p + m : Nat) : Int) U) else (ev_if ((0 : Int) ≤ ((320 * p + m : Nat) : Int) ∧ ((320 * p + m : Nat) : Int) < (ev_aln 630 : Int)) (ev_b (U.1 630 (320 * p + m)) fun x184 => if x184 ≠ (-1) then (K128 ((320 * p + m : Nat) : Int) U) else (ev_bd (jm_278 Q ((320 * p + m : Nat) : Int) U) fun x187 s186 => K129 ((320 * p + m : Nat) : Int) x187 s186)))) = JJ ((320 * p + m : Nat) : Int) s U := by
  have l30 := al_K.2.2.2.2.2.1
  have e25 := ha.1 625 m (by omega) hm
  have e30 := ha.1 630 m (by omega) hm
  rw [sp_jn, sp_jn, e25]
  by_cases y : T0.1 625 (320 * p + m) = 0
  · rw [if_neg (fun z => z y), sp_if (by rw [l30]; omega), sp_b, e30]
    by_cases y2 : T0.1 630 (320 * p + m) = -1
    · rw [if_neg (fun z => z y2), h1 ⟨y, y2⟩, sp_bd]
    · rw [if_pos y2, h2 (fun z => y2 z.2)]
  · rw [if_pos y, h2 (fun z => y z.1)]
theorem r_stB (hp : p < 12) (hm : m < 320) (ha : AG0 p T0 U) (hc : T0.1 625 (320 * p + m) = 8 ∨ T0.1 625 (320 * p + m) = 9 ∨ T0.1 625 (320 * p + m) = 10 → ∃ t : Nat, T0.1 626 (320 * p + m) = (t : Int) ∧ t < 320) (JJ : Int → Int → ev_St → Option (Int × ev_St)) : (opN p T0 m → ev_jn JJ (fun K178 => ev_jn (fun (x151 : Int) (s163 : ev_St) => K178 x151 0 s163) fun K177 => if (if T0.1 625 (320 * p + m) = 8 ∨ T0.1 625 (320 * p + m) = 9 ∨ T0.1 625 (320 * p + m) = 10 then (1 : Int) else 0) = 0 then (K177 s U) else (ev_if ((0 : Int) ≤ ((320 * p + m : Nat) : Int) ∧ ((320 * p + m : Nat) : Int) < (ev_aln 630 : Int)) (ev_b (U.1 630 (320 * p + m)) fun x165 => if x165 ≠ (-1) then (K177 s U) else (ev_if ((0 : Int) ≤ ((320 * p + m : Nat) : Int) ∧ ((320 * p + m : Nat) : Int) < (ev_aln 626 : Int)) (ev_b (U.1 626 (320 * p + m)) fun x167 => ev_ck (320 * (p : Int) + x167) fun x168 => ev_if ((0 : Int) ≤ x168 ∧ x168 < (ev_aln 627 : Int)) (ev_b (U.1 627 (Int.toNat x168)) fun x169 => if x169 ≠ (-1) then (K177 s U) else (K178 s 1 U))))))) = JJ s 1 U) ∧ (¬ opN p T0 m → ev_jn JJ (fun K178 => ev_jn (fun (x151 : Int) (s163 : ev_St) => K178 x151 0 s163) fun K177 => if (if T0.1 625 (320 * p + m) = 8 ∨ T0.1 625 (320 * p + m) = 9 ∨ T0.1 625 (320 * p + m) = 10 then (1 : Int) else 0) = 0 then (K177 s U) else (ev_if ((0 : Int) ≤ ((320 * p + m : Nat) : Int) ∧ ((320 * p + m : Nat) : Int) < (ev_aln 630 : Int)) (ev_b (U.1 630 (320 * p + m)) fun x165 => if x165 ≠ (-1) then (K177 s U) else (ev_if ((0 : Int) ≤ ((320 * p + m : Nat) : Int) ∧ ((320 * p + m : Nat) : Int) < (ev_aln 626 : Int)) (ev_b (U.1 626 (320 * p + m)) fun x167 => ev_ck (320 * (p : Int) + x167) fun x168 => ev_if ((0 : Int) ≤ x168 ∧ x168 < (ev_aln 627 : Int)) (ev_b (U.1 627 (Int.toNat x168)) fun x169 => if x169 ≠ (-1) then (K177 s U) else (K178 s 1 U))))))) = JJ s 0 U) := by
  obtain ⟨l25, l26, l27, l28, _, l30, l31, l32, _⟩ := al_K
  have e30 := ha.1 630 m (by omega) hm
  have e26 := ha.1 626 m (by omega) hm
  rw [sp_jn, sp_jn, e30, e26]
  unfold opN
  by_cases y : T0.1 625 (320 * p + m) = 8 ∨ T0.1 625 (320 * p + m) = 9 ∨ T0.1 625 (320 * p + m) = 10
  · rw [if_pos y, if_neg (by decide), sp_if (by rw [l30]; omega), sp_b]
    by_cases y2 : T0.1 630 (320 * p + m) = -1
    · obtain ⟨t, t1, t2⟩ := hc y
      have e27 := ha.1 627 t (by omega) t2
      rw [if_neg (fun z => z y2), sp_if (by rw [l26]; omega), sp_b, t1, sp_ck (by omega), sp_if (by rw [l27]; omega), sp_b, show (320 * (p : Int) + (t : Int)).toNat = 320 * p + t from by omega, e27, Int.toNat_natCast]
      by_cases y3 : T0.1 627 (320 * p + t) = -1
      · rw [if_neg (fun z => z y3)]
        exact ⟨fun _ => rfl, fun z => absurd ⟨y, y2, y3⟩ z⟩
      · rw [if_pos y3]
        exact ⟨fun z => absurd z.2.2 y3, fun _ => rfl⟩
    · rw [if_pos y2]
      exact ⟨fun z => absurd z.2.1 y2, fun _ => rfl⟩
  · rw [if_neg y, if_pos rfl]
    exact ⟨fun z => absurd z.1 y, fun _ => rfl⟩
theorem r_open (hp : p < 12) (hm : m < 320) (hd : d < 320) (ha : AG0 p T0 U) (ho : opN p T0 m) (ht : T0.1 626 (320 * p + m) = (t : Int)) (ht2 : t < 320) : lwJ9 Q a p (q + 1) B st pos r (d : Int) (m : Int) U = lwJ9 Q a p q B st pos r ((d + 1 : Nat) : Int) (T0.1 626 (320 * p + t)) (ev_pI U 660 d (T0.1 627 (320 * p + m))) := by
  obtain ⟨l25, l26, l27, l28, _, l30, l31, l32, _⟩ := al_K
  obtain ⟨l60, l61⟩ := al660
  have e25 := ha.1 625 m (by omega) hm
  have e26 := ha.1 626 m (by omega) hm
  have e26t := ha.1 626 t (by omega) ht2
  have e27 := ha.1 627 m (by omega) hm
  show jb_279_60 Q _ _ _ _ _ _ _ _ _ U = _
  unfold jb_279_60
  rw [sp_jn, if_pos (by omega)]
  try dsimp only
  rw [if_pos (by omega), sp_ck (by omega), show 320 * (p : Int) + (m : Int) = ((320 * p + m : Nat) : Int) from by omega, sp_if (by rw [l25]; omega), sp_b, show Int.toNat ((320 * p + m : Nat) : Int) = 320 * p + m from Int.toNat_natCast _, r_stA (s := -1) hp hm ha (fun z => by have := ho.1; omega) (fun _ => rfl)]
  try dsimp only
  rw [sp_if (by rw [l25]; omega), sp_b, show Int.toNat ((320 * p + m : Nat) : Int) = 320 * p + m from Int.toNat_natCast _, e25, sp_267, sp_bd, (r_stB (s := -1) hp hm ha (fun _ => ⟨t, ht, ht2⟩) _).1 ho]
  try dsimp only
  rw [sp_jn, if_neg (by decide), sp_if (by rw [l27]; omega), sp_b, sp_if (by rw [l60]; omega), sp_b, Int.toNat_natCast, e27, sp_ck (by omega), show (d : Int) + 1 = ((d + 1 : Nat) : Int) from by omega, sp_if (by rw [l26]; omega), sp_b, rd_nk (by decide), e26, ht, sp_ck (by omega), sp_if (by rw [l26]; omega), sp_b, rd_nk (by decide), show (320 * (p : Int) + (t : Int)).toNat = 320 * p + t from by omega, e26t]
/-- a node that isn't gone into -/
theorem r_node {P2 r2 : Int} (hp : p < 12) (hm : m < 320) (ha : AG0 p T0 U) (ho : ¬ opN p T0 m) (hc : T0.1 625 (320 * p + m) = 8 ∨ T0.1 625 (320 * p + m) = 9 ∨ T0.1 625 (320 * p + m) = 10 → ∃ t : Nat, T0.1 626 (320 * p + m) = (t : Int) ∧ t < 320) (h1 : T0.1 625 (320 * p + m) = 0 ∧ T0.1 630 (320 * p + m) = -1 → jm_278 Q ((320 * p + m : Nat) : Int) U = some (s, U)) (h2 : ¬ (T0.1 625 (320 * p + m) = 0 ∧ T0.1 630 (320 * p + m) = -1) → s = -1) (hpos : 0 ≤ pos ∧ pos < 322) (hr : 0 ≤ r ∧ r ≤ 1000) (hP : P2 = if s ≠ -1 then pos + 1 else pos) (hr2 : r2 = if s ≠ -1 then r + 1 else 0) : lwJ9 Q a p (q + 1) B st pos r (d : Int) (m : Int) U = lwJ9 Q a p q (if r2 ≤ B then B else r2) (if r2 ≤ B then st else P2 - r2) P2 r2 (d : Int) (T0.1 627 (320 * p + m)) (ev_pI U 661 pos.toNat s) := by
  obtain ⟨l25, l26, l27, l28, _, l30, l31, l32, _⟩ := al_K
  obtain ⟨l60, l61⟩ := al660
  have e25 := ha.1 625 m (by omega) hm
  have e27 := ha.1 627 m (by omega) hm
  show jb_279_60 Q _ _ _ _ _ _ _ _ _ U = _
  unfold jb_279_60
  rw [sp_jn, if_pos (by omega)]
  try dsimp only
  rw [if_pos (by omega), sp_ck (by omega), show 320 * (p : Int) + (m : Int) = ((320 * p + m : Nat) : Int) from by omega, sp_if (by rw [l25]; omega), sp_b, show Int.toNat ((320 * p + m : Nat) : Int) = 320 * p + m from Int.toNat_natCast _, r_stA (s := s) hp hm ha h1 h2]
  try dsimp only
  rw [sp_if (by rw [l25]; omega), sp_b, show Int.toNat ((320 * p + m : Nat) : Int) = 320 * p + m from Int.toNat_natCast _, e25, sp_267, sp_bd, (r_stB (s := s) hp hm ha hc _).2 ho]
  try dsimp only
  rw [sp_jn, if_pos rfl, sp_if (by rw [l61]; omega), sp_b, sp_jn]
  have tl : ∀ JJ : Int → Int → ev_St → Option (Int × ev_St), ev_jn JJ (fun K260 => if s ≠ -1 then (ev_ck (r + 1) fun x143 => K260 P2 x143 (ev_pI U 661 pos.toNat s)) else (K260 P2 0 (ev_pI U 661 pos.toNat s))) = JJ P2 r2 (ev_pI U 661 pos.toNat s) := fun JJ => by
    rw [sp_jn, hr2]
    by_cases y : s ≠ -1
    · rw [if_pos y, if_pos y, sp_ck (by omega)]
    · rw [if_neg y, if_neg y]
  have tm : ∀ JJ : Int → Int → ev_St → Option (Int × ev_St), ev_jn JJ (fun K279 => if r2 ≤ B then (K279 r2 st (ev_pI U 661 pos.toNat s)) else (ev_ck (P2 - r2) fun x141 => K279 r2 x141 (ev_pI U 661 pos.toNat s))) = JJ r2 (if r2 ≤ B then st else P2 - r2) (ev_pI U 661 pos.toNat s) := fun JJ => by
    have b2 : (0 ≤ r2 ∧ r2 ≤ 1001) ∧ 0 ≤ P2 ∧ P2 ≤ 322 := by
      rw [hP, hr2]
      split <;> omega
    rw [sp_jn]
    by_cases y : r2 ≤ B
    · rw [if_pos y, if_pos y]
    · rw [if_neg y, if_neg y, sp_ck (by omega)]
  have tn : ∀ (JJ : Int → Int → ev_St → Option (Int × ev_St)) (z : Int), ev_jn JJ (fun K295 => if r2 ≤ B then (K295 z B (ev_pI U 661 pos.toNat s)) else (K295 z r2 (ev_pI U 661 pos.toNat s))) = JJ z (if r2 ≤ B then B else r2) (ev_pI U 661 pos.toNat s) := fun JJ z => by
    rw [sp_jn]
    by_cases y : r2 ≤ B
    · rw [if_pos y, if_pos y]
    · rw [if_neg y, if_neg y]
  have go : ∀ x89 : Int, x89 + pos = P2 → (ev_ck (pos + x89) fun x101 => ev_jn (fun (x102 : Int) (x103 : Int) (s113 : ev_St) => ev_jn (fun (x114 : Int) (x115 : Int) (s125 : ev_St) => ev_jn (fun (x126 : Int) (x127 : Int) (s137 : ev_St) => ev_if ((0 : Int) ≤ ((320 * p + m : Nat) : Int) ∧ ((320 * p + m : Nat) : Int) < (ev_aln 627 : Int)) (ev_b (s137.1 627 (320 * p + m)) fun x138 => lwJ9 Q a p q x127 x126 x102 x114 (d : Int) x138 s137)) fun K295 => if x114 ≤ B then (K295 x115 B s125) else (K295 x115 x114 s125)) fun K279 => if x103 ≤ B then (K279 x103 st s113) else (ev_ck (x102 - x103) fun x141 => K279 x103 x141 s113)) fun K260 => if s ≠ (-1) then (ev_ck (r + 1) fun x143 => K260 x101 x143 (ev_pI U 661 pos.toNat s)) else (K260 x101 0 (ev_pI U 661 pos.toNat s))) = lwJ9 Q a p q (if r2 ≤ B then B else r2) (if r2 ≤ B then st else P2 - r2) P2 r2 (d : Int) (T0.1 627 (320 * p + m)) (ev_pI U 661 pos.toNat s) := fun x89 hx => by
    have b2 : 0 ≤ P2 ∧ P2 ≤ 322 := by
      rw [hP]
      split <;> omega
    rw [sp_ck (by omega), show pos + x89 = P2 from by omega, tl]
    try dsimp only
    rw [tm]
    try dsimp only
    rw [tn]
    try dsimp only
    rw [sp_if (by rw [l27]; omega), sp_b, rd_nk (by decide), e27]
  by_cases y : s ≠ -1
  · rw [if_pos y] at hP
    rw [if_pos y]
    exact go 1 (by omega)
  · rw [if_neg y] at hP
    rw [if_neg y]
    exact go 0 (by omega)
end OPYE
