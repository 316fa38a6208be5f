/-! SEARCH: the class leaves a node -/
section OPZH
variable {Q k p N M m n h us u w len b : Nat} {φ ψ own up lo : Nat → Nat} {S S1 S2 T U : ev_St} {c x f g x0 : Int}
/-- the class's numbers -/
def CN (S : ev_St) (c x f g : Int) (us h n : Nat) (x0 : Int) : Prop := (S.1 281 2 = c ∧ S.1 281 3 = x ∧ S.1 281 4 = f ∧ S.1 281 5 = g) ∧ (S.1 281 7 = (us : Int) ∧ S.1 281 9 = (h : Int) ∧ S.1 281 10 = 0 ∧ S.1 281 14 = (n : Int) ∧ S.1 281 11 = x0)
theorem l_plain (hA : STA k p N M φ ψ own up lo U) (hB : BAS k p U w len S T) (hb : b < M) (hN : CN S c x f g us h n x0) (hk : U.1 (k + 1) b = 17 ∨ U.1 (k + 1) b = 8) : ∃ S1, jm_141 Q (b : Int) S = some (1, S1) ∧ AC us h S S1 ∧ CN S1 (U.1 (k + 7) b) x f g us h n x0 := by
  refine ⟨ev_pI S 281 2 (U.1 (k + 7) b), ?_, AC_i AC_r, ⟨rd_eq, hN.1.2⟩, hN.2⟩
  unfold jm_141
  rw [rdk (j := 1) hA hB hb (by omega), sp_jn]
  rcases hk with y | y
  · rw [if_pos y]
    try dsimp only
    rw [rdk (j := 7) hA hB hb (by omega), sp_b]
  · rw [if_neg (by omega)]
    try dsimp only
    rw [if_neg (by omega)]
    try dsimp only
    rw [rdk (j := 7) hA hB hb (by omega), sp_b]
theorem l_span (hA : STA k p N M φ ψ own up lo U) (hB : BAS k p U w len S T) (hb : b < M) (hN : CN S c x (u : Int) g us h n x0) (hu : u + 4 ≤ us) (hs : us + 4 ≤ 76072) (hk : U.1 (k + 1) b = 18) {l d : Nat} (hl : l ≤ 40) (hd : d ≤ 20) (ht : S.1 282 (u + 1) = ((256 * l + 8 * d + 1 : Nat) : Int)) : ∃ S1, jm_141 Q (b : Int) S = some (1, S1) ∧ AC us h S S1 ∧ CN S1 (U.1 (k + 7) b) x (S.1 282 u) (us : Int) (us + 4) h n x0 ∧ S1.1 282 us = g ∧ S1.1 282 (us + 1) = U.1 (k + 2) b ∧ S1.1 282 (us + 2) = S.1 282 (u + 2) ∧ S1.1 282 (us + 3) = x := by
  obtain ⟨⟨n2, n3, n4, n5⟩, n7, n9, n10, n14, n11⟩ := hN
  obtain ⟨X, hX⟩ : ∃ X, X = ev_pI (pCell S us g (U.1 (k + 2) b) (S.1 282 (u + 2)) x) 281 5 (us : Int) := ⟨_, rfl⟩
  have aX : AC us h S X := by
    rw [hX]
    exact AC_i (AC_c AC_r (Nat.le_refl _))
  have bX : BAS k p U w len X T := BAS_m hB aX (AR_r (vs := 0) (h := h) (ls := 0))
  obtain ⟨Y, hY⟩ : ∃ Y, Y = ev_pI X 281 2 (U.1 (k + 7) b) := ⟨_, rfl⟩
  have aY : AC us h S Y := by
    rw [hY]
    exact AC_i aX
  have y4 : Y.1 281 4 = (u : Int) := by
    rw [hY, hX]
    exact n4
  have pr := pCell_r (S := S) (u := us) (o := g) (t := U.1 (k + 2) b) (a := S.1 282 (u + 2)) (b := x) (i := 0)
  refine ⟨ev_pI Y 281 4 (S.1 282 u), ?_, AC_i aY, ⟨⟨?_, ?_, rd_eq, ?_⟩, ?_, ?_, ?_, ?_, ?_⟩, ?_, ?_, ?_, ?_⟩
  · unfold jm_141
    rw [rdk (j := 1) hA hB hb (by omega), sp_jn, if_neg (by omega)]
    try dsimp only
    rw [if_pos (by omega)]
    try dsimp only
    rw [sp_b, n4, (cs_is n7 (by omega)).2 (by omega) (by omega), sp_bd, if_pos (by decide)]
    try dsimp only
    rw [sp_jn, if_neg (by omega)]
    try dsimp only
    rw [if_pos (by omega)]
    try dsimp only
    rw [if_pos (by omega)]
    try dsimp only
    rw [sp_b, n4, rdc1 (by omega), sp_b, ht, (tag_8 hl (by omega) (by omega)).2, sp_jn, if_pos (by decide)]
    try dsimp only
    rw [sp_b, rdk (j := 2) hA hB hb (by omega), sp_b, rdc2 (by omega), sp_b, n5, n3, cs_cell n7 hs, sp_bd, sp_b, ← hX, rdk (j := 7) hA bX hb (by omega), sp_b, ← hY, sp_b, y4, rdc0 (by omega), sp_b, aY.1 u (by omega)]
  · rw [rd_nf (by decide), hY, rd_eq]
  · rw [hY, hX]
    exact n3
  · rw [hY, hX]
    rfl
  · rw [hY, hX]
    rfl
  · rw [hY, hX]
    exact n9
  · rw [hY, hX]
    exact n10
  · rw [hY, hX]
    exact n14
  · rw [hY, hX]
    exact n11
  · rw [rd_nk (by decide), hY, rd_nk (by decide), hX, rd_nk (by decide)]
    exact pr.1.1
  · rw [rd_nk (by decide), hY, rd_nk (by decide), hX, rd_nk (by decide)]
    exact pr.1.2.1
  · rw [rd_nk (by decide), hY, rd_nk (by decide), hX, rd_nk (by decide)]
    exact pr.1.2.2.1
  · rw [rd_nk (by decide), hY, rd_nk (by decide), hX, rd_nk (by decide)]
    exact pr.1.2.2.2
theorem l_call (hA : STA k p N M φ ψ own up lo U) (hB : BAS k p U w len S T) (hb : b < M) (hN : CN S c x (u : Int) g us h n x0) (hu : u + 4 ≤ us) (hs : us ≤ 76072) (hk : U.1 (k + 1) b = 18 ∨ U.1 (k + 1) b = 16) {l d : Nat} (hl : l ≤ 40) (hd : d ≤ 20) (ht : S.1 282 (u + 1) = ((256 * l + 8 * d + 2 : Nat) : Int)) : ∃ S1, jm_141 Q (b : Int) S = some (1, S1) ∧ AC us h S S1 ∧ CN S1 (S.1 282 (u + 2)) x (S.1 282 u) (S.1 282 (u + 3)) us h n x0 := by
  obtain ⟨⟨n2, n3, n4, n5⟩, n7, n9, n10, n14, n11⟩ := hN
  obtain ⟨X, hX⟩ : ∃ X, X = ev_pI S 281 2 (S.1 282 (u + 2)) := ⟨_, rfl⟩
  have x4 : X.1 281 4 = (u : Int) := by
    rw [hX]
    exact n4
  have x3 : ∀ i, X.1 282 i = S.1 282 i := fun i => by
    rw [hX]
    rfl
  obtain ⟨Y, hY⟩ : ∃ Y, Y = ev_pI X 281 5 (S.1 282 (u + 3)) := ⟨_, rfl⟩
  have y4 : Y.1 281 4 = (u : Int) := by
    rw [hY]
    exact x4
  have y3 : ∀ i, Y.1 282 i = S.1 282 i := fun i => by
    rw [hY]
    exact x3 i
  refine ⟨ev_pI Y 281 4 (S.1 282 u), ?_, ?_, ⟨⟨?_, ?_, rd_eq, ?_⟩, ?_, ?_, ?_, ?_, ?_⟩⟩
  · unfold jm_141
    rw [rdk (j := 1) hA hB hb (by omega), sp_jn, if_neg (by omega)]
    try dsimp only
    rw [if_pos (by omega)]
    try dsimp only
    rw [sp_b, n4, (cs_is n7 (by omega)).2 (by omega) (by omega), sp_bd, if_pos (by decide)]
    try dsimp only
    rw [sp_jn, if_neg (by omega)]
    try dsimp only
    rw [if_pos (by omega)]
    try dsimp only
    rw [if_pos (by omega)]
    try dsimp only
    rw [sp_b, n4, rdc1 (by omega), sp_b, ht, (tag_8 hl (by omega) (by omega)).2, sp_jn, if_neg (by decide)]
    try dsimp only
    rw [sp_b, rdc2 (by omega), sp_b, ← hX, sp_b, x4, rdc3 (by omega), x3, sp_b, ← hY, sp_b, y4, rdc0 (by omega), y3, sp_b]
  · rw [hY, hX]
    exact AC_i (AC_i (AC_i AC_r))
  · rw [hY, hX]
    rfl
  · rw [hY, hX]
    exact n3
  · rw [hY]
    rfl
  · rw [hY, hX]
    exact n7
  · rw [hY, hX]
    exact n9
  · rw [hY, hX]
    exact n10
  · rw [hY, hX]
    exact n14
  · rw [hY, hX]
    exact n11
/-- a look, an atomic part ends -/
theorem l_look {y hh : Nat} {kd : Int} (hA : STA k p N M φ ψ own up lo U) (hB : BAS k p U w len S T) (hb : b < M) (hN : CN S c x (u : Int) g us h n x0) (hu : u + 4 ≤ us) (hs : us ≤ 76072) (hk : U.1 (k + 1) b = kd) (hk2 : 19 ≤ kd ∧ kd ≤ 23) (h2 : S.1 282 (u + 2) = (y : Int)) (h3 : S.1 282 (u + 3) = (hh : Int)) : (22 ≤ kd ∧ x ≠ (y : Int) ∧ jm_141 Q (b : Int) S = some (0, S)) ∨ ((22 ≤ kd → x = (y : Int)) ∧ ((kd = 21 ∨ kd = 23) ∧ ∃ S1, jm_141 Q (b : Int) S = some (0, S1) ∧ AC us h S S1 ∧ CN S1 c x (u : Int) g us hh n x0) ∨ ((22 ≤ kd → x = (y : Int)) ∧ (kd = 19 ∨ kd = 20 ∨ kd = 22) ∧ ∃ S1, jm_141 Q (b : Int) S = some (1, S1) ∧ AC us h S S1 ∧ CN S1 (U.1 (k + 7) b) (if kd = 19 then x else (y : Int)) (S.1 282 u) g us hh n x0)) := by
  obtain ⟨⟨n2, n3, n4, n5⟩, n7, n9, n10, n14, n11⟩ := hN
  have st : jm_141 Q (b : Int) S = ev_bd (jm_142 Q (b : Int) S) fun x63 s62 => ev_if (ev_bl x63) (some (x63, s62)) := by
    unfold jm_141
    rw [rdk (j := 1) hA hB hb (by omega), sp_jn, if_neg (by omega)]
    try dsimp only
    rw [if_pos (by omega)]
    try dsimp only
    rw [sp_b, n4, (cs_is n7 (by omega)).2 (by omega) (by omega), sp_bd, if_pos (by decide)]
    try dsimp only
    rw [sp_jn, if_neg (by omega)]
    try dsimp only
    rw [if_pos (by omega)]
    try dsimp only
    rw [if_neg (by omega)]
  by_cases z : 22 ≤ kd ∧ x ≠ (y : Int)
  · refine Or.inl ⟨z.1, z.2, ?_⟩
    have e : jm_142 Q (b : Int) S = some (0, S) := by
      unfold jm_142
      rw [rdk (j := 1) hA hB hb (by omega), sp_b, n4, rdc2 (by omega), sp_jn, hk, if_neg (by omega)]
      try dsimp only
      rw [sp_b, n3, h2, if_neg z.2]
    rw [st, e, sp_bd, sp_if (Or.inl rfl)]
  have z2 : 22 ≤ kd → x = (y : Int) := fun y1 => Classical.byContradiction fun y2 => z ⟨y1, y2⟩
  obtain ⟨X, hX⟩ : ∃ X, X = ev_pI S 281 9 (hh : Int) := ⟨_, rfl⟩
  have aX : AC us h S X := by
    rw [hX]
    exact AC_i AC_r
  have bX : ∀ Z, AC us h S Z → BAS k p U w len Z T := fun Z q => BAS_m hB q (AR_r (vs := 0) (h := h) (ls := 0))
  have e : jm_142 Q (b : Int) S = (if kd = 21 then (some (0, X)) else (if kd ≠ 23 then (ev_jn (fun (x21 : Int) (s25 : ev_St) => ev_b (ev_pI s25 281 3 x21) fun s26 => ev_b (s26.1 281 4) fun x27 => ev_if ((0 : Int) ≤ x27 ∧ x27 < (ev_aln 282 : Int)) (ev_b (s26.1 282 (Int.toNat x27)) fun x28 => ev_b (ev_pI s26 281 4 x28) fun s29 => ev_b (s29.2.2.1 281 0) fun r30 => ev_if (r30 ≠ 0) (ev_if ((0 : Int) ≤ (b : Int) ∧ (b : Int) < (ev_aln (((r30 - 1) + 7)) : Int)) (ev_b (s29.1 (((r30 - 1) + 7)) (Int.toNat (b : Int))) fun x32 => ev_b (ev_pI s29 281 2 x32) fun s33 => some (1, s33))))) fun K82 => if kd ≠ 19 then (K82 (y : Int) X) else (ev_b (X.1 281 3) fun x35 => K82 x35 X)) else (some (0, X)))) := by
    unfold jm_142
    rw [rdk (j := 1) hA hB hb (by omega), sp_b, n4, rdc2 (by omega), sp_jn, hk, h2]
    by_cases w : kd < 22
    · rw [if_pos w]
      try dsimp only
      rw [sp_b, n4, rdc3 (by omega), h3, sp_b, ← hX]
    · rw [if_neg w]
      try dsimp only
      rw [sp_b, n3, if_pos (z2 (by omega))]
      try dsimp only
      rw [sp_b, n4, rdc3 (by omega), h3, sp_b, ← hX]
  have cX : CN X c x (u : Int) g us hh n x0 := by
    rw [hX]
    exact ⟨⟨n2, n3, n4, n5⟩, n7, rd_eq, n10, n14, n11⟩
  by_cases w : kd = 21 ∨ kd = 23
  · refine Or.inr (Or.inl ⟨z2, w, X, ?_, aX, cX⟩)
    rw [st, e]
    rcases w with w | w
    · rw [if_pos w]
      try dsimp only
      rw [sp_bd, sp_if (Or.inl rfl)]
    · rw [if_neg (by omega)]
      try dsimp only
      rw [if_neg (by omega)]
      try dsimp only
      rw [sp_bd, sp_if (Or.inl rfl)]
  · refine Or.inr (Or.inr ⟨z2, by omega, ?_⟩)
    obtain ⟨Y, hY⟩ : ∃ Y, Y = ev_pI X 281 3 (if kd = 19 then x else (y : Int)) := ⟨_, rfl⟩
    have y4 : Y.1 281 4 = (u : Int) := by
      rw [hY]
      exact cX.1.2.2.1
    have aY : AC us h S Y := by
      rw [hY]
      exact AC_i aX
    obtain ⟨Z, hZ⟩ : ∃ Z, Z = ev_pI Y 281 4 (S.1 282 u) := ⟨_, rfl⟩
    have aZ : AC us h S Z := by
      rw [hZ]
      exact AC_i aY
    refine ⟨ev_pI Z 281 2 (U.1 (k + 7) b), ?_, AC_i aZ, ⟨⟨rd_eq, ?_, ?_, ?_⟩, ?_, ?_, ?_, ?_, ?_⟩⟩
    · rw [st, e, if_neg (by omega)]
      try dsimp only
      rw [if_pos (by omega)]
      try dsimp only
      rw [sp_jn]
      by_cases v : kd = 19
      · rw [if_neg (by omega)]
        try dsimp only
        rw [sp_b, cX.1.2.1]
        rw [if_pos v] at hY
        try dsimp only
        rw [sp_b, ← hY, sp_b, y4, rdc0 (by omega), aY.1 u (by omega), sp_b, ← hZ, rdk (j := 7) hA (bX Z aZ) hb (by omega), sp_b, sp_bd, sp_if (Or.inr rfl)]
      · rw [if_pos v]
        rw [if_neg v] at hY
        try dsimp only
        rw [sp_b, ← hY, sp_b, y4, rdc0 (by omega), aY.1 u (by omega), sp_b, ← hZ, rdk (j := 7) hA (bX Z aZ) hb (by omega), sp_b, sp_bd, sp_if (Or.inr rfl)]
    · rw [rd_nf (by decide), hZ, rd_nf (by decide), hY, rd_eq]
    · rw [rd_nf (by decide), hZ, rd_eq]
    · rw [hZ, hY]
      exact cX.1.2.2.2
    · rw [hZ, hY]
      exact cX.2.1
    · rw [hZ, hY]
      exact cX.2.2.1
    · rw [hZ, hY]
      exact cX.2.2.2.1
    · rw [hZ, hY]
      exact cX.2.2.2.2.1
    · rw [hZ, hY]
      exact cX.2.2.2.2.2
end OPZH
