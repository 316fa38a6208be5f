/-! SEARCH: the class enters a node -/
section OPZO
variable {Q k p N M m n h us u w len b v j : Nat} {φ ψ own up lo : Nat → Nat} {S S1 S2 T U : ev_St} {c f g : Int} {x x0 l d : Nat}
/-- what is done with a node behind its step -/
def R136 (Q : Nat) (a0 : Int) (x3 : Int) (s6 : ev_St) : Option (Int × ev_St) := (ev_bd (jm_61 Q x3 s6) fun x10 s9 => if x10 = 0 then (if x3 = 0 then (ev_b (s9.2.2.1 281 0) fun r13 => ev_if (r13 ≠ 0) (ev_if ((0 : Int) ≤ a0 ∧ a0 < (ev_aln (((r13 - 1) + 7)) : Int)) (ev_b (s9.1 (((r13 - 1) + 7)) (Int.toNat a0)) fun x15 => ev_b (ev_pI s9 281 2 x15) fun s16 => ev_b (s16.1 281 3) fun x17 => ev_ck (x17 + 1) fun x18 => ev_b (ev_pI s16 281 3 x18) fun s19 => ev_b (s19.2.2.1 281 0) fun r20 => ev_if (r20 ≠ 0) (ev_if ((0 : Int) ≤ a0 ∧ a0 < (ev_aln (((r20 - 1) + 8)) : Int)) (ev_b (s19.2.1 (((r20 - 1) + 8)) (Int.toNat a0)) fun y22 => ev_b (s19.2.2.1 281 0) fun r23 => ev_if (r23 ≠ 0) (ev_if ((0 : Int) ≤ a0 ∧ a0 < (ev_aln (((r23 - 1) + 9)) : Int)) (ev_b (s19.2.1 (((r23 - 1) + 9)) (Int.toNat a0)) fun y25 => ev_b (s19.2.2.1 281 1) fun r26 => ev_b (s19.1 281 3) fun x27 => ev_ck (x27 - 1) fun x28 => ev_if (r26 ≠ 0) (ev_bd (jm_151 Q ((r26 - 1)) x28 s19) fun x31 s30 => ev_bd (jm_214 Q y22 y25 x31 s30) fun x33 s32 => ev_if (ev_bl x33) (some (x33, s32)))))))))) else (if x3 = 1 ∨ x3 = 2 ∨ x3 = 3 ∨ x3 = 4 ∨ x3 = 5 ∨ x3 = 6 then (ev_bd (jm_140 Q a0 s9) fun x37 s36 => ev_if (ev_bl x37) (some (x37, s36))) else (if x3 = 7 then (ev_bd (jm_137 Q a0 s9) fun x41 s40 => ev_if (ev_bl x41) (some (x41, s40))) else (if x3 = 8 then (ev_bd (jm_138 Q a0 s9) fun x45 s44 => ev_if (ev_bl x45) (some (x45, s44))) else (if x3 = 9 then (ev_bd (jm_139 Q a0 s9) fun x49 s48 => ev_if (ev_bl x49) (some (x49, s48))) else (if x3 = 10 then (some (0, s9)) else (if x3 = 11 ∨ x3 = 12 then (ev_jn (fun (x53 : Int) (s57 : ev_St) => ev_b (s57.1 281 4) fun x58 => ev_bd (jm_130 Q x53 0 x58 s57) fun _ s59 => ev_b (s59.2.2.1 281 0) fun r60 => ev_if (r60 ≠ 0) (ev_if ((0 : Int) ≤ a0 ∧ a0 < (ev_aln (((r60 - 1) + 7)) : Int)) (ev_b (s59.1 (((r60 - 1) + 7)) (Int.toNat a0)) fun x62 => ev_b (ev_pI s59 281 2 x62) fun s63 => some (1, s63)))) fun K280 => if x3 ≠ 11 then (K280 3 s9) else (K280 2 s9)) else (if x3 = 13 ∨ x3 = 14 then (ev_b (s9.1 281 4) fun x66 => ev_b (s9.1 281 3) fun x67 => ev_bd (jm_124 Q x66 0 0 x67 s9) fun x69 s68 => ev_b (ev_pI s68 281 4 x69) fun s70 => ev_bd (jm_143 Q a0 s70) fun x72 s71 => ev_if (ev_bl x72) (some (x72, s71))) else (if x3 = 15 then (ev_b (s9.2.2.1 281 0) fun r75 => ev_if (r75 ≠ 0) (ev_if ((0 : Int) ≤ a0 ∧ a0 < (ev_aln (((r75 - 1) + 5)) : Int)) (ev_b (s9.1 (((r75 - 1) + 5)) (Int.toNat a0)) fun x77 => ev_jn (fun  (s81 : ev_St) => ev_b (s81.2.2.1 281 0) fun r82 => ev_if (r82 ≠ 0) (ev_if ((0 : Int) ≤ a0 ∧ a0 < (ev_aln (((r82 - 1) + 6)) : Int)) (ev_b (s81.1 (((r82 - 1) + 6)) (Int.toNat a0)) fun x84 => ev_b (ev_pI s81 281 2 x84) fun s85 => some (1, s85)))) fun K361 => if x77 < 0 then (K361  s9) else (ev_b (s9.2.2.1 281 0) fun r87 => ev_if (r87 ≠ 0) (ev_if ((0 : Int) ≤ a0 ∧ a0 < (ev_aln (((r87 - 1) + 5)) : Int)) (ev_b (s9.1 (((r87 - 1) + 5)) (Int.toNat a0)) fun x89 => ev_ck (4 * x89) fun x90 => ev_ck (x90 + 0) fun x91 => ev_b (s9.1 281 4) fun x92 => ev_bd (jm_130 Q 0 x91 x92 s9) fun _ s93 => K361  s93)))))) else (ev_bd (jm_140 Q a0 s9) fun x95 s94 => ev_if (ev_bl x95) (some (x95, s94)))))))))))) else (ev_b (s9.2.2.1 281 0) fun r97 => ev_if (r97 ≠ 0) (ev_if ((0 : Int) ≤ a0 ∧ a0 < (ev_aln (((r97 - 1) + 7)) : Int)) (ev_b (s9.1 (((r97 - 1) + 7)) (Int.toNat a0)) fun x99 => ev_b (ev_pI s9 281 2 x99) fun s100 => ev_b (s100.2.2.1 281 1) fun r101 => ev_b (s100.1 281 3) fun x102 => ev_if (r101 ≠ 0) (ev_bd (jm_155 Q ((r101 - 1)) x3 x102 s100) fun x105 s104 => ev_if (ev_bl x105) (some (x105, s104)))))))
theorem e_st (hA : STA k p N M φ ψ own up lo U) (hB : BAS k p U w len S T) (hb : b < M) (hN : CN S c (x : Int) f g us h n (x0 : Int)) (hn : n < 1000) (hk : U.1 (k + 1) b ≠ 17 ∧ U.1 (k + 1) b ≠ 18) : ∃ Z, jm_136 Q (b : Int) S = R136 Q (b : Int) (U.1 (k + 1) b) Z ∧ AC us h S Z ∧ CN Z c (x : Int) f g us h (n + 1) (x0 : Int) := by
  refine ⟨_, ?_, AC_i AC_r, CN_14 hN⟩
  unfold jm_136
  rw [rdk (j := 1) hA hB hb (by omega), if_pos hk.1]
  try dsimp only
  rw [if_pos hk.2]
  try dsimp only
  rw [(cs_step hN.2.2.2.2.1).1 hn, sp_bd, if_pos (by decide)]
  rfl
theorem j61 {y : Int} : (1 ≤ y ∧ y ≤ 6 → jm_61 Q y S = some (1, S)) ∧ (¬ (1 ≤ y ∧ y ≤ 6) → jm_61 Q y S = some (0, S)) := by
  unfold jm_61
  refine ⟨fun z => by rw [if_neg (by omega), if_neg (by omega)], fun z => ?_⟩
  by_cases z1 : y < 1
  · rw [if_pos z1]
  · rw [if_neg z1, if_pos (by omega)]
/-- a sign of the text, -1 outside -/
def txa (U : ev_St) (w len : Nat) (y : Int) : Int := if 0 ≤ y ∧ y < (len : Int) then U.1 (w + 1) y.toNat else -1
theorem c151 {y : Int} (hw : ev_isOb w 10 = true ∧ w < 280 ∧ U.1 w 1 = (len : Int) ∧ len ≤ 160) (hB : BAS k p U w len S T) : jm_151 Q w y S = some (txa U w len y, S) := by
  obtain ⟨w1, w2, w3, w4⟩ := hw
  have e1 : S.1 w 1 = (len : Int) := by rw [hB.1.1 w 1 (by omega) (by omega)]; exact w3
  have e2 : ∀ g, S.1 (w + 1) g = U.1 (w + 1) g := fun g => hB.1.1 (w + 1) g (by omega) (by omega)
  rw [sp_151 w1 (by omega)]
  unfold sp_at txa
  rw [e1, e2]
theorem if0or1 {P : Prop} [Decidable P] : (if P then (1 : Int) else 0) = 0 ∨ (if P then (1 : Int) else 0) = 1 := by
  by_cases z : P
  · rw [if_pos z]
    exact Or.inr rfl
  · rw [if_neg z]
    exact Or.inl rfl
theorem e_set (hA : STA k p N M φ ψ own up lo U) (hB : BAS k p U w len S T) (hw : ev_isOb w 10 = true ∧ w < 280 ∧ U.1 w 1 = (len : Int) ∧ len ≤ 160) (hb : b < M) (hN : CN S c (x : Int) f g us h n (x0 : Int)) (hx : x ≤ len) : ∃ S1, R136 Q (b : Int) 0 S = some (cs (U.2.1 (k + 8) b) (U.2.1 (k + 9) b) (txa U w len (x : Int)), S1) ∧ AC us h S S1 ∧ CN S1 (U.1 (k + 7) b) ((x + 1 : Nat) : Int) f g us h n (x0 : Int) := by
  obtain ⟨X, hX⟩ : ∃ X, X = ev_pI S 281 2 (U.1 (k + 7) b) := ⟨_, rfl⟩
  have cX : CN X (U.1 (k + 7) b) (x : Int) f g us h n (x0 : Int) := by
    rw [hX]
    exact CN_2 hN
  obtain ⟨Y, hY⟩ : ∃ Y, Y = ev_pI X 281 3 ((x + 1 : Nat) : Int) := ⟨_, rfl⟩
  have cY : CN Y (U.1 (k + 7) b) ((x + 1 : Nat) : Int) f g us h n (x0 : Int) := by
    rw [hY]
    exact CN_3 cX
  have aY : AC us h S Y := by
    rw [hY, hX]
    exact AC_i (AC_i AC_r)
  have bY : BAS k p U w len Y T := BAS_m hB aY (AR_r (vs := 0) (h := h) (ls := 0))
  refine ⟨Y, ?_, aY, cY⟩
  have bl : ev_bl (cs (U.2.1 (k + 8) b) (U.2.1 (k + 9) b) (txa U w len (x : Int))) := by
    unfold cs
    exact if0or1
  unfold R136
  rw [j61.2 (by decide), sp_bd, if_pos rfl]
  try dsimp only
  rw [if_pos rfl]
  try dsimp only
  rw [rdk (j := 7) hA hB hb (by omega), sp_b, ← hX, sp_b, cX.1.2.1, sp_ck (by omega), show (x : Int) + 1 = ((x + 1 : Nat) : Int) from by omega, sp_b, ← hY, rdkL (j := 8) hA bY hb (by omega), rdkL (j := 9) hA bY hb (by omega), sp_b, bY.2.2.1.2, sp_b, cY.1.2.1, sp_ck (by omega), sp_if (by omega), show w + 1 - 1 = w from rfl, show ((x + 1 : Nat) : Int) - 1 = (x : Int) from by omega, c151 hw bY, sp_bd, sp_214, sp_bd, sp_if bl]
/-- the ends, the boundaries, by the reference's kinds -/
def edge (U : ev_St) (w len : Nat) (kd md : Int) (x : Nat) : Int := if kd = 1 ∨ kd = 3 then (if x = 0 ∨ (kd = 1 ∧ 0 < md ∧ txa U w len ((x : Int) - 1) = 10) then 1 else 0) else if kd = 2 ∨ kd = 4 then (if x = len ∨ (kd = 2 ∧ 0 < md ∧ txa U w len (x : Int) = 10) then 1 else 0) else if kd = 5 then (if ch_w (txa U w len ((x : Int) - 1)) = ch_w (txa U w len (x : Int)) then 0 else 1) else (if ch_w (txa U w len ((x : Int) - 1)) = ch_w (txa U w len (x : Int)) then 1 else 0)
theorem e_155 {kd md : Int} (hw : ev_isOb w 10 = true ∧ w < 280 ∧ U.1 w 1 = (len : Int) ∧ len ≤ 160) (hB : BAS k p U w len S T) (hx : x ≤ len) (hk : 1 ≤ kd ∧ kd ≤ 6) (hm : 0 ≤ md) : jm_155 Q w (kcl kd md) (x : Int) S = some (edge U w len kd md x, S) := by
  have w2 := hw.2.1
  have e1 : S.1 w 1 = (len : Int) := by rw [hB.1.1 w 1 (by omega) (by omega)]; exact hw.2.2.1
  have cc := fun y => c151 (Q := Q) (y := y) hw hB
  have first : (if (x : Int) ≠ 0 then some (0, S) else some (1, S)) = some ((if x = 0 then (1 : Int) else 0), S) := by
    by_cases z : x = 0
    · rw [if_neg (by omega), if_pos z]
    · rw [if_pos (by omega), if_neg z]
  have last : (ev_b (S.1 w 1) fun x10 => if (x : Int) ≠ x10 then some (0, S) else some (1, S)) = some ((if x = len then (1 : Int) else 0), S) := by
    rw [sp_b, e1]
    by_cases z : x = len
    · rw [if_neg (by omega), if_pos z]
    · rw [if_pos (by omega), if_neg z]
  obtain rfl | rfl | rfl | rfl | rfl | rfl : kd = 1 ∨ kd = 2 ∨ kd = 3 ∨ kd = 4 ∨ kd = 5 ∨ kd = 6 := by omega
  · by_cases z : md = 0
    · have q : kcl 1 md = 1 := by rw [kcl_v.2.2.2.2.2.2.2.2.2.2.2.2.1 rfl, if_pos z]
      rw [q]
      unfold jm_155 edge
      by_cases y : x = 0
      · rw [if_pos rfl, first, if_pos y, if_pos (show (1 : Int) = 1 ∨ (1 : Int) = 3 by decide), if_pos (Or.inl y)]
      · rw [if_pos rfl, first, if_neg y, if_pos (show (1 : Int) = 1 ∨ (1 : Int) = 3 by decide), if_neg (by omega)]
    · have q : kcl 1 md = 2 := by rw [kcl_v.2.2.2.2.2.2.2.2.2.2.2.2.1 rfl, if_neg z]
      rw [q]
      unfold jm_155 edge
      rw [if_neg (by decide), if_pos rfl, if_pos (show (1 : Int) = 1 ∨ (1 : Int) = 3 by decide)]
      by_cases y : x = 0
      · rw [if_pos (by omega), if_pos (Or.inl y)]
      · rw [if_neg (by omega)]
        try dsimp only
        rw [sp_ck (by omega), cc, sp_bd]
        by_cases y2 : txa U w len ((x : Int) - 1) = 10
        · rw [if_neg (fun w => w y2), if_pos (Or.inr ⟨rfl, by omega, y2⟩)]
        · rw [if_pos y2, if_neg (fun w => w.elim y (fun w => y2 w.2.2))]
  · by_cases z : md = 0
    · have q : kcl 2 md = 3 := by rw [kcl_v.2.2.2.2.2.2.2.2.2.2.2.2.2.1 rfl, if_pos z]
      rw [q]
      unfold jm_155 edge
      by_cases y : x = len
      · rw [if_neg (by decide), if_neg (by decide), if_pos rfl, last, if_pos y, if_neg (show ¬ ((2 : Int) = 1 ∨ (2 : Int) = 3) by decide), if_pos (show (2 : Int) = 2 ∨ (2 : Int) = 4 by decide), if_pos (Or.inl y)]
      · rw [if_neg (by decide), if_neg (by decide), if_pos rfl, last, if_neg y, if_neg (show ¬ ((2 : Int) = 1 ∨ (2 : Int) = 3) by decide), if_pos (show (2 : Int) = 2 ∨ (2 : Int) = 4 by decide), if_neg (by omega)]
    · have q : kcl 2 md = 4 := by rw [kcl_v.2.2.2.2.2.2.2.2.2.2.2.2.2.1 rfl, if_neg z]
      rw [q]
      unfold jm_155 edge
      rw [if_neg (by decide)]
      try dsimp only
      rw [if_neg (by decide)]
      try dsimp only
      rw [if_neg (by decide)]
      try dsimp only
      rw [if_pos rfl]
      try dsimp only
      rw [if_neg (show ¬ ((2 : Int) = 1 ∨ (2 : Int) = 3) by decide)]
      try dsimp only
      rw [if_pos (show (2 : Int) = 2 ∨ (2 : Int) = 4 by decide)]
      try dsimp only
      rw [sp_b, e1]
      by_cases y : x = len
      · rw [if_pos (by omega), if_pos (Or.inl y)]
      · rw [if_neg (by omega)]
        try dsimp only
        rw [cc, sp_bd]
        by_cases y2 : txa U w len (x : Int) = 10
        · rw [if_neg (fun w => w y2), if_pos (Or.inr ⟨rfl, by omega, y2⟩)]
        · rw [if_pos y2, if_neg (fun w => w.elim y (fun w => y2 w.2.2))]
  · rw [kcl_v.2.2.2.2.2.2.2.2.2.2.2.2.2.2.1 rfl]
    unfold jm_155 edge
    by_cases y : x = 0
    · rw [if_pos rfl, first, if_pos y, if_pos (show (3 : Int) = 1 ∨ (3 : Int) = 3 by decide), if_pos (Or.inl y)]
    · rw [if_pos rfl, first, if_neg y, if_pos (show (3 : Int) = 1 ∨ (3 : Int) = 3 by decide), if_neg (by omega)]
  · rw [kcl_v.2.2.2.2.2.2.2.2.2.2.2.2.2.2.2.1 rfl]
    unfold jm_155 edge
    by_cases y : x = len
    · rw [if_neg (by decide), if_neg (by decide), if_pos rfl, last, if_pos y, if_neg (show ¬ ((4 : Int) = 1 ∨ (4 : Int) = 3) by decide), if_pos (show (4 : Int) = 2 ∨ (4 : Int) = 4 by decide), if_pos (Or.inl y)]
    · rw [if_neg (by decide), if_neg (by decide), if_pos rfl, last, if_neg y, if_neg (show ¬ ((4 : Int) = 1 ∨ (4 : Int) = 3) by decide), if_pos (show (4 : Int) = 2 ∨ (4 : Int) = 4 by decide), if_neg (by omega)]
  · rw [kcl_v.2.2.2.2.2.2.2.2.2.2.2.2.2.2.2.2.1 rfl]
    unfold jm_155 edge
    rw [if_neg (by decide)]
    try dsimp only
    rw [if_neg (by decide)]
    try dsimp only
    rw [if_neg (by decide)]
    try dsimp only
    rw [if_neg (by decide)]
    try dsimp only
    rw [if_pos rfl]
    try dsimp only
    rw [sp_ck (by omega), cc, sp_bd, sp_210, sp_bd, cc, sp_bd, sp_210, sp_bd, if_neg (show ¬ ((5 : Int) = 1 ∨ (5 : Int) = 3) by decide)]
    try dsimp only
    rw [if_neg (show ¬ ((5 : Int) = 2 ∨ (5 : Int) = 4) by decide)]
    try dsimp only
    rw [if_pos (show (5 : Int) = 5 from rfl)]
    by_cases y : ch_w (txa U w len ((x : Int) - 1)) = ch_w (txa U w len (x : Int))
    · rw [if_pos y, if_pos y]
    · rw [if_neg y, if_neg y]
  · rw [kcl_v.2.2.2.2.2.2.2.2.2.2.2.2.2.2.2.2.2 rfl]
    unfold jm_155 edge
    rw [if_neg (by decide)]
    try dsimp only
    rw [if_neg (by decide)]
    try dsimp only
    rw [if_neg (by decide)]
    try dsimp only
    rw [if_neg (by decide)]
    try dsimp only
    rw [if_neg (by decide)]
    try dsimp only
    rw [sp_ck (by omega), cc, sp_bd, sp_210, sp_bd, cc, sp_bd, sp_210, sp_bd, if_neg (show ¬ ((6 : Int) = 1 ∨ (6 : Int) = 3) by decide)]
    try dsimp only
    rw [if_neg (show ¬ ((6 : Int) = 2 ∨ (6 : Int) = 4) by decide)]
    try dsimp only
    rw [if_neg (show ¬ ((6 : Int) = 5) by decide)]
    by_cases y : ch_w (txa U w len ((x : Int) - 1)) = ch_w (txa U w len (x : Int))
    · rw [if_neg (fun z => z y), if_pos y]
    · rw [if_pos y, if_neg y]
theorem edge_b {kd md : Int} : edge U w len kd md x = 0 ∨ edge U w len kd md x = 1 := by
  unfold edge
  (repeat' split) <;> first | exact Or.inl rfl | exact Or.inr rfl
theorem e_edge {kd md : Int} (hA : STA k p N M φ ψ own up lo U) (hB : BAS k p U w len S T) (hw : ev_isOb w 10 = true ∧ w < 280 ∧ U.1 w 1 = (len : Int) ∧ len ≤ 160) (hb : b < M) (hN : CN S c (x : Int) f g us h n (x0 : Int)) (hx : x ≤ len) (hk : 1 ≤ kd ∧ kd ≤ 6) (hm : 0 ≤ md) : ∃ S1, R136 Q (b : Int) (kcl kd md) S = some (edge U w len kd md x, S1) ∧ AC us h S S1 ∧ CN S1 (U.1 (k + 7) b) (x : Int) f g us h n (x0 : Int) := by
  obtain ⟨X, hX⟩ : ∃ X, X = ev_pI S 281 2 (U.1 (k + 7) b) := ⟨_, rfl⟩
  have cX : CN X (U.1 (k + 7) b) (x : Int) f g us h n (x0 : Int) := by
    rw [hX]
    exact CN_2 hN
  have aX : AC us h S X := by
    rw [hX]
    exact AC_i AC_r
  have bX : BAS k p U w len X T := BAS_m hB aX (AR_r (vs := 0) (h := h) (ls := 0))
  have k6 : 1 ≤ kcl kd md ∧ kcl kd md ≤ 6 := by
    obtain rfl | rfl | rfl | rfl | rfl | rfl : kd = 1 ∨ kd = 2 ∨ kd = 3 ∨ kd = 4 ∨ kd = 5 ∨ kd = 6 := by omega
    · rw [kcl_v.2.2.2.2.2.2.2.2.2.2.2.2.1 rfl]
      split <;> omega
    · rw [kcl_v.2.2.2.2.2.2.2.2.2.2.2.2.2.1 rfl]
      split <;> omega
    · rw [kcl_v.2.2.2.2.2.2.2.2.2.2.2.2.2.2.1 rfl]
      omega
    · rw [kcl_v.2.2.2.2.2.2.2.2.2.2.2.2.2.2.2.1 rfl]
      omega
    · rw [kcl_v.2.2.2.2.2.2.2.2.2.2.2.2.2.2.2.2.1 rfl]
      omega
    · rw [kcl_v.2.2.2.2.2.2.2.2.2.2.2.2.2.2.2.2.2 rfl]
      omega
  refine ⟨X, ?_, aX, cX⟩
  unfold R136
  rw [j61.1 k6, sp_bd, if_neg (by decide)]
  try dsimp only
  rw [rdk (j := 7) hA hB hb (by omega), sp_b, ← hX, sp_b, bX.2.2.1.2, sp_b, cX.1.2.1, sp_if (by omega), show w + 1 - 1 = w from rfl, e_155 hw bX hx hk hm, sp_bd, sp_if edge_b]
theorem e_fail : R136 Q (b : Int) 10 S = some (0, S) := by
  unfold R136
  rw [j61.2 (by decide), sp_bd, if_pos rfl]
  try dsimp only
  rw [if_neg (by decide)]
  try dsimp only
  rw [if_neg (by decide)]
  try dsimp only
  rw [if_neg (by decide)]
  try dsimp only
  rw [if_neg (by decide)]
  try dsimp only
  rw [if_neg (by decide)]
  try dsimp only
  rw [if_pos rfl]
theorem e_verb {kd : Int} (hA : STA k p N M φ ψ own up lo U) (hB : BAS k p U w len S T) (hb : b < M) (hN : CN S c (x : Int) f g us h n (x0 : Int)) (hh : h + 1 ≤ 1002) (hk : kd = 11 ∨ kd = 12) : ∃ S1, R136 Q (b : Int) kd S = some (1, S1) ∧ AC us h S S1 ∧ CN S1 (U.1 (k + 7) b) (x : Int) f g us (h + 1) n (x0 : Int) ∧ CHC S1 h (if kd = 11 then 2 else 3) 0 (x : Int) f g us := by
  obtain ⟨X, x1, x2, x3, x4⟩ := k_chc (Q := Q) (y := if kd = 11 then 2 else 3) (a := 0) (th := f) hN hh
  refine ⟨ev_pI X 281 2 (U.1 (k + 7) b), ?_, AC_i x2, CN_2 x3, CHC_c x4 (AC_i (AC_r (us := us) (h := h + 1)))⟩
  have bX := BAS_m hB x2 (AR_r (T := T) (vs := 0) (h := h) (ls := 0))
  unfold R136
  rw [j61.2 (by omega), sp_bd, if_pos rfl]
  try dsimp only
  rw [if_neg (by omega)]
  try dsimp only
  rw [if_neg (by omega)]
  try dsimp only
  rw [if_neg (by omega)]
  try dsimp only
  rw [if_neg (by omega)]
  try dsimp only
  rw [if_neg (by omega)]
  try dsimp only
  rw [if_neg (by omega)]
  try dsimp only
  rw [if_pos hk]
  try dsimp only
  rw [sp_jn]
  rcases hk with rfl | rfl
  · rw [if_pos rfl] at x1
    rw [if_neg (by decide)]
    try dsimp only
    rw [sp_b, hN.1.2.2.1, x1, sp_bd, rdk (j := 7) hA bX hb (by omega), sp_b]
  · rw [if_neg (by decide)] at x1
    rw [if_pos (by decide)]
    try dsimp only
    rw [sp_b, hN.1.2.2.1, x1, sp_bd, rdk (j := 7) hA bX hb (by omega), sp_b]
theorem e_row (hA : STA k p N M φ ψ own up lo U) (hB : BAS k p U w len S T) (hb : b < M) (hN : CN S c (x : Int) f g us h n (x0 : Int)) (hh : h + 1 ≤ 1002) : (U.1 (k + 5) b = -1 → ∃ S1, R136 Q (b : Int) 15 S = some (1, S1) ∧ AC us h S S1 ∧ CN S1 (U.1 (k + 6) b) (x : Int) f g us h n (x0 : Int)) ∧ (∀ t : Nat, t < 400 → U.1 (k + 5) b = (t : Int) → ∃ S1, R136 Q (b : Int) 15 S = some (1, S1) ∧ AC us h S S1 ∧ CN S1 (U.1 (k + 6) b) (x : Int) f g us (h + 1) n (x0 : Int) ∧ CHC S1 h 0 (4 * (t : Int)) (x : Int) f g us) := by
  have pre : R136 Q (b : Int) 15 S = (ev_jn (fun (s81 : ev_St) => ev_b (s81.2.2.1 281 0) fun r82 => ev_if (r82 ≠ 0) (ev_if ((0 : Int) ≤ (b : Int) ∧ (b : Int) < (ev_aln (((r82 - 1) + 6)) : Int)) (ev_b (s81.1 (((r82 - 1) + 6)) (Int.toNat (b : Int))) fun x84 => ev_b (ev_pI s81 281 2 x84) fun s85 => some ((1 : Int), s85)))) fun K361 => if U.1 (k + 5) b < 0 then (K361 S) else (ev_b (S.2.2.1 281 0) fun r87 => ev_if (r87 ≠ 0) (ev_if ((0 : Int) ≤ (b : Int) ∧ (b : Int) < (ev_aln (((r87 - 1) + 5)) : Int)) (ev_b (S.1 (((r87 - 1) + 5)) (Int.toNat (b : Int))) fun x89 => ev_ck (4 * x89) fun x90 => ev_ck (x90 + 0) fun x91 => ev_b (S.1 281 4) fun x92 => ev_bd (jm_130 Q 0 x91 x92 S) fun _ s93 => K361 s93)))) := by
    unfold R136
    rw [j61.2 (by decide), sp_bd, if_pos rfl]
    try dsimp only
    rw [if_neg (by decide)]
    try dsimp only
    rw [if_neg (by decide)]
    try dsimp only
    rw [if_neg (by decide)]
    try dsimp only
    rw [if_neg (by decide)]
    try dsimp only
    rw [if_neg (by decide)]
    try dsimp only
    rw [if_neg (by decide)]
    try dsimp only
    rw [if_neg (by decide)]
    try dsimp only
    rw [if_neg (by decide)]
    try dsimp only
    rw [if_pos rfl]
    try dsimp only
    rw [rdk (j := 5) hA hB hb (by omega)]
  refine ⟨fun z => ?_, fun t ht z => ?_⟩
  · refine ⟨_, ?_, AC_i AC_r, CN_2 hN⟩
    rw [pre, sp_jn, if_pos (by omega)]
    try dsimp only
    rw [rdk (j := 6) hA hB hb (by omega), sp_b]
  · obtain ⟨X, x1, x2, x3, x4⟩ := k_chc (Q := Q) (y := 0) (a := 4 * (t : Int)) (th := f) hN hh
    have bX := BAS_m hB x2 (AR_r (T := T) (vs := 0) (h := h) (ls := 0))
    refine ⟨ev_pI X 281 2 (U.1 (k + 6) b), ?_, AC_i x2, CN_2 x3, CHC_c x4 (AC_i (AC_r (us := us) (h := h + 1)))⟩
    rw [pre, sp_jn, z, if_neg (by omega)]
    try dsimp only
    rw [rdk (j := 5) hA hB hb (by omega), z, sp_ck (by omega), sp_ck (by omega), sp_b, hN.1.2.2.1, show 4 * (t : Int) + 0 = 4 * (t : Int) from by omega, x1, sp_bd, rdk (j := 6) hA bX hb (by omega), sp_b]
/-- without a step: a part without number, a group -/
theorem e_plain (hA : STA k p N M φ ψ own up lo U) (hB : BAS k p U w len S T) (hb : b < M) (hN : CN S c (x : Int) f g us h n (x0 : Int)) (hk : U.1 (k + 1) b = 17) : ∃ S1, jm_136 Q (b : Int) S = some (1, S1) ∧ AC us h S S1 ∧ CN S1 (U.1 (k + 6) b) (x : Int) f g us h n (x0 : Int) := by
  refine ⟨_, ?_, AC_i AC_r, CN_2 hN⟩
  unfold jm_136
  rw [rdk (j := 1) hA hB hb (by omega), if_neg (fun y => y hk)]
  try dsimp only
  rw [rdk (j := 6) hA hB hb (by omega), sp_b]
theorem e_group (hA : STA k p N M φ ψ own up lo U) (hB : BAS k p U w len S T) (hb : b < M) (hN : CN S c (x : Int) f g us h n (x0 : Int)) (hk : U.1 (k + 1) b = 18) (hs : us + 4 ≤ 76072) (hr : ARo S us f l d) : ∃ S1, jm_136 Q (b : Int) S = some (1, S1) ∧ AC us h S S1 ∧ CN S1 (U.1 (k + 6) b) (x : Int) (us : Int) g (us + 4) h n (x0 : Int) ∧ S1.1 282 us = f ∧ S1.1 282 (us + 1) = ((256 * l + 8 * d + 1 : Nat) : Int) ∧ S1.1 282 (us + 2) = (x : Int) := by
  obtain ⟨Y, y1, y2, y3, y4, y5, y6, y7⟩ := k_push (Q := Q) (kd := 1) (q1 := (x : Int)) (q2 := 0) hN hs hr (by omega)
  obtain ⟨X, hX⟩ : ∃ X, X = ev_pI Y 281 4 (us : Int) := ⟨_, rfl⟩
  have cX : CN X c (x : Int) (us : Int) g (us + 4) h n (x0 : Int) := by
    rw [hX]
    exact CN_4 y3
  have aX : AC us h S X := by
    rw [hX]
    exact AC_i y2
  have bX := BAS_m hB aX (AR_r (T := T) (vs := 0) (h := h) (ls := 0))
  refine ⟨ev_pI X 281 2 (U.1 (k + 6) b), ?_, AC_i aX, CN_2 cX, ?_, ?_, ?_⟩
  · have y1' : jm_124 Q f 1 (x : Int) 0 S = some ((us : Int), Y) := y1
    unfold jm_136
    rw [rdk (j := 1) hA hB hb (by omega), if_pos (by omega)]
    try dsimp only
    rw [if_neg (fun y => y hk)]
    try dsimp only
    rw [sp_b, hN.1.2.2.1, sp_b, hN.1.2.1, y1', sp_bd, sp_b, ← hX, rdk (j := 6) hA bX hb (by omega), sp_b]
  · rw [rd_nk (by decide), hX, rd_nk (by decide)]
    exact y4
  · rw [rd_nk (by decide), hX, rd_nk (by decide), y5]
    rfl
  · rw [rd_nk (by decide), hX, rd_nk (by decide)]
    exact y6
/-- a look, an atomic part is begun -/
theorem e_look {kd : Int} (hA : STA k p N M φ ψ own up lo U) (hB : BAS k p U w len S T) (hb : b < M) (hN : CN S c (x : Int) f g us h n (x0 : Int)) (hk : 19 ≤ kd ∧ kd ≤ 23) (hs : us + 4 ≤ 76072) (hh : h + 1 ≤ 1002) (hr : ARo S us f l d) : (40 ≤ l → R136 Q (b : Int) kd S = some (0, S)) ∧ (l < 40 → ∃ S1, R136 Q (b : Int) kd S = some (1, S1) ∧ AC us h S S1 ∧ CN S1 (U.1 (k + 6) b) (x : Int) (us : Int) g (us + 4) (h + 1) n (x0 : Int) ∧ CHC S1 h 1 (4 * (b : Int)) (x : Int) (us : Int) g (us + 4) ∧ S1.1 282 us = f ∧ S1.1 282 (us + 1) = ((256 * (l + 1) + 8 * d + 3 : Nat) : Int) ∧ S1.1 282 (us + 2) = (x : Int) ∧ S1.1 282 (us + 3) = (h : Int)) := by
  have hM := (sa_num hA).1.2.2
  have pre : R136 Q (b : Int) kd S = ev_bd (jm_140 Q (b : Int) S) fun x95 s94 => ev_if (ev_bl x95) (some (x95, s94)) := by
    unfold R136
    rw [j61.2 (by omega), sp_bd, if_pos rfl]
    try dsimp only
    rw [if_neg (by omega)]
    try dsimp only
    rw [if_neg (by omega)]
    try dsimp only
    rw [if_neg (by omega)]
    try dsimp only
    rw [if_neg (by omega)]
    try dsimp only
    rw [if_neg (by omega)]
    try dsimp only
    rw [if_neg (by omega)]
    try dsimp only
    rw [if_neg (by omega)]
    try dsimp only
    rw [if_neg (by omega)]
    try dsimp only
    rw [if_neg (by omega)]
  have ar : ARo S us (S.1 281 4) l d := by
    rw [hN.1.2.2.1]
    exact hr
  have cr := (cs_around (Q := Q) hN.2.1 (by omega) ar).2
  refine ⟨fun z => ?_, fun z => ?_⟩
  · have e : jm_140 Q (b : Int) S = some (0, S) := by
      unfold jm_140
      rw [cr, sp_bd, if_neg (by omega)]
    rw [pre, e, sp_bd, sp_if (Or.inl rfl)]
  · obtain ⟨Y, y1, y2, y3, y4, y5, y6, y7⟩ := k_push (Q := Q) (kd := 3) (q1 := (x : Int)) (q2 := (h : Int)) hN hs hr (by omega)
    obtain ⟨X, hX⟩ : ∃ X, X = ev_pI Y 281 4 (us : Int) := ⟨_, rfl⟩
    have cX : CN X c (x : Int) (us : Int) g (us + 4) h n (x0 : Int) := by
      rw [hX]
      exact CN_4 y3
    have aX : AC us h S X := by
      rw [hX]
      exact AC_i y2
    obtain ⟨Z, z1, z2, z3, z4⟩ := k_chc (Q := Q) (y := 1) (a := 4 * (b : Int)) (th := (us : Int)) cX hh
    have aZ : AC us h S Z := AC_tr aX z2 (by omega) (Nat.le_refl h)
    have bZ := BAS_m hB aZ (AR_r (T := T) (vs := 0) (h := h) (ls := 0))
    have rz : ∀ i, i < 4 → Z.1 282 (us + i) = Y.1 282 (us + i) := fun i hi => by
      rw [z2.1 _ (by omega), hX, rd_nk (by decide)]
    refine ⟨ev_pI Z 281 2 (U.1 (k + 6) b), ?_, AC_i aZ, CN_2 z3, CHC_c z4 (AC_i (AC_r (us := us) (h := h + 1))), ?_, ?_, ?_, ?_⟩
    · have y1' : jm_124 Q f 3 (x : Int) (h : Int) S = some ((us : Int), Y) := y1
      have e : jm_140 Q (b : Int) S = some (1, ev_pI Z 281 2 (U.1 (k + 6) b)) := by
        unfold jm_140
        rw [cr, sp_bd, if_pos (by omega)]
        try dsimp only
        rw [sp_b, hN.1.2.2.1, sp_b, hN.1.2.1, sp_b, hN.2.2.1, y1', sp_bd, sp_b, ← hX, sp_ck (by omega), sp_b, cX.1.2.2.1, z1, sp_bd, rdk (j := 6) hA bZ hb (by omega), sp_b]
      rw [pre, e, sp_bd, sp_if (Or.inr rfl)]
    · rw [rd_nk (by decide), show Z.1 282 us = Y.1 282 us from rz 0 (by omega)]
      exact y4
    · rw [rd_nk (by decide), rz 1 (by omega), y5]
      show ((256 * l + 8 * d + 256 + 3 : Nat) : Int) = _
      omega
    · rw [rd_nk (by decide), rz 2 (by omega)]
      exact y6
    · rw [rd_nk (by decide), rz 3 (by omega)]
      exact y7
end OPZO
