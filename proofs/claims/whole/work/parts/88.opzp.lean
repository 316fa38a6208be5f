/-! SEARCH: what a group has, conditions, calls: the class; what a group has: both -/
section OPZP
variable {Q k p N M m n h us u w len b v j vs ls ng : Nat} {φ ψ own up lo : Nat → Nat} {S S1 S2 T T1 U : ev_St} {c f g a had th dp td nd fl : Int} {x x0 l d : Nat}
theorem gl_one (hG : GL S T us ls ng (S.1 281 5) (T.1 621 82)) (hu : S.1 281 7 = (us : Int)) (h2 : us ≤ 76072) (hl : ng ≤ ls ∧ (ls = 0 ∨ 4 * ls + 4 ≤ us)) (hQ : 20000 ≤ Q) : ∃ x2 y2 : Int, jm_129 Q a S = some (x2, S) ∧ (∀ T2, (∀ c v, c = 696 ∨ c = 699 → v < ls → T2.1 c v = T.1 c v) → T2.1 621 82 = T.1 621 82 → jm_294 Q a T2 = some (y2, T2)) ∧ ((x2 = -1 ∧ y2 = -1) ∨ ∃ u v : Nat, x2 = (u : Int) ∧ y2 = (v : Int) ∧ u + 4 ≤ us ∧ v < ls ∧ S.1 282 (u + 2) = T.1 697 v ∧ S.1 282 (u + 3) = T.1 698 v ∧ (0 ≤ T.1 697 v ∧ T.1 697 v ≤ 160) ∧ (T.1 697 v ≤ T.1 698 v ∧ T.1 698 v ≤ T.1 621 73 ∧ T.1 698 v ≤ 160)) := by
  obtain ⟨y2, x2, w1, w2, w3⟩ := gl_walk (Q := Q) (a := a) hu h2 (show ls ≤ 30000 by omega) ng Q Q 0 _ _ hG (by omega) (by omega) (by omega)
  refine ⟨x2, y2, ?_, fun T2 q1 q2 => ?_, w3⟩
  · unfold jm_129
    rw [sp_b]
    exact w1
  · unfold jm_294
    rw [sp_b, q2]
    exact w2 T2 q1
/-- a call: the class -/
theorem e_call {v : Nat} (hA : STA k p N M φ ψ own up lo U) (hB : BAS k p U w len S T) (hb : b < M) (hN : CN S c (x : Int) f g us h n (x0 : Int)) (hj : j < 10) (h2 : U.1 (k + 2) b = (j : Int)) (hv : v < M) (h10 : U.1 (k + 10) j = (v : Int)) (hs : us + 4 ≤ 76072) (hr : ARo S us f l d) : (20 ≤ d → R136 Q (b : Int) 9 S = some (0, S)) ∧ (d < 20 → ∃ S1, R136 Q (b : Int) 9 S = some (1, S1) ∧ AC us h S S1 ∧ CN S1 (U.1 (k + 6) v) (x : Int) (us : Int) g (us + 4) h n (x0 : Int) ∧ S1.1 282 us = f ∧ S1.1 282 (us + 1) = ((256 * l + 8 * (d + 1) + 2 : Nat) : Int) ∧ S1.1 282 (us + 2) = U.1 (k + 7) b ∧ S1.1 282 (us + 3) = g) := by
  have al := (al_k hA).2.2.2.2.2.2.2.2.2
  have pre : R136 Q (b : Int) 9 S = ev_bd (jm_139 Q (b : Int) S) fun x49 s48 => ev_if (ev_bl x49) (some (x49, s48)) := by
    unfold R136
    rw [j61.2 (by omega), sp_bd, if_pos rfl]
    try dsimp only
    rw [if_neg (by decide)]
    try dsimp only
    rw [if_neg (by decide)]
    try dsimp only
    rw [if_neg (by decide)]
    try dsimp only
    rw [if_neg (by decide)]
    try dsimp only
    rw [if_pos rfl]
  have ar : ARo S us (S.1 281 4) l d := by
    rw [hN.1.2.2.1]
    exact hr
  have cr := (cs_around (Q := Q) hN.2.1 (by omega) ar).1
  have p2 : jm_139 Q (b : Int) S = (fun (x4 : Int) (s8 : ev_St) => ev_bd (jm_127 Q s8) fun x10 s9 => if 20 ≤ x10 then (some ((0 : Int), s9)) else (ev_b (s9.2.2.1 281 0) fun r12 => ev_if (r12 ≠ 0) (ev_bd (jm_59 Q ((r12 - 1)) x4 s9) fun x15 s14 => if x15 ≠ 0 then (ev_b (s14.1 281 4) fun x17 => ev_b (s14.2.2.1 281 0) fun r18 => ev_if (r18 ≠ 0) (ev_if ((0 : Int) ≤ (b : Int) ∧ (b : Int) < (ev_aln (((r18 - 1) + 7)) : Int)) (ev_b (s14.1 (((r18 - 1) + 7)) (Int.toNat (b : Int))) fun x20 => ev_b (s14.1 281 5) fun x21 => ev_bd (jm_124 Q x17 2 x20 x21 s14) fun x23 s22 => ev_b (ev_pI s22 281 4 x23) fun s24 => ev_b (s24.2.2.1 281 0) fun r25 => ev_if (r25 ≠ 0) (ev_if ((0 : Int) ≤ x4 ∧ x4 < (ev_aln (((r25 - 1) + 6)) : Int)) (ev_b (s24.1 (((r25 - 1) + 6)) (Int.toNat x4)) fun x27 => ev_b (ev_pI s24 281 2 x27) fun s28 => some (1, s28)))))) else (some (0, s14))))) (v : Int) S := by
    unfold jm_139
    rw [rdk (j := 2) hA hB hb (by omega), sp_jn, sp_jn, h2, if_neg (by omega)]
    try dsimp only
    rw [if_neg (by omega)]
    try dsimp only
    rw [sp_b, hB.2.2.1.1, sp_if (by omega), show k + 1 - 1 = k from rfl, al, sp_if (by omega), sp_b, Int.toNat_natCast, (cl_k hA hB).1 10 j (by omega), h10]
  refine ⟨fun z => ?_, fun z => ?_⟩
  · have e : jm_139 Q (b : Int) S = some (0, S) := by
      rw [p2]
      try dsimp only
      rw [cr, sp_bd, if_pos (by omega)]
    rw [pre, e, sp_bd, sp_if (Or.inl rfl)]
  · obtain ⟨Y, y1, y2, y3, y4, y5, y6, y7⟩ := k_push (Q := Q) (kd := 2) (q1 := U.1 (k + 7) b) (q2 := g) hN hs hr (by omega)
    have y1' : jm_124 Q f 2 (U.1 (k + 7) b) g S = some ((us : Int), Y) := y1
    obtain ⟨X, hX⟩ : ∃ X, X = ev_pI Y 281 4 (us : Int) := ⟨_, rfl⟩
    have cX : CN X c (x : Int) (us : Int) g (us + 4) h n (x0 : Int) := by
      rw [hX]
      exact CN_4 y3
    have aX : AC us h S X := by
      rw [hX]
      exact AC_i y2
    have bX := BAS_m hB aX (AR_r (T := T) (vs := 0) (h := h) (ls := 0))
    refine ⟨ev_pI X 281 2 (U.1 (k + 6) v), ?_, AC_i aX, CN_2 cX, ?_, ?_, ?_, ?_⟩
    · have e : jm_139 Q (b : Int) S = some (1, ev_pI X 281 2 (U.1 (k + 6) v)) := by
        rw [p2]
        try dsimp only
        rw [cr, sp_bd, if_neg (by omega)]
        try dsimp only
        rw [rdn hA hB hv, if_pos (by decide)]
        try dsimp only
        rw [sp_b, hN.1.2.2.1, rdk (j := 7) hA hB hb (by omega), sp_b, hN.1.2.2.2, y1', sp_bd, sp_b, ← hX, rdk (j := 6) hA bX hv (by omega), sp_b]
      rw [pre, e, sp_bd, sp_if (Or.inr rfl)]
    · rw [rd_nk (by decide), hX, rd_nk (by decide)]
      exact y4
    · rw [rd_nk (by decide), hX, rd_nk (by decide), y5]
      show ((256 * l + 8 * d + 8 + 2 : Nat) : Int) = _
      omega
    · rw [rd_nk (by decide), hX, rd_nk (by decide)]
      exact y6
    · rw [rd_nk (by decide), hX, rd_nk (by decide)]
      exact y7
/-- a condition: the class -/
theorem e_cond {v : Nat} {x2 y : Int} (hA : STA k p N M φ ψ own up lo U) (hB : BAS k p U w len S T) (hb : b < M) (hN : CN S c (x : Int) f g us h n (x0 : Int)) (hv : v < M) (h4 : U.1 (k + 4) b = (v : Int)) (h129 : jm_129 Q (U.1 (k + 2) b) S = some (x2, S)) (h5 : U.1 (k + 5) v = y) (hy : y = -1 ∨ ∃ t : Nat, y = (t : Int) ∧ t < M) : ∃ S1, R136 Q (b : Int) 8 S = some (1, S1) ∧ AC us h S S1 ∧ CN S1 (if 0 ≤ x2 then U.1 (k + 6) v else if y = -1 then U.1 (k + 7) b else U.1 (k + 6) y.toNat) (x : Int) f g us h n (x0 : Int) := by
  have hM := (sa_num hA).1.2.2
  have n59 : jm_59 Q k (-1) S = some (0, S) := by
    unfold jm_59
    rw [if_pos (by decide)]
  refine ⟨_, ?_, AC_i AC_r, CN_2 hN⟩
  have e : jm_138 Q (b : Int) S = some (1, ev_pI S 281 2 (if 0 ≤ x2 then U.1 (k + 6) v else if y = -1 then U.1 (k + 7) b else U.1 (k + 6) y.toNat)) := by
    unfold jm_138
    rw [rdk (j := 4) hA hB hb (by omega), h4, rdn hA hB hv, sp_jn, if_neg (by decide)]
    try dsimp only
    rw [rdk (j := 2) hA hB hb (by omega), h129, sp_bd]
    by_cases z : 0 ≤ x2
    · rw [if_pos z, if_pos z]
      try dsimp only
      rw [rdn hA hB hv, if_neg (by decide)]
      try dsimp only
      rw [rdk (j := 6) hA hB hv (by omega), sp_b]
    · rw [if_neg z]
      try dsimp only
      rw [if_neg z]
      try dsimp only
      rw [rdk (j := 5) hA hB hv (by omega), h5]
      try dsimp only
      rcases hy with w | ⟨t, w, w2⟩
      · rw [w, sp_b, hB.2.2.1.1, sp_if (by omega), show k + 1 - 1 = k from rfl, n59, sp_bd, if_pos rfl]
        try dsimp only
        rw [rdk (j := 7) hA hB hb (by omega), sp_b, if_pos rfl]
      · rw [w, rdn hA hB w2, if_neg (by decide)]
        try dsimp only
        rw [rdk (j := 6) hA hB w2 (by omega), sp_b, if_neg (by omega)]
        try dsimp only
        rw [Int.toNat_natCast]
  unfold R136
  rw [j61.2 (by omega), sp_bd, if_pos rfl]
  try dsimp only
  rw [if_neg (by decide)]
  try dsimp only
  rw [if_neg (by decide)]
  try dsimp only
  rw [if_neg (by decide)]
  try dsimp only
  rw [if_pos rfl]
  try dsimp only
  rw [e, sp_bd, sp_if (Or.inr rfl)]
-- what a group has
def low (c : Int) : Int := if 65 ≤ c ∧ c ≤ 90 then c + 32 else c
theorem sp_212b (h : -1 ≤ a ∧ a ≤ 127) : jm_212 Q a S = some (low a, S) := by
  unfold jm_212 low
  by_cases z1 : a < 65
  · rw [if_pos z1, if_neg (by omega)]
  · rw [if_neg z1]
    by_cases z2 : 90 < a
    · rw [if_pos z2, if_neg (by omega)]
    · rw [if_neg z2]
      try dsimp only
      rw [if_pos (by omega)]
      try dsimp only
      rw [sp_ck (by omega)]
theorem low_oth {b : Int} (h : a ≠ b) : low a = low b ↔ oth a = b := by
  unfold low oth
  constructor
  · intro z
    (repeat' split at z) <;> (repeat' split) <;> omega
  · intro z
    (repeat' split at z) <;> (repeat' split) <;> omega
def hsM (U : ev_St) (w len F x : Nat) (md : Int) (i : Nat) : Prop := txa U w len ((F + i : Nat) : Int) = txa U w len ((x + i : Nat) : Int) ∨ (md ≠ 0 ∧ 0 ≤ txa U w len ((x + i : Nat) : Int) ∧ low (txa U w len ((F + i : Nat) : Int)) = low (txa U w len ((x + i : Nat) : Int)))
theorem txa_r (hw : ∀ i, i < len → sp_sign (U.1 (w + 1) i) = 1) (y : Int) : -1 ≤ txa U w len y ∧ txa U w len y ≤ 127 ∧ (0 ≤ y ∧ y < (len : Int) → sp_sign (txa U w len y) = 1 ∧ 0 ≤ txa U w len y) ∧ (¬ (0 ≤ y ∧ y < (len : Int)) → txa U w len y = -1) := by
  unfold txa
  by_cases z : 0 ≤ y ∧ y < (len : Int)
  · have q := hw y.toNat (by omega)
    have r := sp_sign_r q
    rw [if_pos z]
    exact ⟨by omega, by omega, fun _ => ⟨q, by omega⟩, fun w => absurd z w⟩
  · rw [if_neg z]
    exact ⟨by omega, by omega, fun w => absurd w z, fun _ => rfl⟩
theorem e_hasl {F L : Nat} {md fd : Int} (hA : STA k p N M φ ψ own up lo U) (hB : BAS k p U w len S T) (hw : ev_isOb w 10 = true ∧ w < 280 ∧ U.1 w 1 = (len : Int) ∧ len ≤ 160) (hw2 : ∀ i, i < len → sp_sign (U.1 (w + 1) i) = 1) (hb : b < M) (hN : CN S c (x : Int) f g us h n (x0 : Int)) (hx : x ≤ len) (hF : F + L ≤ 160) (hfd : fd = if md = 0 then 0 else 1) : ∀ (r q i : Nat), i + r = L → r < q → ∃ e : Int, (e = 0 ∨ e = 1) ∧ (e = 1 ↔ ∀ y, i ≤ y → y < L → hsM U w len F x md y) ∧ jl_137_63 Q (b : Int) (F : Int) (L : Int) q fd (i : Int) S = some (e, if e = 1 then ev_pI (ev_pI S 281 3 ((x + L : Nat) : Int)) 281 2 (U.1 (k + 7) b) else S) := fun r => by
  have hM := (sa_num hA).1.2.2
  induction r with
  | zero =>
    intro q i h1 h2
    obtain ⟨q, rfl⟩ : ∃ r, q = r + 1 := ⟨q - 1, by omega⟩
    have bX := BAS_m hB (AC_i (AC_r (us := us) (h := h)) (f := 3) (y := ((x + L : Nat) : Int))) (AR_r (T := T) (vs := 0) (h := h) (ls := 0))
    refine ⟨1, Or.inr rfl, ⟨fun _ y y1 y2 => by omega, fun _ => rfl⟩, ?_⟩
    show jb_137_63 Q _ _ _ _ _ _ S = _
    unfold jb_137_63
    rw [if_pos (by omega)]
    try dsimp only
    rw [sp_b, hN.1.2.1, sp_ck (by omega), sp_b, show (x : Int) + (L : Int) = ((x + L : Nat) : Int) from by omega, rdk (j := 7) hA bX hb (by omega), sp_b, if_pos rfl]
  | succ r ih =>
    intro q i h1 h2
    obtain ⟨q, rfl⟩ : ∃ r, q = r + 1 := ⟨q - 1, by omega⟩
    obtain ⟨e, i1, i2, i3⟩ := ih q (i + 1) (by omega) (by omega)
    have t1 := txa_r hw2 ((F + i : Nat) : Int)
    have t2 := txa_r hw2 ((x + i : Nat) : Int)
    have on : hsM U w len F x md i → ∃ e : Int, (e = 0 ∨ e = 1) ∧ (e = 1 ↔ ∀ y, i ≤ y → y < L → hsM U w len F x md y) ∧ jl_137_63 Q (b : Int) (F : Int) (L : Int) q fd ((i + 1 : Nat) : Int) S = some (e, if e = 1 then ev_pI (ev_pI S 281 3 ((x + L : Nat) : Int)) 281 2 (U.1 (k + 7) b) else S) := fun z => by
      refine ⟨e, i1, ⟨fun y y2 y3 y4 => ?_, fun y => i2.mpr fun y2 y3 y4 => y y2 (by omega) y4⟩, i3⟩
      by_cases w : y2 = i
      · rw [w]
        exact z
      · exact i2.mp y y2 (by omega) y4
    have off : ¬ hsM U w len F x md i → ∃ e : Int, (e = 0 ∨ e = 1) ∧ (e = 1 ↔ ∀ y, i ≤ y → y < L → hsM U w len F x md y) ∧ some ((0 : Int), S) = some (e, if e = 1 then ev_pI (ev_pI S 281 3 ((x + L : Nat) : Int)) 281 2 (U.1 (k + 7) b) else S) := fun z => ⟨0, Or.inl rfl, ⟨fun y => by omega, fun y => absurd (y i (Nat.le_refl i) (by omega)) z⟩, by rw [if_neg (by decide)]⟩
    have st : jl_137_63 Q (b : Int) (F : Int) (L : Int) (q + 1) fd (i : Int) S = (if txa U w len ((F + i : Nat) : Int) = txa U w len ((x + i : Nat) : Int) then jl_137_63 Q (b : Int) (F : Int) (L : Int) q fd ((i + 1 : Nat) : Int) S else (if fd = 0 then some ((0 : Int), S) else (if txa U w len ((x + i : Nat) : Int) < 0 then some (0, S) else (if low (txa U w len ((F + i : Nat) : Int)) = low (txa U w len ((x + i : Nat) : Int)) then jl_137_63 Q (b : Int) (F : Int) (L : Int) q fd ((i + 1 : Nat) : Int) S else some (0, S))))) := by
      show jb_137_63 Q _ _ _ _ _ _ S = _
      unfold jb_137_63
      rw [if_neg (by omega)]
      try dsimp only
      rw [sp_b, hB.2.2.1.2, sp_ck (by omega), sp_if (by omega), show w + 1 - 1 = w from rfl, show (F : Int) + (i : Int) = ((F + i : Nat) : Int) from by omega, c151 hw hB, sp_bd, sp_b, hB.2.2.1.2, sp_b, hN.1.2.1, sp_ck (by omega), sp_if (by omega), show w + 1 - 1 = w from rfl, show (x : Int) + (i : Int) = ((x + i : Nat) : Int) from by omega, c151 hw hB, sp_bd, sp_jn, sp_212b ⟨t1.1, t1.2.1⟩, sp_bd, sp_212b ⟨t2.1, t2.2.1⟩, sp_bd]
      try dsimp only
      rw [sp_ck (by omega), show (i : Int) + 1 = ((i + 1 : Nat) : Int) from by omega]
    rw [st]
    by_cases z1 : txa U w len ((F + i : Nat) : Int) = txa U w len ((x + i : Nat) : Int)
    · rw [if_pos z1]
      exact on (Or.inl z1)
    · rw [if_neg z1]
      by_cases z2 : md = 0
      · rw [if_pos z2] at hfd
        rw [if_pos hfd]
        exact off fun w => w.elim z1 (fun w => w.1 z2)
      · rw [if_neg z2] at hfd
        rw [if_neg (by omega)]
        by_cases z3 : txa U w len ((x + i : Nat) : Int) < 0
        · rw [if_pos z3]
          exact off fun w => w.elim z1 (fun w => by have := w.2.1; omega)
        · rw [if_neg z3]
          by_cases z4 : low (txa U w len ((F + i : Nat) : Int)) = low (txa U w len ((x + i : Nat) : Int))
          · rw [if_pos z4]
            exact on (Or.inr ⟨z2, by omega, z4⟩)
          · rw [if_neg z4]
            exact off fun w => w.elim z1 (fun w => z4 w.2.2)
/-- what a group has stands here: told alike -/
def HASb (U : ev_St) (w len F L x : Nat) (md : Int) : Prop := x + L ≤ len ∧ ∀ y, y < L → hsM U w len F x md y
theorem HAS_c {F L : Nat} {md : Int} (hw2 : ∀ i, i < len → sp_sign (U.1 (w + 1) i) = 1) (hx : x ≤ len) (hF : F + L ≤ len) : (∀ y, 0 ≤ y → y < L → hsM U w len F x md y) ↔ HASb U w len F L x md := by
  refine ⟨fun q => ⟨?_, fun y y1 => q y (Nat.zero_le _) y1⟩, fun q y _ y1 => q.2 y y1⟩
  refine Classical.byContradiction fun z => ?_
  have l0 : len - x < L := by omega
  have t1 := (txa_r hw2 ((F + (len - x) : Nat) : Int)).2.2.1 (by omega)
  have t2 := (txa_r hw2 ((x + (len - x) : Nat) : Int)).2.2.2 (by omega)
  rcases q (len - x) (Nat.zero_le _) l0 with y | y
  · omega
  · have := y.2.1
    omega
end OPZP
