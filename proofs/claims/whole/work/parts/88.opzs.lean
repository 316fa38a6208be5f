/-! SEARCH: the reference's atoms, items, rows -/
section OPZS
variable {Q k p N M m n h us u w len b v j vs ls ng x d l : Nat} {φ ψ own up lo : Nat → Nat} {S S1 S2 T T1 U : ev_St} {c f g a had th dp td nd fl y : Int}
theorem c_stf (hT : TN T td nd (x : Int) had th dp vs h ls n 1) (hn : n ≤ 1001) : ∃ T1, jm_290 Q T = some ((), T1) ∧ AR vs h ls T T1 ∧ TN T1 td nd (x : Int) had th dp vs h ls (n + 1) 1 := by
  refine ⟨ev_pI (ev_pI T 621 75 ((n + 1 : Nat) : Int)) 621 76 1, ?_, AR_i (AR_i AR_r (by omega)) (by omega), ⟨hT.1, hT.2.1, hT.2.2.1, hT.2.2.2.1, rfl, rfl⟩⟩
  unfold jm_290
  rw [sp_b, hT.2.2.2.2.1, sp_ck (by omega), sp_b, sp_b, rd_nf (by decide), hT.2.2.2.2.2, if_pos (by decide)]
  try dsimp only
  rw [sp_b, show (n : Int) + 1 = ((n + 1 : Nat) : Int) from by omega]
theorem ta_grp (hA : STA k p N M φ ψ own up lo U) (hB : BAS k p U w len S T) (hm : m < N) (hT : TN T td nd (x : Int) had th dp vs h ls n 0) (hv : vs < 150000) (hk : U.1 625 (320 * p + m) = 8) : ∃ T1, jm_299 Q ((320 * p + m : Nat) : Int) T = some ((), T1) ∧ AR vs h ls T T1 ∧ TN T1 3 nd (x : Int) had (vs : Int) dp (vs + 1) h ls n 0 ∧ RFR T1 vs 2 ((320 * p + m : Nat) : Int) (x : Int) (-1) th dp := by
  have t1 := TN_78 (y := 5) hT
  obtain ⟨X, x1, x2, x3, x4⟩ := c_frm (Q := Q) (kd := 2) (a := ((320 * p + m : Nat) : Int)) (vv := (x : Int)) (hd := -1) (nx := th) (d2 := dp) t1 hv
  refine ⟨_, ?_, AR_i (AR_i (AR_tr (AR_i AR_r (by omega)) x2 (Nat.le_refl _) (Nat.le_refl _) (Nat.le_refl _)) (by omega)) (by omega), TN_78 (TN_83 x3), RFR_c x4 (AR_i (AR_i (AR_r (vs := vs + 1) (h := h) (ls := ls)) (by omega)) (by omega)) (by omega)⟩
  unfold jm_299
  rw [rdT hA hB hm (by omega), sp_b, if_pos (by omega)]
  try dsimp only
  rw [if_pos (by omega)]
  try dsimp only
  rw [if_pos (by omega)]
  try dsimp only
  rw [if_neg (by omega)]
  try dsimp only
  rw [sp_b, t1.1.2.2.1, sp_b, t1.1.2.2.2.2.1, sp_b, t1.1.2.2.2.2.2, x1, sp_bd, sp_b, sp_b]
theorem ta_pln (hA : STA k p N M φ ψ own up lo U) (hB : BAS k p U w len S T) (hm : m < N) (hT : TN T td nd (x : Int) had th dp vs h ls n 0) (hk : U.1 625 (320 * p + m) = 9) : ∃ T1, jm_299 Q ((320 * p + m : Nat) : Int) T = some ((), T1) ∧ AR vs h ls T T1 ∧ TN T1 3 nd (x : Int) had th dp vs h ls n 0 := by
  refine ⟨_, ?_, AR_i (AR_i AR_r (by omega)) (by omega), TN_78 (TN_78 (y := 5) hT)⟩
  unfold jm_299
  rw [rdT hA hB hm (by omega), sp_b, if_pos (by omega)]
  try dsimp only
  rw [if_pos (by omega)]
  try dsimp only
  rw [if_pos (by omega)]
  try dsimp only
  rw [if_pos (by omega)]
  try dsimp only
  rw [if_neg (by omega)]
  try dsimp only
  rw [sp_b]
/-- looks ahead, atomic parts, possessive repeats -/
theorem t_298 {a1 a2 a3 : Int} (hA : STA k p N M φ ψ own up lo U) (hB : BAS k p U w len S T) (hm : m < N) (hT : TN T td nd (x : Int) had th ((d + 64 * l : Nat) : Int) vs h ls n 0) (hn : n ≤ 1000) (hv : vs < 150000) (hh : h < 100000) (hd : d ≤ 20 ∧ l ≤ 40) : (40 ≤ l → ∃ T1, jm_298 Q ((320 * p + m : Nat) : Int) a1 a2 a3 T = some ((), T1) ∧ AR vs h ls T T1 ∧ TN T1 5 nd (x : Int) had th ((d + 64 * l : Nat) : Int) vs h ls (n + 1) (flg n)) ∧ (l < 40 → ∃ T1, jm_298 Q ((320 * p + m : Nat) : Int) a1 a2 a3 T = some ((), T1) ∧ AR vs h ls T T1 ∧ TN T1 a3 ((320 * p + m : Nat) : Int) (x : Int) had (vs : Int) ((d + 64 * (l + 1) : Nat) : Int) (vs + 1) (h + 1) ls (n + 1) (flg n) ∧ RCH T1 h a1 ((320 * p + m : Nat) : Int) (U.1 629 (320 * p + m)) (x : Int) had th ((d + 64 * l : Nat) : Int) vs ls ∧ RFR T1 vs a2 ((320 * p + m : Nat) : Int) (h : Int) (-1) th ((d + 64 * l : Nat) : Int)) := by
  obtain ⟨e1, e2, e3⟩ := c_stq (Q := Q) hT hn
  obtain ⟨Y, hY⟩ : ∃ Y, Y = stq T n := ⟨_, rfl⟩
  rw [← hY] at e1 e2 e3
  have bY := BAS_m hB (AC_r (us := 0) (h := h)) e2
  have dv : ev_idiv ((d + 64 * l : Nat) : Int) 64 = (l : Int) := by
    rw [sp_div (by omega) (by omega)]
    omega
  refine ⟨fun z => ⟨_, ?_, AR_i e2 (by omega), TN_78 e3⟩, fun z => ?_⟩
  · unfold jm_298
    rw [e1, sp_bd, sp_b, e3.1.2.2.2.2.2, sp_if (by decide), sp_b, dv, if_neg (by omega)]
    try dsimp only
    rw [sp_b]
  · obtain ⟨X, x1, x2, x3, x4⟩ := c_chc (Q := Q) (y := a1) (a := ((320 * p + m : Nat) : Int)) (c := U.1 629 (320 * p + m)) e3 hh
    obtain ⟨Z, z1, z2, z3, z4⟩ := c_frm (Q := Q) (kd := a2) (a := ((320 * p + m : Nat) : Int)) (vv := (h : Int)) (hd := -1) (nx := th) (d2 := ((d + 64 * l : Nat) : Int)) x3 hv
    have ar : AR vs h ls T Z := AR_tr (AR_tr e2 x2 (Nat.le_refl _) (Nat.le_refl _) (Nat.le_refl _)) z2 (Nat.le_refl _) (by omega) (Nat.le_refl _)
    refine ⟨ev_pI (ev_pI (ev_pI (ev_pI Z 621 83 (vs : Int)) 621 84 ((d + 64 * (l + 1) : Nat) : Int)) 621 80 ((320 * p + m : Nat) : Int)) 621 78 a3, ?_, AR_i (AR_i (AR_i (AR_i ar (by omega)) (by omega)) (by omega)) (by omega), TN_78 (TN_80 (TN_84 (TN_83 z3))), RCH_c x4 (AR_i (AR_i (AR_i (AR_i z2 (by omega)) (by omega)) (by omega)) (by omega)) (by omega), RFR_c z4 (AR_i (AR_i (AR_i (AR_i (AR_r (vs := vs + 1) (h := h) (ls := ls)) (by omega)) (by omega)) (by omega)) (by omega)) (by omega)⟩
    unfold jm_298
    rw [e1, sp_bd, sp_b, e3.1.2.2.2.2.2, sp_if (by decide), sp_b, dv, if_pos (by omega)]
    try dsimp only
    rw [rdT hA bY hm (by omega), x1, sp_bd, sp_b, x3.2.2.1, sp_ck (by omega), sp_b, x3.1.2.2.2.2.1, sp_b, x3.1.2.2.2.2.2, show ((h + 1 : Nat) : Int) - 1 = (h : Int) from by omega, z1, sp_bd, sp_b, sp_b]
    try dsimp only
    rw [show (ev_pI Z 621 83 (vs : Int)).1 621 84 = ((d + 64 * l : Nat) : Int) from z3.1.2.2.2.2.2, sp_ck (by omega), sp_b, show ((d + 64 * l : Nat) : Int) + 64 = ((d + 64 * (l + 1) : Nat) : Int) from by omega, sp_b, sp_b]
/-- a look behind at a place -/
theorem t_297 {y : Nat} (hT : TN T td nd (x : Int) had th ((d + 64 * l : Nat) : Int) vs h ls n 0) (hn : n ≤ 1000) (hv : vs < 150000) (hh : h < 100000) (hd : d ≤ 20 ∧ l ≤ 40) : ∃ T1, jm_297 Q a (y : Int) T = some ((), T1) ∧ AR vs h ls T T1 ∧ TN T1 3 a (y : Int) had (vs : Int) ((d + 64 * (l + 1) : Nat) : Int) (vs + 1) (h + 1) ls (n + 1) (flg n) ∧ RCH T1 h 5 a (y : Int) (x : Int) had th ((d + 64 * l : Nat) : Int) vs ls ∧ RFR T1 vs 7 a (h : Int) (-1) th ((d + 64 * l : Nat) : Int) := by
  obtain ⟨X, x1, x2, x3, x4⟩ := c_chc (Q := Q) (y := 5) (a := a) (c := (y : Int)) hT hh
  obtain ⟨e1, e2, e3⟩ := c_stq (Q := Q) x3 hn
  obtain ⟨Y, hY⟩ : ∃ Y, Y = stq X n := ⟨_, rfl⟩
  rw [← hY] at e1 e2 e3
  obtain ⟨Z, z1, z2, z3, z4⟩ := c_frm (Q := Q) (kd := 7) (a := a) (vv := (h : Int)) (hd := -1) (nx := th) (d2 := ((d + 64 * l : Nat) : Int)) e3 hv
  have ar : AR vs h ls T Z := AR_tr (AR_tr x2 e2 (Nat.le_refl _) (by omega) (Nat.le_refl _)) z2 (Nat.le_refl _) (by omega) (Nat.le_refl _)
  refine ⟨ev_pI (ev_pI (ev_pI (ev_pI (ev_pI Z 621 83 (vs : Int)) 621 81 (y : Int)) 621 84 ((d + 64 * (l + 1) : Nat) : Int)) 621 80 a) 621 78 3, ?_, AR_i (AR_i (AR_i (AR_i (AR_i ar (by omega)) (by omega)) (by omega)) (by omega)) (by omega), TN_78 (TN_80 (TN_84 (TN_81 (TN_83 z3)))), RCH_c x4 (AR_i (AR_i (AR_i (AR_i (AR_i (AR_tr e2 z2 (Nat.le_refl _) (Nat.le_refl _) (Nat.le_refl _)) (by omega)) (by omega)) (by omega)) (by omega)) (by omega)) (by omega), RFR_c z4 (AR_i (AR_i (AR_i (AR_i (AR_i (AR_r (vs := vs + 1) (h := h) (ls := ls)) (by omega)) (by omega)) (by omega)) (by omega)) (by omega)) (by omega)⟩
  unfold jm_297
  rw [x1, sp_bd, e1, sp_bd, sp_b, e3.2.2.1, sp_ck (by omega), sp_b, e3.1.2.2.2.2.1, sp_b, e3.1.2.2.2.2.2, show ((h + 1 : Nat) : Int) - 1 = (h : Int) from by omega, z1, sp_bd, sp_b, sp_b, sp_b]
  rw [show (ev_pI (ev_pI Z 621 83 (vs : Int)) 621 81 (y : Int)).1 621 84 = ((d + 64 * l : Nat) : Int) from z3.1.2.2.2.2.2, sp_ck (by omega), sp_b, show ((d + 64 * l : Nat) : Int) + 64 = ((d + 64 * (l + 1) : Nat) : Int) from by omega, sp_b, sp_b]
theorem ta_298 {a1 a2 : Int} (hA : STA k p N M φ ψ own up lo U) (hB : BAS k p U w len S T) (hm : m < N) (hk : (U.1 625 (320 * p + m) = 10 ∧ a1 = 3 ∧ a2 = 5) ∨ (U.1 625 (320 * p + m) = 11 ∧ a1 = 4 ∧ a2 = 6)) : jm_299 Q ((320 * p + m : Nat) : Int) T = jm_298 Q ((320 * p + m : Nat) : Int) a1 a2 3 (ev_pI T 621 78 5) := by
  have unit : ∀ {O : Option (Unit × ev_St)}, (ev_bd O fun _ s15 => some ((), s15)) = O := fun {O} => by
    cases O with
    | none => rfl
    | some v => rfl
  unfold jm_299
  rw [rdT hA hB hm (by omega), sp_b, if_pos (by omega)]
  try dsimp only
  rw [if_pos (by omega)]
  try dsimp only
  rw [if_pos (by omega)]
  try dsimp only
  rw [if_pos (by omega)]
  try dsimp only
  rw [if_pos (by omega)]
  try dsimp only
  rcases hk with ⟨z, rfl, rfl⟩ | ⟨z, rfl, rfl⟩
  · rw [if_neg (by omega), unit]
  · rw [if_pos (by omega), if_neg (by omega), unit]
theorem ta_beh (hA : STA k p N M φ ψ own up lo U) (hB : BAS k p U w len S T) (hm : m < N) (hT : TN T td nd (x : Int) had th ((d + 64 * l : Nat) : Int) vs h ls n 0) (hn : n ≤ 1000) (hd : d ≤ 20 ∧ l ≤ 40) (hk : U.1 625 (320 * p + m) = 12) : (40 ≤ l → ∃ T1, jm_299 Q ((320 * p + m : Nat) : Int) T = some ((), T1) ∧ AR vs h ls T T1 ∧ TN T1 5 nd (x : Int) had th ((d + 64 * l : Nat) : Int) vs h ls (n + 1) (flg n)) ∧ (l < 40 → jm_299 Q ((320 * p + m : Nat) : Int) T = jm_297 Q ((320 * p + m : Nat) : Int) (x : Int) (ev_pI T 621 78 5)) := by
  have unit : ∀ {O : Option (Unit × ev_St)}, (ev_bd O fun _ s15 => some ((), s15)) = O := fun {O} => by
    cases O with
    | none => rfl
    | some v => rfl
  obtain ⟨X, hX, x1, x2, x3, x4, x5, x6, x7⟩ := ta_go (Q := Q) hA hB hm hT hn
  have dv : ev_idiv ((d + 64 * l : Nat) : Int) 64 = (l : Int) := by
    rw [sp_div (by omega) (by omega)]
    omega
  refine ⟨fun z => ⟨_, ?_, x4, x5⟩, fun z => ?_⟩
  · unfold jm_299
    rw [rdT hA hB hm (by omega), sp_b, if_pos (by omega)]
    try dsimp only
    rw [if_pos (by omega)]
    try dsimp only
    rw [if_pos (by omega)]
    try dsimp only
    rw [if_pos (by omega)]
    try dsimp only
    rw [if_pos (by omega)]
    try dsimp only
    rw [if_pos (by omega)]
    try dsimp only
    rw [if_pos (by omega)]
    try dsimp only
    rw [if_neg (by omega)]
    try dsimp only
    rw [← hX, sp_b, x2.1.2.2.2.2.2, sp_if (by decide), sp_b, dv, if_neg (by omega)]
    try dsimp only
    rw [x7, sp_bd]
  · unfold jm_299
    rw [rdT hA hB hm (by omega), sp_b, if_pos (by omega)]
    try dsimp only
    rw [if_pos (by omega)]
    try dsimp only
    rw [if_pos (by omega)]
    try dsimp only
    rw [if_pos (by omega)]
    try dsimp only
    rw [if_pos (by omega)]
    try dsimp only
    rw [if_pos (by omega)]
    try dsimp only
    rw [if_pos (by omega)]
    try dsimp only
    rw [if_neg (by omega)]
    try dsimp only
    rw [← hX, sp_b, x2.1.2.2.2.2.2, sp_if (by decide), sp_b, dv, if_pos (by omega)]
    try dsimp only
    rw [sp_b, x2.1.2.2.1, unit]
theorem ta_cal {gn jn : Nat} (hA : STA k p N M φ ψ own up lo U) (hB : BAS k p U w len S T) (hm : m < N) (hT : TN T td nd (x : Int) had th ((d + 64 * l : Nat) : Int) vs h ls n 0) (hn : n ≤ 1000) (hv : vs < 150000) (hd : d ≤ 20 ∧ l ≤ 40) (hk : U.1 625 (320 * p + m) = 14) (hj : U.1 628 (320 * p + m) = (jn : Int)) (hj2 : jn < 10) (hg : U.1 637 (10 * p + jn) = (gn : Int)) (hg2 : gn < N) : (20 ≤ d → ∃ T1, jm_299 Q ((320 * p + m : Nat) : Int) T = some ((), T1) ∧ AR vs h ls T T1 ∧ TN T1 5 nd (x : Int) had th ((d + 64 * l : Nat) : Int) vs h ls (n + 1) (flg n)) ∧ (d < 20 → ∃ T1, jm_299 Q ((320 * p + m : Nat) : Int) T = some ((), T1) ∧ AR vs h ls T T1 ∧ TN T1 3 ((320 * p + gn : Nat) : Int) (x : Int) had (vs : Int) ((d + 1 + 64 * l : Nat) : Int) (vs + 1) h ls (n + 1) (flg n) ∧ RFR T1 vs 4 ((320 * p + m : Nat) : Int) 0 had th ((d + 64 * l : Nat) : Int)) := by
  have hp := hA.2.2.1
  have al := al_rp.2.2.2.2.2.2.2.2.2.2.1
  have hN := (sa_num hA).1.2.1
  obtain ⟨X, hX, x1, x2, x3, x4, x5, x6, x7⟩ := ta_go (Q := Q) hA hB hm hT hn
  obtain ⟨Y, hY⟩ : ∃ Y, Y = stq X n := ⟨_, rfl⟩
  rw [← hY] at x4 x5 x6 x7
  have rm : ev_irem ((d + 64 * l : Nat) : Int) 64 = (d : Int) := by
    rw [sp_rem (by omega) (by omega)]
    omega
  refine ⟨fun z => ⟨_, ?_, x4, x5⟩, fun z => ?_⟩
  · unfold jm_299
    rw [rdT hA hB hm (by omega), sp_b, if_pos (by omega)]
    try dsimp only
    rw [if_pos (by omega)]
    try dsimp only
    rw [if_pos (by omega)]
    try dsimp only
    rw [if_pos (by omega)]
    try dsimp only
    rw [if_pos (by omega)]
    try dsimp only
    rw [if_pos (by omega)]
    try dsimp only
    rw [if_pos (by omega)]
    try dsimp only
    rw [if_pos (by omega)]
    try dsimp only
    rw [if_pos (by omega)]
    try dsimp only
    rw [if_neg (by omega)]
    try dsimp only
    rw [← hX, x7, sp_bd, sp_b, x5.1.2.2.2.2.2, sp_if (by decide), sp_b, rm, if_pos (by omega)]
  · obtain ⟨Z, z1, z2, z3, z4⟩ := c_frm (Q := Q) (kd := 4) (a := ((320 * p + m : Nat) : Int)) (vv := 0) (hd := had) (nx := th) (d2 := ((d + 64 * l : Nat) : Int)) x5 hv
    obtain ⟨A, hA1⟩ : ∃ A, A = ev_pI (ev_pI Z 621 83 (vs : Int)) 621 84 ((d + 1 + 64 * l : Nat) : Int) := ⟨_, rfl⟩
    have tA : TN A 5 nd (x : Int) had (vs : Int) ((d + 1 + 64 * l : Nat) : Int) (vs + 1) h ls (n + 1) (flg n) := by
      rw [hA1]
      exact TN_84 (TN_83 z3)
    have arA : AR vs h ls T A := by
      rw [hA1]
      exact AR_i (AR_i (AR_tr x4 z2 (Nat.le_refl _) (Nat.le_refl _) (Nat.le_refl _)) (by omega)) (by omega)
    have bA := BAS_m hB (AC_r (us := 0) (h := h)) arA
    refine ⟨ev_pI (ev_pI A 621 80 ((320 * p + gn : Nat) : Int)) 621 78 3, ?_, AR_i (AR_i arA (by omega)) (by omega), TN_78 (TN_80 tA), RFR_c z4 (by
      rw [hA1]
      exact AR_i (AR_i (AR_i (AR_i (AR_r (vs := vs + 1) (h := h) (ls := ls)) (by omega)) (by omega)) (by omega)) (by omega)) (by omega)⟩
    unfold jm_299
    rw [rdT hA hB hm (by omega), sp_b, if_pos (by omega)]
    try dsimp only
    rw [if_pos (by omega)]
    try dsimp only
    rw [if_pos (by omega)]
    try dsimp only
    rw [if_pos (by omega)]
    try dsimp only
    rw [if_pos (by omega)]
    try dsimp only
    rw [if_pos (by omega)]
    try dsimp only
    rw [if_pos (by omega)]
    try dsimp only
    rw [if_pos (by omega)]
    try dsimp only
    rw [if_pos (by omega)]
    try dsimp only
    rw [if_neg (by omega)]
    try dsimp only
    rw [← hX, x7, sp_bd, sp_b, x5.1.2.2.2.2.2, sp_if (by decide), sp_b, rm, if_neg (by omega)]
    try dsimp only
    rw [sp_b, x5.1.2.2.2.1, sp_b, x5.1.2.2.2.2.1, sp_b, z1, sp_bd, sp_b, sp_b]
    rw [show (ev_pI Z 621 83 (vs : Int)).1 621 84 = ((d + 64 * l : Nat) : Int) from z3.1.2.2.2.2.2, sp_ck (by omega), sp_b, show ((d + 64 * l : Nat) : Int) + 1 = ((d + 1 + 64 * l : Nat) : Int) from by omega, ← hA1, sp_b, bA.2.2.2.1, sp_b, sp_if (by decide), sp_b, sp_div (by omega) (by omega), show ((320 * p : Nat) : Int) / 320 = (p : Int) from by omega, sp_ck (by omega), rdT hA bA hm (by omega), hj, sp_ck (by omega), al, sp_if (by omega), sp_b, show Int.toNat (10 * (p : Int) + (jn : Int)) = 10 * p + jn from by omega, (cl_k hA bA).2.2.2.2, hg, sp_ck (by omega), sp_b, show ((320 * p : Nat) : Int) + (gn : Int) = ((320 * p + gn : Nat) : Int) from by omega, sp_b]
theorem ta_fai (hA : STA k p N M φ ψ own up lo U) (hB : BAS k p U w len S T) (hm : m < N) (hT : TN T td nd (x : Int) had th dp vs h ls n 0) (hn : n ≤ 1000) (hk : U.1 625 (320 * p + m) = 15) : ∃ T1, jm_299 Q ((320 * p + m : Nat) : Int) T = some ((), T1) ∧ AR vs h ls T T1 ∧ TN T1 5 nd (x : Int) had th dp vs h ls (n + 1) (flg n) := by
  obtain ⟨X, hX, x1, x2, x3, x4, x5, x6, x7⟩ := ta_go (Q := Q) hA hB hm hT hn
  refine ⟨_, ?_, x4, x5⟩
  unfold jm_299
  rw [rdT hA hB hm (by omega), sp_b, if_pos (by omega)]
  try dsimp only
  rw [if_pos (by omega)]
  try dsimp only
  rw [if_pos (by omega)]
  try dsimp only
  rw [if_pos (by omega)]
  try dsimp only
  rw [if_pos (by omega)]
  try dsimp only
  rw [if_pos (by omega)]
  try dsimp only
  rw [if_pos (by omega)]
  try dsimp only
  rw [if_pos (by omega)]
  try dsimp only
  rw [if_pos (by omega)]
  try dsimp only
  rw [if_pos (by omega)]
  try dsimp only
  rw [if_neg (by omega)]
  try dsimp only
  rw [← hX, x7, sp_bd]
theorem ta_vrb (hA : STA k p N M φ ψ own up lo U) (hB : BAS k p U w len S T) (hm : m < N) (hT : TN T td nd (x : Int) had th dp vs h ls n 0) (hn : n ≤ 1000) (hh : h < 100000) (hk : U.1 625 (320 * p + m) = 16 ∨ U.1 625 (320 * p + m) = 17) : ∃ T1, jm_299 Q ((320 * p + m : Nat) : Int) T = some ((), T1) ∧ AR vs h ls T T1 ∧ TN T1 4 nd (x : Int) had th dp vs (h + 1) ls (n + 1) (flg n) ∧ RCH T1 h (if U.1 625 (320 * p + m) = 16 then 6 else 7) ((320 * p + m : Nat) : Int) 0 (x : Int) had th dp vs ls := by
  obtain ⟨X, hX, x1, x2, x3, x4, x5, x6, x7⟩ := ta_go (Q := Q) hA hB hm hT hn
  obtain ⟨Z, z1, z2, z3, z4⟩ := c_chc (Q := Q) (y := if U.1 625 (320 * p + m) = 16 then 6 else 7) (a := ((320 * p + m : Nat) : Int)) (c := 0) x5 hh
  refine ⟨_, ?_, AR_i (AR_tr x4 z2 (Nat.le_refl _) (Nat.le_refl _) (Nat.le_refl _)) (by omega), TN_78 z3, RCH_c z4 (AR_i (AR_r (vs := vs) (h := h + 1) (ls := ls)) (by omega)) (by omega)⟩
  unfold jm_299
  rw [rdT hA hB hm (by omega), sp_b, if_pos (by omega)]
  try dsimp only
  rw [if_pos (by omega)]
  try dsimp only
  rw [if_pos (by omega)]
  try dsimp only
  rw [if_pos (by omega)]
  try dsimp only
  rw [if_pos (by omega)]
  try dsimp only
  rw [if_pos (by omega)]
  try dsimp only
  rw [if_pos (by omega)]
  try dsimp only
  rw [if_pos (by omega)]
  try dsimp only
  rw [if_pos (by omega)]
  try dsimp only
  rw [if_pos (by omega)]
  try dsimp only
  rw [if_pos (by omega)]
  try dsimp only
  rw [← hX, x7, sp_bd, sp_jn]
  rcases hk with z | z
  · rw [if_pos z] at z1
    rw [if_neg (fun w => w z)]
    try dsimp only
    rw [z1, sp_bd, sp_b]
  · rw [if_neg (by omega)] at z1
    rw [if_pos (by omega)]
    try dsimp only
    rw [z1, sp_bd, sp_b]
end OPZS
