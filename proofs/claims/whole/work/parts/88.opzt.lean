/-! SEARCH: the reference's conditions, items, rows -/
section OPZT
variable {Q k p N M m n h us u w len b v j vs ls ng x d l t r : Nat} {φ ψ own up lo : Nat → Nat} {S S1 S2 T T1 U : ev_St} {c f g a had th dp td nd fl y : Int}
theorem ta_cnd {y2 : Int} (hA : STA k p N M φ ψ own up lo U) (hB : BAS k p U w len S T) (hm : m < N) (hT : TN T td nd (x : Int) had th dp vs h ls n 0) (hn : n ≤ 1000) (hk : U.1 625 (320 * p + m) = 13) (h294 : ∀ T2, AR vs h ls T T2 → T2.1 621 82 = had → jm_294 Q (U.1 628 (320 * p + m)) T2 = some (y2, T2)) : ∃ T1, jm_299 Q ((320 * p + m : Nat) : Int) T = some ((), T1) ∧ AR vs h ls T T1 ∧ TN T1 (if y2 = -1 ∧ U.1 627 (320 * p + (m + 1)) = -1 then 4 else 7) (if y2 = -1 then (if U.1 627 (320 * p + (m + 1)) = -1 then -1 else ((320 * p : Nat) : Int) + U.1 627 (320 * p + (m + 1))) else ((320 * p + (m + 1) : Nat) : Int)) (x : Int) had th dp vs h ls (n + 1) (flg n) := by
  have hp := hA.2.2.1
  have hN := (sa_num hA).1.2.1
  obtain ⟨p1, p2, p3, p4, _⟩ := sa_part hA hm (by omega)
  obtain ⟨X, hX, x1, x2, x3, x4, x5, x6, x7⟩ := ta_go (Q := Q) hA hB hm hT hn
  obtain ⟨Y, hY⟩ : ∃ Y, Y = stq X n := ⟨_, rfl⟩
  rw [← hY] at x4 x5 x6 x7
  have e294 := h294 Y x4 x5.1.2.2.2.1
  obtain ⟨se, hse⟩ : ∃ se : Int, se = if U.1 627 (320 * p + (m + 1)) = -1 then -1 else ((320 * p : Nat) : Int) + U.1 627 (320 * p + (m + 1)) := ⟨_, rfl⟩
  have se2 : (se = -1 ↔ U.1 627 (320 * p + (m + 1)) = -1) ∧ -1 ≤ se ∧ se < 4160 := by
    rw [hse]
    rcases sa_next hA p2 with ⟨y, _⟩ | ⟨t, y, y1, y2, _⟩
    · rw [if_pos y]
      exact ⟨⟨fun _ => y, fun _ => rfl⟩, by omega, by omega⟩
    · rw [y, if_neg (by omega)]
      exact ⟨⟨fun z => by omega, fun z => by omega⟩, by omega, by omega⟩
  obtain ⟨nn, hnn⟩ : ∃ nn : Int, nn = if y2 = -1 then se else ((320 * p + (m + 1) : Nat) : Int) := ⟨_, rfl⟩
  rw [← hse, ← hnn]
  have td2 : (if y2 = -1 ∧ U.1 627 (320 * p + (m + 1)) = -1 then (4 : Int) else 7) = if nn = -1 then 4 else 7 := by
    rw [hnn]
    by_cases z : y2 = -1
    · rw [if_pos z]
      by_cases z2 : se = -1
      · rw [if_pos ⟨z, se2.1.mp z2⟩, if_pos z2]
      · rw [if_neg (fun w => z2 (se2.1.mpr w.2)), if_neg z2]
    · rw [if_neg (fun w => z w.1), if_neg z, if_neg (by omega)]
  rw [td2]
  refine ⟨_, ?_, AR_i (AR_i x4 (by omega)) (by omega), TN_78 (TN_80 x5)⟩
  have tl : ∀ s : Int, s = se → ((fun (x52 : Int) (x53 : Int) (s58 : ev_St) => ev_if ((0 : Int) ≤ ((320 * p + m : Nat) : Int) ∧ ((320 * p + m : Nat) : Int) < (ev_aln 628 : Int)) (ev_b (s58.1 628 (Int.toNat ((320 * p + m : Nat) : Int))) fun x59 => ev_bd (jm_294 Q x59 s58) fun x61 s60 => ev_jn (fun (x62 : Int) (s65 : ev_St) => ev_b (ev_pI s65 621 80 x62) fun s66 => ev_b (s66.1 621 80) fun x67 => if x67 ≠ (-1) then (ev_b (ev_pI s66 621 78 7) fun s69 => some ((), s69)) else (ev_b (ev_pI s66 621 78 4) fun s70 => some ((), s70))) fun K329 => if x61 = (-1) then (K329 x53 s60) else (K329 x52 s60))) ((320 * p + (m + 1) : Nat) : Int) s Y) = some ((), ev_pI (ev_pI Y 621 80 nn) 621 78 (if nn = -1 then 4 else 7)) := fun s hs => by
    have k329 : ∀ z : Int, z = nn → ((fun (x62 : Int) (s65 : ev_St) => ev_b (ev_pI s65 621 80 x62) fun s66 => ev_b (s66.1 621 80) fun x67 => if x67 ≠ (-1) then (ev_b (ev_pI s66 621 78 7) fun s69 => some ((), s69)) else (ev_b (ev_pI s66 621 78 4) fun s70 => some ((), s70))) z Y) = some ((), ev_pI (ev_pI Y 621 80 nn) 621 78 (if nn = -1 then 4 else 7)) := fun z hz => by
      subst hz
      try dsimp only
      rw [sp_b, sp_b, rd_eq]
      by_cases w : z = -1
      · rw [if_neg (fun q => q w)]
        try dsimp only
        rw [if_pos w]
        try dsimp only
        rw [sp_b]
      · rw [if_pos w]
        try dsimp only
        rw [if_neg w]
        try dsimp only
        rw [sp_b]
    try dsimp only
    rw [rdT hA x6 hm (by omega), e294, sp_bd, sp_jn]
    by_cases w : y2 = -1
    · rw [if_pos w] at hnn
      rw [if_pos w]
      exact k329 s (by rw [hs, hnn])
    · rw [if_neg w] at hnn
      rw [if_neg w]
      exact k329 _ hnn.symm
  unfold jm_299
  rw [rdT hA hB hm (by omega), sp_b, if_pos (by omega)]
  try dsimp only
  rw [if_pos (by omega)]
  try dsimp only
  rw [if_pos (by omega)]
  try dsimp only
  rw [if_pos (by omega)]
  try dsimp only
  rw [if_pos (by omega)]
  try dsimp only
  rw [if_pos (by omega)]
  try dsimp only
  rw [if_pos (by omega)]
  try dsimp only
  rw [if_pos (by omega)]
  try dsimp only
  rw [if_neg (by omega)]
  try dsimp only
  rw [← hX, x7, sp_bd, sp_b, x6.2.2.2.1, rdT hA x6 hm (by omega), p1, sp_ck (by omega), show ((320 * p : Nat) : Int) + ((m + 1 : Nat) : Int) = ((320 * p + (m + 1) : Nat) : Int) from by omega, rdT hA x6 p2 (by omega), sp_jn]
  by_cases w : U.1 627 (320 * p + (m + 1)) = -1
  · rw [if_pos w] at hse
    rw [if_neg (fun q => q w)]
    exact tl (-1) hse.symm
  · have hse3 := hse
    rw [if_neg w] at hse3
    rw [if_pos w]
    try dsimp only
    rw [sp_b, rdT hA x6 p2 (by omega), sp_ck (by omega)]
    exact tl _ hse3.symm
theorem t_itm (hA : STA k p N M φ ψ own up lo U) (hB : BAS k p U w len S T) (hm : m < N) (hT : TN T td nd (x : Int) had th ((d + 64 * l : Nat) : Int) vs h ls n 0) (hn : n ≤ 1000) (hv : vs < 150000) (hh : h < 100000) (hd : d ≤ 20 ∧ l ≤ 40) : (U.1 630 (320 * p + m) = -1 → ∃ T1, jm_303 Q ((320 * p + m : Nat) : Int) T = some ((), T1) ∧ AR vs h ls T T1 ∧ TN T1 2 nd (x : Int) had th ((d + 64 * l : Nat) : Int) vs h ls n 0) ∧ (U.1 630 (320 * p + m) = 0 ∨ U.1 630 (320 * p + m) = 1 → ∃ T1, jm_303 Q ((320 * p + m : Nat) : Int) T = some ((), T1) ∧ AR vs h ls T T1 ∧ TN T1 6 nd (x : Int) had th ((d + 64 * l : Nat) : Int) vs h ls (n + 1) (flg n) ∧ T1.1 621 85 = 0) ∧ (U.1 630 (320 * p + m) = 2 → (40 ≤ l → ∃ T1, jm_303 Q ((320 * p + m : Nat) : Int) T = some ((), T1) ∧ AR vs h ls T T1 ∧ TN T1 5 nd (x : Int) had th ((d + 64 * l : Nat) : Int) vs h ls (n + 1) (flg n)) ∧ (l < 40 → ∃ T1, jm_303 Q ((320 * p + m : Nat) : Int) T = some ((), T1) ∧ AR vs h ls T T1 ∧ TN T1 6 ((320 * p + m : Nat) : Int) (x : Int) had (vs : Int) ((d + 64 * (l + 1) : Nat) : Int) (vs + 1) (h + 1) ls (n + 2) (if n + 1 < 1000 then 0 else 1) ∧ RCH T1 h 3 ((320 * p + m : Nat) : Int) (U.1 629 (320 * p + m)) (x : Int) had th ((d + 64 * l : Nat) : Int) vs ls ∧ RFR T1 vs 5 ((320 * p + m : Nat) : Int) (h : Int) (-1) th ((d + 64 * l : Nat) : Int) ∧ T1.1 621 85 = 0)) := by
  obtain ⟨X, hX⟩ : ∃ X, X = ev_pI T 621 85 0 := ⟨_, rfl⟩
  have x1 : AR vs h ls T X := by
    rw [hX]
    exact AR_i AR_r (by omega)
  have x2 : TN X td nd (x : Int) had th ((d + 64 * l : Nat) : Int) vs h ls n 0 := by
    rw [hX]
    exact ⟨hT.1, hT.2⟩
  have x85 : X.1 621 85 = 0 := by rw [hX, rd_eq]
  have bX := BAS_m hB (AC_r (us := 0) (h := h)) x1
  refine ⟨fun z => ⟨_, ?_, AR_i x1 (by omega), TN_78 x2⟩, fun z => ?_, fun z => ⟨fun z2 => ?_, fun z2 => ?_⟩⟩
  · unfold jm_303
    rw [sp_b, ← hX, rdT hA bX hm (by omega), z, if_pos (by decide)]
    try dsimp only
    rw [rdT hA bX hm (by omega), z, if_neg (by decide)]
    try dsimp only
    rw [sp_b]
  · obtain ⟨e1, e2, e3⟩ := c_stq (Q := Q) x2 hn
    refine ⟨_, ?_, AR_i (AR_tr x1 e2 (Nat.le_refl _) (Nat.le_refl _) (Nat.le_refl _)) (by omega), TN_78 e3, ?_⟩
    · unfold jm_303
      rw [sp_b, ← hX, rdT hA bX hm (by omega), if_pos (by omega)]
      try dsimp only
      rw [rdT hA bX hm (by omega), if_pos (by omega)]
      try dsimp only
      rw [e1, sp_bd, sp_b]
    · rw [rd_nf (by decide)]
      exact x85
  · obtain ⟨T1, r1, r2, r3⟩ := (t_298 (Q := Q) (a1 := 3) (a2 := 5) (a3 := 6) hA bX hm x2 hn hv hh hd).1 z2
    refine ⟨T1, ?_, AR_tr x1 r2 (Nat.le_refl _) (Nat.le_refl _) (Nat.le_refl _), r3⟩
    unfold jm_303
    rw [sp_b, ← hX, rdT hA bX hm (by omega), if_neg (by omega)]
    try dsimp only
    rw [r1, sp_bd, sp_b, r3.1.1, if_pos (by decide)]
  · obtain ⟨T1, r1, r2, r3, r4, r5⟩ := (t_298 (Q := Q) (a1 := 3) (a2 := 5) (a3 := 6) hA bX hm x2 hn hv hh hd).2 z2
    have r85 : T1.1 621 85 = 0 := by
      rw [((ef_298 (Q := Q) (S := X)) _ _ r1).1 621 85 (by decide)]
      exact x85
    have st : jm_303 Q ((320 * p + m : Nat) : Int) T = ev_bd (jm_290 Q T1) fun _ s12 => some ((), s12) := by
      unfold jm_303
      rw [sp_b, ← hX, rdT hA bX hm (by omega), if_neg (by omega)]
      try dsimp only
      rw [r1, sp_bd, sp_b, r3.1.1, if_neg (by decide)]
    by_cases z3 : n < 1000
    · rw [show flg n = 0 from if_pos z3] at r3
      obtain ⟨e1, e2, e3⟩ := c_stq (Q := Q) r3 (by omega)
      refine ⟨stq T1 (n + 1), by rw [st, e1, sp_bd], AR_tr (AR_tr x1 r2 (Nat.le_refl _) (Nat.le_refl _) (Nat.le_refl _)) e2 (by omega) (by omega) (Nat.le_refl _), e3, RCH_c r4 e2 (by omega), RFR_c r5 e2 (by omega), ?_⟩
      rw [((ef_290 (Q := Q) (S := T1)) _ _ e1).1 621 85 (by decide)]
      exact r85
    · rw [show flg n = 1 from if_neg z3] at r3
      obtain ⟨T2, e1, e2, e3⟩ := c_stf (Q := Q) r3 (by omega)
      refine ⟨T2, by rw [st, e1, sp_bd], AR_tr (AR_tr x1 r2 (Nat.le_refl _) (Nat.le_refl _) (Nat.le_refl _)) e2 (by omega) (by omega) (Nat.le_refl _), by rw [if_neg (by omega)]; exact e3, RCH_c r4 e2 (by omega), RFR_c r5 e2 (by omega), ?_⟩
      rw [((ef_290 (Q := Q) (S := T1)) _ _ e1).1 621 85 (by decide)]
      exact r85
/-- a row of several is begun -/
theorem t_row (hA : STA k p N M φ ψ own up lo U) (hB : BAS k p U w len S T) (hm : r < N) (hT : TN T td nd (x : Int) had th dp vs h ls n 0) (hn : n ≤ 1000) (hh : h < 100000) : (U.1 627 (320 * p + r) = -1 → ∃ T1, jm_302 Q ((320 * p + r : Nat) : Int) 1 T = some ((), T1) ∧ AR vs h ls T T1 ∧ TN T1 7 ((320 * p + r : Nat) : Int) (x : Int) had th dp vs h ls (n + 1) (flg n)) ∧ (∀ t : Nat, U.1 627 (320 * p + r) = (t : Int) → t < N → ∃ T1, jm_302 Q ((320 * p + r : Nat) : Int) 1 T = some ((), T1) ∧ AR vs h ls T T1 ∧ TN T1 7 ((320 * p + r : Nat) : Int) (x : Int) had th dp vs (h + 1) ls (n + 1) (flg n) ∧ RCH T1 h 0 ((320 * p + t : Nat) : Int) 0 (x : Int) had th dp vs ls) ∧ ∃ T1, jm_302 Q ((320 * p + r : Nat) : Int) 0 T = some ((), T1) ∧ AR vs h ls T T1 ∧ TN T1 7 ((320 * p + r : Nat) : Int) (x : Int) had th dp vs h ls n 0 := by
  have hp := hA.2.2.1
  have hN := (sa_num hA).1.2.1
  refine ⟨fun z => ?_, fun t z z2 => ?_, ⟨_, ?_, AR_i (AR_i AR_r (by omega)) (by omega), TN_78 (TN_80 hT)⟩⟩
  · obtain ⟨e1, e2, e3⟩ := c_stq (Q := Q) hT hn
    refine ⟨_, ?_, AR_i (AR_i e2 (by omega)) (by omega), TN_78 (TN_80 e3)⟩
    unfold jm_302
    rw [sp_jn, if_neg (by decide)]
    try dsimp only
    rw [rdT hA hB hm (by omega), sp_jn, if_pos z]
    try dsimp only
    rw [e1, sp_bd, sp_b, sp_b]
  · obtain ⟨Z, z1, z3, z4, z5⟩ := c_chc (Q := Q) (y := 0) (a := ((320 * p + t : Nat) : Int)) (c := 0) hT hh
    obtain ⟨e1, e2, e3⟩ := c_stq (Q := Q) z4 hn
    refine ⟨_, ?_, AR_i (AR_i (AR_tr z3 e2 (Nat.le_refl _) (by omega) (Nat.le_refl _)) (by omega)) (by omega), TN_78 (TN_80 e3), RCH_c z5 (AR_i (AR_i e2 (by omega)) (by omega)) (by omega)⟩
    unfold jm_302
    rw [sp_jn, if_neg (by decide)]
    try dsimp only
    rw [rdT hA hB hm (by omega), sp_jn, if_neg (by omega)]
    try dsimp only
    rw [sp_b, hB.2.2.2.1, rdT hA hB hm (by omega), z, sp_ck (by omega), show ((320 * p : Nat) : Int) + (t : Int) = ((320 * p + t : Nat) : Int) from by omega, z1, sp_bd]
    try dsimp only
    rw [e1, sp_bd, sp_b, sp_b]
  · unfold jm_302
    rw [sp_jn, if_pos rfl]
    try dsimp only
    rw [sp_b, sp_b]
theorem rt_3 {q : Nat} (hA : STA k p N M φ ψ own up lo U) (hB : BAS k p U w len S T) (hm : m < N) (hk : 8 ≤ U.1 625 (320 * p + m) ∧ U.1 625 (320 * p + m) ≤ 13) (hf : T.1 621 76 = 0) (ht : T.1 621 78 = 3) (h80 : T.1 621 80 = ((320 * p + m : Nat) : Int)) (he : jm_302 Q ((320 * p + (m + 1) : Nat) : Int) (if U.1 627 (320 * p + (m + 1)) = -1 then 0 else 1) T = some ((), T1)) : jl_306_68 Q (q + 1) (-1) T = jl_306_68 Q q (-1) T1 := by
  have hp := hA.2.2.1
  have hN := (sa_num hA).1.2.1
  obtain ⟨p1, p2, p3, p4, _⟩ := sa_part hA hm hk
  show jb_306_68 Q _ _ T = _
  unfold jb_306_68
  rw [sp_jn, if_neg (by decide)]
  try dsimp only
  rw [sp_b, if_neg (fun y => y hf)]
  try dsimp only
  rw [sp_b, ht, if_pos (by decide)]
  try dsimp only
  rw [sp_b, if_pos (by decide)]
  try dsimp only
  rw [sp_b, if_pos (by decide)]
  try dsimp only
  rw [sp_b, if_neg (by decide)]
  try dsimp only
  rw [sp_b, hB.2.2.2.1, sp_b, h80, rdT hA hB hm (by omega), p1, sp_ck (by omega), show ((320 * p : Nat) : Int) + ((m + 1 : Nat) : Int) = ((320 * p + (m + 1) : Nat) : Int) from by omega, rdT hA hB p2 (by omega), sp_jn]
  by_cases z : U.1 627 (320 * p + (m + 1)) = -1
  · rw [if_pos z] at he
    rw [if_pos z]
    try dsimp only
    rw [he, sp_bd]
  · rw [if_neg z] at he
    rw [if_neg z]
    try dsimp only
    rw [he, sp_bd]
theorem rt_7 (hA : STA k p N M φ ψ own up lo U) (hB : BAS k p U w len S T) (hm : r < N) (hT : TN T 7 ((320 * p + r : Nat) : Int) (x : Int) had th dp vs h ls n 0) (hv : vs < 150000) : (U.1 626 (320 * p + r) = -1 → ∃ T1, (∀ q, jl_306_68 Q (q + 1) (-1) T = jl_306_68 Q q (-1) T1) ∧ AR vs h ls T T1 ∧ TN T1 4 ((320 * p + r : Nat) : Int) (x : Int) had th dp vs h ls n 0) ∧ ∀ t : Nat, U.1 626 (320 * p + r) = (t : Int) → t < N → (U.1 627 (320 * p + t) = -1 → ∃ T1, (∀ q, jl_306_68 Q (q + 1) (-1) T = jl_306_68 Q q (-1) T1) ∧ AR vs h ls T T1 ∧ TN T1 1 ((320 * p + t : Nat) : Int) (x : Int) had th dp vs h ls n 0) ∧ ∀ t2 : Nat, U.1 627 (320 * p + t) = (t2 : Int) → t2 < N → ∃ T1, (∀ q, jl_306_68 Q (q + 1) (-1) T = jl_306_68 Q q (-1) T1) ∧ AR vs h ls T T1 ∧ TN T1 1 ((320 * p + t : Nat) : Int) (x : Int) had (vs : Int) dp (vs + 1) h ls n 0 ∧ RFR T1 vs 1 ((320 * p + t2 : Nat) : Int) 0 (-1) th dp := by
  have hp := hA.2.2.1
  have hN := (sa_num hA).1.2.1
  have hf := hT.2.2.2.2.2
  have ht := hT.1.1
  refine ⟨fun z => ⟨ev_pI T 621 78 4, fun q => ?_, AR_i AR_r (by omega), TN_78 hT⟩, fun t z z2 => ⟨fun z3 => ?_, fun t2 z3 z4 => ?_⟩⟩
  · show jb_306_68 Q _ _ T = _
    unfold jb_306_68
    rw [sp_jn, if_neg (by decide)]
    try dsimp only
    rw [sp_b, if_neg (fun y => y hf)]
    try dsimp only
    rw [sp_b, ht, if_pos (by decide)]
    try dsimp only
    rw [sp_b, if_pos (by decide)]
    try dsimp only
    rw [sp_b, if_pos (by decide)]
    try dsimp only
    rw [sp_b, if_pos (by decide)]
    try dsimp only
    rw [sp_b, if_pos (by decide)]
    try dsimp only
    rw [sp_b, if_pos (by decide)]
    try dsimp only
    rw [sp_b, if_pos (by decide)]
    try dsimp only
    rw [sp_b, hT.1.2.1, rdT hA hB hm (by omega), sp_jn, if_neg (fun y => y z)]
    try dsimp only
    rw [sp_b, sp_jn, z, if_pos rfl]
  · obtain ⟨X, hX⟩ : ∃ X, X = ev_pI (ev_pI T 621 78 1) 621 80 ((320 * p + t : Nat) : Int) := ⟨_, rfl⟩
    have aX : AR vs h ls T X := by
      rw [hX]
      exact AR_i (AR_i AR_r (by omega)) (by omega)
    have tX : TN X 1 ((320 * p + t : Nat) : Int) (x : Int) had th dp vs h ls n 0 := by
      rw [hX]
      exact TN_80 (TN_78 hT)
    have bX := BAS_m hB (AC_r (us := 0) (h := h)) aX
    refine ⟨X, fun q => ?_, aX, tX⟩
    show jb_306_68 Q _ _ T = _
    unfold jb_306_68
    rw [sp_jn, if_neg (by decide)]
    try dsimp only
    rw [sp_b, if_neg (fun y => y hf)]
    try dsimp only
    rw [sp_b, ht, if_pos (by decide)]
    try dsimp only
    rw [sp_b, if_pos (by decide)]
    try dsimp only
    rw [sp_b, if_pos (by decide)]
    try dsimp only
    rw [sp_b, if_pos (by decide)]
    try dsimp only
    rw [sp_b, if_pos (by decide)]
    try dsimp only
    rw [sp_b, if_pos (by decide)]
    try dsimp only
    rw [sp_b, if_pos (by decide)]
    try dsimp only
    rw [sp_b, hT.1.2.1, rdT hA hB hm (by omega), z, sp_jn, if_pos (by omega)]
    try dsimp only
    rw [sp_b, sp_jn, if_neg (by omega)]
    try dsimp only
    rw [sp_b]
    rw [show (ev_pI T 621 78 1).1 621 79 = ((320 * p : Nat) : Int) from hB.2.2.2.1, sp_ck (by omega), sp_b, show ((320 * p : Nat) : Int) + (t : Int) = ((320 * p + t : Nat) : Int) from by omega, ← hX, sp_b, tX.1.2.1, rdT hA bX z2 (by omega), if_pos z3]
  · obtain ⟨X, hX⟩ : ∃ X, X = ev_pI (ev_pI T 621 78 1) 621 80 ((320 * p + t : Nat) : Int) := ⟨_, rfl⟩
    have aX : AR vs h ls T X := by
      rw [hX]
      exact AR_i (AR_i AR_r (by omega)) (by omega)
    have tX : TN X 1 ((320 * p + t : Nat) : Int) (x : Int) had th dp vs h ls n 0 := by
      rw [hX]
      exact TN_80 (TN_78 hT)
    have bX := BAS_m hB (AC_r (us := 0) (h := h)) aX
    obtain ⟨Z, y1, y2, y3, y4⟩ := c_frm (Q := Q) (kd := 1) (a := ((320 * p + t2 : Nat) : Int)) (vv := 0) (hd := -1) (nx := th) (d2 := dp) tX hv
    refine ⟨ev_pI Z 621 83 (vs : Int), fun q => ?_, AR_i (AR_tr aX y2 (Nat.le_refl _) (Nat.le_refl _) (Nat.le_refl _)) (by omega), TN_83 y3, RFR_c y4 (AR_i (AR_r (vs := vs + 1) (h := h) (ls := ls)) (by omega)) (by omega)⟩
    show jb_306_68 Q _ _ T = _
    unfold jb_306_68
    rw [sp_jn, if_neg (by decide)]
    try dsimp only
    rw [sp_b, if_neg (fun y => y hf)]
    try dsimp only
    rw [sp_b, ht, if_pos (by decide)]
    try dsimp only
    rw [sp_b, if_pos (by decide)]
    try dsimp only
    rw [sp_b, if_pos (by decide)]
    try dsimp only
    rw [sp_b, if_pos (by decide)]
    try dsimp only
    rw [sp_b, if_pos (by decide)]
    try dsimp only
    rw [sp_b, if_pos (by decide)]
    try dsimp only
    rw [sp_b, if_pos (by decide)]
    try dsimp only
    rw [sp_b, hT.1.2.1, rdT hA hB hm (by omega), z, sp_jn, if_pos (by omega)]
    try dsimp only
    rw [sp_b, sp_jn, if_neg (by omega)]
    try dsimp only
    rw [sp_b]
    rw [show (ev_pI T 621 78 1).1 621 79 = ((320 * p : Nat) : Int) from hB.2.2.2.1, sp_ck (by omega), sp_b, show ((320 * p : Nat) : Int) + (t : Int) = ((320 * p + t : Nat) : Int) from by omega, ← hX, sp_b, tX.1.2.1, rdT hA bX z2 (by omega), z3, if_neg (by omega)]
    try dsimp only
    rw [sp_b, bX.2.2.2.1, sp_b, rdT hA bX z2 (by omega), z3, sp_ck (by omega), sp_b, tX.1.2.2.2.2.1, sp_b, tX.1.2.2.2.2.2, show ((320 * p : Nat) : Int) + (t2 : Int) = ((320 * p + t2 : Nat) : Int) from by omega, y1, sp_bd, sp_b]
end OPZT
