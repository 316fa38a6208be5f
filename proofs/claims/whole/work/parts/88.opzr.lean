/-! SEARCH: the reference's atoms -/
section OPZR
variable {Q k p N M m n h us u w len b v j vs ls ng x : Nat} {φ ψ own up lo : Nat → Nat} {S S1 S2 T T1 U : ev_St} {c f g a had th dp td nd fl y : Int}
theorem ta_go (hA : STA k p N M φ ψ own up lo U) (hB : BAS k p U w len S T) (hm : m < N) (hT : TN T td nd (x : Int) had th dp vs h ls n 0) (hn : n ≤ 1000) : ∃ X, X = ev_pI T 621 78 5 ∧ AR vs h ls T X ∧ TN X 5 nd (x : Int) had th dp vs h ls n 0 ∧ BAS k p U w len S X ∧ AR vs h ls T (stq X n) ∧ TN (stq X n) 5 nd (x : Int) had th dp vs h ls (n + 1) (flg n) ∧ BAS k p U w len S (stq X n) ∧ jm_290 Q X = some ((), stq X n) := by
  have a1 : AR vs h ls T (ev_pI T 621 78 5) := AR_i AR_r (by omega)
  have t1 := TN_78 (y := 5) hT
  obtain ⟨e1, e2, e3⟩ := c_stq (Q := Q) t1 hn
  have a2 := AR_tr a1 e2 (Nat.le_refl _) (Nat.le_refl _) (Nat.le_refl _)
  exact ⟨_, rfl, a1, t1, BAS_m hB (AC_r (us := 0) (h := h)) a1, a2, e3, BAS_m hB (AC_r (us := 0) (h := h)) a2, e1⟩
theorem ta_set {e : Int} (hA : STA k p N M φ ψ own up lo U) (hB : BAS k p U w len S T) (hm : m < N) (hT : TN T td nd (x : Int) had th dp vs h ls n 0) (hn : n ≤ 1000) (hl : len ≤ 160) (hk : U.1 625 (320 * p + m) = 0) (hs : x < len → sp_sign (txa U w len (x : Int)) = 1) (he : (x < len → e = rs (U.2.1 633 (320 * p + m)) (U.2.1 634 (320 * p + m)) (txa U w len (x : Int))) ∧ (¬ x < len → e = 0)) : ∃ T1, jm_299 Q ((320 * p + m : Nat) : Int) T = some ((), T1) ∧ AR vs h ls T T1 ∧ TN T1 (if e = 0 then 5 else 4) nd (if e = 0 then (x : Int) else ((x + 1 : Nat) : Int)) had th dp vs h ls (n + 1) (flg n) := by
  have hp := hA.2.2.1
  have hN := (sa_num hA).1.2.1
  have al := al_rp
  obtain ⟨X, hX, x1, x2, x3, x4, x5, x6, x7⟩ := ta_go (Q := Q) hA hB hm hT hn
  obtain ⟨Y, hY⟩ : ∃ Y, Y = stq X n := ⟨_, rfl⟩
  rw [← hY] at x4 x5 x6 x7
  have eL : ∀ c, 633 ≤ c → c ≤ 634 → Y.2.1 c (320 * p + m) = U.2.1 c (320 * p + m) := fun c z1 z2 => (cl_k hA x6).2.2.2.1 c m z1 z2
  by_cases z : x < len
  · have e1 := he.1 z
    have t8 := t678 x6 z
    by_cases z2 : e = 0
    · rw [if_pos z2, if_pos z2]
      refine ⟨Y, ?_, x4, x5⟩
      unfold jm_299
      rw [rdT hA hB hm (by omega), sp_b, hk, if_neg (by decide)]
      try dsimp only
      rw [← hX, x7, sp_bd, sp_b, x5.1.2.2.1, sp_b, x6.2.2.2.2.1, if_neg (by omega)]
      try dsimp only
      rw [al.2.2.2.2.2.2.2.2.1, sp_if (by omega), sp_b, al.2.2.2.2.2.2.2.2.2.1, sp_if (by omega), sp_b, Int.toNat_natCast, eL 633 (by omega) (by omega), eL 634 (by omega) (by omega), sp_b, al.2.2.2.2.2.2.2.2.2.2.2]
      try dsimp only
      rw [sp_if (by omega), sp_b, Int.toNat_natCast, t8, sp_244 (hs z), ← e1, sp_bd, if_pos z2]
    · rw [if_neg z2, if_neg z2]
      refine ⟨_, ?_, AR_i (AR_i x4 (by omega)) (by omega), TN_78 (TN_81 x5)⟩
      unfold jm_299
      rw [rdT hA hB hm (by omega), sp_b, hk, if_neg (by decide)]
      try dsimp only
      rw [← hX, x7, sp_bd, sp_b, x5.1.2.2.1, sp_b, x6.2.2.2.2.1, if_neg (by omega)]
      try dsimp only
      rw [al.2.2.2.2.2.2.2.2.1, sp_if (by omega), sp_b, al.2.2.2.2.2.2.2.2.2.1, sp_if (by omega), sp_b, Int.toNat_natCast, eL 633 (by omega) (by omega), eL 634 (by omega) (by omega), sp_b, al.2.2.2.2.2.2.2.2.2.2.2]
      try dsimp only
      rw [sp_if (by omega), sp_b, Int.toNat_natCast, t8, sp_244 (hs z), ← e1, sp_bd, if_neg z2]
      try dsimp only
      rw [sp_b]
      try dsimp only
      rw [x5.1.2.2.1, sp_ck (by omega), sp_b, sp_b, show (x : Int) + 1 = ((x + 1 : Nat) : Int) from by omega]
  · have z2 := he.2 z
    rw [if_pos z2, if_pos z2]
    refine ⟨Y, ?_, x4, x5⟩
    unfold jm_299
    rw [rdT hA hB hm (by omega), sp_b, hk, if_neg (by decide)]
    try dsimp only
    rw [← hX, x7, sp_bd, sp_b, x5.1.2.2.1, sp_b, x6.2.2.2.2.1, if_pos (by omega)]
theorem ta_edge (hA : STA k p N M φ ψ own up lo U) (hB : BAS k p U w len S T) (hm : m < N) (hT : TN T td nd (x : Int) had th dp vs h ls n 0) (hn : n ≤ 1000) (hl : len ≤ 160) (hx : x ≤ len) (hk : 1 ≤ U.1 625 (320 * p + m) ∧ U.1 625 (320 * p + m) ≤ 6) : ∃ T1, jm_299 Q ((320 * p + m : Nat) : Int) T = some ((), T1) ∧ AR vs h ls T T1 ∧ TN T1 (if edge U w len (U.1 625 (320 * p + m)) (U.1 629 (320 * p + m)) x = 0 then 5 else 4) nd (x : Int) had th dp vs h ls (n + 1) (flg n) := by
  obtain ⟨X, hX, x1, x2, x3, x4, x5, x6, x7⟩ := ta_go (Q := Q) hA hB hm hT hn
  obtain ⟨Y, hY⟩ : ∃ Y, Y = stq X n := ⟨_, rfl⟩
  rw [← hY] at x4 x5 x6 x7
  have ed := t_295 (Q := Q) hA x6 hl hm x5.1.2.2.1 hx hk
  refine ⟨_, ?_, AR_i x4 (by omega), TN_78 x5⟩
  unfold jm_299
  rw [rdT hA hB hm (by omega), sp_b, if_pos (by omega)]
  try dsimp only
  rw [if_neg (by omega)]
  try dsimp only
  rw [← hX, x7, sp_bd, ed, sp_bd]
  by_cases z : edge U w len (U.1 625 (320 * p + m)) (U.1 629 (320 * p + m)) x = 0
  · rw [if_pos z]
    try dsimp only
    rw [if_pos z]
    try dsimp only
    rw [sp_b]
  · rw [if_neg z]
    try dsimp only
    rw [if_neg z]
    try dsimp only
    rw [sp_b]
theorem ta_hasl {F L : Nat} {md : Int} (hA : STA k p N M φ ψ own up lo U) (hB : BAS k p U w len S T) (hw2 : ∀ i, i < len → sp_sign (U.1 (w + 1) i) = 1) (hl : len ≤ 160) (hm : m < N) (h81 : T.1 621 81 = (x : Int)) (hmd : U.1 629 (320 * p + m) = md) (h0 : 0 ≤ md) (hF : F + L ≤ len) (hx : x + L ≤ len) : ∀ (r q i : Nat), i + r = L → r + 1 < q → ∃ e : Int, (e = 0 ∨ e = 1) ∧ (e = 1 ↔ ∀ y, i ≤ y → y < L → hsM U w len F x md y) ∧ jl_296_59 Q ((320 * p + m : Nat) : Int) (F : Int) (L : Int) q 1 (i : Int) T = some (e, ev_pI T 621 81 (if e = 1 then ((x + L : Nat) : Int) else (x : Int))) := fun r => by
  have al := al_rp.2.2.2.2.2.2.2.2.2.2.2
  induction r with
  | zero =>
    intro q i h1 h2
    obtain ⟨q, rfl⟩ : ∃ r, q = r + 1 := ⟨q - 1, by omega⟩
    refine ⟨1, Or.inr rfl, ⟨fun _ y y1 y2 => by omega, fun _ => rfl⟩, ?_⟩
    show jb_296_59 Q _ _ _ _ _ _ T = _
    unfold jb_296_59
    rw [sp_jn, if_pos (by omega)]
    try dsimp only
    rw [sp_b, h81, if_neg (by decide)]
    try dsimp only
    rw [sp_ck (by omega), sp_b, sp_if (Or.inr rfl), show (x : Int) + (L : Int) = ((x + L : Nat) : Int) from by omega, if_pos rfl]
  | succ r ih =>
    intro q i h1 h2
    obtain ⟨q, rfl⟩ : ∃ r, q = r + 1 := ⟨q - 1, by omega⟩
    have t1 := txa_r hw2 ((F + i : Nat) : Int)
    have t2 := txa_r hw2 ((x + i : Nat) : Int)
    have u1 := (t1.2.2.1 (by omega)).2
    have u2 := (t2.2.2.1 (by omega)).2
    have s1 := t678 hB (show F + i < len by omega)
    have s2 := t678 hB (show x + i < len by omega)
    obtain ⟨e2, he2⟩ : ∃ e2 : Int, e2 = if txa U w len ((F + i : Nat) : Int) = txa U w len ((x + i : Nat) : Int) ∨ (0 < md ∧ oth (txa U w len ((F + i : Nat) : Int)) = txa U w len ((x + i : Nat) : Int)) then 1 else 0 := ⟨_, rfl⟩
    have mm : (txa U w len ((F + i : Nat) : Int) = txa U w len ((x + i : Nat) : Int) ∨ (0 < md ∧ oth (txa U w len ((F + i : Nat) : Int)) = txa U w len ((x + i : Nat) : Int))) ↔ hsM U w len F x md i := by
      unfold hsM
      by_cases z : txa U w len ((F + i : Nat) : Int) = txa U w len ((x + i : Nat) : Int)
      · exact ⟨fun _ => Or.inl z, fun _ => Or.inl z⟩
      · have lo := low_oth z
        exact ⟨fun q => Or.inr (q.elim (fun w => absurd w z) fun w => ⟨by omega, u2, lo.mpr w.2⟩), fun q => Or.inr (q.elim (fun w => absurd w z) fun w => ⟨by omega, lo.mp w.2.2⟩)⟩
    have st : jl_296_59 Q ((320 * p + m : Nat) : Int) (F : Int) (L : Int) (q + 1) 1 (i : Int) T = jl_296_59 Q ((320 * p + m : Nat) : Int) (F : Int) (L : Int) q e2 ((i + 1 : Nat) : Int) T := by
      show jb_296_59 Q _ _ _ _ _ _ T = _
      unfold jb_296_59
      rw [sp_jn, if_neg (by omega)]
      try dsimp only
      rw [if_neg (by decide)]
      try dsimp only
      rw [sp_ck (by omega), al, sp_if (by omega), sp_b, show Int.toNat ((F : Int) + (i : Int)) = F + i from by omega, s1, sp_b, h81, sp_ck (by omega)]
      try dsimp only
      rw [sp_if (by omega), sp_b, show Int.toNat ((x : Int) + (i : Int)) = x + i from by omega, s2, sp_jn, sp_jn]
      by_cases z1 : txa U w len ((F + i : Nat) : Int) = txa U w len ((x + i : Nat) : Int)
      · rw [if_pos (Or.inl z1)] at he2
        rw [if_pos z1]
        try dsimp only
        rw [sp_ck (by omega), he2, show (i : Int) + 1 = ((i + 1 : Nat) : Int) from by omega]
      · rw [if_neg z1]
        try dsimp only
        rw [rdT hA hB hm (by omega), hmd, sp_jn]
        by_cases z2 : md ≤ 0
        · rw [if_neg (by omega)] at he2
          rw [if_pos z2]
          try dsimp only
          rw [sp_ck (by omega), he2, show (i : Int) + 1 = ((i + 1 : Nat) : Int) from by omega]
        · rw [if_neg z2]
          try dsimp only
          rw [sp_229, sp_bd]
          by_cases z3 : oth (txa U w len ((F + i : Nat) : Int)) = txa U w len ((x + i : Nat) : Int)
          · rw [if_pos (Or.inr ⟨by omega, z3⟩)] at he2
            rw [if_neg (fun w => w z3)]
            try dsimp only
            rw [sp_ck (by omega), he2, show (i : Int) + 1 = ((i + 1 : Nat) : Int) from by omega]
          · rw [if_neg (fun w => w.elim z1 (fun w => z3 w.2))] at he2
            rw [if_pos z3]
            try dsimp only
            rw [sp_ck (by omega), he2, show (i : Int) + 1 = ((i + 1 : Nat) : Int) from by omega]
    rw [st]
    by_cases z : hsM U w len F x md i
    · rw [if_pos (mm.mpr z)] at he2
      rw [he2]
      obtain ⟨e, i1, i2, i3⟩ := ih q (i + 1) (by omega) (by omega)
      refine ⟨e, i1, ⟨fun y y2 y3 y4 => ?_, fun y => i2.mpr fun y2 y3 y4 => y y2 (by omega) y4⟩, i3⟩
      by_cases w : y2 = i
      · rw [w]
        exact z
      · exact i2.mp y y2 (by omega) y4
    · rw [if_neg (fun w => z (mm.mp w))] at he2
      rw [he2]
      refine ⟨0, Or.inl rfl, ⟨fun y => by omega, fun y => absurd (y i (Nat.le_refl i) (by omega)) z⟩, ?_⟩
      obtain ⟨q, rfl⟩ : ∃ r, q = r + 1 := ⟨q - 1, by omega⟩
      show jb_296_59 Q _ _ _ _ _ _ T = _
      unfold jb_296_59
      rw [sp_jn]
      have tl : ((fun (s34 : ev_St) => ev_b (s34.1 621 81) fun x35 => if (0 : Int) = 0 then (ev_ck (x35 + 0) fun x37 => ev_b (ev_pI s34 621 81 x37) fun s38 => ev_if (ev_bl 0) (some ((0 : Int), s38))) else (ev_ck (x35 + (L : Int)) fun x40 => ev_b (ev_pI s34 621 81 x40) fun s41 => ev_if (ev_bl 0) (some (0, s41)))) T) = some (0, ev_pI T 621 81 (if (0 : Int) = 1 then ((x + L : Nat) : Int) else (x : Int))) := by
        try dsimp only
        rw [sp_b, h81, if_pos rfl]
        try dsimp only
        rw [sp_ck (by omega), sp_b, sp_if (Or.inl rfl), show (x : Int) + 0 = (x : Int) from by omega, if_neg (by decide)]
      by_cases w : (L : Int) ≤ ((i + 1 : Nat) : Int)
      · rw [if_pos w]
        exact tl
      · rw [if_neg w, if_pos rfl]
        exact tl
theorem ta_has {md y2 : Int} (hA : STA k p N M φ ψ own up lo U) (hB : BAS k p U w len S T) (hw2 : ∀ i, i < len → sp_sign (U.1 (w + 1) i) = 1) (hQ : 20000 ≤ Q) (hl : len ≤ 160) (hm : m < N) (hT : TN T td nd (x : Int) had th dp vs h ls n 0) (hn : n ≤ 1000) (hx : x ≤ len) (hk : U.1 625 (320 * p + m) = 7) (hmd : U.1 629 (320 * p + m) = md) (h0 : 0 ≤ md) (h294 : ∀ T2, AR vs h ls T T2 → T2.1 621 82 = had → jm_294 Q (U.1 628 (320 * p + m)) T2 = some (y2, T2)) : (y2 = -1 → ∃ T1, jm_299 Q ((320 * p + m : Nat) : Int) T = some ((), T1) ∧ AR vs h ls T T1 ∧ TN T1 5 nd (x : Int) had th dp vs h ls (n + 1) (flg n)) ∧ ∀ v F L : Nat, y2 = (v : Int) → v < 30000 → v < ls → T.1 697 v = (F : Int) → T.1 698 v = ((F + L : Nat) : Int) → F + L ≤ len → (HASb U w len F L x md → ∃ T1, jm_299 Q ((320 * p + m : Nat) : Int) T = some ((), T1) ∧ AR vs h ls T T1 ∧ TN T1 4 nd ((x + L : Nat) : Int) had th dp vs h ls (n + 1) (flg n)) ∧ (¬ HASb U w len F L x md → ∃ T1, jm_299 Q ((320 * p + m : Nat) : Int) T = some ((), T1) ∧ AR vs h ls T T1 ∧ TN T1 5 nd (x : Int) had th dp vs h ls (n + 1) (flg n)) := by
  obtain ⟨X, hX, x1, x2, x3, x4, x5, x6, x7⟩ := ta_go (Q := Q) hA hB hm hT hn
  obtain ⟨Y, hY⟩ : ∃ Y, Y = stq X n := ⟨_, rfl⟩
  rw [← hY] at x4 x5 x6 x7
  have e294 := h294 Y x4 x5.1.2.2.2.1
  obtain ⟨l6, l7, l8, l9⟩ := al_L7
  have pre : ∀ (e : Int) (Z : ev_St), jm_296 Q ((320 * p + m : Nat) : Int) Y = some (e, Z) → jm_299 Q ((320 * p + m : Nat) : Int) T = some ((), ev_pI Z 621 78 (if e = 0 then 5 else 4)) := fun e Z he => by
    unfold jm_299
    rw [rdT hA hB hm (by omega), sp_b, if_pos (by omega)]
    try dsimp only
    rw [if_pos (by omega)]
    try dsimp only
    rw [if_neg (by omega)]
    try dsimp only
    rw [← hX, x7, sp_bd, he, sp_bd]
    by_cases z : e = 0
    · rw [if_pos z]
      try dsimp only
      rw [if_pos z]
      try dsimp only
      rw [sp_b]
    · rw [if_neg z]
      try dsimp only
      rw [if_neg z]
      try dsimp only
      rw [sp_b]
  refine ⟨fun z => ?_, fun v F L z1 z2 zl z3 z4 z5 => ?_⟩
  · have e : jm_296 Q ((320 * p + m : Nat) : Int) Y = some (0, Y) := by
      unfold jm_296
      rw [rdT hA x6 hm (by omega), e294, sp_bd, if_neg (fun w => w z)]
    exact ⟨_, pre 0 Y e, AR_i x4 (by omega), by rw [if_pos rfl]; exact TN_78 x5⟩
  · have y7 : Y.1 697 v = (F : Int) := by rw [x4.2.2.1 697 v (by omega) (by omega) zl]; exact z3
    have y8 : Y.1 698 v = ((F + L : Nat) : Int) := by rw [x4.2.2.1 698 v (by omega) (by omega) zl]; exact z4
    have hh := HAS_c (F := F) (L := L) (md := md) hw2 hx z5
    have p2 : jm_296 Q ((320 * p + m : Nat) : Int) Y = (if len < x + L then jl_296_59 Q ((320 * p + m : Nat) : Int) (F : Int) (L : Int) Q 0 0 Y else jl_296_59 Q ((320 * p + m : Nat) : Int) (F : Int) (L : Int) Q 1 0 Y) := by
      unfold jm_296
      rw [rdT hA x6 hm (by omega), e294, sp_bd, if_pos (by omega)]
      try dsimp only
      rw [z1, l7, sp_if (by omega), sp_b, l8, sp_if (by omega), sp_b, Int.toNat_natCast, y7, y8, sp_ck (by omega), sp_b, x5.1.2.2.1, sp_ck (by omega), sp_b, x6.2.2.2.2.1, sp_jn, show ((F + L : Nat) : Int) - (F : Int) = (L : Int) from by omega]
      by_cases q : len < x + L
      · rw [if_pos q, if_pos (by omega)]
      · rw [if_neg q, if_neg (by omega)]
    by_cases q : len < x + L
    · have nh : ¬ HASb U w len F L x md := fun w => by have := w.1; omega
      have e : jm_296 Q ((320 * p + m : Nat) : Int) Y = some (0, ev_pI Y 621 81 (x : Int)) := by
        obtain ⟨Q2, hQ2⟩ : ∃ Q2, Q = Q2 + 1 := ⟨Q - 1, by omega⟩
        have s : jl_296_59 Q ((320 * p + m : Nat) : Int) (F : Int) (L : Int) (Q2 + 1) 0 0 Y = some (0, ev_pI Y 621 81 (x : Int)) := by
          show jb_296_59 Q _ _ _ _ _ _ Y = _
          unfold jb_296_59
          rw [sp_jn]
          have tl : ((fun (s34 : ev_St) => ev_b (s34.1 621 81) fun x35 => if (0 : Int) = 0 then (ev_ck (x35 + 0) fun x37 => ev_b (ev_pI s34 621 81 x37) fun s38 => ev_if (ev_bl 0) (some ((0 : Int), s38))) else (ev_ck (x35 + (L : Int)) fun x40 => ev_b (ev_pI s34 621 81 x40) fun s41 => ev_if (ev_bl 0) (some (0, s41)))) Y) = some (0, ev_pI Y 621 81 (x : Int)) := by
            try dsimp only
            rw [sp_b, x5.1.2.2.1, if_pos rfl]
            try dsimp only
            rw [sp_ck (by omega), sp_b, sp_if (Or.inl rfl), show (x : Int) + 0 = (x : Int) from by omega]
          by_cases w : (L : Int) ≤ 0
          · rw [if_pos w]
            exact tl
          · rw [if_neg w, if_pos rfl]
            exact tl
        rw [p2, if_pos q]
        rw [← hQ2] at s
        exact s
      exact ⟨fun w => absurd w nh, fun _ => ⟨_, pre 0 _ e, AR_i (AR_i x4 (by omega)) (by omega), by rw [if_pos rfl]; exact TN_78 (TN_81 x5)⟩⟩
    · obtain ⟨e, e1, e2, e3⟩ := ta_hasl (Q := Q) (F := F) (L := L) hA x6 hw2 hl hm x5.1.2.2.1 hmd h0 z5 (by omega) L Q 0 (by omega) (by omega)
      rw [if_neg q] at p2
      have e4 := p2.trans e3
      refine ⟨fun w => ?_, fun w => ?_⟩
      · have q1 : e = 1 := e2.mpr (hh.mpr w)
        rw [q1, if_pos rfl] at e4
        exact ⟨_, pre 1 _ e4, AR_i (AR_i x4 (by omega)) (by omega), by rw [if_neg (by decide)]; exact TN_78 (TN_81 x5)⟩
      · have q1 : e = 0 := e1.resolve_right fun w2 => w (hh.mp (e2.mp w2))
        rw [q1, if_neg (by decide)] at e4
        exact ⟨_, pre 0 _ e4, AR_i (AR_i x4 (by omega)) (by omega), by rw [if_pos rfl]; exact TN_78 (TN_81 x5)⟩
end OPZR
