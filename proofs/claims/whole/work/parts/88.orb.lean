/-! ENGINES: ends and boundaries, under less -/
section ORB
variable {Q k p m w len : Nat} {S T U : ev_St} {x : Nat} {β : Type}
theorem e_155b {kd md : Int} (hw : ev_isOb w 10 = true ∧ S.1 w 1 = (len : Int) ∧ len ≤ 160 ∧ ∀ g, S.1 (w + 1) g = U.1 (w + 1) g) (hx : x ≤ len) (hk : 1 ≤ kd ∧ kd ≤ 6) (hm : 0 ≤ md) : jm_155 Q w (kcl kd md) (x : Int) S = some (edge U w len kd md x, S) := by
  have e1 : S.1 w 1 = (len : Int) := hw.2.1
  have cc : ∀ y : Int, jm_151 Q w y S = some (txa U w len y, S) := fun y => by
    rw [sp_151 hw.1 (by omega)]
    unfold sp_at txa
    rw [e1, hw.2.2.2]
  have first : (if (x : Int) ≠ 0 then some (0, S) else some (1, S)) = some ((if x = 0 then (1 : Int) else 0), S) := by
    by_cases z : x = 0
    · rw [if_neg (by omega), if_pos z]
    · rw [if_pos (by omega), if_neg z]
  have last : (ev_b (S.1 w 1) fun x10 => if (x : Int) ≠ x10 then some (0, S) else some (1, S)) = some ((if x = len then (1 : Int) else 0), S) := by
    rw [sp_b, e1]
    by_cases z : x = len
    · rw [if_neg (by omega), if_pos z]
    · rw [if_pos (by omega), if_neg z]
  obtain rfl | rfl | rfl | rfl | rfl | rfl : kd = 1 ∨ kd = 2 ∨ kd = 3 ∨ kd = 4 ∨ kd = 5 ∨ kd = 6 := by omega
  · by_cases z : md = 0
    · have q : kcl 1 md = 1 := by rw [kcl_v.2.2.2.2.2.2.2.2.2.2.2.2.1 rfl, if_pos z]
      rw [q]
      unfold jm_155 edge
      by_cases y : x = 0
      · rw [if_pos rfl, first, if_pos y, if_pos (show (1 : Int) = 1 ∨ (1 : Int) = 3 by decide), if_pos (Or.inl y)]
      · rw [if_pos rfl, first, if_neg y, if_pos (show (1 : Int) = 1 ∨ (1 : Int) = 3 by decide), if_neg (by omega)]
    · have q : kcl 1 md = 2 := by rw [kcl_v.2.2.2.2.2.2.2.2.2.2.2.2.1 rfl, if_neg z]
      rw [q]
      unfold jm_155 edge
      rw [if_neg (by decide), if_pos rfl, if_pos (show (1 : Int) = 1 ∨ (1 : Int) = 3 by decide)]
      by_cases y : x = 0
      · rw [if_pos (by omega), if_pos (Or.inl y)]
      · rw [if_neg (by omega)]
        try dsimp only
        rw [sp_ck (by omega), cc, sp_bd]
        by_cases y2 : txa U w len ((x : Int) - 1) = 10
        · rw [if_neg (fun w => w y2), if_pos (Or.inr ⟨rfl, by omega, y2⟩)]
        · rw [if_pos y2, if_neg (fun w => w.elim y (fun w => y2 w.2.2))]
  · by_cases z : md = 0
    · have q : kcl 2 md = 3 := by rw [kcl_v.2.2.2.2.2.2.2.2.2.2.2.2.2.1 rfl, if_pos z]
      rw [q]
      unfold jm_155 edge
      by_cases y : x = len
      · rw [if_neg (by decide), if_neg (by decide), if_pos rfl, last, if_pos y, if_neg (show ¬ ((2 : Int) = 1 ∨ (2 : Int) = 3) by decide), if_pos (show (2 : Int) = 2 ∨ (2 : Int) = 4 by decide), if_pos (Or.inl y)]
      · rw [if_neg (by decide), if_neg (by decide), if_pos rfl, last, if_neg y, if_neg (show ¬ ((2 : Int) = 1 ∨ (2 : Int) = 3) by decide), if_pos (show (2 : Int) = 2 ∨ (2 : Int) = 4 by decide), if_neg (by omega)]
    · have q : kcl 2 md = 4 := by rw [kcl_v.2.2.2.2.2.2.2.2.2.2.2.2.2.1 rfl, if_neg z]
      rw [q]
      unfold jm_155 edge
      rw [if_neg (by decide)]
      try dsimp only
      rw [if_neg (by decide)]
      try dsimp only
      rw [if_neg (by decide)]
      try dsimp only
      rw [if_pos rfl]
      try dsimp only
      rw [if_neg (show ¬ ((2 : Int) = 1 ∨ (2 : Int) = 3) by decide)]
      try dsimp only
      rw [if_pos (show (2 : Int) = 2 ∨ (2 : Int) = 4 by decide)]
      try dsimp only
      rw [sp_b, e1]
      by_cases y : x = len
      · rw [if_pos (by omega), if_pos (Or.inl y)]
      · rw [if_neg (by omega)]
        try dsimp only
        rw [cc, sp_bd]
        by_cases y2 : txa U w len (x : Int) = 10
        · rw [if_neg (fun w => w y2), if_pos (Or.inr ⟨rfl, by omega, y2⟩)]
        · rw [if_pos y2, if_neg (fun w => w.elim y (fun w => y2 w.2.2))]
  · rw [kcl_v.2.2.2.2.2.2.2.2.2.2.2.2.2.2.1 rfl]
    unfold jm_155 edge
    by_cases y : x = 0
    · rw [if_pos rfl, first, if_pos y, if_pos (show (3 : Int) = 1 ∨ (3 : Int) = 3 by decide), if_pos (Or.inl y)]
    · rw [if_pos rfl, first, if_neg y, if_pos (show (3 : Int) = 1 ∨ (3 : Int) = 3 by decide), if_neg (by omega)]
  · rw [kcl_v.2.2.2.2.2.2.2.2.2.2.2.2.2.2.2.1 rfl]
    unfold jm_155 edge
    by_cases y : x = len
    · rw [if_neg (by decide), if_neg (by decide), if_pos rfl, last, if_pos y, if_neg (show ¬ ((4 : Int) = 1 ∨ (4 : Int) = 3) by decide), if_pos (show (4 : Int) = 2 ∨ (4 : Int) = 4 by decide), if_pos (Or.inl y)]
    · rw [if_neg (by decide), if_neg (by decide), if_pos rfl, last, if_neg y, if_neg (show ¬ ((4 : Int) = 1 ∨ (4 : Int) = 3) by decide), if_pos (show (4 : Int) = 2 ∨ (4 : Int) = 4 by decide), if_neg (by omega)]
  · rw [kcl_v.2.2.2.2.2.2.2.2.2.2.2.2.2.2.2.2.1 rfl]
    unfold jm_155 edge
    rw [if_neg (by decide)]
    try dsimp only
    rw [if_neg (by decide)]
    try dsimp only
    rw [if_neg (by decide)]
    try dsimp only
    rw [if_neg (by decide)]
    try dsimp only
    rw [if_pos rfl]
    try dsimp only
    rw [sp_ck (by omega), cc, sp_bd, sp_210, sp_bd, cc, sp_bd, sp_210, sp_bd, if_neg (show ¬ ((5 : Int) = 1 ∨ (5 : Int) = 3) by decide)]
    try dsimp only
    rw [if_neg (show ¬ ((5 : Int) = 2 ∨ (5 : Int) = 4) by decide)]
    try dsimp only
    rw [if_pos (show (5 : Int) = 5 from rfl)]
    by_cases y : ch_w (txa U w len ((x : Int) - 1)) = ch_w (txa U w len (x : Int))
    · rw [if_pos y, if_pos y]
    · rw [if_neg y, if_neg y]
  · rw [kcl_v.2.2.2.2.2.2.2.2.2.2.2.2.2.2.2.2.2 rfl]
    unfold jm_155 edge
    rw [if_neg (by decide)]
    try dsimp only
    rw [if_neg (by decide)]
    try dsimp only
    rw [if_neg (by decide)]
    try dsimp only
    rw [if_neg (by decide)]
    try dsimp only
    rw [if_neg (by decide)]
    try dsimp only
    rw [sp_ck (by omega), cc, sp_bd, sp_210, sp_bd, cc, sp_bd, sp_210, sp_bd, if_neg (show ¬ ((6 : Int) = 1 ∨ (6 : Int) = 3) by decide)]
    try dsimp only
    rw [if_neg (show ¬ ((6 : Int) = 2 ∨ (6 : Int) = 4) by decide)]
    try dsimp only
    rw [if_neg (show ¬ ((6 : Int) = 5) by decide)]
    by_cases y : ch_w (txa U w len ((x : Int) - 1)) = ch_w (txa U w len (x : Int))
    · rw [if_neg (fun z => z y), if_pos y]
    · rw [if_pos y, if_neg y]
/-- what the reference has at hand -/
def BTx (p m : Nat) (U : ev_St) (w len : Nat) (T : ev_St) : Prop := T.1 625 (320 * p + m) = U.1 625 (320 * p + m) ∧ T.1 629 (320 * p + m) = U.1 629 (320 * p + m) ∧ T.1 621 73 = (len : Int) ∧ (∀ i, i < len → T.1 678 i = U.1 (w + 1) i) ∧ 320 * p + m < 4160
theorem rdTb {c : Nat} (hB : BTx p m U w len T) (hc : c = 625 ∨ c = 629) {K : Int → Option β} : (ev_if ((0 : Int) ≤ ((320 * p + m : Nat) : Int) ∧ ((320 * p + m : Nat) : Int) < (ev_aln c : Int)) (ev_b (T.1 c (Int.toNat ((320 * p + m : Nat) : Int))) K)) = K (U.1 c (320 * p + m)) := by
  have al := al_rp
  have q := hB.2.2.2.2
  rcases hc with rfl | rfl
  · rw [al.1, sp_if (by omega), Int.toNat_natCast, sp_b, hB.1]
  · rw [al.2.2.2.2.1, sp_if (by omega), Int.toNat_natCast, sp_b, hB.2.1]
theorem t678b (hB : BTx p m U w len T) {i : Nat} (hi : i < len) : T.1 678 i = txa U w len (i : Int) := by
  unfold txa
  rw [if_pos (by omega), Int.toNat_natCast]
  exact hB.2.2.2.1 i hi
theorem t_289b (hB : BTx p m U w len T) (hl : len ≤ 160) {y : Int} (hy : -1 ≤ y ∧ y ≤ 160) : jm_289 Q y T = some (ch_w (txa U w len y), T) := by
  have l := al_rp.2.2.2.2.2.2.2.2.2.2.2
  unfold jm_289
  rw [sp_b, hB.2.2.1, sp_ck (by omega), sp_222, sp_bd]
  by_cases z : 0 ≤ y ∧ y < (len : Int)
  · rw [show sp_in y 0 ((len : Int) - 1) = 1 from by unfold sp_in; rw [if_neg (by omega), if_neg (by omega)], if_neg (by decide)]
    try dsimp only
    rw [sp_if (by omega), sp_b, sp_227, sp_bd]
    have e : T.1 678 (Int.toNat y) = txa U w len y := by
      rw [t678b hB (show y.toNat < len by omega), show ((y.toNat : Nat) : Int) = y from by omega]
    rw [e]
    rcases (ch_w_i (txa U w len y)).2 with q | q
    · rw [q, if_pos rfl]
    · rw [q, if_neg (by decide)]
  · have e : txa U w len y = -1 := if_neg z
    have i0 : sp_in y 0 ((len : Int) - 1) = 0 := by
      unfold sp_in
      by_cases w : y < 0
      · rw [if_pos w]
      · rw [if_neg w, if_pos (by omega)]
    rw [i0, if_pos rfl, e]
    rfl
theorem t_295b (hB : BTx p m U w len T) (hl : len ≤ 160) (h81 : T.1 621 81 = (x : Int)) (hx : x ≤ len) (hk : 1 ≤ U.1 625 (320 * p + m) ∧ U.1 625 (320 * p + m) ≤ 6) : jm_295 Q ((320 * p + m : Nat) : Int) T = some (edge U w len (U.1 625 (320 * p + m)) (U.1 629 (320 * p + m)) x, T) := by
  have l := al_rp.2.2.2.2.2.2.2.2.2.2.2
  obtain ⟨kd, hkd⟩ : ∃ kd, kd = U.1 625 (320 * p + m) := ⟨_, rfl⟩
  obtain ⟨md, hmd⟩ : ∃ md, md = U.1 629 (320 * p + m) := ⟨_, rfl⟩
  obtain ⟨fi, hfi⟩ : ∃ fi : Int, fi = if x = 0 then 1 else 0 := ⟨_, rfl⟩
  obtain ⟨la, hla⟩ : ∃ la : Int, la = if x = len then 1 else 0 := ⟨_, rfl⟩
  obtain ⟨bo, hbo⟩ : ∃ bo : Int, bo = if ch_w (txa U w len ((x : Int) - 1)) = ch_w (txa U w len (x : Int)) then 0 else 1 := ⟨_, rfl⟩
  -- what it comes to, once first, last, bound are known
  have fin : ∀ {O : Option (Int × ev_St)}, O = (ev_jn (fun (x32 : Int) (s38 : ev_St) => if fi ≠ 0 then (some ((1 : Int), s38)) else (if x32 ≠ 1 then (some (0, s38)) else (ev_if ((0 : Int) ≤ ((320 * p + m : Nat) : Int) ∧ ((320 * p + m : Nat) : Int) < (ev_aln 629 : Int)) (ev_b (s38.1 629 (Int.toNat ((320 * p + m : Nat) : Int))) fun x41 => if x41 ≤ 0 then (some (0, s38)) else (ev_b (s38.1 621 81) fun x43 => ev_ck (x43 - 1) fun x44 => ev_if ((0 : Int) ≤ x44 ∧ x44 < (ev_aln 678 : Int)) (ev_b (s38.1 678 (Int.toNat x44)) fun x45 => if x45 ≠ 10 then (some (0, s38)) else (some (1, s38)))))))) fun K78 => if kd = 1 then (K78 kd T) else (if kd ≠ 3 then (ev_jn (fun (s54 : ev_St) => if la ≠ 0 then (some (1, s54)) else (if kd ≠ 2 then (some (0, s54)) else (ev_if ((0 : Int) ≤ ((320 * p + m : Nat) : Int) ∧ ((320 * p + m : Nat) : Int) < (ev_aln 629 : Int)) (ev_b (s54.1 629 (Int.toNat ((320 * p + m : Nat) : Int))) fun x57 => if x57 ≤ 0 then (some (0, s54)) else (ev_b (s54.1 621 81) fun x59 => ev_if ((0 : Int) ≤ x59 ∧ x59 < (ev_aln 678 : Int)) (ev_b (s54.1 678 (Int.toNat x59)) fun x60 => if x60 ≠ 10 then (some (0, s54)) else (some (1, s54)))))))) fun K131 => if kd = 2 then (K131 T) else (if kd ≠ 4 then (if kd ≠ 5 then (if bo ≠ 0 then (some (0, T)) else (some (1, T))) else (ev_if (ev_bl bo) (some (bo, T)))) else (K131 T))) else (K78 kd T))) → O = some (edge U w len kd md x, T) := fun {O} hO => by
    rw [hO, sp_jn]
    rw [← hkd] at hk
    have k78 : kd = 1 ∨ kd = 3 → (if fi ≠ 0 then (some ((1 : Int), T)) else (if kd ≠ 1 then (some (0, T)) else (ev_if ((0 : Int) ≤ ((320 * p + m : Nat) : Int) ∧ ((320 * p + m : Nat) : Int) < (ev_aln 629 : Int)) (ev_b (T.1 629 (Int.toNat ((320 * p + m : Nat) : Int))) fun x41 => if x41 ≤ 0 then (some (0, T)) else (ev_b (T.1 621 81) fun x43 => ev_ck (x43 - 1) fun x44 => ev_if ((0 : Int) ≤ x44 ∧ x44 < (ev_aln 678 : Int)) (ev_b (T.1 678 (Int.toNat x44)) fun x45 => if x45 ≠ 10 then (some (0, T)) else (some (1, T)))))))) = some (edge U w len kd md x, T) := fun hk2 => by
      unfold edge
      rw [if_pos hk2]
      by_cases y : x = 0
      · rw [if_pos y] at hfi
        rw [if_pos (by omega), if_pos (Or.inl y)]
      · rw [if_neg y] at hfi
        rw [if_neg (by omega)]
        rcases hk2 with z | z
        · rw [if_neg (fun w => w z)]
          try dsimp only
          rw [rdTb hB (by omega), ← hmd]
          by_cases z2 : md ≤ 0
          · rw [if_pos z2, if_neg (by omega)]
          · have e := t678b hB (show x - 1 < len by omega)
            rw [show ((x - 1 : Nat) : Int) = (x : Int) - 1 from by omega] at e
            rw [if_neg z2]
            try dsimp only
            rw [sp_b, h81, sp_ck (by omega), sp_if (by omega), sp_b, show Int.toNat ((x : Int) - 1) = x - 1 from by omega, e]
            by_cases z3 : txa U w len ((x : Int) - 1) = 10
            · rw [if_neg (fun w => w z3), if_pos (Or.inr ⟨z, by omega, z3⟩)]
            · rw [if_pos z3, if_neg (fun w => w.elim y (fun w => z3 w.2.2))]
        · rw [if_pos (by omega), if_neg (by omega)]
    have k131 : kd = 2 ∨ kd = 4 → (if la ≠ 0 then (some ((1 : Int), T)) else (if kd ≠ 2 then (some (0, T)) else (ev_if ((0 : Int) ≤ ((320 * p + m : Nat) : Int) ∧ ((320 * p + m : Nat) : Int) < (ev_aln 629 : Int)) (ev_b (T.1 629 (Int.toNat ((320 * p + m : Nat) : Int))) fun x57 => if x57 ≤ 0 then (some (0, T)) else (ev_b (T.1 621 81) fun x59 => ev_if ((0 : Int) ≤ x59 ∧ x59 < (ev_aln 678 : Int)) (ev_b (T.1 678 (Int.toNat x59)) fun x60 => if x60 ≠ 10 then (some (0, T)) else (some (1, T)))))))) = some (edge U w len kd md x, T) := fun hk2 => by
      unfold edge
      rw [if_neg (show ¬ (kd = 1 ∨ kd = 3) by omega), if_pos hk2]
      by_cases y : x = len
      · rw [if_pos y] at hla
        rw [if_pos (by omega), if_pos (Or.inl y)]
      · rw [if_neg y] at hla
        rw [if_neg (by omega)]
        rcases hk2 with z | z
        · rw [if_neg (fun w => w z)]
          try dsimp only
          rw [rdTb hB (by omega), ← hmd]
          by_cases z2 : md ≤ 0
          · rw [if_pos z2, if_neg (by omega)]
          · have e := t678b hB (show x < len by omega)
            rw [if_neg z2]
            try dsimp only
            rw [sp_b, h81, sp_if (by omega), sp_b, Int.toNat_natCast, e]
            by_cases z3 : txa U w len (x : Int) = 10
            · rw [if_neg (fun w => w z3), if_pos (Or.inr ⟨z, by omega, z3⟩)]
            · rw [if_pos z3, if_neg (fun w => w.elim y (fun w => z3 w.2.2))]
        · rw [if_pos (by omega), if_neg (by omega)]
    by_cases z1 : kd = 1
    · rw [if_pos z1]
      exact k78 (Or.inl z1)
    · rw [if_neg z1]
      by_cases z3 : kd = 3
      · rw [if_neg (fun w => w z3)]
        exact k78 (Or.inr z3)
      · rw [if_pos z3]
        try dsimp only
        rw [sp_jn]
        by_cases z2 : kd = 2
        · rw [if_pos z2]
          exact k131 (Or.inl z2)
        · rw [if_neg z2]
          by_cases z4 : kd = 4
          · rw [if_neg (fun w => w z4)]
            exact k131 (Or.inr z4)
          · rw [if_pos z4]
            unfold edge
            rw [if_neg (show ¬ (kd = 1 ∨ kd = 3) by omega), if_neg (show ¬ (kd = 2 ∨ kd = 4) by omega)]
            by_cases z5 : kd = 5
            · rw [if_neg (fun w => w z5), if_pos z5, hbo]
              by_cases y : ch_w (txa U w len ((x : Int) - 1)) = ch_w (txa U w len (x : Int))
              · rw [if_pos y]
                try dsimp only
                rw [sp_if (Or.inl rfl)]
              · rw [if_neg y]
                try dsimp only
                rw [sp_if (Or.inr rfl)]
            · rw [if_pos z5, if_neg z5, hbo]
              by_cases y : ch_w (txa U w len ((x : Int) - 1)) = ch_w (txa U w len (x : Int))
              · rw [if_pos y, if_neg (by decide), if_pos y]
              · rw [if_neg y, if_pos (by decide), if_neg y]
  rw [← hkd, ← hmd]
  refine fin ?_
  unfold jm_295
  rw [sp_b, h81, jn_if (v := fi) (fun y => by rw [hfi, if_neg (by omega)]) (fun y => by rw [hfi, if_pos (by omega)])]
  try dsimp only
  rw [sp_b, h81, sp_b, hB.2.2.1, jn_if2 (v := la) (fun y => by rw [hla, if_neg (by omega)]) (fun y => by rw [hla, if_pos (by omega)])]
  try dsimp only
  rw [sp_b, h81, sp_ck (by omega), t_289b hB hl ⟨by omega, by omega⟩, sp_bd, sp_b, t_289b hB hl ⟨by omega, by omega⟩, sp_bd, jn_if2 (v := bo) (fun y => by rw [h81] at y; rw [hbo, if_pos y]) (fun y => by rw [h81] at y; rw [hbo, if_neg y])]
  try dsimp only
  rw [rdTb hB (by omega), ← hkd]
theorem edge_01 {kd md : Int} : edge U w len kd md x = 0 ∨ edge U w len kd md x = 1 := by
  unfold edge
  (repeat' split) <;> first | exact Or.inl rfl | exact Or.inr rfl
end ORB
