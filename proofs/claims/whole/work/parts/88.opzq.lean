/-! SEARCH: what a group has; the reference's ends and boundaries -/
section OPZQ
variable {Q k p N M m n h us u w len b v j vs ls ng : Nat} {φ ψ own up lo : Nat → Nat} {S S1 S2 T T1 U : ev_St} {c f g a had th dp td nd fl : Int} {x x0 l d : Nat}
theorem e_got {md x2 y2 : Int} (hA : STA k p N M φ ψ own up lo U) (hB : BAS k p U w len S T) (hw : ev_isOb w 10 = true ∧ w < 280 ∧ U.1 w 1 = (len : Int) ∧ len ≤ 160) (hw2 : ∀ i, i < len → sp_sign (U.1 (w + 1) i) = 1) (hQ : 20000 ≤ Q) (hb : b < M) (hN : CN S c (x : Int) f g us h n (x0 : Int)) (hx : x ≤ len) (hs : us ≤ 76072) (h3 : U.1 (k + 3) b = md) (h129 : jm_129 Q (U.1 (k + 2) b) S = some (x2, S)) : (x2 = -1 → R136 Q (b : Int) 7 S = some (0, S)) ∧ ∀ u F L : Nat, x2 = (u : Int) → u + 4 ≤ us → S.1 282 (u + 2) = (F : Int) → S.1 282 (u + 3) = ((F + L : Nat) : Int) → F + L ≤ len → (HASb U w len F L x md → ∃ S1, R136 Q (b : Int) 7 S = some (1, S1) ∧ AC us h S S1 ∧ CN S1 (U.1 (k + 7) b) ((x + L : Nat) : Int) f g us h n (x0 : Int)) ∧ (¬ HASb U w len F L x md → R136 Q (b : Int) 7 S = some (0, S)) := by
  have pre : R136 Q (b : Int) 7 S = ev_bd (jm_137 Q (b : Int) S) fun x41 s40 => ev_if (ev_bl x41) (some (x41, s40)) := by
    unfold R136
    rw [j61.2 (by omega), sp_bd, if_pos rfl]
    try dsimp only
    rw [if_neg (by decide)]
    try dsimp only
    rw [if_neg (by decide)]
    try dsimp only
    rw [if_pos rfl]
  refine ⟨fun z => ?_, fun u F L z1 z2 z3 z4 z5 => ?_⟩
  · have e : jm_137 Q (b : Int) S = some (0, S) := by
      unfold jm_137
      rw [rdk (j := 2) hA hB hb (by omega), h129, sp_bd, if_neg (by omega)]
    rw [pre, e, sp_bd, sp_if (Or.inl rfl)]
  · obtain ⟨fd, hfd⟩ : ∃ fd : Int, fd = if md = 0 then 0 else 1 := ⟨_, rfl⟩
    obtain ⟨e, e1, e2, e3⟩ := e_hasl (Q := Q) (F := F) (L := L) hA hB hw hw2 hb hN hx (by omega) hfd L Q 0 (by omega) (by omega)
    have st : jm_137 Q (b : Int) S = some (e, if e = 1 then ev_pI (ev_pI S 281 3 ((x + L : Nat) : Int)) 281 2 (U.1 (k + 7) b) else S) := by
      unfold jm_137
      rw [rdk (j := 2) hA hB hb (by omega), h129, sp_bd, if_pos (by omega)]
      try dsimp only
      rw [z1, rdc2 (by omega), z3, rdc3 (by omega), z4, sp_ck (by omega), rdk (j := 3) hA hB hb (by omega), h3, sp_jn, show ((F + L : Nat) : Int) - (F : Int) = (L : Int) from by omega]
      by_cases q : md = 0
      · rw [if_pos q] at hfd
        rw [hfd] at e3
        rw [if_pos q]
        exact e3
      · rw [if_neg q] at hfd
        rw [hfd] at e3
        rw [if_neg q]
        exact e3
    have hh := HAS_c (F := F) (L := L) (md := md) hw2 hx z5
    refine ⟨fun q => ?_, fun q => ?_⟩
    · have q1 : e = 1 := e2.mpr (hh.mpr q)
      rw [q1, if_pos rfl] at st
      exact ⟨_, by rw [pre, st, sp_bd, sp_if (Or.inr rfl)], AC_i (AC_i AC_r), CN_2 (CN_3 hN)⟩
    · have q1 : e = 0 := e1.resolve_right fun w => q (hh.mp (e2.mp w))
      rw [q1, if_neg (by decide)] at st
      rw [pre, st, sp_bd, sp_if (Or.inl rfl)]
/-- the text of the reference -/
theorem t678 (hB : BAS k p U w len S T) {i : Nat} (hi : i < len) : T.1 678 i = txa U w len (i : Int) := by
  unfold txa
  rw [if_pos (by omega), Int.toNat_natCast]
  exact hB.2.2.2.2.2 i hi
theorem t_289 (hB : BAS k p U w len S T) (hl : len ≤ 160) {y : Int} (hy : -1 ≤ y ∧ y ≤ 160) : jm_289 Q y T = some (ch_w (txa U w len y), T) := by
  have l := al_rp.2.2.2.2.2.2.2.2.2.2.2
  unfold jm_289
  rw [sp_b, hB.2.2.2.2.1, sp_ck (by omega), sp_222, sp_bd]
  by_cases z : 0 ≤ y ∧ y < (len : Int)
  · rw [show sp_in y 0 ((len : Int) - 1) = 1 from by unfold sp_in; rw [if_neg (by omega), if_neg (by omega)], if_neg (by decide)]
    try dsimp only
    rw [sp_if (by omega), sp_b, sp_227, sp_bd]
    have e : T.1 678 (Int.toNat y) = txa U w len y := by
      rw [t678 hB (show y.toNat < len by omega), show ((y.toNat : Nat) : Int) = y from by omega]
    rw [e]
    rcases (ch_w_i (txa U w len y)).2 with q | q
    · rw [q, if_pos rfl]
    · rw [q, if_neg (by decide)]
  · have e : txa U w len y = -1 := if_neg z
    have i0 : sp_in y 0 ((len : Int) - 1) = 0 := by
      unfold sp_in
      by_cases w : y < 0
      · rw [if_pos w]
      · rw [if_neg w, if_pos (by omega)]
    rw [i0, if_pos rfl, e]
    rfl
theorem jn_if {γ : Type} {c : Prop} [Decidable c] {a b v : Int} {t : Int → ev_St → γ} (h1 : c → v = a) (h2 : ¬ c → v = b) : (ev_jn t fun K => if c then K a S else K b S) = t v S := by
  rw [sp_jn]
  by_cases z : c
  · rw [if_pos z, h1 z]
  · rw [if_neg z, h2 z]
theorem jn_if2 {γ : Type} {c : Prop} [Decidable c] {a b v y : Int} {t : Int → Int → ev_St → γ} (h1 : c → v = a) (h2 : ¬ c → v = b) : (ev_jn t fun K => if c then K y a S else K y b S) = t y v S := by
  rw [sp_jn]
  by_cases z : c
  · rw [if_pos z, h1 z]
  · rw [if_neg z, h2 z]
theorem t_295 (hA : STA k p N M φ ψ own up lo U) (hB : BAS k p U w len S T) (hl : len ≤ 160) (hm : m < N) (h81 : T.1 621 81 = (x : Int)) (hx : x ≤ len) (hk : 1 ≤ U.1 625 (320 * p + m) ∧ U.1 625 (320 * p + m) ≤ 6) : jm_295 Q ((320 * p + m : Nat) : Int) T = some (edge U w len (U.1 625 (320 * p + m)) (U.1 629 (320 * p + m)) x, T) := by
  have l := al_rp.2.2.2.2.2.2.2.2.2.2.2
  obtain ⟨kd, hkd⟩ : ∃ kd, kd = U.1 625 (320 * p + m) := ⟨_, rfl⟩
  obtain ⟨md, hmd⟩ : ∃ md, md = U.1 629 (320 * p + m) := ⟨_, rfl⟩
  obtain ⟨fi, hfi⟩ : ∃ fi : Int, fi = if x = 0 then 1 else 0 := ⟨_, rfl⟩
  obtain ⟨la, hla⟩ : ∃ la : Int, la = if x = len then 1 else 0 := ⟨_, rfl⟩
  obtain ⟨bo, hbo⟩ : ∃ bo : Int, bo = if ch_w (txa U w len ((x : Int) - 1)) = ch_w (txa U w len (x : Int)) then 0 else 1 := ⟨_, rfl⟩
  -- what it comes to, once first, last, bound are known
  have fin : ∀ {O : Option (Int × ev_St)}, O = (ev_jn (fun (x32 : Int) (s38 : ev_St) => if fi ≠ 0 then (some ((1 : Int), s38)) else (if x32 ≠ 1 then (some (0, s38)) else (ev_if ((0 : Int) ≤ ((320 * p + m : Nat) : Int) ∧ ((320 * p + m : Nat) : Int) < (ev_aln 629 : Int)) (ev_b (s38.1 629 (Int.toNat ((320 * p + m : Nat) : Int))) fun x41 => if x41 ≤ 0 then (some (0, s38)) else (ev_b (s38.1 621 81) fun x43 => ev_ck (x43 - 1) fun x44 => ev_if ((0 : Int) ≤ x44 ∧ x44 < (ev_aln 678 : Int)) (ev_b (s38.1 678 (Int.toNat x44)) fun x45 => if x45 ≠ 10 then (some (0, s38)) else (some (1, s38)))))))) fun K78 => if kd = 1 then (K78 kd T) else (if kd ≠ 3 then (ev_jn (fun (s54 : ev_St) => if la ≠ 0 then (some (1, s54)) else (if kd ≠ 2 then (some (0, s54)) else (ev_if ((0 : Int) ≤ ((320 * p + m : Nat) : Int) ∧ ((320 * p + m : Nat) : Int) < (ev_aln 629 : Int)) (ev_b (s54.1 629 (Int.toNat ((320 * p + m : Nat) : Int))) fun x57 => if x57 ≤ 0 then (some (0, s54)) else (ev_b (s54.1 621 81) fun x59 => ev_if ((0 : Int) ≤ x59 ∧ x59 < (ev_aln 678 : Int)) (ev_b (s54.1 678 (Int.toNat x59)) fun x60 => if x60 ≠ 10 then (some (0, s54)) else (some (1, s54)))))))) fun K131 => if kd = 2 then (K131 T) else (if kd ≠ 4 then (if kd ≠ 5 then (if bo ≠ 0 then (some (0, T)) else (some (1, T))) else (ev_if (ev_bl bo) (some (bo, T)))) else (K131 T))) else (K78 kd T))) → O = some (edge U w len kd md x, T) := fun {O} hO => by
    rw [hO, sp_jn]
    rw [← hkd] at hk
    have k78 : kd = 1 ∨ kd = 3 → (if fi ≠ 0 then (some ((1 : Int), T)) else (if kd ≠ 1 then (some (0, T)) else (ev_if ((0 : Int) ≤ ((320 * p + m : Nat) : Int) ∧ ((320 * p + m : Nat) : Int) < (ev_aln 629 : Int)) (ev_b (T.1 629 (Int.toNat ((320 * p + m : Nat) : Int))) fun x41 => if x41 ≤ 0 then (some (0, T)) else (ev_b (T.1 621 81) fun x43 => ev_ck (x43 - 1) fun x44 => ev_if ((0 : Int) ≤ x44 ∧ x44 < (ev_aln 678 : Int)) (ev_b (T.1 678 (Int.toNat x44)) fun x45 => if x45 ≠ 10 then (some (0, T)) else (some (1, T)))))))) = some (edge U w len kd md x, T) := fun hk2 => by
      unfold edge
      rw [if_pos hk2]
      by_cases y : x = 0
      · rw [if_pos y] at hfi
        rw [if_pos (by omega), if_pos (Or.inl y)]
      · rw [if_neg y] at hfi
        rw [if_neg (by omega)]
        rcases hk2 with z | z
        · rw [if_neg (fun w => w z)]
          try dsimp only
          rw [rdT hA hB hm (by omega), ← hmd]
          by_cases z2 : md ≤ 0
          · rw [if_pos z2, if_neg (by omega)]
          · have e := t678 hB (show x - 1 < len by omega)
            rw [show ((x - 1 : Nat) : Int) = (x : Int) - 1 from by omega] at e
            rw [if_neg z2]
            try dsimp only
            rw [sp_b, h81, sp_ck (by omega), sp_if (by omega), sp_b, show Int.toNat ((x : Int) - 1) = x - 1 from by omega, e]
            by_cases z3 : txa U w len ((x : Int) - 1) = 10
            · rw [if_neg (fun w => w z3), if_pos (Or.inr ⟨z, by omega, z3⟩)]
            · rw [if_pos z3, if_neg (fun w => w.elim y (fun w => z3 w.2.2))]
        · rw [if_pos (by omega), if_neg (by omega)]
    have k131 : kd = 2 ∨ kd = 4 → (if la ≠ 0 then (some ((1 : Int), T)) else (if kd ≠ 2 then (some (0, T)) else (ev_if ((0 : Int) ≤ ((320 * p + m : Nat) : Int) ∧ ((320 * p + m : Nat) : Int) < (ev_aln 629 : Int)) (ev_b (T.1 629 (Int.toNat ((320 * p + m : Nat) : Int))) fun x57 => if x57 ≤ 0 then (some (0, T)) else (ev_b (T.1 621 81) fun x59 => ev_if ((0 : Int) ≤ x59 ∧ x59 < (ev_aln 678 : Int)) (ev_b (T.1 678 (Int.toNat x59)) fun x60 => if x60 ≠ 10 then (some (0, T)) else (some (1, T)))))))) = some (edge U w len kd md x, T) := fun hk2 => by
      unfold edge
      rw [if_neg (show ¬ (kd = 1 ∨ kd = 3) by omega), if_pos hk2]
      by_cases y : x = len
      · rw [if_pos y] at hla
        rw [if_pos (by omega), if_pos (Or.inl y)]
      · rw [if_neg y] at hla
        rw [if_neg (by omega)]
        rcases hk2 with z | z
        · rw [if_neg (fun w => w z)]
          try dsimp only
          rw [rdT hA hB hm (by omega), ← hmd]
          by_cases z2 : md ≤ 0
          · rw [if_pos z2, if_neg (by omega)]
          · have e := t678 hB (show x < len by omega)
            rw [if_neg z2]
            try dsimp only
            rw [sp_b, h81, sp_if (by omega), sp_b, Int.toNat_natCast, e]
            by_cases z3 : txa U w len (x : Int) = 10
            · rw [if_neg (fun w => w z3), if_pos (Or.inr ⟨z, by omega, z3⟩)]
            · rw [if_pos z3, if_neg (fun w => w.elim y (fun w => z3 w.2.2))]
        · rw [if_pos (by omega), if_neg (by omega)]
    by_cases z1 : kd = 1
    · rw [if_pos z1]
      exact k78 (Or.inl z1)
    · rw [if_neg z1]
      by_cases z3 : kd = 3
      · rw [if_neg (fun w => w z3)]
        exact k78 (Or.inr z3)
      · rw [if_pos z3]
        try dsimp only
        rw [sp_jn]
        by_cases z2 : kd = 2
        · rw [if_pos z2]
          exact k131 (Or.inl z2)
        · rw [if_neg z2]
          by_cases z4 : kd = 4
          · rw [if_neg (fun w => w z4)]
            exact k131 (Or.inr z4)
          · rw [if_pos z4]
            unfold edge
            rw [if_neg (show ¬ (kd = 1 ∨ kd = 3) by omega), if_neg (show ¬ (kd = 2 ∨ kd = 4) by omega)]
            by_cases z5 : kd = 5
            · rw [if_neg (fun w => w z5), if_pos z5, hbo]
              by_cases y : ch_w (txa U w len ((x : Int) - 1)) = ch_w (txa U w len (x : Int))
              · rw [if_pos y]
                try dsimp only
                rw [sp_if (Or.inl rfl)]
              · rw [if_neg y]
                try dsimp only
                rw [sp_if (Or.inr rfl)]
            · rw [if_pos z5, if_neg z5, hbo]
              by_cases y : ch_w (txa U w len ((x : Int) - 1)) = ch_w (txa U w len (x : Int))
              · rw [if_pos y, if_neg (by decide), if_pos y]
              · rw [if_neg y, if_pos (by decide), if_neg y]
  rw [← hkd, ← hmd]
  refine fin ?_
  unfold jm_295
  rw [sp_b, h81, jn_if (v := fi) (fun y => by rw [hfi, if_neg (by omega)]) (fun y => by rw [hfi, if_pos (by omega)])]
  try dsimp only
  rw [sp_b, h81, sp_b, hB.2.2.2.2.1, jn_if2 (v := la) (fun y => by rw [hla, if_neg (by omega)]) (fun y => by rw [hla, if_pos (by omega)])]
  try dsimp only
  rw [sp_b, h81, sp_ck (by omega), t_289 hB hl ⟨by omega, by omega⟩, sp_bd, sp_b, t_289 hB hl ⟨by omega, by omega⟩, sp_bd, jn_if2 (v := bo) (fun y => by rw [h81] at y; rw [hbo, if_pos y]) (fun y => by rw [h81] at y; rw [hbo, if_neg y])]
  try dsimp only
  rw [rdT hA hB hm (by omega), ← hkd]
end OPZQ
