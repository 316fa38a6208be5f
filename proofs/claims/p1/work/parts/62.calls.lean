/-! RUNS and CALLS out of parts -/
theorem ev_stepn_add {step : Nat → List (Nat × Value) → List Value → List ev_E → Nat → Option ev_S} : ∀ {k j : Nat} {S S1 S2 : ev_S}, ev_stepn step k S = some S1 → ev_stepn step j S1 = some S2 → ev_stepn step (k + j) S = some S2
  | 0, j, S, S1, S2, h1, h2 => by
    cases h1
    rw [Nat.zero_add]
    exact h2
  | k + 1, j, S, S1, S2, h1, h2 => by
    rw [show k + 1 + j = k + j + 1 by omega]
    unfold ev_stepn at h1 ⊢
    split at h1
    · exact ev_stepn_add h1 h2
    · cases h1
def ev_stop (S : ev_S) : ev_R := (S.1, S.2.2.1, S.2.2.2.1, S.2.2.2.2.1, S.2.2.2.2.2.1, S.2.2.2.2.2.2)
theorem ev_from_done {step : Nat → List (Nat × Value) → List Value → List ev_E → Nat → Option ev_S} {k F : Nat} {S S' : ev_S} (h : ev_stepn step k S = some S') (h2 : step S'.1 S'.2.1 S'.2.2.1 S'.2.2.2.1 S'.2.2.2.2.1 = none) (hk : k < F) : ev_from step F S = some (ev_stop S') := by
  obtain ⟨f, rfl⟩ : ∃ f, F = k + (f + 1) := ⟨F - k - 1, by omega⟩
  rw [ev_stepn_run h, ev_from_succ, h2]
  rfl
def ev_Mof (mi : Nat) : ev_M := match ev_P mi with
  | some M => M
  | none => ev_Mlaw
theorem ev_P_of {mi : Nat} (h : (ev_P mi).isSome = true) : ev_P mi = some (ev_Mof mi) := by
  unfold ev_Mof
  cases hp : ev_P mi with
  | none => rw [hp] at h; cases h
  | some M => rfl
theorem ev_call_of {mi d : Nat} {M : ev_M} {as : List Value} {h : List ev_E} {n : Nat} {r : ev_R} {z : ev_Z} (hP : ev_P mi = some M) (hs : Nat.ble (ev_sum as) M.2.1 = true) (hr : ev_from (ev_stepM M d none) 100000 (0, lv_args 0 as, [], h, n, 0, 0) = some r) (he : ev_end ev_TXs M (d + 1) r = some z) : ev_calld (d + 1) mi as h n = some z := by
  have e : ev_calld (d + 1) mi as h n = (match ev_P mi with
    | some M => (match Nat.ble (ev_sum as) M.2.1 with
      | true => (match ev_from (ev_stepM M d none) 100000 (0, lv_args 0 as, [], h, n, 0, 0) with
        | some r => ev_end ev_TXs M (d + 1) r
        | none => none)
      | false => none)
    | none => none) := rfl
  rw [e, hP]
  dsimp only
  rw [hs]
  dsimp only
  rw [hr]
  exact he
theorem ev_end_void {M : ev_M} {d pc n nc ns : Nat} {h : List ev_E} (h1 : M.1 pc = some (.return_, 1)) (h2 : M.2.2.2.2.2.2.1 = none) : ev_end ev_TXs M d (pc, [], h, n, nc, ns) = some (.inl none, h, n, nc, ns) := by
  unfold ev_end
  simp only [h1, h2]
theorem ev_end_int {M : ev_M} {d pc n nc ns : Nat} {h : List ev_E} {x : Int32} {ty : FieldType} (h1 : M.1 pc = some (.ireturn, 1)) (h2 : M.2.2.2.2.2.2.1 = some ty) (h3 : ev_retOk ty (.int x) = true) : ev_end ev_TXs M d (pc, [.int x], h, n, nc, ns) = some (.inl (some (.int x)), h, n, nc, ns) := by
  unfold ev_end
  simp only [h1, h2, h3]
/-- an invoke upon an object -/
theorem ev_inv_obj {P : Nat → Option ev_M} {M Y : ev_M} {call : Nat → List Value → List ev_E → Nat → Option ev_Z} {pc n kind mi na op : Nat} {lv : List (Nat × Value)} {st as rest : List Value} {h : List ev_E} (h6 : Nat.beq kind 6 = false) (h7 : Nat.beq kind 7 = false) (h9 : (Nat.beq kind 9 || Nat.beq kind 10) = false) (hP : P mi = some Y) (hna : (Nat.beq na Y.2.2.2.2.2.1 && Nat.beq op (kind % 3)) = true) (ho : Nat.beq op 2 = false) (hpop : ev_pop (na + 1) [] st = some (as, rest)) (hs : (Nat.ble (ev_sum rest) 8 && ev_recv h Y.2.2.1 as) = true) :
    ev_inv P M call pc lv st h n op (some (kind, mi, na)) = ev_back M pc lv rest (ev_ansOf (Nat.beq kind 0) (call mi as h n)) := by
  unfold ev_inv
  dsimp only
  rw [h6]
  dsimp only
  rw [h7]
  dsimp only
  rw [h9]
  dsimp only
  rw [hP]
  dsimp only
  rw [hna]
  dsimp only
  rw [ho]
  dsimp only
  rw [hpop]
  dsimp only
  rw [hs]
/-- an invoke of a static method -/
theorem ev_inv_st {P : Nat → Option ev_M} {M Y : ev_M} {call : Nat → List Value → List ev_E → Nat → Option ev_Z} {pc n kind mi na : Nat} {lv : List (Nat × Value)} {st as rest : List Value} {h : List ev_E} (h6 : Nat.beq kind 6 = false) (h7 : Nat.beq kind 7 = false) (h9 : (Nat.beq kind 9 || Nat.beq kind 10) = false) (hP : P mi = some Y) (hna : (Nat.beq na Y.2.2.2.2.2.1 && Nat.beq 2 (kind % 3)) = true) (hpop : ev_pop na [] st = some (as, rest)) (hs : Nat.ble (ev_sum rest) 8 = true) :
    ev_inv P M call pc lv st h n 2 (some (kind, mi, na)) = ev_back M pc lv rest (ev_ansOf (Nat.beq kind 0) (call mi as h n)) := by
  unfold ev_inv
  dsimp only
  rw [h6]
  dsimp only
  rw [h7]
  dsimp only
  rw [h9]
  dsimp only
  rw [hP]
  dsimp only
  rw [hna]
  dsimp only
  rw [hpop]
  dsimp only
  rw [hs]
theorem ev_one_special {cn : Nat → String} {ft : Nat → Nat → FieldType} {nf : Nat → Nat} {PE : Nat → ev_T} {L : Nat → Nat → Option ev_L} {P : Nat → Option ev_M} {X : ev_X} {M : ev_M} {call : Nat → List Value → List ev_E → Nat → Option ev_Z} {pc n x : Nat} {lv : List (Nat × Value)} {st : List Value} {h : List ev_E} {z : ev_S} (hi : M.1 pc = some (.invokespecial x, 3)) (hz : ev_inv P M call pc lv st h n 1 (L M.2.2.1 x) = some z) : ev_one cn ft nf PE L P X M call pc lv st h n = some z := by
  unfold ev_one
  rw [hi]
  show (match ev_ctl P L M call (.invokespecial x) 3 pc lv st h n with
    | some z => some z
    | none => ev_scr X (.invokespecial x) 3 pc lv st h n) = some z
  have e : ev_ctl P L M call (.invokespecial x) 3 pc lv st h n = ev_inv P M call pc lv st h n 1 (L M.2.2.1 x) := rfl
  rw [e, hz]
theorem ev_one_virtual {cn : Nat → String} {ft : Nat → Nat → FieldType} {nf : Nat → Nat} {PE : Nat → ev_T} {L : Nat → Nat → Option ev_L} {P : Nat → Option ev_M} {X : ev_X} {M : ev_M} {call : Nat → List Value → List ev_E → Nat → Option ev_Z} {pc n x : Nat} {lv : List (Nat × Value)} {st : List Value} {h : List ev_E} {z : ev_S} (hi : M.1 pc = some (.invokevirtual x, 3)) (hz : ev_inv P M call pc lv st h n 0 (L M.2.2.1 x) = some z) : ev_one cn ft nf PE L P X M call pc lv st h n = some z := by
  unfold ev_one
  rw [hi]
  show (match ev_ctl P L M call (.invokevirtual x) 3 pc lv st h n with
    | some z => some z
    | none => ev_scr X (.invokevirtual x) 3 pc lv st h n) = some z
  have e : ev_ctl P L M call (.invokevirtual x) 3 pc lv st h n = ev_inv P M call pc lv st h n 0 (L M.2.2.1 x) := rfl
  rw [e, hz]
theorem ev_one_static {cn : Nat → String} {ft : Nat → Nat → FieldType} {nf : Nat → Nat} {PE : Nat → ev_T} {L : Nat → Nat → Option ev_L} {P : Nat → Option ev_M} {X : ev_X} {M : ev_M} {call : Nat → List Value → List ev_E → Nat → Option ev_Z} {pc n x : Nat} {lv : List (Nat × Value)} {st : List Value} {h : List ev_E} {z : ev_S} (hi : M.1 pc = some (.invokestatic x, 3)) (hz : ev_inv P M call pc lv st h n 2 (L M.2.2.1 x) = some z) : ev_one cn ft nf PE L P X M call pc lv st h n = some z := by
  unfold ev_one
  rw [hi]
  show (match ev_ctl P L M call (.invokestatic x) 3 pc lv st h n with
    | some z => some z
    | none => ev_scr X (.invokestatic x) 3 pc lv st h n) = some z
  have e : ev_ctl P L M call (.invokestatic x) 3 pc lv st h n = ev_inv P M call pc lv st h n 2 (L M.2.2.1 x) := rfl
  rw [e, hz]
theorem ev_stepn_1 {step : Nat → List (Nat × Value) → List Value → List ev_E → Nat → Option ev_S} {pc n nc ns : Nat} {lv : List (Nat × Value)} {st : List Value} {h : List ev_E} {z : ev_S} (e : step pc lv st h n = some z) : ev_stepn step 1 (pc, lv, st, h, n, nc, ns) = some (z.1, z.2.1, z.2.2.1, z.2.2.2.1, z.2.2.2.2.1, nc + z.2.2.2.2.2.1, ns + z.2.2.2.2.2.2) := by
  obtain ⟨a, b, c, d, f, g, w⟩ := z
  unfold ev_stepn
  dsimp only
  rw [e]
  rfl
