/-! SINGLE STEPS upon arrays, branches, static calls -/
section EVPA
variable {X : ev_X} {lv : List (Nat × Value)} {h h' : List ev_E} {n d n' dc ds : Nat} {M : ev_M} {pc : Nat} {st as rest : List Value} {k N : Nat} {l : List (Nat × Value)} {x : Int32}
theorem ev_p_iald (hi : M.1 pc = some (.iaload, 1)) (hk : h[k]? = some (.inl (.int, N, l))) (hx : ev_in x N = true) : ev_stepM M d X pc lv (.int x :: .ref k :: st) h n = some (pc + 1, lv, .int (ev_int (ev_rd (.int 0) l x.toNatClampNeg)) :: st, h, n, 0, 0) := ev_one_mem hi rfl (by
  show ev_ald false false [.int] pc st h n x h[k]? = _
  rw [hk]
  unfold ev_ald
  dsimp only
  rw [hx]
  rfl)
theorem ev_p_lald (hi : M.1 pc = some (.laload, 1)) (hk : h[k]? = some (.inl (.long, N, l))) (hx : ev_in x N = true) : ev_stepM M d X pc lv (.int x :: .ref k :: st) h n = some (pc + 1, lv, .long (ev_long (ev_rd (.long 0) l x.toNatClampNeg)) :: st, h, n, 0, 0) := ev_one_mem hi rfl (by
  show ev_ald true false [.long] pc st h n x h[k]? = _
  rw [hk]
  unfold ev_ald
  dsimp only
  rw [hx]
  rfl)
theorem ev_p_zald (hi : M.1 pc = some (.baload, 1)) (hk : h[k]? = some (.inl (.boolean, N, l))) (hx : ev_in x N = true) : ev_stepM M d X pc lv (.int x :: .ref k :: st) h n = some (pc + 1, lv, .int (ev_int (ev_rd (.int 0) l x.toNatClampNeg)) :: st, h, n, 0, 0) := ev_one_mem hi rfl (by
  show ev_ald false false [.byte, .boolean] pc st h n x h[k]? = _
  rw [hk]
  unfold ev_ald
  dsimp only
  rw [hx]
  rfl)
theorem ev_p_bald (hi : M.1 pc = some (.baload, 1)) (hk : h[k]? = some (.inl (.byte, N, l))) (hx : ev_in x N = true) : ev_stepM M d X pc lv (.int x :: .ref k :: st) h n = some (pc + 1, lv, .int (ev_int (ev_rd (.int 0) l x.toNatClampNeg)) :: st, h, n, 0, 0) := ev_one_mem hi rfl (by
  show ev_ald false false [.byte, .boolean] pc st h n x h[k]? = _
  rw [hk]
  unfold ev_ald
  dsimp only
  rw [hx]
  rfl)
theorem ev_p_iast {v : Int32} (hi : M.1 pc = some (.iastore, 1)) (hk : h[k]? = some (.inl (.int, N, l))) (hx : ev_in x N = true) : ev_stepM M d X pc lv (.int v :: .int x :: .ref k :: st) h n = some (pc + 1, lv, st, h.set k (.inl (.int, N, (x.toNatClampNeg, .int v) :: l)), n, 0, 0) := ev_one_mem hi rfl (by
  show ev_ast [.int] pc st h n k x (.int v) h[k]? = _
  rw [hk]
  unfold ev_ast
  dsimp only
  rw [hx]
  rfl)
theorem ev_p_last {v : Int64} (hi : M.1 pc = some (.lastore, 1)) (hk : h[k]? = some (.inl (.long, N, l))) (hx : ev_in x N = true) : ev_stepM M d X pc lv (.long v :: .int x :: .ref k :: st) h n = some (pc + 1, lv, st, h.set k (.inl (.long, N, (x.toNatClampNeg, .long v) :: l)), n, 0, 0) := ev_one_mem hi rfl (by
  show ev_ast [.long] pc st h n k x (.long v) h[k]? = _
  rw [hk]
  unfold ev_ast
  dsimp only
  rw [hx]
  rfl)
theorem ev_p_bast {ty : FieldType} {v : Int32} (hi : M.1 pc = some (.bastore, 1)) (hk : h[k]? = some (.inl (ty, N, l))) (hty : ty = .byte ∨ ty = .boolean) (hx : ev_in x N = true) : ev_stepM M d X pc lv (.int v :: .int x :: .ref k :: st) h n = some (pc + 1, lv, st, h.set k (.inl (ty, N, (x.toNatClampNeg, narrow ty (.int v)) :: l)), n, 0, 0) := ev_one_mem hi rfl (by
  show ev_ast [.byte, .boolean] pc st h n k x (.int v) h[k]? = _
  rw [hk]
  unfold ev_ast
  dsimp only
  rw [hx]
  rcases hty with rfl | rfl <;> rfl)
theorem ev_p_len_a {ty : FieldType} (hi : M.1 pc = some (.arraylength, 1)) (hk : h[k]? = some (.inl (ty, N, l))) : ev_stepM M d X pc lv (.ref k :: st) h n = some (pc + 1, lv, .int (Int32.ofNat N) :: st, h, n, 0, 0) := ev_one_mem hi rfl (by
  show ev_len pc st h n h[k]? = _
  rw [hk]
  rfl)
theorem ev_p_if {q : ClassFile.Cond} {o : Int} {t : Nat} (hi : M.1 pc = some (.ifCond q o, 3)) (ht : ev_br (ev_cmp q x 0) pc o = some t) : ev_stepM M d X pc lv (.int x :: st) h n = some (t, lv, st, h, n, 0, 0) := ev_one_pure hi (by
  show ev_to lv st (ev_br (ev_cmp q x 0) pc o) = _
  rw [ht]
  rfl)
/-- static calls: 2 of the same rights, 5 of a nest mate -/
theorem ev_p_stat {y kind mi na : Nat} {v : Option Value} (hkd : kind = 2 ∨ kind = 5) (hi : M.1 pc = some (.invokestatic y, 3)) (hk : ev_Lk M.2.2.1 y = some (kind, mi, na)) (hP : (ev_P mi).isSome = true) (hna : Nat.beq na (ev_Mof mi).2.2.2.2.2.1 = true) (hpop : ev_pop na [] st = some (as, rest)) (hs : Nat.ble (ev_sum rest) 8 = true) (hc : ev_calld d mi as h n = some (.inl v, h', n', dc, ds)) : ev_stepM M d X pc lv st h n = some (pc + 3, lv, v.toList ++ rest, h', n', dc, ds) := by
  refine ev_one_static hi ?_
  rcases hkd with rfl | rfl
  · rw [hk, ev_inv_st (Y := ev_Mof mi) rfl rfl rfl (ev_P_of hP) (by rw [hna]; rfl) hpop hs]
    show ev_back M pc lv rest (ev_ansOf false (ev_calld d mi as h n)) = _
    rw [hc]
    cases v <;> rfl
  · rw [hk, ev_inv_st (Y := ev_Mof mi) rfl rfl rfl (ev_P_of hP) (by rw [hna]; rfl) hpop hs]
    show ev_back M pc lv rest (ev_ansOf false (ev_calld d mi as h n)) = _
    rw [hc]
    cases v <;> rfl
/-- a static call into a method that catches (the law's arms) -/
theorem ev_p_stat8 {y mi na : Nat} {v : Option Value} (hi : M.1 pc = some (.invokestatic y, 3)) (hk : ev_Lk M.2.2.1 y = some (8, mi, na)) (hP : (ev_P mi).isSome = true) (hna : Nat.beq na (ev_Mof mi).2.2.2.2.2.1 = true) (hpop : ev_pop na [] st = some (as, rest)) (hs : Nat.ble (ev_sum rest) 8 = true) (hc : ev_calld d mi as h n = some (.inl v, h', n', dc, ds)) : ev_stepM M d X pc lv st h n = some (pc + 3, lv, v.toList ++ rest, h', n', dc, ds) := by
  refine ev_one_static hi ?_
  rw [hk, ev_inv_st (Y := ev_Mof mi) rfl rfl rfl (ev_P_of hP) (by rw [hna]; rfl) hpop hs]
  show ev_back M pc lv rest (ev_ansOf false (ev_calld d mi as h n)) = _
  rw [hc]
  cases v <;> rfl
end EVPA
