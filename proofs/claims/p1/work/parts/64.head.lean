/-! THE LAW'S LOOP: its head -/
theorem ev_one_pure {M : ev_M} {d : Nat} {X : ev_X} {pc len n pc' : Nat} {i : Instr} {lv lv' : List (Nat × Value)} {st st' : List Value} {h : List ev_E} (hi : M.1 pc = some (i, len)) (hp : ev_pure M.2.1 i len pc lv st = some (pc', lv', st')) : ev_stepM M d X pc lv st h n = some (pc', lv', st', h, n, 0, 0) := by
  unfold ev_stepM ev_one
  rw [hi]
  dsimp only
  rw [hp]
theorem ev_one_mem {M : ev_M} {d : Nat} {X : ev_X} {pc len n pc' n' dc ds : Nat} {i : Instr} {lv : List (Nat × Value)} {st st' : List Value} {h h' : List ev_E} (hi : M.1 pc = some (i, len)) (hp : ev_pure M.2.1 i len pc lv st = none) (hm : ev_mem ev_CN ev_ft ev_nf (ev_PEs M.2.2.1) M.2.2.2.1 i len pc st h n = some (pc', st', h', n', dc, ds)) : ev_stepM M d X pc lv st h n = some (pc', lv, st', h', n', dc, ds) := by
  unfold ev_stepM ev_one
  rw [hi]
  dsimp only
  rw [hp]
  dsimp only
  rw [hm]
theorem ev_one_scr {M : ev_M} {d : Nat} {X : ev_X} {pc len n : Nat} {i : Instr} {lv : List (Nat × Value)} {st : List Value} {h : List ev_E} {z : ev_S} (hi : M.1 pc = some (i, len)) (hp : ev_pure M.2.1 i len pc lv st = none) (hm : ev_mem ev_CN ev_ft ev_nf (ev_PEs M.2.2.1) M.2.2.2.1 i len pc st h n = none) (hc : ev_ctl ev_P ev_Lk M (ev_calld d) i len pc lv st h n = none) (hz : ev_scr X i len pc lv st h n = some z) : ev_stepM M d X pc lv st h n = some z := by
  unfold ev_stepM ev_one
  rw [hi]
  dsimp only
  rw [hp]
  dsimp only
  rw [hm]
  dsimp only
  rw [hc]
  dsimp only
  rw [hz]
section EVLH
variable {L : Nat} {xs : Nat → Int32} {lv : List (Nat × Value)} {h : List ev_E} {n nc ns : Nat} {i : Int32} {a1 a2 a3 : Value}
def ev_lvL (i : Int32) (a1 a2 a3 : Value) : List (Nat × Value) := [(4, .int i), (3, a3), (2, a2), (1, a1), (0, .retAddr 0)]
theorem ev_h23 : ev_stepM ev_Mlaw 12 (some (L, xs)) 23 (ev_lvL i a1 a2 a3) [] h n = some (25, ev_lvL i a1 a2 a3, [.int i], h, n, 0, 0) := ev_one_pure (i := .iload 4) (len := 2) (by decide +kernel) rfl
theorem ev_h25 : ev_stepM ev_Mlaw 12 (some (L, xs)) 25 (ev_lvL i a1 a2 a3) [.int i] h n = some (26, ev_lvL i a1 a2 a3, [.retAddr 0, .int i], h, n, 0, 0) := ev_one_pure (i := .aload_n 0) (len := 1) (by decide +kernel) rfl
theorem ev_h26 : ev_stepM ev_Mlaw 12 (some (L, xs)) 26 (ev_lvL i a1 a2 a3) [.retAddr 0, .int i] h n = some (27, ev_lvL i a1 a2 a3, [.int (Int32.ofNat L), .int i], h, n, 0, 0) := ev_one_scr (i := .arraylength) (len := 1) (by decide +kernel) rfl rfl rfl rfl
theorem ev_h27 : ev_stepM ev_Mlaw 12 (some (L, xs)) 27 (ev_lvL i a1 a2 a3) [.int (Int32.ofNat L), .int i] h n = some (29, ev_lvL i a1 a2 a3, [.int 6, .int (Int32.ofNat L), .int i], h, n, 0, 0) := ev_one_pure (i := .bipush 6) (len := 2) (by decide +kernel) rfl
theorem ev_h29 : ev_stepM ev_Mlaw 12 (some (L, xs)) 29 (ev_lvL i a1 a2 a3) [.int 6, .int (Int32.ofNat L), .int i] h n = some (30, ev_lvL i a1 a2 a3, [.int (Int32.ofNat L - 6), .int i], h, n, 0, 0) := ev_one_pure (i := .isub) (len := 1) (by decide +kernel) rfl
theorem ev_h30 : ev_stepM ev_Mlaw 12 (some (L, xs)) 30 (ev_lvL i a1 a2 a3) [.int (Int32.ofNat L - 6), .int i] h n = some (if Int32.ofNat L - 6 < i then 2278 else 33, ev_lvL i a1 a2 a3, [], h, n, 0, 0) := by
  by_cases hc : Int32.ofNat L - 6 < i
  · rw [if_pos hc]
    refine ev_one_pure (i := .if_icmp .gt 2248) (len := 3) (by decide +kernel) ?_
    show (match ev_br (decide (Int32.ofNat L - 6 < i)) 30 2248 with
      | some t => some (t, ev_lvL i a1 a2 a3, ([] : List Value))
      | none => none) = _
    rw [decide_eq_true hc]
    rfl
  · rw [if_neg hc]
    refine ev_one_pure (i := .if_icmp .gt 2248) (len := 3) (by decide +kernel) ?_
    show (match ev_br (decide (Int32.ofNat L - 6 < i)) 30 2248 with
      | some t => some (t, ev_lvL i a1 a2 a3, ([] : List Value))
      | none => none) = _
    rw [decide_eq_false hc]
    rfl
theorem ev_head : ev_stepn (ev_stepM ev_Mlaw 12 (some (L, xs))) (1 + (1 + (1 + (1 + (1 + 1))))) (23, ev_lvL i a1 a2 a3, [], h, n, nc, ns) = some (if Int32.ofNat L - 6 < i then 2278 else 33, ev_lvL i a1 a2 a3, [], h, n, nc, ns) :=
  ev_stepn_add (ev_stepn_1 ev_h23) (ev_stepn_add (ev_stepn_1 ev_h25) (ev_stepn_add (ev_stepn_1 ev_h26) (ev_stepn_add (ev_stepn_1 ev_h27) (ev_stepn_add (ev_stepn_1 ev_h29) (ev_stepn_1 ev_h30)))))
/-- the end: true -/
theorem ev_h2278 {X : ev_X} {lv : List (Nat × Value)} : ev_stepM ev_Mlaw 12 X 2278 lv [] h n = some (2279, lv, [.int 1], h, n, 0, 0) := ev_one_pure (i := .iconst 1) (len := 1) (by decide +kernel) rfl
theorem ev_h2279 {X : ev_X} {lv : List (Nat × Value)} : ev_stepM ev_Mlaw 12 X 2279 lv [.int 1] h n = none := by
  have hi : ev_Mlaw.1 2279 = some (.ireturn, 1) := by decide +kernel
  unfold ev_stepM ev_one
  rw [hi]
  cases X <;> rfl
theorem ev_tail {X : ev_X} {lv : List (Nat × Value)} {f : Nat} : ev_from (ev_stepM ev_Mlaw 12 X) (f + 2) (2278, lv, [], h, n, nc, ns) = some (2279, [.int 1], h, n, nc, ns) := by
  have e := ev_from_done (F := f + 2) (ev_stepn_1 (nc := nc) (ns := ns) (ev_h2278 (X := X) (lv := lv) (h := h) (n := n))) ev_h2279 (by omega)
  exact e
end EVLH
/-- where the law's loop begins -/
def ev_rM : Value := .ref 621
def ev_rO : Value := .ref 723
theorem ev_sL4_eq : ev_sL4 = (23, ev_lvL 0 (.ref 0) ev_rM ev_rO, [], ev_sL4.2.2.2.1, ev_sL4.2.2.2.2.1, ev_sL4.2.2.2.2.2.1, ev_sL4.2.2.2.2.2.2) := rfl
theorem ev_short_lt {L : Nat} (h : L < 6) : Int32.ofNat L - 6 < (0 : Int32) := by
  match L, h with
  | 0, _ => decide
  | 1, _ => decide
  | 2, _ => decide
  | 3, _ => decide
  | 4, _ => decide
  | 5, _ => decide
  | k + 6, h => exact absurd h (by omega)
/-- a script of less than 6 ints: the law ends with true -/
theorem ev_short {L : Nat} {xs : Nat → Int32} (hL : L < 6) : ev_run (ev_one ev_CN ev_ft ev_nf ev_PEs ev_Lk ev_P (some (L, xs)) ev_Mlaw (ev_call ev_CN ev_ft ev_nf ev_PEs ev_Lk ev_TXs ev_P 100000 12)) (2 + (1 + 10) + ((1 + (1 + (1 + (1 + (1 + 1))))) + 2)) 0 [(0, .retAddr 0)] [] [] 0 0 0 = some (2279, [.int 1], ev_sL4.2.2.2.1, ev_sL4.2.2.2.2.1, ev_sL4.2.2.2.2.2.1, ev_sL4.2.2.2.2.2.2) := by
  have e1 := ev_stepn_run (ev_law3 (some (L, xs))) ((1 + (1 + (1 + (1 + (1 + 1))))) + 2)
  rw [ev_sL4_eq, ev_stepn_run ev_head 2, if_pos (ev_short_lt hL), ev_tail (f := 0)] at e1
  exact e1
/-- the law, for such a script -/
theorem whole_short {p : Program} {e : Env} {s : State} {m : MethodId} {below : List Frame} {meth : Method} {c : Code} (l : Launch) (hflags : l.flags = flags0) {b L : Nat} {xs : Nat → Int32} (hL : L < 6) (C0 : lw_At p s m meth c b L xs) : W p l e room_1 s m #[Value.ref b] below meth c s.heap [] 0 0 (lw_Z below #[Value.ref b] s) (entryFrame m ([Value.ref b] : List Value).toArray 7) :=
  ev_start l hflags C0 (ev_short hL) (by decide +kernel) (by decide +kernel) (by decide +kernel)
