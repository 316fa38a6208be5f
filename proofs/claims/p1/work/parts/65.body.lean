/-! THE LAW'S LOOP: a pass, up to its switch; the locals are any in which the script, the class, the reference and the answer's cell stand where they stand -/
def ev_lvK (r : List (Nat × Value)) : Prop := ev_lk r 0 = some (.retAddr 0) ∧ ev_lk r 1 = some (.ref 0) ∧ ev_lk r 2 = some ev_rM ∧ ev_lk r 3 = some ev_rO
theorem ev_lvK_L {i : Int32} : ev_lvK (ev_lvL i (.ref 0) ev_rM ev_rO) := ⟨rfl, rfl, rfl, rfl⟩
section EVLB
variable {L : Nat} {xs : Nat → Int32} {X : ev_X} {lv : List (Nat × Value)} {h : List ev_E} {n nc ns d : Nat} {i : Int32} {M : ev_M} {pc : Nat} {st : List Value}
theorem ev_p_iload {k : Nat} {x : Int32} (hi : M.1 pc = some (.iload k, 2)) (hv : ev_lk lv k = some (.int x)) : ev_stepM M d X pc lv st h n = some (pc + 2, lv, Value.int x :: st, h, n, 0, 0) := ev_one_pure hi (by
  show (match ev_lk lv k with
    | some (Value.int x) => some (pc + 2, lv, Value.int x :: st)
    | _ => none) = _
  rw [hv])
theorem ev_p_iload_n {k : Fin 4} {x : Int32} (hi : M.1 pc = some (.iload_n k, 1)) (hv : ev_lk lv k.val = some (.int x)) : ev_stepM M d X pc lv st h n = some (pc + 1, lv, Value.int x :: st, h, n, 0, 0) := ev_one_pure hi (by
  show (match ev_lk lv k.val with
    | some (Value.int x) => some (pc + 1, lv, Value.int x :: st)
    | _ => none) = _
  rw [hv])
theorem ev_p_aload_r {k : Fin 4} {a : Nat} (hi : M.1 pc = some (.aload_n k, 1)) (hv : ev_lk lv k.val = some (.ref a)) : ev_stepM M d X pc lv st h n = some (pc + 1, lv, Value.ref a :: st, h, n, 0, 0) := ev_one_pure hi (by
  show (match ev_lk lv k.val with
    | some (Value.ref r) => some (pc + 1, lv, Value.ref r :: st)
    | some (Value.null) => some (pc + 1, lv, Value.null :: st)
    | some (Value.retAddr r) => some (pc + 1, lv, Value.retAddr r :: st)
    | _ => none) = _
  rw [hv])
theorem ev_p_aload_s {k : Fin 4} {a : Nat} (hi : M.1 pc = some (.aload_n k, 1)) (hv : ev_lk lv k.val = some (.retAddr a)) : ev_stepM M d X pc lv st h n = some (pc + 1, lv, Value.retAddr a :: st, h, n, 0, 0) := ev_one_pure hi (by
  show (match ev_lk lv k.val with
    | some (Value.ref r) => some (pc + 1, lv, Value.ref r :: st)
    | some (Value.null) => some (pc + 1, lv, Value.null :: st)
    | some (Value.retAddr r) => some (pc + 1, lv, Value.retAddr r :: st)
    | _ => none) = _
  rw [hv])
theorem ev_p_scr {x : Int32} (hi : M.1 pc = some (.iaload, 1)) (hx : ev_in x L = true) : ev_stepM M d (some (L, xs)) pc lv (.int x :: .retAddr 0 :: st) h n = some (pc + 1, lv, Value.int (xs x.toNatClampNeg) :: st, h, n, 0, 0) := ev_one_scr hi rfl rfl rfl (by
  show (match ev_in x L with
    | true => some (pc + 1, lv, Value.int (xs x.toNatClampNeg) :: st, h, n, 0, 0)
    | false => none) = _
  rw [hx])
theorem ev_p_len (hi : M.1 pc = some (.arraylength, 1)) : ev_stepM M d (some (L, xs)) pc lv (.retAddr 0 :: st) h n = some (pc + 1, lv, Value.int (Int32.ofNat L) :: st, h, n, 0, 0) := ev_one_scr hi rfl rfl rfl rfl
theorem ev_p_bipush {k : Int} (hi : M.1 pc = some (.bipush k, 2)) : ev_stepM M d X pc lv st h n = some (pc + 2, lv, Value.int (Int8.ofInt k).toInt32 :: st, h, n, 0, 0) := ev_one_pure hi rfl
theorem ev_p_iconst {k : Int} (hi : M.1 pc = some (.iconst k, 1)) : ev_stepM M d X pc lv st h n = some (pc + 1, lv, Value.int (Int32.ofInt k) :: st, h, n, 0, 0) := ev_one_pure hi rfl
theorem ev_p_iadd {x y : Int32} (hi : M.1 pc = some (.iadd, 1)) : ev_stepM M d X pc lv (.int y :: .int x :: st) h n = some (pc + 1, lv, Value.int (x + y) :: st, h, n, 0, 0) := ev_one_pure hi rfl
theorem ev_p_isub {x y : Int32} (hi : M.1 pc = some (.isub, 1)) : ev_stepM M d X pc lv (.int y :: .int x :: st) h n = some (pc + 1, lv, Value.int (x - y) :: st, h, n, 0, 0) := ev_one_pure hi rfl
theorem ev_p_iand {x y : Int32} (hi : M.1 pc = some (.iand, 1)) : ev_stepM M d X pc lv (.int y :: .int x :: st) h n = some (pc + 1, lv, Value.int (x &&& y) :: st, h, n, 0, 0) := ev_one_pure hi rfl
theorem ev_p_goto {o : Int} {t : Nat} (hi : M.1 pc = some (.goto o, 3)) (ht : ev_tg pc o = some t) : ev_stepM M d X pc lv st h n = some (t, lv, st, h, n, 0, 0) := ev_one_pure hi (by
  show ev_to lv st (ev_tg pc o) = _
  rw [ht]
  rfl)
/-- the head -/
theorem ev_headK (hK : ev_lvK lv) (h4 : ev_lk lv 4 = some (.int i)) : ev_stepn (ev_stepM ev_Mlaw 12 (some (L, xs))) (1 + (1 + (1 + (1 + (1 + 1))))) (23, lv, [], h, n, nc, ns) = some (if Int32.ofNat L - 6 < i then 2278 else 33, lv, [], h, n, nc, ns) := by
  have h30 : ev_stepM ev_Mlaw 12 (some (L, xs)) 30 lv [.int (Int32.ofNat L - 6), .int i] h n = some (if Int32.ofNat L - 6 < i then 2278 else 33, lv, [], h, n, 0, 0) := by
    by_cases hc : Int32.ofNat L - 6 < i
    · rw [if_pos hc]
      refine ev_one_pure (i := .if_icmp .gt 2248) (len := 3) (by decide +kernel) ?_
      show (match ev_br (decide (Int32.ofNat L - 6 < i)) 30 2248 with
        | some t => some (t, lv, ([] : List Value))
        | none => none) = _
      rw [decide_eq_true hc]
      rfl
    · rw [if_neg hc]
      refine ev_one_pure (i := .if_icmp .gt 2248) (len := 3) (by decide +kernel) ?_
      show (match ev_br (decide (Int32.ofNat L - 6 < i)) 30 2248 with
        | some t => some (t, lv, ([] : List Value))
        | none => none) = _
      rw [decide_eq_false hc]
      rfl
  exact ev_stepn_add (ev_stepn_1 (ev_p_iload (pc := 23) (k := 4) (by decide +kernel) h4)) (ev_stepn_add (ev_stepn_1 (ev_p_aload_s (pc := 25) (k := 0) (by decide +kernel) hK.1)) (ev_stepn_add (ev_stepn_1 (ev_p_len (pc := 26) (by decide +kernel))) (ev_stepn_add (ev_stepn_1 (ev_p_bipush (pc := 27) (k := 6) (by decide +kernel))) (ev_stepn_add (ev_stepn_1 (ev_p_isub (pc := 29) (by decide +kernel))) (ev_stepn_1 h30)))))
/-- where the switch goes -/
def ev_swt (v : Int32) : Nat := match v.toInt with
  | .ofNat 0 => 188 | .ofNat 1 => 244 | .ofNat 2 => 257 | .ofNat 3 => 313 | .ofNat 4 => 357 | .ofNat 5 => 401 | .ofNat 6 => 457 | .ofNat 7 => 513 | .ofNat 8 => 588 | .ofNat 9 => 656 | .ofNat 10 => 712
  | .ofNat 11 => 804 | .ofNat 12 => 896 | .ofNat 13 => 1000 | .ofNat 14 => 1080 | .ofNat 15 => 1160 | .ofNat 16 => 1228 | .ofNat 17 => 1308 | .ofNat 18 => 1364 | .ofNat 19 => 1420 | .ofNat 20 => 1488 | .ofNat 21 => 1580
  | .ofNat 22 => 1676 | .ofNat 23 => 1732 | .ofNat 24 => 1776 | .ofNat 25 => 1820 | .ofNat 26 => 1864 | .ofNat 27 => 1908 | .ofNat 28 => 1952 | .ofNat 29 => 2020 | .ofNat 30 => 2104 | .ofNat 31 => 2160 | .ofNat 32 => 2216
  | _ => 2272
theorem ev_b40 {v : Int32} {t : Nat} (hv : ev_tsw 40 lv 2232 0 32 #[148, 204, 217, 273, 317, 361, 417, 473, 548, 616, 672, 764, 856, 960, 1040, 1120, 1188, 1268, 1324, 1380, 1448, 1540, 1636, 1692, 1736, 1780, 1824, 1868, 1912, 1980, 2064, 2120, 2176] [.int v] = some (t, lv, [])) : ev_stepM ev_Mlaw 12 X 40 lv [.int v] h n = some (t, lv, [], h, n, 0, 0) := ev_one_pure (i := .tableswitch 2232 0 32 #[148, 204, 217, 273, 317, 361, 417, 473, 548, 616, 672, 764, 856, 960, 1040, 1120, 1188, 1268, 1324, 1380, 1448, 1540, 1636, 1692, 1736, 1780, 1824, 1868, 1912, 1980, 2064, 2120, 2176]) (len := 148) (by decide +kernel) hv
/-- from behind the head to the switch's arm -/
theorem ev_arm (hK : ev_lvK lv) (h4 : ev_lk lv 4 = some (.int i)) (hx : ev_in i L = true) {t : Nat} (ht : ev_tsw 40 lv 2232 0 32 #[148, 204, 217, 273, 317, 361, 417, 473, 548, 616, 672, 764, 856, 960, 1040, 1120, 1188, 1268, 1324, 1380, 1448, 1540, 1636, 1692, 1736, 1780, 1824, 1868, 1912, 1980, 2064, 2120, 2176] [.int (xs i.toNatClampNeg &&& (Int8.ofInt 63).toInt32)] = some (t, lv, [])) : ev_stepn (ev_stepM ev_Mlaw 12 (some (L, xs))) (1 + (1 + (1 + (1 + (1 + 1))))) (33, lv, [], h, n, nc, ns) = some (t, lv, [], h, n, nc, ns) :=
  ev_stepn_add (ev_stepn_1 (ev_p_aload_s (pc := 33) (k := 0) (by decide +kernel) hK.1)) (ev_stepn_add (ev_stepn_1 (ev_p_iload (pc := 34) (k := 4) (by decide +kernel) h4)) (ev_stepn_add (ev_stepn_1 (ev_p_scr (pc := 36) (by decide +kernel) hx)) (ev_stepn_add (ev_stepn_1 (ev_p_bipush (pc := 37) (k := 63) (by decide +kernel))) (ev_stepn_add (ev_stepn_1 (ev_p_iand (pc := 39) (by decide +kernel))) (ev_stepn_1 (ev_b40 ht))))))
end EVLB
