/-! WALKS: a run step by step, each step's outcome told -/
theorem ev_go {step : Nat → List (Nat × Value) → List Value → List ev_E → Nat → Option ev_S} {k pc n pc' n' nc ns dc ds : Nat} {lv lv' : List (Nat × Value)} {st st' : List Value} {h h' : List ev_E} {T : ev_S} (e : step pc lv st h n = some (pc', lv', st', h', n', dc, ds)) (r : ev_stepn step k (pc', lv', st', h', n', nc + dc, ns + ds) = some T) : ev_stepn step (k + 1) (pc, lv, st, h, n, nc, ns) = some T := by
  unfold ev_stepn
  dsimp only
  rw [e]
  exact r
theorem ev_go0 {step : Nat → List (Nat × Value) → List Value → List ev_E → Nat → Option ev_S} {k pc n pc' n' nc ns : Nat} {lv lv' : List (Nat × Value)} {st st' : List Value} {h h' : List ev_E} {T : ev_S} (e : step pc lv st h n = some (pc', lv', st', h', n', 0, 0)) (r : ev_stepn step k (pc', lv', st', h', n', nc, ns) = some T) : ev_stepn step (k + 1) (pc, lv, st, h, n, nc, ns) = some T := ev_go e r
theorem ev_hself {h : List ev_E} {k : Nat} {c c0 : ev_E} (e : h[k]? = some c0) : (h.set k c)[k]? = some c := List.getElem?_set_self (List.getElem?_eq_some_iff.mp e).1
theorem ev_hne {h : List ev_E} {k j : Nat} {c c0 : ev_E} (hk : j ≠ k) (e : h[k]? = some c0) : (h.set j c)[k]? = some c0 := by rw [List.getElem?_set_ne hk]; exact e
section EVCP
variable {x c : Int32} {a : Int}
theorem ev_c_lt1 (hx : x.toInt ≤ a) (hc : a < c.toInt) : ev_cmp .lt x c = true := decide_eq_true (Int32.lt_iff_toInt_lt.mpr (by omega))
theorem ev_c_lt0 (hx : a ≤ x.toInt) (hc : c.toInt ≤ a) : ev_cmp .lt x c = false := decide_eq_false (fun h => by have := Int32.lt_iff_toInt_lt.mp h; omega)
theorem ev_c_ge1 (hx : a ≤ x.toInt) (hc : c.toInt ≤ a) : ev_cmp .ge x c = true := decide_eq_true (Int32.le_iff_toInt_le.mpr (by omega))
theorem ev_c_ge0 (hx : x.toInt ≤ a) (hc : a < c.toInt) : ev_cmp .ge x c = false := decide_eq_false (fun h => by have := Int32.le_iff_toInt_le.mp h; omega)
theorem ev_c_gt1 (hx : a ≤ x.toInt) (hc : c.toInt < a) : ev_cmp .gt x c = true := decide_eq_true (Int32.lt_iff_toInt_lt.mpr (by omega))
theorem ev_c_gt0 (hx : x.toInt ≤ a) (hc : a ≤ c.toInt) : ev_cmp .gt x c = false := decide_eq_false (fun h => by have := Int32.lt_iff_toInt_lt.mp h; omega)
theorem ev_c_le1 (hx : x.toInt ≤ a) (hc : a ≤ c.toInt) : ev_cmp .le x c = true := decide_eq_true (Int32.le_iff_toInt_le.mpr (by omega))
theorem ev_c_le0 (hx : a ≤ x.toInt) (hc : c.toInt < a) : ev_cmp .le x c = false := decide_eq_false (fun h => by have := Int32.le_iff_toInt_le.mp h; omega)
theorem ev_c_eq0 (hx : x ≠ c) : ev_cmp .eq x c = false := decide_eq_false hx
theorem ev_c_ne1 (hx : x ≠ c) : ev_cmp .ne x c = true := by
  show (!decide (x = c)) = true
  rw [decide_eq_false hx]
  rfl
theorem ev_c_ne_lo (hx : a ≤ x.toInt) (hc : c.toInt < a) : x ≠ c := fun h => by rw [h] at hx; omega
theorem ev_c_ne_hi (hx : x.toInt ≤ a) (hc : a < c.toInt) : x ≠ c := fun h => by rw [h] at hx; omega
end EVCP
section EVW
variable {X : ev_X} {lv lv' : List (Nat × Value)} {h h' : List ev_E} {n d n' dc ds : Nat} {M : ev_M} {pc : Nat} {st st' as rest : List Value}
theorem ev_w_iconst {k : Int} {v : Int32} (hi : M.1 pc = some (.iconst k, 1)) (hv : Int32.ofInt k = v) : ev_stepM M d X pc lv st h n = some (pc + 1, lv, .int v :: st, h, n, 0, 0) := ev_one_pure hi (by rw [← hv]; rfl)
theorem ev_w_bipush {k : Int} {v : Int32} (hi : M.1 pc = some (.bipush k, 2)) (hv : (Int8.ofInt k).toInt32 = v) : ev_stepM M d X pc lv st h n = some (pc + 2, lv, .int v :: st, h, n, 0, 0) := ev_one_pure hi (by rw [← hv]; rfl)
theorem ev_w_sipush {k : Int} {v : Int32} (hi : M.1 pc = some (.sipush k, 3)) (hv : (Int16.ofInt k).toInt32 = v) : ev_stepM M d X pc lv st h n = some (pc + 3, lv, .int v :: st, h, n, 0, 0) := ev_one_pure hi (by rw [← hv]; rfl)
theorem ev_w_istore {k : Nat} {x : Int32} (hi : M.1 pc = some (.istore k, 2)) (hk : k < M.2.1) (hl : ev_st1 lv k (.int x) = lv') : ev_stepM M d X pc lv (.int x :: st) h n = some (pc + 2, lv', st, h, n, 0, 0) := ev_one_pure hi (by
  show (match decide (k < M.2.1) with
    | true => some (pc + 2, ev_st1 lv k (Value.int x), st)
    | false => none) = _
  rw [decide_eq_true hk, hl])
theorem ev_w_istore_n {k : Fin 4} {x : Int32} (hi : M.1 pc = some (.istore_n k, 1)) (hk : k.val < M.2.1) (hl : ev_st1 lv k.val (.int x) = lv') : ev_stepM M d X pc lv (.int x :: st) h n = some (pc + 1, lv', st, h, n, 0, 0) := ev_one_pure hi (by
  show (match decide (k.val < M.2.1) with
    | true => some (pc + 1, ev_st1 lv k.val (Value.int x), st)
    | false => none) = _
  rw [decide_eq_true hk, hl])
theorem ev_w_astore {k : Nat} {v : Value} (hi : M.1 pc = some (.astore k, 2)) (hk : k < M.2.1) (hv : (∃ a, v = .ref a) ∨ v = .null ∨ ∃ a, v = .retAddr a) (hl : ev_st1 lv k v = lv') : ev_stepM M d X pc lv (v :: st) h n = some (pc + 2, lv', st, h, n, 0, 0) := ev_one_pure hi (by
  rcases hv with ⟨a, rfl⟩ | rfl | ⟨a, rfl⟩ <;> (show (match decide (k < M.2.1) with
    | true => some (pc + 2, ev_st1 lv k _, st)
    | false => none) = _
                                                rw [decide_eq_true hk, hl]))
theorem ev_w_astore_n {k : Fin 4} {v : Value} (hi : M.1 pc = some (.astore_n k, 1)) (hk : k.val < M.2.1) (hv : (∃ a, v = .ref a) ∨ v = .null ∨ ∃ a, v = .retAddr a) (hl : ev_st1 lv k.val v = lv') : ev_stepM M d X pc lv (v :: st) h n = some (pc + 1, lv', st, h, n, 0, 0) := ev_one_pure hi (by
  rcases hv with ⟨a, rfl⟩ | rfl | ⟨a, rfl⟩ <;> (show (match decide (k.val < M.2.1) with
    | true => some (pc + 1, ev_st1 lv k.val _, st)
    | false => none) = _
                                                rw [decide_eq_true hk, hl]))
theorem ev_w_iinc {k : Nat} {c : Int} {x y : Int32} (hi : M.1 pc = some (.iinc k c, 3)) (hk : k < M.2.1) (hv : ev_lk lv k = some (.int x)) (hy : x + Int32.ofInt c = y) (hl : ev_st1 lv k (.int y) = lv') : ev_stepM M d X pc lv st h n = some (pc + 3, lv', st, h, n, 0, 0) := by
  rw [ev_p_iinc hi hk hv, hy, hl]
theorem ev_w_if {q : ClassFile.Cond} {o : Int} {x : Int32} {b : Bool} {t : Nat} (hi : M.1 pc = some (.ifCond q o, 3)) (hc : ev_cmp q x 0 = b) (ht : ev_br b pc o = some t) : ev_stepM M d X pc lv (.int x :: st) h n = some (t, lv, st, h, n, 0, 0) := ev_p_if hi (by rw [hc]; exact ht)
theorem ev_w_icmp {q : ClassFile.Cond} {o : Int} {x y : Int32} {b : Bool} {t : Nat} (hi : M.1 pc = some (.if_icmp q o, 3)) (hc : ev_cmp q x y = b) (ht : ev_br b pc o = some t) : ev_stepM M d X pc lv (.int y :: .int x :: st) h n = some (t, lv, st, h, n, 0, 0) := ev_p_icmp hi (by rw [hc]; exact ht)
theorem ev_w_ifnull {o : Int} {v : Value} {t : Nat} (hi : M.1 pc = some (.ifnull o, 3)) (hv : (v = .null ∧ ev_tg pc o = some t) ∨ ((∃ a, v = .ref a) ∧ t = pc + 3)) : ev_stepM M d X pc lv (v :: st) h n = some (t, lv, st, h, n, 0, 0) := ev_one_pure hi (by
  rcases hv with ⟨rfl, e⟩ | ⟨⟨a, rfl⟩, rfl⟩
  · show ev_to lv st (ev_tg pc o) = _
    rw [e]
    rfl
  · rfl)
theorem ev_w_ifnonnull {o : Int} {v : Value} {t : Nat} (hi : M.1 pc = some (.ifnonnull o, 3)) (hv : ((∃ a, v = .ref a) ∧ ev_tg pc o = some t) ∨ (v = .null ∧ t = pc + 3)) : ev_stepM M d X pc lv (v :: st) h n = some (t, lv, st, h, n, 0, 0) := ev_one_pure hi (by
  rcases hv with ⟨⟨a, rfl⟩, e⟩ | ⟨rfl, rfl⟩
  · show ev_to lv st (ev_tg pc o) = _
    rw [e]
    rfl
  · rfl)
theorem ev_w_iadd {x y v : Int32} (hi : M.1 pc = some (.iadd, 1)) (hv : x + y = v) : ev_stepM M d X pc lv (.int y :: .int x :: st) h n = some (pc + 1, lv, .int v :: st, h, n, 0, 0) := ev_one_pure hi (by rw [← hv]; rfl)
theorem ev_w_isub {x y v : Int32} (hi : M.1 pc = some (.isub, 1)) (hv : x - y = v) : ev_stepM M d X pc lv (.int y :: .int x :: st) h n = some (pc + 1, lv, .int v :: st, h, n, 0, 0) := ev_one_pure hi (by rw [← hv]; rfl)
theorem ev_w_imul {x y v : Int32} (hi : M.1 pc = some (.imul, 1)) (hv : x * y = v) : ev_stepM M d X pc lv (.int y :: .int x :: st) h n = some (pc + 1, lv, .int v :: st, h, n, 0, 0) := ev_one_pure hi (by rw [← hv]; rfl)
theorem ev_w_iand {x y v : Int32} (hi : M.1 pc = some (.iand, 1)) (hv : x &&& y = v) : ev_stepM M d X pc lv (.int y :: .int x :: st) h n = some (pc + 1, lv, .int v :: st, h, n, 0, 0) := ev_one_pure hi (by rw [← hv]; rfl)
theorem ev_w_ior {x y v : Int32} (hi : M.1 pc = some (.ior, 1)) (hv : x ||| y = v) : ev_stepM M d X pc lv (.int y :: .int x :: st) h n = some (pc + 1, lv, .int v :: st, h, n, 0, 0) := ev_one_pure hi (by rw [← hv]; rfl)
theorem ev_w_ishl {x y v : Int32} (hi : M.1 pc = some (.ishl, 1)) (hv : x <<< (y &&& 31) = v) : ev_stepM M d X pc lv (.int y :: .int x :: st) h n = some (pc + 1, lv, .int v :: st, h, n, 0, 0) := ev_one_pure hi (by rw [← hv]; rfl)
def ev_ushr (x y : Int32) : Int32 := (x.toUInt32 >>> (y.toUInt32 &&& Int32.toUInt32 31)).toInt32
theorem ev_w_iushr {x y v : Int32} (hi : M.1 pc = some (.iushr, 1)) (hv : ev_ushr x y = v) : ev_stepM M d X pc lv (.int y :: .int x :: st) h n = some (pc + 1, lv, .int v :: st, h, n, 0, 0) := ev_one_pure hi (by rw [← hv]; rfl)
theorem ev_w_i2l {x : Int32} {v : Int64} (hi : M.1 pc = some (.i2l, 1)) (hv : x.toInt64 = v) : ev_stepM M d X pc lv (.int x :: st) h n = some (pc + 1, lv, .long v :: st, h, n, 0, 0) := ev_one_pure hi (by rw [← hv]; rfl)
theorem ev_w_lcmp {x y : Int64} {v : Int32} (hi : M.1 pc = some (.lcmp, 1)) (hv : lg_cmp x y = v) : ev_stepM M d X pc lv (.long y :: .long x :: st) h n = some (pc + 1, lv, .int v :: st, h, n, 0, 0) := ev_one_pure hi (by rw [← hv]; rfl)
theorem ev_w_iald {k N : Nat} {l : List (Nat × Value)} {x v : Int32} (hi : M.1 pc = some (.iaload, 1)) (hk : h[k]? = some (.inl (.int, N, l))) (hx : ev_in x N = true) (hv : ev_int (ev_rd (.int 0) l x.toNatClampNeg) = v) : ev_stepM M d X pc lv (.int x :: .ref k :: st) h n = some (pc + 1, lv, .int v :: st, h, n, 0, 0) := by
  rw [ev_p_iald hi hk hx, hv]
theorem ev_w_lald {k N : Nat} {l : List (Nat × Value)} {x : Int32} {v : Int64} (hi : M.1 pc = some (.laload, 1)) (hk : h[k]? = some (.inl (.long, N, l))) (hx : ev_in x N = true) (hv : ev_long (ev_rd (.long 0) l x.toNatClampNeg) = v) : ev_stepM M d X pc lv (.int x :: .ref k :: st) h n = some (pc + 1, lv, .long v :: st, h, n, 0, 0) := by
  rw [ev_p_lald hi hk hx, hv]
theorem ev_w_zald {k N : Nat} {l : List (Nat × Value)} {x v : Int32} (hi : M.1 pc = some (.baload, 1)) (hk : h[k]? = some (.inl (.boolean, N, l))) (hx : ev_in x N = true) (hv : ev_int (ev_rd (.int 0) l x.toNatClampNeg) = v) : ev_stepM M d X pc lv (.int x :: .ref k :: st) h n = some (pc + 1, lv, .int v :: st, h, n, 0, 0) := by
  rw [ev_p_zald hi hk hx, hv]
theorem ev_w_aald {k N : Nat} {C : String} {l : List (Nat × Value)} {x : Int32} {v : Value} (hi : M.1 pc = some (.aaload, 1)) (hk : h[k]? = some (.inl (.object C, N, l))) (hx : ev_in x N = true) (hv : ev_ref (ev_rd .null l x.toNatClampNeg) = v) : ev_stepM M d X pc lv (.int x :: .ref k :: st) h n = some (pc + 1, lv, v :: st, h, n, 0, 0) := ev_one_mem hi rfl (by
  show (match h[k]? with
      | some (.inl (.object C, N, l)) => ev_ald false true [.object C] pc st h n x (some (.inl (.object C, N, l)))
      | some (.inl (.array t, N, l)) => ev_ald false true [.array t] pc st h n x (some (.inl (.array t, N, l)))
      | _ => none) = _
  rw [hk]
  unfold ev_ald
  dsimp only
  rw [hx, decide_eq_true (List.mem_singleton.mpr rfl)]
  show some (pc + 1, ev_ref (ev_rd .null l x.toNatClampNeg) :: st, h, n, 0, 0) = _
  rw [hv])
theorem ev_w_iast {k N j : Nat} {l : List (Nat × Value)} {x v : Int32} (hi : M.1 pc = some (.iastore, 1)) (hk : h[k]? = some (.inl (.int, N, l))) (hx : ev_in x N = true) (hj : x.toNatClampNeg = j) : ev_stepM M d X pc lv (.int v :: .int x :: .ref k :: st) h n = some (pc + 1, lv, st, h.set k (.inl (.int, N, (j, .int v) :: l)), n, 0, 0) := by
  rw [ev_p_iast hi hk hx, hj]
theorem ev_w_last {k N j : Nat} {l : List (Nat × Value)} {x : Int32} {v : Int64} (hi : M.1 pc = some (.lastore, 1)) (hk : h[k]? = some (.inl (.long, N, l))) (hx : ev_in x N = true) (hj : x.toNatClampNeg = j) : ev_stepM M d X pc lv (.long v :: .int x :: .ref k :: st) h n = some (pc + 1, lv, st, h.set k (.inl (.long, N, (j, .long v) :: l)), n, 0, 0) := by
  rw [ev_p_last hi hk hx, hj]
theorem ev_w_zast {k N j : Nat} {l : List (Nat × Value)} {x v v' : Int32} (hi : M.1 pc = some (.bastore, 1)) (hk : h[k]? = some (.inl (.boolean, N, l))) (hx : ev_in x N = true) (hj : x.toNatClampNeg = j) (hv : narrow .boolean (.int v) = .int v') : ev_stepM M d X pc lv (.int v :: .int x :: .ref k :: st) h n = some (pc + 1, lv, st, h.set k (.inl (.boolean, N, (j, .int v') :: l)), n, 0, 0) := by
  rw [ev_p_bast hi hk (Or.inr rfl) hx, hj, hv]
theorem ev_w_scr {L : Nat} {xs : Nat → Int32} {x v : Int32} {j : Nat} (hi : M.1 pc = some (.iaload, 1)) (hx : ev_in x L = true) (hj : x.toNatClampNeg = j) (hv : xs j = v) : ev_stepM M d (some (L, xs)) pc lv (.int x :: .retAddr 0 :: st) h n = some (pc + 1, lv, .int v :: st, h, n, 0, 0) := by
  rw [ev_p_scr hi hx, hj, hv]
theorem ev_stop_a {pcR : Nat} {v : Value} (hi : M.1 pcR = some (.areturn, 1)) : ev_stepM M d X pcR lv (v :: st) h n = none := by
  unfold ev_stepM ev_one
  rw [hi]
  cases X <;> rfl
theorem ev_call_ref {mi k pcR nc ns : Nat} {v : Value} {C : String} (hP : (ev_P mi).isSome = true) (hs : Nat.ble (ev_sum as) (ev_Mof mi).2.1 = true) (hrun : ev_stepn (ev_stepM (ev_Mof mi) d none) k (0, lv_args 0 as, [], h, n, 0, 0) = some (pcR, lv', [v], h', n', nc, ns)) (hi : (ev_Mof mi).1 pcR = some (.areturn, 1)) (hty : (ev_Mof mi).2.2.2.2.2.2.1 = some (.object C)) (hv : ev_retOk (.object C) v = true) (hk : k < 100000) : ev_calld (d + 1) mi as h n = some (.inl (some v), h', n', nc, ns) := by
  refine ev_call_of (ev_P_of hP) hs (ev_from_done hrun (ev_stop_a hi) hk) ?_
  show ev_end ev_TXs (ev_Mof mi) (d + 1) (pcR, [v], h', n', nc, ns) = _
  unfold ev_end
  simp only [hi, hty, hv]
end EVW
