/-! THROWS: a method that ends in one, and a call that is caught -/
section EVPT
variable {X : ev_X} {lv : List (Nat × Value)} {h h' : List ev_E} {n d n' dc ds : Nat} {M : ev_M} {pc : Nat} {st as rest : List Value}
/-- a virtual call that throws what is caught here -/
theorem ev_p_virtX {x mi na t : Nat} {E : String} (hi : M.1 pc = some (.invokevirtual x, 3)) (hk : ev_Lk M.2.2.1 x = some (0, mi, na)) (hP : (ev_P mi).isSome = true) (hna : Nat.beq na (ev_Mof mi).2.2.2.2.2.1 = true) (hpop : ev_pop (na + 1) [] st = some (as, rest)) (hs : Nat.ble (ev_sum rest) 8 = true) (hr : ev_recv h (ev_Mof mi).2.2.1 as = true) (hc : ev_calld d mi as h n = some (.inr E, h', n', dc, ds)) (ht : ev_hd E pc M.2.2.2.2.2.2.2 = some t) : ev_stepM M d X pc lv st h n = some (t, lv, [.retAddr 1], h', n', dc, ds) := by
  refine ev_one_virtual hi ?_
  rw [hk, ev_inv_obj (Y := ev_Mof mi) rfl rfl rfl (ev_P_of hP) (by rw [hna]; rfl) rfl hpop (by rw [hs, hr]; rfl)]
  show ev_back M pc lv rest (ev_ansOf true (ev_calld d mi as h n)) = _
  rw [hc]
  show (match ev_hd E pc M.2.2.2.2.2.2.2 with
    | some t => some (t, lv, [Value.retAddr 1], h', n', dc, ds)
    | none => none) = _
  rw [ht]
/-- no step at a new of what is thrown -/
theorem ev_stop_new {x : Nat} (hi : M.1 pc = some (.new x, 3)) (hx : (ev_PEs M.2.2.1).2.1 x = none) : ev_stepM M d X pc lv st h n = none := by
  unfold ev_stepM ev_one
  rw [hi]
  have e : ev_mem ev_CN ev_ft ev_nf (ev_PEs M.2.2.1) M.2.2.2.1 (.new x) 3 pc st h n = none := by
    show (match (ev_PEs M.2.2.1).2.1 x with
      | some ci => ev_new pc 3 st h n (.inr (ci, (List.range (ev_nf ci)).map (fun k => defaultValue (ev_ft ci k)))) (ev_nf ci)
      | none => none) = _
    rw [hx]
  show (match ev_mem ev_CN ev_ft ev_nf (ev_PEs M.2.2.1) M.2.2.2.1 (.new x) 3 pc st h n with
    | some (pc', st', h', n', dc, ds) => some (pc', lv, st', h', n', dc, ds)
    | none => (match ev_ctl ev_P ev_Lk M (ev_calld d) (.new x) 3 pc lv st h n with
      | some z => some z
      | none => ev_scr X (.new x) 3 pc lv st h n)) = none
  rw [e]
  cases X <;> rfl
/-- a method that throws, out of its run up to the new -/
theorem ev_call_thrown {mi k pcR nc ns x : Nat} {lv' : List (Nat × Value)} {E : String} (hP : (ev_P mi).isSome = true) (hs : Nat.ble (ev_sum as) (ev_Mof mi).2.1 = true) (hrun : ev_stepn (ev_stepM (ev_Mof mi) d none) k (0, lv_args 0 as, [], h, n, 0, 0) = some (pcR, lv', [], h', n', nc, ns)) (hi : (ev_Mof mi).1 pcR = some (.new x, 3)) (hx : ((ev_PEs (ev_Mof mi).2.2.1).2.1 x).isNone = true) (he : ev_thr (ev_Mof mi) ev_TXs pcR x [] = some E) (hd : Nat.ble 6 (d + 1) = true) (hk : k < 100000) : ev_calld (d + 1) mi as h n = some (.inr E, h', n', nc + 1, ns + 6) := by
  refine ev_call_of (ev_P_of hP) hs (ev_from_done hrun (ev_stop_new hi (Option.isNone_iff_eq_none.mp hx)) hk) ?_
  show ev_end ev_TXs (ev_Mof mi) (d + 1) (pcR, [], h', n', nc, ns) = _
  unfold ev_end
  simp only [hi, he, hd]
theorem ev_call_void {mi k pcR nc ns : Nat} {lv' : List (Nat × Value)} (hP : (ev_P mi).isSome = true) (hs : Nat.ble (ev_sum as) (ev_Mof mi).2.1 = true) (hrun : ev_stepn (ev_stepM (ev_Mof mi) d none) k (0, lv_args 0 as, [], h, n, 0, 0) = some (pcR, lv', [], h', n', nc, ns)) (hi : (ev_Mof mi).1 pcR = some (.return_, 1)) (hty : (ev_Mof mi).2.2.2.2.2.2.1 = none) (hk : k < 100000) : ev_calld (d + 1) mi as h n = some (.inl none, h', n', nc, ns) :=
  ev_call_of (ev_P_of hP) hs (ev_from_done hrun (ev_stop_void hi) hk) (ev_end_void hi hty)
end EVPT
