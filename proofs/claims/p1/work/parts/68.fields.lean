/-! SINGLE STEPS upon cells, and the first methods -/
section EVPF
variable {X : ev_X} {lv : List (Nat × Value)} {h : List ev_E} {n d : Nat} {M : ev_M} {pc : Nat} {st : List Value}
theorem ev_p_getf {x ci f fin k : Nat} {fs : List Value} {v : Value} (hi : M.1 pc = some (.getfield x, 3)) (hx : (ev_PEs M.2.2.1).1 x = some (ci, f, fin)) (hk : h[k]? = some (.inr (ci, fs))) (hv : fs[f]? = some v) : ev_stepM M d X pc lv (.ref k :: st) h n = some (pc + 3, lv, v :: st, h, n, 0, 0) := ev_one_mem hi rfl (by
  show ev_fld ev_ft M.2.2.2.1 pc (.ref k :: st) h n false ((ev_PEs M.2.2.1).1 x) = _
  rw [hx]
  show ev_get pc st h n ci f h[k]? = _
  rw [hk]
  unfold ev_get
  dsimp only
  rw [Nat.beq_refl]
  dsimp only
  rw [hv])
theorem ev_p_putf {x ci f k : Nat} {fs : List Value} {v : Value} (hi : M.1 pc = some (.putfield x, 3)) (hx : (ev_PEs M.2.2.1).1 x = some (ci, f, 0)) (hk : h[k]? = some (.inr (ci, fs))) (hf : ev_fit (ev_ft ci f) v = true) (hl : f < fs.length) : ev_stepM M d X pc lv (v :: .ref k :: st) h n = some (pc + 3, lv, st, h.set k (.inr (ci, fs.set f v)), n, 0, 0) := ev_one_mem hi rfl (by
  show ev_fld ev_ft M.2.2.2.1 pc (v :: .ref k :: st) h n true ((ev_PEs M.2.2.1).1 x) = _
  rw [hx]
  show ev_put ev_ft pc st h n ci f k v h[k]? = _
  rw [hk]
  unfold ev_put
  dsimp only
  have hb : Nat.blt f fs.length = true := by simpa [Nat.blt_eq] using hl
  rw [Nat.beq_refl, hf, hb]
  rfl)
theorem ev_p_istore_n {k : Fin 4} {x : Int32} (hi : M.1 pc = some (.istore_n k, 1)) (hk : k.val < M.2.1) : ev_stepM M d X pc lv (.int x :: st) h n = some (pc + 1, ev_st1 lv k.val (.int x), st, h, n, 0, 0) := ev_one_pure hi (by
  show (match decide (k.val < M.2.1) with
    | true => some (pc + 1, ev_st1 lv k.val (Value.int x), st)
    | false => none) = _
  rw [decide_eq_true hk])
theorem ev_stop_ret {pcR : Nat} {v : Int32} (hi : M.1 pcR = some (.ireturn, 1)) : ev_stepM M d X pcR lv (.int v :: st) h n = none := by
  unfold ev_stepM ev_one
  rw [hi]
  cases X <;> rfl
theorem ev_stop_void {pcR : Nat} (hi : M.1 pcR = some (.return_, 1)) : ev_stepM M d X pcR lv st h n = none := by
  unfold ev_stepM ev_one
  rw [hi]
  cases X <;> rfl
end EVPF
/-- a method that answers an int, out of its run -/
theorem ev_call_int {mi d k pcR n n' dc ds : Nat} {as : List Value} {h h' : List ev_E} {lv' : List (Nat × Value)} {v : Int32} {ty : FieldType} (hP : (ev_P mi).isSome = true) (hs : Nat.ble (ev_sum as) (ev_Mof mi).2.1 = true) (hrun : ev_stepn (ev_stepM (ev_Mof mi) d none) k (0, lv_args 0 as, [], h, n, 0, 0) = some (pcR, lv', [.int v], h', n', dc, ds)) (hi : (ev_Mof mi).1 pcR = some (.ireturn, 1)) (hty : (ev_Mof mi).2.2.2.2.2.2.1 = some ty) (hv : ev_retOk ty (.int v) = true) (hk : k < 100000) : ev_calld (d + 1) mi as h n = some (.inl (some (.int v)), h', n', dc, ds) :=
  ev_call_of (ev_P_of hP) hs (ev_from_done hrun (ev_stop_ret hi) hk) (ev_end_int hi hty hv)
section EVC1
variable {h : List ev_E} {n d : Nat}
/-- clear: the class's -/
theorem ev_c_clear {F T : List Value} {c : Int32} (h0 : h[0]? = some (.inr (12, F))) (hF : F[0]? = some (.ref 1)) (h1 : h[1]? = some (.inr (10, T))) (hT : T[1]? = some (.int c)) : ev_calld (d + 1) 167 [.ref 0] h n = some (.inl (some (.int c)), h.set 1 (.inr (10, T.set 1 (.int 0))), n, 0, 0) := by
  have hl : 1 < T.length := (List.getElem?_eq_some_iff.mp hT).1
  have r : ev_stepn (ev_stepM (ev_Mof 167) d none) (1 + (1 + (1 + (1 + (1 + (1 + (1 + (1 + 1)))))))) (0, lv_args 0 [.ref 0], [], h, n, 0, 0) = some (17, ev_st1 [(0, .ref 0)] 1 (.int c), [.int c], h.set 1 (.inr (10, T.set 1 (.int 0))), n, 0, 0) :=
    ev_stepn_add (ev_stepn_1 (ev_p_aload_r (pc := 0) (k := 0) (a := 0) (by decide +kernel) rfl))
    (ev_stepn_add (ev_stepn_1 (ev_p_getf (pc := 1) (x := 12) (ci := 12) (f := 0) (fin := 1) (by decide +kernel) (by decide +kernel) h0 hF))
    (ev_stepn_add (ev_stepn_1 (ev_p_getf (pc := 4) (x := 105) (ci := 10) (f := 1) (fin := 0) (by decide +kernel) (by decide +kernel) h1 hT))
    (ev_stepn_add (ev_stepn_1 (ev_p_istore_n (pc := 7) (k := 1) (by decide +kernel) (by decide +kernel)))
    (ev_stepn_add (ev_stepn_1 (ev_p_aload_r (pc := 8) (k := 0) (a := 0) (by decide +kernel) rfl))
    (ev_stepn_add (ev_stepn_1 (ev_p_getf (pc := 9) (x := 12) (ci := 12) (f := 0) (fin := 1) (by decide +kernel) (by decide +kernel) h0 hF))
    (ev_stepn_add (ev_stepn_1 (ev_p_iconst (pc := 12) (k := 0) (by decide +kernel)))
    (ev_stepn_add (ev_stepn_1 (ev_p_putf (pc := 13) (x := 105) (ci := 10) (f := 1) (by decide +kernel) (by decide +kernel) h1 rfl hl))
    (ev_stepn_1 (ev_p_iload_n (pc := 16) (k := 1) (by decide +kernel) rfl)))))))))
  exact ev_call_int (by decide +kernel) (by decide +kernel) r (by decide +kernel) (ty := .int) (by decide +kernel) rfl (by decide)
end EVC1
