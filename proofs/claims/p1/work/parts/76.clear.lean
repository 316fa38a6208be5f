def ev_F1 : List Value := [.ref 2, .int (0)]
theorem ev_fH1 : ev_H0[1]? = some (.inr (10, ev_F1)) := by decide +kernel
theorem ev_k5001 {n : Nat} : ev_calld 12 167 [.ref 0] ev_H0 n = some (.inl (some (.int (0))), (ev_H0.set 1 (.inr (10, (ev_F1.set 1 (.int (0)))))), n, 0, 0) := by
  refine ev_call_int (k := 9) (pcR := 17) (lv' := [(1, .int (0)), (0, .ref 0)]) (v := (0)) (ty := .int) (by decide +kernel) rfl ?_ (by decide +kernel) (by decide +kernel) (by decide +kernel) (by decide)
  show ev_stepn _ 9 (0, [(0, .ref 0)], [], _, _, 0, 0) = _
  refine ev_go0 (ev_one_pure (M := (ev_Mof 167)) (pc := 0) (i := .aload_n 0) (len := 1) (pc' := 1) (lv' := [(0, .ref 0)]) (st' := [.ref 0]) (by decide +kernel) rfl) ?_
  refine ev_go0 (ev_p_getf (M := (ev_Mof 167)) (pc := 1) (x := 12) (ci := 12) (f := 0) (fin := 1) (v := .ref 1) (by decide +kernel) (by decide +kernel) ev_fH0 rfl) ?_
  refine ev_go0 (ev_p_getf (M := (ev_Mof 167)) (pc := 4) (x := 105) (ci := 10) (f := 1) (fin := 0) (v := .int (0)) (by decide +kernel) (by decide +kernel) ev_fH1 rfl) ?_
  refine ev_go0 (ev_w_istore_n (M := (ev_Mof 167)) (pc := 7) (k := 1) (lv' := [(1, .int (0)), (0, .ref 0)]) (by decide +kernel) (by decide +kernel) rfl) ?_
  refine ev_go0 (ev_one_pure (M := (ev_Mof 167)) (pc := 8) (i := .aload_n 0) (len := 1) (pc' := 9) (lv' := [(1, .int (0)), (0, .ref 0)]) (st' := [.ref 0]) (by decide +kernel) rfl) ?_
  refine ev_go0 (ev_p_getf (M := (ev_Mof 167)) (pc := 9) (x := 12) (ci := 12) (f := 0) (fin := 1) (v := .ref 1) (by decide +kernel) (by decide +kernel) ev_fH0 rfl) ?_
  refine ev_go0 (ev_w_iconst (M := (ev_Mof 167)) (pc := 12) (k := 0) (v := 0) (by decide +kernel) (by decide +kernel)) ?_
  refine ev_go0 (ev_p_putf (M := (ev_Mof 167)) (pc := 13) (x := 105) (ci := 10) (f := 1) (by decide +kernel) (by decide +kernel) ev_fH1 rfl (by decide +kernel)) ?_
  refine ev_go0 (ev_one_pure (M := (ev_Mof 167)) (pc := 16) (i := .iload_n 1) (len := 1) (pc' := 17) (lv' := [(1, .int (0)), (0, .ref 0)]) (st' := [.int (0)]) (by decide +kernel) rfl) ?_
  rfl
theorem ev_k5002 {n : Nat} : ev_calld 12 231 [.ref 621] (ev_H0.set 1 (.inr (10, (ev_F1.set 1 (.int (0)))))) n = some (.inl (some (.int (0))), (((ev_H0.set 1 (.inr (10, (ev_F1.set 1 (.int (0)))))).set 621 (.inr (13, (ev_F621.set 0 (.int (0)))))).set 621 (.inr (13, ((ev_F621.set 0 (.int (0))).set 1 (.int (0)))))), n, 0, 0) := by
  refine ev_call_int (k := 10) (pcR := 16) (lv' := [(1, .int (0)), (0, .ref 621)]) (v := (0)) (ty := .int) (by decide +kernel) rfl ?_ (by decide +kernel) (by decide +kernel) (by decide +kernel) (by decide)
  show ev_stepn _ 10 (0, [(0, .ref 621)], [], _, _, 0, 0) = _
  refine ev_go0 (ev_one_pure (M := (ev_Mof 231)) (pc := 0) (i := .aload_n 0) (len := 1) (pc' := 1) (lv' := [(0, .ref 621)]) (st' := [.ref 621]) (by decide +kernel) rfl) ?_
  refine ev_go0 (ev_w_iconst (M := (ev_Mof 231)) (pc := 1) (k := 0) (v := 0) (by decide +kernel) (by decide +kernel)) ?_
  refine ev_go0 (ev_p_putf (M := (ev_Mof 231)) (pc := 2) (x := 321) (ci := 13) (f := 0) (by decide +kernel) (by decide +kernel) (ev_hne (by decide) ev_fH621) rfl (by decide +kernel)) ?_
  refine ev_go0 (ev_one_pure (M := (ev_Mof 231)) (pc := 5) (i := .aload_n 0) (len := 1) (pc' := 6) (lv' := [(0, .ref 621)]) (st' := [.ref 621]) (by decide +kernel) rfl) ?_
  refine ev_go0 (ev_p_getf (M := (ev_Mof 231)) (pc := 6) (x := 346) (ci := 13) (f := 1) (fin := 0) (v := .int (0)) (by decide +kernel) (by decide +kernel) (ev_hself (ev_hne (by decide) ev_fH621)) rfl) ?_
  refine ev_go0 (ev_w_istore_n (M := (ev_Mof 231)) (pc := 9) (k := 1) (lv' := [(1, .int (0)), (0, .ref 621)]) (by decide +kernel) (by decide +kernel) rfl) ?_
  refine ev_go0 (ev_one_pure (M := (ev_Mof 231)) (pc := 10) (i := .aload_n 0) (len := 1) (pc' := 11) (lv' := [(1, .int (0)), (0, .ref 621)]) (st' := [.ref 621]) (by decide +kernel) rfl) ?_
  refine ev_go0 (ev_w_iconst (M := (ev_Mof 231)) (pc := 11) (k := 0) (v := 0) (by decide +kernel) (by decide +kernel)) ?_
  refine ev_go0 (ev_p_putf (M := (ev_Mof 231)) (pc := 12) (x := 346) (ci := 13) (f := 1) (by decide +kernel) (by decide +kernel) (ev_hself (ev_hne (by decide) ev_fH621)) rfl (by decide +kernel)) ?_
  refine ev_go0 (ev_one_pure (M := (ev_Mof 231)) (pc := 15) (i := .iload_n 1) (len := 1) (pc' := 16) (lv' := [(1, .int (0)), (0, .ref 621)]) (st' := [.int (0)]) (by decide +kernel) rfl) ?_
  rfl
theorem ev_p1_1_a (xs : Nat → Int32) : ev_P1 xs 244 := by
  refine ⟨5, [(4, .int (0)), (3, .ref 723), (2, .ref 621), (1, .ref 0), (0, .retAddr 0)], (((ev_H0.set 1 (.inr (10, (ev_F1.set 1 (.int (0)))))).set 621 (.inr (13, (ev_F621.set 0 (.int (0)))))).set 621 (.inr (13, ((ev_F621.set 0 (.int (0))).set 1 (.int (0)))))), 724, 724, 3553586, ?_, ⟨rfl, rfl, rfl, rfl⟩, rfl, by decide, by decide⟩
  show ev_stepn _ _ (244, [(4, .int (0)), (3, .ref 723), (2, .ref 621), (1, .ref 0), (0, .retAddr 0)], [], _, _, _, _) = _
  refine ev_go0 (ev_one_pure (M := ev_Mlaw) (pc := 244) (i := .aload_n 1) (len := 1) (pc' := 245) (lv' := [(4, .int (0)), (3, .ref 723), (2, .ref 621), (1, .ref 0), (0, .retAddr 0)]) (st' := [.ref 0]) (by decide +kernel) rfl) ?_
  refine ev_go0 (ev_p_virt (M := ev_Mlaw) (pc := 245) (x := 134) (mi := 167) (na := 0) (by decide +kernel) (by decide +kernel) (by decide +kernel) (by decide +kernel) rfl rfl (ev_recv_of ev_fH0) ev_k5001) ?_
  refine ev_go0 (ev_one_pure (M := ev_Mlaw) (pc := 248) (i := .aload_n 2) (len := 1) (pc' := 249) (lv' := [(4, .int (0)), (3, .ref 723), (2, .ref 621), (1, .ref 0), (0, .retAddr 0)]) (st' := [.ref 621, .int (0)]) (by decide +kernel) rfl) ?_
  refine ev_go0 (ev_p_virt (M := ev_Mlaw) (pc := 249) (x := 137) (mi := 231) (na := 0) (by decide +kernel) (by decide +kernel) (by decide +kernel) (by decide +kernel) rfl rfl (ev_recv_of (ev_hne (by decide) ev_fH621)) ev_k5002) ?_
  refine ev_go0 (ev_w_icmp (M := ev_Mlaw) (pc := 252) (q := .eq) (o := 2020) (b := true) (t := 2272) (by decide +kernel) (by decide +kernel) rfl) ?_
  rfl
theorem ev_p1arm1 (xs : Nat → Int32) : ev_P1 xs 244 := ev_p1_1_a xs
