def ev_F263 : List Value := [.ref 264, .int (0)]
theorem ev_fH263 : ev_H0[263]? = some (.inr (10, ev_F263)) := by decide +kernel
def ev_F265 : List Value := [.ref 266, .int (0)]
theorem ev_fH265 : ev_H0[265]? = some (.inr (10, ev_F265)) := by decide +kernel
def ev_F267 : List Value := [.ref 268, .int (0)]
theorem ev_fH267 : ev_H0[267]? = some (.inr (10, ev_F267)) := by decide +kernel
theorem ev_fH707 : ev_H0[707]? = some (.inl (.int, 3, [])) := by decide +kernel
theorem ev_k230 (x2 : Int32) (hu_x2 : x2.toInt ≤ (-1 : Int)) {n : Nat} : ev_calld 10 1 [.ref 254, .int x2] ev_H0 n = some (.inl (some (.null)), ev_H0, n, 0, 0) := by
  refine ev_call_ref (k := 3) (pcR := 19) (lv' := [(0, .ref 254), (1, .int x2)]) (v := .null) (C := "MendBench$Text") (by decide +kernel) rfl ?_ (by decide +kernel) (by decide +kernel) rfl (by decide)
  show ev_stepn _ 3 (0, [(0, .ref 254), (1, .int x2)], [], _, _, 0, 0) = _
  refine ev_go0 (ev_one_pure (M := (ev_Mof 1)) (pc := 0) (i := .iload_n 1) (len := 1) (pc' := 1) (lv' := [(0, .ref 254), (1, .int x2)]) (st' := [.int x2]) (by decide +kernel) rfl) ?_
  refine ev_go0 (ev_w_if (M := (ev_Mof 1)) (pc := 1) (q := .lt) (o := 17) (b := true) (t := 18) (by decide +kernel) (ev_c_lt1 hu_x2 (by decide +kernel)) rfl) ?_
  refine ev_go0 (ev_one_pure (M := (ev_Mof 1)) (pc := 18) (i := .aconst_null) (len := 1) (pc' := 19) (lv' := [(0, .ref 254), (1, .int x2)]) (st' := [.null]) (by decide +kernel) rfl) ?_
  rfl
theorem ev_k231 (x1 : Int32) (hu_x1 : x1.toInt ≤ (-1 : Int)) (x2 : Int32) (hu_x2 : x2.toInt ≤ (-1 : Int)) (x3 : Int32) {n : Nat} : ev_calld 11 179 [.ref 0, .int x1, .int x2, .int x3] ev_H0 n = some (.inr "java/lang/IndexOutOfBoundsException", ev_H0, n, 1, 6) := by
  refine ev_call_thrown (k := 11) (pcR := 40) (x := 160) (lv' := [(5, .null), (4, .null), (0, .ref 0), (1, .int x1), (2, .int x2), (3, .int x3)]) (by decide +kernel) rfl ?_ (by decide +kernel) (by decide +kernel) (by decide +kernel) (by decide) (by decide)
  show ev_stepn _ 11 (0, [(0, .ref 0), (1, .int x1), (2, .int x2), (3, .int x3)], [], _, _, 0, 0) = _
  refine ev_go0 (ev_one_pure (M := (ev_Mof 179)) (pc := 0) (i := .aload_n 0) (len := 1) (pc' := 1) (lv' := [(0, .ref 0), (1, .int x1), (2, .int x2), (3, .int x3)]) (st' := [.ref 0]) (by decide +kernel) rfl) ?_
  refine ev_go0 (ev_one_pure (M := (ev_Mof 179)) (pc := 1) (i := .iload_n 1) (len := 1) (pc' := 2) (lv' := [(0, .ref 0), (1, .int x1), (2, .int x2), (3, .int x3)]) (st' := [.int x1, .ref 0]) (by decide +kernel) rfl) ?_
  refine ev_go0 (ev_p_virt (M := (ev_Mof 179)) (pc := 2) (x := 156) (mi := 200) (na := 1) (by decide +kernel) (by decide +kernel) (by decide +kernel) (by decide +kernel) rfl rfl (ev_recv_of ev_fH0) (ev_k1 x1 hu_x1)) ?_
  refine ev_go0 (ev_w_astore (M := (ev_Mof 179)) (pc := 5) (k := 4) (lv' := [(4, .null), (0, .ref 0), (1, .int x1), (2, .int x2), (3, .int x3)]) (by decide +kernel) (by decide +kernel) (Or.inr (Or.inl rfl)) rfl) ?_
  refine ev_go0 (ev_one_pure (M := (ev_Mof 179)) (pc := 7) (i := .aload_n 0) (len := 1) (pc' := 8) (lv' := [(4, .null), (0, .ref 0), (1, .int x1), (2, .int x2), (3, .int x3)]) (st' := [.ref 0]) (by decide +kernel) rfl) ?_
  refine ev_go0 (ev_p_getf (M := (ev_Mof 179)) (pc := 8) (x := 48) (ci := 12) (f := 8) (fin := 1) (v := .ref 254) (by decide +kernel) (by decide +kernel) ev_fH0 rfl) ?_
  refine ev_go0 (ev_one_pure (M := (ev_Mof 179)) (pc := 11) (i := .iload_n 2) (len := 1) (pc' := 12) (lv' := [(4, .null), (0, .ref 0), (1, .int x1), (2, .int x2), (3, .int x3)]) (st' := [.int x2, .ref 254]) (by decide +kernel) rfl) ?_
  refine ev_go0 (ev_p_virt (M := (ev_Mof 179)) (pc := 12) (x := 221) (mi := 1) (na := 1) (by decide +kernel) (by decide +kernel) (by decide +kernel) (by decide +kernel) rfl rfl (ev_recv_of ev_fH254) (ev_k230 x2 hu_x2)) ?_
  refine ev_go0 (ev_w_astore (M := (ev_Mof 179)) (pc := 15) (k := 5) (lv' := [(5, .null), (4, .null), (0, .ref 0), (1, .int x1), (2, .int x2), (3, .int x3)]) (by decide +kernel) (by decide +kernel) (Or.inr (Or.inl rfl)) rfl) ?_
  refine ev_go0 (ev_one_pure (M := (ev_Mof 179)) (pc := 17) (i := .aload 4) (len := 2) (pc' := 19) (lv' := [(5, .null), (4, .null), (0, .ref 0), (1, .int x1), (2, .int x2), (3, .int x3)]) (st' := [.null]) (by decide +kernel) rfl) ?_
  refine ev_go0 (ev_w_ifnull (M := (ev_Mof 179)) (pc := 19) (o := 21) (t := 40) (by decide +kernel) (Or.inl ⟨rfl, rfl⟩)) ?_
  rfl
theorem ev_k232 (x1 : Int32) (hu_x1 : x1.toInt ≤ (-1 : Int)) (x2 : Int32) (hu_x2 : x2.toInt ≤ (-1 : Int)) (x3 : Int32) {n : Nat} : ev_calld 12 376 [.ref 0, .int x1, .int x2, .int x3, .ref 723] ev_H0 n = some (.inl (some (.int (1))), ev_H0, n, 1, 6) := by
  refine ev_call_int (k := 9) (pcR := 18) (lv' := [(5, .retAddr 1), (0, .ref 0), (1, .int x1), (2, .int x2), (3, .int x3), (4, .ref 723)]) (v := (1)) (ty := .int) (by decide +kernel) rfl ?_ (by decide +kernel) (by decide +kernel) (by decide +kernel) (by decide)
  show ev_stepn _ 9 (0, [(0, .ref 0), (1, .int x1), (2, .int x2), (3, .int x3), (4, .ref 723)], [], _, _, 0, 0) = _
  refine ev_go0 (ev_one_pure (M := (ev_Mof 376)) (pc := 0) (i := .aload 4) (len := 2) (pc' := 2) (lv' := [(0, .ref 0), (1, .int x1), (2, .int x2), (3, .int x3), (4, .ref 723)]) (st' := [.ref 723]) (by decide +kernel) rfl) ?_
  refine ev_go0 (ev_w_iconst (M := (ev_Mof 376)) (pc := 2) (k := 0) (v := 0) (by decide +kernel) (by decide +kernel)) ?_
  refine ev_go0 (ev_one_pure (M := (ev_Mof 376)) (pc := 3) (i := .aload_n 0) (len := 1) (pc' := 4) (lv' := [(0, .ref 0), (1, .int x1), (2, .int x2), (3, .int x3), (4, .ref 723)]) (st' := [.ref 0, .int (0), .ref 723]) (by decide +kernel) rfl) ?_
  refine ev_go0 (ev_one_pure (M := (ev_Mof 376)) (pc := 4) (i := .iload_n 1) (len := 1) (pc' := 5) (lv' := [(0, .ref 0), (1, .int x1), (2, .int x2), (3, .int x3), (4, .ref 723)]) (st' := [.int x1, .ref 0, .int (0), .ref 723]) (by decide +kernel) rfl) ?_
  refine ev_go0 (ev_one_pure (M := (ev_Mof 376)) (pc := 5) (i := .iload_n 2) (len := 1) (pc' := 6) (lv' := [(0, .ref 0), (1, .int x1), (2, .int x2), (3, .int x3), (4, .ref 723)]) (st' := [.int x2, .int x1, .ref 0, .int (0), .ref 723]) (by decide +kernel) rfl) ?_
  refine ev_go0 (ev_one_pure (M := (ev_Mof 376)) (pc := 6) (i := .iload_n 3) (len := 1) (pc' := 7) (lv' := [(0, .ref 0), (1, .int x1), (2, .int x2), (3, .int x3), (4, .ref 723)]) (st' := [.int x3, .int x2, .int x1, .ref 0, .int (0), .ref 723]) (by decide +kernel) rfl) ?_
  refine ev_go (ev_p_virtX (M := (ev_Mof 376)) (pc := 7) (x := 57) (t := 15) (mi := 179) (na := 3) (by decide +kernel) (by decide +kernel) (by decide +kernel) (by decide +kernel) rfl rfl (ev_recv_of ev_fH0) (ev_k231 x1 hu_x1 x2 hu_x2 x3) (by decide +kernel)) ?_
  refine ev_go0 (ev_w_astore (M := (ev_Mof 376)) (pc := 15) (k := 5) (lv' := [(5, .retAddr 1), (0, .ref 0), (1, .int x1), (2, .int x2), (3, .int x3), (4, .ref 723)]) (by decide +kernel) (by decide +kernel) (Or.inr (Or.inr ⟨_, rfl⟩)) rfl) ?_
  refine ev_go0 (ev_w_iconst (M := (ev_Mof 376)) (pc := 17) (k := 1) (v := 1) (by decide +kernel) (by decide +kernel)) ?_
  rfl
theorem ev_k233 (x1 : Int32) (hu_x1 : x1.toInt ≤ (-1 : Int)) (x2 : Int32) (hu_x2 : x2.toInt ≤ (-1 : Int)) (x3 : Int32) {n : Nat} : ev_calld 12 331 [.ref 621, .int x1, .int x2, .int x3] ev_H0 n = some (.inl (some (.int (0))), (ev_H0.set 621 (.inr (13, (ev_F621.set 0 (.int (1)))))), n, 0, 0) := by
  refine ev_call_int (k := 11) (pcR := 34) (lv' := [(0, .ref 621), (1, .int x1), (2, .int x2), (3, .int x3)]) (v := (0)) (ty := .int) (by decide +kernel) rfl ?_ (by decide +kernel) (by decide +kernel) (by decide +kernel) (by decide)
  show ev_stepn _ 11 (0, [(0, .ref 621), (1, .int x1), (2, .int x2), (3, .int x3)], [], _, _, 0, 0) = _
  refine ev_go0 (ev_one_pure (M := (ev_Mof 331)) (pc := 0) (i := .aload_n 0) (len := 1) (pc' := 1) (lv' := [(0, .ref 621), (1, .int x1), (2, .int x2), (3, .int x3)]) (st' := [.ref 621]) (by decide +kernel) rfl) ?_
  refine ev_go0 (ev_one_pure (M := (ev_Mof 331)) (pc := 1) (i := .aload_n 0) (len := 1) (pc' := 2) (lv' := [(0, .ref 621), (1, .int x1), (2, .int x2), (3, .int x3)]) (st' := [.ref 621, .ref 621]) (by decide +kernel) rfl) ?_
  refine ev_go0 (ev_one_pure (M := (ev_Mof 331)) (pc := 2) (i := .iload_n 1) (len := 1) (pc' := 3) (lv' := [(0, .ref 621), (1, .int x1), (2, .int x2), (3, .int x3)]) (st' := [.int x1, .ref 621, .ref 621]) (by decide +kernel) rfl) ?_
  refine ev_go0 (ev_p_virt (M := (ev_Mof 331)) (pc := 3) (x := 531) (mi := 273) (na := 1) (by decide +kernel) (by decide +kernel) (by decide +kernel) (by decide +kernel) rfl rfl (ev_recv_of ev_fH621) (ev_k24 x1 hu_x1)) ?_
  refine ev_go0 (ev_w_if (M := (ev_Mof 331)) (pc := 6) (q := .eq) (o := 16) (b := true) (t := 22) (by decide +kernel) (by decide +kernel) rfl) ?_
  refine ev_go0 (ev_w_iconst (M := (ev_Mof 331)) (pc := 22) (k := 1) (v := 1) (by decide +kernel) (by decide +kernel)) ?_
  refine ev_go0 (ev_p_putf (M := (ev_Mof 331)) (pc := 23) (x := 321) (ci := 13) (f := 0) (by decide +kernel) (by decide +kernel) ev_fH621 rfl (by decide +kernel)) ?_
  refine ev_go0 (ev_one_pure (M := (ev_Mof 331)) (pc := 26) (i := .aload_n 0) (len := 1) (pc' := 27) (lv' := [(0, .ref 621), (1, .int x1), (2, .int x2), (3, .int x3)]) (st' := [.ref 621]) (by decide +kernel) rfl) ?_
  refine ev_go0 (ev_p_getf (M := (ev_Mof 331)) (pc := 27) (x := 321) (ci := 13) (f := 0) (fin := 0) (v := .int (1)) (by decide +kernel) (by decide +kernel) (ev_hself ev_fH621) rfl) ?_
  refine ev_go0 (ev_w_if (M := (ev_Mof 331)) (pc := 30) (q := .le) (o := 5) (b := false) (t := 33) (by decide +kernel) (by decide +kernel) rfl) ?_
  refine ev_go0 (ev_w_iconst (M := (ev_Mof 331)) (pc := 33) (k := 0) (v := 0) (by decide +kernel) (by decide +kernel)) ?_
  rfl
theorem ev_p1_13_nn (xs : Nat → Int32) (x1 : Int32) (hu_x1 : x1.toInt ≤ (-1 : Int)) (x2 : Int32) (hu_x2 : x2.toInt ≤ (-1 : Int)) (x3 : Int32) (e1 : xs 1 = x1) (e2 : xs 2 = x2) (e3 : xs 3 = x3) : ev_P1 xs 1000 := by
  refine ⟨44, [(6, .int (0)), (5, .int (1)), (4, .int (0)), (3, .ref 723), (2, .ref 621), (1, .ref 0), (0, .retAddr 0)], (ev_H0.set 621 (.inr (13, (ev_F621.set 0 (.int (1)))))), 724, 725, 3553592, ?_, ⟨rfl, rfl, rfl, rfl⟩, rfl, by decide, by decide⟩
  show ev_stepn _ _ (1000, [(4, .int (0)), (3, .ref 723), (2, .ref 621), (1, .ref 0), (0, .retAddr 0)], [], _, _, _, _) = _
  refine ev_go0 (ev_one_pure (M := ev_Mlaw) (pc := 1000) (i := .aload_n 1) (len := 1) (pc' := 1001) (lv' := [(4, .int (0)), (3, .ref 723), (2, .ref 621), (1, .ref 0), (0, .retAddr 0)]) (st' := [.ref 0]) (by decide +kernel) rfl) ?_
  refine ev_go0 (ev_one_pure (M := ev_Mlaw) (pc := 1001) (i := .aload_n 0) (len := 1) (pc' := 1002) (lv' := [(4, .int (0)), (3, .ref 723), (2, .ref 621), (1, .ref 0), (0, .retAddr 0)]) (st' := [.retAddr 0, .ref 0]) (by decide +kernel) rfl) ?_
  refine ev_go0 (ev_one_pure (M := ev_Mlaw) (pc := 1002) (i := .iload 4) (len := 2) (pc' := 1004) (lv' := [(4, .int (0)), (3, .ref 723), (2, .ref 621), (1, .ref 0), (0, .retAddr 0)]) (st' := [.int (0), .retAddr 0, .ref 0]) (by decide +kernel) rfl) ?_
  refine ev_go0 (ev_w_iconst (M := ev_Mlaw) (pc := 1004) (k := 1) (v := 1) (by decide +kernel) (by decide +kernel)) ?_
  refine ev_go0 (ev_w_iadd (M := ev_Mlaw) (pc := 1005) (v := (1)) (by decide +kernel) (by decide +kernel)) ?_
  refine ev_go0 (ev_w_scr (M := ev_Mlaw) (pc := 1006) (v := x1) (j := 1) (by decide +kernel) (by decide +kernel) (by decide +kernel) e1) ?_
  refine ev_go0 (ev_one_pure (M := ev_Mlaw) (pc := 1007) (i := .aload_n 0) (len := 1) (pc' := 1008) (lv' := [(4, .int (0)), (3, .ref 723), (2, .ref 621), (1, .ref 0), (0, .retAddr 0)]) (st' := [.retAddr 0, .int x1, .ref 0]) (by decide +kernel) rfl) ?_
  refine ev_go0 (ev_one_pure (M := ev_Mlaw) (pc := 1008) (i := .iload 4) (len := 2) (pc' := 1010) (lv' := [(4, .int (0)), (3, .ref 723), (2, .ref 621), (1, .ref 0), (0, .retAddr 0)]) (st' := [.int (0), .retAddr 0, .int x1, .ref 0]) (by decide +kernel) rfl) ?_
  refine ev_go0 (ev_w_iconst (M := ev_Mlaw) (pc := 1010) (k := 2) (v := 2) (by decide +kernel) (by decide +kernel)) ?_
  refine ev_go0 (ev_w_iadd (M := ev_Mlaw) (pc := 1011) (v := (2)) (by decide +kernel) (by decide +kernel)) ?_
  refine ev_go0 (ev_w_scr (M := ev_Mlaw) (pc := 1012) (v := x2) (j := 2) (by decide +kernel) (by decide +kernel) (by decide +kernel) e2) ?_
  refine ev_go0 (ev_one_pure (M := ev_Mlaw) (pc := 1013) (i := .aload_n 0) (len := 1) (pc' := 1014) (lv' := [(4, .int (0)), (3, .ref 723), (2, .ref 621), (1, .ref 0), (0, .retAddr 0)]) (st' := [.retAddr 0, .int x2, .int x1, .ref 0]) (by decide +kernel) rfl) ?_
  refine ev_go0 (ev_one_pure (M := ev_Mlaw) (pc := 1014) (i := .iload 4) (len := 2) (pc' := 1016) (lv' := [(4, .int (0)), (3, .ref 723), (2, .ref 621), (1, .ref 0), (0, .retAddr 0)]) (st' := [.int (0), .retAddr 0, .int x2, .int x1, .ref 0]) (by decide +kernel) rfl) ?_
  refine ev_go0 (ev_w_iconst (M := ev_Mlaw) (pc := 1016) (k := 3) (v := 3) (by decide +kernel) (by decide +kernel)) ?_
  refine ev_go0 (ev_w_iadd (M := ev_Mlaw) (pc := 1017) (v := (3)) (by decide +kernel) (by decide +kernel)) ?_
  refine ev_go0 (ev_w_scr (M := ev_Mlaw) (pc := 1018) (v := x3) (j := 3) (by decide +kernel) (by decide +kernel) (by decide +kernel) e3) ?_
  refine ev_go0 (ev_one_pure (M := ev_Mlaw) (pc := 1019) (i := .aload_n 3) (len := 1) (pc' := 1020) (lv' := [(4, .int (0)), (3, .ref 723), (2, .ref 621), (1, .ref 0), (0, .retAddr 0)]) (st' := [.ref 723, .int x3, .int x2, .int x1, .ref 0]) (by decide +kernel) rfl) ?_
  refine ev_go (ev_w_stat (M := ev_Mlaw) (pc := 1020) (y := 175) (kind := 8) (Or.inr (Or.inr rfl)) (mi := 376) (na := 5) (by decide +kernel) (by decide +kernel) (by decide +kernel) (by decide +kernel) rfl rfl (ev_k232 x1 hu_x1 x2 hu_x2 x3)) ?_
  refine ev_go0 (ev_w_istore (M := ev_Mlaw) (pc := 1023) (k := 5) (lv' := [(5, .int (1)), (4, .int (0)), (3, .ref 723), (2, .ref 621), (1, .ref 0), (0, .retAddr 0)]) (by decide +kernel) (by decide +kernel) rfl) ?_
  refine ev_go0 (ev_one_pure (M := ev_Mlaw) (pc := 1025) (i := .aload_n 2) (len := 1) (pc' := 1026) (lv' := [(5, .int (1)), (4, .int (0)), (3, .ref 723), (2, .ref 621), (1, .ref 0), (0, .retAddr 0)]) (st' := [.ref 621]) (by decide +kernel) rfl) ?_
  refine ev_go0 (ev_one_pure (M := ev_Mlaw) (pc := 1026) (i := .aload_n 0) (len := 1) (pc' := 1027) (lv' := [(5, .int (1)), (4, .int (0)), (3, .ref 723), (2, .ref 621), (1, .ref 0), (0, .retAddr 0)]) (st' := [.retAddr 0, .ref 621]) (by decide +kernel) rfl) ?_
  refine ev_go0 (ev_one_pure (M := ev_Mlaw) (pc := 1027) (i := .iload 4) (len := 2) (pc' := 1029) (lv' := [(5, .int (1)), (4, .int (0)), (3, .ref 723), (2, .ref 621), (1, .ref 0), (0, .retAddr 0)]) (st' := [.int (0), .retAddr 0, .ref 621]) (by decide +kernel) rfl) ?_
  refine ev_go0 (ev_w_iconst (M := ev_Mlaw) (pc := 1029) (k := 1) (v := 1) (by decide +kernel) (by decide +kernel)) ?_
  refine ev_go0 (ev_w_iadd (M := ev_Mlaw) (pc := 1030) (v := (1)) (by decide +kernel) (by decide +kernel)) ?_
  refine ev_go0 (ev_w_scr (M := ev_Mlaw) (pc := 1031) (v := x1) (j := 1) (by decide +kernel) (by decide +kernel) (by decide +kernel) e1) ?_
  refine ev_go0 (ev_one_pure (M := ev_Mlaw) (pc := 1032) (i := .aload_n 0) (len := 1) (pc' := 1033) (lv' := [(5, .int (1)), (4, .int (0)), (3, .ref 723), (2, .ref 621), (1, .ref 0), (0, .retAddr 0)]) (st' := [.retAddr 0, .int x1, .ref 621]) (by decide +kernel) rfl) ?_
  refine ev_go0 (ev_one_pure (M := ev_Mlaw) (pc := 1033) (i := .iload 4) (len := 2) (pc' := 1035) (lv' := [(5, .int (1)), (4, .int (0)), (3, .ref 723), (2, .ref 621), (1, .ref 0), (0, .retAddr 0)]) (st' := [.int (0), .retAddr 0, .int x1, .ref 621]) (by decide +kernel) rfl) ?_
  refine ev_go0 (ev_w_iconst (M := ev_Mlaw) (pc := 1035) (k := 2) (v := 2) (by decide +kernel) (by decide +kernel)) ?_
  refine ev_go0 (ev_w_iadd (M := ev_Mlaw) (pc := 1036) (v := (2)) (by decide +kernel) (by decide +kernel)) ?_
  refine ev_go0 (ev_w_scr (M := ev_Mlaw) (pc := 1037) (v := x2) (j := 2) (by decide +kernel) (by decide +kernel) (by decide +kernel) e2) ?_
  refine ev_go0 (ev_one_pure (M := ev_Mlaw) (pc := 1038) (i := .aload_n 0) (len := 1) (pc' := 1039) (lv' := [(5, .int (1)), (4, .int (0)), (3, .ref 723), (2, .ref 621), (1, .ref 0), (0, .retAddr 0)]) (st' := [.retAddr 0, .int x2, .int x1, .ref 621]) (by decide +kernel) rfl) ?_
  refine ev_go0 (ev_one_pure (M := ev_Mlaw) (pc := 1039) (i := .iload 4) (len := 2) (pc' := 1041) (lv' := [(5, .int (1)), (4, .int (0)), (3, .ref 723), (2, .ref 621), (1, .ref 0), (0, .retAddr 0)]) (st' := [.int (0), .retAddr 0, .int x2, .int x1, .ref 621]) (by decide +kernel) rfl) ?_
  refine ev_go0 (ev_w_iconst (M := ev_Mlaw) (pc := 1041) (k := 3) (v := 3) (by decide +kernel) (by decide +kernel)) ?_
  refine ev_go0 (ev_w_iadd (M := ev_Mlaw) (pc := 1042) (v := (3)) (by decide +kernel) (by decide +kernel)) ?_
  refine ev_go0 (ev_w_scr (M := ev_Mlaw) (pc := 1043) (v := x3) (j := 3) (by decide +kernel) (by decide +kernel) (by decide +kernel) e3) ?_
  refine ev_go0 (ev_p_virt (M := ev_Mlaw) (pc := 1044) (x := 178) (mi := 331) (na := 3) (by decide +kernel) (by decide +kernel) (by decide +kernel) (by decide +kernel) rfl rfl (ev_recv_of ev_fH621) (ev_k233 x1 hu_x1 x2 hu_x2 x3)) ?_
  refine ev_go0 (ev_w_istore (M := ev_Mlaw) (pc := 1047) (k := 6) (lv' := [(6, .int (0)), (5, .int (1)), (4, .int (0)), (3, .ref 723), (2, .ref 621), (1, .ref 0), (0, .retAddr 0)]) (by decide +kernel) (by decide +kernel) rfl) ?_
  refine ev_go0 (ev_one_pure (M := ev_Mlaw) (pc := 1049) (i := .aload_n 2) (len := 1) (pc' := 1050) (lv' := [(6, .int (0)), (5, .int (1)), (4, .int (0)), (3, .ref 723), (2, .ref 621), (1, .ref 0), (0, .retAddr 0)]) (st' := [.ref 621]) (by decide +kernel) rfl) ?_
  refine ev_go0 (ev_p_virt (M := ev_Mlaw) (pc := 1050) (x := 131) (mi := 220) (na := 0) (by decide +kernel) (by decide +kernel) (by decide +kernel) (by decide +kernel) rfl rfl (ev_recv_of (ev_hself ev_fH621)) ev_k26) ?_
  refine ev_go0 (ev_one_pure (M := ev_Mlaw) (pc := 1053) (i := .iload 5) (len := 2) (pc' := 1055) (lv' := [(6, .int (0)), (5, .int (1)), (4, .int (0)), (3, .ref 723), (2, .ref 621), (1, .ref 0), (0, .retAddr 0)]) (st' := [.int (1), .int (1)]) (by decide +kernel) rfl) ?_
  refine ev_go0 (ev_w_icmp (M := ev_Mlaw) (pc := 1055) (q := .eq) (o := 5) (b := true) (t := 1060) (by decide +kernel) (by decide +kernel) rfl) ?_
  refine ev_go0 (ev_one_pure (M := ev_Mlaw) (pc := 1060) (i := .iload 5) (len := 2) (pc' := 1062) (lv' := [(6, .int (0)), (5, .int (1)), (4, .int (0)), (3, .ref 723), (2, .ref 621), (1, .ref 0), (0, .retAddr 0)]) (st' := [.int (1)]) (by decide +kernel) rfl) ?_
  refine ev_go0 (ev_w_if (M := ev_Mlaw) (pc := 1062) (q := .ne) (o := 15) (b := true) (t := 1077) (by decide +kernel) (by decide +kernel) rfl) ?_
  refine ev_go0 (ev_one_pure (M := ev_Mlaw) (pc := 1077) (i := .goto 1195) (len := 3) (pc' := 2272) (lv' := [(6, .int (0)), (5, .int (1)), (4, .int (0)), (3, .ref 723), (2, .ref 621), (1, .ref 0), (0, .retAddr 0)]) (st' := []) (by decide +kernel) rfl) ?_
  rfl
theorem ev_k234 {n : Nat} : ev_calld 10 1 [.ref 254, .int (0)] ev_H0 n = some (.inl (some (.ref 263)), ev_H0, n, 0, 0) := by
  refine ev_call_ref (k := 10) (pcR := 19) (lv' := [(0, .ref 254), (1, .int (0))]) (v := .ref 263) (C := "MendBench$Text") (by decide +kernel) rfl ?_ (by decide +kernel) (by decide +kernel) rfl (by decide)
  show ev_stepn _ 10 (0, [(0, .ref 254), (1, .int (0))], [], _, _, 0, 0) = _
  refine ev_go0 (ev_one_pure (M := (ev_Mof 1)) (pc := 0) (i := .iload_n 1) (len := 1) (pc' := 1) (lv' := [(0, .ref 254), (1, .int (0))]) (st' := [.int (0)]) (by decide +kernel) rfl) ?_
  refine ev_go0 (ev_w_if (M := (ev_Mof 1)) (pc := 1) (q := .lt) (o := 17) (b := false) (t := 4) (by decide +kernel) (by decide +kernel) rfl) ?_
  refine ev_go0 (ev_one_pure (M := (ev_Mof 1)) (pc := 4) (i := .iload_n 1) (len := 1) (pc' := 5) (lv' := [(0, .ref 254), (1, .int (0))]) (st' := [.int (0)]) (by decide +kernel) rfl) ?_
  refine ev_go0 (ev_w_iconst (M := (ev_Mof 1)) (pc := 5) (k := 3) (v := 3) (by decide +kernel) (by decide +kernel)) ?_
  refine ev_go0 (ev_w_icmp (M := (ev_Mof 1)) (pc := 6) (q := .ge) (o := 12) (b := false) (t := 9) (by decide +kernel) (by decide +kernel) rfl) ?_
  refine ev_go0 (ev_one_pure (M := (ev_Mof 1)) (pc := 9) (i := .aload_n 0) (len := 1) (pc' := 10) (lv' := [(0, .ref 254), (1, .int (0))]) (st' := [.ref 254]) (by decide +kernel) rfl) ?_
  refine ev_go0 (ev_p_getf (M := (ev_Mof 1)) (pc := 10) (x := 13) (ci := 0) (f := 0) (fin := 1) (v := .ref 255) (by decide +kernel) (by decide +kernel) ev_fH254 rfl) ?_
  refine ev_go0 (ev_one_pure (M := (ev_Mof 1)) (pc := 13) (i := .iload_n 1) (len := 1) (pc' := 14) (lv' := [(0, .ref 254), (1, .int (0))]) (st' := [.int (0), .ref 255]) (by decide +kernel) rfl) ?_
  refine ev_go0 (ev_w_aald (M := (ev_Mof 1)) (pc := 14) (C := "MendBench$Text") (v := .ref 263) (by decide +kernel) ev_fH255 (by decide +kernel) rfl) ?_
  refine ev_go0 (ev_one_pure (M := (ev_Mof 1)) (pc := 15) (i := .goto 4) (len := 3) (pc' := 19) (lv' := [(0, .ref 254), (1, .int (0))]) (st' := [.ref 263]) (by decide +kernel) rfl) ?_
  rfl
theorem ev_k235 (x1 : Int32) (hu_x1 : x1.toInt ≤ (-1 : Int)) (x3 : Int32) {n : Nat} : ev_calld 11 179 [.ref 0, .int x1, .int (0), .int x3] ev_H0 n = some (.inr "java/lang/IndexOutOfBoundsException", ev_H0, n, 1, 6) := by
  refine ev_call_thrown (k := 11) (pcR := 40) (x := 160) (lv' := [(5, .ref 263), (4, .null), (0, .ref 0), (1, .int x1), (2, .int (0)), (3, .int x3)]) (by decide +kernel) rfl ?_ (by decide +kernel) (by decide +kernel) (by decide +kernel) (by decide) (by decide)
  show ev_stepn _ 11 (0, [(0, .ref 0), (1, .int x1), (2, .int (0)), (3, .int x3)], [], _, _, 0, 0) = _
  refine ev_go0 (ev_one_pure (M := (ev_Mof 179)) (pc := 0) (i := .aload_n 0) (len := 1) (pc' := 1) (lv' := [(0, .ref 0), (1, .int x1), (2, .int (0)), (3, .int x3)]) (st' := [.ref 0]) (by decide +kernel) rfl) ?_
  refine ev_go0 (ev_one_pure (M := (ev_Mof 179)) (pc := 1) (i := .iload_n 1) (len := 1) (pc' := 2) (lv' := [(0, .ref 0), (1, .int x1), (2, .int (0)), (3, .int x3)]) (st' := [.int x1, .ref 0]) (by decide +kernel) rfl) ?_
  refine ev_go0 (ev_p_virt (M := (ev_Mof 179)) (pc := 2) (x := 156) (mi := 200) (na := 1) (by decide +kernel) (by decide +kernel) (by decide +kernel) (by decide +kernel) rfl rfl (ev_recv_of ev_fH0) (ev_k1 x1 hu_x1)) ?_
  refine ev_go0 (ev_w_astore (M := (ev_Mof 179)) (pc := 5) (k := 4) (lv' := [(4, .null), (0, .ref 0), (1, .int x1), (2, .int (0)), (3, .int x3)]) (by decide +kernel) (by decide +kernel) (Or.inr (Or.inl rfl)) rfl) ?_
  refine ev_go0 (ev_one_pure (M := (ev_Mof 179)) (pc := 7) (i := .aload_n 0) (len := 1) (pc' := 8) (lv' := [(4, .null), (0, .ref 0), (1, .int x1), (2, .int (0)), (3, .int x3)]) (st' := [.ref 0]) (by decide +kernel) rfl) ?_
  refine ev_go0 (ev_p_getf (M := (ev_Mof 179)) (pc := 8) (x := 48) (ci := 12) (f := 8) (fin := 1) (v := .ref 254) (by decide +kernel) (by decide +kernel) ev_fH0 rfl) ?_
  refine ev_go0 (ev_one_pure (M := (ev_Mof 179)) (pc := 11) (i := .iload_n 2) (len := 1) (pc' := 12) (lv' := [(4, .null), (0, .ref 0), (1, .int x1), (2, .int (0)), (3, .int x3)]) (st' := [.int (0), .ref 254]) (by decide +kernel) rfl) ?_
  refine ev_go0 (ev_p_virt (M := (ev_Mof 179)) (pc := 12) (x := 221) (mi := 1) (na := 1) (by decide +kernel) (by decide +kernel) (by decide +kernel) (by decide +kernel) rfl rfl (ev_recv_of ev_fH254) ev_k234) ?_
  refine ev_go0 (ev_w_astore (M := (ev_Mof 179)) (pc := 15) (k := 5) (lv' := [(5, .ref 263), (4, .null), (0, .ref 0), (1, .int x1), (2, .int (0)), (3, .int x3)]) (by decide +kernel) (by decide +kernel) (Or.inl ⟨_, rfl⟩) rfl) ?_
  refine ev_go0 (ev_one_pure (M := (ev_Mof 179)) (pc := 17) (i := .aload 4) (len := 2) (pc' := 19) (lv' := [(5, .ref 263), (4, .null), (0, .ref 0), (1, .int x1), (2, .int (0)), (3, .int x3)]) (st' := [.null]) (by decide +kernel) rfl) ?_
  refine ev_go0 (ev_w_ifnull (M := (ev_Mof 179)) (pc := 19) (o := 21) (t := 40) (by decide +kernel) (Or.inl ⟨rfl, rfl⟩)) ?_
  rfl
theorem ev_k236 (x1 : Int32) (hu_x1 : x1.toInt ≤ (-1 : Int)) (x3 : Int32) {n : Nat} : ev_calld 12 376 [.ref 0, .int x1, .int (0), .int x3, .ref 723] ev_H0 n = some (.inl (some (.int (1))), ev_H0, n, 1, 6) := by
  refine ev_call_int (k := 9) (pcR := 18) (lv' := [(5, .retAddr 1), (0, .ref 0), (1, .int x1), (2, .int (0)), (3, .int x3), (4, .ref 723)]) (v := (1)) (ty := .int) (by decide +kernel) rfl ?_ (by decide +kernel) (by decide +kernel) (by decide +kernel) (by decide)
  show ev_stepn _ 9 (0, [(0, .ref 0), (1, .int x1), (2, .int (0)), (3, .int x3), (4, .ref 723)], [], _, _, 0, 0) = _
  refine ev_go0 (ev_one_pure (M := (ev_Mof 376)) (pc := 0) (i := .aload 4) (len := 2) (pc' := 2) (lv' := [(0, .ref 0), (1, .int x1), (2, .int (0)), (3, .int x3), (4, .ref 723)]) (st' := [.ref 723]) (by decide +kernel) rfl) ?_
  refine ev_go0 (ev_w_iconst (M := (ev_Mof 376)) (pc := 2) (k := 0) (v := 0) (by decide +kernel) (by decide +kernel)) ?_
  refine ev_go0 (ev_one_pure (M := (ev_Mof 376)) (pc := 3) (i := .aload_n 0) (len := 1) (pc' := 4) (lv' := [(0, .ref 0), (1, .int x1), (2, .int (0)), (3, .int x3), (4, .ref 723)]) (st' := [.ref 0, .int (0), .ref 723]) (by decide +kernel) rfl) ?_
  refine ev_go0 (ev_one_pure (M := (ev_Mof 376)) (pc := 4) (i := .iload_n 1) (len := 1) (pc' := 5) (lv' := [(0, .ref 0), (1, .int x1), (2, .int (0)), (3, .int x3), (4, .ref 723)]) (st' := [.int x1, .ref 0, .int (0), .ref 723]) (by decide +kernel) rfl) ?_
  refine ev_go0 (ev_one_pure (M := (ev_Mof 376)) (pc := 5) (i := .iload_n 2) (len := 1) (pc' := 6) (lv' := [(0, .ref 0), (1, .int x1), (2, .int (0)), (3, .int x3), (4, .ref 723)]) (st' := [.int (0), .int x1, .ref 0, .int (0), .ref 723]) (by decide +kernel) rfl) ?_
  refine ev_go0 (ev_one_pure (M := (ev_Mof 376)) (pc := 6) (i := .iload_n 3) (len := 1) (pc' := 7) (lv' := [(0, .ref 0), (1, .int x1), (2, .int (0)), (3, .int x3), (4, .ref 723)]) (st' := [.int x3, .int (0), .int x1, .ref 0, .int (0), .ref 723]) (by decide +kernel) rfl) ?_
  refine ev_go (ev_p_virtX (M := (ev_Mof 376)) (pc := 7) (x := 57) (t := 15) (mi := 179) (na := 3) (by decide +kernel) (by decide +kernel) (by decide +kernel) (by decide +kernel) rfl rfl (ev_recv_of ev_fH0) (ev_k235 x1 hu_x1 x3) (by decide +kernel)) ?_
  refine ev_go0 (ev_w_astore (M := (ev_Mof 376)) (pc := 15) (k := 5) (lv' := [(5, .retAddr 1), (0, .ref 0), (1, .int x1), (2, .int (0)), (3, .int x3), (4, .ref 723)]) (by decide +kernel) (by decide +kernel) (Or.inr (Or.inr ⟨_, rfl⟩)) rfl) ?_
  refine ev_go0 (ev_w_iconst (M := (ev_Mof 376)) (pc := 17) (k := 1) (v := 1) (by decide +kernel) (by decide +kernel)) ?_
  rfl
theorem ev_k237 (x1 : Int32) (hu_x1 : x1.toInt ≤ (-1 : Int)) (x3 : Int32) {n : Nat} : ev_calld 12 331 [.ref 621, .int x1, .int (0), .int x3] ev_H0 n = some (.inl (some (.int (0))), (ev_H0.set 621 (.inr (13, (ev_F621.set 0 (.int (1)))))), n, 0, 0) := by
  refine ev_call_int (k := 11) (pcR := 34) (lv' := [(0, .ref 621), (1, .int x1), (2, .int (0)), (3, .int x3)]) (v := (0)) (ty := .int) (by decide +kernel) rfl ?_ (by decide +kernel) (by decide +kernel) (by decide +kernel) (by decide)
  show ev_stepn _ 11 (0, [(0, .ref 621), (1, .int x1), (2, .int (0)), (3, .int x3)], [], _, _, 0, 0) = _
  refine ev_go0 (ev_one_pure (M := (ev_Mof 331)) (pc := 0) (i := .aload_n 0) (len := 1) (pc' := 1) (lv' := [(0, .ref 621), (1, .int x1), (2, .int (0)), (3, .int x3)]) (st' := [.ref 621]) (by decide +kernel) rfl) ?_
  refine ev_go0 (ev_one_pure (M := (ev_Mof 331)) (pc := 1) (i := .aload_n 0) (len := 1) (pc' := 2) (lv' := [(0, .ref 621), (1, .int x1), (2, .int (0)), (3, .int x3)]) (st' := [.ref 621, .ref 621]) (by decide +kernel) rfl) ?_
  refine ev_go0 (ev_one_pure (M := (ev_Mof 331)) (pc := 2) (i := .iload_n 1) (len := 1) (pc' := 3) (lv' := [(0, .ref 621), (1, .int x1), (2, .int (0)), (3, .int x3)]) (st' := [.int x1, .ref 621, .ref 621]) (by decide +kernel) rfl) ?_
  refine ev_go0 (ev_p_virt (M := (ev_Mof 331)) (pc := 3) (x := 531) (mi := 273) (na := 1) (by decide +kernel) (by decide +kernel) (by decide +kernel) (by decide +kernel) rfl rfl (ev_recv_of ev_fH621) (ev_k24 x1 hu_x1)) ?_
  refine ev_go0 (ev_w_if (M := (ev_Mof 331)) (pc := 6) (q := .eq) (o := 16) (b := true) (t := 22) (by decide +kernel) (by decide +kernel) rfl) ?_
  refine ev_go0 (ev_w_iconst (M := (ev_Mof 331)) (pc := 22) (k := 1) (v := 1) (by decide +kernel) (by decide +kernel)) ?_
  refine ev_go0 (ev_p_putf (M := (ev_Mof 331)) (pc := 23) (x := 321) (ci := 13) (f := 0) (by decide +kernel) (by decide +kernel) ev_fH621 rfl (by decide +kernel)) ?_
  refine ev_go0 (ev_one_pure (M := (ev_Mof 331)) (pc := 26) (i := .aload_n 0) (len := 1) (pc' := 27) (lv' := [(0, .ref 621), (1, .int x1), (2, .int (0)), (3, .int x3)]) (st' := [.ref 621]) (by decide +kernel) rfl) ?_
  refine ev_go0 (ev_p_getf (M := (ev_Mof 331)) (pc := 27) (x := 321) (ci := 13) (f := 0) (fin := 0) (v := .int (1)) (by decide +kernel) (by decide +kernel) (ev_hself ev_fH621) rfl) ?_
  refine ev_go0 (ev_w_if (M := (ev_Mof 331)) (pc := 30) (q := .le) (o := 5) (b := false) (t := 33) (by decide +kernel) (by decide +kernel) rfl) ?_
  refine ev_go0 (ev_w_iconst (M := (ev_Mof 331)) (pc := 33) (k := 0) (v := 0) (by decide +kernel) (by decide +kernel)) ?_
  rfl
theorem ev_p1_13_n0 (xs : Nat → Int32) (x1 : Int32) (hu_x1 : x1.toInt ≤ (-1 : Int)) (x3 : Int32) (e1 : xs 1 = x1) (e2 : xs 2 = (0)) (e3 : xs 3 = x3) : ev_P1 xs 1000 := by
  refine ⟨44, [(6, .int (0)), (5, .int (1)), (4, .int (0)), (3, .ref 723), (2, .ref 621), (1, .ref 0), (0, .retAddr 0)], (ev_H0.set 621 (.inr (13, (ev_F621.set 0 (.int (1)))))), 724, 725, 3553592, ?_, ⟨rfl, rfl, rfl, rfl⟩, rfl, by decide, by decide⟩
  show ev_stepn _ _ (1000, [(4, .int (0)), (3, .ref 723), (2, .ref 621), (1, .ref 0), (0, .retAddr 0)], [], _, _, _, _) = _
  refine ev_go0 (ev_one_pure (M := ev_Mlaw) (pc := 1000) (i := .aload_n 1) (len := 1) (pc' := 1001) (lv' := [(4, .int (0)), (3, .ref 723), (2, .ref 621), (1, .ref 0), (0, .retAddr 0)]) (st' := [.ref 0]) (by decide +kernel) rfl) ?_
  refine ev_go0 (ev_one_pure (M := ev_Mlaw) (pc := 1001) (i := .aload_n 0) (len := 1) (pc' := 1002) (lv' := [(4, .int (0)), (3, .ref 723), (2, .ref 621), (1, .ref 0), (0, .retAddr 0)]) (st' := [.retAddr 0, .ref 0]) (by decide +kernel) rfl) ?_
  refine ev_go0 (ev_one_pure (M := ev_Mlaw) (pc := 1002) (i := .iload 4) (len := 2) (pc' := 1004) (lv' := [(4, .int (0)), (3, .ref 723), (2, .ref 621), (1, .ref 0), (0, .retAddr 0)]) (st' := [.int (0), .retAddr 0, .ref 0]) (by decide +kernel) rfl) ?_
  refine ev_go0 (ev_w_iconst (M := ev_Mlaw) (pc := 1004) (k := 1) (v := 1) (by decide +kernel) (by decide +kernel)) ?_
  refine ev_go0 (ev_w_iadd (M := ev_Mlaw) (pc := 1005) (v := (1)) (by decide +kernel) (by decide +kernel)) ?_
  refine ev_go0 (ev_w_scr (M := ev_Mlaw) (pc := 1006) (v := x1) (j := 1) (by decide +kernel) (by decide +kernel) (by decide +kernel) e1) ?_
  refine ev_go0 (ev_one_pure (M := ev_Mlaw) (pc := 1007) (i := .aload_n 0) (len := 1) (pc' := 1008) (lv' := [(4, .int (0)), (3, .ref 723), (2, .ref 621), (1, .ref 0), (0, .retAddr 0)]) (st' := [.retAddr 0, .int x1, .ref 0]) (by decide +kernel) rfl) ?_
  refine ev_go0 (ev_one_pure (M := ev_Mlaw) (pc := 1008) (i := .iload 4) (len := 2) (pc' := 1010) (lv' := [(4, .int (0)), (3, .ref 723), (2, .ref 621), (1, .ref 0), (0, .retAddr 0)]) (st' := [.int (0), .retAddr 0, .int x1, .ref 0]) (by decide +kernel) rfl) ?_
  refine ev_go0 (ev_w_iconst (M := ev_Mlaw) (pc := 1010) (k := 2) (v := 2) (by decide +kernel) (by decide +kernel)) ?_
  refine ev_go0 (ev_w_iadd (M := ev_Mlaw) (pc := 1011) (v := (2)) (by decide +kernel) (by decide +kernel)) ?_
  refine ev_go0 (ev_w_scr (M := ev_Mlaw) (pc := 1012) (v := (0)) (j := 2) (by decide +kernel) (by decide +kernel) (by decide +kernel) e2) ?_
  refine ev_go0 (ev_one_pure (M := ev_Mlaw) (pc := 1013) (i := .aload_n 0) (len := 1) (pc' := 1014) (lv' := [(4, .int (0)), (3, .ref 723), (2, .ref 621), (1, .ref 0), (0, .retAddr 0)]) (st' := [.retAddr 0, .int (0), .int x1, .ref 0]) (by decide +kernel) rfl) ?_
  refine ev_go0 (ev_one_pure (M := ev_Mlaw) (pc := 1014) (i := .iload 4) (len := 2) (pc' := 1016) (lv' := [(4, .int (0)), (3, .ref 723), (2, .ref 621), (1, .ref 0), (0, .retAddr 0)]) (st' := [.int (0), .retAddr 0, .int (0), .int x1, .ref 0]) (by decide +kernel) rfl) ?_
  refine ev_go0 (ev_w_iconst (M := ev_Mlaw) (pc := 1016) (k := 3) (v := 3) (by decide +kernel) (by decide +kernel)) ?_
  refine ev_go0 (ev_w_iadd (M := ev_Mlaw) (pc := 1017) (v := (3)) (by decide +kernel) (by decide +kernel)) ?_
  refine ev_go0 (ev_w_scr (M := ev_Mlaw) (pc := 1018) (v := x3) (j := 3) (by decide +kernel) (by decide +kernel) (by decide +kernel) e3) ?_
  refine ev_go0 (ev_one_pure (M := ev_Mlaw) (pc := 1019) (i := .aload_n 3) (len := 1) (pc' := 1020) (lv' := [(4, .int (0)), (3, .ref 723), (2, .ref 621), (1, .ref 0), (0, .retAddr 0)]) (st' := [.ref 723, .int x3, .int (0), .int x1, .ref 0]) (by decide +kernel) rfl) ?_
  refine ev_go (ev_w_stat (M := ev_Mlaw) (pc := 1020) (y := 175) (kind := 8) (Or.inr (Or.inr rfl)) (mi := 376) (na := 5) (by decide +kernel) (by decide +kernel) (by decide +kernel) (by decide +kernel) rfl rfl (ev_k236 x1 hu_x1 x3)) ?_
  refine ev_go0 (ev_w_istore (M := ev_Mlaw) (pc := 1023) (k := 5) (lv' := [(5, .int (1)), (4, .int (0)), (3, .ref 723), (2, .ref 621), (1, .ref 0), (0, .retAddr 0)]) (by decide +kernel) (by decide +kernel) rfl) ?_
  refine ev_go0 (ev_one_pure (M := ev_Mlaw) (pc := 1025) (i := .aload_n 2) (len := 1) (pc' := 1026) (lv' := [(5, .int (1)), (4, .int (0)), (3, .ref 723), (2, .ref 621), (1, .ref 0), (0, .retAddr 0)]) (st' := [.ref 621]) (by decide +kernel) rfl) ?_
  refine ev_go0 (ev_one_pure (M := ev_Mlaw) (pc := 1026) (i := .aload_n 0) (len := 1) (pc' := 1027) (lv' := [(5, .int (1)), (4, .int (0)), (3, .ref 723), (2, .ref 621), (1, .ref 0), (0, .retAddr 0)]) (st' := [.retAddr 0, .ref 621]) (by decide +kernel) rfl) ?_
  refine ev_go0 (ev_one_pure (M := ev_Mlaw) (pc := 1027) (i := .iload 4) (len := 2) (pc' := 1029) (lv' := [(5, .int (1)), (4, .int (0)), (3, .ref 723), (2, .ref 621), (1, .ref 0), (0, .retAddr 0)]) (st' := [.int (0), .retAddr 0, .ref 621]) (by decide +kernel) rfl) ?_
  refine ev_go0 (ev_w_iconst (M := ev_Mlaw) (pc := 1029) (k := 1) (v := 1) (by decide +kernel) (by decide +kernel)) ?_
  refine ev_go0 (ev_w_iadd (M := ev_Mlaw) (pc := 1030) (v := (1)) (by decide +kernel) (by decide +kernel)) ?_
  refine ev_go0 (ev_w_scr (M := ev_Mlaw) (pc := 1031) (v := x1) (j := 1) (by decide +kernel) (by decide +kernel) (by decide +kernel) e1) ?_
  refine ev_go0 (ev_one_pure (M := ev_Mlaw) (pc := 1032) (i := .aload_n 0) (len := 1) (pc' := 1033) (lv' := [(5, .int (1)), (4, .int (0)), (3, .ref 723), (2, .ref 621), (1, .ref 0), (0, .retAddr 0)]) (st' := [.retAddr 0, .int x1, .ref 621]) (by decide +kernel) rfl) ?_
  refine ev_go0 (ev_one_pure (M := ev_Mlaw) (pc := 1033) (i := .iload 4) (len := 2) (pc' := 1035) (lv' := [(5, .int (1)), (4, .int (0)), (3, .ref 723), (2, .ref 621), (1, .ref 0), (0, .retAddr 0)]) (st' := [.int (0), .retAddr 0, .int x1, .ref 621]) (by decide +kernel) rfl) ?_
  refine ev_go0 (ev_w_iconst (M := ev_Mlaw) (pc := 1035) (k := 2) (v := 2) (by decide +kernel) (by decide +kernel)) ?_
  refine ev_go0 (ev_w_iadd (M := ev_Mlaw) (pc := 1036) (v := (2)) (by decide +kernel) (by decide +kernel)) ?_
  refine ev_go0 (ev_w_scr (M := ev_Mlaw) (pc := 1037) (v := (0)) (j := 2) (by decide +kernel) (by decide +kernel) (by decide +kernel) e2) ?_
  refine ev_go0 (ev_one_pure (M := ev_Mlaw) (pc := 1038) (i := .aload_n 0) (len := 1) (pc' := 1039) (lv' := [(5, .int (1)), (4, .int (0)), (3, .ref 723), (2, .ref 621), (1, .ref 0), (0, .retAddr 0)]) (st' := [.retAddr 0, .int (0), .int x1, .ref 621]) (by decide +kernel) rfl) ?_
  refine ev_go0 (ev_one_pure (M := ev_Mlaw) (pc := 1039) (i := .iload 4) (len := 2) (pc' := 1041) (lv' := [(5, .int (1)), (4, .int (0)), (3, .ref 723), (2, .ref 621), (1, .ref 0), (0, .retAddr 0)]) (st' := [.int (0), .retAddr 0, .int (0), .int x1, .ref 621]) (by decide +kernel) rfl) ?_
  refine ev_go0 (ev_w_iconst (M := ev_Mlaw) (pc := 1041) (k := 3) (v := 3) (by decide +kernel) (by decide +kernel)) ?_
  refine ev_go0 (ev_w_iadd (M := ev_Mlaw) (pc := 1042) (v := (3)) (by decide +kernel) (by decide +kernel)) ?_
  refine ev_go0 (ev_w_scr (M := ev_Mlaw) (pc := 1043) (v := x3) (j := 3) (by decide +kernel) (by decide +kernel) (by decide +kernel) e3) ?_
  refine ev_go0 (ev_p_virt (M := ev_Mlaw) (pc := 1044) (x := 178) (mi := 331) (na := 3) (by decide +kernel) (by decide +kernel) (by decide +kernel) (by decide +kernel) rfl rfl (ev_recv_of ev_fH621) (ev_k237 x1 hu_x1 x3)) ?_
  refine ev_go0 (ev_w_istore (M := ev_Mlaw) (pc := 1047) (k := 6) (lv' := [(6, .int (0)), (5, .int (1)), (4, .int (0)), (3, .ref 723), (2, .ref 621), (1, .ref 0), (0, .retAddr 0)]) (by decide +kernel) (by decide +kernel) rfl) ?_
  refine ev_go0 (ev_one_pure (M := ev_Mlaw) (pc := 1049) (i := .aload_n 2) (len := 1) (pc' := 1050) (lv' := [(6, .int (0)), (5, .int (1)), (4, .int (0)), (3, .ref 723), (2, .ref 621), (1, .ref 0), (0, .retAddr 0)]) (st' := [.ref 621]) (by decide +kernel) rfl) ?_
  refine ev_go0 (ev_p_virt (M := ev_Mlaw) (pc := 1050) (x := 131) (mi := 220) (na := 0) (by decide +kernel) (by decide +kernel) (by decide +kernel) (by decide +kernel) rfl rfl (ev_recv_of (ev_hself ev_fH621)) ev_k26) ?_
  refine ev_go0 (ev_one_pure (M := ev_Mlaw) (pc := 1053) (i := .iload 5) (len := 2) (pc' := 1055) (lv' := [(6, .int (0)), (5, .int (1)), (4, .int (0)), (3, .ref 723), (2, .ref 621), (1, .ref 0), (0, .retAddr 0)]) (st' := [.int (1), .int (1)]) (by decide +kernel) rfl) ?_
  refine ev_go0 (ev_w_icmp (M := ev_Mlaw) (pc := 1055) (q := .eq) (o := 5) (b := true) (t := 1060) (by decide +kernel) (by decide +kernel) rfl) ?_
  refine ev_go0 (ev_one_pure (M := ev_Mlaw) (pc := 1060) (i := .iload 5) (len := 2) (pc' := 1062) (lv' := [(6, .int (0)), (5, .int (1)), (4, .int (0)), (3, .ref 723), (2, .ref 621), (1, .ref 0), (0, .retAddr 0)]) (st' := [.int (1)]) (by decide +kernel) rfl) ?_
  refine ev_go0 (ev_w_if (M := ev_Mlaw) (pc := 1062) (q := .ne) (o := 15) (b := true) (t := 1077) (by decide +kernel) (by decide +kernel) rfl) ?_
  refine ev_go0 (ev_one_pure (M := ev_Mlaw) (pc := 1077) (i := .goto 1195) (len := 3) (pc' := 2272) (lv' := [(6, .int (0)), (5, .int (1)), (4, .int (0)), (3, .ref 723), (2, .ref 621), (1, .ref 0), (0, .retAddr 0)]) (st' := []) (by decide +kernel) rfl) ?_
  rfl
theorem ev_k238 {n : Nat} : ev_calld 10 1 [.ref 254, .int (1)] ev_H0 n = some (.inl (some (.ref 265)), ev_H0, n, 0, 0) := by
  refine ev_call_ref (k := 10) (pcR := 19) (lv' := [(0, .ref 254), (1, .int (1))]) (v := .ref 265) (C := "MendBench$Text") (by decide +kernel) rfl ?_ (by decide +kernel) (by decide +kernel) rfl (by decide)
  show ev_stepn _ 10 (0, [(0, .ref 254), (1, .int (1))], [], _, _, 0, 0) = _
  refine ev_go0 (ev_one_pure (M := (ev_Mof 1)) (pc := 0) (i := .iload_n 1) (len := 1) (pc' := 1) (lv' := [(0, .ref 254), (1, .int (1))]) (st' := [.int (1)]) (by decide +kernel) rfl) ?_
  refine ev_go0 (ev_w_if (M := (ev_Mof 1)) (pc := 1) (q := .lt) (o := 17) (b := false) (t := 4) (by decide +kernel) (by decide +kernel) rfl) ?_
  refine ev_go0 (ev_one_pure (M := (ev_Mof 1)) (pc := 4) (i := .iload_n 1) (len := 1) (pc' := 5) (lv' := [(0, .ref 254), (1, .int (1))]) (st' := [.int (1)]) (by decide +kernel) rfl) ?_
  refine ev_go0 (ev_w_iconst (M := (ev_Mof 1)) (pc := 5) (k := 3) (v := 3) (by decide +kernel) (by decide +kernel)) ?_
  refine ev_go0 (ev_w_icmp (M := (ev_Mof 1)) (pc := 6) (q := .ge) (o := 12) (b := false) (t := 9) (by decide +kernel) (by decide +kernel) rfl) ?_
  refine ev_go0 (ev_one_pure (M := (ev_Mof 1)) (pc := 9) (i := .aload_n 0) (len := 1) (pc' := 10) (lv' := [(0, .ref 254), (1, .int (1))]) (st' := [.ref 254]) (by decide +kernel) rfl) ?_
  refine ev_go0 (ev_p_getf (M := (ev_Mof 1)) (pc := 10) (x := 13) (ci := 0) (f := 0) (fin := 1) (v := .ref 255) (by decide +kernel) (by decide +kernel) ev_fH254 rfl) ?_
  refine ev_go0 (ev_one_pure (M := (ev_Mof 1)) (pc := 13) (i := .iload_n 1) (len := 1) (pc' := 14) (lv' := [(0, .ref 254), (1, .int (1))]) (st' := [.int (1), .ref 255]) (by decide +kernel) rfl) ?_
  refine ev_go0 (ev_w_aald (M := (ev_Mof 1)) (pc := 14) (C := "MendBench$Text") (v := .ref 265) (by decide +kernel) ev_fH255 (by decide +kernel) rfl) ?_
  refine ev_go0 (ev_one_pure (M := (ev_Mof 1)) (pc := 15) (i := .goto 4) (len := 3) (pc' := 19) (lv' := [(0, .ref 254), (1, .int (1))]) (st' := [.ref 265]) (by decide +kernel) rfl) ?_
  rfl
theorem ev_k239 (x1 : Int32) (hu_x1 : x1.toInt ≤ (-1 : Int)) (x3 : Int32) {n : Nat} : ev_calld 11 179 [.ref 0, .int x1, .int (1), .int x3] ev_H0 n = some (.inr "java/lang/IndexOutOfBoundsException", ev_H0, n, 1, 6) := by
  refine ev_call_thrown (k := 11) (pcR := 40) (x := 160) (lv' := [(5, .ref 265), (4, .null), (0, .ref 0), (1, .int x1), (2, .int (1)), (3, .int x3)]) (by decide +kernel) rfl ?_ (by decide +kernel) (by decide +kernel) (by decide +kernel) (by decide) (by decide)
  show ev_stepn _ 11 (0, [(0, .ref 0), (1, .int x1), (2, .int (1)), (3, .int x3)], [], _, _, 0, 0) = _
  refine ev_go0 (ev_one_pure (M := (ev_Mof 179)) (pc := 0) (i := .aload_n 0) (len := 1) (pc' := 1) (lv' := [(0, .ref 0), (1, .int x1), (2, .int (1)), (3, .int x3)]) (st' := [.ref 0]) (by decide +kernel) rfl) ?_
  refine ev_go0 (ev_one_pure (M := (ev_Mof 179)) (pc := 1) (i := .iload_n 1) (len := 1) (pc' := 2) (lv' := [(0, .ref 0), (1, .int x1), (2, .int (1)), (3, .int x3)]) (st' := [.int x1, .ref 0]) (by decide +kernel) rfl) ?_
  refine ev_go0 (ev_p_virt (M := (ev_Mof 179)) (pc := 2) (x := 156) (mi := 200) (na := 1) (by decide +kernel) (by decide +kernel) (by decide +kernel) (by decide +kernel) rfl rfl (ev_recv_of ev_fH0) (ev_k1 x1 hu_x1)) ?_
  refine ev_go0 (ev_w_astore (M := (ev_Mof 179)) (pc := 5) (k := 4) (lv' := [(4, .null), (0, .ref 0), (1, .int x1), (2, .int (1)), (3, .int x3)]) (by decide +kernel) (by decide +kernel) (Or.inr (Or.inl rfl)) rfl) ?_
  refine ev_go0 (ev_one_pure (M := (ev_Mof 179)) (pc := 7) (i := .aload_n 0) (len := 1) (pc' := 8) (lv' := [(4, .null), (0, .ref 0), (1, .int x1), (2, .int (1)), (3, .int x3)]) (st' := [.ref 0]) (by decide +kernel) rfl) ?_
  refine ev_go0 (ev_p_getf (M := (ev_Mof 179)) (pc := 8) (x := 48) (ci := 12) (f := 8) (fin := 1) (v := .ref 254) (by decide +kernel) (by decide +kernel) ev_fH0 rfl) ?_
  refine ev_go0 (ev_one_pure (M := (ev_Mof 179)) (pc := 11) (i := .iload_n 2) (len := 1) (pc' := 12) (lv' := [(4, .null), (0, .ref 0), (1, .int x1), (2, .int (1)), (3, .int x3)]) (st' := [.int (1), .ref 254]) (by decide +kernel) rfl) ?_
  refine ev_go0 (ev_p_virt (M := (ev_Mof 179)) (pc := 12) (x := 221) (mi := 1) (na := 1) (by decide +kernel) (by decide +kernel) (by decide +kernel) (by decide +kernel) rfl rfl (ev_recv_of ev_fH254) ev_k238) ?_
  refine ev_go0 (ev_w_astore (M := (ev_Mof 179)) (pc := 15) (k := 5) (lv' := [(5, .ref 265), (4, .null), (0, .ref 0), (1, .int x1), (2, .int (1)), (3, .int x3)]) (by decide +kernel) (by decide +kernel) (Or.inl ⟨_, rfl⟩) rfl) ?_
  refine ev_go0 (ev_one_pure (M := (ev_Mof 179)) (pc := 17) (i := .aload 4) (len := 2) (pc' := 19) (lv' := [(5, .ref 265), (4, .null), (0, .ref 0), (1, .int x1), (2, .int (1)), (3, .int x3)]) (st' := [.null]) (by decide +kernel) rfl) ?_
  refine ev_go0 (ev_w_ifnull (M := (ev_Mof 179)) (pc := 19) (o := 21) (t := 40) (by decide +kernel) (Or.inl ⟨rfl, rfl⟩)) ?_
  rfl
theorem ev_k240 (x1 : Int32) (hu_x1 : x1.toInt ≤ (-1 : Int)) (x3 : Int32) {n : Nat} : ev_calld 12 376 [.ref 0, .int x1, .int (1), .int x3, .ref 723] ev_H0 n = some (.inl (some (.int (1))), ev_H0, n, 1, 6) := by
  refine ev_call_int (k := 9) (pcR := 18) (lv' := [(5, .retAddr 1), (0, .ref 0), (1, .int x1), (2, .int (1)), (3, .int x3), (4, .ref 723)]) (v := (1)) (ty := .int) (by decide +kernel) rfl ?_ (by decide +kernel) (by decide +kernel) (by decide +kernel) (by decide)
  show ev_stepn _ 9 (0, [(0, .ref 0), (1, .int x1), (2, .int (1)), (3, .int x3), (4, .ref 723)], [], _, _, 0, 0) = _
  refine ev_go0 (ev_one_pure (M := (ev_Mof 376)) (pc := 0) (i := .aload 4) (len := 2) (pc' := 2) (lv' := [(0, .ref 0), (1, .int x1), (2, .int (1)), (3, .int x3), (4, .ref 723)]) (st' := [.ref 723]) (by decide +kernel) rfl) ?_
  refine ev_go0 (ev_w_iconst (M := (ev_Mof 376)) (pc := 2) (k := 0) (v := 0) (by decide +kernel) (by decide +kernel)) ?_
  refine ev_go0 (ev_one_pure (M := (ev_Mof 376)) (pc := 3) (i := .aload_n 0) (len := 1) (pc' := 4) (lv' := [(0, .ref 0), (1, .int x1), (2, .int (1)), (3, .int x3), (4, .ref 723)]) (st' := [.ref 0, .int (0), .ref 723]) (by decide +kernel) rfl) ?_
  refine ev_go0 (ev_one_pure (M := (ev_Mof 376)) (pc := 4) (i := .iload_n 1) (len := 1) (pc' := 5) (lv' := [(0, .ref 0), (1, .int x1), (2, .int (1)), (3, .int x3), (4, .ref 723)]) (st' := [.int x1, .ref 0, .int (0), .ref 723]) (by decide +kernel) rfl) ?_
  refine ev_go0 (ev_one_pure (M := (ev_Mof 376)) (pc := 5) (i := .iload_n 2) (len := 1) (pc' := 6) (lv' := [(0, .ref 0), (1, .int x1), (2, .int (1)), (3, .int x3), (4, .ref 723)]) (st' := [.int (1), .int x1, .ref 0, .int (0), .ref 723]) (by decide +kernel) rfl) ?_
  refine ev_go0 (ev_one_pure (M := (ev_Mof 376)) (pc := 6) (i := .iload_n 3) (len := 1) (pc' := 7) (lv' := [(0, .ref 0), (1, .int x1), (2, .int (1)), (3, .int x3), (4, .ref 723)]) (st' := [.int x3, .int (1), .int x1, .ref 0, .int (0), .ref 723]) (by decide +kernel) rfl) ?_
  refine ev_go (ev_p_virtX (M := (ev_Mof 376)) (pc := 7) (x := 57) (t := 15) (mi := 179) (na := 3) (by decide +kernel) (by decide +kernel) (by decide +kernel) (by decide +kernel) rfl rfl (ev_recv_of ev_fH0) (ev_k239 x1 hu_x1 x3) (by decide +kernel)) ?_
  refine ev_go0 (ev_w_astore (M := (ev_Mof 376)) (pc := 15) (k := 5) (lv' := [(5, .retAddr 1), (0, .ref 0), (1, .int x1), (2, .int (1)), (3, .int x3), (4, .ref 723)]) (by decide +kernel) (by decide +kernel) (Or.inr (Or.inr ⟨_, rfl⟩)) rfl) ?_
  refine ev_go0 (ev_w_iconst (M := (ev_Mof 376)) (pc := 17) (k := 1) (v := 1) (by decide +kernel) (by decide +kernel)) ?_
  rfl
theorem ev_k241 (x1 : Int32) (hu_x1 : x1.toInt ≤ (-1 : Int)) (x3 : Int32) {n : Nat} : ev_calld 12 331 [.ref 621, .int x1, .int (1), .int x3] ev_H0 n = some (.inl (some (.int (0))), (ev_H0.set 621 (.inr (13, (ev_F621.set 0 (.int (1)))))), n, 0, 0) := by
  refine ev_call_int (k := 11) (pcR := 34) (lv' := [(0, .ref 621), (1, .int x1), (2, .int (1)), (3, .int x3)]) (v := (0)) (ty := .int) (by decide +kernel) rfl ?_ (by decide +kernel) (by decide +kernel) (by decide +kernel) (by decide)
  show ev_stepn _ 11 (0, [(0, .ref 621), (1, .int x1), (2, .int (1)), (3, .int x3)], [], _, _, 0, 0) = _
  refine ev_go0 (ev_one_pure (M := (ev_Mof 331)) (pc := 0) (i := .aload_n 0) (len := 1) (pc' := 1) (lv' := [(0, .ref 621), (1, .int x1), (2, .int (1)), (3, .int x3)]) (st' := [.ref 621]) (by decide +kernel) rfl) ?_
  refine ev_go0 (ev_one_pure (M := (ev_Mof 331)) (pc := 1) (i := .aload_n 0) (len := 1) (pc' := 2) (lv' := [(0, .ref 621), (1, .int x1), (2, .int (1)), (3, .int x3)]) (st' := [.ref 621, .ref 621]) (by decide +kernel) rfl) ?_
  refine ev_go0 (ev_one_pure (M := (ev_Mof 331)) (pc := 2) (i := .iload_n 1) (len := 1) (pc' := 3) (lv' := [(0, .ref 621), (1, .int x1), (2, .int (1)), (3, .int x3)]) (st' := [.int x1, .ref 621, .ref 621]) (by decide +kernel) rfl) ?_
  refine ev_go0 (ev_p_virt (M := (ev_Mof 331)) (pc := 3) (x := 531) (mi := 273) (na := 1) (by decide +kernel) (by decide +kernel) (by decide +kernel) (by decide +kernel) rfl rfl (ev_recv_of ev_fH621) (ev_k24 x1 hu_x1)) ?_
  refine ev_go0 (ev_w_if (M := (ev_Mof 331)) (pc := 6) (q := .eq) (o := 16) (b := true) (t := 22) (by decide +kernel) (by decide +kernel) rfl) ?_
  refine ev_go0 (ev_w_iconst (M := (ev_Mof 331)) (pc := 22) (k := 1) (v := 1) (by decide +kernel) (by decide +kernel)) ?_
  refine ev_go0 (ev_p_putf (M := (ev_Mof 331)) (pc := 23) (x := 321) (ci := 13) (f := 0) (by decide +kernel) (by decide +kernel) ev_fH621 rfl (by decide +kernel)) ?_
  refine ev_go0 (ev_one_pure (M := (ev_Mof 331)) (pc := 26) (i := .aload_n 0) (len := 1) (pc' := 27) (lv' := [(0, .ref 621), (1, .int x1), (2, .int (1)), (3, .int x3)]) (st' := [.ref 621]) (by decide +kernel) rfl) ?_
  refine ev_go0 (ev_p_getf (M := (ev_Mof 331)) (pc := 27) (x := 321) (ci := 13) (f := 0) (fin := 0) (v := .int (1)) (by decide +kernel) (by decide +kernel) (ev_hself ev_fH621) rfl) ?_
  refine ev_go0 (ev_w_if (M := (ev_Mof 331)) (pc := 30) (q := .le) (o := 5) (b := false) (t := 33) (by decide +kernel) (by decide +kernel) rfl) ?_
  refine ev_go0 (ev_w_iconst (M := (ev_Mof 331)) (pc := 33) (k := 0) (v := 0) (by decide +kernel) (by decide +kernel)) ?_
  rfl
theorem ev_p1_13_n1 (xs : Nat → Int32) (x1 : Int32) (hu_x1 : x1.toInt ≤ (-1 : Int)) (x3 : Int32) (e1 : xs 1 = x1) (e2 : xs 2 = (1)) (e3 : xs 3 = x3) : ev_P1 xs 1000 := by
  refine ⟨44, [(6, .int (0)), (5, .int (1)), (4, .int (0)), (3, .ref 723), (2, .ref 621), (1, .ref 0), (0, .retAddr 0)], (ev_H0.set 621 (.inr (13, (ev_F621.set 0 (.int (1)))))), 724, 725, 3553592, ?_, ⟨rfl, rfl, rfl, rfl⟩, rfl, by decide, by decide⟩
  show ev_stepn _ _ (1000, [(4, .int (0)), (3, .ref 723), (2, .ref 621), (1, .ref 0), (0, .retAddr 0)], [], _, _, _, _) = _
  refine ev_go0 (ev_one_pure (M := ev_Mlaw) (pc := 1000) (i := .aload_n 1) (len := 1) (pc' := 1001) (lv' := [(4, .int (0)), (3, .ref 723), (2, .ref 621), (1, .ref 0), (0, .retAddr 0)]) (st' := [.ref 0]) (by decide +kernel) rfl) ?_
  refine ev_go0 (ev_one_pure (M := ev_Mlaw) (pc := 1001) (i := .aload_n 0) (len := 1) (pc' := 1002) (lv' := [(4, .int (0)), (3, .ref 723), (2, .ref 621), (1, .ref 0), (0, .retAddr 0)]) (st' := [.retAddr 0, .ref 0]) (by decide +kernel) rfl) ?_
  refine ev_go0 (ev_one_pure (M := ev_Mlaw) (pc := 1002) (i := .iload 4) (len := 2) (pc' := 1004) (lv' := [(4, .int (0)), (3, .ref 723), (2, .ref 621), (1, .ref 0), (0, .retAddr 0)]) (st' := [.int (0), .retAddr 0, .ref 0]) (by decide +kernel) rfl) ?_
  refine ev_go0 (ev_w_iconst (M := ev_Mlaw) (pc := 1004) (k := 1) (v := 1) (by decide +kernel) (by decide +kernel)) ?_
  refine ev_go0 (ev_w_iadd (M := ev_Mlaw) (pc := 1005) (v := (1)) (by decide +kernel) (by decide +kernel)) ?_
  refine ev_go0 (ev_w_scr (M := ev_Mlaw) (pc := 1006) (v := x1) (j := 1) (by decide +kernel) (by decide +kernel) (by decide +kernel) e1) ?_
  refine ev_go0 (ev_one_pure (M := ev_Mlaw) (pc := 1007) (i := .aload_n 0) (len := 1) (pc' := 1008) (lv' := [(4, .int (0)), (3, .ref 723), (2, .ref 621), (1, .ref 0), (0, .retAddr 0)]) (st' := [.retAddr 0, .int x1, .ref 0]) (by decide +kernel) rfl) ?_
  refine ev_go0 (ev_one_pure (M := ev_Mlaw) (pc := 1008) (i := .iload 4) (len := 2) (pc' := 1010) (lv' := [(4, .int (0)), (3, .ref 723), (2, .ref 621), (1, .ref 0), (0, .retAddr 0)]) (st' := [.int (0), .retAddr 0, .int x1, .ref 0]) (by decide +kernel) rfl) ?_
  refine ev_go0 (ev_w_iconst (M := ev_Mlaw) (pc := 1010) (k := 2) (v := 2) (by decide +kernel) (by decide +kernel)) ?_
  refine ev_go0 (ev_w_iadd (M := ev_Mlaw) (pc := 1011) (v := (2)) (by decide +kernel) (by decide +kernel)) ?_
  refine ev_go0 (ev_w_scr (M := ev_Mlaw) (pc := 1012) (v := (1)) (j := 2) (by decide +kernel) (by decide +kernel) (by decide +kernel) e2) ?_
  refine ev_go0 (ev_one_pure (M := ev_Mlaw) (pc := 1013) (i := .aload_n 0) (len := 1) (pc' := 1014) (lv' := [(4, .int (0)), (3, .ref 723), (2, .ref 621), (1, .ref 0), (0, .retAddr 0)]) (st' := [.retAddr 0, .int (1), .int x1, .ref 0]) (by decide +kernel) rfl) ?_
  refine ev_go0 (ev_one_pure (M := ev_Mlaw) (pc := 1014) (i := .iload 4) (len := 2) (pc' := 1016) (lv' := [(4, .int (0)), (3, .ref 723), (2, .ref 621), (1, .ref 0), (0, .retAddr 0)]) (st' := [.int (0), .retAddr 0, .int (1), .int x1, .ref 0]) (by decide +kernel) rfl) ?_
  refine ev_go0 (ev_w_iconst (M := ev_Mlaw) (pc := 1016) (k := 3) (v := 3) (by decide +kernel) (by decide +kernel)) ?_
  refine ev_go0 (ev_w_iadd (M := ev_Mlaw) (pc := 1017) (v := (3)) (by decide +kernel) (by decide +kernel)) ?_
  refine ev_go0 (ev_w_scr (M := ev_Mlaw) (pc := 1018) (v := x3) (j := 3) (by decide +kernel) (by decide +kernel) (by decide +kernel) e3) ?_
  refine ev_go0 (ev_one_pure (M := ev_Mlaw) (pc := 1019) (i := .aload_n 3) (len := 1) (pc' := 1020) (lv' := [(4, .int (0)), (3, .ref 723), (2, .ref 621), (1, .ref 0), (0, .retAddr 0)]) (st' := [.ref 723, .int x3, .int (1), .int x1, .ref 0]) (by decide +kernel) rfl) ?_
  refine ev_go (ev_w_stat (M := ev_Mlaw) (pc := 1020) (y := 175) (kind := 8) (Or.inr (Or.inr rfl)) (mi := 376) (na := 5) (by decide +kernel) (by decide +kernel) (by decide +kernel) (by decide +kernel) rfl rfl (ev_k240 x1 hu_x1 x3)) ?_
  refine ev_go0 (ev_w_istore (M := ev_Mlaw) (pc := 1023) (k := 5) (lv' := [(5, .int (1)), (4, .int (0)), (3, .ref 723), (2, .ref 621), (1, .ref 0), (0, .retAddr 0)]) (by decide +kernel) (by decide +kernel) rfl) ?_
  refine ev_go0 (ev_one_pure (M := ev_Mlaw) (pc := 1025) (i := .aload_n 2) (len := 1) (pc' := 1026) (lv' := [(5, .int (1)), (4, .int (0)), (3, .ref 723), (2, .ref 621), (1, .ref 0), (0, .retAddr 0)]) (st' := [.ref 621]) (by decide +kernel) rfl) ?_
  refine ev_go0 (ev_one_pure (M := ev_Mlaw) (pc := 1026) (i := .aload_n 0) (len := 1) (pc' := 1027) (lv' := [(5, .int (1)), (4, .int (0)), (3, .ref 723), (2, .ref 621), (1, .ref 0), (0, .retAddr 0)]) (st' := [.retAddr 0, .ref 621]) (by decide +kernel) rfl) ?_
  refine ev_go0 (ev_one_pure (M := ev_Mlaw) (pc := 1027) (i := .iload 4) (len := 2) (pc' := 1029) (lv' := [(5, .int (1)), (4, .int (0)), (3, .ref 723), (2, .ref 621), (1, .ref 0), (0, .retAddr 0)]) (st' := [.int (0), .retAddr 0, .ref 621]) (by decide +kernel) rfl) ?_
  refine ev_go0 (ev_w_iconst (M := ev_Mlaw) (pc := 1029) (k := 1) (v := 1) (by decide +kernel) (by decide +kernel)) ?_
  refine ev_go0 (ev_w_iadd (M := ev_Mlaw) (pc := 1030) (v := (1)) (by decide +kernel) (by decide +kernel)) ?_
  refine ev_go0 (ev_w_scr (M := ev_Mlaw) (pc := 1031) (v := x1) (j := 1) (by decide +kernel) (by decide +kernel) (by decide +kernel) e1) ?_
  refine ev_go0 (ev_one_pure (M := ev_Mlaw) (pc := 1032) (i := .aload_n 0) (len := 1) (pc' := 1033) (lv' := [(5, .int (1)), (4, .int (0)), (3, .ref 723), (2, .ref 621), (1, .ref 0), (0, .retAddr 0)]) (st' := [.retAddr 0, .int x1, .ref 621]) (by decide +kernel) rfl) ?_
  refine ev_go0 (ev_one_pure (M := ev_Mlaw) (pc := 1033) (i := .iload 4) (len := 2) (pc' := 1035) (lv' := [(5, .int (1)), (4, .int (0)), (3, .ref 723), (2, .ref 621), (1, .ref 0), (0, .retAddr 0)]) (st' := [.int (0), .retAddr 0, .int x1, .ref 621]) (by decide +kernel) rfl) ?_
  refine ev_go0 (ev_w_iconst (M := ev_Mlaw) (pc := 1035) (k := 2) (v := 2) (by decide +kernel) (by decide +kernel)) ?_
  refine ev_go0 (ev_w_iadd (M := ev_Mlaw) (pc := 1036) (v := (2)) (by decide +kernel) (by decide +kernel)) ?_
  refine ev_go0 (ev_w_scr (M := ev_Mlaw) (pc := 1037) (v := (1)) (j := 2) (by decide +kernel) (by decide +kernel) (by decide +kernel) e2) ?_
  refine ev_go0 (ev_one_pure (M := ev_Mlaw) (pc := 1038) (i := .aload_n 0) (len := 1) (pc' := 1039) (lv' := [(5, .int (1)), (4, .int (0)), (3, .ref 723), (2, .ref 621), (1, .ref 0), (0, .retAddr 0)]) (st' := [.retAddr 0, .int (1), .int x1, .ref 621]) (by decide +kernel) rfl) ?_
  refine ev_go0 (ev_one_pure (M := ev_Mlaw) (pc := 1039) (i := .iload 4) (len := 2) (pc' := 1041) (lv' := [(5, .int (1)), (4, .int (0)), (3, .ref 723), (2, .ref 621), (1, .ref 0), (0, .retAddr 0)]) (st' := [.int (0), .retAddr 0, .int (1), .int x1, .ref 621]) (by decide +kernel) rfl) ?_
  refine ev_go0 (ev_w_iconst (M := ev_Mlaw) (pc := 1041) (k := 3) (v := 3) (by decide +kernel) (by decide +kernel)) ?_
  refine ev_go0 (ev_w_iadd (M := ev_Mlaw) (pc := 1042) (v := (3)) (by decide +kernel) (by decide +kernel)) ?_
  refine ev_go0 (ev_w_scr (M := ev_Mlaw) (pc := 1043) (v := x3) (j := 3) (by decide +kernel) (by decide +kernel) (by decide +kernel) e3) ?_
  refine ev_go0 (ev_p_virt (M := ev_Mlaw) (pc := 1044) (x := 178) (mi := 331) (na := 3) (by decide +kernel) (by decide +kernel) (by decide +kernel) (by decide +kernel) rfl rfl (ev_recv_of ev_fH621) (ev_k241 x1 hu_x1 x3)) ?_
  refine ev_go0 (ev_w_istore (M := ev_Mlaw) (pc := 1047) (k := 6) (lv' := [(6, .int (0)), (5, .int (1)), (4, .int (0)), (3, .ref 723), (2, .ref 621), (1, .ref 0), (0, .retAddr 0)]) (by decide +kernel) (by decide +kernel) rfl) ?_
  refine ev_go0 (ev_one_pure (M := ev_Mlaw) (pc := 1049) (i := .aload_n 2) (len := 1) (pc' := 1050) (lv' := [(6, .int (0)), (5, .int (1)), (4, .int (0)), (3, .ref 723), (2, .ref 621), (1, .ref 0), (0, .retAddr 0)]) (st' := [.ref 621]) (by decide +kernel) rfl) ?_
  refine ev_go0 (ev_p_virt (M := ev_Mlaw) (pc := 1050) (x := 131) (mi := 220) (na := 0) (by decide +kernel) (by decide +kernel) (by decide +kernel) (by decide +kernel) rfl rfl (ev_recv_of (ev_hself ev_fH621)) ev_k26) ?_
  refine ev_go0 (ev_one_pure (M := ev_Mlaw) (pc := 1053) (i := .iload 5) (len := 2) (pc' := 1055) (lv' := [(6, .int (0)), (5, .int (1)), (4, .int (0)), (3, .ref 723), (2, .ref 621), (1, .ref 0), (0, .retAddr 0)]) (st' := [.int (1), .int (1)]) (by decide +kernel) rfl) ?_
  refine ev_go0 (ev_w_icmp (M := ev_Mlaw) (pc := 1055) (q := .eq) (o := 5) (b := true) (t := 1060) (by decide +kernel) (by decide +kernel) rfl) ?_
  refine ev_go0 (ev_one_pure (M := ev_Mlaw) (pc := 1060) (i := .iload 5) (len := 2) (pc' := 1062) (lv' := [(6, .int (0)), (5, .int (1)), (4, .int (0)), (3, .ref 723), (2, .ref 621), (1, .ref 0), (0, .retAddr 0)]) (st' := [.int (1)]) (by decide +kernel) rfl) ?_
  refine ev_go0 (ev_w_if (M := ev_Mlaw) (pc := 1062) (q := .ne) (o := 15) (b := true) (t := 1077) (by decide +kernel) (by decide +kernel) rfl) ?_
  refine ev_go0 (ev_one_pure (M := ev_Mlaw) (pc := 1077) (i := .goto 1195) (len := 3) (pc' := 2272) (lv' := [(6, .int (0)), (5, .int (1)), (4, .int (0)), (3, .ref 723), (2, .ref 621), (1, .ref 0), (0, .retAddr 0)]) (st' := []) (by decide +kernel) rfl) ?_
  rfl
theorem ev_k242 {n : Nat} : ev_calld 10 1 [.ref 254, .int (2)] ev_H0 n = some (.inl (some (.ref 267)), ev_H0, n, 0, 0) := by
  refine ev_call_ref (k := 10) (pcR := 19) (lv' := [(0, .ref 254), (1, .int (2))]) (v := .ref 267) (C := "MendBench$Text") (by decide +kernel) rfl ?_ (by decide +kernel) (by decide +kernel) rfl (by decide)
  show ev_stepn _ 10 (0, [(0, .ref 254), (1, .int (2))], [], _, _, 0, 0) = _
  refine ev_go0 (ev_one_pure (M := (ev_Mof 1)) (pc := 0) (i := .iload_n 1) (len := 1) (pc' := 1) (lv' := [(0, .ref 254), (1, .int (2))]) (st' := [.int (2)]) (by decide +kernel) rfl) ?_
  refine ev_go0 (ev_w_if (M := (ev_Mof 1)) (pc := 1) (q := .lt) (o := 17) (b := false) (t := 4) (by decide +kernel) (by decide +kernel) rfl) ?_
  refine ev_go0 (ev_one_pure (M := (ev_Mof 1)) (pc := 4) (i := .iload_n 1) (len := 1) (pc' := 5) (lv' := [(0, .ref 254), (1, .int (2))]) (st' := [.int (2)]) (by decide +kernel) rfl) ?_
  refine ev_go0 (ev_w_iconst (M := (ev_Mof 1)) (pc := 5) (k := 3) (v := 3) (by decide +kernel) (by decide +kernel)) ?_
  refine ev_go0 (ev_w_icmp (M := (ev_Mof 1)) (pc := 6) (q := .ge) (o := 12) (b := false) (t := 9) (by decide +kernel) (by decide +kernel) rfl) ?_
  refine ev_go0 (ev_one_pure (M := (ev_Mof 1)) (pc := 9) (i := .aload_n 0) (len := 1) (pc' := 10) (lv' := [(0, .ref 254), (1, .int (2))]) (st' := [.ref 254]) (by decide +kernel) rfl) ?_
  refine ev_go0 (ev_p_getf (M := (ev_Mof 1)) (pc := 10) (x := 13) (ci := 0) (f := 0) (fin := 1) (v := .ref 255) (by decide +kernel) (by decide +kernel) ev_fH254 rfl) ?_
  refine ev_go0 (ev_one_pure (M := (ev_Mof 1)) (pc := 13) (i := .iload_n 1) (len := 1) (pc' := 14) (lv' := [(0, .ref 254), (1, .int (2))]) (st' := [.int (2), .ref 255]) (by decide +kernel) rfl) ?_
  refine ev_go0 (ev_w_aald (M := (ev_Mof 1)) (pc := 14) (C := "MendBench$Text") (v := .ref 267) (by decide +kernel) ev_fH255 (by decide +kernel) rfl) ?_
  refine ev_go0 (ev_one_pure (M := (ev_Mof 1)) (pc := 15) (i := .goto 4) (len := 3) (pc' := 19) (lv' := [(0, .ref 254), (1, .int (2))]) (st' := [.ref 267]) (by decide +kernel) rfl) ?_
  rfl
theorem ev_k243 (x1 : Int32) (hu_x1 : x1.toInt ≤ (-1 : Int)) (x3 : Int32) {n : Nat} : ev_calld 11 179 [.ref 0, .int x1, .int (2), .int x3] ev_H0 n = some (.inr "java/lang/IndexOutOfBoundsException", ev_H0, n, 1, 6) := by
  refine ev_call_thrown (k := 11) (pcR := 40) (x := 160) (lv' := [(5, .ref 267), (4, .null), (0, .ref 0), (1, .int x1), (2, .int (2)), (3, .int x3)]) (by decide +kernel) rfl ?_ (by decide +kernel) (by decide +kernel) (by decide +kernel) (by decide) (by decide)
  show ev_stepn _ 11 (0, [(0, .ref 0), (1, .int x1), (2, .int (2)), (3, .int x3)], [], _, _, 0, 0) = _
  refine ev_go0 (ev_one_pure (M := (ev_Mof 179)) (pc := 0) (i := .aload_n 0) (len := 1) (pc' := 1) (lv' := [(0, .ref 0), (1, .int x1), (2, .int (2)), (3, .int x3)]) (st' := [.ref 0]) (by decide +kernel) rfl) ?_
  refine ev_go0 (ev_one_pure (M := (ev_Mof 179)) (pc := 1) (i := .iload_n 1) (len := 1) (pc' := 2) (lv' := [(0, .ref 0), (1, .int x1), (2, .int (2)), (3, .int x3)]) (st' := [.int x1, .ref 0]) (by decide +kernel) rfl) ?_
  refine ev_go0 (ev_p_virt (M := (ev_Mof 179)) (pc := 2) (x := 156) (mi := 200) (na := 1) (by decide +kernel) (by decide +kernel) (by decide +kernel) (by decide +kernel) rfl rfl (ev_recv_of ev_fH0) (ev_k1 x1 hu_x1)) ?_
  refine ev_go0 (ev_w_astore (M := (ev_Mof 179)) (pc := 5) (k := 4) (lv' := [(4, .null), (0, .ref 0), (1, .int x1), (2, .int (2)), (3, .int x3)]) (by decide +kernel) (by decide +kernel) (Or.inr (Or.inl rfl)) rfl) ?_
  refine ev_go0 (ev_one_pure (M := (ev_Mof 179)) (pc := 7) (i := .aload_n 0) (len := 1) (pc' := 8) (lv' := [(4, .null), (0, .ref 0), (1, .int x1), (2, .int (2)), (3, .int x3)]) (st' := [.ref 0]) (by decide +kernel) rfl) ?_
  refine ev_go0 (ev_p_getf (M := (ev_Mof 179)) (pc := 8) (x := 48) (ci := 12) (f := 8) (fin := 1) (v := .ref 254) (by decide +kernel) (by decide +kernel) ev_fH0 rfl) ?_
  refine ev_go0 (ev_one_pure (M := (ev_Mof 179)) (pc := 11) (i := .iload_n 2) (len := 1) (pc' := 12) (lv' := [(4, .null), (0, .ref 0), (1, .int x1), (2, .int (2)), (3, .int x3)]) (st' := [.int (2), .ref 254]) (by decide +kernel) rfl) ?_
  refine ev_go0 (ev_p_virt (M := (ev_Mof 179)) (pc := 12) (x := 221) (mi := 1) (na := 1) (by decide +kernel) (by decide +kernel) (by decide +kernel) (by decide +kernel) rfl rfl (ev_recv_of ev_fH254) ev_k242) ?_
  refine ev_go0 (ev_w_astore (M := (ev_Mof 179)) (pc := 15) (k := 5) (lv' := [(5, .ref 267), (4, .null), (0, .ref 0), (1, .int x1), (2, .int (2)), (3, .int x3)]) (by decide +kernel) (by decide +kernel) (Or.inl ⟨_, rfl⟩) rfl) ?_
  refine ev_go0 (ev_one_pure (M := (ev_Mof 179)) (pc := 17) (i := .aload 4) (len := 2) (pc' := 19) (lv' := [(5, .ref 267), (4, .null), (0, .ref 0), (1, .int x1), (2, .int (2)), (3, .int x3)]) (st' := [.null]) (by decide +kernel) rfl) ?_
  refine ev_go0 (ev_w_ifnull (M := (ev_Mof 179)) (pc := 19) (o := 21) (t := 40) (by decide +kernel) (Or.inl ⟨rfl, rfl⟩)) ?_
  rfl
theorem ev_k244 (x1 : Int32) (hu_x1 : x1.toInt ≤ (-1 : Int)) (x3 : Int32) {n : Nat} : ev_calld 12 376 [.ref 0, .int x1, .int (2), .int x3, .ref 723] ev_H0 n = some (.inl (some (.int (1))), ev_H0, n, 1, 6) := by
  refine ev_call_int (k := 9) (pcR := 18) (lv' := [(5, .retAddr 1), (0, .ref 0), (1, .int x1), (2, .int (2)), (3, .int x3), (4, .ref 723)]) (v := (1)) (ty := .int) (by decide +kernel) rfl ?_ (by decide +kernel) (by decide +kernel) (by decide +kernel) (by decide)
  show ev_stepn _ 9 (0, [(0, .ref 0), (1, .int x1), (2, .int (2)), (3, .int x3), (4, .ref 723)], [], _, _, 0, 0) = _
  refine ev_go0 (ev_one_pure (M := (ev_Mof 376)) (pc := 0) (i := .aload 4) (len := 2) (pc' := 2) (lv' := [(0, .ref 0), (1, .int x1), (2, .int (2)), (3, .int x3), (4, .ref 723)]) (st' := [.ref 723]) (by decide +kernel) rfl) ?_
  refine ev_go0 (ev_w_iconst (M := (ev_Mof 376)) (pc := 2) (k := 0) (v := 0) (by decide +kernel) (by decide +kernel)) ?_
  refine ev_go0 (ev_one_pure (M := (ev_Mof 376)) (pc := 3) (i := .aload_n 0) (len := 1) (pc' := 4) (lv' := [(0, .ref 0), (1, .int x1), (2, .int (2)), (3, .int x3), (4, .ref 723)]) (st' := [.ref 0, .int (0), .ref 723]) (by decide +kernel) rfl) ?_
  refine ev_go0 (ev_one_pure (M := (ev_Mof 376)) (pc := 4) (i := .iload_n 1) (len := 1) (pc' := 5) (lv' := [(0, .ref 0), (1, .int x1), (2, .int (2)), (3, .int x3), (4, .ref 723)]) (st' := [.int x1, .ref 0, .int (0), .ref 723]) (by decide +kernel) rfl) ?_
  refine ev_go0 (ev_one_pure (M := (ev_Mof 376)) (pc := 5) (i := .iload_n 2) (len := 1) (pc' := 6) (lv' := [(0, .ref 0), (1, .int x1), (2, .int (2)), (3, .int x3), (4, .ref 723)]) (st' := [.int (2), .int x1, .ref 0, .int (0), .ref 723]) (by decide +kernel) rfl) ?_
  refine ev_go0 (ev_one_pure (M := (ev_Mof 376)) (pc := 6) (i := .iload_n 3) (len := 1) (pc' := 7) (lv' := [(0, .ref 0), (1, .int x1), (2, .int (2)), (3, .int x3), (4, .ref 723)]) (st' := [.int x3, .int (2), .int x1, .ref 0, .int (0), .ref 723]) (by decide +kernel) rfl) ?_
  refine ev_go (ev_p_virtX (M := (ev_Mof 376)) (pc := 7) (x := 57) (t := 15) (mi := 179) (na := 3) (by decide +kernel) (by decide +kernel) (by decide +kernel) (by decide +kernel) rfl rfl (ev_recv_of ev_fH0) (ev_k243 x1 hu_x1 x3) (by decide +kernel)) ?_
  refine ev_go0 (ev_w_astore (M := (ev_Mof 376)) (pc := 15) (k := 5) (lv' := [(5, .retAddr 1), (0, .ref 0), (1, .int x1), (2, .int (2)), (3, .int x3), (4, .ref 723)]) (by decide +kernel) (by decide +kernel) (Or.inr (Or.inr ⟨_, rfl⟩)) rfl) ?_
  refine ev_go0 (ev_w_iconst (M := (ev_Mof 376)) (pc := 17) (k := 1) (v := 1) (by decide +kernel) (by decide +kernel)) ?_
  rfl
theorem ev_k245 (x1 : Int32) (hu_x1 : x1.toInt ≤ (-1 : Int)) (x3 : Int32) {n : Nat} : ev_calld 12 331 [.ref 621, .int x1, .int (2), .int x3] ev_H0 n = some (.inl (some (.int (0))), (ev_H0.set 621 (.inr (13, (ev_F621.set 0 (.int (1)))))), n, 0, 0) := by
  refine ev_call_int (k := 11) (pcR := 34) (lv' := [(0, .ref 621), (1, .int x1), (2, .int (2)), (3, .int x3)]) (v := (0)) (ty := .int) (by decide +kernel) rfl ?_ (by decide +kernel) (by decide +kernel) (by decide +kernel) (by decide)
  show ev_stepn _ 11 (0, [(0, .ref 621), (1, .int x1), (2, .int (2)), (3, .int x3)], [], _, _, 0, 0) = _
  refine ev_go0 (ev_one_pure (M := (ev_Mof 331)) (pc := 0) (i := .aload_n 0) (len := 1) (pc' := 1) (lv' := [(0, .ref 621), (1, .int x1), (2, .int (2)), (3, .int x3)]) (st' := [.ref 621]) (by decide +kernel) rfl) ?_
  refine ev_go0 (ev_one_pure (M := (ev_Mof 331)) (pc := 1) (i := .aload_n 0) (len := 1) (pc' := 2) (lv' := [(0, .ref 621), (1, .int x1), (2, .int (2)), (3, .int x3)]) (st' := [.ref 621, .ref 621]) (by decide +kernel) rfl) ?_
  refine ev_go0 (ev_one_pure (M := (ev_Mof 331)) (pc := 2) (i := .iload_n 1) (len := 1) (pc' := 3) (lv' := [(0, .ref 621), (1, .int x1), (2, .int (2)), (3, .int x3)]) (st' := [.int x1, .ref 621, .ref 621]) (by decide +kernel) rfl) ?_
  refine ev_go0 (ev_p_virt (M := (ev_Mof 331)) (pc := 3) (x := 531) (mi := 273) (na := 1) (by decide +kernel) (by decide +kernel) (by decide +kernel) (by decide +kernel) rfl rfl (ev_recv_of ev_fH621) (ev_k24 x1 hu_x1)) ?_
  refine ev_go0 (ev_w_if (M := (ev_Mof 331)) (pc := 6) (q := .eq) (o := 16) (b := true) (t := 22) (by decide +kernel) (by decide +kernel) rfl) ?_
  refine ev_go0 (ev_w_iconst (M := (ev_Mof 331)) (pc := 22) (k := 1) (v := 1) (by decide +kernel) (by decide +kernel)) ?_
  refine ev_go0 (ev_p_putf (M := (ev_Mof 331)) (pc := 23) (x := 321) (ci := 13) (f := 0) (by decide +kernel) (by decide +kernel) ev_fH621 rfl (by decide +kernel)) ?_
  refine ev_go0 (ev_one_pure (M := (ev_Mof 331)) (pc := 26) (i := .aload_n 0) (len := 1) (pc' := 27) (lv' := [(0, .ref 621), (1, .int x1), (2, .int (2)), (3, .int x3)]) (st' := [.ref 621]) (by decide +kernel) rfl) ?_
  refine ev_go0 (ev_p_getf (M := (ev_Mof 331)) (pc := 27) (x := 321) (ci := 13) (f := 0) (fin := 0) (v := .int (1)) (by decide +kernel) (by decide +kernel) (ev_hself ev_fH621) rfl) ?_
  refine ev_go0 (ev_w_if (M := (ev_Mof 331)) (pc := 30) (q := .le) (o := 5) (b := false) (t := 33) (by decide +kernel) (by decide +kernel) rfl) ?_
  refine ev_go0 (ev_w_iconst (M := (ev_Mof 331)) (pc := 33) (k := 0) (v := 0) (by decide +kernel) (by decide +kernel)) ?_
  rfl
theorem ev_p1_13_n2 (xs : Nat → Int32) (x1 : Int32) (hu_x1 : x1.toInt ≤ (-1 : Int)) (x3 : Int32) (e1 : xs 1 = x1) (e2 : xs 2 = (2)) (e3 : xs 3 = x3) : ev_P1 xs 1000 := by
  refine ⟨44, [(6, .int (0)), (5, .int (1)), (4, .int (0)), (3, .ref 723), (2, .ref 621), (1, .ref 0), (0, .retAddr 0)], (ev_H0.set 621 (.inr (13, (ev_F621.set 0 (.int (1)))))), 724, 725, 3553592, ?_, ⟨rfl, rfl, rfl, rfl⟩, rfl, by decide, by decide⟩
  show ev_stepn _ _ (1000, [(4, .int (0)), (3, .ref 723), (2, .ref 621), (1, .ref 0), (0, .retAddr 0)], [], _, _, _, _) = _
  refine ev_go0 (ev_one_pure (M := ev_Mlaw) (pc := 1000) (i := .aload_n 1) (len := 1) (pc' := 1001) (lv' := [(4, .int (0)), (3, .ref 723), (2, .ref 621), (1, .ref 0), (0, .retAddr 0)]) (st' := [.ref 0]) (by decide +kernel) rfl) ?_
  refine ev_go0 (ev_one_pure (M := ev_Mlaw) (pc := 1001) (i := .aload_n 0) (len := 1) (pc' := 1002) (lv' := [(4, .int (0)), (3, .ref 723), (2, .ref 621), (1, .ref 0), (0, .retAddr 0)]) (st' := [.retAddr 0, .ref 0]) (by decide +kernel) rfl) ?_
  refine ev_go0 (ev_one_pure (M := ev_Mlaw) (pc := 1002) (i := .iload 4) (len := 2) (pc' := 1004) (lv' := [(4, .int (0)), (3, .ref 723), (2, .ref 621), (1, .ref 0), (0, .retAddr 0)]) (st' := [.int (0), .retAddr 0, .ref 0]) (by decide +kernel) rfl) ?_
  refine ev_go0 (ev_w_iconst (M := ev_Mlaw) (pc := 1004) (k := 1) (v := 1) (by decide +kernel) (by decide +kernel)) ?_
  refine ev_go0 (ev_w_iadd (M := ev_Mlaw) (pc := 1005) (v := (1)) (by decide +kernel) (by decide +kernel)) ?_
  refine ev_go0 (ev_w_scr (M := ev_Mlaw) (pc := 1006) (v := x1) (j := 1) (by decide +kernel) (by decide +kernel) (by decide +kernel) e1) ?_
  refine ev_go0 (ev_one_pure (M := ev_Mlaw) (pc := 1007) (i := .aload_n 0) (len := 1) (pc' := 1008) (lv' := [(4, .int (0)), (3, .ref 723), (2, .ref 621), (1, .ref 0), (0, .retAddr 0)]) (st' := [.retAddr 0, .int x1, .ref 0]) (by decide +kernel) rfl) ?_
  refine ev_go0 (ev_one_pure (M := ev_Mlaw) (pc := 1008) (i := .iload 4) (len := 2) (pc' := 1010) (lv' := [(4, .int (0)), (3, .ref 723), (2, .ref 621), (1, .ref 0), (0, .retAddr 0)]) (st' := [.int (0), .retAddr 0, .int x1, .ref 0]) (by decide +kernel) rfl) ?_
  refine ev_go0 (ev_w_iconst (M := ev_Mlaw) (pc := 1010) (k := 2) (v := 2) (by decide +kernel) (by decide +kernel)) ?_
  refine ev_go0 (ev_w_iadd (M := ev_Mlaw) (pc := 1011) (v := (2)) (by decide +kernel) (by decide +kernel)) ?_
  refine ev_go0 (ev_w_scr (M := ev_Mlaw) (pc := 1012) (v := (2)) (j := 2) (by decide +kernel) (by decide +kernel) (by decide +kernel) e2) ?_
  refine ev_go0 (ev_one_pure (M := ev_Mlaw) (pc := 1013) (i := .aload_n 0) (len := 1) (pc' := 1014) (lv' := [(4, .int (0)), (3, .ref 723), (2, .ref 621), (1, .ref 0), (0, .retAddr 0)]) (st' := [.retAddr 0, .int (2), .int x1, .ref 0]) (by decide +kernel) rfl) ?_
  refine ev_go0 (ev_one_pure (M := ev_Mlaw) (pc := 1014) (i := .iload 4) (len := 2) (pc' := 1016) (lv' := [(4, .int (0)), (3, .ref 723), (2, .ref 621), (1, .ref 0), (0, .retAddr 0)]) (st' := [.int (0), .retAddr 0, .int (2), .int x1, .ref 0]) (by decide +kernel) rfl) ?_
  refine ev_go0 (ev_w_iconst (M := ev_Mlaw) (pc := 1016) (k := 3) (v := 3) (by decide +kernel) (by decide +kernel)) ?_
  refine ev_go0 (ev_w_iadd (M := ev_Mlaw) (pc := 1017) (v := (3)) (by decide +kernel) (by decide +kernel)) ?_
  refine ev_go0 (ev_w_scr (M := ev_Mlaw) (pc := 1018) (v := x3) (j := 3) (by decide +kernel) (by decide +kernel) (by decide +kernel) e3) ?_
  refine ev_go0 (ev_one_pure (M := ev_Mlaw) (pc := 1019) (i := .aload_n 3) (len := 1) (pc' := 1020) (lv' := [(4, .int (0)), (3, .ref 723), (2, .ref 621), (1, .ref 0), (0, .retAddr 0)]) (st' := [.ref 723, .int x3, .int (2), .int x1, .ref 0]) (by decide +kernel) rfl) ?_
  refine ev_go (ev_w_stat (M := ev_Mlaw) (pc := 1020) (y := 175) (kind := 8) (Or.inr (Or.inr rfl)) (mi := 376) (na := 5) (by decide +kernel) (by decide +kernel) (by decide +kernel) (by decide +kernel) rfl rfl (ev_k244 x1 hu_x1 x3)) ?_
  refine ev_go0 (ev_w_istore (M := ev_Mlaw) (pc := 1023) (k := 5) (lv' := [(5, .int (1)), (4, .int (0)), (3, .ref 723), (2, .ref 621), (1, .ref 0), (0, .retAddr 0)]) (by decide +kernel) (by decide +kernel) rfl) ?_
  refine ev_go0 (ev_one_pure (M := ev_Mlaw) (pc := 1025) (i := .aload_n 2) (len := 1) (pc' := 1026) (lv' := [(5, .int (1)), (4, .int (0)), (3, .ref 723), (2, .ref 621), (1, .ref 0), (0, .retAddr 0)]) (st' := [.ref 621]) (by decide +kernel) rfl) ?_
  refine ev_go0 (ev_one_pure (M := ev_Mlaw) (pc := 1026) (i := .aload_n 0) (len := 1) (pc' := 1027) (lv' := [(5, .int (1)), (4, .int (0)), (3, .ref 723), (2, .ref 621), (1, .ref 0), (0, .retAddr 0)]) (st' := [.retAddr 0, .ref 621]) (by decide +kernel) rfl) ?_
  refine ev_go0 (ev_one_pure (M := ev_Mlaw) (pc := 1027) (i := .iload 4) (len := 2) (pc' := 1029) (lv' := [(5, .int (1)), (4, .int (0)), (3, .ref 723), (2, .ref 621), (1, .ref 0), (0, .retAddr 0)]) (st' := [.int (0), .retAddr 0, .ref 621]) (by decide +kernel) rfl) ?_
  refine ev_go0 (ev_w_iconst (M := ev_Mlaw) (pc := 1029) (k := 1) (v := 1) (by decide +kernel) (by decide +kernel)) ?_
  refine ev_go0 (ev_w_iadd (M := ev_Mlaw) (pc := 1030) (v := (1)) (by decide +kernel) (by decide +kernel)) ?_
  refine ev_go0 (ev_w_scr (M := ev_Mlaw) (pc := 1031) (v := x1) (j := 1) (by decide +kernel) (by decide +kernel) (by decide +kernel) e1) ?_
  refine ev_go0 (ev_one_pure (M := ev_Mlaw) (pc := 1032) (i := .aload_n 0) (len := 1) (pc' := 1033) (lv' := [(5, .int (1)), (4, .int (0)), (3, .ref 723), (2, .ref 621), (1, .ref 0), (0, .retAddr 0)]) (st' := [.retAddr 0, .int x1, .ref 621]) (by decide +kernel) rfl) ?_
  refine ev_go0 (ev_one_pure (M := ev_Mlaw) (pc := 1033) (i := .iload 4) (len := 2) (pc' := 1035) (lv' := [(5, .int (1)), (4, .int (0)), (3, .ref 723), (2, .ref 621), (1, .ref 0), (0, .retAddr 0)]) (st' := [.int (0), .retAddr 0, .int x1, .ref 621]) (by decide +kernel) rfl) ?_
  refine ev_go0 (ev_w_iconst (M := ev_Mlaw) (pc := 1035) (k := 2) (v := 2) (by decide +kernel) (by decide +kernel)) ?_
  refine ev_go0 (ev_w_iadd (M := ev_Mlaw) (pc := 1036) (v := (2)) (by decide +kernel) (by decide +kernel)) ?_
  refine ev_go0 (ev_w_scr (M := ev_Mlaw) (pc := 1037) (v := (2)) (j := 2) (by decide +kernel) (by decide +kernel) (by decide +kernel) e2) ?_
  refine ev_go0 (ev_one_pure (M := ev_Mlaw) (pc := 1038) (i := .aload_n 0) (len := 1) (pc' := 1039) (lv' := [(5, .int (1)), (4, .int (0)), (3, .ref 723), (2, .ref 621), (1, .ref 0), (0, .retAddr 0)]) (st' := [.retAddr 0, .int (2), .int x1, .ref 621]) (by decide +kernel) rfl) ?_
  refine ev_go0 (ev_one_pure (M := ev_Mlaw) (pc := 1039) (i := .iload 4) (len := 2) (pc' := 1041) (lv' := [(5, .int (1)), (4, .int (0)), (3, .ref 723), (2, .ref 621), (1, .ref 0), (0, .retAddr 0)]) (st' := [.int (0), .retAddr 0, .int (2), .int x1, .ref 621]) (by decide +kernel) rfl) ?_
  refine ev_go0 (ev_w_iconst (M := ev_Mlaw) (pc := 1041) (k := 3) (v := 3) (by decide +kernel) (by decide +kernel)) ?_
  refine ev_go0 (ev_w_iadd (M := ev_Mlaw) (pc := 1042) (v := (3)) (by decide +kernel) (by decide +kernel)) ?_
  refine ev_go0 (ev_w_scr (M := ev_Mlaw) (pc := 1043) (v := x3) (j := 3) (by decide +kernel) (by decide +kernel) (by decide +kernel) e3) ?_
  refine ev_go0 (ev_p_virt (M := ev_Mlaw) (pc := 1044) (x := 178) (mi := 331) (na := 3) (by decide +kernel) (by decide +kernel) (by decide +kernel) (by decide +kernel) rfl rfl (ev_recv_of ev_fH621) (ev_k245 x1 hu_x1 x3)) ?_
  refine ev_go0 (ev_w_istore (M := ev_Mlaw) (pc := 1047) (k := 6) (lv' := [(6, .int (0)), (5, .int (1)), (4, .int (0)), (3, .ref 723), (2, .ref 621), (1, .ref 0), (0, .retAddr 0)]) (by decide +kernel) (by decide +kernel) rfl) ?_
  refine ev_go0 (ev_one_pure (M := ev_Mlaw) (pc := 1049) (i := .aload_n 2) (len := 1) (pc' := 1050) (lv' := [(6, .int (0)), (5, .int (1)), (4, .int (0)), (3, .ref 723), (2, .ref 621), (1, .ref 0), (0, .retAddr 0)]) (st' := [.ref 621]) (by decide +kernel) rfl) ?_
  refine ev_go0 (ev_p_virt (M := ev_Mlaw) (pc := 1050) (x := 131) (mi := 220) (na := 0) (by decide +kernel) (by decide +kernel) (by decide +kernel) (by decide +kernel) rfl rfl (ev_recv_of (ev_hself ev_fH621)) ev_k26) ?_
  refine ev_go0 (ev_one_pure (M := ev_Mlaw) (pc := 1053) (i := .iload 5) (len := 2) (pc' := 1055) (lv' := [(6, .int (0)), (5, .int (1)), (4, .int (0)), (3, .ref 723), (2, .ref 621), (1, .ref 0), (0, .retAddr 0)]) (st' := [.int (1), .int (1)]) (by decide +kernel) rfl) ?_
  refine ev_go0 (ev_w_icmp (M := ev_Mlaw) (pc := 1055) (q := .eq) (o := 5) (b := true) (t := 1060) (by decide +kernel) (by decide +kernel) rfl) ?_
  refine ev_go0 (ev_one_pure (M := ev_Mlaw) (pc := 1060) (i := .iload 5) (len := 2) (pc' := 1062) (lv' := [(6, .int (0)), (5, .int (1)), (4, .int (0)), (3, .ref 723), (2, .ref 621), (1, .ref 0), (0, .retAddr 0)]) (st' := [.int (1)]) (by decide +kernel) rfl) ?_
  refine ev_go0 (ev_w_if (M := ev_Mlaw) (pc := 1062) (q := .ne) (o := 15) (b := true) (t := 1077) (by decide +kernel) (by decide +kernel) rfl) ?_
  refine ev_go0 (ev_one_pure (M := ev_Mlaw) (pc := 1077) (i := .goto 1195) (len := 3) (pc' := 2272) (lv' := [(6, .int (0)), (5, .int (1)), (4, .int (0)), (3, .ref 723), (2, .ref 621), (1, .ref 0), (0, .retAddr 0)]) (st' := []) (by decide +kernel) rfl) ?_
  rfl
theorem ev_k246 (x2 : Int32) (hl_x2 : (3 : Int) ≤ x2.toInt) {n : Nat} : ev_calld 10 1 [.ref 254, .int x2] ev_H0 n = some (.inl (some (.null)), ev_H0, n, 0, 0) := by
  refine ev_call_ref (k := 6) (pcR := 19) (lv' := [(0, .ref 254), (1, .int x2)]) (v := .null) (C := "MendBench$Text") (by decide +kernel) rfl ?_ (by decide +kernel) (by decide +kernel) rfl (by decide)
  show ev_stepn _ 6 (0, [(0, .ref 254), (1, .int x2)], [], _, _, 0, 0) = _
  refine ev_go0 (ev_one_pure (M := (ev_Mof 1)) (pc := 0) (i := .iload_n 1) (len := 1) (pc' := 1) (lv' := [(0, .ref 254), (1, .int x2)]) (st' := [.int x2]) (by decide +kernel) rfl) ?_
  refine ev_go0 (ev_w_if (M := (ev_Mof 1)) (pc := 1) (q := .lt) (o := 17) (b := false) (t := 4) (by decide +kernel) (ev_c_lt0 hl_x2 (by decide +kernel)) rfl) ?_
  refine ev_go0 (ev_one_pure (M := (ev_Mof 1)) (pc := 4) (i := .iload_n 1) (len := 1) (pc' := 5) (lv' := [(0, .ref 254), (1, .int x2)]) (st' := [.int x2]) (by decide +kernel) rfl) ?_
  refine ev_go0 (ev_w_iconst (M := (ev_Mof 1)) (pc := 5) (k := 3) (v := 3) (by decide +kernel) (by decide +kernel)) ?_
  refine ev_go0 (ev_w_icmp (M := (ev_Mof 1)) (pc := 6) (q := .ge) (o := 12) (b := true) (t := 18) (by decide +kernel) (ev_c_ge1 hl_x2 (by decide +kernel)) rfl) ?_
  refine ev_go0 (ev_one_pure (M := (ev_Mof 1)) (pc := 18) (i := .aconst_null) (len := 1) (pc' := 19) (lv' := [(0, .ref 254), (1, .int x2)]) (st' := [.null]) (by decide +kernel) rfl) ?_
  rfl
theorem ev_k247 (x1 : Int32) (hu_x1 : x1.toInt ≤ (-1 : Int)) (x2 : Int32) (hl_x2 : (3 : Int) ≤ x2.toInt) (x3 : Int32) {n : Nat} : ev_calld 11 179 [.ref 0, .int x1, .int x2, .int x3] ev_H0 n = some (.inr "java/lang/IndexOutOfBoundsException", ev_H0, n, 1, 6) := by
  refine ev_call_thrown (k := 11) (pcR := 40) (x := 160) (lv' := [(5, .null), (4, .null), (0, .ref 0), (1, .int x1), (2, .int x2), (3, .int x3)]) (by decide +kernel) rfl ?_ (by decide +kernel) (by decide +kernel) (by decide +kernel) (by decide) (by decide)
  show ev_stepn _ 11 (0, [(0, .ref 0), (1, .int x1), (2, .int x2), (3, .int x3)], [], _, _, 0, 0) = _
  refine ev_go0 (ev_one_pure (M := (ev_Mof 179)) (pc := 0) (i := .aload_n 0) (len := 1) (pc' := 1) (lv' := [(0, .ref 0), (1, .int x1), (2, .int x2), (3, .int x3)]) (st' := [.ref 0]) (by decide +kernel) rfl) ?_
  refine ev_go0 (ev_one_pure (M := (ev_Mof 179)) (pc := 1) (i := .iload_n 1) (len := 1) (pc' := 2) (lv' := [(0, .ref 0), (1, .int x1), (2, .int x2), (3, .int x3)]) (st' := [.int x1, .ref 0]) (by decide +kernel) rfl) ?_
  refine ev_go0 (ev_p_virt (M := (ev_Mof 179)) (pc := 2) (x := 156) (mi := 200) (na := 1) (by decide +kernel) (by decide +kernel) (by decide +kernel) (by decide +kernel) rfl rfl (ev_recv_of ev_fH0) (ev_k1 x1 hu_x1)) ?_
  refine ev_go0 (ev_w_astore (M := (ev_Mof 179)) (pc := 5) (k := 4) (lv' := [(4, .null), (0, .ref 0), (1, .int x1), (2, .int x2), (3, .int x3)]) (by decide +kernel) (by decide +kernel) (Or.inr (Or.inl rfl)) rfl) ?_
  refine ev_go0 (ev_one_pure (M := (ev_Mof 179)) (pc := 7) (i := .aload_n 0) (len := 1) (pc' := 8) (lv' := [(4, .null), (0, .ref 0), (1, .int x1), (2, .int x2), (3, .int x3)]) (st' := [.ref 0]) (by decide +kernel) rfl) ?_
  refine ev_go0 (ev_p_getf (M := (ev_Mof 179)) (pc := 8) (x := 48) (ci := 12) (f := 8) (fin := 1) (v := .ref 254) (by decide +kernel) (by decide +kernel) ev_fH0 rfl) ?_
  refine ev_go0 (ev_one_pure (M := (ev_Mof 179)) (pc := 11) (i := .iload_n 2) (len := 1) (pc' := 12) (lv' := [(4, .null), (0, .ref 0), (1, .int x1), (2, .int x2), (3, .int x3)]) (st' := [.int x2, .ref 254]) (by decide +kernel) rfl) ?_
  refine ev_go0 (ev_p_virt (M := (ev_Mof 179)) (pc := 12) (x := 221) (mi := 1) (na := 1) (by decide +kernel) (by decide +kernel) (by decide +kernel) (by decide +kernel) rfl rfl (ev_recv_of ev_fH254) (ev_k246 x2 hl_x2)) ?_
  refine ev_go0 (ev_w_astore (M := (ev_Mof 179)) (pc := 15) (k := 5) (lv' := [(5, .null), (4, .null), (0, .ref 0), (1, .int x1), (2, .int x2), (3, .int x3)]) (by decide +kernel) (by decide +kernel) (Or.inr (Or.inl rfl)) rfl) ?_
  refine ev_go0 (ev_one_pure (M := (ev_Mof 179)) (pc := 17) (i := .aload 4) (len := 2) (pc' := 19) (lv' := [(5, .null), (4, .null), (0, .ref 0), (1, .int x1), (2, .int x2), (3, .int x3)]) (st' := [.null]) (by decide +kernel) rfl) ?_
  refine ev_go0 (ev_w_ifnull (M := (ev_Mof 179)) (pc := 19) (o := 21) (t := 40) (by decide +kernel) (Or.inl ⟨rfl, rfl⟩)) ?_
  rfl
theorem ev_k248 (x1 : Int32) (hu_x1 : x1.toInt ≤ (-1 : Int)) (x2 : Int32) (hl_x2 : (3 : Int) ≤ x2.toInt) (x3 : Int32) {n : Nat} : ev_calld 12 376 [.ref 0, .int x1, .int x2, .int x3, .ref 723] ev_H0 n = some (.inl (some (.int (1))), ev_H0, n, 1, 6) := by
  refine ev_call_int (k := 9) (pcR := 18) (lv' := [(5, .retAddr 1), (0, .ref 0), (1, .int x1), (2, .int x2), (3, .int x3), (4, .ref 723)]) (v := (1)) (ty := .int) (by decide +kernel) rfl ?_ (by decide +kernel) (by decide +kernel) (by decide +kernel) (by decide)
  show ev_stepn _ 9 (0, [(0, .ref 0), (1, .int x1), (2, .int x2), (3, .int x3), (4, .ref 723)], [], _, _, 0, 0) = _
  refine ev_go0 (ev_one_pure (M := (ev_Mof 376)) (pc := 0) (i := .aload 4) (len := 2) (pc' := 2) (lv' := [(0, .ref 0), (1, .int x1), (2, .int x2), (3, .int x3), (4, .ref 723)]) (st' := [.ref 723]) (by decide +kernel) rfl) ?_
  refine ev_go0 (ev_w_iconst (M := (ev_Mof 376)) (pc := 2) (k := 0) (v := 0) (by decide +kernel) (by decide +kernel)) ?_
  refine ev_go0 (ev_one_pure (M := (ev_Mof 376)) (pc := 3) (i := .aload_n 0) (len := 1) (pc' := 4) (lv' := [(0, .ref 0), (1, .int x1), (2, .int x2), (3, .int x3), (4, .ref 723)]) (st' := [.ref 0, .int (0), .ref 723]) (by decide +kernel) rfl) ?_
  refine ev_go0 (ev_one_pure (M := (ev_Mof 376)) (pc := 4) (i := .iload_n 1) (len := 1) (pc' := 5) (lv' := [(0, .ref 0), (1, .int x1), (2, .int x2), (3, .int x3), (4, .ref 723)]) (st' := [.int x1, .ref 0, .int (0), .ref 723]) (by decide +kernel) rfl) ?_
  refine ev_go0 (ev_one_pure (M := (ev_Mof 376)) (pc := 5) (i := .iload_n 2) (len := 1) (pc' := 6) (lv' := [(0, .ref 0), (1, .int x1), (2, .int x2), (3, .int x3), (4, .ref 723)]) (st' := [.int x2, .int x1, .ref 0, .int (0), .ref 723]) (by decide +kernel) rfl) ?_
  refine ev_go0 (ev_one_pure (M := (ev_Mof 376)) (pc := 6) (i := .iload_n 3) (len := 1) (pc' := 7) (lv' := [(0, .ref 0), (1, .int x1), (2, .int x2), (3, .int x3), (4, .ref 723)]) (st' := [.int x3, .int x2, .int x1, .ref 0, .int (0), .ref 723]) (by decide +kernel) rfl) ?_
  refine ev_go (ev_p_virtX (M := (ev_Mof 376)) (pc := 7) (x := 57) (t := 15) (mi := 179) (na := 3) (by decide +kernel) (by decide +kernel) (by decide +kernel) (by decide +kernel) rfl rfl (ev_recv_of ev_fH0) (ev_k247 x1 hu_x1 x2 hl_x2 x3) (by decide +kernel)) ?_
  refine ev_go0 (ev_w_astore (M := (ev_Mof 376)) (pc := 15) (k := 5) (lv' := [(5, .retAddr 1), (0, .ref 0), (1, .int x1), (2, .int x2), (3, .int x3), (4, .ref 723)]) (by decide +kernel) (by decide +kernel) (Or.inr (Or.inr ⟨_, rfl⟩)) rfl) ?_
  refine ev_go0 (ev_w_iconst (M := (ev_Mof 376)) (pc := 17) (k := 1) (v := 1) (by decide +kernel) (by decide +kernel)) ?_
  rfl
theorem ev_k249 (x1 : Int32) (hu_x1 : x1.toInt ≤ (-1 : Int)) (x2 : Int32) (hl_x2 : (3 : Int) ≤ x2.toInt) (x3 : Int32) {n : Nat} : ev_calld 12 331 [.ref 621, .int x1, .int x2, .int x3] ev_H0 n = some (.inl (some (.int (0))), (ev_H0.set 621 (.inr (13, (ev_F621.set 0 (.int (1)))))), n, 0, 0) := by
  refine ev_call_int (k := 11) (pcR := 34) (lv' := [(0, .ref 621), (1, .int x1), (2, .int x2), (3, .int x3)]) (v := (0)) (ty := .int) (by decide +kernel) rfl ?_ (by decide +kernel) (by decide +kernel) (by decide +kernel) (by decide)
  show ev_stepn _ 11 (0, [(0, .ref 621), (1, .int x1), (2, .int x2), (3, .int x3)], [], _, _, 0, 0) = _
  refine ev_go0 (ev_one_pure (M := (ev_Mof 331)) (pc := 0) (i := .aload_n 0) (len := 1) (pc' := 1) (lv' := [(0, .ref 621), (1, .int x1), (2, .int x2), (3, .int x3)]) (st' := [.ref 621]) (by decide +kernel) rfl) ?_
  refine ev_go0 (ev_one_pure (M := (ev_Mof 331)) (pc := 1) (i := .aload_n 0) (len := 1) (pc' := 2) (lv' := [(0, .ref 621), (1, .int x1), (2, .int x2), (3, .int x3)]) (st' := [.ref 621, .ref 621]) (by decide +kernel) rfl) ?_
  refine ev_go0 (ev_one_pure (M := (ev_Mof 331)) (pc := 2) (i := .iload_n 1) (len := 1) (pc' := 3) (lv' := [(0, .ref 621), (1, .int x1), (2, .int x2), (3, .int x3)]) (st' := [.int x1, .ref 621, .ref 621]) (by decide +kernel) rfl) ?_
  refine ev_go0 (ev_p_virt (M := (ev_Mof 331)) (pc := 3) (x := 531) (mi := 273) (na := 1) (by decide +kernel) (by decide +kernel) (by decide +kernel) (by decide +kernel) rfl rfl (ev_recv_of ev_fH621) (ev_k24 x1 hu_x1)) ?_
  refine ev_go0 (ev_w_if (M := (ev_Mof 331)) (pc := 6) (q := .eq) (o := 16) (b := true) (t := 22) (by decide +kernel) (by decide +kernel) rfl) ?_
  refine ev_go0 (ev_w_iconst (M := (ev_Mof 331)) (pc := 22) (k := 1) (v := 1) (by decide +kernel) (by decide +kernel)) ?_
  refine ev_go0 (ev_p_putf (M := (ev_Mof 331)) (pc := 23) (x := 321) (ci := 13) (f := 0) (by decide +kernel) (by decide +kernel) ev_fH621 rfl (by decide +kernel)) ?_
  refine ev_go0 (ev_one_pure (M := (ev_Mof 331)) (pc := 26) (i := .aload_n 0) (len := 1) (pc' := 27) (lv' := [(0, .ref 621), (1, .int x1), (2, .int x2), (3, .int x3)]) (st' := [.ref 621]) (by decide +kernel) rfl) ?_
  refine ev_go0 (ev_p_getf (M := (ev_Mof 331)) (pc := 27) (x := 321) (ci := 13) (f := 0) (fin := 0) (v := .int (1)) (by decide +kernel) (by decide +kernel) (ev_hself ev_fH621) rfl) ?_
  refine ev_go0 (ev_w_if (M := (ev_Mof 331)) (pc := 30) (q := .le) (o := 5) (b := false) (t := 33) (by decide +kernel) (by decide +kernel) rfl) ?_
  refine ev_go0 (ev_w_iconst (M := (ev_Mof 331)) (pc := 33) (k := 0) (v := 0) (by decide +kernel) (by decide +kernel)) ?_
  rfl
theorem ev_p1_13_ng (xs : Nat → Int32) (x1 : Int32) (hu_x1 : x1.toInt ≤ (-1 : Int)) (x2 : Int32) (hl_x2 : (3 : Int) ≤ x2.toInt) (x3 : Int32) (e1 : xs 1 = x1) (e2 : xs 2 = x2) (e3 : xs 3 = x3) : ev_P1 xs 1000 := by
  refine ⟨44, [(6, .int (0)), (5, .int (1)), (4, .int (0)), (3, .ref 723), (2, .ref 621), (1, .ref 0), (0, .retAddr 0)], (ev_H0.set 621 (.inr (13, (ev_F621.set 0 (.int (1)))))), 724, 725, 3553592, ?_, ⟨rfl, rfl, rfl, rfl⟩, rfl, by decide, by decide⟩
  show ev_stepn _ _ (1000, [(4, .int (0)), (3, .ref 723), (2, .ref 621), (1, .ref 0), (0, .retAddr 0)], [], _, _, _, _) = _
  refine ev_go0 (ev_one_pure (M := ev_Mlaw) (pc := 1000) (i := .aload_n 1) (len := 1) (pc' := 1001) (lv' := [(4, .int (0)), (3, .ref 723), (2, .ref 621), (1, .ref 0), (0, .retAddr 0)]) (st' := [.ref 0]) (by decide +kernel) rfl) ?_
  refine ev_go0 (ev_one_pure (M := ev_Mlaw) (pc := 1001) (i := .aload_n 0) (len := 1) (pc' := 1002) (lv' := [(4, .int (0)), (3, .ref 723), (2, .ref 621), (1, .ref 0), (0, .retAddr 0)]) (st' := [.retAddr 0, .ref 0]) (by decide +kernel) rfl) ?_
  refine ev_go0 (ev_one_pure (M := ev_Mlaw) (pc := 1002) (i := .iload 4) (len := 2) (pc' := 1004) (lv' := [(4, .int (0)), (3, .ref 723), (2, .ref 621), (1, .ref 0), (0, .retAddr 0)]) (st' := [.int (0), .retAddr 0, .ref 0]) (by decide +kernel) rfl) ?_
  refine ev_go0 (ev_w_iconst (M := ev_Mlaw) (pc := 1004) (k := 1) (v := 1) (by decide +kernel) (by decide +kernel)) ?_
  refine ev_go0 (ev_w_iadd (M := ev_Mlaw) (pc := 1005) (v := (1)) (by decide +kernel) (by decide +kernel)) ?_
  refine ev_go0 (ev_w_scr (M := ev_Mlaw) (pc := 1006) (v := x1) (j := 1) (by decide +kernel) (by decide +kernel) (by decide +kernel) e1) ?_
  refine ev_go0 (ev_one_pure (M := ev_Mlaw) (pc := 1007) (i := .aload_n 0) (len := 1) (pc' := 1008) (lv' := [(4, .int (0)), (3, .ref 723), (2, .ref 621), (1, .ref 0), (0, .retAddr 0)]) (st' := [.retAddr 0, .int x1, .ref 0]) (by decide +kernel) rfl) ?_
  refine ev_go0 (ev_one_pure (M := ev_Mlaw) (pc := 1008) (i := .iload 4) (len := 2) (pc' := 1010) (lv' := [(4, .int (0)), (3, .ref 723), (2, .ref 621), (1, .ref 0), (0, .retAddr 0)]) (st' := [.int (0), .retAddr 0, .int x1, .ref 0]) (by decide +kernel) rfl) ?_
  refine ev_go0 (ev_w_iconst (M := ev_Mlaw) (pc := 1010) (k := 2) (v := 2) (by decide +kernel) (by decide +kernel)) ?_
  refine ev_go0 (ev_w_iadd (M := ev_Mlaw) (pc := 1011) (v := (2)) (by decide +kernel) (by decide +kernel)) ?_
  refine ev_go0 (ev_w_scr (M := ev_Mlaw) (pc := 1012) (v := x2) (j := 2) (by decide +kernel) (by decide +kernel) (by decide +kernel) e2) ?_
  refine ev_go0 (ev_one_pure (M := ev_Mlaw) (pc := 1013) (i := .aload_n 0) (len := 1) (pc' := 1014) (lv' := [(4, .int (0)), (3, .ref 723), (2, .ref 621), (1, .ref 0), (0, .retAddr 0)]) (st' := [.retAddr 0, .int x2, .int x1, .ref 0]) (by decide +kernel) rfl) ?_
  refine ev_go0 (ev_one_pure (M := ev_Mlaw) (pc := 1014) (i := .iload 4) (len := 2) (pc' := 1016) (lv' := [(4, .int (0)), (3, .ref 723), (2, .ref 621), (1, .ref 0), (0, .retAddr 0)]) (st' := [.int (0), .retAddr 0, .int x2, .int x1, .ref 0]) (by decide +kernel) rfl) ?_
  refine ev_go0 (ev_w_iconst (M := ev_Mlaw) (pc := 1016) (k := 3) (v := 3) (by decide +kernel) (by decide +kernel)) ?_
  refine ev_go0 (ev_w_iadd (M := ev_Mlaw) (pc := 1017) (v := (3)) (by decide +kernel) (by decide +kernel)) ?_
  refine ev_go0 (ev_w_scr (M := ev_Mlaw) (pc := 1018) (v := x3) (j := 3) (by decide +kernel) (by decide +kernel) (by decide +kernel) e3) ?_
  refine ev_go0 (ev_one_pure (M := ev_Mlaw) (pc := 1019) (i := .aload_n 3) (len := 1) (pc' := 1020) (lv' := [(4, .int (0)), (3, .ref 723), (2, .ref 621), (1, .ref 0), (0, .retAddr 0)]) (st' := [.ref 723, .int x3, .int x2, .int x1, .ref 0]) (by decide +kernel) rfl) ?_
  refine ev_go (ev_w_stat (M := ev_Mlaw) (pc := 1020) (y := 175) (kind := 8) (Or.inr (Or.inr rfl)) (mi := 376) (na := 5) (by decide +kernel) (by decide +kernel) (by decide +kernel) (by decide +kernel) rfl rfl (ev_k248 x1 hu_x1 x2 hl_x2 x3)) ?_
  refine ev_go0 (ev_w_istore (M := ev_Mlaw) (pc := 1023) (k := 5) (lv' := [(5, .int (1)), (4, .int (0)), (3, .ref 723), (2, .ref 621), (1, .ref 0), (0, .retAddr 0)]) (by decide +kernel) (by decide +kernel) rfl) ?_
  refine ev_go0 (ev_one_pure (M := ev_Mlaw) (pc := 1025) (i := .aload_n 2) (len := 1) (pc' := 1026) (lv' := [(5, .int (1)), (4, .int (0)), (3, .ref 723), (2, .ref 621), (1, .ref 0), (0, .retAddr 0)]) (st' := [.ref 621]) (by decide +kernel) rfl) ?_
  refine ev_go0 (ev_one_pure (M := ev_Mlaw) (pc := 1026) (i := .aload_n 0) (len := 1) (pc' := 1027) (lv' := [(5, .int (1)), (4, .int (0)), (3, .ref 723), (2, .ref 621), (1, .ref 0), (0, .retAddr 0)]) (st' := [.retAddr 0, .ref 621]) (by decide +kernel) rfl) ?_
  refine ev_go0 (ev_one_pure (M := ev_Mlaw) (pc := 1027) (i := .iload 4) (len := 2) (pc' := 1029) (lv' := [(5, .int (1)), (4, .int (0)), (3, .ref 723), (2, .ref 621), (1, .ref 0), (0, .retAddr 0)]) (st' := [.int (0), .retAddr 0, .ref 621]) (by decide +kernel) rfl) ?_
  refine ev_go0 (ev_w_iconst (M := ev_Mlaw) (pc := 1029) (k := 1) (v := 1) (by decide +kernel) (by decide +kernel)) ?_
  refine ev_go0 (ev_w_iadd (M := ev_Mlaw) (pc := 1030) (v := (1)) (by decide +kernel) (by decide +kernel)) ?_
  refine ev_go0 (ev_w_scr (M := ev_Mlaw) (pc := 1031) (v := x1) (j := 1) (by decide +kernel) (by decide +kernel) (by decide +kernel) e1) ?_
  refine ev_go0 (ev_one_pure (M := ev_Mlaw) (pc := 1032) (i := .aload_n 0) (len := 1) (pc' := 1033) (lv' := [(5, .int (1)), (4, .int (0)), (3, .ref 723), (2, .ref 621), (1, .ref 0), (0, .retAddr 0)]) (st' := [.retAddr 0, .int x1, .ref 621]) (by decide +kernel) rfl) ?_
  refine ev_go0 (ev_one_pure (M := ev_Mlaw) (pc := 1033) (i := .iload 4) (len := 2) (pc' := 1035) (lv' := [(5, .int (1)), (4, .int (0)), (3, .ref 723), (2, .ref 621), (1, .ref 0), (0, .retAddr 0)]) (st' := [.int (0), .retAddr 0, .int x1, .ref 621]) (by decide +kernel) rfl) ?_
  refine ev_go0 (ev_w_iconst (M := ev_Mlaw) (pc := 1035) (k := 2) (v := 2) (by decide +kernel) (by decide +kernel)) ?_
  refine ev_go0 (ev_w_iadd (M := ev_Mlaw) (pc := 1036) (v := (2)) (by decide +kernel) (by decide +kernel)) ?_
  refine ev_go0 (ev_w_scr (M := ev_Mlaw) (pc := 1037) (v := x2) (j := 2) (by decide +kernel) (by decide +kernel) (by decide +kernel) e2) ?_
  refine ev_go0 (ev_one_pure (M := ev_Mlaw) (pc := 1038) (i := .aload_n 0) (len := 1) (pc' := 1039) (lv' := [(5, .int (1)), (4, .int (0)), (3, .ref 723), (2, .ref 621), (1, .ref 0), (0, .retAddr 0)]) (st' := [.retAddr 0, .int x2, .int x1, .ref 621]) (by decide +kernel) rfl) ?_
  refine ev_go0 (ev_one_pure (M := ev_Mlaw) (pc := 1039) (i := .iload 4) (len := 2) (pc' := 1041) (lv' := [(5, .int (1)), (4, .int (0)), (3, .ref 723), (2, .ref 621), (1, .ref 0), (0, .retAddr 0)]) (st' := [.int (0), .retAddr 0, .int x2, .int x1, .ref 621]) (by decide +kernel) rfl) ?_
  refine ev_go0 (ev_w_iconst (M := ev_Mlaw) (pc := 1041) (k := 3) (v := 3) (by decide +kernel) (by decide +kernel)) ?_
  refine ev_go0 (ev_w_iadd (M := ev_Mlaw) (pc := 1042) (v := (3)) (by decide +kernel) (by decide +kernel)) ?_
  refine ev_go0 (ev_w_scr (M := ev_Mlaw) (pc := 1043) (v := x3) (j := 3) (by decide +kernel) (by decide +kernel) (by decide +kernel) e3) ?_
  refine ev_go0 (ev_p_virt (M := ev_Mlaw) (pc := 1044) (x := 178) (mi := 331) (na := 3) (by decide +kernel) (by decide +kernel) (by decide +kernel) (by decide +kernel) rfl rfl (ev_recv_of ev_fH621) (ev_k249 x1 hu_x1 x2 hl_x2 x3)) ?_
  refine ev_go0 (ev_w_istore (M := ev_Mlaw) (pc := 1047) (k := 6) (lv' := [(6, .int (0)), (5, .int (1)), (4, .int (0)), (3, .ref 723), (2, .ref 621), (1, .ref 0), (0, .retAddr 0)]) (by decide +kernel) (by decide +kernel) rfl) ?_
  refine ev_go0 (ev_one_pure (M := ev_Mlaw) (pc := 1049) (i := .aload_n 2) (len := 1) (pc' := 1050) (lv' := [(6, .int (0)), (5, .int (1)), (4, .int (0)), (3, .ref 723), (2, .ref 621), (1, .ref 0), (0, .retAddr 0)]) (st' := [.ref 621]) (by decide +kernel) rfl) ?_
  refine ev_go0 (ev_p_virt (M := ev_Mlaw) (pc := 1050) (x := 131) (mi := 220) (na := 0) (by decide +kernel) (by decide +kernel) (by decide +kernel) (by decide +kernel) rfl rfl (ev_recv_of (ev_hself ev_fH621)) ev_k26) ?_
  refine ev_go0 (ev_one_pure (M := ev_Mlaw) (pc := 1053) (i := .iload 5) (len := 2) (pc' := 1055) (lv' := [(6, .int (0)), (5, .int (1)), (4, .int (0)), (3, .ref 723), (2, .ref 621), (1, .ref 0), (0, .retAddr 0)]) (st' := [.int (1), .int (1)]) (by decide +kernel) rfl) ?_
  refine ev_go0 (ev_w_icmp (M := ev_Mlaw) (pc := 1055) (q := .eq) (o := 5) (b := true) (t := 1060) (by decide +kernel) (by decide +kernel) rfl) ?_
  refine ev_go0 (ev_one_pure (M := ev_Mlaw) (pc := 1060) (i := .iload 5) (len := 2) (pc' := 1062) (lv' := [(6, .int (0)), (5, .int (1)), (4, .int (0)), (3, .ref 723), (2, .ref 621), (1, .ref 0), (0, .retAddr 0)]) (st' := [.int (1)]) (by decide +kernel) rfl) ?_
  refine ev_go0 (ev_w_if (M := ev_Mlaw) (pc := 1062) (q := .ne) (o := 15) (b := true) (t := 1077) (by decide +kernel) (by decide +kernel) rfl) ?_
  refine ev_go0 (ev_one_pure (M := ev_Mlaw) (pc := 1077) (i := .goto 1195) (len := 3) (pc' := 2272) (lv' := [(6, .int (0)), (5, .int (1)), (4, .int (0)), (3, .ref 723), (2, .ref 621), (1, .ref 0), (0, .retAddr 0)]) (st' := []) (by decide +kernel) rfl) ?_
  rfl
theorem ev_k250 (x1 : Int32) (hl_x1 : (0 : Int) ≤ x1.toInt) (x2 : Int32) (hu_x2 : x2.toInt ≤ (-1 : Int)) (x3 : Int32) {n : Nat} : ev_calld 11 179 [.ref 0, .int x1, .int x2, .int x3] ev_H0 n = some (.inr "java/lang/IndexOutOfBoundsException", ev_H0, n, 1, 6) := by
  refine ev_call_thrown (k := 11) (pcR := 40) (x := 160) (lv' := [(5, .null), (4, .null), (0, .ref 0), (1, .int x1), (2, .int x2), (3, .int x3)]) (by decide +kernel) rfl ?_ (by decide +kernel) (by decide +kernel) (by decide +kernel) (by decide) (by decide)
  show ev_stepn _ 11 (0, [(0, .ref 0), (1, .int x1), (2, .int x2), (3, .int x3)], [], _, _, 0, 0) = _
  refine ev_go0 (ev_one_pure (M := (ev_Mof 179)) (pc := 0) (i := .aload_n 0) (len := 1) (pc' := 1) (lv' := [(0, .ref 0), (1, .int x1), (2, .int x2), (3, .int x3)]) (st' := [.ref 0]) (by decide +kernel) rfl) ?_
  refine ev_go0 (ev_one_pure (M := (ev_Mof 179)) (pc := 1) (i := .iload_n 1) (len := 1) (pc' := 2) (lv' := [(0, .ref 0), (1, .int x1), (2, .int x2), (3, .int x3)]) (st' := [.int x1, .ref 0]) (by decide +kernel) rfl) ?_
  refine ev_go0 (ev_p_virt (M := (ev_Mof 179)) (pc := 2) (x := 156) (mi := 200) (na := 1) (by decide +kernel) (by decide +kernel) (by decide +kernel) (by decide +kernel) rfl rfl (ev_recv_of ev_fH0) (ev_k9 x1 hl_x1)) ?_
  refine ev_go0 (ev_w_astore (M := (ev_Mof 179)) (pc := 5) (k := 4) (lv' := [(4, .null), (0, .ref 0), (1, .int x1), (2, .int x2), (3, .int x3)]) (by decide +kernel) (by decide +kernel) (Or.inr (Or.inl rfl)) rfl) ?_
  refine ev_go0 (ev_one_pure (M := (ev_Mof 179)) (pc := 7) (i := .aload_n 0) (len := 1) (pc' := 8) (lv' := [(4, .null), (0, .ref 0), (1, .int x1), (2, .int x2), (3, .int x3)]) (st' := [.ref 0]) (by decide +kernel) rfl) ?_
  refine ev_go0 (ev_p_getf (M := (ev_Mof 179)) (pc := 8) (x := 48) (ci := 12) (f := 8) (fin := 1) (v := .ref 254) (by decide +kernel) (by decide +kernel) ev_fH0 rfl) ?_
  refine ev_go0 (ev_one_pure (M := (ev_Mof 179)) (pc := 11) (i := .iload_n 2) (len := 1) (pc' := 12) (lv' := [(4, .null), (0, .ref 0), (1, .int x1), (2, .int x2), (3, .int x3)]) (st' := [.int x2, .ref 254]) (by decide +kernel) rfl) ?_
  refine ev_go0 (ev_p_virt (M := (ev_Mof 179)) (pc := 12) (x := 221) (mi := 1) (na := 1) (by decide +kernel) (by decide +kernel) (by decide +kernel) (by decide +kernel) rfl rfl (ev_recv_of ev_fH254) (ev_k230 x2 hu_x2)) ?_
  refine ev_go0 (ev_w_astore (M := (ev_Mof 179)) (pc := 15) (k := 5) (lv' := [(5, .null), (4, .null), (0, .ref 0), (1, .int x1), (2, .int x2), (3, .int x3)]) (by decide +kernel) (by decide +kernel) (Or.inr (Or.inl rfl)) rfl) ?_
  refine ev_go0 (ev_one_pure (M := (ev_Mof 179)) (pc := 17) (i := .aload 4) (len := 2) (pc' := 19) (lv' := [(5, .null), (4, .null), (0, .ref 0), (1, .int x1), (2, .int x2), (3, .int x3)]) (st' := [.null]) (by decide +kernel) rfl) ?_
  refine ev_go0 (ev_w_ifnull (M := (ev_Mof 179)) (pc := 19) (o := 21) (t := 40) (by decide +kernel) (Or.inl ⟨rfl, rfl⟩)) ?_
  rfl
theorem ev_k251 (x1 : Int32) (hl_x1 : (0 : Int) ≤ x1.toInt) (x2 : Int32) (hu_x2 : x2.toInt ≤ (-1 : Int)) (x3 : Int32) {n : Nat} : ev_calld 12 376 [.ref 0, .int x1, .int x2, .int x3, .ref 723] ev_H0 n = some (.inl (some (.int (1))), ev_H0, n, 1, 6) := by
  refine ev_call_int (k := 9) (pcR := 18) (lv' := [(5, .retAddr 1), (0, .ref 0), (1, .int x1), (2, .int x2), (3, .int x3), (4, .ref 723)]) (v := (1)) (ty := .int) (by decide +kernel) rfl ?_ (by decide +kernel) (by decide +kernel) (by decide +kernel) (by decide)
  show ev_stepn _ 9 (0, [(0, .ref 0), (1, .int x1), (2, .int x2), (3, .int x3), (4, .ref 723)], [], _, _, 0, 0) = _
  refine ev_go0 (ev_one_pure (M := (ev_Mof 376)) (pc := 0) (i := .aload 4) (len := 2) (pc' := 2) (lv' := [(0, .ref 0), (1, .int x1), (2, .int x2), (3, .int x3), (4, .ref 723)]) (st' := [.ref 723]) (by decide +kernel) rfl) ?_
  refine ev_go0 (ev_w_iconst (M := (ev_Mof 376)) (pc := 2) (k := 0) (v := 0) (by decide +kernel) (by decide +kernel)) ?_
  refine ev_go0 (ev_one_pure (M := (ev_Mof 376)) (pc := 3) (i := .aload_n 0) (len := 1) (pc' := 4) (lv' := [(0, .ref 0), (1, .int x1), (2, .int x2), (3, .int x3), (4, .ref 723)]) (st' := [.ref 0, .int (0), .ref 723]) (by decide +kernel) rfl) ?_
  refine ev_go0 (ev_one_pure (M := (ev_Mof 376)) (pc := 4) (i := .iload_n 1) (len := 1) (pc' := 5) (lv' := [(0, .ref 0), (1, .int x1), (2, .int x2), (3, .int x3), (4, .ref 723)]) (st' := [.int x1, .ref 0, .int (0), .ref 723]) (by decide +kernel) rfl) ?_
  refine ev_go0 (ev_one_pure (M := (ev_Mof 376)) (pc := 5) (i := .iload_n 2) (len := 1) (pc' := 6) (lv' := [(0, .ref 0), (1, .int x1), (2, .int x2), (3, .int x3), (4, .ref 723)]) (st' := [.int x2, .int x1, .ref 0, .int (0), .ref 723]) (by decide +kernel) rfl) ?_
  refine ev_go0 (ev_one_pure (M := (ev_Mof 376)) (pc := 6) (i := .iload_n 3) (len := 1) (pc' := 7) (lv' := [(0, .ref 0), (1, .int x1), (2, .int x2), (3, .int x3), (4, .ref 723)]) (st' := [.int x3, .int x2, .int x1, .ref 0, .int (0), .ref 723]) (by decide +kernel) rfl) ?_
  refine ev_go (ev_p_virtX (M := (ev_Mof 376)) (pc := 7) (x := 57) (t := 15) (mi := 179) (na := 3) (by decide +kernel) (by decide +kernel) (by decide +kernel) (by decide +kernel) rfl rfl (ev_recv_of ev_fH0) (ev_k250 x1 hl_x1 x2 hu_x2 x3) (by decide +kernel)) ?_
  refine ev_go0 (ev_w_astore (M := (ev_Mof 376)) (pc := 15) (k := 5) (lv' := [(5, .retAddr 1), (0, .ref 0), (1, .int x1), (2, .int x2), (3, .int x3), (4, .ref 723)]) (by decide +kernel) (by decide +kernel) (Or.inr (Or.inr ⟨_, rfl⟩)) rfl) ?_
  refine ev_go0 (ev_w_iconst (M := (ev_Mof 376)) (pc := 17) (k := 1) (v := 1) (by decide +kernel) (by decide +kernel)) ?_
  rfl
theorem ev_k252 (x1 : Int32) (hl_x1 : (0 : Int) ≤ x1.toInt) (x2 : Int32) (hu_x2 : x2.toInt ≤ (-1 : Int)) (x3 : Int32) {n : Nat} : ev_calld 12 331 [.ref 621, .int x1, .int x2, .int x3] ev_H0 n = some (.inl (some (.int (0))), (ev_H0.set 621 (.inr (13, (ev_F621.set 0 (.int (1)))))), n, 0, 0) := by
  refine ev_call_int (k := 11) (pcR := 34) (lv' := [(0, .ref 621), (1, .int x1), (2, .int x2), (3, .int x3)]) (v := (0)) (ty := .int) (by decide +kernel) rfl ?_ (by decide +kernel) (by decide +kernel) (by decide +kernel) (by decide)
  show ev_stepn _ 11 (0, [(0, .ref 621), (1, .int x1), (2, .int x2), (3, .int x3)], [], _, _, 0, 0) = _
  refine ev_go0 (ev_one_pure (M := (ev_Mof 331)) (pc := 0) (i := .aload_n 0) (len := 1) (pc' := 1) (lv' := [(0, .ref 621), (1, .int x1), (2, .int x2), (3, .int x3)]) (st' := [.ref 621]) (by decide +kernel) rfl) ?_
  refine ev_go0 (ev_one_pure (M := (ev_Mof 331)) (pc := 1) (i := .aload_n 0) (len := 1) (pc' := 2) (lv' := [(0, .ref 621), (1, .int x1), (2, .int x2), (3, .int x3)]) (st' := [.ref 621, .ref 621]) (by decide +kernel) rfl) ?_
  refine ev_go0 (ev_one_pure (M := (ev_Mof 331)) (pc := 2) (i := .iload_n 1) (len := 1) (pc' := 3) (lv' := [(0, .ref 621), (1, .int x1), (2, .int x2), (3, .int x3)]) (st' := [.int x1, .ref 621, .ref 621]) (by decide +kernel) rfl) ?_
  refine ev_go0 (ev_p_virt (M := (ev_Mof 331)) (pc := 3) (x := 531) (mi := 273) (na := 1) (by decide +kernel) (by decide +kernel) (by decide +kernel) (by decide +kernel) rfl rfl (ev_recv_of ev_fH621) (ev_k30 x1 hl_x1)) ?_
  refine ev_go0 (ev_w_if (M := (ev_Mof 331)) (pc := 6) (q := .eq) (o := 16) (b := true) (t := 22) (by decide +kernel) (by decide +kernel) rfl) ?_
  refine ev_go0 (ev_w_iconst (M := (ev_Mof 331)) (pc := 22) (k := 1) (v := 1) (by decide +kernel) (by decide +kernel)) ?_
  refine ev_go0 (ev_p_putf (M := (ev_Mof 331)) (pc := 23) (x := 321) (ci := 13) (f := 0) (by decide +kernel) (by decide +kernel) ev_fH621 rfl (by decide +kernel)) ?_
  refine ev_go0 (ev_one_pure (M := (ev_Mof 331)) (pc := 26) (i := .aload_n 0) (len := 1) (pc' := 27) (lv' := [(0, .ref 621), (1, .int x1), (2, .int x2), (3, .int x3)]) (st' := [.ref 621]) (by decide +kernel) rfl) ?_
  refine ev_go0 (ev_p_getf (M := (ev_Mof 331)) (pc := 27) (x := 321) (ci := 13) (f := 0) (fin := 0) (v := .int (1)) (by decide +kernel) (by decide +kernel) (ev_hself ev_fH621) rfl) ?_
  refine ev_go0 (ev_w_if (M := (ev_Mof 331)) (pc := 30) (q := .le) (o := 5) (b := false) (t := 33) (by decide +kernel) (by decide +kernel) rfl) ?_
  refine ev_go0 (ev_w_iconst (M := (ev_Mof 331)) (pc := 33) (k := 0) (v := 0) (by decide +kernel) (by decide +kernel)) ?_
  rfl
theorem ev_p1_13_pn (xs : Nat → Int32) (x1 : Int32) (hl_x1 : (0 : Int) ≤ x1.toInt) (x2 : Int32) (hu_x2 : x2.toInt ≤ (-1 : Int)) (x3 : Int32) (e1 : xs 1 = x1) (e2 : xs 2 = x2) (e3 : xs 3 = x3) : ev_P1 xs 1000 := by
  refine ⟨44, [(6, .int (0)), (5, .int (1)), (4, .int (0)), (3, .ref 723), (2, .ref 621), (1, .ref 0), (0, .retAddr 0)], (ev_H0.set 621 (.inr (13, (ev_F621.set 0 (.int (1)))))), 724, 725, 3553592, ?_, ⟨rfl, rfl, rfl, rfl⟩, rfl, by decide, by decide⟩
  show ev_stepn _ _ (1000, [(4, .int (0)), (3, .ref 723), (2, .ref 621), (1, .ref 0), (0, .retAddr 0)], [], _, _, _, _) = _
  refine ev_go0 (ev_one_pure (M := ev_Mlaw) (pc := 1000) (i := .aload_n 1) (len := 1) (pc' := 1001) (lv' := [(4, .int (0)), (3, .ref 723), (2, .ref 621), (1, .ref 0), (0, .retAddr 0)]) (st' := [.ref 0]) (by decide +kernel) rfl) ?_
  refine ev_go0 (ev_one_pure (M := ev_Mlaw) (pc := 1001) (i := .aload_n 0) (len := 1) (pc' := 1002) (lv' := [(4, .int (0)), (3, .ref 723), (2, .ref 621), (1, .ref 0), (0, .retAddr 0)]) (st' := [.retAddr 0, .ref 0]) (by decide +kernel) rfl) ?_
  refine ev_go0 (ev_one_pure (M := ev_Mlaw) (pc := 1002) (i := .iload 4) (len := 2) (pc' := 1004) (lv' := [(4, .int (0)), (3, .ref 723), (2, .ref 621), (1, .ref 0), (0, .retAddr 0)]) (st' := [.int (0), .retAddr 0, .ref 0]) (by decide +kernel) rfl) ?_
  refine ev_go0 (ev_w_iconst (M := ev_Mlaw) (pc := 1004) (k := 1) (v := 1) (by decide +kernel) (by decide +kernel)) ?_
  refine ev_go0 (ev_w_iadd (M := ev_Mlaw) (pc := 1005) (v := (1)) (by decide +kernel) (by decide +kernel)) ?_
  refine ev_go0 (ev_w_scr (M := ev_Mlaw) (pc := 1006) (v := x1) (j := 1) (by decide +kernel) (by decide +kernel) (by decide +kernel) e1) ?_
  refine ev_go0 (ev_one_pure (M := ev_Mlaw) (pc := 1007) (i := .aload_n 0) (len := 1) (pc' := 1008) (lv' := [(4, .int (0)), (3, .ref 723), (2, .ref 621), (1, .ref 0), (0, .retAddr 0)]) (st' := [.retAddr 0, .int x1, .ref 0]) (by decide +kernel) rfl) ?_
  refine ev_go0 (ev_one_pure (M := ev_Mlaw) (pc := 1008) (i := .iload 4) (len := 2) (pc' := 1010) (lv' := [(4, .int (0)), (3, .ref 723), (2, .ref 621), (1, .ref 0), (0, .retAddr 0)]) (st' := [.int (0), .retAddr 0, .int x1, .ref 0]) (by decide +kernel) rfl) ?_
  refine ev_go0 (ev_w_iconst (M := ev_Mlaw) (pc := 1010) (k := 2) (v := 2) (by decide +kernel) (by decide +kernel)) ?_
  refine ev_go0 (ev_w_iadd (M := ev_Mlaw) (pc := 1011) (v := (2)) (by decide +kernel) (by decide +kernel)) ?_
  refine ev_go0 (ev_w_scr (M := ev_Mlaw) (pc := 1012) (v := x2) (j := 2) (by decide +kernel) (by decide +kernel) (by decide +kernel) e2) ?_
  refine ev_go0 (ev_one_pure (M := ev_Mlaw) (pc := 1013) (i := .aload_n 0) (len := 1) (pc' := 1014) (lv' := [(4, .int (0)), (3, .ref 723), (2, .ref 621), (1, .ref 0), (0, .retAddr 0)]) (st' := [.retAddr 0, .int x2, .int x1, .ref 0]) (by decide +kernel) rfl) ?_
  refine ev_go0 (ev_one_pure (M := ev_Mlaw) (pc := 1014) (i := .iload 4) (len := 2) (pc' := 1016) (lv' := [(4, .int (0)), (3, .ref 723), (2, .ref 621), (1, .ref 0), (0, .retAddr 0)]) (st' := [.int (0), .retAddr 0, .int x2, .int x1, .ref 0]) (by decide +kernel) rfl) ?_
  refine ev_go0 (ev_w_iconst (M := ev_Mlaw) (pc := 1016) (k := 3) (v := 3) (by decide +kernel) (by decide +kernel)) ?_
  refine ev_go0 (ev_w_iadd (M := ev_Mlaw) (pc := 1017) (v := (3)) (by decide +kernel) (by decide +kernel)) ?_
  refine ev_go0 (ev_w_scr (M := ev_Mlaw) (pc := 1018) (v := x3) (j := 3) (by decide +kernel) (by decide +kernel) (by decide +kernel) e3) ?_
  refine ev_go0 (ev_one_pure (M := ev_Mlaw) (pc := 1019) (i := .aload_n 3) (len := 1) (pc' := 1020) (lv' := [(4, .int (0)), (3, .ref 723), (2, .ref 621), (1, .ref 0), (0, .retAddr 0)]) (st' := [.ref 723, .int x3, .int x2, .int x1, .ref 0]) (by decide +kernel) rfl) ?_
  refine ev_go (ev_w_stat (M := ev_Mlaw) (pc := 1020) (y := 175) (kind := 8) (Or.inr (Or.inr rfl)) (mi := 376) (na := 5) (by decide +kernel) (by decide +kernel) (by decide +kernel) (by decide +kernel) rfl rfl (ev_k251 x1 hl_x1 x2 hu_x2 x3)) ?_
  refine ev_go0 (ev_w_istore (M := ev_Mlaw) (pc := 1023) (k := 5) (lv' := [(5, .int (1)), (4, .int (0)), (3, .ref 723), (2, .ref 621), (1, .ref 0), (0, .retAddr 0)]) (by decide +kernel) (by decide +kernel) rfl) ?_
  refine ev_go0 (ev_one_pure (M := ev_Mlaw) (pc := 1025) (i := .aload_n 2) (len := 1) (pc' := 1026) (lv' := [(5, .int (1)), (4, .int (0)), (3, .ref 723), (2, .ref 621), (1, .ref 0), (0, .retAddr 0)]) (st' := [.ref 621]) (by decide +kernel) rfl) ?_
  refine ev_go0 (ev_one_pure (M := ev_Mlaw) (pc := 1026) (i := .aload_n 0) (len := 1) (pc' := 1027) (lv' := [(5, .int (1)), (4, .int (0)), (3, .ref 723), (2, .ref 621), (1, .ref 0), (0, .retAddr 0)]) (st' := [.retAddr 0, .ref 621]) (by decide +kernel) rfl) ?_
  refine ev_go0 (ev_one_pure (M := ev_Mlaw) (pc := 1027) (i := .iload 4) (len := 2) (pc' := 1029) (lv' := [(5, .int (1)), (4, .int (0)), (3, .ref 723), (2, .ref 621), (1, .ref 0), (0, .retAddr 0)]) (st' := [.int (0), .retAddr 0, .ref 621]) (by decide +kernel) rfl) ?_
  refine ev_go0 (ev_w_iconst (M := ev_Mlaw) (pc := 1029) (k := 1) (v := 1) (by decide +kernel) (by decide +kernel)) ?_
  refine ev_go0 (ev_w_iadd (M := ev_Mlaw) (pc := 1030) (v := (1)) (by decide +kernel) (by decide +kernel)) ?_
  refine ev_go0 (ev_w_scr (M := ev_Mlaw) (pc := 1031) (v := x1) (j := 1) (by decide +kernel) (by decide +kernel) (by decide +kernel) e1) ?_
  refine ev_go0 (ev_one_pure (M := ev_Mlaw) (pc := 1032) (i := .aload_n 0) (len := 1) (pc' := 1033) (lv' := [(5, .int (1)), (4, .int (0)), (3, .ref 723), (2, .ref 621), (1, .ref 0), (0, .retAddr 0)]) (st' := [.retAddr 0, .int x1, .ref 621]) (by decide +kernel) rfl) ?_
  refine ev_go0 (ev_one_pure (M := ev_Mlaw) (pc := 1033) (i := .iload 4) (len := 2) (pc' := 1035) (lv' := [(5, .int (1)), (4, .int (0)), (3, .ref 723), (2, .ref 621), (1, .ref 0), (0, .retAddr 0)]) (st' := [.int (0), .retAddr 0, .int x1, .ref 621]) (by decide +kernel) rfl) ?_
  refine ev_go0 (ev_w_iconst (M := ev_Mlaw) (pc := 1035) (k := 2) (v := 2) (by decide +kernel) (by decide +kernel)) ?_
  refine ev_go0 (ev_w_iadd (M := ev_Mlaw) (pc := 1036) (v := (2)) (by decide +kernel) (by decide +kernel)) ?_
  refine ev_go0 (ev_w_scr (M := ev_Mlaw) (pc := 1037) (v := x2) (j := 2) (by decide +kernel) (by decide +kernel) (by decide +kernel) e2) ?_
  refine ev_go0 (ev_one_pure (M := ev_Mlaw) (pc := 1038) (i := .aload_n 0) (len := 1) (pc' := 1039) (lv' := [(5, .int (1)), (4, .int (0)), (3, .ref 723), (2, .ref 621), (1, .ref 0), (0, .retAddr 0)]) (st' := [.retAddr 0, .int x2, .int x1, .ref 621]) (by decide +kernel) rfl) ?_
  refine ev_go0 (ev_one_pure (M := ev_Mlaw) (pc := 1039) (i := .iload 4) (len := 2) (pc' := 1041) (lv' := [(5, .int (1)), (4, .int (0)), (3, .ref 723), (2, .ref 621), (1, .ref 0), (0, .retAddr 0)]) (st' := [.int (0), .retAddr 0, .int x2, .int x1, .ref 621]) (by decide +kernel) rfl) ?_
  refine ev_go0 (ev_w_iconst (M := ev_Mlaw) (pc := 1041) (k := 3) (v := 3) (by decide +kernel) (by decide +kernel)) ?_
  refine ev_go0 (ev_w_iadd (M := ev_Mlaw) (pc := 1042) (v := (3)) (by decide +kernel) (by decide +kernel)) ?_
  refine ev_go0 (ev_w_scr (M := ev_Mlaw) (pc := 1043) (v := x3) (j := 3) (by decide +kernel) (by decide +kernel) (by decide +kernel) e3) ?_
  refine ev_go0 (ev_p_virt (M := ev_Mlaw) (pc := 1044) (x := 178) (mi := 331) (na := 3) (by decide +kernel) (by decide +kernel) (by decide +kernel) (by decide +kernel) rfl rfl (ev_recv_of ev_fH621) (ev_k252 x1 hl_x1 x2 hu_x2 x3)) ?_
  refine ev_go0 (ev_w_istore (M := ev_Mlaw) (pc := 1047) (k := 6) (lv' := [(6, .int (0)), (5, .int (1)), (4, .int (0)), (3, .ref 723), (2, .ref 621), (1, .ref 0), (0, .retAddr 0)]) (by decide +kernel) (by decide +kernel) rfl) ?_
  refine ev_go0 (ev_one_pure (M := ev_Mlaw) (pc := 1049) (i := .aload_n 2) (len := 1) (pc' := 1050) (lv' := [(6, .int (0)), (5, .int (1)), (4, .int (0)), (3, .ref 723), (2, .ref 621), (1, .ref 0), (0, .retAddr 0)]) (st' := [.ref 621]) (by decide +kernel) rfl) ?_
  refine ev_go0 (ev_p_virt (M := ev_Mlaw) (pc := 1050) (x := 131) (mi := 220) (na := 0) (by decide +kernel) (by decide +kernel) (by decide +kernel) (by decide +kernel) rfl rfl (ev_recv_of (ev_hself ev_fH621)) ev_k26) ?_
  refine ev_go0 (ev_one_pure (M := ev_Mlaw) (pc := 1053) (i := .iload 5) (len := 2) (pc' := 1055) (lv' := [(6, .int (0)), (5, .int (1)), (4, .int (0)), (3, .ref 723), (2, .ref 621), (1, .ref 0), (0, .retAddr 0)]) (st' := [.int (1), .int (1)]) (by decide +kernel) rfl) ?_
  refine ev_go0 (ev_w_icmp (M := ev_Mlaw) (pc := 1055) (q := .eq) (o := 5) (b := true) (t := 1060) (by decide +kernel) (by decide +kernel) rfl) ?_
  refine ev_go0 (ev_one_pure (M := ev_Mlaw) (pc := 1060) (i := .iload 5) (len := 2) (pc' := 1062) (lv' := [(6, .int (0)), (5, .int (1)), (4, .int (0)), (3, .ref 723), (2, .ref 621), (1, .ref 0), (0, .retAddr 0)]) (st' := [.int (1)]) (by decide +kernel) rfl) ?_
  refine ev_go0 (ev_w_if (M := ev_Mlaw) (pc := 1062) (q := .ne) (o := 15) (b := true) (t := 1077) (by decide +kernel) (by decide +kernel) rfl) ?_
  refine ev_go0 (ev_one_pure (M := ev_Mlaw) (pc := 1077) (i := .goto 1195) (len := 3) (pc' := 2272) (lv' := [(6, .int (0)), (5, .int (1)), (4, .int (0)), (3, .ref 723), (2, .ref 621), (1, .ref 0), (0, .retAddr 0)]) (st' := []) (by decide +kernel) rfl) ?_
  rfl
theorem ev_k253 (x1 : Int32) (hl_x1 : (0 : Int) ≤ x1.toInt) (x3 : Int32) {n : Nat} : ev_calld 11 179 [.ref 0, .int x1, .int (0), .int x3] ev_H0 n = some (.inr "java/lang/IndexOutOfBoundsException", ev_H0, n, 1, 6) := by
  refine ev_call_thrown (k := 11) (pcR := 40) (x := 160) (lv' := [(5, .ref 263), (4, .null), (0, .ref 0), (1, .int x1), (2, .int (0)), (3, .int x3)]) (by decide +kernel) rfl ?_ (by decide +kernel) (by decide +kernel) (by decide +kernel) (by decide) (by decide)
  show ev_stepn _ 11 (0, [(0, .ref 0), (1, .int x1), (2, .int (0)), (3, .int x3)], [], _, _, 0, 0) = _
  refine ev_go0 (ev_one_pure (M := (ev_Mof 179)) (pc := 0) (i := .aload_n 0) (len := 1) (pc' := 1) (lv' := [(0, .ref 0), (1, .int x1), (2, .int (0)), (3, .int x3)]) (st' := [.ref 0]) (by decide +kernel) rfl) ?_
  refine ev_go0 (ev_one_pure (M := (ev_Mof 179)) (pc := 1) (i := .iload_n 1) (len := 1) (pc' := 2) (lv' := [(0, .ref 0), (1, .int x1), (2, .int (0)), (3, .int x3)]) (st' := [.int x1, .ref 0]) (by decide +kernel) rfl) ?_
  refine ev_go0 (ev_p_virt (M := (ev_Mof 179)) (pc := 2) (x := 156) (mi := 200) (na := 1) (by decide +kernel) (by decide +kernel) (by decide +kernel) (by decide +kernel) rfl rfl (ev_recv_of ev_fH0) (ev_k9 x1 hl_x1)) ?_
  refine ev_go0 (ev_w_astore (M := (ev_Mof 179)) (pc := 5) (k := 4) (lv' := [(4, .null), (0, .ref 0), (1, .int x1), (2, .int (0)), (3, .int x3)]) (by decide +kernel) (by decide +kernel) (Or.inr (Or.inl rfl)) rfl) ?_
  refine ev_go0 (ev_one_pure (M := (ev_Mof 179)) (pc := 7) (i := .aload_n 0) (len := 1) (pc' := 8) (lv' := [(4, .null), (0, .ref 0), (1, .int x1), (2, .int (0)), (3, .int x3)]) (st' := [.ref 0]) (by decide +kernel) rfl) ?_
  refine ev_go0 (ev_p_getf (M := (ev_Mof 179)) (pc := 8) (x := 48) (ci := 12) (f := 8) (fin := 1) (v := .ref 254) (by decide +kernel) (by decide +kernel) ev_fH0 rfl) ?_
  refine ev_go0 (ev_one_pure (M := (ev_Mof 179)) (pc := 11) (i := .iload_n 2) (len := 1) (pc' := 12) (lv' := [(4, .null), (0, .ref 0), (1, .int x1), (2, .int (0)), (3, .int x3)]) (st' := [.int (0), .ref 254]) (by decide +kernel) rfl) ?_
  refine ev_go0 (ev_p_virt (M := (ev_Mof 179)) (pc := 12) (x := 221) (mi := 1) (na := 1) (by decide +kernel) (by decide +kernel) (by decide +kernel) (by decide +kernel) rfl rfl (ev_recv_of ev_fH254) ev_k234) ?_
  refine ev_go0 (ev_w_astore (M := (ev_Mof 179)) (pc := 15) (k := 5) (lv' := [(5, .ref 263), (4, .null), (0, .ref 0), (1, .int x1), (2, .int (0)), (3, .int x3)]) (by decide +kernel) (by decide +kernel) (Or.inl ⟨_, rfl⟩) rfl) ?_
  refine ev_go0 (ev_one_pure (M := (ev_Mof 179)) (pc := 17) (i := .aload 4) (len := 2) (pc' := 19) (lv' := [(5, .ref 263), (4, .null), (0, .ref 0), (1, .int x1), (2, .int (0)), (3, .int x3)]) (st' := [.null]) (by decide +kernel) rfl) ?_
  refine ev_go0 (ev_w_ifnull (M := (ev_Mof 179)) (pc := 19) (o := 21) (t := 40) (by decide +kernel) (Or.inl ⟨rfl, rfl⟩)) ?_
  rfl
theorem ev_k254 (x1 : Int32) (hl_x1 : (0 : Int) ≤ x1.toInt) (x3 : Int32) {n : Nat} : ev_calld 12 376 [.ref 0, .int x1, .int (0), .int x3, .ref 723] ev_H0 n = some (.inl (some (.int (1))), ev_H0, n, 1, 6) := by
  refine ev_call_int (k := 9) (pcR := 18) (lv' := [(5, .retAddr 1), (0, .ref 0), (1, .int x1), (2, .int (0)), (3, .int x3), (4, .ref 723)]) (v := (1)) (ty := .int) (by decide +kernel) rfl ?_ (by decide +kernel) (by decide +kernel) (by decide +kernel) (by decide)
  show ev_stepn _ 9 (0, [(0, .ref 0), (1, .int x1), (2, .int (0)), (3, .int x3), (4, .ref 723)], [], _, _, 0, 0) = _
  refine ev_go0 (ev_one_pure (M := (ev_Mof 376)) (pc := 0) (i := .aload 4) (len := 2) (pc' := 2) (lv' := [(0, .ref 0), (1, .int x1), (2, .int (0)), (3, .int x3), (4, .ref 723)]) (st' := [.ref 723]) (by decide +kernel) rfl) ?_
  refine ev_go0 (ev_w_iconst (M := (ev_Mof 376)) (pc := 2) (k := 0) (v := 0) (by decide +kernel) (by decide +kernel)) ?_
  refine ev_go0 (ev_one_pure (M := (ev_Mof 376)) (pc := 3) (i := .aload_n 0) (len := 1) (pc' := 4) (lv' := [(0, .ref 0), (1, .int x1), (2, .int (0)), (3, .int x3), (4, .ref 723)]) (st' := [.ref 0, .int (0), .ref 723]) (by decide +kernel) rfl) ?_
  refine ev_go0 (ev_one_pure (M := (ev_Mof 376)) (pc := 4) (i := .iload_n 1) (len := 1) (pc' := 5) (lv' := [(0, .ref 0), (1, .int x1), (2, .int (0)), (3, .int x3), (4, .ref 723)]) (st' := [.int x1, .ref 0, .int (0), .ref 723]) (by decide +kernel) rfl) ?_
  refine ev_go0 (ev_one_pure (M := (ev_Mof 376)) (pc := 5) (i := .iload_n 2) (len := 1) (pc' := 6) (lv' := [(0, .ref 0), (1, .int x1), (2, .int (0)), (3, .int x3), (4, .ref 723)]) (st' := [.int (0), .int x1, .ref 0, .int (0), .ref 723]) (by decide +kernel) rfl) ?_
  refine ev_go0 (ev_one_pure (M := (ev_Mof 376)) (pc := 6) (i := .iload_n 3) (len := 1) (pc' := 7) (lv' := [(0, .ref 0), (1, .int x1), (2, .int (0)), (3, .int x3), (4, .ref 723)]) (st' := [.int x3, .int (0), .int x1, .ref 0, .int (0), .ref 723]) (by decide +kernel) rfl) ?_
  refine ev_go (ev_p_virtX (M := (ev_Mof 376)) (pc := 7) (x := 57) (t := 15) (mi := 179) (na := 3) (by decide +kernel) (by decide +kernel) (by decide +kernel) (by decide +kernel) rfl rfl (ev_recv_of ev_fH0) (ev_k253 x1 hl_x1 x3) (by decide +kernel)) ?_
  refine ev_go0 (ev_w_astore (M := (ev_Mof 376)) (pc := 15) (k := 5) (lv' := [(5, .retAddr 1), (0, .ref 0), (1, .int x1), (2, .int (0)), (3, .int x3), (4, .ref 723)]) (by decide +kernel) (by decide +kernel) (Or.inr (Or.inr ⟨_, rfl⟩)) rfl) ?_
  refine ev_go0 (ev_w_iconst (M := (ev_Mof 376)) (pc := 17) (k := 1) (v := 1) (by decide +kernel) (by decide +kernel)) ?_
  rfl
theorem ev_k255 (x1 : Int32) (hl_x1 : (0 : Int) ≤ x1.toInt) (x3 : Int32) {n : Nat} : ev_calld 12 331 [.ref 621, .int x1, .int (0), .int x3] ev_H0 n = some (.inl (some (.int (0))), (ev_H0.set 621 (.inr (13, (ev_F621.set 0 (.int (1)))))), n, 0, 0) := by
  refine ev_call_int (k := 11) (pcR := 34) (lv' := [(0, .ref 621), (1, .int x1), (2, .int (0)), (3, .int x3)]) (v := (0)) (ty := .int) (by decide +kernel) rfl ?_ (by decide +kernel) (by decide +kernel) (by decide +kernel) (by decide)
  show ev_stepn _ 11 (0, [(0, .ref 621), (1, .int x1), (2, .int (0)), (3, .int x3)], [], _, _, 0, 0) = _
  refine ev_go0 (ev_one_pure (M := (ev_Mof 331)) (pc := 0) (i := .aload_n 0) (len := 1) (pc' := 1) (lv' := [(0, .ref 621), (1, .int x1), (2, .int (0)), (3, .int x3)]) (st' := [.ref 621]) (by decide +kernel) rfl) ?_
  refine ev_go0 (ev_one_pure (M := (ev_Mof 331)) (pc := 1) (i := .aload_n 0) (len := 1) (pc' := 2) (lv' := [(0, .ref 621), (1, .int x1), (2, .int (0)), (3, .int x3)]) (st' := [.ref 621, .ref 621]) (by decide +kernel) rfl) ?_
  refine ev_go0 (ev_one_pure (M := (ev_Mof 331)) (pc := 2) (i := .iload_n 1) (len := 1) (pc' := 3) (lv' := [(0, .ref 621), (1, .int x1), (2, .int (0)), (3, .int x3)]) (st' := [.int x1, .ref 621, .ref 621]) (by decide +kernel) rfl) ?_
  refine ev_go0 (ev_p_virt (M := (ev_Mof 331)) (pc := 3) (x := 531) (mi := 273) (na := 1) (by decide +kernel) (by decide +kernel) (by decide +kernel) (by decide +kernel) rfl rfl (ev_recv_of ev_fH621) (ev_k30 x1 hl_x1)) ?_
  refine ev_go0 (ev_w_if (M := (ev_Mof 331)) (pc := 6) (q := .eq) (o := 16) (b := true) (t := 22) (by decide +kernel) (by decide +kernel) rfl) ?_
  refine ev_go0 (ev_w_iconst (M := (ev_Mof 331)) (pc := 22) (k := 1) (v := 1) (by decide +kernel) (by decide +kernel)) ?_
  refine ev_go0 (ev_p_putf (M := (ev_Mof 331)) (pc := 23) (x := 321) (ci := 13) (f := 0) (by decide +kernel) (by decide +kernel) ev_fH621 rfl (by decide +kernel)) ?_
  refine ev_go0 (ev_one_pure (M := (ev_Mof 331)) (pc := 26) (i := .aload_n 0) (len := 1) (pc' := 27) (lv' := [(0, .ref 621), (1, .int x1), (2, .int (0)), (3, .int x3)]) (st' := [.ref 621]) (by decide +kernel) rfl) ?_
  refine ev_go0 (ev_p_getf (M := (ev_Mof 331)) (pc := 27) (x := 321) (ci := 13) (f := 0) (fin := 0) (v := .int (1)) (by decide +kernel) (by decide +kernel) (ev_hself ev_fH621) rfl) ?_
  refine ev_go0 (ev_w_if (M := (ev_Mof 331)) (pc := 30) (q := .le) (o := 5) (b := false) (t := 33) (by decide +kernel) (by decide +kernel) rfl) ?_
  refine ev_go0 (ev_w_iconst (M := (ev_Mof 331)) (pc := 33) (k := 0) (v := 0) (by decide +kernel) (by decide +kernel)) ?_
  rfl
theorem ev_p1_13_p0 (xs : Nat → Int32) (x1 : Int32) (hl_x1 : (0 : Int) ≤ x1.toInt) (x3 : Int32) (e1 : xs 1 = x1) (e2 : xs 2 = (0)) (e3 : xs 3 = x3) : ev_P1 xs 1000 := by
  refine ⟨44, [(6, .int (0)), (5, .int (1)), (4, .int (0)), (3, .ref 723), (2, .ref 621), (1, .ref 0), (0, .retAddr 0)], (ev_H0.set 621 (.inr (13, (ev_F621.set 0 (.int (1)))))), 724, 725, 3553592, ?_, ⟨rfl, rfl, rfl, rfl⟩, rfl, by decide, by decide⟩
  show ev_stepn _ _ (1000, [(4, .int (0)), (3, .ref 723), (2, .ref 621), (1, .ref 0), (0, .retAddr 0)], [], _, _, _, _) = _
  refine ev_go0 (ev_one_pure (M := ev_Mlaw) (pc := 1000) (i := .aload_n 1) (len := 1) (pc' := 1001) (lv' := [(4, .int (0)), (3, .ref 723), (2, .ref 621), (1, .ref 0), (0, .retAddr 0)]) (st' := [.ref 0]) (by decide +kernel) rfl) ?_
  refine ev_go0 (ev_one_pure (M := ev_Mlaw) (pc := 1001) (i := .aload_n 0) (len := 1) (pc' := 1002) (lv' := [(4, .int (0)), (3, .ref 723), (2, .ref 621), (1, .ref 0), (0, .retAddr 0)]) (st' := [.retAddr 0, .ref 0]) (by decide +kernel) rfl) ?_
  refine ev_go0 (ev_one_pure (M := ev_Mlaw) (pc := 1002) (i := .iload 4) (len := 2) (pc' := 1004) (lv' := [(4, .int (0)), (3, .ref 723), (2, .ref 621), (1, .ref 0), (0, .retAddr 0)]) (st' := [.int (0), .retAddr 0, .ref 0]) (by decide +kernel) rfl) ?_
  refine ev_go0 (ev_w_iconst (M := ev_Mlaw) (pc := 1004) (k := 1) (v := 1) (by decide +kernel) (by decide +kernel)) ?_
  refine ev_go0 (ev_w_iadd (M := ev_Mlaw) (pc := 1005) (v := (1)) (by decide +kernel) (by decide +kernel)) ?_
  refine ev_go0 (ev_w_scr (M := ev_Mlaw) (pc := 1006) (v := x1) (j := 1) (by decide +kernel) (by decide +kernel) (by decide +kernel) e1) ?_
  refine ev_go0 (ev_one_pure (M := ev_Mlaw) (pc := 1007) (i := .aload_n 0) (len := 1) (pc' := 1008) (lv' := [(4, .int (0)), (3, .ref 723), (2, .ref 621), (1, .ref 0), (0, .retAddr 0)]) (st' := [.retAddr 0, .int x1, .ref 0]) (by decide +kernel) rfl) ?_
  refine ev_go0 (ev_one_pure (M := ev_Mlaw) (pc := 1008) (i := .iload 4) (len := 2) (pc' := 1010) (lv' := [(4, .int (0)), (3, .ref 723), (2, .ref 621), (1, .ref 0), (0, .retAddr 0)]) (st' := [.int (0), .retAddr 0, .int x1, .ref 0]) (by decide +kernel) rfl) ?_
  refine ev_go0 (ev_w_iconst (M := ev_Mlaw) (pc := 1010) (k := 2) (v := 2) (by decide +kernel) (by decide +kernel)) ?_
  refine ev_go0 (ev_w_iadd (M := ev_Mlaw) (pc := 1011) (v := (2)) (by decide +kernel) (by decide +kernel)) ?_
  refine ev_go0 (ev_w_scr (M := ev_Mlaw) (pc := 1012) (v := (0)) (j := 2) (by decide +kernel) (by decide +kernel) (by decide +kernel) e2) ?_
  refine ev_go0 (ev_one_pure (M := ev_Mlaw) (pc := 1013) (i := .aload_n 0) (len := 1) (pc' := 1014) (lv' := [(4, .int (0)), (3, .ref 723), (2, .ref 621), (1, .ref 0), (0, .retAddr 0)]) (st' := [.retAddr 0, .int (0), .int x1, .ref 0]) (by decide +kernel) rfl) ?_
  refine ev_go0 (ev_one_pure (M := ev_Mlaw) (pc := 1014) (i := .iload 4) (len := 2) (pc' := 1016) (lv' := [(4, .int (0)), (3, .ref 723), (2, .ref 621), (1, .ref 0), (0, .retAddr 0)]) (st' := [.int (0), .retAddr 0, .int (0), .int x1, .ref 0]) (by decide +kernel) rfl) ?_
  refine ev_go0 (ev_w_iconst (M := ev_Mlaw) (pc := 1016) (k := 3) (v := 3) (by decide +kernel) (by decide +kernel)) ?_
  refine ev_go0 (ev_w_iadd (M := ev_Mlaw) (pc := 1017) (v := (3)) (by decide +kernel) (by decide +kernel)) ?_
  refine ev_go0 (ev_w_scr (M := ev_Mlaw) (pc := 1018) (v := x3) (j := 3) (by decide +kernel) (by decide +kernel) (by decide +kernel) e3) ?_
  refine ev_go0 (ev_one_pure (M := ev_Mlaw) (pc := 1019) (i := .aload_n 3) (len := 1) (pc' := 1020) (lv' := [(4, .int (0)), (3, .ref 723), (2, .ref 621), (1, .ref 0), (0, .retAddr 0)]) (st' := [.ref 723, .int x3, .int (0), .int x1, .ref 0]) (by decide +kernel) rfl) ?_
  refine ev_go (ev_w_stat (M := ev_Mlaw) (pc := 1020) (y := 175) (kind := 8) (Or.inr (Or.inr rfl)) (mi := 376) (na := 5) (by decide +kernel) (by decide +kernel) (by decide +kernel) (by decide +kernel) rfl rfl (ev_k254 x1 hl_x1 x3)) ?_
  refine ev_go0 (ev_w_istore (M := ev_Mlaw) (pc := 1023) (k := 5) (lv' := [(5, .int (1)), (4, .int (0)), (3, .ref 723), (2, .ref 621), (1, .ref 0), (0, .retAddr 0)]) (by decide +kernel) (by decide +kernel) rfl) ?_
  refine ev_go0 (ev_one_pure (M := ev_Mlaw) (pc := 1025) (i := .aload_n 2) (len := 1) (pc' := 1026) (lv' := [(5, .int (1)), (4, .int (0)), (3, .ref 723), (2, .ref 621), (1, .ref 0), (0, .retAddr 0)]) (st' := [.ref 621]) (by decide +kernel) rfl) ?_
  refine ev_go0 (ev_one_pure (M := ev_Mlaw) (pc := 1026) (i := .aload_n 0) (len := 1) (pc' := 1027) (lv' := [(5, .int (1)), (4, .int (0)), (3, .ref 723), (2, .ref 621), (1, .ref 0), (0, .retAddr 0)]) (st' := [.retAddr 0, .ref 621]) (by decide +kernel) rfl) ?_
  refine ev_go0 (ev_one_pure (M := ev_Mlaw) (pc := 1027) (i := .iload 4) (len := 2) (pc' := 1029) (lv' := [(5, .int (1)), (4, .int (0)), (3, .ref 723), (2, .ref 621), (1, .ref 0), (0, .retAddr 0)]) (st' := [.int (0), .retAddr 0, .ref 621]) (by decide +kernel) rfl) ?_
  refine ev_go0 (ev_w_iconst (M := ev_Mlaw) (pc := 1029) (k := 1) (v := 1) (by decide +kernel) (by decide +kernel)) ?_
  refine ev_go0 (ev_w_iadd (M := ev_Mlaw) (pc := 1030) (v := (1)) (by decide +kernel) (by decide +kernel)) ?_
  refine ev_go0 (ev_w_scr (M := ev_Mlaw) (pc := 1031) (v := x1) (j := 1) (by decide +kernel) (by decide +kernel) (by decide +kernel) e1) ?_
  refine ev_go0 (ev_one_pure (M := ev_Mlaw) (pc := 1032) (i := .aload_n 0) (len := 1) (pc' := 1033) (lv' := [(5, .int (1)), (4, .int (0)), (3, .ref 723), (2, .ref 621), (1, .ref 0), (0, .retAddr 0)]) (st' := [.retAddr 0, .int x1, .ref 621]) (by decide +kernel) rfl) ?_
  refine ev_go0 (ev_one_pure (M := ev_Mlaw) (pc := 1033) (i := .iload 4) (len := 2) (pc' := 1035) (lv' := [(5, .int (1)), (4, .int (0)), (3, .ref 723), (2, .ref 621), (1, .ref 0), (0, .retAddr 0)]) (st' := [.int (0), .retAddr 0, .int x1, .ref 621]) (by decide +kernel) rfl) ?_
  refine ev_go0 (ev_w_iconst (M := ev_Mlaw) (pc := 1035) (k := 2) (v := 2) (by decide +kernel) (by decide +kernel)) ?_
  refine ev_go0 (ev_w_iadd (M := ev_Mlaw) (pc := 1036) (v := (2)) (by decide +kernel) (by decide +kernel)) ?_
  refine ev_go0 (ev_w_scr (M := ev_Mlaw) (pc := 1037) (v := (0)) (j := 2) (by decide +kernel) (by decide +kernel) (by decide +kernel) e2) ?_
  refine ev_go0 (ev_one_pure (M := ev_Mlaw) (pc := 1038) (i := .aload_n 0) (len := 1) (pc' := 1039) (lv' := [(5, .int (1)), (4, .int (0)), (3, .ref 723), (2, .ref 621), (1, .ref 0), (0, .retAddr 0)]) (st' := [.retAddr 0, .int (0), .int x1, .ref 621]) (by decide +kernel) rfl) ?_
  refine ev_go0 (ev_one_pure (M := ev_Mlaw) (pc := 1039) (i := .iload 4) (len := 2) (pc' := 1041) (lv' := [(5, .int (1)), (4, .int (0)), (3, .ref 723), (2, .ref 621), (1, .ref 0), (0, .retAddr 0)]) (st' := [.int (0), .retAddr 0, .int (0), .int x1, .ref 621]) (by decide +kernel) rfl) ?_
  refine ev_go0 (ev_w_iconst (M := ev_Mlaw) (pc := 1041) (k := 3) (v := 3) (by decide +kernel) (by decide +kernel)) ?_
  refine ev_go0 (ev_w_iadd (M := ev_Mlaw) (pc := 1042) (v := (3)) (by decide +kernel) (by decide +kernel)) ?_
  refine ev_go0 (ev_w_scr (M := ev_Mlaw) (pc := 1043) (v := x3) (j := 3) (by decide +kernel) (by decide +kernel) (by decide +kernel) e3) ?_
  refine ev_go0 (ev_p_virt (M := ev_Mlaw) (pc := 1044) (x := 178) (mi := 331) (na := 3) (by decide +kernel) (by decide +kernel) (by decide +kernel) (by decide +kernel) rfl rfl (ev_recv_of ev_fH621) (ev_k255 x1 hl_x1 x3)) ?_
  refine ev_go0 (ev_w_istore (M := ev_Mlaw) (pc := 1047) (k := 6) (lv' := [(6, .int (0)), (5, .int (1)), (4, .int (0)), (3, .ref 723), (2, .ref 621), (1, .ref 0), (0, .retAddr 0)]) (by decide +kernel) (by decide +kernel) rfl) ?_
  refine ev_go0 (ev_one_pure (M := ev_Mlaw) (pc := 1049) (i := .aload_n 2) (len := 1) (pc' := 1050) (lv' := [(6, .int (0)), (5, .int (1)), (4, .int (0)), (3, .ref 723), (2, .ref 621), (1, .ref 0), (0, .retAddr 0)]) (st' := [.ref 621]) (by decide +kernel) rfl) ?_
  refine ev_go0 (ev_p_virt (M := ev_Mlaw) (pc := 1050) (x := 131) (mi := 220) (na := 0) (by decide +kernel) (by decide +kernel) (by decide +kernel) (by decide +kernel) rfl rfl (ev_recv_of (ev_hself ev_fH621)) ev_k26) ?_
  refine ev_go0 (ev_one_pure (M := ev_Mlaw) (pc := 1053) (i := .iload 5) (len := 2) (pc' := 1055) (lv' := [(6, .int (0)), (5, .int (1)), (4, .int (0)), (3, .ref 723), (2, .ref 621), (1, .ref 0), (0, .retAddr 0)]) (st' := [.int (1), .int (1)]) (by decide +kernel) rfl) ?_
  refine ev_go0 (ev_w_icmp (M := ev_Mlaw) (pc := 1055) (q := .eq) (o := 5) (b := true) (t := 1060) (by decide +kernel) (by decide +kernel) rfl) ?_
  refine ev_go0 (ev_one_pure (M := ev_Mlaw) (pc := 1060) (i := .iload 5) (len := 2) (pc' := 1062) (lv' := [(6, .int (0)), (5, .int (1)), (4, .int (0)), (3, .ref 723), (2, .ref 621), (1, .ref 0), (0, .retAddr 0)]) (st' := [.int (1)]) (by decide +kernel) rfl) ?_
  refine ev_go0 (ev_w_if (M := ev_Mlaw) (pc := 1062) (q := .ne) (o := 15) (b := true) (t := 1077) (by decide +kernel) (by decide +kernel) rfl) ?_
  refine ev_go0 (ev_one_pure (M := ev_Mlaw) (pc := 1077) (i := .goto 1195) (len := 3) (pc' := 2272) (lv' := [(6, .int (0)), (5, .int (1)), (4, .int (0)), (3, .ref 723), (2, .ref 621), (1, .ref 0), (0, .retAddr 0)]) (st' := []) (by decide +kernel) rfl) ?_
  rfl
theorem ev_k256 (x1 : Int32) (hl_x1 : (0 : Int) ≤ x1.toInt) (x3 : Int32) {n : Nat} : ev_calld 11 179 [.ref 0, .int x1, .int (1), .int x3] ev_H0 n = some (.inr "java/lang/IndexOutOfBoundsException", ev_H0, n, 1, 6) := by
  refine ev_call_thrown (k := 11) (pcR := 40) (x := 160) (lv' := [(5, .ref 265), (4, .null), (0, .ref 0), (1, .int x1), (2, .int (1)), (3, .int x3)]) (by decide +kernel) rfl ?_ (by decide +kernel) (by decide +kernel) (by decide +kernel) (by decide) (by decide)
  show ev_stepn _ 11 (0, [(0, .ref 0), (1, .int x1), (2, .int (1)), (3, .int x3)], [], _, _, 0, 0) = _
  refine ev_go0 (ev_one_pure (M := (ev_Mof 179)) (pc := 0) (i := .aload_n 0) (len := 1) (pc' := 1) (lv' := [(0, .ref 0), (1, .int x1), (2, .int (1)), (3, .int x3)]) (st' := [.ref 0]) (by decide +kernel) rfl) ?_
  refine ev_go0 (ev_one_pure (M := (ev_Mof 179)) (pc := 1) (i := .iload_n 1) (len := 1) (pc' := 2) (lv' := [(0, .ref 0), (1, .int x1), (2, .int (1)), (3, .int x3)]) (st' := [.int x1, .ref 0]) (by decide +kernel) rfl) ?_
  refine ev_go0 (ev_p_virt (M := (ev_Mof 179)) (pc := 2) (x := 156) (mi := 200) (na := 1) (by decide +kernel) (by decide +kernel) (by decide +kernel) (by decide +kernel) rfl rfl (ev_recv_of ev_fH0) (ev_k9 x1 hl_x1)) ?_
  refine ev_go0 (ev_w_astore (M := (ev_Mof 179)) (pc := 5) (k := 4) (lv' := [(4, .null), (0, .ref 0), (1, .int x1), (2, .int (1)), (3, .int x3)]) (by decide +kernel) (by decide +kernel) (Or.inr (Or.inl rfl)) rfl) ?_
  refine ev_go0 (ev_one_pure (M := (ev_Mof 179)) (pc := 7) (i := .aload_n 0) (len := 1) (pc' := 8) (lv' := [(4, .null), (0, .ref 0), (1, .int x1), (2, .int (1)), (3, .int x3)]) (st' := [.ref 0]) (by decide +kernel) rfl) ?_
  refine ev_go0 (ev_p_getf (M := (ev_Mof 179)) (pc := 8) (x := 48) (ci := 12) (f := 8) (fin := 1) (v := .ref 254) (by decide +kernel) (by decide +kernel) ev_fH0 rfl) ?_
  refine ev_go0 (ev_one_pure (M := (ev_Mof 179)) (pc := 11) (i := .iload_n 2) (len := 1) (pc' := 12) (lv' := [(4, .null), (0, .ref 0), (1, .int x1), (2, .int (1)), (3, .int x3)]) (st' := [.int (1), .ref 254]) (by decide +kernel) rfl) ?_
  refine ev_go0 (ev_p_virt (M := (ev_Mof 179)) (pc := 12) (x := 221) (mi := 1) (na := 1) (by decide +kernel) (by decide +kernel) (by decide +kernel) (by decide +kernel) rfl rfl (ev_recv_of ev_fH254) ev_k238) ?_
  refine ev_go0 (ev_w_astore (M := (ev_Mof 179)) (pc := 15) (k := 5) (lv' := [(5, .ref 265), (4, .null), (0, .ref 0), (1, .int x1), (2, .int (1)), (3, .int x3)]) (by decide +kernel) (by decide +kernel) (Or.inl ⟨_, rfl⟩) rfl) ?_
  refine ev_go0 (ev_one_pure (M := (ev_Mof 179)) (pc := 17) (i := .aload 4) (len := 2) (pc' := 19) (lv' := [(5, .ref 265), (4, .null), (0, .ref 0), (1, .int x1), (2, .int (1)), (3, .int x3)]) (st' := [.null]) (by decide +kernel) rfl) ?_
  refine ev_go0 (ev_w_ifnull (M := (ev_Mof 179)) (pc := 19) (o := 21) (t := 40) (by decide +kernel) (Or.inl ⟨rfl, rfl⟩)) ?_
  rfl
theorem ev_k257 (x1 : Int32) (hl_x1 : (0 : Int) ≤ x1.toInt) (x3 : Int32) {n : Nat} : ev_calld 12 376 [.ref 0, .int x1, .int (1), .int x3, .ref 723] ev_H0 n = some (.inl (some (.int (1))), ev_H0, n, 1, 6) := by
  refine ev_call_int (k := 9) (pcR := 18) (lv' := [(5, .retAddr 1), (0, .ref 0), (1, .int x1), (2, .int (1)), (3, .int x3), (4, .ref 723)]) (v := (1)) (ty := .int) (by decide +kernel) rfl ?_ (by decide +kernel) (by decide +kernel) (by decide +kernel) (by decide)
  show ev_stepn _ 9 (0, [(0, .ref 0), (1, .int x1), (2, .int (1)), (3, .int x3), (4, .ref 723)], [], _, _, 0, 0) = _
  refine ev_go0 (ev_one_pure (M := (ev_Mof 376)) (pc := 0) (i := .aload 4) (len := 2) (pc' := 2) (lv' := [(0, .ref 0), (1, .int x1), (2, .int (1)), (3, .int x3), (4, .ref 723)]) (st' := [.ref 723]) (by decide +kernel) rfl) ?_
  refine ev_go0 (ev_w_iconst (M := (ev_Mof 376)) (pc := 2) (k := 0) (v := 0) (by decide +kernel) (by decide +kernel)) ?_
  refine ev_go0 (ev_one_pure (M := (ev_Mof 376)) (pc := 3) (i := .aload_n 0) (len := 1) (pc' := 4) (lv' := [(0, .ref 0), (1, .int x1), (2, .int (1)), (3, .int x3), (4, .ref 723)]) (st' := [.ref 0, .int (0), .ref 723]) (by decide +kernel) rfl) ?_
  refine ev_go0 (ev_one_pure (M := (ev_Mof 376)) (pc := 4) (i := .iload_n 1) (len := 1) (pc' := 5) (lv' := [(0, .ref 0), (1, .int x1), (2, .int (1)), (3, .int x3), (4, .ref 723)]) (st' := [.int x1, .ref 0, .int (0), .ref 723]) (by decide +kernel) rfl) ?_
  refine ev_go0 (ev_one_pure (M := (ev_Mof 376)) (pc := 5) (i := .iload_n 2) (len := 1) (pc' := 6) (lv' := [(0, .ref 0), (1, .int x1), (2, .int (1)), (3, .int x3), (4, .ref 723)]) (st' := [.int (1), .int x1, .ref 0, .int (0), .ref 723]) (by decide +kernel) rfl) ?_
  refine ev_go0 (ev_one_pure (M := (ev_Mof 376)) (pc := 6) (i := .iload_n 3) (len := 1) (pc' := 7) (lv' := [(0, .ref 0), (1, .int x1), (2, .int (1)), (3, .int x3), (4, .ref 723)]) (st' := [.int x3, .int (1), .int x1, .ref 0, .int (0), .ref 723]) (by decide +kernel) rfl) ?_
  refine ev_go (ev_p_virtX (M := (ev_Mof 376)) (pc := 7) (x := 57) (t := 15) (mi := 179) (na := 3) (by decide +kernel) (by decide +kernel) (by decide +kernel) (by decide +kernel) rfl rfl (ev_recv_of ev_fH0) (ev_k256 x1 hl_x1 x3) (by decide +kernel)) ?_
  refine ev_go0 (ev_w_astore (M := (ev_Mof 376)) (pc := 15) (k := 5) (lv' := [(5, .retAddr 1), (0, .ref 0), (1, .int x1), (2, .int (1)), (3, .int x3), (4, .ref 723)]) (by decide +kernel) (by decide +kernel) (Or.inr (Or.inr ⟨_, rfl⟩)) rfl) ?_
  refine ev_go0 (ev_w_iconst (M := (ev_Mof 376)) (pc := 17) (k := 1) (v := 1) (by decide +kernel) (by decide +kernel)) ?_
  rfl
theorem ev_k258 (x1 : Int32) (hl_x1 : (0 : Int) ≤ x1.toInt) (x3 : Int32) {n : Nat} : ev_calld 12 331 [.ref 621, .int x1, .int (1), .int x3] ev_H0 n = some (.inl (some (.int (0))), (ev_H0.set 621 (.inr (13, (ev_F621.set 0 (.int (1)))))), n, 0, 0) := by
  refine ev_call_int (k := 11) (pcR := 34) (lv' := [(0, .ref 621), (1, .int x1), (2, .int (1)), (3, .int x3)]) (v := (0)) (ty := .int) (by decide +kernel) rfl ?_ (by decide +kernel) (by decide +kernel) (by decide +kernel) (by decide)
  show ev_stepn _ 11 (0, [(0, .ref 621), (1, .int x1), (2, .int (1)), (3, .int x3)], [], _, _, 0, 0) = _
  refine ev_go0 (ev_one_pure (M := (ev_Mof 331)) (pc := 0) (i := .aload_n 0) (len := 1) (pc' := 1) (lv' := [(0, .ref 621), (1, .int x1), (2, .int (1)), (3, .int x3)]) (st' := [.ref 621]) (by decide +kernel) rfl) ?_
  refine ev_go0 (ev_one_pure (M := (ev_Mof 331)) (pc := 1) (i := .aload_n 0) (len := 1) (pc' := 2) (lv' := [(0, .ref 621), (1, .int x1), (2, .int (1)), (3, .int x3)]) (st' := [.ref 621, .ref 621]) (by decide +kernel) rfl) ?_
  refine ev_go0 (ev_one_pure (M := (ev_Mof 331)) (pc := 2) (i := .iload_n 1) (len := 1) (pc' := 3) (lv' := [(0, .ref 621), (1, .int x1), (2, .int (1)), (3, .int x3)]) (st' := [.int x1, .ref 621, .ref 621]) (by decide +kernel) rfl) ?_
  refine ev_go0 (ev_p_virt (M := (ev_Mof 331)) (pc := 3) (x := 531) (mi := 273) (na := 1) (by decide +kernel) (by decide +kernel) (by decide +kernel) (by decide +kernel) rfl rfl (ev_recv_of ev_fH621) (ev_k30 x1 hl_x1)) ?_
  refine ev_go0 (ev_w_if (M := (ev_Mof 331)) (pc := 6) (q := .eq) (o := 16) (b := true) (t := 22) (by decide +kernel) (by decide +kernel) rfl) ?_
  refine ev_go0 (ev_w_iconst (M := (ev_Mof 331)) (pc := 22) (k := 1) (v := 1) (by decide +kernel) (by decide +kernel)) ?_
  refine ev_go0 (ev_p_putf (M := (ev_Mof 331)) (pc := 23) (x := 321) (ci := 13) (f := 0) (by decide +kernel) (by decide +kernel) ev_fH621 rfl (by decide +kernel)) ?_
  refine ev_go0 (ev_one_pure (M := (ev_Mof 331)) (pc := 26) (i := .aload_n 0) (len := 1) (pc' := 27) (lv' := [(0, .ref 621), (1, .int x1), (2, .int (1)), (3, .int x3)]) (st' := [.ref 621]) (by decide +kernel) rfl) ?_
  refine ev_go0 (ev_p_getf (M := (ev_Mof 331)) (pc := 27) (x := 321) (ci := 13) (f := 0) (fin := 0) (v := .int (1)) (by decide +kernel) (by decide +kernel) (ev_hself ev_fH621) rfl) ?_
  refine ev_go0 (ev_w_if (M := (ev_Mof 331)) (pc := 30) (q := .le) (o := 5) (b := false) (t := 33) (by decide +kernel) (by decide +kernel) rfl) ?_
  refine ev_go0 (ev_w_iconst (M := (ev_Mof 331)) (pc := 33) (k := 0) (v := 0) (by decide +kernel) (by decide +kernel)) ?_
  rfl
theorem ev_p1_13_p1 (xs : Nat → Int32) (x1 : Int32) (hl_x1 : (0 : Int) ≤ x1.toInt) (x3 : Int32) (e1 : xs 1 = x1) (e2 : xs 2 = (1)) (e3 : xs 3 = x3) : ev_P1 xs 1000 := by
  refine ⟨44, [(6, .int (0)), (5, .int (1)), (4, .int (0)), (3, .ref 723), (2, .ref 621), (1, .ref 0), (0, .retAddr 0)], (ev_H0.set 621 (.inr (13, (ev_F621.set 0 (.int (1)))))), 724, 725, 3553592, ?_, ⟨rfl, rfl, rfl, rfl⟩, rfl, by decide, by decide⟩
  show ev_stepn _ _ (1000, [(4, .int (0)), (3, .ref 723), (2, .ref 621), (1, .ref 0), (0, .retAddr 0)], [], _, _, _, _) = _
  refine ev_go0 (ev_one_pure (M := ev_Mlaw) (pc := 1000) (i := .aload_n 1) (len := 1) (pc' := 1001) (lv' := [(4, .int (0)), (3, .ref 723), (2, .ref 621), (1, .ref 0), (0, .retAddr 0)]) (st' := [.ref 0]) (by decide +kernel) rfl) ?_
  refine ev_go0 (ev_one_pure (M := ev_Mlaw) (pc := 1001) (i := .aload_n 0) (len := 1) (pc' := 1002) (lv' := [(4, .int (0)), (3, .ref 723), (2, .ref 621), (1, .ref 0), (0, .retAddr 0)]) (st' := [.retAddr 0, .ref 0]) (by decide +kernel) rfl) ?_
  refine ev_go0 (ev_one_pure (M := ev_Mlaw) (pc := 1002) (i := .iload 4) (len := 2) (pc' := 1004) (lv' := [(4, .int (0)), (3, .ref 723), (2, .ref 621), (1, .ref 0), (0, .retAddr 0)]) (st' := [.int (0), .retAddr 0, .ref 0]) (by decide +kernel) rfl) ?_
  refine ev_go0 (ev_w_iconst (M := ev_Mlaw) (pc := 1004) (k := 1) (v := 1) (by decide +kernel) (by decide +kernel)) ?_
  refine ev_go0 (ev_w_iadd (M := ev_Mlaw) (pc := 1005) (v := (1)) (by decide +kernel) (by decide +kernel)) ?_
  refine ev_go0 (ev_w_scr (M := ev_Mlaw) (pc := 1006) (v := x1) (j := 1) (by decide +kernel) (by decide +kernel) (by decide +kernel) e1) ?_
  refine ev_go0 (ev_one_pure (M := ev_Mlaw) (pc := 1007) (i := .aload_n 0) (len := 1) (pc' := 1008) (lv' := [(4, .int (0)), (3, .ref 723), (2, .ref 621), (1, .ref 0), (0, .retAddr 0)]) (st' := [.retAddr 0, .int x1, .ref 0]) (by decide +kernel) rfl) ?_
  refine ev_go0 (ev_one_pure (M := ev_Mlaw) (pc := 1008) (i := .iload 4) (len := 2) (pc' := 1010) (lv' := [(4, .int (0)), (3, .ref 723), (2, .ref 621), (1, .ref 0), (0, .retAddr 0)]) (st' := [.int (0), .retAddr 0, .int x1, .ref 0]) (by decide +kernel) rfl) ?_
  refine ev_go0 (ev_w_iconst (M := ev_Mlaw) (pc := 1010) (k := 2) (v := 2) (by decide +kernel) (by decide +kernel)) ?_
  refine ev_go0 (ev_w_iadd (M := ev_Mlaw) (pc := 1011) (v := (2)) (by decide +kernel) (by decide +kernel)) ?_
  refine ev_go0 (ev_w_scr (M := ev_Mlaw) (pc := 1012) (v := (1)) (j := 2) (by decide +kernel) (by decide +kernel) (by decide +kernel) e2) ?_
  refine ev_go0 (ev_one_pure (M := ev_Mlaw) (pc := 1013) (i := .aload_n 0) (len := 1) (pc' := 1014) (lv' := [(4, .int (0)), (3, .ref 723), (2, .ref 621), (1, .ref 0), (0, .retAddr 0)]) (st' := [.retAddr 0, .int (1), .int x1, .ref 0]) (by decide +kernel) rfl) ?_
  refine ev_go0 (ev_one_pure (M := ev_Mlaw) (pc := 1014) (i := .iload 4) (len := 2) (pc' := 1016) (lv' := [(4, .int (0)), (3, .ref 723), (2, .ref 621), (1, .ref 0), (0, .retAddr 0)]) (st' := [.int (0), .retAddr 0, .int (1), .int x1, .ref 0]) (by decide +kernel) rfl) ?_
  refine ev_go0 (ev_w_iconst (M := ev_Mlaw) (pc := 1016) (k := 3) (v := 3) (by decide +kernel) (by decide +kernel)) ?_
  refine ev_go0 (ev_w_iadd (M := ev_Mlaw) (pc := 1017) (v := (3)) (by decide +kernel) (by decide +kernel)) ?_
  refine ev_go0 (ev_w_scr (M := ev_Mlaw) (pc := 1018) (v := x3) (j := 3) (by decide +kernel) (by decide +kernel) (by decide +kernel) e3) ?_
  refine ev_go0 (ev_one_pure (M := ev_Mlaw) (pc := 1019) (i := .aload_n 3) (len := 1) (pc' := 1020) (lv' := [(4, .int (0)), (3, .ref 723), (2, .ref 621), (1, .ref 0), (0, .retAddr 0)]) (st' := [.ref 723, .int x3, .int (1), .int x1, .ref 0]) (by decide +kernel) rfl) ?_
  refine ev_go (ev_w_stat (M := ev_Mlaw) (pc := 1020) (y := 175) (kind := 8) (Or.inr (Or.inr rfl)) (mi := 376) (na := 5) (by decide +kernel) (by decide +kernel) (by decide +kernel) (by decide +kernel) rfl rfl (ev_k257 x1 hl_x1 x3)) ?_
  refine ev_go0 (ev_w_istore (M := ev_Mlaw) (pc := 1023) (k := 5) (lv' := [(5, .int (1)), (4, .int (0)), (3, .ref 723), (2, .ref 621), (1, .ref 0), (0, .retAddr 0)]) (by decide +kernel) (by decide +kernel) rfl) ?_
  refine ev_go0 (ev_one_pure (M := ev_Mlaw) (pc := 1025) (i := .aload_n 2) (len := 1) (pc' := 1026) (lv' := [(5, .int (1)), (4, .int (0)), (3, .ref 723), (2, .ref 621), (1, .ref 0), (0, .retAddr 0)]) (st' := [.ref 621]) (by decide +kernel) rfl) ?_
  refine ev_go0 (ev_one_pure (M := ev_Mlaw) (pc := 1026) (i := .aload_n 0) (len := 1) (pc' := 1027) (lv' := [(5, .int (1)), (4, .int (0)), (3, .ref 723), (2, .ref 621), (1, .ref 0), (0, .retAddr 0)]) (st' := [.retAddr 0, .ref 621]) (by decide +kernel) rfl) ?_
  refine ev_go0 (ev_one_pure (M := ev_Mlaw) (pc := 1027) (i := .iload 4) (len := 2) (pc' := 1029) (lv' := [(5, .int (1)), (4, .int (0)), (3, .ref 723), (2, .ref 621), (1, .ref 0), (0, .retAddr 0)]) (st' := [.int (0), .retAddr 0, .ref 621]) (by decide +kernel) rfl) ?_
  refine ev_go0 (ev_w_iconst (M := ev_Mlaw) (pc := 1029) (k := 1) (v := 1) (by decide +kernel) (by decide +kernel)) ?_
  refine ev_go0 (ev_w_iadd (M := ev_Mlaw) (pc := 1030) (v := (1)) (by decide +kernel) (by decide +kernel)) ?_
  refine ev_go0 (ev_w_scr (M := ev_Mlaw) (pc := 1031) (v := x1) (j := 1) (by decide +kernel) (by decide +kernel) (by decide +kernel) e1) ?_
  refine ev_go0 (ev_one_pure (M := ev_Mlaw) (pc := 1032) (i := .aload_n 0) (len := 1) (pc' := 1033) (lv' := [(5, .int (1)), (4, .int (0)), (3, .ref 723), (2, .ref 621), (1, .ref 0), (0, .retAddr 0)]) (st' := [.retAddr 0, .int x1, .ref 621]) (by decide +kernel) rfl) ?_
  refine ev_go0 (ev_one_pure (M := ev_Mlaw) (pc := 1033) (i := .iload 4) (len := 2) (pc' := 1035) (lv' := [(5, .int (1)), (4, .int (0)), (3, .ref 723), (2, .ref 621), (1, .ref 0), (0, .retAddr 0)]) (st' := [.int (0), .retAddr 0, .int x1, .ref 621]) (by decide +kernel) rfl) ?_
  refine ev_go0 (ev_w_iconst (M := ev_Mlaw) (pc := 1035) (k := 2) (v := 2) (by decide +kernel) (by decide +kernel)) ?_
  refine ev_go0 (ev_w_iadd (M := ev_Mlaw) (pc := 1036) (v := (2)) (by decide +kernel) (by decide +kernel)) ?_
  refine ev_go0 (ev_w_scr (M := ev_Mlaw) (pc := 1037) (v := (1)) (j := 2) (by decide +kernel) (by decide +kernel) (by decide +kernel) e2) ?_
  refine ev_go0 (ev_one_pure (M := ev_Mlaw) (pc := 1038) (i := .aload_n 0) (len := 1) (pc' := 1039) (lv' := [(5, .int (1)), (4, .int (0)), (3, .ref 723), (2, .ref 621), (1, .ref 0), (0, .retAddr 0)]) (st' := [.retAddr 0, .int (1), .int x1, .ref 621]) (by decide +kernel) rfl) ?_
  refine ev_go0 (ev_one_pure (M := ev_Mlaw) (pc := 1039) (i := .iload 4) (len := 2) (pc' := 1041) (lv' := [(5, .int (1)), (4, .int (0)), (3, .ref 723), (2, .ref 621), (1, .ref 0), (0, .retAddr 0)]) (st' := [.int (0), .retAddr 0, .int (1), .int x1, .ref 621]) (by decide +kernel) rfl) ?_
  refine ev_go0 (ev_w_iconst (M := ev_Mlaw) (pc := 1041) (k := 3) (v := 3) (by decide +kernel) (by decide +kernel)) ?_
  refine ev_go0 (ev_w_iadd (M := ev_Mlaw) (pc := 1042) (v := (3)) (by decide +kernel) (by decide +kernel)) ?_
  refine ev_go0 (ev_w_scr (M := ev_Mlaw) (pc := 1043) (v := x3) (j := 3) (by decide +kernel) (by decide +kernel) (by decide +kernel) e3) ?_
  refine ev_go0 (ev_p_virt (M := ev_Mlaw) (pc := 1044) (x := 178) (mi := 331) (na := 3) (by decide +kernel) (by decide +kernel) (by decide +kernel) (by decide +kernel) rfl rfl (ev_recv_of ev_fH621) (ev_k258 x1 hl_x1 x3)) ?_
  refine ev_go0 (ev_w_istore (M := ev_Mlaw) (pc := 1047) (k := 6) (lv' := [(6, .int (0)), (5, .int (1)), (4, .int (0)), (3, .ref 723), (2, .ref 621), (1, .ref 0), (0, .retAddr 0)]) (by decide +kernel) (by decide +kernel) rfl) ?_
  refine ev_go0 (ev_one_pure (M := ev_Mlaw) (pc := 1049) (i := .aload_n 2) (len := 1) (pc' := 1050) (lv' := [(6, .int (0)), (5, .int (1)), (4, .int (0)), (3, .ref 723), (2, .ref 621), (1, .ref 0), (0, .retAddr 0)]) (st' := [.ref 621]) (by decide +kernel) rfl) ?_
  refine ev_go0 (ev_p_virt (M := ev_Mlaw) (pc := 1050) (x := 131) (mi := 220) (na := 0) (by decide +kernel) (by decide +kernel) (by decide +kernel) (by decide +kernel) rfl rfl (ev_recv_of (ev_hself ev_fH621)) ev_k26) ?_
  refine ev_go0 (ev_one_pure (M := ev_Mlaw) (pc := 1053) (i := .iload 5) (len := 2) (pc' := 1055) (lv' := [(6, .int (0)), (5, .int (1)), (4, .int (0)), (3, .ref 723), (2, .ref 621), (1, .ref 0), (0, .retAddr 0)]) (st' := [.int (1), .int (1)]) (by decide +kernel) rfl) ?_
  refine ev_go0 (ev_w_icmp (M := ev_Mlaw) (pc := 1055) (q := .eq) (o := 5) (b := true) (t := 1060) (by decide +kernel) (by decide +kernel) rfl) ?_
  refine ev_go0 (ev_one_pure (M := ev_Mlaw) (pc := 1060) (i := .iload 5) (len := 2) (pc' := 1062) (lv' := [(6, .int (0)), (5, .int (1)), (4, .int (0)), (3, .ref 723), (2, .ref 621), (1, .ref 0), (0, .retAddr 0)]) (st' := [.int (1)]) (by decide +kernel) rfl) ?_
  refine ev_go0 (ev_w_if (M := ev_Mlaw) (pc := 1062) (q := .ne) (o := 15) (b := true) (t := 1077) (by decide +kernel) (by decide +kernel) rfl) ?_
  refine ev_go0 (ev_one_pure (M := ev_Mlaw) (pc := 1077) (i := .goto 1195) (len := 3) (pc' := 2272) (lv' := [(6, .int (0)), (5, .int (1)), (4, .int (0)), (3, .ref 723), (2, .ref 621), (1, .ref 0), (0, .retAddr 0)]) (st' := []) (by decide +kernel) rfl) ?_
  rfl
theorem ev_k259 (x1 : Int32) (hl_x1 : (0 : Int) ≤ x1.toInt) (x3 : Int32) {n : Nat} : ev_calld 11 179 [.ref 0, .int x1, .int (2), .int x3] ev_H0 n = some (.inr "java/lang/IndexOutOfBoundsException", ev_H0, n, 1, 6) := by
  refine ev_call_thrown (k := 11) (pcR := 40) (x := 160) (lv' := [(5, .ref 267), (4, .null), (0, .ref 0), (1, .int x1), (2, .int (2)), (3, .int x3)]) (by decide +kernel) rfl ?_ (by decide +kernel) (by decide +kernel) (by decide +kernel) (by decide) (by decide)
  show ev_stepn _ 11 (0, [(0, .ref 0), (1, .int x1), (2, .int (2)), (3, .int x3)], [], _, _, 0, 0) = _
  refine ev_go0 (ev_one_pure (M := (ev_Mof 179)) (pc := 0) (i := .aload_n 0) (len := 1) (pc' := 1) (lv' := [(0, .ref 0), (1, .int x1), (2, .int (2)), (3, .int x3)]) (st' := [.ref 0]) (by decide +kernel) rfl) ?_
  refine ev_go0 (ev_one_pure (M := (ev_Mof 179)) (pc := 1) (i := .iload_n 1) (len := 1) (pc' := 2) (lv' := [(0, .ref 0), (1, .int x1), (2, .int (2)), (3, .int x3)]) (st' := [.int x1, .ref 0]) (by decide +kernel) rfl) ?_
  refine ev_go0 (ev_p_virt (M := (ev_Mof 179)) (pc := 2) (x := 156) (mi := 200) (na := 1) (by decide +kernel) (by decide +kernel) (by decide +kernel) (by decide +kernel) rfl rfl (ev_recv_of ev_fH0) (ev_k9 x1 hl_x1)) ?_
  refine ev_go0 (ev_w_astore (M := (ev_Mof 179)) (pc := 5) (k := 4) (lv' := [(4, .null), (0, .ref 0), (1, .int x1), (2, .int (2)), (3, .int x3)]) (by decide +kernel) (by decide +kernel) (Or.inr (Or.inl rfl)) rfl) ?_
  refine ev_go0 (ev_one_pure (M := (ev_Mof 179)) (pc := 7) (i := .aload_n 0) (len := 1) (pc' := 8) (lv' := [(4, .null), (0, .ref 0), (1, .int x1), (2, .int (2)), (3, .int x3)]) (st' := [.ref 0]) (by decide +kernel) rfl) ?_
  refine ev_go0 (ev_p_getf (M := (ev_Mof 179)) (pc := 8) (x := 48) (ci := 12) (f := 8) (fin := 1) (v := .ref 254) (by decide +kernel) (by decide +kernel) ev_fH0 rfl) ?_
  refine ev_go0 (ev_one_pure (M := (ev_Mof 179)) (pc := 11) (i := .iload_n 2) (len := 1) (pc' := 12) (lv' := [(4, .null), (0, .ref 0), (1, .int x1), (2, .int (2)), (3, .int x3)]) (st' := [.int (2), .ref 254]) (by decide +kernel) rfl) ?_
  refine ev_go0 (ev_p_virt (M := (ev_Mof 179)) (pc := 12) (x := 221) (mi := 1) (na := 1) (by decide +kernel) (by decide +kernel) (by decide +kernel) (by decide +kernel) rfl rfl (ev_recv_of ev_fH254) ev_k242) ?_
  refine ev_go0 (ev_w_astore (M := (ev_Mof 179)) (pc := 15) (k := 5) (lv' := [(5, .ref 267), (4, .null), (0, .ref 0), (1, .int x1), (2, .int (2)), (3, .int x3)]) (by decide +kernel) (by decide +kernel) (Or.inl ⟨_, rfl⟩) rfl) ?_
  refine ev_go0 (ev_one_pure (M := (ev_Mof 179)) (pc := 17) (i := .aload 4) (len := 2) (pc' := 19) (lv' := [(5, .ref 267), (4, .null), (0, .ref 0), (1, .int x1), (2, .int (2)), (3, .int x3)]) (st' := [.null]) (by decide +kernel) rfl) ?_
  refine ev_go0 (ev_w_ifnull (M := (ev_Mof 179)) (pc := 19) (o := 21) (t := 40) (by decide +kernel) (Or.inl ⟨rfl, rfl⟩)) ?_
  rfl
theorem ev_k260 (x1 : Int32) (hl_x1 : (0 : Int) ≤ x1.toInt) (x3 : Int32) {n : Nat} : ev_calld 12 376 [.ref 0, .int x1, .int (2), .int x3, .ref 723] ev_H0 n = some (.inl (some (.int (1))), ev_H0, n, 1, 6) := by
  refine ev_call_int (k := 9) (pcR := 18) (lv' := [(5, .retAddr 1), (0, .ref 0), (1, .int x1), (2, .int (2)), (3, .int x3), (4, .ref 723)]) (v := (1)) (ty := .int) (by decide +kernel) rfl ?_ (by decide +kernel) (by decide +kernel) (by decide +kernel) (by decide)
  show ev_stepn _ 9 (0, [(0, .ref 0), (1, .int x1), (2, .int (2)), (3, .int x3), (4, .ref 723)], [], _, _, 0, 0) = _
  refine ev_go0 (ev_one_pure (M := (ev_Mof 376)) (pc := 0) (i := .aload 4) (len := 2) (pc' := 2) (lv' := [(0, .ref 0), (1, .int x1), (2, .int (2)), (3, .int x3), (4, .ref 723)]) (st' := [.ref 723]) (by decide +kernel) rfl) ?_
  refine ev_go0 (ev_w_iconst (M := (ev_Mof 376)) (pc := 2) (k := 0) (v := 0) (by decide +kernel) (by decide +kernel)) ?_
  refine ev_go0 (ev_one_pure (M := (ev_Mof 376)) (pc := 3) (i := .aload_n 0) (len := 1) (pc' := 4) (lv' := [(0, .ref 0), (1, .int x1), (2, .int (2)), (3, .int x3), (4, .ref 723)]) (st' := [.ref 0, .int (0), .ref 723]) (by decide +kernel) rfl) ?_
  refine ev_go0 (ev_one_pure (M := (ev_Mof 376)) (pc := 4) (i := .iload_n 1) (len := 1) (pc' := 5) (lv' := [(0, .ref 0), (1, .int x1), (2, .int (2)), (3, .int x3), (4, .ref 723)]) (st' := [.int x1, .ref 0, .int (0), .ref 723]) (by decide +kernel) rfl) ?_
  refine ev_go0 (ev_one_pure (M := (ev_Mof 376)) (pc := 5) (i := .iload_n 2) (len := 1) (pc' := 6) (lv' := [(0, .ref 0), (1, .int x1), (2, .int (2)), (3, .int x3), (4, .ref 723)]) (st' := [.int (2), .int x1, .ref 0, .int (0), .ref 723]) (by decide +kernel) rfl) ?_
  refine ev_go0 (ev_one_pure (M := (ev_Mof 376)) (pc := 6) (i := .iload_n 3) (len := 1) (pc' := 7) (lv' := [(0, .ref 0), (1, .int x1), (2, .int (2)), (3, .int x3), (4, .ref 723)]) (st' := [.int x3, .int (2), .int x1, .ref 0, .int (0), .ref 723]) (by decide +kernel) rfl) ?_
  refine ev_go (ev_p_virtX (M := (ev_Mof 376)) (pc := 7) (x := 57) (t := 15) (mi := 179) (na := 3) (by decide +kernel) (by decide +kernel) (by decide +kernel) (by decide +kernel) rfl rfl (ev_recv_of ev_fH0) (ev_k259 x1 hl_x1 x3) (by decide +kernel)) ?_
  refine ev_go0 (ev_w_astore (M := (ev_Mof 376)) (pc := 15) (k := 5) (lv' := [(5, .retAddr 1), (0, .ref 0), (1, .int x1), (2, .int (2)), (3, .int x3), (4, .ref 723)]) (by decide +kernel) (by decide +kernel) (Or.inr (Or.inr ⟨_, rfl⟩)) rfl) ?_
  refine ev_go0 (ev_w_iconst (M := (ev_Mof 376)) (pc := 17) (k := 1) (v := 1) (by decide +kernel) (by decide +kernel)) ?_
  rfl
theorem ev_k261 (x1 : Int32) (hl_x1 : (0 : Int) ≤ x1.toInt) (x3 : Int32) {n : Nat} : ev_calld 12 331 [.ref 621, .int x1, .int (2), .int x3] ev_H0 n = some (.inl (some (.int (0))), (ev_H0.set 621 (.inr (13, (ev_F621.set 0 (.int (1)))))), n, 0, 0) := by
  refine ev_call_int (k := 11) (pcR := 34) (lv' := [(0, .ref 621), (1, .int x1), (2, .int (2)), (3, .int x3)]) (v := (0)) (ty := .int) (by decide +kernel) rfl ?_ (by decide +kernel) (by decide +kernel) (by decide +kernel) (by decide)
  show ev_stepn _ 11 (0, [(0, .ref 621), (1, .int x1), (2, .int (2)), (3, .int x3)], [], _, _, 0, 0) = _
  refine ev_go0 (ev_one_pure (M := (ev_Mof 331)) (pc := 0) (i := .aload_n 0) (len := 1) (pc' := 1) (lv' := [(0, .ref 621), (1, .int x1), (2, .int (2)), (3, .int x3)]) (st' := [.ref 621]) (by decide +kernel) rfl) ?_
  refine ev_go0 (ev_one_pure (M := (ev_Mof 331)) (pc := 1) (i := .aload_n 0) (len := 1) (pc' := 2) (lv' := [(0, .ref 621), (1, .int x1), (2, .int (2)), (3, .int x3)]) (st' := [.ref 621, .ref 621]) (by decide +kernel) rfl) ?_
  refine ev_go0 (ev_one_pure (M := (ev_Mof 331)) (pc := 2) (i := .iload_n 1) (len := 1) (pc' := 3) (lv' := [(0, .ref 621), (1, .int x1), (2, .int (2)), (3, .int x3)]) (st' := [.int x1, .ref 621, .ref 621]) (by decide +kernel) rfl) ?_
  refine ev_go0 (ev_p_virt (M := (ev_Mof 331)) (pc := 3) (x := 531) (mi := 273) (na := 1) (by decide +kernel) (by decide +kernel) (by decide +kernel) (by decide +kernel) rfl rfl (ev_recv_of ev_fH621) (ev_k30 x1 hl_x1)) ?_
  refine ev_go0 (ev_w_if (M := (ev_Mof 331)) (pc := 6) (q := .eq) (o := 16) (b := true) (t := 22) (by decide +kernel) (by decide +kernel) rfl) ?_
  refine ev_go0 (ev_w_iconst (M := (ev_Mof 331)) (pc := 22) (k := 1) (v := 1) (by decide +kernel) (by decide +kernel)) ?_
  refine ev_go0 (ev_p_putf (M := (ev_Mof 331)) (pc := 23) (x := 321) (ci := 13) (f := 0) (by decide +kernel) (by decide +kernel) ev_fH621 rfl (by decide +kernel)) ?_
  refine ev_go0 (ev_one_pure (M := (ev_Mof 331)) (pc := 26) (i := .aload_n 0) (len := 1) (pc' := 27) (lv' := [(0, .ref 621), (1, .int x1), (2, .int (2)), (3, .int x3)]) (st' := [.ref 621]) (by decide +kernel) rfl) ?_
  refine ev_go0 (ev_p_getf (M := (ev_Mof 331)) (pc := 27) (x := 321) (ci := 13) (f := 0) (fin := 0) (v := .int (1)) (by decide +kernel) (by decide +kernel) (ev_hself ev_fH621) rfl) ?_
  refine ev_go0 (ev_w_if (M := (ev_Mof 331)) (pc := 30) (q := .le) (o := 5) (b := false) (t := 33) (by decide +kernel) (by decide +kernel) rfl) ?_
  refine ev_go0 (ev_w_iconst (M := (ev_Mof 331)) (pc := 33) (k := 0) (v := 0) (by decide +kernel) (by decide +kernel)) ?_
  rfl
theorem ev_p1_13_p2 (xs : Nat → Int32) (x1 : Int32) (hl_x1 : (0 : Int) ≤ x1.toInt) (x3 : Int32) (e1 : xs 1 = x1) (e2 : xs 2 = (2)) (e3 : xs 3 = x3) : ev_P1 xs 1000 := by
  refine ⟨44, [(6, .int (0)), (5, .int (1)), (4, .int (0)), (3, .ref 723), (2, .ref 621), (1, .ref 0), (0, .retAddr 0)], (ev_H0.set 621 (.inr (13, (ev_F621.set 0 (.int (1)))))), 724, 725, 3553592, ?_, ⟨rfl, rfl, rfl, rfl⟩, rfl, by decide, by decide⟩
  show ev_stepn _ _ (1000, [(4, .int (0)), (3, .ref 723), (2, .ref 621), (1, .ref 0), (0, .retAddr 0)], [], _, _, _, _) = _
  refine ev_go0 (ev_one_pure (M := ev_Mlaw) (pc := 1000) (i := .aload_n 1) (len := 1) (pc' := 1001) (lv' := [(4, .int (0)), (3, .ref 723), (2, .ref 621), (1, .ref 0), (0, .retAddr 0)]) (st' := [.ref 0]) (by decide +kernel) rfl) ?_
  refine ev_go0 (ev_one_pure (M := ev_Mlaw) (pc := 1001) (i := .aload_n 0) (len := 1) (pc' := 1002) (lv' := [(4, .int (0)), (3, .ref 723), (2, .ref 621), (1, .ref 0), (0, .retAddr 0)]) (st' := [.retAddr 0, .ref 0]) (by decide +kernel) rfl) ?_
  refine ev_go0 (ev_one_pure (M := ev_Mlaw) (pc := 1002) (i := .iload 4) (len := 2) (pc' := 1004) (lv' := [(4, .int (0)), (3, .ref 723), (2, .ref 621), (1, .ref 0), (0, .retAddr 0)]) (st' := [.int (0), .retAddr 0, .ref 0]) (by decide +kernel) rfl) ?_
  refine ev_go0 (ev_w_iconst (M := ev_Mlaw) (pc := 1004) (k := 1) (v := 1) (by decide +kernel) (by decide +kernel)) ?_
  refine ev_go0 (ev_w_iadd (M := ev_Mlaw) (pc := 1005) (v := (1)) (by decide +kernel) (by decide +kernel)) ?_
  refine ev_go0 (ev_w_scr (M := ev_Mlaw) (pc := 1006) (v := x1) (j := 1) (by decide +kernel) (by decide +kernel) (by decide +kernel) e1) ?_
  refine ev_go0 (ev_one_pure (M := ev_Mlaw) (pc := 1007) (i := .aload_n 0) (len := 1) (pc' := 1008) (lv' := [(4, .int (0)), (3, .ref 723), (2, .ref 621), (1, .ref 0), (0, .retAddr 0)]) (st' := [.retAddr 0, .int x1, .ref 0]) (by decide +kernel) rfl) ?_
  refine ev_go0 (ev_one_pure (M := ev_Mlaw) (pc := 1008) (i := .iload 4) (len := 2) (pc' := 1010) (lv' := [(4, .int (0)), (3, .ref 723), (2, .ref 621), (1, .ref 0), (0, .retAddr 0)]) (st' := [.int (0), .retAddr 0, .int x1, .ref 0]) (by decide +kernel) rfl) ?_
  refine ev_go0 (ev_w_iconst (M := ev_Mlaw) (pc := 1010) (k := 2) (v := 2) (by decide +kernel) (by decide +kernel)) ?_
  refine ev_go0 (ev_w_iadd (M := ev_Mlaw) (pc := 1011) (v := (2)) (by decide +kernel) (by decide +kernel)) ?_
  refine ev_go0 (ev_w_scr (M := ev_Mlaw) (pc := 1012) (v := (2)) (j := 2) (by decide +kernel) (by decide +kernel) (by decide +kernel) e2) ?_
  refine ev_go0 (ev_one_pure (M := ev_Mlaw) (pc := 1013) (i := .aload_n 0) (len := 1) (pc' := 1014) (lv' := [(4, .int (0)), (3, .ref 723), (2, .ref 621), (1, .ref 0), (0, .retAddr 0)]) (st' := [.retAddr 0, .int (2), .int x1, .ref 0]) (by decide +kernel) rfl) ?_
  refine ev_go0 (ev_one_pure (M := ev_Mlaw) (pc := 1014) (i := .iload 4) (len := 2) (pc' := 1016) (lv' := [(4, .int (0)), (3, .ref 723), (2, .ref 621), (1, .ref 0), (0, .retAddr 0)]) (st' := [.int (0), .retAddr 0, .int (2), .int x1, .ref 0]) (by decide +kernel) rfl) ?_
  refine ev_go0 (ev_w_iconst (M := ev_Mlaw) (pc := 1016) (k := 3) (v := 3) (by decide +kernel) (by decide +kernel)) ?_
  refine ev_go0 (ev_w_iadd (M := ev_Mlaw) (pc := 1017) (v := (3)) (by decide +kernel) (by decide +kernel)) ?_
  refine ev_go0 (ev_w_scr (M := ev_Mlaw) (pc := 1018) (v := x3) (j := 3) (by decide +kernel) (by decide +kernel) (by decide +kernel) e3) ?_
  refine ev_go0 (ev_one_pure (M := ev_Mlaw) (pc := 1019) (i := .aload_n 3) (len := 1) (pc' := 1020) (lv' := [(4, .int (0)), (3, .ref 723), (2, .ref 621), (1, .ref 0), (0, .retAddr 0)]) (st' := [.ref 723, .int x3, .int (2), .int x1, .ref 0]) (by decide +kernel) rfl) ?_
  refine ev_go (ev_w_stat (M := ev_Mlaw) (pc := 1020) (y := 175) (kind := 8) (Or.inr (Or.inr rfl)) (mi := 376) (na := 5) (by decide +kernel) (by decide +kernel) (by decide +kernel) (by decide +kernel) rfl rfl (ev_k260 x1 hl_x1 x3)) ?_
  refine ev_go0 (ev_w_istore (M := ev_Mlaw) (pc := 1023) (k := 5) (lv' := [(5, .int (1)), (4, .int (0)), (3, .ref 723), (2, .ref 621), (1, .ref 0), (0, .retAddr 0)]) (by decide +kernel) (by decide +kernel) rfl) ?_
  refine ev_go0 (ev_one_pure (M := ev_Mlaw) (pc := 1025) (i := .aload_n 2) (len := 1) (pc' := 1026) (lv' := [(5, .int (1)), (4, .int (0)), (3, .ref 723), (2, .ref 621), (1, .ref 0), (0, .retAddr 0)]) (st' := [.ref 621]) (by decide +kernel) rfl) ?_
  refine ev_go0 (ev_one_pure (M := ev_Mlaw) (pc := 1026) (i := .aload_n 0) (len := 1) (pc' := 1027) (lv' := [(5, .int (1)), (4, .int (0)), (3, .ref 723), (2, .ref 621), (1, .ref 0), (0, .retAddr 0)]) (st' := [.retAddr 0, .ref 621]) (by decide +kernel) rfl) ?_
  refine ev_go0 (ev_one_pure (M := ev_Mlaw) (pc := 1027) (i := .iload 4) (len := 2) (pc' := 1029) (lv' := [(5, .int (1)), (4, .int (0)), (3, .ref 723), (2, .ref 621), (1, .ref 0), (0, .retAddr 0)]) (st' := [.int (0), .retAddr 0, .ref 621]) (by decide +kernel) rfl) ?_
  refine ev_go0 (ev_w_iconst (M := ev_Mlaw) (pc := 1029) (k := 1) (v := 1) (by decide +kernel) (by decide +kernel)) ?_
  refine ev_go0 (ev_w_iadd (M := ev_Mlaw) (pc := 1030) (v := (1)) (by decide +kernel) (by decide +kernel)) ?_
  refine ev_go0 (ev_w_scr (M := ev_Mlaw) (pc := 1031) (v := x1) (j := 1) (by decide +kernel) (by decide +kernel) (by decide +kernel) e1) ?_
  refine ev_go0 (ev_one_pure (M := ev_Mlaw) (pc := 1032) (i := .aload_n 0) (len := 1) (pc' := 1033) (lv' := [(5, .int (1)), (4, .int (0)), (3, .ref 723), (2, .ref 621), (1, .ref 0), (0, .retAddr 0)]) (st' := [.retAddr 0, .int x1, .ref 621]) (by decide +kernel) rfl) ?_
  refine ev_go0 (ev_one_pure (M := ev_Mlaw) (pc := 1033) (i := .iload 4) (len := 2) (pc' := 1035) (lv' := [(5, .int (1)), (4, .int (0)), (3, .ref 723), (2, .ref 621), (1, .ref 0), (0, .retAddr 0)]) (st' := [.int (0), .retAddr 0, .int x1, .ref 621]) (by decide +kernel) rfl) ?_
  refine ev_go0 (ev_w_iconst (M := ev_Mlaw) (pc := 1035) (k := 2) (v := 2) (by decide +kernel) (by decide +kernel)) ?_
  refine ev_go0 (ev_w_iadd (M := ev_Mlaw) (pc := 1036) (v := (2)) (by decide +kernel) (by decide +kernel)) ?_
  refine ev_go0 (ev_w_scr (M := ev_Mlaw) (pc := 1037) (v := (2)) (j := 2) (by decide +kernel) (by decide +kernel) (by decide +kernel) e2) ?_
  refine ev_go0 (ev_one_pure (M := ev_Mlaw) (pc := 1038) (i := .aload_n 0) (len := 1) (pc' := 1039) (lv' := [(5, .int (1)), (4, .int (0)), (3, .ref 723), (2, .ref 621), (1, .ref 0), (0, .retAddr 0)]) (st' := [.retAddr 0, .int (2), .int x1, .ref 621]) (by decide +kernel) rfl) ?_
  refine ev_go0 (ev_one_pure (M := ev_Mlaw) (pc := 1039) (i := .iload 4) (len := 2) (pc' := 1041) (lv' := [(5, .int (1)), (4, .int (0)), (3, .ref 723), (2, .ref 621), (1, .ref 0), (0, .retAddr 0)]) (st' := [.int (0), .retAddr 0, .int (2), .int x1, .ref 621]) (by decide +kernel) rfl) ?_
  refine ev_go0 (ev_w_iconst (M := ev_Mlaw) (pc := 1041) (k := 3) (v := 3) (by decide +kernel) (by decide +kernel)) ?_
  refine ev_go0 (ev_w_iadd (M := ev_Mlaw) (pc := 1042) (v := (3)) (by decide +kernel) (by decide +kernel)) ?_
  refine ev_go0 (ev_w_scr (M := ev_Mlaw) (pc := 1043) (v := x3) (j := 3) (by decide +kernel) (by decide +kernel) (by decide +kernel) e3) ?_
  refine ev_go0 (ev_p_virt (M := ev_Mlaw) (pc := 1044) (x := 178) (mi := 331) (na := 3) (by decide +kernel) (by decide +kernel) (by decide +kernel) (by decide +kernel) rfl rfl (ev_recv_of ev_fH621) (ev_k261 x1 hl_x1 x3)) ?_
  refine ev_go0 (ev_w_istore (M := ev_Mlaw) (pc := 1047) (k := 6) (lv' := [(6, .int (0)), (5, .int (1)), (4, .int (0)), (3, .ref 723), (2, .ref 621), (1, .ref 0), (0, .retAddr 0)]) (by decide +kernel) (by decide +kernel) rfl) ?_
  refine ev_go0 (ev_one_pure (M := ev_Mlaw) (pc := 1049) (i := .aload_n 2) (len := 1) (pc' := 1050) (lv' := [(6, .int (0)), (5, .int (1)), (4, .int (0)), (3, .ref 723), (2, .ref 621), (1, .ref 0), (0, .retAddr 0)]) (st' := [.ref 621]) (by decide +kernel) rfl) ?_
  refine ev_go0 (ev_p_virt (M := ev_Mlaw) (pc := 1050) (x := 131) (mi := 220) (na := 0) (by decide +kernel) (by decide +kernel) (by decide +kernel) (by decide +kernel) rfl rfl (ev_recv_of (ev_hself ev_fH621)) ev_k26) ?_
  refine ev_go0 (ev_one_pure (M := ev_Mlaw) (pc := 1053) (i := .iload 5) (len := 2) (pc' := 1055) (lv' := [(6, .int (0)), (5, .int (1)), (4, .int (0)), (3, .ref 723), (2, .ref 621), (1, .ref 0), (0, .retAddr 0)]) (st' := [.int (1), .int (1)]) (by decide +kernel) rfl) ?_
  refine ev_go0 (ev_w_icmp (M := ev_Mlaw) (pc := 1055) (q := .eq) (o := 5) (b := true) (t := 1060) (by decide +kernel) (by decide +kernel) rfl) ?_
  refine ev_go0 (ev_one_pure (M := ev_Mlaw) (pc := 1060) (i := .iload 5) (len := 2) (pc' := 1062) (lv' := [(6, .int (0)), (5, .int (1)), (4, .int (0)), (3, .ref 723), (2, .ref 621), (1, .ref 0), (0, .retAddr 0)]) (st' := [.int (1)]) (by decide +kernel) rfl) ?_
  refine ev_go0 (ev_w_if (M := ev_Mlaw) (pc := 1062) (q := .ne) (o := 15) (b := true) (t := 1077) (by decide +kernel) (by decide +kernel) rfl) ?_
  refine ev_go0 (ev_one_pure (M := ev_Mlaw) (pc := 1077) (i := .goto 1195) (len := 3) (pc' := 2272) (lv' := [(6, .int (0)), (5, .int (1)), (4, .int (0)), (3, .ref 723), (2, .ref 621), (1, .ref 0), (0, .retAddr 0)]) (st' := []) (by decide +kernel) rfl) ?_
  rfl
theorem ev_k262 (x1 : Int32) (hl_x1 : (0 : Int) ≤ x1.toInt) (x2 : Int32) (hl_x2 : (3 : Int) ≤ x2.toInt) (x3 : Int32) {n : Nat} : ev_calld 11 179 [.ref 0, .int x1, .int x2, .int x3] ev_H0 n = some (.inr "java/lang/IndexOutOfBoundsException", ev_H0, n, 1, 6) := by
  refine ev_call_thrown (k := 11) (pcR := 40) (x := 160) (lv' := [(5, .null), (4, .null), (0, .ref 0), (1, .int x1), (2, .int x2), (3, .int x3)]) (by decide +kernel) rfl ?_ (by decide +kernel) (by decide +kernel) (by decide +kernel) (by decide) (by decide)
  show ev_stepn _ 11 (0, [(0, .ref 0), (1, .int x1), (2, .int x2), (3, .int x3)], [], _, _, 0, 0) = _
  refine ev_go0 (ev_one_pure (M := (ev_Mof 179)) (pc := 0) (i := .aload_n 0) (len := 1) (pc' := 1) (lv' := [(0, .ref 0), (1, .int x1), (2, .int x2), (3, .int x3)]) (st' := [.ref 0]) (by decide +kernel) rfl) ?_
  refine ev_go0 (ev_one_pure (M := (ev_Mof 179)) (pc := 1) (i := .iload_n 1) (len := 1) (pc' := 2) (lv' := [(0, .ref 0), (1, .int x1), (2, .int x2), (3, .int x3)]) (st' := [.int x1, .ref 0]) (by decide +kernel) rfl) ?_
  refine ev_go0 (ev_p_virt (M := (ev_Mof 179)) (pc := 2) (x := 156) (mi := 200) (na := 1) (by decide +kernel) (by decide +kernel) (by decide +kernel) (by decide +kernel) rfl rfl (ev_recv_of ev_fH0) (ev_k9 x1 hl_x1)) ?_
  refine ev_go0 (ev_w_astore (M := (ev_Mof 179)) (pc := 5) (k := 4) (lv' := [(4, .null), (0, .ref 0), (1, .int x1), (2, .int x2), (3, .int x3)]) (by decide +kernel) (by decide +kernel) (Or.inr (Or.inl rfl)) rfl) ?_
  refine ev_go0 (ev_one_pure (M := (ev_Mof 179)) (pc := 7) (i := .aload_n 0) (len := 1) (pc' := 8) (lv' := [(4, .null), (0, .ref 0), (1, .int x1), (2, .int x2), (3, .int x3)]) (st' := [.ref 0]) (by decide +kernel) rfl) ?_
  refine ev_go0 (ev_p_getf (M := (ev_Mof 179)) (pc := 8) (x := 48) (ci := 12) (f := 8) (fin := 1) (v := .ref 254) (by decide +kernel) (by decide +kernel) ev_fH0 rfl) ?_
  refine ev_go0 (ev_one_pure (M := (ev_Mof 179)) (pc := 11) (i := .iload_n 2) (len := 1) (pc' := 12) (lv' := [(4, .null), (0, .ref 0), (1, .int x1), (2, .int x2), (3, .int x3)]) (st' := [.int x2, .ref 254]) (by decide +kernel) rfl) ?_
  refine ev_go0 (ev_p_virt (M := (ev_Mof 179)) (pc := 12) (x := 221) (mi := 1) (na := 1) (by decide +kernel) (by decide +kernel) (by decide +kernel) (by decide +kernel) rfl rfl (ev_recv_of ev_fH254) (ev_k246 x2 hl_x2)) ?_
  refine ev_go0 (ev_w_astore (M := (ev_Mof 179)) (pc := 15) (k := 5) (lv' := [(5, .null), (4, .null), (0, .ref 0), (1, .int x1), (2, .int x2), (3, .int x3)]) (by decide +kernel) (by decide +kernel) (Or.inr (Or.inl rfl)) rfl) ?_
  refine ev_go0 (ev_one_pure (M := (ev_Mof 179)) (pc := 17) (i := .aload 4) (len := 2) (pc' := 19) (lv' := [(5, .null), (4, .null), (0, .ref 0), (1, .int x1), (2, .int x2), (3, .int x3)]) (st' := [.null]) (by decide +kernel) rfl) ?_
  refine ev_go0 (ev_w_ifnull (M := (ev_Mof 179)) (pc := 19) (o := 21) (t := 40) (by decide +kernel) (Or.inl ⟨rfl, rfl⟩)) ?_
  rfl
theorem ev_k263 (x1 : Int32) (hl_x1 : (0 : Int) ≤ x1.toInt) (x2 : Int32) (hl_x2 : (3 : Int) ≤ x2.toInt) (x3 : Int32) {n : Nat} : ev_calld 12 376 [.ref 0, .int x1, .int x2, .int x3, .ref 723] ev_H0 n = some (.inl (some (.int (1))), ev_H0, n, 1, 6) := by
  refine ev_call_int (k := 9) (pcR := 18) (lv' := [(5, .retAddr 1), (0, .ref 0), (1, .int x1), (2, .int x2), (3, .int x3), (4, .ref 723)]) (v := (1)) (ty := .int) (by decide +kernel) rfl ?_ (by decide +kernel) (by decide +kernel) (by decide +kernel) (by decide)
  show ev_stepn _ 9 (0, [(0, .ref 0), (1, .int x1), (2, .int x2), (3, .int x3), (4, .ref 723)], [], _, _, 0, 0) = _
  refine ev_go0 (ev_one_pure (M := (ev_Mof 376)) (pc := 0) (i := .aload 4) (len := 2) (pc' := 2) (lv' := [(0, .ref 0), (1, .int x1), (2, .int x2), (3, .int x3), (4, .ref 723)]) (st' := [.ref 723]) (by decide +kernel) rfl) ?_
  refine ev_go0 (ev_w_iconst (M := (ev_Mof 376)) (pc := 2) (k := 0) (v := 0) (by decide +kernel) (by decide +kernel)) ?_
  refine ev_go0 (ev_one_pure (M := (ev_Mof 376)) (pc := 3) (i := .aload_n 0) (len := 1) (pc' := 4) (lv' := [(0, .ref 0), (1, .int x1), (2, .int x2), (3, .int x3), (4, .ref 723)]) (st' := [.ref 0, .int (0), .ref 723]) (by decide +kernel) rfl) ?_
  refine ev_go0 (ev_one_pure (M := (ev_Mof 376)) (pc := 4) (i := .iload_n 1) (len := 1) (pc' := 5) (lv' := [(0, .ref 0), (1, .int x1), (2, .int x2), (3, .int x3), (4, .ref 723)]) (st' := [.int x1, .ref 0, .int (0), .ref 723]) (by decide +kernel) rfl) ?_
  refine ev_go0 (ev_one_pure (M := (ev_Mof 376)) (pc := 5) (i := .iload_n 2) (len := 1) (pc' := 6) (lv' := [(0, .ref 0), (1, .int x1), (2, .int x2), (3, .int x3), (4, .ref 723)]) (st' := [.int x2, .int x1, .ref 0, .int (0), .ref 723]) (by decide +kernel) rfl) ?_
  refine ev_go0 (ev_one_pure (M := (ev_Mof 376)) (pc := 6) (i := .iload_n 3) (len := 1) (pc' := 7) (lv' := [(0, .ref 0), (1, .int x1), (2, .int x2), (3, .int x3), (4, .ref 723)]) (st' := [.int x3, .int x2, .int x1, .ref 0, .int (0), .ref 723]) (by decide +kernel) rfl) ?_
  refine ev_go (ev_p_virtX (M := (ev_Mof 376)) (pc := 7) (x := 57) (t := 15) (mi := 179) (na := 3) (by decide +kernel) (by decide +kernel) (by decide +kernel) (by decide +kernel) rfl rfl (ev_recv_of ev_fH0) (ev_k262 x1 hl_x1 x2 hl_x2 x3) (by decide +kernel)) ?_
  refine ev_go0 (ev_w_astore (M := (ev_Mof 376)) (pc := 15) (k := 5) (lv' := [(5, .retAddr 1), (0, .ref 0), (1, .int x1), (2, .int x2), (3, .int x3), (4, .ref 723)]) (by decide +kernel) (by decide +kernel) (Or.inr (Or.inr ⟨_, rfl⟩)) rfl) ?_
  refine ev_go0 (ev_w_iconst (M := (ev_Mof 376)) (pc := 17) (k := 1) (v := 1) (by decide +kernel) (by decide +kernel)) ?_
  rfl
theorem ev_k264 (x1 : Int32) (hl_x1 : (0 : Int) ≤ x1.toInt) (x2 : Int32) (hl_x2 : (3 : Int) ≤ x2.toInt) (x3 : Int32) {n : Nat} : ev_calld 12 331 [.ref 621, .int x1, .int x2, .int x3] ev_H0 n = some (.inl (some (.int (0))), (ev_H0.set 621 (.inr (13, (ev_F621.set 0 (.int (1)))))), n, 0, 0) := by
  refine ev_call_int (k := 11) (pcR := 34) (lv' := [(0, .ref 621), (1, .int x1), (2, .int x2), (3, .int x3)]) (v := (0)) (ty := .int) (by decide +kernel) rfl ?_ (by decide +kernel) (by decide +kernel) (by decide +kernel) (by decide)
  show ev_stepn _ 11 (0, [(0, .ref 621), (1, .int x1), (2, .int x2), (3, .int x3)], [], _, _, 0, 0) = _
  refine ev_go0 (ev_one_pure (M := (ev_Mof 331)) (pc := 0) (i := .aload_n 0) (len := 1) (pc' := 1) (lv' := [(0, .ref 621), (1, .int x1), (2, .int x2), (3, .int x3)]) (st' := [.ref 621]) (by decide +kernel) rfl) ?_
  refine ev_go0 (ev_one_pure (M := (ev_Mof 331)) (pc := 1) (i := .aload_n 0) (len := 1) (pc' := 2) (lv' := [(0, .ref 621), (1, .int x1), (2, .int x2), (3, .int x3)]) (st' := [.ref 621, .ref 621]) (by decide +kernel) rfl) ?_
  refine ev_go0 (ev_one_pure (M := (ev_Mof 331)) (pc := 2) (i := .iload_n 1) (len := 1) (pc' := 3) (lv' := [(0, .ref 621), (1, .int x1), (2, .int x2), (3, .int x3)]) (st' := [.int x1, .ref 621, .ref 621]) (by decide +kernel) rfl) ?_
  refine ev_go0 (ev_p_virt (M := (ev_Mof 331)) (pc := 3) (x := 531) (mi := 273) (na := 1) (by decide +kernel) (by decide +kernel) (by decide +kernel) (by decide +kernel) rfl rfl (ev_recv_of ev_fH621) (ev_k30 x1 hl_x1)) ?_
  refine ev_go0 (ev_w_if (M := (ev_Mof 331)) (pc := 6) (q := .eq) (o := 16) (b := true) (t := 22) (by decide +kernel) (by decide +kernel) rfl) ?_
  refine ev_go0 (ev_w_iconst (M := (ev_Mof 331)) (pc := 22) (k := 1) (v := 1) (by decide +kernel) (by decide +kernel)) ?_
  refine ev_go0 (ev_p_putf (M := (ev_Mof 331)) (pc := 23) (x := 321) (ci := 13) (f := 0) (by decide +kernel) (by decide +kernel) ev_fH621 rfl (by decide +kernel)) ?_
  refine ev_go0 (ev_one_pure (M := (ev_Mof 331)) (pc := 26) (i := .aload_n 0) (len := 1) (pc' := 27) (lv' := [(0, .ref 621), (1, .int x1), (2, .int x2), (3, .int x3)]) (st' := [.ref 621]) (by decide +kernel) rfl) ?_
  refine ev_go0 (ev_p_getf (M := (ev_Mof 331)) (pc := 27) (x := 321) (ci := 13) (f := 0) (fin := 0) (v := .int (1)) (by decide +kernel) (by decide +kernel) (ev_hself ev_fH621) rfl) ?_
  refine ev_go0 (ev_w_if (M := (ev_Mof 331)) (pc := 30) (q := .le) (o := 5) (b := false) (t := 33) (by decide +kernel) (by decide +kernel) rfl) ?_
  refine ev_go0 (ev_w_iconst (M := (ev_Mof 331)) (pc := 33) (k := 0) (v := 0) (by decide +kernel) (by decide +kernel)) ?_
  rfl
theorem ev_p1_13_pg (xs : Nat → Int32) (x1 : Int32) (hl_x1 : (0 : Int) ≤ x1.toInt) (x2 : Int32) (hl_x2 : (3 : Int) ≤ x2.toInt) (x3 : Int32) (e1 : xs 1 = x1) (e2 : xs 2 = x2) (e3 : xs 3 = x3) : ev_P1 xs 1000 := by
  refine ⟨44, [(6, .int (0)), (5, .int (1)), (4, .int (0)), (3, .ref 723), (2, .ref 621), (1, .ref 0), (0, .retAddr 0)], (ev_H0.set 621 (.inr (13, (ev_F621.set 0 (.int (1)))))), 724, 725, 3553592, ?_, ⟨rfl, rfl, rfl, rfl⟩, rfl, by decide, by decide⟩
  show ev_stepn _ _ (1000, [(4, .int (0)), (3, .ref 723), (2, .ref 621), (1, .ref 0), (0, .retAddr 0)], [], _, _, _, _) = _
  refine ev_go0 (ev_one_pure (M := ev_Mlaw) (pc := 1000) (i := .aload_n 1) (len := 1) (pc' := 1001) (lv' := [(4, .int (0)), (3, .ref 723), (2, .ref 621), (1, .ref 0), (0, .retAddr 0)]) (st' := [.ref 0]) (by decide +kernel) rfl) ?_
  refine ev_go0 (ev_one_pure (M := ev_Mlaw) (pc := 1001) (i := .aload_n 0) (len := 1) (pc' := 1002) (lv' := [(4, .int (0)), (3, .ref 723), (2, .ref 621), (1, .ref 0), (0, .retAddr 0)]) (st' := [.retAddr 0, .ref 0]) (by decide +kernel) rfl) ?_
  refine ev_go0 (ev_one_pure (M := ev_Mlaw) (pc := 1002) (i := .iload 4) (len := 2) (pc' := 1004) (lv' := [(4, .int (0)), (3, .ref 723), (2, .ref 621), (1, .ref 0), (0, .retAddr 0)]) (st' := [.int (0), .retAddr 0, .ref 0]) (by decide +kernel) rfl) ?_
  refine ev_go0 (ev_w_iconst (M := ev_Mlaw) (pc := 1004) (k := 1) (v := 1) (by decide +kernel) (by decide +kernel)) ?_
  refine ev_go0 (ev_w_iadd (M := ev_Mlaw) (pc := 1005) (v := (1)) (by decide +kernel) (by decide +kernel)) ?_
  refine ev_go0 (ev_w_scr (M := ev_Mlaw) (pc := 1006) (v := x1) (j := 1) (by decide +kernel) (by decide +kernel) (by decide +kernel) e1) ?_
  refine ev_go0 (ev_one_pure (M := ev_Mlaw) (pc := 1007) (i := .aload_n 0) (len := 1) (pc' := 1008) (lv' := [(4, .int (0)), (3, .ref 723), (2, .ref 621), (1, .ref 0), (0, .retAddr 0)]) (st' := [.retAddr 0, .int x1, .ref 0]) (by decide +kernel) rfl) ?_
  refine ev_go0 (ev_one_pure (M := ev_Mlaw) (pc := 1008) (i := .iload 4) (len := 2) (pc' := 1010) (lv' := [(4, .int (0)), (3, .ref 723), (2, .ref 621), (1, .ref 0), (0, .retAddr 0)]) (st' := [.int (0), .retAddr 0, .int x1, .ref 0]) (by decide +kernel) rfl) ?_
  refine ev_go0 (ev_w_iconst (M := ev_Mlaw) (pc := 1010) (k := 2) (v := 2) (by decide +kernel) (by decide +kernel)) ?_
  refine ev_go0 (ev_w_iadd (M := ev_Mlaw) (pc := 1011) (v := (2)) (by decide +kernel) (by decide +kernel)) ?_
  refine ev_go0 (ev_w_scr (M := ev_Mlaw) (pc := 1012) (v := x2) (j := 2) (by decide +kernel) (by decide +kernel) (by decide +kernel) e2) ?_
  refine ev_go0 (ev_one_pure (M := ev_Mlaw) (pc := 1013) (i := .aload_n 0) (len := 1) (pc' := 1014) (lv' := [(4, .int (0)), (3, .ref 723), (2, .ref 621), (1, .ref 0), (0, .retAddr 0)]) (st' := [.retAddr 0, .int x2, .int x1, .ref 0]) (by decide +kernel) rfl) ?_
  refine ev_go0 (ev_one_pure (M := ev_Mlaw) (pc := 1014) (i := .iload 4) (len := 2) (pc' := 1016) (lv' := [(4, .int (0)), (3, .ref 723), (2, .ref 621), (1, .ref 0), (0, .retAddr 0)]) (st' := [.int (0), .retAddr 0, .int x2, .int x1, .ref 0]) (by decide +kernel) rfl) ?_
  refine ev_go0 (ev_w_iconst (M := ev_Mlaw) (pc := 1016) (k := 3) (v := 3) (by decide +kernel) (by decide +kernel)) ?_
  refine ev_go0 (ev_w_iadd (M := ev_Mlaw) (pc := 1017) (v := (3)) (by decide +kernel) (by decide +kernel)) ?_
  refine ev_go0 (ev_w_scr (M := ev_Mlaw) (pc := 1018) (v := x3) (j := 3) (by decide +kernel) (by decide +kernel) (by decide +kernel) e3) ?_
  refine ev_go0 (ev_one_pure (M := ev_Mlaw) (pc := 1019) (i := .aload_n 3) (len := 1) (pc' := 1020) (lv' := [(4, .int (0)), (3, .ref 723), (2, .ref 621), (1, .ref 0), (0, .retAddr 0)]) (st' := [.ref 723, .int x3, .int x2, .int x1, .ref 0]) (by decide +kernel) rfl) ?_
  refine ev_go (ev_w_stat (M := ev_Mlaw) (pc := 1020) (y := 175) (kind := 8) (Or.inr (Or.inr rfl)) (mi := 376) (na := 5) (by decide +kernel) (by decide +kernel) (by decide +kernel) (by decide +kernel) rfl rfl (ev_k263 x1 hl_x1 x2 hl_x2 x3)) ?_
  refine ev_go0 (ev_w_istore (M := ev_Mlaw) (pc := 1023) (k := 5) (lv' := [(5, .int (1)), (4, .int (0)), (3, .ref 723), (2, .ref 621), (1, .ref 0), (0, .retAddr 0)]) (by decide +kernel) (by decide +kernel) rfl) ?_
  refine ev_go0 (ev_one_pure (M := ev_Mlaw) (pc := 1025) (i := .aload_n 2) (len := 1) (pc' := 1026) (lv' := [(5, .int (1)), (4, .int (0)), (3, .ref 723), (2, .ref 621), (1, .ref 0), (0, .retAddr 0)]) (st' := [.ref 621]) (by decide +kernel) rfl) ?_
  refine ev_go0 (ev_one_pure (M := ev_Mlaw) (pc := 1026) (i := .aload_n 0) (len := 1) (pc' := 1027) (lv' := [(5, .int (1)), (4, .int (0)), (3, .ref 723), (2, .ref 621), (1, .ref 0), (0, .retAddr 0)]) (st' := [.retAddr 0, .ref 621]) (by decide +kernel) rfl) ?_
  refine ev_go0 (ev_one_pure (M := ev_Mlaw) (pc := 1027) (i := .iload 4) (len := 2) (pc' := 1029) (lv' := [(5, .int (1)), (4, .int (0)), (3, .ref 723), (2, .ref 621), (1, .ref 0), (0, .retAddr 0)]) (st' := [.int (0), .retAddr 0, .ref 621]) (by decide +kernel) rfl) ?_
  refine ev_go0 (ev_w_iconst (M := ev_Mlaw) (pc := 1029) (k := 1) (v := 1) (by decide +kernel) (by decide +kernel)) ?_
  refine ev_go0 (ev_w_iadd (M := ev_Mlaw) (pc := 1030) (v := (1)) (by decide +kernel) (by decide +kernel)) ?_
  refine ev_go0 (ev_w_scr (M := ev_Mlaw) (pc := 1031) (v := x1) (j := 1) (by decide +kernel) (by decide +kernel) (by decide +kernel) e1) ?_
  refine ev_go0 (ev_one_pure (M := ev_Mlaw) (pc := 1032) (i := .aload_n 0) (len := 1) (pc' := 1033) (lv' := [(5, .int (1)), (4, .int (0)), (3, .ref 723), (2, .ref 621), (1, .ref 0), (0, .retAddr 0)]) (st' := [.retAddr 0, .int x1, .ref 621]) (by decide +kernel) rfl) ?_
  refine ev_go0 (ev_one_pure (M := ev_Mlaw) (pc := 1033) (i := .iload 4) (len := 2) (pc' := 1035) (lv' := [(5, .int (1)), (4, .int (0)), (3, .ref 723), (2, .ref 621), (1, .ref 0), (0, .retAddr 0)]) (st' := [.int (0), .retAddr 0, .int x1, .ref 621]) (by decide +kernel) rfl) ?_
  refine ev_go0 (ev_w_iconst (M := ev_Mlaw) (pc := 1035) (k := 2) (v := 2) (by decide +kernel) (by decide +kernel)) ?_
  refine ev_go0 (ev_w_iadd (M := ev_Mlaw) (pc := 1036) (v := (2)) (by decide +kernel) (by decide +kernel)) ?_
  refine ev_go0 (ev_w_scr (M := ev_Mlaw) (pc := 1037) (v := x2) (j := 2) (by decide +kernel) (by decide +kernel) (by decide +kernel) e2) ?_
  refine ev_go0 (ev_one_pure (M := ev_Mlaw) (pc := 1038) (i := .aload_n 0) (len := 1) (pc' := 1039) (lv' := [(5, .int (1)), (4, .int (0)), (3, .ref 723), (2, .ref 621), (1, .ref 0), (0, .retAddr 0)]) (st' := [.retAddr 0, .int x2, .int x1, .ref 621]) (by decide +kernel) rfl) ?_
  refine ev_go0 (ev_one_pure (M := ev_Mlaw) (pc := 1039) (i := .iload 4) (len := 2) (pc' := 1041) (lv' := [(5, .int (1)), (4, .int (0)), (3, .ref 723), (2, .ref 621), (1, .ref 0), (0, .retAddr 0)]) (st' := [.int (0), .retAddr 0, .int x2, .int x1, .ref 621]) (by decide +kernel) rfl) ?_
  refine ev_go0 (ev_w_iconst (M := ev_Mlaw) (pc := 1041) (k := 3) (v := 3) (by decide +kernel) (by decide +kernel)) ?_
  refine ev_go0 (ev_w_iadd (M := ev_Mlaw) (pc := 1042) (v := (3)) (by decide +kernel) (by decide +kernel)) ?_
  refine ev_go0 (ev_w_scr (M := ev_Mlaw) (pc := 1043) (v := x3) (j := 3) (by decide +kernel) (by decide +kernel) (by decide +kernel) e3) ?_
  refine ev_go0 (ev_p_virt (M := ev_Mlaw) (pc := 1044) (x := 178) (mi := 331) (na := 3) (by decide +kernel) (by decide +kernel) (by decide +kernel) (by decide +kernel) rfl rfl (ev_recv_of ev_fH621) (ev_k264 x1 hl_x1 x2 hl_x2 x3)) ?_
  refine ev_go0 (ev_w_istore (M := ev_Mlaw) (pc := 1047) (k := 6) (lv' := [(6, .int (0)), (5, .int (1)), (4, .int (0)), (3, .ref 723), (2, .ref 621), (1, .ref 0), (0, .retAddr 0)]) (by decide +kernel) (by decide +kernel) rfl) ?_
  refine ev_go0 (ev_one_pure (M := ev_Mlaw) (pc := 1049) (i := .aload_n 2) (len := 1) (pc' := 1050) (lv' := [(6, .int (0)), (5, .int (1)), (4, .int (0)), (3, .ref 723), (2, .ref 621), (1, .ref 0), (0, .retAddr 0)]) (st' := [.ref 621]) (by decide +kernel) rfl) ?_
  refine ev_go0 (ev_p_virt (M := ev_Mlaw) (pc := 1050) (x := 131) (mi := 220) (na := 0) (by decide +kernel) (by decide +kernel) (by decide +kernel) (by decide +kernel) rfl rfl (ev_recv_of (ev_hself ev_fH621)) ev_k26) ?_
  refine ev_go0 (ev_one_pure (M := ev_Mlaw) (pc := 1053) (i := .iload 5) (len := 2) (pc' := 1055) (lv' := [(6, .int (0)), (5, .int (1)), (4, .int (0)), (3, .ref 723), (2, .ref 621), (1, .ref 0), (0, .retAddr 0)]) (st' := [.int (1), .int (1)]) (by decide +kernel) rfl) ?_
  refine ev_go0 (ev_w_icmp (M := ev_Mlaw) (pc := 1055) (q := .eq) (o := 5) (b := true) (t := 1060) (by decide +kernel) (by decide +kernel) rfl) ?_
  refine ev_go0 (ev_one_pure (M := ev_Mlaw) (pc := 1060) (i := .iload 5) (len := 2) (pc' := 1062) (lv' := [(6, .int (0)), (5, .int (1)), (4, .int (0)), (3, .ref 723), (2, .ref 621), (1, .ref 0), (0, .retAddr 0)]) (st' := [.int (1)]) (by decide +kernel) rfl) ?_
  refine ev_go0 (ev_w_if (M := ev_Mlaw) (pc := 1062) (q := .ne) (o := 15) (b := true) (t := 1077) (by decide +kernel) (by decide +kernel) rfl) ?_
  refine ev_go0 (ev_one_pure (M := ev_Mlaw) (pc := 1077) (i := .goto 1195) (len := 3) (pc' := 2272) (lv' := [(6, .int (0)), (5, .int (1)), (4, .int (0)), (3, .ref 723), (2, .ref 621), (1, .ref 0), (0, .retAddr 0)]) (st' := []) (by decide +kernel) rfl) ?_
  rfl
theorem ev_p1arm13 (xs : Nat → Int32) : ev_P1 xs 1000 := by
  rcases ev_split2 (xs 1) with h1 | h1
  · skip
    rcases ev_split5 (xs 2) with h2 | h2 | h2 | h2 | h2
    · skip
      exact ev_p1_13_nn xs (xs 1) h1 (xs 2) h2 (xs 3) rfl rfl rfl
    · skip
      exact ev_p1_13_n0 xs (xs 1) h1 (xs 3) rfl h2 rfl
    · skip
      exact ev_p1_13_n1 xs (xs 1) h1 (xs 3) rfl h2 rfl
    · skip
      exact ev_p1_13_n2 xs (xs 1) h1 (xs 3) rfl h2 rfl
    · skip
      exact ev_p1_13_ng xs (xs 1) h1 (xs 2) h2 (xs 3) rfl rfl rfl
  · skip
    rcases ev_split5 (xs 2) with h2 | h2 | h2 | h2 | h2
    · skip
      exact ev_p1_13_pn xs (xs 1) h1 (xs 2) h2 (xs 3) rfl rfl rfl
    · skip
      exact ev_p1_13_p0 xs (xs 1) h1 (xs 3) rfl h2 rfl
    · skip
      exact ev_p1_13_p1 xs (xs 1) h1 (xs 3) rfl h2 rfl
    · skip
      exact ev_p1_13_p2 xs (xs 1) h1 (xs 3) rfl h2 rfl
    · skip
      exact ev_p1_13_pg xs (xs 1) h1 (xs 2) h2 (xs 3) rfl rfl rfl
theorem ev_k265 (x1 : Int32) (hu_x1 : x1.toInt ≤ (-1 : Int)) (x2 : Int32) (hu_x2 : x2.toInt ≤ (-1 : Int)) (x3 : Int32) {n : Nat} : ev_calld 11 180 [.ref 0, .int x1, .int x2, .int x3] ev_H0 n = some (.inr "java/lang/IndexOutOfBoundsException", ev_H0, n, 1, 6) := by
  refine ev_call_thrown (k := 11) (pcR := 40) (x := 160) (lv' := [(5, .null), (4, .null), (0, .ref 0), (1, .int x1), (2, .int x2), (3, .int x3)]) (by decide +kernel) rfl ?_ (by decide +kernel) (by decide +kernel) (by decide +kernel) (by decide) (by decide)
  show ev_stepn _ 11 (0, [(0, .ref 0), (1, .int x1), (2, .int x2), (3, .int x3)], [], _, _, 0, 0) = _
  refine ev_go0 (ev_one_pure (M := (ev_Mof 180)) (pc := 0) (i := .aload_n 0) (len := 1) (pc' := 1) (lv' := [(0, .ref 0), (1, .int x1), (2, .int x2), (3, .int x3)]) (st' := [.ref 0]) (by decide +kernel) rfl) ?_
  refine ev_go0 (ev_one_pure (M := (ev_Mof 180)) (pc := 1) (i := .iload_n 1) (len := 1) (pc' := 2) (lv' := [(0, .ref 0), (1, .int x1), (2, .int x2), (3, .int x3)]) (st' := [.int x1, .ref 0]) (by decide +kernel) rfl) ?_
  refine ev_go0 (ev_p_virt (M := (ev_Mof 180)) (pc := 2) (x := 156) (mi := 200) (na := 1) (by decide +kernel) (by decide +kernel) (by decide +kernel) (by decide +kernel) rfl rfl (ev_recv_of ev_fH0) (ev_k1 x1 hu_x1)) ?_
  refine ev_go0 (ev_w_astore (M := (ev_Mof 180)) (pc := 5) (k := 4) (lv' := [(4, .null), (0, .ref 0), (1, .int x1), (2, .int x2), (3, .int x3)]) (by decide +kernel) (by decide +kernel) (Or.inr (Or.inl rfl)) rfl) ?_
  refine ev_go0 (ev_one_pure (M := (ev_Mof 180)) (pc := 7) (i := .aload_n 0) (len := 1) (pc' := 8) (lv' := [(4, .null), (0, .ref 0), (1, .int x1), (2, .int x2), (3, .int x3)]) (st' := [.ref 0]) (by decide +kernel) rfl) ?_
  refine ev_go0 (ev_p_getf (M := (ev_Mof 180)) (pc := 8) (x := 48) (ci := 12) (f := 8) (fin := 1) (v := .ref 254) (by decide +kernel) (by decide +kernel) ev_fH0 rfl) ?_
  refine ev_go0 (ev_one_pure (M := (ev_Mof 180)) (pc := 11) (i := .iload_n 2) (len := 1) (pc' := 12) (lv' := [(4, .null), (0, .ref 0), (1, .int x1), (2, .int x2), (3, .int x3)]) (st' := [.int x2, .ref 254]) (by decide +kernel) rfl) ?_
  refine ev_go0 (ev_p_virt (M := (ev_Mof 180)) (pc := 12) (x := 221) (mi := 1) (na := 1) (by decide +kernel) (by decide +kernel) (by decide +kernel) (by decide +kernel) rfl rfl (ev_recv_of ev_fH254) (ev_k230 x2 hu_x2)) ?_
  refine ev_go0 (ev_w_astore (M := (ev_Mof 180)) (pc := 15) (k := 5) (lv' := [(5, .null), (4, .null), (0, .ref 0), (1, .int x1), (2, .int x2), (3, .int x3)]) (by decide +kernel) (by decide +kernel) (Or.inr (Or.inl rfl)) rfl) ?_
  refine ev_go0 (ev_one_pure (M := (ev_Mof 180)) (pc := 17) (i := .aload 4) (len := 2) (pc' := 19) (lv' := [(5, .null), (4, .null), (0, .ref 0), (1, .int x1), (2, .int x2), (3, .int x3)]) (st' := [.null]) (by decide +kernel) rfl) ?_
  refine ev_go0 (ev_w_ifnull (M := (ev_Mof 180)) (pc := 19) (o := 21) (t := 40) (by decide +kernel) (Or.inl ⟨rfl, rfl⟩)) ?_
  rfl
theorem ev_k266 (x1 : Int32) (hu_x1 : x1.toInt ≤ (-1 : Int)) (x2 : Int32) (hu_x2 : x2.toInt ≤ (-1 : Int)) (x3 : Int32) {n : Nat} : ev_calld 12 377 [.ref 0, .int x1, .int x2, .int x3, .ref 723] ev_H0 n = some (.inl (some (.int (1))), ev_H0, n, 1, 6) := by
  refine ev_call_int (k := 9) (pcR := 18) (lv' := [(5, .retAddr 1), (0, .ref 0), (1, .int x1), (2, .int x2), (3, .int x3), (4, .ref 723)]) (v := (1)) (ty := .int) (by decide +kernel) rfl ?_ (by decide +kernel) (by decide +kernel) (by decide +kernel) (by decide)
  show ev_stepn _ 9 (0, [(0, .ref 0), (1, .int x1), (2, .int x2), (3, .int x3), (4, .ref 723)], [], _, _, 0, 0) = _
  refine ev_go0 (ev_one_pure (M := (ev_Mof 377)) (pc := 0) (i := .aload 4) (len := 2) (pc' := 2) (lv' := [(0, .ref 0), (1, .int x1), (2, .int x2), (3, .int x3), (4, .ref 723)]) (st' := [.ref 723]) (by decide +kernel) rfl) ?_
  refine ev_go0 (ev_w_iconst (M := (ev_Mof 377)) (pc := 2) (k := 0) (v := 0) (by decide +kernel) (by decide +kernel)) ?_
  refine ev_go0 (ev_one_pure (M := (ev_Mof 377)) (pc := 3) (i := .aload_n 0) (len := 1) (pc' := 4) (lv' := [(0, .ref 0), (1, .int x1), (2, .int x2), (3, .int x3), (4, .ref 723)]) (st' := [.ref 0, .int (0), .ref 723]) (by decide +kernel) rfl) ?_
  refine ev_go0 (ev_one_pure (M := (ev_Mof 377)) (pc := 4) (i := .iload_n 1) (len := 1) (pc' := 5) (lv' := [(0, .ref 0), (1, .int x1), (2, .int x2), (3, .int x3), (4, .ref 723)]) (st' := [.int x1, .ref 0, .int (0), .ref 723]) (by decide +kernel) rfl) ?_
  refine ev_go0 (ev_one_pure (M := (ev_Mof 377)) (pc := 5) (i := .iload_n 2) (len := 1) (pc' := 6) (lv' := [(0, .ref 0), (1, .int x1), (2, .int x2), (3, .int x3), (4, .ref 723)]) (st' := [.int x2, .int x1, .ref 0, .int (0), .ref 723]) (by decide +kernel) rfl) ?_
  refine ev_go0 (ev_one_pure (M := (ev_Mof 377)) (pc := 6) (i := .iload_n 3) (len := 1) (pc' := 7) (lv' := [(0, .ref 0), (1, .int x1), (2, .int x2), (3, .int x3), (4, .ref 723)]) (st' := [.int x3, .int x2, .int x1, .ref 0, .int (0), .ref 723]) (by decide +kernel) rfl) ?_
  refine ev_go (ev_p_virtX (M := (ev_Mof 377)) (pc := 7) (x := 61) (t := 15) (mi := 180) (na := 3) (by decide +kernel) (by decide +kernel) (by decide +kernel) (by decide +kernel) rfl rfl (ev_recv_of ev_fH0) (ev_k265 x1 hu_x1 x2 hu_x2 x3) (by decide +kernel)) ?_
  refine ev_go0 (ev_w_astore (M := (ev_Mof 377)) (pc := 15) (k := 5) (lv' := [(5, .retAddr 1), (0, .ref 0), (1, .int x1), (2, .int x2), (3, .int x3), (4, .ref 723)]) (by decide +kernel) (by decide +kernel) (Or.inr (Or.inr ⟨_, rfl⟩)) rfl) ?_
  refine ev_go0 (ev_w_iconst (M := (ev_Mof 377)) (pc := 17) (k := 1) (v := 1) (by decide +kernel) (by decide +kernel)) ?_
  rfl
theorem ev_k267 (x1 : Int32) (hu_x1 : x1.toInt ≤ (-1 : Int)) (x2 : Int32) (hu_x2 : x2.toInt ≤ (-1 : Int)) (x3 : Int32) {n : Nat} : ev_calld 12 332 [.ref 621, .int x1, .int x2, .int x3] ev_H0 n = some (.inl (some (.int (0))), (ev_H0.set 621 (.inr (13, (ev_F621.set 0 (.int (1)))))), n, 0, 0) := by
  refine ev_call_int (k := 11) (pcR := 34) (lv' := [(0, .ref 621), (1, .int x1), (2, .int x2), (3, .int x3)]) (v := (0)) (ty := .int) (by decide +kernel) rfl ?_ (by decide +kernel) (by decide +kernel) (by decide +kernel) (by decide)
  show ev_stepn _ 11 (0, [(0, .ref 621), (1, .int x1), (2, .int x2), (3, .int x3)], [], _, _, 0, 0) = _
  refine ev_go0 (ev_one_pure (M := (ev_Mof 332)) (pc := 0) (i := .aload_n 0) (len := 1) (pc' := 1) (lv' := [(0, .ref 621), (1, .int x1), (2, .int x2), (3, .int x3)]) (st' := [.ref 621]) (by decide +kernel) rfl) ?_
  refine ev_go0 (ev_one_pure (M := (ev_Mof 332)) (pc := 1) (i := .aload_n 0) (len := 1) (pc' := 2) (lv' := [(0, .ref 621), (1, .int x1), (2, .int x2), (3, .int x3)]) (st' := [.ref 621, .ref 621]) (by decide +kernel) rfl) ?_
  refine ev_go0 (ev_one_pure (M := (ev_Mof 332)) (pc := 2) (i := .iload_n 1) (len := 1) (pc' := 3) (lv' := [(0, .ref 621), (1, .int x1), (2, .int x2), (3, .int x3)]) (st' := [.int x1, .ref 621, .ref 621]) (by decide +kernel) rfl) ?_
  refine ev_go0 (ev_p_virt (M := (ev_Mof 332)) (pc := 3) (x := 531) (mi := 273) (na := 1) (by decide +kernel) (by decide +kernel) (by decide +kernel) (by decide +kernel) rfl rfl (ev_recv_of ev_fH621) (ev_k24 x1 hu_x1)) ?_
  refine ev_go0 (ev_w_if (M := (ev_Mof 332)) (pc := 6) (q := .eq) (o := 16) (b := true) (t := 22) (by decide +kernel) (by decide +kernel) rfl) ?_
  refine ev_go0 (ev_w_iconst (M := (ev_Mof 332)) (pc := 22) (k := 1) (v := 1) (by decide +kernel) (by decide +kernel)) ?_
  refine ev_go0 (ev_p_putf (M := (ev_Mof 332)) (pc := 23) (x := 321) (ci := 13) (f := 0) (by decide +kernel) (by decide +kernel) ev_fH621 rfl (by decide +kernel)) ?_
  refine ev_go0 (ev_one_pure (M := (ev_Mof 332)) (pc := 26) (i := .aload_n 0) (len := 1) (pc' := 27) (lv' := [(0, .ref 621), (1, .int x1), (2, .int x2), (3, .int x3)]) (st' := [.ref 621]) (by decide +kernel) rfl) ?_
  refine ev_go0 (ev_p_getf (M := (ev_Mof 332)) (pc := 27) (x := 321) (ci := 13) (f := 0) (fin := 0) (v := .int (1)) (by decide +kernel) (by decide +kernel) (ev_hself ev_fH621) rfl) ?_
  refine ev_go0 (ev_w_if (M := (ev_Mof 332)) (pc := 30) (q := .le) (o := 5) (b := false) (t := 33) (by decide +kernel) (by decide +kernel) rfl) ?_
  refine ev_go0 (ev_w_iconst (M := (ev_Mof 332)) (pc := 33) (k := 0) (v := 0) (by decide +kernel) (by decide +kernel)) ?_
  rfl
theorem ev_p1_14_nn (xs : Nat → Int32) (x1 : Int32) (hu_x1 : x1.toInt ≤ (-1 : Int)) (x2 : Int32) (hu_x2 : x2.toInt ≤ (-1 : Int)) (x3 : Int32) (e1 : xs 1 = x1) (e2 : xs 2 = x2) (e3 : xs 3 = x3) : ev_P1 xs 1080 := by
  refine ⟨44, [(6, .int (0)), (5, .int (1)), (4, .int (0)), (3, .ref 723), (2, .ref 621), (1, .ref 0), (0, .retAddr 0)], (ev_H0.set 621 (.inr (13, (ev_F621.set 0 (.int (1)))))), 724, 725, 3553592, ?_, ⟨rfl, rfl, rfl, rfl⟩, rfl, by decide, by decide⟩
  show ev_stepn _ _ (1080, [(4, .int (0)), (3, .ref 723), (2, .ref 621), (1, .ref 0), (0, .retAddr 0)], [], _, _, _, _) = _
  refine ev_go0 (ev_one_pure (M := ev_Mlaw) (pc := 1080) (i := .aload_n 1) (len := 1) (pc' := 1081) (lv' := [(4, .int (0)), (3, .ref 723), (2, .ref 621), (1, .ref 0), (0, .retAddr 0)]) (st' := [.ref 0]) (by decide +kernel) rfl) ?_
  refine ev_go0 (ev_one_pure (M := ev_Mlaw) (pc := 1081) (i := .aload_n 0) (len := 1) (pc' := 1082) (lv' := [(4, .int (0)), (3, .ref 723), (2, .ref 621), (1, .ref 0), (0, .retAddr 0)]) (st' := [.retAddr 0, .ref 0]) (by decide +kernel) rfl) ?_
  refine ev_go0 (ev_one_pure (M := ev_Mlaw) (pc := 1082) (i := .iload 4) (len := 2) (pc' := 1084) (lv' := [(4, .int (0)), (3, .ref 723), (2, .ref 621), (1, .ref 0), (0, .retAddr 0)]) (st' := [.int (0), .retAddr 0, .ref 0]) (by decide +kernel) rfl) ?_
  refine ev_go0 (ev_w_iconst (M := ev_Mlaw) (pc := 1084) (k := 1) (v := 1) (by decide +kernel) (by decide +kernel)) ?_
  refine ev_go0 (ev_w_iadd (M := ev_Mlaw) (pc := 1085) (v := (1)) (by decide +kernel) (by decide +kernel)) ?_
  refine ev_go0 (ev_w_scr (M := ev_Mlaw) (pc := 1086) (v := x1) (j := 1) (by decide +kernel) (by decide +kernel) (by decide +kernel) e1) ?_
  refine ev_go0 (ev_one_pure (M := ev_Mlaw) (pc := 1087) (i := .aload_n 0) (len := 1) (pc' := 1088) (lv' := [(4, .int (0)), (3, .ref 723), (2, .ref 621), (1, .ref 0), (0, .retAddr 0)]) (st' := [.retAddr 0, .int x1, .ref 0]) (by decide +kernel) rfl) ?_
  refine ev_go0 (ev_one_pure (M := ev_Mlaw) (pc := 1088) (i := .iload 4) (len := 2) (pc' := 1090) (lv' := [(4, .int (0)), (3, .ref 723), (2, .ref 621), (1, .ref 0), (0, .retAddr 0)]) (st' := [.int (0), .retAddr 0, .int x1, .ref 0]) (by decide +kernel) rfl) ?_
  refine ev_go0 (ev_w_iconst (M := ev_Mlaw) (pc := 1090) (k := 2) (v := 2) (by decide +kernel) (by decide +kernel)) ?_
  refine ev_go0 (ev_w_iadd (M := ev_Mlaw) (pc := 1091) (v := (2)) (by decide +kernel) (by decide +kernel)) ?_
  refine ev_go0 (ev_w_scr (M := ev_Mlaw) (pc := 1092) (v := x2) (j := 2) (by decide +kernel) (by decide +kernel) (by decide +kernel) e2) ?_
  refine ev_go0 (ev_one_pure (M := ev_Mlaw) (pc := 1093) (i := .aload_n 0) (len := 1) (pc' := 1094) (lv' := [(4, .int (0)), (3, .ref 723), (2, .ref 621), (1, .ref 0), (0, .retAddr 0)]) (st' := [.retAddr 0, .int x2, .int x1, .ref 0]) (by decide +kernel) rfl) ?_
  refine ev_go0 (ev_one_pure (M := ev_Mlaw) (pc := 1094) (i := .iload 4) (len := 2) (pc' := 1096) (lv' := [(4, .int (0)), (3, .ref 723), (2, .ref 621), (1, .ref 0), (0, .retAddr 0)]) (st' := [.int (0), .retAddr 0, .int x2, .int x1, .ref 0]) (by decide +kernel) rfl) ?_
  refine ev_go0 (ev_w_iconst (M := ev_Mlaw) (pc := 1096) (k := 3) (v := 3) (by decide +kernel) (by decide +kernel)) ?_
  refine ev_go0 (ev_w_iadd (M := ev_Mlaw) (pc := 1097) (v := (3)) (by decide +kernel) (by decide +kernel)) ?_
  refine ev_go0 (ev_w_scr (M := ev_Mlaw) (pc := 1098) (v := x3) (j := 3) (by decide +kernel) (by decide +kernel) (by decide +kernel) e3) ?_
  refine ev_go0 (ev_one_pure (M := ev_Mlaw) (pc := 1099) (i := .aload_n 3) (len := 1) (pc' := 1100) (lv' := [(4, .int (0)), (3, .ref 723), (2, .ref 621), (1, .ref 0), (0, .retAddr 0)]) (st' := [.ref 723, .int x3, .int x2, .int x1, .ref 0]) (by decide +kernel) rfl) ?_
  refine ev_go (ev_w_stat (M := ev_Mlaw) (pc := 1100) (y := 179) (kind := 8) (Or.inr (Or.inr rfl)) (mi := 377) (na := 5) (by decide +kernel) (by decide +kernel) (by decide +kernel) (by decide +kernel) rfl rfl (ev_k266 x1 hu_x1 x2 hu_x2 x3)) ?_
  refine ev_go0 (ev_w_istore (M := ev_Mlaw) (pc := 1103) (k := 5) (lv' := [(5, .int (1)), (4, .int (0)), (3, .ref 723), (2, .ref 621), (1, .ref 0), (0, .retAddr 0)]) (by decide +kernel) (by decide +kernel) rfl) ?_
  refine ev_go0 (ev_one_pure (M := ev_Mlaw) (pc := 1105) (i := .aload_n 2) (len := 1) (pc' := 1106) (lv' := [(5, .int (1)), (4, .int (0)), (3, .ref 723), (2, .ref 621), (1, .ref 0), (0, .retAddr 0)]) (st' := [.ref 621]) (by decide +kernel) rfl) ?_
  refine ev_go0 (ev_one_pure (M := ev_Mlaw) (pc := 1106) (i := .aload_n 0) (len := 1) (pc' := 1107) (lv' := [(5, .int (1)), (4, .int (0)), (3, .ref 723), (2, .ref 621), (1, .ref 0), (0, .retAddr 0)]) (st' := [.retAddr 0, .ref 621]) (by decide +kernel) rfl) ?_
  refine ev_go0 (ev_one_pure (M := ev_Mlaw) (pc := 1107) (i := .iload 4) (len := 2) (pc' := 1109) (lv' := [(5, .int (1)), (4, .int (0)), (3, .ref 723), (2, .ref 621), (1, .ref 0), (0, .retAddr 0)]) (st' := [.int (0), .retAddr 0, .ref 621]) (by decide +kernel) rfl) ?_
  refine ev_go0 (ev_w_iconst (M := ev_Mlaw) (pc := 1109) (k := 1) (v := 1) (by decide +kernel) (by decide +kernel)) ?_
  refine ev_go0 (ev_w_iadd (M := ev_Mlaw) (pc := 1110) (v := (1)) (by decide +kernel) (by decide +kernel)) ?_
  refine ev_go0 (ev_w_scr (M := ev_Mlaw) (pc := 1111) (v := x1) (j := 1) (by decide +kernel) (by decide +kernel) (by decide +kernel) e1) ?_
  refine ev_go0 (ev_one_pure (M := ev_Mlaw) (pc := 1112) (i := .aload_n 0) (len := 1) (pc' := 1113) (lv' := [(5, .int (1)), (4, .int (0)), (3, .ref 723), (2, .ref 621), (1, .ref 0), (0, .retAddr 0)]) (st' := [.retAddr 0, .int x1, .ref 621]) (by decide +kernel) rfl) ?_
  refine ev_go0 (ev_one_pure (M := ev_Mlaw) (pc := 1113) (i := .iload 4) (len := 2) (pc' := 1115) (lv' := [(5, .int (1)), (4, .int (0)), (3, .ref 723), (2, .ref 621), (1, .ref 0), (0, .retAddr 0)]) (st' := [.int (0), .retAddr 0, .int x1, .ref 621]) (by decide +kernel) rfl) ?_
  refine ev_go0 (ev_w_iconst (M := ev_Mlaw) (pc := 1115) (k := 2) (v := 2) (by decide +kernel) (by decide +kernel)) ?_
  refine ev_go0 (ev_w_iadd (M := ev_Mlaw) (pc := 1116) (v := (2)) (by decide +kernel) (by decide +kernel)) ?_
  refine ev_go0 (ev_w_scr (M := ev_Mlaw) (pc := 1117) (v := x2) (j := 2) (by decide +kernel) (by decide +kernel) (by decide +kernel) e2) ?_
  refine ev_go0 (ev_one_pure (M := ev_Mlaw) (pc := 1118) (i := .aload_n 0) (len := 1) (pc' := 1119) (lv' := [(5, .int (1)), (4, .int (0)), (3, .ref 723), (2, .ref 621), (1, .ref 0), (0, .retAddr 0)]) (st' := [.retAddr 0, .int x2, .int x1, .ref 621]) (by decide +kernel) rfl) ?_
  refine ev_go0 (ev_one_pure (M := ev_Mlaw) (pc := 1119) (i := .iload 4) (len := 2) (pc' := 1121) (lv' := [(5, .int (1)), (4, .int (0)), (3, .ref 723), (2, .ref 621), (1, .ref 0), (0, .retAddr 0)]) (st' := [.int (0), .retAddr 0, .int x2, .int x1, .ref 621]) (by decide +kernel) rfl) ?_
  refine ev_go0 (ev_w_iconst (M := ev_Mlaw) (pc := 1121) (k := 3) (v := 3) (by decide +kernel) (by decide +kernel)) ?_
  refine ev_go0 (ev_w_iadd (M := ev_Mlaw) (pc := 1122) (v := (3)) (by decide +kernel) (by decide +kernel)) ?_
  refine ev_go0 (ev_w_scr (M := ev_Mlaw) (pc := 1123) (v := x3) (j := 3) (by decide +kernel) (by decide +kernel) (by decide +kernel) e3) ?_
  refine ev_go0 (ev_p_virt (M := ev_Mlaw) (pc := 1124) (x := 181) (mi := 332) (na := 3) (by decide +kernel) (by decide +kernel) (by decide +kernel) (by decide +kernel) rfl rfl (ev_recv_of ev_fH621) (ev_k267 x1 hu_x1 x2 hu_x2 x3)) ?_
  refine ev_go0 (ev_w_istore (M := ev_Mlaw) (pc := 1127) (k := 6) (lv' := [(6, .int (0)), (5, .int (1)), (4, .int (0)), (3, .ref 723), (2, .ref 621), (1, .ref 0), (0, .retAddr 0)]) (by decide +kernel) (by decide +kernel) rfl) ?_
  refine ev_go0 (ev_one_pure (M := ev_Mlaw) (pc := 1129) (i := .aload_n 2) (len := 1) (pc' := 1130) (lv' := [(6, .int (0)), (5, .int (1)), (4, .int (0)), (3, .ref 723), (2, .ref 621), (1, .ref 0), (0, .retAddr 0)]) (st' := [.ref 621]) (by decide +kernel) rfl) ?_
  refine ev_go0 (ev_p_virt (M := ev_Mlaw) (pc := 1130) (x := 131) (mi := 220) (na := 0) (by decide +kernel) (by decide +kernel) (by decide +kernel) (by decide +kernel) rfl rfl (ev_recv_of (ev_hself ev_fH621)) ev_k26) ?_
  refine ev_go0 (ev_one_pure (M := ev_Mlaw) (pc := 1133) (i := .iload 5) (len := 2) (pc' := 1135) (lv' := [(6, .int (0)), (5, .int (1)), (4, .int (0)), (3, .ref 723), (2, .ref 621), (1, .ref 0), (0, .retAddr 0)]) (st' := [.int (1), .int (1)]) (by decide +kernel) rfl) ?_
  refine ev_go0 (ev_w_icmp (M := ev_Mlaw) (pc := 1135) (q := .eq) (o := 5) (b := true) (t := 1140) (by decide +kernel) (by decide +kernel) rfl) ?_
  refine ev_go0 (ev_one_pure (M := ev_Mlaw) (pc := 1140) (i := .iload 5) (len := 2) (pc' := 1142) (lv' := [(6, .int (0)), (5, .int (1)), (4, .int (0)), (3, .ref 723), (2, .ref 621), (1, .ref 0), (0, .retAddr 0)]) (st' := [.int (1)]) (by decide +kernel) rfl) ?_
  refine ev_go0 (ev_w_if (M := ev_Mlaw) (pc := 1142) (q := .ne) (o := 15) (b := true) (t := 1157) (by decide +kernel) (by decide +kernel) rfl) ?_
  refine ev_go0 (ev_one_pure (M := ev_Mlaw) (pc := 1157) (i := .goto 1115) (len := 3) (pc' := 2272) (lv' := [(6, .int (0)), (5, .int (1)), (4, .int (0)), (3, .ref 723), (2, .ref 621), (1, .ref 0), (0, .retAddr 0)]) (st' := []) (by decide +kernel) rfl) ?_
  rfl
theorem ev_k268 (x1 : Int32) (hu_x1 : x1.toInt ≤ (-1 : Int)) (x3 : Int32) {n : Nat} : ev_calld 11 180 [.ref 0, .int x1, .int (0), .int x3] ev_H0 n = some (.inr "java/lang/IndexOutOfBoundsException", ev_H0, n, 1, 6) := by
  refine ev_call_thrown (k := 11) (pcR := 40) (x := 160) (lv' := [(5, .ref 263), (4, .null), (0, .ref 0), (1, .int x1), (2, .int (0)), (3, .int x3)]) (by decide +kernel) rfl ?_ (by decide +kernel) (by decide +kernel) (by decide +kernel) (by decide) (by decide)
  show ev_stepn _ 11 (0, [(0, .ref 0), (1, .int x1), (2, .int (0)), (3, .int x3)], [], _, _, 0, 0) = _
  refine ev_go0 (ev_one_pure (M := (ev_Mof 180)) (pc := 0) (i := .aload_n 0) (len := 1) (pc' := 1) (lv' := [(0, .ref 0), (1, .int x1), (2, .int (0)), (3, .int x3)]) (st' := [.ref 0]) (by decide +kernel) rfl) ?_
  refine ev_go0 (ev_one_pure (M := (ev_Mof 180)) (pc := 1) (i := .iload_n 1) (len := 1) (pc' := 2) (lv' := [(0, .ref 0), (1, .int x1), (2, .int (0)), (3, .int x3)]) (st' := [.int x1, .ref 0]) (by decide +kernel) rfl) ?_
  refine ev_go0 (ev_p_virt (M := (ev_Mof 180)) (pc := 2) (x := 156) (mi := 200) (na := 1) (by decide +kernel) (by decide +kernel) (by decide +kernel) (by decide +kernel) rfl rfl (ev_recv_of ev_fH0) (ev_k1 x1 hu_x1)) ?_
  refine ev_go0 (ev_w_astore (M := (ev_Mof 180)) (pc := 5) (k := 4) (lv' := [(4, .null), (0, .ref 0), (1, .int x1), (2, .int (0)), (3, .int x3)]) (by decide +kernel) (by decide +kernel) (Or.inr (Or.inl rfl)) rfl) ?_
  refine ev_go0 (ev_one_pure (M := (ev_Mof 180)) (pc := 7) (i := .aload_n 0) (len := 1) (pc' := 8) (lv' := [(4, .null), (0, .ref 0), (1, .int x1), (2, .int (0)), (3, .int x3)]) (st' := [.ref 0]) (by decide +kernel) rfl) ?_
  refine ev_go0 (ev_p_getf (M := (ev_Mof 180)) (pc := 8) (x := 48) (ci := 12) (f := 8) (fin := 1) (v := .ref 254) (by decide +kernel) (by decide +kernel) ev_fH0 rfl) ?_
  refine ev_go0 (ev_one_pure (M := (ev_Mof 180)) (pc := 11) (i := .iload_n 2) (len := 1) (pc' := 12) (lv' := [(4, .null), (0, .ref 0), (1, .int x1), (2, .int (0)), (3, .int x3)]) (st' := [.int (0), .ref 254]) (by decide +kernel) rfl) ?_
  refine ev_go0 (ev_p_virt (M := (ev_Mof 180)) (pc := 12) (x := 221) (mi := 1) (na := 1) (by decide +kernel) (by decide +kernel) (by decide +kernel) (by decide +kernel) rfl rfl (ev_recv_of ev_fH254) ev_k234) ?_
  refine ev_go0 (ev_w_astore (M := (ev_Mof 180)) (pc := 15) (k := 5) (lv' := [(5, .ref 263), (4, .null), (0, .ref 0), (1, .int x1), (2, .int (0)), (3, .int x3)]) (by decide +kernel) (by decide +kernel) (Or.inl ⟨_, rfl⟩) rfl) ?_
  refine ev_go0 (ev_one_pure (M := (ev_Mof 180)) (pc := 17) (i := .aload 4) (len := 2) (pc' := 19) (lv' := [(5, .ref 263), (4, .null), (0, .ref 0), (1, .int x1), (2, .int (0)), (3, .int x3)]) (st' := [.null]) (by decide +kernel) rfl) ?_
  refine ev_go0 (ev_w_ifnull (M := (ev_Mof 180)) (pc := 19) (o := 21) (t := 40) (by decide +kernel) (Or.inl ⟨rfl, rfl⟩)) ?_
  rfl
theorem ev_k269 (x1 : Int32) (hu_x1 : x1.toInt ≤ (-1 : Int)) (x3 : Int32) {n : Nat} : ev_calld 12 377 [.ref 0, .int x1, .int (0), .int x3, .ref 723] ev_H0 n = some (.inl (some (.int (1))), ev_H0, n, 1, 6) := by
  refine ev_call_int (k := 9) (pcR := 18) (lv' := [(5, .retAddr 1), (0, .ref 0), (1, .int x1), (2, .int (0)), (3, .int x3), (4, .ref 723)]) (v := (1)) (ty := .int) (by decide +kernel) rfl ?_ (by decide +kernel) (by decide +kernel) (by decide +kernel) (by decide)
  show ev_stepn _ 9 (0, [(0, .ref 0), (1, .int x1), (2, .int (0)), (3, .int x3), (4, .ref 723)], [], _, _, 0, 0) = _
  refine ev_go0 (ev_one_pure (M := (ev_Mof 377)) (pc := 0) (i := .aload 4) (len := 2) (pc' := 2) (lv' := [(0, .ref 0), (1, .int x1), (2, .int (0)), (3, .int x3), (4, .ref 723)]) (st' := [.ref 723]) (by decide +kernel) rfl) ?_
  refine ev_go0 (ev_w_iconst (M := (ev_Mof 377)) (pc := 2) (k := 0) (v := 0) (by decide +kernel) (by decide +kernel)) ?_
  refine ev_go0 (ev_one_pure (M := (ev_Mof 377)) (pc := 3) (i := .aload_n 0) (len := 1) (pc' := 4) (lv' := [(0, .ref 0), (1, .int x1), (2, .int (0)), (3, .int x3), (4, .ref 723)]) (st' := [.ref 0, .int (0), .ref 723]) (by decide +kernel) rfl) ?_
  refine ev_go0 (ev_one_pure (M := (ev_Mof 377)) (pc := 4) (i := .iload_n 1) (len := 1) (pc' := 5) (lv' := [(0, .ref 0), (1, .int x1), (2, .int (0)), (3, .int x3), (4, .ref 723)]) (st' := [.int x1, .ref 0, .int (0), .ref 723]) (by decide +kernel) rfl) ?_
  refine ev_go0 (ev_one_pure (M := (ev_Mof 377)) (pc := 5) (i := .iload_n 2) (len := 1) (pc' := 6) (lv' := [(0, .ref 0), (1, .int x1), (2, .int (0)), (3, .int x3), (4, .ref 723)]) (st' := [.int (0), .int x1, .ref 0, .int (0), .ref 723]) (by decide +kernel) rfl) ?_
  refine ev_go0 (ev_one_pure (M := (ev_Mof 377)) (pc := 6) (i := .iload_n 3) (len := 1) (pc' := 7) (lv' := [(0, .ref 0), (1, .int x1), (2, .int (0)), (3, .int x3), (4, .ref 723)]) (st' := [.int x3, .int (0), .int x1, .ref 0, .int (0), .ref 723]) (by decide +kernel) rfl) ?_
  refine ev_go (ev_p_virtX (M := (ev_Mof 377)) (pc := 7) (x := 61) (t := 15) (mi := 180) (na := 3) (by decide +kernel) (by decide +kernel) (by decide +kernel) (by decide +kernel) rfl rfl (ev_recv_of ev_fH0) (ev_k268 x1 hu_x1 x3) (by decide +kernel)) ?_
  refine ev_go0 (ev_w_astore (M := (ev_Mof 377)) (pc := 15) (k := 5) (lv' := [(5, .retAddr 1), (0, .ref 0), (1, .int x1), (2, .int (0)), (3, .int x3), (4, .ref 723)]) (by decide +kernel) (by decide +kernel) (Or.inr (Or.inr ⟨_, rfl⟩)) rfl) ?_
  refine ev_go0 (ev_w_iconst (M := (ev_Mof 377)) (pc := 17) (k := 1) (v := 1) (by decide +kernel) (by decide +kernel)) ?_
  rfl
theorem ev_k270 (x1 : Int32) (hu_x1 : x1.toInt ≤ (-1 : Int)) (x3 : Int32) {n : Nat} : ev_calld 12 332 [.ref 621, .int x1, .int (0), .int x3] ev_H0 n = some (.inl (some (.int (0))), (ev_H0.set 621 (.inr (13, (ev_F621.set 0 (.int (1)))))), n, 0, 0) := by
  refine ev_call_int (k := 11) (pcR := 34) (lv' := [(0, .ref 621), (1, .int x1), (2, .int (0)), (3, .int x3)]) (v := (0)) (ty := .int) (by decide +kernel) rfl ?_ (by decide +kernel) (by decide +kernel) (by decide +kernel) (by decide)
  show ev_stepn _ 11 (0, [(0, .ref 621), (1, .int x1), (2, .int (0)), (3, .int x3)], [], _, _, 0, 0) = _
  refine ev_go0 (ev_one_pure (M := (ev_Mof 332)) (pc := 0) (i := .aload_n 0) (len := 1) (pc' := 1) (lv' := [(0, .ref 621), (1, .int x1), (2, .int (0)), (3, .int x3)]) (st' := [.ref 621]) (by decide +kernel) rfl) ?_
  refine ev_go0 (ev_one_pure (M := (ev_Mof 332)) (pc := 1) (i := .aload_n 0) (len := 1) (pc' := 2) (lv' := [(0, .ref 621), (1, .int x1), (2, .int (0)), (3, .int x3)]) (st' := [.ref 621, .ref 621]) (by decide +kernel) rfl) ?_
  refine ev_go0 (ev_one_pure (M := (ev_Mof 332)) (pc := 2) (i := .iload_n 1) (len := 1) (pc' := 3) (lv' := [(0, .ref 621), (1, .int x1), (2, .int (0)), (3, .int x3)]) (st' := [.int x1, .ref 621, .ref 621]) (by decide +kernel) rfl) ?_
  refine ev_go0 (ev_p_virt (M := (ev_Mof 332)) (pc := 3) (x := 531) (mi := 273) (na := 1) (by decide +kernel) (by decide +kernel) (by decide +kernel) (by decide +kernel) rfl rfl (ev_recv_of ev_fH621) (ev_k24 x1 hu_x1)) ?_
  refine ev_go0 (ev_w_if (M := (ev_Mof 332)) (pc := 6) (q := .eq) (o := 16) (b := true) (t := 22) (by decide +kernel) (by decide +kernel) rfl) ?_
  refine ev_go0 (ev_w_iconst (M := (ev_Mof 332)) (pc := 22) (k := 1) (v := 1) (by decide +kernel) (by decide +kernel)) ?_
  refine ev_go0 (ev_p_putf (M := (ev_Mof 332)) (pc := 23) (x := 321) (ci := 13) (f := 0) (by decide +kernel) (by decide +kernel) ev_fH621 rfl (by decide +kernel)) ?_
  refine ev_go0 (ev_one_pure (M := (ev_Mof 332)) (pc := 26) (i := .aload_n 0) (len := 1) (pc' := 27) (lv' := [(0, .ref 621), (1, .int x1), (2, .int (0)), (3, .int x3)]) (st' := [.ref 621]) (by decide +kernel) rfl) ?_
  refine ev_go0 (ev_p_getf (M := (ev_Mof 332)) (pc := 27) (x := 321) (ci := 13) (f := 0) (fin := 0) (v := .int (1)) (by decide +kernel) (by decide +kernel) (ev_hself ev_fH621) rfl) ?_
  refine ev_go0 (ev_w_if (M := (ev_Mof 332)) (pc := 30) (q := .le) (o := 5) (b := false) (t := 33) (by decide +kernel) (by decide +kernel) rfl) ?_
  refine ev_go0 (ev_w_iconst (M := (ev_Mof 332)) (pc := 33) (k := 0) (v := 0) (by decide +kernel) (by decide +kernel)) ?_
  rfl
theorem ev_p1_14_n0 (xs : Nat → Int32) (x1 : Int32) (hu_x1 : x1.toInt ≤ (-1 : Int)) (x3 : Int32) (e1 : xs 1 = x1) (e2 : xs 2 = (0)) (e3 : xs 3 = x3) : ev_P1 xs 1080 := by
  refine ⟨44, [(6, .int (0)), (5, .int (1)), (4, .int (0)), (3, .ref 723), (2, .ref 621), (1, .ref 0), (0, .retAddr 0)], (ev_H0.set 621 (.inr (13, (ev_F621.set 0 (.int (1)))))), 724, 725, 3553592, ?_, ⟨rfl, rfl, rfl, rfl⟩, rfl, by decide, by decide⟩
  show ev_stepn _ _ (1080, [(4, .int (0)), (3, .ref 723), (2, .ref 621), (1, .ref 0), (0, .retAddr 0)], [], _, _, _, _) = _
  refine ev_go0 (ev_one_pure (M := ev_Mlaw) (pc := 1080) (i := .aload_n 1) (len := 1) (pc' := 1081) (lv' := [(4, .int (0)), (3, .ref 723), (2, .ref 621), (1, .ref 0), (0, .retAddr 0)]) (st' := [.ref 0]) (by decide +kernel) rfl) ?_
  refine ev_go0 (ev_one_pure (M := ev_Mlaw) (pc := 1081) (i := .aload_n 0) (len := 1) (pc' := 1082) (lv' := [(4, .int (0)), (3, .ref 723), (2, .ref 621), (1, .ref 0), (0, .retAddr 0)]) (st' := [.retAddr 0, .ref 0]) (by decide +kernel) rfl) ?_
  refine ev_go0 (ev_one_pure (M := ev_Mlaw) (pc := 1082) (i := .iload 4) (len := 2) (pc' := 1084) (lv' := [(4, .int (0)), (3, .ref 723), (2, .ref 621), (1, .ref 0), (0, .retAddr 0)]) (st' := [.int (0), .retAddr 0, .ref 0]) (by decide +kernel) rfl) ?_
  refine ev_go0 (ev_w_iconst (M := ev_Mlaw) (pc := 1084) (k := 1) (v := 1) (by decide +kernel) (by decide +kernel)) ?_
  refine ev_go0 (ev_w_iadd (M := ev_Mlaw) (pc := 1085) (v := (1)) (by decide +kernel) (by decide +kernel)) ?_
  refine ev_go0 (ev_w_scr (M := ev_Mlaw) (pc := 1086) (v := x1) (j := 1) (by decide +kernel) (by decide +kernel) (by decide +kernel) e1) ?_
  refine ev_go0 (ev_one_pure (M := ev_Mlaw) (pc := 1087) (i := .aload_n 0) (len := 1) (pc' := 1088) (lv' := [(4, .int (0)), (3, .ref 723), (2, .ref 621), (1, .ref 0), (0, .retAddr 0)]) (st' := [.retAddr 0, .int x1, .ref 0]) (by decide +kernel) rfl) ?_
  refine ev_go0 (ev_one_pure (M := ev_Mlaw) (pc := 1088) (i := .iload 4) (len := 2) (pc' := 1090) (lv' := [(4, .int (0)), (3, .ref 723), (2, .ref 621), (1, .ref 0), (0, .retAddr 0)]) (st' := [.int (0), .retAddr 0, .int x1, .ref 0]) (by decide +kernel) rfl) ?_
  refine ev_go0 (ev_w_iconst (M := ev_Mlaw) (pc := 1090) (k := 2) (v := 2) (by decide +kernel) (by decide +kernel)) ?_
  refine ev_go0 (ev_w_iadd (M := ev_Mlaw) (pc := 1091) (v := (2)) (by decide +kernel) (by decide +kernel)) ?_
  refine ev_go0 (ev_w_scr (M := ev_Mlaw) (pc := 1092) (v := (0)) (j := 2) (by decide +kernel) (by decide +kernel) (by decide +kernel) e2) ?_
  refine ev_go0 (ev_one_pure (M := ev_Mlaw) (pc := 1093) (i := .aload_n 0) (len := 1) (pc' := 1094) (lv' := [(4, .int (0)), (3, .ref 723), (2, .ref 621), (1, .ref 0), (0, .retAddr 0)]) (st' := [.retAddr 0, .int (0), .int x1, .ref 0]) (by decide +kernel) rfl) ?_
  refine ev_go0 (ev_one_pure (M := ev_Mlaw) (pc := 1094) (i := .iload 4) (len := 2) (pc' := 1096) (lv' := [(4, .int (0)), (3, .ref 723), (2, .ref 621), (1, .ref 0), (0, .retAddr 0)]) (st' := [.int (0), .retAddr 0, .int (0), .int x1, .ref 0]) (by decide +kernel) rfl) ?_
  refine ev_go0 (ev_w_iconst (M := ev_Mlaw) (pc := 1096) (k := 3) (v := 3) (by decide +kernel) (by decide +kernel)) ?_
  refine ev_go0 (ev_w_iadd (M := ev_Mlaw) (pc := 1097) (v := (3)) (by decide +kernel) (by decide +kernel)) ?_
  refine ev_go0 (ev_w_scr (M := ev_Mlaw) (pc := 1098) (v := x3) (j := 3) (by decide +kernel) (by decide +kernel) (by decide +kernel) e3) ?_
  refine ev_go0 (ev_one_pure (M := ev_Mlaw) (pc := 1099) (i := .aload_n 3) (len := 1) (pc' := 1100) (lv' := [(4, .int (0)), (3, .ref 723), (2, .ref 621), (1, .ref 0), (0, .retAddr 0)]) (st' := [.ref 723, .int x3, .int (0), .int x1, .ref 0]) (by decide +kernel) rfl) ?_
  refine ev_go (ev_w_stat (M := ev_Mlaw) (pc := 1100) (y := 179) (kind := 8) (Or.inr (Or.inr rfl)) (mi := 377) (na := 5) (by decide +kernel) (by decide +kernel) (by decide +kernel) (by decide +kernel) rfl rfl (ev_k269 x1 hu_x1 x3)) ?_
  refine ev_go0 (ev_w_istore (M := ev_Mlaw) (pc := 1103) (k := 5) (lv' := [(5, .int (1)), (4, .int (0)), (3, .ref 723), (2, .ref 621), (1, .ref 0), (0, .retAddr 0)]) (by decide +kernel) (by decide +kernel) rfl) ?_
  refine ev_go0 (ev_one_pure (M := ev_Mlaw) (pc := 1105) (i := .aload_n 2) (len := 1) (pc' := 1106) (lv' := [(5, .int (1)), (4, .int (0)), (3, .ref 723), (2, .ref 621), (1, .ref 0), (0, .retAddr 0)]) (st' := [.ref 621]) (by decide +kernel) rfl) ?_
  refine ev_go0 (ev_one_pure (M := ev_Mlaw) (pc := 1106) (i := .aload_n 0) (len := 1) (pc' := 1107) (lv' := [(5, .int (1)), (4, .int (0)), (3, .ref 723), (2, .ref 621), (1, .ref 0), (0, .retAddr 0)]) (st' := [.retAddr 0, .ref 621]) (by decide +kernel) rfl) ?_
  refine ev_go0 (ev_one_pure (M := ev_Mlaw) (pc := 1107) (i := .iload 4) (len := 2) (pc' := 1109) (lv' := [(5, .int (1)), (4, .int (0)), (3, .ref 723), (2, .ref 621), (1, .ref 0), (0, .retAddr 0)]) (st' := [.int (0), .retAddr 0, .ref 621]) (by decide +kernel) rfl) ?_
  refine ev_go0 (ev_w_iconst (M := ev_Mlaw) (pc := 1109) (k := 1) (v := 1) (by decide +kernel) (by decide +kernel)) ?_
  refine ev_go0 (ev_w_iadd (M := ev_Mlaw) (pc := 1110) (v := (1)) (by decide +kernel) (by decide +kernel)) ?_
  refine ev_go0 (ev_w_scr (M := ev_Mlaw) (pc := 1111) (v := x1) (j := 1) (by decide +kernel) (by decide +kernel) (by decide +kernel) e1) ?_
  refine ev_go0 (ev_one_pure (M := ev_Mlaw) (pc := 1112) (i := .aload_n 0) (len := 1) (pc' := 1113) (lv' := [(5, .int (1)), (4, .int (0)), (3, .ref 723), (2, .ref 621), (1, .ref 0), (0, .retAddr 0)]) (st' := [.retAddr 0, .int x1, .ref 621]) (by decide +kernel) rfl) ?_
  refine ev_go0 (ev_one_pure (M := ev_Mlaw) (pc := 1113) (i := .iload 4) (len := 2) (pc' := 1115) (lv' := [(5, .int (1)), (4, .int (0)), (3, .ref 723), (2, .ref 621), (1, .ref 0), (0, .retAddr 0)]) (st' := [.int (0), .retAddr 0, .int x1, .ref 621]) (by decide +kernel) rfl) ?_
  refine ev_go0 (ev_w_iconst (M := ev_Mlaw) (pc := 1115) (k := 2) (v := 2) (by decide +kernel) (by decide +kernel)) ?_
  refine ev_go0 (ev_w_iadd (M := ev_Mlaw) (pc := 1116) (v := (2)) (by decide +kernel) (by decide +kernel)) ?_
  refine ev_go0 (ev_w_scr (M := ev_Mlaw) (pc := 1117) (v := (0)) (j := 2) (by decide +kernel) (by decide +kernel) (by decide +kernel) e2) ?_
  refine ev_go0 (ev_one_pure (M := ev_Mlaw) (pc := 1118) (i := .aload_n 0) (len := 1) (pc' := 1119) (lv' := [(5, .int (1)), (4, .int (0)), (3, .ref 723), (2, .ref 621), (1, .ref 0), (0, .retAddr 0)]) (st' := [.retAddr 0, .int (0), .int x1, .ref 621]) (by decide +kernel) rfl) ?_
  refine ev_go0 (ev_one_pure (M := ev_Mlaw) (pc := 1119) (i := .iload 4) (len := 2) (pc' := 1121) (lv' := [(5, .int (1)), (4, .int (0)), (3, .ref 723), (2, .ref 621), (1, .ref 0), (0, .retAddr 0)]) (st' := [.int (0), .retAddr 0, .int (0), .int x1, .ref 621]) (by decide +kernel) rfl) ?_
  refine ev_go0 (ev_w_iconst (M := ev_Mlaw) (pc := 1121) (k := 3) (v := 3) (by decide +kernel) (by decide +kernel)) ?_
  refine ev_go0 (ev_w_iadd (M := ev_Mlaw) (pc := 1122) (v := (3)) (by decide +kernel) (by decide +kernel)) ?_
  refine ev_go0 (ev_w_scr (M := ev_Mlaw) (pc := 1123) (v := x3) (j := 3) (by decide +kernel) (by decide +kernel) (by decide +kernel) e3) ?_
  refine ev_go0 (ev_p_virt (M := ev_Mlaw) (pc := 1124) (x := 181) (mi := 332) (na := 3) (by decide +kernel) (by decide +kernel) (by decide +kernel) (by decide +kernel) rfl rfl (ev_recv_of ev_fH621) (ev_k270 x1 hu_x1 x3)) ?_
  refine ev_go0 (ev_w_istore (M := ev_Mlaw) (pc := 1127) (k := 6) (lv' := [(6, .int (0)), (5, .int (1)), (4, .int (0)), (3, .ref 723), (2, .ref 621), (1, .ref 0), (0, .retAddr 0)]) (by decide +kernel) (by decide +kernel) rfl) ?_
  refine ev_go0 (ev_one_pure (M := ev_Mlaw) (pc := 1129) (i := .aload_n 2) (len := 1) (pc' := 1130) (lv' := [(6, .int (0)), (5, .int (1)), (4, .int (0)), (3, .ref 723), (2, .ref 621), (1, .ref 0), (0, .retAddr 0)]) (st' := [.ref 621]) (by decide +kernel) rfl) ?_
  refine ev_go0 (ev_p_virt (M := ev_Mlaw) (pc := 1130) (x := 131) (mi := 220) (na := 0) (by decide +kernel) (by decide +kernel) (by decide +kernel) (by decide +kernel) rfl rfl (ev_recv_of (ev_hself ev_fH621)) ev_k26) ?_
  refine ev_go0 (ev_one_pure (M := ev_Mlaw) (pc := 1133) (i := .iload 5) (len := 2) (pc' := 1135) (lv' := [(6, .int (0)), (5, .int (1)), (4, .int (0)), (3, .ref 723), (2, .ref 621), (1, .ref 0), (0, .retAddr 0)]) (st' := [.int (1), .int (1)]) (by decide +kernel) rfl) ?_
  refine ev_go0 (ev_w_icmp (M := ev_Mlaw) (pc := 1135) (q := .eq) (o := 5) (b := true) (t := 1140) (by decide +kernel) (by decide +kernel) rfl) ?_
  refine ev_go0 (ev_one_pure (M := ev_Mlaw) (pc := 1140) (i := .iload 5) (len := 2) (pc' := 1142) (lv' := [(6, .int (0)), (5, .int (1)), (4, .int (0)), (3, .ref 723), (2, .ref 621), (1, .ref 0), (0, .retAddr 0)]) (st' := [.int (1)]) (by decide +kernel) rfl) ?_
  refine ev_go0 (ev_w_if (M := ev_Mlaw) (pc := 1142) (q := .ne) (o := 15) (b := true) (t := 1157) (by decide +kernel) (by decide +kernel) rfl) ?_
  refine ev_go0 (ev_one_pure (M := ev_Mlaw) (pc := 1157) (i := .goto 1115) (len := 3) (pc' := 2272) (lv' := [(6, .int (0)), (5, .int (1)), (4, .int (0)), (3, .ref 723), (2, .ref 621), (1, .ref 0), (0, .retAddr 0)]) (st' := []) (by decide +kernel) rfl) ?_
  rfl
theorem ev_k271 (x1 : Int32) (hu_x1 : x1.toInt ≤ (-1 : Int)) (x3 : Int32) {n : Nat} : ev_calld 11 180 [.ref 0, .int x1, .int (1), .int x3] ev_H0 n = some (.inr "java/lang/IndexOutOfBoundsException", ev_H0, n, 1, 6) := by
  refine ev_call_thrown (k := 11) (pcR := 40) (x := 160) (lv' := [(5, .ref 265), (4, .null), (0, .ref 0), (1, .int x1), (2, .int (1)), (3, .int x3)]) (by decide +kernel) rfl ?_ (by decide +kernel) (by decide +kernel) (by decide +kernel) (by decide) (by decide)
  show ev_stepn _ 11 (0, [(0, .ref 0), (1, .int x1), (2, .int (1)), (3, .int x3)], [], _, _, 0, 0) = _
  refine ev_go0 (ev_one_pure (M := (ev_Mof 180)) (pc := 0) (i := .aload_n 0) (len := 1) (pc' := 1) (lv' := [(0, .ref 0), (1, .int x1), (2, .int (1)), (3, .int x3)]) (st' := [.ref 0]) (by decide +kernel) rfl) ?_
  refine ev_go0 (ev_one_pure (M := (ev_Mof 180)) (pc := 1) (i := .iload_n 1) (len := 1) (pc' := 2) (lv' := [(0, .ref 0), (1, .int x1), (2, .int (1)), (3, .int x3)]) (st' := [.int x1, .ref 0]) (by decide +kernel) rfl) ?_
  refine ev_go0 (ev_p_virt (M := (ev_Mof 180)) (pc := 2) (x := 156) (mi := 200) (na := 1) (by decide +kernel) (by decide +kernel) (by decide +kernel) (by decide +kernel) rfl rfl (ev_recv_of ev_fH0) (ev_k1 x1 hu_x1)) ?_
  refine ev_go0 (ev_w_astore (M := (ev_Mof 180)) (pc := 5) (k := 4) (lv' := [(4, .null), (0, .ref 0), (1, .int x1), (2, .int (1)), (3, .int x3)]) (by decide +kernel) (by decide +kernel) (Or.inr (Or.inl rfl)) rfl) ?_
  refine ev_go0 (ev_one_pure (M := (ev_Mof 180)) (pc := 7) (i := .aload_n 0) (len := 1) (pc' := 8) (lv' := [(4, .null), (0, .ref 0), (1, .int x1), (2, .int (1)), (3, .int x3)]) (st' := [.ref 0]) (by decide +kernel) rfl) ?_
  refine ev_go0 (ev_p_getf (M := (ev_Mof 180)) (pc := 8) (x := 48) (ci := 12) (f := 8) (fin := 1) (v := .ref 254) (by decide +kernel) (by decide +kernel) ev_fH0 rfl) ?_
  refine ev_go0 (ev_one_pure (M := (ev_Mof 180)) (pc := 11) (i := .iload_n 2) (len := 1) (pc' := 12) (lv' := [(4, .null), (0, .ref 0), (1, .int x1), (2, .int (1)), (3, .int x3)]) (st' := [.int (1), .ref 254]) (by decide +kernel) rfl) ?_
  refine ev_go0 (ev_p_virt (M := (ev_Mof 180)) (pc := 12) (x := 221) (mi := 1) (na := 1) (by decide +kernel) (by decide +kernel) (by decide +kernel) (by decide +kernel) rfl rfl (ev_recv_of ev_fH254) ev_k238) ?_
  refine ev_go0 (ev_w_astore (M := (ev_Mof 180)) (pc := 15) (k := 5) (lv' := [(5, .ref 265), (4, .null), (0, .ref 0), (1, .int x1), (2, .int (1)), (3, .int x3)]) (by decide +kernel) (by decide +kernel) (Or.inl ⟨_, rfl⟩) rfl) ?_
  refine ev_go0 (ev_one_pure (M := (ev_Mof 180)) (pc := 17) (i := .aload 4) (len := 2) (pc' := 19) (lv' := [(5, .ref 265), (4, .null), (0, .ref 0), (1, .int x1), (2, .int (1)), (3, .int x3)]) (st' := [.null]) (by decide +kernel) rfl) ?_
  refine ev_go0 (ev_w_ifnull (M := (ev_Mof 180)) (pc := 19) (o := 21) (t := 40) (by decide +kernel) (Or.inl ⟨rfl, rfl⟩)) ?_
  rfl
theorem ev_k272 (x1 : Int32) (hu_x1 : x1.toInt ≤ (-1 : Int)) (x3 : Int32) {n : Nat} : ev_calld 12 377 [.ref 0, .int x1, .int (1), .int x3, .ref 723] ev_H0 n = some (.inl (some (.int (1))), ev_H0, n, 1, 6) := by
  refine ev_call_int (k := 9) (pcR := 18) (lv' := [(5, .retAddr 1), (0, .ref 0), (1, .int x1), (2, .int (1)), (3, .int x3), (4, .ref 723)]) (v := (1)) (ty := .int) (by decide +kernel) rfl ?_ (by decide +kernel) (by decide +kernel) (by decide +kernel) (by decide)
  show ev_stepn _ 9 (0, [(0, .ref 0), (1, .int x1), (2, .int (1)), (3, .int x3), (4, .ref 723)], [], _, _, 0, 0) = _
  refine ev_go0 (ev_one_pure (M := (ev_Mof 377)) (pc := 0) (i := .aload 4) (len := 2) (pc' := 2) (lv' := [(0, .ref 0), (1, .int x1), (2, .int (1)), (3, .int x3), (4, .ref 723)]) (st' := [.ref 723]) (by decide +kernel) rfl) ?_
  refine ev_go0 (ev_w_iconst (M := (ev_Mof 377)) (pc := 2) (k := 0) (v := 0) (by decide +kernel) (by decide +kernel)) ?_
  refine ev_go0 (ev_one_pure (M := (ev_Mof 377)) (pc := 3) (i := .aload_n 0) (len := 1) (pc' := 4) (lv' := [(0, .ref 0), (1, .int x1), (2, .int (1)), (3, .int x3), (4, .ref 723)]) (st' := [.ref 0, .int (0), .ref 723]) (by decide +kernel) rfl) ?_
  refine ev_go0 (ev_one_pure (M := (ev_Mof 377)) (pc := 4) (i := .iload_n 1) (len := 1) (pc' := 5) (lv' := [(0, .ref 0), (1, .int x1), (2, .int (1)), (3, .int x3), (4, .ref 723)]) (st' := [.int x1, .ref 0, .int (0), .ref 723]) (by decide +kernel) rfl) ?_
  refine ev_go0 (ev_one_pure (M := (ev_Mof 377)) (pc := 5) (i := .iload_n 2) (len := 1) (pc' := 6) (lv' := [(0, .ref 0), (1, .int x1), (2, .int (1)), (3, .int x3), (4, .ref 723)]) (st' := [.int (1), .int x1, .ref 0, .int (0), .ref 723]) (by decide +kernel) rfl) ?_
  refine ev_go0 (ev_one_pure (M := (ev_Mof 377)) (pc := 6) (i := .iload_n 3) (len := 1) (pc' := 7) (lv' := [(0, .ref 0), (1, .int x1), (2, .int (1)), (3, .int x3), (4, .ref 723)]) (st' := [.int x3, .int (1), .int x1, .ref 0, .int (0), .ref 723]) (by decide +kernel) rfl) ?_
  refine ev_go (ev_p_virtX (M := (ev_Mof 377)) (pc := 7) (x := 61) (t := 15) (mi := 180) (na := 3) (by decide +kernel) (by decide +kernel) (by decide +kernel) (by decide +kernel) rfl rfl (ev_recv_of ev_fH0) (ev_k271 x1 hu_x1 x3) (by decide +kernel)) ?_
  refine ev_go0 (ev_w_astore (M := (ev_Mof 377)) (pc := 15) (k := 5) (lv' := [(5, .retAddr 1), (0, .ref 0), (1, .int x1), (2, .int (1)), (3, .int x3), (4, .ref 723)]) (by decide +kernel) (by decide +kernel) (Or.inr (Or.inr ⟨_, rfl⟩)) rfl) ?_
  refine ev_go0 (ev_w_iconst (M := (ev_Mof 377)) (pc := 17) (k := 1) (v := 1) (by decide +kernel) (by decide +kernel)) ?_
  rfl
theorem ev_k273 (x1 : Int32) (hu_x1 : x1.toInt ≤ (-1 : Int)) (x3 : Int32) {n : Nat} : ev_calld 12 332 [.ref 621, .int x1, .int (1), .int x3] ev_H0 n = some (.inl (some (.int (0))), (ev_H0.set 621 (.inr (13, (ev_F621.set 0 (.int (1)))))), n, 0, 0) := by
  refine ev_call_int (k := 11) (pcR := 34) (lv' := [(0, .ref 621), (1, .int x1), (2, .int (1)), (3, .int x3)]) (v := (0)) (ty := .int) (by decide +kernel) rfl ?_ (by decide +kernel) (by decide +kernel) (by decide +kernel) (by decide)
  show ev_stepn _ 11 (0, [(0, .ref 621), (1, .int x1), (2, .int (1)), (3, .int x3)], [], _, _, 0, 0) = _
  refine ev_go0 (ev_one_pure (M := (ev_Mof 332)) (pc := 0) (i := .aload_n 0) (len := 1) (pc' := 1) (lv' := [(0, .ref 621), (1, .int x1), (2, .int (1)), (3, .int x3)]) (st' := [.ref 621]) (by decide +kernel) rfl) ?_
  refine ev_go0 (ev_one_pure (M := (ev_Mof 332)) (pc := 1) (i := .aload_n 0) (len := 1) (pc' := 2) (lv' := [(0, .ref 621), (1, .int x1), (2, .int (1)), (3, .int x3)]) (st' := [.ref 621, .ref 621]) (by decide +kernel) rfl) ?_
  refine ev_go0 (ev_one_pure (M := (ev_Mof 332)) (pc := 2) (i := .iload_n 1) (len := 1) (pc' := 3) (lv' := [(0, .ref 621), (1, .int x1), (2, .int (1)), (3, .int x3)]) (st' := [.int x1, .ref 621, .ref 621]) (by decide +kernel) rfl) ?_
  refine ev_go0 (ev_p_virt (M := (ev_Mof 332)) (pc := 3) (x := 531) (mi := 273) (na := 1) (by decide +kernel) (by decide +kernel) (by decide +kernel) (by decide +kernel) rfl rfl (ev_recv_of ev_fH621) (ev_k24 x1 hu_x1)) ?_
  refine ev_go0 (ev_w_if (M := (ev_Mof 332)) (pc := 6) (q := .eq) (o := 16) (b := true) (t := 22) (by decide +kernel) (by decide +kernel) rfl) ?_
  refine ev_go0 (ev_w_iconst (M := (ev_Mof 332)) (pc := 22) (k := 1) (v := 1) (by decide +kernel) (by decide +kernel)) ?_
  refine ev_go0 (ev_p_putf (M := (ev_Mof 332)) (pc := 23) (x := 321) (ci := 13) (f := 0) (by decide +kernel) (by decide +kernel) ev_fH621 rfl (by decide +kernel)) ?_
  refine ev_go0 (ev_one_pure (M := (ev_Mof 332)) (pc := 26) (i := .aload_n 0) (len := 1) (pc' := 27) (lv' := [(0, .ref 621), (1, .int x1), (2, .int (1)), (3, .int x3)]) (st' := [.ref 621]) (by decide +kernel) rfl) ?_
  refine ev_go0 (ev_p_getf (M := (ev_Mof 332)) (pc := 27) (x := 321) (ci := 13) (f := 0) (fin := 0) (v := .int (1)) (by decide +kernel) (by decide +kernel) (ev_hself ev_fH621) rfl) ?_
  refine ev_go0 (ev_w_if (M := (ev_Mof 332)) (pc := 30) (q := .le) (o := 5) (b := false) (t := 33) (by decide +kernel) (by decide +kernel) rfl) ?_
  refine ev_go0 (ev_w_iconst (M := (ev_Mof 332)) (pc := 33) (k := 0) (v := 0) (by decide +kernel) (by decide +kernel)) ?_
  rfl
theorem ev_p1_14_n1 (xs : Nat → Int32) (x1 : Int32) (hu_x1 : x1.toInt ≤ (-1 : Int)) (x3 : Int32) (e1 : xs 1 = x1) (e2 : xs 2 = (1)) (e3 : xs 3 = x3) : ev_P1 xs 1080 := by
  refine ⟨44, [(6, .int (0)), (5, .int (1)), (4, .int (0)), (3, .ref 723), (2, .ref 621), (1, .ref 0), (0, .retAddr 0)], (ev_H0.set 621 (.inr (13, (ev_F621.set 0 (.int (1)))))), 724, 725, 3553592, ?_, ⟨rfl, rfl, rfl, rfl⟩, rfl, by decide, by decide⟩
  show ev_stepn _ _ (1080, [(4, .int (0)), (3, .ref 723), (2, .ref 621), (1, .ref 0), (0, .retAddr 0)], [], _, _, _, _) = _
  refine ev_go0 (ev_one_pure (M := ev_Mlaw) (pc := 1080) (i := .aload_n 1) (len := 1) (pc' := 1081) (lv' := [(4, .int (0)), (3, .ref 723), (2, .ref 621), (1, .ref 0), (0, .retAddr 0)]) (st' := [.ref 0]) (by decide +kernel) rfl) ?_
  refine ev_go0 (ev_one_pure (M := ev_Mlaw) (pc := 1081) (i := .aload_n 0) (len := 1) (pc' := 1082) (lv' := [(4, .int (0)), (3, .ref 723), (2, .ref 621), (1, .ref 0), (0, .retAddr 0)]) (st' := [.retAddr 0, .ref 0]) (by decide +kernel) rfl) ?_
  refine ev_go0 (ev_one_pure (M := ev_Mlaw) (pc := 1082) (i := .iload 4) (len := 2) (pc' := 1084) (lv' := [(4, .int (0)), (3, .ref 723), (2, .ref 621), (1, .ref 0), (0, .retAddr 0)]) (st' := [.int (0), .retAddr 0, .ref 0]) (by decide +kernel) rfl) ?_
  refine ev_go0 (ev_w_iconst (M := ev_Mlaw) (pc := 1084) (k := 1) (v := 1) (by decide +kernel) (by decide +kernel)) ?_
  refine ev_go0 (ev_w_iadd (M := ev_Mlaw) (pc := 1085) (v := (1)) (by decide +kernel) (by decide +kernel)) ?_
  refine ev_go0 (ev_w_scr (M := ev_Mlaw) (pc := 1086) (v := x1) (j := 1) (by decide +kernel) (by decide +kernel) (by decide +kernel) e1) ?_
  refine ev_go0 (ev_one_pure (M := ev_Mlaw) (pc := 1087) (i := .aload_n 0) (len := 1) (pc' := 1088) (lv' := [(4, .int (0)), (3, .ref 723), (2, .ref 621), (1, .ref 0), (0, .retAddr 0)]) (st' := [.retAddr 0, .int x1, .ref 0]) (by decide +kernel) rfl) ?_
  refine ev_go0 (ev_one_pure (M := ev_Mlaw) (pc := 1088) (i := .iload 4) (len := 2) (pc' := 1090) (lv' := [(4, .int (0)), (3, .ref 723), (2, .ref 621), (1, .ref 0), (0, .retAddr 0)]) (st' := [.int (0), .retAddr 0, .int x1, .ref 0]) (by decide +kernel) rfl) ?_
  refine ev_go0 (ev_w_iconst (M := ev_Mlaw) (pc := 1090) (k := 2) (v := 2) (by decide +kernel) (by decide +kernel)) ?_
  refine ev_go0 (ev_w_iadd (M := ev_Mlaw) (pc := 1091) (v := (2)) (by decide +kernel) (by decide +kernel)) ?_
  refine ev_go0 (ev_w_scr (M := ev_Mlaw) (pc := 1092) (v := (1)) (j := 2) (by decide +kernel) (by decide +kernel) (by decide +kernel) e2) ?_
  refine ev_go0 (ev_one_pure (M := ev_Mlaw) (pc := 1093) (i := .aload_n 0) (len := 1) (pc' := 1094) (lv' := [(4, .int (0)), (3, .ref 723), (2, .ref 621), (1, .ref 0), (0, .retAddr 0)]) (st' := [.retAddr 0, .int (1), .int x1, .ref 0]) (by decide +kernel) rfl) ?_
  refine ev_go0 (ev_one_pure (M := ev_Mlaw) (pc := 1094) (i := .iload 4) (len := 2) (pc' := 1096) (lv' := [(4, .int (0)), (3, .ref 723), (2, .ref 621), (1, .ref 0), (0, .retAddr 0)]) (st' := [.int (0), .retAddr 0, .int (1), .int x1, .ref 0]) (by decide +kernel) rfl) ?_
  refine ev_go0 (ev_w_iconst (M := ev_Mlaw) (pc := 1096) (k := 3) (v := 3) (by decide +kernel) (by decide +kernel)) ?_
  refine ev_go0 (ev_w_iadd (M := ev_Mlaw) (pc := 1097) (v := (3)) (by decide +kernel) (by decide +kernel)) ?_
  refine ev_go0 (ev_w_scr (M := ev_Mlaw) (pc := 1098) (v := x3) (j := 3) (by decide +kernel) (by decide +kernel) (by decide +kernel) e3) ?_
  refine ev_go0 (ev_one_pure (M := ev_Mlaw) (pc := 1099) (i := .aload_n 3) (len := 1) (pc' := 1100) (lv' := [(4, .int (0)), (3, .ref 723), (2, .ref 621), (1, .ref 0), (0, .retAddr 0)]) (st' := [.ref 723, .int x3, .int (1), .int x1, .ref 0]) (by decide +kernel) rfl) ?_
  refine ev_go (ev_w_stat (M := ev_Mlaw) (pc := 1100) (y := 179) (kind := 8) (Or.inr (Or.inr rfl)) (mi := 377) (na := 5) (by decide +kernel) (by decide +kernel) (by decide +kernel) (by decide +kernel) rfl rfl (ev_k272 x1 hu_x1 x3)) ?_
  refine ev_go0 (ev_w_istore (M := ev_Mlaw) (pc := 1103) (k := 5) (lv' := [(5, .int (1)), (4, .int (0)), (3, .ref 723), (2, .ref 621), (1, .ref 0), (0, .retAddr 0)]) (by decide +kernel) (by decide +kernel) rfl) ?_
  refine ev_go0 (ev_one_pure (M := ev_Mlaw) (pc := 1105) (i := .aload_n 2) (len := 1) (pc' := 1106) (lv' := [(5, .int (1)), (4, .int (0)), (3, .ref 723), (2, .ref 621), (1, .ref 0), (0, .retAddr 0)]) (st' := [.ref 621]) (by decide +kernel) rfl) ?_
  refine ev_go0 (ev_one_pure (M := ev_Mlaw) (pc := 1106) (i := .aload_n 0) (len := 1) (pc' := 1107) (lv' := [(5, .int (1)), (4, .int (0)), (3, .ref 723), (2, .ref 621), (1, .ref 0), (0, .retAddr 0)]) (st' := [.retAddr 0, .ref 621]) (by decide +kernel) rfl) ?_
  refine ev_go0 (ev_one_pure (M := ev_Mlaw) (pc := 1107) (i := .iload 4) (len := 2) (pc' := 1109) (lv' := [(5, .int (1)), (4, .int (0)), (3, .ref 723), (2, .ref 621), (1, .ref 0), (0, .retAddr 0)]) (st' := [.int (0), .retAddr 0, .ref 621]) (by decide +kernel) rfl) ?_
  refine ev_go0 (ev_w_iconst (M := ev_Mlaw) (pc := 1109) (k := 1) (v := 1) (by decide +kernel) (by decide +kernel)) ?_
  refine ev_go0 (ev_w_iadd (M := ev_Mlaw) (pc := 1110) (v := (1)) (by decide +kernel) (by decide +kernel)) ?_
  refine ev_go0 (ev_w_scr (M := ev_Mlaw) (pc := 1111) (v := x1) (j := 1) (by decide +kernel) (by decide +kernel) (by decide +kernel) e1) ?_
  refine ev_go0 (ev_one_pure (M := ev_Mlaw) (pc := 1112) (i := .aload_n 0) (len := 1) (pc' := 1113) (lv' := [(5, .int (1)), (4, .int (0)), (3, .ref 723), (2, .ref 621), (1, .ref 0), (0, .retAddr 0)]) (st' := [.retAddr 0, .int x1, .ref 621]) (by decide +kernel) rfl) ?_
  refine ev_go0 (ev_one_pure (M := ev_Mlaw) (pc := 1113) (i := .iload 4) (len := 2) (pc' := 1115) (lv' := [(5, .int (1)), (4, .int (0)), (3, .ref 723), (2, .ref 621), (1, .ref 0), (0, .retAddr 0)]) (st' := [.int (0), .retAddr 0, .int x1, .ref 621]) (by decide +kernel) rfl) ?_
  refine ev_go0 (ev_w_iconst (M := ev_Mlaw) (pc := 1115) (k := 2) (v := 2) (by decide +kernel) (by decide +kernel)) ?_
  refine ev_go0 (ev_w_iadd (M := ev_Mlaw) (pc := 1116) (v := (2)) (by decide +kernel) (by decide +kernel)) ?_
  refine ev_go0 (ev_w_scr (M := ev_Mlaw) (pc := 1117) (v := (1)) (j := 2) (by decide +kernel) (by decide +kernel) (by decide +kernel) e2) ?_
  refine ev_go0 (ev_one_pure (M := ev_Mlaw) (pc := 1118) (i := .aload_n 0) (len := 1) (pc' := 1119) (lv' := [(5, .int (1)), (4, .int (0)), (3, .ref 723), (2, .ref 621), (1, .ref 0), (0, .retAddr 0)]) (st' := [.retAddr 0, .int (1), .int x1, .ref 621]) (by decide +kernel) rfl) ?_
  refine ev_go0 (ev_one_pure (M := ev_Mlaw) (pc := 1119) (i := .iload 4) (len := 2) (pc' := 1121) (lv' := [(5, .int (1)), (4, .int (0)), (3, .ref 723), (2, .ref 621), (1, .ref 0), (0, .retAddr 0)]) (st' := [.int (0), .retAddr 0, .int (1), .int x1, .ref 621]) (by decide +kernel) rfl) ?_
  refine ev_go0 (ev_w_iconst (M := ev_Mlaw) (pc := 1121) (k := 3) (v := 3) (by decide +kernel) (by decide +kernel)) ?_
  refine ev_go0 (ev_w_iadd (M := ev_Mlaw) (pc := 1122) (v := (3)) (by decide +kernel) (by decide +kernel)) ?_
  refine ev_go0 (ev_w_scr (M := ev_Mlaw) (pc := 1123) (v := x3) (j := 3) (by decide +kernel) (by decide +kernel) (by decide +kernel) e3) ?_
  refine ev_go0 (ev_p_virt (M := ev_Mlaw) (pc := 1124) (x := 181) (mi := 332) (na := 3) (by decide +kernel) (by decide +kernel) (by decide +kernel) (by decide +kernel) rfl rfl (ev_recv_of ev_fH621) (ev_k273 x1 hu_x1 x3)) ?_
  refine ev_go0 (ev_w_istore (M := ev_Mlaw) (pc := 1127) (k := 6) (lv' := [(6, .int (0)), (5, .int (1)), (4, .int (0)), (3, .ref 723), (2, .ref 621), (1, .ref 0), (0, .retAddr 0)]) (by decide +kernel) (by decide +kernel) rfl) ?_
  refine ev_go0 (ev_one_pure (M := ev_Mlaw) (pc := 1129) (i := .aload_n 2) (len := 1) (pc' := 1130) (lv' := [(6, .int (0)), (5, .int (1)), (4, .int (0)), (3, .ref 723), (2, .ref 621), (1, .ref 0), (0, .retAddr 0)]) (st' := [.ref 621]) (by decide +kernel) rfl) ?_
  refine ev_go0 (ev_p_virt (M := ev_Mlaw) (pc := 1130) (x := 131) (mi := 220) (na := 0) (by decide +kernel) (by decide +kernel) (by decide +kernel) (by decide +kernel) rfl rfl (ev_recv_of (ev_hself ev_fH621)) ev_k26) ?_
  refine ev_go0 (ev_one_pure (M := ev_Mlaw) (pc := 1133) (i := .iload 5) (len := 2) (pc' := 1135) (lv' := [(6, .int (0)), (5, .int (1)), (4, .int (0)), (3, .ref 723), (2, .ref 621), (1, .ref 0), (0, .retAddr 0)]) (st' := [.int (1), .int (1)]) (by decide +kernel) rfl) ?_
  refine ev_go0 (ev_w_icmp (M := ev_Mlaw) (pc := 1135) (q := .eq) (o := 5) (b := true) (t := 1140) (by decide +kernel) (by decide +kernel) rfl) ?_
  refine ev_go0 (ev_one_pure (M := ev_Mlaw) (pc := 1140) (i := .iload 5) (len := 2) (pc' := 1142) (lv' := [(6, .int (0)), (5, .int (1)), (4, .int (0)), (3, .ref 723), (2, .ref 621), (1, .ref 0), (0, .retAddr 0)]) (st' := [.int (1)]) (by decide +kernel) rfl) ?_
  refine ev_go0 (ev_w_if (M := ev_Mlaw) (pc := 1142) (q := .ne) (o := 15) (b := true) (t := 1157) (by decide +kernel) (by decide +kernel) rfl) ?_
  refine ev_go0 (ev_one_pure (M := ev_Mlaw) (pc := 1157) (i := .goto 1115) (len := 3) (pc' := 2272) (lv' := [(6, .int (0)), (5, .int (1)), (4, .int (0)), (3, .ref 723), (2, .ref 621), (1, .ref 0), (0, .retAddr 0)]) (st' := []) (by decide +kernel) rfl) ?_
  rfl
theorem ev_k274 (x1 : Int32) (hu_x1 : x1.toInt ≤ (-1 : Int)) (x3 : Int32) {n : Nat} : ev_calld 11 180 [.ref 0, .int x1, .int (2), .int x3] ev_H0 n = some (.inr "java/lang/IndexOutOfBoundsException", ev_H0, n, 1, 6) := by
  refine ev_call_thrown (k := 11) (pcR := 40) (x := 160) (lv' := [(5, .ref 267), (4, .null), (0, .ref 0), (1, .int x1), (2, .int (2)), (3, .int x3)]) (by decide +kernel) rfl ?_ (by decide +kernel) (by decide +kernel) (by decide +kernel) (by decide) (by decide)
  show ev_stepn _ 11 (0, [(0, .ref 0), (1, .int x1), (2, .int (2)), (3, .int x3)], [], _, _, 0, 0) = _
  refine ev_go0 (ev_one_pure (M := (ev_Mof 180)) (pc := 0) (i := .aload_n 0) (len := 1) (pc' := 1) (lv' := [(0, .ref 0), (1, .int x1), (2, .int (2)), (3, .int x3)]) (st' := [.ref 0]) (by decide +kernel) rfl) ?_
  refine ev_go0 (ev_one_pure (M := (ev_Mof 180)) (pc := 1) (i := .iload_n 1) (len := 1) (pc' := 2) (lv' := [(0, .ref 0), (1, .int x1), (2, .int (2)), (3, .int x3)]) (st' := [.int x1, .ref 0]) (by decide +kernel) rfl) ?_
  refine ev_go0 (ev_p_virt (M := (ev_Mof 180)) (pc := 2) (x := 156) (mi := 200) (na := 1) (by decide +kernel) (by decide +kernel) (by decide +kernel) (by decide +kernel) rfl rfl (ev_recv_of ev_fH0) (ev_k1 x1 hu_x1)) ?_
  refine ev_go0 (ev_w_astore (M := (ev_Mof 180)) (pc := 5) (k := 4) (lv' := [(4, .null), (0, .ref 0), (1, .int x1), (2, .int (2)), (3, .int x3)]) (by decide +kernel) (by decide +kernel) (Or.inr (Or.inl rfl)) rfl) ?_
  refine ev_go0 (ev_one_pure (M := (ev_Mof 180)) (pc := 7) (i := .aload_n 0) (len := 1) (pc' := 8) (lv' := [(4, .null), (0, .ref 0), (1, .int x1), (2, .int (2)), (3, .int x3)]) (st' := [.ref 0]) (by decide +kernel) rfl) ?_
  refine ev_go0 (ev_p_getf (M := (ev_Mof 180)) (pc := 8) (x := 48) (ci := 12) (f := 8) (fin := 1) (v := .ref 254) (by decide +kernel) (by decide +kernel) ev_fH0 rfl) ?_
  refine ev_go0 (ev_one_pure (M := (ev_Mof 180)) (pc := 11) (i := .iload_n 2) (len := 1) (pc' := 12) (lv' := [(4, .null), (0, .ref 0), (1, .int x1), (2, .int (2)), (3, .int x3)]) (st' := [.int (2), .ref 254]) (by decide +kernel) rfl) ?_
  refine ev_go0 (ev_p_virt (M := (ev_Mof 180)) (pc := 12) (x := 221) (mi := 1) (na := 1) (by decide +kernel) (by decide +kernel) (by decide +kernel) (by decide +kernel) rfl rfl (ev_recv_of ev_fH254) ev_k242) ?_
  refine ev_go0 (ev_w_astore (M := (ev_Mof 180)) (pc := 15) (k := 5) (lv' := [(5, .ref 267), (4, .null), (0, .ref 0), (1, .int x1), (2, .int (2)), (3, .int x3)]) (by decide +kernel) (by decide +kernel) (Or.inl ⟨_, rfl⟩) rfl) ?_
  refine ev_go0 (ev_one_pure (M := (ev_Mof 180)) (pc := 17) (i := .aload 4) (len := 2) (pc' := 19) (lv' := [(5, .ref 267), (4, .null), (0, .ref 0), (1, .int x1), (2, .int (2)), (3, .int x3)]) (st' := [.null]) (by decide +kernel) rfl) ?_
  refine ev_go0 (ev_w_ifnull (M := (ev_Mof 180)) (pc := 19) (o := 21) (t := 40) (by decide +kernel) (Or.inl ⟨rfl, rfl⟩)) ?_
  rfl
theorem ev_k275 (x1 : Int32) (hu_x1 : x1.toInt ≤ (-1 : Int)) (x3 : Int32) {n : Nat} : ev_calld 12 377 [.ref 0, .int x1, .int (2), .int x3, .ref 723] ev_H0 n = some (.inl (some (.int (1))), ev_H0, n, 1, 6) := by
  refine ev_call_int (k := 9) (pcR := 18) (lv' := [(5, .retAddr 1), (0, .ref 0), (1, .int x1), (2, .int (2)), (3, .int x3), (4, .ref 723)]) (v := (1)) (ty := .int) (by decide +kernel) rfl ?_ (by decide +kernel) (by decide +kernel) (by decide +kernel) (by decide)
  show ev_stepn _ 9 (0, [(0, .ref 0), (1, .int x1), (2, .int (2)), (3, .int x3), (4, .ref 723)], [], _, _, 0, 0) = _
  refine ev_go0 (ev_one_pure (M := (ev_Mof 377)) (pc := 0) (i := .aload 4) (len := 2) (pc' := 2) (lv' := [(0, .ref 0), (1, .int x1), (2, .int (2)), (3, .int x3), (4, .ref 723)]) (st' := [.ref 723]) (by decide +kernel) rfl) ?_
  refine ev_go0 (ev_w_iconst (M := (ev_Mof 377)) (pc := 2) (k := 0) (v := 0) (by decide +kernel) (by decide +kernel)) ?_
  refine ev_go0 (ev_one_pure (M := (ev_Mof 377)) (pc := 3) (i := .aload_n 0) (len := 1) (pc' := 4) (lv' := [(0, .ref 0), (1, .int x1), (2, .int (2)), (3, .int x3), (4, .ref 723)]) (st' := [.ref 0, .int (0), .ref 723]) (by decide +kernel) rfl) ?_
  refine ev_go0 (ev_one_pure (M := (ev_Mof 377)) (pc := 4) (i := .iload_n 1) (len := 1) (pc' := 5) (lv' := [(0, .ref 0), (1, .int x1), (2, .int (2)), (3, .int x3), (4, .ref 723)]) (st' := [.int x1, .ref 0, .int (0), .ref 723]) (by decide +kernel) rfl) ?_
  refine ev_go0 (ev_one_pure (M := (ev_Mof 377)) (pc := 5) (i := .iload_n 2) (len := 1) (pc' := 6) (lv' := [(0, .ref 0), (1, .int x1), (2, .int (2)), (3, .int x3), (4, .ref 723)]) (st' := [.int (2), .int x1, .ref 0, .int (0), .ref 723]) (by decide +kernel) rfl) ?_
  refine ev_go0 (ev_one_pure (M := (ev_Mof 377)) (pc := 6) (i := .iload_n 3) (len := 1) (pc' := 7) (lv' := [(0, .ref 0), (1, .int x1), (2, .int (2)), (3, .int x3), (4, .ref 723)]) (st' := [.int x3, .int (2), .int x1, .ref 0, .int (0), .ref 723]) (by decide +kernel) rfl) ?_
  refine ev_go (ev_p_virtX (M := (ev_Mof 377)) (pc := 7) (x := 61) (t := 15) (mi := 180) (na := 3) (by decide +kernel) (by decide +kernel) (by decide +kernel) (by decide +kernel) rfl rfl (ev_recv_of ev_fH0) (ev_k274 x1 hu_x1 x3) (by decide +kernel)) ?_
  refine ev_go0 (ev_w_astore (M := (ev_Mof 377)) (pc := 15) (k := 5) (lv' := [(5, .retAddr 1), (0, .ref 0), (1, .int x1), (2, .int (2)), (3, .int x3), (4, .ref 723)]) (by decide +kernel) (by decide +kernel) (Or.inr (Or.inr ⟨_, rfl⟩)) rfl) ?_
  refine ev_go0 (ev_w_iconst (M := (ev_Mof 377)) (pc := 17) (k := 1) (v := 1) (by decide +kernel) (by decide +kernel)) ?_
  rfl
theorem ev_k276 (x1 : Int32) (hu_x1 : x1.toInt ≤ (-1 : Int)) (x3 : Int32) {n : Nat} : ev_calld 12 332 [.ref 621, .int x1, .int (2), .int x3] ev_H0 n = some (.inl (some (.int (0))), (ev_H0.set 621 (.inr (13, (ev_F621.set 0 (.int (1)))))), n, 0, 0) := by
  refine ev_call_int (k := 11) (pcR := 34) (lv' := [(0, .ref 621), (1, .int x1), (2, .int (2)), (3, .int x3)]) (v := (0)) (ty := .int) (by decide +kernel) rfl ?_ (by decide +kernel) (by decide +kernel) (by decide +kernel) (by decide)
  show ev_stepn _ 11 (0, [(0, .ref 621), (1, .int x1), (2, .int (2)), (3, .int x3)], [], _, _, 0, 0) = _
  refine ev_go0 (ev_one_pure (M := (ev_Mof 332)) (pc := 0) (i := .aload_n 0) (len := 1) (pc' := 1) (lv' := [(0, .ref 621), (1, .int x1), (2, .int (2)), (3, .int x3)]) (st' := [.ref 621]) (by decide +kernel) rfl) ?_
  refine ev_go0 (ev_one_pure (M := (ev_Mof 332)) (pc := 1) (i := .aload_n 0) (len := 1) (pc' := 2) (lv' := [(0, .ref 621), (1, .int x1), (2, .int (2)), (3, .int x3)]) (st' := [.ref 621, .ref 621]) (by decide +kernel) rfl) ?_
  refine ev_go0 (ev_one_pure (M := (ev_Mof 332)) (pc := 2) (i := .iload_n 1) (len := 1) (pc' := 3) (lv' := [(0, .ref 621), (1, .int x1), (2, .int (2)), (3, .int x3)]) (st' := [.int x1, .ref 621, .ref 621]) (by decide +kernel) rfl) ?_
  refine ev_go0 (ev_p_virt (M := (ev_Mof 332)) (pc := 3) (x := 531) (mi := 273) (na := 1) (by decide +kernel) (by decide +kernel) (by decide +kernel) (by decide +kernel) rfl rfl (ev_recv_of ev_fH621) (ev_k24 x1 hu_x1)) ?_
  refine ev_go0 (ev_w_if (M := (ev_Mof 332)) (pc := 6) (q := .eq) (o := 16) (b := true) (t := 22) (by decide +kernel) (by decide +kernel) rfl) ?_
  refine ev_go0 (ev_w_iconst (M := (ev_Mof 332)) (pc := 22) (k := 1) (v := 1) (by decide +kernel) (by decide +kernel)) ?_
  refine ev_go0 (ev_p_putf (M := (ev_Mof 332)) (pc := 23) (x := 321) (ci := 13) (f := 0) (by decide +kernel) (by decide +kernel) ev_fH621 rfl (by decide +kernel)) ?_
  refine ev_go0 (ev_one_pure (M := (ev_Mof 332)) (pc := 26) (i := .aload_n 0) (len := 1) (pc' := 27) (lv' := [(0, .ref 621), (1, .int x1), (2, .int (2)), (3, .int x3)]) (st' := [.ref 621]) (by decide +kernel) rfl) ?_
  refine ev_go0 (ev_p_getf (M := (ev_Mof 332)) (pc := 27) (x := 321) (ci := 13) (f := 0) (fin := 0) (v := .int (1)) (by decide +kernel) (by decide +kernel) (ev_hself ev_fH621) rfl) ?_
  refine ev_go0 (ev_w_if (M := (ev_Mof 332)) (pc := 30) (q := .le) (o := 5) (b := false) (t := 33) (by decide +kernel) (by decide +kernel) rfl) ?_
  refine ev_go0 (ev_w_iconst (M := (ev_Mof 332)) (pc := 33) (k := 0) (v := 0) (by decide +kernel) (by decide +kernel)) ?_
  rfl
theorem ev_p1_14_n2 (xs : Nat → Int32) (x1 : Int32) (hu_x1 : x1.toInt ≤ (-1 : Int)) (x3 : Int32) (e1 : xs 1 = x1) (e2 : xs 2 = (2)) (e3 : xs 3 = x3) : ev_P1 xs 1080 := by
  refine ⟨44, [(6, .int (0)), (5, .int (1)), (4, .int (0)), (3, .ref 723), (2, .ref 621), (1, .ref 0), (0, .retAddr 0)], (ev_H0.set 621 (.inr (13, (ev_F621.set 0 (.int (1)))))), 724, 725, 3553592, ?_, ⟨rfl, rfl, rfl, rfl⟩, rfl, by decide, by decide⟩
  show ev_stepn _ _ (1080, [(4, .int (0)), (3, .ref 723), (2, .ref 621), (1, .ref 0), (0, .retAddr 0)], [], _, _, _, _) = _
  refine ev_go0 (ev_one_pure (M := ev_Mlaw) (pc := 1080) (i := .aload_n 1) (len := 1) (pc' := 1081) (lv' := [(4, .int (0)), (3, .ref 723), (2, .ref 621), (1, .ref 0), (0, .retAddr 0)]) (st' := [.ref 0]) (by decide +kernel) rfl) ?_
  refine ev_go0 (ev_one_pure (M := ev_Mlaw) (pc := 1081) (i := .aload_n 0) (len := 1) (pc' := 1082) (lv' := [(4, .int (0)), (3, .ref 723), (2, .ref 621), (1, .ref 0), (0, .retAddr 0)]) (st' := [.retAddr 0, .ref 0]) (by decide +kernel) rfl) ?_
  refine ev_go0 (ev_one_pure (M := ev_Mlaw) (pc := 1082) (i := .iload 4) (len := 2) (pc' := 1084) (lv' := [(4, .int (0)), (3, .ref 723), (2, .ref 621), (1, .ref 0), (0, .retAddr 0)]) (st' := [.int (0), .retAddr 0, .ref 0]) (by decide +kernel) rfl) ?_
  refine ev_go0 (ev_w_iconst (M := ev_Mlaw) (pc := 1084) (k := 1) (v := 1) (by decide +kernel) (by decide +kernel)) ?_
  refine ev_go0 (ev_w_iadd (M := ev_Mlaw) (pc := 1085) (v := (1)) (by decide +kernel) (by decide +kernel)) ?_
  refine ev_go0 (ev_w_scr (M := ev_Mlaw) (pc := 1086) (v := x1) (j := 1) (by decide +kernel) (by decide +kernel) (by decide +kernel) e1) ?_
  refine ev_go0 (ev_one_pure (M := ev_Mlaw) (pc := 1087) (i := .aload_n 0) (len := 1) (pc' := 1088) (lv' := [(4, .int (0)), (3, .ref 723), (2, .ref 621), (1, .ref 0), (0, .retAddr 0)]) (st' := [.retAddr 0, .int x1, .ref 0]) (by decide +kernel) rfl) ?_
  refine ev_go0 (ev_one_pure (M := ev_Mlaw) (pc := 1088) (i := .iload 4) (len := 2) (pc' := 1090) (lv' := [(4, .int (0)), (3, .ref 723), (2, .ref 621), (1, .ref 0), (0, .retAddr 0)]) (st' := [.int (0), .retAddr 0, .int x1, .ref 0]) (by decide +kernel) rfl) ?_
  refine ev_go0 (ev_w_iconst (M := ev_Mlaw) (pc := 1090) (k := 2) (v := 2) (by decide +kernel) (by decide +kernel)) ?_
  refine ev_go0 (ev_w_iadd (M := ev_Mlaw) (pc := 1091) (v := (2)) (by decide +kernel) (by decide +kernel)) ?_
  refine ev_go0 (ev_w_scr (M := ev_Mlaw) (pc := 1092) (v := (2)) (j := 2) (by decide +kernel) (by decide +kernel) (by decide +kernel) e2) ?_
  refine ev_go0 (ev_one_pure (M := ev_Mlaw) (pc := 1093) (i := .aload_n 0) (len := 1) (pc' := 1094) (lv' := [(4, .int (0)), (3, .ref 723), (2, .ref 621), (1, .ref 0), (0, .retAddr 0)]) (st' := [.retAddr 0, .int (2), .int x1, .ref 0]) (by decide +kernel) rfl) ?_
  refine ev_go0 (ev_one_pure (M := ev_Mlaw) (pc := 1094) (i := .iload 4) (len := 2) (pc' := 1096) (lv' := [(4, .int (0)), (3, .ref 723), (2, .ref 621), (1, .ref 0), (0, .retAddr 0)]) (st' := [.int (0), .retAddr 0, .int (2), .int x1, .ref 0]) (by decide +kernel) rfl) ?_
  refine ev_go0 (ev_w_iconst (M := ev_Mlaw) (pc := 1096) (k := 3) (v := 3) (by decide +kernel) (by decide +kernel)) ?_
  refine ev_go0 (ev_w_iadd (M := ev_Mlaw) (pc := 1097) (v := (3)) (by decide +kernel) (by decide +kernel)) ?_
  refine ev_go0 (ev_w_scr (M := ev_Mlaw) (pc := 1098) (v := x3) (j := 3) (by decide +kernel) (by decide +kernel) (by decide +kernel) e3) ?_
  refine ev_go0 (ev_one_pure (M := ev_Mlaw) (pc := 1099) (i := .aload_n 3) (len := 1) (pc' := 1100) (lv' := [(4, .int (0)), (3, .ref 723), (2, .ref 621), (1, .ref 0), (0, .retAddr 0)]) (st' := [.ref 723, .int x3, .int (2), .int x1, .ref 0]) (by decide +kernel) rfl) ?_
  refine ev_go (ev_w_stat (M := ev_Mlaw) (pc := 1100) (y := 179) (kind := 8) (Or.inr (Or.inr rfl)) (mi := 377) (na := 5) (by decide +kernel) (by decide +kernel) (by decide +kernel) (by decide +kernel) rfl rfl (ev_k275 x1 hu_x1 x3)) ?_
  refine ev_go0 (ev_w_istore (M := ev_Mlaw) (pc := 1103) (k := 5) (lv' := [(5, .int (1)), (4, .int (0)), (3, .ref 723), (2, .ref 621), (1, .ref 0), (0, .retAddr 0)]) (by decide +kernel) (by decide +kernel) rfl) ?_
  refine ev_go0 (ev_one_pure (M := ev_Mlaw) (pc := 1105) (i := .aload_n 2) (len := 1) (pc' := 1106) (lv' := [(5, .int (1)), (4, .int (0)), (3, .ref 723), (2, .ref 621), (1, .ref 0), (0, .retAddr 0)]) (st' := [.ref 621]) (by decide +kernel) rfl) ?_
  refine ev_go0 (ev_one_pure (M := ev_Mlaw) (pc := 1106) (i := .aload_n 0) (len := 1) (pc' := 1107) (lv' := [(5, .int (1)), (4, .int (0)), (3, .ref 723), (2, .ref 621), (1, .ref 0), (0, .retAddr 0)]) (st' := [.retAddr 0, .ref 621]) (by decide +kernel) rfl) ?_
  refine ev_go0 (ev_one_pure (M := ev_Mlaw) (pc := 1107) (i := .iload 4) (len := 2) (pc' := 1109) (lv' := [(5, .int (1)), (4, .int (0)), (3, .ref 723), (2, .ref 621), (1, .ref 0), (0, .retAddr 0)]) (st' := [.int (0), .retAddr 0, .ref 621]) (by decide +kernel) rfl) ?_
  refine ev_go0 (ev_w_iconst (M := ev_Mlaw) (pc := 1109) (k := 1) (v := 1) (by decide +kernel) (by decide +kernel)) ?_
  refine ev_go0 (ev_w_iadd (M := ev_Mlaw) (pc := 1110) (v := (1)) (by decide +kernel) (by decide +kernel)) ?_
  refine ev_go0 (ev_w_scr (M := ev_Mlaw) (pc := 1111) (v := x1) (j := 1) (by decide +kernel) (by decide +kernel) (by decide +kernel) e1) ?_
  refine ev_go0 (ev_one_pure (M := ev_Mlaw) (pc := 1112) (i := .aload_n 0) (len := 1) (pc' := 1113) (lv' := [(5, .int (1)), (4, .int (0)), (3, .ref 723), (2, .ref 621), (1, .ref 0), (0, .retAddr 0)]) (st' := [.retAddr 0, .int x1, .ref 621]) (by decide +kernel) rfl) ?_
  refine ev_go0 (ev_one_pure (M := ev_Mlaw) (pc := 1113) (i := .iload 4) (len := 2) (pc' := 1115) (lv' := [(5, .int (1)), (4, .int (0)), (3, .ref 723), (2, .ref 621), (1, .ref 0), (0, .retAddr 0)]) (st' := [.int (0), .retAddr 0, .int x1, .ref 621]) (by decide +kernel) rfl) ?_
  refine ev_go0 (ev_w_iconst (M := ev_Mlaw) (pc := 1115) (k := 2) (v := 2) (by decide +kernel) (by decide +kernel)) ?_
  refine ev_go0 (ev_w_iadd (M := ev_Mlaw) (pc := 1116) (v := (2)) (by decide +kernel) (by decide +kernel)) ?_
  refine ev_go0 (ev_w_scr (M := ev_Mlaw) (pc := 1117) (v := (2)) (j := 2) (by decide +kernel) (by decide +kernel) (by decide +kernel) e2) ?_
  refine ev_go0 (ev_one_pure (M := ev_Mlaw) (pc := 1118) (i := .aload_n 0) (len := 1) (pc' := 1119) (lv' := [(5, .int (1)), (4, .int (0)), (3, .ref 723), (2, .ref 621), (1, .ref 0), (0, .retAddr 0)]) (st' := [.retAddr 0, .int (2), .int x1, .ref 621]) (by decide +kernel) rfl) ?_
  refine ev_go0 (ev_one_pure (M := ev_Mlaw) (pc := 1119) (i := .iload 4) (len := 2) (pc' := 1121) (lv' := [(5, .int (1)), (4, .int (0)), (3, .ref 723), (2, .ref 621), (1, .ref 0), (0, .retAddr 0)]) (st' := [.int (0), .retAddr 0, .int (2), .int x1, .ref 621]) (by decide +kernel) rfl) ?_
  refine ev_go0 (ev_w_iconst (M := ev_Mlaw) (pc := 1121) (k := 3) (v := 3) (by decide +kernel) (by decide +kernel)) ?_
  refine ev_go0 (ev_w_iadd (M := ev_Mlaw) (pc := 1122) (v := (3)) (by decide +kernel) (by decide +kernel)) ?_
  refine ev_go0 (ev_w_scr (M := ev_Mlaw) (pc := 1123) (v := x3) (j := 3) (by decide +kernel) (by decide +kernel) (by decide +kernel) e3) ?_
  refine ev_go0 (ev_p_virt (M := ev_Mlaw) (pc := 1124) (x := 181) (mi := 332) (na := 3) (by decide +kernel) (by decide +kernel) (by decide +kernel) (by decide +kernel) rfl rfl (ev_recv_of ev_fH621) (ev_k276 x1 hu_x1 x3)) ?_
  refine ev_go0 (ev_w_istore (M := ev_Mlaw) (pc := 1127) (k := 6) (lv' := [(6, .int (0)), (5, .int (1)), (4, .int (0)), (3, .ref 723), (2, .ref 621), (1, .ref 0), (0, .retAddr 0)]) (by decide +kernel) (by decide +kernel) rfl) ?_
  refine ev_go0 (ev_one_pure (M := ev_Mlaw) (pc := 1129) (i := .aload_n 2) (len := 1) (pc' := 1130) (lv' := [(6, .int (0)), (5, .int (1)), (4, .int (0)), (3, .ref 723), (2, .ref 621), (1, .ref 0), (0, .retAddr 0)]) (st' := [.ref 621]) (by decide +kernel) rfl) ?_
  refine ev_go0 (ev_p_virt (M := ev_Mlaw) (pc := 1130) (x := 131) (mi := 220) (na := 0) (by decide +kernel) (by decide +kernel) (by decide +kernel) (by decide +kernel) rfl rfl (ev_recv_of (ev_hself ev_fH621)) ev_k26) ?_
  refine ev_go0 (ev_one_pure (M := ev_Mlaw) (pc := 1133) (i := .iload 5) (len := 2) (pc' := 1135) (lv' := [(6, .int (0)), (5, .int (1)), (4, .int (0)), (3, .ref 723), (2, .ref 621), (1, .ref 0), (0, .retAddr 0)]) (st' := [.int (1), .int (1)]) (by decide +kernel) rfl) ?_
  refine ev_go0 (ev_w_icmp (M := ev_Mlaw) (pc := 1135) (q := .eq) (o := 5) (b := true) (t := 1140) (by decide +kernel) (by decide +kernel) rfl) ?_
  refine ev_go0 (ev_one_pure (M := ev_Mlaw) (pc := 1140) (i := .iload 5) (len := 2) (pc' := 1142) (lv' := [(6, .int (0)), (5, .int (1)), (4, .int (0)), (3, .ref 723), (2, .ref 621), (1, .ref 0), (0, .retAddr 0)]) (st' := [.int (1)]) (by decide +kernel) rfl) ?_
  refine ev_go0 (ev_w_if (M := ev_Mlaw) (pc := 1142) (q := .ne) (o := 15) (b := true) (t := 1157) (by decide +kernel) (by decide +kernel) rfl) ?_
  refine ev_go0 (ev_one_pure (M := ev_Mlaw) (pc := 1157) (i := .goto 1115) (len := 3) (pc' := 2272) (lv' := [(6, .int (0)), (5, .int (1)), (4, .int (0)), (3, .ref 723), (2, .ref 621), (1, .ref 0), (0, .retAddr 0)]) (st' := []) (by decide +kernel) rfl) ?_
  rfl
theorem ev_k277 (x1 : Int32) (hu_x1 : x1.toInt ≤ (-1 : Int)) (x2 : Int32) (hl_x2 : (3 : Int) ≤ x2.toInt) (x3 : Int32) {n : Nat} : ev_calld 11 180 [.ref 0, .int x1, .int x2, .int x3] ev_H0 n = some (.inr "java/lang/IndexOutOfBoundsException", ev_H0, n, 1, 6) := by
  refine ev_call_thrown (k := 11) (pcR := 40) (x := 160) (lv' := [(5, .null), (4, .null), (0, .ref 0), (1, .int x1), (2, .int x2), (3, .int x3)]) (by decide +kernel) rfl ?_ (by decide +kernel) (by decide +kernel) (by decide +kernel) (by decide) (by decide)
  show ev_stepn _ 11 (0, [(0, .ref 0), (1, .int x1), (2, .int x2), (3, .int x3)], [], _, _, 0, 0) = _
  refine ev_go0 (ev_one_pure (M := (ev_Mof 180)) (pc := 0) (i := .aload_n 0) (len := 1) (pc' := 1) (lv' := [(0, .ref 0), (1, .int x1), (2, .int x2), (3, .int x3)]) (st' := [.ref 0]) (by decide +kernel) rfl) ?_
  refine ev_go0 (ev_one_pure (M := (ev_Mof 180)) (pc := 1) (i := .iload_n 1) (len := 1) (pc' := 2) (lv' := [(0, .ref 0), (1, .int x1), (2, .int x2), (3, .int x3)]) (st' := [.int x1, .ref 0]) (by decide +kernel) rfl) ?_
  refine ev_go0 (ev_p_virt (M := (ev_Mof 180)) (pc := 2) (x := 156) (mi := 200) (na := 1) (by decide +kernel) (by decide +kernel) (by decide +kernel) (by decide +kernel) rfl rfl (ev_recv_of ev_fH0) (ev_k1 x1 hu_x1)) ?_
  refine ev_go0 (ev_w_astore (M := (ev_Mof 180)) (pc := 5) (k := 4) (lv' := [(4, .null), (0, .ref 0), (1, .int x1), (2, .int x2), (3, .int x3)]) (by decide +kernel) (by decide +kernel) (Or.inr (Or.inl rfl)) rfl) ?_
  refine ev_go0 (ev_one_pure (M := (ev_Mof 180)) (pc := 7) (i := .aload_n 0) (len := 1) (pc' := 8) (lv' := [(4, .null), (0, .ref 0), (1, .int x1), (2, .int x2), (3, .int x3)]) (st' := [.ref 0]) (by decide +kernel) rfl) ?_
  refine ev_go0 (ev_p_getf (M := (ev_Mof 180)) (pc := 8) (x := 48) (ci := 12) (f := 8) (fin := 1) (v := .ref 254) (by decide +kernel) (by decide +kernel) ev_fH0 rfl) ?_
  refine ev_go0 (ev_one_pure (M := (ev_Mof 180)) (pc := 11) (i := .iload_n 2) (len := 1) (pc' := 12) (lv' := [(4, .null), (0, .ref 0), (1, .int x1), (2, .int x2), (3, .int x3)]) (st' := [.int x2, .ref 254]) (by decide +kernel) rfl) ?_
  refine ev_go0 (ev_p_virt (M := (ev_Mof 180)) (pc := 12) (x := 221) (mi := 1) (na := 1) (by decide +kernel) (by decide +kernel) (by decide +kernel) (by decide +kernel) rfl rfl (ev_recv_of ev_fH254) (ev_k246 x2 hl_x2)) ?_
  refine ev_go0 (ev_w_astore (M := (ev_Mof 180)) (pc := 15) (k := 5) (lv' := [(5, .null), (4, .null), (0, .ref 0), (1, .int x1), (2, .int x2), (3, .int x3)]) (by decide +kernel) (by decide +kernel) (Or.inr (Or.inl rfl)) rfl) ?_
  refine ev_go0 (ev_one_pure (M := (ev_Mof 180)) (pc := 17) (i := .aload 4) (len := 2) (pc' := 19) (lv' := [(5, .null), (4, .null), (0, .ref 0), (1, .int x1), (2, .int x2), (3, .int x3)]) (st' := [.null]) (by decide +kernel) rfl) ?_
  refine ev_go0 (ev_w_ifnull (M := (ev_Mof 180)) (pc := 19) (o := 21) (t := 40) (by decide +kernel) (Or.inl ⟨rfl, rfl⟩)) ?_
  rfl
theorem ev_k278 (x1 : Int32) (hu_x1 : x1.toInt ≤ (-1 : Int)) (x2 : Int32) (hl_x2 : (3 : Int) ≤ x2.toInt) (x3 : Int32) {n : Nat} : ev_calld 12 377 [.ref 0, .int x1, .int x2, .int x3, .ref 723] ev_H0 n = some (.inl (some (.int (1))), ev_H0, n, 1, 6) := by
  refine ev_call_int (k := 9) (pcR := 18) (lv' := [(5, .retAddr 1), (0, .ref 0), (1, .int x1), (2, .int x2), (3, .int x3), (4, .ref 723)]) (v := (1)) (ty := .int) (by decide +kernel) rfl ?_ (by decide +kernel) (by decide +kernel) (by decide +kernel) (by decide)
  show ev_stepn _ 9 (0, [(0, .ref 0), (1, .int x1), (2, .int x2), (3, .int x3), (4, .ref 723)], [], _, _, 0, 0) = _
  refine ev_go0 (ev_one_pure (M := (ev_Mof 377)) (pc := 0) (i := .aload 4) (len := 2) (pc' := 2) (lv' := [(0, .ref 0), (1, .int x1), (2, .int x2), (3, .int x3), (4, .ref 723)]) (st' := [.ref 723]) (by decide +kernel) rfl) ?_
  refine ev_go0 (ev_w_iconst (M := (ev_Mof 377)) (pc := 2) (k := 0) (v := 0) (by decide +kernel) (by decide +kernel)) ?_
  refine ev_go0 (ev_one_pure (M := (ev_Mof 377)) (pc := 3) (i := .aload_n 0) (len := 1) (pc' := 4) (lv' := [(0, .ref 0), (1, .int x1), (2, .int x2), (3, .int x3), (4, .ref 723)]) (st' := [.ref 0, .int (0), .ref 723]) (by decide +kernel) rfl) ?_
  refine ev_go0 (ev_one_pure (M := (ev_Mof 377)) (pc := 4) (i := .iload_n 1) (len := 1) (pc' := 5) (lv' := [(0, .ref 0), (1, .int x1), (2, .int x2), (3, .int x3), (4, .ref 723)]) (st' := [.int x1, .ref 0, .int (0), .ref 723]) (by decide +kernel) rfl) ?_
  refine ev_go0 (ev_one_pure (M := (ev_Mof 377)) (pc := 5) (i := .iload_n 2) (len := 1) (pc' := 6) (lv' := [(0, .ref 0), (1, .int x1), (2, .int x2), (3, .int x3), (4, .ref 723)]) (st' := [.int x2, .int x1, .ref 0, .int (0), .ref 723]) (by decide +kernel) rfl) ?_
  refine ev_go0 (ev_one_pure (M := (ev_Mof 377)) (pc := 6) (i := .iload_n 3) (len := 1) (pc' := 7) (lv' := [(0, .ref 0), (1, .int x1), (2, .int x2), (3, .int x3), (4, .ref 723)]) (st' := [.int x3, .int x2, .int x1, .ref 0, .int (0), .ref 723]) (by decide +kernel) rfl) ?_
  refine ev_go (ev_p_virtX (M := (ev_Mof 377)) (pc := 7) (x := 61) (t := 15) (mi := 180) (na := 3) (by decide +kernel) (by decide +kernel) (by decide +kernel) (by decide +kernel) rfl rfl (ev_recv_of ev_fH0) (ev_k277 x1 hu_x1 x2 hl_x2 x3) (by decide +kernel)) ?_
  refine ev_go0 (ev_w_astore (M := (ev_Mof 377)) (pc := 15) (k := 5) (lv' := [(5, .retAddr 1), (0, .ref 0), (1, .int x1), (2, .int x2), (3, .int x3), (4, .ref 723)]) (by decide +kernel) (by decide +kernel) (Or.inr (Or.inr ⟨_, rfl⟩)) rfl) ?_
  refine ev_go0 (ev_w_iconst (M := (ev_Mof 377)) (pc := 17) (k := 1) (v := 1) (by decide +kernel) (by decide +kernel)) ?_
  rfl
theorem ev_k279 (x1 : Int32) (hu_x1 : x1.toInt ≤ (-1 : Int)) (x2 : Int32) (hl_x2 : (3 : Int) ≤ x2.toInt) (x3 : Int32) {n : Nat} : ev_calld 12 332 [.ref 621, .int x1, .int x2, .int x3] ev_H0 n = some (.inl (some (.int (0))), (ev_H0.set 621 (.inr (13, (ev_F621.set 0 (.int (1)))))), n, 0, 0) := by
  refine ev_call_int (k := 11) (pcR := 34) (lv' := [(0, .ref 621), (1, .int x1), (2, .int x2), (3, .int x3)]) (v := (0)) (ty := .int) (by decide +kernel) rfl ?_ (by decide +kernel) (by decide +kernel) (by decide +kernel) (by decide)
  show ev_stepn _ 11 (0, [(0, .ref 621), (1, .int x1), (2, .int x2), (3, .int x3)], [], _, _, 0, 0) = _
  refine ev_go0 (ev_one_pure (M := (ev_Mof 332)) (pc := 0) (i := .aload_n 0) (len := 1) (pc' := 1) (lv' := [(0, .ref 621), (1, .int x1), (2, .int x2), (3, .int x3)]) (st' := [.ref 621]) (by decide +kernel) rfl) ?_
  refine ev_go0 (ev_one_pure (M := (ev_Mof 332)) (pc := 1) (i := .aload_n 0) (len := 1) (pc' := 2) (lv' := [(0, .ref 621), (1, .int x1), (2, .int x2), (3, .int x3)]) (st' := [.ref 621, .ref 621]) (by decide +kernel) rfl) ?_
  refine ev_go0 (ev_one_pure (M := (ev_Mof 332)) (pc := 2) (i := .iload_n 1) (len := 1) (pc' := 3) (lv' := [(0, .ref 621), (1, .int x1), (2, .int x2), (3, .int x3)]) (st' := [.int x1, .ref 621, .ref 621]) (by decide +kernel) rfl) ?_
  refine ev_go0 (ev_p_virt (M := (ev_Mof 332)) (pc := 3) (x := 531) (mi := 273) (na := 1) (by decide +kernel) (by decide +kernel) (by decide +kernel) (by decide +kernel) rfl rfl (ev_recv_of ev_fH621) (ev_k24 x1 hu_x1)) ?_
  refine ev_go0 (ev_w_if (M := (ev_Mof 332)) (pc := 6) (q := .eq) (o := 16) (b := true) (t := 22) (by decide +kernel) (by decide +kernel) rfl) ?_
  refine ev_go0 (ev_w_iconst (M := (ev_Mof 332)) (pc := 22) (k := 1) (v := 1) (by decide +kernel) (by decide +kernel)) ?_
  refine ev_go0 (ev_p_putf (M := (ev_Mof 332)) (pc := 23) (x := 321) (ci := 13) (f := 0) (by decide +kernel) (by decide +kernel) ev_fH621 rfl (by decide +kernel)) ?_
  refine ev_go0 (ev_one_pure (M := (ev_Mof 332)) (pc := 26) (i := .aload_n 0) (len := 1) (pc' := 27) (lv' := [(0, .ref 621), (1, .int x1), (2, .int x2), (3, .int x3)]) (st' := [.ref 621]) (by decide +kernel) rfl) ?_
  refine ev_go0 (ev_p_getf (M := (ev_Mof 332)) (pc := 27) (x := 321) (ci := 13) (f := 0) (fin := 0) (v := .int (1)) (by decide +kernel) (by decide +kernel) (ev_hself ev_fH621) rfl) ?_
  refine ev_go0 (ev_w_if (M := (ev_Mof 332)) (pc := 30) (q := .le) (o := 5) (b := false) (t := 33) (by decide +kernel) (by decide +kernel) rfl) ?_
  refine ev_go0 (ev_w_iconst (M := (ev_Mof 332)) (pc := 33) (k := 0) (v := 0) (by decide +kernel) (by decide +kernel)) ?_
  rfl
theorem ev_p1_14_ng (xs : Nat → Int32) (x1 : Int32) (hu_x1 : x1.toInt ≤ (-1 : Int)) (x2 : Int32) (hl_x2 : (3 : Int) ≤ x2.toInt) (x3 : Int32) (e1 : xs 1 = x1) (e2 : xs 2 = x2) (e3 : xs 3 = x3) : ev_P1 xs 1080 := by
  refine ⟨44, [(6, .int (0)), (5, .int (1)), (4, .int (0)), (3, .ref 723), (2, .ref 621), (1, .ref 0), (0, .retAddr 0)], (ev_H0.set 621 (.inr (13, (ev_F621.set 0 (.int (1)))))), 724, 725, 3553592, ?_, ⟨rfl, rfl, rfl, rfl⟩, rfl, by decide, by decide⟩
  show ev_stepn _ _ (1080, [(4, .int (0)), (3, .ref 723), (2, .ref 621), (1, .ref 0), (0, .retAddr 0)], [], _, _, _, _) = _
  refine ev_go0 (ev_one_pure (M := ev_Mlaw) (pc := 1080) (i := .aload_n 1) (len := 1) (pc' := 1081) (lv' := [(4, .int (0)), (3, .ref 723), (2, .ref 621), (1, .ref 0), (0, .retAddr 0)]) (st' := [.ref 0]) (by decide +kernel) rfl) ?_
  refine ev_go0 (ev_one_pure (M := ev_Mlaw) (pc := 1081) (i := .aload_n 0) (len := 1) (pc' := 1082) (lv' := [(4, .int (0)), (3, .ref 723), (2, .ref 621), (1, .ref 0), (0, .retAddr 0)]) (st' := [.retAddr 0, .ref 0]) (by decide +kernel) rfl) ?_
  refine ev_go0 (ev_one_pure (M := ev_Mlaw) (pc := 1082) (i := .iload 4) (len := 2) (pc' := 1084) (lv' := [(4, .int (0)), (3, .ref 723), (2, .ref 621), (1, .ref 0), (0, .retAddr 0)]) (st' := [.int (0), .retAddr 0, .ref 0]) (by decide +kernel) rfl) ?_
  refine ev_go0 (ev_w_iconst (M := ev_Mlaw) (pc := 1084) (k := 1) (v := 1) (by decide +kernel) (by decide +kernel)) ?_
  refine ev_go0 (ev_w_iadd (M := ev_Mlaw) (pc := 1085) (v := (1)) (by decide +kernel) (by decide +kernel)) ?_
  refine ev_go0 (ev_w_scr (M := ev_Mlaw) (pc := 1086) (v := x1) (j := 1) (by decide +kernel) (by decide +kernel) (by decide +kernel) e1) ?_
  refine ev_go0 (ev_one_pure (M := ev_Mlaw) (pc := 1087) (i := .aload_n 0) (len := 1) (pc' := 1088) (lv' := [(4, .int (0)), (3, .ref 723), (2, .ref 621), (1, .ref 0), (0, .retAddr 0)]) (st' := [.retAddr 0, .int x1, .ref 0]) (by decide +kernel) rfl) ?_
  refine ev_go0 (ev_one_pure (M := ev_Mlaw) (pc := 1088) (i := .iload 4) (len := 2) (pc' := 1090) (lv' := [(4, .int (0)), (3, .ref 723), (2, .ref 621), (1, .ref 0), (0, .retAddr 0)]) (st' := [.int (0), .retAddr 0, .int x1, .ref 0]) (by decide +kernel) rfl) ?_
  refine ev_go0 (ev_w_iconst (M := ev_Mlaw) (pc := 1090) (k := 2) (v := 2) (by decide +kernel) (by decide +kernel)) ?_
  refine ev_go0 (ev_w_iadd (M := ev_Mlaw) (pc := 1091) (v := (2)) (by decide +kernel) (by decide +kernel)) ?_
  refine ev_go0 (ev_w_scr (M := ev_Mlaw) (pc := 1092) (v := x2) (j := 2) (by decide +kernel) (by decide +kernel) (by decide +kernel) e2) ?_
  refine ev_go0 (ev_one_pure (M := ev_Mlaw) (pc := 1093) (i := .aload_n 0) (len := 1) (pc' := 1094) (lv' := [(4, .int (0)), (3, .ref 723), (2, .ref 621), (1, .ref 0), (0, .retAddr 0)]) (st' := [.retAddr 0, .int x2, .int x1, .ref 0]) (by decide +kernel) rfl) ?_
  refine ev_go0 (ev_one_pure (M := ev_Mlaw) (pc := 1094) (i := .iload 4) (len := 2) (pc' := 1096) (lv' := [(4, .int (0)), (3, .ref 723), (2, .ref 621), (1, .ref 0), (0, .retAddr 0)]) (st' := [.int (0), .retAddr 0, .int x2, .int x1, .ref 0]) (by decide +kernel) rfl) ?_
  refine ev_go0 (ev_w_iconst (M := ev_Mlaw) (pc := 1096) (k := 3) (v := 3) (by decide +kernel) (by decide +kernel)) ?_
  refine ev_go0 (ev_w_iadd (M := ev_Mlaw) (pc := 1097) (v := (3)) (by decide +kernel) (by decide +kernel)) ?_
  refine ev_go0 (ev_w_scr (M := ev_Mlaw) (pc := 1098) (v := x3) (j := 3) (by decide +kernel) (by decide +kernel) (by decide +kernel) e3) ?_
  refine ev_go0 (ev_one_pure (M := ev_Mlaw) (pc := 1099) (i := .aload_n 3) (len := 1) (pc' := 1100) (lv' := [(4, .int (0)), (3, .ref 723), (2, .ref 621), (1, .ref 0), (0, .retAddr 0)]) (st' := [.ref 723, .int x3, .int x2, .int x1, .ref 0]) (by decide +kernel) rfl) ?_
  refine ev_go (ev_w_stat (M := ev_Mlaw) (pc := 1100) (y := 179) (kind := 8) (Or.inr (Or.inr rfl)) (mi := 377) (na := 5) (by decide +kernel) (by decide +kernel) (by decide +kernel) (by decide +kernel) rfl rfl (ev_k278 x1 hu_x1 x2 hl_x2 x3)) ?_
  refine ev_go0 (ev_w_istore (M := ev_Mlaw) (pc := 1103) (k := 5) (lv' := [(5, .int (1)), (4, .int (0)), (3, .ref 723), (2, .ref 621), (1, .ref 0), (0, .retAddr 0)]) (by decide +kernel) (by decide +kernel) rfl) ?_
  refine ev_go0 (ev_one_pure (M := ev_Mlaw) (pc := 1105) (i := .aload_n 2) (len := 1) (pc' := 1106) (lv' := [(5, .int (1)), (4, .int (0)), (3, .ref 723), (2, .ref 621), (1, .ref 0), (0, .retAddr 0)]) (st' := [.ref 621]) (by decide +kernel) rfl) ?_
  refine ev_go0 (ev_one_pure (M := ev_Mlaw) (pc := 1106) (i := .aload_n 0) (len := 1) (pc' := 1107) (lv' := [(5, .int (1)), (4, .int (0)), (3, .ref 723), (2, .ref 621), (1, .ref 0), (0, .retAddr 0)]) (st' := [.retAddr 0, .ref 621]) (by decide +kernel) rfl) ?_
  refine ev_go0 (ev_one_pure (M := ev_Mlaw) (pc := 1107) (i := .iload 4) (len := 2) (pc' := 1109) (lv' := [(5, .int (1)), (4, .int (0)), (3, .ref 723), (2, .ref 621), (1, .ref 0), (0, .retAddr 0)]) (st' := [.int (0), .retAddr 0, .ref 621]) (by decide +kernel) rfl) ?_
  refine ev_go0 (ev_w_iconst (M := ev_Mlaw) (pc := 1109) (k := 1) (v := 1) (by decide +kernel) (by decide +kernel)) ?_
  refine ev_go0 (ev_w_iadd (M := ev_Mlaw) (pc := 1110) (v := (1)) (by decide +kernel) (by decide +kernel)) ?_
  refine ev_go0 (ev_w_scr (M := ev_Mlaw) (pc := 1111) (v := x1) (j := 1) (by decide +kernel) (by decide +kernel) (by decide +kernel) e1) ?_
  refine ev_go0 (ev_one_pure (M := ev_Mlaw) (pc := 1112) (i := .aload_n 0) (len := 1) (pc' := 1113) (lv' := [(5, .int (1)), (4, .int (0)), (3, .ref 723), (2, .ref 621), (1, .ref 0), (0, .retAddr 0)]) (st' := [.retAddr 0, .int x1, .ref 621]) (by decide +kernel) rfl) ?_
  refine ev_go0 (ev_one_pure (M := ev_Mlaw) (pc := 1113) (i := .iload 4) (len := 2) (pc' := 1115) (lv' := [(5, .int (1)), (4, .int (0)), (3, .ref 723), (2, .ref 621), (1, .ref 0), (0, .retAddr 0)]) (st' := [.int (0), .retAddr 0, .int x1, .ref 621]) (by decide +kernel) rfl) ?_
  refine ev_go0 (ev_w_iconst (M := ev_Mlaw) (pc := 1115) (k := 2) (v := 2) (by decide +kernel) (by decide +kernel)) ?_
  refine ev_go0 (ev_w_iadd (M := ev_Mlaw) (pc := 1116) (v := (2)) (by decide +kernel) (by decide +kernel)) ?_
  refine ev_go0 (ev_w_scr (M := ev_Mlaw) (pc := 1117) (v := x2) (j := 2) (by decide +kernel) (by decide +kernel) (by decide +kernel) e2) ?_
  refine ev_go0 (ev_one_pure (M := ev_Mlaw) (pc := 1118) (i := .aload_n 0) (len := 1) (pc' := 1119) (lv' := [(5, .int (1)), (4, .int (0)), (3, .ref 723), (2, .ref 621), (1, .ref 0), (0, .retAddr 0)]) (st' := [.retAddr 0, .int x2, .int x1, .ref 621]) (by decide +kernel) rfl) ?_
  refine ev_go0 (ev_one_pure (M := ev_Mlaw) (pc := 1119) (i := .iload 4) (len := 2) (pc' := 1121) (lv' := [(5, .int (1)), (4, .int (0)), (3, .ref 723), (2, .ref 621), (1, .ref 0), (0, .retAddr 0)]) (st' := [.int (0), .retAddr 0, .int x2, .int x1, .ref 621]) (by decide +kernel) rfl) ?_
  refine ev_go0 (ev_w_iconst (M := ev_Mlaw) (pc := 1121) (k := 3) (v := 3) (by decide +kernel) (by decide +kernel)) ?_
  refine ev_go0 (ev_w_iadd (M := ev_Mlaw) (pc := 1122) (v := (3)) (by decide +kernel) (by decide +kernel)) ?_
  refine ev_go0 (ev_w_scr (M := ev_Mlaw) (pc := 1123) (v := x3) (j := 3) (by decide +kernel) (by decide +kernel) (by decide +kernel) e3) ?_
  refine ev_go0 (ev_p_virt (M := ev_Mlaw) (pc := 1124) (x := 181) (mi := 332) (na := 3) (by decide +kernel) (by decide +kernel) (by decide +kernel) (by decide +kernel) rfl rfl (ev_recv_of ev_fH621) (ev_k279 x1 hu_x1 x2 hl_x2 x3)) ?_
  refine ev_go0 (ev_w_istore (M := ev_Mlaw) (pc := 1127) (k := 6) (lv' := [(6, .int (0)), (5, .int (1)), (4, .int (0)), (3, .ref 723), (2, .ref 621), (1, .ref 0), (0, .retAddr 0)]) (by decide +kernel) (by decide +kernel) rfl) ?_
  refine ev_go0 (ev_one_pure (M := ev_Mlaw) (pc := 1129) (i := .aload_n 2) (len := 1) (pc' := 1130) (lv' := [(6, .int (0)), (5, .int (1)), (4, .int (0)), (3, .ref 723), (2, .ref 621), (1, .ref 0), (0, .retAddr 0)]) (st' := [.ref 621]) (by decide +kernel) rfl) ?_
  refine ev_go0 (ev_p_virt (M := ev_Mlaw) (pc := 1130) (x := 131) (mi := 220) (na := 0) (by decide +kernel) (by decide +kernel) (by decide +kernel) (by decide +kernel) rfl rfl (ev_recv_of (ev_hself ev_fH621)) ev_k26) ?_
  refine ev_go0 (ev_one_pure (M := ev_Mlaw) (pc := 1133) (i := .iload 5) (len := 2) (pc' := 1135) (lv' := [(6, .int (0)), (5, .int (1)), (4, .int (0)), (3, .ref 723), (2, .ref 621), (1, .ref 0), (0, .retAddr 0)]) (st' := [.int (1), .int (1)]) (by decide +kernel) rfl) ?_
  refine ev_go0 (ev_w_icmp (M := ev_Mlaw) (pc := 1135) (q := .eq) (o := 5) (b := true) (t := 1140) (by decide +kernel) (by decide +kernel) rfl) ?_
  refine ev_go0 (ev_one_pure (M := ev_Mlaw) (pc := 1140) (i := .iload 5) (len := 2) (pc' := 1142) (lv' := [(6, .int (0)), (5, .int (1)), (4, .int (0)), (3, .ref 723), (2, .ref 621), (1, .ref 0), (0, .retAddr 0)]) (st' := [.int (1)]) (by decide +kernel) rfl) ?_
  refine ev_go0 (ev_w_if (M := ev_Mlaw) (pc := 1142) (q := .ne) (o := 15) (b := true) (t := 1157) (by decide +kernel) (by decide +kernel) rfl) ?_
  refine ev_go0 (ev_one_pure (M := ev_Mlaw) (pc := 1157) (i := .goto 1115) (len := 3) (pc' := 2272) (lv' := [(6, .int (0)), (5, .int (1)), (4, .int (0)), (3, .ref 723), (2, .ref 621), (1, .ref 0), (0, .retAddr 0)]) (st' := []) (by decide +kernel) rfl) ?_
  rfl
theorem ev_k280 (x1 : Int32) (hl_x1 : (0 : Int) ≤ x1.toInt) (x2 : Int32) (hu_x2 : x2.toInt ≤ (-1 : Int)) (x3 : Int32) {n : Nat} : ev_calld 11 180 [.ref 0, .int x1, .int x2, .int x3] ev_H0 n = some (.inr "java/lang/IndexOutOfBoundsException", ev_H0, n, 1, 6) := by
  refine ev_call_thrown (k := 11) (pcR := 40) (x := 160) (lv' := [(5, .null), (4, .null), (0, .ref 0), (1, .int x1), (2, .int x2), (3, .int x3)]) (by decide +kernel) rfl ?_ (by decide +kernel) (by decide +kernel) (by decide +kernel) (by decide) (by decide)
  show ev_stepn _ 11 (0, [(0, .ref 0), (1, .int x1), (2, .int x2), (3, .int x3)], [], _, _, 0, 0) = _
  refine ev_go0 (ev_one_pure (M := (ev_Mof 180)) (pc := 0) (i := .aload_n 0) (len := 1) (pc' := 1) (lv' := [(0, .ref 0), (1, .int x1), (2, .int x2), (3, .int x3)]) (st' := [.ref 0]) (by decide +kernel) rfl) ?_
  refine ev_go0 (ev_one_pure (M := (ev_Mof 180)) (pc := 1) (i := .iload_n 1) (len := 1) (pc' := 2) (lv' := [(0, .ref 0), (1, .int x1), (2, .int x2), (3, .int x3)]) (st' := [.int x1, .ref 0]) (by decide +kernel) rfl) ?_
  refine ev_go0 (ev_p_virt (M := (ev_Mof 180)) (pc := 2) (x := 156) (mi := 200) (na := 1) (by decide +kernel) (by decide +kernel) (by decide +kernel) (by decide +kernel) rfl rfl (ev_recv_of ev_fH0) (ev_k9 x1 hl_x1)) ?_
  refine ev_go0 (ev_w_astore (M := (ev_Mof 180)) (pc := 5) (k := 4) (lv' := [(4, .null), (0, .ref 0), (1, .int x1), (2, .int x2), (3, .int x3)]) (by decide +kernel) (by decide +kernel) (Or.inr (Or.inl rfl)) rfl) ?_
  refine ev_go0 (ev_one_pure (M := (ev_Mof 180)) (pc := 7) (i := .aload_n 0) (len := 1) (pc' := 8) (lv' := [(4, .null), (0, .ref 0), (1, .int x1), (2, .int x2), (3, .int x3)]) (st' := [.ref 0]) (by decide +kernel) rfl) ?_
  refine ev_go0 (ev_p_getf (M := (ev_Mof 180)) (pc := 8) (x := 48) (ci := 12) (f := 8) (fin := 1) (v := .ref 254) (by decide +kernel) (by decide +kernel) ev_fH0 rfl) ?_
  refine ev_go0 (ev_one_pure (M := (ev_Mof 180)) (pc := 11) (i := .iload_n 2) (len := 1) (pc' := 12) (lv' := [(4, .null), (0, .ref 0), (1, .int x1), (2, .int x2), (3, .int x3)]) (st' := [.int x2, .ref 254]) (by decide +kernel) rfl) ?_
  refine ev_go0 (ev_p_virt (M := (ev_Mof 180)) (pc := 12) (x := 221) (mi := 1) (na := 1) (by decide +kernel) (by decide +kernel) (by decide +kernel) (by decide +kernel) rfl rfl (ev_recv_of ev_fH254) (ev_k230 x2 hu_x2)) ?_
  refine ev_go0 (ev_w_astore (M := (ev_Mof 180)) (pc := 15) (k := 5) (lv' := [(5, .null), (4, .null), (0, .ref 0), (1, .int x1), (2, .int x2), (3, .int x3)]) (by decide +kernel) (by decide +kernel) (Or.inr (Or.inl rfl)) rfl) ?_
  refine ev_go0 (ev_one_pure (M := (ev_Mof 180)) (pc := 17) (i := .aload 4) (len := 2) (pc' := 19) (lv' := [(5, .null), (4, .null), (0, .ref 0), (1, .int x1), (2, .int x2), (3, .int x3)]) (st' := [.null]) (by decide +kernel) rfl) ?_
  refine ev_go0 (ev_w_ifnull (M := (ev_Mof 180)) (pc := 19) (o := 21) (t := 40) (by decide +kernel) (Or.inl ⟨rfl, rfl⟩)) ?_
  rfl
theorem ev_k281 (x1 : Int32) (hl_x1 : (0 : Int) ≤ x1.toInt) (x2 : Int32) (hu_x2 : x2.toInt ≤ (-1 : Int)) (x3 : Int32) {n : Nat} : ev_calld 12 377 [.ref 0, .int x1, .int x2, .int x3, .ref 723] ev_H0 n = some (.inl (some (.int (1))), ev_H0, n, 1, 6) := by
  refine ev_call_int (k := 9) (pcR := 18) (lv' := [(5, .retAddr 1), (0, .ref 0), (1, .int x1), (2, .int x2), (3, .int x3), (4, .ref 723)]) (v := (1)) (ty := .int) (by decide +kernel) rfl ?_ (by decide +kernel) (by decide +kernel) (by decide +kernel) (by decide)
  show ev_stepn _ 9 (0, [(0, .ref 0), (1, .int x1), (2, .int x2), (3, .int x3), (4, .ref 723)], [], _, _, 0, 0) = _
  refine ev_go0 (ev_one_pure (M := (ev_Mof 377)) (pc := 0) (i := .aload 4) (len := 2) (pc' := 2) (lv' := [(0, .ref 0), (1, .int x1), (2, .int x2), (3, .int x3), (4, .ref 723)]) (st' := [.ref 723]) (by decide +kernel) rfl) ?_
  refine ev_go0 (ev_w_iconst (M := (ev_Mof 377)) (pc := 2) (k := 0) (v := 0) (by decide +kernel) (by decide +kernel)) ?_
  refine ev_go0 (ev_one_pure (M := (ev_Mof 377)) (pc := 3) (i := .aload_n 0) (len := 1) (pc' := 4) (lv' := [(0, .ref 0), (1, .int x1), (2, .int x2), (3, .int x3), (4, .ref 723)]) (st' := [.ref 0, .int (0), .ref 723]) (by decide +kernel) rfl) ?_
  refine ev_go0 (ev_one_pure (M := (ev_Mof 377)) (pc := 4) (i := .iload_n 1) (len := 1) (pc' := 5) (lv' := [(0, .ref 0), (1, .int x1), (2, .int x2), (3, .int x3), (4, .ref 723)]) (st' := [.int x1, .ref 0, .int (0), .ref 723]) (by decide +kernel) rfl) ?_
  refine ev_go0 (ev_one_pure (M := (ev_Mof 377)) (pc := 5) (i := .iload_n 2) (len := 1) (pc' := 6) (lv' := [(0, .ref 0), (1, .int x1), (2, .int x2), (3, .int x3), (4, .ref 723)]) (st' := [.int x2, .int x1, .ref 0, .int (0), .ref 723]) (by decide +kernel) rfl) ?_
  refine ev_go0 (ev_one_pure (M := (ev_Mof 377)) (pc := 6) (i := .iload_n 3) (len := 1) (pc' := 7) (lv' := [(0, .ref 0), (1, .int x1), (2, .int x2), (3, .int x3), (4, .ref 723)]) (st' := [.int x3, .int x2, .int x1, .ref 0, .int (0), .ref 723]) (by decide +kernel) rfl) ?_
  refine ev_go (ev_p_virtX (M := (ev_Mof 377)) (pc := 7) (x := 61) (t := 15) (mi := 180) (na := 3) (by decide +kernel) (by decide +kernel) (by decide +kernel) (by decide +kernel) rfl rfl (ev_recv_of ev_fH0) (ev_k280 x1 hl_x1 x2 hu_x2 x3) (by decide +kernel)) ?_
  refine ev_go0 (ev_w_astore (M := (ev_Mof 377)) (pc := 15) (k := 5) (lv' := [(5, .retAddr 1), (0, .ref 0), (1, .int x1), (2, .int x2), (3, .int x3), (4, .ref 723)]) (by decide +kernel) (by decide +kernel) (Or.inr (Or.inr ⟨_, rfl⟩)) rfl) ?_
  refine ev_go0 (ev_w_iconst (M := (ev_Mof 377)) (pc := 17) (k := 1) (v := 1) (by decide +kernel) (by decide +kernel)) ?_
  rfl
theorem ev_k282 (x1 : Int32) (hl_x1 : (0 : Int) ≤ x1.toInt) (x2 : Int32) (hu_x2 : x2.toInt ≤ (-1 : Int)) (x3 : Int32) {n : Nat} : ev_calld 12 332 [.ref 621, .int x1, .int x2, .int x3] ev_H0 n = some (.inl (some (.int (0))), (ev_H0.set 621 (.inr (13, (ev_F621.set 0 (.int (1)))))), n, 0, 0) := by
  refine ev_call_int (k := 11) (pcR := 34) (lv' := [(0, .ref 621), (1, .int x1), (2, .int x2), (3, .int x3)]) (v := (0)) (ty := .int) (by decide +kernel) rfl ?_ (by decide +kernel) (by decide +kernel) (by decide +kernel) (by decide)
  show ev_stepn _ 11 (0, [(0, .ref 621), (1, .int x1), (2, .int x2), (3, .int x3)], [], _, _, 0, 0) = _
  refine ev_go0 (ev_one_pure (M := (ev_Mof 332)) (pc := 0) (i := .aload_n 0) (len := 1) (pc' := 1) (lv' := [(0, .ref 621), (1, .int x1), (2, .int x2), (3, .int x3)]) (st' := [.ref 621]) (by decide +kernel) rfl) ?_
  refine ev_go0 (ev_one_pure (M := (ev_Mof 332)) (pc := 1) (i := .aload_n 0) (len := 1) (pc' := 2) (lv' := [(0, .ref 621), (1, .int x1), (2, .int x2), (3, .int x3)]) (st' := [.ref 621, .ref 621]) (by decide +kernel) rfl) ?_
  refine ev_go0 (ev_one_pure (M := (ev_Mof 332)) (pc := 2) (i := .iload_n 1) (len := 1) (pc' := 3) (lv' := [(0, .ref 621), (1, .int x1), (2, .int x2), (3, .int x3)]) (st' := [.int x1, .ref 621, .ref 621]) (by decide +kernel) rfl) ?_
  refine ev_go0 (ev_p_virt (M := (ev_Mof 332)) (pc := 3) (x := 531) (mi := 273) (na := 1) (by decide +kernel) (by decide +kernel) (by decide +kernel) (by decide +kernel) rfl rfl (ev_recv_of ev_fH621) (ev_k30 x1 hl_x1)) ?_
  refine ev_go0 (ev_w_if (M := (ev_Mof 332)) (pc := 6) (q := .eq) (o := 16) (b := true) (t := 22) (by decide +kernel) (by decide +kernel) rfl) ?_
  refine ev_go0 (ev_w_iconst (M := (ev_Mof 332)) (pc := 22) (k := 1) (v := 1) (by decide +kernel) (by decide +kernel)) ?_
  refine ev_go0 (ev_p_putf (M := (ev_Mof 332)) (pc := 23) (x := 321) (ci := 13) (f := 0) (by decide +kernel) (by decide +kernel) ev_fH621 rfl (by decide +kernel)) ?_
  refine ev_go0 (ev_one_pure (M := (ev_Mof 332)) (pc := 26) (i := .aload_n 0) (len := 1) (pc' := 27) (lv' := [(0, .ref 621), (1, .int x1), (2, .int x2), (3, .int x3)]) (st' := [.ref 621]) (by decide +kernel) rfl) ?_
  refine ev_go0 (ev_p_getf (M := (ev_Mof 332)) (pc := 27) (x := 321) (ci := 13) (f := 0) (fin := 0) (v := .int (1)) (by decide +kernel) (by decide +kernel) (ev_hself ev_fH621) rfl) ?_
  refine ev_go0 (ev_w_if (M := (ev_Mof 332)) (pc := 30) (q := .le) (o := 5) (b := false) (t := 33) (by decide +kernel) (by decide +kernel) rfl) ?_
  refine ev_go0 (ev_w_iconst (M := (ev_Mof 332)) (pc := 33) (k := 0) (v := 0) (by decide +kernel) (by decide +kernel)) ?_
  rfl
theorem ev_p1_14_pn (xs : Nat → Int32) (x1 : Int32) (hl_x1 : (0 : Int) ≤ x1.toInt) (x2 : Int32) (hu_x2 : x2.toInt ≤ (-1 : Int)) (x3 : Int32) (e1 : xs 1 = x1) (e2 : xs 2 = x2) (e3 : xs 3 = x3) : ev_P1 xs 1080 := by
  refine ⟨44, [(6, .int (0)), (5, .int (1)), (4, .int (0)), (3, .ref 723), (2, .ref 621), (1, .ref 0), (0, .retAddr 0)], (ev_H0.set 621 (.inr (13, (ev_F621.set 0 (.int (1)))))), 724, 725, 3553592, ?_, ⟨rfl, rfl, rfl, rfl⟩, rfl, by decide, by decide⟩
  show ev_stepn _ _ (1080, [(4, .int (0)), (3, .ref 723), (2, .ref 621), (1, .ref 0), (0, .retAddr 0)], [], _, _, _, _) = _
  refine ev_go0 (ev_one_pure (M := ev_Mlaw) (pc := 1080) (i := .aload_n 1) (len := 1) (pc' := 1081) (lv' := [(4, .int (0)), (3, .ref 723), (2, .ref 621), (1, .ref 0), (0, .retAddr 0)]) (st' := [.ref 0]) (by decide +kernel) rfl) ?_
  refine ev_go0 (ev_one_pure (M := ev_Mlaw) (pc := 1081) (i := .aload_n 0) (len := 1) (pc' := 1082) (lv' := [(4, .int (0)), (3, .ref 723), (2, .ref 621), (1, .ref 0), (0, .retAddr 0)]) (st' := [.retAddr 0, .ref 0]) (by decide +kernel) rfl) ?_
  refine ev_go0 (ev_one_pure (M := ev_Mlaw) (pc := 1082) (i := .iload 4) (len := 2) (pc' := 1084) (lv' := [(4, .int (0)), (3, .ref 723), (2, .ref 621), (1, .ref 0), (0, .retAddr 0)]) (st' := [.int (0), .retAddr 0, .ref 0]) (by decide +kernel) rfl) ?_
  refine ev_go0 (ev_w_iconst (M := ev_Mlaw) (pc := 1084) (k := 1) (v := 1) (by decide +kernel) (by decide +kernel)) ?_
  refine ev_go0 (ev_w_iadd (M := ev_Mlaw) (pc := 1085) (v := (1)) (by decide +kernel) (by decide +kernel)) ?_
  refine ev_go0 (ev_w_scr (M := ev_Mlaw) (pc := 1086) (v := x1) (j := 1) (by decide +kernel) (by decide +kernel) (by decide +kernel) e1) ?_
  refine ev_go0 (ev_one_pure (M := ev_Mlaw) (pc := 1087) (i := .aload_n 0) (len := 1) (pc' := 1088) (lv' := [(4, .int (0)), (3, .ref 723), (2, .ref 621), (1, .ref 0), (0, .retAddr 0)]) (st' := [.retAddr 0, .int x1, .ref 0]) (by decide +kernel) rfl) ?_
  refine ev_go0 (ev_one_pure (M := ev_Mlaw) (pc := 1088) (i := .iload 4) (len := 2) (pc' := 1090) (lv' := [(4, .int (0)), (3, .ref 723), (2, .ref 621), (1, .ref 0), (0, .retAddr 0)]) (st' := [.int (0), .retAddr 0, .int x1, .ref 0]) (by decide +kernel) rfl) ?_
  refine ev_go0 (ev_w_iconst (M := ev_Mlaw) (pc := 1090) (k := 2) (v := 2) (by decide +kernel) (by decide +kernel)) ?_
  refine ev_go0 (ev_w_iadd (M := ev_Mlaw) (pc := 1091) (v := (2)) (by decide +kernel) (by decide +kernel)) ?_
  refine ev_go0 (ev_w_scr (M := ev_Mlaw) (pc := 1092) (v := x2) (j := 2) (by decide +kernel) (by decide +kernel) (by decide +kernel) e2) ?_
  refine ev_go0 (ev_one_pure (M := ev_Mlaw) (pc := 1093) (i := .aload_n 0) (len := 1) (pc' := 1094) (lv' := [(4, .int (0)), (3, .ref 723), (2, .ref 621), (1, .ref 0), (0, .retAddr 0)]) (st' := [.retAddr 0, .int x2, .int x1, .ref 0]) (by decide +kernel) rfl) ?_
  refine ev_go0 (ev_one_pure (M := ev_Mlaw) (pc := 1094) (i := .iload 4) (len := 2) (pc' := 1096) (lv' := [(4, .int (0)), (3, .ref 723), (2, .ref 621), (1, .ref 0), (0, .retAddr 0)]) (st' := [.int (0), .retAddr 0, .int x2, .int x1, .ref 0]) (by decide +kernel) rfl) ?_
  refine ev_go0 (ev_w_iconst (M := ev_Mlaw) (pc := 1096) (k := 3) (v := 3) (by decide +kernel) (by decide +kernel)) ?_
  refine ev_go0 (ev_w_iadd (M := ev_Mlaw) (pc := 1097) (v := (3)) (by decide +kernel) (by decide +kernel)) ?_
  refine ev_go0 (ev_w_scr (M := ev_Mlaw) (pc := 1098) (v := x3) (j := 3) (by decide +kernel) (by decide +kernel) (by decide +kernel) e3) ?_
  refine ev_go0 (ev_one_pure (M := ev_Mlaw) (pc := 1099) (i := .aload_n 3) (len := 1) (pc' := 1100) (lv' := [(4, .int (0)), (3, .ref 723), (2, .ref 621), (1, .ref 0), (0, .retAddr 0)]) (st' := [.ref 723, .int x3, .int x2, .int x1, .ref 0]) (by decide +kernel) rfl) ?_
  refine ev_go (ev_w_stat (M := ev_Mlaw) (pc := 1100) (y := 179) (kind := 8) (Or.inr (Or.inr rfl)) (mi := 377) (na := 5) (by decide +kernel) (by decide +kernel) (by decide +kernel) (by decide +kernel) rfl rfl (ev_k281 x1 hl_x1 x2 hu_x2 x3)) ?_
  refine ev_go0 (ev_w_istore (M := ev_Mlaw) (pc := 1103) (k := 5) (lv' := [(5, .int (1)), (4, .int (0)), (3, .ref 723), (2, .ref 621), (1, .ref 0), (0, .retAddr 0)]) (by decide +kernel) (by decide +kernel) rfl) ?_
  refine ev_go0 (ev_one_pure (M := ev_Mlaw) (pc := 1105) (i := .aload_n 2) (len := 1) (pc' := 1106) (lv' := [(5, .int (1)), (4, .int (0)), (3, .ref 723), (2, .ref 621), (1, .ref 0), (0, .retAddr 0)]) (st' := [.ref 621]) (by decide +kernel) rfl) ?_
  refine ev_go0 (ev_one_pure (M := ev_Mlaw) (pc := 1106) (i := .aload_n 0) (len := 1) (pc' := 1107) (lv' := [(5, .int (1)), (4, .int (0)), (3, .ref 723), (2, .ref 621), (1, .ref 0), (0, .retAddr 0)]) (st' := [.retAddr 0, .ref 621]) (by decide +kernel) rfl) ?_
  refine ev_go0 (ev_one_pure (M := ev_Mlaw) (pc := 1107) (i := .iload 4) (len := 2) (pc' := 1109) (lv' := [(5, .int (1)), (4, .int (0)), (3, .ref 723), (2, .ref 621), (1, .ref 0), (0, .retAddr 0)]) (st' := [.int (0), .retAddr 0, .ref 621]) (by decide +kernel) rfl) ?_
  refine ev_go0 (ev_w_iconst (M := ev_Mlaw) (pc := 1109) (k := 1) (v := 1) (by decide +kernel) (by decide +kernel)) ?_
  refine ev_go0 (ev_w_iadd (M := ev_Mlaw) (pc := 1110) (v := (1)) (by decide +kernel) (by decide +kernel)) ?_
  refine ev_go0 (ev_w_scr (M := ev_Mlaw) (pc := 1111) (v := x1) (j := 1) (by decide +kernel) (by decide +kernel) (by decide +kernel) e1) ?_
  refine ev_go0 (ev_one_pure (M := ev_Mlaw) (pc := 1112) (i := .aload_n 0) (len := 1) (pc' := 1113) (lv' := [(5, .int (1)), (4, .int (0)), (3, .ref 723), (2, .ref 621), (1, .ref 0), (0, .retAddr 0)]) (st' := [.retAddr 0, .int x1, .ref 621]) (by decide +kernel) rfl) ?_
  refine ev_go0 (ev_one_pure (M := ev_Mlaw) (pc := 1113) (i := .iload 4) (len := 2) (pc' := 1115) (lv' := [(5, .int (1)), (4, .int (0)), (3, .ref 723), (2, .ref 621), (1, .ref 0), (0, .retAddr 0)]) (st' := [.int (0), .retAddr 0, .int x1, .ref 621]) (by decide +kernel) rfl) ?_
  refine ev_go0 (ev_w_iconst (M := ev_Mlaw) (pc := 1115) (k := 2) (v := 2) (by decide +kernel) (by decide +kernel)) ?_
  refine ev_go0 (ev_w_iadd (M := ev_Mlaw) (pc := 1116) (v := (2)) (by decide +kernel) (by decide +kernel)) ?_
  refine ev_go0 (ev_w_scr (M := ev_Mlaw) (pc := 1117) (v := x2) (j := 2) (by decide +kernel) (by decide +kernel) (by decide +kernel) e2) ?_
  refine ev_go0 (ev_one_pure (M := ev_Mlaw) (pc := 1118) (i := .aload_n 0) (len := 1) (pc' := 1119) (lv' := [(5, .int (1)), (4, .int (0)), (3, .ref 723), (2, .ref 621), (1, .ref 0), (0, .retAddr 0)]) (st' := [.retAddr 0, .int x2, .int x1, .ref 621]) (by decide +kernel) rfl) ?_
  refine ev_go0 (ev_one_pure (M := ev_Mlaw) (pc := 1119) (i := .iload 4) (len := 2) (pc' := 1121) (lv' := [(5, .int (1)), (4, .int (0)), (3, .ref 723), (2, .ref 621), (1, .ref 0), (0, .retAddr 0)]) (st' := [.int (0), .retAddr 0, .int x2, .int x1, .ref 621]) (by decide +kernel) rfl) ?_
  refine ev_go0 (ev_w_iconst (M := ev_Mlaw) (pc := 1121) (k := 3) (v := 3) (by decide +kernel) (by decide +kernel)) ?_
  refine ev_go0 (ev_w_iadd (M := ev_Mlaw) (pc := 1122) (v := (3)) (by decide +kernel) (by decide +kernel)) ?_
  refine ev_go0 (ev_w_scr (M := ev_Mlaw) (pc := 1123) (v := x3) (j := 3) (by decide +kernel) (by decide +kernel) (by decide +kernel) e3) ?_
  refine ev_go0 (ev_p_virt (M := ev_Mlaw) (pc := 1124) (x := 181) (mi := 332) (na := 3) (by decide +kernel) (by decide +kernel) (by decide +kernel) (by decide +kernel) rfl rfl (ev_recv_of ev_fH621) (ev_k282 x1 hl_x1 x2 hu_x2 x3)) ?_
  refine ev_go0 (ev_w_istore (M := ev_Mlaw) (pc := 1127) (k := 6) (lv' := [(6, .int (0)), (5, .int (1)), (4, .int (0)), (3, .ref 723), (2, .ref 621), (1, .ref 0), (0, .retAddr 0)]) (by decide +kernel) (by decide +kernel) rfl) ?_
  refine ev_go0 (ev_one_pure (M := ev_Mlaw) (pc := 1129) (i := .aload_n 2) (len := 1) (pc' := 1130) (lv' := [(6, .int (0)), (5, .int (1)), (4, .int (0)), (3, .ref 723), (2, .ref 621), (1, .ref 0), (0, .retAddr 0)]) (st' := [.ref 621]) (by decide +kernel) rfl) ?_
  refine ev_go0 (ev_p_virt (M := ev_Mlaw) (pc := 1130) (x := 131) (mi := 220) (na := 0) (by decide +kernel) (by decide +kernel) (by decide +kernel) (by decide +kernel) rfl rfl (ev_recv_of (ev_hself ev_fH621)) ev_k26) ?_
  refine ev_go0 (ev_one_pure (M := ev_Mlaw) (pc := 1133) (i := .iload 5) (len := 2) (pc' := 1135) (lv' := [(6, .int (0)), (5, .int (1)), (4, .int (0)), (3, .ref 723), (2, .ref 621), (1, .ref 0), (0, .retAddr 0)]) (st' := [.int (1), .int (1)]) (by decide +kernel) rfl) ?_
  refine ev_go0 (ev_w_icmp (M := ev_Mlaw) (pc := 1135) (q := .eq) (o := 5) (b := true) (t := 1140) (by decide +kernel) (by decide +kernel) rfl) ?_
  refine ev_go0 (ev_one_pure (M := ev_Mlaw) (pc := 1140) (i := .iload 5) (len := 2) (pc' := 1142) (lv' := [(6, .int (0)), (5, .int (1)), (4, .int (0)), (3, .ref 723), (2, .ref 621), (1, .ref 0), (0, .retAddr 0)]) (st' := [.int (1)]) (by decide +kernel) rfl) ?_
  refine ev_go0 (ev_w_if (M := ev_Mlaw) (pc := 1142) (q := .ne) (o := 15) (b := true) (t := 1157) (by decide +kernel) (by decide +kernel) rfl) ?_
  refine ev_go0 (ev_one_pure (M := ev_Mlaw) (pc := 1157) (i := .goto 1115) (len := 3) (pc' := 2272) (lv' := [(6, .int (0)), (5, .int (1)), (4, .int (0)), (3, .ref 723), (2, .ref 621), (1, .ref 0), (0, .retAddr 0)]) (st' := []) (by decide +kernel) rfl) ?_
  rfl
theorem ev_k283 (x1 : Int32) (hl_x1 : (0 : Int) ≤ x1.toInt) (x3 : Int32) {n : Nat} : ev_calld 11 180 [.ref 0, .int x1, .int (0), .int x3] ev_H0 n = some (.inr "java/lang/IndexOutOfBoundsException", ev_H0, n, 1, 6) := by
  refine ev_call_thrown (k := 11) (pcR := 40) (x := 160) (lv' := [(5, .ref 263), (4, .null), (0, .ref 0), (1, .int x1), (2, .int (0)), (3, .int x3)]) (by decide +kernel) rfl ?_ (by decide +kernel) (by decide +kernel) (by decide +kernel) (by decide) (by decide)
  show ev_stepn _ 11 (0, [(0, .ref 0), (1, .int x1), (2, .int (0)), (3, .int x3)], [], _, _, 0, 0) = _
  refine ev_go0 (ev_one_pure (M := (ev_Mof 180)) (pc := 0) (i := .aload_n 0) (len := 1) (pc' := 1) (lv' := [(0, .ref 0), (1, .int x1), (2, .int (0)), (3, .int x3)]) (st' := [.ref 0]) (by decide +kernel) rfl) ?_
  refine ev_go0 (ev_one_pure (M := (ev_Mof 180)) (pc := 1) (i := .iload_n 1) (len := 1) (pc' := 2) (lv' := [(0, .ref 0), (1, .int x1), (2, .int (0)), (3, .int x3)]) (st' := [.int x1, .ref 0]) (by decide +kernel) rfl) ?_
  refine ev_go0 (ev_p_virt (M := (ev_Mof 180)) (pc := 2) (x := 156) (mi := 200) (na := 1) (by decide +kernel) (by decide +kernel) (by decide +kernel) (by decide +kernel) rfl rfl (ev_recv_of ev_fH0) (ev_k9 x1 hl_x1)) ?_
  refine ev_go0 (ev_w_astore (M := (ev_Mof 180)) (pc := 5) (k := 4) (lv' := [(4, .null), (0, .ref 0), (1, .int x1), (2, .int (0)), (3, .int x3)]) (by decide +kernel) (by decide +kernel) (Or.inr (Or.inl rfl)) rfl) ?_
  refine ev_go0 (ev_one_pure (M := (ev_Mof 180)) (pc := 7) (i := .aload_n 0) (len := 1) (pc' := 8) (lv' := [(4, .null), (0, .ref 0), (1, .int x1), (2, .int (0)), (3, .int x3)]) (st' := [.ref 0]) (by decide +kernel) rfl) ?_
  refine ev_go0 (ev_p_getf (M := (ev_Mof 180)) (pc := 8) (x := 48) (ci := 12) (f := 8) (fin := 1) (v := .ref 254) (by decide +kernel) (by decide +kernel) ev_fH0 rfl) ?_
  refine ev_go0 (ev_one_pure (M := (ev_Mof 180)) (pc := 11) (i := .iload_n 2) (len := 1) (pc' := 12) (lv' := [(4, .null), (0, .ref 0), (1, .int x1), (2, .int (0)), (3, .int x3)]) (st' := [.int (0), .ref 254]) (by decide +kernel) rfl) ?_
  refine ev_go0 (ev_p_virt (M := (ev_Mof 180)) (pc := 12) (x := 221) (mi := 1) (na := 1) (by decide +kernel) (by decide +kernel) (by decide +kernel) (by decide +kernel) rfl rfl (ev_recv_of ev_fH254) ev_k234) ?_
  refine ev_go0 (ev_w_astore (M := (ev_Mof 180)) (pc := 15) (k := 5) (lv' := [(5, .ref 263), (4, .null), (0, .ref 0), (1, .int x1), (2, .int (0)), (3, .int x3)]) (by decide +kernel) (by decide +kernel) (Or.inl ⟨_, rfl⟩) rfl) ?_
  refine ev_go0 (ev_one_pure (M := (ev_Mof 180)) (pc := 17) (i := .aload 4) (len := 2) (pc' := 19) (lv' := [(5, .ref 263), (4, .null), (0, .ref 0), (1, .int x1), (2, .int (0)), (3, .int x3)]) (st' := [.null]) (by decide +kernel) rfl) ?_
  refine ev_go0 (ev_w_ifnull (M := (ev_Mof 180)) (pc := 19) (o := 21) (t := 40) (by decide +kernel) (Or.inl ⟨rfl, rfl⟩)) ?_
  rfl
theorem ev_k284 (x1 : Int32) (hl_x1 : (0 : Int) ≤ x1.toInt) (x3 : Int32) {n : Nat} : ev_calld 12 377 [.ref 0, .int x1, .int (0), .int x3, .ref 723] ev_H0 n = some (.inl (some (.int (1))), ev_H0, n, 1, 6) := by
  refine ev_call_int (k := 9) (pcR := 18) (lv' := [(5, .retAddr 1), (0, .ref 0), (1, .int x1), (2, .int (0)), (3, .int x3), (4, .ref 723)]) (v := (1)) (ty := .int) (by decide +kernel) rfl ?_ (by decide +kernel) (by decide +kernel) (by decide +kernel) (by decide)
  show ev_stepn _ 9 (0, [(0, .ref 0), (1, .int x1), (2, .int (0)), (3, .int x3), (4, .ref 723)], [], _, _, 0, 0) = _
  refine ev_go0 (ev_one_pure (M := (ev_Mof 377)) (pc := 0) (i := .aload 4) (len := 2) (pc' := 2) (lv' := [(0, .ref 0), (1, .int x1), (2, .int (0)), (3, .int x3), (4, .ref 723)]) (st' := [.ref 723]) (by decide +kernel) rfl) ?_
  refine ev_go0 (ev_w_iconst (M := (ev_Mof 377)) (pc := 2) (k := 0) (v := 0) (by decide +kernel) (by decide +kernel)) ?_
  refine ev_go0 (ev_one_pure (M := (ev_Mof 377)) (pc := 3) (i := .aload_n 0) (len := 1) (pc' := 4) (lv' := [(0, .ref 0), (1, .int x1), (2, .int (0)), (3, .int x3), (4, .ref 723)]) (st' := [.ref 0, .int (0), .ref 723]) (by decide +kernel) rfl) ?_
  refine ev_go0 (ev_one_pure (M := (ev_Mof 377)) (pc := 4) (i := .iload_n 1) (len := 1) (pc' := 5) (lv' := [(0, .ref 0), (1, .int x1), (2, .int (0)), (3, .int x3), (4, .ref 723)]) (st' := [.int x1, .ref 0, .int (0), .ref 723]) (by decide +kernel) rfl) ?_
  refine ev_go0 (ev_one_pure (M := (ev_Mof 377)) (pc := 5) (i := .iload_n 2) (len := 1) (pc' := 6) (lv' := [(0, .ref 0), (1, .int x1), (2, .int (0)), (3, .int x3), (4, .ref 723)]) (st' := [.int (0), .int x1, .ref 0, .int (0), .ref 723]) (by decide +kernel) rfl) ?_
  refine ev_go0 (ev_one_pure (M := (ev_Mof 377)) (pc := 6) (i := .iload_n 3) (len := 1) (pc' := 7) (lv' := [(0, .ref 0), (1, .int x1), (2, .int (0)), (3, .int x3), (4, .ref 723)]) (st' := [.int x3, .int (0), .int x1, .ref 0, .int (0), .ref 723]) (by decide +kernel) rfl) ?_
  refine ev_go (ev_p_virtX (M := (ev_Mof 377)) (pc := 7) (x := 61) (t := 15) (mi := 180) (na := 3) (by decide +kernel) (by decide +kernel) (by decide +kernel) (by decide +kernel) rfl rfl (ev_recv_of ev_fH0) (ev_k283 x1 hl_x1 x3) (by decide +kernel)) ?_
  refine ev_go0 (ev_w_astore (M := (ev_Mof 377)) (pc := 15) (k := 5) (lv' := [(5, .retAddr 1), (0, .ref 0), (1, .int x1), (2, .int (0)), (3, .int x3), (4, .ref 723)]) (by decide +kernel) (by decide +kernel) (Or.inr (Or.inr ⟨_, rfl⟩)) rfl) ?_
  refine ev_go0 (ev_w_iconst (M := (ev_Mof 377)) (pc := 17) (k := 1) (v := 1) (by decide +kernel) (by decide +kernel)) ?_
  rfl
theorem ev_k285 (x1 : Int32) (hl_x1 : (0 : Int) ≤ x1.toInt) (x3 : Int32) {n : Nat} : ev_calld 12 332 [.ref 621, .int x1, .int (0), .int x3] ev_H0 n = some (.inl (some (.int (0))), (ev_H0.set 621 (.inr (13, (ev_F621.set 0 (.int (1)))))), n, 0, 0) := by
  refine ev_call_int (k := 11) (pcR := 34) (lv' := [(0, .ref 621), (1, .int x1), (2, .int (0)), (3, .int x3)]) (v := (0)) (ty := .int) (by decide +kernel) rfl ?_ (by decide +kernel) (by decide +kernel) (by decide +kernel) (by decide)
  show ev_stepn _ 11 (0, [(0, .ref 621), (1, .int x1), (2, .int (0)), (3, .int x3)], [], _, _, 0, 0) = _
  refine ev_go0 (ev_one_pure (M := (ev_Mof 332)) (pc := 0) (i := .aload_n 0) (len := 1) (pc' := 1) (lv' := [(0, .ref 621), (1, .int x1), (2, .int (0)), (3, .int x3)]) (st' := [.ref 621]) (by decide +kernel) rfl) ?_
  refine ev_go0 (ev_one_pure (M := (ev_Mof 332)) (pc := 1) (i := .aload_n 0) (len := 1) (pc' := 2) (lv' := [(0, .ref 621), (1, .int x1), (2, .int (0)), (3, .int x3)]) (st' := [.ref 621, .ref 621]) (by decide +kernel) rfl) ?_
  refine ev_go0 (ev_one_pure (M := (ev_Mof 332)) (pc := 2) (i := .iload_n 1) (len := 1) (pc' := 3) (lv' := [(0, .ref 621), (1, .int x1), (2, .int (0)), (3, .int x3)]) (st' := [.int x1, .ref 621, .ref 621]) (by decide +kernel) rfl) ?_
  refine ev_go0 (ev_p_virt (M := (ev_Mof 332)) (pc := 3) (x := 531) (mi := 273) (na := 1) (by decide +kernel) (by decide +kernel) (by decide +kernel) (by decide +kernel) rfl rfl (ev_recv_of ev_fH621) (ev_k30 x1 hl_x1)) ?_
  refine ev_go0 (ev_w_if (M := (ev_Mof 332)) (pc := 6) (q := .eq) (o := 16) (b := true) (t := 22) (by decide +kernel) (by decide +kernel) rfl) ?_
  refine ev_go0 (ev_w_iconst (M := (ev_Mof 332)) (pc := 22) (k := 1) (v := 1) (by decide +kernel) (by decide +kernel)) ?_
  refine ev_go0 (ev_p_putf (M := (ev_Mof 332)) (pc := 23) (x := 321) (ci := 13) (f := 0) (by decide +kernel) (by decide +kernel) ev_fH621 rfl (by decide +kernel)) ?_
  refine ev_go0 (ev_one_pure (M := (ev_Mof 332)) (pc := 26) (i := .aload_n 0) (len := 1) (pc' := 27) (lv' := [(0, .ref 621), (1, .int x1), (2, .int (0)), (3, .int x3)]) (st' := [.ref 621]) (by decide +kernel) rfl) ?_
  refine ev_go0 (ev_p_getf (M := (ev_Mof 332)) (pc := 27) (x := 321) (ci := 13) (f := 0) (fin := 0) (v := .int (1)) (by decide +kernel) (by decide +kernel) (ev_hself ev_fH621) rfl) ?_
  refine ev_go0 (ev_w_if (M := (ev_Mof 332)) (pc := 30) (q := .le) (o := 5) (b := false) (t := 33) (by decide +kernel) (by decide +kernel) rfl) ?_
  refine ev_go0 (ev_w_iconst (M := (ev_Mof 332)) (pc := 33) (k := 0) (v := 0) (by decide +kernel) (by decide +kernel)) ?_
  rfl
theorem ev_p1_14_p0 (xs : Nat → Int32) (x1 : Int32) (hl_x1 : (0 : Int) ≤ x1.toInt) (x3 : Int32) (e1 : xs 1 = x1) (e2 : xs 2 = (0)) (e3 : xs 3 = x3) : ev_P1 xs 1080 := by
  refine ⟨44, [(6, .int (0)), (5, .int (1)), (4, .int (0)), (3, .ref 723), (2, .ref 621), (1, .ref 0), (0, .retAddr 0)], (ev_H0.set 621 (.inr (13, (ev_F621.set 0 (.int (1)))))), 724, 725, 3553592, ?_, ⟨rfl, rfl, rfl, rfl⟩, rfl, by decide, by decide⟩
  show ev_stepn _ _ (1080, [(4, .int (0)), (3, .ref 723), (2, .ref 621), (1, .ref 0), (0, .retAddr 0)], [], _, _, _, _) = _
  refine ev_go0 (ev_one_pure (M := ev_Mlaw) (pc := 1080) (i := .aload_n 1) (len := 1) (pc' := 1081) (lv' := [(4, .int (0)), (3, .ref 723), (2, .ref 621), (1, .ref 0), (0, .retAddr 0)]) (st' := [.ref 0]) (by decide +kernel) rfl) ?_
  refine ev_go0 (ev_one_pure (M := ev_Mlaw) (pc := 1081) (i := .aload_n 0) (len := 1) (pc' := 1082) (lv' := [(4, .int (0)), (3, .ref 723), (2, .ref 621), (1, .ref 0), (0, .retAddr 0)]) (st' := [.retAddr 0, .ref 0]) (by decide +kernel) rfl) ?_
  refine ev_go0 (ev_one_pure (M := ev_Mlaw) (pc := 1082) (i := .iload 4) (len := 2) (pc' := 1084) (lv' := [(4, .int (0)), (3, .ref 723), (2, .ref 621), (1, .ref 0), (0, .retAddr 0)]) (st' := [.int (0), .retAddr 0, .ref 0]) (by decide +kernel) rfl) ?_
  refine ev_go0 (ev_w_iconst (M := ev_Mlaw) (pc := 1084) (k := 1) (v := 1) (by decide +kernel) (by decide +kernel)) ?_
  refine ev_go0 (ev_w_iadd (M := ev_Mlaw) (pc := 1085) (v := (1)) (by decide +kernel) (by decide +kernel)) ?_
  refine ev_go0 (ev_w_scr (M := ev_Mlaw) (pc := 1086) (v := x1) (j := 1) (by decide +kernel) (by decide +kernel) (by decide +kernel) e1) ?_
  refine ev_go0 (ev_one_pure (M := ev_Mlaw) (pc := 1087) (i := .aload_n 0) (len := 1) (pc' := 1088) (lv' := [(4, .int (0)), (3, .ref 723), (2, .ref 621), (1, .ref 0), (0, .retAddr 0)]) (st' := [.retAddr 0, .int x1, .ref 0]) (by decide +kernel) rfl) ?_
  refine ev_go0 (ev_one_pure (M := ev_Mlaw) (pc := 1088) (i := .iload 4) (len := 2) (pc' := 1090) (lv' := [(4, .int (0)), (3, .ref 723), (2, .ref 621), (1, .ref 0), (0, .retAddr 0)]) (st' := [.int (0), .retAddr 0, .int x1, .ref 0]) (by decide +kernel) rfl) ?_
  refine ev_go0 (ev_w_iconst (M := ev_Mlaw) (pc := 1090) (k := 2) (v := 2) (by decide +kernel) (by decide +kernel)) ?_
  refine ev_go0 (ev_w_iadd (M := ev_Mlaw) (pc := 1091) (v := (2)) (by decide +kernel) (by decide +kernel)) ?_
  refine ev_go0 (ev_w_scr (M := ev_Mlaw) (pc := 1092) (v := (0)) (j := 2) (by decide +kernel) (by decide +kernel) (by decide +kernel) e2) ?_
  refine ev_go0 (ev_one_pure (M := ev_Mlaw) (pc := 1093) (i := .aload_n 0) (len := 1) (pc' := 1094) (lv' := [(4, .int (0)), (3, .ref 723), (2, .ref 621), (1, .ref 0), (0, .retAddr 0)]) (st' := [.retAddr 0, .int (0), .int x1, .ref 0]) (by decide +kernel) rfl) ?_
  refine ev_go0 (ev_one_pure (M := ev_Mlaw) (pc := 1094) (i := .iload 4) (len := 2) (pc' := 1096) (lv' := [(4, .int (0)), (3, .ref 723), (2, .ref 621), (1, .ref 0), (0, .retAddr 0)]) (st' := [.int (0), .retAddr 0, .int (0), .int x1, .ref 0]) (by decide +kernel) rfl) ?_
  refine ev_go0 (ev_w_iconst (M := ev_Mlaw) (pc := 1096) (k := 3) (v := 3) (by decide +kernel) (by decide +kernel)) ?_
  refine ev_go0 (ev_w_iadd (M := ev_Mlaw) (pc := 1097) (v := (3)) (by decide +kernel) (by decide +kernel)) ?_
  refine ev_go0 (ev_w_scr (M := ev_Mlaw) (pc := 1098) (v := x3) (j := 3) (by decide +kernel) (by decide +kernel) (by decide +kernel) e3) ?_
  refine ev_go0 (ev_one_pure (M := ev_Mlaw) (pc := 1099) (i := .aload_n 3) (len := 1) (pc' := 1100) (lv' := [(4, .int (0)), (3, .ref 723), (2, .ref 621), (1, .ref 0), (0, .retAddr 0)]) (st' := [.ref 723, .int x3, .int (0), .int x1, .ref 0]) (by decide +kernel) rfl) ?_
  refine ev_go (ev_w_stat (M := ev_Mlaw) (pc := 1100) (y := 179) (kind := 8) (Or.inr (Or.inr rfl)) (mi := 377) (na := 5) (by decide +kernel) (by decide +kernel) (by decide +kernel) (by decide +kernel) rfl rfl (ev_k284 x1 hl_x1 x3)) ?_
  refine ev_go0 (ev_w_istore (M := ev_Mlaw) (pc := 1103) (k := 5) (lv' := [(5, .int (1)), (4, .int (0)), (3, .ref 723), (2, .ref 621), (1, .ref 0), (0, .retAddr 0)]) (by decide +kernel) (by decide +kernel) rfl) ?_
  refine ev_go0 (ev_one_pure (M := ev_Mlaw) (pc := 1105) (i := .aload_n 2) (len := 1) (pc' := 1106) (lv' := [(5, .int (1)), (4, .int (0)), (3, .ref 723), (2, .ref 621), (1, .ref 0), (0, .retAddr 0)]) (st' := [.ref 621]) (by decide +kernel) rfl) ?_
  refine ev_go0 (ev_one_pure (M := ev_Mlaw) (pc := 1106) (i := .aload_n 0) (len := 1) (pc' := 1107) (lv' := [(5, .int (1)), (4, .int (0)), (3, .ref 723), (2, .ref 621), (1, .ref 0), (0, .retAddr 0)]) (st' := [.retAddr 0, .ref 621]) (by decide +kernel) rfl) ?_
  refine ev_go0 (ev_one_pure (M := ev_Mlaw) (pc := 1107) (i := .iload 4) (len := 2) (pc' := 1109) (lv' := [(5, .int (1)), (4, .int (0)), (3, .ref 723), (2, .ref 621), (1, .ref 0), (0, .retAddr 0)]) (st' := [.int (0), .retAddr 0, .ref 621]) (by decide +kernel) rfl) ?_
  refine ev_go0 (ev_w_iconst (M := ev_Mlaw) (pc := 1109) (k := 1) (v := 1) (by decide +kernel) (by decide +kernel)) ?_
  refine ev_go0 (ev_w_iadd (M := ev_Mlaw) (pc := 1110) (v := (1)) (by decide +kernel) (by decide +kernel)) ?_
  refine ev_go0 (ev_w_scr (M := ev_Mlaw) (pc := 1111) (v := x1) (j := 1) (by decide +kernel) (by decide +kernel) (by decide +kernel) e1) ?_
  refine ev_go0 (ev_one_pure (M := ev_Mlaw) (pc := 1112) (i := .aload_n 0) (len := 1) (pc' := 1113) (lv' := [(5, .int (1)), (4, .int (0)), (3, .ref 723), (2, .ref 621), (1, .ref 0), (0, .retAddr 0)]) (st' := [.retAddr 0, .int x1, .ref 621]) (by decide +kernel) rfl) ?_
  refine ev_go0 (ev_one_pure (M := ev_Mlaw) (pc := 1113) (i := .iload 4) (len := 2) (pc' := 1115) (lv' := [(5, .int (1)), (4, .int (0)), (3, .ref 723), (2, .ref 621), (1, .ref 0), (0, .retAddr 0)]) (st' := [.int (0), .retAddr 0, .int x1, .ref 621]) (by decide +kernel) rfl) ?_
  refine ev_go0 (ev_w_iconst (M := ev_Mlaw) (pc := 1115) (k := 2) (v := 2) (by decide +kernel) (by decide +kernel)) ?_
  refine ev_go0 (ev_w_iadd (M := ev_Mlaw) (pc := 1116) (v := (2)) (by decide +kernel) (by decide +kernel)) ?_
  refine ev_go0 (ev_w_scr (M := ev_Mlaw) (pc := 1117) (v := (0)) (j := 2) (by decide +kernel) (by decide +kernel) (by decide +kernel) e2) ?_
  refine ev_go0 (ev_one_pure (M := ev_Mlaw) (pc := 1118) (i := .aload_n 0) (len := 1) (pc' := 1119) (lv' := [(5, .int (1)), (4, .int (0)), (3, .ref 723), (2, .ref 621), (1, .ref 0), (0, .retAddr 0)]) (st' := [.retAddr 0, .int (0), .int x1, .ref 621]) (by decide +kernel) rfl) ?_
  refine ev_go0 (ev_one_pure (M := ev_Mlaw) (pc := 1119) (i := .iload 4) (len := 2) (pc' := 1121) (lv' := [(5, .int (1)), (4, .int (0)), (3, .ref 723), (2, .ref 621), (1, .ref 0), (0, .retAddr 0)]) (st' := [.int (0), .retAddr 0, .int (0), .int x1, .ref 621]) (by decide +kernel) rfl) ?_
  refine ev_go0 (ev_w_iconst (M := ev_Mlaw) (pc := 1121) (k := 3) (v := 3) (by decide +kernel) (by decide +kernel)) ?_
  refine ev_go0 (ev_w_iadd (M := ev_Mlaw) (pc := 1122) (v := (3)) (by decide +kernel) (by decide +kernel)) ?_
  refine ev_go0 (ev_w_scr (M := ev_Mlaw) (pc := 1123) (v := x3) (j := 3) (by decide +kernel) (by decide +kernel) (by decide +kernel) e3) ?_
  refine ev_go0 (ev_p_virt (M := ev_Mlaw) (pc := 1124) (x := 181) (mi := 332) (na := 3) (by decide +kernel) (by decide +kernel) (by decide +kernel) (by decide +kernel) rfl rfl (ev_recv_of ev_fH621) (ev_k285 x1 hl_x1 x3)) ?_
  refine ev_go0 (ev_w_istore (M := ev_Mlaw) (pc := 1127) (k := 6) (lv' := [(6, .int (0)), (5, .int (1)), (4, .int (0)), (3, .ref 723), (2, .ref 621), (1, .ref 0), (0, .retAddr 0)]) (by decide +kernel) (by decide +kernel) rfl) ?_
  refine ev_go0 (ev_one_pure (M := ev_Mlaw) (pc := 1129) (i := .aload_n 2) (len := 1) (pc' := 1130) (lv' := [(6, .int (0)), (5, .int (1)), (4, .int (0)), (3, .ref 723), (2, .ref 621), (1, .ref 0), (0, .retAddr 0)]) (st' := [.ref 621]) (by decide +kernel) rfl) ?_
  refine ev_go0 (ev_p_virt (M := ev_Mlaw) (pc := 1130) (x := 131) (mi := 220) (na := 0) (by decide +kernel) (by decide +kernel) (by decide +kernel) (by decide +kernel) rfl rfl (ev_recv_of (ev_hself ev_fH621)) ev_k26) ?_
  refine ev_go0 (ev_one_pure (M := ev_Mlaw) (pc := 1133) (i := .iload 5) (len := 2) (pc' := 1135) (lv' := [(6, .int (0)), (5, .int (1)), (4, .int (0)), (3, .ref 723), (2, .ref 621), (1, .ref 0), (0, .retAddr 0)]) (st' := [.int (1), .int (1)]) (by decide +kernel) rfl) ?_
  refine ev_go0 (ev_w_icmp (M := ev_Mlaw) (pc := 1135) (q := .eq) (o := 5) (b := true) (t := 1140) (by decide +kernel) (by decide +kernel) rfl) ?_
  refine ev_go0 (ev_one_pure (M := ev_Mlaw) (pc := 1140) (i := .iload 5) (len := 2) (pc' := 1142) (lv' := [(6, .int (0)), (5, .int (1)), (4, .int (0)), (3, .ref 723), (2, .ref 621), (1, .ref 0), (0, .retAddr 0)]) (st' := [.int (1)]) (by decide +kernel) rfl) ?_
  refine ev_go0 (ev_w_if (M := ev_Mlaw) (pc := 1142) (q := .ne) (o := 15) (b := true) (t := 1157) (by decide +kernel) (by decide +kernel) rfl) ?_
  refine ev_go0 (ev_one_pure (M := ev_Mlaw) (pc := 1157) (i := .goto 1115) (len := 3) (pc' := 2272) (lv' := [(6, .int (0)), (5, .int (1)), (4, .int (0)), (3, .ref 723), (2, .ref 621), (1, .ref 0), (0, .retAddr 0)]) (st' := []) (by decide +kernel) rfl) ?_
  rfl
theorem ev_k286 (x1 : Int32) (hl_x1 : (0 : Int) ≤ x1.toInt) (x3 : Int32) {n : Nat} : ev_calld 11 180 [.ref 0, .int x1, .int (1), .int x3] ev_H0 n = some (.inr "java/lang/IndexOutOfBoundsException", ev_H0, n, 1, 6) := by
  refine ev_call_thrown (k := 11) (pcR := 40) (x := 160) (lv' := [(5, .ref 265), (4, .null), (0, .ref 0), (1, .int x1), (2, .int (1)), (3, .int x3)]) (by decide +kernel) rfl ?_ (by decide +kernel) (by decide +kernel) (by decide +kernel) (by decide) (by decide)
  show ev_stepn _ 11 (0, [(0, .ref 0), (1, .int x1), (2, .int (1)), (3, .int x3)], [], _, _, 0, 0) = _
  refine ev_go0 (ev_one_pure (M := (ev_Mof 180)) (pc := 0) (i := .aload_n 0) (len := 1) (pc' := 1) (lv' := [(0, .ref 0), (1, .int x1), (2, .int (1)), (3, .int x3)]) (st' := [.ref 0]) (by decide +kernel) rfl) ?_
  refine ev_go0 (ev_one_pure (M := (ev_Mof 180)) (pc := 1) (i := .iload_n 1) (len := 1) (pc' := 2) (lv' := [(0, .ref 0), (1, .int x1), (2, .int (1)), (3, .int x3)]) (st' := [.int x1, .ref 0]) (by decide +kernel) rfl) ?_
  refine ev_go0 (ev_p_virt (M := (ev_Mof 180)) (pc := 2) (x := 156) (mi := 200) (na := 1) (by decide +kernel) (by decide +kernel) (by decide +kernel) (by decide +kernel) rfl rfl (ev_recv_of ev_fH0) (ev_k9 x1 hl_x1)) ?_
  refine ev_go0 (ev_w_astore (M := (ev_Mof 180)) (pc := 5) (k := 4) (lv' := [(4, .null), (0, .ref 0), (1, .int x1), (2, .int (1)), (3, .int x3)]) (by decide +kernel) (by decide +kernel) (Or.inr (Or.inl rfl)) rfl) ?_
  refine ev_go0 (ev_one_pure (M := (ev_Mof 180)) (pc := 7) (i := .aload_n 0) (len := 1) (pc' := 8) (lv' := [(4, .null), (0, .ref 0), (1, .int x1), (2, .int (1)), (3, .int x3)]) (st' := [.ref 0]) (by decide +kernel) rfl) ?_
  refine ev_go0 (ev_p_getf (M := (ev_Mof 180)) (pc := 8) (x := 48) (ci := 12) (f := 8) (fin := 1) (v := .ref 254) (by decide +kernel) (by decide +kernel) ev_fH0 rfl) ?_
  refine ev_go0 (ev_one_pure (M := (ev_Mof 180)) (pc := 11) (i := .iload_n 2) (len := 1) (pc' := 12) (lv' := [(4, .null), (0, .ref 0), (1, .int x1), (2, .int (1)), (3, .int x3)]) (st' := [.int (1), .ref 254]) (by decide +kernel) rfl) ?_
  refine ev_go0 (ev_p_virt (M := (ev_Mof 180)) (pc := 12) (x := 221) (mi := 1) (na := 1) (by decide +kernel) (by decide +kernel) (by decide +kernel) (by decide +kernel) rfl rfl (ev_recv_of ev_fH254) ev_k238) ?_
  refine ev_go0 (ev_w_astore (M := (ev_Mof 180)) (pc := 15) (k := 5) (lv' := [(5, .ref 265), (4, .null), (0, .ref 0), (1, .int x1), (2, .int (1)), (3, .int x3)]) (by decide +kernel) (by decide +kernel) (Or.inl ⟨_, rfl⟩) rfl) ?_
  refine ev_go0 (ev_one_pure (M := (ev_Mof 180)) (pc := 17) (i := .aload 4) (len := 2) (pc' := 19) (lv' := [(5, .ref 265), (4, .null), (0, .ref 0), (1, .int x1), (2, .int (1)), (3, .int x3)]) (st' := [.null]) (by decide +kernel) rfl) ?_
  refine ev_go0 (ev_w_ifnull (M := (ev_Mof 180)) (pc := 19) (o := 21) (t := 40) (by decide +kernel) (Or.inl ⟨rfl, rfl⟩)) ?_
  rfl
theorem ev_k287 (x1 : Int32) (hl_x1 : (0 : Int) ≤ x1.toInt) (x3 : Int32) {n : Nat} : ev_calld 12 377 [.ref 0, .int x1, .int (1), .int x3, .ref 723] ev_H0 n = some (.inl (some (.int (1))), ev_H0, n, 1, 6) := by
  refine ev_call_int (k := 9) (pcR := 18) (lv' := [(5, .retAddr 1), (0, .ref 0), (1, .int x1), (2, .int (1)), (3, .int x3), (4, .ref 723)]) (v := (1)) (ty := .int) (by decide +kernel) rfl ?_ (by decide +kernel) (by decide +kernel) (by decide +kernel) (by decide)
  show ev_stepn _ 9 (0, [(0, .ref 0), (1, .int x1), (2, .int (1)), (3, .int x3), (4, .ref 723)], [], _, _, 0, 0) = _
  refine ev_go0 (ev_one_pure (M := (ev_Mof 377)) (pc := 0) (i := .aload 4) (len := 2) (pc' := 2) (lv' := [(0, .ref 0), (1, .int x1), (2, .int (1)), (3, .int x3), (4, .ref 723)]) (st' := [.ref 723]) (by decide +kernel) rfl) ?_
  refine ev_go0 (ev_w_iconst (M := (ev_Mof 377)) (pc := 2) (k := 0) (v := 0) (by decide +kernel) (by decide +kernel)) ?_
  refine ev_go0 (ev_one_pure (M := (ev_Mof 377)) (pc := 3) (i := .aload_n 0) (len := 1) (pc' := 4) (lv' := [(0, .ref 0), (1, .int x1), (2, .int (1)), (3, .int x3), (4, .ref 723)]) (st' := [.ref 0, .int (0), .ref 723]) (by decide +kernel) rfl) ?_
  refine ev_go0 (ev_one_pure (M := (ev_Mof 377)) (pc := 4) (i := .iload_n 1) (len := 1) (pc' := 5) (lv' := [(0, .ref 0), (1, .int x1), (2, .int (1)), (3, .int x3), (4, .ref 723)]) (st' := [.int x1, .ref 0, .int (0), .ref 723]) (by decide +kernel) rfl) ?_
  refine ev_go0 (ev_one_pure (M := (ev_Mof 377)) (pc := 5) (i := .iload_n 2) (len := 1) (pc' := 6) (lv' := [(0, .ref 0), (1, .int x1), (2, .int (1)), (3, .int x3), (4, .ref 723)]) (st' := [.int (1), .int x1, .ref 0, .int (0), .ref 723]) (by decide +kernel) rfl) ?_
  refine ev_go0 (ev_one_pure (M := (ev_Mof 377)) (pc := 6) (i := .iload_n 3) (len := 1) (pc' := 7) (lv' := [(0, .ref 0), (1, .int x1), (2, .int (1)), (3, .int x3), (4, .ref 723)]) (st' := [.int x3, .int (1), .int x1, .ref 0, .int (0), .ref 723]) (by decide +kernel) rfl) ?_
  refine ev_go (ev_p_virtX (M := (ev_Mof 377)) (pc := 7) (x := 61) (t := 15) (mi := 180) (na := 3) (by decide +kernel) (by decide +kernel) (by decide +kernel) (by decide +kernel) rfl rfl (ev_recv_of ev_fH0) (ev_k286 x1 hl_x1 x3) (by decide +kernel)) ?_
  refine ev_go0 (ev_w_astore (M := (ev_Mof 377)) (pc := 15) (k := 5) (lv' := [(5, .retAddr 1), (0, .ref 0), (1, .int x1), (2, .int (1)), (3, .int x3), (4, .ref 723)]) (by decide +kernel) (by decide +kernel) (Or.inr (Or.inr ⟨_, rfl⟩)) rfl) ?_
  refine ev_go0 (ev_w_iconst (M := (ev_Mof 377)) (pc := 17) (k := 1) (v := 1) (by decide +kernel) (by decide +kernel)) ?_
  rfl
theorem ev_k288 (x1 : Int32) (hl_x1 : (0 : Int) ≤ x1.toInt) (x3 : Int32) {n : Nat} : ev_calld 12 332 [.ref 621, .int x1, .int (1), .int x3] ev_H0 n = some (.inl (some (.int (0))), (ev_H0.set 621 (.inr (13, (ev_F621.set 0 (.int (1)))))), n, 0, 0) := by
  refine ev_call_int (k := 11) (pcR := 34) (lv' := [(0, .ref 621), (1, .int x1), (2, .int (1)), (3, .int x3)]) (v := (0)) (ty := .int) (by decide +kernel) rfl ?_ (by decide +kernel) (by decide +kernel) (by decide +kernel) (by decide)
  show ev_stepn _ 11 (0, [(0, .ref 621), (1, .int x1), (2, .int (1)), (3, .int x3)], [], _, _, 0, 0) = _
  refine ev_go0 (ev_one_pure (M := (ev_Mof 332)) (pc := 0) (i := .aload_n 0) (len := 1) (pc' := 1) (lv' := [(0, .ref 621), (1, .int x1), (2, .int (1)), (3, .int x3)]) (st' := [.ref 621]) (by decide +kernel) rfl) ?_
  refine ev_go0 (ev_one_pure (M := (ev_Mof 332)) (pc := 1) (i := .aload_n 0) (len := 1) (pc' := 2) (lv' := [(0, .ref 621), (1, .int x1), (2, .int (1)), (3, .int x3)]) (st' := [.ref 621, .ref 621]) (by decide +kernel) rfl) ?_
  refine ev_go0 (ev_one_pure (M := (ev_Mof 332)) (pc := 2) (i := .iload_n 1) (len := 1) (pc' := 3) (lv' := [(0, .ref 621), (1, .int x1), (2, .int (1)), (3, .int x3)]) (st' := [.int x1, .ref 621, .ref 621]) (by decide +kernel) rfl) ?_
  refine ev_go0 (ev_p_virt (M := (ev_Mof 332)) (pc := 3) (x := 531) (mi := 273) (na := 1) (by decide +kernel) (by decide +kernel) (by decide +kernel) (by decide +kernel) rfl rfl (ev_recv_of ev_fH621) (ev_k30 x1 hl_x1)) ?_
  refine ev_go0 (ev_w_if (M := (ev_Mof 332)) (pc := 6) (q := .eq) (o := 16) (b := true) (t := 22) (by decide +kernel) (by decide +kernel) rfl) ?_
  refine ev_go0 (ev_w_iconst (M := (ev_Mof 332)) (pc := 22) (k := 1) (v := 1) (by decide +kernel) (by decide +kernel)) ?_
  refine ev_go0 (ev_p_putf (M := (ev_Mof 332)) (pc := 23) (x := 321) (ci := 13) (f := 0) (by decide +kernel) (by decide +kernel) ev_fH621 rfl (by decide +kernel)) ?_
  refine ev_go0 (ev_one_pure (M := (ev_Mof 332)) (pc := 26) (i := .aload_n 0) (len := 1) (pc' := 27) (lv' := [(0, .ref 621), (1, .int x1), (2, .int (1)), (3, .int x3)]) (st' := [.ref 621]) (by decide +kernel) rfl) ?_
  refine ev_go0 (ev_p_getf (M := (ev_Mof 332)) (pc := 27) (x := 321) (ci := 13) (f := 0) (fin := 0) (v := .int (1)) (by decide +kernel) (by decide +kernel) (ev_hself ev_fH621) rfl) ?_
  refine ev_go0 (ev_w_if (M := (ev_Mof 332)) (pc := 30) (q := .le) (o := 5) (b := false) (t := 33) (by decide +kernel) (by decide +kernel) rfl) ?_
  refine ev_go0 (ev_w_iconst (M := (ev_Mof 332)) (pc := 33) (k := 0) (v := 0) (by decide +kernel) (by decide +kernel)) ?_
  rfl
theorem ev_p1_14_p1 (xs : Nat → Int32) (x1 : Int32) (hl_x1 : (0 : Int) ≤ x1.toInt) (x3 : Int32) (e1 : xs 1 = x1) (e2 : xs 2 = (1)) (e3 : xs 3 = x3) : ev_P1 xs 1080 := by
  refine ⟨44, [(6, .int (0)), (5, .int (1)), (4, .int (0)), (3, .ref 723), (2, .ref 621), (1, .ref 0), (0, .retAddr 0)], (ev_H0.set 621 (.inr (13, (ev_F621.set 0 (.int (1)))))), 724, 725, 3553592, ?_, ⟨rfl, rfl, rfl, rfl⟩, rfl, by decide, by decide⟩
  show ev_stepn _ _ (1080, [(4, .int (0)), (3, .ref 723), (2, .ref 621), (1, .ref 0), (0, .retAddr 0)], [], _, _, _, _) = _
  refine ev_go0 (ev_one_pure (M := ev_Mlaw) (pc := 1080) (i := .aload_n 1) (len := 1) (pc' := 1081) (lv' := [(4, .int (0)), (3, .ref 723), (2, .ref 621), (1, .ref 0), (0, .retAddr 0)]) (st' := [.ref 0]) (by decide +kernel) rfl) ?_
  refine ev_go0 (ev_one_pure (M := ev_Mlaw) (pc := 1081) (i := .aload_n 0) (len := 1) (pc' := 1082) (lv' := [(4, .int (0)), (3, .ref 723), (2, .ref 621), (1, .ref 0), (0, .retAddr 0)]) (st' := [.retAddr 0, .ref 0]) (by decide +kernel) rfl) ?_
  refine ev_go0 (ev_one_pure (M := ev_Mlaw) (pc := 1082) (i := .iload 4) (len := 2) (pc' := 1084) (lv' := [(4, .int (0)), (3, .ref 723), (2, .ref 621), (1, .ref 0), (0, .retAddr 0)]) (st' := [.int (0), .retAddr 0, .ref 0]) (by decide +kernel) rfl) ?_
  refine ev_go0 (ev_w_iconst (M := ev_Mlaw) (pc := 1084) (k := 1) (v := 1) (by decide +kernel) (by decide +kernel)) ?_
  refine ev_go0 (ev_w_iadd (M := ev_Mlaw) (pc := 1085) (v := (1)) (by decide +kernel) (by decide +kernel)) ?_
  refine ev_go0 (ev_w_scr (M := ev_Mlaw) (pc := 1086) (v := x1) (j := 1) (by decide +kernel) (by decide +kernel) (by decide +kernel) e1) ?_
  refine ev_go0 (ev_one_pure (M := ev_Mlaw) (pc := 1087) (i := .aload_n 0) (len := 1) (pc' := 1088) (lv' := [(4, .int (0)), (3, .ref 723), (2, .ref 621), (1, .ref 0), (0, .retAddr 0)]) (st' := [.retAddr 0, .int x1, .ref 0]) (by decide +kernel) rfl) ?_
  refine ev_go0 (ev_one_pure (M := ev_Mlaw) (pc := 1088) (i := .iload 4) (len := 2) (pc' := 1090) (lv' := [(4, .int (0)), (3, .ref 723), (2, .ref 621), (1, .ref 0), (0, .retAddr 0)]) (st' := [.int (0), .retAddr 0, .int x1, .ref 0]) (by decide +kernel) rfl) ?_
  refine ev_go0 (ev_w_iconst (M := ev_Mlaw) (pc := 1090) (k := 2) (v := 2) (by decide +kernel) (by decide +kernel)) ?_
  refine ev_go0 (ev_w_iadd (M := ev_Mlaw) (pc := 1091) (v := (2)) (by decide +kernel) (by decide +kernel)) ?_
  refine ev_go0 (ev_w_scr (M := ev_Mlaw) (pc := 1092) (v := (1)) (j := 2) (by decide +kernel) (by decide +kernel) (by decide +kernel) e2) ?_
  refine ev_go0 (ev_one_pure (M := ev_Mlaw) (pc := 1093) (i := .aload_n 0) (len := 1) (pc' := 1094) (lv' := [(4, .int (0)), (3, .ref 723), (2, .ref 621), (1, .ref 0), (0, .retAddr 0)]) (st' := [.retAddr 0, .int (1), .int x1, .ref 0]) (by decide +kernel) rfl) ?_
  refine ev_go0 (ev_one_pure (M := ev_Mlaw) (pc := 1094) (i := .iload 4) (len := 2) (pc' := 1096) (lv' := [(4, .int (0)), (3, .ref 723), (2, .ref 621), (1, .ref 0), (0, .retAddr 0)]) (st' := [.int (0), .retAddr 0, .int (1), .int x1, .ref 0]) (by decide +kernel) rfl) ?_
  refine ev_go0 (ev_w_iconst (M := ev_Mlaw) (pc := 1096) (k := 3) (v := 3) (by decide +kernel) (by decide +kernel)) ?_
  refine ev_go0 (ev_w_iadd (M := ev_Mlaw) (pc := 1097) (v := (3)) (by decide +kernel) (by decide +kernel)) ?_
  refine ev_go0 (ev_w_scr (M := ev_Mlaw) (pc := 1098) (v := x3) (j := 3) (by decide +kernel) (by decide +kernel) (by decide +kernel) e3) ?_
  refine ev_go0 (ev_one_pure (M := ev_Mlaw) (pc := 1099) (i := .aload_n 3) (len := 1) (pc' := 1100) (lv' := [(4, .int (0)), (3, .ref 723), (2, .ref 621), (1, .ref 0), (0, .retAddr 0)]) (st' := [.ref 723, .int x3, .int (1), .int x1, .ref 0]) (by decide +kernel) rfl) ?_
  refine ev_go (ev_w_stat (M := ev_Mlaw) (pc := 1100) (y := 179) (kind := 8) (Or.inr (Or.inr rfl)) (mi := 377) (na := 5) (by decide +kernel) (by decide +kernel) (by decide +kernel) (by decide +kernel) rfl rfl (ev_k287 x1 hl_x1 x3)) ?_
  refine ev_go0 (ev_w_istore (M := ev_Mlaw) (pc := 1103) (k := 5) (lv' := [(5, .int (1)), (4, .int (0)), (3, .ref 723), (2, .ref 621), (1, .ref 0), (0, .retAddr 0)]) (by decide +kernel) (by decide +kernel) rfl) ?_
  refine ev_go0 (ev_one_pure (M := ev_Mlaw) (pc := 1105) (i := .aload_n 2) (len := 1) (pc' := 1106) (lv' := [(5, .int (1)), (4, .int (0)), (3, .ref 723), (2, .ref 621), (1, .ref 0), (0, .retAddr 0)]) (st' := [.ref 621]) (by decide +kernel) rfl) ?_
  refine ev_go0 (ev_one_pure (M := ev_Mlaw) (pc := 1106) (i := .aload_n 0) (len := 1) (pc' := 1107) (lv' := [(5, .int (1)), (4, .int (0)), (3, .ref 723), (2, .ref 621), (1, .ref 0), (0, .retAddr 0)]) (st' := [.retAddr 0, .ref 621]) (by decide +kernel) rfl) ?_
  refine ev_go0 (ev_one_pure (M := ev_Mlaw) (pc := 1107) (i := .iload 4) (len := 2) (pc' := 1109) (lv' := [(5, .int (1)), (4, .int (0)), (3, .ref 723), (2, .ref 621), (1, .ref 0), (0, .retAddr 0)]) (st' := [.int (0), .retAddr 0, .ref 621]) (by decide +kernel) rfl) ?_
  refine ev_go0 (ev_w_iconst (M := ev_Mlaw) (pc := 1109) (k := 1) (v := 1) (by decide +kernel) (by decide +kernel)) ?_
  refine ev_go0 (ev_w_iadd (M := ev_Mlaw) (pc := 1110) (v := (1)) (by decide +kernel) (by decide +kernel)) ?_
  refine ev_go0 (ev_w_scr (M := ev_Mlaw) (pc := 1111) (v := x1) (j := 1) (by decide +kernel) (by decide +kernel) (by decide +kernel) e1) ?_
  refine ev_go0 (ev_one_pure (M := ev_Mlaw) (pc := 1112) (i := .aload_n 0) (len := 1) (pc' := 1113) (lv' := [(5, .int (1)), (4, .int (0)), (3, .ref 723), (2, .ref 621), (1, .ref 0), (0, .retAddr 0)]) (st' := [.retAddr 0, .int x1, .ref 621]) (by decide +kernel) rfl) ?_
  refine ev_go0 (ev_one_pure (M := ev_Mlaw) (pc := 1113) (i := .iload 4) (len := 2) (pc' := 1115) (lv' := [(5, .int (1)), (4, .int (0)), (3, .ref 723), (2, .ref 621), (1, .ref 0), (0, .retAddr 0)]) (st' := [.int (0), .retAddr 0, .int x1, .ref 621]) (by decide +kernel) rfl) ?_
  refine ev_go0 (ev_w_iconst (M := ev_Mlaw) (pc := 1115) (k := 2) (v := 2) (by decide +kernel) (by decide +kernel)) ?_
  refine ev_go0 (ev_w_iadd (M := ev_Mlaw) (pc := 1116) (v := (2)) (by decide +kernel) (by decide +kernel)) ?_
  refine ev_go0 (ev_w_scr (M := ev_Mlaw) (pc := 1117) (v := (1)) (j := 2) (by decide +kernel) (by decide +kernel) (by decide +kernel) e2) ?_
  refine ev_go0 (ev_one_pure (M := ev_Mlaw) (pc := 1118) (i := .aload_n 0) (len := 1) (pc' := 1119) (lv' := [(5, .int (1)), (4, .int (0)), (3, .ref 723), (2, .ref 621), (1, .ref 0), (0, .retAddr 0)]) (st' := [.retAddr 0, .int (1), .int x1, .ref 621]) (by decide +kernel) rfl) ?_
  refine ev_go0 (ev_one_pure (M := ev_Mlaw) (pc := 1119) (i := .iload 4) (len := 2) (pc' := 1121) (lv' := [(5, .int (1)), (4, .int (0)), (3, .ref 723), (2, .ref 621), (1, .ref 0), (0, .retAddr 0)]) (st' := [.int (0), .retAddr 0, .int (1), .int x1, .ref 621]) (by decide +kernel) rfl) ?_
  refine ev_go0 (ev_w_iconst (M := ev_Mlaw) (pc := 1121) (k := 3) (v := 3) (by decide +kernel) (by decide +kernel)) ?_
  refine ev_go0 (ev_w_iadd (M := ev_Mlaw) (pc := 1122) (v := (3)) (by decide +kernel) (by decide +kernel)) ?_
  refine ev_go0 (ev_w_scr (M := ev_Mlaw) (pc := 1123) (v := x3) (j := 3) (by decide +kernel) (by decide +kernel) (by decide +kernel) e3) ?_
  refine ev_go0 (ev_p_virt (M := ev_Mlaw) (pc := 1124) (x := 181) (mi := 332) (na := 3) (by decide +kernel) (by decide +kernel) (by decide +kernel) (by decide +kernel) rfl rfl (ev_recv_of ev_fH621) (ev_k288 x1 hl_x1 x3)) ?_
  refine ev_go0 (ev_w_istore (M := ev_Mlaw) (pc := 1127) (k := 6) (lv' := [(6, .int (0)), (5, .int (1)), (4, .int (0)), (3, .ref 723), (2, .ref 621), (1, .ref 0), (0, .retAddr 0)]) (by decide +kernel) (by decide +kernel) rfl) ?_
  refine ev_go0 (ev_one_pure (M := ev_Mlaw) (pc := 1129) (i := .aload_n 2) (len := 1) (pc' := 1130) (lv' := [(6, .int (0)), (5, .int (1)), (4, .int (0)), (3, .ref 723), (2, .ref 621), (1, .ref 0), (0, .retAddr 0)]) (st' := [.ref 621]) (by decide +kernel) rfl) ?_
  refine ev_go0 (ev_p_virt (M := ev_Mlaw) (pc := 1130) (x := 131) (mi := 220) (na := 0) (by decide +kernel) (by decide +kernel) (by decide +kernel) (by decide +kernel) rfl rfl (ev_recv_of (ev_hself ev_fH621)) ev_k26) ?_
  refine ev_go0 (ev_one_pure (M := ev_Mlaw) (pc := 1133) (i := .iload 5) (len := 2) (pc' := 1135) (lv' := [(6, .int (0)), (5, .int (1)), (4, .int (0)), (3, .ref 723), (2, .ref 621), (1, .ref 0), (0, .retAddr 0)]) (st' := [.int (1), .int (1)]) (by decide +kernel) rfl) ?_
  refine ev_go0 (ev_w_icmp (M := ev_Mlaw) (pc := 1135) (q := .eq) (o := 5) (b := true) (t := 1140) (by decide +kernel) (by decide +kernel) rfl) ?_
  refine ev_go0 (ev_one_pure (M := ev_Mlaw) (pc := 1140) (i := .iload 5) (len := 2) (pc' := 1142) (lv' := [(6, .int (0)), (5, .int (1)), (4, .int (0)), (3, .ref 723), (2, .ref 621), (1, .ref 0), (0, .retAddr 0)]) (st' := [.int (1)]) (by decide +kernel) rfl) ?_
  refine ev_go0 (ev_w_if (M := ev_Mlaw) (pc := 1142) (q := .ne) (o := 15) (b := true) (t := 1157) (by decide +kernel) (by decide +kernel) rfl) ?_
  refine ev_go0 (ev_one_pure (M := ev_Mlaw) (pc := 1157) (i := .goto 1115) (len := 3) (pc' := 2272) (lv' := [(6, .int (0)), (5, .int (1)), (4, .int (0)), (3, .ref 723), (2, .ref 621), (1, .ref 0), (0, .retAddr 0)]) (st' := []) (by decide +kernel) rfl) ?_
  rfl
theorem ev_k289 (x1 : Int32) (hl_x1 : (0 : Int) ≤ x1.toInt) (x3 : Int32) {n : Nat} : ev_calld 11 180 [.ref 0, .int x1, .int (2), .int x3] ev_H0 n = some (.inr "java/lang/IndexOutOfBoundsException", ev_H0, n, 1, 6) := by
  refine ev_call_thrown (k := 11) (pcR := 40) (x := 160) (lv' := [(5, .ref 267), (4, .null), (0, .ref 0), (1, .int x1), (2, .int (2)), (3, .int x3)]) (by decide +kernel) rfl ?_ (by decide +kernel) (by decide +kernel) (by decide +kernel) (by decide) (by decide)
  show ev_stepn _ 11 (0, [(0, .ref 0), (1, .int x1), (2, .int (2)), (3, .int x3)], [], _, _, 0, 0) = _
  refine ev_go0 (ev_one_pure (M := (ev_Mof 180)) (pc := 0) (i := .aload_n 0) (len := 1) (pc' := 1) (lv' := [(0, .ref 0), (1, .int x1), (2, .int (2)), (3, .int x3)]) (st' := [.ref 0]) (by decide +kernel) rfl) ?_
  refine ev_go0 (ev_one_pure (M := (ev_Mof 180)) (pc := 1) (i := .iload_n 1) (len := 1) (pc' := 2) (lv' := [(0, .ref 0), (1, .int x1), (2, .int (2)), (3, .int x3)]) (st' := [.int x1, .ref 0]) (by decide +kernel) rfl) ?_
  refine ev_go0 (ev_p_virt (M := (ev_Mof 180)) (pc := 2) (x := 156) (mi := 200) (na := 1) (by decide +kernel) (by decide +kernel) (by decide +kernel) (by decide +kernel) rfl rfl (ev_recv_of ev_fH0) (ev_k9 x1 hl_x1)) ?_
  refine ev_go0 (ev_w_astore (M := (ev_Mof 180)) (pc := 5) (k := 4) (lv' := [(4, .null), (0, .ref 0), (1, .int x1), (2, .int (2)), (3, .int x3)]) (by decide +kernel) (by decide +kernel) (Or.inr (Or.inl rfl)) rfl) ?_
  refine ev_go0 (ev_one_pure (M := (ev_Mof 180)) (pc := 7) (i := .aload_n 0) (len := 1) (pc' := 8) (lv' := [(4, .null), (0, .ref 0), (1, .int x1), (2, .int (2)), (3, .int x3)]) (st' := [.ref 0]) (by decide +kernel) rfl) ?_
  refine ev_go0 (ev_p_getf (M := (ev_Mof 180)) (pc := 8) (x := 48) (ci := 12) (f := 8) (fin := 1) (v := .ref 254) (by decide +kernel) (by decide +kernel) ev_fH0 rfl) ?_
  refine ev_go0 (ev_one_pure (M := (ev_Mof 180)) (pc := 11) (i := .iload_n 2) (len := 1) (pc' := 12) (lv' := [(4, .null), (0, .ref 0), (1, .int x1), (2, .int (2)), (3, .int x3)]) (st' := [.int (2), .ref 254]) (by decide +kernel) rfl) ?_
  refine ev_go0 (ev_p_virt (M := (ev_Mof 180)) (pc := 12) (x := 221) (mi := 1) (na := 1) (by decide +kernel) (by decide +kernel) (by decide +kernel) (by decide +kernel) rfl rfl (ev_recv_of ev_fH254) ev_k242) ?_
  refine ev_go0 (ev_w_astore (M := (ev_Mof 180)) (pc := 15) (k := 5) (lv' := [(5, .ref 267), (4, .null), (0, .ref 0), (1, .int x1), (2, .int (2)), (3, .int x3)]) (by decide +kernel) (by decide +kernel) (Or.inl ⟨_, rfl⟩) rfl) ?_
  refine ev_go0 (ev_one_pure (M := (ev_Mof 180)) (pc := 17) (i := .aload 4) (len := 2) (pc' := 19) (lv' := [(5, .ref 267), (4, .null), (0, .ref 0), (1, .int x1), (2, .int (2)), (3, .int x3)]) (st' := [.null]) (by decide +kernel) rfl) ?_
  refine ev_go0 (ev_w_ifnull (M := (ev_Mof 180)) (pc := 19) (o := 21) (t := 40) (by decide +kernel) (Or.inl ⟨rfl, rfl⟩)) ?_
  rfl
theorem ev_k290 (x1 : Int32) (hl_x1 : (0 : Int) ≤ x1.toInt) (x3 : Int32) {n : Nat} : ev_calld 12 377 [.ref 0, .int x1, .int (2), .int x3, .ref 723] ev_H0 n = some (.inl (some (.int (1))), ev_H0, n, 1, 6) := by
  refine ev_call_int (k := 9) (pcR := 18) (lv' := [(5, .retAddr 1), (0, .ref 0), (1, .int x1), (2, .int (2)), (3, .int x3), (4, .ref 723)]) (v := (1)) (ty := .int) (by decide +kernel) rfl ?_ (by decide +kernel) (by decide +kernel) (by decide +kernel) (by decide)
  show ev_stepn _ 9 (0, [(0, .ref 0), (1, .int x1), (2, .int (2)), (3, .int x3), (4, .ref 723)], [], _, _, 0, 0) = _
  refine ev_go0 (ev_one_pure (M := (ev_Mof 377)) (pc := 0) (i := .aload 4) (len := 2) (pc' := 2) (lv' := [(0, .ref 0), (1, .int x1), (2, .int (2)), (3, .int x3), (4, .ref 723)]) (st' := [.ref 723]) (by decide +kernel) rfl) ?_
  refine ev_go0 (ev_w_iconst (M := (ev_Mof 377)) (pc := 2) (k := 0) (v := 0) (by decide +kernel) (by decide +kernel)) ?_
  refine ev_go0 (ev_one_pure (M := (ev_Mof 377)) (pc := 3) (i := .aload_n 0) (len := 1) (pc' := 4) (lv' := [(0, .ref 0), (1, .int x1), (2, .int (2)), (3, .int x3), (4, .ref 723)]) (st' := [.ref 0, .int (0), .ref 723]) (by decide +kernel) rfl) ?_
  refine ev_go0 (ev_one_pure (M := (ev_Mof 377)) (pc := 4) (i := .iload_n 1) (len := 1) (pc' := 5) (lv' := [(0, .ref 0), (1, .int x1), (2, .int (2)), (3, .int x3), (4, .ref 723)]) (st' := [.int x1, .ref 0, .int (0), .ref 723]) (by decide +kernel) rfl) ?_
  refine ev_go0 (ev_one_pure (M := (ev_Mof 377)) (pc := 5) (i := .iload_n 2) (len := 1) (pc' := 6) (lv' := [(0, .ref 0), (1, .int x1), (2, .int (2)), (3, .int x3), (4, .ref 723)]) (st' := [.int (2), .int x1, .ref 0, .int (0), .ref 723]) (by decide +kernel) rfl) ?_
  refine ev_go0 (ev_one_pure (M := (ev_Mof 377)) (pc := 6) (i := .iload_n 3) (len := 1) (pc' := 7) (lv' := [(0, .ref 0), (1, .int x1), (2, .int (2)), (3, .int x3), (4, .ref 723)]) (st' := [.int x3, .int (2), .int x1, .ref 0, .int (0), .ref 723]) (by decide +kernel) rfl) ?_
  refine ev_go (ev_p_virtX (M := (ev_Mof 377)) (pc := 7) (x := 61) (t := 15) (mi := 180) (na := 3) (by decide +kernel) (by decide +kernel) (by decide +kernel) (by decide +kernel) rfl rfl (ev_recv_of ev_fH0) (ev_k289 x1 hl_x1 x3) (by decide +kernel)) ?_
  refine ev_go0 (ev_w_astore (M := (ev_Mof 377)) (pc := 15) (k := 5) (lv' := [(5, .retAddr 1), (0, .ref 0), (1, .int x1), (2, .int (2)), (3, .int x3), (4, .ref 723)]) (by decide +kernel) (by decide +kernel) (Or.inr (Or.inr ⟨_, rfl⟩)) rfl) ?_
  refine ev_go0 (ev_w_iconst (M := (ev_Mof 377)) (pc := 17) (k := 1) (v := 1) (by decide +kernel) (by decide +kernel)) ?_
  rfl
theorem ev_k291 (x1 : Int32) (hl_x1 : (0 : Int) ≤ x1.toInt) (x3 : Int32) {n : Nat} : ev_calld 12 332 [.ref 621, .int x1, .int (2), .int x3] ev_H0 n = some (.inl (some (.int (0))), (ev_H0.set 621 (.inr (13, (ev_F621.set 0 (.int (1)))))), n, 0, 0) := by
  refine ev_call_int (k := 11) (pcR := 34) (lv' := [(0, .ref 621), (1, .int x1), (2, .int (2)), (3, .int x3)]) (v := (0)) (ty := .int) (by decide +kernel) rfl ?_ (by decide +kernel) (by decide +kernel) (by decide +kernel) (by decide)
  show ev_stepn _ 11 (0, [(0, .ref 621), (1, .int x1), (2, .int (2)), (3, .int x3)], [], _, _, 0, 0) = _
  refine ev_go0 (ev_one_pure (M := (ev_Mof 332)) (pc := 0) (i := .aload_n 0) (len := 1) (pc' := 1) (lv' := [(0, .ref 621), (1, .int x1), (2, .int (2)), (3, .int x3)]) (st' := [.ref 621]) (by decide +kernel) rfl) ?_
  refine ev_go0 (ev_one_pure (M := (ev_Mof 332)) (pc := 1) (i := .aload_n 0) (len := 1) (pc' := 2) (lv' := [(0, .ref 621), (1, .int x1), (2, .int (2)), (3, .int x3)]) (st' := [.ref 621, .ref 621]) (by decide +kernel) rfl) ?_
  refine ev_go0 (ev_one_pure (M := (ev_Mof 332)) (pc := 2) (i := .iload_n 1) (len := 1) (pc' := 3) (lv' := [(0, .ref 621), (1, .int x1), (2, .int (2)), (3, .int x3)]) (st' := [.int x1, .ref 621, .ref 621]) (by decide +kernel) rfl) ?_
  refine ev_go0 (ev_p_virt (M := (ev_Mof 332)) (pc := 3) (x := 531) (mi := 273) (na := 1) (by decide +kernel) (by decide +kernel) (by decide +kernel) (by decide +kernel) rfl rfl (ev_recv_of ev_fH621) (ev_k30 x1 hl_x1)) ?_
  refine ev_go0 (ev_w_if (M := (ev_Mof 332)) (pc := 6) (q := .eq) (o := 16) (b := true) (t := 22) (by decide +kernel) (by decide +kernel) rfl) ?_
  refine ev_go0 (ev_w_iconst (M := (ev_Mof 332)) (pc := 22) (k := 1) (v := 1) (by decide +kernel) (by decide +kernel)) ?_
  refine ev_go0 (ev_p_putf (M := (ev_Mof 332)) (pc := 23) (x := 321) (ci := 13) (f := 0) (by decide +kernel) (by decide +kernel) ev_fH621 rfl (by decide +kernel)) ?_
  refine ev_go0 (ev_one_pure (M := (ev_Mof 332)) (pc := 26) (i := .aload_n 0) (len := 1) (pc' := 27) (lv' := [(0, .ref 621), (1, .int x1), (2, .int (2)), (3, .int x3)]) (st' := [.ref 621]) (by decide +kernel) rfl) ?_
  refine ev_go0 (ev_p_getf (M := (ev_Mof 332)) (pc := 27) (x := 321) (ci := 13) (f := 0) (fin := 0) (v := .int (1)) (by decide +kernel) (by decide +kernel) (ev_hself ev_fH621) rfl) ?_
  refine ev_go0 (ev_w_if (M := (ev_Mof 332)) (pc := 30) (q := .le) (o := 5) (b := false) (t := 33) (by decide +kernel) (by decide +kernel) rfl) ?_
  refine ev_go0 (ev_w_iconst (M := (ev_Mof 332)) (pc := 33) (k := 0) (v := 0) (by decide +kernel) (by decide +kernel)) ?_
  rfl
theorem ev_p1_14_p2 (xs : Nat → Int32) (x1 : Int32) (hl_x1 : (0 : Int) ≤ x1.toInt) (x3 : Int32) (e1 : xs 1 = x1) (e2 : xs 2 = (2)) (e3 : xs 3 = x3) : ev_P1 xs 1080 := by
  refine ⟨44, [(6, .int (0)), (5, .int (1)), (4, .int (0)), (3, .ref 723), (2, .ref 621), (1, .ref 0), (0, .retAddr 0)], (ev_H0.set 621 (.inr (13, (ev_F621.set 0 (.int (1)))))), 724, 725, 3553592, ?_, ⟨rfl, rfl, rfl, rfl⟩, rfl, by decide, by decide⟩
  show ev_stepn _ _ (1080, [(4, .int (0)), (3, .ref 723), (2, .ref 621), (1, .ref 0), (0, .retAddr 0)], [], _, _, _, _) = _
  refine ev_go0 (ev_one_pure (M := ev_Mlaw) (pc := 1080) (i := .aload_n 1) (len := 1) (pc' := 1081) (lv' := [(4, .int (0)), (3, .ref 723), (2, .ref 621), (1, .ref 0), (0, .retAddr 0)]) (st' := [.ref 0]) (by decide +kernel) rfl) ?_
  refine ev_go0 (ev_one_pure (M := ev_Mlaw) (pc := 1081) (i := .aload_n 0) (len := 1) (pc' := 1082) (lv' := [(4, .int (0)), (3, .ref 723), (2, .ref 621), (1, .ref 0), (0, .retAddr 0)]) (st' := [.retAddr 0, .ref 0]) (by decide +kernel) rfl) ?_
  refine ev_go0 (ev_one_pure (M := ev_Mlaw) (pc := 1082) (i := .iload 4) (len := 2) (pc' := 1084) (lv' := [(4, .int (0)), (3, .ref 723), (2, .ref 621), (1, .ref 0), (0, .retAddr 0)]) (st' := [.int (0), .retAddr 0, .ref 0]) (by decide +kernel) rfl) ?_
  refine ev_go0 (ev_w_iconst (M := ev_Mlaw) (pc := 1084) (k := 1) (v := 1) (by decide +kernel) (by decide +kernel)) ?_
  refine ev_go0 (ev_w_iadd (M := ev_Mlaw) (pc := 1085) (v := (1)) (by decide +kernel) (by decide +kernel)) ?_
  refine ev_go0 (ev_w_scr (M := ev_Mlaw) (pc := 1086) (v := x1) (j := 1) (by decide +kernel) (by decide +kernel) (by decide +kernel) e1) ?_
  refine ev_go0 (ev_one_pure (M := ev_Mlaw) (pc := 1087) (i := .aload_n 0) (len := 1) (pc' := 1088) (lv' := [(4, .int (0)), (3, .ref 723), (2, .ref 621), (1, .ref 0), (0, .retAddr 0)]) (st' := [.retAddr 0, .int x1, .ref 0]) (by decide +kernel) rfl) ?_
  refine ev_go0 (ev_one_pure (M := ev_Mlaw) (pc := 1088) (i := .iload 4) (len := 2) (pc' := 1090) (lv' := [(4, .int (0)), (3, .ref 723), (2, .ref 621), (1, .ref 0), (0, .retAddr 0)]) (st' := [.int (0), .retAddr 0, .int x1, .ref 0]) (by decide +kernel) rfl) ?_
  refine ev_go0 (ev_w_iconst (M := ev_Mlaw) (pc := 1090) (k := 2) (v := 2) (by decide +kernel) (by decide +kernel)) ?_
  refine ev_go0 (ev_w_iadd (M := ev_Mlaw) (pc := 1091) (v := (2)) (by decide +kernel) (by decide +kernel)) ?_
  refine ev_go0 (ev_w_scr (M := ev_Mlaw) (pc := 1092) (v := (2)) (j := 2) (by decide +kernel) (by decide +kernel) (by decide +kernel) e2) ?_
  refine ev_go0 (ev_one_pure (M := ev_Mlaw) (pc := 1093) (i := .aload_n 0) (len := 1) (pc' := 1094) (lv' := [(4, .int (0)), (3, .ref 723), (2, .ref 621), (1, .ref 0), (0, .retAddr 0)]) (st' := [.retAddr 0, .int (2), .int x1, .ref 0]) (by decide +kernel) rfl) ?_
  refine ev_go0 (ev_one_pure (M := ev_Mlaw) (pc := 1094) (i := .iload 4) (len := 2) (pc' := 1096) (lv' := [(4, .int (0)), (3, .ref 723), (2, .ref 621), (1, .ref 0), (0, .retAddr 0)]) (st' := [.int (0), .retAddr 0, .int (2), .int x1, .ref 0]) (by decide +kernel) rfl) ?_
  refine ev_go0 (ev_w_iconst (M := ev_Mlaw) (pc := 1096) (k := 3) (v := 3) (by decide +kernel) (by decide +kernel)) ?_
  refine ev_go0 (ev_w_iadd (M := ev_Mlaw) (pc := 1097) (v := (3)) (by decide +kernel) (by decide +kernel)) ?_
  refine ev_go0 (ev_w_scr (M := ev_Mlaw) (pc := 1098) (v := x3) (j := 3) (by decide +kernel) (by decide +kernel) (by decide +kernel) e3) ?_
  refine ev_go0 (ev_one_pure (M := ev_Mlaw) (pc := 1099) (i := .aload_n 3) (len := 1) (pc' := 1100) (lv' := [(4, .int (0)), (3, .ref 723), (2, .ref 621), (1, .ref 0), (0, .retAddr 0)]) (st' := [.ref 723, .int x3, .int (2), .int x1, .ref 0]) (by decide +kernel) rfl) ?_
  refine ev_go (ev_w_stat (M := ev_Mlaw) (pc := 1100) (y := 179) (kind := 8) (Or.inr (Or.inr rfl)) (mi := 377) (na := 5) (by decide +kernel) (by decide +kernel) (by decide +kernel) (by decide +kernel) rfl rfl (ev_k290 x1 hl_x1 x3)) ?_
  refine ev_go0 (ev_w_istore (M := ev_Mlaw) (pc := 1103) (k := 5) (lv' := [(5, .int (1)), (4, .int (0)), (3, .ref 723), (2, .ref 621), (1, .ref 0), (0, .retAddr 0)]) (by decide +kernel) (by decide +kernel) rfl) ?_
  refine ev_go0 (ev_one_pure (M := ev_Mlaw) (pc := 1105) (i := .aload_n 2) (len := 1) (pc' := 1106) (lv' := [(5, .int (1)), (4, .int (0)), (3, .ref 723), (2, .ref 621), (1, .ref 0), (0, .retAddr 0)]) (st' := [.ref 621]) (by decide +kernel) rfl) ?_
  refine ev_go0 (ev_one_pure (M := ev_Mlaw) (pc := 1106) (i := .aload_n 0) (len := 1) (pc' := 1107) (lv' := [(5, .int (1)), (4, .int (0)), (3, .ref 723), (2, .ref 621), (1, .ref 0), (0, .retAddr 0)]) (st' := [.retAddr 0, .ref 621]) (by decide +kernel) rfl) ?_
  refine ev_go0 (ev_one_pure (M := ev_Mlaw) (pc := 1107) (i := .iload 4) (len := 2) (pc' := 1109) (lv' := [(5, .int (1)), (4, .int (0)), (3, .ref 723), (2, .ref 621), (1, .ref 0), (0, .retAddr 0)]) (st' := [.int (0), .retAddr 0, .ref 621]) (by decide +kernel) rfl) ?_
  refine ev_go0 (ev_w_iconst (M := ev_Mlaw) (pc := 1109) (k := 1) (v := 1) (by decide +kernel) (by decide +kernel)) ?_
  refine ev_go0 (ev_w_iadd (M := ev_Mlaw) (pc := 1110) (v := (1)) (by decide +kernel) (by decide +kernel)) ?_
  refine ev_go0 (ev_w_scr (M := ev_Mlaw) (pc := 1111) (v := x1) (j := 1) (by decide +kernel) (by decide +kernel) (by decide +kernel) e1) ?_
  refine ev_go0 (ev_one_pure (M := ev_Mlaw) (pc := 1112) (i := .aload_n 0) (len := 1) (pc' := 1113) (lv' := [(5, .int (1)), (4, .int (0)), (3, .ref 723), (2, .ref 621), (1, .ref 0), (0, .retAddr 0)]) (st' := [.retAddr 0, .int x1, .ref 621]) (by decide +kernel) rfl) ?_
  refine ev_go0 (ev_one_pure (M := ev_Mlaw) (pc := 1113) (i := .iload 4) (len := 2) (pc' := 1115) (lv' := [(5, .int (1)), (4, .int (0)), (3, .ref 723), (2, .ref 621), (1, .ref 0), (0, .retAddr 0)]) (st' := [.int (0), .retAddr 0, .int x1, .ref 621]) (by decide +kernel) rfl) ?_
  refine ev_go0 (ev_w_iconst (M := ev_Mlaw) (pc := 1115) (k := 2) (v := 2) (by decide +kernel) (by decide +kernel)) ?_
  refine ev_go0 (ev_w_iadd (M := ev_Mlaw) (pc := 1116) (v := (2)) (by decide +kernel) (by decide +kernel)) ?_
  refine ev_go0 (ev_w_scr (M := ev_Mlaw) (pc := 1117) (v := (2)) (j := 2) (by decide +kernel) (by decide +kernel) (by decide +kernel) e2) ?_
  refine ev_go0 (ev_one_pure (M := ev_Mlaw) (pc := 1118) (i := .aload_n 0) (len := 1) (pc' := 1119) (lv' := [(5, .int (1)), (4, .int (0)), (3, .ref 723), (2, .ref 621), (1, .ref 0), (0, .retAddr 0)]) (st' := [.retAddr 0, .int (2), .int x1, .ref 621]) (by decide +kernel) rfl) ?_
  refine ev_go0 (ev_one_pure (M := ev_Mlaw) (pc := 1119) (i := .iload 4) (len := 2) (pc' := 1121) (lv' := [(5, .int (1)), (4, .int (0)), (3, .ref 723), (2, .ref 621), (1, .ref 0), (0, .retAddr 0)]) (st' := [.int (0), .retAddr 0, .int (2), .int x1, .ref 621]) (by decide +kernel) rfl) ?_
  refine ev_go0 (ev_w_iconst (M := ev_Mlaw) (pc := 1121) (k := 3) (v := 3) (by decide +kernel) (by decide +kernel)) ?_
  refine ev_go0 (ev_w_iadd (M := ev_Mlaw) (pc := 1122) (v := (3)) (by decide +kernel) (by decide +kernel)) ?_
  refine ev_go0 (ev_w_scr (M := ev_Mlaw) (pc := 1123) (v := x3) (j := 3) (by decide +kernel) (by decide +kernel) (by decide +kernel) e3) ?_
  refine ev_go0 (ev_p_virt (M := ev_Mlaw) (pc := 1124) (x := 181) (mi := 332) (na := 3) (by decide +kernel) (by decide +kernel) (by decide +kernel) (by decide +kernel) rfl rfl (ev_recv_of ev_fH621) (ev_k291 x1 hl_x1 x3)) ?_
  refine ev_go0 (ev_w_istore (M := ev_Mlaw) (pc := 1127) (k := 6) (lv' := [(6, .int (0)), (5, .int (1)), (4, .int (0)), (3, .ref 723), (2, .ref 621), (1, .ref 0), (0, .retAddr 0)]) (by decide +kernel) (by decide +kernel) rfl) ?_
  refine ev_go0 (ev_one_pure (M := ev_Mlaw) (pc := 1129) (i := .aload_n 2) (len := 1) (pc' := 1130) (lv' := [(6, .int (0)), (5, .int (1)), (4, .int (0)), (3, .ref 723), (2, .ref 621), (1, .ref 0), (0, .retAddr 0)]) (st' := [.ref 621]) (by decide +kernel) rfl) ?_
  refine ev_go0 (ev_p_virt (M := ev_Mlaw) (pc := 1130) (x := 131) (mi := 220) (na := 0) (by decide +kernel) (by decide +kernel) (by decide +kernel) (by decide +kernel) rfl rfl (ev_recv_of (ev_hself ev_fH621)) ev_k26) ?_
  refine ev_go0 (ev_one_pure (M := ev_Mlaw) (pc := 1133) (i := .iload 5) (len := 2) (pc' := 1135) (lv' := [(6, .int (0)), (5, .int (1)), (4, .int (0)), (3, .ref 723), (2, .ref 621), (1, .ref 0), (0, .retAddr 0)]) (st' := [.int (1), .int (1)]) (by decide +kernel) rfl) ?_
  refine ev_go0 (ev_w_icmp (M := ev_Mlaw) (pc := 1135) (q := .eq) (o := 5) (b := true) (t := 1140) (by decide +kernel) (by decide +kernel) rfl) ?_
  refine ev_go0 (ev_one_pure (M := ev_Mlaw) (pc := 1140) (i := .iload 5) (len := 2) (pc' := 1142) (lv' := [(6, .int (0)), (5, .int (1)), (4, .int (0)), (3, .ref 723), (2, .ref 621), (1, .ref 0), (0, .retAddr 0)]) (st' := [.int (1)]) (by decide +kernel) rfl) ?_
  refine ev_go0 (ev_w_if (M := ev_Mlaw) (pc := 1142) (q := .ne) (o := 15) (b := true) (t := 1157) (by decide +kernel) (by decide +kernel) rfl) ?_
  refine ev_go0 (ev_one_pure (M := ev_Mlaw) (pc := 1157) (i := .goto 1115) (len := 3) (pc' := 2272) (lv' := [(6, .int (0)), (5, .int (1)), (4, .int (0)), (3, .ref 723), (2, .ref 621), (1, .ref 0), (0, .retAddr 0)]) (st' := []) (by decide +kernel) rfl) ?_
  rfl
theorem ev_k292 (x1 : Int32) (hl_x1 : (0 : Int) ≤ x1.toInt) (x2 : Int32) (hl_x2 : (3 : Int) ≤ x2.toInt) (x3 : Int32) {n : Nat} : ev_calld 11 180 [.ref 0, .int x1, .int x2, .int x3] ev_H0 n = some (.inr "java/lang/IndexOutOfBoundsException", ev_H0, n, 1, 6) := by
  refine ev_call_thrown (k := 11) (pcR := 40) (x := 160) (lv' := [(5, .null), (4, .null), (0, .ref 0), (1, .int x1), (2, .int x2), (3, .int x3)]) (by decide +kernel) rfl ?_ (by decide +kernel) (by decide +kernel) (by decide +kernel) (by decide) (by decide)
  show ev_stepn _ 11 (0, [(0, .ref 0), (1, .int x1), (2, .int x2), (3, .int x3)], [], _, _, 0, 0) = _
  refine ev_go0 (ev_one_pure (M := (ev_Mof 180)) (pc := 0) (i := .aload_n 0) (len := 1) (pc' := 1) (lv' := [(0, .ref 0), (1, .int x1), (2, .int x2), (3, .int x3)]) (st' := [.ref 0]) (by decide +kernel) rfl) ?_
  refine ev_go0 (ev_one_pure (M := (ev_Mof 180)) (pc := 1) (i := .iload_n 1) (len := 1) (pc' := 2) (lv' := [(0, .ref 0), (1, .int x1), (2, .int x2), (3, .int x3)]) (st' := [.int x1, .ref 0]) (by decide +kernel) rfl) ?_
  refine ev_go0 (ev_p_virt (M := (ev_Mof 180)) (pc := 2) (x := 156) (mi := 200) (na := 1) (by decide +kernel) (by decide +kernel) (by decide +kernel) (by decide +kernel) rfl rfl (ev_recv_of ev_fH0) (ev_k9 x1 hl_x1)) ?_
  refine ev_go0 (ev_w_astore (M := (ev_Mof 180)) (pc := 5) (k := 4) (lv' := [(4, .null), (0, .ref 0), (1, .int x1), (2, .int x2), (3, .int x3)]) (by decide +kernel) (by decide +kernel) (Or.inr (Or.inl rfl)) rfl) ?_
  refine ev_go0 (ev_one_pure (M := (ev_Mof 180)) (pc := 7) (i := .aload_n 0) (len := 1) (pc' := 8) (lv' := [(4, .null), (0, .ref 0), (1, .int x1), (2, .int x2), (3, .int x3)]) (st' := [.ref 0]) (by decide +kernel) rfl) ?_
  refine ev_go0 (ev_p_getf (M := (ev_Mof 180)) (pc := 8) (x := 48) (ci := 12) (f := 8) (fin := 1) (v := .ref 254) (by decide +kernel) (by decide +kernel) ev_fH0 rfl) ?_
  refine ev_go0 (ev_one_pure (M := (ev_Mof 180)) (pc := 11) (i := .iload_n 2) (len := 1) (pc' := 12) (lv' := [(4, .null), (0, .ref 0), (1, .int x1), (2, .int x2), (3, .int x3)]) (st' := [.int x2, .ref 254]) (by decide +kernel) rfl) ?_
  refine ev_go0 (ev_p_virt (M := (ev_Mof 180)) (pc := 12) (x := 221) (mi := 1) (na := 1) (by decide +kernel) (by decide +kernel) (by decide +kernel) (by decide +kernel) rfl rfl (ev_recv_of ev_fH254) (ev_k246 x2 hl_x2)) ?_
  refine ev_go0 (ev_w_astore (M := (ev_Mof 180)) (pc := 15) (k := 5) (lv' := [(5, .null), (4, .null), (0, .ref 0), (1, .int x1), (2, .int x2), (3, .int x3)]) (by decide +kernel) (by decide +kernel) (Or.inr (Or.inl rfl)) rfl) ?_
  refine ev_go0 (ev_one_pure (M := (ev_Mof 180)) (pc := 17) (i := .aload 4) (len := 2) (pc' := 19) (lv' := [(5, .null), (4, .null), (0, .ref 0), (1, .int x1), (2, .int x2), (3, .int x3)]) (st' := [.null]) (by decide +kernel) rfl) ?_
  refine ev_go0 (ev_w_ifnull (M := (ev_Mof 180)) (pc := 19) (o := 21) (t := 40) (by decide +kernel) (Or.inl ⟨rfl, rfl⟩)) ?_
  rfl
theorem ev_k293 (x1 : Int32) (hl_x1 : (0 : Int) ≤ x1.toInt) (x2 : Int32) (hl_x2 : (3 : Int) ≤ x2.toInt) (x3 : Int32) {n : Nat} : ev_calld 12 377 [.ref 0, .int x1, .int x2, .int x3, .ref 723] ev_H0 n = some (.inl (some (.int (1))), ev_H0, n, 1, 6) := by
  refine ev_call_int (k := 9) (pcR := 18) (lv' := [(5, .retAddr 1), (0, .ref 0), (1, .int x1), (2, .int x2), (3, .int x3), (4, .ref 723)]) (v := (1)) (ty := .int) (by decide +kernel) rfl ?_ (by decide +kernel) (by decide +kernel) (by decide +kernel) (by decide)
  show ev_stepn _ 9 (0, [(0, .ref 0), (1, .int x1), (2, .int x2), (3, .int x3), (4, .ref 723)], [], _, _, 0, 0) = _
  refine ev_go0 (ev_one_pure (M := (ev_Mof 377)) (pc := 0) (i := .aload 4) (len := 2) (pc' := 2) (lv' := [(0, .ref 0), (1, .int x1), (2, .int x2), (3, .int x3), (4, .ref 723)]) (st' := [.ref 723]) (by decide +kernel) rfl) ?_
  refine ev_go0 (ev_w_iconst (M := (ev_Mof 377)) (pc := 2) (k := 0) (v := 0) (by decide +kernel) (by decide +kernel)) ?_
  refine ev_go0 (ev_one_pure (M := (ev_Mof 377)) (pc := 3) (i := .aload_n 0) (len := 1) (pc' := 4) (lv' := [(0, .ref 0), (1, .int x1), (2, .int x2), (3, .int x3), (4, .ref 723)]) (st' := [.ref 0, .int (0), .ref 723]) (by decide +kernel) rfl) ?_
  refine ev_go0 (ev_one_pure (M := (ev_Mof 377)) (pc := 4) (i := .iload_n 1) (len := 1) (pc' := 5) (lv' := [(0, .ref 0), (1, .int x1), (2, .int x2), (3, .int x3), (4, .ref 723)]) (st' := [.int x1, .ref 0, .int (0), .ref 723]) (by decide +kernel) rfl) ?_
  refine ev_go0 (ev_one_pure (M := (ev_Mof 377)) (pc := 5) (i := .iload_n 2) (len := 1) (pc' := 6) (lv' := [(0, .ref 0), (1, .int x1), (2, .int x2), (3, .int x3), (4, .ref 723)]) (st' := [.int x2, .int x1, .ref 0, .int (0), .ref 723]) (by decide +kernel) rfl) ?_
  refine ev_go0 (ev_one_pure (M := (ev_Mof 377)) (pc := 6) (i := .iload_n 3) (len := 1) (pc' := 7) (lv' := [(0, .ref 0), (1, .int x1), (2, .int x2), (3, .int x3), (4, .ref 723)]) (st' := [.int x3, .int x2, .int x1, .ref 0, .int (0), .ref 723]) (by decide +kernel) rfl) ?_
  refine ev_go (ev_p_virtX (M := (ev_Mof 377)) (pc := 7) (x := 61) (t := 15) (mi := 180) (na := 3) (by decide +kernel) (by decide +kernel) (by decide +kernel) (by decide +kernel) rfl rfl (ev_recv_of ev_fH0) (ev_k292 x1 hl_x1 x2 hl_x2 x3) (by decide +kernel)) ?_
  refine ev_go0 (ev_w_astore (M := (ev_Mof 377)) (pc := 15) (k := 5) (lv' := [(5, .retAddr 1), (0, .ref 0), (1, .int x1), (2, .int x2), (3, .int x3), (4, .ref 723)]) (by decide +kernel) (by decide +kernel) (Or.inr (Or.inr ⟨_, rfl⟩)) rfl) ?_
  refine ev_go0 (ev_w_iconst (M := (ev_Mof 377)) (pc := 17) (k := 1) (v := 1) (by decide +kernel) (by decide +kernel)) ?_
  rfl
theorem ev_k294 (x1 : Int32) (hl_x1 : (0 : Int) ≤ x1.toInt) (x2 : Int32) (hl_x2 : (3 : Int) ≤ x2.toInt) (x3 : Int32) {n : Nat} : ev_calld 12 332 [.ref 621, .int x1, .int x2, .int x3] ev_H0 n = some (.inl (some (.int (0))), (ev_H0.set 621 (.inr (13, (ev_F621.set 0 (.int (1)))))), n, 0, 0) := by
  refine ev_call_int (k := 11) (pcR := 34) (lv' := [(0, .ref 621), (1, .int x1), (2, .int x2), (3, .int x3)]) (v := (0)) (ty := .int) (by decide +kernel) rfl ?_ (by decide +kernel) (by decide +kernel) (by decide +kernel) (by decide)
  show ev_stepn _ 11 (0, [(0, .ref 621), (1, .int x1), (2, .int x2), (3, .int x3)], [], _, _, 0, 0) = _
  refine ev_go0 (ev_one_pure (M := (ev_Mof 332)) (pc := 0) (i := .aload_n 0) (len := 1) (pc' := 1) (lv' := [(0, .ref 621), (1, .int x1), (2, .int x2), (3, .int x3)]) (st' := [.ref 621]) (by decide +kernel) rfl) ?_
  refine ev_go0 (ev_one_pure (M := (ev_Mof 332)) (pc := 1) (i := .aload_n 0) (len := 1) (pc' := 2) (lv' := [(0, .ref 621), (1, .int x1), (2, .int x2), (3, .int x3)]) (st' := [.ref 621, .ref 621]) (by decide +kernel) rfl) ?_
  refine ev_go0 (ev_one_pure (M := (ev_Mof 332)) (pc := 2) (i := .iload_n 1) (len := 1) (pc' := 3) (lv' := [(0, .ref 621), (1, .int x1), (2, .int x2), (3, .int x3)]) (st' := [.int x1, .ref 621, .ref 621]) (by decide +kernel) rfl) ?_
  refine ev_go0 (ev_p_virt (M := (ev_Mof 332)) (pc := 3) (x := 531) (mi := 273) (na := 1) (by decide +kernel) (by decide +kernel) (by decide +kernel) (by decide +kernel) rfl rfl (ev_recv_of ev_fH621) (ev_k30 x1 hl_x1)) ?_
  refine ev_go0 (ev_w_if (M := (ev_Mof 332)) (pc := 6) (q := .eq) (o := 16) (b := true) (t := 22) (by decide +kernel) (by decide +kernel) rfl) ?_
  refine ev_go0 (ev_w_iconst (M := (ev_Mof 332)) (pc := 22) (k := 1) (v := 1) (by decide +kernel) (by decide +kernel)) ?_
  refine ev_go0 (ev_p_putf (M := (ev_Mof 332)) (pc := 23) (x := 321) (ci := 13) (f := 0) (by decide +kernel) (by decide +kernel) ev_fH621 rfl (by decide +kernel)) ?_
  refine ev_go0 (ev_one_pure (M := (ev_Mof 332)) (pc := 26) (i := .aload_n 0) (len := 1) (pc' := 27) (lv' := [(0, .ref 621), (1, .int x1), (2, .int x2), (3, .int x3)]) (st' := [.ref 621]) (by decide +kernel) rfl) ?_
  refine ev_go0 (ev_p_getf (M := (ev_Mof 332)) (pc := 27) (x := 321) (ci := 13) (f := 0) (fin := 0) (v := .int (1)) (by decide +kernel) (by decide +kernel) (ev_hself ev_fH621) rfl) ?_
  refine ev_go0 (ev_w_if (M := (ev_Mof 332)) (pc := 30) (q := .le) (o := 5) (b := false) (t := 33) (by decide +kernel) (by decide +kernel) rfl) ?_
  refine ev_go0 (ev_w_iconst (M := (ev_Mof 332)) (pc := 33) (k := 0) (v := 0) (by decide +kernel) (by decide +kernel)) ?_
  rfl
theorem ev_p1_14_pg (xs : Nat → Int32) (x1 : Int32) (hl_x1 : (0 : Int) ≤ x1.toInt) (x2 : Int32) (hl_x2 : (3 : Int) ≤ x2.toInt) (x3 : Int32) (e1 : xs 1 = x1) (e2 : xs 2 = x2) (e3 : xs 3 = x3) : ev_P1 xs 1080 := by
  refine ⟨44, [(6, .int (0)), (5, .int (1)), (4, .int (0)), (3, .ref 723), (2, .ref 621), (1, .ref 0), (0, .retAddr 0)], (ev_H0.set 621 (.inr (13, (ev_F621.set 0 (.int (1)))))), 724, 725, 3553592, ?_, ⟨rfl, rfl, rfl, rfl⟩, rfl, by decide, by decide⟩
  show ev_stepn _ _ (1080, [(4, .int (0)), (3, .ref 723), (2, .ref 621), (1, .ref 0), (0, .retAddr 0)], [], _, _, _, _) = _
  refine ev_go0 (ev_one_pure (M := ev_Mlaw) (pc := 1080) (i := .aload_n 1) (len := 1) (pc' := 1081) (lv' := [(4, .int (0)), (3, .ref 723), (2, .ref 621), (1, .ref 0), (0, .retAddr 0)]) (st' := [.ref 0]) (by decide +kernel) rfl) ?_
  refine ev_go0 (ev_one_pure (M := ev_Mlaw) (pc := 1081) (i := .aload_n 0) (len := 1) (pc' := 1082) (lv' := [(4, .int (0)), (3, .ref 723), (2, .ref 621), (1, .ref 0), (0, .retAddr 0)]) (st' := [.retAddr 0, .ref 0]) (by decide +kernel) rfl) ?_
  refine ev_go0 (ev_one_pure (M := ev_Mlaw) (pc := 1082) (i := .iload 4) (len := 2) (pc' := 1084) (lv' := [(4, .int (0)), (3, .ref 723), (2, .ref 621), (1, .ref 0), (0, .retAddr 0)]) (st' := [.int (0), .retAddr 0, .ref 0]) (by decide +kernel) rfl) ?_
  refine ev_go0 (ev_w_iconst (M := ev_Mlaw) (pc := 1084) (k := 1) (v := 1) (by decide +kernel) (by decide +kernel)) ?_
  refine ev_go0 (ev_w_iadd (M := ev_Mlaw) (pc := 1085) (v := (1)) (by decide +kernel) (by decide +kernel)) ?_
  refine ev_go0 (ev_w_scr (M := ev_Mlaw) (pc := 1086) (v := x1) (j := 1) (by decide +kernel) (by decide +kernel) (by decide +kernel) e1) ?_
  refine ev_go0 (ev_one_pure (M := ev_Mlaw) (pc := 1087) (i := .aload_n 0) (len := 1) (pc' := 1088) (lv' := [(4, .int (0)), (3, .ref 723), (2, .ref 621), (1, .ref 0), (0, .retAddr 0)]) (st' := [.retAddr 0, .int x1, .ref 0]) (by decide +kernel) rfl) ?_
  refine ev_go0 (ev_one_pure (M := ev_Mlaw) (pc := 1088) (i := .iload 4) (len := 2) (pc' := 1090) (lv' := [(4, .int (0)), (3, .ref 723), (2, .ref 621), (1, .ref 0), (0, .retAddr 0)]) (st' := [.int (0), .retAddr 0, .int x1, .ref 0]) (by decide +kernel) rfl) ?_
  refine ev_go0 (ev_w_iconst (M := ev_Mlaw) (pc := 1090) (k := 2) (v := 2) (by decide +kernel) (by decide +kernel)) ?_
  refine ev_go0 (ev_w_iadd (M := ev_Mlaw) (pc := 1091) (v := (2)) (by decide +kernel) (by decide +kernel)) ?_
  refine ev_go0 (ev_w_scr (M := ev_Mlaw) (pc := 1092) (v := x2) (j := 2) (by decide +kernel) (by decide +kernel) (by decide +kernel) e2) ?_
  refine ev_go0 (ev_one_pure (M := ev_Mlaw) (pc := 1093) (i := .aload_n 0) (len := 1) (pc' := 1094) (lv' := [(4, .int (0)), (3, .ref 723), (2, .ref 621), (1, .ref 0), (0, .retAddr 0)]) (st' := [.retAddr 0, .int x2, .int x1, .ref 0]) (by decide +kernel) rfl) ?_
  refine ev_go0 (ev_one_pure (M := ev_Mlaw) (pc := 1094) (i := .iload 4) (len := 2) (pc' := 1096) (lv' := [(4, .int (0)), (3, .ref 723), (2, .ref 621), (1, .ref 0), (0, .retAddr 0)]) (st' := [.int (0), .retAddr 0, .int x2, .int x1, .ref 0]) (by decide +kernel) rfl) ?_
  refine ev_go0 (ev_w_iconst (M := ev_Mlaw) (pc := 1096) (k := 3) (v := 3) (by decide +kernel) (by decide +kernel)) ?_
  refine ev_go0 (ev_w_iadd (M := ev_Mlaw) (pc := 1097) (v := (3)) (by decide +kernel) (by decide +kernel)) ?_
  refine ev_go0 (ev_w_scr (M := ev_Mlaw) (pc := 1098) (v := x3) (j := 3) (by decide +kernel) (by decide +kernel) (by decide +kernel) e3) ?_
  refine ev_go0 (ev_one_pure (M := ev_Mlaw) (pc := 1099) (i := .aload_n 3) (len := 1) (pc' := 1100) (lv' := [(4, .int (0)), (3, .ref 723), (2, .ref 621), (1, .ref 0), (0, .retAddr 0)]) (st' := [.ref 723, .int x3, .int x2, .int x1, .ref 0]) (by decide +kernel) rfl) ?_
  refine ev_go (ev_w_stat (M := ev_Mlaw) (pc := 1100) (y := 179) (kind := 8) (Or.inr (Or.inr rfl)) (mi := 377) (na := 5) (by decide +kernel) (by decide +kernel) (by decide +kernel) (by decide +kernel) rfl rfl (ev_k293 x1 hl_x1 x2 hl_x2 x3)) ?_
  refine ev_go0 (ev_w_istore (M := ev_Mlaw) (pc := 1103) (k := 5) (lv' := [(5, .int (1)), (4, .int (0)), (3, .ref 723), (2, .ref 621), (1, .ref 0), (0, .retAddr 0)]) (by decide +kernel) (by decide +kernel) rfl) ?_
  refine ev_go0 (ev_one_pure (M := ev_Mlaw) (pc := 1105) (i := .aload_n 2) (len := 1) (pc' := 1106) (lv' := [(5, .int (1)), (4, .int (0)), (3, .ref 723), (2, .ref 621), (1, .ref 0), (0, .retAddr 0)]) (st' := [.ref 621]) (by decide +kernel) rfl) ?_
  refine ev_go0 (ev_one_pure (M := ev_Mlaw) (pc := 1106) (i := .aload_n 0) (len := 1) (pc' := 1107) (lv' := [(5, .int (1)), (4, .int (0)), (3, .ref 723), (2, .ref 621), (1, .ref 0), (0, .retAddr 0)]) (st' := [.retAddr 0, .ref 621]) (by decide +kernel) rfl) ?_
  refine ev_go0 (ev_one_pure (M := ev_Mlaw) (pc := 1107) (i := .iload 4) (len := 2) (pc' := 1109) (lv' := [(5, .int (1)), (4, .int (0)), (3, .ref 723), (2, .ref 621), (1, .ref 0), (0, .retAddr 0)]) (st' := [.int (0), .retAddr 0, .ref 621]) (by decide +kernel) rfl) ?_
  refine ev_go0 (ev_w_iconst (M := ev_Mlaw) (pc := 1109) (k := 1) (v := 1) (by decide +kernel) (by decide +kernel)) ?_
  refine ev_go0 (ev_w_iadd (M := ev_Mlaw) (pc := 1110) (v := (1)) (by decide +kernel) (by decide +kernel)) ?_
  refine ev_go0 (ev_w_scr (M := ev_Mlaw) (pc := 1111) (v := x1) (j := 1) (by decide +kernel) (by decide +kernel) (by decide +kernel) e1) ?_
  refine ev_go0 (ev_one_pure (M := ev_Mlaw) (pc := 1112) (i := .aload_n 0) (len := 1) (pc' := 1113) (lv' := [(5, .int (1)), (4, .int (0)), (3, .ref 723), (2, .ref 621), (1, .ref 0), (0, .retAddr 0)]) (st' := [.retAddr 0, .int x1, .ref 621]) (by decide +kernel) rfl) ?_
  refine ev_go0 (ev_one_pure (M := ev_Mlaw) (pc := 1113) (i := .iload 4) (len := 2) (pc' := 1115) (lv' := [(5, .int (1)), (4, .int (0)), (3, .ref 723), (2, .ref 621), (1, .ref 0), (0, .retAddr 0)]) (st' := [.int (0), .retAddr 0, .int x1, .ref 621]) (by decide +kernel) rfl) ?_
  refine ev_go0 (ev_w_iconst (M := ev_Mlaw) (pc := 1115) (k := 2) (v := 2) (by decide +kernel) (by decide +kernel)) ?_
  refine ev_go0 (ev_w_iadd (M := ev_Mlaw) (pc := 1116) (v := (2)) (by decide +kernel) (by decide +kernel)) ?_
  refine ev_go0 (ev_w_scr (M := ev_Mlaw) (pc := 1117) (v := x2) (j := 2) (by decide +kernel) (by decide +kernel) (by decide +kernel) e2) ?_
  refine ev_go0 (ev_one_pure (M := ev_Mlaw) (pc := 1118) (i := .aload_n 0) (len := 1) (pc' := 1119) (lv' := [(5, .int (1)), (4, .int (0)), (3, .ref 723), (2, .ref 621), (1, .ref 0), (0, .retAddr 0)]) (st' := [.retAddr 0, .int x2, .int x1, .ref 621]) (by decide +kernel) rfl) ?_
  refine ev_go0 (ev_one_pure (M := ev_Mlaw) (pc := 1119) (i := .iload 4) (len := 2) (pc' := 1121) (lv' := [(5, .int (1)), (4, .int (0)), (3, .ref 723), (2, .ref 621), (1, .ref 0), (0, .retAddr 0)]) (st' := [.int (0), .retAddr 0, .int x2, .int x1, .ref 621]) (by decide +kernel) rfl) ?_
  refine ev_go0 (ev_w_iconst (M := ev_Mlaw) (pc := 1121) (k := 3) (v := 3) (by decide +kernel) (by decide +kernel)) ?_
  refine ev_go0 (ev_w_iadd (M := ev_Mlaw) (pc := 1122) (v := (3)) (by decide +kernel) (by decide +kernel)) ?_
  refine ev_go0 (ev_w_scr (M := ev_Mlaw) (pc := 1123) (v := x3) (j := 3) (by decide +kernel) (by decide +kernel) (by decide +kernel) e3) ?_
  refine ev_go0 (ev_p_virt (M := ev_Mlaw) (pc := 1124) (x := 181) (mi := 332) (na := 3) (by decide +kernel) (by decide +kernel) (by decide +kernel) (by decide +kernel) rfl rfl (ev_recv_of ev_fH621) (ev_k294 x1 hl_x1 x2 hl_x2 x3)) ?_
  refine ev_go0 (ev_w_istore (M := ev_Mlaw) (pc := 1127) (k := 6) (lv' := [(6, .int (0)), (5, .int (1)), (4, .int (0)), (3, .ref 723), (2, .ref 621), (1, .ref 0), (0, .retAddr 0)]) (by decide +kernel) (by decide +kernel) rfl) ?_
  refine ev_go0 (ev_one_pure (M := ev_Mlaw) (pc := 1129) (i := .aload_n 2) (len := 1) (pc' := 1130) (lv' := [(6, .int (0)), (5, .int (1)), (4, .int (0)), (3, .ref 723), (2, .ref 621), (1, .ref 0), (0, .retAddr 0)]) (st' := [.ref 621]) (by decide +kernel) rfl) ?_
  refine ev_go0 (ev_p_virt (M := ev_Mlaw) (pc := 1130) (x := 131) (mi := 220) (na := 0) (by decide +kernel) (by decide +kernel) (by decide +kernel) (by decide +kernel) rfl rfl (ev_recv_of (ev_hself ev_fH621)) ev_k26) ?_
  refine ev_go0 (ev_one_pure (M := ev_Mlaw) (pc := 1133) (i := .iload 5) (len := 2) (pc' := 1135) (lv' := [(6, .int (0)), (5, .int (1)), (4, .int (0)), (3, .ref 723), (2, .ref 621), (1, .ref 0), (0, .retAddr 0)]) (st' := [.int (1), .int (1)]) (by decide +kernel) rfl) ?_
  refine ev_go0 (ev_w_icmp (M := ev_Mlaw) (pc := 1135) (q := .eq) (o := 5) (b := true) (t := 1140) (by decide +kernel) (by decide +kernel) rfl) ?_
  refine ev_go0 (ev_one_pure (M := ev_Mlaw) (pc := 1140) (i := .iload 5) (len := 2) (pc' := 1142) (lv' := [(6, .int (0)), (5, .int (1)), (4, .int (0)), (3, .ref 723), (2, .ref 621), (1, .ref 0), (0, .retAddr 0)]) (st' := [.int (1)]) (by decide +kernel) rfl) ?_
  refine ev_go0 (ev_w_if (M := ev_Mlaw) (pc := 1142) (q := .ne) (o := 15) (b := true) (t := 1157) (by decide +kernel) (by decide +kernel) rfl) ?_
  refine ev_go0 (ev_one_pure (M := ev_Mlaw) (pc := 1157) (i := .goto 1115) (len := 3) (pc' := 2272) (lv' := [(6, .int (0)), (5, .int (1)), (4, .int (0)), (3, .ref 723), (2, .ref 621), (1, .ref 0), (0, .retAddr 0)]) (st' := []) (by decide +kernel) rfl) ?_
  rfl
theorem ev_p1arm14 (xs : Nat → Int32) : ev_P1 xs 1080 := by
  rcases ev_split2 (xs 1) with h1 | h1
  · skip
    rcases ev_split5 (xs 2) with h2 | h2 | h2 | h2 | h2
    · skip
      exact ev_p1_14_nn xs (xs 1) h1 (xs 2) h2 (xs 3) rfl rfl rfl
    · skip
      exact ev_p1_14_n0 xs (xs 1) h1 (xs 3) rfl h2 rfl
    · skip
      exact ev_p1_14_n1 xs (xs 1) h1 (xs 3) rfl h2 rfl
    · skip
      exact ev_p1_14_n2 xs (xs 1) h1 (xs 3) rfl h2 rfl
    · skip
      exact ev_p1_14_ng xs (xs 1) h1 (xs 2) h2 (xs 3) rfl rfl rfl
  · skip
    rcases ev_split5 (xs 2) with h2 | h2 | h2 | h2 | h2
    · skip
      exact ev_p1_14_pn xs (xs 1) h1 (xs 2) h2 (xs 3) rfl rfl rfl
    · skip
      exact ev_p1_14_p0 xs (xs 1) h1 (xs 3) rfl h2 rfl
    · skip
      exact ev_p1_14_p1 xs (xs 1) h1 (xs 3) rfl h2 rfl
    · skip
      exact ev_p1_14_p2 xs (xs 1) h1 (xs 3) rfl h2 rfl
    · skip
      exact ev_p1_14_pg xs (xs 1) h1 (xs 2) h2 (xs 3) rfl rfl rfl
theorem ev_k295 (x1 : Int32) (hu_x1 : x1.toInt ≤ (-1 : Int)) (x2 : Int32) (hu_x2 : x2.toInt ≤ (-1 : Int)) {n : Nat} : ev_calld 11 181 [.ref 0, .int x1, .int x2] ev_H0 n = some (.inr "java/lang/IndexOutOfBoundsException", ev_H0, n, 1, 6) := by
  refine ev_call_thrown (k := 11) (pcR := 25) (x := 160) (lv' := [(4, .null), (3, .null), (0, .ref 0), (1, .int x1), (2, .int x2)]) (by decide +kernel) rfl ?_ (by decide +kernel) (by decide +kernel) (by decide +kernel) (by decide) (by decide)
  show ev_stepn _ 11 (0, [(0, .ref 0), (1, .int x1), (2, .int x2)], [], _, _, 0, 0) = _
  refine ev_go0 (ev_one_pure (M := (ev_Mof 181)) (pc := 0) (i := .aload_n 0) (len := 1) (pc' := 1) (lv' := [(0, .ref 0), (1, .int x1), (2, .int x2)]) (st' := [.ref 0]) (by decide +kernel) rfl) ?_
  refine ev_go0 (ev_one_pure (M := (ev_Mof 181)) (pc := 1) (i := .iload_n 1) (len := 1) (pc' := 2) (lv' := [(0, .ref 0), (1, .int x1), (2, .int x2)]) (st' := [.int x1, .ref 0]) (by decide +kernel) rfl) ?_
  refine ev_go0 (ev_p_virt (M := (ev_Mof 181)) (pc := 2) (x := 156) (mi := 200) (na := 1) (by decide +kernel) (by decide +kernel) (by decide +kernel) (by decide +kernel) rfl rfl (ev_recv_of ev_fH0) (ev_k1 x1 hu_x1)) ?_
  refine ev_go0 (ev_w_astore_n (M := (ev_Mof 181)) (pc := 5) (k := 3) (lv' := [(3, .null), (0, .ref 0), (1, .int x1), (2, .int x2)]) (by decide +kernel) (by decide +kernel) (Or.inr (Or.inl rfl)) rfl) ?_
  refine ev_go0 (ev_one_pure (M := (ev_Mof 181)) (pc := 6) (i := .aload_n 0) (len := 1) (pc' := 7) (lv' := [(3, .null), (0, .ref 0), (1, .int x1), (2, .int x2)]) (st' := [.ref 0]) (by decide +kernel) rfl) ?_
  refine ev_go0 (ev_p_getf (M := (ev_Mof 181)) (pc := 7) (x := 48) (ci := 12) (f := 8) (fin := 1) (v := .ref 254) (by decide +kernel) (by decide +kernel) ev_fH0 rfl) ?_
  refine ev_go0 (ev_one_pure (M := (ev_Mof 181)) (pc := 10) (i := .iload_n 2) (len := 1) (pc' := 11) (lv' := [(3, .null), (0, .ref 0), (1, .int x1), (2, .int x2)]) (st' := [.int x2, .ref 254]) (by decide +kernel) rfl) ?_
  refine ev_go0 (ev_p_virt (M := (ev_Mof 181)) (pc := 11) (x := 221) (mi := 1) (na := 1) (by decide +kernel) (by decide +kernel) (by decide +kernel) (by decide +kernel) rfl rfl (ev_recv_of ev_fH254) (ev_k230 x2 hu_x2)) ?_
  refine ev_go0 (ev_w_astore (M := (ev_Mof 181)) (pc := 14) (k := 4) (lv' := [(4, .null), (3, .null), (0, .ref 0), (1, .int x1), (2, .int x2)]) (by decide +kernel) (by decide +kernel) (Or.inr (Or.inl rfl)) rfl) ?_
  refine ev_go0 (ev_one_pure (M := (ev_Mof 181)) (pc := 16) (i := .aload_n 3) (len := 1) (pc' := 17) (lv' := [(4, .null), (3, .null), (0, .ref 0), (1, .int x1), (2, .int x2)]) (st' := [.null]) (by decide +kernel) rfl) ?_
  refine ev_go0 (ev_w_ifnull (M := (ev_Mof 181)) (pc := 17) (o := 8) (t := 25) (by decide +kernel) (Or.inl ⟨rfl, rfl⟩)) ?_
  rfl
theorem ev_k296 (x1 : Int32) (hu_x1 : x1.toInt ≤ (-1 : Int)) (x2 : Int32) (hu_x2 : x2.toInt ≤ (-1 : Int)) {n : Nat} : ev_calld 12 378 [.ref 0, .int x1, .int x2, .ref 723] ev_H0 n = some (.inl (some (.int (1))), ev_H0, n, 1, 6) := by
  refine ev_call_int (k := 8) (pcR := 16) (lv' := [(4, .retAddr 1), (0, .ref 0), (1, .int x1), (2, .int x2), (3, .ref 723)]) (v := (1)) (ty := .int) (by decide +kernel) rfl ?_ (by decide +kernel) (by decide +kernel) (by decide +kernel) (by decide)
  show ev_stepn _ 8 (0, [(0, .ref 0), (1, .int x1), (2, .int x2), (3, .ref 723)], [], _, _, 0, 0) = _
  refine ev_go0 (ev_one_pure (M := (ev_Mof 378)) (pc := 0) (i := .aload_n 3) (len := 1) (pc' := 1) (lv' := [(0, .ref 0), (1, .int x1), (2, .int x2), (3, .ref 723)]) (st' := [.ref 723]) (by decide +kernel) rfl) ?_
  refine ev_go0 (ev_w_iconst (M := (ev_Mof 378)) (pc := 1) (k := 0) (v := 0) (by decide +kernel) (by decide +kernel)) ?_
  refine ev_go0 (ev_one_pure (M := (ev_Mof 378)) (pc := 2) (i := .aload_n 0) (len := 1) (pc' := 3) (lv' := [(0, .ref 0), (1, .int x1), (2, .int x2), (3, .ref 723)]) (st' := [.ref 0, .int (0), .ref 723]) (by decide +kernel) rfl) ?_
  refine ev_go0 (ev_one_pure (M := (ev_Mof 378)) (pc := 3) (i := .iload_n 1) (len := 1) (pc' := 4) (lv' := [(0, .ref 0), (1, .int x1), (2, .int x2), (3, .ref 723)]) (st' := [.int x1, .ref 0, .int (0), .ref 723]) (by decide +kernel) rfl) ?_
  refine ev_go0 (ev_one_pure (M := (ev_Mof 378)) (pc := 4) (i := .iload_n 2) (len := 1) (pc' := 5) (lv' := [(0, .ref 0), (1, .int x1), (2, .int x2), (3, .ref 723)]) (st' := [.int x2, .int x1, .ref 0, .int (0), .ref 723]) (by decide +kernel) rfl) ?_
  refine ev_go (ev_p_virtX (M := (ev_Mof 378)) (pc := 5) (x := 64) (t := 13) (mi := 181) (na := 2) (by decide +kernel) (by decide +kernel) (by decide +kernel) (by decide +kernel) rfl rfl (ev_recv_of ev_fH0) (ev_k295 x1 hu_x1 x2 hu_x2) (by decide +kernel)) ?_
  refine ev_go0 (ev_w_astore (M := (ev_Mof 378)) (pc := 13) (k := 4) (lv' := [(4, .retAddr 1), (0, .ref 0), (1, .int x1), (2, .int x2), (3, .ref 723)]) (by decide +kernel) (by decide +kernel) (Or.inr (Or.inr ⟨_, rfl⟩)) rfl) ?_
  refine ev_go0 (ev_w_iconst (M := (ev_Mof 378)) (pc := 15) (k := 1) (v := 1) (by decide +kernel) (by decide +kernel)) ?_
  rfl
theorem ev_k297 (x1 : Int32) (hu_x1 : x1.toInt ≤ (-1 : Int)) (x2 : Int32) (hu_x2 : x2.toInt ≤ (-1 : Int)) {n : Nat} : ev_calld 12 334 [.ref 621, .int x1, .int x2] ev_H0 n = some (.inl (some (.int (0))), (ev_H0.set 621 (.inr (13, (ev_F621.set 0 (.int (1)))))), n, 0, 0) := by
  refine ev_call_int (k := 11) (pcR := 33) (lv' := [(0, .ref 621), (1, .int x1), (2, .int x2)]) (v := (0)) (ty := .int) (by decide +kernel) rfl ?_ (by decide +kernel) (by decide +kernel) (by decide +kernel) (by decide)
  show ev_stepn _ 11 (0, [(0, .ref 621), (1, .int x1), (2, .int x2)], [], _, _, 0, 0) = _
  refine ev_go0 (ev_one_pure (M := (ev_Mof 334)) (pc := 0) (i := .aload_n 0) (len := 1) (pc' := 1) (lv' := [(0, .ref 621), (1, .int x1), (2, .int x2)]) (st' := [.ref 621]) (by decide +kernel) rfl) ?_
  refine ev_go0 (ev_one_pure (M := (ev_Mof 334)) (pc := 1) (i := .aload_n 0) (len := 1) (pc' := 2) (lv' := [(0, .ref 621), (1, .int x1), (2, .int x2)]) (st' := [.ref 621, .ref 621]) (by decide +kernel) rfl) ?_
  refine ev_go0 (ev_one_pure (M := (ev_Mof 334)) (pc := 2) (i := .iload_n 1) (len := 1) (pc' := 3) (lv' := [(0, .ref 621), (1, .int x1), (2, .int x2)]) (st' := [.int x1, .ref 621, .ref 621]) (by decide +kernel) rfl) ?_
  refine ev_go0 (ev_p_virt (M := (ev_Mof 334)) (pc := 3) (x := 531) (mi := 273) (na := 1) (by decide +kernel) (by decide +kernel) (by decide +kernel) (by decide +kernel) rfl rfl (ev_recv_of ev_fH621) (ev_k24 x1 hu_x1)) ?_
  refine ev_go0 (ev_w_if (M := (ev_Mof 334)) (pc := 6) (q := .eq) (o := 15) (b := true) (t := 21) (by decide +kernel) (by decide +kernel) rfl) ?_
  refine ev_go0 (ev_w_iconst (M := (ev_Mof 334)) (pc := 21) (k := 1) (v := 1) (by decide +kernel) (by decide +kernel)) ?_
  refine ev_go0 (ev_p_putf (M := (ev_Mof 334)) (pc := 22) (x := 321) (ci := 13) (f := 0) (by decide +kernel) (by decide +kernel) ev_fH621 rfl (by decide +kernel)) ?_
  refine ev_go0 (ev_one_pure (M := (ev_Mof 334)) (pc := 25) (i := .aload_n 0) (len := 1) (pc' := 26) (lv' := [(0, .ref 621), (1, .int x1), (2, .int x2)]) (st' := [.ref 621]) (by decide +kernel) rfl) ?_
  refine ev_go0 (ev_p_getf (M := (ev_Mof 334)) (pc := 26) (x := 321) (ci := 13) (f := 0) (fin := 0) (v := .int (1)) (by decide +kernel) (by decide +kernel) (ev_hself ev_fH621) rfl) ?_
  refine ev_go0 (ev_w_if (M := (ev_Mof 334)) (pc := 29) (q := .le) (o := 5) (b := false) (t := 32) (by decide +kernel) (by decide +kernel) rfl) ?_
  refine ev_go0 (ev_w_iconst (M := (ev_Mof 334)) (pc := 32) (k := 0) (v := 0) (by decide +kernel) (by decide +kernel)) ?_
  rfl
theorem ev_p1_15_nn (xs : Nat → Int32) (x1 : Int32) (hu_x1 : x1.toInt ≤ (-1 : Int)) (x2 : Int32) (hu_x2 : x2.toInt ≤ (-1 : Int)) (e1 : xs 1 = x1) (e2 : xs 2 = x2) : ev_P1 xs 1160 := by
  refine ⟨34, [(6, .int (0)), (5, .int (1)), (4, .int (0)), (3, .ref 723), (2, .ref 621), (1, .ref 0), (0, .retAddr 0)], (ev_H0.set 621 (.inr (13, (ev_F621.set 0 (.int (1)))))), 724, 725, 3553592, ?_, ⟨rfl, rfl, rfl, rfl⟩, rfl, by decide, by decide⟩
  show ev_stepn _ _ (1160, [(4, .int (0)), (3, .ref 723), (2, .ref 621), (1, .ref 0), (0, .retAddr 0)], [], _, _, _, _) = _
  refine ev_go0 (ev_one_pure (M := ev_Mlaw) (pc := 1160) (i := .aload_n 1) (len := 1) (pc' := 1161) (lv' := [(4, .int (0)), (3, .ref 723), (2, .ref 621), (1, .ref 0), (0, .retAddr 0)]) (st' := [.ref 0]) (by decide +kernel) rfl) ?_
  refine ev_go0 (ev_one_pure (M := ev_Mlaw) (pc := 1161) (i := .aload_n 0) (len := 1) (pc' := 1162) (lv' := [(4, .int (0)), (3, .ref 723), (2, .ref 621), (1, .ref 0), (0, .retAddr 0)]) (st' := [.retAddr 0, .ref 0]) (by decide +kernel) rfl) ?_
  refine ev_go0 (ev_one_pure (M := ev_Mlaw) (pc := 1162) (i := .iload 4) (len := 2) (pc' := 1164) (lv' := [(4, .int (0)), (3, .ref 723), (2, .ref 621), (1, .ref 0), (0, .retAddr 0)]) (st' := [.int (0), .retAddr 0, .ref 0]) (by decide +kernel) rfl) ?_
  refine ev_go0 (ev_w_iconst (M := ev_Mlaw) (pc := 1164) (k := 1) (v := 1) (by decide +kernel) (by decide +kernel)) ?_
  refine ev_go0 (ev_w_iadd (M := ev_Mlaw) (pc := 1165) (v := (1)) (by decide +kernel) (by decide +kernel)) ?_
  refine ev_go0 (ev_w_scr (M := ev_Mlaw) (pc := 1166) (v := x1) (j := 1) (by decide +kernel) (by decide +kernel) (by decide +kernel) e1) ?_
  refine ev_go0 (ev_one_pure (M := ev_Mlaw) (pc := 1167) (i := .aload_n 0) (len := 1) (pc' := 1168) (lv' := [(4, .int (0)), (3, .ref 723), (2, .ref 621), (1, .ref 0), (0, .retAddr 0)]) (st' := [.retAddr 0, .int x1, .ref 0]) (by decide +kernel) rfl) ?_
  refine ev_go0 (ev_one_pure (M := ev_Mlaw) (pc := 1168) (i := .iload 4) (len := 2) (pc' := 1170) (lv' := [(4, .int (0)), (3, .ref 723), (2, .ref 621), (1, .ref 0), (0, .retAddr 0)]) (st' := [.int (0), .retAddr 0, .int x1, .ref 0]) (by decide +kernel) rfl) ?_
  refine ev_go0 (ev_w_iconst (M := ev_Mlaw) (pc := 1170) (k := 2) (v := 2) (by decide +kernel) (by decide +kernel)) ?_
  refine ev_go0 (ev_w_iadd (M := ev_Mlaw) (pc := 1171) (v := (2)) (by decide +kernel) (by decide +kernel)) ?_
  refine ev_go0 (ev_w_scr (M := ev_Mlaw) (pc := 1172) (v := x2) (j := 2) (by decide +kernel) (by decide +kernel) (by decide +kernel) e2) ?_
  refine ev_go0 (ev_one_pure (M := ev_Mlaw) (pc := 1173) (i := .aload_n 3) (len := 1) (pc' := 1174) (lv' := [(4, .int (0)), (3, .ref 723), (2, .ref 621), (1, .ref 0), (0, .retAddr 0)]) (st' := [.ref 723, .int x2, .int x1, .ref 0]) (by decide +kernel) rfl) ?_
  refine ev_go (ev_w_stat (M := ev_Mlaw) (pc := 1174) (y := 182) (kind := 8) (Or.inr (Or.inr rfl)) (mi := 378) (na := 4) (by decide +kernel) (by decide +kernel) (by decide +kernel) (by decide +kernel) rfl rfl (ev_k296 x1 hu_x1 x2 hu_x2)) ?_
  refine ev_go0 (ev_w_istore (M := ev_Mlaw) (pc := 1177) (k := 5) (lv' := [(5, .int (1)), (4, .int (0)), (3, .ref 723), (2, .ref 621), (1, .ref 0), (0, .retAddr 0)]) (by decide +kernel) (by decide +kernel) rfl) ?_
  refine ev_go0 (ev_one_pure (M := ev_Mlaw) (pc := 1179) (i := .aload_n 2) (len := 1) (pc' := 1180) (lv' := [(5, .int (1)), (4, .int (0)), (3, .ref 723), (2, .ref 621), (1, .ref 0), (0, .retAddr 0)]) (st' := [.ref 621]) (by decide +kernel) rfl) ?_
  refine ev_go0 (ev_one_pure (M := ev_Mlaw) (pc := 1180) (i := .aload_n 0) (len := 1) (pc' := 1181) (lv' := [(5, .int (1)), (4, .int (0)), (3, .ref 723), (2, .ref 621), (1, .ref 0), (0, .retAddr 0)]) (st' := [.retAddr 0, .ref 621]) (by decide +kernel) rfl) ?_
  refine ev_go0 (ev_one_pure (M := ev_Mlaw) (pc := 1181) (i := .iload 4) (len := 2) (pc' := 1183) (lv' := [(5, .int (1)), (4, .int (0)), (3, .ref 723), (2, .ref 621), (1, .ref 0), (0, .retAddr 0)]) (st' := [.int (0), .retAddr 0, .ref 621]) (by decide +kernel) rfl) ?_
  refine ev_go0 (ev_w_iconst (M := ev_Mlaw) (pc := 1183) (k := 1) (v := 1) (by decide +kernel) (by decide +kernel)) ?_
  refine ev_go0 (ev_w_iadd (M := ev_Mlaw) (pc := 1184) (v := (1)) (by decide +kernel) (by decide +kernel)) ?_
  refine ev_go0 (ev_w_scr (M := ev_Mlaw) (pc := 1185) (v := x1) (j := 1) (by decide +kernel) (by decide +kernel) (by decide +kernel) e1) ?_
  refine ev_go0 (ev_one_pure (M := ev_Mlaw) (pc := 1186) (i := .aload_n 0) (len := 1) (pc' := 1187) (lv' := [(5, .int (1)), (4, .int (0)), (3, .ref 723), (2, .ref 621), (1, .ref 0), (0, .retAddr 0)]) (st' := [.retAddr 0, .int x1, .ref 621]) (by decide +kernel) rfl) ?_
  refine ev_go0 (ev_one_pure (M := ev_Mlaw) (pc := 1187) (i := .iload 4) (len := 2) (pc' := 1189) (lv' := [(5, .int (1)), (4, .int (0)), (3, .ref 723), (2, .ref 621), (1, .ref 0), (0, .retAddr 0)]) (st' := [.int (0), .retAddr 0, .int x1, .ref 621]) (by decide +kernel) rfl) ?_
  refine ev_go0 (ev_w_iconst (M := ev_Mlaw) (pc := 1189) (k := 2) (v := 2) (by decide +kernel) (by decide +kernel)) ?_
  refine ev_go0 (ev_w_iadd (M := ev_Mlaw) (pc := 1190) (v := (2)) (by decide +kernel) (by decide +kernel)) ?_
  refine ev_go0 (ev_w_scr (M := ev_Mlaw) (pc := 1191) (v := x2) (j := 2) (by decide +kernel) (by decide +kernel) (by decide +kernel) e2) ?_
  refine ev_go0 (ev_p_virt (M := ev_Mlaw) (pc := 1192) (x := 184) (mi := 334) (na := 2) (by decide +kernel) (by decide +kernel) (by decide +kernel) (by decide +kernel) rfl rfl (ev_recv_of ev_fH621) (ev_k297 x1 hu_x1 x2 hu_x2)) ?_
  refine ev_go0 (ev_w_istore (M := ev_Mlaw) (pc := 1195) (k := 6) (lv' := [(6, .int (0)), (5, .int (1)), (4, .int (0)), (3, .ref 723), (2, .ref 621), (1, .ref 0), (0, .retAddr 0)]) (by decide +kernel) (by decide +kernel) rfl) ?_
  refine ev_go0 (ev_one_pure (M := ev_Mlaw) (pc := 1197) (i := .aload_n 2) (len := 1) (pc' := 1198) (lv' := [(6, .int (0)), (5, .int (1)), (4, .int (0)), (3, .ref 723), (2, .ref 621), (1, .ref 0), (0, .retAddr 0)]) (st' := [.ref 621]) (by decide +kernel) rfl) ?_
  refine ev_go0 (ev_p_virt (M := ev_Mlaw) (pc := 1198) (x := 131) (mi := 220) (na := 0) (by decide +kernel) (by decide +kernel) (by decide +kernel) (by decide +kernel) rfl rfl (ev_recv_of (ev_hself ev_fH621)) ev_k26) ?_
  refine ev_go0 (ev_one_pure (M := ev_Mlaw) (pc := 1201) (i := .iload 5) (len := 2) (pc' := 1203) (lv' := [(6, .int (0)), (5, .int (1)), (4, .int (0)), (3, .ref 723), (2, .ref 621), (1, .ref 0), (0, .retAddr 0)]) (st' := [.int (1), .int (1)]) (by decide +kernel) rfl) ?_
  refine ev_go0 (ev_w_icmp (M := ev_Mlaw) (pc := 1203) (q := .eq) (o := 5) (b := true) (t := 1208) (by decide +kernel) (by decide +kernel) rfl) ?_
  refine ev_go0 (ev_one_pure (M := ev_Mlaw) (pc := 1208) (i := .iload 5) (len := 2) (pc' := 1210) (lv' := [(6, .int (0)), (5, .int (1)), (4, .int (0)), (3, .ref 723), (2, .ref 621), (1, .ref 0), (0, .retAddr 0)]) (st' := [.int (1)]) (by decide +kernel) rfl) ?_
  refine ev_go0 (ev_w_if (M := ev_Mlaw) (pc := 1210) (q := .ne) (o := 15) (b := true) (t := 1225) (by decide +kernel) (by decide +kernel) rfl) ?_
  refine ev_go0 (ev_one_pure (M := ev_Mlaw) (pc := 1225) (i := .goto 1047) (len := 3) (pc' := 2272) (lv' := [(6, .int (0)), (5, .int (1)), (4, .int (0)), (3, .ref 723), (2, .ref 621), (1, .ref 0), (0, .retAddr 0)]) (st' := []) (by decide +kernel) rfl) ?_
  rfl
theorem ev_k298 (x1 : Int32) (hu_x1 : x1.toInt ≤ (-1 : Int)) {n : Nat} : ev_calld 11 181 [.ref 0, .int x1, .int (0)] ev_H0 n = some (.inr "java/lang/IndexOutOfBoundsException", ev_H0, n, 1, 6) := by
  refine ev_call_thrown (k := 11) (pcR := 25) (x := 160) (lv' := [(4, .ref 263), (3, .null), (0, .ref 0), (1, .int x1), (2, .int (0))]) (by decide +kernel) rfl ?_ (by decide +kernel) (by decide +kernel) (by decide +kernel) (by decide) (by decide)
  show ev_stepn _ 11 (0, [(0, .ref 0), (1, .int x1), (2, .int (0))], [], _, _, 0, 0) = _
  refine ev_go0 (ev_one_pure (M := (ev_Mof 181)) (pc := 0) (i := .aload_n 0) (len := 1) (pc' := 1) (lv' := [(0, .ref 0), (1, .int x1), (2, .int (0))]) (st' := [.ref 0]) (by decide +kernel) rfl) ?_
  refine ev_go0 (ev_one_pure (M := (ev_Mof 181)) (pc := 1) (i := .iload_n 1) (len := 1) (pc' := 2) (lv' := [(0, .ref 0), (1, .int x1), (2, .int (0))]) (st' := [.int x1, .ref 0]) (by decide +kernel) rfl) ?_
  refine ev_go0 (ev_p_virt (M := (ev_Mof 181)) (pc := 2) (x := 156) (mi := 200) (na := 1) (by decide +kernel) (by decide +kernel) (by decide +kernel) (by decide +kernel) rfl rfl (ev_recv_of ev_fH0) (ev_k1 x1 hu_x1)) ?_
  refine ev_go0 (ev_w_astore_n (M := (ev_Mof 181)) (pc := 5) (k := 3) (lv' := [(3, .null), (0, .ref 0), (1, .int x1), (2, .int (0))]) (by decide +kernel) (by decide +kernel) (Or.inr (Or.inl rfl)) rfl) ?_
  refine ev_go0 (ev_one_pure (M := (ev_Mof 181)) (pc := 6) (i := .aload_n 0) (len := 1) (pc' := 7) (lv' := [(3, .null), (0, .ref 0), (1, .int x1), (2, .int (0))]) (st' := [.ref 0]) (by decide +kernel) rfl) ?_
  refine ev_go0 (ev_p_getf (M := (ev_Mof 181)) (pc := 7) (x := 48) (ci := 12) (f := 8) (fin := 1) (v := .ref 254) (by decide +kernel) (by decide +kernel) ev_fH0 rfl) ?_
  refine ev_go0 (ev_one_pure (M := (ev_Mof 181)) (pc := 10) (i := .iload_n 2) (len := 1) (pc' := 11) (lv' := [(3, .null), (0, .ref 0), (1, .int x1), (2, .int (0))]) (st' := [.int (0), .ref 254]) (by decide +kernel) rfl) ?_
  refine ev_go0 (ev_p_virt (M := (ev_Mof 181)) (pc := 11) (x := 221) (mi := 1) (na := 1) (by decide +kernel) (by decide +kernel) (by decide +kernel) (by decide +kernel) rfl rfl (ev_recv_of ev_fH254) ev_k234) ?_
  refine ev_go0 (ev_w_astore (M := (ev_Mof 181)) (pc := 14) (k := 4) (lv' := [(4, .ref 263), (3, .null), (0, .ref 0), (1, .int x1), (2, .int (0))]) (by decide +kernel) (by decide +kernel) (Or.inl ⟨_, rfl⟩) rfl) ?_
  refine ev_go0 (ev_one_pure (M := (ev_Mof 181)) (pc := 16) (i := .aload_n 3) (len := 1) (pc' := 17) (lv' := [(4, .ref 263), (3, .null), (0, .ref 0), (1, .int x1), (2, .int (0))]) (st' := [.null]) (by decide +kernel) rfl) ?_
  refine ev_go0 (ev_w_ifnull (M := (ev_Mof 181)) (pc := 17) (o := 8) (t := 25) (by decide +kernel) (Or.inl ⟨rfl, rfl⟩)) ?_
  rfl
theorem ev_k299 (x1 : Int32) (hu_x1 : x1.toInt ≤ (-1 : Int)) {n : Nat} : ev_calld 12 378 [.ref 0, .int x1, .int (0), .ref 723] ev_H0 n = some (.inl (some (.int (1))), ev_H0, n, 1, 6) := by
  refine ev_call_int (k := 8) (pcR := 16) (lv' := [(4, .retAddr 1), (0, .ref 0), (1, .int x1), (2, .int (0)), (3, .ref 723)]) (v := (1)) (ty := .int) (by decide +kernel) rfl ?_ (by decide +kernel) (by decide +kernel) (by decide +kernel) (by decide)
  show ev_stepn _ 8 (0, [(0, .ref 0), (1, .int x1), (2, .int (0)), (3, .ref 723)], [], _, _, 0, 0) = _
  refine ev_go0 (ev_one_pure (M := (ev_Mof 378)) (pc := 0) (i := .aload_n 3) (len := 1) (pc' := 1) (lv' := [(0, .ref 0), (1, .int x1), (2, .int (0)), (3, .ref 723)]) (st' := [.ref 723]) (by decide +kernel) rfl) ?_
  refine ev_go0 (ev_w_iconst (M := (ev_Mof 378)) (pc := 1) (k := 0) (v := 0) (by decide +kernel) (by decide +kernel)) ?_
  refine ev_go0 (ev_one_pure (M := (ev_Mof 378)) (pc := 2) (i := .aload_n 0) (len := 1) (pc' := 3) (lv' := [(0, .ref 0), (1, .int x1), (2, .int (0)), (3, .ref 723)]) (st' := [.ref 0, .int (0), .ref 723]) (by decide +kernel) rfl) ?_
  refine ev_go0 (ev_one_pure (M := (ev_Mof 378)) (pc := 3) (i := .iload_n 1) (len := 1) (pc' := 4) (lv' := [(0, .ref 0), (1, .int x1), (2, .int (0)), (3, .ref 723)]) (st' := [.int x1, .ref 0, .int (0), .ref 723]) (by decide +kernel) rfl) ?_
  refine ev_go0 (ev_one_pure (M := (ev_Mof 378)) (pc := 4) (i := .iload_n 2) (len := 1) (pc' := 5) (lv' := [(0, .ref 0), (1, .int x1), (2, .int (0)), (3, .ref 723)]) (st' := [.int (0), .int x1, .ref 0, .int (0), .ref 723]) (by decide +kernel) rfl) ?_
  refine ev_go (ev_p_virtX (M := (ev_Mof 378)) (pc := 5) (x := 64) (t := 13) (mi := 181) (na := 2) (by decide +kernel) (by decide +kernel) (by decide +kernel) (by decide +kernel) rfl rfl (ev_recv_of ev_fH0) (ev_k298 x1 hu_x1) (by decide +kernel)) ?_
  refine ev_go0 (ev_w_astore (M := (ev_Mof 378)) (pc := 13) (k := 4) (lv' := [(4, .retAddr 1), (0, .ref 0), (1, .int x1), (2, .int (0)), (3, .ref 723)]) (by decide +kernel) (by decide +kernel) (Or.inr (Or.inr ⟨_, rfl⟩)) rfl) ?_
  refine ev_go0 (ev_w_iconst (M := (ev_Mof 378)) (pc := 15) (k := 1) (v := 1) (by decide +kernel) (by decide +kernel)) ?_
  rfl
theorem ev_k300 (x1 : Int32) (hu_x1 : x1.toInt ≤ (-1 : Int)) {n : Nat} : ev_calld 12 334 [.ref 621, .int x1, .int (0)] ev_H0 n = some (.inl (some (.int (0))), (ev_H0.set 621 (.inr (13, (ev_F621.set 0 (.int (1)))))), n, 0, 0) := by
  refine ev_call_int (k := 11) (pcR := 33) (lv' := [(0, .ref 621), (1, .int x1), (2, .int (0))]) (v := (0)) (ty := .int) (by decide +kernel) rfl ?_ (by decide +kernel) (by decide +kernel) (by decide +kernel) (by decide)
  show ev_stepn _ 11 (0, [(0, .ref 621), (1, .int x1), (2, .int (0))], [], _, _, 0, 0) = _
  refine ev_go0 (ev_one_pure (M := (ev_Mof 334)) (pc := 0) (i := .aload_n 0) (len := 1) (pc' := 1) (lv' := [(0, .ref 621), (1, .int x1), (2, .int (0))]) (st' := [.ref 621]) (by decide +kernel) rfl) ?_
  refine ev_go0 (ev_one_pure (M := (ev_Mof 334)) (pc := 1) (i := .aload_n 0) (len := 1) (pc' := 2) (lv' := [(0, .ref 621), (1, .int x1), (2, .int (0))]) (st' := [.ref 621, .ref 621]) (by decide +kernel) rfl) ?_
  refine ev_go0 (ev_one_pure (M := (ev_Mof 334)) (pc := 2) (i := .iload_n 1) (len := 1) (pc' := 3) (lv' := [(0, .ref 621), (1, .int x1), (2, .int (0))]) (st' := [.int x1, .ref 621, .ref 621]) (by decide +kernel) rfl) ?_
  refine ev_go0 (ev_p_virt (M := (ev_Mof 334)) (pc := 3) (x := 531) (mi := 273) (na := 1) (by decide +kernel) (by decide +kernel) (by decide +kernel) (by decide +kernel) rfl rfl (ev_recv_of ev_fH621) (ev_k24 x1 hu_x1)) ?_
  refine ev_go0 (ev_w_if (M := (ev_Mof 334)) (pc := 6) (q := .eq) (o := 15) (b := true) (t := 21) (by decide +kernel) (by decide +kernel) rfl) ?_
  refine ev_go0 (ev_w_iconst (M := (ev_Mof 334)) (pc := 21) (k := 1) (v := 1) (by decide +kernel) (by decide +kernel)) ?_
  refine ev_go0 (ev_p_putf (M := (ev_Mof 334)) (pc := 22) (x := 321) (ci := 13) (f := 0) (by decide +kernel) (by decide +kernel) ev_fH621 rfl (by decide +kernel)) ?_
  refine ev_go0 (ev_one_pure (M := (ev_Mof 334)) (pc := 25) (i := .aload_n 0) (len := 1) (pc' := 26) (lv' := [(0, .ref 621), (1, .int x1), (2, .int (0))]) (st' := [.ref 621]) (by decide +kernel) rfl) ?_
  refine ev_go0 (ev_p_getf (M := (ev_Mof 334)) (pc := 26) (x := 321) (ci := 13) (f := 0) (fin := 0) (v := .int (1)) (by decide +kernel) (by decide +kernel) (ev_hself ev_fH621) rfl) ?_
  refine ev_go0 (ev_w_if (M := (ev_Mof 334)) (pc := 29) (q := .le) (o := 5) (b := false) (t := 32) (by decide +kernel) (by decide +kernel) rfl) ?_
  refine ev_go0 (ev_w_iconst (M := (ev_Mof 334)) (pc := 32) (k := 0) (v := 0) (by decide +kernel) (by decide +kernel)) ?_
  rfl
theorem ev_p1_15_n0 (xs : Nat → Int32) (x1 : Int32) (hu_x1 : x1.toInt ≤ (-1 : Int)) (e1 : xs 1 = x1) (e2 : xs 2 = (0)) : ev_P1 xs 1160 := by
  refine ⟨34, [(6, .int (0)), (5, .int (1)), (4, .int (0)), (3, .ref 723), (2, .ref 621), (1, .ref 0), (0, .retAddr 0)], (ev_H0.set 621 (.inr (13, (ev_F621.set 0 (.int (1)))))), 724, 725, 3553592, ?_, ⟨rfl, rfl, rfl, rfl⟩, rfl, by decide, by decide⟩
  show ev_stepn _ _ (1160, [(4, .int (0)), (3, .ref 723), (2, .ref 621), (1, .ref 0), (0, .retAddr 0)], [], _, _, _, _) = _
  refine ev_go0 (ev_one_pure (M := ev_Mlaw) (pc := 1160) (i := .aload_n 1) (len := 1) (pc' := 1161) (lv' := [(4, .int (0)), (3, .ref 723), (2, .ref 621), (1, .ref 0), (0, .retAddr 0)]) (st' := [.ref 0]) (by decide +kernel) rfl) ?_
  refine ev_go0 (ev_one_pure (M := ev_Mlaw) (pc := 1161) (i := .aload_n 0) (len := 1) (pc' := 1162) (lv' := [(4, .int (0)), (3, .ref 723), (2, .ref 621), (1, .ref 0), (0, .retAddr 0)]) (st' := [.retAddr 0, .ref 0]) (by decide +kernel) rfl) ?_
  refine ev_go0 (ev_one_pure (M := ev_Mlaw) (pc := 1162) (i := .iload 4) (len := 2) (pc' := 1164) (lv' := [(4, .int (0)), (3, .ref 723), (2, .ref 621), (1, .ref 0), (0, .retAddr 0)]) (st' := [.int (0), .retAddr 0, .ref 0]) (by decide +kernel) rfl) ?_
  refine ev_go0 (ev_w_iconst (M := ev_Mlaw) (pc := 1164) (k := 1) (v := 1) (by decide +kernel) (by decide +kernel)) ?_
  refine ev_go0 (ev_w_iadd (M := ev_Mlaw) (pc := 1165) (v := (1)) (by decide +kernel) (by decide +kernel)) ?_
  refine ev_go0 (ev_w_scr (M := ev_Mlaw) (pc := 1166) (v := x1) (j := 1) (by decide +kernel) (by decide +kernel) (by decide +kernel) e1) ?_
  refine ev_go0 (ev_one_pure (M := ev_Mlaw) (pc := 1167) (i := .aload_n 0) (len := 1) (pc' := 1168) (lv' := [(4, .int (0)), (3, .ref 723), (2, .ref 621), (1, .ref 0), (0, .retAddr 0)]) (st' := [.retAddr 0, .int x1, .ref 0]) (by decide +kernel) rfl) ?_
  refine ev_go0 (ev_one_pure (M := ev_Mlaw) (pc := 1168) (i := .iload 4) (len := 2) (pc' := 1170) (lv' := [(4, .int (0)), (3, .ref 723), (2, .ref 621), (1, .ref 0), (0, .retAddr 0)]) (st' := [.int (0), .retAddr 0, .int x1, .ref 0]) (by decide +kernel) rfl) ?_
  refine ev_go0 (ev_w_iconst (M := ev_Mlaw) (pc := 1170) (k := 2) (v := 2) (by decide +kernel) (by decide +kernel)) ?_
  refine ev_go0 (ev_w_iadd (M := ev_Mlaw) (pc := 1171) (v := (2)) (by decide +kernel) (by decide +kernel)) ?_
  refine ev_go0 (ev_w_scr (M := ev_Mlaw) (pc := 1172) (v := (0)) (j := 2) (by decide +kernel) (by decide +kernel) (by decide +kernel) e2) ?_
  refine ev_go0 (ev_one_pure (M := ev_Mlaw) (pc := 1173) (i := .aload_n 3) (len := 1) (pc' := 1174) (lv' := [(4, .int (0)), (3, .ref 723), (2, .ref 621), (1, .ref 0), (0, .retAddr 0)]) (st' := [.ref 723, .int (0), .int x1, .ref 0]) (by decide +kernel) rfl) ?_
  refine ev_go (ev_w_stat (M := ev_Mlaw) (pc := 1174) (y := 182) (kind := 8) (Or.inr (Or.inr rfl)) (mi := 378) (na := 4) (by decide +kernel) (by decide +kernel) (by decide +kernel) (by decide +kernel) rfl rfl (ev_k299 x1 hu_x1)) ?_
  refine ev_go0 (ev_w_istore (M := ev_Mlaw) (pc := 1177) (k := 5) (lv' := [(5, .int (1)), (4, .int (0)), (3, .ref 723), (2, .ref 621), (1, .ref 0), (0, .retAddr 0)]) (by decide +kernel) (by decide +kernel) rfl) ?_
  refine ev_go0 (ev_one_pure (M := ev_Mlaw) (pc := 1179) (i := .aload_n 2) (len := 1) (pc' := 1180) (lv' := [(5, .int (1)), (4, .int (0)), (3, .ref 723), (2, .ref 621), (1, .ref 0), (0, .retAddr 0)]) (st' := [.ref 621]) (by decide +kernel) rfl) ?_
  refine ev_go0 (ev_one_pure (M := ev_Mlaw) (pc := 1180) (i := .aload_n 0) (len := 1) (pc' := 1181) (lv' := [(5, .int (1)), (4, .int (0)), (3, .ref 723), (2, .ref 621), (1, .ref 0), (0, .retAddr 0)]) (st' := [.retAddr 0, .ref 621]) (by decide +kernel) rfl) ?_
  refine ev_go0 (ev_one_pure (M := ev_Mlaw) (pc := 1181) (i := .iload 4) (len := 2) (pc' := 1183) (lv' := [(5, .int (1)), (4, .int (0)), (3, .ref 723), (2, .ref 621), (1, .ref 0), (0, .retAddr 0)]) (st' := [.int (0), .retAddr 0, .ref 621]) (by decide +kernel) rfl) ?_
  refine ev_go0 (ev_w_iconst (M := ev_Mlaw) (pc := 1183) (k := 1) (v := 1) (by decide +kernel) (by decide +kernel)) ?_
  refine ev_go0 (ev_w_iadd (M := ev_Mlaw) (pc := 1184) (v := (1)) (by decide +kernel) (by decide +kernel)) ?_
  refine ev_go0 (ev_w_scr (M := ev_Mlaw) (pc := 1185) (v := x1) (j := 1) (by decide +kernel) (by decide +kernel) (by decide +kernel) e1) ?_
  refine ev_go0 (ev_one_pure (M := ev_Mlaw) (pc := 1186) (i := .aload_n 0) (len := 1) (pc' := 1187) (lv' := [(5, .int (1)), (4, .int (0)), (3, .ref 723), (2, .ref 621), (1, .ref 0), (0, .retAddr 0)]) (st' := [.retAddr 0, .int x1, .ref 621]) (by decide +kernel) rfl) ?_
  refine ev_go0 (ev_one_pure (M := ev_Mlaw) (pc := 1187) (i := .iload 4) (len := 2) (pc' := 1189) (lv' := [(5, .int (1)), (4, .int (0)), (3, .ref 723), (2, .ref 621), (1, .ref 0), (0, .retAddr 0)]) (st' := [.int (0), .retAddr 0, .int x1, .ref 621]) (by decide +kernel) rfl) ?_
  refine ev_go0 (ev_w_iconst (M := ev_Mlaw) (pc := 1189) (k := 2) (v := 2) (by decide +kernel) (by decide +kernel)) ?_
  refine ev_go0 (ev_w_iadd (M := ev_Mlaw) (pc := 1190) (v := (2)) (by decide +kernel) (by decide +kernel)) ?_
  refine ev_go0 (ev_w_scr (M := ev_Mlaw) (pc := 1191) (v := (0)) (j := 2) (by decide +kernel) (by decide +kernel) (by decide +kernel) e2) ?_
  refine ev_go0 (ev_p_virt (M := ev_Mlaw) (pc := 1192) (x := 184) (mi := 334) (na := 2) (by decide +kernel) (by decide +kernel) (by decide +kernel) (by decide +kernel) rfl rfl (ev_recv_of ev_fH621) (ev_k300 x1 hu_x1)) ?_
  refine ev_go0 (ev_w_istore (M := ev_Mlaw) (pc := 1195) (k := 6) (lv' := [(6, .int (0)), (5, .int (1)), (4, .int (0)), (3, .ref 723), (2, .ref 621), (1, .ref 0), (0, .retAddr 0)]) (by decide +kernel) (by decide +kernel) rfl) ?_
  refine ev_go0 (ev_one_pure (M := ev_Mlaw) (pc := 1197) (i := .aload_n 2) (len := 1) (pc' := 1198) (lv' := [(6, .int (0)), (5, .int (1)), (4, .int (0)), (3, .ref 723), (2, .ref 621), (1, .ref 0), (0, .retAddr 0)]) (st' := [.ref 621]) (by decide +kernel) rfl) ?_
  refine ev_go0 (ev_p_virt (M := ev_Mlaw) (pc := 1198) (x := 131) (mi := 220) (na := 0) (by decide +kernel) (by decide +kernel) (by decide +kernel) (by decide +kernel) rfl rfl (ev_recv_of (ev_hself ev_fH621)) ev_k26) ?_
  refine ev_go0 (ev_one_pure (M := ev_Mlaw) (pc := 1201) (i := .iload 5) (len := 2) (pc' := 1203) (lv' := [(6, .int (0)), (5, .int (1)), (4, .int (0)), (3, .ref 723), (2, .ref 621), (1, .ref 0), (0, .retAddr 0)]) (st' := [.int (1), .int (1)]) (by decide +kernel) rfl) ?_
  refine ev_go0 (ev_w_icmp (M := ev_Mlaw) (pc := 1203) (q := .eq) (o := 5) (b := true) (t := 1208) (by decide +kernel) (by decide +kernel) rfl) ?_
  refine ev_go0 (ev_one_pure (M := ev_Mlaw) (pc := 1208) (i := .iload 5) (len := 2) (pc' := 1210) (lv' := [(6, .int (0)), (5, .int (1)), (4, .int (0)), (3, .ref 723), (2, .ref 621), (1, .ref 0), (0, .retAddr 0)]) (st' := [.int (1)]) (by decide +kernel) rfl) ?_
  refine ev_go0 (ev_w_if (M := ev_Mlaw) (pc := 1210) (q := .ne) (o := 15) (b := true) (t := 1225) (by decide +kernel) (by decide +kernel) rfl) ?_
  refine ev_go0 (ev_one_pure (M := ev_Mlaw) (pc := 1225) (i := .goto 1047) (len := 3) (pc' := 2272) (lv' := [(6, .int (0)), (5, .int (1)), (4, .int (0)), (3, .ref 723), (2, .ref 621), (1, .ref 0), (0, .retAddr 0)]) (st' := []) (by decide +kernel) rfl) ?_
  rfl
theorem ev_k301 (x1 : Int32) (hu_x1 : x1.toInt ≤ (-1 : Int)) {n : Nat} : ev_calld 11 181 [.ref 0, .int x1, .int (1)] ev_H0 n = some (.inr "java/lang/IndexOutOfBoundsException", ev_H0, n, 1, 6) := by
  refine ev_call_thrown (k := 11) (pcR := 25) (x := 160) (lv' := [(4, .ref 265), (3, .null), (0, .ref 0), (1, .int x1), (2, .int (1))]) (by decide +kernel) rfl ?_ (by decide +kernel) (by decide +kernel) (by decide +kernel) (by decide) (by decide)
  show ev_stepn _ 11 (0, [(0, .ref 0), (1, .int x1), (2, .int (1))], [], _, _, 0, 0) = _
  refine ev_go0 (ev_one_pure (M := (ev_Mof 181)) (pc := 0) (i := .aload_n 0) (len := 1) (pc' := 1) (lv' := [(0, .ref 0), (1, .int x1), (2, .int (1))]) (st' := [.ref 0]) (by decide +kernel) rfl) ?_
  refine ev_go0 (ev_one_pure (M := (ev_Mof 181)) (pc := 1) (i := .iload_n 1) (len := 1) (pc' := 2) (lv' := [(0, .ref 0), (1, .int x1), (2, .int (1))]) (st' := [.int x1, .ref 0]) (by decide +kernel) rfl) ?_
  refine ev_go0 (ev_p_virt (M := (ev_Mof 181)) (pc := 2) (x := 156) (mi := 200) (na := 1) (by decide +kernel) (by decide +kernel) (by decide +kernel) (by decide +kernel) rfl rfl (ev_recv_of ev_fH0) (ev_k1 x1 hu_x1)) ?_
  refine ev_go0 (ev_w_astore_n (M := (ev_Mof 181)) (pc := 5) (k := 3) (lv' := [(3, .null), (0, .ref 0), (1, .int x1), (2, .int (1))]) (by decide +kernel) (by decide +kernel) (Or.inr (Or.inl rfl)) rfl) ?_
  refine ev_go0 (ev_one_pure (M := (ev_Mof 181)) (pc := 6) (i := .aload_n 0) (len := 1) (pc' := 7) (lv' := [(3, .null), (0, .ref 0), (1, .int x1), (2, .int (1))]) (st' := [.ref 0]) (by decide +kernel) rfl) ?_
  refine ev_go0 (ev_p_getf (M := (ev_Mof 181)) (pc := 7) (x := 48) (ci := 12) (f := 8) (fin := 1) (v := .ref 254) (by decide +kernel) (by decide +kernel) ev_fH0 rfl) ?_
  refine ev_go0 (ev_one_pure (M := (ev_Mof 181)) (pc := 10) (i := .iload_n 2) (len := 1) (pc' := 11) (lv' := [(3, .null), (0, .ref 0), (1, .int x1), (2, .int (1))]) (st' := [.int (1), .ref 254]) (by decide +kernel) rfl) ?_
  refine ev_go0 (ev_p_virt (M := (ev_Mof 181)) (pc := 11) (x := 221) (mi := 1) (na := 1) (by decide +kernel) (by decide +kernel) (by decide +kernel) (by decide +kernel) rfl rfl (ev_recv_of ev_fH254) ev_k238) ?_
  refine ev_go0 (ev_w_astore (M := (ev_Mof 181)) (pc := 14) (k := 4) (lv' := [(4, .ref 265), (3, .null), (0, .ref 0), (1, .int x1), (2, .int (1))]) (by decide +kernel) (by decide +kernel) (Or.inl ⟨_, rfl⟩) rfl) ?_
  refine ev_go0 (ev_one_pure (M := (ev_Mof 181)) (pc := 16) (i := .aload_n 3) (len := 1) (pc' := 17) (lv' := [(4, .ref 265), (3, .null), (0, .ref 0), (1, .int x1), (2, .int (1))]) (st' := [.null]) (by decide +kernel) rfl) ?_
  refine ev_go0 (ev_w_ifnull (M := (ev_Mof 181)) (pc := 17) (o := 8) (t := 25) (by decide +kernel) (Or.inl ⟨rfl, rfl⟩)) ?_
  rfl
theorem ev_k302 (x1 : Int32) (hu_x1 : x1.toInt ≤ (-1 : Int)) {n : Nat} : ev_calld 12 378 [.ref 0, .int x1, .int (1), .ref 723] ev_H0 n = some (.inl (some (.int (1))), ev_H0, n, 1, 6) := by
  refine ev_call_int (k := 8) (pcR := 16) (lv' := [(4, .retAddr 1), (0, .ref 0), (1, .int x1), (2, .int (1)), (3, .ref 723)]) (v := (1)) (ty := .int) (by decide +kernel) rfl ?_ (by decide +kernel) (by decide +kernel) (by decide +kernel) (by decide)
  show ev_stepn _ 8 (0, [(0, .ref 0), (1, .int x1), (2, .int (1)), (3, .ref 723)], [], _, _, 0, 0) = _
  refine ev_go0 (ev_one_pure (M := (ev_Mof 378)) (pc := 0) (i := .aload_n 3) (len := 1) (pc' := 1) (lv' := [(0, .ref 0), (1, .int x1), (2, .int (1)), (3, .ref 723)]) (st' := [.ref 723]) (by decide +kernel) rfl) ?_
  refine ev_go0 (ev_w_iconst (M := (ev_Mof 378)) (pc := 1) (k := 0) (v := 0) (by decide +kernel) (by decide +kernel)) ?_
  refine ev_go0 (ev_one_pure (M := (ev_Mof 378)) (pc := 2) (i := .aload_n 0) (len := 1) (pc' := 3) (lv' := [(0, .ref 0), (1, .int x1), (2, .int (1)), (3, .ref 723)]) (st' := [.ref 0, .int (0), .ref 723]) (by decide +kernel) rfl) ?_
  refine ev_go0 (ev_one_pure (M := (ev_Mof 378)) (pc := 3) (i := .iload_n 1) (len := 1) (pc' := 4) (lv' := [(0, .ref 0), (1, .int x1), (2, .int (1)), (3, .ref 723)]) (st' := [.int x1, .ref 0, .int (0), .ref 723]) (by decide +kernel) rfl) ?_
  refine ev_go0 (ev_one_pure (M := (ev_Mof 378)) (pc := 4) (i := .iload_n 2) (len := 1) (pc' := 5) (lv' := [(0, .ref 0), (1, .int x1), (2, .int (1)), (3, .ref 723)]) (st' := [.int (1), .int x1, .ref 0, .int (0), .ref 723]) (by decide +kernel) rfl) ?_
  refine ev_go (ev_p_virtX (M := (ev_Mof 378)) (pc := 5) (x := 64) (t := 13) (mi := 181) (na := 2) (by decide +kernel) (by decide +kernel) (by decide +kernel) (by decide +kernel) rfl rfl (ev_recv_of ev_fH0) (ev_k301 x1 hu_x1) (by decide +kernel)) ?_
  refine ev_go0 (ev_w_astore (M := (ev_Mof 378)) (pc := 13) (k := 4) (lv' := [(4, .retAddr 1), (0, .ref 0), (1, .int x1), (2, .int (1)), (3, .ref 723)]) (by decide +kernel) (by decide +kernel) (Or.inr (Or.inr ⟨_, rfl⟩)) rfl) ?_
  refine ev_go0 (ev_w_iconst (M := (ev_Mof 378)) (pc := 15) (k := 1) (v := 1) (by decide +kernel) (by decide +kernel)) ?_
  rfl
theorem ev_k303 (x1 : Int32) (hu_x1 : x1.toInt ≤ (-1 : Int)) {n : Nat} : ev_calld 12 334 [.ref 621, .int x1, .int (1)] ev_H0 n = some (.inl (some (.int (0))), (ev_H0.set 621 (.inr (13, (ev_F621.set 0 (.int (1)))))), n, 0, 0) := by
  refine ev_call_int (k := 11) (pcR := 33) (lv' := [(0, .ref 621), (1, .int x1), (2, .int (1))]) (v := (0)) (ty := .int) (by decide +kernel) rfl ?_ (by decide +kernel) (by decide +kernel) (by decide +kernel) (by decide)
  show ev_stepn _ 11 (0, [(0, .ref 621), (1, .int x1), (2, .int (1))], [], _, _, 0, 0) = _
  refine ev_go0 (ev_one_pure (M := (ev_Mof 334)) (pc := 0) (i := .aload_n 0) (len := 1) (pc' := 1) (lv' := [(0, .ref 621), (1, .int x1), (2, .int (1))]) (st' := [.ref 621]) (by decide +kernel) rfl) ?_
  refine ev_go0 (ev_one_pure (M := (ev_Mof 334)) (pc := 1) (i := .aload_n 0) (len := 1) (pc' := 2) (lv' := [(0, .ref 621), (1, .int x1), (2, .int (1))]) (st' := [.ref 621, .ref 621]) (by decide +kernel) rfl) ?_
  refine ev_go0 (ev_one_pure (M := (ev_Mof 334)) (pc := 2) (i := .iload_n 1) (len := 1) (pc' := 3) (lv' := [(0, .ref 621), (1, .int x1), (2, .int (1))]) (st' := [.int x1, .ref 621, .ref 621]) (by decide +kernel) rfl) ?_
  refine ev_go0 (ev_p_virt (M := (ev_Mof 334)) (pc := 3) (x := 531) (mi := 273) (na := 1) (by decide +kernel) (by decide +kernel) (by decide +kernel) (by decide +kernel) rfl rfl (ev_recv_of ev_fH621) (ev_k24 x1 hu_x1)) ?_
  refine ev_go0 (ev_w_if (M := (ev_Mof 334)) (pc := 6) (q := .eq) (o := 15) (b := true) (t := 21) (by decide +kernel) (by decide +kernel) rfl) ?_
  refine ev_go0 (ev_w_iconst (M := (ev_Mof 334)) (pc := 21) (k := 1) (v := 1) (by decide +kernel) (by decide +kernel)) ?_
  refine ev_go0 (ev_p_putf (M := (ev_Mof 334)) (pc := 22) (x := 321) (ci := 13) (f := 0) (by decide +kernel) (by decide +kernel) ev_fH621 rfl (by decide +kernel)) ?_
  refine ev_go0 (ev_one_pure (M := (ev_Mof 334)) (pc := 25) (i := .aload_n 0) (len := 1) (pc' := 26) (lv' := [(0, .ref 621), (1, .int x1), (2, .int (1))]) (st' := [.ref 621]) (by decide +kernel) rfl) ?_
  refine ev_go0 (ev_p_getf (M := (ev_Mof 334)) (pc := 26) (x := 321) (ci := 13) (f := 0) (fin := 0) (v := .int (1)) (by decide +kernel) (by decide +kernel) (ev_hself ev_fH621) rfl) ?_
  refine ev_go0 (ev_w_if (M := (ev_Mof 334)) (pc := 29) (q := .le) (o := 5) (b := false) (t := 32) (by decide +kernel) (by decide +kernel) rfl) ?_
  refine ev_go0 (ev_w_iconst (M := (ev_Mof 334)) (pc := 32) (k := 0) (v := 0) (by decide +kernel) (by decide +kernel)) ?_
  rfl
theorem ev_p1_15_n1 (xs : Nat → Int32) (x1 : Int32) (hu_x1 : x1.toInt ≤ (-1 : Int)) (e1 : xs 1 = x1) (e2 : xs 2 = (1)) : ev_P1 xs 1160 := by
  refine ⟨34, [(6, .int (0)), (5, .int (1)), (4, .int (0)), (3, .ref 723), (2, .ref 621), (1, .ref 0), (0, .retAddr 0)], (ev_H0.set 621 (.inr (13, (ev_F621.set 0 (.int (1)))))), 724, 725, 3553592, ?_, ⟨rfl, rfl, rfl, rfl⟩, rfl, by decide, by decide⟩
  show ev_stepn _ _ (1160, [(4, .int (0)), (3, .ref 723), (2, .ref 621), (1, .ref 0), (0, .retAddr 0)], [], _, _, _, _) = _
  refine ev_go0 (ev_one_pure (M := ev_Mlaw) (pc := 1160) (i := .aload_n 1) (len := 1) (pc' := 1161) (lv' := [(4, .int (0)), (3, .ref 723), (2, .ref 621), (1, .ref 0), (0, .retAddr 0)]) (st' := [.ref 0]) (by decide +kernel) rfl) ?_
  refine ev_go0 (ev_one_pure (M := ev_Mlaw) (pc := 1161) (i := .aload_n 0) (len := 1) (pc' := 1162) (lv' := [(4, .int (0)), (3, .ref 723), (2, .ref 621), (1, .ref 0), (0, .retAddr 0)]) (st' := [.retAddr 0, .ref 0]) (by decide +kernel) rfl) ?_
  refine ev_go0 (ev_one_pure (M := ev_Mlaw) (pc := 1162) (i := .iload 4) (len := 2) (pc' := 1164) (lv' := [(4, .int (0)), (3, .ref 723), (2, .ref 621), (1, .ref 0), (0, .retAddr 0)]) (st' := [.int (0), .retAddr 0, .ref 0]) (by decide +kernel) rfl) ?_
  refine ev_go0 (ev_w_iconst (M := ev_Mlaw) (pc := 1164) (k := 1) (v := 1) (by decide +kernel) (by decide +kernel)) ?_
  refine ev_go0 (ev_w_iadd (M := ev_Mlaw) (pc := 1165) (v := (1)) (by decide +kernel) (by decide +kernel)) ?_
  refine ev_go0 (ev_w_scr (M := ev_Mlaw) (pc := 1166) (v := x1) (j := 1) (by decide +kernel) (by decide +kernel) (by decide +kernel) e1) ?_
  refine ev_go0 (ev_one_pure (M := ev_Mlaw) (pc := 1167) (i := .aload_n 0) (len := 1) (pc' := 1168) (lv' := [(4, .int (0)), (3, .ref 723), (2, .ref 621), (1, .ref 0), (0, .retAddr 0)]) (st' := [.retAddr 0, .int x1, .ref 0]) (by decide +kernel) rfl) ?_
  refine ev_go0 (ev_one_pure (M := ev_Mlaw) (pc := 1168) (i := .iload 4) (len := 2) (pc' := 1170) (lv' := [(4, .int (0)), (3, .ref 723), (2, .ref 621), (1, .ref 0), (0, .retAddr 0)]) (st' := [.int (0), .retAddr 0, .int x1, .ref 0]) (by decide +kernel) rfl) ?_
  refine ev_go0 (ev_w_iconst (M := ev_Mlaw) (pc := 1170) (k := 2) (v := 2) (by decide +kernel) (by decide +kernel)) ?_
  refine ev_go0 (ev_w_iadd (M := ev_Mlaw) (pc := 1171) (v := (2)) (by decide +kernel) (by decide +kernel)) ?_
  refine ev_go0 (ev_w_scr (M := ev_Mlaw) (pc := 1172) (v := (1)) (j := 2) (by decide +kernel) (by decide +kernel) (by decide +kernel) e2) ?_
  refine ev_go0 (ev_one_pure (M := ev_Mlaw) (pc := 1173) (i := .aload_n 3) (len := 1) (pc' := 1174) (lv' := [(4, .int (0)), (3, .ref 723), (2, .ref 621), (1, .ref 0), (0, .retAddr 0)]) (st' := [.ref 723, .int (1), .int x1, .ref 0]) (by decide +kernel) rfl) ?_
  refine ev_go (ev_w_stat (M := ev_Mlaw) (pc := 1174) (y := 182) (kind := 8) (Or.inr (Or.inr rfl)) (mi := 378) (na := 4) (by decide +kernel) (by decide +kernel) (by decide +kernel) (by decide +kernel) rfl rfl (ev_k302 x1 hu_x1)) ?_
  refine ev_go0 (ev_w_istore (M := ev_Mlaw) (pc := 1177) (k := 5) (lv' := [(5, .int (1)), (4, .int (0)), (3, .ref 723), (2, .ref 621), (1, .ref 0), (0, .retAddr 0)]) (by decide +kernel) (by decide +kernel) rfl) ?_
  refine ev_go0 (ev_one_pure (M := ev_Mlaw) (pc := 1179) (i := .aload_n 2) (len := 1) (pc' := 1180) (lv' := [(5, .int (1)), (4, .int (0)), (3, .ref 723), (2, .ref 621), (1, .ref 0), (0, .retAddr 0)]) (st' := [.ref 621]) (by decide +kernel) rfl) ?_
  refine ev_go0 (ev_one_pure (M := ev_Mlaw) (pc := 1180) (i := .aload_n 0) (len := 1) (pc' := 1181) (lv' := [(5, .int (1)), (4, .int (0)), (3, .ref 723), (2, .ref 621), (1, .ref 0), (0, .retAddr 0)]) (st' := [.retAddr 0, .ref 621]) (by decide +kernel) rfl) ?_
  refine ev_go0 (ev_one_pure (M := ev_Mlaw) (pc := 1181) (i := .iload 4) (len := 2) (pc' := 1183) (lv' := [(5, .int (1)), (4, .int (0)), (3, .ref 723), (2, .ref 621), (1, .ref 0), (0, .retAddr 0)]) (st' := [.int (0), .retAddr 0, .ref 621]) (by decide +kernel) rfl) ?_
  refine ev_go0 (ev_w_iconst (M := ev_Mlaw) (pc := 1183) (k := 1) (v := 1) (by decide +kernel) (by decide +kernel)) ?_
  refine ev_go0 (ev_w_iadd (M := ev_Mlaw) (pc := 1184) (v := (1)) (by decide +kernel) (by decide +kernel)) ?_
  refine ev_go0 (ev_w_scr (M := ev_Mlaw) (pc := 1185) (v := x1) (j := 1) (by decide +kernel) (by decide +kernel) (by decide +kernel) e1) ?_
  refine ev_go0 (ev_one_pure (M := ev_Mlaw) (pc := 1186) (i := .aload_n 0) (len := 1) (pc' := 1187) (lv' := [(5, .int (1)), (4, .int (0)), (3, .ref 723), (2, .ref 621), (1, .ref 0), (0, .retAddr 0)]) (st' := [.retAddr 0, .int x1, .ref 621]) (by decide +kernel) rfl) ?_
  refine ev_go0 (ev_one_pure (M := ev_Mlaw) (pc := 1187) (i := .iload 4) (len := 2) (pc' := 1189) (lv' := [(5, .int (1)), (4, .int (0)), (3, .ref 723), (2, .ref 621), (1, .ref 0), (0, .retAddr 0)]) (st' := [.int (0), .retAddr 0, .int x1, .ref 621]) (by decide +kernel) rfl) ?_
  refine ev_go0 (ev_w_iconst (M := ev_Mlaw) (pc := 1189) (k := 2) (v := 2) (by decide +kernel) (by decide +kernel)) ?_
  refine ev_go0 (ev_w_iadd (M := ev_Mlaw) (pc := 1190) (v := (2)) (by decide +kernel) (by decide +kernel)) ?_
  refine ev_go0 (ev_w_scr (M := ev_Mlaw) (pc := 1191) (v := (1)) (j := 2) (by decide +kernel) (by decide +kernel) (by decide +kernel) e2) ?_
  refine ev_go0 (ev_p_virt (M := ev_Mlaw) (pc := 1192) (x := 184) (mi := 334) (na := 2) (by decide +kernel) (by decide +kernel) (by decide +kernel) (by decide +kernel) rfl rfl (ev_recv_of ev_fH621) (ev_k303 x1 hu_x1)) ?_
  refine ev_go0 (ev_w_istore (M := ev_Mlaw) (pc := 1195) (k := 6) (lv' := [(6, .int (0)), (5, .int (1)), (4, .int (0)), (3, .ref 723), (2, .ref 621), (1, .ref 0), (0, .retAddr 0)]) (by decide +kernel) (by decide +kernel) rfl) ?_
  refine ev_go0 (ev_one_pure (M := ev_Mlaw) (pc := 1197) (i := .aload_n 2) (len := 1) (pc' := 1198) (lv' := [(6, .int (0)), (5, .int (1)), (4, .int (0)), (3, .ref 723), (2, .ref 621), (1, .ref 0), (0, .retAddr 0)]) (st' := [.ref 621]) (by decide +kernel) rfl) ?_
  refine ev_go0 (ev_p_virt (M := ev_Mlaw) (pc := 1198) (x := 131) (mi := 220) (na := 0) (by decide +kernel) (by decide +kernel) (by decide +kernel) (by decide +kernel) rfl rfl (ev_recv_of (ev_hself ev_fH621)) ev_k26) ?_
  refine ev_go0 (ev_one_pure (M := ev_Mlaw) (pc := 1201) (i := .iload 5) (len := 2) (pc' := 1203) (lv' := [(6, .int (0)), (5, .int (1)), (4, .int (0)), (3, .ref 723), (2, .ref 621), (1, .ref 0), (0, .retAddr 0)]) (st' := [.int (1), .int (1)]) (by decide +kernel) rfl) ?_
  refine ev_go0 (ev_w_icmp (M := ev_Mlaw) (pc := 1203) (q := .eq) (o := 5) (b := true) (t := 1208) (by decide +kernel) (by decide +kernel) rfl) ?_
  refine ev_go0 (ev_one_pure (M := ev_Mlaw) (pc := 1208) (i := .iload 5) (len := 2) (pc' := 1210) (lv' := [(6, .int (0)), (5, .int (1)), (4, .int (0)), (3, .ref 723), (2, .ref 621), (1, .ref 0), (0, .retAddr 0)]) (st' := [.int (1)]) (by decide +kernel) rfl) ?_
  refine ev_go0 (ev_w_if (M := ev_Mlaw) (pc := 1210) (q := .ne) (o := 15) (b := true) (t := 1225) (by decide +kernel) (by decide +kernel) rfl) ?_
  refine ev_go0 (ev_one_pure (M := ev_Mlaw) (pc := 1225) (i := .goto 1047) (len := 3) (pc' := 2272) (lv' := [(6, .int (0)), (5, .int (1)), (4, .int (0)), (3, .ref 723), (2, .ref 621), (1, .ref 0), (0, .retAddr 0)]) (st' := []) (by decide +kernel) rfl) ?_
  rfl
theorem ev_k304 (x1 : Int32) (hu_x1 : x1.toInt ≤ (-1 : Int)) {n : Nat} : ev_calld 11 181 [.ref 0, .int x1, .int (2)] ev_H0 n = some (.inr "java/lang/IndexOutOfBoundsException", ev_H0, n, 1, 6) := by
  refine ev_call_thrown (k := 11) (pcR := 25) (x := 160) (lv' := [(4, .ref 267), (3, .null), (0, .ref 0), (1, .int x1), (2, .int (2))]) (by decide +kernel) rfl ?_ (by decide +kernel) (by decide +kernel) (by decide +kernel) (by decide) (by decide)
  show ev_stepn _ 11 (0, [(0, .ref 0), (1, .int x1), (2, .int (2))], [], _, _, 0, 0) = _
  refine ev_go0 (ev_one_pure (M := (ev_Mof 181)) (pc := 0) (i := .aload_n 0) (len := 1) (pc' := 1) (lv' := [(0, .ref 0), (1, .int x1), (2, .int (2))]) (st' := [.ref 0]) (by decide +kernel) rfl) ?_
  refine ev_go0 (ev_one_pure (M := (ev_Mof 181)) (pc := 1) (i := .iload_n 1) (len := 1) (pc' := 2) (lv' := [(0, .ref 0), (1, .int x1), (2, .int (2))]) (st' := [.int x1, .ref 0]) (by decide +kernel) rfl) ?_
  refine ev_go0 (ev_p_virt (M := (ev_Mof 181)) (pc := 2) (x := 156) (mi := 200) (na := 1) (by decide +kernel) (by decide +kernel) (by decide +kernel) (by decide +kernel) rfl rfl (ev_recv_of ev_fH0) (ev_k1 x1 hu_x1)) ?_
  refine ev_go0 (ev_w_astore_n (M := (ev_Mof 181)) (pc := 5) (k := 3) (lv' := [(3, .null), (0, .ref 0), (1, .int x1), (2, .int (2))]) (by decide +kernel) (by decide +kernel) (Or.inr (Or.inl rfl)) rfl) ?_
  refine ev_go0 (ev_one_pure (M := (ev_Mof 181)) (pc := 6) (i := .aload_n 0) (len := 1) (pc' := 7) (lv' := [(3, .null), (0, .ref 0), (1, .int x1), (2, .int (2))]) (st' := [.ref 0]) (by decide +kernel) rfl) ?_
  refine ev_go0 (ev_p_getf (M := (ev_Mof 181)) (pc := 7) (x := 48) (ci := 12) (f := 8) (fin := 1) (v := .ref 254) (by decide +kernel) (by decide +kernel) ev_fH0 rfl) ?_
  refine ev_go0 (ev_one_pure (M := (ev_Mof 181)) (pc := 10) (i := .iload_n 2) (len := 1) (pc' := 11) (lv' := [(3, .null), (0, .ref 0), (1, .int x1), (2, .int (2))]) (st' := [.int (2), .ref 254]) (by decide +kernel) rfl) ?_
  refine ev_go0 (ev_p_virt (M := (ev_Mof 181)) (pc := 11) (x := 221) (mi := 1) (na := 1) (by decide +kernel) (by decide +kernel) (by decide +kernel) (by decide +kernel) rfl rfl (ev_recv_of ev_fH254) ev_k242) ?_
  refine ev_go0 (ev_w_astore (M := (ev_Mof 181)) (pc := 14) (k := 4) (lv' := [(4, .ref 267), (3, .null), (0, .ref 0), (1, .int x1), (2, .int (2))]) (by decide +kernel) (by decide +kernel) (Or.inl ⟨_, rfl⟩) rfl) ?_
  refine ev_go0 (ev_one_pure (M := (ev_Mof 181)) (pc := 16) (i := .aload_n 3) (len := 1) (pc' := 17) (lv' := [(4, .ref 267), (3, .null), (0, .ref 0), (1, .int x1), (2, .int (2))]) (st' := [.null]) (by decide +kernel) rfl) ?_
  refine ev_go0 (ev_w_ifnull (M := (ev_Mof 181)) (pc := 17) (o := 8) (t := 25) (by decide +kernel) (Or.inl ⟨rfl, rfl⟩)) ?_
  rfl
theorem ev_k305 (x1 : Int32) (hu_x1 : x1.toInt ≤ (-1 : Int)) {n : Nat} : ev_calld 12 378 [.ref 0, .int x1, .int (2), .ref 723] ev_H0 n = some (.inl (some (.int (1))), ev_H0, n, 1, 6) := by
  refine ev_call_int (k := 8) (pcR := 16) (lv' := [(4, .retAddr 1), (0, .ref 0), (1, .int x1), (2, .int (2)), (3, .ref 723)]) (v := (1)) (ty := .int) (by decide +kernel) rfl ?_ (by decide +kernel) (by decide +kernel) (by decide +kernel) (by decide)
  show ev_stepn _ 8 (0, [(0, .ref 0), (1, .int x1), (2, .int (2)), (3, .ref 723)], [], _, _, 0, 0) = _
  refine ev_go0 (ev_one_pure (M := (ev_Mof 378)) (pc := 0) (i := .aload_n 3) (len := 1) (pc' := 1) (lv' := [(0, .ref 0), (1, .int x1), (2, .int (2)), (3, .ref 723)]) (st' := [.ref 723]) (by decide +kernel) rfl) ?_
  refine ev_go0 (ev_w_iconst (M := (ev_Mof 378)) (pc := 1) (k := 0) (v := 0) (by decide +kernel) (by decide +kernel)) ?_
  refine ev_go0 (ev_one_pure (M := (ev_Mof 378)) (pc := 2) (i := .aload_n 0) (len := 1) (pc' := 3) (lv' := [(0, .ref 0), (1, .int x1), (2, .int (2)), (3, .ref 723)]) (st' := [.ref 0, .int (0), .ref 723]) (by decide +kernel) rfl) ?_
  refine ev_go0 (ev_one_pure (M := (ev_Mof 378)) (pc := 3) (i := .iload_n 1) (len := 1) (pc' := 4) (lv' := [(0, .ref 0), (1, .int x1), (2, .int (2)), (3, .ref 723)]) (st' := [.int x1, .ref 0, .int (0), .ref 723]) (by decide +kernel) rfl) ?_
  refine ev_go0 (ev_one_pure (M := (ev_Mof 378)) (pc := 4) (i := .iload_n 2) (len := 1) (pc' := 5) (lv' := [(0, .ref 0), (1, .int x1), (2, .int (2)), (3, .ref 723)]) (st' := [.int (2), .int x1, .ref 0, .int (0), .ref 723]) (by decide +kernel) rfl) ?_
  refine ev_go (ev_p_virtX (M := (ev_Mof 378)) (pc := 5) (x := 64) (t := 13) (mi := 181) (na := 2) (by decide +kernel) (by decide +kernel) (by decide +kernel) (by decide +kernel) rfl rfl (ev_recv_of ev_fH0) (ev_k304 x1 hu_x1) (by decide +kernel)) ?_
  refine ev_go0 (ev_w_astore (M := (ev_Mof 378)) (pc := 13) (k := 4) (lv' := [(4, .retAddr 1), (0, .ref 0), (1, .int x1), (2, .int (2)), (3, .ref 723)]) (by decide +kernel) (by decide +kernel) (Or.inr (Or.inr ⟨_, rfl⟩)) rfl) ?_
  refine ev_go0 (ev_w_iconst (M := (ev_Mof 378)) (pc := 15) (k := 1) (v := 1) (by decide +kernel) (by decide +kernel)) ?_
  rfl
theorem ev_k306 (x1 : Int32) (hu_x1 : x1.toInt ≤ (-1 : Int)) {n : Nat} : ev_calld 12 334 [.ref 621, .int x1, .int (2)] ev_H0 n = some (.inl (some (.int (0))), (ev_H0.set 621 (.inr (13, (ev_F621.set 0 (.int (1)))))), n, 0, 0) := by
  refine ev_call_int (k := 11) (pcR := 33) (lv' := [(0, .ref 621), (1, .int x1), (2, .int (2))]) (v := (0)) (ty := .int) (by decide +kernel) rfl ?_ (by decide +kernel) (by decide +kernel) (by decide +kernel) (by decide)
  show ev_stepn _ 11 (0, [(0, .ref 621), (1, .int x1), (2, .int (2))], [], _, _, 0, 0) = _
  refine ev_go0 (ev_one_pure (M := (ev_Mof 334)) (pc := 0) (i := .aload_n 0) (len := 1) (pc' := 1) (lv' := [(0, .ref 621), (1, .int x1), (2, .int (2))]) (st' := [.ref 621]) (by decide +kernel) rfl) ?_
  refine ev_go0 (ev_one_pure (M := (ev_Mof 334)) (pc := 1) (i := .aload_n 0) (len := 1) (pc' := 2) (lv' := [(0, .ref 621), (1, .int x1), (2, .int (2))]) (st' := [.ref 621, .ref 621]) (by decide +kernel) rfl) ?_
  refine ev_go0 (ev_one_pure (M := (ev_Mof 334)) (pc := 2) (i := .iload_n 1) (len := 1) (pc' := 3) (lv' := [(0, .ref 621), (1, .int x1), (2, .int (2))]) (st' := [.int x1, .ref 621, .ref 621]) (by decide +kernel) rfl) ?_
  refine ev_go0 (ev_p_virt (M := (ev_Mof 334)) (pc := 3) (x := 531) (mi := 273) (na := 1) (by decide +kernel) (by decide +kernel) (by decide +kernel) (by decide +kernel) rfl rfl (ev_recv_of ev_fH621) (ev_k24 x1 hu_x1)) ?_
  refine ev_go0 (ev_w_if (M := (ev_Mof 334)) (pc := 6) (q := .eq) (o := 15) (b := true) (t := 21) (by decide +kernel) (by decide +kernel) rfl) ?_
  refine ev_go0 (ev_w_iconst (M := (ev_Mof 334)) (pc := 21) (k := 1) (v := 1) (by decide +kernel) (by decide +kernel)) ?_
  refine ev_go0 (ev_p_putf (M := (ev_Mof 334)) (pc := 22) (x := 321) (ci := 13) (f := 0) (by decide +kernel) (by decide +kernel) ev_fH621 rfl (by decide +kernel)) ?_
  refine ev_go0 (ev_one_pure (M := (ev_Mof 334)) (pc := 25) (i := .aload_n 0) (len := 1) (pc' := 26) (lv' := [(0, .ref 621), (1, .int x1), (2, .int (2))]) (st' := [.ref 621]) (by decide +kernel) rfl) ?_
  refine ev_go0 (ev_p_getf (M := (ev_Mof 334)) (pc := 26) (x := 321) (ci := 13) (f := 0) (fin := 0) (v := .int (1)) (by decide +kernel) (by decide +kernel) (ev_hself ev_fH621) rfl) ?_
  refine ev_go0 (ev_w_if (M := (ev_Mof 334)) (pc := 29) (q := .le) (o := 5) (b := false) (t := 32) (by decide +kernel) (by decide +kernel) rfl) ?_
  refine ev_go0 (ev_w_iconst (M := (ev_Mof 334)) (pc := 32) (k := 0) (v := 0) (by decide +kernel) (by decide +kernel)) ?_
  rfl
theorem ev_p1_15_n2 (xs : Nat → Int32) (x1 : Int32) (hu_x1 : x1.toInt ≤ (-1 : Int)) (e1 : xs 1 = x1) (e2 : xs 2 = (2)) : ev_P1 xs 1160 := by
  refine ⟨34, [(6, .int (0)), (5, .int (1)), (4, .int (0)), (3, .ref 723), (2, .ref 621), (1, .ref 0), (0, .retAddr 0)], (ev_H0.set 621 (.inr (13, (ev_F621.set 0 (.int (1)))))), 724, 725, 3553592, ?_, ⟨rfl, rfl, rfl, rfl⟩, rfl, by decide, by decide⟩
  show ev_stepn _ _ (1160, [(4, .int (0)), (3, .ref 723), (2, .ref 621), (1, .ref 0), (0, .retAddr 0)], [], _, _, _, _) = _
  refine ev_go0 (ev_one_pure (M := ev_Mlaw) (pc := 1160) (i := .aload_n 1) (len := 1) (pc' := 1161) (lv' := [(4, .int (0)), (3, .ref 723), (2, .ref 621), (1, .ref 0), (0, .retAddr 0)]) (st' := [.ref 0]) (by decide +kernel) rfl) ?_
  refine ev_go0 (ev_one_pure (M := ev_Mlaw) (pc := 1161) (i := .aload_n 0) (len := 1) (pc' := 1162) (lv' := [(4, .int (0)), (3, .ref 723), (2, .ref 621), (1, .ref 0), (0, .retAddr 0)]) (st' := [.retAddr 0, .ref 0]) (by decide +kernel) rfl) ?_
  refine ev_go0 (ev_one_pure (M := ev_Mlaw) (pc := 1162) (i := .iload 4) (len := 2) (pc' := 1164) (lv' := [(4, .int (0)), (3, .ref 723), (2, .ref 621), (1, .ref 0), (0, .retAddr 0)]) (st' := [.int (0), .retAddr 0, .ref 0]) (by decide +kernel) rfl) ?_
  refine ev_go0 (ev_w_iconst (M := ev_Mlaw) (pc := 1164) (k := 1) (v := 1) (by decide +kernel) (by decide +kernel)) ?_
  refine ev_go0 (ev_w_iadd (M := ev_Mlaw) (pc := 1165) (v := (1)) (by decide +kernel) (by decide +kernel)) ?_
  refine ev_go0 (ev_w_scr (M := ev_Mlaw) (pc := 1166) (v := x1) (j := 1) (by decide +kernel) (by decide +kernel) (by decide +kernel) e1) ?_
  refine ev_go0 (ev_one_pure (M := ev_Mlaw) (pc := 1167) (i := .aload_n 0) (len := 1) (pc' := 1168) (lv' := [(4, .int (0)), (3, .ref 723), (2, .ref 621), (1, .ref 0), (0, .retAddr 0)]) (st' := [.retAddr 0, .int x1, .ref 0]) (by decide +kernel) rfl) ?_
  refine ev_go0 (ev_one_pure (M := ev_Mlaw) (pc := 1168) (i := .iload 4) (len := 2) (pc' := 1170) (lv' := [(4, .int (0)), (3, .ref 723), (2, .ref 621), (1, .ref 0), (0, .retAddr 0)]) (st' := [.int (0), .retAddr 0, .int x1, .ref 0]) (by decide +kernel) rfl) ?_
  refine ev_go0 (ev_w_iconst (M := ev_Mlaw) (pc := 1170) (k := 2) (v := 2) (by decide +kernel) (by decide +kernel)) ?_
  refine ev_go0 (ev_w_iadd (M := ev_Mlaw) (pc := 1171) (v := (2)) (by decide +kernel) (by decide +kernel)) ?_
  refine ev_go0 (ev_w_scr (M := ev_Mlaw) (pc := 1172) (v := (2)) (j := 2) (by decide +kernel) (by decide +kernel) (by decide +kernel) e2) ?_
  refine ev_go0 (ev_one_pure (M := ev_Mlaw) (pc := 1173) (i := .aload_n 3) (len := 1) (pc' := 1174) (lv' := [(4, .int (0)), (3, .ref 723), (2, .ref 621), (1, .ref 0), (0, .retAddr 0)]) (st' := [.ref 723, .int (2), .int x1, .ref 0]) (by decide +kernel) rfl) ?_
  refine ev_go (ev_w_stat (M := ev_Mlaw) (pc := 1174) (y := 182) (kind := 8) (Or.inr (Or.inr rfl)) (mi := 378) (na := 4) (by decide +kernel) (by decide +kernel) (by decide +kernel) (by decide +kernel) rfl rfl (ev_k305 x1 hu_x1)) ?_
  refine ev_go0 (ev_w_istore (M := ev_Mlaw) (pc := 1177) (k := 5) (lv' := [(5, .int (1)), (4, .int (0)), (3, .ref 723), (2, .ref 621), (1, .ref 0), (0, .retAddr 0)]) (by decide +kernel) (by decide +kernel) rfl) ?_
  refine ev_go0 (ev_one_pure (M := ev_Mlaw) (pc := 1179) (i := .aload_n 2) (len := 1) (pc' := 1180) (lv' := [(5, .int (1)), (4, .int (0)), (3, .ref 723), (2, .ref 621), (1, .ref 0), (0, .retAddr 0)]) (st' := [.ref 621]) (by decide +kernel) rfl) ?_
  refine ev_go0 (ev_one_pure (M := ev_Mlaw) (pc := 1180) (i := .aload_n 0) (len := 1) (pc' := 1181) (lv' := [(5, .int (1)), (4, .int (0)), (3, .ref 723), (2, .ref 621), (1, .ref 0), (0, .retAddr 0)]) (st' := [.retAddr 0, .ref 621]) (by decide +kernel) rfl) ?_
  refine ev_go0 (ev_one_pure (M := ev_Mlaw) (pc := 1181) (i := .iload 4) (len := 2) (pc' := 1183) (lv' := [(5, .int (1)), (4, .int (0)), (3, .ref 723), (2, .ref 621), (1, .ref 0), (0, .retAddr 0)]) (st' := [.int (0), .retAddr 0, .ref 621]) (by decide +kernel) rfl) ?_
  refine ev_go0 (ev_w_iconst (M := ev_Mlaw) (pc := 1183) (k := 1) (v := 1) (by decide +kernel) (by decide +kernel)) ?_
  refine ev_go0 (ev_w_iadd (M := ev_Mlaw) (pc := 1184) (v := (1)) (by decide +kernel) (by decide +kernel)) ?_
  refine ev_go0 (ev_w_scr (M := ev_Mlaw) (pc := 1185) (v := x1) (j := 1) (by decide +kernel) (by decide +kernel) (by decide +kernel) e1) ?_
  refine ev_go0 (ev_one_pure (M := ev_Mlaw) (pc := 1186) (i := .aload_n 0) (len := 1) (pc' := 1187) (lv' := [(5, .int (1)), (4, .int (0)), (3, .ref 723), (2, .ref 621), (1, .ref 0), (0, .retAddr 0)]) (st' := [.retAddr 0, .int x1, .ref 621]) (by decide +kernel) rfl) ?_
  refine ev_go0 (ev_one_pure (M := ev_Mlaw) (pc := 1187) (i := .iload 4) (len := 2) (pc' := 1189) (lv' := [(5, .int (1)), (4, .int (0)), (3, .ref 723), (2, .ref 621), (1, .ref 0), (0, .retAddr 0)]) (st' := [.int (0), .retAddr 0, .int x1, .ref 621]) (by decide +kernel) rfl) ?_
  refine ev_go0 (ev_w_iconst (M := ev_Mlaw) (pc := 1189) (k := 2) (v := 2) (by decide +kernel) (by decide +kernel)) ?_
  refine ev_go0 (ev_w_iadd (M := ev_Mlaw) (pc := 1190) (v := (2)) (by decide +kernel) (by decide +kernel)) ?_
  refine ev_go0 (ev_w_scr (M := ev_Mlaw) (pc := 1191) (v := (2)) (j := 2) (by decide +kernel) (by decide +kernel) (by decide +kernel) e2) ?_
  refine ev_go0 (ev_p_virt (M := ev_Mlaw) (pc := 1192) (x := 184) (mi := 334) (na := 2) (by decide +kernel) (by decide +kernel) (by decide +kernel) (by decide +kernel) rfl rfl (ev_recv_of ev_fH621) (ev_k306 x1 hu_x1)) ?_
  refine ev_go0 (ev_w_istore (M := ev_Mlaw) (pc := 1195) (k := 6) (lv' := [(6, .int (0)), (5, .int (1)), (4, .int (0)), (3, .ref 723), (2, .ref 621), (1, .ref 0), (0, .retAddr 0)]) (by decide +kernel) (by decide +kernel) rfl) ?_
  refine ev_go0 (ev_one_pure (M := ev_Mlaw) (pc := 1197) (i := .aload_n 2) (len := 1) (pc' := 1198) (lv' := [(6, .int (0)), (5, .int (1)), (4, .int (0)), (3, .ref 723), (2, .ref 621), (1, .ref 0), (0, .retAddr 0)]) (st' := [.ref 621]) (by decide +kernel) rfl) ?_
  refine ev_go0 (ev_p_virt (M := ev_Mlaw) (pc := 1198) (x := 131) (mi := 220) (na := 0) (by decide +kernel) (by decide +kernel) (by decide +kernel) (by decide +kernel) rfl rfl (ev_recv_of (ev_hself ev_fH621)) ev_k26) ?_
  refine ev_go0 (ev_one_pure (M := ev_Mlaw) (pc := 1201) (i := .iload 5) (len := 2) (pc' := 1203) (lv' := [(6, .int (0)), (5, .int (1)), (4, .int (0)), (3, .ref 723), (2, .ref 621), (1, .ref 0), (0, .retAddr 0)]) (st' := [.int (1), .int (1)]) (by decide +kernel) rfl) ?_
  refine ev_go0 (ev_w_icmp (M := ev_Mlaw) (pc := 1203) (q := .eq) (o := 5) (b := true) (t := 1208) (by decide +kernel) (by decide +kernel) rfl) ?_
  refine ev_go0 (ev_one_pure (M := ev_Mlaw) (pc := 1208) (i := .iload 5) (len := 2) (pc' := 1210) (lv' := [(6, .int (0)), (5, .int (1)), (4, .int (0)), (3, .ref 723), (2, .ref 621), (1, .ref 0), (0, .retAddr 0)]) (st' := [.int (1)]) (by decide +kernel) rfl) ?_
  refine ev_go0 (ev_w_if (M := ev_Mlaw) (pc := 1210) (q := .ne) (o := 15) (b := true) (t := 1225) (by decide +kernel) (by decide +kernel) rfl) ?_
  refine ev_go0 (ev_one_pure (M := ev_Mlaw) (pc := 1225) (i := .goto 1047) (len := 3) (pc' := 2272) (lv' := [(6, .int (0)), (5, .int (1)), (4, .int (0)), (3, .ref 723), (2, .ref 621), (1, .ref 0), (0, .retAddr 0)]) (st' := []) (by decide +kernel) rfl) ?_
  rfl
theorem ev_k307 (x1 : Int32) (hu_x1 : x1.toInt ≤ (-1 : Int)) (x2 : Int32) (hl_x2 : (3 : Int) ≤ x2.toInt) {n : Nat} : ev_calld 11 181 [.ref 0, .int x1, .int x2] ev_H0 n = some (.inr "java/lang/IndexOutOfBoundsException", ev_H0, n, 1, 6) := by
  refine ev_call_thrown (k := 11) (pcR := 25) (x := 160) (lv' := [(4, .null), (3, .null), (0, .ref 0), (1, .int x1), (2, .int x2)]) (by decide +kernel) rfl ?_ (by decide +kernel) (by decide +kernel) (by decide +kernel) (by decide) (by decide)
  show ev_stepn _ 11 (0, [(0, .ref 0), (1, .int x1), (2, .int x2)], [], _, _, 0, 0) = _
  refine ev_go0 (ev_one_pure (M := (ev_Mof 181)) (pc := 0) (i := .aload_n 0) (len := 1) (pc' := 1) (lv' := [(0, .ref 0), (1, .int x1), (2, .int x2)]) (st' := [.ref 0]) (by decide +kernel) rfl) ?_
  refine ev_go0 (ev_one_pure (M := (ev_Mof 181)) (pc := 1) (i := .iload_n 1) (len := 1) (pc' := 2) (lv' := [(0, .ref 0), (1, .int x1), (2, .int x2)]) (st' := [.int x1, .ref 0]) (by decide +kernel) rfl) ?_
  refine ev_go0 (ev_p_virt (M := (ev_Mof 181)) (pc := 2) (x := 156) (mi := 200) (na := 1) (by decide +kernel) (by decide +kernel) (by decide +kernel) (by decide +kernel) rfl rfl (ev_recv_of ev_fH0) (ev_k1 x1 hu_x1)) ?_
  refine ev_go0 (ev_w_astore_n (M := (ev_Mof 181)) (pc := 5) (k := 3) (lv' := [(3, .null), (0, .ref 0), (1, .int x1), (2, .int x2)]) (by decide +kernel) (by decide +kernel) (Or.inr (Or.inl rfl)) rfl) ?_
  refine ev_go0 (ev_one_pure (M := (ev_Mof 181)) (pc := 6) (i := .aload_n 0) (len := 1) (pc' := 7) (lv' := [(3, .null), (0, .ref 0), (1, .int x1), (2, .int x2)]) (st' := [.ref 0]) (by decide +kernel) rfl) ?_
  refine ev_go0 (ev_p_getf (M := (ev_Mof 181)) (pc := 7) (x := 48) (ci := 12) (f := 8) (fin := 1) (v := .ref 254) (by decide +kernel) (by decide +kernel) ev_fH0 rfl) ?_
  refine ev_go0 (ev_one_pure (M := (ev_Mof 181)) (pc := 10) (i := .iload_n 2) (len := 1) (pc' := 11) (lv' := [(3, .null), (0, .ref 0), (1, .int x1), (2, .int x2)]) (st' := [.int x2, .ref 254]) (by decide +kernel) rfl) ?_
  refine ev_go0 (ev_p_virt (M := (ev_Mof 181)) (pc := 11) (x := 221) (mi := 1) (na := 1) (by decide +kernel) (by decide +kernel) (by decide +kernel) (by decide +kernel) rfl rfl (ev_recv_of ev_fH254) (ev_k246 x2 hl_x2)) ?_
  refine ev_go0 (ev_w_astore (M := (ev_Mof 181)) (pc := 14) (k := 4) (lv' := [(4, .null), (3, .null), (0, .ref 0), (1, .int x1), (2, .int x2)]) (by decide +kernel) (by decide +kernel) (Or.inr (Or.inl rfl)) rfl) ?_
  refine ev_go0 (ev_one_pure (M := (ev_Mof 181)) (pc := 16) (i := .aload_n 3) (len := 1) (pc' := 17) (lv' := [(4, .null), (3, .null), (0, .ref 0), (1, .int x1), (2, .int x2)]) (st' := [.null]) (by decide +kernel) rfl) ?_
  refine ev_go0 (ev_w_ifnull (M := (ev_Mof 181)) (pc := 17) (o := 8) (t := 25) (by decide +kernel) (Or.inl ⟨rfl, rfl⟩)) ?_
  rfl
theorem ev_k308 (x1 : Int32) (hu_x1 : x1.toInt ≤ (-1 : Int)) (x2 : Int32) (hl_x2 : (3 : Int) ≤ x2.toInt) {n : Nat} : ev_calld 12 378 [.ref 0, .int x1, .int x2, .ref 723] ev_H0 n = some (.inl (some (.int (1))), ev_H0, n, 1, 6) := by
  refine ev_call_int (k := 8) (pcR := 16) (lv' := [(4, .retAddr 1), (0, .ref 0), (1, .int x1), (2, .int x2), (3, .ref 723)]) (v := (1)) (ty := .int) (by decide +kernel) rfl ?_ (by decide +kernel) (by decide +kernel) (by decide +kernel) (by decide)
  show ev_stepn _ 8 (0, [(0, .ref 0), (1, .int x1), (2, .int x2), (3, .ref 723)], [], _, _, 0, 0) = _
  refine ev_go0 (ev_one_pure (M := (ev_Mof 378)) (pc := 0) (i := .aload_n 3) (len := 1) (pc' := 1) (lv' := [(0, .ref 0), (1, .int x1), (2, .int x2), (3, .ref 723)]) (st' := [.ref 723]) (by decide +kernel) rfl) ?_
  refine ev_go0 (ev_w_iconst (M := (ev_Mof 378)) (pc := 1) (k := 0) (v := 0) (by decide +kernel) (by decide +kernel)) ?_
  refine ev_go0 (ev_one_pure (M := (ev_Mof 378)) (pc := 2) (i := .aload_n 0) (len := 1) (pc' := 3) (lv' := [(0, .ref 0), (1, .int x1), (2, .int x2), (3, .ref 723)]) (st' := [.ref 0, .int (0), .ref 723]) (by decide +kernel) rfl) ?_
  refine ev_go0 (ev_one_pure (M := (ev_Mof 378)) (pc := 3) (i := .iload_n 1) (len := 1) (pc' := 4) (lv' := [(0, .ref 0), (1, .int x1), (2, .int x2), (3, .ref 723)]) (st' := [.int x1, .ref 0, .int (0), .ref 723]) (by decide +kernel) rfl) ?_
  refine ev_go0 (ev_one_pure (M := (ev_Mof 378)) (pc := 4) (i := .iload_n 2) (len := 1) (pc' := 5) (lv' := [(0, .ref 0), (1, .int x1), (2, .int x2), (3, .ref 723)]) (st' := [.int x2, .int x1, .ref 0, .int (0), .ref 723]) (by decide +kernel) rfl) ?_
  refine ev_go (ev_p_virtX (M := (ev_Mof 378)) (pc := 5) (x := 64) (t := 13) (mi := 181) (na := 2) (by decide +kernel) (by decide +kernel) (by decide +kernel) (by decide +kernel) rfl rfl (ev_recv_of ev_fH0) (ev_k307 x1 hu_x1 x2 hl_x2) (by decide +kernel)) ?_
  refine ev_go0 (ev_w_astore (M := (ev_Mof 378)) (pc := 13) (k := 4) (lv' := [(4, .retAddr 1), (0, .ref 0), (1, .int x1), (2, .int x2), (3, .ref 723)]) (by decide +kernel) (by decide +kernel) (Or.inr (Or.inr ⟨_, rfl⟩)) rfl) ?_
  refine ev_go0 (ev_w_iconst (M := (ev_Mof 378)) (pc := 15) (k := 1) (v := 1) (by decide +kernel) (by decide +kernel)) ?_
  rfl
theorem ev_k309 (x1 : Int32) (hu_x1 : x1.toInt ≤ (-1 : Int)) (x2 : Int32) (hl_x2 : (3 : Int) ≤ x2.toInt) {n : Nat} : ev_calld 12 334 [.ref 621, .int x1, .int x2] ev_H0 n = some (.inl (some (.int (0))), (ev_H0.set 621 (.inr (13, (ev_F621.set 0 (.int (1)))))), n, 0, 0) := by
  refine ev_call_int (k := 11) (pcR := 33) (lv' := [(0, .ref 621), (1, .int x1), (2, .int x2)]) (v := (0)) (ty := .int) (by decide +kernel) rfl ?_ (by decide +kernel) (by decide +kernel) (by decide +kernel) (by decide)
  show ev_stepn _ 11 (0, [(0, .ref 621), (1, .int x1), (2, .int x2)], [], _, _, 0, 0) = _
  refine ev_go0 (ev_one_pure (M := (ev_Mof 334)) (pc := 0) (i := .aload_n 0) (len := 1) (pc' := 1) (lv' := [(0, .ref 621), (1, .int x1), (2, .int x2)]) (st' := [.ref 621]) (by decide +kernel) rfl) ?_
  refine ev_go0 (ev_one_pure (M := (ev_Mof 334)) (pc := 1) (i := .aload_n 0) (len := 1) (pc' := 2) (lv' := [(0, .ref 621), (1, .int x1), (2, .int x2)]) (st' := [.ref 621, .ref 621]) (by decide +kernel) rfl) ?_
  refine ev_go0 (ev_one_pure (M := (ev_Mof 334)) (pc := 2) (i := .iload_n 1) (len := 1) (pc' := 3) (lv' := [(0, .ref 621), (1, .int x1), (2, .int x2)]) (st' := [.int x1, .ref 621, .ref 621]) (by decide +kernel) rfl) ?_
  refine ev_go0 (ev_p_virt (M := (ev_Mof 334)) (pc := 3) (x := 531) (mi := 273) (na := 1) (by decide +kernel) (by decide +kernel) (by decide +kernel) (by decide +kernel) rfl rfl (ev_recv_of ev_fH621) (ev_k24 x1 hu_x1)) ?_
  refine ev_go0 (ev_w_if (M := (ev_Mof 334)) (pc := 6) (q := .eq) (o := 15) (b := true) (t := 21) (by decide +kernel) (by decide +kernel) rfl) ?_
  refine ev_go0 (ev_w_iconst (M := (ev_Mof 334)) (pc := 21) (k := 1) (v := 1) (by decide +kernel) (by decide +kernel)) ?_
  refine ev_go0 (ev_p_putf (M := (ev_Mof 334)) (pc := 22) (x := 321) (ci := 13) (f := 0) (by decide +kernel) (by decide +kernel) ev_fH621 rfl (by decide +kernel)) ?_
  refine ev_go0 (ev_one_pure (M := (ev_Mof 334)) (pc := 25) (i := .aload_n 0) (len := 1) (pc' := 26) (lv' := [(0, .ref 621), (1, .int x1), (2, .int x2)]) (st' := [.ref 621]) (by decide +kernel) rfl) ?_
  refine ev_go0 (ev_p_getf (M := (ev_Mof 334)) (pc := 26) (x := 321) (ci := 13) (f := 0) (fin := 0) (v := .int (1)) (by decide +kernel) (by decide +kernel) (ev_hself ev_fH621) rfl) ?_
  refine ev_go0 (ev_w_if (M := (ev_Mof 334)) (pc := 29) (q := .le) (o := 5) (b := false) (t := 32) (by decide +kernel) (by decide +kernel) rfl) ?_
  refine ev_go0 (ev_w_iconst (M := (ev_Mof 334)) (pc := 32) (k := 0) (v := 0) (by decide +kernel) (by decide +kernel)) ?_
  rfl
theorem ev_p1_15_ng (xs : Nat → Int32) (x1 : Int32) (hu_x1 : x1.toInt ≤ (-1 : Int)) (x2 : Int32) (hl_x2 : (3 : Int) ≤ x2.toInt) (e1 : xs 1 = x1) (e2 : xs 2 = x2) : ev_P1 xs 1160 := by
  refine ⟨34, [(6, .int (0)), (5, .int (1)), (4, .int (0)), (3, .ref 723), (2, .ref 621), (1, .ref 0), (0, .retAddr 0)], (ev_H0.set 621 (.inr (13, (ev_F621.set 0 (.int (1)))))), 724, 725, 3553592, ?_, ⟨rfl, rfl, rfl, rfl⟩, rfl, by decide, by decide⟩
  show ev_stepn _ _ (1160, [(4, .int (0)), (3, .ref 723), (2, .ref 621), (1, .ref 0), (0, .retAddr 0)], [], _, _, _, _) = _
  refine ev_go0 (ev_one_pure (M := ev_Mlaw) (pc := 1160) (i := .aload_n 1) (len := 1) (pc' := 1161) (lv' := [(4, .int (0)), (3, .ref 723), (2, .ref 621), (1, .ref 0), (0, .retAddr 0)]) (st' := [.ref 0]) (by decide +kernel) rfl) ?_
  refine ev_go0 (ev_one_pure (M := ev_Mlaw) (pc := 1161) (i := .aload_n 0) (len := 1) (pc' := 1162) (lv' := [(4, .int (0)), (3, .ref 723), (2, .ref 621), (1, .ref 0), (0, .retAddr 0)]) (st' := [.retAddr 0, .ref 0]) (by decide +kernel) rfl) ?_
  refine ev_go0 (ev_one_pure (M := ev_Mlaw) (pc := 1162) (i := .iload 4) (len := 2) (pc' := 1164) (lv' := [(4, .int (0)), (3, .ref 723), (2, .ref 621), (1, .ref 0), (0, .retAddr 0)]) (st' := [.int (0), .retAddr 0, .ref 0]) (by decide +kernel) rfl) ?_
  refine ev_go0 (ev_w_iconst (M := ev_Mlaw) (pc := 1164) (k := 1) (v := 1) (by decide +kernel) (by decide +kernel)) ?_
  refine ev_go0 (ev_w_iadd (M := ev_Mlaw) (pc := 1165) (v := (1)) (by decide +kernel) (by decide +kernel)) ?_
  refine ev_go0 (ev_w_scr (M := ev_Mlaw) (pc := 1166) (v := x1) (j := 1) (by decide +kernel) (by decide +kernel) (by decide +kernel) e1) ?_
  refine ev_go0 (ev_one_pure (M := ev_Mlaw) (pc := 1167) (i := .aload_n 0) (len := 1) (pc' := 1168) (lv' := [(4, .int (0)), (3, .ref 723), (2, .ref 621), (1, .ref 0), (0, .retAddr 0)]) (st' := [.retAddr 0, .int x1, .ref 0]) (by decide +kernel) rfl) ?_
  refine ev_go0 (ev_one_pure (M := ev_Mlaw) (pc := 1168) (i := .iload 4) (len := 2) (pc' := 1170) (lv' := [(4, .int (0)), (3, .ref 723), (2, .ref 621), (1, .ref 0), (0, .retAddr 0)]) (st' := [.int (0), .retAddr 0, .int x1, .ref 0]) (by decide +kernel) rfl) ?_
  refine ev_go0 (ev_w_iconst (M := ev_Mlaw) (pc := 1170) (k := 2) (v := 2) (by decide +kernel) (by decide +kernel)) ?_
  refine ev_go0 (ev_w_iadd (M := ev_Mlaw) (pc := 1171) (v := (2)) (by decide +kernel) (by decide +kernel)) ?_
  refine ev_go0 (ev_w_scr (M := ev_Mlaw) (pc := 1172) (v := x2) (j := 2) (by decide +kernel) (by decide +kernel) (by decide +kernel) e2) ?_
  refine ev_go0 (ev_one_pure (M := ev_Mlaw) (pc := 1173) (i := .aload_n 3) (len := 1) (pc' := 1174) (lv' := [(4, .int (0)), (3, .ref 723), (2, .ref 621), (1, .ref 0), (0, .retAddr 0)]) (st' := [.ref 723, .int x2, .int x1, .ref 0]) (by decide +kernel) rfl) ?_
  refine ev_go (ev_w_stat (M := ev_Mlaw) (pc := 1174) (y := 182) (kind := 8) (Or.inr (Or.inr rfl)) (mi := 378) (na := 4) (by decide +kernel) (by decide +kernel) (by decide +kernel) (by decide +kernel) rfl rfl (ev_k308 x1 hu_x1 x2 hl_x2)) ?_
  refine ev_go0 (ev_w_istore (M := ev_Mlaw) (pc := 1177) (k := 5) (lv' := [(5, .int (1)), (4, .int (0)), (3, .ref 723), (2, .ref 621), (1, .ref 0), (0, .retAddr 0)]) (by decide +kernel) (by decide +kernel) rfl) ?_
  refine ev_go0 (ev_one_pure (M := ev_Mlaw) (pc := 1179) (i := .aload_n 2) (len := 1) (pc' := 1180) (lv' := [(5, .int (1)), (4, .int (0)), (3, .ref 723), (2, .ref 621), (1, .ref 0), (0, .retAddr 0)]) (st' := [.ref 621]) (by decide +kernel) rfl) ?_
  refine ev_go0 (ev_one_pure (M := ev_Mlaw) (pc := 1180) (i := .aload_n 0) (len := 1) (pc' := 1181) (lv' := [(5, .int (1)), (4, .int (0)), (3, .ref 723), (2, .ref 621), (1, .ref 0), (0, .retAddr 0)]) (st' := [.retAddr 0, .ref 621]) (by decide +kernel) rfl) ?_
  refine ev_go0 (ev_one_pure (M := ev_Mlaw) (pc := 1181) (i := .iload 4) (len := 2) (pc' := 1183) (lv' := [(5, .int (1)), (4, .int (0)), (3, .ref 723), (2, .ref 621), (1, .ref 0), (0, .retAddr 0)]) (st' := [.int (0), .retAddr 0, .ref 621]) (by decide +kernel) rfl) ?_
  refine ev_go0 (ev_w_iconst (M := ev_Mlaw) (pc := 1183) (k := 1) (v := 1) (by decide +kernel) (by decide +kernel)) ?_
  refine ev_go0 (ev_w_iadd (M := ev_Mlaw) (pc := 1184) (v := (1)) (by decide +kernel) (by decide +kernel)) ?_
  refine ev_go0 (ev_w_scr (M := ev_Mlaw) (pc := 1185) (v := x1) (j := 1) (by decide +kernel) (by decide +kernel) (by decide +kernel) e1) ?_
  refine ev_go0 (ev_one_pure (M := ev_Mlaw) (pc := 1186) (i := .aload_n 0) (len := 1) (pc' := 1187) (lv' := [(5, .int (1)), (4, .int (0)), (3, .ref 723), (2, .ref 621), (1, .ref 0), (0, .retAddr 0)]) (st' := [.retAddr 0, .int x1, .ref 621]) (by decide +kernel) rfl) ?_
  refine ev_go0 (ev_one_pure (M := ev_Mlaw) (pc := 1187) (i := .iload 4) (len := 2) (pc' := 1189) (lv' := [(5, .int (1)), (4, .int (0)), (3, .ref 723), (2, .ref 621), (1, .ref 0), (0, .retAddr 0)]) (st' := [.int (0), .retAddr 0, .int x1, .ref 621]) (by decide +kernel) rfl) ?_
  refine ev_go0 (ev_w_iconst (M := ev_Mlaw) (pc := 1189) (k := 2) (v := 2) (by decide +kernel) (by decide +kernel)) ?_
  refine ev_go0 (ev_w_iadd (M := ev_Mlaw) (pc := 1190) (v := (2)) (by decide +kernel) (by decide +kernel)) ?_
  refine ev_go0 (ev_w_scr (M := ev_Mlaw) (pc := 1191) (v := x2) (j := 2) (by decide +kernel) (by decide +kernel) (by decide +kernel) e2) ?_
  refine ev_go0 (ev_p_virt (M := ev_Mlaw) (pc := 1192) (x := 184) (mi := 334) (na := 2) (by decide +kernel) (by decide +kernel) (by decide +kernel) (by decide +kernel) rfl rfl (ev_recv_of ev_fH621) (ev_k309 x1 hu_x1 x2 hl_x2)) ?_
  refine ev_go0 (ev_w_istore (M := ev_Mlaw) (pc := 1195) (k := 6) (lv' := [(6, .int (0)), (5, .int (1)), (4, .int (0)), (3, .ref 723), (2, .ref 621), (1, .ref 0), (0, .retAddr 0)]) (by decide +kernel) (by decide +kernel) rfl) ?_
  refine ev_go0 (ev_one_pure (M := ev_Mlaw) (pc := 1197) (i := .aload_n 2) (len := 1) (pc' := 1198) (lv' := [(6, .int (0)), (5, .int (1)), (4, .int (0)), (3, .ref 723), (2, .ref 621), (1, .ref 0), (0, .retAddr 0)]) (st' := [.ref 621]) (by decide +kernel) rfl) ?_
  refine ev_go0 (ev_p_virt (M := ev_Mlaw) (pc := 1198) (x := 131) (mi := 220) (na := 0) (by decide +kernel) (by decide +kernel) (by decide +kernel) (by decide +kernel) rfl rfl (ev_recv_of (ev_hself ev_fH621)) ev_k26) ?_
  refine ev_go0 (ev_one_pure (M := ev_Mlaw) (pc := 1201) (i := .iload 5) (len := 2) (pc' := 1203) (lv' := [(6, .int (0)), (5, .int (1)), (4, .int (0)), (3, .ref 723), (2, .ref 621), (1, .ref 0), (0, .retAddr 0)]) (st' := [.int (1), .int (1)]) (by decide +kernel) rfl) ?_
  refine ev_go0 (ev_w_icmp (M := ev_Mlaw) (pc := 1203) (q := .eq) (o := 5) (b := true) (t := 1208) (by decide +kernel) (by decide +kernel) rfl) ?_
  refine ev_go0 (ev_one_pure (M := ev_Mlaw) (pc := 1208) (i := .iload 5) (len := 2) (pc' := 1210) (lv' := [(6, .int (0)), (5, .int (1)), (4, .int (0)), (3, .ref 723), (2, .ref 621), (1, .ref 0), (0, .retAddr 0)]) (st' := [.int (1)]) (by decide +kernel) rfl) ?_
  refine ev_go0 (ev_w_if (M := ev_Mlaw) (pc := 1210) (q := .ne) (o := 15) (b := true) (t := 1225) (by decide +kernel) (by decide +kernel) rfl) ?_
  refine ev_go0 (ev_one_pure (M := ev_Mlaw) (pc := 1225) (i := .goto 1047) (len := 3) (pc' := 2272) (lv' := [(6, .int (0)), (5, .int (1)), (4, .int (0)), (3, .ref 723), (2, .ref 621), (1, .ref 0), (0, .retAddr 0)]) (st' := []) (by decide +kernel) rfl) ?_
  rfl
theorem ev_k310 (x1 : Int32) (hl_x1 : (0 : Int) ≤ x1.toInt) (x2 : Int32) (hu_x2 : x2.toInt ≤ (-1 : Int)) {n : Nat} : ev_calld 11 181 [.ref 0, .int x1, .int x2] ev_H0 n = some (.inr "java/lang/IndexOutOfBoundsException", ev_H0, n, 1, 6) := by
  refine ev_call_thrown (k := 11) (pcR := 25) (x := 160) (lv' := [(4, .null), (3, .null), (0, .ref 0), (1, .int x1), (2, .int x2)]) (by decide +kernel) rfl ?_ (by decide +kernel) (by decide +kernel) (by decide +kernel) (by decide) (by decide)
  show ev_stepn _ 11 (0, [(0, .ref 0), (1, .int x1), (2, .int x2)], [], _, _, 0, 0) = _
  refine ev_go0 (ev_one_pure (M := (ev_Mof 181)) (pc := 0) (i := .aload_n 0) (len := 1) (pc' := 1) (lv' := [(0, .ref 0), (1, .int x1), (2, .int x2)]) (st' := [.ref 0]) (by decide +kernel) rfl) ?_
  refine ev_go0 (ev_one_pure (M := (ev_Mof 181)) (pc := 1) (i := .iload_n 1) (len := 1) (pc' := 2) (lv' := [(0, .ref 0), (1, .int x1), (2, .int x2)]) (st' := [.int x1, .ref 0]) (by decide +kernel) rfl) ?_
  refine ev_go0 (ev_p_virt (M := (ev_Mof 181)) (pc := 2) (x := 156) (mi := 200) (na := 1) (by decide +kernel) (by decide +kernel) (by decide +kernel) (by decide +kernel) rfl rfl (ev_recv_of ev_fH0) (ev_k9 x1 hl_x1)) ?_
  refine ev_go0 (ev_w_astore_n (M := (ev_Mof 181)) (pc := 5) (k := 3) (lv' := [(3, .null), (0, .ref 0), (1, .int x1), (2, .int x2)]) (by decide +kernel) (by decide +kernel) (Or.inr (Or.inl rfl)) rfl) ?_
  refine ev_go0 (ev_one_pure (M := (ev_Mof 181)) (pc := 6) (i := .aload_n 0) (len := 1) (pc' := 7) (lv' := [(3, .null), (0, .ref 0), (1, .int x1), (2, .int x2)]) (st' := [.ref 0]) (by decide +kernel) rfl) ?_
  refine ev_go0 (ev_p_getf (M := (ev_Mof 181)) (pc := 7) (x := 48) (ci := 12) (f := 8) (fin := 1) (v := .ref 254) (by decide +kernel) (by decide +kernel) ev_fH0 rfl) ?_
  refine ev_go0 (ev_one_pure (M := (ev_Mof 181)) (pc := 10) (i := .iload_n 2) (len := 1) (pc' := 11) (lv' := [(3, .null), (0, .ref 0), (1, .int x1), (2, .int x2)]) (st' := [.int x2, .ref 254]) (by decide +kernel) rfl) ?_
  refine ev_go0 (ev_p_virt (M := (ev_Mof 181)) (pc := 11) (x := 221) (mi := 1) (na := 1) (by decide +kernel) (by decide +kernel) (by decide +kernel) (by decide +kernel) rfl rfl (ev_recv_of ev_fH254) (ev_k230 x2 hu_x2)) ?_
  refine ev_go0 (ev_w_astore (M := (ev_Mof 181)) (pc := 14) (k := 4) (lv' := [(4, .null), (3, .null), (0, .ref 0), (1, .int x1), (2, .int x2)]) (by decide +kernel) (by decide +kernel) (Or.inr (Or.inl rfl)) rfl) ?_
  refine ev_go0 (ev_one_pure (M := (ev_Mof 181)) (pc := 16) (i := .aload_n 3) (len := 1) (pc' := 17) (lv' := [(4, .null), (3, .null), (0, .ref 0), (1, .int x1), (2, .int x2)]) (st' := [.null]) (by decide +kernel) rfl) ?_
  refine ev_go0 (ev_w_ifnull (M := (ev_Mof 181)) (pc := 17) (o := 8) (t := 25) (by decide +kernel) (Or.inl ⟨rfl, rfl⟩)) ?_
  rfl
theorem ev_k311 (x1 : Int32) (hl_x1 : (0 : Int) ≤ x1.toInt) (x2 : Int32) (hu_x2 : x2.toInt ≤ (-1 : Int)) {n : Nat} : ev_calld 12 378 [.ref 0, .int x1, .int x2, .ref 723] ev_H0 n = some (.inl (some (.int (1))), ev_H0, n, 1, 6) := by
  refine ev_call_int (k := 8) (pcR := 16) (lv' := [(4, .retAddr 1), (0, .ref 0), (1, .int x1), (2, .int x2), (3, .ref 723)]) (v := (1)) (ty := .int) (by decide +kernel) rfl ?_ (by decide +kernel) (by decide +kernel) (by decide +kernel) (by decide)
  show ev_stepn _ 8 (0, [(0, .ref 0), (1, .int x1), (2, .int x2), (3, .ref 723)], [], _, _, 0, 0) = _
  refine ev_go0 (ev_one_pure (M := (ev_Mof 378)) (pc := 0) (i := .aload_n 3) (len := 1) (pc' := 1) (lv' := [(0, .ref 0), (1, .int x1), (2, .int x2), (3, .ref 723)]) (st' := [.ref 723]) (by decide +kernel) rfl) ?_
  refine ev_go0 (ev_w_iconst (M := (ev_Mof 378)) (pc := 1) (k := 0) (v := 0) (by decide +kernel) (by decide +kernel)) ?_
  refine ev_go0 (ev_one_pure (M := (ev_Mof 378)) (pc := 2) (i := .aload_n 0) (len := 1) (pc' := 3) (lv' := [(0, .ref 0), (1, .int x1), (2, .int x2), (3, .ref 723)]) (st' := [.ref 0, .int (0), .ref 723]) (by decide +kernel) rfl) ?_
  refine ev_go0 (ev_one_pure (M := (ev_Mof 378)) (pc := 3) (i := .iload_n 1) (len := 1) (pc' := 4) (lv' := [(0, .ref 0), (1, .int x1), (2, .int x2), (3, .ref 723)]) (st' := [.int x1, .ref 0, .int (0), .ref 723]) (by decide +kernel) rfl) ?_
  refine ev_go0 (ev_one_pure (M := (ev_Mof 378)) (pc := 4) (i := .iload_n 2) (len := 1) (pc' := 5) (lv' := [(0, .ref 0), (1, .int x1), (2, .int x2), (3, .ref 723)]) (st' := [.int x2, .int x1, .ref 0, .int (0), .ref 723]) (by decide +kernel) rfl) ?_
  refine ev_go (ev_p_virtX (M := (ev_Mof 378)) (pc := 5) (x := 64) (t := 13) (mi := 181) (na := 2) (by decide +kernel) (by decide +kernel) (by decide +kernel) (by decide +kernel) rfl rfl (ev_recv_of ev_fH0) (ev_k310 x1 hl_x1 x2 hu_x2) (by decide +kernel)) ?_
  refine ev_go0 (ev_w_astore (M := (ev_Mof 378)) (pc := 13) (k := 4) (lv' := [(4, .retAddr 1), (0, .ref 0), (1, .int x1), (2, .int x2), (3, .ref 723)]) (by decide +kernel) (by decide +kernel) (Or.inr (Or.inr ⟨_, rfl⟩)) rfl) ?_
  refine ev_go0 (ev_w_iconst (M := (ev_Mof 378)) (pc := 15) (k := 1) (v := 1) (by decide +kernel) (by decide +kernel)) ?_
  rfl
theorem ev_k312 (x1 : Int32) (hl_x1 : (0 : Int) ≤ x1.toInt) (x2 : Int32) (hu_x2 : x2.toInt ≤ (-1 : Int)) {n : Nat} : ev_calld 12 334 [.ref 621, .int x1, .int x2] ev_H0 n = some (.inl (some (.int (0))), (ev_H0.set 621 (.inr (13, (ev_F621.set 0 (.int (1)))))), n, 0, 0) := by
  refine ev_call_int (k := 11) (pcR := 33) (lv' := [(0, .ref 621), (1, .int x1), (2, .int x2)]) (v := (0)) (ty := .int) (by decide +kernel) rfl ?_ (by decide +kernel) (by decide +kernel) (by decide +kernel) (by decide)
  show ev_stepn _ 11 (0, [(0, .ref 621), (1, .int x1), (2, .int x2)], [], _, _, 0, 0) = _
  refine ev_go0 (ev_one_pure (M := (ev_Mof 334)) (pc := 0) (i := .aload_n 0) (len := 1) (pc' := 1) (lv' := [(0, .ref 621), (1, .int x1), (2, .int x2)]) (st' := [.ref 621]) (by decide +kernel) rfl) ?_
  refine ev_go0 (ev_one_pure (M := (ev_Mof 334)) (pc := 1) (i := .aload_n 0) (len := 1) (pc' := 2) (lv' := [(0, .ref 621), (1, .int x1), (2, .int x2)]) (st' := [.ref 621, .ref 621]) (by decide +kernel) rfl) ?_
  refine ev_go0 (ev_one_pure (M := (ev_Mof 334)) (pc := 2) (i := .iload_n 1) (len := 1) (pc' := 3) (lv' := [(0, .ref 621), (1, .int x1), (2, .int x2)]) (st' := [.int x1, .ref 621, .ref 621]) (by decide +kernel) rfl) ?_
  refine ev_go0 (ev_p_virt (M := (ev_Mof 334)) (pc := 3) (x := 531) (mi := 273) (na := 1) (by decide +kernel) (by decide +kernel) (by decide +kernel) (by decide +kernel) rfl rfl (ev_recv_of ev_fH621) (ev_k30 x1 hl_x1)) ?_
  refine ev_go0 (ev_w_if (M := (ev_Mof 334)) (pc := 6) (q := .eq) (o := 15) (b := true) (t := 21) (by decide +kernel) (by decide +kernel) rfl) ?_
  refine ev_go0 (ev_w_iconst (M := (ev_Mof 334)) (pc := 21) (k := 1) (v := 1) (by decide +kernel) (by decide +kernel)) ?_
  refine ev_go0 (ev_p_putf (M := (ev_Mof 334)) (pc := 22) (x := 321) (ci := 13) (f := 0) (by decide +kernel) (by decide +kernel) ev_fH621 rfl (by decide +kernel)) ?_
  refine ev_go0 (ev_one_pure (M := (ev_Mof 334)) (pc := 25) (i := .aload_n 0) (len := 1) (pc' := 26) (lv' := [(0, .ref 621), (1, .int x1), (2, .int x2)]) (st' := [.ref 621]) (by decide +kernel) rfl) ?_
  refine ev_go0 (ev_p_getf (M := (ev_Mof 334)) (pc := 26) (x := 321) (ci := 13) (f := 0) (fin := 0) (v := .int (1)) (by decide +kernel) (by decide +kernel) (ev_hself ev_fH621) rfl) ?_
  refine ev_go0 (ev_w_if (M := (ev_Mof 334)) (pc := 29) (q := .le) (o := 5) (b := false) (t := 32) (by decide +kernel) (by decide +kernel) rfl) ?_
  refine ev_go0 (ev_w_iconst (M := (ev_Mof 334)) (pc := 32) (k := 0) (v := 0) (by decide +kernel) (by decide +kernel)) ?_
  rfl
theorem ev_p1_15_pn (xs : Nat → Int32) (x1 : Int32) (hl_x1 : (0 : Int) ≤ x1.toInt) (x2 : Int32) (hu_x2 : x2.toInt ≤ (-1 : Int)) (e1 : xs 1 = x1) (e2 : xs 2 = x2) : ev_P1 xs 1160 := by
  refine ⟨34, [(6, .int (0)), (5, .int (1)), (4, .int (0)), (3, .ref 723), (2, .ref 621), (1, .ref 0), (0, .retAddr 0)], (ev_H0.set 621 (.inr (13, (ev_F621.set 0 (.int (1)))))), 724, 725, 3553592, ?_, ⟨rfl, rfl, rfl, rfl⟩, rfl, by decide, by decide⟩
  show ev_stepn _ _ (1160, [(4, .int (0)), (3, .ref 723), (2, .ref 621), (1, .ref 0), (0, .retAddr 0)], [], _, _, _, _) = _
  refine ev_go0 (ev_one_pure (M := ev_Mlaw) (pc := 1160) (i := .aload_n 1) (len := 1) (pc' := 1161) (lv' := [(4, .int (0)), (3, .ref 723), (2, .ref 621), (1, .ref 0), (0, .retAddr 0)]) (st' := [.ref 0]) (by decide +kernel) rfl) ?_
  refine ev_go0 (ev_one_pure (M := ev_Mlaw) (pc := 1161) (i := .aload_n 0) (len := 1) (pc' := 1162) (lv' := [(4, .int (0)), (3, .ref 723), (2, .ref 621), (1, .ref 0), (0, .retAddr 0)]) (st' := [.retAddr 0, .ref 0]) (by decide +kernel) rfl) ?_
  refine ev_go0 (ev_one_pure (M := ev_Mlaw) (pc := 1162) (i := .iload 4) (len := 2) (pc' := 1164) (lv' := [(4, .int (0)), (3, .ref 723), (2, .ref 621), (1, .ref 0), (0, .retAddr 0)]) (st' := [.int (0), .retAddr 0, .ref 0]) (by decide +kernel) rfl) ?_
  refine ev_go0 (ev_w_iconst (M := ev_Mlaw) (pc := 1164) (k := 1) (v := 1) (by decide +kernel) (by decide +kernel)) ?_
  refine ev_go0 (ev_w_iadd (M := ev_Mlaw) (pc := 1165) (v := (1)) (by decide +kernel) (by decide +kernel)) ?_
  refine ev_go0 (ev_w_scr (M := ev_Mlaw) (pc := 1166) (v := x1) (j := 1) (by decide +kernel) (by decide +kernel) (by decide +kernel) e1) ?_
  refine ev_go0 (ev_one_pure (M := ev_Mlaw) (pc := 1167) (i := .aload_n 0) (len := 1) (pc' := 1168) (lv' := [(4, .int (0)), (3, .ref 723), (2, .ref 621), (1, .ref 0), (0, .retAddr 0)]) (st' := [.retAddr 0, .int x1, .ref 0]) (by decide +kernel) rfl) ?_
  refine ev_go0 (ev_one_pure (M := ev_Mlaw) (pc := 1168) (i := .iload 4) (len := 2) (pc' := 1170) (lv' := [(4, .int (0)), (3, .ref 723), (2, .ref 621), (1, .ref 0), (0, .retAddr 0)]) (st' := [.int (0), .retAddr 0, .int x1, .ref 0]) (by decide +kernel) rfl) ?_
  refine ev_go0 (ev_w_iconst (M := ev_Mlaw) (pc := 1170) (k := 2) (v := 2) (by decide +kernel) (by decide +kernel)) ?_
  refine ev_go0 (ev_w_iadd (M := ev_Mlaw) (pc := 1171) (v := (2)) (by decide +kernel) (by decide +kernel)) ?_
  refine ev_go0 (ev_w_scr (M := ev_Mlaw) (pc := 1172) (v := x2) (j := 2) (by decide +kernel) (by decide +kernel) (by decide +kernel) e2) ?_
  refine ev_go0 (ev_one_pure (M := ev_Mlaw) (pc := 1173) (i := .aload_n 3) (len := 1) (pc' := 1174) (lv' := [(4, .int (0)), (3, .ref 723), (2, .ref 621), (1, .ref 0), (0, .retAddr 0)]) (st' := [.ref 723, .int x2, .int x1, .ref 0]) (by decide +kernel) rfl) ?_
  refine ev_go (ev_w_stat (M := ev_Mlaw) (pc := 1174) (y := 182) (kind := 8) (Or.inr (Or.inr rfl)) (mi := 378) (na := 4) (by decide +kernel) (by decide +kernel) (by decide +kernel) (by decide +kernel) rfl rfl (ev_k311 x1 hl_x1 x2 hu_x2)) ?_
  refine ev_go0 (ev_w_istore (M := ev_Mlaw) (pc := 1177) (k := 5) (lv' := [(5, .int (1)), (4, .int (0)), (3, .ref 723), (2, .ref 621), (1, .ref 0), (0, .retAddr 0)]) (by decide +kernel) (by decide +kernel) rfl) ?_
  refine ev_go0 (ev_one_pure (M := ev_Mlaw) (pc := 1179) (i := .aload_n 2) (len := 1) (pc' := 1180) (lv' := [(5, .int (1)), (4, .int (0)), (3, .ref 723), (2, .ref 621), (1, .ref 0), (0, .retAddr 0)]) (st' := [.ref 621]) (by decide +kernel) rfl) ?_
  refine ev_go0 (ev_one_pure (M := ev_Mlaw) (pc := 1180) (i := .aload_n 0) (len := 1) (pc' := 1181) (lv' := [(5, .int (1)), (4, .int (0)), (3, .ref 723), (2, .ref 621), (1, .ref 0), (0, .retAddr 0)]) (st' := [.retAddr 0, .ref 621]) (by decide +kernel) rfl) ?_
  refine ev_go0 (ev_one_pure (M := ev_Mlaw) (pc := 1181) (i := .iload 4) (len := 2) (pc' := 1183) (lv' := [(5, .int (1)), (4, .int (0)), (3, .ref 723), (2, .ref 621), (1, .ref 0), (0, .retAddr 0)]) (st' := [.int (0), .retAddr 0, .ref 621]) (by decide +kernel) rfl) ?_
  refine ev_go0 (ev_w_iconst (M := ev_Mlaw) (pc := 1183) (k := 1) (v := 1) (by decide +kernel) (by decide +kernel)) ?_
  refine ev_go0 (ev_w_iadd (M := ev_Mlaw) (pc := 1184) (v := (1)) (by decide +kernel) (by decide +kernel)) ?_
  refine ev_go0 (ev_w_scr (M := ev_Mlaw) (pc := 1185) (v := x1) (j := 1) (by decide +kernel) (by decide +kernel) (by decide +kernel) e1) ?_
  refine ev_go0 (ev_one_pure (M := ev_Mlaw) (pc := 1186) (i := .aload_n 0) (len := 1) (pc' := 1187) (lv' := [(5, .int (1)), (4, .int (0)), (3, .ref 723), (2, .ref 621), (1, .ref 0), (0, .retAddr 0)]) (st' := [.retAddr 0, .int x1, .ref 621]) (by decide +kernel) rfl) ?_
  refine ev_go0 (ev_one_pure (M := ev_Mlaw) (pc := 1187) (i := .iload 4) (len := 2) (pc' := 1189) (lv' := [(5, .int (1)), (4, .int (0)), (3, .ref 723), (2, .ref 621), (1, .ref 0), (0, .retAddr 0)]) (st' := [.int (0), .retAddr 0, .int x1, .ref 621]) (by decide +kernel) rfl) ?_
  refine ev_go0 (ev_w_iconst (M := ev_Mlaw) (pc := 1189) (k := 2) (v := 2) (by decide +kernel) (by decide +kernel)) ?_
  refine ev_go0 (ev_w_iadd (M := ev_Mlaw) (pc := 1190) (v := (2)) (by decide +kernel) (by decide +kernel)) ?_
  refine ev_go0 (ev_w_scr (M := ev_Mlaw) (pc := 1191) (v := x2) (j := 2) (by decide +kernel) (by decide +kernel) (by decide +kernel) e2) ?_
  refine ev_go0 (ev_p_virt (M := ev_Mlaw) (pc := 1192) (x := 184) (mi := 334) (na := 2) (by decide +kernel) (by decide +kernel) (by decide +kernel) (by decide +kernel) rfl rfl (ev_recv_of ev_fH621) (ev_k312 x1 hl_x1 x2 hu_x2)) ?_
  refine ev_go0 (ev_w_istore (M := ev_Mlaw) (pc := 1195) (k := 6) (lv' := [(6, .int (0)), (5, .int (1)), (4, .int (0)), (3, .ref 723), (2, .ref 621), (1, .ref 0), (0, .retAddr 0)]) (by decide +kernel) (by decide +kernel) rfl) ?_
  refine ev_go0 (ev_one_pure (M := ev_Mlaw) (pc := 1197) (i := .aload_n 2) (len := 1) (pc' := 1198) (lv' := [(6, .int (0)), (5, .int (1)), (4, .int (0)), (3, .ref 723), (2, .ref 621), (1, .ref 0), (0, .retAddr 0)]) (st' := [.ref 621]) (by decide +kernel) rfl) ?_
  refine ev_go0 (ev_p_virt (M := ev_Mlaw) (pc := 1198) (x := 131) (mi := 220) (na := 0) (by decide +kernel) (by decide +kernel) (by decide +kernel) (by decide +kernel) rfl rfl (ev_recv_of (ev_hself ev_fH621)) ev_k26) ?_
  refine ev_go0 (ev_one_pure (M := ev_Mlaw) (pc := 1201) (i := .iload 5) (len := 2) (pc' := 1203) (lv' := [(6, .int (0)), (5, .int (1)), (4, .int (0)), (3, .ref 723), (2, .ref 621), (1, .ref 0), (0, .retAddr 0)]) (st' := [.int (1), .int (1)]) (by decide +kernel) rfl) ?_
  refine ev_go0 (ev_w_icmp (M := ev_Mlaw) (pc := 1203) (q := .eq) (o := 5) (b := true) (t := 1208) (by decide +kernel) (by decide +kernel) rfl) ?_
  refine ev_go0 (ev_one_pure (M := ev_Mlaw) (pc := 1208) (i := .iload 5) (len := 2) (pc' := 1210) (lv' := [(6, .int (0)), (5, .int (1)), (4, .int (0)), (3, .ref 723), (2, .ref 621), (1, .ref 0), (0, .retAddr 0)]) (st' := [.int (1)]) (by decide +kernel) rfl) ?_
  refine ev_go0 (ev_w_if (M := ev_Mlaw) (pc := 1210) (q := .ne) (o := 15) (b := true) (t := 1225) (by decide +kernel) (by decide +kernel) rfl) ?_
  refine ev_go0 (ev_one_pure (M := ev_Mlaw) (pc := 1225) (i := .goto 1047) (len := 3) (pc' := 2272) (lv' := [(6, .int (0)), (5, .int (1)), (4, .int (0)), (3, .ref 723), (2, .ref 621), (1, .ref 0), (0, .retAddr 0)]) (st' := []) (by decide +kernel) rfl) ?_
  rfl
theorem ev_k313 (x1 : Int32) (hl_x1 : (0 : Int) ≤ x1.toInt) {n : Nat} : ev_calld 11 181 [.ref 0, .int x1, .int (0)] ev_H0 n = some (.inr "java/lang/IndexOutOfBoundsException", ev_H0, n, 1, 6) := by
  refine ev_call_thrown (k := 11) (pcR := 25) (x := 160) (lv' := [(4, .ref 263), (3, .null), (0, .ref 0), (1, .int x1), (2, .int (0))]) (by decide +kernel) rfl ?_ (by decide +kernel) (by decide +kernel) (by decide +kernel) (by decide) (by decide)
  show ev_stepn _ 11 (0, [(0, .ref 0), (1, .int x1), (2, .int (0))], [], _, _, 0, 0) = _
  refine ev_go0 (ev_one_pure (M := (ev_Mof 181)) (pc := 0) (i := .aload_n 0) (len := 1) (pc' := 1) (lv' := [(0, .ref 0), (1, .int x1), (2, .int (0))]) (st' := [.ref 0]) (by decide +kernel) rfl) ?_
  refine ev_go0 (ev_one_pure (M := (ev_Mof 181)) (pc := 1) (i := .iload_n 1) (len := 1) (pc' := 2) (lv' := [(0, .ref 0), (1, .int x1), (2, .int (0))]) (st' := [.int x1, .ref 0]) (by decide +kernel) rfl) ?_
  refine ev_go0 (ev_p_virt (M := (ev_Mof 181)) (pc := 2) (x := 156) (mi := 200) (na := 1) (by decide +kernel) (by decide +kernel) (by decide +kernel) (by decide +kernel) rfl rfl (ev_recv_of ev_fH0) (ev_k9 x1 hl_x1)) ?_
  refine ev_go0 (ev_w_astore_n (M := (ev_Mof 181)) (pc := 5) (k := 3) (lv' := [(3, .null), (0, .ref 0), (1, .int x1), (2, .int (0))]) (by decide +kernel) (by decide +kernel) (Or.inr (Or.inl rfl)) rfl) ?_
  refine ev_go0 (ev_one_pure (M := (ev_Mof 181)) (pc := 6) (i := .aload_n 0) (len := 1) (pc' := 7) (lv' := [(3, .null), (0, .ref 0), (1, .int x1), (2, .int (0))]) (st' := [.ref 0]) (by decide +kernel) rfl) ?_
  refine ev_go0 (ev_p_getf (M := (ev_Mof 181)) (pc := 7) (x := 48) (ci := 12) (f := 8) (fin := 1) (v := .ref 254) (by decide +kernel) (by decide +kernel) ev_fH0 rfl) ?_
  refine ev_go0 (ev_one_pure (M := (ev_Mof 181)) (pc := 10) (i := .iload_n 2) (len := 1) (pc' := 11) (lv' := [(3, .null), (0, .ref 0), (1, .int x1), (2, .int (0))]) (st' := [.int (0), .ref 254]) (by decide +kernel) rfl) ?_
  refine ev_go0 (ev_p_virt (M := (ev_Mof 181)) (pc := 11) (x := 221) (mi := 1) (na := 1) (by decide +kernel) (by decide +kernel) (by decide +kernel) (by decide +kernel) rfl rfl (ev_recv_of ev_fH254) ev_k234) ?_
  refine ev_go0 (ev_w_astore (M := (ev_Mof 181)) (pc := 14) (k := 4) (lv' := [(4, .ref 263), (3, .null), (0, .ref 0), (1, .int x1), (2, .int (0))]) (by decide +kernel) (by decide +kernel) (Or.inl ⟨_, rfl⟩) rfl) ?_
  refine ev_go0 (ev_one_pure (M := (ev_Mof 181)) (pc := 16) (i := .aload_n 3) (len := 1) (pc' := 17) (lv' := [(4, .ref 263), (3, .null), (0, .ref 0), (1, .int x1), (2, .int (0))]) (st' := [.null]) (by decide +kernel) rfl) ?_
  refine ev_go0 (ev_w_ifnull (M := (ev_Mof 181)) (pc := 17) (o := 8) (t := 25) (by decide +kernel) (Or.inl ⟨rfl, rfl⟩)) ?_
  rfl
theorem ev_k314 (x1 : Int32) (hl_x1 : (0 : Int) ≤ x1.toInt) {n : Nat} : ev_calld 12 378 [.ref 0, .int x1, .int (0), .ref 723] ev_H0 n = some (.inl (some (.int (1))), ev_H0, n, 1, 6) := by
  refine ev_call_int (k := 8) (pcR := 16) (lv' := [(4, .retAddr 1), (0, .ref 0), (1, .int x1), (2, .int (0)), (3, .ref 723)]) (v := (1)) (ty := .int) (by decide +kernel) rfl ?_ (by decide +kernel) (by decide +kernel) (by decide +kernel) (by decide)
  show ev_stepn _ 8 (0, [(0, .ref 0), (1, .int x1), (2, .int (0)), (3, .ref 723)], [], _, _, 0, 0) = _
  refine ev_go0 (ev_one_pure (M := (ev_Mof 378)) (pc := 0) (i := .aload_n 3) (len := 1) (pc' := 1) (lv' := [(0, .ref 0), (1, .int x1), (2, .int (0)), (3, .ref 723)]) (st' := [.ref 723]) (by decide +kernel) rfl) ?_
  refine ev_go0 (ev_w_iconst (M := (ev_Mof 378)) (pc := 1) (k := 0) (v := 0) (by decide +kernel) (by decide +kernel)) ?_
  refine ev_go0 (ev_one_pure (M := (ev_Mof 378)) (pc := 2) (i := .aload_n 0) (len := 1) (pc' := 3) (lv' := [(0, .ref 0), (1, .int x1), (2, .int (0)), (3, .ref 723)]) (st' := [.ref 0, .int (0), .ref 723]) (by decide +kernel) rfl) ?_
  refine ev_go0 (ev_one_pure (M := (ev_Mof 378)) (pc := 3) (i := .iload_n 1) (len := 1) (pc' := 4) (lv' := [(0, .ref 0), (1, .int x1), (2, .int (0)), (3, .ref 723)]) (st' := [.int x1, .ref 0, .int (0), .ref 723]) (by decide +kernel) rfl) ?_
  refine ev_go0 (ev_one_pure (M := (ev_Mof 378)) (pc := 4) (i := .iload_n 2) (len := 1) (pc' := 5) (lv' := [(0, .ref 0), (1, .int x1), (2, .int (0)), (3, .ref 723)]) (st' := [.int (0), .int x1, .ref 0, .int (0), .ref 723]) (by decide +kernel) rfl) ?_
  refine ev_go (ev_p_virtX (M := (ev_Mof 378)) (pc := 5) (x := 64) (t := 13) (mi := 181) (na := 2) (by decide +kernel) (by decide +kernel) (by decide +kernel) (by decide +kernel) rfl rfl (ev_recv_of ev_fH0) (ev_k313 x1 hl_x1) (by decide +kernel)) ?_
  refine ev_go0 (ev_w_astore (M := (ev_Mof 378)) (pc := 13) (k := 4) (lv' := [(4, .retAddr 1), (0, .ref 0), (1, .int x1), (2, .int (0)), (3, .ref 723)]) (by decide +kernel) (by decide +kernel) (Or.inr (Or.inr ⟨_, rfl⟩)) rfl) ?_
  refine ev_go0 (ev_w_iconst (M := (ev_Mof 378)) (pc := 15) (k := 1) (v := 1) (by decide +kernel) (by decide +kernel)) ?_
  rfl
theorem ev_k315 (x1 : Int32) (hl_x1 : (0 : Int) ≤ x1.toInt) {n : Nat} : ev_calld 12 334 [.ref 621, .int x1, .int (0)] ev_H0 n = some (.inl (some (.int (0))), (ev_H0.set 621 (.inr (13, (ev_F621.set 0 (.int (1)))))), n, 0, 0) := by
  refine ev_call_int (k := 11) (pcR := 33) (lv' := [(0, .ref 621), (1, .int x1), (2, .int (0))]) (v := (0)) (ty := .int) (by decide +kernel) rfl ?_ (by decide +kernel) (by decide +kernel) (by decide +kernel) (by decide)
  show ev_stepn _ 11 (0, [(0, .ref 621), (1, .int x1), (2, .int (0))], [], _, _, 0, 0) = _
  refine ev_go0 (ev_one_pure (M := (ev_Mof 334)) (pc := 0) (i := .aload_n 0) (len := 1) (pc' := 1) (lv' := [(0, .ref 621), (1, .int x1), (2, .int (0))]) (st' := [.ref 621]) (by decide +kernel) rfl) ?_
  refine ev_go0 (ev_one_pure (M := (ev_Mof 334)) (pc := 1) (i := .aload_n 0) (len := 1) (pc' := 2) (lv' := [(0, .ref 621), (1, .int x1), (2, .int (0))]) (st' := [.ref 621, .ref 621]) (by decide +kernel) rfl) ?_
  refine ev_go0 (ev_one_pure (M := (ev_Mof 334)) (pc := 2) (i := .iload_n 1) (len := 1) (pc' := 3) (lv' := [(0, .ref 621), (1, .int x1), (2, .int (0))]) (st' := [.int x1, .ref 621, .ref 621]) (by decide +kernel) rfl) ?_
  refine ev_go0 (ev_p_virt (M := (ev_Mof 334)) (pc := 3) (x := 531) (mi := 273) (na := 1) (by decide +kernel) (by decide +kernel) (by decide +kernel) (by decide +kernel) rfl rfl (ev_recv_of ev_fH621) (ev_k30 x1 hl_x1)) ?_
  refine ev_go0 (ev_w_if (M := (ev_Mof 334)) (pc := 6) (q := .eq) (o := 15) (b := true) (t := 21) (by decide +kernel) (by decide +kernel) rfl) ?_
  refine ev_go0 (ev_w_iconst (M := (ev_Mof 334)) (pc := 21) (k := 1) (v := 1) (by decide +kernel) (by decide +kernel)) ?_
  refine ev_go0 (ev_p_putf (M := (ev_Mof 334)) (pc := 22) (x := 321) (ci := 13) (f := 0) (by decide +kernel) (by decide +kernel) ev_fH621 rfl (by decide +kernel)) ?_
  refine ev_go0 (ev_one_pure (M := (ev_Mof 334)) (pc := 25) (i := .aload_n 0) (len := 1) (pc' := 26) (lv' := [(0, .ref 621), (1, .int x1), (2, .int (0))]) (st' := [.ref 621]) (by decide +kernel) rfl) ?_
  refine ev_go0 (ev_p_getf (M := (ev_Mof 334)) (pc := 26) (x := 321) (ci := 13) (f := 0) (fin := 0) (v := .int (1)) (by decide +kernel) (by decide +kernel) (ev_hself ev_fH621) rfl) ?_
  refine ev_go0 (ev_w_if (M := (ev_Mof 334)) (pc := 29) (q := .le) (o := 5) (b := false) (t := 32) (by decide +kernel) (by decide +kernel) rfl) ?_
  refine ev_go0 (ev_w_iconst (M := (ev_Mof 334)) (pc := 32) (k := 0) (v := 0) (by decide +kernel) (by decide +kernel)) ?_
  rfl
theorem ev_p1_15_p0 (xs : Nat → Int32) (x1 : Int32) (hl_x1 : (0 : Int) ≤ x1.toInt) (e1 : xs 1 = x1) (e2 : xs 2 = (0)) : ev_P1 xs 1160 := by
  refine ⟨34, [(6, .int (0)), (5, .int (1)), (4, .int (0)), (3, .ref 723), (2, .ref 621), (1, .ref 0), (0, .retAddr 0)], (ev_H0.set 621 (.inr (13, (ev_F621.set 0 (.int (1)))))), 724, 725, 3553592, ?_, ⟨rfl, rfl, rfl, rfl⟩, rfl, by decide, by decide⟩
  show ev_stepn _ _ (1160, [(4, .int (0)), (3, .ref 723), (2, .ref 621), (1, .ref 0), (0, .retAddr 0)], [], _, _, _, _) = _
  refine ev_go0 (ev_one_pure (M := ev_Mlaw) (pc := 1160) (i := .aload_n 1) (len := 1) (pc' := 1161) (lv' := [(4, .int (0)), (3, .ref 723), (2, .ref 621), (1, .ref 0), (0, .retAddr 0)]) (st' := [.ref 0]) (by decide +kernel) rfl) ?_
  refine ev_go0 (ev_one_pure (M := ev_Mlaw) (pc := 1161) (i := .aload_n 0) (len := 1) (pc' := 1162) (lv' := [(4, .int (0)), (3, .ref 723), (2, .ref 621), (1, .ref 0), (0, .retAddr 0)]) (st' := [.retAddr 0, .ref 0]) (by decide +kernel) rfl) ?_
  refine ev_go0 (ev_one_pure (M := ev_Mlaw) (pc := 1162) (i := .iload 4) (len := 2) (pc' := 1164) (lv' := [(4, .int (0)), (3, .ref 723), (2, .ref 621), (1, .ref 0), (0, .retAddr 0)]) (st' := [.int (0), .retAddr 0, .ref 0]) (by decide +kernel) rfl) ?_
  refine ev_go0 (ev_w_iconst (M := ev_Mlaw) (pc := 1164) (k := 1) (v := 1) (by decide +kernel) (by decide +kernel)) ?_
  refine ev_go0 (ev_w_iadd (M := ev_Mlaw) (pc := 1165) (v := (1)) (by decide +kernel) (by decide +kernel)) ?_
  refine ev_go0 (ev_w_scr (M := ev_Mlaw) (pc := 1166) (v := x1) (j := 1) (by decide +kernel) (by decide +kernel) (by decide +kernel) e1) ?_
  refine ev_go0 (ev_one_pure (M := ev_Mlaw) (pc := 1167) (i := .aload_n 0) (len := 1) (pc' := 1168) (lv' := [(4, .int (0)), (3, .ref 723), (2, .ref 621), (1, .ref 0), (0, .retAddr 0)]) (st' := [.retAddr 0, .int x1, .ref 0]) (by decide +kernel) rfl) ?_
  refine ev_go0 (ev_one_pure (M := ev_Mlaw) (pc := 1168) (i := .iload 4) (len := 2) (pc' := 1170) (lv' := [(4, .int (0)), (3, .ref 723), (2, .ref 621), (1, .ref 0), (0, .retAddr 0)]) (st' := [.int (0), .retAddr 0, .int x1, .ref 0]) (by decide +kernel) rfl) ?_
  refine ev_go0 (ev_w_iconst (M := ev_Mlaw) (pc := 1170) (k := 2) (v := 2) (by decide +kernel) (by decide +kernel)) ?_
  refine ev_go0 (ev_w_iadd (M := ev_Mlaw) (pc := 1171) (v := (2)) (by decide +kernel) (by decide +kernel)) ?_
  refine ev_go0 (ev_w_scr (M := ev_Mlaw) (pc := 1172) (v := (0)) (j := 2) (by decide +kernel) (by decide +kernel) (by decide +kernel) e2) ?_
  refine ev_go0 (ev_one_pure (M := ev_Mlaw) (pc := 1173) (i := .aload_n 3) (len := 1) (pc' := 1174) (lv' := [(4, .int (0)), (3, .ref 723), (2, .ref 621), (1, .ref 0), (0, .retAddr 0)]) (st' := [.ref 723, .int (0), .int x1, .ref 0]) (by decide +kernel) rfl) ?_
  refine ev_go (ev_w_stat (M := ev_Mlaw) (pc := 1174) (y := 182) (kind := 8) (Or.inr (Or.inr rfl)) (mi := 378) (na := 4) (by decide +kernel) (by decide +kernel) (by decide +kernel) (by decide +kernel) rfl rfl (ev_k314 x1 hl_x1)) ?_
  refine ev_go0 (ev_w_istore (M := ev_Mlaw) (pc := 1177) (k := 5) (lv' := [(5, .int (1)), (4, .int (0)), (3, .ref 723), (2, .ref 621), (1, .ref 0), (0, .retAddr 0)]) (by decide +kernel) (by decide +kernel) rfl) ?_
  refine ev_go0 (ev_one_pure (M := ev_Mlaw) (pc := 1179) (i := .aload_n 2) (len := 1) (pc' := 1180) (lv' := [(5, .int (1)), (4, .int (0)), (3, .ref 723), (2, .ref 621), (1, .ref 0), (0, .retAddr 0)]) (st' := [.ref 621]) (by decide +kernel) rfl) ?_
  refine ev_go0 (ev_one_pure (M := ev_Mlaw) (pc := 1180) (i := .aload_n 0) (len := 1) (pc' := 1181) (lv' := [(5, .int (1)), (4, .int (0)), (3, .ref 723), (2, .ref 621), (1, .ref 0), (0, .retAddr 0)]) (st' := [.retAddr 0, .ref 621]) (by decide +kernel) rfl) ?_
  refine ev_go0 (ev_one_pure (M := ev_Mlaw) (pc := 1181) (i := .iload 4) (len := 2) (pc' := 1183) (lv' := [(5, .int (1)), (4, .int (0)), (3, .ref 723), (2, .ref 621), (1, .ref 0), (0, .retAddr 0)]) (st' := [.int (0), .retAddr 0, .ref 621]) (by decide +kernel) rfl) ?_
  refine ev_go0 (ev_w_iconst (M := ev_Mlaw) (pc := 1183) (k := 1) (v := 1) (by decide +kernel) (by decide +kernel)) ?_
  refine ev_go0 (ev_w_iadd (M := ev_Mlaw) (pc := 1184) (v := (1)) (by decide +kernel) (by decide +kernel)) ?_
  refine ev_go0 (ev_w_scr (M := ev_Mlaw) (pc := 1185) (v := x1) (j := 1) (by decide +kernel) (by decide +kernel) (by decide +kernel) e1) ?_
  refine ev_go0 (ev_one_pure (M := ev_Mlaw) (pc := 1186) (i := .aload_n 0) (len := 1) (pc' := 1187) (lv' := [(5, .int (1)), (4, .int (0)), (3, .ref 723), (2, .ref 621), (1, .ref 0), (0, .retAddr 0)]) (st' := [.retAddr 0, .int x1, .ref 621]) (by decide +kernel) rfl) ?_
  refine ev_go0 (ev_one_pure (M := ev_Mlaw) (pc := 1187) (i := .iload 4) (len := 2) (pc' := 1189) (lv' := [(5, .int (1)), (4, .int (0)), (3, .ref 723), (2, .ref 621), (1, .ref 0), (0, .retAddr 0)]) (st' := [.int (0), .retAddr 0, .int x1, .ref 621]) (by decide +kernel) rfl) ?_
  refine ev_go0 (ev_w_iconst (M := ev_Mlaw) (pc := 1189) (k := 2) (v := 2) (by decide +kernel) (by decide +kernel)) ?_
  refine ev_go0 (ev_w_iadd (M := ev_Mlaw) (pc := 1190) (v := (2)) (by decide +kernel) (by decide +kernel)) ?_
  refine ev_go0 (ev_w_scr (M := ev_Mlaw) (pc := 1191) (v := (0)) (j := 2) (by decide +kernel) (by decide +kernel) (by decide +kernel) e2) ?_
  refine ev_go0 (ev_p_virt (M := ev_Mlaw) (pc := 1192) (x := 184) (mi := 334) (na := 2) (by decide +kernel) (by decide +kernel) (by decide +kernel) (by decide +kernel) rfl rfl (ev_recv_of ev_fH621) (ev_k315 x1 hl_x1)) ?_
  refine ev_go0 (ev_w_istore (M := ev_Mlaw) (pc := 1195) (k := 6) (lv' := [(6, .int (0)), (5, .int (1)), (4, .int (0)), (3, .ref 723), (2, .ref 621), (1, .ref 0), (0, .retAddr 0)]) (by decide +kernel) (by decide +kernel) rfl) ?_
  refine ev_go0 (ev_one_pure (M := ev_Mlaw) (pc := 1197) (i := .aload_n 2) (len := 1) (pc' := 1198) (lv' := [(6, .int (0)), (5, .int (1)), (4, .int (0)), (3, .ref 723), (2, .ref 621), (1, .ref 0), (0, .retAddr 0)]) (st' := [.ref 621]) (by decide +kernel) rfl) ?_
  refine ev_go0 (ev_p_virt (M := ev_Mlaw) (pc := 1198) (x := 131) (mi := 220) (na := 0) (by decide +kernel) (by decide +kernel) (by decide +kernel) (by decide +kernel) rfl rfl (ev_recv_of (ev_hself ev_fH621)) ev_k26) ?_
  refine ev_go0 (ev_one_pure (M := ev_Mlaw) (pc := 1201) (i := .iload 5) (len := 2) (pc' := 1203) (lv' := [(6, .int (0)), (5, .int (1)), (4, .int (0)), (3, .ref 723), (2, .ref 621), (1, .ref 0), (0, .retAddr 0)]) (st' := [.int (1), .int (1)]) (by decide +kernel) rfl) ?_
  refine ev_go0 (ev_w_icmp (M := ev_Mlaw) (pc := 1203) (q := .eq) (o := 5) (b := true) (t := 1208) (by decide +kernel) (by decide +kernel) rfl) ?_
  refine ev_go0 (ev_one_pure (M := ev_Mlaw) (pc := 1208) (i := .iload 5) (len := 2) (pc' := 1210) (lv' := [(6, .int (0)), (5, .int (1)), (4, .int (0)), (3, .ref 723), (2, .ref 621), (1, .ref 0), (0, .retAddr 0)]) (st' := [.int (1)]) (by decide +kernel) rfl) ?_
  refine ev_go0 (ev_w_if (M := ev_Mlaw) (pc := 1210) (q := .ne) (o := 15) (b := true) (t := 1225) (by decide +kernel) (by decide +kernel) rfl) ?_
  refine ev_go0 (ev_one_pure (M := ev_Mlaw) (pc := 1225) (i := .goto 1047) (len := 3) (pc' := 2272) (lv' := [(6, .int (0)), (5, .int (1)), (4, .int (0)), (3, .ref 723), (2, .ref 621), (1, .ref 0), (0, .retAddr 0)]) (st' := []) (by decide +kernel) rfl) ?_
  rfl
theorem ev_k316 (x1 : Int32) (hl_x1 : (0 : Int) ≤ x1.toInt) {n : Nat} : ev_calld 11 181 [.ref 0, .int x1, .int (1)] ev_H0 n = some (.inr "java/lang/IndexOutOfBoundsException", ev_H0, n, 1, 6) := by
  refine ev_call_thrown (k := 11) (pcR := 25) (x := 160) (lv' := [(4, .ref 265), (3, .null), (0, .ref 0), (1, .int x1), (2, .int (1))]) (by decide +kernel) rfl ?_ (by decide +kernel) (by decide +kernel) (by decide +kernel) (by decide) (by decide)
  show ev_stepn _ 11 (0, [(0, .ref 0), (1, .int x1), (2, .int (1))], [], _, _, 0, 0) = _
  refine ev_go0 (ev_one_pure (M := (ev_Mof 181)) (pc := 0) (i := .aload_n 0) (len := 1) (pc' := 1) (lv' := [(0, .ref 0), (1, .int x1), (2, .int (1))]) (st' := [.ref 0]) (by decide +kernel) rfl) ?_
  refine ev_go0 (ev_one_pure (M := (ev_Mof 181)) (pc := 1) (i := .iload_n 1) (len := 1) (pc' := 2) (lv' := [(0, .ref 0), (1, .int x1), (2, .int (1))]) (st' := [.int x1, .ref 0]) (by decide +kernel) rfl) ?_
  refine ev_go0 (ev_p_virt (M := (ev_Mof 181)) (pc := 2) (x := 156) (mi := 200) (na := 1) (by decide +kernel) (by decide +kernel) (by decide +kernel) (by decide +kernel) rfl rfl (ev_recv_of ev_fH0) (ev_k9 x1 hl_x1)) ?_
  refine ev_go0 (ev_w_astore_n (M := (ev_Mof 181)) (pc := 5) (k := 3) (lv' := [(3, .null), (0, .ref 0), (1, .int x1), (2, .int (1))]) (by decide +kernel) (by decide +kernel) (Or.inr (Or.inl rfl)) rfl) ?_
  refine ev_go0 (ev_one_pure (M := (ev_Mof 181)) (pc := 6) (i := .aload_n 0) (len := 1) (pc' := 7) (lv' := [(3, .null), (0, .ref 0), (1, .int x1), (2, .int (1))]) (st' := [.ref 0]) (by decide +kernel) rfl) ?_
  refine ev_go0 (ev_p_getf (M := (ev_Mof 181)) (pc := 7) (x := 48) (ci := 12) (f := 8) (fin := 1) (v := .ref 254) (by decide +kernel) (by decide +kernel) ev_fH0 rfl) ?_
  refine ev_go0 (ev_one_pure (M := (ev_Mof 181)) (pc := 10) (i := .iload_n 2) (len := 1) (pc' := 11) (lv' := [(3, .null), (0, .ref 0), (1, .int x1), (2, .int (1))]) (st' := [.int (1), .ref 254]) (by decide +kernel) rfl) ?_
  refine ev_go0 (ev_p_virt (M := (ev_Mof 181)) (pc := 11) (x := 221) (mi := 1) (na := 1) (by decide +kernel) (by decide +kernel) (by decide +kernel) (by decide +kernel) rfl rfl (ev_recv_of ev_fH254) ev_k238) ?_
  refine ev_go0 (ev_w_astore (M := (ev_Mof 181)) (pc := 14) (k := 4) (lv' := [(4, .ref 265), (3, .null), (0, .ref 0), (1, .int x1), (2, .int (1))]) (by decide +kernel) (by decide +kernel) (Or.inl ⟨_, rfl⟩) rfl) ?_
  refine ev_go0 (ev_one_pure (M := (ev_Mof 181)) (pc := 16) (i := .aload_n 3) (len := 1) (pc' := 17) (lv' := [(4, .ref 265), (3, .null), (0, .ref 0), (1, .int x1), (2, .int (1))]) (st' := [.null]) (by decide +kernel) rfl) ?_
  refine ev_go0 (ev_w_ifnull (M := (ev_Mof 181)) (pc := 17) (o := 8) (t := 25) (by decide +kernel) (Or.inl ⟨rfl, rfl⟩)) ?_
  rfl
theorem ev_k317 (x1 : Int32) (hl_x1 : (0 : Int) ≤ x1.toInt) {n : Nat} : ev_calld 12 378 [.ref 0, .int x1, .int (1), .ref 723] ev_H0 n = some (.inl (some (.int (1))), ev_H0, n, 1, 6) := by
  refine ev_call_int (k := 8) (pcR := 16) (lv' := [(4, .retAddr 1), (0, .ref 0), (1, .int x1), (2, .int (1)), (3, .ref 723)]) (v := (1)) (ty := .int) (by decide +kernel) rfl ?_ (by decide +kernel) (by decide +kernel) (by decide +kernel) (by decide)
  show ev_stepn _ 8 (0, [(0, .ref 0), (1, .int x1), (2, .int (1)), (3, .ref 723)], [], _, _, 0, 0) = _
  refine ev_go0 (ev_one_pure (M := (ev_Mof 378)) (pc := 0) (i := .aload_n 3) (len := 1) (pc' := 1) (lv' := [(0, .ref 0), (1, .int x1), (2, .int (1)), (3, .ref 723)]) (st' := [.ref 723]) (by decide +kernel) rfl) ?_
  refine ev_go0 (ev_w_iconst (M := (ev_Mof 378)) (pc := 1) (k := 0) (v := 0) (by decide +kernel) (by decide +kernel)) ?_
  refine ev_go0 (ev_one_pure (M := (ev_Mof 378)) (pc := 2) (i := .aload_n 0) (len := 1) (pc' := 3) (lv' := [(0, .ref 0), (1, .int x1), (2, .int (1)), (3, .ref 723)]) (st' := [.ref 0, .int (0), .ref 723]) (by decide +kernel) rfl) ?_
  refine ev_go0 (ev_one_pure (M := (ev_Mof 378)) (pc := 3) (i := .iload_n 1) (len := 1) (pc' := 4) (lv' := [(0, .ref 0), (1, .int x1), (2, .int (1)), (3, .ref 723)]) (st' := [.int x1, .ref 0, .int (0), .ref 723]) (by decide +kernel) rfl) ?_
  refine ev_go0 (ev_one_pure (M := (ev_Mof 378)) (pc := 4) (i := .iload_n 2) (len := 1) (pc' := 5) (lv' := [(0, .ref 0), (1, .int x1), (2, .int (1)), (3, .ref 723)]) (st' := [.int (1), .int x1, .ref 0, .int (0), .ref 723]) (by decide +kernel) rfl) ?_
  refine ev_go (ev_p_virtX (M := (ev_Mof 378)) (pc := 5) (x := 64) (t := 13) (mi := 181) (na := 2) (by decide +kernel) (by decide +kernel) (by decide +kernel) (by decide +kernel) rfl rfl (ev_recv_of ev_fH0) (ev_k316 x1 hl_x1) (by decide +kernel)) ?_
  refine ev_go0 (ev_w_astore (M := (ev_Mof 378)) (pc := 13) (k := 4) (lv' := [(4, .retAddr 1), (0, .ref 0), (1, .int x1), (2, .int (1)), (3, .ref 723)]) (by decide +kernel) (by decide +kernel) (Or.inr (Or.inr ⟨_, rfl⟩)) rfl) ?_
  refine ev_go0 (ev_w_iconst (M := (ev_Mof 378)) (pc := 15) (k := 1) (v := 1) (by decide +kernel) (by decide +kernel)) ?_
  rfl
theorem ev_k318 (x1 : Int32) (hl_x1 : (0 : Int) ≤ x1.toInt) {n : Nat} : ev_calld 12 334 [.ref 621, .int x1, .int (1)] ev_H0 n = some (.inl (some (.int (0))), (ev_H0.set 621 (.inr (13, (ev_F621.set 0 (.int (1)))))), n, 0, 0) := by
  refine ev_call_int (k := 11) (pcR := 33) (lv' := [(0, .ref 621), (1, .int x1), (2, .int (1))]) (v := (0)) (ty := .int) (by decide +kernel) rfl ?_ (by decide +kernel) (by decide +kernel) (by decide +kernel) (by decide)
  show ev_stepn _ 11 (0, [(0, .ref 621), (1, .int x1), (2, .int (1))], [], _, _, 0, 0) = _
  refine ev_go0 (ev_one_pure (M := (ev_Mof 334)) (pc := 0) (i := .aload_n 0) (len := 1) (pc' := 1) (lv' := [(0, .ref 621), (1, .int x1), (2, .int (1))]) (st' := [.ref 621]) (by decide +kernel) rfl) ?_
  refine ev_go0 (ev_one_pure (M := (ev_Mof 334)) (pc := 1) (i := .aload_n 0) (len := 1) (pc' := 2) (lv' := [(0, .ref 621), (1, .int x1), (2, .int (1))]) (st' := [.ref 621, .ref 621]) (by decide +kernel) rfl) ?_
  refine ev_go0 (ev_one_pure (M := (ev_Mof 334)) (pc := 2) (i := .iload_n 1) (len := 1) (pc' := 3) (lv' := [(0, .ref 621), (1, .int x1), (2, .int (1))]) (st' := [.int x1, .ref 621, .ref 621]) (by decide +kernel) rfl) ?_
  refine ev_go0 (ev_p_virt (M := (ev_Mof 334)) (pc := 3) (x := 531) (mi := 273) (na := 1) (by decide +kernel) (by decide +kernel) (by decide +kernel) (by decide +kernel) rfl rfl (ev_recv_of ev_fH621) (ev_k30 x1 hl_x1)) ?_
  refine ev_go0 (ev_w_if (M := (ev_Mof 334)) (pc := 6) (q := .eq) (o := 15) (b := true) (t := 21) (by decide +kernel) (by decide +kernel) rfl) ?_
  refine ev_go0 (ev_w_iconst (M := (ev_Mof 334)) (pc := 21) (k := 1) (v := 1) (by decide +kernel) (by decide +kernel)) ?_
  refine ev_go0 (ev_p_putf (M := (ev_Mof 334)) (pc := 22) (x := 321) (ci := 13) (f := 0) (by decide +kernel) (by decide +kernel) ev_fH621 rfl (by decide +kernel)) ?_
  refine ev_go0 (ev_one_pure (M := (ev_Mof 334)) (pc := 25) (i := .aload_n 0) (len := 1) (pc' := 26) (lv' := [(0, .ref 621), (1, .int x1), (2, .int (1))]) (st' := [.ref 621]) (by decide +kernel) rfl) ?_
  refine ev_go0 (ev_p_getf (M := (ev_Mof 334)) (pc := 26) (x := 321) (ci := 13) (f := 0) (fin := 0) (v := .int (1)) (by decide +kernel) (by decide +kernel) (ev_hself ev_fH621) rfl) ?_
  refine ev_go0 (ev_w_if (M := (ev_Mof 334)) (pc := 29) (q := .le) (o := 5) (b := false) (t := 32) (by decide +kernel) (by decide +kernel) rfl) ?_
  refine ev_go0 (ev_w_iconst (M := (ev_Mof 334)) (pc := 32) (k := 0) (v := 0) (by decide +kernel) (by decide +kernel)) ?_
  rfl
theorem ev_p1_15_p1 (xs : Nat → Int32) (x1 : Int32) (hl_x1 : (0 : Int) ≤ x1.toInt) (e1 : xs 1 = x1) (e2 : xs 2 = (1)) : ev_P1 xs 1160 := by
  refine ⟨34, [(6, .int (0)), (5, .int (1)), (4, .int (0)), (3, .ref 723), (2, .ref 621), (1, .ref 0), (0, .retAddr 0)], (ev_H0.set 621 (.inr (13, (ev_F621.set 0 (.int (1)))))), 724, 725, 3553592, ?_, ⟨rfl, rfl, rfl, rfl⟩, rfl, by decide, by decide⟩
  show ev_stepn _ _ (1160, [(4, .int (0)), (3, .ref 723), (2, .ref 621), (1, .ref 0), (0, .retAddr 0)], [], _, _, _, _) = _
  refine ev_go0 (ev_one_pure (M := ev_Mlaw) (pc := 1160) (i := .aload_n 1) (len := 1) (pc' := 1161) (lv' := [(4, .int (0)), (3, .ref 723), (2, .ref 621), (1, .ref 0), (0, .retAddr 0)]) (st' := [.ref 0]) (by decide +kernel) rfl) ?_
  refine ev_go0 (ev_one_pure (M := ev_Mlaw) (pc := 1161) (i := .aload_n 0) (len := 1) (pc' := 1162) (lv' := [(4, .int (0)), (3, .ref 723), (2, .ref 621), (1, .ref 0), (0, .retAddr 0)]) (st' := [.retAddr 0, .ref 0]) (by decide +kernel) rfl) ?_
  refine ev_go0 (ev_one_pure (M := ev_Mlaw) (pc := 1162) (i := .iload 4) (len := 2) (pc' := 1164) (lv' := [(4, .int (0)), (3, .ref 723), (2, .ref 621), (1, .ref 0), (0, .retAddr 0)]) (st' := [.int (0), .retAddr 0, .ref 0]) (by decide +kernel) rfl) ?_
  refine ev_go0 (ev_w_iconst (M := ev_Mlaw) (pc := 1164) (k := 1) (v := 1) (by decide +kernel) (by decide +kernel)) ?_
  refine ev_go0 (ev_w_iadd (M := ev_Mlaw) (pc := 1165) (v := (1)) (by decide +kernel) (by decide +kernel)) ?_
  refine ev_go0 (ev_w_scr (M := ev_Mlaw) (pc := 1166) (v := x1) (j := 1) (by decide +kernel) (by decide +kernel) (by decide +kernel) e1) ?_
  refine ev_go0 (ev_one_pure (M := ev_Mlaw) (pc := 1167) (i := .aload_n 0) (len := 1) (pc' := 1168) (lv' := [(4, .int (0)), (3, .ref 723), (2, .ref 621), (1, .ref 0), (0, .retAddr 0)]) (st' := [.retAddr 0, .int x1, .ref 0]) (by decide +kernel) rfl) ?_
  refine ev_go0 (ev_one_pure (M := ev_Mlaw) (pc := 1168) (i := .iload 4) (len := 2) (pc' := 1170) (lv' := [(4, .int (0)), (3, .ref 723), (2, .ref 621), (1, .ref 0), (0, .retAddr 0)]) (st' := [.int (0), .retAddr 0, .int x1, .ref 0]) (by decide +kernel) rfl) ?_
  refine ev_go0 (ev_w_iconst (M := ev_Mlaw) (pc := 1170) (k := 2) (v := 2) (by decide +kernel) (by decide +kernel)) ?_
  refine ev_go0 (ev_w_iadd (M := ev_Mlaw) (pc := 1171) (v := (2)) (by decide +kernel) (by decide +kernel)) ?_
  refine ev_go0 (ev_w_scr (M := ev_Mlaw) (pc := 1172) (v := (1)) (j := 2) (by decide +kernel) (by decide +kernel) (by decide +kernel) e2) ?_
  refine ev_go0 (ev_one_pure (M := ev_Mlaw) (pc := 1173) (i := .aload_n 3) (len := 1) (pc' := 1174) (lv' := [(4, .int (0)), (3, .ref 723), (2, .ref 621), (1, .ref 0), (0, .retAddr 0)]) (st' := [.ref 723, .int (1), .int x1, .ref 0]) (by decide +kernel) rfl) ?_
  refine ev_go (ev_w_stat (M := ev_Mlaw) (pc := 1174) (y := 182) (kind := 8) (Or.inr (Or.inr rfl)) (mi := 378) (na := 4) (by decide +kernel) (by decide +kernel) (by decide +kernel) (by decide +kernel) rfl rfl (ev_k317 x1 hl_x1)) ?_
  refine ev_go0 (ev_w_istore (M := ev_Mlaw) (pc := 1177) (k := 5) (lv' := [(5, .int (1)), (4, .int (0)), (3, .ref 723), (2, .ref 621), (1, .ref 0), (0, .retAddr 0)]) (by decide +kernel) (by decide +kernel) rfl) ?_
  refine ev_go0 (ev_one_pure (M := ev_Mlaw) (pc := 1179) (i := .aload_n 2) (len := 1) (pc' := 1180) (lv' := [(5, .int (1)), (4, .int (0)), (3, .ref 723), (2, .ref 621), (1, .ref 0), (0, .retAddr 0)]) (st' := [.ref 621]) (by decide +kernel) rfl) ?_
  refine ev_go0 (ev_one_pure (M := ev_Mlaw) (pc := 1180) (i := .aload_n 0) (len := 1) (pc' := 1181) (lv' := [(5, .int (1)), (4, .int (0)), (3, .ref 723), (2, .ref 621), (1, .ref 0), (0, .retAddr 0)]) (st' := [.retAddr 0, .ref 621]) (by decide +kernel) rfl) ?_
  refine ev_go0 (ev_one_pure (M := ev_Mlaw) (pc := 1181) (i := .iload 4) (len := 2) (pc' := 1183) (lv' := [(5, .int (1)), (4, .int (0)), (3, .ref 723), (2, .ref 621), (1, .ref 0), (0, .retAddr 0)]) (st' := [.int (0), .retAddr 0, .ref 621]) (by decide +kernel) rfl) ?_
  refine ev_go0 (ev_w_iconst (M := ev_Mlaw) (pc := 1183) (k := 1) (v := 1) (by decide +kernel) (by decide +kernel)) ?_
  refine ev_go0 (ev_w_iadd (M := ev_Mlaw) (pc := 1184) (v := (1)) (by decide +kernel) (by decide +kernel)) ?_
  refine ev_go0 (ev_w_scr (M := ev_Mlaw) (pc := 1185) (v := x1) (j := 1) (by decide +kernel) (by decide +kernel) (by decide +kernel) e1) ?_
  refine ev_go0 (ev_one_pure (M := ev_Mlaw) (pc := 1186) (i := .aload_n 0) (len := 1) (pc' := 1187) (lv' := [(5, .int (1)), (4, .int (0)), (3, .ref 723), (2, .ref 621), (1, .ref 0), (0, .retAddr 0)]) (st' := [.retAddr 0, .int x1, .ref 621]) (by decide +kernel) rfl) ?_
  refine ev_go0 (ev_one_pure (M := ev_Mlaw) (pc := 1187) (i := .iload 4) (len := 2) (pc' := 1189) (lv' := [(5, .int (1)), (4, .int (0)), (3, .ref 723), (2, .ref 621), (1, .ref 0), (0, .retAddr 0)]) (st' := [.int (0), .retAddr 0, .int x1, .ref 621]) (by decide +kernel) rfl) ?_
  refine ev_go0 (ev_w_iconst (M := ev_Mlaw) (pc := 1189) (k := 2) (v := 2) (by decide +kernel) (by decide +kernel)) ?_
  refine ev_go0 (ev_w_iadd (M := ev_Mlaw) (pc := 1190) (v := (2)) (by decide +kernel) (by decide +kernel)) ?_
  refine ev_go0 (ev_w_scr (M := ev_Mlaw) (pc := 1191) (v := (1)) (j := 2) (by decide +kernel) (by decide +kernel) (by decide +kernel) e2) ?_
  refine ev_go0 (ev_p_virt (M := ev_Mlaw) (pc := 1192) (x := 184) (mi := 334) (na := 2) (by decide +kernel) (by decide +kernel) (by decide +kernel) (by decide +kernel) rfl rfl (ev_recv_of ev_fH621) (ev_k318 x1 hl_x1)) ?_
  refine ev_go0 (ev_w_istore (M := ev_Mlaw) (pc := 1195) (k := 6) (lv' := [(6, .int (0)), (5, .int (1)), (4, .int (0)), (3, .ref 723), (2, .ref 621), (1, .ref 0), (0, .retAddr 0)]) (by decide +kernel) (by decide +kernel) rfl) ?_
  refine ev_go0 (ev_one_pure (M := ev_Mlaw) (pc := 1197) (i := .aload_n 2) (len := 1) (pc' := 1198) (lv' := [(6, .int (0)), (5, .int (1)), (4, .int (0)), (3, .ref 723), (2, .ref 621), (1, .ref 0), (0, .retAddr 0)]) (st' := [.ref 621]) (by decide +kernel) rfl) ?_
  refine ev_go0 (ev_p_virt (M := ev_Mlaw) (pc := 1198) (x := 131) (mi := 220) (na := 0) (by decide +kernel) (by decide +kernel) (by decide +kernel) (by decide +kernel) rfl rfl (ev_recv_of (ev_hself ev_fH621)) ev_k26) ?_
  refine ev_go0 (ev_one_pure (M := ev_Mlaw) (pc := 1201) (i := .iload 5) (len := 2) (pc' := 1203) (lv' := [(6, .int (0)), (5, .int (1)), (4, .int (0)), (3, .ref 723), (2, .ref 621), (1, .ref 0), (0, .retAddr 0)]) (st' := [.int (1), .int (1)]) (by decide +kernel) rfl) ?_
  refine ev_go0 (ev_w_icmp (M := ev_Mlaw) (pc := 1203) (q := .eq) (o := 5) (b := true) (t := 1208) (by decide +kernel) (by decide +kernel) rfl) ?_
  refine ev_go0 (ev_one_pure (M := ev_Mlaw) (pc := 1208) (i := .iload 5) (len := 2) (pc' := 1210) (lv' := [(6, .int (0)), (5, .int (1)), (4, .int (0)), (3, .ref 723), (2, .ref 621), (1, .ref 0), (0, .retAddr 0)]) (st' := [.int (1)]) (by decide +kernel) rfl) ?_
  refine ev_go0 (ev_w_if (M := ev_Mlaw) (pc := 1210) (q := .ne) (o := 15) (b := true) (t := 1225) (by decide +kernel) (by decide +kernel) rfl) ?_
  refine ev_go0 (ev_one_pure (M := ev_Mlaw) (pc := 1225) (i := .goto 1047) (len := 3) (pc' := 2272) (lv' := [(6, .int (0)), (5, .int (1)), (4, .int (0)), (3, .ref 723), (2, .ref 621), (1, .ref 0), (0, .retAddr 0)]) (st' := []) (by decide +kernel) rfl) ?_
  rfl
theorem ev_k319 (x1 : Int32) (hl_x1 : (0 : Int) ≤ x1.toInt) {n : Nat} : ev_calld 11 181 [.ref 0, .int x1, .int (2)] ev_H0 n = some (.inr "java/lang/IndexOutOfBoundsException", ev_H0, n, 1, 6) := by
  refine ev_call_thrown (k := 11) (pcR := 25) (x := 160) (lv' := [(4, .ref 267), (3, .null), (0, .ref 0), (1, .int x1), (2, .int (2))]) (by decide +kernel) rfl ?_ (by decide +kernel) (by decide +kernel) (by decide +kernel) (by decide) (by decide)
  show ev_stepn _ 11 (0, [(0, .ref 0), (1, .int x1), (2, .int (2))], [], _, _, 0, 0) = _
  refine ev_go0 (ev_one_pure (M := (ev_Mof 181)) (pc := 0) (i := .aload_n 0) (len := 1) (pc' := 1) (lv' := [(0, .ref 0), (1, .int x1), (2, .int (2))]) (st' := [.ref 0]) (by decide +kernel) rfl) ?_
  refine ev_go0 (ev_one_pure (M := (ev_Mof 181)) (pc := 1) (i := .iload_n 1) (len := 1) (pc' := 2) (lv' := [(0, .ref 0), (1, .int x1), (2, .int (2))]) (st' := [.int x1, .ref 0]) (by decide +kernel) rfl) ?_
  refine ev_go0 (ev_p_virt (M := (ev_Mof 181)) (pc := 2) (x := 156) (mi := 200) (na := 1) (by decide +kernel) (by decide +kernel) (by decide +kernel) (by decide +kernel) rfl rfl (ev_recv_of ev_fH0) (ev_k9 x1 hl_x1)) ?_
  refine ev_go0 (ev_w_astore_n (M := (ev_Mof 181)) (pc := 5) (k := 3) (lv' := [(3, .null), (0, .ref 0), (1, .int x1), (2, .int (2))]) (by decide +kernel) (by decide +kernel) (Or.inr (Or.inl rfl)) rfl) ?_
  refine ev_go0 (ev_one_pure (M := (ev_Mof 181)) (pc := 6) (i := .aload_n 0) (len := 1) (pc' := 7) (lv' := [(3, .null), (0, .ref 0), (1, .int x1), (2, .int (2))]) (st' := [.ref 0]) (by decide +kernel) rfl) ?_
  refine ev_go0 (ev_p_getf (M := (ev_Mof 181)) (pc := 7) (x := 48) (ci := 12) (f := 8) (fin := 1) (v := .ref 254) (by decide +kernel) (by decide +kernel) ev_fH0 rfl) ?_
  refine ev_go0 (ev_one_pure (M := (ev_Mof 181)) (pc := 10) (i := .iload_n 2) (len := 1) (pc' := 11) (lv' := [(3, .null), (0, .ref 0), (1, .int x1), (2, .int (2))]) (st' := [.int (2), .ref 254]) (by decide +kernel) rfl) ?_
  refine ev_go0 (ev_p_virt (M := (ev_Mof 181)) (pc := 11) (x := 221) (mi := 1) (na := 1) (by decide +kernel) (by decide +kernel) (by decide +kernel) (by decide +kernel) rfl rfl (ev_recv_of ev_fH254) ev_k242) ?_
  refine ev_go0 (ev_w_astore (M := (ev_Mof 181)) (pc := 14) (k := 4) (lv' := [(4, .ref 267), (3, .null), (0, .ref 0), (1, .int x1), (2, .int (2))]) (by decide +kernel) (by decide +kernel) (Or.inl ⟨_, rfl⟩) rfl) ?_
  refine ev_go0 (ev_one_pure (M := (ev_Mof 181)) (pc := 16) (i := .aload_n 3) (len := 1) (pc' := 17) (lv' := [(4, .ref 267), (3, .null), (0, .ref 0), (1, .int x1), (2, .int (2))]) (st' := [.null]) (by decide +kernel) rfl) ?_
  refine ev_go0 (ev_w_ifnull (M := (ev_Mof 181)) (pc := 17) (o := 8) (t := 25) (by decide +kernel) (Or.inl ⟨rfl, rfl⟩)) ?_
  rfl
theorem ev_k320 (x1 : Int32) (hl_x1 : (0 : Int) ≤ x1.toInt) {n : Nat} : ev_calld 12 378 [.ref 0, .int x1, .int (2), .ref 723] ev_H0 n = some (.inl (some (.int (1))), ev_H0, n, 1, 6) := by
  refine ev_call_int (k := 8) (pcR := 16) (lv' := [(4, .retAddr 1), (0, .ref 0), (1, .int x1), (2, .int (2)), (3, .ref 723)]) (v := (1)) (ty := .int) (by decide +kernel) rfl ?_ (by decide +kernel) (by decide +kernel) (by decide +kernel) (by decide)
  show ev_stepn _ 8 (0, [(0, .ref 0), (1, .int x1), (2, .int (2)), (3, .ref 723)], [], _, _, 0, 0) = _
  refine ev_go0 (ev_one_pure (M := (ev_Mof 378)) (pc := 0) (i := .aload_n 3) (len := 1) (pc' := 1) (lv' := [(0, .ref 0), (1, .int x1), (2, .int (2)), (3, .ref 723)]) (st' := [.ref 723]) (by decide +kernel) rfl) ?_
  refine ev_go0 (ev_w_iconst (M := (ev_Mof 378)) (pc := 1) (k := 0) (v := 0) (by decide +kernel) (by decide +kernel)) ?_
  refine ev_go0 (ev_one_pure (M := (ev_Mof 378)) (pc := 2) (i := .aload_n 0) (len := 1) (pc' := 3) (lv' := [(0, .ref 0), (1, .int x1), (2, .int (2)), (3, .ref 723)]) (st' := [.ref 0, .int (0), .ref 723]) (by decide +kernel) rfl) ?_
  refine ev_go0 (ev_one_pure (M := (ev_Mof 378)) (pc := 3) (i := .iload_n 1) (len := 1) (pc' := 4) (lv' := [(0, .ref 0), (1, .int x1), (2, .int (2)), (3, .ref 723)]) (st' := [.int x1, .ref 0, .int (0), .ref 723]) (by decide +kernel) rfl) ?_
  refine ev_go0 (ev_one_pure (M := (ev_Mof 378)) (pc := 4) (i := .iload_n 2) (len := 1) (pc' := 5) (lv' := [(0, .ref 0), (1, .int x1), (2, .int (2)), (3, .ref 723)]) (st' := [.int (2), .int x1, .ref 0, .int (0), .ref 723]) (by decide +kernel) rfl) ?_
  refine ev_go (ev_p_virtX (M := (ev_Mof 378)) (pc := 5) (x := 64) (t := 13) (mi := 181) (na := 2) (by decide +kernel) (by decide +kernel) (by decide +kernel) (by decide +kernel) rfl rfl (ev_recv_of ev_fH0) (ev_k319 x1 hl_x1) (by decide +kernel)) ?_
  refine ev_go0 (ev_w_astore (M := (ev_Mof 378)) (pc := 13) (k := 4) (lv' := [(4, .retAddr 1), (0, .ref 0), (1, .int x1), (2, .int (2)), (3, .ref 723)]) (by decide +kernel) (by decide +kernel) (Or.inr (Or.inr ⟨_, rfl⟩)) rfl) ?_
  refine ev_go0 (ev_w_iconst (M := (ev_Mof 378)) (pc := 15) (k := 1) (v := 1) (by decide +kernel) (by decide +kernel)) ?_
  rfl
theorem ev_k321 (x1 : Int32) (hl_x1 : (0 : Int) ≤ x1.toInt) {n : Nat} : ev_calld 12 334 [.ref 621, .int x1, .int (2)] ev_H0 n = some (.inl (some (.int (0))), (ev_H0.set 621 (.inr (13, (ev_F621.set 0 (.int (1)))))), n, 0, 0) := by
  refine ev_call_int (k := 11) (pcR := 33) (lv' := [(0, .ref 621), (1, .int x1), (2, .int (2))]) (v := (0)) (ty := .int) (by decide +kernel) rfl ?_ (by decide +kernel) (by decide +kernel) (by decide +kernel) (by decide)
  show ev_stepn _ 11 (0, [(0, .ref 621), (1, .int x1), (2, .int (2))], [], _, _, 0, 0) = _
  refine ev_go0 (ev_one_pure (M := (ev_Mof 334)) (pc := 0) (i := .aload_n 0) (len := 1) (pc' := 1) (lv' := [(0, .ref 621), (1, .int x1), (2, .int (2))]) (st' := [.ref 621]) (by decide +kernel) rfl) ?_
  refine ev_go0 (ev_one_pure (M := (ev_Mof 334)) (pc := 1) (i := .aload_n 0) (len := 1) (pc' := 2) (lv' := [(0, .ref 621), (1, .int x1), (2, .int (2))]) (st' := [.ref 621, .ref 621]) (by decide +kernel) rfl) ?_
  refine ev_go0 (ev_one_pure (M := (ev_Mof 334)) (pc := 2) (i := .iload_n 1) (len := 1) (pc' := 3) (lv' := [(0, .ref 621), (1, .int x1), (2, .int (2))]) (st' := [.int x1, .ref 621, .ref 621]) (by decide +kernel) rfl) ?_
  refine ev_go0 (ev_p_virt (M := (ev_Mof 334)) (pc := 3) (x := 531) (mi := 273) (na := 1) (by decide +kernel) (by decide +kernel) (by decide +kernel) (by decide +kernel) rfl rfl (ev_recv_of ev_fH621) (ev_k30 x1 hl_x1)) ?_
  refine ev_go0 (ev_w_if (M := (ev_Mof 334)) (pc := 6) (q := .eq) (o := 15) (b := true) (t := 21) (by decide +kernel) (by decide +kernel) rfl) ?_
  refine ev_go0 (ev_w_iconst (M := (ev_Mof 334)) (pc := 21) (k := 1) (v := 1) (by decide +kernel) (by decide +kernel)) ?_
  refine ev_go0 (ev_p_putf (M := (ev_Mof 334)) (pc := 22) (x := 321) (ci := 13) (f := 0) (by decide +kernel) (by decide +kernel) ev_fH621 rfl (by decide +kernel)) ?_
  refine ev_go0 (ev_one_pure (M := (ev_Mof 334)) (pc := 25) (i := .aload_n 0) (len := 1) (pc' := 26) (lv' := [(0, .ref 621), (1, .int x1), (2, .int (2))]) (st' := [.ref 621]) (by decide +kernel) rfl) ?_
  refine ev_go0 (ev_p_getf (M := (ev_Mof 334)) (pc := 26) (x := 321) (ci := 13) (f := 0) (fin := 0) (v := .int (1)) (by decide +kernel) (by decide +kernel) (ev_hself ev_fH621) rfl) ?_
  refine ev_go0 (ev_w_if (M := (ev_Mof 334)) (pc := 29) (q := .le) (o := 5) (b := false) (t := 32) (by decide +kernel) (by decide +kernel) rfl) ?_
  refine ev_go0 (ev_w_iconst (M := (ev_Mof 334)) (pc := 32) (k := 0) (v := 0) (by decide +kernel) (by decide +kernel)) ?_
  rfl
theorem ev_p1_15_p2 (xs : Nat → Int32) (x1 : Int32) (hl_x1 : (0 : Int) ≤ x1.toInt) (e1 : xs 1 = x1) (e2 : xs 2 = (2)) : ev_P1 xs 1160 := by
  refine ⟨34, [(6, .int (0)), (5, .int (1)), (4, .int (0)), (3, .ref 723), (2, .ref 621), (1, .ref 0), (0, .retAddr 0)], (ev_H0.set 621 (.inr (13, (ev_F621.set 0 (.int (1)))))), 724, 725, 3553592, ?_, ⟨rfl, rfl, rfl, rfl⟩, rfl, by decide, by decide⟩
  show ev_stepn _ _ (1160, [(4, .int (0)), (3, .ref 723), (2, .ref 621), (1, .ref 0), (0, .retAddr 0)], [], _, _, _, _) = _
  refine ev_go0 (ev_one_pure (M := ev_Mlaw) (pc := 1160) (i := .aload_n 1) (len := 1) (pc' := 1161) (lv' := [(4, .int (0)), (3, .ref 723), (2, .ref 621), (1, .ref 0), (0, .retAddr 0)]) (st' := [.ref 0]) (by decide +kernel) rfl) ?_
  refine ev_go0 (ev_one_pure (M := ev_Mlaw) (pc := 1161) (i := .aload_n 0) (len := 1) (pc' := 1162) (lv' := [(4, .int (0)), (3, .ref 723), (2, .ref 621), (1, .ref 0), (0, .retAddr 0)]) (st' := [.retAddr 0, .ref 0]) (by decide +kernel) rfl) ?_
  refine ev_go0 (ev_one_pure (M := ev_Mlaw) (pc := 1162) (i := .iload 4) (len := 2) (pc' := 1164) (lv' := [(4, .int (0)), (3, .ref 723), (2, .ref 621), (1, .ref 0), (0, .retAddr 0)]) (st' := [.int (0), .retAddr 0, .ref 0]) (by decide +kernel) rfl) ?_
  refine ev_go0 (ev_w_iconst (M := ev_Mlaw) (pc := 1164) (k := 1) (v := 1) (by decide +kernel) (by decide +kernel)) ?_
  refine ev_go0 (ev_w_iadd (M := ev_Mlaw) (pc := 1165) (v := (1)) (by decide +kernel) (by decide +kernel)) ?_
  refine ev_go0 (ev_w_scr (M := ev_Mlaw) (pc := 1166) (v := x1) (j := 1) (by decide +kernel) (by decide +kernel) (by decide +kernel) e1) ?_
  refine ev_go0 (ev_one_pure (M := ev_Mlaw) (pc := 1167) (i := .aload_n 0) (len := 1) (pc' := 1168) (lv' := [(4, .int (0)), (3, .ref 723), (2, .ref 621), (1, .ref 0), (0, .retAddr 0)]) (st' := [.retAddr 0, .int x1, .ref 0]) (by decide +kernel) rfl) ?_
  refine ev_go0 (ev_one_pure (M := ev_Mlaw) (pc := 1168) (i := .iload 4) (len := 2) (pc' := 1170) (lv' := [(4, .int (0)), (3, .ref 723), (2, .ref 621), (1, .ref 0), (0, .retAddr 0)]) (st' := [.int (0), .retAddr 0, .int x1, .ref 0]) (by decide +kernel) rfl) ?_
  refine ev_go0 (ev_w_iconst (M := ev_Mlaw) (pc := 1170) (k := 2) (v := 2) (by decide +kernel) (by decide +kernel)) ?_
  refine ev_go0 (ev_w_iadd (M := ev_Mlaw) (pc := 1171) (v := (2)) (by decide +kernel) (by decide +kernel)) ?_
  refine ev_go0 (ev_w_scr (M := ev_Mlaw) (pc := 1172) (v := (2)) (j := 2) (by decide +kernel) (by decide +kernel) (by decide +kernel) e2) ?_
  refine ev_go0 (ev_one_pure (M := ev_Mlaw) (pc := 1173) (i := .aload_n 3) (len := 1) (pc' := 1174) (lv' := [(4, .int (0)), (3, .ref 723), (2, .ref 621), (1, .ref 0), (0, .retAddr 0)]) (st' := [.ref 723, .int (2), .int x1, .ref 0]) (by decide +kernel) rfl) ?_
  refine ev_go (ev_w_stat (M := ev_Mlaw) (pc := 1174) (y := 182) (kind := 8) (Or.inr (Or.inr rfl)) (mi := 378) (na := 4) (by decide +kernel) (by decide +kernel) (by decide +kernel) (by decide +kernel) rfl rfl (ev_k320 x1 hl_x1)) ?_
  refine ev_go0 (ev_w_istore (M := ev_Mlaw) (pc := 1177) (k := 5) (lv' := [(5, .int (1)), (4, .int (0)), (3, .ref 723), (2, .ref 621), (1, .ref 0), (0, .retAddr 0)]) (by decide +kernel) (by decide +kernel) rfl) ?_
  refine ev_go0 (ev_one_pure (M := ev_Mlaw) (pc := 1179) (i := .aload_n 2) (len := 1) (pc' := 1180) (lv' := [(5, .int (1)), (4, .int (0)), (3, .ref 723), (2, .ref 621), (1, .ref 0), (0, .retAddr 0)]) (st' := [.ref 621]) (by decide +kernel) rfl) ?_
  refine ev_go0 (ev_one_pure (M := ev_Mlaw) (pc := 1180) (i := .aload_n 0) (len := 1) (pc' := 1181) (lv' := [(5, .int (1)), (4, .int (0)), (3, .ref 723), (2, .ref 621), (1, .ref 0), (0, .retAddr 0)]) (st' := [.retAddr 0, .ref 621]) (by decide +kernel) rfl) ?_
  refine ev_go0 (ev_one_pure (M := ev_Mlaw) (pc := 1181) (i := .iload 4) (len := 2) (pc' := 1183) (lv' := [(5, .int (1)), (4, .int (0)), (3, .ref 723), (2, .ref 621), (1, .ref 0), (0, .retAddr 0)]) (st' := [.int (0), .retAddr 0, .ref 621]) (by decide +kernel) rfl) ?_
  refine ev_go0 (ev_w_iconst (M := ev_Mlaw) (pc := 1183) (k := 1) (v := 1) (by decide +kernel) (by decide +kernel)) ?_
  refine ev_go0 (ev_w_iadd (M := ev_Mlaw) (pc := 1184) (v := (1)) (by decide +kernel) (by decide +kernel)) ?_
  refine ev_go0 (ev_w_scr (M := ev_Mlaw) (pc := 1185) (v := x1) (j := 1) (by decide +kernel) (by decide +kernel) (by decide +kernel) e1) ?_
  refine ev_go0 (ev_one_pure (M := ev_Mlaw) (pc := 1186) (i := .aload_n 0) (len := 1) (pc' := 1187) (lv' := [(5, .int (1)), (4, .int (0)), (3, .ref 723), (2, .ref 621), (1, .ref 0), (0, .retAddr 0)]) (st' := [.retAddr 0, .int x1, .ref 621]) (by decide +kernel) rfl) ?_
  refine ev_go0 (ev_one_pure (M := ev_Mlaw) (pc := 1187) (i := .iload 4) (len := 2) (pc' := 1189) (lv' := [(5, .int (1)), (4, .int (0)), (3, .ref 723), (2, .ref 621), (1, .ref 0), (0, .retAddr 0)]) (st' := [.int (0), .retAddr 0, .int x1, .ref 621]) (by decide +kernel) rfl) ?_
  refine ev_go0 (ev_w_iconst (M := ev_Mlaw) (pc := 1189) (k := 2) (v := 2) (by decide +kernel) (by decide +kernel)) ?_
  refine ev_go0 (ev_w_iadd (M := ev_Mlaw) (pc := 1190) (v := (2)) (by decide +kernel) (by decide +kernel)) ?_
  refine ev_go0 (ev_w_scr (M := ev_Mlaw) (pc := 1191) (v := (2)) (j := 2) (by decide +kernel) (by decide +kernel) (by decide +kernel) e2) ?_
  refine ev_go0 (ev_p_virt (M := ev_Mlaw) (pc := 1192) (x := 184) (mi := 334) (na := 2) (by decide +kernel) (by decide +kernel) (by decide +kernel) (by decide +kernel) rfl rfl (ev_recv_of ev_fH621) (ev_k321 x1 hl_x1)) ?_
  refine ev_go0 (ev_w_istore (M := ev_Mlaw) (pc := 1195) (k := 6) (lv' := [(6, .int (0)), (5, .int (1)), (4, .int (0)), (3, .ref 723), (2, .ref 621), (1, .ref 0), (0, .retAddr 0)]) (by decide +kernel) (by decide +kernel) rfl) ?_
  refine ev_go0 (ev_one_pure (M := ev_Mlaw) (pc := 1197) (i := .aload_n 2) (len := 1) (pc' := 1198) (lv' := [(6, .int (0)), (5, .int (1)), (4, .int (0)), (3, .ref 723), (2, .ref 621), (1, .ref 0), (0, .retAddr 0)]) (st' := [.ref 621]) (by decide +kernel) rfl) ?_
  refine ev_go0 (ev_p_virt (M := ev_Mlaw) (pc := 1198) (x := 131) (mi := 220) (na := 0) (by decide +kernel) (by decide +kernel) (by decide +kernel) (by decide +kernel) rfl rfl (ev_recv_of (ev_hself ev_fH621)) ev_k26) ?_
  refine ev_go0 (ev_one_pure (M := ev_Mlaw) (pc := 1201) (i := .iload 5) (len := 2) (pc' := 1203) (lv' := [(6, .int (0)), (5, .int (1)), (4, .int (0)), (3, .ref 723), (2, .ref 621), (1, .ref 0), (0, .retAddr 0)]) (st' := [.int (1), .int (1)]) (by decide +kernel) rfl) ?_
  refine ev_go0 (ev_w_icmp (M := ev_Mlaw) (pc := 1203) (q := .eq) (o := 5) (b := true) (t := 1208) (by decide +kernel) (by decide +kernel) rfl) ?_
  refine ev_go0 (ev_one_pure (M := ev_Mlaw) (pc := 1208) (i := .iload 5) (len := 2) (pc' := 1210) (lv' := [(6, .int (0)), (5, .int (1)), (4, .int (0)), (3, .ref 723), (2, .ref 621), (1, .ref 0), (0, .retAddr 0)]) (st' := [.int (1)]) (by decide +kernel) rfl) ?_
  refine ev_go0 (ev_w_if (M := ev_Mlaw) (pc := 1210) (q := .ne) (o := 15) (b := true) (t := 1225) (by decide +kernel) (by decide +kernel) rfl) ?_
  refine ev_go0 (ev_one_pure (M := ev_Mlaw) (pc := 1225) (i := .goto 1047) (len := 3) (pc' := 2272) (lv' := [(6, .int (0)), (5, .int (1)), (4, .int (0)), (3, .ref 723), (2, .ref 621), (1, .ref 0), (0, .retAddr 0)]) (st' := []) (by decide +kernel) rfl) ?_
  rfl
theorem ev_k322 (x1 : Int32) (hl_x1 : (0 : Int) ≤ x1.toInt) (x2 : Int32) (hl_x2 : (3 : Int) ≤ x2.toInt) {n : Nat} : ev_calld 11 181 [.ref 0, .int x1, .int x2] ev_H0 n = some (.inr "java/lang/IndexOutOfBoundsException", ev_H0, n, 1, 6) := by
  refine ev_call_thrown (k := 11) (pcR := 25) (x := 160) (lv' := [(4, .null), (3, .null), (0, .ref 0), (1, .int x1), (2, .int x2)]) (by decide +kernel) rfl ?_ (by decide +kernel) (by decide +kernel) (by decide +kernel) (by decide) (by decide)
  show ev_stepn _ 11 (0, [(0, .ref 0), (1, .int x1), (2, .int x2)], [], _, _, 0, 0) = _
  refine ev_go0 (ev_one_pure (M := (ev_Mof 181)) (pc := 0) (i := .aload_n 0) (len := 1) (pc' := 1) (lv' := [(0, .ref 0), (1, .int x1), (2, .int x2)]) (st' := [.ref 0]) (by decide +kernel) rfl) ?_
  refine ev_go0 (ev_one_pure (M := (ev_Mof 181)) (pc := 1) (i := .iload_n 1) (len := 1) (pc' := 2) (lv' := [(0, .ref 0), (1, .int x1), (2, .int x2)]) (st' := [.int x1, .ref 0]) (by decide +kernel) rfl) ?_
  refine ev_go0 (ev_p_virt (M := (ev_Mof 181)) (pc := 2) (x := 156) (mi := 200) (na := 1) (by decide +kernel) (by decide +kernel) (by decide +kernel) (by decide +kernel) rfl rfl (ev_recv_of ev_fH0) (ev_k9 x1 hl_x1)) ?_
  refine ev_go0 (ev_w_astore_n (M := (ev_Mof 181)) (pc := 5) (k := 3) (lv' := [(3, .null), (0, .ref 0), (1, .int x1), (2, .int x2)]) (by decide +kernel) (by decide +kernel) (Or.inr (Or.inl rfl)) rfl) ?_
  refine ev_go0 (ev_one_pure (M := (ev_Mof 181)) (pc := 6) (i := .aload_n 0) (len := 1) (pc' := 7) (lv' := [(3, .null), (0, .ref 0), (1, .int x1), (2, .int x2)]) (st' := [.ref 0]) (by decide +kernel) rfl) ?_
  refine ev_go0 (ev_p_getf (M := (ev_Mof 181)) (pc := 7) (x := 48) (ci := 12) (f := 8) (fin := 1) (v := .ref 254) (by decide +kernel) (by decide +kernel) ev_fH0 rfl) ?_
  refine ev_go0 (ev_one_pure (M := (ev_Mof 181)) (pc := 10) (i := .iload_n 2) (len := 1) (pc' := 11) (lv' := [(3, .null), (0, .ref 0), (1, .int x1), (2, .int x2)]) (st' := [.int x2, .ref 254]) (by decide +kernel) rfl) ?_
  refine ev_go0 (ev_p_virt (M := (ev_Mof 181)) (pc := 11) (x := 221) (mi := 1) (na := 1) (by decide +kernel) (by decide +kernel) (by decide +kernel) (by decide +kernel) rfl rfl (ev_recv_of ev_fH254) (ev_k246 x2 hl_x2)) ?_
  refine ev_go0 (ev_w_astore (M := (ev_Mof 181)) (pc := 14) (k := 4) (lv' := [(4, .null), (3, .null), (0, .ref 0), (1, .int x1), (2, .int x2)]) (by decide +kernel) (by decide +kernel) (Or.inr (Or.inl rfl)) rfl) ?_
  refine ev_go0 (ev_one_pure (M := (ev_Mof 181)) (pc := 16) (i := .aload_n 3) (len := 1) (pc' := 17) (lv' := [(4, .null), (3, .null), (0, .ref 0), (1, .int x1), (2, .int x2)]) (st' := [.null]) (by decide +kernel) rfl) ?_
  refine ev_go0 (ev_w_ifnull (M := (ev_Mof 181)) (pc := 17) (o := 8) (t := 25) (by decide +kernel) (Or.inl ⟨rfl, rfl⟩)) ?_
  rfl
theorem ev_k323 (x1 : Int32) (hl_x1 : (0 : Int) ≤ x1.toInt) (x2 : Int32) (hl_x2 : (3 : Int) ≤ x2.toInt) {n : Nat} : ev_calld 12 378 [.ref 0, .int x1, .int x2, .ref 723] ev_H0 n = some (.inl (some (.int (1))), ev_H0, n, 1, 6) := by
  refine ev_call_int (k := 8) (pcR := 16) (lv' := [(4, .retAddr 1), (0, .ref 0), (1, .int x1), (2, .int x2), (3, .ref 723)]) (v := (1)) (ty := .int) (by decide +kernel) rfl ?_ (by decide +kernel) (by decide +kernel) (by decide +kernel) (by decide)
  show ev_stepn _ 8 (0, [(0, .ref 0), (1, .int x1), (2, .int x2), (3, .ref 723)], [], _, _, 0, 0) = _
  refine ev_go0 (ev_one_pure (M := (ev_Mof 378)) (pc := 0) (i := .aload_n 3) (len := 1) (pc' := 1) (lv' := [(0, .ref 0), (1, .int x1), (2, .int x2), (3, .ref 723)]) (st' := [.ref 723]) (by decide +kernel) rfl) ?_
  refine ev_go0 (ev_w_iconst (M := (ev_Mof 378)) (pc := 1) (k := 0) (v := 0) (by decide +kernel) (by decide +kernel)) ?_
  refine ev_go0 (ev_one_pure (M := (ev_Mof 378)) (pc := 2) (i := .aload_n 0) (len := 1) (pc' := 3) (lv' := [(0, .ref 0), (1, .int x1), (2, .int x2), (3, .ref 723)]) (st' := [.ref 0, .int (0), .ref 723]) (by decide +kernel) rfl) ?_
  refine ev_go0 (ev_one_pure (M := (ev_Mof 378)) (pc := 3) (i := .iload_n 1) (len := 1) (pc' := 4) (lv' := [(0, .ref 0), (1, .int x1), (2, .int x2), (3, .ref 723)]) (st' := [.int x1, .ref 0, .int (0), .ref 723]) (by decide +kernel) rfl) ?_
  refine ev_go0 (ev_one_pure (M := (ev_Mof 378)) (pc := 4) (i := .iload_n 2) (len := 1) (pc' := 5) (lv' := [(0, .ref 0), (1, .int x1), (2, .int x2), (3, .ref 723)]) (st' := [.int x2, .int x1, .ref 0, .int (0), .ref 723]) (by decide +kernel) rfl) ?_
  refine ev_go (ev_p_virtX (M := (ev_Mof 378)) (pc := 5) (x := 64) (t := 13) (mi := 181) (na := 2) (by decide +kernel) (by decide +kernel) (by decide +kernel) (by decide +kernel) rfl rfl (ev_recv_of ev_fH0) (ev_k322 x1 hl_x1 x2 hl_x2) (by decide +kernel)) ?_
  refine ev_go0 (ev_w_astore (M := (ev_Mof 378)) (pc := 13) (k := 4) (lv' := [(4, .retAddr 1), (0, .ref 0), (1, .int x1), (2, .int x2), (3, .ref 723)]) (by decide +kernel) (by decide +kernel) (Or.inr (Or.inr ⟨_, rfl⟩)) rfl) ?_
  refine ev_go0 (ev_w_iconst (M := (ev_Mof 378)) (pc := 15) (k := 1) (v := 1) (by decide +kernel) (by decide +kernel)) ?_
  rfl
theorem ev_k324 (x1 : Int32) (hl_x1 : (0 : Int) ≤ x1.toInt) (x2 : Int32) (hl_x2 : (3 : Int) ≤ x2.toInt) {n : Nat} : ev_calld 12 334 [.ref 621, .int x1, .int x2] ev_H0 n = some (.inl (some (.int (0))), (ev_H0.set 621 (.inr (13, (ev_F621.set 0 (.int (1)))))), n, 0, 0) := by
  refine ev_call_int (k := 11) (pcR := 33) (lv' := [(0, .ref 621), (1, .int x1), (2, .int x2)]) (v := (0)) (ty := .int) (by decide +kernel) rfl ?_ (by decide +kernel) (by decide +kernel) (by decide +kernel) (by decide)
  show ev_stepn _ 11 (0, [(0, .ref 621), (1, .int x1), (2, .int x2)], [], _, _, 0, 0) = _
  refine ev_go0 (ev_one_pure (M := (ev_Mof 334)) (pc := 0) (i := .aload_n 0) (len := 1) (pc' := 1) (lv' := [(0, .ref 621), (1, .int x1), (2, .int x2)]) (st' := [.ref 621]) (by decide +kernel) rfl) ?_
  refine ev_go0 (ev_one_pure (M := (ev_Mof 334)) (pc := 1) (i := .aload_n 0) (len := 1) (pc' := 2) (lv' := [(0, .ref 621), (1, .int x1), (2, .int x2)]) (st' := [.ref 621, .ref 621]) (by decide +kernel) rfl) ?_
  refine ev_go0 (ev_one_pure (M := (ev_Mof 334)) (pc := 2) (i := .iload_n 1) (len := 1) (pc' := 3) (lv' := [(0, .ref 621), (1, .int x1), (2, .int x2)]) (st' := [.int x1, .ref 621, .ref 621]) (by decide +kernel) rfl) ?_
  refine ev_go0 (ev_p_virt (M := (ev_Mof 334)) (pc := 3) (x := 531) (mi := 273) (na := 1) (by decide +kernel) (by decide +kernel) (by decide +kernel) (by decide +kernel) rfl rfl (ev_recv_of ev_fH621) (ev_k30 x1 hl_x1)) ?_
  refine ev_go0 (ev_w_if (M := (ev_Mof 334)) (pc := 6) (q := .eq) (o := 15) (b := true) (t := 21) (by decide +kernel) (by decide +kernel) rfl) ?_
  refine ev_go0 (ev_w_iconst (M := (ev_Mof 334)) (pc := 21) (k := 1) (v := 1) (by decide +kernel) (by decide +kernel)) ?_
  refine ev_go0 (ev_p_putf (M := (ev_Mof 334)) (pc := 22) (x := 321) (ci := 13) (f := 0) (by decide +kernel) (by decide +kernel) ev_fH621 rfl (by decide +kernel)) ?_
  refine ev_go0 (ev_one_pure (M := (ev_Mof 334)) (pc := 25) (i := .aload_n 0) (len := 1) (pc' := 26) (lv' := [(0, .ref 621), (1, .int x1), (2, .int x2)]) (st' := [.ref 621]) (by decide +kernel) rfl) ?_
  refine ev_go0 (ev_p_getf (M := (ev_Mof 334)) (pc := 26) (x := 321) (ci := 13) (f := 0) (fin := 0) (v := .int (1)) (by decide +kernel) (by decide +kernel) (ev_hself ev_fH621) rfl) ?_
  refine ev_go0 (ev_w_if (M := (ev_Mof 334)) (pc := 29) (q := .le) (o := 5) (b := false) (t := 32) (by decide +kernel) (by decide +kernel) rfl) ?_
  refine ev_go0 (ev_w_iconst (M := (ev_Mof 334)) (pc := 32) (k := 0) (v := 0) (by decide +kernel) (by decide +kernel)) ?_
  rfl
theorem ev_p1_15_pg (xs : Nat → Int32) (x1 : Int32) (hl_x1 : (0 : Int) ≤ x1.toInt) (x2 : Int32) (hl_x2 : (3 : Int) ≤ x2.toInt) (e1 : xs 1 = x1) (e2 : xs 2 = x2) : ev_P1 xs 1160 := by
  refine ⟨34, [(6, .int (0)), (5, .int (1)), (4, .int (0)), (3, .ref 723), (2, .ref 621), (1, .ref 0), (0, .retAddr 0)], (ev_H0.set 621 (.inr (13, (ev_F621.set 0 (.int (1)))))), 724, 725, 3553592, ?_, ⟨rfl, rfl, rfl, rfl⟩, rfl, by decide, by decide⟩
  show ev_stepn _ _ (1160, [(4, .int (0)), (3, .ref 723), (2, .ref 621), (1, .ref 0), (0, .retAddr 0)], [], _, _, _, _) = _
  refine ev_go0 (ev_one_pure (M := ev_Mlaw) (pc := 1160) (i := .aload_n 1) (len := 1) (pc' := 1161) (lv' := [(4, .int (0)), (3, .ref 723), (2, .ref 621), (1, .ref 0), (0, .retAddr 0)]) (st' := [.ref 0]) (by decide +kernel) rfl) ?_
  refine ev_go0 (ev_one_pure (M := ev_Mlaw) (pc := 1161) (i := .aload_n 0) (len := 1) (pc' := 1162) (lv' := [(4, .int (0)), (3, .ref 723), (2, .ref 621), (1, .ref 0), (0, .retAddr 0)]) (st' := [.retAddr 0, .ref 0]) (by decide +kernel) rfl) ?_
  refine ev_go0 (ev_one_pure (M := ev_Mlaw) (pc := 1162) (i := .iload 4) (len := 2) (pc' := 1164) (lv' := [(4, .int (0)), (3, .ref 723), (2, .ref 621), (1, .ref 0), (0, .retAddr 0)]) (st' := [.int (0), .retAddr 0, .ref 0]) (by decide +kernel) rfl) ?_
  refine ev_go0 (ev_w_iconst (M := ev_Mlaw) (pc := 1164) (k := 1) (v := 1) (by decide +kernel) (by decide +kernel)) ?_
  refine ev_go0 (ev_w_iadd (M := ev_Mlaw) (pc := 1165) (v := (1)) (by decide +kernel) (by decide +kernel)) ?_
  refine ev_go0 (ev_w_scr (M := ev_Mlaw) (pc := 1166) (v := x1) (j := 1) (by decide +kernel) (by decide +kernel) (by decide +kernel) e1) ?_
  refine ev_go0 (ev_one_pure (M := ev_Mlaw) (pc := 1167) (i := .aload_n 0) (len := 1) (pc' := 1168) (lv' := [(4, .int (0)), (3, .ref 723), (2, .ref 621), (1, .ref 0), (0, .retAddr 0)]) (st' := [.retAddr 0, .int x1, .ref 0]) (by decide +kernel) rfl) ?_
  refine ev_go0 (ev_one_pure (M := ev_Mlaw) (pc := 1168) (i := .iload 4) (len := 2) (pc' := 1170) (lv' := [(4, .int (0)), (3, .ref 723), (2, .ref 621), (1, .ref 0), (0, .retAddr 0)]) (st' := [.int (0), .retAddr 0, .int x1, .ref 0]) (by decide +kernel) rfl) ?_
  refine ev_go0 (ev_w_iconst (M := ev_Mlaw) (pc := 1170) (k := 2) (v := 2) (by decide +kernel) (by decide +kernel)) ?_
  refine ev_go0 (ev_w_iadd (M := ev_Mlaw) (pc := 1171) (v := (2)) (by decide +kernel) (by decide +kernel)) ?_
  refine ev_go0 (ev_w_scr (M := ev_Mlaw) (pc := 1172) (v := x2) (j := 2) (by decide +kernel) (by decide +kernel) (by decide +kernel) e2) ?_
  refine ev_go0 (ev_one_pure (M := ev_Mlaw) (pc := 1173) (i := .aload_n 3) (len := 1) (pc' := 1174) (lv' := [(4, .int (0)), (3, .ref 723), (2, .ref 621), (1, .ref 0), (0, .retAddr 0)]) (st' := [.ref 723, .int x2, .int x1, .ref 0]) (by decide +kernel) rfl) ?_
  refine ev_go (ev_w_stat (M := ev_Mlaw) (pc := 1174) (y := 182) (kind := 8) (Or.inr (Or.inr rfl)) (mi := 378) (na := 4) (by decide +kernel) (by decide +kernel) (by decide +kernel) (by decide +kernel) rfl rfl (ev_k323 x1 hl_x1 x2 hl_x2)) ?_
  refine ev_go0 (ev_w_istore (M := ev_Mlaw) (pc := 1177) (k := 5) (lv' := [(5, .int (1)), (4, .int (0)), (3, .ref 723), (2, .ref 621), (1, .ref 0), (0, .retAddr 0)]) (by decide +kernel) (by decide +kernel) rfl) ?_
  refine ev_go0 (ev_one_pure (M := ev_Mlaw) (pc := 1179) (i := .aload_n 2) (len := 1) (pc' := 1180) (lv' := [(5, .int (1)), (4, .int (0)), (3, .ref 723), (2, .ref 621), (1, .ref 0), (0, .retAddr 0)]) (st' := [.ref 621]) (by decide +kernel) rfl) ?_
  refine ev_go0 (ev_one_pure (M := ev_Mlaw) (pc := 1180) (i := .aload_n 0) (len := 1) (pc' := 1181) (lv' := [(5, .int (1)), (4, .int (0)), (3, .ref 723), (2, .ref 621), (1, .ref 0), (0, .retAddr 0)]) (st' := [.retAddr 0, .ref 621]) (by decide +kernel) rfl) ?_
  refine ev_go0 (ev_one_pure (M := ev_Mlaw) (pc := 1181) (i := .iload 4) (len := 2) (pc' := 1183) (lv' := [(5, .int (1)), (4, .int (0)), (3, .ref 723), (2, .ref 621), (1, .ref 0), (0, .retAddr 0)]) (st' := [.int (0), .retAddr 0, .ref 621]) (by decide +kernel) rfl) ?_
  refine ev_go0 (ev_w_iconst (M := ev_Mlaw) (pc := 1183) (k := 1) (v := 1) (by decide +kernel) (by decide +kernel)) ?_
  refine ev_go0 (ev_w_iadd (M := ev_Mlaw) (pc := 1184) (v := (1)) (by decide +kernel) (by decide +kernel)) ?_
  refine ev_go0 (ev_w_scr (M := ev_Mlaw) (pc := 1185) (v := x1) (j := 1) (by decide +kernel) (by decide +kernel) (by decide +kernel) e1) ?_
  refine ev_go0 (ev_one_pure (M := ev_Mlaw) (pc := 1186) (i := .aload_n 0) (len := 1) (pc' := 1187) (lv' := [(5, .int (1)), (4, .int (0)), (3, .ref 723), (2, .ref 621), (1, .ref 0), (0, .retAddr 0)]) (st' := [.retAddr 0, .int x1, .ref 621]) (by decide +kernel) rfl) ?_
  refine ev_go0 (ev_one_pure (M := ev_Mlaw) (pc := 1187) (i := .iload 4) (len := 2) (pc' := 1189) (lv' := [(5, .int (1)), (4, .int (0)), (3, .ref 723), (2, .ref 621), (1, .ref 0), (0, .retAddr 0)]) (st' := [.int (0), .retAddr 0, .int x1, .ref 621]) (by decide +kernel) rfl) ?_
  refine ev_go0 (ev_w_iconst (M := ev_Mlaw) (pc := 1189) (k := 2) (v := 2) (by decide +kernel) (by decide +kernel)) ?_
  refine ev_go0 (ev_w_iadd (M := ev_Mlaw) (pc := 1190) (v := (2)) (by decide +kernel) (by decide +kernel)) ?_
  refine ev_go0 (ev_w_scr (M := ev_Mlaw) (pc := 1191) (v := x2) (j := 2) (by decide +kernel) (by decide +kernel) (by decide +kernel) e2) ?_
  refine ev_go0 (ev_p_virt (M := ev_Mlaw) (pc := 1192) (x := 184) (mi := 334) (na := 2) (by decide +kernel) (by decide +kernel) (by decide +kernel) (by decide +kernel) rfl rfl (ev_recv_of ev_fH621) (ev_k324 x1 hl_x1 x2 hl_x2)) ?_
  refine ev_go0 (ev_w_istore (M := ev_Mlaw) (pc := 1195) (k := 6) (lv' := [(6, .int (0)), (5, .int (1)), (4, .int (0)), (3, .ref 723), (2, .ref 621), (1, .ref 0), (0, .retAddr 0)]) (by decide +kernel) (by decide +kernel) rfl) ?_
  refine ev_go0 (ev_one_pure (M := ev_Mlaw) (pc := 1197) (i := .aload_n 2) (len := 1) (pc' := 1198) (lv' := [(6, .int (0)), (5, .int (1)), (4, .int (0)), (3, .ref 723), (2, .ref 621), (1, .ref 0), (0, .retAddr 0)]) (st' := [.ref 621]) (by decide +kernel) rfl) ?_
  refine ev_go0 (ev_p_virt (M := ev_Mlaw) (pc := 1198) (x := 131) (mi := 220) (na := 0) (by decide +kernel) (by decide +kernel) (by decide +kernel) (by decide +kernel) rfl rfl (ev_recv_of (ev_hself ev_fH621)) ev_k26) ?_
  refine ev_go0 (ev_one_pure (M := ev_Mlaw) (pc := 1201) (i := .iload 5) (len := 2) (pc' := 1203) (lv' := [(6, .int (0)), (5, .int (1)), (4, .int (0)), (3, .ref 723), (2, .ref 621), (1, .ref 0), (0, .retAddr 0)]) (st' := [.int (1), .int (1)]) (by decide +kernel) rfl) ?_
  refine ev_go0 (ev_w_icmp (M := ev_Mlaw) (pc := 1203) (q := .eq) (o := 5) (b := true) (t := 1208) (by decide +kernel) (by decide +kernel) rfl) ?_
  refine ev_go0 (ev_one_pure (M := ev_Mlaw) (pc := 1208) (i := .iload 5) (len := 2) (pc' := 1210) (lv' := [(6, .int (0)), (5, .int (1)), (4, .int (0)), (3, .ref 723), (2, .ref 621), (1, .ref 0), (0, .retAddr 0)]) (st' := [.int (1)]) (by decide +kernel) rfl) ?_
  refine ev_go0 (ev_w_if (M := ev_Mlaw) (pc := 1210) (q := .ne) (o := 15) (b := true) (t := 1225) (by decide +kernel) (by decide +kernel) rfl) ?_
  refine ev_go0 (ev_one_pure (M := ev_Mlaw) (pc := 1225) (i := .goto 1047) (len := 3) (pc' := 2272) (lv' := [(6, .int (0)), (5, .int (1)), (4, .int (0)), (3, .ref 723), (2, .ref 621), (1, .ref 0), (0, .retAddr 0)]) (st' := []) (by decide +kernel) rfl) ?_
  rfl
theorem ev_p1arm15 (xs : Nat → Int32) : ev_P1 xs 1160 := by
  rcases ev_split2 (xs 1) with h1 | h1
  · skip
    rcases ev_split5 (xs 2) with h2 | h2 | h2 | h2 | h2
    · skip
      exact ev_p1_15_nn xs (xs 1) h1 (xs 2) h2 rfl rfl
    · skip
      exact ev_p1_15_n0 xs (xs 1) h1 rfl h2
    · skip
      exact ev_p1_15_n1 xs (xs 1) h1 rfl h2
    · skip
      exact ev_p1_15_n2 xs (xs 1) h1 rfl h2
    · skip
      exact ev_p1_15_ng xs (xs 1) h1 (xs 2) h2 rfl rfl
  · skip
    rcases ev_split5 (xs 2) with h2 | h2 | h2 | h2 | h2
    · skip
      exact ev_p1_15_pn xs (xs 1) h1 (xs 2) h2 rfl rfl
    · skip
      exact ev_p1_15_p0 xs (xs 1) h1 rfl h2
    · skip
      exact ev_p1_15_p1 xs (xs 1) h1 rfl h2
    · skip
      exact ev_p1_15_p2 xs (xs 1) h1 rfl h2
    · skip
      exact ev_p1_15_pg xs (xs 1) h1 (xs 2) h2 rfl rfl
theorem ev_k325 (x1 : Int32) (hu_x1 : x1.toInt ≤ (-1 : Int)) (x2 : Int32) (hu_x2 : x2.toInt ≤ (-1 : Int)) (x3 : Int32) {n : Nat} : ev_calld 11 182 [.ref 0, .int x1, .int x2, .int x3] ev_H0 n = some (.inr "java/lang/IndexOutOfBoundsException", ev_H0, n, 1, 6) := by
  refine ev_call_thrown (k := 11) (pcR := 31) (x := 160) (lv' := [(5, .null), (4, .null), (0, .ref 0), (1, .int x1), (2, .int x2), (3, .int x3)]) (by decide +kernel) rfl ?_ (by decide +kernel) (by decide +kernel) (by decide +kernel) (by decide) (by decide)
  show ev_stepn _ 11 (0, [(0, .ref 0), (1, .int x1), (2, .int x2), (3, .int x3)], [], _, _, 0, 0) = _
  refine ev_go0 (ev_one_pure (M := (ev_Mof 182)) (pc := 0) (i := .aload_n 0) (len := 1) (pc' := 1) (lv' := [(0, .ref 0), (1, .int x1), (2, .int x2), (3, .int x3)]) (st' := [.ref 0]) (by decide +kernel) rfl) ?_
  refine ev_go0 (ev_one_pure (M := (ev_Mof 182)) (pc := 1) (i := .iload_n 1) (len := 1) (pc' := 2) (lv' := [(0, .ref 0), (1, .int x1), (2, .int x2), (3, .int x3)]) (st' := [.int x1, .ref 0]) (by decide +kernel) rfl) ?_
  refine ev_go0 (ev_p_virt (M := (ev_Mof 182)) (pc := 2) (x := 156) (mi := 200) (na := 1) (by decide +kernel) (by decide +kernel) (by decide +kernel) (by decide +kernel) rfl rfl (ev_recv_of ev_fH0) (ev_k1 x1 hu_x1)) ?_
  refine ev_go0 (ev_w_astore (M := (ev_Mof 182)) (pc := 5) (k := 4) (lv' := [(4, .null), (0, .ref 0), (1, .int x1), (2, .int x2), (3, .int x3)]) (by decide +kernel) (by decide +kernel) (Or.inr (Or.inl rfl)) rfl) ?_
  refine ev_go0 (ev_one_pure (M := (ev_Mof 182)) (pc := 7) (i := .aload_n 0) (len := 1) (pc' := 8) (lv' := [(4, .null), (0, .ref 0), (1, .int x1), (2, .int x2), (3, .int x3)]) (st' := [.ref 0]) (by decide +kernel) rfl) ?_
  refine ev_go0 (ev_p_getf (M := (ev_Mof 182)) (pc := 8) (x := 48) (ci := 12) (f := 8) (fin := 1) (v := .ref 254) (by decide +kernel) (by decide +kernel) ev_fH0 rfl) ?_
  refine ev_go0 (ev_one_pure (M := (ev_Mof 182)) (pc := 11) (i := .iload_n 2) (len := 1) (pc' := 12) (lv' := [(4, .null), (0, .ref 0), (1, .int x1), (2, .int x2), (3, .int x3)]) (st' := [.int x2, .ref 254]) (by decide +kernel) rfl) ?_
  refine ev_go0 (ev_p_virt (M := (ev_Mof 182)) (pc := 12) (x := 221) (mi := 1) (na := 1) (by decide +kernel) (by decide +kernel) (by decide +kernel) (by decide +kernel) rfl rfl (ev_recv_of ev_fH254) (ev_k230 x2 hu_x2)) ?_
  refine ev_go0 (ev_w_astore (M := (ev_Mof 182)) (pc := 15) (k := 5) (lv' := [(5, .null), (4, .null), (0, .ref 0), (1, .int x1), (2, .int x2), (3, .int x3)]) (by decide +kernel) (by decide +kernel) (Or.inr (Or.inl rfl)) rfl) ?_
  refine ev_go0 (ev_one_pure (M := (ev_Mof 182)) (pc := 17) (i := .aload 4) (len := 2) (pc' := 19) (lv' := [(5, .null), (4, .null), (0, .ref 0), (1, .int x1), (2, .int x2), (3, .int x3)]) (st' := [.null]) (by decide +kernel) rfl) ?_
  refine ev_go0 (ev_w_ifnull (M := (ev_Mof 182)) (pc := 19) (o := 12) (t := 31) (by decide +kernel) (Or.inl ⟨rfl, rfl⟩)) ?_
  rfl
theorem ev_k326 (x1 : Int32) (hu_x1 : x1.toInt ≤ (-1 : Int)) (x2 : Int32) (hu_x2 : x2.toInt ≤ (-1 : Int)) (x3 : Int32) {n : Nat} : ev_calld 12 379 [.ref 0, .int x1, .int x2, .int x3, .ref 723] ev_H0 n = some (.inl (some (.int (1))), ev_H0, n, 1, 6) := by
  refine ev_call_int (k := 9) (pcR := 18) (lv' := [(5, .retAddr 1), (0, .ref 0), (1, .int x1), (2, .int x2), (3, .int x3), (4, .ref 723)]) (v := (1)) (ty := .int) (by decide +kernel) rfl ?_ (by decide +kernel) (by decide +kernel) (by decide +kernel) (by decide)
  show ev_stepn _ 9 (0, [(0, .ref 0), (1, .int x1), (2, .int x2), (3, .int x3), (4, .ref 723)], [], _, _, 0, 0) = _
  refine ev_go0 (ev_one_pure (M := (ev_Mof 379)) (pc := 0) (i := .aload 4) (len := 2) (pc' := 2) (lv' := [(0, .ref 0), (1, .int x1), (2, .int x2), (3, .int x3), (4, .ref 723)]) (st' := [.ref 723]) (by decide +kernel) rfl) ?_
  refine ev_go0 (ev_w_iconst (M := (ev_Mof 379)) (pc := 2) (k := 0) (v := 0) (by decide +kernel) (by decide +kernel)) ?_
  refine ev_go0 (ev_one_pure (M := (ev_Mof 379)) (pc := 3) (i := .aload_n 0) (len := 1) (pc' := 4) (lv' := [(0, .ref 0), (1, .int x1), (2, .int x2), (3, .int x3), (4, .ref 723)]) (st' := [.ref 0, .int (0), .ref 723]) (by decide +kernel) rfl) ?_
  refine ev_go0 (ev_one_pure (M := (ev_Mof 379)) (pc := 4) (i := .iload_n 1) (len := 1) (pc' := 5) (lv' := [(0, .ref 0), (1, .int x1), (2, .int x2), (3, .int x3), (4, .ref 723)]) (st' := [.int x1, .ref 0, .int (0), .ref 723]) (by decide +kernel) rfl) ?_
  refine ev_go0 (ev_one_pure (M := (ev_Mof 379)) (pc := 5) (i := .iload_n 2) (len := 1) (pc' := 6) (lv' := [(0, .ref 0), (1, .int x1), (2, .int x2), (3, .int x3), (4, .ref 723)]) (st' := [.int x2, .int x1, .ref 0, .int (0), .ref 723]) (by decide +kernel) rfl) ?_
  refine ev_go0 (ev_one_pure (M := (ev_Mof 379)) (pc := 6) (i := .iload_n 3) (len := 1) (pc' := 7) (lv' := [(0, .ref 0), (1, .int x1), (2, .int x2), (3, .int x3), (4, .ref 723)]) (st' := [.int x3, .int x2, .int x1, .ref 0, .int (0), .ref 723]) (by decide +kernel) rfl) ?_
  refine ev_go (ev_p_virtX (M := (ev_Mof 379)) (pc := 7) (x := 67) (t := 15) (mi := 182) (na := 3) (by decide +kernel) (by decide +kernel) (by decide +kernel) (by decide +kernel) rfl rfl (ev_recv_of ev_fH0) (ev_k325 x1 hu_x1 x2 hu_x2 x3) (by decide +kernel)) ?_
  refine ev_go0 (ev_w_astore (M := (ev_Mof 379)) (pc := 15) (k := 5) (lv' := [(5, .retAddr 1), (0, .ref 0), (1, .int x1), (2, .int x2), (3, .int x3), (4, .ref 723)]) (by decide +kernel) (by decide +kernel) (Or.inr (Or.inr ⟨_, rfl⟩)) rfl) ?_
  refine ev_go0 (ev_w_iconst (M := (ev_Mof 379)) (pc := 17) (k := 1) (v := 1) (by decide +kernel) (by decide +kernel)) ?_
  rfl
theorem ev_k327 (x1 : Int32) (hu_x1 : x1.toInt ≤ (-1 : Int)) (x2 : Int32) (hu_x2 : x2.toInt ≤ (-1 : Int)) (x3 : Int32) {n : Nat} : ev_calld 12 335 [.ref 621, .int x1, .int x2, .int x3] ev_H0 n = some (.inl (some (.int (0))), (ev_H0.set 621 (.inr (13, (ev_F621.set 0 (.int (1)))))), n, 0, 0) := by
  refine ev_call_int (k := 11) (pcR := 37) (lv' := [(0, .ref 621), (1, .int x1), (2, .int x2), (3, .int x3)]) (v := (0)) (ty := .int) (by decide +kernel) rfl ?_ (by decide +kernel) (by decide +kernel) (by decide +kernel) (by decide)
  show ev_stepn _ 11 (0, [(0, .ref 621), (1, .int x1), (2, .int x2), (3, .int x3)], [], _, _, 0, 0) = _
  refine ev_go0 (ev_one_pure (M := (ev_Mof 335)) (pc := 0) (i := .aload_n 0) (len := 1) (pc' := 1) (lv' := [(0, .ref 621), (1, .int x1), (2, .int x2), (3, .int x3)]) (st' := [.ref 621]) (by decide +kernel) rfl) ?_
  refine ev_go0 (ev_one_pure (M := (ev_Mof 335)) (pc := 1) (i := .aload_n 0) (len := 1) (pc' := 2) (lv' := [(0, .ref 621), (1, .int x1), (2, .int x2), (3, .int x3)]) (st' := [.ref 621, .ref 621]) (by decide +kernel) rfl) ?_
  refine ev_go0 (ev_one_pure (M := (ev_Mof 335)) (pc := 2) (i := .iload_n 1) (len := 1) (pc' := 3) (lv' := [(0, .ref 621), (1, .int x1), (2, .int x2), (3, .int x3)]) (st' := [.int x1, .ref 621, .ref 621]) (by decide +kernel) rfl) ?_
  refine ev_go0 (ev_p_virt (M := (ev_Mof 335)) (pc := 3) (x := 531) (mi := 273) (na := 1) (by decide +kernel) (by decide +kernel) (by decide +kernel) (by decide +kernel) rfl rfl (ev_recv_of ev_fH621) (ev_k24 x1 hu_x1)) ?_
  refine ev_go0 (ev_w_if (M := (ev_Mof 335)) (pc := 6) (q := .eq) (o := 19) (b := true) (t := 25) (by decide +kernel) (by decide +kernel) rfl) ?_
  refine ev_go0 (ev_w_iconst (M := (ev_Mof 335)) (pc := 25) (k := 1) (v := 1) (by decide +kernel) (by decide +kernel)) ?_
  refine ev_go0 (ev_p_putf (M := (ev_Mof 335)) (pc := 26) (x := 321) (ci := 13) (f := 0) (by decide +kernel) (by decide +kernel) ev_fH621 rfl (by decide +kernel)) ?_
  refine ev_go0 (ev_one_pure (M := (ev_Mof 335)) (pc := 29) (i := .aload_n 0) (len := 1) (pc' := 30) (lv' := [(0, .ref 621), (1, .int x1), (2, .int x2), (3, .int x3)]) (st' := [.ref 621]) (by decide +kernel) rfl) ?_
  refine ev_go0 (ev_p_getf (M := (ev_Mof 335)) (pc := 30) (x := 321) (ci := 13) (f := 0) (fin := 0) (v := .int (1)) (by decide +kernel) (by decide +kernel) (ev_hself ev_fH621) rfl) ?_
  refine ev_go0 (ev_w_if (M := (ev_Mof 335)) (pc := 33) (q := .le) (o := 5) (b := false) (t := 36) (by decide +kernel) (by decide +kernel) rfl) ?_
  refine ev_go0 (ev_w_iconst (M := (ev_Mof 335)) (pc := 36) (k := 0) (v := 0) (by decide +kernel) (by decide +kernel)) ?_
  rfl
theorem ev_p1_16_nn (xs : Nat → Int32) (x1 : Int32) (hu_x1 : x1.toInt ≤ (-1 : Int)) (x2 : Int32) (hu_x2 : x2.toInt ≤ (-1 : Int)) (x3 : Int32) (e1 : xs 1 = x1) (e2 : xs 2 = x2) (e3 : xs 3 = x3) : ev_P1 xs 1228 := by
  refine ⟨44, [(6, .int (0)), (5, .int (1)), (4, .int (0)), (3, .ref 723), (2, .ref 621), (1, .ref 0), (0, .retAddr 0)], (ev_H0.set 621 (.inr (13, (ev_F621.set 0 (.int (1)))))), 724, 725, 3553592, ?_, ⟨rfl, rfl, rfl, rfl⟩, rfl, by decide, by decide⟩
  show ev_stepn _ _ (1228, [(4, .int (0)), (3, .ref 723), (2, .ref 621), (1, .ref 0), (0, .retAddr 0)], [], _, _, _, _) = _
  refine ev_go0 (ev_one_pure (M := ev_Mlaw) (pc := 1228) (i := .aload_n 1) (len := 1) (pc' := 1229) (lv' := [(4, .int (0)), (3, .ref 723), (2, .ref 621), (1, .ref 0), (0, .retAddr 0)]) (st' := [.ref 0]) (by decide +kernel) rfl) ?_
  refine ev_go0 (ev_one_pure (M := ev_Mlaw) (pc := 1229) (i := .aload_n 0) (len := 1) (pc' := 1230) (lv' := [(4, .int (0)), (3, .ref 723), (2, .ref 621), (1, .ref 0), (0, .retAddr 0)]) (st' := [.retAddr 0, .ref 0]) (by decide +kernel) rfl) ?_
  refine ev_go0 (ev_one_pure (M := ev_Mlaw) (pc := 1230) (i := .iload 4) (len := 2) (pc' := 1232) (lv' := [(4, .int (0)), (3, .ref 723), (2, .ref 621), (1, .ref 0), (0, .retAddr 0)]) (st' := [.int (0), .retAddr 0, .ref 0]) (by decide +kernel) rfl) ?_
  refine ev_go0 (ev_w_iconst (M := ev_Mlaw) (pc := 1232) (k := 1) (v := 1) (by decide +kernel) (by decide +kernel)) ?_
  refine ev_go0 (ev_w_iadd (M := ev_Mlaw) (pc := 1233) (v := (1)) (by decide +kernel) (by decide +kernel)) ?_
  refine ev_go0 (ev_w_scr (M := ev_Mlaw) (pc := 1234) (v := x1) (j := 1) (by decide +kernel) (by decide +kernel) (by decide +kernel) e1) ?_
  refine ev_go0 (ev_one_pure (M := ev_Mlaw) (pc := 1235) (i := .aload_n 0) (len := 1) (pc' := 1236) (lv' := [(4, .int (0)), (3, .ref 723), (2, .ref 621), (1, .ref 0), (0, .retAddr 0)]) (st' := [.retAddr 0, .int x1, .ref 0]) (by decide +kernel) rfl) ?_
  refine ev_go0 (ev_one_pure (M := ev_Mlaw) (pc := 1236) (i := .iload 4) (len := 2) (pc' := 1238) (lv' := [(4, .int (0)), (3, .ref 723), (2, .ref 621), (1, .ref 0), (0, .retAddr 0)]) (st' := [.int (0), .retAddr 0, .int x1, .ref 0]) (by decide +kernel) rfl) ?_
  refine ev_go0 (ev_w_iconst (M := ev_Mlaw) (pc := 1238) (k := 2) (v := 2) (by decide +kernel) (by decide +kernel)) ?_
  refine ev_go0 (ev_w_iadd (M := ev_Mlaw) (pc := 1239) (v := (2)) (by decide +kernel) (by decide +kernel)) ?_
  refine ev_go0 (ev_w_scr (M := ev_Mlaw) (pc := 1240) (v := x2) (j := 2) (by decide +kernel) (by decide +kernel) (by decide +kernel) e2) ?_
  refine ev_go0 (ev_one_pure (M := ev_Mlaw) (pc := 1241) (i := .aload_n 0) (len := 1) (pc' := 1242) (lv' := [(4, .int (0)), (3, .ref 723), (2, .ref 621), (1, .ref 0), (0, .retAddr 0)]) (st' := [.retAddr 0, .int x2, .int x1, .ref 0]) (by decide +kernel) rfl) ?_
  refine ev_go0 (ev_one_pure (M := ev_Mlaw) (pc := 1242) (i := .iload 4) (len := 2) (pc' := 1244) (lv' := [(4, .int (0)), (3, .ref 723), (2, .ref 621), (1, .ref 0), (0, .retAddr 0)]) (st' := [.int (0), .retAddr 0, .int x2, .int x1, .ref 0]) (by decide +kernel) rfl) ?_
  refine ev_go0 (ev_w_iconst (M := ev_Mlaw) (pc := 1244) (k := 3) (v := 3) (by decide +kernel) (by decide +kernel)) ?_
  refine ev_go0 (ev_w_iadd (M := ev_Mlaw) (pc := 1245) (v := (3)) (by decide +kernel) (by decide +kernel)) ?_
  refine ev_go0 (ev_w_scr (M := ev_Mlaw) (pc := 1246) (v := x3) (j := 3) (by decide +kernel) (by decide +kernel) (by decide +kernel) e3) ?_
  refine ev_go0 (ev_one_pure (M := ev_Mlaw) (pc := 1247) (i := .aload_n 3) (len := 1) (pc' := 1248) (lv' := [(4, .int (0)), (3, .ref 723), (2, .ref 621), (1, .ref 0), (0, .retAddr 0)]) (st' := [.ref 723, .int x3, .int x2, .int x1, .ref 0]) (by decide +kernel) rfl) ?_
  refine ev_go (ev_w_stat (M := ev_Mlaw) (pc := 1248) (y := 185) (kind := 8) (Or.inr (Or.inr rfl)) (mi := 379) (na := 5) (by decide +kernel) (by decide +kernel) (by decide +kernel) (by decide +kernel) rfl rfl (ev_k326 x1 hu_x1 x2 hu_x2 x3)) ?_
  refine ev_go0 (ev_w_istore (M := ev_Mlaw) (pc := 1251) (k := 5) (lv' := [(5, .int (1)), (4, .int (0)), (3, .ref 723), (2, .ref 621), (1, .ref 0), (0, .retAddr 0)]) (by decide +kernel) (by decide +kernel) rfl) ?_
  refine ev_go0 (ev_one_pure (M := ev_Mlaw) (pc := 1253) (i := .aload_n 2) (len := 1) (pc' := 1254) (lv' := [(5, .int (1)), (4, .int (0)), (3, .ref 723), (2, .ref 621), (1, .ref 0), (0, .retAddr 0)]) (st' := [.ref 621]) (by decide +kernel) rfl) ?_
  refine ev_go0 (ev_one_pure (M := ev_Mlaw) (pc := 1254) (i := .aload_n 0) (len := 1) (pc' := 1255) (lv' := [(5, .int (1)), (4, .int (0)), (3, .ref 723), (2, .ref 621), (1, .ref 0), (0, .retAddr 0)]) (st' := [.retAddr 0, .ref 621]) (by decide +kernel) rfl) ?_
  refine ev_go0 (ev_one_pure (M := ev_Mlaw) (pc := 1255) (i := .iload 4) (len := 2) (pc' := 1257) (lv' := [(5, .int (1)), (4, .int (0)), (3, .ref 723), (2, .ref 621), (1, .ref 0), (0, .retAddr 0)]) (st' := [.int (0), .retAddr 0, .ref 621]) (by decide +kernel) rfl) ?_
  refine ev_go0 (ev_w_iconst (M := ev_Mlaw) (pc := 1257) (k := 1) (v := 1) (by decide +kernel) (by decide +kernel)) ?_
  refine ev_go0 (ev_w_iadd (M := ev_Mlaw) (pc := 1258) (v := (1)) (by decide +kernel) (by decide +kernel)) ?_
  refine ev_go0 (ev_w_scr (M := ev_Mlaw) (pc := 1259) (v := x1) (j := 1) (by decide +kernel) (by decide +kernel) (by decide +kernel) e1) ?_
  refine ev_go0 (ev_one_pure (M := ev_Mlaw) (pc := 1260) (i := .aload_n 0) (len := 1) (pc' := 1261) (lv' := [(5, .int (1)), (4, .int (0)), (3, .ref 723), (2, .ref 621), (1, .ref 0), (0, .retAddr 0)]) (st' := [.retAddr 0, .int x1, .ref 621]) (by decide +kernel) rfl) ?_
  refine ev_go0 (ev_one_pure (M := ev_Mlaw) (pc := 1261) (i := .iload 4) (len := 2) (pc' := 1263) (lv' := [(5, .int (1)), (4, .int (0)), (3, .ref 723), (2, .ref 621), (1, .ref 0), (0, .retAddr 0)]) (st' := [.int (0), .retAddr 0, .int x1, .ref 621]) (by decide +kernel) rfl) ?_
  refine ev_go0 (ev_w_iconst (M := ev_Mlaw) (pc := 1263) (k := 2) (v := 2) (by decide +kernel) (by decide +kernel)) ?_
  refine ev_go0 (ev_w_iadd (M := ev_Mlaw) (pc := 1264) (v := (2)) (by decide +kernel) (by decide +kernel)) ?_
  refine ev_go0 (ev_w_scr (M := ev_Mlaw) (pc := 1265) (v := x2) (j := 2) (by decide +kernel) (by decide +kernel) (by decide +kernel) e2) ?_
  refine ev_go0 (ev_one_pure (M := ev_Mlaw) (pc := 1266) (i := .aload_n 0) (len := 1) (pc' := 1267) (lv' := [(5, .int (1)), (4, .int (0)), (3, .ref 723), (2, .ref 621), (1, .ref 0), (0, .retAddr 0)]) (st' := [.retAddr 0, .int x2, .int x1, .ref 621]) (by decide +kernel) rfl) ?_
  refine ev_go0 (ev_one_pure (M := ev_Mlaw) (pc := 1267) (i := .iload 4) (len := 2) (pc' := 1269) (lv' := [(5, .int (1)), (4, .int (0)), (3, .ref 723), (2, .ref 621), (1, .ref 0), (0, .retAddr 0)]) (st' := [.int (0), .retAddr 0, .int x2, .int x1, .ref 621]) (by decide +kernel) rfl) ?_
  refine ev_go0 (ev_w_iconst (M := ev_Mlaw) (pc := 1269) (k := 3) (v := 3) (by decide +kernel) (by decide +kernel)) ?_
  refine ev_go0 (ev_w_iadd (M := ev_Mlaw) (pc := 1270) (v := (3)) (by decide +kernel) (by decide +kernel)) ?_
  refine ev_go0 (ev_w_scr (M := ev_Mlaw) (pc := 1271) (v := x3) (j := 3) (by decide +kernel) (by decide +kernel) (by decide +kernel) e3) ?_
  refine ev_go0 (ev_p_virt (M := ev_Mlaw) (pc := 1272) (x := 187) (mi := 335) (na := 3) (by decide +kernel) (by decide +kernel) (by decide +kernel) (by decide +kernel) rfl rfl (ev_recv_of ev_fH621) (ev_k327 x1 hu_x1 x2 hu_x2 x3)) ?_
  refine ev_go0 (ev_w_istore (M := ev_Mlaw) (pc := 1275) (k := 6) (lv' := [(6, .int (0)), (5, .int (1)), (4, .int (0)), (3, .ref 723), (2, .ref 621), (1, .ref 0), (0, .retAddr 0)]) (by decide +kernel) (by decide +kernel) rfl) ?_
  refine ev_go0 (ev_one_pure (M := ev_Mlaw) (pc := 1277) (i := .aload_n 2) (len := 1) (pc' := 1278) (lv' := [(6, .int (0)), (5, .int (1)), (4, .int (0)), (3, .ref 723), (2, .ref 621), (1, .ref 0), (0, .retAddr 0)]) (st' := [.ref 621]) (by decide +kernel) rfl) ?_
  refine ev_go0 (ev_p_virt (M := ev_Mlaw) (pc := 1278) (x := 131) (mi := 220) (na := 0) (by decide +kernel) (by decide +kernel) (by decide +kernel) (by decide +kernel) rfl rfl (ev_recv_of (ev_hself ev_fH621)) ev_k26) ?_
  refine ev_go0 (ev_one_pure (M := ev_Mlaw) (pc := 1281) (i := .iload 5) (len := 2) (pc' := 1283) (lv' := [(6, .int (0)), (5, .int (1)), (4, .int (0)), (3, .ref 723), (2, .ref 621), (1, .ref 0), (0, .retAddr 0)]) (st' := [.int (1), .int (1)]) (by decide +kernel) rfl) ?_
  refine ev_go0 (ev_w_icmp (M := ev_Mlaw) (pc := 1283) (q := .eq) (o := 5) (b := true) (t := 1288) (by decide +kernel) (by decide +kernel) rfl) ?_
  refine ev_go0 (ev_one_pure (M := ev_Mlaw) (pc := 1288) (i := .iload 5) (len := 2) (pc' := 1290) (lv' := [(6, .int (0)), (5, .int (1)), (4, .int (0)), (3, .ref 723), (2, .ref 621), (1, .ref 0), (0, .retAddr 0)]) (st' := [.int (1)]) (by decide +kernel) rfl) ?_
  refine ev_go0 (ev_w_if (M := ev_Mlaw) (pc := 1290) (q := .ne) (o := 15) (b := true) (t := 1305) (by decide +kernel) (by decide +kernel) rfl) ?_
  refine ev_go0 (ev_one_pure (M := ev_Mlaw) (pc := 1305) (i := .goto 967) (len := 3) (pc' := 2272) (lv' := [(6, .int (0)), (5, .int (1)), (4, .int (0)), (3, .ref 723), (2, .ref 621), (1, .ref 0), (0, .retAddr 0)]) (st' := []) (by decide +kernel) rfl) ?_
  rfl
theorem ev_k328 (x1 : Int32) (hu_x1 : x1.toInt ≤ (-1 : Int)) (x3 : Int32) {n : Nat} : ev_calld 11 182 [.ref 0, .int x1, .int (0), .int x3] ev_H0 n = some (.inr "java/lang/IndexOutOfBoundsException", ev_H0, n, 1, 6) := by
  refine ev_call_thrown (k := 11) (pcR := 31) (x := 160) (lv' := [(5, .ref 263), (4, .null), (0, .ref 0), (1, .int x1), (2, .int (0)), (3, .int x3)]) (by decide +kernel) rfl ?_ (by decide +kernel) (by decide +kernel) (by decide +kernel) (by decide) (by decide)
  show ev_stepn _ 11 (0, [(0, .ref 0), (1, .int x1), (2, .int (0)), (3, .int x3)], [], _, _, 0, 0) = _
  refine ev_go0 (ev_one_pure (M := (ev_Mof 182)) (pc := 0) (i := .aload_n 0) (len := 1) (pc' := 1) (lv' := [(0, .ref 0), (1, .int x1), (2, .int (0)), (3, .int x3)]) (st' := [.ref 0]) (by decide +kernel) rfl) ?_
  refine ev_go0 (ev_one_pure (M := (ev_Mof 182)) (pc := 1) (i := .iload_n 1) (len := 1) (pc' := 2) (lv' := [(0, .ref 0), (1, .int x1), (2, .int (0)), (3, .int x3)]) (st' := [.int x1, .ref 0]) (by decide +kernel) rfl) ?_
  refine ev_go0 (ev_p_virt (M := (ev_Mof 182)) (pc := 2) (x := 156) (mi := 200) (na := 1) (by decide +kernel) (by decide +kernel) (by decide +kernel) (by decide +kernel) rfl rfl (ev_recv_of ev_fH0) (ev_k1 x1 hu_x1)) ?_
  refine ev_go0 (ev_w_astore (M := (ev_Mof 182)) (pc := 5) (k := 4) (lv' := [(4, .null), (0, .ref 0), (1, .int x1), (2, .int (0)), (3, .int x3)]) (by decide +kernel) (by decide +kernel) (Or.inr (Or.inl rfl)) rfl) ?_
  refine ev_go0 (ev_one_pure (M := (ev_Mof 182)) (pc := 7) (i := .aload_n 0) (len := 1) (pc' := 8) (lv' := [(4, .null), (0, .ref 0), (1, .int x1), (2, .int (0)), (3, .int x3)]) (st' := [.ref 0]) (by decide +kernel) rfl) ?_
  refine ev_go0 (ev_p_getf (M := (ev_Mof 182)) (pc := 8) (x := 48) (ci := 12) (f := 8) (fin := 1) (v := .ref 254) (by decide +kernel) (by decide +kernel) ev_fH0 rfl) ?_
  refine ev_go0 (ev_one_pure (M := (ev_Mof 182)) (pc := 11) (i := .iload_n 2) (len := 1) (pc' := 12) (lv' := [(4, .null), (0, .ref 0), (1, .int x1), (2, .int (0)), (3, .int x3)]) (st' := [.int (0), .ref 254]) (by decide +kernel) rfl) ?_
  refine ev_go0 (ev_p_virt (M := (ev_Mof 182)) (pc := 12) (x := 221) (mi := 1) (na := 1) (by decide +kernel) (by decide +kernel) (by decide +kernel) (by decide +kernel) rfl rfl (ev_recv_of ev_fH254) ev_k234) ?_
  refine ev_go0 (ev_w_astore (M := (ev_Mof 182)) (pc := 15) (k := 5) (lv' := [(5, .ref 263), (4, .null), (0, .ref 0), (1, .int x1), (2, .int (0)), (3, .int x3)]) (by decide +kernel) (by decide +kernel) (Or.inl ⟨_, rfl⟩) rfl) ?_
  refine ev_go0 (ev_one_pure (M := (ev_Mof 182)) (pc := 17) (i := .aload 4) (len := 2) (pc' := 19) (lv' := [(5, .ref 263), (4, .null), (0, .ref 0), (1, .int x1), (2, .int (0)), (3, .int x3)]) (st' := [.null]) (by decide +kernel) rfl) ?_
  refine ev_go0 (ev_w_ifnull (M := (ev_Mof 182)) (pc := 19) (o := 12) (t := 31) (by decide +kernel) (Or.inl ⟨rfl, rfl⟩)) ?_
  rfl
theorem ev_k329 (x1 : Int32) (hu_x1 : x1.toInt ≤ (-1 : Int)) (x3 : Int32) {n : Nat} : ev_calld 12 379 [.ref 0, .int x1, .int (0), .int x3, .ref 723] ev_H0 n = some (.inl (some (.int (1))), ev_H0, n, 1, 6) := by
  refine ev_call_int (k := 9) (pcR := 18) (lv' := [(5, .retAddr 1), (0, .ref 0), (1, .int x1), (2, .int (0)), (3, .int x3), (4, .ref 723)]) (v := (1)) (ty := .int) (by decide +kernel) rfl ?_ (by decide +kernel) (by decide +kernel) (by decide +kernel) (by decide)
  show ev_stepn _ 9 (0, [(0, .ref 0), (1, .int x1), (2, .int (0)), (3, .int x3), (4, .ref 723)], [], _, _, 0, 0) = _
  refine ev_go0 (ev_one_pure (M := (ev_Mof 379)) (pc := 0) (i := .aload 4) (len := 2) (pc' := 2) (lv' := [(0, .ref 0), (1, .int x1), (2, .int (0)), (3, .int x3), (4, .ref 723)]) (st' := [.ref 723]) (by decide +kernel) rfl) ?_
  refine ev_go0 (ev_w_iconst (M := (ev_Mof 379)) (pc := 2) (k := 0) (v := 0) (by decide +kernel) (by decide +kernel)) ?_
  refine ev_go0 (ev_one_pure (M := (ev_Mof 379)) (pc := 3) (i := .aload_n 0) (len := 1) (pc' := 4) (lv' := [(0, .ref 0), (1, .int x1), (2, .int (0)), (3, .int x3), (4, .ref 723)]) (st' := [.ref 0, .int (0), .ref 723]) (by decide +kernel) rfl) ?_
  refine ev_go0 (ev_one_pure (M := (ev_Mof 379)) (pc := 4) (i := .iload_n 1) (len := 1) (pc' := 5) (lv' := [(0, .ref 0), (1, .int x1), (2, .int (0)), (3, .int x3), (4, .ref 723)]) (st' := [.int x1, .ref 0, .int (0), .ref 723]) (by decide +kernel) rfl) ?_
  refine ev_go0 (ev_one_pure (M := (ev_Mof 379)) (pc := 5) (i := .iload_n 2) (len := 1) (pc' := 6) (lv' := [(0, .ref 0), (1, .int x1), (2, .int (0)), (3, .int x3), (4, .ref 723)]) (st' := [.int (0), .int x1, .ref 0, .int (0), .ref 723]) (by decide +kernel) rfl) ?_
  refine ev_go0 (ev_one_pure (M := (ev_Mof 379)) (pc := 6) (i := .iload_n 3) (len := 1) (pc' := 7) (lv' := [(0, .ref 0), (1, .int x1), (2, .int (0)), (3, .int x3), (4, .ref 723)]) (st' := [.int x3, .int (0), .int x1, .ref 0, .int (0), .ref 723]) (by decide +kernel) rfl) ?_
  refine ev_go (ev_p_virtX (M := (ev_Mof 379)) (pc := 7) (x := 67) (t := 15) (mi := 182) (na := 3) (by decide +kernel) (by decide +kernel) (by decide +kernel) (by decide +kernel) rfl rfl (ev_recv_of ev_fH0) (ev_k328 x1 hu_x1 x3) (by decide +kernel)) ?_
  refine ev_go0 (ev_w_astore (M := (ev_Mof 379)) (pc := 15) (k := 5) (lv' := [(5, .retAddr 1), (0, .ref 0), (1, .int x1), (2, .int (0)), (3, .int x3), (4, .ref 723)]) (by decide +kernel) (by decide +kernel) (Or.inr (Or.inr ⟨_, rfl⟩)) rfl) ?_
  refine ev_go0 (ev_w_iconst (M := (ev_Mof 379)) (pc := 17) (k := 1) (v := 1) (by decide +kernel) (by decide +kernel)) ?_
  rfl
theorem ev_k330 (x1 : Int32) (hu_x1 : x1.toInt ≤ (-1 : Int)) (x3 : Int32) {n : Nat} : ev_calld 12 335 [.ref 621, .int x1, .int (0), .int x3] ev_H0 n = some (.inl (some (.int (0))), (ev_H0.set 621 (.inr (13, (ev_F621.set 0 (.int (1)))))), n, 0, 0) := by
  refine ev_call_int (k := 11) (pcR := 37) (lv' := [(0, .ref 621), (1, .int x1), (2, .int (0)), (3, .int x3)]) (v := (0)) (ty := .int) (by decide +kernel) rfl ?_ (by decide +kernel) (by decide +kernel) (by decide +kernel) (by decide)
  show ev_stepn _ 11 (0, [(0, .ref 621), (1, .int x1), (2, .int (0)), (3, .int x3)], [], _, _, 0, 0) = _
  refine ev_go0 (ev_one_pure (M := (ev_Mof 335)) (pc := 0) (i := .aload_n 0) (len := 1) (pc' := 1) (lv' := [(0, .ref 621), (1, .int x1), (2, .int (0)), (3, .int x3)]) (st' := [.ref 621]) (by decide +kernel) rfl) ?_
  refine ev_go0 (ev_one_pure (M := (ev_Mof 335)) (pc := 1) (i := .aload_n 0) (len := 1) (pc' := 2) (lv' := [(0, .ref 621), (1, .int x1), (2, .int (0)), (3, .int x3)]) (st' := [.ref 621, .ref 621]) (by decide +kernel) rfl) ?_
  refine ev_go0 (ev_one_pure (M := (ev_Mof 335)) (pc := 2) (i := .iload_n 1) (len := 1) (pc' := 3) (lv' := [(0, .ref 621), (1, .int x1), (2, .int (0)), (3, .int x3)]) (st' := [.int x1, .ref 621, .ref 621]) (by decide +kernel) rfl) ?_
  refine ev_go0 (ev_p_virt (M := (ev_Mof 335)) (pc := 3) (x := 531) (mi := 273) (na := 1) (by decide +kernel) (by decide +kernel) (by decide +kernel) (by decide +kernel) rfl rfl (ev_recv_of ev_fH621) (ev_k24 x1 hu_x1)) ?_
  refine ev_go0 (ev_w_if (M := (ev_Mof 335)) (pc := 6) (q := .eq) (o := 19) (b := true) (t := 25) (by decide +kernel) (by decide +kernel) rfl) ?_
  refine ev_go0 (ev_w_iconst (M := (ev_Mof 335)) (pc := 25) (k := 1) (v := 1) (by decide +kernel) (by decide +kernel)) ?_
  refine ev_go0 (ev_p_putf (M := (ev_Mof 335)) (pc := 26) (x := 321) (ci := 13) (f := 0) (by decide +kernel) (by decide +kernel) ev_fH621 rfl (by decide +kernel)) ?_
  refine ev_go0 (ev_one_pure (M := (ev_Mof 335)) (pc := 29) (i := .aload_n 0) (len := 1) (pc' := 30) (lv' := [(0, .ref 621), (1, .int x1), (2, .int (0)), (3, .int x3)]) (st' := [.ref 621]) (by decide +kernel) rfl) ?_
  refine ev_go0 (ev_p_getf (M := (ev_Mof 335)) (pc := 30) (x := 321) (ci := 13) (f := 0) (fin := 0) (v := .int (1)) (by decide +kernel) (by decide +kernel) (ev_hself ev_fH621) rfl) ?_
  refine ev_go0 (ev_w_if (M := (ev_Mof 335)) (pc := 33) (q := .le) (o := 5) (b := false) (t := 36) (by decide +kernel) (by decide +kernel) rfl) ?_
  refine ev_go0 (ev_w_iconst (M := (ev_Mof 335)) (pc := 36) (k := 0) (v := 0) (by decide +kernel) (by decide +kernel)) ?_
  rfl
theorem ev_p1_16_n0 (xs : Nat → Int32) (x1 : Int32) (hu_x1 : x1.toInt ≤ (-1 : Int)) (x3 : Int32) (e1 : xs 1 = x1) (e2 : xs 2 = (0)) (e3 : xs 3 = x3) : ev_P1 xs 1228 := by
  refine ⟨44, [(6, .int (0)), (5, .int (1)), (4, .int (0)), (3, .ref 723), (2, .ref 621), (1, .ref 0), (0, .retAddr 0)], (ev_H0.set 621 (.inr (13, (ev_F621.set 0 (.int (1)))))), 724, 725, 3553592, ?_, ⟨rfl, rfl, rfl, rfl⟩, rfl, by decide, by decide⟩
  show ev_stepn _ _ (1228, [(4, .int (0)), (3, .ref 723), (2, .ref 621), (1, .ref 0), (0, .retAddr 0)], [], _, _, _, _) = _
  refine ev_go0 (ev_one_pure (M := ev_Mlaw) (pc := 1228) (i := .aload_n 1) (len := 1) (pc' := 1229) (lv' := [(4, .int (0)), (3, .ref 723), (2, .ref 621), (1, .ref 0), (0, .retAddr 0)]) (st' := [.ref 0]) (by decide +kernel) rfl) ?_
  refine ev_go0 (ev_one_pure (M := ev_Mlaw) (pc := 1229) (i := .aload_n 0) (len := 1) (pc' := 1230) (lv' := [(4, .int (0)), (3, .ref 723), (2, .ref 621), (1, .ref 0), (0, .retAddr 0)]) (st' := [.retAddr 0, .ref 0]) (by decide +kernel) rfl) ?_
  refine ev_go0 (ev_one_pure (M := ev_Mlaw) (pc := 1230) (i := .iload 4) (len := 2) (pc' := 1232) (lv' := [(4, .int (0)), (3, .ref 723), (2, .ref 621), (1, .ref 0), (0, .retAddr 0)]) (st' := [.int (0), .retAddr 0, .ref 0]) (by decide +kernel) rfl) ?_
  refine ev_go0 (ev_w_iconst (M := ev_Mlaw) (pc := 1232) (k := 1) (v := 1) (by decide +kernel) (by decide +kernel)) ?_
  refine ev_go0 (ev_w_iadd (M := ev_Mlaw) (pc := 1233) (v := (1)) (by decide +kernel) (by decide +kernel)) ?_
  refine ev_go0 (ev_w_scr (M := ev_Mlaw) (pc := 1234) (v := x1) (j := 1) (by decide +kernel) (by decide +kernel) (by decide +kernel) e1) ?_
  refine ev_go0 (ev_one_pure (M := ev_Mlaw) (pc := 1235) (i := .aload_n 0) (len := 1) (pc' := 1236) (lv' := [(4, .int (0)), (3, .ref 723), (2, .ref 621), (1, .ref 0), (0, .retAddr 0)]) (st' := [.retAddr 0, .int x1, .ref 0]) (by decide +kernel) rfl) ?_
  refine ev_go0 (ev_one_pure (M := ev_Mlaw) (pc := 1236) (i := .iload 4) (len := 2) (pc' := 1238) (lv' := [(4, .int (0)), (3, .ref 723), (2, .ref 621), (1, .ref 0), (0, .retAddr 0)]) (st' := [.int (0), .retAddr 0, .int x1, .ref 0]) (by decide +kernel) rfl) ?_
  refine ev_go0 (ev_w_iconst (M := ev_Mlaw) (pc := 1238) (k := 2) (v := 2) (by decide +kernel) (by decide +kernel)) ?_
  refine ev_go0 (ev_w_iadd (M := ev_Mlaw) (pc := 1239) (v := (2)) (by decide +kernel) (by decide +kernel)) ?_
  refine ev_go0 (ev_w_scr (M := ev_Mlaw) (pc := 1240) (v := (0)) (j := 2) (by decide +kernel) (by decide +kernel) (by decide +kernel) e2) ?_
  refine ev_go0 (ev_one_pure (M := ev_Mlaw) (pc := 1241) (i := .aload_n 0) (len := 1) (pc' := 1242) (lv' := [(4, .int (0)), (3, .ref 723), (2, .ref 621), (1, .ref 0), (0, .retAddr 0)]) (st' := [.retAddr 0, .int (0), .int x1, .ref 0]) (by decide +kernel) rfl) ?_
  refine ev_go0 (ev_one_pure (M := ev_Mlaw) (pc := 1242) (i := .iload 4) (len := 2) (pc' := 1244) (lv' := [(4, .int (0)), (3, .ref 723), (2, .ref 621), (1, .ref 0), (0, .retAddr 0)]) (st' := [.int (0), .retAddr 0, .int (0), .int x1, .ref 0]) (by decide +kernel) rfl) ?_
  refine ev_go0 (ev_w_iconst (M := ev_Mlaw) (pc := 1244) (k := 3) (v := 3) (by decide +kernel) (by decide +kernel)) ?_
  refine ev_go0 (ev_w_iadd (M := ev_Mlaw) (pc := 1245) (v := (3)) (by decide +kernel) (by decide +kernel)) ?_
  refine ev_go0 (ev_w_scr (M := ev_Mlaw) (pc := 1246) (v := x3) (j := 3) (by decide +kernel) (by decide +kernel) (by decide +kernel) e3) ?_
  refine ev_go0 (ev_one_pure (M := ev_Mlaw) (pc := 1247) (i := .aload_n 3) (len := 1) (pc' := 1248) (lv' := [(4, .int (0)), (3, .ref 723), (2, .ref 621), (1, .ref 0), (0, .retAddr 0)]) (st' := [.ref 723, .int x3, .int (0), .int x1, .ref 0]) (by decide +kernel) rfl) ?_
  refine ev_go (ev_w_stat (M := ev_Mlaw) (pc := 1248) (y := 185) (kind := 8) (Or.inr (Or.inr rfl)) (mi := 379) (na := 5) (by decide +kernel) (by decide +kernel) (by decide +kernel) (by decide +kernel) rfl rfl (ev_k329 x1 hu_x1 x3)) ?_
  refine ev_go0 (ev_w_istore (M := ev_Mlaw) (pc := 1251) (k := 5) (lv' := [(5, .int (1)), (4, .int (0)), (3, .ref 723), (2, .ref 621), (1, .ref 0), (0, .retAddr 0)]) (by decide +kernel) (by decide +kernel) rfl) ?_
  refine ev_go0 (ev_one_pure (M := ev_Mlaw) (pc := 1253) (i := .aload_n 2) (len := 1) (pc' := 1254) (lv' := [(5, .int (1)), (4, .int (0)), (3, .ref 723), (2, .ref 621), (1, .ref 0), (0, .retAddr 0)]) (st' := [.ref 621]) (by decide +kernel) rfl) ?_
  refine ev_go0 (ev_one_pure (M := ev_Mlaw) (pc := 1254) (i := .aload_n 0) (len := 1) (pc' := 1255) (lv' := [(5, .int (1)), (4, .int (0)), (3, .ref 723), (2, .ref 621), (1, .ref 0), (0, .retAddr 0)]) (st' := [.retAddr 0, .ref 621]) (by decide +kernel) rfl) ?_
  refine ev_go0 (ev_one_pure (M := ev_Mlaw) (pc := 1255) (i := .iload 4) (len := 2) (pc' := 1257) (lv' := [(5, .int (1)), (4, .int (0)), (3, .ref 723), (2, .ref 621), (1, .ref 0), (0, .retAddr 0)]) (st' := [.int (0), .retAddr 0, .ref 621]) (by decide +kernel) rfl) ?_
  refine ev_go0 (ev_w_iconst (M := ev_Mlaw) (pc := 1257) (k := 1) (v := 1) (by decide +kernel) (by decide +kernel)) ?_
  refine ev_go0 (ev_w_iadd (M := ev_Mlaw) (pc := 1258) (v := (1)) (by decide +kernel) (by decide +kernel)) ?_
  refine ev_go0 (ev_w_scr (M := ev_Mlaw) (pc := 1259) (v := x1) (j := 1) (by decide +kernel) (by decide +kernel) (by decide +kernel) e1) ?_
  refine ev_go0 (ev_one_pure (M := ev_Mlaw) (pc := 1260) (i := .aload_n 0) (len := 1) (pc' := 1261) (lv' := [(5, .int (1)), (4, .int (0)), (3, .ref 723), (2, .ref 621), (1, .ref 0), (0, .retAddr 0)]) (st' := [.retAddr 0, .int x1, .ref 621]) (by decide +kernel) rfl) ?_
  refine ev_go0 (ev_one_pure (M := ev_Mlaw) (pc := 1261) (i := .iload 4) (len := 2) (pc' := 1263) (lv' := [(5, .int (1)), (4, .int (0)), (3, .ref 723), (2, .ref 621), (1, .ref 0), (0, .retAddr 0)]) (st' := [.int (0), .retAddr 0, .int x1, .ref 621]) (by decide +kernel) rfl) ?_
  refine ev_go0 (ev_w_iconst (M := ev_Mlaw) (pc := 1263) (k := 2) (v := 2) (by decide +kernel) (by decide +kernel)) ?_
  refine ev_go0 (ev_w_iadd (M := ev_Mlaw) (pc := 1264) (v := (2)) (by decide +kernel) (by decide +kernel)) ?_
  refine ev_go0 (ev_w_scr (M := ev_Mlaw) (pc := 1265) (v := (0)) (j := 2) (by decide +kernel) (by decide +kernel) (by decide +kernel) e2) ?_
  refine ev_go0 (ev_one_pure (M := ev_Mlaw) (pc := 1266) (i := .aload_n 0) (len := 1) (pc' := 1267) (lv' := [(5, .int (1)), (4, .int (0)), (3, .ref 723), (2, .ref 621), (1, .ref 0), (0, .retAddr 0)]) (st' := [.retAddr 0, .int (0), .int x1, .ref 621]) (by decide +kernel) rfl) ?_
  refine ev_go0 (ev_one_pure (M := ev_Mlaw) (pc := 1267) (i := .iload 4) (len := 2) (pc' := 1269) (lv' := [(5, .int (1)), (4, .int (0)), (3, .ref 723), (2, .ref 621), (1, .ref 0), (0, .retAddr 0)]) (st' := [.int (0), .retAddr 0, .int (0), .int x1, .ref 621]) (by decide +kernel) rfl) ?_
  refine ev_go0 (ev_w_iconst (M := ev_Mlaw) (pc := 1269) (k := 3) (v := 3) (by decide +kernel) (by decide +kernel)) ?_
  refine ev_go0 (ev_w_iadd (M := ev_Mlaw) (pc := 1270) (v := (3)) (by decide +kernel) (by decide +kernel)) ?_
  refine ev_go0 (ev_w_scr (M := ev_Mlaw) (pc := 1271) (v := x3) (j := 3) (by decide +kernel) (by decide +kernel) (by decide +kernel) e3) ?_
  refine ev_go0 (ev_p_virt (M := ev_Mlaw) (pc := 1272) (x := 187) (mi := 335) (na := 3) (by decide +kernel) (by decide +kernel) (by decide +kernel) (by decide +kernel) rfl rfl (ev_recv_of ev_fH621) (ev_k330 x1 hu_x1 x3)) ?_
  refine ev_go0 (ev_w_istore (M := ev_Mlaw) (pc := 1275) (k := 6) (lv' := [(6, .int (0)), (5, .int (1)), (4, .int (0)), (3, .ref 723), (2, .ref 621), (1, .ref 0), (0, .retAddr 0)]) (by decide +kernel) (by decide +kernel) rfl) ?_
  refine ev_go0 (ev_one_pure (M := ev_Mlaw) (pc := 1277) (i := .aload_n 2) (len := 1) (pc' := 1278) (lv' := [(6, .int (0)), (5, .int (1)), (4, .int (0)), (3, .ref 723), (2, .ref 621), (1, .ref 0), (0, .retAddr 0)]) (st' := [.ref 621]) (by decide +kernel) rfl) ?_
  refine ev_go0 (ev_p_virt (M := ev_Mlaw) (pc := 1278) (x := 131) (mi := 220) (na := 0) (by decide +kernel) (by decide +kernel) (by decide +kernel) (by decide +kernel) rfl rfl (ev_recv_of (ev_hself ev_fH621)) ev_k26) ?_
  refine ev_go0 (ev_one_pure (M := ev_Mlaw) (pc := 1281) (i := .iload 5) (len := 2) (pc' := 1283) (lv' := [(6, .int (0)), (5, .int (1)), (4, .int (0)), (3, .ref 723), (2, .ref 621), (1, .ref 0), (0, .retAddr 0)]) (st' := [.int (1), .int (1)]) (by decide +kernel) rfl) ?_
  refine ev_go0 (ev_w_icmp (M := ev_Mlaw) (pc := 1283) (q := .eq) (o := 5) (b := true) (t := 1288) (by decide +kernel) (by decide +kernel) rfl) ?_
  refine ev_go0 (ev_one_pure (M := ev_Mlaw) (pc := 1288) (i := .iload 5) (len := 2) (pc' := 1290) (lv' := [(6, .int (0)), (5, .int (1)), (4, .int (0)), (3, .ref 723), (2, .ref 621), (1, .ref 0), (0, .retAddr 0)]) (st' := [.int (1)]) (by decide +kernel) rfl) ?_
  refine ev_go0 (ev_w_if (M := ev_Mlaw) (pc := 1290) (q := .ne) (o := 15) (b := true) (t := 1305) (by decide +kernel) (by decide +kernel) rfl) ?_
  refine ev_go0 (ev_one_pure (M := ev_Mlaw) (pc := 1305) (i := .goto 967) (len := 3) (pc' := 2272) (lv' := [(6, .int (0)), (5, .int (1)), (4, .int (0)), (3, .ref 723), (2, .ref 621), (1, .ref 0), (0, .retAddr 0)]) (st' := []) (by decide +kernel) rfl) ?_
  rfl
theorem ev_k331 (x1 : Int32) (hu_x1 : x1.toInt ≤ (-1 : Int)) (x3 : Int32) {n : Nat} : ev_calld 11 182 [.ref 0, .int x1, .int (1), .int x3] ev_H0 n = some (.inr "java/lang/IndexOutOfBoundsException", ev_H0, n, 1, 6) := by
  refine ev_call_thrown (k := 11) (pcR := 31) (x := 160) (lv' := [(5, .ref 265), (4, .null), (0, .ref 0), (1, .int x1), (2, .int (1)), (3, .int x3)]) (by decide +kernel) rfl ?_ (by decide +kernel) (by decide +kernel) (by decide +kernel) (by decide) (by decide)
  show ev_stepn _ 11 (0, [(0, .ref 0), (1, .int x1), (2, .int (1)), (3, .int x3)], [], _, _, 0, 0) = _
  refine ev_go0 (ev_one_pure (M := (ev_Mof 182)) (pc := 0) (i := .aload_n 0) (len := 1) (pc' := 1) (lv' := [(0, .ref 0), (1, .int x1), (2, .int (1)), (3, .int x3)]) (st' := [.ref 0]) (by decide +kernel) rfl) ?_
  refine ev_go0 (ev_one_pure (M := (ev_Mof 182)) (pc := 1) (i := .iload_n 1) (len := 1) (pc' := 2) (lv' := [(0, .ref 0), (1, .int x1), (2, .int (1)), (3, .int x3)]) (st' := [.int x1, .ref 0]) (by decide +kernel) rfl) ?_
  refine ev_go0 (ev_p_virt (M := (ev_Mof 182)) (pc := 2) (x := 156) (mi := 200) (na := 1) (by decide +kernel) (by decide +kernel) (by decide +kernel) (by decide +kernel) rfl rfl (ev_recv_of ev_fH0) (ev_k1 x1 hu_x1)) ?_
  refine ev_go0 (ev_w_astore (M := (ev_Mof 182)) (pc := 5) (k := 4) (lv' := [(4, .null), (0, .ref 0), (1, .int x1), (2, .int (1)), (3, .int x3)]) (by decide +kernel) (by decide +kernel) (Or.inr (Or.inl rfl)) rfl) ?_
  refine ev_go0 (ev_one_pure (M := (ev_Mof 182)) (pc := 7) (i := .aload_n 0) (len := 1) (pc' := 8) (lv' := [(4, .null), (0, .ref 0), (1, .int x1), (2, .int (1)), (3, .int x3)]) (st' := [.ref 0]) (by decide +kernel) rfl) ?_
  refine ev_go0 (ev_p_getf (M := (ev_Mof 182)) (pc := 8) (x := 48) (ci := 12) (f := 8) (fin := 1) (v := .ref 254) (by decide +kernel) (by decide +kernel) ev_fH0 rfl) ?_
  refine ev_go0 (ev_one_pure (M := (ev_Mof 182)) (pc := 11) (i := .iload_n 2) (len := 1) (pc' := 12) (lv' := [(4, .null), (0, .ref 0), (1, .int x1), (2, .int (1)), (3, .int x3)]) (st' := [.int (1), .ref 254]) (by decide +kernel) rfl) ?_
  refine ev_go0 (ev_p_virt (M := (ev_Mof 182)) (pc := 12) (x := 221) (mi := 1) (na := 1) (by decide +kernel) (by decide +kernel) (by decide +kernel) (by decide +kernel) rfl rfl (ev_recv_of ev_fH254) ev_k238) ?_
  refine ev_go0 (ev_w_astore (M := (ev_Mof 182)) (pc := 15) (k := 5) (lv' := [(5, .ref 265), (4, .null), (0, .ref 0), (1, .int x1), (2, .int (1)), (3, .int x3)]) (by decide +kernel) (by decide +kernel) (Or.inl ⟨_, rfl⟩) rfl) ?_
  refine ev_go0 (ev_one_pure (M := (ev_Mof 182)) (pc := 17) (i := .aload 4) (len := 2) (pc' := 19) (lv' := [(5, .ref 265), (4, .null), (0, .ref 0), (1, .int x1), (2, .int (1)), (3, .int x3)]) (st' := [.null]) (by decide +kernel) rfl) ?_
  refine ev_go0 (ev_w_ifnull (M := (ev_Mof 182)) (pc := 19) (o := 12) (t := 31) (by decide +kernel) (Or.inl ⟨rfl, rfl⟩)) ?_
  rfl
theorem ev_k332 (x1 : Int32) (hu_x1 : x1.toInt ≤ (-1 : Int)) (x3 : Int32) {n : Nat} : ev_calld 12 379 [.ref 0, .int x1, .int (1), .int x3, .ref 723] ev_H0 n = some (.inl (some (.int (1))), ev_H0, n, 1, 6) := by
  refine ev_call_int (k := 9) (pcR := 18) (lv' := [(5, .retAddr 1), (0, .ref 0), (1, .int x1), (2, .int (1)), (3, .int x3), (4, .ref 723)]) (v := (1)) (ty := .int) (by decide +kernel) rfl ?_ (by decide +kernel) (by decide +kernel) (by decide +kernel) (by decide)
  show ev_stepn _ 9 (0, [(0, .ref 0), (1, .int x1), (2, .int (1)), (3, .int x3), (4, .ref 723)], [], _, _, 0, 0) = _
  refine ev_go0 (ev_one_pure (M := (ev_Mof 379)) (pc := 0) (i := .aload 4) (len := 2) (pc' := 2) (lv' := [(0, .ref 0), (1, .int x1), (2, .int (1)), (3, .int x3), (4, .ref 723)]) (st' := [.ref 723]) (by decide +kernel) rfl) ?_
  refine ev_go0 (ev_w_iconst (M := (ev_Mof 379)) (pc := 2) (k := 0) (v := 0) (by decide +kernel) (by decide +kernel)) ?_
  refine ev_go0 (ev_one_pure (M := (ev_Mof 379)) (pc := 3) (i := .aload_n 0) (len := 1) (pc' := 4) (lv' := [(0, .ref 0), (1, .int x1), (2, .int (1)), (3, .int x3), (4, .ref 723)]) (st' := [.ref 0, .int (0), .ref 723]) (by decide +kernel) rfl) ?_
  refine ev_go0 (ev_one_pure (M := (ev_Mof 379)) (pc := 4) (i := .iload_n 1) (len := 1) (pc' := 5) (lv' := [(0, .ref 0), (1, .int x1), (2, .int (1)), (3, .int x3), (4, .ref 723)]) (st' := [.int x1, .ref 0, .int (0), .ref 723]) (by decide +kernel) rfl) ?_
  refine ev_go0 (ev_one_pure (M := (ev_Mof 379)) (pc := 5) (i := .iload_n 2) (len := 1) (pc' := 6) (lv' := [(0, .ref 0), (1, .int x1), (2, .int (1)), (3, .int x3), (4, .ref 723)]) (st' := [.int (1), .int x1, .ref 0, .int (0), .ref 723]) (by decide +kernel) rfl) ?_
  refine ev_go0 (ev_one_pure (M := (ev_Mof 379)) (pc := 6) (i := .iload_n 3) (len := 1) (pc' := 7) (lv' := [(0, .ref 0), (1, .int x1), (2, .int (1)), (3, .int x3), (4, .ref 723)]) (st' := [.int x3, .int (1), .int x1, .ref 0, .int (0), .ref 723]) (by decide +kernel) rfl) ?_
  refine ev_go (ev_p_virtX (M := (ev_Mof 379)) (pc := 7) (x := 67) (t := 15) (mi := 182) (na := 3) (by decide +kernel) (by decide +kernel) (by decide +kernel) (by decide +kernel) rfl rfl (ev_recv_of ev_fH0) (ev_k331 x1 hu_x1 x3) (by decide +kernel)) ?_
  refine ev_go0 (ev_w_astore (M := (ev_Mof 379)) (pc := 15) (k := 5) (lv' := [(5, .retAddr 1), (0, .ref 0), (1, .int x1), (2, .int (1)), (3, .int x3), (4, .ref 723)]) (by decide +kernel) (by decide +kernel) (Or.inr (Or.inr ⟨_, rfl⟩)) rfl) ?_
  refine ev_go0 (ev_w_iconst (M := (ev_Mof 379)) (pc := 17) (k := 1) (v := 1) (by decide +kernel) (by decide +kernel)) ?_
  rfl
theorem ev_k333 (x1 : Int32) (hu_x1 : x1.toInt ≤ (-1 : Int)) (x3 : Int32) {n : Nat} : ev_calld 12 335 [.ref 621, .int x1, .int (1), .int x3] ev_H0 n = some (.inl (some (.int (0))), (ev_H0.set 621 (.inr (13, (ev_F621.set 0 (.int (1)))))), n, 0, 0) := by
  refine ev_call_int (k := 11) (pcR := 37) (lv' := [(0, .ref 621), (1, .int x1), (2, .int (1)), (3, .int x3)]) (v := (0)) (ty := .int) (by decide +kernel) rfl ?_ (by decide +kernel) (by decide +kernel) (by decide +kernel) (by decide)
  show ev_stepn _ 11 (0, [(0, .ref 621), (1, .int x1), (2, .int (1)), (3, .int x3)], [], _, _, 0, 0) = _
  refine ev_go0 (ev_one_pure (M := (ev_Mof 335)) (pc := 0) (i := .aload_n 0) (len := 1) (pc' := 1) (lv' := [(0, .ref 621), (1, .int x1), (2, .int (1)), (3, .int x3)]) (st' := [.ref 621]) (by decide +kernel) rfl) ?_
  refine ev_go0 (ev_one_pure (M := (ev_Mof 335)) (pc := 1) (i := .aload_n 0) (len := 1) (pc' := 2) (lv' := [(0, .ref 621), (1, .int x1), (2, .int (1)), (3, .int x3)]) (st' := [.ref 621, .ref 621]) (by decide +kernel) rfl) ?_
  refine ev_go0 (ev_one_pure (M := (ev_Mof 335)) (pc := 2) (i := .iload_n 1) (len := 1) (pc' := 3) (lv' := [(0, .ref 621), (1, .int x1), (2, .int (1)), (3, .int x3)]) (st' := [.int x1, .ref 621, .ref 621]) (by decide +kernel) rfl) ?_
  refine ev_go0 (ev_p_virt (M := (ev_Mof 335)) (pc := 3) (x := 531) (mi := 273) (na := 1) (by decide +kernel) (by decide +kernel) (by decide +kernel) (by decide +kernel) rfl rfl (ev_recv_of ev_fH621) (ev_k24 x1 hu_x1)) ?_
  refine ev_go0 (ev_w_if (M := (ev_Mof 335)) (pc := 6) (q := .eq) (o := 19) (b := true) (t := 25) (by decide +kernel) (by decide +kernel) rfl) ?_
  refine ev_go0 (ev_w_iconst (M := (ev_Mof 335)) (pc := 25) (k := 1) (v := 1) (by decide +kernel) (by decide +kernel)) ?_
  refine ev_go0 (ev_p_putf (M := (ev_Mof 335)) (pc := 26) (x := 321) (ci := 13) (f := 0) (by decide +kernel) (by decide +kernel) ev_fH621 rfl (by decide +kernel)) ?_
  refine ev_go0 (ev_one_pure (M := (ev_Mof 335)) (pc := 29) (i := .aload_n 0) (len := 1) (pc' := 30) (lv' := [(0, .ref 621), (1, .int x1), (2, .int (1)), (3, .int x3)]) (st' := [.ref 621]) (by decide +kernel) rfl) ?_
  refine ev_go0 (ev_p_getf (M := (ev_Mof 335)) (pc := 30) (x := 321) (ci := 13) (f := 0) (fin := 0) (v := .int (1)) (by decide +kernel) (by decide +kernel) (ev_hself ev_fH621) rfl) ?_
  refine ev_go0 (ev_w_if (M := (ev_Mof 335)) (pc := 33) (q := .le) (o := 5) (b := false) (t := 36) (by decide +kernel) (by decide +kernel) rfl) ?_
  refine ev_go0 (ev_w_iconst (M := (ev_Mof 335)) (pc := 36) (k := 0) (v := 0) (by decide +kernel) (by decide +kernel)) ?_
  rfl
theorem ev_p1_16_n1 (xs : Nat → Int32) (x1 : Int32) (hu_x1 : x1.toInt ≤ (-1 : Int)) (x3 : Int32) (e1 : xs 1 = x1) (e2 : xs 2 = (1)) (e3 : xs 3 = x3) : ev_P1 xs 1228 := by
  refine ⟨44, [(6, .int (0)), (5, .int (1)), (4, .int (0)), (3, .ref 723), (2, .ref 621), (1, .ref 0), (0, .retAddr 0)], (ev_H0.set 621 (.inr (13, (ev_F621.set 0 (.int (1)))))), 724, 725, 3553592, ?_, ⟨rfl, rfl, rfl, rfl⟩, rfl, by decide, by decide⟩
  show ev_stepn _ _ (1228, [(4, .int (0)), (3, .ref 723), (2, .ref 621), (1, .ref 0), (0, .retAddr 0)], [], _, _, _, _) = _
  refine ev_go0 (ev_one_pure (M := ev_Mlaw) (pc := 1228) (i := .aload_n 1) (len := 1) (pc' := 1229) (lv' := [(4, .int (0)), (3, .ref 723), (2, .ref 621), (1, .ref 0), (0, .retAddr 0)]) (st' := [.ref 0]) (by decide +kernel) rfl) ?_
  refine ev_go0 (ev_one_pure (M := ev_Mlaw) (pc := 1229) (i := .aload_n 0) (len := 1) (pc' := 1230) (lv' := [(4, .int (0)), (3, .ref 723), (2, .ref 621), (1, .ref 0), (0, .retAddr 0)]) (st' := [.retAddr 0, .ref 0]) (by decide +kernel) rfl) ?_
  refine ev_go0 (ev_one_pure (M := ev_Mlaw) (pc := 1230) (i := .iload 4) (len := 2) (pc' := 1232) (lv' := [(4, .int (0)), (3, .ref 723), (2, .ref 621), (1, .ref 0), (0, .retAddr 0)]) (st' := [.int (0), .retAddr 0, .ref 0]) (by decide +kernel) rfl) ?_
  refine ev_go0 (ev_w_iconst (M := ev_Mlaw) (pc := 1232) (k := 1) (v := 1) (by decide +kernel) (by decide +kernel)) ?_
  refine ev_go0 (ev_w_iadd (M := ev_Mlaw) (pc := 1233) (v := (1)) (by decide +kernel) (by decide +kernel)) ?_
  refine ev_go0 (ev_w_scr (M := ev_Mlaw) (pc := 1234) (v := x1) (j := 1) (by decide +kernel) (by decide +kernel) (by decide +kernel) e1) ?_
  refine ev_go0 (ev_one_pure (M := ev_Mlaw) (pc := 1235) (i := .aload_n 0) (len := 1) (pc' := 1236) (lv' := [(4, .int (0)), (3, .ref 723), (2, .ref 621), (1, .ref 0), (0, .retAddr 0)]) (st' := [.retAddr 0, .int x1, .ref 0]) (by decide +kernel) rfl) ?_
  refine ev_go0 (ev_one_pure (M := ev_Mlaw) (pc := 1236) (i := .iload 4) (len := 2) (pc' := 1238) (lv' := [(4, .int (0)), (3, .ref 723), (2, .ref 621), (1, .ref 0), (0, .retAddr 0)]) (st' := [.int (0), .retAddr 0, .int x1, .ref 0]) (by decide +kernel) rfl) ?_
  refine ev_go0 (ev_w_iconst (M := ev_Mlaw) (pc := 1238) (k := 2) (v := 2) (by decide +kernel) (by decide +kernel)) ?_
  refine ev_go0 (ev_w_iadd (M := ev_Mlaw) (pc := 1239) (v := (2)) (by decide +kernel) (by decide +kernel)) ?_
  refine ev_go0 (ev_w_scr (M := ev_Mlaw) (pc := 1240) (v := (1)) (j := 2) (by decide +kernel) (by decide +kernel) (by decide +kernel) e2) ?_
  refine ev_go0 (ev_one_pure (M := ev_Mlaw) (pc := 1241) (i := .aload_n 0) (len := 1) (pc' := 1242) (lv' := [(4, .int (0)), (3, .ref 723), (2, .ref 621), (1, .ref 0), (0, .retAddr 0)]) (st' := [.retAddr 0, .int (1), .int x1, .ref 0]) (by decide +kernel) rfl) ?_
  refine ev_go0 (ev_one_pure (M := ev_Mlaw) (pc := 1242) (i := .iload 4) (len := 2) (pc' := 1244) (lv' := [(4, .int (0)), (3, .ref 723), (2, .ref 621), (1, .ref 0), (0, .retAddr 0)]) (st' := [.int (0), .retAddr 0, .int (1), .int x1, .ref 0]) (by decide +kernel) rfl) ?_
  refine ev_go0 (ev_w_iconst (M := ev_Mlaw) (pc := 1244) (k := 3) (v := 3) (by decide +kernel) (by decide +kernel)) ?_
  refine ev_go0 (ev_w_iadd (M := ev_Mlaw) (pc := 1245) (v := (3)) (by decide +kernel) (by decide +kernel)) ?_
  refine ev_go0 (ev_w_scr (M := ev_Mlaw) (pc := 1246) (v := x3) (j := 3) (by decide +kernel) (by decide +kernel) (by decide +kernel) e3) ?_
  refine ev_go0 (ev_one_pure (M := ev_Mlaw) (pc := 1247) (i := .aload_n 3) (len := 1) (pc' := 1248) (lv' := [(4, .int (0)), (3, .ref 723), (2, .ref 621), (1, .ref 0), (0, .retAddr 0)]) (st' := [.ref 723, .int x3, .int (1), .int x1, .ref 0]) (by decide +kernel) rfl) ?_
  refine ev_go (ev_w_stat (M := ev_Mlaw) (pc := 1248) (y := 185) (kind := 8) (Or.inr (Or.inr rfl)) (mi := 379) (na := 5) (by decide +kernel) (by decide +kernel) (by decide +kernel) (by decide +kernel) rfl rfl (ev_k332 x1 hu_x1 x3)) ?_
  refine ev_go0 (ev_w_istore (M := ev_Mlaw) (pc := 1251) (k := 5) (lv' := [(5, .int (1)), (4, .int (0)), (3, .ref 723), (2, .ref 621), (1, .ref 0), (0, .retAddr 0)]) (by decide +kernel) (by decide +kernel) rfl) ?_
  refine ev_go0 (ev_one_pure (M := ev_Mlaw) (pc := 1253) (i := .aload_n 2) (len := 1) (pc' := 1254) (lv' := [(5, .int (1)), (4, .int (0)), (3, .ref 723), (2, .ref 621), (1, .ref 0), (0, .retAddr 0)]) (st' := [.ref 621]) (by decide +kernel) rfl) ?_
  refine ev_go0 (ev_one_pure (M := ev_Mlaw) (pc := 1254) (i := .aload_n 0) (len := 1) (pc' := 1255) (lv' := [(5, .int (1)), (4, .int (0)), (3, .ref 723), (2, .ref 621), (1, .ref 0), (0, .retAddr 0)]) (st' := [.retAddr 0, .ref 621]) (by decide +kernel) rfl) ?_
  refine ev_go0 (ev_one_pure (M := ev_Mlaw) (pc := 1255) (i := .iload 4) (len := 2) (pc' := 1257) (lv' := [(5, .int (1)), (4, .int (0)), (3, .ref 723), (2, .ref 621), (1, .ref 0), (0, .retAddr 0)]) (st' := [.int (0), .retAddr 0, .ref 621]) (by decide +kernel) rfl) ?_
  refine ev_go0 (ev_w_iconst (M := ev_Mlaw) (pc := 1257) (k := 1) (v := 1) (by decide +kernel) (by decide +kernel)) ?_
  refine ev_go0 (ev_w_iadd (M := ev_Mlaw) (pc := 1258) (v := (1)) (by decide +kernel) (by decide +kernel)) ?_
  refine ev_go0 (ev_w_scr (M := ev_Mlaw) (pc := 1259) (v := x1) (j := 1) (by decide +kernel) (by decide +kernel) (by decide +kernel) e1) ?_
  refine ev_go0 (ev_one_pure (M := ev_Mlaw) (pc := 1260) (i := .aload_n 0) (len := 1) (pc' := 1261) (lv' := [(5, .int (1)), (4, .int (0)), (3, .ref 723), (2, .ref 621), (1, .ref 0), (0, .retAddr 0)]) (st' := [.retAddr 0, .int x1, .ref 621]) (by decide +kernel) rfl) ?_
  refine ev_go0 (ev_one_pure (M := ev_Mlaw) (pc := 1261) (i := .iload 4) (len := 2) (pc' := 1263) (lv' := [(5, .int (1)), (4, .int (0)), (3, .ref 723), (2, .ref 621), (1, .ref 0), (0, .retAddr 0)]) (st' := [.int (0), .retAddr 0, .int x1, .ref 621]) (by decide +kernel) rfl) ?_
  refine ev_go0 (ev_w_iconst (M := ev_Mlaw) (pc := 1263) (k := 2) (v := 2) (by decide +kernel) (by decide +kernel)) ?_
  refine ev_go0 (ev_w_iadd (M := ev_Mlaw) (pc := 1264) (v := (2)) (by decide +kernel) (by decide +kernel)) ?_
  refine ev_go0 (ev_w_scr (M := ev_Mlaw) (pc := 1265) (v := (1)) (j := 2) (by decide +kernel) (by decide +kernel) (by decide +kernel) e2) ?_
  refine ev_go0 (ev_one_pure (M := ev_Mlaw) (pc := 1266) (i := .aload_n 0) (len := 1) (pc' := 1267) (lv' := [(5, .int (1)), (4, .int (0)), (3, .ref 723), (2, .ref 621), (1, .ref 0), (0, .retAddr 0)]) (st' := [.retAddr 0, .int (1), .int x1, .ref 621]) (by decide +kernel) rfl) ?_
  refine ev_go0 (ev_one_pure (M := ev_Mlaw) (pc := 1267) (i := .iload 4) (len := 2) (pc' := 1269) (lv' := [(5, .int (1)), (4, .int (0)), (3, .ref 723), (2, .ref 621), (1, .ref 0), (0, .retAddr 0)]) (st' := [.int (0), .retAddr 0, .int (1), .int x1, .ref 621]) (by decide +kernel) rfl) ?_
  refine ev_go0 (ev_w_iconst (M := ev_Mlaw) (pc := 1269) (k := 3) (v := 3) (by decide +kernel) (by decide +kernel)) ?_
  refine ev_go0 (ev_w_iadd (M := ev_Mlaw) (pc := 1270) (v := (3)) (by decide +kernel) (by decide +kernel)) ?_
  refine ev_go0 (ev_w_scr (M := ev_Mlaw) (pc := 1271) (v := x3) (j := 3) (by decide +kernel) (by decide +kernel) (by decide +kernel) e3) ?_
  refine ev_go0 (ev_p_virt (M := ev_Mlaw) (pc := 1272) (x := 187) (mi := 335) (na := 3) (by decide +kernel) (by decide +kernel) (by decide +kernel) (by decide +kernel) rfl rfl (ev_recv_of ev_fH621) (ev_k333 x1 hu_x1 x3)) ?_
  refine ev_go0 (ev_w_istore (M := ev_Mlaw) (pc := 1275) (k := 6) (lv' := [(6, .int (0)), (5, .int (1)), (4, .int (0)), (3, .ref 723), (2, .ref 621), (1, .ref 0), (0, .retAddr 0)]) (by decide +kernel) (by decide +kernel) rfl) ?_
  refine ev_go0 (ev_one_pure (M := ev_Mlaw) (pc := 1277) (i := .aload_n 2) (len := 1) (pc' := 1278) (lv' := [(6, .int (0)), (5, .int (1)), (4, .int (0)), (3, .ref 723), (2, .ref 621), (1, .ref 0), (0, .retAddr 0)]) (st' := [.ref 621]) (by decide +kernel) rfl) ?_
  refine ev_go0 (ev_p_virt (M := ev_Mlaw) (pc := 1278) (x := 131) (mi := 220) (na := 0) (by decide +kernel) (by decide +kernel) (by decide +kernel) (by decide +kernel) rfl rfl (ev_recv_of (ev_hself ev_fH621)) ev_k26) ?_
  refine ev_go0 (ev_one_pure (M := ev_Mlaw) (pc := 1281) (i := .iload 5) (len := 2) (pc' := 1283) (lv' := [(6, .int (0)), (5, .int (1)), (4, .int (0)), (3, .ref 723), (2, .ref 621), (1, .ref 0), (0, .retAddr 0)]) (st' := [.int (1), .int (1)]) (by decide +kernel) rfl) ?_
  refine ev_go0 (ev_w_icmp (M := ev_Mlaw) (pc := 1283) (q := .eq) (o := 5) (b := true) (t := 1288) (by decide +kernel) (by decide +kernel) rfl) ?_
  refine ev_go0 (ev_one_pure (M := ev_Mlaw) (pc := 1288) (i := .iload 5) (len := 2) (pc' := 1290) (lv' := [(6, .int (0)), (5, .int (1)), (4, .int (0)), (3, .ref 723), (2, .ref 621), (1, .ref 0), (0, .retAddr 0)]) (st' := [.int (1)]) (by decide +kernel) rfl) ?_
  refine ev_go0 (ev_w_if (M := ev_Mlaw) (pc := 1290) (q := .ne) (o := 15) (b := true) (t := 1305) (by decide +kernel) (by decide +kernel) rfl) ?_
  refine ev_go0 (ev_one_pure (M := ev_Mlaw) (pc := 1305) (i := .goto 967) (len := 3) (pc' := 2272) (lv' := [(6, .int (0)), (5, .int (1)), (4, .int (0)), (3, .ref 723), (2, .ref 621), (1, .ref 0), (0, .retAddr 0)]) (st' := []) (by decide +kernel) rfl) ?_
  rfl
theorem ev_k334 (x1 : Int32) (hu_x1 : x1.toInt ≤ (-1 : Int)) (x3 : Int32) {n : Nat} : ev_calld 11 182 [.ref 0, .int x1, .int (2), .int x3] ev_H0 n = some (.inr "java/lang/IndexOutOfBoundsException", ev_H0, n, 1, 6) := by
  refine ev_call_thrown (k := 11) (pcR := 31) (x := 160) (lv' := [(5, .ref 267), (4, .null), (0, .ref 0), (1, .int x1), (2, .int (2)), (3, .int x3)]) (by decide +kernel) rfl ?_ (by decide +kernel) (by decide +kernel) (by decide +kernel) (by decide) (by decide)
  show ev_stepn _ 11 (0, [(0, .ref 0), (1, .int x1), (2, .int (2)), (3, .int x3)], [], _, _, 0, 0) = _
  refine ev_go0 (ev_one_pure (M := (ev_Mof 182)) (pc := 0) (i := .aload_n 0) (len := 1) (pc' := 1) (lv' := [(0, .ref 0), (1, .int x1), (2, .int (2)), (3, .int x3)]) (st' := [.ref 0]) (by decide +kernel) rfl) ?_
  refine ev_go0 (ev_one_pure (M := (ev_Mof 182)) (pc := 1) (i := .iload_n 1) (len := 1) (pc' := 2) (lv' := [(0, .ref 0), (1, .int x1), (2, .int (2)), (3, .int x3)]) (st' := [.int x1, .ref 0]) (by decide +kernel) rfl) ?_
  refine ev_go0 (ev_p_virt (M := (ev_Mof 182)) (pc := 2) (x := 156) (mi := 200) (na := 1) (by decide +kernel) (by decide +kernel) (by decide +kernel) (by decide +kernel) rfl rfl (ev_recv_of ev_fH0) (ev_k1 x1 hu_x1)) ?_
  refine ev_go0 (ev_w_astore (M := (ev_Mof 182)) (pc := 5) (k := 4) (lv' := [(4, .null), (0, .ref 0), (1, .int x1), (2, .int (2)), (3, .int x3)]) (by decide +kernel) (by decide +kernel) (Or.inr (Or.inl rfl)) rfl) ?_
  refine ev_go0 (ev_one_pure (M := (ev_Mof 182)) (pc := 7) (i := .aload_n 0) (len := 1) (pc' := 8) (lv' := [(4, .null), (0, .ref 0), (1, .int x1), (2, .int (2)), (3, .int x3)]) (st' := [.ref 0]) (by decide +kernel) rfl) ?_
  refine ev_go0 (ev_p_getf (M := (ev_Mof 182)) (pc := 8) (x := 48) (ci := 12) (f := 8) (fin := 1) (v := .ref 254) (by decide +kernel) (by decide +kernel) ev_fH0 rfl) ?_
  refine ev_go0 (ev_one_pure (M := (ev_Mof 182)) (pc := 11) (i := .iload_n 2) (len := 1) (pc' := 12) (lv' := [(4, .null), (0, .ref 0), (1, .int x1), (2, .int (2)), (3, .int x3)]) (st' := [.int (2), .ref 254]) (by decide +kernel) rfl) ?_
  refine ev_go0 (ev_p_virt (M := (ev_Mof 182)) (pc := 12) (x := 221) (mi := 1) (na := 1) (by decide +kernel) (by decide +kernel) (by decide +kernel) (by decide +kernel) rfl rfl (ev_recv_of ev_fH254) ev_k242) ?_
  refine ev_go0 (ev_w_astore (M := (ev_Mof 182)) (pc := 15) (k := 5) (lv' := [(5, .ref 267), (4, .null), (0, .ref 0), (1, .int x1), (2, .int (2)), (3, .int x3)]) (by decide +kernel) (by decide +kernel) (Or.inl ⟨_, rfl⟩) rfl) ?_
  refine ev_go0 (ev_one_pure (M := (ev_Mof 182)) (pc := 17) (i := .aload 4) (len := 2) (pc' := 19) (lv' := [(5, .ref 267), (4, .null), (0, .ref 0), (1, .int x1), (2, .int (2)), (3, .int x3)]) (st' := [.null]) (by decide +kernel) rfl) ?_
  refine ev_go0 (ev_w_ifnull (M := (ev_Mof 182)) (pc := 19) (o := 12) (t := 31) (by decide +kernel) (Or.inl ⟨rfl, rfl⟩)) ?_
  rfl
theorem ev_k335 (x1 : Int32) (hu_x1 : x1.toInt ≤ (-1 : Int)) (x3 : Int32) {n : Nat} : ev_calld 12 379 [.ref 0, .int x1, .int (2), .int x3, .ref 723] ev_H0 n = some (.inl (some (.int (1))), ev_H0, n, 1, 6) := by
  refine ev_call_int (k := 9) (pcR := 18) (lv' := [(5, .retAddr 1), (0, .ref 0), (1, .int x1), (2, .int (2)), (3, .int x3), (4, .ref 723)]) (v := (1)) (ty := .int) (by decide +kernel) rfl ?_ (by decide +kernel) (by decide +kernel) (by decide +kernel) (by decide)
  show ev_stepn _ 9 (0, [(0, .ref 0), (1, .int x1), (2, .int (2)), (3, .int x3), (4, .ref 723)], [], _, _, 0, 0) = _
  refine ev_go0 (ev_one_pure (M := (ev_Mof 379)) (pc := 0) (i := .aload 4) (len := 2) (pc' := 2) (lv' := [(0, .ref 0), (1, .int x1), (2, .int (2)), (3, .int x3), (4, .ref 723)]) (st' := [.ref 723]) (by decide +kernel) rfl) ?_
  refine ev_go0 (ev_w_iconst (M := (ev_Mof 379)) (pc := 2) (k := 0) (v := 0) (by decide +kernel) (by decide +kernel)) ?_
  refine ev_go0 (ev_one_pure (M := (ev_Mof 379)) (pc := 3) (i := .aload_n 0) (len := 1) (pc' := 4) (lv' := [(0, .ref 0), (1, .int x1), (2, .int (2)), (3, .int x3), (4, .ref 723)]) (st' := [.ref 0, .int (0), .ref 723]) (by decide +kernel) rfl) ?_
  refine ev_go0 (ev_one_pure (M := (ev_Mof 379)) (pc := 4) (i := .iload_n 1) (len := 1) (pc' := 5) (lv' := [(0, .ref 0), (1, .int x1), (2, .int (2)), (3, .int x3), (4, .ref 723)]) (st' := [.int x1, .ref 0, .int (0), .ref 723]) (by decide +kernel) rfl) ?_
  refine ev_go0 (ev_one_pure (M := (ev_Mof 379)) (pc := 5) (i := .iload_n 2) (len := 1) (pc' := 6) (lv' := [(0, .ref 0), (1, .int x1), (2, .int (2)), (3, .int x3), (4, .ref 723)]) (st' := [.int (2), .int x1, .ref 0, .int (0), .ref 723]) (by decide +kernel) rfl) ?_
  refine ev_go0 (ev_one_pure (M := (ev_Mof 379)) (pc := 6) (i := .iload_n 3) (len := 1) (pc' := 7) (lv' := [(0, .ref 0), (1, .int x1), (2, .int (2)), (3, .int x3), (4, .ref 723)]) (st' := [.int x3, .int (2), .int x1, .ref 0, .int (0), .ref 723]) (by decide +kernel) rfl) ?_
  refine ev_go (ev_p_virtX (M := (ev_Mof 379)) (pc := 7) (x := 67) (t := 15) (mi := 182) (na := 3) (by decide +kernel) (by decide +kernel) (by decide +kernel) (by decide +kernel) rfl rfl (ev_recv_of ev_fH0) (ev_k334 x1 hu_x1 x3) (by decide +kernel)) ?_
  refine ev_go0 (ev_w_astore (M := (ev_Mof 379)) (pc := 15) (k := 5) (lv' := [(5, .retAddr 1), (0, .ref 0), (1, .int x1), (2, .int (2)), (3, .int x3), (4, .ref 723)]) (by decide +kernel) (by decide +kernel) (Or.inr (Or.inr ⟨_, rfl⟩)) rfl) ?_
  refine ev_go0 (ev_w_iconst (M := (ev_Mof 379)) (pc := 17) (k := 1) (v := 1) (by decide +kernel) (by decide +kernel)) ?_
  rfl
theorem ev_k336 (x1 : Int32) (hu_x1 : x1.toInt ≤ (-1 : Int)) (x3 : Int32) {n : Nat} : ev_calld 12 335 [.ref 621, .int x1, .int (2), .int x3] ev_H0 n = some (.inl (some (.int (0))), (ev_H0.set 621 (.inr (13, (ev_F621.set 0 (.int (1)))))), n, 0, 0) := by
  refine ev_call_int (k := 11) (pcR := 37) (lv' := [(0, .ref 621), (1, .int x1), (2, .int (2)), (3, .int x3)]) (v := (0)) (ty := .int) (by decide +kernel) rfl ?_ (by decide +kernel) (by decide +kernel) (by decide +kernel) (by decide)
  show ev_stepn _ 11 (0, [(0, .ref 621), (1, .int x1), (2, .int (2)), (3, .int x3)], [], _, _, 0, 0) = _
  refine ev_go0 (ev_one_pure (M := (ev_Mof 335)) (pc := 0) (i := .aload_n 0) (len := 1) (pc' := 1) (lv' := [(0, .ref 621), (1, .int x1), (2, .int (2)), (3, .int x3)]) (st' := [.ref 621]) (by decide +kernel) rfl) ?_
  refine ev_go0 (ev_one_pure (M := (ev_Mof 335)) (pc := 1) (i := .aload_n 0) (len := 1) (pc' := 2) (lv' := [(0, .ref 621), (1, .int x1), (2, .int (2)), (3, .int x3)]) (st' := [.ref 621, .ref 621]) (by decide +kernel) rfl) ?_
  refine ev_go0 (ev_one_pure (M := (ev_Mof 335)) (pc := 2) (i := .iload_n 1) (len := 1) (pc' := 3) (lv' := [(0, .ref 621), (1, .int x1), (2, .int (2)), (3, .int x3)]) (st' := [.int x1, .ref 621, .ref 621]) (by decide +kernel) rfl) ?_
  refine ev_go0 (ev_p_virt (M := (ev_Mof 335)) (pc := 3) (x := 531) (mi := 273) (na := 1) (by decide +kernel) (by decide +kernel) (by decide +kernel) (by decide +kernel) rfl rfl (ev_recv_of ev_fH621) (ev_k24 x1 hu_x1)) ?_
  refine ev_go0 (ev_w_if (M := (ev_Mof 335)) (pc := 6) (q := .eq) (o := 19) (b := true) (t := 25) (by decide +kernel) (by decide +kernel) rfl) ?_
  refine ev_go0 (ev_w_iconst (M := (ev_Mof 335)) (pc := 25) (k := 1) (v := 1) (by decide +kernel) (by decide +kernel)) ?_
  refine ev_go0 (ev_p_putf (M := (ev_Mof 335)) (pc := 26) (x := 321) (ci := 13) (f := 0) (by decide +kernel) (by decide +kernel) ev_fH621 rfl (by decide +kernel)) ?_
  refine ev_go0 (ev_one_pure (M := (ev_Mof 335)) (pc := 29) (i := .aload_n 0) (len := 1) (pc' := 30) (lv' := [(0, .ref 621), (1, .int x1), (2, .int (2)), (3, .int x3)]) (st' := [.ref 621]) (by decide +kernel) rfl) ?_
  refine ev_go0 (ev_p_getf (M := (ev_Mof 335)) (pc := 30) (x := 321) (ci := 13) (f := 0) (fin := 0) (v := .int (1)) (by decide +kernel) (by decide +kernel) (ev_hself ev_fH621) rfl) ?_
  refine ev_go0 (ev_w_if (M := (ev_Mof 335)) (pc := 33) (q := .le) (o := 5) (b := false) (t := 36) (by decide +kernel) (by decide +kernel) rfl) ?_
  refine ev_go0 (ev_w_iconst (M := (ev_Mof 335)) (pc := 36) (k := 0) (v := 0) (by decide +kernel) (by decide +kernel)) ?_
  rfl
theorem ev_p1_16_n2 (xs : Nat → Int32) (x1 : Int32) (hu_x1 : x1.toInt ≤ (-1 : Int)) (x3 : Int32) (e1 : xs 1 = x1) (e2 : xs 2 = (2)) (e3 : xs 3 = x3) : ev_P1 xs 1228 := by
  refine ⟨44, [(6, .int (0)), (5, .int (1)), (4, .int (0)), (3, .ref 723), (2, .ref 621), (1, .ref 0), (0, .retAddr 0)], (ev_H0.set 621 (.inr (13, (ev_F621.set 0 (.int (1)))))), 724, 725, 3553592, ?_, ⟨rfl, rfl, rfl, rfl⟩, rfl, by decide, by decide⟩
  show ev_stepn _ _ (1228, [(4, .int (0)), (3, .ref 723), (2, .ref 621), (1, .ref 0), (0, .retAddr 0)], [], _, _, _, _) = _
  refine ev_go0 (ev_one_pure (M := ev_Mlaw) (pc := 1228) (i := .aload_n 1) (len := 1) (pc' := 1229) (lv' := [(4, .int (0)), (3, .ref 723), (2, .ref 621), (1, .ref 0), (0, .retAddr 0)]) (st' := [.ref 0]) (by decide +kernel) rfl) ?_
  refine ev_go0 (ev_one_pure (M := ev_Mlaw) (pc := 1229) (i := .aload_n 0) (len := 1) (pc' := 1230) (lv' := [(4, .int (0)), (3, .ref 723), (2, .ref 621), (1, .ref 0), (0, .retAddr 0)]) (st' := [.retAddr 0, .ref 0]) (by decide +kernel) rfl) ?_
  refine ev_go0 (ev_one_pure (M := ev_Mlaw) (pc := 1230) (i := .iload 4) (len := 2) (pc' := 1232) (lv' := [(4, .int (0)), (3, .ref 723), (2, .ref 621), (1, .ref 0), (0, .retAddr 0)]) (st' := [.int (0), .retAddr 0, .ref 0]) (by decide +kernel) rfl) ?_
  refine ev_go0 (ev_w_iconst (M := ev_Mlaw) (pc := 1232) (k := 1) (v := 1) (by decide +kernel) (by decide +kernel)) ?_
  refine ev_go0 (ev_w_iadd (M := ev_Mlaw) (pc := 1233) (v := (1)) (by decide +kernel) (by decide +kernel)) ?_
  refine ev_go0 (ev_w_scr (M := ev_Mlaw) (pc := 1234) (v := x1) (j := 1) (by decide +kernel) (by decide +kernel) (by decide +kernel) e1) ?_
  refine ev_go0 (ev_one_pure (M := ev_Mlaw) (pc := 1235) (i := .aload_n 0) (len := 1) (pc' := 1236) (lv' := [(4, .int (0)), (3, .ref 723), (2, .ref 621), (1, .ref 0), (0, .retAddr 0)]) (st' := [.retAddr 0, .int x1, .ref 0]) (by decide +kernel) rfl) ?_
  refine ev_go0 (ev_one_pure (M := ev_Mlaw) (pc := 1236) (i := .iload 4) (len := 2) (pc' := 1238) (lv' := [(4, .int (0)), (3, .ref 723), (2, .ref 621), (1, .ref 0), (0, .retAddr 0)]) (st' := [.int (0), .retAddr 0, .int x1, .ref 0]) (by decide +kernel) rfl) ?_
  refine ev_go0 (ev_w_iconst (M := ev_Mlaw) (pc := 1238) (k := 2) (v := 2) (by decide +kernel) (by decide +kernel)) ?_
  refine ev_go0 (ev_w_iadd (M := ev_Mlaw) (pc := 1239) (v := (2)) (by decide +kernel) (by decide +kernel)) ?_
  refine ev_go0 (ev_w_scr (M := ev_Mlaw) (pc := 1240) (v := (2)) (j := 2) (by decide +kernel) (by decide +kernel) (by decide +kernel) e2) ?_
  refine ev_go0 (ev_one_pure (M := ev_Mlaw) (pc := 1241) (i := .aload_n 0) (len := 1) (pc' := 1242) (lv' := [(4, .int (0)), (3, .ref 723), (2, .ref 621), (1, .ref 0), (0, .retAddr 0)]) (st' := [.retAddr 0, .int (2), .int x1, .ref 0]) (by decide +kernel) rfl) ?_
  refine ev_go0 (ev_one_pure (M := ev_Mlaw) (pc := 1242) (i := .iload 4) (len := 2) (pc' := 1244) (lv' := [(4, .int (0)), (3, .ref 723), (2, .ref 621), (1, .ref 0), (0, .retAddr 0)]) (st' := [.int (0), .retAddr 0, .int (2), .int x1, .ref 0]) (by decide +kernel) rfl) ?_
  refine ev_go0 (ev_w_iconst (M := ev_Mlaw) (pc := 1244) (k := 3) (v := 3) (by decide +kernel) (by decide +kernel)) ?_
  refine ev_go0 (ev_w_iadd (M := ev_Mlaw) (pc := 1245) (v := (3)) (by decide +kernel) (by decide +kernel)) ?_
  refine ev_go0 (ev_w_scr (M := ev_Mlaw) (pc := 1246) (v := x3) (j := 3) (by decide +kernel) (by decide +kernel) (by decide +kernel) e3) ?_
  refine ev_go0 (ev_one_pure (M := ev_Mlaw) (pc := 1247) (i := .aload_n 3) (len := 1) (pc' := 1248) (lv' := [(4, .int (0)), (3, .ref 723), (2, .ref 621), (1, .ref 0), (0, .retAddr 0)]) (st' := [.ref 723, .int x3, .int (2), .int x1, .ref 0]) (by decide +kernel) rfl) ?_
  refine ev_go (ev_w_stat (M := ev_Mlaw) (pc := 1248) (y := 185) (kind := 8) (Or.inr (Or.inr rfl)) (mi := 379) (na := 5) (by decide +kernel) (by decide +kernel) (by decide +kernel) (by decide +kernel) rfl rfl (ev_k335 x1 hu_x1 x3)) ?_
  refine ev_go0 (ev_w_istore (M := ev_Mlaw) (pc := 1251) (k := 5) (lv' := [(5, .int (1)), (4, .int (0)), (3, .ref 723), (2, .ref 621), (1, .ref 0), (0, .retAddr 0)]) (by decide +kernel) (by decide +kernel) rfl) ?_
  refine ev_go0 (ev_one_pure (M := ev_Mlaw) (pc := 1253) (i := .aload_n 2) (len := 1) (pc' := 1254) (lv' := [(5, .int (1)), (4, .int (0)), (3, .ref 723), (2, .ref 621), (1, .ref 0), (0, .retAddr 0)]) (st' := [.ref 621]) (by decide +kernel) rfl) ?_
  refine ev_go0 (ev_one_pure (M := ev_Mlaw) (pc := 1254) (i := .aload_n 0) (len := 1) (pc' := 1255) (lv' := [(5, .int (1)), (4, .int (0)), (3, .ref 723), (2, .ref 621), (1, .ref 0), (0, .retAddr 0)]) (st' := [.retAddr 0, .ref 621]) (by decide +kernel) rfl) ?_
  refine ev_go0 (ev_one_pure (M := ev_Mlaw) (pc := 1255) (i := .iload 4) (len := 2) (pc' := 1257) (lv' := [(5, .int (1)), (4, .int (0)), (3, .ref 723), (2, .ref 621), (1, .ref 0), (0, .retAddr 0)]) (st' := [.int (0), .retAddr 0, .ref 621]) (by decide +kernel) rfl) ?_
  refine ev_go0 (ev_w_iconst (M := ev_Mlaw) (pc := 1257) (k := 1) (v := 1) (by decide +kernel) (by decide +kernel)) ?_
  refine ev_go0 (ev_w_iadd (M := ev_Mlaw) (pc := 1258) (v := (1)) (by decide +kernel) (by decide +kernel)) ?_
  refine ev_go0 (ev_w_scr (M := ev_Mlaw) (pc := 1259) (v := x1) (j := 1) (by decide +kernel) (by decide +kernel) (by decide +kernel) e1) ?_
  refine ev_go0 (ev_one_pure (M := ev_Mlaw) (pc := 1260) (i := .aload_n 0) (len := 1) (pc' := 1261) (lv' := [(5, .int (1)), (4, .int (0)), (3, .ref 723), (2, .ref 621), (1, .ref 0), (0, .retAddr 0)]) (st' := [.retAddr 0, .int x1, .ref 621]) (by decide +kernel) rfl) ?_
  refine ev_go0 (ev_one_pure (M := ev_Mlaw) (pc := 1261) (i := .iload 4) (len := 2) (pc' := 1263) (lv' := [(5, .int (1)), (4, .int (0)), (3, .ref 723), (2, .ref 621), (1, .ref 0), (0, .retAddr 0)]) (st' := [.int (0), .retAddr 0, .int x1, .ref 621]) (by decide +kernel) rfl) ?_
  refine ev_go0 (ev_w_iconst (M := ev_Mlaw) (pc := 1263) (k := 2) (v := 2) (by decide +kernel) (by decide +kernel)) ?_
  refine ev_go0 (ev_w_iadd (M := ev_Mlaw) (pc := 1264) (v := (2)) (by decide +kernel) (by decide +kernel)) ?_
  refine ev_go0 (ev_w_scr (M := ev_Mlaw) (pc := 1265) (v := (2)) (j := 2) (by decide +kernel) (by decide +kernel) (by decide +kernel) e2) ?_
  refine ev_go0 (ev_one_pure (M := ev_Mlaw) (pc := 1266) (i := .aload_n 0) (len := 1) (pc' := 1267) (lv' := [(5, .int (1)), (4, .int (0)), (3, .ref 723), (2, .ref 621), (1, .ref 0), (0, .retAddr 0)]) (st' := [.retAddr 0, .int (2), .int x1, .ref 621]) (by decide +kernel) rfl) ?_
  refine ev_go0 (ev_one_pure (M := ev_Mlaw) (pc := 1267) (i := .iload 4) (len := 2) (pc' := 1269) (lv' := [(5, .int (1)), (4, .int (0)), (3, .ref 723), (2, .ref 621), (1, .ref 0), (0, .retAddr 0)]) (st' := [.int (0), .retAddr 0, .int (2), .int x1, .ref 621]) (by decide +kernel) rfl) ?_
  refine ev_go0 (ev_w_iconst (M := ev_Mlaw) (pc := 1269) (k := 3) (v := 3) (by decide +kernel) (by decide +kernel)) ?_
  refine ev_go0 (ev_w_iadd (M := ev_Mlaw) (pc := 1270) (v := (3)) (by decide +kernel) (by decide +kernel)) ?_
  refine ev_go0 (ev_w_scr (M := ev_Mlaw) (pc := 1271) (v := x3) (j := 3) (by decide +kernel) (by decide +kernel) (by decide +kernel) e3) ?_
  refine ev_go0 (ev_p_virt (M := ev_Mlaw) (pc := 1272) (x := 187) (mi := 335) (na := 3) (by decide +kernel) (by decide +kernel) (by decide +kernel) (by decide +kernel) rfl rfl (ev_recv_of ev_fH621) (ev_k336 x1 hu_x1 x3)) ?_
  refine ev_go0 (ev_w_istore (M := ev_Mlaw) (pc := 1275) (k := 6) (lv' := [(6, .int (0)), (5, .int (1)), (4, .int (0)), (3, .ref 723), (2, .ref 621), (1, .ref 0), (0, .retAddr 0)]) (by decide +kernel) (by decide +kernel) rfl) ?_
  refine ev_go0 (ev_one_pure (M := ev_Mlaw) (pc := 1277) (i := .aload_n 2) (len := 1) (pc' := 1278) (lv' := [(6, .int (0)), (5, .int (1)), (4, .int (0)), (3, .ref 723), (2, .ref 621), (1, .ref 0), (0, .retAddr 0)]) (st' := [.ref 621]) (by decide +kernel) rfl) ?_
  refine ev_go0 (ev_p_virt (M := ev_Mlaw) (pc := 1278) (x := 131) (mi := 220) (na := 0) (by decide +kernel) (by decide +kernel) (by decide +kernel) (by decide +kernel) rfl rfl (ev_recv_of (ev_hself ev_fH621)) ev_k26) ?_
  refine ev_go0 (ev_one_pure (M := ev_Mlaw) (pc := 1281) (i := .iload 5) (len := 2) (pc' := 1283) (lv' := [(6, .int (0)), (5, .int (1)), (4, .int (0)), (3, .ref 723), (2, .ref 621), (1, .ref 0), (0, .retAddr 0)]) (st' := [.int (1), .int (1)]) (by decide +kernel) rfl) ?_
  refine ev_go0 (ev_w_icmp (M := ev_Mlaw) (pc := 1283) (q := .eq) (o := 5) (b := true) (t := 1288) (by decide +kernel) (by decide +kernel) rfl) ?_
  refine ev_go0 (ev_one_pure (M := ev_Mlaw) (pc := 1288) (i := .iload 5) (len := 2) (pc' := 1290) (lv' := [(6, .int (0)), (5, .int (1)), (4, .int (0)), (3, .ref 723), (2, .ref 621), (1, .ref 0), (0, .retAddr 0)]) (st' := [.int (1)]) (by decide +kernel) rfl) ?_
  refine ev_go0 (ev_w_if (M := ev_Mlaw) (pc := 1290) (q := .ne) (o := 15) (b := true) (t := 1305) (by decide +kernel) (by decide +kernel) rfl) ?_
  refine ev_go0 (ev_one_pure (M := ev_Mlaw) (pc := 1305) (i := .goto 967) (len := 3) (pc' := 2272) (lv' := [(6, .int (0)), (5, .int (1)), (4, .int (0)), (3, .ref 723), (2, .ref 621), (1, .ref 0), (0, .retAddr 0)]) (st' := []) (by decide +kernel) rfl) ?_
  rfl
theorem ev_k337 (x1 : Int32) (hu_x1 : x1.toInt ≤ (-1 : Int)) (x2 : Int32) (hl_x2 : (3 : Int) ≤ x2.toInt) (x3 : Int32) {n : Nat} : ev_calld 11 182 [.ref 0, .int x1, .int x2, .int x3] ev_H0 n = some (.inr "java/lang/IndexOutOfBoundsException", ev_H0, n, 1, 6) := by
  refine ev_call_thrown (k := 11) (pcR := 31) (x := 160) (lv' := [(5, .null), (4, .null), (0, .ref 0), (1, .int x1), (2, .int x2), (3, .int x3)]) (by decide +kernel) rfl ?_ (by decide +kernel) (by decide +kernel) (by decide +kernel) (by decide) (by decide)
  show ev_stepn _ 11 (0, [(0, .ref 0), (1, .int x1), (2, .int x2), (3, .int x3)], [], _, _, 0, 0) = _
  refine ev_go0 (ev_one_pure (M := (ev_Mof 182)) (pc := 0) (i := .aload_n 0) (len := 1) (pc' := 1) (lv' := [(0, .ref 0), (1, .int x1), (2, .int x2), (3, .int x3)]) (st' := [.ref 0]) (by decide +kernel) rfl) ?_
  refine ev_go0 (ev_one_pure (M := (ev_Mof 182)) (pc := 1) (i := .iload_n 1) (len := 1) (pc' := 2) (lv' := [(0, .ref 0), (1, .int x1), (2, .int x2), (3, .int x3)]) (st' := [.int x1, .ref 0]) (by decide +kernel) rfl) ?_
  refine ev_go0 (ev_p_virt (M := (ev_Mof 182)) (pc := 2) (x := 156) (mi := 200) (na := 1) (by decide +kernel) (by decide +kernel) (by decide +kernel) (by decide +kernel) rfl rfl (ev_recv_of ev_fH0) (ev_k1 x1 hu_x1)) ?_
  refine ev_go0 (ev_w_astore (M := (ev_Mof 182)) (pc := 5) (k := 4) (lv' := [(4, .null), (0, .ref 0), (1, .int x1), (2, .int x2), (3, .int x3)]) (by decide +kernel) (by decide +kernel) (Or.inr (Or.inl rfl)) rfl) ?_
  refine ev_go0 (ev_one_pure (M := (ev_Mof 182)) (pc := 7) (i := .aload_n 0) (len := 1) (pc' := 8) (lv' := [(4, .null), (0, .ref 0), (1, .int x1), (2, .int x2), (3, .int x3)]) (st' := [.ref 0]) (by decide +kernel) rfl) ?_
  refine ev_go0 (ev_p_getf (M := (ev_Mof 182)) (pc := 8) (x := 48) (ci := 12) (f := 8) (fin := 1) (v := .ref 254) (by decide +kernel) (by decide +kernel) ev_fH0 rfl) ?_
  refine ev_go0 (ev_one_pure (M := (ev_Mof 182)) (pc := 11) (i := .iload_n 2) (len := 1) (pc' := 12) (lv' := [(4, .null), (0, .ref 0), (1, .int x1), (2, .int x2), (3, .int x3)]) (st' := [.int x2, .ref 254]) (by decide +kernel) rfl) ?_
  refine ev_go0 (ev_p_virt (M := (ev_Mof 182)) (pc := 12) (x := 221) (mi := 1) (na := 1) (by decide +kernel) (by decide +kernel) (by decide +kernel) (by decide +kernel) rfl rfl (ev_recv_of ev_fH254) (ev_k246 x2 hl_x2)) ?_
  refine ev_go0 (ev_w_astore (M := (ev_Mof 182)) (pc := 15) (k := 5) (lv' := [(5, .null), (4, .null), (0, .ref 0), (1, .int x1), (2, .int x2), (3, .int x3)]) (by decide +kernel) (by decide +kernel) (Or.inr (Or.inl rfl)) rfl) ?_
  refine ev_go0 (ev_one_pure (M := (ev_Mof 182)) (pc := 17) (i := .aload 4) (len := 2) (pc' := 19) (lv' := [(5, .null), (4, .null), (0, .ref 0), (1, .int x1), (2, .int x2), (3, .int x3)]) (st' := [.null]) (by decide +kernel) rfl) ?_
  refine ev_go0 (ev_w_ifnull (M := (ev_Mof 182)) (pc := 19) (o := 12) (t := 31) (by decide +kernel) (Or.inl ⟨rfl, rfl⟩)) ?_
  rfl
theorem ev_k338 (x1 : Int32) (hu_x1 : x1.toInt ≤ (-1 : Int)) (x2 : Int32) (hl_x2 : (3 : Int) ≤ x2.toInt) (x3 : Int32) {n : Nat} : ev_calld 12 379 [.ref 0, .int x1, .int x2, .int x3, .ref 723] ev_H0 n = some (.inl (some (.int (1))), ev_H0, n, 1, 6) := by
  refine ev_call_int (k := 9) (pcR := 18) (lv' := [(5, .retAddr 1), (0, .ref 0), (1, .int x1), (2, .int x2), (3, .int x3), (4, .ref 723)]) (v := (1)) (ty := .int) (by decide +kernel) rfl ?_ (by decide +kernel) (by decide +kernel) (by decide +kernel) (by decide)
  show ev_stepn _ 9 (0, [(0, .ref 0), (1, .int x1), (2, .int x2), (3, .int x3), (4, .ref 723)], [], _, _, 0, 0) = _
  refine ev_go0 (ev_one_pure (M := (ev_Mof 379)) (pc := 0) (i := .aload 4) (len := 2) (pc' := 2) (lv' := [(0, .ref 0), (1, .int x1), (2, .int x2), (3, .int x3), (4, .ref 723)]) (st' := [.ref 723]) (by decide +kernel) rfl) ?_
  refine ev_go0 (ev_w_iconst (M := (ev_Mof 379)) (pc := 2) (k := 0) (v := 0) (by decide +kernel) (by decide +kernel)) ?_
  refine ev_go0 (ev_one_pure (M := (ev_Mof 379)) (pc := 3) (i := .aload_n 0) (len := 1) (pc' := 4) (lv' := [(0, .ref 0), (1, .int x1), (2, .int x2), (3, .int x3), (4, .ref 723)]) (st' := [.ref 0, .int (0), .ref 723]) (by decide +kernel) rfl) ?_
  refine ev_go0 (ev_one_pure (M := (ev_Mof 379)) (pc := 4) (i := .iload_n 1) (len := 1) (pc' := 5) (lv' := [(0, .ref 0), (1, .int x1), (2, .int x2), (3, .int x3), (4, .ref 723)]) (st' := [.int x1, .ref 0, .int (0), .ref 723]) (by decide +kernel) rfl) ?_
  refine ev_go0 (ev_one_pure (M := (ev_Mof 379)) (pc := 5) (i := .iload_n 2) (len := 1) (pc' := 6) (lv' := [(0, .ref 0), (1, .int x1), (2, .int x2), (3, .int x3), (4, .ref 723)]) (st' := [.int x2, .int x1, .ref 0, .int (0), .ref 723]) (by decide +kernel) rfl) ?_
  refine ev_go0 (ev_one_pure (M := (ev_Mof 379)) (pc := 6) (i := .iload_n 3) (len := 1) (pc' := 7) (lv' := [(0, .ref 0), (1, .int x1), (2, .int x2), (3, .int x3), (4, .ref 723)]) (st' := [.int x3, .int x2, .int x1, .ref 0, .int (0), .ref 723]) (by decide +kernel) rfl) ?_
  refine ev_go (ev_p_virtX (M := (ev_Mof 379)) (pc := 7) (x := 67) (t := 15) (mi := 182) (na := 3) (by decide +kernel) (by decide +kernel) (by decide +kernel) (by decide +kernel) rfl rfl (ev_recv_of ev_fH0) (ev_k337 x1 hu_x1 x2 hl_x2 x3) (by decide +kernel)) ?_
  refine ev_go0 (ev_w_astore (M := (ev_Mof 379)) (pc := 15) (k := 5) (lv' := [(5, .retAddr 1), (0, .ref 0), (1, .int x1), (2, .int x2), (3, .int x3), (4, .ref 723)]) (by decide +kernel) (by decide +kernel) (Or.inr (Or.inr ⟨_, rfl⟩)) rfl) ?_
  refine ev_go0 (ev_w_iconst (M := (ev_Mof 379)) (pc := 17) (k := 1) (v := 1) (by decide +kernel) (by decide +kernel)) ?_
  rfl
theorem ev_k339 (x1 : Int32) (hu_x1 : x1.toInt ≤ (-1 : Int)) (x2 : Int32) (hl_x2 : (3 : Int) ≤ x2.toInt) (x3 : Int32) {n : Nat} : ev_calld 12 335 [.ref 621, .int x1, .int x2, .int x3] ev_H0 n = some (.inl (some (.int (0))), (ev_H0.set 621 (.inr (13, (ev_F621.set 0 (.int (1)))))), n, 0, 0) := by
  refine ev_call_int (k := 11) (pcR := 37) (lv' := [(0, .ref 621), (1, .int x1), (2, .int x2), (3, .int x3)]) (v := (0)) (ty := .int) (by decide +kernel) rfl ?_ (by decide +kernel) (by decide +kernel) (by decide +kernel) (by decide)
  show ev_stepn _ 11 (0, [(0, .ref 621), (1, .int x1), (2, .int x2), (3, .int x3)], [], _, _, 0, 0) = _
  refine ev_go0 (ev_one_pure (M := (ev_Mof 335)) (pc := 0) (i := .aload_n 0) (len := 1) (pc' := 1) (lv' := [(0, .ref 621), (1, .int x1), (2, .int x2), (3, .int x3)]) (st' := [.ref 621]) (by decide +kernel) rfl) ?_
  refine ev_go0 (ev_one_pure (M := (ev_Mof 335)) (pc := 1) (i := .aload_n 0) (len := 1) (pc' := 2) (lv' := [(0, .ref 621), (1, .int x1), (2, .int x2), (3, .int x3)]) (st' := [.ref 621, .ref 621]) (by decide +kernel) rfl) ?_
  refine ev_go0 (ev_one_pure (M := (ev_Mof 335)) (pc := 2) (i := .iload_n 1) (len := 1) (pc' := 3) (lv' := [(0, .ref 621), (1, .int x1), (2, .int x2), (3, .int x3)]) (st' := [.int x1, .ref 621, .ref 621]) (by decide +kernel) rfl) ?_
  refine ev_go0 (ev_p_virt (M := (ev_Mof 335)) (pc := 3) (x := 531) (mi := 273) (na := 1) (by decide +kernel) (by decide +kernel) (by decide +kernel) (by decide +kernel) rfl rfl (ev_recv_of ev_fH621) (ev_k24 x1 hu_x1)) ?_
  refine ev_go0 (ev_w_if (M := (ev_Mof 335)) (pc := 6) (q := .eq) (o := 19) (b := true) (t := 25) (by decide +kernel) (by decide +kernel) rfl) ?_
  refine ev_go0 (ev_w_iconst (M := (ev_Mof 335)) (pc := 25) (k := 1) (v := 1) (by decide +kernel) (by decide +kernel)) ?_
  refine ev_go0 (ev_p_putf (M := (ev_Mof 335)) (pc := 26) (x := 321) (ci := 13) (f := 0) (by decide +kernel) (by decide +kernel) ev_fH621 rfl (by decide +kernel)) ?_
  refine ev_go0 (ev_one_pure (M := (ev_Mof 335)) (pc := 29) (i := .aload_n 0) (len := 1) (pc' := 30) (lv' := [(0, .ref 621), (1, .int x1), (2, .int x2), (3, .int x3)]) (st' := [.ref 621]) (by decide +kernel) rfl) ?_
  refine ev_go0 (ev_p_getf (M := (ev_Mof 335)) (pc := 30) (x := 321) (ci := 13) (f := 0) (fin := 0) (v := .int (1)) (by decide +kernel) (by decide +kernel) (ev_hself ev_fH621) rfl) ?_
  refine ev_go0 (ev_w_if (M := (ev_Mof 335)) (pc := 33) (q := .le) (o := 5) (b := false) (t := 36) (by decide +kernel) (by decide +kernel) rfl) ?_
  refine ev_go0 (ev_w_iconst (M := (ev_Mof 335)) (pc := 36) (k := 0) (v := 0) (by decide +kernel) (by decide +kernel)) ?_
  rfl
theorem ev_p1_16_ng (xs : Nat → Int32) (x1 : Int32) (hu_x1 : x1.toInt ≤ (-1 : Int)) (x2 : Int32) (hl_x2 : (3 : Int) ≤ x2.toInt) (x3 : Int32) (e1 : xs 1 = x1) (e2 : xs 2 = x2) (e3 : xs 3 = x3) : ev_P1 xs 1228 := by
  refine ⟨44, [(6, .int (0)), (5, .int (1)), (4, .int (0)), (3, .ref 723), (2, .ref 621), (1, .ref 0), (0, .retAddr 0)], (ev_H0.set 621 (.inr (13, (ev_F621.set 0 (.int (1)))))), 724, 725, 3553592, ?_, ⟨rfl, rfl, rfl, rfl⟩, rfl, by decide, by decide⟩
  show ev_stepn _ _ (1228, [(4, .int (0)), (3, .ref 723), (2, .ref 621), (1, .ref 0), (0, .retAddr 0)], [], _, _, _, _) = _
  refine ev_go0 (ev_one_pure (M := ev_Mlaw) (pc := 1228) (i := .aload_n 1) (len := 1) (pc' := 1229) (lv' := [(4, .int (0)), (3, .ref 723), (2, .ref 621), (1, .ref 0), (0, .retAddr 0)]) (st' := [.ref 0]) (by decide +kernel) rfl) ?_
  refine ev_go0 (ev_one_pure (M := ev_Mlaw) (pc := 1229) (i := .aload_n 0) (len := 1) (pc' := 1230) (lv' := [(4, .int (0)), (3, .ref 723), (2, .ref 621), (1, .ref 0), (0, .retAddr 0)]) (st' := [.retAddr 0, .ref 0]) (by decide +kernel) rfl) ?_
  refine ev_go0 (ev_one_pure (M := ev_Mlaw) (pc := 1230) (i := .iload 4) (len := 2) (pc' := 1232) (lv' := [(4, .int (0)), (3, .ref 723), (2, .ref 621), (1, .ref 0), (0, .retAddr 0)]) (st' := [.int (0), .retAddr 0, .ref 0]) (by decide +kernel) rfl) ?_
  refine ev_go0 (ev_w_iconst (M := ev_Mlaw) (pc := 1232) (k := 1) (v := 1) (by decide +kernel) (by decide +kernel)) ?_
  refine ev_go0 (ev_w_iadd (M := ev_Mlaw) (pc := 1233) (v := (1)) (by decide +kernel) (by decide +kernel)) ?_
  refine ev_go0 (ev_w_scr (M := ev_Mlaw) (pc := 1234) (v := x1) (j := 1) (by decide +kernel) (by decide +kernel) (by decide +kernel) e1) ?_
  refine ev_go0 (ev_one_pure (M := ev_Mlaw) (pc := 1235) (i := .aload_n 0) (len := 1) (pc' := 1236) (lv' := [(4, .int (0)), (3, .ref 723), (2, .ref 621), (1, .ref 0), (0, .retAddr 0)]) (st' := [.retAddr 0, .int x1, .ref 0]) (by decide +kernel) rfl) ?_
  refine ev_go0 (ev_one_pure (M := ev_Mlaw) (pc := 1236) (i := .iload 4) (len := 2) (pc' := 1238) (lv' := [(4, .int (0)), (3, .ref 723), (2, .ref 621), (1, .ref 0), (0, .retAddr 0)]) (st' := [.int (0), .retAddr 0, .int x1, .ref 0]) (by decide +kernel) rfl) ?_
  refine ev_go0 (ev_w_iconst (M := ev_Mlaw) (pc := 1238) (k := 2) (v := 2) (by decide +kernel) (by decide +kernel)) ?_
  refine ev_go0 (ev_w_iadd (M := ev_Mlaw) (pc := 1239) (v := (2)) (by decide +kernel) (by decide +kernel)) ?_
  refine ev_go0 (ev_w_scr (M := ev_Mlaw) (pc := 1240) (v := x2) (j := 2) (by decide +kernel) (by decide +kernel) (by decide +kernel) e2) ?_
  refine ev_go0 (ev_one_pure (M := ev_Mlaw) (pc := 1241) (i := .aload_n 0) (len := 1) (pc' := 1242) (lv' := [(4, .int (0)), (3, .ref 723), (2, .ref 621), (1, .ref 0), (0, .retAddr 0)]) (st' := [.retAddr 0, .int x2, .int x1, .ref 0]) (by decide +kernel) rfl) ?_
  refine ev_go0 (ev_one_pure (M := ev_Mlaw) (pc := 1242) (i := .iload 4) (len := 2) (pc' := 1244) (lv' := [(4, .int (0)), (3, .ref 723), (2, .ref 621), (1, .ref 0), (0, .retAddr 0)]) (st' := [.int (0), .retAddr 0, .int x2, .int x1, .ref 0]) (by decide +kernel) rfl) ?_
  refine ev_go0 (ev_w_iconst (M := ev_Mlaw) (pc := 1244) (k := 3) (v := 3) (by decide +kernel) (by decide +kernel)) ?_
  refine ev_go0 (ev_w_iadd (M := ev_Mlaw) (pc := 1245) (v := (3)) (by decide +kernel) (by decide +kernel)) ?_
  refine ev_go0 (ev_w_scr (M := ev_Mlaw) (pc := 1246) (v := x3) (j := 3) (by decide +kernel) (by decide +kernel) (by decide +kernel) e3) ?_
  refine ev_go0 (ev_one_pure (M := ev_Mlaw) (pc := 1247) (i := .aload_n 3) (len := 1) (pc' := 1248) (lv' := [(4, .int (0)), (3, .ref 723), (2, .ref 621), (1, .ref 0), (0, .retAddr 0)]) (st' := [.ref 723, .int x3, .int x2, .int x1, .ref 0]) (by decide +kernel) rfl) ?_
  refine ev_go (ev_w_stat (M := ev_Mlaw) (pc := 1248) (y := 185) (kind := 8) (Or.inr (Or.inr rfl)) (mi := 379) (na := 5) (by decide +kernel) (by decide +kernel) (by decide +kernel) (by decide +kernel) rfl rfl (ev_k338 x1 hu_x1 x2 hl_x2 x3)) ?_
  refine ev_go0 (ev_w_istore (M := ev_Mlaw) (pc := 1251) (k := 5) (lv' := [(5, .int (1)), (4, .int (0)), (3, .ref 723), (2, .ref 621), (1, .ref 0), (0, .retAddr 0)]) (by decide +kernel) (by decide +kernel) rfl) ?_
  refine ev_go0 (ev_one_pure (M := ev_Mlaw) (pc := 1253) (i := .aload_n 2) (len := 1) (pc' := 1254) (lv' := [(5, .int (1)), (4, .int (0)), (3, .ref 723), (2, .ref 621), (1, .ref 0), (0, .retAddr 0)]) (st' := [.ref 621]) (by decide +kernel) rfl) ?_
  refine ev_go0 (ev_one_pure (M := ev_Mlaw) (pc := 1254) (i := .aload_n 0) (len := 1) (pc' := 1255) (lv' := [(5, .int (1)), (4, .int (0)), (3, .ref 723), (2, .ref 621), (1, .ref 0), (0, .retAddr 0)]) (st' := [.retAddr 0, .ref 621]) (by decide +kernel) rfl) ?_
  refine ev_go0 (ev_one_pure (M := ev_Mlaw) (pc := 1255) (i := .iload 4) (len := 2) (pc' := 1257) (lv' := [(5, .int (1)), (4, .int (0)), (3, .ref 723), (2, .ref 621), (1, .ref 0), (0, .retAddr 0)]) (st' := [.int (0), .retAddr 0, .ref 621]) (by decide +kernel) rfl) ?_
  refine ev_go0 (ev_w_iconst (M := ev_Mlaw) (pc := 1257) (k := 1) (v := 1) (by decide +kernel) (by decide +kernel)) ?_
  refine ev_go0 (ev_w_iadd (M := ev_Mlaw) (pc := 1258) (v := (1)) (by decide +kernel) (by decide +kernel)) ?_
  refine ev_go0 (ev_w_scr (M := ev_Mlaw) (pc := 1259) (v := x1) (j := 1) (by decide +kernel) (by decide +kernel) (by decide +kernel) e1) ?_
  refine ev_go0 (ev_one_pure (M := ev_Mlaw) (pc := 1260) (i := .aload_n 0) (len := 1) (pc' := 1261) (lv' := [(5, .int (1)), (4, .int (0)), (3, .ref 723), (2, .ref 621), (1, .ref 0), (0, .retAddr 0)]) (st' := [.retAddr 0, .int x1, .ref 621]) (by decide +kernel) rfl) ?_
  refine ev_go0 (ev_one_pure (M := ev_Mlaw) (pc := 1261) (i := .iload 4) (len := 2) (pc' := 1263) (lv' := [(5, .int (1)), (4, .int (0)), (3, .ref 723), (2, .ref 621), (1, .ref 0), (0, .retAddr 0)]) (st' := [.int (0), .retAddr 0, .int x1, .ref 621]) (by decide +kernel) rfl) ?_
  refine ev_go0 (ev_w_iconst (M := ev_Mlaw) (pc := 1263) (k := 2) (v := 2) (by decide +kernel) (by decide +kernel)) ?_
  refine ev_go0 (ev_w_iadd (M := ev_Mlaw) (pc := 1264) (v := (2)) (by decide +kernel) (by decide +kernel)) ?_
  refine ev_go0 (ev_w_scr (M := ev_Mlaw) (pc := 1265) (v := x2) (j := 2) (by decide +kernel) (by decide +kernel) (by decide +kernel) e2) ?_
  refine ev_go0 (ev_one_pure (M := ev_Mlaw) (pc := 1266) (i := .aload_n 0) (len := 1) (pc' := 1267) (lv' := [(5, .int (1)), (4, .int (0)), (3, .ref 723), (2, .ref 621), (1, .ref 0), (0, .retAddr 0)]) (st' := [.retAddr 0, .int x2, .int x1, .ref 621]) (by decide +kernel) rfl) ?_
  refine ev_go0 (ev_one_pure (M := ev_Mlaw) (pc := 1267) (i := .iload 4) (len := 2) (pc' := 1269) (lv' := [(5, .int (1)), (4, .int (0)), (3, .ref 723), (2, .ref 621), (1, .ref 0), (0, .retAddr 0)]) (st' := [.int (0), .retAddr 0, .int x2, .int x1, .ref 621]) (by decide +kernel) rfl) ?_
  refine ev_go0 (ev_w_iconst (M := ev_Mlaw) (pc := 1269) (k := 3) (v := 3) (by decide +kernel) (by decide +kernel)) ?_
  refine ev_go0 (ev_w_iadd (M := ev_Mlaw) (pc := 1270) (v := (3)) (by decide +kernel) (by decide +kernel)) ?_
  refine ev_go0 (ev_w_scr (M := ev_Mlaw) (pc := 1271) (v := x3) (j := 3) (by decide +kernel) (by decide +kernel) (by decide +kernel) e3) ?_
  refine ev_go0 (ev_p_virt (M := ev_Mlaw) (pc := 1272) (x := 187) (mi := 335) (na := 3) (by decide +kernel) (by decide +kernel) (by decide +kernel) (by decide +kernel) rfl rfl (ev_recv_of ev_fH621) (ev_k339 x1 hu_x1 x2 hl_x2 x3)) ?_
  refine ev_go0 (ev_w_istore (M := ev_Mlaw) (pc := 1275) (k := 6) (lv' := [(6, .int (0)), (5, .int (1)), (4, .int (0)), (3, .ref 723), (2, .ref 621), (1, .ref 0), (0, .retAddr 0)]) (by decide +kernel) (by decide +kernel) rfl) ?_
  refine ev_go0 (ev_one_pure (M := ev_Mlaw) (pc := 1277) (i := .aload_n 2) (len := 1) (pc' := 1278) (lv' := [(6, .int (0)), (5, .int (1)), (4, .int (0)), (3, .ref 723), (2, .ref 621), (1, .ref 0), (0, .retAddr 0)]) (st' := [.ref 621]) (by decide +kernel) rfl) ?_
  refine ev_go0 (ev_p_virt (M := ev_Mlaw) (pc := 1278) (x := 131) (mi := 220) (na := 0) (by decide +kernel) (by decide +kernel) (by decide +kernel) (by decide +kernel) rfl rfl (ev_recv_of (ev_hself ev_fH621)) ev_k26) ?_
  refine ev_go0 (ev_one_pure (M := ev_Mlaw) (pc := 1281) (i := .iload 5) (len := 2) (pc' := 1283) (lv' := [(6, .int (0)), (5, .int (1)), (4, .int (0)), (3, .ref 723), (2, .ref 621), (1, .ref 0), (0, .retAddr 0)]) (st' := [.int (1), .int (1)]) (by decide +kernel) rfl) ?_
  refine ev_go0 (ev_w_icmp (M := ev_Mlaw) (pc := 1283) (q := .eq) (o := 5) (b := true) (t := 1288) (by decide +kernel) (by decide +kernel) rfl) ?_
  refine ev_go0 (ev_one_pure (M := ev_Mlaw) (pc := 1288) (i := .iload 5) (len := 2) (pc' := 1290) (lv' := [(6, .int (0)), (5, .int (1)), (4, .int (0)), (3, .ref 723), (2, .ref 621), (1, .ref 0), (0, .retAddr 0)]) (st' := [.int (1)]) (by decide +kernel) rfl) ?_
  refine ev_go0 (ev_w_if (M := ev_Mlaw) (pc := 1290) (q := .ne) (o := 15) (b := true) (t := 1305) (by decide +kernel) (by decide +kernel) rfl) ?_
  refine ev_go0 (ev_one_pure (M := ev_Mlaw) (pc := 1305) (i := .goto 967) (len := 3) (pc' := 2272) (lv' := [(6, .int (0)), (5, .int (1)), (4, .int (0)), (3, .ref 723), (2, .ref 621), (1, .ref 0), (0, .retAddr 0)]) (st' := []) (by decide +kernel) rfl) ?_
  rfl
theorem ev_k340 (x1 : Int32) (hl_x1 : (0 : Int) ≤ x1.toInt) (x2 : Int32) (hu_x2 : x2.toInt ≤ (-1 : Int)) (x3 : Int32) {n : Nat} : ev_calld 11 182 [.ref 0, .int x1, .int x2, .int x3] ev_H0 n = some (.inr "java/lang/IndexOutOfBoundsException", ev_H0, n, 1, 6) := by
  refine ev_call_thrown (k := 11) (pcR := 31) (x := 160) (lv' := [(5, .null), (4, .null), (0, .ref 0), (1, .int x1), (2, .int x2), (3, .int x3)]) (by decide +kernel) rfl ?_ (by decide +kernel) (by decide +kernel) (by decide +kernel) (by decide) (by decide)
  show ev_stepn _ 11 (0, [(0, .ref 0), (1, .int x1), (2, .int x2), (3, .int x3)], [], _, _, 0, 0) = _
  refine ev_go0 (ev_one_pure (M := (ev_Mof 182)) (pc := 0) (i := .aload_n 0) (len := 1) (pc' := 1) (lv' := [(0, .ref 0), (1, .int x1), (2, .int x2), (3, .int x3)]) (st' := [.ref 0]) (by decide +kernel) rfl) ?_
  refine ev_go0 (ev_one_pure (M := (ev_Mof 182)) (pc := 1) (i := .iload_n 1) (len := 1) (pc' := 2) (lv' := [(0, .ref 0), (1, .int x1), (2, .int x2), (3, .int x3)]) (st' := [.int x1, .ref 0]) (by decide +kernel) rfl) ?_
  refine ev_go0 (ev_p_virt (M := (ev_Mof 182)) (pc := 2) (x := 156) (mi := 200) (na := 1) (by decide +kernel) (by decide +kernel) (by decide +kernel) (by decide +kernel) rfl rfl (ev_recv_of ev_fH0) (ev_k9 x1 hl_x1)) ?_
  refine ev_go0 (ev_w_astore (M := (ev_Mof 182)) (pc := 5) (k := 4) (lv' := [(4, .null), (0, .ref 0), (1, .int x1), (2, .int x2), (3, .int x3)]) (by decide +kernel) (by decide +kernel) (Or.inr (Or.inl rfl)) rfl) ?_
  refine ev_go0 (ev_one_pure (M := (ev_Mof 182)) (pc := 7) (i := .aload_n 0) (len := 1) (pc' := 8) (lv' := [(4, .null), (0, .ref 0), (1, .int x1), (2, .int x2), (3, .int x3)]) (st' := [.ref 0]) (by decide +kernel) rfl) ?_
  refine ev_go0 (ev_p_getf (M := (ev_Mof 182)) (pc := 8) (x := 48) (ci := 12) (f := 8) (fin := 1) (v := .ref 254) (by decide +kernel) (by decide +kernel) ev_fH0 rfl) ?_
  refine ev_go0 (ev_one_pure (M := (ev_Mof 182)) (pc := 11) (i := .iload_n 2) (len := 1) (pc' := 12) (lv' := [(4, .null), (0, .ref 0), (1, .int x1), (2, .int x2), (3, .int x3)]) (st' := [.int x2, .ref 254]) (by decide +kernel) rfl) ?_
  refine ev_go0 (ev_p_virt (M := (ev_Mof 182)) (pc := 12) (x := 221) (mi := 1) (na := 1) (by decide +kernel) (by decide +kernel) (by decide +kernel) (by decide +kernel) rfl rfl (ev_recv_of ev_fH254) (ev_k230 x2 hu_x2)) ?_
  refine ev_go0 (ev_w_astore (M := (ev_Mof 182)) (pc := 15) (k := 5) (lv' := [(5, .null), (4, .null), (0, .ref 0), (1, .int x1), (2, .int x2), (3, .int x3)]) (by decide +kernel) (by decide +kernel) (Or.inr (Or.inl rfl)) rfl) ?_
  refine ev_go0 (ev_one_pure (M := (ev_Mof 182)) (pc := 17) (i := .aload 4) (len := 2) (pc' := 19) (lv' := [(5, .null), (4, .null), (0, .ref 0), (1, .int x1), (2, .int x2), (3, .int x3)]) (st' := [.null]) (by decide +kernel) rfl) ?_
  refine ev_go0 (ev_w_ifnull (M := (ev_Mof 182)) (pc := 19) (o := 12) (t := 31) (by decide +kernel) (Or.inl ⟨rfl, rfl⟩)) ?_
  rfl
theorem ev_k341 (x1 : Int32) (hl_x1 : (0 : Int) ≤ x1.toInt) (x2 : Int32) (hu_x2 : x2.toInt ≤ (-1 : Int)) (x3 : Int32) {n : Nat} : ev_calld 12 379 [.ref 0, .int x1, .int x2, .int x3, .ref 723] ev_H0 n = some (.inl (some (.int (1))), ev_H0, n, 1, 6) := by
  refine ev_call_int (k := 9) (pcR := 18) (lv' := [(5, .retAddr 1), (0, .ref 0), (1, .int x1), (2, .int x2), (3, .int x3), (4, .ref 723)]) (v := (1)) (ty := .int) (by decide +kernel) rfl ?_ (by decide +kernel) (by decide +kernel) (by decide +kernel) (by decide)
  show ev_stepn _ 9 (0, [(0, .ref 0), (1, .int x1), (2, .int x2), (3, .int x3), (4, .ref 723)], [], _, _, 0, 0) = _
  refine ev_go0 (ev_one_pure (M := (ev_Mof 379)) (pc := 0) (i := .aload 4) (len := 2) (pc' := 2) (lv' := [(0, .ref 0), (1, .int x1), (2, .int x2), (3, .int x3), (4, .ref 723)]) (st' := [.ref 723]) (by decide +kernel) rfl) ?_
  refine ev_go0 (ev_w_iconst (M := (ev_Mof 379)) (pc := 2) (k := 0) (v := 0) (by decide +kernel) (by decide +kernel)) ?_
  refine ev_go0 (ev_one_pure (M := (ev_Mof 379)) (pc := 3) (i := .aload_n 0) (len := 1) (pc' := 4) (lv' := [(0, .ref 0), (1, .int x1), (2, .int x2), (3, .int x3), (4, .ref 723)]) (st' := [.ref 0, .int (0), .ref 723]) (by decide +kernel) rfl) ?_
  refine ev_go0 (ev_one_pure (M := (ev_Mof 379)) (pc := 4) (i := .iload_n 1) (len := 1) (pc' := 5) (lv' := [(0, .ref 0), (1, .int x1), (2, .int x2), (3, .int x3), (4, .ref 723)]) (st' := [.int x1, .ref 0, .int (0), .ref 723]) (by decide +kernel) rfl) ?_
  refine ev_go0 (ev_one_pure (M := (ev_Mof 379)) (pc := 5) (i := .iload_n 2) (len := 1) (pc' := 6) (lv' := [(0, .ref 0), (1, .int x1), (2, .int x2), (3, .int x3), (4, .ref 723)]) (st' := [.int x2, .int x1, .ref 0, .int (0), .ref 723]) (by decide +kernel) rfl) ?_
  refine ev_go0 (ev_one_pure (M := (ev_Mof 379)) (pc := 6) (i := .iload_n 3) (len := 1) (pc' := 7) (lv' := [(0, .ref 0), (1, .int x1), (2, .int x2), (3, .int x3), (4, .ref 723)]) (st' := [.int x3, .int x2, .int x1, .ref 0, .int (0), .ref 723]) (by decide +kernel) rfl) ?_
  refine ev_go (ev_p_virtX (M := (ev_Mof 379)) (pc := 7) (x := 67) (t := 15) (mi := 182) (na := 3) (by decide +kernel) (by decide +kernel) (by decide +kernel) (by decide +kernel) rfl rfl (ev_recv_of ev_fH0) (ev_k340 x1 hl_x1 x2 hu_x2 x3) (by decide +kernel)) ?_
  refine ev_go0 (ev_w_astore (M := (ev_Mof 379)) (pc := 15) (k := 5) (lv' := [(5, .retAddr 1), (0, .ref 0), (1, .int x1), (2, .int x2), (3, .int x3), (4, .ref 723)]) (by decide +kernel) (by decide +kernel) (Or.inr (Or.inr ⟨_, rfl⟩)) rfl) ?_
  refine ev_go0 (ev_w_iconst (M := (ev_Mof 379)) (pc := 17) (k := 1) (v := 1) (by decide +kernel) (by decide +kernel)) ?_
  rfl
theorem ev_k342 (x1 : Int32) (hl_x1 : (0 : Int) ≤ x1.toInt) (x2 : Int32) (hu_x2 : x2.toInt ≤ (-1 : Int)) (x3 : Int32) {n : Nat} : ev_calld 12 335 [.ref 621, .int x1, .int x2, .int x3] ev_H0 n = some (.inl (some (.int (0))), (ev_H0.set 621 (.inr (13, (ev_F621.set 0 (.int (1)))))), n, 0, 0) := by
  refine ev_call_int (k := 11) (pcR := 37) (lv' := [(0, .ref 621), (1, .int x1), (2, .int x2), (3, .int x3)]) (v := (0)) (ty := .int) (by decide +kernel) rfl ?_ (by decide +kernel) (by decide +kernel) (by decide +kernel) (by decide)
  show ev_stepn _ 11 (0, [(0, .ref 621), (1, .int x1), (2, .int x2), (3, .int x3)], [], _, _, 0, 0) = _
  refine ev_go0 (ev_one_pure (M := (ev_Mof 335)) (pc := 0) (i := .aload_n 0) (len := 1) (pc' := 1) (lv' := [(0, .ref 621), (1, .int x1), (2, .int x2), (3, .int x3)]) (st' := [.ref 621]) (by decide +kernel) rfl) ?_
  refine ev_go0 (ev_one_pure (M := (ev_Mof 335)) (pc := 1) (i := .aload_n 0) (len := 1) (pc' := 2) (lv' := [(0, .ref 621), (1, .int x1), (2, .int x2), (3, .int x3)]) (st' := [.ref 621, .ref 621]) (by decide +kernel) rfl) ?_
  refine ev_go0 (ev_one_pure (M := (ev_Mof 335)) (pc := 2) (i := .iload_n 1) (len := 1) (pc' := 3) (lv' := [(0, .ref 621), (1, .int x1), (2, .int x2), (3, .int x3)]) (st' := [.int x1, .ref 621, .ref 621]) (by decide +kernel) rfl) ?_
  refine ev_go0 (ev_p_virt (M := (ev_Mof 335)) (pc := 3) (x := 531) (mi := 273) (na := 1) (by decide +kernel) (by decide +kernel) (by decide +kernel) (by decide +kernel) rfl rfl (ev_recv_of ev_fH621) (ev_k30 x1 hl_x1)) ?_
  refine ev_go0 (ev_w_if (M := (ev_Mof 335)) (pc := 6) (q := .eq) (o := 19) (b := true) (t := 25) (by decide +kernel) (by decide +kernel) rfl) ?_
  refine ev_go0 (ev_w_iconst (M := (ev_Mof 335)) (pc := 25) (k := 1) (v := 1) (by decide +kernel) (by decide +kernel)) ?_
  refine ev_go0 (ev_p_putf (M := (ev_Mof 335)) (pc := 26) (x := 321) (ci := 13) (f := 0) (by decide +kernel) (by decide +kernel) ev_fH621 rfl (by decide +kernel)) ?_
  refine ev_go0 (ev_one_pure (M := (ev_Mof 335)) (pc := 29) (i := .aload_n 0) (len := 1) (pc' := 30) (lv' := [(0, .ref 621), (1, .int x1), (2, .int x2), (3, .int x3)]) (st' := [.ref 621]) (by decide +kernel) rfl) ?_
  refine ev_go0 (ev_p_getf (M := (ev_Mof 335)) (pc := 30) (x := 321) (ci := 13) (f := 0) (fin := 0) (v := .int (1)) (by decide +kernel) (by decide +kernel) (ev_hself ev_fH621) rfl) ?_
  refine ev_go0 (ev_w_if (M := (ev_Mof 335)) (pc := 33) (q := .le) (o := 5) (b := false) (t := 36) (by decide +kernel) (by decide +kernel) rfl) ?_
  refine ev_go0 (ev_w_iconst (M := (ev_Mof 335)) (pc := 36) (k := 0) (v := 0) (by decide +kernel) (by decide +kernel)) ?_
  rfl
theorem ev_p1_16_pn (xs : Nat → Int32) (x1 : Int32) (hl_x1 : (0 : Int) ≤ x1.toInt) (x2 : Int32) (hu_x2 : x2.toInt ≤ (-1 : Int)) (x3 : Int32) (e1 : xs 1 = x1) (e2 : xs 2 = x2) (e3 : xs 3 = x3) : ev_P1 xs 1228 := by
  refine ⟨44, [(6, .int (0)), (5, .int (1)), (4, .int (0)), (3, .ref 723), (2, .ref 621), (1, .ref 0), (0, .retAddr 0)], (ev_H0.set 621 (.inr (13, (ev_F621.set 0 (.int (1)))))), 724, 725, 3553592, ?_, ⟨rfl, rfl, rfl, rfl⟩, rfl, by decide, by decide⟩
  show ev_stepn _ _ (1228, [(4, .int (0)), (3, .ref 723), (2, .ref 621), (1, .ref 0), (0, .retAddr 0)], [], _, _, _, _) = _
  refine ev_go0 (ev_one_pure (M := ev_Mlaw) (pc := 1228) (i := .aload_n 1) (len := 1) (pc' := 1229) (lv' := [(4, .int (0)), (3, .ref 723), (2, .ref 621), (1, .ref 0), (0, .retAddr 0)]) (st' := [.ref 0]) (by decide +kernel) rfl) ?_
  refine ev_go0 (ev_one_pure (M := ev_Mlaw) (pc := 1229) (i := .aload_n 0) (len := 1) (pc' := 1230) (lv' := [(4, .int (0)), (3, .ref 723), (2, .ref 621), (1, .ref 0), (0, .retAddr 0)]) (st' := [.retAddr 0, .ref 0]) (by decide +kernel) rfl) ?_
  refine ev_go0 (ev_one_pure (M := ev_Mlaw) (pc := 1230) (i := .iload 4) (len := 2) (pc' := 1232) (lv' := [(4, .int (0)), (3, .ref 723), (2, .ref 621), (1, .ref 0), (0, .retAddr 0)]) (st' := [.int (0), .retAddr 0, .ref 0]) (by decide +kernel) rfl) ?_
  refine ev_go0 (ev_w_iconst (M := ev_Mlaw) (pc := 1232) (k := 1) (v := 1) (by decide +kernel) (by decide +kernel)) ?_
  refine ev_go0 (ev_w_iadd (M := ev_Mlaw) (pc := 1233) (v := (1)) (by decide +kernel) (by decide +kernel)) ?_
  refine ev_go0 (ev_w_scr (M := ev_Mlaw) (pc := 1234) (v := x1) (j := 1) (by decide +kernel) (by decide +kernel) (by decide +kernel) e1) ?_
  refine ev_go0 (ev_one_pure (M := ev_Mlaw) (pc := 1235) (i := .aload_n 0) (len := 1) (pc' := 1236) (lv' := [(4, .int (0)), (3, .ref 723), (2, .ref 621), (1, .ref 0), (0, .retAddr 0)]) (st' := [.retAddr 0, .int x1, .ref 0]) (by decide +kernel) rfl) ?_
  refine ev_go0 (ev_one_pure (M := ev_Mlaw) (pc := 1236) (i := .iload 4) (len := 2) (pc' := 1238) (lv' := [(4, .int (0)), (3, .ref 723), (2, .ref 621), (1, .ref 0), (0, .retAddr 0)]) (st' := [.int (0), .retAddr 0, .int x1, .ref 0]) (by decide +kernel) rfl) ?_
  refine ev_go0 (ev_w_iconst (M := ev_Mlaw) (pc := 1238) (k := 2) (v := 2) (by decide +kernel) (by decide +kernel)) ?_
  refine ev_go0 (ev_w_iadd (M := ev_Mlaw) (pc := 1239) (v := (2)) (by decide +kernel) (by decide +kernel)) ?_
  refine ev_go0 (ev_w_scr (M := ev_Mlaw) (pc := 1240) (v := x2) (j := 2) (by decide +kernel) (by decide +kernel) (by decide +kernel) e2) ?_
  refine ev_go0 (ev_one_pure (M := ev_Mlaw) (pc := 1241) (i := .aload_n 0) (len := 1) (pc' := 1242) (lv' := [(4, .int (0)), (3, .ref 723), (2, .ref 621), (1, .ref 0), (0, .retAddr 0)]) (st' := [.retAddr 0, .int x2, .int x1, .ref 0]) (by decide +kernel) rfl) ?_
  refine ev_go0 (ev_one_pure (M := ev_Mlaw) (pc := 1242) (i := .iload 4) (len := 2) (pc' := 1244) (lv' := [(4, .int (0)), (3, .ref 723), (2, .ref 621), (1, .ref 0), (0, .retAddr 0)]) (st' := [.int (0), .retAddr 0, .int x2, .int x1, .ref 0]) (by decide +kernel) rfl) ?_
  refine ev_go0 (ev_w_iconst (M := ev_Mlaw) (pc := 1244) (k := 3) (v := 3) (by decide +kernel) (by decide +kernel)) ?_
  refine ev_go0 (ev_w_iadd (M := ev_Mlaw) (pc := 1245) (v := (3)) (by decide +kernel) (by decide +kernel)) ?_
  refine ev_go0 (ev_w_scr (M := ev_Mlaw) (pc := 1246) (v := x3) (j := 3) (by decide +kernel) (by decide +kernel) (by decide +kernel) e3) ?_
  refine ev_go0 (ev_one_pure (M := ev_Mlaw) (pc := 1247) (i := .aload_n 3) (len := 1) (pc' := 1248) (lv' := [(4, .int (0)), (3, .ref 723), (2, .ref 621), (1, .ref 0), (0, .retAddr 0)]) (st' := [.ref 723, .int x3, .int x2, .int x1, .ref 0]) (by decide +kernel) rfl) ?_
  refine ev_go (ev_w_stat (M := ev_Mlaw) (pc := 1248) (y := 185) (kind := 8) (Or.inr (Or.inr rfl)) (mi := 379) (na := 5) (by decide +kernel) (by decide +kernel) (by decide +kernel) (by decide +kernel) rfl rfl (ev_k341 x1 hl_x1 x2 hu_x2 x3)) ?_
  refine ev_go0 (ev_w_istore (M := ev_Mlaw) (pc := 1251) (k := 5) (lv' := [(5, .int (1)), (4, .int (0)), (3, .ref 723), (2, .ref 621), (1, .ref 0), (0, .retAddr 0)]) (by decide +kernel) (by decide +kernel) rfl) ?_
  refine ev_go0 (ev_one_pure (M := ev_Mlaw) (pc := 1253) (i := .aload_n 2) (len := 1) (pc' := 1254) (lv' := [(5, .int (1)), (4, .int (0)), (3, .ref 723), (2, .ref 621), (1, .ref 0), (0, .retAddr 0)]) (st' := [.ref 621]) (by decide +kernel) rfl) ?_
  refine ev_go0 (ev_one_pure (M := ev_Mlaw) (pc := 1254) (i := .aload_n 0) (len := 1) (pc' := 1255) (lv' := [(5, .int (1)), (4, .int (0)), (3, .ref 723), (2, .ref 621), (1, .ref 0), (0, .retAddr 0)]) (st' := [.retAddr 0, .ref 621]) (by decide +kernel) rfl) ?_
  refine ev_go0 (ev_one_pure (M := ev_Mlaw) (pc := 1255) (i := .iload 4) (len := 2) (pc' := 1257) (lv' := [(5, .int (1)), (4, .int (0)), (3, .ref 723), (2, .ref 621), (1, .ref 0), (0, .retAddr 0)]) (st' := [.int (0), .retAddr 0, .ref 621]) (by decide +kernel) rfl) ?_
  refine ev_go0 (ev_w_iconst (M := ev_Mlaw) (pc := 1257) (k := 1) (v := 1) (by decide +kernel) (by decide +kernel)) ?_
  refine ev_go0 (ev_w_iadd (M := ev_Mlaw) (pc := 1258) (v := (1)) (by decide +kernel) (by decide +kernel)) ?_
  refine ev_go0 (ev_w_scr (M := ev_Mlaw) (pc := 1259) (v := x1) (j := 1) (by decide +kernel) (by decide +kernel) (by decide +kernel) e1) ?_
  refine ev_go0 (ev_one_pure (M := ev_Mlaw) (pc := 1260) (i := .aload_n 0) (len := 1) (pc' := 1261) (lv' := [(5, .int (1)), (4, .int (0)), (3, .ref 723), (2, .ref 621), (1, .ref 0), (0, .retAddr 0)]) (st' := [.retAddr 0, .int x1, .ref 621]) (by decide +kernel) rfl) ?_
  refine ev_go0 (ev_one_pure (M := ev_Mlaw) (pc := 1261) (i := .iload 4) (len := 2) (pc' := 1263) (lv' := [(5, .int (1)), (4, .int (0)), (3, .ref 723), (2, .ref 621), (1, .ref 0), (0, .retAddr 0)]) (st' := [.int (0), .retAddr 0, .int x1, .ref 621]) (by decide +kernel) rfl) ?_
  refine ev_go0 (ev_w_iconst (M := ev_Mlaw) (pc := 1263) (k := 2) (v := 2) (by decide +kernel) (by decide +kernel)) ?_
  refine ev_go0 (ev_w_iadd (M := ev_Mlaw) (pc := 1264) (v := (2)) (by decide +kernel) (by decide +kernel)) ?_
  refine ev_go0 (ev_w_scr (M := ev_Mlaw) (pc := 1265) (v := x2) (j := 2) (by decide +kernel) (by decide +kernel) (by decide +kernel) e2) ?_
  refine ev_go0 (ev_one_pure (M := ev_Mlaw) (pc := 1266) (i := .aload_n 0) (len := 1) (pc' := 1267) (lv' := [(5, .int (1)), (4, .int (0)), (3, .ref 723), (2, .ref 621), (1, .ref 0), (0, .retAddr 0)]) (st' := [.retAddr 0, .int x2, .int x1, .ref 621]) (by decide +kernel) rfl) ?_
  refine ev_go0 (ev_one_pure (M := ev_Mlaw) (pc := 1267) (i := .iload 4) (len := 2) (pc' := 1269) (lv' := [(5, .int (1)), (4, .int (0)), (3, .ref 723), (2, .ref 621), (1, .ref 0), (0, .retAddr 0)]) (st' := [.int (0), .retAddr 0, .int x2, .int x1, .ref 621]) (by decide +kernel) rfl) ?_
  refine ev_go0 (ev_w_iconst (M := ev_Mlaw) (pc := 1269) (k := 3) (v := 3) (by decide +kernel) (by decide +kernel)) ?_
  refine ev_go0 (ev_w_iadd (M := ev_Mlaw) (pc := 1270) (v := (3)) (by decide +kernel) (by decide +kernel)) ?_
  refine ev_go0 (ev_w_scr (M := ev_Mlaw) (pc := 1271) (v := x3) (j := 3) (by decide +kernel) (by decide +kernel) (by decide +kernel) e3) ?_
  refine ev_go0 (ev_p_virt (M := ev_Mlaw) (pc := 1272) (x := 187) (mi := 335) (na := 3) (by decide +kernel) (by decide +kernel) (by decide +kernel) (by decide +kernel) rfl rfl (ev_recv_of ev_fH621) (ev_k342 x1 hl_x1 x2 hu_x2 x3)) ?_
  refine ev_go0 (ev_w_istore (M := ev_Mlaw) (pc := 1275) (k := 6) (lv' := [(6, .int (0)), (5, .int (1)), (4, .int (0)), (3, .ref 723), (2, .ref 621), (1, .ref 0), (0, .retAddr 0)]) (by decide +kernel) (by decide +kernel) rfl) ?_
  refine ev_go0 (ev_one_pure (M := ev_Mlaw) (pc := 1277) (i := .aload_n 2) (len := 1) (pc' := 1278) (lv' := [(6, .int (0)), (5, .int (1)), (4, .int (0)), (3, .ref 723), (2, .ref 621), (1, .ref 0), (0, .retAddr 0)]) (st' := [.ref 621]) (by decide +kernel) rfl) ?_
  refine ev_go0 (ev_p_virt (M := ev_Mlaw) (pc := 1278) (x := 131) (mi := 220) (na := 0) (by decide +kernel) (by decide +kernel) (by decide +kernel) (by decide +kernel) rfl rfl (ev_recv_of (ev_hself ev_fH621)) ev_k26) ?_
  refine ev_go0 (ev_one_pure (M := ev_Mlaw) (pc := 1281) (i := .iload 5) (len := 2) (pc' := 1283) (lv' := [(6, .int (0)), (5, .int (1)), (4, .int (0)), (3, .ref 723), (2, .ref 621), (1, .ref 0), (0, .retAddr 0)]) (st' := [.int (1), .int (1)]) (by decide +kernel) rfl) ?_
  refine ev_go0 (ev_w_icmp (M := ev_Mlaw) (pc := 1283) (q := .eq) (o := 5) (b := true) (t := 1288) (by decide +kernel) (by decide +kernel) rfl) ?_
  refine ev_go0 (ev_one_pure (M := ev_Mlaw) (pc := 1288) (i := .iload 5) (len := 2) (pc' := 1290) (lv' := [(6, .int (0)), (5, .int (1)), (4, .int (0)), (3, .ref 723), (2, .ref 621), (1, .ref 0), (0, .retAddr 0)]) (st' := [.int (1)]) (by decide +kernel) rfl) ?_
  refine ev_go0 (ev_w_if (M := ev_Mlaw) (pc := 1290) (q := .ne) (o := 15) (b := true) (t := 1305) (by decide +kernel) (by decide +kernel) rfl) ?_
  refine ev_go0 (ev_one_pure (M := ev_Mlaw) (pc := 1305) (i := .goto 967) (len := 3) (pc' := 2272) (lv' := [(6, .int (0)), (5, .int (1)), (4, .int (0)), (3, .ref 723), (2, .ref 621), (1, .ref 0), (0, .retAddr 0)]) (st' := []) (by decide +kernel) rfl) ?_
  rfl
theorem ev_k343 (x1 : Int32) (hl_x1 : (0 : Int) ≤ x1.toInt) (x3 : Int32) {n : Nat} : ev_calld 11 182 [.ref 0, .int x1, .int (0), .int x3] ev_H0 n = some (.inr "java/lang/IndexOutOfBoundsException", ev_H0, n, 1, 6) := by
  refine ev_call_thrown (k := 11) (pcR := 31) (x := 160) (lv' := [(5, .ref 263), (4, .null), (0, .ref 0), (1, .int x1), (2, .int (0)), (3, .int x3)]) (by decide +kernel) rfl ?_ (by decide +kernel) (by decide +kernel) (by decide +kernel) (by decide) (by decide)
  show ev_stepn _ 11 (0, [(0, .ref 0), (1, .int x1), (2, .int (0)), (3, .int x3)], [], _, _, 0, 0) = _
  refine ev_go0 (ev_one_pure (M := (ev_Mof 182)) (pc := 0) (i := .aload_n 0) (len := 1) (pc' := 1) (lv' := [(0, .ref 0), (1, .int x1), (2, .int (0)), (3, .int x3)]) (st' := [.ref 0]) (by decide +kernel) rfl) ?_
  refine ev_go0 (ev_one_pure (M := (ev_Mof 182)) (pc := 1) (i := .iload_n 1) (len := 1) (pc' := 2) (lv' := [(0, .ref 0), (1, .int x1), (2, .int (0)), (3, .int x3)]) (st' := [.int x1, .ref 0]) (by decide +kernel) rfl) ?_
  refine ev_go0 (ev_p_virt (M := (ev_Mof 182)) (pc := 2) (x := 156) (mi := 200) (na := 1) (by decide +kernel) (by decide +kernel) (by decide +kernel) (by decide +kernel) rfl rfl (ev_recv_of ev_fH0) (ev_k9 x1 hl_x1)) ?_
  refine ev_go0 (ev_w_astore (M := (ev_Mof 182)) (pc := 5) (k := 4) (lv' := [(4, .null), (0, .ref 0), (1, .int x1), (2, .int (0)), (3, .int x3)]) (by decide +kernel) (by decide +kernel) (Or.inr (Or.inl rfl)) rfl) ?_
  refine ev_go0 (ev_one_pure (M := (ev_Mof 182)) (pc := 7) (i := .aload_n 0) (len := 1) (pc' := 8) (lv' := [(4, .null), (0, .ref 0), (1, .int x1), (2, .int (0)), (3, .int x3)]) (st' := [.ref 0]) (by decide +kernel) rfl) ?_
  refine ev_go0 (ev_p_getf (M := (ev_Mof 182)) (pc := 8) (x := 48) (ci := 12) (f := 8) (fin := 1) (v := .ref 254) (by decide +kernel) (by decide +kernel) ev_fH0 rfl) ?_
  refine ev_go0 (ev_one_pure (M := (ev_Mof 182)) (pc := 11) (i := .iload_n 2) (len := 1) (pc' := 12) (lv' := [(4, .null), (0, .ref 0), (1, .int x1), (2, .int (0)), (3, .int x3)]) (st' := [.int (0), .ref 254]) (by decide +kernel) rfl) ?_
  refine ev_go0 (ev_p_virt (M := (ev_Mof 182)) (pc := 12) (x := 221) (mi := 1) (na := 1) (by decide +kernel) (by decide +kernel) (by decide +kernel) (by decide +kernel) rfl rfl (ev_recv_of ev_fH254) ev_k234) ?_
  refine ev_go0 (ev_w_astore (M := (ev_Mof 182)) (pc := 15) (k := 5) (lv' := [(5, .ref 263), (4, .null), (0, .ref 0), (1, .int x1), (2, .int (0)), (3, .int x3)]) (by decide +kernel) (by decide +kernel) (Or.inl ⟨_, rfl⟩) rfl) ?_
  refine ev_go0 (ev_one_pure (M := (ev_Mof 182)) (pc := 17) (i := .aload 4) (len := 2) (pc' := 19) (lv' := [(5, .ref 263), (4, .null), (0, .ref 0), (1, .int x1), (2, .int (0)), (3, .int x3)]) (st' := [.null]) (by decide +kernel) rfl) ?_
  refine ev_go0 (ev_w_ifnull (M := (ev_Mof 182)) (pc := 19) (o := 12) (t := 31) (by decide +kernel) (Or.inl ⟨rfl, rfl⟩)) ?_
  rfl
theorem ev_k344 (x1 : Int32) (hl_x1 : (0 : Int) ≤ x1.toInt) (x3 : Int32) {n : Nat} : ev_calld 12 379 [.ref 0, .int x1, .int (0), .int x3, .ref 723] ev_H0 n = some (.inl (some (.int (1))), ev_H0, n, 1, 6) := by
  refine ev_call_int (k := 9) (pcR := 18) (lv' := [(5, .retAddr 1), (0, .ref 0), (1, .int x1), (2, .int (0)), (3, .int x3), (4, .ref 723)]) (v := (1)) (ty := .int) (by decide +kernel) rfl ?_ (by decide +kernel) (by decide +kernel) (by decide +kernel) (by decide)
  show ev_stepn _ 9 (0, [(0, .ref 0), (1, .int x1), (2, .int (0)), (3, .int x3), (4, .ref 723)], [], _, _, 0, 0) = _
  refine ev_go0 (ev_one_pure (M := (ev_Mof 379)) (pc := 0) (i := .aload 4) (len := 2) (pc' := 2) (lv' := [(0, .ref 0), (1, .int x1), (2, .int (0)), (3, .int x3), (4, .ref 723)]) (st' := [.ref 723]) (by decide +kernel) rfl) ?_
  refine ev_go0 (ev_w_iconst (M := (ev_Mof 379)) (pc := 2) (k := 0) (v := 0) (by decide +kernel) (by decide +kernel)) ?_
  refine ev_go0 (ev_one_pure (M := (ev_Mof 379)) (pc := 3) (i := .aload_n 0) (len := 1) (pc' := 4) (lv' := [(0, .ref 0), (1, .int x1), (2, .int (0)), (3, .int x3), (4, .ref 723)]) (st' := [.ref 0, .int (0), .ref 723]) (by decide +kernel) rfl) ?_
  refine ev_go0 (ev_one_pure (M := (ev_Mof 379)) (pc := 4) (i := .iload_n 1) (len := 1) (pc' := 5) (lv' := [(0, .ref 0), (1, .int x1), (2, .int (0)), (3, .int x3), (4, .ref 723)]) (st' := [.int x1, .ref 0, .int (0), .ref 723]) (by decide +kernel) rfl) ?_
  refine ev_go0 (ev_one_pure (M := (ev_Mof 379)) (pc := 5) (i := .iload_n 2) (len := 1) (pc' := 6) (lv' := [(0, .ref 0), (1, .int x1), (2, .int (0)), (3, .int x3), (4, .ref 723)]) (st' := [.int (0), .int x1, .ref 0, .int (0), .ref 723]) (by decide +kernel) rfl) ?_
  refine ev_go0 (ev_one_pure (M := (ev_Mof 379)) (pc := 6) (i := .iload_n 3) (len := 1) (pc' := 7) (lv' := [(0, .ref 0), (1, .int x1), (2, .int (0)), (3, .int x3), (4, .ref 723)]) (st' := [.int x3, .int (0), .int x1, .ref 0, .int (0), .ref 723]) (by decide +kernel) rfl) ?_
  refine ev_go (ev_p_virtX (M := (ev_Mof 379)) (pc := 7) (x := 67) (t := 15) (mi := 182) (na := 3) (by decide +kernel) (by decide +kernel) (by decide +kernel) (by decide +kernel) rfl rfl (ev_recv_of ev_fH0) (ev_k343 x1 hl_x1 x3) (by decide +kernel)) ?_
  refine ev_go0 (ev_w_astore (M := (ev_Mof 379)) (pc := 15) (k := 5) (lv' := [(5, .retAddr 1), (0, .ref 0), (1, .int x1), (2, .int (0)), (3, .int x3), (4, .ref 723)]) (by decide +kernel) (by decide +kernel) (Or.inr (Or.inr ⟨_, rfl⟩)) rfl) ?_
  refine ev_go0 (ev_w_iconst (M := (ev_Mof 379)) (pc := 17) (k := 1) (v := 1) (by decide +kernel) (by decide +kernel)) ?_
  rfl
theorem ev_k345 (x1 : Int32) (hl_x1 : (0 : Int) ≤ x1.toInt) (x3 : Int32) {n : Nat} : ev_calld 12 335 [.ref 621, .int x1, .int (0), .int x3] ev_H0 n = some (.inl (some (.int (0))), (ev_H0.set 621 (.inr (13, (ev_F621.set 0 (.int (1)))))), n, 0, 0) := by
  refine ev_call_int (k := 11) (pcR := 37) (lv' := [(0, .ref 621), (1, .int x1), (2, .int (0)), (3, .int x3)]) (v := (0)) (ty := .int) (by decide +kernel) rfl ?_ (by decide +kernel) (by decide +kernel) (by decide +kernel) (by decide)
  show ev_stepn _ 11 (0, [(0, .ref 621), (1, .int x1), (2, .int (0)), (3, .int x3)], [], _, _, 0, 0) = _
  refine ev_go0 (ev_one_pure (M := (ev_Mof 335)) (pc := 0) (i := .aload_n 0) (len := 1) (pc' := 1) (lv' := [(0, .ref 621), (1, .int x1), (2, .int (0)), (3, .int x3)]) (st' := [.ref 621]) (by decide +kernel) rfl) ?_
  refine ev_go0 (ev_one_pure (M := (ev_Mof 335)) (pc := 1) (i := .aload_n 0) (len := 1) (pc' := 2) (lv' := [(0, .ref 621), (1, .int x1), (2, .int (0)), (3, .int x3)]) (st' := [.ref 621, .ref 621]) (by decide +kernel) rfl) ?_
  refine ev_go0 (ev_one_pure (M := (ev_Mof 335)) (pc := 2) (i := .iload_n 1) (len := 1) (pc' := 3) (lv' := [(0, .ref 621), (1, .int x1), (2, .int (0)), (3, .int x3)]) (st' := [.int x1, .ref 621, .ref 621]) (by decide +kernel) rfl) ?_
  refine ev_go0 (ev_p_virt (M := (ev_Mof 335)) (pc := 3) (x := 531) (mi := 273) (na := 1) (by decide +kernel) (by decide +kernel) (by decide +kernel) (by decide +kernel) rfl rfl (ev_recv_of ev_fH621) (ev_k30 x1 hl_x1)) ?_
  refine ev_go0 (ev_w_if (M := (ev_Mof 335)) (pc := 6) (q := .eq) (o := 19) (b := true) (t := 25) (by decide +kernel) (by decide +kernel) rfl) ?_
  refine ev_go0 (ev_w_iconst (M := (ev_Mof 335)) (pc := 25) (k := 1) (v := 1) (by decide +kernel) (by decide +kernel)) ?_
  refine ev_go0 (ev_p_putf (M := (ev_Mof 335)) (pc := 26) (x := 321) (ci := 13) (f := 0) (by decide +kernel) (by decide +kernel) ev_fH621 rfl (by decide +kernel)) ?_
  refine ev_go0 (ev_one_pure (M := (ev_Mof 335)) (pc := 29) (i := .aload_n 0) (len := 1) (pc' := 30) (lv' := [(0, .ref 621), (1, .int x1), (2, .int (0)), (3, .int x3)]) (st' := [.ref 621]) (by decide +kernel) rfl) ?_
  refine ev_go0 (ev_p_getf (M := (ev_Mof 335)) (pc := 30) (x := 321) (ci := 13) (f := 0) (fin := 0) (v := .int (1)) (by decide +kernel) (by decide +kernel) (ev_hself ev_fH621) rfl) ?_
  refine ev_go0 (ev_w_if (M := (ev_Mof 335)) (pc := 33) (q := .le) (o := 5) (b := false) (t := 36) (by decide +kernel) (by decide +kernel) rfl) ?_
  refine ev_go0 (ev_w_iconst (M := (ev_Mof 335)) (pc := 36) (k := 0) (v := 0) (by decide +kernel) (by decide +kernel)) ?_
  rfl
theorem ev_p1_16_p0 (xs : Nat → Int32) (x1 : Int32) (hl_x1 : (0 : Int) ≤ x1.toInt) (x3 : Int32) (e1 : xs 1 = x1) (e2 : xs 2 = (0)) (e3 : xs 3 = x3) : ev_P1 xs 1228 := by
  refine ⟨44, [(6, .int (0)), (5, .int (1)), (4, .int (0)), (3, .ref 723), (2, .ref 621), (1, .ref 0), (0, .retAddr 0)], (ev_H0.set 621 (.inr (13, (ev_F621.set 0 (.int (1)))))), 724, 725, 3553592, ?_, ⟨rfl, rfl, rfl, rfl⟩, rfl, by decide, by decide⟩
  show ev_stepn _ _ (1228, [(4, .int (0)), (3, .ref 723), (2, .ref 621), (1, .ref 0), (0, .retAddr 0)], [], _, _, _, _) = _
  refine ev_go0 (ev_one_pure (M := ev_Mlaw) (pc := 1228) (i := .aload_n 1) (len := 1) (pc' := 1229) (lv' := [(4, .int (0)), (3, .ref 723), (2, .ref 621), (1, .ref 0), (0, .retAddr 0)]) (st' := [.ref 0]) (by decide +kernel) rfl) ?_
  refine ev_go0 (ev_one_pure (M := ev_Mlaw) (pc := 1229) (i := .aload_n 0) (len := 1) (pc' := 1230) (lv' := [(4, .int (0)), (3, .ref 723), (2, .ref 621), (1, .ref 0), (0, .retAddr 0)]) (st' := [.retAddr 0, .ref 0]) (by decide +kernel) rfl) ?_
  refine ev_go0 (ev_one_pure (M := ev_Mlaw) (pc := 1230) (i := .iload 4) (len := 2) (pc' := 1232) (lv' := [(4, .int (0)), (3, .ref 723), (2, .ref 621), (1, .ref 0), (0, .retAddr 0)]) (st' := [.int (0), .retAddr 0, .ref 0]) (by decide +kernel) rfl) ?_
  refine ev_go0 (ev_w_iconst (M := ev_Mlaw) (pc := 1232) (k := 1) (v := 1) (by decide +kernel) (by decide +kernel)) ?_
  refine ev_go0 (ev_w_iadd (M := ev_Mlaw) (pc := 1233) (v := (1)) (by decide +kernel) (by decide +kernel)) ?_
  refine ev_go0 (ev_w_scr (M := ev_Mlaw) (pc := 1234) (v := x1) (j := 1) (by decide +kernel) (by decide +kernel) (by decide +kernel) e1) ?_
  refine ev_go0 (ev_one_pure (M := ev_Mlaw) (pc := 1235) (i := .aload_n 0) (len := 1) (pc' := 1236) (lv' := [(4, .int (0)), (3, .ref 723), (2, .ref 621), (1, .ref 0), (0, .retAddr 0)]) (st' := [.retAddr 0, .int x1, .ref 0]) (by decide +kernel) rfl) ?_
  refine ev_go0 (ev_one_pure (M := ev_Mlaw) (pc := 1236) (i := .iload 4) (len := 2) (pc' := 1238) (lv' := [(4, .int (0)), (3, .ref 723), (2, .ref 621), (1, .ref 0), (0, .retAddr 0)]) (st' := [.int (0), .retAddr 0, .int x1, .ref 0]) (by decide +kernel) rfl) ?_
  refine ev_go0 (ev_w_iconst (M := ev_Mlaw) (pc := 1238) (k := 2) (v := 2) (by decide +kernel) (by decide +kernel)) ?_
  refine ev_go0 (ev_w_iadd (M := ev_Mlaw) (pc := 1239) (v := (2)) (by decide +kernel) (by decide +kernel)) ?_
  refine ev_go0 (ev_w_scr (M := ev_Mlaw) (pc := 1240) (v := (0)) (j := 2) (by decide +kernel) (by decide +kernel) (by decide +kernel) e2) ?_
  refine ev_go0 (ev_one_pure (M := ev_Mlaw) (pc := 1241) (i := .aload_n 0) (len := 1) (pc' := 1242) (lv' := [(4, .int (0)), (3, .ref 723), (2, .ref 621), (1, .ref 0), (0, .retAddr 0)]) (st' := [.retAddr 0, .int (0), .int x1, .ref 0]) (by decide +kernel) rfl) ?_
  refine ev_go0 (ev_one_pure (M := ev_Mlaw) (pc := 1242) (i := .iload 4) (len := 2) (pc' := 1244) (lv' := [(4, .int (0)), (3, .ref 723), (2, .ref 621), (1, .ref 0), (0, .retAddr 0)]) (st' := [.int (0), .retAddr 0, .int (0), .int x1, .ref 0]) (by decide +kernel) rfl) ?_
  refine ev_go0 (ev_w_iconst (M := ev_Mlaw) (pc := 1244) (k := 3) (v := 3) (by decide +kernel) (by decide +kernel)) ?_
  refine ev_go0 (ev_w_iadd (M := ev_Mlaw) (pc := 1245) (v := (3)) (by decide +kernel) (by decide +kernel)) ?_
  refine ev_go0 (ev_w_scr (M := ev_Mlaw) (pc := 1246) (v := x3) (j := 3) (by decide +kernel) (by decide +kernel) (by decide +kernel) e3) ?_
  refine ev_go0 (ev_one_pure (M := ev_Mlaw) (pc := 1247) (i := .aload_n 3) (len := 1) (pc' := 1248) (lv' := [(4, .int (0)), (3, .ref 723), (2, .ref 621), (1, .ref 0), (0, .retAddr 0)]) (st' := [.ref 723, .int x3, .int (0), .int x1, .ref 0]) (by decide +kernel) rfl) ?_
  refine ev_go (ev_w_stat (M := ev_Mlaw) (pc := 1248) (y := 185) (kind := 8) (Or.inr (Or.inr rfl)) (mi := 379) (na := 5) (by decide +kernel) (by decide +kernel) (by decide +kernel) (by decide +kernel) rfl rfl (ev_k344 x1 hl_x1 x3)) ?_
  refine ev_go0 (ev_w_istore (M := ev_Mlaw) (pc := 1251) (k := 5) (lv' := [(5, .int (1)), (4, .int (0)), (3, .ref 723), (2, .ref 621), (1, .ref 0), (0, .retAddr 0)]) (by decide +kernel) (by decide +kernel) rfl) ?_
  refine ev_go0 (ev_one_pure (M := ev_Mlaw) (pc := 1253) (i := .aload_n 2) (len := 1) (pc' := 1254) (lv' := [(5, .int (1)), (4, .int (0)), (3, .ref 723), (2, .ref 621), (1, .ref 0), (0, .retAddr 0)]) (st' := [.ref 621]) (by decide +kernel) rfl) ?_
  refine ev_go0 (ev_one_pure (M := ev_Mlaw) (pc := 1254) (i := .aload_n 0) (len := 1) (pc' := 1255) (lv' := [(5, .int (1)), (4, .int (0)), (3, .ref 723), (2, .ref 621), (1, .ref 0), (0, .retAddr 0)]) (st' := [.retAddr 0, .ref 621]) (by decide +kernel) rfl) ?_
  refine ev_go0 (ev_one_pure (M := ev_Mlaw) (pc := 1255) (i := .iload 4) (len := 2) (pc' := 1257) (lv' := [(5, .int (1)), (4, .int (0)), (3, .ref 723), (2, .ref 621), (1, .ref 0), (0, .retAddr 0)]) (st' := [.int (0), .retAddr 0, .ref 621]) (by decide +kernel) rfl) ?_
  refine ev_go0 (ev_w_iconst (M := ev_Mlaw) (pc := 1257) (k := 1) (v := 1) (by decide +kernel) (by decide +kernel)) ?_
  refine ev_go0 (ev_w_iadd (M := ev_Mlaw) (pc := 1258) (v := (1)) (by decide +kernel) (by decide +kernel)) ?_
  refine ev_go0 (ev_w_scr (M := ev_Mlaw) (pc := 1259) (v := x1) (j := 1) (by decide +kernel) (by decide +kernel) (by decide +kernel) e1) ?_
  refine ev_go0 (ev_one_pure (M := ev_Mlaw) (pc := 1260) (i := .aload_n 0) (len := 1) (pc' := 1261) (lv' := [(5, .int (1)), (4, .int (0)), (3, .ref 723), (2, .ref 621), (1, .ref 0), (0, .retAddr 0)]) (st' := [.retAddr 0, .int x1, .ref 621]) (by decide +kernel) rfl) ?_
  refine ev_go0 (ev_one_pure (M := ev_Mlaw) (pc := 1261) (i := .iload 4) (len := 2) (pc' := 1263) (lv' := [(5, .int (1)), (4, .int (0)), (3, .ref 723), (2, .ref 621), (1, .ref 0), (0, .retAddr 0)]) (st' := [.int (0), .retAddr 0, .int x1, .ref 621]) (by decide +kernel) rfl) ?_
  refine ev_go0 (ev_w_iconst (M := ev_Mlaw) (pc := 1263) (k := 2) (v := 2) (by decide +kernel) (by decide +kernel)) ?_
  refine ev_go0 (ev_w_iadd (M := ev_Mlaw) (pc := 1264) (v := (2)) (by decide +kernel) (by decide +kernel)) ?_
  refine ev_go0 (ev_w_scr (M := ev_Mlaw) (pc := 1265) (v := (0)) (j := 2) (by decide +kernel) (by decide +kernel) (by decide +kernel) e2) ?_
  refine ev_go0 (ev_one_pure (M := ev_Mlaw) (pc := 1266) (i := .aload_n 0) (len := 1) (pc' := 1267) (lv' := [(5, .int (1)), (4, .int (0)), (3, .ref 723), (2, .ref 621), (1, .ref 0), (0, .retAddr 0)]) (st' := [.retAddr 0, .int (0), .int x1, .ref 621]) (by decide +kernel) rfl) ?_
  refine ev_go0 (ev_one_pure (M := ev_Mlaw) (pc := 1267) (i := .iload 4) (len := 2) (pc' := 1269) (lv' := [(5, .int (1)), (4, .int (0)), (3, .ref 723), (2, .ref 621), (1, .ref 0), (0, .retAddr 0)]) (st' := [.int (0), .retAddr 0, .int (0), .int x1, .ref 621]) (by decide +kernel) rfl) ?_
  refine ev_go0 (ev_w_iconst (M := ev_Mlaw) (pc := 1269) (k := 3) (v := 3) (by decide +kernel) (by decide +kernel)) ?_
  refine ev_go0 (ev_w_iadd (M := ev_Mlaw) (pc := 1270) (v := (3)) (by decide +kernel) (by decide +kernel)) ?_
  refine ev_go0 (ev_w_scr (M := ev_Mlaw) (pc := 1271) (v := x3) (j := 3) (by decide +kernel) (by decide +kernel) (by decide +kernel) e3) ?_
  refine ev_go0 (ev_p_virt (M := ev_Mlaw) (pc := 1272) (x := 187) (mi := 335) (na := 3) (by decide +kernel) (by decide +kernel) (by decide +kernel) (by decide +kernel) rfl rfl (ev_recv_of ev_fH621) (ev_k345 x1 hl_x1 x3)) ?_
  refine ev_go0 (ev_w_istore (M := ev_Mlaw) (pc := 1275) (k := 6) (lv' := [(6, .int (0)), (5, .int (1)), (4, .int (0)), (3, .ref 723), (2, .ref 621), (1, .ref 0), (0, .retAddr 0)]) (by decide +kernel) (by decide +kernel) rfl) ?_
  refine ev_go0 (ev_one_pure (M := ev_Mlaw) (pc := 1277) (i := .aload_n 2) (len := 1) (pc' := 1278) (lv' := [(6, .int (0)), (5, .int (1)), (4, .int (0)), (3, .ref 723), (2, .ref 621), (1, .ref 0), (0, .retAddr 0)]) (st' := [.ref 621]) (by decide +kernel) rfl) ?_
  refine ev_go0 (ev_p_virt (M := ev_Mlaw) (pc := 1278) (x := 131) (mi := 220) (na := 0) (by decide +kernel) (by decide +kernel) (by decide +kernel) (by decide +kernel) rfl rfl (ev_recv_of (ev_hself ev_fH621)) ev_k26) ?_
  refine ev_go0 (ev_one_pure (M := ev_Mlaw) (pc := 1281) (i := .iload 5) (len := 2) (pc' := 1283) (lv' := [(6, .int (0)), (5, .int (1)), (4, .int (0)), (3, .ref 723), (2, .ref 621), (1, .ref 0), (0, .retAddr 0)]) (st' := [.int (1), .int (1)]) (by decide +kernel) rfl) ?_
  refine ev_go0 (ev_w_icmp (M := ev_Mlaw) (pc := 1283) (q := .eq) (o := 5) (b := true) (t := 1288) (by decide +kernel) (by decide +kernel) rfl) ?_
  refine ev_go0 (ev_one_pure (M := ev_Mlaw) (pc := 1288) (i := .iload 5) (len := 2) (pc' := 1290) (lv' := [(6, .int (0)), (5, .int (1)), (4, .int (0)), (3, .ref 723), (2, .ref 621), (1, .ref 0), (0, .retAddr 0)]) (st' := [.int (1)]) (by decide +kernel) rfl) ?_
  refine ev_go0 (ev_w_if (M := ev_Mlaw) (pc := 1290) (q := .ne) (o := 15) (b := true) (t := 1305) (by decide +kernel) (by decide +kernel) rfl) ?_
  refine ev_go0 (ev_one_pure (M := ev_Mlaw) (pc := 1305) (i := .goto 967) (len := 3) (pc' := 2272) (lv' := [(6, .int (0)), (5, .int (1)), (4, .int (0)), (3, .ref 723), (2, .ref 621), (1, .ref 0), (0, .retAddr 0)]) (st' := []) (by decide +kernel) rfl) ?_
  rfl
theorem ev_k346 (x1 : Int32) (hl_x1 : (0 : Int) ≤ x1.toInt) (x3 : Int32) {n : Nat} : ev_calld 11 182 [.ref 0, .int x1, .int (1), .int x3] ev_H0 n = some (.inr "java/lang/IndexOutOfBoundsException", ev_H0, n, 1, 6) := by
  refine ev_call_thrown (k := 11) (pcR := 31) (x := 160) (lv' := [(5, .ref 265), (4, .null), (0, .ref 0), (1, .int x1), (2, .int (1)), (3, .int x3)]) (by decide +kernel) rfl ?_ (by decide +kernel) (by decide +kernel) (by decide +kernel) (by decide) (by decide)
  show ev_stepn _ 11 (0, [(0, .ref 0), (1, .int x1), (2, .int (1)), (3, .int x3)], [], _, _, 0, 0) = _
  refine ev_go0 (ev_one_pure (M := (ev_Mof 182)) (pc := 0) (i := .aload_n 0) (len := 1) (pc' := 1) (lv' := [(0, .ref 0), (1, .int x1), (2, .int (1)), (3, .int x3)]) (st' := [.ref 0]) (by decide +kernel) rfl) ?_
  refine ev_go0 (ev_one_pure (M := (ev_Mof 182)) (pc := 1) (i := .iload_n 1) (len := 1) (pc' := 2) (lv' := [(0, .ref 0), (1, .int x1), (2, .int (1)), (3, .int x3)]) (st' := [.int x1, .ref 0]) (by decide +kernel) rfl) ?_
  refine ev_go0 (ev_p_virt (M := (ev_Mof 182)) (pc := 2) (x := 156) (mi := 200) (na := 1) (by decide +kernel) (by decide +kernel) (by decide +kernel) (by decide +kernel) rfl rfl (ev_recv_of ev_fH0) (ev_k9 x1 hl_x1)) ?_
  refine ev_go0 (ev_w_astore (M := (ev_Mof 182)) (pc := 5) (k := 4) (lv' := [(4, .null), (0, .ref 0), (1, .int x1), (2, .int (1)), (3, .int x3)]) (by decide +kernel) (by decide +kernel) (Or.inr (Or.inl rfl)) rfl) ?_
  refine ev_go0 (ev_one_pure (M := (ev_Mof 182)) (pc := 7) (i := .aload_n 0) (len := 1) (pc' := 8) (lv' := [(4, .null), (0, .ref 0), (1, .int x1), (2, .int (1)), (3, .int x3)]) (st' := [.ref 0]) (by decide +kernel) rfl) ?_
  refine ev_go0 (ev_p_getf (M := (ev_Mof 182)) (pc := 8) (x := 48) (ci := 12) (f := 8) (fin := 1) (v := .ref 254) (by decide +kernel) (by decide +kernel) ev_fH0 rfl) ?_
  refine ev_go0 (ev_one_pure (M := (ev_Mof 182)) (pc := 11) (i := .iload_n 2) (len := 1) (pc' := 12) (lv' := [(4, .null), (0, .ref 0), (1, .int x1), (2, .int (1)), (3, .int x3)]) (st' := [.int (1), .ref 254]) (by decide +kernel) rfl) ?_
  refine ev_go0 (ev_p_virt (M := (ev_Mof 182)) (pc := 12) (x := 221) (mi := 1) (na := 1) (by decide +kernel) (by decide +kernel) (by decide +kernel) (by decide +kernel) rfl rfl (ev_recv_of ev_fH254) ev_k238) ?_
  refine ev_go0 (ev_w_astore (M := (ev_Mof 182)) (pc := 15) (k := 5) (lv' := [(5, .ref 265), (4, .null), (0, .ref 0), (1, .int x1), (2, .int (1)), (3, .int x3)]) (by decide +kernel) (by decide +kernel) (Or.inl ⟨_, rfl⟩) rfl) ?_
  refine ev_go0 (ev_one_pure (M := (ev_Mof 182)) (pc := 17) (i := .aload 4) (len := 2) (pc' := 19) (lv' := [(5, .ref 265), (4, .null), (0, .ref 0), (1, .int x1), (2, .int (1)), (3, .int x3)]) (st' := [.null]) (by decide +kernel) rfl) ?_
  refine ev_go0 (ev_w_ifnull (M := (ev_Mof 182)) (pc := 19) (o := 12) (t := 31) (by decide +kernel) (Or.inl ⟨rfl, rfl⟩)) ?_
  rfl
theorem ev_k347 (x1 : Int32) (hl_x1 : (0 : Int) ≤ x1.toInt) (x3 : Int32) {n : Nat} : ev_calld 12 379 [.ref 0, .int x1, .int (1), .int x3, .ref 723] ev_H0 n = some (.inl (some (.int (1))), ev_H0, n, 1, 6) := by
  refine ev_call_int (k := 9) (pcR := 18) (lv' := [(5, .retAddr 1), (0, .ref 0), (1, .int x1), (2, .int (1)), (3, .int x3), (4, .ref 723)]) (v := (1)) (ty := .int) (by decide +kernel) rfl ?_ (by decide +kernel) (by decide +kernel) (by decide +kernel) (by decide)
  show ev_stepn _ 9 (0, [(0, .ref 0), (1, .int x1), (2, .int (1)), (3, .int x3), (4, .ref 723)], [], _, _, 0, 0) = _
  refine ev_go0 (ev_one_pure (M := (ev_Mof 379)) (pc := 0) (i := .aload 4) (len := 2) (pc' := 2) (lv' := [(0, .ref 0), (1, .int x1), (2, .int (1)), (3, .int x3), (4, .ref 723)]) (st' := [.ref 723]) (by decide +kernel) rfl) ?_
  refine ev_go0 (ev_w_iconst (M := (ev_Mof 379)) (pc := 2) (k := 0) (v := 0) (by decide +kernel) (by decide +kernel)) ?_
  refine ev_go0 (ev_one_pure (M := (ev_Mof 379)) (pc := 3) (i := .aload_n 0) (len := 1) (pc' := 4) (lv' := [(0, .ref 0), (1, .int x1), (2, .int (1)), (3, .int x3), (4, .ref 723)]) (st' := [.ref 0, .int (0), .ref 723]) (by decide +kernel) rfl) ?_
  refine ev_go0 (ev_one_pure (M := (ev_Mof 379)) (pc := 4) (i := .iload_n 1) (len := 1) (pc' := 5) (lv' := [(0, .ref 0), (1, .int x1), (2, .int (1)), (3, .int x3), (4, .ref 723)]) (st' := [.int x1, .ref 0, .int (0), .ref 723]) (by decide +kernel) rfl) ?_
  refine ev_go0 (ev_one_pure (M := (ev_Mof 379)) (pc := 5) (i := .iload_n 2) (len := 1) (pc' := 6) (lv' := [(0, .ref 0), (1, .int x1), (2, .int (1)), (3, .int x3), (4, .ref 723)]) (st' := [.int (1), .int x1, .ref 0, .int (0), .ref 723]) (by decide +kernel) rfl) ?_
  refine ev_go0 (ev_one_pure (M := (ev_Mof 379)) (pc := 6) (i := .iload_n 3) (len := 1) (pc' := 7) (lv' := [(0, .ref 0), (1, .int x1), (2, .int (1)), (3, .int x3), (4, .ref 723)]) (st' := [.int x3, .int (1), .int x1, .ref 0, .int (0), .ref 723]) (by decide +kernel) rfl) ?_
  refine ev_go (ev_p_virtX (M := (ev_Mof 379)) (pc := 7) (x := 67) (t := 15) (mi := 182) (na := 3) (by decide +kernel) (by decide +kernel) (by decide +kernel) (by decide +kernel) rfl rfl (ev_recv_of ev_fH0) (ev_k346 x1 hl_x1 x3) (by decide +kernel)) ?_
  refine ev_go0 (ev_w_astore (M := (ev_Mof 379)) (pc := 15) (k := 5) (lv' := [(5, .retAddr 1), (0, .ref 0), (1, .int x1), (2, .int (1)), (3, .int x3), (4, .ref 723)]) (by decide +kernel) (by decide +kernel) (Or.inr (Or.inr ⟨_, rfl⟩)) rfl) ?_
  refine ev_go0 (ev_w_iconst (M := (ev_Mof 379)) (pc := 17) (k := 1) (v := 1) (by decide +kernel) (by decide +kernel)) ?_
  rfl
theorem ev_k348 (x1 : Int32) (hl_x1 : (0 : Int) ≤ x1.toInt) (x3 : Int32) {n : Nat} : ev_calld 12 335 [.ref 621, .int x1, .int (1), .int x3] ev_H0 n = some (.inl (some (.int (0))), (ev_H0.set 621 (.inr (13, (ev_F621.set 0 (.int (1)))))), n, 0, 0) := by
  refine ev_call_int (k := 11) (pcR := 37) (lv' := [(0, .ref 621), (1, .int x1), (2, .int (1)), (3, .int x3)]) (v := (0)) (ty := .int) (by decide +kernel) rfl ?_ (by decide +kernel) (by decide +kernel) (by decide +kernel) (by decide)
  show ev_stepn _ 11 (0, [(0, .ref 621), (1, .int x1), (2, .int (1)), (3, .int x3)], [], _, _, 0, 0) = _
  refine ev_go0 (ev_one_pure (M := (ev_Mof 335)) (pc := 0) (i := .aload_n 0) (len := 1) (pc' := 1) (lv' := [(0, .ref 621), (1, .int x1), (2, .int (1)), (3, .int x3)]) (st' := [.ref 621]) (by decide +kernel) rfl) ?_
  refine ev_go0 (ev_one_pure (M := (ev_Mof 335)) (pc := 1) (i := .aload_n 0) (len := 1) (pc' := 2) (lv' := [(0, .ref 621), (1, .int x1), (2, .int (1)), (3, .int x3)]) (st' := [.ref 621, .ref 621]) (by decide +kernel) rfl) ?_
  refine ev_go0 (ev_one_pure (M := (ev_Mof 335)) (pc := 2) (i := .iload_n 1) (len := 1) (pc' := 3) (lv' := [(0, .ref 621), (1, .int x1), (2, .int (1)), (3, .int x3)]) (st' := [.int x1, .ref 621, .ref 621]) (by decide +kernel) rfl) ?_
  refine ev_go0 (ev_p_virt (M := (ev_Mof 335)) (pc := 3) (x := 531) (mi := 273) (na := 1) (by decide +kernel) (by decide +kernel) (by decide +kernel) (by decide +kernel) rfl rfl (ev_recv_of ev_fH621) (ev_k30 x1 hl_x1)) ?_
  refine ev_go0 (ev_w_if (M := (ev_Mof 335)) (pc := 6) (q := .eq) (o := 19) (b := true) (t := 25) (by decide +kernel) (by decide +kernel) rfl) ?_
  refine ev_go0 (ev_w_iconst (M := (ev_Mof 335)) (pc := 25) (k := 1) (v := 1) (by decide +kernel) (by decide +kernel)) ?_
  refine ev_go0 (ev_p_putf (M := (ev_Mof 335)) (pc := 26) (x := 321) (ci := 13) (f := 0) (by decide +kernel) (by decide +kernel) ev_fH621 rfl (by decide +kernel)) ?_
  refine ev_go0 (ev_one_pure (M := (ev_Mof 335)) (pc := 29) (i := .aload_n 0) (len := 1) (pc' := 30) (lv' := [(0, .ref 621), (1, .int x1), (2, .int (1)), (3, .int x3)]) (st' := [.ref 621]) (by decide +kernel) rfl) ?_
  refine ev_go0 (ev_p_getf (M := (ev_Mof 335)) (pc := 30) (x := 321) (ci := 13) (f := 0) (fin := 0) (v := .int (1)) (by decide +kernel) (by decide +kernel) (ev_hself ev_fH621) rfl) ?_
  refine ev_go0 (ev_w_if (M := (ev_Mof 335)) (pc := 33) (q := .le) (o := 5) (b := false) (t := 36) (by decide +kernel) (by decide +kernel) rfl) ?_
  refine ev_go0 (ev_w_iconst (M := (ev_Mof 335)) (pc := 36) (k := 0) (v := 0) (by decide +kernel) (by decide +kernel)) ?_
  rfl
theorem ev_p1_16_p1 (xs : Nat → Int32) (x1 : Int32) (hl_x1 : (0 : Int) ≤ x1.toInt) (x3 : Int32) (e1 : xs 1 = x1) (e2 : xs 2 = (1)) (e3 : xs 3 = x3) : ev_P1 xs 1228 := by
  refine ⟨44, [(6, .int (0)), (5, .int (1)), (4, .int (0)), (3, .ref 723), (2, .ref 621), (1, .ref 0), (0, .retAddr 0)], (ev_H0.set 621 (.inr (13, (ev_F621.set 0 (.int (1)))))), 724, 725, 3553592, ?_, ⟨rfl, rfl, rfl, rfl⟩, rfl, by decide, by decide⟩
  show ev_stepn _ _ (1228, [(4, .int (0)), (3, .ref 723), (2, .ref 621), (1, .ref 0), (0, .retAddr 0)], [], _, _, _, _) = _
  refine ev_go0 (ev_one_pure (M := ev_Mlaw) (pc := 1228) (i := .aload_n 1) (len := 1) (pc' := 1229) (lv' := [(4, .int (0)), (3, .ref 723), (2, .ref 621), (1, .ref 0), (0, .retAddr 0)]) (st' := [.ref 0]) (by decide +kernel) rfl) ?_
  refine ev_go0 (ev_one_pure (M := ev_Mlaw) (pc := 1229) (i := .aload_n 0) (len := 1) (pc' := 1230) (lv' := [(4, .int (0)), (3, .ref 723), (2, .ref 621), (1, .ref 0), (0, .retAddr 0)]) (st' := [.retAddr 0, .ref 0]) (by decide +kernel) rfl) ?_
  refine ev_go0 (ev_one_pure (M := ev_Mlaw) (pc := 1230) (i := .iload 4) (len := 2) (pc' := 1232) (lv' := [(4, .int (0)), (3, .ref 723), (2, .ref 621), (1, .ref 0), (0, .retAddr 0)]) (st' := [.int (0), .retAddr 0, .ref 0]) (by decide +kernel) rfl) ?_
  refine ev_go0 (ev_w_iconst (M := ev_Mlaw) (pc := 1232) (k := 1) (v := 1) (by decide +kernel) (by decide +kernel)) ?_
  refine ev_go0 (ev_w_iadd (M := ev_Mlaw) (pc := 1233) (v := (1)) (by decide +kernel) (by decide +kernel)) ?_
  refine ev_go0 (ev_w_scr (M := ev_Mlaw) (pc := 1234) (v := x1) (j := 1) (by decide +kernel) (by decide +kernel) (by decide +kernel) e1) ?_
  refine ev_go0 (ev_one_pure (M := ev_Mlaw) (pc := 1235) (i := .aload_n 0) (len := 1) (pc' := 1236) (lv' := [(4, .int (0)), (3, .ref 723), (2, .ref 621), (1, .ref 0), (0, .retAddr 0)]) (st' := [.retAddr 0, .int x1, .ref 0]) (by decide +kernel) rfl) ?_
  refine ev_go0 (ev_one_pure (M := ev_Mlaw) (pc := 1236) (i := .iload 4) (len := 2) (pc' := 1238) (lv' := [(4, .int (0)), (3, .ref 723), (2, .ref 621), (1, .ref 0), (0, .retAddr 0)]) (st' := [.int (0), .retAddr 0, .int x1, .ref 0]) (by decide +kernel) rfl) ?_
  refine ev_go0 (ev_w_iconst (M := ev_Mlaw) (pc := 1238) (k := 2) (v := 2) (by decide +kernel) (by decide +kernel)) ?_
  refine ev_go0 (ev_w_iadd (M := ev_Mlaw) (pc := 1239) (v := (2)) (by decide +kernel) (by decide +kernel)) ?_
  refine ev_go0 (ev_w_scr (M := ev_Mlaw) (pc := 1240) (v := (1)) (j := 2) (by decide +kernel) (by decide +kernel) (by decide +kernel) e2) ?_
  refine ev_go0 (ev_one_pure (M := ev_Mlaw) (pc := 1241) (i := .aload_n 0) (len := 1) (pc' := 1242) (lv' := [(4, .int (0)), (3, .ref 723), (2, .ref 621), (1, .ref 0), (0, .retAddr 0)]) (st' := [.retAddr 0, .int (1), .int x1, .ref 0]) (by decide +kernel) rfl) ?_
  refine ev_go0 (ev_one_pure (M := ev_Mlaw) (pc := 1242) (i := .iload 4) (len := 2) (pc' := 1244) (lv' := [(4, .int (0)), (3, .ref 723), (2, .ref 621), (1, .ref 0), (0, .retAddr 0)]) (st' := [.int (0), .retAddr 0, .int (1), .int x1, .ref 0]) (by decide +kernel) rfl) ?_
  refine ev_go0 (ev_w_iconst (M := ev_Mlaw) (pc := 1244) (k := 3) (v := 3) (by decide +kernel) (by decide +kernel)) ?_
  refine ev_go0 (ev_w_iadd (M := ev_Mlaw) (pc := 1245) (v := (3)) (by decide +kernel) (by decide +kernel)) ?_
  refine ev_go0 (ev_w_scr (M := ev_Mlaw) (pc := 1246) (v := x3) (j := 3) (by decide +kernel) (by decide +kernel) (by decide +kernel) e3) ?_
  refine ev_go0 (ev_one_pure (M := ev_Mlaw) (pc := 1247) (i := .aload_n 3) (len := 1) (pc' := 1248) (lv' := [(4, .int (0)), (3, .ref 723), (2, .ref 621), (1, .ref 0), (0, .retAddr 0)]) (st' := [.ref 723, .int x3, .int (1), .int x1, .ref 0]) (by decide +kernel) rfl) ?_
  refine ev_go (ev_w_stat (M := ev_Mlaw) (pc := 1248) (y := 185) (kind := 8) (Or.inr (Or.inr rfl)) (mi := 379) (na := 5) (by decide +kernel) (by decide +kernel) (by decide +kernel) (by decide +kernel) rfl rfl (ev_k347 x1 hl_x1 x3)) ?_
  refine ev_go0 (ev_w_istore (M := ev_Mlaw) (pc := 1251) (k := 5) (lv' := [(5, .int (1)), (4, .int (0)), (3, .ref 723), (2, .ref 621), (1, .ref 0), (0, .retAddr 0)]) (by decide +kernel) (by decide +kernel) rfl) ?_
  refine ev_go0 (ev_one_pure (M := ev_Mlaw) (pc := 1253) (i := .aload_n 2) (len := 1) (pc' := 1254) (lv' := [(5, .int (1)), (4, .int (0)), (3, .ref 723), (2, .ref 621), (1, .ref 0), (0, .retAddr 0)]) (st' := [.ref 621]) (by decide +kernel) rfl) ?_
  refine ev_go0 (ev_one_pure (M := ev_Mlaw) (pc := 1254) (i := .aload_n 0) (len := 1) (pc' := 1255) (lv' := [(5, .int (1)), (4, .int (0)), (3, .ref 723), (2, .ref 621), (1, .ref 0), (0, .retAddr 0)]) (st' := [.retAddr 0, .ref 621]) (by decide +kernel) rfl) ?_
  refine ev_go0 (ev_one_pure (M := ev_Mlaw) (pc := 1255) (i := .iload 4) (len := 2) (pc' := 1257) (lv' := [(5, .int (1)), (4, .int (0)), (3, .ref 723), (2, .ref 621), (1, .ref 0), (0, .retAddr 0)]) (st' := [.int (0), .retAddr 0, .ref 621]) (by decide +kernel) rfl) ?_
  refine ev_go0 (ev_w_iconst (M := ev_Mlaw) (pc := 1257) (k := 1) (v := 1) (by decide +kernel) (by decide +kernel)) ?_
  refine ev_go0 (ev_w_iadd (M := ev_Mlaw) (pc := 1258) (v := (1)) (by decide +kernel) (by decide +kernel)) ?_
  refine ev_go0 (ev_w_scr (M := ev_Mlaw) (pc := 1259) (v := x1) (j := 1) (by decide +kernel) (by decide +kernel) (by decide +kernel) e1) ?_
  refine ev_go0 (ev_one_pure (M := ev_Mlaw) (pc := 1260) (i := .aload_n 0) (len := 1) (pc' := 1261) (lv' := [(5, .int (1)), (4, .int (0)), (3, .ref 723), (2, .ref 621), (1, .ref 0), (0, .retAddr 0)]) (st' := [.retAddr 0, .int x1, .ref 621]) (by decide +kernel) rfl) ?_
  refine ev_go0 (ev_one_pure (M := ev_Mlaw) (pc := 1261) (i := .iload 4) (len := 2) (pc' := 1263) (lv' := [(5, .int (1)), (4, .int (0)), (3, .ref 723), (2, .ref 621), (1, .ref 0), (0, .retAddr 0)]) (st' := [.int (0), .retAddr 0, .int x1, .ref 621]) (by decide +kernel) rfl) ?_
  refine ev_go0 (ev_w_iconst (M := ev_Mlaw) (pc := 1263) (k := 2) (v := 2) (by decide +kernel) (by decide +kernel)) ?_
  refine ev_go0 (ev_w_iadd (M := ev_Mlaw) (pc := 1264) (v := (2)) (by decide +kernel) (by decide +kernel)) ?_
  refine ev_go0 (ev_w_scr (M := ev_Mlaw) (pc := 1265) (v := (1)) (j := 2) (by decide +kernel) (by decide +kernel) (by decide +kernel) e2) ?_
  refine ev_go0 (ev_one_pure (M := ev_Mlaw) (pc := 1266) (i := .aload_n 0) (len := 1) (pc' := 1267) (lv' := [(5, .int (1)), (4, .int (0)), (3, .ref 723), (2, .ref 621), (1, .ref 0), (0, .retAddr 0)]) (st' := [.retAddr 0, .int (1), .int x1, .ref 621]) (by decide +kernel) rfl) ?_
  refine ev_go0 (ev_one_pure (M := ev_Mlaw) (pc := 1267) (i := .iload 4) (len := 2) (pc' := 1269) (lv' := [(5, .int (1)), (4, .int (0)), (3, .ref 723), (2, .ref 621), (1, .ref 0), (0, .retAddr 0)]) (st' := [.int (0), .retAddr 0, .int (1), .int x1, .ref 621]) (by decide +kernel) rfl) ?_
  refine ev_go0 (ev_w_iconst (M := ev_Mlaw) (pc := 1269) (k := 3) (v := 3) (by decide +kernel) (by decide +kernel)) ?_
  refine ev_go0 (ev_w_iadd (M := ev_Mlaw) (pc := 1270) (v := (3)) (by decide +kernel) (by decide +kernel)) ?_
  refine ev_go0 (ev_w_scr (M := ev_Mlaw) (pc := 1271) (v := x3) (j := 3) (by decide +kernel) (by decide +kernel) (by decide +kernel) e3) ?_
  refine ev_go0 (ev_p_virt (M := ev_Mlaw) (pc := 1272) (x := 187) (mi := 335) (na := 3) (by decide +kernel) (by decide +kernel) (by decide +kernel) (by decide +kernel) rfl rfl (ev_recv_of ev_fH621) (ev_k348 x1 hl_x1 x3)) ?_
  refine ev_go0 (ev_w_istore (M := ev_Mlaw) (pc := 1275) (k := 6) (lv' := [(6, .int (0)), (5, .int (1)), (4, .int (0)), (3, .ref 723), (2, .ref 621), (1, .ref 0), (0, .retAddr 0)]) (by decide +kernel) (by decide +kernel) rfl) ?_
  refine ev_go0 (ev_one_pure (M := ev_Mlaw) (pc := 1277) (i := .aload_n 2) (len := 1) (pc' := 1278) (lv' := [(6, .int (0)), (5, .int (1)), (4, .int (0)), (3, .ref 723), (2, .ref 621), (1, .ref 0), (0, .retAddr 0)]) (st' := [.ref 621]) (by decide +kernel) rfl) ?_
  refine ev_go0 (ev_p_virt (M := ev_Mlaw) (pc := 1278) (x := 131) (mi := 220) (na := 0) (by decide +kernel) (by decide +kernel) (by decide +kernel) (by decide +kernel) rfl rfl (ev_recv_of (ev_hself ev_fH621)) ev_k26) ?_
  refine ev_go0 (ev_one_pure (M := ev_Mlaw) (pc := 1281) (i := .iload 5) (len := 2) (pc' := 1283) (lv' := [(6, .int (0)), (5, .int (1)), (4, .int (0)), (3, .ref 723), (2, .ref 621), (1, .ref 0), (0, .retAddr 0)]) (st' := [.int (1), .int (1)]) (by decide +kernel) rfl) ?_
  refine ev_go0 (ev_w_icmp (M := ev_Mlaw) (pc := 1283) (q := .eq) (o := 5) (b := true) (t := 1288) (by decide +kernel) (by decide +kernel) rfl) ?_
  refine ev_go0 (ev_one_pure (M := ev_Mlaw) (pc := 1288) (i := .iload 5) (len := 2) (pc' := 1290) (lv' := [(6, .int (0)), (5, .int (1)), (4, .int (0)), (3, .ref 723), (2, .ref 621), (1, .ref 0), (0, .retAddr 0)]) (st' := [.int (1)]) (by decide +kernel) rfl) ?_
  refine ev_go0 (ev_w_if (M := ev_Mlaw) (pc := 1290) (q := .ne) (o := 15) (b := true) (t := 1305) (by decide +kernel) (by decide +kernel) rfl) ?_
  refine ev_go0 (ev_one_pure (M := ev_Mlaw) (pc := 1305) (i := .goto 967) (len := 3) (pc' := 2272) (lv' := [(6, .int (0)), (5, .int (1)), (4, .int (0)), (3, .ref 723), (2, .ref 621), (1, .ref 0), (0, .retAddr 0)]) (st' := []) (by decide +kernel) rfl) ?_
  rfl
theorem ev_k349 (x1 : Int32) (hl_x1 : (0 : Int) ≤ x1.toInt) (x3 : Int32) {n : Nat} : ev_calld 11 182 [.ref 0, .int x1, .int (2), .int x3] ev_H0 n = some (.inr "java/lang/IndexOutOfBoundsException", ev_H0, n, 1, 6) := by
  refine ev_call_thrown (k := 11) (pcR := 31) (x := 160) (lv' := [(5, .ref 267), (4, .null), (0, .ref 0), (1, .int x1), (2, .int (2)), (3, .int x3)]) (by decide +kernel) rfl ?_ (by decide +kernel) (by decide +kernel) (by decide +kernel) (by decide) (by decide)
  show ev_stepn _ 11 (0, [(0, .ref 0), (1, .int x1), (2, .int (2)), (3, .int x3)], [], _, _, 0, 0) = _
  refine ev_go0 (ev_one_pure (M := (ev_Mof 182)) (pc := 0) (i := .aload_n 0) (len := 1) (pc' := 1) (lv' := [(0, .ref 0), (1, .int x1), (2, .int (2)), (3, .int x3)]) (st' := [.ref 0]) (by decide +kernel) rfl) ?_
  refine ev_go0 (ev_one_pure (M := (ev_Mof 182)) (pc := 1) (i := .iload_n 1) (len := 1) (pc' := 2) (lv' := [(0, .ref 0), (1, .int x1), (2, .int (2)), (3, .int x3)]) (st' := [.int x1, .ref 0]) (by decide +kernel) rfl) ?_
  refine ev_go0 (ev_p_virt (M := (ev_Mof 182)) (pc := 2) (x := 156) (mi := 200) (na := 1) (by decide +kernel) (by decide +kernel) (by decide +kernel) (by decide +kernel) rfl rfl (ev_recv_of ev_fH0) (ev_k9 x1 hl_x1)) ?_
  refine ev_go0 (ev_w_astore (M := (ev_Mof 182)) (pc := 5) (k := 4) (lv' := [(4, .null), (0, .ref 0), (1, .int x1), (2, .int (2)), (3, .int x3)]) (by decide +kernel) (by decide +kernel) (Or.inr (Or.inl rfl)) rfl) ?_
  refine ev_go0 (ev_one_pure (M := (ev_Mof 182)) (pc := 7) (i := .aload_n 0) (len := 1) (pc' := 8) (lv' := [(4, .null), (0, .ref 0), (1, .int x1), (2, .int (2)), (3, .int x3)]) (st' := [.ref 0]) (by decide +kernel) rfl) ?_
  refine ev_go0 (ev_p_getf (M := (ev_Mof 182)) (pc := 8) (x := 48) (ci := 12) (f := 8) (fin := 1) (v := .ref 254) (by decide +kernel) (by decide +kernel) ev_fH0 rfl) ?_
  refine ev_go0 (ev_one_pure (M := (ev_Mof 182)) (pc := 11) (i := .iload_n 2) (len := 1) (pc' := 12) (lv' := [(4, .null), (0, .ref 0), (1, .int x1), (2, .int (2)), (3, .int x3)]) (st' := [.int (2), .ref 254]) (by decide +kernel) rfl) ?_
  refine ev_go0 (ev_p_virt (M := (ev_Mof 182)) (pc := 12) (x := 221) (mi := 1) (na := 1) (by decide +kernel) (by decide +kernel) (by decide +kernel) (by decide +kernel) rfl rfl (ev_recv_of ev_fH254) ev_k242) ?_
  refine ev_go0 (ev_w_astore (M := (ev_Mof 182)) (pc := 15) (k := 5) (lv' := [(5, .ref 267), (4, .null), (0, .ref 0), (1, .int x1), (2, .int (2)), (3, .int x3)]) (by decide +kernel) (by decide +kernel) (Or.inl ⟨_, rfl⟩) rfl) ?_
  refine ev_go0 (ev_one_pure (M := (ev_Mof 182)) (pc := 17) (i := .aload 4) (len := 2) (pc' := 19) (lv' := [(5, .ref 267), (4, .null), (0, .ref 0), (1, .int x1), (2, .int (2)), (3, .int x3)]) (st' := [.null]) (by decide +kernel) rfl) ?_
  refine ev_go0 (ev_w_ifnull (M := (ev_Mof 182)) (pc := 19) (o := 12) (t := 31) (by decide +kernel) (Or.inl ⟨rfl, rfl⟩)) ?_
  rfl
theorem ev_k350 (x1 : Int32) (hl_x1 : (0 : Int) ≤ x1.toInt) (x3 : Int32) {n : Nat} : ev_calld 12 379 [.ref 0, .int x1, .int (2), .int x3, .ref 723] ev_H0 n = some (.inl (some (.int (1))), ev_H0, n, 1, 6) := by
  refine ev_call_int (k := 9) (pcR := 18) (lv' := [(5, .retAddr 1), (0, .ref 0), (1, .int x1), (2, .int (2)), (3, .int x3), (4, .ref 723)]) (v := (1)) (ty := .int) (by decide +kernel) rfl ?_ (by decide +kernel) (by decide +kernel) (by decide +kernel) (by decide)
  show ev_stepn _ 9 (0, [(0, .ref 0), (1, .int x1), (2, .int (2)), (3, .int x3), (4, .ref 723)], [], _, _, 0, 0) = _
  refine ev_go0 (ev_one_pure (M := (ev_Mof 379)) (pc := 0) (i := .aload 4) (len := 2) (pc' := 2) (lv' := [(0, .ref 0), (1, .int x1), (2, .int (2)), (3, .int x3), (4, .ref 723)]) (st' := [.ref 723]) (by decide +kernel) rfl) ?_
  refine ev_go0 (ev_w_iconst (M := (ev_Mof 379)) (pc := 2) (k := 0) (v := 0) (by decide +kernel) (by decide +kernel)) ?_
  refine ev_go0 (ev_one_pure (M := (ev_Mof 379)) (pc := 3) (i := .aload_n 0) (len := 1) (pc' := 4) (lv' := [(0, .ref 0), (1, .int x1), (2, .int (2)), (3, .int x3), (4, .ref 723)]) (st' := [.ref 0, .int (0), .ref 723]) (by decide +kernel) rfl) ?_
  refine ev_go0 (ev_one_pure (M := (ev_Mof 379)) (pc := 4) (i := .iload_n 1) (len := 1) (pc' := 5) (lv' := [(0, .ref 0), (1, .int x1), (2, .int (2)), (3, .int x3), (4, .ref 723)]) (st' := [.int x1, .ref 0, .int (0), .ref 723]) (by decide +kernel) rfl) ?_
  refine ev_go0 (ev_one_pure (M := (ev_Mof 379)) (pc := 5) (i := .iload_n 2) (len := 1) (pc' := 6) (lv' := [(0, .ref 0), (1, .int x1), (2, .int (2)), (3, .int x3), (4, .ref 723)]) (st' := [.int (2), .int x1, .ref 0, .int (0), .ref 723]) (by decide +kernel) rfl) ?_
  refine ev_go0 (ev_one_pure (M := (ev_Mof 379)) (pc := 6) (i := .iload_n 3) (len := 1) (pc' := 7) (lv' := [(0, .ref 0), (1, .int x1), (2, .int (2)), (3, .int x3), (4, .ref 723)]) (st' := [.int x3, .int (2), .int x1, .ref 0, .int (0), .ref 723]) (by decide +kernel) rfl) ?_
  refine ev_go (ev_p_virtX (M := (ev_Mof 379)) (pc := 7) (x := 67) (t := 15) (mi := 182) (na := 3) (by decide +kernel) (by decide +kernel) (by decide +kernel) (by decide +kernel) rfl rfl (ev_recv_of ev_fH0) (ev_k349 x1 hl_x1 x3) (by decide +kernel)) ?_
  refine ev_go0 (ev_w_astore (M := (ev_Mof 379)) (pc := 15) (k := 5) (lv' := [(5, .retAddr 1), (0, .ref 0), (1, .int x1), (2, .int (2)), (3, .int x3), (4, .ref 723)]) (by decide +kernel) (by decide +kernel) (Or.inr (Or.inr ⟨_, rfl⟩)) rfl) ?_
  refine ev_go0 (ev_w_iconst (M := (ev_Mof 379)) (pc := 17) (k := 1) (v := 1) (by decide +kernel) (by decide +kernel)) ?_
  rfl
theorem ev_k351 (x1 : Int32) (hl_x1 : (0 : Int) ≤ x1.toInt) (x3 : Int32) {n : Nat} : ev_calld 12 335 [.ref 621, .int x1, .int (2), .int x3] ev_H0 n = some (.inl (some (.int (0))), (ev_H0.set 621 (.inr (13, (ev_F621.set 0 (.int (1)))))), n, 0, 0) := by
  refine ev_call_int (k := 11) (pcR := 37) (lv' := [(0, .ref 621), (1, .int x1), (2, .int (2)), (3, .int x3)]) (v := (0)) (ty := .int) (by decide +kernel) rfl ?_ (by decide +kernel) (by decide +kernel) (by decide +kernel) (by decide)
  show ev_stepn _ 11 (0, [(0, .ref 621), (1, .int x1), (2, .int (2)), (3, .int x3)], [], _, _, 0, 0) = _
  refine ev_go0 (ev_one_pure (M := (ev_Mof 335)) (pc := 0) (i := .aload_n 0) (len := 1) (pc' := 1) (lv' := [(0, .ref 621), (1, .int x1), (2, .int (2)), (3, .int x3)]) (st' := [.ref 621]) (by decide +kernel) rfl) ?_
  refine ev_go0 (ev_one_pure (M := (ev_Mof 335)) (pc := 1) (i := .aload_n 0) (len := 1) (pc' := 2) (lv' := [(0, .ref 621), (1, .int x1), (2, .int (2)), (3, .int x3)]) (st' := [.ref 621, .ref 621]) (by decide +kernel) rfl) ?_
  refine ev_go0 (ev_one_pure (M := (ev_Mof 335)) (pc := 2) (i := .iload_n 1) (len := 1) (pc' := 3) (lv' := [(0, .ref 621), (1, .int x1), (2, .int (2)), (3, .int x3)]) (st' := [.int x1, .ref 621, .ref 621]) (by decide +kernel) rfl) ?_
  refine ev_go0 (ev_p_virt (M := (ev_Mof 335)) (pc := 3) (x := 531) (mi := 273) (na := 1) (by decide +kernel) (by decide +kernel) (by decide +kernel) (by decide +kernel) rfl rfl (ev_recv_of ev_fH621) (ev_k30 x1 hl_x1)) ?_
  refine ev_go0 (ev_w_if (M := (ev_Mof 335)) (pc := 6) (q := .eq) (o := 19) (b := true) (t := 25) (by decide +kernel) (by decide +kernel) rfl) ?_
  refine ev_go0 (ev_w_iconst (M := (ev_Mof 335)) (pc := 25) (k := 1) (v := 1) (by decide +kernel) (by decide +kernel)) ?_
  refine ev_go0 (ev_p_putf (M := (ev_Mof 335)) (pc := 26) (x := 321) (ci := 13) (f := 0) (by decide +kernel) (by decide +kernel) ev_fH621 rfl (by decide +kernel)) ?_
  refine ev_go0 (ev_one_pure (M := (ev_Mof 335)) (pc := 29) (i := .aload_n 0) (len := 1) (pc' := 30) (lv' := [(0, .ref 621), (1, .int x1), (2, .int (2)), (3, .int x3)]) (st' := [.ref 621]) (by decide +kernel) rfl) ?_
  refine ev_go0 (ev_p_getf (M := (ev_Mof 335)) (pc := 30) (x := 321) (ci := 13) (f := 0) (fin := 0) (v := .int (1)) (by decide +kernel) (by decide +kernel) (ev_hself ev_fH621) rfl) ?_
  refine ev_go0 (ev_w_if (M := (ev_Mof 335)) (pc := 33) (q := .le) (o := 5) (b := false) (t := 36) (by decide +kernel) (by decide +kernel) rfl) ?_
  refine ev_go0 (ev_w_iconst (M := (ev_Mof 335)) (pc := 36) (k := 0) (v := 0) (by decide +kernel) (by decide +kernel)) ?_
  rfl
theorem ev_p1_16_p2 (xs : Nat → Int32) (x1 : Int32) (hl_x1 : (0 : Int) ≤ x1.toInt) (x3 : Int32) (e1 : xs 1 = x1) (e2 : xs 2 = (2)) (e3 : xs 3 = x3) : ev_P1 xs 1228 := by
  refine ⟨44, [(6, .int (0)), (5, .int (1)), (4, .int (0)), (3, .ref 723), (2, .ref 621), (1, .ref 0), (0, .retAddr 0)], (ev_H0.set 621 (.inr (13, (ev_F621.set 0 (.int (1)))))), 724, 725, 3553592, ?_, ⟨rfl, rfl, rfl, rfl⟩, rfl, by decide, by decide⟩
  show ev_stepn _ _ (1228, [(4, .int (0)), (3, .ref 723), (2, .ref 621), (1, .ref 0), (0, .retAddr 0)], [], _, _, _, _) = _
  refine ev_go0 (ev_one_pure (M := ev_Mlaw) (pc := 1228) (i := .aload_n 1) (len := 1) (pc' := 1229) (lv' := [(4, .int (0)), (3, .ref 723), (2, .ref 621), (1, .ref 0), (0, .retAddr 0)]) (st' := [.ref 0]) (by decide +kernel) rfl) ?_
  refine ev_go0 (ev_one_pure (M := ev_Mlaw) (pc := 1229) (i := .aload_n 0) (len := 1) (pc' := 1230) (lv' := [(4, .int (0)), (3, .ref 723), (2, .ref 621), (1, .ref 0), (0, .retAddr 0)]) (st' := [.retAddr 0, .ref 0]) (by decide +kernel) rfl) ?_
  refine ev_go0 (ev_one_pure (M := ev_Mlaw) (pc := 1230) (i := .iload 4) (len := 2) (pc' := 1232) (lv' := [(4, .int (0)), (3, .ref 723), (2, .ref 621), (1, .ref 0), (0, .retAddr 0)]) (st' := [.int (0), .retAddr 0, .ref 0]) (by decide +kernel) rfl) ?_
  refine ev_go0 (ev_w_iconst (M := ev_Mlaw) (pc := 1232) (k := 1) (v := 1) (by decide +kernel) (by decide +kernel)) ?_
  refine ev_go0 (ev_w_iadd (M := ev_Mlaw) (pc := 1233) (v := (1)) (by decide +kernel) (by decide +kernel)) ?_
  refine ev_go0 (ev_w_scr (M := ev_Mlaw) (pc := 1234) (v := x1) (j := 1) (by decide +kernel) (by decide +kernel) (by decide +kernel) e1) ?_
  refine ev_go0 (ev_one_pure (M := ev_Mlaw) (pc := 1235) (i := .aload_n 0) (len := 1) (pc' := 1236) (lv' := [(4, .int (0)), (3, .ref 723), (2, .ref 621), (1, .ref 0), (0, .retAddr 0)]) (st' := [.retAddr 0, .int x1, .ref 0]) (by decide +kernel) rfl) ?_
  refine ev_go0 (ev_one_pure (M := ev_Mlaw) (pc := 1236) (i := .iload 4) (len := 2) (pc' := 1238) (lv' := [(4, .int (0)), (3, .ref 723), (2, .ref 621), (1, .ref 0), (0, .retAddr 0)]) (st' := [.int (0), .retAddr 0, .int x1, .ref 0]) (by decide +kernel) rfl) ?_
  refine ev_go0 (ev_w_iconst (M := ev_Mlaw) (pc := 1238) (k := 2) (v := 2) (by decide +kernel) (by decide +kernel)) ?_
  refine ev_go0 (ev_w_iadd (M := ev_Mlaw) (pc := 1239) (v := (2)) (by decide +kernel) (by decide +kernel)) ?_
  refine ev_go0 (ev_w_scr (M := ev_Mlaw) (pc := 1240) (v := (2)) (j := 2) (by decide +kernel) (by decide +kernel) (by decide +kernel) e2) ?_
  refine ev_go0 (ev_one_pure (M := ev_Mlaw) (pc := 1241) (i := .aload_n 0) (len := 1) (pc' := 1242) (lv' := [(4, .int (0)), (3, .ref 723), (2, .ref 621), (1, .ref 0), (0, .retAddr 0)]) (st' := [.retAddr 0, .int (2), .int x1, .ref 0]) (by decide +kernel) rfl) ?_
  refine ev_go0 (ev_one_pure (M := ev_Mlaw) (pc := 1242) (i := .iload 4) (len := 2) (pc' := 1244) (lv' := [(4, .int (0)), (3, .ref 723), (2, .ref 621), (1, .ref 0), (0, .retAddr 0)]) (st' := [.int (0), .retAddr 0, .int (2), .int x1, .ref 0]) (by decide +kernel) rfl) ?_
  refine ev_go0 (ev_w_iconst (M := ev_Mlaw) (pc := 1244) (k := 3) (v := 3) (by decide +kernel) (by decide +kernel)) ?_
  refine ev_go0 (ev_w_iadd (M := ev_Mlaw) (pc := 1245) (v := (3)) (by decide +kernel) (by decide +kernel)) ?_
  refine ev_go0 (ev_w_scr (M := ev_Mlaw) (pc := 1246) (v := x3) (j := 3) (by decide +kernel) (by decide +kernel) (by decide +kernel) e3) ?_
  refine ev_go0 (ev_one_pure (M := ev_Mlaw) (pc := 1247) (i := .aload_n 3) (len := 1) (pc' := 1248) (lv' := [(4, .int (0)), (3, .ref 723), (2, .ref 621), (1, .ref 0), (0, .retAddr 0)]) (st' := [.ref 723, .int x3, .int (2), .int x1, .ref 0]) (by decide +kernel) rfl) ?_
  refine ev_go (ev_w_stat (M := ev_Mlaw) (pc := 1248) (y := 185) (kind := 8) (Or.inr (Or.inr rfl)) (mi := 379) (na := 5) (by decide +kernel) (by decide +kernel) (by decide +kernel) (by decide +kernel) rfl rfl (ev_k350 x1 hl_x1 x3)) ?_
  refine ev_go0 (ev_w_istore (M := ev_Mlaw) (pc := 1251) (k := 5) (lv' := [(5, .int (1)), (4, .int (0)), (3, .ref 723), (2, .ref 621), (1, .ref 0), (0, .retAddr 0)]) (by decide +kernel) (by decide +kernel) rfl) ?_
  refine ev_go0 (ev_one_pure (M := ev_Mlaw) (pc := 1253) (i := .aload_n 2) (len := 1) (pc' := 1254) (lv' := [(5, .int (1)), (4, .int (0)), (3, .ref 723), (2, .ref 621), (1, .ref 0), (0, .retAddr 0)]) (st' := [.ref 621]) (by decide +kernel) rfl) ?_
  refine ev_go0 (ev_one_pure (M := ev_Mlaw) (pc := 1254) (i := .aload_n 0) (len := 1) (pc' := 1255) (lv' := [(5, .int (1)), (4, .int (0)), (3, .ref 723), (2, .ref 621), (1, .ref 0), (0, .retAddr 0)]) (st' := [.retAddr 0, .ref 621]) (by decide +kernel) rfl) ?_
  refine ev_go0 (ev_one_pure (M := ev_Mlaw) (pc := 1255) (i := .iload 4) (len := 2) (pc' := 1257) (lv' := [(5, .int (1)), (4, .int (0)), (3, .ref 723), (2, .ref 621), (1, .ref 0), (0, .retAddr 0)]) (st' := [.int (0), .retAddr 0, .ref 621]) (by decide +kernel) rfl) ?_
  refine ev_go0 (ev_w_iconst (M := ev_Mlaw) (pc := 1257) (k := 1) (v := 1) (by decide +kernel) (by decide +kernel)) ?_
  refine ev_go0 (ev_w_iadd (M := ev_Mlaw) (pc := 1258) (v := (1)) (by decide +kernel) (by decide +kernel)) ?_
  refine ev_go0 (ev_w_scr (M := ev_Mlaw) (pc := 1259) (v := x1) (j := 1) (by decide +kernel) (by decide +kernel) (by decide +kernel) e1) ?_
  refine ev_go0 (ev_one_pure (M := ev_Mlaw) (pc := 1260) (i := .aload_n 0) (len := 1) (pc' := 1261) (lv' := [(5, .int (1)), (4, .int (0)), (3, .ref 723), (2, .ref 621), (1, .ref 0), (0, .retAddr 0)]) (st' := [.retAddr 0, .int x1, .ref 621]) (by decide +kernel) rfl) ?_
  refine ev_go0 (ev_one_pure (M := ev_Mlaw) (pc := 1261) (i := .iload 4) (len := 2) (pc' := 1263) (lv' := [(5, .int (1)), (4, .int (0)), (3, .ref 723), (2, .ref 621), (1, .ref 0), (0, .retAddr 0)]) (st' := [.int (0), .retAddr 0, .int x1, .ref 621]) (by decide +kernel) rfl) ?_
  refine ev_go0 (ev_w_iconst (M := ev_Mlaw) (pc := 1263) (k := 2) (v := 2) (by decide +kernel) (by decide +kernel)) ?_
  refine ev_go0 (ev_w_iadd (M := ev_Mlaw) (pc := 1264) (v := (2)) (by decide +kernel) (by decide +kernel)) ?_
  refine ev_go0 (ev_w_scr (M := ev_Mlaw) (pc := 1265) (v := (2)) (j := 2) (by decide +kernel) (by decide +kernel) (by decide +kernel) e2) ?_
  refine ev_go0 (ev_one_pure (M := ev_Mlaw) (pc := 1266) (i := .aload_n 0) (len := 1) (pc' := 1267) (lv' := [(5, .int (1)), (4, .int (0)), (3, .ref 723), (2, .ref 621), (1, .ref 0), (0, .retAddr 0)]) (st' := [.retAddr 0, .int (2), .int x1, .ref 621]) (by decide +kernel) rfl) ?_
  refine ev_go0 (ev_one_pure (M := ev_Mlaw) (pc := 1267) (i := .iload 4) (len := 2) (pc' := 1269) (lv' := [(5, .int (1)), (4, .int (0)), (3, .ref 723), (2, .ref 621), (1, .ref 0), (0, .retAddr 0)]) (st' := [.int (0), .retAddr 0, .int (2), .int x1, .ref 621]) (by decide +kernel) rfl) ?_
  refine ev_go0 (ev_w_iconst (M := ev_Mlaw) (pc := 1269) (k := 3) (v := 3) (by decide +kernel) (by decide +kernel)) ?_
  refine ev_go0 (ev_w_iadd (M := ev_Mlaw) (pc := 1270) (v := (3)) (by decide +kernel) (by decide +kernel)) ?_
  refine ev_go0 (ev_w_scr (M := ev_Mlaw) (pc := 1271) (v := x3) (j := 3) (by decide +kernel) (by decide +kernel) (by decide +kernel) e3) ?_
  refine ev_go0 (ev_p_virt (M := ev_Mlaw) (pc := 1272) (x := 187) (mi := 335) (na := 3) (by decide +kernel) (by decide +kernel) (by decide +kernel) (by decide +kernel) rfl rfl (ev_recv_of ev_fH621) (ev_k351 x1 hl_x1 x3)) ?_
  refine ev_go0 (ev_w_istore (M := ev_Mlaw) (pc := 1275) (k := 6) (lv' := [(6, .int (0)), (5, .int (1)), (4, .int (0)), (3, .ref 723), (2, .ref 621), (1, .ref 0), (0, .retAddr 0)]) (by decide +kernel) (by decide +kernel) rfl) ?_
  refine ev_go0 (ev_one_pure (M := ev_Mlaw) (pc := 1277) (i := .aload_n 2) (len := 1) (pc' := 1278) (lv' := [(6, .int (0)), (5, .int (1)), (4, .int (0)), (3, .ref 723), (2, .ref 621), (1, .ref 0), (0, .retAddr 0)]) (st' := [.ref 621]) (by decide +kernel) rfl) ?_
  refine ev_go0 (ev_p_virt (M := ev_Mlaw) (pc := 1278) (x := 131) (mi := 220) (na := 0) (by decide +kernel) (by decide +kernel) (by decide +kernel) (by decide +kernel) rfl rfl (ev_recv_of (ev_hself ev_fH621)) ev_k26) ?_
  refine ev_go0 (ev_one_pure (M := ev_Mlaw) (pc := 1281) (i := .iload 5) (len := 2) (pc' := 1283) (lv' := [(6, .int (0)), (5, .int (1)), (4, .int (0)), (3, .ref 723), (2, .ref 621), (1, .ref 0), (0, .retAddr 0)]) (st' := [.int (1), .int (1)]) (by decide +kernel) rfl) ?_
  refine ev_go0 (ev_w_icmp (M := ev_Mlaw) (pc := 1283) (q := .eq) (o := 5) (b := true) (t := 1288) (by decide +kernel) (by decide +kernel) rfl) ?_
  refine ev_go0 (ev_one_pure (M := ev_Mlaw) (pc := 1288) (i := .iload 5) (len := 2) (pc' := 1290) (lv' := [(6, .int (0)), (5, .int (1)), (4, .int (0)), (3, .ref 723), (2, .ref 621), (1, .ref 0), (0, .retAddr 0)]) (st' := [.int (1)]) (by decide +kernel) rfl) ?_
  refine ev_go0 (ev_w_if (M := ev_Mlaw) (pc := 1290) (q := .ne) (o := 15) (b := true) (t := 1305) (by decide +kernel) (by decide +kernel) rfl) ?_
  refine ev_go0 (ev_one_pure (M := ev_Mlaw) (pc := 1305) (i := .goto 967) (len := 3) (pc' := 2272) (lv' := [(6, .int (0)), (5, .int (1)), (4, .int (0)), (3, .ref 723), (2, .ref 621), (1, .ref 0), (0, .retAddr 0)]) (st' := []) (by decide +kernel) rfl) ?_
  rfl
theorem ev_k352 (x1 : Int32) (hl_x1 : (0 : Int) ≤ x1.toInt) (x2 : Int32) (hl_x2 : (3 : Int) ≤ x2.toInt) (x3 : Int32) {n : Nat} : ev_calld 11 182 [.ref 0, .int x1, .int x2, .int x3] ev_H0 n = some (.inr "java/lang/IndexOutOfBoundsException", ev_H0, n, 1, 6) := by
  refine ev_call_thrown (k := 11) (pcR := 31) (x := 160) (lv' := [(5, .null), (4, .null), (0, .ref 0), (1, .int x1), (2, .int x2), (3, .int x3)]) (by decide +kernel) rfl ?_ (by decide +kernel) (by decide +kernel) (by decide +kernel) (by decide) (by decide)
  show ev_stepn _ 11 (0, [(0, .ref 0), (1, .int x1), (2, .int x2), (3, .int x3)], [], _, _, 0, 0) = _
  refine ev_go0 (ev_one_pure (M := (ev_Mof 182)) (pc := 0) (i := .aload_n 0) (len := 1) (pc' := 1) (lv' := [(0, .ref 0), (1, .int x1), (2, .int x2), (3, .int x3)]) (st' := [.ref 0]) (by decide +kernel) rfl) ?_
  refine ev_go0 (ev_one_pure (M := (ev_Mof 182)) (pc := 1) (i := .iload_n 1) (len := 1) (pc' := 2) (lv' := [(0, .ref 0), (1, .int x1), (2, .int x2), (3, .int x3)]) (st' := [.int x1, .ref 0]) (by decide +kernel) rfl) ?_
  refine ev_go0 (ev_p_virt (M := (ev_Mof 182)) (pc := 2) (x := 156) (mi := 200) (na := 1) (by decide +kernel) (by decide +kernel) (by decide +kernel) (by decide +kernel) rfl rfl (ev_recv_of ev_fH0) (ev_k9 x1 hl_x1)) ?_
  refine ev_go0 (ev_w_astore (M := (ev_Mof 182)) (pc := 5) (k := 4) (lv' := [(4, .null), (0, .ref 0), (1, .int x1), (2, .int x2), (3, .int x3)]) (by decide +kernel) (by decide +kernel) (Or.inr (Or.inl rfl)) rfl) ?_
  refine ev_go0 (ev_one_pure (M := (ev_Mof 182)) (pc := 7) (i := .aload_n 0) (len := 1) (pc' := 8) (lv' := [(4, .null), (0, .ref 0), (1, .int x1), (2, .int x2), (3, .int x3)]) (st' := [.ref 0]) (by decide +kernel) rfl) ?_
  refine ev_go0 (ev_p_getf (M := (ev_Mof 182)) (pc := 8) (x := 48) (ci := 12) (f := 8) (fin := 1) (v := .ref 254) (by decide +kernel) (by decide +kernel) ev_fH0 rfl) ?_
  refine ev_go0 (ev_one_pure (M := (ev_Mof 182)) (pc := 11) (i := .iload_n 2) (len := 1) (pc' := 12) (lv' := [(4, .null), (0, .ref 0), (1, .int x1), (2, .int x2), (3, .int x3)]) (st' := [.int x2, .ref 254]) (by decide +kernel) rfl) ?_
  refine ev_go0 (ev_p_virt (M := (ev_Mof 182)) (pc := 12) (x := 221) (mi := 1) (na := 1) (by decide +kernel) (by decide +kernel) (by decide +kernel) (by decide +kernel) rfl rfl (ev_recv_of ev_fH254) (ev_k246 x2 hl_x2)) ?_
  refine ev_go0 (ev_w_astore (M := (ev_Mof 182)) (pc := 15) (k := 5) (lv' := [(5, .null), (4, .null), (0, .ref 0), (1, .int x1), (2, .int x2), (3, .int x3)]) (by decide +kernel) (by decide +kernel) (Or.inr (Or.inl rfl)) rfl) ?_
  refine ev_go0 (ev_one_pure (M := (ev_Mof 182)) (pc := 17) (i := .aload 4) (len := 2) (pc' := 19) (lv' := [(5, .null), (4, .null), (0, .ref 0), (1, .int x1), (2, .int x2), (3, .int x3)]) (st' := [.null]) (by decide +kernel) rfl) ?_
  refine ev_go0 (ev_w_ifnull (M := (ev_Mof 182)) (pc := 19) (o := 12) (t := 31) (by decide +kernel) (Or.inl ⟨rfl, rfl⟩)) ?_
  rfl
theorem ev_k353 (x1 : Int32) (hl_x1 : (0 : Int) ≤ x1.toInt) (x2 : Int32) (hl_x2 : (3 : Int) ≤ x2.toInt) (x3 : Int32) {n : Nat} : ev_calld 12 379 [.ref 0, .int x1, .int x2, .int x3, .ref 723] ev_H0 n = some (.inl (some (.int (1))), ev_H0, n, 1, 6) := by
  refine ev_call_int (k := 9) (pcR := 18) (lv' := [(5, .retAddr 1), (0, .ref 0), (1, .int x1), (2, .int x2), (3, .int x3), (4, .ref 723)]) (v := (1)) (ty := .int) (by decide +kernel) rfl ?_ (by decide +kernel) (by decide +kernel) (by decide +kernel) (by decide)
  show ev_stepn _ 9 (0, [(0, .ref 0), (1, .int x1), (2, .int x2), (3, .int x3), (4, .ref 723)], [], _, _, 0, 0) = _
  refine ev_go0 (ev_one_pure (M := (ev_Mof 379)) (pc := 0) (i := .aload 4) (len := 2) (pc' := 2) (lv' := [(0, .ref 0), (1, .int x1), (2, .int x2), (3, .int x3), (4, .ref 723)]) (st' := [.ref 723]) (by decide +kernel) rfl) ?_
  refine ev_go0 (ev_w_iconst (M := (ev_Mof 379)) (pc := 2) (k := 0) (v := 0) (by decide +kernel) (by decide +kernel)) ?_
  refine ev_go0 (ev_one_pure (M := (ev_Mof 379)) (pc := 3) (i := .aload_n 0) (len := 1) (pc' := 4) (lv' := [(0, .ref 0), (1, .int x1), (2, .int x2), (3, .int x3), (4, .ref 723)]) (st' := [.ref 0, .int (0), .ref 723]) (by decide +kernel) rfl) ?_
  refine ev_go0 (ev_one_pure (M := (ev_Mof 379)) (pc := 4) (i := .iload_n 1) (len := 1) (pc' := 5) (lv' := [(0, .ref 0), (1, .int x1), (2, .int x2), (3, .int x3), (4, .ref 723)]) (st' := [.int x1, .ref 0, .int (0), .ref 723]) (by decide +kernel) rfl) ?_
  refine ev_go0 (ev_one_pure (M := (ev_Mof 379)) (pc := 5) (i := .iload_n 2) (len := 1) (pc' := 6) (lv' := [(0, .ref 0), (1, .int x1), (2, .int x2), (3, .int x3), (4, .ref 723)]) (st' := [.int x2, .int x1, .ref 0, .int (0), .ref 723]) (by decide +kernel) rfl) ?_
  refine ev_go0 (ev_one_pure (M := (ev_Mof 379)) (pc := 6) (i := .iload_n 3) (len := 1) (pc' := 7) (lv' := [(0, .ref 0), (1, .int x1), (2, .int x2), (3, .int x3), (4, .ref 723)]) (st' := [.int x3, .int x2, .int x1, .ref 0, .int (0), .ref 723]) (by decide +kernel) rfl) ?_
  refine ev_go (ev_p_virtX (M := (ev_Mof 379)) (pc := 7) (x := 67) (t := 15) (mi := 182) (na := 3) (by decide +kernel) (by decide +kernel) (by decide +kernel) (by decide +kernel) rfl rfl (ev_recv_of ev_fH0) (ev_k352 x1 hl_x1 x2 hl_x2 x3) (by decide +kernel)) ?_
  refine ev_go0 (ev_w_astore (M := (ev_Mof 379)) (pc := 15) (k := 5) (lv' := [(5, .retAddr 1), (0, .ref 0), (1, .int x1), (2, .int x2), (3, .int x3), (4, .ref 723)]) (by decide +kernel) (by decide +kernel) (Or.inr (Or.inr ⟨_, rfl⟩)) rfl) ?_
  refine ev_go0 (ev_w_iconst (M := (ev_Mof 379)) (pc := 17) (k := 1) (v := 1) (by decide +kernel) (by decide +kernel)) ?_
  rfl
theorem ev_k354 (x1 : Int32) (hl_x1 : (0 : Int) ≤ x1.toInt) (x2 : Int32) (hl_x2 : (3 : Int) ≤ x2.toInt) (x3 : Int32) {n : Nat} : ev_calld 12 335 [.ref 621, .int x1, .int x2, .int x3] ev_H0 n = some (.inl (some (.int (0))), (ev_H0.set 621 (.inr (13, (ev_F621.set 0 (.int (1)))))), n, 0, 0) := by
  refine ev_call_int (k := 11) (pcR := 37) (lv' := [(0, .ref 621), (1, .int x1), (2, .int x2), (3, .int x3)]) (v := (0)) (ty := .int) (by decide +kernel) rfl ?_ (by decide +kernel) (by decide +kernel) (by decide +kernel) (by decide)
  show ev_stepn _ 11 (0, [(0, .ref 621), (1, .int x1), (2, .int x2), (3, .int x3)], [], _, _, 0, 0) = _
  refine ev_go0 (ev_one_pure (M := (ev_Mof 335)) (pc := 0) (i := .aload_n 0) (len := 1) (pc' := 1) (lv' := [(0, .ref 621), (1, .int x1), (2, .int x2), (3, .int x3)]) (st' := [.ref 621]) (by decide +kernel) rfl) ?_
  refine ev_go0 (ev_one_pure (M := (ev_Mof 335)) (pc := 1) (i := .aload_n 0) (len := 1) (pc' := 2) (lv' := [(0, .ref 621), (1, .int x1), (2, .int x2), (3, .int x3)]) (st' := [.ref 621, .ref 621]) (by decide +kernel) rfl) ?_
  refine ev_go0 (ev_one_pure (M := (ev_Mof 335)) (pc := 2) (i := .iload_n 1) (len := 1) (pc' := 3) (lv' := [(0, .ref 621), (1, .int x1), (2, .int x2), (3, .int x3)]) (st' := [.int x1, .ref 621, .ref 621]) (by decide +kernel) rfl) ?_
  refine ev_go0 (ev_p_virt (M := (ev_Mof 335)) (pc := 3) (x := 531) (mi := 273) (na := 1) (by decide +kernel) (by decide +kernel) (by decide +kernel) (by decide +kernel) rfl rfl (ev_recv_of ev_fH621) (ev_k30 x1 hl_x1)) ?_
  refine ev_go0 (ev_w_if (M := (ev_Mof 335)) (pc := 6) (q := .eq) (o := 19) (b := true) (t := 25) (by decide +kernel) (by decide +kernel) rfl) ?_
  refine ev_go0 (ev_w_iconst (M := (ev_Mof 335)) (pc := 25) (k := 1) (v := 1) (by decide +kernel) (by decide +kernel)) ?_
  refine ev_go0 (ev_p_putf (M := (ev_Mof 335)) (pc := 26) (x := 321) (ci := 13) (f := 0) (by decide +kernel) (by decide +kernel) ev_fH621 rfl (by decide +kernel)) ?_
  refine ev_go0 (ev_one_pure (M := (ev_Mof 335)) (pc := 29) (i := .aload_n 0) (len := 1) (pc' := 30) (lv' := [(0, .ref 621), (1, .int x1), (2, .int x2), (3, .int x3)]) (st' := [.ref 621]) (by decide +kernel) rfl) ?_
  refine ev_go0 (ev_p_getf (M := (ev_Mof 335)) (pc := 30) (x := 321) (ci := 13) (f := 0) (fin := 0) (v := .int (1)) (by decide +kernel) (by decide +kernel) (ev_hself ev_fH621) rfl) ?_
  refine ev_go0 (ev_w_if (M := (ev_Mof 335)) (pc := 33) (q := .le) (o := 5) (b := false) (t := 36) (by decide +kernel) (by decide +kernel) rfl) ?_
  refine ev_go0 (ev_w_iconst (M := (ev_Mof 335)) (pc := 36) (k := 0) (v := 0) (by decide +kernel) (by decide +kernel)) ?_
  rfl
theorem ev_p1_16_pg (xs : Nat → Int32) (x1 : Int32) (hl_x1 : (0 : Int) ≤ x1.toInt) (x2 : Int32) (hl_x2 : (3 : Int) ≤ x2.toInt) (x3 : Int32) (e1 : xs 1 = x1) (e2 : xs 2 = x2) (e3 : xs 3 = x3) : ev_P1 xs 1228 := by
  refine ⟨44, [(6, .int (0)), (5, .int (1)), (4, .int (0)), (3, .ref 723), (2, .ref 621), (1, .ref 0), (0, .retAddr 0)], (ev_H0.set 621 (.inr (13, (ev_F621.set 0 (.int (1)))))), 724, 725, 3553592, ?_, ⟨rfl, rfl, rfl, rfl⟩, rfl, by decide, by decide⟩
  show ev_stepn _ _ (1228, [(4, .int (0)), (3, .ref 723), (2, .ref 621), (1, .ref 0), (0, .retAddr 0)], [], _, _, _, _) = _
  refine ev_go0 (ev_one_pure (M := ev_Mlaw) (pc := 1228) (i := .aload_n 1) (len := 1) (pc' := 1229) (lv' := [(4, .int (0)), (3, .ref 723), (2, .ref 621), (1, .ref 0), (0, .retAddr 0)]) (st' := [.ref 0]) (by decide +kernel) rfl) ?_
  refine ev_go0 (ev_one_pure (M := ev_Mlaw) (pc := 1229) (i := .aload_n 0) (len := 1) (pc' := 1230) (lv' := [(4, .int (0)), (3, .ref 723), (2, .ref 621), (1, .ref 0), (0, .retAddr 0)]) (st' := [.retAddr 0, .ref 0]) (by decide +kernel) rfl) ?_
  refine ev_go0 (ev_one_pure (M := ev_Mlaw) (pc := 1230) (i := .iload 4) (len := 2) (pc' := 1232) (lv' := [(4, .int (0)), (3, .ref 723), (2, .ref 621), (1, .ref 0), (0, .retAddr 0)]) (st' := [.int (0), .retAddr 0, .ref 0]) (by decide +kernel) rfl) ?_
  refine ev_go0 (ev_w_iconst (M := ev_Mlaw) (pc := 1232) (k := 1) (v := 1) (by decide +kernel) (by decide +kernel)) ?_
  refine ev_go0 (ev_w_iadd (M := ev_Mlaw) (pc := 1233) (v := (1)) (by decide +kernel) (by decide +kernel)) ?_
  refine ev_go0 (ev_w_scr (M := ev_Mlaw) (pc := 1234) (v := x1) (j := 1) (by decide +kernel) (by decide +kernel) (by decide +kernel) e1) ?_
  refine ev_go0 (ev_one_pure (M := ev_Mlaw) (pc := 1235) (i := .aload_n 0) (len := 1) (pc' := 1236) (lv' := [(4, .int (0)), (3, .ref 723), (2, .ref 621), (1, .ref 0), (0, .retAddr 0)]) (st' := [.retAddr 0, .int x1, .ref 0]) (by decide +kernel) rfl) ?_
  refine ev_go0 (ev_one_pure (M := ev_Mlaw) (pc := 1236) (i := .iload 4) (len := 2) (pc' := 1238) (lv' := [(4, .int (0)), (3, .ref 723), (2, .ref 621), (1, .ref 0), (0, .retAddr 0)]) (st' := [.int (0), .retAddr 0, .int x1, .ref 0]) (by decide +kernel) rfl) ?_
  refine ev_go0 (ev_w_iconst (M := ev_Mlaw) (pc := 1238) (k := 2) (v := 2) (by decide +kernel) (by decide +kernel)) ?_
  refine ev_go0 (ev_w_iadd (M := ev_Mlaw) (pc := 1239) (v := (2)) (by decide +kernel) (by decide +kernel)) ?_
  refine ev_go0 (ev_w_scr (M := ev_Mlaw) (pc := 1240) (v := x2) (j := 2) (by decide +kernel) (by decide +kernel) (by decide +kernel) e2) ?_
  refine ev_go0 (ev_one_pure (M := ev_Mlaw) (pc := 1241) (i := .aload_n 0) (len := 1) (pc' := 1242) (lv' := [(4, .int (0)), (3, .ref 723), (2, .ref 621), (1, .ref 0), (0, .retAddr 0)]) (st' := [.retAddr 0, .int x2, .int x1, .ref 0]) (by decide +kernel) rfl) ?_
  refine ev_go0 (ev_one_pure (M := ev_Mlaw) (pc := 1242) (i := .iload 4) (len := 2) (pc' := 1244) (lv' := [(4, .int (0)), (3, .ref 723), (2, .ref 621), (1, .ref 0), (0, .retAddr 0)]) (st' := [.int (0), .retAddr 0, .int x2, .int x1, .ref 0]) (by decide +kernel) rfl) ?_
  refine ev_go0 (ev_w_iconst (M := ev_Mlaw) (pc := 1244) (k := 3) (v := 3) (by decide +kernel) (by decide +kernel)) ?_
  refine ev_go0 (ev_w_iadd (M := ev_Mlaw) (pc := 1245) (v := (3)) (by decide +kernel) (by decide +kernel)) ?_
  refine ev_go0 (ev_w_scr (M := ev_Mlaw) (pc := 1246) (v := x3) (j := 3) (by decide +kernel) (by decide +kernel) (by decide +kernel) e3) ?_
  refine ev_go0 (ev_one_pure (M := ev_Mlaw) (pc := 1247) (i := .aload_n 3) (len := 1) (pc' := 1248) (lv' := [(4, .int (0)), (3, .ref 723), (2, .ref 621), (1, .ref 0), (0, .retAddr 0)]) (st' := [.ref 723, .int x3, .int x2, .int x1, .ref 0]) (by decide +kernel) rfl) ?_
  refine ev_go (ev_w_stat (M := ev_Mlaw) (pc := 1248) (y := 185) (kind := 8) (Or.inr (Or.inr rfl)) (mi := 379) (na := 5) (by decide +kernel) (by decide +kernel) (by decide +kernel) (by decide +kernel) rfl rfl (ev_k353 x1 hl_x1 x2 hl_x2 x3)) ?_
  refine ev_go0 (ev_w_istore (M := ev_Mlaw) (pc := 1251) (k := 5) (lv' := [(5, .int (1)), (4, .int (0)), (3, .ref 723), (2, .ref 621), (1, .ref 0), (0, .retAddr 0)]) (by decide +kernel) (by decide +kernel) rfl) ?_
  refine ev_go0 (ev_one_pure (M := ev_Mlaw) (pc := 1253) (i := .aload_n 2) (len := 1) (pc' := 1254) (lv' := [(5, .int (1)), (4, .int (0)), (3, .ref 723), (2, .ref 621), (1, .ref 0), (0, .retAddr 0)]) (st' := [.ref 621]) (by decide +kernel) rfl) ?_
  refine ev_go0 (ev_one_pure (M := ev_Mlaw) (pc := 1254) (i := .aload_n 0) (len := 1) (pc' := 1255) (lv' := [(5, .int (1)), (4, .int (0)), (3, .ref 723), (2, .ref 621), (1, .ref 0), (0, .retAddr 0)]) (st' := [.retAddr 0, .ref 621]) (by decide +kernel) rfl) ?_
  refine ev_go0 (ev_one_pure (M := ev_Mlaw) (pc := 1255) (i := .iload 4) (len := 2) (pc' := 1257) (lv' := [(5, .int (1)), (4, .int (0)), (3, .ref 723), (2, .ref 621), (1, .ref 0), (0, .retAddr 0)]) (st' := [.int (0), .retAddr 0, .ref 621]) (by decide +kernel) rfl) ?_
  refine ev_go0 (ev_w_iconst (M := ev_Mlaw) (pc := 1257) (k := 1) (v := 1) (by decide +kernel) (by decide +kernel)) ?_
  refine ev_go0 (ev_w_iadd (M := ev_Mlaw) (pc := 1258) (v := (1)) (by decide +kernel) (by decide +kernel)) ?_
  refine ev_go0 (ev_w_scr (M := ev_Mlaw) (pc := 1259) (v := x1) (j := 1) (by decide +kernel) (by decide +kernel) (by decide +kernel) e1) ?_
  refine ev_go0 (ev_one_pure (M := ev_Mlaw) (pc := 1260) (i := .aload_n 0) (len := 1) (pc' := 1261) (lv' := [(5, .int (1)), (4, .int (0)), (3, .ref 723), (2, .ref 621), (1, .ref 0), (0, .retAddr 0)]) (st' := [.retAddr 0, .int x1, .ref 621]) (by decide +kernel) rfl) ?_
  refine ev_go0 (ev_one_pure (M := ev_Mlaw) (pc := 1261) (i := .iload 4) (len := 2) (pc' := 1263) (lv' := [(5, .int (1)), (4, .int (0)), (3, .ref 723), (2, .ref 621), (1, .ref 0), (0, .retAddr 0)]) (st' := [.int (0), .retAddr 0, .int x1, .ref 621]) (by decide +kernel) rfl) ?_
  refine ev_go0 (ev_w_iconst (M := ev_Mlaw) (pc := 1263) (k := 2) (v := 2) (by decide +kernel) (by decide +kernel)) ?_
  refine ev_go0 (ev_w_iadd (M := ev_Mlaw) (pc := 1264) (v := (2)) (by decide +kernel) (by decide +kernel)) ?_
  refine ev_go0 (ev_w_scr (M := ev_Mlaw) (pc := 1265) (v := x2) (j := 2) (by decide +kernel) (by decide +kernel) (by decide +kernel) e2) ?_
  refine ev_go0 (ev_one_pure (M := ev_Mlaw) (pc := 1266) (i := .aload_n 0) (len := 1) (pc' := 1267) (lv' := [(5, .int (1)), (4, .int (0)), (3, .ref 723), (2, .ref 621), (1, .ref 0), (0, .retAddr 0)]) (st' := [.retAddr 0, .int x2, .int x1, .ref 621]) (by decide +kernel) rfl) ?_
  refine ev_go0 (ev_one_pure (M := ev_Mlaw) (pc := 1267) (i := .iload 4) (len := 2) (pc' := 1269) (lv' := [(5, .int (1)), (4, .int (0)), (3, .ref 723), (2, .ref 621), (1, .ref 0), (0, .retAddr 0)]) (st' := [.int (0), .retAddr 0, .int x2, .int x1, .ref 621]) (by decide +kernel) rfl) ?_
  refine ev_go0 (ev_w_iconst (M := ev_Mlaw) (pc := 1269) (k := 3) (v := 3) (by decide +kernel) (by decide +kernel)) ?_
  refine ev_go0 (ev_w_iadd (M := ev_Mlaw) (pc := 1270) (v := (3)) (by decide +kernel) (by decide +kernel)) ?_
  refine ev_go0 (ev_w_scr (M := ev_Mlaw) (pc := 1271) (v := x3) (j := 3) (by decide +kernel) (by decide +kernel) (by decide +kernel) e3) ?_
  refine ev_go0 (ev_p_virt (M := ev_Mlaw) (pc := 1272) (x := 187) (mi := 335) (na := 3) (by decide +kernel) (by decide +kernel) (by decide +kernel) (by decide +kernel) rfl rfl (ev_recv_of ev_fH621) (ev_k354 x1 hl_x1 x2 hl_x2 x3)) ?_
  refine ev_go0 (ev_w_istore (M := ev_Mlaw) (pc := 1275) (k := 6) (lv' := [(6, .int (0)), (5, .int (1)), (4, .int (0)), (3, .ref 723), (2, .ref 621), (1, .ref 0), (0, .retAddr 0)]) (by decide +kernel) (by decide +kernel) rfl) ?_
  refine ev_go0 (ev_one_pure (M := ev_Mlaw) (pc := 1277) (i := .aload_n 2) (len := 1) (pc' := 1278) (lv' := [(6, .int (0)), (5, .int (1)), (4, .int (0)), (3, .ref 723), (2, .ref 621), (1, .ref 0), (0, .retAddr 0)]) (st' := [.ref 621]) (by decide +kernel) rfl) ?_
  refine ev_go0 (ev_p_virt (M := ev_Mlaw) (pc := 1278) (x := 131) (mi := 220) (na := 0) (by decide +kernel) (by decide +kernel) (by decide +kernel) (by decide +kernel) rfl rfl (ev_recv_of (ev_hself ev_fH621)) ev_k26) ?_
  refine ev_go0 (ev_one_pure (M := ev_Mlaw) (pc := 1281) (i := .iload 5) (len := 2) (pc' := 1283) (lv' := [(6, .int (0)), (5, .int (1)), (4, .int (0)), (3, .ref 723), (2, .ref 621), (1, .ref 0), (0, .retAddr 0)]) (st' := [.int (1), .int (1)]) (by decide +kernel) rfl) ?_
  refine ev_go0 (ev_w_icmp (M := ev_Mlaw) (pc := 1283) (q := .eq) (o := 5) (b := true) (t := 1288) (by decide +kernel) (by decide +kernel) rfl) ?_
  refine ev_go0 (ev_one_pure (M := ev_Mlaw) (pc := 1288) (i := .iload 5) (len := 2) (pc' := 1290) (lv' := [(6, .int (0)), (5, .int (1)), (4, .int (0)), (3, .ref 723), (2, .ref 621), (1, .ref 0), (0, .retAddr 0)]) (st' := [.int (1)]) (by decide +kernel) rfl) ?_
  refine ev_go0 (ev_w_if (M := ev_Mlaw) (pc := 1290) (q := .ne) (o := 15) (b := true) (t := 1305) (by decide +kernel) (by decide +kernel) rfl) ?_
  refine ev_go0 (ev_one_pure (M := ev_Mlaw) (pc := 1305) (i := .goto 967) (len := 3) (pc' := 2272) (lv' := [(6, .int (0)), (5, .int (1)), (4, .int (0)), (3, .ref 723), (2, .ref 621), (1, .ref 0), (0, .retAddr 0)]) (st' := []) (by decide +kernel) rfl) ?_
  rfl
theorem ev_p1arm16 (xs : Nat → Int32) : ev_P1 xs 1228 := by
  rcases ev_split2 (xs 1) with h1 | h1
  · skip
    rcases ev_split5 (xs 2) with h2 | h2 | h2 | h2 | h2
    · skip
      exact ev_p1_16_nn xs (xs 1) h1 (xs 2) h2 (xs 3) rfl rfl rfl
    · skip
      exact ev_p1_16_n0 xs (xs 1) h1 (xs 3) rfl h2 rfl
    · skip
      exact ev_p1_16_n1 xs (xs 1) h1 (xs 3) rfl h2 rfl
    · skip
      exact ev_p1_16_n2 xs (xs 1) h1 (xs 3) rfl h2 rfl
    · skip
      exact ev_p1_16_ng xs (xs 1) h1 (xs 2) h2 (xs 3) rfl rfl rfl
  · skip
    rcases ev_split5 (xs 2) with h2 | h2 | h2 | h2 | h2
    · skip
      exact ev_p1_16_pn xs (xs 1) h1 (xs 2) h2 (xs 3) rfl rfl rfl
    · skip
      exact ev_p1_16_p0 xs (xs 1) h1 (xs 3) rfl h2 rfl
    · skip
      exact ev_p1_16_p1 xs (xs 1) h1 (xs 3) rfl h2 rfl
    · skip
      exact ev_p1_16_p2 xs (xs 1) h1 (xs 3) rfl h2 rfl
    · skip
      exact ev_p1_16_pg xs (xs 1) h1 (xs 2) h2 (xs 3) rfl rfl rfl
theorem ev_k355 (x1 : Int32) (hu_x1 : x1.toInt ≤ (-1 : Int)) {n : Nat} : ev_calld 10 1 [.ref 254, .int x1] ev_H0 n = some (.inl (some (.null)), ev_H0, n, 0, 0) := by
  refine ev_call_ref (k := 3) (pcR := 19) (lv' := [(0, .ref 254), (1, .int x1)]) (v := .null) (C := "MendBench$Text") (by decide +kernel) rfl ?_ (by decide +kernel) (by decide +kernel) rfl (by decide)
  show ev_stepn _ 3 (0, [(0, .ref 254), (1, .int x1)], [], _, _, 0, 0) = _
  refine ev_go0 (ev_one_pure (M := (ev_Mof 1)) (pc := 0) (i := .iload_n 1) (len := 1) (pc' := 1) (lv' := [(0, .ref 254), (1, .int x1)]) (st' := [.int x1]) (by decide +kernel) rfl) ?_
  refine ev_go0 (ev_w_if (M := (ev_Mof 1)) (pc := 1) (q := .lt) (o := 17) (b := true) (t := 18) (by decide +kernel) (ev_c_lt1 hu_x1 (by decide +kernel)) rfl) ?_
  refine ev_go0 (ev_one_pure (M := (ev_Mof 1)) (pc := 18) (i := .aconst_null) (len := 1) (pc' := 19) (lv' := [(0, .ref 254), (1, .int x1)]) (st' := [.null]) (by decide +kernel) rfl) ?_
  rfl
theorem ev_k356 (x1 : Int32) (hu_x1 : x1.toInt ≤ (-1 : Int)) {n : Nat} : ev_calld 11 184 [.ref 0, .int x1] ev_H0 n = some (.inr "java/lang/IndexOutOfBoundsException", ev_H0, n, 1, 6) := by
  refine ev_call_thrown (k := 7) (pcR := 13) (x := 160) (lv' := [(2, .null), (0, .ref 0), (1, .int x1)]) (by decide +kernel) rfl ?_ (by decide +kernel) (by decide +kernel) (by decide +kernel) (by decide) (by decide)
  show ev_stepn _ 7 (0, [(0, .ref 0), (1, .int x1)], [], _, _, 0, 0) = _
  refine ev_go0 (ev_one_pure (M := (ev_Mof 184)) (pc := 0) (i := .aload_n 0) (len := 1) (pc' := 1) (lv' := [(0, .ref 0), (1, .int x1)]) (st' := [.ref 0]) (by decide +kernel) rfl) ?_
  refine ev_go0 (ev_p_getf (M := (ev_Mof 184)) (pc := 1) (x := 48) (ci := 12) (f := 8) (fin := 1) (v := .ref 254) (by decide +kernel) (by decide +kernel) ev_fH0 rfl) ?_
  refine ev_go0 (ev_one_pure (M := (ev_Mof 184)) (pc := 4) (i := .iload_n 1) (len := 1) (pc' := 5) (lv' := [(0, .ref 0), (1, .int x1)]) (st' := [.int x1, .ref 254]) (by decide +kernel) rfl) ?_
  refine ev_go0 (ev_p_virt (M := (ev_Mof 184)) (pc := 5) (x := 221) (mi := 1) (na := 1) (by decide +kernel) (by decide +kernel) (by decide +kernel) (by decide +kernel) rfl rfl (ev_recv_of ev_fH254) (ev_k355 x1 hu_x1)) ?_
  refine ev_go0 (ev_w_astore_n (M := (ev_Mof 184)) (pc := 8) (k := 2) (lv' := [(2, .null), (0, .ref 0), (1, .int x1)]) (by decide +kernel) (by decide +kernel) (Or.inr (Or.inl rfl)) rfl) ?_
  refine ev_go0 (ev_one_pure (M := (ev_Mof 184)) (pc := 9) (i := .aload_n 2) (len := 1) (pc' := 10) (lv' := [(2, .null), (0, .ref 0), (1, .int x1)]) (st' := [.null]) (by decide +kernel) rfl) ?_
  refine ev_go0 (ev_w_ifnonnull (M := (ev_Mof 184)) (pc := 10) (o := 13) (t := 13) (by decide +kernel) (Or.inr ⟨rfl, rfl⟩)) ?_
  rfl
theorem ev_k357 (x1 : Int32) (hu_x1 : x1.toInt ≤ (-1 : Int)) {n : Nat} : ev_calld 12 381 [.ref 0, .int x1, .ref 723] ev_H0 n = some (.inl (some (.int (1))), ev_H0, n, 1, 6) := by
  refine ev_call_int (k := 7) (pcR := 14) (lv' := [(3, .retAddr 1), (0, .ref 0), (1, .int x1), (2, .ref 723)]) (v := (1)) (ty := .int) (by decide +kernel) rfl ?_ (by decide +kernel) (by decide +kernel) (by decide +kernel) (by decide)
  show ev_stepn _ 7 (0, [(0, .ref 0), (1, .int x1), (2, .ref 723)], [], _, _, 0, 0) = _
  refine ev_go0 (ev_one_pure (M := (ev_Mof 381)) (pc := 0) (i := .aload_n 2) (len := 1) (pc' := 1) (lv' := [(0, .ref 0), (1, .int x1), (2, .ref 723)]) (st' := [.ref 723]) (by decide +kernel) rfl) ?_
  refine ev_go0 (ev_w_iconst (M := (ev_Mof 381)) (pc := 1) (k := 0) (v := 0) (by decide +kernel) (by decide +kernel)) ?_
  refine ev_go0 (ev_one_pure (M := (ev_Mof 381)) (pc := 2) (i := .aload_n 0) (len := 1) (pc' := 3) (lv' := [(0, .ref 0), (1, .int x1), (2, .ref 723)]) (st' := [.ref 0, .int (0), .ref 723]) (by decide +kernel) rfl) ?_
  refine ev_go0 (ev_one_pure (M := (ev_Mof 381)) (pc := 3) (i := .iload_n 1) (len := 1) (pc' := 4) (lv' := [(0, .ref 0), (1, .int x1), (2, .ref 723)]) (st' := [.int x1, .ref 0, .int (0), .ref 723]) (by decide +kernel) rfl) ?_
  refine ev_go (ev_p_virtX (M := (ev_Mof 381)) (pc := 4) (x := 73) (t := 12) (mi := 184) (na := 1) (by decide +kernel) (by decide +kernel) (by decide +kernel) (by decide +kernel) rfl rfl (ev_recv_of ev_fH0) (ev_k356 x1 hu_x1) (by decide +kernel)) ?_
  refine ev_go0 (ev_w_astore_n (M := (ev_Mof 381)) (pc := 12) (k := 3) (lv' := [(3, .retAddr 1), (0, .ref 0), (1, .int x1), (2, .ref 723)]) (by decide +kernel) (by decide +kernel) (Or.inr (Or.inr ⟨_, rfl⟩)) rfl) ?_
  refine ev_go0 (ev_w_iconst (M := (ev_Mof 381)) (pc := 13) (k := 1) (v := 1) (by decide +kernel) (by decide +kernel)) ?_
  rfl
theorem ev_k358 (x1 : Int32) (hu_x1 : x1.toInt ≤ (-1 : Int)) {n : Nat} : ev_calld 10 222 [.int x1, .int (0), .int (2)] (ev_H0.set 621 (.inr (13, (ev_F621.set 0 (.int (0)))))) n = some (.inl (some (.int (0))), (ev_H0.set 621 (.inr (13, (ev_F621.set 0 (.int (0)))))), n, 0, 0) := by
  refine ev_call_int (k := 4) (pcR := 15) (lv' := [(0, .int x1), (1, .int (0)), (2, .int (2))]) (v := (0)) (ty := .boolean) (by decide +kernel) rfl ?_ (by decide +kernel) (by decide +kernel) (by decide +kernel) (by decide)
  show ev_stepn _ 4 (0, [(0, .int x1), (1, .int (0)), (2, .int (2))], [], _, _, 0, 0) = _
  refine ev_go0 (ev_one_pure (M := (ev_Mof 222)) (pc := 0) (i := .iload_n 0) (len := 1) (pc' := 1) (lv' := [(0, .int x1), (1, .int (0)), (2, .int (2))]) (st' := [.int x1]) (by decide +kernel) rfl) ?_
  refine ev_go0 (ev_one_pure (M := (ev_Mof 222)) (pc := 1) (i := .iload_n 1) (len := 1) (pc' := 2) (lv' := [(0, .int x1), (1, .int (0)), (2, .int (2))]) (st' := [.int (0), .int x1]) (by decide +kernel) rfl) ?_
  refine ev_go0 (ev_w_icmp (M := (ev_Mof 222)) (pc := 2) (q := .lt) (o := 12) (b := true) (t := 14) (by decide +kernel) (ev_c_lt1 hu_x1 (by decide +kernel)) rfl) ?_
  refine ev_go0 (ev_w_iconst (M := (ev_Mof 222)) (pc := 14) (k := 0) (v := 0) (by decide +kernel) (by decide +kernel)) ?_
  rfl
theorem ev_k359 (x1 : Int32) (hu_x1 : x1.toInt ≤ (-1 : Int)) {n : Nat} : ev_calld 11 325 [.ref 621, .int x1] (ev_H0.set 621 (.inr (13, (ev_F621.set 0 (.int (0)))))) n = some (.inl (some (.int (0))), (ev_H0.set 621 (.inr (13, (ev_F621.set 0 (.int (0)))))), n, 0, 0) := by
  refine ev_call_int (k := 4) (pcR := 6) (lv' := [(0, .ref 621), (1, .int x1)]) (v := (0)) (ty := .boolean) (by decide +kernel) rfl ?_ (by decide +kernel) (by decide +kernel) (by decide +kernel) (by decide)
  show ev_stepn _ 4 (0, [(0, .ref 621), (1, .int x1)], [], _, _, 0, 0) = _
  refine ev_go0 (ev_one_pure (M := (ev_Mof 325)) (pc := 0) (i := .iload_n 1) (len := 1) (pc' := 1) (lv' := [(0, .ref 621), (1, .int x1)]) (st' := [.int x1]) (by decide +kernel) rfl) ?_
  refine ev_go0 (ev_w_iconst (M := (ev_Mof 325)) (pc := 1) (k := 0) (v := 0) (by decide +kernel) (by decide +kernel)) ?_
  refine ev_go0 (ev_w_iconst (M := (ev_Mof 325)) (pc := 2) (k := 2) (v := 2) (by decide +kernel) (by decide +kernel)) ?_
  refine ev_go0 (ev_w_stat (M := (ev_Mof 325)) (pc := 3) (y := 325) (kind := 2) (Or.inl rfl) (mi := 222) (na := 3) (by decide +kernel) (by decide +kernel) (by decide +kernel) (by decide +kernel) rfl rfl (ev_k358 x1 hu_x1)) ?_
  rfl
theorem ev_k360 (x1 : Int32) (hu_x1 : x1.toInt ≤ (-1 : Int)) {n : Nat} : ev_calld 12 347 [.ref 621, .int x1] ev_H0 n = some (.inl (some (.int (0))), ((ev_H0.set 621 (.inr (13, (ev_F621.set 0 (.int (0)))))).set 621 (.inr (13, ((ev_F621.set 0 (.int (0))).set 0 (.int (1)))))), n, 0, 0) := by
  refine ev_call_int (k := 10) (pcR := 27) (lv' := [(0, .ref 621), (1, .int x1)]) (v := (0)) (ty := .int) (by decide +kernel) rfl ?_ (by decide +kernel) (by decide +kernel) (by decide +kernel) (by decide)
  show ev_stepn _ 10 (0, [(0, .ref 621), (1, .int x1)], [], _, _, 0, 0) = _
  refine ev_go0 (ev_one_pure (M := (ev_Mof 347)) (pc := 0) (i := .aload_n 0) (len := 1) (pc' := 1) (lv' := [(0, .ref 621), (1, .int x1)]) (st' := [.ref 621]) (by decide +kernel) rfl) ?_
  refine ev_go0 (ev_w_iconst (M := (ev_Mof 347)) (pc := 1) (k := 0) (v := 0) (by decide +kernel) (by decide +kernel)) ?_
  refine ev_go0 (ev_p_putf (M := (ev_Mof 347)) (pc := 2) (x := 321) (ci := 13) (f := 0) (by decide +kernel) (by decide +kernel) ev_fH621 rfl (by decide +kernel)) ?_
  refine ev_go0 (ev_one_pure (M := (ev_Mof 347)) (pc := 5) (i := .aload_n 0) (len := 1) (pc' := 6) (lv' := [(0, .ref 621), (1, .int x1)]) (st' := [.ref 621]) (by decide +kernel) rfl) ?_
  refine ev_go0 (ev_one_pure (M := (ev_Mof 347)) (pc := 6) (i := .iload_n 1) (len := 1) (pc' := 7) (lv' := [(0, .ref 621), (1, .int x1)]) (st' := [.int x1, .ref 621]) (by decide +kernel) rfl) ?_
  refine ev_go0 (ev_p_virt (M := (ev_Mof 347)) (pc := 7) (x := 716) (mi := 325) (na := 1) (by decide +kernel) (by decide +kernel) (by decide +kernel) (by decide +kernel) rfl rfl (ev_recv_of (ev_hself ev_fH621)) (ev_k359 x1 hu_x1)) ?_
  refine ev_go0 (ev_w_if (M := (ev_Mof 347)) (pc := 10) (q := .eq) (o := 12) (b := true) (t := 22) (by decide +kernel) (by decide +kernel) rfl) ?_
  refine ev_go0 (ev_one_pure (M := (ev_Mof 347)) (pc := 22) (i := .aload_n 0) (len := 1) (pc' := 23) (lv' := [(0, .ref 621), (1, .int x1)]) (st' := [.ref 621]) (by decide +kernel) rfl) ?_
  refine ev_go0 (ev_w_iconst (M := (ev_Mof 347)) (pc := 23) (k := 1) (v := 1) (by decide +kernel) (by decide +kernel)) ?_
  refine ev_go0 (ev_p_virt (M := (ev_Mof 347)) (pc := 24) (x := 342) (mi := 221) (na := 1) (by decide +kernel) (by decide +kernel) (by decide +kernel) (by decide +kernel) rfl rfl (ev_recv_of (ev_hself ev_fH621)) ev_k6) ?_
  rfl
theorem ev_p1_18_n (xs : Nat → Int32) (x1 : Int32) (hu_x1 : x1.toInt ≤ (-1 : Int)) (e1 : xs 1 = x1) : ev_P1 xs 1364 := by
  refine ⟨24, [(6, .int (0)), (5, .int (1)), (4, .int (0)), (3, .ref 723), (2, .ref 621), (1, .ref 0), (0, .retAddr 0)], ((ev_H0.set 621 (.inr (13, (ev_F621.set 0 (.int (0)))))).set 621 (.inr (13, ((ev_F621.set 0 (.int (0))).set 0 (.int (1)))))), 724, 725, 3553592, ?_, ⟨rfl, rfl, rfl, rfl⟩, rfl, by decide, by decide⟩
  show ev_stepn _ _ (1364, [(4, .int (0)), (3, .ref 723), (2, .ref 621), (1, .ref 0), (0, .retAddr 0)], [], _, _, _, _) = _
  refine ev_go0 (ev_one_pure (M := ev_Mlaw) (pc := 1364) (i := .aload_n 1) (len := 1) (pc' := 1365) (lv' := [(4, .int (0)), (3, .ref 723), (2, .ref 621), (1, .ref 0), (0, .retAddr 0)]) (st' := [.ref 0]) (by decide +kernel) rfl) ?_
  refine ev_go0 (ev_one_pure (M := ev_Mlaw) (pc := 1365) (i := .aload_n 0) (len := 1) (pc' := 1366) (lv' := [(4, .int (0)), (3, .ref 723), (2, .ref 621), (1, .ref 0), (0, .retAddr 0)]) (st' := [.retAddr 0, .ref 0]) (by decide +kernel) rfl) ?_
  refine ev_go0 (ev_one_pure (M := ev_Mlaw) (pc := 1366) (i := .iload 4) (len := 2) (pc' := 1368) (lv' := [(4, .int (0)), (3, .ref 723), (2, .ref 621), (1, .ref 0), (0, .retAddr 0)]) (st' := [.int (0), .retAddr 0, .ref 0]) (by decide +kernel) rfl) ?_
  refine ev_go0 (ev_w_iconst (M := ev_Mlaw) (pc := 1368) (k := 1) (v := 1) (by decide +kernel) (by decide +kernel)) ?_
  refine ev_go0 (ev_w_iadd (M := ev_Mlaw) (pc := 1369) (v := (1)) (by decide +kernel) (by decide +kernel)) ?_
  refine ev_go0 (ev_w_scr (M := ev_Mlaw) (pc := 1370) (v := x1) (j := 1) (by decide +kernel) (by decide +kernel) (by decide +kernel) e1) ?_
  refine ev_go0 (ev_one_pure (M := ev_Mlaw) (pc := 1371) (i := .aload_n 3) (len := 1) (pc' := 1372) (lv' := [(4, .int (0)), (3, .ref 723), (2, .ref 621), (1, .ref 0), (0, .retAddr 0)]) (st' := [.ref 723, .int x1, .ref 0]) (by decide +kernel) rfl) ?_
  refine ev_go (ev_w_stat (M := ev_Mlaw) (pc := 1372) (y := 191) (kind := 8) (Or.inr (Or.inr rfl)) (mi := 381) (na := 3) (by decide +kernel) (by decide +kernel) (by decide +kernel) (by decide +kernel) rfl rfl (ev_k357 x1 hu_x1)) ?_
  refine ev_go0 (ev_w_istore (M := ev_Mlaw) (pc := 1375) (k := 5) (lv' := [(5, .int (1)), (4, .int (0)), (3, .ref 723), (2, .ref 621), (1, .ref 0), (0, .retAddr 0)]) (by decide +kernel) (by decide +kernel) rfl) ?_
  refine ev_go0 (ev_one_pure (M := ev_Mlaw) (pc := 1377) (i := .aload_n 2) (len := 1) (pc' := 1378) (lv' := [(5, .int (1)), (4, .int (0)), (3, .ref 723), (2, .ref 621), (1, .ref 0), (0, .retAddr 0)]) (st' := [.ref 621]) (by decide +kernel) rfl) ?_
  refine ev_go0 (ev_one_pure (M := ev_Mlaw) (pc := 1378) (i := .aload_n 0) (len := 1) (pc' := 1379) (lv' := [(5, .int (1)), (4, .int (0)), (3, .ref 723), (2, .ref 621), (1, .ref 0), (0, .retAddr 0)]) (st' := [.retAddr 0, .ref 621]) (by decide +kernel) rfl) ?_
  refine ev_go0 (ev_one_pure (M := ev_Mlaw) (pc := 1379) (i := .iload 4) (len := 2) (pc' := 1381) (lv' := [(5, .int (1)), (4, .int (0)), (3, .ref 723), (2, .ref 621), (1, .ref 0), (0, .retAddr 0)]) (st' := [.int (0), .retAddr 0, .ref 621]) (by decide +kernel) rfl) ?_
  refine ev_go0 (ev_w_iconst (M := ev_Mlaw) (pc := 1381) (k := 1) (v := 1) (by decide +kernel) (by decide +kernel)) ?_
  refine ev_go0 (ev_w_iadd (M := ev_Mlaw) (pc := 1382) (v := (1)) (by decide +kernel) (by decide +kernel)) ?_
  refine ev_go0 (ev_w_scr (M := ev_Mlaw) (pc := 1383) (v := x1) (j := 1) (by decide +kernel) (by decide +kernel) (by decide +kernel) e1) ?_
  refine ev_go0 (ev_p_virt (M := ev_Mlaw) (pc := 1384) (x := 193) (mi := 347) (na := 1) (by decide +kernel) (by decide +kernel) (by decide +kernel) (by decide +kernel) rfl rfl (ev_recv_of ev_fH621) (ev_k360 x1 hu_x1)) ?_
  refine ev_go0 (ev_w_istore (M := ev_Mlaw) (pc := 1387) (k := 6) (lv' := [(6, .int (0)), (5, .int (1)), (4, .int (0)), (3, .ref 723), (2, .ref 621), (1, .ref 0), (0, .retAddr 0)]) (by decide +kernel) (by decide +kernel) rfl) ?_
  refine ev_go0 (ev_one_pure (M := ev_Mlaw) (pc := 1389) (i := .aload_n 2) (len := 1) (pc' := 1390) (lv' := [(6, .int (0)), (5, .int (1)), (4, .int (0)), (3, .ref 723), (2, .ref 621), (1, .ref 0), (0, .retAddr 0)]) (st' := [.ref 621]) (by decide +kernel) rfl) ?_
  refine ev_go0 (ev_p_virt (M := ev_Mlaw) (pc := 1390) (x := 131) (mi := 220) (na := 0) (by decide +kernel) (by decide +kernel) (by decide +kernel) (by decide +kernel) rfl rfl (ev_recv_of (ev_hself (ev_hself ev_fH621))) ev_k8) ?_
  refine ev_go0 (ev_one_pure (M := ev_Mlaw) (pc := 1393) (i := .iload 5) (len := 2) (pc' := 1395) (lv' := [(6, .int (0)), (5, .int (1)), (4, .int (0)), (3, .ref 723), (2, .ref 621), (1, .ref 0), (0, .retAddr 0)]) (st' := [.int (1), .int (1)]) (by decide +kernel) rfl) ?_
  refine ev_go0 (ev_w_icmp (M := ev_Mlaw) (pc := 1395) (q := .eq) (o := 5) (b := true) (t := 1400) (by decide +kernel) (by decide +kernel) rfl) ?_
  refine ev_go0 (ev_one_pure (M := ev_Mlaw) (pc := 1400) (i := .iload 5) (len := 2) (pc' := 1402) (lv' := [(6, .int (0)), (5, .int (1)), (4, .int (0)), (3, .ref 723), (2, .ref 621), (1, .ref 0), (0, .retAddr 0)]) (st' := [.int (1)]) (by decide +kernel) rfl) ?_
  refine ev_go0 (ev_w_if (M := ev_Mlaw) (pc := 1402) (q := .ne) (o := 15) (b := true) (t := 1417) (by decide +kernel) (by decide +kernel) rfl) ?_
  refine ev_go0 (ev_one_pure (M := ev_Mlaw) (pc := 1417) (i := .goto 855) (len := 3) (pc' := 2272) (lv' := [(6, .int (0)), (5, .int (1)), (4, .int (0)), (3, .ref 723), (2, .ref 621), (1, .ref 0), (0, .retAddr 0)]) (st' := []) (by decide +kernel) rfl) ?_
  rfl
theorem ev_k361 {n : Nat} : ev_calld 11 184 [.ref 0, .int (0)] ev_H0 n = some (.inl (some (.int (0))), ev_H0, n, 0, 0) := by
  refine ev_call_int (k := 9) (pcR := 27) (lv' := [(2, .ref 263), (0, .ref 0), (1, .int (0))]) (v := (0)) (ty := .int) (by decide +kernel) rfl ?_ (by decide +kernel) (by decide +kernel) (by decide +kernel) (by decide)
  show ev_stepn _ 9 (0, [(0, .ref 0), (1, .int (0))], [], _, _, 0, 0) = _
  refine ev_go0 (ev_one_pure (M := (ev_Mof 184)) (pc := 0) (i := .aload_n 0) (len := 1) (pc' := 1) (lv' := [(0, .ref 0), (1, .int (0))]) (st' := [.ref 0]) (by decide +kernel) rfl) ?_
  refine ev_go0 (ev_p_getf (M := (ev_Mof 184)) (pc := 1) (x := 48) (ci := 12) (f := 8) (fin := 1) (v := .ref 254) (by decide +kernel) (by decide +kernel) ev_fH0 rfl) ?_
  refine ev_go0 (ev_one_pure (M := (ev_Mof 184)) (pc := 4) (i := .iload_n 1) (len := 1) (pc' := 5) (lv' := [(0, .ref 0), (1, .int (0))]) (st' := [.int (0), .ref 254]) (by decide +kernel) rfl) ?_
  refine ev_go0 (ev_p_virt (M := (ev_Mof 184)) (pc := 5) (x := 221) (mi := 1) (na := 1) (by decide +kernel) (by decide +kernel) (by decide +kernel) (by decide +kernel) rfl rfl (ev_recv_of ev_fH254) ev_k234) ?_
  refine ev_go0 (ev_w_astore_n (M := (ev_Mof 184)) (pc := 8) (k := 2) (lv' := [(2, .ref 263), (0, .ref 0), (1, .int (0))]) (by decide +kernel) (by decide +kernel) (Or.inl ⟨_, rfl⟩) rfl) ?_
  refine ev_go0 (ev_one_pure (M := (ev_Mof 184)) (pc := 9) (i := .aload_n 2) (len := 1) (pc' := 10) (lv' := [(2, .ref 263), (0, .ref 0), (1, .int (0))]) (st' := [.ref 263]) (by decide +kernel) rfl) ?_
  refine ev_go0 (ev_w_ifnonnull (M := (ev_Mof 184)) (pc := 10) (o := 13) (t := 23) (by decide +kernel) (Or.inl ⟨⟨_, rfl⟩, rfl⟩)) ?_
  refine ev_go0 (ev_one_pure (M := (ev_Mof 184)) (pc := 23) (i := .aload_n 2) (len := 1) (pc' := 24) (lv' := [(2, .ref 263), (0, .ref 0), (1, .int (0))]) (st' := [.ref 263]) (by decide +kernel) rfl) ?_
  refine ev_go0 (ev_p_getf (M := (ev_Mof 184)) (pc := 24) (x := 105) (ci := 10) (f := 1) (fin := 0) (v := .int (0)) (by decide +kernel) (by decide +kernel) ev_fH263 rfl) ?_
  rfl
theorem ev_k362 {n : Nat} : ev_calld 12 381 [.ref 0, .int (0), .ref 723] ev_H0 n = some (.inl (some (.int (0))), (ev_H0.set 723 (.inl (.long, 1, ((0, .long (0)) :: [])))), n, 0, 0) := by
  refine ev_call_int (k := 9) (pcR := 16) (lv' := [(0, .ref 0), (1, .int (0)), (2, .ref 723)]) (v := (0)) (ty := .int) (by decide +kernel) rfl ?_ (by decide +kernel) (by decide +kernel) (by decide +kernel) (by decide)
  show ev_stepn _ 9 (0, [(0, .ref 0), (1, .int (0)), (2, .ref 723)], [], _, _, 0, 0) = _
  refine ev_go0 (ev_one_pure (M := (ev_Mof 381)) (pc := 0) (i := .aload_n 2) (len := 1) (pc' := 1) (lv' := [(0, .ref 0), (1, .int (0)), (2, .ref 723)]) (st' := [.ref 723]) (by decide +kernel) rfl) ?_
  refine ev_go0 (ev_w_iconst (M := (ev_Mof 381)) (pc := 1) (k := 0) (v := 0) (by decide +kernel) (by decide +kernel)) ?_
  refine ev_go0 (ev_one_pure (M := (ev_Mof 381)) (pc := 2) (i := .aload_n 0) (len := 1) (pc' := 3) (lv' := [(0, .ref 0), (1, .int (0)), (2, .ref 723)]) (st' := [.ref 0, .int (0), .ref 723]) (by decide +kernel) rfl) ?_
  refine ev_go0 (ev_one_pure (M := (ev_Mof 381)) (pc := 3) (i := .iload_n 1) (len := 1) (pc' := 4) (lv' := [(0, .ref 0), (1, .int (0)), (2, .ref 723)]) (st' := [.int (0), .ref 0, .int (0), .ref 723]) (by decide +kernel) rfl) ?_
  refine ev_go0 (ev_p_virt (M := (ev_Mof 381)) (pc := 4) (x := 73) (mi := 184) (na := 1) (by decide +kernel) (by decide +kernel) (by decide +kernel) (by decide +kernel) rfl rfl (ev_recv_of ev_fH0) ev_k361) ?_
  refine ev_go0 (ev_w_i2l (M := (ev_Mof 381)) (pc := 7) (v := (0)) (by decide +kernel) (by decide +kernel)) ?_
  refine ev_go0 (ev_w_last (M := (ev_Mof 381)) (pc := 8) (j := 0) (by decide +kernel) ev_fH723 (by decide +kernel) (by decide +kernel)) ?_
  refine ev_go0 (ev_one_pure (M := (ev_Mof 381)) (pc := 9) (i := .goto 6) (len := 3) (pc' := 15) (lv' := [(0, .ref 0), (1, .int (0)), (2, .ref 723)]) (st' := []) (by decide +kernel) rfl) ?_
  refine ev_go0 (ev_w_iconst (M := (ev_Mof 381)) (pc := 15) (k := 0) (v := 0) (by decide +kernel) (by decide +kernel)) ?_
  rfl
theorem ev_k363 {n : Nat} : ev_calld 10 222 [.int (0), .int (0), .int (2)] ((ev_H0.set 723 (.inl (.long, 1, ((0, .long (0)) :: [])))).set 621 (.inr (13, (ev_F621.set 0 (.int (0)))))) n = some (.inl (some (.int (1))), ((ev_H0.set 723 (.inl (.long, 1, ((0, .long (0)) :: [])))).set 621 (.inr (13, (ev_F621.set 0 (.int (0)))))), n, 0, 0) := by
  refine ev_call_int (k := 8) (pcR := 15) (lv' := [(0, .int (0)), (1, .int (0)), (2, .int (2))]) (v := (1)) (ty := .boolean) (by decide +kernel) rfl ?_ (by decide +kernel) (by decide +kernel) (by decide +kernel) (by decide)
  show ev_stepn _ 8 (0, [(0, .int (0)), (1, .int (0)), (2, .int (2))], [], _, _, 0, 0) = _
  refine ev_go0 (ev_one_pure (M := (ev_Mof 222)) (pc := 0) (i := .iload_n 0) (len := 1) (pc' := 1) (lv' := [(0, .int (0)), (1, .int (0)), (2, .int (2))]) (st' := [.int (0)]) (by decide +kernel) rfl) ?_
  refine ev_go0 (ev_one_pure (M := (ev_Mof 222)) (pc := 1) (i := .iload_n 1) (len := 1) (pc' := 2) (lv' := [(0, .int (0)), (1, .int (0)), (2, .int (2))]) (st' := [.int (0), .int (0)]) (by decide +kernel) rfl) ?_
  refine ev_go0 (ev_w_icmp (M := (ev_Mof 222)) (pc := 2) (q := .lt) (o := 12) (b := false) (t := 5) (by decide +kernel) (by decide +kernel) rfl) ?_
  refine ev_go0 (ev_one_pure (M := (ev_Mof 222)) (pc := 5) (i := .iload_n 0) (len := 1) (pc' := 6) (lv' := [(0, .int (0)), (1, .int (0)), (2, .int (2))]) (st' := [.int (0)]) (by decide +kernel) rfl) ?_
  refine ev_go0 (ev_one_pure (M := (ev_Mof 222)) (pc := 6) (i := .iload_n 2) (len := 1) (pc' := 7) (lv' := [(0, .int (0)), (1, .int (0)), (2, .int (2))]) (st' := [.int (2), .int (0)]) (by decide +kernel) rfl) ?_
  refine ev_go0 (ev_w_icmp (M := (ev_Mof 222)) (pc := 7) (q := .gt) (o := 7) (b := false) (t := 10) (by decide +kernel) (by decide +kernel) rfl) ?_
  refine ev_go0 (ev_w_iconst (M := (ev_Mof 222)) (pc := 10) (k := 1) (v := 1) (by decide +kernel) (by decide +kernel)) ?_
  refine ev_go0 (ev_one_pure (M := (ev_Mof 222)) (pc := 11) (i := .goto 4) (len := 3) (pc' := 15) (lv' := [(0, .int (0)), (1, .int (0)), (2, .int (2))]) (st' := [.int (1)]) (by decide +kernel) rfl) ?_
  rfl
theorem ev_k364 {n : Nat} : ev_calld 11 325 [.ref 621, .int (0)] ((ev_H0.set 723 (.inl (.long, 1, ((0, .long (0)) :: [])))).set 621 (.inr (13, (ev_F621.set 0 (.int (0)))))) n = some (.inl (some (.int (1))), ((ev_H0.set 723 (.inl (.long, 1, ((0, .long (0)) :: [])))).set 621 (.inr (13, (ev_F621.set 0 (.int (0)))))), n, 0, 0) := by
  refine ev_call_int (k := 4) (pcR := 6) (lv' := [(0, .ref 621), (1, .int (0))]) (v := (1)) (ty := .boolean) (by decide +kernel) rfl ?_ (by decide +kernel) (by decide +kernel) (by decide +kernel) (by decide)
  show ev_stepn _ 4 (0, [(0, .ref 621), (1, .int (0))], [], _, _, 0, 0) = _
  refine ev_go0 (ev_one_pure (M := (ev_Mof 325)) (pc := 0) (i := .iload_n 1) (len := 1) (pc' := 1) (lv' := [(0, .ref 621), (1, .int (0))]) (st' := [.int (0)]) (by decide +kernel) rfl) ?_
  refine ev_go0 (ev_w_iconst (M := (ev_Mof 325)) (pc := 1) (k := 0) (v := 0) (by decide +kernel) (by decide +kernel)) ?_
  refine ev_go0 (ev_w_iconst (M := (ev_Mof 325)) (pc := 2) (k := 2) (v := 2) (by decide +kernel) (by decide +kernel)) ?_
  refine ev_go0 (ev_w_stat (M := (ev_Mof 325)) (pc := 3) (y := 325) (kind := 2) (Or.inl rfl) (mi := 222) (na := 3) (by decide +kernel) (by decide +kernel) (by decide +kernel) (by decide +kernel) rfl rfl ev_k363) ?_
  rfl
theorem ev_k365 {n : Nat} : ev_calld 12 347 [.ref 621, .int (0)] (ev_H0.set 723 (.inl (.long, 1, ((0, .long (0)) :: [])))) n = some (.inl (some (.int (0))), ((ev_H0.set 723 (.inl (.long, 1, ((0, .long (0)) :: [])))).set 621 (.inr (13, (ev_F621.set 0 (.int (0)))))), n, 0, 0) := by
  refine ev_call_int (k := 12) (pcR := 27) (lv' := [(0, .ref 621), (1, .int (0))]) (v := (0)) (ty := .int) (by decide +kernel) rfl ?_ (by decide +kernel) (by decide +kernel) (by decide +kernel) (by decide)
  show ev_stepn _ 12 (0, [(0, .ref 621), (1, .int (0))], [], _, _, 0, 0) = _
  refine ev_go0 (ev_one_pure (M := (ev_Mof 347)) (pc := 0) (i := .aload_n 0) (len := 1) (pc' := 1) (lv' := [(0, .ref 621), (1, .int (0))]) (st' := [.ref 621]) (by decide +kernel) rfl) ?_
  refine ev_go0 (ev_w_iconst (M := (ev_Mof 347)) (pc := 1) (k := 0) (v := 0) (by decide +kernel) (by decide +kernel)) ?_
  refine ev_go0 (ev_p_putf (M := (ev_Mof 347)) (pc := 2) (x := 321) (ci := 13) (f := 0) (by decide +kernel) (by decide +kernel) (ev_hne (by decide) ev_fH621) rfl (by decide +kernel)) ?_
  refine ev_go0 (ev_one_pure (M := (ev_Mof 347)) (pc := 5) (i := .aload_n 0) (len := 1) (pc' := 6) (lv' := [(0, .ref 621), (1, .int (0))]) (st' := [.ref 621]) (by decide +kernel) rfl) ?_
  refine ev_go0 (ev_one_pure (M := (ev_Mof 347)) (pc := 6) (i := .iload_n 1) (len := 1) (pc' := 7) (lv' := [(0, .ref 621), (1, .int (0))]) (st' := [.int (0), .ref 621]) (by decide +kernel) rfl) ?_
  refine ev_go0 (ev_p_virt (M := (ev_Mof 347)) (pc := 7) (x := 716) (mi := 325) (na := 1) (by decide +kernel) (by decide +kernel) (by decide +kernel) (by decide +kernel) rfl rfl (ev_recv_of (ev_hself (ev_hne (by decide) ev_fH621))) ev_k364) ?_
  refine ev_go0 (ev_w_if (M := (ev_Mof 347)) (pc := 10) (q := .eq) (o := 12) (b := false) (t := 13) (by decide +kernel) (by decide +kernel) rfl) ?_
  refine ev_go0 (ev_one_pure (M := (ev_Mof 347)) (pc := 13) (i := .aload_n 0) (len := 1) (pc' := 14) (lv' := [(0, .ref 621), (1, .int (0))]) (st' := [.ref 621]) (by decide +kernel) rfl) ?_
  refine ev_go0 (ev_p_getf (M := (ev_Mof 347)) (pc := 14) (x := 270) (ci := 13) (f := 119) (fin := 1) (v := .ref 707) (by decide +kernel) (by decide +kernel) (ev_hself (ev_hne (by decide) ev_fH621)) rfl) ?_
  refine ev_go0 (ev_one_pure (M := (ev_Mof 347)) (pc := 17) (i := .iload_n 1) (len := 1) (pc' := 18) (lv' := [(0, .ref 621), (1, .int (0))]) (st' := [.int (0), .ref 707]) (by decide +kernel) rfl) ?_
  refine ev_go0 (ev_w_iald (M := (ev_Mof 347)) (pc := 18) (v := (0)) (by decide +kernel) (ev_hne (by decide) (ev_hne (by decide) ev_fH707)) (by decide +kernel) rfl) ?_
  refine ev_go0 (ev_one_pure (M := (ev_Mof 347)) (pc := 19) (i := .goto 8) (len := 3) (pc' := 27) (lv' := [(0, .ref 621), (1, .int (0))]) (st' := [.int (0)]) (by decide +kernel) rfl) ?_
  rfl
theorem ev_k366 {n : Nat} : ev_calld 12 220 [.ref 621] ((ev_H0.set 723 (.inl (.long, 1, ((0, .long (0)) :: [])))).set 621 (.inr (13, (ev_F621.set 0 (.int (0)))))) n = some (.inl (some (.int (0))), ((ev_H0.set 723 (.inl (.long, 1, ((0, .long (0)) :: [])))).set 621 (.inr (13, (ev_F621.set 0 (.int (0)))))), n, 0, 0) := by
  refine ev_call_int (k := 2) (pcR := 4) (lv' := [(0, .ref 621)]) (v := (0)) (ty := .int) (by decide +kernel) rfl ?_ (by decide +kernel) (by decide +kernel) (by decide +kernel) (by decide)
  show ev_stepn _ 2 (0, [(0, .ref 621)], [], _, _, 0, 0) = _
  refine ev_go0 (ev_one_pure (M := (ev_Mof 220)) (pc := 0) (i := .aload_n 0) (len := 1) (pc' := 1) (lv' := [(0, .ref 621)]) (st' := [.ref 621]) (by decide +kernel) rfl) ?_
  refine ev_go0 (ev_p_getf (M := (ev_Mof 220)) (pc := 1) (x := 321) (ci := 13) (f := 0) (fin := 0) (v := .int (0)) (by decide +kernel) (by decide +kernel) (ev_hself (ev_hne (by decide) ev_fH621)) rfl) ?_
  rfl
theorem ev_p1_18_0 (xs : Nat → Int32) (e1 : xs 1 = (0)) : ev_P1 xs 1364 := by
  refine ⟨31, [(6, .int (0)), (5, .int (0)), (4, .int (0)), (3, .ref 723), (2, .ref 621), (1, .ref 0), (0, .retAddr 0)], ((ev_H0.set 723 (.inl (.long, 1, ((0, .long (0)) :: [])))).set 621 (.inr (13, (ev_F621.set 0 (.int (0)))))), 724, 724, 3553586, ?_, ⟨rfl, rfl, rfl, rfl⟩, rfl, by decide, by decide⟩
  show ev_stepn _ _ (1364, [(4, .int (0)), (3, .ref 723), (2, .ref 621), (1, .ref 0), (0, .retAddr 0)], [], _, _, _, _) = _
  refine ev_go0 (ev_one_pure (M := ev_Mlaw) (pc := 1364) (i := .aload_n 1) (len := 1) (pc' := 1365) (lv' := [(4, .int (0)), (3, .ref 723), (2, .ref 621), (1, .ref 0), (0, .retAddr 0)]) (st' := [.ref 0]) (by decide +kernel) rfl) ?_
  refine ev_go0 (ev_one_pure (M := ev_Mlaw) (pc := 1365) (i := .aload_n 0) (len := 1) (pc' := 1366) (lv' := [(4, .int (0)), (3, .ref 723), (2, .ref 621), (1, .ref 0), (0, .retAddr 0)]) (st' := [.retAddr 0, .ref 0]) (by decide +kernel) rfl) ?_
  refine ev_go0 (ev_one_pure (M := ev_Mlaw) (pc := 1366) (i := .iload 4) (len := 2) (pc' := 1368) (lv' := [(4, .int (0)), (3, .ref 723), (2, .ref 621), (1, .ref 0), (0, .retAddr 0)]) (st' := [.int (0), .retAddr 0, .ref 0]) (by decide +kernel) rfl) ?_
  refine ev_go0 (ev_w_iconst (M := ev_Mlaw) (pc := 1368) (k := 1) (v := 1) (by decide +kernel) (by decide +kernel)) ?_
  refine ev_go0 (ev_w_iadd (M := ev_Mlaw) (pc := 1369) (v := (1)) (by decide +kernel) (by decide +kernel)) ?_
  refine ev_go0 (ev_w_scr (M := ev_Mlaw) (pc := 1370) (v := (0)) (j := 1) (by decide +kernel) (by decide +kernel) (by decide +kernel) e1) ?_
  refine ev_go0 (ev_one_pure (M := ev_Mlaw) (pc := 1371) (i := .aload_n 3) (len := 1) (pc' := 1372) (lv' := [(4, .int (0)), (3, .ref 723), (2, .ref 621), (1, .ref 0), (0, .retAddr 0)]) (st' := [.ref 723, .int (0), .ref 0]) (by decide +kernel) rfl) ?_
  refine ev_go0 (ev_w_stat (M := ev_Mlaw) (pc := 1372) (y := 191) (kind := 8) (Or.inr (Or.inr rfl)) (mi := 381) (na := 3) (by decide +kernel) (by decide +kernel) (by decide +kernel) (by decide +kernel) rfl rfl ev_k362) ?_
  refine ev_go0 (ev_w_istore (M := ev_Mlaw) (pc := 1375) (k := 5) (lv' := [(5, .int (0)), (4, .int (0)), (3, .ref 723), (2, .ref 621), (1, .ref 0), (0, .retAddr 0)]) (by decide +kernel) (by decide +kernel) rfl) ?_
  refine ev_go0 (ev_one_pure (M := ev_Mlaw) (pc := 1377) (i := .aload_n 2) (len := 1) (pc' := 1378) (lv' := [(5, .int (0)), (4, .int (0)), (3, .ref 723), (2, .ref 621), (1, .ref 0), (0, .retAddr 0)]) (st' := [.ref 621]) (by decide +kernel) rfl) ?_
  refine ev_go0 (ev_one_pure (M := ev_Mlaw) (pc := 1378) (i := .aload_n 0) (len := 1) (pc' := 1379) (lv' := [(5, .int (0)), (4, .int (0)), (3, .ref 723), (2, .ref 621), (1, .ref 0), (0, .retAddr 0)]) (st' := [.retAddr 0, .ref 621]) (by decide +kernel) rfl) ?_
  refine ev_go0 (ev_one_pure (M := ev_Mlaw) (pc := 1379) (i := .iload 4) (len := 2) (pc' := 1381) (lv' := [(5, .int (0)), (4, .int (0)), (3, .ref 723), (2, .ref 621), (1, .ref 0), (0, .retAddr 0)]) (st' := [.int (0), .retAddr 0, .ref 621]) (by decide +kernel) rfl) ?_
  refine ev_go0 (ev_w_iconst (M := ev_Mlaw) (pc := 1381) (k := 1) (v := 1) (by decide +kernel) (by decide +kernel)) ?_
  refine ev_go0 (ev_w_iadd (M := ev_Mlaw) (pc := 1382) (v := (1)) (by decide +kernel) (by decide +kernel)) ?_
  refine ev_go0 (ev_w_scr (M := ev_Mlaw) (pc := 1383) (v := (0)) (j := 1) (by decide +kernel) (by decide +kernel) (by decide +kernel) e1) ?_
  refine ev_go0 (ev_p_virt (M := ev_Mlaw) (pc := 1384) (x := 193) (mi := 347) (na := 1) (by decide +kernel) (by decide +kernel) (by decide +kernel) (by decide +kernel) rfl rfl (ev_recv_of (ev_hne (by decide) ev_fH621)) ev_k365) ?_
  refine ev_go0 (ev_w_istore (M := ev_Mlaw) (pc := 1387) (k := 6) (lv' := [(6, .int (0)), (5, .int (0)), (4, .int (0)), (3, .ref 723), (2, .ref 621), (1, .ref 0), (0, .retAddr 0)]) (by decide +kernel) (by decide +kernel) rfl) ?_
  refine ev_go0 (ev_one_pure (M := ev_Mlaw) (pc := 1389) (i := .aload_n 2) (len := 1) (pc' := 1390) (lv' := [(6, .int (0)), (5, .int (0)), (4, .int (0)), (3, .ref 723), (2, .ref 621), (1, .ref 0), (0, .retAddr 0)]) (st' := [.ref 621]) (by decide +kernel) rfl) ?_
  refine ev_go0 (ev_p_virt (M := ev_Mlaw) (pc := 1390) (x := 131) (mi := 220) (na := 0) (by decide +kernel) (by decide +kernel) (by decide +kernel) (by decide +kernel) rfl rfl (ev_recv_of (ev_hself (ev_hne (by decide) ev_fH621))) ev_k366) ?_
  refine ev_go0 (ev_one_pure (M := ev_Mlaw) (pc := 1393) (i := .iload 5) (len := 2) (pc' := 1395) (lv' := [(6, .int (0)), (5, .int (0)), (4, .int (0)), (3, .ref 723), (2, .ref 621), (1, .ref 0), (0, .retAddr 0)]) (st' := [.int (0), .int (0)]) (by decide +kernel) rfl) ?_
  refine ev_go0 (ev_w_icmp (M := ev_Mlaw) (pc := 1395) (q := .eq) (o := 5) (b := true) (t := 1400) (by decide +kernel) (by decide +kernel) rfl) ?_
  refine ev_go0 (ev_one_pure (M := ev_Mlaw) (pc := 1400) (i := .iload 5) (len := 2) (pc' := 1402) (lv' := [(6, .int (0)), (5, .int (0)), (4, .int (0)), (3, .ref 723), (2, .ref 621), (1, .ref 0), (0, .retAddr 0)]) (st' := [.int (0)]) (by decide +kernel) rfl) ?_
  refine ev_go0 (ev_w_if (M := ev_Mlaw) (pc := 1402) (q := .ne) (o := 15) (b := false) (t := 1405) (by decide +kernel) (by decide +kernel) rfl) ?_
  refine ev_go0 (ev_one_pure (M := ev_Mlaw) (pc := 1405) (i := .aload_n 3) (len := 1) (pc' := 1406) (lv' := [(6, .int (0)), (5, .int (0)), (4, .int (0)), (3, .ref 723), (2, .ref 621), (1, .ref 0), (0, .retAddr 0)]) (st' := [.ref 723]) (by decide +kernel) rfl) ?_
  refine ev_go0 (ev_w_iconst (M := ev_Mlaw) (pc := 1406) (k := 0) (v := 0) (by decide +kernel) (by decide +kernel)) ?_
  refine ev_go0 (ev_w_lald (M := ev_Mlaw) (pc := 1407) (v := (0)) (by decide +kernel) (ev_hne (by decide) (ev_hself ev_fH723)) (by decide +kernel) rfl) ?_
  refine ev_go0 (ev_one_pure (M := ev_Mlaw) (pc := 1408) (i := .iload 6) (len := 2) (pc' := 1410) (lv' := [(6, .int (0)), (5, .int (0)), (4, .int (0)), (3, .ref 723), (2, .ref 621), (1, .ref 0), (0, .retAddr 0)]) (st' := [.int (0), .long (0)]) (by decide +kernel) rfl) ?_
  refine ev_go0 (ev_w_i2l (M := ev_Mlaw) (pc := 1410) (v := (0)) (by decide +kernel) (by decide +kernel)) ?_
  refine ev_go0 (ev_w_lcmp (M := ev_Mlaw) (pc := 1411) (v := (0)) (by decide +kernel) (by decide +kernel)) ?_
  refine ev_go0 (ev_w_if (M := ev_Mlaw) (pc := 1412) (q := .eq) (o := 5) (b := true) (t := 1417) (by decide +kernel) (by decide +kernel) rfl) ?_
  refine ev_go0 (ev_one_pure (M := ev_Mlaw) (pc := 1417) (i := .goto 855) (len := 3) (pc' := 2272) (lv' := [(6, .int (0)), (5, .int (0)), (4, .int (0)), (3, .ref 723), (2, .ref 621), (1, .ref 0), (0, .retAddr 0)]) (st' := []) (by decide +kernel) rfl) ?_
  rfl
theorem ev_k367 {n : Nat} : ev_calld 11 184 [.ref 0, .int (1)] ev_H0 n = some (.inl (some (.int (0))), ev_H0, n, 0, 0) := by
  refine ev_call_int (k := 9) (pcR := 27) (lv' := [(2, .ref 265), (0, .ref 0), (1, .int (1))]) (v := (0)) (ty := .int) (by decide +kernel) rfl ?_ (by decide +kernel) (by decide +kernel) (by decide +kernel) (by decide)
  show ev_stepn _ 9 (0, [(0, .ref 0), (1, .int (1))], [], _, _, 0, 0) = _
  refine ev_go0 (ev_one_pure (M := (ev_Mof 184)) (pc := 0) (i := .aload_n 0) (len := 1) (pc' := 1) (lv' := [(0, .ref 0), (1, .int (1))]) (st' := [.ref 0]) (by decide +kernel) rfl) ?_
  refine ev_go0 (ev_p_getf (M := (ev_Mof 184)) (pc := 1) (x := 48) (ci := 12) (f := 8) (fin := 1) (v := .ref 254) (by decide +kernel) (by decide +kernel) ev_fH0 rfl) ?_
  refine ev_go0 (ev_one_pure (M := (ev_Mof 184)) (pc := 4) (i := .iload_n 1) (len := 1) (pc' := 5) (lv' := [(0, .ref 0), (1, .int (1))]) (st' := [.int (1), .ref 254]) (by decide +kernel) rfl) ?_
  refine ev_go0 (ev_p_virt (M := (ev_Mof 184)) (pc := 5) (x := 221) (mi := 1) (na := 1) (by decide +kernel) (by decide +kernel) (by decide +kernel) (by decide +kernel) rfl rfl (ev_recv_of ev_fH254) ev_k238) ?_
  refine ev_go0 (ev_w_astore_n (M := (ev_Mof 184)) (pc := 8) (k := 2) (lv' := [(2, .ref 265), (0, .ref 0), (1, .int (1))]) (by decide +kernel) (by decide +kernel) (Or.inl ⟨_, rfl⟩) rfl) ?_
  refine ev_go0 (ev_one_pure (M := (ev_Mof 184)) (pc := 9) (i := .aload_n 2) (len := 1) (pc' := 10) (lv' := [(2, .ref 265), (0, .ref 0), (1, .int (1))]) (st' := [.ref 265]) (by decide +kernel) rfl) ?_
  refine ev_go0 (ev_w_ifnonnull (M := (ev_Mof 184)) (pc := 10) (o := 13) (t := 23) (by decide +kernel) (Or.inl ⟨⟨_, rfl⟩, rfl⟩)) ?_
  refine ev_go0 (ev_one_pure (M := (ev_Mof 184)) (pc := 23) (i := .aload_n 2) (len := 1) (pc' := 24) (lv' := [(2, .ref 265), (0, .ref 0), (1, .int (1))]) (st' := [.ref 265]) (by decide +kernel) rfl) ?_
  refine ev_go0 (ev_p_getf (M := (ev_Mof 184)) (pc := 24) (x := 105) (ci := 10) (f := 1) (fin := 0) (v := .int (0)) (by decide +kernel) (by decide +kernel) ev_fH265 rfl) ?_
  rfl
theorem ev_k368 {n : Nat} : ev_calld 12 381 [.ref 0, .int (1), .ref 723] ev_H0 n = some (.inl (some (.int (0))), (ev_H0.set 723 (.inl (.long, 1, ((0, .long (0)) :: [])))), n, 0, 0) := by
  refine ev_call_int (k := 9) (pcR := 16) (lv' := [(0, .ref 0), (1, .int (1)), (2, .ref 723)]) (v := (0)) (ty := .int) (by decide +kernel) rfl ?_ (by decide +kernel) (by decide +kernel) (by decide +kernel) (by decide)
  show ev_stepn _ 9 (0, [(0, .ref 0), (1, .int (1)), (2, .ref 723)], [], _, _, 0, 0) = _
  refine ev_go0 (ev_one_pure (M := (ev_Mof 381)) (pc := 0) (i := .aload_n 2) (len := 1) (pc' := 1) (lv' := [(0, .ref 0), (1, .int (1)), (2, .ref 723)]) (st' := [.ref 723]) (by decide +kernel) rfl) ?_
  refine ev_go0 (ev_w_iconst (M := (ev_Mof 381)) (pc := 1) (k := 0) (v := 0) (by decide +kernel) (by decide +kernel)) ?_
  refine ev_go0 (ev_one_pure (M := (ev_Mof 381)) (pc := 2) (i := .aload_n 0) (len := 1) (pc' := 3) (lv' := [(0, .ref 0), (1, .int (1)), (2, .ref 723)]) (st' := [.ref 0, .int (0), .ref 723]) (by decide +kernel) rfl) ?_
  refine ev_go0 (ev_one_pure (M := (ev_Mof 381)) (pc := 3) (i := .iload_n 1) (len := 1) (pc' := 4) (lv' := [(0, .ref 0), (1, .int (1)), (2, .ref 723)]) (st' := [.int (1), .ref 0, .int (0), .ref 723]) (by decide +kernel) rfl) ?_
  refine ev_go0 (ev_p_virt (M := (ev_Mof 381)) (pc := 4) (x := 73) (mi := 184) (na := 1) (by decide +kernel) (by decide +kernel) (by decide +kernel) (by decide +kernel) rfl rfl (ev_recv_of ev_fH0) ev_k367) ?_
  refine ev_go0 (ev_w_i2l (M := (ev_Mof 381)) (pc := 7) (v := (0)) (by decide +kernel) (by decide +kernel)) ?_
  refine ev_go0 (ev_w_last (M := (ev_Mof 381)) (pc := 8) (j := 0) (by decide +kernel) ev_fH723 (by decide +kernel) (by decide +kernel)) ?_
  refine ev_go0 (ev_one_pure (M := (ev_Mof 381)) (pc := 9) (i := .goto 6) (len := 3) (pc' := 15) (lv' := [(0, .ref 0), (1, .int (1)), (2, .ref 723)]) (st' := []) (by decide +kernel) rfl) ?_
  refine ev_go0 (ev_w_iconst (M := (ev_Mof 381)) (pc := 15) (k := 0) (v := 0) (by decide +kernel) (by decide +kernel)) ?_
  rfl
theorem ev_k369 {n : Nat} : ev_calld 10 222 [.int (1), .int (0), .int (2)] ((ev_H0.set 723 (.inl (.long, 1, ((0, .long (0)) :: [])))).set 621 (.inr (13, (ev_F621.set 0 (.int (0)))))) n = some (.inl (some (.int (1))), ((ev_H0.set 723 (.inl (.long, 1, ((0, .long (0)) :: [])))).set 621 (.inr (13, (ev_F621.set 0 (.int (0)))))), n, 0, 0) := by
  refine ev_call_int (k := 8) (pcR := 15) (lv' := [(0, .int (1)), (1, .int (0)), (2, .int (2))]) (v := (1)) (ty := .boolean) (by decide +kernel) rfl ?_ (by decide +kernel) (by decide +kernel) (by decide +kernel) (by decide)
  show ev_stepn _ 8 (0, [(0, .int (1)), (1, .int (0)), (2, .int (2))], [], _, _, 0, 0) = _
  refine ev_go0 (ev_one_pure (M := (ev_Mof 222)) (pc := 0) (i := .iload_n 0) (len := 1) (pc' := 1) (lv' := [(0, .int (1)), (1, .int (0)), (2, .int (2))]) (st' := [.int (1)]) (by decide +kernel) rfl) ?_
  refine ev_go0 (ev_one_pure (M := (ev_Mof 222)) (pc := 1) (i := .iload_n 1) (len := 1) (pc' := 2) (lv' := [(0, .int (1)), (1, .int (0)), (2, .int (2))]) (st' := [.int (0), .int (1)]) (by decide +kernel) rfl) ?_
  refine ev_go0 (ev_w_icmp (M := (ev_Mof 222)) (pc := 2) (q := .lt) (o := 12) (b := false) (t := 5) (by decide +kernel) (by decide +kernel) rfl) ?_
  refine ev_go0 (ev_one_pure (M := (ev_Mof 222)) (pc := 5) (i := .iload_n 0) (len := 1) (pc' := 6) (lv' := [(0, .int (1)), (1, .int (0)), (2, .int (2))]) (st' := [.int (1)]) (by decide +kernel) rfl) ?_
  refine ev_go0 (ev_one_pure (M := (ev_Mof 222)) (pc := 6) (i := .iload_n 2) (len := 1) (pc' := 7) (lv' := [(0, .int (1)), (1, .int (0)), (2, .int (2))]) (st' := [.int (2), .int (1)]) (by decide +kernel) rfl) ?_
  refine ev_go0 (ev_w_icmp (M := (ev_Mof 222)) (pc := 7) (q := .gt) (o := 7) (b := false) (t := 10) (by decide +kernel) (by decide +kernel) rfl) ?_
  refine ev_go0 (ev_w_iconst (M := (ev_Mof 222)) (pc := 10) (k := 1) (v := 1) (by decide +kernel) (by decide +kernel)) ?_
  refine ev_go0 (ev_one_pure (M := (ev_Mof 222)) (pc := 11) (i := .goto 4) (len := 3) (pc' := 15) (lv' := [(0, .int (1)), (1, .int (0)), (2, .int (2))]) (st' := [.int (1)]) (by decide +kernel) rfl) ?_
  rfl
theorem ev_k370 {n : Nat} : ev_calld 11 325 [.ref 621, .int (1)] ((ev_H0.set 723 (.inl (.long, 1, ((0, .long (0)) :: [])))).set 621 (.inr (13, (ev_F621.set 0 (.int (0)))))) n = some (.inl (some (.int (1))), ((ev_H0.set 723 (.inl (.long, 1, ((0, .long (0)) :: [])))).set 621 (.inr (13, (ev_F621.set 0 (.int (0)))))), n, 0, 0) := by
  refine ev_call_int (k := 4) (pcR := 6) (lv' := [(0, .ref 621), (1, .int (1))]) (v := (1)) (ty := .boolean) (by decide +kernel) rfl ?_ (by decide +kernel) (by decide +kernel) (by decide +kernel) (by decide)
  show ev_stepn _ 4 (0, [(0, .ref 621), (1, .int (1))], [], _, _, 0, 0) = _
  refine ev_go0 (ev_one_pure (M := (ev_Mof 325)) (pc := 0) (i := .iload_n 1) (len := 1) (pc' := 1) (lv' := [(0, .ref 621), (1, .int (1))]) (st' := [.int (1)]) (by decide +kernel) rfl) ?_
  refine ev_go0 (ev_w_iconst (M := (ev_Mof 325)) (pc := 1) (k := 0) (v := 0) (by decide +kernel) (by decide +kernel)) ?_
  refine ev_go0 (ev_w_iconst (M := (ev_Mof 325)) (pc := 2) (k := 2) (v := 2) (by decide +kernel) (by decide +kernel)) ?_
  refine ev_go0 (ev_w_stat (M := (ev_Mof 325)) (pc := 3) (y := 325) (kind := 2) (Or.inl rfl) (mi := 222) (na := 3) (by decide +kernel) (by decide +kernel) (by decide +kernel) (by decide +kernel) rfl rfl ev_k369) ?_
  rfl
theorem ev_k371 {n : Nat} : ev_calld 12 347 [.ref 621, .int (1)] (ev_H0.set 723 (.inl (.long, 1, ((0, .long (0)) :: [])))) n = some (.inl (some (.int (0))), ((ev_H0.set 723 (.inl (.long, 1, ((0, .long (0)) :: [])))).set 621 (.inr (13, (ev_F621.set 0 (.int (0)))))), n, 0, 0) := by
  refine ev_call_int (k := 12) (pcR := 27) (lv' := [(0, .ref 621), (1, .int (1))]) (v := (0)) (ty := .int) (by decide +kernel) rfl ?_ (by decide +kernel) (by decide +kernel) (by decide +kernel) (by decide)
  show ev_stepn _ 12 (0, [(0, .ref 621), (1, .int (1))], [], _, _, 0, 0) = _
  refine ev_go0 (ev_one_pure (M := (ev_Mof 347)) (pc := 0) (i := .aload_n 0) (len := 1) (pc' := 1) (lv' := [(0, .ref 621), (1, .int (1))]) (st' := [.ref 621]) (by decide +kernel) rfl) ?_
  refine ev_go0 (ev_w_iconst (M := (ev_Mof 347)) (pc := 1) (k := 0) (v := 0) (by decide +kernel) (by decide +kernel)) ?_
  refine ev_go0 (ev_p_putf (M := (ev_Mof 347)) (pc := 2) (x := 321) (ci := 13) (f := 0) (by decide +kernel) (by decide +kernel) (ev_hne (by decide) ev_fH621) rfl (by decide +kernel)) ?_
  refine ev_go0 (ev_one_pure (M := (ev_Mof 347)) (pc := 5) (i := .aload_n 0) (len := 1) (pc' := 6) (lv' := [(0, .ref 621), (1, .int (1))]) (st' := [.ref 621]) (by decide +kernel) rfl) ?_
  refine ev_go0 (ev_one_pure (M := (ev_Mof 347)) (pc := 6) (i := .iload_n 1) (len := 1) (pc' := 7) (lv' := [(0, .ref 621), (1, .int (1))]) (st' := [.int (1), .ref 621]) (by decide +kernel) rfl) ?_
  refine ev_go0 (ev_p_virt (M := (ev_Mof 347)) (pc := 7) (x := 716) (mi := 325) (na := 1) (by decide +kernel) (by decide +kernel) (by decide +kernel) (by decide +kernel) rfl rfl (ev_recv_of (ev_hself (ev_hne (by decide) ev_fH621))) ev_k370) ?_
  refine ev_go0 (ev_w_if (M := (ev_Mof 347)) (pc := 10) (q := .eq) (o := 12) (b := false) (t := 13) (by decide +kernel) (by decide +kernel) rfl) ?_
  refine ev_go0 (ev_one_pure (M := (ev_Mof 347)) (pc := 13) (i := .aload_n 0) (len := 1) (pc' := 14) (lv' := [(0, .ref 621), (1, .int (1))]) (st' := [.ref 621]) (by decide +kernel) rfl) ?_
  refine ev_go0 (ev_p_getf (M := (ev_Mof 347)) (pc := 14) (x := 270) (ci := 13) (f := 119) (fin := 1) (v := .ref 707) (by decide +kernel) (by decide +kernel) (ev_hself (ev_hne (by decide) ev_fH621)) rfl) ?_
  refine ev_go0 (ev_one_pure (M := (ev_Mof 347)) (pc := 17) (i := .iload_n 1) (len := 1) (pc' := 18) (lv' := [(0, .ref 621), (1, .int (1))]) (st' := [.int (1), .ref 707]) (by decide +kernel) rfl) ?_
  refine ev_go0 (ev_w_iald (M := (ev_Mof 347)) (pc := 18) (v := (0)) (by decide +kernel) (ev_hne (by decide) (ev_hne (by decide) ev_fH707)) (by decide +kernel) rfl) ?_
  refine ev_go0 (ev_one_pure (M := (ev_Mof 347)) (pc := 19) (i := .goto 8) (len := 3) (pc' := 27) (lv' := [(0, .ref 621), (1, .int (1))]) (st' := [.int (0)]) (by decide +kernel) rfl) ?_
  rfl
theorem ev_p1_18_1 (xs : Nat → Int32) (e1 : xs 1 = (1)) : ev_P1 xs 1364 := by
  refine ⟨31, [(6, .int (0)), (5, .int (0)), (4, .int (0)), (3, .ref 723), (2, .ref 621), (1, .ref 0), (0, .retAddr 0)], ((ev_H0.set 723 (.inl (.long, 1, ((0, .long (0)) :: [])))).set 621 (.inr (13, (ev_F621.set 0 (.int (0)))))), 724, 724, 3553586, ?_, ⟨rfl, rfl, rfl, rfl⟩, rfl, by decide, by decide⟩
  show ev_stepn _ _ (1364, [(4, .int (0)), (3, .ref 723), (2, .ref 621), (1, .ref 0), (0, .retAddr 0)], [], _, _, _, _) = _
  refine ev_go0 (ev_one_pure (M := ev_Mlaw) (pc := 1364) (i := .aload_n 1) (len := 1) (pc' := 1365) (lv' := [(4, .int (0)), (3, .ref 723), (2, .ref 621), (1, .ref 0), (0, .retAddr 0)]) (st' := [.ref 0]) (by decide +kernel) rfl) ?_
  refine ev_go0 (ev_one_pure (M := ev_Mlaw) (pc := 1365) (i := .aload_n 0) (len := 1) (pc' := 1366) (lv' := [(4, .int (0)), (3, .ref 723), (2, .ref 621), (1, .ref 0), (0, .retAddr 0)]) (st' := [.retAddr 0, .ref 0]) (by decide +kernel) rfl) ?_
  refine ev_go0 (ev_one_pure (M := ev_Mlaw) (pc := 1366) (i := .iload 4) (len := 2) (pc' := 1368) (lv' := [(4, .int (0)), (3, .ref 723), (2, .ref 621), (1, .ref 0), (0, .retAddr 0)]) (st' := [.int (0), .retAddr 0, .ref 0]) (by decide +kernel) rfl) ?_
  refine ev_go0 (ev_w_iconst (M := ev_Mlaw) (pc := 1368) (k := 1) (v := 1) (by decide +kernel) (by decide +kernel)) ?_
  refine ev_go0 (ev_w_iadd (M := ev_Mlaw) (pc := 1369) (v := (1)) (by decide +kernel) (by decide +kernel)) ?_
  refine ev_go0 (ev_w_scr (M := ev_Mlaw) (pc := 1370) (v := (1)) (j := 1) (by decide +kernel) (by decide +kernel) (by decide +kernel) e1) ?_
  refine ev_go0 (ev_one_pure (M := ev_Mlaw) (pc := 1371) (i := .aload_n 3) (len := 1) (pc' := 1372) (lv' := [(4, .int (0)), (3, .ref 723), (2, .ref 621), (1, .ref 0), (0, .retAddr 0)]) (st' := [.ref 723, .int (1), .ref 0]) (by decide +kernel) rfl) ?_
  refine ev_go0 (ev_w_stat (M := ev_Mlaw) (pc := 1372) (y := 191) (kind := 8) (Or.inr (Or.inr rfl)) (mi := 381) (na := 3) (by decide +kernel) (by decide +kernel) (by decide +kernel) (by decide +kernel) rfl rfl ev_k368) ?_
  refine ev_go0 (ev_w_istore (M := ev_Mlaw) (pc := 1375) (k := 5) (lv' := [(5, .int (0)), (4, .int (0)), (3, .ref 723), (2, .ref 621), (1, .ref 0), (0, .retAddr 0)]) (by decide +kernel) (by decide +kernel) rfl) ?_
  refine ev_go0 (ev_one_pure (M := ev_Mlaw) (pc := 1377) (i := .aload_n 2) (len := 1) (pc' := 1378) (lv' := [(5, .int (0)), (4, .int (0)), (3, .ref 723), (2, .ref 621), (1, .ref 0), (0, .retAddr 0)]) (st' := [.ref 621]) (by decide +kernel) rfl) ?_
  refine ev_go0 (ev_one_pure (M := ev_Mlaw) (pc := 1378) (i := .aload_n 0) (len := 1) (pc' := 1379) (lv' := [(5, .int (0)), (4, .int (0)), (3, .ref 723), (2, .ref 621), (1, .ref 0), (0, .retAddr 0)]) (st' := [.retAddr 0, .ref 621]) (by decide +kernel) rfl) ?_
  refine ev_go0 (ev_one_pure (M := ev_Mlaw) (pc := 1379) (i := .iload 4) (len := 2) (pc' := 1381) (lv' := [(5, .int (0)), (4, .int (0)), (3, .ref 723), (2, .ref 621), (1, .ref 0), (0, .retAddr 0)]) (st' := [.int (0), .retAddr 0, .ref 621]) (by decide +kernel) rfl) ?_
  refine ev_go0 (ev_w_iconst (M := ev_Mlaw) (pc := 1381) (k := 1) (v := 1) (by decide +kernel) (by decide +kernel)) ?_
  refine ev_go0 (ev_w_iadd (M := ev_Mlaw) (pc := 1382) (v := (1)) (by decide +kernel) (by decide +kernel)) ?_
  refine ev_go0 (ev_w_scr (M := ev_Mlaw) (pc := 1383) (v := (1)) (j := 1) (by decide +kernel) (by decide +kernel) (by decide +kernel) e1) ?_
  refine ev_go0 (ev_p_virt (M := ev_Mlaw) (pc := 1384) (x := 193) (mi := 347) (na := 1) (by decide +kernel) (by decide +kernel) (by decide +kernel) (by decide +kernel) rfl rfl (ev_recv_of (ev_hne (by decide) ev_fH621)) ev_k371) ?_
  refine ev_go0 (ev_w_istore (M := ev_Mlaw) (pc := 1387) (k := 6) (lv' := [(6, .int (0)), (5, .int (0)), (4, .int (0)), (3, .ref 723), (2, .ref 621), (1, .ref 0), (0, .retAddr 0)]) (by decide +kernel) (by decide +kernel) rfl) ?_
  refine ev_go0 (ev_one_pure (M := ev_Mlaw) (pc := 1389) (i := .aload_n 2) (len := 1) (pc' := 1390) (lv' := [(6, .int (0)), (5, .int (0)), (4, .int (0)), (3, .ref 723), (2, .ref 621), (1, .ref 0), (0, .retAddr 0)]) (st' := [.ref 621]) (by decide +kernel) rfl) ?_
  refine ev_go0 (ev_p_virt (M := ev_Mlaw) (pc := 1390) (x := 131) (mi := 220) (na := 0) (by decide +kernel) (by decide +kernel) (by decide +kernel) (by decide +kernel) rfl rfl (ev_recv_of (ev_hself (ev_hne (by decide) ev_fH621))) ev_k366) ?_
  refine ev_go0 (ev_one_pure (M := ev_Mlaw) (pc := 1393) (i := .iload 5) (len := 2) (pc' := 1395) (lv' := [(6, .int (0)), (5, .int (0)), (4, .int (0)), (3, .ref 723), (2, .ref 621), (1, .ref 0), (0, .retAddr 0)]) (st' := [.int (0), .int (0)]) (by decide +kernel) rfl) ?_
  refine ev_go0 (ev_w_icmp (M := ev_Mlaw) (pc := 1395) (q := .eq) (o := 5) (b := true) (t := 1400) (by decide +kernel) (by decide +kernel) rfl) ?_
  refine ev_go0 (ev_one_pure (M := ev_Mlaw) (pc := 1400) (i := .iload 5) (len := 2) (pc' := 1402) (lv' := [(6, .int (0)), (5, .int (0)), (4, .int (0)), (3, .ref 723), (2, .ref 621), (1, .ref 0), (0, .retAddr 0)]) (st' := [.int (0)]) (by decide +kernel) rfl) ?_
  refine ev_go0 (ev_w_if (M := ev_Mlaw) (pc := 1402) (q := .ne) (o := 15) (b := false) (t := 1405) (by decide +kernel) (by decide +kernel) rfl) ?_
  refine ev_go0 (ev_one_pure (M := ev_Mlaw) (pc := 1405) (i := .aload_n 3) (len := 1) (pc' := 1406) (lv' := [(6, .int (0)), (5, .int (0)), (4, .int (0)), (3, .ref 723), (2, .ref 621), (1, .ref 0), (0, .retAddr 0)]) (st' := [.ref 723]) (by decide +kernel) rfl) ?_
  refine ev_go0 (ev_w_iconst (M := ev_Mlaw) (pc := 1406) (k := 0) (v := 0) (by decide +kernel) (by decide +kernel)) ?_
  refine ev_go0 (ev_w_lald (M := ev_Mlaw) (pc := 1407) (v := (0)) (by decide +kernel) (ev_hne (by decide) (ev_hself ev_fH723)) (by decide +kernel) rfl) ?_
  refine ev_go0 (ev_one_pure (M := ev_Mlaw) (pc := 1408) (i := .iload 6) (len := 2) (pc' := 1410) (lv' := [(6, .int (0)), (5, .int (0)), (4, .int (0)), (3, .ref 723), (2, .ref 621), (1, .ref 0), (0, .retAddr 0)]) (st' := [.int (0), .long (0)]) (by decide +kernel) rfl) ?_
  refine ev_go0 (ev_w_i2l (M := ev_Mlaw) (pc := 1410) (v := (0)) (by decide +kernel) (by decide +kernel)) ?_
  refine ev_go0 (ev_w_lcmp (M := ev_Mlaw) (pc := 1411) (v := (0)) (by decide +kernel) (by decide +kernel)) ?_
  refine ev_go0 (ev_w_if (M := ev_Mlaw) (pc := 1412) (q := .eq) (o := 5) (b := true) (t := 1417) (by decide +kernel) (by decide +kernel) rfl) ?_
  refine ev_go0 (ev_one_pure (M := ev_Mlaw) (pc := 1417) (i := .goto 855) (len := 3) (pc' := 2272) (lv' := [(6, .int (0)), (5, .int (0)), (4, .int (0)), (3, .ref 723), (2, .ref 621), (1, .ref 0), (0, .retAddr 0)]) (st' := []) (by decide +kernel) rfl) ?_
  rfl
theorem ev_k372 {n : Nat} : ev_calld 11 184 [.ref 0, .int (2)] ev_H0 n = some (.inl (some (.int (0))), ev_H0, n, 0, 0) := by
  refine ev_call_int (k := 9) (pcR := 27) (lv' := [(2, .ref 267), (0, .ref 0), (1, .int (2))]) (v := (0)) (ty := .int) (by decide +kernel) rfl ?_ (by decide +kernel) (by decide +kernel) (by decide +kernel) (by decide)
  show ev_stepn _ 9 (0, [(0, .ref 0), (1, .int (2))], [], _, _, 0, 0) = _
  refine ev_go0 (ev_one_pure (M := (ev_Mof 184)) (pc := 0) (i := .aload_n 0) (len := 1) (pc' := 1) (lv' := [(0, .ref 0), (1, .int (2))]) (st' := [.ref 0]) (by decide +kernel) rfl) ?_
  refine ev_go0 (ev_p_getf (M := (ev_Mof 184)) (pc := 1) (x := 48) (ci := 12) (f := 8) (fin := 1) (v := .ref 254) (by decide +kernel) (by decide +kernel) ev_fH0 rfl) ?_
  refine ev_go0 (ev_one_pure (M := (ev_Mof 184)) (pc := 4) (i := .iload_n 1) (len := 1) (pc' := 5) (lv' := [(0, .ref 0), (1, .int (2))]) (st' := [.int (2), .ref 254]) (by decide +kernel) rfl) ?_
  refine ev_go0 (ev_p_virt (M := (ev_Mof 184)) (pc := 5) (x := 221) (mi := 1) (na := 1) (by decide +kernel) (by decide +kernel) (by decide +kernel) (by decide +kernel) rfl rfl (ev_recv_of ev_fH254) ev_k242) ?_
  refine ev_go0 (ev_w_astore_n (M := (ev_Mof 184)) (pc := 8) (k := 2) (lv' := [(2, .ref 267), (0, .ref 0), (1, .int (2))]) (by decide +kernel) (by decide +kernel) (Or.inl ⟨_, rfl⟩) rfl) ?_
  refine ev_go0 (ev_one_pure (M := (ev_Mof 184)) (pc := 9) (i := .aload_n 2) (len := 1) (pc' := 10) (lv' := [(2, .ref 267), (0, .ref 0), (1, .int (2))]) (st' := [.ref 267]) (by decide +kernel) rfl) ?_
  refine ev_go0 (ev_w_ifnonnull (M := (ev_Mof 184)) (pc := 10) (o := 13) (t := 23) (by decide +kernel) (Or.inl ⟨⟨_, rfl⟩, rfl⟩)) ?_
  refine ev_go0 (ev_one_pure (M := (ev_Mof 184)) (pc := 23) (i := .aload_n 2) (len := 1) (pc' := 24) (lv' := [(2, .ref 267), (0, .ref 0), (1, .int (2))]) (st' := [.ref 267]) (by decide +kernel) rfl) ?_
  refine ev_go0 (ev_p_getf (M := (ev_Mof 184)) (pc := 24) (x := 105) (ci := 10) (f := 1) (fin := 0) (v := .int (0)) (by decide +kernel) (by decide +kernel) ev_fH267 rfl) ?_
  rfl
theorem ev_k373 {n : Nat} : ev_calld 12 381 [.ref 0, .int (2), .ref 723] ev_H0 n = some (.inl (some (.int (0))), (ev_H0.set 723 (.inl (.long, 1, ((0, .long (0)) :: [])))), n, 0, 0) := by
  refine ev_call_int (k := 9) (pcR := 16) (lv' := [(0, .ref 0), (1, .int (2)), (2, .ref 723)]) (v := (0)) (ty := .int) (by decide +kernel) rfl ?_ (by decide +kernel) (by decide +kernel) (by decide +kernel) (by decide)
  show ev_stepn _ 9 (0, [(0, .ref 0), (1, .int (2)), (2, .ref 723)], [], _, _, 0, 0) = _
  refine ev_go0 (ev_one_pure (M := (ev_Mof 381)) (pc := 0) (i := .aload_n 2) (len := 1) (pc' := 1) (lv' := [(0, .ref 0), (1, .int (2)), (2, .ref 723)]) (st' := [.ref 723]) (by decide +kernel) rfl) ?_
  refine ev_go0 (ev_w_iconst (M := (ev_Mof 381)) (pc := 1) (k := 0) (v := 0) (by decide +kernel) (by decide +kernel)) ?_
  refine ev_go0 (ev_one_pure (M := (ev_Mof 381)) (pc := 2) (i := .aload_n 0) (len := 1) (pc' := 3) (lv' := [(0, .ref 0), (1, .int (2)), (2, .ref 723)]) (st' := [.ref 0, .int (0), .ref 723]) (by decide +kernel) rfl) ?_
  refine ev_go0 (ev_one_pure (M := (ev_Mof 381)) (pc := 3) (i := .iload_n 1) (len := 1) (pc' := 4) (lv' := [(0, .ref 0), (1, .int (2)), (2, .ref 723)]) (st' := [.int (2), .ref 0, .int (0), .ref 723]) (by decide +kernel) rfl) ?_
  refine ev_go0 (ev_p_virt (M := (ev_Mof 381)) (pc := 4) (x := 73) (mi := 184) (na := 1) (by decide +kernel) (by decide +kernel) (by decide +kernel) (by decide +kernel) rfl rfl (ev_recv_of ev_fH0) ev_k372) ?_
  refine ev_go0 (ev_w_i2l (M := (ev_Mof 381)) (pc := 7) (v := (0)) (by decide +kernel) (by decide +kernel)) ?_
  refine ev_go0 (ev_w_last (M := (ev_Mof 381)) (pc := 8) (j := 0) (by decide +kernel) ev_fH723 (by decide +kernel) (by decide +kernel)) ?_
  refine ev_go0 (ev_one_pure (M := (ev_Mof 381)) (pc := 9) (i := .goto 6) (len := 3) (pc' := 15) (lv' := [(0, .ref 0), (1, .int (2)), (2, .ref 723)]) (st' := []) (by decide +kernel) rfl) ?_
  refine ev_go0 (ev_w_iconst (M := (ev_Mof 381)) (pc := 15) (k := 0) (v := 0) (by decide +kernel) (by decide +kernel)) ?_
  rfl
theorem ev_k374 {n : Nat} : ev_calld 10 222 [.int (2), .int (0), .int (2)] ((ev_H0.set 723 (.inl (.long, 1, ((0, .long (0)) :: [])))).set 621 (.inr (13, (ev_F621.set 0 (.int (0)))))) n = some (.inl (some (.int (1))), ((ev_H0.set 723 (.inl (.long, 1, ((0, .long (0)) :: [])))).set 621 (.inr (13, (ev_F621.set 0 (.int (0)))))), n, 0, 0) := by
  refine ev_call_int (k := 8) (pcR := 15) (lv' := [(0, .int (2)), (1, .int (0)), (2, .int (2))]) (v := (1)) (ty := .boolean) (by decide +kernel) rfl ?_ (by decide +kernel) (by decide +kernel) (by decide +kernel) (by decide)
  show ev_stepn _ 8 (0, [(0, .int (2)), (1, .int (0)), (2, .int (2))], [], _, _, 0, 0) = _
  refine ev_go0 (ev_one_pure (M := (ev_Mof 222)) (pc := 0) (i := .iload_n 0) (len := 1) (pc' := 1) (lv' := [(0, .int (2)), (1, .int (0)), (2, .int (2))]) (st' := [.int (2)]) (by decide +kernel) rfl) ?_
  refine ev_go0 (ev_one_pure (M := (ev_Mof 222)) (pc := 1) (i := .iload_n 1) (len := 1) (pc' := 2) (lv' := [(0, .int (2)), (1, .int (0)), (2, .int (2))]) (st' := [.int (0), .int (2)]) (by decide +kernel) rfl) ?_
  refine ev_go0 (ev_w_icmp (M := (ev_Mof 222)) (pc := 2) (q := .lt) (o := 12) (b := false) (t := 5) (by decide +kernel) (by decide +kernel) rfl) ?_
  refine ev_go0 (ev_one_pure (M := (ev_Mof 222)) (pc := 5) (i := .iload_n 0) (len := 1) (pc' := 6) (lv' := [(0, .int (2)), (1, .int (0)), (2, .int (2))]) (st' := [.int (2)]) (by decide +kernel) rfl) ?_
  refine ev_go0 (ev_one_pure (M := (ev_Mof 222)) (pc := 6) (i := .iload_n 2) (len := 1) (pc' := 7) (lv' := [(0, .int (2)), (1, .int (0)), (2, .int (2))]) (st' := [.int (2), .int (2)]) (by decide +kernel) rfl) ?_
  refine ev_go0 (ev_w_icmp (M := (ev_Mof 222)) (pc := 7) (q := .gt) (o := 7) (b := false) (t := 10) (by decide +kernel) (by decide +kernel) rfl) ?_
  refine ev_go0 (ev_w_iconst (M := (ev_Mof 222)) (pc := 10) (k := 1) (v := 1) (by decide +kernel) (by decide +kernel)) ?_
  refine ev_go0 (ev_one_pure (M := (ev_Mof 222)) (pc := 11) (i := .goto 4) (len := 3) (pc' := 15) (lv' := [(0, .int (2)), (1, .int (0)), (2, .int (2))]) (st' := [.int (1)]) (by decide +kernel) rfl) ?_
  rfl
theorem ev_k375 {n : Nat} : ev_calld 11 325 [.ref 621, .int (2)] ((ev_H0.set 723 (.inl (.long, 1, ((0, .long (0)) :: [])))).set 621 (.inr (13, (ev_F621.set 0 (.int (0)))))) n = some (.inl (some (.int (1))), ((ev_H0.set 723 (.inl (.long, 1, ((0, .long (0)) :: [])))).set 621 (.inr (13, (ev_F621.set 0 (.int (0)))))), n, 0, 0) := by
  refine ev_call_int (k := 4) (pcR := 6) (lv' := [(0, .ref 621), (1, .int (2))]) (v := (1)) (ty := .boolean) (by decide +kernel) rfl ?_ (by decide +kernel) (by decide +kernel) (by decide +kernel) (by decide)
  show ev_stepn _ 4 (0, [(0, .ref 621), (1, .int (2))], [], _, _, 0, 0) = _
  refine ev_go0 (ev_one_pure (M := (ev_Mof 325)) (pc := 0) (i := .iload_n 1) (len := 1) (pc' := 1) (lv' := [(0, .ref 621), (1, .int (2))]) (st' := [.int (2)]) (by decide +kernel) rfl) ?_
  refine ev_go0 (ev_w_iconst (M := (ev_Mof 325)) (pc := 1) (k := 0) (v := 0) (by decide +kernel) (by decide +kernel)) ?_
  refine ev_go0 (ev_w_iconst (M := (ev_Mof 325)) (pc := 2) (k := 2) (v := 2) (by decide +kernel) (by decide +kernel)) ?_
  refine ev_go0 (ev_w_stat (M := (ev_Mof 325)) (pc := 3) (y := 325) (kind := 2) (Or.inl rfl) (mi := 222) (na := 3) (by decide +kernel) (by decide +kernel) (by decide +kernel) (by decide +kernel) rfl rfl ev_k374) ?_
  rfl
theorem ev_k376 {n : Nat} : ev_calld 12 347 [.ref 621, .int (2)] (ev_H0.set 723 (.inl (.long, 1, ((0, .long (0)) :: [])))) n = some (.inl (some (.int (0))), ((ev_H0.set 723 (.inl (.long, 1, ((0, .long (0)) :: [])))).set 621 (.inr (13, (ev_F621.set 0 (.int (0)))))), n, 0, 0) := by
  refine ev_call_int (k := 12) (pcR := 27) (lv' := [(0, .ref 621), (1, .int (2))]) (v := (0)) (ty := .int) (by decide +kernel) rfl ?_ (by decide +kernel) (by decide +kernel) (by decide +kernel) (by decide)
  show ev_stepn _ 12 (0, [(0, .ref 621), (1, .int (2))], [], _, _, 0, 0) = _
  refine ev_go0 (ev_one_pure (M := (ev_Mof 347)) (pc := 0) (i := .aload_n 0) (len := 1) (pc' := 1) (lv' := [(0, .ref 621), (1, .int (2))]) (st' := [.ref 621]) (by decide +kernel) rfl) ?_
  refine ev_go0 (ev_w_iconst (M := (ev_Mof 347)) (pc := 1) (k := 0) (v := 0) (by decide +kernel) (by decide +kernel)) ?_
  refine ev_go0 (ev_p_putf (M := (ev_Mof 347)) (pc := 2) (x := 321) (ci := 13) (f := 0) (by decide +kernel) (by decide +kernel) (ev_hne (by decide) ev_fH621) rfl (by decide +kernel)) ?_
  refine ev_go0 (ev_one_pure (M := (ev_Mof 347)) (pc := 5) (i := .aload_n 0) (len := 1) (pc' := 6) (lv' := [(0, .ref 621), (1, .int (2))]) (st' := [.ref 621]) (by decide +kernel) rfl) ?_
  refine ev_go0 (ev_one_pure (M := (ev_Mof 347)) (pc := 6) (i := .iload_n 1) (len := 1) (pc' := 7) (lv' := [(0, .ref 621), (1, .int (2))]) (st' := [.int (2), .ref 621]) (by decide +kernel) rfl) ?_
  refine ev_go0 (ev_p_virt (M := (ev_Mof 347)) (pc := 7) (x := 716) (mi := 325) (na := 1) (by decide +kernel) (by decide +kernel) (by decide +kernel) (by decide +kernel) rfl rfl (ev_recv_of (ev_hself (ev_hne (by decide) ev_fH621))) ev_k375) ?_
  refine ev_go0 (ev_w_if (M := (ev_Mof 347)) (pc := 10) (q := .eq) (o := 12) (b := false) (t := 13) (by decide +kernel) (by decide +kernel) rfl) ?_
  refine ev_go0 (ev_one_pure (M := (ev_Mof 347)) (pc := 13) (i := .aload_n 0) (len := 1) (pc' := 14) (lv' := [(0, .ref 621), (1, .int (2))]) (st' := [.ref 621]) (by decide +kernel) rfl) ?_
  refine ev_go0 (ev_p_getf (M := (ev_Mof 347)) (pc := 14) (x := 270) (ci := 13) (f := 119) (fin := 1) (v := .ref 707) (by decide +kernel) (by decide +kernel) (ev_hself (ev_hne (by decide) ev_fH621)) rfl) ?_
  refine ev_go0 (ev_one_pure (M := (ev_Mof 347)) (pc := 17) (i := .iload_n 1) (len := 1) (pc' := 18) (lv' := [(0, .ref 621), (1, .int (2))]) (st' := [.int (2), .ref 707]) (by decide +kernel) rfl) ?_
  refine ev_go0 (ev_w_iald (M := (ev_Mof 347)) (pc := 18) (v := (0)) (by decide +kernel) (ev_hne (by decide) (ev_hne (by decide) ev_fH707)) (by decide +kernel) rfl) ?_
  refine ev_go0 (ev_one_pure (M := (ev_Mof 347)) (pc := 19) (i := .goto 8) (len := 3) (pc' := 27) (lv' := [(0, .ref 621), (1, .int (2))]) (st' := [.int (0)]) (by decide +kernel) rfl) ?_
  rfl
theorem ev_p1_18_2 (xs : Nat → Int32) (e1 : xs 1 = (2)) : ev_P1 xs 1364 := by
  refine ⟨31, [(6, .int (0)), (5, .int (0)), (4, .int (0)), (3, .ref 723), (2, .ref 621), (1, .ref 0), (0, .retAddr 0)], ((ev_H0.set 723 (.inl (.long, 1, ((0, .long (0)) :: [])))).set 621 (.inr (13, (ev_F621.set 0 (.int (0)))))), 724, 724, 3553586, ?_, ⟨rfl, rfl, rfl, rfl⟩, rfl, by decide, by decide⟩
  show ev_stepn _ _ (1364, [(4, .int (0)), (3, .ref 723), (2, .ref 621), (1, .ref 0), (0, .retAddr 0)], [], _, _, _, _) = _
  refine ev_go0 (ev_one_pure (M := ev_Mlaw) (pc := 1364) (i := .aload_n 1) (len := 1) (pc' := 1365) (lv' := [(4, .int (0)), (3, .ref 723), (2, .ref 621), (1, .ref 0), (0, .retAddr 0)]) (st' := [.ref 0]) (by decide +kernel) rfl) ?_
  refine ev_go0 (ev_one_pure (M := ev_Mlaw) (pc := 1365) (i := .aload_n 0) (len := 1) (pc' := 1366) (lv' := [(4, .int (0)), (3, .ref 723), (2, .ref 621), (1, .ref 0), (0, .retAddr 0)]) (st' := [.retAddr 0, .ref 0]) (by decide +kernel) rfl) ?_
  refine ev_go0 (ev_one_pure (M := ev_Mlaw) (pc := 1366) (i := .iload 4) (len := 2) (pc' := 1368) (lv' := [(4, .int (0)), (3, .ref 723), (2, .ref 621), (1, .ref 0), (0, .retAddr 0)]) (st' := [.int (0), .retAddr 0, .ref 0]) (by decide +kernel) rfl) ?_
  refine ev_go0 (ev_w_iconst (M := ev_Mlaw) (pc := 1368) (k := 1) (v := 1) (by decide +kernel) (by decide +kernel)) ?_
  refine ev_go0 (ev_w_iadd (M := ev_Mlaw) (pc := 1369) (v := (1)) (by decide +kernel) (by decide +kernel)) ?_
  refine ev_go0 (ev_w_scr (M := ev_Mlaw) (pc := 1370) (v := (2)) (j := 1) (by decide +kernel) (by decide +kernel) (by decide +kernel) e1) ?_
  refine ev_go0 (ev_one_pure (M := ev_Mlaw) (pc := 1371) (i := .aload_n 3) (len := 1) (pc' := 1372) (lv' := [(4, .int (0)), (3, .ref 723), (2, .ref 621), (1, .ref 0), (0, .retAddr 0)]) (st' := [.ref 723, .int (2), .ref 0]) (by decide +kernel) rfl) ?_
  refine ev_go0 (ev_w_stat (M := ev_Mlaw) (pc := 1372) (y := 191) (kind := 8) (Or.inr (Or.inr rfl)) (mi := 381) (na := 3) (by decide +kernel) (by decide +kernel) (by decide +kernel) (by decide +kernel) rfl rfl ev_k373) ?_
  refine ev_go0 (ev_w_istore (M := ev_Mlaw) (pc := 1375) (k := 5) (lv' := [(5, .int (0)), (4, .int (0)), (3, .ref 723), (2, .ref 621), (1, .ref 0), (0, .retAddr 0)]) (by decide +kernel) (by decide +kernel) rfl) ?_
  refine ev_go0 (ev_one_pure (M := ev_Mlaw) (pc := 1377) (i := .aload_n 2) (len := 1) (pc' := 1378) (lv' := [(5, .int (0)), (4, .int (0)), (3, .ref 723), (2, .ref 621), (1, .ref 0), (0, .retAddr 0)]) (st' := [.ref 621]) (by decide +kernel) rfl) ?_
  refine ev_go0 (ev_one_pure (M := ev_Mlaw) (pc := 1378) (i := .aload_n 0) (len := 1) (pc' := 1379) (lv' := [(5, .int (0)), (4, .int (0)), (3, .ref 723), (2, .ref 621), (1, .ref 0), (0, .retAddr 0)]) (st' := [.retAddr 0, .ref 621]) (by decide +kernel) rfl) ?_
  refine ev_go0 (ev_one_pure (M := ev_Mlaw) (pc := 1379) (i := .iload 4) (len := 2) (pc' := 1381) (lv' := [(5, .int (0)), (4, .int (0)), (3, .ref 723), (2, .ref 621), (1, .ref 0), (0, .retAddr 0)]) (st' := [.int (0), .retAddr 0, .ref 621]) (by decide +kernel) rfl) ?_
  refine ev_go0 (ev_w_iconst (M := ev_Mlaw) (pc := 1381) (k := 1) (v := 1) (by decide +kernel) (by decide +kernel)) ?_
  refine ev_go0 (ev_w_iadd (M := ev_Mlaw) (pc := 1382) (v := (1)) (by decide +kernel) (by decide +kernel)) ?_
  refine ev_go0 (ev_w_scr (M := ev_Mlaw) (pc := 1383) (v := (2)) (j := 1) (by decide +kernel) (by decide +kernel) (by decide +kernel) e1) ?_
  refine ev_go0 (ev_p_virt (M := ev_Mlaw) (pc := 1384) (x := 193) (mi := 347) (na := 1) (by decide +kernel) (by decide +kernel) (by decide +kernel) (by decide +kernel) rfl rfl (ev_recv_of (ev_hne (by decide) ev_fH621)) ev_k376) ?_
  refine ev_go0 (ev_w_istore (M := ev_Mlaw) (pc := 1387) (k := 6) (lv' := [(6, .int (0)), (5, .int (0)), (4, .int (0)), (3, .ref 723), (2, .ref 621), (1, .ref 0), (0, .retAddr 0)]) (by decide +kernel) (by decide +kernel) rfl) ?_
  refine ev_go0 (ev_one_pure (M := ev_Mlaw) (pc := 1389) (i := .aload_n 2) (len := 1) (pc' := 1390) (lv' := [(6, .int (0)), (5, .int (0)), (4, .int (0)), (3, .ref 723), (2, .ref 621), (1, .ref 0), (0, .retAddr 0)]) (st' := [.ref 621]) (by decide +kernel) rfl) ?_
  refine ev_go0 (ev_p_virt (M := ev_Mlaw) (pc := 1390) (x := 131) (mi := 220) (na := 0) (by decide +kernel) (by decide +kernel) (by decide +kernel) (by decide +kernel) rfl rfl (ev_recv_of (ev_hself (ev_hne (by decide) ev_fH621))) ev_k366) ?_
  refine ev_go0 (ev_one_pure (M := ev_Mlaw) (pc := 1393) (i := .iload 5) (len := 2) (pc' := 1395) (lv' := [(6, .int (0)), (5, .int (0)), (4, .int (0)), (3, .ref 723), (2, .ref 621), (1, .ref 0), (0, .retAddr 0)]) (st' := [.int (0), .int (0)]) (by decide +kernel) rfl) ?_
  refine ev_go0 (ev_w_icmp (M := ev_Mlaw) (pc := 1395) (q := .eq) (o := 5) (b := true) (t := 1400) (by decide +kernel) (by decide +kernel) rfl) ?_
  refine ev_go0 (ev_one_pure (M := ev_Mlaw) (pc := 1400) (i := .iload 5) (len := 2) (pc' := 1402) (lv' := [(6, .int (0)), (5, .int (0)), (4, .int (0)), (3, .ref 723), (2, .ref 621), (1, .ref 0), (0, .retAddr 0)]) (st' := [.int (0)]) (by decide +kernel) rfl) ?_
  refine ev_go0 (ev_w_if (M := ev_Mlaw) (pc := 1402) (q := .ne) (o := 15) (b := false) (t := 1405) (by decide +kernel) (by decide +kernel) rfl) ?_
  refine ev_go0 (ev_one_pure (M := ev_Mlaw) (pc := 1405) (i := .aload_n 3) (len := 1) (pc' := 1406) (lv' := [(6, .int (0)), (5, .int (0)), (4, .int (0)), (3, .ref 723), (2, .ref 621), (1, .ref 0), (0, .retAddr 0)]) (st' := [.ref 723]) (by decide +kernel) rfl) ?_
  refine ev_go0 (ev_w_iconst (M := ev_Mlaw) (pc := 1406) (k := 0) (v := 0) (by decide +kernel) (by decide +kernel)) ?_
  refine ev_go0 (ev_w_lald (M := ev_Mlaw) (pc := 1407) (v := (0)) (by decide +kernel) (ev_hne (by decide) (ev_hself ev_fH723)) (by decide +kernel) rfl) ?_
  refine ev_go0 (ev_one_pure (M := ev_Mlaw) (pc := 1408) (i := .iload 6) (len := 2) (pc' := 1410) (lv' := [(6, .int (0)), (5, .int (0)), (4, .int (0)), (3, .ref 723), (2, .ref 621), (1, .ref 0), (0, .retAddr 0)]) (st' := [.int (0), .long (0)]) (by decide +kernel) rfl) ?_
  refine ev_go0 (ev_w_i2l (M := ev_Mlaw) (pc := 1410) (v := (0)) (by decide +kernel) (by decide +kernel)) ?_
  refine ev_go0 (ev_w_lcmp (M := ev_Mlaw) (pc := 1411) (v := (0)) (by decide +kernel) (by decide +kernel)) ?_
  refine ev_go0 (ev_w_if (M := ev_Mlaw) (pc := 1412) (q := .eq) (o := 5) (b := true) (t := 1417) (by decide +kernel) (by decide +kernel) rfl) ?_
  refine ev_go0 (ev_one_pure (M := ev_Mlaw) (pc := 1417) (i := .goto 855) (len := 3) (pc' := 2272) (lv' := [(6, .int (0)), (5, .int (0)), (4, .int (0)), (3, .ref 723), (2, .ref 621), (1, .ref 0), (0, .retAddr 0)]) (st' := []) (by decide +kernel) rfl) ?_
  rfl
theorem ev_k377 (x1 : Int32) (hl_x1 : (3 : Int) ≤ x1.toInt) {n : Nat} : ev_calld 10 1 [.ref 254, .int x1] ev_H0 n = some (.inl (some (.null)), ev_H0, n, 0, 0) := by
  refine ev_call_ref (k := 6) (pcR := 19) (lv' := [(0, .ref 254), (1, .int x1)]) (v := .null) (C := "MendBench$Text") (by decide +kernel) rfl ?_ (by decide +kernel) (by decide +kernel) rfl (by decide)
  show ev_stepn _ 6 (0, [(0, .ref 254), (1, .int x1)], [], _, _, 0, 0) = _
  refine ev_go0 (ev_one_pure (M := (ev_Mof 1)) (pc := 0) (i := .iload_n 1) (len := 1) (pc' := 1) (lv' := [(0, .ref 254), (1, .int x1)]) (st' := [.int x1]) (by decide +kernel) rfl) ?_
  refine ev_go0 (ev_w_if (M := (ev_Mof 1)) (pc := 1) (q := .lt) (o := 17) (b := false) (t := 4) (by decide +kernel) (ev_c_lt0 hl_x1 (by decide +kernel)) rfl) ?_
  refine ev_go0 (ev_one_pure (M := (ev_Mof 1)) (pc := 4) (i := .iload_n 1) (len := 1) (pc' := 5) (lv' := [(0, .ref 254), (1, .int x1)]) (st' := [.int x1]) (by decide +kernel) rfl) ?_
  refine ev_go0 (ev_w_iconst (M := (ev_Mof 1)) (pc := 5) (k := 3) (v := 3) (by decide +kernel) (by decide +kernel)) ?_
  refine ev_go0 (ev_w_icmp (M := (ev_Mof 1)) (pc := 6) (q := .ge) (o := 12) (b := true) (t := 18) (by decide +kernel) (ev_c_ge1 hl_x1 (by decide +kernel)) rfl) ?_
  refine ev_go0 (ev_one_pure (M := (ev_Mof 1)) (pc := 18) (i := .aconst_null) (len := 1) (pc' := 19) (lv' := [(0, .ref 254), (1, .int x1)]) (st' := [.null]) (by decide +kernel) rfl) ?_
  rfl
theorem ev_k378 (x1 : Int32) (hl_x1 : (3 : Int) ≤ x1.toInt) {n : Nat} : ev_calld 11 184 [.ref 0, .int x1] ev_H0 n = some (.inr "java/lang/IndexOutOfBoundsException", ev_H0, n, 1, 6) := by
  refine ev_call_thrown (k := 7) (pcR := 13) (x := 160) (lv' := [(2, .null), (0, .ref 0), (1, .int x1)]) (by decide +kernel) rfl ?_ (by decide +kernel) (by decide +kernel) (by decide +kernel) (by decide) (by decide)
  show ev_stepn _ 7 (0, [(0, .ref 0), (1, .int x1)], [], _, _, 0, 0) = _
  refine ev_go0 (ev_one_pure (M := (ev_Mof 184)) (pc := 0) (i := .aload_n 0) (len := 1) (pc' := 1) (lv' := [(0, .ref 0), (1, .int x1)]) (st' := [.ref 0]) (by decide +kernel) rfl) ?_
  refine ev_go0 (ev_p_getf (M := (ev_Mof 184)) (pc := 1) (x := 48) (ci := 12) (f := 8) (fin := 1) (v := .ref 254) (by decide +kernel) (by decide +kernel) ev_fH0 rfl) ?_
  refine ev_go0 (ev_one_pure (M := (ev_Mof 184)) (pc := 4) (i := .iload_n 1) (len := 1) (pc' := 5) (lv' := [(0, .ref 0), (1, .int x1)]) (st' := [.int x1, .ref 254]) (by decide +kernel) rfl) ?_
  refine ev_go0 (ev_p_virt (M := (ev_Mof 184)) (pc := 5) (x := 221) (mi := 1) (na := 1) (by decide +kernel) (by decide +kernel) (by decide +kernel) (by decide +kernel) rfl rfl (ev_recv_of ev_fH254) (ev_k377 x1 hl_x1)) ?_
  refine ev_go0 (ev_w_astore_n (M := (ev_Mof 184)) (pc := 8) (k := 2) (lv' := [(2, .null), (0, .ref 0), (1, .int x1)]) (by decide +kernel) (by decide +kernel) (Or.inr (Or.inl rfl)) rfl) ?_
  refine ev_go0 (ev_one_pure (M := (ev_Mof 184)) (pc := 9) (i := .aload_n 2) (len := 1) (pc' := 10) (lv' := [(2, .null), (0, .ref 0), (1, .int x1)]) (st' := [.null]) (by decide +kernel) rfl) ?_
  refine ev_go0 (ev_w_ifnonnull (M := (ev_Mof 184)) (pc := 10) (o := 13) (t := 13) (by decide +kernel) (Or.inr ⟨rfl, rfl⟩)) ?_
  rfl
theorem ev_k379 (x1 : Int32) (hl_x1 : (3 : Int) ≤ x1.toInt) {n : Nat} : ev_calld 12 381 [.ref 0, .int x1, .ref 723] ev_H0 n = some (.inl (some (.int (1))), ev_H0, n, 1, 6) := by
  refine ev_call_int (k := 7) (pcR := 14) (lv' := [(3, .retAddr 1), (0, .ref 0), (1, .int x1), (2, .ref 723)]) (v := (1)) (ty := .int) (by decide +kernel) rfl ?_ (by decide +kernel) (by decide +kernel) (by decide +kernel) (by decide)
  show ev_stepn _ 7 (0, [(0, .ref 0), (1, .int x1), (2, .ref 723)], [], _, _, 0, 0) = _
  refine ev_go0 (ev_one_pure (M := (ev_Mof 381)) (pc := 0) (i := .aload_n 2) (len := 1) (pc' := 1) (lv' := [(0, .ref 0), (1, .int x1), (2, .ref 723)]) (st' := [.ref 723]) (by decide +kernel) rfl) ?_
  refine ev_go0 (ev_w_iconst (M := (ev_Mof 381)) (pc := 1) (k := 0) (v := 0) (by decide +kernel) (by decide +kernel)) ?_
  refine ev_go0 (ev_one_pure (M := (ev_Mof 381)) (pc := 2) (i := .aload_n 0) (len := 1) (pc' := 3) (lv' := [(0, .ref 0), (1, .int x1), (2, .ref 723)]) (st' := [.ref 0, .int (0), .ref 723]) (by decide +kernel) rfl) ?_
  refine ev_go0 (ev_one_pure (M := (ev_Mof 381)) (pc := 3) (i := .iload_n 1) (len := 1) (pc' := 4) (lv' := [(0, .ref 0), (1, .int x1), (2, .ref 723)]) (st' := [.int x1, .ref 0, .int (0), .ref 723]) (by decide +kernel) rfl) ?_
  refine ev_go (ev_p_virtX (M := (ev_Mof 381)) (pc := 4) (x := 73) (t := 12) (mi := 184) (na := 1) (by decide +kernel) (by decide +kernel) (by decide +kernel) (by decide +kernel) rfl rfl (ev_recv_of ev_fH0) (ev_k378 x1 hl_x1) (by decide +kernel)) ?_
  refine ev_go0 (ev_w_astore_n (M := (ev_Mof 381)) (pc := 12) (k := 3) (lv' := [(3, .retAddr 1), (0, .ref 0), (1, .int x1), (2, .ref 723)]) (by decide +kernel) (by decide +kernel) (Or.inr (Or.inr ⟨_, rfl⟩)) rfl) ?_
  refine ev_go0 (ev_w_iconst (M := (ev_Mof 381)) (pc := 13) (k := 1) (v := 1) (by decide +kernel) (by decide +kernel)) ?_
  rfl
theorem ev_k380 (x1 : Int32) (hl_x1 : (3 : Int) ≤ x1.toInt) {n : Nat} : ev_calld 10 222 [.int x1, .int (0), .int (2)] (ev_H0.set 621 (.inr (13, (ev_F621.set 0 (.int (0)))))) n = some (.inl (some (.int (0))), (ev_H0.set 621 (.inr (13, (ev_F621.set 0 (.int (0)))))), n, 0, 0) := by
  refine ev_call_int (k := 7) (pcR := 15) (lv' := [(0, .int x1), (1, .int (0)), (2, .int (2))]) (v := (0)) (ty := .boolean) (by decide +kernel) rfl ?_ (by decide +kernel) (by decide +kernel) (by decide +kernel) (by decide)
  show ev_stepn _ 7 (0, [(0, .int x1), (1, .int (0)), (2, .int (2))], [], _, _, 0, 0) = _
  refine ev_go0 (ev_one_pure (M := (ev_Mof 222)) (pc := 0) (i := .iload_n 0) (len := 1) (pc' := 1) (lv' := [(0, .int x1), (1, .int (0)), (2, .int (2))]) (st' := [.int x1]) (by decide +kernel) rfl) ?_
  refine ev_go0 (ev_one_pure (M := (ev_Mof 222)) (pc := 1) (i := .iload_n 1) (len := 1) (pc' := 2) (lv' := [(0, .int x1), (1, .int (0)), (2, .int (2))]) (st' := [.int (0), .int x1]) (by decide +kernel) rfl) ?_
  refine ev_go0 (ev_w_icmp (M := (ev_Mof 222)) (pc := 2) (q := .lt) (o := 12) (b := false) (t := 5) (by decide +kernel) (ev_c_lt0 hl_x1 (by decide +kernel)) rfl) ?_
  refine ev_go0 (ev_one_pure (M := (ev_Mof 222)) (pc := 5) (i := .iload_n 0) (len := 1) (pc' := 6) (lv' := [(0, .int x1), (1, .int (0)), (2, .int (2))]) (st' := [.int x1]) (by decide +kernel) rfl) ?_
  refine ev_go0 (ev_one_pure (M := (ev_Mof 222)) (pc := 6) (i := .iload_n 2) (len := 1) (pc' := 7) (lv' := [(0, .int x1), (1, .int (0)), (2, .int (2))]) (st' := [.int (2), .int x1]) (by decide +kernel) rfl) ?_
  refine ev_go0 (ev_w_icmp (M := (ev_Mof 222)) (pc := 7) (q := .gt) (o := 7) (b := true) (t := 14) (by decide +kernel) (ev_c_gt1 hl_x1 (by decide +kernel)) rfl) ?_
  refine ev_go0 (ev_w_iconst (M := (ev_Mof 222)) (pc := 14) (k := 0) (v := 0) (by decide +kernel) (by decide +kernel)) ?_
  rfl
theorem ev_k381 (x1 : Int32) (hl_x1 : (3 : Int) ≤ x1.toInt) {n : Nat} : ev_calld 11 325 [.ref 621, .int x1] (ev_H0.set 621 (.inr (13, (ev_F621.set 0 (.int (0)))))) n = some (.inl (some (.int (0))), (ev_H0.set 621 (.inr (13, (ev_F621.set 0 (.int (0)))))), n, 0, 0) := by
  refine ev_call_int (k := 4) (pcR := 6) (lv' := [(0, .ref 621), (1, .int x1)]) (v := (0)) (ty := .boolean) (by decide +kernel) rfl ?_ (by decide +kernel) (by decide +kernel) (by decide +kernel) (by decide)
  show ev_stepn _ 4 (0, [(0, .ref 621), (1, .int x1)], [], _, _, 0, 0) = _
  refine ev_go0 (ev_one_pure (M := (ev_Mof 325)) (pc := 0) (i := .iload_n 1) (len := 1) (pc' := 1) (lv' := [(0, .ref 621), (1, .int x1)]) (st' := [.int x1]) (by decide +kernel) rfl) ?_
  refine ev_go0 (ev_w_iconst (M := (ev_Mof 325)) (pc := 1) (k := 0) (v := 0) (by decide +kernel) (by decide +kernel)) ?_
  refine ev_go0 (ev_w_iconst (M := (ev_Mof 325)) (pc := 2) (k := 2) (v := 2) (by decide +kernel) (by decide +kernel)) ?_
  refine ev_go0 (ev_w_stat (M := (ev_Mof 325)) (pc := 3) (y := 325) (kind := 2) (Or.inl rfl) (mi := 222) (na := 3) (by decide +kernel) (by decide +kernel) (by decide +kernel) (by decide +kernel) rfl rfl (ev_k380 x1 hl_x1)) ?_
  rfl
theorem ev_k382 (x1 : Int32) (hl_x1 : (3 : Int) ≤ x1.toInt) {n : Nat} : ev_calld 12 347 [.ref 621, .int x1] ev_H0 n = some (.inl (some (.int (0))), ((ev_H0.set 621 (.inr (13, (ev_F621.set 0 (.int (0)))))).set 621 (.inr (13, ((ev_F621.set 0 (.int (0))).set 0 (.int (1)))))), n, 0, 0) := by
  refine ev_call_int (k := 10) (pcR := 27) (lv' := [(0, .ref 621), (1, .int x1)]) (v := (0)) (ty := .int) (by decide +kernel) rfl ?_ (by decide +kernel) (by decide +kernel) (by decide +kernel) (by decide)
  show ev_stepn _ 10 (0, [(0, .ref 621), (1, .int x1)], [], _, _, 0, 0) = _
  refine ev_go0 (ev_one_pure (M := (ev_Mof 347)) (pc := 0) (i := .aload_n 0) (len := 1) (pc' := 1) (lv' := [(0, .ref 621), (1, .int x1)]) (st' := [.ref 621]) (by decide +kernel) rfl) ?_
  refine ev_go0 (ev_w_iconst (M := (ev_Mof 347)) (pc := 1) (k := 0) (v := 0) (by decide +kernel) (by decide +kernel)) ?_
  refine ev_go0 (ev_p_putf (M := (ev_Mof 347)) (pc := 2) (x := 321) (ci := 13) (f := 0) (by decide +kernel) (by decide +kernel) ev_fH621 rfl (by decide +kernel)) ?_
  refine ev_go0 (ev_one_pure (M := (ev_Mof 347)) (pc := 5) (i := .aload_n 0) (len := 1) (pc' := 6) (lv' := [(0, .ref 621), (1, .int x1)]) (st' := [.ref 621]) (by decide +kernel) rfl) ?_
  refine ev_go0 (ev_one_pure (M := (ev_Mof 347)) (pc := 6) (i := .iload_n 1) (len := 1) (pc' := 7) (lv' := [(0, .ref 621), (1, .int x1)]) (st' := [.int x1, .ref 621]) (by decide +kernel) rfl) ?_
  refine ev_go0 (ev_p_virt (M := (ev_Mof 347)) (pc := 7) (x := 716) (mi := 325) (na := 1) (by decide +kernel) (by decide +kernel) (by decide +kernel) (by decide +kernel) rfl rfl (ev_recv_of (ev_hself ev_fH621)) (ev_k381 x1 hl_x1)) ?_
  refine ev_go0 (ev_w_if (M := (ev_Mof 347)) (pc := 10) (q := .eq) (o := 12) (b := true) (t := 22) (by decide +kernel) (by decide +kernel) rfl) ?_
  refine ev_go0 (ev_one_pure (M := (ev_Mof 347)) (pc := 22) (i := .aload_n 0) (len := 1) (pc' := 23) (lv' := [(0, .ref 621), (1, .int x1)]) (st' := [.ref 621]) (by decide +kernel) rfl) ?_
  refine ev_go0 (ev_w_iconst (M := (ev_Mof 347)) (pc := 23) (k := 1) (v := 1) (by decide +kernel) (by decide +kernel)) ?_
  refine ev_go0 (ev_p_virt (M := (ev_Mof 347)) (pc := 24) (x := 342) (mi := 221) (na := 1) (by decide +kernel) (by decide +kernel) (by decide +kernel) (by decide +kernel) rfl rfl (ev_recv_of (ev_hself ev_fH621)) ev_k6) ?_
  rfl
theorem ev_p1_18_g (xs : Nat → Int32) (x1 : Int32) (hl_x1 : (3 : Int) ≤ x1.toInt) (e1 : xs 1 = x1) : ev_P1 xs 1364 := by
  refine ⟨24, [(6, .int (0)), (5, .int (1)), (4, .int (0)), (3, .ref 723), (2, .ref 621), (1, .ref 0), (0, .retAddr 0)], ((ev_H0.set 621 (.inr (13, (ev_F621.set 0 (.int (0)))))).set 621 (.inr (13, ((ev_F621.set 0 (.int (0))).set 0 (.int (1)))))), 724, 725, 3553592, ?_, ⟨rfl, rfl, rfl, rfl⟩, rfl, by decide, by decide⟩
  show ev_stepn _ _ (1364, [(4, .int (0)), (3, .ref 723), (2, .ref 621), (1, .ref 0), (0, .retAddr 0)], [], _, _, _, _) = _
  refine ev_go0 (ev_one_pure (M := ev_Mlaw) (pc := 1364) (i := .aload_n 1) (len := 1) (pc' := 1365) (lv' := [(4, .int (0)), (3, .ref 723), (2, .ref 621), (1, .ref 0), (0, .retAddr 0)]) (st' := [.ref 0]) (by decide +kernel) rfl) ?_
  refine ev_go0 (ev_one_pure (M := ev_Mlaw) (pc := 1365) (i := .aload_n 0) (len := 1) (pc' := 1366) (lv' := [(4, .int (0)), (3, .ref 723), (2, .ref 621), (1, .ref 0), (0, .retAddr 0)]) (st' := [.retAddr 0, .ref 0]) (by decide +kernel) rfl) ?_
  refine ev_go0 (ev_one_pure (M := ev_Mlaw) (pc := 1366) (i := .iload 4) (len := 2) (pc' := 1368) (lv' := [(4, .int (0)), (3, .ref 723), (2, .ref 621), (1, .ref 0), (0, .retAddr 0)]) (st' := [.int (0), .retAddr 0, .ref 0]) (by decide +kernel) rfl) ?_
  refine ev_go0 (ev_w_iconst (M := ev_Mlaw) (pc := 1368) (k := 1) (v := 1) (by decide +kernel) (by decide +kernel)) ?_
  refine ev_go0 (ev_w_iadd (M := ev_Mlaw) (pc := 1369) (v := (1)) (by decide +kernel) (by decide +kernel)) ?_
  refine ev_go0 (ev_w_scr (M := ev_Mlaw) (pc := 1370) (v := x1) (j := 1) (by decide +kernel) (by decide +kernel) (by decide +kernel) e1) ?_
  refine ev_go0 (ev_one_pure (M := ev_Mlaw) (pc := 1371) (i := .aload_n 3) (len := 1) (pc' := 1372) (lv' := [(4, .int (0)), (3, .ref 723), (2, .ref 621), (1, .ref 0), (0, .retAddr 0)]) (st' := [.ref 723, .int x1, .ref 0]) (by decide +kernel) rfl) ?_
  refine ev_go (ev_w_stat (M := ev_Mlaw) (pc := 1372) (y := 191) (kind := 8) (Or.inr (Or.inr rfl)) (mi := 381) (na := 3) (by decide +kernel) (by decide +kernel) (by decide +kernel) (by decide +kernel) rfl rfl (ev_k379 x1 hl_x1)) ?_
  refine ev_go0 (ev_w_istore (M := ev_Mlaw) (pc := 1375) (k := 5) (lv' := [(5, .int (1)), (4, .int (0)), (3, .ref 723), (2, .ref 621), (1, .ref 0), (0, .retAddr 0)]) (by decide +kernel) (by decide +kernel) rfl) ?_
  refine ev_go0 (ev_one_pure (M := ev_Mlaw) (pc := 1377) (i := .aload_n 2) (len := 1) (pc' := 1378) (lv' := [(5, .int (1)), (4, .int (0)), (3, .ref 723), (2, .ref 621), (1, .ref 0), (0, .retAddr 0)]) (st' := [.ref 621]) (by decide +kernel) rfl) ?_
  refine ev_go0 (ev_one_pure (M := ev_Mlaw) (pc := 1378) (i := .aload_n 0) (len := 1) (pc' := 1379) (lv' := [(5, .int (1)), (4, .int (0)), (3, .ref 723), (2, .ref 621), (1, .ref 0), (0, .retAddr 0)]) (st' := [.retAddr 0, .ref 621]) (by decide +kernel) rfl) ?_
  refine ev_go0 (ev_one_pure (M := ev_Mlaw) (pc := 1379) (i := .iload 4) (len := 2) (pc' := 1381) (lv' := [(5, .int (1)), (4, .int (0)), (3, .ref 723), (2, .ref 621), (1, .ref 0), (0, .retAddr 0)]) (st' := [.int (0), .retAddr 0, .ref 621]) (by decide +kernel) rfl) ?_
  refine ev_go0 (ev_w_iconst (M := ev_Mlaw) (pc := 1381) (k := 1) (v := 1) (by decide +kernel) (by decide +kernel)) ?_
  refine ev_go0 (ev_w_iadd (M := ev_Mlaw) (pc := 1382) (v := (1)) (by decide +kernel) (by decide +kernel)) ?_
  refine ev_go0 (ev_w_scr (M := ev_Mlaw) (pc := 1383) (v := x1) (j := 1) (by decide +kernel) (by decide +kernel) (by decide +kernel) e1) ?_
  refine ev_go0 (ev_p_virt (M := ev_Mlaw) (pc := 1384) (x := 193) (mi := 347) (na := 1) (by decide +kernel) (by decide +kernel) (by decide +kernel) (by decide +kernel) rfl rfl (ev_recv_of ev_fH621) (ev_k382 x1 hl_x1)) ?_
  refine ev_go0 (ev_w_istore (M := ev_Mlaw) (pc := 1387) (k := 6) (lv' := [(6, .int (0)), (5, .int (1)), (4, .int (0)), (3, .ref 723), (2, .ref 621), (1, .ref 0), (0, .retAddr 0)]) (by decide +kernel) (by decide +kernel) rfl) ?_
  refine ev_go0 (ev_one_pure (M := ev_Mlaw) (pc := 1389) (i := .aload_n 2) (len := 1) (pc' := 1390) (lv' := [(6, .int (0)), (5, .int (1)), (4, .int (0)), (3, .ref 723), (2, .ref 621), (1, .ref 0), (0, .retAddr 0)]) (st' := [.ref 621]) (by decide +kernel) rfl) ?_
  refine ev_go0 (ev_p_virt (M := ev_Mlaw) (pc := 1390) (x := 131) (mi := 220) (na := 0) (by decide +kernel) (by decide +kernel) (by decide +kernel) (by decide +kernel) rfl rfl (ev_recv_of (ev_hself (ev_hself ev_fH621))) ev_k8) ?_
  refine ev_go0 (ev_one_pure (M := ev_Mlaw) (pc := 1393) (i := .iload 5) (len := 2) (pc' := 1395) (lv' := [(6, .int (0)), (5, .int (1)), (4, .int (0)), (3, .ref 723), (2, .ref 621), (1, .ref 0), (0, .retAddr 0)]) (st' := [.int (1), .int (1)]) (by decide +kernel) rfl) ?_
  refine ev_go0 (ev_w_icmp (M := ev_Mlaw) (pc := 1395) (q := .eq) (o := 5) (b := true) (t := 1400) (by decide +kernel) (by decide +kernel) rfl) ?_
  refine ev_go0 (ev_one_pure (M := ev_Mlaw) (pc := 1400) (i := .iload 5) (len := 2) (pc' := 1402) (lv' := [(6, .int (0)), (5, .int (1)), (4, .int (0)), (3, .ref 723), (2, .ref 621), (1, .ref 0), (0, .retAddr 0)]) (st' := [.int (1)]) (by decide +kernel) rfl) ?_
  refine ev_go0 (ev_w_if (M := ev_Mlaw) (pc := 1402) (q := .ne) (o := 15) (b := true) (t := 1417) (by decide +kernel) (by decide +kernel) rfl) ?_
  refine ev_go0 (ev_one_pure (M := ev_Mlaw) (pc := 1417) (i := .goto 855) (len := 3) (pc' := 2272) (lv' := [(6, .int (0)), (5, .int (1)), (4, .int (0)), (3, .ref 723), (2, .ref 621), (1, .ref 0), (0, .retAddr 0)]) (st' := []) (by decide +kernel) rfl) ?_
  rfl
theorem ev_p1arm18 (xs : Nat → Int32) : ev_P1 xs 1364 := by
  rcases ev_split5 (xs 1) with h1 | h1 | h1 | h1 | h1
  · skip
    exact ev_p1_18_n xs (xs 1) h1 rfl
  · skip
    exact ev_p1_18_0 xs h1
  · skip
    exact ev_p1_18_1 xs h1
  · skip
    exact ev_p1_18_2 xs h1
  · skip
    exact ev_p1_18_g xs (xs 1) h1 rfl
theorem ev_k383 (x1 : Int32) (hu_x1 : x1.toInt ≤ (-1 : Int)) (x2 : Int32) (hu_x2 : x2.toInt ≤ (-1 : Int)) {n : Nat} : ev_calld 11 185 [.ref 0, .int x1, .int x2] ev_H0 n = some (.inr "java/lang/IndexOutOfBoundsException", ev_H0, n, 1, 6) := by
  refine ev_call_thrown (k := 7) (pcR := 25) (x := 160) (lv' := [(3, .null), (0, .ref 0), (1, .int x1), (2, .int x2)]) (by decide +kernel) rfl ?_ (by decide +kernel) (by decide +kernel) (by decide +kernel) (by decide) (by decide)
  show ev_stepn _ 7 (0, [(0, .ref 0), (1, .int x1), (2, .int x2)], [], _, _, 0, 0) = _
  refine ev_go0 (ev_one_pure (M := (ev_Mof 185)) (pc := 0) (i := .aload_n 0) (len := 1) (pc' := 1) (lv' := [(0, .ref 0), (1, .int x1), (2, .int x2)]) (st' := [.ref 0]) (by decide +kernel) rfl) ?_
  refine ev_go0 (ev_p_getf (M := (ev_Mof 185)) (pc := 1) (x := 48) (ci := 12) (f := 8) (fin := 1) (v := .ref 254) (by decide +kernel) (by decide +kernel) ev_fH0 rfl) ?_
  refine ev_go0 (ev_one_pure (M := (ev_Mof 185)) (pc := 4) (i := .iload_n 1) (len := 1) (pc' := 5) (lv' := [(0, .ref 0), (1, .int x1), (2, .int x2)]) (st' := [.int x1, .ref 254]) (by decide +kernel) rfl) ?_
  refine ev_go0 (ev_p_virt (M := (ev_Mof 185)) (pc := 5) (x := 221) (mi := 1) (na := 1) (by decide +kernel) (by decide +kernel) (by decide +kernel) (by decide +kernel) rfl rfl (ev_recv_of ev_fH254) (ev_k355 x1 hu_x1)) ?_
  refine ev_go0 (ev_w_astore_n (M := (ev_Mof 185)) (pc := 8) (k := 3) (lv' := [(3, .null), (0, .ref 0), (1, .int x1), (2, .int x2)]) (by decide +kernel) (by decide +kernel) (Or.inr (Or.inl rfl)) rfl) ?_
  refine ev_go0 (ev_one_pure (M := (ev_Mof 185)) (pc := 9) (i := .aload_n 3) (len := 1) (pc' := 10) (lv' := [(3, .null), (0, .ref 0), (1, .int x1), (2, .int x2)]) (st' := [.null]) (by decide +kernel) rfl) ?_
  refine ev_go0 (ev_w_ifnull (M := (ev_Mof 185)) (pc := 10) (o := 15) (t := 25) (by decide +kernel) (Or.inl ⟨rfl, rfl⟩)) ?_
  rfl
theorem ev_k384 (x1 : Int32) (hu_x1 : x1.toInt ≤ (-1 : Int)) (x2 : Int32) (hu_x2 : x2.toInt ≤ (-1 : Int)) {n : Nat} : ev_calld 12 382 [.ref 0, .int x1, .int x2, .ref 723] ev_H0 n = some (.inl (some (.int (1))), ev_H0, n, 1, 6) := by
  refine ev_call_int (k := 8) (pcR := 16) (lv' := [(4, .retAddr 1), (0, .ref 0), (1, .int x1), (2, .int x2), (3, .ref 723)]) (v := (1)) (ty := .int) (by decide +kernel) rfl ?_ (by decide +kernel) (by decide +kernel) (by decide +kernel) (by decide)
  show ev_stepn _ 8 (0, [(0, .ref 0), (1, .int x1), (2, .int x2), (3, .ref 723)], [], _, _, 0, 0) = _
  refine ev_go0 (ev_one_pure (M := (ev_Mof 382)) (pc := 0) (i := .aload_n 3) (len := 1) (pc' := 1) (lv' := [(0, .ref 0), (1, .int x1), (2, .int x2), (3, .ref 723)]) (st' := [.ref 723]) (by decide +kernel) rfl) ?_
  refine ev_go0 (ev_w_iconst (M := (ev_Mof 382)) (pc := 1) (k := 0) (v := 0) (by decide +kernel) (by decide +kernel)) ?_
  refine ev_go0 (ev_one_pure (M := (ev_Mof 382)) (pc := 2) (i := .aload_n 0) (len := 1) (pc' := 3) (lv' := [(0, .ref 0), (1, .int x1), (2, .int x2), (3, .ref 723)]) (st' := [.ref 0, .int (0), .ref 723]) (by decide +kernel) rfl) ?_
  refine ev_go0 (ev_one_pure (M := (ev_Mof 382)) (pc := 3) (i := .iload_n 1) (len := 1) (pc' := 4) (lv' := [(0, .ref 0), (1, .int x1), (2, .int x2), (3, .ref 723)]) (st' := [.int x1, .ref 0, .int (0), .ref 723]) (by decide +kernel) rfl) ?_
  refine ev_go0 (ev_one_pure (M := (ev_Mof 382)) (pc := 4) (i := .iload_n 2) (len := 1) (pc' := 5) (lv' := [(0, .ref 0), (1, .int x1), (2, .int x2), (3, .ref 723)]) (st' := [.int x2, .int x1, .ref 0, .int (0), .ref 723]) (by decide +kernel) rfl) ?_
  refine ev_go (ev_p_virtX (M := (ev_Mof 382)) (pc := 5) (x := 76) (t := 13) (mi := 185) (na := 2) (by decide +kernel) (by decide +kernel) (by decide +kernel) (by decide +kernel) rfl rfl (ev_recv_of ev_fH0) (ev_k383 x1 hu_x1 x2 hu_x2) (by decide +kernel)) ?_
  refine ev_go0 (ev_w_astore (M := (ev_Mof 382)) (pc := 13) (k := 4) (lv' := [(4, .retAddr 1), (0, .ref 0), (1, .int x1), (2, .int x2), (3, .ref 723)]) (by decide +kernel) (by decide +kernel) (Or.inr (Or.inr ⟨_, rfl⟩)) rfl) ?_
  refine ev_go0 (ev_w_iconst (M := (ev_Mof 382)) (pc := 15) (k := 1) (v := 1) (by decide +kernel) (by decide +kernel)) ?_
  rfl
theorem ev_k385 (x1 : Int32) (hu_x1 : x1.toInt ≤ (-1 : Int)) {n : Nat} : ev_calld 10 222 [.int x1, .int (0), .int (2)] ev_H0 n = some (.inl (some (.int (0))), ev_H0, n, 0, 0) := by
  refine ev_call_int (k := 4) (pcR := 15) (lv' := [(0, .int x1), (1, .int (0)), (2, .int (2))]) (v := (0)) (ty := .boolean) (by decide +kernel) rfl ?_ (by decide +kernel) (by decide +kernel) (by decide +kernel) (by decide)
  show ev_stepn _ 4 (0, [(0, .int x1), (1, .int (0)), (2, .int (2))], [], _, _, 0, 0) = _
  refine ev_go0 (ev_one_pure (M := (ev_Mof 222)) (pc := 0) (i := .iload_n 0) (len := 1) (pc' := 1) (lv' := [(0, .int x1), (1, .int (0)), (2, .int (2))]) (st' := [.int x1]) (by decide +kernel) rfl) ?_
  refine ev_go0 (ev_one_pure (M := (ev_Mof 222)) (pc := 1) (i := .iload_n 1) (len := 1) (pc' := 2) (lv' := [(0, .int x1), (1, .int (0)), (2, .int (2))]) (st' := [.int (0), .int x1]) (by decide +kernel) rfl) ?_
  refine ev_go0 (ev_w_icmp (M := (ev_Mof 222)) (pc := 2) (q := .lt) (o := 12) (b := true) (t := 14) (by decide +kernel) (ev_c_lt1 hu_x1 (by decide +kernel)) rfl) ?_
  refine ev_go0 (ev_w_iconst (M := (ev_Mof 222)) (pc := 14) (k := 0) (v := 0) (by decide +kernel) (by decide +kernel)) ?_
  rfl
theorem ev_k386 (x1 : Int32) (hu_x1 : x1.toInt ≤ (-1 : Int)) {n : Nat} : ev_calld 11 325 [.ref 621, .int x1] ev_H0 n = some (.inl (some (.int (0))), ev_H0, n, 0, 0) := by
  refine ev_call_int (k := 4) (pcR := 6) (lv' := [(0, .ref 621), (1, .int x1)]) (v := (0)) (ty := .boolean) (by decide +kernel) rfl ?_ (by decide +kernel) (by decide +kernel) (by decide +kernel) (by decide)
  show ev_stepn _ 4 (0, [(0, .ref 621), (1, .int x1)], [], _, _, 0, 0) = _
  refine ev_go0 (ev_one_pure (M := (ev_Mof 325)) (pc := 0) (i := .iload_n 1) (len := 1) (pc' := 1) (lv' := [(0, .ref 621), (1, .int x1)]) (st' := [.int x1]) (by decide +kernel) rfl) ?_
  refine ev_go0 (ev_w_iconst (M := (ev_Mof 325)) (pc := 1) (k := 0) (v := 0) (by decide +kernel) (by decide +kernel)) ?_
  refine ev_go0 (ev_w_iconst (M := (ev_Mof 325)) (pc := 2) (k := 2) (v := 2) (by decide +kernel) (by decide +kernel)) ?_
  refine ev_go0 (ev_w_stat (M := (ev_Mof 325)) (pc := 3) (y := 325) (kind := 2) (Or.inl rfl) (mi := 222) (na := 3) (by decide +kernel) (by decide +kernel) (by decide +kernel) (by decide +kernel) rfl rfl (ev_k385 x1 hu_x1)) ?_
  rfl
theorem ev_k387 (x1 : Int32) (hu_x1 : x1.toInt ≤ (-1 : Int)) (x2 : Int32) (hu_x2 : x2.toInt ≤ (-1 : Int)) {n : Nat} : ev_calld 12 348 [.ref 621, .int x1, .int x2] ev_H0 n = some (.inl (some (.int (32))), (ev_H0.set 621 (.inr (13, (ev_F621.set 0 (.int (1)))))), n, 0, 0) := by
  refine ev_call_int (k := 12) (pcR := 58) (lv' := [(0, .ref 621), (1, .int x1), (2, .int x2)]) (v := (32)) (ty := .char) (by decide +kernel) rfl ?_ (by decide +kernel) (by decide +kernel) (by decide +kernel) (by decide)
  show ev_stepn _ 12 (0, [(0, .ref 621), (1, .int x1), (2, .int x2)], [], _, _, 0, 0) = _
  refine ev_go0 (ev_one_pure (M := (ev_Mof 348)) (pc := 0) (i := .aload_n 0) (len := 1) (pc' := 1) (lv' := [(0, .ref 621), (1, .int x1), (2, .int x2)]) (st' := [.ref 621]) (by decide +kernel) rfl) ?_
  refine ev_go0 (ev_one_pure (M := (ev_Mof 348)) (pc := 1) (i := .aload_n 0) (len := 1) (pc' := 2) (lv' := [(0, .ref 621), (1, .int x1), (2, .int x2)]) (st' := [.ref 621, .ref 621]) (by decide +kernel) rfl) ?_
  refine ev_go0 (ev_one_pure (M := (ev_Mof 348)) (pc := 2) (i := .iload_n 1) (len := 1) (pc' := 3) (lv' := [(0, .ref 621), (1, .int x1), (2, .int x2)]) (st' := [.int x1, .ref 621, .ref 621]) (by decide +kernel) rfl) ?_
  refine ev_go0 (ev_p_virt (M := (ev_Mof 348)) (pc := 3) (x := 716) (mi := 325) (na := 1) (by decide +kernel) (by decide +kernel) (by decide +kernel) (by decide +kernel) rfl rfl (ev_recv_of ev_fH621) (ev_k386 x1 hu_x1)) ?_
  refine ev_go0 (ev_w_if (M := (ev_Mof 348)) (pc := 6) (q := .eq) (o := 23) (b := true) (t := 29) (by decide +kernel) (by decide +kernel) rfl) ?_
  refine ev_go0 (ev_w_iconst (M := (ev_Mof 348)) (pc := 29) (k := 1) (v := 1) (by decide +kernel) (by decide +kernel)) ?_
  refine ev_go0 (ev_p_putf (M := (ev_Mof 348)) (pc := 30) (x := 321) (ci := 13) (f := 0) (by decide +kernel) (by decide +kernel) ev_fH621 rfl (by decide +kernel)) ?_
  refine ev_go0 (ev_one_pure (M := (ev_Mof 348)) (pc := 33) (i := .aload_n 0) (len := 1) (pc' := 34) (lv' := [(0, .ref 621), (1, .int x1), (2, .int x2)]) (st' := [.ref 621]) (by decide +kernel) rfl) ?_
  refine ev_go0 (ev_p_getf (M := (ev_Mof 348)) (pc := 34) (x := 321) (ci := 13) (f := 0) (fin := 0) (v := .int (1)) (by decide +kernel) (by decide +kernel) (ev_hself ev_fH621) rfl) ?_
  refine ev_go0 (ev_w_if (M := (ev_Mof 348)) (pc := 37) (q := .le) (o := 8) (b := false) (t := 40) (by decide +kernel) (by decide +kernel) rfl) ?_
  refine ev_go0 (ev_w_bipush (M := (ev_Mof 348)) (pc := 40) (k := 32) (v := 32) (by decide +kernel) (by decide +kernel)) ?_
  refine ev_go0 (ev_one_pure (M := (ev_Mof 348)) (pc := 42) (i := .goto 16) (len := 3) (pc' := 58) (lv' := [(0, .ref 621), (1, .int x1), (2, .int x2)]) (st' := [.int (32)]) (by decide +kernel) rfl) ?_
  rfl
theorem ev_p1_19_nn (xs : Nat → Int32) (x1 : Int32) (hu_x1 : x1.toInt ≤ (-1 : Int)) (x2 : Int32) (hu_x2 : x2.toInt ≤ (-1 : Int)) (e1 : xs 1 = x1) (e2 : xs 2 = x2) : ev_P1 xs 1420 := by
  refine ⟨34, [(6, .int (32)), (5, .int (1)), (4, .int (0)), (3, .ref 723), (2, .ref 621), (1, .ref 0), (0, .retAddr 0)], (ev_H0.set 621 (.inr (13, (ev_F621.set 0 (.int (1)))))), 724, 725, 3553592, ?_, ⟨rfl, rfl, rfl, rfl⟩, rfl, by decide, by decide⟩
  show ev_stepn _ _ (1420, [(4, .int (0)), (3, .ref 723), (2, .ref 621), (1, .ref 0), (0, .retAddr 0)], [], _, _, _, _) = _
  refine ev_go0 (ev_one_pure (M := ev_Mlaw) (pc := 1420) (i := .aload_n 1) (len := 1) (pc' := 1421) (lv' := [(4, .int (0)), (3, .ref 723), (2, .ref 621), (1, .ref 0), (0, .retAddr 0)]) (st' := [.ref 0]) (by decide +kernel) rfl) ?_
  refine ev_go0 (ev_one_pure (M := ev_Mlaw) (pc := 1421) (i := .aload_n 0) (len := 1) (pc' := 1422) (lv' := [(4, .int (0)), (3, .ref 723), (2, .ref 621), (1, .ref 0), (0, .retAddr 0)]) (st' := [.retAddr 0, .ref 0]) (by decide +kernel) rfl) ?_
  refine ev_go0 (ev_one_pure (M := ev_Mlaw) (pc := 1422) (i := .iload 4) (len := 2) (pc' := 1424) (lv' := [(4, .int (0)), (3, .ref 723), (2, .ref 621), (1, .ref 0), (0, .retAddr 0)]) (st' := [.int (0), .retAddr 0, .ref 0]) (by decide +kernel) rfl) ?_
  refine ev_go0 (ev_w_iconst (M := ev_Mlaw) (pc := 1424) (k := 1) (v := 1) (by decide +kernel) (by decide +kernel)) ?_
  refine ev_go0 (ev_w_iadd (M := ev_Mlaw) (pc := 1425) (v := (1)) (by decide +kernel) (by decide +kernel)) ?_
  refine ev_go0 (ev_w_scr (M := ev_Mlaw) (pc := 1426) (v := x1) (j := 1) (by decide +kernel) (by decide +kernel) (by decide +kernel) e1) ?_
  refine ev_go0 (ev_one_pure (M := ev_Mlaw) (pc := 1427) (i := .aload_n 0) (len := 1) (pc' := 1428) (lv' := [(4, .int (0)), (3, .ref 723), (2, .ref 621), (1, .ref 0), (0, .retAddr 0)]) (st' := [.retAddr 0, .int x1, .ref 0]) (by decide +kernel) rfl) ?_
  refine ev_go0 (ev_one_pure (M := ev_Mlaw) (pc := 1428) (i := .iload 4) (len := 2) (pc' := 1430) (lv' := [(4, .int (0)), (3, .ref 723), (2, .ref 621), (1, .ref 0), (0, .retAddr 0)]) (st' := [.int (0), .retAddr 0, .int x1, .ref 0]) (by decide +kernel) rfl) ?_
  refine ev_go0 (ev_w_iconst (M := ev_Mlaw) (pc := 1430) (k := 2) (v := 2) (by decide +kernel) (by decide +kernel)) ?_
  refine ev_go0 (ev_w_iadd (M := ev_Mlaw) (pc := 1431) (v := (2)) (by decide +kernel) (by decide +kernel)) ?_
  refine ev_go0 (ev_w_scr (M := ev_Mlaw) (pc := 1432) (v := x2) (j := 2) (by decide +kernel) (by decide +kernel) (by decide +kernel) e2) ?_
  refine ev_go0 (ev_one_pure (M := ev_Mlaw) (pc := 1433) (i := .aload_n 3) (len := 1) (pc' := 1434) (lv' := [(4, .int (0)), (3, .ref 723), (2, .ref 621), (1, .ref 0), (0, .retAddr 0)]) (st' := [.ref 723, .int x2, .int x1, .ref 0]) (by decide +kernel) rfl) ?_
  refine ev_go (ev_w_stat (M := ev_Mlaw) (pc := 1434) (y := 194) (kind := 8) (Or.inr (Or.inr rfl)) (mi := 382) (na := 4) (by decide +kernel) (by decide +kernel) (by decide +kernel) (by decide +kernel) rfl rfl (ev_k384 x1 hu_x1 x2 hu_x2)) ?_
  refine ev_go0 (ev_w_istore (M := ev_Mlaw) (pc := 1437) (k := 5) (lv' := [(5, .int (1)), (4, .int (0)), (3, .ref 723), (2, .ref 621), (1, .ref 0), (0, .retAddr 0)]) (by decide +kernel) (by decide +kernel) rfl) ?_
  refine ev_go0 (ev_one_pure (M := ev_Mlaw) (pc := 1439) (i := .aload_n 2) (len := 1) (pc' := 1440) (lv' := [(5, .int (1)), (4, .int (0)), (3, .ref 723), (2, .ref 621), (1, .ref 0), (0, .retAddr 0)]) (st' := [.ref 621]) (by decide +kernel) rfl) ?_
  refine ev_go0 (ev_one_pure (M := ev_Mlaw) (pc := 1440) (i := .aload_n 0) (len := 1) (pc' := 1441) (lv' := [(5, .int (1)), (4, .int (0)), (3, .ref 723), (2, .ref 621), (1, .ref 0), (0, .retAddr 0)]) (st' := [.retAddr 0, .ref 621]) (by decide +kernel) rfl) ?_
  refine ev_go0 (ev_one_pure (M := ev_Mlaw) (pc := 1441) (i := .iload 4) (len := 2) (pc' := 1443) (lv' := [(5, .int (1)), (4, .int (0)), (3, .ref 723), (2, .ref 621), (1, .ref 0), (0, .retAddr 0)]) (st' := [.int (0), .retAddr 0, .ref 621]) (by decide +kernel) rfl) ?_
  refine ev_go0 (ev_w_iconst (M := ev_Mlaw) (pc := 1443) (k := 1) (v := 1) (by decide +kernel) (by decide +kernel)) ?_
  refine ev_go0 (ev_w_iadd (M := ev_Mlaw) (pc := 1444) (v := (1)) (by decide +kernel) (by decide +kernel)) ?_
  refine ev_go0 (ev_w_scr (M := ev_Mlaw) (pc := 1445) (v := x1) (j := 1) (by decide +kernel) (by decide +kernel) (by decide +kernel) e1) ?_
  refine ev_go0 (ev_one_pure (M := ev_Mlaw) (pc := 1446) (i := .aload_n 0) (len := 1) (pc' := 1447) (lv' := [(5, .int (1)), (4, .int (0)), (3, .ref 723), (2, .ref 621), (1, .ref 0), (0, .retAddr 0)]) (st' := [.retAddr 0, .int x1, .ref 621]) (by decide +kernel) rfl) ?_
  refine ev_go0 (ev_one_pure (M := ev_Mlaw) (pc := 1447) (i := .iload 4) (len := 2) (pc' := 1449) (lv' := [(5, .int (1)), (4, .int (0)), (3, .ref 723), (2, .ref 621), (1, .ref 0), (0, .retAddr 0)]) (st' := [.int (0), .retAddr 0, .int x1, .ref 621]) (by decide +kernel) rfl) ?_
  refine ev_go0 (ev_w_iconst (M := ev_Mlaw) (pc := 1449) (k := 2) (v := 2) (by decide +kernel) (by decide +kernel)) ?_
  refine ev_go0 (ev_w_iadd (M := ev_Mlaw) (pc := 1450) (v := (2)) (by decide +kernel) (by decide +kernel)) ?_
  refine ev_go0 (ev_w_scr (M := ev_Mlaw) (pc := 1451) (v := x2) (j := 2) (by decide +kernel) (by decide +kernel) (by decide +kernel) e2) ?_
  refine ev_go0 (ev_p_virt (M := ev_Mlaw) (pc := 1452) (x := 196) (mi := 348) (na := 2) (by decide +kernel) (by decide +kernel) (by decide +kernel) (by decide +kernel) rfl rfl (ev_recv_of ev_fH621) (ev_k387 x1 hu_x1 x2 hu_x2)) ?_
  refine ev_go0 (ev_w_istore (M := ev_Mlaw) (pc := 1455) (k := 6) (lv' := [(6, .int (32)), (5, .int (1)), (4, .int (0)), (3, .ref 723), (2, .ref 621), (1, .ref 0), (0, .retAddr 0)]) (by decide +kernel) (by decide +kernel) rfl) ?_
  refine ev_go0 (ev_one_pure (M := ev_Mlaw) (pc := 1457) (i := .aload_n 2) (len := 1) (pc' := 1458) (lv' := [(6, .int (32)), (5, .int (1)), (4, .int (0)), (3, .ref 723), (2, .ref 621), (1, .ref 0), (0, .retAddr 0)]) (st' := [.ref 621]) (by decide +kernel) rfl) ?_
  refine ev_go0 (ev_p_virt (M := ev_Mlaw) (pc := 1458) (x := 131) (mi := 220) (na := 0) (by decide +kernel) (by decide +kernel) (by decide +kernel) (by decide +kernel) rfl rfl (ev_recv_of (ev_hself ev_fH621)) ev_k26) ?_
  refine ev_go0 (ev_one_pure (M := ev_Mlaw) (pc := 1461) (i := .iload 5) (len := 2) (pc' := 1463) (lv' := [(6, .int (32)), (5, .int (1)), (4, .int (0)), (3, .ref 723), (2, .ref 621), (1, .ref 0), (0, .retAddr 0)]) (st' := [.int (1), .int (1)]) (by decide +kernel) rfl) ?_
  refine ev_go0 (ev_w_icmp (M := ev_Mlaw) (pc := 1463) (q := .eq) (o := 5) (b := true) (t := 1468) (by decide +kernel) (by decide +kernel) rfl) ?_
  refine ev_go0 (ev_one_pure (M := ev_Mlaw) (pc := 1468) (i := .iload 5) (len := 2) (pc' := 1470) (lv' := [(6, .int (32)), (5, .int (1)), (4, .int (0)), (3, .ref 723), (2, .ref 621), (1, .ref 0), (0, .retAddr 0)]) (st' := [.int (1)]) (by decide +kernel) rfl) ?_
  refine ev_go0 (ev_w_if (M := ev_Mlaw) (pc := 1470) (q := .ne) (o := 15) (b := true) (t := 1485) (by decide +kernel) (by decide +kernel) rfl) ?_
  refine ev_go0 (ev_one_pure (M := ev_Mlaw) (pc := 1485) (i := .goto 787) (len := 3) (pc' := 2272) (lv' := [(6, .int (32)), (5, .int (1)), (4, .int (0)), (3, .ref 723), (2, .ref 621), (1, .ref 0), (0, .retAddr 0)]) (st' := []) (by decide +kernel) rfl) ?_
  rfl
theorem ev_k388 (x1 : Int32) (hu_x1 : x1.toInt ≤ (-1 : Int)) (x2 : Int32) (hl_x2 : (0 : Int) ≤ x2.toInt) {n : Nat} : ev_calld 11 185 [.ref 0, .int x1, .int x2] ev_H0 n = some (.inr "java/lang/IndexOutOfBoundsException", ev_H0, n, 1, 6) := by
  refine ev_call_thrown (k := 7) (pcR := 25) (x := 160) (lv' := [(3, .null), (0, .ref 0), (1, .int x1), (2, .int x2)]) (by decide +kernel) rfl ?_ (by decide +kernel) (by decide +kernel) (by decide +kernel) (by decide) (by decide)
  show ev_stepn _ 7 (0, [(0, .ref 0), (1, .int x1), (2, .int x2)], [], _, _, 0, 0) = _
  refine ev_go0 (ev_one_pure (M := (ev_Mof 185)) (pc := 0) (i := .aload_n 0) (len := 1) (pc' := 1) (lv' := [(0, .ref 0), (1, .int x1), (2, .int x2)]) (st' := [.ref 0]) (by decide +kernel) rfl) ?_
  refine ev_go0 (ev_p_getf (M := (ev_Mof 185)) (pc := 1) (x := 48) (ci := 12) (f := 8) (fin := 1) (v := .ref 254) (by decide +kernel) (by decide +kernel) ev_fH0 rfl) ?_
  refine ev_go0 (ev_one_pure (M := (ev_Mof 185)) (pc := 4) (i := .iload_n 1) (len := 1) (pc' := 5) (lv' := [(0, .ref 0), (1, .int x1), (2, .int x2)]) (st' := [.int x1, .ref 254]) (by decide +kernel) rfl) ?_
  refine ev_go0 (ev_p_virt (M := (ev_Mof 185)) (pc := 5) (x := 221) (mi := 1) (na := 1) (by decide +kernel) (by decide +kernel) (by decide +kernel) (by decide +kernel) rfl rfl (ev_recv_of ev_fH254) (ev_k355 x1 hu_x1)) ?_
  refine ev_go0 (ev_w_astore_n (M := (ev_Mof 185)) (pc := 8) (k := 3) (lv' := [(3, .null), (0, .ref 0), (1, .int x1), (2, .int x2)]) (by decide +kernel) (by decide +kernel) (Or.inr (Or.inl rfl)) rfl) ?_
  refine ev_go0 (ev_one_pure (M := (ev_Mof 185)) (pc := 9) (i := .aload_n 3) (len := 1) (pc' := 10) (lv' := [(3, .null), (0, .ref 0), (1, .int x1), (2, .int x2)]) (st' := [.null]) (by decide +kernel) rfl) ?_
  refine ev_go0 (ev_w_ifnull (M := (ev_Mof 185)) (pc := 10) (o := 15) (t := 25) (by decide +kernel) (Or.inl ⟨rfl, rfl⟩)) ?_
  rfl
theorem ev_k389 (x1 : Int32) (hu_x1 : x1.toInt ≤ (-1 : Int)) (x2 : Int32) (hl_x2 : (0 : Int) ≤ x2.toInt) {n : Nat} : ev_calld 12 382 [.ref 0, .int x1, .int x2, .ref 723] ev_H0 n = some (.inl (some (.int (1))), ev_H0, n, 1, 6) := by
  refine ev_call_int (k := 8) (pcR := 16) (lv' := [(4, .retAddr 1), (0, .ref 0), (1, .int x1), (2, .int x2), (3, .ref 723)]) (v := (1)) (ty := .int) (by decide +kernel) rfl ?_ (by decide +kernel) (by decide +kernel) (by decide +kernel) (by decide)
  show ev_stepn _ 8 (0, [(0, .ref 0), (1, .int x1), (2, .int x2), (3, .ref 723)], [], _, _, 0, 0) = _
  refine ev_go0 (ev_one_pure (M := (ev_Mof 382)) (pc := 0) (i := .aload_n 3) (len := 1) (pc' := 1) (lv' := [(0, .ref 0), (1, .int x1), (2, .int x2), (3, .ref 723)]) (st' := [.ref 723]) (by decide +kernel) rfl) ?_
  refine ev_go0 (ev_w_iconst (M := (ev_Mof 382)) (pc := 1) (k := 0) (v := 0) (by decide +kernel) (by decide +kernel)) ?_
  refine ev_go0 (ev_one_pure (M := (ev_Mof 382)) (pc := 2) (i := .aload_n 0) (len := 1) (pc' := 3) (lv' := [(0, .ref 0), (1, .int x1), (2, .int x2), (3, .ref 723)]) (st' := [.ref 0, .int (0), .ref 723]) (by decide +kernel) rfl) ?_
  refine ev_go0 (ev_one_pure (M := (ev_Mof 382)) (pc := 3) (i := .iload_n 1) (len := 1) (pc' := 4) (lv' := [(0, .ref 0), (1, .int x1), (2, .int x2), (3, .ref 723)]) (st' := [.int x1, .ref 0, .int (0), .ref 723]) (by decide +kernel) rfl) ?_
  refine ev_go0 (ev_one_pure (M := (ev_Mof 382)) (pc := 4) (i := .iload_n 2) (len := 1) (pc' := 5) (lv' := [(0, .ref 0), (1, .int x1), (2, .int x2), (3, .ref 723)]) (st' := [.int x2, .int x1, .ref 0, .int (0), .ref 723]) (by decide +kernel) rfl) ?_
  refine ev_go (ev_p_virtX (M := (ev_Mof 382)) (pc := 5) (x := 76) (t := 13) (mi := 185) (na := 2) (by decide +kernel) (by decide +kernel) (by decide +kernel) (by decide +kernel) rfl rfl (ev_recv_of ev_fH0) (ev_k388 x1 hu_x1 x2 hl_x2) (by decide +kernel)) ?_
  refine ev_go0 (ev_w_astore (M := (ev_Mof 382)) (pc := 13) (k := 4) (lv' := [(4, .retAddr 1), (0, .ref 0), (1, .int x1), (2, .int x2), (3, .ref 723)]) (by decide +kernel) (by decide +kernel) (Or.inr (Or.inr ⟨_, rfl⟩)) rfl) ?_
  refine ev_go0 (ev_w_iconst (M := (ev_Mof 382)) (pc := 15) (k := 1) (v := 1) (by decide +kernel) (by decide +kernel)) ?_
  rfl
theorem ev_k390 (x1 : Int32) (hu_x1 : x1.toInt ≤ (-1 : Int)) (x2 : Int32) (hl_x2 : (0 : Int) ≤ x2.toInt) {n : Nat} : ev_calld 12 348 [.ref 621, .int x1, .int x2] ev_H0 n = some (.inl (some (.int (32))), (ev_H0.set 621 (.inr (13, (ev_F621.set 0 (.int (1)))))), n, 0, 0) := by
  refine ev_call_int (k := 12) (pcR := 58) (lv' := [(0, .ref 621), (1, .int x1), (2, .int x2)]) (v := (32)) (ty := .char) (by decide +kernel) rfl ?_ (by decide +kernel) (by decide +kernel) (by decide +kernel) (by decide)
  show ev_stepn _ 12 (0, [(0, .ref 621), (1, .int x1), (2, .int x2)], [], _, _, 0, 0) = _
  refine ev_go0 (ev_one_pure (M := (ev_Mof 348)) (pc := 0) (i := .aload_n 0) (len := 1) (pc' := 1) (lv' := [(0, .ref 621), (1, .int x1), (2, .int x2)]) (st' := [.ref 621]) (by decide +kernel) rfl) ?_
  refine ev_go0 (ev_one_pure (M := (ev_Mof 348)) (pc := 1) (i := .aload_n 0) (len := 1) (pc' := 2) (lv' := [(0, .ref 621), (1, .int x1), (2, .int x2)]) (st' := [.ref 621, .ref 621]) (by decide +kernel) rfl) ?_
  refine ev_go0 (ev_one_pure (M := (ev_Mof 348)) (pc := 2) (i := .iload_n 1) (len := 1) (pc' := 3) (lv' := [(0, .ref 621), (1, .int x1), (2, .int x2)]) (st' := [.int x1, .ref 621, .ref 621]) (by decide +kernel) rfl) ?_
  refine ev_go0 (ev_p_virt (M := (ev_Mof 348)) (pc := 3) (x := 716) (mi := 325) (na := 1) (by decide +kernel) (by decide +kernel) (by decide +kernel) (by decide +kernel) rfl rfl (ev_recv_of ev_fH621) (ev_k386 x1 hu_x1)) ?_
  refine ev_go0 (ev_w_if (M := (ev_Mof 348)) (pc := 6) (q := .eq) (o := 23) (b := true) (t := 29) (by decide +kernel) (by decide +kernel) rfl) ?_
  refine ev_go0 (ev_w_iconst (M := (ev_Mof 348)) (pc := 29) (k := 1) (v := 1) (by decide +kernel) (by decide +kernel)) ?_
  refine ev_go0 (ev_p_putf (M := (ev_Mof 348)) (pc := 30) (x := 321) (ci := 13) (f := 0) (by decide +kernel) (by decide +kernel) ev_fH621 rfl (by decide +kernel)) ?_
  refine ev_go0 (ev_one_pure (M := (ev_Mof 348)) (pc := 33) (i := .aload_n 0) (len := 1) (pc' := 34) (lv' := [(0, .ref 621), (1, .int x1), (2, .int x2)]) (st' := [.ref 621]) (by decide +kernel) rfl) ?_
  refine ev_go0 (ev_p_getf (M := (ev_Mof 348)) (pc := 34) (x := 321) (ci := 13) (f := 0) (fin := 0) (v := .int (1)) (by decide +kernel) (by decide +kernel) (ev_hself ev_fH621) rfl) ?_
  refine ev_go0 (ev_w_if (M := (ev_Mof 348)) (pc := 37) (q := .le) (o := 8) (b := false) (t := 40) (by decide +kernel) (by decide +kernel) rfl) ?_
  refine ev_go0 (ev_w_bipush (M := (ev_Mof 348)) (pc := 40) (k := 32) (v := 32) (by decide +kernel) (by decide +kernel)) ?_
  refine ev_go0 (ev_one_pure (M := (ev_Mof 348)) (pc := 42) (i := .goto 16) (len := 3) (pc' := 58) (lv' := [(0, .ref 621), (1, .int x1), (2, .int x2)]) (st' := [.int (32)]) (by decide +kernel) rfl) ?_
  rfl
theorem ev_p1_19_np (xs : Nat → Int32) (x1 : Int32) (hu_x1 : x1.toInt ≤ (-1 : Int)) (x2 : Int32) (hl_x2 : (0 : Int) ≤ x2.toInt) (e1 : xs 1 = x1) (e2 : xs 2 = x2) : ev_P1 xs 1420 := by
  refine ⟨34, [(6, .int (32)), (5, .int (1)), (4, .int (0)), (3, .ref 723), (2, .ref 621), (1, .ref 0), (0, .retAddr 0)], (ev_H0.set 621 (.inr (13, (ev_F621.set 0 (.int (1)))))), 724, 725, 3553592, ?_, ⟨rfl, rfl, rfl, rfl⟩, rfl, by decide, by decide⟩
  show ev_stepn _ _ (1420, [(4, .int (0)), (3, .ref 723), (2, .ref 621), (1, .ref 0), (0, .retAddr 0)], [], _, _, _, _) = _
  refine ev_go0 (ev_one_pure (M := ev_Mlaw) (pc := 1420) (i := .aload_n 1) (len := 1) (pc' := 1421) (lv' := [(4, .int (0)), (3, .ref 723), (2, .ref 621), (1, .ref 0), (0, .retAddr 0)]) (st' := [.ref 0]) (by decide +kernel) rfl) ?_
  refine ev_go0 (ev_one_pure (M := ev_Mlaw) (pc := 1421) (i := .aload_n 0) (len := 1) (pc' := 1422) (lv' := [(4, .int (0)), (3, .ref 723), (2, .ref 621), (1, .ref 0), (0, .retAddr 0)]) (st' := [.retAddr 0, .ref 0]) (by decide +kernel) rfl) ?_
  refine ev_go0 (ev_one_pure (M := ev_Mlaw) (pc := 1422) (i := .iload 4) (len := 2) (pc' := 1424) (lv' := [(4, .int (0)), (3, .ref 723), (2, .ref 621), (1, .ref 0), (0, .retAddr 0)]) (st' := [.int (0), .retAddr 0, .ref 0]) (by decide +kernel) rfl) ?_
  refine ev_go0 (ev_w_iconst (M := ev_Mlaw) (pc := 1424) (k := 1) (v := 1) (by decide +kernel) (by decide +kernel)) ?_
  refine ev_go0 (ev_w_iadd (M := ev_Mlaw) (pc := 1425) (v := (1)) (by decide +kernel) (by decide +kernel)) ?_
  refine ev_go0 (ev_w_scr (M := ev_Mlaw) (pc := 1426) (v := x1) (j := 1) (by decide +kernel) (by decide +kernel) (by decide +kernel) e1) ?_
  refine ev_go0 (ev_one_pure (M := ev_Mlaw) (pc := 1427) (i := .aload_n 0) (len := 1) (pc' := 1428) (lv' := [(4, .int (0)), (3, .ref 723), (2, .ref 621), (1, .ref 0), (0, .retAddr 0)]) (st' := [.retAddr 0, .int x1, .ref 0]) (by decide +kernel) rfl) ?_
  refine ev_go0 (ev_one_pure (M := ev_Mlaw) (pc := 1428) (i := .iload 4) (len := 2) (pc' := 1430) (lv' := [(4, .int (0)), (3, .ref 723), (2, .ref 621), (1, .ref 0), (0, .retAddr 0)]) (st' := [.int (0), .retAddr 0, .int x1, .ref 0]) (by decide +kernel) rfl) ?_
  refine ev_go0 (ev_w_iconst (M := ev_Mlaw) (pc := 1430) (k := 2) (v := 2) (by decide +kernel) (by decide +kernel)) ?_
  refine ev_go0 (ev_w_iadd (M := ev_Mlaw) (pc := 1431) (v := (2)) (by decide +kernel) (by decide +kernel)) ?_
  refine ev_go0 (ev_w_scr (M := ev_Mlaw) (pc := 1432) (v := x2) (j := 2) (by decide +kernel) (by decide +kernel) (by decide +kernel) e2) ?_
  refine ev_go0 (ev_one_pure (M := ev_Mlaw) (pc := 1433) (i := .aload_n 3) (len := 1) (pc' := 1434) (lv' := [(4, .int (0)), (3, .ref 723), (2, .ref 621), (1, .ref 0), (0, .retAddr 0)]) (st' := [.ref 723, .int x2, .int x1, .ref 0]) (by decide +kernel) rfl) ?_
  refine ev_go (ev_w_stat (M := ev_Mlaw) (pc := 1434) (y := 194) (kind := 8) (Or.inr (Or.inr rfl)) (mi := 382) (na := 4) (by decide +kernel) (by decide +kernel) (by decide +kernel) (by decide +kernel) rfl rfl (ev_k389 x1 hu_x1 x2 hl_x2)) ?_
  refine ev_go0 (ev_w_istore (M := ev_Mlaw) (pc := 1437) (k := 5) (lv' := [(5, .int (1)), (4, .int (0)), (3, .ref 723), (2, .ref 621), (1, .ref 0), (0, .retAddr 0)]) (by decide +kernel) (by decide +kernel) rfl) ?_
  refine ev_go0 (ev_one_pure (M := ev_Mlaw) (pc := 1439) (i := .aload_n 2) (len := 1) (pc' := 1440) (lv' := [(5, .int (1)), (4, .int (0)), (3, .ref 723), (2, .ref 621), (1, .ref 0), (0, .retAddr 0)]) (st' := [.ref 621]) (by decide +kernel) rfl) ?_
  refine ev_go0 (ev_one_pure (M := ev_Mlaw) (pc := 1440) (i := .aload_n 0) (len := 1) (pc' := 1441) (lv' := [(5, .int (1)), (4, .int (0)), (3, .ref 723), (2, .ref 621), (1, .ref 0), (0, .retAddr 0)]) (st' := [.retAddr 0, .ref 621]) (by decide +kernel) rfl) ?_
  refine ev_go0 (ev_one_pure (M := ev_Mlaw) (pc := 1441) (i := .iload 4) (len := 2) (pc' := 1443) (lv' := [(5, .int (1)), (4, .int (0)), (3, .ref 723), (2, .ref 621), (1, .ref 0), (0, .retAddr 0)]) (st' := [.int (0), .retAddr 0, .ref 621]) (by decide +kernel) rfl) ?_
  refine ev_go0 (ev_w_iconst (M := ev_Mlaw) (pc := 1443) (k := 1) (v := 1) (by decide +kernel) (by decide +kernel)) ?_
  refine ev_go0 (ev_w_iadd (M := ev_Mlaw) (pc := 1444) (v := (1)) (by decide +kernel) (by decide +kernel)) ?_
  refine ev_go0 (ev_w_scr (M := ev_Mlaw) (pc := 1445) (v := x1) (j := 1) (by decide +kernel) (by decide +kernel) (by decide +kernel) e1) ?_
  refine ev_go0 (ev_one_pure (M := ev_Mlaw) (pc := 1446) (i := .aload_n 0) (len := 1) (pc' := 1447) (lv' := [(5, .int (1)), (4, .int (0)), (3, .ref 723), (2, .ref 621), (1, .ref 0), (0, .retAddr 0)]) (st' := [.retAddr 0, .int x1, .ref 621]) (by decide +kernel) rfl) ?_
  refine ev_go0 (ev_one_pure (M := ev_Mlaw) (pc := 1447) (i := .iload 4) (len := 2) (pc' := 1449) (lv' := [(5, .int (1)), (4, .int (0)), (3, .ref 723), (2, .ref 621), (1, .ref 0), (0, .retAddr 0)]) (st' := [.int (0), .retAddr 0, .int x1, .ref 621]) (by decide +kernel) rfl) ?_
  refine ev_go0 (ev_w_iconst (M := ev_Mlaw) (pc := 1449) (k := 2) (v := 2) (by decide +kernel) (by decide +kernel)) ?_
  refine ev_go0 (ev_w_iadd (M := ev_Mlaw) (pc := 1450) (v := (2)) (by decide +kernel) (by decide +kernel)) ?_
  refine ev_go0 (ev_w_scr (M := ev_Mlaw) (pc := 1451) (v := x2) (j := 2) (by decide +kernel) (by decide +kernel) (by decide +kernel) e2) ?_
  refine ev_go0 (ev_p_virt (M := ev_Mlaw) (pc := 1452) (x := 196) (mi := 348) (na := 2) (by decide +kernel) (by decide +kernel) (by decide +kernel) (by decide +kernel) rfl rfl (ev_recv_of ev_fH621) (ev_k390 x1 hu_x1 x2 hl_x2)) ?_
  refine ev_go0 (ev_w_istore (M := ev_Mlaw) (pc := 1455) (k := 6) (lv' := [(6, .int (32)), (5, .int (1)), (4, .int (0)), (3, .ref 723), (2, .ref 621), (1, .ref 0), (0, .retAddr 0)]) (by decide +kernel) (by decide +kernel) rfl) ?_
  refine ev_go0 (ev_one_pure (M := ev_Mlaw) (pc := 1457) (i := .aload_n 2) (len := 1) (pc' := 1458) (lv' := [(6, .int (32)), (5, .int (1)), (4, .int (0)), (3, .ref 723), (2, .ref 621), (1, .ref 0), (0, .retAddr 0)]) (st' := [.ref 621]) (by decide +kernel) rfl) ?_
  refine ev_go0 (ev_p_virt (M := ev_Mlaw) (pc := 1458) (x := 131) (mi := 220) (na := 0) (by decide +kernel) (by decide +kernel) (by decide +kernel) (by decide +kernel) rfl rfl (ev_recv_of (ev_hself ev_fH621)) ev_k26) ?_
  refine ev_go0 (ev_one_pure (M := ev_Mlaw) (pc := 1461) (i := .iload 5) (len := 2) (pc' := 1463) (lv' := [(6, .int (32)), (5, .int (1)), (4, .int (0)), (3, .ref 723), (2, .ref 621), (1, .ref 0), (0, .retAddr 0)]) (st' := [.int (1), .int (1)]) (by decide +kernel) rfl) ?_
  refine ev_go0 (ev_w_icmp (M := ev_Mlaw) (pc := 1463) (q := .eq) (o := 5) (b := true) (t := 1468) (by decide +kernel) (by decide +kernel) rfl) ?_
  refine ev_go0 (ev_one_pure (M := ev_Mlaw) (pc := 1468) (i := .iload 5) (len := 2) (pc' := 1470) (lv' := [(6, .int (32)), (5, .int (1)), (4, .int (0)), (3, .ref 723), (2, .ref 621), (1, .ref 0), (0, .retAddr 0)]) (st' := [.int (1)]) (by decide +kernel) rfl) ?_
  refine ev_go0 (ev_w_if (M := ev_Mlaw) (pc := 1470) (q := .ne) (o := 15) (b := true) (t := 1485) (by decide +kernel) (by decide +kernel) rfl) ?_
  refine ev_go0 (ev_one_pure (M := ev_Mlaw) (pc := 1485) (i := .goto 787) (len := 3) (pc' := 2272) (lv' := [(6, .int (32)), (5, .int (1)), (4, .int (0)), (3, .ref 723), (2, .ref 621), (1, .ref 0), (0, .retAddr 0)]) (st' := []) (by decide +kernel) rfl) ?_
  rfl
theorem ev_k391 (x2 : Int32) (hu_x2 : x2.toInt ≤ (-1 : Int)) {n : Nat} : ev_calld 11 185 [.ref 0, .int (0), .int x2] ev_H0 n = some (.inr "java/lang/IndexOutOfBoundsException", ev_H0, n, 1, 6) := by
  refine ev_call_thrown (k := 9) (pcR := 25) (x := 160) (lv' := [(3, .ref 263), (0, .ref 0), (1, .int (0)), (2, .int x2)]) (by decide +kernel) rfl ?_ (by decide +kernel) (by decide +kernel) (by decide +kernel) (by decide) (by decide)
  show ev_stepn _ 9 (0, [(0, .ref 0), (1, .int (0)), (2, .int x2)], [], _, _, 0, 0) = _
  refine ev_go0 (ev_one_pure (M := (ev_Mof 185)) (pc := 0) (i := .aload_n 0) (len := 1) (pc' := 1) (lv' := [(0, .ref 0), (1, .int (0)), (2, .int x2)]) (st' := [.ref 0]) (by decide +kernel) rfl) ?_
  refine ev_go0 (ev_p_getf (M := (ev_Mof 185)) (pc := 1) (x := 48) (ci := 12) (f := 8) (fin := 1) (v := .ref 254) (by decide +kernel) (by decide +kernel) ev_fH0 rfl) ?_
  refine ev_go0 (ev_one_pure (M := (ev_Mof 185)) (pc := 4) (i := .iload_n 1) (len := 1) (pc' := 5) (lv' := [(0, .ref 0), (1, .int (0)), (2, .int x2)]) (st' := [.int (0), .ref 254]) (by decide +kernel) rfl) ?_
  refine ev_go0 (ev_p_virt (M := (ev_Mof 185)) (pc := 5) (x := 221) (mi := 1) (na := 1) (by decide +kernel) (by decide +kernel) (by decide +kernel) (by decide +kernel) rfl rfl (ev_recv_of ev_fH254) ev_k234) ?_
  refine ev_go0 (ev_w_astore_n (M := (ev_Mof 185)) (pc := 8) (k := 3) (lv' := [(3, .ref 263), (0, .ref 0), (1, .int (0)), (2, .int x2)]) (by decide +kernel) (by decide +kernel) (Or.inl ⟨_, rfl⟩) rfl) ?_
  refine ev_go0 (ev_one_pure (M := (ev_Mof 185)) (pc := 9) (i := .aload_n 3) (len := 1) (pc' := 10) (lv' := [(3, .ref 263), (0, .ref 0), (1, .int (0)), (2, .int x2)]) (st' := [.ref 263]) (by decide +kernel) rfl) ?_
  refine ev_go0 (ev_w_ifnull (M := (ev_Mof 185)) (pc := 10) (o := 15) (t := 13) (by decide +kernel) (Or.inr ⟨⟨_, rfl⟩, rfl⟩)) ?_
  refine ev_go0 (ev_one_pure (M := (ev_Mof 185)) (pc := 13) (i := .iload_n 2) (len := 1) (pc' := 14) (lv' := [(3, .ref 263), (0, .ref 0), (1, .int (0)), (2, .int x2)]) (st' := [.int x2]) (by decide +kernel) rfl) ?_
  refine ev_go0 (ev_w_if (M := (ev_Mof 185)) (pc := 14) (q := .lt) (o := 11) (b := true) (t := 25) (by decide +kernel) (ev_c_lt1 hu_x2 (by decide +kernel)) rfl) ?_
  rfl
theorem ev_k392 (x2 : Int32) (hu_x2 : x2.toInt ≤ (-1 : Int)) {n : Nat} : ev_calld 12 382 [.ref 0, .int (0), .int x2, .ref 723] ev_H0 n = some (.inl (some (.int (1))), ev_H0, n, 1, 6) := by
  refine ev_call_int (k := 8) (pcR := 16) (lv' := [(4, .retAddr 1), (0, .ref 0), (1, .int (0)), (2, .int x2), (3, .ref 723)]) (v := (1)) (ty := .int) (by decide +kernel) rfl ?_ (by decide +kernel) (by decide +kernel) (by decide +kernel) (by decide)
  show ev_stepn _ 8 (0, [(0, .ref 0), (1, .int (0)), (2, .int x2), (3, .ref 723)], [], _, _, 0, 0) = _
  refine ev_go0 (ev_one_pure (M := (ev_Mof 382)) (pc := 0) (i := .aload_n 3) (len := 1) (pc' := 1) (lv' := [(0, .ref 0), (1, .int (0)), (2, .int x2), (3, .ref 723)]) (st' := [.ref 723]) (by decide +kernel) rfl) ?_
  refine ev_go0 (ev_w_iconst (M := (ev_Mof 382)) (pc := 1) (k := 0) (v := 0) (by decide +kernel) (by decide +kernel)) ?_
  refine ev_go0 (ev_one_pure (M := (ev_Mof 382)) (pc := 2) (i := .aload_n 0) (len := 1) (pc' := 3) (lv' := [(0, .ref 0), (1, .int (0)), (2, .int x2), (3, .ref 723)]) (st' := [.ref 0, .int (0), .ref 723]) (by decide +kernel) rfl) ?_
  refine ev_go0 (ev_one_pure (M := (ev_Mof 382)) (pc := 3) (i := .iload_n 1) (len := 1) (pc' := 4) (lv' := [(0, .ref 0), (1, .int (0)), (2, .int x2), (3, .ref 723)]) (st' := [.int (0), .ref 0, .int (0), .ref 723]) (by decide +kernel) rfl) ?_
  refine ev_go0 (ev_one_pure (M := (ev_Mof 382)) (pc := 4) (i := .iload_n 2) (len := 1) (pc' := 5) (lv' := [(0, .ref 0), (1, .int (0)), (2, .int x2), (3, .ref 723)]) (st' := [.int x2, .int (0), .ref 0, .int (0), .ref 723]) (by decide +kernel) rfl) ?_
  refine ev_go (ev_p_virtX (M := (ev_Mof 382)) (pc := 5) (x := 76) (t := 13) (mi := 185) (na := 2) (by decide +kernel) (by decide +kernel) (by decide +kernel) (by decide +kernel) rfl rfl (ev_recv_of ev_fH0) (ev_k391 x2 hu_x2) (by decide +kernel)) ?_
  refine ev_go0 (ev_w_astore (M := (ev_Mof 382)) (pc := 13) (k := 4) (lv' := [(4, .retAddr 1), (0, .ref 0), (1, .int (0)), (2, .int x2), (3, .ref 723)]) (by decide +kernel) (by decide +kernel) (Or.inr (Or.inr ⟨_, rfl⟩)) rfl) ?_
  refine ev_go0 (ev_w_iconst (M := (ev_Mof 382)) (pc := 15) (k := 1) (v := 1) (by decide +kernel) (by decide +kernel)) ?_
  rfl
theorem ev_k393 {n : Nat} : ev_calld 10 222 [.int (0), .int (0), .int (2)] ev_H0 n = some (.inl (some (.int (1))), ev_H0, n, 0, 0) := by
  refine ev_call_int (k := 8) (pcR := 15) (lv' := [(0, .int (0)), (1, .int (0)), (2, .int (2))]) (v := (1)) (ty := .boolean) (by decide +kernel) rfl ?_ (by decide +kernel) (by decide +kernel) (by decide +kernel) (by decide)
  show ev_stepn _ 8 (0, [(0, .int (0)), (1, .int (0)), (2, .int (2))], [], _, _, 0, 0) = _
  refine ev_go0 (ev_one_pure (M := (ev_Mof 222)) (pc := 0) (i := .iload_n 0) (len := 1) (pc' := 1) (lv' := [(0, .int (0)), (1, .int (0)), (2, .int (2))]) (st' := [.int (0)]) (by decide +kernel) rfl) ?_
  refine ev_go0 (ev_one_pure (M := (ev_Mof 222)) (pc := 1) (i := .iload_n 1) (len := 1) (pc' := 2) (lv' := [(0, .int (0)), (1, .int (0)), (2, .int (2))]) (st' := [.int (0), .int (0)]) (by decide +kernel) rfl) ?_
  refine ev_go0 (ev_w_icmp (M := (ev_Mof 222)) (pc := 2) (q := .lt) (o := 12) (b := false) (t := 5) (by decide +kernel) (by decide +kernel) rfl) ?_
  refine ev_go0 (ev_one_pure (M := (ev_Mof 222)) (pc := 5) (i := .iload_n 0) (len := 1) (pc' := 6) (lv' := [(0, .int (0)), (1, .int (0)), (2, .int (2))]) (st' := [.int (0)]) (by decide +kernel) rfl) ?_
  refine ev_go0 (ev_one_pure (M := (ev_Mof 222)) (pc := 6) (i := .iload_n 2) (len := 1) (pc' := 7) (lv' := [(0, .int (0)), (1, .int (0)), (2, .int (2))]) (st' := [.int (2), .int (0)]) (by decide +kernel) rfl) ?_
  refine ev_go0 (ev_w_icmp (M := (ev_Mof 222)) (pc := 7) (q := .gt) (o := 7) (b := false) (t := 10) (by decide +kernel) (by decide +kernel) rfl) ?_
  refine ev_go0 (ev_w_iconst (M := (ev_Mof 222)) (pc := 10) (k := 1) (v := 1) (by decide +kernel) (by decide +kernel)) ?_
  refine ev_go0 (ev_one_pure (M := (ev_Mof 222)) (pc := 11) (i := .goto 4) (len := 3) (pc' := 15) (lv' := [(0, .int (0)), (1, .int (0)), (2, .int (2))]) (st' := [.int (1)]) (by decide +kernel) rfl) ?_
  rfl
theorem ev_k394 {n : Nat} : ev_calld 11 325 [.ref 621, .int (0)] ev_H0 n = some (.inl (some (.int (1))), ev_H0, n, 0, 0) := by
  refine ev_call_int (k := 4) (pcR := 6) (lv' := [(0, .ref 621), (1, .int (0))]) (v := (1)) (ty := .boolean) (by decide +kernel) rfl ?_ (by decide +kernel) (by decide +kernel) (by decide +kernel) (by decide)
  show ev_stepn _ 4 (0, [(0, .ref 621), (1, .int (0))], [], _, _, 0, 0) = _
  refine ev_go0 (ev_one_pure (M := (ev_Mof 325)) (pc := 0) (i := .iload_n 1) (len := 1) (pc' := 1) (lv' := [(0, .ref 621), (1, .int (0))]) (st' := [.int (0)]) (by decide +kernel) rfl) ?_
  refine ev_go0 (ev_w_iconst (M := (ev_Mof 325)) (pc := 1) (k := 0) (v := 0) (by decide +kernel) (by decide +kernel)) ?_
  refine ev_go0 (ev_w_iconst (M := (ev_Mof 325)) (pc := 2) (k := 2) (v := 2) (by decide +kernel) (by decide +kernel)) ?_
  refine ev_go0 (ev_w_stat (M := (ev_Mof 325)) (pc := 3) (y := 325) (kind := 2) (Or.inl rfl) (mi := 222) (na := 3) (by decide +kernel) (by decide +kernel) (by decide +kernel) (by decide +kernel) rfl rfl ev_k393) ?_
  rfl
theorem ev_k395 (x2 : Int32) (hu_x2 : x2.toInt ≤ (-1 : Int)) {n : Nat} : ev_calld 11 222 [.int x2, .int (0), .int (-1)] ev_H0 n = some (.inl (some (.int (0))), ev_H0, n, 0, 0) := by
  refine ev_call_int (k := 4) (pcR := 15) (lv' := [(0, .int x2), (1, .int (0)), (2, .int (-1))]) (v := (0)) (ty := .boolean) (by decide +kernel) rfl ?_ (by decide +kernel) (by decide +kernel) (by decide +kernel) (by decide)
  show ev_stepn _ 4 (0, [(0, .int x2), (1, .int (0)), (2, .int (-1))], [], _, _, 0, 0) = _
  refine ev_go0 (ev_one_pure (M := (ev_Mof 222)) (pc := 0) (i := .iload_n 0) (len := 1) (pc' := 1) (lv' := [(0, .int x2), (1, .int (0)), (2, .int (-1))]) (st' := [.int x2]) (by decide +kernel) rfl) ?_
  refine ev_go0 (ev_one_pure (M := (ev_Mof 222)) (pc := 1) (i := .iload_n 1) (len := 1) (pc' := 2) (lv' := [(0, .int x2), (1, .int (0)), (2, .int (-1))]) (st' := [.int (0), .int x2]) (by decide +kernel) rfl) ?_
  refine ev_go0 (ev_w_icmp (M := (ev_Mof 222)) (pc := 2) (q := .lt) (o := 12) (b := true) (t := 14) (by decide +kernel) (ev_c_lt1 hu_x2 (by decide +kernel)) rfl) ?_
  refine ev_go0 (ev_w_iconst (M := (ev_Mof 222)) (pc := 14) (k := 0) (v := 0) (by decide +kernel) (by decide +kernel)) ?_
  rfl
theorem ev_k396 (x2 : Int32) (hu_x2 : x2.toInt ≤ (-1 : Int)) {n : Nat} : ev_calld 12 348 [.ref 621, .int (0), .int x2] ev_H0 n = some (.inl (some (.int (32))), (ev_H0.set 621 (.inr (13, (ev_F621.set 0 (.int (1)))))), n, 0, 0) := by
  refine ev_call_int (k := 22) (pcR := 58) (lv' := [(0, .ref 621), (1, .int (0)), (2, .int x2)]) (v := (32)) (ty := .char) (by decide +kernel) rfl ?_ (by decide +kernel) (by decide +kernel) (by decide +kernel) (by decide)
  show ev_stepn _ 22 (0, [(0, .ref 621), (1, .int (0)), (2, .int x2)], [], _, _, 0, 0) = _
  refine ev_go0 (ev_one_pure (M := (ev_Mof 348)) (pc := 0) (i := .aload_n 0) (len := 1) (pc' := 1) (lv' := [(0, .ref 621), (1, .int (0)), (2, .int x2)]) (st' := [.ref 621]) (by decide +kernel) rfl) ?_
  refine ev_go0 (ev_one_pure (M := (ev_Mof 348)) (pc := 1) (i := .aload_n 0) (len := 1) (pc' := 2) (lv' := [(0, .ref 621), (1, .int (0)), (2, .int x2)]) (st' := [.ref 621, .ref 621]) (by decide +kernel) rfl) ?_
  refine ev_go0 (ev_one_pure (M := (ev_Mof 348)) (pc := 2) (i := .iload_n 1) (len := 1) (pc' := 3) (lv' := [(0, .ref 621), (1, .int (0)), (2, .int x2)]) (st' := [.int (0), .ref 621, .ref 621]) (by decide +kernel) rfl) ?_
  refine ev_go0 (ev_p_virt (M := (ev_Mof 348)) (pc := 3) (x := 716) (mi := 325) (na := 1) (by decide +kernel) (by decide +kernel) (by decide +kernel) (by decide +kernel) rfl rfl (ev_recv_of ev_fH621) ev_k394) ?_
  refine ev_go0 (ev_w_if (M := (ev_Mof 348)) (pc := 6) (q := .eq) (o := 23) (b := false) (t := 9) (by decide +kernel) (by decide +kernel) rfl) ?_
  refine ev_go0 (ev_one_pure (M := (ev_Mof 348)) (pc := 9) (i := .iload_n 2) (len := 1) (pc' := 10) (lv' := [(0, .ref 621), (1, .int (0)), (2, .int x2)]) (st' := [.int x2, .ref 621]) (by decide +kernel) rfl) ?_
  refine ev_go0 (ev_w_iconst (M := (ev_Mof 348)) (pc := 10) (k := 0) (v := 0) (by decide +kernel) (by decide +kernel)) ?_
  refine ev_go0 (ev_one_pure (M := (ev_Mof 348)) (pc := 11) (i := .aload_n 0) (len := 1) (pc' := 12) (lv' := [(0, .ref 621), (1, .int (0)), (2, .int x2)]) (st' := [.ref 621, .int (0), .int x2, .ref 621]) (by decide +kernel) rfl) ?_
  refine ev_go0 (ev_p_getf (M := (ev_Mof 348)) (pc := 12) (x := 270) (ci := 13) (f := 119) (fin := 1) (v := .ref 707) (by decide +kernel) (by decide +kernel) ev_fH621 rfl) ?_
  refine ev_go0 (ev_one_pure (M := (ev_Mof 348)) (pc := 15) (i := .iload_n 1) (len := 1) (pc' := 16) (lv' := [(0, .ref 621), (1, .int (0)), (2, .int x2)]) (st' := [.int (0), .ref 707, .int (0), .int x2, .ref 621]) (by decide +kernel) rfl) ?_
  refine ev_go0 (ev_w_iald (M := (ev_Mof 348)) (pc := 16) (v := (0)) (by decide +kernel) ev_fH707 (by decide +kernel) rfl) ?_
  refine ev_go0 (ev_w_iconst (M := (ev_Mof 348)) (pc := 17) (k := 1) (v := 1) (by decide +kernel) (by decide +kernel)) ?_
  refine ev_go0 (ev_w_isub (M := (ev_Mof 348)) (pc := 18) (v := (-1)) (by decide +kernel) (by decide +kernel)) ?_
  refine ev_go0 (ev_w_stat (M := (ev_Mof 348)) (pc := 19) (y := 325) (kind := 2) (Or.inl rfl) (mi := 222) (na := 3) (by decide +kernel) (by decide +kernel) (by decide +kernel) (by decide +kernel) rfl rfl (ev_k395 x2 hu_x2)) ?_
  refine ev_go0 (ev_w_if (M := (ev_Mof 348)) (pc := 22) (q := .eq) (o := 7) (b := true) (t := 29) (by decide +kernel) (by decide +kernel) rfl) ?_
  refine ev_go0 (ev_w_iconst (M := (ev_Mof 348)) (pc := 29) (k := 1) (v := 1) (by decide +kernel) (by decide +kernel)) ?_
  refine ev_go0 (ev_p_putf (M := (ev_Mof 348)) (pc := 30) (x := 321) (ci := 13) (f := 0) (by decide +kernel) (by decide +kernel) ev_fH621 rfl (by decide +kernel)) ?_
  refine ev_go0 (ev_one_pure (M := (ev_Mof 348)) (pc := 33) (i := .aload_n 0) (len := 1) (pc' := 34) (lv' := [(0, .ref 621), (1, .int (0)), (2, .int x2)]) (st' := [.ref 621]) (by decide +kernel) rfl) ?_
  refine ev_go0 (ev_p_getf (M := (ev_Mof 348)) (pc := 34) (x := 321) (ci := 13) (f := 0) (fin := 0) (v := .int (1)) (by decide +kernel) (by decide +kernel) (ev_hself ev_fH621) rfl) ?_
  refine ev_go0 (ev_w_if (M := (ev_Mof 348)) (pc := 37) (q := .le) (o := 8) (b := false) (t := 40) (by decide +kernel) (by decide +kernel) rfl) ?_
  refine ev_go0 (ev_w_bipush (M := (ev_Mof 348)) (pc := 40) (k := 32) (v := 32) (by decide +kernel) (by decide +kernel)) ?_
  refine ev_go0 (ev_one_pure (M := (ev_Mof 348)) (pc := 42) (i := .goto 16) (len := 3) (pc' := 58) (lv' := [(0, .ref 621), (1, .int (0)), (2, .int x2)]) (st' := [.int (32)]) (by decide +kernel) rfl) ?_
  rfl
theorem ev_p1_19_0n (xs : Nat → Int32) (x2 : Int32) (hu_x2 : x2.toInt ≤ (-1 : Int)) (e1 : xs 1 = (0)) (e2 : xs 2 = x2) : ev_P1 xs 1420 := by
  refine ⟨34, [(6, .int (32)), (5, .int (1)), (4, .int (0)), (3, .ref 723), (2, .ref 621), (1, .ref 0), (0, .retAddr 0)], (ev_H0.set 621 (.inr (13, (ev_F621.set 0 (.int (1)))))), 724, 725, 3553592, ?_, ⟨rfl, rfl, rfl, rfl⟩, rfl, by decide, by decide⟩
  show ev_stepn _ _ (1420, [(4, .int (0)), (3, .ref 723), (2, .ref 621), (1, .ref 0), (0, .retAddr 0)], [], _, _, _, _) = _
  refine ev_go0 (ev_one_pure (M := ev_Mlaw) (pc := 1420) (i := .aload_n 1) (len := 1) (pc' := 1421) (lv' := [(4, .int (0)), (3, .ref 723), (2, .ref 621), (1, .ref 0), (0, .retAddr 0)]) (st' := [.ref 0]) (by decide +kernel) rfl) ?_
  refine ev_go0 (ev_one_pure (M := ev_Mlaw) (pc := 1421) (i := .aload_n 0) (len := 1) (pc' := 1422) (lv' := [(4, .int (0)), (3, .ref 723), (2, .ref 621), (1, .ref 0), (0, .retAddr 0)]) (st' := [.retAddr 0, .ref 0]) (by decide +kernel) rfl) ?_
  refine ev_go0 (ev_one_pure (M := ev_Mlaw) (pc := 1422) (i := .iload 4) (len := 2) (pc' := 1424) (lv' := [(4, .int (0)), (3, .ref 723), (2, .ref 621), (1, .ref 0), (0, .retAddr 0)]) (st' := [.int (0), .retAddr 0, .ref 0]) (by decide +kernel) rfl) ?_
  refine ev_go0 (ev_w_iconst (M := ev_Mlaw) (pc := 1424) (k := 1) (v := 1) (by decide +kernel) (by decide +kernel)) ?_
  refine ev_go0 (ev_w_iadd (M := ev_Mlaw) (pc := 1425) (v := (1)) (by decide +kernel) (by decide +kernel)) ?_
  refine ev_go0 (ev_w_scr (M := ev_Mlaw) (pc := 1426) (v := (0)) (j := 1) (by decide +kernel) (by decide +kernel) (by decide +kernel) e1) ?_
  refine ev_go0 (ev_one_pure (M := ev_Mlaw) (pc := 1427) (i := .aload_n 0) (len := 1) (pc' := 1428) (lv' := [(4, .int (0)), (3, .ref 723), (2, .ref 621), (1, .ref 0), (0, .retAddr 0)]) (st' := [.retAddr 0, .int (0), .ref 0]) (by decide +kernel) rfl) ?_
  refine ev_go0 (ev_one_pure (M := ev_Mlaw) (pc := 1428) (i := .iload 4) (len := 2) (pc' := 1430) (lv' := [(4, .int (0)), (3, .ref 723), (2, .ref 621), (1, .ref 0), (0, .retAddr 0)]) (st' := [.int (0), .retAddr 0, .int (0), .ref 0]) (by decide +kernel) rfl) ?_
  refine ev_go0 (ev_w_iconst (M := ev_Mlaw) (pc := 1430) (k := 2) (v := 2) (by decide +kernel) (by decide +kernel)) ?_
  refine ev_go0 (ev_w_iadd (M := ev_Mlaw) (pc := 1431) (v := (2)) (by decide +kernel) (by decide +kernel)) ?_
  refine ev_go0 (ev_w_scr (M := ev_Mlaw) (pc := 1432) (v := x2) (j := 2) (by decide +kernel) (by decide +kernel) (by decide +kernel) e2) ?_
  refine ev_go0 (ev_one_pure (M := ev_Mlaw) (pc := 1433) (i := .aload_n 3) (len := 1) (pc' := 1434) (lv' := [(4, .int (0)), (3, .ref 723), (2, .ref 621), (1, .ref 0), (0, .retAddr 0)]) (st' := [.ref 723, .int x2, .int (0), .ref 0]) (by decide +kernel) rfl) ?_
  refine ev_go (ev_w_stat (M := ev_Mlaw) (pc := 1434) (y := 194) (kind := 8) (Or.inr (Or.inr rfl)) (mi := 382) (na := 4) (by decide +kernel) (by decide +kernel) (by decide +kernel) (by decide +kernel) rfl rfl (ev_k392 x2 hu_x2)) ?_
  refine ev_go0 (ev_w_istore (M := ev_Mlaw) (pc := 1437) (k := 5) (lv' := [(5, .int (1)), (4, .int (0)), (3, .ref 723), (2, .ref 621), (1, .ref 0), (0, .retAddr 0)]) (by decide +kernel) (by decide +kernel) rfl) ?_
  refine ev_go0 (ev_one_pure (M := ev_Mlaw) (pc := 1439) (i := .aload_n 2) (len := 1) (pc' := 1440) (lv' := [(5, .int (1)), (4, .int (0)), (3, .ref 723), (2, .ref 621), (1, .ref 0), (0, .retAddr 0)]) (st' := [.ref 621]) (by decide +kernel) rfl) ?_
  refine ev_go0 (ev_one_pure (M := ev_Mlaw) (pc := 1440) (i := .aload_n 0) (len := 1) (pc' := 1441) (lv' := [(5, .int (1)), (4, .int (0)), (3, .ref 723), (2, .ref 621), (1, .ref 0), (0, .retAddr 0)]) (st' := [.retAddr 0, .ref 621]) (by decide +kernel) rfl) ?_
  refine ev_go0 (ev_one_pure (M := ev_Mlaw) (pc := 1441) (i := .iload 4) (len := 2) (pc' := 1443) (lv' := [(5, .int (1)), (4, .int (0)), (3, .ref 723), (2, .ref 621), (1, .ref 0), (0, .retAddr 0)]) (st' := [.int (0), .retAddr 0, .ref 621]) (by decide +kernel) rfl) ?_
  refine ev_go0 (ev_w_iconst (M := ev_Mlaw) (pc := 1443) (k := 1) (v := 1) (by decide +kernel) (by decide +kernel)) ?_
  refine ev_go0 (ev_w_iadd (M := ev_Mlaw) (pc := 1444) (v := (1)) (by decide +kernel) (by decide +kernel)) ?_
  refine ev_go0 (ev_w_scr (M := ev_Mlaw) (pc := 1445) (v := (0)) (j := 1) (by decide +kernel) (by decide +kernel) (by decide +kernel) e1) ?_
  refine ev_go0 (ev_one_pure (M := ev_Mlaw) (pc := 1446) (i := .aload_n 0) (len := 1) (pc' := 1447) (lv' := [(5, .int (1)), (4, .int (0)), (3, .ref 723), (2, .ref 621), (1, .ref 0), (0, .retAddr 0)]) (st' := [.retAddr 0, .int (0), .ref 621]) (by decide +kernel) rfl) ?_
  refine ev_go0 (ev_one_pure (M := ev_Mlaw) (pc := 1447) (i := .iload 4) (len := 2) (pc' := 1449) (lv' := [(5, .int (1)), (4, .int (0)), (3, .ref 723), (2, .ref 621), (1, .ref 0), (0, .retAddr 0)]) (st' := [.int (0), .retAddr 0, .int (0), .ref 621]) (by decide +kernel) rfl) ?_
  refine ev_go0 (ev_w_iconst (M := ev_Mlaw) (pc := 1449) (k := 2) (v := 2) (by decide +kernel) (by decide +kernel)) ?_
  refine ev_go0 (ev_w_iadd (M := ev_Mlaw) (pc := 1450) (v := (2)) (by decide +kernel) (by decide +kernel)) ?_
  refine ev_go0 (ev_w_scr (M := ev_Mlaw) (pc := 1451) (v := x2) (j := 2) (by decide +kernel) (by decide +kernel) (by decide +kernel) e2) ?_
  refine ev_go0 (ev_p_virt (M := ev_Mlaw) (pc := 1452) (x := 196) (mi := 348) (na := 2) (by decide +kernel) (by decide +kernel) (by decide +kernel) (by decide +kernel) rfl rfl (ev_recv_of ev_fH621) (ev_k396 x2 hu_x2)) ?_
  refine ev_go0 (ev_w_istore (M := ev_Mlaw) (pc := 1455) (k := 6) (lv' := [(6, .int (32)), (5, .int (1)), (4, .int (0)), (3, .ref 723), (2, .ref 621), (1, .ref 0), (0, .retAddr 0)]) (by decide +kernel) (by decide +kernel) rfl) ?_
  refine ev_go0 (ev_one_pure (M := ev_Mlaw) (pc := 1457) (i := .aload_n 2) (len := 1) (pc' := 1458) (lv' := [(6, .int (32)), (5, .int (1)), (4, .int (0)), (3, .ref 723), (2, .ref 621), (1, .ref 0), (0, .retAddr 0)]) (st' := [.ref 621]) (by decide +kernel) rfl) ?_
  refine ev_go0 (ev_p_virt (M := ev_Mlaw) (pc := 1458) (x := 131) (mi := 220) (na := 0) (by decide +kernel) (by decide +kernel) (by decide +kernel) (by decide +kernel) rfl rfl (ev_recv_of (ev_hself ev_fH621)) ev_k26) ?_
  refine ev_go0 (ev_one_pure (M := ev_Mlaw) (pc := 1461) (i := .iload 5) (len := 2) (pc' := 1463) (lv' := [(6, .int (32)), (5, .int (1)), (4, .int (0)), (3, .ref 723), (2, .ref 621), (1, .ref 0), (0, .retAddr 0)]) (st' := [.int (1), .int (1)]) (by decide +kernel) rfl) ?_
  refine ev_go0 (ev_w_icmp (M := ev_Mlaw) (pc := 1463) (q := .eq) (o := 5) (b := true) (t := 1468) (by decide +kernel) (by decide +kernel) rfl) ?_
  refine ev_go0 (ev_one_pure (M := ev_Mlaw) (pc := 1468) (i := .iload 5) (len := 2) (pc' := 1470) (lv' := [(6, .int (32)), (5, .int (1)), (4, .int (0)), (3, .ref 723), (2, .ref 621), (1, .ref 0), (0, .retAddr 0)]) (st' := [.int (1)]) (by decide +kernel) rfl) ?_
  refine ev_go0 (ev_w_if (M := ev_Mlaw) (pc := 1470) (q := .ne) (o := 15) (b := true) (t := 1485) (by decide +kernel) (by decide +kernel) rfl) ?_
  refine ev_go0 (ev_one_pure (M := ev_Mlaw) (pc := 1485) (i := .goto 787) (len := 3) (pc' := 2272) (lv' := [(6, .int (32)), (5, .int (1)), (4, .int (0)), (3, .ref 723), (2, .ref 621), (1, .ref 0), (0, .retAddr 0)]) (st' := []) (by decide +kernel) rfl) ?_
  rfl
theorem ev_k397 (x2 : Int32) (hl_x2 : (0 : Int) ≤ x2.toInt) {n : Nat} : ev_calld 11 185 [.ref 0, .int (0), .int x2] ev_H0 n = some (.inr "java/lang/IndexOutOfBoundsException", ev_H0, n, 1, 6) := by
  refine ev_call_thrown (k := 13) (pcR := 25) (x := 160) (lv' := [(3, .ref 263), (0, .ref 0), (1, .int (0)), (2, .int x2)]) (by decide +kernel) rfl ?_ (by decide +kernel) (by decide +kernel) (by decide +kernel) (by decide) (by decide)
  show ev_stepn _ 13 (0, [(0, .ref 0), (1, .int (0)), (2, .int x2)], [], _, _, 0, 0) = _
  refine ev_go0 (ev_one_pure (M := (ev_Mof 185)) (pc := 0) (i := .aload_n 0) (len := 1) (pc' := 1) (lv' := [(0, .ref 0), (1, .int (0)), (2, .int x2)]) (st' := [.ref 0]) (by decide +kernel) rfl) ?_
  refine ev_go0 (ev_p_getf (M := (ev_Mof 185)) (pc := 1) (x := 48) (ci := 12) (f := 8) (fin := 1) (v := .ref 254) (by decide +kernel) (by decide +kernel) ev_fH0 rfl) ?_
  refine ev_go0 (ev_one_pure (M := (ev_Mof 185)) (pc := 4) (i := .iload_n 1) (len := 1) (pc' := 5) (lv' := [(0, .ref 0), (1, .int (0)), (2, .int x2)]) (st' := [.int (0), .ref 254]) (by decide +kernel) rfl) ?_
  refine ev_go0 (ev_p_virt (M := (ev_Mof 185)) (pc := 5) (x := 221) (mi := 1) (na := 1) (by decide +kernel) (by decide +kernel) (by decide +kernel) (by decide +kernel) rfl rfl (ev_recv_of ev_fH254) ev_k234) ?_
  refine ev_go0 (ev_w_astore_n (M := (ev_Mof 185)) (pc := 8) (k := 3) (lv' := [(3, .ref 263), (0, .ref 0), (1, .int (0)), (2, .int x2)]) (by decide +kernel) (by decide +kernel) (Or.inl ⟨_, rfl⟩) rfl) ?_
  refine ev_go0 (ev_one_pure (M := (ev_Mof 185)) (pc := 9) (i := .aload_n 3) (len := 1) (pc' := 10) (lv' := [(3, .ref 263), (0, .ref 0), (1, .int (0)), (2, .int x2)]) (st' := [.ref 263]) (by decide +kernel) rfl) ?_
  refine ev_go0 (ev_w_ifnull (M := (ev_Mof 185)) (pc := 10) (o := 15) (t := 13) (by decide +kernel) (Or.inr ⟨⟨_, rfl⟩, rfl⟩)) ?_
  refine ev_go0 (ev_one_pure (M := (ev_Mof 185)) (pc := 13) (i := .iload_n 2) (len := 1) (pc' := 14) (lv' := [(3, .ref 263), (0, .ref 0), (1, .int (0)), (2, .int x2)]) (st' := [.int x2]) (by decide +kernel) rfl) ?_
  refine ev_go0 (ev_w_if (M := (ev_Mof 185)) (pc := 14) (q := .lt) (o := 11) (b := false) (t := 17) (by decide +kernel) (ev_c_lt0 hl_x2 (by decide +kernel)) rfl) ?_
  refine ev_go0 (ev_one_pure (M := (ev_Mof 185)) (pc := 17) (i := .iload_n 2) (len := 1) (pc' := 18) (lv' := [(3, .ref 263), (0, .ref 0), (1, .int (0)), (2, .int x2)]) (st' := [.int x2]) (by decide +kernel) rfl) ?_
  refine ev_go0 (ev_one_pure (M := (ev_Mof 185)) (pc := 18) (i := .aload_n 3) (len := 1) (pc' := 19) (lv' := [(3, .ref 263), (0, .ref 0), (1, .int (0)), (2, .int x2)]) (st' := [.ref 263, .int x2]) (by decide +kernel) rfl) ?_
  refine ev_go0 (ev_p_getf (M := (ev_Mof 185)) (pc := 19) (x := 105) (ci := 10) (f := 1) (fin := 0) (v := .int (0)) (by decide +kernel) (by decide +kernel) ev_fH263 rfl) ?_
  refine ev_go0 (ev_w_icmp (M := (ev_Mof 185)) (pc := 22) (q := .lt) (o := 14) (b := false) (t := 25) (by decide +kernel) (ev_c_lt0 hl_x2 (by decide +kernel)) rfl) ?_
  rfl
theorem ev_k398 (x2 : Int32) (hl_x2 : (0 : Int) ≤ x2.toInt) {n : Nat} : ev_calld 12 382 [.ref 0, .int (0), .int x2, .ref 723] ev_H0 n = some (.inl (some (.int (1))), ev_H0, n, 1, 6) := by
  refine ev_call_int (k := 8) (pcR := 16) (lv' := [(4, .retAddr 1), (0, .ref 0), (1, .int (0)), (2, .int x2), (3, .ref 723)]) (v := (1)) (ty := .int) (by decide +kernel) rfl ?_ (by decide +kernel) (by decide +kernel) (by decide +kernel) (by decide)
  show ev_stepn _ 8 (0, [(0, .ref 0), (1, .int (0)), (2, .int x2), (3, .ref 723)], [], _, _, 0, 0) = _
  refine ev_go0 (ev_one_pure (M := (ev_Mof 382)) (pc := 0) (i := .aload_n 3) (len := 1) (pc' := 1) (lv' := [(0, .ref 0), (1, .int (0)), (2, .int x2), (3, .ref 723)]) (st' := [.ref 723]) (by decide +kernel) rfl) ?_
  refine ev_go0 (ev_w_iconst (M := (ev_Mof 382)) (pc := 1) (k := 0) (v := 0) (by decide +kernel) (by decide +kernel)) ?_
  refine ev_go0 (ev_one_pure (M := (ev_Mof 382)) (pc := 2) (i := .aload_n 0) (len := 1) (pc' := 3) (lv' := [(0, .ref 0), (1, .int (0)), (2, .int x2), (3, .ref 723)]) (st' := [.ref 0, .int (0), .ref 723]) (by decide +kernel) rfl) ?_
  refine ev_go0 (ev_one_pure (M := (ev_Mof 382)) (pc := 3) (i := .iload_n 1) (len := 1) (pc' := 4) (lv' := [(0, .ref 0), (1, .int (0)), (2, .int x2), (3, .ref 723)]) (st' := [.int (0), .ref 0, .int (0), .ref 723]) (by decide +kernel) rfl) ?_
  refine ev_go0 (ev_one_pure (M := (ev_Mof 382)) (pc := 4) (i := .iload_n 2) (len := 1) (pc' := 5) (lv' := [(0, .ref 0), (1, .int (0)), (2, .int x2), (3, .ref 723)]) (st' := [.int x2, .int (0), .ref 0, .int (0), .ref 723]) (by decide +kernel) rfl) ?_
  refine ev_go (ev_p_virtX (M := (ev_Mof 382)) (pc := 5) (x := 76) (t := 13) (mi := 185) (na := 2) (by decide +kernel) (by decide +kernel) (by decide +kernel) (by decide +kernel) rfl rfl (ev_recv_of ev_fH0) (ev_k397 x2 hl_x2) (by decide +kernel)) ?_
  refine ev_go0 (ev_w_astore (M := (ev_Mof 382)) (pc := 13) (k := 4) (lv' := [(4, .retAddr 1), (0, .ref 0), (1, .int (0)), (2, .int x2), (3, .ref 723)]) (by decide +kernel) (by decide +kernel) (Or.inr (Or.inr ⟨_, rfl⟩)) rfl) ?_
  refine ev_go0 (ev_w_iconst (M := (ev_Mof 382)) (pc := 15) (k := 1) (v := 1) (by decide +kernel) (by decide +kernel)) ?_
  rfl
theorem ev_k399 (x2 : Int32) (hl_x2 : (0 : Int) ≤ x2.toInt) {n : Nat} : ev_calld 11 222 [.int x2, .int (0), .int (-1)] ev_H0 n = some (.inl (some (.int (0))), ev_H0, n, 0, 0) := by
  refine ev_call_int (k := 7) (pcR := 15) (lv' := [(0, .int x2), (1, .int (0)), (2, .int (-1))]) (v := (0)) (ty := .boolean) (by decide +kernel) rfl ?_ (by decide +kernel) (by decide +kernel) (by decide +kernel) (by decide)
  show ev_stepn _ 7 (0, [(0, .int x2), (1, .int (0)), (2, .int (-1))], [], _, _, 0, 0) = _
  refine ev_go0 (ev_one_pure (M := (ev_Mof 222)) (pc := 0) (i := .iload_n 0) (len := 1) (pc' := 1) (lv' := [(0, .int x2), (1, .int (0)), (2, .int (-1))]) (st' := [.int x2]) (by decide +kernel) rfl) ?_
  refine ev_go0 (ev_one_pure (M := (ev_Mof 222)) (pc := 1) (i := .iload_n 1) (len := 1) (pc' := 2) (lv' := [(0, .int x2), (1, .int (0)), (2, .int (-1))]) (st' := [.int (0), .int x2]) (by decide +kernel) rfl) ?_
  refine ev_go0 (ev_w_icmp (M := (ev_Mof 222)) (pc := 2) (q := .lt) (o := 12) (b := false) (t := 5) (by decide +kernel) (ev_c_lt0 hl_x2 (by decide +kernel)) rfl) ?_
  refine ev_go0 (ev_one_pure (M := (ev_Mof 222)) (pc := 5) (i := .iload_n 0) (len := 1) (pc' := 6) (lv' := [(0, .int x2), (1, .int (0)), (2, .int (-1))]) (st' := [.int x2]) (by decide +kernel) rfl) ?_
  refine ev_go0 (ev_one_pure (M := (ev_Mof 222)) (pc := 6) (i := .iload_n 2) (len := 1) (pc' := 7) (lv' := [(0, .int x2), (1, .int (0)), (2, .int (-1))]) (st' := [.int (-1), .int x2]) (by decide +kernel) rfl) ?_
  refine ev_go0 (ev_w_icmp (M := (ev_Mof 222)) (pc := 7) (q := .gt) (o := 7) (b := true) (t := 14) (by decide +kernel) (ev_c_gt1 hl_x2 (by decide +kernel)) rfl) ?_
  refine ev_go0 (ev_w_iconst (M := (ev_Mof 222)) (pc := 14) (k := 0) (v := 0) (by decide +kernel) (by decide +kernel)) ?_
  rfl
theorem ev_k400 (x2 : Int32) (hl_x2 : (0 : Int) ≤ x2.toInt) {n : Nat} : ev_calld 12 348 [.ref 621, .int (0), .int x2] ev_H0 n = some (.inl (some (.int (32))), (ev_H0.set 621 (.inr (13, (ev_F621.set 0 (.int (1)))))), n, 0, 0) := by
  refine ev_call_int (k := 22) (pcR := 58) (lv' := [(0, .ref 621), (1, .int (0)), (2, .int x2)]) (v := (32)) (ty := .char) (by decide +kernel) rfl ?_ (by decide +kernel) (by decide +kernel) (by decide +kernel) (by decide)
  show ev_stepn _ 22 (0, [(0, .ref 621), (1, .int (0)), (2, .int x2)], [], _, _, 0, 0) = _
  refine ev_go0 (ev_one_pure (M := (ev_Mof 348)) (pc := 0) (i := .aload_n 0) (len := 1) (pc' := 1) (lv' := [(0, .ref 621), (1, .int (0)), (2, .int x2)]) (st' := [.ref 621]) (by decide +kernel) rfl) ?_
  refine ev_go0 (ev_one_pure (M := (ev_Mof 348)) (pc := 1) (i := .aload_n 0) (len := 1) (pc' := 2) (lv' := [(0, .ref 621), (1, .int (0)), (2, .int x2)]) (st' := [.ref 621, .ref 621]) (by decide +kernel) rfl) ?_
  refine ev_go0 (ev_one_pure (M := (ev_Mof 348)) (pc := 2) (i := .iload_n 1) (len := 1) (pc' := 3) (lv' := [(0, .ref 621), (1, .int (0)), (2, .int x2)]) (st' := [.int (0), .ref 621, .ref 621]) (by decide +kernel) rfl) ?_
  refine ev_go0 (ev_p_virt (M := (ev_Mof 348)) (pc := 3) (x := 716) (mi := 325) (na := 1) (by decide +kernel) (by decide +kernel) (by decide +kernel) (by decide +kernel) rfl rfl (ev_recv_of ev_fH621) ev_k394) ?_
  refine ev_go0 (ev_w_if (M := (ev_Mof 348)) (pc := 6) (q := .eq) (o := 23) (b := false) (t := 9) (by decide +kernel) (by decide +kernel) rfl) ?_
  refine ev_go0 (ev_one_pure (M := (ev_Mof 348)) (pc := 9) (i := .iload_n 2) (len := 1) (pc' := 10) (lv' := [(0, .ref 621), (1, .int (0)), (2, .int x2)]) (st' := [.int x2, .ref 621]) (by decide +kernel) rfl) ?_
  refine ev_go0 (ev_w_iconst (M := (ev_Mof 348)) (pc := 10) (k := 0) (v := 0) (by decide +kernel) (by decide +kernel)) ?_
  refine ev_go0 (ev_one_pure (M := (ev_Mof 348)) (pc := 11) (i := .aload_n 0) (len := 1) (pc' := 12) (lv' := [(0, .ref 621), (1, .int (0)), (2, .int x2)]) (st' := [.ref 621, .int (0), .int x2, .ref 621]) (by decide +kernel) rfl) ?_
  refine ev_go0 (ev_p_getf (M := (ev_Mof 348)) (pc := 12) (x := 270) (ci := 13) (f := 119) (fin := 1) (v := .ref 707) (by decide +kernel) (by decide +kernel) ev_fH621 rfl) ?_
  refine ev_go0 (ev_one_pure (M := (ev_Mof 348)) (pc := 15) (i := .iload_n 1) (len := 1) (pc' := 16) (lv' := [(0, .ref 621), (1, .int (0)), (2, .int x2)]) (st' := [.int (0), .ref 707, .int (0), .int x2, .ref 621]) (by decide +kernel) rfl) ?_
  refine ev_go0 (ev_w_iald (M := (ev_Mof 348)) (pc := 16) (v := (0)) (by decide +kernel) ev_fH707 (by decide +kernel) rfl) ?_
  refine ev_go0 (ev_w_iconst (M := (ev_Mof 348)) (pc := 17) (k := 1) (v := 1) (by decide +kernel) (by decide +kernel)) ?_
  refine ev_go0 (ev_w_isub (M := (ev_Mof 348)) (pc := 18) (v := (-1)) (by decide +kernel) (by decide +kernel)) ?_
  refine ev_go0 (ev_w_stat (M := (ev_Mof 348)) (pc := 19) (y := 325) (kind := 2) (Or.inl rfl) (mi := 222) (na := 3) (by decide +kernel) (by decide +kernel) (by decide +kernel) (by decide +kernel) rfl rfl (ev_k399 x2 hl_x2)) ?_
  refine ev_go0 (ev_w_if (M := (ev_Mof 348)) (pc := 22) (q := .eq) (o := 7) (b := true) (t := 29) (by decide +kernel) (by decide +kernel) rfl) ?_
  refine ev_go0 (ev_w_iconst (M := (ev_Mof 348)) (pc := 29) (k := 1) (v := 1) (by decide +kernel) (by decide +kernel)) ?_
  refine ev_go0 (ev_p_putf (M := (ev_Mof 348)) (pc := 30) (x := 321) (ci := 13) (f := 0) (by decide +kernel) (by decide +kernel) ev_fH621 rfl (by decide +kernel)) ?_
  refine ev_go0 (ev_one_pure (M := (ev_Mof 348)) (pc := 33) (i := .aload_n 0) (len := 1) (pc' := 34) (lv' := [(0, .ref 621), (1, .int (0)), (2, .int x2)]) (st' := [.ref 621]) (by decide +kernel) rfl) ?_
  refine ev_go0 (ev_p_getf (M := (ev_Mof 348)) (pc := 34) (x := 321) (ci := 13) (f := 0) (fin := 0) (v := .int (1)) (by decide +kernel) (by decide +kernel) (ev_hself ev_fH621) rfl) ?_
  refine ev_go0 (ev_w_if (M := (ev_Mof 348)) (pc := 37) (q := .le) (o := 8) (b := false) (t := 40) (by decide +kernel) (by decide +kernel) rfl) ?_
  refine ev_go0 (ev_w_bipush (M := (ev_Mof 348)) (pc := 40) (k := 32) (v := 32) (by decide +kernel) (by decide +kernel)) ?_
  refine ev_go0 (ev_one_pure (M := (ev_Mof 348)) (pc := 42) (i := .goto 16) (len := 3) (pc' := 58) (lv' := [(0, .ref 621), (1, .int (0)), (2, .int x2)]) (st' := [.int (32)]) (by decide +kernel) rfl) ?_
  rfl
theorem ev_p1_19_0p (xs : Nat → Int32) (x2 : Int32) (hl_x2 : (0 : Int) ≤ x2.toInt) (e1 : xs 1 = (0)) (e2 : xs 2 = x2) : ev_P1 xs 1420 := by
  refine ⟨34, [(6, .int (32)), (5, .int (1)), (4, .int (0)), (3, .ref 723), (2, .ref 621), (1, .ref 0), (0, .retAddr 0)], (ev_H0.set 621 (.inr (13, (ev_F621.set 0 (.int (1)))))), 724, 725, 3553592, ?_, ⟨rfl, rfl, rfl, rfl⟩, rfl, by decide, by decide⟩
  show ev_stepn _ _ (1420, [(4, .int (0)), (3, .ref 723), (2, .ref 621), (1, .ref 0), (0, .retAddr 0)], [], _, _, _, _) = _
  refine ev_go0 (ev_one_pure (M := ev_Mlaw) (pc := 1420) (i := .aload_n 1) (len := 1) (pc' := 1421) (lv' := [(4, .int (0)), (3, .ref 723), (2, .ref 621), (1, .ref 0), (0, .retAddr 0)]) (st' := [.ref 0]) (by decide +kernel) rfl) ?_
  refine ev_go0 (ev_one_pure (M := ev_Mlaw) (pc := 1421) (i := .aload_n 0) (len := 1) (pc' := 1422) (lv' := [(4, .int (0)), (3, .ref 723), (2, .ref 621), (1, .ref 0), (0, .retAddr 0)]) (st' := [.retAddr 0, .ref 0]) (by decide +kernel) rfl) ?_
  refine ev_go0 (ev_one_pure (M := ev_Mlaw) (pc := 1422) (i := .iload 4) (len := 2) (pc' := 1424) (lv' := [(4, .int (0)), (3, .ref 723), (2, .ref 621), (1, .ref 0), (0, .retAddr 0)]) (st' := [.int (0), .retAddr 0, .ref 0]) (by decide +kernel) rfl) ?_
  refine ev_go0 (ev_w_iconst (M := ev_Mlaw) (pc := 1424) (k := 1) (v := 1) (by decide +kernel) (by decide +kernel)) ?_
  refine ev_go0 (ev_w_iadd (M := ev_Mlaw) (pc := 1425) (v := (1)) (by decide +kernel) (by decide +kernel)) ?_
  refine ev_go0 (ev_w_scr (M := ev_Mlaw) (pc := 1426) (v := (0)) (j := 1) (by decide +kernel) (by decide +kernel) (by decide +kernel) e1) ?_
  refine ev_go0 (ev_one_pure (M := ev_Mlaw) (pc := 1427) (i := .aload_n 0) (len := 1) (pc' := 1428) (lv' := [(4, .int (0)), (3, .ref 723), (2, .ref 621), (1, .ref 0), (0, .retAddr 0)]) (st' := [.retAddr 0, .int (0), .ref 0]) (by decide +kernel) rfl) ?_
  refine ev_go0 (ev_one_pure (M := ev_Mlaw) (pc := 1428) (i := .iload 4) (len := 2) (pc' := 1430) (lv' := [(4, .int (0)), (3, .ref 723), (2, .ref 621), (1, .ref 0), (0, .retAddr 0)]) (st' := [.int (0), .retAddr 0, .int (0), .ref 0]) (by decide +kernel) rfl) ?_
  refine ev_go0 (ev_w_iconst (M := ev_Mlaw) (pc := 1430) (k := 2) (v := 2) (by decide +kernel) (by decide +kernel)) ?_
  refine ev_go0 (ev_w_iadd (M := ev_Mlaw) (pc := 1431) (v := (2)) (by decide +kernel) (by decide +kernel)) ?_
  refine ev_go0 (ev_w_scr (M := ev_Mlaw) (pc := 1432) (v := x2) (j := 2) (by decide +kernel) (by decide +kernel) (by decide +kernel) e2) ?_
  refine ev_go0 (ev_one_pure (M := ev_Mlaw) (pc := 1433) (i := .aload_n 3) (len := 1) (pc' := 1434) (lv' := [(4, .int (0)), (3, .ref 723), (2, .ref 621), (1, .ref 0), (0, .retAddr 0)]) (st' := [.ref 723, .int x2, .int (0), .ref 0]) (by decide +kernel) rfl) ?_
  refine ev_go (ev_w_stat (M := ev_Mlaw) (pc := 1434) (y := 194) (kind := 8) (Or.inr (Or.inr rfl)) (mi := 382) (na := 4) (by decide +kernel) (by decide +kernel) (by decide +kernel) (by decide +kernel) rfl rfl (ev_k398 x2 hl_x2)) ?_
  refine ev_go0 (ev_w_istore (M := ev_Mlaw) (pc := 1437) (k := 5) (lv' := [(5, .int (1)), (4, .int (0)), (3, .ref 723), (2, .ref 621), (1, .ref 0), (0, .retAddr 0)]) (by decide +kernel) (by decide +kernel) rfl) ?_
  refine ev_go0 (ev_one_pure (M := ev_Mlaw) (pc := 1439) (i := .aload_n 2) (len := 1) (pc' := 1440) (lv' := [(5, .int (1)), (4, .int (0)), (3, .ref 723), (2, .ref 621), (1, .ref 0), (0, .retAddr 0)]) (st' := [.ref 621]) (by decide +kernel) rfl) ?_
  refine ev_go0 (ev_one_pure (M := ev_Mlaw) (pc := 1440) (i := .aload_n 0) (len := 1) (pc' := 1441) (lv' := [(5, .int (1)), (4, .int (0)), (3, .ref 723), (2, .ref 621), (1, .ref 0), (0, .retAddr 0)]) (st' := [.retAddr 0, .ref 621]) (by decide +kernel) rfl) ?_
  refine ev_go0 (ev_one_pure (M := ev_Mlaw) (pc := 1441) (i := .iload 4) (len := 2) (pc' := 1443) (lv' := [(5, .int (1)), (4, .int (0)), (3, .ref 723), (2, .ref 621), (1, .ref 0), (0, .retAddr 0)]) (st' := [.int (0), .retAddr 0, .ref 621]) (by decide +kernel) rfl) ?_
  refine ev_go0 (ev_w_iconst (M := ev_Mlaw) (pc := 1443) (k := 1) (v := 1) (by decide +kernel) (by decide +kernel)) ?_
  refine ev_go0 (ev_w_iadd (M := ev_Mlaw) (pc := 1444) (v := (1)) (by decide +kernel) (by decide +kernel)) ?_
  refine ev_go0 (ev_w_scr (M := ev_Mlaw) (pc := 1445) (v := (0)) (j := 1) (by decide +kernel) (by decide +kernel) (by decide +kernel) e1) ?_
  refine ev_go0 (ev_one_pure (M := ev_Mlaw) (pc := 1446) (i := .aload_n 0) (len := 1) (pc' := 1447) (lv' := [(5, .int (1)), (4, .int (0)), (3, .ref 723), (2, .ref 621), (1, .ref 0), (0, .retAddr 0)]) (st' := [.retAddr 0, .int (0), .ref 621]) (by decide +kernel) rfl) ?_
  refine ev_go0 (ev_one_pure (M := ev_Mlaw) (pc := 1447) (i := .iload 4) (len := 2) (pc' := 1449) (lv' := [(5, .int (1)), (4, .int (0)), (3, .ref 723), (2, .ref 621), (1, .ref 0), (0, .retAddr 0)]) (st' := [.int (0), .retAddr 0, .int (0), .ref 621]) (by decide +kernel) rfl) ?_
  refine ev_go0 (ev_w_iconst (M := ev_Mlaw) (pc := 1449) (k := 2) (v := 2) (by decide +kernel) (by decide +kernel)) ?_
  refine ev_go0 (ev_w_iadd (M := ev_Mlaw) (pc := 1450) (v := (2)) (by decide +kernel) (by decide +kernel)) ?_
  refine ev_go0 (ev_w_scr (M := ev_Mlaw) (pc := 1451) (v := x2) (j := 2) (by decide +kernel) (by decide +kernel) (by decide +kernel) e2) ?_
  refine ev_go0 (ev_p_virt (M := ev_Mlaw) (pc := 1452) (x := 196) (mi := 348) (na := 2) (by decide +kernel) (by decide +kernel) (by decide +kernel) (by decide +kernel) rfl rfl (ev_recv_of ev_fH621) (ev_k400 x2 hl_x2)) ?_
  refine ev_go0 (ev_w_istore (M := ev_Mlaw) (pc := 1455) (k := 6) (lv' := [(6, .int (32)), (5, .int (1)), (4, .int (0)), (3, .ref 723), (2, .ref 621), (1, .ref 0), (0, .retAddr 0)]) (by decide +kernel) (by decide +kernel) rfl) ?_
  refine ev_go0 (ev_one_pure (M := ev_Mlaw) (pc := 1457) (i := .aload_n 2) (len := 1) (pc' := 1458) (lv' := [(6, .int (32)), (5, .int (1)), (4, .int (0)), (3, .ref 723), (2, .ref 621), (1, .ref 0), (0, .retAddr 0)]) (st' := [.ref 621]) (by decide +kernel) rfl) ?_
  refine ev_go0 (ev_p_virt (M := ev_Mlaw) (pc := 1458) (x := 131) (mi := 220) (na := 0) (by decide +kernel) (by decide +kernel) (by decide +kernel) (by decide +kernel) rfl rfl (ev_recv_of (ev_hself ev_fH621)) ev_k26) ?_
  refine ev_go0 (ev_one_pure (M := ev_Mlaw) (pc := 1461) (i := .iload 5) (len := 2) (pc' := 1463) (lv' := [(6, .int (32)), (5, .int (1)), (4, .int (0)), (3, .ref 723), (2, .ref 621), (1, .ref 0), (0, .retAddr 0)]) (st' := [.int (1), .int (1)]) (by decide +kernel) rfl) ?_
  refine ev_go0 (ev_w_icmp (M := ev_Mlaw) (pc := 1463) (q := .eq) (o := 5) (b := true) (t := 1468) (by decide +kernel) (by decide +kernel) rfl) ?_
  refine ev_go0 (ev_one_pure (M := ev_Mlaw) (pc := 1468) (i := .iload 5) (len := 2) (pc' := 1470) (lv' := [(6, .int (32)), (5, .int (1)), (4, .int (0)), (3, .ref 723), (2, .ref 621), (1, .ref 0), (0, .retAddr 0)]) (st' := [.int (1)]) (by decide +kernel) rfl) ?_
  refine ev_go0 (ev_w_if (M := ev_Mlaw) (pc := 1470) (q := .ne) (o := 15) (b := true) (t := 1485) (by decide +kernel) (by decide +kernel) rfl) ?_
  refine ev_go0 (ev_one_pure (M := ev_Mlaw) (pc := 1485) (i := .goto 787) (len := 3) (pc' := 2272) (lv' := [(6, .int (32)), (5, .int (1)), (4, .int (0)), (3, .ref 723), (2, .ref 621), (1, .ref 0), (0, .retAddr 0)]) (st' := []) (by decide +kernel) rfl) ?_
  rfl
theorem ev_k401 (x2 : Int32) (hu_x2 : x2.toInt ≤ (-1 : Int)) {n : Nat} : ev_calld 11 185 [.ref 0, .int (1), .int x2] ev_H0 n = some (.inr "java/lang/IndexOutOfBoundsException", ev_H0, n, 1, 6) := by
  refine ev_call_thrown (k := 9) (pcR := 25) (x := 160) (lv' := [(3, .ref 265), (0, .ref 0), (1, .int (1)), (2, .int x2)]) (by decide +kernel) rfl ?_ (by decide +kernel) (by decide +kernel) (by decide +kernel) (by decide) (by decide)
  show ev_stepn _ 9 (0, [(0, .ref 0), (1, .int (1)), (2, .int x2)], [], _, _, 0, 0) = _
  refine ev_go0 (ev_one_pure (M := (ev_Mof 185)) (pc := 0) (i := .aload_n 0) (len := 1) (pc' := 1) (lv' := [(0, .ref 0), (1, .int (1)), (2, .int x2)]) (st' := [.ref 0]) (by decide +kernel) rfl) ?_
  refine ev_go0 (ev_p_getf (M := (ev_Mof 185)) (pc := 1) (x := 48) (ci := 12) (f := 8) (fin := 1) (v := .ref 254) (by decide +kernel) (by decide +kernel) ev_fH0 rfl) ?_
  refine ev_go0 (ev_one_pure (M := (ev_Mof 185)) (pc := 4) (i := .iload_n 1) (len := 1) (pc' := 5) (lv' := [(0, .ref 0), (1, .int (1)), (2, .int x2)]) (st' := [.int (1), .ref 254]) (by decide +kernel) rfl) ?_
  refine ev_go0 (ev_p_virt (M := (ev_Mof 185)) (pc := 5) (x := 221) (mi := 1) (na := 1) (by decide +kernel) (by decide +kernel) (by decide +kernel) (by decide +kernel) rfl rfl (ev_recv_of ev_fH254) ev_k238) ?_
  refine ev_go0 (ev_w_astore_n (M := (ev_Mof 185)) (pc := 8) (k := 3) (lv' := [(3, .ref 265), (0, .ref 0), (1, .int (1)), (2, .int x2)]) (by decide +kernel) (by decide +kernel) (Or.inl ⟨_, rfl⟩) rfl) ?_
  refine ev_go0 (ev_one_pure (M := (ev_Mof 185)) (pc := 9) (i := .aload_n 3) (len := 1) (pc' := 10) (lv' := [(3, .ref 265), (0, .ref 0), (1, .int (1)), (2, .int x2)]) (st' := [.ref 265]) (by decide +kernel) rfl) ?_
  refine ev_go0 (ev_w_ifnull (M := (ev_Mof 185)) (pc := 10) (o := 15) (t := 13) (by decide +kernel) (Or.inr ⟨⟨_, rfl⟩, rfl⟩)) ?_
  refine ev_go0 (ev_one_pure (M := (ev_Mof 185)) (pc := 13) (i := .iload_n 2) (len := 1) (pc' := 14) (lv' := [(3, .ref 265), (0, .ref 0), (1, .int (1)), (2, .int x2)]) (st' := [.int x2]) (by decide +kernel) rfl) ?_
  refine ev_go0 (ev_w_if (M := (ev_Mof 185)) (pc := 14) (q := .lt) (o := 11) (b := true) (t := 25) (by decide +kernel) (ev_c_lt1 hu_x2 (by decide +kernel)) rfl) ?_
  rfl
theorem ev_k402 (x2 : Int32) (hu_x2 : x2.toInt ≤ (-1 : Int)) {n : Nat} : ev_calld 12 382 [.ref 0, .int (1), .int x2, .ref 723] ev_H0 n = some (.inl (some (.int (1))), ev_H0, n, 1, 6) := by
  refine ev_call_int (k := 8) (pcR := 16) (lv' := [(4, .retAddr 1), (0, .ref 0), (1, .int (1)), (2, .int x2), (3, .ref 723)]) (v := (1)) (ty := .int) (by decide +kernel) rfl ?_ (by decide +kernel) (by decide +kernel) (by decide +kernel) (by decide)
  show ev_stepn _ 8 (0, [(0, .ref 0), (1, .int (1)), (2, .int x2), (3, .ref 723)], [], _, _, 0, 0) = _
  refine ev_go0 (ev_one_pure (M := (ev_Mof 382)) (pc := 0) (i := .aload_n 3) (len := 1) (pc' := 1) (lv' := [(0, .ref 0), (1, .int (1)), (2, .int x2), (3, .ref 723)]) (st' := [.ref 723]) (by decide +kernel) rfl) ?_
  refine ev_go0 (ev_w_iconst (M := (ev_Mof 382)) (pc := 1) (k := 0) (v := 0) (by decide +kernel) (by decide +kernel)) ?_
  refine ev_go0 (ev_one_pure (M := (ev_Mof 382)) (pc := 2) (i := .aload_n 0) (len := 1) (pc' := 3) (lv' := [(0, .ref 0), (1, .int (1)), (2, .int x2), (3, .ref 723)]) (st' := [.ref 0, .int (0), .ref 723]) (by decide +kernel) rfl) ?_
  refine ev_go0 (ev_one_pure (M := (ev_Mof 382)) (pc := 3) (i := .iload_n 1) (len := 1) (pc' := 4) (lv' := [(0, .ref 0), (1, .int (1)), (2, .int x2), (3, .ref 723)]) (st' := [.int (1), .ref 0, .int (0), .ref 723]) (by decide +kernel) rfl) ?_
  refine ev_go0 (ev_one_pure (M := (ev_Mof 382)) (pc := 4) (i := .iload_n 2) (len := 1) (pc' := 5) (lv' := [(0, .ref 0), (1, .int (1)), (2, .int x2), (3, .ref 723)]) (st' := [.int x2, .int (1), .ref 0, .int (0), .ref 723]) (by decide +kernel) rfl) ?_
  refine ev_go (ev_p_virtX (M := (ev_Mof 382)) (pc := 5) (x := 76) (t := 13) (mi := 185) (na := 2) (by decide +kernel) (by decide +kernel) (by decide +kernel) (by decide +kernel) rfl rfl (ev_recv_of ev_fH0) (ev_k401 x2 hu_x2) (by decide +kernel)) ?_
  refine ev_go0 (ev_w_astore (M := (ev_Mof 382)) (pc := 13) (k := 4) (lv' := [(4, .retAddr 1), (0, .ref 0), (1, .int (1)), (2, .int x2), (3, .ref 723)]) (by decide +kernel) (by decide +kernel) (Or.inr (Or.inr ⟨_, rfl⟩)) rfl) ?_
  refine ev_go0 (ev_w_iconst (M := (ev_Mof 382)) (pc := 15) (k := 1) (v := 1) (by decide +kernel) (by decide +kernel)) ?_
  rfl
theorem ev_k403 {n : Nat} : ev_calld 10 222 [.int (1), .int (0), .int (2)] ev_H0 n = some (.inl (some (.int (1))), ev_H0, n, 0, 0) := by
  refine ev_call_int (k := 8) (pcR := 15) (lv' := [(0, .int (1)), (1, .int (0)), (2, .int (2))]) (v := (1)) (ty := .boolean) (by decide +kernel) rfl ?_ (by decide +kernel) (by decide +kernel) (by decide +kernel) (by decide)
  show ev_stepn _ 8 (0, [(0, .int (1)), (1, .int (0)), (2, .int (2))], [], _, _, 0, 0) = _
  refine ev_go0 (ev_one_pure (M := (ev_Mof 222)) (pc := 0) (i := .iload_n 0) (len := 1) (pc' := 1) (lv' := [(0, .int (1)), (1, .int (0)), (2, .int (2))]) (st' := [.int (1)]) (by decide +kernel) rfl) ?_
  refine ev_go0 (ev_one_pure (M := (ev_Mof 222)) (pc := 1) (i := .iload_n 1) (len := 1) (pc' := 2) (lv' := [(0, .int (1)), (1, .int (0)), (2, .int (2))]) (st' := [.int (0), .int (1)]) (by decide +kernel) rfl) ?_
  refine ev_go0 (ev_w_icmp (M := (ev_Mof 222)) (pc := 2) (q := .lt) (o := 12) (b := false) (t := 5) (by decide +kernel) (by decide +kernel) rfl) ?_
  refine ev_go0 (ev_one_pure (M := (ev_Mof 222)) (pc := 5) (i := .iload_n 0) (len := 1) (pc' := 6) (lv' := [(0, .int (1)), (1, .int (0)), (2, .int (2))]) (st' := [.int (1)]) (by decide +kernel) rfl) ?_
  refine ev_go0 (ev_one_pure (M := (ev_Mof 222)) (pc := 6) (i := .iload_n 2) (len := 1) (pc' := 7) (lv' := [(0, .int (1)), (1, .int (0)), (2, .int (2))]) (st' := [.int (2), .int (1)]) (by decide +kernel) rfl) ?_
  refine ev_go0 (ev_w_icmp (M := (ev_Mof 222)) (pc := 7) (q := .gt) (o := 7) (b := false) (t := 10) (by decide +kernel) (by decide +kernel) rfl) ?_
  refine ev_go0 (ev_w_iconst (M := (ev_Mof 222)) (pc := 10) (k := 1) (v := 1) (by decide +kernel) (by decide +kernel)) ?_
  refine ev_go0 (ev_one_pure (M := (ev_Mof 222)) (pc := 11) (i := .goto 4) (len := 3) (pc' := 15) (lv' := [(0, .int (1)), (1, .int (0)), (2, .int (2))]) (st' := [.int (1)]) (by decide +kernel) rfl) ?_
  rfl
theorem ev_k404 {n : Nat} : ev_calld 11 325 [.ref 621, .int (1)] ev_H0 n = some (.inl (some (.int (1))), ev_H0, n, 0, 0) := by
  refine ev_call_int (k := 4) (pcR := 6) (lv' := [(0, .ref 621), (1, .int (1))]) (v := (1)) (ty := .boolean) (by decide +kernel) rfl ?_ (by decide +kernel) (by decide +kernel) (by decide +kernel) (by decide)
  show ev_stepn _ 4 (0, [(0, .ref 621), (1, .int (1))], [], _, _, 0, 0) = _
  refine ev_go0 (ev_one_pure (M := (ev_Mof 325)) (pc := 0) (i := .iload_n 1) (len := 1) (pc' := 1) (lv' := [(0, .ref 621), (1, .int (1))]) (st' := [.int (1)]) (by decide +kernel) rfl) ?_
  refine ev_go0 (ev_w_iconst (M := (ev_Mof 325)) (pc := 1) (k := 0) (v := 0) (by decide +kernel) (by decide +kernel)) ?_
  refine ev_go0 (ev_w_iconst (M := (ev_Mof 325)) (pc := 2) (k := 2) (v := 2) (by decide +kernel) (by decide +kernel)) ?_
  refine ev_go0 (ev_w_stat (M := (ev_Mof 325)) (pc := 3) (y := 325) (kind := 2) (Or.inl rfl) (mi := 222) (na := 3) (by decide +kernel) (by decide +kernel) (by decide +kernel) (by decide +kernel) rfl rfl ev_k403) ?_
  rfl
theorem ev_k405 (x2 : Int32) (hu_x2 : x2.toInt ≤ (-1 : Int)) {n : Nat} : ev_calld 12 348 [.ref 621, .int (1), .int x2] ev_H0 n = some (.inl (some (.int (32))), (ev_H0.set 621 (.inr (13, (ev_F621.set 0 (.int (1)))))), n, 0, 0) := by
  refine ev_call_int (k := 22) (pcR := 58) (lv' := [(0, .ref 621), (1, .int (1)), (2, .int x2)]) (v := (32)) (ty := .char) (by decide +kernel) rfl ?_ (by decide +kernel) (by decide +kernel) (by decide +kernel) (by decide)
  show ev_stepn _ 22 (0, [(0, .ref 621), (1, .int (1)), (2, .int x2)], [], _, _, 0, 0) = _
  refine ev_go0 (ev_one_pure (M := (ev_Mof 348)) (pc := 0) (i := .aload_n 0) (len := 1) (pc' := 1) (lv' := [(0, .ref 621), (1, .int (1)), (2, .int x2)]) (st' := [.ref 621]) (by decide +kernel) rfl) ?_
  refine ev_go0 (ev_one_pure (M := (ev_Mof 348)) (pc := 1) (i := .aload_n 0) (len := 1) (pc' := 2) (lv' := [(0, .ref 621), (1, .int (1)), (2, .int x2)]) (st' := [.ref 621, .ref 621]) (by decide +kernel) rfl) ?_
  refine ev_go0 (ev_one_pure (M := (ev_Mof 348)) (pc := 2) (i := .iload_n 1) (len := 1) (pc' := 3) (lv' := [(0, .ref 621), (1, .int (1)), (2, .int x2)]) (st' := [.int (1), .ref 621, .ref 621]) (by decide +kernel) rfl) ?_
  refine ev_go0 (ev_p_virt (M := (ev_Mof 348)) (pc := 3) (x := 716) (mi := 325) (na := 1) (by decide +kernel) (by decide +kernel) (by decide +kernel) (by decide +kernel) rfl rfl (ev_recv_of ev_fH621) ev_k404) ?_
  refine ev_go0 (ev_w_if (M := (ev_Mof 348)) (pc := 6) (q := .eq) (o := 23) (b := false) (t := 9) (by decide +kernel) (by decide +kernel) rfl) ?_
  refine ev_go0 (ev_one_pure (M := (ev_Mof 348)) (pc := 9) (i := .iload_n 2) (len := 1) (pc' := 10) (lv' := [(0, .ref 621), (1, .int (1)), (2, .int x2)]) (st' := [.int x2, .ref 621]) (by decide +kernel) rfl) ?_
  refine ev_go0 (ev_w_iconst (M := (ev_Mof 348)) (pc := 10) (k := 0) (v := 0) (by decide +kernel) (by decide +kernel)) ?_
  refine ev_go0 (ev_one_pure (M := (ev_Mof 348)) (pc := 11) (i := .aload_n 0) (len := 1) (pc' := 12) (lv' := [(0, .ref 621), (1, .int (1)), (2, .int x2)]) (st' := [.ref 621, .int (0), .int x2, .ref 621]) (by decide +kernel) rfl) ?_
  refine ev_go0 (ev_p_getf (M := (ev_Mof 348)) (pc := 12) (x := 270) (ci := 13) (f := 119) (fin := 1) (v := .ref 707) (by decide +kernel) (by decide +kernel) ev_fH621 rfl) ?_
  refine ev_go0 (ev_one_pure (M := (ev_Mof 348)) (pc := 15) (i := .iload_n 1) (len := 1) (pc' := 16) (lv' := [(0, .ref 621), (1, .int (1)), (2, .int x2)]) (st' := [.int (1), .ref 707, .int (0), .int x2, .ref 621]) (by decide +kernel) rfl) ?_
  refine ev_go0 (ev_w_iald (M := (ev_Mof 348)) (pc := 16) (v := (0)) (by decide +kernel) ev_fH707 (by decide +kernel) rfl) ?_
  refine ev_go0 (ev_w_iconst (M := (ev_Mof 348)) (pc := 17) (k := 1) (v := 1) (by decide +kernel) (by decide +kernel)) ?_
  refine ev_go0 (ev_w_isub (M := (ev_Mof 348)) (pc := 18) (v := (-1)) (by decide +kernel) (by decide +kernel)) ?_
  refine ev_go0 (ev_w_stat (M := (ev_Mof 348)) (pc := 19) (y := 325) (kind := 2) (Or.inl rfl) (mi := 222) (na := 3) (by decide +kernel) (by decide +kernel) (by decide +kernel) (by decide +kernel) rfl rfl (ev_k395 x2 hu_x2)) ?_
  refine ev_go0 (ev_w_if (M := (ev_Mof 348)) (pc := 22) (q := .eq) (o := 7) (b := true) (t := 29) (by decide +kernel) (by decide +kernel) rfl) ?_
  refine ev_go0 (ev_w_iconst (M := (ev_Mof 348)) (pc := 29) (k := 1) (v := 1) (by decide +kernel) (by decide +kernel)) ?_
  refine ev_go0 (ev_p_putf (M := (ev_Mof 348)) (pc := 30) (x := 321) (ci := 13) (f := 0) (by decide +kernel) (by decide +kernel) ev_fH621 rfl (by decide +kernel)) ?_
  refine ev_go0 (ev_one_pure (M := (ev_Mof 348)) (pc := 33) (i := .aload_n 0) (len := 1) (pc' := 34) (lv' := [(0, .ref 621), (1, .int (1)), (2, .int x2)]) (st' := [.ref 621]) (by decide +kernel) rfl) ?_
  refine ev_go0 (ev_p_getf (M := (ev_Mof 348)) (pc := 34) (x := 321) (ci := 13) (f := 0) (fin := 0) (v := .int (1)) (by decide +kernel) (by decide +kernel) (ev_hself ev_fH621) rfl) ?_
  refine ev_go0 (ev_w_if (M := (ev_Mof 348)) (pc := 37) (q := .le) (o := 8) (b := false) (t := 40) (by decide +kernel) (by decide +kernel) rfl) ?_
  refine ev_go0 (ev_w_bipush (M := (ev_Mof 348)) (pc := 40) (k := 32) (v := 32) (by decide +kernel) (by decide +kernel)) ?_
  refine ev_go0 (ev_one_pure (M := (ev_Mof 348)) (pc := 42) (i := .goto 16) (len := 3) (pc' := 58) (lv' := [(0, .ref 621), (1, .int (1)), (2, .int x2)]) (st' := [.int (32)]) (by decide +kernel) rfl) ?_
  rfl
theorem ev_p1_19_1n (xs : Nat → Int32) (x2 : Int32) (hu_x2 : x2.toInt ≤ (-1 : Int)) (e1 : xs 1 = (1)) (e2 : xs 2 = x2) : ev_P1 xs 1420 := by
  refine ⟨34, [(6, .int (32)), (5, .int (1)), (4, .int (0)), (3, .ref 723), (2, .ref 621), (1, .ref 0), (0, .retAddr 0)], (ev_H0.set 621 (.inr (13, (ev_F621.set 0 (.int (1)))))), 724, 725, 3553592, ?_, ⟨rfl, rfl, rfl, rfl⟩, rfl, by decide, by decide⟩
  show ev_stepn _ _ (1420, [(4, .int (0)), (3, .ref 723), (2, .ref 621), (1, .ref 0), (0, .retAddr 0)], [], _, _, _, _) = _
  refine ev_go0 (ev_one_pure (M := ev_Mlaw) (pc := 1420) (i := .aload_n 1) (len := 1) (pc' := 1421) (lv' := [(4, .int (0)), (3, .ref 723), (2, .ref 621), (1, .ref 0), (0, .retAddr 0)]) (st' := [.ref 0]) (by decide +kernel) rfl) ?_
  refine ev_go0 (ev_one_pure (M := ev_Mlaw) (pc := 1421) (i := .aload_n 0) (len := 1) (pc' := 1422) (lv' := [(4, .int (0)), (3, .ref 723), (2, .ref 621), (1, .ref 0), (0, .retAddr 0)]) (st' := [.retAddr 0, .ref 0]) (by decide +kernel) rfl) ?_
  refine ev_go0 (ev_one_pure (M := ev_Mlaw) (pc := 1422) (i := .iload 4) (len := 2) (pc' := 1424) (lv' := [(4, .int (0)), (3, .ref 723), (2, .ref 621), (1, .ref 0), (0, .retAddr 0)]) (st' := [.int (0), .retAddr 0, .ref 0]) (by decide +kernel) rfl) ?_
  refine ev_go0 (ev_w_iconst (M := ev_Mlaw) (pc := 1424) (k := 1) (v := 1) (by decide +kernel) (by decide +kernel)) ?_
  refine ev_go0 (ev_w_iadd (M := ev_Mlaw) (pc := 1425) (v := (1)) (by decide +kernel) (by decide +kernel)) ?_
  refine ev_go0 (ev_w_scr (M := ev_Mlaw) (pc := 1426) (v := (1)) (j := 1) (by decide +kernel) (by decide +kernel) (by decide +kernel) e1) ?_
  refine ev_go0 (ev_one_pure (M := ev_Mlaw) (pc := 1427) (i := .aload_n 0) (len := 1) (pc' := 1428) (lv' := [(4, .int (0)), (3, .ref 723), (2, .ref 621), (1, .ref 0), (0, .retAddr 0)]) (st' := [.retAddr 0, .int (1), .ref 0]) (by decide +kernel) rfl) ?_
  refine ev_go0 (ev_one_pure (M := ev_Mlaw) (pc := 1428) (i := .iload 4) (len := 2) (pc' := 1430) (lv' := [(4, .int (0)), (3, .ref 723), (2, .ref 621), (1, .ref 0), (0, .retAddr 0)]) (st' := [.int (0), .retAddr 0, .int (1), .ref 0]) (by decide +kernel) rfl) ?_
  refine ev_go0 (ev_w_iconst (M := ev_Mlaw) (pc := 1430) (k := 2) (v := 2) (by decide +kernel) (by decide +kernel)) ?_
  refine ev_go0 (ev_w_iadd (M := ev_Mlaw) (pc := 1431) (v := (2)) (by decide +kernel) (by decide +kernel)) ?_
  refine ev_go0 (ev_w_scr (M := ev_Mlaw) (pc := 1432) (v := x2) (j := 2) (by decide +kernel) (by decide +kernel) (by decide +kernel) e2) ?_
  refine ev_go0 (ev_one_pure (M := ev_Mlaw) (pc := 1433) (i := .aload_n 3) (len := 1) (pc' := 1434) (lv' := [(4, .int (0)), (3, .ref 723), (2, .ref 621), (1, .ref 0), (0, .retAddr 0)]) (st' := [.ref 723, .int x2, .int (1), .ref 0]) (by decide +kernel) rfl) ?_
  refine ev_go (ev_w_stat (M := ev_Mlaw) (pc := 1434) (y := 194) (kind := 8) (Or.inr (Or.inr rfl)) (mi := 382) (na := 4) (by decide +kernel) (by decide +kernel) (by decide +kernel) (by decide +kernel) rfl rfl (ev_k402 x2 hu_x2)) ?_
  refine ev_go0 (ev_w_istore (M := ev_Mlaw) (pc := 1437) (k := 5) (lv' := [(5, .int (1)), (4, .int (0)), (3, .ref 723), (2, .ref 621), (1, .ref 0), (0, .retAddr 0)]) (by decide +kernel) (by decide +kernel) rfl) ?_
  refine ev_go0 (ev_one_pure (M := ev_Mlaw) (pc := 1439) (i := .aload_n 2) (len := 1) (pc' := 1440) (lv' := [(5, .int (1)), (4, .int (0)), (3, .ref 723), (2, .ref 621), (1, .ref 0), (0, .retAddr 0)]) (st' := [.ref 621]) (by decide +kernel) rfl) ?_
  refine ev_go0 (ev_one_pure (M := ev_Mlaw) (pc := 1440) (i := .aload_n 0) (len := 1) (pc' := 1441) (lv' := [(5, .int (1)), (4, .int (0)), (3, .ref 723), (2, .ref 621), (1, .ref 0), (0, .retAddr 0)]) (st' := [.retAddr 0, .ref 621]) (by decide +kernel) rfl) ?_
  refine ev_go0 (ev_one_pure (M := ev_Mlaw) (pc := 1441) (i := .iload 4) (len := 2) (pc' := 1443) (lv' := [(5, .int (1)), (4, .int (0)), (3, .ref 723), (2, .ref 621), (1, .ref 0), (0, .retAddr 0)]) (st' := [.int (0), .retAddr 0, .ref 621]) (by decide +kernel) rfl) ?_
  refine ev_go0 (ev_w_iconst (M := ev_Mlaw) (pc := 1443) (k := 1) (v := 1) (by decide +kernel) (by decide +kernel)) ?_
  refine ev_go0 (ev_w_iadd (M := ev_Mlaw) (pc := 1444) (v := (1)) (by decide +kernel) (by decide +kernel)) ?_
  refine ev_go0 (ev_w_scr (M := ev_Mlaw) (pc := 1445) (v := (1)) (j := 1) (by decide +kernel) (by decide +kernel) (by decide +kernel) e1) ?_
  refine ev_go0 (ev_one_pure (M := ev_Mlaw) (pc := 1446) (i := .aload_n 0) (len := 1) (pc' := 1447) (lv' := [(5, .int (1)), (4, .int (0)), (3, .ref 723), (2, .ref 621), (1, .ref 0), (0, .retAddr 0)]) (st' := [.retAddr 0, .int (1), .ref 621]) (by decide +kernel) rfl) ?_
  refine ev_go0 (ev_one_pure (M := ev_Mlaw) (pc := 1447) (i := .iload 4) (len := 2) (pc' := 1449) (lv' := [(5, .int (1)), (4, .int (0)), (3, .ref 723), (2, .ref 621), (1, .ref 0), (0, .retAddr 0)]) (st' := [.int (0), .retAddr 0, .int (1), .ref 621]) (by decide +kernel) rfl) ?_
  refine ev_go0 (ev_w_iconst (M := ev_Mlaw) (pc := 1449) (k := 2) (v := 2) (by decide +kernel) (by decide +kernel)) ?_
  refine ev_go0 (ev_w_iadd (M := ev_Mlaw) (pc := 1450) (v := (2)) (by decide +kernel) (by decide +kernel)) ?_
  refine ev_go0 (ev_w_scr (M := ev_Mlaw) (pc := 1451) (v := x2) (j := 2) (by decide +kernel) (by decide +kernel) (by decide +kernel) e2) ?_
  refine ev_go0 (ev_p_virt (M := ev_Mlaw) (pc := 1452) (x := 196) (mi := 348) (na := 2) (by decide +kernel) (by decide +kernel) (by decide +kernel) (by decide +kernel) rfl rfl (ev_recv_of ev_fH621) (ev_k405 x2 hu_x2)) ?_
  refine ev_go0 (ev_w_istore (M := ev_Mlaw) (pc := 1455) (k := 6) (lv' := [(6, .int (32)), (5, .int (1)), (4, .int (0)), (3, .ref 723), (2, .ref 621), (1, .ref 0), (0, .retAddr 0)]) (by decide +kernel) (by decide +kernel) rfl) ?_
  refine ev_go0 (ev_one_pure (M := ev_Mlaw) (pc := 1457) (i := .aload_n 2) (len := 1) (pc' := 1458) (lv' := [(6, .int (32)), (5, .int (1)), (4, .int (0)), (3, .ref 723), (2, .ref 621), (1, .ref 0), (0, .retAddr 0)]) (st' := [.ref 621]) (by decide +kernel) rfl) ?_
  refine ev_go0 (ev_p_virt (M := ev_Mlaw) (pc := 1458) (x := 131) (mi := 220) (na := 0) (by decide +kernel) (by decide +kernel) (by decide +kernel) (by decide +kernel) rfl rfl (ev_recv_of (ev_hself ev_fH621)) ev_k26) ?_
  refine ev_go0 (ev_one_pure (M := ev_Mlaw) (pc := 1461) (i := .iload 5) (len := 2) (pc' := 1463) (lv' := [(6, .int (32)), (5, .int (1)), (4, .int (0)), (3, .ref 723), (2, .ref 621), (1, .ref 0), (0, .retAddr 0)]) (st' := [.int (1), .int (1)]) (by decide +kernel) rfl) ?_
  refine ev_go0 (ev_w_icmp (M := ev_Mlaw) (pc := 1463) (q := .eq) (o := 5) (b := true) (t := 1468) (by decide +kernel) (by decide +kernel) rfl) ?_
  refine ev_go0 (ev_one_pure (M := ev_Mlaw) (pc := 1468) (i := .iload 5) (len := 2) (pc' := 1470) (lv' := [(6, .int (32)), (5, .int (1)), (4, .int (0)), (3, .ref 723), (2, .ref 621), (1, .ref 0), (0, .retAddr 0)]) (st' := [.int (1)]) (by decide +kernel) rfl) ?_
  refine ev_go0 (ev_w_if (M := ev_Mlaw) (pc := 1470) (q := .ne) (o := 15) (b := true) (t := 1485) (by decide +kernel) (by decide +kernel) rfl) ?_
  refine ev_go0 (ev_one_pure (M := ev_Mlaw) (pc := 1485) (i := .goto 787) (len := 3) (pc' := 2272) (lv' := [(6, .int (32)), (5, .int (1)), (4, .int (0)), (3, .ref 723), (2, .ref 621), (1, .ref 0), (0, .retAddr 0)]) (st' := []) (by decide +kernel) rfl) ?_
  rfl
theorem ev_k406 (x2 : Int32) (hl_x2 : (0 : Int) ≤ x2.toInt) {n : Nat} : ev_calld 11 185 [.ref 0, .int (1), .int x2] ev_H0 n = some (.inr "java/lang/IndexOutOfBoundsException", ev_H0, n, 1, 6) := by
  refine ev_call_thrown (k := 13) (pcR := 25) (x := 160) (lv' := [(3, .ref 265), (0, .ref 0), (1, .int (1)), (2, .int x2)]) (by decide +kernel) rfl ?_ (by decide +kernel) (by decide +kernel) (by decide +kernel) (by decide) (by decide)
  show ev_stepn _ 13 (0, [(0, .ref 0), (1, .int (1)), (2, .int x2)], [], _, _, 0, 0) = _
  refine ev_go0 (ev_one_pure (M := (ev_Mof 185)) (pc := 0) (i := .aload_n 0) (len := 1) (pc' := 1) (lv' := [(0, .ref 0), (1, .int (1)), (2, .int x2)]) (st' := [.ref 0]) (by decide +kernel) rfl) ?_
  refine ev_go0 (ev_p_getf (M := (ev_Mof 185)) (pc := 1) (x := 48) (ci := 12) (f := 8) (fin := 1) (v := .ref 254) (by decide +kernel) (by decide +kernel) ev_fH0 rfl) ?_
  refine ev_go0 (ev_one_pure (M := (ev_Mof 185)) (pc := 4) (i := .iload_n 1) (len := 1) (pc' := 5) (lv' := [(0, .ref 0), (1, .int (1)), (2, .int x2)]) (st' := [.int (1), .ref 254]) (by decide +kernel) rfl) ?_
  refine ev_go0 (ev_p_virt (M := (ev_Mof 185)) (pc := 5) (x := 221) (mi := 1) (na := 1) (by decide +kernel) (by decide +kernel) (by decide +kernel) (by decide +kernel) rfl rfl (ev_recv_of ev_fH254) ev_k238) ?_
  refine ev_go0 (ev_w_astore_n (M := (ev_Mof 185)) (pc := 8) (k := 3) (lv' := [(3, .ref 265), (0, .ref 0), (1, .int (1)), (2, .int x2)]) (by decide +kernel) (by decide +kernel) (Or.inl ⟨_, rfl⟩) rfl) ?_
  refine ev_go0 (ev_one_pure (M := (ev_Mof 185)) (pc := 9) (i := .aload_n 3) (len := 1) (pc' := 10) (lv' := [(3, .ref 265), (0, .ref 0), (1, .int (1)), (2, .int x2)]) (st' := [.ref 265]) (by decide +kernel) rfl) ?_
  refine ev_go0 (ev_w_ifnull (M := (ev_Mof 185)) (pc := 10) (o := 15) (t := 13) (by decide +kernel) (Or.inr ⟨⟨_, rfl⟩, rfl⟩)) ?_
  refine ev_go0 (ev_one_pure (M := (ev_Mof 185)) (pc := 13) (i := .iload_n 2) (len := 1) (pc' := 14) (lv' := [(3, .ref 265), (0, .ref 0), (1, .int (1)), (2, .int x2)]) (st' := [.int x2]) (by decide +kernel) rfl) ?_
  refine ev_go0 (ev_w_if (M := (ev_Mof 185)) (pc := 14) (q := .lt) (o := 11) (b := false) (t := 17) (by decide +kernel) (ev_c_lt0 hl_x2 (by decide +kernel)) rfl) ?_
  refine ev_go0 (ev_one_pure (M := (ev_Mof 185)) (pc := 17) (i := .iload_n 2) (len := 1) (pc' := 18) (lv' := [(3, .ref 265), (0, .ref 0), (1, .int (1)), (2, .int x2)]) (st' := [.int x2]) (by decide +kernel) rfl) ?_
  refine ev_go0 (ev_one_pure (M := (ev_Mof 185)) (pc := 18) (i := .aload_n 3) (len := 1) (pc' := 19) (lv' := [(3, .ref 265), (0, .ref 0), (1, .int (1)), (2, .int x2)]) (st' := [.ref 265, .int x2]) (by decide +kernel) rfl) ?_
  refine ev_go0 (ev_p_getf (M := (ev_Mof 185)) (pc := 19) (x := 105) (ci := 10) (f := 1) (fin := 0) (v := .int (0)) (by decide +kernel) (by decide +kernel) ev_fH265 rfl) ?_
  refine ev_go0 (ev_w_icmp (M := (ev_Mof 185)) (pc := 22) (q := .lt) (o := 14) (b := false) (t := 25) (by decide +kernel) (ev_c_lt0 hl_x2 (by decide +kernel)) rfl) ?_
  rfl
theorem ev_k407 (x2 : Int32) (hl_x2 : (0 : Int) ≤ x2.toInt) {n : Nat} : ev_calld 12 382 [.ref 0, .int (1), .int x2, .ref 723] ev_H0 n = some (.inl (some (.int (1))), ev_H0, n, 1, 6) := by
  refine ev_call_int (k := 8) (pcR := 16) (lv' := [(4, .retAddr 1), (0, .ref 0), (1, .int (1)), (2, .int x2), (3, .ref 723)]) (v := (1)) (ty := .int) (by decide +kernel) rfl ?_ (by decide +kernel) (by decide +kernel) (by decide +kernel) (by decide)
  show ev_stepn _ 8 (0, [(0, .ref 0), (1, .int (1)), (2, .int x2), (3, .ref 723)], [], _, _, 0, 0) = _
  refine ev_go0 (ev_one_pure (M := (ev_Mof 382)) (pc := 0) (i := .aload_n 3) (len := 1) (pc' := 1) (lv' := [(0, .ref 0), (1, .int (1)), (2, .int x2), (3, .ref 723)]) (st' := [.ref 723]) (by decide +kernel) rfl) ?_
  refine ev_go0 (ev_w_iconst (M := (ev_Mof 382)) (pc := 1) (k := 0) (v := 0) (by decide +kernel) (by decide +kernel)) ?_
  refine ev_go0 (ev_one_pure (M := (ev_Mof 382)) (pc := 2) (i := .aload_n 0) (len := 1) (pc' := 3) (lv' := [(0, .ref 0), (1, .int (1)), (2, .int x2), (3, .ref 723)]) (st' := [.ref 0, .int (0), .ref 723]) (by decide +kernel) rfl) ?_
  refine ev_go0 (ev_one_pure (M := (ev_Mof 382)) (pc := 3) (i := .iload_n 1) (len := 1) (pc' := 4) (lv' := [(0, .ref 0), (1, .int (1)), (2, .int x2), (3, .ref 723)]) (st' := [.int (1), .ref 0, .int (0), .ref 723]) (by decide +kernel) rfl) ?_
  refine ev_go0 (ev_one_pure (M := (ev_Mof 382)) (pc := 4) (i := .iload_n 2) (len := 1) (pc' := 5) (lv' := [(0, .ref 0), (1, .int (1)), (2, .int x2), (3, .ref 723)]) (st' := [.int x2, .int (1), .ref 0, .int (0), .ref 723]) (by decide +kernel) rfl) ?_
  refine ev_go (ev_p_virtX (M := (ev_Mof 382)) (pc := 5) (x := 76) (t := 13) (mi := 185) (na := 2) (by decide +kernel) (by decide +kernel) (by decide +kernel) (by decide +kernel) rfl rfl (ev_recv_of ev_fH0) (ev_k406 x2 hl_x2) (by decide +kernel)) ?_
  refine ev_go0 (ev_w_astore (M := (ev_Mof 382)) (pc := 13) (k := 4) (lv' := [(4, .retAddr 1), (0, .ref 0), (1, .int (1)), (2, .int x2), (3, .ref 723)]) (by decide +kernel) (by decide +kernel) (Or.inr (Or.inr ⟨_, rfl⟩)) rfl) ?_
  refine ev_go0 (ev_w_iconst (M := (ev_Mof 382)) (pc := 15) (k := 1) (v := 1) (by decide +kernel) (by decide +kernel)) ?_
  rfl
theorem ev_k408 (x2 : Int32) (hl_x2 : (0 : Int) ≤ x2.toInt) {n : Nat} : ev_calld 12 348 [.ref 621, .int (1), .int x2] ev_H0 n = some (.inl (some (.int (32))), (ev_H0.set 621 (.inr (13, (ev_F621.set 0 (.int (1)))))), n, 0, 0) := by
  refine ev_call_int (k := 22) (pcR := 58) (lv' := [(0, .ref 621), (1, .int (1)), (2, .int x2)]) (v := (32)) (ty := .char) (by decide +kernel) rfl ?_ (by decide +kernel) (by decide +kernel) (by decide +kernel) (by decide)
  show ev_stepn _ 22 (0, [(0, .ref 621), (1, .int (1)), (2, .int x2)], [], _, _, 0, 0) = _
  refine ev_go0 (ev_one_pure (M := (ev_Mof 348)) (pc := 0) (i := .aload_n 0) (len := 1) (pc' := 1) (lv' := [(0, .ref 621), (1, .int (1)), (2, .int x2)]) (st' := [.ref 621]) (by decide +kernel) rfl) ?_
  refine ev_go0 (ev_one_pure (M := (ev_Mof 348)) (pc := 1) (i := .aload_n 0) (len := 1) (pc' := 2) (lv' := [(0, .ref 621), (1, .int (1)), (2, .int x2)]) (st' := [.ref 621, .ref 621]) (by decide +kernel) rfl) ?_
  refine ev_go0 (ev_one_pure (M := (ev_Mof 348)) (pc := 2) (i := .iload_n 1) (len := 1) (pc' := 3) (lv' := [(0, .ref 621), (1, .int (1)), (2, .int x2)]) (st' := [.int (1), .ref 621, .ref 621]) (by decide +kernel) rfl) ?_
  refine ev_go0 (ev_p_virt (M := (ev_Mof 348)) (pc := 3) (x := 716) (mi := 325) (na := 1) (by decide +kernel) (by decide +kernel) (by decide +kernel) (by decide +kernel) rfl rfl (ev_recv_of ev_fH621) ev_k404) ?_
  refine ev_go0 (ev_w_if (M := (ev_Mof 348)) (pc := 6) (q := .eq) (o := 23) (b := false) (t := 9) (by decide +kernel) (by decide +kernel) rfl) ?_
  refine ev_go0 (ev_one_pure (M := (ev_Mof 348)) (pc := 9) (i := .iload_n 2) (len := 1) (pc' := 10) (lv' := [(0, .ref 621), (1, .int (1)), (2, .int x2)]) (st' := [.int x2, .ref 621]) (by decide +kernel) rfl) ?_
  refine ev_go0 (ev_w_iconst (M := (ev_Mof 348)) (pc := 10) (k := 0) (v := 0) (by decide +kernel) (by decide +kernel)) ?_
  refine ev_go0 (ev_one_pure (M := (ev_Mof 348)) (pc := 11) (i := .aload_n 0) (len := 1) (pc' := 12) (lv' := [(0, .ref 621), (1, .int (1)), (2, .int x2)]) (st' := [.ref 621, .int (0), .int x2, .ref 621]) (by decide +kernel) rfl) ?_
  refine ev_go0 (ev_p_getf (M := (ev_Mof 348)) (pc := 12) (x := 270) (ci := 13) (f := 119) (fin := 1) (v := .ref 707) (by decide +kernel) (by decide +kernel) ev_fH621 rfl) ?_
  refine ev_go0 (ev_one_pure (M := (ev_Mof 348)) (pc := 15) (i := .iload_n 1) (len := 1) (pc' := 16) (lv' := [(0, .ref 621), (1, .int (1)), (2, .int x2)]) (st' := [.int (1), .ref 707, .int (0), .int x2, .ref 621]) (by decide +kernel) rfl) ?_
  refine ev_go0 (ev_w_iald (M := (ev_Mof 348)) (pc := 16) (v := (0)) (by decide +kernel) ev_fH707 (by decide +kernel) rfl) ?_
  refine ev_go0 (ev_w_iconst (M := (ev_Mof 348)) (pc := 17) (k := 1) (v := 1) (by decide +kernel) (by decide +kernel)) ?_
  refine ev_go0 (ev_w_isub (M := (ev_Mof 348)) (pc := 18) (v := (-1)) (by decide +kernel) (by decide +kernel)) ?_
  refine ev_go0 (ev_w_stat (M := (ev_Mof 348)) (pc := 19) (y := 325) (kind := 2) (Or.inl rfl) (mi := 222) (na := 3) (by decide +kernel) (by decide +kernel) (by decide +kernel) (by decide +kernel) rfl rfl (ev_k399 x2 hl_x2)) ?_
  refine ev_go0 (ev_w_if (M := (ev_Mof 348)) (pc := 22) (q := .eq) (o := 7) (b := true) (t := 29) (by decide +kernel) (by decide +kernel) rfl) ?_
  refine ev_go0 (ev_w_iconst (M := (ev_Mof 348)) (pc := 29) (k := 1) (v := 1) (by decide +kernel) (by decide +kernel)) ?_
  refine ev_go0 (ev_p_putf (M := (ev_Mof 348)) (pc := 30) (x := 321) (ci := 13) (f := 0) (by decide +kernel) (by decide +kernel) ev_fH621 rfl (by decide +kernel)) ?_
  refine ev_go0 (ev_one_pure (M := (ev_Mof 348)) (pc := 33) (i := .aload_n 0) (len := 1) (pc' := 34) (lv' := [(0, .ref 621), (1, .int (1)), (2, .int x2)]) (st' := [.ref 621]) (by decide +kernel) rfl) ?_
  refine ev_go0 (ev_p_getf (M := (ev_Mof 348)) (pc := 34) (x := 321) (ci := 13) (f := 0) (fin := 0) (v := .int (1)) (by decide +kernel) (by decide +kernel) (ev_hself ev_fH621) rfl) ?_
  refine ev_go0 (ev_w_if (M := (ev_Mof 348)) (pc := 37) (q := .le) (o := 8) (b := false) (t := 40) (by decide +kernel) (by decide +kernel) rfl) ?_
  refine ev_go0 (ev_w_bipush (M := (ev_Mof 348)) (pc := 40) (k := 32) (v := 32) (by decide +kernel) (by decide +kernel)) ?_
  refine ev_go0 (ev_one_pure (M := (ev_Mof 348)) (pc := 42) (i := .goto 16) (len := 3) (pc' := 58) (lv' := [(0, .ref 621), (1, .int (1)), (2, .int x2)]) (st' := [.int (32)]) (by decide +kernel) rfl) ?_
  rfl
theorem ev_p1_19_1p (xs : Nat → Int32) (x2 : Int32) (hl_x2 : (0 : Int) ≤ x2.toInt) (e1 : xs 1 = (1)) (e2 : xs 2 = x2) : ev_P1 xs 1420 := by
  refine ⟨34, [(6, .int (32)), (5, .int (1)), (4, .int (0)), (3, .ref 723), (2, .ref 621), (1, .ref 0), (0, .retAddr 0)], (ev_H0.set 621 (.inr (13, (ev_F621.set 0 (.int (1)))))), 724, 725, 3553592, ?_, ⟨rfl, rfl, rfl, rfl⟩, rfl, by decide, by decide⟩
  show ev_stepn _ _ (1420, [(4, .int (0)), (3, .ref 723), (2, .ref 621), (1, .ref 0), (0, .retAddr 0)], [], _, _, _, _) = _
  refine ev_go0 (ev_one_pure (M := ev_Mlaw) (pc := 1420) (i := .aload_n 1) (len := 1) (pc' := 1421) (lv' := [(4, .int (0)), (3, .ref 723), (2, .ref 621), (1, .ref 0), (0, .retAddr 0)]) (st' := [.ref 0]) (by decide +kernel) rfl) ?_
  refine ev_go0 (ev_one_pure (M := ev_Mlaw) (pc := 1421) (i := .aload_n 0) (len := 1) (pc' := 1422) (lv' := [(4, .int (0)), (3, .ref 723), (2, .ref 621), (1, .ref 0), (0, .retAddr 0)]) (st' := [.retAddr 0, .ref 0]) (by decide +kernel) rfl) ?_
  refine ev_go0 (ev_one_pure (M := ev_Mlaw) (pc := 1422) (i := .iload 4) (len := 2) (pc' := 1424) (lv' := [(4, .int (0)), (3, .ref 723), (2, .ref 621), (1, .ref 0), (0, .retAddr 0)]) (st' := [.int (0), .retAddr 0, .ref 0]) (by decide +kernel) rfl) ?_
  refine ev_go0 (ev_w_iconst (M := ev_Mlaw) (pc := 1424) (k := 1) (v := 1) (by decide +kernel) (by decide +kernel)) ?_
  refine ev_go0 (ev_w_iadd (M := ev_Mlaw) (pc := 1425) (v := (1)) (by decide +kernel) (by decide +kernel)) ?_
  refine ev_go0 (ev_w_scr (M := ev_Mlaw) (pc := 1426) (v := (1)) (j := 1) (by decide +kernel) (by decide +kernel) (by decide +kernel) e1) ?_
  refine ev_go0 (ev_one_pure (M := ev_Mlaw) (pc := 1427) (i := .aload_n 0) (len := 1) (pc' := 1428) (lv' := [(4, .int (0)), (3, .ref 723), (2, .ref 621), (1, .ref 0), (0, .retAddr 0)]) (st' := [.retAddr 0, .int (1), .ref 0]) (by decide +kernel) rfl) ?_
  refine ev_go0 (ev_one_pure (M := ev_Mlaw) (pc := 1428) (i := .iload 4) (len := 2) (pc' := 1430) (lv' := [(4, .int (0)), (3, .ref 723), (2, .ref 621), (1, .ref 0), (0, .retAddr 0)]) (st' := [.int (0), .retAddr 0, .int (1), .ref 0]) (by decide +kernel) rfl) ?_
  refine ev_go0 (ev_w_iconst (M := ev_Mlaw) (pc := 1430) (k := 2) (v := 2) (by decide +kernel) (by decide +kernel)) ?_
  refine ev_go0 (ev_w_iadd (M := ev_Mlaw) (pc := 1431) (v := (2)) (by decide +kernel) (by decide +kernel)) ?_
  refine ev_go0 (ev_w_scr (M := ev_Mlaw) (pc := 1432) (v := x2) (j := 2) (by decide +kernel) (by decide +kernel) (by decide +kernel) e2) ?_
  refine ev_go0 (ev_one_pure (M := ev_Mlaw) (pc := 1433) (i := .aload_n 3) (len := 1) (pc' := 1434) (lv' := [(4, .int (0)), (3, .ref 723), (2, .ref 621), (1, .ref 0), (0, .retAddr 0)]) (st' := [.ref 723, .int x2, .int (1), .ref 0]) (by decide +kernel) rfl) ?_
  refine ev_go (ev_w_stat (M := ev_Mlaw) (pc := 1434) (y := 194) (kind := 8) (Or.inr (Or.inr rfl)) (mi := 382) (na := 4) (by decide +kernel) (by decide +kernel) (by decide +kernel) (by decide +kernel) rfl rfl (ev_k407 x2 hl_x2)) ?_
  refine ev_go0 (ev_w_istore (M := ev_Mlaw) (pc := 1437) (k := 5) (lv' := [(5, .int (1)), (4, .int (0)), (3, .ref 723), (2, .ref 621), (1, .ref 0), (0, .retAddr 0)]) (by decide +kernel) (by decide +kernel) rfl) ?_
  refine ev_go0 (ev_one_pure (M := ev_Mlaw) (pc := 1439) (i := .aload_n 2) (len := 1) (pc' := 1440) (lv' := [(5, .int (1)), (4, .int (0)), (3, .ref 723), (2, .ref 621), (1, .ref 0), (0, .retAddr 0)]) (st' := [.ref 621]) (by decide +kernel) rfl) ?_
  refine ev_go0 (ev_one_pure (M := ev_Mlaw) (pc := 1440) (i := .aload_n 0) (len := 1) (pc' := 1441) (lv' := [(5, .int (1)), (4, .int (0)), (3, .ref 723), (2, .ref 621), (1, .ref 0), (0, .retAddr 0)]) (st' := [.retAddr 0, .ref 621]) (by decide +kernel) rfl) ?_
  refine ev_go0 (ev_one_pure (M := ev_Mlaw) (pc := 1441) (i := .iload 4) (len := 2) (pc' := 1443) (lv' := [(5, .int (1)), (4, .int (0)), (3, .ref 723), (2, .ref 621), (1, .ref 0), (0, .retAddr 0)]) (st' := [.int (0), .retAddr 0, .ref 621]) (by decide +kernel) rfl) ?_
  refine ev_go0 (ev_w_iconst (M := ev_Mlaw) (pc := 1443) (k := 1) (v := 1) (by decide +kernel) (by decide +kernel)) ?_
  refine ev_go0 (ev_w_iadd (M := ev_Mlaw) (pc := 1444) (v := (1)) (by decide +kernel) (by decide +kernel)) ?_
  refine ev_go0 (ev_w_scr (M := ev_Mlaw) (pc := 1445) (v := (1)) (j := 1) (by decide +kernel) (by decide +kernel) (by decide +kernel) e1) ?_
  refine ev_go0 (ev_one_pure (M := ev_Mlaw) (pc := 1446) (i := .aload_n 0) (len := 1) (pc' := 1447) (lv' := [(5, .int (1)), (4, .int (0)), (3, .ref 723), (2, .ref 621), (1, .ref 0), (0, .retAddr 0)]) (st' := [.retAddr 0, .int (1), .ref 621]) (by decide +kernel) rfl) ?_
  refine ev_go0 (ev_one_pure (M := ev_Mlaw) (pc := 1447) (i := .iload 4) (len := 2) (pc' := 1449) (lv' := [(5, .int (1)), (4, .int (0)), (3, .ref 723), (2, .ref 621), (1, .ref 0), (0, .retAddr 0)]) (st' := [.int (0), .retAddr 0, .int (1), .ref 621]) (by decide +kernel) rfl) ?_
  refine ev_go0 (ev_w_iconst (M := ev_Mlaw) (pc := 1449) (k := 2) (v := 2) (by decide +kernel) (by decide +kernel)) ?_
  refine ev_go0 (ev_w_iadd (M := ev_Mlaw) (pc := 1450) (v := (2)) (by decide +kernel) (by decide +kernel)) ?_
  refine ev_go0 (ev_w_scr (M := ev_Mlaw) (pc := 1451) (v := x2) (j := 2) (by decide +kernel) (by decide +kernel) (by decide +kernel) e2) ?_
  refine ev_go0 (ev_p_virt (M := ev_Mlaw) (pc := 1452) (x := 196) (mi := 348) (na := 2) (by decide +kernel) (by decide +kernel) (by decide +kernel) (by decide +kernel) rfl rfl (ev_recv_of ev_fH621) (ev_k408 x2 hl_x2)) ?_
  refine ev_go0 (ev_w_istore (M := ev_Mlaw) (pc := 1455) (k := 6) (lv' := [(6, .int (32)), (5, .int (1)), (4, .int (0)), (3, .ref 723), (2, .ref 621), (1, .ref 0), (0, .retAddr 0)]) (by decide +kernel) (by decide +kernel) rfl) ?_
  refine ev_go0 (ev_one_pure (M := ev_Mlaw) (pc := 1457) (i := .aload_n 2) (len := 1) (pc' := 1458) (lv' := [(6, .int (32)), (5, .int (1)), (4, .int (0)), (3, .ref 723), (2, .ref 621), (1, .ref 0), (0, .retAddr 0)]) (st' := [.ref 621]) (by decide +kernel) rfl) ?_
  refine ev_go0 (ev_p_virt (M := ev_Mlaw) (pc := 1458) (x := 131) (mi := 220) (na := 0) (by decide +kernel) (by decide +kernel) (by decide +kernel) (by decide +kernel) rfl rfl (ev_recv_of (ev_hself ev_fH621)) ev_k26) ?_
  refine ev_go0 (ev_one_pure (M := ev_Mlaw) (pc := 1461) (i := .iload 5) (len := 2) (pc' := 1463) (lv' := [(6, .int (32)), (5, .int (1)), (4, .int (0)), (3, .ref 723), (2, .ref 621), (1, .ref 0), (0, .retAddr 0)]) (st' := [.int (1), .int (1)]) (by decide +kernel) rfl) ?_
  refine ev_go0 (ev_w_icmp (M := ev_Mlaw) (pc := 1463) (q := .eq) (o := 5) (b := true) (t := 1468) (by decide +kernel) (by decide +kernel) rfl) ?_
  refine ev_go0 (ev_one_pure (M := ev_Mlaw) (pc := 1468) (i := .iload 5) (len := 2) (pc' := 1470) (lv' := [(6, .int (32)), (5, .int (1)), (4, .int (0)), (3, .ref 723), (2, .ref 621), (1, .ref 0), (0, .retAddr 0)]) (st' := [.int (1)]) (by decide +kernel) rfl) ?_
  refine ev_go0 (ev_w_if (M := ev_Mlaw) (pc := 1470) (q := .ne) (o := 15) (b := true) (t := 1485) (by decide +kernel) (by decide +kernel) rfl) ?_
  refine ev_go0 (ev_one_pure (M := ev_Mlaw) (pc := 1485) (i := .goto 787) (len := 3) (pc' := 2272) (lv' := [(6, .int (32)), (5, .int (1)), (4, .int (0)), (3, .ref 723), (2, .ref 621), (1, .ref 0), (0, .retAddr 0)]) (st' := []) (by decide +kernel) rfl) ?_
  rfl
theorem ev_k409 (x2 : Int32) (hu_x2 : x2.toInt ≤ (-1 : Int)) {n : Nat} : ev_calld 11 185 [.ref 0, .int (2), .int x2] ev_H0 n = some (.inr "java/lang/IndexOutOfBoundsException", ev_H0, n, 1, 6) := by
  refine ev_call_thrown (k := 9) (pcR := 25) (x := 160) (lv' := [(3, .ref 267), (0, .ref 0), (1, .int (2)), (2, .int x2)]) (by decide +kernel) rfl ?_ (by decide +kernel) (by decide +kernel) (by decide +kernel) (by decide) (by decide)
  show ev_stepn _ 9 (0, [(0, .ref 0), (1, .int (2)), (2, .int x2)], [], _, _, 0, 0) = _
  refine ev_go0 (ev_one_pure (M := (ev_Mof 185)) (pc := 0) (i := .aload_n 0) (len := 1) (pc' := 1) (lv' := [(0, .ref 0), (1, .int (2)), (2, .int x2)]) (st' := [.ref 0]) (by decide +kernel) rfl) ?_
  refine ev_go0 (ev_p_getf (M := (ev_Mof 185)) (pc := 1) (x := 48) (ci := 12) (f := 8) (fin := 1) (v := .ref 254) (by decide +kernel) (by decide +kernel) ev_fH0 rfl) ?_
  refine ev_go0 (ev_one_pure (M := (ev_Mof 185)) (pc := 4) (i := .iload_n 1) (len := 1) (pc' := 5) (lv' := [(0, .ref 0), (1, .int (2)), (2, .int x2)]) (st' := [.int (2), .ref 254]) (by decide +kernel) rfl) ?_
  refine ev_go0 (ev_p_virt (M := (ev_Mof 185)) (pc := 5) (x := 221) (mi := 1) (na := 1) (by decide +kernel) (by decide +kernel) (by decide +kernel) (by decide +kernel) rfl rfl (ev_recv_of ev_fH254) ev_k242) ?_
  refine ev_go0 (ev_w_astore_n (M := (ev_Mof 185)) (pc := 8) (k := 3) (lv' := [(3, .ref 267), (0, .ref 0), (1, .int (2)), (2, .int x2)]) (by decide +kernel) (by decide +kernel) (Or.inl ⟨_, rfl⟩) rfl) ?_
  refine ev_go0 (ev_one_pure (M := (ev_Mof 185)) (pc := 9) (i := .aload_n 3) (len := 1) (pc' := 10) (lv' := [(3, .ref 267), (0, .ref 0), (1, .int (2)), (2, .int x2)]) (st' := [.ref 267]) (by decide +kernel) rfl) ?_
  refine ev_go0 (ev_w_ifnull (M := (ev_Mof 185)) (pc := 10) (o := 15) (t := 13) (by decide +kernel) (Or.inr ⟨⟨_, rfl⟩, rfl⟩)) ?_
  refine ev_go0 (ev_one_pure (M := (ev_Mof 185)) (pc := 13) (i := .iload_n 2) (len := 1) (pc' := 14) (lv' := [(3, .ref 267), (0, .ref 0), (1, .int (2)), (2, .int x2)]) (st' := [.int x2]) (by decide +kernel) rfl) ?_
  refine ev_go0 (ev_w_if (M := (ev_Mof 185)) (pc := 14) (q := .lt) (o := 11) (b := true) (t := 25) (by decide +kernel) (ev_c_lt1 hu_x2 (by decide +kernel)) rfl) ?_
  rfl
theorem ev_k410 (x2 : Int32) (hu_x2 : x2.toInt ≤ (-1 : Int)) {n : Nat} : ev_calld 12 382 [.ref 0, .int (2), .int x2, .ref 723] ev_H0 n = some (.inl (some (.int (1))), ev_H0, n, 1, 6) := by
  refine ev_call_int (k := 8) (pcR := 16) (lv' := [(4, .retAddr 1), (0, .ref 0), (1, .int (2)), (2, .int x2), (3, .ref 723)]) (v := (1)) (ty := .int) (by decide +kernel) rfl ?_ (by decide +kernel) (by decide +kernel) (by decide +kernel) (by decide)
  show ev_stepn _ 8 (0, [(0, .ref 0), (1, .int (2)), (2, .int x2), (3, .ref 723)], [], _, _, 0, 0) = _
  refine ev_go0 (ev_one_pure (M := (ev_Mof 382)) (pc := 0) (i := .aload_n 3) (len := 1) (pc' := 1) (lv' := [(0, .ref 0), (1, .int (2)), (2, .int x2), (3, .ref 723)]) (st' := [.ref 723]) (by decide +kernel) rfl) ?_
  refine ev_go0 (ev_w_iconst (M := (ev_Mof 382)) (pc := 1) (k := 0) (v := 0) (by decide +kernel) (by decide +kernel)) ?_
  refine ev_go0 (ev_one_pure (M := (ev_Mof 382)) (pc := 2) (i := .aload_n 0) (len := 1) (pc' := 3) (lv' := [(0, .ref 0), (1, .int (2)), (2, .int x2), (3, .ref 723)]) (st' := [.ref 0, .int (0), .ref 723]) (by decide +kernel) rfl) ?_
  refine ev_go0 (ev_one_pure (M := (ev_Mof 382)) (pc := 3) (i := .iload_n 1) (len := 1) (pc' := 4) (lv' := [(0, .ref 0), (1, .int (2)), (2, .int x2), (3, .ref 723)]) (st' := [.int (2), .ref 0, .int (0), .ref 723]) (by decide +kernel) rfl) ?_
  refine ev_go0 (ev_one_pure (M := (ev_Mof 382)) (pc := 4) (i := .iload_n 2) (len := 1) (pc' := 5) (lv' := [(0, .ref 0), (1, .int (2)), (2, .int x2), (3, .ref 723)]) (st' := [.int x2, .int (2), .ref 0, .int (0), .ref 723]) (by decide +kernel) rfl) ?_
  refine ev_go (ev_p_virtX (M := (ev_Mof 382)) (pc := 5) (x := 76) (t := 13) (mi := 185) (na := 2) (by decide +kernel) (by decide +kernel) (by decide +kernel) (by decide +kernel) rfl rfl (ev_recv_of ev_fH0) (ev_k409 x2 hu_x2) (by decide +kernel)) ?_
  refine ev_go0 (ev_w_astore (M := (ev_Mof 382)) (pc := 13) (k := 4) (lv' := [(4, .retAddr 1), (0, .ref 0), (1, .int (2)), (2, .int x2), (3, .ref 723)]) (by decide +kernel) (by decide +kernel) (Or.inr (Or.inr ⟨_, rfl⟩)) rfl) ?_
  refine ev_go0 (ev_w_iconst (M := (ev_Mof 382)) (pc := 15) (k := 1) (v := 1) (by decide +kernel) (by decide +kernel)) ?_
  rfl
theorem ev_k411 {n : Nat} : ev_calld 10 222 [.int (2), .int (0), .int (2)] ev_H0 n = some (.inl (some (.int (1))), ev_H0, n, 0, 0) := by
  refine ev_call_int (k := 8) (pcR := 15) (lv' := [(0, .int (2)), (1, .int (0)), (2, .int (2))]) (v := (1)) (ty := .boolean) (by decide +kernel) rfl ?_ (by decide +kernel) (by decide +kernel) (by decide +kernel) (by decide)
  show ev_stepn _ 8 (0, [(0, .int (2)), (1, .int (0)), (2, .int (2))], [], _, _, 0, 0) = _
  refine ev_go0 (ev_one_pure (M := (ev_Mof 222)) (pc := 0) (i := .iload_n 0) (len := 1) (pc' := 1) (lv' := [(0, .int (2)), (1, .int (0)), (2, .int (2))]) (st' := [.int (2)]) (by decide +kernel) rfl) ?_
  refine ev_go0 (ev_one_pure (M := (ev_Mof 222)) (pc := 1) (i := .iload_n 1) (len := 1) (pc' := 2) (lv' := [(0, .int (2)), (1, .int (0)), (2, .int (2))]) (st' := [.int (0), .int (2)]) (by decide +kernel) rfl) ?_
  refine ev_go0 (ev_w_icmp (M := (ev_Mof 222)) (pc := 2) (q := .lt) (o := 12) (b := false) (t := 5) (by decide +kernel) (by decide +kernel) rfl) ?_
  refine ev_go0 (ev_one_pure (M := (ev_Mof 222)) (pc := 5) (i := .iload_n 0) (len := 1) (pc' := 6) (lv' := [(0, .int (2)), (1, .int (0)), (2, .int (2))]) (st' := [.int (2)]) (by decide +kernel) rfl) ?_
  refine ev_go0 (ev_one_pure (M := (ev_Mof 222)) (pc := 6) (i := .iload_n 2) (len := 1) (pc' := 7) (lv' := [(0, .int (2)), (1, .int (0)), (2, .int (2))]) (st' := [.int (2), .int (2)]) (by decide +kernel) rfl) ?_
  refine ev_go0 (ev_w_icmp (M := (ev_Mof 222)) (pc := 7) (q := .gt) (o := 7) (b := false) (t := 10) (by decide +kernel) (by decide +kernel) rfl) ?_
  refine ev_go0 (ev_w_iconst (M := (ev_Mof 222)) (pc := 10) (k := 1) (v := 1) (by decide +kernel) (by decide +kernel)) ?_
  refine ev_go0 (ev_one_pure (M := (ev_Mof 222)) (pc := 11) (i := .goto 4) (len := 3) (pc' := 15) (lv' := [(0, .int (2)), (1, .int (0)), (2, .int (2))]) (st' := [.int (1)]) (by decide +kernel) rfl) ?_
  rfl
theorem ev_k412 {n : Nat} : ev_calld 11 325 [.ref 621, .int (2)] ev_H0 n = some (.inl (some (.int (1))), ev_H0, n, 0, 0) := by
  refine ev_call_int (k := 4) (pcR := 6) (lv' := [(0, .ref 621), (1, .int (2))]) (v := (1)) (ty := .boolean) (by decide +kernel) rfl ?_ (by decide +kernel) (by decide +kernel) (by decide +kernel) (by decide)
  show ev_stepn _ 4 (0, [(0, .ref 621), (1, .int (2))], [], _, _, 0, 0) = _
  refine ev_go0 (ev_one_pure (M := (ev_Mof 325)) (pc := 0) (i := .iload_n 1) (len := 1) (pc' := 1) (lv' := [(0, .ref 621), (1, .int (2))]) (st' := [.int (2)]) (by decide +kernel) rfl) ?_
  refine ev_go0 (ev_w_iconst (M := (ev_Mof 325)) (pc := 1) (k := 0) (v := 0) (by decide +kernel) (by decide +kernel)) ?_
  refine ev_go0 (ev_w_iconst (M := (ev_Mof 325)) (pc := 2) (k := 2) (v := 2) (by decide +kernel) (by decide +kernel)) ?_
  refine ev_go0 (ev_w_stat (M := (ev_Mof 325)) (pc := 3) (y := 325) (kind := 2) (Or.inl rfl) (mi := 222) (na := 3) (by decide +kernel) (by decide +kernel) (by decide +kernel) (by decide +kernel) rfl rfl ev_k411) ?_
  rfl
theorem ev_k413 (x2 : Int32) (hu_x2 : x2.toInt ≤ (-1 : Int)) {n : Nat} : ev_calld 12 348 [.ref 621, .int (2), .int x2] ev_H0 n = some (.inl (some (.int (32))), (ev_H0.set 621 (.inr (13, (ev_F621.set 0 (.int (1)))))), n, 0, 0) := by
  refine ev_call_int (k := 22) (pcR := 58) (lv' := [(0, .ref 621), (1, .int (2)), (2, .int x2)]) (v := (32)) (ty := .char) (by decide +kernel) rfl ?_ (by decide +kernel) (by decide +kernel) (by decide +kernel) (by decide)
  show ev_stepn _ 22 (0, [(0, .ref 621), (1, .int (2)), (2, .int x2)], [], _, _, 0, 0) = _
  refine ev_go0 (ev_one_pure (M := (ev_Mof 348)) (pc := 0) (i := .aload_n 0) (len := 1) (pc' := 1) (lv' := [(0, .ref 621), (1, .int (2)), (2, .int x2)]) (st' := [.ref 621]) (by decide +kernel) rfl) ?_
  refine ev_go0 (ev_one_pure (M := (ev_Mof 348)) (pc := 1) (i := .aload_n 0) (len := 1) (pc' := 2) (lv' := [(0, .ref 621), (1, .int (2)), (2, .int x2)]) (st' := [.ref 621, .ref 621]) (by decide +kernel) rfl) ?_
  refine ev_go0 (ev_one_pure (M := (ev_Mof 348)) (pc := 2) (i := .iload_n 1) (len := 1) (pc' := 3) (lv' := [(0, .ref 621), (1, .int (2)), (2, .int x2)]) (st' := [.int (2), .ref 621, .ref 621]) (by decide +kernel) rfl) ?_
  refine ev_go0 (ev_p_virt (M := (ev_Mof 348)) (pc := 3) (x := 716) (mi := 325) (na := 1) (by decide +kernel) (by decide +kernel) (by decide +kernel) (by decide +kernel) rfl rfl (ev_recv_of ev_fH621) ev_k412) ?_
  refine ev_go0 (ev_w_if (M := (ev_Mof 348)) (pc := 6) (q := .eq) (o := 23) (b := false) (t := 9) (by decide +kernel) (by decide +kernel) rfl) ?_
  refine ev_go0 (ev_one_pure (M := (ev_Mof 348)) (pc := 9) (i := .iload_n 2) (len := 1) (pc' := 10) (lv' := [(0, .ref 621), (1, .int (2)), (2, .int x2)]) (st' := [.int x2, .ref 621]) (by decide +kernel) rfl) ?_
  refine ev_go0 (ev_w_iconst (M := (ev_Mof 348)) (pc := 10) (k := 0) (v := 0) (by decide +kernel) (by decide +kernel)) ?_
  refine ev_go0 (ev_one_pure (M := (ev_Mof 348)) (pc := 11) (i := .aload_n 0) (len := 1) (pc' := 12) (lv' := [(0, .ref 621), (1, .int (2)), (2, .int x2)]) (st' := [.ref 621, .int (0), .int x2, .ref 621]) (by decide +kernel) rfl) ?_
  refine ev_go0 (ev_p_getf (M := (ev_Mof 348)) (pc := 12) (x := 270) (ci := 13) (f := 119) (fin := 1) (v := .ref 707) (by decide +kernel) (by decide +kernel) ev_fH621 rfl) ?_
  refine ev_go0 (ev_one_pure (M := (ev_Mof 348)) (pc := 15) (i := .iload_n 1) (len := 1) (pc' := 16) (lv' := [(0, .ref 621), (1, .int (2)), (2, .int x2)]) (st' := [.int (2), .ref 707, .int (0), .int x2, .ref 621]) (by decide +kernel) rfl) ?_
  refine ev_go0 (ev_w_iald (M := (ev_Mof 348)) (pc := 16) (v := (0)) (by decide +kernel) ev_fH707 (by decide +kernel) rfl) ?_
  refine ev_go0 (ev_w_iconst (M := (ev_Mof 348)) (pc := 17) (k := 1) (v := 1) (by decide +kernel) (by decide +kernel)) ?_
  refine ev_go0 (ev_w_isub (M := (ev_Mof 348)) (pc := 18) (v := (-1)) (by decide +kernel) (by decide +kernel)) ?_
  refine ev_go0 (ev_w_stat (M := (ev_Mof 348)) (pc := 19) (y := 325) (kind := 2) (Or.inl rfl) (mi := 222) (na := 3) (by decide +kernel) (by decide +kernel) (by decide +kernel) (by decide +kernel) rfl rfl (ev_k395 x2 hu_x2)) ?_
  refine ev_go0 (ev_w_if (M := (ev_Mof 348)) (pc := 22) (q := .eq) (o := 7) (b := true) (t := 29) (by decide +kernel) (by decide +kernel) rfl) ?_
  refine ev_go0 (ev_w_iconst (M := (ev_Mof 348)) (pc := 29) (k := 1) (v := 1) (by decide +kernel) (by decide +kernel)) ?_
  refine ev_go0 (ev_p_putf (M := (ev_Mof 348)) (pc := 30) (x := 321) (ci := 13) (f := 0) (by decide +kernel) (by decide +kernel) ev_fH621 rfl (by decide +kernel)) ?_
  refine ev_go0 (ev_one_pure (M := (ev_Mof 348)) (pc := 33) (i := .aload_n 0) (len := 1) (pc' := 34) (lv' := [(0, .ref 621), (1, .int (2)), (2, .int x2)]) (st' := [.ref 621]) (by decide +kernel) rfl) ?_
  refine ev_go0 (ev_p_getf (M := (ev_Mof 348)) (pc := 34) (x := 321) (ci := 13) (f := 0) (fin := 0) (v := .int (1)) (by decide +kernel) (by decide +kernel) (ev_hself ev_fH621) rfl) ?_
  refine ev_go0 (ev_w_if (M := (ev_Mof 348)) (pc := 37) (q := .le) (o := 8) (b := false) (t := 40) (by decide +kernel) (by decide +kernel) rfl) ?_
  refine ev_go0 (ev_w_bipush (M := (ev_Mof 348)) (pc := 40) (k := 32) (v := 32) (by decide +kernel) (by decide +kernel)) ?_
  refine ev_go0 (ev_one_pure (M := (ev_Mof 348)) (pc := 42) (i := .goto 16) (len := 3) (pc' := 58) (lv' := [(0, .ref 621), (1, .int (2)), (2, .int x2)]) (st' := [.int (32)]) (by decide +kernel) rfl) ?_
  rfl
theorem ev_p1_19_2n (xs : Nat → Int32) (x2 : Int32) (hu_x2 : x2.toInt ≤ (-1 : Int)) (e1 : xs 1 = (2)) (e2 : xs 2 = x2) : ev_P1 xs 1420 := by
  refine ⟨34, [(6, .int (32)), (5, .int (1)), (4, .int (0)), (3, .ref 723), (2, .ref 621), (1, .ref 0), (0, .retAddr 0)], (ev_H0.set 621 (.inr (13, (ev_F621.set 0 (.int (1)))))), 724, 725, 3553592, ?_, ⟨rfl, rfl, rfl, rfl⟩, rfl, by decide, by decide⟩
  show ev_stepn _ _ (1420, [(4, .int (0)), (3, .ref 723), (2, .ref 621), (1, .ref 0), (0, .retAddr 0)], [], _, _, _, _) = _
  refine ev_go0 (ev_one_pure (M := ev_Mlaw) (pc := 1420) (i := .aload_n 1) (len := 1) (pc' := 1421) (lv' := [(4, .int (0)), (3, .ref 723), (2, .ref 621), (1, .ref 0), (0, .retAddr 0)]) (st' := [.ref 0]) (by decide +kernel) rfl) ?_
  refine ev_go0 (ev_one_pure (M := ev_Mlaw) (pc := 1421) (i := .aload_n 0) (len := 1) (pc' := 1422) (lv' := [(4, .int (0)), (3, .ref 723), (2, .ref 621), (1, .ref 0), (0, .retAddr 0)]) (st' := [.retAddr 0, .ref 0]) (by decide +kernel) rfl) ?_
  refine ev_go0 (ev_one_pure (M := ev_Mlaw) (pc := 1422) (i := .iload 4) (len := 2) (pc' := 1424) (lv' := [(4, .int (0)), (3, .ref 723), (2, .ref 621), (1, .ref 0), (0, .retAddr 0)]) (st' := [.int (0), .retAddr 0, .ref 0]) (by decide +kernel) rfl) ?_
  refine ev_go0 (ev_w_iconst (M := ev_Mlaw) (pc := 1424) (k := 1) (v := 1) (by decide +kernel) (by decide +kernel)) ?_
  refine ev_go0 (ev_w_iadd (M := ev_Mlaw) (pc := 1425) (v := (1)) (by decide +kernel) (by decide +kernel)) ?_
  refine ev_go0 (ev_w_scr (M := ev_Mlaw) (pc := 1426) (v := (2)) (j := 1) (by decide +kernel) (by decide +kernel) (by decide +kernel) e1) ?_
  refine ev_go0 (ev_one_pure (M := ev_Mlaw) (pc := 1427) (i := .aload_n 0) (len := 1) (pc' := 1428) (lv' := [(4, .int (0)), (3, .ref 723), (2, .ref 621), (1, .ref 0), (0, .retAddr 0)]) (st' := [.retAddr 0, .int (2), .ref 0]) (by decide +kernel) rfl) ?_
  refine ev_go0 (ev_one_pure (M := ev_Mlaw) (pc := 1428) (i := .iload 4) (len := 2) (pc' := 1430) (lv' := [(4, .int (0)), (3, .ref 723), (2, .ref 621), (1, .ref 0), (0, .retAddr 0)]) (st' := [.int (0), .retAddr 0, .int (2), .ref 0]) (by decide +kernel) rfl) ?_
  refine ev_go0 (ev_w_iconst (M := ev_Mlaw) (pc := 1430) (k := 2) (v := 2) (by decide +kernel) (by decide +kernel)) ?_
  refine ev_go0 (ev_w_iadd (M := ev_Mlaw) (pc := 1431) (v := (2)) (by decide +kernel) (by decide +kernel)) ?_
  refine ev_go0 (ev_w_scr (M := ev_Mlaw) (pc := 1432) (v := x2) (j := 2) (by decide +kernel) (by decide +kernel) (by decide +kernel) e2) ?_
  refine ev_go0 (ev_one_pure (M := ev_Mlaw) (pc := 1433) (i := .aload_n 3) (len := 1) (pc' := 1434) (lv' := [(4, .int (0)), (3, .ref 723), (2, .ref 621), (1, .ref 0), (0, .retAddr 0)]) (st' := [.ref 723, .int x2, .int (2), .ref 0]) (by decide +kernel) rfl) ?_
  refine ev_go (ev_w_stat (M := ev_Mlaw) (pc := 1434) (y := 194) (kind := 8) (Or.inr (Or.inr rfl)) (mi := 382) (na := 4) (by decide +kernel) (by decide +kernel) (by decide +kernel) (by decide +kernel) rfl rfl (ev_k410 x2 hu_x2)) ?_
  refine ev_go0 (ev_w_istore (M := ev_Mlaw) (pc := 1437) (k := 5) (lv' := [(5, .int (1)), (4, .int (0)), (3, .ref 723), (2, .ref 621), (1, .ref 0), (0, .retAddr 0)]) (by decide +kernel) (by decide +kernel) rfl) ?_
  refine ev_go0 (ev_one_pure (M := ev_Mlaw) (pc := 1439) (i := .aload_n 2) (len := 1) (pc' := 1440) (lv' := [(5, .int (1)), (4, .int (0)), (3, .ref 723), (2, .ref 621), (1, .ref 0), (0, .retAddr 0)]) (st' := [.ref 621]) (by decide +kernel) rfl) ?_
  refine ev_go0 (ev_one_pure (M := ev_Mlaw) (pc := 1440) (i := .aload_n 0) (len := 1) (pc' := 1441) (lv' := [(5, .int (1)), (4, .int (0)), (3, .ref 723), (2, .ref 621), (1, .ref 0), (0, .retAddr 0)]) (st' := [.retAddr 0, .ref 621]) (by decide +kernel) rfl) ?_
  refine ev_go0 (ev_one_pure (M := ev_Mlaw) (pc := 1441) (i := .iload 4) (len := 2) (pc' := 1443) (lv' := [(5, .int (1)), (4, .int (0)), (3, .ref 723), (2, .ref 621), (1, .ref 0), (0, .retAddr 0)]) (st' := [.int (0), .retAddr 0, .ref 621]) (by decide +kernel) rfl) ?_
  refine ev_go0 (ev_w_iconst (M := ev_Mlaw) (pc := 1443) (k := 1) (v := 1) (by decide +kernel) (by decide +kernel)) ?_
  refine ev_go0 (ev_w_iadd (M := ev_Mlaw) (pc := 1444) (v := (1)) (by decide +kernel) (by decide +kernel)) ?_
  refine ev_go0 (ev_w_scr (M := ev_Mlaw) (pc := 1445) (v := (2)) (j := 1) (by decide +kernel) (by decide +kernel) (by decide +kernel) e1) ?_
  refine ev_go0 (ev_one_pure (M := ev_Mlaw) (pc := 1446) (i := .aload_n 0) (len := 1) (pc' := 1447) (lv' := [(5, .int (1)), (4, .int (0)), (3, .ref 723), (2, .ref 621), (1, .ref 0), (0, .retAddr 0)]) (st' := [.retAddr 0, .int (2), .ref 621]) (by decide +kernel) rfl) ?_
  refine ev_go0 (ev_one_pure (M := ev_Mlaw) (pc := 1447) (i := .iload 4) (len := 2) (pc' := 1449) (lv' := [(5, .int (1)), (4, .int (0)), (3, .ref 723), (2, .ref 621), (1, .ref 0), (0, .retAddr 0)]) (st' := [.int (0), .retAddr 0, .int (2), .ref 621]) (by decide +kernel) rfl) ?_
  refine ev_go0 (ev_w_iconst (M := ev_Mlaw) (pc := 1449) (k := 2) (v := 2) (by decide +kernel) (by decide +kernel)) ?_
  refine ev_go0 (ev_w_iadd (M := ev_Mlaw) (pc := 1450) (v := (2)) (by decide +kernel) (by decide +kernel)) ?_
  refine ev_go0 (ev_w_scr (M := ev_Mlaw) (pc := 1451) (v := x2) (j := 2) (by decide +kernel) (by decide +kernel) (by decide +kernel) e2) ?_
  refine ev_go0 (ev_p_virt (M := ev_Mlaw) (pc := 1452) (x := 196) (mi := 348) (na := 2) (by decide +kernel) (by decide +kernel) (by decide +kernel) (by decide +kernel) rfl rfl (ev_recv_of ev_fH621) (ev_k413 x2 hu_x2)) ?_
  refine ev_go0 (ev_w_istore (M := ev_Mlaw) (pc := 1455) (k := 6) (lv' := [(6, .int (32)), (5, .int (1)), (4, .int (0)), (3, .ref 723), (2, .ref 621), (1, .ref 0), (0, .retAddr 0)]) (by decide +kernel) (by decide +kernel) rfl) ?_
  refine ev_go0 (ev_one_pure (M := ev_Mlaw) (pc := 1457) (i := .aload_n 2) (len := 1) (pc' := 1458) (lv' := [(6, .int (32)), (5, .int (1)), (4, .int (0)), (3, .ref 723), (2, .ref 621), (1, .ref 0), (0, .retAddr 0)]) (st' := [.ref 621]) (by decide +kernel) rfl) ?_
  refine ev_go0 (ev_p_virt (M := ev_Mlaw) (pc := 1458) (x := 131) (mi := 220) (na := 0) (by decide +kernel) (by decide +kernel) (by decide +kernel) (by decide +kernel) rfl rfl (ev_recv_of (ev_hself ev_fH621)) ev_k26) ?_
  refine ev_go0 (ev_one_pure (M := ev_Mlaw) (pc := 1461) (i := .iload 5) (len := 2) (pc' := 1463) (lv' := [(6, .int (32)), (5, .int (1)), (4, .int (0)), (3, .ref 723), (2, .ref 621), (1, .ref 0), (0, .retAddr 0)]) (st' := [.int (1), .int (1)]) (by decide +kernel) rfl) ?_
  refine ev_go0 (ev_w_icmp (M := ev_Mlaw) (pc := 1463) (q := .eq) (o := 5) (b := true) (t := 1468) (by decide +kernel) (by decide +kernel) rfl) ?_
  refine ev_go0 (ev_one_pure (M := ev_Mlaw) (pc := 1468) (i := .iload 5) (len := 2) (pc' := 1470) (lv' := [(6, .int (32)), (5, .int (1)), (4, .int (0)), (3, .ref 723), (2, .ref 621), (1, .ref 0), (0, .retAddr 0)]) (st' := [.int (1)]) (by decide +kernel) rfl) ?_
  refine ev_go0 (ev_w_if (M := ev_Mlaw) (pc := 1470) (q := .ne) (o := 15) (b := true) (t := 1485) (by decide +kernel) (by decide +kernel) rfl) ?_
  refine ev_go0 (ev_one_pure (M := ev_Mlaw) (pc := 1485) (i := .goto 787) (len := 3) (pc' := 2272) (lv' := [(6, .int (32)), (5, .int (1)), (4, .int (0)), (3, .ref 723), (2, .ref 621), (1, .ref 0), (0, .retAddr 0)]) (st' := []) (by decide +kernel) rfl) ?_
  rfl
theorem ev_k414 (x2 : Int32) (hl_x2 : (0 : Int) ≤ x2.toInt) {n : Nat} : ev_calld 11 185 [.ref 0, .int (2), .int x2] ev_H0 n = some (.inr "java/lang/IndexOutOfBoundsException", ev_H0, n, 1, 6) := by
  refine ev_call_thrown (k := 13) (pcR := 25) (x := 160) (lv' := [(3, .ref 267), (0, .ref 0), (1, .int (2)), (2, .int x2)]) (by decide +kernel) rfl ?_ (by decide +kernel) (by decide +kernel) (by decide +kernel) (by decide) (by decide)
  show ev_stepn _ 13 (0, [(0, .ref 0), (1, .int (2)), (2, .int x2)], [], _, _, 0, 0) = _
  refine ev_go0 (ev_one_pure (M := (ev_Mof 185)) (pc := 0) (i := .aload_n 0) (len := 1) (pc' := 1) (lv' := [(0, .ref 0), (1, .int (2)), (2, .int x2)]) (st' := [.ref 0]) (by decide +kernel) rfl) ?_
  refine ev_go0 (ev_p_getf (M := (ev_Mof 185)) (pc := 1) (x := 48) (ci := 12) (f := 8) (fin := 1) (v := .ref 254) (by decide +kernel) (by decide +kernel) ev_fH0 rfl) ?_
  refine ev_go0 (ev_one_pure (M := (ev_Mof 185)) (pc := 4) (i := .iload_n 1) (len := 1) (pc' := 5) (lv' := [(0, .ref 0), (1, .int (2)), (2, .int x2)]) (st' := [.int (2), .ref 254]) (by decide +kernel) rfl) ?_
  refine ev_go0 (ev_p_virt (M := (ev_Mof 185)) (pc := 5) (x := 221) (mi := 1) (na := 1) (by decide +kernel) (by decide +kernel) (by decide +kernel) (by decide +kernel) rfl rfl (ev_recv_of ev_fH254) ev_k242) ?_
  refine ev_go0 (ev_w_astore_n (M := (ev_Mof 185)) (pc := 8) (k := 3) (lv' := [(3, .ref 267), (0, .ref 0), (1, .int (2)), (2, .int x2)]) (by decide +kernel) (by decide +kernel) (Or.inl ⟨_, rfl⟩) rfl) ?_
  refine ev_go0 (ev_one_pure (M := (ev_Mof 185)) (pc := 9) (i := .aload_n 3) (len := 1) (pc' := 10) (lv' := [(3, .ref 267), (0, .ref 0), (1, .int (2)), (2, .int x2)]) (st' := [.ref 267]) (by decide +kernel) rfl) ?_
  refine ev_go0 (ev_w_ifnull (M := (ev_Mof 185)) (pc := 10) (o := 15) (t := 13) (by decide +kernel) (Or.inr ⟨⟨_, rfl⟩, rfl⟩)) ?_
  refine ev_go0 (ev_one_pure (M := (ev_Mof 185)) (pc := 13) (i := .iload_n 2) (len := 1) (pc' := 14) (lv' := [(3, .ref 267), (0, .ref 0), (1, .int (2)), (2, .int x2)]) (st' := [.int x2]) (by decide +kernel) rfl) ?_
  refine ev_go0 (ev_w_if (M := (ev_Mof 185)) (pc := 14) (q := .lt) (o := 11) (b := false) (t := 17) (by decide +kernel) (ev_c_lt0 hl_x2 (by decide +kernel)) rfl) ?_
  refine ev_go0 (ev_one_pure (M := (ev_Mof 185)) (pc := 17) (i := .iload_n 2) (len := 1) (pc' := 18) (lv' := [(3, .ref 267), (0, .ref 0), (1, .int (2)), (2, .int x2)]) (st' := [.int x2]) (by decide +kernel) rfl) ?_
  refine ev_go0 (ev_one_pure (M := (ev_Mof 185)) (pc := 18) (i := .aload_n 3) (len := 1) (pc' := 19) (lv' := [(3, .ref 267), (0, .ref 0), (1, .int (2)), (2, .int x2)]) (st' := [.ref 267, .int x2]) (by decide +kernel) rfl) ?_
  refine ev_go0 (ev_p_getf (M := (ev_Mof 185)) (pc := 19) (x := 105) (ci := 10) (f := 1) (fin := 0) (v := .int (0)) (by decide +kernel) (by decide +kernel) ev_fH267 rfl) ?_
  refine ev_go0 (ev_w_icmp (M := (ev_Mof 185)) (pc := 22) (q := .lt) (o := 14) (b := false) (t := 25) (by decide +kernel) (ev_c_lt0 hl_x2 (by decide +kernel)) rfl) ?_
  rfl
theorem ev_k415 (x2 : Int32) (hl_x2 : (0 : Int) ≤ x2.toInt) {n : Nat} : ev_calld 12 382 [.ref 0, .int (2), .int x2, .ref 723] ev_H0 n = some (.inl (some (.int (1))), ev_H0, n, 1, 6) := by
  refine ev_call_int (k := 8) (pcR := 16) (lv' := [(4, .retAddr 1), (0, .ref 0), (1, .int (2)), (2, .int x2), (3, .ref 723)]) (v := (1)) (ty := .int) (by decide +kernel) rfl ?_ (by decide +kernel) (by decide +kernel) (by decide +kernel) (by decide)
  show ev_stepn _ 8 (0, [(0, .ref 0), (1, .int (2)), (2, .int x2), (3, .ref 723)], [], _, _, 0, 0) = _
  refine ev_go0 (ev_one_pure (M := (ev_Mof 382)) (pc := 0) (i := .aload_n 3) (len := 1) (pc' := 1) (lv' := [(0, .ref 0), (1, .int (2)), (2, .int x2), (3, .ref 723)]) (st' := [.ref 723]) (by decide +kernel) rfl) ?_
  refine ev_go0 (ev_w_iconst (M := (ev_Mof 382)) (pc := 1) (k := 0) (v := 0) (by decide +kernel) (by decide +kernel)) ?_
  refine ev_go0 (ev_one_pure (M := (ev_Mof 382)) (pc := 2) (i := .aload_n 0) (len := 1) (pc' := 3) (lv' := [(0, .ref 0), (1, .int (2)), (2, .int x2), (3, .ref 723)]) (st' := [.ref 0, .int (0), .ref 723]) (by decide +kernel) rfl) ?_
  refine ev_go0 (ev_one_pure (M := (ev_Mof 382)) (pc := 3) (i := .iload_n 1) (len := 1) (pc' := 4) (lv' := [(0, .ref 0), (1, .int (2)), (2, .int x2), (3, .ref 723)]) (st' := [.int (2), .ref 0, .int (0), .ref 723]) (by decide +kernel) rfl) ?_
  refine ev_go0 (ev_one_pure (M := (ev_Mof 382)) (pc := 4) (i := .iload_n 2) (len := 1) (pc' := 5) (lv' := [(0, .ref 0), (1, .int (2)), (2, .int x2), (3, .ref 723)]) (st' := [.int x2, .int (2), .ref 0, .int (0), .ref 723]) (by decide +kernel) rfl) ?_
  refine ev_go (ev_p_virtX (M := (ev_Mof 382)) (pc := 5) (x := 76) (t := 13) (mi := 185) (na := 2) (by decide +kernel) (by decide +kernel) (by decide +kernel) (by decide +kernel) rfl rfl (ev_recv_of ev_fH0) (ev_k414 x2 hl_x2) (by decide +kernel)) ?_
  refine ev_go0 (ev_w_astore (M := (ev_Mof 382)) (pc := 13) (k := 4) (lv' := [(4, .retAddr 1), (0, .ref 0), (1, .int (2)), (2, .int x2), (3, .ref 723)]) (by decide +kernel) (by decide +kernel) (Or.inr (Or.inr ⟨_, rfl⟩)) rfl) ?_
  refine ev_go0 (ev_w_iconst (M := (ev_Mof 382)) (pc := 15) (k := 1) (v := 1) (by decide +kernel) (by decide +kernel)) ?_
  rfl
theorem ev_k416 (x2 : Int32) (hl_x2 : (0 : Int) ≤ x2.toInt) {n : Nat} : ev_calld 12 348 [.ref 621, .int (2), .int x2] ev_H0 n = some (.inl (some (.int (32))), (ev_H0.set 621 (.inr (13, (ev_F621.set 0 (.int (1)))))), n, 0, 0) := by
  refine ev_call_int (k := 22) (pcR := 58) (lv' := [(0, .ref 621), (1, .int (2)), (2, .int x2)]) (v := (32)) (ty := .char) (by decide +kernel) rfl ?_ (by decide +kernel) (by decide +kernel) (by decide +kernel) (by decide)
  show ev_stepn _ 22 (0, [(0, .ref 621), (1, .int (2)), (2, .int x2)], [], _, _, 0, 0) = _
  refine ev_go0 (ev_one_pure (M := (ev_Mof 348)) (pc := 0) (i := .aload_n 0) (len := 1) (pc' := 1) (lv' := [(0, .ref 621), (1, .int (2)), (2, .int x2)]) (st' := [.ref 621]) (by decide +kernel) rfl) ?_
  refine ev_go0 (ev_one_pure (M := (ev_Mof 348)) (pc := 1) (i := .aload_n 0) (len := 1) (pc' := 2) (lv' := [(0, .ref 621), (1, .int (2)), (2, .int x2)]) (st' := [.ref 621, .ref 621]) (by decide +kernel) rfl) ?_
  refine ev_go0 (ev_one_pure (M := (ev_Mof 348)) (pc := 2) (i := .iload_n 1) (len := 1) (pc' := 3) (lv' := [(0, .ref 621), (1, .int (2)), (2, .int x2)]) (st' := [.int (2), .ref 621, .ref 621]) (by decide +kernel) rfl) ?_
  refine ev_go0 (ev_p_virt (M := (ev_Mof 348)) (pc := 3) (x := 716) (mi := 325) (na := 1) (by decide +kernel) (by decide +kernel) (by decide +kernel) (by decide +kernel) rfl rfl (ev_recv_of ev_fH621) ev_k412) ?_
  refine ev_go0 (ev_w_if (M := (ev_Mof 348)) (pc := 6) (q := .eq) (o := 23) (b := false) (t := 9) (by decide +kernel) (by decide +kernel) rfl) ?_
  refine ev_go0 (ev_one_pure (M := (ev_Mof 348)) (pc := 9) (i := .iload_n 2) (len := 1) (pc' := 10) (lv' := [(0, .ref 621), (1, .int (2)), (2, .int x2)]) (st' := [.int x2, .ref 621]) (by decide +kernel) rfl) ?_
  refine ev_go0 (ev_w_iconst (M := (ev_Mof 348)) (pc := 10) (k := 0) (v := 0) (by decide +kernel) (by decide +kernel)) ?_
  refine ev_go0 (ev_one_pure (M := (ev_Mof 348)) (pc := 11) (i := .aload_n 0) (len := 1) (pc' := 12) (lv' := [(0, .ref 621), (1, .int (2)), (2, .int x2)]) (st' := [.ref 621, .int (0), .int x2, .ref 621]) (by decide +kernel) rfl) ?_
  refine ev_go0 (ev_p_getf (M := (ev_Mof 348)) (pc := 12) (x := 270) (ci := 13) (f := 119) (fin := 1) (v := .ref 707) (by decide +kernel) (by decide +kernel) ev_fH621 rfl) ?_
  refine ev_go0 (ev_one_pure (M := (ev_Mof 348)) (pc := 15) (i := .iload_n 1) (len := 1) (pc' := 16) (lv' := [(0, .ref 621), (1, .int (2)), (2, .int x2)]) (st' := [.int (2), .ref 707, .int (0), .int x2, .ref 621]) (by decide +kernel) rfl) ?_
  refine ev_go0 (ev_w_iald (M := (ev_Mof 348)) (pc := 16) (v := (0)) (by decide +kernel) ev_fH707 (by decide +kernel) rfl) ?_
  refine ev_go0 (ev_w_iconst (M := (ev_Mof 348)) (pc := 17) (k := 1) (v := 1) (by decide +kernel) (by decide +kernel)) ?_
  refine ev_go0 (ev_w_isub (M := (ev_Mof 348)) (pc := 18) (v := (-1)) (by decide +kernel) (by decide +kernel)) ?_
  refine ev_go0 (ev_w_stat (M := (ev_Mof 348)) (pc := 19) (y := 325) (kind := 2) (Or.inl rfl) (mi := 222) (na := 3) (by decide +kernel) (by decide +kernel) (by decide +kernel) (by decide +kernel) rfl rfl (ev_k399 x2 hl_x2)) ?_
  refine ev_go0 (ev_w_if (M := (ev_Mof 348)) (pc := 22) (q := .eq) (o := 7) (b := true) (t := 29) (by decide +kernel) (by decide +kernel) rfl) ?_
  refine ev_go0 (ev_w_iconst (M := (ev_Mof 348)) (pc := 29) (k := 1) (v := 1) (by decide +kernel) (by decide +kernel)) ?_
  refine ev_go0 (ev_p_putf (M := (ev_Mof 348)) (pc := 30) (x := 321) (ci := 13) (f := 0) (by decide +kernel) (by decide +kernel) ev_fH621 rfl (by decide +kernel)) ?_
  refine ev_go0 (ev_one_pure (M := (ev_Mof 348)) (pc := 33) (i := .aload_n 0) (len := 1) (pc' := 34) (lv' := [(0, .ref 621), (1, .int (2)), (2, .int x2)]) (st' := [.ref 621]) (by decide +kernel) rfl) ?_
  refine ev_go0 (ev_p_getf (M := (ev_Mof 348)) (pc := 34) (x := 321) (ci := 13) (f := 0) (fin := 0) (v := .int (1)) (by decide +kernel) (by decide +kernel) (ev_hself ev_fH621) rfl) ?_
  refine ev_go0 (ev_w_if (M := (ev_Mof 348)) (pc := 37) (q := .le) (o := 8) (b := false) (t := 40) (by decide +kernel) (by decide +kernel) rfl) ?_
  refine ev_go0 (ev_w_bipush (M := (ev_Mof 348)) (pc := 40) (k := 32) (v := 32) (by decide +kernel) (by decide +kernel)) ?_
  refine ev_go0 (ev_one_pure (M := (ev_Mof 348)) (pc := 42) (i := .goto 16) (len := 3) (pc' := 58) (lv' := [(0, .ref 621), (1, .int (2)), (2, .int x2)]) (st' := [.int (32)]) (by decide +kernel) rfl) ?_
  rfl
theorem ev_p1_19_2p (xs : Nat → Int32) (x2 : Int32) (hl_x2 : (0 : Int) ≤ x2.toInt) (e1 : xs 1 = (2)) (e2 : xs 2 = x2) : ev_P1 xs 1420 := by
  refine ⟨34, [(6, .int (32)), (5, .int (1)), (4, .int (0)), (3, .ref 723), (2, .ref 621), (1, .ref 0), (0, .retAddr 0)], (ev_H0.set 621 (.inr (13, (ev_F621.set 0 (.int (1)))))), 724, 725, 3553592, ?_, ⟨rfl, rfl, rfl, rfl⟩, rfl, by decide, by decide⟩
  show ev_stepn _ _ (1420, [(4, .int (0)), (3, .ref 723), (2, .ref 621), (1, .ref 0), (0, .retAddr 0)], [], _, _, _, _) = _
  refine ev_go0 (ev_one_pure (M := ev_Mlaw) (pc := 1420) (i := .aload_n 1) (len := 1) (pc' := 1421) (lv' := [(4, .int (0)), (3, .ref 723), (2, .ref 621), (1, .ref 0), (0, .retAddr 0)]) (st' := [.ref 0]) (by decide +kernel) rfl) ?_
  refine ev_go0 (ev_one_pure (M := ev_Mlaw) (pc := 1421) (i := .aload_n 0) (len := 1) (pc' := 1422) (lv' := [(4, .int (0)), (3, .ref 723), (2, .ref 621), (1, .ref 0), (0, .retAddr 0)]) (st' := [.retAddr 0, .ref 0]) (by decide +kernel) rfl) ?_
  refine ev_go0 (ev_one_pure (M := ev_Mlaw) (pc := 1422) (i := .iload 4) (len := 2) (pc' := 1424) (lv' := [(4, .int (0)), (3, .ref 723), (2, .ref 621), (1, .ref 0), (0, .retAddr 0)]) (st' := [.int (0), .retAddr 0, .ref 0]) (by decide +kernel) rfl) ?_
  refine ev_go0 (ev_w_iconst (M := ev_Mlaw) (pc := 1424) (k := 1) (v := 1) (by decide +kernel) (by decide +kernel)) ?_
  refine ev_go0 (ev_w_iadd (M := ev_Mlaw) (pc := 1425) (v := (1)) (by decide +kernel) (by decide +kernel)) ?_
  refine ev_go0 (ev_w_scr (M := ev_Mlaw) (pc := 1426) (v := (2)) (j := 1) (by decide +kernel) (by decide +kernel) (by decide +kernel) e1) ?_
  refine ev_go0 (ev_one_pure (M := ev_Mlaw) (pc := 1427) (i := .aload_n 0) (len := 1) (pc' := 1428) (lv' := [(4, .int (0)), (3, .ref 723), (2, .ref 621), (1, .ref 0), (0, .retAddr 0)]) (st' := [.retAddr 0, .int (2), .ref 0]) (by decide +kernel) rfl) ?_
  refine ev_go0 (ev_one_pure (M := ev_Mlaw) (pc := 1428) (i := .iload 4) (len := 2) (pc' := 1430) (lv' := [(4, .int (0)), (3, .ref 723), (2, .ref 621), (1, .ref 0), (0, .retAddr 0)]) (st' := [.int (0), .retAddr 0, .int (2), .ref 0]) (by decide +kernel) rfl) ?_
  refine ev_go0 (ev_w_iconst (M := ev_Mlaw) (pc := 1430) (k := 2) (v := 2) (by decide +kernel) (by decide +kernel)) ?_
  refine ev_go0 (ev_w_iadd (M := ev_Mlaw) (pc := 1431) (v := (2)) (by decide +kernel) (by decide +kernel)) ?_
  refine ev_go0 (ev_w_scr (M := ev_Mlaw) (pc := 1432) (v := x2) (j := 2) (by decide +kernel) (by decide +kernel) (by decide +kernel) e2) ?_
  refine ev_go0 (ev_one_pure (M := ev_Mlaw) (pc := 1433) (i := .aload_n 3) (len := 1) (pc' := 1434) (lv' := [(4, .int (0)), (3, .ref 723), (2, .ref 621), (1, .ref 0), (0, .retAddr 0)]) (st' := [.ref 723, .int x2, .int (2), .ref 0]) (by decide +kernel) rfl) ?_
  refine ev_go (ev_w_stat (M := ev_Mlaw) (pc := 1434) (y := 194) (kind := 8) (Or.inr (Or.inr rfl)) (mi := 382) (na := 4) (by decide +kernel) (by decide +kernel) (by decide +kernel) (by decide +kernel) rfl rfl (ev_k415 x2 hl_x2)) ?_
  refine ev_go0 (ev_w_istore (M := ev_Mlaw) (pc := 1437) (k := 5) (lv' := [(5, .int (1)), (4, .int (0)), (3, .ref 723), (2, .ref 621), (1, .ref 0), (0, .retAddr 0)]) (by decide +kernel) (by decide +kernel) rfl) ?_
  refine ev_go0 (ev_one_pure (M := ev_Mlaw) (pc := 1439) (i := .aload_n 2) (len := 1) (pc' := 1440) (lv' := [(5, .int (1)), (4, .int (0)), (3, .ref 723), (2, .ref 621), (1, .ref 0), (0, .retAddr 0)]) (st' := [.ref 621]) (by decide +kernel) rfl) ?_
  refine ev_go0 (ev_one_pure (M := ev_Mlaw) (pc := 1440) (i := .aload_n 0) (len := 1) (pc' := 1441) (lv' := [(5, .int (1)), (4, .int (0)), (3, .ref 723), (2, .ref 621), (1, .ref 0), (0, .retAddr 0)]) (st' := [.retAddr 0, .ref 621]) (by decide +kernel) rfl) ?_
  refine ev_go0 (ev_one_pure (M := ev_Mlaw) (pc := 1441) (i := .iload 4) (len := 2) (pc' := 1443) (lv' := [(5, .int (1)), (4, .int (0)), (3, .ref 723), (2, .ref 621), (1, .ref 0), (0, .retAddr 0)]) (st' := [.int (0), .retAddr 0, .ref 621]) (by decide +kernel) rfl) ?_
  refine ev_go0 (ev_w_iconst (M := ev_Mlaw) (pc := 1443) (k := 1) (v := 1) (by decide +kernel) (by decide +kernel)) ?_
  refine ev_go0 (ev_w_iadd (M := ev_Mlaw) (pc := 1444) (v := (1)) (by decide +kernel) (by decide +kernel)) ?_
  refine ev_go0 (ev_w_scr (M := ev_Mlaw) (pc := 1445) (v := (2)) (j := 1) (by decide +kernel) (by decide +kernel) (by decide +kernel) e1) ?_
  refine ev_go0 (ev_one_pure (M := ev_Mlaw) (pc := 1446) (i := .aload_n 0) (len := 1) (pc' := 1447) (lv' := [(5, .int (1)), (4, .int (0)), (3, .ref 723), (2, .ref 621), (1, .ref 0), (0, .retAddr 0)]) (st' := [.retAddr 0, .int (2), .ref 621]) (by decide +kernel) rfl) ?_
  refine ev_go0 (ev_one_pure (M := ev_Mlaw) (pc := 1447) (i := .iload 4) (len := 2) (pc' := 1449) (lv' := [(5, .int (1)), (4, .int (0)), (3, .ref 723), (2, .ref 621), (1, .ref 0), (0, .retAddr 0)]) (st' := [.int (0), .retAddr 0, .int (2), .ref 621]) (by decide +kernel) rfl) ?_
  refine ev_go0 (ev_w_iconst (M := ev_Mlaw) (pc := 1449) (k := 2) (v := 2) (by decide +kernel) (by decide +kernel)) ?_
  refine ev_go0 (ev_w_iadd (M := ev_Mlaw) (pc := 1450) (v := (2)) (by decide +kernel) (by decide +kernel)) ?_
  refine ev_go0 (ev_w_scr (M := ev_Mlaw) (pc := 1451) (v := x2) (j := 2) (by decide +kernel) (by decide +kernel) (by decide +kernel) e2) ?_
  refine ev_go0 (ev_p_virt (M := ev_Mlaw) (pc := 1452) (x := 196) (mi := 348) (na := 2) (by decide +kernel) (by decide +kernel) (by decide +kernel) (by decide +kernel) rfl rfl (ev_recv_of ev_fH621) (ev_k416 x2 hl_x2)) ?_
  refine ev_go0 (ev_w_istore (M := ev_Mlaw) (pc := 1455) (k := 6) (lv' := [(6, .int (32)), (5, .int (1)), (4, .int (0)), (3, .ref 723), (2, .ref 621), (1, .ref 0), (0, .retAddr 0)]) (by decide +kernel) (by decide +kernel) rfl) ?_
  refine ev_go0 (ev_one_pure (M := ev_Mlaw) (pc := 1457) (i := .aload_n 2) (len := 1) (pc' := 1458) (lv' := [(6, .int (32)), (5, .int (1)), (4, .int (0)), (3, .ref 723), (2, .ref 621), (1, .ref 0), (0, .retAddr 0)]) (st' := [.ref 621]) (by decide +kernel) rfl) ?_
  refine ev_go0 (ev_p_virt (M := ev_Mlaw) (pc := 1458) (x := 131) (mi := 220) (na := 0) (by decide +kernel) (by decide +kernel) (by decide +kernel) (by decide +kernel) rfl rfl (ev_recv_of (ev_hself ev_fH621)) ev_k26) ?_
  refine ev_go0 (ev_one_pure (M := ev_Mlaw) (pc := 1461) (i := .iload 5) (len := 2) (pc' := 1463) (lv' := [(6, .int (32)), (5, .int (1)), (4, .int (0)), (3, .ref 723), (2, .ref 621), (1, .ref 0), (0, .retAddr 0)]) (st' := [.int (1), .int (1)]) (by decide +kernel) rfl) ?_
  refine ev_go0 (ev_w_icmp (M := ev_Mlaw) (pc := 1463) (q := .eq) (o := 5) (b := true) (t := 1468) (by decide +kernel) (by decide +kernel) rfl) ?_
  refine ev_go0 (ev_one_pure (M := ev_Mlaw) (pc := 1468) (i := .iload 5) (len := 2) (pc' := 1470) (lv' := [(6, .int (32)), (5, .int (1)), (4, .int (0)), (3, .ref 723), (2, .ref 621), (1, .ref 0), (0, .retAddr 0)]) (st' := [.int (1)]) (by decide +kernel) rfl) ?_
  refine ev_go0 (ev_w_if (M := ev_Mlaw) (pc := 1470) (q := .ne) (o := 15) (b := true) (t := 1485) (by decide +kernel) (by decide +kernel) rfl) ?_
  refine ev_go0 (ev_one_pure (M := ev_Mlaw) (pc := 1485) (i := .goto 787) (len := 3) (pc' := 2272) (lv' := [(6, .int (32)), (5, .int (1)), (4, .int (0)), (3, .ref 723), (2, .ref 621), (1, .ref 0), (0, .retAddr 0)]) (st' := []) (by decide +kernel) rfl) ?_
  rfl
theorem ev_k417 (x1 : Int32) (hl_x1 : (3 : Int) ≤ x1.toInt) (x2 : Int32) (hu_x2 : x2.toInt ≤ (-1 : Int)) {n : Nat} : ev_calld 11 185 [.ref 0, .int x1, .int x2] ev_H0 n = some (.inr "java/lang/IndexOutOfBoundsException", ev_H0, n, 1, 6) := by
  refine ev_call_thrown (k := 7) (pcR := 25) (x := 160) (lv' := [(3, .null), (0, .ref 0), (1, .int x1), (2, .int x2)]) (by decide +kernel) rfl ?_ (by decide +kernel) (by decide +kernel) (by decide +kernel) (by decide) (by decide)
  show ev_stepn _ 7 (0, [(0, .ref 0), (1, .int x1), (2, .int x2)], [], _, _, 0, 0) = _
  refine ev_go0 (ev_one_pure (M := (ev_Mof 185)) (pc := 0) (i := .aload_n 0) (len := 1) (pc' := 1) (lv' := [(0, .ref 0), (1, .int x1), (2, .int x2)]) (st' := [.ref 0]) (by decide +kernel) rfl) ?_
  refine ev_go0 (ev_p_getf (M := (ev_Mof 185)) (pc := 1) (x := 48) (ci := 12) (f := 8) (fin := 1) (v := .ref 254) (by decide +kernel) (by decide +kernel) ev_fH0 rfl) ?_
  refine ev_go0 (ev_one_pure (M := (ev_Mof 185)) (pc := 4) (i := .iload_n 1) (len := 1) (pc' := 5) (lv' := [(0, .ref 0), (1, .int x1), (2, .int x2)]) (st' := [.int x1, .ref 254]) (by decide +kernel) rfl) ?_
  refine ev_go0 (ev_p_virt (M := (ev_Mof 185)) (pc := 5) (x := 221) (mi := 1) (na := 1) (by decide +kernel) (by decide +kernel) (by decide +kernel) (by decide +kernel) rfl rfl (ev_recv_of ev_fH254) (ev_k377 x1 hl_x1)) ?_
  refine ev_go0 (ev_w_astore_n (M := (ev_Mof 185)) (pc := 8) (k := 3) (lv' := [(3, .null), (0, .ref 0), (1, .int x1), (2, .int x2)]) (by decide +kernel) (by decide +kernel) (Or.inr (Or.inl rfl)) rfl) ?_
  refine ev_go0 (ev_one_pure (M := (ev_Mof 185)) (pc := 9) (i := .aload_n 3) (len := 1) (pc' := 10) (lv' := [(3, .null), (0, .ref 0), (1, .int x1), (2, .int x2)]) (st' := [.null]) (by decide +kernel) rfl) ?_
  refine ev_go0 (ev_w_ifnull (M := (ev_Mof 185)) (pc := 10) (o := 15) (t := 25) (by decide +kernel) (Or.inl ⟨rfl, rfl⟩)) ?_
  rfl
theorem ev_k418 (x1 : Int32) (hl_x1 : (3 : Int) ≤ x1.toInt) (x2 : Int32) (hu_x2 : x2.toInt ≤ (-1 : Int)) {n : Nat} : ev_calld 12 382 [.ref 0, .int x1, .int x2, .ref 723] ev_H0 n = some (.inl (some (.int (1))), ev_H0, n, 1, 6) := by
  refine ev_call_int (k := 8) (pcR := 16) (lv' := [(4, .retAddr 1), (0, .ref 0), (1, .int x1), (2, .int x2), (3, .ref 723)]) (v := (1)) (ty := .int) (by decide +kernel) rfl ?_ (by decide +kernel) (by decide +kernel) (by decide +kernel) (by decide)
  show ev_stepn _ 8 (0, [(0, .ref 0), (1, .int x1), (2, .int x2), (3, .ref 723)], [], _, _, 0, 0) = _
  refine ev_go0 (ev_one_pure (M := (ev_Mof 382)) (pc := 0) (i := .aload_n 3) (len := 1) (pc' := 1) (lv' := [(0, .ref 0), (1, .int x1), (2, .int x2), (3, .ref 723)]) (st' := [.ref 723]) (by decide +kernel) rfl) ?_
  refine ev_go0 (ev_w_iconst (M := (ev_Mof 382)) (pc := 1) (k := 0) (v := 0) (by decide +kernel) (by decide +kernel)) ?_
  refine ev_go0 (ev_one_pure (M := (ev_Mof 382)) (pc := 2) (i := .aload_n 0) (len := 1) (pc' := 3) (lv' := [(0, .ref 0), (1, .int x1), (2, .int x2), (3, .ref 723)]) (st' := [.ref 0, .int (0), .ref 723]) (by decide +kernel) rfl) ?_
  refine ev_go0 (ev_one_pure (M := (ev_Mof 382)) (pc := 3) (i := .iload_n 1) (len := 1) (pc' := 4) (lv' := [(0, .ref 0), (1, .int x1), (2, .int x2), (3, .ref 723)]) (st' := [.int x1, .ref 0, .int (0), .ref 723]) (by decide +kernel) rfl) ?_
  refine ev_go0 (ev_one_pure (M := (ev_Mof 382)) (pc := 4) (i := .iload_n 2) (len := 1) (pc' := 5) (lv' := [(0, .ref 0), (1, .int x1), (2, .int x2), (3, .ref 723)]) (st' := [.int x2, .int x1, .ref 0, .int (0), .ref 723]) (by decide +kernel) rfl) ?_
  refine ev_go (ev_p_virtX (M := (ev_Mof 382)) (pc := 5) (x := 76) (t := 13) (mi := 185) (na := 2) (by decide +kernel) (by decide +kernel) (by decide +kernel) (by decide +kernel) rfl rfl (ev_recv_of ev_fH0) (ev_k417 x1 hl_x1 x2 hu_x2) (by decide +kernel)) ?_
  refine ev_go0 (ev_w_astore (M := (ev_Mof 382)) (pc := 13) (k := 4) (lv' := [(4, .retAddr 1), (0, .ref 0), (1, .int x1), (2, .int x2), (3, .ref 723)]) (by decide +kernel) (by decide +kernel) (Or.inr (Or.inr ⟨_, rfl⟩)) rfl) ?_
  refine ev_go0 (ev_w_iconst (M := (ev_Mof 382)) (pc := 15) (k := 1) (v := 1) (by decide +kernel) (by decide +kernel)) ?_
  rfl
theorem ev_k419 (x1 : Int32) (hl_x1 : (3 : Int) ≤ x1.toInt) {n : Nat} : ev_calld 10 222 [.int x1, .int (0), .int (2)] ev_H0 n = some (.inl (some (.int (0))), ev_H0, n, 0, 0) := by
  refine ev_call_int (k := 7) (pcR := 15) (lv' := [(0, .int x1), (1, .int (0)), (2, .int (2))]) (v := (0)) (ty := .boolean) (by decide +kernel) rfl ?_ (by decide +kernel) (by decide +kernel) (by decide +kernel) (by decide)
  show ev_stepn _ 7 (0, [(0, .int x1), (1, .int (0)), (2, .int (2))], [], _, _, 0, 0) = _
  refine ev_go0 (ev_one_pure (M := (ev_Mof 222)) (pc := 0) (i := .iload_n 0) (len := 1) (pc' := 1) (lv' := [(0, .int x1), (1, .int (0)), (2, .int (2))]) (st' := [.int x1]) (by decide +kernel) rfl) ?_
  refine ev_go0 (ev_one_pure (M := (ev_Mof 222)) (pc := 1) (i := .iload_n 1) (len := 1) (pc' := 2) (lv' := [(0, .int x1), (1, .int (0)), (2, .int (2))]) (st' := [.int (0), .int x1]) (by decide +kernel) rfl) ?_
  refine ev_go0 (ev_w_icmp (M := (ev_Mof 222)) (pc := 2) (q := .lt) (o := 12) (b := false) (t := 5) (by decide +kernel) (ev_c_lt0 hl_x1 (by decide +kernel)) rfl) ?_
  refine ev_go0 (ev_one_pure (M := (ev_Mof 222)) (pc := 5) (i := .iload_n 0) (len := 1) (pc' := 6) (lv' := [(0, .int x1), (1, .int (0)), (2, .int (2))]) (st' := [.int x1]) (by decide +kernel) rfl) ?_
  refine ev_go0 (ev_one_pure (M := (ev_Mof 222)) (pc := 6) (i := .iload_n 2) (len := 1) (pc' := 7) (lv' := [(0, .int x1), (1, .int (0)), (2, .int (2))]) (st' := [.int (2), .int x1]) (by decide +kernel) rfl) ?_
  refine ev_go0 (ev_w_icmp (M := (ev_Mof 222)) (pc := 7) (q := .gt) (o := 7) (b := true) (t := 14) (by decide +kernel) (ev_c_gt1 hl_x1 (by decide +kernel)) rfl) ?_
  refine ev_go0 (ev_w_iconst (M := (ev_Mof 222)) (pc := 14) (k := 0) (v := 0) (by decide +kernel) (by decide +kernel)) ?_
  rfl
theorem ev_k420 (x1 : Int32) (hl_x1 : (3 : Int) ≤ x1.toInt) {n : Nat} : ev_calld 11 325 [.ref 621, .int x1] ev_H0 n = some (.inl (some (.int (0))), ev_H0, n, 0, 0) := by
  refine ev_call_int (k := 4) (pcR := 6) (lv' := [(0, .ref 621), (1, .int x1)]) (v := (0)) (ty := .boolean) (by decide +kernel) rfl ?_ (by decide +kernel) (by decide +kernel) (by decide +kernel) (by decide)
  show ev_stepn _ 4 (0, [(0, .ref 621), (1, .int x1)], [], _, _, 0, 0) = _
  refine ev_go0 (ev_one_pure (M := (ev_Mof 325)) (pc := 0) (i := .iload_n 1) (len := 1) (pc' := 1) (lv' := [(0, .ref 621), (1, .int x1)]) (st' := [.int x1]) (by decide +kernel) rfl) ?_
  refine ev_go0 (ev_w_iconst (M := (ev_Mof 325)) (pc := 1) (k := 0) (v := 0) (by decide +kernel) (by decide +kernel)) ?_
  refine ev_go0 (ev_w_iconst (M := (ev_Mof 325)) (pc := 2) (k := 2) (v := 2) (by decide +kernel) (by decide +kernel)) ?_
  refine ev_go0 (ev_w_stat (M := (ev_Mof 325)) (pc := 3) (y := 325) (kind := 2) (Or.inl rfl) (mi := 222) (na := 3) (by decide +kernel) (by decide +kernel) (by decide +kernel) (by decide +kernel) rfl rfl (ev_k419 x1 hl_x1)) ?_
  rfl
theorem ev_k421 (x1 : Int32) (hl_x1 : (3 : Int) ≤ x1.toInt) (x2 : Int32) (hu_x2 : x2.toInt ≤ (-1 : Int)) {n : Nat} : ev_calld 12 348 [.ref 621, .int x1, .int x2] ev_H0 n = some (.inl (some (.int (32))), (ev_H0.set 621 (.inr (13, (ev_F621.set 0 (.int (1)))))), n, 0, 0) := by
  refine ev_call_int (k := 12) (pcR := 58) (lv' := [(0, .ref 621), (1, .int x1), (2, .int x2)]) (v := (32)) (ty := .char) (by decide +kernel) rfl ?_ (by decide +kernel) (by decide +kernel) (by decide +kernel) (by decide)
  show ev_stepn _ 12 (0, [(0, .ref 621), (1, .int x1), (2, .int x2)], [], _, _, 0, 0) = _
  refine ev_go0 (ev_one_pure (M := (ev_Mof 348)) (pc := 0) (i := .aload_n 0) (len := 1) (pc' := 1) (lv' := [(0, .ref 621), (1, .int x1), (2, .int x2)]) (st' := [.ref 621]) (by decide +kernel) rfl) ?_
  refine ev_go0 (ev_one_pure (M := (ev_Mof 348)) (pc := 1) (i := .aload_n 0) (len := 1) (pc' := 2) (lv' := [(0, .ref 621), (1, .int x1), (2, .int x2)]) (st' := [.ref 621, .ref 621]) (by decide +kernel) rfl) ?_
  refine ev_go0 (ev_one_pure (M := (ev_Mof 348)) (pc := 2) (i := .iload_n 1) (len := 1) (pc' := 3) (lv' := [(0, .ref 621), (1, .int x1), (2, .int x2)]) (st' := [.int x1, .ref 621, .ref 621]) (by decide +kernel) rfl) ?_
  refine ev_go0 (ev_p_virt (M := (ev_Mof 348)) (pc := 3) (x := 716) (mi := 325) (na := 1) (by decide +kernel) (by decide +kernel) (by decide +kernel) (by decide +kernel) rfl rfl (ev_recv_of ev_fH621) (ev_k420 x1 hl_x1)) ?_
  refine ev_go0 (ev_w_if (M := (ev_Mof 348)) (pc := 6) (q := .eq) (o := 23) (b := true) (t := 29) (by decide +kernel) (by decide +kernel) rfl) ?_
  refine ev_go0 (ev_w_iconst (M := (ev_Mof 348)) (pc := 29) (k := 1) (v := 1) (by decide +kernel) (by decide +kernel)) ?_
  refine ev_go0 (ev_p_putf (M := (ev_Mof 348)) (pc := 30) (x := 321) (ci := 13) (f := 0) (by decide +kernel) (by decide +kernel) ev_fH621 rfl (by decide +kernel)) ?_
  refine ev_go0 (ev_one_pure (M := (ev_Mof 348)) (pc := 33) (i := .aload_n 0) (len := 1) (pc' := 34) (lv' := [(0, .ref 621), (1, .int x1), (2, .int x2)]) (st' := [.ref 621]) (by decide +kernel) rfl) ?_
  refine ev_go0 (ev_p_getf (M := (ev_Mof 348)) (pc := 34) (x := 321) (ci := 13) (f := 0) (fin := 0) (v := .int (1)) (by decide +kernel) (by decide +kernel) (ev_hself ev_fH621) rfl) ?_
  refine ev_go0 (ev_w_if (M := (ev_Mof 348)) (pc := 37) (q := .le) (o := 8) (b := false) (t := 40) (by decide +kernel) (by decide +kernel) rfl) ?_
  refine ev_go0 (ev_w_bipush (M := (ev_Mof 348)) (pc := 40) (k := 32) (v := 32) (by decide +kernel) (by decide +kernel)) ?_
  refine ev_go0 (ev_one_pure (M := (ev_Mof 348)) (pc := 42) (i := .goto 16) (len := 3) (pc' := 58) (lv' := [(0, .ref 621), (1, .int x1), (2, .int x2)]) (st' := [.int (32)]) (by decide +kernel) rfl) ?_
  rfl
theorem ev_p1_19_gn (xs : Nat → Int32) (x1 : Int32) (hl_x1 : (3 : Int) ≤ x1.toInt) (x2 : Int32) (hu_x2 : x2.toInt ≤ (-1 : Int)) (e1 : xs 1 = x1) (e2 : xs 2 = x2) : ev_P1 xs 1420 := by
  refine ⟨34, [(6, .int (32)), (5, .int (1)), (4, .int (0)), (3, .ref 723), (2, .ref 621), (1, .ref 0), (0, .retAddr 0)], (ev_H0.set 621 (.inr (13, (ev_F621.set 0 (.int (1)))))), 724, 725, 3553592, ?_, ⟨rfl, rfl, rfl, rfl⟩, rfl, by decide, by decide⟩
  show ev_stepn _ _ (1420, [(4, .int (0)), (3, .ref 723), (2, .ref 621), (1, .ref 0), (0, .retAddr 0)], [], _, _, _, _) = _
  refine ev_go0 (ev_one_pure (M := ev_Mlaw) (pc := 1420) (i := .aload_n 1) (len := 1) (pc' := 1421) (lv' := [(4, .int (0)), (3, .ref 723), (2, .ref 621), (1, .ref 0), (0, .retAddr 0)]) (st' := [.ref 0]) (by decide +kernel) rfl) ?_
  refine ev_go0 (ev_one_pure (M := ev_Mlaw) (pc := 1421) (i := .aload_n 0) (len := 1) (pc' := 1422) (lv' := [(4, .int (0)), (3, .ref 723), (2, .ref 621), (1, .ref 0), (0, .retAddr 0)]) (st' := [.retAddr 0, .ref 0]) (by decide +kernel) rfl) ?_
  refine ev_go0 (ev_one_pure (M := ev_Mlaw) (pc := 1422) (i := .iload 4) (len := 2) (pc' := 1424) (lv' := [(4, .int (0)), (3, .ref 723), (2, .ref 621), (1, .ref 0), (0, .retAddr 0)]) (st' := [.int (0), .retAddr 0, .ref 0]) (by decide +kernel) rfl) ?_
  refine ev_go0 (ev_w_iconst (M := ev_Mlaw) (pc := 1424) (k := 1) (v := 1) (by decide +kernel) (by decide +kernel)) ?_
  refine ev_go0 (ev_w_iadd (M := ev_Mlaw) (pc := 1425) (v := (1)) (by decide +kernel) (by decide +kernel)) ?_
  refine ev_go0 (ev_w_scr (M := ev_Mlaw) (pc := 1426) (v := x1) (j := 1) (by decide +kernel) (by decide +kernel) (by decide +kernel) e1) ?_
  refine ev_go0 (ev_one_pure (M := ev_Mlaw) (pc := 1427) (i := .aload_n 0) (len := 1) (pc' := 1428) (lv' := [(4, .int (0)), (3, .ref 723), (2, .ref 621), (1, .ref 0), (0, .retAddr 0)]) (st' := [.retAddr 0, .int x1, .ref 0]) (by decide +kernel) rfl) ?_
  refine ev_go0 (ev_one_pure (M := ev_Mlaw) (pc := 1428) (i := .iload 4) (len := 2) (pc' := 1430) (lv' := [(4, .int (0)), (3, .ref 723), (2, .ref 621), (1, .ref 0), (0, .retAddr 0)]) (st' := [.int (0), .retAddr 0, .int x1, .ref 0]) (by decide +kernel) rfl) ?_
  refine ev_go0 (ev_w_iconst (M := ev_Mlaw) (pc := 1430) (k := 2) (v := 2) (by decide +kernel) (by decide +kernel)) ?_
  refine ev_go0 (ev_w_iadd (M := ev_Mlaw) (pc := 1431) (v := (2)) (by decide +kernel) (by decide +kernel)) ?_
  refine ev_go0 (ev_w_scr (M := ev_Mlaw) (pc := 1432) (v := x2) (j := 2) (by decide +kernel) (by decide +kernel) (by decide +kernel) e2) ?_
  refine ev_go0 (ev_one_pure (M := ev_Mlaw) (pc := 1433) (i := .aload_n 3) (len := 1) (pc' := 1434) (lv' := [(4, .int (0)), (3, .ref 723), (2, .ref 621), (1, .ref 0), (0, .retAddr 0)]) (st' := [.ref 723, .int x2, .int x1, .ref 0]) (by decide +kernel) rfl) ?_
  refine ev_go (ev_w_stat (M := ev_Mlaw) (pc := 1434) (y := 194) (kind := 8) (Or.inr (Or.inr rfl)) (mi := 382) (na := 4) (by decide +kernel) (by decide +kernel) (by decide +kernel) (by decide +kernel) rfl rfl (ev_k418 x1 hl_x1 x2 hu_x2)) ?_
  refine ev_go0 (ev_w_istore (M := ev_Mlaw) (pc := 1437) (k := 5) (lv' := [(5, .int (1)), (4, .int (0)), (3, .ref 723), (2, .ref 621), (1, .ref 0), (0, .retAddr 0)]) (by decide +kernel) (by decide +kernel) rfl) ?_
  refine ev_go0 (ev_one_pure (M := ev_Mlaw) (pc := 1439) (i := .aload_n 2) (len := 1) (pc' := 1440) (lv' := [(5, .int (1)), (4, .int (0)), (3, .ref 723), (2, .ref 621), (1, .ref 0), (0, .retAddr 0)]) (st' := [.ref 621]) (by decide +kernel) rfl) ?_
  refine ev_go0 (ev_one_pure (M := ev_Mlaw) (pc := 1440) (i := .aload_n 0) (len := 1) (pc' := 1441) (lv' := [(5, .int (1)), (4, .int (0)), (3, .ref 723), (2, .ref 621), (1, .ref 0), (0, .retAddr 0)]) (st' := [.retAddr 0, .ref 621]) (by decide +kernel) rfl) ?_
  refine ev_go0 (ev_one_pure (M := ev_Mlaw) (pc := 1441) (i := .iload 4) (len := 2) (pc' := 1443) (lv' := [(5, .int (1)), (4, .int (0)), (3, .ref 723), (2, .ref 621), (1, .ref 0), (0, .retAddr 0)]) (st' := [.int (0), .retAddr 0, .ref 621]) (by decide +kernel) rfl) ?_
  refine ev_go0 (ev_w_iconst (M := ev_Mlaw) (pc := 1443) (k := 1) (v := 1) (by decide +kernel) (by decide +kernel)) ?_
  refine ev_go0 (ev_w_iadd (M := ev_Mlaw) (pc := 1444) (v := (1)) (by decide +kernel) (by decide +kernel)) ?_
  refine ev_go0 (ev_w_scr (M := ev_Mlaw) (pc := 1445) (v := x1) (j := 1) (by decide +kernel) (by decide +kernel) (by decide +kernel) e1) ?_
  refine ev_go0 (ev_one_pure (M := ev_Mlaw) (pc := 1446) (i := .aload_n 0) (len := 1) (pc' := 1447) (lv' := [(5, .int (1)), (4, .int (0)), (3, .ref 723), (2, .ref 621), (1, .ref 0), (0, .retAddr 0)]) (st' := [.retAddr 0, .int x1, .ref 621]) (by decide +kernel) rfl) ?_
  refine ev_go0 (ev_one_pure (M := ev_Mlaw) (pc := 1447) (i := .iload 4) (len := 2) (pc' := 1449) (lv' := [(5, .int (1)), (4, .int (0)), (3, .ref 723), (2, .ref 621), (1, .ref 0), (0, .retAddr 0)]) (st' := [.int (0), .retAddr 0, .int x1, .ref 621]) (by decide +kernel) rfl) ?_
  refine ev_go0 (ev_w_iconst (M := ev_Mlaw) (pc := 1449) (k := 2) (v := 2) (by decide +kernel) (by decide +kernel)) ?_
  refine ev_go0 (ev_w_iadd (M := ev_Mlaw) (pc := 1450) (v := (2)) (by decide +kernel) (by decide +kernel)) ?_
  refine ev_go0 (ev_w_scr (M := ev_Mlaw) (pc := 1451) (v := x2) (j := 2) (by decide +kernel) (by decide +kernel) (by decide +kernel) e2) ?_
  refine ev_go0 (ev_p_virt (M := ev_Mlaw) (pc := 1452) (x := 196) (mi := 348) (na := 2) (by decide +kernel) (by decide +kernel) (by decide +kernel) (by decide +kernel) rfl rfl (ev_recv_of ev_fH621) (ev_k421 x1 hl_x1 x2 hu_x2)) ?_
  refine ev_go0 (ev_w_istore (M := ev_Mlaw) (pc := 1455) (k := 6) (lv' := [(6, .int (32)), (5, .int (1)), (4, .int (0)), (3, .ref 723), (2, .ref 621), (1, .ref 0), (0, .retAddr 0)]) (by decide +kernel) (by decide +kernel) rfl) ?_
  refine ev_go0 (ev_one_pure (M := ev_Mlaw) (pc := 1457) (i := .aload_n 2) (len := 1) (pc' := 1458) (lv' := [(6, .int (32)), (5, .int (1)), (4, .int (0)), (3, .ref 723), (2, .ref 621), (1, .ref 0), (0, .retAddr 0)]) (st' := [.ref 621]) (by decide +kernel) rfl) ?_
  refine ev_go0 (ev_p_virt (M := ev_Mlaw) (pc := 1458) (x := 131) (mi := 220) (na := 0) (by decide +kernel) (by decide +kernel) (by decide +kernel) (by decide +kernel) rfl rfl (ev_recv_of (ev_hself ev_fH621)) ev_k26) ?_
  refine ev_go0 (ev_one_pure (M := ev_Mlaw) (pc := 1461) (i := .iload 5) (len := 2) (pc' := 1463) (lv' := [(6, .int (32)), (5, .int (1)), (4, .int (0)), (3, .ref 723), (2, .ref 621), (1, .ref 0), (0, .retAddr 0)]) (st' := [.int (1), .int (1)]) (by decide +kernel) rfl) ?_
  refine ev_go0 (ev_w_icmp (M := ev_Mlaw) (pc := 1463) (q := .eq) (o := 5) (b := true) (t := 1468) (by decide +kernel) (by decide +kernel) rfl) ?_
  refine ev_go0 (ev_one_pure (M := ev_Mlaw) (pc := 1468) (i := .iload 5) (len := 2) (pc' := 1470) (lv' := [(6, .int (32)), (5, .int (1)), (4, .int (0)), (3, .ref 723), (2, .ref 621), (1, .ref 0), (0, .retAddr 0)]) (st' := [.int (1)]) (by decide +kernel) rfl) ?_
  refine ev_go0 (ev_w_if (M := ev_Mlaw) (pc := 1470) (q := .ne) (o := 15) (b := true) (t := 1485) (by decide +kernel) (by decide +kernel) rfl) ?_
  refine ev_go0 (ev_one_pure (M := ev_Mlaw) (pc := 1485) (i := .goto 787) (len := 3) (pc' := 2272) (lv' := [(6, .int (32)), (5, .int (1)), (4, .int (0)), (3, .ref 723), (2, .ref 621), (1, .ref 0), (0, .retAddr 0)]) (st' := []) (by decide +kernel) rfl) ?_
  rfl
theorem ev_k422 (x1 : Int32) (hl_x1 : (3 : Int) ≤ x1.toInt) (x2 : Int32) (hl_x2 : (0 : Int) ≤ x2.toInt) {n : Nat} : ev_calld 11 185 [.ref 0, .int x1, .int x2] ev_H0 n = some (.inr "java/lang/IndexOutOfBoundsException", ev_H0, n, 1, 6) := by
  refine ev_call_thrown (k := 7) (pcR := 25) (x := 160) (lv' := [(3, .null), (0, .ref 0), (1, .int x1), (2, .int x2)]) (by decide +kernel) rfl ?_ (by decide +kernel) (by decide +kernel) (by decide +kernel) (by decide) (by decide)
  show ev_stepn _ 7 (0, [(0, .ref 0), (1, .int x1), (2, .int x2)], [], _, _, 0, 0) = _
  refine ev_go0 (ev_one_pure (M := (ev_Mof 185)) (pc := 0) (i := .aload_n 0) (len := 1) (pc' := 1) (lv' := [(0, .ref 0), (1, .int x1), (2, .int x2)]) (st' := [.ref 0]) (by decide +kernel) rfl) ?_
  refine ev_go0 (ev_p_getf (M := (ev_Mof 185)) (pc := 1) (x := 48) (ci := 12) (f := 8) (fin := 1) (v := .ref 254) (by decide +kernel) (by decide +kernel) ev_fH0 rfl) ?_
  refine ev_go0 (ev_one_pure (M := (ev_Mof 185)) (pc := 4) (i := .iload_n 1) (len := 1) (pc' := 5) (lv' := [(0, .ref 0), (1, .int x1), (2, .int x2)]) (st' := [.int x1, .ref 254]) (by decide +kernel) rfl) ?_
  refine ev_go0 (ev_p_virt (M := (ev_Mof 185)) (pc := 5) (x := 221) (mi := 1) (na := 1) (by decide +kernel) (by decide +kernel) (by decide +kernel) (by decide +kernel) rfl rfl (ev_recv_of ev_fH254) (ev_k377 x1 hl_x1)) ?_
  refine ev_go0 (ev_w_astore_n (M := (ev_Mof 185)) (pc := 8) (k := 3) (lv' := [(3, .null), (0, .ref 0), (1, .int x1), (2, .int x2)]) (by decide +kernel) (by decide +kernel) (Or.inr (Or.inl rfl)) rfl) ?_
  refine ev_go0 (ev_one_pure (M := (ev_Mof 185)) (pc := 9) (i := .aload_n 3) (len := 1) (pc' := 10) (lv' := [(3, .null), (0, .ref 0), (1, .int x1), (2, .int x2)]) (st' := [.null]) (by decide +kernel) rfl) ?_
  refine ev_go0 (ev_w_ifnull (M := (ev_Mof 185)) (pc := 10) (o := 15) (t := 25) (by decide +kernel) (Or.inl ⟨rfl, rfl⟩)) ?_
  rfl
theorem ev_k423 (x1 : Int32) (hl_x1 : (3 : Int) ≤ x1.toInt) (x2 : Int32) (hl_x2 : (0 : Int) ≤ x2.toInt) {n : Nat} : ev_calld 12 382 [.ref 0, .int x1, .int x2, .ref 723] ev_H0 n = some (.inl (some (.int (1))), ev_H0, n, 1, 6) := by
  refine ev_call_int (k := 8) (pcR := 16) (lv' := [(4, .retAddr 1), (0, .ref 0), (1, .int x1), (2, .int x2), (3, .ref 723)]) (v := (1)) (ty := .int) (by decide +kernel) rfl ?_ (by decide +kernel) (by decide +kernel) (by decide +kernel) (by decide)
  show ev_stepn _ 8 (0, [(0, .ref 0), (1, .int x1), (2, .int x2), (3, .ref 723)], [], _, _, 0, 0) = _
  refine ev_go0 (ev_one_pure (M := (ev_Mof 382)) (pc := 0) (i := .aload_n 3) (len := 1) (pc' := 1) (lv' := [(0, .ref 0), (1, .int x1), (2, .int x2), (3, .ref 723)]) (st' := [.ref 723]) (by decide +kernel) rfl) ?_
  refine ev_go0 (ev_w_iconst (M := (ev_Mof 382)) (pc := 1) (k := 0) (v := 0) (by decide +kernel) (by decide +kernel)) ?_
  refine ev_go0 (ev_one_pure (M := (ev_Mof 382)) (pc := 2) (i := .aload_n 0) (len := 1) (pc' := 3) (lv' := [(0, .ref 0), (1, .int x1), (2, .int x2), (3, .ref 723)]) (st' := [.ref 0, .int (0), .ref 723]) (by decide +kernel) rfl) ?_
  refine ev_go0 (ev_one_pure (M := (ev_Mof 382)) (pc := 3) (i := .iload_n 1) (len := 1) (pc' := 4) (lv' := [(0, .ref 0), (1, .int x1), (2, .int x2), (3, .ref 723)]) (st' := [.int x1, .ref 0, .int (0), .ref 723]) (by decide +kernel) rfl) ?_
  refine ev_go0 (ev_one_pure (M := (ev_Mof 382)) (pc := 4) (i := .iload_n 2) (len := 1) (pc' := 5) (lv' := [(0, .ref 0), (1, .int x1), (2, .int x2), (3, .ref 723)]) (st' := [.int x2, .int x1, .ref 0, .int (0), .ref 723]) (by decide +kernel) rfl) ?_
  refine ev_go (ev_p_virtX (M := (ev_Mof 382)) (pc := 5) (x := 76) (t := 13) (mi := 185) (na := 2) (by decide +kernel) (by decide +kernel) (by decide +kernel) (by decide +kernel) rfl rfl (ev_recv_of ev_fH0) (ev_k422 x1 hl_x1 x2 hl_x2) (by decide +kernel)) ?_
  refine ev_go0 (ev_w_astore (M := (ev_Mof 382)) (pc := 13) (k := 4) (lv' := [(4, .retAddr 1), (0, .ref 0), (1, .int x1), (2, .int x2), (3, .ref 723)]) (by decide +kernel) (by decide +kernel) (Or.inr (Or.inr ⟨_, rfl⟩)) rfl) ?_
  refine ev_go0 (ev_w_iconst (M := (ev_Mof 382)) (pc := 15) (k := 1) (v := 1) (by decide +kernel) (by decide +kernel)) ?_
  rfl
theorem ev_k424 (x1 : Int32) (hl_x1 : (3 : Int) ≤ x1.toInt) (x2 : Int32) (hl_x2 : (0 : Int) ≤ x2.toInt) {n : Nat} : ev_calld 12 348 [.ref 621, .int x1, .int x2] ev_H0 n = some (.inl (some (.int (32))), (ev_H0.set 621 (.inr (13, (ev_F621.set 0 (.int (1)))))), n, 0, 0) := by
  refine ev_call_int (k := 12) (pcR := 58) (lv' := [(0, .ref 621), (1, .int x1), (2, .int x2)]) (v := (32)) (ty := .char) (by decide +kernel) rfl ?_ (by decide +kernel) (by decide +kernel) (by decide +kernel) (by decide)
  show ev_stepn _ 12 (0, [(0, .ref 621), (1, .int x1), (2, .int x2)], [], _, _, 0, 0) = _
  refine ev_go0 (ev_one_pure (M := (ev_Mof 348)) (pc := 0) (i := .aload_n 0) (len := 1) (pc' := 1) (lv' := [(0, .ref 621), (1, .int x1), (2, .int x2)]) (st' := [.ref 621]) (by decide +kernel) rfl) ?_
  refine ev_go0 (ev_one_pure (M := (ev_Mof 348)) (pc := 1) (i := .aload_n 0) (len := 1) (pc' := 2) (lv' := [(0, .ref 621), (1, .int x1), (2, .int x2)]) (st' := [.ref 621, .ref 621]) (by decide +kernel) rfl) ?_
  refine ev_go0 (ev_one_pure (M := (ev_Mof 348)) (pc := 2) (i := .iload_n 1) (len := 1) (pc' := 3) (lv' := [(0, .ref 621), (1, .int x1), (2, .int x2)]) (st' := [.int x1, .ref 621, .ref 621]) (by decide +kernel) rfl) ?_
  refine ev_go0 (ev_p_virt (M := (ev_Mof 348)) (pc := 3) (x := 716) (mi := 325) (na := 1) (by decide +kernel) (by decide +kernel) (by decide +kernel) (by decide +kernel) rfl rfl (ev_recv_of ev_fH621) (ev_k420 x1 hl_x1)) ?_
  refine ev_go0 (ev_w_if (M := (ev_Mof 348)) (pc := 6) (q := .eq) (o := 23) (b := true) (t := 29) (by decide +kernel) (by decide +kernel) rfl) ?_
  refine ev_go0 (ev_w_iconst (M := (ev_Mof 348)) (pc := 29) (k := 1) (v := 1) (by decide +kernel) (by decide +kernel)) ?_
  refine ev_go0 (ev_p_putf (M := (ev_Mof 348)) (pc := 30) (x := 321) (ci := 13) (f := 0) (by decide +kernel) (by decide +kernel) ev_fH621 rfl (by decide +kernel)) ?_
  refine ev_go0 (ev_one_pure (M := (ev_Mof 348)) (pc := 33) (i := .aload_n 0) (len := 1) (pc' := 34) (lv' := [(0, .ref 621), (1, .int x1), (2, .int x2)]) (st' := [.ref 621]) (by decide +kernel) rfl) ?_
  refine ev_go0 (ev_p_getf (M := (ev_Mof 348)) (pc := 34) (x := 321) (ci := 13) (f := 0) (fin := 0) (v := .int (1)) (by decide +kernel) (by decide +kernel) (ev_hself ev_fH621) rfl) ?_
  refine ev_go0 (ev_w_if (M := (ev_Mof 348)) (pc := 37) (q := .le) (o := 8) (b := false) (t := 40) (by decide +kernel) (by decide +kernel) rfl) ?_
  refine ev_go0 (ev_w_bipush (M := (ev_Mof 348)) (pc := 40) (k := 32) (v := 32) (by decide +kernel) (by decide +kernel)) ?_
  refine ev_go0 (ev_one_pure (M := (ev_Mof 348)) (pc := 42) (i := .goto 16) (len := 3) (pc' := 58) (lv' := [(0, .ref 621), (1, .int x1), (2, .int x2)]) (st' := [.int (32)]) (by decide +kernel) rfl) ?_
  rfl
theorem ev_p1_19_gp (xs : Nat → Int32) (x1 : Int32) (hl_x1 : (3 : Int) ≤ x1.toInt) (x2 : Int32) (hl_x2 : (0 : Int) ≤ x2.toInt) (e1 : xs 1 = x1) (e2 : xs 2 = x2) : ev_P1 xs 1420 := by
  refine ⟨34, [(6, .int (32)), (5, .int (1)), (4, .int (0)), (3, .ref 723), (2, .ref 621), (1, .ref 0), (0, .retAddr 0)], (ev_H0.set 621 (.inr (13, (ev_F621.set 0 (.int (1)))))), 724, 725, 3553592, ?_, ⟨rfl, rfl, rfl, rfl⟩, rfl, by decide, by decide⟩
  show ev_stepn _ _ (1420, [(4, .int (0)), (3, .ref 723), (2, .ref 621), (1, .ref 0), (0, .retAddr 0)], [], _, _, _, _) = _
  refine ev_go0 (ev_one_pure (M := ev_Mlaw) (pc := 1420) (i := .aload_n 1) (len := 1) (pc' := 1421) (lv' := [(4, .int (0)), (3, .ref 723), (2, .ref 621), (1, .ref 0), (0, .retAddr 0)]) (st' := [.ref 0]) (by decide +kernel) rfl) ?_
  refine ev_go0 (ev_one_pure (M := ev_Mlaw) (pc := 1421) (i := .aload_n 0) (len := 1) (pc' := 1422) (lv' := [(4, .int (0)), (3, .ref 723), (2, .ref 621), (1, .ref 0), (0, .retAddr 0)]) (st' := [.retAddr 0, .ref 0]) (by decide +kernel) rfl) ?_
  refine ev_go0 (ev_one_pure (M := ev_Mlaw) (pc := 1422) (i := .iload 4) (len := 2) (pc' := 1424) (lv' := [(4, .int (0)), (3, .ref 723), (2, .ref 621), (1, .ref 0), (0, .retAddr 0)]) (st' := [.int (0), .retAddr 0, .ref 0]) (by decide +kernel) rfl) ?_
  refine ev_go0 (ev_w_iconst (M := ev_Mlaw) (pc := 1424) (k := 1) (v := 1) (by decide +kernel) (by decide +kernel)) ?_
  refine ev_go0 (ev_w_iadd (M := ev_Mlaw) (pc := 1425) (v := (1)) (by decide +kernel) (by decide +kernel)) ?_
  refine ev_go0 (ev_w_scr (M := ev_Mlaw) (pc := 1426) (v := x1) (j := 1) (by decide +kernel) (by decide +kernel) (by decide +kernel) e1) ?_
  refine ev_go0 (ev_one_pure (M := ev_Mlaw) (pc := 1427) (i := .aload_n 0) (len := 1) (pc' := 1428) (lv' := [(4, .int (0)), (3, .ref 723), (2, .ref 621), (1, .ref 0), (0, .retAddr 0)]) (st' := [.retAddr 0, .int x1, .ref 0]) (by decide +kernel) rfl) ?_
  refine ev_go0 (ev_one_pure (M := ev_Mlaw) (pc := 1428) (i := .iload 4) (len := 2) (pc' := 1430) (lv' := [(4, .int (0)), (3, .ref 723), (2, .ref 621), (1, .ref 0), (0, .retAddr 0)]) (st' := [.int (0), .retAddr 0, .int x1, .ref 0]) (by decide +kernel) rfl) ?_
  refine ev_go0 (ev_w_iconst (M := ev_Mlaw) (pc := 1430) (k := 2) (v := 2) (by decide +kernel) (by decide +kernel)) ?_
  refine ev_go0 (ev_w_iadd (M := ev_Mlaw) (pc := 1431) (v := (2)) (by decide +kernel) (by decide +kernel)) ?_
  refine ev_go0 (ev_w_scr (M := ev_Mlaw) (pc := 1432) (v := x2) (j := 2) (by decide +kernel) (by decide +kernel) (by decide +kernel) e2) ?_
  refine ev_go0 (ev_one_pure (M := ev_Mlaw) (pc := 1433) (i := .aload_n 3) (len := 1) (pc' := 1434) (lv' := [(4, .int (0)), (3, .ref 723), (2, .ref 621), (1, .ref 0), (0, .retAddr 0)]) (st' := [.ref 723, .int x2, .int x1, .ref 0]) (by decide +kernel) rfl) ?_
  refine ev_go (ev_w_stat (M := ev_Mlaw) (pc := 1434) (y := 194) (kind := 8) (Or.inr (Or.inr rfl)) (mi := 382) (na := 4) (by decide +kernel) (by decide +kernel) (by decide +kernel) (by decide +kernel) rfl rfl (ev_k423 x1 hl_x1 x2 hl_x2)) ?_
  refine ev_go0 (ev_w_istore (M := ev_Mlaw) (pc := 1437) (k := 5) (lv' := [(5, .int (1)), (4, .int (0)), (3, .ref 723), (2, .ref 621), (1, .ref 0), (0, .retAddr 0)]) (by decide +kernel) (by decide +kernel) rfl) ?_
  refine ev_go0 (ev_one_pure (M := ev_Mlaw) (pc := 1439) (i := .aload_n 2) (len := 1) (pc' := 1440) (lv' := [(5, .int (1)), (4, .int (0)), (3, .ref 723), (2, .ref 621), (1, .ref 0), (0, .retAddr 0)]) (st' := [.ref 621]) (by decide +kernel) rfl) ?_
  refine ev_go0 (ev_one_pure (M := ev_Mlaw) (pc := 1440) (i := .aload_n 0) (len := 1) (pc' := 1441) (lv' := [(5, .int (1)), (4, .int (0)), (3, .ref 723), (2, .ref 621), (1, .ref 0), (0, .retAddr 0)]) (st' := [.retAddr 0, .ref 621]) (by decide +kernel) rfl) ?_
  refine ev_go0 (ev_one_pure (M := ev_Mlaw) (pc := 1441) (i := .iload 4) (len := 2) (pc' := 1443) (lv' := [(5, .int (1)), (4, .int (0)), (3, .ref 723), (2, .ref 621), (1, .ref 0), (0, .retAddr 0)]) (st' := [.int (0), .retAddr 0, .ref 621]) (by decide +kernel) rfl) ?_
  refine ev_go0 (ev_w_iconst (M := ev_Mlaw) (pc := 1443) (k := 1) (v := 1) (by decide +kernel) (by decide +kernel)) ?_
  refine ev_go0 (ev_w_iadd (M := ev_Mlaw) (pc := 1444) (v := (1)) (by decide +kernel) (by decide +kernel)) ?_
  refine ev_go0 (ev_w_scr (M := ev_Mlaw) (pc := 1445) (v := x1) (j := 1) (by decide +kernel) (by decide +kernel) (by decide +kernel) e1) ?_
  refine ev_go0 (ev_one_pure (M := ev_Mlaw) (pc := 1446) (i := .aload_n 0) (len := 1) (pc' := 1447) (lv' := [(5, .int (1)), (4, .int (0)), (3, .ref 723), (2, .ref 621), (1, .ref 0), (0, .retAddr 0)]) (st' := [.retAddr 0, .int x1, .ref 621]) (by decide +kernel) rfl) ?_
  refine ev_go0 (ev_one_pure (M := ev_Mlaw) (pc := 1447) (i := .iload 4) (len := 2) (pc' := 1449) (lv' := [(5, .int (1)), (4, .int (0)), (3, .ref 723), (2, .ref 621), (1, .ref 0), (0, .retAddr 0)]) (st' := [.int (0), .retAddr 0, .int x1, .ref 621]) (by decide +kernel) rfl) ?_
  refine ev_go0 (ev_w_iconst (M := ev_Mlaw) (pc := 1449) (k := 2) (v := 2) (by decide +kernel) (by decide +kernel)) ?_
  refine ev_go0 (ev_w_iadd (M := ev_Mlaw) (pc := 1450) (v := (2)) (by decide +kernel) (by decide +kernel)) ?_
  refine ev_go0 (ev_w_scr (M := ev_Mlaw) (pc := 1451) (v := x2) (j := 2) (by decide +kernel) (by decide +kernel) (by decide +kernel) e2) ?_
  refine ev_go0 (ev_p_virt (M := ev_Mlaw) (pc := 1452) (x := 196) (mi := 348) (na := 2) (by decide +kernel) (by decide +kernel) (by decide +kernel) (by decide +kernel) rfl rfl (ev_recv_of ev_fH621) (ev_k424 x1 hl_x1 x2 hl_x2)) ?_
  refine ev_go0 (ev_w_istore (M := ev_Mlaw) (pc := 1455) (k := 6) (lv' := [(6, .int (32)), (5, .int (1)), (4, .int (0)), (3, .ref 723), (2, .ref 621), (1, .ref 0), (0, .retAddr 0)]) (by decide +kernel) (by decide +kernel) rfl) ?_
  refine ev_go0 (ev_one_pure (M := ev_Mlaw) (pc := 1457) (i := .aload_n 2) (len := 1) (pc' := 1458) (lv' := [(6, .int (32)), (5, .int (1)), (4, .int (0)), (3, .ref 723), (2, .ref 621), (1, .ref 0), (0, .retAddr 0)]) (st' := [.ref 621]) (by decide +kernel) rfl) ?_
  refine ev_go0 (ev_p_virt (M := ev_Mlaw) (pc := 1458) (x := 131) (mi := 220) (na := 0) (by decide +kernel) (by decide +kernel) (by decide +kernel) (by decide +kernel) rfl rfl (ev_recv_of (ev_hself ev_fH621)) ev_k26) ?_
  refine ev_go0 (ev_one_pure (M := ev_Mlaw) (pc := 1461) (i := .iload 5) (len := 2) (pc' := 1463) (lv' := [(6, .int (32)), (5, .int (1)), (4, .int (0)), (3, .ref 723), (2, .ref 621), (1, .ref 0), (0, .retAddr 0)]) (st' := [.int (1), .int (1)]) (by decide +kernel) rfl) ?_
  refine ev_go0 (ev_w_icmp (M := ev_Mlaw) (pc := 1463) (q := .eq) (o := 5) (b := true) (t := 1468) (by decide +kernel) (by decide +kernel) rfl) ?_
  refine ev_go0 (ev_one_pure (M := ev_Mlaw) (pc := 1468) (i := .iload 5) (len := 2) (pc' := 1470) (lv' := [(6, .int (32)), (5, .int (1)), (4, .int (0)), (3, .ref 723), (2, .ref 621), (1, .ref 0), (0, .retAddr 0)]) (st' := [.int (1)]) (by decide +kernel) rfl) ?_
  refine ev_go0 (ev_w_if (M := ev_Mlaw) (pc := 1470) (q := .ne) (o := 15) (b := true) (t := 1485) (by decide +kernel) (by decide +kernel) rfl) ?_
  refine ev_go0 (ev_one_pure (M := ev_Mlaw) (pc := 1485) (i := .goto 787) (len := 3) (pc' := 2272) (lv' := [(6, .int (32)), (5, .int (1)), (4, .int (0)), (3, .ref 723), (2, .ref 621), (1, .ref 0), (0, .retAddr 0)]) (st' := []) (by decide +kernel) rfl) ?_
  rfl
theorem ev_p1arm19 (xs : Nat → Int32) : ev_P1 xs 1420 := by
  rcases ev_split5 (xs 1) with h1 | h1 | h1 | h1 | h1
  · skip
    rcases ev_split2 (xs 2) with h2 | h2
    · skip
      exact ev_p1_19_nn xs (xs 1) h1 (xs 2) h2 rfl rfl
    · skip
      exact ev_p1_19_np xs (xs 1) h1 (xs 2) h2 rfl rfl
  · skip
    rcases ev_split2 (xs 2) with h2 | h2
    · skip
      exact ev_p1_19_0n xs (xs 2) h2 h1 rfl
    · skip
      exact ev_p1_19_0p xs (xs 2) h2 h1 rfl
  · skip
    rcases ev_split2 (xs 2) with h2 | h2
    · skip
      exact ev_p1_19_1n xs (xs 2) h2 h1 rfl
    · skip
      exact ev_p1_19_1p xs (xs 2) h2 h1 rfl
  · skip
    rcases ev_split2 (xs 2) with h2 | h2
    · skip
      exact ev_p1_19_2n xs (xs 2) h2 h1 rfl
    · skip
      exact ev_p1_19_2p xs (xs 2) h2 h1 rfl
  · skip
    rcases ev_split2 (xs 2) with h2 | h2
    · skip
      exact ev_p1_19_gn xs (xs 1) h1 (xs 2) h2 rfl rfl
    · skip
      exact ev_p1_19_gp xs (xs 1) h1 (xs 2) h2 rfl rfl
