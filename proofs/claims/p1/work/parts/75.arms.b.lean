theorem ev_fH255 : ev_H0[255]? = some (.inl (.object "MendBench$Text", 3, [(2, .ref 267), (1, .ref 265), (0, .ref 263)])) := by decide +kernel
theorem ev_k91 (x1 : Int32) (hu_x1 : x1.toInt ≤ (-1 : Int)) {n : Nat} : ev_calld 9 200 [.ref 0, .int x1] ev_H0 n = some (.inl (some (.null)), ev_H0, n, 0, 0) := by
  refine ev_call_ref (k := 3) (pcR := 28) (lv' := [(0, .ref 0), (1, .int x1)]) (v := .null) (C := "MendBench$Pattern") (by decide +kernel) rfl ?_ (by decide +kernel) (by decide +kernel) rfl (by decide)
  show ev_stepn _ 3 (0, [(0, .ref 0), (1, .int x1)], [], _, _, 0, 0) = _
  refine ev_go0 (ev_one_pure (M := (ev_Mof 200)) (pc := 0) (i := .iload_n 1) (len := 1) (pc' := 1) (lv' := [(0, .ref 0), (1, .int x1)]) (st' := [.int x1]) (by decide +kernel) rfl) ?_
  refine ev_go0 (ev_w_if (M := (ev_Mof 200)) (pc := 1) (q := .lt) (o := 26) (b := true) (t := 27) (by decide +kernel) (ev_c_lt1 hu_x1 (by decide +kernel)) rfl) ?_
  refine ev_go0 (ev_one_pure (M := (ev_Mof 200)) (pc := 27) (i := .aconst_null) (len := 1) (pc' := 28) (lv' := [(0, .ref 0), (1, .int x1)]) (st' := [.null]) (by decide +kernel) rfl) ?_
  rfl
theorem ev_k92 (x2 : Int32) (hu_x2 : x2.toInt ≤ (-1 : Int)) {n : Nat} : ev_calld 9 1 [.ref 254, .int x2] ev_H0 n = some (.inl (some (.null)), ev_H0, n, 0, 0) := by
  refine ev_call_ref (k := 3) (pcR := 19) (lv' := [(0, .ref 254), (1, .int x2)]) (v := .null) (C := "MendBench$Text") (by decide +kernel) rfl ?_ (by decide +kernel) (by decide +kernel) rfl (by decide)
  show ev_stepn _ 3 (0, [(0, .ref 254), (1, .int x2)], [], _, _, 0, 0) = _
  refine ev_go0 (ev_one_pure (M := (ev_Mof 1)) (pc := 0) (i := .iload_n 1) (len := 1) (pc' := 1) (lv' := [(0, .ref 254), (1, .int x2)]) (st' := [.int x2]) (by decide +kernel) rfl) ?_
  refine ev_go0 (ev_w_if (M := (ev_Mof 1)) (pc := 1) (q := .lt) (o := 17) (b := true) (t := 18) (by decide +kernel) (ev_c_lt1 hu_x2 (by decide +kernel)) rfl) ?_
  refine ev_go0 (ev_one_pure (M := (ev_Mof 1)) (pc := 18) (i := .aconst_null) (len := 1) (pc' := 19) (lv' := [(0, .ref 254), (1, .int x2)]) (st' := [.null]) (by decide +kernel) rfl) ?_
  rfl
theorem ev_k93 (x1 : Int32) (hu_x1 : x1.toInt ≤ (-1 : Int)) (x2 : Int32) (hu_x2 : x2.toInt ≤ (-1 : Int)) (x3 : Int32) (x4 : Int32) {n : Nat} : ev_calld 10 203 [.ref 0, .int x1, .int x2, .int x3, .int x4] ev_H0 n = some (.inl (some (.int (0))), ev_H0, n, 0, 0) := by
  refine ev_call_int (k := 12) (pcR := 60) (lv' := [(6, .null), (5, .null), (0, .ref 0), (1, .int x1), (2, .int x2), (3, .int x3), (4, .int x4)]) (v := (0)) (ty := .boolean) (by decide +kernel) rfl ?_ (by decide +kernel) (by decide +kernel) (by decide +kernel) (by decide)
  show ev_stepn _ 12 (0, [(0, .ref 0), (1, .int x1), (2, .int x2), (3, .int x3), (4, .int x4)], [], _, _, 0, 0) = _
  refine ev_go0 (ev_one_pure (M := (ev_Mof 203)) (pc := 0) (i := .aload_n 0) (len := 1) (pc' := 1) (lv' := [(0, .ref 0), (1, .int x1), (2, .int x2), (3, .int x3), (4, .int x4)]) (st' := [.ref 0]) (by decide +kernel) rfl) ?_
  refine ev_go0 (ev_one_pure (M := (ev_Mof 203)) (pc := 1) (i := .iload_n 1) (len := 1) (pc' := 2) (lv' := [(0, .ref 0), (1, .int x1), (2, .int x2), (3, .int x3), (4, .int x4)]) (st' := [.int x1, .ref 0]) (by decide +kernel) rfl) ?_
  refine ev_go0 (ev_p_virt (M := (ev_Mof 203)) (pc := 2) (x := 156) (mi := 200) (na := 1) (by decide +kernel) (by decide +kernel) (by decide +kernel) (by decide +kernel) rfl rfl (ev_recv_of ev_fH0) (ev_k91 x1 hu_x1)) ?_
  refine ev_go0 (ev_w_astore (M := (ev_Mof 203)) (pc := 5) (k := 5) (lv' := [(5, .null), (0, .ref 0), (1, .int x1), (2, .int x2), (3, .int x3), (4, .int x4)]) (by decide +kernel) (by decide +kernel) (Or.inr (Or.inl rfl)) rfl) ?_
  refine ev_go0 (ev_one_pure (M := (ev_Mof 203)) (pc := 7) (i := .aload_n 0) (len := 1) (pc' := 8) (lv' := [(5, .null), (0, .ref 0), (1, .int x1), (2, .int x2), (3, .int x3), (4, .int x4)]) (st' := [.ref 0]) (by decide +kernel) rfl) ?_
  refine ev_go0 (ev_p_getf (M := (ev_Mof 203)) (pc := 8) (x := 48) (ci := 12) (f := 8) (fin := 1) (v := .ref 254) (by decide +kernel) (by decide +kernel) ev_fH0 rfl) ?_
  refine ev_go0 (ev_one_pure (M := (ev_Mof 203)) (pc := 11) (i := .iload_n 2) (len := 1) (pc' := 12) (lv' := [(5, .null), (0, .ref 0), (1, .int x1), (2, .int x2), (3, .int x3), (4, .int x4)]) (st' := [.int x2, .ref 254]) (by decide +kernel) rfl) ?_
  refine ev_go0 (ev_p_virt (M := (ev_Mof 203)) (pc := 12) (x := 221) (mi := 1) (na := 1) (by decide +kernel) (by decide +kernel) (by decide +kernel) (by decide +kernel) rfl rfl (ev_recv_of ev_fH254) (ev_k92 x2 hu_x2)) ?_
  refine ev_go0 (ev_w_astore (M := (ev_Mof 203)) (pc := 15) (k := 6) (lv' := [(6, .null), (5, .null), (0, .ref 0), (1, .int x1), (2, .int x2), (3, .int x3), (4, .int x4)]) (by decide +kernel) (by decide +kernel) (Or.inr (Or.inl rfl)) rfl) ?_
  refine ev_go0 (ev_one_pure (M := (ev_Mof 203)) (pc := 17) (i := .aload 5) (len := 2) (pc' := 19) (lv' := [(6, .null), (5, .null), (0, .ref 0), (1, .int x1), (2, .int x2), (3, .int x3), (4, .int x4)]) (st' := [.null]) (by decide +kernel) rfl) ?_
  refine ev_go0 (ev_w_ifnull (M := (ev_Mof 203)) (pc := 19) (o := 40) (t := 59) (by decide +kernel) (Or.inl ⟨rfl, rfl⟩)) ?_
  refine ev_go0 (ev_w_iconst (M := (ev_Mof 203)) (pc := 59) (k := 0) (v := 0) (by decide +kernel) (by decide +kernel)) ?_
  rfl
theorem ev_k94 (x1 : Int32) (hu_x1 : x1.toInt ≤ (-1 : Int)) (x2 : Int32) (hu_x2 : x2.toInt ≤ (-1 : Int)) (x3 : Int32) (x4 : Int32) {n : Nat} : ev_calld 11 176 [.ref 0, .int x1, .int x2, .int x3, .int x4] ev_H0 n = some (.inr "java/lang/IndexOutOfBoundsException", ev_H0, n, 1, 6) := by
  refine ev_call_thrown (k := 7) (pcR := 12) (x := 160) (lv' := [(0, .ref 0), (1, .int x1), (2, .int x2), (3, .int x3), (4, .int x4)]) (by decide +kernel) rfl ?_ (by decide +kernel) (by decide +kernel) (by decide +kernel) (by decide) (by decide)
  show ev_stepn _ 7 (0, [(0, .ref 0), (1, .int x1), (2, .int x2), (3, .int x3), (4, .int x4)], [], _, _, 0, 0) = _
  refine ev_go0 (ev_one_pure (M := (ev_Mof 176)) (pc := 0) (i := .aload_n 0) (len := 1) (pc' := 1) (lv' := [(0, .ref 0), (1, .int x1), (2, .int x2), (3, .int x3), (4, .int x4)]) (st' := [.ref 0]) (by decide +kernel) rfl) ?_
  refine ev_go0 (ev_one_pure (M := (ev_Mof 176)) (pc := 1) (i := .iload_n 1) (len := 1) (pc' := 2) (lv' := [(0, .ref 0), (1, .int x1), (2, .int x2), (3, .int x3), (4, .int x4)]) (st' := [.int x1, .ref 0]) (by decide +kernel) rfl) ?_
  refine ev_go0 (ev_one_pure (M := (ev_Mof 176)) (pc := 2) (i := .iload_n 2) (len := 1) (pc' := 3) (lv' := [(0, .ref 0), (1, .int x1), (2, .int x2), (3, .int x3), (4, .int x4)]) (st' := [.int x2, .int x1, .ref 0]) (by decide +kernel) rfl) ?_
  refine ev_go0 (ev_one_pure (M := (ev_Mof 176)) (pc := 3) (i := .iload_n 3) (len := 1) (pc' := 4) (lv' := [(0, .ref 0), (1, .int x1), (2, .int x2), (3, .int x3), (4, .int x4)]) (st' := [.int x3, .int x2, .int x1, .ref 0]) (by decide +kernel) rfl) ?_
  refine ev_go0 (ev_one_pure (M := (ev_Mof 176)) (pc := 4) (i := .iload 4) (len := 2) (pc' := 6) (lv' := [(0, .ref 0), (1, .int x1), (2, .int x2), (3, .int x3), (4, .int x4)]) (st' := [.int x4, .int x3, .int x2, .int x1, .ref 0]) (by decide +kernel) rfl) ?_
  refine ev_go0 (ev_p_virt (M := (ev_Mof 176)) (pc := 6) (x := 205) (mi := 203) (na := 4) (by decide +kernel) (by decide +kernel) (by decide +kernel) (by decide +kernel) rfl rfl (ev_recv_of ev_fH0) (ev_k93 x1 hu_x1 x2 hu_x2 x3 x4)) ?_
  refine ev_go0 (ev_w_if (M := (ev_Mof 176)) (pc := 9) (q := .ne) (o := 13) (b := false) (t := 12) (by decide +kernel) (by decide +kernel) rfl) ?_
  rfl
theorem ev_k95 (x1 : Int32) (hu_x1 : x1.toInt ≤ (-1 : Int)) (x2 : Int32) (hu_x2 : x2.toInt ≤ (-1 : Int)) (x3 : Int32) (x4 : Int32) {n : Nat} : ev_calld 12 373 [.ref 0, .int x1, .int x2, .int x3, .int x4, .ref 723] ev_H0 n = some (.inl (some (.int (1))), ev_H0, n, 1, 6) := by
  refine ev_call_int (k := 10) (pcR := 20) (lv' := [(6, .retAddr 1), (0, .ref 0), (1, .int x1), (2, .int x2), (3, .int x3), (4, .int x4), (5, .ref 723)]) (v := (1)) (ty := .int) (by decide +kernel) rfl ?_ (by decide +kernel) (by decide +kernel) (by decide +kernel) (by decide)
  show ev_stepn _ 10 (0, [(0, .ref 0), (1, .int x1), (2, .int x2), (3, .int x3), (4, .int x4), (5, .ref 723)], [], _, _, 0, 0) = _
  refine ev_go0 (ev_one_pure (M := (ev_Mof 373)) (pc := 0) (i := .aload 5) (len := 2) (pc' := 2) (lv' := [(0, .ref 0), (1, .int x1), (2, .int x2), (3, .int x3), (4, .int x4), (5, .ref 723)]) (st' := [.ref 723]) (by decide +kernel) rfl) ?_
  refine ev_go0 (ev_w_iconst (M := (ev_Mof 373)) (pc := 2) (k := 0) (v := 0) (by decide +kernel) (by decide +kernel)) ?_
  refine ev_go0 (ev_one_pure (M := (ev_Mof 373)) (pc := 3) (i := .aload_n 0) (len := 1) (pc' := 4) (lv' := [(0, .ref 0), (1, .int x1), (2, .int x2), (3, .int x3), (4, .int x4), (5, .ref 723)]) (st' := [.ref 0, .int (0), .ref 723]) (by decide +kernel) rfl) ?_
  refine ev_go0 (ev_one_pure (M := (ev_Mof 373)) (pc := 4) (i := .iload_n 1) (len := 1) (pc' := 5) (lv' := [(0, .ref 0), (1, .int x1), (2, .int x2), (3, .int x3), (4, .int x4), (5, .ref 723)]) (st' := [.int x1, .ref 0, .int (0), .ref 723]) (by decide +kernel) rfl) ?_
  refine ev_go0 (ev_one_pure (M := (ev_Mof 373)) (pc := 5) (i := .iload_n 2) (len := 1) (pc' := 6) (lv' := [(0, .ref 0), (1, .int x1), (2, .int x2), (3, .int x3), (4, .int x4), (5, .ref 723)]) (st' := [.int x2, .int x1, .ref 0, .int (0), .ref 723]) (by decide +kernel) rfl) ?_
  refine ev_go0 (ev_one_pure (M := (ev_Mof 373)) (pc := 6) (i := .iload_n 3) (len := 1) (pc' := 7) (lv' := [(0, .ref 0), (1, .int x1), (2, .int x2), (3, .int x3), (4, .int x4), (5, .ref 723)]) (st' := [.int x3, .int x2, .int x1, .ref 0, .int (0), .ref 723]) (by decide +kernel) rfl) ?_
  refine ev_go0 (ev_one_pure (M := (ev_Mof 373)) (pc := 7) (i := .iload 4) (len := 2) (pc' := 9) (lv' := [(0, .ref 0), (1, .int x1), (2, .int x2), (3, .int x3), (4, .int x4), (5, .ref 723)]) (st' := [.int x4, .int x3, .int x2, .int x1, .ref 0, .int (0), .ref 723]) (by decide +kernel) rfl) ?_
  refine ev_go (ev_p_virtX (M := (ev_Mof 373)) (pc := 9) (x := 46) (t := 17) (mi := 176) (na := 4) (by decide +kernel) (by decide +kernel) (by decide +kernel) (by decide +kernel) rfl rfl (ev_recv_of ev_fH0) (ev_k94 x1 hu_x1 x2 hu_x2 x3 x4) (by decide +kernel)) ?_
  refine ev_go0 (ev_w_astore (M := (ev_Mof 373)) (pc := 17) (k := 6) (lv' := [(6, .retAddr 1), (0, .ref 0), (1, .int x1), (2, .int x2), (3, .int x3), (4, .int x4), (5, .ref 723)]) (by decide +kernel) (by decide +kernel) (Or.inr (Or.inr ⟨_, rfl⟩)) rfl) ?_
  refine ev_go0 (ev_w_iconst (M := (ev_Mof 373)) (pc := 19) (k := 1) (v := 1) (by decide +kernel) (by decide +kernel)) ?_
  rfl
theorem ev_k96 (x1 : Int32) (hu_x1 : x1.toInt ≤ (-1 : Int)) (x2 : Int32) (hu_x2 : x2.toInt ≤ (-1 : Int)) (x3 : Int32) (x4 : Int32) {n : Nat} : ev_calld 12 328 [.ref 621, .int x1, .int x2, .int x3, .int x4] ev_H0 n = some (.inl (some (.int (0))), (ev_H0.set 621 (.inr (13, (ev_F621.set 0 (.int (1)))))), n, 0, 0) := by
  refine ev_call_int (k := 11) (pcR := 49) (lv' := [(0, .ref 621), (1, .int x1), (2, .int x2), (3, .int x3), (4, .int x4)]) (v := (0)) (ty := .int) (by decide +kernel) rfl ?_ (by decide +kernel) (by decide +kernel) (by decide +kernel) (by decide)
  show ev_stepn _ 11 (0, [(0, .ref 621), (1, .int x1), (2, .int x2), (3, .int x3), (4, .int x4)], [], _, _, 0, 0) = _
  refine ev_go0 (ev_one_pure (M := (ev_Mof 328)) (pc := 0) (i := .aload_n 0) (len := 1) (pc' := 1) (lv' := [(0, .ref 621), (1, .int x1), (2, .int x2), (3, .int x3), (4, .int x4)]) (st' := [.ref 621]) (by decide +kernel) rfl) ?_
  refine ev_go0 (ev_one_pure (M := (ev_Mof 328)) (pc := 1) (i := .aload_n 0) (len := 1) (pc' := 2) (lv' := [(0, .ref 621), (1, .int x1), (2, .int x2), (3, .int x3), (4, .int x4)]) (st' := [.ref 621, .ref 621]) (by decide +kernel) rfl) ?_
  refine ev_go0 (ev_one_pure (M := (ev_Mof 328)) (pc := 2) (i := .iload_n 1) (len := 1) (pc' := 3) (lv' := [(0, .ref 621), (1, .int x1), (2, .int x2), (3, .int x3), (4, .int x4)]) (st' := [.int x1, .ref 621, .ref 621]) (by decide +kernel) rfl) ?_
  refine ev_go0 (ev_p_virt (M := (ev_Mof 328)) (pc := 3) (x := 531) (mi := 273) (na := 1) (by decide +kernel) (by decide +kernel) (by decide +kernel) (by decide +kernel) rfl rfl (ev_recv_of ev_fH621) (ev_k24 x1 hu_x1)) ?_
  refine ev_go0 (ev_w_if (M := (ev_Mof 328)) (pc := 6) (q := .eq) (o := 31) (b := true) (t := 37) (by decide +kernel) (by decide +kernel) rfl) ?_
  refine ev_go0 (ev_w_iconst (M := (ev_Mof 328)) (pc := 37) (k := 1) (v := 1) (by decide +kernel) (by decide +kernel)) ?_
  refine ev_go0 (ev_p_putf (M := (ev_Mof 328)) (pc := 38) (x := 321) (ci := 13) (f := 0) (by decide +kernel) (by decide +kernel) ev_fH621 rfl (by decide +kernel)) ?_
  refine ev_go0 (ev_one_pure (M := (ev_Mof 328)) (pc := 41) (i := .aload_n 0) (len := 1) (pc' := 42) (lv' := [(0, .ref 621), (1, .int x1), (2, .int x2), (3, .int x3), (4, .int x4)]) (st' := [.ref 621]) (by decide +kernel) rfl) ?_
  refine ev_go0 (ev_p_getf (M := (ev_Mof 328)) (pc := 42) (x := 321) (ci := 13) (f := 0) (fin := 0) (v := .int (1)) (by decide +kernel) (by decide +kernel) (ev_hself ev_fH621) rfl) ?_
  refine ev_go0 (ev_w_if (M := (ev_Mof 328)) (pc := 45) (q := .le) (o := 5) (b := false) (t := 48) (by decide +kernel) (by decide +kernel) rfl) ?_
  refine ev_go0 (ev_w_iconst (M := (ev_Mof 328)) (pc := 48) (k := 0) (v := 0) (by decide +kernel) (by decide +kernel)) ?_
  rfl
theorem ev_p1_10_nn (xs : Nat → Int32) (x1 : Int32) (hu_x1 : x1.toInt ≤ (-1 : Int)) (x2 : Int32) (hu_x2 : x2.toInt ≤ (-1 : Int)) (x3 : Int32) (x4 : Int32) (e1 : xs 1 = x1) (e2 : xs 2 = x2) (e3 : xs 3 = x3) (e4 : xs 4 = x4) : ev_P1 xs 712 := by
  refine ⟨54, [(6, .int (0)), (5, .int (1)), (4, .int (0)), (3, .ref 723), (2, .ref 621), (1, .ref 0), (0, .retAddr 0)], (ev_H0.set 621 (.inr (13, (ev_F621.set 0 (.int (1)))))), 724, 725, 3553592, ?_, ⟨rfl, rfl, rfl, rfl⟩, rfl, by decide, by decide⟩
  show ev_stepn _ _ (712, [(4, .int (0)), (3, .ref 723), (2, .ref 621), (1, .ref 0), (0, .retAddr 0)], [], _, _, _, _) = _
  refine ev_go0 (ev_one_pure (M := ev_Mlaw) (pc := 712) (i := .aload_n 1) (len := 1) (pc' := 713) (lv' := [(4, .int (0)), (3, .ref 723), (2, .ref 621), (1, .ref 0), (0, .retAddr 0)]) (st' := [.ref 0]) (by decide +kernel) rfl) ?_
  refine ev_go0 (ev_one_pure (M := ev_Mlaw) (pc := 713) (i := .aload_n 0) (len := 1) (pc' := 714) (lv' := [(4, .int (0)), (3, .ref 723), (2, .ref 621), (1, .ref 0), (0, .retAddr 0)]) (st' := [.retAddr 0, .ref 0]) (by decide +kernel) rfl) ?_
  refine ev_go0 (ev_one_pure (M := ev_Mlaw) (pc := 714) (i := .iload 4) (len := 2) (pc' := 716) (lv' := [(4, .int (0)), (3, .ref 723), (2, .ref 621), (1, .ref 0), (0, .retAddr 0)]) (st' := [.int (0), .retAddr 0, .ref 0]) (by decide +kernel) rfl) ?_
  refine ev_go0 (ev_w_iconst (M := ev_Mlaw) (pc := 716) (k := 1) (v := 1) (by decide +kernel) (by decide +kernel)) ?_
  refine ev_go0 (ev_w_iadd (M := ev_Mlaw) (pc := 717) (v := (1)) (by decide +kernel) (by decide +kernel)) ?_
  refine ev_go0 (ev_w_scr (M := ev_Mlaw) (pc := 718) (v := x1) (j := 1) (by decide +kernel) (by decide +kernel) (by decide +kernel) e1) ?_
  refine ev_go0 (ev_one_pure (M := ev_Mlaw) (pc := 719) (i := .aload_n 0) (len := 1) (pc' := 720) (lv' := [(4, .int (0)), (3, .ref 723), (2, .ref 621), (1, .ref 0), (0, .retAddr 0)]) (st' := [.retAddr 0, .int x1, .ref 0]) (by decide +kernel) rfl) ?_
  refine ev_go0 (ev_one_pure (M := ev_Mlaw) (pc := 720) (i := .iload 4) (len := 2) (pc' := 722) (lv' := [(4, .int (0)), (3, .ref 723), (2, .ref 621), (1, .ref 0), (0, .retAddr 0)]) (st' := [.int (0), .retAddr 0, .int x1, .ref 0]) (by decide +kernel) rfl) ?_
  refine ev_go0 (ev_w_iconst (M := ev_Mlaw) (pc := 722) (k := 2) (v := 2) (by decide +kernel) (by decide +kernel)) ?_
  refine ev_go0 (ev_w_iadd (M := ev_Mlaw) (pc := 723) (v := (2)) (by decide +kernel) (by decide +kernel)) ?_
  refine ev_go0 (ev_w_scr (M := ev_Mlaw) (pc := 724) (v := x2) (j := 2) (by decide +kernel) (by decide +kernel) (by decide +kernel) e2) ?_
  refine ev_go0 (ev_one_pure (M := ev_Mlaw) (pc := 725) (i := .aload_n 0) (len := 1) (pc' := 726) (lv' := [(4, .int (0)), (3, .ref 723), (2, .ref 621), (1, .ref 0), (0, .retAddr 0)]) (st' := [.retAddr 0, .int x2, .int x1, .ref 0]) (by decide +kernel) rfl) ?_
  refine ev_go0 (ev_one_pure (M := ev_Mlaw) (pc := 726) (i := .iload 4) (len := 2) (pc' := 728) (lv' := [(4, .int (0)), (3, .ref 723), (2, .ref 621), (1, .ref 0), (0, .retAddr 0)]) (st' := [.int (0), .retAddr 0, .int x2, .int x1, .ref 0]) (by decide +kernel) rfl) ?_
  refine ev_go0 (ev_w_iconst (M := ev_Mlaw) (pc := 728) (k := 3) (v := 3) (by decide +kernel) (by decide +kernel)) ?_
  refine ev_go0 (ev_w_iadd (M := ev_Mlaw) (pc := 729) (v := (3)) (by decide +kernel) (by decide +kernel)) ?_
  refine ev_go0 (ev_w_scr (M := ev_Mlaw) (pc := 730) (v := x3) (j := 3) (by decide +kernel) (by decide +kernel) (by decide +kernel) e3) ?_
  refine ev_go0 (ev_one_pure (M := ev_Mlaw) (pc := 731) (i := .aload_n 0) (len := 1) (pc' := 732) (lv' := [(4, .int (0)), (3, .ref 723), (2, .ref 621), (1, .ref 0), (0, .retAddr 0)]) (st' := [.retAddr 0, .int x3, .int x2, .int x1, .ref 0]) (by decide +kernel) rfl) ?_
  refine ev_go0 (ev_one_pure (M := ev_Mlaw) (pc := 732) (i := .iload 4) (len := 2) (pc' := 734) (lv' := [(4, .int (0)), (3, .ref 723), (2, .ref 621), (1, .ref 0), (0, .retAddr 0)]) (st' := [.int (0), .retAddr 0, .int x3, .int x2, .int x1, .ref 0]) (by decide +kernel) rfl) ?_
  refine ev_go0 (ev_w_iconst (M := ev_Mlaw) (pc := 734) (k := 4) (v := 4) (by decide +kernel) (by decide +kernel)) ?_
  refine ev_go0 (ev_w_iadd (M := ev_Mlaw) (pc := 735) (v := (4)) (by decide +kernel) (by decide +kernel)) ?_
  refine ev_go0 (ev_w_scr (M := ev_Mlaw) (pc := 736) (v := x4) (j := 4) (by decide +kernel) (by decide +kernel) (by decide +kernel) e4) ?_
  refine ev_go0 (ev_one_pure (M := ev_Mlaw) (pc := 737) (i := .aload_n 3) (len := 1) (pc' := 738) (lv' := [(4, .int (0)), (3, .ref 723), (2, .ref 621), (1, .ref 0), (0, .retAddr 0)]) (st' := [.ref 723, .int x4, .int x3, .int x2, .int x1, .ref 0]) (by decide +kernel) rfl) ?_
  refine ev_go (ev_w_stat (M := ev_Mlaw) (pc := 738) (y := 164) (kind := 8) (Or.inr (Or.inr rfl)) (mi := 373) (na := 6) (by decide +kernel) (by decide +kernel) (by decide +kernel) (by decide +kernel) rfl rfl (ev_k95 x1 hu_x1 x2 hu_x2 x3 x4)) ?_
  refine ev_go0 (ev_w_istore (M := ev_Mlaw) (pc := 741) (k := 5) (lv' := [(5, .int (1)), (4, .int (0)), (3, .ref 723), (2, .ref 621), (1, .ref 0), (0, .retAddr 0)]) (by decide +kernel) (by decide +kernel) rfl) ?_
  refine ev_go0 (ev_one_pure (M := ev_Mlaw) (pc := 743) (i := .aload_n 2) (len := 1) (pc' := 744) (lv' := [(5, .int (1)), (4, .int (0)), (3, .ref 723), (2, .ref 621), (1, .ref 0), (0, .retAddr 0)]) (st' := [.ref 621]) (by decide +kernel) rfl) ?_
  refine ev_go0 (ev_one_pure (M := ev_Mlaw) (pc := 744) (i := .aload_n 0) (len := 1) (pc' := 745) (lv' := [(5, .int (1)), (4, .int (0)), (3, .ref 723), (2, .ref 621), (1, .ref 0), (0, .retAddr 0)]) (st' := [.retAddr 0, .ref 621]) (by decide +kernel) rfl) ?_
  refine ev_go0 (ev_one_pure (M := ev_Mlaw) (pc := 745) (i := .iload 4) (len := 2) (pc' := 747) (lv' := [(5, .int (1)), (4, .int (0)), (3, .ref 723), (2, .ref 621), (1, .ref 0), (0, .retAddr 0)]) (st' := [.int (0), .retAddr 0, .ref 621]) (by decide +kernel) rfl) ?_
  refine ev_go0 (ev_w_iconst (M := ev_Mlaw) (pc := 747) (k := 1) (v := 1) (by decide +kernel) (by decide +kernel)) ?_
  refine ev_go0 (ev_w_iadd (M := ev_Mlaw) (pc := 748) (v := (1)) (by decide +kernel) (by decide +kernel)) ?_
  refine ev_go0 (ev_w_scr (M := ev_Mlaw) (pc := 749) (v := x1) (j := 1) (by decide +kernel) (by decide +kernel) (by decide +kernel) e1) ?_
  refine ev_go0 (ev_one_pure (M := ev_Mlaw) (pc := 750) (i := .aload_n 0) (len := 1) (pc' := 751) (lv' := [(5, .int (1)), (4, .int (0)), (3, .ref 723), (2, .ref 621), (1, .ref 0), (0, .retAddr 0)]) (st' := [.retAddr 0, .int x1, .ref 621]) (by decide +kernel) rfl) ?_
  refine ev_go0 (ev_one_pure (M := ev_Mlaw) (pc := 751) (i := .iload 4) (len := 2) (pc' := 753) (lv' := [(5, .int (1)), (4, .int (0)), (3, .ref 723), (2, .ref 621), (1, .ref 0), (0, .retAddr 0)]) (st' := [.int (0), .retAddr 0, .int x1, .ref 621]) (by decide +kernel) rfl) ?_
  refine ev_go0 (ev_w_iconst (M := ev_Mlaw) (pc := 753) (k := 2) (v := 2) (by decide +kernel) (by decide +kernel)) ?_
  refine ev_go0 (ev_w_iadd (M := ev_Mlaw) (pc := 754) (v := (2)) (by decide +kernel) (by decide +kernel)) ?_
  refine ev_go0 (ev_w_scr (M := ev_Mlaw) (pc := 755) (v := x2) (j := 2) (by decide +kernel) (by decide +kernel) (by decide +kernel) e2) ?_
  refine ev_go0 (ev_one_pure (M := ev_Mlaw) (pc := 756) (i := .aload_n 0) (len := 1) (pc' := 757) (lv' := [(5, .int (1)), (4, .int (0)), (3, .ref 723), (2, .ref 621), (1, .ref 0), (0, .retAddr 0)]) (st' := [.retAddr 0, .int x2, .int x1, .ref 621]) (by decide +kernel) rfl) ?_
  refine ev_go0 (ev_one_pure (M := ev_Mlaw) (pc := 757) (i := .iload 4) (len := 2) (pc' := 759) (lv' := [(5, .int (1)), (4, .int (0)), (3, .ref 723), (2, .ref 621), (1, .ref 0), (0, .retAddr 0)]) (st' := [.int (0), .retAddr 0, .int x2, .int x1, .ref 621]) (by decide +kernel) rfl) ?_
  refine ev_go0 (ev_w_iconst (M := ev_Mlaw) (pc := 759) (k := 3) (v := 3) (by decide +kernel) (by decide +kernel)) ?_
  refine ev_go0 (ev_w_iadd (M := ev_Mlaw) (pc := 760) (v := (3)) (by decide +kernel) (by decide +kernel)) ?_
  refine ev_go0 (ev_w_scr (M := ev_Mlaw) (pc := 761) (v := x3) (j := 3) (by decide +kernel) (by decide +kernel) (by decide +kernel) e3) ?_
  refine ev_go0 (ev_one_pure (M := ev_Mlaw) (pc := 762) (i := .aload_n 0) (len := 1) (pc' := 763) (lv' := [(5, .int (1)), (4, .int (0)), (3, .ref 723), (2, .ref 621), (1, .ref 0), (0, .retAddr 0)]) (st' := [.retAddr 0, .int x3, .int x2, .int x1, .ref 621]) (by decide +kernel) rfl) ?_
  refine ev_go0 (ev_one_pure (M := ev_Mlaw) (pc := 763) (i := .iload 4) (len := 2) (pc' := 765) (lv' := [(5, .int (1)), (4, .int (0)), (3, .ref 723), (2, .ref 621), (1, .ref 0), (0, .retAddr 0)]) (st' := [.int (0), .retAddr 0, .int x3, .int x2, .int x1, .ref 621]) (by decide +kernel) rfl) ?_
  refine ev_go0 (ev_w_iconst (M := ev_Mlaw) (pc := 765) (k := 4) (v := 4) (by decide +kernel) (by decide +kernel)) ?_
  refine ev_go0 (ev_w_iadd (M := ev_Mlaw) (pc := 766) (v := (4)) (by decide +kernel) (by decide +kernel)) ?_
  refine ev_go0 (ev_w_scr (M := ev_Mlaw) (pc := 767) (v := x4) (j := 4) (by decide +kernel) (by decide +kernel) (by decide +kernel) e4) ?_
  refine ev_go0 (ev_p_virt (M := ev_Mlaw) (pc := 768) (x := 167) (mi := 328) (na := 4) (by decide +kernel) (by decide +kernel) (by decide +kernel) (by decide +kernel) rfl rfl (ev_recv_of ev_fH621) (ev_k96 x1 hu_x1 x2 hu_x2 x3 x4)) ?_
  refine ev_go0 (ev_w_istore (M := ev_Mlaw) (pc := 771) (k := 6) (lv' := [(6, .int (0)), (5, .int (1)), (4, .int (0)), (3, .ref 723), (2, .ref 621), (1, .ref 0), (0, .retAddr 0)]) (by decide +kernel) (by decide +kernel) rfl) ?_
  refine ev_go0 (ev_one_pure (M := ev_Mlaw) (pc := 773) (i := .aload_n 2) (len := 1) (pc' := 774) (lv' := [(6, .int (0)), (5, .int (1)), (4, .int (0)), (3, .ref 723), (2, .ref 621), (1, .ref 0), (0, .retAddr 0)]) (st' := [.ref 621]) (by decide +kernel) rfl) ?_
  refine ev_go0 (ev_p_virt (M := ev_Mlaw) (pc := 774) (x := 131) (mi := 220) (na := 0) (by decide +kernel) (by decide +kernel) (by decide +kernel) (by decide +kernel) rfl rfl (ev_recv_of (ev_hself ev_fH621)) ev_k26) ?_
  refine ev_go0 (ev_one_pure (M := ev_Mlaw) (pc := 777) (i := .iload 5) (len := 2) (pc' := 779) (lv' := [(6, .int (0)), (5, .int (1)), (4, .int (0)), (3, .ref 723), (2, .ref 621), (1, .ref 0), (0, .retAddr 0)]) (st' := [.int (1), .int (1)]) (by decide +kernel) rfl) ?_
  refine ev_go0 (ev_w_icmp (M := ev_Mlaw) (pc := 779) (q := .eq) (o := 5) (b := true) (t := 784) (by decide +kernel) (by decide +kernel) rfl) ?_
  refine ev_go0 (ev_one_pure (M := ev_Mlaw) (pc := 784) (i := .iload 5) (len := 2) (pc' := 786) (lv' := [(6, .int (0)), (5, .int (1)), (4, .int (0)), (3, .ref 723), (2, .ref 621), (1, .ref 0), (0, .retAddr 0)]) (st' := [.int (1)]) (by decide +kernel) rfl) ?_
  refine ev_go0 (ev_w_if (M := ev_Mlaw) (pc := 786) (q := .ne) (o := 15) (b := true) (t := 801) (by decide +kernel) (by decide +kernel) rfl) ?_
  refine ev_go0 (ev_one_pure (M := ev_Mlaw) (pc := 801) (i := .goto 1471) (len := 3) (pc' := 2272) (lv' := [(6, .int (0)), (5, .int (1)), (4, .int (0)), (3, .ref 723), (2, .ref 621), (1, .ref 0), (0, .retAddr 0)]) (st' := []) (by decide +kernel) rfl) ?_
  rfl
theorem ev_k97 {n : Nat} : ev_calld 9 1 [.ref 254, .int (0)] ev_H0 n = some (.inl (some (.ref 263)), ev_H0, n, 0, 0) := by
  refine ev_call_ref (k := 10) (pcR := 19) (lv' := [(0, .ref 254), (1, .int (0))]) (v := .ref 263) (C := "MendBench$Text") (by decide +kernel) rfl ?_ (by decide +kernel) (by decide +kernel) rfl (by decide)
  show ev_stepn _ 10 (0, [(0, .ref 254), (1, .int (0))], [], _, _, 0, 0) = _
  refine ev_go0 (ev_one_pure (M := (ev_Mof 1)) (pc := 0) (i := .iload_n 1) (len := 1) (pc' := 1) (lv' := [(0, .ref 254), (1, .int (0))]) (st' := [.int (0)]) (by decide +kernel) rfl) ?_
  refine ev_go0 (ev_w_if (M := (ev_Mof 1)) (pc := 1) (q := .lt) (o := 17) (b := false) (t := 4) (by decide +kernel) (by decide +kernel) rfl) ?_
  refine ev_go0 (ev_one_pure (M := (ev_Mof 1)) (pc := 4) (i := .iload_n 1) (len := 1) (pc' := 5) (lv' := [(0, .ref 254), (1, .int (0))]) (st' := [.int (0)]) (by decide +kernel) rfl) ?_
  refine ev_go0 (ev_w_iconst (M := (ev_Mof 1)) (pc := 5) (k := 3) (v := 3) (by decide +kernel) (by decide +kernel)) ?_
  refine ev_go0 (ev_w_icmp (M := (ev_Mof 1)) (pc := 6) (q := .ge) (o := 12) (b := false) (t := 9) (by decide +kernel) (by decide +kernel) rfl) ?_
  refine ev_go0 (ev_one_pure (M := (ev_Mof 1)) (pc := 9) (i := .aload_n 0) (len := 1) (pc' := 10) (lv' := [(0, .ref 254), (1, .int (0))]) (st' := [.ref 254]) (by decide +kernel) rfl) ?_
  refine ev_go0 (ev_p_getf (M := (ev_Mof 1)) (pc := 10) (x := 13) (ci := 0) (f := 0) (fin := 1) (v := .ref 255) (by decide +kernel) (by decide +kernel) ev_fH254 rfl) ?_
  refine ev_go0 (ev_one_pure (M := (ev_Mof 1)) (pc := 13) (i := .iload_n 1) (len := 1) (pc' := 14) (lv' := [(0, .ref 254), (1, .int (0))]) (st' := [.int (0), .ref 255]) (by decide +kernel) rfl) ?_
  refine ev_go0 (ev_w_aald (M := (ev_Mof 1)) (pc := 14) (C := "MendBench$Text") (v := .ref 263) (by decide +kernel) ev_fH255 (by decide +kernel) rfl) ?_
  refine ev_go0 (ev_one_pure (M := (ev_Mof 1)) (pc := 15) (i := .goto 4) (len := 3) (pc' := 19) (lv' := [(0, .ref 254), (1, .int (0))]) (st' := [.ref 263]) (by decide +kernel) rfl) ?_
  rfl
theorem ev_k98 (x1 : Int32) (hu_x1 : x1.toInt ≤ (-1 : Int)) (x3 : Int32) (x4 : Int32) {n : Nat} : ev_calld 10 203 [.ref 0, .int x1, .int (0), .int x3, .int x4] ev_H0 n = some (.inl (some (.int (0))), ev_H0, n, 0, 0) := by
  refine ev_call_int (k := 12) (pcR := 60) (lv' := [(6, .ref 263), (5, .null), (0, .ref 0), (1, .int x1), (2, .int (0)), (3, .int x3), (4, .int x4)]) (v := (0)) (ty := .boolean) (by decide +kernel) rfl ?_ (by decide +kernel) (by decide +kernel) (by decide +kernel) (by decide)
  show ev_stepn _ 12 (0, [(0, .ref 0), (1, .int x1), (2, .int (0)), (3, .int x3), (4, .int x4)], [], _, _, 0, 0) = _
  refine ev_go0 (ev_one_pure (M := (ev_Mof 203)) (pc := 0) (i := .aload_n 0) (len := 1) (pc' := 1) (lv' := [(0, .ref 0), (1, .int x1), (2, .int (0)), (3, .int x3), (4, .int x4)]) (st' := [.ref 0]) (by decide +kernel) rfl) ?_
  refine ev_go0 (ev_one_pure (M := (ev_Mof 203)) (pc := 1) (i := .iload_n 1) (len := 1) (pc' := 2) (lv' := [(0, .ref 0), (1, .int x1), (2, .int (0)), (3, .int x3), (4, .int x4)]) (st' := [.int x1, .ref 0]) (by decide +kernel) rfl) ?_
  refine ev_go0 (ev_p_virt (M := (ev_Mof 203)) (pc := 2) (x := 156) (mi := 200) (na := 1) (by decide +kernel) (by decide +kernel) (by decide +kernel) (by decide +kernel) rfl rfl (ev_recv_of ev_fH0) (ev_k91 x1 hu_x1)) ?_
  refine ev_go0 (ev_w_astore (M := (ev_Mof 203)) (pc := 5) (k := 5) (lv' := [(5, .null), (0, .ref 0), (1, .int x1), (2, .int (0)), (3, .int x3), (4, .int x4)]) (by decide +kernel) (by decide +kernel) (Or.inr (Or.inl rfl)) rfl) ?_
  refine ev_go0 (ev_one_pure (M := (ev_Mof 203)) (pc := 7) (i := .aload_n 0) (len := 1) (pc' := 8) (lv' := [(5, .null), (0, .ref 0), (1, .int x1), (2, .int (0)), (3, .int x3), (4, .int x4)]) (st' := [.ref 0]) (by decide +kernel) rfl) ?_
  refine ev_go0 (ev_p_getf (M := (ev_Mof 203)) (pc := 8) (x := 48) (ci := 12) (f := 8) (fin := 1) (v := .ref 254) (by decide +kernel) (by decide +kernel) ev_fH0 rfl) ?_
  refine ev_go0 (ev_one_pure (M := (ev_Mof 203)) (pc := 11) (i := .iload_n 2) (len := 1) (pc' := 12) (lv' := [(5, .null), (0, .ref 0), (1, .int x1), (2, .int (0)), (3, .int x3), (4, .int x4)]) (st' := [.int (0), .ref 254]) (by decide +kernel) rfl) ?_
  refine ev_go0 (ev_p_virt (M := (ev_Mof 203)) (pc := 12) (x := 221) (mi := 1) (na := 1) (by decide +kernel) (by decide +kernel) (by decide +kernel) (by decide +kernel) rfl rfl (ev_recv_of ev_fH254) ev_k97) ?_
  refine ev_go0 (ev_w_astore (M := (ev_Mof 203)) (pc := 15) (k := 6) (lv' := [(6, .ref 263), (5, .null), (0, .ref 0), (1, .int x1), (2, .int (0)), (3, .int x3), (4, .int x4)]) (by decide +kernel) (by decide +kernel) (Or.inl ⟨_, rfl⟩) rfl) ?_
  refine ev_go0 (ev_one_pure (M := (ev_Mof 203)) (pc := 17) (i := .aload 5) (len := 2) (pc' := 19) (lv' := [(6, .ref 263), (5, .null), (0, .ref 0), (1, .int x1), (2, .int (0)), (3, .int x3), (4, .int x4)]) (st' := [.null]) (by decide +kernel) rfl) ?_
  refine ev_go0 (ev_w_ifnull (M := (ev_Mof 203)) (pc := 19) (o := 40) (t := 59) (by decide +kernel) (Or.inl ⟨rfl, rfl⟩)) ?_
  refine ev_go0 (ev_w_iconst (M := (ev_Mof 203)) (pc := 59) (k := 0) (v := 0) (by decide +kernel) (by decide +kernel)) ?_
  rfl
theorem ev_k99 (x1 : Int32) (hu_x1 : x1.toInt ≤ (-1 : Int)) (x3 : Int32) (x4 : Int32) {n : Nat} : ev_calld 11 176 [.ref 0, .int x1, .int (0), .int x3, .int x4] ev_H0 n = some (.inr "java/lang/IndexOutOfBoundsException", ev_H0, n, 1, 6) := by
  refine ev_call_thrown (k := 7) (pcR := 12) (x := 160) (lv' := [(0, .ref 0), (1, .int x1), (2, .int (0)), (3, .int x3), (4, .int x4)]) (by decide +kernel) rfl ?_ (by decide +kernel) (by decide +kernel) (by decide +kernel) (by decide) (by decide)
  show ev_stepn _ 7 (0, [(0, .ref 0), (1, .int x1), (2, .int (0)), (3, .int x3), (4, .int x4)], [], _, _, 0, 0) = _
  refine ev_go0 (ev_one_pure (M := (ev_Mof 176)) (pc := 0) (i := .aload_n 0) (len := 1) (pc' := 1) (lv' := [(0, .ref 0), (1, .int x1), (2, .int (0)), (3, .int x3), (4, .int x4)]) (st' := [.ref 0]) (by decide +kernel) rfl) ?_
  refine ev_go0 (ev_one_pure (M := (ev_Mof 176)) (pc := 1) (i := .iload_n 1) (len := 1) (pc' := 2) (lv' := [(0, .ref 0), (1, .int x1), (2, .int (0)), (3, .int x3), (4, .int x4)]) (st' := [.int x1, .ref 0]) (by decide +kernel) rfl) ?_
  refine ev_go0 (ev_one_pure (M := (ev_Mof 176)) (pc := 2) (i := .iload_n 2) (len := 1) (pc' := 3) (lv' := [(0, .ref 0), (1, .int x1), (2, .int (0)), (3, .int x3), (4, .int x4)]) (st' := [.int (0), .int x1, .ref 0]) (by decide +kernel) rfl) ?_
  refine ev_go0 (ev_one_pure (M := (ev_Mof 176)) (pc := 3) (i := .iload_n 3) (len := 1) (pc' := 4) (lv' := [(0, .ref 0), (1, .int x1), (2, .int (0)), (3, .int x3), (4, .int x4)]) (st' := [.int x3, .int (0), .int x1, .ref 0]) (by decide +kernel) rfl) ?_
  refine ev_go0 (ev_one_pure (M := (ev_Mof 176)) (pc := 4) (i := .iload 4) (len := 2) (pc' := 6) (lv' := [(0, .ref 0), (1, .int x1), (2, .int (0)), (3, .int x3), (4, .int x4)]) (st' := [.int x4, .int x3, .int (0), .int x1, .ref 0]) (by decide +kernel) rfl) ?_
  refine ev_go0 (ev_p_virt (M := (ev_Mof 176)) (pc := 6) (x := 205) (mi := 203) (na := 4) (by decide +kernel) (by decide +kernel) (by decide +kernel) (by decide +kernel) rfl rfl (ev_recv_of ev_fH0) (ev_k98 x1 hu_x1 x3 x4)) ?_
  refine ev_go0 (ev_w_if (M := (ev_Mof 176)) (pc := 9) (q := .ne) (o := 13) (b := false) (t := 12) (by decide +kernel) (by decide +kernel) rfl) ?_
  rfl
theorem ev_k100 (x1 : Int32) (hu_x1 : x1.toInt ≤ (-1 : Int)) (x3 : Int32) (x4 : Int32) {n : Nat} : ev_calld 12 373 [.ref 0, .int x1, .int (0), .int x3, .int x4, .ref 723] ev_H0 n = some (.inl (some (.int (1))), ev_H0, n, 1, 6) := by
  refine ev_call_int (k := 10) (pcR := 20) (lv' := [(6, .retAddr 1), (0, .ref 0), (1, .int x1), (2, .int (0)), (3, .int x3), (4, .int x4), (5, .ref 723)]) (v := (1)) (ty := .int) (by decide +kernel) rfl ?_ (by decide +kernel) (by decide +kernel) (by decide +kernel) (by decide)
  show ev_stepn _ 10 (0, [(0, .ref 0), (1, .int x1), (2, .int (0)), (3, .int x3), (4, .int x4), (5, .ref 723)], [], _, _, 0, 0) = _
  refine ev_go0 (ev_one_pure (M := (ev_Mof 373)) (pc := 0) (i := .aload 5) (len := 2) (pc' := 2) (lv' := [(0, .ref 0), (1, .int x1), (2, .int (0)), (3, .int x3), (4, .int x4), (5, .ref 723)]) (st' := [.ref 723]) (by decide +kernel) rfl) ?_
  refine ev_go0 (ev_w_iconst (M := (ev_Mof 373)) (pc := 2) (k := 0) (v := 0) (by decide +kernel) (by decide +kernel)) ?_
  refine ev_go0 (ev_one_pure (M := (ev_Mof 373)) (pc := 3) (i := .aload_n 0) (len := 1) (pc' := 4) (lv' := [(0, .ref 0), (1, .int x1), (2, .int (0)), (3, .int x3), (4, .int x4), (5, .ref 723)]) (st' := [.ref 0, .int (0), .ref 723]) (by decide +kernel) rfl) ?_
  refine ev_go0 (ev_one_pure (M := (ev_Mof 373)) (pc := 4) (i := .iload_n 1) (len := 1) (pc' := 5) (lv' := [(0, .ref 0), (1, .int x1), (2, .int (0)), (3, .int x3), (4, .int x4), (5, .ref 723)]) (st' := [.int x1, .ref 0, .int (0), .ref 723]) (by decide +kernel) rfl) ?_
  refine ev_go0 (ev_one_pure (M := (ev_Mof 373)) (pc := 5) (i := .iload_n 2) (len := 1) (pc' := 6) (lv' := [(0, .ref 0), (1, .int x1), (2, .int (0)), (3, .int x3), (4, .int x4), (5, .ref 723)]) (st' := [.int (0), .int x1, .ref 0, .int (0), .ref 723]) (by decide +kernel) rfl) ?_
  refine ev_go0 (ev_one_pure (M := (ev_Mof 373)) (pc := 6) (i := .iload_n 3) (len := 1) (pc' := 7) (lv' := [(0, .ref 0), (1, .int x1), (2, .int (0)), (3, .int x3), (4, .int x4), (5, .ref 723)]) (st' := [.int x3, .int (0), .int x1, .ref 0, .int (0), .ref 723]) (by decide +kernel) rfl) ?_
  refine ev_go0 (ev_one_pure (M := (ev_Mof 373)) (pc := 7) (i := .iload 4) (len := 2) (pc' := 9) (lv' := [(0, .ref 0), (1, .int x1), (2, .int (0)), (3, .int x3), (4, .int x4), (5, .ref 723)]) (st' := [.int x4, .int x3, .int (0), .int x1, .ref 0, .int (0), .ref 723]) (by decide +kernel) rfl) ?_
  refine ev_go (ev_p_virtX (M := (ev_Mof 373)) (pc := 9) (x := 46) (t := 17) (mi := 176) (na := 4) (by decide +kernel) (by decide +kernel) (by decide +kernel) (by decide +kernel) rfl rfl (ev_recv_of ev_fH0) (ev_k99 x1 hu_x1 x3 x4) (by decide +kernel)) ?_
  refine ev_go0 (ev_w_astore (M := (ev_Mof 373)) (pc := 17) (k := 6) (lv' := [(6, .retAddr 1), (0, .ref 0), (1, .int x1), (2, .int (0)), (3, .int x3), (4, .int x4), (5, .ref 723)]) (by decide +kernel) (by decide +kernel) (Or.inr (Or.inr ⟨_, rfl⟩)) rfl) ?_
  refine ev_go0 (ev_w_iconst (M := (ev_Mof 373)) (pc := 19) (k := 1) (v := 1) (by decide +kernel) (by decide +kernel)) ?_
  rfl
theorem ev_k101 (x1 : Int32) (hu_x1 : x1.toInt ≤ (-1 : Int)) (x3 : Int32) (x4 : Int32) {n : Nat} : ev_calld 12 328 [.ref 621, .int x1, .int (0), .int x3, .int x4] ev_H0 n = some (.inl (some (.int (0))), (ev_H0.set 621 (.inr (13, (ev_F621.set 0 (.int (1)))))), n, 0, 0) := by
  refine ev_call_int (k := 11) (pcR := 49) (lv' := [(0, .ref 621), (1, .int x1), (2, .int (0)), (3, .int x3), (4, .int x4)]) (v := (0)) (ty := .int) (by decide +kernel) rfl ?_ (by decide +kernel) (by decide +kernel) (by decide +kernel) (by decide)
  show ev_stepn _ 11 (0, [(0, .ref 621), (1, .int x1), (2, .int (0)), (3, .int x3), (4, .int x4)], [], _, _, 0, 0) = _
  refine ev_go0 (ev_one_pure (M := (ev_Mof 328)) (pc := 0) (i := .aload_n 0) (len := 1) (pc' := 1) (lv' := [(0, .ref 621), (1, .int x1), (2, .int (0)), (3, .int x3), (4, .int x4)]) (st' := [.ref 621]) (by decide +kernel) rfl) ?_
  refine ev_go0 (ev_one_pure (M := (ev_Mof 328)) (pc := 1) (i := .aload_n 0) (len := 1) (pc' := 2) (lv' := [(0, .ref 621), (1, .int x1), (2, .int (0)), (3, .int x3), (4, .int x4)]) (st' := [.ref 621, .ref 621]) (by decide +kernel) rfl) ?_
  refine ev_go0 (ev_one_pure (M := (ev_Mof 328)) (pc := 2) (i := .iload_n 1) (len := 1) (pc' := 3) (lv' := [(0, .ref 621), (1, .int x1), (2, .int (0)), (3, .int x3), (4, .int x4)]) (st' := [.int x1, .ref 621, .ref 621]) (by decide +kernel) rfl) ?_
  refine ev_go0 (ev_p_virt (M := (ev_Mof 328)) (pc := 3) (x := 531) (mi := 273) (na := 1) (by decide +kernel) (by decide +kernel) (by decide +kernel) (by decide +kernel) rfl rfl (ev_recv_of ev_fH621) (ev_k24 x1 hu_x1)) ?_
  refine ev_go0 (ev_w_if (M := (ev_Mof 328)) (pc := 6) (q := .eq) (o := 31) (b := true) (t := 37) (by decide +kernel) (by decide +kernel) rfl) ?_
  refine ev_go0 (ev_w_iconst (M := (ev_Mof 328)) (pc := 37) (k := 1) (v := 1) (by decide +kernel) (by decide +kernel)) ?_
  refine ev_go0 (ev_p_putf (M := (ev_Mof 328)) (pc := 38) (x := 321) (ci := 13) (f := 0) (by decide +kernel) (by decide +kernel) ev_fH621 rfl (by decide +kernel)) ?_
  refine ev_go0 (ev_one_pure (M := (ev_Mof 328)) (pc := 41) (i := .aload_n 0) (len := 1) (pc' := 42) (lv' := [(0, .ref 621), (1, .int x1), (2, .int (0)), (3, .int x3), (4, .int x4)]) (st' := [.ref 621]) (by decide +kernel) rfl) ?_
  refine ev_go0 (ev_p_getf (M := (ev_Mof 328)) (pc := 42) (x := 321) (ci := 13) (f := 0) (fin := 0) (v := .int (1)) (by decide +kernel) (by decide +kernel) (ev_hself ev_fH621) rfl) ?_
  refine ev_go0 (ev_w_if (M := (ev_Mof 328)) (pc := 45) (q := .le) (o := 5) (b := false) (t := 48) (by decide +kernel) (by decide +kernel) rfl) ?_
  refine ev_go0 (ev_w_iconst (M := (ev_Mof 328)) (pc := 48) (k := 0) (v := 0) (by decide +kernel) (by decide +kernel)) ?_
  rfl
theorem ev_p1_10_n0 (xs : Nat → Int32) (x1 : Int32) (hu_x1 : x1.toInt ≤ (-1 : Int)) (x3 : Int32) (x4 : Int32) (e1 : xs 1 = x1) (e2 : xs 2 = (0)) (e3 : xs 3 = x3) (e4 : xs 4 = x4) : ev_P1 xs 712 := by
  refine ⟨54, [(6, .int (0)), (5, .int (1)), (4, .int (0)), (3, .ref 723), (2, .ref 621), (1, .ref 0), (0, .retAddr 0)], (ev_H0.set 621 (.inr (13, (ev_F621.set 0 (.int (1)))))), 724, 725, 3553592, ?_, ⟨rfl, rfl, rfl, rfl⟩, rfl, by decide, by decide⟩
  show ev_stepn _ _ (712, [(4, .int (0)), (3, .ref 723), (2, .ref 621), (1, .ref 0), (0, .retAddr 0)], [], _, _, _, _) = _
  refine ev_go0 (ev_one_pure (M := ev_Mlaw) (pc := 712) (i := .aload_n 1) (len := 1) (pc' := 713) (lv' := [(4, .int (0)), (3, .ref 723), (2, .ref 621), (1, .ref 0), (0, .retAddr 0)]) (st' := [.ref 0]) (by decide +kernel) rfl) ?_
  refine ev_go0 (ev_one_pure (M := ev_Mlaw) (pc := 713) (i := .aload_n 0) (len := 1) (pc' := 714) (lv' := [(4, .int (0)), (3, .ref 723), (2, .ref 621), (1, .ref 0), (0, .retAddr 0)]) (st' := [.retAddr 0, .ref 0]) (by decide +kernel) rfl) ?_
  refine ev_go0 (ev_one_pure (M := ev_Mlaw) (pc := 714) (i := .iload 4) (len := 2) (pc' := 716) (lv' := [(4, .int (0)), (3, .ref 723), (2, .ref 621), (1, .ref 0), (0, .retAddr 0)]) (st' := [.int (0), .retAddr 0, .ref 0]) (by decide +kernel) rfl) ?_
  refine ev_go0 (ev_w_iconst (M := ev_Mlaw) (pc := 716) (k := 1) (v := 1) (by decide +kernel) (by decide +kernel)) ?_
  refine ev_go0 (ev_w_iadd (M := ev_Mlaw) (pc := 717) (v := (1)) (by decide +kernel) (by decide +kernel)) ?_
  refine ev_go0 (ev_w_scr (M := ev_Mlaw) (pc := 718) (v := x1) (j := 1) (by decide +kernel) (by decide +kernel) (by decide +kernel) e1) ?_
  refine ev_go0 (ev_one_pure (M := ev_Mlaw) (pc := 719) (i := .aload_n 0) (len := 1) (pc' := 720) (lv' := [(4, .int (0)), (3, .ref 723), (2, .ref 621), (1, .ref 0), (0, .retAddr 0)]) (st' := [.retAddr 0, .int x1, .ref 0]) (by decide +kernel) rfl) ?_
  refine ev_go0 (ev_one_pure (M := ev_Mlaw) (pc := 720) (i := .iload 4) (len := 2) (pc' := 722) (lv' := [(4, .int (0)), (3, .ref 723), (2, .ref 621), (1, .ref 0), (0, .retAddr 0)]) (st' := [.int (0), .retAddr 0, .int x1, .ref 0]) (by decide +kernel) rfl) ?_
  refine ev_go0 (ev_w_iconst (M := ev_Mlaw) (pc := 722) (k := 2) (v := 2) (by decide +kernel) (by decide +kernel)) ?_
  refine ev_go0 (ev_w_iadd (M := ev_Mlaw) (pc := 723) (v := (2)) (by decide +kernel) (by decide +kernel)) ?_
  refine ev_go0 (ev_w_scr (M := ev_Mlaw) (pc := 724) (v := (0)) (j := 2) (by decide +kernel) (by decide +kernel) (by decide +kernel) e2) ?_
  refine ev_go0 (ev_one_pure (M := ev_Mlaw) (pc := 725) (i := .aload_n 0) (len := 1) (pc' := 726) (lv' := [(4, .int (0)), (3, .ref 723), (2, .ref 621), (1, .ref 0), (0, .retAddr 0)]) (st' := [.retAddr 0, .int (0), .int x1, .ref 0]) (by decide +kernel) rfl) ?_
  refine ev_go0 (ev_one_pure (M := ev_Mlaw) (pc := 726) (i := .iload 4) (len := 2) (pc' := 728) (lv' := [(4, .int (0)), (3, .ref 723), (2, .ref 621), (1, .ref 0), (0, .retAddr 0)]) (st' := [.int (0), .retAddr 0, .int (0), .int x1, .ref 0]) (by decide +kernel) rfl) ?_
  refine ev_go0 (ev_w_iconst (M := ev_Mlaw) (pc := 728) (k := 3) (v := 3) (by decide +kernel) (by decide +kernel)) ?_
  refine ev_go0 (ev_w_iadd (M := ev_Mlaw) (pc := 729) (v := (3)) (by decide +kernel) (by decide +kernel)) ?_
  refine ev_go0 (ev_w_scr (M := ev_Mlaw) (pc := 730) (v := x3) (j := 3) (by decide +kernel) (by decide +kernel) (by decide +kernel) e3) ?_
  refine ev_go0 (ev_one_pure (M := ev_Mlaw) (pc := 731) (i := .aload_n 0) (len := 1) (pc' := 732) (lv' := [(4, .int (0)), (3, .ref 723), (2, .ref 621), (1, .ref 0), (0, .retAddr 0)]) (st' := [.retAddr 0, .int x3, .int (0), .int x1, .ref 0]) (by decide +kernel) rfl) ?_
  refine ev_go0 (ev_one_pure (M := ev_Mlaw) (pc := 732) (i := .iload 4) (len := 2) (pc' := 734) (lv' := [(4, .int (0)), (3, .ref 723), (2, .ref 621), (1, .ref 0), (0, .retAddr 0)]) (st' := [.int (0), .retAddr 0, .int x3, .int (0), .int x1, .ref 0]) (by decide +kernel) rfl) ?_
  refine ev_go0 (ev_w_iconst (M := ev_Mlaw) (pc := 734) (k := 4) (v := 4) (by decide +kernel) (by decide +kernel)) ?_
  refine ev_go0 (ev_w_iadd (M := ev_Mlaw) (pc := 735) (v := (4)) (by decide +kernel) (by decide +kernel)) ?_
  refine ev_go0 (ev_w_scr (M := ev_Mlaw) (pc := 736) (v := x4) (j := 4) (by decide +kernel) (by decide +kernel) (by decide +kernel) e4) ?_
  refine ev_go0 (ev_one_pure (M := ev_Mlaw) (pc := 737) (i := .aload_n 3) (len := 1) (pc' := 738) (lv' := [(4, .int (0)), (3, .ref 723), (2, .ref 621), (1, .ref 0), (0, .retAddr 0)]) (st' := [.ref 723, .int x4, .int x3, .int (0), .int x1, .ref 0]) (by decide +kernel) rfl) ?_
  refine ev_go (ev_w_stat (M := ev_Mlaw) (pc := 738) (y := 164) (kind := 8) (Or.inr (Or.inr rfl)) (mi := 373) (na := 6) (by decide +kernel) (by decide +kernel) (by decide +kernel) (by decide +kernel) rfl rfl (ev_k100 x1 hu_x1 x3 x4)) ?_
  refine ev_go0 (ev_w_istore (M := ev_Mlaw) (pc := 741) (k := 5) (lv' := [(5, .int (1)), (4, .int (0)), (3, .ref 723), (2, .ref 621), (1, .ref 0), (0, .retAddr 0)]) (by decide +kernel) (by decide +kernel) rfl) ?_
  refine ev_go0 (ev_one_pure (M := ev_Mlaw) (pc := 743) (i := .aload_n 2) (len := 1) (pc' := 744) (lv' := [(5, .int (1)), (4, .int (0)), (3, .ref 723), (2, .ref 621), (1, .ref 0), (0, .retAddr 0)]) (st' := [.ref 621]) (by decide +kernel) rfl) ?_
  refine ev_go0 (ev_one_pure (M := ev_Mlaw) (pc := 744) (i := .aload_n 0) (len := 1) (pc' := 745) (lv' := [(5, .int (1)), (4, .int (0)), (3, .ref 723), (2, .ref 621), (1, .ref 0), (0, .retAddr 0)]) (st' := [.retAddr 0, .ref 621]) (by decide +kernel) rfl) ?_
  refine ev_go0 (ev_one_pure (M := ev_Mlaw) (pc := 745) (i := .iload 4) (len := 2) (pc' := 747) (lv' := [(5, .int (1)), (4, .int (0)), (3, .ref 723), (2, .ref 621), (1, .ref 0), (0, .retAddr 0)]) (st' := [.int (0), .retAddr 0, .ref 621]) (by decide +kernel) rfl) ?_
  refine ev_go0 (ev_w_iconst (M := ev_Mlaw) (pc := 747) (k := 1) (v := 1) (by decide +kernel) (by decide +kernel)) ?_
  refine ev_go0 (ev_w_iadd (M := ev_Mlaw) (pc := 748) (v := (1)) (by decide +kernel) (by decide +kernel)) ?_
  refine ev_go0 (ev_w_scr (M := ev_Mlaw) (pc := 749) (v := x1) (j := 1) (by decide +kernel) (by decide +kernel) (by decide +kernel) e1) ?_
  refine ev_go0 (ev_one_pure (M := ev_Mlaw) (pc := 750) (i := .aload_n 0) (len := 1) (pc' := 751) (lv' := [(5, .int (1)), (4, .int (0)), (3, .ref 723), (2, .ref 621), (1, .ref 0), (0, .retAddr 0)]) (st' := [.retAddr 0, .int x1, .ref 621]) (by decide +kernel) rfl) ?_
  refine ev_go0 (ev_one_pure (M := ev_Mlaw) (pc := 751) (i := .iload 4) (len := 2) (pc' := 753) (lv' := [(5, .int (1)), (4, .int (0)), (3, .ref 723), (2, .ref 621), (1, .ref 0), (0, .retAddr 0)]) (st' := [.int (0), .retAddr 0, .int x1, .ref 621]) (by decide +kernel) rfl) ?_
  refine ev_go0 (ev_w_iconst (M := ev_Mlaw) (pc := 753) (k := 2) (v := 2) (by decide +kernel) (by decide +kernel)) ?_
  refine ev_go0 (ev_w_iadd (M := ev_Mlaw) (pc := 754) (v := (2)) (by decide +kernel) (by decide +kernel)) ?_
  refine ev_go0 (ev_w_scr (M := ev_Mlaw) (pc := 755) (v := (0)) (j := 2) (by decide +kernel) (by decide +kernel) (by decide +kernel) e2) ?_
  refine ev_go0 (ev_one_pure (M := ev_Mlaw) (pc := 756) (i := .aload_n 0) (len := 1) (pc' := 757) (lv' := [(5, .int (1)), (4, .int (0)), (3, .ref 723), (2, .ref 621), (1, .ref 0), (0, .retAddr 0)]) (st' := [.retAddr 0, .int (0), .int x1, .ref 621]) (by decide +kernel) rfl) ?_
  refine ev_go0 (ev_one_pure (M := ev_Mlaw) (pc := 757) (i := .iload 4) (len := 2) (pc' := 759) (lv' := [(5, .int (1)), (4, .int (0)), (3, .ref 723), (2, .ref 621), (1, .ref 0), (0, .retAddr 0)]) (st' := [.int (0), .retAddr 0, .int (0), .int x1, .ref 621]) (by decide +kernel) rfl) ?_
  refine ev_go0 (ev_w_iconst (M := ev_Mlaw) (pc := 759) (k := 3) (v := 3) (by decide +kernel) (by decide +kernel)) ?_
  refine ev_go0 (ev_w_iadd (M := ev_Mlaw) (pc := 760) (v := (3)) (by decide +kernel) (by decide +kernel)) ?_
  refine ev_go0 (ev_w_scr (M := ev_Mlaw) (pc := 761) (v := x3) (j := 3) (by decide +kernel) (by decide +kernel) (by decide +kernel) e3) ?_
  refine ev_go0 (ev_one_pure (M := ev_Mlaw) (pc := 762) (i := .aload_n 0) (len := 1) (pc' := 763) (lv' := [(5, .int (1)), (4, .int (0)), (3, .ref 723), (2, .ref 621), (1, .ref 0), (0, .retAddr 0)]) (st' := [.retAddr 0, .int x3, .int (0), .int x1, .ref 621]) (by decide +kernel) rfl) ?_
  refine ev_go0 (ev_one_pure (M := ev_Mlaw) (pc := 763) (i := .iload 4) (len := 2) (pc' := 765) (lv' := [(5, .int (1)), (4, .int (0)), (3, .ref 723), (2, .ref 621), (1, .ref 0), (0, .retAddr 0)]) (st' := [.int (0), .retAddr 0, .int x3, .int (0), .int x1, .ref 621]) (by decide +kernel) rfl) ?_
  refine ev_go0 (ev_w_iconst (M := ev_Mlaw) (pc := 765) (k := 4) (v := 4) (by decide +kernel) (by decide +kernel)) ?_
  refine ev_go0 (ev_w_iadd (M := ev_Mlaw) (pc := 766) (v := (4)) (by decide +kernel) (by decide +kernel)) ?_
  refine ev_go0 (ev_w_scr (M := ev_Mlaw) (pc := 767) (v := x4) (j := 4) (by decide +kernel) (by decide +kernel) (by decide +kernel) e4) ?_
  refine ev_go0 (ev_p_virt (M := ev_Mlaw) (pc := 768) (x := 167) (mi := 328) (na := 4) (by decide +kernel) (by decide +kernel) (by decide +kernel) (by decide +kernel) rfl rfl (ev_recv_of ev_fH621) (ev_k101 x1 hu_x1 x3 x4)) ?_
  refine ev_go0 (ev_w_istore (M := ev_Mlaw) (pc := 771) (k := 6) (lv' := [(6, .int (0)), (5, .int (1)), (4, .int (0)), (3, .ref 723), (2, .ref 621), (1, .ref 0), (0, .retAddr 0)]) (by decide +kernel) (by decide +kernel) rfl) ?_
  refine ev_go0 (ev_one_pure (M := ev_Mlaw) (pc := 773) (i := .aload_n 2) (len := 1) (pc' := 774) (lv' := [(6, .int (0)), (5, .int (1)), (4, .int (0)), (3, .ref 723), (2, .ref 621), (1, .ref 0), (0, .retAddr 0)]) (st' := [.ref 621]) (by decide +kernel) rfl) ?_
  refine ev_go0 (ev_p_virt (M := ev_Mlaw) (pc := 774) (x := 131) (mi := 220) (na := 0) (by decide +kernel) (by decide +kernel) (by decide +kernel) (by decide +kernel) rfl rfl (ev_recv_of (ev_hself ev_fH621)) ev_k26) ?_
  refine ev_go0 (ev_one_pure (M := ev_Mlaw) (pc := 777) (i := .iload 5) (len := 2) (pc' := 779) (lv' := [(6, .int (0)), (5, .int (1)), (4, .int (0)), (3, .ref 723), (2, .ref 621), (1, .ref 0), (0, .retAddr 0)]) (st' := [.int (1), .int (1)]) (by decide +kernel) rfl) ?_
  refine ev_go0 (ev_w_icmp (M := ev_Mlaw) (pc := 779) (q := .eq) (o := 5) (b := true) (t := 784) (by decide +kernel) (by decide +kernel) rfl) ?_
  refine ev_go0 (ev_one_pure (M := ev_Mlaw) (pc := 784) (i := .iload 5) (len := 2) (pc' := 786) (lv' := [(6, .int (0)), (5, .int (1)), (4, .int (0)), (3, .ref 723), (2, .ref 621), (1, .ref 0), (0, .retAddr 0)]) (st' := [.int (1)]) (by decide +kernel) rfl) ?_
  refine ev_go0 (ev_w_if (M := ev_Mlaw) (pc := 786) (q := .ne) (o := 15) (b := true) (t := 801) (by decide +kernel) (by decide +kernel) rfl) ?_
  refine ev_go0 (ev_one_pure (M := ev_Mlaw) (pc := 801) (i := .goto 1471) (len := 3) (pc' := 2272) (lv' := [(6, .int (0)), (5, .int (1)), (4, .int (0)), (3, .ref 723), (2, .ref 621), (1, .ref 0), (0, .retAddr 0)]) (st' := []) (by decide +kernel) rfl) ?_
  rfl
theorem ev_k102 {n : Nat} : ev_calld 9 1 [.ref 254, .int (1)] ev_H0 n = some (.inl (some (.ref 265)), ev_H0, n, 0, 0) := by
  refine ev_call_ref (k := 10) (pcR := 19) (lv' := [(0, .ref 254), (1, .int (1))]) (v := .ref 265) (C := "MendBench$Text") (by decide +kernel) rfl ?_ (by decide +kernel) (by decide +kernel) rfl (by decide)
  show ev_stepn _ 10 (0, [(0, .ref 254), (1, .int (1))], [], _, _, 0, 0) = _
  refine ev_go0 (ev_one_pure (M := (ev_Mof 1)) (pc := 0) (i := .iload_n 1) (len := 1) (pc' := 1) (lv' := [(0, .ref 254), (1, .int (1))]) (st' := [.int (1)]) (by decide +kernel) rfl) ?_
  refine ev_go0 (ev_w_if (M := (ev_Mof 1)) (pc := 1) (q := .lt) (o := 17) (b := false) (t := 4) (by decide +kernel) (by decide +kernel) rfl) ?_
  refine ev_go0 (ev_one_pure (M := (ev_Mof 1)) (pc := 4) (i := .iload_n 1) (len := 1) (pc' := 5) (lv' := [(0, .ref 254), (1, .int (1))]) (st' := [.int (1)]) (by decide +kernel) rfl) ?_
  refine ev_go0 (ev_w_iconst (M := (ev_Mof 1)) (pc := 5) (k := 3) (v := 3) (by decide +kernel) (by decide +kernel)) ?_
  refine ev_go0 (ev_w_icmp (M := (ev_Mof 1)) (pc := 6) (q := .ge) (o := 12) (b := false) (t := 9) (by decide +kernel) (by decide +kernel) rfl) ?_
  refine ev_go0 (ev_one_pure (M := (ev_Mof 1)) (pc := 9) (i := .aload_n 0) (len := 1) (pc' := 10) (lv' := [(0, .ref 254), (1, .int (1))]) (st' := [.ref 254]) (by decide +kernel) rfl) ?_
  refine ev_go0 (ev_p_getf (M := (ev_Mof 1)) (pc := 10) (x := 13) (ci := 0) (f := 0) (fin := 1) (v := .ref 255) (by decide +kernel) (by decide +kernel) ev_fH254 rfl) ?_
  refine ev_go0 (ev_one_pure (M := (ev_Mof 1)) (pc := 13) (i := .iload_n 1) (len := 1) (pc' := 14) (lv' := [(0, .ref 254), (1, .int (1))]) (st' := [.int (1), .ref 255]) (by decide +kernel) rfl) ?_
  refine ev_go0 (ev_w_aald (M := (ev_Mof 1)) (pc := 14) (C := "MendBench$Text") (v := .ref 265) (by decide +kernel) ev_fH255 (by decide +kernel) rfl) ?_
  refine ev_go0 (ev_one_pure (M := (ev_Mof 1)) (pc := 15) (i := .goto 4) (len := 3) (pc' := 19) (lv' := [(0, .ref 254), (1, .int (1))]) (st' := [.ref 265]) (by decide +kernel) rfl) ?_
  rfl
theorem ev_k103 (x1 : Int32) (hu_x1 : x1.toInt ≤ (-1 : Int)) (x3 : Int32) (x4 : Int32) {n : Nat} : ev_calld 10 203 [.ref 0, .int x1, .int (1), .int x3, .int x4] ev_H0 n = some (.inl (some (.int (0))), ev_H0, n, 0, 0) := by
  refine ev_call_int (k := 12) (pcR := 60) (lv' := [(6, .ref 265), (5, .null), (0, .ref 0), (1, .int x1), (2, .int (1)), (3, .int x3), (4, .int x4)]) (v := (0)) (ty := .boolean) (by decide +kernel) rfl ?_ (by decide +kernel) (by decide +kernel) (by decide +kernel) (by decide)
  show ev_stepn _ 12 (0, [(0, .ref 0), (1, .int x1), (2, .int (1)), (3, .int x3), (4, .int x4)], [], _, _, 0, 0) = _
  refine ev_go0 (ev_one_pure (M := (ev_Mof 203)) (pc := 0) (i := .aload_n 0) (len := 1) (pc' := 1) (lv' := [(0, .ref 0), (1, .int x1), (2, .int (1)), (3, .int x3), (4, .int x4)]) (st' := [.ref 0]) (by decide +kernel) rfl) ?_
  refine ev_go0 (ev_one_pure (M := (ev_Mof 203)) (pc := 1) (i := .iload_n 1) (len := 1) (pc' := 2) (lv' := [(0, .ref 0), (1, .int x1), (2, .int (1)), (3, .int x3), (4, .int x4)]) (st' := [.int x1, .ref 0]) (by decide +kernel) rfl) ?_
  refine ev_go0 (ev_p_virt (M := (ev_Mof 203)) (pc := 2) (x := 156) (mi := 200) (na := 1) (by decide +kernel) (by decide +kernel) (by decide +kernel) (by decide +kernel) rfl rfl (ev_recv_of ev_fH0) (ev_k91 x1 hu_x1)) ?_
  refine ev_go0 (ev_w_astore (M := (ev_Mof 203)) (pc := 5) (k := 5) (lv' := [(5, .null), (0, .ref 0), (1, .int x1), (2, .int (1)), (3, .int x3), (4, .int x4)]) (by decide +kernel) (by decide +kernel) (Or.inr (Or.inl rfl)) rfl) ?_
  refine ev_go0 (ev_one_pure (M := (ev_Mof 203)) (pc := 7) (i := .aload_n 0) (len := 1) (pc' := 8) (lv' := [(5, .null), (0, .ref 0), (1, .int x1), (2, .int (1)), (3, .int x3), (4, .int x4)]) (st' := [.ref 0]) (by decide +kernel) rfl) ?_
  refine ev_go0 (ev_p_getf (M := (ev_Mof 203)) (pc := 8) (x := 48) (ci := 12) (f := 8) (fin := 1) (v := .ref 254) (by decide +kernel) (by decide +kernel) ev_fH0 rfl) ?_
  refine ev_go0 (ev_one_pure (M := (ev_Mof 203)) (pc := 11) (i := .iload_n 2) (len := 1) (pc' := 12) (lv' := [(5, .null), (0, .ref 0), (1, .int x1), (2, .int (1)), (3, .int x3), (4, .int x4)]) (st' := [.int (1), .ref 254]) (by decide +kernel) rfl) ?_
  refine ev_go0 (ev_p_virt (M := (ev_Mof 203)) (pc := 12) (x := 221) (mi := 1) (na := 1) (by decide +kernel) (by decide +kernel) (by decide +kernel) (by decide +kernel) rfl rfl (ev_recv_of ev_fH254) ev_k102) ?_
  refine ev_go0 (ev_w_astore (M := (ev_Mof 203)) (pc := 15) (k := 6) (lv' := [(6, .ref 265), (5, .null), (0, .ref 0), (1, .int x1), (2, .int (1)), (3, .int x3), (4, .int x4)]) (by decide +kernel) (by decide +kernel) (Or.inl ⟨_, rfl⟩) rfl) ?_
  refine ev_go0 (ev_one_pure (M := (ev_Mof 203)) (pc := 17) (i := .aload 5) (len := 2) (pc' := 19) (lv' := [(6, .ref 265), (5, .null), (0, .ref 0), (1, .int x1), (2, .int (1)), (3, .int x3), (4, .int x4)]) (st' := [.null]) (by decide +kernel) rfl) ?_
  refine ev_go0 (ev_w_ifnull (M := (ev_Mof 203)) (pc := 19) (o := 40) (t := 59) (by decide +kernel) (Or.inl ⟨rfl, rfl⟩)) ?_
  refine ev_go0 (ev_w_iconst (M := (ev_Mof 203)) (pc := 59) (k := 0) (v := 0) (by decide +kernel) (by decide +kernel)) ?_
  rfl
theorem ev_k104 (x1 : Int32) (hu_x1 : x1.toInt ≤ (-1 : Int)) (x3 : Int32) (x4 : Int32) {n : Nat} : ev_calld 11 176 [.ref 0, .int x1, .int (1), .int x3, .int x4] ev_H0 n = some (.inr "java/lang/IndexOutOfBoundsException", ev_H0, n, 1, 6) := by
  refine ev_call_thrown (k := 7) (pcR := 12) (x := 160) (lv' := [(0, .ref 0), (1, .int x1), (2, .int (1)), (3, .int x3), (4, .int x4)]) (by decide +kernel) rfl ?_ (by decide +kernel) (by decide +kernel) (by decide +kernel) (by decide) (by decide)
  show ev_stepn _ 7 (0, [(0, .ref 0), (1, .int x1), (2, .int (1)), (3, .int x3), (4, .int x4)], [], _, _, 0, 0) = _
  refine ev_go0 (ev_one_pure (M := (ev_Mof 176)) (pc := 0) (i := .aload_n 0) (len := 1) (pc' := 1) (lv' := [(0, .ref 0), (1, .int x1), (2, .int (1)), (3, .int x3), (4, .int x4)]) (st' := [.ref 0]) (by decide +kernel) rfl) ?_
  refine ev_go0 (ev_one_pure (M := (ev_Mof 176)) (pc := 1) (i := .iload_n 1) (len := 1) (pc' := 2) (lv' := [(0, .ref 0), (1, .int x1), (2, .int (1)), (3, .int x3), (4, .int x4)]) (st' := [.int x1, .ref 0]) (by decide +kernel) rfl) ?_
  refine ev_go0 (ev_one_pure (M := (ev_Mof 176)) (pc := 2) (i := .iload_n 2) (len := 1) (pc' := 3) (lv' := [(0, .ref 0), (1, .int x1), (2, .int (1)), (3, .int x3), (4, .int x4)]) (st' := [.int (1), .int x1, .ref 0]) (by decide +kernel) rfl) ?_
  refine ev_go0 (ev_one_pure (M := (ev_Mof 176)) (pc := 3) (i := .iload_n 3) (len := 1) (pc' := 4) (lv' := [(0, .ref 0), (1, .int x1), (2, .int (1)), (3, .int x3), (4, .int x4)]) (st' := [.int x3, .int (1), .int x1, .ref 0]) (by decide +kernel) rfl) ?_
  refine ev_go0 (ev_one_pure (M := (ev_Mof 176)) (pc := 4) (i := .iload 4) (len := 2) (pc' := 6) (lv' := [(0, .ref 0), (1, .int x1), (2, .int (1)), (3, .int x3), (4, .int x4)]) (st' := [.int x4, .int x3, .int (1), .int x1, .ref 0]) (by decide +kernel) rfl) ?_
  refine ev_go0 (ev_p_virt (M := (ev_Mof 176)) (pc := 6) (x := 205) (mi := 203) (na := 4) (by decide +kernel) (by decide +kernel) (by decide +kernel) (by decide +kernel) rfl rfl (ev_recv_of ev_fH0) (ev_k103 x1 hu_x1 x3 x4)) ?_
  refine ev_go0 (ev_w_if (M := (ev_Mof 176)) (pc := 9) (q := .ne) (o := 13) (b := false) (t := 12) (by decide +kernel) (by decide +kernel) rfl) ?_
  rfl
theorem ev_k105 (x1 : Int32) (hu_x1 : x1.toInt ≤ (-1 : Int)) (x3 : Int32) (x4 : Int32) {n : Nat} : ev_calld 12 373 [.ref 0, .int x1, .int (1), .int x3, .int x4, .ref 723] ev_H0 n = some (.inl (some (.int (1))), ev_H0, n, 1, 6) := by
  refine ev_call_int (k := 10) (pcR := 20) (lv' := [(6, .retAddr 1), (0, .ref 0), (1, .int x1), (2, .int (1)), (3, .int x3), (4, .int x4), (5, .ref 723)]) (v := (1)) (ty := .int) (by decide +kernel) rfl ?_ (by decide +kernel) (by decide +kernel) (by decide +kernel) (by decide)
  show ev_stepn _ 10 (0, [(0, .ref 0), (1, .int x1), (2, .int (1)), (3, .int x3), (4, .int x4), (5, .ref 723)], [], _, _, 0, 0) = _
  refine ev_go0 (ev_one_pure (M := (ev_Mof 373)) (pc := 0) (i := .aload 5) (len := 2) (pc' := 2) (lv' := [(0, .ref 0), (1, .int x1), (2, .int (1)), (3, .int x3), (4, .int x4), (5, .ref 723)]) (st' := [.ref 723]) (by decide +kernel) rfl) ?_
  refine ev_go0 (ev_w_iconst (M := (ev_Mof 373)) (pc := 2) (k := 0) (v := 0) (by decide +kernel) (by decide +kernel)) ?_
  refine ev_go0 (ev_one_pure (M := (ev_Mof 373)) (pc := 3) (i := .aload_n 0) (len := 1) (pc' := 4) (lv' := [(0, .ref 0), (1, .int x1), (2, .int (1)), (3, .int x3), (4, .int x4), (5, .ref 723)]) (st' := [.ref 0, .int (0), .ref 723]) (by decide +kernel) rfl) ?_
  refine ev_go0 (ev_one_pure (M := (ev_Mof 373)) (pc := 4) (i := .iload_n 1) (len := 1) (pc' := 5) (lv' := [(0, .ref 0), (1, .int x1), (2, .int (1)), (3, .int x3), (4, .int x4), (5, .ref 723)]) (st' := [.int x1, .ref 0, .int (0), .ref 723]) (by decide +kernel) rfl) ?_
  refine ev_go0 (ev_one_pure (M := (ev_Mof 373)) (pc := 5) (i := .iload_n 2) (len := 1) (pc' := 6) (lv' := [(0, .ref 0), (1, .int x1), (2, .int (1)), (3, .int x3), (4, .int x4), (5, .ref 723)]) (st' := [.int (1), .int x1, .ref 0, .int (0), .ref 723]) (by decide +kernel) rfl) ?_
  refine ev_go0 (ev_one_pure (M := (ev_Mof 373)) (pc := 6) (i := .iload_n 3) (len := 1) (pc' := 7) (lv' := [(0, .ref 0), (1, .int x1), (2, .int (1)), (3, .int x3), (4, .int x4), (5, .ref 723)]) (st' := [.int x3, .int (1), .int x1, .ref 0, .int (0), .ref 723]) (by decide +kernel) rfl) ?_
  refine ev_go0 (ev_one_pure (M := (ev_Mof 373)) (pc := 7) (i := .iload 4) (len := 2) (pc' := 9) (lv' := [(0, .ref 0), (1, .int x1), (2, .int (1)), (3, .int x3), (4, .int x4), (5, .ref 723)]) (st' := [.int x4, .int x3, .int (1), .int x1, .ref 0, .int (0), .ref 723]) (by decide +kernel) rfl) ?_
  refine ev_go (ev_p_virtX (M := (ev_Mof 373)) (pc := 9) (x := 46) (t := 17) (mi := 176) (na := 4) (by decide +kernel) (by decide +kernel) (by decide +kernel) (by decide +kernel) rfl rfl (ev_recv_of ev_fH0) (ev_k104 x1 hu_x1 x3 x4) (by decide +kernel)) ?_
  refine ev_go0 (ev_w_astore (M := (ev_Mof 373)) (pc := 17) (k := 6) (lv' := [(6, .retAddr 1), (0, .ref 0), (1, .int x1), (2, .int (1)), (3, .int x3), (4, .int x4), (5, .ref 723)]) (by decide +kernel) (by decide +kernel) (Or.inr (Or.inr ⟨_, rfl⟩)) rfl) ?_
  refine ev_go0 (ev_w_iconst (M := (ev_Mof 373)) (pc := 19) (k := 1) (v := 1) (by decide +kernel) (by decide +kernel)) ?_
  rfl
theorem ev_k106 (x1 : Int32) (hu_x1 : x1.toInt ≤ (-1 : Int)) (x3 : Int32) (x4 : Int32) {n : Nat} : ev_calld 12 328 [.ref 621, .int x1, .int (1), .int x3, .int x4] ev_H0 n = some (.inl (some (.int (0))), (ev_H0.set 621 (.inr (13, (ev_F621.set 0 (.int (1)))))), n, 0, 0) := by
  refine ev_call_int (k := 11) (pcR := 49) (lv' := [(0, .ref 621), (1, .int x1), (2, .int (1)), (3, .int x3), (4, .int x4)]) (v := (0)) (ty := .int) (by decide +kernel) rfl ?_ (by decide +kernel) (by decide +kernel) (by decide +kernel) (by decide)
  show ev_stepn _ 11 (0, [(0, .ref 621), (1, .int x1), (2, .int (1)), (3, .int x3), (4, .int x4)], [], _, _, 0, 0) = _
  refine ev_go0 (ev_one_pure (M := (ev_Mof 328)) (pc := 0) (i := .aload_n 0) (len := 1) (pc' := 1) (lv' := [(0, .ref 621), (1, .int x1), (2, .int (1)), (3, .int x3), (4, .int x4)]) (st' := [.ref 621]) (by decide +kernel) rfl) ?_
  refine ev_go0 (ev_one_pure (M := (ev_Mof 328)) (pc := 1) (i := .aload_n 0) (len := 1) (pc' := 2) (lv' := [(0, .ref 621), (1, .int x1), (2, .int (1)), (3, .int x3), (4, .int x4)]) (st' := [.ref 621, .ref 621]) (by decide +kernel) rfl) ?_
  refine ev_go0 (ev_one_pure (M := (ev_Mof 328)) (pc := 2) (i := .iload_n 1) (len := 1) (pc' := 3) (lv' := [(0, .ref 621), (1, .int x1), (2, .int (1)), (3, .int x3), (4, .int x4)]) (st' := [.int x1, .ref 621, .ref 621]) (by decide +kernel) rfl) ?_
  refine ev_go0 (ev_p_virt (M := (ev_Mof 328)) (pc := 3) (x := 531) (mi := 273) (na := 1) (by decide +kernel) (by decide +kernel) (by decide +kernel) (by decide +kernel) rfl rfl (ev_recv_of ev_fH621) (ev_k24 x1 hu_x1)) ?_
  refine ev_go0 (ev_w_if (M := (ev_Mof 328)) (pc := 6) (q := .eq) (o := 31) (b := true) (t := 37) (by decide +kernel) (by decide +kernel) rfl) ?_
  refine ev_go0 (ev_w_iconst (M := (ev_Mof 328)) (pc := 37) (k := 1) (v := 1) (by decide +kernel) (by decide +kernel)) ?_
  refine ev_go0 (ev_p_putf (M := (ev_Mof 328)) (pc := 38) (x := 321) (ci := 13) (f := 0) (by decide +kernel) (by decide +kernel) ev_fH621 rfl (by decide +kernel)) ?_
  refine ev_go0 (ev_one_pure (M := (ev_Mof 328)) (pc := 41) (i := .aload_n 0) (len := 1) (pc' := 42) (lv' := [(0, .ref 621), (1, .int x1), (2, .int (1)), (3, .int x3), (4, .int x4)]) (st' := [.ref 621]) (by decide +kernel) rfl) ?_
  refine ev_go0 (ev_p_getf (M := (ev_Mof 328)) (pc := 42) (x := 321) (ci := 13) (f := 0) (fin := 0) (v := .int (1)) (by decide +kernel) (by decide +kernel) (ev_hself ev_fH621) rfl) ?_
  refine ev_go0 (ev_w_if (M := (ev_Mof 328)) (pc := 45) (q := .le) (o := 5) (b := false) (t := 48) (by decide +kernel) (by decide +kernel) rfl) ?_
  refine ev_go0 (ev_w_iconst (M := (ev_Mof 328)) (pc := 48) (k := 0) (v := 0) (by decide +kernel) (by decide +kernel)) ?_
  rfl
theorem ev_p1_10_n1 (xs : Nat → Int32) (x1 : Int32) (hu_x1 : x1.toInt ≤ (-1 : Int)) (x3 : Int32) (x4 : Int32) (e1 : xs 1 = x1) (e2 : xs 2 = (1)) (e3 : xs 3 = x3) (e4 : xs 4 = x4) : ev_P1 xs 712 := by
  refine ⟨54, [(6, .int (0)), (5, .int (1)), (4, .int (0)), (3, .ref 723), (2, .ref 621), (1, .ref 0), (0, .retAddr 0)], (ev_H0.set 621 (.inr (13, (ev_F621.set 0 (.int (1)))))), 724, 725, 3553592, ?_, ⟨rfl, rfl, rfl, rfl⟩, rfl, by decide, by decide⟩
  show ev_stepn _ _ (712, [(4, .int (0)), (3, .ref 723), (2, .ref 621), (1, .ref 0), (0, .retAddr 0)], [], _, _, _, _) = _
  refine ev_go0 (ev_one_pure (M := ev_Mlaw) (pc := 712) (i := .aload_n 1) (len := 1) (pc' := 713) (lv' := [(4, .int (0)), (3, .ref 723), (2, .ref 621), (1, .ref 0), (0, .retAddr 0)]) (st' := [.ref 0]) (by decide +kernel) rfl) ?_
  refine ev_go0 (ev_one_pure (M := ev_Mlaw) (pc := 713) (i := .aload_n 0) (len := 1) (pc' := 714) (lv' := [(4, .int (0)), (3, .ref 723), (2, .ref 621), (1, .ref 0), (0, .retAddr 0)]) (st' := [.retAddr 0, .ref 0]) (by decide +kernel) rfl) ?_
  refine ev_go0 (ev_one_pure (M := ev_Mlaw) (pc := 714) (i := .iload 4) (len := 2) (pc' := 716) (lv' := [(4, .int (0)), (3, .ref 723), (2, .ref 621), (1, .ref 0), (0, .retAddr 0)]) (st' := [.int (0), .retAddr 0, .ref 0]) (by decide +kernel) rfl) ?_
  refine ev_go0 (ev_w_iconst (M := ev_Mlaw) (pc := 716) (k := 1) (v := 1) (by decide +kernel) (by decide +kernel)) ?_
  refine ev_go0 (ev_w_iadd (M := ev_Mlaw) (pc := 717) (v := (1)) (by decide +kernel) (by decide +kernel)) ?_
  refine ev_go0 (ev_w_scr (M := ev_Mlaw) (pc := 718) (v := x1) (j := 1) (by decide +kernel) (by decide +kernel) (by decide +kernel) e1) ?_
  refine ev_go0 (ev_one_pure (M := ev_Mlaw) (pc := 719) (i := .aload_n 0) (len := 1) (pc' := 720) (lv' := [(4, .int (0)), (3, .ref 723), (2, .ref 621), (1, .ref 0), (0, .retAddr 0)]) (st' := [.retAddr 0, .int x1, .ref 0]) (by decide +kernel) rfl) ?_
  refine ev_go0 (ev_one_pure (M := ev_Mlaw) (pc := 720) (i := .iload 4) (len := 2) (pc' := 722) (lv' := [(4, .int (0)), (3, .ref 723), (2, .ref 621), (1, .ref 0), (0, .retAddr 0)]) (st' := [.int (0), .retAddr 0, .int x1, .ref 0]) (by decide +kernel) rfl) ?_
  refine ev_go0 (ev_w_iconst (M := ev_Mlaw) (pc := 722) (k := 2) (v := 2) (by decide +kernel) (by decide +kernel)) ?_
  refine ev_go0 (ev_w_iadd (M := ev_Mlaw) (pc := 723) (v := (2)) (by decide +kernel) (by decide +kernel)) ?_
  refine ev_go0 (ev_w_scr (M := ev_Mlaw) (pc := 724) (v := (1)) (j := 2) (by decide +kernel) (by decide +kernel) (by decide +kernel) e2) ?_
  refine ev_go0 (ev_one_pure (M := ev_Mlaw) (pc := 725) (i := .aload_n 0) (len := 1) (pc' := 726) (lv' := [(4, .int (0)), (3, .ref 723), (2, .ref 621), (1, .ref 0), (0, .retAddr 0)]) (st' := [.retAddr 0, .int (1), .int x1, .ref 0]) (by decide +kernel) rfl) ?_
  refine ev_go0 (ev_one_pure (M := ev_Mlaw) (pc := 726) (i := .iload 4) (len := 2) (pc' := 728) (lv' := [(4, .int (0)), (3, .ref 723), (2, .ref 621), (1, .ref 0), (0, .retAddr 0)]) (st' := [.int (0), .retAddr 0, .int (1), .int x1, .ref 0]) (by decide +kernel) rfl) ?_
  refine ev_go0 (ev_w_iconst (M := ev_Mlaw) (pc := 728) (k := 3) (v := 3) (by decide +kernel) (by decide +kernel)) ?_
  refine ev_go0 (ev_w_iadd (M := ev_Mlaw) (pc := 729) (v := (3)) (by decide +kernel) (by decide +kernel)) ?_
  refine ev_go0 (ev_w_scr (M := ev_Mlaw) (pc := 730) (v := x3) (j := 3) (by decide +kernel) (by decide +kernel) (by decide +kernel) e3) ?_
  refine ev_go0 (ev_one_pure (M := ev_Mlaw) (pc := 731) (i := .aload_n 0) (len := 1) (pc' := 732) (lv' := [(4, .int (0)), (3, .ref 723), (2, .ref 621), (1, .ref 0), (0, .retAddr 0)]) (st' := [.retAddr 0, .int x3, .int (1), .int x1, .ref 0]) (by decide +kernel) rfl) ?_
  refine ev_go0 (ev_one_pure (M := ev_Mlaw) (pc := 732) (i := .iload 4) (len := 2) (pc' := 734) (lv' := [(4, .int (0)), (3, .ref 723), (2, .ref 621), (1, .ref 0), (0, .retAddr 0)]) (st' := [.int (0), .retAddr 0, .int x3, .int (1), .int x1, .ref 0]) (by decide +kernel) rfl) ?_
  refine ev_go0 (ev_w_iconst (M := ev_Mlaw) (pc := 734) (k := 4) (v := 4) (by decide +kernel) (by decide +kernel)) ?_
  refine ev_go0 (ev_w_iadd (M := ev_Mlaw) (pc := 735) (v := (4)) (by decide +kernel) (by decide +kernel)) ?_
  refine ev_go0 (ev_w_scr (M := ev_Mlaw) (pc := 736) (v := x4) (j := 4) (by decide +kernel) (by decide +kernel) (by decide +kernel) e4) ?_
  refine ev_go0 (ev_one_pure (M := ev_Mlaw) (pc := 737) (i := .aload_n 3) (len := 1) (pc' := 738) (lv' := [(4, .int (0)), (3, .ref 723), (2, .ref 621), (1, .ref 0), (0, .retAddr 0)]) (st' := [.ref 723, .int x4, .int x3, .int (1), .int x1, .ref 0]) (by decide +kernel) rfl) ?_
  refine ev_go (ev_w_stat (M := ev_Mlaw) (pc := 738) (y := 164) (kind := 8) (Or.inr (Or.inr rfl)) (mi := 373) (na := 6) (by decide +kernel) (by decide +kernel) (by decide +kernel) (by decide +kernel) rfl rfl (ev_k105 x1 hu_x1 x3 x4)) ?_
  refine ev_go0 (ev_w_istore (M := ev_Mlaw) (pc := 741) (k := 5) (lv' := [(5, .int (1)), (4, .int (0)), (3, .ref 723), (2, .ref 621), (1, .ref 0), (0, .retAddr 0)]) (by decide +kernel) (by decide +kernel) rfl) ?_
  refine ev_go0 (ev_one_pure (M := ev_Mlaw) (pc := 743) (i := .aload_n 2) (len := 1) (pc' := 744) (lv' := [(5, .int (1)), (4, .int (0)), (3, .ref 723), (2, .ref 621), (1, .ref 0), (0, .retAddr 0)]) (st' := [.ref 621]) (by decide +kernel) rfl) ?_
  refine ev_go0 (ev_one_pure (M := ev_Mlaw) (pc := 744) (i := .aload_n 0) (len := 1) (pc' := 745) (lv' := [(5, .int (1)), (4, .int (0)), (3, .ref 723), (2, .ref 621), (1, .ref 0), (0, .retAddr 0)]) (st' := [.retAddr 0, .ref 621]) (by decide +kernel) rfl) ?_
  refine ev_go0 (ev_one_pure (M := ev_Mlaw) (pc := 745) (i := .iload 4) (len := 2) (pc' := 747) (lv' := [(5, .int (1)), (4, .int (0)), (3, .ref 723), (2, .ref 621), (1, .ref 0), (0, .retAddr 0)]) (st' := [.int (0), .retAddr 0, .ref 621]) (by decide +kernel) rfl) ?_
  refine ev_go0 (ev_w_iconst (M := ev_Mlaw) (pc := 747) (k := 1) (v := 1) (by decide +kernel) (by decide +kernel)) ?_
  refine ev_go0 (ev_w_iadd (M := ev_Mlaw) (pc := 748) (v := (1)) (by decide +kernel) (by decide +kernel)) ?_
  refine ev_go0 (ev_w_scr (M := ev_Mlaw) (pc := 749) (v := x1) (j := 1) (by decide +kernel) (by decide +kernel) (by decide +kernel) e1) ?_
  refine ev_go0 (ev_one_pure (M := ev_Mlaw) (pc := 750) (i := .aload_n 0) (len := 1) (pc' := 751) (lv' := [(5, .int (1)), (4, .int (0)), (3, .ref 723), (2, .ref 621), (1, .ref 0), (0, .retAddr 0)]) (st' := [.retAddr 0, .int x1, .ref 621]) (by decide +kernel) rfl) ?_
  refine ev_go0 (ev_one_pure (M := ev_Mlaw) (pc := 751) (i := .iload 4) (len := 2) (pc' := 753) (lv' := [(5, .int (1)), (4, .int (0)), (3, .ref 723), (2, .ref 621), (1, .ref 0), (0, .retAddr 0)]) (st' := [.int (0), .retAddr 0, .int x1, .ref 621]) (by decide +kernel) rfl) ?_
  refine ev_go0 (ev_w_iconst (M := ev_Mlaw) (pc := 753) (k := 2) (v := 2) (by decide +kernel) (by decide +kernel)) ?_
  refine ev_go0 (ev_w_iadd (M := ev_Mlaw) (pc := 754) (v := (2)) (by decide +kernel) (by decide +kernel)) ?_
  refine ev_go0 (ev_w_scr (M := ev_Mlaw) (pc := 755) (v := (1)) (j := 2) (by decide +kernel) (by decide +kernel) (by decide +kernel) e2) ?_
  refine ev_go0 (ev_one_pure (M := ev_Mlaw) (pc := 756) (i := .aload_n 0) (len := 1) (pc' := 757) (lv' := [(5, .int (1)), (4, .int (0)), (3, .ref 723), (2, .ref 621), (1, .ref 0), (0, .retAddr 0)]) (st' := [.retAddr 0, .int (1), .int x1, .ref 621]) (by decide +kernel) rfl) ?_
  refine ev_go0 (ev_one_pure (M := ev_Mlaw) (pc := 757) (i := .iload 4) (len := 2) (pc' := 759) (lv' := [(5, .int (1)), (4, .int (0)), (3, .ref 723), (2, .ref 621), (1, .ref 0), (0, .retAddr 0)]) (st' := [.int (0), .retAddr 0, .int (1), .int x1, .ref 621]) (by decide +kernel) rfl) ?_
  refine ev_go0 (ev_w_iconst (M := ev_Mlaw) (pc := 759) (k := 3) (v := 3) (by decide +kernel) (by decide +kernel)) ?_
  refine ev_go0 (ev_w_iadd (M := ev_Mlaw) (pc := 760) (v := (3)) (by decide +kernel) (by decide +kernel)) ?_
  refine ev_go0 (ev_w_scr (M := ev_Mlaw) (pc := 761) (v := x3) (j := 3) (by decide +kernel) (by decide +kernel) (by decide +kernel) e3) ?_
  refine ev_go0 (ev_one_pure (M := ev_Mlaw) (pc := 762) (i := .aload_n 0) (len := 1) (pc' := 763) (lv' := [(5, .int (1)), (4, .int (0)), (3, .ref 723), (2, .ref 621), (1, .ref 0), (0, .retAddr 0)]) (st' := [.retAddr 0, .int x3, .int (1), .int x1, .ref 621]) (by decide +kernel) rfl) ?_
  refine ev_go0 (ev_one_pure (M := ev_Mlaw) (pc := 763) (i := .iload 4) (len := 2) (pc' := 765) (lv' := [(5, .int (1)), (4, .int (0)), (3, .ref 723), (2, .ref 621), (1, .ref 0), (0, .retAddr 0)]) (st' := [.int (0), .retAddr 0, .int x3, .int (1), .int x1, .ref 621]) (by decide +kernel) rfl) ?_
  refine ev_go0 (ev_w_iconst (M := ev_Mlaw) (pc := 765) (k := 4) (v := 4) (by decide +kernel) (by decide +kernel)) ?_
  refine ev_go0 (ev_w_iadd (M := ev_Mlaw) (pc := 766) (v := (4)) (by decide +kernel) (by decide +kernel)) ?_
  refine ev_go0 (ev_w_scr (M := ev_Mlaw) (pc := 767) (v := x4) (j := 4) (by decide +kernel) (by decide +kernel) (by decide +kernel) e4) ?_
  refine ev_go0 (ev_p_virt (M := ev_Mlaw) (pc := 768) (x := 167) (mi := 328) (na := 4) (by decide +kernel) (by decide +kernel) (by decide +kernel) (by decide +kernel) rfl rfl (ev_recv_of ev_fH621) (ev_k106 x1 hu_x1 x3 x4)) ?_
  refine ev_go0 (ev_w_istore (M := ev_Mlaw) (pc := 771) (k := 6) (lv' := [(6, .int (0)), (5, .int (1)), (4, .int (0)), (3, .ref 723), (2, .ref 621), (1, .ref 0), (0, .retAddr 0)]) (by decide +kernel) (by decide +kernel) rfl) ?_
  refine ev_go0 (ev_one_pure (M := ev_Mlaw) (pc := 773) (i := .aload_n 2) (len := 1) (pc' := 774) (lv' := [(6, .int (0)), (5, .int (1)), (4, .int (0)), (3, .ref 723), (2, .ref 621), (1, .ref 0), (0, .retAddr 0)]) (st' := [.ref 621]) (by decide +kernel) rfl) ?_
  refine ev_go0 (ev_p_virt (M := ev_Mlaw) (pc := 774) (x := 131) (mi := 220) (na := 0) (by decide +kernel) (by decide +kernel) (by decide +kernel) (by decide +kernel) rfl rfl (ev_recv_of (ev_hself ev_fH621)) ev_k26) ?_
  refine ev_go0 (ev_one_pure (M := ev_Mlaw) (pc := 777) (i := .iload 5) (len := 2) (pc' := 779) (lv' := [(6, .int (0)), (5, .int (1)), (4, .int (0)), (3, .ref 723), (2, .ref 621), (1, .ref 0), (0, .retAddr 0)]) (st' := [.int (1), .int (1)]) (by decide +kernel) rfl) ?_
  refine ev_go0 (ev_w_icmp (M := ev_Mlaw) (pc := 779) (q := .eq) (o := 5) (b := true) (t := 784) (by decide +kernel) (by decide +kernel) rfl) ?_
  refine ev_go0 (ev_one_pure (M := ev_Mlaw) (pc := 784) (i := .iload 5) (len := 2) (pc' := 786) (lv' := [(6, .int (0)), (5, .int (1)), (4, .int (0)), (3, .ref 723), (2, .ref 621), (1, .ref 0), (0, .retAddr 0)]) (st' := [.int (1)]) (by decide +kernel) rfl) ?_
  refine ev_go0 (ev_w_if (M := ev_Mlaw) (pc := 786) (q := .ne) (o := 15) (b := true) (t := 801) (by decide +kernel) (by decide +kernel) rfl) ?_
  refine ev_go0 (ev_one_pure (M := ev_Mlaw) (pc := 801) (i := .goto 1471) (len := 3) (pc' := 2272) (lv' := [(6, .int (0)), (5, .int (1)), (4, .int (0)), (3, .ref 723), (2, .ref 621), (1, .ref 0), (0, .retAddr 0)]) (st' := []) (by decide +kernel) rfl) ?_
  rfl
theorem ev_k107 {n : Nat} : ev_calld 9 1 [.ref 254, .int (2)] ev_H0 n = some (.inl (some (.ref 267)), ev_H0, n, 0, 0) := by
  refine ev_call_ref (k := 10) (pcR := 19) (lv' := [(0, .ref 254), (1, .int (2))]) (v := .ref 267) (C := "MendBench$Text") (by decide +kernel) rfl ?_ (by decide +kernel) (by decide +kernel) rfl (by decide)
  show ev_stepn _ 10 (0, [(0, .ref 254), (1, .int (2))], [], _, _, 0, 0) = _
  refine ev_go0 (ev_one_pure (M := (ev_Mof 1)) (pc := 0) (i := .iload_n 1) (len := 1) (pc' := 1) (lv' := [(0, .ref 254), (1, .int (2))]) (st' := [.int (2)]) (by decide +kernel) rfl) ?_
  refine ev_go0 (ev_w_if (M := (ev_Mof 1)) (pc := 1) (q := .lt) (o := 17) (b := false) (t := 4) (by decide +kernel) (by decide +kernel) rfl) ?_
  refine ev_go0 (ev_one_pure (M := (ev_Mof 1)) (pc := 4) (i := .iload_n 1) (len := 1) (pc' := 5) (lv' := [(0, .ref 254), (1, .int (2))]) (st' := [.int (2)]) (by decide +kernel) rfl) ?_
  refine ev_go0 (ev_w_iconst (M := (ev_Mof 1)) (pc := 5) (k := 3) (v := 3) (by decide +kernel) (by decide +kernel)) ?_
  refine ev_go0 (ev_w_icmp (M := (ev_Mof 1)) (pc := 6) (q := .ge) (o := 12) (b := false) (t := 9) (by decide +kernel) (by decide +kernel) rfl) ?_
  refine ev_go0 (ev_one_pure (M := (ev_Mof 1)) (pc := 9) (i := .aload_n 0) (len := 1) (pc' := 10) (lv' := [(0, .ref 254), (1, .int (2))]) (st' := [.ref 254]) (by decide +kernel) rfl) ?_
  refine ev_go0 (ev_p_getf (M := (ev_Mof 1)) (pc := 10) (x := 13) (ci := 0) (f := 0) (fin := 1) (v := .ref 255) (by decide +kernel) (by decide +kernel) ev_fH254 rfl) ?_
  refine ev_go0 (ev_one_pure (M := (ev_Mof 1)) (pc := 13) (i := .iload_n 1) (len := 1) (pc' := 14) (lv' := [(0, .ref 254), (1, .int (2))]) (st' := [.int (2), .ref 255]) (by decide +kernel) rfl) ?_
  refine ev_go0 (ev_w_aald (M := (ev_Mof 1)) (pc := 14) (C := "MendBench$Text") (v := .ref 267) (by decide +kernel) ev_fH255 (by decide +kernel) rfl) ?_
  refine ev_go0 (ev_one_pure (M := (ev_Mof 1)) (pc := 15) (i := .goto 4) (len := 3) (pc' := 19) (lv' := [(0, .ref 254), (1, .int (2))]) (st' := [.ref 267]) (by decide +kernel) rfl) ?_
  rfl
theorem ev_k108 (x1 : Int32) (hu_x1 : x1.toInt ≤ (-1 : Int)) (x3 : Int32) (x4 : Int32) {n : Nat} : ev_calld 10 203 [.ref 0, .int x1, .int (2), .int x3, .int x4] ev_H0 n = some (.inl (some (.int (0))), ev_H0, n, 0, 0) := by
  refine ev_call_int (k := 12) (pcR := 60) (lv' := [(6, .ref 267), (5, .null), (0, .ref 0), (1, .int x1), (2, .int (2)), (3, .int x3), (4, .int x4)]) (v := (0)) (ty := .boolean) (by decide +kernel) rfl ?_ (by decide +kernel) (by decide +kernel) (by decide +kernel) (by decide)
  show ev_stepn _ 12 (0, [(0, .ref 0), (1, .int x1), (2, .int (2)), (3, .int x3), (4, .int x4)], [], _, _, 0, 0) = _
  refine ev_go0 (ev_one_pure (M := (ev_Mof 203)) (pc := 0) (i := .aload_n 0) (len := 1) (pc' := 1) (lv' := [(0, .ref 0), (1, .int x1), (2, .int (2)), (3, .int x3), (4, .int x4)]) (st' := [.ref 0]) (by decide +kernel) rfl) ?_
  refine ev_go0 (ev_one_pure (M := (ev_Mof 203)) (pc := 1) (i := .iload_n 1) (len := 1) (pc' := 2) (lv' := [(0, .ref 0), (1, .int x1), (2, .int (2)), (3, .int x3), (4, .int x4)]) (st' := [.int x1, .ref 0]) (by decide +kernel) rfl) ?_
  refine ev_go0 (ev_p_virt (M := (ev_Mof 203)) (pc := 2) (x := 156) (mi := 200) (na := 1) (by decide +kernel) (by decide +kernel) (by decide +kernel) (by decide +kernel) rfl rfl (ev_recv_of ev_fH0) (ev_k91 x1 hu_x1)) ?_
  refine ev_go0 (ev_w_astore (M := (ev_Mof 203)) (pc := 5) (k := 5) (lv' := [(5, .null), (0, .ref 0), (1, .int x1), (2, .int (2)), (3, .int x3), (4, .int x4)]) (by decide +kernel) (by decide +kernel) (Or.inr (Or.inl rfl)) rfl) ?_
  refine ev_go0 (ev_one_pure (M := (ev_Mof 203)) (pc := 7) (i := .aload_n 0) (len := 1) (pc' := 8) (lv' := [(5, .null), (0, .ref 0), (1, .int x1), (2, .int (2)), (3, .int x3), (4, .int x4)]) (st' := [.ref 0]) (by decide +kernel) rfl) ?_
  refine ev_go0 (ev_p_getf (M := (ev_Mof 203)) (pc := 8) (x := 48) (ci := 12) (f := 8) (fin := 1) (v := .ref 254) (by decide +kernel) (by decide +kernel) ev_fH0 rfl) ?_
  refine ev_go0 (ev_one_pure (M := (ev_Mof 203)) (pc := 11) (i := .iload_n 2) (len := 1) (pc' := 12) (lv' := [(5, .null), (0, .ref 0), (1, .int x1), (2, .int (2)), (3, .int x3), (4, .int x4)]) (st' := [.int (2), .ref 254]) (by decide +kernel) rfl) ?_
  refine ev_go0 (ev_p_virt (M := (ev_Mof 203)) (pc := 12) (x := 221) (mi := 1) (na := 1) (by decide +kernel) (by decide +kernel) (by decide +kernel) (by decide +kernel) rfl rfl (ev_recv_of ev_fH254) ev_k107) ?_
  refine ev_go0 (ev_w_astore (M := (ev_Mof 203)) (pc := 15) (k := 6) (lv' := [(6, .ref 267), (5, .null), (0, .ref 0), (1, .int x1), (2, .int (2)), (3, .int x3), (4, .int x4)]) (by decide +kernel) (by decide +kernel) (Or.inl ⟨_, rfl⟩) rfl) ?_
  refine ev_go0 (ev_one_pure (M := (ev_Mof 203)) (pc := 17) (i := .aload 5) (len := 2) (pc' := 19) (lv' := [(6, .ref 267), (5, .null), (0, .ref 0), (1, .int x1), (2, .int (2)), (3, .int x3), (4, .int x4)]) (st' := [.null]) (by decide +kernel) rfl) ?_
  refine ev_go0 (ev_w_ifnull (M := (ev_Mof 203)) (pc := 19) (o := 40) (t := 59) (by decide +kernel) (Or.inl ⟨rfl, rfl⟩)) ?_
  refine ev_go0 (ev_w_iconst (M := (ev_Mof 203)) (pc := 59) (k := 0) (v := 0) (by decide +kernel) (by decide +kernel)) ?_
  rfl
theorem ev_k109 (x1 : Int32) (hu_x1 : x1.toInt ≤ (-1 : Int)) (x3 : Int32) (x4 : Int32) {n : Nat} : ev_calld 11 176 [.ref 0, .int x1, .int (2), .int x3, .int x4] ev_H0 n = some (.inr "java/lang/IndexOutOfBoundsException", ev_H0, n, 1, 6) := by
  refine ev_call_thrown (k := 7) (pcR := 12) (x := 160) (lv' := [(0, .ref 0), (1, .int x1), (2, .int (2)), (3, .int x3), (4, .int x4)]) (by decide +kernel) rfl ?_ (by decide +kernel) (by decide +kernel) (by decide +kernel) (by decide) (by decide)
  show ev_stepn _ 7 (0, [(0, .ref 0), (1, .int x1), (2, .int (2)), (3, .int x3), (4, .int x4)], [], _, _, 0, 0) = _
  refine ev_go0 (ev_one_pure (M := (ev_Mof 176)) (pc := 0) (i := .aload_n 0) (len := 1) (pc' := 1) (lv' := [(0, .ref 0), (1, .int x1), (2, .int (2)), (3, .int x3), (4, .int x4)]) (st' := [.ref 0]) (by decide +kernel) rfl) ?_
  refine ev_go0 (ev_one_pure (M := (ev_Mof 176)) (pc := 1) (i := .iload_n 1) (len := 1) (pc' := 2) (lv' := [(0, .ref 0), (1, .int x1), (2, .int (2)), (3, .int x3), (4, .int x4)]) (st' := [.int x1, .ref 0]) (by decide +kernel) rfl) ?_
  refine ev_go0 (ev_one_pure (M := (ev_Mof 176)) (pc := 2) (i := .iload_n 2) (len := 1) (pc' := 3) (lv' := [(0, .ref 0), (1, .int x1), (2, .int (2)), (3, .int x3), (4, .int x4)]) (st' := [.int (2), .int x1, .ref 0]) (by decide +kernel) rfl) ?_
  refine ev_go0 (ev_one_pure (M := (ev_Mof 176)) (pc := 3) (i := .iload_n 3) (len := 1) (pc' := 4) (lv' := [(0, .ref 0), (1, .int x1), (2, .int (2)), (3, .int x3), (4, .int x4)]) (st' := [.int x3, .int (2), .int x1, .ref 0]) (by decide +kernel) rfl) ?_
  refine ev_go0 (ev_one_pure (M := (ev_Mof 176)) (pc := 4) (i := .iload 4) (len := 2) (pc' := 6) (lv' := [(0, .ref 0), (1, .int x1), (2, .int (2)), (3, .int x3), (4, .int x4)]) (st' := [.int x4, .int x3, .int (2), .int x1, .ref 0]) (by decide +kernel) rfl) ?_
  refine ev_go0 (ev_p_virt (M := (ev_Mof 176)) (pc := 6) (x := 205) (mi := 203) (na := 4) (by decide +kernel) (by decide +kernel) (by decide +kernel) (by decide +kernel) rfl rfl (ev_recv_of ev_fH0) (ev_k108 x1 hu_x1 x3 x4)) ?_
  refine ev_go0 (ev_w_if (M := (ev_Mof 176)) (pc := 9) (q := .ne) (o := 13) (b := false) (t := 12) (by decide +kernel) (by decide +kernel) rfl) ?_
  rfl
theorem ev_k110 (x1 : Int32) (hu_x1 : x1.toInt ≤ (-1 : Int)) (x3 : Int32) (x4 : Int32) {n : Nat} : ev_calld 12 373 [.ref 0, .int x1, .int (2), .int x3, .int x4, .ref 723] ev_H0 n = some (.inl (some (.int (1))), ev_H0, n, 1, 6) := by
  refine ev_call_int (k := 10) (pcR := 20) (lv' := [(6, .retAddr 1), (0, .ref 0), (1, .int x1), (2, .int (2)), (3, .int x3), (4, .int x4), (5, .ref 723)]) (v := (1)) (ty := .int) (by decide +kernel) rfl ?_ (by decide +kernel) (by decide +kernel) (by decide +kernel) (by decide)
  show ev_stepn _ 10 (0, [(0, .ref 0), (1, .int x1), (2, .int (2)), (3, .int x3), (4, .int x4), (5, .ref 723)], [], _, _, 0, 0) = _
  refine ev_go0 (ev_one_pure (M := (ev_Mof 373)) (pc := 0) (i := .aload 5) (len := 2) (pc' := 2) (lv' := [(0, .ref 0), (1, .int x1), (2, .int (2)), (3, .int x3), (4, .int x4), (5, .ref 723)]) (st' := [.ref 723]) (by decide +kernel) rfl) ?_
  refine ev_go0 (ev_w_iconst (M := (ev_Mof 373)) (pc := 2) (k := 0) (v := 0) (by decide +kernel) (by decide +kernel)) ?_
  refine ev_go0 (ev_one_pure (M := (ev_Mof 373)) (pc := 3) (i := .aload_n 0) (len := 1) (pc' := 4) (lv' := [(0, .ref 0), (1, .int x1), (2, .int (2)), (3, .int x3), (4, .int x4), (5, .ref 723)]) (st' := [.ref 0, .int (0), .ref 723]) (by decide +kernel) rfl) ?_
  refine ev_go0 (ev_one_pure (M := (ev_Mof 373)) (pc := 4) (i := .iload_n 1) (len := 1) (pc' := 5) (lv' := [(0, .ref 0), (1, .int x1), (2, .int (2)), (3, .int x3), (4, .int x4), (5, .ref 723)]) (st' := [.int x1, .ref 0, .int (0), .ref 723]) (by decide +kernel) rfl) ?_
  refine ev_go0 (ev_one_pure (M := (ev_Mof 373)) (pc := 5) (i := .iload_n 2) (len := 1) (pc' := 6) (lv' := [(0, .ref 0), (1, .int x1), (2, .int (2)), (3, .int x3), (4, .int x4), (5, .ref 723)]) (st' := [.int (2), .int x1, .ref 0, .int (0), .ref 723]) (by decide +kernel) rfl) ?_
  refine ev_go0 (ev_one_pure (M := (ev_Mof 373)) (pc := 6) (i := .iload_n 3) (len := 1) (pc' := 7) (lv' := [(0, .ref 0), (1, .int x1), (2, .int (2)), (3, .int x3), (4, .int x4), (5, .ref 723)]) (st' := [.int x3, .int (2), .int x1, .ref 0, .int (0), .ref 723]) (by decide +kernel) rfl) ?_
  refine ev_go0 (ev_one_pure (M := (ev_Mof 373)) (pc := 7) (i := .iload 4) (len := 2) (pc' := 9) (lv' := [(0, .ref 0), (1, .int x1), (2, .int (2)), (3, .int x3), (4, .int x4), (5, .ref 723)]) (st' := [.int x4, .int x3, .int (2), .int x1, .ref 0, .int (0), .ref 723]) (by decide +kernel) rfl) ?_
  refine ev_go (ev_p_virtX (M := (ev_Mof 373)) (pc := 9) (x := 46) (t := 17) (mi := 176) (na := 4) (by decide +kernel) (by decide +kernel) (by decide +kernel) (by decide +kernel) rfl rfl (ev_recv_of ev_fH0) (ev_k109 x1 hu_x1 x3 x4) (by decide +kernel)) ?_
  refine ev_go0 (ev_w_astore (M := (ev_Mof 373)) (pc := 17) (k := 6) (lv' := [(6, .retAddr 1), (0, .ref 0), (1, .int x1), (2, .int (2)), (3, .int x3), (4, .int x4), (5, .ref 723)]) (by decide +kernel) (by decide +kernel) (Or.inr (Or.inr ⟨_, rfl⟩)) rfl) ?_
  refine ev_go0 (ev_w_iconst (M := (ev_Mof 373)) (pc := 19) (k := 1) (v := 1) (by decide +kernel) (by decide +kernel)) ?_
  rfl
theorem ev_k111 (x1 : Int32) (hu_x1 : x1.toInt ≤ (-1 : Int)) (x3 : Int32) (x4 : Int32) {n : Nat} : ev_calld 12 328 [.ref 621, .int x1, .int (2), .int x3, .int x4] ev_H0 n = some (.inl (some (.int (0))), (ev_H0.set 621 (.inr (13, (ev_F621.set 0 (.int (1)))))), n, 0, 0) := by
  refine ev_call_int (k := 11) (pcR := 49) (lv' := [(0, .ref 621), (1, .int x1), (2, .int (2)), (3, .int x3), (4, .int x4)]) (v := (0)) (ty := .int) (by decide +kernel) rfl ?_ (by decide +kernel) (by decide +kernel) (by decide +kernel) (by decide)
  show ev_stepn _ 11 (0, [(0, .ref 621), (1, .int x1), (2, .int (2)), (3, .int x3), (4, .int x4)], [], _, _, 0, 0) = _
  refine ev_go0 (ev_one_pure (M := (ev_Mof 328)) (pc := 0) (i := .aload_n 0) (len := 1) (pc' := 1) (lv' := [(0, .ref 621), (1, .int x1), (2, .int (2)), (3, .int x3), (4, .int x4)]) (st' := [.ref 621]) (by decide +kernel) rfl) ?_
  refine ev_go0 (ev_one_pure (M := (ev_Mof 328)) (pc := 1) (i := .aload_n 0) (len := 1) (pc' := 2) (lv' := [(0, .ref 621), (1, .int x1), (2, .int (2)), (3, .int x3), (4, .int x4)]) (st' := [.ref 621, .ref 621]) (by decide +kernel) rfl) ?_
  refine ev_go0 (ev_one_pure (M := (ev_Mof 328)) (pc := 2) (i := .iload_n 1) (len := 1) (pc' := 3) (lv' := [(0, .ref 621), (1, .int x1), (2, .int (2)), (3, .int x3), (4, .int x4)]) (st' := [.int x1, .ref 621, .ref 621]) (by decide +kernel) rfl) ?_
  refine ev_go0 (ev_p_virt (M := (ev_Mof 328)) (pc := 3) (x := 531) (mi := 273) (na := 1) (by decide +kernel) (by decide +kernel) (by decide +kernel) (by decide +kernel) rfl rfl (ev_recv_of ev_fH621) (ev_k24 x1 hu_x1)) ?_
  refine ev_go0 (ev_w_if (M := (ev_Mof 328)) (pc := 6) (q := .eq) (o := 31) (b := true) (t := 37) (by decide +kernel) (by decide +kernel) rfl) ?_
  refine ev_go0 (ev_w_iconst (M := (ev_Mof 328)) (pc := 37) (k := 1) (v := 1) (by decide +kernel) (by decide +kernel)) ?_
  refine ev_go0 (ev_p_putf (M := (ev_Mof 328)) (pc := 38) (x := 321) (ci := 13) (f := 0) (by decide +kernel) (by decide +kernel) ev_fH621 rfl (by decide +kernel)) ?_
  refine ev_go0 (ev_one_pure (M := (ev_Mof 328)) (pc := 41) (i := .aload_n 0) (len := 1) (pc' := 42) (lv' := [(0, .ref 621), (1, .int x1), (2, .int (2)), (3, .int x3), (4, .int x4)]) (st' := [.ref 621]) (by decide +kernel) rfl) ?_
  refine ev_go0 (ev_p_getf (M := (ev_Mof 328)) (pc := 42) (x := 321) (ci := 13) (f := 0) (fin := 0) (v := .int (1)) (by decide +kernel) (by decide +kernel) (ev_hself ev_fH621) rfl) ?_
  refine ev_go0 (ev_w_if (M := (ev_Mof 328)) (pc := 45) (q := .le) (o := 5) (b := false) (t := 48) (by decide +kernel) (by decide +kernel) rfl) ?_
  refine ev_go0 (ev_w_iconst (M := (ev_Mof 328)) (pc := 48) (k := 0) (v := 0) (by decide +kernel) (by decide +kernel)) ?_
  rfl
theorem ev_p1_10_n2 (xs : Nat → Int32) (x1 : Int32) (hu_x1 : x1.toInt ≤ (-1 : Int)) (x3 : Int32) (x4 : Int32) (e1 : xs 1 = x1) (e2 : xs 2 = (2)) (e3 : xs 3 = x3) (e4 : xs 4 = x4) : ev_P1 xs 712 := by
  refine ⟨54, [(6, .int (0)), (5, .int (1)), (4, .int (0)), (3, .ref 723), (2, .ref 621), (1, .ref 0), (0, .retAddr 0)], (ev_H0.set 621 (.inr (13, (ev_F621.set 0 (.int (1)))))), 724, 725, 3553592, ?_, ⟨rfl, rfl, rfl, rfl⟩, rfl, by decide, by decide⟩
  show ev_stepn _ _ (712, [(4, .int (0)), (3, .ref 723), (2, .ref 621), (1, .ref 0), (0, .retAddr 0)], [], _, _, _, _) = _
  refine ev_go0 (ev_one_pure (M := ev_Mlaw) (pc := 712) (i := .aload_n 1) (len := 1) (pc' := 713) (lv' := [(4, .int (0)), (3, .ref 723), (2, .ref 621), (1, .ref 0), (0, .retAddr 0)]) (st' := [.ref 0]) (by decide +kernel) rfl) ?_
  refine ev_go0 (ev_one_pure (M := ev_Mlaw) (pc := 713) (i := .aload_n 0) (len := 1) (pc' := 714) (lv' := [(4, .int (0)), (3, .ref 723), (2, .ref 621), (1, .ref 0), (0, .retAddr 0)]) (st' := [.retAddr 0, .ref 0]) (by decide +kernel) rfl) ?_
  refine ev_go0 (ev_one_pure (M := ev_Mlaw) (pc := 714) (i := .iload 4) (len := 2) (pc' := 716) (lv' := [(4, .int (0)), (3, .ref 723), (2, .ref 621), (1, .ref 0), (0, .retAddr 0)]) (st' := [.int (0), .retAddr 0, .ref 0]) (by decide +kernel) rfl) ?_
  refine ev_go0 (ev_w_iconst (M := ev_Mlaw) (pc := 716) (k := 1) (v := 1) (by decide +kernel) (by decide +kernel)) ?_
  refine ev_go0 (ev_w_iadd (M := ev_Mlaw) (pc := 717) (v := (1)) (by decide +kernel) (by decide +kernel)) ?_
  refine ev_go0 (ev_w_scr (M := ev_Mlaw) (pc := 718) (v := x1) (j := 1) (by decide +kernel) (by decide +kernel) (by decide +kernel) e1) ?_
  refine ev_go0 (ev_one_pure (M := ev_Mlaw) (pc := 719) (i := .aload_n 0) (len := 1) (pc' := 720) (lv' := [(4, .int (0)), (3, .ref 723), (2, .ref 621), (1, .ref 0), (0, .retAddr 0)]) (st' := [.retAddr 0, .int x1, .ref 0]) (by decide +kernel) rfl) ?_
  refine ev_go0 (ev_one_pure (M := ev_Mlaw) (pc := 720) (i := .iload 4) (len := 2) (pc' := 722) (lv' := [(4, .int (0)), (3, .ref 723), (2, .ref 621), (1, .ref 0), (0, .retAddr 0)]) (st' := [.int (0), .retAddr 0, .int x1, .ref 0]) (by decide +kernel) rfl) ?_
  refine ev_go0 (ev_w_iconst (M := ev_Mlaw) (pc := 722) (k := 2) (v := 2) (by decide +kernel) (by decide +kernel)) ?_
  refine ev_go0 (ev_w_iadd (M := ev_Mlaw) (pc := 723) (v := (2)) (by decide +kernel) (by decide +kernel)) ?_
  refine ev_go0 (ev_w_scr (M := ev_Mlaw) (pc := 724) (v := (2)) (j := 2) (by decide +kernel) (by decide +kernel) (by decide +kernel) e2) ?_
  refine ev_go0 (ev_one_pure (M := ev_Mlaw) (pc := 725) (i := .aload_n 0) (len := 1) (pc' := 726) (lv' := [(4, .int (0)), (3, .ref 723), (2, .ref 621), (1, .ref 0), (0, .retAddr 0)]) (st' := [.retAddr 0, .int (2), .int x1, .ref 0]) (by decide +kernel) rfl) ?_
  refine ev_go0 (ev_one_pure (M := ev_Mlaw) (pc := 726) (i := .iload 4) (len := 2) (pc' := 728) (lv' := [(4, .int (0)), (3, .ref 723), (2, .ref 621), (1, .ref 0), (0, .retAddr 0)]) (st' := [.int (0), .retAddr 0, .int (2), .int x1, .ref 0]) (by decide +kernel) rfl) ?_
  refine ev_go0 (ev_w_iconst (M := ev_Mlaw) (pc := 728) (k := 3) (v := 3) (by decide +kernel) (by decide +kernel)) ?_
  refine ev_go0 (ev_w_iadd (M := ev_Mlaw) (pc := 729) (v := (3)) (by decide +kernel) (by decide +kernel)) ?_
  refine ev_go0 (ev_w_scr (M := ev_Mlaw) (pc := 730) (v := x3) (j := 3) (by decide +kernel) (by decide +kernel) (by decide +kernel) e3) ?_
  refine ev_go0 (ev_one_pure (M := ev_Mlaw) (pc := 731) (i := .aload_n 0) (len := 1) (pc' := 732) (lv' := [(4, .int (0)), (3, .ref 723), (2, .ref 621), (1, .ref 0), (0, .retAddr 0)]) (st' := [.retAddr 0, .int x3, .int (2), .int x1, .ref 0]) (by decide +kernel) rfl) ?_
  refine ev_go0 (ev_one_pure (M := ev_Mlaw) (pc := 732) (i := .iload 4) (len := 2) (pc' := 734) (lv' := [(4, .int (0)), (3, .ref 723), (2, .ref 621), (1, .ref 0), (0, .retAddr 0)]) (st' := [.int (0), .retAddr 0, .int x3, .int (2), .int x1, .ref 0]) (by decide +kernel) rfl) ?_
  refine ev_go0 (ev_w_iconst (M := ev_Mlaw) (pc := 734) (k := 4) (v := 4) (by decide +kernel) (by decide +kernel)) ?_
  refine ev_go0 (ev_w_iadd (M := ev_Mlaw) (pc := 735) (v := (4)) (by decide +kernel) (by decide +kernel)) ?_
  refine ev_go0 (ev_w_scr (M := ev_Mlaw) (pc := 736) (v := x4) (j := 4) (by decide +kernel) (by decide +kernel) (by decide +kernel) e4) ?_
  refine ev_go0 (ev_one_pure (M := ev_Mlaw) (pc := 737) (i := .aload_n 3) (len := 1) (pc' := 738) (lv' := [(4, .int (0)), (3, .ref 723), (2, .ref 621), (1, .ref 0), (0, .retAddr 0)]) (st' := [.ref 723, .int x4, .int x3, .int (2), .int x1, .ref 0]) (by decide +kernel) rfl) ?_
  refine ev_go (ev_w_stat (M := ev_Mlaw) (pc := 738) (y := 164) (kind := 8) (Or.inr (Or.inr rfl)) (mi := 373) (na := 6) (by decide +kernel) (by decide +kernel) (by decide +kernel) (by decide +kernel) rfl rfl (ev_k110 x1 hu_x1 x3 x4)) ?_
  refine ev_go0 (ev_w_istore (M := ev_Mlaw) (pc := 741) (k := 5) (lv' := [(5, .int (1)), (4, .int (0)), (3, .ref 723), (2, .ref 621), (1, .ref 0), (0, .retAddr 0)]) (by decide +kernel) (by decide +kernel) rfl) ?_
  refine ev_go0 (ev_one_pure (M := ev_Mlaw) (pc := 743) (i := .aload_n 2) (len := 1) (pc' := 744) (lv' := [(5, .int (1)), (4, .int (0)), (3, .ref 723), (2, .ref 621), (1, .ref 0), (0, .retAddr 0)]) (st' := [.ref 621]) (by decide +kernel) rfl) ?_
  refine ev_go0 (ev_one_pure (M := ev_Mlaw) (pc := 744) (i := .aload_n 0) (len := 1) (pc' := 745) (lv' := [(5, .int (1)), (4, .int (0)), (3, .ref 723), (2, .ref 621), (1, .ref 0), (0, .retAddr 0)]) (st' := [.retAddr 0, .ref 621]) (by decide +kernel) rfl) ?_
  refine ev_go0 (ev_one_pure (M := ev_Mlaw) (pc := 745) (i := .iload 4) (len := 2) (pc' := 747) (lv' := [(5, .int (1)), (4, .int (0)), (3, .ref 723), (2, .ref 621), (1, .ref 0), (0, .retAddr 0)]) (st' := [.int (0), .retAddr 0, .ref 621]) (by decide +kernel) rfl) ?_
  refine ev_go0 (ev_w_iconst (M := ev_Mlaw) (pc := 747) (k := 1) (v := 1) (by decide +kernel) (by decide +kernel)) ?_
  refine ev_go0 (ev_w_iadd (M := ev_Mlaw) (pc := 748) (v := (1)) (by decide +kernel) (by decide +kernel)) ?_
  refine ev_go0 (ev_w_scr (M := ev_Mlaw) (pc := 749) (v := x1) (j := 1) (by decide +kernel) (by decide +kernel) (by decide +kernel) e1) ?_
  refine ev_go0 (ev_one_pure (M := ev_Mlaw) (pc := 750) (i := .aload_n 0) (len := 1) (pc' := 751) (lv' := [(5, .int (1)), (4, .int (0)), (3, .ref 723), (2, .ref 621), (1, .ref 0), (0, .retAddr 0)]) (st' := [.retAddr 0, .int x1, .ref 621]) (by decide +kernel) rfl) ?_
  refine ev_go0 (ev_one_pure (M := ev_Mlaw) (pc := 751) (i := .iload 4) (len := 2) (pc' := 753) (lv' := [(5, .int (1)), (4, .int (0)), (3, .ref 723), (2, .ref 621), (1, .ref 0), (0, .retAddr 0)]) (st' := [.int (0), .retAddr 0, .int x1, .ref 621]) (by decide +kernel) rfl) ?_
  refine ev_go0 (ev_w_iconst (M := ev_Mlaw) (pc := 753) (k := 2) (v := 2) (by decide +kernel) (by decide +kernel)) ?_
  refine ev_go0 (ev_w_iadd (M := ev_Mlaw) (pc := 754) (v := (2)) (by decide +kernel) (by decide +kernel)) ?_
  refine ev_go0 (ev_w_scr (M := ev_Mlaw) (pc := 755) (v := (2)) (j := 2) (by decide +kernel) (by decide +kernel) (by decide +kernel) e2) ?_
  refine ev_go0 (ev_one_pure (M := ev_Mlaw) (pc := 756) (i := .aload_n 0) (len := 1) (pc' := 757) (lv' := [(5, .int (1)), (4, .int (0)), (3, .ref 723), (2, .ref 621), (1, .ref 0), (0, .retAddr 0)]) (st' := [.retAddr 0, .int (2), .int x1, .ref 621]) (by decide +kernel) rfl) ?_
  refine ev_go0 (ev_one_pure (M := ev_Mlaw) (pc := 757) (i := .iload 4) (len := 2) (pc' := 759) (lv' := [(5, .int (1)), (4, .int (0)), (3, .ref 723), (2, .ref 621), (1, .ref 0), (0, .retAddr 0)]) (st' := [.int (0), .retAddr 0, .int (2), .int x1, .ref 621]) (by decide +kernel) rfl) ?_
  refine ev_go0 (ev_w_iconst (M := ev_Mlaw) (pc := 759) (k := 3) (v := 3) (by decide +kernel) (by decide +kernel)) ?_
  refine ev_go0 (ev_w_iadd (M := ev_Mlaw) (pc := 760) (v := (3)) (by decide +kernel) (by decide +kernel)) ?_
  refine ev_go0 (ev_w_scr (M := ev_Mlaw) (pc := 761) (v := x3) (j := 3) (by decide +kernel) (by decide +kernel) (by decide +kernel) e3) ?_
  refine ev_go0 (ev_one_pure (M := ev_Mlaw) (pc := 762) (i := .aload_n 0) (len := 1) (pc' := 763) (lv' := [(5, .int (1)), (4, .int (0)), (3, .ref 723), (2, .ref 621), (1, .ref 0), (0, .retAddr 0)]) (st' := [.retAddr 0, .int x3, .int (2), .int x1, .ref 621]) (by decide +kernel) rfl) ?_
  refine ev_go0 (ev_one_pure (M := ev_Mlaw) (pc := 763) (i := .iload 4) (len := 2) (pc' := 765) (lv' := [(5, .int (1)), (4, .int (0)), (3, .ref 723), (2, .ref 621), (1, .ref 0), (0, .retAddr 0)]) (st' := [.int (0), .retAddr 0, .int x3, .int (2), .int x1, .ref 621]) (by decide +kernel) rfl) ?_
  refine ev_go0 (ev_w_iconst (M := ev_Mlaw) (pc := 765) (k := 4) (v := 4) (by decide +kernel) (by decide +kernel)) ?_
  refine ev_go0 (ev_w_iadd (M := ev_Mlaw) (pc := 766) (v := (4)) (by decide +kernel) (by decide +kernel)) ?_
  refine ev_go0 (ev_w_scr (M := ev_Mlaw) (pc := 767) (v := x4) (j := 4) (by decide +kernel) (by decide +kernel) (by decide +kernel) e4) ?_
  refine ev_go0 (ev_p_virt (M := ev_Mlaw) (pc := 768) (x := 167) (mi := 328) (na := 4) (by decide +kernel) (by decide +kernel) (by decide +kernel) (by decide +kernel) rfl rfl (ev_recv_of ev_fH621) (ev_k111 x1 hu_x1 x3 x4)) ?_
  refine ev_go0 (ev_w_istore (M := ev_Mlaw) (pc := 771) (k := 6) (lv' := [(6, .int (0)), (5, .int (1)), (4, .int (0)), (3, .ref 723), (2, .ref 621), (1, .ref 0), (0, .retAddr 0)]) (by decide +kernel) (by decide +kernel) rfl) ?_
  refine ev_go0 (ev_one_pure (M := ev_Mlaw) (pc := 773) (i := .aload_n 2) (len := 1) (pc' := 774) (lv' := [(6, .int (0)), (5, .int (1)), (4, .int (0)), (3, .ref 723), (2, .ref 621), (1, .ref 0), (0, .retAddr 0)]) (st' := [.ref 621]) (by decide +kernel) rfl) ?_
  refine ev_go0 (ev_p_virt (M := ev_Mlaw) (pc := 774) (x := 131) (mi := 220) (na := 0) (by decide +kernel) (by decide +kernel) (by decide +kernel) (by decide +kernel) rfl rfl (ev_recv_of (ev_hself ev_fH621)) ev_k26) ?_
  refine ev_go0 (ev_one_pure (M := ev_Mlaw) (pc := 777) (i := .iload 5) (len := 2) (pc' := 779) (lv' := [(6, .int (0)), (5, .int (1)), (4, .int (0)), (3, .ref 723), (2, .ref 621), (1, .ref 0), (0, .retAddr 0)]) (st' := [.int (1), .int (1)]) (by decide +kernel) rfl) ?_
  refine ev_go0 (ev_w_icmp (M := ev_Mlaw) (pc := 779) (q := .eq) (o := 5) (b := true) (t := 784) (by decide +kernel) (by decide +kernel) rfl) ?_
  refine ev_go0 (ev_one_pure (M := ev_Mlaw) (pc := 784) (i := .iload 5) (len := 2) (pc' := 786) (lv' := [(6, .int (0)), (5, .int (1)), (4, .int (0)), (3, .ref 723), (2, .ref 621), (1, .ref 0), (0, .retAddr 0)]) (st' := [.int (1)]) (by decide +kernel) rfl) ?_
  refine ev_go0 (ev_w_if (M := ev_Mlaw) (pc := 786) (q := .ne) (o := 15) (b := true) (t := 801) (by decide +kernel) (by decide +kernel) rfl) ?_
  refine ev_go0 (ev_one_pure (M := ev_Mlaw) (pc := 801) (i := .goto 1471) (len := 3) (pc' := 2272) (lv' := [(6, .int (0)), (5, .int (1)), (4, .int (0)), (3, .ref 723), (2, .ref 621), (1, .ref 0), (0, .retAddr 0)]) (st' := []) (by decide +kernel) rfl) ?_
  rfl
theorem ev_k112 (x2 : Int32) (hl_x2 : (3 : Int) ≤ x2.toInt) {n : Nat} : ev_calld 9 1 [.ref 254, .int x2] ev_H0 n = some (.inl (some (.null)), ev_H0, n, 0, 0) := by
  refine ev_call_ref (k := 6) (pcR := 19) (lv' := [(0, .ref 254), (1, .int x2)]) (v := .null) (C := "MendBench$Text") (by decide +kernel) rfl ?_ (by decide +kernel) (by decide +kernel) rfl (by decide)
  show ev_stepn _ 6 (0, [(0, .ref 254), (1, .int x2)], [], _, _, 0, 0) = _
  refine ev_go0 (ev_one_pure (M := (ev_Mof 1)) (pc := 0) (i := .iload_n 1) (len := 1) (pc' := 1) (lv' := [(0, .ref 254), (1, .int x2)]) (st' := [.int x2]) (by decide +kernel) rfl) ?_
  refine ev_go0 (ev_w_if (M := (ev_Mof 1)) (pc := 1) (q := .lt) (o := 17) (b := false) (t := 4) (by decide +kernel) (ev_c_lt0 hl_x2 (by decide +kernel)) rfl) ?_
  refine ev_go0 (ev_one_pure (M := (ev_Mof 1)) (pc := 4) (i := .iload_n 1) (len := 1) (pc' := 5) (lv' := [(0, .ref 254), (1, .int x2)]) (st' := [.int x2]) (by decide +kernel) rfl) ?_
  refine ev_go0 (ev_w_iconst (M := (ev_Mof 1)) (pc := 5) (k := 3) (v := 3) (by decide +kernel) (by decide +kernel)) ?_
  refine ev_go0 (ev_w_icmp (M := (ev_Mof 1)) (pc := 6) (q := .ge) (o := 12) (b := true) (t := 18) (by decide +kernel) (ev_c_ge1 hl_x2 (by decide +kernel)) rfl) ?_
  refine ev_go0 (ev_one_pure (M := (ev_Mof 1)) (pc := 18) (i := .aconst_null) (len := 1) (pc' := 19) (lv' := [(0, .ref 254), (1, .int x2)]) (st' := [.null]) (by decide +kernel) rfl) ?_
  rfl
theorem ev_k113 (x1 : Int32) (hu_x1 : x1.toInt ≤ (-1 : Int)) (x2 : Int32) (hl_x2 : (3 : Int) ≤ x2.toInt) (x3 : Int32) (x4 : Int32) {n : Nat} : ev_calld 10 203 [.ref 0, .int x1, .int x2, .int x3, .int x4] ev_H0 n = some (.inl (some (.int (0))), ev_H0, n, 0, 0) := by
  refine ev_call_int (k := 12) (pcR := 60) (lv' := [(6, .null), (5, .null), (0, .ref 0), (1, .int x1), (2, .int x2), (3, .int x3), (4, .int x4)]) (v := (0)) (ty := .boolean) (by decide +kernel) rfl ?_ (by decide +kernel) (by decide +kernel) (by decide +kernel) (by decide)
  show ev_stepn _ 12 (0, [(0, .ref 0), (1, .int x1), (2, .int x2), (3, .int x3), (4, .int x4)], [], _, _, 0, 0) = _
  refine ev_go0 (ev_one_pure (M := (ev_Mof 203)) (pc := 0) (i := .aload_n 0) (len := 1) (pc' := 1) (lv' := [(0, .ref 0), (1, .int x1), (2, .int x2), (3, .int x3), (4, .int x4)]) (st' := [.ref 0]) (by decide +kernel) rfl) ?_
  refine ev_go0 (ev_one_pure (M := (ev_Mof 203)) (pc := 1) (i := .iload_n 1) (len := 1) (pc' := 2) (lv' := [(0, .ref 0), (1, .int x1), (2, .int x2), (3, .int x3), (4, .int x4)]) (st' := [.int x1, .ref 0]) (by decide +kernel) rfl) ?_
  refine ev_go0 (ev_p_virt (M := (ev_Mof 203)) (pc := 2) (x := 156) (mi := 200) (na := 1) (by decide +kernel) (by decide +kernel) (by decide +kernel) (by decide +kernel) rfl rfl (ev_recv_of ev_fH0) (ev_k91 x1 hu_x1)) ?_
  refine ev_go0 (ev_w_astore (M := (ev_Mof 203)) (pc := 5) (k := 5) (lv' := [(5, .null), (0, .ref 0), (1, .int x1), (2, .int x2), (3, .int x3), (4, .int x4)]) (by decide +kernel) (by decide +kernel) (Or.inr (Or.inl rfl)) rfl) ?_
  refine ev_go0 (ev_one_pure (M := (ev_Mof 203)) (pc := 7) (i := .aload_n 0) (len := 1) (pc' := 8) (lv' := [(5, .null), (0, .ref 0), (1, .int x1), (2, .int x2), (3, .int x3), (4, .int x4)]) (st' := [.ref 0]) (by decide +kernel) rfl) ?_
  refine ev_go0 (ev_p_getf (M := (ev_Mof 203)) (pc := 8) (x := 48) (ci := 12) (f := 8) (fin := 1) (v := .ref 254) (by decide +kernel) (by decide +kernel) ev_fH0 rfl) ?_
  refine ev_go0 (ev_one_pure (M := (ev_Mof 203)) (pc := 11) (i := .iload_n 2) (len := 1) (pc' := 12) (lv' := [(5, .null), (0, .ref 0), (1, .int x1), (2, .int x2), (3, .int x3), (4, .int x4)]) (st' := [.int x2, .ref 254]) (by decide +kernel) rfl) ?_
  refine ev_go0 (ev_p_virt (M := (ev_Mof 203)) (pc := 12) (x := 221) (mi := 1) (na := 1) (by decide +kernel) (by decide +kernel) (by decide +kernel) (by decide +kernel) rfl rfl (ev_recv_of ev_fH254) (ev_k112 x2 hl_x2)) ?_
  refine ev_go0 (ev_w_astore (M := (ev_Mof 203)) (pc := 15) (k := 6) (lv' := [(6, .null), (5, .null), (0, .ref 0), (1, .int x1), (2, .int x2), (3, .int x3), (4, .int x4)]) (by decide +kernel) (by decide +kernel) (Or.inr (Or.inl rfl)) rfl) ?_
  refine ev_go0 (ev_one_pure (M := (ev_Mof 203)) (pc := 17) (i := .aload 5) (len := 2) (pc' := 19) (lv' := [(6, .null), (5, .null), (0, .ref 0), (1, .int x1), (2, .int x2), (3, .int x3), (4, .int x4)]) (st' := [.null]) (by decide +kernel) rfl) ?_
  refine ev_go0 (ev_w_ifnull (M := (ev_Mof 203)) (pc := 19) (o := 40) (t := 59) (by decide +kernel) (Or.inl ⟨rfl, rfl⟩)) ?_
  refine ev_go0 (ev_w_iconst (M := (ev_Mof 203)) (pc := 59) (k := 0) (v := 0) (by decide +kernel) (by decide +kernel)) ?_
  rfl
theorem ev_k114 (x1 : Int32) (hu_x1 : x1.toInt ≤ (-1 : Int)) (x2 : Int32) (hl_x2 : (3 : Int) ≤ x2.toInt) (x3 : Int32) (x4 : Int32) {n : Nat} : ev_calld 11 176 [.ref 0, .int x1, .int x2, .int x3, .int x4] ev_H0 n = some (.inr "java/lang/IndexOutOfBoundsException", ev_H0, n, 1, 6) := by
  refine ev_call_thrown (k := 7) (pcR := 12) (x := 160) (lv' := [(0, .ref 0), (1, .int x1), (2, .int x2), (3, .int x3), (4, .int x4)]) (by decide +kernel) rfl ?_ (by decide +kernel) (by decide +kernel) (by decide +kernel) (by decide) (by decide)
  show ev_stepn _ 7 (0, [(0, .ref 0), (1, .int x1), (2, .int x2), (3, .int x3), (4, .int x4)], [], _, _, 0, 0) = _
  refine ev_go0 (ev_one_pure (M := (ev_Mof 176)) (pc := 0) (i := .aload_n 0) (len := 1) (pc' := 1) (lv' := [(0, .ref 0), (1, .int x1), (2, .int x2), (3, .int x3), (4, .int x4)]) (st' := [.ref 0]) (by decide +kernel) rfl) ?_
  refine ev_go0 (ev_one_pure (M := (ev_Mof 176)) (pc := 1) (i := .iload_n 1) (len := 1) (pc' := 2) (lv' := [(0, .ref 0), (1, .int x1), (2, .int x2), (3, .int x3), (4, .int x4)]) (st' := [.int x1, .ref 0]) (by decide +kernel) rfl) ?_
  refine ev_go0 (ev_one_pure (M := (ev_Mof 176)) (pc := 2) (i := .iload_n 2) (len := 1) (pc' := 3) (lv' := [(0, .ref 0), (1, .int x1), (2, .int x2), (3, .int x3), (4, .int x4)]) (st' := [.int x2, .int x1, .ref 0]) (by decide +kernel) rfl) ?_
  refine ev_go0 (ev_one_pure (M := (ev_Mof 176)) (pc := 3) (i := .iload_n 3) (len := 1) (pc' := 4) (lv' := [(0, .ref 0), (1, .int x1), (2, .int x2), (3, .int x3), (4, .int x4)]) (st' := [.int x3, .int x2, .int x1, .ref 0]) (by decide +kernel) rfl) ?_
  refine ev_go0 (ev_one_pure (M := (ev_Mof 176)) (pc := 4) (i := .iload 4) (len := 2) (pc' := 6) (lv' := [(0, .ref 0), (1, .int x1), (2, .int x2), (3, .int x3), (4, .int x4)]) (st' := [.int x4, .int x3, .int x2, .int x1, .ref 0]) (by decide +kernel) rfl) ?_
  refine ev_go0 (ev_p_virt (M := (ev_Mof 176)) (pc := 6) (x := 205) (mi := 203) (na := 4) (by decide +kernel) (by decide +kernel) (by decide +kernel) (by decide +kernel) rfl rfl (ev_recv_of ev_fH0) (ev_k113 x1 hu_x1 x2 hl_x2 x3 x4)) ?_
  refine ev_go0 (ev_w_if (M := (ev_Mof 176)) (pc := 9) (q := .ne) (o := 13) (b := false) (t := 12) (by decide +kernel) (by decide +kernel) rfl) ?_
  rfl
theorem ev_k115 (x1 : Int32) (hu_x1 : x1.toInt ≤ (-1 : Int)) (x2 : Int32) (hl_x2 : (3 : Int) ≤ x2.toInt) (x3 : Int32) (x4 : Int32) {n : Nat} : ev_calld 12 373 [.ref 0, .int x1, .int x2, .int x3, .int x4, .ref 723] ev_H0 n = some (.inl (some (.int (1))), ev_H0, n, 1, 6) := by
  refine ev_call_int (k := 10) (pcR := 20) (lv' := [(6, .retAddr 1), (0, .ref 0), (1, .int x1), (2, .int x2), (3, .int x3), (4, .int x4), (5, .ref 723)]) (v := (1)) (ty := .int) (by decide +kernel) rfl ?_ (by decide +kernel) (by decide +kernel) (by decide +kernel) (by decide)
  show ev_stepn _ 10 (0, [(0, .ref 0), (1, .int x1), (2, .int x2), (3, .int x3), (4, .int x4), (5, .ref 723)], [], _, _, 0, 0) = _
  refine ev_go0 (ev_one_pure (M := (ev_Mof 373)) (pc := 0) (i := .aload 5) (len := 2) (pc' := 2) (lv' := [(0, .ref 0), (1, .int x1), (2, .int x2), (3, .int x3), (4, .int x4), (5, .ref 723)]) (st' := [.ref 723]) (by decide +kernel) rfl) ?_
  refine ev_go0 (ev_w_iconst (M := (ev_Mof 373)) (pc := 2) (k := 0) (v := 0) (by decide +kernel) (by decide +kernel)) ?_
  refine ev_go0 (ev_one_pure (M := (ev_Mof 373)) (pc := 3) (i := .aload_n 0) (len := 1) (pc' := 4) (lv' := [(0, .ref 0), (1, .int x1), (2, .int x2), (3, .int x3), (4, .int x4), (5, .ref 723)]) (st' := [.ref 0, .int (0), .ref 723]) (by decide +kernel) rfl) ?_
  refine ev_go0 (ev_one_pure (M := (ev_Mof 373)) (pc := 4) (i := .iload_n 1) (len := 1) (pc' := 5) (lv' := [(0, .ref 0), (1, .int x1), (2, .int x2), (3, .int x3), (4, .int x4), (5, .ref 723)]) (st' := [.int x1, .ref 0, .int (0), .ref 723]) (by decide +kernel) rfl) ?_
  refine ev_go0 (ev_one_pure (M := (ev_Mof 373)) (pc := 5) (i := .iload_n 2) (len := 1) (pc' := 6) (lv' := [(0, .ref 0), (1, .int x1), (2, .int x2), (3, .int x3), (4, .int x4), (5, .ref 723)]) (st' := [.int x2, .int x1, .ref 0, .int (0), .ref 723]) (by decide +kernel) rfl) ?_
  refine ev_go0 (ev_one_pure (M := (ev_Mof 373)) (pc := 6) (i := .iload_n 3) (len := 1) (pc' := 7) (lv' := [(0, .ref 0), (1, .int x1), (2, .int x2), (3, .int x3), (4, .int x4), (5, .ref 723)]) (st' := [.int x3, .int x2, .int x1, .ref 0, .int (0), .ref 723]) (by decide +kernel) rfl) ?_
  refine ev_go0 (ev_one_pure (M := (ev_Mof 373)) (pc := 7) (i := .iload 4) (len := 2) (pc' := 9) (lv' := [(0, .ref 0), (1, .int x1), (2, .int x2), (3, .int x3), (4, .int x4), (5, .ref 723)]) (st' := [.int x4, .int x3, .int x2, .int x1, .ref 0, .int (0), .ref 723]) (by decide +kernel) rfl) ?_
  refine ev_go (ev_p_virtX (M := (ev_Mof 373)) (pc := 9) (x := 46) (t := 17) (mi := 176) (na := 4) (by decide +kernel) (by decide +kernel) (by decide +kernel) (by decide +kernel) rfl rfl (ev_recv_of ev_fH0) (ev_k114 x1 hu_x1 x2 hl_x2 x3 x4) (by decide +kernel)) ?_
  refine ev_go0 (ev_w_astore (M := (ev_Mof 373)) (pc := 17) (k := 6) (lv' := [(6, .retAddr 1), (0, .ref 0), (1, .int x1), (2, .int x2), (3, .int x3), (4, .int x4), (5, .ref 723)]) (by decide +kernel) (by decide +kernel) (Or.inr (Or.inr ⟨_, rfl⟩)) rfl) ?_
  refine ev_go0 (ev_w_iconst (M := (ev_Mof 373)) (pc := 19) (k := 1) (v := 1) (by decide +kernel) (by decide +kernel)) ?_
  rfl
theorem ev_k116 (x1 : Int32) (hu_x1 : x1.toInt ≤ (-1 : Int)) (x2 : Int32) (hl_x2 : (3 : Int) ≤ x2.toInt) (x3 : Int32) (x4 : Int32) {n : Nat} : ev_calld 12 328 [.ref 621, .int x1, .int x2, .int x3, .int x4] ev_H0 n = some (.inl (some (.int (0))), (ev_H0.set 621 (.inr (13, (ev_F621.set 0 (.int (1)))))), n, 0, 0) := by
  refine ev_call_int (k := 11) (pcR := 49) (lv' := [(0, .ref 621), (1, .int x1), (2, .int x2), (3, .int x3), (4, .int x4)]) (v := (0)) (ty := .int) (by decide +kernel) rfl ?_ (by decide +kernel) (by decide +kernel) (by decide +kernel) (by decide)
  show ev_stepn _ 11 (0, [(0, .ref 621), (1, .int x1), (2, .int x2), (3, .int x3), (4, .int x4)], [], _, _, 0, 0) = _
  refine ev_go0 (ev_one_pure (M := (ev_Mof 328)) (pc := 0) (i := .aload_n 0) (len := 1) (pc' := 1) (lv' := [(0, .ref 621), (1, .int x1), (2, .int x2), (3, .int x3), (4, .int x4)]) (st' := [.ref 621]) (by decide +kernel) rfl) ?_
  refine ev_go0 (ev_one_pure (M := (ev_Mof 328)) (pc := 1) (i := .aload_n 0) (len := 1) (pc' := 2) (lv' := [(0, .ref 621), (1, .int x1), (2, .int x2), (3, .int x3), (4, .int x4)]) (st' := [.ref 621, .ref 621]) (by decide +kernel) rfl) ?_
  refine ev_go0 (ev_one_pure (M := (ev_Mof 328)) (pc := 2) (i := .iload_n 1) (len := 1) (pc' := 3) (lv' := [(0, .ref 621), (1, .int x1), (2, .int x2), (3, .int x3), (4, .int x4)]) (st' := [.int x1, .ref 621, .ref 621]) (by decide +kernel) rfl) ?_
  refine ev_go0 (ev_p_virt (M := (ev_Mof 328)) (pc := 3) (x := 531) (mi := 273) (na := 1) (by decide +kernel) (by decide +kernel) (by decide +kernel) (by decide +kernel) rfl rfl (ev_recv_of ev_fH621) (ev_k24 x1 hu_x1)) ?_
  refine ev_go0 (ev_w_if (M := (ev_Mof 328)) (pc := 6) (q := .eq) (o := 31) (b := true) (t := 37) (by decide +kernel) (by decide +kernel) rfl) ?_
  refine ev_go0 (ev_w_iconst (M := (ev_Mof 328)) (pc := 37) (k := 1) (v := 1) (by decide +kernel) (by decide +kernel)) ?_
  refine ev_go0 (ev_p_putf (M := (ev_Mof 328)) (pc := 38) (x := 321) (ci := 13) (f := 0) (by decide +kernel) (by decide +kernel) ev_fH621 rfl (by decide +kernel)) ?_
  refine ev_go0 (ev_one_pure (M := (ev_Mof 328)) (pc := 41) (i := .aload_n 0) (len := 1) (pc' := 42) (lv' := [(0, .ref 621), (1, .int x1), (2, .int x2), (3, .int x3), (4, .int x4)]) (st' := [.ref 621]) (by decide +kernel) rfl) ?_
  refine ev_go0 (ev_p_getf (M := (ev_Mof 328)) (pc := 42) (x := 321) (ci := 13) (f := 0) (fin := 0) (v := .int (1)) (by decide +kernel) (by decide +kernel) (ev_hself ev_fH621) rfl) ?_
  refine ev_go0 (ev_w_if (M := (ev_Mof 328)) (pc := 45) (q := .le) (o := 5) (b := false) (t := 48) (by decide +kernel) (by decide +kernel) rfl) ?_
  refine ev_go0 (ev_w_iconst (M := (ev_Mof 328)) (pc := 48) (k := 0) (v := 0) (by decide +kernel) (by decide +kernel)) ?_
  rfl
theorem ev_p1_10_ng (xs : Nat → Int32) (x1 : Int32) (hu_x1 : x1.toInt ≤ (-1 : Int)) (x2 : Int32) (hl_x2 : (3 : Int) ≤ x2.toInt) (x3 : Int32) (x4 : Int32) (e1 : xs 1 = x1) (e2 : xs 2 = x2) (e3 : xs 3 = x3) (e4 : xs 4 = x4) : ev_P1 xs 712 := by
  refine ⟨54, [(6, .int (0)), (5, .int (1)), (4, .int (0)), (3, .ref 723), (2, .ref 621), (1, .ref 0), (0, .retAddr 0)], (ev_H0.set 621 (.inr (13, (ev_F621.set 0 (.int (1)))))), 724, 725, 3553592, ?_, ⟨rfl, rfl, rfl, rfl⟩, rfl, by decide, by decide⟩
  show ev_stepn _ _ (712, [(4, .int (0)), (3, .ref 723), (2, .ref 621), (1, .ref 0), (0, .retAddr 0)], [], _, _, _, _) = _
  refine ev_go0 (ev_one_pure (M := ev_Mlaw) (pc := 712) (i := .aload_n 1) (len := 1) (pc' := 713) (lv' := [(4, .int (0)), (3, .ref 723), (2, .ref 621), (1, .ref 0), (0, .retAddr 0)]) (st' := [.ref 0]) (by decide +kernel) rfl) ?_
  refine ev_go0 (ev_one_pure (M := ev_Mlaw) (pc := 713) (i := .aload_n 0) (len := 1) (pc' := 714) (lv' := [(4, .int (0)), (3, .ref 723), (2, .ref 621), (1, .ref 0), (0, .retAddr 0)]) (st' := [.retAddr 0, .ref 0]) (by decide +kernel) rfl) ?_
  refine ev_go0 (ev_one_pure (M := ev_Mlaw) (pc := 714) (i := .iload 4) (len := 2) (pc' := 716) (lv' := [(4, .int (0)), (3, .ref 723), (2, .ref 621), (1, .ref 0), (0, .retAddr 0)]) (st' := [.int (0), .retAddr 0, .ref 0]) (by decide +kernel) rfl) ?_
  refine ev_go0 (ev_w_iconst (M := ev_Mlaw) (pc := 716) (k := 1) (v := 1) (by decide +kernel) (by decide +kernel)) ?_
  refine ev_go0 (ev_w_iadd (M := ev_Mlaw) (pc := 717) (v := (1)) (by decide +kernel) (by decide +kernel)) ?_
  refine ev_go0 (ev_w_scr (M := ev_Mlaw) (pc := 718) (v := x1) (j := 1) (by decide +kernel) (by decide +kernel) (by decide +kernel) e1) ?_
  refine ev_go0 (ev_one_pure (M := ev_Mlaw) (pc := 719) (i := .aload_n 0) (len := 1) (pc' := 720) (lv' := [(4, .int (0)), (3, .ref 723), (2, .ref 621), (1, .ref 0), (0, .retAddr 0)]) (st' := [.retAddr 0, .int x1, .ref 0]) (by decide +kernel) rfl) ?_
  refine ev_go0 (ev_one_pure (M := ev_Mlaw) (pc := 720) (i := .iload 4) (len := 2) (pc' := 722) (lv' := [(4, .int (0)), (3, .ref 723), (2, .ref 621), (1, .ref 0), (0, .retAddr 0)]) (st' := [.int (0), .retAddr 0, .int x1, .ref 0]) (by decide +kernel) rfl) ?_
  refine ev_go0 (ev_w_iconst (M := ev_Mlaw) (pc := 722) (k := 2) (v := 2) (by decide +kernel) (by decide +kernel)) ?_
  refine ev_go0 (ev_w_iadd (M := ev_Mlaw) (pc := 723) (v := (2)) (by decide +kernel) (by decide +kernel)) ?_
  refine ev_go0 (ev_w_scr (M := ev_Mlaw) (pc := 724) (v := x2) (j := 2) (by decide +kernel) (by decide +kernel) (by decide +kernel) e2) ?_
  refine ev_go0 (ev_one_pure (M := ev_Mlaw) (pc := 725) (i := .aload_n 0) (len := 1) (pc' := 726) (lv' := [(4, .int (0)), (3, .ref 723), (2, .ref 621), (1, .ref 0), (0, .retAddr 0)]) (st' := [.retAddr 0, .int x2, .int x1, .ref 0]) (by decide +kernel) rfl) ?_
  refine ev_go0 (ev_one_pure (M := ev_Mlaw) (pc := 726) (i := .iload 4) (len := 2) (pc' := 728) (lv' := [(4, .int (0)), (3, .ref 723), (2, .ref 621), (1, .ref 0), (0, .retAddr 0)]) (st' := [.int (0), .retAddr 0, .int x2, .int x1, .ref 0]) (by decide +kernel) rfl) ?_
  refine ev_go0 (ev_w_iconst (M := ev_Mlaw) (pc := 728) (k := 3) (v := 3) (by decide +kernel) (by decide +kernel)) ?_
  refine ev_go0 (ev_w_iadd (M := ev_Mlaw) (pc := 729) (v := (3)) (by decide +kernel) (by decide +kernel)) ?_
  refine ev_go0 (ev_w_scr (M := ev_Mlaw) (pc := 730) (v := x3) (j := 3) (by decide +kernel) (by decide +kernel) (by decide +kernel) e3) ?_
  refine ev_go0 (ev_one_pure (M := ev_Mlaw) (pc := 731) (i := .aload_n 0) (len := 1) (pc' := 732) (lv' := [(4, .int (0)), (3, .ref 723), (2, .ref 621), (1, .ref 0), (0, .retAddr 0)]) (st' := [.retAddr 0, .int x3, .int x2, .int x1, .ref 0]) (by decide +kernel) rfl) ?_
  refine ev_go0 (ev_one_pure (M := ev_Mlaw) (pc := 732) (i := .iload 4) (len := 2) (pc' := 734) (lv' := [(4, .int (0)), (3, .ref 723), (2, .ref 621), (1, .ref 0), (0, .retAddr 0)]) (st' := [.int (0), .retAddr 0, .int x3, .int x2, .int x1, .ref 0]) (by decide +kernel) rfl) ?_
  refine ev_go0 (ev_w_iconst (M := ev_Mlaw) (pc := 734) (k := 4) (v := 4) (by decide +kernel) (by decide +kernel)) ?_
  refine ev_go0 (ev_w_iadd (M := ev_Mlaw) (pc := 735) (v := (4)) (by decide +kernel) (by decide +kernel)) ?_
  refine ev_go0 (ev_w_scr (M := ev_Mlaw) (pc := 736) (v := x4) (j := 4) (by decide +kernel) (by decide +kernel) (by decide +kernel) e4) ?_
  refine ev_go0 (ev_one_pure (M := ev_Mlaw) (pc := 737) (i := .aload_n 3) (len := 1) (pc' := 738) (lv' := [(4, .int (0)), (3, .ref 723), (2, .ref 621), (1, .ref 0), (0, .retAddr 0)]) (st' := [.ref 723, .int x4, .int x3, .int x2, .int x1, .ref 0]) (by decide +kernel) rfl) ?_
  refine ev_go (ev_w_stat (M := ev_Mlaw) (pc := 738) (y := 164) (kind := 8) (Or.inr (Or.inr rfl)) (mi := 373) (na := 6) (by decide +kernel) (by decide +kernel) (by decide +kernel) (by decide +kernel) rfl rfl (ev_k115 x1 hu_x1 x2 hl_x2 x3 x4)) ?_
  refine ev_go0 (ev_w_istore (M := ev_Mlaw) (pc := 741) (k := 5) (lv' := [(5, .int (1)), (4, .int (0)), (3, .ref 723), (2, .ref 621), (1, .ref 0), (0, .retAddr 0)]) (by decide +kernel) (by decide +kernel) rfl) ?_
  refine ev_go0 (ev_one_pure (M := ev_Mlaw) (pc := 743) (i := .aload_n 2) (len := 1) (pc' := 744) (lv' := [(5, .int (1)), (4, .int (0)), (3, .ref 723), (2, .ref 621), (1, .ref 0), (0, .retAddr 0)]) (st' := [.ref 621]) (by decide +kernel) rfl) ?_
  refine ev_go0 (ev_one_pure (M := ev_Mlaw) (pc := 744) (i := .aload_n 0) (len := 1) (pc' := 745) (lv' := [(5, .int (1)), (4, .int (0)), (3, .ref 723), (2, .ref 621), (1, .ref 0), (0, .retAddr 0)]) (st' := [.retAddr 0, .ref 621]) (by decide +kernel) rfl) ?_
  refine ev_go0 (ev_one_pure (M := ev_Mlaw) (pc := 745) (i := .iload 4) (len := 2) (pc' := 747) (lv' := [(5, .int (1)), (4, .int (0)), (3, .ref 723), (2, .ref 621), (1, .ref 0), (0, .retAddr 0)]) (st' := [.int (0), .retAddr 0, .ref 621]) (by decide +kernel) rfl) ?_
  refine ev_go0 (ev_w_iconst (M := ev_Mlaw) (pc := 747) (k := 1) (v := 1) (by decide +kernel) (by decide +kernel)) ?_
  refine ev_go0 (ev_w_iadd (M := ev_Mlaw) (pc := 748) (v := (1)) (by decide +kernel) (by decide +kernel)) ?_
  refine ev_go0 (ev_w_scr (M := ev_Mlaw) (pc := 749) (v := x1) (j := 1) (by decide +kernel) (by decide +kernel) (by decide +kernel) e1) ?_
  refine ev_go0 (ev_one_pure (M := ev_Mlaw) (pc := 750) (i := .aload_n 0) (len := 1) (pc' := 751) (lv' := [(5, .int (1)), (4, .int (0)), (3, .ref 723), (2, .ref 621), (1, .ref 0), (0, .retAddr 0)]) (st' := [.retAddr 0, .int x1, .ref 621]) (by decide +kernel) rfl) ?_
  refine ev_go0 (ev_one_pure (M := ev_Mlaw) (pc := 751) (i := .iload 4) (len := 2) (pc' := 753) (lv' := [(5, .int (1)), (4, .int (0)), (3, .ref 723), (2, .ref 621), (1, .ref 0), (0, .retAddr 0)]) (st' := [.int (0), .retAddr 0, .int x1, .ref 621]) (by decide +kernel) rfl) ?_
  refine ev_go0 (ev_w_iconst (M := ev_Mlaw) (pc := 753) (k := 2) (v := 2) (by decide +kernel) (by decide +kernel)) ?_
  refine ev_go0 (ev_w_iadd (M := ev_Mlaw) (pc := 754) (v := (2)) (by decide +kernel) (by decide +kernel)) ?_
  refine ev_go0 (ev_w_scr (M := ev_Mlaw) (pc := 755) (v := x2) (j := 2) (by decide +kernel) (by decide +kernel) (by decide +kernel) e2) ?_
  refine ev_go0 (ev_one_pure (M := ev_Mlaw) (pc := 756) (i := .aload_n 0) (len := 1) (pc' := 757) (lv' := [(5, .int (1)), (4, .int (0)), (3, .ref 723), (2, .ref 621), (1, .ref 0), (0, .retAddr 0)]) (st' := [.retAddr 0, .int x2, .int x1, .ref 621]) (by decide +kernel) rfl) ?_
  refine ev_go0 (ev_one_pure (M := ev_Mlaw) (pc := 757) (i := .iload 4) (len := 2) (pc' := 759) (lv' := [(5, .int (1)), (4, .int (0)), (3, .ref 723), (2, .ref 621), (1, .ref 0), (0, .retAddr 0)]) (st' := [.int (0), .retAddr 0, .int x2, .int x1, .ref 621]) (by decide +kernel) rfl) ?_
  refine ev_go0 (ev_w_iconst (M := ev_Mlaw) (pc := 759) (k := 3) (v := 3) (by decide +kernel) (by decide +kernel)) ?_
  refine ev_go0 (ev_w_iadd (M := ev_Mlaw) (pc := 760) (v := (3)) (by decide +kernel) (by decide +kernel)) ?_
  refine ev_go0 (ev_w_scr (M := ev_Mlaw) (pc := 761) (v := x3) (j := 3) (by decide +kernel) (by decide +kernel) (by decide +kernel) e3) ?_
  refine ev_go0 (ev_one_pure (M := ev_Mlaw) (pc := 762) (i := .aload_n 0) (len := 1) (pc' := 763) (lv' := [(5, .int (1)), (4, .int (0)), (3, .ref 723), (2, .ref 621), (1, .ref 0), (0, .retAddr 0)]) (st' := [.retAddr 0, .int x3, .int x2, .int x1, .ref 621]) (by decide +kernel) rfl) ?_
  refine ev_go0 (ev_one_pure (M := ev_Mlaw) (pc := 763) (i := .iload 4) (len := 2) (pc' := 765) (lv' := [(5, .int (1)), (4, .int (0)), (3, .ref 723), (2, .ref 621), (1, .ref 0), (0, .retAddr 0)]) (st' := [.int (0), .retAddr 0, .int x3, .int x2, .int x1, .ref 621]) (by decide +kernel) rfl) ?_
  refine ev_go0 (ev_w_iconst (M := ev_Mlaw) (pc := 765) (k := 4) (v := 4) (by decide +kernel) (by decide +kernel)) ?_
  refine ev_go0 (ev_w_iadd (M := ev_Mlaw) (pc := 766) (v := (4)) (by decide +kernel) (by decide +kernel)) ?_
  refine ev_go0 (ev_w_scr (M := ev_Mlaw) (pc := 767) (v := x4) (j := 4) (by decide +kernel) (by decide +kernel) (by decide +kernel) e4) ?_
  refine ev_go0 (ev_p_virt (M := ev_Mlaw) (pc := 768) (x := 167) (mi := 328) (na := 4) (by decide +kernel) (by decide +kernel) (by decide +kernel) (by decide +kernel) rfl rfl (ev_recv_of ev_fH621) (ev_k116 x1 hu_x1 x2 hl_x2 x3 x4)) ?_
  refine ev_go0 (ev_w_istore (M := ev_Mlaw) (pc := 771) (k := 6) (lv' := [(6, .int (0)), (5, .int (1)), (4, .int (0)), (3, .ref 723), (2, .ref 621), (1, .ref 0), (0, .retAddr 0)]) (by decide +kernel) (by decide +kernel) rfl) ?_
  refine ev_go0 (ev_one_pure (M := ev_Mlaw) (pc := 773) (i := .aload_n 2) (len := 1) (pc' := 774) (lv' := [(6, .int (0)), (5, .int (1)), (4, .int (0)), (3, .ref 723), (2, .ref 621), (1, .ref 0), (0, .retAddr 0)]) (st' := [.ref 621]) (by decide +kernel) rfl) ?_
  refine ev_go0 (ev_p_virt (M := ev_Mlaw) (pc := 774) (x := 131) (mi := 220) (na := 0) (by decide +kernel) (by decide +kernel) (by decide +kernel) (by decide +kernel) rfl rfl (ev_recv_of (ev_hself ev_fH621)) ev_k26) ?_
  refine ev_go0 (ev_one_pure (M := ev_Mlaw) (pc := 777) (i := .iload 5) (len := 2) (pc' := 779) (lv' := [(6, .int (0)), (5, .int (1)), (4, .int (0)), (3, .ref 723), (2, .ref 621), (1, .ref 0), (0, .retAddr 0)]) (st' := [.int (1), .int (1)]) (by decide +kernel) rfl) ?_
  refine ev_go0 (ev_w_icmp (M := ev_Mlaw) (pc := 779) (q := .eq) (o := 5) (b := true) (t := 784) (by decide +kernel) (by decide +kernel) rfl) ?_
  refine ev_go0 (ev_one_pure (M := ev_Mlaw) (pc := 784) (i := .iload 5) (len := 2) (pc' := 786) (lv' := [(6, .int (0)), (5, .int (1)), (4, .int (0)), (3, .ref 723), (2, .ref 621), (1, .ref 0), (0, .retAddr 0)]) (st' := [.int (1)]) (by decide +kernel) rfl) ?_
  refine ev_go0 (ev_w_if (M := ev_Mlaw) (pc := 786) (q := .ne) (o := 15) (b := true) (t := 801) (by decide +kernel) (by decide +kernel) rfl) ?_
  refine ev_go0 (ev_one_pure (M := ev_Mlaw) (pc := 801) (i := .goto 1471) (len := 3) (pc' := 2272) (lv' := [(6, .int (0)), (5, .int (1)), (4, .int (0)), (3, .ref 723), (2, .ref 621), (1, .ref 0), (0, .retAddr 0)]) (st' := []) (by decide +kernel) rfl) ?_
  rfl
theorem ev_k117 (x1 : Int32) (hl_x1 : (0 : Int) ≤ x1.toInt) {n : Nat} : ev_calld 9 200 [.ref 0, .int x1] ev_H0 n = some (.inl (some (.null)), ev_H0, n, 0, 0) := by
  refine ev_call_ref (k := 7) (pcR := 28) (lv' := [(0, .ref 0), (1, .int x1)]) (v := .null) (C := "MendBench$Pattern") (by decide +kernel) rfl ?_ (by decide +kernel) (by decide +kernel) rfl (by decide)
  show ev_stepn _ 7 (0, [(0, .ref 0), (1, .int x1)], [], _, _, 0, 0) = _
  refine ev_go0 (ev_one_pure (M := (ev_Mof 200)) (pc := 0) (i := .iload_n 1) (len := 1) (pc' := 1) (lv' := [(0, .ref 0), (1, .int x1)]) (st' := [.int x1]) (by decide +kernel) rfl) ?_
  refine ev_go0 (ev_w_if (M := (ev_Mof 200)) (pc := 1) (q := .lt) (o := 26) (b := false) (t := 4) (by decide +kernel) (ev_c_lt0 hl_x1 (by decide +kernel)) rfl) ?_
  refine ev_go0 (ev_one_pure (M := (ev_Mof 200)) (pc := 4) (i := .iload_n 1) (len := 1) (pc' := 5) (lv' := [(0, .ref 0), (1, .int x1)]) (st' := [.int x1]) (by decide +kernel) rfl) ?_
  refine ev_go0 (ev_one_pure (M := (ev_Mof 200)) (pc := 5) (i := .aload_n 0) (len := 1) (pc' := 6) (lv' := [(0, .ref 0), (1, .int x1)]) (st' := [.ref 0, .int x1]) (by decide +kernel) rfl) ?_
  refine ev_go0 (ev_p_getf (M := (ev_Mof 200)) (pc := 6) (x := 134) (ci := 12) (f := 5) (fin := 0) (v := .int (0)) (by decide +kernel) (by decide +kernel) ev_fH0 rfl) ?_
  refine ev_go0 (ev_w_icmp (M := (ev_Mof 200)) (pc := 9) (q := .ge) (o := 18) (b := true) (t := 27) (by decide +kernel) (ev_c_ge1 hl_x1 (by decide +kernel)) rfl) ?_
  refine ev_go0 (ev_one_pure (M := (ev_Mof 200)) (pc := 27) (i := .aconst_null) (len := 1) (pc' := 28) (lv' := [(0, .ref 0), (1, .int x1)]) (st' := [.null]) (by decide +kernel) rfl) ?_
  rfl
theorem ev_k118 (x1 : Int32) (hl_x1 : (0 : Int) ≤ x1.toInt) (x2 : Int32) (hu_x2 : x2.toInt ≤ (-1 : Int)) (x3 : Int32) (x4 : Int32) {n : Nat} : ev_calld 10 203 [.ref 0, .int x1, .int x2, .int x3, .int x4] ev_H0 n = some (.inl (some (.int (0))), ev_H0, n, 0, 0) := by
  refine ev_call_int (k := 12) (pcR := 60) (lv' := [(6, .null), (5, .null), (0, .ref 0), (1, .int x1), (2, .int x2), (3, .int x3), (4, .int x4)]) (v := (0)) (ty := .boolean) (by decide +kernel) rfl ?_ (by decide +kernel) (by decide +kernel) (by decide +kernel) (by decide)
  show ev_stepn _ 12 (0, [(0, .ref 0), (1, .int x1), (2, .int x2), (3, .int x3), (4, .int x4)], [], _, _, 0, 0) = _
  refine ev_go0 (ev_one_pure (M := (ev_Mof 203)) (pc := 0) (i := .aload_n 0) (len := 1) (pc' := 1) (lv' := [(0, .ref 0), (1, .int x1), (2, .int x2), (3, .int x3), (4, .int x4)]) (st' := [.ref 0]) (by decide +kernel) rfl) ?_
  refine ev_go0 (ev_one_pure (M := (ev_Mof 203)) (pc := 1) (i := .iload_n 1) (len := 1) (pc' := 2) (lv' := [(0, .ref 0), (1, .int x1), (2, .int x2), (3, .int x3), (4, .int x4)]) (st' := [.int x1, .ref 0]) (by decide +kernel) rfl) ?_
  refine ev_go0 (ev_p_virt (M := (ev_Mof 203)) (pc := 2) (x := 156) (mi := 200) (na := 1) (by decide +kernel) (by decide +kernel) (by decide +kernel) (by decide +kernel) rfl rfl (ev_recv_of ev_fH0) (ev_k117 x1 hl_x1)) ?_
  refine ev_go0 (ev_w_astore (M := (ev_Mof 203)) (pc := 5) (k := 5) (lv' := [(5, .null), (0, .ref 0), (1, .int x1), (2, .int x2), (3, .int x3), (4, .int x4)]) (by decide +kernel) (by decide +kernel) (Or.inr (Or.inl rfl)) rfl) ?_
  refine ev_go0 (ev_one_pure (M := (ev_Mof 203)) (pc := 7) (i := .aload_n 0) (len := 1) (pc' := 8) (lv' := [(5, .null), (0, .ref 0), (1, .int x1), (2, .int x2), (3, .int x3), (4, .int x4)]) (st' := [.ref 0]) (by decide +kernel) rfl) ?_
  refine ev_go0 (ev_p_getf (M := (ev_Mof 203)) (pc := 8) (x := 48) (ci := 12) (f := 8) (fin := 1) (v := .ref 254) (by decide +kernel) (by decide +kernel) ev_fH0 rfl) ?_
  refine ev_go0 (ev_one_pure (M := (ev_Mof 203)) (pc := 11) (i := .iload_n 2) (len := 1) (pc' := 12) (lv' := [(5, .null), (0, .ref 0), (1, .int x1), (2, .int x2), (3, .int x3), (4, .int x4)]) (st' := [.int x2, .ref 254]) (by decide +kernel) rfl) ?_
  refine ev_go0 (ev_p_virt (M := (ev_Mof 203)) (pc := 12) (x := 221) (mi := 1) (na := 1) (by decide +kernel) (by decide +kernel) (by decide +kernel) (by decide +kernel) rfl rfl (ev_recv_of ev_fH254) (ev_k92 x2 hu_x2)) ?_
  refine ev_go0 (ev_w_astore (M := (ev_Mof 203)) (pc := 15) (k := 6) (lv' := [(6, .null), (5, .null), (0, .ref 0), (1, .int x1), (2, .int x2), (3, .int x3), (4, .int x4)]) (by decide +kernel) (by decide +kernel) (Or.inr (Or.inl rfl)) rfl) ?_
  refine ev_go0 (ev_one_pure (M := (ev_Mof 203)) (pc := 17) (i := .aload 5) (len := 2) (pc' := 19) (lv' := [(6, .null), (5, .null), (0, .ref 0), (1, .int x1), (2, .int x2), (3, .int x3), (4, .int x4)]) (st' := [.null]) (by decide +kernel) rfl) ?_
  refine ev_go0 (ev_w_ifnull (M := (ev_Mof 203)) (pc := 19) (o := 40) (t := 59) (by decide +kernel) (Or.inl ⟨rfl, rfl⟩)) ?_
  refine ev_go0 (ev_w_iconst (M := (ev_Mof 203)) (pc := 59) (k := 0) (v := 0) (by decide +kernel) (by decide +kernel)) ?_
  rfl
theorem ev_k119 (x1 : Int32) (hl_x1 : (0 : Int) ≤ x1.toInt) (x2 : Int32) (hu_x2 : x2.toInt ≤ (-1 : Int)) (x3 : Int32) (x4 : Int32) {n : Nat} : ev_calld 11 176 [.ref 0, .int x1, .int x2, .int x3, .int x4] ev_H0 n = some (.inr "java/lang/IndexOutOfBoundsException", ev_H0, n, 1, 6) := by
  refine ev_call_thrown (k := 7) (pcR := 12) (x := 160) (lv' := [(0, .ref 0), (1, .int x1), (2, .int x2), (3, .int x3), (4, .int x4)]) (by decide +kernel) rfl ?_ (by decide +kernel) (by decide +kernel) (by decide +kernel) (by decide) (by decide)
  show ev_stepn _ 7 (0, [(0, .ref 0), (1, .int x1), (2, .int x2), (3, .int x3), (4, .int x4)], [], _, _, 0, 0) = _
  refine ev_go0 (ev_one_pure (M := (ev_Mof 176)) (pc := 0) (i := .aload_n 0) (len := 1) (pc' := 1) (lv' := [(0, .ref 0), (1, .int x1), (2, .int x2), (3, .int x3), (4, .int x4)]) (st' := [.ref 0]) (by decide +kernel) rfl) ?_
  refine ev_go0 (ev_one_pure (M := (ev_Mof 176)) (pc := 1) (i := .iload_n 1) (len := 1) (pc' := 2) (lv' := [(0, .ref 0), (1, .int x1), (2, .int x2), (3, .int x3), (4, .int x4)]) (st' := [.int x1, .ref 0]) (by decide +kernel) rfl) ?_
  refine ev_go0 (ev_one_pure (M := (ev_Mof 176)) (pc := 2) (i := .iload_n 2) (len := 1) (pc' := 3) (lv' := [(0, .ref 0), (1, .int x1), (2, .int x2), (3, .int x3), (4, .int x4)]) (st' := [.int x2, .int x1, .ref 0]) (by decide +kernel) rfl) ?_
  refine ev_go0 (ev_one_pure (M := (ev_Mof 176)) (pc := 3) (i := .iload_n 3) (len := 1) (pc' := 4) (lv' := [(0, .ref 0), (1, .int x1), (2, .int x2), (3, .int x3), (4, .int x4)]) (st' := [.int x3, .int x2, .int x1, .ref 0]) (by decide +kernel) rfl) ?_
  refine ev_go0 (ev_one_pure (M := (ev_Mof 176)) (pc := 4) (i := .iload 4) (len := 2) (pc' := 6) (lv' := [(0, .ref 0), (1, .int x1), (2, .int x2), (3, .int x3), (4, .int x4)]) (st' := [.int x4, .int x3, .int x2, .int x1, .ref 0]) (by decide +kernel) rfl) ?_
  refine ev_go0 (ev_p_virt (M := (ev_Mof 176)) (pc := 6) (x := 205) (mi := 203) (na := 4) (by decide +kernel) (by decide +kernel) (by decide +kernel) (by decide +kernel) rfl rfl (ev_recv_of ev_fH0) (ev_k118 x1 hl_x1 x2 hu_x2 x3 x4)) ?_
  refine ev_go0 (ev_w_if (M := (ev_Mof 176)) (pc := 9) (q := .ne) (o := 13) (b := false) (t := 12) (by decide +kernel) (by decide +kernel) rfl) ?_
  rfl
theorem ev_k120 (x1 : Int32) (hl_x1 : (0 : Int) ≤ x1.toInt) (x2 : Int32) (hu_x2 : x2.toInt ≤ (-1 : Int)) (x3 : Int32) (x4 : Int32) {n : Nat} : ev_calld 12 373 [.ref 0, .int x1, .int x2, .int x3, .int x4, .ref 723] ev_H0 n = some (.inl (some (.int (1))), ev_H0, n, 1, 6) := by
  refine ev_call_int (k := 10) (pcR := 20) (lv' := [(6, .retAddr 1), (0, .ref 0), (1, .int x1), (2, .int x2), (3, .int x3), (4, .int x4), (5, .ref 723)]) (v := (1)) (ty := .int) (by decide +kernel) rfl ?_ (by decide +kernel) (by decide +kernel) (by decide +kernel) (by decide)
  show ev_stepn _ 10 (0, [(0, .ref 0), (1, .int x1), (2, .int x2), (3, .int x3), (4, .int x4), (5, .ref 723)], [], _, _, 0, 0) = _
  refine ev_go0 (ev_one_pure (M := (ev_Mof 373)) (pc := 0) (i := .aload 5) (len := 2) (pc' := 2) (lv' := [(0, .ref 0), (1, .int x1), (2, .int x2), (3, .int x3), (4, .int x4), (5, .ref 723)]) (st' := [.ref 723]) (by decide +kernel) rfl) ?_
  refine ev_go0 (ev_w_iconst (M := (ev_Mof 373)) (pc := 2) (k := 0) (v := 0) (by decide +kernel) (by decide +kernel)) ?_
  refine ev_go0 (ev_one_pure (M := (ev_Mof 373)) (pc := 3) (i := .aload_n 0) (len := 1) (pc' := 4) (lv' := [(0, .ref 0), (1, .int x1), (2, .int x2), (3, .int x3), (4, .int x4), (5, .ref 723)]) (st' := [.ref 0, .int (0), .ref 723]) (by decide +kernel) rfl) ?_
  refine ev_go0 (ev_one_pure (M := (ev_Mof 373)) (pc := 4) (i := .iload_n 1) (len := 1) (pc' := 5) (lv' := [(0, .ref 0), (1, .int x1), (2, .int x2), (3, .int x3), (4, .int x4), (5, .ref 723)]) (st' := [.int x1, .ref 0, .int (0), .ref 723]) (by decide +kernel) rfl) ?_
  refine ev_go0 (ev_one_pure (M := (ev_Mof 373)) (pc := 5) (i := .iload_n 2) (len := 1) (pc' := 6) (lv' := [(0, .ref 0), (1, .int x1), (2, .int x2), (3, .int x3), (4, .int x4), (5, .ref 723)]) (st' := [.int x2, .int x1, .ref 0, .int (0), .ref 723]) (by decide +kernel) rfl) ?_
  refine ev_go0 (ev_one_pure (M := (ev_Mof 373)) (pc := 6) (i := .iload_n 3) (len := 1) (pc' := 7) (lv' := [(0, .ref 0), (1, .int x1), (2, .int x2), (3, .int x3), (4, .int x4), (5, .ref 723)]) (st' := [.int x3, .int x2, .int x1, .ref 0, .int (0), .ref 723]) (by decide +kernel) rfl) ?_
  refine ev_go0 (ev_one_pure (M := (ev_Mof 373)) (pc := 7) (i := .iload 4) (len := 2) (pc' := 9) (lv' := [(0, .ref 0), (1, .int x1), (2, .int x2), (3, .int x3), (4, .int x4), (5, .ref 723)]) (st' := [.int x4, .int x3, .int x2, .int x1, .ref 0, .int (0), .ref 723]) (by decide +kernel) rfl) ?_
  refine ev_go (ev_p_virtX (M := (ev_Mof 373)) (pc := 9) (x := 46) (t := 17) (mi := 176) (na := 4) (by decide +kernel) (by decide +kernel) (by decide +kernel) (by decide +kernel) rfl rfl (ev_recv_of ev_fH0) (ev_k119 x1 hl_x1 x2 hu_x2 x3 x4) (by decide +kernel)) ?_
  refine ev_go0 (ev_w_astore (M := (ev_Mof 373)) (pc := 17) (k := 6) (lv' := [(6, .retAddr 1), (0, .ref 0), (1, .int x1), (2, .int x2), (3, .int x3), (4, .int x4), (5, .ref 723)]) (by decide +kernel) (by decide +kernel) (Or.inr (Or.inr ⟨_, rfl⟩)) rfl) ?_
  refine ev_go0 (ev_w_iconst (M := (ev_Mof 373)) (pc := 19) (k := 1) (v := 1) (by decide +kernel) (by decide +kernel)) ?_
  rfl
theorem ev_k121 (x1 : Int32) (hl_x1 : (0 : Int) ≤ x1.toInt) (x2 : Int32) (hu_x2 : x2.toInt ≤ (-1 : Int)) (x3 : Int32) (x4 : Int32) {n : Nat} : ev_calld 12 328 [.ref 621, .int x1, .int x2, .int x3, .int x4] ev_H0 n = some (.inl (some (.int (0))), (ev_H0.set 621 (.inr (13, (ev_F621.set 0 (.int (1)))))), n, 0, 0) := by
  refine ev_call_int (k := 11) (pcR := 49) (lv' := [(0, .ref 621), (1, .int x1), (2, .int x2), (3, .int x3), (4, .int x4)]) (v := (0)) (ty := .int) (by decide +kernel) rfl ?_ (by decide +kernel) (by decide +kernel) (by decide +kernel) (by decide)
  show ev_stepn _ 11 (0, [(0, .ref 621), (1, .int x1), (2, .int x2), (3, .int x3), (4, .int x4)], [], _, _, 0, 0) = _
  refine ev_go0 (ev_one_pure (M := (ev_Mof 328)) (pc := 0) (i := .aload_n 0) (len := 1) (pc' := 1) (lv' := [(0, .ref 621), (1, .int x1), (2, .int x2), (3, .int x3), (4, .int x4)]) (st' := [.ref 621]) (by decide +kernel) rfl) ?_
  refine ev_go0 (ev_one_pure (M := (ev_Mof 328)) (pc := 1) (i := .aload_n 0) (len := 1) (pc' := 2) (lv' := [(0, .ref 621), (1, .int x1), (2, .int x2), (3, .int x3), (4, .int x4)]) (st' := [.ref 621, .ref 621]) (by decide +kernel) rfl) ?_
  refine ev_go0 (ev_one_pure (M := (ev_Mof 328)) (pc := 2) (i := .iload_n 1) (len := 1) (pc' := 3) (lv' := [(0, .ref 621), (1, .int x1), (2, .int x2), (3, .int x3), (4, .int x4)]) (st' := [.int x1, .ref 621, .ref 621]) (by decide +kernel) rfl) ?_
  refine ev_go0 (ev_p_virt (M := (ev_Mof 328)) (pc := 3) (x := 531) (mi := 273) (na := 1) (by decide +kernel) (by decide +kernel) (by decide +kernel) (by decide +kernel) rfl rfl (ev_recv_of ev_fH621) (ev_k30 x1 hl_x1)) ?_
  refine ev_go0 (ev_w_if (M := (ev_Mof 328)) (pc := 6) (q := .eq) (o := 31) (b := true) (t := 37) (by decide +kernel) (by decide +kernel) rfl) ?_
  refine ev_go0 (ev_w_iconst (M := (ev_Mof 328)) (pc := 37) (k := 1) (v := 1) (by decide +kernel) (by decide +kernel)) ?_
  refine ev_go0 (ev_p_putf (M := (ev_Mof 328)) (pc := 38) (x := 321) (ci := 13) (f := 0) (by decide +kernel) (by decide +kernel) ev_fH621 rfl (by decide +kernel)) ?_
  refine ev_go0 (ev_one_pure (M := (ev_Mof 328)) (pc := 41) (i := .aload_n 0) (len := 1) (pc' := 42) (lv' := [(0, .ref 621), (1, .int x1), (2, .int x2), (3, .int x3), (4, .int x4)]) (st' := [.ref 621]) (by decide +kernel) rfl) ?_
  refine ev_go0 (ev_p_getf (M := (ev_Mof 328)) (pc := 42) (x := 321) (ci := 13) (f := 0) (fin := 0) (v := .int (1)) (by decide +kernel) (by decide +kernel) (ev_hself ev_fH621) rfl) ?_
  refine ev_go0 (ev_w_if (M := (ev_Mof 328)) (pc := 45) (q := .le) (o := 5) (b := false) (t := 48) (by decide +kernel) (by decide +kernel) rfl) ?_
  refine ev_go0 (ev_w_iconst (M := (ev_Mof 328)) (pc := 48) (k := 0) (v := 0) (by decide +kernel) (by decide +kernel)) ?_
  rfl
theorem ev_p1_10_pn (xs : Nat → Int32) (x1 : Int32) (hl_x1 : (0 : Int) ≤ x1.toInt) (x2 : Int32) (hu_x2 : x2.toInt ≤ (-1 : Int)) (x3 : Int32) (x4 : Int32) (e1 : xs 1 = x1) (e2 : xs 2 = x2) (e3 : xs 3 = x3) (e4 : xs 4 = x4) : ev_P1 xs 712 := by
  refine ⟨54, [(6, .int (0)), (5, .int (1)), (4, .int (0)), (3, .ref 723), (2, .ref 621), (1, .ref 0), (0, .retAddr 0)], (ev_H0.set 621 (.inr (13, (ev_F621.set 0 (.int (1)))))), 724, 725, 3553592, ?_, ⟨rfl, rfl, rfl, rfl⟩, rfl, by decide, by decide⟩
  show ev_stepn _ _ (712, [(4, .int (0)), (3, .ref 723), (2, .ref 621), (1, .ref 0), (0, .retAddr 0)], [], _, _, _, _) = _
  refine ev_go0 (ev_one_pure (M := ev_Mlaw) (pc := 712) (i := .aload_n 1) (len := 1) (pc' := 713) (lv' := [(4, .int (0)), (3, .ref 723), (2, .ref 621), (1, .ref 0), (0, .retAddr 0)]) (st' := [.ref 0]) (by decide +kernel) rfl) ?_
  refine ev_go0 (ev_one_pure (M := ev_Mlaw) (pc := 713) (i := .aload_n 0) (len := 1) (pc' := 714) (lv' := [(4, .int (0)), (3, .ref 723), (2, .ref 621), (1, .ref 0), (0, .retAddr 0)]) (st' := [.retAddr 0, .ref 0]) (by decide +kernel) rfl) ?_
  refine ev_go0 (ev_one_pure (M := ev_Mlaw) (pc := 714) (i := .iload 4) (len := 2) (pc' := 716) (lv' := [(4, .int (0)), (3, .ref 723), (2, .ref 621), (1, .ref 0), (0, .retAddr 0)]) (st' := [.int (0), .retAddr 0, .ref 0]) (by decide +kernel) rfl) ?_
  refine ev_go0 (ev_w_iconst (M := ev_Mlaw) (pc := 716) (k := 1) (v := 1) (by decide +kernel) (by decide +kernel)) ?_
  refine ev_go0 (ev_w_iadd (M := ev_Mlaw) (pc := 717) (v := (1)) (by decide +kernel) (by decide +kernel)) ?_
  refine ev_go0 (ev_w_scr (M := ev_Mlaw) (pc := 718) (v := x1) (j := 1) (by decide +kernel) (by decide +kernel) (by decide +kernel) e1) ?_
  refine ev_go0 (ev_one_pure (M := ev_Mlaw) (pc := 719) (i := .aload_n 0) (len := 1) (pc' := 720) (lv' := [(4, .int (0)), (3, .ref 723), (2, .ref 621), (1, .ref 0), (0, .retAddr 0)]) (st' := [.retAddr 0, .int x1, .ref 0]) (by decide +kernel) rfl) ?_
  refine ev_go0 (ev_one_pure (M := ev_Mlaw) (pc := 720) (i := .iload 4) (len := 2) (pc' := 722) (lv' := [(4, .int (0)), (3, .ref 723), (2, .ref 621), (1, .ref 0), (0, .retAddr 0)]) (st' := [.int (0), .retAddr 0, .int x1, .ref 0]) (by decide +kernel) rfl) ?_
  refine ev_go0 (ev_w_iconst (M := ev_Mlaw) (pc := 722) (k := 2) (v := 2) (by decide +kernel) (by decide +kernel)) ?_
  refine ev_go0 (ev_w_iadd (M := ev_Mlaw) (pc := 723) (v := (2)) (by decide +kernel) (by decide +kernel)) ?_
  refine ev_go0 (ev_w_scr (M := ev_Mlaw) (pc := 724) (v := x2) (j := 2) (by decide +kernel) (by decide +kernel) (by decide +kernel) e2) ?_
  refine ev_go0 (ev_one_pure (M := ev_Mlaw) (pc := 725) (i := .aload_n 0) (len := 1) (pc' := 726) (lv' := [(4, .int (0)), (3, .ref 723), (2, .ref 621), (1, .ref 0), (0, .retAddr 0)]) (st' := [.retAddr 0, .int x2, .int x1, .ref 0]) (by decide +kernel) rfl) ?_
  refine ev_go0 (ev_one_pure (M := ev_Mlaw) (pc := 726) (i := .iload 4) (len := 2) (pc' := 728) (lv' := [(4, .int (0)), (3, .ref 723), (2, .ref 621), (1, .ref 0), (0, .retAddr 0)]) (st' := [.int (0), .retAddr 0, .int x2, .int x1, .ref 0]) (by decide +kernel) rfl) ?_
  refine ev_go0 (ev_w_iconst (M := ev_Mlaw) (pc := 728) (k := 3) (v := 3) (by decide +kernel) (by decide +kernel)) ?_
  refine ev_go0 (ev_w_iadd (M := ev_Mlaw) (pc := 729) (v := (3)) (by decide +kernel) (by decide +kernel)) ?_
  refine ev_go0 (ev_w_scr (M := ev_Mlaw) (pc := 730) (v := x3) (j := 3) (by decide +kernel) (by decide +kernel) (by decide +kernel) e3) ?_
  refine ev_go0 (ev_one_pure (M := ev_Mlaw) (pc := 731) (i := .aload_n 0) (len := 1) (pc' := 732) (lv' := [(4, .int (0)), (3, .ref 723), (2, .ref 621), (1, .ref 0), (0, .retAddr 0)]) (st' := [.retAddr 0, .int x3, .int x2, .int x1, .ref 0]) (by decide +kernel) rfl) ?_
  refine ev_go0 (ev_one_pure (M := ev_Mlaw) (pc := 732) (i := .iload 4) (len := 2) (pc' := 734) (lv' := [(4, .int (0)), (3, .ref 723), (2, .ref 621), (1, .ref 0), (0, .retAddr 0)]) (st' := [.int (0), .retAddr 0, .int x3, .int x2, .int x1, .ref 0]) (by decide +kernel) rfl) ?_
  refine ev_go0 (ev_w_iconst (M := ev_Mlaw) (pc := 734) (k := 4) (v := 4) (by decide +kernel) (by decide +kernel)) ?_
  refine ev_go0 (ev_w_iadd (M := ev_Mlaw) (pc := 735) (v := (4)) (by decide +kernel) (by decide +kernel)) ?_
  refine ev_go0 (ev_w_scr (M := ev_Mlaw) (pc := 736) (v := x4) (j := 4) (by decide +kernel) (by decide +kernel) (by decide +kernel) e4) ?_
  refine ev_go0 (ev_one_pure (M := ev_Mlaw) (pc := 737) (i := .aload_n 3) (len := 1) (pc' := 738) (lv' := [(4, .int (0)), (3, .ref 723), (2, .ref 621), (1, .ref 0), (0, .retAddr 0)]) (st' := [.ref 723, .int x4, .int x3, .int x2, .int x1, .ref 0]) (by decide +kernel) rfl) ?_
  refine ev_go (ev_w_stat (M := ev_Mlaw) (pc := 738) (y := 164) (kind := 8) (Or.inr (Or.inr rfl)) (mi := 373) (na := 6) (by decide +kernel) (by decide +kernel) (by decide +kernel) (by decide +kernel) rfl rfl (ev_k120 x1 hl_x1 x2 hu_x2 x3 x4)) ?_
  refine ev_go0 (ev_w_istore (M := ev_Mlaw) (pc := 741) (k := 5) (lv' := [(5, .int (1)), (4, .int (0)), (3, .ref 723), (2, .ref 621), (1, .ref 0), (0, .retAddr 0)]) (by decide +kernel) (by decide +kernel) rfl) ?_
  refine ev_go0 (ev_one_pure (M := ev_Mlaw) (pc := 743) (i := .aload_n 2) (len := 1) (pc' := 744) (lv' := [(5, .int (1)), (4, .int (0)), (3, .ref 723), (2, .ref 621), (1, .ref 0), (0, .retAddr 0)]) (st' := [.ref 621]) (by decide +kernel) rfl) ?_
  refine ev_go0 (ev_one_pure (M := ev_Mlaw) (pc := 744) (i := .aload_n 0) (len := 1) (pc' := 745) (lv' := [(5, .int (1)), (4, .int (0)), (3, .ref 723), (2, .ref 621), (1, .ref 0), (0, .retAddr 0)]) (st' := [.retAddr 0, .ref 621]) (by decide +kernel) rfl) ?_
  refine ev_go0 (ev_one_pure (M := ev_Mlaw) (pc := 745) (i := .iload 4) (len := 2) (pc' := 747) (lv' := [(5, .int (1)), (4, .int (0)), (3, .ref 723), (2, .ref 621), (1, .ref 0), (0, .retAddr 0)]) (st' := [.int (0), .retAddr 0, .ref 621]) (by decide +kernel) rfl) ?_
  refine ev_go0 (ev_w_iconst (M := ev_Mlaw) (pc := 747) (k := 1) (v := 1) (by decide +kernel) (by decide +kernel)) ?_
  refine ev_go0 (ev_w_iadd (M := ev_Mlaw) (pc := 748) (v := (1)) (by decide +kernel) (by decide +kernel)) ?_
  refine ev_go0 (ev_w_scr (M := ev_Mlaw) (pc := 749) (v := x1) (j := 1) (by decide +kernel) (by decide +kernel) (by decide +kernel) e1) ?_
  refine ev_go0 (ev_one_pure (M := ev_Mlaw) (pc := 750) (i := .aload_n 0) (len := 1) (pc' := 751) (lv' := [(5, .int (1)), (4, .int (0)), (3, .ref 723), (2, .ref 621), (1, .ref 0), (0, .retAddr 0)]) (st' := [.retAddr 0, .int x1, .ref 621]) (by decide +kernel) rfl) ?_
  refine ev_go0 (ev_one_pure (M := ev_Mlaw) (pc := 751) (i := .iload 4) (len := 2) (pc' := 753) (lv' := [(5, .int (1)), (4, .int (0)), (3, .ref 723), (2, .ref 621), (1, .ref 0), (0, .retAddr 0)]) (st' := [.int (0), .retAddr 0, .int x1, .ref 621]) (by decide +kernel) rfl) ?_
  refine ev_go0 (ev_w_iconst (M := ev_Mlaw) (pc := 753) (k := 2) (v := 2) (by decide +kernel) (by decide +kernel)) ?_
  refine ev_go0 (ev_w_iadd (M := ev_Mlaw) (pc := 754) (v := (2)) (by decide +kernel) (by decide +kernel)) ?_
  refine ev_go0 (ev_w_scr (M := ev_Mlaw) (pc := 755) (v := x2) (j := 2) (by decide +kernel) (by decide +kernel) (by decide +kernel) e2) ?_
  refine ev_go0 (ev_one_pure (M := ev_Mlaw) (pc := 756) (i := .aload_n 0) (len := 1) (pc' := 757) (lv' := [(5, .int (1)), (4, .int (0)), (3, .ref 723), (2, .ref 621), (1, .ref 0), (0, .retAddr 0)]) (st' := [.retAddr 0, .int x2, .int x1, .ref 621]) (by decide +kernel) rfl) ?_
  refine ev_go0 (ev_one_pure (M := ev_Mlaw) (pc := 757) (i := .iload 4) (len := 2) (pc' := 759) (lv' := [(5, .int (1)), (4, .int (0)), (3, .ref 723), (2, .ref 621), (1, .ref 0), (0, .retAddr 0)]) (st' := [.int (0), .retAddr 0, .int x2, .int x1, .ref 621]) (by decide +kernel) rfl) ?_
  refine ev_go0 (ev_w_iconst (M := ev_Mlaw) (pc := 759) (k := 3) (v := 3) (by decide +kernel) (by decide +kernel)) ?_
  refine ev_go0 (ev_w_iadd (M := ev_Mlaw) (pc := 760) (v := (3)) (by decide +kernel) (by decide +kernel)) ?_
  refine ev_go0 (ev_w_scr (M := ev_Mlaw) (pc := 761) (v := x3) (j := 3) (by decide +kernel) (by decide +kernel) (by decide +kernel) e3) ?_
  refine ev_go0 (ev_one_pure (M := ev_Mlaw) (pc := 762) (i := .aload_n 0) (len := 1) (pc' := 763) (lv' := [(5, .int (1)), (4, .int (0)), (3, .ref 723), (2, .ref 621), (1, .ref 0), (0, .retAddr 0)]) (st' := [.retAddr 0, .int x3, .int x2, .int x1, .ref 621]) (by decide +kernel) rfl) ?_
  refine ev_go0 (ev_one_pure (M := ev_Mlaw) (pc := 763) (i := .iload 4) (len := 2) (pc' := 765) (lv' := [(5, .int (1)), (4, .int (0)), (3, .ref 723), (2, .ref 621), (1, .ref 0), (0, .retAddr 0)]) (st' := [.int (0), .retAddr 0, .int x3, .int x2, .int x1, .ref 621]) (by decide +kernel) rfl) ?_
  refine ev_go0 (ev_w_iconst (M := ev_Mlaw) (pc := 765) (k := 4) (v := 4) (by decide +kernel) (by decide +kernel)) ?_
  refine ev_go0 (ev_w_iadd (M := ev_Mlaw) (pc := 766) (v := (4)) (by decide +kernel) (by decide +kernel)) ?_
  refine ev_go0 (ev_w_scr (M := ev_Mlaw) (pc := 767) (v := x4) (j := 4) (by decide +kernel) (by decide +kernel) (by decide +kernel) e4) ?_
  refine ev_go0 (ev_p_virt (M := ev_Mlaw) (pc := 768) (x := 167) (mi := 328) (na := 4) (by decide +kernel) (by decide +kernel) (by decide +kernel) (by decide +kernel) rfl rfl (ev_recv_of ev_fH621) (ev_k121 x1 hl_x1 x2 hu_x2 x3 x4)) ?_
  refine ev_go0 (ev_w_istore (M := ev_Mlaw) (pc := 771) (k := 6) (lv' := [(6, .int (0)), (5, .int (1)), (4, .int (0)), (3, .ref 723), (2, .ref 621), (1, .ref 0), (0, .retAddr 0)]) (by decide +kernel) (by decide +kernel) rfl) ?_
  refine ev_go0 (ev_one_pure (M := ev_Mlaw) (pc := 773) (i := .aload_n 2) (len := 1) (pc' := 774) (lv' := [(6, .int (0)), (5, .int (1)), (4, .int (0)), (3, .ref 723), (2, .ref 621), (1, .ref 0), (0, .retAddr 0)]) (st' := [.ref 621]) (by decide +kernel) rfl) ?_
  refine ev_go0 (ev_p_virt (M := ev_Mlaw) (pc := 774) (x := 131) (mi := 220) (na := 0) (by decide +kernel) (by decide +kernel) (by decide +kernel) (by decide +kernel) rfl rfl (ev_recv_of (ev_hself ev_fH621)) ev_k26) ?_
  refine ev_go0 (ev_one_pure (M := ev_Mlaw) (pc := 777) (i := .iload 5) (len := 2) (pc' := 779) (lv' := [(6, .int (0)), (5, .int (1)), (4, .int (0)), (3, .ref 723), (2, .ref 621), (1, .ref 0), (0, .retAddr 0)]) (st' := [.int (1), .int (1)]) (by decide +kernel) rfl) ?_
  refine ev_go0 (ev_w_icmp (M := ev_Mlaw) (pc := 779) (q := .eq) (o := 5) (b := true) (t := 784) (by decide +kernel) (by decide +kernel) rfl) ?_
  refine ev_go0 (ev_one_pure (M := ev_Mlaw) (pc := 784) (i := .iload 5) (len := 2) (pc' := 786) (lv' := [(6, .int (0)), (5, .int (1)), (4, .int (0)), (3, .ref 723), (2, .ref 621), (1, .ref 0), (0, .retAddr 0)]) (st' := [.int (1)]) (by decide +kernel) rfl) ?_
  refine ev_go0 (ev_w_if (M := ev_Mlaw) (pc := 786) (q := .ne) (o := 15) (b := true) (t := 801) (by decide +kernel) (by decide +kernel) rfl) ?_
  refine ev_go0 (ev_one_pure (M := ev_Mlaw) (pc := 801) (i := .goto 1471) (len := 3) (pc' := 2272) (lv' := [(6, .int (0)), (5, .int (1)), (4, .int (0)), (3, .ref 723), (2, .ref 621), (1, .ref 0), (0, .retAddr 0)]) (st' := []) (by decide +kernel) rfl) ?_
  rfl
theorem ev_k122 (x1 : Int32) (hl_x1 : (0 : Int) ≤ x1.toInt) (x3 : Int32) (x4 : Int32) {n : Nat} : ev_calld 10 203 [.ref 0, .int x1, .int (0), .int x3, .int x4] ev_H0 n = some (.inl (some (.int (0))), ev_H0, n, 0, 0) := by
  refine ev_call_int (k := 12) (pcR := 60) (lv' := [(6, .ref 263), (5, .null), (0, .ref 0), (1, .int x1), (2, .int (0)), (3, .int x3), (4, .int x4)]) (v := (0)) (ty := .boolean) (by decide +kernel) rfl ?_ (by decide +kernel) (by decide +kernel) (by decide +kernel) (by decide)
  show ev_stepn _ 12 (0, [(0, .ref 0), (1, .int x1), (2, .int (0)), (3, .int x3), (4, .int x4)], [], _, _, 0, 0) = _
  refine ev_go0 (ev_one_pure (M := (ev_Mof 203)) (pc := 0) (i := .aload_n 0) (len := 1) (pc' := 1) (lv' := [(0, .ref 0), (1, .int x1), (2, .int (0)), (3, .int x3), (4, .int x4)]) (st' := [.ref 0]) (by decide +kernel) rfl) ?_
  refine ev_go0 (ev_one_pure (M := (ev_Mof 203)) (pc := 1) (i := .iload_n 1) (len := 1) (pc' := 2) (lv' := [(0, .ref 0), (1, .int x1), (2, .int (0)), (3, .int x3), (4, .int x4)]) (st' := [.int x1, .ref 0]) (by decide +kernel) rfl) ?_
  refine ev_go0 (ev_p_virt (M := (ev_Mof 203)) (pc := 2) (x := 156) (mi := 200) (na := 1) (by decide +kernel) (by decide +kernel) (by decide +kernel) (by decide +kernel) rfl rfl (ev_recv_of ev_fH0) (ev_k117 x1 hl_x1)) ?_
  refine ev_go0 (ev_w_astore (M := (ev_Mof 203)) (pc := 5) (k := 5) (lv' := [(5, .null), (0, .ref 0), (1, .int x1), (2, .int (0)), (3, .int x3), (4, .int x4)]) (by decide +kernel) (by decide +kernel) (Or.inr (Or.inl rfl)) rfl) ?_
  refine ev_go0 (ev_one_pure (M := (ev_Mof 203)) (pc := 7) (i := .aload_n 0) (len := 1) (pc' := 8) (lv' := [(5, .null), (0, .ref 0), (1, .int x1), (2, .int (0)), (3, .int x3), (4, .int x4)]) (st' := [.ref 0]) (by decide +kernel) rfl) ?_
  refine ev_go0 (ev_p_getf (M := (ev_Mof 203)) (pc := 8) (x := 48) (ci := 12) (f := 8) (fin := 1) (v := .ref 254) (by decide +kernel) (by decide +kernel) ev_fH0 rfl) ?_
  refine ev_go0 (ev_one_pure (M := (ev_Mof 203)) (pc := 11) (i := .iload_n 2) (len := 1) (pc' := 12) (lv' := [(5, .null), (0, .ref 0), (1, .int x1), (2, .int (0)), (3, .int x3), (4, .int x4)]) (st' := [.int (0), .ref 254]) (by decide +kernel) rfl) ?_
  refine ev_go0 (ev_p_virt (M := (ev_Mof 203)) (pc := 12) (x := 221) (mi := 1) (na := 1) (by decide +kernel) (by decide +kernel) (by decide +kernel) (by decide +kernel) rfl rfl (ev_recv_of ev_fH254) ev_k97) ?_
  refine ev_go0 (ev_w_astore (M := (ev_Mof 203)) (pc := 15) (k := 6) (lv' := [(6, .ref 263), (5, .null), (0, .ref 0), (1, .int x1), (2, .int (0)), (3, .int x3), (4, .int x4)]) (by decide +kernel) (by decide +kernel) (Or.inl ⟨_, rfl⟩) rfl) ?_
  refine ev_go0 (ev_one_pure (M := (ev_Mof 203)) (pc := 17) (i := .aload 5) (len := 2) (pc' := 19) (lv' := [(6, .ref 263), (5, .null), (0, .ref 0), (1, .int x1), (2, .int (0)), (3, .int x3), (4, .int x4)]) (st' := [.null]) (by decide +kernel) rfl) ?_
  refine ev_go0 (ev_w_ifnull (M := (ev_Mof 203)) (pc := 19) (o := 40) (t := 59) (by decide +kernel) (Or.inl ⟨rfl, rfl⟩)) ?_
  refine ev_go0 (ev_w_iconst (M := (ev_Mof 203)) (pc := 59) (k := 0) (v := 0) (by decide +kernel) (by decide +kernel)) ?_
  rfl
theorem ev_k123 (x1 : Int32) (hl_x1 : (0 : Int) ≤ x1.toInt) (x3 : Int32) (x4 : Int32) {n : Nat} : ev_calld 11 176 [.ref 0, .int x1, .int (0), .int x3, .int x4] ev_H0 n = some (.inr "java/lang/IndexOutOfBoundsException", ev_H0, n, 1, 6) := by
  refine ev_call_thrown (k := 7) (pcR := 12) (x := 160) (lv' := [(0, .ref 0), (1, .int x1), (2, .int (0)), (3, .int x3), (4, .int x4)]) (by decide +kernel) rfl ?_ (by decide +kernel) (by decide +kernel) (by decide +kernel) (by decide) (by decide)
  show ev_stepn _ 7 (0, [(0, .ref 0), (1, .int x1), (2, .int (0)), (3, .int x3), (4, .int x4)], [], _, _, 0, 0) = _
  refine ev_go0 (ev_one_pure (M := (ev_Mof 176)) (pc := 0) (i := .aload_n 0) (len := 1) (pc' := 1) (lv' := [(0, .ref 0), (1, .int x1), (2, .int (0)), (3, .int x3), (4, .int x4)]) (st' := [.ref 0]) (by decide +kernel) rfl) ?_
  refine ev_go0 (ev_one_pure (M := (ev_Mof 176)) (pc := 1) (i := .iload_n 1) (len := 1) (pc' := 2) (lv' := [(0, .ref 0), (1, .int x1), (2, .int (0)), (3, .int x3), (4, .int x4)]) (st' := [.int x1, .ref 0]) (by decide +kernel) rfl) ?_
  refine ev_go0 (ev_one_pure (M := (ev_Mof 176)) (pc := 2) (i := .iload_n 2) (len := 1) (pc' := 3) (lv' := [(0, .ref 0), (1, .int x1), (2, .int (0)), (3, .int x3), (4, .int x4)]) (st' := [.int (0), .int x1, .ref 0]) (by decide +kernel) rfl) ?_
  refine ev_go0 (ev_one_pure (M := (ev_Mof 176)) (pc := 3) (i := .iload_n 3) (len := 1) (pc' := 4) (lv' := [(0, .ref 0), (1, .int x1), (2, .int (0)), (3, .int x3), (4, .int x4)]) (st' := [.int x3, .int (0), .int x1, .ref 0]) (by decide +kernel) rfl) ?_
  refine ev_go0 (ev_one_pure (M := (ev_Mof 176)) (pc := 4) (i := .iload 4) (len := 2) (pc' := 6) (lv' := [(0, .ref 0), (1, .int x1), (2, .int (0)), (3, .int x3), (4, .int x4)]) (st' := [.int x4, .int x3, .int (0), .int x1, .ref 0]) (by decide +kernel) rfl) ?_
  refine ev_go0 (ev_p_virt (M := (ev_Mof 176)) (pc := 6) (x := 205) (mi := 203) (na := 4) (by decide +kernel) (by decide +kernel) (by decide +kernel) (by decide +kernel) rfl rfl (ev_recv_of ev_fH0) (ev_k122 x1 hl_x1 x3 x4)) ?_
  refine ev_go0 (ev_w_if (M := (ev_Mof 176)) (pc := 9) (q := .ne) (o := 13) (b := false) (t := 12) (by decide +kernel) (by decide +kernel) rfl) ?_
  rfl
theorem ev_k124 (x1 : Int32) (hl_x1 : (0 : Int) ≤ x1.toInt) (x3 : Int32) (x4 : Int32) {n : Nat} : ev_calld 12 373 [.ref 0, .int x1, .int (0), .int x3, .int x4, .ref 723] ev_H0 n = some (.inl (some (.int (1))), ev_H0, n, 1, 6) := by
  refine ev_call_int (k := 10) (pcR := 20) (lv' := [(6, .retAddr 1), (0, .ref 0), (1, .int x1), (2, .int (0)), (3, .int x3), (4, .int x4), (5, .ref 723)]) (v := (1)) (ty := .int) (by decide +kernel) rfl ?_ (by decide +kernel) (by decide +kernel) (by decide +kernel) (by decide)
  show ev_stepn _ 10 (0, [(0, .ref 0), (1, .int x1), (2, .int (0)), (3, .int x3), (4, .int x4), (5, .ref 723)], [], _, _, 0, 0) = _
  refine ev_go0 (ev_one_pure (M := (ev_Mof 373)) (pc := 0) (i := .aload 5) (len := 2) (pc' := 2) (lv' := [(0, .ref 0), (1, .int x1), (2, .int (0)), (3, .int x3), (4, .int x4), (5, .ref 723)]) (st' := [.ref 723]) (by decide +kernel) rfl) ?_
  refine ev_go0 (ev_w_iconst (M := (ev_Mof 373)) (pc := 2) (k := 0) (v := 0) (by decide +kernel) (by decide +kernel)) ?_
  refine ev_go0 (ev_one_pure (M := (ev_Mof 373)) (pc := 3) (i := .aload_n 0) (len := 1) (pc' := 4) (lv' := [(0, .ref 0), (1, .int x1), (2, .int (0)), (3, .int x3), (4, .int x4), (5, .ref 723)]) (st' := [.ref 0, .int (0), .ref 723]) (by decide +kernel) rfl) ?_
  refine ev_go0 (ev_one_pure (M := (ev_Mof 373)) (pc := 4) (i := .iload_n 1) (len := 1) (pc' := 5) (lv' := [(0, .ref 0), (1, .int x1), (2, .int (0)), (3, .int x3), (4, .int x4), (5, .ref 723)]) (st' := [.int x1, .ref 0, .int (0), .ref 723]) (by decide +kernel) rfl) ?_
  refine ev_go0 (ev_one_pure (M := (ev_Mof 373)) (pc := 5) (i := .iload_n 2) (len := 1) (pc' := 6) (lv' := [(0, .ref 0), (1, .int x1), (2, .int (0)), (3, .int x3), (4, .int x4), (5, .ref 723)]) (st' := [.int (0), .int x1, .ref 0, .int (0), .ref 723]) (by decide +kernel) rfl) ?_
  refine ev_go0 (ev_one_pure (M := (ev_Mof 373)) (pc := 6) (i := .iload_n 3) (len := 1) (pc' := 7) (lv' := [(0, .ref 0), (1, .int x1), (2, .int (0)), (3, .int x3), (4, .int x4), (5, .ref 723)]) (st' := [.int x3, .int (0), .int x1, .ref 0, .int (0), .ref 723]) (by decide +kernel) rfl) ?_
  refine ev_go0 (ev_one_pure (M := (ev_Mof 373)) (pc := 7) (i := .iload 4) (len := 2) (pc' := 9) (lv' := [(0, .ref 0), (1, .int x1), (2, .int (0)), (3, .int x3), (4, .int x4), (5, .ref 723)]) (st' := [.int x4, .int x3, .int (0), .int x1, .ref 0, .int (0), .ref 723]) (by decide +kernel) rfl) ?_
  refine ev_go (ev_p_virtX (M := (ev_Mof 373)) (pc := 9) (x := 46) (t := 17) (mi := 176) (na := 4) (by decide +kernel) (by decide +kernel) (by decide +kernel) (by decide +kernel) rfl rfl (ev_recv_of ev_fH0) (ev_k123 x1 hl_x1 x3 x4) (by decide +kernel)) ?_
  refine ev_go0 (ev_w_astore (M := (ev_Mof 373)) (pc := 17) (k := 6) (lv' := [(6, .retAddr 1), (0, .ref 0), (1, .int x1), (2, .int (0)), (3, .int x3), (4, .int x4), (5, .ref 723)]) (by decide +kernel) (by decide +kernel) (Or.inr (Or.inr ⟨_, rfl⟩)) rfl) ?_
  refine ev_go0 (ev_w_iconst (M := (ev_Mof 373)) (pc := 19) (k := 1) (v := 1) (by decide +kernel) (by decide +kernel)) ?_
  rfl
theorem ev_k125 (x1 : Int32) (hl_x1 : (0 : Int) ≤ x1.toInt) (x3 : Int32) (x4 : Int32) {n : Nat} : ev_calld 12 328 [.ref 621, .int x1, .int (0), .int x3, .int x4] ev_H0 n = some (.inl (some (.int (0))), (ev_H0.set 621 (.inr (13, (ev_F621.set 0 (.int (1)))))), n, 0, 0) := by
  refine ev_call_int (k := 11) (pcR := 49) (lv' := [(0, .ref 621), (1, .int x1), (2, .int (0)), (3, .int x3), (4, .int x4)]) (v := (0)) (ty := .int) (by decide +kernel) rfl ?_ (by decide +kernel) (by decide +kernel) (by decide +kernel) (by decide)
  show ev_stepn _ 11 (0, [(0, .ref 621), (1, .int x1), (2, .int (0)), (3, .int x3), (4, .int x4)], [], _, _, 0, 0) = _
  refine ev_go0 (ev_one_pure (M := (ev_Mof 328)) (pc := 0) (i := .aload_n 0) (len := 1) (pc' := 1) (lv' := [(0, .ref 621), (1, .int x1), (2, .int (0)), (3, .int x3), (4, .int x4)]) (st' := [.ref 621]) (by decide +kernel) rfl) ?_
  refine ev_go0 (ev_one_pure (M := (ev_Mof 328)) (pc := 1) (i := .aload_n 0) (len := 1) (pc' := 2) (lv' := [(0, .ref 621), (1, .int x1), (2, .int (0)), (3, .int x3), (4, .int x4)]) (st' := [.ref 621, .ref 621]) (by decide +kernel) rfl) ?_
  refine ev_go0 (ev_one_pure (M := (ev_Mof 328)) (pc := 2) (i := .iload_n 1) (len := 1) (pc' := 3) (lv' := [(0, .ref 621), (1, .int x1), (2, .int (0)), (3, .int x3), (4, .int x4)]) (st' := [.int x1, .ref 621, .ref 621]) (by decide +kernel) rfl) ?_
  refine ev_go0 (ev_p_virt (M := (ev_Mof 328)) (pc := 3) (x := 531) (mi := 273) (na := 1) (by decide +kernel) (by decide +kernel) (by decide +kernel) (by decide +kernel) rfl rfl (ev_recv_of ev_fH621) (ev_k30 x1 hl_x1)) ?_
  refine ev_go0 (ev_w_if (M := (ev_Mof 328)) (pc := 6) (q := .eq) (o := 31) (b := true) (t := 37) (by decide +kernel) (by decide +kernel) rfl) ?_
  refine ev_go0 (ev_w_iconst (M := (ev_Mof 328)) (pc := 37) (k := 1) (v := 1) (by decide +kernel) (by decide +kernel)) ?_
  refine ev_go0 (ev_p_putf (M := (ev_Mof 328)) (pc := 38) (x := 321) (ci := 13) (f := 0) (by decide +kernel) (by decide +kernel) ev_fH621 rfl (by decide +kernel)) ?_
  refine ev_go0 (ev_one_pure (M := (ev_Mof 328)) (pc := 41) (i := .aload_n 0) (len := 1) (pc' := 42) (lv' := [(0, .ref 621), (1, .int x1), (2, .int (0)), (3, .int x3), (4, .int x4)]) (st' := [.ref 621]) (by decide +kernel) rfl) ?_
  refine ev_go0 (ev_p_getf (M := (ev_Mof 328)) (pc := 42) (x := 321) (ci := 13) (f := 0) (fin := 0) (v := .int (1)) (by decide +kernel) (by decide +kernel) (ev_hself ev_fH621) rfl) ?_
  refine ev_go0 (ev_w_if (M := (ev_Mof 328)) (pc := 45) (q := .le) (o := 5) (b := false) (t := 48) (by decide +kernel) (by decide +kernel) rfl) ?_
  refine ev_go0 (ev_w_iconst (M := (ev_Mof 328)) (pc := 48) (k := 0) (v := 0) (by decide +kernel) (by decide +kernel)) ?_
  rfl
theorem ev_p1_10_p0 (xs : Nat → Int32) (x1 : Int32) (hl_x1 : (0 : Int) ≤ x1.toInt) (x3 : Int32) (x4 : Int32) (e1 : xs 1 = x1) (e2 : xs 2 = (0)) (e3 : xs 3 = x3) (e4 : xs 4 = x4) : ev_P1 xs 712 := by
  refine ⟨54, [(6, .int (0)), (5, .int (1)), (4, .int (0)), (3, .ref 723), (2, .ref 621), (1, .ref 0), (0, .retAddr 0)], (ev_H0.set 621 (.inr (13, (ev_F621.set 0 (.int (1)))))), 724, 725, 3553592, ?_, ⟨rfl, rfl, rfl, rfl⟩, rfl, by decide, by decide⟩
  show ev_stepn _ _ (712, [(4, .int (0)), (3, .ref 723), (2, .ref 621), (1, .ref 0), (0, .retAddr 0)], [], _, _, _, _) = _
  refine ev_go0 (ev_one_pure (M := ev_Mlaw) (pc := 712) (i := .aload_n 1) (len := 1) (pc' := 713) (lv' := [(4, .int (0)), (3, .ref 723), (2, .ref 621), (1, .ref 0), (0, .retAddr 0)]) (st' := [.ref 0]) (by decide +kernel) rfl) ?_
  refine ev_go0 (ev_one_pure (M := ev_Mlaw) (pc := 713) (i := .aload_n 0) (len := 1) (pc' := 714) (lv' := [(4, .int (0)), (3, .ref 723), (2, .ref 621), (1, .ref 0), (0, .retAddr 0)]) (st' := [.retAddr 0, .ref 0]) (by decide +kernel) rfl) ?_
  refine ev_go0 (ev_one_pure (M := ev_Mlaw) (pc := 714) (i := .iload 4) (len := 2) (pc' := 716) (lv' := [(4, .int (0)), (3, .ref 723), (2, .ref 621), (1, .ref 0), (0, .retAddr 0)]) (st' := [.int (0), .retAddr 0, .ref 0]) (by decide +kernel) rfl) ?_
  refine ev_go0 (ev_w_iconst (M := ev_Mlaw) (pc := 716) (k := 1) (v := 1) (by decide +kernel) (by decide +kernel)) ?_
  refine ev_go0 (ev_w_iadd (M := ev_Mlaw) (pc := 717) (v := (1)) (by decide +kernel) (by decide +kernel)) ?_
  refine ev_go0 (ev_w_scr (M := ev_Mlaw) (pc := 718) (v := x1) (j := 1) (by decide +kernel) (by decide +kernel) (by decide +kernel) e1) ?_
  refine ev_go0 (ev_one_pure (M := ev_Mlaw) (pc := 719) (i := .aload_n 0) (len := 1) (pc' := 720) (lv' := [(4, .int (0)), (3, .ref 723), (2, .ref 621), (1, .ref 0), (0, .retAddr 0)]) (st' := [.retAddr 0, .int x1, .ref 0]) (by decide +kernel) rfl) ?_
  refine ev_go0 (ev_one_pure (M := ev_Mlaw) (pc := 720) (i := .iload 4) (len := 2) (pc' := 722) (lv' := [(4, .int (0)), (3, .ref 723), (2, .ref 621), (1, .ref 0), (0, .retAddr 0)]) (st' := [.int (0), .retAddr 0, .int x1, .ref 0]) (by decide +kernel) rfl) ?_
  refine ev_go0 (ev_w_iconst (M := ev_Mlaw) (pc := 722) (k := 2) (v := 2) (by decide +kernel) (by decide +kernel)) ?_
  refine ev_go0 (ev_w_iadd (M := ev_Mlaw) (pc := 723) (v := (2)) (by decide +kernel) (by decide +kernel)) ?_
  refine ev_go0 (ev_w_scr (M := ev_Mlaw) (pc := 724) (v := (0)) (j := 2) (by decide +kernel) (by decide +kernel) (by decide +kernel) e2) ?_
  refine ev_go0 (ev_one_pure (M := ev_Mlaw) (pc := 725) (i := .aload_n 0) (len := 1) (pc' := 726) (lv' := [(4, .int (0)), (3, .ref 723), (2, .ref 621), (1, .ref 0), (0, .retAddr 0)]) (st' := [.retAddr 0, .int (0), .int x1, .ref 0]) (by decide +kernel) rfl) ?_
  refine ev_go0 (ev_one_pure (M := ev_Mlaw) (pc := 726) (i := .iload 4) (len := 2) (pc' := 728) (lv' := [(4, .int (0)), (3, .ref 723), (2, .ref 621), (1, .ref 0), (0, .retAddr 0)]) (st' := [.int (0), .retAddr 0, .int (0), .int x1, .ref 0]) (by decide +kernel) rfl) ?_
  refine ev_go0 (ev_w_iconst (M := ev_Mlaw) (pc := 728) (k := 3) (v := 3) (by decide +kernel) (by decide +kernel)) ?_
  refine ev_go0 (ev_w_iadd (M := ev_Mlaw) (pc := 729) (v := (3)) (by decide +kernel) (by decide +kernel)) ?_
  refine ev_go0 (ev_w_scr (M := ev_Mlaw) (pc := 730) (v := x3) (j := 3) (by decide +kernel) (by decide +kernel) (by decide +kernel) e3) ?_
  refine ev_go0 (ev_one_pure (M := ev_Mlaw) (pc := 731) (i := .aload_n 0) (len := 1) (pc' := 732) (lv' := [(4, .int (0)), (3, .ref 723), (2, .ref 621), (1, .ref 0), (0, .retAddr 0)]) (st' := [.retAddr 0, .int x3, .int (0), .int x1, .ref 0]) (by decide +kernel) rfl) ?_
  refine ev_go0 (ev_one_pure (M := ev_Mlaw) (pc := 732) (i := .iload 4) (len := 2) (pc' := 734) (lv' := [(4, .int (0)), (3, .ref 723), (2, .ref 621), (1, .ref 0), (0, .retAddr 0)]) (st' := [.int (0), .retAddr 0, .int x3, .int (0), .int x1, .ref 0]) (by decide +kernel) rfl) ?_
  refine ev_go0 (ev_w_iconst (M := ev_Mlaw) (pc := 734) (k := 4) (v := 4) (by decide +kernel) (by decide +kernel)) ?_
  refine ev_go0 (ev_w_iadd (M := ev_Mlaw) (pc := 735) (v := (4)) (by decide +kernel) (by decide +kernel)) ?_
  refine ev_go0 (ev_w_scr (M := ev_Mlaw) (pc := 736) (v := x4) (j := 4) (by decide +kernel) (by decide +kernel) (by decide +kernel) e4) ?_
  refine ev_go0 (ev_one_pure (M := ev_Mlaw) (pc := 737) (i := .aload_n 3) (len := 1) (pc' := 738) (lv' := [(4, .int (0)), (3, .ref 723), (2, .ref 621), (1, .ref 0), (0, .retAddr 0)]) (st' := [.ref 723, .int x4, .int x3, .int (0), .int x1, .ref 0]) (by decide +kernel) rfl) ?_
  refine ev_go (ev_w_stat (M := ev_Mlaw) (pc := 738) (y := 164) (kind := 8) (Or.inr (Or.inr rfl)) (mi := 373) (na := 6) (by decide +kernel) (by decide +kernel) (by decide +kernel) (by decide +kernel) rfl rfl (ev_k124 x1 hl_x1 x3 x4)) ?_
  refine ev_go0 (ev_w_istore (M := ev_Mlaw) (pc := 741) (k := 5) (lv' := [(5, .int (1)), (4, .int (0)), (3, .ref 723), (2, .ref 621), (1, .ref 0), (0, .retAddr 0)]) (by decide +kernel) (by decide +kernel) rfl) ?_
  refine ev_go0 (ev_one_pure (M := ev_Mlaw) (pc := 743) (i := .aload_n 2) (len := 1) (pc' := 744) (lv' := [(5, .int (1)), (4, .int (0)), (3, .ref 723), (2, .ref 621), (1, .ref 0), (0, .retAddr 0)]) (st' := [.ref 621]) (by decide +kernel) rfl) ?_
  refine ev_go0 (ev_one_pure (M := ev_Mlaw) (pc := 744) (i := .aload_n 0) (len := 1) (pc' := 745) (lv' := [(5, .int (1)), (4, .int (0)), (3, .ref 723), (2, .ref 621), (1, .ref 0), (0, .retAddr 0)]) (st' := [.retAddr 0, .ref 621]) (by decide +kernel) rfl) ?_
  refine ev_go0 (ev_one_pure (M := ev_Mlaw) (pc := 745) (i := .iload 4) (len := 2) (pc' := 747) (lv' := [(5, .int (1)), (4, .int (0)), (3, .ref 723), (2, .ref 621), (1, .ref 0), (0, .retAddr 0)]) (st' := [.int (0), .retAddr 0, .ref 621]) (by decide +kernel) rfl) ?_
  refine ev_go0 (ev_w_iconst (M := ev_Mlaw) (pc := 747) (k := 1) (v := 1) (by decide +kernel) (by decide +kernel)) ?_
  refine ev_go0 (ev_w_iadd (M := ev_Mlaw) (pc := 748) (v := (1)) (by decide +kernel) (by decide +kernel)) ?_
  refine ev_go0 (ev_w_scr (M := ev_Mlaw) (pc := 749) (v := x1) (j := 1) (by decide +kernel) (by decide +kernel) (by decide +kernel) e1) ?_
  refine ev_go0 (ev_one_pure (M := ev_Mlaw) (pc := 750) (i := .aload_n 0) (len := 1) (pc' := 751) (lv' := [(5, .int (1)), (4, .int (0)), (3, .ref 723), (2, .ref 621), (1, .ref 0), (0, .retAddr 0)]) (st' := [.retAddr 0, .int x1, .ref 621]) (by decide +kernel) rfl) ?_
  refine ev_go0 (ev_one_pure (M := ev_Mlaw) (pc := 751) (i := .iload 4) (len := 2) (pc' := 753) (lv' := [(5, .int (1)), (4, .int (0)), (3, .ref 723), (2, .ref 621), (1, .ref 0), (0, .retAddr 0)]) (st' := [.int (0), .retAddr 0, .int x1, .ref 621]) (by decide +kernel) rfl) ?_
  refine ev_go0 (ev_w_iconst (M := ev_Mlaw) (pc := 753) (k := 2) (v := 2) (by decide +kernel) (by decide +kernel)) ?_
  refine ev_go0 (ev_w_iadd (M := ev_Mlaw) (pc := 754) (v := (2)) (by decide +kernel) (by decide +kernel)) ?_
  refine ev_go0 (ev_w_scr (M := ev_Mlaw) (pc := 755) (v := (0)) (j := 2) (by decide +kernel) (by decide +kernel) (by decide +kernel) e2) ?_
  refine ev_go0 (ev_one_pure (M := ev_Mlaw) (pc := 756) (i := .aload_n 0) (len := 1) (pc' := 757) (lv' := [(5, .int (1)), (4, .int (0)), (3, .ref 723), (2, .ref 621), (1, .ref 0), (0, .retAddr 0)]) (st' := [.retAddr 0, .int (0), .int x1, .ref 621]) (by decide +kernel) rfl) ?_
  refine ev_go0 (ev_one_pure (M := ev_Mlaw) (pc := 757) (i := .iload 4) (len := 2) (pc' := 759) (lv' := [(5, .int (1)), (4, .int (0)), (3, .ref 723), (2, .ref 621), (1, .ref 0), (0, .retAddr 0)]) (st' := [.int (0), .retAddr 0, .int (0), .int x1, .ref 621]) (by decide +kernel) rfl) ?_
  refine ev_go0 (ev_w_iconst (M := ev_Mlaw) (pc := 759) (k := 3) (v := 3) (by decide +kernel) (by decide +kernel)) ?_
  refine ev_go0 (ev_w_iadd (M := ev_Mlaw) (pc := 760) (v := (3)) (by decide +kernel) (by decide +kernel)) ?_
  refine ev_go0 (ev_w_scr (M := ev_Mlaw) (pc := 761) (v := x3) (j := 3) (by decide +kernel) (by decide +kernel) (by decide +kernel) e3) ?_
  refine ev_go0 (ev_one_pure (M := ev_Mlaw) (pc := 762) (i := .aload_n 0) (len := 1) (pc' := 763) (lv' := [(5, .int (1)), (4, .int (0)), (3, .ref 723), (2, .ref 621), (1, .ref 0), (0, .retAddr 0)]) (st' := [.retAddr 0, .int x3, .int (0), .int x1, .ref 621]) (by decide +kernel) rfl) ?_
  refine ev_go0 (ev_one_pure (M := ev_Mlaw) (pc := 763) (i := .iload 4) (len := 2) (pc' := 765) (lv' := [(5, .int (1)), (4, .int (0)), (3, .ref 723), (2, .ref 621), (1, .ref 0), (0, .retAddr 0)]) (st' := [.int (0), .retAddr 0, .int x3, .int (0), .int x1, .ref 621]) (by decide +kernel) rfl) ?_
  refine ev_go0 (ev_w_iconst (M := ev_Mlaw) (pc := 765) (k := 4) (v := 4) (by decide +kernel) (by decide +kernel)) ?_
  refine ev_go0 (ev_w_iadd (M := ev_Mlaw) (pc := 766) (v := (4)) (by decide +kernel) (by decide +kernel)) ?_
  refine ev_go0 (ev_w_scr (M := ev_Mlaw) (pc := 767) (v := x4) (j := 4) (by decide +kernel) (by decide +kernel) (by decide +kernel) e4) ?_
  refine ev_go0 (ev_p_virt (M := ev_Mlaw) (pc := 768) (x := 167) (mi := 328) (na := 4) (by decide +kernel) (by decide +kernel) (by decide +kernel) (by decide +kernel) rfl rfl (ev_recv_of ev_fH621) (ev_k125 x1 hl_x1 x3 x4)) ?_
  refine ev_go0 (ev_w_istore (M := ev_Mlaw) (pc := 771) (k := 6) (lv' := [(6, .int (0)), (5, .int (1)), (4, .int (0)), (3, .ref 723), (2, .ref 621), (1, .ref 0), (0, .retAddr 0)]) (by decide +kernel) (by decide +kernel) rfl) ?_
  refine ev_go0 (ev_one_pure (M := ev_Mlaw) (pc := 773) (i := .aload_n 2) (len := 1) (pc' := 774) (lv' := [(6, .int (0)), (5, .int (1)), (4, .int (0)), (3, .ref 723), (2, .ref 621), (1, .ref 0), (0, .retAddr 0)]) (st' := [.ref 621]) (by decide +kernel) rfl) ?_
  refine ev_go0 (ev_p_virt (M := ev_Mlaw) (pc := 774) (x := 131) (mi := 220) (na := 0) (by decide +kernel) (by decide +kernel) (by decide +kernel) (by decide +kernel) rfl rfl (ev_recv_of (ev_hself ev_fH621)) ev_k26) ?_
  refine ev_go0 (ev_one_pure (M := ev_Mlaw) (pc := 777) (i := .iload 5) (len := 2) (pc' := 779) (lv' := [(6, .int (0)), (5, .int (1)), (4, .int (0)), (3, .ref 723), (2, .ref 621), (1, .ref 0), (0, .retAddr 0)]) (st' := [.int (1), .int (1)]) (by decide +kernel) rfl) ?_
  refine ev_go0 (ev_w_icmp (M := ev_Mlaw) (pc := 779) (q := .eq) (o := 5) (b := true) (t := 784) (by decide +kernel) (by decide +kernel) rfl) ?_
  refine ev_go0 (ev_one_pure (M := ev_Mlaw) (pc := 784) (i := .iload 5) (len := 2) (pc' := 786) (lv' := [(6, .int (0)), (5, .int (1)), (4, .int (0)), (3, .ref 723), (2, .ref 621), (1, .ref 0), (0, .retAddr 0)]) (st' := [.int (1)]) (by decide +kernel) rfl) ?_
  refine ev_go0 (ev_w_if (M := ev_Mlaw) (pc := 786) (q := .ne) (o := 15) (b := true) (t := 801) (by decide +kernel) (by decide +kernel) rfl) ?_
  refine ev_go0 (ev_one_pure (M := ev_Mlaw) (pc := 801) (i := .goto 1471) (len := 3) (pc' := 2272) (lv' := [(6, .int (0)), (5, .int (1)), (4, .int (0)), (3, .ref 723), (2, .ref 621), (1, .ref 0), (0, .retAddr 0)]) (st' := []) (by decide +kernel) rfl) ?_
  rfl
theorem ev_k126 (x1 : Int32) (hl_x1 : (0 : Int) ≤ x1.toInt) (x3 : Int32) (x4 : Int32) {n : Nat} : ev_calld 10 203 [.ref 0, .int x1, .int (1), .int x3, .int x4] ev_H0 n = some (.inl (some (.int (0))), ev_H0, n, 0, 0) := by
  refine ev_call_int (k := 12) (pcR := 60) (lv' := [(6, .ref 265), (5, .null), (0, .ref 0), (1, .int x1), (2, .int (1)), (3, .int x3), (4, .int x4)]) (v := (0)) (ty := .boolean) (by decide +kernel) rfl ?_ (by decide +kernel) (by decide +kernel) (by decide +kernel) (by decide)
  show ev_stepn _ 12 (0, [(0, .ref 0), (1, .int x1), (2, .int (1)), (3, .int x3), (4, .int x4)], [], _, _, 0, 0) = _
  refine ev_go0 (ev_one_pure (M := (ev_Mof 203)) (pc := 0) (i := .aload_n 0) (len := 1) (pc' := 1) (lv' := [(0, .ref 0), (1, .int x1), (2, .int (1)), (3, .int x3), (4, .int x4)]) (st' := [.ref 0]) (by decide +kernel) rfl) ?_
  refine ev_go0 (ev_one_pure (M := (ev_Mof 203)) (pc := 1) (i := .iload_n 1) (len := 1) (pc' := 2) (lv' := [(0, .ref 0), (1, .int x1), (2, .int (1)), (3, .int x3), (4, .int x4)]) (st' := [.int x1, .ref 0]) (by decide +kernel) rfl) ?_
  refine ev_go0 (ev_p_virt (M := (ev_Mof 203)) (pc := 2) (x := 156) (mi := 200) (na := 1) (by decide +kernel) (by decide +kernel) (by decide +kernel) (by decide +kernel) rfl rfl (ev_recv_of ev_fH0) (ev_k117 x1 hl_x1)) ?_
  refine ev_go0 (ev_w_astore (M := (ev_Mof 203)) (pc := 5) (k := 5) (lv' := [(5, .null), (0, .ref 0), (1, .int x1), (2, .int (1)), (3, .int x3), (4, .int x4)]) (by decide +kernel) (by decide +kernel) (Or.inr (Or.inl rfl)) rfl) ?_
  refine ev_go0 (ev_one_pure (M := (ev_Mof 203)) (pc := 7) (i := .aload_n 0) (len := 1) (pc' := 8) (lv' := [(5, .null), (0, .ref 0), (1, .int x1), (2, .int (1)), (3, .int x3), (4, .int x4)]) (st' := [.ref 0]) (by decide +kernel) rfl) ?_
  refine ev_go0 (ev_p_getf (M := (ev_Mof 203)) (pc := 8) (x := 48) (ci := 12) (f := 8) (fin := 1) (v := .ref 254) (by decide +kernel) (by decide +kernel) ev_fH0 rfl) ?_
  refine ev_go0 (ev_one_pure (M := (ev_Mof 203)) (pc := 11) (i := .iload_n 2) (len := 1) (pc' := 12) (lv' := [(5, .null), (0, .ref 0), (1, .int x1), (2, .int (1)), (3, .int x3), (4, .int x4)]) (st' := [.int (1), .ref 254]) (by decide +kernel) rfl) ?_
  refine ev_go0 (ev_p_virt (M := (ev_Mof 203)) (pc := 12) (x := 221) (mi := 1) (na := 1) (by decide +kernel) (by decide +kernel) (by decide +kernel) (by decide +kernel) rfl rfl (ev_recv_of ev_fH254) ev_k102) ?_
  refine ev_go0 (ev_w_astore (M := (ev_Mof 203)) (pc := 15) (k := 6) (lv' := [(6, .ref 265), (5, .null), (0, .ref 0), (1, .int x1), (2, .int (1)), (3, .int x3), (4, .int x4)]) (by decide +kernel) (by decide +kernel) (Or.inl ⟨_, rfl⟩) rfl) ?_
  refine ev_go0 (ev_one_pure (M := (ev_Mof 203)) (pc := 17) (i := .aload 5) (len := 2) (pc' := 19) (lv' := [(6, .ref 265), (5, .null), (0, .ref 0), (1, .int x1), (2, .int (1)), (3, .int x3), (4, .int x4)]) (st' := [.null]) (by decide +kernel) rfl) ?_
  refine ev_go0 (ev_w_ifnull (M := (ev_Mof 203)) (pc := 19) (o := 40) (t := 59) (by decide +kernel) (Or.inl ⟨rfl, rfl⟩)) ?_
  refine ev_go0 (ev_w_iconst (M := (ev_Mof 203)) (pc := 59) (k := 0) (v := 0) (by decide +kernel) (by decide +kernel)) ?_
  rfl
theorem ev_k127 (x1 : Int32) (hl_x1 : (0 : Int) ≤ x1.toInt) (x3 : Int32) (x4 : Int32) {n : Nat} : ev_calld 11 176 [.ref 0, .int x1, .int (1), .int x3, .int x4] ev_H0 n = some (.inr "java/lang/IndexOutOfBoundsException", ev_H0, n, 1, 6) := by
  refine ev_call_thrown (k := 7) (pcR := 12) (x := 160) (lv' := [(0, .ref 0), (1, .int x1), (2, .int (1)), (3, .int x3), (4, .int x4)]) (by decide +kernel) rfl ?_ (by decide +kernel) (by decide +kernel) (by decide +kernel) (by decide) (by decide)
  show ev_stepn _ 7 (0, [(0, .ref 0), (1, .int x1), (2, .int (1)), (3, .int x3), (4, .int x4)], [], _, _, 0, 0) = _
  refine ev_go0 (ev_one_pure (M := (ev_Mof 176)) (pc := 0) (i := .aload_n 0) (len := 1) (pc' := 1) (lv' := [(0, .ref 0), (1, .int x1), (2, .int (1)), (3, .int x3), (4, .int x4)]) (st' := [.ref 0]) (by decide +kernel) rfl) ?_
  refine ev_go0 (ev_one_pure (M := (ev_Mof 176)) (pc := 1) (i := .iload_n 1) (len := 1) (pc' := 2) (lv' := [(0, .ref 0), (1, .int x1), (2, .int (1)), (3, .int x3), (4, .int x4)]) (st' := [.int x1, .ref 0]) (by decide +kernel) rfl) ?_
  refine ev_go0 (ev_one_pure (M := (ev_Mof 176)) (pc := 2) (i := .iload_n 2) (len := 1) (pc' := 3) (lv' := [(0, .ref 0), (1, .int x1), (2, .int (1)), (3, .int x3), (4, .int x4)]) (st' := [.int (1), .int x1, .ref 0]) (by decide +kernel) rfl) ?_
  refine ev_go0 (ev_one_pure (M := (ev_Mof 176)) (pc := 3) (i := .iload_n 3) (len := 1) (pc' := 4) (lv' := [(0, .ref 0), (1, .int x1), (2, .int (1)), (3, .int x3), (4, .int x4)]) (st' := [.int x3, .int (1), .int x1, .ref 0]) (by decide +kernel) rfl) ?_
  refine ev_go0 (ev_one_pure (M := (ev_Mof 176)) (pc := 4) (i := .iload 4) (len := 2) (pc' := 6) (lv' := [(0, .ref 0), (1, .int x1), (2, .int (1)), (3, .int x3), (4, .int x4)]) (st' := [.int x4, .int x3, .int (1), .int x1, .ref 0]) (by decide +kernel) rfl) ?_
  refine ev_go0 (ev_p_virt (M := (ev_Mof 176)) (pc := 6) (x := 205) (mi := 203) (na := 4) (by decide +kernel) (by decide +kernel) (by decide +kernel) (by decide +kernel) rfl rfl (ev_recv_of ev_fH0) (ev_k126 x1 hl_x1 x3 x4)) ?_
  refine ev_go0 (ev_w_if (M := (ev_Mof 176)) (pc := 9) (q := .ne) (o := 13) (b := false) (t := 12) (by decide +kernel) (by decide +kernel) rfl) ?_
  rfl
theorem ev_k128 (x1 : Int32) (hl_x1 : (0 : Int) ≤ x1.toInt) (x3 : Int32) (x4 : Int32) {n : Nat} : ev_calld 12 373 [.ref 0, .int x1, .int (1), .int x3, .int x4, .ref 723] ev_H0 n = some (.inl (some (.int (1))), ev_H0, n, 1, 6) := by
  refine ev_call_int (k := 10) (pcR := 20) (lv' := [(6, .retAddr 1), (0, .ref 0), (1, .int x1), (2, .int (1)), (3, .int x3), (4, .int x4), (5, .ref 723)]) (v := (1)) (ty := .int) (by decide +kernel) rfl ?_ (by decide +kernel) (by decide +kernel) (by decide +kernel) (by decide)
  show ev_stepn _ 10 (0, [(0, .ref 0), (1, .int x1), (2, .int (1)), (3, .int x3), (4, .int x4), (5, .ref 723)], [], _, _, 0, 0) = _
  refine ev_go0 (ev_one_pure (M := (ev_Mof 373)) (pc := 0) (i := .aload 5) (len := 2) (pc' := 2) (lv' := [(0, .ref 0), (1, .int x1), (2, .int (1)), (3, .int x3), (4, .int x4), (5, .ref 723)]) (st' := [.ref 723]) (by decide +kernel) rfl) ?_
  refine ev_go0 (ev_w_iconst (M := (ev_Mof 373)) (pc := 2) (k := 0) (v := 0) (by decide +kernel) (by decide +kernel)) ?_
  refine ev_go0 (ev_one_pure (M := (ev_Mof 373)) (pc := 3) (i := .aload_n 0) (len := 1) (pc' := 4) (lv' := [(0, .ref 0), (1, .int x1), (2, .int (1)), (3, .int x3), (4, .int x4), (5, .ref 723)]) (st' := [.ref 0, .int (0), .ref 723]) (by decide +kernel) rfl) ?_
  refine ev_go0 (ev_one_pure (M := (ev_Mof 373)) (pc := 4) (i := .iload_n 1) (len := 1) (pc' := 5) (lv' := [(0, .ref 0), (1, .int x1), (2, .int (1)), (3, .int x3), (4, .int x4), (5, .ref 723)]) (st' := [.int x1, .ref 0, .int (0), .ref 723]) (by decide +kernel) rfl) ?_
  refine ev_go0 (ev_one_pure (M := (ev_Mof 373)) (pc := 5) (i := .iload_n 2) (len := 1) (pc' := 6) (lv' := [(0, .ref 0), (1, .int x1), (2, .int (1)), (3, .int x3), (4, .int x4), (5, .ref 723)]) (st' := [.int (1), .int x1, .ref 0, .int (0), .ref 723]) (by decide +kernel) rfl) ?_
  refine ev_go0 (ev_one_pure (M := (ev_Mof 373)) (pc := 6) (i := .iload_n 3) (len := 1) (pc' := 7) (lv' := [(0, .ref 0), (1, .int x1), (2, .int (1)), (3, .int x3), (4, .int x4), (5, .ref 723)]) (st' := [.int x3, .int (1), .int x1, .ref 0, .int (0), .ref 723]) (by decide +kernel) rfl) ?_
  refine ev_go0 (ev_one_pure (M := (ev_Mof 373)) (pc := 7) (i := .iload 4) (len := 2) (pc' := 9) (lv' := [(0, .ref 0), (1, .int x1), (2, .int (1)), (3, .int x3), (4, .int x4), (5, .ref 723)]) (st' := [.int x4, .int x3, .int (1), .int x1, .ref 0, .int (0), .ref 723]) (by decide +kernel) rfl) ?_
  refine ev_go (ev_p_virtX (M := (ev_Mof 373)) (pc := 9) (x := 46) (t := 17) (mi := 176) (na := 4) (by decide +kernel) (by decide +kernel) (by decide +kernel) (by decide +kernel) rfl rfl (ev_recv_of ev_fH0) (ev_k127 x1 hl_x1 x3 x4) (by decide +kernel)) ?_
  refine ev_go0 (ev_w_astore (M := (ev_Mof 373)) (pc := 17) (k := 6) (lv' := [(6, .retAddr 1), (0, .ref 0), (1, .int x1), (2, .int (1)), (3, .int x3), (4, .int x4), (5, .ref 723)]) (by decide +kernel) (by decide +kernel) (Or.inr (Or.inr ⟨_, rfl⟩)) rfl) ?_
  refine ev_go0 (ev_w_iconst (M := (ev_Mof 373)) (pc := 19) (k := 1) (v := 1) (by decide +kernel) (by decide +kernel)) ?_
  rfl
theorem ev_k129 (x1 : Int32) (hl_x1 : (0 : Int) ≤ x1.toInt) (x3 : Int32) (x4 : Int32) {n : Nat} : ev_calld 12 328 [.ref 621, .int x1, .int (1), .int x3, .int x4] ev_H0 n = some (.inl (some (.int (0))), (ev_H0.set 621 (.inr (13, (ev_F621.set 0 (.int (1)))))), n, 0, 0) := by
  refine ev_call_int (k := 11) (pcR := 49) (lv' := [(0, .ref 621), (1, .int x1), (2, .int (1)), (3, .int x3), (4, .int x4)]) (v := (0)) (ty := .int) (by decide +kernel) rfl ?_ (by decide +kernel) (by decide +kernel) (by decide +kernel) (by decide)
  show ev_stepn _ 11 (0, [(0, .ref 621), (1, .int x1), (2, .int (1)), (3, .int x3), (4, .int x4)], [], _, _, 0, 0) = _
  refine ev_go0 (ev_one_pure (M := (ev_Mof 328)) (pc := 0) (i := .aload_n 0) (len := 1) (pc' := 1) (lv' := [(0, .ref 621), (1, .int x1), (2, .int (1)), (3, .int x3), (4, .int x4)]) (st' := [.ref 621]) (by decide +kernel) rfl) ?_
  refine ev_go0 (ev_one_pure (M := (ev_Mof 328)) (pc := 1) (i := .aload_n 0) (len := 1) (pc' := 2) (lv' := [(0, .ref 621), (1, .int x1), (2, .int (1)), (3, .int x3), (4, .int x4)]) (st' := [.ref 621, .ref 621]) (by decide +kernel) rfl) ?_
  refine ev_go0 (ev_one_pure (M := (ev_Mof 328)) (pc := 2) (i := .iload_n 1) (len := 1) (pc' := 3) (lv' := [(0, .ref 621), (1, .int x1), (2, .int (1)), (3, .int x3), (4, .int x4)]) (st' := [.int x1, .ref 621, .ref 621]) (by decide +kernel) rfl) ?_
  refine ev_go0 (ev_p_virt (M := (ev_Mof 328)) (pc := 3) (x := 531) (mi := 273) (na := 1) (by decide +kernel) (by decide +kernel) (by decide +kernel) (by decide +kernel) rfl rfl (ev_recv_of ev_fH621) (ev_k30 x1 hl_x1)) ?_
  refine ev_go0 (ev_w_if (M := (ev_Mof 328)) (pc := 6) (q := .eq) (o := 31) (b := true) (t := 37) (by decide +kernel) (by decide +kernel) rfl) ?_
  refine ev_go0 (ev_w_iconst (M := (ev_Mof 328)) (pc := 37) (k := 1) (v := 1) (by decide +kernel) (by decide +kernel)) ?_
  refine ev_go0 (ev_p_putf (M := (ev_Mof 328)) (pc := 38) (x := 321) (ci := 13) (f := 0) (by decide +kernel) (by decide +kernel) ev_fH621 rfl (by decide +kernel)) ?_
  refine ev_go0 (ev_one_pure (M := (ev_Mof 328)) (pc := 41) (i := .aload_n 0) (len := 1) (pc' := 42) (lv' := [(0, .ref 621), (1, .int x1), (2, .int (1)), (3, .int x3), (4, .int x4)]) (st' := [.ref 621]) (by decide +kernel) rfl) ?_
  refine ev_go0 (ev_p_getf (M := (ev_Mof 328)) (pc := 42) (x := 321) (ci := 13) (f := 0) (fin := 0) (v := .int (1)) (by decide +kernel) (by decide +kernel) (ev_hself ev_fH621) rfl) ?_
  refine ev_go0 (ev_w_if (M := (ev_Mof 328)) (pc := 45) (q := .le) (o := 5) (b := false) (t := 48) (by decide +kernel) (by decide +kernel) rfl) ?_
  refine ev_go0 (ev_w_iconst (M := (ev_Mof 328)) (pc := 48) (k := 0) (v := 0) (by decide +kernel) (by decide +kernel)) ?_
  rfl
theorem ev_p1_10_p1 (xs : Nat → Int32) (x1 : Int32) (hl_x1 : (0 : Int) ≤ x1.toInt) (x3 : Int32) (x4 : Int32) (e1 : xs 1 = x1) (e2 : xs 2 = (1)) (e3 : xs 3 = x3) (e4 : xs 4 = x4) : ev_P1 xs 712 := by
  refine ⟨54, [(6, .int (0)), (5, .int (1)), (4, .int (0)), (3, .ref 723), (2, .ref 621), (1, .ref 0), (0, .retAddr 0)], (ev_H0.set 621 (.inr (13, (ev_F621.set 0 (.int (1)))))), 724, 725, 3553592, ?_, ⟨rfl, rfl, rfl, rfl⟩, rfl, by decide, by decide⟩
  show ev_stepn _ _ (712, [(4, .int (0)), (3, .ref 723), (2, .ref 621), (1, .ref 0), (0, .retAddr 0)], [], _, _, _, _) = _
  refine ev_go0 (ev_one_pure (M := ev_Mlaw) (pc := 712) (i := .aload_n 1) (len := 1) (pc' := 713) (lv' := [(4, .int (0)), (3, .ref 723), (2, .ref 621), (1, .ref 0), (0, .retAddr 0)]) (st' := [.ref 0]) (by decide +kernel) rfl) ?_
  refine ev_go0 (ev_one_pure (M := ev_Mlaw) (pc := 713) (i := .aload_n 0) (len := 1) (pc' := 714) (lv' := [(4, .int (0)), (3, .ref 723), (2, .ref 621), (1, .ref 0), (0, .retAddr 0)]) (st' := [.retAddr 0, .ref 0]) (by decide +kernel) rfl) ?_
  refine ev_go0 (ev_one_pure (M := ev_Mlaw) (pc := 714) (i := .iload 4) (len := 2) (pc' := 716) (lv' := [(4, .int (0)), (3, .ref 723), (2, .ref 621), (1, .ref 0), (0, .retAddr 0)]) (st' := [.int (0), .retAddr 0, .ref 0]) (by decide +kernel) rfl) ?_
  refine ev_go0 (ev_w_iconst (M := ev_Mlaw) (pc := 716) (k := 1) (v := 1) (by decide +kernel) (by decide +kernel)) ?_
  refine ev_go0 (ev_w_iadd (M := ev_Mlaw) (pc := 717) (v := (1)) (by decide +kernel) (by decide +kernel)) ?_
  refine ev_go0 (ev_w_scr (M := ev_Mlaw) (pc := 718) (v := x1) (j := 1) (by decide +kernel) (by decide +kernel) (by decide +kernel) e1) ?_
  refine ev_go0 (ev_one_pure (M := ev_Mlaw) (pc := 719) (i := .aload_n 0) (len := 1) (pc' := 720) (lv' := [(4, .int (0)), (3, .ref 723), (2, .ref 621), (1, .ref 0), (0, .retAddr 0)]) (st' := [.retAddr 0, .int x1, .ref 0]) (by decide +kernel) rfl) ?_
  refine ev_go0 (ev_one_pure (M := ev_Mlaw) (pc := 720) (i := .iload 4) (len := 2) (pc' := 722) (lv' := [(4, .int (0)), (3, .ref 723), (2, .ref 621), (1, .ref 0), (0, .retAddr 0)]) (st' := [.int (0), .retAddr 0, .int x1, .ref 0]) (by decide +kernel) rfl) ?_
  refine ev_go0 (ev_w_iconst (M := ev_Mlaw) (pc := 722) (k := 2) (v := 2) (by decide +kernel) (by decide +kernel)) ?_
  refine ev_go0 (ev_w_iadd (M := ev_Mlaw) (pc := 723) (v := (2)) (by decide +kernel) (by decide +kernel)) ?_
  refine ev_go0 (ev_w_scr (M := ev_Mlaw) (pc := 724) (v := (1)) (j := 2) (by decide +kernel) (by decide +kernel) (by decide +kernel) e2) ?_
  refine ev_go0 (ev_one_pure (M := ev_Mlaw) (pc := 725) (i := .aload_n 0) (len := 1) (pc' := 726) (lv' := [(4, .int (0)), (3, .ref 723), (2, .ref 621), (1, .ref 0), (0, .retAddr 0)]) (st' := [.retAddr 0, .int (1), .int x1, .ref 0]) (by decide +kernel) rfl) ?_
  refine ev_go0 (ev_one_pure (M := ev_Mlaw) (pc := 726) (i := .iload 4) (len := 2) (pc' := 728) (lv' := [(4, .int (0)), (3, .ref 723), (2, .ref 621), (1, .ref 0), (0, .retAddr 0)]) (st' := [.int (0), .retAddr 0, .int (1), .int x1, .ref 0]) (by decide +kernel) rfl) ?_
  refine ev_go0 (ev_w_iconst (M := ev_Mlaw) (pc := 728) (k := 3) (v := 3) (by decide +kernel) (by decide +kernel)) ?_
  refine ev_go0 (ev_w_iadd (M := ev_Mlaw) (pc := 729) (v := (3)) (by decide +kernel) (by decide +kernel)) ?_
  refine ev_go0 (ev_w_scr (M := ev_Mlaw) (pc := 730) (v := x3) (j := 3) (by decide +kernel) (by decide +kernel) (by decide +kernel) e3) ?_
  refine ev_go0 (ev_one_pure (M := ev_Mlaw) (pc := 731) (i := .aload_n 0) (len := 1) (pc' := 732) (lv' := [(4, .int (0)), (3, .ref 723), (2, .ref 621), (1, .ref 0), (0, .retAddr 0)]) (st' := [.retAddr 0, .int x3, .int (1), .int x1, .ref 0]) (by decide +kernel) rfl) ?_
  refine ev_go0 (ev_one_pure (M := ev_Mlaw) (pc := 732) (i := .iload 4) (len := 2) (pc' := 734) (lv' := [(4, .int (0)), (3, .ref 723), (2, .ref 621), (1, .ref 0), (0, .retAddr 0)]) (st' := [.int (0), .retAddr 0, .int x3, .int (1), .int x1, .ref 0]) (by decide +kernel) rfl) ?_
  refine ev_go0 (ev_w_iconst (M := ev_Mlaw) (pc := 734) (k := 4) (v := 4) (by decide +kernel) (by decide +kernel)) ?_
  refine ev_go0 (ev_w_iadd (M := ev_Mlaw) (pc := 735) (v := (4)) (by decide +kernel) (by decide +kernel)) ?_
  refine ev_go0 (ev_w_scr (M := ev_Mlaw) (pc := 736) (v := x4) (j := 4) (by decide +kernel) (by decide +kernel) (by decide +kernel) e4) ?_
  refine ev_go0 (ev_one_pure (M := ev_Mlaw) (pc := 737) (i := .aload_n 3) (len := 1) (pc' := 738) (lv' := [(4, .int (0)), (3, .ref 723), (2, .ref 621), (1, .ref 0), (0, .retAddr 0)]) (st' := [.ref 723, .int x4, .int x3, .int (1), .int x1, .ref 0]) (by decide +kernel) rfl) ?_
  refine ev_go (ev_w_stat (M := ev_Mlaw) (pc := 738) (y := 164) (kind := 8) (Or.inr (Or.inr rfl)) (mi := 373) (na := 6) (by decide +kernel) (by decide +kernel) (by decide +kernel) (by decide +kernel) rfl rfl (ev_k128 x1 hl_x1 x3 x4)) ?_
  refine ev_go0 (ev_w_istore (M := ev_Mlaw) (pc := 741) (k := 5) (lv' := [(5, .int (1)), (4, .int (0)), (3, .ref 723), (2, .ref 621), (1, .ref 0), (0, .retAddr 0)]) (by decide +kernel) (by decide +kernel) rfl) ?_
  refine ev_go0 (ev_one_pure (M := ev_Mlaw) (pc := 743) (i := .aload_n 2) (len := 1) (pc' := 744) (lv' := [(5, .int (1)), (4, .int (0)), (3, .ref 723), (2, .ref 621), (1, .ref 0), (0, .retAddr 0)]) (st' := [.ref 621]) (by decide +kernel) rfl) ?_
  refine ev_go0 (ev_one_pure (M := ev_Mlaw) (pc := 744) (i := .aload_n 0) (len := 1) (pc' := 745) (lv' := [(5, .int (1)), (4, .int (0)), (3, .ref 723), (2, .ref 621), (1, .ref 0), (0, .retAddr 0)]) (st' := [.retAddr 0, .ref 621]) (by decide +kernel) rfl) ?_
  refine ev_go0 (ev_one_pure (M := ev_Mlaw) (pc := 745) (i := .iload 4) (len := 2) (pc' := 747) (lv' := [(5, .int (1)), (4, .int (0)), (3, .ref 723), (2, .ref 621), (1, .ref 0), (0, .retAddr 0)]) (st' := [.int (0), .retAddr 0, .ref 621]) (by decide +kernel) rfl) ?_
  refine ev_go0 (ev_w_iconst (M := ev_Mlaw) (pc := 747) (k := 1) (v := 1) (by decide +kernel) (by decide +kernel)) ?_
  refine ev_go0 (ev_w_iadd (M := ev_Mlaw) (pc := 748) (v := (1)) (by decide +kernel) (by decide +kernel)) ?_
  refine ev_go0 (ev_w_scr (M := ev_Mlaw) (pc := 749) (v := x1) (j := 1) (by decide +kernel) (by decide +kernel) (by decide +kernel) e1) ?_
  refine ev_go0 (ev_one_pure (M := ev_Mlaw) (pc := 750) (i := .aload_n 0) (len := 1) (pc' := 751) (lv' := [(5, .int (1)), (4, .int (0)), (3, .ref 723), (2, .ref 621), (1, .ref 0), (0, .retAddr 0)]) (st' := [.retAddr 0, .int x1, .ref 621]) (by decide +kernel) rfl) ?_
  refine ev_go0 (ev_one_pure (M := ev_Mlaw) (pc := 751) (i := .iload 4) (len := 2) (pc' := 753) (lv' := [(5, .int (1)), (4, .int (0)), (3, .ref 723), (2, .ref 621), (1, .ref 0), (0, .retAddr 0)]) (st' := [.int (0), .retAddr 0, .int x1, .ref 621]) (by decide +kernel) rfl) ?_
  refine ev_go0 (ev_w_iconst (M := ev_Mlaw) (pc := 753) (k := 2) (v := 2) (by decide +kernel) (by decide +kernel)) ?_
  refine ev_go0 (ev_w_iadd (M := ev_Mlaw) (pc := 754) (v := (2)) (by decide +kernel) (by decide +kernel)) ?_
  refine ev_go0 (ev_w_scr (M := ev_Mlaw) (pc := 755) (v := (1)) (j := 2) (by decide +kernel) (by decide +kernel) (by decide +kernel) e2) ?_
  refine ev_go0 (ev_one_pure (M := ev_Mlaw) (pc := 756) (i := .aload_n 0) (len := 1) (pc' := 757) (lv' := [(5, .int (1)), (4, .int (0)), (3, .ref 723), (2, .ref 621), (1, .ref 0), (0, .retAddr 0)]) (st' := [.retAddr 0, .int (1), .int x1, .ref 621]) (by decide +kernel) rfl) ?_
  refine ev_go0 (ev_one_pure (M := ev_Mlaw) (pc := 757) (i := .iload 4) (len := 2) (pc' := 759) (lv' := [(5, .int (1)), (4, .int (0)), (3, .ref 723), (2, .ref 621), (1, .ref 0), (0, .retAddr 0)]) (st' := [.int (0), .retAddr 0, .int (1), .int x1, .ref 621]) (by decide +kernel) rfl) ?_
  refine ev_go0 (ev_w_iconst (M := ev_Mlaw) (pc := 759) (k := 3) (v := 3) (by decide +kernel) (by decide +kernel)) ?_
  refine ev_go0 (ev_w_iadd (M := ev_Mlaw) (pc := 760) (v := (3)) (by decide +kernel) (by decide +kernel)) ?_
  refine ev_go0 (ev_w_scr (M := ev_Mlaw) (pc := 761) (v := x3) (j := 3) (by decide +kernel) (by decide +kernel) (by decide +kernel) e3) ?_
  refine ev_go0 (ev_one_pure (M := ev_Mlaw) (pc := 762) (i := .aload_n 0) (len := 1) (pc' := 763) (lv' := [(5, .int (1)), (4, .int (0)), (3, .ref 723), (2, .ref 621), (1, .ref 0), (0, .retAddr 0)]) (st' := [.retAddr 0, .int x3, .int (1), .int x1, .ref 621]) (by decide +kernel) rfl) ?_
  refine ev_go0 (ev_one_pure (M := ev_Mlaw) (pc := 763) (i := .iload 4) (len := 2) (pc' := 765) (lv' := [(5, .int (1)), (4, .int (0)), (3, .ref 723), (2, .ref 621), (1, .ref 0), (0, .retAddr 0)]) (st' := [.int (0), .retAddr 0, .int x3, .int (1), .int x1, .ref 621]) (by decide +kernel) rfl) ?_
  refine ev_go0 (ev_w_iconst (M := ev_Mlaw) (pc := 765) (k := 4) (v := 4) (by decide +kernel) (by decide +kernel)) ?_
  refine ev_go0 (ev_w_iadd (M := ev_Mlaw) (pc := 766) (v := (4)) (by decide +kernel) (by decide +kernel)) ?_
  refine ev_go0 (ev_w_scr (M := ev_Mlaw) (pc := 767) (v := x4) (j := 4) (by decide +kernel) (by decide +kernel) (by decide +kernel) e4) ?_
  refine ev_go0 (ev_p_virt (M := ev_Mlaw) (pc := 768) (x := 167) (mi := 328) (na := 4) (by decide +kernel) (by decide +kernel) (by decide +kernel) (by decide +kernel) rfl rfl (ev_recv_of ev_fH621) (ev_k129 x1 hl_x1 x3 x4)) ?_
  refine ev_go0 (ev_w_istore (M := ev_Mlaw) (pc := 771) (k := 6) (lv' := [(6, .int (0)), (5, .int (1)), (4, .int (0)), (3, .ref 723), (2, .ref 621), (1, .ref 0), (0, .retAddr 0)]) (by decide +kernel) (by decide +kernel) rfl) ?_
  refine ev_go0 (ev_one_pure (M := ev_Mlaw) (pc := 773) (i := .aload_n 2) (len := 1) (pc' := 774) (lv' := [(6, .int (0)), (5, .int (1)), (4, .int (0)), (3, .ref 723), (2, .ref 621), (1, .ref 0), (0, .retAddr 0)]) (st' := [.ref 621]) (by decide +kernel) rfl) ?_
  refine ev_go0 (ev_p_virt (M := ev_Mlaw) (pc := 774) (x := 131) (mi := 220) (na := 0) (by decide +kernel) (by decide +kernel) (by decide +kernel) (by decide +kernel) rfl rfl (ev_recv_of (ev_hself ev_fH621)) ev_k26) ?_
  refine ev_go0 (ev_one_pure (M := ev_Mlaw) (pc := 777) (i := .iload 5) (len := 2) (pc' := 779) (lv' := [(6, .int (0)), (5, .int (1)), (4, .int (0)), (3, .ref 723), (2, .ref 621), (1, .ref 0), (0, .retAddr 0)]) (st' := [.int (1), .int (1)]) (by decide +kernel) rfl) ?_
  refine ev_go0 (ev_w_icmp (M := ev_Mlaw) (pc := 779) (q := .eq) (o := 5) (b := true) (t := 784) (by decide +kernel) (by decide +kernel) rfl) ?_
  refine ev_go0 (ev_one_pure (M := ev_Mlaw) (pc := 784) (i := .iload 5) (len := 2) (pc' := 786) (lv' := [(6, .int (0)), (5, .int (1)), (4, .int (0)), (3, .ref 723), (2, .ref 621), (1, .ref 0), (0, .retAddr 0)]) (st' := [.int (1)]) (by decide +kernel) rfl) ?_
  refine ev_go0 (ev_w_if (M := ev_Mlaw) (pc := 786) (q := .ne) (o := 15) (b := true) (t := 801) (by decide +kernel) (by decide +kernel) rfl) ?_
  refine ev_go0 (ev_one_pure (M := ev_Mlaw) (pc := 801) (i := .goto 1471) (len := 3) (pc' := 2272) (lv' := [(6, .int (0)), (5, .int (1)), (4, .int (0)), (3, .ref 723), (2, .ref 621), (1, .ref 0), (0, .retAddr 0)]) (st' := []) (by decide +kernel) rfl) ?_
  rfl
theorem ev_k130 (x1 : Int32) (hl_x1 : (0 : Int) ≤ x1.toInt) (x3 : Int32) (x4 : Int32) {n : Nat} : ev_calld 10 203 [.ref 0, .int x1, .int (2), .int x3, .int x4] ev_H0 n = some (.inl (some (.int (0))), ev_H0, n, 0, 0) := by
  refine ev_call_int (k := 12) (pcR := 60) (lv' := [(6, .ref 267), (5, .null), (0, .ref 0), (1, .int x1), (2, .int (2)), (3, .int x3), (4, .int x4)]) (v := (0)) (ty := .boolean) (by decide +kernel) rfl ?_ (by decide +kernel) (by decide +kernel) (by decide +kernel) (by decide)
  show ev_stepn _ 12 (0, [(0, .ref 0), (1, .int x1), (2, .int (2)), (3, .int x3), (4, .int x4)], [], _, _, 0, 0) = _
  refine ev_go0 (ev_one_pure (M := (ev_Mof 203)) (pc := 0) (i := .aload_n 0) (len := 1) (pc' := 1) (lv' := [(0, .ref 0), (1, .int x1), (2, .int (2)), (3, .int x3), (4, .int x4)]) (st' := [.ref 0]) (by decide +kernel) rfl) ?_
  refine ev_go0 (ev_one_pure (M := (ev_Mof 203)) (pc := 1) (i := .iload_n 1) (len := 1) (pc' := 2) (lv' := [(0, .ref 0), (1, .int x1), (2, .int (2)), (3, .int x3), (4, .int x4)]) (st' := [.int x1, .ref 0]) (by decide +kernel) rfl) ?_
  refine ev_go0 (ev_p_virt (M := (ev_Mof 203)) (pc := 2) (x := 156) (mi := 200) (na := 1) (by decide +kernel) (by decide +kernel) (by decide +kernel) (by decide +kernel) rfl rfl (ev_recv_of ev_fH0) (ev_k117 x1 hl_x1)) ?_
  refine ev_go0 (ev_w_astore (M := (ev_Mof 203)) (pc := 5) (k := 5) (lv' := [(5, .null), (0, .ref 0), (1, .int x1), (2, .int (2)), (3, .int x3), (4, .int x4)]) (by decide +kernel) (by decide +kernel) (Or.inr (Or.inl rfl)) rfl) ?_
  refine ev_go0 (ev_one_pure (M := (ev_Mof 203)) (pc := 7) (i := .aload_n 0) (len := 1) (pc' := 8) (lv' := [(5, .null), (0, .ref 0), (1, .int x1), (2, .int (2)), (3, .int x3), (4, .int x4)]) (st' := [.ref 0]) (by decide +kernel) rfl) ?_
  refine ev_go0 (ev_p_getf (M := (ev_Mof 203)) (pc := 8) (x := 48) (ci := 12) (f := 8) (fin := 1) (v := .ref 254) (by decide +kernel) (by decide +kernel) ev_fH0 rfl) ?_
  refine ev_go0 (ev_one_pure (M := (ev_Mof 203)) (pc := 11) (i := .iload_n 2) (len := 1) (pc' := 12) (lv' := [(5, .null), (0, .ref 0), (1, .int x1), (2, .int (2)), (3, .int x3), (4, .int x4)]) (st' := [.int (2), .ref 254]) (by decide +kernel) rfl) ?_
  refine ev_go0 (ev_p_virt (M := (ev_Mof 203)) (pc := 12) (x := 221) (mi := 1) (na := 1) (by decide +kernel) (by decide +kernel) (by decide +kernel) (by decide +kernel) rfl rfl (ev_recv_of ev_fH254) ev_k107) ?_
  refine ev_go0 (ev_w_astore (M := (ev_Mof 203)) (pc := 15) (k := 6) (lv' := [(6, .ref 267), (5, .null), (0, .ref 0), (1, .int x1), (2, .int (2)), (3, .int x3), (4, .int x4)]) (by decide +kernel) (by decide +kernel) (Or.inl ⟨_, rfl⟩) rfl) ?_
  refine ev_go0 (ev_one_pure (M := (ev_Mof 203)) (pc := 17) (i := .aload 5) (len := 2) (pc' := 19) (lv' := [(6, .ref 267), (5, .null), (0, .ref 0), (1, .int x1), (2, .int (2)), (3, .int x3), (4, .int x4)]) (st' := [.null]) (by decide +kernel) rfl) ?_
  refine ev_go0 (ev_w_ifnull (M := (ev_Mof 203)) (pc := 19) (o := 40) (t := 59) (by decide +kernel) (Or.inl ⟨rfl, rfl⟩)) ?_
  refine ev_go0 (ev_w_iconst (M := (ev_Mof 203)) (pc := 59) (k := 0) (v := 0) (by decide +kernel) (by decide +kernel)) ?_
  rfl
theorem ev_k131 (x1 : Int32) (hl_x1 : (0 : Int) ≤ x1.toInt) (x3 : Int32) (x4 : Int32) {n : Nat} : ev_calld 11 176 [.ref 0, .int x1, .int (2), .int x3, .int x4] ev_H0 n = some (.inr "java/lang/IndexOutOfBoundsException", ev_H0, n, 1, 6) := by
  refine ev_call_thrown (k := 7) (pcR := 12) (x := 160) (lv' := [(0, .ref 0), (1, .int x1), (2, .int (2)), (3, .int x3), (4, .int x4)]) (by decide +kernel) rfl ?_ (by decide +kernel) (by decide +kernel) (by decide +kernel) (by decide) (by decide)
  show ev_stepn _ 7 (0, [(0, .ref 0), (1, .int x1), (2, .int (2)), (3, .int x3), (4, .int x4)], [], _, _, 0, 0) = _
  refine ev_go0 (ev_one_pure (M := (ev_Mof 176)) (pc := 0) (i := .aload_n 0) (len := 1) (pc' := 1) (lv' := [(0, .ref 0), (1, .int x1), (2, .int (2)), (3, .int x3), (4, .int x4)]) (st' := [.ref 0]) (by decide +kernel) rfl) ?_
  refine ev_go0 (ev_one_pure (M := (ev_Mof 176)) (pc := 1) (i := .iload_n 1) (len := 1) (pc' := 2) (lv' := [(0, .ref 0), (1, .int x1), (2, .int (2)), (3, .int x3), (4, .int x4)]) (st' := [.int x1, .ref 0]) (by decide +kernel) rfl) ?_
  refine ev_go0 (ev_one_pure (M := (ev_Mof 176)) (pc := 2) (i := .iload_n 2) (len := 1) (pc' := 3) (lv' := [(0, .ref 0), (1, .int x1), (2, .int (2)), (3, .int x3), (4, .int x4)]) (st' := [.int (2), .int x1, .ref 0]) (by decide +kernel) rfl) ?_
  refine ev_go0 (ev_one_pure (M := (ev_Mof 176)) (pc := 3) (i := .iload_n 3) (len := 1) (pc' := 4) (lv' := [(0, .ref 0), (1, .int x1), (2, .int (2)), (3, .int x3), (4, .int x4)]) (st' := [.int x3, .int (2), .int x1, .ref 0]) (by decide +kernel) rfl) ?_
  refine ev_go0 (ev_one_pure (M := (ev_Mof 176)) (pc := 4) (i := .iload 4) (len := 2) (pc' := 6) (lv' := [(0, .ref 0), (1, .int x1), (2, .int (2)), (3, .int x3), (4, .int x4)]) (st' := [.int x4, .int x3, .int (2), .int x1, .ref 0]) (by decide +kernel) rfl) ?_
  refine ev_go0 (ev_p_virt (M := (ev_Mof 176)) (pc := 6) (x := 205) (mi := 203) (na := 4) (by decide +kernel) (by decide +kernel) (by decide +kernel) (by decide +kernel) rfl rfl (ev_recv_of ev_fH0) (ev_k130 x1 hl_x1 x3 x4)) ?_
  refine ev_go0 (ev_w_if (M := (ev_Mof 176)) (pc := 9) (q := .ne) (o := 13) (b := false) (t := 12) (by decide +kernel) (by decide +kernel) rfl) ?_
  rfl
theorem ev_k132 (x1 : Int32) (hl_x1 : (0 : Int) ≤ x1.toInt) (x3 : Int32) (x4 : Int32) {n : Nat} : ev_calld 12 373 [.ref 0, .int x1, .int (2), .int x3, .int x4, .ref 723] ev_H0 n = some (.inl (some (.int (1))), ev_H0, n, 1, 6) := by
  refine ev_call_int (k := 10) (pcR := 20) (lv' := [(6, .retAddr 1), (0, .ref 0), (1, .int x1), (2, .int (2)), (3, .int x3), (4, .int x4), (5, .ref 723)]) (v := (1)) (ty := .int) (by decide +kernel) rfl ?_ (by decide +kernel) (by decide +kernel) (by decide +kernel) (by decide)
  show ev_stepn _ 10 (0, [(0, .ref 0), (1, .int x1), (2, .int (2)), (3, .int x3), (4, .int x4), (5, .ref 723)], [], _, _, 0, 0) = _
  refine ev_go0 (ev_one_pure (M := (ev_Mof 373)) (pc := 0) (i := .aload 5) (len := 2) (pc' := 2) (lv' := [(0, .ref 0), (1, .int x1), (2, .int (2)), (3, .int x3), (4, .int x4), (5, .ref 723)]) (st' := [.ref 723]) (by decide +kernel) rfl) ?_
  refine ev_go0 (ev_w_iconst (M := (ev_Mof 373)) (pc := 2) (k := 0) (v := 0) (by decide +kernel) (by decide +kernel)) ?_
  refine ev_go0 (ev_one_pure (M := (ev_Mof 373)) (pc := 3) (i := .aload_n 0) (len := 1) (pc' := 4) (lv' := [(0, .ref 0), (1, .int x1), (2, .int (2)), (3, .int x3), (4, .int x4), (5, .ref 723)]) (st' := [.ref 0, .int (0), .ref 723]) (by decide +kernel) rfl) ?_
  refine ev_go0 (ev_one_pure (M := (ev_Mof 373)) (pc := 4) (i := .iload_n 1) (len := 1) (pc' := 5) (lv' := [(0, .ref 0), (1, .int x1), (2, .int (2)), (3, .int x3), (4, .int x4), (5, .ref 723)]) (st' := [.int x1, .ref 0, .int (0), .ref 723]) (by decide +kernel) rfl) ?_
  refine ev_go0 (ev_one_pure (M := (ev_Mof 373)) (pc := 5) (i := .iload_n 2) (len := 1) (pc' := 6) (lv' := [(0, .ref 0), (1, .int x1), (2, .int (2)), (3, .int x3), (4, .int x4), (5, .ref 723)]) (st' := [.int (2), .int x1, .ref 0, .int (0), .ref 723]) (by decide +kernel) rfl) ?_
  refine ev_go0 (ev_one_pure (M := (ev_Mof 373)) (pc := 6) (i := .iload_n 3) (len := 1) (pc' := 7) (lv' := [(0, .ref 0), (1, .int x1), (2, .int (2)), (3, .int x3), (4, .int x4), (5, .ref 723)]) (st' := [.int x3, .int (2), .int x1, .ref 0, .int (0), .ref 723]) (by decide +kernel) rfl) ?_
  refine ev_go0 (ev_one_pure (M := (ev_Mof 373)) (pc := 7) (i := .iload 4) (len := 2) (pc' := 9) (lv' := [(0, .ref 0), (1, .int x1), (2, .int (2)), (3, .int x3), (4, .int x4), (5, .ref 723)]) (st' := [.int x4, .int x3, .int (2), .int x1, .ref 0, .int (0), .ref 723]) (by decide +kernel) rfl) ?_
  refine ev_go (ev_p_virtX (M := (ev_Mof 373)) (pc := 9) (x := 46) (t := 17) (mi := 176) (na := 4) (by decide +kernel) (by decide +kernel) (by decide +kernel) (by decide +kernel) rfl rfl (ev_recv_of ev_fH0) (ev_k131 x1 hl_x1 x3 x4) (by decide +kernel)) ?_
  refine ev_go0 (ev_w_astore (M := (ev_Mof 373)) (pc := 17) (k := 6) (lv' := [(6, .retAddr 1), (0, .ref 0), (1, .int x1), (2, .int (2)), (3, .int x3), (4, .int x4), (5, .ref 723)]) (by decide +kernel) (by decide +kernel) (Or.inr (Or.inr ⟨_, rfl⟩)) rfl) ?_
  refine ev_go0 (ev_w_iconst (M := (ev_Mof 373)) (pc := 19) (k := 1) (v := 1) (by decide +kernel) (by decide +kernel)) ?_
  rfl
theorem ev_k133 (x1 : Int32) (hl_x1 : (0 : Int) ≤ x1.toInt) (x3 : Int32) (x4 : Int32) {n : Nat} : ev_calld 12 328 [.ref 621, .int x1, .int (2), .int x3, .int x4] ev_H0 n = some (.inl (some (.int (0))), (ev_H0.set 621 (.inr (13, (ev_F621.set 0 (.int (1)))))), n, 0, 0) := by
  refine ev_call_int (k := 11) (pcR := 49) (lv' := [(0, .ref 621), (1, .int x1), (2, .int (2)), (3, .int x3), (4, .int x4)]) (v := (0)) (ty := .int) (by decide +kernel) rfl ?_ (by decide +kernel) (by decide +kernel) (by decide +kernel) (by decide)
  show ev_stepn _ 11 (0, [(0, .ref 621), (1, .int x1), (2, .int (2)), (3, .int x3), (4, .int x4)], [], _, _, 0, 0) = _
  refine ev_go0 (ev_one_pure (M := (ev_Mof 328)) (pc := 0) (i := .aload_n 0) (len := 1) (pc' := 1) (lv' := [(0, .ref 621), (1, .int x1), (2, .int (2)), (3, .int x3), (4, .int x4)]) (st' := [.ref 621]) (by decide +kernel) rfl) ?_
  refine ev_go0 (ev_one_pure (M := (ev_Mof 328)) (pc := 1) (i := .aload_n 0) (len := 1) (pc' := 2) (lv' := [(0, .ref 621), (1, .int x1), (2, .int (2)), (3, .int x3), (4, .int x4)]) (st' := [.ref 621, .ref 621]) (by decide +kernel) rfl) ?_
  refine ev_go0 (ev_one_pure (M := (ev_Mof 328)) (pc := 2) (i := .iload_n 1) (len := 1) (pc' := 3) (lv' := [(0, .ref 621), (1, .int x1), (2, .int (2)), (3, .int x3), (4, .int x4)]) (st' := [.int x1, .ref 621, .ref 621]) (by decide +kernel) rfl) ?_
  refine ev_go0 (ev_p_virt (M := (ev_Mof 328)) (pc := 3) (x := 531) (mi := 273) (na := 1) (by decide +kernel) (by decide +kernel) (by decide +kernel) (by decide +kernel) rfl rfl (ev_recv_of ev_fH621) (ev_k30 x1 hl_x1)) ?_
  refine ev_go0 (ev_w_if (M := (ev_Mof 328)) (pc := 6) (q := .eq) (o := 31) (b := true) (t := 37) (by decide +kernel) (by decide +kernel) rfl) ?_
  refine ev_go0 (ev_w_iconst (M := (ev_Mof 328)) (pc := 37) (k := 1) (v := 1) (by decide +kernel) (by decide +kernel)) ?_
  refine ev_go0 (ev_p_putf (M := (ev_Mof 328)) (pc := 38) (x := 321) (ci := 13) (f := 0) (by decide +kernel) (by decide +kernel) ev_fH621 rfl (by decide +kernel)) ?_
  refine ev_go0 (ev_one_pure (M := (ev_Mof 328)) (pc := 41) (i := .aload_n 0) (len := 1) (pc' := 42) (lv' := [(0, .ref 621), (1, .int x1), (2, .int (2)), (3, .int x3), (4, .int x4)]) (st' := [.ref 621]) (by decide +kernel) rfl) ?_
  refine ev_go0 (ev_p_getf (M := (ev_Mof 328)) (pc := 42) (x := 321) (ci := 13) (f := 0) (fin := 0) (v := .int (1)) (by decide +kernel) (by decide +kernel) (ev_hself ev_fH621) rfl) ?_
  refine ev_go0 (ev_w_if (M := (ev_Mof 328)) (pc := 45) (q := .le) (o := 5) (b := false) (t := 48) (by decide +kernel) (by decide +kernel) rfl) ?_
  refine ev_go0 (ev_w_iconst (M := (ev_Mof 328)) (pc := 48) (k := 0) (v := 0) (by decide +kernel) (by decide +kernel)) ?_
  rfl
theorem ev_p1_10_p2 (xs : Nat → Int32) (x1 : Int32) (hl_x1 : (0 : Int) ≤ x1.toInt) (x3 : Int32) (x4 : Int32) (e1 : xs 1 = x1) (e2 : xs 2 = (2)) (e3 : xs 3 = x3) (e4 : xs 4 = x4) : ev_P1 xs 712 := by
  refine ⟨54, [(6, .int (0)), (5, .int (1)), (4, .int (0)), (3, .ref 723), (2, .ref 621), (1, .ref 0), (0, .retAddr 0)], (ev_H0.set 621 (.inr (13, (ev_F621.set 0 (.int (1)))))), 724, 725, 3553592, ?_, ⟨rfl, rfl, rfl, rfl⟩, rfl, by decide, by decide⟩
  show ev_stepn _ _ (712, [(4, .int (0)), (3, .ref 723), (2, .ref 621), (1, .ref 0), (0, .retAddr 0)], [], _, _, _, _) = _
  refine ev_go0 (ev_one_pure (M := ev_Mlaw) (pc := 712) (i := .aload_n 1) (len := 1) (pc' := 713) (lv' := [(4, .int (0)), (3, .ref 723), (2, .ref 621), (1, .ref 0), (0, .retAddr 0)]) (st' := [.ref 0]) (by decide +kernel) rfl) ?_
  refine ev_go0 (ev_one_pure (M := ev_Mlaw) (pc := 713) (i := .aload_n 0) (len := 1) (pc' := 714) (lv' := [(4, .int (0)), (3, .ref 723), (2, .ref 621), (1, .ref 0), (0, .retAddr 0)]) (st' := [.retAddr 0, .ref 0]) (by decide +kernel) rfl) ?_
  refine ev_go0 (ev_one_pure (M := ev_Mlaw) (pc := 714) (i := .iload 4) (len := 2) (pc' := 716) (lv' := [(4, .int (0)), (3, .ref 723), (2, .ref 621), (1, .ref 0), (0, .retAddr 0)]) (st' := [.int (0), .retAddr 0, .ref 0]) (by decide +kernel) rfl) ?_
  refine ev_go0 (ev_w_iconst (M := ev_Mlaw) (pc := 716) (k := 1) (v := 1) (by decide +kernel) (by decide +kernel)) ?_
  refine ev_go0 (ev_w_iadd (M := ev_Mlaw) (pc := 717) (v := (1)) (by decide +kernel) (by decide +kernel)) ?_
  refine ev_go0 (ev_w_scr (M := ev_Mlaw) (pc := 718) (v := x1) (j := 1) (by decide +kernel) (by decide +kernel) (by decide +kernel) e1) ?_
  refine ev_go0 (ev_one_pure (M := ev_Mlaw) (pc := 719) (i := .aload_n 0) (len := 1) (pc' := 720) (lv' := [(4, .int (0)), (3, .ref 723), (2, .ref 621), (1, .ref 0), (0, .retAddr 0)]) (st' := [.retAddr 0, .int x1, .ref 0]) (by decide +kernel) rfl) ?_
  refine ev_go0 (ev_one_pure (M := ev_Mlaw) (pc := 720) (i := .iload 4) (len := 2) (pc' := 722) (lv' := [(4, .int (0)), (3, .ref 723), (2, .ref 621), (1, .ref 0), (0, .retAddr 0)]) (st' := [.int (0), .retAddr 0, .int x1, .ref 0]) (by decide +kernel) rfl) ?_
  refine ev_go0 (ev_w_iconst (M := ev_Mlaw) (pc := 722) (k := 2) (v := 2) (by decide +kernel) (by decide +kernel)) ?_
  refine ev_go0 (ev_w_iadd (M := ev_Mlaw) (pc := 723) (v := (2)) (by decide +kernel) (by decide +kernel)) ?_
  refine ev_go0 (ev_w_scr (M := ev_Mlaw) (pc := 724) (v := (2)) (j := 2) (by decide +kernel) (by decide +kernel) (by decide +kernel) e2) ?_
  refine ev_go0 (ev_one_pure (M := ev_Mlaw) (pc := 725) (i := .aload_n 0) (len := 1) (pc' := 726) (lv' := [(4, .int (0)), (3, .ref 723), (2, .ref 621), (1, .ref 0), (0, .retAddr 0)]) (st' := [.retAddr 0, .int (2), .int x1, .ref 0]) (by decide +kernel) rfl) ?_
  refine ev_go0 (ev_one_pure (M := ev_Mlaw) (pc := 726) (i := .iload 4) (len := 2) (pc' := 728) (lv' := [(4, .int (0)), (3, .ref 723), (2, .ref 621), (1, .ref 0), (0, .retAddr 0)]) (st' := [.int (0), .retAddr 0, .int (2), .int x1, .ref 0]) (by decide +kernel) rfl) ?_
  refine ev_go0 (ev_w_iconst (M := ev_Mlaw) (pc := 728) (k := 3) (v := 3) (by decide +kernel) (by decide +kernel)) ?_
  refine ev_go0 (ev_w_iadd (M := ev_Mlaw) (pc := 729) (v := (3)) (by decide +kernel) (by decide +kernel)) ?_
  refine ev_go0 (ev_w_scr (M := ev_Mlaw) (pc := 730) (v := x3) (j := 3) (by decide +kernel) (by decide +kernel) (by decide +kernel) e3) ?_
  refine ev_go0 (ev_one_pure (M := ev_Mlaw) (pc := 731) (i := .aload_n 0) (len := 1) (pc' := 732) (lv' := [(4, .int (0)), (3, .ref 723), (2, .ref 621), (1, .ref 0), (0, .retAddr 0)]) (st' := [.retAddr 0, .int x3, .int (2), .int x1, .ref 0]) (by decide +kernel) rfl) ?_
  refine ev_go0 (ev_one_pure (M := ev_Mlaw) (pc := 732) (i := .iload 4) (len := 2) (pc' := 734) (lv' := [(4, .int (0)), (3, .ref 723), (2, .ref 621), (1, .ref 0), (0, .retAddr 0)]) (st' := [.int (0), .retAddr 0, .int x3, .int (2), .int x1, .ref 0]) (by decide +kernel) rfl) ?_
  refine ev_go0 (ev_w_iconst (M := ev_Mlaw) (pc := 734) (k := 4) (v := 4) (by decide +kernel) (by decide +kernel)) ?_
  refine ev_go0 (ev_w_iadd (M := ev_Mlaw) (pc := 735) (v := (4)) (by decide +kernel) (by decide +kernel)) ?_
  refine ev_go0 (ev_w_scr (M := ev_Mlaw) (pc := 736) (v := x4) (j := 4) (by decide +kernel) (by decide +kernel) (by decide +kernel) e4) ?_
  refine ev_go0 (ev_one_pure (M := ev_Mlaw) (pc := 737) (i := .aload_n 3) (len := 1) (pc' := 738) (lv' := [(4, .int (0)), (3, .ref 723), (2, .ref 621), (1, .ref 0), (0, .retAddr 0)]) (st' := [.ref 723, .int x4, .int x3, .int (2), .int x1, .ref 0]) (by decide +kernel) rfl) ?_
  refine ev_go (ev_w_stat (M := ev_Mlaw) (pc := 738) (y := 164) (kind := 8) (Or.inr (Or.inr rfl)) (mi := 373) (na := 6) (by decide +kernel) (by decide +kernel) (by decide +kernel) (by decide +kernel) rfl rfl (ev_k132 x1 hl_x1 x3 x4)) ?_
  refine ev_go0 (ev_w_istore (M := ev_Mlaw) (pc := 741) (k := 5) (lv' := [(5, .int (1)), (4, .int (0)), (3, .ref 723), (2, .ref 621), (1, .ref 0), (0, .retAddr 0)]) (by decide +kernel) (by decide +kernel) rfl) ?_
  refine ev_go0 (ev_one_pure (M := ev_Mlaw) (pc := 743) (i := .aload_n 2) (len := 1) (pc' := 744) (lv' := [(5, .int (1)), (4, .int (0)), (3, .ref 723), (2, .ref 621), (1, .ref 0), (0, .retAddr 0)]) (st' := [.ref 621]) (by decide +kernel) rfl) ?_
  refine ev_go0 (ev_one_pure (M := ev_Mlaw) (pc := 744) (i := .aload_n 0) (len := 1) (pc' := 745) (lv' := [(5, .int (1)), (4, .int (0)), (3, .ref 723), (2, .ref 621), (1, .ref 0), (0, .retAddr 0)]) (st' := [.retAddr 0, .ref 621]) (by decide +kernel) rfl) ?_
  refine ev_go0 (ev_one_pure (M := ev_Mlaw) (pc := 745) (i := .iload 4) (len := 2) (pc' := 747) (lv' := [(5, .int (1)), (4, .int (0)), (3, .ref 723), (2, .ref 621), (1, .ref 0), (0, .retAddr 0)]) (st' := [.int (0), .retAddr 0, .ref 621]) (by decide +kernel) rfl) ?_
  refine ev_go0 (ev_w_iconst (M := ev_Mlaw) (pc := 747) (k := 1) (v := 1) (by decide +kernel) (by decide +kernel)) ?_
  refine ev_go0 (ev_w_iadd (M := ev_Mlaw) (pc := 748) (v := (1)) (by decide +kernel) (by decide +kernel)) ?_
  refine ev_go0 (ev_w_scr (M := ev_Mlaw) (pc := 749) (v := x1) (j := 1) (by decide +kernel) (by decide +kernel) (by decide +kernel) e1) ?_
  refine ev_go0 (ev_one_pure (M := ev_Mlaw) (pc := 750) (i := .aload_n 0) (len := 1) (pc' := 751) (lv' := [(5, .int (1)), (4, .int (0)), (3, .ref 723), (2, .ref 621), (1, .ref 0), (0, .retAddr 0)]) (st' := [.retAddr 0, .int x1, .ref 621]) (by decide +kernel) rfl) ?_
  refine ev_go0 (ev_one_pure (M := ev_Mlaw) (pc := 751) (i := .iload 4) (len := 2) (pc' := 753) (lv' := [(5, .int (1)), (4, .int (0)), (3, .ref 723), (2, .ref 621), (1, .ref 0), (0, .retAddr 0)]) (st' := [.int (0), .retAddr 0, .int x1, .ref 621]) (by decide +kernel) rfl) ?_
  refine ev_go0 (ev_w_iconst (M := ev_Mlaw) (pc := 753) (k := 2) (v := 2) (by decide +kernel) (by decide +kernel)) ?_
  refine ev_go0 (ev_w_iadd (M := ev_Mlaw) (pc := 754) (v := (2)) (by decide +kernel) (by decide +kernel)) ?_
  refine ev_go0 (ev_w_scr (M := ev_Mlaw) (pc := 755) (v := (2)) (j := 2) (by decide +kernel) (by decide +kernel) (by decide +kernel) e2) ?_
  refine ev_go0 (ev_one_pure (M := ev_Mlaw) (pc := 756) (i := .aload_n 0) (len := 1) (pc' := 757) (lv' := [(5, .int (1)), (4, .int (0)), (3, .ref 723), (2, .ref 621), (1, .ref 0), (0, .retAddr 0)]) (st' := [.retAddr 0, .int (2), .int x1, .ref 621]) (by decide +kernel) rfl) ?_
  refine ev_go0 (ev_one_pure (M := ev_Mlaw) (pc := 757) (i := .iload 4) (len := 2) (pc' := 759) (lv' := [(5, .int (1)), (4, .int (0)), (3, .ref 723), (2, .ref 621), (1, .ref 0), (0, .retAddr 0)]) (st' := [.int (0), .retAddr 0, .int (2), .int x1, .ref 621]) (by decide +kernel) rfl) ?_
  refine ev_go0 (ev_w_iconst (M := ev_Mlaw) (pc := 759) (k := 3) (v := 3) (by decide +kernel) (by decide +kernel)) ?_
  refine ev_go0 (ev_w_iadd (M := ev_Mlaw) (pc := 760) (v := (3)) (by decide +kernel) (by decide +kernel)) ?_
  refine ev_go0 (ev_w_scr (M := ev_Mlaw) (pc := 761) (v := x3) (j := 3) (by decide +kernel) (by decide +kernel) (by decide +kernel) e3) ?_
  refine ev_go0 (ev_one_pure (M := ev_Mlaw) (pc := 762) (i := .aload_n 0) (len := 1) (pc' := 763) (lv' := [(5, .int (1)), (4, .int (0)), (3, .ref 723), (2, .ref 621), (1, .ref 0), (0, .retAddr 0)]) (st' := [.retAddr 0, .int x3, .int (2), .int x1, .ref 621]) (by decide +kernel) rfl) ?_
  refine ev_go0 (ev_one_pure (M := ev_Mlaw) (pc := 763) (i := .iload 4) (len := 2) (pc' := 765) (lv' := [(5, .int (1)), (4, .int (0)), (3, .ref 723), (2, .ref 621), (1, .ref 0), (0, .retAddr 0)]) (st' := [.int (0), .retAddr 0, .int x3, .int (2), .int x1, .ref 621]) (by decide +kernel) rfl) ?_
  refine ev_go0 (ev_w_iconst (M := ev_Mlaw) (pc := 765) (k := 4) (v := 4) (by decide +kernel) (by decide +kernel)) ?_
  refine ev_go0 (ev_w_iadd (M := ev_Mlaw) (pc := 766) (v := (4)) (by decide +kernel) (by decide +kernel)) ?_
  refine ev_go0 (ev_w_scr (M := ev_Mlaw) (pc := 767) (v := x4) (j := 4) (by decide +kernel) (by decide +kernel) (by decide +kernel) e4) ?_
  refine ev_go0 (ev_p_virt (M := ev_Mlaw) (pc := 768) (x := 167) (mi := 328) (na := 4) (by decide +kernel) (by decide +kernel) (by decide +kernel) (by decide +kernel) rfl rfl (ev_recv_of ev_fH621) (ev_k133 x1 hl_x1 x3 x4)) ?_
  refine ev_go0 (ev_w_istore (M := ev_Mlaw) (pc := 771) (k := 6) (lv' := [(6, .int (0)), (5, .int (1)), (4, .int (0)), (3, .ref 723), (2, .ref 621), (1, .ref 0), (0, .retAddr 0)]) (by decide +kernel) (by decide +kernel) rfl) ?_
  refine ev_go0 (ev_one_pure (M := ev_Mlaw) (pc := 773) (i := .aload_n 2) (len := 1) (pc' := 774) (lv' := [(6, .int (0)), (5, .int (1)), (4, .int (0)), (3, .ref 723), (2, .ref 621), (1, .ref 0), (0, .retAddr 0)]) (st' := [.ref 621]) (by decide +kernel) rfl) ?_
  refine ev_go0 (ev_p_virt (M := ev_Mlaw) (pc := 774) (x := 131) (mi := 220) (na := 0) (by decide +kernel) (by decide +kernel) (by decide +kernel) (by decide +kernel) rfl rfl (ev_recv_of (ev_hself ev_fH621)) ev_k26) ?_
  refine ev_go0 (ev_one_pure (M := ev_Mlaw) (pc := 777) (i := .iload 5) (len := 2) (pc' := 779) (lv' := [(6, .int (0)), (5, .int (1)), (4, .int (0)), (3, .ref 723), (2, .ref 621), (1, .ref 0), (0, .retAddr 0)]) (st' := [.int (1), .int (1)]) (by decide +kernel) rfl) ?_
  refine ev_go0 (ev_w_icmp (M := ev_Mlaw) (pc := 779) (q := .eq) (o := 5) (b := true) (t := 784) (by decide +kernel) (by decide +kernel) rfl) ?_
  refine ev_go0 (ev_one_pure (M := ev_Mlaw) (pc := 784) (i := .iload 5) (len := 2) (pc' := 786) (lv' := [(6, .int (0)), (5, .int (1)), (4, .int (0)), (3, .ref 723), (2, .ref 621), (1, .ref 0), (0, .retAddr 0)]) (st' := [.int (1)]) (by decide +kernel) rfl) ?_
  refine ev_go0 (ev_w_if (M := ev_Mlaw) (pc := 786) (q := .ne) (o := 15) (b := true) (t := 801) (by decide +kernel) (by decide +kernel) rfl) ?_
  refine ev_go0 (ev_one_pure (M := ev_Mlaw) (pc := 801) (i := .goto 1471) (len := 3) (pc' := 2272) (lv' := [(6, .int (0)), (5, .int (1)), (4, .int (0)), (3, .ref 723), (2, .ref 621), (1, .ref 0), (0, .retAddr 0)]) (st' := []) (by decide +kernel) rfl) ?_
  rfl
theorem ev_k134 (x1 : Int32) (hl_x1 : (0 : Int) ≤ x1.toInt) (x2 : Int32) (hl_x2 : (3 : Int) ≤ x2.toInt) (x3 : Int32) (x4 : Int32) {n : Nat} : ev_calld 10 203 [.ref 0, .int x1, .int x2, .int x3, .int x4] ev_H0 n = some (.inl (some (.int (0))), ev_H0, n, 0, 0) := by
  refine ev_call_int (k := 12) (pcR := 60) (lv' := [(6, .null), (5, .null), (0, .ref 0), (1, .int x1), (2, .int x2), (3, .int x3), (4, .int x4)]) (v := (0)) (ty := .boolean) (by decide +kernel) rfl ?_ (by decide +kernel) (by decide +kernel) (by decide +kernel) (by decide)
  show ev_stepn _ 12 (0, [(0, .ref 0), (1, .int x1), (2, .int x2), (3, .int x3), (4, .int x4)], [], _, _, 0, 0) = _
  refine ev_go0 (ev_one_pure (M := (ev_Mof 203)) (pc := 0) (i := .aload_n 0) (len := 1) (pc' := 1) (lv' := [(0, .ref 0), (1, .int x1), (2, .int x2), (3, .int x3), (4, .int x4)]) (st' := [.ref 0]) (by decide +kernel) rfl) ?_
  refine ev_go0 (ev_one_pure (M := (ev_Mof 203)) (pc := 1) (i := .iload_n 1) (len := 1) (pc' := 2) (lv' := [(0, .ref 0), (1, .int x1), (2, .int x2), (3, .int x3), (4, .int x4)]) (st' := [.int x1, .ref 0]) (by decide +kernel) rfl) ?_
  refine ev_go0 (ev_p_virt (M := (ev_Mof 203)) (pc := 2) (x := 156) (mi := 200) (na := 1) (by decide +kernel) (by decide +kernel) (by decide +kernel) (by decide +kernel) rfl rfl (ev_recv_of ev_fH0) (ev_k117 x1 hl_x1)) ?_
  refine ev_go0 (ev_w_astore (M := (ev_Mof 203)) (pc := 5) (k := 5) (lv' := [(5, .null), (0, .ref 0), (1, .int x1), (2, .int x2), (3, .int x3), (4, .int x4)]) (by decide +kernel) (by decide +kernel) (Or.inr (Or.inl rfl)) rfl) ?_
  refine ev_go0 (ev_one_pure (M := (ev_Mof 203)) (pc := 7) (i := .aload_n 0) (len := 1) (pc' := 8) (lv' := [(5, .null), (0, .ref 0), (1, .int x1), (2, .int x2), (3, .int x3), (4, .int x4)]) (st' := [.ref 0]) (by decide +kernel) rfl) ?_
  refine ev_go0 (ev_p_getf (M := (ev_Mof 203)) (pc := 8) (x := 48) (ci := 12) (f := 8) (fin := 1) (v := .ref 254) (by decide +kernel) (by decide +kernel) ev_fH0 rfl) ?_
  refine ev_go0 (ev_one_pure (M := (ev_Mof 203)) (pc := 11) (i := .iload_n 2) (len := 1) (pc' := 12) (lv' := [(5, .null), (0, .ref 0), (1, .int x1), (2, .int x2), (3, .int x3), (4, .int x4)]) (st' := [.int x2, .ref 254]) (by decide +kernel) rfl) ?_
  refine ev_go0 (ev_p_virt (M := (ev_Mof 203)) (pc := 12) (x := 221) (mi := 1) (na := 1) (by decide +kernel) (by decide +kernel) (by decide +kernel) (by decide +kernel) rfl rfl (ev_recv_of ev_fH254) (ev_k112 x2 hl_x2)) ?_
  refine ev_go0 (ev_w_astore (M := (ev_Mof 203)) (pc := 15) (k := 6) (lv' := [(6, .null), (5, .null), (0, .ref 0), (1, .int x1), (2, .int x2), (3, .int x3), (4, .int x4)]) (by decide +kernel) (by decide +kernel) (Or.inr (Or.inl rfl)) rfl) ?_
  refine ev_go0 (ev_one_pure (M := (ev_Mof 203)) (pc := 17) (i := .aload 5) (len := 2) (pc' := 19) (lv' := [(6, .null), (5, .null), (0, .ref 0), (1, .int x1), (2, .int x2), (3, .int x3), (4, .int x4)]) (st' := [.null]) (by decide +kernel) rfl) ?_
  refine ev_go0 (ev_w_ifnull (M := (ev_Mof 203)) (pc := 19) (o := 40) (t := 59) (by decide +kernel) (Or.inl ⟨rfl, rfl⟩)) ?_
  refine ev_go0 (ev_w_iconst (M := (ev_Mof 203)) (pc := 59) (k := 0) (v := 0) (by decide +kernel) (by decide +kernel)) ?_
  rfl
theorem ev_k135 (x1 : Int32) (hl_x1 : (0 : Int) ≤ x1.toInt) (x2 : Int32) (hl_x2 : (3 : Int) ≤ x2.toInt) (x3 : Int32) (x4 : Int32) {n : Nat} : ev_calld 11 176 [.ref 0, .int x1, .int x2, .int x3, .int x4] ev_H0 n = some (.inr "java/lang/IndexOutOfBoundsException", ev_H0, n, 1, 6) := by
  refine ev_call_thrown (k := 7) (pcR := 12) (x := 160) (lv' := [(0, .ref 0), (1, .int x1), (2, .int x2), (3, .int x3), (4, .int x4)]) (by decide +kernel) rfl ?_ (by decide +kernel) (by decide +kernel) (by decide +kernel) (by decide) (by decide)
  show ev_stepn _ 7 (0, [(0, .ref 0), (1, .int x1), (2, .int x2), (3, .int x3), (4, .int x4)], [], _, _, 0, 0) = _
  refine ev_go0 (ev_one_pure (M := (ev_Mof 176)) (pc := 0) (i := .aload_n 0) (len := 1) (pc' := 1) (lv' := [(0, .ref 0), (1, .int x1), (2, .int x2), (3, .int x3), (4, .int x4)]) (st' := [.ref 0]) (by decide +kernel) rfl) ?_
  refine ev_go0 (ev_one_pure (M := (ev_Mof 176)) (pc := 1) (i := .iload_n 1) (len := 1) (pc' := 2) (lv' := [(0, .ref 0), (1, .int x1), (2, .int x2), (3, .int x3), (4, .int x4)]) (st' := [.int x1, .ref 0]) (by decide +kernel) rfl) ?_
  refine ev_go0 (ev_one_pure (M := (ev_Mof 176)) (pc := 2) (i := .iload_n 2) (len := 1) (pc' := 3) (lv' := [(0, .ref 0), (1, .int x1), (2, .int x2), (3, .int x3), (4, .int x4)]) (st' := [.int x2, .int x1, .ref 0]) (by decide +kernel) rfl) ?_
  refine ev_go0 (ev_one_pure (M := (ev_Mof 176)) (pc := 3) (i := .iload_n 3) (len := 1) (pc' := 4) (lv' := [(0, .ref 0), (1, .int x1), (2, .int x2), (3, .int x3), (4, .int x4)]) (st' := [.int x3, .int x2, .int x1, .ref 0]) (by decide +kernel) rfl) ?_
  refine ev_go0 (ev_one_pure (M := (ev_Mof 176)) (pc := 4) (i := .iload 4) (len := 2) (pc' := 6) (lv' := [(0, .ref 0), (1, .int x1), (2, .int x2), (3, .int x3), (4, .int x4)]) (st' := [.int x4, .int x3, .int x2, .int x1, .ref 0]) (by decide +kernel) rfl) ?_
  refine ev_go0 (ev_p_virt (M := (ev_Mof 176)) (pc := 6) (x := 205) (mi := 203) (na := 4) (by decide +kernel) (by decide +kernel) (by decide +kernel) (by decide +kernel) rfl rfl (ev_recv_of ev_fH0) (ev_k134 x1 hl_x1 x2 hl_x2 x3 x4)) ?_
  refine ev_go0 (ev_w_if (M := (ev_Mof 176)) (pc := 9) (q := .ne) (o := 13) (b := false) (t := 12) (by decide +kernel) (by decide +kernel) rfl) ?_
  rfl
theorem ev_k136 (x1 : Int32) (hl_x1 : (0 : Int) ≤ x1.toInt) (x2 : Int32) (hl_x2 : (3 : Int) ≤ x2.toInt) (x3 : Int32) (x4 : Int32) {n : Nat} : ev_calld 12 373 [.ref 0, .int x1, .int x2, .int x3, .int x4, .ref 723] ev_H0 n = some (.inl (some (.int (1))), ev_H0, n, 1, 6) := by
  refine ev_call_int (k := 10) (pcR := 20) (lv' := [(6, .retAddr 1), (0, .ref 0), (1, .int x1), (2, .int x2), (3, .int x3), (4, .int x4), (5, .ref 723)]) (v := (1)) (ty := .int) (by decide +kernel) rfl ?_ (by decide +kernel) (by decide +kernel) (by decide +kernel) (by decide)
  show ev_stepn _ 10 (0, [(0, .ref 0), (1, .int x1), (2, .int x2), (3, .int x3), (4, .int x4), (5, .ref 723)], [], _, _, 0, 0) = _
  refine ev_go0 (ev_one_pure (M := (ev_Mof 373)) (pc := 0) (i := .aload 5) (len := 2) (pc' := 2) (lv' := [(0, .ref 0), (1, .int x1), (2, .int x2), (3, .int x3), (4, .int x4), (5, .ref 723)]) (st' := [.ref 723]) (by decide +kernel) rfl) ?_
  refine ev_go0 (ev_w_iconst (M := (ev_Mof 373)) (pc := 2) (k := 0) (v := 0) (by decide +kernel) (by decide +kernel)) ?_
  refine ev_go0 (ev_one_pure (M := (ev_Mof 373)) (pc := 3) (i := .aload_n 0) (len := 1) (pc' := 4) (lv' := [(0, .ref 0), (1, .int x1), (2, .int x2), (3, .int x3), (4, .int x4), (5, .ref 723)]) (st' := [.ref 0, .int (0), .ref 723]) (by decide +kernel) rfl) ?_
  refine ev_go0 (ev_one_pure (M := (ev_Mof 373)) (pc := 4) (i := .iload_n 1) (len := 1) (pc' := 5) (lv' := [(0, .ref 0), (1, .int x1), (2, .int x2), (3, .int x3), (4, .int x4), (5, .ref 723)]) (st' := [.int x1, .ref 0, .int (0), .ref 723]) (by decide +kernel) rfl) ?_
  refine ev_go0 (ev_one_pure (M := (ev_Mof 373)) (pc := 5) (i := .iload_n 2) (len := 1) (pc' := 6) (lv' := [(0, .ref 0), (1, .int x1), (2, .int x2), (3, .int x3), (4, .int x4), (5, .ref 723)]) (st' := [.int x2, .int x1, .ref 0, .int (0), .ref 723]) (by decide +kernel) rfl) ?_
  refine ev_go0 (ev_one_pure (M := (ev_Mof 373)) (pc := 6) (i := .iload_n 3) (len := 1) (pc' := 7) (lv' := [(0, .ref 0), (1, .int x1), (2, .int x2), (3, .int x3), (4, .int x4), (5, .ref 723)]) (st' := [.int x3, .int x2, .int x1, .ref 0, .int (0), .ref 723]) (by decide +kernel) rfl) ?_
  refine ev_go0 (ev_one_pure (M := (ev_Mof 373)) (pc := 7) (i := .iload 4) (len := 2) (pc' := 9) (lv' := [(0, .ref 0), (1, .int x1), (2, .int x2), (3, .int x3), (4, .int x4), (5, .ref 723)]) (st' := [.int x4, .int x3, .int x2, .int x1, .ref 0, .int (0), .ref 723]) (by decide +kernel) rfl) ?_
  refine ev_go (ev_p_virtX (M := (ev_Mof 373)) (pc := 9) (x := 46) (t := 17) (mi := 176) (na := 4) (by decide +kernel) (by decide +kernel) (by decide +kernel) (by decide +kernel) rfl rfl (ev_recv_of ev_fH0) (ev_k135 x1 hl_x1 x2 hl_x2 x3 x4) (by decide +kernel)) ?_
  refine ev_go0 (ev_w_astore (M := (ev_Mof 373)) (pc := 17) (k := 6) (lv' := [(6, .retAddr 1), (0, .ref 0), (1, .int x1), (2, .int x2), (3, .int x3), (4, .int x4), (5, .ref 723)]) (by decide +kernel) (by decide +kernel) (Or.inr (Or.inr ⟨_, rfl⟩)) rfl) ?_
  refine ev_go0 (ev_w_iconst (M := (ev_Mof 373)) (pc := 19) (k := 1) (v := 1) (by decide +kernel) (by decide +kernel)) ?_
  rfl
theorem ev_k137 (x1 : Int32) (hl_x1 : (0 : Int) ≤ x1.toInt) (x2 : Int32) (hl_x2 : (3 : Int) ≤ x2.toInt) (x3 : Int32) (x4 : Int32) {n : Nat} : ev_calld 12 328 [.ref 621, .int x1, .int x2, .int x3, .int x4] ev_H0 n = some (.inl (some (.int (0))), (ev_H0.set 621 (.inr (13, (ev_F621.set 0 (.int (1)))))), n, 0, 0) := by
  refine ev_call_int (k := 11) (pcR := 49) (lv' := [(0, .ref 621), (1, .int x1), (2, .int x2), (3, .int x3), (4, .int x4)]) (v := (0)) (ty := .int) (by decide +kernel) rfl ?_ (by decide +kernel) (by decide +kernel) (by decide +kernel) (by decide)
  show ev_stepn _ 11 (0, [(0, .ref 621), (1, .int x1), (2, .int x2), (3, .int x3), (4, .int x4)], [], _, _, 0, 0) = _
  refine ev_go0 (ev_one_pure (M := (ev_Mof 328)) (pc := 0) (i := .aload_n 0) (len := 1) (pc' := 1) (lv' := [(0, .ref 621), (1, .int x1), (2, .int x2), (3, .int x3), (4, .int x4)]) (st' := [.ref 621]) (by decide +kernel) rfl) ?_
  refine ev_go0 (ev_one_pure (M := (ev_Mof 328)) (pc := 1) (i := .aload_n 0) (len := 1) (pc' := 2) (lv' := [(0, .ref 621), (1, .int x1), (2, .int x2), (3, .int x3), (4, .int x4)]) (st' := [.ref 621, .ref 621]) (by decide +kernel) rfl) ?_
  refine ev_go0 (ev_one_pure (M := (ev_Mof 328)) (pc := 2) (i := .iload_n 1) (len := 1) (pc' := 3) (lv' := [(0, .ref 621), (1, .int x1), (2, .int x2), (3, .int x3), (4, .int x4)]) (st' := [.int x1, .ref 621, .ref 621]) (by decide +kernel) rfl) ?_
  refine ev_go0 (ev_p_virt (M := (ev_Mof 328)) (pc := 3) (x := 531) (mi := 273) (na := 1) (by decide +kernel) (by decide +kernel) (by decide +kernel) (by decide +kernel) rfl rfl (ev_recv_of ev_fH621) (ev_k30 x1 hl_x1)) ?_
  refine ev_go0 (ev_w_if (M := (ev_Mof 328)) (pc := 6) (q := .eq) (o := 31) (b := true) (t := 37) (by decide +kernel) (by decide +kernel) rfl) ?_
  refine ev_go0 (ev_w_iconst (M := (ev_Mof 328)) (pc := 37) (k := 1) (v := 1) (by decide +kernel) (by decide +kernel)) ?_
  refine ev_go0 (ev_p_putf (M := (ev_Mof 328)) (pc := 38) (x := 321) (ci := 13) (f := 0) (by decide +kernel) (by decide +kernel) ev_fH621 rfl (by decide +kernel)) ?_
  refine ev_go0 (ev_one_pure (M := (ev_Mof 328)) (pc := 41) (i := .aload_n 0) (len := 1) (pc' := 42) (lv' := [(0, .ref 621), (1, .int x1), (2, .int x2), (3, .int x3), (4, .int x4)]) (st' := [.ref 621]) (by decide +kernel) rfl) ?_
  refine ev_go0 (ev_p_getf (M := (ev_Mof 328)) (pc := 42) (x := 321) (ci := 13) (f := 0) (fin := 0) (v := .int (1)) (by decide +kernel) (by decide +kernel) (ev_hself ev_fH621) rfl) ?_
  refine ev_go0 (ev_w_if (M := (ev_Mof 328)) (pc := 45) (q := .le) (o := 5) (b := false) (t := 48) (by decide +kernel) (by decide +kernel) rfl) ?_
  refine ev_go0 (ev_w_iconst (M := (ev_Mof 328)) (pc := 48) (k := 0) (v := 0) (by decide +kernel) (by decide +kernel)) ?_
  rfl
theorem ev_p1_10_pg (xs : Nat → Int32) (x1 : Int32) (hl_x1 : (0 : Int) ≤ x1.toInt) (x2 : Int32) (hl_x2 : (3 : Int) ≤ x2.toInt) (x3 : Int32) (x4 : Int32) (e1 : xs 1 = x1) (e2 : xs 2 = x2) (e3 : xs 3 = x3) (e4 : xs 4 = x4) : ev_P1 xs 712 := by
  refine ⟨54, [(6, .int (0)), (5, .int (1)), (4, .int (0)), (3, .ref 723), (2, .ref 621), (1, .ref 0), (0, .retAddr 0)], (ev_H0.set 621 (.inr (13, (ev_F621.set 0 (.int (1)))))), 724, 725, 3553592, ?_, ⟨rfl, rfl, rfl, rfl⟩, rfl, by decide, by decide⟩
  show ev_stepn _ _ (712, [(4, .int (0)), (3, .ref 723), (2, .ref 621), (1, .ref 0), (0, .retAddr 0)], [], _, _, _, _) = _
  refine ev_go0 (ev_one_pure (M := ev_Mlaw) (pc := 712) (i := .aload_n 1) (len := 1) (pc' := 713) (lv' := [(4, .int (0)), (3, .ref 723), (2, .ref 621), (1, .ref 0), (0, .retAddr 0)]) (st' := [.ref 0]) (by decide +kernel) rfl) ?_
  refine ev_go0 (ev_one_pure (M := ev_Mlaw) (pc := 713) (i := .aload_n 0) (len := 1) (pc' := 714) (lv' := [(4, .int (0)), (3, .ref 723), (2, .ref 621), (1, .ref 0), (0, .retAddr 0)]) (st' := [.retAddr 0, .ref 0]) (by decide +kernel) rfl) ?_
  refine ev_go0 (ev_one_pure (M := ev_Mlaw) (pc := 714) (i := .iload 4) (len := 2) (pc' := 716) (lv' := [(4, .int (0)), (3, .ref 723), (2, .ref 621), (1, .ref 0), (0, .retAddr 0)]) (st' := [.int (0), .retAddr 0, .ref 0]) (by decide +kernel) rfl) ?_
  refine ev_go0 (ev_w_iconst (M := ev_Mlaw) (pc := 716) (k := 1) (v := 1) (by decide +kernel) (by decide +kernel)) ?_
  refine ev_go0 (ev_w_iadd (M := ev_Mlaw) (pc := 717) (v := (1)) (by decide +kernel) (by decide +kernel)) ?_
  refine ev_go0 (ev_w_scr (M := ev_Mlaw) (pc := 718) (v := x1) (j := 1) (by decide +kernel) (by decide +kernel) (by decide +kernel) e1) ?_
  refine ev_go0 (ev_one_pure (M := ev_Mlaw) (pc := 719) (i := .aload_n 0) (len := 1) (pc' := 720) (lv' := [(4, .int (0)), (3, .ref 723), (2, .ref 621), (1, .ref 0), (0, .retAddr 0)]) (st' := [.retAddr 0, .int x1, .ref 0]) (by decide +kernel) rfl) ?_
  refine ev_go0 (ev_one_pure (M := ev_Mlaw) (pc := 720) (i := .iload 4) (len := 2) (pc' := 722) (lv' := [(4, .int (0)), (3, .ref 723), (2, .ref 621), (1, .ref 0), (0, .retAddr 0)]) (st' := [.int (0), .retAddr 0, .int x1, .ref 0]) (by decide +kernel) rfl) ?_
  refine ev_go0 (ev_w_iconst (M := ev_Mlaw) (pc := 722) (k := 2) (v := 2) (by decide +kernel) (by decide +kernel)) ?_
  refine ev_go0 (ev_w_iadd (M := ev_Mlaw) (pc := 723) (v := (2)) (by decide +kernel) (by decide +kernel)) ?_
  refine ev_go0 (ev_w_scr (M := ev_Mlaw) (pc := 724) (v := x2) (j := 2) (by decide +kernel) (by decide +kernel) (by decide +kernel) e2) ?_
  refine ev_go0 (ev_one_pure (M := ev_Mlaw) (pc := 725) (i := .aload_n 0) (len := 1) (pc' := 726) (lv' := [(4, .int (0)), (3, .ref 723), (2, .ref 621), (1, .ref 0), (0, .retAddr 0)]) (st' := [.retAddr 0, .int x2, .int x1, .ref 0]) (by decide +kernel) rfl) ?_
  refine ev_go0 (ev_one_pure (M := ev_Mlaw) (pc := 726) (i := .iload 4) (len := 2) (pc' := 728) (lv' := [(4, .int (0)), (3, .ref 723), (2, .ref 621), (1, .ref 0), (0, .retAddr 0)]) (st' := [.int (0), .retAddr 0, .int x2, .int x1, .ref 0]) (by decide +kernel) rfl) ?_
  refine ev_go0 (ev_w_iconst (M := ev_Mlaw) (pc := 728) (k := 3) (v := 3) (by decide +kernel) (by decide +kernel)) ?_
  refine ev_go0 (ev_w_iadd (M := ev_Mlaw) (pc := 729) (v := (3)) (by decide +kernel) (by decide +kernel)) ?_
  refine ev_go0 (ev_w_scr (M := ev_Mlaw) (pc := 730) (v := x3) (j := 3) (by decide +kernel) (by decide +kernel) (by decide +kernel) e3) ?_
  refine ev_go0 (ev_one_pure (M := ev_Mlaw) (pc := 731) (i := .aload_n 0) (len := 1) (pc' := 732) (lv' := [(4, .int (0)), (3, .ref 723), (2, .ref 621), (1, .ref 0), (0, .retAddr 0)]) (st' := [.retAddr 0, .int x3, .int x2, .int x1, .ref 0]) (by decide +kernel) rfl) ?_
  refine ev_go0 (ev_one_pure (M := ev_Mlaw) (pc := 732) (i := .iload 4) (len := 2) (pc' := 734) (lv' := [(4, .int (0)), (3, .ref 723), (2, .ref 621), (1, .ref 0), (0, .retAddr 0)]) (st' := [.int (0), .retAddr 0, .int x3, .int x2, .int x1, .ref 0]) (by decide +kernel) rfl) ?_
  refine ev_go0 (ev_w_iconst (M := ev_Mlaw) (pc := 734) (k := 4) (v := 4) (by decide +kernel) (by decide +kernel)) ?_
  refine ev_go0 (ev_w_iadd (M := ev_Mlaw) (pc := 735) (v := (4)) (by decide +kernel) (by decide +kernel)) ?_
  refine ev_go0 (ev_w_scr (M := ev_Mlaw) (pc := 736) (v := x4) (j := 4) (by decide +kernel) (by decide +kernel) (by decide +kernel) e4) ?_
  refine ev_go0 (ev_one_pure (M := ev_Mlaw) (pc := 737) (i := .aload_n 3) (len := 1) (pc' := 738) (lv' := [(4, .int (0)), (3, .ref 723), (2, .ref 621), (1, .ref 0), (0, .retAddr 0)]) (st' := [.ref 723, .int x4, .int x3, .int x2, .int x1, .ref 0]) (by decide +kernel) rfl) ?_
  refine ev_go (ev_w_stat (M := ev_Mlaw) (pc := 738) (y := 164) (kind := 8) (Or.inr (Or.inr rfl)) (mi := 373) (na := 6) (by decide +kernel) (by decide +kernel) (by decide +kernel) (by decide +kernel) rfl rfl (ev_k136 x1 hl_x1 x2 hl_x2 x3 x4)) ?_
  refine ev_go0 (ev_w_istore (M := ev_Mlaw) (pc := 741) (k := 5) (lv' := [(5, .int (1)), (4, .int (0)), (3, .ref 723), (2, .ref 621), (1, .ref 0), (0, .retAddr 0)]) (by decide +kernel) (by decide +kernel) rfl) ?_
  refine ev_go0 (ev_one_pure (M := ev_Mlaw) (pc := 743) (i := .aload_n 2) (len := 1) (pc' := 744) (lv' := [(5, .int (1)), (4, .int (0)), (3, .ref 723), (2, .ref 621), (1, .ref 0), (0, .retAddr 0)]) (st' := [.ref 621]) (by decide +kernel) rfl) ?_
  refine ev_go0 (ev_one_pure (M := ev_Mlaw) (pc := 744) (i := .aload_n 0) (len := 1) (pc' := 745) (lv' := [(5, .int (1)), (4, .int (0)), (3, .ref 723), (2, .ref 621), (1, .ref 0), (0, .retAddr 0)]) (st' := [.retAddr 0, .ref 621]) (by decide +kernel) rfl) ?_
  refine ev_go0 (ev_one_pure (M := ev_Mlaw) (pc := 745) (i := .iload 4) (len := 2) (pc' := 747) (lv' := [(5, .int (1)), (4, .int (0)), (3, .ref 723), (2, .ref 621), (1, .ref 0), (0, .retAddr 0)]) (st' := [.int (0), .retAddr 0, .ref 621]) (by decide +kernel) rfl) ?_
  refine ev_go0 (ev_w_iconst (M := ev_Mlaw) (pc := 747) (k := 1) (v := 1) (by decide +kernel) (by decide +kernel)) ?_
  refine ev_go0 (ev_w_iadd (M := ev_Mlaw) (pc := 748) (v := (1)) (by decide +kernel) (by decide +kernel)) ?_
  refine ev_go0 (ev_w_scr (M := ev_Mlaw) (pc := 749) (v := x1) (j := 1) (by decide +kernel) (by decide +kernel) (by decide +kernel) e1) ?_
  refine ev_go0 (ev_one_pure (M := ev_Mlaw) (pc := 750) (i := .aload_n 0) (len := 1) (pc' := 751) (lv' := [(5, .int (1)), (4, .int (0)), (3, .ref 723), (2, .ref 621), (1, .ref 0), (0, .retAddr 0)]) (st' := [.retAddr 0, .int x1, .ref 621]) (by decide +kernel) rfl) ?_
  refine ev_go0 (ev_one_pure (M := ev_Mlaw) (pc := 751) (i := .iload 4) (len := 2) (pc' := 753) (lv' := [(5, .int (1)), (4, .int (0)), (3, .ref 723), (2, .ref 621), (1, .ref 0), (0, .retAddr 0)]) (st' := [.int (0), .retAddr 0, .int x1, .ref 621]) (by decide +kernel) rfl) ?_
  refine ev_go0 (ev_w_iconst (M := ev_Mlaw) (pc := 753) (k := 2) (v := 2) (by decide +kernel) (by decide +kernel)) ?_
  refine ev_go0 (ev_w_iadd (M := ev_Mlaw) (pc := 754) (v := (2)) (by decide +kernel) (by decide +kernel)) ?_
  refine ev_go0 (ev_w_scr (M := ev_Mlaw) (pc := 755) (v := x2) (j := 2) (by decide +kernel) (by decide +kernel) (by decide +kernel) e2) ?_
  refine ev_go0 (ev_one_pure (M := ev_Mlaw) (pc := 756) (i := .aload_n 0) (len := 1) (pc' := 757) (lv' := [(5, .int (1)), (4, .int (0)), (3, .ref 723), (2, .ref 621), (1, .ref 0), (0, .retAddr 0)]) (st' := [.retAddr 0, .int x2, .int x1, .ref 621]) (by decide +kernel) rfl) ?_
  refine ev_go0 (ev_one_pure (M := ev_Mlaw) (pc := 757) (i := .iload 4) (len := 2) (pc' := 759) (lv' := [(5, .int (1)), (4, .int (0)), (3, .ref 723), (2, .ref 621), (1, .ref 0), (0, .retAddr 0)]) (st' := [.int (0), .retAddr 0, .int x2, .int x1, .ref 621]) (by decide +kernel) rfl) ?_
  refine ev_go0 (ev_w_iconst (M := ev_Mlaw) (pc := 759) (k := 3) (v := 3) (by decide +kernel) (by decide +kernel)) ?_
  refine ev_go0 (ev_w_iadd (M := ev_Mlaw) (pc := 760) (v := (3)) (by decide +kernel) (by decide +kernel)) ?_
  refine ev_go0 (ev_w_scr (M := ev_Mlaw) (pc := 761) (v := x3) (j := 3) (by decide +kernel) (by decide +kernel) (by decide +kernel) e3) ?_
  refine ev_go0 (ev_one_pure (M := ev_Mlaw) (pc := 762) (i := .aload_n 0) (len := 1) (pc' := 763) (lv' := [(5, .int (1)), (4, .int (0)), (3, .ref 723), (2, .ref 621), (1, .ref 0), (0, .retAddr 0)]) (st' := [.retAddr 0, .int x3, .int x2, .int x1, .ref 621]) (by decide +kernel) rfl) ?_
  refine ev_go0 (ev_one_pure (M := ev_Mlaw) (pc := 763) (i := .iload 4) (len := 2) (pc' := 765) (lv' := [(5, .int (1)), (4, .int (0)), (3, .ref 723), (2, .ref 621), (1, .ref 0), (0, .retAddr 0)]) (st' := [.int (0), .retAddr 0, .int x3, .int x2, .int x1, .ref 621]) (by decide +kernel) rfl) ?_
  refine ev_go0 (ev_w_iconst (M := ev_Mlaw) (pc := 765) (k := 4) (v := 4) (by decide +kernel) (by decide +kernel)) ?_
  refine ev_go0 (ev_w_iadd (M := ev_Mlaw) (pc := 766) (v := (4)) (by decide +kernel) (by decide +kernel)) ?_
  refine ev_go0 (ev_w_scr (M := ev_Mlaw) (pc := 767) (v := x4) (j := 4) (by decide +kernel) (by decide +kernel) (by decide +kernel) e4) ?_
  refine ev_go0 (ev_p_virt (M := ev_Mlaw) (pc := 768) (x := 167) (mi := 328) (na := 4) (by decide +kernel) (by decide +kernel) (by decide +kernel) (by decide +kernel) rfl rfl (ev_recv_of ev_fH621) (ev_k137 x1 hl_x1 x2 hl_x2 x3 x4)) ?_
  refine ev_go0 (ev_w_istore (M := ev_Mlaw) (pc := 771) (k := 6) (lv' := [(6, .int (0)), (5, .int (1)), (4, .int (0)), (3, .ref 723), (2, .ref 621), (1, .ref 0), (0, .retAddr 0)]) (by decide +kernel) (by decide +kernel) rfl) ?_
  refine ev_go0 (ev_one_pure (M := ev_Mlaw) (pc := 773) (i := .aload_n 2) (len := 1) (pc' := 774) (lv' := [(6, .int (0)), (5, .int (1)), (4, .int (0)), (3, .ref 723), (2, .ref 621), (1, .ref 0), (0, .retAddr 0)]) (st' := [.ref 621]) (by decide +kernel) rfl) ?_
  refine ev_go0 (ev_p_virt (M := ev_Mlaw) (pc := 774) (x := 131) (mi := 220) (na := 0) (by decide +kernel) (by decide +kernel) (by decide +kernel) (by decide +kernel) rfl rfl (ev_recv_of (ev_hself ev_fH621)) ev_k26) ?_
  refine ev_go0 (ev_one_pure (M := ev_Mlaw) (pc := 777) (i := .iload 5) (len := 2) (pc' := 779) (lv' := [(6, .int (0)), (5, .int (1)), (4, .int (0)), (3, .ref 723), (2, .ref 621), (1, .ref 0), (0, .retAddr 0)]) (st' := [.int (1), .int (1)]) (by decide +kernel) rfl) ?_
  refine ev_go0 (ev_w_icmp (M := ev_Mlaw) (pc := 779) (q := .eq) (o := 5) (b := true) (t := 784) (by decide +kernel) (by decide +kernel) rfl) ?_
  refine ev_go0 (ev_one_pure (M := ev_Mlaw) (pc := 784) (i := .iload 5) (len := 2) (pc' := 786) (lv' := [(6, .int (0)), (5, .int (1)), (4, .int (0)), (3, .ref 723), (2, .ref 621), (1, .ref 0), (0, .retAddr 0)]) (st' := [.int (1)]) (by decide +kernel) rfl) ?_
  refine ev_go0 (ev_w_if (M := ev_Mlaw) (pc := 786) (q := .ne) (o := 15) (b := true) (t := 801) (by decide +kernel) (by decide +kernel) rfl) ?_
  refine ev_go0 (ev_one_pure (M := ev_Mlaw) (pc := 801) (i := .goto 1471) (len := 3) (pc' := 2272) (lv' := [(6, .int (0)), (5, .int (1)), (4, .int (0)), (3, .ref 723), (2, .ref 621), (1, .ref 0), (0, .retAddr 0)]) (st' := []) (by decide +kernel) rfl) ?_
  rfl
theorem ev_p1arm10 (xs : Nat → Int32) : ev_P1 xs 712 := by
  rcases ev_split2 (xs 1) with h1 | h1
  · skip
    rcases ev_split5 (xs 2) with h2 | h2 | h2 | h2 | h2
    · skip
      exact ev_p1_10_nn xs (xs 1) h1 (xs 2) h2 (xs 3) (xs 4) rfl rfl rfl rfl
    · skip
      exact ev_p1_10_n0 xs (xs 1) h1 (xs 3) (xs 4) rfl h2 rfl rfl
    · skip
      exact ev_p1_10_n1 xs (xs 1) h1 (xs 3) (xs 4) rfl h2 rfl rfl
    · skip
      exact ev_p1_10_n2 xs (xs 1) h1 (xs 3) (xs 4) rfl h2 rfl rfl
    · skip
      exact ev_p1_10_ng xs (xs 1) h1 (xs 2) h2 (xs 3) (xs 4) rfl rfl rfl rfl
  · skip
    rcases ev_split5 (xs 2) with h2 | h2 | h2 | h2 | h2
    · skip
      exact ev_p1_10_pn xs (xs 1) h1 (xs 2) h2 (xs 3) (xs 4) rfl rfl rfl rfl
    · skip
      exact ev_p1_10_p0 xs (xs 1) h1 (xs 3) (xs 4) rfl h2 rfl rfl
    · skip
      exact ev_p1_10_p1 xs (xs 1) h1 (xs 3) (xs 4) rfl h2 rfl rfl
    · skip
      exact ev_p1_10_p2 xs (xs 1) h1 (xs 3) (xs 4) rfl h2 rfl rfl
    · skip
      exact ev_p1_10_pg xs (xs 1) h1 (xs 2) h2 (xs 3) (xs 4) rfl rfl rfl rfl
theorem ev_k138 (x1 : Int32) (hu_x1 : x1.toInt ≤ (-1 : Int)) (x2 : Int32) (hu_x2 : x2.toInt ≤ (-1 : Int)) (x3 : Int32) (x4 : Int32) {n : Nat} : ev_calld 11 177 [.ref 0, .int x1, .int x2, .int x3, .int x4] ev_H0 n = some (.inr "java/lang/IndexOutOfBoundsException", ev_H0, n, 1, 6) := by
  refine ev_call_thrown (k := 7) (pcR := 12) (x := 160) (lv' := [(0, .ref 0), (1, .int x1), (2, .int x2), (3, .int x3), (4, .int x4)]) (by decide +kernel) rfl ?_ (by decide +kernel) (by decide +kernel) (by decide +kernel) (by decide) (by decide)
  show ev_stepn _ 7 (0, [(0, .ref 0), (1, .int x1), (2, .int x2), (3, .int x3), (4, .int x4)], [], _, _, 0, 0) = _
  refine ev_go0 (ev_one_pure (M := (ev_Mof 177)) (pc := 0) (i := .aload_n 0) (len := 1) (pc' := 1) (lv' := [(0, .ref 0), (1, .int x1), (2, .int x2), (3, .int x3), (4, .int x4)]) (st' := [.ref 0]) (by decide +kernel) rfl) ?_
  refine ev_go0 (ev_one_pure (M := (ev_Mof 177)) (pc := 1) (i := .iload_n 1) (len := 1) (pc' := 2) (lv' := [(0, .ref 0), (1, .int x1), (2, .int x2), (3, .int x3), (4, .int x4)]) (st' := [.int x1, .ref 0]) (by decide +kernel) rfl) ?_
  refine ev_go0 (ev_one_pure (M := (ev_Mof 177)) (pc := 2) (i := .iload_n 2) (len := 1) (pc' := 3) (lv' := [(0, .ref 0), (1, .int x1), (2, .int x2), (3, .int x3), (4, .int x4)]) (st' := [.int x2, .int x1, .ref 0]) (by decide +kernel) rfl) ?_
  refine ev_go0 (ev_one_pure (M := (ev_Mof 177)) (pc := 3) (i := .iload_n 3) (len := 1) (pc' := 4) (lv' := [(0, .ref 0), (1, .int x1), (2, .int x2), (3, .int x3), (4, .int x4)]) (st' := [.int x3, .int x2, .int x1, .ref 0]) (by decide +kernel) rfl) ?_
  refine ev_go0 (ev_one_pure (M := (ev_Mof 177)) (pc := 4) (i := .iload 4) (len := 2) (pc' := 6) (lv' := [(0, .ref 0), (1, .int x1), (2, .int x2), (3, .int x3), (4, .int x4)]) (st' := [.int x4, .int x3, .int x2, .int x1, .ref 0]) (by decide +kernel) rfl) ?_
  refine ev_go0 (ev_p_virt (M := (ev_Mof 177)) (pc := 6) (x := 205) (mi := 203) (na := 4) (by decide +kernel) (by decide +kernel) (by decide +kernel) (by decide +kernel) rfl rfl (ev_recv_of ev_fH0) (ev_k93 x1 hu_x1 x2 hu_x2 x3 x4)) ?_
  refine ev_go0 (ev_w_if (M := (ev_Mof 177)) (pc := 9) (q := .ne) (o := 13) (b := false) (t := 12) (by decide +kernel) (by decide +kernel) rfl) ?_
  rfl
theorem ev_k139 (x1 : Int32) (hu_x1 : x1.toInt ≤ (-1 : Int)) (x2 : Int32) (hu_x2 : x2.toInt ≤ (-1 : Int)) (x3 : Int32) (x4 : Int32) {n : Nat} : ev_calld 12 374 [.ref 0, .int x1, .int x2, .int x3, .int x4, .ref 723] ev_H0 n = some (.inl (some (.int (1))), ev_H0, n, 1, 6) := by
  refine ev_call_int (k := 10) (pcR := 20) (lv' := [(6, .retAddr 1), (0, .ref 0), (1, .int x1), (2, .int x2), (3, .int x3), (4, .int x4), (5, .ref 723)]) (v := (1)) (ty := .int) (by decide +kernel) rfl ?_ (by decide +kernel) (by decide +kernel) (by decide +kernel) (by decide)
  show ev_stepn _ 10 (0, [(0, .ref 0), (1, .int x1), (2, .int x2), (3, .int x3), (4, .int x4), (5, .ref 723)], [], _, _, 0, 0) = _
  refine ev_go0 (ev_one_pure (M := (ev_Mof 374)) (pc := 0) (i := .aload 5) (len := 2) (pc' := 2) (lv' := [(0, .ref 0), (1, .int x1), (2, .int x2), (3, .int x3), (4, .int x4), (5, .ref 723)]) (st' := [.ref 723]) (by decide +kernel) rfl) ?_
  refine ev_go0 (ev_w_iconst (M := (ev_Mof 374)) (pc := 2) (k := 0) (v := 0) (by decide +kernel) (by decide +kernel)) ?_
  refine ev_go0 (ev_one_pure (M := (ev_Mof 374)) (pc := 3) (i := .aload_n 0) (len := 1) (pc' := 4) (lv' := [(0, .ref 0), (1, .int x1), (2, .int x2), (3, .int x3), (4, .int x4), (5, .ref 723)]) (st' := [.ref 0, .int (0), .ref 723]) (by decide +kernel) rfl) ?_
  refine ev_go0 (ev_one_pure (M := (ev_Mof 374)) (pc := 4) (i := .iload_n 1) (len := 1) (pc' := 5) (lv' := [(0, .ref 0), (1, .int x1), (2, .int x2), (3, .int x3), (4, .int x4), (5, .ref 723)]) (st' := [.int x1, .ref 0, .int (0), .ref 723]) (by decide +kernel) rfl) ?_
  refine ev_go0 (ev_one_pure (M := (ev_Mof 374)) (pc := 5) (i := .iload_n 2) (len := 1) (pc' := 6) (lv' := [(0, .ref 0), (1, .int x1), (2, .int x2), (3, .int x3), (4, .int x4), (5, .ref 723)]) (st' := [.int x2, .int x1, .ref 0, .int (0), .ref 723]) (by decide +kernel) rfl) ?_
  refine ev_go0 (ev_one_pure (M := (ev_Mof 374)) (pc := 6) (i := .iload_n 3) (len := 1) (pc' := 7) (lv' := [(0, .ref 0), (1, .int x1), (2, .int x2), (3, .int x3), (4, .int x4), (5, .ref 723)]) (st' := [.int x3, .int x2, .int x1, .ref 0, .int (0), .ref 723]) (by decide +kernel) rfl) ?_
  refine ev_go0 (ev_one_pure (M := (ev_Mof 374)) (pc := 7) (i := .iload 4) (len := 2) (pc' := 9) (lv' := [(0, .ref 0), (1, .int x1), (2, .int x2), (3, .int x3), (4, .int x4), (5, .ref 723)]) (st' := [.int x4, .int x3, .int x2, .int x1, .ref 0, .int (0), .ref 723]) (by decide +kernel) rfl) ?_
  refine ev_go (ev_p_virtX (M := (ev_Mof 374)) (pc := 9) (x := 50) (t := 17) (mi := 177) (na := 4) (by decide +kernel) (by decide +kernel) (by decide +kernel) (by decide +kernel) rfl rfl (ev_recv_of ev_fH0) (ev_k138 x1 hu_x1 x2 hu_x2 x3 x4) (by decide +kernel)) ?_
  refine ev_go0 (ev_w_astore (M := (ev_Mof 374)) (pc := 17) (k := 6) (lv' := [(6, .retAddr 1), (0, .ref 0), (1, .int x1), (2, .int x2), (3, .int x3), (4, .int x4), (5, .ref 723)]) (by decide +kernel) (by decide +kernel) (Or.inr (Or.inr ⟨_, rfl⟩)) rfl) ?_
  refine ev_go0 (ev_w_iconst (M := (ev_Mof 374)) (pc := 19) (k := 1) (v := 1) (by decide +kernel) (by decide +kernel)) ?_
  rfl
theorem ev_k140 (x1 : Int32) (hu_x1 : x1.toInt ≤ (-1 : Int)) {n : Nat} : ev_calld 9 222 [.int x1, .int (0), .int (-1)] ev_H0 n = some (.inl (some (.int (0))), ev_H0, n, 0, 0) := by
  refine ev_call_int (k := 4) (pcR := 15) (lv' := [(0, .int x1), (1, .int (0)), (2, .int (-1))]) (v := (0)) (ty := .boolean) (by decide +kernel) rfl ?_ (by decide +kernel) (by decide +kernel) (by decide +kernel) (by decide)
  show ev_stepn _ 4 (0, [(0, .int x1), (1, .int (0)), (2, .int (-1))], [], _, _, 0, 0) = _
  refine ev_go0 (ev_one_pure (M := (ev_Mof 222)) (pc := 0) (i := .iload_n 0) (len := 1) (pc' := 1) (lv' := [(0, .int x1), (1, .int (0)), (2, .int (-1))]) (st' := [.int x1]) (by decide +kernel) rfl) ?_
  refine ev_go0 (ev_one_pure (M := (ev_Mof 222)) (pc := 1) (i := .iload_n 1) (len := 1) (pc' := 2) (lv' := [(0, .int x1), (1, .int (0)), (2, .int (-1))]) (st' := [.int (0), .int x1]) (by decide +kernel) rfl) ?_
  refine ev_go0 (ev_w_icmp (M := (ev_Mof 222)) (pc := 2) (q := .lt) (o := 12) (b := true) (t := 14) (by decide +kernel) (ev_c_lt1 hu_x1 (by decide +kernel)) rfl) ?_
  refine ev_go0 (ev_w_iconst (M := (ev_Mof 222)) (pc := 14) (k := 0) (v := 0) (by decide +kernel) (by decide +kernel)) ?_
  rfl
theorem ev_k141 (x1 : Int32) (hu_x1 : x1.toInt ≤ (-1 : Int)) {n : Nat} : ev_calld 10 273 [.ref 621, .int x1] ev_H0 n = some (.inl (some (.int (0))), ev_H0, n, 0, 0) := by
  refine ev_call_int (k := 7) (pcR := 11) (lv' := [(0, .ref 621), (1, .int x1)]) (v := (0)) (ty := .boolean) (by decide +kernel) rfl ?_ (by decide +kernel) (by decide +kernel) (by decide +kernel) (by decide)
  show ev_stepn _ 7 (0, [(0, .ref 621), (1, .int x1)], [], _, _, 0, 0) = _
  refine ev_go0 (ev_one_pure (M := (ev_Mof 273)) (pc := 0) (i := .iload_n 1) (len := 1) (pc' := 1) (lv' := [(0, .ref 621), (1, .int x1)]) (st' := [.int x1]) (by decide +kernel) rfl) ?_
  refine ev_go0 (ev_w_iconst (M := (ev_Mof 273)) (pc := 1) (k := 0) (v := 0) (by decide +kernel) (by decide +kernel)) ?_
  refine ev_go0 (ev_one_pure (M := (ev_Mof 273)) (pc := 2) (i := .aload_n 0) (len := 1) (pc' := 3) (lv' := [(0, .ref 621), (1, .int x1)]) (st' := [.ref 621, .int (0), .int x1]) (by decide +kernel) rfl) ?_
  refine ev_go0 (ev_p_getf (M := (ev_Mof 273)) (pc := 3) (x := 525) (ci := 13) (f := 5) (fin := 0) (v := .int (0)) (by decide +kernel) (by decide +kernel) ev_fH621 rfl) ?_
  refine ev_go0 (ev_w_iconst (M := (ev_Mof 273)) (pc := 6) (k := 1) (v := 1) (by decide +kernel) (by decide +kernel)) ?_
  refine ev_go0 (ev_w_isub (M := (ev_Mof 273)) (pc := 7) (v := (-1)) (by decide +kernel) (by decide +kernel)) ?_
  refine ev_go0 (ev_w_stat (M := (ev_Mof 273)) (pc := 8) (y := 325) (kind := 2) (Or.inl rfl) (mi := 222) (na := 3) (by decide +kernel) (by decide +kernel) (by decide +kernel) (by decide +kernel) rfl rfl (ev_k140 x1 hu_x1)) ?_
  rfl
theorem ev_k142 (x1 : Int32) (hu_x1 : x1.toInt ≤ (-1 : Int)) (x2 : Int32) (hu_x2 : x2.toInt ≤ (-1 : Int)) (x3 : Int32) (x4 : Int32) {n : Nat} : ev_calld 11 328 [.ref 621, .int x1, .int x2, .int x3, .int x4] ev_H0 n = some (.inl (some (.int (0))), (ev_H0.set 621 (.inr (13, (ev_F621.set 0 (.int (1)))))), n, 0, 0) := by
  refine ev_call_int (k := 11) (pcR := 49) (lv' := [(0, .ref 621), (1, .int x1), (2, .int x2), (3, .int x3), (4, .int x4)]) (v := (0)) (ty := .int) (by decide +kernel) rfl ?_ (by decide +kernel) (by decide +kernel) (by decide +kernel) (by decide)
  show ev_stepn _ 11 (0, [(0, .ref 621), (1, .int x1), (2, .int x2), (3, .int x3), (4, .int x4)], [], _, _, 0, 0) = _
  refine ev_go0 (ev_one_pure (M := (ev_Mof 328)) (pc := 0) (i := .aload_n 0) (len := 1) (pc' := 1) (lv' := [(0, .ref 621), (1, .int x1), (2, .int x2), (3, .int x3), (4, .int x4)]) (st' := [.ref 621]) (by decide +kernel) rfl) ?_
  refine ev_go0 (ev_one_pure (M := (ev_Mof 328)) (pc := 1) (i := .aload_n 0) (len := 1) (pc' := 2) (lv' := [(0, .ref 621), (1, .int x1), (2, .int x2), (3, .int x3), (4, .int x4)]) (st' := [.ref 621, .ref 621]) (by decide +kernel) rfl) ?_
  refine ev_go0 (ev_one_pure (M := (ev_Mof 328)) (pc := 2) (i := .iload_n 1) (len := 1) (pc' := 3) (lv' := [(0, .ref 621), (1, .int x1), (2, .int x2), (3, .int x3), (4, .int x4)]) (st' := [.int x1, .ref 621, .ref 621]) (by decide +kernel) rfl) ?_
  refine ev_go0 (ev_p_virt (M := (ev_Mof 328)) (pc := 3) (x := 531) (mi := 273) (na := 1) (by decide +kernel) (by decide +kernel) (by decide +kernel) (by decide +kernel) rfl rfl (ev_recv_of ev_fH621) (ev_k141 x1 hu_x1)) ?_
  refine ev_go0 (ev_w_if (M := (ev_Mof 328)) (pc := 6) (q := .eq) (o := 31) (b := true) (t := 37) (by decide +kernel) (by decide +kernel) rfl) ?_
  refine ev_go0 (ev_w_iconst (M := (ev_Mof 328)) (pc := 37) (k := 1) (v := 1) (by decide +kernel) (by decide +kernel)) ?_
  refine ev_go0 (ev_p_putf (M := (ev_Mof 328)) (pc := 38) (x := 321) (ci := 13) (f := 0) (by decide +kernel) (by decide +kernel) ev_fH621 rfl (by decide +kernel)) ?_
  refine ev_go0 (ev_one_pure (M := (ev_Mof 328)) (pc := 41) (i := .aload_n 0) (len := 1) (pc' := 42) (lv' := [(0, .ref 621), (1, .int x1), (2, .int x2), (3, .int x3), (4, .int x4)]) (st' := [.ref 621]) (by decide +kernel) rfl) ?_
  refine ev_go0 (ev_p_getf (M := (ev_Mof 328)) (pc := 42) (x := 321) (ci := 13) (f := 0) (fin := 0) (v := .int (1)) (by decide +kernel) (by decide +kernel) (ev_hself ev_fH621) rfl) ?_
  refine ev_go0 (ev_w_if (M := (ev_Mof 328)) (pc := 45) (q := .le) (o := 5) (b := false) (t := 48) (by decide +kernel) (by decide +kernel) rfl) ?_
  refine ev_go0 (ev_w_iconst (M := (ev_Mof 328)) (pc := 48) (k := 0) (v := 0) (by decide +kernel) (by decide +kernel)) ?_
  rfl
theorem ev_k143 (x1 : Int32) (hu_x1 : x1.toInt ≤ (-1 : Int)) (x2 : Int32) (hu_x2 : x2.toInt ≤ (-1 : Int)) (x3 : Int32) (x4 : Int32) {n : Nat} : ev_calld 12 329 [.ref 621, .int x1, .int x2, .int x3, .int x4] ev_H0 n = some (.inl (some (.int (0))), (ev_H0.set 621 (.inr (13, (ev_F621.set 0 (.int (1)))))), n, 0, 0) := by
  refine ev_call_int (k := 6) (pcR := 9) (lv' := [(0, .ref 621), (1, .int x1), (2, .int x2), (3, .int x3), (4, .int x4)]) (v := (0)) (ty := .int) (by decide +kernel) rfl ?_ (by decide +kernel) (by decide +kernel) (by decide +kernel) (by decide)
  show ev_stepn _ 6 (0, [(0, .ref 621), (1, .int x1), (2, .int x2), (3, .int x3), (4, .int x4)], [], _, _, 0, 0) = _
  refine ev_go0 (ev_one_pure (M := (ev_Mof 329)) (pc := 0) (i := .aload_n 0) (len := 1) (pc' := 1) (lv' := [(0, .ref 621), (1, .int x1), (2, .int x2), (3, .int x3), (4, .int x4)]) (st' := [.ref 621]) (by decide +kernel) rfl) ?_
  refine ev_go0 (ev_one_pure (M := (ev_Mof 329)) (pc := 1) (i := .iload_n 1) (len := 1) (pc' := 2) (lv' := [(0, .ref 621), (1, .int x1), (2, .int x2), (3, .int x3), (4, .int x4)]) (st' := [.int x1, .ref 621]) (by decide +kernel) rfl) ?_
  refine ev_go0 (ev_one_pure (M := (ev_Mof 329)) (pc := 2) (i := .iload_n 2) (len := 1) (pc' := 3) (lv' := [(0, .ref 621), (1, .int x1), (2, .int x2), (3, .int x3), (4, .int x4)]) (st' := [.int x2, .int x1, .ref 621]) (by decide +kernel) rfl) ?_
  refine ev_go0 (ev_one_pure (M := (ev_Mof 329)) (pc := 3) (i := .iload_n 3) (len := 1) (pc' := 4) (lv' := [(0, .ref 621), (1, .int x1), (2, .int x2), (3, .int x3), (4, .int x4)]) (st' := [.int x3, .int x2, .int x1, .ref 621]) (by decide +kernel) rfl) ?_
  refine ev_go0 (ev_one_pure (M := (ev_Mof 329)) (pc := 4) (i := .iload 4) (len := 2) (pc' := 6) (lv' := [(0, .ref 621), (1, .int x1), (2, .int x2), (3, .int x3), (4, .int x4)]) (st' := [.int x4, .int x3, .int x2, .int x1, .ref 621]) (by decide +kernel) rfl) ?_
  refine ev_go0 (ev_p_virt (M := (ev_Mof 329)) (pc := 6) (x := 732) (mi := 328) (na := 4) (by decide +kernel) (by decide +kernel) (by decide +kernel) (by decide +kernel) rfl rfl (ev_recv_of ev_fH621) (ev_k142 x1 hu_x1 x2 hu_x2 x3 x4)) ?_
  rfl
theorem ev_p1_11_nn (xs : Nat → Int32) (x1 : Int32) (hu_x1 : x1.toInt ≤ (-1 : Int)) (x2 : Int32) (hu_x2 : x2.toInt ≤ (-1 : Int)) (x3 : Int32) (x4 : Int32) (e1 : xs 1 = x1) (e2 : xs 2 = x2) (e3 : xs 3 = x3) (e4 : xs 4 = x4) : ev_P1 xs 804 := by
  refine ⟨54, [(6, .int (0)), (5, .int (1)), (4, .int (0)), (3, .ref 723), (2, .ref 621), (1, .ref 0), (0, .retAddr 0)], (ev_H0.set 621 (.inr (13, (ev_F621.set 0 (.int (1)))))), 724, 725, 3553592, ?_, ⟨rfl, rfl, rfl, rfl⟩, rfl, by decide, by decide⟩
  show ev_stepn _ _ (804, [(4, .int (0)), (3, .ref 723), (2, .ref 621), (1, .ref 0), (0, .retAddr 0)], [], _, _, _, _) = _
  refine ev_go0 (ev_one_pure (M := ev_Mlaw) (pc := 804) (i := .aload_n 1) (len := 1) (pc' := 805) (lv' := [(4, .int (0)), (3, .ref 723), (2, .ref 621), (1, .ref 0), (0, .retAddr 0)]) (st' := [.ref 0]) (by decide +kernel) rfl) ?_
  refine ev_go0 (ev_one_pure (M := ev_Mlaw) (pc := 805) (i := .aload_n 0) (len := 1) (pc' := 806) (lv' := [(4, .int (0)), (3, .ref 723), (2, .ref 621), (1, .ref 0), (0, .retAddr 0)]) (st' := [.retAddr 0, .ref 0]) (by decide +kernel) rfl) ?_
  refine ev_go0 (ev_one_pure (M := ev_Mlaw) (pc := 806) (i := .iload 4) (len := 2) (pc' := 808) (lv' := [(4, .int (0)), (3, .ref 723), (2, .ref 621), (1, .ref 0), (0, .retAddr 0)]) (st' := [.int (0), .retAddr 0, .ref 0]) (by decide +kernel) rfl) ?_
  refine ev_go0 (ev_w_iconst (M := ev_Mlaw) (pc := 808) (k := 1) (v := 1) (by decide +kernel) (by decide +kernel)) ?_
  refine ev_go0 (ev_w_iadd (M := ev_Mlaw) (pc := 809) (v := (1)) (by decide +kernel) (by decide +kernel)) ?_
  refine ev_go0 (ev_w_scr (M := ev_Mlaw) (pc := 810) (v := x1) (j := 1) (by decide +kernel) (by decide +kernel) (by decide +kernel) e1) ?_
  refine ev_go0 (ev_one_pure (M := ev_Mlaw) (pc := 811) (i := .aload_n 0) (len := 1) (pc' := 812) (lv' := [(4, .int (0)), (3, .ref 723), (2, .ref 621), (1, .ref 0), (0, .retAddr 0)]) (st' := [.retAddr 0, .int x1, .ref 0]) (by decide +kernel) rfl) ?_
  refine ev_go0 (ev_one_pure (M := ev_Mlaw) (pc := 812) (i := .iload 4) (len := 2) (pc' := 814) (lv' := [(4, .int (0)), (3, .ref 723), (2, .ref 621), (1, .ref 0), (0, .retAddr 0)]) (st' := [.int (0), .retAddr 0, .int x1, .ref 0]) (by decide +kernel) rfl) ?_
  refine ev_go0 (ev_w_iconst (M := ev_Mlaw) (pc := 814) (k := 2) (v := 2) (by decide +kernel) (by decide +kernel)) ?_
  refine ev_go0 (ev_w_iadd (M := ev_Mlaw) (pc := 815) (v := (2)) (by decide +kernel) (by decide +kernel)) ?_
  refine ev_go0 (ev_w_scr (M := ev_Mlaw) (pc := 816) (v := x2) (j := 2) (by decide +kernel) (by decide +kernel) (by decide +kernel) e2) ?_
  refine ev_go0 (ev_one_pure (M := ev_Mlaw) (pc := 817) (i := .aload_n 0) (len := 1) (pc' := 818) (lv' := [(4, .int (0)), (3, .ref 723), (2, .ref 621), (1, .ref 0), (0, .retAddr 0)]) (st' := [.retAddr 0, .int x2, .int x1, .ref 0]) (by decide +kernel) rfl) ?_
  refine ev_go0 (ev_one_pure (M := ev_Mlaw) (pc := 818) (i := .iload 4) (len := 2) (pc' := 820) (lv' := [(4, .int (0)), (3, .ref 723), (2, .ref 621), (1, .ref 0), (0, .retAddr 0)]) (st' := [.int (0), .retAddr 0, .int x2, .int x1, .ref 0]) (by decide +kernel) rfl) ?_
  refine ev_go0 (ev_w_iconst (M := ev_Mlaw) (pc := 820) (k := 3) (v := 3) (by decide +kernel) (by decide +kernel)) ?_
  refine ev_go0 (ev_w_iadd (M := ev_Mlaw) (pc := 821) (v := (3)) (by decide +kernel) (by decide +kernel)) ?_
  refine ev_go0 (ev_w_scr (M := ev_Mlaw) (pc := 822) (v := x3) (j := 3) (by decide +kernel) (by decide +kernel) (by decide +kernel) e3) ?_
  refine ev_go0 (ev_one_pure (M := ev_Mlaw) (pc := 823) (i := .aload_n 0) (len := 1) (pc' := 824) (lv' := [(4, .int (0)), (3, .ref 723), (2, .ref 621), (1, .ref 0), (0, .retAddr 0)]) (st' := [.retAddr 0, .int x3, .int x2, .int x1, .ref 0]) (by decide +kernel) rfl) ?_
  refine ev_go0 (ev_one_pure (M := ev_Mlaw) (pc := 824) (i := .iload 4) (len := 2) (pc' := 826) (lv' := [(4, .int (0)), (3, .ref 723), (2, .ref 621), (1, .ref 0), (0, .retAddr 0)]) (st' := [.int (0), .retAddr 0, .int x3, .int x2, .int x1, .ref 0]) (by decide +kernel) rfl) ?_
  refine ev_go0 (ev_w_iconst (M := ev_Mlaw) (pc := 826) (k := 4) (v := 4) (by decide +kernel) (by decide +kernel)) ?_
  refine ev_go0 (ev_w_iadd (M := ev_Mlaw) (pc := 827) (v := (4)) (by decide +kernel) (by decide +kernel)) ?_
  refine ev_go0 (ev_w_scr (M := ev_Mlaw) (pc := 828) (v := x4) (j := 4) (by decide +kernel) (by decide +kernel) (by decide +kernel) e4) ?_
  refine ev_go0 (ev_one_pure (M := ev_Mlaw) (pc := 829) (i := .aload_n 3) (len := 1) (pc' := 830) (lv' := [(4, .int (0)), (3, .ref 723), (2, .ref 621), (1, .ref 0), (0, .retAddr 0)]) (st' := [.ref 723, .int x4, .int x3, .int x2, .int x1, .ref 0]) (by decide +kernel) rfl) ?_
  refine ev_go (ev_w_stat (M := ev_Mlaw) (pc := 830) (y := 168) (kind := 8) (Or.inr (Or.inr rfl)) (mi := 374) (na := 6) (by decide +kernel) (by decide +kernel) (by decide +kernel) (by decide +kernel) rfl rfl (ev_k139 x1 hu_x1 x2 hu_x2 x3 x4)) ?_
  refine ev_go0 (ev_w_istore (M := ev_Mlaw) (pc := 833) (k := 5) (lv' := [(5, .int (1)), (4, .int (0)), (3, .ref 723), (2, .ref 621), (1, .ref 0), (0, .retAddr 0)]) (by decide +kernel) (by decide +kernel) rfl) ?_
  refine ev_go0 (ev_one_pure (M := ev_Mlaw) (pc := 835) (i := .aload_n 2) (len := 1) (pc' := 836) (lv' := [(5, .int (1)), (4, .int (0)), (3, .ref 723), (2, .ref 621), (1, .ref 0), (0, .retAddr 0)]) (st' := [.ref 621]) (by decide +kernel) rfl) ?_
  refine ev_go0 (ev_one_pure (M := ev_Mlaw) (pc := 836) (i := .aload_n 0) (len := 1) (pc' := 837) (lv' := [(5, .int (1)), (4, .int (0)), (3, .ref 723), (2, .ref 621), (1, .ref 0), (0, .retAddr 0)]) (st' := [.retAddr 0, .ref 621]) (by decide +kernel) rfl) ?_
  refine ev_go0 (ev_one_pure (M := ev_Mlaw) (pc := 837) (i := .iload 4) (len := 2) (pc' := 839) (lv' := [(5, .int (1)), (4, .int (0)), (3, .ref 723), (2, .ref 621), (1, .ref 0), (0, .retAddr 0)]) (st' := [.int (0), .retAddr 0, .ref 621]) (by decide +kernel) rfl) ?_
  refine ev_go0 (ev_w_iconst (M := ev_Mlaw) (pc := 839) (k := 1) (v := 1) (by decide +kernel) (by decide +kernel)) ?_
  refine ev_go0 (ev_w_iadd (M := ev_Mlaw) (pc := 840) (v := (1)) (by decide +kernel) (by decide +kernel)) ?_
  refine ev_go0 (ev_w_scr (M := ev_Mlaw) (pc := 841) (v := x1) (j := 1) (by decide +kernel) (by decide +kernel) (by decide +kernel) e1) ?_
  refine ev_go0 (ev_one_pure (M := ev_Mlaw) (pc := 842) (i := .aload_n 0) (len := 1) (pc' := 843) (lv' := [(5, .int (1)), (4, .int (0)), (3, .ref 723), (2, .ref 621), (1, .ref 0), (0, .retAddr 0)]) (st' := [.retAddr 0, .int x1, .ref 621]) (by decide +kernel) rfl) ?_
  refine ev_go0 (ev_one_pure (M := ev_Mlaw) (pc := 843) (i := .iload 4) (len := 2) (pc' := 845) (lv' := [(5, .int (1)), (4, .int (0)), (3, .ref 723), (2, .ref 621), (1, .ref 0), (0, .retAddr 0)]) (st' := [.int (0), .retAddr 0, .int x1, .ref 621]) (by decide +kernel) rfl) ?_
  refine ev_go0 (ev_w_iconst (M := ev_Mlaw) (pc := 845) (k := 2) (v := 2) (by decide +kernel) (by decide +kernel)) ?_
  refine ev_go0 (ev_w_iadd (M := ev_Mlaw) (pc := 846) (v := (2)) (by decide +kernel) (by decide +kernel)) ?_
  refine ev_go0 (ev_w_scr (M := ev_Mlaw) (pc := 847) (v := x2) (j := 2) (by decide +kernel) (by decide +kernel) (by decide +kernel) e2) ?_
  refine ev_go0 (ev_one_pure (M := ev_Mlaw) (pc := 848) (i := .aload_n 0) (len := 1) (pc' := 849) (lv' := [(5, .int (1)), (4, .int (0)), (3, .ref 723), (2, .ref 621), (1, .ref 0), (0, .retAddr 0)]) (st' := [.retAddr 0, .int x2, .int x1, .ref 621]) (by decide +kernel) rfl) ?_
  refine ev_go0 (ev_one_pure (M := ev_Mlaw) (pc := 849) (i := .iload 4) (len := 2) (pc' := 851) (lv' := [(5, .int (1)), (4, .int (0)), (3, .ref 723), (2, .ref 621), (1, .ref 0), (0, .retAddr 0)]) (st' := [.int (0), .retAddr 0, .int x2, .int x1, .ref 621]) (by decide +kernel) rfl) ?_
  refine ev_go0 (ev_w_iconst (M := ev_Mlaw) (pc := 851) (k := 3) (v := 3) (by decide +kernel) (by decide +kernel)) ?_
  refine ev_go0 (ev_w_iadd (M := ev_Mlaw) (pc := 852) (v := (3)) (by decide +kernel) (by decide +kernel)) ?_
  refine ev_go0 (ev_w_scr (M := ev_Mlaw) (pc := 853) (v := x3) (j := 3) (by decide +kernel) (by decide +kernel) (by decide +kernel) e3) ?_
  refine ev_go0 (ev_one_pure (M := ev_Mlaw) (pc := 854) (i := .aload_n 0) (len := 1) (pc' := 855) (lv' := [(5, .int (1)), (4, .int (0)), (3, .ref 723), (2, .ref 621), (1, .ref 0), (0, .retAddr 0)]) (st' := [.retAddr 0, .int x3, .int x2, .int x1, .ref 621]) (by decide +kernel) rfl) ?_
  refine ev_go0 (ev_one_pure (M := ev_Mlaw) (pc := 855) (i := .iload 4) (len := 2) (pc' := 857) (lv' := [(5, .int (1)), (4, .int (0)), (3, .ref 723), (2, .ref 621), (1, .ref 0), (0, .retAddr 0)]) (st' := [.int (0), .retAddr 0, .int x3, .int x2, .int x1, .ref 621]) (by decide +kernel) rfl) ?_
  refine ev_go0 (ev_w_iconst (M := ev_Mlaw) (pc := 857) (k := 4) (v := 4) (by decide +kernel) (by decide +kernel)) ?_
  refine ev_go0 (ev_w_iadd (M := ev_Mlaw) (pc := 858) (v := (4)) (by decide +kernel) (by decide +kernel)) ?_
  refine ev_go0 (ev_w_scr (M := ev_Mlaw) (pc := 859) (v := x4) (j := 4) (by decide +kernel) (by decide +kernel) (by decide +kernel) e4) ?_
  refine ev_go0 (ev_p_virt (M := ev_Mlaw) (pc := 860) (x := 170) (mi := 329) (na := 4) (by decide +kernel) (by decide +kernel) (by decide +kernel) (by decide +kernel) rfl rfl (ev_recv_of ev_fH621) (ev_k143 x1 hu_x1 x2 hu_x2 x3 x4)) ?_
  refine ev_go0 (ev_w_istore (M := ev_Mlaw) (pc := 863) (k := 6) (lv' := [(6, .int (0)), (5, .int (1)), (4, .int (0)), (3, .ref 723), (2, .ref 621), (1, .ref 0), (0, .retAddr 0)]) (by decide +kernel) (by decide +kernel) rfl) ?_
  refine ev_go0 (ev_one_pure (M := ev_Mlaw) (pc := 865) (i := .aload_n 2) (len := 1) (pc' := 866) (lv' := [(6, .int (0)), (5, .int (1)), (4, .int (0)), (3, .ref 723), (2, .ref 621), (1, .ref 0), (0, .retAddr 0)]) (st' := [.ref 621]) (by decide +kernel) rfl) ?_
  refine ev_go0 (ev_p_virt (M := ev_Mlaw) (pc := 866) (x := 131) (mi := 220) (na := 0) (by decide +kernel) (by decide +kernel) (by decide +kernel) (by decide +kernel) rfl rfl (ev_recv_of (ev_hself ev_fH621)) ev_k26) ?_
  refine ev_go0 (ev_one_pure (M := ev_Mlaw) (pc := 869) (i := .iload 5) (len := 2) (pc' := 871) (lv' := [(6, .int (0)), (5, .int (1)), (4, .int (0)), (3, .ref 723), (2, .ref 621), (1, .ref 0), (0, .retAddr 0)]) (st' := [.int (1), .int (1)]) (by decide +kernel) rfl) ?_
  refine ev_go0 (ev_w_icmp (M := ev_Mlaw) (pc := 871) (q := .eq) (o := 5) (b := true) (t := 876) (by decide +kernel) (by decide +kernel) rfl) ?_
  refine ev_go0 (ev_one_pure (M := ev_Mlaw) (pc := 876) (i := .iload 5) (len := 2) (pc' := 878) (lv' := [(6, .int (0)), (5, .int (1)), (4, .int (0)), (3, .ref 723), (2, .ref 621), (1, .ref 0), (0, .retAddr 0)]) (st' := [.int (1)]) (by decide +kernel) rfl) ?_
  refine ev_go0 (ev_w_if (M := ev_Mlaw) (pc := 878) (q := .ne) (o := 15) (b := true) (t := 893) (by decide +kernel) (by decide +kernel) rfl) ?_
  refine ev_go0 (ev_one_pure (M := ev_Mlaw) (pc := 893) (i := .goto 1379) (len := 3) (pc' := 2272) (lv' := [(6, .int (0)), (5, .int (1)), (4, .int (0)), (3, .ref 723), (2, .ref 621), (1, .ref 0), (0, .retAddr 0)]) (st' := []) (by decide +kernel) rfl) ?_
  rfl
theorem ev_k144 (x1 : Int32) (hu_x1 : x1.toInt ≤ (-1 : Int)) (x3 : Int32) (x4 : Int32) {n : Nat} : ev_calld 11 177 [.ref 0, .int x1, .int (0), .int x3, .int x4] ev_H0 n = some (.inr "java/lang/IndexOutOfBoundsException", ev_H0, n, 1, 6) := by
  refine ev_call_thrown (k := 7) (pcR := 12) (x := 160) (lv' := [(0, .ref 0), (1, .int x1), (2, .int (0)), (3, .int x3), (4, .int x4)]) (by decide +kernel) rfl ?_ (by decide +kernel) (by decide +kernel) (by decide +kernel) (by decide) (by decide)
  show ev_stepn _ 7 (0, [(0, .ref 0), (1, .int x1), (2, .int (0)), (3, .int x3), (4, .int x4)], [], _, _, 0, 0) = _
  refine ev_go0 (ev_one_pure (M := (ev_Mof 177)) (pc := 0) (i := .aload_n 0) (len := 1) (pc' := 1) (lv' := [(0, .ref 0), (1, .int x1), (2, .int (0)), (3, .int x3), (4, .int x4)]) (st' := [.ref 0]) (by decide +kernel) rfl) ?_
  refine ev_go0 (ev_one_pure (M := (ev_Mof 177)) (pc := 1) (i := .iload_n 1) (len := 1) (pc' := 2) (lv' := [(0, .ref 0), (1, .int x1), (2, .int (0)), (3, .int x3), (4, .int x4)]) (st' := [.int x1, .ref 0]) (by decide +kernel) rfl) ?_
  refine ev_go0 (ev_one_pure (M := (ev_Mof 177)) (pc := 2) (i := .iload_n 2) (len := 1) (pc' := 3) (lv' := [(0, .ref 0), (1, .int x1), (2, .int (0)), (3, .int x3), (4, .int x4)]) (st' := [.int (0), .int x1, .ref 0]) (by decide +kernel) rfl) ?_
  refine ev_go0 (ev_one_pure (M := (ev_Mof 177)) (pc := 3) (i := .iload_n 3) (len := 1) (pc' := 4) (lv' := [(0, .ref 0), (1, .int x1), (2, .int (0)), (3, .int x3), (4, .int x4)]) (st' := [.int x3, .int (0), .int x1, .ref 0]) (by decide +kernel) rfl) ?_
  refine ev_go0 (ev_one_pure (M := (ev_Mof 177)) (pc := 4) (i := .iload 4) (len := 2) (pc' := 6) (lv' := [(0, .ref 0), (1, .int x1), (2, .int (0)), (3, .int x3), (4, .int x4)]) (st' := [.int x4, .int x3, .int (0), .int x1, .ref 0]) (by decide +kernel) rfl) ?_
  refine ev_go0 (ev_p_virt (M := (ev_Mof 177)) (pc := 6) (x := 205) (mi := 203) (na := 4) (by decide +kernel) (by decide +kernel) (by decide +kernel) (by decide +kernel) rfl rfl (ev_recv_of ev_fH0) (ev_k98 x1 hu_x1 x3 x4)) ?_
  refine ev_go0 (ev_w_if (M := (ev_Mof 177)) (pc := 9) (q := .ne) (o := 13) (b := false) (t := 12) (by decide +kernel) (by decide +kernel) rfl) ?_
  rfl
theorem ev_k145 (x1 : Int32) (hu_x1 : x1.toInt ≤ (-1 : Int)) (x3 : Int32) (x4 : Int32) {n : Nat} : ev_calld 12 374 [.ref 0, .int x1, .int (0), .int x3, .int x4, .ref 723] ev_H0 n = some (.inl (some (.int (1))), ev_H0, n, 1, 6) := by
  refine ev_call_int (k := 10) (pcR := 20) (lv' := [(6, .retAddr 1), (0, .ref 0), (1, .int x1), (2, .int (0)), (3, .int x3), (4, .int x4), (5, .ref 723)]) (v := (1)) (ty := .int) (by decide +kernel) rfl ?_ (by decide +kernel) (by decide +kernel) (by decide +kernel) (by decide)
  show ev_stepn _ 10 (0, [(0, .ref 0), (1, .int x1), (2, .int (0)), (3, .int x3), (4, .int x4), (5, .ref 723)], [], _, _, 0, 0) = _
  refine ev_go0 (ev_one_pure (M := (ev_Mof 374)) (pc := 0) (i := .aload 5) (len := 2) (pc' := 2) (lv' := [(0, .ref 0), (1, .int x1), (2, .int (0)), (3, .int x3), (4, .int x4), (5, .ref 723)]) (st' := [.ref 723]) (by decide +kernel) rfl) ?_
  refine ev_go0 (ev_w_iconst (M := (ev_Mof 374)) (pc := 2) (k := 0) (v := 0) (by decide +kernel) (by decide +kernel)) ?_
  refine ev_go0 (ev_one_pure (M := (ev_Mof 374)) (pc := 3) (i := .aload_n 0) (len := 1) (pc' := 4) (lv' := [(0, .ref 0), (1, .int x1), (2, .int (0)), (3, .int x3), (4, .int x4), (5, .ref 723)]) (st' := [.ref 0, .int (0), .ref 723]) (by decide +kernel) rfl) ?_
  refine ev_go0 (ev_one_pure (M := (ev_Mof 374)) (pc := 4) (i := .iload_n 1) (len := 1) (pc' := 5) (lv' := [(0, .ref 0), (1, .int x1), (2, .int (0)), (3, .int x3), (4, .int x4), (5, .ref 723)]) (st' := [.int x1, .ref 0, .int (0), .ref 723]) (by decide +kernel) rfl) ?_
  refine ev_go0 (ev_one_pure (M := (ev_Mof 374)) (pc := 5) (i := .iload_n 2) (len := 1) (pc' := 6) (lv' := [(0, .ref 0), (1, .int x1), (2, .int (0)), (3, .int x3), (4, .int x4), (5, .ref 723)]) (st' := [.int (0), .int x1, .ref 0, .int (0), .ref 723]) (by decide +kernel) rfl) ?_
  refine ev_go0 (ev_one_pure (M := (ev_Mof 374)) (pc := 6) (i := .iload_n 3) (len := 1) (pc' := 7) (lv' := [(0, .ref 0), (1, .int x1), (2, .int (0)), (3, .int x3), (4, .int x4), (5, .ref 723)]) (st' := [.int x3, .int (0), .int x1, .ref 0, .int (0), .ref 723]) (by decide +kernel) rfl) ?_
  refine ev_go0 (ev_one_pure (M := (ev_Mof 374)) (pc := 7) (i := .iload 4) (len := 2) (pc' := 9) (lv' := [(0, .ref 0), (1, .int x1), (2, .int (0)), (3, .int x3), (4, .int x4), (5, .ref 723)]) (st' := [.int x4, .int x3, .int (0), .int x1, .ref 0, .int (0), .ref 723]) (by decide +kernel) rfl) ?_
  refine ev_go (ev_p_virtX (M := (ev_Mof 374)) (pc := 9) (x := 50) (t := 17) (mi := 177) (na := 4) (by decide +kernel) (by decide +kernel) (by decide +kernel) (by decide +kernel) rfl rfl (ev_recv_of ev_fH0) (ev_k144 x1 hu_x1 x3 x4) (by decide +kernel)) ?_
  refine ev_go0 (ev_w_astore (M := (ev_Mof 374)) (pc := 17) (k := 6) (lv' := [(6, .retAddr 1), (0, .ref 0), (1, .int x1), (2, .int (0)), (3, .int x3), (4, .int x4), (5, .ref 723)]) (by decide +kernel) (by decide +kernel) (Or.inr (Or.inr ⟨_, rfl⟩)) rfl) ?_
  refine ev_go0 (ev_w_iconst (M := (ev_Mof 374)) (pc := 19) (k := 1) (v := 1) (by decide +kernel) (by decide +kernel)) ?_
  rfl
theorem ev_k146 (x1 : Int32) (hu_x1 : x1.toInt ≤ (-1 : Int)) (x3 : Int32) (x4 : Int32) {n : Nat} : ev_calld 11 328 [.ref 621, .int x1, .int (0), .int x3, .int x4] ev_H0 n = some (.inl (some (.int (0))), (ev_H0.set 621 (.inr (13, (ev_F621.set 0 (.int (1)))))), n, 0, 0) := by
  refine ev_call_int (k := 11) (pcR := 49) (lv' := [(0, .ref 621), (1, .int x1), (2, .int (0)), (3, .int x3), (4, .int x4)]) (v := (0)) (ty := .int) (by decide +kernel) rfl ?_ (by decide +kernel) (by decide +kernel) (by decide +kernel) (by decide)
  show ev_stepn _ 11 (0, [(0, .ref 621), (1, .int x1), (2, .int (0)), (3, .int x3), (4, .int x4)], [], _, _, 0, 0) = _
  refine ev_go0 (ev_one_pure (M := (ev_Mof 328)) (pc := 0) (i := .aload_n 0) (len := 1) (pc' := 1) (lv' := [(0, .ref 621), (1, .int x1), (2, .int (0)), (3, .int x3), (4, .int x4)]) (st' := [.ref 621]) (by decide +kernel) rfl) ?_
  refine ev_go0 (ev_one_pure (M := (ev_Mof 328)) (pc := 1) (i := .aload_n 0) (len := 1) (pc' := 2) (lv' := [(0, .ref 621), (1, .int x1), (2, .int (0)), (3, .int x3), (4, .int x4)]) (st' := [.ref 621, .ref 621]) (by decide +kernel) rfl) ?_
  refine ev_go0 (ev_one_pure (M := (ev_Mof 328)) (pc := 2) (i := .iload_n 1) (len := 1) (pc' := 3) (lv' := [(0, .ref 621), (1, .int x1), (2, .int (0)), (3, .int x3), (4, .int x4)]) (st' := [.int x1, .ref 621, .ref 621]) (by decide +kernel) rfl) ?_
  refine ev_go0 (ev_p_virt (M := (ev_Mof 328)) (pc := 3) (x := 531) (mi := 273) (na := 1) (by decide +kernel) (by decide +kernel) (by decide +kernel) (by decide +kernel) rfl rfl (ev_recv_of ev_fH621) (ev_k141 x1 hu_x1)) ?_
  refine ev_go0 (ev_w_if (M := (ev_Mof 328)) (pc := 6) (q := .eq) (o := 31) (b := true) (t := 37) (by decide +kernel) (by decide +kernel) rfl) ?_
  refine ev_go0 (ev_w_iconst (M := (ev_Mof 328)) (pc := 37) (k := 1) (v := 1) (by decide +kernel) (by decide +kernel)) ?_
  refine ev_go0 (ev_p_putf (M := (ev_Mof 328)) (pc := 38) (x := 321) (ci := 13) (f := 0) (by decide +kernel) (by decide +kernel) ev_fH621 rfl (by decide +kernel)) ?_
  refine ev_go0 (ev_one_pure (M := (ev_Mof 328)) (pc := 41) (i := .aload_n 0) (len := 1) (pc' := 42) (lv' := [(0, .ref 621), (1, .int x1), (2, .int (0)), (3, .int x3), (4, .int x4)]) (st' := [.ref 621]) (by decide +kernel) rfl) ?_
  refine ev_go0 (ev_p_getf (M := (ev_Mof 328)) (pc := 42) (x := 321) (ci := 13) (f := 0) (fin := 0) (v := .int (1)) (by decide +kernel) (by decide +kernel) (ev_hself ev_fH621) rfl) ?_
  refine ev_go0 (ev_w_if (M := (ev_Mof 328)) (pc := 45) (q := .le) (o := 5) (b := false) (t := 48) (by decide +kernel) (by decide +kernel) rfl) ?_
  refine ev_go0 (ev_w_iconst (M := (ev_Mof 328)) (pc := 48) (k := 0) (v := 0) (by decide +kernel) (by decide +kernel)) ?_
  rfl
theorem ev_k147 (x1 : Int32) (hu_x1 : x1.toInt ≤ (-1 : Int)) (x3 : Int32) (x4 : Int32) {n : Nat} : ev_calld 12 329 [.ref 621, .int x1, .int (0), .int x3, .int x4] ev_H0 n = some (.inl (some (.int (0))), (ev_H0.set 621 (.inr (13, (ev_F621.set 0 (.int (1)))))), n, 0, 0) := by
  refine ev_call_int (k := 6) (pcR := 9) (lv' := [(0, .ref 621), (1, .int x1), (2, .int (0)), (3, .int x3), (4, .int x4)]) (v := (0)) (ty := .int) (by decide +kernel) rfl ?_ (by decide +kernel) (by decide +kernel) (by decide +kernel) (by decide)
  show ev_stepn _ 6 (0, [(0, .ref 621), (1, .int x1), (2, .int (0)), (3, .int x3), (4, .int x4)], [], _, _, 0, 0) = _
  refine ev_go0 (ev_one_pure (M := (ev_Mof 329)) (pc := 0) (i := .aload_n 0) (len := 1) (pc' := 1) (lv' := [(0, .ref 621), (1, .int x1), (2, .int (0)), (3, .int x3), (4, .int x4)]) (st' := [.ref 621]) (by decide +kernel) rfl) ?_
  refine ev_go0 (ev_one_pure (M := (ev_Mof 329)) (pc := 1) (i := .iload_n 1) (len := 1) (pc' := 2) (lv' := [(0, .ref 621), (1, .int x1), (2, .int (0)), (3, .int x3), (4, .int x4)]) (st' := [.int x1, .ref 621]) (by decide +kernel) rfl) ?_
  refine ev_go0 (ev_one_pure (M := (ev_Mof 329)) (pc := 2) (i := .iload_n 2) (len := 1) (pc' := 3) (lv' := [(0, .ref 621), (1, .int x1), (2, .int (0)), (3, .int x3), (4, .int x4)]) (st' := [.int (0), .int x1, .ref 621]) (by decide +kernel) rfl) ?_
  refine ev_go0 (ev_one_pure (M := (ev_Mof 329)) (pc := 3) (i := .iload_n 3) (len := 1) (pc' := 4) (lv' := [(0, .ref 621), (1, .int x1), (2, .int (0)), (3, .int x3), (4, .int x4)]) (st' := [.int x3, .int (0), .int x1, .ref 621]) (by decide +kernel) rfl) ?_
  refine ev_go0 (ev_one_pure (M := (ev_Mof 329)) (pc := 4) (i := .iload 4) (len := 2) (pc' := 6) (lv' := [(0, .ref 621), (1, .int x1), (2, .int (0)), (3, .int x3), (4, .int x4)]) (st' := [.int x4, .int x3, .int (0), .int x1, .ref 621]) (by decide +kernel) rfl) ?_
  refine ev_go0 (ev_p_virt (M := (ev_Mof 329)) (pc := 6) (x := 732) (mi := 328) (na := 4) (by decide +kernel) (by decide +kernel) (by decide +kernel) (by decide +kernel) rfl rfl (ev_recv_of ev_fH621) (ev_k146 x1 hu_x1 x3 x4)) ?_
  rfl
theorem ev_p1_11_n0 (xs : Nat → Int32) (x1 : Int32) (hu_x1 : x1.toInt ≤ (-1 : Int)) (x3 : Int32) (x4 : Int32) (e1 : xs 1 = x1) (e2 : xs 2 = (0)) (e3 : xs 3 = x3) (e4 : xs 4 = x4) : ev_P1 xs 804 := by
  refine ⟨54, [(6, .int (0)), (5, .int (1)), (4, .int (0)), (3, .ref 723), (2, .ref 621), (1, .ref 0), (0, .retAddr 0)], (ev_H0.set 621 (.inr (13, (ev_F621.set 0 (.int (1)))))), 724, 725, 3553592, ?_, ⟨rfl, rfl, rfl, rfl⟩, rfl, by decide, by decide⟩
  show ev_stepn _ _ (804, [(4, .int (0)), (3, .ref 723), (2, .ref 621), (1, .ref 0), (0, .retAddr 0)], [], _, _, _, _) = _
  refine ev_go0 (ev_one_pure (M := ev_Mlaw) (pc := 804) (i := .aload_n 1) (len := 1) (pc' := 805) (lv' := [(4, .int (0)), (3, .ref 723), (2, .ref 621), (1, .ref 0), (0, .retAddr 0)]) (st' := [.ref 0]) (by decide +kernel) rfl) ?_
  refine ev_go0 (ev_one_pure (M := ev_Mlaw) (pc := 805) (i := .aload_n 0) (len := 1) (pc' := 806) (lv' := [(4, .int (0)), (3, .ref 723), (2, .ref 621), (1, .ref 0), (0, .retAddr 0)]) (st' := [.retAddr 0, .ref 0]) (by decide +kernel) rfl) ?_
  refine ev_go0 (ev_one_pure (M := ev_Mlaw) (pc := 806) (i := .iload 4) (len := 2) (pc' := 808) (lv' := [(4, .int (0)), (3, .ref 723), (2, .ref 621), (1, .ref 0), (0, .retAddr 0)]) (st' := [.int (0), .retAddr 0, .ref 0]) (by decide +kernel) rfl) ?_
  refine ev_go0 (ev_w_iconst (M := ev_Mlaw) (pc := 808) (k := 1) (v := 1) (by decide +kernel) (by decide +kernel)) ?_
  refine ev_go0 (ev_w_iadd (M := ev_Mlaw) (pc := 809) (v := (1)) (by decide +kernel) (by decide +kernel)) ?_
  refine ev_go0 (ev_w_scr (M := ev_Mlaw) (pc := 810) (v := x1) (j := 1) (by decide +kernel) (by decide +kernel) (by decide +kernel) e1) ?_
  refine ev_go0 (ev_one_pure (M := ev_Mlaw) (pc := 811) (i := .aload_n 0) (len := 1) (pc' := 812) (lv' := [(4, .int (0)), (3, .ref 723), (2, .ref 621), (1, .ref 0), (0, .retAddr 0)]) (st' := [.retAddr 0, .int x1, .ref 0]) (by decide +kernel) rfl) ?_
  refine ev_go0 (ev_one_pure (M := ev_Mlaw) (pc := 812) (i := .iload 4) (len := 2) (pc' := 814) (lv' := [(4, .int (0)), (3, .ref 723), (2, .ref 621), (1, .ref 0), (0, .retAddr 0)]) (st' := [.int (0), .retAddr 0, .int x1, .ref 0]) (by decide +kernel) rfl) ?_
  refine ev_go0 (ev_w_iconst (M := ev_Mlaw) (pc := 814) (k := 2) (v := 2) (by decide +kernel) (by decide +kernel)) ?_
  refine ev_go0 (ev_w_iadd (M := ev_Mlaw) (pc := 815) (v := (2)) (by decide +kernel) (by decide +kernel)) ?_
  refine ev_go0 (ev_w_scr (M := ev_Mlaw) (pc := 816) (v := (0)) (j := 2) (by decide +kernel) (by decide +kernel) (by decide +kernel) e2) ?_
  refine ev_go0 (ev_one_pure (M := ev_Mlaw) (pc := 817) (i := .aload_n 0) (len := 1) (pc' := 818) (lv' := [(4, .int (0)), (3, .ref 723), (2, .ref 621), (1, .ref 0), (0, .retAddr 0)]) (st' := [.retAddr 0, .int (0), .int x1, .ref 0]) (by decide +kernel) rfl) ?_
  refine ev_go0 (ev_one_pure (M := ev_Mlaw) (pc := 818) (i := .iload 4) (len := 2) (pc' := 820) (lv' := [(4, .int (0)), (3, .ref 723), (2, .ref 621), (1, .ref 0), (0, .retAddr 0)]) (st' := [.int (0), .retAddr 0, .int (0), .int x1, .ref 0]) (by decide +kernel) rfl) ?_
  refine ev_go0 (ev_w_iconst (M := ev_Mlaw) (pc := 820) (k := 3) (v := 3) (by decide +kernel) (by decide +kernel)) ?_
  refine ev_go0 (ev_w_iadd (M := ev_Mlaw) (pc := 821) (v := (3)) (by decide +kernel) (by decide +kernel)) ?_
  refine ev_go0 (ev_w_scr (M := ev_Mlaw) (pc := 822) (v := x3) (j := 3) (by decide +kernel) (by decide +kernel) (by decide +kernel) e3) ?_
  refine ev_go0 (ev_one_pure (M := ev_Mlaw) (pc := 823) (i := .aload_n 0) (len := 1) (pc' := 824) (lv' := [(4, .int (0)), (3, .ref 723), (2, .ref 621), (1, .ref 0), (0, .retAddr 0)]) (st' := [.retAddr 0, .int x3, .int (0), .int x1, .ref 0]) (by decide +kernel) rfl) ?_
  refine ev_go0 (ev_one_pure (M := ev_Mlaw) (pc := 824) (i := .iload 4) (len := 2) (pc' := 826) (lv' := [(4, .int (0)), (3, .ref 723), (2, .ref 621), (1, .ref 0), (0, .retAddr 0)]) (st' := [.int (0), .retAddr 0, .int x3, .int (0), .int x1, .ref 0]) (by decide +kernel) rfl) ?_
  refine ev_go0 (ev_w_iconst (M := ev_Mlaw) (pc := 826) (k := 4) (v := 4) (by decide +kernel) (by decide +kernel)) ?_
  refine ev_go0 (ev_w_iadd (M := ev_Mlaw) (pc := 827) (v := (4)) (by decide +kernel) (by decide +kernel)) ?_
  refine ev_go0 (ev_w_scr (M := ev_Mlaw) (pc := 828) (v := x4) (j := 4) (by decide +kernel) (by decide +kernel) (by decide +kernel) e4) ?_
  refine ev_go0 (ev_one_pure (M := ev_Mlaw) (pc := 829) (i := .aload_n 3) (len := 1) (pc' := 830) (lv' := [(4, .int (0)), (3, .ref 723), (2, .ref 621), (1, .ref 0), (0, .retAddr 0)]) (st' := [.ref 723, .int x4, .int x3, .int (0), .int x1, .ref 0]) (by decide +kernel) rfl) ?_
  refine ev_go (ev_w_stat (M := ev_Mlaw) (pc := 830) (y := 168) (kind := 8) (Or.inr (Or.inr rfl)) (mi := 374) (na := 6) (by decide +kernel) (by decide +kernel) (by decide +kernel) (by decide +kernel) rfl rfl (ev_k145 x1 hu_x1 x3 x4)) ?_
  refine ev_go0 (ev_w_istore (M := ev_Mlaw) (pc := 833) (k := 5) (lv' := [(5, .int (1)), (4, .int (0)), (3, .ref 723), (2, .ref 621), (1, .ref 0), (0, .retAddr 0)]) (by decide +kernel) (by decide +kernel) rfl) ?_
  refine ev_go0 (ev_one_pure (M := ev_Mlaw) (pc := 835) (i := .aload_n 2) (len := 1) (pc' := 836) (lv' := [(5, .int (1)), (4, .int (0)), (3, .ref 723), (2, .ref 621), (1, .ref 0), (0, .retAddr 0)]) (st' := [.ref 621]) (by decide +kernel) rfl) ?_
  refine ev_go0 (ev_one_pure (M := ev_Mlaw) (pc := 836) (i := .aload_n 0) (len := 1) (pc' := 837) (lv' := [(5, .int (1)), (4, .int (0)), (3, .ref 723), (2, .ref 621), (1, .ref 0), (0, .retAddr 0)]) (st' := [.retAddr 0, .ref 621]) (by decide +kernel) rfl) ?_
  refine ev_go0 (ev_one_pure (M := ev_Mlaw) (pc := 837) (i := .iload 4) (len := 2) (pc' := 839) (lv' := [(5, .int (1)), (4, .int (0)), (3, .ref 723), (2, .ref 621), (1, .ref 0), (0, .retAddr 0)]) (st' := [.int (0), .retAddr 0, .ref 621]) (by decide +kernel) rfl) ?_
  refine ev_go0 (ev_w_iconst (M := ev_Mlaw) (pc := 839) (k := 1) (v := 1) (by decide +kernel) (by decide +kernel)) ?_
  refine ev_go0 (ev_w_iadd (M := ev_Mlaw) (pc := 840) (v := (1)) (by decide +kernel) (by decide +kernel)) ?_
  refine ev_go0 (ev_w_scr (M := ev_Mlaw) (pc := 841) (v := x1) (j := 1) (by decide +kernel) (by decide +kernel) (by decide +kernel) e1) ?_
  refine ev_go0 (ev_one_pure (M := ev_Mlaw) (pc := 842) (i := .aload_n 0) (len := 1) (pc' := 843) (lv' := [(5, .int (1)), (4, .int (0)), (3, .ref 723), (2, .ref 621), (1, .ref 0), (0, .retAddr 0)]) (st' := [.retAddr 0, .int x1, .ref 621]) (by decide +kernel) rfl) ?_
  refine ev_go0 (ev_one_pure (M := ev_Mlaw) (pc := 843) (i := .iload 4) (len := 2) (pc' := 845) (lv' := [(5, .int (1)), (4, .int (0)), (3, .ref 723), (2, .ref 621), (1, .ref 0), (0, .retAddr 0)]) (st' := [.int (0), .retAddr 0, .int x1, .ref 621]) (by decide +kernel) rfl) ?_
  refine ev_go0 (ev_w_iconst (M := ev_Mlaw) (pc := 845) (k := 2) (v := 2) (by decide +kernel) (by decide +kernel)) ?_
  refine ev_go0 (ev_w_iadd (M := ev_Mlaw) (pc := 846) (v := (2)) (by decide +kernel) (by decide +kernel)) ?_
  refine ev_go0 (ev_w_scr (M := ev_Mlaw) (pc := 847) (v := (0)) (j := 2) (by decide +kernel) (by decide +kernel) (by decide +kernel) e2) ?_
  refine ev_go0 (ev_one_pure (M := ev_Mlaw) (pc := 848) (i := .aload_n 0) (len := 1) (pc' := 849) (lv' := [(5, .int (1)), (4, .int (0)), (3, .ref 723), (2, .ref 621), (1, .ref 0), (0, .retAddr 0)]) (st' := [.retAddr 0, .int (0), .int x1, .ref 621]) (by decide +kernel) rfl) ?_
  refine ev_go0 (ev_one_pure (M := ev_Mlaw) (pc := 849) (i := .iload 4) (len := 2) (pc' := 851) (lv' := [(5, .int (1)), (4, .int (0)), (3, .ref 723), (2, .ref 621), (1, .ref 0), (0, .retAddr 0)]) (st' := [.int (0), .retAddr 0, .int (0), .int x1, .ref 621]) (by decide +kernel) rfl) ?_
  refine ev_go0 (ev_w_iconst (M := ev_Mlaw) (pc := 851) (k := 3) (v := 3) (by decide +kernel) (by decide +kernel)) ?_
  refine ev_go0 (ev_w_iadd (M := ev_Mlaw) (pc := 852) (v := (3)) (by decide +kernel) (by decide +kernel)) ?_
  refine ev_go0 (ev_w_scr (M := ev_Mlaw) (pc := 853) (v := x3) (j := 3) (by decide +kernel) (by decide +kernel) (by decide +kernel) e3) ?_
  refine ev_go0 (ev_one_pure (M := ev_Mlaw) (pc := 854) (i := .aload_n 0) (len := 1) (pc' := 855) (lv' := [(5, .int (1)), (4, .int (0)), (3, .ref 723), (2, .ref 621), (1, .ref 0), (0, .retAddr 0)]) (st' := [.retAddr 0, .int x3, .int (0), .int x1, .ref 621]) (by decide +kernel) rfl) ?_
  refine ev_go0 (ev_one_pure (M := ev_Mlaw) (pc := 855) (i := .iload 4) (len := 2) (pc' := 857) (lv' := [(5, .int (1)), (4, .int (0)), (3, .ref 723), (2, .ref 621), (1, .ref 0), (0, .retAddr 0)]) (st' := [.int (0), .retAddr 0, .int x3, .int (0), .int x1, .ref 621]) (by decide +kernel) rfl) ?_
  refine ev_go0 (ev_w_iconst (M := ev_Mlaw) (pc := 857) (k := 4) (v := 4) (by decide +kernel) (by decide +kernel)) ?_
  refine ev_go0 (ev_w_iadd (M := ev_Mlaw) (pc := 858) (v := (4)) (by decide +kernel) (by decide +kernel)) ?_
  refine ev_go0 (ev_w_scr (M := ev_Mlaw) (pc := 859) (v := x4) (j := 4) (by decide +kernel) (by decide +kernel) (by decide +kernel) e4) ?_
  refine ev_go0 (ev_p_virt (M := ev_Mlaw) (pc := 860) (x := 170) (mi := 329) (na := 4) (by decide +kernel) (by decide +kernel) (by decide +kernel) (by decide +kernel) rfl rfl (ev_recv_of ev_fH621) (ev_k147 x1 hu_x1 x3 x4)) ?_
  refine ev_go0 (ev_w_istore (M := ev_Mlaw) (pc := 863) (k := 6) (lv' := [(6, .int (0)), (5, .int (1)), (4, .int (0)), (3, .ref 723), (2, .ref 621), (1, .ref 0), (0, .retAddr 0)]) (by decide +kernel) (by decide +kernel) rfl) ?_
  refine ev_go0 (ev_one_pure (M := ev_Mlaw) (pc := 865) (i := .aload_n 2) (len := 1) (pc' := 866) (lv' := [(6, .int (0)), (5, .int (1)), (4, .int (0)), (3, .ref 723), (2, .ref 621), (1, .ref 0), (0, .retAddr 0)]) (st' := [.ref 621]) (by decide +kernel) rfl) ?_
  refine ev_go0 (ev_p_virt (M := ev_Mlaw) (pc := 866) (x := 131) (mi := 220) (na := 0) (by decide +kernel) (by decide +kernel) (by decide +kernel) (by decide +kernel) rfl rfl (ev_recv_of (ev_hself ev_fH621)) ev_k26) ?_
  refine ev_go0 (ev_one_pure (M := ev_Mlaw) (pc := 869) (i := .iload 5) (len := 2) (pc' := 871) (lv' := [(6, .int (0)), (5, .int (1)), (4, .int (0)), (3, .ref 723), (2, .ref 621), (1, .ref 0), (0, .retAddr 0)]) (st' := [.int (1), .int (1)]) (by decide +kernel) rfl) ?_
  refine ev_go0 (ev_w_icmp (M := ev_Mlaw) (pc := 871) (q := .eq) (o := 5) (b := true) (t := 876) (by decide +kernel) (by decide +kernel) rfl) ?_
  refine ev_go0 (ev_one_pure (M := ev_Mlaw) (pc := 876) (i := .iload 5) (len := 2) (pc' := 878) (lv' := [(6, .int (0)), (5, .int (1)), (4, .int (0)), (3, .ref 723), (2, .ref 621), (1, .ref 0), (0, .retAddr 0)]) (st' := [.int (1)]) (by decide +kernel) rfl) ?_
  refine ev_go0 (ev_w_if (M := ev_Mlaw) (pc := 878) (q := .ne) (o := 15) (b := true) (t := 893) (by decide +kernel) (by decide +kernel) rfl) ?_
  refine ev_go0 (ev_one_pure (M := ev_Mlaw) (pc := 893) (i := .goto 1379) (len := 3) (pc' := 2272) (lv' := [(6, .int (0)), (5, .int (1)), (4, .int (0)), (3, .ref 723), (2, .ref 621), (1, .ref 0), (0, .retAddr 0)]) (st' := []) (by decide +kernel) rfl) ?_
  rfl
theorem ev_k148 (x1 : Int32) (hu_x1 : x1.toInt ≤ (-1 : Int)) (x3 : Int32) (x4 : Int32) {n : Nat} : ev_calld 11 177 [.ref 0, .int x1, .int (1), .int x3, .int x4] ev_H0 n = some (.inr "java/lang/IndexOutOfBoundsException", ev_H0, n, 1, 6) := by
  refine ev_call_thrown (k := 7) (pcR := 12) (x := 160) (lv' := [(0, .ref 0), (1, .int x1), (2, .int (1)), (3, .int x3), (4, .int x4)]) (by decide +kernel) rfl ?_ (by decide +kernel) (by decide +kernel) (by decide +kernel) (by decide) (by decide)
  show ev_stepn _ 7 (0, [(0, .ref 0), (1, .int x1), (2, .int (1)), (3, .int x3), (4, .int x4)], [], _, _, 0, 0) = _
  refine ev_go0 (ev_one_pure (M := (ev_Mof 177)) (pc := 0) (i := .aload_n 0) (len := 1) (pc' := 1) (lv' := [(0, .ref 0), (1, .int x1), (2, .int (1)), (3, .int x3), (4, .int x4)]) (st' := [.ref 0]) (by decide +kernel) rfl) ?_
  refine ev_go0 (ev_one_pure (M := (ev_Mof 177)) (pc := 1) (i := .iload_n 1) (len := 1) (pc' := 2) (lv' := [(0, .ref 0), (1, .int x1), (2, .int (1)), (3, .int x3), (4, .int x4)]) (st' := [.int x1, .ref 0]) (by decide +kernel) rfl) ?_
  refine ev_go0 (ev_one_pure (M := (ev_Mof 177)) (pc := 2) (i := .iload_n 2) (len := 1) (pc' := 3) (lv' := [(0, .ref 0), (1, .int x1), (2, .int (1)), (3, .int x3), (4, .int x4)]) (st' := [.int (1), .int x1, .ref 0]) (by decide +kernel) rfl) ?_
  refine ev_go0 (ev_one_pure (M := (ev_Mof 177)) (pc := 3) (i := .iload_n 3) (len := 1) (pc' := 4) (lv' := [(0, .ref 0), (1, .int x1), (2, .int (1)), (3, .int x3), (4, .int x4)]) (st' := [.int x3, .int (1), .int x1, .ref 0]) (by decide +kernel) rfl) ?_
  refine ev_go0 (ev_one_pure (M := (ev_Mof 177)) (pc := 4) (i := .iload 4) (len := 2) (pc' := 6) (lv' := [(0, .ref 0), (1, .int x1), (2, .int (1)), (3, .int x3), (4, .int x4)]) (st' := [.int x4, .int x3, .int (1), .int x1, .ref 0]) (by decide +kernel) rfl) ?_
  refine ev_go0 (ev_p_virt (M := (ev_Mof 177)) (pc := 6) (x := 205) (mi := 203) (na := 4) (by decide +kernel) (by decide +kernel) (by decide +kernel) (by decide +kernel) rfl rfl (ev_recv_of ev_fH0) (ev_k103 x1 hu_x1 x3 x4)) ?_
  refine ev_go0 (ev_w_if (M := (ev_Mof 177)) (pc := 9) (q := .ne) (o := 13) (b := false) (t := 12) (by decide +kernel) (by decide +kernel) rfl) ?_
  rfl
theorem ev_k149 (x1 : Int32) (hu_x1 : x1.toInt ≤ (-1 : Int)) (x3 : Int32) (x4 : Int32) {n : Nat} : ev_calld 12 374 [.ref 0, .int x1, .int (1), .int x3, .int x4, .ref 723] ev_H0 n = some (.inl (some (.int (1))), ev_H0, n, 1, 6) := by
  refine ev_call_int (k := 10) (pcR := 20) (lv' := [(6, .retAddr 1), (0, .ref 0), (1, .int x1), (2, .int (1)), (3, .int x3), (4, .int x4), (5, .ref 723)]) (v := (1)) (ty := .int) (by decide +kernel) rfl ?_ (by decide +kernel) (by decide +kernel) (by decide +kernel) (by decide)
  show ev_stepn _ 10 (0, [(0, .ref 0), (1, .int x1), (2, .int (1)), (3, .int x3), (4, .int x4), (5, .ref 723)], [], _, _, 0, 0) = _
  refine ev_go0 (ev_one_pure (M := (ev_Mof 374)) (pc := 0) (i := .aload 5) (len := 2) (pc' := 2) (lv' := [(0, .ref 0), (1, .int x1), (2, .int (1)), (3, .int x3), (4, .int x4), (5, .ref 723)]) (st' := [.ref 723]) (by decide +kernel) rfl) ?_
  refine ev_go0 (ev_w_iconst (M := (ev_Mof 374)) (pc := 2) (k := 0) (v := 0) (by decide +kernel) (by decide +kernel)) ?_
  refine ev_go0 (ev_one_pure (M := (ev_Mof 374)) (pc := 3) (i := .aload_n 0) (len := 1) (pc' := 4) (lv' := [(0, .ref 0), (1, .int x1), (2, .int (1)), (3, .int x3), (4, .int x4), (5, .ref 723)]) (st' := [.ref 0, .int (0), .ref 723]) (by decide +kernel) rfl) ?_
  refine ev_go0 (ev_one_pure (M := (ev_Mof 374)) (pc := 4) (i := .iload_n 1) (len := 1) (pc' := 5) (lv' := [(0, .ref 0), (1, .int x1), (2, .int (1)), (3, .int x3), (4, .int x4), (5, .ref 723)]) (st' := [.int x1, .ref 0, .int (0), .ref 723]) (by decide +kernel) rfl) ?_
  refine ev_go0 (ev_one_pure (M := (ev_Mof 374)) (pc := 5) (i := .iload_n 2) (len := 1) (pc' := 6) (lv' := [(0, .ref 0), (1, .int x1), (2, .int (1)), (3, .int x3), (4, .int x4), (5, .ref 723)]) (st' := [.int (1), .int x1, .ref 0, .int (0), .ref 723]) (by decide +kernel) rfl) ?_
  refine ev_go0 (ev_one_pure (M := (ev_Mof 374)) (pc := 6) (i := .iload_n 3) (len := 1) (pc' := 7) (lv' := [(0, .ref 0), (1, .int x1), (2, .int (1)), (3, .int x3), (4, .int x4), (5, .ref 723)]) (st' := [.int x3, .int (1), .int x1, .ref 0, .int (0), .ref 723]) (by decide +kernel) rfl) ?_
  refine ev_go0 (ev_one_pure (M := (ev_Mof 374)) (pc := 7) (i := .iload 4) (len := 2) (pc' := 9) (lv' := [(0, .ref 0), (1, .int x1), (2, .int (1)), (3, .int x3), (4, .int x4), (5, .ref 723)]) (st' := [.int x4, .int x3, .int (1), .int x1, .ref 0, .int (0), .ref 723]) (by decide +kernel) rfl) ?_
  refine ev_go (ev_p_virtX (M := (ev_Mof 374)) (pc := 9) (x := 50) (t := 17) (mi := 177) (na := 4) (by decide +kernel) (by decide +kernel) (by decide +kernel) (by decide +kernel) rfl rfl (ev_recv_of ev_fH0) (ev_k148 x1 hu_x1 x3 x4) (by decide +kernel)) ?_
  refine ev_go0 (ev_w_astore (M := (ev_Mof 374)) (pc := 17) (k := 6) (lv' := [(6, .retAddr 1), (0, .ref 0), (1, .int x1), (2, .int (1)), (3, .int x3), (4, .int x4), (5, .ref 723)]) (by decide +kernel) (by decide +kernel) (Or.inr (Or.inr ⟨_, rfl⟩)) rfl) ?_
  refine ev_go0 (ev_w_iconst (M := (ev_Mof 374)) (pc := 19) (k := 1) (v := 1) (by decide +kernel) (by decide +kernel)) ?_
  rfl
theorem ev_k150 (x1 : Int32) (hu_x1 : x1.toInt ≤ (-1 : Int)) (x3 : Int32) (x4 : Int32) {n : Nat} : ev_calld 11 328 [.ref 621, .int x1, .int (1), .int x3, .int x4] ev_H0 n = some (.inl (some (.int (0))), (ev_H0.set 621 (.inr (13, (ev_F621.set 0 (.int (1)))))), n, 0, 0) := by
  refine ev_call_int (k := 11) (pcR := 49) (lv' := [(0, .ref 621), (1, .int x1), (2, .int (1)), (3, .int x3), (4, .int x4)]) (v := (0)) (ty := .int) (by decide +kernel) rfl ?_ (by decide +kernel) (by decide +kernel) (by decide +kernel) (by decide)
  show ev_stepn _ 11 (0, [(0, .ref 621), (1, .int x1), (2, .int (1)), (3, .int x3), (4, .int x4)], [], _, _, 0, 0) = _
  refine ev_go0 (ev_one_pure (M := (ev_Mof 328)) (pc := 0) (i := .aload_n 0) (len := 1) (pc' := 1) (lv' := [(0, .ref 621), (1, .int x1), (2, .int (1)), (3, .int x3), (4, .int x4)]) (st' := [.ref 621]) (by decide +kernel) rfl) ?_
  refine ev_go0 (ev_one_pure (M := (ev_Mof 328)) (pc := 1) (i := .aload_n 0) (len := 1) (pc' := 2) (lv' := [(0, .ref 621), (1, .int x1), (2, .int (1)), (3, .int x3), (4, .int x4)]) (st' := [.ref 621, .ref 621]) (by decide +kernel) rfl) ?_
  refine ev_go0 (ev_one_pure (M := (ev_Mof 328)) (pc := 2) (i := .iload_n 1) (len := 1) (pc' := 3) (lv' := [(0, .ref 621), (1, .int x1), (2, .int (1)), (3, .int x3), (4, .int x4)]) (st' := [.int x1, .ref 621, .ref 621]) (by decide +kernel) rfl) ?_
  refine ev_go0 (ev_p_virt (M := (ev_Mof 328)) (pc := 3) (x := 531) (mi := 273) (na := 1) (by decide +kernel) (by decide +kernel) (by decide +kernel) (by decide +kernel) rfl rfl (ev_recv_of ev_fH621) (ev_k141 x1 hu_x1)) ?_
  refine ev_go0 (ev_w_if (M := (ev_Mof 328)) (pc := 6) (q := .eq) (o := 31) (b := true) (t := 37) (by decide +kernel) (by decide +kernel) rfl) ?_
  refine ev_go0 (ev_w_iconst (M := (ev_Mof 328)) (pc := 37) (k := 1) (v := 1) (by decide +kernel) (by decide +kernel)) ?_
  refine ev_go0 (ev_p_putf (M := (ev_Mof 328)) (pc := 38) (x := 321) (ci := 13) (f := 0) (by decide +kernel) (by decide +kernel) ev_fH621 rfl (by decide +kernel)) ?_
  refine ev_go0 (ev_one_pure (M := (ev_Mof 328)) (pc := 41) (i := .aload_n 0) (len := 1) (pc' := 42) (lv' := [(0, .ref 621), (1, .int x1), (2, .int (1)), (3, .int x3), (4, .int x4)]) (st' := [.ref 621]) (by decide +kernel) rfl) ?_
  refine ev_go0 (ev_p_getf (M := (ev_Mof 328)) (pc := 42) (x := 321) (ci := 13) (f := 0) (fin := 0) (v := .int (1)) (by decide +kernel) (by decide +kernel) (ev_hself ev_fH621) rfl) ?_
  refine ev_go0 (ev_w_if (M := (ev_Mof 328)) (pc := 45) (q := .le) (o := 5) (b := false) (t := 48) (by decide +kernel) (by decide +kernel) rfl) ?_
  refine ev_go0 (ev_w_iconst (M := (ev_Mof 328)) (pc := 48) (k := 0) (v := 0) (by decide +kernel) (by decide +kernel)) ?_
  rfl
theorem ev_k151 (x1 : Int32) (hu_x1 : x1.toInt ≤ (-1 : Int)) (x3 : Int32) (x4 : Int32) {n : Nat} : ev_calld 12 329 [.ref 621, .int x1, .int (1), .int x3, .int x4] ev_H0 n = some (.inl (some (.int (0))), (ev_H0.set 621 (.inr (13, (ev_F621.set 0 (.int (1)))))), n, 0, 0) := by
  refine ev_call_int (k := 6) (pcR := 9) (lv' := [(0, .ref 621), (1, .int x1), (2, .int (1)), (3, .int x3), (4, .int x4)]) (v := (0)) (ty := .int) (by decide +kernel) rfl ?_ (by decide +kernel) (by decide +kernel) (by decide +kernel) (by decide)
  show ev_stepn _ 6 (0, [(0, .ref 621), (1, .int x1), (2, .int (1)), (3, .int x3), (4, .int x4)], [], _, _, 0, 0) = _
  refine ev_go0 (ev_one_pure (M := (ev_Mof 329)) (pc := 0) (i := .aload_n 0) (len := 1) (pc' := 1) (lv' := [(0, .ref 621), (1, .int x1), (2, .int (1)), (3, .int x3), (4, .int x4)]) (st' := [.ref 621]) (by decide +kernel) rfl) ?_
  refine ev_go0 (ev_one_pure (M := (ev_Mof 329)) (pc := 1) (i := .iload_n 1) (len := 1) (pc' := 2) (lv' := [(0, .ref 621), (1, .int x1), (2, .int (1)), (3, .int x3), (4, .int x4)]) (st' := [.int x1, .ref 621]) (by decide +kernel) rfl) ?_
  refine ev_go0 (ev_one_pure (M := (ev_Mof 329)) (pc := 2) (i := .iload_n 2) (len := 1) (pc' := 3) (lv' := [(0, .ref 621), (1, .int x1), (2, .int (1)), (3, .int x3), (4, .int x4)]) (st' := [.int (1), .int x1, .ref 621]) (by decide +kernel) rfl) ?_
  refine ev_go0 (ev_one_pure (M := (ev_Mof 329)) (pc := 3) (i := .iload_n 3) (len := 1) (pc' := 4) (lv' := [(0, .ref 621), (1, .int x1), (2, .int (1)), (3, .int x3), (4, .int x4)]) (st' := [.int x3, .int (1), .int x1, .ref 621]) (by decide +kernel) rfl) ?_
  refine ev_go0 (ev_one_pure (M := (ev_Mof 329)) (pc := 4) (i := .iload 4) (len := 2) (pc' := 6) (lv' := [(0, .ref 621), (1, .int x1), (2, .int (1)), (3, .int x3), (4, .int x4)]) (st' := [.int x4, .int x3, .int (1), .int x1, .ref 621]) (by decide +kernel) rfl) ?_
  refine ev_go0 (ev_p_virt (M := (ev_Mof 329)) (pc := 6) (x := 732) (mi := 328) (na := 4) (by decide +kernel) (by decide +kernel) (by decide +kernel) (by decide +kernel) rfl rfl (ev_recv_of ev_fH621) (ev_k150 x1 hu_x1 x3 x4)) ?_
  rfl
theorem ev_p1_11_n1 (xs : Nat → Int32) (x1 : Int32) (hu_x1 : x1.toInt ≤ (-1 : Int)) (x3 : Int32) (x4 : Int32) (e1 : xs 1 = x1) (e2 : xs 2 = (1)) (e3 : xs 3 = x3) (e4 : xs 4 = x4) : ev_P1 xs 804 := by
  refine ⟨54, [(6, .int (0)), (5, .int (1)), (4, .int (0)), (3, .ref 723), (2, .ref 621), (1, .ref 0), (0, .retAddr 0)], (ev_H0.set 621 (.inr (13, (ev_F621.set 0 (.int (1)))))), 724, 725, 3553592, ?_, ⟨rfl, rfl, rfl, rfl⟩, rfl, by decide, by decide⟩
  show ev_stepn _ _ (804, [(4, .int (0)), (3, .ref 723), (2, .ref 621), (1, .ref 0), (0, .retAddr 0)], [], _, _, _, _) = _
  refine ev_go0 (ev_one_pure (M := ev_Mlaw) (pc := 804) (i := .aload_n 1) (len := 1) (pc' := 805) (lv' := [(4, .int (0)), (3, .ref 723), (2, .ref 621), (1, .ref 0), (0, .retAddr 0)]) (st' := [.ref 0]) (by decide +kernel) rfl) ?_
  refine ev_go0 (ev_one_pure (M := ev_Mlaw) (pc := 805) (i := .aload_n 0) (len := 1) (pc' := 806) (lv' := [(4, .int (0)), (3, .ref 723), (2, .ref 621), (1, .ref 0), (0, .retAddr 0)]) (st' := [.retAddr 0, .ref 0]) (by decide +kernel) rfl) ?_
  refine ev_go0 (ev_one_pure (M := ev_Mlaw) (pc := 806) (i := .iload 4) (len := 2) (pc' := 808) (lv' := [(4, .int (0)), (3, .ref 723), (2, .ref 621), (1, .ref 0), (0, .retAddr 0)]) (st' := [.int (0), .retAddr 0, .ref 0]) (by decide +kernel) rfl) ?_
  refine ev_go0 (ev_w_iconst (M := ev_Mlaw) (pc := 808) (k := 1) (v := 1) (by decide +kernel) (by decide +kernel)) ?_
  refine ev_go0 (ev_w_iadd (M := ev_Mlaw) (pc := 809) (v := (1)) (by decide +kernel) (by decide +kernel)) ?_
  refine ev_go0 (ev_w_scr (M := ev_Mlaw) (pc := 810) (v := x1) (j := 1) (by decide +kernel) (by decide +kernel) (by decide +kernel) e1) ?_
  refine ev_go0 (ev_one_pure (M := ev_Mlaw) (pc := 811) (i := .aload_n 0) (len := 1) (pc' := 812) (lv' := [(4, .int (0)), (3, .ref 723), (2, .ref 621), (1, .ref 0), (0, .retAddr 0)]) (st' := [.retAddr 0, .int x1, .ref 0]) (by decide +kernel) rfl) ?_
  refine ev_go0 (ev_one_pure (M := ev_Mlaw) (pc := 812) (i := .iload 4) (len := 2) (pc' := 814) (lv' := [(4, .int (0)), (3, .ref 723), (2, .ref 621), (1, .ref 0), (0, .retAddr 0)]) (st' := [.int (0), .retAddr 0, .int x1, .ref 0]) (by decide +kernel) rfl) ?_
  refine ev_go0 (ev_w_iconst (M := ev_Mlaw) (pc := 814) (k := 2) (v := 2) (by decide +kernel) (by decide +kernel)) ?_
  refine ev_go0 (ev_w_iadd (M := ev_Mlaw) (pc := 815) (v := (2)) (by decide +kernel) (by decide +kernel)) ?_
  refine ev_go0 (ev_w_scr (M := ev_Mlaw) (pc := 816) (v := (1)) (j := 2) (by decide +kernel) (by decide +kernel) (by decide +kernel) e2) ?_
  refine ev_go0 (ev_one_pure (M := ev_Mlaw) (pc := 817) (i := .aload_n 0) (len := 1) (pc' := 818) (lv' := [(4, .int (0)), (3, .ref 723), (2, .ref 621), (1, .ref 0), (0, .retAddr 0)]) (st' := [.retAddr 0, .int (1), .int x1, .ref 0]) (by decide +kernel) rfl) ?_
  refine ev_go0 (ev_one_pure (M := ev_Mlaw) (pc := 818) (i := .iload 4) (len := 2) (pc' := 820) (lv' := [(4, .int (0)), (3, .ref 723), (2, .ref 621), (1, .ref 0), (0, .retAddr 0)]) (st' := [.int (0), .retAddr 0, .int (1), .int x1, .ref 0]) (by decide +kernel) rfl) ?_
  refine ev_go0 (ev_w_iconst (M := ev_Mlaw) (pc := 820) (k := 3) (v := 3) (by decide +kernel) (by decide +kernel)) ?_
  refine ev_go0 (ev_w_iadd (M := ev_Mlaw) (pc := 821) (v := (3)) (by decide +kernel) (by decide +kernel)) ?_
  refine ev_go0 (ev_w_scr (M := ev_Mlaw) (pc := 822) (v := x3) (j := 3) (by decide +kernel) (by decide +kernel) (by decide +kernel) e3) ?_
  refine ev_go0 (ev_one_pure (M := ev_Mlaw) (pc := 823) (i := .aload_n 0) (len := 1) (pc' := 824) (lv' := [(4, .int (0)), (3, .ref 723), (2, .ref 621), (1, .ref 0), (0, .retAddr 0)]) (st' := [.retAddr 0, .int x3, .int (1), .int x1, .ref 0]) (by decide +kernel) rfl) ?_
  refine ev_go0 (ev_one_pure (M := ev_Mlaw) (pc := 824) (i := .iload 4) (len := 2) (pc' := 826) (lv' := [(4, .int (0)), (3, .ref 723), (2, .ref 621), (1, .ref 0), (0, .retAddr 0)]) (st' := [.int (0), .retAddr 0, .int x3, .int (1), .int x1, .ref 0]) (by decide +kernel) rfl) ?_
  refine ev_go0 (ev_w_iconst (M := ev_Mlaw) (pc := 826) (k := 4) (v := 4) (by decide +kernel) (by decide +kernel)) ?_
  refine ev_go0 (ev_w_iadd (M := ev_Mlaw) (pc := 827) (v := (4)) (by decide +kernel) (by decide +kernel)) ?_
  refine ev_go0 (ev_w_scr (M := ev_Mlaw) (pc := 828) (v := x4) (j := 4) (by decide +kernel) (by decide +kernel) (by decide +kernel) e4) ?_
  refine ev_go0 (ev_one_pure (M := ev_Mlaw) (pc := 829) (i := .aload_n 3) (len := 1) (pc' := 830) (lv' := [(4, .int (0)), (3, .ref 723), (2, .ref 621), (1, .ref 0), (0, .retAddr 0)]) (st' := [.ref 723, .int x4, .int x3, .int (1), .int x1, .ref 0]) (by decide +kernel) rfl) ?_
  refine ev_go (ev_w_stat (M := ev_Mlaw) (pc := 830) (y := 168) (kind := 8) (Or.inr (Or.inr rfl)) (mi := 374) (na := 6) (by decide +kernel) (by decide +kernel) (by decide +kernel) (by decide +kernel) rfl rfl (ev_k149 x1 hu_x1 x3 x4)) ?_
  refine ev_go0 (ev_w_istore (M := ev_Mlaw) (pc := 833) (k := 5) (lv' := [(5, .int (1)), (4, .int (0)), (3, .ref 723), (2, .ref 621), (1, .ref 0), (0, .retAddr 0)]) (by decide +kernel) (by decide +kernel) rfl) ?_
  refine ev_go0 (ev_one_pure (M := ev_Mlaw) (pc := 835) (i := .aload_n 2) (len := 1) (pc' := 836) (lv' := [(5, .int (1)), (4, .int (0)), (3, .ref 723), (2, .ref 621), (1, .ref 0), (0, .retAddr 0)]) (st' := [.ref 621]) (by decide +kernel) rfl) ?_
  refine ev_go0 (ev_one_pure (M := ev_Mlaw) (pc := 836) (i := .aload_n 0) (len := 1) (pc' := 837) (lv' := [(5, .int (1)), (4, .int (0)), (3, .ref 723), (2, .ref 621), (1, .ref 0), (0, .retAddr 0)]) (st' := [.retAddr 0, .ref 621]) (by decide +kernel) rfl) ?_
  refine ev_go0 (ev_one_pure (M := ev_Mlaw) (pc := 837) (i := .iload 4) (len := 2) (pc' := 839) (lv' := [(5, .int (1)), (4, .int (0)), (3, .ref 723), (2, .ref 621), (1, .ref 0), (0, .retAddr 0)]) (st' := [.int (0), .retAddr 0, .ref 621]) (by decide +kernel) rfl) ?_
  refine ev_go0 (ev_w_iconst (M := ev_Mlaw) (pc := 839) (k := 1) (v := 1) (by decide +kernel) (by decide +kernel)) ?_
  refine ev_go0 (ev_w_iadd (M := ev_Mlaw) (pc := 840) (v := (1)) (by decide +kernel) (by decide +kernel)) ?_
  refine ev_go0 (ev_w_scr (M := ev_Mlaw) (pc := 841) (v := x1) (j := 1) (by decide +kernel) (by decide +kernel) (by decide +kernel) e1) ?_
  refine ev_go0 (ev_one_pure (M := ev_Mlaw) (pc := 842) (i := .aload_n 0) (len := 1) (pc' := 843) (lv' := [(5, .int (1)), (4, .int (0)), (3, .ref 723), (2, .ref 621), (1, .ref 0), (0, .retAddr 0)]) (st' := [.retAddr 0, .int x1, .ref 621]) (by decide +kernel) rfl) ?_
  refine ev_go0 (ev_one_pure (M := ev_Mlaw) (pc := 843) (i := .iload 4) (len := 2) (pc' := 845) (lv' := [(5, .int (1)), (4, .int (0)), (3, .ref 723), (2, .ref 621), (1, .ref 0), (0, .retAddr 0)]) (st' := [.int (0), .retAddr 0, .int x1, .ref 621]) (by decide +kernel) rfl) ?_
  refine ev_go0 (ev_w_iconst (M := ev_Mlaw) (pc := 845) (k := 2) (v := 2) (by decide +kernel) (by decide +kernel)) ?_
  refine ev_go0 (ev_w_iadd (M := ev_Mlaw) (pc := 846) (v := (2)) (by decide +kernel) (by decide +kernel)) ?_
  refine ev_go0 (ev_w_scr (M := ev_Mlaw) (pc := 847) (v := (1)) (j := 2) (by decide +kernel) (by decide +kernel) (by decide +kernel) e2) ?_
  refine ev_go0 (ev_one_pure (M := ev_Mlaw) (pc := 848) (i := .aload_n 0) (len := 1) (pc' := 849) (lv' := [(5, .int (1)), (4, .int (0)), (3, .ref 723), (2, .ref 621), (1, .ref 0), (0, .retAddr 0)]) (st' := [.retAddr 0, .int (1), .int x1, .ref 621]) (by decide +kernel) rfl) ?_
  refine ev_go0 (ev_one_pure (M := ev_Mlaw) (pc := 849) (i := .iload 4) (len := 2) (pc' := 851) (lv' := [(5, .int (1)), (4, .int (0)), (3, .ref 723), (2, .ref 621), (1, .ref 0), (0, .retAddr 0)]) (st' := [.int (0), .retAddr 0, .int (1), .int x1, .ref 621]) (by decide +kernel) rfl) ?_
  refine ev_go0 (ev_w_iconst (M := ev_Mlaw) (pc := 851) (k := 3) (v := 3) (by decide +kernel) (by decide +kernel)) ?_
  refine ev_go0 (ev_w_iadd (M := ev_Mlaw) (pc := 852) (v := (3)) (by decide +kernel) (by decide +kernel)) ?_
  refine ev_go0 (ev_w_scr (M := ev_Mlaw) (pc := 853) (v := x3) (j := 3) (by decide +kernel) (by decide +kernel) (by decide +kernel) e3) ?_
  refine ev_go0 (ev_one_pure (M := ev_Mlaw) (pc := 854) (i := .aload_n 0) (len := 1) (pc' := 855) (lv' := [(5, .int (1)), (4, .int (0)), (3, .ref 723), (2, .ref 621), (1, .ref 0), (0, .retAddr 0)]) (st' := [.retAddr 0, .int x3, .int (1), .int x1, .ref 621]) (by decide +kernel) rfl) ?_
  refine ev_go0 (ev_one_pure (M := ev_Mlaw) (pc := 855) (i := .iload 4) (len := 2) (pc' := 857) (lv' := [(5, .int (1)), (4, .int (0)), (3, .ref 723), (2, .ref 621), (1, .ref 0), (0, .retAddr 0)]) (st' := [.int (0), .retAddr 0, .int x3, .int (1), .int x1, .ref 621]) (by decide +kernel) rfl) ?_
  refine ev_go0 (ev_w_iconst (M := ev_Mlaw) (pc := 857) (k := 4) (v := 4) (by decide +kernel) (by decide +kernel)) ?_
  refine ev_go0 (ev_w_iadd (M := ev_Mlaw) (pc := 858) (v := (4)) (by decide +kernel) (by decide +kernel)) ?_
  refine ev_go0 (ev_w_scr (M := ev_Mlaw) (pc := 859) (v := x4) (j := 4) (by decide +kernel) (by decide +kernel) (by decide +kernel) e4) ?_
  refine ev_go0 (ev_p_virt (M := ev_Mlaw) (pc := 860) (x := 170) (mi := 329) (na := 4) (by decide +kernel) (by decide +kernel) (by decide +kernel) (by decide +kernel) rfl rfl (ev_recv_of ev_fH621) (ev_k151 x1 hu_x1 x3 x4)) ?_
  refine ev_go0 (ev_w_istore (M := ev_Mlaw) (pc := 863) (k := 6) (lv' := [(6, .int (0)), (5, .int (1)), (4, .int (0)), (3, .ref 723), (2, .ref 621), (1, .ref 0), (0, .retAddr 0)]) (by decide +kernel) (by decide +kernel) rfl) ?_
  refine ev_go0 (ev_one_pure (M := ev_Mlaw) (pc := 865) (i := .aload_n 2) (len := 1) (pc' := 866) (lv' := [(6, .int (0)), (5, .int (1)), (4, .int (0)), (3, .ref 723), (2, .ref 621), (1, .ref 0), (0, .retAddr 0)]) (st' := [.ref 621]) (by decide +kernel) rfl) ?_
  refine ev_go0 (ev_p_virt (M := ev_Mlaw) (pc := 866) (x := 131) (mi := 220) (na := 0) (by decide +kernel) (by decide +kernel) (by decide +kernel) (by decide +kernel) rfl rfl (ev_recv_of (ev_hself ev_fH621)) ev_k26) ?_
  refine ev_go0 (ev_one_pure (M := ev_Mlaw) (pc := 869) (i := .iload 5) (len := 2) (pc' := 871) (lv' := [(6, .int (0)), (5, .int (1)), (4, .int (0)), (3, .ref 723), (2, .ref 621), (1, .ref 0), (0, .retAddr 0)]) (st' := [.int (1), .int (1)]) (by decide +kernel) rfl) ?_
  refine ev_go0 (ev_w_icmp (M := ev_Mlaw) (pc := 871) (q := .eq) (o := 5) (b := true) (t := 876) (by decide +kernel) (by decide +kernel) rfl) ?_
  refine ev_go0 (ev_one_pure (M := ev_Mlaw) (pc := 876) (i := .iload 5) (len := 2) (pc' := 878) (lv' := [(6, .int (0)), (5, .int (1)), (4, .int (0)), (3, .ref 723), (2, .ref 621), (1, .ref 0), (0, .retAddr 0)]) (st' := [.int (1)]) (by decide +kernel) rfl) ?_
  refine ev_go0 (ev_w_if (M := ev_Mlaw) (pc := 878) (q := .ne) (o := 15) (b := true) (t := 893) (by decide +kernel) (by decide +kernel) rfl) ?_
  refine ev_go0 (ev_one_pure (M := ev_Mlaw) (pc := 893) (i := .goto 1379) (len := 3) (pc' := 2272) (lv' := [(6, .int (0)), (5, .int (1)), (4, .int (0)), (3, .ref 723), (2, .ref 621), (1, .ref 0), (0, .retAddr 0)]) (st' := []) (by decide +kernel) rfl) ?_
  rfl
theorem ev_k152 (x1 : Int32) (hu_x1 : x1.toInt ≤ (-1 : Int)) (x3 : Int32) (x4 : Int32) {n : Nat} : ev_calld 11 177 [.ref 0, .int x1, .int (2), .int x3, .int x4] ev_H0 n = some (.inr "java/lang/IndexOutOfBoundsException", ev_H0, n, 1, 6) := by
  refine ev_call_thrown (k := 7) (pcR := 12) (x := 160) (lv' := [(0, .ref 0), (1, .int x1), (2, .int (2)), (3, .int x3), (4, .int x4)]) (by decide +kernel) rfl ?_ (by decide +kernel) (by decide +kernel) (by decide +kernel) (by decide) (by decide)
  show ev_stepn _ 7 (0, [(0, .ref 0), (1, .int x1), (2, .int (2)), (3, .int x3), (4, .int x4)], [], _, _, 0, 0) = _
  refine ev_go0 (ev_one_pure (M := (ev_Mof 177)) (pc := 0) (i := .aload_n 0) (len := 1) (pc' := 1) (lv' := [(0, .ref 0), (1, .int x1), (2, .int (2)), (3, .int x3), (4, .int x4)]) (st' := [.ref 0]) (by decide +kernel) rfl) ?_
  refine ev_go0 (ev_one_pure (M := (ev_Mof 177)) (pc := 1) (i := .iload_n 1) (len := 1) (pc' := 2) (lv' := [(0, .ref 0), (1, .int x1), (2, .int (2)), (3, .int x3), (4, .int x4)]) (st' := [.int x1, .ref 0]) (by decide +kernel) rfl) ?_
  refine ev_go0 (ev_one_pure (M := (ev_Mof 177)) (pc := 2) (i := .iload_n 2) (len := 1) (pc' := 3) (lv' := [(0, .ref 0), (1, .int x1), (2, .int (2)), (3, .int x3), (4, .int x4)]) (st' := [.int (2), .int x1, .ref 0]) (by decide +kernel) rfl) ?_
  refine ev_go0 (ev_one_pure (M := (ev_Mof 177)) (pc := 3) (i := .iload_n 3) (len := 1) (pc' := 4) (lv' := [(0, .ref 0), (1, .int x1), (2, .int (2)), (3, .int x3), (4, .int x4)]) (st' := [.int x3, .int (2), .int x1, .ref 0]) (by decide +kernel) rfl) ?_
  refine ev_go0 (ev_one_pure (M := (ev_Mof 177)) (pc := 4) (i := .iload 4) (len := 2) (pc' := 6) (lv' := [(0, .ref 0), (1, .int x1), (2, .int (2)), (3, .int x3), (4, .int x4)]) (st' := [.int x4, .int x3, .int (2), .int x1, .ref 0]) (by decide +kernel) rfl) ?_
  refine ev_go0 (ev_p_virt (M := (ev_Mof 177)) (pc := 6) (x := 205) (mi := 203) (na := 4) (by decide +kernel) (by decide +kernel) (by decide +kernel) (by decide +kernel) rfl rfl (ev_recv_of ev_fH0) (ev_k108 x1 hu_x1 x3 x4)) ?_
  refine ev_go0 (ev_w_if (M := (ev_Mof 177)) (pc := 9) (q := .ne) (o := 13) (b := false) (t := 12) (by decide +kernel) (by decide +kernel) rfl) ?_
  rfl
theorem ev_k153 (x1 : Int32) (hu_x1 : x1.toInt ≤ (-1 : Int)) (x3 : Int32) (x4 : Int32) {n : Nat} : ev_calld 12 374 [.ref 0, .int x1, .int (2), .int x3, .int x4, .ref 723] ev_H0 n = some (.inl (some (.int (1))), ev_H0, n, 1, 6) := by
  refine ev_call_int (k := 10) (pcR := 20) (lv' := [(6, .retAddr 1), (0, .ref 0), (1, .int x1), (2, .int (2)), (3, .int x3), (4, .int x4), (5, .ref 723)]) (v := (1)) (ty := .int) (by decide +kernel) rfl ?_ (by decide +kernel) (by decide +kernel) (by decide +kernel) (by decide)
  show ev_stepn _ 10 (0, [(0, .ref 0), (1, .int x1), (2, .int (2)), (3, .int x3), (4, .int x4), (5, .ref 723)], [], _, _, 0, 0) = _
  refine ev_go0 (ev_one_pure (M := (ev_Mof 374)) (pc := 0) (i := .aload 5) (len := 2) (pc' := 2) (lv' := [(0, .ref 0), (1, .int x1), (2, .int (2)), (3, .int x3), (4, .int x4), (5, .ref 723)]) (st' := [.ref 723]) (by decide +kernel) rfl) ?_
  refine ev_go0 (ev_w_iconst (M := (ev_Mof 374)) (pc := 2) (k := 0) (v := 0) (by decide +kernel) (by decide +kernel)) ?_
  refine ev_go0 (ev_one_pure (M := (ev_Mof 374)) (pc := 3) (i := .aload_n 0) (len := 1) (pc' := 4) (lv' := [(0, .ref 0), (1, .int x1), (2, .int (2)), (3, .int x3), (4, .int x4), (5, .ref 723)]) (st' := [.ref 0, .int (0), .ref 723]) (by decide +kernel) rfl) ?_
  refine ev_go0 (ev_one_pure (M := (ev_Mof 374)) (pc := 4) (i := .iload_n 1) (len := 1) (pc' := 5) (lv' := [(0, .ref 0), (1, .int x1), (2, .int (2)), (3, .int x3), (4, .int x4), (5, .ref 723)]) (st' := [.int x1, .ref 0, .int (0), .ref 723]) (by decide +kernel) rfl) ?_
  refine ev_go0 (ev_one_pure (M := (ev_Mof 374)) (pc := 5) (i := .iload_n 2) (len := 1) (pc' := 6) (lv' := [(0, .ref 0), (1, .int x1), (2, .int (2)), (3, .int x3), (4, .int x4), (5, .ref 723)]) (st' := [.int (2), .int x1, .ref 0, .int (0), .ref 723]) (by decide +kernel) rfl) ?_
  refine ev_go0 (ev_one_pure (M := (ev_Mof 374)) (pc := 6) (i := .iload_n 3) (len := 1) (pc' := 7) (lv' := [(0, .ref 0), (1, .int x1), (2, .int (2)), (3, .int x3), (4, .int x4), (5, .ref 723)]) (st' := [.int x3, .int (2), .int x1, .ref 0, .int (0), .ref 723]) (by decide +kernel) rfl) ?_
  refine ev_go0 (ev_one_pure (M := (ev_Mof 374)) (pc := 7) (i := .iload 4) (len := 2) (pc' := 9) (lv' := [(0, .ref 0), (1, .int x1), (2, .int (2)), (3, .int x3), (4, .int x4), (5, .ref 723)]) (st' := [.int x4, .int x3, .int (2), .int x1, .ref 0, .int (0), .ref 723]) (by decide +kernel) rfl) ?_
  refine ev_go (ev_p_virtX (M := (ev_Mof 374)) (pc := 9) (x := 50) (t := 17) (mi := 177) (na := 4) (by decide +kernel) (by decide +kernel) (by decide +kernel) (by decide +kernel) rfl rfl (ev_recv_of ev_fH0) (ev_k152 x1 hu_x1 x3 x4) (by decide +kernel)) ?_
  refine ev_go0 (ev_w_astore (M := (ev_Mof 374)) (pc := 17) (k := 6) (lv' := [(6, .retAddr 1), (0, .ref 0), (1, .int x1), (2, .int (2)), (3, .int x3), (4, .int x4), (5, .ref 723)]) (by decide +kernel) (by decide +kernel) (Or.inr (Or.inr ⟨_, rfl⟩)) rfl) ?_
  refine ev_go0 (ev_w_iconst (M := (ev_Mof 374)) (pc := 19) (k := 1) (v := 1) (by decide +kernel) (by decide +kernel)) ?_
  rfl
theorem ev_k154 (x1 : Int32) (hu_x1 : x1.toInt ≤ (-1 : Int)) (x3 : Int32) (x4 : Int32) {n : Nat} : ev_calld 11 328 [.ref 621, .int x1, .int (2), .int x3, .int x4] ev_H0 n = some (.inl (some (.int (0))), (ev_H0.set 621 (.inr (13, (ev_F621.set 0 (.int (1)))))), n, 0, 0) := by
  refine ev_call_int (k := 11) (pcR := 49) (lv' := [(0, .ref 621), (1, .int x1), (2, .int (2)), (3, .int x3), (4, .int x4)]) (v := (0)) (ty := .int) (by decide +kernel) rfl ?_ (by decide +kernel) (by decide +kernel) (by decide +kernel) (by decide)
  show ev_stepn _ 11 (0, [(0, .ref 621), (1, .int x1), (2, .int (2)), (3, .int x3), (4, .int x4)], [], _, _, 0, 0) = _
  refine ev_go0 (ev_one_pure (M := (ev_Mof 328)) (pc := 0) (i := .aload_n 0) (len := 1) (pc' := 1) (lv' := [(0, .ref 621), (1, .int x1), (2, .int (2)), (3, .int x3), (4, .int x4)]) (st' := [.ref 621]) (by decide +kernel) rfl) ?_
  refine ev_go0 (ev_one_pure (M := (ev_Mof 328)) (pc := 1) (i := .aload_n 0) (len := 1) (pc' := 2) (lv' := [(0, .ref 621), (1, .int x1), (2, .int (2)), (3, .int x3), (4, .int x4)]) (st' := [.ref 621, .ref 621]) (by decide +kernel) rfl) ?_
  refine ev_go0 (ev_one_pure (M := (ev_Mof 328)) (pc := 2) (i := .iload_n 1) (len := 1) (pc' := 3) (lv' := [(0, .ref 621), (1, .int x1), (2, .int (2)), (3, .int x3), (4, .int x4)]) (st' := [.int x1, .ref 621, .ref 621]) (by decide +kernel) rfl) ?_
  refine ev_go0 (ev_p_virt (M := (ev_Mof 328)) (pc := 3) (x := 531) (mi := 273) (na := 1) (by decide +kernel) (by decide +kernel) (by decide +kernel) (by decide +kernel) rfl rfl (ev_recv_of ev_fH621) (ev_k141 x1 hu_x1)) ?_
  refine ev_go0 (ev_w_if (M := (ev_Mof 328)) (pc := 6) (q := .eq) (o := 31) (b := true) (t := 37) (by decide +kernel) (by decide +kernel) rfl) ?_
  refine ev_go0 (ev_w_iconst (M := (ev_Mof 328)) (pc := 37) (k := 1) (v := 1) (by decide +kernel) (by decide +kernel)) ?_
  refine ev_go0 (ev_p_putf (M := (ev_Mof 328)) (pc := 38) (x := 321) (ci := 13) (f := 0) (by decide +kernel) (by decide +kernel) ev_fH621 rfl (by decide +kernel)) ?_
  refine ev_go0 (ev_one_pure (M := (ev_Mof 328)) (pc := 41) (i := .aload_n 0) (len := 1) (pc' := 42) (lv' := [(0, .ref 621), (1, .int x1), (2, .int (2)), (3, .int x3), (4, .int x4)]) (st' := [.ref 621]) (by decide +kernel) rfl) ?_
  refine ev_go0 (ev_p_getf (M := (ev_Mof 328)) (pc := 42) (x := 321) (ci := 13) (f := 0) (fin := 0) (v := .int (1)) (by decide +kernel) (by decide +kernel) (ev_hself ev_fH621) rfl) ?_
  refine ev_go0 (ev_w_if (M := (ev_Mof 328)) (pc := 45) (q := .le) (o := 5) (b := false) (t := 48) (by decide +kernel) (by decide +kernel) rfl) ?_
  refine ev_go0 (ev_w_iconst (M := (ev_Mof 328)) (pc := 48) (k := 0) (v := 0) (by decide +kernel) (by decide +kernel)) ?_
  rfl
theorem ev_k155 (x1 : Int32) (hu_x1 : x1.toInt ≤ (-1 : Int)) (x3 : Int32) (x4 : Int32) {n : Nat} : ev_calld 12 329 [.ref 621, .int x1, .int (2), .int x3, .int x4] ev_H0 n = some (.inl (some (.int (0))), (ev_H0.set 621 (.inr (13, (ev_F621.set 0 (.int (1)))))), n, 0, 0) := by
  refine ev_call_int (k := 6) (pcR := 9) (lv' := [(0, .ref 621), (1, .int x1), (2, .int (2)), (3, .int x3), (4, .int x4)]) (v := (0)) (ty := .int) (by decide +kernel) rfl ?_ (by decide +kernel) (by decide +kernel) (by decide +kernel) (by decide)
  show ev_stepn _ 6 (0, [(0, .ref 621), (1, .int x1), (2, .int (2)), (3, .int x3), (4, .int x4)], [], _, _, 0, 0) = _
  refine ev_go0 (ev_one_pure (M := (ev_Mof 329)) (pc := 0) (i := .aload_n 0) (len := 1) (pc' := 1) (lv' := [(0, .ref 621), (1, .int x1), (2, .int (2)), (3, .int x3), (4, .int x4)]) (st' := [.ref 621]) (by decide +kernel) rfl) ?_
  refine ev_go0 (ev_one_pure (M := (ev_Mof 329)) (pc := 1) (i := .iload_n 1) (len := 1) (pc' := 2) (lv' := [(0, .ref 621), (1, .int x1), (2, .int (2)), (3, .int x3), (4, .int x4)]) (st' := [.int x1, .ref 621]) (by decide +kernel) rfl) ?_
  refine ev_go0 (ev_one_pure (M := (ev_Mof 329)) (pc := 2) (i := .iload_n 2) (len := 1) (pc' := 3) (lv' := [(0, .ref 621), (1, .int x1), (2, .int (2)), (3, .int x3), (4, .int x4)]) (st' := [.int (2), .int x1, .ref 621]) (by decide +kernel) rfl) ?_
  refine ev_go0 (ev_one_pure (M := (ev_Mof 329)) (pc := 3) (i := .iload_n 3) (len := 1) (pc' := 4) (lv' := [(0, .ref 621), (1, .int x1), (2, .int (2)), (3, .int x3), (4, .int x4)]) (st' := [.int x3, .int (2), .int x1, .ref 621]) (by decide +kernel) rfl) ?_
  refine ev_go0 (ev_one_pure (M := (ev_Mof 329)) (pc := 4) (i := .iload 4) (len := 2) (pc' := 6) (lv' := [(0, .ref 621), (1, .int x1), (2, .int (2)), (3, .int x3), (4, .int x4)]) (st' := [.int x4, .int x3, .int (2), .int x1, .ref 621]) (by decide +kernel) rfl) ?_
  refine ev_go0 (ev_p_virt (M := (ev_Mof 329)) (pc := 6) (x := 732) (mi := 328) (na := 4) (by decide +kernel) (by decide +kernel) (by decide +kernel) (by decide +kernel) rfl rfl (ev_recv_of ev_fH621) (ev_k154 x1 hu_x1 x3 x4)) ?_
  rfl
theorem ev_p1_11_n2 (xs : Nat → Int32) (x1 : Int32) (hu_x1 : x1.toInt ≤ (-1 : Int)) (x3 : Int32) (x4 : Int32) (e1 : xs 1 = x1) (e2 : xs 2 = (2)) (e3 : xs 3 = x3) (e4 : xs 4 = x4) : ev_P1 xs 804 := by
  refine ⟨54, [(6, .int (0)), (5, .int (1)), (4, .int (0)), (3, .ref 723), (2, .ref 621), (1, .ref 0), (0, .retAddr 0)], (ev_H0.set 621 (.inr (13, (ev_F621.set 0 (.int (1)))))), 724, 725, 3553592, ?_, ⟨rfl, rfl, rfl, rfl⟩, rfl, by decide, by decide⟩
  show ev_stepn _ _ (804, [(4, .int (0)), (3, .ref 723), (2, .ref 621), (1, .ref 0), (0, .retAddr 0)], [], _, _, _, _) = _
  refine ev_go0 (ev_one_pure (M := ev_Mlaw) (pc := 804) (i := .aload_n 1) (len := 1) (pc' := 805) (lv' := [(4, .int (0)), (3, .ref 723), (2, .ref 621), (1, .ref 0), (0, .retAddr 0)]) (st' := [.ref 0]) (by decide +kernel) rfl) ?_
  refine ev_go0 (ev_one_pure (M := ev_Mlaw) (pc := 805) (i := .aload_n 0) (len := 1) (pc' := 806) (lv' := [(4, .int (0)), (3, .ref 723), (2, .ref 621), (1, .ref 0), (0, .retAddr 0)]) (st' := [.retAddr 0, .ref 0]) (by decide +kernel) rfl) ?_
  refine ev_go0 (ev_one_pure (M := ev_Mlaw) (pc := 806) (i := .iload 4) (len := 2) (pc' := 808) (lv' := [(4, .int (0)), (3, .ref 723), (2, .ref 621), (1, .ref 0), (0, .retAddr 0)]) (st' := [.int (0), .retAddr 0, .ref 0]) (by decide +kernel) rfl) ?_
  refine ev_go0 (ev_w_iconst (M := ev_Mlaw) (pc := 808) (k := 1) (v := 1) (by decide +kernel) (by decide +kernel)) ?_
  refine ev_go0 (ev_w_iadd (M := ev_Mlaw) (pc := 809) (v := (1)) (by decide +kernel) (by decide +kernel)) ?_
  refine ev_go0 (ev_w_scr (M := ev_Mlaw) (pc := 810) (v := x1) (j := 1) (by decide +kernel) (by decide +kernel) (by decide +kernel) e1) ?_
  refine ev_go0 (ev_one_pure (M := ev_Mlaw) (pc := 811) (i := .aload_n 0) (len := 1) (pc' := 812) (lv' := [(4, .int (0)), (3, .ref 723), (2, .ref 621), (1, .ref 0), (0, .retAddr 0)]) (st' := [.retAddr 0, .int x1, .ref 0]) (by decide +kernel) rfl) ?_
  refine ev_go0 (ev_one_pure (M := ev_Mlaw) (pc := 812) (i := .iload 4) (len := 2) (pc' := 814) (lv' := [(4, .int (0)), (3, .ref 723), (2, .ref 621), (1, .ref 0), (0, .retAddr 0)]) (st' := [.int (0), .retAddr 0, .int x1, .ref 0]) (by decide +kernel) rfl) ?_
  refine ev_go0 (ev_w_iconst (M := ev_Mlaw) (pc := 814) (k := 2) (v := 2) (by decide +kernel) (by decide +kernel)) ?_
  refine ev_go0 (ev_w_iadd (M := ev_Mlaw) (pc := 815) (v := (2)) (by decide +kernel) (by decide +kernel)) ?_
  refine ev_go0 (ev_w_scr (M := ev_Mlaw) (pc := 816) (v := (2)) (j := 2) (by decide +kernel) (by decide +kernel) (by decide +kernel) e2) ?_
  refine ev_go0 (ev_one_pure (M := ev_Mlaw) (pc := 817) (i := .aload_n 0) (len := 1) (pc' := 818) (lv' := [(4, .int (0)), (3, .ref 723), (2, .ref 621), (1, .ref 0), (0, .retAddr 0)]) (st' := [.retAddr 0, .int (2), .int x1, .ref 0]) (by decide +kernel) rfl) ?_
  refine ev_go0 (ev_one_pure (M := ev_Mlaw) (pc := 818) (i := .iload 4) (len := 2) (pc' := 820) (lv' := [(4, .int (0)), (3, .ref 723), (2, .ref 621), (1, .ref 0), (0, .retAddr 0)]) (st' := [.int (0), .retAddr 0, .int (2), .int x1, .ref 0]) (by decide +kernel) rfl) ?_
  refine ev_go0 (ev_w_iconst (M := ev_Mlaw) (pc := 820) (k := 3) (v := 3) (by decide +kernel) (by decide +kernel)) ?_
  refine ev_go0 (ev_w_iadd (M := ev_Mlaw) (pc := 821) (v := (3)) (by decide +kernel) (by decide +kernel)) ?_
  refine ev_go0 (ev_w_scr (M := ev_Mlaw) (pc := 822) (v := x3) (j := 3) (by decide +kernel) (by decide +kernel) (by decide +kernel) e3) ?_
  refine ev_go0 (ev_one_pure (M := ev_Mlaw) (pc := 823) (i := .aload_n 0) (len := 1) (pc' := 824) (lv' := [(4, .int (0)), (3, .ref 723), (2, .ref 621), (1, .ref 0), (0, .retAddr 0)]) (st' := [.retAddr 0, .int x3, .int (2), .int x1, .ref 0]) (by decide +kernel) rfl) ?_
  refine ev_go0 (ev_one_pure (M := ev_Mlaw) (pc := 824) (i := .iload 4) (len := 2) (pc' := 826) (lv' := [(4, .int (0)), (3, .ref 723), (2, .ref 621), (1, .ref 0), (0, .retAddr 0)]) (st' := [.int (0), .retAddr 0, .int x3, .int (2), .int x1, .ref 0]) (by decide +kernel) rfl) ?_
  refine ev_go0 (ev_w_iconst (M := ev_Mlaw) (pc := 826) (k := 4) (v := 4) (by decide +kernel) (by decide +kernel)) ?_
  refine ev_go0 (ev_w_iadd (M := ev_Mlaw) (pc := 827) (v := (4)) (by decide +kernel) (by decide +kernel)) ?_
  refine ev_go0 (ev_w_scr (M := ev_Mlaw) (pc := 828) (v := x4) (j := 4) (by decide +kernel) (by decide +kernel) (by decide +kernel) e4) ?_
  refine ev_go0 (ev_one_pure (M := ev_Mlaw) (pc := 829) (i := .aload_n 3) (len := 1) (pc' := 830) (lv' := [(4, .int (0)), (3, .ref 723), (2, .ref 621), (1, .ref 0), (0, .retAddr 0)]) (st' := [.ref 723, .int x4, .int x3, .int (2), .int x1, .ref 0]) (by decide +kernel) rfl) ?_
  refine ev_go (ev_w_stat (M := ev_Mlaw) (pc := 830) (y := 168) (kind := 8) (Or.inr (Or.inr rfl)) (mi := 374) (na := 6) (by decide +kernel) (by decide +kernel) (by decide +kernel) (by decide +kernel) rfl rfl (ev_k153 x1 hu_x1 x3 x4)) ?_
  refine ev_go0 (ev_w_istore (M := ev_Mlaw) (pc := 833) (k := 5) (lv' := [(5, .int (1)), (4, .int (0)), (3, .ref 723), (2, .ref 621), (1, .ref 0), (0, .retAddr 0)]) (by decide +kernel) (by decide +kernel) rfl) ?_
  refine ev_go0 (ev_one_pure (M := ev_Mlaw) (pc := 835) (i := .aload_n 2) (len := 1) (pc' := 836) (lv' := [(5, .int (1)), (4, .int (0)), (3, .ref 723), (2, .ref 621), (1, .ref 0), (0, .retAddr 0)]) (st' := [.ref 621]) (by decide +kernel) rfl) ?_
  refine ev_go0 (ev_one_pure (M := ev_Mlaw) (pc := 836) (i := .aload_n 0) (len := 1) (pc' := 837) (lv' := [(5, .int (1)), (4, .int (0)), (3, .ref 723), (2, .ref 621), (1, .ref 0), (0, .retAddr 0)]) (st' := [.retAddr 0, .ref 621]) (by decide +kernel) rfl) ?_
  refine ev_go0 (ev_one_pure (M := ev_Mlaw) (pc := 837) (i := .iload 4) (len := 2) (pc' := 839) (lv' := [(5, .int (1)), (4, .int (0)), (3, .ref 723), (2, .ref 621), (1, .ref 0), (0, .retAddr 0)]) (st' := [.int (0), .retAddr 0, .ref 621]) (by decide +kernel) rfl) ?_
  refine ev_go0 (ev_w_iconst (M := ev_Mlaw) (pc := 839) (k := 1) (v := 1) (by decide +kernel) (by decide +kernel)) ?_
  refine ev_go0 (ev_w_iadd (M := ev_Mlaw) (pc := 840) (v := (1)) (by decide +kernel) (by decide +kernel)) ?_
  refine ev_go0 (ev_w_scr (M := ev_Mlaw) (pc := 841) (v := x1) (j := 1) (by decide +kernel) (by decide +kernel) (by decide +kernel) e1) ?_
  refine ev_go0 (ev_one_pure (M := ev_Mlaw) (pc := 842) (i := .aload_n 0) (len := 1) (pc' := 843) (lv' := [(5, .int (1)), (4, .int (0)), (3, .ref 723), (2, .ref 621), (1, .ref 0), (0, .retAddr 0)]) (st' := [.retAddr 0, .int x1, .ref 621]) (by decide +kernel) rfl) ?_
  refine ev_go0 (ev_one_pure (M := ev_Mlaw) (pc := 843) (i := .iload 4) (len := 2) (pc' := 845) (lv' := [(5, .int (1)), (4, .int (0)), (3, .ref 723), (2, .ref 621), (1, .ref 0), (0, .retAddr 0)]) (st' := [.int (0), .retAddr 0, .int x1, .ref 621]) (by decide +kernel) rfl) ?_
  refine ev_go0 (ev_w_iconst (M := ev_Mlaw) (pc := 845) (k := 2) (v := 2) (by decide +kernel) (by decide +kernel)) ?_
  refine ev_go0 (ev_w_iadd (M := ev_Mlaw) (pc := 846) (v := (2)) (by decide +kernel) (by decide +kernel)) ?_
  refine ev_go0 (ev_w_scr (M := ev_Mlaw) (pc := 847) (v := (2)) (j := 2) (by decide +kernel) (by decide +kernel) (by decide +kernel) e2) ?_
  refine ev_go0 (ev_one_pure (M := ev_Mlaw) (pc := 848) (i := .aload_n 0) (len := 1) (pc' := 849) (lv' := [(5, .int (1)), (4, .int (0)), (3, .ref 723), (2, .ref 621), (1, .ref 0), (0, .retAddr 0)]) (st' := [.retAddr 0, .int (2), .int x1, .ref 621]) (by decide +kernel) rfl) ?_
  refine ev_go0 (ev_one_pure (M := ev_Mlaw) (pc := 849) (i := .iload 4) (len := 2) (pc' := 851) (lv' := [(5, .int (1)), (4, .int (0)), (3, .ref 723), (2, .ref 621), (1, .ref 0), (0, .retAddr 0)]) (st' := [.int (0), .retAddr 0, .int (2), .int x1, .ref 621]) (by decide +kernel) rfl) ?_
  refine ev_go0 (ev_w_iconst (M := ev_Mlaw) (pc := 851) (k := 3) (v := 3) (by decide +kernel) (by decide +kernel)) ?_
  refine ev_go0 (ev_w_iadd (M := ev_Mlaw) (pc := 852) (v := (3)) (by decide +kernel) (by decide +kernel)) ?_
  refine ev_go0 (ev_w_scr (M := ev_Mlaw) (pc := 853) (v := x3) (j := 3) (by decide +kernel) (by decide +kernel) (by decide +kernel) e3) ?_
  refine ev_go0 (ev_one_pure (M := ev_Mlaw) (pc := 854) (i := .aload_n 0) (len := 1) (pc' := 855) (lv' := [(5, .int (1)), (4, .int (0)), (3, .ref 723), (2, .ref 621), (1, .ref 0), (0, .retAddr 0)]) (st' := [.retAddr 0, .int x3, .int (2), .int x1, .ref 621]) (by decide +kernel) rfl) ?_
  refine ev_go0 (ev_one_pure (M := ev_Mlaw) (pc := 855) (i := .iload 4) (len := 2) (pc' := 857) (lv' := [(5, .int (1)), (4, .int (0)), (3, .ref 723), (2, .ref 621), (1, .ref 0), (0, .retAddr 0)]) (st' := [.int (0), .retAddr 0, .int x3, .int (2), .int x1, .ref 621]) (by decide +kernel) rfl) ?_
  refine ev_go0 (ev_w_iconst (M := ev_Mlaw) (pc := 857) (k := 4) (v := 4) (by decide +kernel) (by decide +kernel)) ?_
  refine ev_go0 (ev_w_iadd (M := ev_Mlaw) (pc := 858) (v := (4)) (by decide +kernel) (by decide +kernel)) ?_
  refine ev_go0 (ev_w_scr (M := ev_Mlaw) (pc := 859) (v := x4) (j := 4) (by decide +kernel) (by decide +kernel) (by decide +kernel) e4) ?_
  refine ev_go0 (ev_p_virt (M := ev_Mlaw) (pc := 860) (x := 170) (mi := 329) (na := 4) (by decide +kernel) (by decide +kernel) (by decide +kernel) (by decide +kernel) rfl rfl (ev_recv_of ev_fH621) (ev_k155 x1 hu_x1 x3 x4)) ?_
  refine ev_go0 (ev_w_istore (M := ev_Mlaw) (pc := 863) (k := 6) (lv' := [(6, .int (0)), (5, .int (1)), (4, .int (0)), (3, .ref 723), (2, .ref 621), (1, .ref 0), (0, .retAddr 0)]) (by decide +kernel) (by decide +kernel) rfl) ?_
  refine ev_go0 (ev_one_pure (M := ev_Mlaw) (pc := 865) (i := .aload_n 2) (len := 1) (pc' := 866) (lv' := [(6, .int (0)), (5, .int (1)), (4, .int (0)), (3, .ref 723), (2, .ref 621), (1, .ref 0), (0, .retAddr 0)]) (st' := [.ref 621]) (by decide +kernel) rfl) ?_
  refine ev_go0 (ev_p_virt (M := ev_Mlaw) (pc := 866) (x := 131) (mi := 220) (na := 0) (by decide +kernel) (by decide +kernel) (by decide +kernel) (by decide +kernel) rfl rfl (ev_recv_of (ev_hself ev_fH621)) ev_k26) ?_
  refine ev_go0 (ev_one_pure (M := ev_Mlaw) (pc := 869) (i := .iload 5) (len := 2) (pc' := 871) (lv' := [(6, .int (0)), (5, .int (1)), (4, .int (0)), (3, .ref 723), (2, .ref 621), (1, .ref 0), (0, .retAddr 0)]) (st' := [.int (1), .int (1)]) (by decide +kernel) rfl) ?_
  refine ev_go0 (ev_w_icmp (M := ev_Mlaw) (pc := 871) (q := .eq) (o := 5) (b := true) (t := 876) (by decide +kernel) (by decide +kernel) rfl) ?_
  refine ev_go0 (ev_one_pure (M := ev_Mlaw) (pc := 876) (i := .iload 5) (len := 2) (pc' := 878) (lv' := [(6, .int (0)), (5, .int (1)), (4, .int (0)), (3, .ref 723), (2, .ref 621), (1, .ref 0), (0, .retAddr 0)]) (st' := [.int (1)]) (by decide +kernel) rfl) ?_
  refine ev_go0 (ev_w_if (M := ev_Mlaw) (pc := 878) (q := .ne) (o := 15) (b := true) (t := 893) (by decide +kernel) (by decide +kernel) rfl) ?_
  refine ev_go0 (ev_one_pure (M := ev_Mlaw) (pc := 893) (i := .goto 1379) (len := 3) (pc' := 2272) (lv' := [(6, .int (0)), (5, .int (1)), (4, .int (0)), (3, .ref 723), (2, .ref 621), (1, .ref 0), (0, .retAddr 0)]) (st' := []) (by decide +kernel) rfl) ?_
  rfl
theorem ev_k156 (x1 : Int32) (hu_x1 : x1.toInt ≤ (-1 : Int)) (x2 : Int32) (hl_x2 : (3 : Int) ≤ x2.toInt) (x3 : Int32) (x4 : Int32) {n : Nat} : ev_calld 11 177 [.ref 0, .int x1, .int x2, .int x3, .int x4] ev_H0 n = some (.inr "java/lang/IndexOutOfBoundsException", ev_H0, n, 1, 6) := by
  refine ev_call_thrown (k := 7) (pcR := 12) (x := 160) (lv' := [(0, .ref 0), (1, .int x1), (2, .int x2), (3, .int x3), (4, .int x4)]) (by decide +kernel) rfl ?_ (by decide +kernel) (by decide +kernel) (by decide +kernel) (by decide) (by decide)
  show ev_stepn _ 7 (0, [(0, .ref 0), (1, .int x1), (2, .int x2), (3, .int x3), (4, .int x4)], [], _, _, 0, 0) = _
  refine ev_go0 (ev_one_pure (M := (ev_Mof 177)) (pc := 0) (i := .aload_n 0) (len := 1) (pc' := 1) (lv' := [(0, .ref 0), (1, .int x1), (2, .int x2), (3, .int x3), (4, .int x4)]) (st' := [.ref 0]) (by decide +kernel) rfl) ?_
  refine ev_go0 (ev_one_pure (M := (ev_Mof 177)) (pc := 1) (i := .iload_n 1) (len := 1) (pc' := 2) (lv' := [(0, .ref 0), (1, .int x1), (2, .int x2), (3, .int x3), (4, .int x4)]) (st' := [.int x1, .ref 0]) (by decide +kernel) rfl) ?_
  refine ev_go0 (ev_one_pure (M := (ev_Mof 177)) (pc := 2) (i := .iload_n 2) (len := 1) (pc' := 3) (lv' := [(0, .ref 0), (1, .int x1), (2, .int x2), (3, .int x3), (4, .int x4)]) (st' := [.int x2, .int x1, .ref 0]) (by decide +kernel) rfl) ?_
  refine ev_go0 (ev_one_pure (M := (ev_Mof 177)) (pc := 3) (i := .iload_n 3) (len := 1) (pc' := 4) (lv' := [(0, .ref 0), (1, .int x1), (2, .int x2), (3, .int x3), (4, .int x4)]) (st' := [.int x3, .int x2, .int x1, .ref 0]) (by decide +kernel) rfl) ?_
  refine ev_go0 (ev_one_pure (M := (ev_Mof 177)) (pc := 4) (i := .iload 4) (len := 2) (pc' := 6) (lv' := [(0, .ref 0), (1, .int x1), (2, .int x2), (3, .int x3), (4, .int x4)]) (st' := [.int x4, .int x3, .int x2, .int x1, .ref 0]) (by decide +kernel) rfl) ?_
  refine ev_go0 (ev_p_virt (M := (ev_Mof 177)) (pc := 6) (x := 205) (mi := 203) (na := 4) (by decide +kernel) (by decide +kernel) (by decide +kernel) (by decide +kernel) rfl rfl (ev_recv_of ev_fH0) (ev_k113 x1 hu_x1 x2 hl_x2 x3 x4)) ?_
  refine ev_go0 (ev_w_if (M := (ev_Mof 177)) (pc := 9) (q := .ne) (o := 13) (b := false) (t := 12) (by decide +kernel) (by decide +kernel) rfl) ?_
  rfl
theorem ev_k157 (x1 : Int32) (hu_x1 : x1.toInt ≤ (-1 : Int)) (x2 : Int32) (hl_x2 : (3 : Int) ≤ x2.toInt) (x3 : Int32) (x4 : Int32) {n : Nat} : ev_calld 12 374 [.ref 0, .int x1, .int x2, .int x3, .int x4, .ref 723] ev_H0 n = some (.inl (some (.int (1))), ev_H0, n, 1, 6) := by
  refine ev_call_int (k := 10) (pcR := 20) (lv' := [(6, .retAddr 1), (0, .ref 0), (1, .int x1), (2, .int x2), (3, .int x3), (4, .int x4), (5, .ref 723)]) (v := (1)) (ty := .int) (by decide +kernel) rfl ?_ (by decide +kernel) (by decide +kernel) (by decide +kernel) (by decide)
  show ev_stepn _ 10 (0, [(0, .ref 0), (1, .int x1), (2, .int x2), (3, .int x3), (4, .int x4), (5, .ref 723)], [], _, _, 0, 0) = _
  refine ev_go0 (ev_one_pure (M := (ev_Mof 374)) (pc := 0) (i := .aload 5) (len := 2) (pc' := 2) (lv' := [(0, .ref 0), (1, .int x1), (2, .int x2), (3, .int x3), (4, .int x4), (5, .ref 723)]) (st' := [.ref 723]) (by decide +kernel) rfl) ?_
  refine ev_go0 (ev_w_iconst (M := (ev_Mof 374)) (pc := 2) (k := 0) (v := 0) (by decide +kernel) (by decide +kernel)) ?_
  refine ev_go0 (ev_one_pure (M := (ev_Mof 374)) (pc := 3) (i := .aload_n 0) (len := 1) (pc' := 4) (lv' := [(0, .ref 0), (1, .int x1), (2, .int x2), (3, .int x3), (4, .int x4), (5, .ref 723)]) (st' := [.ref 0, .int (0), .ref 723]) (by decide +kernel) rfl) ?_
  refine ev_go0 (ev_one_pure (M := (ev_Mof 374)) (pc := 4) (i := .iload_n 1) (len := 1) (pc' := 5) (lv' := [(0, .ref 0), (1, .int x1), (2, .int x2), (3, .int x3), (4, .int x4), (5, .ref 723)]) (st' := [.int x1, .ref 0, .int (0), .ref 723]) (by decide +kernel) rfl) ?_
  refine ev_go0 (ev_one_pure (M := (ev_Mof 374)) (pc := 5) (i := .iload_n 2) (len := 1) (pc' := 6) (lv' := [(0, .ref 0), (1, .int x1), (2, .int x2), (3, .int x3), (4, .int x4), (5, .ref 723)]) (st' := [.int x2, .int x1, .ref 0, .int (0), .ref 723]) (by decide +kernel) rfl) ?_
  refine ev_go0 (ev_one_pure (M := (ev_Mof 374)) (pc := 6) (i := .iload_n 3) (len := 1) (pc' := 7) (lv' := [(0, .ref 0), (1, .int x1), (2, .int x2), (3, .int x3), (4, .int x4), (5, .ref 723)]) (st' := [.int x3, .int x2, .int x1, .ref 0, .int (0), .ref 723]) (by decide +kernel) rfl) ?_
  refine ev_go0 (ev_one_pure (M := (ev_Mof 374)) (pc := 7) (i := .iload 4) (len := 2) (pc' := 9) (lv' := [(0, .ref 0), (1, .int x1), (2, .int x2), (3, .int x3), (4, .int x4), (5, .ref 723)]) (st' := [.int x4, .int x3, .int x2, .int x1, .ref 0, .int (0), .ref 723]) (by decide +kernel) rfl) ?_
  refine ev_go (ev_p_virtX (M := (ev_Mof 374)) (pc := 9) (x := 50) (t := 17) (mi := 177) (na := 4) (by decide +kernel) (by decide +kernel) (by decide +kernel) (by decide +kernel) rfl rfl (ev_recv_of ev_fH0) (ev_k156 x1 hu_x1 x2 hl_x2 x3 x4) (by decide +kernel)) ?_
  refine ev_go0 (ev_w_astore (M := (ev_Mof 374)) (pc := 17) (k := 6) (lv' := [(6, .retAddr 1), (0, .ref 0), (1, .int x1), (2, .int x2), (3, .int x3), (4, .int x4), (5, .ref 723)]) (by decide +kernel) (by decide +kernel) (Or.inr (Or.inr ⟨_, rfl⟩)) rfl) ?_
  refine ev_go0 (ev_w_iconst (M := (ev_Mof 374)) (pc := 19) (k := 1) (v := 1) (by decide +kernel) (by decide +kernel)) ?_
  rfl
theorem ev_k158 (x1 : Int32) (hu_x1 : x1.toInt ≤ (-1 : Int)) (x2 : Int32) (hl_x2 : (3 : Int) ≤ x2.toInt) (x3 : Int32) (x4 : Int32) {n : Nat} : ev_calld 11 328 [.ref 621, .int x1, .int x2, .int x3, .int x4] ev_H0 n = some (.inl (some (.int (0))), (ev_H0.set 621 (.inr (13, (ev_F621.set 0 (.int (1)))))), n, 0, 0) := by
  refine ev_call_int (k := 11) (pcR := 49) (lv' := [(0, .ref 621), (1, .int x1), (2, .int x2), (3, .int x3), (4, .int x4)]) (v := (0)) (ty := .int) (by decide +kernel) rfl ?_ (by decide +kernel) (by decide +kernel) (by decide +kernel) (by decide)
  show ev_stepn _ 11 (0, [(0, .ref 621), (1, .int x1), (2, .int x2), (3, .int x3), (4, .int x4)], [], _, _, 0, 0) = _
  refine ev_go0 (ev_one_pure (M := (ev_Mof 328)) (pc := 0) (i := .aload_n 0) (len := 1) (pc' := 1) (lv' := [(0, .ref 621), (1, .int x1), (2, .int x2), (3, .int x3), (4, .int x4)]) (st' := [.ref 621]) (by decide +kernel) rfl) ?_
  refine ev_go0 (ev_one_pure (M := (ev_Mof 328)) (pc := 1) (i := .aload_n 0) (len := 1) (pc' := 2) (lv' := [(0, .ref 621), (1, .int x1), (2, .int x2), (3, .int x3), (4, .int x4)]) (st' := [.ref 621, .ref 621]) (by decide +kernel) rfl) ?_
  refine ev_go0 (ev_one_pure (M := (ev_Mof 328)) (pc := 2) (i := .iload_n 1) (len := 1) (pc' := 3) (lv' := [(0, .ref 621), (1, .int x1), (2, .int x2), (3, .int x3), (4, .int x4)]) (st' := [.int x1, .ref 621, .ref 621]) (by decide +kernel) rfl) ?_
  refine ev_go0 (ev_p_virt (M := (ev_Mof 328)) (pc := 3) (x := 531) (mi := 273) (na := 1) (by decide +kernel) (by decide +kernel) (by decide +kernel) (by decide +kernel) rfl rfl (ev_recv_of ev_fH621) (ev_k141 x1 hu_x1)) ?_
  refine ev_go0 (ev_w_if (M := (ev_Mof 328)) (pc := 6) (q := .eq) (o := 31) (b := true) (t := 37) (by decide +kernel) (by decide +kernel) rfl) ?_
  refine ev_go0 (ev_w_iconst (M := (ev_Mof 328)) (pc := 37) (k := 1) (v := 1) (by decide +kernel) (by decide +kernel)) ?_
  refine ev_go0 (ev_p_putf (M := (ev_Mof 328)) (pc := 38) (x := 321) (ci := 13) (f := 0) (by decide +kernel) (by decide +kernel) ev_fH621 rfl (by decide +kernel)) ?_
  refine ev_go0 (ev_one_pure (M := (ev_Mof 328)) (pc := 41) (i := .aload_n 0) (len := 1) (pc' := 42) (lv' := [(0, .ref 621), (1, .int x1), (2, .int x2), (3, .int x3), (4, .int x4)]) (st' := [.ref 621]) (by decide +kernel) rfl) ?_
  refine ev_go0 (ev_p_getf (M := (ev_Mof 328)) (pc := 42) (x := 321) (ci := 13) (f := 0) (fin := 0) (v := .int (1)) (by decide +kernel) (by decide +kernel) (ev_hself ev_fH621) rfl) ?_
  refine ev_go0 (ev_w_if (M := (ev_Mof 328)) (pc := 45) (q := .le) (o := 5) (b := false) (t := 48) (by decide +kernel) (by decide +kernel) rfl) ?_
  refine ev_go0 (ev_w_iconst (M := (ev_Mof 328)) (pc := 48) (k := 0) (v := 0) (by decide +kernel) (by decide +kernel)) ?_
  rfl
theorem ev_k159 (x1 : Int32) (hu_x1 : x1.toInt ≤ (-1 : Int)) (x2 : Int32) (hl_x2 : (3 : Int) ≤ x2.toInt) (x3 : Int32) (x4 : Int32) {n : Nat} : ev_calld 12 329 [.ref 621, .int x1, .int x2, .int x3, .int x4] ev_H0 n = some (.inl (some (.int (0))), (ev_H0.set 621 (.inr (13, (ev_F621.set 0 (.int (1)))))), n, 0, 0) := by
  refine ev_call_int (k := 6) (pcR := 9) (lv' := [(0, .ref 621), (1, .int x1), (2, .int x2), (3, .int x3), (4, .int x4)]) (v := (0)) (ty := .int) (by decide +kernel) rfl ?_ (by decide +kernel) (by decide +kernel) (by decide +kernel) (by decide)
  show ev_stepn _ 6 (0, [(0, .ref 621), (1, .int x1), (2, .int x2), (3, .int x3), (4, .int x4)], [], _, _, 0, 0) = _
  refine ev_go0 (ev_one_pure (M := (ev_Mof 329)) (pc := 0) (i := .aload_n 0) (len := 1) (pc' := 1) (lv' := [(0, .ref 621), (1, .int x1), (2, .int x2), (3, .int x3), (4, .int x4)]) (st' := [.ref 621]) (by decide +kernel) rfl) ?_
  refine ev_go0 (ev_one_pure (M := (ev_Mof 329)) (pc := 1) (i := .iload_n 1) (len := 1) (pc' := 2) (lv' := [(0, .ref 621), (1, .int x1), (2, .int x2), (3, .int x3), (4, .int x4)]) (st' := [.int x1, .ref 621]) (by decide +kernel) rfl) ?_
  refine ev_go0 (ev_one_pure (M := (ev_Mof 329)) (pc := 2) (i := .iload_n 2) (len := 1) (pc' := 3) (lv' := [(0, .ref 621), (1, .int x1), (2, .int x2), (3, .int x3), (4, .int x4)]) (st' := [.int x2, .int x1, .ref 621]) (by decide +kernel) rfl) ?_
  refine ev_go0 (ev_one_pure (M := (ev_Mof 329)) (pc := 3) (i := .iload_n 3) (len := 1) (pc' := 4) (lv' := [(0, .ref 621), (1, .int x1), (2, .int x2), (3, .int x3), (4, .int x4)]) (st' := [.int x3, .int x2, .int x1, .ref 621]) (by decide +kernel) rfl) ?_
  refine ev_go0 (ev_one_pure (M := (ev_Mof 329)) (pc := 4) (i := .iload 4) (len := 2) (pc' := 6) (lv' := [(0, .ref 621), (1, .int x1), (2, .int x2), (3, .int x3), (4, .int x4)]) (st' := [.int x4, .int x3, .int x2, .int x1, .ref 621]) (by decide +kernel) rfl) ?_
  refine ev_go0 (ev_p_virt (M := (ev_Mof 329)) (pc := 6) (x := 732) (mi := 328) (na := 4) (by decide +kernel) (by decide +kernel) (by decide +kernel) (by decide +kernel) rfl rfl (ev_recv_of ev_fH621) (ev_k158 x1 hu_x1 x2 hl_x2 x3 x4)) ?_
  rfl
theorem ev_p1_11_ng (xs : Nat → Int32) (x1 : Int32) (hu_x1 : x1.toInt ≤ (-1 : Int)) (x2 : Int32) (hl_x2 : (3 : Int) ≤ x2.toInt) (x3 : Int32) (x4 : Int32) (e1 : xs 1 = x1) (e2 : xs 2 = x2) (e3 : xs 3 = x3) (e4 : xs 4 = x4) : ev_P1 xs 804 := by
  refine ⟨54, [(6, .int (0)), (5, .int (1)), (4, .int (0)), (3, .ref 723), (2, .ref 621), (1, .ref 0), (0, .retAddr 0)], (ev_H0.set 621 (.inr (13, (ev_F621.set 0 (.int (1)))))), 724, 725, 3553592, ?_, ⟨rfl, rfl, rfl, rfl⟩, rfl, by decide, by decide⟩
  show ev_stepn _ _ (804, [(4, .int (0)), (3, .ref 723), (2, .ref 621), (1, .ref 0), (0, .retAddr 0)], [], _, _, _, _) = _
  refine ev_go0 (ev_one_pure (M := ev_Mlaw) (pc := 804) (i := .aload_n 1) (len := 1) (pc' := 805) (lv' := [(4, .int (0)), (3, .ref 723), (2, .ref 621), (1, .ref 0), (0, .retAddr 0)]) (st' := [.ref 0]) (by decide +kernel) rfl) ?_
  refine ev_go0 (ev_one_pure (M := ev_Mlaw) (pc := 805) (i := .aload_n 0) (len := 1) (pc' := 806) (lv' := [(4, .int (0)), (3, .ref 723), (2, .ref 621), (1, .ref 0), (0, .retAddr 0)]) (st' := [.retAddr 0, .ref 0]) (by decide +kernel) rfl) ?_
  refine ev_go0 (ev_one_pure (M := ev_Mlaw) (pc := 806) (i := .iload 4) (len := 2) (pc' := 808) (lv' := [(4, .int (0)), (3, .ref 723), (2, .ref 621), (1, .ref 0), (0, .retAddr 0)]) (st' := [.int (0), .retAddr 0, .ref 0]) (by decide +kernel) rfl) ?_
  refine ev_go0 (ev_w_iconst (M := ev_Mlaw) (pc := 808) (k := 1) (v := 1) (by decide +kernel) (by decide +kernel)) ?_
  refine ev_go0 (ev_w_iadd (M := ev_Mlaw) (pc := 809) (v := (1)) (by decide +kernel) (by decide +kernel)) ?_
  refine ev_go0 (ev_w_scr (M := ev_Mlaw) (pc := 810) (v := x1) (j := 1) (by decide +kernel) (by decide +kernel) (by decide +kernel) e1) ?_
  refine ev_go0 (ev_one_pure (M := ev_Mlaw) (pc := 811) (i := .aload_n 0) (len := 1) (pc' := 812) (lv' := [(4, .int (0)), (3, .ref 723), (2, .ref 621), (1, .ref 0), (0, .retAddr 0)]) (st' := [.retAddr 0, .int x1, .ref 0]) (by decide +kernel) rfl) ?_
  refine ev_go0 (ev_one_pure (M := ev_Mlaw) (pc := 812) (i := .iload 4) (len := 2) (pc' := 814) (lv' := [(4, .int (0)), (3, .ref 723), (2, .ref 621), (1, .ref 0), (0, .retAddr 0)]) (st' := [.int (0), .retAddr 0, .int x1, .ref 0]) (by decide +kernel) rfl) ?_
  refine ev_go0 (ev_w_iconst (M := ev_Mlaw) (pc := 814) (k := 2) (v := 2) (by decide +kernel) (by decide +kernel)) ?_
  refine ev_go0 (ev_w_iadd (M := ev_Mlaw) (pc := 815) (v := (2)) (by decide +kernel) (by decide +kernel)) ?_
  refine ev_go0 (ev_w_scr (M := ev_Mlaw) (pc := 816) (v := x2) (j := 2) (by decide +kernel) (by decide +kernel) (by decide +kernel) e2) ?_
  refine ev_go0 (ev_one_pure (M := ev_Mlaw) (pc := 817) (i := .aload_n 0) (len := 1) (pc' := 818) (lv' := [(4, .int (0)), (3, .ref 723), (2, .ref 621), (1, .ref 0), (0, .retAddr 0)]) (st' := [.retAddr 0, .int x2, .int x1, .ref 0]) (by decide +kernel) rfl) ?_
  refine ev_go0 (ev_one_pure (M := ev_Mlaw) (pc := 818) (i := .iload 4) (len := 2) (pc' := 820) (lv' := [(4, .int (0)), (3, .ref 723), (2, .ref 621), (1, .ref 0), (0, .retAddr 0)]) (st' := [.int (0), .retAddr 0, .int x2, .int x1, .ref 0]) (by decide +kernel) rfl) ?_
  refine ev_go0 (ev_w_iconst (M := ev_Mlaw) (pc := 820) (k := 3) (v := 3) (by decide +kernel) (by decide +kernel)) ?_
  refine ev_go0 (ev_w_iadd (M := ev_Mlaw) (pc := 821) (v := (3)) (by decide +kernel) (by decide +kernel)) ?_
  refine ev_go0 (ev_w_scr (M := ev_Mlaw) (pc := 822) (v := x3) (j := 3) (by decide +kernel) (by decide +kernel) (by decide +kernel) e3) ?_
  refine ev_go0 (ev_one_pure (M := ev_Mlaw) (pc := 823) (i := .aload_n 0) (len := 1) (pc' := 824) (lv' := [(4, .int (0)), (3, .ref 723), (2, .ref 621), (1, .ref 0), (0, .retAddr 0)]) (st' := [.retAddr 0, .int x3, .int x2, .int x1, .ref 0]) (by decide +kernel) rfl) ?_
  refine ev_go0 (ev_one_pure (M := ev_Mlaw) (pc := 824) (i := .iload 4) (len := 2) (pc' := 826) (lv' := [(4, .int (0)), (3, .ref 723), (2, .ref 621), (1, .ref 0), (0, .retAddr 0)]) (st' := [.int (0), .retAddr 0, .int x3, .int x2, .int x1, .ref 0]) (by decide +kernel) rfl) ?_
  refine ev_go0 (ev_w_iconst (M := ev_Mlaw) (pc := 826) (k := 4) (v := 4) (by decide +kernel) (by decide +kernel)) ?_
  refine ev_go0 (ev_w_iadd (M := ev_Mlaw) (pc := 827) (v := (4)) (by decide +kernel) (by decide +kernel)) ?_
  refine ev_go0 (ev_w_scr (M := ev_Mlaw) (pc := 828) (v := x4) (j := 4) (by decide +kernel) (by decide +kernel) (by decide +kernel) e4) ?_
  refine ev_go0 (ev_one_pure (M := ev_Mlaw) (pc := 829) (i := .aload_n 3) (len := 1) (pc' := 830) (lv' := [(4, .int (0)), (3, .ref 723), (2, .ref 621), (1, .ref 0), (0, .retAddr 0)]) (st' := [.ref 723, .int x4, .int x3, .int x2, .int x1, .ref 0]) (by decide +kernel) rfl) ?_
  refine ev_go (ev_w_stat (M := ev_Mlaw) (pc := 830) (y := 168) (kind := 8) (Or.inr (Or.inr rfl)) (mi := 374) (na := 6) (by decide +kernel) (by decide +kernel) (by decide +kernel) (by decide +kernel) rfl rfl (ev_k157 x1 hu_x1 x2 hl_x2 x3 x4)) ?_
  refine ev_go0 (ev_w_istore (M := ev_Mlaw) (pc := 833) (k := 5) (lv' := [(5, .int (1)), (4, .int (0)), (3, .ref 723), (2, .ref 621), (1, .ref 0), (0, .retAddr 0)]) (by decide +kernel) (by decide +kernel) rfl) ?_
  refine ev_go0 (ev_one_pure (M := ev_Mlaw) (pc := 835) (i := .aload_n 2) (len := 1) (pc' := 836) (lv' := [(5, .int (1)), (4, .int (0)), (3, .ref 723), (2, .ref 621), (1, .ref 0), (0, .retAddr 0)]) (st' := [.ref 621]) (by decide +kernel) rfl) ?_
  refine ev_go0 (ev_one_pure (M := ev_Mlaw) (pc := 836) (i := .aload_n 0) (len := 1) (pc' := 837) (lv' := [(5, .int (1)), (4, .int (0)), (3, .ref 723), (2, .ref 621), (1, .ref 0), (0, .retAddr 0)]) (st' := [.retAddr 0, .ref 621]) (by decide +kernel) rfl) ?_
  refine ev_go0 (ev_one_pure (M := ev_Mlaw) (pc := 837) (i := .iload 4) (len := 2) (pc' := 839) (lv' := [(5, .int (1)), (4, .int (0)), (3, .ref 723), (2, .ref 621), (1, .ref 0), (0, .retAddr 0)]) (st' := [.int (0), .retAddr 0, .ref 621]) (by decide +kernel) rfl) ?_
  refine ev_go0 (ev_w_iconst (M := ev_Mlaw) (pc := 839) (k := 1) (v := 1) (by decide +kernel) (by decide +kernel)) ?_
  refine ev_go0 (ev_w_iadd (M := ev_Mlaw) (pc := 840) (v := (1)) (by decide +kernel) (by decide +kernel)) ?_
  refine ev_go0 (ev_w_scr (M := ev_Mlaw) (pc := 841) (v := x1) (j := 1) (by decide +kernel) (by decide +kernel) (by decide +kernel) e1) ?_
  refine ev_go0 (ev_one_pure (M := ev_Mlaw) (pc := 842) (i := .aload_n 0) (len := 1) (pc' := 843) (lv' := [(5, .int (1)), (4, .int (0)), (3, .ref 723), (2, .ref 621), (1, .ref 0), (0, .retAddr 0)]) (st' := [.retAddr 0, .int x1, .ref 621]) (by decide +kernel) rfl) ?_
  refine ev_go0 (ev_one_pure (M := ev_Mlaw) (pc := 843) (i := .iload 4) (len := 2) (pc' := 845) (lv' := [(5, .int (1)), (4, .int (0)), (3, .ref 723), (2, .ref 621), (1, .ref 0), (0, .retAddr 0)]) (st' := [.int (0), .retAddr 0, .int x1, .ref 621]) (by decide +kernel) rfl) ?_
  refine ev_go0 (ev_w_iconst (M := ev_Mlaw) (pc := 845) (k := 2) (v := 2) (by decide +kernel) (by decide +kernel)) ?_
  refine ev_go0 (ev_w_iadd (M := ev_Mlaw) (pc := 846) (v := (2)) (by decide +kernel) (by decide +kernel)) ?_
  refine ev_go0 (ev_w_scr (M := ev_Mlaw) (pc := 847) (v := x2) (j := 2) (by decide +kernel) (by decide +kernel) (by decide +kernel) e2) ?_
  refine ev_go0 (ev_one_pure (M := ev_Mlaw) (pc := 848) (i := .aload_n 0) (len := 1) (pc' := 849) (lv' := [(5, .int (1)), (4, .int (0)), (3, .ref 723), (2, .ref 621), (1, .ref 0), (0, .retAddr 0)]) (st' := [.retAddr 0, .int x2, .int x1, .ref 621]) (by decide +kernel) rfl) ?_
  refine ev_go0 (ev_one_pure (M := ev_Mlaw) (pc := 849) (i := .iload 4) (len := 2) (pc' := 851) (lv' := [(5, .int (1)), (4, .int (0)), (3, .ref 723), (2, .ref 621), (1, .ref 0), (0, .retAddr 0)]) (st' := [.int (0), .retAddr 0, .int x2, .int x1, .ref 621]) (by decide +kernel) rfl) ?_
  refine ev_go0 (ev_w_iconst (M := ev_Mlaw) (pc := 851) (k := 3) (v := 3) (by decide +kernel) (by decide +kernel)) ?_
  refine ev_go0 (ev_w_iadd (M := ev_Mlaw) (pc := 852) (v := (3)) (by decide +kernel) (by decide +kernel)) ?_
  refine ev_go0 (ev_w_scr (M := ev_Mlaw) (pc := 853) (v := x3) (j := 3) (by decide +kernel) (by decide +kernel) (by decide +kernel) e3) ?_
  refine ev_go0 (ev_one_pure (M := ev_Mlaw) (pc := 854) (i := .aload_n 0) (len := 1) (pc' := 855) (lv' := [(5, .int (1)), (4, .int (0)), (3, .ref 723), (2, .ref 621), (1, .ref 0), (0, .retAddr 0)]) (st' := [.retAddr 0, .int x3, .int x2, .int x1, .ref 621]) (by decide +kernel) rfl) ?_
  refine ev_go0 (ev_one_pure (M := ev_Mlaw) (pc := 855) (i := .iload 4) (len := 2) (pc' := 857) (lv' := [(5, .int (1)), (4, .int (0)), (3, .ref 723), (2, .ref 621), (1, .ref 0), (0, .retAddr 0)]) (st' := [.int (0), .retAddr 0, .int x3, .int x2, .int x1, .ref 621]) (by decide +kernel) rfl) ?_
  refine ev_go0 (ev_w_iconst (M := ev_Mlaw) (pc := 857) (k := 4) (v := 4) (by decide +kernel) (by decide +kernel)) ?_
  refine ev_go0 (ev_w_iadd (M := ev_Mlaw) (pc := 858) (v := (4)) (by decide +kernel) (by decide +kernel)) ?_
  refine ev_go0 (ev_w_scr (M := ev_Mlaw) (pc := 859) (v := x4) (j := 4) (by decide +kernel) (by decide +kernel) (by decide +kernel) e4) ?_
  refine ev_go0 (ev_p_virt (M := ev_Mlaw) (pc := 860) (x := 170) (mi := 329) (na := 4) (by decide +kernel) (by decide +kernel) (by decide +kernel) (by decide +kernel) rfl rfl (ev_recv_of ev_fH621) (ev_k159 x1 hu_x1 x2 hl_x2 x3 x4)) ?_
  refine ev_go0 (ev_w_istore (M := ev_Mlaw) (pc := 863) (k := 6) (lv' := [(6, .int (0)), (5, .int (1)), (4, .int (0)), (3, .ref 723), (2, .ref 621), (1, .ref 0), (0, .retAddr 0)]) (by decide +kernel) (by decide +kernel) rfl) ?_
  refine ev_go0 (ev_one_pure (M := ev_Mlaw) (pc := 865) (i := .aload_n 2) (len := 1) (pc' := 866) (lv' := [(6, .int (0)), (5, .int (1)), (4, .int (0)), (3, .ref 723), (2, .ref 621), (1, .ref 0), (0, .retAddr 0)]) (st' := [.ref 621]) (by decide +kernel) rfl) ?_
  refine ev_go0 (ev_p_virt (M := ev_Mlaw) (pc := 866) (x := 131) (mi := 220) (na := 0) (by decide +kernel) (by decide +kernel) (by decide +kernel) (by decide +kernel) rfl rfl (ev_recv_of (ev_hself ev_fH621)) ev_k26) ?_
  refine ev_go0 (ev_one_pure (M := ev_Mlaw) (pc := 869) (i := .iload 5) (len := 2) (pc' := 871) (lv' := [(6, .int (0)), (5, .int (1)), (4, .int (0)), (3, .ref 723), (2, .ref 621), (1, .ref 0), (0, .retAddr 0)]) (st' := [.int (1), .int (1)]) (by decide +kernel) rfl) ?_
  refine ev_go0 (ev_w_icmp (M := ev_Mlaw) (pc := 871) (q := .eq) (o := 5) (b := true) (t := 876) (by decide +kernel) (by decide +kernel) rfl) ?_
  refine ev_go0 (ev_one_pure (M := ev_Mlaw) (pc := 876) (i := .iload 5) (len := 2) (pc' := 878) (lv' := [(6, .int (0)), (5, .int (1)), (4, .int (0)), (3, .ref 723), (2, .ref 621), (1, .ref 0), (0, .retAddr 0)]) (st' := [.int (1)]) (by decide +kernel) rfl) ?_
  refine ev_go0 (ev_w_if (M := ev_Mlaw) (pc := 878) (q := .ne) (o := 15) (b := true) (t := 893) (by decide +kernel) (by decide +kernel) rfl) ?_
  refine ev_go0 (ev_one_pure (M := ev_Mlaw) (pc := 893) (i := .goto 1379) (len := 3) (pc' := 2272) (lv' := [(6, .int (0)), (5, .int (1)), (4, .int (0)), (3, .ref 723), (2, .ref 621), (1, .ref 0), (0, .retAddr 0)]) (st' := []) (by decide +kernel) rfl) ?_
  rfl
theorem ev_k160 (x1 : Int32) (hl_x1 : (0 : Int) ≤ x1.toInt) (x2 : Int32) (hu_x2 : x2.toInt ≤ (-1 : Int)) (x3 : Int32) (x4 : Int32) {n : Nat} : ev_calld 11 177 [.ref 0, .int x1, .int x2, .int x3, .int x4] ev_H0 n = some (.inr "java/lang/IndexOutOfBoundsException", ev_H0, n, 1, 6) := by
  refine ev_call_thrown (k := 7) (pcR := 12) (x := 160) (lv' := [(0, .ref 0), (1, .int x1), (2, .int x2), (3, .int x3), (4, .int x4)]) (by decide +kernel) rfl ?_ (by decide +kernel) (by decide +kernel) (by decide +kernel) (by decide) (by decide)
  show ev_stepn _ 7 (0, [(0, .ref 0), (1, .int x1), (2, .int x2), (3, .int x3), (4, .int x4)], [], _, _, 0, 0) = _
  refine ev_go0 (ev_one_pure (M := (ev_Mof 177)) (pc := 0) (i := .aload_n 0) (len := 1) (pc' := 1) (lv' := [(0, .ref 0), (1, .int x1), (2, .int x2), (3, .int x3), (4, .int x4)]) (st' := [.ref 0]) (by decide +kernel) rfl) ?_
  refine ev_go0 (ev_one_pure (M := (ev_Mof 177)) (pc := 1) (i := .iload_n 1) (len := 1) (pc' := 2) (lv' := [(0, .ref 0), (1, .int x1), (2, .int x2), (3, .int x3), (4, .int x4)]) (st' := [.int x1, .ref 0]) (by decide +kernel) rfl) ?_
  refine ev_go0 (ev_one_pure (M := (ev_Mof 177)) (pc := 2) (i := .iload_n 2) (len := 1) (pc' := 3) (lv' := [(0, .ref 0), (1, .int x1), (2, .int x2), (3, .int x3), (4, .int x4)]) (st' := [.int x2, .int x1, .ref 0]) (by decide +kernel) rfl) ?_
  refine ev_go0 (ev_one_pure (M := (ev_Mof 177)) (pc := 3) (i := .iload_n 3) (len := 1) (pc' := 4) (lv' := [(0, .ref 0), (1, .int x1), (2, .int x2), (3, .int x3), (4, .int x4)]) (st' := [.int x3, .int x2, .int x1, .ref 0]) (by decide +kernel) rfl) ?_
  refine ev_go0 (ev_one_pure (M := (ev_Mof 177)) (pc := 4) (i := .iload 4) (len := 2) (pc' := 6) (lv' := [(0, .ref 0), (1, .int x1), (2, .int x2), (3, .int x3), (4, .int x4)]) (st' := [.int x4, .int x3, .int x2, .int x1, .ref 0]) (by decide +kernel) rfl) ?_
  refine ev_go0 (ev_p_virt (M := (ev_Mof 177)) (pc := 6) (x := 205) (mi := 203) (na := 4) (by decide +kernel) (by decide +kernel) (by decide +kernel) (by decide +kernel) rfl rfl (ev_recv_of ev_fH0) (ev_k118 x1 hl_x1 x2 hu_x2 x3 x4)) ?_
  refine ev_go0 (ev_w_if (M := (ev_Mof 177)) (pc := 9) (q := .ne) (o := 13) (b := false) (t := 12) (by decide +kernel) (by decide +kernel) rfl) ?_
  rfl
theorem ev_k161 (x1 : Int32) (hl_x1 : (0 : Int) ≤ x1.toInt) (x2 : Int32) (hu_x2 : x2.toInt ≤ (-1 : Int)) (x3 : Int32) (x4 : Int32) {n : Nat} : ev_calld 12 374 [.ref 0, .int x1, .int x2, .int x3, .int x4, .ref 723] ev_H0 n = some (.inl (some (.int (1))), ev_H0, n, 1, 6) := by
  refine ev_call_int (k := 10) (pcR := 20) (lv' := [(6, .retAddr 1), (0, .ref 0), (1, .int x1), (2, .int x2), (3, .int x3), (4, .int x4), (5, .ref 723)]) (v := (1)) (ty := .int) (by decide +kernel) rfl ?_ (by decide +kernel) (by decide +kernel) (by decide +kernel) (by decide)
  show ev_stepn _ 10 (0, [(0, .ref 0), (1, .int x1), (2, .int x2), (3, .int x3), (4, .int x4), (5, .ref 723)], [], _, _, 0, 0) = _
  refine ev_go0 (ev_one_pure (M := (ev_Mof 374)) (pc := 0) (i := .aload 5) (len := 2) (pc' := 2) (lv' := [(0, .ref 0), (1, .int x1), (2, .int x2), (3, .int x3), (4, .int x4), (5, .ref 723)]) (st' := [.ref 723]) (by decide +kernel) rfl) ?_
  refine ev_go0 (ev_w_iconst (M := (ev_Mof 374)) (pc := 2) (k := 0) (v := 0) (by decide +kernel) (by decide +kernel)) ?_
  refine ev_go0 (ev_one_pure (M := (ev_Mof 374)) (pc := 3) (i := .aload_n 0) (len := 1) (pc' := 4) (lv' := [(0, .ref 0), (1, .int x1), (2, .int x2), (3, .int x3), (4, .int x4), (5, .ref 723)]) (st' := [.ref 0, .int (0), .ref 723]) (by decide +kernel) rfl) ?_
  refine ev_go0 (ev_one_pure (M := (ev_Mof 374)) (pc := 4) (i := .iload_n 1) (len := 1) (pc' := 5) (lv' := [(0, .ref 0), (1, .int x1), (2, .int x2), (3, .int x3), (4, .int x4), (5, .ref 723)]) (st' := [.int x1, .ref 0, .int (0), .ref 723]) (by decide +kernel) rfl) ?_
  refine ev_go0 (ev_one_pure (M := (ev_Mof 374)) (pc := 5) (i := .iload_n 2) (len := 1) (pc' := 6) (lv' := [(0, .ref 0), (1, .int x1), (2, .int x2), (3, .int x3), (4, .int x4), (5, .ref 723)]) (st' := [.int x2, .int x1, .ref 0, .int (0), .ref 723]) (by decide +kernel) rfl) ?_
  refine ev_go0 (ev_one_pure (M := (ev_Mof 374)) (pc := 6) (i := .iload_n 3) (len := 1) (pc' := 7) (lv' := [(0, .ref 0), (1, .int x1), (2, .int x2), (3, .int x3), (4, .int x4), (5, .ref 723)]) (st' := [.int x3, .int x2, .int x1, .ref 0, .int (0), .ref 723]) (by decide +kernel) rfl) ?_
  refine ev_go0 (ev_one_pure (M := (ev_Mof 374)) (pc := 7) (i := .iload 4) (len := 2) (pc' := 9) (lv' := [(0, .ref 0), (1, .int x1), (2, .int x2), (3, .int x3), (4, .int x4), (5, .ref 723)]) (st' := [.int x4, .int x3, .int x2, .int x1, .ref 0, .int (0), .ref 723]) (by decide +kernel) rfl) ?_
  refine ev_go (ev_p_virtX (M := (ev_Mof 374)) (pc := 9) (x := 50) (t := 17) (mi := 177) (na := 4) (by decide +kernel) (by decide +kernel) (by decide +kernel) (by decide +kernel) rfl rfl (ev_recv_of ev_fH0) (ev_k160 x1 hl_x1 x2 hu_x2 x3 x4) (by decide +kernel)) ?_
  refine ev_go0 (ev_w_astore (M := (ev_Mof 374)) (pc := 17) (k := 6) (lv' := [(6, .retAddr 1), (0, .ref 0), (1, .int x1), (2, .int x2), (3, .int x3), (4, .int x4), (5, .ref 723)]) (by decide +kernel) (by decide +kernel) (Or.inr (Or.inr ⟨_, rfl⟩)) rfl) ?_
  refine ev_go0 (ev_w_iconst (M := (ev_Mof 374)) (pc := 19) (k := 1) (v := 1) (by decide +kernel) (by decide +kernel)) ?_
  rfl
theorem ev_k162 (x1 : Int32) (hl_x1 : (0 : Int) ≤ x1.toInt) {n : Nat} : ev_calld 9 222 [.int x1, .int (0), .int (-1)] ev_H0 n = some (.inl (some (.int (0))), ev_H0, n, 0, 0) := by
  refine ev_call_int (k := 7) (pcR := 15) (lv' := [(0, .int x1), (1, .int (0)), (2, .int (-1))]) (v := (0)) (ty := .boolean) (by decide +kernel) rfl ?_ (by decide +kernel) (by decide +kernel) (by decide +kernel) (by decide)
  show ev_stepn _ 7 (0, [(0, .int x1), (1, .int (0)), (2, .int (-1))], [], _, _, 0, 0) = _
  refine ev_go0 (ev_one_pure (M := (ev_Mof 222)) (pc := 0) (i := .iload_n 0) (len := 1) (pc' := 1) (lv' := [(0, .int x1), (1, .int (0)), (2, .int (-1))]) (st' := [.int x1]) (by decide +kernel) rfl) ?_
  refine ev_go0 (ev_one_pure (M := (ev_Mof 222)) (pc := 1) (i := .iload_n 1) (len := 1) (pc' := 2) (lv' := [(0, .int x1), (1, .int (0)), (2, .int (-1))]) (st' := [.int (0), .int x1]) (by decide +kernel) rfl) ?_
  refine ev_go0 (ev_w_icmp (M := (ev_Mof 222)) (pc := 2) (q := .lt) (o := 12) (b := false) (t := 5) (by decide +kernel) (ev_c_lt0 hl_x1 (by decide +kernel)) rfl) ?_
  refine ev_go0 (ev_one_pure (M := (ev_Mof 222)) (pc := 5) (i := .iload_n 0) (len := 1) (pc' := 6) (lv' := [(0, .int x1), (1, .int (0)), (2, .int (-1))]) (st' := [.int x1]) (by decide +kernel) rfl) ?_
  refine ev_go0 (ev_one_pure (M := (ev_Mof 222)) (pc := 6) (i := .iload_n 2) (len := 1) (pc' := 7) (lv' := [(0, .int x1), (1, .int (0)), (2, .int (-1))]) (st' := [.int (-1), .int x1]) (by decide +kernel) rfl) ?_
  refine ev_go0 (ev_w_icmp (M := (ev_Mof 222)) (pc := 7) (q := .gt) (o := 7) (b := true) (t := 14) (by decide +kernel) (ev_c_gt1 hl_x1 (by decide +kernel)) rfl) ?_
  refine ev_go0 (ev_w_iconst (M := (ev_Mof 222)) (pc := 14) (k := 0) (v := 0) (by decide +kernel) (by decide +kernel)) ?_
  rfl
theorem ev_k163 (x1 : Int32) (hl_x1 : (0 : Int) ≤ x1.toInt) {n : Nat} : ev_calld 10 273 [.ref 621, .int x1] ev_H0 n = some (.inl (some (.int (0))), ev_H0, n, 0, 0) := by
  refine ev_call_int (k := 7) (pcR := 11) (lv' := [(0, .ref 621), (1, .int x1)]) (v := (0)) (ty := .boolean) (by decide +kernel) rfl ?_ (by decide +kernel) (by decide +kernel) (by decide +kernel) (by decide)
  show ev_stepn _ 7 (0, [(0, .ref 621), (1, .int x1)], [], _, _, 0, 0) = _
  refine ev_go0 (ev_one_pure (M := (ev_Mof 273)) (pc := 0) (i := .iload_n 1) (len := 1) (pc' := 1) (lv' := [(0, .ref 621), (1, .int x1)]) (st' := [.int x1]) (by decide +kernel) rfl) ?_
  refine ev_go0 (ev_w_iconst (M := (ev_Mof 273)) (pc := 1) (k := 0) (v := 0) (by decide +kernel) (by decide +kernel)) ?_
  refine ev_go0 (ev_one_pure (M := (ev_Mof 273)) (pc := 2) (i := .aload_n 0) (len := 1) (pc' := 3) (lv' := [(0, .ref 621), (1, .int x1)]) (st' := [.ref 621, .int (0), .int x1]) (by decide +kernel) rfl) ?_
  refine ev_go0 (ev_p_getf (M := (ev_Mof 273)) (pc := 3) (x := 525) (ci := 13) (f := 5) (fin := 0) (v := .int (0)) (by decide +kernel) (by decide +kernel) ev_fH621 rfl) ?_
  refine ev_go0 (ev_w_iconst (M := (ev_Mof 273)) (pc := 6) (k := 1) (v := 1) (by decide +kernel) (by decide +kernel)) ?_
  refine ev_go0 (ev_w_isub (M := (ev_Mof 273)) (pc := 7) (v := (-1)) (by decide +kernel) (by decide +kernel)) ?_
  refine ev_go0 (ev_w_stat (M := (ev_Mof 273)) (pc := 8) (y := 325) (kind := 2) (Or.inl rfl) (mi := 222) (na := 3) (by decide +kernel) (by decide +kernel) (by decide +kernel) (by decide +kernel) rfl rfl (ev_k162 x1 hl_x1)) ?_
  rfl
theorem ev_k164 (x1 : Int32) (hl_x1 : (0 : Int) ≤ x1.toInt) (x2 : Int32) (hu_x2 : x2.toInt ≤ (-1 : Int)) (x3 : Int32) (x4 : Int32) {n : Nat} : ev_calld 11 328 [.ref 621, .int x1, .int x2, .int x3, .int x4] ev_H0 n = some (.inl (some (.int (0))), (ev_H0.set 621 (.inr (13, (ev_F621.set 0 (.int (1)))))), n, 0, 0) := by
  refine ev_call_int (k := 11) (pcR := 49) (lv' := [(0, .ref 621), (1, .int x1), (2, .int x2), (3, .int x3), (4, .int x4)]) (v := (0)) (ty := .int) (by decide +kernel) rfl ?_ (by decide +kernel) (by decide +kernel) (by decide +kernel) (by decide)
  show ev_stepn _ 11 (0, [(0, .ref 621), (1, .int x1), (2, .int x2), (3, .int x3), (4, .int x4)], [], _, _, 0, 0) = _
  refine ev_go0 (ev_one_pure (M := (ev_Mof 328)) (pc := 0) (i := .aload_n 0) (len := 1) (pc' := 1) (lv' := [(0, .ref 621), (1, .int x1), (2, .int x2), (3, .int x3), (4, .int x4)]) (st' := [.ref 621]) (by decide +kernel) rfl) ?_
  refine ev_go0 (ev_one_pure (M := (ev_Mof 328)) (pc := 1) (i := .aload_n 0) (len := 1) (pc' := 2) (lv' := [(0, .ref 621), (1, .int x1), (2, .int x2), (3, .int x3), (4, .int x4)]) (st' := [.ref 621, .ref 621]) (by decide +kernel) rfl) ?_
  refine ev_go0 (ev_one_pure (M := (ev_Mof 328)) (pc := 2) (i := .iload_n 1) (len := 1) (pc' := 3) (lv' := [(0, .ref 621), (1, .int x1), (2, .int x2), (3, .int x3), (4, .int x4)]) (st' := [.int x1, .ref 621, .ref 621]) (by decide +kernel) rfl) ?_
  refine ev_go0 (ev_p_virt (M := (ev_Mof 328)) (pc := 3) (x := 531) (mi := 273) (na := 1) (by decide +kernel) (by decide +kernel) (by decide +kernel) (by decide +kernel) rfl rfl (ev_recv_of ev_fH621) (ev_k163 x1 hl_x1)) ?_
  refine ev_go0 (ev_w_if (M := (ev_Mof 328)) (pc := 6) (q := .eq) (o := 31) (b := true) (t := 37) (by decide +kernel) (by decide +kernel) rfl) ?_
  refine ev_go0 (ev_w_iconst (M := (ev_Mof 328)) (pc := 37) (k := 1) (v := 1) (by decide +kernel) (by decide +kernel)) ?_
  refine ev_go0 (ev_p_putf (M := (ev_Mof 328)) (pc := 38) (x := 321) (ci := 13) (f := 0) (by decide +kernel) (by decide +kernel) ev_fH621 rfl (by decide +kernel)) ?_
  refine ev_go0 (ev_one_pure (M := (ev_Mof 328)) (pc := 41) (i := .aload_n 0) (len := 1) (pc' := 42) (lv' := [(0, .ref 621), (1, .int x1), (2, .int x2), (3, .int x3), (4, .int x4)]) (st' := [.ref 621]) (by decide +kernel) rfl) ?_
  refine ev_go0 (ev_p_getf (M := (ev_Mof 328)) (pc := 42) (x := 321) (ci := 13) (f := 0) (fin := 0) (v := .int (1)) (by decide +kernel) (by decide +kernel) (ev_hself ev_fH621) rfl) ?_
  refine ev_go0 (ev_w_if (M := (ev_Mof 328)) (pc := 45) (q := .le) (o := 5) (b := false) (t := 48) (by decide +kernel) (by decide +kernel) rfl) ?_
  refine ev_go0 (ev_w_iconst (M := (ev_Mof 328)) (pc := 48) (k := 0) (v := 0) (by decide +kernel) (by decide +kernel)) ?_
  rfl
theorem ev_k165 (x1 : Int32) (hl_x1 : (0 : Int) ≤ x1.toInt) (x2 : Int32) (hu_x2 : x2.toInt ≤ (-1 : Int)) (x3 : Int32) (x4 : Int32) {n : Nat} : ev_calld 12 329 [.ref 621, .int x1, .int x2, .int x3, .int x4] ev_H0 n = some (.inl (some (.int (0))), (ev_H0.set 621 (.inr (13, (ev_F621.set 0 (.int (1)))))), n, 0, 0) := by
  refine ev_call_int (k := 6) (pcR := 9) (lv' := [(0, .ref 621), (1, .int x1), (2, .int x2), (3, .int x3), (4, .int x4)]) (v := (0)) (ty := .int) (by decide +kernel) rfl ?_ (by decide +kernel) (by decide +kernel) (by decide +kernel) (by decide)
  show ev_stepn _ 6 (0, [(0, .ref 621), (1, .int x1), (2, .int x2), (3, .int x3), (4, .int x4)], [], _, _, 0, 0) = _
  refine ev_go0 (ev_one_pure (M := (ev_Mof 329)) (pc := 0) (i := .aload_n 0) (len := 1) (pc' := 1) (lv' := [(0, .ref 621), (1, .int x1), (2, .int x2), (3, .int x3), (4, .int x4)]) (st' := [.ref 621]) (by decide +kernel) rfl) ?_
  refine ev_go0 (ev_one_pure (M := (ev_Mof 329)) (pc := 1) (i := .iload_n 1) (len := 1) (pc' := 2) (lv' := [(0, .ref 621), (1, .int x1), (2, .int x2), (3, .int x3), (4, .int x4)]) (st' := [.int x1, .ref 621]) (by decide +kernel) rfl) ?_
  refine ev_go0 (ev_one_pure (M := (ev_Mof 329)) (pc := 2) (i := .iload_n 2) (len := 1) (pc' := 3) (lv' := [(0, .ref 621), (1, .int x1), (2, .int x2), (3, .int x3), (4, .int x4)]) (st' := [.int x2, .int x1, .ref 621]) (by decide +kernel) rfl) ?_
  refine ev_go0 (ev_one_pure (M := (ev_Mof 329)) (pc := 3) (i := .iload_n 3) (len := 1) (pc' := 4) (lv' := [(0, .ref 621), (1, .int x1), (2, .int x2), (3, .int x3), (4, .int x4)]) (st' := [.int x3, .int x2, .int x1, .ref 621]) (by decide +kernel) rfl) ?_
  refine ev_go0 (ev_one_pure (M := (ev_Mof 329)) (pc := 4) (i := .iload 4) (len := 2) (pc' := 6) (lv' := [(0, .ref 621), (1, .int x1), (2, .int x2), (3, .int x3), (4, .int x4)]) (st' := [.int x4, .int x3, .int x2, .int x1, .ref 621]) (by decide +kernel) rfl) ?_
  refine ev_go0 (ev_p_virt (M := (ev_Mof 329)) (pc := 6) (x := 732) (mi := 328) (na := 4) (by decide +kernel) (by decide +kernel) (by decide +kernel) (by decide +kernel) rfl rfl (ev_recv_of ev_fH621) (ev_k164 x1 hl_x1 x2 hu_x2 x3 x4)) ?_
  rfl
theorem ev_p1_11_pn (xs : Nat → Int32) (x1 : Int32) (hl_x1 : (0 : Int) ≤ x1.toInt) (x2 : Int32) (hu_x2 : x2.toInt ≤ (-1 : Int)) (x3 : Int32) (x4 : Int32) (e1 : xs 1 = x1) (e2 : xs 2 = x2) (e3 : xs 3 = x3) (e4 : xs 4 = x4) : ev_P1 xs 804 := by
  refine ⟨54, [(6, .int (0)), (5, .int (1)), (4, .int (0)), (3, .ref 723), (2, .ref 621), (1, .ref 0), (0, .retAddr 0)], (ev_H0.set 621 (.inr (13, (ev_F621.set 0 (.int (1)))))), 724, 725, 3553592, ?_, ⟨rfl, rfl, rfl, rfl⟩, rfl, by decide, by decide⟩
  show ev_stepn _ _ (804, [(4, .int (0)), (3, .ref 723), (2, .ref 621), (1, .ref 0), (0, .retAddr 0)], [], _, _, _, _) = _
  refine ev_go0 (ev_one_pure (M := ev_Mlaw) (pc := 804) (i := .aload_n 1) (len := 1) (pc' := 805) (lv' := [(4, .int (0)), (3, .ref 723), (2, .ref 621), (1, .ref 0), (0, .retAddr 0)]) (st' := [.ref 0]) (by decide +kernel) rfl) ?_
  refine ev_go0 (ev_one_pure (M := ev_Mlaw) (pc := 805) (i := .aload_n 0) (len := 1) (pc' := 806) (lv' := [(4, .int (0)), (3, .ref 723), (2, .ref 621), (1, .ref 0), (0, .retAddr 0)]) (st' := [.retAddr 0, .ref 0]) (by decide +kernel) rfl) ?_
  refine ev_go0 (ev_one_pure (M := ev_Mlaw) (pc := 806) (i := .iload 4) (len := 2) (pc' := 808) (lv' := [(4, .int (0)), (3, .ref 723), (2, .ref 621), (1, .ref 0), (0, .retAddr 0)]) (st' := [.int (0), .retAddr 0, .ref 0]) (by decide +kernel) rfl) ?_
  refine ev_go0 (ev_w_iconst (M := ev_Mlaw) (pc := 808) (k := 1) (v := 1) (by decide +kernel) (by decide +kernel)) ?_
  refine ev_go0 (ev_w_iadd (M := ev_Mlaw) (pc := 809) (v := (1)) (by decide +kernel) (by decide +kernel)) ?_
  refine ev_go0 (ev_w_scr (M := ev_Mlaw) (pc := 810) (v := x1) (j := 1) (by decide +kernel) (by decide +kernel) (by decide +kernel) e1) ?_
  refine ev_go0 (ev_one_pure (M := ev_Mlaw) (pc := 811) (i := .aload_n 0) (len := 1) (pc' := 812) (lv' := [(4, .int (0)), (3, .ref 723), (2, .ref 621), (1, .ref 0), (0, .retAddr 0)]) (st' := [.retAddr 0, .int x1, .ref 0]) (by decide +kernel) rfl) ?_
  refine ev_go0 (ev_one_pure (M := ev_Mlaw) (pc := 812) (i := .iload 4) (len := 2) (pc' := 814) (lv' := [(4, .int (0)), (3, .ref 723), (2, .ref 621), (1, .ref 0), (0, .retAddr 0)]) (st' := [.int (0), .retAddr 0, .int x1, .ref 0]) (by decide +kernel) rfl) ?_
  refine ev_go0 (ev_w_iconst (M := ev_Mlaw) (pc := 814) (k := 2) (v := 2) (by decide +kernel) (by decide +kernel)) ?_
  refine ev_go0 (ev_w_iadd (M := ev_Mlaw) (pc := 815) (v := (2)) (by decide +kernel) (by decide +kernel)) ?_
  refine ev_go0 (ev_w_scr (M := ev_Mlaw) (pc := 816) (v := x2) (j := 2) (by decide +kernel) (by decide +kernel) (by decide +kernel) e2) ?_
  refine ev_go0 (ev_one_pure (M := ev_Mlaw) (pc := 817) (i := .aload_n 0) (len := 1) (pc' := 818) (lv' := [(4, .int (0)), (3, .ref 723), (2, .ref 621), (1, .ref 0), (0, .retAddr 0)]) (st' := [.retAddr 0, .int x2, .int x1, .ref 0]) (by decide +kernel) rfl) ?_
  refine ev_go0 (ev_one_pure (M := ev_Mlaw) (pc := 818) (i := .iload 4) (len := 2) (pc' := 820) (lv' := [(4, .int (0)), (3, .ref 723), (2, .ref 621), (1, .ref 0), (0, .retAddr 0)]) (st' := [.int (0), .retAddr 0, .int x2, .int x1, .ref 0]) (by decide +kernel) rfl) ?_
  refine ev_go0 (ev_w_iconst (M := ev_Mlaw) (pc := 820) (k := 3) (v := 3) (by decide +kernel) (by decide +kernel)) ?_
  refine ev_go0 (ev_w_iadd (M := ev_Mlaw) (pc := 821) (v := (3)) (by decide +kernel) (by decide +kernel)) ?_
  refine ev_go0 (ev_w_scr (M := ev_Mlaw) (pc := 822) (v := x3) (j := 3) (by decide +kernel) (by decide +kernel) (by decide +kernel) e3) ?_
  refine ev_go0 (ev_one_pure (M := ev_Mlaw) (pc := 823) (i := .aload_n 0) (len := 1) (pc' := 824) (lv' := [(4, .int (0)), (3, .ref 723), (2, .ref 621), (1, .ref 0), (0, .retAddr 0)]) (st' := [.retAddr 0, .int x3, .int x2, .int x1, .ref 0]) (by decide +kernel) rfl) ?_
  refine ev_go0 (ev_one_pure (M := ev_Mlaw) (pc := 824) (i := .iload 4) (len := 2) (pc' := 826) (lv' := [(4, .int (0)), (3, .ref 723), (2, .ref 621), (1, .ref 0), (0, .retAddr 0)]) (st' := [.int (0), .retAddr 0, .int x3, .int x2, .int x1, .ref 0]) (by decide +kernel) rfl) ?_
  refine ev_go0 (ev_w_iconst (M := ev_Mlaw) (pc := 826) (k := 4) (v := 4) (by decide +kernel) (by decide +kernel)) ?_
  refine ev_go0 (ev_w_iadd (M := ev_Mlaw) (pc := 827) (v := (4)) (by decide +kernel) (by decide +kernel)) ?_
  refine ev_go0 (ev_w_scr (M := ev_Mlaw) (pc := 828) (v := x4) (j := 4) (by decide +kernel) (by decide +kernel) (by decide +kernel) e4) ?_
  refine ev_go0 (ev_one_pure (M := ev_Mlaw) (pc := 829) (i := .aload_n 3) (len := 1) (pc' := 830) (lv' := [(4, .int (0)), (3, .ref 723), (2, .ref 621), (1, .ref 0), (0, .retAddr 0)]) (st' := [.ref 723, .int x4, .int x3, .int x2, .int x1, .ref 0]) (by decide +kernel) rfl) ?_
  refine ev_go (ev_w_stat (M := ev_Mlaw) (pc := 830) (y := 168) (kind := 8) (Or.inr (Or.inr rfl)) (mi := 374) (na := 6) (by decide +kernel) (by decide +kernel) (by decide +kernel) (by decide +kernel) rfl rfl (ev_k161 x1 hl_x1 x2 hu_x2 x3 x4)) ?_
  refine ev_go0 (ev_w_istore (M := ev_Mlaw) (pc := 833) (k := 5) (lv' := [(5, .int (1)), (4, .int (0)), (3, .ref 723), (2, .ref 621), (1, .ref 0), (0, .retAddr 0)]) (by decide +kernel) (by decide +kernel) rfl) ?_
  refine ev_go0 (ev_one_pure (M := ev_Mlaw) (pc := 835) (i := .aload_n 2) (len := 1) (pc' := 836) (lv' := [(5, .int (1)), (4, .int (0)), (3, .ref 723), (2, .ref 621), (1, .ref 0), (0, .retAddr 0)]) (st' := [.ref 621]) (by decide +kernel) rfl) ?_
  refine ev_go0 (ev_one_pure (M := ev_Mlaw) (pc := 836) (i := .aload_n 0) (len := 1) (pc' := 837) (lv' := [(5, .int (1)), (4, .int (0)), (3, .ref 723), (2, .ref 621), (1, .ref 0), (0, .retAddr 0)]) (st' := [.retAddr 0, .ref 621]) (by decide +kernel) rfl) ?_
  refine ev_go0 (ev_one_pure (M := ev_Mlaw) (pc := 837) (i := .iload 4) (len := 2) (pc' := 839) (lv' := [(5, .int (1)), (4, .int (0)), (3, .ref 723), (2, .ref 621), (1, .ref 0), (0, .retAddr 0)]) (st' := [.int (0), .retAddr 0, .ref 621]) (by decide +kernel) rfl) ?_
  refine ev_go0 (ev_w_iconst (M := ev_Mlaw) (pc := 839) (k := 1) (v := 1) (by decide +kernel) (by decide +kernel)) ?_
  refine ev_go0 (ev_w_iadd (M := ev_Mlaw) (pc := 840) (v := (1)) (by decide +kernel) (by decide +kernel)) ?_
  refine ev_go0 (ev_w_scr (M := ev_Mlaw) (pc := 841) (v := x1) (j := 1) (by decide +kernel) (by decide +kernel) (by decide +kernel) e1) ?_
  refine ev_go0 (ev_one_pure (M := ev_Mlaw) (pc := 842) (i := .aload_n 0) (len := 1) (pc' := 843) (lv' := [(5, .int (1)), (4, .int (0)), (3, .ref 723), (2, .ref 621), (1, .ref 0), (0, .retAddr 0)]) (st' := [.retAddr 0, .int x1, .ref 621]) (by decide +kernel) rfl) ?_
  refine ev_go0 (ev_one_pure (M := ev_Mlaw) (pc := 843) (i := .iload 4) (len := 2) (pc' := 845) (lv' := [(5, .int (1)), (4, .int (0)), (3, .ref 723), (2, .ref 621), (1, .ref 0), (0, .retAddr 0)]) (st' := [.int (0), .retAddr 0, .int x1, .ref 621]) (by decide +kernel) rfl) ?_
  refine ev_go0 (ev_w_iconst (M := ev_Mlaw) (pc := 845) (k := 2) (v := 2) (by decide +kernel) (by decide +kernel)) ?_
  refine ev_go0 (ev_w_iadd (M := ev_Mlaw) (pc := 846) (v := (2)) (by decide +kernel) (by decide +kernel)) ?_
  refine ev_go0 (ev_w_scr (M := ev_Mlaw) (pc := 847) (v := x2) (j := 2) (by decide +kernel) (by decide +kernel) (by decide +kernel) e2) ?_
  refine ev_go0 (ev_one_pure (M := ev_Mlaw) (pc := 848) (i := .aload_n 0) (len := 1) (pc' := 849) (lv' := [(5, .int (1)), (4, .int (0)), (3, .ref 723), (2, .ref 621), (1, .ref 0), (0, .retAddr 0)]) (st' := [.retAddr 0, .int x2, .int x1, .ref 621]) (by decide +kernel) rfl) ?_
  refine ev_go0 (ev_one_pure (M := ev_Mlaw) (pc := 849) (i := .iload 4) (len := 2) (pc' := 851) (lv' := [(5, .int (1)), (4, .int (0)), (3, .ref 723), (2, .ref 621), (1, .ref 0), (0, .retAddr 0)]) (st' := [.int (0), .retAddr 0, .int x2, .int x1, .ref 621]) (by decide +kernel) rfl) ?_
  refine ev_go0 (ev_w_iconst (M := ev_Mlaw) (pc := 851) (k := 3) (v := 3) (by decide +kernel) (by decide +kernel)) ?_
  refine ev_go0 (ev_w_iadd (M := ev_Mlaw) (pc := 852) (v := (3)) (by decide +kernel) (by decide +kernel)) ?_
  refine ev_go0 (ev_w_scr (M := ev_Mlaw) (pc := 853) (v := x3) (j := 3) (by decide +kernel) (by decide +kernel) (by decide +kernel) e3) ?_
  refine ev_go0 (ev_one_pure (M := ev_Mlaw) (pc := 854) (i := .aload_n 0) (len := 1) (pc' := 855) (lv' := [(5, .int (1)), (4, .int (0)), (3, .ref 723), (2, .ref 621), (1, .ref 0), (0, .retAddr 0)]) (st' := [.retAddr 0, .int x3, .int x2, .int x1, .ref 621]) (by decide +kernel) rfl) ?_
  refine ev_go0 (ev_one_pure (M := ev_Mlaw) (pc := 855) (i := .iload 4) (len := 2) (pc' := 857) (lv' := [(5, .int (1)), (4, .int (0)), (3, .ref 723), (2, .ref 621), (1, .ref 0), (0, .retAddr 0)]) (st' := [.int (0), .retAddr 0, .int x3, .int x2, .int x1, .ref 621]) (by decide +kernel) rfl) ?_
  refine ev_go0 (ev_w_iconst (M := ev_Mlaw) (pc := 857) (k := 4) (v := 4) (by decide +kernel) (by decide +kernel)) ?_
  refine ev_go0 (ev_w_iadd (M := ev_Mlaw) (pc := 858) (v := (4)) (by decide +kernel) (by decide +kernel)) ?_
  refine ev_go0 (ev_w_scr (M := ev_Mlaw) (pc := 859) (v := x4) (j := 4) (by decide +kernel) (by decide +kernel) (by decide +kernel) e4) ?_
  refine ev_go0 (ev_p_virt (M := ev_Mlaw) (pc := 860) (x := 170) (mi := 329) (na := 4) (by decide +kernel) (by decide +kernel) (by decide +kernel) (by decide +kernel) rfl rfl (ev_recv_of ev_fH621) (ev_k165 x1 hl_x1 x2 hu_x2 x3 x4)) ?_
  refine ev_go0 (ev_w_istore (M := ev_Mlaw) (pc := 863) (k := 6) (lv' := [(6, .int (0)), (5, .int (1)), (4, .int (0)), (3, .ref 723), (2, .ref 621), (1, .ref 0), (0, .retAddr 0)]) (by decide +kernel) (by decide +kernel) rfl) ?_
  refine ev_go0 (ev_one_pure (M := ev_Mlaw) (pc := 865) (i := .aload_n 2) (len := 1) (pc' := 866) (lv' := [(6, .int (0)), (5, .int (1)), (4, .int (0)), (3, .ref 723), (2, .ref 621), (1, .ref 0), (0, .retAddr 0)]) (st' := [.ref 621]) (by decide +kernel) rfl) ?_
  refine ev_go0 (ev_p_virt (M := ev_Mlaw) (pc := 866) (x := 131) (mi := 220) (na := 0) (by decide +kernel) (by decide +kernel) (by decide +kernel) (by decide +kernel) rfl rfl (ev_recv_of (ev_hself ev_fH621)) ev_k26) ?_
  refine ev_go0 (ev_one_pure (M := ev_Mlaw) (pc := 869) (i := .iload 5) (len := 2) (pc' := 871) (lv' := [(6, .int (0)), (5, .int (1)), (4, .int (0)), (3, .ref 723), (2, .ref 621), (1, .ref 0), (0, .retAddr 0)]) (st' := [.int (1), .int (1)]) (by decide +kernel) rfl) ?_
  refine ev_go0 (ev_w_icmp (M := ev_Mlaw) (pc := 871) (q := .eq) (o := 5) (b := true) (t := 876) (by decide +kernel) (by decide +kernel) rfl) ?_
  refine ev_go0 (ev_one_pure (M := ev_Mlaw) (pc := 876) (i := .iload 5) (len := 2) (pc' := 878) (lv' := [(6, .int (0)), (5, .int (1)), (4, .int (0)), (3, .ref 723), (2, .ref 621), (1, .ref 0), (0, .retAddr 0)]) (st' := [.int (1)]) (by decide +kernel) rfl) ?_
  refine ev_go0 (ev_w_if (M := ev_Mlaw) (pc := 878) (q := .ne) (o := 15) (b := true) (t := 893) (by decide +kernel) (by decide +kernel) rfl) ?_
  refine ev_go0 (ev_one_pure (M := ev_Mlaw) (pc := 893) (i := .goto 1379) (len := 3) (pc' := 2272) (lv' := [(6, .int (0)), (5, .int (1)), (4, .int (0)), (3, .ref 723), (2, .ref 621), (1, .ref 0), (0, .retAddr 0)]) (st' := []) (by decide +kernel) rfl) ?_
  rfl
theorem ev_k166 (x1 : Int32) (hl_x1 : (0 : Int) ≤ x1.toInt) (x3 : Int32) (x4 : Int32) {n : Nat} : ev_calld 11 177 [.ref 0, .int x1, .int (0), .int x3, .int x4] ev_H0 n = some (.inr "java/lang/IndexOutOfBoundsException", ev_H0, n, 1, 6) := by
  refine ev_call_thrown (k := 7) (pcR := 12) (x := 160) (lv' := [(0, .ref 0), (1, .int x1), (2, .int (0)), (3, .int x3), (4, .int x4)]) (by decide +kernel) rfl ?_ (by decide +kernel) (by decide +kernel) (by decide +kernel) (by decide) (by decide)
  show ev_stepn _ 7 (0, [(0, .ref 0), (1, .int x1), (2, .int (0)), (3, .int x3), (4, .int x4)], [], _, _, 0, 0) = _
  refine ev_go0 (ev_one_pure (M := (ev_Mof 177)) (pc := 0) (i := .aload_n 0) (len := 1) (pc' := 1) (lv' := [(0, .ref 0), (1, .int x1), (2, .int (0)), (3, .int x3), (4, .int x4)]) (st' := [.ref 0]) (by decide +kernel) rfl) ?_
  refine ev_go0 (ev_one_pure (M := (ev_Mof 177)) (pc := 1) (i := .iload_n 1) (len := 1) (pc' := 2) (lv' := [(0, .ref 0), (1, .int x1), (2, .int (0)), (3, .int x3), (4, .int x4)]) (st' := [.int x1, .ref 0]) (by decide +kernel) rfl) ?_
  refine ev_go0 (ev_one_pure (M := (ev_Mof 177)) (pc := 2) (i := .iload_n 2) (len := 1) (pc' := 3) (lv' := [(0, .ref 0), (1, .int x1), (2, .int (0)), (3, .int x3), (4, .int x4)]) (st' := [.int (0), .int x1, .ref 0]) (by decide +kernel) rfl) ?_
  refine ev_go0 (ev_one_pure (M := (ev_Mof 177)) (pc := 3) (i := .iload_n 3) (len := 1) (pc' := 4) (lv' := [(0, .ref 0), (1, .int x1), (2, .int (0)), (3, .int x3), (4, .int x4)]) (st' := [.int x3, .int (0), .int x1, .ref 0]) (by decide +kernel) rfl) ?_
  refine ev_go0 (ev_one_pure (M := (ev_Mof 177)) (pc := 4) (i := .iload 4) (len := 2) (pc' := 6) (lv' := [(0, .ref 0), (1, .int x1), (2, .int (0)), (3, .int x3), (4, .int x4)]) (st' := [.int x4, .int x3, .int (0), .int x1, .ref 0]) (by decide +kernel) rfl) ?_
  refine ev_go0 (ev_p_virt (M := (ev_Mof 177)) (pc := 6) (x := 205) (mi := 203) (na := 4) (by decide +kernel) (by decide +kernel) (by decide +kernel) (by decide +kernel) rfl rfl (ev_recv_of ev_fH0) (ev_k122 x1 hl_x1 x3 x4)) ?_
  refine ev_go0 (ev_w_if (M := (ev_Mof 177)) (pc := 9) (q := .ne) (o := 13) (b := false) (t := 12) (by decide +kernel) (by decide +kernel) rfl) ?_
  rfl
theorem ev_k167 (x1 : Int32) (hl_x1 : (0 : Int) ≤ x1.toInt) (x3 : Int32) (x4 : Int32) {n : Nat} : ev_calld 12 374 [.ref 0, .int x1, .int (0), .int x3, .int x4, .ref 723] ev_H0 n = some (.inl (some (.int (1))), ev_H0, n, 1, 6) := by
  refine ev_call_int (k := 10) (pcR := 20) (lv' := [(6, .retAddr 1), (0, .ref 0), (1, .int x1), (2, .int (0)), (3, .int x3), (4, .int x4), (5, .ref 723)]) (v := (1)) (ty := .int) (by decide +kernel) rfl ?_ (by decide +kernel) (by decide +kernel) (by decide +kernel) (by decide)
  show ev_stepn _ 10 (0, [(0, .ref 0), (1, .int x1), (2, .int (0)), (3, .int x3), (4, .int x4), (5, .ref 723)], [], _, _, 0, 0) = _
  refine ev_go0 (ev_one_pure (M := (ev_Mof 374)) (pc := 0) (i := .aload 5) (len := 2) (pc' := 2) (lv' := [(0, .ref 0), (1, .int x1), (2, .int (0)), (3, .int x3), (4, .int x4), (5, .ref 723)]) (st' := [.ref 723]) (by decide +kernel) rfl) ?_
  refine ev_go0 (ev_w_iconst (M := (ev_Mof 374)) (pc := 2) (k := 0) (v := 0) (by decide +kernel) (by decide +kernel)) ?_
  refine ev_go0 (ev_one_pure (M := (ev_Mof 374)) (pc := 3) (i := .aload_n 0) (len := 1) (pc' := 4) (lv' := [(0, .ref 0), (1, .int x1), (2, .int (0)), (3, .int x3), (4, .int x4), (5, .ref 723)]) (st' := [.ref 0, .int (0), .ref 723]) (by decide +kernel) rfl) ?_
  refine ev_go0 (ev_one_pure (M := (ev_Mof 374)) (pc := 4) (i := .iload_n 1) (len := 1) (pc' := 5) (lv' := [(0, .ref 0), (1, .int x1), (2, .int (0)), (3, .int x3), (4, .int x4), (5, .ref 723)]) (st' := [.int x1, .ref 0, .int (0), .ref 723]) (by decide +kernel) rfl) ?_
  refine ev_go0 (ev_one_pure (M := (ev_Mof 374)) (pc := 5) (i := .iload_n 2) (len := 1) (pc' := 6) (lv' := [(0, .ref 0), (1, .int x1), (2, .int (0)), (3, .int x3), (4, .int x4), (5, .ref 723)]) (st' := [.int (0), .int x1, .ref 0, .int (0), .ref 723]) (by decide +kernel) rfl) ?_
  refine ev_go0 (ev_one_pure (M := (ev_Mof 374)) (pc := 6) (i := .iload_n 3) (len := 1) (pc' := 7) (lv' := [(0, .ref 0), (1, .int x1), (2, .int (0)), (3, .int x3), (4, .int x4), (5, .ref 723)]) (st' := [.int x3, .int (0), .int x1, .ref 0, .int (0), .ref 723]) (by decide +kernel) rfl) ?_
  refine ev_go0 (ev_one_pure (M := (ev_Mof 374)) (pc := 7) (i := .iload 4) (len := 2) (pc' := 9) (lv' := [(0, .ref 0), (1, .int x1), (2, .int (0)), (3, .int x3), (4, .int x4), (5, .ref 723)]) (st' := [.int x4, .int x3, .int (0), .int x1, .ref 0, .int (0), .ref 723]) (by decide +kernel) rfl) ?_
  refine ev_go (ev_p_virtX (M := (ev_Mof 374)) (pc := 9) (x := 50) (t := 17) (mi := 177) (na := 4) (by decide +kernel) (by decide +kernel) (by decide +kernel) (by decide +kernel) rfl rfl (ev_recv_of ev_fH0) (ev_k166 x1 hl_x1 x3 x4) (by decide +kernel)) ?_
  refine ev_go0 (ev_w_astore (M := (ev_Mof 374)) (pc := 17) (k := 6) (lv' := [(6, .retAddr 1), (0, .ref 0), (1, .int x1), (2, .int (0)), (3, .int x3), (4, .int x4), (5, .ref 723)]) (by decide +kernel) (by decide +kernel) (Or.inr (Or.inr ⟨_, rfl⟩)) rfl) ?_
  refine ev_go0 (ev_w_iconst (M := (ev_Mof 374)) (pc := 19) (k := 1) (v := 1) (by decide +kernel) (by decide +kernel)) ?_
  rfl
theorem ev_k168 (x1 : Int32) (hl_x1 : (0 : Int) ≤ x1.toInt) (x3 : Int32) (x4 : Int32) {n : Nat} : ev_calld 11 328 [.ref 621, .int x1, .int (0), .int x3, .int x4] ev_H0 n = some (.inl (some (.int (0))), (ev_H0.set 621 (.inr (13, (ev_F621.set 0 (.int (1)))))), n, 0, 0) := by
  refine ev_call_int (k := 11) (pcR := 49) (lv' := [(0, .ref 621), (1, .int x1), (2, .int (0)), (3, .int x3), (4, .int x4)]) (v := (0)) (ty := .int) (by decide +kernel) rfl ?_ (by decide +kernel) (by decide +kernel) (by decide +kernel) (by decide)
  show ev_stepn _ 11 (0, [(0, .ref 621), (1, .int x1), (2, .int (0)), (3, .int x3), (4, .int x4)], [], _, _, 0, 0) = _
  refine ev_go0 (ev_one_pure (M := (ev_Mof 328)) (pc := 0) (i := .aload_n 0) (len := 1) (pc' := 1) (lv' := [(0, .ref 621), (1, .int x1), (2, .int (0)), (3, .int x3), (4, .int x4)]) (st' := [.ref 621]) (by decide +kernel) rfl) ?_
  refine ev_go0 (ev_one_pure (M := (ev_Mof 328)) (pc := 1) (i := .aload_n 0) (len := 1) (pc' := 2) (lv' := [(0, .ref 621), (1, .int x1), (2, .int (0)), (3, .int x3), (4, .int x4)]) (st' := [.ref 621, .ref 621]) (by decide +kernel) rfl) ?_
  refine ev_go0 (ev_one_pure (M := (ev_Mof 328)) (pc := 2) (i := .iload_n 1) (len := 1) (pc' := 3) (lv' := [(0, .ref 621), (1, .int x1), (2, .int (0)), (3, .int x3), (4, .int x4)]) (st' := [.int x1, .ref 621, .ref 621]) (by decide +kernel) rfl) ?_
  refine ev_go0 (ev_p_virt (M := (ev_Mof 328)) (pc := 3) (x := 531) (mi := 273) (na := 1) (by decide +kernel) (by decide +kernel) (by decide +kernel) (by decide +kernel) rfl rfl (ev_recv_of ev_fH621) (ev_k163 x1 hl_x1)) ?_
  refine ev_go0 (ev_w_if (M := (ev_Mof 328)) (pc := 6) (q := .eq) (o := 31) (b := true) (t := 37) (by decide +kernel) (by decide +kernel) rfl) ?_
  refine ev_go0 (ev_w_iconst (M := (ev_Mof 328)) (pc := 37) (k := 1) (v := 1) (by decide +kernel) (by decide +kernel)) ?_
  refine ev_go0 (ev_p_putf (M := (ev_Mof 328)) (pc := 38) (x := 321) (ci := 13) (f := 0) (by decide +kernel) (by decide +kernel) ev_fH621 rfl (by decide +kernel)) ?_
  refine ev_go0 (ev_one_pure (M := (ev_Mof 328)) (pc := 41) (i := .aload_n 0) (len := 1) (pc' := 42) (lv' := [(0, .ref 621), (1, .int x1), (2, .int (0)), (3, .int x3), (4, .int x4)]) (st' := [.ref 621]) (by decide +kernel) rfl) ?_
  refine ev_go0 (ev_p_getf (M := (ev_Mof 328)) (pc := 42) (x := 321) (ci := 13) (f := 0) (fin := 0) (v := .int (1)) (by decide +kernel) (by decide +kernel) (ev_hself ev_fH621) rfl) ?_
  refine ev_go0 (ev_w_if (M := (ev_Mof 328)) (pc := 45) (q := .le) (o := 5) (b := false) (t := 48) (by decide +kernel) (by decide +kernel) rfl) ?_
  refine ev_go0 (ev_w_iconst (M := (ev_Mof 328)) (pc := 48) (k := 0) (v := 0) (by decide +kernel) (by decide +kernel)) ?_
  rfl
theorem ev_k169 (x1 : Int32) (hl_x1 : (0 : Int) ≤ x1.toInt) (x3 : Int32) (x4 : Int32) {n : Nat} : ev_calld 12 329 [.ref 621, .int x1, .int (0), .int x3, .int x4] ev_H0 n = some (.inl (some (.int (0))), (ev_H0.set 621 (.inr (13, (ev_F621.set 0 (.int (1)))))), n, 0, 0) := by
  refine ev_call_int (k := 6) (pcR := 9) (lv' := [(0, .ref 621), (1, .int x1), (2, .int (0)), (3, .int x3), (4, .int x4)]) (v := (0)) (ty := .int) (by decide +kernel) rfl ?_ (by decide +kernel) (by decide +kernel) (by decide +kernel) (by decide)
  show ev_stepn _ 6 (0, [(0, .ref 621), (1, .int x1), (2, .int (0)), (3, .int x3), (4, .int x4)], [], _, _, 0, 0) = _
  refine ev_go0 (ev_one_pure (M := (ev_Mof 329)) (pc := 0) (i := .aload_n 0) (len := 1) (pc' := 1) (lv' := [(0, .ref 621), (1, .int x1), (2, .int (0)), (3, .int x3), (4, .int x4)]) (st' := [.ref 621]) (by decide +kernel) rfl) ?_
  refine ev_go0 (ev_one_pure (M := (ev_Mof 329)) (pc := 1) (i := .iload_n 1) (len := 1) (pc' := 2) (lv' := [(0, .ref 621), (1, .int x1), (2, .int (0)), (3, .int x3), (4, .int x4)]) (st' := [.int x1, .ref 621]) (by decide +kernel) rfl) ?_
  refine ev_go0 (ev_one_pure (M := (ev_Mof 329)) (pc := 2) (i := .iload_n 2) (len := 1) (pc' := 3) (lv' := [(0, .ref 621), (1, .int x1), (2, .int (0)), (3, .int x3), (4, .int x4)]) (st' := [.int (0), .int x1, .ref 621]) (by decide +kernel) rfl) ?_
  refine ev_go0 (ev_one_pure (M := (ev_Mof 329)) (pc := 3) (i := .iload_n 3) (len := 1) (pc' := 4) (lv' := [(0, .ref 621), (1, .int x1), (2, .int (0)), (3, .int x3), (4, .int x4)]) (st' := [.int x3, .int (0), .int x1, .ref 621]) (by decide +kernel) rfl) ?_
  refine ev_go0 (ev_one_pure (M := (ev_Mof 329)) (pc := 4) (i := .iload 4) (len := 2) (pc' := 6) (lv' := [(0, .ref 621), (1, .int x1), (2, .int (0)), (3, .int x3), (4, .int x4)]) (st' := [.int x4, .int x3, .int (0), .int x1, .ref 621]) (by decide +kernel) rfl) ?_
  refine ev_go0 (ev_p_virt (M := (ev_Mof 329)) (pc := 6) (x := 732) (mi := 328) (na := 4) (by decide +kernel) (by decide +kernel) (by decide +kernel) (by decide +kernel) rfl rfl (ev_recv_of ev_fH621) (ev_k168 x1 hl_x1 x3 x4)) ?_
  rfl
theorem ev_p1_11_p0 (xs : Nat → Int32) (x1 : Int32) (hl_x1 : (0 : Int) ≤ x1.toInt) (x3 : Int32) (x4 : Int32) (e1 : xs 1 = x1) (e2 : xs 2 = (0)) (e3 : xs 3 = x3) (e4 : xs 4 = x4) : ev_P1 xs 804 := by
  refine ⟨54, [(6, .int (0)), (5, .int (1)), (4, .int (0)), (3, .ref 723), (2, .ref 621), (1, .ref 0), (0, .retAddr 0)], (ev_H0.set 621 (.inr (13, (ev_F621.set 0 (.int (1)))))), 724, 725, 3553592, ?_, ⟨rfl, rfl, rfl, rfl⟩, rfl, by decide, by decide⟩
  show ev_stepn _ _ (804, [(4, .int (0)), (3, .ref 723), (2, .ref 621), (1, .ref 0), (0, .retAddr 0)], [], _, _, _, _) = _
  refine ev_go0 (ev_one_pure (M := ev_Mlaw) (pc := 804) (i := .aload_n 1) (len := 1) (pc' := 805) (lv' := [(4, .int (0)), (3, .ref 723), (2, .ref 621), (1, .ref 0), (0, .retAddr 0)]) (st' := [.ref 0]) (by decide +kernel) rfl) ?_
  refine ev_go0 (ev_one_pure (M := ev_Mlaw) (pc := 805) (i := .aload_n 0) (len := 1) (pc' := 806) (lv' := [(4, .int (0)), (3, .ref 723), (2, .ref 621), (1, .ref 0), (0, .retAddr 0)]) (st' := [.retAddr 0, .ref 0]) (by decide +kernel) rfl) ?_
  refine ev_go0 (ev_one_pure (M := ev_Mlaw) (pc := 806) (i := .iload 4) (len := 2) (pc' := 808) (lv' := [(4, .int (0)), (3, .ref 723), (2, .ref 621), (1, .ref 0), (0, .retAddr 0)]) (st' := [.int (0), .retAddr 0, .ref 0]) (by decide +kernel) rfl) ?_
  refine ev_go0 (ev_w_iconst (M := ev_Mlaw) (pc := 808) (k := 1) (v := 1) (by decide +kernel) (by decide +kernel)) ?_
  refine ev_go0 (ev_w_iadd (M := ev_Mlaw) (pc := 809) (v := (1)) (by decide +kernel) (by decide +kernel)) ?_
  refine ev_go0 (ev_w_scr (M := ev_Mlaw) (pc := 810) (v := x1) (j := 1) (by decide +kernel) (by decide +kernel) (by decide +kernel) e1) ?_
  refine ev_go0 (ev_one_pure (M := ev_Mlaw) (pc := 811) (i := .aload_n 0) (len := 1) (pc' := 812) (lv' := [(4, .int (0)), (3, .ref 723), (2, .ref 621), (1, .ref 0), (0, .retAddr 0)]) (st' := [.retAddr 0, .int x1, .ref 0]) (by decide +kernel) rfl) ?_
  refine ev_go0 (ev_one_pure (M := ev_Mlaw) (pc := 812) (i := .iload 4) (len := 2) (pc' := 814) (lv' := [(4, .int (0)), (3, .ref 723), (2, .ref 621), (1, .ref 0), (0, .retAddr 0)]) (st' := [.int (0), .retAddr 0, .int x1, .ref 0]) (by decide +kernel) rfl) ?_
  refine ev_go0 (ev_w_iconst (M := ev_Mlaw) (pc := 814) (k := 2) (v := 2) (by decide +kernel) (by decide +kernel)) ?_
  refine ev_go0 (ev_w_iadd (M := ev_Mlaw) (pc := 815) (v := (2)) (by decide +kernel) (by decide +kernel)) ?_
  refine ev_go0 (ev_w_scr (M := ev_Mlaw) (pc := 816) (v := (0)) (j := 2) (by decide +kernel) (by decide +kernel) (by decide +kernel) e2) ?_
  refine ev_go0 (ev_one_pure (M := ev_Mlaw) (pc := 817) (i := .aload_n 0) (len := 1) (pc' := 818) (lv' := [(4, .int (0)), (3, .ref 723), (2, .ref 621), (1, .ref 0), (0, .retAddr 0)]) (st' := [.retAddr 0, .int (0), .int x1, .ref 0]) (by decide +kernel) rfl) ?_
  refine ev_go0 (ev_one_pure (M := ev_Mlaw) (pc := 818) (i := .iload 4) (len := 2) (pc' := 820) (lv' := [(4, .int (0)), (3, .ref 723), (2, .ref 621), (1, .ref 0), (0, .retAddr 0)]) (st' := [.int (0), .retAddr 0, .int (0), .int x1, .ref 0]) (by decide +kernel) rfl) ?_
  refine ev_go0 (ev_w_iconst (M := ev_Mlaw) (pc := 820) (k := 3) (v := 3) (by decide +kernel) (by decide +kernel)) ?_
  refine ev_go0 (ev_w_iadd (M := ev_Mlaw) (pc := 821) (v := (3)) (by decide +kernel) (by decide +kernel)) ?_
  refine ev_go0 (ev_w_scr (M := ev_Mlaw) (pc := 822) (v := x3) (j := 3) (by decide +kernel) (by decide +kernel) (by decide +kernel) e3) ?_
  refine ev_go0 (ev_one_pure (M := ev_Mlaw) (pc := 823) (i := .aload_n 0) (len := 1) (pc' := 824) (lv' := [(4, .int (0)), (3, .ref 723), (2, .ref 621), (1, .ref 0), (0, .retAddr 0)]) (st' := [.retAddr 0, .int x3, .int (0), .int x1, .ref 0]) (by decide +kernel) rfl) ?_
  refine ev_go0 (ev_one_pure (M := ev_Mlaw) (pc := 824) (i := .iload 4) (len := 2) (pc' := 826) (lv' := [(4, .int (0)), (3, .ref 723), (2, .ref 621), (1, .ref 0), (0, .retAddr 0)]) (st' := [.int (0), .retAddr 0, .int x3, .int (0), .int x1, .ref 0]) (by decide +kernel) rfl) ?_
  refine ev_go0 (ev_w_iconst (M := ev_Mlaw) (pc := 826) (k := 4) (v := 4) (by decide +kernel) (by decide +kernel)) ?_
  refine ev_go0 (ev_w_iadd (M := ev_Mlaw) (pc := 827) (v := (4)) (by decide +kernel) (by decide +kernel)) ?_
  refine ev_go0 (ev_w_scr (M := ev_Mlaw) (pc := 828) (v := x4) (j := 4) (by decide +kernel) (by decide +kernel) (by decide +kernel) e4) ?_
  refine ev_go0 (ev_one_pure (M := ev_Mlaw) (pc := 829) (i := .aload_n 3) (len := 1) (pc' := 830) (lv' := [(4, .int (0)), (3, .ref 723), (2, .ref 621), (1, .ref 0), (0, .retAddr 0)]) (st' := [.ref 723, .int x4, .int x3, .int (0), .int x1, .ref 0]) (by decide +kernel) rfl) ?_
  refine ev_go (ev_w_stat (M := ev_Mlaw) (pc := 830) (y := 168) (kind := 8) (Or.inr (Or.inr rfl)) (mi := 374) (na := 6) (by decide +kernel) (by decide +kernel) (by decide +kernel) (by decide +kernel) rfl rfl (ev_k167 x1 hl_x1 x3 x4)) ?_
  refine ev_go0 (ev_w_istore (M := ev_Mlaw) (pc := 833) (k := 5) (lv' := [(5, .int (1)), (4, .int (0)), (3, .ref 723), (2, .ref 621), (1, .ref 0), (0, .retAddr 0)]) (by decide +kernel) (by decide +kernel) rfl) ?_
  refine ev_go0 (ev_one_pure (M := ev_Mlaw) (pc := 835) (i := .aload_n 2) (len := 1) (pc' := 836) (lv' := [(5, .int (1)), (4, .int (0)), (3, .ref 723), (2, .ref 621), (1, .ref 0), (0, .retAddr 0)]) (st' := [.ref 621]) (by decide +kernel) rfl) ?_
  refine ev_go0 (ev_one_pure (M := ev_Mlaw) (pc := 836) (i := .aload_n 0) (len := 1) (pc' := 837) (lv' := [(5, .int (1)), (4, .int (0)), (3, .ref 723), (2, .ref 621), (1, .ref 0), (0, .retAddr 0)]) (st' := [.retAddr 0, .ref 621]) (by decide +kernel) rfl) ?_
  refine ev_go0 (ev_one_pure (M := ev_Mlaw) (pc := 837) (i := .iload 4) (len := 2) (pc' := 839) (lv' := [(5, .int (1)), (4, .int (0)), (3, .ref 723), (2, .ref 621), (1, .ref 0), (0, .retAddr 0)]) (st' := [.int (0), .retAddr 0, .ref 621]) (by decide +kernel) rfl) ?_
  refine ev_go0 (ev_w_iconst (M := ev_Mlaw) (pc := 839) (k := 1) (v := 1) (by decide +kernel) (by decide +kernel)) ?_
  refine ev_go0 (ev_w_iadd (M := ev_Mlaw) (pc := 840) (v := (1)) (by decide +kernel) (by decide +kernel)) ?_
  refine ev_go0 (ev_w_scr (M := ev_Mlaw) (pc := 841) (v := x1) (j := 1) (by decide +kernel) (by decide +kernel) (by decide +kernel) e1) ?_
  refine ev_go0 (ev_one_pure (M := ev_Mlaw) (pc := 842) (i := .aload_n 0) (len := 1) (pc' := 843) (lv' := [(5, .int (1)), (4, .int (0)), (3, .ref 723), (2, .ref 621), (1, .ref 0), (0, .retAddr 0)]) (st' := [.retAddr 0, .int x1, .ref 621]) (by decide +kernel) rfl) ?_
  refine ev_go0 (ev_one_pure (M := ev_Mlaw) (pc := 843) (i := .iload 4) (len := 2) (pc' := 845) (lv' := [(5, .int (1)), (4, .int (0)), (3, .ref 723), (2, .ref 621), (1, .ref 0), (0, .retAddr 0)]) (st' := [.int (0), .retAddr 0, .int x1, .ref 621]) (by decide +kernel) rfl) ?_
  refine ev_go0 (ev_w_iconst (M := ev_Mlaw) (pc := 845) (k := 2) (v := 2) (by decide +kernel) (by decide +kernel)) ?_
  refine ev_go0 (ev_w_iadd (M := ev_Mlaw) (pc := 846) (v := (2)) (by decide +kernel) (by decide +kernel)) ?_
  refine ev_go0 (ev_w_scr (M := ev_Mlaw) (pc := 847) (v := (0)) (j := 2) (by decide +kernel) (by decide +kernel) (by decide +kernel) e2) ?_
  refine ev_go0 (ev_one_pure (M := ev_Mlaw) (pc := 848) (i := .aload_n 0) (len := 1) (pc' := 849) (lv' := [(5, .int (1)), (4, .int (0)), (3, .ref 723), (2, .ref 621), (1, .ref 0), (0, .retAddr 0)]) (st' := [.retAddr 0, .int (0), .int x1, .ref 621]) (by decide +kernel) rfl) ?_
  refine ev_go0 (ev_one_pure (M := ev_Mlaw) (pc := 849) (i := .iload 4) (len := 2) (pc' := 851) (lv' := [(5, .int (1)), (4, .int (0)), (3, .ref 723), (2, .ref 621), (1, .ref 0), (0, .retAddr 0)]) (st' := [.int (0), .retAddr 0, .int (0), .int x1, .ref 621]) (by decide +kernel) rfl) ?_
  refine ev_go0 (ev_w_iconst (M := ev_Mlaw) (pc := 851) (k := 3) (v := 3) (by decide +kernel) (by decide +kernel)) ?_
  refine ev_go0 (ev_w_iadd (M := ev_Mlaw) (pc := 852) (v := (3)) (by decide +kernel) (by decide +kernel)) ?_
  refine ev_go0 (ev_w_scr (M := ev_Mlaw) (pc := 853) (v := x3) (j := 3) (by decide +kernel) (by decide +kernel) (by decide +kernel) e3) ?_
  refine ev_go0 (ev_one_pure (M := ev_Mlaw) (pc := 854) (i := .aload_n 0) (len := 1) (pc' := 855) (lv' := [(5, .int (1)), (4, .int (0)), (3, .ref 723), (2, .ref 621), (1, .ref 0), (0, .retAddr 0)]) (st' := [.retAddr 0, .int x3, .int (0), .int x1, .ref 621]) (by decide +kernel) rfl) ?_
  refine ev_go0 (ev_one_pure (M := ev_Mlaw) (pc := 855) (i := .iload 4) (len := 2) (pc' := 857) (lv' := [(5, .int (1)), (4, .int (0)), (3, .ref 723), (2, .ref 621), (1, .ref 0), (0, .retAddr 0)]) (st' := [.int (0), .retAddr 0, .int x3, .int (0), .int x1, .ref 621]) (by decide +kernel) rfl) ?_
  refine ev_go0 (ev_w_iconst (M := ev_Mlaw) (pc := 857) (k := 4) (v := 4) (by decide +kernel) (by decide +kernel)) ?_
  refine ev_go0 (ev_w_iadd (M := ev_Mlaw) (pc := 858) (v := (4)) (by decide +kernel) (by decide +kernel)) ?_
  refine ev_go0 (ev_w_scr (M := ev_Mlaw) (pc := 859) (v := x4) (j := 4) (by decide +kernel) (by decide +kernel) (by decide +kernel) e4) ?_
  refine ev_go0 (ev_p_virt (M := ev_Mlaw) (pc := 860) (x := 170) (mi := 329) (na := 4) (by decide +kernel) (by decide +kernel) (by decide +kernel) (by decide +kernel) rfl rfl (ev_recv_of ev_fH621) (ev_k169 x1 hl_x1 x3 x4)) ?_
  refine ev_go0 (ev_w_istore (M := ev_Mlaw) (pc := 863) (k := 6) (lv' := [(6, .int (0)), (5, .int (1)), (4, .int (0)), (3, .ref 723), (2, .ref 621), (1, .ref 0), (0, .retAddr 0)]) (by decide +kernel) (by decide +kernel) rfl) ?_
  refine ev_go0 (ev_one_pure (M := ev_Mlaw) (pc := 865) (i := .aload_n 2) (len := 1) (pc' := 866) (lv' := [(6, .int (0)), (5, .int (1)), (4, .int (0)), (3, .ref 723), (2, .ref 621), (1, .ref 0), (0, .retAddr 0)]) (st' := [.ref 621]) (by decide +kernel) rfl) ?_
  refine ev_go0 (ev_p_virt (M := ev_Mlaw) (pc := 866) (x := 131) (mi := 220) (na := 0) (by decide +kernel) (by decide +kernel) (by decide +kernel) (by decide +kernel) rfl rfl (ev_recv_of (ev_hself ev_fH621)) ev_k26) ?_
  refine ev_go0 (ev_one_pure (M := ev_Mlaw) (pc := 869) (i := .iload 5) (len := 2) (pc' := 871) (lv' := [(6, .int (0)), (5, .int (1)), (4, .int (0)), (3, .ref 723), (2, .ref 621), (1, .ref 0), (0, .retAddr 0)]) (st' := [.int (1), .int (1)]) (by decide +kernel) rfl) ?_
  refine ev_go0 (ev_w_icmp (M := ev_Mlaw) (pc := 871) (q := .eq) (o := 5) (b := true) (t := 876) (by decide +kernel) (by decide +kernel) rfl) ?_
  refine ev_go0 (ev_one_pure (M := ev_Mlaw) (pc := 876) (i := .iload 5) (len := 2) (pc' := 878) (lv' := [(6, .int (0)), (5, .int (1)), (4, .int (0)), (3, .ref 723), (2, .ref 621), (1, .ref 0), (0, .retAddr 0)]) (st' := [.int (1)]) (by decide +kernel) rfl) ?_
  refine ev_go0 (ev_w_if (M := ev_Mlaw) (pc := 878) (q := .ne) (o := 15) (b := true) (t := 893) (by decide +kernel) (by decide +kernel) rfl) ?_
  refine ev_go0 (ev_one_pure (M := ev_Mlaw) (pc := 893) (i := .goto 1379) (len := 3) (pc' := 2272) (lv' := [(6, .int (0)), (5, .int (1)), (4, .int (0)), (3, .ref 723), (2, .ref 621), (1, .ref 0), (0, .retAddr 0)]) (st' := []) (by decide +kernel) rfl) ?_
  rfl
theorem ev_k170 (x1 : Int32) (hl_x1 : (0 : Int) ≤ x1.toInt) (x3 : Int32) (x4 : Int32) {n : Nat} : ev_calld 11 177 [.ref 0, .int x1, .int (1), .int x3, .int x4] ev_H0 n = some (.inr "java/lang/IndexOutOfBoundsException", ev_H0, n, 1, 6) := by
  refine ev_call_thrown (k := 7) (pcR := 12) (x := 160) (lv' := [(0, .ref 0), (1, .int x1), (2, .int (1)), (3, .int x3), (4, .int x4)]) (by decide +kernel) rfl ?_ (by decide +kernel) (by decide +kernel) (by decide +kernel) (by decide) (by decide)
  show ev_stepn _ 7 (0, [(0, .ref 0), (1, .int x1), (2, .int (1)), (3, .int x3), (4, .int x4)], [], _, _, 0, 0) = _
  refine ev_go0 (ev_one_pure (M := (ev_Mof 177)) (pc := 0) (i := .aload_n 0) (len := 1) (pc' := 1) (lv' := [(0, .ref 0), (1, .int x1), (2, .int (1)), (3, .int x3), (4, .int x4)]) (st' := [.ref 0]) (by decide +kernel) rfl) ?_
  refine ev_go0 (ev_one_pure (M := (ev_Mof 177)) (pc := 1) (i := .iload_n 1) (len := 1) (pc' := 2) (lv' := [(0, .ref 0), (1, .int x1), (2, .int (1)), (3, .int x3), (4, .int x4)]) (st' := [.int x1, .ref 0]) (by decide +kernel) rfl) ?_
  refine ev_go0 (ev_one_pure (M := (ev_Mof 177)) (pc := 2) (i := .iload_n 2) (len := 1) (pc' := 3) (lv' := [(0, .ref 0), (1, .int x1), (2, .int (1)), (3, .int x3), (4, .int x4)]) (st' := [.int (1), .int x1, .ref 0]) (by decide +kernel) rfl) ?_
  refine ev_go0 (ev_one_pure (M := (ev_Mof 177)) (pc := 3) (i := .iload_n 3) (len := 1) (pc' := 4) (lv' := [(0, .ref 0), (1, .int x1), (2, .int (1)), (3, .int x3), (4, .int x4)]) (st' := [.int x3, .int (1), .int x1, .ref 0]) (by decide +kernel) rfl) ?_
  refine ev_go0 (ev_one_pure (M := (ev_Mof 177)) (pc := 4) (i := .iload 4) (len := 2) (pc' := 6) (lv' := [(0, .ref 0), (1, .int x1), (2, .int (1)), (3, .int x3), (4, .int x4)]) (st' := [.int x4, .int x3, .int (1), .int x1, .ref 0]) (by decide +kernel) rfl) ?_
  refine ev_go0 (ev_p_virt (M := (ev_Mof 177)) (pc := 6) (x := 205) (mi := 203) (na := 4) (by decide +kernel) (by decide +kernel) (by decide +kernel) (by decide +kernel) rfl rfl (ev_recv_of ev_fH0) (ev_k126 x1 hl_x1 x3 x4)) ?_
  refine ev_go0 (ev_w_if (M := (ev_Mof 177)) (pc := 9) (q := .ne) (o := 13) (b := false) (t := 12) (by decide +kernel) (by decide +kernel) rfl) ?_
  rfl
theorem ev_k171 (x1 : Int32) (hl_x1 : (0 : Int) ≤ x1.toInt) (x3 : Int32) (x4 : Int32) {n : Nat} : ev_calld 12 374 [.ref 0, .int x1, .int (1), .int x3, .int x4, .ref 723] ev_H0 n = some (.inl (some (.int (1))), ev_H0, n, 1, 6) := by
  refine ev_call_int (k := 10) (pcR := 20) (lv' := [(6, .retAddr 1), (0, .ref 0), (1, .int x1), (2, .int (1)), (3, .int x3), (4, .int x4), (5, .ref 723)]) (v := (1)) (ty := .int) (by decide +kernel) rfl ?_ (by decide +kernel) (by decide +kernel) (by decide +kernel) (by decide)
  show ev_stepn _ 10 (0, [(0, .ref 0), (1, .int x1), (2, .int (1)), (3, .int x3), (4, .int x4), (5, .ref 723)], [], _, _, 0, 0) = _
  refine ev_go0 (ev_one_pure (M := (ev_Mof 374)) (pc := 0) (i := .aload 5) (len := 2) (pc' := 2) (lv' := [(0, .ref 0), (1, .int x1), (2, .int (1)), (3, .int x3), (4, .int x4), (5, .ref 723)]) (st' := [.ref 723]) (by decide +kernel) rfl) ?_
  refine ev_go0 (ev_w_iconst (M := (ev_Mof 374)) (pc := 2) (k := 0) (v := 0) (by decide +kernel) (by decide +kernel)) ?_
  refine ev_go0 (ev_one_pure (M := (ev_Mof 374)) (pc := 3) (i := .aload_n 0) (len := 1) (pc' := 4) (lv' := [(0, .ref 0), (1, .int x1), (2, .int (1)), (3, .int x3), (4, .int x4), (5, .ref 723)]) (st' := [.ref 0, .int (0), .ref 723]) (by decide +kernel) rfl) ?_
  refine ev_go0 (ev_one_pure (M := (ev_Mof 374)) (pc := 4) (i := .iload_n 1) (len := 1) (pc' := 5) (lv' := [(0, .ref 0), (1, .int x1), (2, .int (1)), (3, .int x3), (4, .int x4), (5, .ref 723)]) (st' := [.int x1, .ref 0, .int (0), .ref 723]) (by decide +kernel) rfl) ?_
  refine ev_go0 (ev_one_pure (M := (ev_Mof 374)) (pc := 5) (i := .iload_n 2) (len := 1) (pc' := 6) (lv' := [(0, .ref 0), (1, .int x1), (2, .int (1)), (3, .int x3), (4, .int x4), (5, .ref 723)]) (st' := [.int (1), .int x1, .ref 0, .int (0), .ref 723]) (by decide +kernel) rfl) ?_
  refine ev_go0 (ev_one_pure (M := (ev_Mof 374)) (pc := 6) (i := .iload_n 3) (len := 1) (pc' := 7) (lv' := [(0, .ref 0), (1, .int x1), (2, .int (1)), (3, .int x3), (4, .int x4), (5, .ref 723)]) (st' := [.int x3, .int (1), .int x1, .ref 0, .int (0), .ref 723]) (by decide +kernel) rfl) ?_
  refine ev_go0 (ev_one_pure (M := (ev_Mof 374)) (pc := 7) (i := .iload 4) (len := 2) (pc' := 9) (lv' := [(0, .ref 0), (1, .int x1), (2, .int (1)), (3, .int x3), (4, .int x4), (5, .ref 723)]) (st' := [.int x4, .int x3, .int (1), .int x1, .ref 0, .int (0), .ref 723]) (by decide +kernel) rfl) ?_
  refine ev_go (ev_p_virtX (M := (ev_Mof 374)) (pc := 9) (x := 50) (t := 17) (mi := 177) (na := 4) (by decide +kernel) (by decide +kernel) (by decide +kernel) (by decide +kernel) rfl rfl (ev_recv_of ev_fH0) (ev_k170 x1 hl_x1 x3 x4) (by decide +kernel)) ?_
  refine ev_go0 (ev_w_astore (M := (ev_Mof 374)) (pc := 17) (k := 6) (lv' := [(6, .retAddr 1), (0, .ref 0), (1, .int x1), (2, .int (1)), (3, .int x3), (4, .int x4), (5, .ref 723)]) (by decide +kernel) (by decide +kernel) (Or.inr (Or.inr ⟨_, rfl⟩)) rfl) ?_
  refine ev_go0 (ev_w_iconst (M := (ev_Mof 374)) (pc := 19) (k := 1) (v := 1) (by decide +kernel) (by decide +kernel)) ?_
  rfl
theorem ev_k172 (x1 : Int32) (hl_x1 : (0 : Int) ≤ x1.toInt) (x3 : Int32) (x4 : Int32) {n : Nat} : ev_calld 11 328 [.ref 621, .int x1, .int (1), .int x3, .int x4] ev_H0 n = some (.inl (some (.int (0))), (ev_H0.set 621 (.inr (13, (ev_F621.set 0 (.int (1)))))), n, 0, 0) := by
  refine ev_call_int (k := 11) (pcR := 49) (lv' := [(0, .ref 621), (1, .int x1), (2, .int (1)), (3, .int x3), (4, .int x4)]) (v := (0)) (ty := .int) (by decide +kernel) rfl ?_ (by decide +kernel) (by decide +kernel) (by decide +kernel) (by decide)
  show ev_stepn _ 11 (0, [(0, .ref 621), (1, .int x1), (2, .int (1)), (3, .int x3), (4, .int x4)], [], _, _, 0, 0) = _
  refine ev_go0 (ev_one_pure (M := (ev_Mof 328)) (pc := 0) (i := .aload_n 0) (len := 1) (pc' := 1) (lv' := [(0, .ref 621), (1, .int x1), (2, .int (1)), (3, .int x3), (4, .int x4)]) (st' := [.ref 621]) (by decide +kernel) rfl) ?_
  refine ev_go0 (ev_one_pure (M := (ev_Mof 328)) (pc := 1) (i := .aload_n 0) (len := 1) (pc' := 2) (lv' := [(0, .ref 621), (1, .int x1), (2, .int (1)), (3, .int x3), (4, .int x4)]) (st' := [.ref 621, .ref 621]) (by decide +kernel) rfl) ?_
  refine ev_go0 (ev_one_pure (M := (ev_Mof 328)) (pc := 2) (i := .iload_n 1) (len := 1) (pc' := 3) (lv' := [(0, .ref 621), (1, .int x1), (2, .int (1)), (3, .int x3), (4, .int x4)]) (st' := [.int x1, .ref 621, .ref 621]) (by decide +kernel) rfl) ?_
  refine ev_go0 (ev_p_virt (M := (ev_Mof 328)) (pc := 3) (x := 531) (mi := 273) (na := 1) (by decide +kernel) (by decide +kernel) (by decide +kernel) (by decide +kernel) rfl rfl (ev_recv_of ev_fH621) (ev_k163 x1 hl_x1)) ?_
  refine ev_go0 (ev_w_if (M := (ev_Mof 328)) (pc := 6) (q := .eq) (o := 31) (b := true) (t := 37) (by decide +kernel) (by decide +kernel) rfl) ?_
  refine ev_go0 (ev_w_iconst (M := (ev_Mof 328)) (pc := 37) (k := 1) (v := 1) (by decide +kernel) (by decide +kernel)) ?_
  refine ev_go0 (ev_p_putf (M := (ev_Mof 328)) (pc := 38) (x := 321) (ci := 13) (f := 0) (by decide +kernel) (by decide +kernel) ev_fH621 rfl (by decide +kernel)) ?_
  refine ev_go0 (ev_one_pure (M := (ev_Mof 328)) (pc := 41) (i := .aload_n 0) (len := 1) (pc' := 42) (lv' := [(0, .ref 621), (1, .int x1), (2, .int (1)), (3, .int x3), (4, .int x4)]) (st' := [.ref 621]) (by decide +kernel) rfl) ?_
  refine ev_go0 (ev_p_getf (M := (ev_Mof 328)) (pc := 42) (x := 321) (ci := 13) (f := 0) (fin := 0) (v := .int (1)) (by decide +kernel) (by decide +kernel) (ev_hself ev_fH621) rfl) ?_
  refine ev_go0 (ev_w_if (M := (ev_Mof 328)) (pc := 45) (q := .le) (o := 5) (b := false) (t := 48) (by decide +kernel) (by decide +kernel) rfl) ?_
  refine ev_go0 (ev_w_iconst (M := (ev_Mof 328)) (pc := 48) (k := 0) (v := 0) (by decide +kernel) (by decide +kernel)) ?_
  rfl
theorem ev_k173 (x1 : Int32) (hl_x1 : (0 : Int) ≤ x1.toInt) (x3 : Int32) (x4 : Int32) {n : Nat} : ev_calld 12 329 [.ref 621, .int x1, .int (1), .int x3, .int x4] ev_H0 n = some (.inl (some (.int (0))), (ev_H0.set 621 (.inr (13, (ev_F621.set 0 (.int (1)))))), n, 0, 0) := by
  refine ev_call_int (k := 6) (pcR := 9) (lv' := [(0, .ref 621), (1, .int x1), (2, .int (1)), (3, .int x3), (4, .int x4)]) (v := (0)) (ty := .int) (by decide +kernel) rfl ?_ (by decide +kernel) (by decide +kernel) (by decide +kernel) (by decide)
  show ev_stepn _ 6 (0, [(0, .ref 621), (1, .int x1), (2, .int (1)), (3, .int x3), (4, .int x4)], [], _, _, 0, 0) = _
  refine ev_go0 (ev_one_pure (M := (ev_Mof 329)) (pc := 0) (i := .aload_n 0) (len := 1) (pc' := 1) (lv' := [(0, .ref 621), (1, .int x1), (2, .int (1)), (3, .int x3), (4, .int x4)]) (st' := [.ref 621]) (by decide +kernel) rfl) ?_
  refine ev_go0 (ev_one_pure (M := (ev_Mof 329)) (pc := 1) (i := .iload_n 1) (len := 1) (pc' := 2) (lv' := [(0, .ref 621), (1, .int x1), (2, .int (1)), (3, .int x3), (4, .int x4)]) (st' := [.int x1, .ref 621]) (by decide +kernel) rfl) ?_
  refine ev_go0 (ev_one_pure (M := (ev_Mof 329)) (pc := 2) (i := .iload_n 2) (len := 1) (pc' := 3) (lv' := [(0, .ref 621), (1, .int x1), (2, .int (1)), (3, .int x3), (4, .int x4)]) (st' := [.int (1), .int x1, .ref 621]) (by decide +kernel) rfl) ?_
  refine ev_go0 (ev_one_pure (M := (ev_Mof 329)) (pc := 3) (i := .iload_n 3) (len := 1) (pc' := 4) (lv' := [(0, .ref 621), (1, .int x1), (2, .int (1)), (3, .int x3), (4, .int x4)]) (st' := [.int x3, .int (1), .int x1, .ref 621]) (by decide +kernel) rfl) ?_
  refine ev_go0 (ev_one_pure (M := (ev_Mof 329)) (pc := 4) (i := .iload 4) (len := 2) (pc' := 6) (lv' := [(0, .ref 621), (1, .int x1), (2, .int (1)), (3, .int x3), (4, .int x4)]) (st' := [.int x4, .int x3, .int (1), .int x1, .ref 621]) (by decide +kernel) rfl) ?_
  refine ev_go0 (ev_p_virt (M := (ev_Mof 329)) (pc := 6) (x := 732) (mi := 328) (na := 4) (by decide +kernel) (by decide +kernel) (by decide +kernel) (by decide +kernel) rfl rfl (ev_recv_of ev_fH621) (ev_k172 x1 hl_x1 x3 x4)) ?_
  rfl
theorem ev_p1_11_p1 (xs : Nat → Int32) (x1 : Int32) (hl_x1 : (0 : Int) ≤ x1.toInt) (x3 : Int32) (x4 : Int32) (e1 : xs 1 = x1) (e2 : xs 2 = (1)) (e3 : xs 3 = x3) (e4 : xs 4 = x4) : ev_P1 xs 804 := by
  refine ⟨54, [(6, .int (0)), (5, .int (1)), (4, .int (0)), (3, .ref 723), (2, .ref 621), (1, .ref 0), (0, .retAddr 0)], (ev_H0.set 621 (.inr (13, (ev_F621.set 0 (.int (1)))))), 724, 725, 3553592, ?_, ⟨rfl, rfl, rfl, rfl⟩, rfl, by decide, by decide⟩
  show ev_stepn _ _ (804, [(4, .int (0)), (3, .ref 723), (2, .ref 621), (1, .ref 0), (0, .retAddr 0)], [], _, _, _, _) = _
  refine ev_go0 (ev_one_pure (M := ev_Mlaw) (pc := 804) (i := .aload_n 1) (len := 1) (pc' := 805) (lv' := [(4, .int (0)), (3, .ref 723), (2, .ref 621), (1, .ref 0), (0, .retAddr 0)]) (st' := [.ref 0]) (by decide +kernel) rfl) ?_
  refine ev_go0 (ev_one_pure (M := ev_Mlaw) (pc := 805) (i := .aload_n 0) (len := 1) (pc' := 806) (lv' := [(4, .int (0)), (3, .ref 723), (2, .ref 621), (1, .ref 0), (0, .retAddr 0)]) (st' := [.retAddr 0, .ref 0]) (by decide +kernel) rfl) ?_
  refine ev_go0 (ev_one_pure (M := ev_Mlaw) (pc := 806) (i := .iload 4) (len := 2) (pc' := 808) (lv' := [(4, .int (0)), (3, .ref 723), (2, .ref 621), (1, .ref 0), (0, .retAddr 0)]) (st' := [.int (0), .retAddr 0, .ref 0]) (by decide +kernel) rfl) ?_
  refine ev_go0 (ev_w_iconst (M := ev_Mlaw) (pc := 808) (k := 1) (v := 1) (by decide +kernel) (by decide +kernel)) ?_
  refine ev_go0 (ev_w_iadd (M := ev_Mlaw) (pc := 809) (v := (1)) (by decide +kernel) (by decide +kernel)) ?_
  refine ev_go0 (ev_w_scr (M := ev_Mlaw) (pc := 810) (v := x1) (j := 1) (by decide +kernel) (by decide +kernel) (by decide +kernel) e1) ?_
  refine ev_go0 (ev_one_pure (M := ev_Mlaw) (pc := 811) (i := .aload_n 0) (len := 1) (pc' := 812) (lv' := [(4, .int (0)), (3, .ref 723), (2, .ref 621), (1, .ref 0), (0, .retAddr 0)]) (st' := [.retAddr 0, .int x1, .ref 0]) (by decide +kernel) rfl) ?_
  refine ev_go0 (ev_one_pure (M := ev_Mlaw) (pc := 812) (i := .iload 4) (len := 2) (pc' := 814) (lv' := [(4, .int (0)), (3, .ref 723), (2, .ref 621), (1, .ref 0), (0, .retAddr 0)]) (st' := [.int (0), .retAddr 0, .int x1, .ref 0]) (by decide +kernel) rfl) ?_
  refine ev_go0 (ev_w_iconst (M := ev_Mlaw) (pc := 814) (k := 2) (v := 2) (by decide +kernel) (by decide +kernel)) ?_
  refine ev_go0 (ev_w_iadd (M := ev_Mlaw) (pc := 815) (v := (2)) (by decide +kernel) (by decide +kernel)) ?_
  refine ev_go0 (ev_w_scr (M := ev_Mlaw) (pc := 816) (v := (1)) (j := 2) (by decide +kernel) (by decide +kernel) (by decide +kernel) e2) ?_
  refine ev_go0 (ev_one_pure (M := ev_Mlaw) (pc := 817) (i := .aload_n 0) (len := 1) (pc' := 818) (lv' := [(4, .int (0)), (3, .ref 723), (2, .ref 621), (1, .ref 0), (0, .retAddr 0)]) (st' := [.retAddr 0, .int (1), .int x1, .ref 0]) (by decide +kernel) rfl) ?_
  refine ev_go0 (ev_one_pure (M := ev_Mlaw) (pc := 818) (i := .iload 4) (len := 2) (pc' := 820) (lv' := [(4, .int (0)), (3, .ref 723), (2, .ref 621), (1, .ref 0), (0, .retAddr 0)]) (st' := [.int (0), .retAddr 0, .int (1), .int x1, .ref 0]) (by decide +kernel) rfl) ?_
  refine ev_go0 (ev_w_iconst (M := ev_Mlaw) (pc := 820) (k := 3) (v := 3) (by decide +kernel) (by decide +kernel)) ?_
  refine ev_go0 (ev_w_iadd (M := ev_Mlaw) (pc := 821) (v := (3)) (by decide +kernel) (by decide +kernel)) ?_
  refine ev_go0 (ev_w_scr (M := ev_Mlaw) (pc := 822) (v := x3) (j := 3) (by decide +kernel) (by decide +kernel) (by decide +kernel) e3) ?_
  refine ev_go0 (ev_one_pure (M := ev_Mlaw) (pc := 823) (i := .aload_n 0) (len := 1) (pc' := 824) (lv' := [(4, .int (0)), (3, .ref 723), (2, .ref 621), (1, .ref 0), (0, .retAddr 0)]) (st' := [.retAddr 0, .int x3, .int (1), .int x1, .ref 0]) (by decide +kernel) rfl) ?_
  refine ev_go0 (ev_one_pure (M := ev_Mlaw) (pc := 824) (i := .iload 4) (len := 2) (pc' := 826) (lv' := [(4, .int (0)), (3, .ref 723), (2, .ref 621), (1, .ref 0), (0, .retAddr 0)]) (st' := [.int (0), .retAddr 0, .int x3, .int (1), .int x1, .ref 0]) (by decide +kernel) rfl) ?_
  refine ev_go0 (ev_w_iconst (M := ev_Mlaw) (pc := 826) (k := 4) (v := 4) (by decide +kernel) (by decide +kernel)) ?_
  refine ev_go0 (ev_w_iadd (M := ev_Mlaw) (pc := 827) (v := (4)) (by decide +kernel) (by decide +kernel)) ?_
  refine ev_go0 (ev_w_scr (M := ev_Mlaw) (pc := 828) (v := x4) (j := 4) (by decide +kernel) (by decide +kernel) (by decide +kernel) e4) ?_
  refine ev_go0 (ev_one_pure (M := ev_Mlaw) (pc := 829) (i := .aload_n 3) (len := 1) (pc' := 830) (lv' := [(4, .int (0)), (3, .ref 723), (2, .ref 621), (1, .ref 0), (0, .retAddr 0)]) (st' := [.ref 723, .int x4, .int x3, .int (1), .int x1, .ref 0]) (by decide +kernel) rfl) ?_
  refine ev_go (ev_w_stat (M := ev_Mlaw) (pc := 830) (y := 168) (kind := 8) (Or.inr (Or.inr rfl)) (mi := 374) (na := 6) (by decide +kernel) (by decide +kernel) (by decide +kernel) (by decide +kernel) rfl rfl (ev_k171 x1 hl_x1 x3 x4)) ?_
  refine ev_go0 (ev_w_istore (M := ev_Mlaw) (pc := 833) (k := 5) (lv' := [(5, .int (1)), (4, .int (0)), (3, .ref 723), (2, .ref 621), (1, .ref 0), (0, .retAddr 0)]) (by decide +kernel) (by decide +kernel) rfl) ?_
  refine ev_go0 (ev_one_pure (M := ev_Mlaw) (pc := 835) (i := .aload_n 2) (len := 1) (pc' := 836) (lv' := [(5, .int (1)), (4, .int (0)), (3, .ref 723), (2, .ref 621), (1, .ref 0), (0, .retAddr 0)]) (st' := [.ref 621]) (by decide +kernel) rfl) ?_
  refine ev_go0 (ev_one_pure (M := ev_Mlaw) (pc := 836) (i := .aload_n 0) (len := 1) (pc' := 837) (lv' := [(5, .int (1)), (4, .int (0)), (3, .ref 723), (2, .ref 621), (1, .ref 0), (0, .retAddr 0)]) (st' := [.retAddr 0, .ref 621]) (by decide +kernel) rfl) ?_
  refine ev_go0 (ev_one_pure (M := ev_Mlaw) (pc := 837) (i := .iload 4) (len := 2) (pc' := 839) (lv' := [(5, .int (1)), (4, .int (0)), (3, .ref 723), (2, .ref 621), (1, .ref 0), (0, .retAddr 0)]) (st' := [.int (0), .retAddr 0, .ref 621]) (by decide +kernel) rfl) ?_
  refine ev_go0 (ev_w_iconst (M := ev_Mlaw) (pc := 839) (k := 1) (v := 1) (by decide +kernel) (by decide +kernel)) ?_
  refine ev_go0 (ev_w_iadd (M := ev_Mlaw) (pc := 840) (v := (1)) (by decide +kernel) (by decide +kernel)) ?_
  refine ev_go0 (ev_w_scr (M := ev_Mlaw) (pc := 841) (v := x1) (j := 1) (by decide +kernel) (by decide +kernel) (by decide +kernel) e1) ?_
  refine ev_go0 (ev_one_pure (M := ev_Mlaw) (pc := 842) (i := .aload_n 0) (len := 1) (pc' := 843) (lv' := [(5, .int (1)), (4, .int (0)), (3, .ref 723), (2, .ref 621), (1, .ref 0), (0, .retAddr 0)]) (st' := [.retAddr 0, .int x1, .ref 621]) (by decide +kernel) rfl) ?_
  refine ev_go0 (ev_one_pure (M := ev_Mlaw) (pc := 843) (i := .iload 4) (len := 2) (pc' := 845) (lv' := [(5, .int (1)), (4, .int (0)), (3, .ref 723), (2, .ref 621), (1, .ref 0), (0, .retAddr 0)]) (st' := [.int (0), .retAddr 0, .int x1, .ref 621]) (by decide +kernel) rfl) ?_
  refine ev_go0 (ev_w_iconst (M := ev_Mlaw) (pc := 845) (k := 2) (v := 2) (by decide +kernel) (by decide +kernel)) ?_
  refine ev_go0 (ev_w_iadd (M := ev_Mlaw) (pc := 846) (v := (2)) (by decide +kernel) (by decide +kernel)) ?_
  refine ev_go0 (ev_w_scr (M := ev_Mlaw) (pc := 847) (v := (1)) (j := 2) (by decide +kernel) (by decide +kernel) (by decide +kernel) e2) ?_
  refine ev_go0 (ev_one_pure (M := ev_Mlaw) (pc := 848) (i := .aload_n 0) (len := 1) (pc' := 849) (lv' := [(5, .int (1)), (4, .int (0)), (3, .ref 723), (2, .ref 621), (1, .ref 0), (0, .retAddr 0)]) (st' := [.retAddr 0, .int (1), .int x1, .ref 621]) (by decide +kernel) rfl) ?_
  refine ev_go0 (ev_one_pure (M := ev_Mlaw) (pc := 849) (i := .iload 4) (len := 2) (pc' := 851) (lv' := [(5, .int (1)), (4, .int (0)), (3, .ref 723), (2, .ref 621), (1, .ref 0), (0, .retAddr 0)]) (st' := [.int (0), .retAddr 0, .int (1), .int x1, .ref 621]) (by decide +kernel) rfl) ?_
  refine ev_go0 (ev_w_iconst (M := ev_Mlaw) (pc := 851) (k := 3) (v := 3) (by decide +kernel) (by decide +kernel)) ?_
  refine ev_go0 (ev_w_iadd (M := ev_Mlaw) (pc := 852) (v := (3)) (by decide +kernel) (by decide +kernel)) ?_
  refine ev_go0 (ev_w_scr (M := ev_Mlaw) (pc := 853) (v := x3) (j := 3) (by decide +kernel) (by decide +kernel) (by decide +kernel) e3) ?_
  refine ev_go0 (ev_one_pure (M := ev_Mlaw) (pc := 854) (i := .aload_n 0) (len := 1) (pc' := 855) (lv' := [(5, .int (1)), (4, .int (0)), (3, .ref 723), (2, .ref 621), (1, .ref 0), (0, .retAddr 0)]) (st' := [.retAddr 0, .int x3, .int (1), .int x1, .ref 621]) (by decide +kernel) rfl) ?_
  refine ev_go0 (ev_one_pure (M := ev_Mlaw) (pc := 855) (i := .iload 4) (len := 2) (pc' := 857) (lv' := [(5, .int (1)), (4, .int (0)), (3, .ref 723), (2, .ref 621), (1, .ref 0), (0, .retAddr 0)]) (st' := [.int (0), .retAddr 0, .int x3, .int (1), .int x1, .ref 621]) (by decide +kernel) rfl) ?_
  refine ev_go0 (ev_w_iconst (M := ev_Mlaw) (pc := 857) (k := 4) (v := 4) (by decide +kernel) (by decide +kernel)) ?_
  refine ev_go0 (ev_w_iadd (M := ev_Mlaw) (pc := 858) (v := (4)) (by decide +kernel) (by decide +kernel)) ?_
  refine ev_go0 (ev_w_scr (M := ev_Mlaw) (pc := 859) (v := x4) (j := 4) (by decide +kernel) (by decide +kernel) (by decide +kernel) e4) ?_
  refine ev_go0 (ev_p_virt (M := ev_Mlaw) (pc := 860) (x := 170) (mi := 329) (na := 4) (by decide +kernel) (by decide +kernel) (by decide +kernel) (by decide +kernel) rfl rfl (ev_recv_of ev_fH621) (ev_k173 x1 hl_x1 x3 x4)) ?_
  refine ev_go0 (ev_w_istore (M := ev_Mlaw) (pc := 863) (k := 6) (lv' := [(6, .int (0)), (5, .int (1)), (4, .int (0)), (3, .ref 723), (2, .ref 621), (1, .ref 0), (0, .retAddr 0)]) (by decide +kernel) (by decide +kernel) rfl) ?_
  refine ev_go0 (ev_one_pure (M := ev_Mlaw) (pc := 865) (i := .aload_n 2) (len := 1) (pc' := 866) (lv' := [(6, .int (0)), (5, .int (1)), (4, .int (0)), (3, .ref 723), (2, .ref 621), (1, .ref 0), (0, .retAddr 0)]) (st' := [.ref 621]) (by decide +kernel) rfl) ?_
  refine ev_go0 (ev_p_virt (M := ev_Mlaw) (pc := 866) (x := 131) (mi := 220) (na := 0) (by decide +kernel) (by decide +kernel) (by decide +kernel) (by decide +kernel) rfl rfl (ev_recv_of (ev_hself ev_fH621)) ev_k26) ?_
  refine ev_go0 (ev_one_pure (M := ev_Mlaw) (pc := 869) (i := .iload 5) (len := 2) (pc' := 871) (lv' := [(6, .int (0)), (5, .int (1)), (4, .int (0)), (3, .ref 723), (2, .ref 621), (1, .ref 0), (0, .retAddr 0)]) (st' := [.int (1), .int (1)]) (by decide +kernel) rfl) ?_
  refine ev_go0 (ev_w_icmp (M := ev_Mlaw) (pc := 871) (q := .eq) (o := 5) (b := true) (t := 876) (by decide +kernel) (by decide +kernel) rfl) ?_
  refine ev_go0 (ev_one_pure (M := ev_Mlaw) (pc := 876) (i := .iload 5) (len := 2) (pc' := 878) (lv' := [(6, .int (0)), (5, .int (1)), (4, .int (0)), (3, .ref 723), (2, .ref 621), (1, .ref 0), (0, .retAddr 0)]) (st' := [.int (1)]) (by decide +kernel) rfl) ?_
  refine ev_go0 (ev_w_if (M := ev_Mlaw) (pc := 878) (q := .ne) (o := 15) (b := true) (t := 893) (by decide +kernel) (by decide +kernel) rfl) ?_
  refine ev_go0 (ev_one_pure (M := ev_Mlaw) (pc := 893) (i := .goto 1379) (len := 3) (pc' := 2272) (lv' := [(6, .int (0)), (5, .int (1)), (4, .int (0)), (3, .ref 723), (2, .ref 621), (1, .ref 0), (0, .retAddr 0)]) (st' := []) (by decide +kernel) rfl) ?_
  rfl
theorem ev_k174 (x1 : Int32) (hl_x1 : (0 : Int) ≤ x1.toInt) (x3 : Int32) (x4 : Int32) {n : Nat} : ev_calld 11 177 [.ref 0, .int x1, .int (2), .int x3, .int x4] ev_H0 n = some (.inr "java/lang/IndexOutOfBoundsException", ev_H0, n, 1, 6) := by
  refine ev_call_thrown (k := 7) (pcR := 12) (x := 160) (lv' := [(0, .ref 0), (1, .int x1), (2, .int (2)), (3, .int x3), (4, .int x4)]) (by decide +kernel) rfl ?_ (by decide +kernel) (by decide +kernel) (by decide +kernel) (by decide) (by decide)
  show ev_stepn _ 7 (0, [(0, .ref 0), (1, .int x1), (2, .int (2)), (3, .int x3), (4, .int x4)], [], _, _, 0, 0) = _
  refine ev_go0 (ev_one_pure (M := (ev_Mof 177)) (pc := 0) (i := .aload_n 0) (len := 1) (pc' := 1) (lv' := [(0, .ref 0), (1, .int x1), (2, .int (2)), (3, .int x3), (4, .int x4)]) (st' := [.ref 0]) (by decide +kernel) rfl) ?_
  refine ev_go0 (ev_one_pure (M := (ev_Mof 177)) (pc := 1) (i := .iload_n 1) (len := 1) (pc' := 2) (lv' := [(0, .ref 0), (1, .int x1), (2, .int (2)), (3, .int x3), (4, .int x4)]) (st' := [.int x1, .ref 0]) (by decide +kernel) rfl) ?_
  refine ev_go0 (ev_one_pure (M := (ev_Mof 177)) (pc := 2) (i := .iload_n 2) (len := 1) (pc' := 3) (lv' := [(0, .ref 0), (1, .int x1), (2, .int (2)), (3, .int x3), (4, .int x4)]) (st' := [.int (2), .int x1, .ref 0]) (by decide +kernel) rfl) ?_
  refine ev_go0 (ev_one_pure (M := (ev_Mof 177)) (pc := 3) (i := .iload_n 3) (len := 1) (pc' := 4) (lv' := [(0, .ref 0), (1, .int x1), (2, .int (2)), (3, .int x3), (4, .int x4)]) (st' := [.int x3, .int (2), .int x1, .ref 0]) (by decide +kernel) rfl) ?_
  refine ev_go0 (ev_one_pure (M := (ev_Mof 177)) (pc := 4) (i := .iload 4) (len := 2) (pc' := 6) (lv' := [(0, .ref 0), (1, .int x1), (2, .int (2)), (3, .int x3), (4, .int x4)]) (st' := [.int x4, .int x3, .int (2), .int x1, .ref 0]) (by decide +kernel) rfl) ?_
  refine ev_go0 (ev_p_virt (M := (ev_Mof 177)) (pc := 6) (x := 205) (mi := 203) (na := 4) (by decide +kernel) (by decide +kernel) (by decide +kernel) (by decide +kernel) rfl rfl (ev_recv_of ev_fH0) (ev_k130 x1 hl_x1 x3 x4)) ?_
  refine ev_go0 (ev_w_if (M := (ev_Mof 177)) (pc := 9) (q := .ne) (o := 13) (b := false) (t := 12) (by decide +kernel) (by decide +kernel) rfl) ?_
  rfl
theorem ev_k175 (x1 : Int32) (hl_x1 : (0 : Int) ≤ x1.toInt) (x3 : Int32) (x4 : Int32) {n : Nat} : ev_calld 12 374 [.ref 0, .int x1, .int (2), .int x3, .int x4, .ref 723] ev_H0 n = some (.inl (some (.int (1))), ev_H0, n, 1, 6) := by
  refine ev_call_int (k := 10) (pcR := 20) (lv' := [(6, .retAddr 1), (0, .ref 0), (1, .int x1), (2, .int (2)), (3, .int x3), (4, .int x4), (5, .ref 723)]) (v := (1)) (ty := .int) (by decide +kernel) rfl ?_ (by decide +kernel) (by decide +kernel) (by decide +kernel) (by decide)
  show ev_stepn _ 10 (0, [(0, .ref 0), (1, .int x1), (2, .int (2)), (3, .int x3), (4, .int x4), (5, .ref 723)], [], _, _, 0, 0) = _
  refine ev_go0 (ev_one_pure (M := (ev_Mof 374)) (pc := 0) (i := .aload 5) (len := 2) (pc' := 2) (lv' := [(0, .ref 0), (1, .int x1), (2, .int (2)), (3, .int x3), (4, .int x4), (5, .ref 723)]) (st' := [.ref 723]) (by decide +kernel) rfl) ?_
  refine ev_go0 (ev_w_iconst (M := (ev_Mof 374)) (pc := 2) (k := 0) (v := 0) (by decide +kernel) (by decide +kernel)) ?_
  refine ev_go0 (ev_one_pure (M := (ev_Mof 374)) (pc := 3) (i := .aload_n 0) (len := 1) (pc' := 4) (lv' := [(0, .ref 0), (1, .int x1), (2, .int (2)), (3, .int x3), (4, .int x4), (5, .ref 723)]) (st' := [.ref 0, .int (0), .ref 723]) (by decide +kernel) rfl) ?_
  refine ev_go0 (ev_one_pure (M := (ev_Mof 374)) (pc := 4) (i := .iload_n 1) (len := 1) (pc' := 5) (lv' := [(0, .ref 0), (1, .int x1), (2, .int (2)), (3, .int x3), (4, .int x4), (5, .ref 723)]) (st' := [.int x1, .ref 0, .int (0), .ref 723]) (by decide +kernel) rfl) ?_
  refine ev_go0 (ev_one_pure (M := (ev_Mof 374)) (pc := 5) (i := .iload_n 2) (len := 1) (pc' := 6) (lv' := [(0, .ref 0), (1, .int x1), (2, .int (2)), (3, .int x3), (4, .int x4), (5, .ref 723)]) (st' := [.int (2), .int x1, .ref 0, .int (0), .ref 723]) (by decide +kernel) rfl) ?_
  refine ev_go0 (ev_one_pure (M := (ev_Mof 374)) (pc := 6) (i := .iload_n 3) (len := 1) (pc' := 7) (lv' := [(0, .ref 0), (1, .int x1), (2, .int (2)), (3, .int x3), (4, .int x4), (5, .ref 723)]) (st' := [.int x3, .int (2), .int x1, .ref 0, .int (0), .ref 723]) (by decide +kernel) rfl) ?_
  refine ev_go0 (ev_one_pure (M := (ev_Mof 374)) (pc := 7) (i := .iload 4) (len := 2) (pc' := 9) (lv' := [(0, .ref 0), (1, .int x1), (2, .int (2)), (3, .int x3), (4, .int x4), (5, .ref 723)]) (st' := [.int x4, .int x3, .int (2), .int x1, .ref 0, .int (0), .ref 723]) (by decide +kernel) rfl) ?_
  refine ev_go (ev_p_virtX (M := (ev_Mof 374)) (pc := 9) (x := 50) (t := 17) (mi := 177) (na := 4) (by decide +kernel) (by decide +kernel) (by decide +kernel) (by decide +kernel) rfl rfl (ev_recv_of ev_fH0) (ev_k174 x1 hl_x1 x3 x4) (by decide +kernel)) ?_
  refine ev_go0 (ev_w_astore (M := (ev_Mof 374)) (pc := 17) (k := 6) (lv' := [(6, .retAddr 1), (0, .ref 0), (1, .int x1), (2, .int (2)), (3, .int x3), (4, .int x4), (5, .ref 723)]) (by decide +kernel) (by decide +kernel) (Or.inr (Or.inr ⟨_, rfl⟩)) rfl) ?_
  refine ev_go0 (ev_w_iconst (M := (ev_Mof 374)) (pc := 19) (k := 1) (v := 1) (by decide +kernel) (by decide +kernel)) ?_
  rfl
theorem ev_k176 (x1 : Int32) (hl_x1 : (0 : Int) ≤ x1.toInt) (x3 : Int32) (x4 : Int32) {n : Nat} : ev_calld 11 328 [.ref 621, .int x1, .int (2), .int x3, .int x4] ev_H0 n = some (.inl (some (.int (0))), (ev_H0.set 621 (.inr (13, (ev_F621.set 0 (.int (1)))))), n, 0, 0) := by
  refine ev_call_int (k := 11) (pcR := 49) (lv' := [(0, .ref 621), (1, .int x1), (2, .int (2)), (3, .int x3), (4, .int x4)]) (v := (0)) (ty := .int) (by decide +kernel) rfl ?_ (by decide +kernel) (by decide +kernel) (by decide +kernel) (by decide)
  show ev_stepn _ 11 (0, [(0, .ref 621), (1, .int x1), (2, .int (2)), (3, .int x3), (4, .int x4)], [], _, _, 0, 0) = _
  refine ev_go0 (ev_one_pure (M := (ev_Mof 328)) (pc := 0) (i := .aload_n 0) (len := 1) (pc' := 1) (lv' := [(0, .ref 621), (1, .int x1), (2, .int (2)), (3, .int x3), (4, .int x4)]) (st' := [.ref 621]) (by decide +kernel) rfl) ?_
  refine ev_go0 (ev_one_pure (M := (ev_Mof 328)) (pc := 1) (i := .aload_n 0) (len := 1) (pc' := 2) (lv' := [(0, .ref 621), (1, .int x1), (2, .int (2)), (3, .int x3), (4, .int x4)]) (st' := [.ref 621, .ref 621]) (by decide +kernel) rfl) ?_
  refine ev_go0 (ev_one_pure (M := (ev_Mof 328)) (pc := 2) (i := .iload_n 1) (len := 1) (pc' := 3) (lv' := [(0, .ref 621), (1, .int x1), (2, .int (2)), (3, .int x3), (4, .int x4)]) (st' := [.int x1, .ref 621, .ref 621]) (by decide +kernel) rfl) ?_
  refine ev_go0 (ev_p_virt (M := (ev_Mof 328)) (pc := 3) (x := 531) (mi := 273) (na := 1) (by decide +kernel) (by decide +kernel) (by decide +kernel) (by decide +kernel) rfl rfl (ev_recv_of ev_fH621) (ev_k163 x1 hl_x1)) ?_
  refine ev_go0 (ev_w_if (M := (ev_Mof 328)) (pc := 6) (q := .eq) (o := 31) (b := true) (t := 37) (by decide +kernel) (by decide +kernel) rfl) ?_
  refine ev_go0 (ev_w_iconst (M := (ev_Mof 328)) (pc := 37) (k := 1) (v := 1) (by decide +kernel) (by decide +kernel)) ?_
  refine ev_go0 (ev_p_putf (M := (ev_Mof 328)) (pc := 38) (x := 321) (ci := 13) (f := 0) (by decide +kernel) (by decide +kernel) ev_fH621 rfl (by decide +kernel)) ?_
  refine ev_go0 (ev_one_pure (M := (ev_Mof 328)) (pc := 41) (i := .aload_n 0) (len := 1) (pc' := 42) (lv' := [(0, .ref 621), (1, .int x1), (2, .int (2)), (3, .int x3), (4, .int x4)]) (st' := [.ref 621]) (by decide +kernel) rfl) ?_
  refine ev_go0 (ev_p_getf (M := (ev_Mof 328)) (pc := 42) (x := 321) (ci := 13) (f := 0) (fin := 0) (v := .int (1)) (by decide +kernel) (by decide +kernel) (ev_hself ev_fH621) rfl) ?_
  refine ev_go0 (ev_w_if (M := (ev_Mof 328)) (pc := 45) (q := .le) (o := 5) (b := false) (t := 48) (by decide +kernel) (by decide +kernel) rfl) ?_
  refine ev_go0 (ev_w_iconst (M := (ev_Mof 328)) (pc := 48) (k := 0) (v := 0) (by decide +kernel) (by decide +kernel)) ?_
  rfl
theorem ev_k177 (x1 : Int32) (hl_x1 : (0 : Int) ≤ x1.toInt) (x3 : Int32) (x4 : Int32) {n : Nat} : ev_calld 12 329 [.ref 621, .int x1, .int (2), .int x3, .int x4] ev_H0 n = some (.inl (some (.int (0))), (ev_H0.set 621 (.inr (13, (ev_F621.set 0 (.int (1)))))), n, 0, 0) := by
  refine ev_call_int (k := 6) (pcR := 9) (lv' := [(0, .ref 621), (1, .int x1), (2, .int (2)), (3, .int x3), (4, .int x4)]) (v := (0)) (ty := .int) (by decide +kernel) rfl ?_ (by decide +kernel) (by decide +kernel) (by decide +kernel) (by decide)
  show ev_stepn _ 6 (0, [(0, .ref 621), (1, .int x1), (2, .int (2)), (3, .int x3), (4, .int x4)], [], _, _, 0, 0) = _
  refine ev_go0 (ev_one_pure (M := (ev_Mof 329)) (pc := 0) (i := .aload_n 0) (len := 1) (pc' := 1) (lv' := [(0, .ref 621), (1, .int x1), (2, .int (2)), (3, .int x3), (4, .int x4)]) (st' := [.ref 621]) (by decide +kernel) rfl) ?_
  refine ev_go0 (ev_one_pure (M := (ev_Mof 329)) (pc := 1) (i := .iload_n 1) (len := 1) (pc' := 2) (lv' := [(0, .ref 621), (1, .int x1), (2, .int (2)), (3, .int x3), (4, .int x4)]) (st' := [.int x1, .ref 621]) (by decide +kernel) rfl) ?_
  refine ev_go0 (ev_one_pure (M := (ev_Mof 329)) (pc := 2) (i := .iload_n 2) (len := 1) (pc' := 3) (lv' := [(0, .ref 621), (1, .int x1), (2, .int (2)), (3, .int x3), (4, .int x4)]) (st' := [.int (2), .int x1, .ref 621]) (by decide +kernel) rfl) ?_
  refine ev_go0 (ev_one_pure (M := (ev_Mof 329)) (pc := 3) (i := .iload_n 3) (len := 1) (pc' := 4) (lv' := [(0, .ref 621), (1, .int x1), (2, .int (2)), (3, .int x3), (4, .int x4)]) (st' := [.int x3, .int (2), .int x1, .ref 621]) (by decide +kernel) rfl) ?_
  refine ev_go0 (ev_one_pure (M := (ev_Mof 329)) (pc := 4) (i := .iload 4) (len := 2) (pc' := 6) (lv' := [(0, .ref 621), (1, .int x1), (2, .int (2)), (3, .int x3), (4, .int x4)]) (st' := [.int x4, .int x3, .int (2), .int x1, .ref 621]) (by decide +kernel) rfl) ?_
  refine ev_go0 (ev_p_virt (M := (ev_Mof 329)) (pc := 6) (x := 732) (mi := 328) (na := 4) (by decide +kernel) (by decide +kernel) (by decide +kernel) (by decide +kernel) rfl rfl (ev_recv_of ev_fH621) (ev_k176 x1 hl_x1 x3 x4)) ?_
  rfl
theorem ev_p1_11_p2 (xs : Nat → Int32) (x1 : Int32) (hl_x1 : (0 : Int) ≤ x1.toInt) (x3 : Int32) (x4 : Int32) (e1 : xs 1 = x1) (e2 : xs 2 = (2)) (e3 : xs 3 = x3) (e4 : xs 4 = x4) : ev_P1 xs 804 := by
  refine ⟨54, [(6, .int (0)), (5, .int (1)), (4, .int (0)), (3, .ref 723), (2, .ref 621), (1, .ref 0), (0, .retAddr 0)], (ev_H0.set 621 (.inr (13, (ev_F621.set 0 (.int (1)))))), 724, 725, 3553592, ?_, ⟨rfl, rfl, rfl, rfl⟩, rfl, by decide, by decide⟩
  show ev_stepn _ _ (804, [(4, .int (0)), (3, .ref 723), (2, .ref 621), (1, .ref 0), (0, .retAddr 0)], [], _, _, _, _) = _
  refine ev_go0 (ev_one_pure (M := ev_Mlaw) (pc := 804) (i := .aload_n 1) (len := 1) (pc' := 805) (lv' := [(4, .int (0)), (3, .ref 723), (2, .ref 621), (1, .ref 0), (0, .retAddr 0)]) (st' := [.ref 0]) (by decide +kernel) rfl) ?_
  refine ev_go0 (ev_one_pure (M := ev_Mlaw) (pc := 805) (i := .aload_n 0) (len := 1) (pc' := 806) (lv' := [(4, .int (0)), (3, .ref 723), (2, .ref 621), (1, .ref 0), (0, .retAddr 0)]) (st' := [.retAddr 0, .ref 0]) (by decide +kernel) rfl) ?_
  refine ev_go0 (ev_one_pure (M := ev_Mlaw) (pc := 806) (i := .iload 4) (len := 2) (pc' := 808) (lv' := [(4, .int (0)), (3, .ref 723), (2, .ref 621), (1, .ref 0), (0, .retAddr 0)]) (st' := [.int (0), .retAddr 0, .ref 0]) (by decide +kernel) rfl) ?_
  refine ev_go0 (ev_w_iconst (M := ev_Mlaw) (pc := 808) (k := 1) (v := 1) (by decide +kernel) (by decide +kernel)) ?_
  refine ev_go0 (ev_w_iadd (M := ev_Mlaw) (pc := 809) (v := (1)) (by decide +kernel) (by decide +kernel)) ?_
  refine ev_go0 (ev_w_scr (M := ev_Mlaw) (pc := 810) (v := x1) (j := 1) (by decide +kernel) (by decide +kernel) (by decide +kernel) e1) ?_
  refine ev_go0 (ev_one_pure (M := ev_Mlaw) (pc := 811) (i := .aload_n 0) (len := 1) (pc' := 812) (lv' := [(4, .int (0)), (3, .ref 723), (2, .ref 621), (1, .ref 0), (0, .retAddr 0)]) (st' := [.retAddr 0, .int x1, .ref 0]) (by decide +kernel) rfl) ?_
  refine ev_go0 (ev_one_pure (M := ev_Mlaw) (pc := 812) (i := .iload 4) (len := 2) (pc' := 814) (lv' := [(4, .int (0)), (3, .ref 723), (2, .ref 621), (1, .ref 0), (0, .retAddr 0)]) (st' := [.int (0), .retAddr 0, .int x1, .ref 0]) (by decide +kernel) rfl) ?_
  refine ev_go0 (ev_w_iconst (M := ev_Mlaw) (pc := 814) (k := 2) (v := 2) (by decide +kernel) (by decide +kernel)) ?_
  refine ev_go0 (ev_w_iadd (M := ev_Mlaw) (pc := 815) (v := (2)) (by decide +kernel) (by decide +kernel)) ?_
  refine ev_go0 (ev_w_scr (M := ev_Mlaw) (pc := 816) (v := (2)) (j := 2) (by decide +kernel) (by decide +kernel) (by decide +kernel) e2) ?_
  refine ev_go0 (ev_one_pure (M := ev_Mlaw) (pc := 817) (i := .aload_n 0) (len := 1) (pc' := 818) (lv' := [(4, .int (0)), (3, .ref 723), (2, .ref 621), (1, .ref 0), (0, .retAddr 0)]) (st' := [.retAddr 0, .int (2), .int x1, .ref 0]) (by decide +kernel) rfl) ?_
  refine ev_go0 (ev_one_pure (M := ev_Mlaw) (pc := 818) (i := .iload 4) (len := 2) (pc' := 820) (lv' := [(4, .int (0)), (3, .ref 723), (2, .ref 621), (1, .ref 0), (0, .retAddr 0)]) (st' := [.int (0), .retAddr 0, .int (2), .int x1, .ref 0]) (by decide +kernel) rfl) ?_
  refine ev_go0 (ev_w_iconst (M := ev_Mlaw) (pc := 820) (k := 3) (v := 3) (by decide +kernel) (by decide +kernel)) ?_
  refine ev_go0 (ev_w_iadd (M := ev_Mlaw) (pc := 821) (v := (3)) (by decide +kernel) (by decide +kernel)) ?_
  refine ev_go0 (ev_w_scr (M := ev_Mlaw) (pc := 822) (v := x3) (j := 3) (by decide +kernel) (by decide +kernel) (by decide +kernel) e3) ?_
  refine ev_go0 (ev_one_pure (M := ev_Mlaw) (pc := 823) (i := .aload_n 0) (len := 1) (pc' := 824) (lv' := [(4, .int (0)), (3, .ref 723), (2, .ref 621), (1, .ref 0), (0, .retAddr 0)]) (st' := [.retAddr 0, .int x3, .int (2), .int x1, .ref 0]) (by decide +kernel) rfl) ?_
  refine ev_go0 (ev_one_pure (M := ev_Mlaw) (pc := 824) (i := .iload 4) (len := 2) (pc' := 826) (lv' := [(4, .int (0)), (3, .ref 723), (2, .ref 621), (1, .ref 0), (0, .retAddr 0)]) (st' := [.int (0), .retAddr 0, .int x3, .int (2), .int x1, .ref 0]) (by decide +kernel) rfl) ?_
  refine ev_go0 (ev_w_iconst (M := ev_Mlaw) (pc := 826) (k := 4) (v := 4) (by decide +kernel) (by decide +kernel)) ?_
  refine ev_go0 (ev_w_iadd (M := ev_Mlaw) (pc := 827) (v := (4)) (by decide +kernel) (by decide +kernel)) ?_
  refine ev_go0 (ev_w_scr (M := ev_Mlaw) (pc := 828) (v := x4) (j := 4) (by decide +kernel) (by decide +kernel) (by decide +kernel) e4) ?_
  refine ev_go0 (ev_one_pure (M := ev_Mlaw) (pc := 829) (i := .aload_n 3) (len := 1) (pc' := 830) (lv' := [(4, .int (0)), (3, .ref 723), (2, .ref 621), (1, .ref 0), (0, .retAddr 0)]) (st' := [.ref 723, .int x4, .int x3, .int (2), .int x1, .ref 0]) (by decide +kernel) rfl) ?_
  refine ev_go (ev_w_stat (M := ev_Mlaw) (pc := 830) (y := 168) (kind := 8) (Or.inr (Or.inr rfl)) (mi := 374) (na := 6) (by decide +kernel) (by decide +kernel) (by decide +kernel) (by decide +kernel) rfl rfl (ev_k175 x1 hl_x1 x3 x4)) ?_
  refine ev_go0 (ev_w_istore (M := ev_Mlaw) (pc := 833) (k := 5) (lv' := [(5, .int (1)), (4, .int (0)), (3, .ref 723), (2, .ref 621), (1, .ref 0), (0, .retAddr 0)]) (by decide +kernel) (by decide +kernel) rfl) ?_
  refine ev_go0 (ev_one_pure (M := ev_Mlaw) (pc := 835) (i := .aload_n 2) (len := 1) (pc' := 836) (lv' := [(5, .int (1)), (4, .int (0)), (3, .ref 723), (2, .ref 621), (1, .ref 0), (0, .retAddr 0)]) (st' := [.ref 621]) (by decide +kernel) rfl) ?_
  refine ev_go0 (ev_one_pure (M := ev_Mlaw) (pc := 836) (i := .aload_n 0) (len := 1) (pc' := 837) (lv' := [(5, .int (1)), (4, .int (0)), (3, .ref 723), (2, .ref 621), (1, .ref 0), (0, .retAddr 0)]) (st' := [.retAddr 0, .ref 621]) (by decide +kernel) rfl) ?_
  refine ev_go0 (ev_one_pure (M := ev_Mlaw) (pc := 837) (i := .iload 4) (len := 2) (pc' := 839) (lv' := [(5, .int (1)), (4, .int (0)), (3, .ref 723), (2, .ref 621), (1, .ref 0), (0, .retAddr 0)]) (st' := [.int (0), .retAddr 0, .ref 621]) (by decide +kernel) rfl) ?_
  refine ev_go0 (ev_w_iconst (M := ev_Mlaw) (pc := 839) (k := 1) (v := 1) (by decide +kernel) (by decide +kernel)) ?_
  refine ev_go0 (ev_w_iadd (M := ev_Mlaw) (pc := 840) (v := (1)) (by decide +kernel) (by decide +kernel)) ?_
  refine ev_go0 (ev_w_scr (M := ev_Mlaw) (pc := 841) (v := x1) (j := 1) (by decide +kernel) (by decide +kernel) (by decide +kernel) e1) ?_
  refine ev_go0 (ev_one_pure (M := ev_Mlaw) (pc := 842) (i := .aload_n 0) (len := 1) (pc' := 843) (lv' := [(5, .int (1)), (4, .int (0)), (3, .ref 723), (2, .ref 621), (1, .ref 0), (0, .retAddr 0)]) (st' := [.retAddr 0, .int x1, .ref 621]) (by decide +kernel) rfl) ?_
  refine ev_go0 (ev_one_pure (M := ev_Mlaw) (pc := 843) (i := .iload 4) (len := 2) (pc' := 845) (lv' := [(5, .int (1)), (4, .int (0)), (3, .ref 723), (2, .ref 621), (1, .ref 0), (0, .retAddr 0)]) (st' := [.int (0), .retAddr 0, .int x1, .ref 621]) (by decide +kernel) rfl) ?_
  refine ev_go0 (ev_w_iconst (M := ev_Mlaw) (pc := 845) (k := 2) (v := 2) (by decide +kernel) (by decide +kernel)) ?_
  refine ev_go0 (ev_w_iadd (M := ev_Mlaw) (pc := 846) (v := (2)) (by decide +kernel) (by decide +kernel)) ?_
  refine ev_go0 (ev_w_scr (M := ev_Mlaw) (pc := 847) (v := (2)) (j := 2) (by decide +kernel) (by decide +kernel) (by decide +kernel) e2) ?_
  refine ev_go0 (ev_one_pure (M := ev_Mlaw) (pc := 848) (i := .aload_n 0) (len := 1) (pc' := 849) (lv' := [(5, .int (1)), (4, .int (0)), (3, .ref 723), (2, .ref 621), (1, .ref 0), (0, .retAddr 0)]) (st' := [.retAddr 0, .int (2), .int x1, .ref 621]) (by decide +kernel) rfl) ?_
  refine ev_go0 (ev_one_pure (M := ev_Mlaw) (pc := 849) (i := .iload 4) (len := 2) (pc' := 851) (lv' := [(5, .int (1)), (4, .int (0)), (3, .ref 723), (2, .ref 621), (1, .ref 0), (0, .retAddr 0)]) (st' := [.int (0), .retAddr 0, .int (2), .int x1, .ref 621]) (by decide +kernel) rfl) ?_
  refine ev_go0 (ev_w_iconst (M := ev_Mlaw) (pc := 851) (k := 3) (v := 3) (by decide +kernel) (by decide +kernel)) ?_
  refine ev_go0 (ev_w_iadd (M := ev_Mlaw) (pc := 852) (v := (3)) (by decide +kernel) (by decide +kernel)) ?_
  refine ev_go0 (ev_w_scr (M := ev_Mlaw) (pc := 853) (v := x3) (j := 3) (by decide +kernel) (by decide +kernel) (by decide +kernel) e3) ?_
  refine ev_go0 (ev_one_pure (M := ev_Mlaw) (pc := 854) (i := .aload_n 0) (len := 1) (pc' := 855) (lv' := [(5, .int (1)), (4, .int (0)), (3, .ref 723), (2, .ref 621), (1, .ref 0), (0, .retAddr 0)]) (st' := [.retAddr 0, .int x3, .int (2), .int x1, .ref 621]) (by decide +kernel) rfl) ?_
  refine ev_go0 (ev_one_pure (M := ev_Mlaw) (pc := 855) (i := .iload 4) (len := 2) (pc' := 857) (lv' := [(5, .int (1)), (4, .int (0)), (3, .ref 723), (2, .ref 621), (1, .ref 0), (0, .retAddr 0)]) (st' := [.int (0), .retAddr 0, .int x3, .int (2), .int x1, .ref 621]) (by decide +kernel) rfl) ?_
  refine ev_go0 (ev_w_iconst (M := ev_Mlaw) (pc := 857) (k := 4) (v := 4) (by decide +kernel) (by decide +kernel)) ?_
  refine ev_go0 (ev_w_iadd (M := ev_Mlaw) (pc := 858) (v := (4)) (by decide +kernel) (by decide +kernel)) ?_
  refine ev_go0 (ev_w_scr (M := ev_Mlaw) (pc := 859) (v := x4) (j := 4) (by decide +kernel) (by decide +kernel) (by decide +kernel) e4) ?_
  refine ev_go0 (ev_p_virt (M := ev_Mlaw) (pc := 860) (x := 170) (mi := 329) (na := 4) (by decide +kernel) (by decide +kernel) (by decide +kernel) (by decide +kernel) rfl rfl (ev_recv_of ev_fH621) (ev_k177 x1 hl_x1 x3 x4)) ?_
  refine ev_go0 (ev_w_istore (M := ev_Mlaw) (pc := 863) (k := 6) (lv' := [(6, .int (0)), (5, .int (1)), (4, .int (0)), (3, .ref 723), (2, .ref 621), (1, .ref 0), (0, .retAddr 0)]) (by decide +kernel) (by decide +kernel) rfl) ?_
  refine ev_go0 (ev_one_pure (M := ev_Mlaw) (pc := 865) (i := .aload_n 2) (len := 1) (pc' := 866) (lv' := [(6, .int (0)), (5, .int (1)), (4, .int (0)), (3, .ref 723), (2, .ref 621), (1, .ref 0), (0, .retAddr 0)]) (st' := [.ref 621]) (by decide +kernel) rfl) ?_
  refine ev_go0 (ev_p_virt (M := ev_Mlaw) (pc := 866) (x := 131) (mi := 220) (na := 0) (by decide +kernel) (by decide +kernel) (by decide +kernel) (by decide +kernel) rfl rfl (ev_recv_of (ev_hself ev_fH621)) ev_k26) ?_
  refine ev_go0 (ev_one_pure (M := ev_Mlaw) (pc := 869) (i := .iload 5) (len := 2) (pc' := 871) (lv' := [(6, .int (0)), (5, .int (1)), (4, .int (0)), (3, .ref 723), (2, .ref 621), (1, .ref 0), (0, .retAddr 0)]) (st' := [.int (1), .int (1)]) (by decide +kernel) rfl) ?_
  refine ev_go0 (ev_w_icmp (M := ev_Mlaw) (pc := 871) (q := .eq) (o := 5) (b := true) (t := 876) (by decide +kernel) (by decide +kernel) rfl) ?_
  refine ev_go0 (ev_one_pure (M := ev_Mlaw) (pc := 876) (i := .iload 5) (len := 2) (pc' := 878) (lv' := [(6, .int (0)), (5, .int (1)), (4, .int (0)), (3, .ref 723), (2, .ref 621), (1, .ref 0), (0, .retAddr 0)]) (st' := [.int (1)]) (by decide +kernel) rfl) ?_
  refine ev_go0 (ev_w_if (M := ev_Mlaw) (pc := 878) (q := .ne) (o := 15) (b := true) (t := 893) (by decide +kernel) (by decide +kernel) rfl) ?_
  refine ev_go0 (ev_one_pure (M := ev_Mlaw) (pc := 893) (i := .goto 1379) (len := 3) (pc' := 2272) (lv' := [(6, .int (0)), (5, .int (1)), (4, .int (0)), (3, .ref 723), (2, .ref 621), (1, .ref 0), (0, .retAddr 0)]) (st' := []) (by decide +kernel) rfl) ?_
  rfl
theorem ev_k178 (x1 : Int32) (hl_x1 : (0 : Int) ≤ x1.toInt) (x2 : Int32) (hl_x2 : (3 : Int) ≤ x2.toInt) (x3 : Int32) (x4 : Int32) {n : Nat} : ev_calld 11 177 [.ref 0, .int x1, .int x2, .int x3, .int x4] ev_H0 n = some (.inr "java/lang/IndexOutOfBoundsException", ev_H0, n, 1, 6) := by
  refine ev_call_thrown (k := 7) (pcR := 12) (x := 160) (lv' := [(0, .ref 0), (1, .int x1), (2, .int x2), (3, .int x3), (4, .int x4)]) (by decide +kernel) rfl ?_ (by decide +kernel) (by decide +kernel) (by decide +kernel) (by decide) (by decide)
  show ev_stepn _ 7 (0, [(0, .ref 0), (1, .int x1), (2, .int x2), (3, .int x3), (4, .int x4)], [], _, _, 0, 0) = _
  refine ev_go0 (ev_one_pure (M := (ev_Mof 177)) (pc := 0) (i := .aload_n 0) (len := 1) (pc' := 1) (lv' := [(0, .ref 0), (1, .int x1), (2, .int x2), (3, .int x3), (4, .int x4)]) (st' := [.ref 0]) (by decide +kernel) rfl) ?_
  refine ev_go0 (ev_one_pure (M := (ev_Mof 177)) (pc := 1) (i := .iload_n 1) (len := 1) (pc' := 2) (lv' := [(0, .ref 0), (1, .int x1), (2, .int x2), (3, .int x3), (4, .int x4)]) (st' := [.int x1, .ref 0]) (by decide +kernel) rfl) ?_
  refine ev_go0 (ev_one_pure (M := (ev_Mof 177)) (pc := 2) (i := .iload_n 2) (len := 1) (pc' := 3) (lv' := [(0, .ref 0), (1, .int x1), (2, .int x2), (3, .int x3), (4, .int x4)]) (st' := [.int x2, .int x1, .ref 0]) (by decide +kernel) rfl) ?_
  refine ev_go0 (ev_one_pure (M := (ev_Mof 177)) (pc := 3) (i := .iload_n 3) (len := 1) (pc' := 4) (lv' := [(0, .ref 0), (1, .int x1), (2, .int x2), (3, .int x3), (4, .int x4)]) (st' := [.int x3, .int x2, .int x1, .ref 0]) (by decide +kernel) rfl) ?_
  refine ev_go0 (ev_one_pure (M := (ev_Mof 177)) (pc := 4) (i := .iload 4) (len := 2) (pc' := 6) (lv' := [(0, .ref 0), (1, .int x1), (2, .int x2), (3, .int x3), (4, .int x4)]) (st' := [.int x4, .int x3, .int x2, .int x1, .ref 0]) (by decide +kernel) rfl) ?_
  refine ev_go0 (ev_p_virt (M := (ev_Mof 177)) (pc := 6) (x := 205) (mi := 203) (na := 4) (by decide +kernel) (by decide +kernel) (by decide +kernel) (by decide +kernel) rfl rfl (ev_recv_of ev_fH0) (ev_k134 x1 hl_x1 x2 hl_x2 x3 x4)) ?_
  refine ev_go0 (ev_w_if (M := (ev_Mof 177)) (pc := 9) (q := .ne) (o := 13) (b := false) (t := 12) (by decide +kernel) (by decide +kernel) rfl) ?_
  rfl
theorem ev_k179 (x1 : Int32) (hl_x1 : (0 : Int) ≤ x1.toInt) (x2 : Int32) (hl_x2 : (3 : Int) ≤ x2.toInt) (x3 : Int32) (x4 : Int32) {n : Nat} : ev_calld 12 374 [.ref 0, .int x1, .int x2, .int x3, .int x4, .ref 723] ev_H0 n = some (.inl (some (.int (1))), ev_H0, n, 1, 6) := by
  refine ev_call_int (k := 10) (pcR := 20) (lv' := [(6, .retAddr 1), (0, .ref 0), (1, .int x1), (2, .int x2), (3, .int x3), (4, .int x4), (5, .ref 723)]) (v := (1)) (ty := .int) (by decide +kernel) rfl ?_ (by decide +kernel) (by decide +kernel) (by decide +kernel) (by decide)
  show ev_stepn _ 10 (0, [(0, .ref 0), (1, .int x1), (2, .int x2), (3, .int x3), (4, .int x4), (5, .ref 723)], [], _, _, 0, 0) = _
  refine ev_go0 (ev_one_pure (M := (ev_Mof 374)) (pc := 0) (i := .aload 5) (len := 2) (pc' := 2) (lv' := [(0, .ref 0), (1, .int x1), (2, .int x2), (3, .int x3), (4, .int x4), (5, .ref 723)]) (st' := [.ref 723]) (by decide +kernel) rfl) ?_
  refine ev_go0 (ev_w_iconst (M := (ev_Mof 374)) (pc := 2) (k := 0) (v := 0) (by decide +kernel) (by decide +kernel)) ?_
  refine ev_go0 (ev_one_pure (M := (ev_Mof 374)) (pc := 3) (i := .aload_n 0) (len := 1) (pc' := 4) (lv' := [(0, .ref 0), (1, .int x1), (2, .int x2), (3, .int x3), (4, .int x4), (5, .ref 723)]) (st' := [.ref 0, .int (0), .ref 723]) (by decide +kernel) rfl) ?_
  refine ev_go0 (ev_one_pure (M := (ev_Mof 374)) (pc := 4) (i := .iload_n 1) (len := 1) (pc' := 5) (lv' := [(0, .ref 0), (1, .int x1), (2, .int x2), (3, .int x3), (4, .int x4), (5, .ref 723)]) (st' := [.int x1, .ref 0, .int (0), .ref 723]) (by decide +kernel) rfl) ?_
  refine ev_go0 (ev_one_pure (M := (ev_Mof 374)) (pc := 5) (i := .iload_n 2) (len := 1) (pc' := 6) (lv' := [(0, .ref 0), (1, .int x1), (2, .int x2), (3, .int x3), (4, .int x4), (5, .ref 723)]) (st' := [.int x2, .int x1, .ref 0, .int (0), .ref 723]) (by decide +kernel) rfl) ?_
  refine ev_go0 (ev_one_pure (M := (ev_Mof 374)) (pc := 6) (i := .iload_n 3) (len := 1) (pc' := 7) (lv' := [(0, .ref 0), (1, .int x1), (2, .int x2), (3, .int x3), (4, .int x4), (5, .ref 723)]) (st' := [.int x3, .int x2, .int x1, .ref 0, .int (0), .ref 723]) (by decide +kernel) rfl) ?_
  refine ev_go0 (ev_one_pure (M := (ev_Mof 374)) (pc := 7) (i := .iload 4) (len := 2) (pc' := 9) (lv' := [(0, .ref 0), (1, .int x1), (2, .int x2), (3, .int x3), (4, .int x4), (5, .ref 723)]) (st' := [.int x4, .int x3, .int x2, .int x1, .ref 0, .int (0), .ref 723]) (by decide +kernel) rfl) ?_
  refine ev_go (ev_p_virtX (M := (ev_Mof 374)) (pc := 9) (x := 50) (t := 17) (mi := 177) (na := 4) (by decide +kernel) (by decide +kernel) (by decide +kernel) (by decide +kernel) rfl rfl (ev_recv_of ev_fH0) (ev_k178 x1 hl_x1 x2 hl_x2 x3 x4) (by decide +kernel)) ?_
  refine ev_go0 (ev_w_astore (M := (ev_Mof 374)) (pc := 17) (k := 6) (lv' := [(6, .retAddr 1), (0, .ref 0), (1, .int x1), (2, .int x2), (3, .int x3), (4, .int x4), (5, .ref 723)]) (by decide +kernel) (by decide +kernel) (Or.inr (Or.inr ⟨_, rfl⟩)) rfl) ?_
  refine ev_go0 (ev_w_iconst (M := (ev_Mof 374)) (pc := 19) (k := 1) (v := 1) (by decide +kernel) (by decide +kernel)) ?_
  rfl
theorem ev_k180 (x1 : Int32) (hl_x1 : (0 : Int) ≤ x1.toInt) (x2 : Int32) (hl_x2 : (3 : Int) ≤ x2.toInt) (x3 : Int32) (x4 : Int32) {n : Nat} : ev_calld 11 328 [.ref 621, .int x1, .int x2, .int x3, .int x4] ev_H0 n = some (.inl (some (.int (0))), (ev_H0.set 621 (.inr (13, (ev_F621.set 0 (.int (1)))))), n, 0, 0) := by
  refine ev_call_int (k := 11) (pcR := 49) (lv' := [(0, .ref 621), (1, .int x1), (2, .int x2), (3, .int x3), (4, .int x4)]) (v := (0)) (ty := .int) (by decide +kernel) rfl ?_ (by decide +kernel) (by decide +kernel) (by decide +kernel) (by decide)
  show ev_stepn _ 11 (0, [(0, .ref 621), (1, .int x1), (2, .int x2), (3, .int x3), (4, .int x4)], [], _, _, 0, 0) = _
  refine ev_go0 (ev_one_pure (M := (ev_Mof 328)) (pc := 0) (i := .aload_n 0) (len := 1) (pc' := 1) (lv' := [(0, .ref 621), (1, .int x1), (2, .int x2), (3, .int x3), (4, .int x4)]) (st' := [.ref 621]) (by decide +kernel) rfl) ?_
  refine ev_go0 (ev_one_pure (M := (ev_Mof 328)) (pc := 1) (i := .aload_n 0) (len := 1) (pc' := 2) (lv' := [(0, .ref 621), (1, .int x1), (2, .int x2), (3, .int x3), (4, .int x4)]) (st' := [.ref 621, .ref 621]) (by decide +kernel) rfl) ?_
  refine ev_go0 (ev_one_pure (M := (ev_Mof 328)) (pc := 2) (i := .iload_n 1) (len := 1) (pc' := 3) (lv' := [(0, .ref 621), (1, .int x1), (2, .int x2), (3, .int x3), (4, .int x4)]) (st' := [.int x1, .ref 621, .ref 621]) (by decide +kernel) rfl) ?_
  refine ev_go0 (ev_p_virt (M := (ev_Mof 328)) (pc := 3) (x := 531) (mi := 273) (na := 1) (by decide +kernel) (by decide +kernel) (by decide +kernel) (by decide +kernel) rfl rfl (ev_recv_of ev_fH621) (ev_k163 x1 hl_x1)) ?_
  refine ev_go0 (ev_w_if (M := (ev_Mof 328)) (pc := 6) (q := .eq) (o := 31) (b := true) (t := 37) (by decide +kernel) (by decide +kernel) rfl) ?_
  refine ev_go0 (ev_w_iconst (M := (ev_Mof 328)) (pc := 37) (k := 1) (v := 1) (by decide +kernel) (by decide +kernel)) ?_
  refine ev_go0 (ev_p_putf (M := (ev_Mof 328)) (pc := 38) (x := 321) (ci := 13) (f := 0) (by decide +kernel) (by decide +kernel) ev_fH621 rfl (by decide +kernel)) ?_
  refine ev_go0 (ev_one_pure (M := (ev_Mof 328)) (pc := 41) (i := .aload_n 0) (len := 1) (pc' := 42) (lv' := [(0, .ref 621), (1, .int x1), (2, .int x2), (3, .int x3), (4, .int x4)]) (st' := [.ref 621]) (by decide +kernel) rfl) ?_
  refine ev_go0 (ev_p_getf (M := (ev_Mof 328)) (pc := 42) (x := 321) (ci := 13) (f := 0) (fin := 0) (v := .int (1)) (by decide +kernel) (by decide +kernel) (ev_hself ev_fH621) rfl) ?_
  refine ev_go0 (ev_w_if (M := (ev_Mof 328)) (pc := 45) (q := .le) (o := 5) (b := false) (t := 48) (by decide +kernel) (by decide +kernel) rfl) ?_
  refine ev_go0 (ev_w_iconst (M := (ev_Mof 328)) (pc := 48) (k := 0) (v := 0) (by decide +kernel) (by decide +kernel)) ?_
  rfl
theorem ev_k181 (x1 : Int32) (hl_x1 : (0 : Int) ≤ x1.toInt) (x2 : Int32) (hl_x2 : (3 : Int) ≤ x2.toInt) (x3 : Int32) (x4 : Int32) {n : Nat} : ev_calld 12 329 [.ref 621, .int x1, .int x2, .int x3, .int x4] ev_H0 n = some (.inl (some (.int (0))), (ev_H0.set 621 (.inr (13, (ev_F621.set 0 (.int (1)))))), n, 0, 0) := by
  refine ev_call_int (k := 6) (pcR := 9) (lv' := [(0, .ref 621), (1, .int x1), (2, .int x2), (3, .int x3), (4, .int x4)]) (v := (0)) (ty := .int) (by decide +kernel) rfl ?_ (by decide +kernel) (by decide +kernel) (by decide +kernel) (by decide)
  show ev_stepn _ 6 (0, [(0, .ref 621), (1, .int x1), (2, .int x2), (3, .int x3), (4, .int x4)], [], _, _, 0, 0) = _
  refine ev_go0 (ev_one_pure (M := (ev_Mof 329)) (pc := 0) (i := .aload_n 0) (len := 1) (pc' := 1) (lv' := [(0, .ref 621), (1, .int x1), (2, .int x2), (3, .int x3), (4, .int x4)]) (st' := [.ref 621]) (by decide +kernel) rfl) ?_
  refine ev_go0 (ev_one_pure (M := (ev_Mof 329)) (pc := 1) (i := .iload_n 1) (len := 1) (pc' := 2) (lv' := [(0, .ref 621), (1, .int x1), (2, .int x2), (3, .int x3), (4, .int x4)]) (st' := [.int x1, .ref 621]) (by decide +kernel) rfl) ?_
  refine ev_go0 (ev_one_pure (M := (ev_Mof 329)) (pc := 2) (i := .iload_n 2) (len := 1) (pc' := 3) (lv' := [(0, .ref 621), (1, .int x1), (2, .int x2), (3, .int x3), (4, .int x4)]) (st' := [.int x2, .int x1, .ref 621]) (by decide +kernel) rfl) ?_
  refine ev_go0 (ev_one_pure (M := (ev_Mof 329)) (pc := 3) (i := .iload_n 3) (len := 1) (pc' := 4) (lv' := [(0, .ref 621), (1, .int x1), (2, .int x2), (3, .int x3), (4, .int x4)]) (st' := [.int x3, .int x2, .int x1, .ref 621]) (by decide +kernel) rfl) ?_
  refine ev_go0 (ev_one_pure (M := (ev_Mof 329)) (pc := 4) (i := .iload 4) (len := 2) (pc' := 6) (lv' := [(0, .ref 621), (1, .int x1), (2, .int x2), (3, .int x3), (4, .int x4)]) (st' := [.int x4, .int x3, .int x2, .int x1, .ref 621]) (by decide +kernel) rfl) ?_
  refine ev_go0 (ev_p_virt (M := (ev_Mof 329)) (pc := 6) (x := 732) (mi := 328) (na := 4) (by decide +kernel) (by decide +kernel) (by decide +kernel) (by decide +kernel) rfl rfl (ev_recv_of ev_fH621) (ev_k180 x1 hl_x1 x2 hl_x2 x3 x4)) ?_
  rfl
theorem ev_p1_11_pg (xs : Nat → Int32) (x1 : Int32) (hl_x1 : (0 : Int) ≤ x1.toInt) (x2 : Int32) (hl_x2 : (3 : Int) ≤ x2.toInt) (x3 : Int32) (x4 : Int32) (e1 : xs 1 = x1) (e2 : xs 2 = x2) (e3 : xs 3 = x3) (e4 : xs 4 = x4) : ev_P1 xs 804 := by
  refine ⟨54, [(6, .int (0)), (5, .int (1)), (4, .int (0)), (3, .ref 723), (2, .ref 621), (1, .ref 0), (0, .retAddr 0)], (ev_H0.set 621 (.inr (13, (ev_F621.set 0 (.int (1)))))), 724, 725, 3553592, ?_, ⟨rfl, rfl, rfl, rfl⟩, rfl, by decide, by decide⟩
  show ev_stepn _ _ (804, [(4, .int (0)), (3, .ref 723), (2, .ref 621), (1, .ref 0), (0, .retAddr 0)], [], _, _, _, _) = _
  refine ev_go0 (ev_one_pure (M := ev_Mlaw) (pc := 804) (i := .aload_n 1) (len := 1) (pc' := 805) (lv' := [(4, .int (0)), (3, .ref 723), (2, .ref 621), (1, .ref 0), (0, .retAddr 0)]) (st' := [.ref 0]) (by decide +kernel) rfl) ?_
  refine ev_go0 (ev_one_pure (M := ev_Mlaw) (pc := 805) (i := .aload_n 0) (len := 1) (pc' := 806) (lv' := [(4, .int (0)), (3, .ref 723), (2, .ref 621), (1, .ref 0), (0, .retAddr 0)]) (st' := [.retAddr 0, .ref 0]) (by decide +kernel) rfl) ?_
  refine ev_go0 (ev_one_pure (M := ev_Mlaw) (pc := 806) (i := .iload 4) (len := 2) (pc' := 808) (lv' := [(4, .int (0)), (3, .ref 723), (2, .ref 621), (1, .ref 0), (0, .retAddr 0)]) (st' := [.int (0), .retAddr 0, .ref 0]) (by decide +kernel) rfl) ?_
  refine ev_go0 (ev_w_iconst (M := ev_Mlaw) (pc := 808) (k := 1) (v := 1) (by decide +kernel) (by decide +kernel)) ?_
  refine ev_go0 (ev_w_iadd (M := ev_Mlaw) (pc := 809) (v := (1)) (by decide +kernel) (by decide +kernel)) ?_
  refine ev_go0 (ev_w_scr (M := ev_Mlaw) (pc := 810) (v := x1) (j := 1) (by decide +kernel) (by decide +kernel) (by decide +kernel) e1) ?_
  refine ev_go0 (ev_one_pure (M := ev_Mlaw) (pc := 811) (i := .aload_n 0) (len := 1) (pc' := 812) (lv' := [(4, .int (0)), (3, .ref 723), (2, .ref 621), (1, .ref 0), (0, .retAddr 0)]) (st' := [.retAddr 0, .int x1, .ref 0]) (by decide +kernel) rfl) ?_
  refine ev_go0 (ev_one_pure (M := ev_Mlaw) (pc := 812) (i := .iload 4) (len := 2) (pc' := 814) (lv' := [(4, .int (0)), (3, .ref 723), (2, .ref 621), (1, .ref 0), (0, .retAddr 0)]) (st' := [.int (0), .retAddr 0, .int x1, .ref 0]) (by decide +kernel) rfl) ?_
  refine ev_go0 (ev_w_iconst (M := ev_Mlaw) (pc := 814) (k := 2) (v := 2) (by decide +kernel) (by decide +kernel)) ?_
  refine ev_go0 (ev_w_iadd (M := ev_Mlaw) (pc := 815) (v := (2)) (by decide +kernel) (by decide +kernel)) ?_
  refine ev_go0 (ev_w_scr (M := ev_Mlaw) (pc := 816) (v := x2) (j := 2) (by decide +kernel) (by decide +kernel) (by decide +kernel) e2) ?_
  refine ev_go0 (ev_one_pure (M := ev_Mlaw) (pc := 817) (i := .aload_n 0) (len := 1) (pc' := 818) (lv' := [(4, .int (0)), (3, .ref 723), (2, .ref 621), (1, .ref 0), (0, .retAddr 0)]) (st' := [.retAddr 0, .int x2, .int x1, .ref 0]) (by decide +kernel) rfl) ?_
  refine ev_go0 (ev_one_pure (M := ev_Mlaw) (pc := 818) (i := .iload 4) (len := 2) (pc' := 820) (lv' := [(4, .int (0)), (3, .ref 723), (2, .ref 621), (1, .ref 0), (0, .retAddr 0)]) (st' := [.int (0), .retAddr 0, .int x2, .int x1, .ref 0]) (by decide +kernel) rfl) ?_
  refine ev_go0 (ev_w_iconst (M := ev_Mlaw) (pc := 820) (k := 3) (v := 3) (by decide +kernel) (by decide +kernel)) ?_
  refine ev_go0 (ev_w_iadd (M := ev_Mlaw) (pc := 821) (v := (3)) (by decide +kernel) (by decide +kernel)) ?_
  refine ev_go0 (ev_w_scr (M := ev_Mlaw) (pc := 822) (v := x3) (j := 3) (by decide +kernel) (by decide +kernel) (by decide +kernel) e3) ?_
  refine ev_go0 (ev_one_pure (M := ev_Mlaw) (pc := 823) (i := .aload_n 0) (len := 1) (pc' := 824) (lv' := [(4, .int (0)), (3, .ref 723), (2, .ref 621), (1, .ref 0), (0, .retAddr 0)]) (st' := [.retAddr 0, .int x3, .int x2, .int x1, .ref 0]) (by decide +kernel) rfl) ?_
  refine ev_go0 (ev_one_pure (M := ev_Mlaw) (pc := 824) (i := .iload 4) (len := 2) (pc' := 826) (lv' := [(4, .int (0)), (3, .ref 723), (2, .ref 621), (1, .ref 0), (0, .retAddr 0)]) (st' := [.int (0), .retAddr 0, .int x3, .int x2, .int x1, .ref 0]) (by decide +kernel) rfl) ?_
  refine ev_go0 (ev_w_iconst (M := ev_Mlaw) (pc := 826) (k := 4) (v := 4) (by decide +kernel) (by decide +kernel)) ?_
  refine ev_go0 (ev_w_iadd (M := ev_Mlaw) (pc := 827) (v := (4)) (by decide +kernel) (by decide +kernel)) ?_
  refine ev_go0 (ev_w_scr (M := ev_Mlaw) (pc := 828) (v := x4) (j := 4) (by decide +kernel) (by decide +kernel) (by decide +kernel) e4) ?_
  refine ev_go0 (ev_one_pure (M := ev_Mlaw) (pc := 829) (i := .aload_n 3) (len := 1) (pc' := 830) (lv' := [(4, .int (0)), (3, .ref 723), (2, .ref 621), (1, .ref 0), (0, .retAddr 0)]) (st' := [.ref 723, .int x4, .int x3, .int x2, .int x1, .ref 0]) (by decide +kernel) rfl) ?_
  refine ev_go (ev_w_stat (M := ev_Mlaw) (pc := 830) (y := 168) (kind := 8) (Or.inr (Or.inr rfl)) (mi := 374) (na := 6) (by decide +kernel) (by decide +kernel) (by decide +kernel) (by decide +kernel) rfl rfl (ev_k179 x1 hl_x1 x2 hl_x2 x3 x4)) ?_
  refine ev_go0 (ev_w_istore (M := ev_Mlaw) (pc := 833) (k := 5) (lv' := [(5, .int (1)), (4, .int (0)), (3, .ref 723), (2, .ref 621), (1, .ref 0), (0, .retAddr 0)]) (by decide +kernel) (by decide +kernel) rfl) ?_
  refine ev_go0 (ev_one_pure (M := ev_Mlaw) (pc := 835) (i := .aload_n 2) (len := 1) (pc' := 836) (lv' := [(5, .int (1)), (4, .int (0)), (3, .ref 723), (2, .ref 621), (1, .ref 0), (0, .retAddr 0)]) (st' := [.ref 621]) (by decide +kernel) rfl) ?_
  refine ev_go0 (ev_one_pure (M := ev_Mlaw) (pc := 836) (i := .aload_n 0) (len := 1) (pc' := 837) (lv' := [(5, .int (1)), (4, .int (0)), (3, .ref 723), (2, .ref 621), (1, .ref 0), (0, .retAddr 0)]) (st' := [.retAddr 0, .ref 621]) (by decide +kernel) rfl) ?_
  refine ev_go0 (ev_one_pure (M := ev_Mlaw) (pc := 837) (i := .iload 4) (len := 2) (pc' := 839) (lv' := [(5, .int (1)), (4, .int (0)), (3, .ref 723), (2, .ref 621), (1, .ref 0), (0, .retAddr 0)]) (st' := [.int (0), .retAddr 0, .ref 621]) (by decide +kernel) rfl) ?_
  refine ev_go0 (ev_w_iconst (M := ev_Mlaw) (pc := 839) (k := 1) (v := 1) (by decide +kernel) (by decide +kernel)) ?_
  refine ev_go0 (ev_w_iadd (M := ev_Mlaw) (pc := 840) (v := (1)) (by decide +kernel) (by decide +kernel)) ?_
  refine ev_go0 (ev_w_scr (M := ev_Mlaw) (pc := 841) (v := x1) (j := 1) (by decide +kernel) (by decide +kernel) (by decide +kernel) e1) ?_
  refine ev_go0 (ev_one_pure (M := ev_Mlaw) (pc := 842) (i := .aload_n 0) (len := 1) (pc' := 843) (lv' := [(5, .int (1)), (4, .int (0)), (3, .ref 723), (2, .ref 621), (1, .ref 0), (0, .retAddr 0)]) (st' := [.retAddr 0, .int x1, .ref 621]) (by decide +kernel) rfl) ?_
  refine ev_go0 (ev_one_pure (M := ev_Mlaw) (pc := 843) (i := .iload 4) (len := 2) (pc' := 845) (lv' := [(5, .int (1)), (4, .int (0)), (3, .ref 723), (2, .ref 621), (1, .ref 0), (0, .retAddr 0)]) (st' := [.int (0), .retAddr 0, .int x1, .ref 621]) (by decide +kernel) rfl) ?_
  refine ev_go0 (ev_w_iconst (M := ev_Mlaw) (pc := 845) (k := 2) (v := 2) (by decide +kernel) (by decide +kernel)) ?_
  refine ev_go0 (ev_w_iadd (M := ev_Mlaw) (pc := 846) (v := (2)) (by decide +kernel) (by decide +kernel)) ?_
  refine ev_go0 (ev_w_scr (M := ev_Mlaw) (pc := 847) (v := x2) (j := 2) (by decide +kernel) (by decide +kernel) (by decide +kernel) e2) ?_
  refine ev_go0 (ev_one_pure (M := ev_Mlaw) (pc := 848) (i := .aload_n 0) (len := 1) (pc' := 849) (lv' := [(5, .int (1)), (4, .int (0)), (3, .ref 723), (2, .ref 621), (1, .ref 0), (0, .retAddr 0)]) (st' := [.retAddr 0, .int x2, .int x1, .ref 621]) (by decide +kernel) rfl) ?_
  refine ev_go0 (ev_one_pure (M := ev_Mlaw) (pc := 849) (i := .iload 4) (len := 2) (pc' := 851) (lv' := [(5, .int (1)), (4, .int (0)), (3, .ref 723), (2, .ref 621), (1, .ref 0), (0, .retAddr 0)]) (st' := [.int (0), .retAddr 0, .int x2, .int x1, .ref 621]) (by decide +kernel) rfl) ?_
  refine ev_go0 (ev_w_iconst (M := ev_Mlaw) (pc := 851) (k := 3) (v := 3) (by decide +kernel) (by decide +kernel)) ?_
  refine ev_go0 (ev_w_iadd (M := ev_Mlaw) (pc := 852) (v := (3)) (by decide +kernel) (by decide +kernel)) ?_
  refine ev_go0 (ev_w_scr (M := ev_Mlaw) (pc := 853) (v := x3) (j := 3) (by decide +kernel) (by decide +kernel) (by decide +kernel) e3) ?_
  refine ev_go0 (ev_one_pure (M := ev_Mlaw) (pc := 854) (i := .aload_n 0) (len := 1) (pc' := 855) (lv' := [(5, .int (1)), (4, .int (0)), (3, .ref 723), (2, .ref 621), (1, .ref 0), (0, .retAddr 0)]) (st' := [.retAddr 0, .int x3, .int x2, .int x1, .ref 621]) (by decide +kernel) rfl) ?_
  refine ev_go0 (ev_one_pure (M := ev_Mlaw) (pc := 855) (i := .iload 4) (len := 2) (pc' := 857) (lv' := [(5, .int (1)), (4, .int (0)), (3, .ref 723), (2, .ref 621), (1, .ref 0), (0, .retAddr 0)]) (st' := [.int (0), .retAddr 0, .int x3, .int x2, .int x1, .ref 621]) (by decide +kernel) rfl) ?_
  refine ev_go0 (ev_w_iconst (M := ev_Mlaw) (pc := 857) (k := 4) (v := 4) (by decide +kernel) (by decide +kernel)) ?_
  refine ev_go0 (ev_w_iadd (M := ev_Mlaw) (pc := 858) (v := (4)) (by decide +kernel) (by decide +kernel)) ?_
  refine ev_go0 (ev_w_scr (M := ev_Mlaw) (pc := 859) (v := x4) (j := 4) (by decide +kernel) (by decide +kernel) (by decide +kernel) e4) ?_
  refine ev_go0 (ev_p_virt (M := ev_Mlaw) (pc := 860) (x := 170) (mi := 329) (na := 4) (by decide +kernel) (by decide +kernel) (by decide +kernel) (by decide +kernel) rfl rfl (ev_recv_of ev_fH621) (ev_k181 x1 hl_x1 x2 hl_x2 x3 x4)) ?_
  refine ev_go0 (ev_w_istore (M := ev_Mlaw) (pc := 863) (k := 6) (lv' := [(6, .int (0)), (5, .int (1)), (4, .int (0)), (3, .ref 723), (2, .ref 621), (1, .ref 0), (0, .retAddr 0)]) (by decide +kernel) (by decide +kernel) rfl) ?_
  refine ev_go0 (ev_one_pure (M := ev_Mlaw) (pc := 865) (i := .aload_n 2) (len := 1) (pc' := 866) (lv' := [(6, .int (0)), (5, .int (1)), (4, .int (0)), (3, .ref 723), (2, .ref 621), (1, .ref 0), (0, .retAddr 0)]) (st' := [.ref 621]) (by decide +kernel) rfl) ?_
  refine ev_go0 (ev_p_virt (M := ev_Mlaw) (pc := 866) (x := 131) (mi := 220) (na := 0) (by decide +kernel) (by decide +kernel) (by decide +kernel) (by decide +kernel) rfl rfl (ev_recv_of (ev_hself ev_fH621)) ev_k26) ?_
  refine ev_go0 (ev_one_pure (M := ev_Mlaw) (pc := 869) (i := .iload 5) (len := 2) (pc' := 871) (lv' := [(6, .int (0)), (5, .int (1)), (4, .int (0)), (3, .ref 723), (2, .ref 621), (1, .ref 0), (0, .retAddr 0)]) (st' := [.int (1), .int (1)]) (by decide +kernel) rfl) ?_
  refine ev_go0 (ev_w_icmp (M := ev_Mlaw) (pc := 871) (q := .eq) (o := 5) (b := true) (t := 876) (by decide +kernel) (by decide +kernel) rfl) ?_
  refine ev_go0 (ev_one_pure (M := ev_Mlaw) (pc := 876) (i := .iload 5) (len := 2) (pc' := 878) (lv' := [(6, .int (0)), (5, .int (1)), (4, .int (0)), (3, .ref 723), (2, .ref 621), (1, .ref 0), (0, .retAddr 0)]) (st' := [.int (1)]) (by decide +kernel) rfl) ?_
  refine ev_go0 (ev_w_if (M := ev_Mlaw) (pc := 878) (q := .ne) (o := 15) (b := true) (t := 893) (by decide +kernel) (by decide +kernel) rfl) ?_
  refine ev_go0 (ev_one_pure (M := ev_Mlaw) (pc := 893) (i := .goto 1379) (len := 3) (pc' := 2272) (lv' := [(6, .int (0)), (5, .int (1)), (4, .int (0)), (3, .ref 723), (2, .ref 621), (1, .ref 0), (0, .retAddr 0)]) (st' := []) (by decide +kernel) rfl) ?_
  rfl
theorem ev_p1arm11 (xs : Nat → Int32) : ev_P1 xs 804 := by
  rcases ev_split2 (xs 1) with h1 | h1
  · skip
    rcases ev_split5 (xs 2) with h2 | h2 | h2 | h2 | h2
    · skip
      exact ev_p1_11_nn xs (xs 1) h1 (xs 2) h2 (xs 3) (xs 4) rfl rfl rfl rfl
    · skip
      exact ev_p1_11_n0 xs (xs 1) h1 (xs 3) (xs 4) rfl h2 rfl rfl
    · skip
      exact ev_p1_11_n1 xs (xs 1) h1 (xs 3) (xs 4) rfl h2 rfl rfl
    · skip
      exact ev_p1_11_n2 xs (xs 1) h1 (xs 3) (xs 4) rfl h2 rfl rfl
    · skip
      exact ev_p1_11_ng xs (xs 1) h1 (xs 2) h2 (xs 3) (xs 4) rfl rfl rfl rfl
  · skip
    rcases ev_split5 (xs 2) with h2 | h2 | h2 | h2 | h2
    · skip
      exact ev_p1_11_pn xs (xs 1) h1 (xs 2) h2 (xs 3) (xs 4) rfl rfl rfl rfl
    · skip
      exact ev_p1_11_p0 xs (xs 1) h1 (xs 3) (xs 4) rfl h2 rfl rfl
    · skip
      exact ev_p1_11_p1 xs (xs 1) h1 (xs 3) (xs 4) rfl h2 rfl rfl
    · skip
      exact ev_p1_11_p2 xs (xs 1) h1 (xs 3) (xs 4) rfl h2 rfl rfl
    · skip
      exact ev_p1_11_pg xs (xs 1) h1 (xs 2) h2 (xs 3) (xs 4) rfl rfl rfl rfl
theorem ev_k182 (x2 : Int32) (hu_x2 : x2.toInt ≤ (-1 : Int)) {n : Nat} : ev_calld 9 200 [.ref 0, .int x2] ev_H0 n = some (.inl (some (.null)), ev_H0, n, 0, 0) := by
  refine ev_call_ref (k := 3) (pcR := 28) (lv' := [(0, .ref 0), (1, .int x2)]) (v := .null) (C := "MendBench$Pattern") (by decide +kernel) rfl ?_ (by decide +kernel) (by decide +kernel) rfl (by decide)
  show ev_stepn _ 3 (0, [(0, .ref 0), (1, .int x2)], [], _, _, 0, 0) = _
  refine ev_go0 (ev_one_pure (M := (ev_Mof 200)) (pc := 0) (i := .iload_n 1) (len := 1) (pc' := 1) (lv' := [(0, .ref 0), (1, .int x2)]) (st' := [.int x2]) (by decide +kernel) rfl) ?_
  refine ev_go0 (ev_w_if (M := (ev_Mof 200)) (pc := 1) (q := .lt) (o := 26) (b := true) (t := 27) (by decide +kernel) (ev_c_lt1 hu_x2 (by decide +kernel)) rfl) ?_
  refine ev_go0 (ev_one_pure (M := (ev_Mof 200)) (pc := 27) (i := .aconst_null) (len := 1) (pc' := 28) (lv' := [(0, .ref 0), (1, .int x2)]) (st' := [.null]) (by decide +kernel) rfl) ?_
  rfl
theorem ev_k183 (x3 : Int32) (hu_x3 : x3.toInt ≤ (-1 : Int)) {n : Nat} : ev_calld 9 1 [.ref 254, .int x3] ev_H0 n = some (.inl (some (.null)), ev_H0, n, 0, 0) := by
  refine ev_call_ref (k := 3) (pcR := 19) (lv' := [(0, .ref 254), (1, .int x3)]) (v := .null) (C := "MendBench$Text") (by decide +kernel) rfl ?_ (by decide +kernel) (by decide +kernel) rfl (by decide)
  show ev_stepn _ 3 (0, [(0, .ref 254), (1, .int x3)], [], _, _, 0, 0) = _
  refine ev_go0 (ev_one_pure (M := (ev_Mof 1)) (pc := 0) (i := .iload_n 1) (len := 1) (pc' := 1) (lv' := [(0, .ref 254), (1, .int x3)]) (st' := [.int x3]) (by decide +kernel) rfl) ?_
  refine ev_go0 (ev_w_if (M := (ev_Mof 1)) (pc := 1) (q := .lt) (o := 17) (b := true) (t := 18) (by decide +kernel) (ev_c_lt1 hu_x3 (by decide +kernel)) rfl) ?_
  refine ev_go0 (ev_one_pure (M := (ev_Mof 1)) (pc := 18) (i := .aconst_null) (len := 1) (pc' := 19) (lv' := [(0, .ref 254), (1, .int x3)]) (st' := [.null]) (by decide +kernel) rfl) ?_
  rfl
theorem ev_k184 (x2 : Int32) (hu_x2 : x2.toInt ≤ (-1 : Int)) (x3 : Int32) (hu_x3 : x3.toInt ≤ (-1 : Int)) (x4 : Int32) (x5 : Int32) {n : Nat} : ev_calld 10 203 [.ref 0, .int x2, .int x3, .int x4, .int x5] ev_H0 n = some (.inl (some (.int (0))), ev_H0, n, 0, 0) := by
  refine ev_call_int (k := 12) (pcR := 60) (lv' := [(6, .null), (5, .null), (0, .ref 0), (1, .int x2), (2, .int x3), (3, .int x4), (4, .int x5)]) (v := (0)) (ty := .boolean) (by decide +kernel) rfl ?_ (by decide +kernel) (by decide +kernel) (by decide +kernel) (by decide)
  show ev_stepn _ 12 (0, [(0, .ref 0), (1, .int x2), (2, .int x3), (3, .int x4), (4, .int x5)], [], _, _, 0, 0) = _
  refine ev_go0 (ev_one_pure (M := (ev_Mof 203)) (pc := 0) (i := .aload_n 0) (len := 1) (pc' := 1) (lv' := [(0, .ref 0), (1, .int x2), (2, .int x3), (3, .int x4), (4, .int x5)]) (st' := [.ref 0]) (by decide +kernel) rfl) ?_
  refine ev_go0 (ev_one_pure (M := (ev_Mof 203)) (pc := 1) (i := .iload_n 1) (len := 1) (pc' := 2) (lv' := [(0, .ref 0), (1, .int x2), (2, .int x3), (3, .int x4), (4, .int x5)]) (st' := [.int x2, .ref 0]) (by decide +kernel) rfl) ?_
  refine ev_go0 (ev_p_virt (M := (ev_Mof 203)) (pc := 2) (x := 156) (mi := 200) (na := 1) (by decide +kernel) (by decide +kernel) (by decide +kernel) (by decide +kernel) rfl rfl (ev_recv_of ev_fH0) (ev_k182 x2 hu_x2)) ?_
  refine ev_go0 (ev_w_astore (M := (ev_Mof 203)) (pc := 5) (k := 5) (lv' := [(5, .null), (0, .ref 0), (1, .int x2), (2, .int x3), (3, .int x4), (4, .int x5)]) (by decide +kernel) (by decide +kernel) (Or.inr (Or.inl rfl)) rfl) ?_
  refine ev_go0 (ev_one_pure (M := (ev_Mof 203)) (pc := 7) (i := .aload_n 0) (len := 1) (pc' := 8) (lv' := [(5, .null), (0, .ref 0), (1, .int x2), (2, .int x3), (3, .int x4), (4, .int x5)]) (st' := [.ref 0]) (by decide +kernel) rfl) ?_
  refine ev_go0 (ev_p_getf (M := (ev_Mof 203)) (pc := 8) (x := 48) (ci := 12) (f := 8) (fin := 1) (v := .ref 254) (by decide +kernel) (by decide +kernel) ev_fH0 rfl) ?_
  refine ev_go0 (ev_one_pure (M := (ev_Mof 203)) (pc := 11) (i := .iload_n 2) (len := 1) (pc' := 12) (lv' := [(5, .null), (0, .ref 0), (1, .int x2), (2, .int x3), (3, .int x4), (4, .int x5)]) (st' := [.int x3, .ref 254]) (by decide +kernel) rfl) ?_
  refine ev_go0 (ev_p_virt (M := (ev_Mof 203)) (pc := 12) (x := 221) (mi := 1) (na := 1) (by decide +kernel) (by decide +kernel) (by decide +kernel) (by decide +kernel) rfl rfl (ev_recv_of ev_fH254) (ev_k183 x3 hu_x3)) ?_
  refine ev_go0 (ev_w_astore (M := (ev_Mof 203)) (pc := 15) (k := 6) (lv' := [(6, .null), (5, .null), (0, .ref 0), (1, .int x2), (2, .int x3), (3, .int x4), (4, .int x5)]) (by decide +kernel) (by decide +kernel) (Or.inr (Or.inl rfl)) rfl) ?_
  refine ev_go0 (ev_one_pure (M := (ev_Mof 203)) (pc := 17) (i := .aload 5) (len := 2) (pc' := 19) (lv' := [(6, .null), (5, .null), (0, .ref 0), (1, .int x2), (2, .int x3), (3, .int x4), (4, .int x5)]) (st' := [.null]) (by decide +kernel) rfl) ?_
  refine ev_go0 (ev_w_ifnull (M := (ev_Mof 203)) (pc := 19) (o := 40) (t := 59) (by decide +kernel) (Or.inl ⟨rfl, rfl⟩)) ?_
  refine ev_go0 (ev_w_iconst (M := (ev_Mof 203)) (pc := 59) (k := 0) (v := 0) (by decide +kernel) (by decide +kernel)) ?_
  rfl
theorem ev_k185 (x1 : Int32) (x2 : Int32) (hu_x2 : x2.toInt ≤ (-1 : Int)) (x3 : Int32) (hu_x3 : x3.toInt ≤ (-1 : Int)) (x4 : Int32) (x5 : Int32) {n : Nat} : ev_calld 11 178 [.ref 0, .int x1, .int x2, .int x3, .int x4, .int x5] ev_H0 n = some (.inr "java/lang/IndexOutOfBoundsException", ev_H0, n, 1, 6) := by
  refine ev_call_thrown (k := 7) (pcR := 13) (x := 160) (lv' := [(0, .ref 0), (1, .int x1), (2, .int x2), (3, .int x3), (4, .int x4), (5, .int x5)]) (by decide +kernel) rfl ?_ (by decide +kernel) (by decide +kernel) (by decide +kernel) (by decide) (by decide)
  show ev_stepn _ 7 (0, [(0, .ref 0), (1, .int x1), (2, .int x2), (3, .int x3), (4, .int x4), (5, .int x5)], [], _, _, 0, 0) = _
  refine ev_go0 (ev_one_pure (M := (ev_Mof 178)) (pc := 0) (i := .aload_n 0) (len := 1) (pc' := 1) (lv' := [(0, .ref 0), (1, .int x1), (2, .int x2), (3, .int x3), (4, .int x4), (5, .int x5)]) (st' := [.ref 0]) (by decide +kernel) rfl) ?_
  refine ev_go0 (ev_one_pure (M := (ev_Mof 178)) (pc := 1) (i := .iload_n 2) (len := 1) (pc' := 2) (lv' := [(0, .ref 0), (1, .int x1), (2, .int x2), (3, .int x3), (4, .int x4), (5, .int x5)]) (st' := [.int x2, .ref 0]) (by decide +kernel) rfl) ?_
  refine ev_go0 (ev_one_pure (M := (ev_Mof 178)) (pc := 2) (i := .iload_n 3) (len := 1) (pc' := 3) (lv' := [(0, .ref 0), (1, .int x1), (2, .int x2), (3, .int x3), (4, .int x4), (5, .int x5)]) (st' := [.int x3, .int x2, .ref 0]) (by decide +kernel) rfl) ?_
  refine ev_go0 (ev_one_pure (M := (ev_Mof 178)) (pc := 3) (i := .iload 4) (len := 2) (pc' := 5) (lv' := [(0, .ref 0), (1, .int x1), (2, .int x2), (3, .int x3), (4, .int x4), (5, .int x5)]) (st' := [.int x4, .int x3, .int x2, .ref 0]) (by decide +kernel) rfl) ?_
  refine ev_go0 (ev_one_pure (M := (ev_Mof 178)) (pc := 5) (i := .iload 5) (len := 2) (pc' := 7) (lv' := [(0, .ref 0), (1, .int x1), (2, .int x2), (3, .int x3), (4, .int x4), (5, .int x5)]) (st' := [.int x5, .int x4, .int x3, .int x2, .ref 0]) (by decide +kernel) rfl) ?_
  refine ev_go0 (ev_p_virt (M := (ev_Mof 178)) (pc := 7) (x := 205) (mi := 203) (na := 4) (by decide +kernel) (by decide +kernel) (by decide +kernel) (by decide +kernel) rfl rfl (ev_recv_of ev_fH0) (ev_k184 x2 hu_x2 x3 hu_x3 x4 x5)) ?_
  refine ev_go0 (ev_w_if (M := (ev_Mof 178)) (pc := 10) (q := .ne) (o := 13) (b := false) (t := 13) (by decide +kernel) (by decide +kernel) rfl) ?_
  rfl
theorem ev_k186 (x1 : Int32) (x2 : Int32) (hu_x2 : x2.toInt ≤ (-1 : Int)) (x3 : Int32) (hu_x3 : x3.toInt ≤ (-1 : Int)) (x4 : Int32) (x5 : Int32) {n : Nat} : ev_calld 12 375 [.ref 0, .int x1, .int x2, .int x3, .int x4, .int x5, .ref 723] ev_H0 n = some (.inl (some (.int (1))), ev_H0, n, 1, 6) := by
  refine ev_call_int (k := 11) (pcR := 22) (lv' := [(7, .retAddr 1), (0, .ref 0), (1, .int x1), (2, .int x2), (3, .int x3), (4, .int x4), (5, .int x5), (6, .ref 723)]) (v := (1)) (ty := .int) (by decide +kernel) rfl ?_ (by decide +kernel) (by decide +kernel) (by decide +kernel) (by decide)
  show ev_stepn _ 11 (0, [(0, .ref 0), (1, .int x1), (2, .int x2), (3, .int x3), (4, .int x4), (5, .int x5), (6, .ref 723)], [], _, _, 0, 0) = _
  refine ev_go0 (ev_one_pure (M := (ev_Mof 375)) (pc := 0) (i := .aload 6) (len := 2) (pc' := 2) (lv' := [(0, .ref 0), (1, .int x1), (2, .int x2), (3, .int x3), (4, .int x4), (5, .int x5), (6, .ref 723)]) (st' := [.ref 723]) (by decide +kernel) rfl) ?_
  refine ev_go0 (ev_w_iconst (M := (ev_Mof 375)) (pc := 2) (k := 0) (v := 0) (by decide +kernel) (by decide +kernel)) ?_
  refine ev_go0 (ev_one_pure (M := (ev_Mof 375)) (pc := 3) (i := .aload_n 0) (len := 1) (pc' := 4) (lv' := [(0, .ref 0), (1, .int x1), (2, .int x2), (3, .int x3), (4, .int x4), (5, .int x5), (6, .ref 723)]) (st' := [.ref 0, .int (0), .ref 723]) (by decide +kernel) rfl) ?_
  refine ev_go0 (ev_one_pure (M := (ev_Mof 375)) (pc := 4) (i := .iload_n 1) (len := 1) (pc' := 5) (lv' := [(0, .ref 0), (1, .int x1), (2, .int x2), (3, .int x3), (4, .int x4), (5, .int x5), (6, .ref 723)]) (st' := [.int x1, .ref 0, .int (0), .ref 723]) (by decide +kernel) rfl) ?_
  refine ev_go0 (ev_one_pure (M := (ev_Mof 375)) (pc := 5) (i := .iload_n 2) (len := 1) (pc' := 6) (lv' := [(0, .ref 0), (1, .int x1), (2, .int x2), (3, .int x3), (4, .int x4), (5, .int x5), (6, .ref 723)]) (st' := [.int x2, .int x1, .ref 0, .int (0), .ref 723]) (by decide +kernel) rfl) ?_
  refine ev_go0 (ev_one_pure (M := (ev_Mof 375)) (pc := 6) (i := .iload_n 3) (len := 1) (pc' := 7) (lv' := [(0, .ref 0), (1, .int x1), (2, .int x2), (3, .int x3), (4, .int x4), (5, .int x5), (6, .ref 723)]) (st' := [.int x3, .int x2, .int x1, .ref 0, .int (0), .ref 723]) (by decide +kernel) rfl) ?_
  refine ev_go0 (ev_one_pure (M := (ev_Mof 375)) (pc := 7) (i := .iload 4) (len := 2) (pc' := 9) (lv' := [(0, .ref 0), (1, .int x1), (2, .int x2), (3, .int x3), (4, .int x4), (5, .int x5), (6, .ref 723)]) (st' := [.int x4, .int x3, .int x2, .int x1, .ref 0, .int (0), .ref 723]) (by decide +kernel) rfl) ?_
  refine ev_go0 (ev_one_pure (M := (ev_Mof 375)) (pc := 9) (i := .iload 5) (len := 2) (pc' := 11) (lv' := [(0, .ref 0), (1, .int x1), (2, .int x2), (3, .int x3), (4, .int x4), (5, .int x5), (6, .ref 723)]) (st' := [.int x5, .int x4, .int x3, .int x2, .int x1, .ref 0, .int (0), .ref 723]) (by decide +kernel) rfl) ?_
  refine ev_go (ev_p_virtX (M := (ev_Mof 375)) (pc := 11) (x := 53) (t := 19) (mi := 178) (na := 5) (by decide +kernel) (by decide +kernel) (by decide +kernel) (by decide +kernel) rfl rfl (ev_recv_of ev_fH0) (ev_k185 x1 x2 hu_x2 x3 hu_x3 x4 x5) (by decide +kernel)) ?_
  refine ev_go0 (ev_w_astore (M := (ev_Mof 375)) (pc := 19) (k := 7) (lv' := [(7, .retAddr 1), (0, .ref 0), (1, .int x1), (2, .int x2), (3, .int x3), (4, .int x4), (5, .int x5), (6, .ref 723)]) (by decide +kernel) (by decide +kernel) (Or.inr (Or.inr ⟨_, rfl⟩)) rfl) ?_
  refine ev_go0 (ev_w_iconst (M := (ev_Mof 375)) (pc := 21) (k := 1) (v := 1) (by decide +kernel) (by decide +kernel)) ?_
  rfl
theorem ev_k187 (x2 : Int32) (hu_x2 : x2.toInt ≤ (-1 : Int)) {n : Nat} : ev_calld 10 222 [.int x2, .int (0), .int (-1)] ev_H0 n = some (.inl (some (.int (0))), ev_H0, n, 0, 0) := by
  refine ev_call_int (k := 4) (pcR := 15) (lv' := [(0, .int x2), (1, .int (0)), (2, .int (-1))]) (v := (0)) (ty := .boolean) (by decide +kernel) rfl ?_ (by decide +kernel) (by decide +kernel) (by decide +kernel) (by decide)
  show ev_stepn _ 4 (0, [(0, .int x2), (1, .int (0)), (2, .int (-1))], [], _, _, 0, 0) = _
  refine ev_go0 (ev_one_pure (M := (ev_Mof 222)) (pc := 0) (i := .iload_n 0) (len := 1) (pc' := 1) (lv' := [(0, .int x2), (1, .int (0)), (2, .int (-1))]) (st' := [.int x2]) (by decide +kernel) rfl) ?_
  refine ev_go0 (ev_one_pure (M := (ev_Mof 222)) (pc := 1) (i := .iload_n 1) (len := 1) (pc' := 2) (lv' := [(0, .int x2), (1, .int (0)), (2, .int (-1))]) (st' := [.int (0), .int x2]) (by decide +kernel) rfl) ?_
  refine ev_go0 (ev_w_icmp (M := (ev_Mof 222)) (pc := 2) (q := .lt) (o := 12) (b := true) (t := 14) (by decide +kernel) (ev_c_lt1 hu_x2 (by decide +kernel)) rfl) ?_
  refine ev_go0 (ev_w_iconst (M := (ev_Mof 222)) (pc := 14) (k := 0) (v := 0) (by decide +kernel) (by decide +kernel)) ?_
  rfl
theorem ev_k188 (x2 : Int32) (hu_x2 : x2.toInt ≤ (-1 : Int)) {n : Nat} : ev_calld 11 273 [.ref 621, .int x2] ev_H0 n = some (.inl (some (.int (0))), ev_H0, n, 0, 0) := by
  refine ev_call_int (k := 7) (pcR := 11) (lv' := [(0, .ref 621), (1, .int x2)]) (v := (0)) (ty := .boolean) (by decide +kernel) rfl ?_ (by decide +kernel) (by decide +kernel) (by decide +kernel) (by decide)
  show ev_stepn _ 7 (0, [(0, .ref 621), (1, .int x2)], [], _, _, 0, 0) = _
  refine ev_go0 (ev_one_pure (M := (ev_Mof 273)) (pc := 0) (i := .iload_n 1) (len := 1) (pc' := 1) (lv' := [(0, .ref 621), (1, .int x2)]) (st' := [.int x2]) (by decide +kernel) rfl) ?_
  refine ev_go0 (ev_w_iconst (M := (ev_Mof 273)) (pc := 1) (k := 0) (v := 0) (by decide +kernel) (by decide +kernel)) ?_
  refine ev_go0 (ev_one_pure (M := (ev_Mof 273)) (pc := 2) (i := .aload_n 0) (len := 1) (pc' := 3) (lv' := [(0, .ref 621), (1, .int x2)]) (st' := [.ref 621, .int (0), .int x2]) (by decide +kernel) rfl) ?_
  refine ev_go0 (ev_p_getf (M := (ev_Mof 273)) (pc := 3) (x := 525) (ci := 13) (f := 5) (fin := 0) (v := .int (0)) (by decide +kernel) (by decide +kernel) ev_fH621 rfl) ?_
  refine ev_go0 (ev_w_iconst (M := (ev_Mof 273)) (pc := 6) (k := 1) (v := 1) (by decide +kernel) (by decide +kernel)) ?_
  refine ev_go0 (ev_w_isub (M := (ev_Mof 273)) (pc := 7) (v := (-1)) (by decide +kernel) (by decide +kernel)) ?_
  refine ev_go0 (ev_w_stat (M := (ev_Mof 273)) (pc := 8) (y := 325) (kind := 2) (Or.inl rfl) (mi := 222) (na := 3) (by decide +kernel) (by decide +kernel) (by decide +kernel) (by decide +kernel) rfl rfl (ev_k187 x2 hu_x2)) ?_
  rfl
theorem ev_k189 (x1 : Int32) (x2 : Int32) (hu_x2 : x2.toInt ≤ (-1 : Int)) (x3 : Int32) (hu_x3 : x3.toInt ≤ (-1 : Int)) (x4 : Int32) (x5 : Int32) {n : Nat} : ev_calld 12 330 [.ref 621, .int x1, .int x2, .int x3, .int x4, .int x5] ev_H0 n = some (.inl (some (.int (0))), (ev_H0.set 621 (.inr (13, (ev_F621.set 0 (.int (1)))))), n, 0, 0) := by
  refine ev_call_int (k := 12) (pcR := 63) (lv' := [(0, .ref 621), (1, .int x1), (2, .int x2), (3, .int x3), (4, .int x4), (5, .int x5)]) (v := (0)) (ty := .int) (by decide +kernel) rfl ?_ (by decide +kernel) (by decide +kernel) (by decide +kernel) (by decide)
  show ev_stepn _ 12 (0, [(0, .ref 621), (1, .int x1), (2, .int x2), (3, .int x3), (4, .int x4), (5, .int x5)], [], _, _, 0, 0) = _
  refine ev_go0 (ev_one_pure (M := (ev_Mof 330)) (pc := 0) (i := .aload_n 0) (len := 1) (pc' := 1) (lv' := [(0, .ref 621), (1, .int x1), (2, .int x2), (3, .int x3), (4, .int x4), (5, .int x5)]) (st' := [.ref 621]) (by decide +kernel) rfl) ?_
  refine ev_go0 (ev_one_pure (M := (ev_Mof 330)) (pc := 1) (i := .aload_n 0) (len := 1) (pc' := 2) (lv' := [(0, .ref 621), (1, .int x1), (2, .int x2), (3, .int x3), (4, .int x4), (5, .int x5)]) (st' := [.ref 621, .ref 621]) (by decide +kernel) rfl) ?_
  refine ev_go0 (ev_one_pure (M := (ev_Mof 330)) (pc := 2) (i := .iload_n 2) (len := 1) (pc' := 3) (lv' := [(0, .ref 621), (1, .int x1), (2, .int x2), (3, .int x3), (4, .int x4), (5, .int x5)]) (st' := [.int x2, .ref 621, .ref 621]) (by decide +kernel) rfl) ?_
  refine ev_go0 (ev_p_virt (M := (ev_Mof 330)) (pc := 3) (x := 531) (mi := 273) (na := 1) (by decide +kernel) (by decide +kernel) (by decide +kernel) (by decide +kernel) rfl rfl (ev_recv_of ev_fH621) (ev_k188 x2 hu_x2)) ?_
  refine ev_go0 (ev_w_if (M := (ev_Mof 330)) (pc := 6) (q := .eq) (o := 28) (b := true) (t := 34) (by decide +kernel) (by decide +kernel) rfl) ?_
  refine ev_go0 (ev_w_iconst (M := (ev_Mof 330)) (pc := 34) (k := 1) (v := 1) (by decide +kernel) (by decide +kernel)) ?_
  refine ev_go0 (ev_one_pure (M := (ev_Mof 330)) (pc := 35) (i := .goto 17) (len := 3) (pc' := 52) (lv' := [(0, .ref 621), (1, .int x1), (2, .int x2), (3, .int x3), (4, .int x4), (5, .int x5)]) (st' := [.int (1), .ref 621]) (by decide +kernel) rfl) ?_
  refine ev_go0 (ev_p_putf (M := (ev_Mof 330)) (pc := 52) (x := 321) (ci := 13) (f := 0) (by decide +kernel) (by decide +kernel) ev_fH621 rfl (by decide +kernel)) ?_
  refine ev_go0 (ev_one_pure (M := (ev_Mof 330)) (pc := 55) (i := .aload_n 0) (len := 1) (pc' := 56) (lv' := [(0, .ref 621), (1, .int x1), (2, .int x2), (3, .int x3), (4, .int x4), (5, .int x5)]) (st' := [.ref 621]) (by decide +kernel) rfl) ?_
  refine ev_go0 (ev_p_getf (M := (ev_Mof 330)) (pc := 56) (x := 321) (ci := 13) (f := 0) (fin := 0) (v := .int (1)) (by decide +kernel) (by decide +kernel) (ev_hself ev_fH621) rfl) ?_
  refine ev_go0 (ev_w_if (M := (ev_Mof 330)) (pc := 59) (q := .le) (o := 5) (b := false) (t := 62) (by decide +kernel) (by decide +kernel) rfl) ?_
  refine ev_go0 (ev_w_iconst (M := (ev_Mof 330)) (pc := 62) (k := 0) (v := 0) (by decide +kernel) (by decide +kernel)) ?_
  rfl
theorem ev_p1_12_nn (xs : Nat → Int32) (x1 : Int32) (x2 : Int32) (hu_x2 : x2.toInt ≤ (-1 : Int)) (x3 : Int32) (hu_x3 : x3.toInt ≤ (-1 : Int)) (x4 : Int32) (x5 : Int32) (e1 : xs 1 = x1) (e2 : xs 2 = x2) (e3 : xs 3 = x3) (e4 : xs 4 = x4) (e5 : xs 5 = x5) : ev_P1 xs 896 := by
  refine ⟨64, [(6, .int (0)), (5, .int (1)), (4, .int (0)), (3, .ref 723), (2, .ref 621), (1, .ref 0), (0, .retAddr 0)], (ev_H0.set 621 (.inr (13, (ev_F621.set 0 (.int (1)))))), 724, 725, 3553592, ?_, ⟨rfl, rfl, rfl, rfl⟩, rfl, by decide, by decide⟩
  show ev_stepn _ _ (896, [(4, .int (0)), (3, .ref 723), (2, .ref 621), (1, .ref 0), (0, .retAddr 0)], [], _, _, _, _) = _
  refine ev_go0 (ev_one_pure (M := ev_Mlaw) (pc := 896) (i := .aload_n 1) (len := 1) (pc' := 897) (lv' := [(4, .int (0)), (3, .ref 723), (2, .ref 621), (1, .ref 0), (0, .retAddr 0)]) (st' := [.ref 0]) (by decide +kernel) rfl) ?_
  refine ev_go0 (ev_one_pure (M := ev_Mlaw) (pc := 897) (i := .aload_n 0) (len := 1) (pc' := 898) (lv' := [(4, .int (0)), (3, .ref 723), (2, .ref 621), (1, .ref 0), (0, .retAddr 0)]) (st' := [.retAddr 0, .ref 0]) (by decide +kernel) rfl) ?_
  refine ev_go0 (ev_one_pure (M := ev_Mlaw) (pc := 898) (i := .iload 4) (len := 2) (pc' := 900) (lv' := [(4, .int (0)), (3, .ref 723), (2, .ref 621), (1, .ref 0), (0, .retAddr 0)]) (st' := [.int (0), .retAddr 0, .ref 0]) (by decide +kernel) rfl) ?_
  refine ev_go0 (ev_w_iconst (M := ev_Mlaw) (pc := 900) (k := 1) (v := 1) (by decide +kernel) (by decide +kernel)) ?_
  refine ev_go0 (ev_w_iadd (M := ev_Mlaw) (pc := 901) (v := (1)) (by decide +kernel) (by decide +kernel)) ?_
  refine ev_go0 (ev_w_scr (M := ev_Mlaw) (pc := 902) (v := x1) (j := 1) (by decide +kernel) (by decide +kernel) (by decide +kernel) e1) ?_
  refine ev_go0 (ev_one_pure (M := ev_Mlaw) (pc := 903) (i := .aload_n 0) (len := 1) (pc' := 904) (lv' := [(4, .int (0)), (3, .ref 723), (2, .ref 621), (1, .ref 0), (0, .retAddr 0)]) (st' := [.retAddr 0, .int x1, .ref 0]) (by decide +kernel) rfl) ?_
  refine ev_go0 (ev_one_pure (M := ev_Mlaw) (pc := 904) (i := .iload 4) (len := 2) (pc' := 906) (lv' := [(4, .int (0)), (3, .ref 723), (2, .ref 621), (1, .ref 0), (0, .retAddr 0)]) (st' := [.int (0), .retAddr 0, .int x1, .ref 0]) (by decide +kernel) rfl) ?_
  refine ev_go0 (ev_w_iconst (M := ev_Mlaw) (pc := 906) (k := 2) (v := 2) (by decide +kernel) (by decide +kernel)) ?_
  refine ev_go0 (ev_w_iadd (M := ev_Mlaw) (pc := 907) (v := (2)) (by decide +kernel) (by decide +kernel)) ?_
  refine ev_go0 (ev_w_scr (M := ev_Mlaw) (pc := 908) (v := x2) (j := 2) (by decide +kernel) (by decide +kernel) (by decide +kernel) e2) ?_
  refine ev_go0 (ev_one_pure (M := ev_Mlaw) (pc := 909) (i := .aload_n 0) (len := 1) (pc' := 910) (lv' := [(4, .int (0)), (3, .ref 723), (2, .ref 621), (1, .ref 0), (0, .retAddr 0)]) (st' := [.retAddr 0, .int x2, .int x1, .ref 0]) (by decide +kernel) rfl) ?_
  refine ev_go0 (ev_one_pure (M := ev_Mlaw) (pc := 910) (i := .iload 4) (len := 2) (pc' := 912) (lv' := [(4, .int (0)), (3, .ref 723), (2, .ref 621), (1, .ref 0), (0, .retAddr 0)]) (st' := [.int (0), .retAddr 0, .int x2, .int x1, .ref 0]) (by decide +kernel) rfl) ?_
  refine ev_go0 (ev_w_iconst (M := ev_Mlaw) (pc := 912) (k := 3) (v := 3) (by decide +kernel) (by decide +kernel)) ?_
  refine ev_go0 (ev_w_iadd (M := ev_Mlaw) (pc := 913) (v := (3)) (by decide +kernel) (by decide +kernel)) ?_
  refine ev_go0 (ev_w_scr (M := ev_Mlaw) (pc := 914) (v := x3) (j := 3) (by decide +kernel) (by decide +kernel) (by decide +kernel) e3) ?_
  refine ev_go0 (ev_one_pure (M := ev_Mlaw) (pc := 915) (i := .aload_n 0) (len := 1) (pc' := 916) (lv' := [(4, .int (0)), (3, .ref 723), (2, .ref 621), (1, .ref 0), (0, .retAddr 0)]) (st' := [.retAddr 0, .int x3, .int x2, .int x1, .ref 0]) (by decide +kernel) rfl) ?_
  refine ev_go0 (ev_one_pure (M := ev_Mlaw) (pc := 916) (i := .iload 4) (len := 2) (pc' := 918) (lv' := [(4, .int (0)), (3, .ref 723), (2, .ref 621), (1, .ref 0), (0, .retAddr 0)]) (st' := [.int (0), .retAddr 0, .int x3, .int x2, .int x1, .ref 0]) (by decide +kernel) rfl) ?_
  refine ev_go0 (ev_w_iconst (M := ev_Mlaw) (pc := 918) (k := 4) (v := 4) (by decide +kernel) (by decide +kernel)) ?_
  refine ev_go0 (ev_w_iadd (M := ev_Mlaw) (pc := 919) (v := (4)) (by decide +kernel) (by decide +kernel)) ?_
  refine ev_go0 (ev_w_scr (M := ev_Mlaw) (pc := 920) (v := x4) (j := 4) (by decide +kernel) (by decide +kernel) (by decide +kernel) e4) ?_
  refine ev_go0 (ev_one_pure (M := ev_Mlaw) (pc := 921) (i := .aload_n 0) (len := 1) (pc' := 922) (lv' := [(4, .int (0)), (3, .ref 723), (2, .ref 621), (1, .ref 0), (0, .retAddr 0)]) (st' := [.retAddr 0, .int x4, .int x3, .int x2, .int x1, .ref 0]) (by decide +kernel) rfl) ?_
  refine ev_go0 (ev_one_pure (M := ev_Mlaw) (pc := 922) (i := .iload 4) (len := 2) (pc' := 924) (lv' := [(4, .int (0)), (3, .ref 723), (2, .ref 621), (1, .ref 0), (0, .retAddr 0)]) (st' := [.int (0), .retAddr 0, .int x4, .int x3, .int x2, .int x1, .ref 0]) (by decide +kernel) rfl) ?_
  refine ev_go0 (ev_w_iconst (M := ev_Mlaw) (pc := 924) (k := 5) (v := 5) (by decide +kernel) (by decide +kernel)) ?_
  refine ev_go0 (ev_w_iadd (M := ev_Mlaw) (pc := 925) (v := (5)) (by decide +kernel) (by decide +kernel)) ?_
  refine ev_go0 (ev_w_scr (M := ev_Mlaw) (pc := 926) (v := x5) (j := 5) (by decide +kernel) (by decide +kernel) (by decide +kernel) e5) ?_
  refine ev_go0 (ev_one_pure (M := ev_Mlaw) (pc := 927) (i := .aload_n 3) (len := 1) (pc' := 928) (lv' := [(4, .int (0)), (3, .ref 723), (2, .ref 621), (1, .ref 0), (0, .retAddr 0)]) (st' := [.ref 723, .int x5, .int x4, .int x3, .int x2, .int x1, .ref 0]) (by decide +kernel) rfl) ?_
  refine ev_go (ev_w_stat (M := ev_Mlaw) (pc := 928) (y := 171) (kind := 8) (Or.inr (Or.inr rfl)) (mi := 375) (na := 7) (by decide +kernel) (by decide +kernel) (by decide +kernel) (by decide +kernel) rfl rfl (ev_k186 x1 x2 hu_x2 x3 hu_x3 x4 x5)) ?_
  refine ev_go0 (ev_w_istore (M := ev_Mlaw) (pc := 931) (k := 5) (lv' := [(5, .int (1)), (4, .int (0)), (3, .ref 723), (2, .ref 621), (1, .ref 0), (0, .retAddr 0)]) (by decide +kernel) (by decide +kernel) rfl) ?_
  refine ev_go0 (ev_one_pure (M := ev_Mlaw) (pc := 933) (i := .aload_n 2) (len := 1) (pc' := 934) (lv' := [(5, .int (1)), (4, .int (0)), (3, .ref 723), (2, .ref 621), (1, .ref 0), (0, .retAddr 0)]) (st' := [.ref 621]) (by decide +kernel) rfl) ?_
  refine ev_go0 (ev_one_pure (M := ev_Mlaw) (pc := 934) (i := .aload_n 0) (len := 1) (pc' := 935) (lv' := [(5, .int (1)), (4, .int (0)), (3, .ref 723), (2, .ref 621), (1, .ref 0), (0, .retAddr 0)]) (st' := [.retAddr 0, .ref 621]) (by decide +kernel) rfl) ?_
  refine ev_go0 (ev_one_pure (M := ev_Mlaw) (pc := 935) (i := .iload 4) (len := 2) (pc' := 937) (lv' := [(5, .int (1)), (4, .int (0)), (3, .ref 723), (2, .ref 621), (1, .ref 0), (0, .retAddr 0)]) (st' := [.int (0), .retAddr 0, .ref 621]) (by decide +kernel) rfl) ?_
  refine ev_go0 (ev_w_iconst (M := ev_Mlaw) (pc := 937) (k := 1) (v := 1) (by decide +kernel) (by decide +kernel)) ?_
  refine ev_go0 (ev_w_iadd (M := ev_Mlaw) (pc := 938) (v := (1)) (by decide +kernel) (by decide +kernel)) ?_
  refine ev_go0 (ev_w_scr (M := ev_Mlaw) (pc := 939) (v := x1) (j := 1) (by decide +kernel) (by decide +kernel) (by decide +kernel) e1) ?_
  refine ev_go0 (ev_one_pure (M := ev_Mlaw) (pc := 940) (i := .aload_n 0) (len := 1) (pc' := 941) (lv' := [(5, .int (1)), (4, .int (0)), (3, .ref 723), (2, .ref 621), (1, .ref 0), (0, .retAddr 0)]) (st' := [.retAddr 0, .int x1, .ref 621]) (by decide +kernel) rfl) ?_
  refine ev_go0 (ev_one_pure (M := ev_Mlaw) (pc := 941) (i := .iload 4) (len := 2) (pc' := 943) (lv' := [(5, .int (1)), (4, .int (0)), (3, .ref 723), (2, .ref 621), (1, .ref 0), (0, .retAddr 0)]) (st' := [.int (0), .retAddr 0, .int x1, .ref 621]) (by decide +kernel) rfl) ?_
  refine ev_go0 (ev_w_iconst (M := ev_Mlaw) (pc := 943) (k := 2) (v := 2) (by decide +kernel) (by decide +kernel)) ?_
  refine ev_go0 (ev_w_iadd (M := ev_Mlaw) (pc := 944) (v := (2)) (by decide +kernel) (by decide +kernel)) ?_
  refine ev_go0 (ev_w_scr (M := ev_Mlaw) (pc := 945) (v := x2) (j := 2) (by decide +kernel) (by decide +kernel) (by decide +kernel) e2) ?_
  refine ev_go0 (ev_one_pure (M := ev_Mlaw) (pc := 946) (i := .aload_n 0) (len := 1) (pc' := 947) (lv' := [(5, .int (1)), (4, .int (0)), (3, .ref 723), (2, .ref 621), (1, .ref 0), (0, .retAddr 0)]) (st' := [.retAddr 0, .int x2, .int x1, .ref 621]) (by decide +kernel) rfl) ?_
  refine ev_go0 (ev_one_pure (M := ev_Mlaw) (pc := 947) (i := .iload 4) (len := 2) (pc' := 949) (lv' := [(5, .int (1)), (4, .int (0)), (3, .ref 723), (2, .ref 621), (1, .ref 0), (0, .retAddr 0)]) (st' := [.int (0), .retAddr 0, .int x2, .int x1, .ref 621]) (by decide +kernel) rfl) ?_
  refine ev_go0 (ev_w_iconst (M := ev_Mlaw) (pc := 949) (k := 3) (v := 3) (by decide +kernel) (by decide +kernel)) ?_
  refine ev_go0 (ev_w_iadd (M := ev_Mlaw) (pc := 950) (v := (3)) (by decide +kernel) (by decide +kernel)) ?_
  refine ev_go0 (ev_w_scr (M := ev_Mlaw) (pc := 951) (v := x3) (j := 3) (by decide +kernel) (by decide +kernel) (by decide +kernel) e3) ?_
  refine ev_go0 (ev_one_pure (M := ev_Mlaw) (pc := 952) (i := .aload_n 0) (len := 1) (pc' := 953) (lv' := [(5, .int (1)), (4, .int (0)), (3, .ref 723), (2, .ref 621), (1, .ref 0), (0, .retAddr 0)]) (st' := [.retAddr 0, .int x3, .int x2, .int x1, .ref 621]) (by decide +kernel) rfl) ?_
  refine ev_go0 (ev_one_pure (M := ev_Mlaw) (pc := 953) (i := .iload 4) (len := 2) (pc' := 955) (lv' := [(5, .int (1)), (4, .int (0)), (3, .ref 723), (2, .ref 621), (1, .ref 0), (0, .retAddr 0)]) (st' := [.int (0), .retAddr 0, .int x3, .int x2, .int x1, .ref 621]) (by decide +kernel) rfl) ?_
  refine ev_go0 (ev_w_iconst (M := ev_Mlaw) (pc := 955) (k := 4) (v := 4) (by decide +kernel) (by decide +kernel)) ?_
  refine ev_go0 (ev_w_iadd (M := ev_Mlaw) (pc := 956) (v := (4)) (by decide +kernel) (by decide +kernel)) ?_
  refine ev_go0 (ev_w_scr (M := ev_Mlaw) (pc := 957) (v := x4) (j := 4) (by decide +kernel) (by decide +kernel) (by decide +kernel) e4) ?_
  refine ev_go0 (ev_one_pure (M := ev_Mlaw) (pc := 958) (i := .aload_n 0) (len := 1) (pc' := 959) (lv' := [(5, .int (1)), (4, .int (0)), (3, .ref 723), (2, .ref 621), (1, .ref 0), (0, .retAddr 0)]) (st' := [.retAddr 0, .int x4, .int x3, .int x2, .int x1, .ref 621]) (by decide +kernel) rfl) ?_
  refine ev_go0 (ev_one_pure (M := ev_Mlaw) (pc := 959) (i := .iload 4) (len := 2) (pc' := 961) (lv' := [(5, .int (1)), (4, .int (0)), (3, .ref 723), (2, .ref 621), (1, .ref 0), (0, .retAddr 0)]) (st' := [.int (0), .retAddr 0, .int x4, .int x3, .int x2, .int x1, .ref 621]) (by decide +kernel) rfl) ?_
  refine ev_go0 (ev_w_iconst (M := ev_Mlaw) (pc := 961) (k := 5) (v := 5) (by decide +kernel) (by decide +kernel)) ?_
  refine ev_go0 (ev_w_iadd (M := ev_Mlaw) (pc := 962) (v := (5)) (by decide +kernel) (by decide +kernel)) ?_
  refine ev_go0 (ev_w_scr (M := ev_Mlaw) (pc := 963) (v := x5) (j := 5) (by decide +kernel) (by decide +kernel) (by decide +kernel) e5) ?_
  refine ev_go0 (ev_p_virt (M := ev_Mlaw) (pc := 964) (x := 174) (mi := 330) (na := 5) (by decide +kernel) (by decide +kernel) (by decide +kernel) (by decide +kernel) rfl rfl (ev_recv_of ev_fH621) (ev_k189 x1 x2 hu_x2 x3 hu_x3 x4 x5)) ?_
  refine ev_go0 (ev_w_istore (M := ev_Mlaw) (pc := 967) (k := 6) (lv' := [(6, .int (0)), (5, .int (1)), (4, .int (0)), (3, .ref 723), (2, .ref 621), (1, .ref 0), (0, .retAddr 0)]) (by decide +kernel) (by decide +kernel) rfl) ?_
  refine ev_go0 (ev_one_pure (M := ev_Mlaw) (pc := 969) (i := .aload_n 2) (len := 1) (pc' := 970) (lv' := [(6, .int (0)), (5, .int (1)), (4, .int (0)), (3, .ref 723), (2, .ref 621), (1, .ref 0), (0, .retAddr 0)]) (st' := [.ref 621]) (by decide +kernel) rfl) ?_
  refine ev_go0 (ev_p_virt (M := ev_Mlaw) (pc := 970) (x := 131) (mi := 220) (na := 0) (by decide +kernel) (by decide +kernel) (by decide +kernel) (by decide +kernel) rfl rfl (ev_recv_of (ev_hself ev_fH621)) ev_k26) ?_
  refine ev_go0 (ev_one_pure (M := ev_Mlaw) (pc := 973) (i := .iload 5) (len := 2) (pc' := 975) (lv' := [(6, .int (0)), (5, .int (1)), (4, .int (0)), (3, .ref 723), (2, .ref 621), (1, .ref 0), (0, .retAddr 0)]) (st' := [.int (1), .int (1)]) (by decide +kernel) rfl) ?_
  refine ev_go0 (ev_w_icmp (M := ev_Mlaw) (pc := 975) (q := .eq) (o := 5) (b := true) (t := 980) (by decide +kernel) (by decide +kernel) rfl) ?_
  refine ev_go0 (ev_one_pure (M := ev_Mlaw) (pc := 980) (i := .iload 5) (len := 2) (pc' := 982) (lv' := [(6, .int (0)), (5, .int (1)), (4, .int (0)), (3, .ref 723), (2, .ref 621), (1, .ref 0), (0, .retAddr 0)]) (st' := [.int (1)]) (by decide +kernel) rfl) ?_
  refine ev_go0 (ev_w_if (M := ev_Mlaw) (pc := 982) (q := .ne) (o := 15) (b := true) (t := 997) (by decide +kernel) (by decide +kernel) rfl) ?_
  refine ev_go0 (ev_one_pure (M := ev_Mlaw) (pc := 997) (i := .goto 1275) (len := 3) (pc' := 2272) (lv' := [(6, .int (0)), (5, .int (1)), (4, .int (0)), (3, .ref 723), (2, .ref 621), (1, .ref 0), (0, .retAddr 0)]) (st' := []) (by decide +kernel) rfl) ?_
  rfl
theorem ev_k190 (x2 : Int32) (hu_x2 : x2.toInt ≤ (-1 : Int)) (x4 : Int32) (x5 : Int32) {n : Nat} : ev_calld 10 203 [.ref 0, .int x2, .int (0), .int x4, .int x5] ev_H0 n = some (.inl (some (.int (0))), ev_H0, n, 0, 0) := by
  refine ev_call_int (k := 12) (pcR := 60) (lv' := [(6, .ref 263), (5, .null), (0, .ref 0), (1, .int x2), (2, .int (0)), (3, .int x4), (4, .int x5)]) (v := (0)) (ty := .boolean) (by decide +kernel) rfl ?_ (by decide +kernel) (by decide +kernel) (by decide +kernel) (by decide)
  show ev_stepn _ 12 (0, [(0, .ref 0), (1, .int x2), (2, .int (0)), (3, .int x4), (4, .int x5)], [], _, _, 0, 0) = _
  refine ev_go0 (ev_one_pure (M := (ev_Mof 203)) (pc := 0) (i := .aload_n 0) (len := 1) (pc' := 1) (lv' := [(0, .ref 0), (1, .int x2), (2, .int (0)), (3, .int x4), (4, .int x5)]) (st' := [.ref 0]) (by decide +kernel) rfl) ?_
  refine ev_go0 (ev_one_pure (M := (ev_Mof 203)) (pc := 1) (i := .iload_n 1) (len := 1) (pc' := 2) (lv' := [(0, .ref 0), (1, .int x2), (2, .int (0)), (3, .int x4), (4, .int x5)]) (st' := [.int x2, .ref 0]) (by decide +kernel) rfl) ?_
  refine ev_go0 (ev_p_virt (M := (ev_Mof 203)) (pc := 2) (x := 156) (mi := 200) (na := 1) (by decide +kernel) (by decide +kernel) (by decide +kernel) (by decide +kernel) rfl rfl (ev_recv_of ev_fH0) (ev_k182 x2 hu_x2)) ?_
  refine ev_go0 (ev_w_astore (M := (ev_Mof 203)) (pc := 5) (k := 5) (lv' := [(5, .null), (0, .ref 0), (1, .int x2), (2, .int (0)), (3, .int x4), (4, .int x5)]) (by decide +kernel) (by decide +kernel) (Or.inr (Or.inl rfl)) rfl) ?_
  refine ev_go0 (ev_one_pure (M := (ev_Mof 203)) (pc := 7) (i := .aload_n 0) (len := 1) (pc' := 8) (lv' := [(5, .null), (0, .ref 0), (1, .int x2), (2, .int (0)), (3, .int x4), (4, .int x5)]) (st' := [.ref 0]) (by decide +kernel) rfl) ?_
  refine ev_go0 (ev_p_getf (M := (ev_Mof 203)) (pc := 8) (x := 48) (ci := 12) (f := 8) (fin := 1) (v := .ref 254) (by decide +kernel) (by decide +kernel) ev_fH0 rfl) ?_
  refine ev_go0 (ev_one_pure (M := (ev_Mof 203)) (pc := 11) (i := .iload_n 2) (len := 1) (pc' := 12) (lv' := [(5, .null), (0, .ref 0), (1, .int x2), (2, .int (0)), (3, .int x4), (4, .int x5)]) (st' := [.int (0), .ref 254]) (by decide +kernel) rfl) ?_
  refine ev_go0 (ev_p_virt (M := (ev_Mof 203)) (pc := 12) (x := 221) (mi := 1) (na := 1) (by decide +kernel) (by decide +kernel) (by decide +kernel) (by decide +kernel) rfl rfl (ev_recv_of ev_fH254) ev_k97) ?_
  refine ev_go0 (ev_w_astore (M := (ev_Mof 203)) (pc := 15) (k := 6) (lv' := [(6, .ref 263), (5, .null), (0, .ref 0), (1, .int x2), (2, .int (0)), (3, .int x4), (4, .int x5)]) (by decide +kernel) (by decide +kernel) (Or.inl ⟨_, rfl⟩) rfl) ?_
  refine ev_go0 (ev_one_pure (M := (ev_Mof 203)) (pc := 17) (i := .aload 5) (len := 2) (pc' := 19) (lv' := [(6, .ref 263), (5, .null), (0, .ref 0), (1, .int x2), (2, .int (0)), (3, .int x4), (4, .int x5)]) (st' := [.null]) (by decide +kernel) rfl) ?_
  refine ev_go0 (ev_w_ifnull (M := (ev_Mof 203)) (pc := 19) (o := 40) (t := 59) (by decide +kernel) (Or.inl ⟨rfl, rfl⟩)) ?_
  refine ev_go0 (ev_w_iconst (M := (ev_Mof 203)) (pc := 59) (k := 0) (v := 0) (by decide +kernel) (by decide +kernel)) ?_
  rfl
theorem ev_k191 (x1 : Int32) (x2 : Int32) (hu_x2 : x2.toInt ≤ (-1 : Int)) (x4 : Int32) (x5 : Int32) {n : Nat} : ev_calld 11 178 [.ref 0, .int x1, .int x2, .int (0), .int x4, .int x5] ev_H0 n = some (.inr "java/lang/IndexOutOfBoundsException", ev_H0, n, 1, 6) := by
  refine ev_call_thrown (k := 7) (pcR := 13) (x := 160) (lv' := [(0, .ref 0), (1, .int x1), (2, .int x2), (3, .int (0)), (4, .int x4), (5, .int x5)]) (by decide +kernel) rfl ?_ (by decide +kernel) (by decide +kernel) (by decide +kernel) (by decide) (by decide)
  show ev_stepn _ 7 (0, [(0, .ref 0), (1, .int x1), (2, .int x2), (3, .int (0)), (4, .int x4), (5, .int x5)], [], _, _, 0, 0) = _
  refine ev_go0 (ev_one_pure (M := (ev_Mof 178)) (pc := 0) (i := .aload_n 0) (len := 1) (pc' := 1) (lv' := [(0, .ref 0), (1, .int x1), (2, .int x2), (3, .int (0)), (4, .int x4), (5, .int x5)]) (st' := [.ref 0]) (by decide +kernel) rfl) ?_
  refine ev_go0 (ev_one_pure (M := (ev_Mof 178)) (pc := 1) (i := .iload_n 2) (len := 1) (pc' := 2) (lv' := [(0, .ref 0), (1, .int x1), (2, .int x2), (3, .int (0)), (4, .int x4), (5, .int x5)]) (st' := [.int x2, .ref 0]) (by decide +kernel) rfl) ?_
  refine ev_go0 (ev_one_pure (M := (ev_Mof 178)) (pc := 2) (i := .iload_n 3) (len := 1) (pc' := 3) (lv' := [(0, .ref 0), (1, .int x1), (2, .int x2), (3, .int (0)), (4, .int x4), (5, .int x5)]) (st' := [.int (0), .int x2, .ref 0]) (by decide +kernel) rfl) ?_
  refine ev_go0 (ev_one_pure (M := (ev_Mof 178)) (pc := 3) (i := .iload 4) (len := 2) (pc' := 5) (lv' := [(0, .ref 0), (1, .int x1), (2, .int x2), (3, .int (0)), (4, .int x4), (5, .int x5)]) (st' := [.int x4, .int (0), .int x2, .ref 0]) (by decide +kernel) rfl) ?_
  refine ev_go0 (ev_one_pure (M := (ev_Mof 178)) (pc := 5) (i := .iload 5) (len := 2) (pc' := 7) (lv' := [(0, .ref 0), (1, .int x1), (2, .int x2), (3, .int (0)), (4, .int x4), (5, .int x5)]) (st' := [.int x5, .int x4, .int (0), .int x2, .ref 0]) (by decide +kernel) rfl) ?_
  refine ev_go0 (ev_p_virt (M := (ev_Mof 178)) (pc := 7) (x := 205) (mi := 203) (na := 4) (by decide +kernel) (by decide +kernel) (by decide +kernel) (by decide +kernel) rfl rfl (ev_recv_of ev_fH0) (ev_k190 x2 hu_x2 x4 x5)) ?_
  refine ev_go0 (ev_w_if (M := (ev_Mof 178)) (pc := 10) (q := .ne) (o := 13) (b := false) (t := 13) (by decide +kernel) (by decide +kernel) rfl) ?_
  rfl
theorem ev_k192 (x1 : Int32) (x2 : Int32) (hu_x2 : x2.toInt ≤ (-1 : Int)) (x4 : Int32) (x5 : Int32) {n : Nat} : ev_calld 12 375 [.ref 0, .int x1, .int x2, .int (0), .int x4, .int x5, .ref 723] ev_H0 n = some (.inl (some (.int (1))), ev_H0, n, 1, 6) := by
  refine ev_call_int (k := 11) (pcR := 22) (lv' := [(7, .retAddr 1), (0, .ref 0), (1, .int x1), (2, .int x2), (3, .int (0)), (4, .int x4), (5, .int x5), (6, .ref 723)]) (v := (1)) (ty := .int) (by decide +kernel) rfl ?_ (by decide +kernel) (by decide +kernel) (by decide +kernel) (by decide)
  show ev_stepn _ 11 (0, [(0, .ref 0), (1, .int x1), (2, .int x2), (3, .int (0)), (4, .int x4), (5, .int x5), (6, .ref 723)], [], _, _, 0, 0) = _
  refine ev_go0 (ev_one_pure (M := (ev_Mof 375)) (pc := 0) (i := .aload 6) (len := 2) (pc' := 2) (lv' := [(0, .ref 0), (1, .int x1), (2, .int x2), (3, .int (0)), (4, .int x4), (5, .int x5), (6, .ref 723)]) (st' := [.ref 723]) (by decide +kernel) rfl) ?_
  refine ev_go0 (ev_w_iconst (M := (ev_Mof 375)) (pc := 2) (k := 0) (v := 0) (by decide +kernel) (by decide +kernel)) ?_
  refine ev_go0 (ev_one_pure (M := (ev_Mof 375)) (pc := 3) (i := .aload_n 0) (len := 1) (pc' := 4) (lv' := [(0, .ref 0), (1, .int x1), (2, .int x2), (3, .int (0)), (4, .int x4), (5, .int x5), (6, .ref 723)]) (st' := [.ref 0, .int (0), .ref 723]) (by decide +kernel) rfl) ?_
  refine ev_go0 (ev_one_pure (M := (ev_Mof 375)) (pc := 4) (i := .iload_n 1) (len := 1) (pc' := 5) (lv' := [(0, .ref 0), (1, .int x1), (2, .int x2), (3, .int (0)), (4, .int x4), (5, .int x5), (6, .ref 723)]) (st' := [.int x1, .ref 0, .int (0), .ref 723]) (by decide +kernel) rfl) ?_
  refine ev_go0 (ev_one_pure (M := (ev_Mof 375)) (pc := 5) (i := .iload_n 2) (len := 1) (pc' := 6) (lv' := [(0, .ref 0), (1, .int x1), (2, .int x2), (3, .int (0)), (4, .int x4), (5, .int x5), (6, .ref 723)]) (st' := [.int x2, .int x1, .ref 0, .int (0), .ref 723]) (by decide +kernel) rfl) ?_
  refine ev_go0 (ev_one_pure (M := (ev_Mof 375)) (pc := 6) (i := .iload_n 3) (len := 1) (pc' := 7) (lv' := [(0, .ref 0), (1, .int x1), (2, .int x2), (3, .int (0)), (4, .int x4), (5, .int x5), (6, .ref 723)]) (st' := [.int (0), .int x2, .int x1, .ref 0, .int (0), .ref 723]) (by decide +kernel) rfl) ?_
  refine ev_go0 (ev_one_pure (M := (ev_Mof 375)) (pc := 7) (i := .iload 4) (len := 2) (pc' := 9) (lv' := [(0, .ref 0), (1, .int x1), (2, .int x2), (3, .int (0)), (4, .int x4), (5, .int x5), (6, .ref 723)]) (st' := [.int x4, .int (0), .int x2, .int x1, .ref 0, .int (0), .ref 723]) (by decide +kernel) rfl) ?_
  refine ev_go0 (ev_one_pure (M := (ev_Mof 375)) (pc := 9) (i := .iload 5) (len := 2) (pc' := 11) (lv' := [(0, .ref 0), (1, .int x1), (2, .int x2), (3, .int (0)), (4, .int x4), (5, .int x5), (6, .ref 723)]) (st' := [.int x5, .int x4, .int (0), .int x2, .int x1, .ref 0, .int (0), .ref 723]) (by decide +kernel) rfl) ?_
  refine ev_go (ev_p_virtX (M := (ev_Mof 375)) (pc := 11) (x := 53) (t := 19) (mi := 178) (na := 5) (by decide +kernel) (by decide +kernel) (by decide +kernel) (by decide +kernel) rfl rfl (ev_recv_of ev_fH0) (ev_k191 x1 x2 hu_x2 x4 x5) (by decide +kernel)) ?_
  refine ev_go0 (ev_w_astore (M := (ev_Mof 375)) (pc := 19) (k := 7) (lv' := [(7, .retAddr 1), (0, .ref 0), (1, .int x1), (2, .int x2), (3, .int (0)), (4, .int x4), (5, .int x5), (6, .ref 723)]) (by decide +kernel) (by decide +kernel) (Or.inr (Or.inr ⟨_, rfl⟩)) rfl) ?_
  refine ev_go0 (ev_w_iconst (M := (ev_Mof 375)) (pc := 21) (k := 1) (v := 1) (by decide +kernel) (by decide +kernel)) ?_
  rfl
theorem ev_k193 (x1 : Int32) (x2 : Int32) (hu_x2 : x2.toInt ≤ (-1 : Int)) (x4 : Int32) (x5 : Int32) {n : Nat} : ev_calld 12 330 [.ref 621, .int x1, .int x2, .int (0), .int x4, .int x5] ev_H0 n = some (.inl (some (.int (0))), (ev_H0.set 621 (.inr (13, (ev_F621.set 0 (.int (1)))))), n, 0, 0) := by
  refine ev_call_int (k := 12) (pcR := 63) (lv' := [(0, .ref 621), (1, .int x1), (2, .int x2), (3, .int (0)), (4, .int x4), (5, .int x5)]) (v := (0)) (ty := .int) (by decide +kernel) rfl ?_ (by decide +kernel) (by decide +kernel) (by decide +kernel) (by decide)
  show ev_stepn _ 12 (0, [(0, .ref 621), (1, .int x1), (2, .int x2), (3, .int (0)), (4, .int x4), (5, .int x5)], [], _, _, 0, 0) = _
  refine ev_go0 (ev_one_pure (M := (ev_Mof 330)) (pc := 0) (i := .aload_n 0) (len := 1) (pc' := 1) (lv' := [(0, .ref 621), (1, .int x1), (2, .int x2), (3, .int (0)), (4, .int x4), (5, .int x5)]) (st' := [.ref 621]) (by decide +kernel) rfl) ?_
  refine ev_go0 (ev_one_pure (M := (ev_Mof 330)) (pc := 1) (i := .aload_n 0) (len := 1) (pc' := 2) (lv' := [(0, .ref 621), (1, .int x1), (2, .int x2), (3, .int (0)), (4, .int x4), (5, .int x5)]) (st' := [.ref 621, .ref 621]) (by decide +kernel) rfl) ?_
  refine ev_go0 (ev_one_pure (M := (ev_Mof 330)) (pc := 2) (i := .iload_n 2) (len := 1) (pc' := 3) (lv' := [(0, .ref 621), (1, .int x1), (2, .int x2), (3, .int (0)), (4, .int x4), (5, .int x5)]) (st' := [.int x2, .ref 621, .ref 621]) (by decide +kernel) rfl) ?_
  refine ev_go0 (ev_p_virt (M := (ev_Mof 330)) (pc := 3) (x := 531) (mi := 273) (na := 1) (by decide +kernel) (by decide +kernel) (by decide +kernel) (by decide +kernel) rfl rfl (ev_recv_of ev_fH621) (ev_k188 x2 hu_x2)) ?_
  refine ev_go0 (ev_w_if (M := (ev_Mof 330)) (pc := 6) (q := .eq) (o := 28) (b := true) (t := 34) (by decide +kernel) (by decide +kernel) rfl) ?_
  refine ev_go0 (ev_w_iconst (M := (ev_Mof 330)) (pc := 34) (k := 1) (v := 1) (by decide +kernel) (by decide +kernel)) ?_
  refine ev_go0 (ev_one_pure (M := (ev_Mof 330)) (pc := 35) (i := .goto 17) (len := 3) (pc' := 52) (lv' := [(0, .ref 621), (1, .int x1), (2, .int x2), (3, .int (0)), (4, .int x4), (5, .int x5)]) (st' := [.int (1), .ref 621]) (by decide +kernel) rfl) ?_
  refine ev_go0 (ev_p_putf (M := (ev_Mof 330)) (pc := 52) (x := 321) (ci := 13) (f := 0) (by decide +kernel) (by decide +kernel) ev_fH621 rfl (by decide +kernel)) ?_
  refine ev_go0 (ev_one_pure (M := (ev_Mof 330)) (pc := 55) (i := .aload_n 0) (len := 1) (pc' := 56) (lv' := [(0, .ref 621), (1, .int x1), (2, .int x2), (3, .int (0)), (4, .int x4), (5, .int x5)]) (st' := [.ref 621]) (by decide +kernel) rfl) ?_
  refine ev_go0 (ev_p_getf (M := (ev_Mof 330)) (pc := 56) (x := 321) (ci := 13) (f := 0) (fin := 0) (v := .int (1)) (by decide +kernel) (by decide +kernel) (ev_hself ev_fH621) rfl) ?_
  refine ev_go0 (ev_w_if (M := (ev_Mof 330)) (pc := 59) (q := .le) (o := 5) (b := false) (t := 62) (by decide +kernel) (by decide +kernel) rfl) ?_
  refine ev_go0 (ev_w_iconst (M := (ev_Mof 330)) (pc := 62) (k := 0) (v := 0) (by decide +kernel) (by decide +kernel)) ?_
  rfl
theorem ev_p1_12_n0 (xs : Nat → Int32) (x1 : Int32) (x2 : Int32) (hu_x2 : x2.toInt ≤ (-1 : Int)) (x4 : Int32) (x5 : Int32) (e1 : xs 1 = x1) (e2 : xs 2 = x2) (e3 : xs 3 = (0)) (e4 : xs 4 = x4) (e5 : xs 5 = x5) : ev_P1 xs 896 := by
  refine ⟨64, [(6, .int (0)), (5, .int (1)), (4, .int (0)), (3, .ref 723), (2, .ref 621), (1, .ref 0), (0, .retAddr 0)], (ev_H0.set 621 (.inr (13, (ev_F621.set 0 (.int (1)))))), 724, 725, 3553592, ?_, ⟨rfl, rfl, rfl, rfl⟩, rfl, by decide, by decide⟩
  show ev_stepn _ _ (896, [(4, .int (0)), (3, .ref 723), (2, .ref 621), (1, .ref 0), (0, .retAddr 0)], [], _, _, _, _) = _
  refine ev_go0 (ev_one_pure (M := ev_Mlaw) (pc := 896) (i := .aload_n 1) (len := 1) (pc' := 897) (lv' := [(4, .int (0)), (3, .ref 723), (2, .ref 621), (1, .ref 0), (0, .retAddr 0)]) (st' := [.ref 0]) (by decide +kernel) rfl) ?_
  refine ev_go0 (ev_one_pure (M := ev_Mlaw) (pc := 897) (i := .aload_n 0) (len := 1) (pc' := 898) (lv' := [(4, .int (0)), (3, .ref 723), (2, .ref 621), (1, .ref 0), (0, .retAddr 0)]) (st' := [.retAddr 0, .ref 0]) (by decide +kernel) rfl) ?_
  refine ev_go0 (ev_one_pure (M := ev_Mlaw) (pc := 898) (i := .iload 4) (len := 2) (pc' := 900) (lv' := [(4, .int (0)), (3, .ref 723), (2, .ref 621), (1, .ref 0), (0, .retAddr 0)]) (st' := [.int (0), .retAddr 0, .ref 0]) (by decide +kernel) rfl) ?_
  refine ev_go0 (ev_w_iconst (M := ev_Mlaw) (pc := 900) (k := 1) (v := 1) (by decide +kernel) (by decide +kernel)) ?_
  refine ev_go0 (ev_w_iadd (M := ev_Mlaw) (pc := 901) (v := (1)) (by decide +kernel) (by decide +kernel)) ?_
  refine ev_go0 (ev_w_scr (M := ev_Mlaw) (pc := 902) (v := x1) (j := 1) (by decide +kernel) (by decide +kernel) (by decide +kernel) e1) ?_
  refine ev_go0 (ev_one_pure (M := ev_Mlaw) (pc := 903) (i := .aload_n 0) (len := 1) (pc' := 904) (lv' := [(4, .int (0)), (3, .ref 723), (2, .ref 621), (1, .ref 0), (0, .retAddr 0)]) (st' := [.retAddr 0, .int x1, .ref 0]) (by decide +kernel) rfl) ?_
  refine ev_go0 (ev_one_pure (M := ev_Mlaw) (pc := 904) (i := .iload 4) (len := 2) (pc' := 906) (lv' := [(4, .int (0)), (3, .ref 723), (2, .ref 621), (1, .ref 0), (0, .retAddr 0)]) (st' := [.int (0), .retAddr 0, .int x1, .ref 0]) (by decide +kernel) rfl) ?_
  refine ev_go0 (ev_w_iconst (M := ev_Mlaw) (pc := 906) (k := 2) (v := 2) (by decide +kernel) (by decide +kernel)) ?_
  refine ev_go0 (ev_w_iadd (M := ev_Mlaw) (pc := 907) (v := (2)) (by decide +kernel) (by decide +kernel)) ?_
  refine ev_go0 (ev_w_scr (M := ev_Mlaw) (pc := 908) (v := x2) (j := 2) (by decide +kernel) (by decide +kernel) (by decide +kernel) e2) ?_
  refine ev_go0 (ev_one_pure (M := ev_Mlaw) (pc := 909) (i := .aload_n 0) (len := 1) (pc' := 910) (lv' := [(4, .int (0)), (3, .ref 723), (2, .ref 621), (1, .ref 0), (0, .retAddr 0)]) (st' := [.retAddr 0, .int x2, .int x1, .ref 0]) (by decide +kernel) rfl) ?_
  refine ev_go0 (ev_one_pure (M := ev_Mlaw) (pc := 910) (i := .iload 4) (len := 2) (pc' := 912) (lv' := [(4, .int (0)), (3, .ref 723), (2, .ref 621), (1, .ref 0), (0, .retAddr 0)]) (st' := [.int (0), .retAddr 0, .int x2, .int x1, .ref 0]) (by decide +kernel) rfl) ?_
  refine ev_go0 (ev_w_iconst (M := ev_Mlaw) (pc := 912) (k := 3) (v := 3) (by decide +kernel) (by decide +kernel)) ?_
  refine ev_go0 (ev_w_iadd (M := ev_Mlaw) (pc := 913) (v := (3)) (by decide +kernel) (by decide +kernel)) ?_
  refine ev_go0 (ev_w_scr (M := ev_Mlaw) (pc := 914) (v := (0)) (j := 3) (by decide +kernel) (by decide +kernel) (by decide +kernel) e3) ?_
  refine ev_go0 (ev_one_pure (M := ev_Mlaw) (pc := 915) (i := .aload_n 0) (len := 1) (pc' := 916) (lv' := [(4, .int (0)), (3, .ref 723), (2, .ref 621), (1, .ref 0), (0, .retAddr 0)]) (st' := [.retAddr 0, .int (0), .int x2, .int x1, .ref 0]) (by decide +kernel) rfl) ?_
  refine ev_go0 (ev_one_pure (M := ev_Mlaw) (pc := 916) (i := .iload 4) (len := 2) (pc' := 918) (lv' := [(4, .int (0)), (3, .ref 723), (2, .ref 621), (1, .ref 0), (0, .retAddr 0)]) (st' := [.int (0), .retAddr 0, .int (0), .int x2, .int x1, .ref 0]) (by decide +kernel) rfl) ?_
  refine ev_go0 (ev_w_iconst (M := ev_Mlaw) (pc := 918) (k := 4) (v := 4) (by decide +kernel) (by decide +kernel)) ?_
  refine ev_go0 (ev_w_iadd (M := ev_Mlaw) (pc := 919) (v := (4)) (by decide +kernel) (by decide +kernel)) ?_
  refine ev_go0 (ev_w_scr (M := ev_Mlaw) (pc := 920) (v := x4) (j := 4) (by decide +kernel) (by decide +kernel) (by decide +kernel) e4) ?_
  refine ev_go0 (ev_one_pure (M := ev_Mlaw) (pc := 921) (i := .aload_n 0) (len := 1) (pc' := 922) (lv' := [(4, .int (0)), (3, .ref 723), (2, .ref 621), (1, .ref 0), (0, .retAddr 0)]) (st' := [.retAddr 0, .int x4, .int (0), .int x2, .int x1, .ref 0]) (by decide +kernel) rfl) ?_
  refine ev_go0 (ev_one_pure (M := ev_Mlaw) (pc := 922) (i := .iload 4) (len := 2) (pc' := 924) (lv' := [(4, .int (0)), (3, .ref 723), (2, .ref 621), (1, .ref 0), (0, .retAddr 0)]) (st' := [.int (0), .retAddr 0, .int x4, .int (0), .int x2, .int x1, .ref 0]) (by decide +kernel) rfl) ?_
  refine ev_go0 (ev_w_iconst (M := ev_Mlaw) (pc := 924) (k := 5) (v := 5) (by decide +kernel) (by decide +kernel)) ?_
  refine ev_go0 (ev_w_iadd (M := ev_Mlaw) (pc := 925) (v := (5)) (by decide +kernel) (by decide +kernel)) ?_
  refine ev_go0 (ev_w_scr (M := ev_Mlaw) (pc := 926) (v := x5) (j := 5) (by decide +kernel) (by decide +kernel) (by decide +kernel) e5) ?_
  refine ev_go0 (ev_one_pure (M := ev_Mlaw) (pc := 927) (i := .aload_n 3) (len := 1) (pc' := 928) (lv' := [(4, .int (0)), (3, .ref 723), (2, .ref 621), (1, .ref 0), (0, .retAddr 0)]) (st' := [.ref 723, .int x5, .int x4, .int (0), .int x2, .int x1, .ref 0]) (by decide +kernel) rfl) ?_
  refine ev_go (ev_w_stat (M := ev_Mlaw) (pc := 928) (y := 171) (kind := 8) (Or.inr (Or.inr rfl)) (mi := 375) (na := 7) (by decide +kernel) (by decide +kernel) (by decide +kernel) (by decide +kernel) rfl rfl (ev_k192 x1 x2 hu_x2 x4 x5)) ?_
  refine ev_go0 (ev_w_istore (M := ev_Mlaw) (pc := 931) (k := 5) (lv' := [(5, .int (1)), (4, .int (0)), (3, .ref 723), (2, .ref 621), (1, .ref 0), (0, .retAddr 0)]) (by decide +kernel) (by decide +kernel) rfl) ?_
  refine ev_go0 (ev_one_pure (M := ev_Mlaw) (pc := 933) (i := .aload_n 2) (len := 1) (pc' := 934) (lv' := [(5, .int (1)), (4, .int (0)), (3, .ref 723), (2, .ref 621), (1, .ref 0), (0, .retAddr 0)]) (st' := [.ref 621]) (by decide +kernel) rfl) ?_
  refine ev_go0 (ev_one_pure (M := ev_Mlaw) (pc := 934) (i := .aload_n 0) (len := 1) (pc' := 935) (lv' := [(5, .int (1)), (4, .int (0)), (3, .ref 723), (2, .ref 621), (1, .ref 0), (0, .retAddr 0)]) (st' := [.retAddr 0, .ref 621]) (by decide +kernel) rfl) ?_
  refine ev_go0 (ev_one_pure (M := ev_Mlaw) (pc := 935) (i := .iload 4) (len := 2) (pc' := 937) (lv' := [(5, .int (1)), (4, .int (0)), (3, .ref 723), (2, .ref 621), (1, .ref 0), (0, .retAddr 0)]) (st' := [.int (0), .retAddr 0, .ref 621]) (by decide +kernel) rfl) ?_
  refine ev_go0 (ev_w_iconst (M := ev_Mlaw) (pc := 937) (k := 1) (v := 1) (by decide +kernel) (by decide +kernel)) ?_
  refine ev_go0 (ev_w_iadd (M := ev_Mlaw) (pc := 938) (v := (1)) (by decide +kernel) (by decide +kernel)) ?_
  refine ev_go0 (ev_w_scr (M := ev_Mlaw) (pc := 939) (v := x1) (j := 1) (by decide +kernel) (by decide +kernel) (by decide +kernel) e1) ?_
  refine ev_go0 (ev_one_pure (M := ev_Mlaw) (pc := 940) (i := .aload_n 0) (len := 1) (pc' := 941) (lv' := [(5, .int (1)), (4, .int (0)), (3, .ref 723), (2, .ref 621), (1, .ref 0), (0, .retAddr 0)]) (st' := [.retAddr 0, .int x1, .ref 621]) (by decide +kernel) rfl) ?_
  refine ev_go0 (ev_one_pure (M := ev_Mlaw) (pc := 941) (i := .iload 4) (len := 2) (pc' := 943) (lv' := [(5, .int (1)), (4, .int (0)), (3, .ref 723), (2, .ref 621), (1, .ref 0), (0, .retAddr 0)]) (st' := [.int (0), .retAddr 0, .int x1, .ref 621]) (by decide +kernel) rfl) ?_
  refine ev_go0 (ev_w_iconst (M := ev_Mlaw) (pc := 943) (k := 2) (v := 2) (by decide +kernel) (by decide +kernel)) ?_
  refine ev_go0 (ev_w_iadd (M := ev_Mlaw) (pc := 944) (v := (2)) (by decide +kernel) (by decide +kernel)) ?_
  refine ev_go0 (ev_w_scr (M := ev_Mlaw) (pc := 945) (v := x2) (j := 2) (by decide +kernel) (by decide +kernel) (by decide +kernel) e2) ?_
  refine ev_go0 (ev_one_pure (M := ev_Mlaw) (pc := 946) (i := .aload_n 0) (len := 1) (pc' := 947) (lv' := [(5, .int (1)), (4, .int (0)), (3, .ref 723), (2, .ref 621), (1, .ref 0), (0, .retAddr 0)]) (st' := [.retAddr 0, .int x2, .int x1, .ref 621]) (by decide +kernel) rfl) ?_
  refine ev_go0 (ev_one_pure (M := ev_Mlaw) (pc := 947) (i := .iload 4) (len := 2) (pc' := 949) (lv' := [(5, .int (1)), (4, .int (0)), (3, .ref 723), (2, .ref 621), (1, .ref 0), (0, .retAddr 0)]) (st' := [.int (0), .retAddr 0, .int x2, .int x1, .ref 621]) (by decide +kernel) rfl) ?_
  refine ev_go0 (ev_w_iconst (M := ev_Mlaw) (pc := 949) (k := 3) (v := 3) (by decide +kernel) (by decide +kernel)) ?_
  refine ev_go0 (ev_w_iadd (M := ev_Mlaw) (pc := 950) (v := (3)) (by decide +kernel) (by decide +kernel)) ?_
  refine ev_go0 (ev_w_scr (M := ev_Mlaw) (pc := 951) (v := (0)) (j := 3) (by decide +kernel) (by decide +kernel) (by decide +kernel) e3) ?_
  refine ev_go0 (ev_one_pure (M := ev_Mlaw) (pc := 952) (i := .aload_n 0) (len := 1) (pc' := 953) (lv' := [(5, .int (1)), (4, .int (0)), (3, .ref 723), (2, .ref 621), (1, .ref 0), (0, .retAddr 0)]) (st' := [.retAddr 0, .int (0), .int x2, .int x1, .ref 621]) (by decide +kernel) rfl) ?_
  refine ev_go0 (ev_one_pure (M := ev_Mlaw) (pc := 953) (i := .iload 4) (len := 2) (pc' := 955) (lv' := [(5, .int (1)), (4, .int (0)), (3, .ref 723), (2, .ref 621), (1, .ref 0), (0, .retAddr 0)]) (st' := [.int (0), .retAddr 0, .int (0), .int x2, .int x1, .ref 621]) (by decide +kernel) rfl) ?_
  refine ev_go0 (ev_w_iconst (M := ev_Mlaw) (pc := 955) (k := 4) (v := 4) (by decide +kernel) (by decide +kernel)) ?_
  refine ev_go0 (ev_w_iadd (M := ev_Mlaw) (pc := 956) (v := (4)) (by decide +kernel) (by decide +kernel)) ?_
  refine ev_go0 (ev_w_scr (M := ev_Mlaw) (pc := 957) (v := x4) (j := 4) (by decide +kernel) (by decide +kernel) (by decide +kernel) e4) ?_
  refine ev_go0 (ev_one_pure (M := ev_Mlaw) (pc := 958) (i := .aload_n 0) (len := 1) (pc' := 959) (lv' := [(5, .int (1)), (4, .int (0)), (3, .ref 723), (2, .ref 621), (1, .ref 0), (0, .retAddr 0)]) (st' := [.retAddr 0, .int x4, .int (0), .int x2, .int x1, .ref 621]) (by decide +kernel) rfl) ?_
  refine ev_go0 (ev_one_pure (M := ev_Mlaw) (pc := 959) (i := .iload 4) (len := 2) (pc' := 961) (lv' := [(5, .int (1)), (4, .int (0)), (3, .ref 723), (2, .ref 621), (1, .ref 0), (0, .retAddr 0)]) (st' := [.int (0), .retAddr 0, .int x4, .int (0), .int x2, .int x1, .ref 621]) (by decide +kernel) rfl) ?_
  refine ev_go0 (ev_w_iconst (M := ev_Mlaw) (pc := 961) (k := 5) (v := 5) (by decide +kernel) (by decide +kernel)) ?_
  refine ev_go0 (ev_w_iadd (M := ev_Mlaw) (pc := 962) (v := (5)) (by decide +kernel) (by decide +kernel)) ?_
  refine ev_go0 (ev_w_scr (M := ev_Mlaw) (pc := 963) (v := x5) (j := 5) (by decide +kernel) (by decide +kernel) (by decide +kernel) e5) ?_
  refine ev_go0 (ev_p_virt (M := ev_Mlaw) (pc := 964) (x := 174) (mi := 330) (na := 5) (by decide +kernel) (by decide +kernel) (by decide +kernel) (by decide +kernel) rfl rfl (ev_recv_of ev_fH621) (ev_k193 x1 x2 hu_x2 x4 x5)) ?_
  refine ev_go0 (ev_w_istore (M := ev_Mlaw) (pc := 967) (k := 6) (lv' := [(6, .int (0)), (5, .int (1)), (4, .int (0)), (3, .ref 723), (2, .ref 621), (1, .ref 0), (0, .retAddr 0)]) (by decide +kernel) (by decide +kernel) rfl) ?_
  refine ev_go0 (ev_one_pure (M := ev_Mlaw) (pc := 969) (i := .aload_n 2) (len := 1) (pc' := 970) (lv' := [(6, .int (0)), (5, .int (1)), (4, .int (0)), (3, .ref 723), (2, .ref 621), (1, .ref 0), (0, .retAddr 0)]) (st' := [.ref 621]) (by decide +kernel) rfl) ?_
  refine ev_go0 (ev_p_virt (M := ev_Mlaw) (pc := 970) (x := 131) (mi := 220) (na := 0) (by decide +kernel) (by decide +kernel) (by decide +kernel) (by decide +kernel) rfl rfl (ev_recv_of (ev_hself ev_fH621)) ev_k26) ?_
  refine ev_go0 (ev_one_pure (M := ev_Mlaw) (pc := 973) (i := .iload 5) (len := 2) (pc' := 975) (lv' := [(6, .int (0)), (5, .int (1)), (4, .int (0)), (3, .ref 723), (2, .ref 621), (1, .ref 0), (0, .retAddr 0)]) (st' := [.int (1), .int (1)]) (by decide +kernel) rfl) ?_
  refine ev_go0 (ev_w_icmp (M := ev_Mlaw) (pc := 975) (q := .eq) (o := 5) (b := true) (t := 980) (by decide +kernel) (by decide +kernel) rfl) ?_
  refine ev_go0 (ev_one_pure (M := ev_Mlaw) (pc := 980) (i := .iload 5) (len := 2) (pc' := 982) (lv' := [(6, .int (0)), (5, .int (1)), (4, .int (0)), (3, .ref 723), (2, .ref 621), (1, .ref 0), (0, .retAddr 0)]) (st' := [.int (1)]) (by decide +kernel) rfl) ?_
  refine ev_go0 (ev_w_if (M := ev_Mlaw) (pc := 982) (q := .ne) (o := 15) (b := true) (t := 997) (by decide +kernel) (by decide +kernel) rfl) ?_
  refine ev_go0 (ev_one_pure (M := ev_Mlaw) (pc := 997) (i := .goto 1275) (len := 3) (pc' := 2272) (lv' := [(6, .int (0)), (5, .int (1)), (4, .int (0)), (3, .ref 723), (2, .ref 621), (1, .ref 0), (0, .retAddr 0)]) (st' := []) (by decide +kernel) rfl) ?_
  rfl
theorem ev_k194 (x2 : Int32) (hu_x2 : x2.toInt ≤ (-1 : Int)) (x4 : Int32) (x5 : Int32) {n : Nat} : ev_calld 10 203 [.ref 0, .int x2, .int (1), .int x4, .int x5] ev_H0 n = some (.inl (some (.int (0))), ev_H0, n, 0, 0) := by
  refine ev_call_int (k := 12) (pcR := 60) (lv' := [(6, .ref 265), (5, .null), (0, .ref 0), (1, .int x2), (2, .int (1)), (3, .int x4), (4, .int x5)]) (v := (0)) (ty := .boolean) (by decide +kernel) rfl ?_ (by decide +kernel) (by decide +kernel) (by decide +kernel) (by decide)
  show ev_stepn _ 12 (0, [(0, .ref 0), (1, .int x2), (2, .int (1)), (3, .int x4), (4, .int x5)], [], _, _, 0, 0) = _
  refine ev_go0 (ev_one_pure (M := (ev_Mof 203)) (pc := 0) (i := .aload_n 0) (len := 1) (pc' := 1) (lv' := [(0, .ref 0), (1, .int x2), (2, .int (1)), (3, .int x4), (4, .int x5)]) (st' := [.ref 0]) (by decide +kernel) rfl) ?_
  refine ev_go0 (ev_one_pure (M := (ev_Mof 203)) (pc := 1) (i := .iload_n 1) (len := 1) (pc' := 2) (lv' := [(0, .ref 0), (1, .int x2), (2, .int (1)), (3, .int x4), (4, .int x5)]) (st' := [.int x2, .ref 0]) (by decide +kernel) rfl) ?_
  refine ev_go0 (ev_p_virt (M := (ev_Mof 203)) (pc := 2) (x := 156) (mi := 200) (na := 1) (by decide +kernel) (by decide +kernel) (by decide +kernel) (by decide +kernel) rfl rfl (ev_recv_of ev_fH0) (ev_k182 x2 hu_x2)) ?_
  refine ev_go0 (ev_w_astore (M := (ev_Mof 203)) (pc := 5) (k := 5) (lv' := [(5, .null), (0, .ref 0), (1, .int x2), (2, .int (1)), (3, .int x4), (4, .int x5)]) (by decide +kernel) (by decide +kernel) (Or.inr (Or.inl rfl)) rfl) ?_
  refine ev_go0 (ev_one_pure (M := (ev_Mof 203)) (pc := 7) (i := .aload_n 0) (len := 1) (pc' := 8) (lv' := [(5, .null), (0, .ref 0), (1, .int x2), (2, .int (1)), (3, .int x4), (4, .int x5)]) (st' := [.ref 0]) (by decide +kernel) rfl) ?_
  refine ev_go0 (ev_p_getf (M := (ev_Mof 203)) (pc := 8) (x := 48) (ci := 12) (f := 8) (fin := 1) (v := .ref 254) (by decide +kernel) (by decide +kernel) ev_fH0 rfl) ?_
  refine ev_go0 (ev_one_pure (M := (ev_Mof 203)) (pc := 11) (i := .iload_n 2) (len := 1) (pc' := 12) (lv' := [(5, .null), (0, .ref 0), (1, .int x2), (2, .int (1)), (3, .int x4), (4, .int x5)]) (st' := [.int (1), .ref 254]) (by decide +kernel) rfl) ?_
  refine ev_go0 (ev_p_virt (M := (ev_Mof 203)) (pc := 12) (x := 221) (mi := 1) (na := 1) (by decide +kernel) (by decide +kernel) (by decide +kernel) (by decide +kernel) rfl rfl (ev_recv_of ev_fH254) ev_k102) ?_
  refine ev_go0 (ev_w_astore (M := (ev_Mof 203)) (pc := 15) (k := 6) (lv' := [(6, .ref 265), (5, .null), (0, .ref 0), (1, .int x2), (2, .int (1)), (3, .int x4), (4, .int x5)]) (by decide +kernel) (by decide +kernel) (Or.inl ⟨_, rfl⟩) rfl) ?_
  refine ev_go0 (ev_one_pure (M := (ev_Mof 203)) (pc := 17) (i := .aload 5) (len := 2) (pc' := 19) (lv' := [(6, .ref 265), (5, .null), (0, .ref 0), (1, .int x2), (2, .int (1)), (3, .int x4), (4, .int x5)]) (st' := [.null]) (by decide +kernel) rfl) ?_
  refine ev_go0 (ev_w_ifnull (M := (ev_Mof 203)) (pc := 19) (o := 40) (t := 59) (by decide +kernel) (Or.inl ⟨rfl, rfl⟩)) ?_
  refine ev_go0 (ev_w_iconst (M := (ev_Mof 203)) (pc := 59) (k := 0) (v := 0) (by decide +kernel) (by decide +kernel)) ?_
  rfl
theorem ev_k195 (x1 : Int32) (x2 : Int32) (hu_x2 : x2.toInt ≤ (-1 : Int)) (x4 : Int32) (x5 : Int32) {n : Nat} : ev_calld 11 178 [.ref 0, .int x1, .int x2, .int (1), .int x4, .int x5] ev_H0 n = some (.inr "java/lang/IndexOutOfBoundsException", ev_H0, n, 1, 6) := by
  refine ev_call_thrown (k := 7) (pcR := 13) (x := 160) (lv' := [(0, .ref 0), (1, .int x1), (2, .int x2), (3, .int (1)), (4, .int x4), (5, .int x5)]) (by decide +kernel) rfl ?_ (by decide +kernel) (by decide +kernel) (by decide +kernel) (by decide) (by decide)
  show ev_stepn _ 7 (0, [(0, .ref 0), (1, .int x1), (2, .int x2), (3, .int (1)), (4, .int x4), (5, .int x5)], [], _, _, 0, 0) = _
  refine ev_go0 (ev_one_pure (M := (ev_Mof 178)) (pc := 0) (i := .aload_n 0) (len := 1) (pc' := 1) (lv' := [(0, .ref 0), (1, .int x1), (2, .int x2), (3, .int (1)), (4, .int x4), (5, .int x5)]) (st' := [.ref 0]) (by decide +kernel) rfl) ?_
  refine ev_go0 (ev_one_pure (M := (ev_Mof 178)) (pc := 1) (i := .iload_n 2) (len := 1) (pc' := 2) (lv' := [(0, .ref 0), (1, .int x1), (2, .int x2), (3, .int (1)), (4, .int x4), (5, .int x5)]) (st' := [.int x2, .ref 0]) (by decide +kernel) rfl) ?_
  refine ev_go0 (ev_one_pure (M := (ev_Mof 178)) (pc := 2) (i := .iload_n 3) (len := 1) (pc' := 3) (lv' := [(0, .ref 0), (1, .int x1), (2, .int x2), (3, .int (1)), (4, .int x4), (5, .int x5)]) (st' := [.int (1), .int x2, .ref 0]) (by decide +kernel) rfl) ?_
  refine ev_go0 (ev_one_pure (M := (ev_Mof 178)) (pc := 3) (i := .iload 4) (len := 2) (pc' := 5) (lv' := [(0, .ref 0), (1, .int x1), (2, .int x2), (3, .int (1)), (4, .int x4), (5, .int x5)]) (st' := [.int x4, .int (1), .int x2, .ref 0]) (by decide +kernel) rfl) ?_
  refine ev_go0 (ev_one_pure (M := (ev_Mof 178)) (pc := 5) (i := .iload 5) (len := 2) (pc' := 7) (lv' := [(0, .ref 0), (1, .int x1), (2, .int x2), (3, .int (1)), (4, .int x4), (5, .int x5)]) (st' := [.int x5, .int x4, .int (1), .int x2, .ref 0]) (by decide +kernel) rfl) ?_
  refine ev_go0 (ev_p_virt (M := (ev_Mof 178)) (pc := 7) (x := 205) (mi := 203) (na := 4) (by decide +kernel) (by decide +kernel) (by decide +kernel) (by decide +kernel) rfl rfl (ev_recv_of ev_fH0) (ev_k194 x2 hu_x2 x4 x5)) ?_
  refine ev_go0 (ev_w_if (M := (ev_Mof 178)) (pc := 10) (q := .ne) (o := 13) (b := false) (t := 13) (by decide +kernel) (by decide +kernel) rfl) ?_
  rfl
theorem ev_k196 (x1 : Int32) (x2 : Int32) (hu_x2 : x2.toInt ≤ (-1 : Int)) (x4 : Int32) (x5 : Int32) {n : Nat} : ev_calld 12 375 [.ref 0, .int x1, .int x2, .int (1), .int x4, .int x5, .ref 723] ev_H0 n = some (.inl (some (.int (1))), ev_H0, n, 1, 6) := by
  refine ev_call_int (k := 11) (pcR := 22) (lv' := [(7, .retAddr 1), (0, .ref 0), (1, .int x1), (2, .int x2), (3, .int (1)), (4, .int x4), (5, .int x5), (6, .ref 723)]) (v := (1)) (ty := .int) (by decide +kernel) rfl ?_ (by decide +kernel) (by decide +kernel) (by decide +kernel) (by decide)
  show ev_stepn _ 11 (0, [(0, .ref 0), (1, .int x1), (2, .int x2), (3, .int (1)), (4, .int x4), (5, .int x5), (6, .ref 723)], [], _, _, 0, 0) = _
  refine ev_go0 (ev_one_pure (M := (ev_Mof 375)) (pc := 0) (i := .aload 6) (len := 2) (pc' := 2) (lv' := [(0, .ref 0), (1, .int x1), (2, .int x2), (3, .int (1)), (4, .int x4), (5, .int x5), (6, .ref 723)]) (st' := [.ref 723]) (by decide +kernel) rfl) ?_
  refine ev_go0 (ev_w_iconst (M := (ev_Mof 375)) (pc := 2) (k := 0) (v := 0) (by decide +kernel) (by decide +kernel)) ?_
  refine ev_go0 (ev_one_pure (M := (ev_Mof 375)) (pc := 3) (i := .aload_n 0) (len := 1) (pc' := 4) (lv' := [(0, .ref 0), (1, .int x1), (2, .int x2), (3, .int (1)), (4, .int x4), (5, .int x5), (6, .ref 723)]) (st' := [.ref 0, .int (0), .ref 723]) (by decide +kernel) rfl) ?_
  refine ev_go0 (ev_one_pure (M := (ev_Mof 375)) (pc := 4) (i := .iload_n 1) (len := 1) (pc' := 5) (lv' := [(0, .ref 0), (1, .int x1), (2, .int x2), (3, .int (1)), (4, .int x4), (5, .int x5), (6, .ref 723)]) (st' := [.int x1, .ref 0, .int (0), .ref 723]) (by decide +kernel) rfl) ?_
  refine ev_go0 (ev_one_pure (M := (ev_Mof 375)) (pc := 5) (i := .iload_n 2) (len := 1) (pc' := 6) (lv' := [(0, .ref 0), (1, .int x1), (2, .int x2), (3, .int (1)), (4, .int x4), (5, .int x5), (6, .ref 723)]) (st' := [.int x2, .int x1, .ref 0, .int (0), .ref 723]) (by decide +kernel) rfl) ?_
  refine ev_go0 (ev_one_pure (M := (ev_Mof 375)) (pc := 6) (i := .iload_n 3) (len := 1) (pc' := 7) (lv' := [(0, .ref 0), (1, .int x1), (2, .int x2), (3, .int (1)), (4, .int x4), (5, .int x5), (6, .ref 723)]) (st' := [.int (1), .int x2, .int x1, .ref 0, .int (0), .ref 723]) (by decide +kernel) rfl) ?_
  refine ev_go0 (ev_one_pure (M := (ev_Mof 375)) (pc := 7) (i := .iload 4) (len := 2) (pc' := 9) (lv' := [(0, .ref 0), (1, .int x1), (2, .int x2), (3, .int (1)), (4, .int x4), (5, .int x5), (6, .ref 723)]) (st' := [.int x4, .int (1), .int x2, .int x1, .ref 0, .int (0), .ref 723]) (by decide +kernel) rfl) ?_
  refine ev_go0 (ev_one_pure (M := (ev_Mof 375)) (pc := 9) (i := .iload 5) (len := 2) (pc' := 11) (lv' := [(0, .ref 0), (1, .int x1), (2, .int x2), (3, .int (1)), (4, .int x4), (5, .int x5), (6, .ref 723)]) (st' := [.int x5, .int x4, .int (1), .int x2, .int x1, .ref 0, .int (0), .ref 723]) (by decide +kernel) rfl) ?_
  refine ev_go (ev_p_virtX (M := (ev_Mof 375)) (pc := 11) (x := 53) (t := 19) (mi := 178) (na := 5) (by decide +kernel) (by decide +kernel) (by decide +kernel) (by decide +kernel) rfl rfl (ev_recv_of ev_fH0) (ev_k195 x1 x2 hu_x2 x4 x5) (by decide +kernel)) ?_
  refine ev_go0 (ev_w_astore (M := (ev_Mof 375)) (pc := 19) (k := 7) (lv' := [(7, .retAddr 1), (0, .ref 0), (1, .int x1), (2, .int x2), (3, .int (1)), (4, .int x4), (5, .int x5), (6, .ref 723)]) (by decide +kernel) (by decide +kernel) (Or.inr (Or.inr ⟨_, rfl⟩)) rfl) ?_
  refine ev_go0 (ev_w_iconst (M := (ev_Mof 375)) (pc := 21) (k := 1) (v := 1) (by decide +kernel) (by decide +kernel)) ?_
  rfl
theorem ev_k197 (x1 : Int32) (x2 : Int32) (hu_x2 : x2.toInt ≤ (-1 : Int)) (x4 : Int32) (x5 : Int32) {n : Nat} : ev_calld 12 330 [.ref 621, .int x1, .int x2, .int (1), .int x4, .int x5] ev_H0 n = some (.inl (some (.int (0))), (ev_H0.set 621 (.inr (13, (ev_F621.set 0 (.int (1)))))), n, 0, 0) := by
  refine ev_call_int (k := 12) (pcR := 63) (lv' := [(0, .ref 621), (1, .int x1), (2, .int x2), (3, .int (1)), (4, .int x4), (5, .int x5)]) (v := (0)) (ty := .int) (by decide +kernel) rfl ?_ (by decide +kernel) (by decide +kernel) (by decide +kernel) (by decide)
  show ev_stepn _ 12 (0, [(0, .ref 621), (1, .int x1), (2, .int x2), (3, .int (1)), (4, .int x4), (5, .int x5)], [], _, _, 0, 0) = _
  refine ev_go0 (ev_one_pure (M := (ev_Mof 330)) (pc := 0) (i := .aload_n 0) (len := 1) (pc' := 1) (lv' := [(0, .ref 621), (1, .int x1), (2, .int x2), (3, .int (1)), (4, .int x4), (5, .int x5)]) (st' := [.ref 621]) (by decide +kernel) rfl) ?_
  refine ev_go0 (ev_one_pure (M := (ev_Mof 330)) (pc := 1) (i := .aload_n 0) (len := 1) (pc' := 2) (lv' := [(0, .ref 621), (1, .int x1), (2, .int x2), (3, .int (1)), (4, .int x4), (5, .int x5)]) (st' := [.ref 621, .ref 621]) (by decide +kernel) rfl) ?_
  refine ev_go0 (ev_one_pure (M := (ev_Mof 330)) (pc := 2) (i := .iload_n 2) (len := 1) (pc' := 3) (lv' := [(0, .ref 621), (1, .int x1), (2, .int x2), (3, .int (1)), (4, .int x4), (5, .int x5)]) (st' := [.int x2, .ref 621, .ref 621]) (by decide +kernel) rfl) ?_
  refine ev_go0 (ev_p_virt (M := (ev_Mof 330)) (pc := 3) (x := 531) (mi := 273) (na := 1) (by decide +kernel) (by decide +kernel) (by decide +kernel) (by decide +kernel) rfl rfl (ev_recv_of ev_fH621) (ev_k188 x2 hu_x2)) ?_
  refine ev_go0 (ev_w_if (M := (ev_Mof 330)) (pc := 6) (q := .eq) (o := 28) (b := true) (t := 34) (by decide +kernel) (by decide +kernel) rfl) ?_
  refine ev_go0 (ev_w_iconst (M := (ev_Mof 330)) (pc := 34) (k := 1) (v := 1) (by decide +kernel) (by decide +kernel)) ?_
  refine ev_go0 (ev_one_pure (M := (ev_Mof 330)) (pc := 35) (i := .goto 17) (len := 3) (pc' := 52) (lv' := [(0, .ref 621), (1, .int x1), (2, .int x2), (3, .int (1)), (4, .int x4), (5, .int x5)]) (st' := [.int (1), .ref 621]) (by decide +kernel) rfl) ?_
  refine ev_go0 (ev_p_putf (M := (ev_Mof 330)) (pc := 52) (x := 321) (ci := 13) (f := 0) (by decide +kernel) (by decide +kernel) ev_fH621 rfl (by decide +kernel)) ?_
  refine ev_go0 (ev_one_pure (M := (ev_Mof 330)) (pc := 55) (i := .aload_n 0) (len := 1) (pc' := 56) (lv' := [(0, .ref 621), (1, .int x1), (2, .int x2), (3, .int (1)), (4, .int x4), (5, .int x5)]) (st' := [.ref 621]) (by decide +kernel) rfl) ?_
  refine ev_go0 (ev_p_getf (M := (ev_Mof 330)) (pc := 56) (x := 321) (ci := 13) (f := 0) (fin := 0) (v := .int (1)) (by decide +kernel) (by decide +kernel) (ev_hself ev_fH621) rfl) ?_
  refine ev_go0 (ev_w_if (M := (ev_Mof 330)) (pc := 59) (q := .le) (o := 5) (b := false) (t := 62) (by decide +kernel) (by decide +kernel) rfl) ?_
  refine ev_go0 (ev_w_iconst (M := (ev_Mof 330)) (pc := 62) (k := 0) (v := 0) (by decide +kernel) (by decide +kernel)) ?_
  rfl
theorem ev_p1_12_n1 (xs : Nat → Int32) (x1 : Int32) (x2 : Int32) (hu_x2 : x2.toInt ≤ (-1 : Int)) (x4 : Int32) (x5 : Int32) (e1 : xs 1 = x1) (e2 : xs 2 = x2) (e3 : xs 3 = (1)) (e4 : xs 4 = x4) (e5 : xs 5 = x5) : ev_P1 xs 896 := by
  refine ⟨64, [(6, .int (0)), (5, .int (1)), (4, .int (0)), (3, .ref 723), (2, .ref 621), (1, .ref 0), (0, .retAddr 0)], (ev_H0.set 621 (.inr (13, (ev_F621.set 0 (.int (1)))))), 724, 725, 3553592, ?_, ⟨rfl, rfl, rfl, rfl⟩, rfl, by decide, by decide⟩
  show ev_stepn _ _ (896, [(4, .int (0)), (3, .ref 723), (2, .ref 621), (1, .ref 0), (0, .retAddr 0)], [], _, _, _, _) = _
  refine ev_go0 (ev_one_pure (M := ev_Mlaw) (pc := 896) (i := .aload_n 1) (len := 1) (pc' := 897) (lv' := [(4, .int (0)), (3, .ref 723), (2, .ref 621), (1, .ref 0), (0, .retAddr 0)]) (st' := [.ref 0]) (by decide +kernel) rfl) ?_
  refine ev_go0 (ev_one_pure (M := ev_Mlaw) (pc := 897) (i := .aload_n 0) (len := 1) (pc' := 898) (lv' := [(4, .int (0)), (3, .ref 723), (2, .ref 621), (1, .ref 0), (0, .retAddr 0)]) (st' := [.retAddr 0, .ref 0]) (by decide +kernel) rfl) ?_
  refine ev_go0 (ev_one_pure (M := ev_Mlaw) (pc := 898) (i := .iload 4) (len := 2) (pc' := 900) (lv' := [(4, .int (0)), (3, .ref 723), (2, .ref 621), (1, .ref 0), (0, .retAddr 0)]) (st' := [.int (0), .retAddr 0, .ref 0]) (by decide +kernel) rfl) ?_
  refine ev_go0 (ev_w_iconst (M := ev_Mlaw) (pc := 900) (k := 1) (v := 1) (by decide +kernel) (by decide +kernel)) ?_
  refine ev_go0 (ev_w_iadd (M := ev_Mlaw) (pc := 901) (v := (1)) (by decide +kernel) (by decide +kernel)) ?_
  refine ev_go0 (ev_w_scr (M := ev_Mlaw) (pc := 902) (v := x1) (j := 1) (by decide +kernel) (by decide +kernel) (by decide +kernel) e1) ?_
  refine ev_go0 (ev_one_pure (M := ev_Mlaw) (pc := 903) (i := .aload_n 0) (len := 1) (pc' := 904) (lv' := [(4, .int (0)), (3, .ref 723), (2, .ref 621), (1, .ref 0), (0, .retAddr 0)]) (st' := [.retAddr 0, .int x1, .ref 0]) (by decide +kernel) rfl) ?_
  refine ev_go0 (ev_one_pure (M := ev_Mlaw) (pc := 904) (i := .iload 4) (len := 2) (pc' := 906) (lv' := [(4, .int (0)), (3, .ref 723), (2, .ref 621), (1, .ref 0), (0, .retAddr 0)]) (st' := [.int (0), .retAddr 0, .int x1, .ref 0]) (by decide +kernel) rfl) ?_
  refine ev_go0 (ev_w_iconst (M := ev_Mlaw) (pc := 906) (k := 2) (v := 2) (by decide +kernel) (by decide +kernel)) ?_
  refine ev_go0 (ev_w_iadd (M := ev_Mlaw) (pc := 907) (v := (2)) (by decide +kernel) (by decide +kernel)) ?_
  refine ev_go0 (ev_w_scr (M := ev_Mlaw) (pc := 908) (v := x2) (j := 2) (by decide +kernel) (by decide +kernel) (by decide +kernel) e2) ?_
  refine ev_go0 (ev_one_pure (M := ev_Mlaw) (pc := 909) (i := .aload_n 0) (len := 1) (pc' := 910) (lv' := [(4, .int (0)), (3, .ref 723), (2, .ref 621), (1, .ref 0), (0, .retAddr 0)]) (st' := [.retAddr 0, .int x2, .int x1, .ref 0]) (by decide +kernel) rfl) ?_
  refine ev_go0 (ev_one_pure (M := ev_Mlaw) (pc := 910) (i := .iload 4) (len := 2) (pc' := 912) (lv' := [(4, .int (0)), (3, .ref 723), (2, .ref 621), (1, .ref 0), (0, .retAddr 0)]) (st' := [.int (0), .retAddr 0, .int x2, .int x1, .ref 0]) (by decide +kernel) rfl) ?_
  refine ev_go0 (ev_w_iconst (M := ev_Mlaw) (pc := 912) (k := 3) (v := 3) (by decide +kernel) (by decide +kernel)) ?_
  refine ev_go0 (ev_w_iadd (M := ev_Mlaw) (pc := 913) (v := (3)) (by decide +kernel) (by decide +kernel)) ?_
  refine ev_go0 (ev_w_scr (M := ev_Mlaw) (pc := 914) (v := (1)) (j := 3) (by decide +kernel) (by decide +kernel) (by decide +kernel) e3) ?_
  refine ev_go0 (ev_one_pure (M := ev_Mlaw) (pc := 915) (i := .aload_n 0) (len := 1) (pc' := 916) (lv' := [(4, .int (0)), (3, .ref 723), (2, .ref 621), (1, .ref 0), (0, .retAddr 0)]) (st' := [.retAddr 0, .int (1), .int x2, .int x1, .ref 0]) (by decide +kernel) rfl) ?_
  refine ev_go0 (ev_one_pure (M := ev_Mlaw) (pc := 916) (i := .iload 4) (len := 2) (pc' := 918) (lv' := [(4, .int (0)), (3, .ref 723), (2, .ref 621), (1, .ref 0), (0, .retAddr 0)]) (st' := [.int (0), .retAddr 0, .int (1), .int x2, .int x1, .ref 0]) (by decide +kernel) rfl) ?_
  refine ev_go0 (ev_w_iconst (M := ev_Mlaw) (pc := 918) (k := 4) (v := 4) (by decide +kernel) (by decide +kernel)) ?_
  refine ev_go0 (ev_w_iadd (M := ev_Mlaw) (pc := 919) (v := (4)) (by decide +kernel) (by decide +kernel)) ?_
  refine ev_go0 (ev_w_scr (M := ev_Mlaw) (pc := 920) (v := x4) (j := 4) (by decide +kernel) (by decide +kernel) (by decide +kernel) e4) ?_
  refine ev_go0 (ev_one_pure (M := ev_Mlaw) (pc := 921) (i := .aload_n 0) (len := 1) (pc' := 922) (lv' := [(4, .int (0)), (3, .ref 723), (2, .ref 621), (1, .ref 0), (0, .retAddr 0)]) (st' := [.retAddr 0, .int x4, .int (1), .int x2, .int x1, .ref 0]) (by decide +kernel) rfl) ?_
  refine ev_go0 (ev_one_pure (M := ev_Mlaw) (pc := 922) (i := .iload 4) (len := 2) (pc' := 924) (lv' := [(4, .int (0)), (3, .ref 723), (2, .ref 621), (1, .ref 0), (0, .retAddr 0)]) (st' := [.int (0), .retAddr 0, .int x4, .int (1), .int x2, .int x1, .ref 0]) (by decide +kernel) rfl) ?_
  refine ev_go0 (ev_w_iconst (M := ev_Mlaw) (pc := 924) (k := 5) (v := 5) (by decide +kernel) (by decide +kernel)) ?_
  refine ev_go0 (ev_w_iadd (M := ev_Mlaw) (pc := 925) (v := (5)) (by decide +kernel) (by decide +kernel)) ?_
  refine ev_go0 (ev_w_scr (M := ev_Mlaw) (pc := 926) (v := x5) (j := 5) (by decide +kernel) (by decide +kernel) (by decide +kernel) e5) ?_
  refine ev_go0 (ev_one_pure (M := ev_Mlaw) (pc := 927) (i := .aload_n 3) (len := 1) (pc' := 928) (lv' := [(4, .int (0)), (3, .ref 723), (2, .ref 621), (1, .ref 0), (0, .retAddr 0)]) (st' := [.ref 723, .int x5, .int x4, .int (1), .int x2, .int x1, .ref 0]) (by decide +kernel) rfl) ?_
  refine ev_go (ev_w_stat (M := ev_Mlaw) (pc := 928) (y := 171) (kind := 8) (Or.inr (Or.inr rfl)) (mi := 375) (na := 7) (by decide +kernel) (by decide +kernel) (by decide +kernel) (by decide +kernel) rfl rfl (ev_k196 x1 x2 hu_x2 x4 x5)) ?_
  refine ev_go0 (ev_w_istore (M := ev_Mlaw) (pc := 931) (k := 5) (lv' := [(5, .int (1)), (4, .int (0)), (3, .ref 723), (2, .ref 621), (1, .ref 0), (0, .retAddr 0)]) (by decide +kernel) (by decide +kernel) rfl) ?_
  refine ev_go0 (ev_one_pure (M := ev_Mlaw) (pc := 933) (i := .aload_n 2) (len := 1) (pc' := 934) (lv' := [(5, .int (1)), (4, .int (0)), (3, .ref 723), (2, .ref 621), (1, .ref 0), (0, .retAddr 0)]) (st' := [.ref 621]) (by decide +kernel) rfl) ?_
  refine ev_go0 (ev_one_pure (M := ev_Mlaw) (pc := 934) (i := .aload_n 0) (len := 1) (pc' := 935) (lv' := [(5, .int (1)), (4, .int (0)), (3, .ref 723), (2, .ref 621), (1, .ref 0), (0, .retAddr 0)]) (st' := [.retAddr 0, .ref 621]) (by decide +kernel) rfl) ?_
  refine ev_go0 (ev_one_pure (M := ev_Mlaw) (pc := 935) (i := .iload 4) (len := 2) (pc' := 937) (lv' := [(5, .int (1)), (4, .int (0)), (3, .ref 723), (2, .ref 621), (1, .ref 0), (0, .retAddr 0)]) (st' := [.int (0), .retAddr 0, .ref 621]) (by decide +kernel) rfl) ?_
  refine ev_go0 (ev_w_iconst (M := ev_Mlaw) (pc := 937) (k := 1) (v := 1) (by decide +kernel) (by decide +kernel)) ?_
  refine ev_go0 (ev_w_iadd (M := ev_Mlaw) (pc := 938) (v := (1)) (by decide +kernel) (by decide +kernel)) ?_
  refine ev_go0 (ev_w_scr (M := ev_Mlaw) (pc := 939) (v := x1) (j := 1) (by decide +kernel) (by decide +kernel) (by decide +kernel) e1) ?_
  refine ev_go0 (ev_one_pure (M := ev_Mlaw) (pc := 940) (i := .aload_n 0) (len := 1) (pc' := 941) (lv' := [(5, .int (1)), (4, .int (0)), (3, .ref 723), (2, .ref 621), (1, .ref 0), (0, .retAddr 0)]) (st' := [.retAddr 0, .int x1, .ref 621]) (by decide +kernel) rfl) ?_
  refine ev_go0 (ev_one_pure (M := ev_Mlaw) (pc := 941) (i := .iload 4) (len := 2) (pc' := 943) (lv' := [(5, .int (1)), (4, .int (0)), (3, .ref 723), (2, .ref 621), (1, .ref 0), (0, .retAddr 0)]) (st' := [.int (0), .retAddr 0, .int x1, .ref 621]) (by decide +kernel) rfl) ?_
  refine ev_go0 (ev_w_iconst (M := ev_Mlaw) (pc := 943) (k := 2) (v := 2) (by decide +kernel) (by decide +kernel)) ?_
  refine ev_go0 (ev_w_iadd (M := ev_Mlaw) (pc := 944) (v := (2)) (by decide +kernel) (by decide +kernel)) ?_
  refine ev_go0 (ev_w_scr (M := ev_Mlaw) (pc := 945) (v := x2) (j := 2) (by decide +kernel) (by decide +kernel) (by decide +kernel) e2) ?_
  refine ev_go0 (ev_one_pure (M := ev_Mlaw) (pc := 946) (i := .aload_n 0) (len := 1) (pc' := 947) (lv' := [(5, .int (1)), (4, .int (0)), (3, .ref 723), (2, .ref 621), (1, .ref 0), (0, .retAddr 0)]) (st' := [.retAddr 0, .int x2, .int x1, .ref 621]) (by decide +kernel) rfl) ?_
  refine ev_go0 (ev_one_pure (M := ev_Mlaw) (pc := 947) (i := .iload 4) (len := 2) (pc' := 949) (lv' := [(5, .int (1)), (4, .int (0)), (3, .ref 723), (2, .ref 621), (1, .ref 0), (0, .retAddr 0)]) (st' := [.int (0), .retAddr 0, .int x2, .int x1, .ref 621]) (by decide +kernel) rfl) ?_
  refine ev_go0 (ev_w_iconst (M := ev_Mlaw) (pc := 949) (k := 3) (v := 3) (by decide +kernel) (by decide +kernel)) ?_
  refine ev_go0 (ev_w_iadd (M := ev_Mlaw) (pc := 950) (v := (3)) (by decide +kernel) (by decide +kernel)) ?_
  refine ev_go0 (ev_w_scr (M := ev_Mlaw) (pc := 951) (v := (1)) (j := 3) (by decide +kernel) (by decide +kernel) (by decide +kernel) e3) ?_
  refine ev_go0 (ev_one_pure (M := ev_Mlaw) (pc := 952) (i := .aload_n 0) (len := 1) (pc' := 953) (lv' := [(5, .int (1)), (4, .int (0)), (3, .ref 723), (2, .ref 621), (1, .ref 0), (0, .retAddr 0)]) (st' := [.retAddr 0, .int (1), .int x2, .int x1, .ref 621]) (by decide +kernel) rfl) ?_
  refine ev_go0 (ev_one_pure (M := ev_Mlaw) (pc := 953) (i := .iload 4) (len := 2) (pc' := 955) (lv' := [(5, .int (1)), (4, .int (0)), (3, .ref 723), (2, .ref 621), (1, .ref 0), (0, .retAddr 0)]) (st' := [.int (0), .retAddr 0, .int (1), .int x2, .int x1, .ref 621]) (by decide +kernel) rfl) ?_
  refine ev_go0 (ev_w_iconst (M := ev_Mlaw) (pc := 955) (k := 4) (v := 4) (by decide +kernel) (by decide +kernel)) ?_
  refine ev_go0 (ev_w_iadd (M := ev_Mlaw) (pc := 956) (v := (4)) (by decide +kernel) (by decide +kernel)) ?_
  refine ev_go0 (ev_w_scr (M := ev_Mlaw) (pc := 957) (v := x4) (j := 4) (by decide +kernel) (by decide +kernel) (by decide +kernel) e4) ?_
  refine ev_go0 (ev_one_pure (M := ev_Mlaw) (pc := 958) (i := .aload_n 0) (len := 1) (pc' := 959) (lv' := [(5, .int (1)), (4, .int (0)), (3, .ref 723), (2, .ref 621), (1, .ref 0), (0, .retAddr 0)]) (st' := [.retAddr 0, .int x4, .int (1), .int x2, .int x1, .ref 621]) (by decide +kernel) rfl) ?_
  refine ev_go0 (ev_one_pure (M := ev_Mlaw) (pc := 959) (i := .iload 4) (len := 2) (pc' := 961) (lv' := [(5, .int (1)), (4, .int (0)), (3, .ref 723), (2, .ref 621), (1, .ref 0), (0, .retAddr 0)]) (st' := [.int (0), .retAddr 0, .int x4, .int (1), .int x2, .int x1, .ref 621]) (by decide +kernel) rfl) ?_
  refine ev_go0 (ev_w_iconst (M := ev_Mlaw) (pc := 961) (k := 5) (v := 5) (by decide +kernel) (by decide +kernel)) ?_
  refine ev_go0 (ev_w_iadd (M := ev_Mlaw) (pc := 962) (v := (5)) (by decide +kernel) (by decide +kernel)) ?_
  refine ev_go0 (ev_w_scr (M := ev_Mlaw) (pc := 963) (v := x5) (j := 5) (by decide +kernel) (by decide +kernel) (by decide +kernel) e5) ?_
  refine ev_go0 (ev_p_virt (M := ev_Mlaw) (pc := 964) (x := 174) (mi := 330) (na := 5) (by decide +kernel) (by decide +kernel) (by decide +kernel) (by decide +kernel) rfl rfl (ev_recv_of ev_fH621) (ev_k197 x1 x2 hu_x2 x4 x5)) ?_
  refine ev_go0 (ev_w_istore (M := ev_Mlaw) (pc := 967) (k := 6) (lv' := [(6, .int (0)), (5, .int (1)), (4, .int (0)), (3, .ref 723), (2, .ref 621), (1, .ref 0), (0, .retAddr 0)]) (by decide +kernel) (by decide +kernel) rfl) ?_
  refine ev_go0 (ev_one_pure (M := ev_Mlaw) (pc := 969) (i := .aload_n 2) (len := 1) (pc' := 970) (lv' := [(6, .int (0)), (5, .int (1)), (4, .int (0)), (3, .ref 723), (2, .ref 621), (1, .ref 0), (0, .retAddr 0)]) (st' := [.ref 621]) (by decide +kernel) rfl) ?_
  refine ev_go0 (ev_p_virt (M := ev_Mlaw) (pc := 970) (x := 131) (mi := 220) (na := 0) (by decide +kernel) (by decide +kernel) (by decide +kernel) (by decide +kernel) rfl rfl (ev_recv_of (ev_hself ev_fH621)) ev_k26) ?_
  refine ev_go0 (ev_one_pure (M := ev_Mlaw) (pc := 973) (i := .iload 5) (len := 2) (pc' := 975) (lv' := [(6, .int (0)), (5, .int (1)), (4, .int (0)), (3, .ref 723), (2, .ref 621), (1, .ref 0), (0, .retAddr 0)]) (st' := [.int (1), .int (1)]) (by decide +kernel) rfl) ?_
  refine ev_go0 (ev_w_icmp (M := ev_Mlaw) (pc := 975) (q := .eq) (o := 5) (b := true) (t := 980) (by decide +kernel) (by decide +kernel) rfl) ?_
  refine ev_go0 (ev_one_pure (M := ev_Mlaw) (pc := 980) (i := .iload 5) (len := 2) (pc' := 982) (lv' := [(6, .int (0)), (5, .int (1)), (4, .int (0)), (3, .ref 723), (2, .ref 621), (1, .ref 0), (0, .retAddr 0)]) (st' := [.int (1)]) (by decide +kernel) rfl) ?_
  refine ev_go0 (ev_w_if (M := ev_Mlaw) (pc := 982) (q := .ne) (o := 15) (b := true) (t := 997) (by decide +kernel) (by decide +kernel) rfl) ?_
  refine ev_go0 (ev_one_pure (M := ev_Mlaw) (pc := 997) (i := .goto 1275) (len := 3) (pc' := 2272) (lv' := [(6, .int (0)), (5, .int (1)), (4, .int (0)), (3, .ref 723), (2, .ref 621), (1, .ref 0), (0, .retAddr 0)]) (st' := []) (by decide +kernel) rfl) ?_
  rfl
theorem ev_k198 (x2 : Int32) (hu_x2 : x2.toInt ≤ (-1 : Int)) (x4 : Int32) (x5 : Int32) {n : Nat} : ev_calld 10 203 [.ref 0, .int x2, .int (2), .int x4, .int x5] ev_H0 n = some (.inl (some (.int (0))), ev_H0, n, 0, 0) := by
  refine ev_call_int (k := 12) (pcR := 60) (lv' := [(6, .ref 267), (5, .null), (0, .ref 0), (1, .int x2), (2, .int (2)), (3, .int x4), (4, .int x5)]) (v := (0)) (ty := .boolean) (by decide +kernel) rfl ?_ (by decide +kernel) (by decide +kernel) (by decide +kernel) (by decide)
  show ev_stepn _ 12 (0, [(0, .ref 0), (1, .int x2), (2, .int (2)), (3, .int x4), (4, .int x5)], [], _, _, 0, 0) = _
  refine ev_go0 (ev_one_pure (M := (ev_Mof 203)) (pc := 0) (i := .aload_n 0) (len := 1) (pc' := 1) (lv' := [(0, .ref 0), (1, .int x2), (2, .int (2)), (3, .int x4), (4, .int x5)]) (st' := [.ref 0]) (by decide +kernel) rfl) ?_
  refine ev_go0 (ev_one_pure (M := (ev_Mof 203)) (pc := 1) (i := .iload_n 1) (len := 1) (pc' := 2) (lv' := [(0, .ref 0), (1, .int x2), (2, .int (2)), (3, .int x4), (4, .int x5)]) (st' := [.int x2, .ref 0]) (by decide +kernel) rfl) ?_
  refine ev_go0 (ev_p_virt (M := (ev_Mof 203)) (pc := 2) (x := 156) (mi := 200) (na := 1) (by decide +kernel) (by decide +kernel) (by decide +kernel) (by decide +kernel) rfl rfl (ev_recv_of ev_fH0) (ev_k182 x2 hu_x2)) ?_
  refine ev_go0 (ev_w_astore (M := (ev_Mof 203)) (pc := 5) (k := 5) (lv' := [(5, .null), (0, .ref 0), (1, .int x2), (2, .int (2)), (3, .int x4), (4, .int x5)]) (by decide +kernel) (by decide +kernel) (Or.inr (Or.inl rfl)) rfl) ?_
  refine ev_go0 (ev_one_pure (M := (ev_Mof 203)) (pc := 7) (i := .aload_n 0) (len := 1) (pc' := 8) (lv' := [(5, .null), (0, .ref 0), (1, .int x2), (2, .int (2)), (3, .int x4), (4, .int x5)]) (st' := [.ref 0]) (by decide +kernel) rfl) ?_
  refine ev_go0 (ev_p_getf (M := (ev_Mof 203)) (pc := 8) (x := 48) (ci := 12) (f := 8) (fin := 1) (v := .ref 254) (by decide +kernel) (by decide +kernel) ev_fH0 rfl) ?_
  refine ev_go0 (ev_one_pure (M := (ev_Mof 203)) (pc := 11) (i := .iload_n 2) (len := 1) (pc' := 12) (lv' := [(5, .null), (0, .ref 0), (1, .int x2), (2, .int (2)), (3, .int x4), (4, .int x5)]) (st' := [.int (2), .ref 254]) (by decide +kernel) rfl) ?_
  refine ev_go0 (ev_p_virt (M := (ev_Mof 203)) (pc := 12) (x := 221) (mi := 1) (na := 1) (by decide +kernel) (by decide +kernel) (by decide +kernel) (by decide +kernel) rfl rfl (ev_recv_of ev_fH254) ev_k107) ?_
  refine ev_go0 (ev_w_astore (M := (ev_Mof 203)) (pc := 15) (k := 6) (lv' := [(6, .ref 267), (5, .null), (0, .ref 0), (1, .int x2), (2, .int (2)), (3, .int x4), (4, .int x5)]) (by decide +kernel) (by decide +kernel) (Or.inl ⟨_, rfl⟩) rfl) ?_
  refine ev_go0 (ev_one_pure (M := (ev_Mof 203)) (pc := 17) (i := .aload 5) (len := 2) (pc' := 19) (lv' := [(6, .ref 267), (5, .null), (0, .ref 0), (1, .int x2), (2, .int (2)), (3, .int x4), (4, .int x5)]) (st' := [.null]) (by decide +kernel) rfl) ?_
  refine ev_go0 (ev_w_ifnull (M := (ev_Mof 203)) (pc := 19) (o := 40) (t := 59) (by decide +kernel) (Or.inl ⟨rfl, rfl⟩)) ?_
  refine ev_go0 (ev_w_iconst (M := (ev_Mof 203)) (pc := 59) (k := 0) (v := 0) (by decide +kernel) (by decide +kernel)) ?_
  rfl
theorem ev_k199 (x1 : Int32) (x2 : Int32) (hu_x2 : x2.toInt ≤ (-1 : Int)) (x4 : Int32) (x5 : Int32) {n : Nat} : ev_calld 11 178 [.ref 0, .int x1, .int x2, .int (2), .int x4, .int x5] ev_H0 n = some (.inr "java/lang/IndexOutOfBoundsException", ev_H0, n, 1, 6) := by
  refine ev_call_thrown (k := 7) (pcR := 13) (x := 160) (lv' := [(0, .ref 0), (1, .int x1), (2, .int x2), (3, .int (2)), (4, .int x4), (5, .int x5)]) (by decide +kernel) rfl ?_ (by decide +kernel) (by decide +kernel) (by decide +kernel) (by decide) (by decide)
  show ev_stepn _ 7 (0, [(0, .ref 0), (1, .int x1), (2, .int x2), (3, .int (2)), (4, .int x4), (5, .int x5)], [], _, _, 0, 0) = _
  refine ev_go0 (ev_one_pure (M := (ev_Mof 178)) (pc := 0) (i := .aload_n 0) (len := 1) (pc' := 1) (lv' := [(0, .ref 0), (1, .int x1), (2, .int x2), (3, .int (2)), (4, .int x4), (5, .int x5)]) (st' := [.ref 0]) (by decide +kernel) rfl) ?_
  refine ev_go0 (ev_one_pure (M := (ev_Mof 178)) (pc := 1) (i := .iload_n 2) (len := 1) (pc' := 2) (lv' := [(0, .ref 0), (1, .int x1), (2, .int x2), (3, .int (2)), (4, .int x4), (5, .int x5)]) (st' := [.int x2, .ref 0]) (by decide +kernel) rfl) ?_
  refine ev_go0 (ev_one_pure (M := (ev_Mof 178)) (pc := 2) (i := .iload_n 3) (len := 1) (pc' := 3) (lv' := [(0, .ref 0), (1, .int x1), (2, .int x2), (3, .int (2)), (4, .int x4), (5, .int x5)]) (st' := [.int (2), .int x2, .ref 0]) (by decide +kernel) rfl) ?_
  refine ev_go0 (ev_one_pure (M := (ev_Mof 178)) (pc := 3) (i := .iload 4) (len := 2) (pc' := 5) (lv' := [(0, .ref 0), (1, .int x1), (2, .int x2), (3, .int (2)), (4, .int x4), (5, .int x5)]) (st' := [.int x4, .int (2), .int x2, .ref 0]) (by decide +kernel) rfl) ?_
  refine ev_go0 (ev_one_pure (M := (ev_Mof 178)) (pc := 5) (i := .iload 5) (len := 2) (pc' := 7) (lv' := [(0, .ref 0), (1, .int x1), (2, .int x2), (3, .int (2)), (4, .int x4), (5, .int x5)]) (st' := [.int x5, .int x4, .int (2), .int x2, .ref 0]) (by decide +kernel) rfl) ?_
  refine ev_go0 (ev_p_virt (M := (ev_Mof 178)) (pc := 7) (x := 205) (mi := 203) (na := 4) (by decide +kernel) (by decide +kernel) (by decide +kernel) (by decide +kernel) rfl rfl (ev_recv_of ev_fH0) (ev_k198 x2 hu_x2 x4 x5)) ?_
  refine ev_go0 (ev_w_if (M := (ev_Mof 178)) (pc := 10) (q := .ne) (o := 13) (b := false) (t := 13) (by decide +kernel) (by decide +kernel) rfl) ?_
  rfl
theorem ev_k200 (x1 : Int32) (x2 : Int32) (hu_x2 : x2.toInt ≤ (-1 : Int)) (x4 : Int32) (x5 : Int32) {n : Nat} : ev_calld 12 375 [.ref 0, .int x1, .int x2, .int (2), .int x4, .int x5, .ref 723] ev_H0 n = some (.inl (some (.int (1))), ev_H0, n, 1, 6) := by
  refine ev_call_int (k := 11) (pcR := 22) (lv' := [(7, .retAddr 1), (0, .ref 0), (1, .int x1), (2, .int x2), (3, .int (2)), (4, .int x4), (5, .int x5), (6, .ref 723)]) (v := (1)) (ty := .int) (by decide +kernel) rfl ?_ (by decide +kernel) (by decide +kernel) (by decide +kernel) (by decide)
  show ev_stepn _ 11 (0, [(0, .ref 0), (1, .int x1), (2, .int x2), (3, .int (2)), (4, .int x4), (5, .int x5), (6, .ref 723)], [], _, _, 0, 0) = _
  refine ev_go0 (ev_one_pure (M := (ev_Mof 375)) (pc := 0) (i := .aload 6) (len := 2) (pc' := 2) (lv' := [(0, .ref 0), (1, .int x1), (2, .int x2), (3, .int (2)), (4, .int x4), (5, .int x5), (6, .ref 723)]) (st' := [.ref 723]) (by decide +kernel) rfl) ?_
  refine ev_go0 (ev_w_iconst (M := (ev_Mof 375)) (pc := 2) (k := 0) (v := 0) (by decide +kernel) (by decide +kernel)) ?_
  refine ev_go0 (ev_one_pure (M := (ev_Mof 375)) (pc := 3) (i := .aload_n 0) (len := 1) (pc' := 4) (lv' := [(0, .ref 0), (1, .int x1), (2, .int x2), (3, .int (2)), (4, .int x4), (5, .int x5), (6, .ref 723)]) (st' := [.ref 0, .int (0), .ref 723]) (by decide +kernel) rfl) ?_
  refine ev_go0 (ev_one_pure (M := (ev_Mof 375)) (pc := 4) (i := .iload_n 1) (len := 1) (pc' := 5) (lv' := [(0, .ref 0), (1, .int x1), (2, .int x2), (3, .int (2)), (4, .int x4), (5, .int x5), (6, .ref 723)]) (st' := [.int x1, .ref 0, .int (0), .ref 723]) (by decide +kernel) rfl) ?_
  refine ev_go0 (ev_one_pure (M := (ev_Mof 375)) (pc := 5) (i := .iload_n 2) (len := 1) (pc' := 6) (lv' := [(0, .ref 0), (1, .int x1), (2, .int x2), (3, .int (2)), (4, .int x4), (5, .int x5), (6, .ref 723)]) (st' := [.int x2, .int x1, .ref 0, .int (0), .ref 723]) (by decide +kernel) rfl) ?_
  refine ev_go0 (ev_one_pure (M := (ev_Mof 375)) (pc := 6) (i := .iload_n 3) (len := 1) (pc' := 7) (lv' := [(0, .ref 0), (1, .int x1), (2, .int x2), (3, .int (2)), (4, .int x4), (5, .int x5), (6, .ref 723)]) (st' := [.int (2), .int x2, .int x1, .ref 0, .int (0), .ref 723]) (by decide +kernel) rfl) ?_
  refine ev_go0 (ev_one_pure (M := (ev_Mof 375)) (pc := 7) (i := .iload 4) (len := 2) (pc' := 9) (lv' := [(0, .ref 0), (1, .int x1), (2, .int x2), (3, .int (2)), (4, .int x4), (5, .int x5), (6, .ref 723)]) (st' := [.int x4, .int (2), .int x2, .int x1, .ref 0, .int (0), .ref 723]) (by decide +kernel) rfl) ?_
  refine ev_go0 (ev_one_pure (M := (ev_Mof 375)) (pc := 9) (i := .iload 5) (len := 2) (pc' := 11) (lv' := [(0, .ref 0), (1, .int x1), (2, .int x2), (3, .int (2)), (4, .int x4), (5, .int x5), (6, .ref 723)]) (st' := [.int x5, .int x4, .int (2), .int x2, .int x1, .ref 0, .int (0), .ref 723]) (by decide +kernel) rfl) ?_
  refine ev_go (ev_p_virtX (M := (ev_Mof 375)) (pc := 11) (x := 53) (t := 19) (mi := 178) (na := 5) (by decide +kernel) (by decide +kernel) (by decide +kernel) (by decide +kernel) rfl rfl (ev_recv_of ev_fH0) (ev_k199 x1 x2 hu_x2 x4 x5) (by decide +kernel)) ?_
  refine ev_go0 (ev_w_astore (M := (ev_Mof 375)) (pc := 19) (k := 7) (lv' := [(7, .retAddr 1), (0, .ref 0), (1, .int x1), (2, .int x2), (3, .int (2)), (4, .int x4), (5, .int x5), (6, .ref 723)]) (by decide +kernel) (by decide +kernel) (Or.inr (Or.inr ⟨_, rfl⟩)) rfl) ?_
  refine ev_go0 (ev_w_iconst (M := (ev_Mof 375)) (pc := 21) (k := 1) (v := 1) (by decide +kernel) (by decide +kernel)) ?_
  rfl
theorem ev_k201 (x1 : Int32) (x2 : Int32) (hu_x2 : x2.toInt ≤ (-1 : Int)) (x4 : Int32) (x5 : Int32) {n : Nat} : ev_calld 12 330 [.ref 621, .int x1, .int x2, .int (2), .int x4, .int x5] ev_H0 n = some (.inl (some (.int (0))), (ev_H0.set 621 (.inr (13, (ev_F621.set 0 (.int (1)))))), n, 0, 0) := by
  refine ev_call_int (k := 12) (pcR := 63) (lv' := [(0, .ref 621), (1, .int x1), (2, .int x2), (3, .int (2)), (4, .int x4), (5, .int x5)]) (v := (0)) (ty := .int) (by decide +kernel) rfl ?_ (by decide +kernel) (by decide +kernel) (by decide +kernel) (by decide)
  show ev_stepn _ 12 (0, [(0, .ref 621), (1, .int x1), (2, .int x2), (3, .int (2)), (4, .int x4), (5, .int x5)], [], _, _, 0, 0) = _
  refine ev_go0 (ev_one_pure (M := (ev_Mof 330)) (pc := 0) (i := .aload_n 0) (len := 1) (pc' := 1) (lv' := [(0, .ref 621), (1, .int x1), (2, .int x2), (3, .int (2)), (4, .int x4), (5, .int x5)]) (st' := [.ref 621]) (by decide +kernel) rfl) ?_
  refine ev_go0 (ev_one_pure (M := (ev_Mof 330)) (pc := 1) (i := .aload_n 0) (len := 1) (pc' := 2) (lv' := [(0, .ref 621), (1, .int x1), (2, .int x2), (3, .int (2)), (4, .int x4), (5, .int x5)]) (st' := [.ref 621, .ref 621]) (by decide +kernel) rfl) ?_
  refine ev_go0 (ev_one_pure (M := (ev_Mof 330)) (pc := 2) (i := .iload_n 2) (len := 1) (pc' := 3) (lv' := [(0, .ref 621), (1, .int x1), (2, .int x2), (3, .int (2)), (4, .int x4), (5, .int x5)]) (st' := [.int x2, .ref 621, .ref 621]) (by decide +kernel) rfl) ?_
  refine ev_go0 (ev_p_virt (M := (ev_Mof 330)) (pc := 3) (x := 531) (mi := 273) (na := 1) (by decide +kernel) (by decide +kernel) (by decide +kernel) (by decide +kernel) rfl rfl (ev_recv_of ev_fH621) (ev_k188 x2 hu_x2)) ?_
  refine ev_go0 (ev_w_if (M := (ev_Mof 330)) (pc := 6) (q := .eq) (o := 28) (b := true) (t := 34) (by decide +kernel) (by decide +kernel) rfl) ?_
  refine ev_go0 (ev_w_iconst (M := (ev_Mof 330)) (pc := 34) (k := 1) (v := 1) (by decide +kernel) (by decide +kernel)) ?_
  refine ev_go0 (ev_one_pure (M := (ev_Mof 330)) (pc := 35) (i := .goto 17) (len := 3) (pc' := 52) (lv' := [(0, .ref 621), (1, .int x1), (2, .int x2), (3, .int (2)), (4, .int x4), (5, .int x5)]) (st' := [.int (1), .ref 621]) (by decide +kernel) rfl) ?_
  refine ev_go0 (ev_p_putf (M := (ev_Mof 330)) (pc := 52) (x := 321) (ci := 13) (f := 0) (by decide +kernel) (by decide +kernel) ev_fH621 rfl (by decide +kernel)) ?_
  refine ev_go0 (ev_one_pure (M := (ev_Mof 330)) (pc := 55) (i := .aload_n 0) (len := 1) (pc' := 56) (lv' := [(0, .ref 621), (1, .int x1), (2, .int x2), (3, .int (2)), (4, .int x4), (5, .int x5)]) (st' := [.ref 621]) (by decide +kernel) rfl) ?_
  refine ev_go0 (ev_p_getf (M := (ev_Mof 330)) (pc := 56) (x := 321) (ci := 13) (f := 0) (fin := 0) (v := .int (1)) (by decide +kernel) (by decide +kernel) (ev_hself ev_fH621) rfl) ?_
  refine ev_go0 (ev_w_if (M := (ev_Mof 330)) (pc := 59) (q := .le) (o := 5) (b := false) (t := 62) (by decide +kernel) (by decide +kernel) rfl) ?_
  refine ev_go0 (ev_w_iconst (M := (ev_Mof 330)) (pc := 62) (k := 0) (v := 0) (by decide +kernel) (by decide +kernel)) ?_
  rfl
theorem ev_p1_12_n2 (xs : Nat → Int32) (x1 : Int32) (x2 : Int32) (hu_x2 : x2.toInt ≤ (-1 : Int)) (x4 : Int32) (x5 : Int32) (e1 : xs 1 = x1) (e2 : xs 2 = x2) (e3 : xs 3 = (2)) (e4 : xs 4 = x4) (e5 : xs 5 = x5) : ev_P1 xs 896 := by
  refine ⟨64, [(6, .int (0)), (5, .int (1)), (4, .int (0)), (3, .ref 723), (2, .ref 621), (1, .ref 0), (0, .retAddr 0)], (ev_H0.set 621 (.inr (13, (ev_F621.set 0 (.int (1)))))), 724, 725, 3553592, ?_, ⟨rfl, rfl, rfl, rfl⟩, rfl, by decide, by decide⟩
  show ev_stepn _ _ (896, [(4, .int (0)), (3, .ref 723), (2, .ref 621), (1, .ref 0), (0, .retAddr 0)], [], _, _, _, _) = _
  refine ev_go0 (ev_one_pure (M := ev_Mlaw) (pc := 896) (i := .aload_n 1) (len := 1) (pc' := 897) (lv' := [(4, .int (0)), (3, .ref 723), (2, .ref 621), (1, .ref 0), (0, .retAddr 0)]) (st' := [.ref 0]) (by decide +kernel) rfl) ?_
  refine ev_go0 (ev_one_pure (M := ev_Mlaw) (pc := 897) (i := .aload_n 0) (len := 1) (pc' := 898) (lv' := [(4, .int (0)), (3, .ref 723), (2, .ref 621), (1, .ref 0), (0, .retAddr 0)]) (st' := [.retAddr 0, .ref 0]) (by decide +kernel) rfl) ?_
  refine ev_go0 (ev_one_pure (M := ev_Mlaw) (pc := 898) (i := .iload 4) (len := 2) (pc' := 900) (lv' := [(4, .int (0)), (3, .ref 723), (2, .ref 621), (1, .ref 0), (0, .retAddr 0)]) (st' := [.int (0), .retAddr 0, .ref 0]) (by decide +kernel) rfl) ?_
  refine ev_go0 (ev_w_iconst (M := ev_Mlaw) (pc := 900) (k := 1) (v := 1) (by decide +kernel) (by decide +kernel)) ?_
  refine ev_go0 (ev_w_iadd (M := ev_Mlaw) (pc := 901) (v := (1)) (by decide +kernel) (by decide +kernel)) ?_
  refine ev_go0 (ev_w_scr (M := ev_Mlaw) (pc := 902) (v := x1) (j := 1) (by decide +kernel) (by decide +kernel) (by decide +kernel) e1) ?_
  refine ev_go0 (ev_one_pure (M := ev_Mlaw) (pc := 903) (i := .aload_n 0) (len := 1) (pc' := 904) (lv' := [(4, .int (0)), (3, .ref 723), (2, .ref 621), (1, .ref 0), (0, .retAddr 0)]) (st' := [.retAddr 0, .int x1, .ref 0]) (by decide +kernel) rfl) ?_
  refine ev_go0 (ev_one_pure (M := ev_Mlaw) (pc := 904) (i := .iload 4) (len := 2) (pc' := 906) (lv' := [(4, .int (0)), (3, .ref 723), (2, .ref 621), (1, .ref 0), (0, .retAddr 0)]) (st' := [.int (0), .retAddr 0, .int x1, .ref 0]) (by decide +kernel) rfl) ?_
  refine ev_go0 (ev_w_iconst (M := ev_Mlaw) (pc := 906) (k := 2) (v := 2) (by decide +kernel) (by decide +kernel)) ?_
  refine ev_go0 (ev_w_iadd (M := ev_Mlaw) (pc := 907) (v := (2)) (by decide +kernel) (by decide +kernel)) ?_
  refine ev_go0 (ev_w_scr (M := ev_Mlaw) (pc := 908) (v := x2) (j := 2) (by decide +kernel) (by decide +kernel) (by decide +kernel) e2) ?_
  refine ev_go0 (ev_one_pure (M := ev_Mlaw) (pc := 909) (i := .aload_n 0) (len := 1) (pc' := 910) (lv' := [(4, .int (0)), (3, .ref 723), (2, .ref 621), (1, .ref 0), (0, .retAddr 0)]) (st' := [.retAddr 0, .int x2, .int x1, .ref 0]) (by decide +kernel) rfl) ?_
  refine ev_go0 (ev_one_pure (M := ev_Mlaw) (pc := 910) (i := .iload 4) (len := 2) (pc' := 912) (lv' := [(4, .int (0)), (3, .ref 723), (2, .ref 621), (1, .ref 0), (0, .retAddr 0)]) (st' := [.int (0), .retAddr 0, .int x2, .int x1, .ref 0]) (by decide +kernel) rfl) ?_
  refine ev_go0 (ev_w_iconst (M := ev_Mlaw) (pc := 912) (k := 3) (v := 3) (by decide +kernel) (by decide +kernel)) ?_
  refine ev_go0 (ev_w_iadd (M := ev_Mlaw) (pc := 913) (v := (3)) (by decide +kernel) (by decide +kernel)) ?_
  refine ev_go0 (ev_w_scr (M := ev_Mlaw) (pc := 914) (v := (2)) (j := 3) (by decide +kernel) (by decide +kernel) (by decide +kernel) e3) ?_
  refine ev_go0 (ev_one_pure (M := ev_Mlaw) (pc := 915) (i := .aload_n 0) (len := 1) (pc' := 916) (lv' := [(4, .int (0)), (3, .ref 723), (2, .ref 621), (1, .ref 0), (0, .retAddr 0)]) (st' := [.retAddr 0, .int (2), .int x2, .int x1, .ref 0]) (by decide +kernel) rfl) ?_
  refine ev_go0 (ev_one_pure (M := ev_Mlaw) (pc := 916) (i := .iload 4) (len := 2) (pc' := 918) (lv' := [(4, .int (0)), (3, .ref 723), (2, .ref 621), (1, .ref 0), (0, .retAddr 0)]) (st' := [.int (0), .retAddr 0, .int (2), .int x2, .int x1, .ref 0]) (by decide +kernel) rfl) ?_
  refine ev_go0 (ev_w_iconst (M := ev_Mlaw) (pc := 918) (k := 4) (v := 4) (by decide +kernel) (by decide +kernel)) ?_
  refine ev_go0 (ev_w_iadd (M := ev_Mlaw) (pc := 919) (v := (4)) (by decide +kernel) (by decide +kernel)) ?_
  refine ev_go0 (ev_w_scr (M := ev_Mlaw) (pc := 920) (v := x4) (j := 4) (by decide +kernel) (by decide +kernel) (by decide +kernel) e4) ?_
  refine ev_go0 (ev_one_pure (M := ev_Mlaw) (pc := 921) (i := .aload_n 0) (len := 1) (pc' := 922) (lv' := [(4, .int (0)), (3, .ref 723), (2, .ref 621), (1, .ref 0), (0, .retAddr 0)]) (st' := [.retAddr 0, .int x4, .int (2), .int x2, .int x1, .ref 0]) (by decide +kernel) rfl) ?_
  refine ev_go0 (ev_one_pure (M := ev_Mlaw) (pc := 922) (i := .iload 4) (len := 2) (pc' := 924) (lv' := [(4, .int (0)), (3, .ref 723), (2, .ref 621), (1, .ref 0), (0, .retAddr 0)]) (st' := [.int (0), .retAddr 0, .int x4, .int (2), .int x2, .int x1, .ref 0]) (by decide +kernel) rfl) ?_
  refine ev_go0 (ev_w_iconst (M := ev_Mlaw) (pc := 924) (k := 5) (v := 5) (by decide +kernel) (by decide +kernel)) ?_
  refine ev_go0 (ev_w_iadd (M := ev_Mlaw) (pc := 925) (v := (5)) (by decide +kernel) (by decide +kernel)) ?_
  refine ev_go0 (ev_w_scr (M := ev_Mlaw) (pc := 926) (v := x5) (j := 5) (by decide +kernel) (by decide +kernel) (by decide +kernel) e5) ?_
  refine ev_go0 (ev_one_pure (M := ev_Mlaw) (pc := 927) (i := .aload_n 3) (len := 1) (pc' := 928) (lv' := [(4, .int (0)), (3, .ref 723), (2, .ref 621), (1, .ref 0), (0, .retAddr 0)]) (st' := [.ref 723, .int x5, .int x4, .int (2), .int x2, .int x1, .ref 0]) (by decide +kernel) rfl) ?_
  refine ev_go (ev_w_stat (M := ev_Mlaw) (pc := 928) (y := 171) (kind := 8) (Or.inr (Or.inr rfl)) (mi := 375) (na := 7) (by decide +kernel) (by decide +kernel) (by decide +kernel) (by decide +kernel) rfl rfl (ev_k200 x1 x2 hu_x2 x4 x5)) ?_
  refine ev_go0 (ev_w_istore (M := ev_Mlaw) (pc := 931) (k := 5) (lv' := [(5, .int (1)), (4, .int (0)), (3, .ref 723), (2, .ref 621), (1, .ref 0), (0, .retAddr 0)]) (by decide +kernel) (by decide +kernel) rfl) ?_
  refine ev_go0 (ev_one_pure (M := ev_Mlaw) (pc := 933) (i := .aload_n 2) (len := 1) (pc' := 934) (lv' := [(5, .int (1)), (4, .int (0)), (3, .ref 723), (2, .ref 621), (1, .ref 0), (0, .retAddr 0)]) (st' := [.ref 621]) (by decide +kernel) rfl) ?_
  refine ev_go0 (ev_one_pure (M := ev_Mlaw) (pc := 934) (i := .aload_n 0) (len := 1) (pc' := 935) (lv' := [(5, .int (1)), (4, .int (0)), (3, .ref 723), (2, .ref 621), (1, .ref 0), (0, .retAddr 0)]) (st' := [.retAddr 0, .ref 621]) (by decide +kernel) rfl) ?_
  refine ev_go0 (ev_one_pure (M := ev_Mlaw) (pc := 935) (i := .iload 4) (len := 2) (pc' := 937) (lv' := [(5, .int (1)), (4, .int (0)), (3, .ref 723), (2, .ref 621), (1, .ref 0), (0, .retAddr 0)]) (st' := [.int (0), .retAddr 0, .ref 621]) (by decide +kernel) rfl) ?_
  refine ev_go0 (ev_w_iconst (M := ev_Mlaw) (pc := 937) (k := 1) (v := 1) (by decide +kernel) (by decide +kernel)) ?_
  refine ev_go0 (ev_w_iadd (M := ev_Mlaw) (pc := 938) (v := (1)) (by decide +kernel) (by decide +kernel)) ?_
  refine ev_go0 (ev_w_scr (M := ev_Mlaw) (pc := 939) (v := x1) (j := 1) (by decide +kernel) (by decide +kernel) (by decide +kernel) e1) ?_
  refine ev_go0 (ev_one_pure (M := ev_Mlaw) (pc := 940) (i := .aload_n 0) (len := 1) (pc' := 941) (lv' := [(5, .int (1)), (4, .int (0)), (3, .ref 723), (2, .ref 621), (1, .ref 0), (0, .retAddr 0)]) (st' := [.retAddr 0, .int x1, .ref 621]) (by decide +kernel) rfl) ?_
  refine ev_go0 (ev_one_pure (M := ev_Mlaw) (pc := 941) (i := .iload 4) (len := 2) (pc' := 943) (lv' := [(5, .int (1)), (4, .int (0)), (3, .ref 723), (2, .ref 621), (1, .ref 0), (0, .retAddr 0)]) (st' := [.int (0), .retAddr 0, .int x1, .ref 621]) (by decide +kernel) rfl) ?_
  refine ev_go0 (ev_w_iconst (M := ev_Mlaw) (pc := 943) (k := 2) (v := 2) (by decide +kernel) (by decide +kernel)) ?_
  refine ev_go0 (ev_w_iadd (M := ev_Mlaw) (pc := 944) (v := (2)) (by decide +kernel) (by decide +kernel)) ?_
  refine ev_go0 (ev_w_scr (M := ev_Mlaw) (pc := 945) (v := x2) (j := 2) (by decide +kernel) (by decide +kernel) (by decide +kernel) e2) ?_
  refine ev_go0 (ev_one_pure (M := ev_Mlaw) (pc := 946) (i := .aload_n 0) (len := 1) (pc' := 947) (lv' := [(5, .int (1)), (4, .int (0)), (3, .ref 723), (2, .ref 621), (1, .ref 0), (0, .retAddr 0)]) (st' := [.retAddr 0, .int x2, .int x1, .ref 621]) (by decide +kernel) rfl) ?_
  refine ev_go0 (ev_one_pure (M := ev_Mlaw) (pc := 947) (i := .iload 4) (len := 2) (pc' := 949) (lv' := [(5, .int (1)), (4, .int (0)), (3, .ref 723), (2, .ref 621), (1, .ref 0), (0, .retAddr 0)]) (st' := [.int (0), .retAddr 0, .int x2, .int x1, .ref 621]) (by decide +kernel) rfl) ?_
  refine ev_go0 (ev_w_iconst (M := ev_Mlaw) (pc := 949) (k := 3) (v := 3) (by decide +kernel) (by decide +kernel)) ?_
  refine ev_go0 (ev_w_iadd (M := ev_Mlaw) (pc := 950) (v := (3)) (by decide +kernel) (by decide +kernel)) ?_
  refine ev_go0 (ev_w_scr (M := ev_Mlaw) (pc := 951) (v := (2)) (j := 3) (by decide +kernel) (by decide +kernel) (by decide +kernel) e3) ?_
  refine ev_go0 (ev_one_pure (M := ev_Mlaw) (pc := 952) (i := .aload_n 0) (len := 1) (pc' := 953) (lv' := [(5, .int (1)), (4, .int (0)), (3, .ref 723), (2, .ref 621), (1, .ref 0), (0, .retAddr 0)]) (st' := [.retAddr 0, .int (2), .int x2, .int x1, .ref 621]) (by decide +kernel) rfl) ?_
  refine ev_go0 (ev_one_pure (M := ev_Mlaw) (pc := 953) (i := .iload 4) (len := 2) (pc' := 955) (lv' := [(5, .int (1)), (4, .int (0)), (3, .ref 723), (2, .ref 621), (1, .ref 0), (0, .retAddr 0)]) (st' := [.int (0), .retAddr 0, .int (2), .int x2, .int x1, .ref 621]) (by decide +kernel) rfl) ?_
  refine ev_go0 (ev_w_iconst (M := ev_Mlaw) (pc := 955) (k := 4) (v := 4) (by decide +kernel) (by decide +kernel)) ?_
  refine ev_go0 (ev_w_iadd (M := ev_Mlaw) (pc := 956) (v := (4)) (by decide +kernel) (by decide +kernel)) ?_
  refine ev_go0 (ev_w_scr (M := ev_Mlaw) (pc := 957) (v := x4) (j := 4) (by decide +kernel) (by decide +kernel) (by decide +kernel) e4) ?_
  refine ev_go0 (ev_one_pure (M := ev_Mlaw) (pc := 958) (i := .aload_n 0) (len := 1) (pc' := 959) (lv' := [(5, .int (1)), (4, .int (0)), (3, .ref 723), (2, .ref 621), (1, .ref 0), (0, .retAddr 0)]) (st' := [.retAddr 0, .int x4, .int (2), .int x2, .int x1, .ref 621]) (by decide +kernel) rfl) ?_
  refine ev_go0 (ev_one_pure (M := ev_Mlaw) (pc := 959) (i := .iload 4) (len := 2) (pc' := 961) (lv' := [(5, .int (1)), (4, .int (0)), (3, .ref 723), (2, .ref 621), (1, .ref 0), (0, .retAddr 0)]) (st' := [.int (0), .retAddr 0, .int x4, .int (2), .int x2, .int x1, .ref 621]) (by decide +kernel) rfl) ?_
  refine ev_go0 (ev_w_iconst (M := ev_Mlaw) (pc := 961) (k := 5) (v := 5) (by decide +kernel) (by decide +kernel)) ?_
  refine ev_go0 (ev_w_iadd (M := ev_Mlaw) (pc := 962) (v := (5)) (by decide +kernel) (by decide +kernel)) ?_
  refine ev_go0 (ev_w_scr (M := ev_Mlaw) (pc := 963) (v := x5) (j := 5) (by decide +kernel) (by decide +kernel) (by decide +kernel) e5) ?_
  refine ev_go0 (ev_p_virt (M := ev_Mlaw) (pc := 964) (x := 174) (mi := 330) (na := 5) (by decide +kernel) (by decide +kernel) (by decide +kernel) (by decide +kernel) rfl rfl (ev_recv_of ev_fH621) (ev_k201 x1 x2 hu_x2 x4 x5)) ?_
  refine ev_go0 (ev_w_istore (M := ev_Mlaw) (pc := 967) (k := 6) (lv' := [(6, .int (0)), (5, .int (1)), (4, .int (0)), (3, .ref 723), (2, .ref 621), (1, .ref 0), (0, .retAddr 0)]) (by decide +kernel) (by decide +kernel) rfl) ?_
  refine ev_go0 (ev_one_pure (M := ev_Mlaw) (pc := 969) (i := .aload_n 2) (len := 1) (pc' := 970) (lv' := [(6, .int (0)), (5, .int (1)), (4, .int (0)), (3, .ref 723), (2, .ref 621), (1, .ref 0), (0, .retAddr 0)]) (st' := [.ref 621]) (by decide +kernel) rfl) ?_
  refine ev_go0 (ev_p_virt (M := ev_Mlaw) (pc := 970) (x := 131) (mi := 220) (na := 0) (by decide +kernel) (by decide +kernel) (by decide +kernel) (by decide +kernel) rfl rfl (ev_recv_of (ev_hself ev_fH621)) ev_k26) ?_
  refine ev_go0 (ev_one_pure (M := ev_Mlaw) (pc := 973) (i := .iload 5) (len := 2) (pc' := 975) (lv' := [(6, .int (0)), (5, .int (1)), (4, .int (0)), (3, .ref 723), (2, .ref 621), (1, .ref 0), (0, .retAddr 0)]) (st' := [.int (1), .int (1)]) (by decide +kernel) rfl) ?_
  refine ev_go0 (ev_w_icmp (M := ev_Mlaw) (pc := 975) (q := .eq) (o := 5) (b := true) (t := 980) (by decide +kernel) (by decide +kernel) rfl) ?_
  refine ev_go0 (ev_one_pure (M := ev_Mlaw) (pc := 980) (i := .iload 5) (len := 2) (pc' := 982) (lv' := [(6, .int (0)), (5, .int (1)), (4, .int (0)), (3, .ref 723), (2, .ref 621), (1, .ref 0), (0, .retAddr 0)]) (st' := [.int (1)]) (by decide +kernel) rfl) ?_
  refine ev_go0 (ev_w_if (M := ev_Mlaw) (pc := 982) (q := .ne) (o := 15) (b := true) (t := 997) (by decide +kernel) (by decide +kernel) rfl) ?_
  refine ev_go0 (ev_one_pure (M := ev_Mlaw) (pc := 997) (i := .goto 1275) (len := 3) (pc' := 2272) (lv' := [(6, .int (0)), (5, .int (1)), (4, .int (0)), (3, .ref 723), (2, .ref 621), (1, .ref 0), (0, .retAddr 0)]) (st' := []) (by decide +kernel) rfl) ?_
  rfl
theorem ev_k202 (x3 : Int32) (hl_x3 : (3 : Int) ≤ x3.toInt) {n : Nat} : ev_calld 9 1 [.ref 254, .int x3] ev_H0 n = some (.inl (some (.null)), ev_H0, n, 0, 0) := by
  refine ev_call_ref (k := 6) (pcR := 19) (lv' := [(0, .ref 254), (1, .int x3)]) (v := .null) (C := "MendBench$Text") (by decide +kernel) rfl ?_ (by decide +kernel) (by decide +kernel) rfl (by decide)
  show ev_stepn _ 6 (0, [(0, .ref 254), (1, .int x3)], [], _, _, 0, 0) = _
  refine ev_go0 (ev_one_pure (M := (ev_Mof 1)) (pc := 0) (i := .iload_n 1) (len := 1) (pc' := 1) (lv' := [(0, .ref 254), (1, .int x3)]) (st' := [.int x3]) (by decide +kernel) rfl) ?_
  refine ev_go0 (ev_w_if (M := (ev_Mof 1)) (pc := 1) (q := .lt) (o := 17) (b := false) (t := 4) (by decide +kernel) (ev_c_lt0 hl_x3 (by decide +kernel)) rfl) ?_
  refine ev_go0 (ev_one_pure (M := (ev_Mof 1)) (pc := 4) (i := .iload_n 1) (len := 1) (pc' := 5) (lv' := [(0, .ref 254), (1, .int x3)]) (st' := [.int x3]) (by decide +kernel) rfl) ?_
  refine ev_go0 (ev_w_iconst (M := (ev_Mof 1)) (pc := 5) (k := 3) (v := 3) (by decide +kernel) (by decide +kernel)) ?_
  refine ev_go0 (ev_w_icmp (M := (ev_Mof 1)) (pc := 6) (q := .ge) (o := 12) (b := true) (t := 18) (by decide +kernel) (ev_c_ge1 hl_x3 (by decide +kernel)) rfl) ?_
  refine ev_go0 (ev_one_pure (M := (ev_Mof 1)) (pc := 18) (i := .aconst_null) (len := 1) (pc' := 19) (lv' := [(0, .ref 254), (1, .int x3)]) (st' := [.null]) (by decide +kernel) rfl) ?_
  rfl
theorem ev_k203 (x2 : Int32) (hu_x2 : x2.toInt ≤ (-1 : Int)) (x3 : Int32) (hl_x3 : (3 : Int) ≤ x3.toInt) (x4 : Int32) (x5 : Int32) {n : Nat} : ev_calld 10 203 [.ref 0, .int x2, .int x3, .int x4, .int x5] ev_H0 n = some (.inl (some (.int (0))), ev_H0, n, 0, 0) := by
  refine ev_call_int (k := 12) (pcR := 60) (lv' := [(6, .null), (5, .null), (0, .ref 0), (1, .int x2), (2, .int x3), (3, .int x4), (4, .int x5)]) (v := (0)) (ty := .boolean) (by decide +kernel) rfl ?_ (by decide +kernel) (by decide +kernel) (by decide +kernel) (by decide)
  show ev_stepn _ 12 (0, [(0, .ref 0), (1, .int x2), (2, .int x3), (3, .int x4), (4, .int x5)], [], _, _, 0, 0) = _
  refine ev_go0 (ev_one_pure (M := (ev_Mof 203)) (pc := 0) (i := .aload_n 0) (len := 1) (pc' := 1) (lv' := [(0, .ref 0), (1, .int x2), (2, .int x3), (3, .int x4), (4, .int x5)]) (st' := [.ref 0]) (by decide +kernel) rfl) ?_
  refine ev_go0 (ev_one_pure (M := (ev_Mof 203)) (pc := 1) (i := .iload_n 1) (len := 1) (pc' := 2) (lv' := [(0, .ref 0), (1, .int x2), (2, .int x3), (3, .int x4), (4, .int x5)]) (st' := [.int x2, .ref 0]) (by decide +kernel) rfl) ?_
  refine ev_go0 (ev_p_virt (M := (ev_Mof 203)) (pc := 2) (x := 156) (mi := 200) (na := 1) (by decide +kernel) (by decide +kernel) (by decide +kernel) (by decide +kernel) rfl rfl (ev_recv_of ev_fH0) (ev_k182 x2 hu_x2)) ?_
  refine ev_go0 (ev_w_astore (M := (ev_Mof 203)) (pc := 5) (k := 5) (lv' := [(5, .null), (0, .ref 0), (1, .int x2), (2, .int x3), (3, .int x4), (4, .int x5)]) (by decide +kernel) (by decide +kernel) (Or.inr (Or.inl rfl)) rfl) ?_
  refine ev_go0 (ev_one_pure (M := (ev_Mof 203)) (pc := 7) (i := .aload_n 0) (len := 1) (pc' := 8) (lv' := [(5, .null), (0, .ref 0), (1, .int x2), (2, .int x3), (3, .int x4), (4, .int x5)]) (st' := [.ref 0]) (by decide +kernel) rfl) ?_
  refine ev_go0 (ev_p_getf (M := (ev_Mof 203)) (pc := 8) (x := 48) (ci := 12) (f := 8) (fin := 1) (v := .ref 254) (by decide +kernel) (by decide +kernel) ev_fH0 rfl) ?_
  refine ev_go0 (ev_one_pure (M := (ev_Mof 203)) (pc := 11) (i := .iload_n 2) (len := 1) (pc' := 12) (lv' := [(5, .null), (0, .ref 0), (1, .int x2), (2, .int x3), (3, .int x4), (4, .int x5)]) (st' := [.int x3, .ref 254]) (by decide +kernel) rfl) ?_
  refine ev_go0 (ev_p_virt (M := (ev_Mof 203)) (pc := 12) (x := 221) (mi := 1) (na := 1) (by decide +kernel) (by decide +kernel) (by decide +kernel) (by decide +kernel) rfl rfl (ev_recv_of ev_fH254) (ev_k202 x3 hl_x3)) ?_
  refine ev_go0 (ev_w_astore (M := (ev_Mof 203)) (pc := 15) (k := 6) (lv' := [(6, .null), (5, .null), (0, .ref 0), (1, .int x2), (2, .int x3), (3, .int x4), (4, .int x5)]) (by decide +kernel) (by decide +kernel) (Or.inr (Or.inl rfl)) rfl) ?_
  refine ev_go0 (ev_one_pure (M := (ev_Mof 203)) (pc := 17) (i := .aload 5) (len := 2) (pc' := 19) (lv' := [(6, .null), (5, .null), (0, .ref 0), (1, .int x2), (2, .int x3), (3, .int x4), (4, .int x5)]) (st' := [.null]) (by decide +kernel) rfl) ?_
  refine ev_go0 (ev_w_ifnull (M := (ev_Mof 203)) (pc := 19) (o := 40) (t := 59) (by decide +kernel) (Or.inl ⟨rfl, rfl⟩)) ?_
  refine ev_go0 (ev_w_iconst (M := (ev_Mof 203)) (pc := 59) (k := 0) (v := 0) (by decide +kernel) (by decide +kernel)) ?_
  rfl
theorem ev_k204 (x1 : Int32) (x2 : Int32) (hu_x2 : x2.toInt ≤ (-1 : Int)) (x3 : Int32) (hl_x3 : (3 : Int) ≤ x3.toInt) (x4 : Int32) (x5 : Int32) {n : Nat} : ev_calld 11 178 [.ref 0, .int x1, .int x2, .int x3, .int x4, .int x5] ev_H0 n = some (.inr "java/lang/IndexOutOfBoundsException", ev_H0, n, 1, 6) := by
  refine ev_call_thrown (k := 7) (pcR := 13) (x := 160) (lv' := [(0, .ref 0), (1, .int x1), (2, .int x2), (3, .int x3), (4, .int x4), (5, .int x5)]) (by decide +kernel) rfl ?_ (by decide +kernel) (by decide +kernel) (by decide +kernel) (by decide) (by decide)
  show ev_stepn _ 7 (0, [(0, .ref 0), (1, .int x1), (2, .int x2), (3, .int x3), (4, .int x4), (5, .int x5)], [], _, _, 0, 0) = _
  refine ev_go0 (ev_one_pure (M := (ev_Mof 178)) (pc := 0) (i := .aload_n 0) (len := 1) (pc' := 1) (lv' := [(0, .ref 0), (1, .int x1), (2, .int x2), (3, .int x3), (4, .int x4), (5, .int x5)]) (st' := [.ref 0]) (by decide +kernel) rfl) ?_
  refine ev_go0 (ev_one_pure (M := (ev_Mof 178)) (pc := 1) (i := .iload_n 2) (len := 1) (pc' := 2) (lv' := [(0, .ref 0), (1, .int x1), (2, .int x2), (3, .int x3), (4, .int x4), (5, .int x5)]) (st' := [.int x2, .ref 0]) (by decide +kernel) rfl) ?_
  refine ev_go0 (ev_one_pure (M := (ev_Mof 178)) (pc := 2) (i := .iload_n 3) (len := 1) (pc' := 3) (lv' := [(0, .ref 0), (1, .int x1), (2, .int x2), (3, .int x3), (4, .int x4), (5, .int x5)]) (st' := [.int x3, .int x2, .ref 0]) (by decide +kernel) rfl) ?_
  refine ev_go0 (ev_one_pure (M := (ev_Mof 178)) (pc := 3) (i := .iload 4) (len := 2) (pc' := 5) (lv' := [(0, .ref 0), (1, .int x1), (2, .int x2), (3, .int x3), (4, .int x4), (5, .int x5)]) (st' := [.int x4, .int x3, .int x2, .ref 0]) (by decide +kernel) rfl) ?_
  refine ev_go0 (ev_one_pure (M := (ev_Mof 178)) (pc := 5) (i := .iload 5) (len := 2) (pc' := 7) (lv' := [(0, .ref 0), (1, .int x1), (2, .int x2), (3, .int x3), (4, .int x4), (5, .int x5)]) (st' := [.int x5, .int x4, .int x3, .int x2, .ref 0]) (by decide +kernel) rfl) ?_
  refine ev_go0 (ev_p_virt (M := (ev_Mof 178)) (pc := 7) (x := 205) (mi := 203) (na := 4) (by decide +kernel) (by decide +kernel) (by decide +kernel) (by decide +kernel) rfl rfl (ev_recv_of ev_fH0) (ev_k203 x2 hu_x2 x3 hl_x3 x4 x5)) ?_
  refine ev_go0 (ev_w_if (M := (ev_Mof 178)) (pc := 10) (q := .ne) (o := 13) (b := false) (t := 13) (by decide +kernel) (by decide +kernel) rfl) ?_
  rfl
theorem ev_k205 (x1 : Int32) (x2 : Int32) (hu_x2 : x2.toInt ≤ (-1 : Int)) (x3 : Int32) (hl_x3 : (3 : Int) ≤ x3.toInt) (x4 : Int32) (x5 : Int32) {n : Nat} : ev_calld 12 375 [.ref 0, .int x1, .int x2, .int x3, .int x4, .int x5, .ref 723] ev_H0 n = some (.inl (some (.int (1))), ev_H0, n, 1, 6) := by
  refine ev_call_int (k := 11) (pcR := 22) (lv' := [(7, .retAddr 1), (0, .ref 0), (1, .int x1), (2, .int x2), (3, .int x3), (4, .int x4), (5, .int x5), (6, .ref 723)]) (v := (1)) (ty := .int) (by decide +kernel) rfl ?_ (by decide +kernel) (by decide +kernel) (by decide +kernel) (by decide)
  show ev_stepn _ 11 (0, [(0, .ref 0), (1, .int x1), (2, .int x2), (3, .int x3), (4, .int x4), (5, .int x5), (6, .ref 723)], [], _, _, 0, 0) = _
  refine ev_go0 (ev_one_pure (M := (ev_Mof 375)) (pc := 0) (i := .aload 6) (len := 2) (pc' := 2) (lv' := [(0, .ref 0), (1, .int x1), (2, .int x2), (3, .int x3), (4, .int x4), (5, .int x5), (6, .ref 723)]) (st' := [.ref 723]) (by decide +kernel) rfl) ?_
  refine ev_go0 (ev_w_iconst (M := (ev_Mof 375)) (pc := 2) (k := 0) (v := 0) (by decide +kernel) (by decide +kernel)) ?_
  refine ev_go0 (ev_one_pure (M := (ev_Mof 375)) (pc := 3) (i := .aload_n 0) (len := 1) (pc' := 4) (lv' := [(0, .ref 0), (1, .int x1), (2, .int x2), (3, .int x3), (4, .int x4), (5, .int x5), (6, .ref 723)]) (st' := [.ref 0, .int (0), .ref 723]) (by decide +kernel) rfl) ?_
  refine ev_go0 (ev_one_pure (M := (ev_Mof 375)) (pc := 4) (i := .iload_n 1) (len := 1) (pc' := 5) (lv' := [(0, .ref 0), (1, .int x1), (2, .int x2), (3, .int x3), (4, .int x4), (5, .int x5), (6, .ref 723)]) (st' := [.int x1, .ref 0, .int (0), .ref 723]) (by decide +kernel) rfl) ?_
  refine ev_go0 (ev_one_pure (M := (ev_Mof 375)) (pc := 5) (i := .iload_n 2) (len := 1) (pc' := 6) (lv' := [(0, .ref 0), (1, .int x1), (2, .int x2), (3, .int x3), (4, .int x4), (5, .int x5), (6, .ref 723)]) (st' := [.int x2, .int x1, .ref 0, .int (0), .ref 723]) (by decide +kernel) rfl) ?_
  refine ev_go0 (ev_one_pure (M := (ev_Mof 375)) (pc := 6) (i := .iload_n 3) (len := 1) (pc' := 7) (lv' := [(0, .ref 0), (1, .int x1), (2, .int x2), (3, .int x3), (4, .int x4), (5, .int x5), (6, .ref 723)]) (st' := [.int x3, .int x2, .int x1, .ref 0, .int (0), .ref 723]) (by decide +kernel) rfl) ?_
  refine ev_go0 (ev_one_pure (M := (ev_Mof 375)) (pc := 7) (i := .iload 4) (len := 2) (pc' := 9) (lv' := [(0, .ref 0), (1, .int x1), (2, .int x2), (3, .int x3), (4, .int x4), (5, .int x5), (6, .ref 723)]) (st' := [.int x4, .int x3, .int x2, .int x1, .ref 0, .int (0), .ref 723]) (by decide +kernel) rfl) ?_
  refine ev_go0 (ev_one_pure (M := (ev_Mof 375)) (pc := 9) (i := .iload 5) (len := 2) (pc' := 11) (lv' := [(0, .ref 0), (1, .int x1), (2, .int x2), (3, .int x3), (4, .int x4), (5, .int x5), (6, .ref 723)]) (st' := [.int x5, .int x4, .int x3, .int x2, .int x1, .ref 0, .int (0), .ref 723]) (by decide +kernel) rfl) ?_
  refine ev_go (ev_p_virtX (M := (ev_Mof 375)) (pc := 11) (x := 53) (t := 19) (mi := 178) (na := 5) (by decide +kernel) (by decide +kernel) (by decide +kernel) (by decide +kernel) rfl rfl (ev_recv_of ev_fH0) (ev_k204 x1 x2 hu_x2 x3 hl_x3 x4 x5) (by decide +kernel)) ?_
  refine ev_go0 (ev_w_astore (M := (ev_Mof 375)) (pc := 19) (k := 7) (lv' := [(7, .retAddr 1), (0, .ref 0), (1, .int x1), (2, .int x2), (3, .int x3), (4, .int x4), (5, .int x5), (6, .ref 723)]) (by decide +kernel) (by decide +kernel) (Or.inr (Or.inr ⟨_, rfl⟩)) rfl) ?_
  refine ev_go0 (ev_w_iconst (M := (ev_Mof 375)) (pc := 21) (k := 1) (v := 1) (by decide +kernel) (by decide +kernel)) ?_
  rfl
theorem ev_k206 (x1 : Int32) (x2 : Int32) (hu_x2 : x2.toInt ≤ (-1 : Int)) (x3 : Int32) (hl_x3 : (3 : Int) ≤ x3.toInt) (x4 : Int32) (x5 : Int32) {n : Nat} : ev_calld 12 330 [.ref 621, .int x1, .int x2, .int x3, .int x4, .int x5] ev_H0 n = some (.inl (some (.int (0))), (ev_H0.set 621 (.inr (13, (ev_F621.set 0 (.int (1)))))), n, 0, 0) := by
  refine ev_call_int (k := 12) (pcR := 63) (lv' := [(0, .ref 621), (1, .int x1), (2, .int x2), (3, .int x3), (4, .int x4), (5, .int x5)]) (v := (0)) (ty := .int) (by decide +kernel) rfl ?_ (by decide +kernel) (by decide +kernel) (by decide +kernel) (by decide)
  show ev_stepn _ 12 (0, [(0, .ref 621), (1, .int x1), (2, .int x2), (3, .int x3), (4, .int x4), (5, .int x5)], [], _, _, 0, 0) = _
  refine ev_go0 (ev_one_pure (M := (ev_Mof 330)) (pc := 0) (i := .aload_n 0) (len := 1) (pc' := 1) (lv' := [(0, .ref 621), (1, .int x1), (2, .int x2), (3, .int x3), (4, .int x4), (5, .int x5)]) (st' := [.ref 621]) (by decide +kernel) rfl) ?_
  refine ev_go0 (ev_one_pure (M := (ev_Mof 330)) (pc := 1) (i := .aload_n 0) (len := 1) (pc' := 2) (lv' := [(0, .ref 621), (1, .int x1), (2, .int x2), (3, .int x3), (4, .int x4), (5, .int x5)]) (st' := [.ref 621, .ref 621]) (by decide +kernel) rfl) ?_
  refine ev_go0 (ev_one_pure (M := (ev_Mof 330)) (pc := 2) (i := .iload_n 2) (len := 1) (pc' := 3) (lv' := [(0, .ref 621), (1, .int x1), (2, .int x2), (3, .int x3), (4, .int x4), (5, .int x5)]) (st' := [.int x2, .ref 621, .ref 621]) (by decide +kernel) rfl) ?_
  refine ev_go0 (ev_p_virt (M := (ev_Mof 330)) (pc := 3) (x := 531) (mi := 273) (na := 1) (by decide +kernel) (by decide +kernel) (by decide +kernel) (by decide +kernel) rfl rfl (ev_recv_of ev_fH621) (ev_k188 x2 hu_x2)) ?_
  refine ev_go0 (ev_w_if (M := (ev_Mof 330)) (pc := 6) (q := .eq) (o := 28) (b := true) (t := 34) (by decide +kernel) (by decide +kernel) rfl) ?_
  refine ev_go0 (ev_w_iconst (M := (ev_Mof 330)) (pc := 34) (k := 1) (v := 1) (by decide +kernel) (by decide +kernel)) ?_
  refine ev_go0 (ev_one_pure (M := (ev_Mof 330)) (pc := 35) (i := .goto 17) (len := 3) (pc' := 52) (lv' := [(0, .ref 621), (1, .int x1), (2, .int x2), (3, .int x3), (4, .int x4), (5, .int x5)]) (st' := [.int (1), .ref 621]) (by decide +kernel) rfl) ?_
  refine ev_go0 (ev_p_putf (M := (ev_Mof 330)) (pc := 52) (x := 321) (ci := 13) (f := 0) (by decide +kernel) (by decide +kernel) ev_fH621 rfl (by decide +kernel)) ?_
  refine ev_go0 (ev_one_pure (M := (ev_Mof 330)) (pc := 55) (i := .aload_n 0) (len := 1) (pc' := 56) (lv' := [(0, .ref 621), (1, .int x1), (2, .int x2), (3, .int x3), (4, .int x4), (5, .int x5)]) (st' := [.ref 621]) (by decide +kernel) rfl) ?_
  refine ev_go0 (ev_p_getf (M := (ev_Mof 330)) (pc := 56) (x := 321) (ci := 13) (f := 0) (fin := 0) (v := .int (1)) (by decide +kernel) (by decide +kernel) (ev_hself ev_fH621) rfl) ?_
  refine ev_go0 (ev_w_if (M := (ev_Mof 330)) (pc := 59) (q := .le) (o := 5) (b := false) (t := 62) (by decide +kernel) (by decide +kernel) rfl) ?_
  refine ev_go0 (ev_w_iconst (M := (ev_Mof 330)) (pc := 62) (k := 0) (v := 0) (by decide +kernel) (by decide +kernel)) ?_
  rfl
theorem ev_p1_12_ng (xs : Nat → Int32) (x1 : Int32) (x2 : Int32) (hu_x2 : x2.toInt ≤ (-1 : Int)) (x3 : Int32) (hl_x3 : (3 : Int) ≤ x3.toInt) (x4 : Int32) (x5 : Int32) (e1 : xs 1 = x1) (e2 : xs 2 = x2) (e3 : xs 3 = x3) (e4 : xs 4 = x4) (e5 : xs 5 = x5) : ev_P1 xs 896 := by
  refine ⟨64, [(6, .int (0)), (5, .int (1)), (4, .int (0)), (3, .ref 723), (2, .ref 621), (1, .ref 0), (0, .retAddr 0)], (ev_H0.set 621 (.inr (13, (ev_F621.set 0 (.int (1)))))), 724, 725, 3553592, ?_, ⟨rfl, rfl, rfl, rfl⟩, rfl, by decide, by decide⟩
  show ev_stepn _ _ (896, [(4, .int (0)), (3, .ref 723), (2, .ref 621), (1, .ref 0), (0, .retAddr 0)], [], _, _, _, _) = _
  refine ev_go0 (ev_one_pure (M := ev_Mlaw) (pc := 896) (i := .aload_n 1) (len := 1) (pc' := 897) (lv' := [(4, .int (0)), (3, .ref 723), (2, .ref 621), (1, .ref 0), (0, .retAddr 0)]) (st' := [.ref 0]) (by decide +kernel) rfl) ?_
  refine ev_go0 (ev_one_pure (M := ev_Mlaw) (pc := 897) (i := .aload_n 0) (len := 1) (pc' := 898) (lv' := [(4, .int (0)), (3, .ref 723), (2, .ref 621), (1, .ref 0), (0, .retAddr 0)]) (st' := [.retAddr 0, .ref 0]) (by decide +kernel) rfl) ?_
  refine ev_go0 (ev_one_pure (M := ev_Mlaw) (pc := 898) (i := .iload 4) (len := 2) (pc' := 900) (lv' := [(4, .int (0)), (3, .ref 723), (2, .ref 621), (1, .ref 0), (0, .retAddr 0)]) (st' := [.int (0), .retAddr 0, .ref 0]) (by decide +kernel) rfl) ?_
  refine ev_go0 (ev_w_iconst (M := ev_Mlaw) (pc := 900) (k := 1) (v := 1) (by decide +kernel) (by decide +kernel)) ?_
  refine ev_go0 (ev_w_iadd (M := ev_Mlaw) (pc := 901) (v := (1)) (by decide +kernel) (by decide +kernel)) ?_
  refine ev_go0 (ev_w_scr (M := ev_Mlaw) (pc := 902) (v := x1) (j := 1) (by decide +kernel) (by decide +kernel) (by decide +kernel) e1) ?_
  refine ev_go0 (ev_one_pure (M := ev_Mlaw) (pc := 903) (i := .aload_n 0) (len := 1) (pc' := 904) (lv' := [(4, .int (0)), (3, .ref 723), (2, .ref 621), (1, .ref 0), (0, .retAddr 0)]) (st' := [.retAddr 0, .int x1, .ref 0]) (by decide +kernel) rfl) ?_
  refine ev_go0 (ev_one_pure (M := ev_Mlaw) (pc := 904) (i := .iload 4) (len := 2) (pc' := 906) (lv' := [(4, .int (0)), (3, .ref 723), (2, .ref 621), (1, .ref 0), (0, .retAddr 0)]) (st' := [.int (0), .retAddr 0, .int x1, .ref 0]) (by decide +kernel) rfl) ?_
  refine ev_go0 (ev_w_iconst (M := ev_Mlaw) (pc := 906) (k := 2) (v := 2) (by decide +kernel) (by decide +kernel)) ?_
  refine ev_go0 (ev_w_iadd (M := ev_Mlaw) (pc := 907) (v := (2)) (by decide +kernel) (by decide +kernel)) ?_
  refine ev_go0 (ev_w_scr (M := ev_Mlaw) (pc := 908) (v := x2) (j := 2) (by decide +kernel) (by decide +kernel) (by decide +kernel) e2) ?_
  refine ev_go0 (ev_one_pure (M := ev_Mlaw) (pc := 909) (i := .aload_n 0) (len := 1) (pc' := 910) (lv' := [(4, .int (0)), (3, .ref 723), (2, .ref 621), (1, .ref 0), (0, .retAddr 0)]) (st' := [.retAddr 0, .int x2, .int x1, .ref 0]) (by decide +kernel) rfl) ?_
  refine ev_go0 (ev_one_pure (M := ev_Mlaw) (pc := 910) (i := .iload 4) (len := 2) (pc' := 912) (lv' := [(4, .int (0)), (3, .ref 723), (2, .ref 621), (1, .ref 0), (0, .retAddr 0)]) (st' := [.int (0), .retAddr 0, .int x2, .int x1, .ref 0]) (by decide +kernel) rfl) ?_
  refine ev_go0 (ev_w_iconst (M := ev_Mlaw) (pc := 912) (k := 3) (v := 3) (by decide +kernel) (by decide +kernel)) ?_
  refine ev_go0 (ev_w_iadd (M := ev_Mlaw) (pc := 913) (v := (3)) (by decide +kernel) (by decide +kernel)) ?_
  refine ev_go0 (ev_w_scr (M := ev_Mlaw) (pc := 914) (v := x3) (j := 3) (by decide +kernel) (by decide +kernel) (by decide +kernel) e3) ?_
  refine ev_go0 (ev_one_pure (M := ev_Mlaw) (pc := 915) (i := .aload_n 0) (len := 1) (pc' := 916) (lv' := [(4, .int (0)), (3, .ref 723), (2, .ref 621), (1, .ref 0), (0, .retAddr 0)]) (st' := [.retAddr 0, .int x3, .int x2, .int x1, .ref 0]) (by decide +kernel) rfl) ?_
  refine ev_go0 (ev_one_pure (M := ev_Mlaw) (pc := 916) (i := .iload 4) (len := 2) (pc' := 918) (lv' := [(4, .int (0)), (3, .ref 723), (2, .ref 621), (1, .ref 0), (0, .retAddr 0)]) (st' := [.int (0), .retAddr 0, .int x3, .int x2, .int x1, .ref 0]) (by decide +kernel) rfl) ?_
  refine ev_go0 (ev_w_iconst (M := ev_Mlaw) (pc := 918) (k := 4) (v := 4) (by decide +kernel) (by decide +kernel)) ?_
  refine ev_go0 (ev_w_iadd (M := ev_Mlaw) (pc := 919) (v := (4)) (by decide +kernel) (by decide +kernel)) ?_
  refine ev_go0 (ev_w_scr (M := ev_Mlaw) (pc := 920) (v := x4) (j := 4) (by decide +kernel) (by decide +kernel) (by decide +kernel) e4) ?_
  refine ev_go0 (ev_one_pure (M := ev_Mlaw) (pc := 921) (i := .aload_n 0) (len := 1) (pc' := 922) (lv' := [(4, .int (0)), (3, .ref 723), (2, .ref 621), (1, .ref 0), (0, .retAddr 0)]) (st' := [.retAddr 0, .int x4, .int x3, .int x2, .int x1, .ref 0]) (by decide +kernel) rfl) ?_
  refine ev_go0 (ev_one_pure (M := ev_Mlaw) (pc := 922) (i := .iload 4) (len := 2) (pc' := 924) (lv' := [(4, .int (0)), (3, .ref 723), (2, .ref 621), (1, .ref 0), (0, .retAddr 0)]) (st' := [.int (0), .retAddr 0, .int x4, .int x3, .int x2, .int x1, .ref 0]) (by decide +kernel) rfl) ?_
  refine ev_go0 (ev_w_iconst (M := ev_Mlaw) (pc := 924) (k := 5) (v := 5) (by decide +kernel) (by decide +kernel)) ?_
  refine ev_go0 (ev_w_iadd (M := ev_Mlaw) (pc := 925) (v := (5)) (by decide +kernel) (by decide +kernel)) ?_
  refine ev_go0 (ev_w_scr (M := ev_Mlaw) (pc := 926) (v := x5) (j := 5) (by decide +kernel) (by decide +kernel) (by decide +kernel) e5) ?_
  refine ev_go0 (ev_one_pure (M := ev_Mlaw) (pc := 927) (i := .aload_n 3) (len := 1) (pc' := 928) (lv' := [(4, .int (0)), (3, .ref 723), (2, .ref 621), (1, .ref 0), (0, .retAddr 0)]) (st' := [.ref 723, .int x5, .int x4, .int x3, .int x2, .int x1, .ref 0]) (by decide +kernel) rfl) ?_
  refine ev_go (ev_w_stat (M := ev_Mlaw) (pc := 928) (y := 171) (kind := 8) (Or.inr (Or.inr rfl)) (mi := 375) (na := 7) (by decide +kernel) (by decide +kernel) (by decide +kernel) (by decide +kernel) rfl rfl (ev_k205 x1 x2 hu_x2 x3 hl_x3 x4 x5)) ?_
  refine ev_go0 (ev_w_istore (M := ev_Mlaw) (pc := 931) (k := 5) (lv' := [(5, .int (1)), (4, .int (0)), (3, .ref 723), (2, .ref 621), (1, .ref 0), (0, .retAddr 0)]) (by decide +kernel) (by decide +kernel) rfl) ?_
  refine ev_go0 (ev_one_pure (M := ev_Mlaw) (pc := 933) (i := .aload_n 2) (len := 1) (pc' := 934) (lv' := [(5, .int (1)), (4, .int (0)), (3, .ref 723), (2, .ref 621), (1, .ref 0), (0, .retAddr 0)]) (st' := [.ref 621]) (by decide +kernel) rfl) ?_
  refine ev_go0 (ev_one_pure (M := ev_Mlaw) (pc := 934) (i := .aload_n 0) (len := 1) (pc' := 935) (lv' := [(5, .int (1)), (4, .int (0)), (3, .ref 723), (2, .ref 621), (1, .ref 0), (0, .retAddr 0)]) (st' := [.retAddr 0, .ref 621]) (by decide +kernel) rfl) ?_
  refine ev_go0 (ev_one_pure (M := ev_Mlaw) (pc := 935) (i := .iload 4) (len := 2) (pc' := 937) (lv' := [(5, .int (1)), (4, .int (0)), (3, .ref 723), (2, .ref 621), (1, .ref 0), (0, .retAddr 0)]) (st' := [.int (0), .retAddr 0, .ref 621]) (by decide +kernel) rfl) ?_
  refine ev_go0 (ev_w_iconst (M := ev_Mlaw) (pc := 937) (k := 1) (v := 1) (by decide +kernel) (by decide +kernel)) ?_
  refine ev_go0 (ev_w_iadd (M := ev_Mlaw) (pc := 938) (v := (1)) (by decide +kernel) (by decide +kernel)) ?_
  refine ev_go0 (ev_w_scr (M := ev_Mlaw) (pc := 939) (v := x1) (j := 1) (by decide +kernel) (by decide +kernel) (by decide +kernel) e1) ?_
  refine ev_go0 (ev_one_pure (M := ev_Mlaw) (pc := 940) (i := .aload_n 0) (len := 1) (pc' := 941) (lv' := [(5, .int (1)), (4, .int (0)), (3, .ref 723), (2, .ref 621), (1, .ref 0), (0, .retAddr 0)]) (st' := [.retAddr 0, .int x1, .ref 621]) (by decide +kernel) rfl) ?_
  refine ev_go0 (ev_one_pure (M := ev_Mlaw) (pc := 941) (i := .iload 4) (len := 2) (pc' := 943) (lv' := [(5, .int (1)), (4, .int (0)), (3, .ref 723), (2, .ref 621), (1, .ref 0), (0, .retAddr 0)]) (st' := [.int (0), .retAddr 0, .int x1, .ref 621]) (by decide +kernel) rfl) ?_
  refine ev_go0 (ev_w_iconst (M := ev_Mlaw) (pc := 943) (k := 2) (v := 2) (by decide +kernel) (by decide +kernel)) ?_
  refine ev_go0 (ev_w_iadd (M := ev_Mlaw) (pc := 944) (v := (2)) (by decide +kernel) (by decide +kernel)) ?_
  refine ev_go0 (ev_w_scr (M := ev_Mlaw) (pc := 945) (v := x2) (j := 2) (by decide +kernel) (by decide +kernel) (by decide +kernel) e2) ?_
  refine ev_go0 (ev_one_pure (M := ev_Mlaw) (pc := 946) (i := .aload_n 0) (len := 1) (pc' := 947) (lv' := [(5, .int (1)), (4, .int (0)), (3, .ref 723), (2, .ref 621), (1, .ref 0), (0, .retAddr 0)]) (st' := [.retAddr 0, .int x2, .int x1, .ref 621]) (by decide +kernel) rfl) ?_
  refine ev_go0 (ev_one_pure (M := ev_Mlaw) (pc := 947) (i := .iload 4) (len := 2) (pc' := 949) (lv' := [(5, .int (1)), (4, .int (0)), (3, .ref 723), (2, .ref 621), (1, .ref 0), (0, .retAddr 0)]) (st' := [.int (0), .retAddr 0, .int x2, .int x1, .ref 621]) (by decide +kernel) rfl) ?_
  refine ev_go0 (ev_w_iconst (M := ev_Mlaw) (pc := 949) (k := 3) (v := 3) (by decide +kernel) (by decide +kernel)) ?_
  refine ev_go0 (ev_w_iadd (M := ev_Mlaw) (pc := 950) (v := (3)) (by decide +kernel) (by decide +kernel)) ?_
  refine ev_go0 (ev_w_scr (M := ev_Mlaw) (pc := 951) (v := x3) (j := 3) (by decide +kernel) (by decide +kernel) (by decide +kernel) e3) ?_
  refine ev_go0 (ev_one_pure (M := ev_Mlaw) (pc := 952) (i := .aload_n 0) (len := 1) (pc' := 953) (lv' := [(5, .int (1)), (4, .int (0)), (3, .ref 723), (2, .ref 621), (1, .ref 0), (0, .retAddr 0)]) (st' := [.retAddr 0, .int x3, .int x2, .int x1, .ref 621]) (by decide +kernel) rfl) ?_
  refine ev_go0 (ev_one_pure (M := ev_Mlaw) (pc := 953) (i := .iload 4) (len := 2) (pc' := 955) (lv' := [(5, .int (1)), (4, .int (0)), (3, .ref 723), (2, .ref 621), (1, .ref 0), (0, .retAddr 0)]) (st' := [.int (0), .retAddr 0, .int x3, .int x2, .int x1, .ref 621]) (by decide +kernel) rfl) ?_
  refine ev_go0 (ev_w_iconst (M := ev_Mlaw) (pc := 955) (k := 4) (v := 4) (by decide +kernel) (by decide +kernel)) ?_
  refine ev_go0 (ev_w_iadd (M := ev_Mlaw) (pc := 956) (v := (4)) (by decide +kernel) (by decide +kernel)) ?_
  refine ev_go0 (ev_w_scr (M := ev_Mlaw) (pc := 957) (v := x4) (j := 4) (by decide +kernel) (by decide +kernel) (by decide +kernel) e4) ?_
  refine ev_go0 (ev_one_pure (M := ev_Mlaw) (pc := 958) (i := .aload_n 0) (len := 1) (pc' := 959) (lv' := [(5, .int (1)), (4, .int (0)), (3, .ref 723), (2, .ref 621), (1, .ref 0), (0, .retAddr 0)]) (st' := [.retAddr 0, .int x4, .int x3, .int x2, .int x1, .ref 621]) (by decide +kernel) rfl) ?_
  refine ev_go0 (ev_one_pure (M := ev_Mlaw) (pc := 959) (i := .iload 4) (len := 2) (pc' := 961) (lv' := [(5, .int (1)), (4, .int (0)), (3, .ref 723), (2, .ref 621), (1, .ref 0), (0, .retAddr 0)]) (st' := [.int (0), .retAddr 0, .int x4, .int x3, .int x2, .int x1, .ref 621]) (by decide +kernel) rfl) ?_
  refine ev_go0 (ev_w_iconst (M := ev_Mlaw) (pc := 961) (k := 5) (v := 5) (by decide +kernel) (by decide +kernel)) ?_
  refine ev_go0 (ev_w_iadd (M := ev_Mlaw) (pc := 962) (v := (5)) (by decide +kernel) (by decide +kernel)) ?_
  refine ev_go0 (ev_w_scr (M := ev_Mlaw) (pc := 963) (v := x5) (j := 5) (by decide +kernel) (by decide +kernel) (by decide +kernel) e5) ?_
  refine ev_go0 (ev_p_virt (M := ev_Mlaw) (pc := 964) (x := 174) (mi := 330) (na := 5) (by decide +kernel) (by decide +kernel) (by decide +kernel) (by decide +kernel) rfl rfl (ev_recv_of ev_fH621) (ev_k206 x1 x2 hu_x2 x3 hl_x3 x4 x5)) ?_
  refine ev_go0 (ev_w_istore (M := ev_Mlaw) (pc := 967) (k := 6) (lv' := [(6, .int (0)), (5, .int (1)), (4, .int (0)), (3, .ref 723), (2, .ref 621), (1, .ref 0), (0, .retAddr 0)]) (by decide +kernel) (by decide +kernel) rfl) ?_
  refine ev_go0 (ev_one_pure (M := ev_Mlaw) (pc := 969) (i := .aload_n 2) (len := 1) (pc' := 970) (lv' := [(6, .int (0)), (5, .int (1)), (4, .int (0)), (3, .ref 723), (2, .ref 621), (1, .ref 0), (0, .retAddr 0)]) (st' := [.ref 621]) (by decide +kernel) rfl) ?_
  refine ev_go0 (ev_p_virt (M := ev_Mlaw) (pc := 970) (x := 131) (mi := 220) (na := 0) (by decide +kernel) (by decide +kernel) (by decide +kernel) (by decide +kernel) rfl rfl (ev_recv_of (ev_hself ev_fH621)) ev_k26) ?_
  refine ev_go0 (ev_one_pure (M := ev_Mlaw) (pc := 973) (i := .iload 5) (len := 2) (pc' := 975) (lv' := [(6, .int (0)), (5, .int (1)), (4, .int (0)), (3, .ref 723), (2, .ref 621), (1, .ref 0), (0, .retAddr 0)]) (st' := [.int (1), .int (1)]) (by decide +kernel) rfl) ?_
  refine ev_go0 (ev_w_icmp (M := ev_Mlaw) (pc := 975) (q := .eq) (o := 5) (b := true) (t := 980) (by decide +kernel) (by decide +kernel) rfl) ?_
  refine ev_go0 (ev_one_pure (M := ev_Mlaw) (pc := 980) (i := .iload 5) (len := 2) (pc' := 982) (lv' := [(6, .int (0)), (5, .int (1)), (4, .int (0)), (3, .ref 723), (2, .ref 621), (1, .ref 0), (0, .retAddr 0)]) (st' := [.int (1)]) (by decide +kernel) rfl) ?_
  refine ev_go0 (ev_w_if (M := ev_Mlaw) (pc := 982) (q := .ne) (o := 15) (b := true) (t := 997) (by decide +kernel) (by decide +kernel) rfl) ?_
  refine ev_go0 (ev_one_pure (M := ev_Mlaw) (pc := 997) (i := .goto 1275) (len := 3) (pc' := 2272) (lv' := [(6, .int (0)), (5, .int (1)), (4, .int (0)), (3, .ref 723), (2, .ref 621), (1, .ref 0), (0, .retAddr 0)]) (st' := []) (by decide +kernel) rfl) ?_
  rfl
theorem ev_k207 (x2 : Int32) (hl_x2 : (0 : Int) ≤ x2.toInt) {n : Nat} : ev_calld 9 200 [.ref 0, .int x2] ev_H0 n = some (.inl (some (.null)), ev_H0, n, 0, 0) := by
  refine ev_call_ref (k := 7) (pcR := 28) (lv' := [(0, .ref 0), (1, .int x2)]) (v := .null) (C := "MendBench$Pattern") (by decide +kernel) rfl ?_ (by decide +kernel) (by decide +kernel) rfl (by decide)
  show ev_stepn _ 7 (0, [(0, .ref 0), (1, .int x2)], [], _, _, 0, 0) = _
  refine ev_go0 (ev_one_pure (M := (ev_Mof 200)) (pc := 0) (i := .iload_n 1) (len := 1) (pc' := 1) (lv' := [(0, .ref 0), (1, .int x2)]) (st' := [.int x2]) (by decide +kernel) rfl) ?_
  refine ev_go0 (ev_w_if (M := (ev_Mof 200)) (pc := 1) (q := .lt) (o := 26) (b := false) (t := 4) (by decide +kernel) (ev_c_lt0 hl_x2 (by decide +kernel)) rfl) ?_
  refine ev_go0 (ev_one_pure (M := (ev_Mof 200)) (pc := 4) (i := .iload_n 1) (len := 1) (pc' := 5) (lv' := [(0, .ref 0), (1, .int x2)]) (st' := [.int x2]) (by decide +kernel) rfl) ?_
  refine ev_go0 (ev_one_pure (M := (ev_Mof 200)) (pc := 5) (i := .aload_n 0) (len := 1) (pc' := 6) (lv' := [(0, .ref 0), (1, .int x2)]) (st' := [.ref 0, .int x2]) (by decide +kernel) rfl) ?_
  refine ev_go0 (ev_p_getf (M := (ev_Mof 200)) (pc := 6) (x := 134) (ci := 12) (f := 5) (fin := 0) (v := .int (0)) (by decide +kernel) (by decide +kernel) ev_fH0 rfl) ?_
  refine ev_go0 (ev_w_icmp (M := (ev_Mof 200)) (pc := 9) (q := .ge) (o := 18) (b := true) (t := 27) (by decide +kernel) (ev_c_ge1 hl_x2 (by decide +kernel)) rfl) ?_
  refine ev_go0 (ev_one_pure (M := (ev_Mof 200)) (pc := 27) (i := .aconst_null) (len := 1) (pc' := 28) (lv' := [(0, .ref 0), (1, .int x2)]) (st' := [.null]) (by decide +kernel) rfl) ?_
  rfl
theorem ev_k208 (x2 : Int32) (hl_x2 : (0 : Int) ≤ x2.toInt) (x3 : Int32) (hu_x3 : x3.toInt ≤ (-1 : Int)) (x4 : Int32) (x5 : Int32) {n : Nat} : ev_calld 10 203 [.ref 0, .int x2, .int x3, .int x4, .int x5] ev_H0 n = some (.inl (some (.int (0))), ev_H0, n, 0, 0) := by
  refine ev_call_int (k := 12) (pcR := 60) (lv' := [(6, .null), (5, .null), (0, .ref 0), (1, .int x2), (2, .int x3), (3, .int x4), (4, .int x5)]) (v := (0)) (ty := .boolean) (by decide +kernel) rfl ?_ (by decide +kernel) (by decide +kernel) (by decide +kernel) (by decide)
  show ev_stepn _ 12 (0, [(0, .ref 0), (1, .int x2), (2, .int x3), (3, .int x4), (4, .int x5)], [], _, _, 0, 0) = _
  refine ev_go0 (ev_one_pure (M := (ev_Mof 203)) (pc := 0) (i := .aload_n 0) (len := 1) (pc' := 1) (lv' := [(0, .ref 0), (1, .int x2), (2, .int x3), (3, .int x4), (4, .int x5)]) (st' := [.ref 0]) (by decide +kernel) rfl) ?_
  refine ev_go0 (ev_one_pure (M := (ev_Mof 203)) (pc := 1) (i := .iload_n 1) (len := 1) (pc' := 2) (lv' := [(0, .ref 0), (1, .int x2), (2, .int x3), (3, .int x4), (4, .int x5)]) (st' := [.int x2, .ref 0]) (by decide +kernel) rfl) ?_
  refine ev_go0 (ev_p_virt (M := (ev_Mof 203)) (pc := 2) (x := 156) (mi := 200) (na := 1) (by decide +kernel) (by decide +kernel) (by decide +kernel) (by decide +kernel) rfl rfl (ev_recv_of ev_fH0) (ev_k207 x2 hl_x2)) ?_
  refine ev_go0 (ev_w_astore (M := (ev_Mof 203)) (pc := 5) (k := 5) (lv' := [(5, .null), (0, .ref 0), (1, .int x2), (2, .int x3), (3, .int x4), (4, .int x5)]) (by decide +kernel) (by decide +kernel) (Or.inr (Or.inl rfl)) rfl) ?_
  refine ev_go0 (ev_one_pure (M := (ev_Mof 203)) (pc := 7) (i := .aload_n 0) (len := 1) (pc' := 8) (lv' := [(5, .null), (0, .ref 0), (1, .int x2), (2, .int x3), (3, .int x4), (4, .int x5)]) (st' := [.ref 0]) (by decide +kernel) rfl) ?_
  refine ev_go0 (ev_p_getf (M := (ev_Mof 203)) (pc := 8) (x := 48) (ci := 12) (f := 8) (fin := 1) (v := .ref 254) (by decide +kernel) (by decide +kernel) ev_fH0 rfl) ?_
  refine ev_go0 (ev_one_pure (M := (ev_Mof 203)) (pc := 11) (i := .iload_n 2) (len := 1) (pc' := 12) (lv' := [(5, .null), (0, .ref 0), (1, .int x2), (2, .int x3), (3, .int x4), (4, .int x5)]) (st' := [.int x3, .ref 254]) (by decide +kernel) rfl) ?_
  refine ev_go0 (ev_p_virt (M := (ev_Mof 203)) (pc := 12) (x := 221) (mi := 1) (na := 1) (by decide +kernel) (by decide +kernel) (by decide +kernel) (by decide +kernel) rfl rfl (ev_recv_of ev_fH254) (ev_k183 x3 hu_x3)) ?_
  refine ev_go0 (ev_w_astore (M := (ev_Mof 203)) (pc := 15) (k := 6) (lv' := [(6, .null), (5, .null), (0, .ref 0), (1, .int x2), (2, .int x3), (3, .int x4), (4, .int x5)]) (by decide +kernel) (by decide +kernel) (Or.inr (Or.inl rfl)) rfl) ?_
  refine ev_go0 (ev_one_pure (M := (ev_Mof 203)) (pc := 17) (i := .aload 5) (len := 2) (pc' := 19) (lv' := [(6, .null), (5, .null), (0, .ref 0), (1, .int x2), (2, .int x3), (3, .int x4), (4, .int x5)]) (st' := [.null]) (by decide +kernel) rfl) ?_
  refine ev_go0 (ev_w_ifnull (M := (ev_Mof 203)) (pc := 19) (o := 40) (t := 59) (by decide +kernel) (Or.inl ⟨rfl, rfl⟩)) ?_
  refine ev_go0 (ev_w_iconst (M := (ev_Mof 203)) (pc := 59) (k := 0) (v := 0) (by decide +kernel) (by decide +kernel)) ?_
  rfl
theorem ev_k209 (x1 : Int32) (x2 : Int32) (hl_x2 : (0 : Int) ≤ x2.toInt) (x3 : Int32) (hu_x3 : x3.toInt ≤ (-1 : Int)) (x4 : Int32) (x5 : Int32) {n : Nat} : ev_calld 11 178 [.ref 0, .int x1, .int x2, .int x3, .int x4, .int x5] ev_H0 n = some (.inr "java/lang/IndexOutOfBoundsException", ev_H0, n, 1, 6) := by
  refine ev_call_thrown (k := 7) (pcR := 13) (x := 160) (lv' := [(0, .ref 0), (1, .int x1), (2, .int x2), (3, .int x3), (4, .int x4), (5, .int x5)]) (by decide +kernel) rfl ?_ (by decide +kernel) (by decide +kernel) (by decide +kernel) (by decide) (by decide)
  show ev_stepn _ 7 (0, [(0, .ref 0), (1, .int x1), (2, .int x2), (3, .int x3), (4, .int x4), (5, .int x5)], [], _, _, 0, 0) = _
  refine ev_go0 (ev_one_pure (M := (ev_Mof 178)) (pc := 0) (i := .aload_n 0) (len := 1) (pc' := 1) (lv' := [(0, .ref 0), (1, .int x1), (2, .int x2), (3, .int x3), (4, .int x4), (5, .int x5)]) (st' := [.ref 0]) (by decide +kernel) rfl) ?_
  refine ev_go0 (ev_one_pure (M := (ev_Mof 178)) (pc := 1) (i := .iload_n 2) (len := 1) (pc' := 2) (lv' := [(0, .ref 0), (1, .int x1), (2, .int x2), (3, .int x3), (4, .int x4), (5, .int x5)]) (st' := [.int x2, .ref 0]) (by decide +kernel) rfl) ?_
  refine ev_go0 (ev_one_pure (M := (ev_Mof 178)) (pc := 2) (i := .iload_n 3) (len := 1) (pc' := 3) (lv' := [(0, .ref 0), (1, .int x1), (2, .int x2), (3, .int x3), (4, .int x4), (5, .int x5)]) (st' := [.int x3, .int x2, .ref 0]) (by decide +kernel) rfl) ?_
  refine ev_go0 (ev_one_pure (M := (ev_Mof 178)) (pc := 3) (i := .iload 4) (len := 2) (pc' := 5) (lv' := [(0, .ref 0), (1, .int x1), (2, .int x2), (3, .int x3), (4, .int x4), (5, .int x5)]) (st' := [.int x4, .int x3, .int x2, .ref 0]) (by decide +kernel) rfl) ?_
  refine ev_go0 (ev_one_pure (M := (ev_Mof 178)) (pc := 5) (i := .iload 5) (len := 2) (pc' := 7) (lv' := [(0, .ref 0), (1, .int x1), (2, .int x2), (3, .int x3), (4, .int x4), (5, .int x5)]) (st' := [.int x5, .int x4, .int x3, .int x2, .ref 0]) (by decide +kernel) rfl) ?_
  refine ev_go0 (ev_p_virt (M := (ev_Mof 178)) (pc := 7) (x := 205) (mi := 203) (na := 4) (by decide +kernel) (by decide +kernel) (by decide +kernel) (by decide +kernel) rfl rfl (ev_recv_of ev_fH0) (ev_k208 x2 hl_x2 x3 hu_x3 x4 x5)) ?_
  refine ev_go0 (ev_w_if (M := (ev_Mof 178)) (pc := 10) (q := .ne) (o := 13) (b := false) (t := 13) (by decide +kernel) (by decide +kernel) rfl) ?_
  rfl
theorem ev_k210 (x1 : Int32) (x2 : Int32) (hl_x2 : (0 : Int) ≤ x2.toInt) (x3 : Int32) (hu_x3 : x3.toInt ≤ (-1 : Int)) (x4 : Int32) (x5 : Int32) {n : Nat} : ev_calld 12 375 [.ref 0, .int x1, .int x2, .int x3, .int x4, .int x5, .ref 723] ev_H0 n = some (.inl (some (.int (1))), ev_H0, n, 1, 6) := by
  refine ev_call_int (k := 11) (pcR := 22) (lv' := [(7, .retAddr 1), (0, .ref 0), (1, .int x1), (2, .int x2), (3, .int x3), (4, .int x4), (5, .int x5), (6, .ref 723)]) (v := (1)) (ty := .int) (by decide +kernel) rfl ?_ (by decide +kernel) (by decide +kernel) (by decide +kernel) (by decide)
  show ev_stepn _ 11 (0, [(0, .ref 0), (1, .int x1), (2, .int x2), (3, .int x3), (4, .int x4), (5, .int x5), (6, .ref 723)], [], _, _, 0, 0) = _
  refine ev_go0 (ev_one_pure (M := (ev_Mof 375)) (pc := 0) (i := .aload 6) (len := 2) (pc' := 2) (lv' := [(0, .ref 0), (1, .int x1), (2, .int x2), (3, .int x3), (4, .int x4), (5, .int x5), (6, .ref 723)]) (st' := [.ref 723]) (by decide +kernel) rfl) ?_
  refine ev_go0 (ev_w_iconst (M := (ev_Mof 375)) (pc := 2) (k := 0) (v := 0) (by decide +kernel) (by decide +kernel)) ?_
  refine ev_go0 (ev_one_pure (M := (ev_Mof 375)) (pc := 3) (i := .aload_n 0) (len := 1) (pc' := 4) (lv' := [(0, .ref 0), (1, .int x1), (2, .int x2), (3, .int x3), (4, .int x4), (5, .int x5), (6, .ref 723)]) (st' := [.ref 0, .int (0), .ref 723]) (by decide +kernel) rfl) ?_
  refine ev_go0 (ev_one_pure (M := (ev_Mof 375)) (pc := 4) (i := .iload_n 1) (len := 1) (pc' := 5) (lv' := [(0, .ref 0), (1, .int x1), (2, .int x2), (3, .int x3), (4, .int x4), (5, .int x5), (6, .ref 723)]) (st' := [.int x1, .ref 0, .int (0), .ref 723]) (by decide +kernel) rfl) ?_
  refine ev_go0 (ev_one_pure (M := (ev_Mof 375)) (pc := 5) (i := .iload_n 2) (len := 1) (pc' := 6) (lv' := [(0, .ref 0), (1, .int x1), (2, .int x2), (3, .int x3), (4, .int x4), (5, .int x5), (6, .ref 723)]) (st' := [.int x2, .int x1, .ref 0, .int (0), .ref 723]) (by decide +kernel) rfl) ?_
  refine ev_go0 (ev_one_pure (M := (ev_Mof 375)) (pc := 6) (i := .iload_n 3) (len := 1) (pc' := 7) (lv' := [(0, .ref 0), (1, .int x1), (2, .int x2), (3, .int x3), (4, .int x4), (5, .int x5), (6, .ref 723)]) (st' := [.int x3, .int x2, .int x1, .ref 0, .int (0), .ref 723]) (by decide +kernel) rfl) ?_
  refine ev_go0 (ev_one_pure (M := (ev_Mof 375)) (pc := 7) (i := .iload 4) (len := 2) (pc' := 9) (lv' := [(0, .ref 0), (1, .int x1), (2, .int x2), (3, .int x3), (4, .int x4), (5, .int x5), (6, .ref 723)]) (st' := [.int x4, .int x3, .int x2, .int x1, .ref 0, .int (0), .ref 723]) (by decide +kernel) rfl) ?_
  refine ev_go0 (ev_one_pure (M := (ev_Mof 375)) (pc := 9) (i := .iload 5) (len := 2) (pc' := 11) (lv' := [(0, .ref 0), (1, .int x1), (2, .int x2), (3, .int x3), (4, .int x4), (5, .int x5), (6, .ref 723)]) (st' := [.int x5, .int x4, .int x3, .int x2, .int x1, .ref 0, .int (0), .ref 723]) (by decide +kernel) rfl) ?_
  refine ev_go (ev_p_virtX (M := (ev_Mof 375)) (pc := 11) (x := 53) (t := 19) (mi := 178) (na := 5) (by decide +kernel) (by decide +kernel) (by decide +kernel) (by decide +kernel) rfl rfl (ev_recv_of ev_fH0) (ev_k209 x1 x2 hl_x2 x3 hu_x3 x4 x5) (by decide +kernel)) ?_
  refine ev_go0 (ev_w_astore (M := (ev_Mof 375)) (pc := 19) (k := 7) (lv' := [(7, .retAddr 1), (0, .ref 0), (1, .int x1), (2, .int x2), (3, .int x3), (4, .int x4), (5, .int x5), (6, .ref 723)]) (by decide +kernel) (by decide +kernel) (Or.inr (Or.inr ⟨_, rfl⟩)) rfl) ?_
  refine ev_go0 (ev_w_iconst (M := (ev_Mof 375)) (pc := 21) (k := 1) (v := 1) (by decide +kernel) (by decide +kernel)) ?_
  rfl
theorem ev_k211 (x2 : Int32) (hl_x2 : (0 : Int) ≤ x2.toInt) {n : Nat} : ev_calld 10 222 [.int x2, .int (0), .int (-1)] ev_H0 n = some (.inl (some (.int (0))), ev_H0, n, 0, 0) := by
  refine ev_call_int (k := 7) (pcR := 15) (lv' := [(0, .int x2), (1, .int (0)), (2, .int (-1))]) (v := (0)) (ty := .boolean) (by decide +kernel) rfl ?_ (by decide +kernel) (by decide +kernel) (by decide +kernel) (by decide)
  show ev_stepn _ 7 (0, [(0, .int x2), (1, .int (0)), (2, .int (-1))], [], _, _, 0, 0) = _
  refine ev_go0 (ev_one_pure (M := (ev_Mof 222)) (pc := 0) (i := .iload_n 0) (len := 1) (pc' := 1) (lv' := [(0, .int x2), (1, .int (0)), (2, .int (-1))]) (st' := [.int x2]) (by decide +kernel) rfl) ?_
  refine ev_go0 (ev_one_pure (M := (ev_Mof 222)) (pc := 1) (i := .iload_n 1) (len := 1) (pc' := 2) (lv' := [(0, .int x2), (1, .int (0)), (2, .int (-1))]) (st' := [.int (0), .int x2]) (by decide +kernel) rfl) ?_
  refine ev_go0 (ev_w_icmp (M := (ev_Mof 222)) (pc := 2) (q := .lt) (o := 12) (b := false) (t := 5) (by decide +kernel) (ev_c_lt0 hl_x2 (by decide +kernel)) rfl) ?_
  refine ev_go0 (ev_one_pure (M := (ev_Mof 222)) (pc := 5) (i := .iload_n 0) (len := 1) (pc' := 6) (lv' := [(0, .int x2), (1, .int (0)), (2, .int (-1))]) (st' := [.int x2]) (by decide +kernel) rfl) ?_
  refine ev_go0 (ev_one_pure (M := (ev_Mof 222)) (pc := 6) (i := .iload_n 2) (len := 1) (pc' := 7) (lv' := [(0, .int x2), (1, .int (0)), (2, .int (-1))]) (st' := [.int (-1), .int x2]) (by decide +kernel) rfl) ?_
  refine ev_go0 (ev_w_icmp (M := (ev_Mof 222)) (pc := 7) (q := .gt) (o := 7) (b := true) (t := 14) (by decide +kernel) (ev_c_gt1 hl_x2 (by decide +kernel)) rfl) ?_
  refine ev_go0 (ev_w_iconst (M := (ev_Mof 222)) (pc := 14) (k := 0) (v := 0) (by decide +kernel) (by decide +kernel)) ?_
  rfl
theorem ev_k212 (x2 : Int32) (hl_x2 : (0 : Int) ≤ x2.toInt) {n : Nat} : ev_calld 11 273 [.ref 621, .int x2] ev_H0 n = some (.inl (some (.int (0))), ev_H0, n, 0, 0) := by
  refine ev_call_int (k := 7) (pcR := 11) (lv' := [(0, .ref 621), (1, .int x2)]) (v := (0)) (ty := .boolean) (by decide +kernel) rfl ?_ (by decide +kernel) (by decide +kernel) (by decide +kernel) (by decide)
  show ev_stepn _ 7 (0, [(0, .ref 621), (1, .int x2)], [], _, _, 0, 0) = _
  refine ev_go0 (ev_one_pure (M := (ev_Mof 273)) (pc := 0) (i := .iload_n 1) (len := 1) (pc' := 1) (lv' := [(0, .ref 621), (1, .int x2)]) (st' := [.int x2]) (by decide +kernel) rfl) ?_
  refine ev_go0 (ev_w_iconst (M := (ev_Mof 273)) (pc := 1) (k := 0) (v := 0) (by decide +kernel) (by decide +kernel)) ?_
  refine ev_go0 (ev_one_pure (M := (ev_Mof 273)) (pc := 2) (i := .aload_n 0) (len := 1) (pc' := 3) (lv' := [(0, .ref 621), (1, .int x2)]) (st' := [.ref 621, .int (0), .int x2]) (by decide +kernel) rfl) ?_
  refine ev_go0 (ev_p_getf (M := (ev_Mof 273)) (pc := 3) (x := 525) (ci := 13) (f := 5) (fin := 0) (v := .int (0)) (by decide +kernel) (by decide +kernel) ev_fH621 rfl) ?_
  refine ev_go0 (ev_w_iconst (M := (ev_Mof 273)) (pc := 6) (k := 1) (v := 1) (by decide +kernel) (by decide +kernel)) ?_
  refine ev_go0 (ev_w_isub (M := (ev_Mof 273)) (pc := 7) (v := (-1)) (by decide +kernel) (by decide +kernel)) ?_
  refine ev_go0 (ev_w_stat (M := (ev_Mof 273)) (pc := 8) (y := 325) (kind := 2) (Or.inl rfl) (mi := 222) (na := 3) (by decide +kernel) (by decide +kernel) (by decide +kernel) (by decide +kernel) rfl rfl (ev_k211 x2 hl_x2)) ?_
  rfl
theorem ev_k213 (x1 : Int32) (x2 : Int32) (hl_x2 : (0 : Int) ≤ x2.toInt) (x3 : Int32) (hu_x3 : x3.toInt ≤ (-1 : Int)) (x4 : Int32) (x5 : Int32) {n : Nat} : ev_calld 12 330 [.ref 621, .int x1, .int x2, .int x3, .int x4, .int x5] ev_H0 n = some (.inl (some (.int (0))), (ev_H0.set 621 (.inr (13, (ev_F621.set 0 (.int (1)))))), n, 0, 0) := by
  refine ev_call_int (k := 12) (pcR := 63) (lv' := [(0, .ref 621), (1, .int x1), (2, .int x2), (3, .int x3), (4, .int x4), (5, .int x5)]) (v := (0)) (ty := .int) (by decide +kernel) rfl ?_ (by decide +kernel) (by decide +kernel) (by decide +kernel) (by decide)
  show ev_stepn _ 12 (0, [(0, .ref 621), (1, .int x1), (2, .int x2), (3, .int x3), (4, .int x4), (5, .int x5)], [], _, _, 0, 0) = _
  refine ev_go0 (ev_one_pure (M := (ev_Mof 330)) (pc := 0) (i := .aload_n 0) (len := 1) (pc' := 1) (lv' := [(0, .ref 621), (1, .int x1), (2, .int x2), (3, .int x3), (4, .int x4), (5, .int x5)]) (st' := [.ref 621]) (by decide +kernel) rfl) ?_
  refine ev_go0 (ev_one_pure (M := (ev_Mof 330)) (pc := 1) (i := .aload_n 0) (len := 1) (pc' := 2) (lv' := [(0, .ref 621), (1, .int x1), (2, .int x2), (3, .int x3), (4, .int x4), (5, .int x5)]) (st' := [.ref 621, .ref 621]) (by decide +kernel) rfl) ?_
  refine ev_go0 (ev_one_pure (M := (ev_Mof 330)) (pc := 2) (i := .iload_n 2) (len := 1) (pc' := 3) (lv' := [(0, .ref 621), (1, .int x1), (2, .int x2), (3, .int x3), (4, .int x4), (5, .int x5)]) (st' := [.int x2, .ref 621, .ref 621]) (by decide +kernel) rfl) ?_
  refine ev_go0 (ev_p_virt (M := (ev_Mof 330)) (pc := 3) (x := 531) (mi := 273) (na := 1) (by decide +kernel) (by decide +kernel) (by decide +kernel) (by decide +kernel) rfl rfl (ev_recv_of ev_fH621) (ev_k212 x2 hl_x2)) ?_
  refine ev_go0 (ev_w_if (M := (ev_Mof 330)) (pc := 6) (q := .eq) (o := 28) (b := true) (t := 34) (by decide +kernel) (by decide +kernel) rfl) ?_
  refine ev_go0 (ev_w_iconst (M := (ev_Mof 330)) (pc := 34) (k := 1) (v := 1) (by decide +kernel) (by decide +kernel)) ?_
  refine ev_go0 (ev_one_pure (M := (ev_Mof 330)) (pc := 35) (i := .goto 17) (len := 3) (pc' := 52) (lv' := [(0, .ref 621), (1, .int x1), (2, .int x2), (3, .int x3), (4, .int x4), (5, .int x5)]) (st' := [.int (1), .ref 621]) (by decide +kernel) rfl) ?_
  refine ev_go0 (ev_p_putf (M := (ev_Mof 330)) (pc := 52) (x := 321) (ci := 13) (f := 0) (by decide +kernel) (by decide +kernel) ev_fH621 rfl (by decide +kernel)) ?_
  refine ev_go0 (ev_one_pure (M := (ev_Mof 330)) (pc := 55) (i := .aload_n 0) (len := 1) (pc' := 56) (lv' := [(0, .ref 621), (1, .int x1), (2, .int x2), (3, .int x3), (4, .int x4), (5, .int x5)]) (st' := [.ref 621]) (by decide +kernel) rfl) ?_
  refine ev_go0 (ev_p_getf (M := (ev_Mof 330)) (pc := 56) (x := 321) (ci := 13) (f := 0) (fin := 0) (v := .int (1)) (by decide +kernel) (by decide +kernel) (ev_hself ev_fH621) rfl) ?_
  refine ev_go0 (ev_w_if (M := (ev_Mof 330)) (pc := 59) (q := .le) (o := 5) (b := false) (t := 62) (by decide +kernel) (by decide +kernel) rfl) ?_
  refine ev_go0 (ev_w_iconst (M := (ev_Mof 330)) (pc := 62) (k := 0) (v := 0) (by decide +kernel) (by decide +kernel)) ?_
  rfl
theorem ev_p1_12_pn (xs : Nat → Int32) (x1 : Int32) (x2 : Int32) (hl_x2 : (0 : Int) ≤ x2.toInt) (x3 : Int32) (hu_x3 : x3.toInt ≤ (-1 : Int)) (x4 : Int32) (x5 : Int32) (e1 : xs 1 = x1) (e2 : xs 2 = x2) (e3 : xs 3 = x3) (e4 : xs 4 = x4) (e5 : xs 5 = x5) : ev_P1 xs 896 := by
  refine ⟨64, [(6, .int (0)), (5, .int (1)), (4, .int (0)), (3, .ref 723), (2, .ref 621), (1, .ref 0), (0, .retAddr 0)], (ev_H0.set 621 (.inr (13, (ev_F621.set 0 (.int (1)))))), 724, 725, 3553592, ?_, ⟨rfl, rfl, rfl, rfl⟩, rfl, by decide, by decide⟩
  show ev_stepn _ _ (896, [(4, .int (0)), (3, .ref 723), (2, .ref 621), (1, .ref 0), (0, .retAddr 0)], [], _, _, _, _) = _
  refine ev_go0 (ev_one_pure (M := ev_Mlaw) (pc := 896) (i := .aload_n 1) (len := 1) (pc' := 897) (lv' := [(4, .int (0)), (3, .ref 723), (2, .ref 621), (1, .ref 0), (0, .retAddr 0)]) (st' := [.ref 0]) (by decide +kernel) rfl) ?_
  refine ev_go0 (ev_one_pure (M := ev_Mlaw) (pc := 897) (i := .aload_n 0) (len := 1) (pc' := 898) (lv' := [(4, .int (0)), (3, .ref 723), (2, .ref 621), (1, .ref 0), (0, .retAddr 0)]) (st' := [.retAddr 0, .ref 0]) (by decide +kernel) rfl) ?_
  refine ev_go0 (ev_one_pure (M := ev_Mlaw) (pc := 898) (i := .iload 4) (len := 2) (pc' := 900) (lv' := [(4, .int (0)), (3, .ref 723), (2, .ref 621), (1, .ref 0), (0, .retAddr 0)]) (st' := [.int (0), .retAddr 0, .ref 0]) (by decide +kernel) rfl) ?_
  refine ev_go0 (ev_w_iconst (M := ev_Mlaw) (pc := 900) (k := 1) (v := 1) (by decide +kernel) (by decide +kernel)) ?_
  refine ev_go0 (ev_w_iadd (M := ev_Mlaw) (pc := 901) (v := (1)) (by decide +kernel) (by decide +kernel)) ?_
  refine ev_go0 (ev_w_scr (M := ev_Mlaw) (pc := 902) (v := x1) (j := 1) (by decide +kernel) (by decide +kernel) (by decide +kernel) e1) ?_
  refine ev_go0 (ev_one_pure (M := ev_Mlaw) (pc := 903) (i := .aload_n 0) (len := 1) (pc' := 904) (lv' := [(4, .int (0)), (3, .ref 723), (2, .ref 621), (1, .ref 0), (0, .retAddr 0)]) (st' := [.retAddr 0, .int x1, .ref 0]) (by decide +kernel) rfl) ?_
  refine ev_go0 (ev_one_pure (M := ev_Mlaw) (pc := 904) (i := .iload 4) (len := 2) (pc' := 906) (lv' := [(4, .int (0)), (3, .ref 723), (2, .ref 621), (1, .ref 0), (0, .retAddr 0)]) (st' := [.int (0), .retAddr 0, .int x1, .ref 0]) (by decide +kernel) rfl) ?_
  refine ev_go0 (ev_w_iconst (M := ev_Mlaw) (pc := 906) (k := 2) (v := 2) (by decide +kernel) (by decide +kernel)) ?_
  refine ev_go0 (ev_w_iadd (M := ev_Mlaw) (pc := 907) (v := (2)) (by decide +kernel) (by decide +kernel)) ?_
  refine ev_go0 (ev_w_scr (M := ev_Mlaw) (pc := 908) (v := x2) (j := 2) (by decide +kernel) (by decide +kernel) (by decide +kernel) e2) ?_
  refine ev_go0 (ev_one_pure (M := ev_Mlaw) (pc := 909) (i := .aload_n 0) (len := 1) (pc' := 910) (lv' := [(4, .int (0)), (3, .ref 723), (2, .ref 621), (1, .ref 0), (0, .retAddr 0)]) (st' := [.retAddr 0, .int x2, .int x1, .ref 0]) (by decide +kernel) rfl) ?_
  refine ev_go0 (ev_one_pure (M := ev_Mlaw) (pc := 910) (i := .iload 4) (len := 2) (pc' := 912) (lv' := [(4, .int (0)), (3, .ref 723), (2, .ref 621), (1, .ref 0), (0, .retAddr 0)]) (st' := [.int (0), .retAddr 0, .int x2, .int x1, .ref 0]) (by decide +kernel) rfl) ?_
  refine ev_go0 (ev_w_iconst (M := ev_Mlaw) (pc := 912) (k := 3) (v := 3) (by decide +kernel) (by decide +kernel)) ?_
  refine ev_go0 (ev_w_iadd (M := ev_Mlaw) (pc := 913) (v := (3)) (by decide +kernel) (by decide +kernel)) ?_
  refine ev_go0 (ev_w_scr (M := ev_Mlaw) (pc := 914) (v := x3) (j := 3) (by decide +kernel) (by decide +kernel) (by decide +kernel) e3) ?_
  refine ev_go0 (ev_one_pure (M := ev_Mlaw) (pc := 915) (i := .aload_n 0) (len := 1) (pc' := 916) (lv' := [(4, .int (0)), (3, .ref 723), (2, .ref 621), (1, .ref 0), (0, .retAddr 0)]) (st' := [.retAddr 0, .int x3, .int x2, .int x1, .ref 0]) (by decide +kernel) rfl) ?_
  refine ev_go0 (ev_one_pure (M := ev_Mlaw) (pc := 916) (i := .iload 4) (len := 2) (pc' := 918) (lv' := [(4, .int (0)), (3, .ref 723), (2, .ref 621), (1, .ref 0), (0, .retAddr 0)]) (st' := [.int (0), .retAddr 0, .int x3, .int x2, .int x1, .ref 0]) (by decide +kernel) rfl) ?_
  refine ev_go0 (ev_w_iconst (M := ev_Mlaw) (pc := 918) (k := 4) (v := 4) (by decide +kernel) (by decide +kernel)) ?_
  refine ev_go0 (ev_w_iadd (M := ev_Mlaw) (pc := 919) (v := (4)) (by decide +kernel) (by decide +kernel)) ?_
  refine ev_go0 (ev_w_scr (M := ev_Mlaw) (pc := 920) (v := x4) (j := 4) (by decide +kernel) (by decide +kernel) (by decide +kernel) e4) ?_
  refine ev_go0 (ev_one_pure (M := ev_Mlaw) (pc := 921) (i := .aload_n 0) (len := 1) (pc' := 922) (lv' := [(4, .int (0)), (3, .ref 723), (2, .ref 621), (1, .ref 0), (0, .retAddr 0)]) (st' := [.retAddr 0, .int x4, .int x3, .int x2, .int x1, .ref 0]) (by decide +kernel) rfl) ?_
  refine ev_go0 (ev_one_pure (M := ev_Mlaw) (pc := 922) (i := .iload 4) (len := 2) (pc' := 924) (lv' := [(4, .int (0)), (3, .ref 723), (2, .ref 621), (1, .ref 0), (0, .retAddr 0)]) (st' := [.int (0), .retAddr 0, .int x4, .int x3, .int x2, .int x1, .ref 0]) (by decide +kernel) rfl) ?_
  refine ev_go0 (ev_w_iconst (M := ev_Mlaw) (pc := 924) (k := 5) (v := 5) (by decide +kernel) (by decide +kernel)) ?_
  refine ev_go0 (ev_w_iadd (M := ev_Mlaw) (pc := 925) (v := (5)) (by decide +kernel) (by decide +kernel)) ?_
  refine ev_go0 (ev_w_scr (M := ev_Mlaw) (pc := 926) (v := x5) (j := 5) (by decide +kernel) (by decide +kernel) (by decide +kernel) e5) ?_
  refine ev_go0 (ev_one_pure (M := ev_Mlaw) (pc := 927) (i := .aload_n 3) (len := 1) (pc' := 928) (lv' := [(4, .int (0)), (3, .ref 723), (2, .ref 621), (1, .ref 0), (0, .retAddr 0)]) (st' := [.ref 723, .int x5, .int x4, .int x3, .int x2, .int x1, .ref 0]) (by decide +kernel) rfl) ?_
  refine ev_go (ev_w_stat (M := ev_Mlaw) (pc := 928) (y := 171) (kind := 8) (Or.inr (Or.inr rfl)) (mi := 375) (na := 7) (by decide +kernel) (by decide +kernel) (by decide +kernel) (by decide +kernel) rfl rfl (ev_k210 x1 x2 hl_x2 x3 hu_x3 x4 x5)) ?_
  refine ev_go0 (ev_w_istore (M := ev_Mlaw) (pc := 931) (k := 5) (lv' := [(5, .int (1)), (4, .int (0)), (3, .ref 723), (2, .ref 621), (1, .ref 0), (0, .retAddr 0)]) (by decide +kernel) (by decide +kernel) rfl) ?_
  refine ev_go0 (ev_one_pure (M := ev_Mlaw) (pc := 933) (i := .aload_n 2) (len := 1) (pc' := 934) (lv' := [(5, .int (1)), (4, .int (0)), (3, .ref 723), (2, .ref 621), (1, .ref 0), (0, .retAddr 0)]) (st' := [.ref 621]) (by decide +kernel) rfl) ?_
  refine ev_go0 (ev_one_pure (M := ev_Mlaw) (pc := 934) (i := .aload_n 0) (len := 1) (pc' := 935) (lv' := [(5, .int (1)), (4, .int (0)), (3, .ref 723), (2, .ref 621), (1, .ref 0), (0, .retAddr 0)]) (st' := [.retAddr 0, .ref 621]) (by decide +kernel) rfl) ?_
  refine ev_go0 (ev_one_pure (M := ev_Mlaw) (pc := 935) (i := .iload 4) (len := 2) (pc' := 937) (lv' := [(5, .int (1)), (4, .int (0)), (3, .ref 723), (2, .ref 621), (1, .ref 0), (0, .retAddr 0)]) (st' := [.int (0), .retAddr 0, .ref 621]) (by decide +kernel) rfl) ?_
  refine ev_go0 (ev_w_iconst (M := ev_Mlaw) (pc := 937) (k := 1) (v := 1) (by decide +kernel) (by decide +kernel)) ?_
  refine ev_go0 (ev_w_iadd (M := ev_Mlaw) (pc := 938) (v := (1)) (by decide +kernel) (by decide +kernel)) ?_
  refine ev_go0 (ev_w_scr (M := ev_Mlaw) (pc := 939) (v := x1) (j := 1) (by decide +kernel) (by decide +kernel) (by decide +kernel) e1) ?_
  refine ev_go0 (ev_one_pure (M := ev_Mlaw) (pc := 940) (i := .aload_n 0) (len := 1) (pc' := 941) (lv' := [(5, .int (1)), (4, .int (0)), (3, .ref 723), (2, .ref 621), (1, .ref 0), (0, .retAddr 0)]) (st' := [.retAddr 0, .int x1, .ref 621]) (by decide +kernel) rfl) ?_
  refine ev_go0 (ev_one_pure (M := ev_Mlaw) (pc := 941) (i := .iload 4) (len := 2) (pc' := 943) (lv' := [(5, .int (1)), (4, .int (0)), (3, .ref 723), (2, .ref 621), (1, .ref 0), (0, .retAddr 0)]) (st' := [.int (0), .retAddr 0, .int x1, .ref 621]) (by decide +kernel) rfl) ?_
  refine ev_go0 (ev_w_iconst (M := ev_Mlaw) (pc := 943) (k := 2) (v := 2) (by decide +kernel) (by decide +kernel)) ?_
  refine ev_go0 (ev_w_iadd (M := ev_Mlaw) (pc := 944) (v := (2)) (by decide +kernel) (by decide +kernel)) ?_
  refine ev_go0 (ev_w_scr (M := ev_Mlaw) (pc := 945) (v := x2) (j := 2) (by decide +kernel) (by decide +kernel) (by decide +kernel) e2) ?_
  refine ev_go0 (ev_one_pure (M := ev_Mlaw) (pc := 946) (i := .aload_n 0) (len := 1) (pc' := 947) (lv' := [(5, .int (1)), (4, .int (0)), (3, .ref 723), (2, .ref 621), (1, .ref 0), (0, .retAddr 0)]) (st' := [.retAddr 0, .int x2, .int x1, .ref 621]) (by decide +kernel) rfl) ?_
  refine ev_go0 (ev_one_pure (M := ev_Mlaw) (pc := 947) (i := .iload 4) (len := 2) (pc' := 949) (lv' := [(5, .int (1)), (4, .int (0)), (3, .ref 723), (2, .ref 621), (1, .ref 0), (0, .retAddr 0)]) (st' := [.int (0), .retAddr 0, .int x2, .int x1, .ref 621]) (by decide +kernel) rfl) ?_
  refine ev_go0 (ev_w_iconst (M := ev_Mlaw) (pc := 949) (k := 3) (v := 3) (by decide +kernel) (by decide +kernel)) ?_
  refine ev_go0 (ev_w_iadd (M := ev_Mlaw) (pc := 950) (v := (3)) (by decide +kernel) (by decide +kernel)) ?_
  refine ev_go0 (ev_w_scr (M := ev_Mlaw) (pc := 951) (v := x3) (j := 3) (by decide +kernel) (by decide +kernel) (by decide +kernel) e3) ?_
  refine ev_go0 (ev_one_pure (M := ev_Mlaw) (pc := 952) (i := .aload_n 0) (len := 1) (pc' := 953) (lv' := [(5, .int (1)), (4, .int (0)), (3, .ref 723), (2, .ref 621), (1, .ref 0), (0, .retAddr 0)]) (st' := [.retAddr 0, .int x3, .int x2, .int x1, .ref 621]) (by decide +kernel) rfl) ?_
  refine ev_go0 (ev_one_pure (M := ev_Mlaw) (pc := 953) (i := .iload 4) (len := 2) (pc' := 955) (lv' := [(5, .int (1)), (4, .int (0)), (3, .ref 723), (2, .ref 621), (1, .ref 0), (0, .retAddr 0)]) (st' := [.int (0), .retAddr 0, .int x3, .int x2, .int x1, .ref 621]) (by decide +kernel) rfl) ?_
  refine ev_go0 (ev_w_iconst (M := ev_Mlaw) (pc := 955) (k := 4) (v := 4) (by decide +kernel) (by decide +kernel)) ?_
  refine ev_go0 (ev_w_iadd (M := ev_Mlaw) (pc := 956) (v := (4)) (by decide +kernel) (by decide +kernel)) ?_
  refine ev_go0 (ev_w_scr (M := ev_Mlaw) (pc := 957) (v := x4) (j := 4) (by decide +kernel) (by decide +kernel) (by decide +kernel) e4) ?_
  refine ev_go0 (ev_one_pure (M := ev_Mlaw) (pc := 958) (i := .aload_n 0) (len := 1) (pc' := 959) (lv' := [(5, .int (1)), (4, .int (0)), (3, .ref 723), (2, .ref 621), (1, .ref 0), (0, .retAddr 0)]) (st' := [.retAddr 0, .int x4, .int x3, .int x2, .int x1, .ref 621]) (by decide +kernel) rfl) ?_
  refine ev_go0 (ev_one_pure (M := ev_Mlaw) (pc := 959) (i := .iload 4) (len := 2) (pc' := 961) (lv' := [(5, .int (1)), (4, .int (0)), (3, .ref 723), (2, .ref 621), (1, .ref 0), (0, .retAddr 0)]) (st' := [.int (0), .retAddr 0, .int x4, .int x3, .int x2, .int x1, .ref 621]) (by decide +kernel) rfl) ?_
  refine ev_go0 (ev_w_iconst (M := ev_Mlaw) (pc := 961) (k := 5) (v := 5) (by decide +kernel) (by decide +kernel)) ?_
  refine ev_go0 (ev_w_iadd (M := ev_Mlaw) (pc := 962) (v := (5)) (by decide +kernel) (by decide +kernel)) ?_
  refine ev_go0 (ev_w_scr (M := ev_Mlaw) (pc := 963) (v := x5) (j := 5) (by decide +kernel) (by decide +kernel) (by decide +kernel) e5) ?_
  refine ev_go0 (ev_p_virt (M := ev_Mlaw) (pc := 964) (x := 174) (mi := 330) (na := 5) (by decide +kernel) (by decide +kernel) (by decide +kernel) (by decide +kernel) rfl rfl (ev_recv_of ev_fH621) (ev_k213 x1 x2 hl_x2 x3 hu_x3 x4 x5)) ?_
  refine ev_go0 (ev_w_istore (M := ev_Mlaw) (pc := 967) (k := 6) (lv' := [(6, .int (0)), (5, .int (1)), (4, .int (0)), (3, .ref 723), (2, .ref 621), (1, .ref 0), (0, .retAddr 0)]) (by decide +kernel) (by decide +kernel) rfl) ?_
  refine ev_go0 (ev_one_pure (M := ev_Mlaw) (pc := 969) (i := .aload_n 2) (len := 1) (pc' := 970) (lv' := [(6, .int (0)), (5, .int (1)), (4, .int (0)), (3, .ref 723), (2, .ref 621), (1, .ref 0), (0, .retAddr 0)]) (st' := [.ref 621]) (by decide +kernel) rfl) ?_
  refine ev_go0 (ev_p_virt (M := ev_Mlaw) (pc := 970) (x := 131) (mi := 220) (na := 0) (by decide +kernel) (by decide +kernel) (by decide +kernel) (by decide +kernel) rfl rfl (ev_recv_of (ev_hself ev_fH621)) ev_k26) ?_
  refine ev_go0 (ev_one_pure (M := ev_Mlaw) (pc := 973) (i := .iload 5) (len := 2) (pc' := 975) (lv' := [(6, .int (0)), (5, .int (1)), (4, .int (0)), (3, .ref 723), (2, .ref 621), (1, .ref 0), (0, .retAddr 0)]) (st' := [.int (1), .int (1)]) (by decide +kernel) rfl) ?_
  refine ev_go0 (ev_w_icmp (M := ev_Mlaw) (pc := 975) (q := .eq) (o := 5) (b := true) (t := 980) (by decide +kernel) (by decide +kernel) rfl) ?_
  refine ev_go0 (ev_one_pure (M := ev_Mlaw) (pc := 980) (i := .iload 5) (len := 2) (pc' := 982) (lv' := [(6, .int (0)), (5, .int (1)), (4, .int (0)), (3, .ref 723), (2, .ref 621), (1, .ref 0), (0, .retAddr 0)]) (st' := [.int (1)]) (by decide +kernel) rfl) ?_
  refine ev_go0 (ev_w_if (M := ev_Mlaw) (pc := 982) (q := .ne) (o := 15) (b := true) (t := 997) (by decide +kernel) (by decide +kernel) rfl) ?_
  refine ev_go0 (ev_one_pure (M := ev_Mlaw) (pc := 997) (i := .goto 1275) (len := 3) (pc' := 2272) (lv' := [(6, .int (0)), (5, .int (1)), (4, .int (0)), (3, .ref 723), (2, .ref 621), (1, .ref 0), (0, .retAddr 0)]) (st' := []) (by decide +kernel) rfl) ?_
  rfl
theorem ev_k214 (x2 : Int32) (hl_x2 : (0 : Int) ≤ x2.toInt) (x4 : Int32) (x5 : Int32) {n : Nat} : ev_calld 10 203 [.ref 0, .int x2, .int (0), .int x4, .int x5] ev_H0 n = some (.inl (some (.int (0))), ev_H0, n, 0, 0) := by
  refine ev_call_int (k := 12) (pcR := 60) (lv' := [(6, .ref 263), (5, .null), (0, .ref 0), (1, .int x2), (2, .int (0)), (3, .int x4), (4, .int x5)]) (v := (0)) (ty := .boolean) (by decide +kernel) rfl ?_ (by decide +kernel) (by decide +kernel) (by decide +kernel) (by decide)
  show ev_stepn _ 12 (0, [(0, .ref 0), (1, .int x2), (2, .int (0)), (3, .int x4), (4, .int x5)], [], _, _, 0, 0) = _
  refine ev_go0 (ev_one_pure (M := (ev_Mof 203)) (pc := 0) (i := .aload_n 0) (len := 1) (pc' := 1) (lv' := [(0, .ref 0), (1, .int x2), (2, .int (0)), (3, .int x4), (4, .int x5)]) (st' := [.ref 0]) (by decide +kernel) rfl) ?_
  refine ev_go0 (ev_one_pure (M := (ev_Mof 203)) (pc := 1) (i := .iload_n 1) (len := 1) (pc' := 2) (lv' := [(0, .ref 0), (1, .int x2), (2, .int (0)), (3, .int x4), (4, .int x5)]) (st' := [.int x2, .ref 0]) (by decide +kernel) rfl) ?_
  refine ev_go0 (ev_p_virt (M := (ev_Mof 203)) (pc := 2) (x := 156) (mi := 200) (na := 1) (by decide +kernel) (by decide +kernel) (by decide +kernel) (by decide +kernel) rfl rfl (ev_recv_of ev_fH0) (ev_k207 x2 hl_x2)) ?_
  refine ev_go0 (ev_w_astore (M := (ev_Mof 203)) (pc := 5) (k := 5) (lv' := [(5, .null), (0, .ref 0), (1, .int x2), (2, .int (0)), (3, .int x4), (4, .int x5)]) (by decide +kernel) (by decide +kernel) (Or.inr (Or.inl rfl)) rfl) ?_
  refine ev_go0 (ev_one_pure (M := (ev_Mof 203)) (pc := 7) (i := .aload_n 0) (len := 1) (pc' := 8) (lv' := [(5, .null), (0, .ref 0), (1, .int x2), (2, .int (0)), (3, .int x4), (4, .int x5)]) (st' := [.ref 0]) (by decide +kernel) rfl) ?_
  refine ev_go0 (ev_p_getf (M := (ev_Mof 203)) (pc := 8) (x := 48) (ci := 12) (f := 8) (fin := 1) (v := .ref 254) (by decide +kernel) (by decide +kernel) ev_fH0 rfl) ?_
  refine ev_go0 (ev_one_pure (M := (ev_Mof 203)) (pc := 11) (i := .iload_n 2) (len := 1) (pc' := 12) (lv' := [(5, .null), (0, .ref 0), (1, .int x2), (2, .int (0)), (3, .int x4), (4, .int x5)]) (st' := [.int (0), .ref 254]) (by decide +kernel) rfl) ?_
  refine ev_go0 (ev_p_virt (M := (ev_Mof 203)) (pc := 12) (x := 221) (mi := 1) (na := 1) (by decide +kernel) (by decide +kernel) (by decide +kernel) (by decide +kernel) rfl rfl (ev_recv_of ev_fH254) ev_k97) ?_
  refine ev_go0 (ev_w_astore (M := (ev_Mof 203)) (pc := 15) (k := 6) (lv' := [(6, .ref 263), (5, .null), (0, .ref 0), (1, .int x2), (2, .int (0)), (3, .int x4), (4, .int x5)]) (by decide +kernel) (by decide +kernel) (Or.inl ⟨_, rfl⟩) rfl) ?_
  refine ev_go0 (ev_one_pure (M := (ev_Mof 203)) (pc := 17) (i := .aload 5) (len := 2) (pc' := 19) (lv' := [(6, .ref 263), (5, .null), (0, .ref 0), (1, .int x2), (2, .int (0)), (3, .int x4), (4, .int x5)]) (st' := [.null]) (by decide +kernel) rfl) ?_
  refine ev_go0 (ev_w_ifnull (M := (ev_Mof 203)) (pc := 19) (o := 40) (t := 59) (by decide +kernel) (Or.inl ⟨rfl, rfl⟩)) ?_
  refine ev_go0 (ev_w_iconst (M := (ev_Mof 203)) (pc := 59) (k := 0) (v := 0) (by decide +kernel) (by decide +kernel)) ?_
  rfl
theorem ev_k215 (x1 : Int32) (x2 : Int32) (hl_x2 : (0 : Int) ≤ x2.toInt) (x4 : Int32) (x5 : Int32) {n : Nat} : ev_calld 11 178 [.ref 0, .int x1, .int x2, .int (0), .int x4, .int x5] ev_H0 n = some (.inr "java/lang/IndexOutOfBoundsException", ev_H0, n, 1, 6) := by
  refine ev_call_thrown (k := 7) (pcR := 13) (x := 160) (lv' := [(0, .ref 0), (1, .int x1), (2, .int x2), (3, .int (0)), (4, .int x4), (5, .int x5)]) (by decide +kernel) rfl ?_ (by decide +kernel) (by decide +kernel) (by decide +kernel) (by decide) (by decide)
  show ev_stepn _ 7 (0, [(0, .ref 0), (1, .int x1), (2, .int x2), (3, .int (0)), (4, .int x4), (5, .int x5)], [], _, _, 0, 0) = _
  refine ev_go0 (ev_one_pure (M := (ev_Mof 178)) (pc := 0) (i := .aload_n 0) (len := 1) (pc' := 1) (lv' := [(0, .ref 0), (1, .int x1), (2, .int x2), (3, .int (0)), (4, .int x4), (5, .int x5)]) (st' := [.ref 0]) (by decide +kernel) rfl) ?_
  refine ev_go0 (ev_one_pure (M := (ev_Mof 178)) (pc := 1) (i := .iload_n 2) (len := 1) (pc' := 2) (lv' := [(0, .ref 0), (1, .int x1), (2, .int x2), (3, .int (0)), (4, .int x4), (5, .int x5)]) (st' := [.int x2, .ref 0]) (by decide +kernel) rfl) ?_
  refine ev_go0 (ev_one_pure (M := (ev_Mof 178)) (pc := 2) (i := .iload_n 3) (len := 1) (pc' := 3) (lv' := [(0, .ref 0), (1, .int x1), (2, .int x2), (3, .int (0)), (4, .int x4), (5, .int x5)]) (st' := [.int (0), .int x2, .ref 0]) (by decide +kernel) rfl) ?_
  refine ev_go0 (ev_one_pure (M := (ev_Mof 178)) (pc := 3) (i := .iload 4) (len := 2) (pc' := 5) (lv' := [(0, .ref 0), (1, .int x1), (2, .int x2), (3, .int (0)), (4, .int x4), (5, .int x5)]) (st' := [.int x4, .int (0), .int x2, .ref 0]) (by decide +kernel) rfl) ?_
  refine ev_go0 (ev_one_pure (M := (ev_Mof 178)) (pc := 5) (i := .iload 5) (len := 2) (pc' := 7) (lv' := [(0, .ref 0), (1, .int x1), (2, .int x2), (3, .int (0)), (4, .int x4), (5, .int x5)]) (st' := [.int x5, .int x4, .int (0), .int x2, .ref 0]) (by decide +kernel) rfl) ?_
  refine ev_go0 (ev_p_virt (M := (ev_Mof 178)) (pc := 7) (x := 205) (mi := 203) (na := 4) (by decide +kernel) (by decide +kernel) (by decide +kernel) (by decide +kernel) rfl rfl (ev_recv_of ev_fH0) (ev_k214 x2 hl_x2 x4 x5)) ?_
  refine ev_go0 (ev_w_if (M := (ev_Mof 178)) (pc := 10) (q := .ne) (o := 13) (b := false) (t := 13) (by decide +kernel) (by decide +kernel) rfl) ?_
  rfl
theorem ev_k216 (x1 : Int32) (x2 : Int32) (hl_x2 : (0 : Int) ≤ x2.toInt) (x4 : Int32) (x5 : Int32) {n : Nat} : ev_calld 12 375 [.ref 0, .int x1, .int x2, .int (0), .int x4, .int x5, .ref 723] ev_H0 n = some (.inl (some (.int (1))), ev_H0, n, 1, 6) := by
  refine ev_call_int (k := 11) (pcR := 22) (lv' := [(7, .retAddr 1), (0, .ref 0), (1, .int x1), (2, .int x2), (3, .int (0)), (4, .int x4), (5, .int x5), (6, .ref 723)]) (v := (1)) (ty := .int) (by decide +kernel) rfl ?_ (by decide +kernel) (by decide +kernel) (by decide +kernel) (by decide)
  show ev_stepn _ 11 (0, [(0, .ref 0), (1, .int x1), (2, .int x2), (3, .int (0)), (4, .int x4), (5, .int x5), (6, .ref 723)], [], _, _, 0, 0) = _
  refine ev_go0 (ev_one_pure (M := (ev_Mof 375)) (pc := 0) (i := .aload 6) (len := 2) (pc' := 2) (lv' := [(0, .ref 0), (1, .int x1), (2, .int x2), (3, .int (0)), (4, .int x4), (5, .int x5), (6, .ref 723)]) (st' := [.ref 723]) (by decide +kernel) rfl) ?_
  refine ev_go0 (ev_w_iconst (M := (ev_Mof 375)) (pc := 2) (k := 0) (v := 0) (by decide +kernel) (by decide +kernel)) ?_
  refine ev_go0 (ev_one_pure (M := (ev_Mof 375)) (pc := 3) (i := .aload_n 0) (len := 1) (pc' := 4) (lv' := [(0, .ref 0), (1, .int x1), (2, .int x2), (3, .int (0)), (4, .int x4), (5, .int x5), (6, .ref 723)]) (st' := [.ref 0, .int (0), .ref 723]) (by decide +kernel) rfl) ?_
  refine ev_go0 (ev_one_pure (M := (ev_Mof 375)) (pc := 4) (i := .iload_n 1) (len := 1) (pc' := 5) (lv' := [(0, .ref 0), (1, .int x1), (2, .int x2), (3, .int (0)), (4, .int x4), (5, .int x5), (6, .ref 723)]) (st' := [.int x1, .ref 0, .int (0), .ref 723]) (by decide +kernel) rfl) ?_
  refine ev_go0 (ev_one_pure (M := (ev_Mof 375)) (pc := 5) (i := .iload_n 2) (len := 1) (pc' := 6) (lv' := [(0, .ref 0), (1, .int x1), (2, .int x2), (3, .int (0)), (4, .int x4), (5, .int x5), (6, .ref 723)]) (st' := [.int x2, .int x1, .ref 0, .int (0), .ref 723]) (by decide +kernel) rfl) ?_
  refine ev_go0 (ev_one_pure (M := (ev_Mof 375)) (pc := 6) (i := .iload_n 3) (len := 1) (pc' := 7) (lv' := [(0, .ref 0), (1, .int x1), (2, .int x2), (3, .int (0)), (4, .int x4), (5, .int x5), (6, .ref 723)]) (st' := [.int (0), .int x2, .int x1, .ref 0, .int (0), .ref 723]) (by decide +kernel) rfl) ?_
  refine ev_go0 (ev_one_pure (M := (ev_Mof 375)) (pc := 7) (i := .iload 4) (len := 2) (pc' := 9) (lv' := [(0, .ref 0), (1, .int x1), (2, .int x2), (3, .int (0)), (4, .int x4), (5, .int x5), (6, .ref 723)]) (st' := [.int x4, .int (0), .int x2, .int x1, .ref 0, .int (0), .ref 723]) (by decide +kernel) rfl) ?_
  refine ev_go0 (ev_one_pure (M := (ev_Mof 375)) (pc := 9) (i := .iload 5) (len := 2) (pc' := 11) (lv' := [(0, .ref 0), (1, .int x1), (2, .int x2), (3, .int (0)), (4, .int x4), (5, .int x5), (6, .ref 723)]) (st' := [.int x5, .int x4, .int (0), .int x2, .int x1, .ref 0, .int (0), .ref 723]) (by decide +kernel) rfl) ?_
  refine ev_go (ev_p_virtX (M := (ev_Mof 375)) (pc := 11) (x := 53) (t := 19) (mi := 178) (na := 5) (by decide +kernel) (by decide +kernel) (by decide +kernel) (by decide +kernel) rfl rfl (ev_recv_of ev_fH0) (ev_k215 x1 x2 hl_x2 x4 x5) (by decide +kernel)) ?_
  refine ev_go0 (ev_w_astore (M := (ev_Mof 375)) (pc := 19) (k := 7) (lv' := [(7, .retAddr 1), (0, .ref 0), (1, .int x1), (2, .int x2), (3, .int (0)), (4, .int x4), (5, .int x5), (6, .ref 723)]) (by decide +kernel) (by decide +kernel) (Or.inr (Or.inr ⟨_, rfl⟩)) rfl) ?_
  refine ev_go0 (ev_w_iconst (M := (ev_Mof 375)) (pc := 21) (k := 1) (v := 1) (by decide +kernel) (by decide +kernel)) ?_
  rfl
theorem ev_k217 (x1 : Int32) (x2 : Int32) (hl_x2 : (0 : Int) ≤ x2.toInt) (x4 : Int32) (x5 : Int32) {n : Nat} : ev_calld 12 330 [.ref 621, .int x1, .int x2, .int (0), .int x4, .int x5] ev_H0 n = some (.inl (some (.int (0))), (ev_H0.set 621 (.inr (13, (ev_F621.set 0 (.int (1)))))), n, 0, 0) := by
  refine ev_call_int (k := 12) (pcR := 63) (lv' := [(0, .ref 621), (1, .int x1), (2, .int x2), (3, .int (0)), (4, .int x4), (5, .int x5)]) (v := (0)) (ty := .int) (by decide +kernel) rfl ?_ (by decide +kernel) (by decide +kernel) (by decide +kernel) (by decide)
  show ev_stepn _ 12 (0, [(0, .ref 621), (1, .int x1), (2, .int x2), (3, .int (0)), (4, .int x4), (5, .int x5)], [], _, _, 0, 0) = _
  refine ev_go0 (ev_one_pure (M := (ev_Mof 330)) (pc := 0) (i := .aload_n 0) (len := 1) (pc' := 1) (lv' := [(0, .ref 621), (1, .int x1), (2, .int x2), (3, .int (0)), (4, .int x4), (5, .int x5)]) (st' := [.ref 621]) (by decide +kernel) rfl) ?_
  refine ev_go0 (ev_one_pure (M := (ev_Mof 330)) (pc := 1) (i := .aload_n 0) (len := 1) (pc' := 2) (lv' := [(0, .ref 621), (1, .int x1), (2, .int x2), (3, .int (0)), (4, .int x4), (5, .int x5)]) (st' := [.ref 621, .ref 621]) (by decide +kernel) rfl) ?_
  refine ev_go0 (ev_one_pure (M := (ev_Mof 330)) (pc := 2) (i := .iload_n 2) (len := 1) (pc' := 3) (lv' := [(0, .ref 621), (1, .int x1), (2, .int x2), (3, .int (0)), (4, .int x4), (5, .int x5)]) (st' := [.int x2, .ref 621, .ref 621]) (by decide +kernel) rfl) ?_
  refine ev_go0 (ev_p_virt (M := (ev_Mof 330)) (pc := 3) (x := 531) (mi := 273) (na := 1) (by decide +kernel) (by decide +kernel) (by decide +kernel) (by decide +kernel) rfl rfl (ev_recv_of ev_fH621) (ev_k212 x2 hl_x2)) ?_
  refine ev_go0 (ev_w_if (M := (ev_Mof 330)) (pc := 6) (q := .eq) (o := 28) (b := true) (t := 34) (by decide +kernel) (by decide +kernel) rfl) ?_
  refine ev_go0 (ev_w_iconst (M := (ev_Mof 330)) (pc := 34) (k := 1) (v := 1) (by decide +kernel) (by decide +kernel)) ?_
  refine ev_go0 (ev_one_pure (M := (ev_Mof 330)) (pc := 35) (i := .goto 17) (len := 3) (pc' := 52) (lv' := [(0, .ref 621), (1, .int x1), (2, .int x2), (3, .int (0)), (4, .int x4), (5, .int x5)]) (st' := [.int (1), .ref 621]) (by decide +kernel) rfl) ?_
  refine ev_go0 (ev_p_putf (M := (ev_Mof 330)) (pc := 52) (x := 321) (ci := 13) (f := 0) (by decide +kernel) (by decide +kernel) ev_fH621 rfl (by decide +kernel)) ?_
  refine ev_go0 (ev_one_pure (M := (ev_Mof 330)) (pc := 55) (i := .aload_n 0) (len := 1) (pc' := 56) (lv' := [(0, .ref 621), (1, .int x1), (2, .int x2), (3, .int (0)), (4, .int x4), (5, .int x5)]) (st' := [.ref 621]) (by decide +kernel) rfl) ?_
  refine ev_go0 (ev_p_getf (M := (ev_Mof 330)) (pc := 56) (x := 321) (ci := 13) (f := 0) (fin := 0) (v := .int (1)) (by decide +kernel) (by decide +kernel) (ev_hself ev_fH621) rfl) ?_
  refine ev_go0 (ev_w_if (M := (ev_Mof 330)) (pc := 59) (q := .le) (o := 5) (b := false) (t := 62) (by decide +kernel) (by decide +kernel) rfl) ?_
  refine ev_go0 (ev_w_iconst (M := (ev_Mof 330)) (pc := 62) (k := 0) (v := 0) (by decide +kernel) (by decide +kernel)) ?_
  rfl
theorem ev_p1_12_p0 (xs : Nat → Int32) (x1 : Int32) (x2 : Int32) (hl_x2 : (0 : Int) ≤ x2.toInt) (x4 : Int32) (x5 : Int32) (e1 : xs 1 = x1) (e2 : xs 2 = x2) (e3 : xs 3 = (0)) (e4 : xs 4 = x4) (e5 : xs 5 = x5) : ev_P1 xs 896 := by
  refine ⟨64, [(6, .int (0)), (5, .int (1)), (4, .int (0)), (3, .ref 723), (2, .ref 621), (1, .ref 0), (0, .retAddr 0)], (ev_H0.set 621 (.inr (13, (ev_F621.set 0 (.int (1)))))), 724, 725, 3553592, ?_, ⟨rfl, rfl, rfl, rfl⟩, rfl, by decide, by decide⟩
  show ev_stepn _ _ (896, [(4, .int (0)), (3, .ref 723), (2, .ref 621), (1, .ref 0), (0, .retAddr 0)], [], _, _, _, _) = _
  refine ev_go0 (ev_one_pure (M := ev_Mlaw) (pc := 896) (i := .aload_n 1) (len := 1) (pc' := 897) (lv' := [(4, .int (0)), (3, .ref 723), (2, .ref 621), (1, .ref 0), (0, .retAddr 0)]) (st' := [.ref 0]) (by decide +kernel) rfl) ?_
  refine ev_go0 (ev_one_pure (M := ev_Mlaw) (pc := 897) (i := .aload_n 0) (len := 1) (pc' := 898) (lv' := [(4, .int (0)), (3, .ref 723), (2, .ref 621), (1, .ref 0), (0, .retAddr 0)]) (st' := [.retAddr 0, .ref 0]) (by decide +kernel) rfl) ?_
  refine ev_go0 (ev_one_pure (M := ev_Mlaw) (pc := 898) (i := .iload 4) (len := 2) (pc' := 900) (lv' := [(4, .int (0)), (3, .ref 723), (2, .ref 621), (1, .ref 0), (0, .retAddr 0)]) (st' := [.int (0), .retAddr 0, .ref 0]) (by decide +kernel) rfl) ?_
  refine ev_go0 (ev_w_iconst (M := ev_Mlaw) (pc := 900) (k := 1) (v := 1) (by decide +kernel) (by decide +kernel)) ?_
  refine ev_go0 (ev_w_iadd (M := ev_Mlaw) (pc := 901) (v := (1)) (by decide +kernel) (by decide +kernel)) ?_
  refine ev_go0 (ev_w_scr (M := ev_Mlaw) (pc := 902) (v := x1) (j := 1) (by decide +kernel) (by decide +kernel) (by decide +kernel) e1) ?_
  refine ev_go0 (ev_one_pure (M := ev_Mlaw) (pc := 903) (i := .aload_n 0) (len := 1) (pc' := 904) (lv' := [(4, .int (0)), (3, .ref 723), (2, .ref 621), (1, .ref 0), (0, .retAddr 0)]) (st' := [.retAddr 0, .int x1, .ref 0]) (by decide +kernel) rfl) ?_
  refine ev_go0 (ev_one_pure (M := ev_Mlaw) (pc := 904) (i := .iload 4) (len := 2) (pc' := 906) (lv' := [(4, .int (0)), (3, .ref 723), (2, .ref 621), (1, .ref 0), (0, .retAddr 0)]) (st' := [.int (0), .retAddr 0, .int x1, .ref 0]) (by decide +kernel) rfl) ?_
  refine ev_go0 (ev_w_iconst (M := ev_Mlaw) (pc := 906) (k := 2) (v := 2) (by decide +kernel) (by decide +kernel)) ?_
  refine ev_go0 (ev_w_iadd (M := ev_Mlaw) (pc := 907) (v := (2)) (by decide +kernel) (by decide +kernel)) ?_
  refine ev_go0 (ev_w_scr (M := ev_Mlaw) (pc := 908) (v := x2) (j := 2) (by decide +kernel) (by decide +kernel) (by decide +kernel) e2) ?_
  refine ev_go0 (ev_one_pure (M := ev_Mlaw) (pc := 909) (i := .aload_n 0) (len := 1) (pc' := 910) (lv' := [(4, .int (0)), (3, .ref 723), (2, .ref 621), (1, .ref 0), (0, .retAddr 0)]) (st' := [.retAddr 0, .int x2, .int x1, .ref 0]) (by decide +kernel) rfl) ?_
  refine ev_go0 (ev_one_pure (M := ev_Mlaw) (pc := 910) (i := .iload 4) (len := 2) (pc' := 912) (lv' := [(4, .int (0)), (3, .ref 723), (2, .ref 621), (1, .ref 0), (0, .retAddr 0)]) (st' := [.int (0), .retAddr 0, .int x2, .int x1, .ref 0]) (by decide +kernel) rfl) ?_
  refine ev_go0 (ev_w_iconst (M := ev_Mlaw) (pc := 912) (k := 3) (v := 3) (by decide +kernel) (by decide +kernel)) ?_
  refine ev_go0 (ev_w_iadd (M := ev_Mlaw) (pc := 913) (v := (3)) (by decide +kernel) (by decide +kernel)) ?_
  refine ev_go0 (ev_w_scr (M := ev_Mlaw) (pc := 914) (v := (0)) (j := 3) (by decide +kernel) (by decide +kernel) (by decide +kernel) e3) ?_
  refine ev_go0 (ev_one_pure (M := ev_Mlaw) (pc := 915) (i := .aload_n 0) (len := 1) (pc' := 916) (lv' := [(4, .int (0)), (3, .ref 723), (2, .ref 621), (1, .ref 0), (0, .retAddr 0)]) (st' := [.retAddr 0, .int (0), .int x2, .int x1, .ref 0]) (by decide +kernel) rfl) ?_
  refine ev_go0 (ev_one_pure (M := ev_Mlaw) (pc := 916) (i := .iload 4) (len := 2) (pc' := 918) (lv' := [(4, .int (0)), (3, .ref 723), (2, .ref 621), (1, .ref 0), (0, .retAddr 0)]) (st' := [.int (0), .retAddr 0, .int (0), .int x2, .int x1, .ref 0]) (by decide +kernel) rfl) ?_
  refine ev_go0 (ev_w_iconst (M := ev_Mlaw) (pc := 918) (k := 4) (v := 4) (by decide +kernel) (by decide +kernel)) ?_
  refine ev_go0 (ev_w_iadd (M := ev_Mlaw) (pc := 919) (v := (4)) (by decide +kernel) (by decide +kernel)) ?_
  refine ev_go0 (ev_w_scr (M := ev_Mlaw) (pc := 920) (v := x4) (j := 4) (by decide +kernel) (by decide +kernel) (by decide +kernel) e4) ?_
  refine ev_go0 (ev_one_pure (M := ev_Mlaw) (pc := 921) (i := .aload_n 0) (len := 1) (pc' := 922) (lv' := [(4, .int (0)), (3, .ref 723), (2, .ref 621), (1, .ref 0), (0, .retAddr 0)]) (st' := [.retAddr 0, .int x4, .int (0), .int x2, .int x1, .ref 0]) (by decide +kernel) rfl) ?_
  refine ev_go0 (ev_one_pure (M := ev_Mlaw) (pc := 922) (i := .iload 4) (len := 2) (pc' := 924) (lv' := [(4, .int (0)), (3, .ref 723), (2, .ref 621), (1, .ref 0), (0, .retAddr 0)]) (st' := [.int (0), .retAddr 0, .int x4, .int (0), .int x2, .int x1, .ref 0]) (by decide +kernel) rfl) ?_
  refine ev_go0 (ev_w_iconst (M := ev_Mlaw) (pc := 924) (k := 5) (v := 5) (by decide +kernel) (by decide +kernel)) ?_
  refine ev_go0 (ev_w_iadd (M := ev_Mlaw) (pc := 925) (v := (5)) (by decide +kernel) (by decide +kernel)) ?_
  refine ev_go0 (ev_w_scr (M := ev_Mlaw) (pc := 926) (v := x5) (j := 5) (by decide +kernel) (by decide +kernel) (by decide +kernel) e5) ?_
  refine ev_go0 (ev_one_pure (M := ev_Mlaw) (pc := 927) (i := .aload_n 3) (len := 1) (pc' := 928) (lv' := [(4, .int (0)), (3, .ref 723), (2, .ref 621), (1, .ref 0), (0, .retAddr 0)]) (st' := [.ref 723, .int x5, .int x4, .int (0), .int x2, .int x1, .ref 0]) (by decide +kernel) rfl) ?_
  refine ev_go (ev_w_stat (M := ev_Mlaw) (pc := 928) (y := 171) (kind := 8) (Or.inr (Or.inr rfl)) (mi := 375) (na := 7) (by decide +kernel) (by decide +kernel) (by decide +kernel) (by decide +kernel) rfl rfl (ev_k216 x1 x2 hl_x2 x4 x5)) ?_
  refine ev_go0 (ev_w_istore (M := ev_Mlaw) (pc := 931) (k := 5) (lv' := [(5, .int (1)), (4, .int (0)), (3, .ref 723), (2, .ref 621), (1, .ref 0), (0, .retAddr 0)]) (by decide +kernel) (by decide +kernel) rfl) ?_
  refine ev_go0 (ev_one_pure (M := ev_Mlaw) (pc := 933) (i := .aload_n 2) (len := 1) (pc' := 934) (lv' := [(5, .int (1)), (4, .int (0)), (3, .ref 723), (2, .ref 621), (1, .ref 0), (0, .retAddr 0)]) (st' := [.ref 621]) (by decide +kernel) rfl) ?_
  refine ev_go0 (ev_one_pure (M := ev_Mlaw) (pc := 934) (i := .aload_n 0) (len := 1) (pc' := 935) (lv' := [(5, .int (1)), (4, .int (0)), (3, .ref 723), (2, .ref 621), (1, .ref 0), (0, .retAddr 0)]) (st' := [.retAddr 0, .ref 621]) (by decide +kernel) rfl) ?_
  refine ev_go0 (ev_one_pure (M := ev_Mlaw) (pc := 935) (i := .iload 4) (len := 2) (pc' := 937) (lv' := [(5, .int (1)), (4, .int (0)), (3, .ref 723), (2, .ref 621), (1, .ref 0), (0, .retAddr 0)]) (st' := [.int (0), .retAddr 0, .ref 621]) (by decide +kernel) rfl) ?_
  refine ev_go0 (ev_w_iconst (M := ev_Mlaw) (pc := 937) (k := 1) (v := 1) (by decide +kernel) (by decide +kernel)) ?_
  refine ev_go0 (ev_w_iadd (M := ev_Mlaw) (pc := 938) (v := (1)) (by decide +kernel) (by decide +kernel)) ?_
  refine ev_go0 (ev_w_scr (M := ev_Mlaw) (pc := 939) (v := x1) (j := 1) (by decide +kernel) (by decide +kernel) (by decide +kernel) e1) ?_
  refine ev_go0 (ev_one_pure (M := ev_Mlaw) (pc := 940) (i := .aload_n 0) (len := 1) (pc' := 941) (lv' := [(5, .int (1)), (4, .int (0)), (3, .ref 723), (2, .ref 621), (1, .ref 0), (0, .retAddr 0)]) (st' := [.retAddr 0, .int x1, .ref 621]) (by decide +kernel) rfl) ?_
  refine ev_go0 (ev_one_pure (M := ev_Mlaw) (pc := 941) (i := .iload 4) (len := 2) (pc' := 943) (lv' := [(5, .int (1)), (4, .int (0)), (3, .ref 723), (2, .ref 621), (1, .ref 0), (0, .retAddr 0)]) (st' := [.int (0), .retAddr 0, .int x1, .ref 621]) (by decide +kernel) rfl) ?_
  refine ev_go0 (ev_w_iconst (M := ev_Mlaw) (pc := 943) (k := 2) (v := 2) (by decide +kernel) (by decide +kernel)) ?_
  refine ev_go0 (ev_w_iadd (M := ev_Mlaw) (pc := 944) (v := (2)) (by decide +kernel) (by decide +kernel)) ?_
  refine ev_go0 (ev_w_scr (M := ev_Mlaw) (pc := 945) (v := x2) (j := 2) (by decide +kernel) (by decide +kernel) (by decide +kernel) e2) ?_
  refine ev_go0 (ev_one_pure (M := ev_Mlaw) (pc := 946) (i := .aload_n 0) (len := 1) (pc' := 947) (lv' := [(5, .int (1)), (4, .int (0)), (3, .ref 723), (2, .ref 621), (1, .ref 0), (0, .retAddr 0)]) (st' := [.retAddr 0, .int x2, .int x1, .ref 621]) (by decide +kernel) rfl) ?_
  refine ev_go0 (ev_one_pure (M := ev_Mlaw) (pc := 947) (i := .iload 4) (len := 2) (pc' := 949) (lv' := [(5, .int (1)), (4, .int (0)), (3, .ref 723), (2, .ref 621), (1, .ref 0), (0, .retAddr 0)]) (st' := [.int (0), .retAddr 0, .int x2, .int x1, .ref 621]) (by decide +kernel) rfl) ?_
  refine ev_go0 (ev_w_iconst (M := ev_Mlaw) (pc := 949) (k := 3) (v := 3) (by decide +kernel) (by decide +kernel)) ?_
  refine ev_go0 (ev_w_iadd (M := ev_Mlaw) (pc := 950) (v := (3)) (by decide +kernel) (by decide +kernel)) ?_
  refine ev_go0 (ev_w_scr (M := ev_Mlaw) (pc := 951) (v := (0)) (j := 3) (by decide +kernel) (by decide +kernel) (by decide +kernel) e3) ?_
  refine ev_go0 (ev_one_pure (M := ev_Mlaw) (pc := 952) (i := .aload_n 0) (len := 1) (pc' := 953) (lv' := [(5, .int (1)), (4, .int (0)), (3, .ref 723), (2, .ref 621), (1, .ref 0), (0, .retAddr 0)]) (st' := [.retAddr 0, .int (0), .int x2, .int x1, .ref 621]) (by decide +kernel) rfl) ?_
  refine ev_go0 (ev_one_pure (M := ev_Mlaw) (pc := 953) (i := .iload 4) (len := 2) (pc' := 955) (lv' := [(5, .int (1)), (4, .int (0)), (3, .ref 723), (2, .ref 621), (1, .ref 0), (0, .retAddr 0)]) (st' := [.int (0), .retAddr 0, .int (0), .int x2, .int x1, .ref 621]) (by decide +kernel) rfl) ?_
  refine ev_go0 (ev_w_iconst (M := ev_Mlaw) (pc := 955) (k := 4) (v := 4) (by decide +kernel) (by decide +kernel)) ?_
  refine ev_go0 (ev_w_iadd (M := ev_Mlaw) (pc := 956) (v := (4)) (by decide +kernel) (by decide +kernel)) ?_
  refine ev_go0 (ev_w_scr (M := ev_Mlaw) (pc := 957) (v := x4) (j := 4) (by decide +kernel) (by decide +kernel) (by decide +kernel) e4) ?_
  refine ev_go0 (ev_one_pure (M := ev_Mlaw) (pc := 958) (i := .aload_n 0) (len := 1) (pc' := 959) (lv' := [(5, .int (1)), (4, .int (0)), (3, .ref 723), (2, .ref 621), (1, .ref 0), (0, .retAddr 0)]) (st' := [.retAddr 0, .int x4, .int (0), .int x2, .int x1, .ref 621]) (by decide +kernel) rfl) ?_
  refine ev_go0 (ev_one_pure (M := ev_Mlaw) (pc := 959) (i := .iload 4) (len := 2) (pc' := 961) (lv' := [(5, .int (1)), (4, .int (0)), (3, .ref 723), (2, .ref 621), (1, .ref 0), (0, .retAddr 0)]) (st' := [.int (0), .retAddr 0, .int x4, .int (0), .int x2, .int x1, .ref 621]) (by decide +kernel) rfl) ?_
  refine ev_go0 (ev_w_iconst (M := ev_Mlaw) (pc := 961) (k := 5) (v := 5) (by decide +kernel) (by decide +kernel)) ?_
  refine ev_go0 (ev_w_iadd (M := ev_Mlaw) (pc := 962) (v := (5)) (by decide +kernel) (by decide +kernel)) ?_
  refine ev_go0 (ev_w_scr (M := ev_Mlaw) (pc := 963) (v := x5) (j := 5) (by decide +kernel) (by decide +kernel) (by decide +kernel) e5) ?_
  refine ev_go0 (ev_p_virt (M := ev_Mlaw) (pc := 964) (x := 174) (mi := 330) (na := 5) (by decide +kernel) (by decide +kernel) (by decide +kernel) (by decide +kernel) rfl rfl (ev_recv_of ev_fH621) (ev_k217 x1 x2 hl_x2 x4 x5)) ?_
  refine ev_go0 (ev_w_istore (M := ev_Mlaw) (pc := 967) (k := 6) (lv' := [(6, .int (0)), (5, .int (1)), (4, .int (0)), (3, .ref 723), (2, .ref 621), (1, .ref 0), (0, .retAddr 0)]) (by decide +kernel) (by decide +kernel) rfl) ?_
  refine ev_go0 (ev_one_pure (M := ev_Mlaw) (pc := 969) (i := .aload_n 2) (len := 1) (pc' := 970) (lv' := [(6, .int (0)), (5, .int (1)), (4, .int (0)), (3, .ref 723), (2, .ref 621), (1, .ref 0), (0, .retAddr 0)]) (st' := [.ref 621]) (by decide +kernel) rfl) ?_
  refine ev_go0 (ev_p_virt (M := ev_Mlaw) (pc := 970) (x := 131) (mi := 220) (na := 0) (by decide +kernel) (by decide +kernel) (by decide +kernel) (by decide +kernel) rfl rfl (ev_recv_of (ev_hself ev_fH621)) ev_k26) ?_
  refine ev_go0 (ev_one_pure (M := ev_Mlaw) (pc := 973) (i := .iload 5) (len := 2) (pc' := 975) (lv' := [(6, .int (0)), (5, .int (1)), (4, .int (0)), (3, .ref 723), (2, .ref 621), (1, .ref 0), (0, .retAddr 0)]) (st' := [.int (1), .int (1)]) (by decide +kernel) rfl) ?_
  refine ev_go0 (ev_w_icmp (M := ev_Mlaw) (pc := 975) (q := .eq) (o := 5) (b := true) (t := 980) (by decide +kernel) (by decide +kernel) rfl) ?_
  refine ev_go0 (ev_one_pure (M := ev_Mlaw) (pc := 980) (i := .iload 5) (len := 2) (pc' := 982) (lv' := [(6, .int (0)), (5, .int (1)), (4, .int (0)), (3, .ref 723), (2, .ref 621), (1, .ref 0), (0, .retAddr 0)]) (st' := [.int (1)]) (by decide +kernel) rfl) ?_
  refine ev_go0 (ev_w_if (M := ev_Mlaw) (pc := 982) (q := .ne) (o := 15) (b := true) (t := 997) (by decide +kernel) (by decide +kernel) rfl) ?_
  refine ev_go0 (ev_one_pure (M := ev_Mlaw) (pc := 997) (i := .goto 1275) (len := 3) (pc' := 2272) (lv' := [(6, .int (0)), (5, .int (1)), (4, .int (0)), (3, .ref 723), (2, .ref 621), (1, .ref 0), (0, .retAddr 0)]) (st' := []) (by decide +kernel) rfl) ?_
  rfl
theorem ev_k218 (x2 : Int32) (hl_x2 : (0 : Int) ≤ x2.toInt) (x4 : Int32) (x5 : Int32) {n : Nat} : ev_calld 10 203 [.ref 0, .int x2, .int (1), .int x4, .int x5] ev_H0 n = some (.inl (some (.int (0))), ev_H0, n, 0, 0) := by
  refine ev_call_int (k := 12) (pcR := 60) (lv' := [(6, .ref 265), (5, .null), (0, .ref 0), (1, .int x2), (2, .int (1)), (3, .int x4), (4, .int x5)]) (v := (0)) (ty := .boolean) (by decide +kernel) rfl ?_ (by decide +kernel) (by decide +kernel) (by decide +kernel) (by decide)
  show ev_stepn _ 12 (0, [(0, .ref 0), (1, .int x2), (2, .int (1)), (3, .int x4), (4, .int x5)], [], _, _, 0, 0) = _
  refine ev_go0 (ev_one_pure (M := (ev_Mof 203)) (pc := 0) (i := .aload_n 0) (len := 1) (pc' := 1) (lv' := [(0, .ref 0), (1, .int x2), (2, .int (1)), (3, .int x4), (4, .int x5)]) (st' := [.ref 0]) (by decide +kernel) rfl) ?_
  refine ev_go0 (ev_one_pure (M := (ev_Mof 203)) (pc := 1) (i := .iload_n 1) (len := 1) (pc' := 2) (lv' := [(0, .ref 0), (1, .int x2), (2, .int (1)), (3, .int x4), (4, .int x5)]) (st' := [.int x2, .ref 0]) (by decide +kernel) rfl) ?_
  refine ev_go0 (ev_p_virt (M := (ev_Mof 203)) (pc := 2) (x := 156) (mi := 200) (na := 1) (by decide +kernel) (by decide +kernel) (by decide +kernel) (by decide +kernel) rfl rfl (ev_recv_of ev_fH0) (ev_k207 x2 hl_x2)) ?_
  refine ev_go0 (ev_w_astore (M := (ev_Mof 203)) (pc := 5) (k := 5) (lv' := [(5, .null), (0, .ref 0), (1, .int x2), (2, .int (1)), (3, .int x4), (4, .int x5)]) (by decide +kernel) (by decide +kernel) (Or.inr (Or.inl rfl)) rfl) ?_
  refine ev_go0 (ev_one_pure (M := (ev_Mof 203)) (pc := 7) (i := .aload_n 0) (len := 1) (pc' := 8) (lv' := [(5, .null), (0, .ref 0), (1, .int x2), (2, .int (1)), (3, .int x4), (4, .int x5)]) (st' := [.ref 0]) (by decide +kernel) rfl) ?_
  refine ev_go0 (ev_p_getf (M := (ev_Mof 203)) (pc := 8) (x := 48) (ci := 12) (f := 8) (fin := 1) (v := .ref 254) (by decide +kernel) (by decide +kernel) ev_fH0 rfl) ?_
  refine ev_go0 (ev_one_pure (M := (ev_Mof 203)) (pc := 11) (i := .iload_n 2) (len := 1) (pc' := 12) (lv' := [(5, .null), (0, .ref 0), (1, .int x2), (2, .int (1)), (3, .int x4), (4, .int x5)]) (st' := [.int (1), .ref 254]) (by decide +kernel) rfl) ?_
  refine ev_go0 (ev_p_virt (M := (ev_Mof 203)) (pc := 12) (x := 221) (mi := 1) (na := 1) (by decide +kernel) (by decide +kernel) (by decide +kernel) (by decide +kernel) rfl rfl (ev_recv_of ev_fH254) ev_k102) ?_
  refine ev_go0 (ev_w_astore (M := (ev_Mof 203)) (pc := 15) (k := 6) (lv' := [(6, .ref 265), (5, .null), (0, .ref 0), (1, .int x2), (2, .int (1)), (3, .int x4), (4, .int x5)]) (by decide +kernel) (by decide +kernel) (Or.inl ⟨_, rfl⟩) rfl) ?_
  refine ev_go0 (ev_one_pure (M := (ev_Mof 203)) (pc := 17) (i := .aload 5) (len := 2) (pc' := 19) (lv' := [(6, .ref 265), (5, .null), (0, .ref 0), (1, .int x2), (2, .int (1)), (3, .int x4), (4, .int x5)]) (st' := [.null]) (by decide +kernel) rfl) ?_
  refine ev_go0 (ev_w_ifnull (M := (ev_Mof 203)) (pc := 19) (o := 40) (t := 59) (by decide +kernel) (Or.inl ⟨rfl, rfl⟩)) ?_
  refine ev_go0 (ev_w_iconst (M := (ev_Mof 203)) (pc := 59) (k := 0) (v := 0) (by decide +kernel) (by decide +kernel)) ?_
  rfl
theorem ev_k219 (x1 : Int32) (x2 : Int32) (hl_x2 : (0 : Int) ≤ x2.toInt) (x4 : Int32) (x5 : Int32) {n : Nat} : ev_calld 11 178 [.ref 0, .int x1, .int x2, .int (1), .int x4, .int x5] ev_H0 n = some (.inr "java/lang/IndexOutOfBoundsException", ev_H0, n, 1, 6) := by
  refine ev_call_thrown (k := 7) (pcR := 13) (x := 160) (lv' := [(0, .ref 0), (1, .int x1), (2, .int x2), (3, .int (1)), (4, .int x4), (5, .int x5)]) (by decide +kernel) rfl ?_ (by decide +kernel) (by decide +kernel) (by decide +kernel) (by decide) (by decide)
  show ev_stepn _ 7 (0, [(0, .ref 0), (1, .int x1), (2, .int x2), (3, .int (1)), (4, .int x4), (5, .int x5)], [], _, _, 0, 0) = _
  refine ev_go0 (ev_one_pure (M := (ev_Mof 178)) (pc := 0) (i := .aload_n 0) (len := 1) (pc' := 1) (lv' := [(0, .ref 0), (1, .int x1), (2, .int x2), (3, .int (1)), (4, .int x4), (5, .int x5)]) (st' := [.ref 0]) (by decide +kernel) rfl) ?_
  refine ev_go0 (ev_one_pure (M := (ev_Mof 178)) (pc := 1) (i := .iload_n 2) (len := 1) (pc' := 2) (lv' := [(0, .ref 0), (1, .int x1), (2, .int x2), (3, .int (1)), (4, .int x4), (5, .int x5)]) (st' := [.int x2, .ref 0]) (by decide +kernel) rfl) ?_
  refine ev_go0 (ev_one_pure (M := (ev_Mof 178)) (pc := 2) (i := .iload_n 3) (len := 1) (pc' := 3) (lv' := [(0, .ref 0), (1, .int x1), (2, .int x2), (3, .int (1)), (4, .int x4), (5, .int x5)]) (st' := [.int (1), .int x2, .ref 0]) (by decide +kernel) rfl) ?_
  refine ev_go0 (ev_one_pure (M := (ev_Mof 178)) (pc := 3) (i := .iload 4) (len := 2) (pc' := 5) (lv' := [(0, .ref 0), (1, .int x1), (2, .int x2), (3, .int (1)), (4, .int x4), (5, .int x5)]) (st' := [.int x4, .int (1), .int x2, .ref 0]) (by decide +kernel) rfl) ?_
  refine ev_go0 (ev_one_pure (M := (ev_Mof 178)) (pc := 5) (i := .iload 5) (len := 2) (pc' := 7) (lv' := [(0, .ref 0), (1, .int x1), (2, .int x2), (3, .int (1)), (4, .int x4), (5, .int x5)]) (st' := [.int x5, .int x4, .int (1), .int x2, .ref 0]) (by decide +kernel) rfl) ?_
  refine ev_go0 (ev_p_virt (M := (ev_Mof 178)) (pc := 7) (x := 205) (mi := 203) (na := 4) (by decide +kernel) (by decide +kernel) (by decide +kernel) (by decide +kernel) rfl rfl (ev_recv_of ev_fH0) (ev_k218 x2 hl_x2 x4 x5)) ?_
  refine ev_go0 (ev_w_if (M := (ev_Mof 178)) (pc := 10) (q := .ne) (o := 13) (b := false) (t := 13) (by decide +kernel) (by decide +kernel) rfl) ?_
  rfl
theorem ev_k220 (x1 : Int32) (x2 : Int32) (hl_x2 : (0 : Int) ≤ x2.toInt) (x4 : Int32) (x5 : Int32) {n : Nat} : ev_calld 12 375 [.ref 0, .int x1, .int x2, .int (1), .int x4, .int x5, .ref 723] ev_H0 n = some (.inl (some (.int (1))), ev_H0, n, 1, 6) := by
  refine ev_call_int (k := 11) (pcR := 22) (lv' := [(7, .retAddr 1), (0, .ref 0), (1, .int x1), (2, .int x2), (3, .int (1)), (4, .int x4), (5, .int x5), (6, .ref 723)]) (v := (1)) (ty := .int) (by decide +kernel) rfl ?_ (by decide +kernel) (by decide +kernel) (by decide +kernel) (by decide)
  show ev_stepn _ 11 (0, [(0, .ref 0), (1, .int x1), (2, .int x2), (3, .int (1)), (4, .int x4), (5, .int x5), (6, .ref 723)], [], _, _, 0, 0) = _
  refine ev_go0 (ev_one_pure (M := (ev_Mof 375)) (pc := 0) (i := .aload 6) (len := 2) (pc' := 2) (lv' := [(0, .ref 0), (1, .int x1), (2, .int x2), (3, .int (1)), (4, .int x4), (5, .int x5), (6, .ref 723)]) (st' := [.ref 723]) (by decide +kernel) rfl) ?_
  refine ev_go0 (ev_w_iconst (M := (ev_Mof 375)) (pc := 2) (k := 0) (v := 0) (by decide +kernel) (by decide +kernel)) ?_
  refine ev_go0 (ev_one_pure (M := (ev_Mof 375)) (pc := 3) (i := .aload_n 0) (len := 1) (pc' := 4) (lv' := [(0, .ref 0), (1, .int x1), (2, .int x2), (3, .int (1)), (4, .int x4), (5, .int x5), (6, .ref 723)]) (st' := [.ref 0, .int (0), .ref 723]) (by decide +kernel) rfl) ?_
  refine ev_go0 (ev_one_pure (M := (ev_Mof 375)) (pc := 4) (i := .iload_n 1) (len := 1) (pc' := 5) (lv' := [(0, .ref 0), (1, .int x1), (2, .int x2), (3, .int (1)), (4, .int x4), (5, .int x5), (6, .ref 723)]) (st' := [.int x1, .ref 0, .int (0), .ref 723]) (by decide +kernel) rfl) ?_
  refine ev_go0 (ev_one_pure (M := (ev_Mof 375)) (pc := 5) (i := .iload_n 2) (len := 1) (pc' := 6) (lv' := [(0, .ref 0), (1, .int x1), (2, .int x2), (3, .int (1)), (4, .int x4), (5, .int x5), (6, .ref 723)]) (st' := [.int x2, .int x1, .ref 0, .int (0), .ref 723]) (by decide +kernel) rfl) ?_
  refine ev_go0 (ev_one_pure (M := (ev_Mof 375)) (pc := 6) (i := .iload_n 3) (len := 1) (pc' := 7) (lv' := [(0, .ref 0), (1, .int x1), (2, .int x2), (3, .int (1)), (4, .int x4), (5, .int x5), (6, .ref 723)]) (st' := [.int (1), .int x2, .int x1, .ref 0, .int (0), .ref 723]) (by decide +kernel) rfl) ?_
  refine ev_go0 (ev_one_pure (M := (ev_Mof 375)) (pc := 7) (i := .iload 4) (len := 2) (pc' := 9) (lv' := [(0, .ref 0), (1, .int x1), (2, .int x2), (3, .int (1)), (4, .int x4), (5, .int x5), (6, .ref 723)]) (st' := [.int x4, .int (1), .int x2, .int x1, .ref 0, .int (0), .ref 723]) (by decide +kernel) rfl) ?_
  refine ev_go0 (ev_one_pure (M := (ev_Mof 375)) (pc := 9) (i := .iload 5) (len := 2) (pc' := 11) (lv' := [(0, .ref 0), (1, .int x1), (2, .int x2), (3, .int (1)), (4, .int x4), (5, .int x5), (6, .ref 723)]) (st' := [.int x5, .int x4, .int (1), .int x2, .int x1, .ref 0, .int (0), .ref 723]) (by decide +kernel) rfl) ?_
  refine ev_go (ev_p_virtX (M := (ev_Mof 375)) (pc := 11) (x := 53) (t := 19) (mi := 178) (na := 5) (by decide +kernel) (by decide +kernel) (by decide +kernel) (by decide +kernel) rfl rfl (ev_recv_of ev_fH0) (ev_k219 x1 x2 hl_x2 x4 x5) (by decide +kernel)) ?_
  refine ev_go0 (ev_w_astore (M := (ev_Mof 375)) (pc := 19) (k := 7) (lv' := [(7, .retAddr 1), (0, .ref 0), (1, .int x1), (2, .int x2), (3, .int (1)), (4, .int x4), (5, .int x5), (6, .ref 723)]) (by decide +kernel) (by decide +kernel) (Or.inr (Or.inr ⟨_, rfl⟩)) rfl) ?_
  refine ev_go0 (ev_w_iconst (M := (ev_Mof 375)) (pc := 21) (k := 1) (v := 1) (by decide +kernel) (by decide +kernel)) ?_
  rfl
theorem ev_k221 (x1 : Int32) (x2 : Int32) (hl_x2 : (0 : Int) ≤ x2.toInt) (x4 : Int32) (x5 : Int32) {n : Nat} : ev_calld 12 330 [.ref 621, .int x1, .int x2, .int (1), .int x4, .int x5] ev_H0 n = some (.inl (some (.int (0))), (ev_H0.set 621 (.inr (13, (ev_F621.set 0 (.int (1)))))), n, 0, 0) := by
  refine ev_call_int (k := 12) (pcR := 63) (lv' := [(0, .ref 621), (1, .int x1), (2, .int x2), (3, .int (1)), (4, .int x4), (5, .int x5)]) (v := (0)) (ty := .int) (by decide +kernel) rfl ?_ (by decide +kernel) (by decide +kernel) (by decide +kernel) (by decide)
  show ev_stepn _ 12 (0, [(0, .ref 621), (1, .int x1), (2, .int x2), (3, .int (1)), (4, .int x4), (5, .int x5)], [], _, _, 0, 0) = _
  refine ev_go0 (ev_one_pure (M := (ev_Mof 330)) (pc := 0) (i := .aload_n 0) (len := 1) (pc' := 1) (lv' := [(0, .ref 621), (1, .int x1), (2, .int x2), (3, .int (1)), (4, .int x4), (5, .int x5)]) (st' := [.ref 621]) (by decide +kernel) rfl) ?_
  refine ev_go0 (ev_one_pure (M := (ev_Mof 330)) (pc := 1) (i := .aload_n 0) (len := 1) (pc' := 2) (lv' := [(0, .ref 621), (1, .int x1), (2, .int x2), (3, .int (1)), (4, .int x4), (5, .int x5)]) (st' := [.ref 621, .ref 621]) (by decide +kernel) rfl) ?_
  refine ev_go0 (ev_one_pure (M := (ev_Mof 330)) (pc := 2) (i := .iload_n 2) (len := 1) (pc' := 3) (lv' := [(0, .ref 621), (1, .int x1), (2, .int x2), (3, .int (1)), (4, .int x4), (5, .int x5)]) (st' := [.int x2, .ref 621, .ref 621]) (by decide +kernel) rfl) ?_
  refine ev_go0 (ev_p_virt (M := (ev_Mof 330)) (pc := 3) (x := 531) (mi := 273) (na := 1) (by decide +kernel) (by decide +kernel) (by decide +kernel) (by decide +kernel) rfl rfl (ev_recv_of ev_fH621) (ev_k212 x2 hl_x2)) ?_
  refine ev_go0 (ev_w_if (M := (ev_Mof 330)) (pc := 6) (q := .eq) (o := 28) (b := true) (t := 34) (by decide +kernel) (by decide +kernel) rfl) ?_
  refine ev_go0 (ev_w_iconst (M := (ev_Mof 330)) (pc := 34) (k := 1) (v := 1) (by decide +kernel) (by decide +kernel)) ?_
  refine ev_go0 (ev_one_pure (M := (ev_Mof 330)) (pc := 35) (i := .goto 17) (len := 3) (pc' := 52) (lv' := [(0, .ref 621), (1, .int x1), (2, .int x2), (3, .int (1)), (4, .int x4), (5, .int x5)]) (st' := [.int (1), .ref 621]) (by decide +kernel) rfl) ?_
  refine ev_go0 (ev_p_putf (M := (ev_Mof 330)) (pc := 52) (x := 321) (ci := 13) (f := 0) (by decide +kernel) (by decide +kernel) ev_fH621 rfl (by decide +kernel)) ?_
  refine ev_go0 (ev_one_pure (M := (ev_Mof 330)) (pc := 55) (i := .aload_n 0) (len := 1) (pc' := 56) (lv' := [(0, .ref 621), (1, .int x1), (2, .int x2), (3, .int (1)), (4, .int x4), (5, .int x5)]) (st' := [.ref 621]) (by decide +kernel) rfl) ?_
  refine ev_go0 (ev_p_getf (M := (ev_Mof 330)) (pc := 56) (x := 321) (ci := 13) (f := 0) (fin := 0) (v := .int (1)) (by decide +kernel) (by decide +kernel) (ev_hself ev_fH621) rfl) ?_
  refine ev_go0 (ev_w_if (M := (ev_Mof 330)) (pc := 59) (q := .le) (o := 5) (b := false) (t := 62) (by decide +kernel) (by decide +kernel) rfl) ?_
  refine ev_go0 (ev_w_iconst (M := (ev_Mof 330)) (pc := 62) (k := 0) (v := 0) (by decide +kernel) (by decide +kernel)) ?_
  rfl
theorem ev_p1_12_p1 (xs : Nat → Int32) (x1 : Int32) (x2 : Int32) (hl_x2 : (0 : Int) ≤ x2.toInt) (x4 : Int32) (x5 : Int32) (e1 : xs 1 = x1) (e2 : xs 2 = x2) (e3 : xs 3 = (1)) (e4 : xs 4 = x4) (e5 : xs 5 = x5) : ev_P1 xs 896 := by
  refine ⟨64, [(6, .int (0)), (5, .int (1)), (4, .int (0)), (3, .ref 723), (2, .ref 621), (1, .ref 0), (0, .retAddr 0)], (ev_H0.set 621 (.inr (13, (ev_F621.set 0 (.int (1)))))), 724, 725, 3553592, ?_, ⟨rfl, rfl, rfl, rfl⟩, rfl, by decide, by decide⟩
  show ev_stepn _ _ (896, [(4, .int (0)), (3, .ref 723), (2, .ref 621), (1, .ref 0), (0, .retAddr 0)], [], _, _, _, _) = _
  refine ev_go0 (ev_one_pure (M := ev_Mlaw) (pc := 896) (i := .aload_n 1) (len := 1) (pc' := 897) (lv' := [(4, .int (0)), (3, .ref 723), (2, .ref 621), (1, .ref 0), (0, .retAddr 0)]) (st' := [.ref 0]) (by decide +kernel) rfl) ?_
  refine ev_go0 (ev_one_pure (M := ev_Mlaw) (pc := 897) (i := .aload_n 0) (len := 1) (pc' := 898) (lv' := [(4, .int (0)), (3, .ref 723), (2, .ref 621), (1, .ref 0), (0, .retAddr 0)]) (st' := [.retAddr 0, .ref 0]) (by decide +kernel) rfl) ?_
  refine ev_go0 (ev_one_pure (M := ev_Mlaw) (pc := 898) (i := .iload 4) (len := 2) (pc' := 900) (lv' := [(4, .int (0)), (3, .ref 723), (2, .ref 621), (1, .ref 0), (0, .retAddr 0)]) (st' := [.int (0), .retAddr 0, .ref 0]) (by decide +kernel) rfl) ?_
  refine ev_go0 (ev_w_iconst (M := ev_Mlaw) (pc := 900) (k := 1) (v := 1) (by decide +kernel) (by decide +kernel)) ?_
  refine ev_go0 (ev_w_iadd (M := ev_Mlaw) (pc := 901) (v := (1)) (by decide +kernel) (by decide +kernel)) ?_
  refine ev_go0 (ev_w_scr (M := ev_Mlaw) (pc := 902) (v := x1) (j := 1) (by decide +kernel) (by decide +kernel) (by decide +kernel) e1) ?_
  refine ev_go0 (ev_one_pure (M := ev_Mlaw) (pc := 903) (i := .aload_n 0) (len := 1) (pc' := 904) (lv' := [(4, .int (0)), (3, .ref 723), (2, .ref 621), (1, .ref 0), (0, .retAddr 0)]) (st' := [.retAddr 0, .int x1, .ref 0]) (by decide +kernel) rfl) ?_
  refine ev_go0 (ev_one_pure (M := ev_Mlaw) (pc := 904) (i := .iload 4) (len := 2) (pc' := 906) (lv' := [(4, .int (0)), (3, .ref 723), (2, .ref 621), (1, .ref 0), (0, .retAddr 0)]) (st' := [.int (0), .retAddr 0, .int x1, .ref 0]) (by decide +kernel) rfl) ?_
  refine ev_go0 (ev_w_iconst (M := ev_Mlaw) (pc := 906) (k := 2) (v := 2) (by decide +kernel) (by decide +kernel)) ?_
  refine ev_go0 (ev_w_iadd (M := ev_Mlaw) (pc := 907) (v := (2)) (by decide +kernel) (by decide +kernel)) ?_
  refine ev_go0 (ev_w_scr (M := ev_Mlaw) (pc := 908) (v := x2) (j := 2) (by decide +kernel) (by decide +kernel) (by decide +kernel) e2) ?_
  refine ev_go0 (ev_one_pure (M := ev_Mlaw) (pc := 909) (i := .aload_n 0) (len := 1) (pc' := 910) (lv' := [(4, .int (0)), (3, .ref 723), (2, .ref 621), (1, .ref 0), (0, .retAddr 0)]) (st' := [.retAddr 0, .int x2, .int x1, .ref 0]) (by decide +kernel) rfl) ?_
  refine ev_go0 (ev_one_pure (M := ev_Mlaw) (pc := 910) (i := .iload 4) (len := 2) (pc' := 912) (lv' := [(4, .int (0)), (3, .ref 723), (2, .ref 621), (1, .ref 0), (0, .retAddr 0)]) (st' := [.int (0), .retAddr 0, .int x2, .int x1, .ref 0]) (by decide +kernel) rfl) ?_
  refine ev_go0 (ev_w_iconst (M := ev_Mlaw) (pc := 912) (k := 3) (v := 3) (by decide +kernel) (by decide +kernel)) ?_
  refine ev_go0 (ev_w_iadd (M := ev_Mlaw) (pc := 913) (v := (3)) (by decide +kernel) (by decide +kernel)) ?_
  refine ev_go0 (ev_w_scr (M := ev_Mlaw) (pc := 914) (v := (1)) (j := 3) (by decide +kernel) (by decide +kernel) (by decide +kernel) e3) ?_
  refine ev_go0 (ev_one_pure (M := ev_Mlaw) (pc := 915) (i := .aload_n 0) (len := 1) (pc' := 916) (lv' := [(4, .int (0)), (3, .ref 723), (2, .ref 621), (1, .ref 0), (0, .retAddr 0)]) (st' := [.retAddr 0, .int (1), .int x2, .int x1, .ref 0]) (by decide +kernel) rfl) ?_
  refine ev_go0 (ev_one_pure (M := ev_Mlaw) (pc := 916) (i := .iload 4) (len := 2) (pc' := 918) (lv' := [(4, .int (0)), (3, .ref 723), (2, .ref 621), (1, .ref 0), (0, .retAddr 0)]) (st' := [.int (0), .retAddr 0, .int (1), .int x2, .int x1, .ref 0]) (by decide +kernel) rfl) ?_
  refine ev_go0 (ev_w_iconst (M := ev_Mlaw) (pc := 918) (k := 4) (v := 4) (by decide +kernel) (by decide +kernel)) ?_
  refine ev_go0 (ev_w_iadd (M := ev_Mlaw) (pc := 919) (v := (4)) (by decide +kernel) (by decide +kernel)) ?_
  refine ev_go0 (ev_w_scr (M := ev_Mlaw) (pc := 920) (v := x4) (j := 4) (by decide +kernel) (by decide +kernel) (by decide +kernel) e4) ?_
  refine ev_go0 (ev_one_pure (M := ev_Mlaw) (pc := 921) (i := .aload_n 0) (len := 1) (pc' := 922) (lv' := [(4, .int (0)), (3, .ref 723), (2, .ref 621), (1, .ref 0), (0, .retAddr 0)]) (st' := [.retAddr 0, .int x4, .int (1), .int x2, .int x1, .ref 0]) (by decide +kernel) rfl) ?_
  refine ev_go0 (ev_one_pure (M := ev_Mlaw) (pc := 922) (i := .iload 4) (len := 2) (pc' := 924) (lv' := [(4, .int (0)), (3, .ref 723), (2, .ref 621), (1, .ref 0), (0, .retAddr 0)]) (st' := [.int (0), .retAddr 0, .int x4, .int (1), .int x2, .int x1, .ref 0]) (by decide +kernel) rfl) ?_
  refine ev_go0 (ev_w_iconst (M := ev_Mlaw) (pc := 924) (k := 5) (v := 5) (by decide +kernel) (by decide +kernel)) ?_
  refine ev_go0 (ev_w_iadd (M := ev_Mlaw) (pc := 925) (v := (5)) (by decide +kernel) (by decide +kernel)) ?_
  refine ev_go0 (ev_w_scr (M := ev_Mlaw) (pc := 926) (v := x5) (j := 5) (by decide +kernel) (by decide +kernel) (by decide +kernel) e5) ?_
  refine ev_go0 (ev_one_pure (M := ev_Mlaw) (pc := 927) (i := .aload_n 3) (len := 1) (pc' := 928) (lv' := [(4, .int (0)), (3, .ref 723), (2, .ref 621), (1, .ref 0), (0, .retAddr 0)]) (st' := [.ref 723, .int x5, .int x4, .int (1), .int x2, .int x1, .ref 0]) (by decide +kernel) rfl) ?_
  refine ev_go (ev_w_stat (M := ev_Mlaw) (pc := 928) (y := 171) (kind := 8) (Or.inr (Or.inr rfl)) (mi := 375) (na := 7) (by decide +kernel) (by decide +kernel) (by decide +kernel) (by decide +kernel) rfl rfl (ev_k220 x1 x2 hl_x2 x4 x5)) ?_
  refine ev_go0 (ev_w_istore (M := ev_Mlaw) (pc := 931) (k := 5) (lv' := [(5, .int (1)), (4, .int (0)), (3, .ref 723), (2, .ref 621), (1, .ref 0), (0, .retAddr 0)]) (by decide +kernel) (by decide +kernel) rfl) ?_
  refine ev_go0 (ev_one_pure (M := ev_Mlaw) (pc := 933) (i := .aload_n 2) (len := 1) (pc' := 934) (lv' := [(5, .int (1)), (4, .int (0)), (3, .ref 723), (2, .ref 621), (1, .ref 0), (0, .retAddr 0)]) (st' := [.ref 621]) (by decide +kernel) rfl) ?_
  refine ev_go0 (ev_one_pure (M := ev_Mlaw) (pc := 934) (i := .aload_n 0) (len := 1) (pc' := 935) (lv' := [(5, .int (1)), (4, .int (0)), (3, .ref 723), (2, .ref 621), (1, .ref 0), (0, .retAddr 0)]) (st' := [.retAddr 0, .ref 621]) (by decide +kernel) rfl) ?_
  refine ev_go0 (ev_one_pure (M := ev_Mlaw) (pc := 935) (i := .iload 4) (len := 2) (pc' := 937) (lv' := [(5, .int (1)), (4, .int (0)), (3, .ref 723), (2, .ref 621), (1, .ref 0), (0, .retAddr 0)]) (st' := [.int (0), .retAddr 0, .ref 621]) (by decide +kernel) rfl) ?_
  refine ev_go0 (ev_w_iconst (M := ev_Mlaw) (pc := 937) (k := 1) (v := 1) (by decide +kernel) (by decide +kernel)) ?_
  refine ev_go0 (ev_w_iadd (M := ev_Mlaw) (pc := 938) (v := (1)) (by decide +kernel) (by decide +kernel)) ?_
  refine ev_go0 (ev_w_scr (M := ev_Mlaw) (pc := 939) (v := x1) (j := 1) (by decide +kernel) (by decide +kernel) (by decide +kernel) e1) ?_
  refine ev_go0 (ev_one_pure (M := ev_Mlaw) (pc := 940) (i := .aload_n 0) (len := 1) (pc' := 941) (lv' := [(5, .int (1)), (4, .int (0)), (3, .ref 723), (2, .ref 621), (1, .ref 0), (0, .retAddr 0)]) (st' := [.retAddr 0, .int x1, .ref 621]) (by decide +kernel) rfl) ?_
  refine ev_go0 (ev_one_pure (M := ev_Mlaw) (pc := 941) (i := .iload 4) (len := 2) (pc' := 943) (lv' := [(5, .int (1)), (4, .int (0)), (3, .ref 723), (2, .ref 621), (1, .ref 0), (0, .retAddr 0)]) (st' := [.int (0), .retAddr 0, .int x1, .ref 621]) (by decide +kernel) rfl) ?_
  refine ev_go0 (ev_w_iconst (M := ev_Mlaw) (pc := 943) (k := 2) (v := 2) (by decide +kernel) (by decide +kernel)) ?_
  refine ev_go0 (ev_w_iadd (M := ev_Mlaw) (pc := 944) (v := (2)) (by decide +kernel) (by decide +kernel)) ?_
  refine ev_go0 (ev_w_scr (M := ev_Mlaw) (pc := 945) (v := x2) (j := 2) (by decide +kernel) (by decide +kernel) (by decide +kernel) e2) ?_
  refine ev_go0 (ev_one_pure (M := ev_Mlaw) (pc := 946) (i := .aload_n 0) (len := 1) (pc' := 947) (lv' := [(5, .int (1)), (4, .int (0)), (3, .ref 723), (2, .ref 621), (1, .ref 0), (0, .retAddr 0)]) (st' := [.retAddr 0, .int x2, .int x1, .ref 621]) (by decide +kernel) rfl) ?_
  refine ev_go0 (ev_one_pure (M := ev_Mlaw) (pc := 947) (i := .iload 4) (len := 2) (pc' := 949) (lv' := [(5, .int (1)), (4, .int (0)), (3, .ref 723), (2, .ref 621), (1, .ref 0), (0, .retAddr 0)]) (st' := [.int (0), .retAddr 0, .int x2, .int x1, .ref 621]) (by decide +kernel) rfl) ?_
  refine ev_go0 (ev_w_iconst (M := ev_Mlaw) (pc := 949) (k := 3) (v := 3) (by decide +kernel) (by decide +kernel)) ?_
  refine ev_go0 (ev_w_iadd (M := ev_Mlaw) (pc := 950) (v := (3)) (by decide +kernel) (by decide +kernel)) ?_
  refine ev_go0 (ev_w_scr (M := ev_Mlaw) (pc := 951) (v := (1)) (j := 3) (by decide +kernel) (by decide +kernel) (by decide +kernel) e3) ?_
  refine ev_go0 (ev_one_pure (M := ev_Mlaw) (pc := 952) (i := .aload_n 0) (len := 1) (pc' := 953) (lv' := [(5, .int (1)), (4, .int (0)), (3, .ref 723), (2, .ref 621), (1, .ref 0), (0, .retAddr 0)]) (st' := [.retAddr 0, .int (1), .int x2, .int x1, .ref 621]) (by decide +kernel) rfl) ?_
  refine ev_go0 (ev_one_pure (M := ev_Mlaw) (pc := 953) (i := .iload 4) (len := 2) (pc' := 955) (lv' := [(5, .int (1)), (4, .int (0)), (3, .ref 723), (2, .ref 621), (1, .ref 0), (0, .retAddr 0)]) (st' := [.int (0), .retAddr 0, .int (1), .int x2, .int x1, .ref 621]) (by decide +kernel) rfl) ?_
  refine ev_go0 (ev_w_iconst (M := ev_Mlaw) (pc := 955) (k := 4) (v := 4) (by decide +kernel) (by decide +kernel)) ?_
  refine ev_go0 (ev_w_iadd (M := ev_Mlaw) (pc := 956) (v := (4)) (by decide +kernel) (by decide +kernel)) ?_
  refine ev_go0 (ev_w_scr (M := ev_Mlaw) (pc := 957) (v := x4) (j := 4) (by decide +kernel) (by decide +kernel) (by decide +kernel) e4) ?_
  refine ev_go0 (ev_one_pure (M := ev_Mlaw) (pc := 958) (i := .aload_n 0) (len := 1) (pc' := 959) (lv' := [(5, .int (1)), (4, .int (0)), (3, .ref 723), (2, .ref 621), (1, .ref 0), (0, .retAddr 0)]) (st' := [.retAddr 0, .int x4, .int (1), .int x2, .int x1, .ref 621]) (by decide +kernel) rfl) ?_
  refine ev_go0 (ev_one_pure (M := ev_Mlaw) (pc := 959) (i := .iload 4) (len := 2) (pc' := 961) (lv' := [(5, .int (1)), (4, .int (0)), (3, .ref 723), (2, .ref 621), (1, .ref 0), (0, .retAddr 0)]) (st' := [.int (0), .retAddr 0, .int x4, .int (1), .int x2, .int x1, .ref 621]) (by decide +kernel) rfl) ?_
  refine ev_go0 (ev_w_iconst (M := ev_Mlaw) (pc := 961) (k := 5) (v := 5) (by decide +kernel) (by decide +kernel)) ?_
  refine ev_go0 (ev_w_iadd (M := ev_Mlaw) (pc := 962) (v := (5)) (by decide +kernel) (by decide +kernel)) ?_
  refine ev_go0 (ev_w_scr (M := ev_Mlaw) (pc := 963) (v := x5) (j := 5) (by decide +kernel) (by decide +kernel) (by decide +kernel) e5) ?_
  refine ev_go0 (ev_p_virt (M := ev_Mlaw) (pc := 964) (x := 174) (mi := 330) (na := 5) (by decide +kernel) (by decide +kernel) (by decide +kernel) (by decide +kernel) rfl rfl (ev_recv_of ev_fH621) (ev_k221 x1 x2 hl_x2 x4 x5)) ?_
  refine ev_go0 (ev_w_istore (M := ev_Mlaw) (pc := 967) (k := 6) (lv' := [(6, .int (0)), (5, .int (1)), (4, .int (0)), (3, .ref 723), (2, .ref 621), (1, .ref 0), (0, .retAddr 0)]) (by decide +kernel) (by decide +kernel) rfl) ?_
  refine ev_go0 (ev_one_pure (M := ev_Mlaw) (pc := 969) (i := .aload_n 2) (len := 1) (pc' := 970) (lv' := [(6, .int (0)), (5, .int (1)), (4, .int (0)), (3, .ref 723), (2, .ref 621), (1, .ref 0), (0, .retAddr 0)]) (st' := [.ref 621]) (by decide +kernel) rfl) ?_
  refine ev_go0 (ev_p_virt (M := ev_Mlaw) (pc := 970) (x := 131) (mi := 220) (na := 0) (by decide +kernel) (by decide +kernel) (by decide +kernel) (by decide +kernel) rfl rfl (ev_recv_of (ev_hself ev_fH621)) ev_k26) ?_
  refine ev_go0 (ev_one_pure (M := ev_Mlaw) (pc := 973) (i := .iload 5) (len := 2) (pc' := 975) (lv' := [(6, .int (0)), (5, .int (1)), (4, .int (0)), (3, .ref 723), (2, .ref 621), (1, .ref 0), (0, .retAddr 0)]) (st' := [.int (1), .int (1)]) (by decide +kernel) rfl) ?_
  refine ev_go0 (ev_w_icmp (M := ev_Mlaw) (pc := 975) (q := .eq) (o := 5) (b := true) (t := 980) (by decide +kernel) (by decide +kernel) rfl) ?_
  refine ev_go0 (ev_one_pure (M := ev_Mlaw) (pc := 980) (i := .iload 5) (len := 2) (pc' := 982) (lv' := [(6, .int (0)), (5, .int (1)), (4, .int (0)), (3, .ref 723), (2, .ref 621), (1, .ref 0), (0, .retAddr 0)]) (st' := [.int (1)]) (by decide +kernel) rfl) ?_
  refine ev_go0 (ev_w_if (M := ev_Mlaw) (pc := 982) (q := .ne) (o := 15) (b := true) (t := 997) (by decide +kernel) (by decide +kernel) rfl) ?_
  refine ev_go0 (ev_one_pure (M := ev_Mlaw) (pc := 997) (i := .goto 1275) (len := 3) (pc' := 2272) (lv' := [(6, .int (0)), (5, .int (1)), (4, .int (0)), (3, .ref 723), (2, .ref 621), (1, .ref 0), (0, .retAddr 0)]) (st' := []) (by decide +kernel) rfl) ?_
  rfl
theorem ev_k222 (x2 : Int32) (hl_x2 : (0 : Int) ≤ x2.toInt) (x4 : Int32) (x5 : Int32) {n : Nat} : ev_calld 10 203 [.ref 0, .int x2, .int (2), .int x4, .int x5] ev_H0 n = some (.inl (some (.int (0))), ev_H0, n, 0, 0) := by
  refine ev_call_int (k := 12) (pcR := 60) (lv' := [(6, .ref 267), (5, .null), (0, .ref 0), (1, .int x2), (2, .int (2)), (3, .int x4), (4, .int x5)]) (v := (0)) (ty := .boolean) (by decide +kernel) rfl ?_ (by decide +kernel) (by decide +kernel) (by decide +kernel) (by decide)
  show ev_stepn _ 12 (0, [(0, .ref 0), (1, .int x2), (2, .int (2)), (3, .int x4), (4, .int x5)], [], _, _, 0, 0) = _
  refine ev_go0 (ev_one_pure (M := (ev_Mof 203)) (pc := 0) (i := .aload_n 0) (len := 1) (pc' := 1) (lv' := [(0, .ref 0), (1, .int x2), (2, .int (2)), (3, .int x4), (4, .int x5)]) (st' := [.ref 0]) (by decide +kernel) rfl) ?_
  refine ev_go0 (ev_one_pure (M := (ev_Mof 203)) (pc := 1) (i := .iload_n 1) (len := 1) (pc' := 2) (lv' := [(0, .ref 0), (1, .int x2), (2, .int (2)), (3, .int x4), (4, .int x5)]) (st' := [.int x2, .ref 0]) (by decide +kernel) rfl) ?_
  refine ev_go0 (ev_p_virt (M := (ev_Mof 203)) (pc := 2) (x := 156) (mi := 200) (na := 1) (by decide +kernel) (by decide +kernel) (by decide +kernel) (by decide +kernel) rfl rfl (ev_recv_of ev_fH0) (ev_k207 x2 hl_x2)) ?_
  refine ev_go0 (ev_w_astore (M := (ev_Mof 203)) (pc := 5) (k := 5) (lv' := [(5, .null), (0, .ref 0), (1, .int x2), (2, .int (2)), (3, .int x4), (4, .int x5)]) (by decide +kernel) (by decide +kernel) (Or.inr (Or.inl rfl)) rfl) ?_
  refine ev_go0 (ev_one_pure (M := (ev_Mof 203)) (pc := 7) (i := .aload_n 0) (len := 1) (pc' := 8) (lv' := [(5, .null), (0, .ref 0), (1, .int x2), (2, .int (2)), (3, .int x4), (4, .int x5)]) (st' := [.ref 0]) (by decide +kernel) rfl) ?_
  refine ev_go0 (ev_p_getf (M := (ev_Mof 203)) (pc := 8) (x := 48) (ci := 12) (f := 8) (fin := 1) (v := .ref 254) (by decide +kernel) (by decide +kernel) ev_fH0 rfl) ?_
  refine ev_go0 (ev_one_pure (M := (ev_Mof 203)) (pc := 11) (i := .iload_n 2) (len := 1) (pc' := 12) (lv' := [(5, .null), (0, .ref 0), (1, .int x2), (2, .int (2)), (3, .int x4), (4, .int x5)]) (st' := [.int (2), .ref 254]) (by decide +kernel) rfl) ?_
  refine ev_go0 (ev_p_virt (M := (ev_Mof 203)) (pc := 12) (x := 221) (mi := 1) (na := 1) (by decide +kernel) (by decide +kernel) (by decide +kernel) (by decide +kernel) rfl rfl (ev_recv_of ev_fH254) ev_k107) ?_
  refine ev_go0 (ev_w_astore (M := (ev_Mof 203)) (pc := 15) (k := 6) (lv' := [(6, .ref 267), (5, .null), (0, .ref 0), (1, .int x2), (2, .int (2)), (3, .int x4), (4, .int x5)]) (by decide +kernel) (by decide +kernel) (Or.inl ⟨_, rfl⟩) rfl) ?_
  refine ev_go0 (ev_one_pure (M := (ev_Mof 203)) (pc := 17) (i := .aload 5) (len := 2) (pc' := 19) (lv' := [(6, .ref 267), (5, .null), (0, .ref 0), (1, .int x2), (2, .int (2)), (3, .int x4), (4, .int x5)]) (st' := [.null]) (by decide +kernel) rfl) ?_
  refine ev_go0 (ev_w_ifnull (M := (ev_Mof 203)) (pc := 19) (o := 40) (t := 59) (by decide +kernel) (Or.inl ⟨rfl, rfl⟩)) ?_
  refine ev_go0 (ev_w_iconst (M := (ev_Mof 203)) (pc := 59) (k := 0) (v := 0) (by decide +kernel) (by decide +kernel)) ?_
  rfl
theorem ev_k223 (x1 : Int32) (x2 : Int32) (hl_x2 : (0 : Int) ≤ x2.toInt) (x4 : Int32) (x5 : Int32) {n : Nat} : ev_calld 11 178 [.ref 0, .int x1, .int x2, .int (2), .int x4, .int x5] ev_H0 n = some (.inr "java/lang/IndexOutOfBoundsException", ev_H0, n, 1, 6) := by
  refine ev_call_thrown (k := 7) (pcR := 13) (x := 160) (lv' := [(0, .ref 0), (1, .int x1), (2, .int x2), (3, .int (2)), (4, .int x4), (5, .int x5)]) (by decide +kernel) rfl ?_ (by decide +kernel) (by decide +kernel) (by decide +kernel) (by decide) (by decide)
  show ev_stepn _ 7 (0, [(0, .ref 0), (1, .int x1), (2, .int x2), (3, .int (2)), (4, .int x4), (5, .int x5)], [], _, _, 0, 0) = _
  refine ev_go0 (ev_one_pure (M := (ev_Mof 178)) (pc := 0) (i := .aload_n 0) (len := 1) (pc' := 1) (lv' := [(0, .ref 0), (1, .int x1), (2, .int x2), (3, .int (2)), (4, .int x4), (5, .int x5)]) (st' := [.ref 0]) (by decide +kernel) rfl) ?_
  refine ev_go0 (ev_one_pure (M := (ev_Mof 178)) (pc := 1) (i := .iload_n 2) (len := 1) (pc' := 2) (lv' := [(0, .ref 0), (1, .int x1), (2, .int x2), (3, .int (2)), (4, .int x4), (5, .int x5)]) (st' := [.int x2, .ref 0]) (by decide +kernel) rfl) ?_
  refine ev_go0 (ev_one_pure (M := (ev_Mof 178)) (pc := 2) (i := .iload_n 3) (len := 1) (pc' := 3) (lv' := [(0, .ref 0), (1, .int x1), (2, .int x2), (3, .int (2)), (4, .int x4), (5, .int x5)]) (st' := [.int (2), .int x2, .ref 0]) (by decide +kernel) rfl) ?_
  refine ev_go0 (ev_one_pure (M := (ev_Mof 178)) (pc := 3) (i := .iload 4) (len := 2) (pc' := 5) (lv' := [(0, .ref 0), (1, .int x1), (2, .int x2), (3, .int (2)), (4, .int x4), (5, .int x5)]) (st' := [.int x4, .int (2), .int x2, .ref 0]) (by decide +kernel) rfl) ?_
  refine ev_go0 (ev_one_pure (M := (ev_Mof 178)) (pc := 5) (i := .iload 5) (len := 2) (pc' := 7) (lv' := [(0, .ref 0), (1, .int x1), (2, .int x2), (3, .int (2)), (4, .int x4), (5, .int x5)]) (st' := [.int x5, .int x4, .int (2), .int x2, .ref 0]) (by decide +kernel) rfl) ?_
  refine ev_go0 (ev_p_virt (M := (ev_Mof 178)) (pc := 7) (x := 205) (mi := 203) (na := 4) (by decide +kernel) (by decide +kernel) (by decide +kernel) (by decide +kernel) rfl rfl (ev_recv_of ev_fH0) (ev_k222 x2 hl_x2 x4 x5)) ?_
  refine ev_go0 (ev_w_if (M := (ev_Mof 178)) (pc := 10) (q := .ne) (o := 13) (b := false) (t := 13) (by decide +kernel) (by decide +kernel) rfl) ?_
  rfl
theorem ev_k224 (x1 : Int32) (x2 : Int32) (hl_x2 : (0 : Int) ≤ x2.toInt) (x4 : Int32) (x5 : Int32) {n : Nat} : ev_calld 12 375 [.ref 0, .int x1, .int x2, .int (2), .int x4, .int x5, .ref 723] ev_H0 n = some (.inl (some (.int (1))), ev_H0, n, 1, 6) := by
  refine ev_call_int (k := 11) (pcR := 22) (lv' := [(7, .retAddr 1), (0, .ref 0), (1, .int x1), (2, .int x2), (3, .int (2)), (4, .int x4), (5, .int x5), (6, .ref 723)]) (v := (1)) (ty := .int) (by decide +kernel) rfl ?_ (by decide +kernel) (by decide +kernel) (by decide +kernel) (by decide)
  show ev_stepn _ 11 (0, [(0, .ref 0), (1, .int x1), (2, .int x2), (3, .int (2)), (4, .int x4), (5, .int x5), (6, .ref 723)], [], _, _, 0, 0) = _
  refine ev_go0 (ev_one_pure (M := (ev_Mof 375)) (pc := 0) (i := .aload 6) (len := 2) (pc' := 2) (lv' := [(0, .ref 0), (1, .int x1), (2, .int x2), (3, .int (2)), (4, .int x4), (5, .int x5), (6, .ref 723)]) (st' := [.ref 723]) (by decide +kernel) rfl) ?_
  refine ev_go0 (ev_w_iconst (M := (ev_Mof 375)) (pc := 2) (k := 0) (v := 0) (by decide +kernel) (by decide +kernel)) ?_
  refine ev_go0 (ev_one_pure (M := (ev_Mof 375)) (pc := 3) (i := .aload_n 0) (len := 1) (pc' := 4) (lv' := [(0, .ref 0), (1, .int x1), (2, .int x2), (3, .int (2)), (4, .int x4), (5, .int x5), (6, .ref 723)]) (st' := [.ref 0, .int (0), .ref 723]) (by decide +kernel) rfl) ?_
  refine ev_go0 (ev_one_pure (M := (ev_Mof 375)) (pc := 4) (i := .iload_n 1) (len := 1) (pc' := 5) (lv' := [(0, .ref 0), (1, .int x1), (2, .int x2), (3, .int (2)), (4, .int x4), (5, .int x5), (6, .ref 723)]) (st' := [.int x1, .ref 0, .int (0), .ref 723]) (by decide +kernel) rfl) ?_
  refine ev_go0 (ev_one_pure (M := (ev_Mof 375)) (pc := 5) (i := .iload_n 2) (len := 1) (pc' := 6) (lv' := [(0, .ref 0), (1, .int x1), (2, .int x2), (3, .int (2)), (4, .int x4), (5, .int x5), (6, .ref 723)]) (st' := [.int x2, .int x1, .ref 0, .int (0), .ref 723]) (by decide +kernel) rfl) ?_
  refine ev_go0 (ev_one_pure (M := (ev_Mof 375)) (pc := 6) (i := .iload_n 3) (len := 1) (pc' := 7) (lv' := [(0, .ref 0), (1, .int x1), (2, .int x2), (3, .int (2)), (4, .int x4), (5, .int x5), (6, .ref 723)]) (st' := [.int (2), .int x2, .int x1, .ref 0, .int (0), .ref 723]) (by decide +kernel) rfl) ?_
  refine ev_go0 (ev_one_pure (M := (ev_Mof 375)) (pc := 7) (i := .iload 4) (len := 2) (pc' := 9) (lv' := [(0, .ref 0), (1, .int x1), (2, .int x2), (3, .int (2)), (4, .int x4), (5, .int x5), (6, .ref 723)]) (st' := [.int x4, .int (2), .int x2, .int x1, .ref 0, .int (0), .ref 723]) (by decide +kernel) rfl) ?_
  refine ev_go0 (ev_one_pure (M := (ev_Mof 375)) (pc := 9) (i := .iload 5) (len := 2) (pc' := 11) (lv' := [(0, .ref 0), (1, .int x1), (2, .int x2), (3, .int (2)), (4, .int x4), (5, .int x5), (6, .ref 723)]) (st' := [.int x5, .int x4, .int (2), .int x2, .int x1, .ref 0, .int (0), .ref 723]) (by decide +kernel) rfl) ?_
  refine ev_go (ev_p_virtX (M := (ev_Mof 375)) (pc := 11) (x := 53) (t := 19) (mi := 178) (na := 5) (by decide +kernel) (by decide +kernel) (by decide +kernel) (by decide +kernel) rfl rfl (ev_recv_of ev_fH0) (ev_k223 x1 x2 hl_x2 x4 x5) (by decide +kernel)) ?_
  refine ev_go0 (ev_w_astore (M := (ev_Mof 375)) (pc := 19) (k := 7) (lv' := [(7, .retAddr 1), (0, .ref 0), (1, .int x1), (2, .int x2), (3, .int (2)), (4, .int x4), (5, .int x5), (6, .ref 723)]) (by decide +kernel) (by decide +kernel) (Or.inr (Or.inr ⟨_, rfl⟩)) rfl) ?_
  refine ev_go0 (ev_w_iconst (M := (ev_Mof 375)) (pc := 21) (k := 1) (v := 1) (by decide +kernel) (by decide +kernel)) ?_
  rfl
theorem ev_k225 (x1 : Int32) (x2 : Int32) (hl_x2 : (0 : Int) ≤ x2.toInt) (x4 : Int32) (x5 : Int32) {n : Nat} : ev_calld 12 330 [.ref 621, .int x1, .int x2, .int (2), .int x4, .int x5] ev_H0 n = some (.inl (some (.int (0))), (ev_H0.set 621 (.inr (13, (ev_F621.set 0 (.int (1)))))), n, 0, 0) := by
  refine ev_call_int (k := 12) (pcR := 63) (lv' := [(0, .ref 621), (1, .int x1), (2, .int x2), (3, .int (2)), (4, .int x4), (5, .int x5)]) (v := (0)) (ty := .int) (by decide +kernel) rfl ?_ (by decide +kernel) (by decide +kernel) (by decide +kernel) (by decide)
  show ev_stepn _ 12 (0, [(0, .ref 621), (1, .int x1), (2, .int x2), (3, .int (2)), (4, .int x4), (5, .int x5)], [], _, _, 0, 0) = _
  refine ev_go0 (ev_one_pure (M := (ev_Mof 330)) (pc := 0) (i := .aload_n 0) (len := 1) (pc' := 1) (lv' := [(0, .ref 621), (1, .int x1), (2, .int x2), (3, .int (2)), (4, .int x4), (5, .int x5)]) (st' := [.ref 621]) (by decide +kernel) rfl) ?_
  refine ev_go0 (ev_one_pure (M := (ev_Mof 330)) (pc := 1) (i := .aload_n 0) (len := 1) (pc' := 2) (lv' := [(0, .ref 621), (1, .int x1), (2, .int x2), (3, .int (2)), (4, .int x4), (5, .int x5)]) (st' := [.ref 621, .ref 621]) (by decide +kernel) rfl) ?_
  refine ev_go0 (ev_one_pure (M := (ev_Mof 330)) (pc := 2) (i := .iload_n 2) (len := 1) (pc' := 3) (lv' := [(0, .ref 621), (1, .int x1), (2, .int x2), (3, .int (2)), (4, .int x4), (5, .int x5)]) (st' := [.int x2, .ref 621, .ref 621]) (by decide +kernel) rfl) ?_
  refine ev_go0 (ev_p_virt (M := (ev_Mof 330)) (pc := 3) (x := 531) (mi := 273) (na := 1) (by decide +kernel) (by decide +kernel) (by decide +kernel) (by decide +kernel) rfl rfl (ev_recv_of ev_fH621) (ev_k212 x2 hl_x2)) ?_
  refine ev_go0 (ev_w_if (M := (ev_Mof 330)) (pc := 6) (q := .eq) (o := 28) (b := true) (t := 34) (by decide +kernel) (by decide +kernel) rfl) ?_
  refine ev_go0 (ev_w_iconst (M := (ev_Mof 330)) (pc := 34) (k := 1) (v := 1) (by decide +kernel) (by decide +kernel)) ?_
  refine ev_go0 (ev_one_pure (M := (ev_Mof 330)) (pc := 35) (i := .goto 17) (len := 3) (pc' := 52) (lv' := [(0, .ref 621), (1, .int x1), (2, .int x2), (3, .int (2)), (4, .int x4), (5, .int x5)]) (st' := [.int (1), .ref 621]) (by decide +kernel) rfl) ?_
  refine ev_go0 (ev_p_putf (M := (ev_Mof 330)) (pc := 52) (x := 321) (ci := 13) (f := 0) (by decide +kernel) (by decide +kernel) ev_fH621 rfl (by decide +kernel)) ?_
  refine ev_go0 (ev_one_pure (M := (ev_Mof 330)) (pc := 55) (i := .aload_n 0) (len := 1) (pc' := 56) (lv' := [(0, .ref 621), (1, .int x1), (2, .int x2), (3, .int (2)), (4, .int x4), (5, .int x5)]) (st' := [.ref 621]) (by decide +kernel) rfl) ?_
  refine ev_go0 (ev_p_getf (M := (ev_Mof 330)) (pc := 56) (x := 321) (ci := 13) (f := 0) (fin := 0) (v := .int (1)) (by decide +kernel) (by decide +kernel) (ev_hself ev_fH621) rfl) ?_
  refine ev_go0 (ev_w_if (M := (ev_Mof 330)) (pc := 59) (q := .le) (o := 5) (b := false) (t := 62) (by decide +kernel) (by decide +kernel) rfl) ?_
  refine ev_go0 (ev_w_iconst (M := (ev_Mof 330)) (pc := 62) (k := 0) (v := 0) (by decide +kernel) (by decide +kernel)) ?_
  rfl
theorem ev_p1_12_p2 (xs : Nat → Int32) (x1 : Int32) (x2 : Int32) (hl_x2 : (0 : Int) ≤ x2.toInt) (x4 : Int32) (x5 : Int32) (e1 : xs 1 = x1) (e2 : xs 2 = x2) (e3 : xs 3 = (2)) (e4 : xs 4 = x4) (e5 : xs 5 = x5) : ev_P1 xs 896 := by
  refine ⟨64, [(6, .int (0)), (5, .int (1)), (4, .int (0)), (3, .ref 723), (2, .ref 621), (1, .ref 0), (0, .retAddr 0)], (ev_H0.set 621 (.inr (13, (ev_F621.set 0 (.int (1)))))), 724, 725, 3553592, ?_, ⟨rfl, rfl, rfl, rfl⟩, rfl, by decide, by decide⟩
  show ev_stepn _ _ (896, [(4, .int (0)), (3, .ref 723), (2, .ref 621), (1, .ref 0), (0, .retAddr 0)], [], _, _, _, _) = _
  refine ev_go0 (ev_one_pure (M := ev_Mlaw) (pc := 896) (i := .aload_n 1) (len := 1) (pc' := 897) (lv' := [(4, .int (0)), (3, .ref 723), (2, .ref 621), (1, .ref 0), (0, .retAddr 0)]) (st' := [.ref 0]) (by decide +kernel) rfl) ?_
  refine ev_go0 (ev_one_pure (M := ev_Mlaw) (pc := 897) (i := .aload_n 0) (len := 1) (pc' := 898) (lv' := [(4, .int (0)), (3, .ref 723), (2, .ref 621), (1, .ref 0), (0, .retAddr 0)]) (st' := [.retAddr 0, .ref 0]) (by decide +kernel) rfl) ?_
  refine ev_go0 (ev_one_pure (M := ev_Mlaw) (pc := 898) (i := .iload 4) (len := 2) (pc' := 900) (lv' := [(4, .int (0)), (3, .ref 723), (2, .ref 621), (1, .ref 0), (0, .retAddr 0)]) (st' := [.int (0), .retAddr 0, .ref 0]) (by decide +kernel) rfl) ?_
  refine ev_go0 (ev_w_iconst (M := ev_Mlaw) (pc := 900) (k := 1) (v := 1) (by decide +kernel) (by decide +kernel)) ?_
  refine ev_go0 (ev_w_iadd (M := ev_Mlaw) (pc := 901) (v := (1)) (by decide +kernel) (by decide +kernel)) ?_
  refine ev_go0 (ev_w_scr (M := ev_Mlaw) (pc := 902) (v := x1) (j := 1) (by decide +kernel) (by decide +kernel) (by decide +kernel) e1) ?_
  refine ev_go0 (ev_one_pure (M := ev_Mlaw) (pc := 903) (i := .aload_n 0) (len := 1) (pc' := 904) (lv' := [(4, .int (0)), (3, .ref 723), (2, .ref 621), (1, .ref 0), (0, .retAddr 0)]) (st' := [.retAddr 0, .int x1, .ref 0]) (by decide +kernel) rfl) ?_
  refine ev_go0 (ev_one_pure (M := ev_Mlaw) (pc := 904) (i := .iload 4) (len := 2) (pc' := 906) (lv' := [(4, .int (0)), (3, .ref 723), (2, .ref 621), (1, .ref 0), (0, .retAddr 0)]) (st' := [.int (0), .retAddr 0, .int x1, .ref 0]) (by decide +kernel) rfl) ?_
  refine ev_go0 (ev_w_iconst (M := ev_Mlaw) (pc := 906) (k := 2) (v := 2) (by decide +kernel) (by decide +kernel)) ?_
  refine ev_go0 (ev_w_iadd (M := ev_Mlaw) (pc := 907) (v := (2)) (by decide +kernel) (by decide +kernel)) ?_
  refine ev_go0 (ev_w_scr (M := ev_Mlaw) (pc := 908) (v := x2) (j := 2) (by decide +kernel) (by decide +kernel) (by decide +kernel) e2) ?_
  refine ev_go0 (ev_one_pure (M := ev_Mlaw) (pc := 909) (i := .aload_n 0) (len := 1) (pc' := 910) (lv' := [(4, .int (0)), (3, .ref 723), (2, .ref 621), (1, .ref 0), (0, .retAddr 0)]) (st' := [.retAddr 0, .int x2, .int x1, .ref 0]) (by decide +kernel) rfl) ?_
  refine ev_go0 (ev_one_pure (M := ev_Mlaw) (pc := 910) (i := .iload 4) (len := 2) (pc' := 912) (lv' := [(4, .int (0)), (3, .ref 723), (2, .ref 621), (1, .ref 0), (0, .retAddr 0)]) (st' := [.int (0), .retAddr 0, .int x2, .int x1, .ref 0]) (by decide +kernel) rfl) ?_
  refine ev_go0 (ev_w_iconst (M := ev_Mlaw) (pc := 912) (k := 3) (v := 3) (by decide +kernel) (by decide +kernel)) ?_
  refine ev_go0 (ev_w_iadd (M := ev_Mlaw) (pc := 913) (v := (3)) (by decide +kernel) (by decide +kernel)) ?_
  refine ev_go0 (ev_w_scr (M := ev_Mlaw) (pc := 914) (v := (2)) (j := 3) (by decide +kernel) (by decide +kernel) (by decide +kernel) e3) ?_
  refine ev_go0 (ev_one_pure (M := ev_Mlaw) (pc := 915) (i := .aload_n 0) (len := 1) (pc' := 916) (lv' := [(4, .int (0)), (3, .ref 723), (2, .ref 621), (1, .ref 0), (0, .retAddr 0)]) (st' := [.retAddr 0, .int (2), .int x2, .int x1, .ref 0]) (by decide +kernel) rfl) ?_
  refine ev_go0 (ev_one_pure (M := ev_Mlaw) (pc := 916) (i := .iload 4) (len := 2) (pc' := 918) (lv' := [(4, .int (0)), (3, .ref 723), (2, .ref 621), (1, .ref 0), (0, .retAddr 0)]) (st' := [.int (0), .retAddr 0, .int (2), .int x2, .int x1, .ref 0]) (by decide +kernel) rfl) ?_
  refine ev_go0 (ev_w_iconst (M := ev_Mlaw) (pc := 918) (k := 4) (v := 4) (by decide +kernel) (by decide +kernel)) ?_
  refine ev_go0 (ev_w_iadd (M := ev_Mlaw) (pc := 919) (v := (4)) (by decide +kernel) (by decide +kernel)) ?_
  refine ev_go0 (ev_w_scr (M := ev_Mlaw) (pc := 920) (v := x4) (j := 4) (by decide +kernel) (by decide +kernel) (by decide +kernel) e4) ?_
  refine ev_go0 (ev_one_pure (M := ev_Mlaw) (pc := 921) (i := .aload_n 0) (len := 1) (pc' := 922) (lv' := [(4, .int (0)), (3, .ref 723), (2, .ref 621), (1, .ref 0), (0, .retAddr 0)]) (st' := [.retAddr 0, .int x4, .int (2), .int x2, .int x1, .ref 0]) (by decide +kernel) rfl) ?_
  refine ev_go0 (ev_one_pure (M := ev_Mlaw) (pc := 922) (i := .iload 4) (len := 2) (pc' := 924) (lv' := [(4, .int (0)), (3, .ref 723), (2, .ref 621), (1, .ref 0), (0, .retAddr 0)]) (st' := [.int (0), .retAddr 0, .int x4, .int (2), .int x2, .int x1, .ref 0]) (by decide +kernel) rfl) ?_
  refine ev_go0 (ev_w_iconst (M := ev_Mlaw) (pc := 924) (k := 5) (v := 5) (by decide +kernel) (by decide +kernel)) ?_
  refine ev_go0 (ev_w_iadd (M := ev_Mlaw) (pc := 925) (v := (5)) (by decide +kernel) (by decide +kernel)) ?_
  refine ev_go0 (ev_w_scr (M := ev_Mlaw) (pc := 926) (v := x5) (j := 5) (by decide +kernel) (by decide +kernel) (by decide +kernel) e5) ?_
  refine ev_go0 (ev_one_pure (M := ev_Mlaw) (pc := 927) (i := .aload_n 3) (len := 1) (pc' := 928) (lv' := [(4, .int (0)), (3, .ref 723), (2, .ref 621), (1, .ref 0), (0, .retAddr 0)]) (st' := [.ref 723, .int x5, .int x4, .int (2), .int x2, .int x1, .ref 0]) (by decide +kernel) rfl) ?_
  refine ev_go (ev_w_stat (M := ev_Mlaw) (pc := 928) (y := 171) (kind := 8) (Or.inr (Or.inr rfl)) (mi := 375) (na := 7) (by decide +kernel) (by decide +kernel) (by decide +kernel) (by decide +kernel) rfl rfl (ev_k224 x1 x2 hl_x2 x4 x5)) ?_
  refine ev_go0 (ev_w_istore (M := ev_Mlaw) (pc := 931) (k := 5) (lv' := [(5, .int (1)), (4, .int (0)), (3, .ref 723), (2, .ref 621), (1, .ref 0), (0, .retAddr 0)]) (by decide +kernel) (by decide +kernel) rfl) ?_
  refine ev_go0 (ev_one_pure (M := ev_Mlaw) (pc := 933) (i := .aload_n 2) (len := 1) (pc' := 934) (lv' := [(5, .int (1)), (4, .int (0)), (3, .ref 723), (2, .ref 621), (1, .ref 0), (0, .retAddr 0)]) (st' := [.ref 621]) (by decide +kernel) rfl) ?_
  refine ev_go0 (ev_one_pure (M := ev_Mlaw) (pc := 934) (i := .aload_n 0) (len := 1) (pc' := 935) (lv' := [(5, .int (1)), (4, .int (0)), (3, .ref 723), (2, .ref 621), (1, .ref 0), (0, .retAddr 0)]) (st' := [.retAddr 0, .ref 621]) (by decide +kernel) rfl) ?_
  refine ev_go0 (ev_one_pure (M := ev_Mlaw) (pc := 935) (i := .iload 4) (len := 2) (pc' := 937) (lv' := [(5, .int (1)), (4, .int (0)), (3, .ref 723), (2, .ref 621), (1, .ref 0), (0, .retAddr 0)]) (st' := [.int (0), .retAddr 0, .ref 621]) (by decide +kernel) rfl) ?_
  refine ev_go0 (ev_w_iconst (M := ev_Mlaw) (pc := 937) (k := 1) (v := 1) (by decide +kernel) (by decide +kernel)) ?_
  refine ev_go0 (ev_w_iadd (M := ev_Mlaw) (pc := 938) (v := (1)) (by decide +kernel) (by decide +kernel)) ?_
  refine ev_go0 (ev_w_scr (M := ev_Mlaw) (pc := 939) (v := x1) (j := 1) (by decide +kernel) (by decide +kernel) (by decide +kernel) e1) ?_
  refine ev_go0 (ev_one_pure (M := ev_Mlaw) (pc := 940) (i := .aload_n 0) (len := 1) (pc' := 941) (lv' := [(5, .int (1)), (4, .int (0)), (3, .ref 723), (2, .ref 621), (1, .ref 0), (0, .retAddr 0)]) (st' := [.retAddr 0, .int x1, .ref 621]) (by decide +kernel) rfl) ?_
  refine ev_go0 (ev_one_pure (M := ev_Mlaw) (pc := 941) (i := .iload 4) (len := 2) (pc' := 943) (lv' := [(5, .int (1)), (4, .int (0)), (3, .ref 723), (2, .ref 621), (1, .ref 0), (0, .retAddr 0)]) (st' := [.int (0), .retAddr 0, .int x1, .ref 621]) (by decide +kernel) rfl) ?_
  refine ev_go0 (ev_w_iconst (M := ev_Mlaw) (pc := 943) (k := 2) (v := 2) (by decide +kernel) (by decide +kernel)) ?_
  refine ev_go0 (ev_w_iadd (M := ev_Mlaw) (pc := 944) (v := (2)) (by decide +kernel) (by decide +kernel)) ?_
  refine ev_go0 (ev_w_scr (M := ev_Mlaw) (pc := 945) (v := x2) (j := 2) (by decide +kernel) (by decide +kernel) (by decide +kernel) e2) ?_
  refine ev_go0 (ev_one_pure (M := ev_Mlaw) (pc := 946) (i := .aload_n 0) (len := 1) (pc' := 947) (lv' := [(5, .int (1)), (4, .int (0)), (3, .ref 723), (2, .ref 621), (1, .ref 0), (0, .retAddr 0)]) (st' := [.retAddr 0, .int x2, .int x1, .ref 621]) (by decide +kernel) rfl) ?_
  refine ev_go0 (ev_one_pure (M := ev_Mlaw) (pc := 947) (i := .iload 4) (len := 2) (pc' := 949) (lv' := [(5, .int (1)), (4, .int (0)), (3, .ref 723), (2, .ref 621), (1, .ref 0), (0, .retAddr 0)]) (st' := [.int (0), .retAddr 0, .int x2, .int x1, .ref 621]) (by decide +kernel) rfl) ?_
  refine ev_go0 (ev_w_iconst (M := ev_Mlaw) (pc := 949) (k := 3) (v := 3) (by decide +kernel) (by decide +kernel)) ?_
  refine ev_go0 (ev_w_iadd (M := ev_Mlaw) (pc := 950) (v := (3)) (by decide +kernel) (by decide +kernel)) ?_
  refine ev_go0 (ev_w_scr (M := ev_Mlaw) (pc := 951) (v := (2)) (j := 3) (by decide +kernel) (by decide +kernel) (by decide +kernel) e3) ?_
  refine ev_go0 (ev_one_pure (M := ev_Mlaw) (pc := 952) (i := .aload_n 0) (len := 1) (pc' := 953) (lv' := [(5, .int (1)), (4, .int (0)), (3, .ref 723), (2, .ref 621), (1, .ref 0), (0, .retAddr 0)]) (st' := [.retAddr 0, .int (2), .int x2, .int x1, .ref 621]) (by decide +kernel) rfl) ?_
  refine ev_go0 (ev_one_pure (M := ev_Mlaw) (pc := 953) (i := .iload 4) (len := 2) (pc' := 955) (lv' := [(5, .int (1)), (4, .int (0)), (3, .ref 723), (2, .ref 621), (1, .ref 0), (0, .retAddr 0)]) (st' := [.int (0), .retAddr 0, .int (2), .int x2, .int x1, .ref 621]) (by decide +kernel) rfl) ?_
  refine ev_go0 (ev_w_iconst (M := ev_Mlaw) (pc := 955) (k := 4) (v := 4) (by decide +kernel) (by decide +kernel)) ?_
  refine ev_go0 (ev_w_iadd (M := ev_Mlaw) (pc := 956) (v := (4)) (by decide +kernel) (by decide +kernel)) ?_
  refine ev_go0 (ev_w_scr (M := ev_Mlaw) (pc := 957) (v := x4) (j := 4) (by decide +kernel) (by decide +kernel) (by decide +kernel) e4) ?_
  refine ev_go0 (ev_one_pure (M := ev_Mlaw) (pc := 958) (i := .aload_n 0) (len := 1) (pc' := 959) (lv' := [(5, .int (1)), (4, .int (0)), (3, .ref 723), (2, .ref 621), (1, .ref 0), (0, .retAddr 0)]) (st' := [.retAddr 0, .int x4, .int (2), .int x2, .int x1, .ref 621]) (by decide +kernel) rfl) ?_
  refine ev_go0 (ev_one_pure (M := ev_Mlaw) (pc := 959) (i := .iload 4) (len := 2) (pc' := 961) (lv' := [(5, .int (1)), (4, .int (0)), (3, .ref 723), (2, .ref 621), (1, .ref 0), (0, .retAddr 0)]) (st' := [.int (0), .retAddr 0, .int x4, .int (2), .int x2, .int x1, .ref 621]) (by decide +kernel) rfl) ?_
  refine ev_go0 (ev_w_iconst (M := ev_Mlaw) (pc := 961) (k := 5) (v := 5) (by decide +kernel) (by decide +kernel)) ?_
  refine ev_go0 (ev_w_iadd (M := ev_Mlaw) (pc := 962) (v := (5)) (by decide +kernel) (by decide +kernel)) ?_
  refine ev_go0 (ev_w_scr (M := ev_Mlaw) (pc := 963) (v := x5) (j := 5) (by decide +kernel) (by decide +kernel) (by decide +kernel) e5) ?_
  refine ev_go0 (ev_p_virt (M := ev_Mlaw) (pc := 964) (x := 174) (mi := 330) (na := 5) (by decide +kernel) (by decide +kernel) (by decide +kernel) (by decide +kernel) rfl rfl (ev_recv_of ev_fH621) (ev_k225 x1 x2 hl_x2 x4 x5)) ?_
  refine ev_go0 (ev_w_istore (M := ev_Mlaw) (pc := 967) (k := 6) (lv' := [(6, .int (0)), (5, .int (1)), (4, .int (0)), (3, .ref 723), (2, .ref 621), (1, .ref 0), (0, .retAddr 0)]) (by decide +kernel) (by decide +kernel) rfl) ?_
  refine ev_go0 (ev_one_pure (M := ev_Mlaw) (pc := 969) (i := .aload_n 2) (len := 1) (pc' := 970) (lv' := [(6, .int (0)), (5, .int (1)), (4, .int (0)), (3, .ref 723), (2, .ref 621), (1, .ref 0), (0, .retAddr 0)]) (st' := [.ref 621]) (by decide +kernel) rfl) ?_
  refine ev_go0 (ev_p_virt (M := ev_Mlaw) (pc := 970) (x := 131) (mi := 220) (na := 0) (by decide +kernel) (by decide +kernel) (by decide +kernel) (by decide +kernel) rfl rfl (ev_recv_of (ev_hself ev_fH621)) ev_k26) ?_
  refine ev_go0 (ev_one_pure (M := ev_Mlaw) (pc := 973) (i := .iload 5) (len := 2) (pc' := 975) (lv' := [(6, .int (0)), (5, .int (1)), (4, .int (0)), (3, .ref 723), (2, .ref 621), (1, .ref 0), (0, .retAddr 0)]) (st' := [.int (1), .int (1)]) (by decide +kernel) rfl) ?_
  refine ev_go0 (ev_w_icmp (M := ev_Mlaw) (pc := 975) (q := .eq) (o := 5) (b := true) (t := 980) (by decide +kernel) (by decide +kernel) rfl) ?_
  refine ev_go0 (ev_one_pure (M := ev_Mlaw) (pc := 980) (i := .iload 5) (len := 2) (pc' := 982) (lv' := [(6, .int (0)), (5, .int (1)), (4, .int (0)), (3, .ref 723), (2, .ref 621), (1, .ref 0), (0, .retAddr 0)]) (st' := [.int (1)]) (by decide +kernel) rfl) ?_
  refine ev_go0 (ev_w_if (M := ev_Mlaw) (pc := 982) (q := .ne) (o := 15) (b := true) (t := 997) (by decide +kernel) (by decide +kernel) rfl) ?_
  refine ev_go0 (ev_one_pure (M := ev_Mlaw) (pc := 997) (i := .goto 1275) (len := 3) (pc' := 2272) (lv' := [(6, .int (0)), (5, .int (1)), (4, .int (0)), (3, .ref 723), (2, .ref 621), (1, .ref 0), (0, .retAddr 0)]) (st' := []) (by decide +kernel) rfl) ?_
  rfl
theorem ev_k226 (x2 : Int32) (hl_x2 : (0 : Int) ≤ x2.toInt) (x3 : Int32) (hl_x3 : (3 : Int) ≤ x3.toInt) (x4 : Int32) (x5 : Int32) {n : Nat} : ev_calld 10 203 [.ref 0, .int x2, .int x3, .int x4, .int x5] ev_H0 n = some (.inl (some (.int (0))), ev_H0, n, 0, 0) := by
  refine ev_call_int (k := 12) (pcR := 60) (lv' := [(6, .null), (5, .null), (0, .ref 0), (1, .int x2), (2, .int x3), (3, .int x4), (4, .int x5)]) (v := (0)) (ty := .boolean) (by decide +kernel) rfl ?_ (by decide +kernel) (by decide +kernel) (by decide +kernel) (by decide)
  show ev_stepn _ 12 (0, [(0, .ref 0), (1, .int x2), (2, .int x3), (3, .int x4), (4, .int x5)], [], _, _, 0, 0) = _
  refine ev_go0 (ev_one_pure (M := (ev_Mof 203)) (pc := 0) (i := .aload_n 0) (len := 1) (pc' := 1) (lv' := [(0, .ref 0), (1, .int x2), (2, .int x3), (3, .int x4), (4, .int x5)]) (st' := [.ref 0]) (by decide +kernel) rfl) ?_
  refine ev_go0 (ev_one_pure (M := (ev_Mof 203)) (pc := 1) (i := .iload_n 1) (len := 1) (pc' := 2) (lv' := [(0, .ref 0), (1, .int x2), (2, .int x3), (3, .int x4), (4, .int x5)]) (st' := [.int x2, .ref 0]) (by decide +kernel) rfl) ?_
  refine ev_go0 (ev_p_virt (M := (ev_Mof 203)) (pc := 2) (x := 156) (mi := 200) (na := 1) (by decide +kernel) (by decide +kernel) (by decide +kernel) (by decide +kernel) rfl rfl (ev_recv_of ev_fH0) (ev_k207 x2 hl_x2)) ?_
  refine ev_go0 (ev_w_astore (M := (ev_Mof 203)) (pc := 5) (k := 5) (lv' := [(5, .null), (0, .ref 0), (1, .int x2), (2, .int x3), (3, .int x4), (4, .int x5)]) (by decide +kernel) (by decide +kernel) (Or.inr (Or.inl rfl)) rfl) ?_
  refine ev_go0 (ev_one_pure (M := (ev_Mof 203)) (pc := 7) (i := .aload_n 0) (len := 1) (pc' := 8) (lv' := [(5, .null), (0, .ref 0), (1, .int x2), (2, .int x3), (3, .int x4), (4, .int x5)]) (st' := [.ref 0]) (by decide +kernel) rfl) ?_
  refine ev_go0 (ev_p_getf (M := (ev_Mof 203)) (pc := 8) (x := 48) (ci := 12) (f := 8) (fin := 1) (v := .ref 254) (by decide +kernel) (by decide +kernel) ev_fH0 rfl) ?_
  refine ev_go0 (ev_one_pure (M := (ev_Mof 203)) (pc := 11) (i := .iload_n 2) (len := 1) (pc' := 12) (lv' := [(5, .null), (0, .ref 0), (1, .int x2), (2, .int x3), (3, .int x4), (4, .int x5)]) (st' := [.int x3, .ref 254]) (by decide +kernel) rfl) ?_
  refine ev_go0 (ev_p_virt (M := (ev_Mof 203)) (pc := 12) (x := 221) (mi := 1) (na := 1) (by decide +kernel) (by decide +kernel) (by decide +kernel) (by decide +kernel) rfl rfl (ev_recv_of ev_fH254) (ev_k202 x3 hl_x3)) ?_
  refine ev_go0 (ev_w_astore (M := (ev_Mof 203)) (pc := 15) (k := 6) (lv' := [(6, .null), (5, .null), (0, .ref 0), (1, .int x2), (2, .int x3), (3, .int x4), (4, .int x5)]) (by decide +kernel) (by decide +kernel) (Or.inr (Or.inl rfl)) rfl) ?_
  refine ev_go0 (ev_one_pure (M := (ev_Mof 203)) (pc := 17) (i := .aload 5) (len := 2) (pc' := 19) (lv' := [(6, .null), (5, .null), (0, .ref 0), (1, .int x2), (2, .int x3), (3, .int x4), (4, .int x5)]) (st' := [.null]) (by decide +kernel) rfl) ?_
  refine ev_go0 (ev_w_ifnull (M := (ev_Mof 203)) (pc := 19) (o := 40) (t := 59) (by decide +kernel) (Or.inl ⟨rfl, rfl⟩)) ?_
  refine ev_go0 (ev_w_iconst (M := (ev_Mof 203)) (pc := 59) (k := 0) (v := 0) (by decide +kernel) (by decide +kernel)) ?_
  rfl
theorem ev_k227 (x1 : Int32) (x2 : Int32) (hl_x2 : (0 : Int) ≤ x2.toInt) (x3 : Int32) (hl_x3 : (3 : Int) ≤ x3.toInt) (x4 : Int32) (x5 : Int32) {n : Nat} : ev_calld 11 178 [.ref 0, .int x1, .int x2, .int x3, .int x4, .int x5] ev_H0 n = some (.inr "java/lang/IndexOutOfBoundsException", ev_H0, n, 1, 6) := by
  refine ev_call_thrown (k := 7) (pcR := 13) (x := 160) (lv' := [(0, .ref 0), (1, .int x1), (2, .int x2), (3, .int x3), (4, .int x4), (5, .int x5)]) (by decide +kernel) rfl ?_ (by decide +kernel) (by decide +kernel) (by decide +kernel) (by decide) (by decide)
  show ev_stepn _ 7 (0, [(0, .ref 0), (1, .int x1), (2, .int x2), (3, .int x3), (4, .int x4), (5, .int x5)], [], _, _, 0, 0) = _
  refine ev_go0 (ev_one_pure (M := (ev_Mof 178)) (pc := 0) (i := .aload_n 0) (len := 1) (pc' := 1) (lv' := [(0, .ref 0), (1, .int x1), (2, .int x2), (3, .int x3), (4, .int x4), (5, .int x5)]) (st' := [.ref 0]) (by decide +kernel) rfl) ?_
  refine ev_go0 (ev_one_pure (M := (ev_Mof 178)) (pc := 1) (i := .iload_n 2) (len := 1) (pc' := 2) (lv' := [(0, .ref 0), (1, .int x1), (2, .int x2), (3, .int x3), (4, .int x4), (5, .int x5)]) (st' := [.int x2, .ref 0]) (by decide +kernel) rfl) ?_
  refine ev_go0 (ev_one_pure (M := (ev_Mof 178)) (pc := 2) (i := .iload_n 3) (len := 1) (pc' := 3) (lv' := [(0, .ref 0), (1, .int x1), (2, .int x2), (3, .int x3), (4, .int x4), (5, .int x5)]) (st' := [.int x3, .int x2, .ref 0]) (by decide +kernel) rfl) ?_
  refine ev_go0 (ev_one_pure (M := (ev_Mof 178)) (pc := 3) (i := .iload 4) (len := 2) (pc' := 5) (lv' := [(0, .ref 0), (1, .int x1), (2, .int x2), (3, .int x3), (4, .int x4), (5, .int x5)]) (st' := [.int x4, .int x3, .int x2, .ref 0]) (by decide +kernel) rfl) ?_
  refine ev_go0 (ev_one_pure (M := (ev_Mof 178)) (pc := 5) (i := .iload 5) (len := 2) (pc' := 7) (lv' := [(0, .ref 0), (1, .int x1), (2, .int x2), (3, .int x3), (4, .int x4), (5, .int x5)]) (st' := [.int x5, .int x4, .int x3, .int x2, .ref 0]) (by decide +kernel) rfl) ?_
  refine ev_go0 (ev_p_virt (M := (ev_Mof 178)) (pc := 7) (x := 205) (mi := 203) (na := 4) (by decide +kernel) (by decide +kernel) (by decide +kernel) (by decide +kernel) rfl rfl (ev_recv_of ev_fH0) (ev_k226 x2 hl_x2 x3 hl_x3 x4 x5)) ?_
  refine ev_go0 (ev_w_if (M := (ev_Mof 178)) (pc := 10) (q := .ne) (o := 13) (b := false) (t := 13) (by decide +kernel) (by decide +kernel) rfl) ?_
  rfl
theorem ev_k228 (x1 : Int32) (x2 : Int32) (hl_x2 : (0 : Int) ≤ x2.toInt) (x3 : Int32) (hl_x3 : (3 : Int) ≤ x3.toInt) (x4 : Int32) (x5 : Int32) {n : Nat} : ev_calld 12 375 [.ref 0, .int x1, .int x2, .int x3, .int x4, .int x5, .ref 723] ev_H0 n = some (.inl (some (.int (1))), ev_H0, n, 1, 6) := by
  refine ev_call_int (k := 11) (pcR := 22) (lv' := [(7, .retAddr 1), (0, .ref 0), (1, .int x1), (2, .int x2), (3, .int x3), (4, .int x4), (5, .int x5), (6, .ref 723)]) (v := (1)) (ty := .int) (by decide +kernel) rfl ?_ (by decide +kernel) (by decide +kernel) (by decide +kernel) (by decide)
  show ev_stepn _ 11 (0, [(0, .ref 0), (1, .int x1), (2, .int x2), (3, .int x3), (4, .int x4), (5, .int x5), (6, .ref 723)], [], _, _, 0, 0) = _
  refine ev_go0 (ev_one_pure (M := (ev_Mof 375)) (pc := 0) (i := .aload 6) (len := 2) (pc' := 2) (lv' := [(0, .ref 0), (1, .int x1), (2, .int x2), (3, .int x3), (4, .int x4), (5, .int x5), (6, .ref 723)]) (st' := [.ref 723]) (by decide +kernel) rfl) ?_
  refine ev_go0 (ev_w_iconst (M := (ev_Mof 375)) (pc := 2) (k := 0) (v := 0) (by decide +kernel) (by decide +kernel)) ?_
  refine ev_go0 (ev_one_pure (M := (ev_Mof 375)) (pc := 3) (i := .aload_n 0) (len := 1) (pc' := 4) (lv' := [(0, .ref 0), (1, .int x1), (2, .int x2), (3, .int x3), (4, .int x4), (5, .int x5), (6, .ref 723)]) (st' := [.ref 0, .int (0), .ref 723]) (by decide +kernel) rfl) ?_
  refine ev_go0 (ev_one_pure (M := (ev_Mof 375)) (pc := 4) (i := .iload_n 1) (len := 1) (pc' := 5) (lv' := [(0, .ref 0), (1, .int x1), (2, .int x2), (3, .int x3), (4, .int x4), (5, .int x5), (6, .ref 723)]) (st' := [.int x1, .ref 0, .int (0), .ref 723]) (by decide +kernel) rfl) ?_
  refine ev_go0 (ev_one_pure (M := (ev_Mof 375)) (pc := 5) (i := .iload_n 2) (len := 1) (pc' := 6) (lv' := [(0, .ref 0), (1, .int x1), (2, .int x2), (3, .int x3), (4, .int x4), (5, .int x5), (6, .ref 723)]) (st' := [.int x2, .int x1, .ref 0, .int (0), .ref 723]) (by decide +kernel) rfl) ?_
  refine ev_go0 (ev_one_pure (M := (ev_Mof 375)) (pc := 6) (i := .iload_n 3) (len := 1) (pc' := 7) (lv' := [(0, .ref 0), (1, .int x1), (2, .int x2), (3, .int x3), (4, .int x4), (5, .int x5), (6, .ref 723)]) (st' := [.int x3, .int x2, .int x1, .ref 0, .int (0), .ref 723]) (by decide +kernel) rfl) ?_
  refine ev_go0 (ev_one_pure (M := (ev_Mof 375)) (pc := 7) (i := .iload 4) (len := 2) (pc' := 9) (lv' := [(0, .ref 0), (1, .int x1), (2, .int x2), (3, .int x3), (4, .int x4), (5, .int x5), (6, .ref 723)]) (st' := [.int x4, .int x3, .int x2, .int x1, .ref 0, .int (0), .ref 723]) (by decide +kernel) rfl) ?_
  refine ev_go0 (ev_one_pure (M := (ev_Mof 375)) (pc := 9) (i := .iload 5) (len := 2) (pc' := 11) (lv' := [(0, .ref 0), (1, .int x1), (2, .int x2), (3, .int x3), (4, .int x4), (5, .int x5), (6, .ref 723)]) (st' := [.int x5, .int x4, .int x3, .int x2, .int x1, .ref 0, .int (0), .ref 723]) (by decide +kernel) rfl) ?_
  refine ev_go (ev_p_virtX (M := (ev_Mof 375)) (pc := 11) (x := 53) (t := 19) (mi := 178) (na := 5) (by decide +kernel) (by decide +kernel) (by decide +kernel) (by decide +kernel) rfl rfl (ev_recv_of ev_fH0) (ev_k227 x1 x2 hl_x2 x3 hl_x3 x4 x5) (by decide +kernel)) ?_
  refine ev_go0 (ev_w_astore (M := (ev_Mof 375)) (pc := 19) (k := 7) (lv' := [(7, .retAddr 1), (0, .ref 0), (1, .int x1), (2, .int x2), (3, .int x3), (4, .int x4), (5, .int x5), (6, .ref 723)]) (by decide +kernel) (by decide +kernel) (Or.inr (Or.inr ⟨_, rfl⟩)) rfl) ?_
  refine ev_go0 (ev_w_iconst (M := (ev_Mof 375)) (pc := 21) (k := 1) (v := 1) (by decide +kernel) (by decide +kernel)) ?_
  rfl
theorem ev_k229 (x1 : Int32) (x2 : Int32) (hl_x2 : (0 : Int) ≤ x2.toInt) (x3 : Int32) (hl_x3 : (3 : Int) ≤ x3.toInt) (x4 : Int32) (x5 : Int32) {n : Nat} : ev_calld 12 330 [.ref 621, .int x1, .int x2, .int x3, .int x4, .int x5] ev_H0 n = some (.inl (some (.int (0))), (ev_H0.set 621 (.inr (13, (ev_F621.set 0 (.int (1)))))), n, 0, 0) := by
  refine ev_call_int (k := 12) (pcR := 63) (lv' := [(0, .ref 621), (1, .int x1), (2, .int x2), (3, .int x3), (4, .int x4), (5, .int x5)]) (v := (0)) (ty := .int) (by decide +kernel) rfl ?_ (by decide +kernel) (by decide +kernel) (by decide +kernel) (by decide)
  show ev_stepn _ 12 (0, [(0, .ref 621), (1, .int x1), (2, .int x2), (3, .int x3), (4, .int x4), (5, .int x5)], [], _, _, 0, 0) = _
  refine ev_go0 (ev_one_pure (M := (ev_Mof 330)) (pc := 0) (i := .aload_n 0) (len := 1) (pc' := 1) (lv' := [(0, .ref 621), (1, .int x1), (2, .int x2), (3, .int x3), (4, .int x4), (5, .int x5)]) (st' := [.ref 621]) (by decide +kernel) rfl) ?_
  refine ev_go0 (ev_one_pure (M := (ev_Mof 330)) (pc := 1) (i := .aload_n 0) (len := 1) (pc' := 2) (lv' := [(0, .ref 621), (1, .int x1), (2, .int x2), (3, .int x3), (4, .int x4), (5, .int x5)]) (st' := [.ref 621, .ref 621]) (by decide +kernel) rfl) ?_
  refine ev_go0 (ev_one_pure (M := (ev_Mof 330)) (pc := 2) (i := .iload_n 2) (len := 1) (pc' := 3) (lv' := [(0, .ref 621), (1, .int x1), (2, .int x2), (3, .int x3), (4, .int x4), (5, .int x5)]) (st' := [.int x2, .ref 621, .ref 621]) (by decide +kernel) rfl) ?_
  refine ev_go0 (ev_p_virt (M := (ev_Mof 330)) (pc := 3) (x := 531) (mi := 273) (na := 1) (by decide +kernel) (by decide +kernel) (by decide +kernel) (by decide +kernel) rfl rfl (ev_recv_of ev_fH621) (ev_k212 x2 hl_x2)) ?_
  refine ev_go0 (ev_w_if (M := (ev_Mof 330)) (pc := 6) (q := .eq) (o := 28) (b := true) (t := 34) (by decide +kernel) (by decide +kernel) rfl) ?_
  refine ev_go0 (ev_w_iconst (M := (ev_Mof 330)) (pc := 34) (k := 1) (v := 1) (by decide +kernel) (by decide +kernel)) ?_
  refine ev_go0 (ev_one_pure (M := (ev_Mof 330)) (pc := 35) (i := .goto 17) (len := 3) (pc' := 52) (lv' := [(0, .ref 621), (1, .int x1), (2, .int x2), (3, .int x3), (4, .int x4), (5, .int x5)]) (st' := [.int (1), .ref 621]) (by decide +kernel) rfl) ?_
  refine ev_go0 (ev_p_putf (M := (ev_Mof 330)) (pc := 52) (x := 321) (ci := 13) (f := 0) (by decide +kernel) (by decide +kernel) ev_fH621 rfl (by decide +kernel)) ?_
  refine ev_go0 (ev_one_pure (M := (ev_Mof 330)) (pc := 55) (i := .aload_n 0) (len := 1) (pc' := 56) (lv' := [(0, .ref 621), (1, .int x1), (2, .int x2), (3, .int x3), (4, .int x4), (5, .int x5)]) (st' := [.ref 621]) (by decide +kernel) rfl) ?_
  refine ev_go0 (ev_p_getf (M := (ev_Mof 330)) (pc := 56) (x := 321) (ci := 13) (f := 0) (fin := 0) (v := .int (1)) (by decide +kernel) (by decide +kernel) (ev_hself ev_fH621) rfl) ?_
  refine ev_go0 (ev_w_if (M := (ev_Mof 330)) (pc := 59) (q := .le) (o := 5) (b := false) (t := 62) (by decide +kernel) (by decide +kernel) rfl) ?_
  refine ev_go0 (ev_w_iconst (M := (ev_Mof 330)) (pc := 62) (k := 0) (v := 0) (by decide +kernel) (by decide +kernel)) ?_
  rfl
theorem ev_p1_12_pg (xs : Nat → Int32) (x1 : Int32) (x2 : Int32) (hl_x2 : (0 : Int) ≤ x2.toInt) (x3 : Int32) (hl_x3 : (3 : Int) ≤ x3.toInt) (x4 : Int32) (x5 : Int32) (e1 : xs 1 = x1) (e2 : xs 2 = x2) (e3 : xs 3 = x3) (e4 : xs 4 = x4) (e5 : xs 5 = x5) : ev_P1 xs 896 := by
  refine ⟨64, [(6, .int (0)), (5, .int (1)), (4, .int (0)), (3, .ref 723), (2, .ref 621), (1, .ref 0), (0, .retAddr 0)], (ev_H0.set 621 (.inr (13, (ev_F621.set 0 (.int (1)))))), 724, 725, 3553592, ?_, ⟨rfl, rfl, rfl, rfl⟩, rfl, by decide, by decide⟩
  show ev_stepn _ _ (896, [(4, .int (0)), (3, .ref 723), (2, .ref 621), (1, .ref 0), (0, .retAddr 0)], [], _, _, _, _) = _
  refine ev_go0 (ev_one_pure (M := ev_Mlaw) (pc := 896) (i := .aload_n 1) (len := 1) (pc' := 897) (lv' := [(4, .int (0)), (3, .ref 723), (2, .ref 621), (1, .ref 0), (0, .retAddr 0)]) (st' := [.ref 0]) (by decide +kernel) rfl) ?_
  refine ev_go0 (ev_one_pure (M := ev_Mlaw) (pc := 897) (i := .aload_n 0) (len := 1) (pc' := 898) (lv' := [(4, .int (0)), (3, .ref 723), (2, .ref 621), (1, .ref 0), (0, .retAddr 0)]) (st' := [.retAddr 0, .ref 0]) (by decide +kernel) rfl) ?_
  refine ev_go0 (ev_one_pure (M := ev_Mlaw) (pc := 898) (i := .iload 4) (len := 2) (pc' := 900) (lv' := [(4, .int (0)), (3, .ref 723), (2, .ref 621), (1, .ref 0), (0, .retAddr 0)]) (st' := [.int (0), .retAddr 0, .ref 0]) (by decide +kernel) rfl) ?_
  refine ev_go0 (ev_w_iconst (M := ev_Mlaw) (pc := 900) (k := 1) (v := 1) (by decide +kernel) (by decide +kernel)) ?_
  refine ev_go0 (ev_w_iadd (M := ev_Mlaw) (pc := 901) (v := (1)) (by decide +kernel) (by decide +kernel)) ?_
  refine ev_go0 (ev_w_scr (M := ev_Mlaw) (pc := 902) (v := x1) (j := 1) (by decide +kernel) (by decide +kernel) (by decide +kernel) e1) ?_
  refine ev_go0 (ev_one_pure (M := ev_Mlaw) (pc := 903) (i := .aload_n 0) (len := 1) (pc' := 904) (lv' := [(4, .int (0)), (3, .ref 723), (2, .ref 621), (1, .ref 0), (0, .retAddr 0)]) (st' := [.retAddr 0, .int x1, .ref 0]) (by decide +kernel) rfl) ?_
  refine ev_go0 (ev_one_pure (M := ev_Mlaw) (pc := 904) (i := .iload 4) (len := 2) (pc' := 906) (lv' := [(4, .int (0)), (3, .ref 723), (2, .ref 621), (1, .ref 0), (0, .retAddr 0)]) (st' := [.int (0), .retAddr 0, .int x1, .ref 0]) (by decide +kernel) rfl) ?_
  refine ev_go0 (ev_w_iconst (M := ev_Mlaw) (pc := 906) (k := 2) (v := 2) (by decide +kernel) (by decide +kernel)) ?_
  refine ev_go0 (ev_w_iadd (M := ev_Mlaw) (pc := 907) (v := (2)) (by decide +kernel) (by decide +kernel)) ?_
  refine ev_go0 (ev_w_scr (M := ev_Mlaw) (pc := 908) (v := x2) (j := 2) (by decide +kernel) (by decide +kernel) (by decide +kernel) e2) ?_
  refine ev_go0 (ev_one_pure (M := ev_Mlaw) (pc := 909) (i := .aload_n 0) (len := 1) (pc' := 910) (lv' := [(4, .int (0)), (3, .ref 723), (2, .ref 621), (1, .ref 0), (0, .retAddr 0)]) (st' := [.retAddr 0, .int x2, .int x1, .ref 0]) (by decide +kernel) rfl) ?_
  refine ev_go0 (ev_one_pure (M := ev_Mlaw) (pc := 910) (i := .iload 4) (len := 2) (pc' := 912) (lv' := [(4, .int (0)), (3, .ref 723), (2, .ref 621), (1, .ref 0), (0, .retAddr 0)]) (st' := [.int (0), .retAddr 0, .int x2, .int x1, .ref 0]) (by decide +kernel) rfl) ?_
  refine ev_go0 (ev_w_iconst (M := ev_Mlaw) (pc := 912) (k := 3) (v := 3) (by decide +kernel) (by decide +kernel)) ?_
  refine ev_go0 (ev_w_iadd (M := ev_Mlaw) (pc := 913) (v := (3)) (by decide +kernel) (by decide +kernel)) ?_
  refine ev_go0 (ev_w_scr (M := ev_Mlaw) (pc := 914) (v := x3) (j := 3) (by decide +kernel) (by decide +kernel) (by decide +kernel) e3) ?_
  refine ev_go0 (ev_one_pure (M := ev_Mlaw) (pc := 915) (i := .aload_n 0) (len := 1) (pc' := 916) (lv' := [(4, .int (0)), (3, .ref 723), (2, .ref 621), (1, .ref 0), (0, .retAddr 0)]) (st' := [.retAddr 0, .int x3, .int x2, .int x1, .ref 0]) (by decide +kernel) rfl) ?_
  refine ev_go0 (ev_one_pure (M := ev_Mlaw) (pc := 916) (i := .iload 4) (len := 2) (pc' := 918) (lv' := [(4, .int (0)), (3, .ref 723), (2, .ref 621), (1, .ref 0), (0, .retAddr 0)]) (st' := [.int (0), .retAddr 0, .int x3, .int x2, .int x1, .ref 0]) (by decide +kernel) rfl) ?_
  refine ev_go0 (ev_w_iconst (M := ev_Mlaw) (pc := 918) (k := 4) (v := 4) (by decide +kernel) (by decide +kernel)) ?_
  refine ev_go0 (ev_w_iadd (M := ev_Mlaw) (pc := 919) (v := (4)) (by decide +kernel) (by decide +kernel)) ?_
  refine ev_go0 (ev_w_scr (M := ev_Mlaw) (pc := 920) (v := x4) (j := 4) (by decide +kernel) (by decide +kernel) (by decide +kernel) e4) ?_
  refine ev_go0 (ev_one_pure (M := ev_Mlaw) (pc := 921) (i := .aload_n 0) (len := 1) (pc' := 922) (lv' := [(4, .int (0)), (3, .ref 723), (2, .ref 621), (1, .ref 0), (0, .retAddr 0)]) (st' := [.retAddr 0, .int x4, .int x3, .int x2, .int x1, .ref 0]) (by decide +kernel) rfl) ?_
  refine ev_go0 (ev_one_pure (M := ev_Mlaw) (pc := 922) (i := .iload 4) (len := 2) (pc' := 924) (lv' := [(4, .int (0)), (3, .ref 723), (2, .ref 621), (1, .ref 0), (0, .retAddr 0)]) (st' := [.int (0), .retAddr 0, .int x4, .int x3, .int x2, .int x1, .ref 0]) (by decide +kernel) rfl) ?_
  refine ev_go0 (ev_w_iconst (M := ev_Mlaw) (pc := 924) (k := 5) (v := 5) (by decide +kernel) (by decide +kernel)) ?_
  refine ev_go0 (ev_w_iadd (M := ev_Mlaw) (pc := 925) (v := (5)) (by decide +kernel) (by decide +kernel)) ?_
  refine ev_go0 (ev_w_scr (M := ev_Mlaw) (pc := 926) (v := x5) (j := 5) (by decide +kernel) (by decide +kernel) (by decide +kernel) e5) ?_
  refine ev_go0 (ev_one_pure (M := ev_Mlaw) (pc := 927) (i := .aload_n 3) (len := 1) (pc' := 928) (lv' := [(4, .int (0)), (3, .ref 723), (2, .ref 621), (1, .ref 0), (0, .retAddr 0)]) (st' := [.ref 723, .int x5, .int x4, .int x3, .int x2, .int x1, .ref 0]) (by decide +kernel) rfl) ?_
  refine ev_go (ev_w_stat (M := ev_Mlaw) (pc := 928) (y := 171) (kind := 8) (Or.inr (Or.inr rfl)) (mi := 375) (na := 7) (by decide +kernel) (by decide +kernel) (by decide +kernel) (by decide +kernel) rfl rfl (ev_k228 x1 x2 hl_x2 x3 hl_x3 x4 x5)) ?_
  refine ev_go0 (ev_w_istore (M := ev_Mlaw) (pc := 931) (k := 5) (lv' := [(5, .int (1)), (4, .int (0)), (3, .ref 723), (2, .ref 621), (1, .ref 0), (0, .retAddr 0)]) (by decide +kernel) (by decide +kernel) rfl) ?_
  refine ev_go0 (ev_one_pure (M := ev_Mlaw) (pc := 933) (i := .aload_n 2) (len := 1) (pc' := 934) (lv' := [(5, .int (1)), (4, .int (0)), (3, .ref 723), (2, .ref 621), (1, .ref 0), (0, .retAddr 0)]) (st' := [.ref 621]) (by decide +kernel) rfl) ?_
  refine ev_go0 (ev_one_pure (M := ev_Mlaw) (pc := 934) (i := .aload_n 0) (len := 1) (pc' := 935) (lv' := [(5, .int (1)), (4, .int (0)), (3, .ref 723), (2, .ref 621), (1, .ref 0), (0, .retAddr 0)]) (st' := [.retAddr 0, .ref 621]) (by decide +kernel) rfl) ?_
  refine ev_go0 (ev_one_pure (M := ev_Mlaw) (pc := 935) (i := .iload 4) (len := 2) (pc' := 937) (lv' := [(5, .int (1)), (4, .int (0)), (3, .ref 723), (2, .ref 621), (1, .ref 0), (0, .retAddr 0)]) (st' := [.int (0), .retAddr 0, .ref 621]) (by decide +kernel) rfl) ?_
  refine ev_go0 (ev_w_iconst (M := ev_Mlaw) (pc := 937) (k := 1) (v := 1) (by decide +kernel) (by decide +kernel)) ?_
  refine ev_go0 (ev_w_iadd (M := ev_Mlaw) (pc := 938) (v := (1)) (by decide +kernel) (by decide +kernel)) ?_
  refine ev_go0 (ev_w_scr (M := ev_Mlaw) (pc := 939) (v := x1) (j := 1) (by decide +kernel) (by decide +kernel) (by decide +kernel) e1) ?_
  refine ev_go0 (ev_one_pure (M := ev_Mlaw) (pc := 940) (i := .aload_n 0) (len := 1) (pc' := 941) (lv' := [(5, .int (1)), (4, .int (0)), (3, .ref 723), (2, .ref 621), (1, .ref 0), (0, .retAddr 0)]) (st' := [.retAddr 0, .int x1, .ref 621]) (by decide +kernel) rfl) ?_
  refine ev_go0 (ev_one_pure (M := ev_Mlaw) (pc := 941) (i := .iload 4) (len := 2) (pc' := 943) (lv' := [(5, .int (1)), (4, .int (0)), (3, .ref 723), (2, .ref 621), (1, .ref 0), (0, .retAddr 0)]) (st' := [.int (0), .retAddr 0, .int x1, .ref 621]) (by decide +kernel) rfl) ?_
  refine ev_go0 (ev_w_iconst (M := ev_Mlaw) (pc := 943) (k := 2) (v := 2) (by decide +kernel) (by decide +kernel)) ?_
  refine ev_go0 (ev_w_iadd (M := ev_Mlaw) (pc := 944) (v := (2)) (by decide +kernel) (by decide +kernel)) ?_
  refine ev_go0 (ev_w_scr (M := ev_Mlaw) (pc := 945) (v := x2) (j := 2) (by decide +kernel) (by decide +kernel) (by decide +kernel) e2) ?_
  refine ev_go0 (ev_one_pure (M := ev_Mlaw) (pc := 946) (i := .aload_n 0) (len := 1) (pc' := 947) (lv' := [(5, .int (1)), (4, .int (0)), (3, .ref 723), (2, .ref 621), (1, .ref 0), (0, .retAddr 0)]) (st' := [.retAddr 0, .int x2, .int x1, .ref 621]) (by decide +kernel) rfl) ?_
  refine ev_go0 (ev_one_pure (M := ev_Mlaw) (pc := 947) (i := .iload 4) (len := 2) (pc' := 949) (lv' := [(5, .int (1)), (4, .int (0)), (3, .ref 723), (2, .ref 621), (1, .ref 0), (0, .retAddr 0)]) (st' := [.int (0), .retAddr 0, .int x2, .int x1, .ref 621]) (by decide +kernel) rfl) ?_
  refine ev_go0 (ev_w_iconst (M := ev_Mlaw) (pc := 949) (k := 3) (v := 3) (by decide +kernel) (by decide +kernel)) ?_
  refine ev_go0 (ev_w_iadd (M := ev_Mlaw) (pc := 950) (v := (3)) (by decide +kernel) (by decide +kernel)) ?_
  refine ev_go0 (ev_w_scr (M := ev_Mlaw) (pc := 951) (v := x3) (j := 3) (by decide +kernel) (by decide +kernel) (by decide +kernel) e3) ?_
  refine ev_go0 (ev_one_pure (M := ev_Mlaw) (pc := 952) (i := .aload_n 0) (len := 1) (pc' := 953) (lv' := [(5, .int (1)), (4, .int (0)), (3, .ref 723), (2, .ref 621), (1, .ref 0), (0, .retAddr 0)]) (st' := [.retAddr 0, .int x3, .int x2, .int x1, .ref 621]) (by decide +kernel) rfl) ?_
  refine ev_go0 (ev_one_pure (M := ev_Mlaw) (pc := 953) (i := .iload 4) (len := 2) (pc' := 955) (lv' := [(5, .int (1)), (4, .int (0)), (3, .ref 723), (2, .ref 621), (1, .ref 0), (0, .retAddr 0)]) (st' := [.int (0), .retAddr 0, .int x3, .int x2, .int x1, .ref 621]) (by decide +kernel) rfl) ?_
  refine ev_go0 (ev_w_iconst (M := ev_Mlaw) (pc := 955) (k := 4) (v := 4) (by decide +kernel) (by decide +kernel)) ?_
  refine ev_go0 (ev_w_iadd (M := ev_Mlaw) (pc := 956) (v := (4)) (by decide +kernel) (by decide +kernel)) ?_
  refine ev_go0 (ev_w_scr (M := ev_Mlaw) (pc := 957) (v := x4) (j := 4) (by decide +kernel) (by decide +kernel) (by decide +kernel) e4) ?_
  refine ev_go0 (ev_one_pure (M := ev_Mlaw) (pc := 958) (i := .aload_n 0) (len := 1) (pc' := 959) (lv' := [(5, .int (1)), (4, .int (0)), (3, .ref 723), (2, .ref 621), (1, .ref 0), (0, .retAddr 0)]) (st' := [.retAddr 0, .int x4, .int x3, .int x2, .int x1, .ref 621]) (by decide +kernel) rfl) ?_
  refine ev_go0 (ev_one_pure (M := ev_Mlaw) (pc := 959) (i := .iload 4) (len := 2) (pc' := 961) (lv' := [(5, .int (1)), (4, .int (0)), (3, .ref 723), (2, .ref 621), (1, .ref 0), (0, .retAddr 0)]) (st' := [.int (0), .retAddr 0, .int x4, .int x3, .int x2, .int x1, .ref 621]) (by decide +kernel) rfl) ?_
  refine ev_go0 (ev_w_iconst (M := ev_Mlaw) (pc := 961) (k := 5) (v := 5) (by decide +kernel) (by decide +kernel)) ?_
  refine ev_go0 (ev_w_iadd (M := ev_Mlaw) (pc := 962) (v := (5)) (by decide +kernel) (by decide +kernel)) ?_
  refine ev_go0 (ev_w_scr (M := ev_Mlaw) (pc := 963) (v := x5) (j := 5) (by decide +kernel) (by decide +kernel) (by decide +kernel) e5) ?_
  refine ev_go0 (ev_p_virt (M := ev_Mlaw) (pc := 964) (x := 174) (mi := 330) (na := 5) (by decide +kernel) (by decide +kernel) (by decide +kernel) (by decide +kernel) rfl rfl (ev_recv_of ev_fH621) (ev_k229 x1 x2 hl_x2 x3 hl_x3 x4 x5)) ?_
  refine ev_go0 (ev_w_istore (M := ev_Mlaw) (pc := 967) (k := 6) (lv' := [(6, .int (0)), (5, .int (1)), (4, .int (0)), (3, .ref 723), (2, .ref 621), (1, .ref 0), (0, .retAddr 0)]) (by decide +kernel) (by decide +kernel) rfl) ?_
  refine ev_go0 (ev_one_pure (M := ev_Mlaw) (pc := 969) (i := .aload_n 2) (len := 1) (pc' := 970) (lv' := [(6, .int (0)), (5, .int (1)), (4, .int (0)), (3, .ref 723), (2, .ref 621), (1, .ref 0), (0, .retAddr 0)]) (st' := [.ref 621]) (by decide +kernel) rfl) ?_
  refine ev_go0 (ev_p_virt (M := ev_Mlaw) (pc := 970) (x := 131) (mi := 220) (na := 0) (by decide +kernel) (by decide +kernel) (by decide +kernel) (by decide +kernel) rfl rfl (ev_recv_of (ev_hself ev_fH621)) ev_k26) ?_
  refine ev_go0 (ev_one_pure (M := ev_Mlaw) (pc := 973) (i := .iload 5) (len := 2) (pc' := 975) (lv' := [(6, .int (0)), (5, .int (1)), (4, .int (0)), (3, .ref 723), (2, .ref 621), (1, .ref 0), (0, .retAddr 0)]) (st' := [.int (1), .int (1)]) (by decide +kernel) rfl) ?_
  refine ev_go0 (ev_w_icmp (M := ev_Mlaw) (pc := 975) (q := .eq) (o := 5) (b := true) (t := 980) (by decide +kernel) (by decide +kernel) rfl) ?_
  refine ev_go0 (ev_one_pure (M := ev_Mlaw) (pc := 980) (i := .iload 5) (len := 2) (pc' := 982) (lv' := [(6, .int (0)), (5, .int (1)), (4, .int (0)), (3, .ref 723), (2, .ref 621), (1, .ref 0), (0, .retAddr 0)]) (st' := [.int (1)]) (by decide +kernel) rfl) ?_
  refine ev_go0 (ev_w_if (M := ev_Mlaw) (pc := 982) (q := .ne) (o := 15) (b := true) (t := 997) (by decide +kernel) (by decide +kernel) rfl) ?_
  refine ev_go0 (ev_one_pure (M := ev_Mlaw) (pc := 997) (i := .goto 1275) (len := 3) (pc' := 2272) (lv' := [(6, .int (0)), (5, .int (1)), (4, .int (0)), (3, .ref 723), (2, .ref 621), (1, .ref 0), (0, .retAddr 0)]) (st' := []) (by decide +kernel) rfl) ?_
  rfl
theorem ev_p1arm12 (xs : Nat → Int32) : ev_P1 xs 896 := by
  rcases ev_split2 (xs 2) with h2 | h2
  · skip
    rcases ev_split5 (xs 3) with h3 | h3 | h3 | h3 | h3
    · skip
      exact ev_p1_12_nn xs (xs 1) (xs 2) h2 (xs 3) h3 (xs 4) (xs 5) rfl rfl rfl rfl rfl
    · skip
      exact ev_p1_12_n0 xs (xs 1) (xs 2) h2 (xs 4) (xs 5) rfl rfl h3 rfl rfl
    · skip
      exact ev_p1_12_n1 xs (xs 1) (xs 2) h2 (xs 4) (xs 5) rfl rfl h3 rfl rfl
    · skip
      exact ev_p1_12_n2 xs (xs 1) (xs 2) h2 (xs 4) (xs 5) rfl rfl h3 rfl rfl
    · skip
      exact ev_p1_12_ng xs (xs 1) (xs 2) h2 (xs 3) h3 (xs 4) (xs 5) rfl rfl rfl rfl rfl
  · skip
    rcases ev_split5 (xs 3) with h3 | h3 | h3 | h3 | h3
    · skip
      exact ev_p1_12_pn xs (xs 1) (xs 2) h2 (xs 3) h3 (xs 4) (xs 5) rfl rfl rfl rfl rfl
    · skip
      exact ev_p1_12_p0 xs (xs 1) (xs 2) h2 (xs 4) (xs 5) rfl rfl h3 rfl rfl
    · skip
      exact ev_p1_12_p1 xs (xs 1) (xs 2) h2 (xs 4) (xs 5) rfl rfl h3 rfl rfl
    · skip
      exact ev_p1_12_p2 xs (xs 1) (xs 2) h2 (xs 4) (xs 5) rfl rfl h3 rfl rfl
    · skip
      exact ev_p1_12_pg xs (xs 1) (xs 2) h2 (xs 3) h3 (xs 4) (xs 5) rfl rfl rfl rfl rfl
