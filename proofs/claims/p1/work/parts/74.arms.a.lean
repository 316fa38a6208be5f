def ev_F0 : List Value := [.ref 1, .ref 3, .ref 221, .ref 232, .ref 252, .int (0), .ref 253, .int (0), .ref 254, .ref 269, .ref 281, .ref 284, .ref 294, .ref 304, .ref 311, .int (0), .int (0), .ref 312, .int (0)]
theorem ev_fH0 : ev_H0[0]? = some (.inr (12, ev_F0)) := by decide +kernel
def ev_F254 : List Value := [.ref 255, .ref 256, .ref 257, .ref 258, .int (0), .ref 259, .ref 260, .ref 261, .ref 262, .int (0), .int (0), .int (0), .int (0), .int (0), .int (0)]
theorem ev_fH254 : ev_H0[254]? = some (.inr (0, ev_F254)) := by decide +kernel
def ev_F621 : List Value := [.int (0), .int (0), .ref 622, .ref 623, .ref 624, .int (0), .ref 625, .ref 626, .ref 627, .ref 628, .ref 629, .ref 630, .ref 631, .ref 632, .ref 633, .ref 634, .ref 635, .ref 636, .ref 637, .ref 638, .ref 639, .ref 640, .ref 641, .ref 642, .ref 643, .int (0), .int (0), .int (0), .int (0), .ref 644, .ref 645, .int (0), .ref 646, .ref 647, .ref 648, .ref 649, .ref 650, .int (0), .int (0), .int (0), .int (0), .long (0), .long (0), .ref 651, .ref 652, .ref 653, .ref 654, .ref 655, .ref 656, .ref 657, .ref 658, .ref 659, .ref 660, .ref 661, .int (0), .ref 662, .ref 663, .ref 664, .ref 665, .int (0), .ref 666, .ref 667, .ref 668, .ref 669, .ref 670, .ref 671, .ref 672, .ref 673, .int (0), .ref 674, .ref 675, .ref 676, .ref 677, .int (0), .ref 678, .int (0), .int (0), .int (0), .int (0), .int (0), .int (0), .int (0), .int (0), .int (0), .int (0), .int (0), .ref 679, .ref 680, .int (0), .ref 681, .ref 682, .ref 683, .ref 684, .ref 685, .ref 686, .int (0), .ref 687, .ref 688, .ref 689, .ref 690, .ref 691, .ref 692, .ref 693, .ref 694, .ref 695, .int (0), .ref 696, .ref 697, .ref 698, .ref 699, .int (0), .ref 700, .ref 701, .int (0), .ref 702, .ref 703, .ref 704, .ref 705, .ref 706, .ref 707, .ref 708, .int (0), .ref 709, .ref 710, .ref 711, .int (0), .int (0), .ref 712, .int (0), .ref 713, .int (0), .int (0), .int (0), .ref 714, .ref 715, .int (0), .int (0), .ref 716, .ref 717, .int (0), .ref 718, .ref 719, .ref 720, .ref 721, .ref 722]
theorem ev_fH621 : ev_H0[621]? = some (.inr (13, ev_F621)) := by decide +kernel
theorem ev_fH716 : ev_H0[716]? = some (.inl (.int, 7, [])) := by decide +kernel
theorem ev_fH723 : ev_H0[723]? = some (.inl (.long, 1, [])) := by decide +kernel
theorem ev_k1 (x1 : Int32) (hu_x1 : x1.toInt ≤ (-1 : Int)) {n : Nat} : ev_calld 10 200 [.ref 0, .int x1] ev_H0 n = some (.inl (some (.null)), ev_H0, n, 0, 0) := by
  refine ev_call_ref (k := 3) (pcR := 28) (lv' := [(0, .ref 0), (1, .int x1)]) (v := .null) (C := "MendBench$Pattern") (by decide +kernel) rfl ?_ (by decide +kernel) (by decide +kernel) rfl (by decide)
  show ev_stepn _ 3 (0, [(0, .ref 0), (1, .int x1)], [], _, _, 0, 0) = _
  refine ev_go0 (ev_one_pure (M := (ev_Mof 200)) (pc := 0) (i := .iload_n 1) (len := 1) (pc' := 1) (lv' := [(0, .ref 0), (1, .int x1)]) (st' := [.int x1]) (by decide +kernel) rfl) ?_
  refine ev_go0 (ev_w_if (M := (ev_Mof 200)) (pc := 1) (q := .lt) (o := 26) (b := true) (t := 27) (by decide +kernel) (ev_c_lt1 hu_x1 (by decide +kernel)) rfl) ?_
  refine ev_go0 (ev_one_pure (M := (ev_Mof 200)) (pc := 27) (i := .aconst_null) (len := 1) (pc' := 28) (lv' := [(0, .ref 0), (1, .int x1)]) (st' := [.null]) (by decide +kernel) rfl) ?_
  rfl
theorem ev_k2 (x1 : Int32) (hu_x1 : x1.toInt ≤ (-1 : Int)) {n : Nat} : ev_calld 11 171 [.ref 0, .int x1] ev_H0 n = some (.inr "java/lang/IndexOutOfBoundsException", ev_H0, n, 1, 6) := by
  refine ev_call_thrown (k := 6) (pcR := 10) (x := 160) (lv' := [(2, .null), (0, .ref 0), (1, .int x1)]) (by decide +kernel) rfl ?_ (by decide +kernel) (by decide +kernel) (by decide +kernel) (by decide) (by decide)
  show ev_stepn _ 6 (0, [(0, .ref 0), (1, .int x1)], [], _, _, 0, 0) = _
  refine ev_go0 (ev_one_pure (M := (ev_Mof 171)) (pc := 0) (i := .aload_n 0) (len := 1) (pc' := 1) (lv' := [(0, .ref 0), (1, .int x1)]) (st' := [.ref 0]) (by decide +kernel) rfl) ?_
  refine ev_go0 (ev_one_pure (M := (ev_Mof 171)) (pc := 1) (i := .iload_n 1) (len := 1) (pc' := 2) (lv' := [(0, .ref 0), (1, .int x1)]) (st' := [.int x1, .ref 0]) (by decide +kernel) rfl) ?_
  refine ev_go0 (ev_p_virt (M := (ev_Mof 171)) (pc := 2) (x := 156) (mi := 200) (na := 1) (by decide +kernel) (by decide +kernel) (by decide +kernel) (by decide +kernel) rfl rfl (ev_recv_of ev_fH0) (ev_k1 x1 hu_x1)) ?_
  refine ev_go0 (ev_w_astore_n (M := (ev_Mof 171)) (pc := 5) (k := 2) (lv' := [(2, .null), (0, .ref 0), (1, .int x1)]) (by decide +kernel) (by decide +kernel) (Or.inr (Or.inl rfl)) rfl) ?_
  refine ev_go0 (ev_one_pure (M := (ev_Mof 171)) (pc := 6) (i := .aload_n 2) (len := 1) (pc' := 7) (lv' := [(2, .null), (0, .ref 0), (1, .int x1)]) (st' := [.null]) (by decide +kernel) rfl) ?_
  refine ev_go0 (ev_w_ifnonnull (M := (ev_Mof 171)) (pc := 7) (o := 13) (t := 10) (by decide +kernel) (Or.inr ⟨rfl, rfl⟩)) ?_
  rfl
theorem ev_k3 (x1 : Int32) (hu_x1 : x1.toInt ≤ (-1 : Int)) {n : Nat} : ev_calld 12 368 [.ref 0, .int x1, .ref 723] ev_H0 n = some (.inl (some (.int (1))), ev_H0, n, 1, 6) := by
  refine ev_call_int (k := 7) (pcR := 14) (lv' := [(3, .retAddr 1), (0, .ref 0), (1, .int x1), (2, .ref 723)]) (v := (1)) (ty := .int) (by decide +kernel) rfl ?_ (by decide +kernel) (by decide +kernel) (by decide +kernel) (by decide)
  show ev_stepn _ 7 (0, [(0, .ref 0), (1, .int x1), (2, .ref 723)], [], _, _, 0, 0) = _
  refine ev_go0 (ev_one_pure (M := (ev_Mof 368)) (pc := 0) (i := .aload_n 2) (len := 1) (pc' := 1) (lv' := [(0, .ref 0), (1, .int x1), (2, .ref 723)]) (st' := [.ref 723]) (by decide +kernel) rfl) ?_
  refine ev_go0 (ev_w_iconst (M := (ev_Mof 368)) (pc := 1) (k := 0) (v := 0) (by decide +kernel) (by decide +kernel)) ?_
  refine ev_go0 (ev_one_pure (M := (ev_Mof 368)) (pc := 2) (i := .aload_n 0) (len := 1) (pc' := 3) (lv' := [(0, .ref 0), (1, .int x1), (2, .ref 723)]) (st' := [.ref 0, .int (0), .ref 723]) (by decide +kernel) rfl) ?_
  refine ev_go0 (ev_one_pure (M := (ev_Mof 368)) (pc := 3) (i := .iload_n 1) (len := 1) (pc' := 4) (lv' := [(0, .ref 0), (1, .int x1), (2, .ref 723)]) (st' := [.int x1, .ref 0, .int (0), .ref 723]) (by decide +kernel) rfl) ?_
  refine ev_go (ev_p_virtX (M := (ev_Mof 368)) (pc := 4) (x := 27) (t := 12) (mi := 171) (na := 1) (by decide +kernel) (by decide +kernel) (by decide +kernel) (by decide +kernel) rfl rfl (ev_recv_of ev_fH0) (ev_k2 x1 hu_x1) (by decide +kernel)) ?_
  refine ev_go0 (ev_w_astore_n (M := (ev_Mof 368)) (pc := 12) (k := 3) (lv' := [(3, .retAddr 1), (0, .ref 0), (1, .int x1), (2, .ref 723)]) (by decide +kernel) (by decide +kernel) (Or.inr (Or.inr ⟨_, rfl⟩)) rfl) ?_
  refine ev_go0 (ev_w_iconst (M := (ev_Mof 368)) (pc := 13) (k := 1) (v := 1) (by decide +kernel) (by decide +kernel)) ?_
  rfl
theorem ev_k4 (x1 : Int32) (hu_x1 : x1.toInt ≤ (-1 : Int)) {n : Nat} : ev_calld 10 222 [.int x1, .int (0), .int (-1)] (ev_H0.set 621 (.inr (13, (ev_F621.set 0 (.int (0)))))) n = some (.inl (some (.int (0))), (ev_H0.set 621 (.inr (13, (ev_F621.set 0 (.int (0)))))), n, 0, 0) := by
  refine ev_call_int (k := 4) (pcR := 15) (lv' := [(0, .int x1), (1, .int (0)), (2, .int (-1))]) (v := (0)) (ty := .boolean) (by decide +kernel) rfl ?_ (by decide +kernel) (by decide +kernel) (by decide +kernel) (by decide)
  show ev_stepn _ 4 (0, [(0, .int x1), (1, .int (0)), (2, .int (-1))], [], _, _, 0, 0) = _
  refine ev_go0 (ev_one_pure (M := (ev_Mof 222)) (pc := 0) (i := .iload_n 0) (len := 1) (pc' := 1) (lv' := [(0, .int x1), (1, .int (0)), (2, .int (-1))]) (st' := [.int x1]) (by decide +kernel) rfl) ?_
  refine ev_go0 (ev_one_pure (M := (ev_Mof 222)) (pc := 1) (i := .iload_n 1) (len := 1) (pc' := 2) (lv' := [(0, .int x1), (1, .int (0)), (2, .int (-1))]) (st' := [.int (0), .int x1]) (by decide +kernel) rfl) ?_
  refine ev_go0 (ev_w_icmp (M := (ev_Mof 222)) (pc := 2) (q := .lt) (o := 12) (b := true) (t := 14) (by decide +kernel) (ev_c_lt1 hu_x1 (by decide +kernel)) rfl) ?_
  refine ev_go0 (ev_w_iconst (M := (ev_Mof 222)) (pc := 14) (k := 0) (v := 0) (by decide +kernel) (by decide +kernel)) ?_
  rfl
theorem ev_k5 (x1 : Int32) (hu_x1 : x1.toInt ≤ (-1 : Int)) {n : Nat} : ev_calld 11 273 [.ref 621, .int x1] (ev_H0.set 621 (.inr (13, (ev_F621.set 0 (.int (0)))))) n = some (.inl (some (.int (0))), (ev_H0.set 621 (.inr (13, (ev_F621.set 0 (.int (0)))))), n, 0, 0) := by
  refine ev_call_int (k := 7) (pcR := 11) (lv' := [(0, .ref 621), (1, .int x1)]) (v := (0)) (ty := .boolean) (by decide +kernel) rfl ?_ (by decide +kernel) (by decide +kernel) (by decide +kernel) (by decide)
  show ev_stepn _ 7 (0, [(0, .ref 621), (1, .int x1)], [], _, _, 0, 0) = _
  refine ev_go0 (ev_one_pure (M := (ev_Mof 273)) (pc := 0) (i := .iload_n 1) (len := 1) (pc' := 1) (lv' := [(0, .ref 621), (1, .int x1)]) (st' := [.int x1]) (by decide +kernel) rfl) ?_
  refine ev_go0 (ev_w_iconst (M := (ev_Mof 273)) (pc := 1) (k := 0) (v := 0) (by decide +kernel) (by decide +kernel)) ?_
  refine ev_go0 (ev_one_pure (M := (ev_Mof 273)) (pc := 2) (i := .aload_n 0) (len := 1) (pc' := 3) (lv' := [(0, .ref 621), (1, .int x1)]) (st' := [.ref 621, .int (0), .int x1]) (by decide +kernel) rfl) ?_
  refine ev_go0 (ev_p_getf (M := (ev_Mof 273)) (pc := 3) (x := 525) (ci := 13) (f := 5) (fin := 0) (v := .int (0)) (by decide +kernel) (by decide +kernel) (ev_hself ev_fH621) rfl) ?_
  refine ev_go0 (ev_w_iconst (M := (ev_Mof 273)) (pc := 6) (k := 1) (v := 1) (by decide +kernel) (by decide +kernel)) ?_
  refine ev_go0 (ev_w_isub (M := (ev_Mof 273)) (pc := 7) (v := (-1)) (by decide +kernel) (by decide +kernel)) ?_
  refine ev_go0 (ev_w_stat (M := (ev_Mof 273)) (pc := 8) (y := 325) (kind := 2) (Or.inl rfl) (mi := 222) (na := 3) (by decide +kernel) (by decide +kernel) (by decide +kernel) (by decide +kernel) rfl rfl (ev_k4 x1 hu_x1)) ?_
  rfl
theorem ev_k6 {n : Nat} : ev_calld 11 221 [.ref 621, .int (1)] (ev_H0.set 621 (.inr (13, (ev_F621.set 0 (.int (0)))))) n = some (.inl (some (.int (0))), ((ev_H0.set 621 (.inr (13, (ev_F621.set 0 (.int (0)))))).set 621 (.inr (13, ((ev_F621.set 0 (.int (0))).set 0 (.int (1)))))), n, 0, 0) := by
  refine ev_call_int (k := 4) (pcR := 6) (lv' := [(0, .ref 621), (1, .int (1))]) (v := (0)) (ty := .int) (by decide +kernel) rfl ?_ (by decide +kernel) (by decide +kernel) (by decide +kernel) (by decide)
  show ev_stepn _ 4 (0, [(0, .ref 621), (1, .int (1))], [], _, _, 0, 0) = _
  refine ev_go0 (ev_one_pure (M := (ev_Mof 221)) (pc := 0) (i := .aload_n 0) (len := 1) (pc' := 1) (lv' := [(0, .ref 621), (1, .int (1))]) (st' := [.ref 621]) (by decide +kernel) rfl) ?_
  refine ev_go0 (ev_one_pure (M := (ev_Mof 221)) (pc := 1) (i := .iload_n 1) (len := 1) (pc' := 2) (lv' := [(0, .ref 621), (1, .int (1))]) (st' := [.int (1), .ref 621]) (by decide +kernel) rfl) ?_
  refine ev_go0 (ev_p_putf (M := (ev_Mof 221)) (pc := 2) (x := 321) (ci := 13) (f := 0) (by decide +kernel) (by decide +kernel) (ev_hself ev_fH621) rfl (by decide +kernel)) ?_
  refine ev_go0 (ev_w_iconst (M := (ev_Mof 221)) (pc := 5) (k := 0) (v := 0) (by decide +kernel) (by decide +kernel)) ?_
  rfl
theorem ev_k7 (x1 : Int32) (hu_x1 : x1.toInt ≤ (-1 : Int)) {n : Nat} : ev_calld 12 274 [.ref 621, .int x1] ev_H0 n = some (.inl (some (.int (0))), ((ev_H0.set 621 (.inr (13, (ev_F621.set 0 (.int (0)))))).set 621 (.inr (13, ((ev_F621.set 0 (.int (0))).set 0 (.int (1)))))), n, 0, 0) := by
  refine ev_call_int (k := 10) (pcR := 37) (lv' := [(0, .ref 621), (1, .int x1)]) (v := (0)) (ty := .int) (by decide +kernel) rfl ?_ (by decide +kernel) (by decide +kernel) (by decide +kernel) (by decide)
  show ev_stepn _ 10 (0, [(0, .ref 621), (1, .int x1)], [], _, _, 0, 0) = _
  refine ev_go0 (ev_one_pure (M := (ev_Mof 274)) (pc := 0) (i := .aload_n 0) (len := 1) (pc' := 1) (lv' := [(0, .ref 621), (1, .int x1)]) (st' := [.ref 621]) (by decide +kernel) rfl) ?_
  refine ev_go0 (ev_w_iconst (M := (ev_Mof 274)) (pc := 1) (k := 0) (v := 0) (by decide +kernel) (by decide +kernel)) ?_
  refine ev_go0 (ev_p_putf (M := (ev_Mof 274)) (pc := 2) (x := 321) (ci := 13) (f := 0) (by decide +kernel) (by decide +kernel) ev_fH621 rfl (by decide +kernel)) ?_
  refine ev_go0 (ev_one_pure (M := (ev_Mof 274)) (pc := 5) (i := .aload_n 0) (len := 1) (pc' := 6) (lv' := [(0, .ref 621), (1, .int x1)]) (st' := [.ref 621]) (by decide +kernel) rfl) ?_
  refine ev_go0 (ev_one_pure (M := (ev_Mof 274)) (pc := 6) (i := .iload_n 1) (len := 1) (pc' := 7) (lv' := [(0, .ref 621), (1, .int x1)]) (st' := [.int x1, .ref 621]) (by decide +kernel) rfl) ?_
  refine ev_go0 (ev_p_virt (M := (ev_Mof 274)) (pc := 7) (x := 531) (mi := 273) (na := 1) (by decide +kernel) (by decide +kernel) (by decide +kernel) (by decide +kernel) rfl rfl (ev_recv_of (ev_hself ev_fH621)) (ev_k5 x1 hu_x1)) ?_
  refine ev_go0 (ev_w_if (M := (ev_Mof 274)) (pc := 10) (q := .eq) (o := 22) (b := true) (t := 32) (by decide +kernel) (by decide +kernel) rfl) ?_
  refine ev_go0 (ev_one_pure (M := (ev_Mof 274)) (pc := 32) (i := .aload_n 0) (len := 1) (pc' := 33) (lv' := [(0, .ref 621), (1, .int x1)]) (st' := [.ref 621]) (by decide +kernel) rfl) ?_
  refine ev_go0 (ev_w_iconst (M := (ev_Mof 274)) (pc := 33) (k := 1) (v := 1) (by decide +kernel) (by decide +kernel)) ?_
  refine ev_go0 (ev_p_virt (M := (ev_Mof 274)) (pc := 34) (x := 342) (mi := 221) (na := 1) (by decide +kernel) (by decide +kernel) (by decide +kernel) (by decide +kernel) rfl rfl (ev_recv_of (ev_hself ev_fH621)) ev_k6) ?_
  rfl
theorem ev_k8 {n : Nat} : ev_calld 12 220 [.ref 621] ((ev_H0.set 621 (.inr (13, (ev_F621.set 0 (.int (0)))))).set 621 (.inr (13, ((ev_F621.set 0 (.int (0))).set 0 (.int (1)))))) n = some (.inl (some (.int (1))), ((ev_H0.set 621 (.inr (13, (ev_F621.set 0 (.int (0)))))).set 621 (.inr (13, ((ev_F621.set 0 (.int (0))).set 0 (.int (1)))))), n, 0, 0) := by
  refine ev_call_int (k := 2) (pcR := 4) (lv' := [(0, .ref 621)]) (v := (1)) (ty := .int) (by decide +kernel) rfl ?_ (by decide +kernel) (by decide +kernel) (by decide +kernel) (by decide)
  show ev_stepn _ 2 (0, [(0, .ref 621)], [], _, _, 0, 0) = _
  refine ev_go0 (ev_one_pure (M := (ev_Mof 220)) (pc := 0) (i := .aload_n 0) (len := 1) (pc' := 1) (lv' := [(0, .ref 621)]) (st' := [.ref 621]) (by decide +kernel) rfl) ?_
  refine ev_go0 (ev_p_getf (M := (ev_Mof 220)) (pc := 1) (x := 321) (ci := 13) (f := 0) (fin := 0) (v := .int (1)) (by decide +kernel) (by decide +kernel) (ev_hself (ev_hself ev_fH621)) rfl) ?_
  rfl
theorem ev_p1_5_n (xs : Nat → Int32) (x1 : Int32) (hu_x1 : x1.toInt ≤ (-1 : Int)) (e1 : xs 1 = x1) : ev_P1 xs 401 := by
  refine ⟨24, [(6, .int (0)), (5, .int (1)), (4, .int (0)), (3, .ref 723), (2, .ref 621), (1, .ref 0), (0, .retAddr 0)], ((ev_H0.set 621 (.inr (13, (ev_F621.set 0 (.int (0)))))).set 621 (.inr (13, ((ev_F621.set 0 (.int (0))).set 0 (.int (1)))))), 724, 725, 3553592, ?_, ⟨rfl, rfl, rfl, rfl⟩, rfl, by decide, by decide⟩
  show ev_stepn _ _ (401, [(4, .int (0)), (3, .ref 723), (2, .ref 621), (1, .ref 0), (0, .retAddr 0)], [], _, _, _, _) = _
  refine ev_go0 (ev_one_pure (M := ev_Mlaw) (pc := 401) (i := .aload_n 1) (len := 1) (pc' := 402) (lv' := [(4, .int (0)), (3, .ref 723), (2, .ref 621), (1, .ref 0), (0, .retAddr 0)]) (st' := [.ref 0]) (by decide +kernel) rfl) ?_
  refine ev_go0 (ev_one_pure (M := ev_Mlaw) (pc := 402) (i := .aload_n 0) (len := 1) (pc' := 403) (lv' := [(4, .int (0)), (3, .ref 723), (2, .ref 621), (1, .ref 0), (0, .retAddr 0)]) (st' := [.retAddr 0, .ref 0]) (by decide +kernel) rfl) ?_
  refine ev_go0 (ev_one_pure (M := ev_Mlaw) (pc := 403) (i := .iload 4) (len := 2) (pc' := 405) (lv' := [(4, .int (0)), (3, .ref 723), (2, .ref 621), (1, .ref 0), (0, .retAddr 0)]) (st' := [.int (0), .retAddr 0, .ref 0]) (by decide +kernel) rfl) ?_
  refine ev_go0 (ev_w_iconst (M := ev_Mlaw) (pc := 405) (k := 1) (v := 1) (by decide +kernel) (by decide +kernel)) ?_
  refine ev_go0 (ev_w_iadd (M := ev_Mlaw) (pc := 406) (v := (1)) (by decide +kernel) (by decide +kernel)) ?_
  refine ev_go0 (ev_w_scr (M := ev_Mlaw) (pc := 407) (v := x1) (j := 1) (by decide +kernel) (by decide +kernel) (by decide +kernel) e1) ?_
  refine ev_go0 (ev_one_pure (M := ev_Mlaw) (pc := 408) (i := .aload_n 3) (len := 1) (pc' := 409) (lv' := [(4, .int (0)), (3, .ref 723), (2, .ref 621), (1, .ref 0), (0, .retAddr 0)]) (st' := [.ref 723, .int x1, .ref 0]) (by decide +kernel) rfl) ?_
  refine ev_go (ev_w_stat (M := ev_Mlaw) (pc := 409) (y := 148) (kind := 8) (Or.inr (Or.inr rfl)) (mi := 368) (na := 3) (by decide +kernel) (by decide +kernel) (by decide +kernel) (by decide +kernel) rfl rfl (ev_k3 x1 hu_x1)) ?_
  refine ev_go0 (ev_w_istore (M := ev_Mlaw) (pc := 412) (k := 5) (lv' := [(5, .int (1)), (4, .int (0)), (3, .ref 723), (2, .ref 621), (1, .ref 0), (0, .retAddr 0)]) (by decide +kernel) (by decide +kernel) rfl) ?_
  refine ev_go0 (ev_one_pure (M := ev_Mlaw) (pc := 414) (i := .aload_n 2) (len := 1) (pc' := 415) (lv' := [(5, .int (1)), (4, .int (0)), (3, .ref 723), (2, .ref 621), (1, .ref 0), (0, .retAddr 0)]) (st' := [.ref 621]) (by decide +kernel) rfl) ?_
  refine ev_go0 (ev_one_pure (M := ev_Mlaw) (pc := 415) (i := .aload_n 0) (len := 1) (pc' := 416) (lv' := [(5, .int (1)), (4, .int (0)), (3, .ref 723), (2, .ref 621), (1, .ref 0), (0, .retAddr 0)]) (st' := [.retAddr 0, .ref 621]) (by decide +kernel) rfl) ?_
  refine ev_go0 (ev_one_pure (M := ev_Mlaw) (pc := 416) (i := .iload 4) (len := 2) (pc' := 418) (lv' := [(5, .int (1)), (4, .int (0)), (3, .ref 723), (2, .ref 621), (1, .ref 0), (0, .retAddr 0)]) (st' := [.int (0), .retAddr 0, .ref 621]) (by decide +kernel) rfl) ?_
  refine ev_go0 (ev_w_iconst (M := ev_Mlaw) (pc := 418) (k := 1) (v := 1) (by decide +kernel) (by decide +kernel)) ?_
  refine ev_go0 (ev_w_iadd (M := ev_Mlaw) (pc := 419) (v := (1)) (by decide +kernel) (by decide +kernel)) ?_
  refine ev_go0 (ev_w_scr (M := ev_Mlaw) (pc := 420) (v := x1) (j := 1) (by decide +kernel) (by decide +kernel) (by decide +kernel) e1) ?_
  refine ev_go0 (ev_p_virt (M := ev_Mlaw) (pc := 421) (x := 150) (mi := 274) (na := 1) (by decide +kernel) (by decide +kernel) (by decide +kernel) (by decide +kernel) rfl rfl (ev_recv_of ev_fH621) (ev_k7 x1 hu_x1)) ?_
  refine ev_go0 (ev_w_istore (M := ev_Mlaw) (pc := 424) (k := 6) (lv' := [(6, .int (0)), (5, .int (1)), (4, .int (0)), (3, .ref 723), (2, .ref 621), (1, .ref 0), (0, .retAddr 0)]) (by decide +kernel) (by decide +kernel) rfl) ?_
  refine ev_go0 (ev_one_pure (M := ev_Mlaw) (pc := 426) (i := .aload_n 2) (len := 1) (pc' := 427) (lv' := [(6, .int (0)), (5, .int (1)), (4, .int (0)), (3, .ref 723), (2, .ref 621), (1, .ref 0), (0, .retAddr 0)]) (st' := [.ref 621]) (by decide +kernel) rfl) ?_
  refine ev_go0 (ev_p_virt (M := ev_Mlaw) (pc := 427) (x := 131) (mi := 220) (na := 0) (by decide +kernel) (by decide +kernel) (by decide +kernel) (by decide +kernel) rfl rfl (ev_recv_of (ev_hself (ev_hself ev_fH621))) ev_k8) ?_
  refine ev_go0 (ev_one_pure (M := ev_Mlaw) (pc := 430) (i := .iload 5) (len := 2) (pc' := 432) (lv' := [(6, .int (0)), (5, .int (1)), (4, .int (0)), (3, .ref 723), (2, .ref 621), (1, .ref 0), (0, .retAddr 0)]) (st' := [.int (1), .int (1)]) (by decide +kernel) rfl) ?_
  refine ev_go0 (ev_w_icmp (M := ev_Mlaw) (pc := 432) (q := .eq) (o := 5) (b := true) (t := 437) (by decide +kernel) (by decide +kernel) rfl) ?_
  refine ev_go0 (ev_one_pure (M := ev_Mlaw) (pc := 437) (i := .iload 5) (len := 2) (pc' := 439) (lv' := [(6, .int (0)), (5, .int (1)), (4, .int (0)), (3, .ref 723), (2, .ref 621), (1, .ref 0), (0, .retAddr 0)]) (st' := [.int (1)]) (by decide +kernel) rfl) ?_
  refine ev_go0 (ev_w_if (M := ev_Mlaw) (pc := 439) (q := .ne) (o := 15) (b := true) (t := 454) (by decide +kernel) (by decide +kernel) rfl) ?_
  refine ev_go0 (ev_one_pure (M := ev_Mlaw) (pc := 454) (i := .goto 1818) (len := 3) (pc' := 2272) (lv' := [(6, .int (0)), (5, .int (1)), (4, .int (0)), (3, .ref 723), (2, .ref 621), (1, .ref 0), (0, .retAddr 0)]) (st' := []) (by decide +kernel) rfl) ?_
  rfl
theorem ev_k9 (x1 : Int32) (hl_x1 : (0 : Int) ≤ x1.toInt) {n : Nat} : ev_calld 10 200 [.ref 0, .int x1] ev_H0 n = some (.inl (some (.null)), ev_H0, n, 0, 0) := by
  refine ev_call_ref (k := 7) (pcR := 28) (lv' := [(0, .ref 0), (1, .int x1)]) (v := .null) (C := "MendBench$Pattern") (by decide +kernel) rfl ?_ (by decide +kernel) (by decide +kernel) rfl (by decide)
  show ev_stepn _ 7 (0, [(0, .ref 0), (1, .int x1)], [], _, _, 0, 0) = _
  refine ev_go0 (ev_one_pure (M := (ev_Mof 200)) (pc := 0) (i := .iload_n 1) (len := 1) (pc' := 1) (lv' := [(0, .ref 0), (1, .int x1)]) (st' := [.int x1]) (by decide +kernel) rfl) ?_
  refine ev_go0 (ev_w_if (M := (ev_Mof 200)) (pc := 1) (q := .lt) (o := 26) (b := false) (t := 4) (by decide +kernel) (ev_c_lt0 hl_x1 (by decide +kernel)) rfl) ?_
  refine ev_go0 (ev_one_pure (M := (ev_Mof 200)) (pc := 4) (i := .iload_n 1) (len := 1) (pc' := 5) (lv' := [(0, .ref 0), (1, .int x1)]) (st' := [.int x1]) (by decide +kernel) rfl) ?_
  refine ev_go0 (ev_one_pure (M := (ev_Mof 200)) (pc := 5) (i := .aload_n 0) (len := 1) (pc' := 6) (lv' := [(0, .ref 0), (1, .int x1)]) (st' := [.ref 0, .int x1]) (by decide +kernel) rfl) ?_
  refine ev_go0 (ev_p_getf (M := (ev_Mof 200)) (pc := 6) (x := 134) (ci := 12) (f := 5) (fin := 0) (v := .int (0)) (by decide +kernel) (by decide +kernel) ev_fH0 rfl) ?_
  refine ev_go0 (ev_w_icmp (M := (ev_Mof 200)) (pc := 9) (q := .ge) (o := 18) (b := true) (t := 27) (by decide +kernel) (ev_c_ge1 hl_x1 (by decide +kernel)) rfl) ?_
  refine ev_go0 (ev_one_pure (M := (ev_Mof 200)) (pc := 27) (i := .aconst_null) (len := 1) (pc' := 28) (lv' := [(0, .ref 0), (1, .int x1)]) (st' := [.null]) (by decide +kernel) rfl) ?_
  rfl
theorem ev_k10 (x1 : Int32) (hl_x1 : (0 : Int) ≤ x1.toInt) {n : Nat} : ev_calld 11 171 [.ref 0, .int x1] ev_H0 n = some (.inr "java/lang/IndexOutOfBoundsException", ev_H0, n, 1, 6) := by
  refine ev_call_thrown (k := 6) (pcR := 10) (x := 160) (lv' := [(2, .null), (0, .ref 0), (1, .int x1)]) (by decide +kernel) rfl ?_ (by decide +kernel) (by decide +kernel) (by decide +kernel) (by decide) (by decide)
  show ev_stepn _ 6 (0, [(0, .ref 0), (1, .int x1)], [], _, _, 0, 0) = _
  refine ev_go0 (ev_one_pure (M := (ev_Mof 171)) (pc := 0) (i := .aload_n 0) (len := 1) (pc' := 1) (lv' := [(0, .ref 0), (1, .int x1)]) (st' := [.ref 0]) (by decide +kernel) rfl) ?_
  refine ev_go0 (ev_one_pure (M := (ev_Mof 171)) (pc := 1) (i := .iload_n 1) (len := 1) (pc' := 2) (lv' := [(0, .ref 0), (1, .int x1)]) (st' := [.int x1, .ref 0]) (by decide +kernel) rfl) ?_
  refine ev_go0 (ev_p_virt (M := (ev_Mof 171)) (pc := 2) (x := 156) (mi := 200) (na := 1) (by decide +kernel) (by decide +kernel) (by decide +kernel) (by decide +kernel) rfl rfl (ev_recv_of ev_fH0) (ev_k9 x1 hl_x1)) ?_
  refine ev_go0 (ev_w_astore_n (M := (ev_Mof 171)) (pc := 5) (k := 2) (lv' := [(2, .null), (0, .ref 0), (1, .int x1)]) (by decide +kernel) (by decide +kernel) (Or.inr (Or.inl rfl)) rfl) ?_
  refine ev_go0 (ev_one_pure (M := (ev_Mof 171)) (pc := 6) (i := .aload_n 2) (len := 1) (pc' := 7) (lv' := [(2, .null), (0, .ref 0), (1, .int x1)]) (st' := [.null]) (by decide +kernel) rfl) ?_
  refine ev_go0 (ev_w_ifnonnull (M := (ev_Mof 171)) (pc := 7) (o := 13) (t := 10) (by decide +kernel) (Or.inr ⟨rfl, rfl⟩)) ?_
  rfl
theorem ev_k11 (x1 : Int32) (hl_x1 : (0 : Int) ≤ x1.toInt) {n : Nat} : ev_calld 12 368 [.ref 0, .int x1, .ref 723] ev_H0 n = some (.inl (some (.int (1))), ev_H0, n, 1, 6) := by
  refine ev_call_int (k := 7) (pcR := 14) (lv' := [(3, .retAddr 1), (0, .ref 0), (1, .int x1), (2, .ref 723)]) (v := (1)) (ty := .int) (by decide +kernel) rfl ?_ (by decide +kernel) (by decide +kernel) (by decide +kernel) (by decide)
  show ev_stepn _ 7 (0, [(0, .ref 0), (1, .int x1), (2, .ref 723)], [], _, _, 0, 0) = _
  refine ev_go0 (ev_one_pure (M := (ev_Mof 368)) (pc := 0) (i := .aload_n 2) (len := 1) (pc' := 1) (lv' := [(0, .ref 0), (1, .int x1), (2, .ref 723)]) (st' := [.ref 723]) (by decide +kernel) rfl) ?_
  refine ev_go0 (ev_w_iconst (M := (ev_Mof 368)) (pc := 1) (k := 0) (v := 0) (by decide +kernel) (by decide +kernel)) ?_
  refine ev_go0 (ev_one_pure (M := (ev_Mof 368)) (pc := 2) (i := .aload_n 0) (len := 1) (pc' := 3) (lv' := [(0, .ref 0), (1, .int x1), (2, .ref 723)]) (st' := [.ref 0, .int (0), .ref 723]) (by decide +kernel) rfl) ?_
  refine ev_go0 (ev_one_pure (M := (ev_Mof 368)) (pc := 3) (i := .iload_n 1) (len := 1) (pc' := 4) (lv' := [(0, .ref 0), (1, .int x1), (2, .ref 723)]) (st' := [.int x1, .ref 0, .int (0), .ref 723]) (by decide +kernel) rfl) ?_
  refine ev_go (ev_p_virtX (M := (ev_Mof 368)) (pc := 4) (x := 27) (t := 12) (mi := 171) (na := 1) (by decide +kernel) (by decide +kernel) (by decide +kernel) (by decide +kernel) rfl rfl (ev_recv_of ev_fH0) (ev_k10 x1 hl_x1) (by decide +kernel)) ?_
  refine ev_go0 (ev_w_astore_n (M := (ev_Mof 368)) (pc := 12) (k := 3) (lv' := [(3, .retAddr 1), (0, .ref 0), (1, .int x1), (2, .ref 723)]) (by decide +kernel) (by decide +kernel) (Or.inr (Or.inr ⟨_, rfl⟩)) rfl) ?_
  refine ev_go0 (ev_w_iconst (M := (ev_Mof 368)) (pc := 13) (k := 1) (v := 1) (by decide +kernel) (by decide +kernel)) ?_
  rfl
theorem ev_k12 (x1 : Int32) (hl_x1 : (0 : Int) ≤ x1.toInt) {n : Nat} : ev_calld 10 222 [.int x1, .int (0), .int (-1)] (ev_H0.set 621 (.inr (13, (ev_F621.set 0 (.int (0)))))) n = some (.inl (some (.int (0))), (ev_H0.set 621 (.inr (13, (ev_F621.set 0 (.int (0)))))), n, 0, 0) := by
  refine ev_call_int (k := 7) (pcR := 15) (lv' := [(0, .int x1), (1, .int (0)), (2, .int (-1))]) (v := (0)) (ty := .boolean) (by decide +kernel) rfl ?_ (by decide +kernel) (by decide +kernel) (by decide +kernel) (by decide)
  show ev_stepn _ 7 (0, [(0, .int x1), (1, .int (0)), (2, .int (-1))], [], _, _, 0, 0) = _
  refine ev_go0 (ev_one_pure (M := (ev_Mof 222)) (pc := 0) (i := .iload_n 0) (len := 1) (pc' := 1) (lv' := [(0, .int x1), (1, .int (0)), (2, .int (-1))]) (st' := [.int x1]) (by decide +kernel) rfl) ?_
  refine ev_go0 (ev_one_pure (M := (ev_Mof 222)) (pc := 1) (i := .iload_n 1) (len := 1) (pc' := 2) (lv' := [(0, .int x1), (1, .int (0)), (2, .int (-1))]) (st' := [.int (0), .int x1]) (by decide +kernel) rfl) ?_
  refine ev_go0 (ev_w_icmp (M := (ev_Mof 222)) (pc := 2) (q := .lt) (o := 12) (b := false) (t := 5) (by decide +kernel) (ev_c_lt0 hl_x1 (by decide +kernel)) rfl) ?_
  refine ev_go0 (ev_one_pure (M := (ev_Mof 222)) (pc := 5) (i := .iload_n 0) (len := 1) (pc' := 6) (lv' := [(0, .int x1), (1, .int (0)), (2, .int (-1))]) (st' := [.int x1]) (by decide +kernel) rfl) ?_
  refine ev_go0 (ev_one_pure (M := (ev_Mof 222)) (pc := 6) (i := .iload_n 2) (len := 1) (pc' := 7) (lv' := [(0, .int x1), (1, .int (0)), (2, .int (-1))]) (st' := [.int (-1), .int x1]) (by decide +kernel) rfl) ?_
  refine ev_go0 (ev_w_icmp (M := (ev_Mof 222)) (pc := 7) (q := .gt) (o := 7) (b := true) (t := 14) (by decide +kernel) (ev_c_gt1 hl_x1 (by decide +kernel)) rfl) ?_
  refine ev_go0 (ev_w_iconst (M := (ev_Mof 222)) (pc := 14) (k := 0) (v := 0) (by decide +kernel) (by decide +kernel)) ?_
  rfl
theorem ev_k13 (x1 : Int32) (hl_x1 : (0 : Int) ≤ x1.toInt) {n : Nat} : ev_calld 11 273 [.ref 621, .int x1] (ev_H0.set 621 (.inr (13, (ev_F621.set 0 (.int (0)))))) n = some (.inl (some (.int (0))), (ev_H0.set 621 (.inr (13, (ev_F621.set 0 (.int (0)))))), n, 0, 0) := by
  refine ev_call_int (k := 7) (pcR := 11) (lv' := [(0, .ref 621), (1, .int x1)]) (v := (0)) (ty := .boolean) (by decide +kernel) rfl ?_ (by decide +kernel) (by decide +kernel) (by decide +kernel) (by decide)
  show ev_stepn _ 7 (0, [(0, .ref 621), (1, .int x1)], [], _, _, 0, 0) = _
  refine ev_go0 (ev_one_pure (M := (ev_Mof 273)) (pc := 0) (i := .iload_n 1) (len := 1) (pc' := 1) (lv' := [(0, .ref 621), (1, .int x1)]) (st' := [.int x1]) (by decide +kernel) rfl) ?_
  refine ev_go0 (ev_w_iconst (M := (ev_Mof 273)) (pc := 1) (k := 0) (v := 0) (by decide +kernel) (by decide +kernel)) ?_
  refine ev_go0 (ev_one_pure (M := (ev_Mof 273)) (pc := 2) (i := .aload_n 0) (len := 1) (pc' := 3) (lv' := [(0, .ref 621), (1, .int x1)]) (st' := [.ref 621, .int (0), .int x1]) (by decide +kernel) rfl) ?_
  refine ev_go0 (ev_p_getf (M := (ev_Mof 273)) (pc := 3) (x := 525) (ci := 13) (f := 5) (fin := 0) (v := .int (0)) (by decide +kernel) (by decide +kernel) (ev_hself ev_fH621) rfl) ?_
  refine ev_go0 (ev_w_iconst (M := (ev_Mof 273)) (pc := 6) (k := 1) (v := 1) (by decide +kernel) (by decide +kernel)) ?_
  refine ev_go0 (ev_w_isub (M := (ev_Mof 273)) (pc := 7) (v := (-1)) (by decide +kernel) (by decide +kernel)) ?_
  refine ev_go0 (ev_w_stat (M := (ev_Mof 273)) (pc := 8) (y := 325) (kind := 2) (Or.inl rfl) (mi := 222) (na := 3) (by decide +kernel) (by decide +kernel) (by decide +kernel) (by decide +kernel) rfl rfl (ev_k12 x1 hl_x1)) ?_
  rfl
theorem ev_k14 (x1 : Int32) (hl_x1 : (0 : Int) ≤ x1.toInt) {n : Nat} : ev_calld 12 274 [.ref 621, .int x1] ev_H0 n = some (.inl (some (.int (0))), ((ev_H0.set 621 (.inr (13, (ev_F621.set 0 (.int (0)))))).set 621 (.inr (13, ((ev_F621.set 0 (.int (0))).set 0 (.int (1)))))), n, 0, 0) := by
  refine ev_call_int (k := 10) (pcR := 37) (lv' := [(0, .ref 621), (1, .int x1)]) (v := (0)) (ty := .int) (by decide +kernel) rfl ?_ (by decide +kernel) (by decide +kernel) (by decide +kernel) (by decide)
  show ev_stepn _ 10 (0, [(0, .ref 621), (1, .int x1)], [], _, _, 0, 0) = _
  refine ev_go0 (ev_one_pure (M := (ev_Mof 274)) (pc := 0) (i := .aload_n 0) (len := 1) (pc' := 1) (lv' := [(0, .ref 621), (1, .int x1)]) (st' := [.ref 621]) (by decide +kernel) rfl) ?_
  refine ev_go0 (ev_w_iconst (M := (ev_Mof 274)) (pc := 1) (k := 0) (v := 0) (by decide +kernel) (by decide +kernel)) ?_
  refine ev_go0 (ev_p_putf (M := (ev_Mof 274)) (pc := 2) (x := 321) (ci := 13) (f := 0) (by decide +kernel) (by decide +kernel) ev_fH621 rfl (by decide +kernel)) ?_
  refine ev_go0 (ev_one_pure (M := (ev_Mof 274)) (pc := 5) (i := .aload_n 0) (len := 1) (pc' := 6) (lv' := [(0, .ref 621), (1, .int x1)]) (st' := [.ref 621]) (by decide +kernel) rfl) ?_
  refine ev_go0 (ev_one_pure (M := (ev_Mof 274)) (pc := 6) (i := .iload_n 1) (len := 1) (pc' := 7) (lv' := [(0, .ref 621), (1, .int x1)]) (st' := [.int x1, .ref 621]) (by decide +kernel) rfl) ?_
  refine ev_go0 (ev_p_virt (M := (ev_Mof 274)) (pc := 7) (x := 531) (mi := 273) (na := 1) (by decide +kernel) (by decide +kernel) (by decide +kernel) (by decide +kernel) rfl rfl (ev_recv_of (ev_hself ev_fH621)) (ev_k13 x1 hl_x1)) ?_
  refine ev_go0 (ev_w_if (M := (ev_Mof 274)) (pc := 10) (q := .eq) (o := 22) (b := true) (t := 32) (by decide +kernel) (by decide +kernel) rfl) ?_
  refine ev_go0 (ev_one_pure (M := (ev_Mof 274)) (pc := 32) (i := .aload_n 0) (len := 1) (pc' := 33) (lv' := [(0, .ref 621), (1, .int x1)]) (st' := [.ref 621]) (by decide +kernel) rfl) ?_
  refine ev_go0 (ev_w_iconst (M := (ev_Mof 274)) (pc := 33) (k := 1) (v := 1) (by decide +kernel) (by decide +kernel)) ?_
  refine ev_go0 (ev_p_virt (M := (ev_Mof 274)) (pc := 34) (x := 342) (mi := 221) (na := 1) (by decide +kernel) (by decide +kernel) (by decide +kernel) (by decide +kernel) rfl rfl (ev_recv_of (ev_hself ev_fH621)) ev_k6) ?_
  rfl
theorem ev_p1_5_p (xs : Nat → Int32) (x1 : Int32) (hl_x1 : (0 : Int) ≤ x1.toInt) (e1 : xs 1 = x1) : ev_P1 xs 401 := by
  refine ⟨24, [(6, .int (0)), (5, .int (1)), (4, .int (0)), (3, .ref 723), (2, .ref 621), (1, .ref 0), (0, .retAddr 0)], ((ev_H0.set 621 (.inr (13, (ev_F621.set 0 (.int (0)))))).set 621 (.inr (13, ((ev_F621.set 0 (.int (0))).set 0 (.int (1)))))), 724, 725, 3553592, ?_, ⟨rfl, rfl, rfl, rfl⟩, rfl, by decide, by decide⟩
  show ev_stepn _ _ (401, [(4, .int (0)), (3, .ref 723), (2, .ref 621), (1, .ref 0), (0, .retAddr 0)], [], _, _, _, _) = _
  refine ev_go0 (ev_one_pure (M := ev_Mlaw) (pc := 401) (i := .aload_n 1) (len := 1) (pc' := 402) (lv' := [(4, .int (0)), (3, .ref 723), (2, .ref 621), (1, .ref 0), (0, .retAddr 0)]) (st' := [.ref 0]) (by decide +kernel) rfl) ?_
  refine ev_go0 (ev_one_pure (M := ev_Mlaw) (pc := 402) (i := .aload_n 0) (len := 1) (pc' := 403) (lv' := [(4, .int (0)), (3, .ref 723), (2, .ref 621), (1, .ref 0), (0, .retAddr 0)]) (st' := [.retAddr 0, .ref 0]) (by decide +kernel) rfl) ?_
  refine ev_go0 (ev_one_pure (M := ev_Mlaw) (pc := 403) (i := .iload 4) (len := 2) (pc' := 405) (lv' := [(4, .int (0)), (3, .ref 723), (2, .ref 621), (1, .ref 0), (0, .retAddr 0)]) (st' := [.int (0), .retAddr 0, .ref 0]) (by decide +kernel) rfl) ?_
  refine ev_go0 (ev_w_iconst (M := ev_Mlaw) (pc := 405) (k := 1) (v := 1) (by decide +kernel) (by decide +kernel)) ?_
  refine ev_go0 (ev_w_iadd (M := ev_Mlaw) (pc := 406) (v := (1)) (by decide +kernel) (by decide +kernel)) ?_
  refine ev_go0 (ev_w_scr (M := ev_Mlaw) (pc := 407) (v := x1) (j := 1) (by decide +kernel) (by decide +kernel) (by decide +kernel) e1) ?_
  refine ev_go0 (ev_one_pure (M := ev_Mlaw) (pc := 408) (i := .aload_n 3) (len := 1) (pc' := 409) (lv' := [(4, .int (0)), (3, .ref 723), (2, .ref 621), (1, .ref 0), (0, .retAddr 0)]) (st' := [.ref 723, .int x1, .ref 0]) (by decide +kernel) rfl) ?_
  refine ev_go (ev_w_stat (M := ev_Mlaw) (pc := 409) (y := 148) (kind := 8) (Or.inr (Or.inr rfl)) (mi := 368) (na := 3) (by decide +kernel) (by decide +kernel) (by decide +kernel) (by decide +kernel) rfl rfl (ev_k11 x1 hl_x1)) ?_
  refine ev_go0 (ev_w_istore (M := ev_Mlaw) (pc := 412) (k := 5) (lv' := [(5, .int (1)), (4, .int (0)), (3, .ref 723), (2, .ref 621), (1, .ref 0), (0, .retAddr 0)]) (by decide +kernel) (by decide +kernel) rfl) ?_
  refine ev_go0 (ev_one_pure (M := ev_Mlaw) (pc := 414) (i := .aload_n 2) (len := 1) (pc' := 415) (lv' := [(5, .int (1)), (4, .int (0)), (3, .ref 723), (2, .ref 621), (1, .ref 0), (0, .retAddr 0)]) (st' := [.ref 621]) (by decide +kernel) rfl) ?_
  refine ev_go0 (ev_one_pure (M := ev_Mlaw) (pc := 415) (i := .aload_n 0) (len := 1) (pc' := 416) (lv' := [(5, .int (1)), (4, .int (0)), (3, .ref 723), (2, .ref 621), (1, .ref 0), (0, .retAddr 0)]) (st' := [.retAddr 0, .ref 621]) (by decide +kernel) rfl) ?_
  refine ev_go0 (ev_one_pure (M := ev_Mlaw) (pc := 416) (i := .iload 4) (len := 2) (pc' := 418) (lv' := [(5, .int (1)), (4, .int (0)), (3, .ref 723), (2, .ref 621), (1, .ref 0), (0, .retAddr 0)]) (st' := [.int (0), .retAddr 0, .ref 621]) (by decide +kernel) rfl) ?_
  refine ev_go0 (ev_w_iconst (M := ev_Mlaw) (pc := 418) (k := 1) (v := 1) (by decide +kernel) (by decide +kernel)) ?_
  refine ev_go0 (ev_w_iadd (M := ev_Mlaw) (pc := 419) (v := (1)) (by decide +kernel) (by decide +kernel)) ?_
  refine ev_go0 (ev_w_scr (M := ev_Mlaw) (pc := 420) (v := x1) (j := 1) (by decide +kernel) (by decide +kernel) (by decide +kernel) e1) ?_
  refine ev_go0 (ev_p_virt (M := ev_Mlaw) (pc := 421) (x := 150) (mi := 274) (na := 1) (by decide +kernel) (by decide +kernel) (by decide +kernel) (by decide +kernel) rfl rfl (ev_recv_of ev_fH621) (ev_k14 x1 hl_x1)) ?_
  refine ev_go0 (ev_w_istore (M := ev_Mlaw) (pc := 424) (k := 6) (lv' := [(6, .int (0)), (5, .int (1)), (4, .int (0)), (3, .ref 723), (2, .ref 621), (1, .ref 0), (0, .retAddr 0)]) (by decide +kernel) (by decide +kernel) rfl) ?_
  refine ev_go0 (ev_one_pure (M := ev_Mlaw) (pc := 426) (i := .aload_n 2) (len := 1) (pc' := 427) (lv' := [(6, .int (0)), (5, .int (1)), (4, .int (0)), (3, .ref 723), (2, .ref 621), (1, .ref 0), (0, .retAddr 0)]) (st' := [.ref 621]) (by decide +kernel) rfl) ?_
  refine ev_go0 (ev_p_virt (M := ev_Mlaw) (pc := 427) (x := 131) (mi := 220) (na := 0) (by decide +kernel) (by decide +kernel) (by decide +kernel) (by decide +kernel) rfl rfl (ev_recv_of (ev_hself (ev_hself ev_fH621))) ev_k8) ?_
  refine ev_go0 (ev_one_pure (M := ev_Mlaw) (pc := 430) (i := .iload 5) (len := 2) (pc' := 432) (lv' := [(6, .int (0)), (5, .int (1)), (4, .int (0)), (3, .ref 723), (2, .ref 621), (1, .ref 0), (0, .retAddr 0)]) (st' := [.int (1), .int (1)]) (by decide +kernel) rfl) ?_
  refine ev_go0 (ev_w_icmp (M := ev_Mlaw) (pc := 432) (q := .eq) (o := 5) (b := true) (t := 437) (by decide +kernel) (by decide +kernel) rfl) ?_
  refine ev_go0 (ev_one_pure (M := ev_Mlaw) (pc := 437) (i := .iload 5) (len := 2) (pc' := 439) (lv' := [(6, .int (0)), (5, .int (1)), (4, .int (0)), (3, .ref 723), (2, .ref 621), (1, .ref 0), (0, .retAddr 0)]) (st' := [.int (1)]) (by decide +kernel) rfl) ?_
  refine ev_go0 (ev_w_if (M := ev_Mlaw) (pc := 439) (q := .ne) (o := 15) (b := true) (t := 454) (by decide +kernel) (by decide +kernel) rfl) ?_
  refine ev_go0 (ev_one_pure (M := ev_Mlaw) (pc := 454) (i := .goto 1818) (len := 3) (pc' := 2272) (lv' := [(6, .int (0)), (5, .int (1)), (4, .int (0)), (3, .ref 723), (2, .ref 621), (1, .ref 0), (0, .retAddr 0)]) (st' := []) (by decide +kernel) rfl) ?_
  rfl
theorem ev_p1arm5 (xs : Nat → Int32) : ev_P1 xs 401 := by
  rcases ev_split2 (xs 1) with h1 | h1
  · skip
    exact ev_p1_5_n xs (xs 1) h1 rfl
  · skip
    exact ev_p1_5_p xs (xs 1) h1 rfl
theorem ev_k15 (x1 : Int32) (hu_x1 : x1.toInt ≤ (-1 : Int)) {n : Nat} : ev_calld 11 172 [.ref 0, .int x1] ev_H0 n = some (.inr "java/lang/IndexOutOfBoundsException", ev_H0, n, 1, 6) := by
  refine ev_call_thrown (k := 6) (pcR := 10) (x := 160) (lv' := [(2, .null), (0, .ref 0), (1, .int x1)]) (by decide +kernel) rfl ?_ (by decide +kernel) (by decide +kernel) (by decide +kernel) (by decide) (by decide)
  show ev_stepn _ 6 (0, [(0, .ref 0), (1, .int x1)], [], _, _, 0, 0) = _
  refine ev_go0 (ev_one_pure (M := (ev_Mof 172)) (pc := 0) (i := .aload_n 0) (len := 1) (pc' := 1) (lv' := [(0, .ref 0), (1, .int x1)]) (st' := [.ref 0]) (by decide +kernel) rfl) ?_
  refine ev_go0 (ev_one_pure (M := (ev_Mof 172)) (pc := 1) (i := .iload_n 1) (len := 1) (pc' := 2) (lv' := [(0, .ref 0), (1, .int x1)]) (st' := [.int x1, .ref 0]) (by decide +kernel) rfl) ?_
  refine ev_go0 (ev_p_virt (M := (ev_Mof 172)) (pc := 2) (x := 156) (mi := 200) (na := 1) (by decide +kernel) (by decide +kernel) (by decide +kernel) (by decide +kernel) rfl rfl (ev_recv_of ev_fH0) (ev_k1 x1 hu_x1)) ?_
  refine ev_go0 (ev_w_astore_n (M := (ev_Mof 172)) (pc := 5) (k := 2) (lv' := [(2, .null), (0, .ref 0), (1, .int x1)]) (by decide +kernel) (by decide +kernel) (Or.inr (Or.inl rfl)) rfl) ?_
  refine ev_go0 (ev_one_pure (M := (ev_Mof 172)) (pc := 6) (i := .aload_n 2) (len := 1) (pc' := 7) (lv' := [(2, .null), (0, .ref 0), (1, .int x1)]) (st' := [.null]) (by decide +kernel) rfl) ?_
  refine ev_go0 (ev_w_ifnonnull (M := (ev_Mof 172)) (pc := 7) (o := 13) (t := 10) (by decide +kernel) (Or.inr ⟨rfl, rfl⟩)) ?_
  rfl
theorem ev_k16 (x1 : Int32) (hu_x1 : x1.toInt ≤ (-1 : Int)) {n : Nat} : ev_calld 12 369 [.ref 0, .int x1, .ref 723] ev_H0 n = some (.inl (some (.int (1))), ev_H0, n, 1, 6) := by
  refine ev_call_int (k := 7) (pcR := 14) (lv' := [(3, .retAddr 1), (0, .ref 0), (1, .int x1), (2, .ref 723)]) (v := (1)) (ty := .int) (by decide +kernel) rfl ?_ (by decide +kernel) (by decide +kernel) (by decide +kernel) (by decide)
  show ev_stepn _ 7 (0, [(0, .ref 0), (1, .int x1), (2, .ref 723)], [], _, _, 0, 0) = _
  refine ev_go0 (ev_one_pure (M := (ev_Mof 369)) (pc := 0) (i := .aload_n 2) (len := 1) (pc' := 1) (lv' := [(0, .ref 0), (1, .int x1), (2, .ref 723)]) (st' := [.ref 723]) (by decide +kernel) rfl) ?_
  refine ev_go0 (ev_w_iconst (M := (ev_Mof 369)) (pc := 1) (k := 0) (v := 0) (by decide +kernel) (by decide +kernel)) ?_
  refine ev_go0 (ev_one_pure (M := (ev_Mof 369)) (pc := 2) (i := .aload_n 0) (len := 1) (pc' := 3) (lv' := [(0, .ref 0), (1, .int x1), (2, .ref 723)]) (st' := [.ref 0, .int (0), .ref 723]) (by decide +kernel) rfl) ?_
  refine ev_go0 (ev_one_pure (M := (ev_Mof 369)) (pc := 3) (i := .iload_n 1) (len := 1) (pc' := 4) (lv' := [(0, .ref 0), (1, .int x1), (2, .ref 723)]) (st' := [.int x1, .ref 0, .int (0), .ref 723]) (by decide +kernel) rfl) ?_
  refine ev_go (ev_p_virtX (M := (ev_Mof 369)) (pc := 4) (x := 32) (t := 12) (mi := 172) (na := 1) (by decide +kernel) (by decide +kernel) (by decide +kernel) (by decide +kernel) rfl rfl (ev_recv_of ev_fH0) (ev_k15 x1 hu_x1) (by decide +kernel)) ?_
  refine ev_go0 (ev_w_astore_n (M := (ev_Mof 369)) (pc := 12) (k := 3) (lv' := [(3, .retAddr 1), (0, .ref 0), (1, .int x1), (2, .ref 723)]) (by decide +kernel) (by decide +kernel) (Or.inr (Or.inr ⟨_, rfl⟩)) rfl) ?_
  refine ev_go0 (ev_w_iconst (M := (ev_Mof 369)) (pc := 13) (k := 1) (v := 1) (by decide +kernel) (by decide +kernel)) ?_
  rfl
theorem ev_k17 (x1 : Int32) (hu_x1 : x1.toInt ≤ (-1 : Int)) {n : Nat} : ev_calld 12 275 [.ref 621, .int x1] ev_H0 n = some (.inl (some (.int (0))), ((ev_H0.set 621 (.inr (13, (ev_F621.set 0 (.int (0)))))).set 621 (.inr (13, ((ev_F621.set 0 (.int (0))).set 0 (.int (1)))))), n, 0, 0) := by
  refine ev_call_int (k := 10) (pcR := 31) (lv' := [(0, .ref 621), (1, .int x1)]) (v := (0)) (ty := .int) (by decide +kernel) rfl ?_ (by decide +kernel) (by decide +kernel) (by decide +kernel) (by decide)
  show ev_stepn _ 10 (0, [(0, .ref 621), (1, .int x1)], [], _, _, 0, 0) = _
  refine ev_go0 (ev_one_pure (M := (ev_Mof 275)) (pc := 0) (i := .aload_n 0) (len := 1) (pc' := 1) (lv' := [(0, .ref 621), (1, .int x1)]) (st' := [.ref 621]) (by decide +kernel) rfl) ?_
  refine ev_go0 (ev_w_iconst (M := (ev_Mof 275)) (pc := 1) (k := 0) (v := 0) (by decide +kernel) (by decide +kernel)) ?_
  refine ev_go0 (ev_p_putf (M := (ev_Mof 275)) (pc := 2) (x := 321) (ci := 13) (f := 0) (by decide +kernel) (by decide +kernel) ev_fH621 rfl (by decide +kernel)) ?_
  refine ev_go0 (ev_one_pure (M := (ev_Mof 275)) (pc := 5) (i := .aload_n 0) (len := 1) (pc' := 6) (lv' := [(0, .ref 621), (1, .int x1)]) (st' := [.ref 621]) (by decide +kernel) rfl) ?_
  refine ev_go0 (ev_one_pure (M := (ev_Mof 275)) (pc := 6) (i := .iload_n 1) (len := 1) (pc' := 7) (lv' := [(0, .ref 621), (1, .int x1)]) (st' := [.int x1, .ref 621]) (by decide +kernel) rfl) ?_
  refine ev_go0 (ev_p_virt (M := (ev_Mof 275)) (pc := 7) (x := 531) (mi := 273) (na := 1) (by decide +kernel) (by decide +kernel) (by decide +kernel) (by decide +kernel) rfl rfl (ev_recv_of (ev_hself ev_fH621)) (ev_k5 x1 hu_x1)) ?_
  refine ev_go0 (ev_w_if (M := (ev_Mof 275)) (pc := 10) (q := .eq) (o := 16) (b := true) (t := 26) (by decide +kernel) (by decide +kernel) rfl) ?_
  refine ev_go0 (ev_one_pure (M := (ev_Mof 275)) (pc := 26) (i := .aload_n 0) (len := 1) (pc' := 27) (lv' := [(0, .ref 621), (1, .int x1)]) (st' := [.ref 621]) (by decide +kernel) rfl) ?_
  refine ev_go0 (ev_w_iconst (M := (ev_Mof 275)) (pc := 27) (k := 1) (v := 1) (by decide +kernel) (by decide +kernel)) ?_
  refine ev_go0 (ev_p_virt (M := (ev_Mof 275)) (pc := 28) (x := 342) (mi := 221) (na := 1) (by decide +kernel) (by decide +kernel) (by decide +kernel) (by decide +kernel) rfl rfl (ev_recv_of (ev_hself ev_fH621)) ev_k6) ?_
  rfl
theorem ev_p1_6_n (xs : Nat → Int32) (x1 : Int32) (hu_x1 : x1.toInt ≤ (-1 : Int)) (e1 : xs 1 = x1) : ev_P1 xs 457 := by
  refine ⟨24, [(6, .int (0)), (5, .int (1)), (4, .int (0)), (3, .ref 723), (2, .ref 621), (1, .ref 0), (0, .retAddr 0)], ((ev_H0.set 621 (.inr (13, (ev_F621.set 0 (.int (0)))))).set 621 (.inr (13, ((ev_F621.set 0 (.int (0))).set 0 (.int (1)))))), 724, 725, 3553592, ?_, ⟨rfl, rfl, rfl, rfl⟩, rfl, by decide, by decide⟩
  show ev_stepn _ _ (457, [(4, .int (0)), (3, .ref 723), (2, .ref 621), (1, .ref 0), (0, .retAddr 0)], [], _, _, _, _) = _
  refine ev_go0 (ev_one_pure (M := ev_Mlaw) (pc := 457) (i := .aload_n 1) (len := 1) (pc' := 458) (lv' := [(4, .int (0)), (3, .ref 723), (2, .ref 621), (1, .ref 0), (0, .retAddr 0)]) (st' := [.ref 0]) (by decide +kernel) rfl) ?_
  refine ev_go0 (ev_one_pure (M := ev_Mlaw) (pc := 458) (i := .aload_n 0) (len := 1) (pc' := 459) (lv' := [(4, .int (0)), (3, .ref 723), (2, .ref 621), (1, .ref 0), (0, .retAddr 0)]) (st' := [.retAddr 0, .ref 0]) (by decide +kernel) rfl) ?_
  refine ev_go0 (ev_one_pure (M := ev_Mlaw) (pc := 459) (i := .iload 4) (len := 2) (pc' := 461) (lv' := [(4, .int (0)), (3, .ref 723), (2, .ref 621), (1, .ref 0), (0, .retAddr 0)]) (st' := [.int (0), .retAddr 0, .ref 0]) (by decide +kernel) rfl) ?_
  refine ev_go0 (ev_w_iconst (M := ev_Mlaw) (pc := 461) (k := 1) (v := 1) (by decide +kernel) (by decide +kernel)) ?_
  refine ev_go0 (ev_w_iadd (M := ev_Mlaw) (pc := 462) (v := (1)) (by decide +kernel) (by decide +kernel)) ?_
  refine ev_go0 (ev_w_scr (M := ev_Mlaw) (pc := 463) (v := x1) (j := 1) (by decide +kernel) (by decide +kernel) (by decide +kernel) e1) ?_
  refine ev_go0 (ev_one_pure (M := ev_Mlaw) (pc := 464) (i := .aload_n 3) (len := 1) (pc' := 465) (lv' := [(4, .int (0)), (3, .ref 723), (2, .ref 621), (1, .ref 0), (0, .retAddr 0)]) (st' := [.ref 723, .int x1, .ref 0]) (by decide +kernel) rfl) ?_
  refine ev_go (ev_w_stat (M := ev_Mlaw) (pc := 465) (y := 151) (kind := 8) (Or.inr (Or.inr rfl)) (mi := 369) (na := 3) (by decide +kernel) (by decide +kernel) (by decide +kernel) (by decide +kernel) rfl rfl (ev_k16 x1 hu_x1)) ?_
  refine ev_go0 (ev_w_istore (M := ev_Mlaw) (pc := 468) (k := 5) (lv' := [(5, .int (1)), (4, .int (0)), (3, .ref 723), (2, .ref 621), (1, .ref 0), (0, .retAddr 0)]) (by decide +kernel) (by decide +kernel) rfl) ?_
  refine ev_go0 (ev_one_pure (M := ev_Mlaw) (pc := 470) (i := .aload_n 2) (len := 1) (pc' := 471) (lv' := [(5, .int (1)), (4, .int (0)), (3, .ref 723), (2, .ref 621), (1, .ref 0), (0, .retAddr 0)]) (st' := [.ref 621]) (by decide +kernel) rfl) ?_
  refine ev_go0 (ev_one_pure (M := ev_Mlaw) (pc := 471) (i := .aload_n 0) (len := 1) (pc' := 472) (lv' := [(5, .int (1)), (4, .int (0)), (3, .ref 723), (2, .ref 621), (1, .ref 0), (0, .retAddr 0)]) (st' := [.retAddr 0, .ref 621]) (by decide +kernel) rfl) ?_
  refine ev_go0 (ev_one_pure (M := ev_Mlaw) (pc := 472) (i := .iload 4) (len := 2) (pc' := 474) (lv' := [(5, .int (1)), (4, .int (0)), (3, .ref 723), (2, .ref 621), (1, .ref 0), (0, .retAddr 0)]) (st' := [.int (0), .retAddr 0, .ref 621]) (by decide +kernel) rfl) ?_
  refine ev_go0 (ev_w_iconst (M := ev_Mlaw) (pc := 474) (k := 1) (v := 1) (by decide +kernel) (by decide +kernel)) ?_
  refine ev_go0 (ev_w_iadd (M := ev_Mlaw) (pc := 475) (v := (1)) (by decide +kernel) (by decide +kernel)) ?_
  refine ev_go0 (ev_w_scr (M := ev_Mlaw) (pc := 476) (v := x1) (j := 1) (by decide +kernel) (by decide +kernel) (by decide +kernel) e1) ?_
  refine ev_go0 (ev_p_virt (M := ev_Mlaw) (pc := 477) (x := 153) (mi := 275) (na := 1) (by decide +kernel) (by decide +kernel) (by decide +kernel) (by decide +kernel) rfl rfl (ev_recv_of ev_fH621) (ev_k17 x1 hu_x1)) ?_
  refine ev_go0 (ev_w_istore (M := ev_Mlaw) (pc := 480) (k := 6) (lv' := [(6, .int (0)), (5, .int (1)), (4, .int (0)), (3, .ref 723), (2, .ref 621), (1, .ref 0), (0, .retAddr 0)]) (by decide +kernel) (by decide +kernel) rfl) ?_
  refine ev_go0 (ev_one_pure (M := ev_Mlaw) (pc := 482) (i := .aload_n 2) (len := 1) (pc' := 483) (lv' := [(6, .int (0)), (5, .int (1)), (4, .int (0)), (3, .ref 723), (2, .ref 621), (1, .ref 0), (0, .retAddr 0)]) (st' := [.ref 621]) (by decide +kernel) rfl) ?_
  refine ev_go0 (ev_p_virt (M := ev_Mlaw) (pc := 483) (x := 131) (mi := 220) (na := 0) (by decide +kernel) (by decide +kernel) (by decide +kernel) (by decide +kernel) rfl rfl (ev_recv_of (ev_hself (ev_hself ev_fH621))) ev_k8) ?_
  refine ev_go0 (ev_one_pure (M := ev_Mlaw) (pc := 486) (i := .iload 5) (len := 2) (pc' := 488) (lv' := [(6, .int (0)), (5, .int (1)), (4, .int (0)), (3, .ref 723), (2, .ref 621), (1, .ref 0), (0, .retAddr 0)]) (st' := [.int (1), .int (1)]) (by decide +kernel) rfl) ?_
  refine ev_go0 (ev_w_icmp (M := ev_Mlaw) (pc := 488) (q := .eq) (o := 5) (b := true) (t := 493) (by decide +kernel) (by decide +kernel) rfl) ?_
  refine ev_go0 (ev_one_pure (M := ev_Mlaw) (pc := 493) (i := .iload 5) (len := 2) (pc' := 495) (lv' := [(6, .int (0)), (5, .int (1)), (4, .int (0)), (3, .ref 723), (2, .ref 621), (1, .ref 0), (0, .retAddr 0)]) (st' := [.int (1)]) (by decide +kernel) rfl) ?_
  refine ev_go0 (ev_w_if (M := ev_Mlaw) (pc := 495) (q := .ne) (o := 15) (b := true) (t := 510) (by decide +kernel) (by decide +kernel) rfl) ?_
  refine ev_go0 (ev_one_pure (M := ev_Mlaw) (pc := 510) (i := .goto 1762) (len := 3) (pc' := 2272) (lv' := [(6, .int (0)), (5, .int (1)), (4, .int (0)), (3, .ref 723), (2, .ref 621), (1, .ref 0), (0, .retAddr 0)]) (st' := []) (by decide +kernel) rfl) ?_
  rfl
theorem ev_k18 (x1 : Int32) (hl_x1 : (0 : Int) ≤ x1.toInt) {n : Nat} : ev_calld 11 172 [.ref 0, .int x1] ev_H0 n = some (.inr "java/lang/IndexOutOfBoundsException", ev_H0, n, 1, 6) := by
  refine ev_call_thrown (k := 6) (pcR := 10) (x := 160) (lv' := [(2, .null), (0, .ref 0), (1, .int x1)]) (by decide +kernel) rfl ?_ (by decide +kernel) (by decide +kernel) (by decide +kernel) (by decide) (by decide)
  show ev_stepn _ 6 (0, [(0, .ref 0), (1, .int x1)], [], _, _, 0, 0) = _
  refine ev_go0 (ev_one_pure (M := (ev_Mof 172)) (pc := 0) (i := .aload_n 0) (len := 1) (pc' := 1) (lv' := [(0, .ref 0), (1, .int x1)]) (st' := [.ref 0]) (by decide +kernel) rfl) ?_
  refine ev_go0 (ev_one_pure (M := (ev_Mof 172)) (pc := 1) (i := .iload_n 1) (len := 1) (pc' := 2) (lv' := [(0, .ref 0), (1, .int x1)]) (st' := [.int x1, .ref 0]) (by decide +kernel) rfl) ?_
  refine ev_go0 (ev_p_virt (M := (ev_Mof 172)) (pc := 2) (x := 156) (mi := 200) (na := 1) (by decide +kernel) (by decide +kernel) (by decide +kernel) (by decide +kernel) rfl rfl (ev_recv_of ev_fH0) (ev_k9 x1 hl_x1)) ?_
  refine ev_go0 (ev_w_astore_n (M := (ev_Mof 172)) (pc := 5) (k := 2) (lv' := [(2, .null), (0, .ref 0), (1, .int x1)]) (by decide +kernel) (by decide +kernel) (Or.inr (Or.inl rfl)) rfl) ?_
  refine ev_go0 (ev_one_pure (M := (ev_Mof 172)) (pc := 6) (i := .aload_n 2) (len := 1) (pc' := 7) (lv' := [(2, .null), (0, .ref 0), (1, .int x1)]) (st' := [.null]) (by decide +kernel) rfl) ?_
  refine ev_go0 (ev_w_ifnonnull (M := (ev_Mof 172)) (pc := 7) (o := 13) (t := 10) (by decide +kernel) (Or.inr ⟨rfl, rfl⟩)) ?_
  rfl
theorem ev_k19 (x1 : Int32) (hl_x1 : (0 : Int) ≤ x1.toInt) {n : Nat} : ev_calld 12 369 [.ref 0, .int x1, .ref 723] ev_H0 n = some (.inl (some (.int (1))), ev_H0, n, 1, 6) := by
  refine ev_call_int (k := 7) (pcR := 14) (lv' := [(3, .retAddr 1), (0, .ref 0), (1, .int x1), (2, .ref 723)]) (v := (1)) (ty := .int) (by decide +kernel) rfl ?_ (by decide +kernel) (by decide +kernel) (by decide +kernel) (by decide)
  show ev_stepn _ 7 (0, [(0, .ref 0), (1, .int x1), (2, .ref 723)], [], _, _, 0, 0) = _
  refine ev_go0 (ev_one_pure (M := (ev_Mof 369)) (pc := 0) (i := .aload_n 2) (len := 1) (pc' := 1) (lv' := [(0, .ref 0), (1, .int x1), (2, .ref 723)]) (st' := [.ref 723]) (by decide +kernel) rfl) ?_
  refine ev_go0 (ev_w_iconst (M := (ev_Mof 369)) (pc := 1) (k := 0) (v := 0) (by decide +kernel) (by decide +kernel)) ?_
  refine ev_go0 (ev_one_pure (M := (ev_Mof 369)) (pc := 2) (i := .aload_n 0) (len := 1) (pc' := 3) (lv' := [(0, .ref 0), (1, .int x1), (2, .ref 723)]) (st' := [.ref 0, .int (0), .ref 723]) (by decide +kernel) rfl) ?_
  refine ev_go0 (ev_one_pure (M := (ev_Mof 369)) (pc := 3) (i := .iload_n 1) (len := 1) (pc' := 4) (lv' := [(0, .ref 0), (1, .int x1), (2, .ref 723)]) (st' := [.int x1, .ref 0, .int (0), .ref 723]) (by decide +kernel) rfl) ?_
  refine ev_go (ev_p_virtX (M := (ev_Mof 369)) (pc := 4) (x := 32) (t := 12) (mi := 172) (na := 1) (by decide +kernel) (by decide +kernel) (by decide +kernel) (by decide +kernel) rfl rfl (ev_recv_of ev_fH0) (ev_k18 x1 hl_x1) (by decide +kernel)) ?_
  refine ev_go0 (ev_w_astore_n (M := (ev_Mof 369)) (pc := 12) (k := 3) (lv' := [(3, .retAddr 1), (0, .ref 0), (1, .int x1), (2, .ref 723)]) (by decide +kernel) (by decide +kernel) (Or.inr (Or.inr ⟨_, rfl⟩)) rfl) ?_
  refine ev_go0 (ev_w_iconst (M := (ev_Mof 369)) (pc := 13) (k := 1) (v := 1) (by decide +kernel) (by decide +kernel)) ?_
  rfl
theorem ev_k20 (x1 : Int32) (hl_x1 : (0 : Int) ≤ x1.toInt) {n : Nat} : ev_calld 12 275 [.ref 621, .int x1] ev_H0 n = some (.inl (some (.int (0))), ((ev_H0.set 621 (.inr (13, (ev_F621.set 0 (.int (0)))))).set 621 (.inr (13, ((ev_F621.set 0 (.int (0))).set 0 (.int (1)))))), n, 0, 0) := by
  refine ev_call_int (k := 10) (pcR := 31) (lv' := [(0, .ref 621), (1, .int x1)]) (v := (0)) (ty := .int) (by decide +kernel) rfl ?_ (by decide +kernel) (by decide +kernel) (by decide +kernel) (by decide)
  show ev_stepn _ 10 (0, [(0, .ref 621), (1, .int x1)], [], _, _, 0, 0) = _
  refine ev_go0 (ev_one_pure (M := (ev_Mof 275)) (pc := 0) (i := .aload_n 0) (len := 1) (pc' := 1) (lv' := [(0, .ref 621), (1, .int x1)]) (st' := [.ref 621]) (by decide +kernel) rfl) ?_
  refine ev_go0 (ev_w_iconst (M := (ev_Mof 275)) (pc := 1) (k := 0) (v := 0) (by decide +kernel) (by decide +kernel)) ?_
  refine ev_go0 (ev_p_putf (M := (ev_Mof 275)) (pc := 2) (x := 321) (ci := 13) (f := 0) (by decide +kernel) (by decide +kernel) ev_fH621 rfl (by decide +kernel)) ?_
  refine ev_go0 (ev_one_pure (M := (ev_Mof 275)) (pc := 5) (i := .aload_n 0) (len := 1) (pc' := 6) (lv' := [(0, .ref 621), (1, .int x1)]) (st' := [.ref 621]) (by decide +kernel) rfl) ?_
  refine ev_go0 (ev_one_pure (M := (ev_Mof 275)) (pc := 6) (i := .iload_n 1) (len := 1) (pc' := 7) (lv' := [(0, .ref 621), (1, .int x1)]) (st' := [.int x1, .ref 621]) (by decide +kernel) rfl) ?_
  refine ev_go0 (ev_p_virt (M := (ev_Mof 275)) (pc := 7) (x := 531) (mi := 273) (na := 1) (by decide +kernel) (by decide +kernel) (by decide +kernel) (by decide +kernel) rfl rfl (ev_recv_of (ev_hself ev_fH621)) (ev_k13 x1 hl_x1)) ?_
  refine ev_go0 (ev_w_if (M := (ev_Mof 275)) (pc := 10) (q := .eq) (o := 16) (b := true) (t := 26) (by decide +kernel) (by decide +kernel) rfl) ?_
  refine ev_go0 (ev_one_pure (M := (ev_Mof 275)) (pc := 26) (i := .aload_n 0) (len := 1) (pc' := 27) (lv' := [(0, .ref 621), (1, .int x1)]) (st' := [.ref 621]) (by decide +kernel) rfl) ?_
  refine ev_go0 (ev_w_iconst (M := (ev_Mof 275)) (pc := 27) (k := 1) (v := 1) (by decide +kernel) (by decide +kernel)) ?_
  refine ev_go0 (ev_p_virt (M := (ev_Mof 275)) (pc := 28) (x := 342) (mi := 221) (na := 1) (by decide +kernel) (by decide +kernel) (by decide +kernel) (by decide +kernel) rfl rfl (ev_recv_of (ev_hself ev_fH621)) ev_k6) ?_
  rfl
theorem ev_p1_6_p (xs : Nat → Int32) (x1 : Int32) (hl_x1 : (0 : Int) ≤ x1.toInt) (e1 : xs 1 = x1) : ev_P1 xs 457 := by
  refine ⟨24, [(6, .int (0)), (5, .int (1)), (4, .int (0)), (3, .ref 723), (2, .ref 621), (1, .ref 0), (0, .retAddr 0)], ((ev_H0.set 621 (.inr (13, (ev_F621.set 0 (.int (0)))))).set 621 (.inr (13, ((ev_F621.set 0 (.int (0))).set 0 (.int (1)))))), 724, 725, 3553592, ?_, ⟨rfl, rfl, rfl, rfl⟩, rfl, by decide, by decide⟩
  show ev_stepn _ _ (457, [(4, .int (0)), (3, .ref 723), (2, .ref 621), (1, .ref 0), (0, .retAddr 0)], [], _, _, _, _) = _
  refine ev_go0 (ev_one_pure (M := ev_Mlaw) (pc := 457) (i := .aload_n 1) (len := 1) (pc' := 458) (lv' := [(4, .int (0)), (3, .ref 723), (2, .ref 621), (1, .ref 0), (0, .retAddr 0)]) (st' := [.ref 0]) (by decide +kernel) rfl) ?_
  refine ev_go0 (ev_one_pure (M := ev_Mlaw) (pc := 458) (i := .aload_n 0) (len := 1) (pc' := 459) (lv' := [(4, .int (0)), (3, .ref 723), (2, .ref 621), (1, .ref 0), (0, .retAddr 0)]) (st' := [.retAddr 0, .ref 0]) (by decide +kernel) rfl) ?_
  refine ev_go0 (ev_one_pure (M := ev_Mlaw) (pc := 459) (i := .iload 4) (len := 2) (pc' := 461) (lv' := [(4, .int (0)), (3, .ref 723), (2, .ref 621), (1, .ref 0), (0, .retAddr 0)]) (st' := [.int (0), .retAddr 0, .ref 0]) (by decide +kernel) rfl) ?_
  refine ev_go0 (ev_w_iconst (M := ev_Mlaw) (pc := 461) (k := 1) (v := 1) (by decide +kernel) (by decide +kernel)) ?_
  refine ev_go0 (ev_w_iadd (M := ev_Mlaw) (pc := 462) (v := (1)) (by decide +kernel) (by decide +kernel)) ?_
  refine ev_go0 (ev_w_scr (M := ev_Mlaw) (pc := 463) (v := x1) (j := 1) (by decide +kernel) (by decide +kernel) (by decide +kernel) e1) ?_
  refine ev_go0 (ev_one_pure (M := ev_Mlaw) (pc := 464) (i := .aload_n 3) (len := 1) (pc' := 465) (lv' := [(4, .int (0)), (3, .ref 723), (2, .ref 621), (1, .ref 0), (0, .retAddr 0)]) (st' := [.ref 723, .int x1, .ref 0]) (by decide +kernel) rfl) ?_
  refine ev_go (ev_w_stat (M := ev_Mlaw) (pc := 465) (y := 151) (kind := 8) (Or.inr (Or.inr rfl)) (mi := 369) (na := 3) (by decide +kernel) (by decide +kernel) (by decide +kernel) (by decide +kernel) rfl rfl (ev_k19 x1 hl_x1)) ?_
  refine ev_go0 (ev_w_istore (M := ev_Mlaw) (pc := 468) (k := 5) (lv' := [(5, .int (1)), (4, .int (0)), (3, .ref 723), (2, .ref 621), (1, .ref 0), (0, .retAddr 0)]) (by decide +kernel) (by decide +kernel) rfl) ?_
  refine ev_go0 (ev_one_pure (M := ev_Mlaw) (pc := 470) (i := .aload_n 2) (len := 1) (pc' := 471) (lv' := [(5, .int (1)), (4, .int (0)), (3, .ref 723), (2, .ref 621), (1, .ref 0), (0, .retAddr 0)]) (st' := [.ref 621]) (by decide +kernel) rfl) ?_
  refine ev_go0 (ev_one_pure (M := ev_Mlaw) (pc := 471) (i := .aload_n 0) (len := 1) (pc' := 472) (lv' := [(5, .int (1)), (4, .int (0)), (3, .ref 723), (2, .ref 621), (1, .ref 0), (0, .retAddr 0)]) (st' := [.retAddr 0, .ref 621]) (by decide +kernel) rfl) ?_
  refine ev_go0 (ev_one_pure (M := ev_Mlaw) (pc := 472) (i := .iload 4) (len := 2) (pc' := 474) (lv' := [(5, .int (1)), (4, .int (0)), (3, .ref 723), (2, .ref 621), (1, .ref 0), (0, .retAddr 0)]) (st' := [.int (0), .retAddr 0, .ref 621]) (by decide +kernel) rfl) ?_
  refine ev_go0 (ev_w_iconst (M := ev_Mlaw) (pc := 474) (k := 1) (v := 1) (by decide +kernel) (by decide +kernel)) ?_
  refine ev_go0 (ev_w_iadd (M := ev_Mlaw) (pc := 475) (v := (1)) (by decide +kernel) (by decide +kernel)) ?_
  refine ev_go0 (ev_w_scr (M := ev_Mlaw) (pc := 476) (v := x1) (j := 1) (by decide +kernel) (by decide +kernel) (by decide +kernel) e1) ?_
  refine ev_go0 (ev_p_virt (M := ev_Mlaw) (pc := 477) (x := 153) (mi := 275) (na := 1) (by decide +kernel) (by decide +kernel) (by decide +kernel) (by decide +kernel) rfl rfl (ev_recv_of ev_fH621) (ev_k20 x1 hl_x1)) ?_
  refine ev_go0 (ev_w_istore (M := ev_Mlaw) (pc := 480) (k := 6) (lv' := [(6, .int (0)), (5, .int (1)), (4, .int (0)), (3, .ref 723), (2, .ref 621), (1, .ref 0), (0, .retAddr 0)]) (by decide +kernel) (by decide +kernel) rfl) ?_
  refine ev_go0 (ev_one_pure (M := ev_Mlaw) (pc := 482) (i := .aload_n 2) (len := 1) (pc' := 483) (lv' := [(6, .int (0)), (5, .int (1)), (4, .int (0)), (3, .ref 723), (2, .ref 621), (1, .ref 0), (0, .retAddr 0)]) (st' := [.ref 621]) (by decide +kernel) rfl) ?_
  refine ev_go0 (ev_p_virt (M := ev_Mlaw) (pc := 483) (x := 131) (mi := 220) (na := 0) (by decide +kernel) (by decide +kernel) (by decide +kernel) (by decide +kernel) rfl rfl (ev_recv_of (ev_hself (ev_hself ev_fH621))) ev_k8) ?_
  refine ev_go0 (ev_one_pure (M := ev_Mlaw) (pc := 486) (i := .iload 5) (len := 2) (pc' := 488) (lv' := [(6, .int (0)), (5, .int (1)), (4, .int (0)), (3, .ref 723), (2, .ref 621), (1, .ref 0), (0, .retAddr 0)]) (st' := [.int (1), .int (1)]) (by decide +kernel) rfl) ?_
  refine ev_go0 (ev_w_icmp (M := ev_Mlaw) (pc := 488) (q := .eq) (o := 5) (b := true) (t := 493) (by decide +kernel) (by decide +kernel) rfl) ?_
  refine ev_go0 (ev_one_pure (M := ev_Mlaw) (pc := 493) (i := .iload 5) (len := 2) (pc' := 495) (lv' := [(6, .int (0)), (5, .int (1)), (4, .int (0)), (3, .ref 723), (2, .ref 621), (1, .ref 0), (0, .retAddr 0)]) (st' := [.int (1)]) (by decide +kernel) rfl) ?_
  refine ev_go0 (ev_w_if (M := ev_Mlaw) (pc := 495) (q := .ne) (o := 15) (b := true) (t := 510) (by decide +kernel) (by decide +kernel) rfl) ?_
  refine ev_go0 (ev_one_pure (M := ev_Mlaw) (pc := 510) (i := .goto 1762) (len := 3) (pc' := 2272) (lv' := [(6, .int (0)), (5, .int (1)), (4, .int (0)), (3, .ref 723), (2, .ref 621), (1, .ref 0), (0, .retAddr 0)]) (st' := []) (by decide +kernel) rfl) ?_
  rfl
theorem ev_p1arm6 (xs : Nat → Int32) : ev_P1 xs 457 := by
  rcases ev_split2 (xs 1) with h1 | h1
  · skip
    exact ev_p1_6_n xs (xs 1) h1 rfl
  · skip
    exact ev_p1_6_p xs (xs 1) h1 rfl
theorem ev_k21 (x1 : Int32) (hu_x1 : x1.toInt ≤ (-1 : Int)) (x2 : Int32) {n : Nat} : ev_calld 11 173 [.ref 0, .int x1, .int x2] ev_H0 n = some (.inr "java/lang/IndexOutOfBoundsException", ev_H0, n, 1, 6) := by
  refine ev_call_thrown (k := 6) (pcR := 10) (x := 160) (lv' := [(3, .null), (0, .ref 0), (1, .int x1), (2, .int x2)]) (by decide +kernel) rfl ?_ (by decide +kernel) (by decide +kernel) (by decide +kernel) (by decide) (by decide)
  show ev_stepn _ 6 (0, [(0, .ref 0), (1, .int x1), (2, .int x2)], [], _, _, 0, 0) = _
  refine ev_go0 (ev_one_pure (M := (ev_Mof 173)) (pc := 0) (i := .aload_n 0) (len := 1) (pc' := 1) (lv' := [(0, .ref 0), (1, .int x1), (2, .int x2)]) (st' := [.ref 0]) (by decide +kernel) rfl) ?_
  refine ev_go0 (ev_one_pure (M := (ev_Mof 173)) (pc := 1) (i := .iload_n 1) (len := 1) (pc' := 2) (lv' := [(0, .ref 0), (1, .int x1), (2, .int x2)]) (st' := [.int x1, .ref 0]) (by decide +kernel) rfl) ?_
  refine ev_go0 (ev_p_virt (M := (ev_Mof 173)) (pc := 2) (x := 156) (mi := 200) (na := 1) (by decide +kernel) (by decide +kernel) (by decide +kernel) (by decide +kernel) rfl rfl (ev_recv_of ev_fH0) (ev_k1 x1 hu_x1)) ?_
  refine ev_go0 (ev_w_astore_n (M := (ev_Mof 173)) (pc := 5) (k := 3) (lv' := [(3, .null), (0, .ref 0), (1, .int x1), (2, .int x2)]) (by decide +kernel) (by decide +kernel) (Or.inr (Or.inl rfl)) rfl) ?_
  refine ev_go0 (ev_one_pure (M := (ev_Mof 173)) (pc := 6) (i := .aload_n 3) (len := 1) (pc' := 7) (lv' := [(3, .null), (0, .ref 0), (1, .int x1), (2, .int x2)]) (st' := [.null]) (by decide +kernel) rfl) ?_
  refine ev_go0 (ev_w_ifnonnull (M := (ev_Mof 173)) (pc := 7) (o := 13) (t := 10) (by decide +kernel) (Or.inr ⟨rfl, rfl⟩)) ?_
  rfl
theorem ev_k22 (x1 : Int32) (hu_x1 : x1.toInt ≤ (-1 : Int)) (x2 : Int32) {n : Nat} : ev_calld 12 370 [.ref 0, .int x1, .int x2, .ref 723] ev_H0 n = some (.inl (some (.int (1))), ev_H0, n, 1, 6) := by
  refine ev_call_int (k := 8) (pcR := 23) (lv' := [(4, .retAddr 1), (0, .ref 0), (1, .int x1), (2, .int x2), (3, .ref 723)]) (v := (1)) (ty := .int) (by decide +kernel) rfl ?_ (by decide +kernel) (by decide +kernel) (by decide +kernel) (by decide)
  show ev_stepn _ 8 (0, [(0, .ref 0), (1, .int x1), (2, .int x2), (3, .ref 723)], [], _, _, 0, 0) = _
  refine ev_go0 (ev_one_pure (M := (ev_Mof 370)) (pc := 0) (i := .aload_n 3) (len := 1) (pc' := 1) (lv' := [(0, .ref 0), (1, .int x1), (2, .int x2), (3, .ref 723)]) (st' := [.ref 723]) (by decide +kernel) rfl) ?_
  refine ev_go0 (ev_w_iconst (M := (ev_Mof 370)) (pc := 1) (k := 0) (v := 0) (by decide +kernel) (by decide +kernel)) ?_
  refine ev_go0 (ev_one_pure (M := (ev_Mof 370)) (pc := 2) (i := .aload_n 0) (len := 1) (pc' := 3) (lv' := [(0, .ref 0), (1, .int x1), (2, .int x2), (3, .ref 723)]) (st' := [.ref 0, .int (0), .ref 723]) (by decide +kernel) rfl) ?_
  refine ev_go0 (ev_one_pure (M := (ev_Mof 370)) (pc := 3) (i := .iload_n 1) (len := 1) (pc' := 4) (lv' := [(0, .ref 0), (1, .int x1), (2, .int x2), (3, .ref 723)]) (st' := [.int x1, .ref 0, .int (0), .ref 723]) (by decide +kernel) rfl) ?_
  refine ev_go0 (ev_one_pure (M := (ev_Mof 370)) (pc := 4) (i := .iload_n 2) (len := 1) (pc' := 5) (lv' := [(0, .ref 0), (1, .int x1), (2, .int x2), (3, .ref 723)]) (st' := [.int x2, .int x1, .ref 0, .int (0), .ref 723]) (by decide +kernel) rfl) ?_
  refine ev_go (ev_p_virtX (M := (ev_Mof 370)) (pc := 5) (x := 35) (t := 20) (mi := 173) (na := 2) (by decide +kernel) (by decide +kernel) (by decide +kernel) (by decide +kernel) rfl rfl (ev_recv_of ev_fH0) (ev_k21 x1 hu_x1 x2) (by decide +kernel)) ?_
  refine ev_go0 (ev_w_astore (M := (ev_Mof 370)) (pc := 20) (k := 4) (lv' := [(4, .retAddr 1), (0, .ref 0), (1, .int x1), (2, .int x2), (3, .ref 723)]) (by decide +kernel) (by decide +kernel) (Or.inr (Or.inr ⟨_, rfl⟩)) rfl) ?_
  refine ev_go0 (ev_w_iconst (M := (ev_Mof 370)) (pc := 22) (k := 1) (v := 1) (by decide +kernel) (by decide +kernel)) ?_
  rfl
theorem ev_k23 (x1 : Int32) (hu_x1 : x1.toInt ≤ (-1 : Int)) {n : Nat} : ev_calld 10 222 [.int x1, .int (0), .int (-1)] ev_H0 n = some (.inl (some (.int (0))), ev_H0, n, 0, 0) := by
  refine ev_call_int (k := 4) (pcR := 15) (lv' := [(0, .int x1), (1, .int (0)), (2, .int (-1))]) (v := (0)) (ty := .boolean) (by decide +kernel) rfl ?_ (by decide +kernel) (by decide +kernel) (by decide +kernel) (by decide)
  show ev_stepn _ 4 (0, [(0, .int x1), (1, .int (0)), (2, .int (-1))], [], _, _, 0, 0) = _
  refine ev_go0 (ev_one_pure (M := (ev_Mof 222)) (pc := 0) (i := .iload_n 0) (len := 1) (pc' := 1) (lv' := [(0, .int x1), (1, .int (0)), (2, .int (-1))]) (st' := [.int x1]) (by decide +kernel) rfl) ?_
  refine ev_go0 (ev_one_pure (M := (ev_Mof 222)) (pc := 1) (i := .iload_n 1) (len := 1) (pc' := 2) (lv' := [(0, .int x1), (1, .int (0)), (2, .int (-1))]) (st' := [.int (0), .int x1]) (by decide +kernel) rfl) ?_
  refine ev_go0 (ev_w_icmp (M := (ev_Mof 222)) (pc := 2) (q := .lt) (o := 12) (b := true) (t := 14) (by decide +kernel) (ev_c_lt1 hu_x1 (by decide +kernel)) rfl) ?_
  refine ev_go0 (ev_w_iconst (M := (ev_Mof 222)) (pc := 14) (k := 0) (v := 0) (by decide +kernel) (by decide +kernel)) ?_
  rfl
theorem ev_k24 (x1 : Int32) (hu_x1 : x1.toInt ≤ (-1 : Int)) {n : Nat} : ev_calld 11 273 [.ref 621, .int x1] ev_H0 n = some (.inl (some (.int (0))), ev_H0, n, 0, 0) := by
  refine ev_call_int (k := 7) (pcR := 11) (lv' := [(0, .ref 621), (1, .int x1)]) (v := (0)) (ty := .boolean) (by decide +kernel) rfl ?_ (by decide +kernel) (by decide +kernel) (by decide +kernel) (by decide)
  show ev_stepn _ 7 (0, [(0, .ref 621), (1, .int x1)], [], _, _, 0, 0) = _
  refine ev_go0 (ev_one_pure (M := (ev_Mof 273)) (pc := 0) (i := .iload_n 1) (len := 1) (pc' := 1) (lv' := [(0, .ref 621), (1, .int x1)]) (st' := [.int x1]) (by decide +kernel) rfl) ?_
  refine ev_go0 (ev_w_iconst (M := (ev_Mof 273)) (pc := 1) (k := 0) (v := 0) (by decide +kernel) (by decide +kernel)) ?_
  refine ev_go0 (ev_one_pure (M := (ev_Mof 273)) (pc := 2) (i := .aload_n 0) (len := 1) (pc' := 3) (lv' := [(0, .ref 621), (1, .int x1)]) (st' := [.ref 621, .int (0), .int x1]) (by decide +kernel) rfl) ?_
  refine ev_go0 (ev_p_getf (M := (ev_Mof 273)) (pc := 3) (x := 525) (ci := 13) (f := 5) (fin := 0) (v := .int (0)) (by decide +kernel) (by decide +kernel) ev_fH621 rfl) ?_
  refine ev_go0 (ev_w_iconst (M := (ev_Mof 273)) (pc := 6) (k := 1) (v := 1) (by decide +kernel) (by decide +kernel)) ?_
  refine ev_go0 (ev_w_isub (M := (ev_Mof 273)) (pc := 7) (v := (-1)) (by decide +kernel) (by decide +kernel)) ?_
  refine ev_go0 (ev_w_stat (M := (ev_Mof 273)) (pc := 8) (y := 325) (kind := 2) (Or.inl rfl) (mi := 222) (na := 3) (by decide +kernel) (by decide +kernel) (by decide +kernel) (by decide +kernel) rfl rfl (ev_k23 x1 hu_x1)) ?_
  rfl
theorem ev_k25 (x1 : Int32) (hu_x1 : x1.toInt ≤ (-1 : Int)) (x2 : Int32) {n : Nat} : ev_calld 12 277 [.ref 621, .int x1, .int x2] ev_H0 n = some (.inl (some (.int (0))), (ev_H0.set 621 (.inr (13, (ev_F621.set 0 (.int (1)))))), n, 0, 0) := by
  refine ev_call_int (k := 12) (pcR := 36) (lv' := [(0, .ref 621), (1, .int x1), (2, .int x2)]) (v := (0)) (ty := .boolean) (by decide +kernel) rfl ?_ (by decide +kernel) (by decide +kernel) (by decide +kernel) (by decide)
  show ev_stepn _ 12 (0, [(0, .ref 621), (1, .int x1), (2, .int x2)], [], _, _, 0, 0) = _
  refine ev_go0 (ev_one_pure (M := (ev_Mof 277)) (pc := 0) (i := .aload_n 0) (len := 1) (pc' := 1) (lv' := [(0, .ref 621), (1, .int x1), (2, .int x2)]) (st' := [.ref 621]) (by decide +kernel) rfl) ?_
  refine ev_go0 (ev_one_pure (M := (ev_Mof 277)) (pc := 1) (i := .aload_n 0) (len := 1) (pc' := 2) (lv' := [(0, .ref 621), (1, .int x1), (2, .int x2)]) (st' := [.ref 621, .ref 621]) (by decide +kernel) rfl) ?_
  refine ev_go0 (ev_one_pure (M := (ev_Mof 277)) (pc := 2) (i := .iload_n 1) (len := 1) (pc' := 3) (lv' := [(0, .ref 621), (1, .int x1), (2, .int x2)]) (st' := [.int x1, .ref 621, .ref 621]) (by decide +kernel) rfl) ?_
  refine ev_go0 (ev_p_virt (M := (ev_Mof 277)) (pc := 3) (x := 531) (mi := 273) (na := 1) (by decide +kernel) (by decide +kernel) (by decide +kernel) (by decide +kernel) rfl rfl (ev_recv_of ev_fH621) (ev_k24 x1 hu_x1)) ?_
  refine ev_go0 (ev_w_if (M := (ev_Mof 277)) (pc := 6) (q := .ne) (o := 7) (b := false) (t := 9) (by decide +kernel) (by decide +kernel) rfl) ?_
  refine ev_go0 (ev_w_iconst (M := (ev_Mof 277)) (pc := 9) (k := 1) (v := 1) (by decide +kernel) (by decide +kernel)) ?_
  refine ev_go0 (ev_one_pure (M := (ev_Mof 277)) (pc := 10) (i := .goto 15) (len := 3) (pc' := 25) (lv' := [(0, .ref 621), (1, .int x1), (2, .int x2)]) (st' := [.int (1), .ref 621]) (by decide +kernel) rfl) ?_
  refine ev_go0 (ev_p_putf (M := (ev_Mof 277)) (pc := 25) (x := 321) (ci := 13) (f := 0) (by decide +kernel) (by decide +kernel) ev_fH621 rfl (by decide +kernel)) ?_
  refine ev_go0 (ev_one_pure (M := (ev_Mof 277)) (pc := 28) (i := .aload_n 0) (len := 1) (pc' := 29) (lv' := [(0, .ref 621), (1, .int x1), (2, .int x2)]) (st' := [.ref 621]) (by decide +kernel) rfl) ?_
  refine ev_go0 (ev_p_getf (M := (ev_Mof 277)) (pc := 29) (x := 321) (ci := 13) (f := 0) (fin := 0) (v := .int (1)) (by decide +kernel) (by decide +kernel) (ev_hself ev_fH621) rfl) ?_
  refine ev_go0 (ev_w_if (M := (ev_Mof 277)) (pc := 32) (q := .le) (o := 5) (b := false) (t := 35) (by decide +kernel) (by decide +kernel) rfl) ?_
  refine ev_go0 (ev_w_iconst (M := (ev_Mof 277)) (pc := 35) (k := 0) (v := 0) (by decide +kernel) (by decide +kernel)) ?_
  rfl
theorem ev_k26 {n : Nat} : ev_calld 12 220 [.ref 621] (ev_H0.set 621 (.inr (13, (ev_F621.set 0 (.int (1)))))) n = some (.inl (some (.int (1))), (ev_H0.set 621 (.inr (13, (ev_F621.set 0 (.int (1)))))), n, 0, 0) := by
  refine ev_call_int (k := 2) (pcR := 4) (lv' := [(0, .ref 621)]) (v := (1)) (ty := .int) (by decide +kernel) rfl ?_ (by decide +kernel) (by decide +kernel) (by decide +kernel) (by decide)
  show ev_stepn _ 2 (0, [(0, .ref 621)], [], _, _, 0, 0) = _
  refine ev_go0 (ev_one_pure (M := (ev_Mof 220)) (pc := 0) (i := .aload_n 0) (len := 1) (pc' := 1) (lv' := [(0, .ref 621)]) (st' := [.ref 621]) (by decide +kernel) rfl) ?_
  refine ev_go0 (ev_p_getf (M := (ev_Mof 220)) (pc := 1) (x := 321) (ci := 13) (f := 0) (fin := 0) (v := .int (1)) (by decide +kernel) (by decide +kernel) (ev_hself ev_fH621) rfl) ?_
  rfl
theorem ev_p1_7_n (xs : Nat → Int32) (x1 : Int32) (hu_x1 : x1.toInt ≤ (-1 : Int)) (x2 : Int32) (e1 : xs 1 = x1) (e2 : xs 2 = x2) : ev_P1 xs 513 := by
  refine ⟨34, [(6, .int (0)), (5, .int (1)), (4, .int (0)), (3, .ref 723), (2, .ref 621), (1, .ref 0), (0, .retAddr 0)], (ev_H0.set 621 (.inr (13, (ev_F621.set 0 (.int (1)))))), 724, 725, 3553592, ?_, ⟨rfl, rfl, rfl, rfl⟩, rfl, by decide, by decide⟩
  show ev_stepn _ _ (513, [(4, .int (0)), (3, .ref 723), (2, .ref 621), (1, .ref 0), (0, .retAddr 0)], [], _, _, _, _) = _
  refine ev_go0 (ev_one_pure (M := ev_Mlaw) (pc := 513) (i := .aload_n 1) (len := 1) (pc' := 514) (lv' := [(4, .int (0)), (3, .ref 723), (2, .ref 621), (1, .ref 0), (0, .retAddr 0)]) (st' := [.ref 0]) (by decide +kernel) rfl) ?_
  refine ev_go0 (ev_one_pure (M := ev_Mlaw) (pc := 514) (i := .aload_n 0) (len := 1) (pc' := 515) (lv' := [(4, .int (0)), (3, .ref 723), (2, .ref 621), (1, .ref 0), (0, .retAddr 0)]) (st' := [.retAddr 0, .ref 0]) (by decide +kernel) rfl) ?_
  refine ev_go0 (ev_one_pure (M := ev_Mlaw) (pc := 515) (i := .iload 4) (len := 2) (pc' := 517) (lv' := [(4, .int (0)), (3, .ref 723), (2, .ref 621), (1, .ref 0), (0, .retAddr 0)]) (st' := [.int (0), .retAddr 0, .ref 0]) (by decide +kernel) rfl) ?_
  refine ev_go0 (ev_w_iconst (M := ev_Mlaw) (pc := 517) (k := 1) (v := 1) (by decide +kernel) (by decide +kernel)) ?_
  refine ev_go0 (ev_w_iadd (M := ev_Mlaw) (pc := 518) (v := (1)) (by decide +kernel) (by decide +kernel)) ?_
  refine ev_go0 (ev_w_scr (M := ev_Mlaw) (pc := 519) (v := x1) (j := 1) (by decide +kernel) (by decide +kernel) (by decide +kernel) e1) ?_
  refine ev_go0 (ev_one_pure (M := ev_Mlaw) (pc := 520) (i := .aload_n 0) (len := 1) (pc' := 521) (lv' := [(4, .int (0)), (3, .ref 723), (2, .ref 621), (1, .ref 0), (0, .retAddr 0)]) (st' := [.retAddr 0, .int x1, .ref 0]) (by decide +kernel) rfl) ?_
  refine ev_go0 (ev_one_pure (M := ev_Mlaw) (pc := 521) (i := .iload 4) (len := 2) (pc' := 523) (lv' := [(4, .int (0)), (3, .ref 723), (2, .ref 621), (1, .ref 0), (0, .retAddr 0)]) (st' := [.int (0), .retAddr 0, .int x1, .ref 0]) (by decide +kernel) rfl) ?_
  refine ev_go0 (ev_w_iconst (M := ev_Mlaw) (pc := 523) (k := 2) (v := 2) (by decide +kernel) (by decide +kernel)) ?_
  refine ev_go0 (ev_w_iadd (M := ev_Mlaw) (pc := 524) (v := (2)) (by decide +kernel) (by decide +kernel)) ?_
  refine ev_go0 (ev_w_scr (M := ev_Mlaw) (pc := 525) (v := x2) (j := 2) (by decide +kernel) (by decide +kernel) (by decide +kernel) e2) ?_
  refine ev_go0 (ev_one_pure (M := ev_Mlaw) (pc := 526) (i := .aload_n 3) (len := 1) (pc' := 527) (lv' := [(4, .int (0)), (3, .ref 723), (2, .ref 621), (1, .ref 0), (0, .retAddr 0)]) (st' := [.ref 723, .int x2, .int x1, .ref 0]) (by decide +kernel) rfl) ?_
  refine ev_go (ev_w_stat (M := ev_Mlaw) (pc := 527) (y := 154) (kind := 8) (Or.inr (Or.inr rfl)) (mi := 370) (na := 4) (by decide +kernel) (by decide +kernel) (by decide +kernel) (by decide +kernel) rfl rfl (ev_k22 x1 hu_x1 x2)) ?_
  refine ev_go0 (ev_w_istore (M := ev_Mlaw) (pc := 530) (k := 5) (lv' := [(5, .int (1)), (4, .int (0)), (3, .ref 723), (2, .ref 621), (1, .ref 0), (0, .retAddr 0)]) (by decide +kernel) (by decide +kernel) rfl) ?_
  refine ev_go0 (ev_one_pure (M := ev_Mlaw) (pc := 532) (i := .aload_n 2) (len := 1) (pc' := 533) (lv' := [(5, .int (1)), (4, .int (0)), (3, .ref 723), (2, .ref 621), (1, .ref 0), (0, .retAddr 0)]) (st' := [.ref 621]) (by decide +kernel) rfl) ?_
  refine ev_go0 (ev_one_pure (M := ev_Mlaw) (pc := 533) (i := .aload_n 0) (len := 1) (pc' := 534) (lv' := [(5, .int (1)), (4, .int (0)), (3, .ref 723), (2, .ref 621), (1, .ref 0), (0, .retAddr 0)]) (st' := [.retAddr 0, .ref 621]) (by decide +kernel) rfl) ?_
  refine ev_go0 (ev_one_pure (M := ev_Mlaw) (pc := 534) (i := .iload 4) (len := 2) (pc' := 536) (lv' := [(5, .int (1)), (4, .int (0)), (3, .ref 723), (2, .ref 621), (1, .ref 0), (0, .retAddr 0)]) (st' := [.int (0), .retAddr 0, .ref 621]) (by decide +kernel) rfl) ?_
  refine ev_go0 (ev_w_iconst (M := ev_Mlaw) (pc := 536) (k := 1) (v := 1) (by decide +kernel) (by decide +kernel)) ?_
  refine ev_go0 (ev_w_iadd (M := ev_Mlaw) (pc := 537) (v := (1)) (by decide +kernel) (by decide +kernel)) ?_
  refine ev_go0 (ev_w_scr (M := ev_Mlaw) (pc := 538) (v := x1) (j := 1) (by decide +kernel) (by decide +kernel) (by decide +kernel) e1) ?_
  refine ev_go0 (ev_one_pure (M := ev_Mlaw) (pc := 539) (i := .aload_n 0) (len := 1) (pc' := 540) (lv' := [(5, .int (1)), (4, .int (0)), (3, .ref 723), (2, .ref 621), (1, .ref 0), (0, .retAddr 0)]) (st' := [.retAddr 0, .int x1, .ref 621]) (by decide +kernel) rfl) ?_
  refine ev_go0 (ev_one_pure (M := ev_Mlaw) (pc := 540) (i := .iload 4) (len := 2) (pc' := 542) (lv' := [(5, .int (1)), (4, .int (0)), (3, .ref 723), (2, .ref 621), (1, .ref 0), (0, .retAddr 0)]) (st' := [.int (0), .retAddr 0, .int x1, .ref 621]) (by decide +kernel) rfl) ?_
  refine ev_go0 (ev_w_iconst (M := ev_Mlaw) (pc := 542) (k := 2) (v := 2) (by decide +kernel) (by decide +kernel)) ?_
  refine ev_go0 (ev_w_iadd (M := ev_Mlaw) (pc := 543) (v := (2)) (by decide +kernel) (by decide +kernel)) ?_
  refine ev_go0 (ev_w_scr (M := ev_Mlaw) (pc := 544) (v := x2) (j := 2) (by decide +kernel) (by decide +kernel) (by decide +kernel) e2) ?_
  refine ev_go0 (ev_p_virt (M := ev_Mlaw) (pc := 545) (x := 157) (mi := 277) (na := 2) (by decide +kernel) (by decide +kernel) (by decide +kernel) (by decide +kernel) rfl rfl (ev_recv_of ev_fH621) (ev_k25 x1 hu_x1 x2)) ?_
  refine ev_go0 (ev_w_istore (M := ev_Mlaw) (pc := 548) (k := 6) (lv' := [(6, .int (0)), (5, .int (1)), (4, .int (0)), (3, .ref 723), (2, .ref 621), (1, .ref 0), (0, .retAddr 0)]) (by decide +kernel) (by decide +kernel) rfl) ?_
  refine ev_go0 (ev_one_pure (M := ev_Mlaw) (pc := 550) (i := .aload_n 2) (len := 1) (pc' := 551) (lv' := [(6, .int (0)), (5, .int (1)), (4, .int (0)), (3, .ref 723), (2, .ref 621), (1, .ref 0), (0, .retAddr 0)]) (st' := [.ref 621]) (by decide +kernel) rfl) ?_
  refine ev_go0 (ev_p_virt (M := ev_Mlaw) (pc := 551) (x := 131) (mi := 220) (na := 0) (by decide +kernel) (by decide +kernel) (by decide +kernel) (by decide +kernel) rfl rfl (ev_recv_of (ev_hself ev_fH621)) ev_k26) ?_
  refine ev_go0 (ev_one_pure (M := ev_Mlaw) (pc := 554) (i := .iload 5) (len := 2) (pc' := 556) (lv' := [(6, .int (0)), (5, .int (1)), (4, .int (0)), (3, .ref 723), (2, .ref 621), (1, .ref 0), (0, .retAddr 0)]) (st' := [.int (1), .int (1)]) (by decide +kernel) rfl) ?_
  refine ev_go0 (ev_w_icmp (M := ev_Mlaw) (pc := 556) (q := .eq) (o := 5) (b := true) (t := 561) (by decide +kernel) (by decide +kernel) rfl) ?_
  refine ev_go0 (ev_one_pure (M := ev_Mlaw) (pc := 561) (i := .iload 5) (len := 2) (pc' := 563) (lv' := [(6, .int (0)), (5, .int (1)), (4, .int (0)), (3, .ref 723), (2, .ref 621), (1, .ref 0), (0, .retAddr 0)]) (st' := [.int (1)]) (by decide +kernel) rfl) ?_
  refine ev_go0 (ev_w_if (M := ev_Mlaw) (pc := 563) (q := .ne) (o := 22) (b := true) (t := 585) (by decide +kernel) (by decide +kernel) rfl) ?_
  refine ev_go0 (ev_one_pure (M := ev_Mlaw) (pc := 585) (i := .goto 1687) (len := 3) (pc' := 2272) (lv' := [(6, .int (0)), (5, .int (1)), (4, .int (0)), (3, .ref 723), (2, .ref 621), (1, .ref 0), (0, .retAddr 0)]) (st' := []) (by decide +kernel) rfl) ?_
  rfl
theorem ev_k27 (x1 : Int32) (hl_x1 : (0 : Int) ≤ x1.toInt) (x2 : Int32) {n : Nat} : ev_calld 11 173 [.ref 0, .int x1, .int x2] ev_H0 n = some (.inr "java/lang/IndexOutOfBoundsException", ev_H0, n, 1, 6) := by
  refine ev_call_thrown (k := 6) (pcR := 10) (x := 160) (lv' := [(3, .null), (0, .ref 0), (1, .int x1), (2, .int x2)]) (by decide +kernel) rfl ?_ (by decide +kernel) (by decide +kernel) (by decide +kernel) (by decide) (by decide)
  show ev_stepn _ 6 (0, [(0, .ref 0), (1, .int x1), (2, .int x2)], [], _, _, 0, 0) = _
  refine ev_go0 (ev_one_pure (M := (ev_Mof 173)) (pc := 0) (i := .aload_n 0) (len := 1) (pc' := 1) (lv' := [(0, .ref 0), (1, .int x1), (2, .int x2)]) (st' := [.ref 0]) (by decide +kernel) rfl) ?_
  refine ev_go0 (ev_one_pure (M := (ev_Mof 173)) (pc := 1) (i := .iload_n 1) (len := 1) (pc' := 2) (lv' := [(0, .ref 0), (1, .int x1), (2, .int x2)]) (st' := [.int x1, .ref 0]) (by decide +kernel) rfl) ?_
  refine ev_go0 (ev_p_virt (M := (ev_Mof 173)) (pc := 2) (x := 156) (mi := 200) (na := 1) (by decide +kernel) (by decide +kernel) (by decide +kernel) (by decide +kernel) rfl rfl (ev_recv_of ev_fH0) (ev_k9 x1 hl_x1)) ?_
  refine ev_go0 (ev_w_astore_n (M := (ev_Mof 173)) (pc := 5) (k := 3) (lv' := [(3, .null), (0, .ref 0), (1, .int x1), (2, .int x2)]) (by decide +kernel) (by decide +kernel) (Or.inr (Or.inl rfl)) rfl) ?_
  refine ev_go0 (ev_one_pure (M := (ev_Mof 173)) (pc := 6) (i := .aload_n 3) (len := 1) (pc' := 7) (lv' := [(3, .null), (0, .ref 0), (1, .int x1), (2, .int x2)]) (st' := [.null]) (by decide +kernel) rfl) ?_
  refine ev_go0 (ev_w_ifnonnull (M := (ev_Mof 173)) (pc := 7) (o := 13) (t := 10) (by decide +kernel) (Or.inr ⟨rfl, rfl⟩)) ?_
  rfl
theorem ev_k28 (x1 : Int32) (hl_x1 : (0 : Int) ≤ x1.toInt) (x2 : Int32) {n : Nat} : ev_calld 12 370 [.ref 0, .int x1, .int x2, .ref 723] ev_H0 n = some (.inl (some (.int (1))), ev_H0, n, 1, 6) := by
  refine ev_call_int (k := 8) (pcR := 23) (lv' := [(4, .retAddr 1), (0, .ref 0), (1, .int x1), (2, .int x2), (3, .ref 723)]) (v := (1)) (ty := .int) (by decide +kernel) rfl ?_ (by decide +kernel) (by decide +kernel) (by decide +kernel) (by decide)
  show ev_stepn _ 8 (0, [(0, .ref 0), (1, .int x1), (2, .int x2), (3, .ref 723)], [], _, _, 0, 0) = _
  refine ev_go0 (ev_one_pure (M := (ev_Mof 370)) (pc := 0) (i := .aload_n 3) (len := 1) (pc' := 1) (lv' := [(0, .ref 0), (1, .int x1), (2, .int x2), (3, .ref 723)]) (st' := [.ref 723]) (by decide +kernel) rfl) ?_
  refine ev_go0 (ev_w_iconst (M := (ev_Mof 370)) (pc := 1) (k := 0) (v := 0) (by decide +kernel) (by decide +kernel)) ?_
  refine ev_go0 (ev_one_pure (M := (ev_Mof 370)) (pc := 2) (i := .aload_n 0) (len := 1) (pc' := 3) (lv' := [(0, .ref 0), (1, .int x1), (2, .int x2), (3, .ref 723)]) (st' := [.ref 0, .int (0), .ref 723]) (by decide +kernel) rfl) ?_
  refine ev_go0 (ev_one_pure (M := (ev_Mof 370)) (pc := 3) (i := .iload_n 1) (len := 1) (pc' := 4) (lv' := [(0, .ref 0), (1, .int x1), (2, .int x2), (3, .ref 723)]) (st' := [.int x1, .ref 0, .int (0), .ref 723]) (by decide +kernel) rfl) ?_
  refine ev_go0 (ev_one_pure (M := (ev_Mof 370)) (pc := 4) (i := .iload_n 2) (len := 1) (pc' := 5) (lv' := [(0, .ref 0), (1, .int x1), (2, .int x2), (3, .ref 723)]) (st' := [.int x2, .int x1, .ref 0, .int (0), .ref 723]) (by decide +kernel) rfl) ?_
  refine ev_go (ev_p_virtX (M := (ev_Mof 370)) (pc := 5) (x := 35) (t := 20) (mi := 173) (na := 2) (by decide +kernel) (by decide +kernel) (by decide +kernel) (by decide +kernel) rfl rfl (ev_recv_of ev_fH0) (ev_k27 x1 hl_x1 x2) (by decide +kernel)) ?_
  refine ev_go0 (ev_w_astore (M := (ev_Mof 370)) (pc := 20) (k := 4) (lv' := [(4, .retAddr 1), (0, .ref 0), (1, .int x1), (2, .int x2), (3, .ref 723)]) (by decide +kernel) (by decide +kernel) (Or.inr (Or.inr ⟨_, rfl⟩)) rfl) ?_
  refine ev_go0 (ev_w_iconst (M := (ev_Mof 370)) (pc := 22) (k := 1) (v := 1) (by decide +kernel) (by decide +kernel)) ?_
  rfl
theorem ev_k29 (x1 : Int32) (hl_x1 : (0 : Int) ≤ x1.toInt) {n : Nat} : ev_calld 10 222 [.int x1, .int (0), .int (-1)] ev_H0 n = some (.inl (some (.int (0))), ev_H0, n, 0, 0) := by
  refine ev_call_int (k := 7) (pcR := 15) (lv' := [(0, .int x1), (1, .int (0)), (2, .int (-1))]) (v := (0)) (ty := .boolean) (by decide +kernel) rfl ?_ (by decide +kernel) (by decide +kernel) (by decide +kernel) (by decide)
  show ev_stepn _ 7 (0, [(0, .int x1), (1, .int (0)), (2, .int (-1))], [], _, _, 0, 0) = _
  refine ev_go0 (ev_one_pure (M := (ev_Mof 222)) (pc := 0) (i := .iload_n 0) (len := 1) (pc' := 1) (lv' := [(0, .int x1), (1, .int (0)), (2, .int (-1))]) (st' := [.int x1]) (by decide +kernel) rfl) ?_
  refine ev_go0 (ev_one_pure (M := (ev_Mof 222)) (pc := 1) (i := .iload_n 1) (len := 1) (pc' := 2) (lv' := [(0, .int x1), (1, .int (0)), (2, .int (-1))]) (st' := [.int (0), .int x1]) (by decide +kernel) rfl) ?_
  refine ev_go0 (ev_w_icmp (M := (ev_Mof 222)) (pc := 2) (q := .lt) (o := 12) (b := false) (t := 5) (by decide +kernel) (ev_c_lt0 hl_x1 (by decide +kernel)) rfl) ?_
  refine ev_go0 (ev_one_pure (M := (ev_Mof 222)) (pc := 5) (i := .iload_n 0) (len := 1) (pc' := 6) (lv' := [(0, .int x1), (1, .int (0)), (2, .int (-1))]) (st' := [.int x1]) (by decide +kernel) rfl) ?_
  refine ev_go0 (ev_one_pure (M := (ev_Mof 222)) (pc := 6) (i := .iload_n 2) (len := 1) (pc' := 7) (lv' := [(0, .int x1), (1, .int (0)), (2, .int (-1))]) (st' := [.int (-1), .int x1]) (by decide +kernel) rfl) ?_
  refine ev_go0 (ev_w_icmp (M := (ev_Mof 222)) (pc := 7) (q := .gt) (o := 7) (b := true) (t := 14) (by decide +kernel) (ev_c_gt1 hl_x1 (by decide +kernel)) rfl) ?_
  refine ev_go0 (ev_w_iconst (M := (ev_Mof 222)) (pc := 14) (k := 0) (v := 0) (by decide +kernel) (by decide +kernel)) ?_
  rfl
theorem ev_k30 (x1 : Int32) (hl_x1 : (0 : Int) ≤ x1.toInt) {n : Nat} : ev_calld 11 273 [.ref 621, .int x1] ev_H0 n = some (.inl (some (.int (0))), ev_H0, n, 0, 0) := by
  refine ev_call_int (k := 7) (pcR := 11) (lv' := [(0, .ref 621), (1, .int x1)]) (v := (0)) (ty := .boolean) (by decide +kernel) rfl ?_ (by decide +kernel) (by decide +kernel) (by decide +kernel) (by decide)
  show ev_stepn _ 7 (0, [(0, .ref 621), (1, .int x1)], [], _, _, 0, 0) = _
  refine ev_go0 (ev_one_pure (M := (ev_Mof 273)) (pc := 0) (i := .iload_n 1) (len := 1) (pc' := 1) (lv' := [(0, .ref 621), (1, .int x1)]) (st' := [.int x1]) (by decide +kernel) rfl) ?_
  refine ev_go0 (ev_w_iconst (M := (ev_Mof 273)) (pc := 1) (k := 0) (v := 0) (by decide +kernel) (by decide +kernel)) ?_
  refine ev_go0 (ev_one_pure (M := (ev_Mof 273)) (pc := 2) (i := .aload_n 0) (len := 1) (pc' := 3) (lv' := [(0, .ref 621), (1, .int x1)]) (st' := [.ref 621, .int (0), .int x1]) (by decide +kernel) rfl) ?_
  refine ev_go0 (ev_p_getf (M := (ev_Mof 273)) (pc := 3) (x := 525) (ci := 13) (f := 5) (fin := 0) (v := .int (0)) (by decide +kernel) (by decide +kernel) ev_fH621 rfl) ?_
  refine ev_go0 (ev_w_iconst (M := (ev_Mof 273)) (pc := 6) (k := 1) (v := 1) (by decide +kernel) (by decide +kernel)) ?_
  refine ev_go0 (ev_w_isub (M := (ev_Mof 273)) (pc := 7) (v := (-1)) (by decide +kernel) (by decide +kernel)) ?_
  refine ev_go0 (ev_w_stat (M := (ev_Mof 273)) (pc := 8) (y := 325) (kind := 2) (Or.inl rfl) (mi := 222) (na := 3) (by decide +kernel) (by decide +kernel) (by decide +kernel) (by decide +kernel) rfl rfl (ev_k29 x1 hl_x1)) ?_
  rfl
theorem ev_k31 (x1 : Int32) (hl_x1 : (0 : Int) ≤ x1.toInt) (x2 : Int32) {n : Nat} : ev_calld 12 277 [.ref 621, .int x1, .int x2] ev_H0 n = some (.inl (some (.int (0))), (ev_H0.set 621 (.inr (13, (ev_F621.set 0 (.int (1)))))), n, 0, 0) := by
  refine ev_call_int (k := 12) (pcR := 36) (lv' := [(0, .ref 621), (1, .int x1), (2, .int x2)]) (v := (0)) (ty := .boolean) (by decide +kernel) rfl ?_ (by decide +kernel) (by decide +kernel) (by decide +kernel) (by decide)
  show ev_stepn _ 12 (0, [(0, .ref 621), (1, .int x1), (2, .int x2)], [], _, _, 0, 0) = _
  refine ev_go0 (ev_one_pure (M := (ev_Mof 277)) (pc := 0) (i := .aload_n 0) (len := 1) (pc' := 1) (lv' := [(0, .ref 621), (1, .int x1), (2, .int x2)]) (st' := [.ref 621]) (by decide +kernel) rfl) ?_
  refine ev_go0 (ev_one_pure (M := (ev_Mof 277)) (pc := 1) (i := .aload_n 0) (len := 1) (pc' := 2) (lv' := [(0, .ref 621), (1, .int x1), (2, .int x2)]) (st' := [.ref 621, .ref 621]) (by decide +kernel) rfl) ?_
  refine ev_go0 (ev_one_pure (M := (ev_Mof 277)) (pc := 2) (i := .iload_n 1) (len := 1) (pc' := 3) (lv' := [(0, .ref 621), (1, .int x1), (2, .int x2)]) (st' := [.int x1, .ref 621, .ref 621]) (by decide +kernel) rfl) ?_
  refine ev_go0 (ev_p_virt (M := (ev_Mof 277)) (pc := 3) (x := 531) (mi := 273) (na := 1) (by decide +kernel) (by decide +kernel) (by decide +kernel) (by decide +kernel) rfl rfl (ev_recv_of ev_fH621) (ev_k30 x1 hl_x1)) ?_
  refine ev_go0 (ev_w_if (M := (ev_Mof 277)) (pc := 6) (q := .ne) (o := 7) (b := false) (t := 9) (by decide +kernel) (by decide +kernel) rfl) ?_
  refine ev_go0 (ev_w_iconst (M := (ev_Mof 277)) (pc := 9) (k := 1) (v := 1) (by decide +kernel) (by decide +kernel)) ?_
  refine ev_go0 (ev_one_pure (M := (ev_Mof 277)) (pc := 10) (i := .goto 15) (len := 3) (pc' := 25) (lv' := [(0, .ref 621), (1, .int x1), (2, .int x2)]) (st' := [.int (1), .ref 621]) (by decide +kernel) rfl) ?_
  refine ev_go0 (ev_p_putf (M := (ev_Mof 277)) (pc := 25) (x := 321) (ci := 13) (f := 0) (by decide +kernel) (by decide +kernel) ev_fH621 rfl (by decide +kernel)) ?_
  refine ev_go0 (ev_one_pure (M := (ev_Mof 277)) (pc := 28) (i := .aload_n 0) (len := 1) (pc' := 29) (lv' := [(0, .ref 621), (1, .int x1), (2, .int x2)]) (st' := [.ref 621]) (by decide +kernel) rfl) ?_
  refine ev_go0 (ev_p_getf (M := (ev_Mof 277)) (pc := 29) (x := 321) (ci := 13) (f := 0) (fin := 0) (v := .int (1)) (by decide +kernel) (by decide +kernel) (ev_hself ev_fH621) rfl) ?_
  refine ev_go0 (ev_w_if (M := (ev_Mof 277)) (pc := 32) (q := .le) (o := 5) (b := false) (t := 35) (by decide +kernel) (by decide +kernel) rfl) ?_
  refine ev_go0 (ev_w_iconst (M := (ev_Mof 277)) (pc := 35) (k := 0) (v := 0) (by decide +kernel) (by decide +kernel)) ?_
  rfl
theorem ev_p1_7_p (xs : Nat → Int32) (x1 : Int32) (hl_x1 : (0 : Int) ≤ x1.toInt) (x2 : Int32) (e1 : xs 1 = x1) (e2 : xs 2 = x2) : ev_P1 xs 513 := by
  refine ⟨34, [(6, .int (0)), (5, .int (1)), (4, .int (0)), (3, .ref 723), (2, .ref 621), (1, .ref 0), (0, .retAddr 0)], (ev_H0.set 621 (.inr (13, (ev_F621.set 0 (.int (1)))))), 724, 725, 3553592, ?_, ⟨rfl, rfl, rfl, rfl⟩, rfl, by decide, by decide⟩
  show ev_stepn _ _ (513, [(4, .int (0)), (3, .ref 723), (2, .ref 621), (1, .ref 0), (0, .retAddr 0)], [], _, _, _, _) = _
  refine ev_go0 (ev_one_pure (M := ev_Mlaw) (pc := 513) (i := .aload_n 1) (len := 1) (pc' := 514) (lv' := [(4, .int (0)), (3, .ref 723), (2, .ref 621), (1, .ref 0), (0, .retAddr 0)]) (st' := [.ref 0]) (by decide +kernel) rfl) ?_
  refine ev_go0 (ev_one_pure (M := ev_Mlaw) (pc := 514) (i := .aload_n 0) (len := 1) (pc' := 515) (lv' := [(4, .int (0)), (3, .ref 723), (2, .ref 621), (1, .ref 0), (0, .retAddr 0)]) (st' := [.retAddr 0, .ref 0]) (by decide +kernel) rfl) ?_
  refine ev_go0 (ev_one_pure (M := ev_Mlaw) (pc := 515) (i := .iload 4) (len := 2) (pc' := 517) (lv' := [(4, .int (0)), (3, .ref 723), (2, .ref 621), (1, .ref 0), (0, .retAddr 0)]) (st' := [.int (0), .retAddr 0, .ref 0]) (by decide +kernel) rfl) ?_
  refine ev_go0 (ev_w_iconst (M := ev_Mlaw) (pc := 517) (k := 1) (v := 1) (by decide +kernel) (by decide +kernel)) ?_
  refine ev_go0 (ev_w_iadd (M := ev_Mlaw) (pc := 518) (v := (1)) (by decide +kernel) (by decide +kernel)) ?_
  refine ev_go0 (ev_w_scr (M := ev_Mlaw) (pc := 519) (v := x1) (j := 1) (by decide +kernel) (by decide +kernel) (by decide +kernel) e1) ?_
  refine ev_go0 (ev_one_pure (M := ev_Mlaw) (pc := 520) (i := .aload_n 0) (len := 1) (pc' := 521) (lv' := [(4, .int (0)), (3, .ref 723), (2, .ref 621), (1, .ref 0), (0, .retAddr 0)]) (st' := [.retAddr 0, .int x1, .ref 0]) (by decide +kernel) rfl) ?_
  refine ev_go0 (ev_one_pure (M := ev_Mlaw) (pc := 521) (i := .iload 4) (len := 2) (pc' := 523) (lv' := [(4, .int (0)), (3, .ref 723), (2, .ref 621), (1, .ref 0), (0, .retAddr 0)]) (st' := [.int (0), .retAddr 0, .int x1, .ref 0]) (by decide +kernel) rfl) ?_
  refine ev_go0 (ev_w_iconst (M := ev_Mlaw) (pc := 523) (k := 2) (v := 2) (by decide +kernel) (by decide +kernel)) ?_
  refine ev_go0 (ev_w_iadd (M := ev_Mlaw) (pc := 524) (v := (2)) (by decide +kernel) (by decide +kernel)) ?_
  refine ev_go0 (ev_w_scr (M := ev_Mlaw) (pc := 525) (v := x2) (j := 2) (by decide +kernel) (by decide +kernel) (by decide +kernel) e2) ?_
  refine ev_go0 (ev_one_pure (M := ev_Mlaw) (pc := 526) (i := .aload_n 3) (len := 1) (pc' := 527) (lv' := [(4, .int (0)), (3, .ref 723), (2, .ref 621), (1, .ref 0), (0, .retAddr 0)]) (st' := [.ref 723, .int x2, .int x1, .ref 0]) (by decide +kernel) rfl) ?_
  refine ev_go (ev_w_stat (M := ev_Mlaw) (pc := 527) (y := 154) (kind := 8) (Or.inr (Or.inr rfl)) (mi := 370) (na := 4) (by decide +kernel) (by decide +kernel) (by decide +kernel) (by decide +kernel) rfl rfl (ev_k28 x1 hl_x1 x2)) ?_
  refine ev_go0 (ev_w_istore (M := ev_Mlaw) (pc := 530) (k := 5) (lv' := [(5, .int (1)), (4, .int (0)), (3, .ref 723), (2, .ref 621), (1, .ref 0), (0, .retAddr 0)]) (by decide +kernel) (by decide +kernel) rfl) ?_
  refine ev_go0 (ev_one_pure (M := ev_Mlaw) (pc := 532) (i := .aload_n 2) (len := 1) (pc' := 533) (lv' := [(5, .int (1)), (4, .int (0)), (3, .ref 723), (2, .ref 621), (1, .ref 0), (0, .retAddr 0)]) (st' := [.ref 621]) (by decide +kernel) rfl) ?_
  refine ev_go0 (ev_one_pure (M := ev_Mlaw) (pc := 533) (i := .aload_n 0) (len := 1) (pc' := 534) (lv' := [(5, .int (1)), (4, .int (0)), (3, .ref 723), (2, .ref 621), (1, .ref 0), (0, .retAddr 0)]) (st' := [.retAddr 0, .ref 621]) (by decide +kernel) rfl) ?_
  refine ev_go0 (ev_one_pure (M := ev_Mlaw) (pc := 534) (i := .iload 4) (len := 2) (pc' := 536) (lv' := [(5, .int (1)), (4, .int (0)), (3, .ref 723), (2, .ref 621), (1, .ref 0), (0, .retAddr 0)]) (st' := [.int (0), .retAddr 0, .ref 621]) (by decide +kernel) rfl) ?_
  refine ev_go0 (ev_w_iconst (M := ev_Mlaw) (pc := 536) (k := 1) (v := 1) (by decide +kernel) (by decide +kernel)) ?_
  refine ev_go0 (ev_w_iadd (M := ev_Mlaw) (pc := 537) (v := (1)) (by decide +kernel) (by decide +kernel)) ?_
  refine ev_go0 (ev_w_scr (M := ev_Mlaw) (pc := 538) (v := x1) (j := 1) (by decide +kernel) (by decide +kernel) (by decide +kernel) e1) ?_
  refine ev_go0 (ev_one_pure (M := ev_Mlaw) (pc := 539) (i := .aload_n 0) (len := 1) (pc' := 540) (lv' := [(5, .int (1)), (4, .int (0)), (3, .ref 723), (2, .ref 621), (1, .ref 0), (0, .retAddr 0)]) (st' := [.retAddr 0, .int x1, .ref 621]) (by decide +kernel) rfl) ?_
  refine ev_go0 (ev_one_pure (M := ev_Mlaw) (pc := 540) (i := .iload 4) (len := 2) (pc' := 542) (lv' := [(5, .int (1)), (4, .int (0)), (3, .ref 723), (2, .ref 621), (1, .ref 0), (0, .retAddr 0)]) (st' := [.int (0), .retAddr 0, .int x1, .ref 621]) (by decide +kernel) rfl) ?_
  refine ev_go0 (ev_w_iconst (M := ev_Mlaw) (pc := 542) (k := 2) (v := 2) (by decide +kernel) (by decide +kernel)) ?_
  refine ev_go0 (ev_w_iadd (M := ev_Mlaw) (pc := 543) (v := (2)) (by decide +kernel) (by decide +kernel)) ?_
  refine ev_go0 (ev_w_scr (M := ev_Mlaw) (pc := 544) (v := x2) (j := 2) (by decide +kernel) (by decide +kernel) (by decide +kernel) e2) ?_
  refine ev_go0 (ev_p_virt (M := ev_Mlaw) (pc := 545) (x := 157) (mi := 277) (na := 2) (by decide +kernel) (by decide +kernel) (by decide +kernel) (by decide +kernel) rfl rfl (ev_recv_of ev_fH621) (ev_k31 x1 hl_x1 x2)) ?_
  refine ev_go0 (ev_w_istore (M := ev_Mlaw) (pc := 548) (k := 6) (lv' := [(6, .int (0)), (5, .int (1)), (4, .int (0)), (3, .ref 723), (2, .ref 621), (1, .ref 0), (0, .retAddr 0)]) (by decide +kernel) (by decide +kernel) rfl) ?_
  refine ev_go0 (ev_one_pure (M := ev_Mlaw) (pc := 550) (i := .aload_n 2) (len := 1) (pc' := 551) (lv' := [(6, .int (0)), (5, .int (1)), (4, .int (0)), (3, .ref 723), (2, .ref 621), (1, .ref 0), (0, .retAddr 0)]) (st' := [.ref 621]) (by decide +kernel) rfl) ?_
  refine ev_go0 (ev_p_virt (M := ev_Mlaw) (pc := 551) (x := 131) (mi := 220) (na := 0) (by decide +kernel) (by decide +kernel) (by decide +kernel) (by decide +kernel) rfl rfl (ev_recv_of (ev_hself ev_fH621)) ev_k26) ?_
  refine ev_go0 (ev_one_pure (M := ev_Mlaw) (pc := 554) (i := .iload 5) (len := 2) (pc' := 556) (lv' := [(6, .int (0)), (5, .int (1)), (4, .int (0)), (3, .ref 723), (2, .ref 621), (1, .ref 0), (0, .retAddr 0)]) (st' := [.int (1), .int (1)]) (by decide +kernel) rfl) ?_
  refine ev_go0 (ev_w_icmp (M := ev_Mlaw) (pc := 556) (q := .eq) (o := 5) (b := true) (t := 561) (by decide +kernel) (by decide +kernel) rfl) ?_
  refine ev_go0 (ev_one_pure (M := ev_Mlaw) (pc := 561) (i := .iload 5) (len := 2) (pc' := 563) (lv' := [(6, .int (0)), (5, .int (1)), (4, .int (0)), (3, .ref 723), (2, .ref 621), (1, .ref 0), (0, .retAddr 0)]) (st' := [.int (1)]) (by decide +kernel) rfl) ?_
  refine ev_go0 (ev_w_if (M := ev_Mlaw) (pc := 563) (q := .ne) (o := 22) (b := true) (t := 585) (by decide +kernel) (by decide +kernel) rfl) ?_
  refine ev_go0 (ev_one_pure (M := ev_Mlaw) (pc := 585) (i := .goto 1687) (len := 3) (pc' := 2272) (lv' := [(6, .int (0)), (5, .int (1)), (4, .int (0)), (3, .ref 723), (2, .ref 621), (1, .ref 0), (0, .retAddr 0)]) (st' := []) (by decide +kernel) rfl) ?_
  rfl
theorem ev_p1arm7 (xs : Nat → Int32) : ev_P1 xs 513 := by
  rcases ev_split2 (xs 1) with h1 | h1
  · skip
    exact ev_p1_7_n xs (xs 1) h1 (xs 2) rfl rfl
  · skip
    exact ev_p1_7_p xs (xs 1) h1 (xs 2) rfl rfl
theorem ev_k32 (x1 : Int32) (hu_x1 : x1.toInt ≤ (-1 : Int)) (x2 : Int32) {n : Nat} : ev_calld 11 174 [.ref 0, .int x1, .int x2] ev_H0 n = some (.inr "java/lang/IndexOutOfBoundsException", ev_H0, n, 1, 6) := by
  refine ev_call_thrown (k := 6) (pcR := 10) (x := 160) (lv' := [(3, .null), (0, .ref 0), (1, .int x1), (2, .int x2)]) (by decide +kernel) rfl ?_ (by decide +kernel) (by decide +kernel) (by decide +kernel) (by decide) (by decide)
  show ev_stepn _ 6 (0, [(0, .ref 0), (1, .int x1), (2, .int x2)], [], _, _, 0, 0) = _
  refine ev_go0 (ev_one_pure (M := (ev_Mof 174)) (pc := 0) (i := .aload_n 0) (len := 1) (pc' := 1) (lv' := [(0, .ref 0), (1, .int x1), (2, .int x2)]) (st' := [.ref 0]) (by decide +kernel) rfl) ?_
  refine ev_go0 (ev_one_pure (M := (ev_Mof 174)) (pc := 1) (i := .iload_n 1) (len := 1) (pc' := 2) (lv' := [(0, .ref 0), (1, .int x1), (2, .int x2)]) (st' := [.int x1, .ref 0]) (by decide +kernel) rfl) ?_
  refine ev_go0 (ev_p_virt (M := (ev_Mof 174)) (pc := 2) (x := 156) (mi := 200) (na := 1) (by decide +kernel) (by decide +kernel) (by decide +kernel) (by decide +kernel) rfl rfl (ev_recv_of ev_fH0) (ev_k1 x1 hu_x1)) ?_
  refine ev_go0 (ev_w_astore_n (M := (ev_Mof 174)) (pc := 5) (k := 3) (lv' := [(3, .null), (0, .ref 0), (1, .int x1), (2, .int x2)]) (by decide +kernel) (by decide +kernel) (Or.inr (Or.inl rfl)) rfl) ?_
  refine ev_go0 (ev_one_pure (M := (ev_Mof 174)) (pc := 6) (i := .aload_n 3) (len := 1) (pc' := 7) (lv' := [(3, .null), (0, .ref 0), (1, .int x1), (2, .int x2)]) (st' := [.null]) (by decide +kernel) rfl) ?_
  refine ev_go0 (ev_w_ifnonnull (M := (ev_Mof 174)) (pc := 7) (o := 13) (t := 10) (by decide +kernel) (Or.inr ⟨rfl, rfl⟩)) ?_
  rfl
theorem ev_k33 (x1 : Int32) (hu_x1 : x1.toInt ≤ (-1 : Int)) (x2 : Int32) {n : Nat} : ev_calld 12 371 [.ref 0, .int x1, .int x2, .ref 723] ev_H0 n = some (.inl (some (.int (1))), ev_H0, n, 1, 6) := by
  refine ev_call_int (k := 8) (pcR := 16) (lv' := [(4, .retAddr 1), (0, .ref 0), (1, .int x1), (2, .int x2), (3, .ref 723)]) (v := (1)) (ty := .int) (by decide +kernel) rfl ?_ (by decide +kernel) (by decide +kernel) (by decide +kernel) (by decide)
  show ev_stepn _ 8 (0, [(0, .ref 0), (1, .int x1), (2, .int x2), (3, .ref 723)], [], _, _, 0, 0) = _
  refine ev_go0 (ev_one_pure (M := (ev_Mof 371)) (pc := 0) (i := .aload_n 3) (len := 1) (pc' := 1) (lv' := [(0, .ref 0), (1, .int x1), (2, .int x2), (3, .ref 723)]) (st' := [.ref 723]) (by decide +kernel) rfl) ?_
  refine ev_go0 (ev_w_iconst (M := (ev_Mof 371)) (pc := 1) (k := 0) (v := 0) (by decide +kernel) (by decide +kernel)) ?_
  refine ev_go0 (ev_one_pure (M := (ev_Mof 371)) (pc := 2) (i := .aload_n 0) (len := 1) (pc' := 3) (lv' := [(0, .ref 0), (1, .int x1), (2, .int x2), (3, .ref 723)]) (st' := [.ref 0, .int (0), .ref 723]) (by decide +kernel) rfl) ?_
  refine ev_go0 (ev_one_pure (M := (ev_Mof 371)) (pc := 3) (i := .iload_n 1) (len := 1) (pc' := 4) (lv' := [(0, .ref 0), (1, .int x1), (2, .int x2), (3, .ref 723)]) (st' := [.int x1, .ref 0, .int (0), .ref 723]) (by decide +kernel) rfl) ?_
  refine ev_go0 (ev_one_pure (M := (ev_Mof 371)) (pc := 4) (i := .iload_n 2) (len := 1) (pc' := 5) (lv' := [(0, .ref 0), (1, .int x1), (2, .int x2), (3, .ref 723)]) (st' := [.int x2, .int x1, .ref 0, .int (0), .ref 723]) (by decide +kernel) rfl) ?_
  refine ev_go (ev_p_virtX (M := (ev_Mof 371)) (pc := 5) (x := 39) (t := 13) (mi := 174) (na := 2) (by decide +kernel) (by decide +kernel) (by decide +kernel) (by decide +kernel) rfl rfl (ev_recv_of ev_fH0) (ev_k32 x1 hu_x1 x2) (by decide +kernel)) ?_
  refine ev_go0 (ev_w_astore (M := (ev_Mof 371)) (pc := 13) (k := 4) (lv' := [(4, .retAddr 1), (0, .ref 0), (1, .int x1), (2, .int x2), (3, .ref 723)]) (by decide +kernel) (by decide +kernel) (Or.inr (Or.inr ⟨_, rfl⟩)) rfl) ?_
  refine ev_go0 (ev_w_iconst (M := (ev_Mof 371)) (pc := 15) (k := 1) (v := 1) (by decide +kernel) (by decide +kernel)) ?_
  rfl
theorem ev_k34 (x1 : Int32) (hu_x1 : x1.toInt ≤ (-1 : Int)) (x2 : Int32) {n : Nat} : ev_calld 12 279 [.ref 621, .int x1, .int x2] ev_H0 n = some (.inl (some (.int (0))), ((ev_H0.set 621 (.inr (13, (ev_F621.set 0 (.int (0)))))).set 621 (.inr (13, ((ev_F621.set 0 (.int (0))).set 0 (.int (1)))))), n, 0, 0) := by
  refine ev_call_int (k := 10) (pcR := 18) (lv' := [(0, .ref 621), (1, .int x1), (2, .int x2)]) (v := (0)) (ty := .int) (by decide +kernel) rfl ?_ (by decide +kernel) (by decide +kernel) (by decide +kernel) (by decide)
  show ev_stepn _ 10 (0, [(0, .ref 621), (1, .int x1), (2, .int x2)], [], _, _, 0, 0) = _
  refine ev_go0 (ev_one_pure (M := (ev_Mof 279)) (pc := 0) (i := .aload_n 0) (len := 1) (pc' := 1) (lv' := [(0, .ref 621), (1, .int x1), (2, .int x2)]) (st' := [.ref 621]) (by decide +kernel) rfl) ?_
  refine ev_go0 (ev_w_iconst (M := (ev_Mof 279)) (pc := 1) (k := 0) (v := 0) (by decide +kernel) (by decide +kernel)) ?_
  refine ev_go0 (ev_p_putf (M := (ev_Mof 279)) (pc := 2) (x := 321) (ci := 13) (f := 0) (by decide +kernel) (by decide +kernel) ev_fH621 rfl (by decide +kernel)) ?_
  refine ev_go0 (ev_one_pure (M := (ev_Mof 279)) (pc := 5) (i := .aload_n 0) (len := 1) (pc' := 6) (lv' := [(0, .ref 621), (1, .int x1), (2, .int x2)]) (st' := [.ref 621]) (by decide +kernel) rfl) ?_
  refine ev_go0 (ev_one_pure (M := (ev_Mof 279)) (pc := 6) (i := .iload_n 1) (len := 1) (pc' := 7) (lv' := [(0, .ref 621), (1, .int x1), (2, .int x2)]) (st' := [.int x1, .ref 621]) (by decide +kernel) rfl) ?_
  refine ev_go0 (ev_p_virt (M := (ev_Mof 279)) (pc := 7) (x := 531) (mi := 273) (na := 1) (by decide +kernel) (by decide +kernel) (by decide +kernel) (by decide +kernel) rfl rfl (ev_recv_of (ev_hself ev_fH621)) (ev_k5 x1 hu_x1)) ?_
  refine ev_go0 (ev_w_if (M := (ev_Mof 279)) (pc := 10) (q := .ne) (o := 9) (b := false) (t := 13) (by decide +kernel) (by decide +kernel) rfl) ?_
  refine ev_go0 (ev_one_pure (M := (ev_Mof 279)) (pc := 13) (i := .aload_n 0) (len := 1) (pc' := 14) (lv' := [(0, .ref 621), (1, .int x1), (2, .int x2)]) (st' := [.ref 621]) (by decide +kernel) rfl) ?_
  refine ev_go0 (ev_w_iconst (M := (ev_Mof 279)) (pc := 14) (k := 1) (v := 1) (by decide +kernel) (by decide +kernel)) ?_
  refine ev_go0 (ev_p_virt (M := (ev_Mof 279)) (pc := 15) (x := 342) (mi := 221) (na := 1) (by decide +kernel) (by decide +kernel) (by decide +kernel) (by decide +kernel) rfl rfl (ev_recv_of (ev_hself ev_fH621)) ev_k6) ?_
  rfl
theorem ev_p1_8_n (xs : Nat → Int32) (x1 : Int32) (hu_x1 : x1.toInt ≤ (-1 : Int)) (x2 : Int32) (e1 : xs 1 = x1) (e2 : xs 2 = x2) : ev_P1 xs 588 := by
  refine ⟨34, [(6, .int (0)), (5, .int (1)), (4, .int (0)), (3, .ref 723), (2, .ref 621), (1, .ref 0), (0, .retAddr 0)], ((ev_H0.set 621 (.inr (13, (ev_F621.set 0 (.int (0)))))).set 621 (.inr (13, ((ev_F621.set 0 (.int (0))).set 0 (.int (1)))))), 724, 725, 3553592, ?_, ⟨rfl, rfl, rfl, rfl⟩, rfl, by decide, by decide⟩
  show ev_stepn _ _ (588, [(4, .int (0)), (3, .ref 723), (2, .ref 621), (1, .ref 0), (0, .retAddr 0)], [], _, _, _, _) = _
  refine ev_go0 (ev_one_pure (M := ev_Mlaw) (pc := 588) (i := .aload_n 1) (len := 1) (pc' := 589) (lv' := [(4, .int (0)), (3, .ref 723), (2, .ref 621), (1, .ref 0), (0, .retAddr 0)]) (st' := [.ref 0]) (by decide +kernel) rfl) ?_
  refine ev_go0 (ev_one_pure (M := ev_Mlaw) (pc := 589) (i := .aload_n 0) (len := 1) (pc' := 590) (lv' := [(4, .int (0)), (3, .ref 723), (2, .ref 621), (1, .ref 0), (0, .retAddr 0)]) (st' := [.retAddr 0, .ref 0]) (by decide +kernel) rfl) ?_
  refine ev_go0 (ev_one_pure (M := ev_Mlaw) (pc := 590) (i := .iload 4) (len := 2) (pc' := 592) (lv' := [(4, .int (0)), (3, .ref 723), (2, .ref 621), (1, .ref 0), (0, .retAddr 0)]) (st' := [.int (0), .retAddr 0, .ref 0]) (by decide +kernel) rfl) ?_
  refine ev_go0 (ev_w_iconst (M := ev_Mlaw) (pc := 592) (k := 1) (v := 1) (by decide +kernel) (by decide +kernel)) ?_
  refine ev_go0 (ev_w_iadd (M := ev_Mlaw) (pc := 593) (v := (1)) (by decide +kernel) (by decide +kernel)) ?_
  refine ev_go0 (ev_w_scr (M := ev_Mlaw) (pc := 594) (v := x1) (j := 1) (by decide +kernel) (by decide +kernel) (by decide +kernel) e1) ?_
  refine ev_go0 (ev_one_pure (M := ev_Mlaw) (pc := 595) (i := .aload_n 0) (len := 1) (pc' := 596) (lv' := [(4, .int (0)), (3, .ref 723), (2, .ref 621), (1, .ref 0), (0, .retAddr 0)]) (st' := [.retAddr 0, .int x1, .ref 0]) (by decide +kernel) rfl) ?_
  refine ev_go0 (ev_one_pure (M := ev_Mlaw) (pc := 596) (i := .iload 4) (len := 2) (pc' := 598) (lv' := [(4, .int (0)), (3, .ref 723), (2, .ref 621), (1, .ref 0), (0, .retAddr 0)]) (st' := [.int (0), .retAddr 0, .int x1, .ref 0]) (by decide +kernel) rfl) ?_
  refine ev_go0 (ev_w_iconst (M := ev_Mlaw) (pc := 598) (k := 2) (v := 2) (by decide +kernel) (by decide +kernel)) ?_
  refine ev_go0 (ev_w_iadd (M := ev_Mlaw) (pc := 599) (v := (2)) (by decide +kernel) (by decide +kernel)) ?_
  refine ev_go0 (ev_w_scr (M := ev_Mlaw) (pc := 600) (v := x2) (j := 2) (by decide +kernel) (by decide +kernel) (by decide +kernel) e2) ?_
  refine ev_go0 (ev_one_pure (M := ev_Mlaw) (pc := 601) (i := .aload_n 3) (len := 1) (pc' := 602) (lv' := [(4, .int (0)), (3, .ref 723), (2, .ref 621), (1, .ref 0), (0, .retAddr 0)]) (st' := [.ref 723, .int x2, .int x1, .ref 0]) (by decide +kernel) rfl) ?_
  refine ev_go (ev_w_stat (M := ev_Mlaw) (pc := 602) (y := 158) (kind := 8) (Or.inr (Or.inr rfl)) (mi := 371) (na := 4) (by decide +kernel) (by decide +kernel) (by decide +kernel) (by decide +kernel) rfl rfl (ev_k33 x1 hu_x1 x2)) ?_
  refine ev_go0 (ev_w_istore (M := ev_Mlaw) (pc := 605) (k := 5) (lv' := [(5, .int (1)), (4, .int (0)), (3, .ref 723), (2, .ref 621), (1, .ref 0), (0, .retAddr 0)]) (by decide +kernel) (by decide +kernel) rfl) ?_
  refine ev_go0 (ev_one_pure (M := ev_Mlaw) (pc := 607) (i := .aload_n 2) (len := 1) (pc' := 608) (lv' := [(5, .int (1)), (4, .int (0)), (3, .ref 723), (2, .ref 621), (1, .ref 0), (0, .retAddr 0)]) (st' := [.ref 621]) (by decide +kernel) rfl) ?_
  refine ev_go0 (ev_one_pure (M := ev_Mlaw) (pc := 608) (i := .aload_n 0) (len := 1) (pc' := 609) (lv' := [(5, .int (1)), (4, .int (0)), (3, .ref 723), (2, .ref 621), (1, .ref 0), (0, .retAddr 0)]) (st' := [.retAddr 0, .ref 621]) (by decide +kernel) rfl) ?_
  refine ev_go0 (ev_one_pure (M := ev_Mlaw) (pc := 609) (i := .iload 4) (len := 2) (pc' := 611) (lv' := [(5, .int (1)), (4, .int (0)), (3, .ref 723), (2, .ref 621), (1, .ref 0), (0, .retAddr 0)]) (st' := [.int (0), .retAddr 0, .ref 621]) (by decide +kernel) rfl) ?_
  refine ev_go0 (ev_w_iconst (M := ev_Mlaw) (pc := 611) (k := 1) (v := 1) (by decide +kernel) (by decide +kernel)) ?_
  refine ev_go0 (ev_w_iadd (M := ev_Mlaw) (pc := 612) (v := (1)) (by decide +kernel) (by decide +kernel)) ?_
  refine ev_go0 (ev_w_scr (M := ev_Mlaw) (pc := 613) (v := x1) (j := 1) (by decide +kernel) (by decide +kernel) (by decide +kernel) e1) ?_
  refine ev_go0 (ev_one_pure (M := ev_Mlaw) (pc := 614) (i := .aload_n 0) (len := 1) (pc' := 615) (lv' := [(5, .int (1)), (4, .int (0)), (3, .ref 723), (2, .ref 621), (1, .ref 0), (0, .retAddr 0)]) (st' := [.retAddr 0, .int x1, .ref 621]) (by decide +kernel) rfl) ?_
  refine ev_go0 (ev_one_pure (M := ev_Mlaw) (pc := 615) (i := .iload 4) (len := 2) (pc' := 617) (lv' := [(5, .int (1)), (4, .int (0)), (3, .ref 723), (2, .ref 621), (1, .ref 0), (0, .retAddr 0)]) (st' := [.int (0), .retAddr 0, .int x1, .ref 621]) (by decide +kernel) rfl) ?_
  refine ev_go0 (ev_w_iconst (M := ev_Mlaw) (pc := 617) (k := 2) (v := 2) (by decide +kernel) (by decide +kernel)) ?_
  refine ev_go0 (ev_w_iadd (M := ev_Mlaw) (pc := 618) (v := (2)) (by decide +kernel) (by decide +kernel)) ?_
  refine ev_go0 (ev_w_scr (M := ev_Mlaw) (pc := 619) (v := x2) (j := 2) (by decide +kernel) (by decide +kernel) (by decide +kernel) e2) ?_
  refine ev_go0 (ev_p_virt (M := ev_Mlaw) (pc := 620) (x := 160) (mi := 279) (na := 2) (by decide +kernel) (by decide +kernel) (by decide +kernel) (by decide +kernel) rfl rfl (ev_recv_of ev_fH621) (ev_k34 x1 hu_x1 x2)) ?_
  refine ev_go0 (ev_w_istore (M := ev_Mlaw) (pc := 623) (k := 6) (lv' := [(6, .int (0)), (5, .int (1)), (4, .int (0)), (3, .ref 723), (2, .ref 621), (1, .ref 0), (0, .retAddr 0)]) (by decide +kernel) (by decide +kernel) rfl) ?_
  refine ev_go0 (ev_one_pure (M := ev_Mlaw) (pc := 625) (i := .aload_n 2) (len := 1) (pc' := 626) (lv' := [(6, .int (0)), (5, .int (1)), (4, .int (0)), (3, .ref 723), (2, .ref 621), (1, .ref 0), (0, .retAddr 0)]) (st' := [.ref 621]) (by decide +kernel) rfl) ?_
  refine ev_go0 (ev_p_virt (M := ev_Mlaw) (pc := 626) (x := 131) (mi := 220) (na := 0) (by decide +kernel) (by decide +kernel) (by decide +kernel) (by decide +kernel) rfl rfl (ev_recv_of (ev_hself (ev_hself ev_fH621))) ev_k8) ?_
  refine ev_go0 (ev_one_pure (M := ev_Mlaw) (pc := 629) (i := .iload 5) (len := 2) (pc' := 631) (lv' := [(6, .int (0)), (5, .int (1)), (4, .int (0)), (3, .ref 723), (2, .ref 621), (1, .ref 0), (0, .retAddr 0)]) (st' := [.int (1), .int (1)]) (by decide +kernel) rfl) ?_
  refine ev_go0 (ev_w_icmp (M := ev_Mlaw) (pc := 631) (q := .eq) (o := 5) (b := true) (t := 636) (by decide +kernel) (by decide +kernel) rfl) ?_
  refine ev_go0 (ev_one_pure (M := ev_Mlaw) (pc := 636) (i := .iload 5) (len := 2) (pc' := 638) (lv' := [(6, .int (0)), (5, .int (1)), (4, .int (0)), (3, .ref 723), (2, .ref 621), (1, .ref 0), (0, .retAddr 0)]) (st' := [.int (1)]) (by decide +kernel) rfl) ?_
  refine ev_go0 (ev_w_if (M := ev_Mlaw) (pc := 638) (q := .ne) (o := 15) (b := true) (t := 653) (by decide +kernel) (by decide +kernel) rfl) ?_
  refine ev_go0 (ev_one_pure (M := ev_Mlaw) (pc := 653) (i := .goto 1619) (len := 3) (pc' := 2272) (lv' := [(6, .int (0)), (5, .int (1)), (4, .int (0)), (3, .ref 723), (2, .ref 621), (1, .ref 0), (0, .retAddr 0)]) (st' := []) (by decide +kernel) rfl) ?_
  rfl
theorem ev_k35 (x1 : Int32) (hl_x1 : (0 : Int) ≤ x1.toInt) (x2 : Int32) {n : Nat} : ev_calld 11 174 [.ref 0, .int x1, .int x2] ev_H0 n = some (.inr "java/lang/IndexOutOfBoundsException", ev_H0, n, 1, 6) := by
  refine ev_call_thrown (k := 6) (pcR := 10) (x := 160) (lv' := [(3, .null), (0, .ref 0), (1, .int x1), (2, .int x2)]) (by decide +kernel) rfl ?_ (by decide +kernel) (by decide +kernel) (by decide +kernel) (by decide) (by decide)
  show ev_stepn _ 6 (0, [(0, .ref 0), (1, .int x1), (2, .int x2)], [], _, _, 0, 0) = _
  refine ev_go0 (ev_one_pure (M := (ev_Mof 174)) (pc := 0) (i := .aload_n 0) (len := 1) (pc' := 1) (lv' := [(0, .ref 0), (1, .int x1), (2, .int x2)]) (st' := [.ref 0]) (by decide +kernel) rfl) ?_
  refine ev_go0 (ev_one_pure (M := (ev_Mof 174)) (pc := 1) (i := .iload_n 1) (len := 1) (pc' := 2) (lv' := [(0, .ref 0), (1, .int x1), (2, .int x2)]) (st' := [.int x1, .ref 0]) (by decide +kernel) rfl) ?_
  refine ev_go0 (ev_p_virt (M := (ev_Mof 174)) (pc := 2) (x := 156) (mi := 200) (na := 1) (by decide +kernel) (by decide +kernel) (by decide +kernel) (by decide +kernel) rfl rfl (ev_recv_of ev_fH0) (ev_k9 x1 hl_x1)) ?_
  refine ev_go0 (ev_w_astore_n (M := (ev_Mof 174)) (pc := 5) (k := 3) (lv' := [(3, .null), (0, .ref 0), (1, .int x1), (2, .int x2)]) (by decide +kernel) (by decide +kernel) (Or.inr (Or.inl rfl)) rfl) ?_
  refine ev_go0 (ev_one_pure (M := (ev_Mof 174)) (pc := 6) (i := .aload_n 3) (len := 1) (pc' := 7) (lv' := [(3, .null), (0, .ref 0), (1, .int x1), (2, .int x2)]) (st' := [.null]) (by decide +kernel) rfl) ?_
  refine ev_go0 (ev_w_ifnonnull (M := (ev_Mof 174)) (pc := 7) (o := 13) (t := 10) (by decide +kernel) (Or.inr ⟨rfl, rfl⟩)) ?_
  rfl
theorem ev_k36 (x1 : Int32) (hl_x1 : (0 : Int) ≤ x1.toInt) (x2 : Int32) {n : Nat} : ev_calld 12 371 [.ref 0, .int x1, .int x2, .ref 723] ev_H0 n = some (.inl (some (.int (1))), ev_H0, n, 1, 6) := by
  refine ev_call_int (k := 8) (pcR := 16) (lv' := [(4, .retAddr 1), (0, .ref 0), (1, .int x1), (2, .int x2), (3, .ref 723)]) (v := (1)) (ty := .int) (by decide +kernel) rfl ?_ (by decide +kernel) (by decide +kernel) (by decide +kernel) (by decide)
  show ev_stepn _ 8 (0, [(0, .ref 0), (1, .int x1), (2, .int x2), (3, .ref 723)], [], _, _, 0, 0) = _
  refine ev_go0 (ev_one_pure (M := (ev_Mof 371)) (pc := 0) (i := .aload_n 3) (len := 1) (pc' := 1) (lv' := [(0, .ref 0), (1, .int x1), (2, .int x2), (3, .ref 723)]) (st' := [.ref 723]) (by decide +kernel) rfl) ?_
  refine ev_go0 (ev_w_iconst (M := (ev_Mof 371)) (pc := 1) (k := 0) (v := 0) (by decide +kernel) (by decide +kernel)) ?_
  refine ev_go0 (ev_one_pure (M := (ev_Mof 371)) (pc := 2) (i := .aload_n 0) (len := 1) (pc' := 3) (lv' := [(0, .ref 0), (1, .int x1), (2, .int x2), (3, .ref 723)]) (st' := [.ref 0, .int (0), .ref 723]) (by decide +kernel) rfl) ?_
  refine ev_go0 (ev_one_pure (M := (ev_Mof 371)) (pc := 3) (i := .iload_n 1) (len := 1) (pc' := 4) (lv' := [(0, .ref 0), (1, .int x1), (2, .int x2), (3, .ref 723)]) (st' := [.int x1, .ref 0, .int (0), .ref 723]) (by decide +kernel) rfl) ?_
  refine ev_go0 (ev_one_pure (M := (ev_Mof 371)) (pc := 4) (i := .iload_n 2) (len := 1) (pc' := 5) (lv' := [(0, .ref 0), (1, .int x1), (2, .int x2), (3, .ref 723)]) (st' := [.int x2, .int x1, .ref 0, .int (0), .ref 723]) (by decide +kernel) rfl) ?_
  refine ev_go (ev_p_virtX (M := (ev_Mof 371)) (pc := 5) (x := 39) (t := 13) (mi := 174) (na := 2) (by decide +kernel) (by decide +kernel) (by decide +kernel) (by decide +kernel) rfl rfl (ev_recv_of ev_fH0) (ev_k35 x1 hl_x1 x2) (by decide +kernel)) ?_
  refine ev_go0 (ev_w_astore (M := (ev_Mof 371)) (pc := 13) (k := 4) (lv' := [(4, .retAddr 1), (0, .ref 0), (1, .int x1), (2, .int x2), (3, .ref 723)]) (by decide +kernel) (by decide +kernel) (Or.inr (Or.inr ⟨_, rfl⟩)) rfl) ?_
  refine ev_go0 (ev_w_iconst (M := (ev_Mof 371)) (pc := 15) (k := 1) (v := 1) (by decide +kernel) (by decide +kernel)) ?_
  rfl
theorem ev_k37 (x1 : Int32) (hl_x1 : (0 : Int) ≤ x1.toInt) (x2 : Int32) {n : Nat} : ev_calld 12 279 [.ref 621, .int x1, .int x2] ev_H0 n = some (.inl (some (.int (0))), ((ev_H0.set 621 (.inr (13, (ev_F621.set 0 (.int (0)))))).set 621 (.inr (13, ((ev_F621.set 0 (.int (0))).set 0 (.int (1)))))), n, 0, 0) := by
  refine ev_call_int (k := 10) (pcR := 18) (lv' := [(0, .ref 621), (1, .int x1), (2, .int x2)]) (v := (0)) (ty := .int) (by decide +kernel) rfl ?_ (by decide +kernel) (by decide +kernel) (by decide +kernel) (by decide)
  show ev_stepn _ 10 (0, [(0, .ref 621), (1, .int x1), (2, .int x2)], [], _, _, 0, 0) = _
  refine ev_go0 (ev_one_pure (M := (ev_Mof 279)) (pc := 0) (i := .aload_n 0) (len := 1) (pc' := 1) (lv' := [(0, .ref 621), (1, .int x1), (2, .int x2)]) (st' := [.ref 621]) (by decide +kernel) rfl) ?_
  refine ev_go0 (ev_w_iconst (M := (ev_Mof 279)) (pc := 1) (k := 0) (v := 0) (by decide +kernel) (by decide +kernel)) ?_
  refine ev_go0 (ev_p_putf (M := (ev_Mof 279)) (pc := 2) (x := 321) (ci := 13) (f := 0) (by decide +kernel) (by decide +kernel) ev_fH621 rfl (by decide +kernel)) ?_
  refine ev_go0 (ev_one_pure (M := (ev_Mof 279)) (pc := 5) (i := .aload_n 0) (len := 1) (pc' := 6) (lv' := [(0, .ref 621), (1, .int x1), (2, .int x2)]) (st' := [.ref 621]) (by decide +kernel) rfl) ?_
  refine ev_go0 (ev_one_pure (M := (ev_Mof 279)) (pc := 6) (i := .iload_n 1) (len := 1) (pc' := 7) (lv' := [(0, .ref 621), (1, .int x1), (2, .int x2)]) (st' := [.int x1, .ref 621]) (by decide +kernel) rfl) ?_
  refine ev_go0 (ev_p_virt (M := (ev_Mof 279)) (pc := 7) (x := 531) (mi := 273) (na := 1) (by decide +kernel) (by decide +kernel) (by decide +kernel) (by decide +kernel) rfl rfl (ev_recv_of (ev_hself ev_fH621)) (ev_k13 x1 hl_x1)) ?_
  refine ev_go0 (ev_w_if (M := (ev_Mof 279)) (pc := 10) (q := .ne) (o := 9) (b := false) (t := 13) (by decide +kernel) (by decide +kernel) rfl) ?_
  refine ev_go0 (ev_one_pure (M := (ev_Mof 279)) (pc := 13) (i := .aload_n 0) (len := 1) (pc' := 14) (lv' := [(0, .ref 621), (1, .int x1), (2, .int x2)]) (st' := [.ref 621]) (by decide +kernel) rfl) ?_
  refine ev_go0 (ev_w_iconst (M := (ev_Mof 279)) (pc := 14) (k := 1) (v := 1) (by decide +kernel) (by decide +kernel)) ?_
  refine ev_go0 (ev_p_virt (M := (ev_Mof 279)) (pc := 15) (x := 342) (mi := 221) (na := 1) (by decide +kernel) (by decide +kernel) (by decide +kernel) (by decide +kernel) rfl rfl (ev_recv_of (ev_hself ev_fH621)) ev_k6) ?_
  rfl
theorem ev_p1_8_p (xs : Nat → Int32) (x1 : Int32) (hl_x1 : (0 : Int) ≤ x1.toInt) (x2 : Int32) (e1 : xs 1 = x1) (e2 : xs 2 = x2) : ev_P1 xs 588 := by
  refine ⟨34, [(6, .int (0)), (5, .int (1)), (4, .int (0)), (3, .ref 723), (2, .ref 621), (1, .ref 0), (0, .retAddr 0)], ((ev_H0.set 621 (.inr (13, (ev_F621.set 0 (.int (0)))))).set 621 (.inr (13, ((ev_F621.set 0 (.int (0))).set 0 (.int (1)))))), 724, 725, 3553592, ?_, ⟨rfl, rfl, rfl, rfl⟩, rfl, by decide, by decide⟩
  show ev_stepn _ _ (588, [(4, .int (0)), (3, .ref 723), (2, .ref 621), (1, .ref 0), (0, .retAddr 0)], [], _, _, _, _) = _
  refine ev_go0 (ev_one_pure (M := ev_Mlaw) (pc := 588) (i := .aload_n 1) (len := 1) (pc' := 589) (lv' := [(4, .int (0)), (3, .ref 723), (2, .ref 621), (1, .ref 0), (0, .retAddr 0)]) (st' := [.ref 0]) (by decide +kernel) rfl) ?_
  refine ev_go0 (ev_one_pure (M := ev_Mlaw) (pc := 589) (i := .aload_n 0) (len := 1) (pc' := 590) (lv' := [(4, .int (0)), (3, .ref 723), (2, .ref 621), (1, .ref 0), (0, .retAddr 0)]) (st' := [.retAddr 0, .ref 0]) (by decide +kernel) rfl) ?_
  refine ev_go0 (ev_one_pure (M := ev_Mlaw) (pc := 590) (i := .iload 4) (len := 2) (pc' := 592) (lv' := [(4, .int (0)), (3, .ref 723), (2, .ref 621), (1, .ref 0), (0, .retAddr 0)]) (st' := [.int (0), .retAddr 0, .ref 0]) (by decide +kernel) rfl) ?_
  refine ev_go0 (ev_w_iconst (M := ev_Mlaw) (pc := 592) (k := 1) (v := 1) (by decide +kernel) (by decide +kernel)) ?_
  refine ev_go0 (ev_w_iadd (M := ev_Mlaw) (pc := 593) (v := (1)) (by decide +kernel) (by decide +kernel)) ?_
  refine ev_go0 (ev_w_scr (M := ev_Mlaw) (pc := 594) (v := x1) (j := 1) (by decide +kernel) (by decide +kernel) (by decide +kernel) e1) ?_
  refine ev_go0 (ev_one_pure (M := ev_Mlaw) (pc := 595) (i := .aload_n 0) (len := 1) (pc' := 596) (lv' := [(4, .int (0)), (3, .ref 723), (2, .ref 621), (1, .ref 0), (0, .retAddr 0)]) (st' := [.retAddr 0, .int x1, .ref 0]) (by decide +kernel) rfl) ?_
  refine ev_go0 (ev_one_pure (M := ev_Mlaw) (pc := 596) (i := .iload 4) (len := 2) (pc' := 598) (lv' := [(4, .int (0)), (3, .ref 723), (2, .ref 621), (1, .ref 0), (0, .retAddr 0)]) (st' := [.int (0), .retAddr 0, .int x1, .ref 0]) (by decide +kernel) rfl) ?_
  refine ev_go0 (ev_w_iconst (M := ev_Mlaw) (pc := 598) (k := 2) (v := 2) (by decide +kernel) (by decide +kernel)) ?_
  refine ev_go0 (ev_w_iadd (M := ev_Mlaw) (pc := 599) (v := (2)) (by decide +kernel) (by decide +kernel)) ?_
  refine ev_go0 (ev_w_scr (M := ev_Mlaw) (pc := 600) (v := x2) (j := 2) (by decide +kernel) (by decide +kernel) (by decide +kernel) e2) ?_
  refine ev_go0 (ev_one_pure (M := ev_Mlaw) (pc := 601) (i := .aload_n 3) (len := 1) (pc' := 602) (lv' := [(4, .int (0)), (3, .ref 723), (2, .ref 621), (1, .ref 0), (0, .retAddr 0)]) (st' := [.ref 723, .int x2, .int x1, .ref 0]) (by decide +kernel) rfl) ?_
  refine ev_go (ev_w_stat (M := ev_Mlaw) (pc := 602) (y := 158) (kind := 8) (Or.inr (Or.inr rfl)) (mi := 371) (na := 4) (by decide +kernel) (by decide +kernel) (by decide +kernel) (by decide +kernel) rfl rfl (ev_k36 x1 hl_x1 x2)) ?_
  refine ev_go0 (ev_w_istore (M := ev_Mlaw) (pc := 605) (k := 5) (lv' := [(5, .int (1)), (4, .int (0)), (3, .ref 723), (2, .ref 621), (1, .ref 0), (0, .retAddr 0)]) (by decide +kernel) (by decide +kernel) rfl) ?_
  refine ev_go0 (ev_one_pure (M := ev_Mlaw) (pc := 607) (i := .aload_n 2) (len := 1) (pc' := 608) (lv' := [(5, .int (1)), (4, .int (0)), (3, .ref 723), (2, .ref 621), (1, .ref 0), (0, .retAddr 0)]) (st' := [.ref 621]) (by decide +kernel) rfl) ?_
  refine ev_go0 (ev_one_pure (M := ev_Mlaw) (pc := 608) (i := .aload_n 0) (len := 1) (pc' := 609) (lv' := [(5, .int (1)), (4, .int (0)), (3, .ref 723), (2, .ref 621), (1, .ref 0), (0, .retAddr 0)]) (st' := [.retAddr 0, .ref 621]) (by decide +kernel) rfl) ?_
  refine ev_go0 (ev_one_pure (M := ev_Mlaw) (pc := 609) (i := .iload 4) (len := 2) (pc' := 611) (lv' := [(5, .int (1)), (4, .int (0)), (3, .ref 723), (2, .ref 621), (1, .ref 0), (0, .retAddr 0)]) (st' := [.int (0), .retAddr 0, .ref 621]) (by decide +kernel) rfl) ?_
  refine ev_go0 (ev_w_iconst (M := ev_Mlaw) (pc := 611) (k := 1) (v := 1) (by decide +kernel) (by decide +kernel)) ?_
  refine ev_go0 (ev_w_iadd (M := ev_Mlaw) (pc := 612) (v := (1)) (by decide +kernel) (by decide +kernel)) ?_
  refine ev_go0 (ev_w_scr (M := ev_Mlaw) (pc := 613) (v := x1) (j := 1) (by decide +kernel) (by decide +kernel) (by decide +kernel) e1) ?_
  refine ev_go0 (ev_one_pure (M := ev_Mlaw) (pc := 614) (i := .aload_n 0) (len := 1) (pc' := 615) (lv' := [(5, .int (1)), (4, .int (0)), (3, .ref 723), (2, .ref 621), (1, .ref 0), (0, .retAddr 0)]) (st' := [.retAddr 0, .int x1, .ref 621]) (by decide +kernel) rfl) ?_
  refine ev_go0 (ev_one_pure (M := ev_Mlaw) (pc := 615) (i := .iload 4) (len := 2) (pc' := 617) (lv' := [(5, .int (1)), (4, .int (0)), (3, .ref 723), (2, .ref 621), (1, .ref 0), (0, .retAddr 0)]) (st' := [.int (0), .retAddr 0, .int x1, .ref 621]) (by decide +kernel) rfl) ?_
  refine ev_go0 (ev_w_iconst (M := ev_Mlaw) (pc := 617) (k := 2) (v := 2) (by decide +kernel) (by decide +kernel)) ?_
  refine ev_go0 (ev_w_iadd (M := ev_Mlaw) (pc := 618) (v := (2)) (by decide +kernel) (by decide +kernel)) ?_
  refine ev_go0 (ev_w_scr (M := ev_Mlaw) (pc := 619) (v := x2) (j := 2) (by decide +kernel) (by decide +kernel) (by decide +kernel) e2) ?_
  refine ev_go0 (ev_p_virt (M := ev_Mlaw) (pc := 620) (x := 160) (mi := 279) (na := 2) (by decide +kernel) (by decide +kernel) (by decide +kernel) (by decide +kernel) rfl rfl (ev_recv_of ev_fH621) (ev_k37 x1 hl_x1 x2)) ?_
  refine ev_go0 (ev_w_istore (M := ev_Mlaw) (pc := 623) (k := 6) (lv' := [(6, .int (0)), (5, .int (1)), (4, .int (0)), (3, .ref 723), (2, .ref 621), (1, .ref 0), (0, .retAddr 0)]) (by decide +kernel) (by decide +kernel) rfl) ?_
  refine ev_go0 (ev_one_pure (M := ev_Mlaw) (pc := 625) (i := .aload_n 2) (len := 1) (pc' := 626) (lv' := [(6, .int (0)), (5, .int (1)), (4, .int (0)), (3, .ref 723), (2, .ref 621), (1, .ref 0), (0, .retAddr 0)]) (st' := [.ref 621]) (by decide +kernel) rfl) ?_
  refine ev_go0 (ev_p_virt (M := ev_Mlaw) (pc := 626) (x := 131) (mi := 220) (na := 0) (by decide +kernel) (by decide +kernel) (by decide +kernel) (by decide +kernel) rfl rfl (ev_recv_of (ev_hself (ev_hself ev_fH621))) ev_k8) ?_
  refine ev_go0 (ev_one_pure (M := ev_Mlaw) (pc := 629) (i := .iload 5) (len := 2) (pc' := 631) (lv' := [(6, .int (0)), (5, .int (1)), (4, .int (0)), (3, .ref 723), (2, .ref 621), (1, .ref 0), (0, .retAddr 0)]) (st' := [.int (1), .int (1)]) (by decide +kernel) rfl) ?_
  refine ev_go0 (ev_w_icmp (M := ev_Mlaw) (pc := 631) (q := .eq) (o := 5) (b := true) (t := 636) (by decide +kernel) (by decide +kernel) rfl) ?_
  refine ev_go0 (ev_one_pure (M := ev_Mlaw) (pc := 636) (i := .iload 5) (len := 2) (pc' := 638) (lv' := [(6, .int (0)), (5, .int (1)), (4, .int (0)), (3, .ref 723), (2, .ref 621), (1, .ref 0), (0, .retAddr 0)]) (st' := [.int (1)]) (by decide +kernel) rfl) ?_
  refine ev_go0 (ev_w_if (M := ev_Mlaw) (pc := 638) (q := .ne) (o := 15) (b := true) (t := 653) (by decide +kernel) (by decide +kernel) rfl) ?_
  refine ev_go0 (ev_one_pure (M := ev_Mlaw) (pc := 653) (i := .goto 1619) (len := 3) (pc' := 2272) (lv' := [(6, .int (0)), (5, .int (1)), (4, .int (0)), (3, .ref 723), (2, .ref 621), (1, .ref 0), (0, .retAddr 0)]) (st' := []) (by decide +kernel) rfl) ?_
  rfl
theorem ev_p1arm8 (xs : Nat → Int32) : ev_P1 xs 588 := by
  rcases ev_split2 (xs 1) with h1 | h1
  · skip
    exact ev_p1_8_n xs (xs 1) h1 (xs 2) rfl rfl
  · skip
    exact ev_p1_8_p xs (xs 1) h1 (xs 2) rfl rfl
theorem ev_k38 (x1 : Int32) (hu_x1 : x1.toInt ≤ (-1 : Int)) {n : Nat} : ev_calld 11 175 [.ref 0, .int x1] ev_H0 n = some (.inr "java/lang/IndexOutOfBoundsException", ev_H0, n, 1, 6) := by
  refine ev_call_thrown (k := 6) (pcR := 10) (x := 160) (lv' := [(2, .null), (0, .ref 0), (1, .int x1)]) (by decide +kernel) rfl ?_ (by decide +kernel) (by decide +kernel) (by decide +kernel) (by decide) (by decide)
  show ev_stepn _ 6 (0, [(0, .ref 0), (1, .int x1)], [], _, _, 0, 0) = _
  refine ev_go0 (ev_one_pure (M := (ev_Mof 175)) (pc := 0) (i := .aload_n 0) (len := 1) (pc' := 1) (lv' := [(0, .ref 0), (1, .int x1)]) (st' := [.ref 0]) (by decide +kernel) rfl) ?_
  refine ev_go0 (ev_one_pure (M := (ev_Mof 175)) (pc := 1) (i := .iload_n 1) (len := 1) (pc' := 2) (lv' := [(0, .ref 0), (1, .int x1)]) (st' := [.int x1, .ref 0]) (by decide +kernel) rfl) ?_
  refine ev_go0 (ev_p_virt (M := (ev_Mof 175)) (pc := 2) (x := 156) (mi := 200) (na := 1) (by decide +kernel) (by decide +kernel) (by decide +kernel) (by decide +kernel) rfl rfl (ev_recv_of ev_fH0) (ev_k1 x1 hu_x1)) ?_
  refine ev_go0 (ev_w_astore_n (M := (ev_Mof 175)) (pc := 5) (k := 2) (lv' := [(2, .null), (0, .ref 0), (1, .int x1)]) (by decide +kernel) (by decide +kernel) (Or.inr (Or.inl rfl)) rfl) ?_
  refine ev_go0 (ev_one_pure (M := (ev_Mof 175)) (pc := 6) (i := .aload_n 2) (len := 1) (pc' := 7) (lv' := [(2, .null), (0, .ref 0), (1, .int x1)]) (st' := [.null]) (by decide +kernel) rfl) ?_
  refine ev_go0 (ev_w_ifnonnull (M := (ev_Mof 175)) (pc := 7) (o := 13) (t := 10) (by decide +kernel) (Or.inr ⟨rfl, rfl⟩)) ?_
  rfl
theorem ev_k39 (x1 : Int32) (hu_x1 : x1.toInt ≤ (-1 : Int)) {n : Nat} : ev_calld 12 372 [.ref 0, .int x1, .ref 723] ev_H0 n = some (.inl (some (.int (1))), ev_H0, n, 1, 6) := by
  refine ev_call_int (k := 7) (pcR := 14) (lv' := [(3, .retAddr 1), (0, .ref 0), (1, .int x1), (2, .ref 723)]) (v := (1)) (ty := .int) (by decide +kernel) rfl ?_ (by decide +kernel) (by decide +kernel) (by decide +kernel) (by decide)
  show ev_stepn _ 7 (0, [(0, .ref 0), (1, .int x1), (2, .ref 723)], [], _, _, 0, 0) = _
  refine ev_go0 (ev_one_pure (M := (ev_Mof 372)) (pc := 0) (i := .aload_n 2) (len := 1) (pc' := 1) (lv' := [(0, .ref 0), (1, .int x1), (2, .ref 723)]) (st' := [.ref 723]) (by decide +kernel) rfl) ?_
  refine ev_go0 (ev_w_iconst (M := (ev_Mof 372)) (pc := 1) (k := 0) (v := 0) (by decide +kernel) (by decide +kernel)) ?_
  refine ev_go0 (ev_one_pure (M := (ev_Mof 372)) (pc := 2) (i := .aload_n 0) (len := 1) (pc' := 3) (lv' := [(0, .ref 0), (1, .int x1), (2, .ref 723)]) (st' := [.ref 0, .int (0), .ref 723]) (by decide +kernel) rfl) ?_
  refine ev_go0 (ev_one_pure (M := (ev_Mof 372)) (pc := 3) (i := .iload_n 1) (len := 1) (pc' := 4) (lv' := [(0, .ref 0), (1, .int x1), (2, .ref 723)]) (st' := [.int x1, .ref 0, .int (0), .ref 723]) (by decide +kernel) rfl) ?_
  refine ev_go (ev_p_virtX (M := (ev_Mof 372)) (pc := 4) (x := 43) (t := 12) (mi := 175) (na := 1) (by decide +kernel) (by decide +kernel) (by decide +kernel) (by decide +kernel) rfl rfl (ev_recv_of ev_fH0) (ev_k38 x1 hu_x1) (by decide +kernel)) ?_
  refine ev_go0 (ev_w_astore_n (M := (ev_Mof 372)) (pc := 12) (k := 3) (lv' := [(3, .retAddr 1), (0, .ref 0), (1, .int x1), (2, .ref 723)]) (by decide +kernel) (by decide +kernel) (Or.inr (Or.inr ⟨_, rfl⟩)) rfl) ?_
  refine ev_go0 (ev_w_iconst (M := (ev_Mof 372)) (pc := 13) (k := 1) (v := 1) (by decide +kernel) (by decide +kernel)) ?_
  rfl
theorem ev_k40 (x1 : Int32) (hu_x1 : x1.toInt ≤ (-1 : Int)) {n : Nat} : ev_calld 12 287 [.ref 621, .int x1] ev_H0 n = some (.inl (some (.int (0))), ((ev_H0.set 621 (.inr (13, (ev_F621.set 0 (.int (0)))))).set 621 (.inr (13, ((ev_F621.set 0 (.int (0))).set 0 (.int (1)))))), n, 0, 0) := by
  refine ev_call_int (k := 10) (pcR := 18) (lv' := [(0, .ref 621), (1, .int x1)]) (v := (0)) (ty := .int) (by decide +kernel) rfl ?_ (by decide +kernel) (by decide +kernel) (by decide +kernel) (by decide)
  show ev_stepn _ 10 (0, [(0, .ref 621), (1, .int x1)], [], _, _, 0, 0) = _
  refine ev_go0 (ev_one_pure (M := (ev_Mof 287)) (pc := 0) (i := .aload_n 0) (len := 1) (pc' := 1) (lv' := [(0, .ref 621), (1, .int x1)]) (st' := [.ref 621]) (by decide +kernel) rfl) ?_
  refine ev_go0 (ev_w_iconst (M := (ev_Mof 287)) (pc := 1) (k := 0) (v := 0) (by decide +kernel) (by decide +kernel)) ?_
  refine ev_go0 (ev_p_putf (M := (ev_Mof 287)) (pc := 2) (x := 321) (ci := 13) (f := 0) (by decide +kernel) (by decide +kernel) ev_fH621 rfl (by decide +kernel)) ?_
  refine ev_go0 (ev_one_pure (M := (ev_Mof 287)) (pc := 5) (i := .aload_n 0) (len := 1) (pc' := 6) (lv' := [(0, .ref 621), (1, .int x1)]) (st' := [.ref 621]) (by decide +kernel) rfl) ?_
  refine ev_go0 (ev_one_pure (M := (ev_Mof 287)) (pc := 6) (i := .iload_n 1) (len := 1) (pc' := 7) (lv' := [(0, .ref 621), (1, .int x1)]) (st' := [.int x1, .ref 621]) (by decide +kernel) rfl) ?_
  refine ev_go0 (ev_p_virt (M := (ev_Mof 287)) (pc := 7) (x := 531) (mi := 273) (na := 1) (by decide +kernel) (by decide +kernel) (by decide +kernel) (by decide +kernel) rfl rfl (ev_recv_of (ev_hself ev_fH621)) (ev_k5 x1 hu_x1)) ?_
  refine ev_go0 (ev_w_if (M := (ev_Mof 287)) (pc := 10) (q := .ne) (o := 9) (b := false) (t := 13) (by decide +kernel) (by decide +kernel) rfl) ?_
  refine ev_go0 (ev_one_pure (M := (ev_Mof 287)) (pc := 13) (i := .aload_n 0) (len := 1) (pc' := 14) (lv' := [(0, .ref 621), (1, .int x1)]) (st' := [.ref 621]) (by decide +kernel) rfl) ?_
  refine ev_go0 (ev_w_iconst (M := (ev_Mof 287)) (pc := 14) (k := 1) (v := 1) (by decide +kernel) (by decide +kernel)) ?_
  refine ev_go0 (ev_p_virt (M := (ev_Mof 287)) (pc := 15) (x := 342) (mi := 221) (na := 1) (by decide +kernel) (by decide +kernel) (by decide +kernel) (by decide +kernel) rfl rfl (ev_recv_of (ev_hself ev_fH621)) ev_k6) ?_
  rfl
theorem ev_p1_9_n (xs : Nat → Int32) (x1 : Int32) (hu_x1 : x1.toInt ≤ (-1 : Int)) (e1 : xs 1 = x1) : ev_P1 xs 656 := by
  refine ⟨24, [(6, .int (0)), (5, .int (1)), (4, .int (0)), (3, .ref 723), (2, .ref 621), (1, .ref 0), (0, .retAddr 0)], ((ev_H0.set 621 (.inr (13, (ev_F621.set 0 (.int (0)))))).set 621 (.inr (13, ((ev_F621.set 0 (.int (0))).set 0 (.int (1)))))), 724, 725, 3553592, ?_, ⟨rfl, rfl, rfl, rfl⟩, rfl, by decide, by decide⟩
  show ev_stepn _ _ (656, [(4, .int (0)), (3, .ref 723), (2, .ref 621), (1, .ref 0), (0, .retAddr 0)], [], _, _, _, _) = _
  refine ev_go0 (ev_one_pure (M := ev_Mlaw) (pc := 656) (i := .aload_n 1) (len := 1) (pc' := 657) (lv' := [(4, .int (0)), (3, .ref 723), (2, .ref 621), (1, .ref 0), (0, .retAddr 0)]) (st' := [.ref 0]) (by decide +kernel) rfl) ?_
  refine ev_go0 (ev_one_pure (M := ev_Mlaw) (pc := 657) (i := .aload_n 0) (len := 1) (pc' := 658) (lv' := [(4, .int (0)), (3, .ref 723), (2, .ref 621), (1, .ref 0), (0, .retAddr 0)]) (st' := [.retAddr 0, .ref 0]) (by decide +kernel) rfl) ?_
  refine ev_go0 (ev_one_pure (M := ev_Mlaw) (pc := 658) (i := .iload 4) (len := 2) (pc' := 660) (lv' := [(4, .int (0)), (3, .ref 723), (2, .ref 621), (1, .ref 0), (0, .retAddr 0)]) (st' := [.int (0), .retAddr 0, .ref 0]) (by decide +kernel) rfl) ?_
  refine ev_go0 (ev_w_iconst (M := ev_Mlaw) (pc := 660) (k := 1) (v := 1) (by decide +kernel) (by decide +kernel)) ?_
  refine ev_go0 (ev_w_iadd (M := ev_Mlaw) (pc := 661) (v := (1)) (by decide +kernel) (by decide +kernel)) ?_
  refine ev_go0 (ev_w_scr (M := ev_Mlaw) (pc := 662) (v := x1) (j := 1) (by decide +kernel) (by decide +kernel) (by decide +kernel) e1) ?_
  refine ev_go0 (ev_one_pure (M := ev_Mlaw) (pc := 663) (i := .aload_n 3) (len := 1) (pc' := 664) (lv' := [(4, .int (0)), (3, .ref 723), (2, .ref 621), (1, .ref 0), (0, .retAddr 0)]) (st' := [.ref 723, .int x1, .ref 0]) (by decide +kernel) rfl) ?_
  refine ev_go (ev_w_stat (M := ev_Mlaw) (pc := 664) (y := 161) (kind := 8) (Or.inr (Or.inr rfl)) (mi := 372) (na := 3) (by decide +kernel) (by decide +kernel) (by decide +kernel) (by decide +kernel) rfl rfl (ev_k39 x1 hu_x1)) ?_
  refine ev_go0 (ev_w_istore (M := ev_Mlaw) (pc := 667) (k := 5) (lv' := [(5, .int (1)), (4, .int (0)), (3, .ref 723), (2, .ref 621), (1, .ref 0), (0, .retAddr 0)]) (by decide +kernel) (by decide +kernel) rfl) ?_
  refine ev_go0 (ev_one_pure (M := ev_Mlaw) (pc := 669) (i := .aload_n 2) (len := 1) (pc' := 670) (lv' := [(5, .int (1)), (4, .int (0)), (3, .ref 723), (2, .ref 621), (1, .ref 0), (0, .retAddr 0)]) (st' := [.ref 621]) (by decide +kernel) rfl) ?_
  refine ev_go0 (ev_one_pure (M := ev_Mlaw) (pc := 670) (i := .aload_n 0) (len := 1) (pc' := 671) (lv' := [(5, .int (1)), (4, .int (0)), (3, .ref 723), (2, .ref 621), (1, .ref 0), (0, .retAddr 0)]) (st' := [.retAddr 0, .ref 621]) (by decide +kernel) rfl) ?_
  refine ev_go0 (ev_one_pure (M := ev_Mlaw) (pc := 671) (i := .iload 4) (len := 2) (pc' := 673) (lv' := [(5, .int (1)), (4, .int (0)), (3, .ref 723), (2, .ref 621), (1, .ref 0), (0, .retAddr 0)]) (st' := [.int (0), .retAddr 0, .ref 621]) (by decide +kernel) rfl) ?_
  refine ev_go0 (ev_w_iconst (M := ev_Mlaw) (pc := 673) (k := 1) (v := 1) (by decide +kernel) (by decide +kernel)) ?_
  refine ev_go0 (ev_w_iadd (M := ev_Mlaw) (pc := 674) (v := (1)) (by decide +kernel) (by decide +kernel)) ?_
  refine ev_go0 (ev_w_scr (M := ev_Mlaw) (pc := 675) (v := x1) (j := 1) (by decide +kernel) (by decide +kernel) (by decide +kernel) e1) ?_
  refine ev_go0 (ev_p_virt (M := ev_Mlaw) (pc := 676) (x := 163) (mi := 287) (na := 1) (by decide +kernel) (by decide +kernel) (by decide +kernel) (by decide +kernel) rfl rfl (ev_recv_of ev_fH621) (ev_k40 x1 hu_x1)) ?_
  refine ev_go0 (ev_w_istore (M := ev_Mlaw) (pc := 679) (k := 6) (lv' := [(6, .int (0)), (5, .int (1)), (4, .int (0)), (3, .ref 723), (2, .ref 621), (1, .ref 0), (0, .retAddr 0)]) (by decide +kernel) (by decide +kernel) rfl) ?_
  refine ev_go0 (ev_one_pure (M := ev_Mlaw) (pc := 681) (i := .aload_n 2) (len := 1) (pc' := 682) (lv' := [(6, .int (0)), (5, .int (1)), (4, .int (0)), (3, .ref 723), (2, .ref 621), (1, .ref 0), (0, .retAddr 0)]) (st' := [.ref 621]) (by decide +kernel) rfl) ?_
  refine ev_go0 (ev_p_virt (M := ev_Mlaw) (pc := 682) (x := 131) (mi := 220) (na := 0) (by decide +kernel) (by decide +kernel) (by decide +kernel) (by decide +kernel) rfl rfl (ev_recv_of (ev_hself (ev_hself ev_fH621))) ev_k8) ?_
  refine ev_go0 (ev_one_pure (M := ev_Mlaw) (pc := 685) (i := .iload 5) (len := 2) (pc' := 687) (lv' := [(6, .int (0)), (5, .int (1)), (4, .int (0)), (3, .ref 723), (2, .ref 621), (1, .ref 0), (0, .retAddr 0)]) (st' := [.int (1), .int (1)]) (by decide +kernel) rfl) ?_
  refine ev_go0 (ev_w_icmp (M := ev_Mlaw) (pc := 687) (q := .eq) (o := 5) (b := true) (t := 692) (by decide +kernel) (by decide +kernel) rfl) ?_
  refine ev_go0 (ev_one_pure (M := ev_Mlaw) (pc := 692) (i := .iload 5) (len := 2) (pc' := 694) (lv' := [(6, .int (0)), (5, .int (1)), (4, .int (0)), (3, .ref 723), (2, .ref 621), (1, .ref 0), (0, .retAddr 0)]) (st' := [.int (1)]) (by decide +kernel) rfl) ?_
  refine ev_go0 (ev_w_if (M := ev_Mlaw) (pc := 694) (q := .ne) (o := 15) (b := true) (t := 709) (by decide +kernel) (by decide +kernel) rfl) ?_
  refine ev_go0 (ev_one_pure (M := ev_Mlaw) (pc := 709) (i := .goto 1563) (len := 3) (pc' := 2272) (lv' := [(6, .int (0)), (5, .int (1)), (4, .int (0)), (3, .ref 723), (2, .ref 621), (1, .ref 0), (0, .retAddr 0)]) (st' := []) (by decide +kernel) rfl) ?_
  rfl
theorem ev_k41 (x1 : Int32) (hl_x1 : (0 : Int) ≤ x1.toInt) {n : Nat} : ev_calld 11 175 [.ref 0, .int x1] ev_H0 n = some (.inr "java/lang/IndexOutOfBoundsException", ev_H0, n, 1, 6) := by
  refine ev_call_thrown (k := 6) (pcR := 10) (x := 160) (lv' := [(2, .null), (0, .ref 0), (1, .int x1)]) (by decide +kernel) rfl ?_ (by decide +kernel) (by decide +kernel) (by decide +kernel) (by decide) (by decide)
  show ev_stepn _ 6 (0, [(0, .ref 0), (1, .int x1)], [], _, _, 0, 0) = _
  refine ev_go0 (ev_one_pure (M := (ev_Mof 175)) (pc := 0) (i := .aload_n 0) (len := 1) (pc' := 1) (lv' := [(0, .ref 0), (1, .int x1)]) (st' := [.ref 0]) (by decide +kernel) rfl) ?_
  refine ev_go0 (ev_one_pure (M := (ev_Mof 175)) (pc := 1) (i := .iload_n 1) (len := 1) (pc' := 2) (lv' := [(0, .ref 0), (1, .int x1)]) (st' := [.int x1, .ref 0]) (by decide +kernel) rfl) ?_
  refine ev_go0 (ev_p_virt (M := (ev_Mof 175)) (pc := 2) (x := 156) (mi := 200) (na := 1) (by decide +kernel) (by decide +kernel) (by decide +kernel) (by decide +kernel) rfl rfl (ev_recv_of ev_fH0) (ev_k9 x1 hl_x1)) ?_
  refine ev_go0 (ev_w_astore_n (M := (ev_Mof 175)) (pc := 5) (k := 2) (lv' := [(2, .null), (0, .ref 0), (1, .int x1)]) (by decide +kernel) (by decide +kernel) (Or.inr (Or.inl rfl)) rfl) ?_
  refine ev_go0 (ev_one_pure (M := (ev_Mof 175)) (pc := 6) (i := .aload_n 2) (len := 1) (pc' := 7) (lv' := [(2, .null), (0, .ref 0), (1, .int x1)]) (st' := [.null]) (by decide +kernel) rfl) ?_
  refine ev_go0 (ev_w_ifnonnull (M := (ev_Mof 175)) (pc := 7) (o := 13) (t := 10) (by decide +kernel) (Or.inr ⟨rfl, rfl⟩)) ?_
  rfl
theorem ev_k42 (x1 : Int32) (hl_x1 : (0 : Int) ≤ x1.toInt) {n : Nat} : ev_calld 12 372 [.ref 0, .int x1, .ref 723] ev_H0 n = some (.inl (some (.int (1))), ev_H0, n, 1, 6) := by
  refine ev_call_int (k := 7) (pcR := 14) (lv' := [(3, .retAddr 1), (0, .ref 0), (1, .int x1), (2, .ref 723)]) (v := (1)) (ty := .int) (by decide +kernel) rfl ?_ (by decide +kernel) (by decide +kernel) (by decide +kernel) (by decide)
  show ev_stepn _ 7 (0, [(0, .ref 0), (1, .int x1), (2, .ref 723)], [], _, _, 0, 0) = _
  refine ev_go0 (ev_one_pure (M := (ev_Mof 372)) (pc := 0) (i := .aload_n 2) (len := 1) (pc' := 1) (lv' := [(0, .ref 0), (1, .int x1), (2, .ref 723)]) (st' := [.ref 723]) (by decide +kernel) rfl) ?_
  refine ev_go0 (ev_w_iconst (M := (ev_Mof 372)) (pc := 1) (k := 0) (v := 0) (by decide +kernel) (by decide +kernel)) ?_
  refine ev_go0 (ev_one_pure (M := (ev_Mof 372)) (pc := 2) (i := .aload_n 0) (len := 1) (pc' := 3) (lv' := [(0, .ref 0), (1, .int x1), (2, .ref 723)]) (st' := [.ref 0, .int (0), .ref 723]) (by decide +kernel) rfl) ?_
  refine ev_go0 (ev_one_pure (M := (ev_Mof 372)) (pc := 3) (i := .iload_n 1) (len := 1) (pc' := 4) (lv' := [(0, .ref 0), (1, .int x1), (2, .ref 723)]) (st' := [.int x1, .ref 0, .int (0), .ref 723]) (by decide +kernel) rfl) ?_
  refine ev_go (ev_p_virtX (M := (ev_Mof 372)) (pc := 4) (x := 43) (t := 12) (mi := 175) (na := 1) (by decide +kernel) (by decide +kernel) (by decide +kernel) (by decide +kernel) rfl rfl (ev_recv_of ev_fH0) (ev_k41 x1 hl_x1) (by decide +kernel)) ?_
  refine ev_go0 (ev_w_astore_n (M := (ev_Mof 372)) (pc := 12) (k := 3) (lv' := [(3, .retAddr 1), (0, .ref 0), (1, .int x1), (2, .ref 723)]) (by decide +kernel) (by decide +kernel) (Or.inr (Or.inr ⟨_, rfl⟩)) rfl) ?_
  refine ev_go0 (ev_w_iconst (M := (ev_Mof 372)) (pc := 13) (k := 1) (v := 1) (by decide +kernel) (by decide +kernel)) ?_
  rfl
theorem ev_k43 (x1 : Int32) (hl_x1 : (0 : Int) ≤ x1.toInt) {n : Nat} : ev_calld 12 287 [.ref 621, .int x1] ev_H0 n = some (.inl (some (.int (0))), ((ev_H0.set 621 (.inr (13, (ev_F621.set 0 (.int (0)))))).set 621 (.inr (13, ((ev_F621.set 0 (.int (0))).set 0 (.int (1)))))), n, 0, 0) := by
  refine ev_call_int (k := 10) (pcR := 18) (lv' := [(0, .ref 621), (1, .int x1)]) (v := (0)) (ty := .int) (by decide +kernel) rfl ?_ (by decide +kernel) (by decide +kernel) (by decide +kernel) (by decide)
  show ev_stepn _ 10 (0, [(0, .ref 621), (1, .int x1)], [], _, _, 0, 0) = _
  refine ev_go0 (ev_one_pure (M := (ev_Mof 287)) (pc := 0) (i := .aload_n 0) (len := 1) (pc' := 1) (lv' := [(0, .ref 621), (1, .int x1)]) (st' := [.ref 621]) (by decide +kernel) rfl) ?_
  refine ev_go0 (ev_w_iconst (M := (ev_Mof 287)) (pc := 1) (k := 0) (v := 0) (by decide +kernel) (by decide +kernel)) ?_
  refine ev_go0 (ev_p_putf (M := (ev_Mof 287)) (pc := 2) (x := 321) (ci := 13) (f := 0) (by decide +kernel) (by decide +kernel) ev_fH621 rfl (by decide +kernel)) ?_
  refine ev_go0 (ev_one_pure (M := (ev_Mof 287)) (pc := 5) (i := .aload_n 0) (len := 1) (pc' := 6) (lv' := [(0, .ref 621), (1, .int x1)]) (st' := [.ref 621]) (by decide +kernel) rfl) ?_
  refine ev_go0 (ev_one_pure (M := (ev_Mof 287)) (pc := 6) (i := .iload_n 1) (len := 1) (pc' := 7) (lv' := [(0, .ref 621), (1, .int x1)]) (st' := [.int x1, .ref 621]) (by decide +kernel) rfl) ?_
  refine ev_go0 (ev_p_virt (M := (ev_Mof 287)) (pc := 7) (x := 531) (mi := 273) (na := 1) (by decide +kernel) (by decide +kernel) (by decide +kernel) (by decide +kernel) rfl rfl (ev_recv_of (ev_hself ev_fH621)) (ev_k13 x1 hl_x1)) ?_
  refine ev_go0 (ev_w_if (M := (ev_Mof 287)) (pc := 10) (q := .ne) (o := 9) (b := false) (t := 13) (by decide +kernel) (by decide +kernel) rfl) ?_
  refine ev_go0 (ev_one_pure (M := (ev_Mof 287)) (pc := 13) (i := .aload_n 0) (len := 1) (pc' := 14) (lv' := [(0, .ref 621), (1, .int x1)]) (st' := [.ref 621]) (by decide +kernel) rfl) ?_
  refine ev_go0 (ev_w_iconst (M := (ev_Mof 287)) (pc := 14) (k := 1) (v := 1) (by decide +kernel) (by decide +kernel)) ?_
  refine ev_go0 (ev_p_virt (M := (ev_Mof 287)) (pc := 15) (x := 342) (mi := 221) (na := 1) (by decide +kernel) (by decide +kernel) (by decide +kernel) (by decide +kernel) rfl rfl (ev_recv_of (ev_hself ev_fH621)) ev_k6) ?_
  rfl
theorem ev_p1_9_p (xs : Nat → Int32) (x1 : Int32) (hl_x1 : (0 : Int) ≤ x1.toInt) (e1 : xs 1 = x1) : ev_P1 xs 656 := by
  refine ⟨24, [(6, .int (0)), (5, .int (1)), (4, .int (0)), (3, .ref 723), (2, .ref 621), (1, .ref 0), (0, .retAddr 0)], ((ev_H0.set 621 (.inr (13, (ev_F621.set 0 (.int (0)))))).set 621 (.inr (13, ((ev_F621.set 0 (.int (0))).set 0 (.int (1)))))), 724, 725, 3553592, ?_, ⟨rfl, rfl, rfl, rfl⟩, rfl, by decide, by decide⟩
  show ev_stepn _ _ (656, [(4, .int (0)), (3, .ref 723), (2, .ref 621), (1, .ref 0), (0, .retAddr 0)], [], _, _, _, _) = _
  refine ev_go0 (ev_one_pure (M := ev_Mlaw) (pc := 656) (i := .aload_n 1) (len := 1) (pc' := 657) (lv' := [(4, .int (0)), (3, .ref 723), (2, .ref 621), (1, .ref 0), (0, .retAddr 0)]) (st' := [.ref 0]) (by decide +kernel) rfl) ?_
  refine ev_go0 (ev_one_pure (M := ev_Mlaw) (pc := 657) (i := .aload_n 0) (len := 1) (pc' := 658) (lv' := [(4, .int (0)), (3, .ref 723), (2, .ref 621), (1, .ref 0), (0, .retAddr 0)]) (st' := [.retAddr 0, .ref 0]) (by decide +kernel) rfl) ?_
  refine ev_go0 (ev_one_pure (M := ev_Mlaw) (pc := 658) (i := .iload 4) (len := 2) (pc' := 660) (lv' := [(4, .int (0)), (3, .ref 723), (2, .ref 621), (1, .ref 0), (0, .retAddr 0)]) (st' := [.int (0), .retAddr 0, .ref 0]) (by decide +kernel) rfl) ?_
  refine ev_go0 (ev_w_iconst (M := ev_Mlaw) (pc := 660) (k := 1) (v := 1) (by decide +kernel) (by decide +kernel)) ?_
  refine ev_go0 (ev_w_iadd (M := ev_Mlaw) (pc := 661) (v := (1)) (by decide +kernel) (by decide +kernel)) ?_
  refine ev_go0 (ev_w_scr (M := ev_Mlaw) (pc := 662) (v := x1) (j := 1) (by decide +kernel) (by decide +kernel) (by decide +kernel) e1) ?_
  refine ev_go0 (ev_one_pure (M := ev_Mlaw) (pc := 663) (i := .aload_n 3) (len := 1) (pc' := 664) (lv' := [(4, .int (0)), (3, .ref 723), (2, .ref 621), (1, .ref 0), (0, .retAddr 0)]) (st' := [.ref 723, .int x1, .ref 0]) (by decide +kernel) rfl) ?_
  refine ev_go (ev_w_stat (M := ev_Mlaw) (pc := 664) (y := 161) (kind := 8) (Or.inr (Or.inr rfl)) (mi := 372) (na := 3) (by decide +kernel) (by decide +kernel) (by decide +kernel) (by decide +kernel) rfl rfl (ev_k42 x1 hl_x1)) ?_
  refine ev_go0 (ev_w_istore (M := ev_Mlaw) (pc := 667) (k := 5) (lv' := [(5, .int (1)), (4, .int (0)), (3, .ref 723), (2, .ref 621), (1, .ref 0), (0, .retAddr 0)]) (by decide +kernel) (by decide +kernel) rfl) ?_
  refine ev_go0 (ev_one_pure (M := ev_Mlaw) (pc := 669) (i := .aload_n 2) (len := 1) (pc' := 670) (lv' := [(5, .int (1)), (4, .int (0)), (3, .ref 723), (2, .ref 621), (1, .ref 0), (0, .retAddr 0)]) (st' := [.ref 621]) (by decide +kernel) rfl) ?_
  refine ev_go0 (ev_one_pure (M := ev_Mlaw) (pc := 670) (i := .aload_n 0) (len := 1) (pc' := 671) (lv' := [(5, .int (1)), (4, .int (0)), (3, .ref 723), (2, .ref 621), (1, .ref 0), (0, .retAddr 0)]) (st' := [.retAddr 0, .ref 621]) (by decide +kernel) rfl) ?_
  refine ev_go0 (ev_one_pure (M := ev_Mlaw) (pc := 671) (i := .iload 4) (len := 2) (pc' := 673) (lv' := [(5, .int (1)), (4, .int (0)), (3, .ref 723), (2, .ref 621), (1, .ref 0), (0, .retAddr 0)]) (st' := [.int (0), .retAddr 0, .ref 621]) (by decide +kernel) rfl) ?_
  refine ev_go0 (ev_w_iconst (M := ev_Mlaw) (pc := 673) (k := 1) (v := 1) (by decide +kernel) (by decide +kernel)) ?_
  refine ev_go0 (ev_w_iadd (M := ev_Mlaw) (pc := 674) (v := (1)) (by decide +kernel) (by decide +kernel)) ?_
  refine ev_go0 (ev_w_scr (M := ev_Mlaw) (pc := 675) (v := x1) (j := 1) (by decide +kernel) (by decide +kernel) (by decide +kernel) e1) ?_
  refine ev_go0 (ev_p_virt (M := ev_Mlaw) (pc := 676) (x := 163) (mi := 287) (na := 1) (by decide +kernel) (by decide +kernel) (by decide +kernel) (by decide +kernel) rfl rfl (ev_recv_of ev_fH621) (ev_k43 x1 hl_x1)) ?_
  refine ev_go0 (ev_w_istore (M := ev_Mlaw) (pc := 679) (k := 6) (lv' := [(6, .int (0)), (5, .int (1)), (4, .int (0)), (3, .ref 723), (2, .ref 621), (1, .ref 0), (0, .retAddr 0)]) (by decide +kernel) (by decide +kernel) rfl) ?_
  refine ev_go0 (ev_one_pure (M := ev_Mlaw) (pc := 681) (i := .aload_n 2) (len := 1) (pc' := 682) (lv' := [(6, .int (0)), (5, .int (1)), (4, .int (0)), (3, .ref 723), (2, .ref 621), (1, .ref 0), (0, .retAddr 0)]) (st' := [.ref 621]) (by decide +kernel) rfl) ?_
  refine ev_go0 (ev_p_virt (M := ev_Mlaw) (pc := 682) (x := 131) (mi := 220) (na := 0) (by decide +kernel) (by decide +kernel) (by decide +kernel) (by decide +kernel) rfl rfl (ev_recv_of (ev_hself (ev_hself ev_fH621))) ev_k8) ?_
  refine ev_go0 (ev_one_pure (M := ev_Mlaw) (pc := 685) (i := .iload 5) (len := 2) (pc' := 687) (lv' := [(6, .int (0)), (5, .int (1)), (4, .int (0)), (3, .ref 723), (2, .ref 621), (1, .ref 0), (0, .retAddr 0)]) (st' := [.int (1), .int (1)]) (by decide +kernel) rfl) ?_
  refine ev_go0 (ev_w_icmp (M := ev_Mlaw) (pc := 687) (q := .eq) (o := 5) (b := true) (t := 692) (by decide +kernel) (by decide +kernel) rfl) ?_
  refine ev_go0 (ev_one_pure (M := ev_Mlaw) (pc := 692) (i := .iload 5) (len := 2) (pc' := 694) (lv' := [(6, .int (0)), (5, .int (1)), (4, .int (0)), (3, .ref 723), (2, .ref 621), (1, .ref 0), (0, .retAddr 0)]) (st' := [.int (1)]) (by decide +kernel) rfl) ?_
  refine ev_go0 (ev_w_if (M := ev_Mlaw) (pc := 694) (q := .ne) (o := 15) (b := true) (t := 709) (by decide +kernel) (by decide +kernel) rfl) ?_
  refine ev_go0 (ev_one_pure (M := ev_Mlaw) (pc := 709) (i := .goto 1563) (len := 3) (pc' := 2272) (lv' := [(6, .int (0)), (5, .int (1)), (4, .int (0)), (3, .ref 723), (2, .ref 621), (1, .ref 0), (0, .retAddr 0)]) (st' := []) (by decide +kernel) rfl) ?_
  rfl
theorem ev_p1arm9 (xs : Nat → Int32) : ev_P1 xs 656 := by
  rcases ev_split2 (xs 1) with h1 | h1
  · skip
    exact ev_p1_9_n xs (xs 1) h1 rfl
  · skip
    exact ev_p1_9_p xs (xs 1) h1 rfl
theorem ev_k44 (x1 : Int32) (hu_x1 : x1.toInt ≤ (-1 : Int)) {n : Nat} : ev_calld 11 188 [.ref 0, .int x1] ev_H0 n = some (.inr "java/lang/IndexOutOfBoundsException", ev_H0, n, 1, 6) := by
  refine ev_call_thrown (k := 2) (pcR := 21) (x := 160) (lv' := [(0, .ref 0), (1, .int x1)]) (by decide +kernel) rfl ?_ (by decide +kernel) (by decide +kernel) (by decide +kernel) (by decide) (by decide)
  show ev_stepn _ 2 (0, [(0, .ref 0), (1, .int x1)], [], _, _, 0, 0) = _
  refine ev_go0 (ev_one_pure (M := (ev_Mof 188)) (pc := 0) (i := .iload_n 1) (len := 1) (pc' := 1) (lv' := [(0, .ref 0), (1, .int x1)]) (st' := [.int x1]) (by decide +kernel) rfl) ?_
  refine ev_go0 (ev_w_if (M := (ev_Mof 188)) (pc := 1) (q := .lt) (o := 20) (b := true) (t := 21) (by decide +kernel) (ev_c_lt1 hu_x1 (by decide +kernel)) rfl) ?_
  rfl
theorem ev_k45 (x1 : Int32) (hu_x1 : x1.toInt ≤ (-1 : Int)) {n : Nat} : ev_calld 12 385 [.ref 0, .int x1, .ref 723] ev_H0 n = some (.inl (some (.int (1))), ev_H0, n, 1, 6) := by
  refine ev_call_int (k := 7) (pcR := 14) (lv' := [(3, .retAddr 1), (0, .ref 0), (1, .int x1), (2, .ref 723)]) (v := (1)) (ty := .int) (by decide +kernel) rfl ?_ (by decide +kernel) (by decide +kernel) (by decide +kernel) (by decide)
  show ev_stepn _ 7 (0, [(0, .ref 0), (1, .int x1), (2, .ref 723)], [], _, _, 0, 0) = _
  refine ev_go0 (ev_one_pure (M := (ev_Mof 385)) (pc := 0) (i := .aload_n 2) (len := 1) (pc' := 1) (lv' := [(0, .ref 0), (1, .int x1), (2, .ref 723)]) (st' := [.ref 723]) (by decide +kernel) rfl) ?_
  refine ev_go0 (ev_w_iconst (M := (ev_Mof 385)) (pc := 1) (k := 0) (v := 0) (by decide +kernel) (by decide +kernel)) ?_
  refine ev_go0 (ev_one_pure (M := (ev_Mof 385)) (pc := 2) (i := .aload_n 0) (len := 1) (pc' := 3) (lv' := [(0, .ref 0), (1, .int x1), (2, .ref 723)]) (st' := [.ref 0, .int (0), .ref 723]) (by decide +kernel) rfl) ?_
  refine ev_go0 (ev_one_pure (M := (ev_Mof 385)) (pc := 3) (i := .iload_n 1) (len := 1) (pc' := 4) (lv' := [(0, .ref 0), (1, .int x1), (2, .ref 723)]) (st' := [.int x1, .ref 0, .int (0), .ref 723]) (by decide +kernel) rfl) ?_
  refine ev_go (ev_p_virtX (M := (ev_Mof 385)) (pc := 4) (x := 87) (t := 12) (mi := 188) (na := 1) (by decide +kernel) (by decide +kernel) (by decide +kernel) (by decide +kernel) rfl rfl (ev_recv_of ev_fH0) (ev_k44 x1 hu_x1) (by decide +kernel)) ?_
  refine ev_go0 (ev_w_astore_n (M := (ev_Mof 385)) (pc := 12) (k := 3) (lv' := [(3, .retAddr 1), (0, .ref 0), (1, .int x1), (2, .ref 723)]) (by decide +kernel) (by decide +kernel) (Or.inr (Or.inr ⟨_, rfl⟩)) rfl) ?_
  refine ev_go0 (ev_w_iconst (M := (ev_Mof 385)) (pc := 13) (k := 1) (v := 1) (by decide +kernel) (by decide +kernel)) ?_
  rfl
theorem ev_k46 (x1 : Int32) (hu_x1 : x1.toInt ≤ (-1 : Int)) {n : Nat} : ev_calld 11 222 [.int x1, .int (0), .int (-1)] (ev_H0.set 621 (.inr (13, (ev_F621.set 0 (.int (0)))))) n = some (.inl (some (.int (0))), (ev_H0.set 621 (.inr (13, (ev_F621.set 0 (.int (0)))))), n, 0, 0) := by
  refine ev_call_int (k := 4) (pcR := 15) (lv' := [(0, .int x1), (1, .int (0)), (2, .int (-1))]) (v := (0)) (ty := .boolean) (by decide +kernel) rfl ?_ (by decide +kernel) (by decide +kernel) (by decide +kernel) (by decide)
  show ev_stepn _ 4 (0, [(0, .int x1), (1, .int (0)), (2, .int (-1))], [], _, _, 0, 0) = _
  refine ev_go0 (ev_one_pure (M := (ev_Mof 222)) (pc := 0) (i := .iload_n 0) (len := 1) (pc' := 1) (lv' := [(0, .int x1), (1, .int (0)), (2, .int (-1))]) (st' := [.int x1]) (by decide +kernel) rfl) ?_
  refine ev_go0 (ev_one_pure (M := (ev_Mof 222)) (pc := 1) (i := .iload_n 1) (len := 1) (pc' := 2) (lv' := [(0, .int x1), (1, .int (0)), (2, .int (-1))]) (st' := [.int (0), .int x1]) (by decide +kernel) rfl) ?_
  refine ev_go0 (ev_w_icmp (M := (ev_Mof 222)) (pc := 2) (q := .lt) (o := 12) (b := true) (t := 14) (by decide +kernel) (ev_c_lt1 hu_x1 (by decide +kernel)) rfl) ?_
  refine ev_go0 (ev_w_iconst (M := (ev_Mof 222)) (pc := 14) (k := 0) (v := 0) (by decide +kernel) (by decide +kernel)) ?_
  rfl
theorem ev_k47 (x1 : Int32) (hu_x1 : x1.toInt ≤ (-1 : Int)) {n : Nat} : ev_calld 12 353 [.ref 621, .int x1] ev_H0 n = some (.inl (some (.int (0))), ((ev_H0.set 621 (.inr (13, (ev_F621.set 0 (.int (0)))))).set 621 (.inr (13, ((ev_F621.set 0 (.int (0))).set 0 (.int (1)))))), n, 0, 0) := by
  refine ev_call_int (k := 14) (pcR := 33) (lv' := [(0, .ref 621), (1, .int x1)]) (v := (0)) (ty := .int) (by decide +kernel) rfl ?_ (by decide +kernel) (by decide +kernel) (by decide +kernel) (by decide)
  show ev_stepn _ 14 (0, [(0, .ref 621), (1, .int x1)], [], _, _, 0, 0) = _
  refine ev_go0 (ev_one_pure (M := (ev_Mof 353)) (pc := 0) (i := .aload_n 0) (len := 1) (pc' := 1) (lv' := [(0, .ref 621), (1, .int x1)]) (st' := [.ref 621]) (by decide +kernel) rfl) ?_
  refine ev_go0 (ev_w_iconst (M := (ev_Mof 353)) (pc := 1) (k := 0) (v := 0) (by decide +kernel) (by decide +kernel)) ?_
  refine ev_go0 (ev_p_putf (M := (ev_Mof 353)) (pc := 2) (x := 321) (ci := 13) (f := 0) (by decide +kernel) (by decide +kernel) ev_fH621 rfl (by decide +kernel)) ?_
  refine ev_go0 (ev_one_pure (M := (ev_Mof 353)) (pc := 5) (i := .iload_n 1) (len := 1) (pc' := 6) (lv' := [(0, .ref 621), (1, .int x1)]) (st' := [.int x1]) (by decide +kernel) rfl) ?_
  refine ev_go0 (ev_w_iconst (M := (ev_Mof 353)) (pc := 6) (k := 0) (v := 0) (by decide +kernel) (by decide +kernel)) ?_
  refine ev_go0 (ev_one_pure (M := (ev_Mof 353)) (pc := 7) (i := .aload_n 0) (len := 1) (pc' := 8) (lv' := [(0, .ref 621), (1, .int x1)]) (st' := [.ref 621, .int (0), .int x1]) (by decide +kernel) rfl) ?_
  refine ev_go0 (ev_p_getf (M := (ev_Mof 353)) (pc := 8) (x := 757) (ci := 13) (f := 121) (fin := 0) (v := .int (0)) (by decide +kernel) (by decide +kernel) (ev_hself ev_fH621) rfl) ?_
  refine ev_go0 (ev_w_iconst (M := (ev_Mof 353)) (pc := 11) (k := 1) (v := 1) (by decide +kernel) (by decide +kernel)) ?_
  refine ev_go0 (ev_w_isub (M := (ev_Mof 353)) (pc := 12) (v := (-1)) (by decide +kernel) (by decide +kernel)) ?_
  refine ev_go0 (ev_w_stat (M := (ev_Mof 353)) (pc := 13) (y := 325) (kind := 2) (Or.inl rfl) (mi := 222) (na := 3) (by decide +kernel) (by decide +kernel) (by decide +kernel) (by decide +kernel) rfl rfl (ev_k46 x1 hu_x1)) ?_
  refine ev_go0 (ev_w_if (M := (ev_Mof 353)) (pc := 16) (q := .eq) (o := 12) (b := true) (t := 28) (by decide +kernel) (by decide +kernel) rfl) ?_
  refine ev_go0 (ev_one_pure (M := (ev_Mof 353)) (pc := 28) (i := .aload_n 0) (len := 1) (pc' := 29) (lv' := [(0, .ref 621), (1, .int x1)]) (st' := [.ref 621]) (by decide +kernel) rfl) ?_
  refine ev_go0 (ev_w_iconst (M := (ev_Mof 353)) (pc := 29) (k := 1) (v := 1) (by decide +kernel) (by decide +kernel)) ?_
  refine ev_go0 (ev_p_virt (M := (ev_Mof 353)) (pc := 30) (x := 342) (mi := 221) (na := 1) (by decide +kernel) (by decide +kernel) (by decide +kernel) (by decide +kernel) rfl rfl (ev_recv_of (ev_hself ev_fH621)) ev_k6) ?_
  rfl
theorem ev_p1_22_n (xs : Nat → Int32) (x1 : Int32) (hu_x1 : x1.toInt ≤ (-1 : Int)) (e1 : xs 1 = x1) : ev_P1 xs 1676 := by
  refine ⟨24, [(6, .int (0)), (5, .int (1)), (4, .int (0)), (3, .ref 723), (2, .ref 621), (1, .ref 0), (0, .retAddr 0)], ((ev_H0.set 621 (.inr (13, (ev_F621.set 0 (.int (0)))))).set 621 (.inr (13, ((ev_F621.set 0 (.int (0))).set 0 (.int (1)))))), 724, 725, 3553592, ?_, ⟨rfl, rfl, rfl, rfl⟩, rfl, by decide, by decide⟩
  show ev_stepn _ _ (1676, [(4, .int (0)), (3, .ref 723), (2, .ref 621), (1, .ref 0), (0, .retAddr 0)], [], _, _, _, _) = _
  refine ev_go0 (ev_one_pure (M := ev_Mlaw) (pc := 1676) (i := .aload_n 1) (len := 1) (pc' := 1677) (lv' := [(4, .int (0)), (3, .ref 723), (2, .ref 621), (1, .ref 0), (0, .retAddr 0)]) (st' := [.ref 0]) (by decide +kernel) rfl) ?_
  refine ev_go0 (ev_one_pure (M := ev_Mlaw) (pc := 1677) (i := .aload_n 0) (len := 1) (pc' := 1678) (lv' := [(4, .int (0)), (3, .ref 723), (2, .ref 621), (1, .ref 0), (0, .retAddr 0)]) (st' := [.retAddr 0, .ref 0]) (by decide +kernel) rfl) ?_
  refine ev_go0 (ev_one_pure (M := ev_Mlaw) (pc := 1678) (i := .iload 4) (len := 2) (pc' := 1680) (lv' := [(4, .int (0)), (3, .ref 723), (2, .ref 621), (1, .ref 0), (0, .retAddr 0)]) (st' := [.int (0), .retAddr 0, .ref 0]) (by decide +kernel) rfl) ?_
  refine ev_go0 (ev_w_iconst (M := ev_Mlaw) (pc := 1680) (k := 1) (v := 1) (by decide +kernel) (by decide +kernel)) ?_
  refine ev_go0 (ev_w_iadd (M := ev_Mlaw) (pc := 1681) (v := (1)) (by decide +kernel) (by decide +kernel)) ?_
  refine ev_go0 (ev_w_scr (M := ev_Mlaw) (pc := 1682) (v := x1) (j := 1) (by decide +kernel) (by decide +kernel) (by decide +kernel) e1) ?_
  refine ev_go0 (ev_one_pure (M := ev_Mlaw) (pc := 1683) (i := .aload_n 3) (len := 1) (pc' := 1684) (lv' := [(4, .int (0)), (3, .ref 723), (2, .ref 621), (1, .ref 0), (0, .retAddr 0)]) (st' := [.ref 723, .int x1, .ref 0]) (by decide +kernel) rfl) ?_
  refine ev_go (ev_w_stat (M := ev_Mlaw) (pc := 1684) (y := 204) (kind := 8) (Or.inr (Or.inr rfl)) (mi := 385) (na := 3) (by decide +kernel) (by decide +kernel) (by decide +kernel) (by decide +kernel) rfl rfl (ev_k45 x1 hu_x1)) ?_
  refine ev_go0 (ev_w_istore (M := ev_Mlaw) (pc := 1687) (k := 5) (lv' := [(5, .int (1)), (4, .int (0)), (3, .ref 723), (2, .ref 621), (1, .ref 0), (0, .retAddr 0)]) (by decide +kernel) (by decide +kernel) rfl) ?_
  refine ev_go0 (ev_one_pure (M := ev_Mlaw) (pc := 1689) (i := .aload_n 2) (len := 1) (pc' := 1690) (lv' := [(5, .int (1)), (4, .int (0)), (3, .ref 723), (2, .ref 621), (1, .ref 0), (0, .retAddr 0)]) (st' := [.ref 621]) (by decide +kernel) rfl) ?_
  refine ev_go0 (ev_one_pure (M := ev_Mlaw) (pc := 1690) (i := .aload_n 0) (len := 1) (pc' := 1691) (lv' := [(5, .int (1)), (4, .int (0)), (3, .ref 723), (2, .ref 621), (1, .ref 0), (0, .retAddr 0)]) (st' := [.retAddr 0, .ref 621]) (by decide +kernel) rfl) ?_
  refine ev_go0 (ev_one_pure (M := ev_Mlaw) (pc := 1691) (i := .iload 4) (len := 2) (pc' := 1693) (lv' := [(5, .int (1)), (4, .int (0)), (3, .ref 723), (2, .ref 621), (1, .ref 0), (0, .retAddr 0)]) (st' := [.int (0), .retAddr 0, .ref 621]) (by decide +kernel) rfl) ?_
  refine ev_go0 (ev_w_iconst (M := ev_Mlaw) (pc := 1693) (k := 1) (v := 1) (by decide +kernel) (by decide +kernel)) ?_
  refine ev_go0 (ev_w_iadd (M := ev_Mlaw) (pc := 1694) (v := (1)) (by decide +kernel) (by decide +kernel)) ?_
  refine ev_go0 (ev_w_scr (M := ev_Mlaw) (pc := 1695) (v := x1) (j := 1) (by decide +kernel) (by decide +kernel) (by decide +kernel) e1) ?_
  refine ev_go0 (ev_p_virt (M := ev_Mlaw) (pc := 1696) (x := 206) (mi := 353) (na := 1) (by decide +kernel) (by decide +kernel) (by decide +kernel) (by decide +kernel) rfl rfl (ev_recv_of ev_fH621) (ev_k47 x1 hu_x1)) ?_
  refine ev_go0 (ev_w_istore (M := ev_Mlaw) (pc := 1699) (k := 6) (lv' := [(6, .int (0)), (5, .int (1)), (4, .int (0)), (3, .ref 723), (2, .ref 621), (1, .ref 0), (0, .retAddr 0)]) (by decide +kernel) (by decide +kernel) rfl) ?_
  refine ev_go0 (ev_one_pure (M := ev_Mlaw) (pc := 1701) (i := .aload_n 2) (len := 1) (pc' := 1702) (lv' := [(6, .int (0)), (5, .int (1)), (4, .int (0)), (3, .ref 723), (2, .ref 621), (1, .ref 0), (0, .retAddr 0)]) (st' := [.ref 621]) (by decide +kernel) rfl) ?_
  refine ev_go0 (ev_p_virt (M := ev_Mlaw) (pc := 1702) (x := 131) (mi := 220) (na := 0) (by decide +kernel) (by decide +kernel) (by decide +kernel) (by decide +kernel) rfl rfl (ev_recv_of (ev_hself (ev_hself ev_fH621))) ev_k8) ?_
  refine ev_go0 (ev_one_pure (M := ev_Mlaw) (pc := 1705) (i := .iload 5) (len := 2) (pc' := 1707) (lv' := [(6, .int (0)), (5, .int (1)), (4, .int (0)), (3, .ref 723), (2, .ref 621), (1, .ref 0), (0, .retAddr 0)]) (st' := [.int (1), .int (1)]) (by decide +kernel) rfl) ?_
  refine ev_go0 (ev_w_icmp (M := ev_Mlaw) (pc := 1707) (q := .eq) (o := 5) (b := true) (t := 1712) (by decide +kernel) (by decide +kernel) rfl) ?_
  refine ev_go0 (ev_one_pure (M := ev_Mlaw) (pc := 1712) (i := .iload 5) (len := 2) (pc' := 1714) (lv' := [(6, .int (0)), (5, .int (1)), (4, .int (0)), (3, .ref 723), (2, .ref 621), (1, .ref 0), (0, .retAddr 0)]) (st' := [.int (1)]) (by decide +kernel) rfl) ?_
  refine ev_go0 (ev_w_if (M := ev_Mlaw) (pc := 1714) (q := .ne) (o := 15) (b := true) (t := 1729) (by decide +kernel) (by decide +kernel) rfl) ?_
  refine ev_go0 (ev_one_pure (M := ev_Mlaw) (pc := 1729) (i := .goto 543) (len := 3) (pc' := 2272) (lv' := [(6, .int (0)), (5, .int (1)), (4, .int (0)), (3, .ref 723), (2, .ref 621), (1, .ref 0), (0, .retAddr 0)]) (st' := []) (by decide +kernel) rfl) ?_
  rfl
theorem ev_k48 (x1 : Int32) (hl_x1 : (0 : Int) ≤ x1.toInt) {n : Nat} : ev_calld 11 188 [.ref 0, .int x1] ev_H0 n = some (.inr "java/lang/IndexOutOfBoundsException", ev_H0, n, 1, 6) := by
  refine ev_call_thrown (k := 7) (pcR := 21) (x := 160) (lv' := [(0, .ref 0), (1, .int x1)]) (by decide +kernel) rfl ?_ (by decide +kernel) (by decide +kernel) (by decide +kernel) (by decide) (by decide)
  show ev_stepn _ 7 (0, [(0, .ref 0), (1, .int x1)], [], _, _, 0, 0) = _
  refine ev_go0 (ev_one_pure (M := (ev_Mof 188)) (pc := 0) (i := .iload_n 1) (len := 1) (pc' := 1) (lv' := [(0, .ref 0), (1, .int x1)]) (st' := [.int x1]) (by decide +kernel) rfl) ?_
  refine ev_go0 (ev_w_if (M := (ev_Mof 188)) (pc := 1) (q := .lt) (o := 20) (b := false) (t := 4) (by decide +kernel) (ev_c_lt0 hl_x1 (by decide +kernel)) rfl) ?_
  refine ev_go0 (ev_one_pure (M := (ev_Mof 188)) (pc := 4) (i := .iload_n 1) (len := 1) (pc' := 5) (lv' := [(0, .ref 0), (1, .int x1)]) (st' := [.int x1]) (by decide +kernel) rfl) ?_
  refine ev_go0 (ev_one_pure (M := (ev_Mof 188)) (pc := 5) (i := .aload_n 0) (len := 1) (pc' := 6) (lv' := [(0, .ref 0), (1, .int x1)]) (st' := [.ref 0, .int x1]) (by decide +kernel) rfl) ?_
  refine ev_go0 (ev_p_getf (M := (ev_Mof 188)) (pc := 6) (x := 48) (ci := 12) (f := 8) (fin := 1) (v := .ref 254) (by decide +kernel) (by decide +kernel) ev_fH0 rfl) ?_
  refine ev_go0 (ev_p_getf (M := (ev_Mof 188)) (pc := 9) (x := 303) (ci := 0) (f := 4) (fin := 0) (v := .int (0)) (by decide +kernel) (by decide +kernel) ev_fH254 rfl) ?_
  refine ev_go0 (ev_w_icmp (M := (ev_Mof 188)) (pc := 12) (q := .ge) (o := 9) (b := true) (t := 21) (by decide +kernel) (ev_c_ge1 hl_x1 (by decide +kernel)) rfl) ?_
  rfl
theorem ev_k49 (x1 : Int32) (hl_x1 : (0 : Int) ≤ x1.toInt) {n : Nat} : ev_calld 12 385 [.ref 0, .int x1, .ref 723] ev_H0 n = some (.inl (some (.int (1))), ev_H0, n, 1, 6) := by
  refine ev_call_int (k := 7) (pcR := 14) (lv' := [(3, .retAddr 1), (0, .ref 0), (1, .int x1), (2, .ref 723)]) (v := (1)) (ty := .int) (by decide +kernel) rfl ?_ (by decide +kernel) (by decide +kernel) (by decide +kernel) (by decide)
  show ev_stepn _ 7 (0, [(0, .ref 0), (1, .int x1), (2, .ref 723)], [], _, _, 0, 0) = _
  refine ev_go0 (ev_one_pure (M := (ev_Mof 385)) (pc := 0) (i := .aload_n 2) (len := 1) (pc' := 1) (lv' := [(0, .ref 0), (1, .int x1), (2, .ref 723)]) (st' := [.ref 723]) (by decide +kernel) rfl) ?_
  refine ev_go0 (ev_w_iconst (M := (ev_Mof 385)) (pc := 1) (k := 0) (v := 0) (by decide +kernel) (by decide +kernel)) ?_
  refine ev_go0 (ev_one_pure (M := (ev_Mof 385)) (pc := 2) (i := .aload_n 0) (len := 1) (pc' := 3) (lv' := [(0, .ref 0), (1, .int x1), (2, .ref 723)]) (st' := [.ref 0, .int (0), .ref 723]) (by decide +kernel) rfl) ?_
  refine ev_go0 (ev_one_pure (M := (ev_Mof 385)) (pc := 3) (i := .iload_n 1) (len := 1) (pc' := 4) (lv' := [(0, .ref 0), (1, .int x1), (2, .ref 723)]) (st' := [.int x1, .ref 0, .int (0), .ref 723]) (by decide +kernel) rfl) ?_
  refine ev_go (ev_p_virtX (M := (ev_Mof 385)) (pc := 4) (x := 87) (t := 12) (mi := 188) (na := 1) (by decide +kernel) (by decide +kernel) (by decide +kernel) (by decide +kernel) rfl rfl (ev_recv_of ev_fH0) (ev_k48 x1 hl_x1) (by decide +kernel)) ?_
  refine ev_go0 (ev_w_astore_n (M := (ev_Mof 385)) (pc := 12) (k := 3) (lv' := [(3, .retAddr 1), (0, .ref 0), (1, .int x1), (2, .ref 723)]) (by decide +kernel) (by decide +kernel) (Or.inr (Or.inr ⟨_, rfl⟩)) rfl) ?_
  refine ev_go0 (ev_w_iconst (M := (ev_Mof 385)) (pc := 13) (k := 1) (v := 1) (by decide +kernel) (by decide +kernel)) ?_
  rfl
theorem ev_k50 (x1 : Int32) (hl_x1 : (0 : Int) ≤ x1.toInt) {n : Nat} : ev_calld 11 222 [.int x1, .int (0), .int (-1)] (ev_H0.set 621 (.inr (13, (ev_F621.set 0 (.int (0)))))) n = some (.inl (some (.int (0))), (ev_H0.set 621 (.inr (13, (ev_F621.set 0 (.int (0)))))), n, 0, 0) := by
  refine ev_call_int (k := 7) (pcR := 15) (lv' := [(0, .int x1), (1, .int (0)), (2, .int (-1))]) (v := (0)) (ty := .boolean) (by decide +kernel) rfl ?_ (by decide +kernel) (by decide +kernel) (by decide +kernel) (by decide)
  show ev_stepn _ 7 (0, [(0, .int x1), (1, .int (0)), (2, .int (-1))], [], _, _, 0, 0) = _
  refine ev_go0 (ev_one_pure (M := (ev_Mof 222)) (pc := 0) (i := .iload_n 0) (len := 1) (pc' := 1) (lv' := [(0, .int x1), (1, .int (0)), (2, .int (-1))]) (st' := [.int x1]) (by decide +kernel) rfl) ?_
  refine ev_go0 (ev_one_pure (M := (ev_Mof 222)) (pc := 1) (i := .iload_n 1) (len := 1) (pc' := 2) (lv' := [(0, .int x1), (1, .int (0)), (2, .int (-1))]) (st' := [.int (0), .int x1]) (by decide +kernel) rfl) ?_
  refine ev_go0 (ev_w_icmp (M := (ev_Mof 222)) (pc := 2) (q := .lt) (o := 12) (b := false) (t := 5) (by decide +kernel) (ev_c_lt0 hl_x1 (by decide +kernel)) rfl) ?_
  refine ev_go0 (ev_one_pure (M := (ev_Mof 222)) (pc := 5) (i := .iload_n 0) (len := 1) (pc' := 6) (lv' := [(0, .int x1), (1, .int (0)), (2, .int (-1))]) (st' := [.int x1]) (by decide +kernel) rfl) ?_
  refine ev_go0 (ev_one_pure (M := (ev_Mof 222)) (pc := 6) (i := .iload_n 2) (len := 1) (pc' := 7) (lv' := [(0, .int x1), (1, .int (0)), (2, .int (-1))]) (st' := [.int (-1), .int x1]) (by decide +kernel) rfl) ?_
  refine ev_go0 (ev_w_icmp (M := (ev_Mof 222)) (pc := 7) (q := .gt) (o := 7) (b := true) (t := 14) (by decide +kernel) (ev_c_gt1 hl_x1 (by decide +kernel)) rfl) ?_
  refine ev_go0 (ev_w_iconst (M := (ev_Mof 222)) (pc := 14) (k := 0) (v := 0) (by decide +kernel) (by decide +kernel)) ?_
  rfl
theorem ev_k51 (x1 : Int32) (hl_x1 : (0 : Int) ≤ x1.toInt) {n : Nat} : ev_calld 12 353 [.ref 621, .int x1] ev_H0 n = some (.inl (some (.int (0))), ((ev_H0.set 621 (.inr (13, (ev_F621.set 0 (.int (0)))))).set 621 (.inr (13, ((ev_F621.set 0 (.int (0))).set 0 (.int (1)))))), n, 0, 0) := by
  refine ev_call_int (k := 14) (pcR := 33) (lv' := [(0, .ref 621), (1, .int x1)]) (v := (0)) (ty := .int) (by decide +kernel) rfl ?_ (by decide +kernel) (by decide +kernel) (by decide +kernel) (by decide)
  show ev_stepn _ 14 (0, [(0, .ref 621), (1, .int x1)], [], _, _, 0, 0) = _
  refine ev_go0 (ev_one_pure (M := (ev_Mof 353)) (pc := 0) (i := .aload_n 0) (len := 1) (pc' := 1) (lv' := [(0, .ref 621), (1, .int x1)]) (st' := [.ref 621]) (by decide +kernel) rfl) ?_
  refine ev_go0 (ev_w_iconst (M := (ev_Mof 353)) (pc := 1) (k := 0) (v := 0) (by decide +kernel) (by decide +kernel)) ?_
  refine ev_go0 (ev_p_putf (M := (ev_Mof 353)) (pc := 2) (x := 321) (ci := 13) (f := 0) (by decide +kernel) (by decide +kernel) ev_fH621 rfl (by decide +kernel)) ?_
  refine ev_go0 (ev_one_pure (M := (ev_Mof 353)) (pc := 5) (i := .iload_n 1) (len := 1) (pc' := 6) (lv' := [(0, .ref 621), (1, .int x1)]) (st' := [.int x1]) (by decide +kernel) rfl) ?_
  refine ev_go0 (ev_w_iconst (M := (ev_Mof 353)) (pc := 6) (k := 0) (v := 0) (by decide +kernel) (by decide +kernel)) ?_
  refine ev_go0 (ev_one_pure (M := (ev_Mof 353)) (pc := 7) (i := .aload_n 0) (len := 1) (pc' := 8) (lv' := [(0, .ref 621), (1, .int x1)]) (st' := [.ref 621, .int (0), .int x1]) (by decide +kernel) rfl) ?_
  refine ev_go0 (ev_p_getf (M := (ev_Mof 353)) (pc := 8) (x := 757) (ci := 13) (f := 121) (fin := 0) (v := .int (0)) (by decide +kernel) (by decide +kernel) (ev_hself ev_fH621) rfl) ?_
  refine ev_go0 (ev_w_iconst (M := (ev_Mof 353)) (pc := 11) (k := 1) (v := 1) (by decide +kernel) (by decide +kernel)) ?_
  refine ev_go0 (ev_w_isub (M := (ev_Mof 353)) (pc := 12) (v := (-1)) (by decide +kernel) (by decide +kernel)) ?_
  refine ev_go0 (ev_w_stat (M := (ev_Mof 353)) (pc := 13) (y := 325) (kind := 2) (Or.inl rfl) (mi := 222) (na := 3) (by decide +kernel) (by decide +kernel) (by decide +kernel) (by decide +kernel) rfl rfl (ev_k50 x1 hl_x1)) ?_
  refine ev_go0 (ev_w_if (M := (ev_Mof 353)) (pc := 16) (q := .eq) (o := 12) (b := true) (t := 28) (by decide +kernel) (by decide +kernel) rfl) ?_
  refine ev_go0 (ev_one_pure (M := (ev_Mof 353)) (pc := 28) (i := .aload_n 0) (len := 1) (pc' := 29) (lv' := [(0, .ref 621), (1, .int x1)]) (st' := [.ref 621]) (by decide +kernel) rfl) ?_
  refine ev_go0 (ev_w_iconst (M := (ev_Mof 353)) (pc := 29) (k := 1) (v := 1) (by decide +kernel) (by decide +kernel)) ?_
  refine ev_go0 (ev_p_virt (M := (ev_Mof 353)) (pc := 30) (x := 342) (mi := 221) (na := 1) (by decide +kernel) (by decide +kernel) (by decide +kernel) (by decide +kernel) rfl rfl (ev_recv_of (ev_hself ev_fH621)) ev_k6) ?_
  rfl
theorem ev_p1_22_p (xs : Nat → Int32) (x1 : Int32) (hl_x1 : (0 : Int) ≤ x1.toInt) (e1 : xs 1 = x1) : ev_P1 xs 1676 := by
  refine ⟨24, [(6, .int (0)), (5, .int (1)), (4, .int (0)), (3, .ref 723), (2, .ref 621), (1, .ref 0), (0, .retAddr 0)], ((ev_H0.set 621 (.inr (13, (ev_F621.set 0 (.int (0)))))).set 621 (.inr (13, ((ev_F621.set 0 (.int (0))).set 0 (.int (1)))))), 724, 725, 3553592, ?_, ⟨rfl, rfl, rfl, rfl⟩, rfl, by decide, by decide⟩
  show ev_stepn _ _ (1676, [(4, .int (0)), (3, .ref 723), (2, .ref 621), (1, .ref 0), (0, .retAddr 0)], [], _, _, _, _) = _
  refine ev_go0 (ev_one_pure (M := ev_Mlaw) (pc := 1676) (i := .aload_n 1) (len := 1) (pc' := 1677) (lv' := [(4, .int (0)), (3, .ref 723), (2, .ref 621), (1, .ref 0), (0, .retAddr 0)]) (st' := [.ref 0]) (by decide +kernel) rfl) ?_
  refine ev_go0 (ev_one_pure (M := ev_Mlaw) (pc := 1677) (i := .aload_n 0) (len := 1) (pc' := 1678) (lv' := [(4, .int (0)), (3, .ref 723), (2, .ref 621), (1, .ref 0), (0, .retAddr 0)]) (st' := [.retAddr 0, .ref 0]) (by decide +kernel) rfl) ?_
  refine ev_go0 (ev_one_pure (M := ev_Mlaw) (pc := 1678) (i := .iload 4) (len := 2) (pc' := 1680) (lv' := [(4, .int (0)), (3, .ref 723), (2, .ref 621), (1, .ref 0), (0, .retAddr 0)]) (st' := [.int (0), .retAddr 0, .ref 0]) (by decide +kernel) rfl) ?_
  refine ev_go0 (ev_w_iconst (M := ev_Mlaw) (pc := 1680) (k := 1) (v := 1) (by decide +kernel) (by decide +kernel)) ?_
  refine ev_go0 (ev_w_iadd (M := ev_Mlaw) (pc := 1681) (v := (1)) (by decide +kernel) (by decide +kernel)) ?_
  refine ev_go0 (ev_w_scr (M := ev_Mlaw) (pc := 1682) (v := x1) (j := 1) (by decide +kernel) (by decide +kernel) (by decide +kernel) e1) ?_
  refine ev_go0 (ev_one_pure (M := ev_Mlaw) (pc := 1683) (i := .aload_n 3) (len := 1) (pc' := 1684) (lv' := [(4, .int (0)), (3, .ref 723), (2, .ref 621), (1, .ref 0), (0, .retAddr 0)]) (st' := [.ref 723, .int x1, .ref 0]) (by decide +kernel) rfl) ?_
  refine ev_go (ev_w_stat (M := ev_Mlaw) (pc := 1684) (y := 204) (kind := 8) (Or.inr (Or.inr rfl)) (mi := 385) (na := 3) (by decide +kernel) (by decide +kernel) (by decide +kernel) (by decide +kernel) rfl rfl (ev_k49 x1 hl_x1)) ?_
  refine ev_go0 (ev_w_istore (M := ev_Mlaw) (pc := 1687) (k := 5) (lv' := [(5, .int (1)), (4, .int (0)), (3, .ref 723), (2, .ref 621), (1, .ref 0), (0, .retAddr 0)]) (by decide +kernel) (by decide +kernel) rfl) ?_
  refine ev_go0 (ev_one_pure (M := ev_Mlaw) (pc := 1689) (i := .aload_n 2) (len := 1) (pc' := 1690) (lv' := [(5, .int (1)), (4, .int (0)), (3, .ref 723), (2, .ref 621), (1, .ref 0), (0, .retAddr 0)]) (st' := [.ref 621]) (by decide +kernel) rfl) ?_
  refine ev_go0 (ev_one_pure (M := ev_Mlaw) (pc := 1690) (i := .aload_n 0) (len := 1) (pc' := 1691) (lv' := [(5, .int (1)), (4, .int (0)), (3, .ref 723), (2, .ref 621), (1, .ref 0), (0, .retAddr 0)]) (st' := [.retAddr 0, .ref 621]) (by decide +kernel) rfl) ?_
  refine ev_go0 (ev_one_pure (M := ev_Mlaw) (pc := 1691) (i := .iload 4) (len := 2) (pc' := 1693) (lv' := [(5, .int (1)), (4, .int (0)), (3, .ref 723), (2, .ref 621), (1, .ref 0), (0, .retAddr 0)]) (st' := [.int (0), .retAddr 0, .ref 621]) (by decide +kernel) rfl) ?_
  refine ev_go0 (ev_w_iconst (M := ev_Mlaw) (pc := 1693) (k := 1) (v := 1) (by decide +kernel) (by decide +kernel)) ?_
  refine ev_go0 (ev_w_iadd (M := ev_Mlaw) (pc := 1694) (v := (1)) (by decide +kernel) (by decide +kernel)) ?_
  refine ev_go0 (ev_w_scr (M := ev_Mlaw) (pc := 1695) (v := x1) (j := 1) (by decide +kernel) (by decide +kernel) (by decide +kernel) e1) ?_
  refine ev_go0 (ev_p_virt (M := ev_Mlaw) (pc := 1696) (x := 206) (mi := 353) (na := 1) (by decide +kernel) (by decide +kernel) (by decide +kernel) (by decide +kernel) rfl rfl (ev_recv_of ev_fH621) (ev_k51 x1 hl_x1)) ?_
  refine ev_go0 (ev_w_istore (M := ev_Mlaw) (pc := 1699) (k := 6) (lv' := [(6, .int (0)), (5, .int (1)), (4, .int (0)), (3, .ref 723), (2, .ref 621), (1, .ref 0), (0, .retAddr 0)]) (by decide +kernel) (by decide +kernel) rfl) ?_
  refine ev_go0 (ev_one_pure (M := ev_Mlaw) (pc := 1701) (i := .aload_n 2) (len := 1) (pc' := 1702) (lv' := [(6, .int (0)), (5, .int (1)), (4, .int (0)), (3, .ref 723), (2, .ref 621), (1, .ref 0), (0, .retAddr 0)]) (st' := [.ref 621]) (by decide +kernel) rfl) ?_
  refine ev_go0 (ev_p_virt (M := ev_Mlaw) (pc := 1702) (x := 131) (mi := 220) (na := 0) (by decide +kernel) (by decide +kernel) (by decide +kernel) (by decide +kernel) rfl rfl (ev_recv_of (ev_hself (ev_hself ev_fH621))) ev_k8) ?_
  refine ev_go0 (ev_one_pure (M := ev_Mlaw) (pc := 1705) (i := .iload 5) (len := 2) (pc' := 1707) (lv' := [(6, .int (0)), (5, .int (1)), (4, .int (0)), (3, .ref 723), (2, .ref 621), (1, .ref 0), (0, .retAddr 0)]) (st' := [.int (1), .int (1)]) (by decide +kernel) rfl) ?_
  refine ev_go0 (ev_w_icmp (M := ev_Mlaw) (pc := 1707) (q := .eq) (o := 5) (b := true) (t := 1712) (by decide +kernel) (by decide +kernel) rfl) ?_
  refine ev_go0 (ev_one_pure (M := ev_Mlaw) (pc := 1712) (i := .iload 5) (len := 2) (pc' := 1714) (lv' := [(6, .int (0)), (5, .int (1)), (4, .int (0)), (3, .ref 723), (2, .ref 621), (1, .ref 0), (0, .retAddr 0)]) (st' := [.int (1)]) (by decide +kernel) rfl) ?_
  refine ev_go0 (ev_w_if (M := ev_Mlaw) (pc := 1714) (q := .ne) (o := 15) (b := true) (t := 1729) (by decide +kernel) (by decide +kernel) rfl) ?_
  refine ev_go0 (ev_one_pure (M := ev_Mlaw) (pc := 1729) (i := .goto 543) (len := 3) (pc' := 2272) (lv' := [(6, .int (0)), (5, .int (1)), (4, .int (0)), (3, .ref 723), (2, .ref 621), (1, .ref 0), (0, .retAddr 0)]) (st' := []) (by decide +kernel) rfl) ?_
  rfl
theorem ev_p1arm22 (xs : Nat → Int32) : ev_P1 xs 1676 := by
  rcases ev_split2 (xs 1) with h1 | h1
  · skip
    exact ev_p1_22_n xs (xs 1) h1 rfl
  · skip
    exact ev_p1_22_p xs (xs 1) h1 rfl
theorem ev_k52 {n : Nat} : ev_calld 11 189 [.ref 0] ev_H0 n = some (.inl (some (.int (0))), (ev_H0.set 254 (.inr (0, (ev_F254.set 14 (.int (1)))))), n, 0, 0) := by
  refine ev_call_int (k := 11) (pcR := 36) (lv' := [(0, .ref 0)]) (v := (0)) (ty := .int) (by decide +kernel) rfl ?_ (by decide +kernel) (by decide +kernel) (by decide +kernel) (by decide)
  show ev_stepn _ 11 (0, [(0, .ref 0)], [], _, _, 0, 0) = _
  refine ev_go0 (ev_one_pure (M := (ev_Mof 189)) (pc := 0) (i := .aload_n 0) (len := 1) (pc' := 1) (lv' := [(0, .ref 0)]) (st' := [.ref 0]) (by decide +kernel) rfl) ?_
  refine ev_go0 (ev_p_getf (M := (ev_Mof 189)) (pc := 1) (x := 48) (ci := 12) (f := 8) (fin := 1) (v := .ref 254) (by decide +kernel) (by decide +kernel) ev_fH0 rfl) ?_
  refine ev_go0 (ev_p_getf (M := (ev_Mof 189)) (pc := 4) (x := 311) (ci := 0) (f := 14) (fin := 0) (v := .int (0)) (by decide +kernel) (by decide +kernel) ev_fH254 rfl) ?_
  refine ev_go0 (ev_w_if (M := (ev_Mof 189)) (pc := 7) (q := .eq) (o := 14) (b := true) (t := 21) (by decide +kernel) (by decide +kernel) rfl) ?_
  refine ev_go0 (ev_one_pure (M := (ev_Mof 189)) (pc := 21) (i := .aload_n 0) (len := 1) (pc' := 22) (lv' := [(0, .ref 0)]) (st' := [.ref 0]) (by decide +kernel) rfl) ?_
  refine ev_go0 (ev_p_getf (M := (ev_Mof 189)) (pc := 22) (x := 48) (ci := 12) (f := 8) (fin := 1) (v := .ref 254) (by decide +kernel) (by decide +kernel) ev_fH0 rfl) ?_
  refine ev_go0 (ev_w_iconst (M := (ev_Mof 189)) (pc := 25) (k := 1) (v := 1) (by decide +kernel) (by decide +kernel)) ?_
  refine ev_go0 (ev_p_putf (M := (ev_Mof 189)) (pc := 26) (x := 311) (ci := 0) (f := 14) (by decide +kernel) (by decide +kernel) ev_fH254 rfl (by decide +kernel)) ?_
  refine ev_go0 (ev_one_pure (M := (ev_Mof 189)) (pc := 29) (i := .aload_n 0) (len := 1) (pc' := 30) (lv' := [(0, .ref 0)]) (st' := [.ref 0]) (by decide +kernel) rfl) ?_
  refine ev_go0 (ev_p_getf (M := (ev_Mof 189)) (pc := 30) (x := 48) (ci := 12) (f := 8) (fin := 1) (v := .ref 254) (by decide +kernel) (by decide +kernel) (ev_hne (by decide) ev_fH0) rfl) ?_
  refine ev_go0 (ev_p_getf (M := (ev_Mof 189)) (pc := 33) (x := 316) (ci := 0) (f := 12) (fin := 0) (v := .int (0)) (by decide +kernel) (by decide +kernel) (ev_hself ev_fH254) rfl) ?_
  rfl
theorem ev_k53 {n : Nat} : ev_calld 12 386 [.ref 0, .ref 723] ev_H0 n = some (.inl (some (.int (0))), ((ev_H0.set 254 (.inr (0, (ev_F254.set 14 (.int (1)))))).set 723 (.inl (.long, 1, ((0, .long (0)) :: [])))), n, 0, 0) := by
  refine ev_call_int (k := 8) (pcR := 15) (lv' := [(0, .ref 0), (1, .ref 723)]) (v := (0)) (ty := .int) (by decide +kernel) rfl ?_ (by decide +kernel) (by decide +kernel) (by decide +kernel) (by decide)
  show ev_stepn _ 8 (0, [(0, .ref 0), (1, .ref 723)], [], _, _, 0, 0) = _
  refine ev_go0 (ev_one_pure (M := (ev_Mof 386)) (pc := 0) (i := .aload_n 1) (len := 1) (pc' := 1) (lv' := [(0, .ref 0), (1, .ref 723)]) (st' := [.ref 723]) (by decide +kernel) rfl) ?_
  refine ev_go0 (ev_w_iconst (M := (ev_Mof 386)) (pc := 1) (k := 0) (v := 0) (by decide +kernel) (by decide +kernel)) ?_
  refine ev_go0 (ev_one_pure (M := (ev_Mof 386)) (pc := 2) (i := .aload_n 0) (len := 1) (pc' := 3) (lv' := [(0, .ref 0), (1, .ref 723)]) (st' := [.ref 0, .int (0), .ref 723]) (by decide +kernel) rfl) ?_
  refine ev_go0 (ev_p_virt (M := (ev_Mof 386)) (pc := 3) (x := 90) (mi := 189) (na := 0) (by decide +kernel) (by decide +kernel) (by decide +kernel) (by decide +kernel) rfl rfl (ev_recv_of ev_fH0) ev_k52) ?_
  refine ev_go0 (ev_w_i2l (M := (ev_Mof 386)) (pc := 6) (v := (0)) (by decide +kernel) (by decide +kernel)) ?_
  refine ev_go0 (ev_w_last (M := (ev_Mof 386)) (pc := 7) (j := 0) (by decide +kernel) (ev_hne (by decide) ev_fH723) (by decide +kernel) (by decide +kernel)) ?_
  refine ev_go0 (ev_one_pure (M := (ev_Mof 386)) (pc := 8) (i := .goto 6) (len := 3) (pc' := 14) (lv' := [(0, .ref 0), (1, .ref 723)]) (st' := []) (by decide +kernel) rfl) ?_
  refine ev_go0 (ev_w_iconst (M := (ev_Mof 386)) (pc := 14) (k := 0) (v := 0) (by decide +kernel) (by decide +kernel)) ?_
  rfl
theorem ev_k54 {n : Nat} : ev_calld 12 354 [.ref 621] ((ev_H0.set 254 (.inr (0, (ev_F254.set 14 (.int (1)))))).set 723 (.inl (.long, 1, ((0, .long (0)) :: [])))) n = some (.inl (some (.int (0))), ((((ev_H0.set 254 (.inr (0, (ev_F254.set 14 (.int (1)))))).set 723 (.inl (.long, 1, ((0, .long (0)) :: [])))).set 621 (.inr (13, (ev_F621.set 0 (.int (0)))))).set 621 (.inr (13, ((ev_F621.set 0 (.int (0))).set 132 (.int (1)))))), n, 0, 0) := by
  refine ev_call_int (k := 14) (pcR := 34) (lv' := [(0, .ref 621)]) (v := (0)) (ty := .int) (by decide +kernel) rfl ?_ (by decide +kernel) (by decide +kernel) (by decide +kernel) (by decide)
  show ev_stepn _ 14 (0, [(0, .ref 621)], [], _, _, 0, 0) = _
  refine ev_go0 (ev_one_pure (M := (ev_Mof 354)) (pc := 0) (i := .aload_n 0) (len := 1) (pc' := 1) (lv' := [(0, .ref 621)]) (st' := [.ref 621]) (by decide +kernel) rfl) ?_
  refine ev_go0 (ev_one_pure (M := (ev_Mof 354)) (pc := 1) (i := .aload_n 0) (len := 1) (pc' := 2) (lv' := [(0, .ref 621)]) (st' := [.ref 621, .ref 621]) (by decide +kernel) rfl) ?_
  refine ev_go0 (ev_p_getf (M := (ev_Mof 354)) (pc := 2) (x := 783) (ci := 13) (f := 132) (fin := 0) (v := .int (0)) (by decide +kernel) (by decide +kernel) (ev_hne (by decide) (ev_hne (by decide) ev_fH621)) rfl) ?_
  refine ev_go0 (ev_w_if (M := (ev_Mof 354)) (pc := 5) (q := .eq) (o := 7) (b := true) (t := 12) (by decide +kernel) (by decide +kernel) rfl) ?_
  refine ev_go0 (ev_w_iconst (M := (ev_Mof 354)) (pc := 12) (k := 0) (v := 0) (by decide +kernel) (by decide +kernel)) ?_
  refine ev_go0 (ev_p_putf (M := (ev_Mof 354)) (pc := 13) (x := 321) (ci := 13) (f := 0) (by decide +kernel) (by decide +kernel) (ev_hne (by decide) (ev_hne (by decide) ev_fH621)) rfl (by decide +kernel)) ?_
  refine ev_go0 (ev_one_pure (M := (ev_Mof 354)) (pc := 16) (i := .aload_n 0) (len := 1) (pc' := 17) (lv' := [(0, .ref 621)]) (st' := [.ref 621]) (by decide +kernel) rfl) ?_
  refine ev_go0 (ev_p_getf (M := (ev_Mof 354)) (pc := 17) (x := 321) (ci := 13) (f := 0) (fin := 0) (v := .int (0)) (by decide +kernel) (by decide +kernel) (ev_hself (ev_hne (by decide) (ev_hne (by decide) ev_fH621))) rfl) ?_
  refine ev_go0 (ev_w_if (M := (ev_Mof 354)) (pc := 20) (q := .le) (o := 5) (b := true) (t := 25) (by decide +kernel) (by decide +kernel) rfl) ?_
  refine ev_go0 (ev_one_pure (M := (ev_Mof 354)) (pc := 25) (i := .aload_n 0) (len := 1) (pc' := 26) (lv' := [(0, .ref 621)]) (st' := [.ref 621]) (by decide +kernel) rfl) ?_
  refine ev_go0 (ev_w_iconst (M := (ev_Mof 354)) (pc := 26) (k := 1) (v := 1) (by decide +kernel) (by decide +kernel)) ?_
  refine ev_go0 (ev_p_putf (M := (ev_Mof 354)) (pc := 27) (x := 783) (ci := 13) (f := 132) (by decide +kernel) (by decide +kernel) (ev_hself (ev_hne (by decide) (ev_hne (by decide) ev_fH621))) rfl (by decide +kernel)) ?_
  refine ev_go0 (ev_one_pure (M := (ev_Mof 354)) (pc := 30) (i := .aload_n 0) (len := 1) (pc' := 31) (lv' := [(0, .ref 621)]) (st' := [.ref 621]) (by decide +kernel) rfl) ?_
  refine ev_go0 (ev_p_getf (M := (ev_Mof 354)) (pc := 31) (x := 766) (ci := 13) (f := 130) (fin := 0) (v := .int (0)) (by decide +kernel) (by decide +kernel) (ev_hself (ev_hself (ev_hne (by decide) (ev_hne (by decide) ev_fH621)))) rfl) ?_
  rfl
theorem ev_k55 {n : Nat} : ev_calld 12 220 [.ref 621] ((((ev_H0.set 254 (.inr (0, (ev_F254.set 14 (.int (1)))))).set 723 (.inl (.long, 1, ((0, .long (0)) :: [])))).set 621 (.inr (13, (ev_F621.set 0 (.int (0)))))).set 621 (.inr (13, ((ev_F621.set 0 (.int (0))).set 132 (.int (1)))))) n = some (.inl (some (.int (0))), ((((ev_H0.set 254 (.inr (0, (ev_F254.set 14 (.int (1)))))).set 723 (.inl (.long, 1, ((0, .long (0)) :: [])))).set 621 (.inr (13, (ev_F621.set 0 (.int (0)))))).set 621 (.inr (13, ((ev_F621.set 0 (.int (0))).set 132 (.int (1)))))), n, 0, 0) := by
  refine ev_call_int (k := 2) (pcR := 4) (lv' := [(0, .ref 621)]) (v := (0)) (ty := .int) (by decide +kernel) rfl ?_ (by decide +kernel) (by decide +kernel) (by decide +kernel) (by decide)
  show ev_stepn _ 2 (0, [(0, .ref 621)], [], _, _, 0, 0) = _
  refine ev_go0 (ev_one_pure (M := (ev_Mof 220)) (pc := 0) (i := .aload_n 0) (len := 1) (pc' := 1) (lv' := [(0, .ref 621)]) (st' := [.ref 621]) (by decide +kernel) rfl) ?_
  refine ev_go0 (ev_p_getf (M := (ev_Mof 220)) (pc := 1) (x := 321) (ci := 13) (f := 0) (fin := 0) (v := .int (0)) (by decide +kernel) (by decide +kernel) (ev_hself (ev_hself (ev_hne (by decide) (ev_hne (by decide) ev_fH621)))) rfl) ?_
  rfl
theorem ev_p1_23_a (xs : Nat → Int32) : ev_P1 xs 1732 := by
  refine ⟨21, [(6, .int (0)), (5, .int (0)), (4, .int (0)), (3, .ref 723), (2, .ref 621), (1, .ref 0), (0, .retAddr 0)], ((((ev_H0.set 254 (.inr (0, (ev_F254.set 14 (.int (1)))))).set 723 (.inl (.long, 1, ((0, .long (0)) :: [])))).set 621 (.inr (13, (ev_F621.set 0 (.int (0)))))).set 621 (.inr (13, ((ev_F621.set 0 (.int (0))).set 132 (.int (1)))))), 724, 724, 3553586, ?_, ⟨rfl, rfl, rfl, rfl⟩, rfl, by decide, by decide⟩
  show ev_stepn _ _ (1732, [(4, .int (0)), (3, .ref 723), (2, .ref 621), (1, .ref 0), (0, .retAddr 0)], [], _, _, _, _) = _
  refine ev_go0 (ev_one_pure (M := ev_Mlaw) (pc := 1732) (i := .aload_n 1) (len := 1) (pc' := 1733) (lv' := [(4, .int (0)), (3, .ref 723), (2, .ref 621), (1, .ref 0), (0, .retAddr 0)]) (st' := [.ref 0]) (by decide +kernel) rfl) ?_
  refine ev_go0 (ev_one_pure (M := ev_Mlaw) (pc := 1733) (i := .aload_n 3) (len := 1) (pc' := 1734) (lv' := [(4, .int (0)), (3, .ref 723), (2, .ref 621), (1, .ref 0), (0, .retAddr 0)]) (st' := [.ref 723, .ref 0]) (by decide +kernel) rfl) ?_
  refine ev_go0 (ev_w_stat (M := ev_Mlaw) (pc := 1734) (y := 207) (kind := 8) (Or.inr (Or.inr rfl)) (mi := 386) (na := 2) (by decide +kernel) (by decide +kernel) (by decide +kernel) (by decide +kernel) rfl rfl ev_k53) ?_
  refine ev_go0 (ev_w_istore (M := ev_Mlaw) (pc := 1737) (k := 5) (lv' := [(5, .int (0)), (4, .int (0)), (3, .ref 723), (2, .ref 621), (1, .ref 0), (0, .retAddr 0)]) (by decide +kernel) (by decide +kernel) rfl) ?_
  refine ev_go0 (ev_one_pure (M := ev_Mlaw) (pc := 1739) (i := .aload_n 2) (len := 1) (pc' := 1740) (lv' := [(5, .int (0)), (4, .int (0)), (3, .ref 723), (2, .ref 621), (1, .ref 0), (0, .retAddr 0)]) (st' := [.ref 621]) (by decide +kernel) rfl) ?_
  refine ev_go0 (ev_p_virt (M := ev_Mlaw) (pc := 1740) (x := 209) (mi := 354) (na := 0) (by decide +kernel) (by decide +kernel) (by decide +kernel) (by decide +kernel) rfl rfl (ev_recv_of (ev_hne (by decide) (ev_hne (by decide) ev_fH621))) ev_k54) ?_
  refine ev_go0 (ev_w_istore (M := ev_Mlaw) (pc := 1743) (k := 6) (lv' := [(6, .int (0)), (5, .int (0)), (4, .int (0)), (3, .ref 723), (2, .ref 621), (1, .ref 0), (0, .retAddr 0)]) (by decide +kernel) (by decide +kernel) rfl) ?_
  refine ev_go0 (ev_one_pure (M := ev_Mlaw) (pc := 1745) (i := .aload_n 2) (len := 1) (pc' := 1746) (lv' := [(6, .int (0)), (5, .int (0)), (4, .int (0)), (3, .ref 723), (2, .ref 621), (1, .ref 0), (0, .retAddr 0)]) (st' := [.ref 621]) (by decide +kernel) rfl) ?_
  refine ev_go0 (ev_p_virt (M := ev_Mlaw) (pc := 1746) (x := 131) (mi := 220) (na := 0) (by decide +kernel) (by decide +kernel) (by decide +kernel) (by decide +kernel) rfl rfl (ev_recv_of (ev_hself (ev_hself (ev_hne (by decide) (ev_hne (by decide) ev_fH621))))) ev_k55) ?_
  refine ev_go0 (ev_one_pure (M := ev_Mlaw) (pc := 1749) (i := .iload 5) (len := 2) (pc' := 1751) (lv' := [(6, .int (0)), (5, .int (0)), (4, .int (0)), (3, .ref 723), (2, .ref 621), (1, .ref 0), (0, .retAddr 0)]) (st' := [.int (0), .int (0)]) (by decide +kernel) rfl) ?_
  refine ev_go0 (ev_w_icmp (M := ev_Mlaw) (pc := 1751) (q := .eq) (o := 5) (b := true) (t := 1756) (by decide +kernel) (by decide +kernel) rfl) ?_
  refine ev_go0 (ev_one_pure (M := ev_Mlaw) (pc := 1756) (i := .iload 5) (len := 2) (pc' := 1758) (lv' := [(6, .int (0)), (5, .int (0)), (4, .int (0)), (3, .ref 723), (2, .ref 621), (1, .ref 0), (0, .retAddr 0)]) (st' := [.int (0)]) (by decide +kernel) rfl) ?_
  refine ev_go0 (ev_w_if (M := ev_Mlaw) (pc := 1758) (q := .ne) (o := 15) (b := false) (t := 1761) (by decide +kernel) (by decide +kernel) rfl) ?_
  refine ev_go0 (ev_one_pure (M := ev_Mlaw) (pc := 1761) (i := .aload_n 3) (len := 1) (pc' := 1762) (lv' := [(6, .int (0)), (5, .int (0)), (4, .int (0)), (3, .ref 723), (2, .ref 621), (1, .ref 0), (0, .retAddr 0)]) (st' := [.ref 723]) (by decide +kernel) rfl) ?_
  refine ev_go0 (ev_w_iconst (M := ev_Mlaw) (pc := 1762) (k := 0) (v := 0) (by decide +kernel) (by decide +kernel)) ?_
  refine ev_go0 (ev_w_lald (M := ev_Mlaw) (pc := 1763) (v := (0)) (by decide +kernel) (ev_hne (by decide) (ev_hne (by decide) (ev_hself (ev_hne (by decide) ev_fH723)))) (by decide +kernel) rfl) ?_
  refine ev_go0 (ev_one_pure (M := ev_Mlaw) (pc := 1764) (i := .iload 6) (len := 2) (pc' := 1766) (lv' := [(6, .int (0)), (5, .int (0)), (4, .int (0)), (3, .ref 723), (2, .ref 621), (1, .ref 0), (0, .retAddr 0)]) (st' := [.int (0), .long (0)]) (by decide +kernel) rfl) ?_
  refine ev_go0 (ev_w_i2l (M := ev_Mlaw) (pc := 1766) (v := (0)) (by decide +kernel) (by decide +kernel)) ?_
  refine ev_go0 (ev_w_lcmp (M := ev_Mlaw) (pc := 1767) (v := (0)) (by decide +kernel) (by decide +kernel)) ?_
  refine ev_go0 (ev_w_if (M := ev_Mlaw) (pc := 1768) (q := .eq) (o := 5) (b := true) (t := 1773) (by decide +kernel) (by decide +kernel) rfl) ?_
  refine ev_go0 (ev_one_pure (M := ev_Mlaw) (pc := 1773) (i := .goto 499) (len := 3) (pc' := 2272) (lv' := [(6, .int (0)), (5, .int (0)), (4, .int (0)), (3, .ref 723), (2, .ref 621), (1, .ref 0), (0, .retAddr 0)]) (st' := []) (by decide +kernel) rfl) ?_
  rfl
theorem ev_p1arm23 (xs : Nat → Int32) : ev_P1 xs 1732 := by
  exact ev_p1_23_a xs
theorem ev_k56 {n : Nat} : ev_calld 11 190 [.ref 0] ev_H0 n = some (.inr "java/lang/IllegalStateException", ev_H0, n, 1, 6) := by
  refine ev_call_thrown (k := 4) (pcR := 10) (x := 109) (lv' := [(0, .ref 0)]) (by decide +kernel) rfl ?_ (by decide +kernel) (by decide +kernel) (by decide +kernel) (by decide) (by decide)
  show ev_stepn _ 4 (0, [(0, .ref 0)], [], _, _, 0, 0) = _
  refine ev_go0 (ev_one_pure (M := (ev_Mof 190)) (pc := 0) (i := .aload_n 0) (len := 1) (pc' := 1) (lv' := [(0, .ref 0)]) (st' := [.ref 0]) (by decide +kernel) rfl) ?_
  refine ev_go0 (ev_p_getf (M := (ev_Mof 190)) (pc := 1) (x := 48) (ci := 12) (f := 8) (fin := 1) (v := .ref 254) (by decide +kernel) (by decide +kernel) ev_fH0 rfl) ?_
  refine ev_go0 (ev_p_getf (M := (ev_Mof 190)) (pc := 4) (x := 311) (ci := 0) (f := 14) (fin := 0) (v := .int (0)) (by decide +kernel) (by decide +kernel) ev_fH254 rfl) ?_
  refine ev_go0 (ev_w_if (M := (ev_Mof 190)) (pc := 7) (q := .ne) (o := 14) (b := false) (t := 10) (by decide +kernel) (by decide +kernel) rfl) ?_
  rfl
theorem ev_k57 {n : Nat} : ev_calld 12 387 [.ref 0, .ref 723] ev_H0 n = some (.inl (some (.int (1))), ev_H0, n, 1, 6) := by
  refine ev_call_int (k := 6) (pcR := 13) (lv' := [(2, .retAddr 1), (0, .ref 0), (1, .ref 723)]) (v := (1)) (ty := .int) (by decide +kernel) rfl ?_ (by decide +kernel) (by decide +kernel) (by decide +kernel) (by decide)
  show ev_stepn _ 6 (0, [(0, .ref 0), (1, .ref 723)], [], _, _, 0, 0) = _
  refine ev_go0 (ev_one_pure (M := (ev_Mof 387)) (pc := 0) (i := .aload_n 1) (len := 1) (pc' := 1) (lv' := [(0, .ref 0), (1, .ref 723)]) (st' := [.ref 723]) (by decide +kernel) rfl) ?_
  refine ev_go0 (ev_w_iconst (M := (ev_Mof 387)) (pc := 1) (k := 0) (v := 0) (by decide +kernel) (by decide +kernel)) ?_
  refine ev_go0 (ev_one_pure (M := (ev_Mof 387)) (pc := 2) (i := .aload_n 0) (len := 1) (pc' := 3) (lv' := [(0, .ref 0), (1, .ref 723)]) (st' := [.ref 0, .int (0), .ref 723]) (by decide +kernel) rfl) ?_
  refine ev_go (ev_p_virtX (M := (ev_Mof 387)) (pc := 3) (x := 93) (t := 11) (mi := 190) (na := 0) (by decide +kernel) (by decide +kernel) (by decide +kernel) (by decide +kernel) rfl rfl (ev_recv_of ev_fH0) ev_k56 (by decide +kernel)) ?_
  refine ev_go0 (ev_w_astore_n (M := (ev_Mof 387)) (pc := 11) (k := 2) (lv' := [(2, .retAddr 1), (0, .ref 0), (1, .ref 723)]) (by decide +kernel) (by decide +kernel) (Or.inr (Or.inr ⟨_, rfl⟩)) rfl) ?_
  refine ev_go0 (ev_w_iconst (M := (ev_Mof 387)) (pc := 12) (k := 1) (v := 1) (by decide +kernel) (by decide +kernel)) ?_
  rfl
theorem ev_k58 {n : Nat} : ev_calld 12 355 [.ref 621] ev_H0 n = some (.inl (some (.int (0))), (ev_H0.set 621 (.inr (13, (ev_F621.set 0 (.int (1)))))), n, 0, 0) := by
  refine ev_call_int (k := 10) (pcR := 24) (lv' := [(0, .ref 621)]) (v := (0)) (ty := .int) (by decide +kernel) rfl ?_ (by decide +kernel) (by decide +kernel) (by decide +kernel) (by decide)
  show ev_stepn _ 10 (0, [(0, .ref 621)], [], _, _, 0, 0) = _
  refine ev_go0 (ev_one_pure (M := (ev_Mof 355)) (pc := 0) (i := .aload_n 0) (len := 1) (pc' := 1) (lv' := [(0, .ref 621)]) (st' := [.ref 621]) (by decide +kernel) rfl) ?_
  refine ev_go0 (ev_one_pure (M := (ev_Mof 355)) (pc := 1) (i := .aload_n 0) (len := 1) (pc' := 2) (lv' := [(0, .ref 621)]) (st' := [.ref 621, .ref 621]) (by decide +kernel) rfl) ?_
  refine ev_go0 (ev_p_getf (M := (ev_Mof 355)) (pc := 2) (x := 783) (ci := 13) (f := 132) (fin := 0) (v := .int (0)) (by decide +kernel) (by decide +kernel) ev_fH621 rfl) ?_
  refine ev_go0 (ev_w_if (M := (ev_Mof 355)) (pc := 5) (q := .eq) (o := 7) (b := true) (t := 12) (by decide +kernel) (by decide +kernel) rfl) ?_
  refine ev_go0 (ev_w_iconst (M := (ev_Mof 355)) (pc := 12) (k := 1) (v := 1) (by decide +kernel) (by decide +kernel)) ?_
  refine ev_go0 (ev_p_putf (M := (ev_Mof 355)) (pc := 13) (x := 321) (ci := 13) (f := 0) (by decide +kernel) (by decide +kernel) ev_fH621 rfl (by decide +kernel)) ?_
  refine ev_go0 (ev_one_pure (M := (ev_Mof 355)) (pc := 16) (i := .aload_n 0) (len := 1) (pc' := 17) (lv' := [(0, .ref 621)]) (st' := [.ref 621]) (by decide +kernel) rfl) ?_
  refine ev_go0 (ev_p_getf (M := (ev_Mof 355)) (pc := 17) (x := 321) (ci := 13) (f := 0) (fin := 0) (v := .int (1)) (by decide +kernel) (by decide +kernel) (ev_hself ev_fH621) rfl) ?_
  refine ev_go0 (ev_w_if (M := (ev_Mof 355)) (pc := 20) (q := .le) (o := 5) (b := false) (t := 23) (by decide +kernel) (by decide +kernel) rfl) ?_
  refine ev_go0 (ev_w_iconst (M := (ev_Mof 355)) (pc := 23) (k := 0) (v := 0) (by decide +kernel) (by decide +kernel)) ?_
  rfl
theorem ev_p1_24_a (xs : Nat → Int32) : ev_P1 xs 1776 := by
  refine ⟨14, [(6, .int (0)), (5, .int (1)), (4, .int (0)), (3, .ref 723), (2, .ref 621), (1, .ref 0), (0, .retAddr 0)], (ev_H0.set 621 (.inr (13, (ev_F621.set 0 (.int (1)))))), 724, 725, 3553592, ?_, ⟨rfl, rfl, rfl, rfl⟩, rfl, by decide, by decide⟩
  show ev_stepn _ _ (1776, [(4, .int (0)), (3, .ref 723), (2, .ref 621), (1, .ref 0), (0, .retAddr 0)], [], _, _, _, _) = _
  refine ev_go0 (ev_one_pure (M := ev_Mlaw) (pc := 1776) (i := .aload_n 1) (len := 1) (pc' := 1777) (lv' := [(4, .int (0)), (3, .ref 723), (2, .ref 621), (1, .ref 0), (0, .retAddr 0)]) (st' := [.ref 0]) (by decide +kernel) rfl) ?_
  refine ev_go0 (ev_one_pure (M := ev_Mlaw) (pc := 1777) (i := .aload_n 3) (len := 1) (pc' := 1778) (lv' := [(4, .int (0)), (3, .ref 723), (2, .ref 621), (1, .ref 0), (0, .retAddr 0)]) (st' := [.ref 723, .ref 0]) (by decide +kernel) rfl) ?_
  refine ev_go (ev_w_stat (M := ev_Mlaw) (pc := 1778) (y := 210) (kind := 8) (Or.inr (Or.inr rfl)) (mi := 387) (na := 2) (by decide +kernel) (by decide +kernel) (by decide +kernel) (by decide +kernel) rfl rfl ev_k57) ?_
  refine ev_go0 (ev_w_istore (M := ev_Mlaw) (pc := 1781) (k := 5) (lv' := [(5, .int (1)), (4, .int (0)), (3, .ref 723), (2, .ref 621), (1, .ref 0), (0, .retAddr 0)]) (by decide +kernel) (by decide +kernel) rfl) ?_
  refine ev_go0 (ev_one_pure (M := ev_Mlaw) (pc := 1783) (i := .aload_n 2) (len := 1) (pc' := 1784) (lv' := [(5, .int (1)), (4, .int (0)), (3, .ref 723), (2, .ref 621), (1, .ref 0), (0, .retAddr 0)]) (st' := [.ref 621]) (by decide +kernel) rfl) ?_
  refine ev_go0 (ev_p_virt (M := ev_Mlaw) (pc := 1784) (x := 212) (mi := 355) (na := 0) (by decide +kernel) (by decide +kernel) (by decide +kernel) (by decide +kernel) rfl rfl (ev_recv_of ev_fH621) ev_k58) ?_
  refine ev_go0 (ev_w_istore (M := ev_Mlaw) (pc := 1787) (k := 6) (lv' := [(6, .int (0)), (5, .int (1)), (4, .int (0)), (3, .ref 723), (2, .ref 621), (1, .ref 0), (0, .retAddr 0)]) (by decide +kernel) (by decide +kernel) rfl) ?_
  refine ev_go0 (ev_one_pure (M := ev_Mlaw) (pc := 1789) (i := .aload_n 2) (len := 1) (pc' := 1790) (lv' := [(6, .int (0)), (5, .int (1)), (4, .int (0)), (3, .ref 723), (2, .ref 621), (1, .ref 0), (0, .retAddr 0)]) (st' := [.ref 621]) (by decide +kernel) rfl) ?_
  refine ev_go0 (ev_p_virt (M := ev_Mlaw) (pc := 1790) (x := 131) (mi := 220) (na := 0) (by decide +kernel) (by decide +kernel) (by decide +kernel) (by decide +kernel) rfl rfl (ev_recv_of (ev_hself ev_fH621)) ev_k26) ?_
  refine ev_go0 (ev_one_pure (M := ev_Mlaw) (pc := 1793) (i := .iload 5) (len := 2) (pc' := 1795) (lv' := [(6, .int (0)), (5, .int (1)), (4, .int (0)), (3, .ref 723), (2, .ref 621), (1, .ref 0), (0, .retAddr 0)]) (st' := [.int (1), .int (1)]) (by decide +kernel) rfl) ?_
  refine ev_go0 (ev_w_icmp (M := ev_Mlaw) (pc := 1795) (q := .eq) (o := 5) (b := true) (t := 1800) (by decide +kernel) (by decide +kernel) rfl) ?_
  refine ev_go0 (ev_one_pure (M := ev_Mlaw) (pc := 1800) (i := .iload 5) (len := 2) (pc' := 1802) (lv' := [(6, .int (0)), (5, .int (1)), (4, .int (0)), (3, .ref 723), (2, .ref 621), (1, .ref 0), (0, .retAddr 0)]) (st' := [.int (1)]) (by decide +kernel) rfl) ?_
  refine ev_go0 (ev_w_if (M := ev_Mlaw) (pc := 1802) (q := .ne) (o := 15) (b := true) (t := 1817) (by decide +kernel) (by decide +kernel) rfl) ?_
  refine ev_go0 (ev_one_pure (M := ev_Mlaw) (pc := 1817) (i := .goto 455) (len := 3) (pc' := 2272) (lv' := [(6, .int (0)), (5, .int (1)), (4, .int (0)), (3, .ref 723), (2, .ref 621), (1, .ref 0), (0, .retAddr 0)]) (st' := []) (by decide +kernel) rfl) ?_
  rfl
theorem ev_p1arm24 (xs : Nat → Int32) : ev_P1 xs 1776 := by
  exact ev_p1_24_a xs
theorem ev_k59 {n : Nat} : ev_calld 11 191 [.ref 0] ev_H0 n = some (.inr "java/lang/IllegalStateException", ev_H0, n, 1, 6) := by
  refine ev_call_thrown (k := 8) (pcR := 20) (x := 109) (lv' := [(0, .ref 0)]) (by decide +kernel) rfl ?_ (by decide +kernel) (by decide +kernel) (by decide +kernel) (by decide) (by decide)
  show ev_stepn _ 8 (0, [(0, .ref 0)], [], _, _, 0, 0) = _
  refine ev_go0 (ev_one_pure (M := (ev_Mof 191)) (pc := 0) (i := .aload_n 0) (len := 1) (pc' := 1) (lv' := [(0, .ref 0)]) (st' := [.ref 0]) (by decide +kernel) rfl) ?_
  refine ev_go0 (ev_p_getf (M := (ev_Mof 191)) (pc := 1) (x := 48) (ci := 12) (f := 8) (fin := 1) (v := .ref 254) (by decide +kernel) (by decide +kernel) ev_fH0 rfl) ?_
  refine ev_go0 (ev_p_getf (M := (ev_Mof 191)) (pc := 4) (x := 311) (ci := 0) (f := 14) (fin := 0) (v := .int (0)) (by decide +kernel) (by decide +kernel) ev_fH254 rfl) ?_
  refine ev_go0 (ev_w_if (M := (ev_Mof 191)) (pc := 7) (q := .ne) (o := 13) (b := false) (t := 10) (by decide +kernel) (by decide +kernel) rfl) ?_
  refine ev_go0 (ev_one_pure (M := (ev_Mof 191)) (pc := 10) (i := .aload_n 0) (len := 1) (pc' := 11) (lv' := [(0, .ref 0)]) (st' := [.ref 0]) (by decide +kernel) rfl) ?_
  refine ev_go0 (ev_p_getf (M := (ev_Mof 191)) (pc := 11) (x := 48) (ci := 12) (f := 8) (fin := 1) (v := .ref 254) (by decide +kernel) (by decide +kernel) ev_fH0 rfl) ?_
  refine ev_go0 (ev_p_getf (M := (ev_Mof 191)) (pc := 14) (x := 316) (ci := 0) (f := 12) (fin := 0) (v := .int (0)) (by decide +kernel) (by decide +kernel) ev_fH254 rfl) ?_
  refine ev_go0 (ev_w_if (M := (ev_Mof 191)) (pc := 17) (q := .ne) (o := 14) (b := false) (t := 20) (by decide +kernel) (by decide +kernel) rfl) ?_
  rfl
theorem ev_k60 {n : Nat} : ev_calld 12 388 [.ref 0, .ref 723] ev_H0 n = some (.inl (some (.int (1))), ev_H0, n, 1, 6) := by
  refine ev_call_int (k := 6) (pcR := 13) (lv' := [(2, .retAddr 1), (0, .ref 0), (1, .ref 723)]) (v := (1)) (ty := .int) (by decide +kernel) rfl ?_ (by decide +kernel) (by decide +kernel) (by decide +kernel) (by decide)
  show ev_stepn _ 6 (0, [(0, .ref 0), (1, .ref 723)], [], _, _, 0, 0) = _
  refine ev_go0 (ev_one_pure (M := (ev_Mof 388)) (pc := 0) (i := .aload_n 1) (len := 1) (pc' := 1) (lv' := [(0, .ref 0), (1, .ref 723)]) (st' := [.ref 723]) (by decide +kernel) rfl) ?_
  refine ev_go0 (ev_w_iconst (M := (ev_Mof 388)) (pc := 1) (k := 0) (v := 0) (by decide +kernel) (by decide +kernel)) ?_
  refine ev_go0 (ev_one_pure (M := (ev_Mof 388)) (pc := 2) (i := .aload_n 0) (len := 1) (pc' := 3) (lv' := [(0, .ref 0), (1, .ref 723)]) (st' := [.ref 0, .int (0), .ref 723]) (by decide +kernel) rfl) ?_
  refine ev_go (ev_p_virtX (M := (ev_Mof 388)) (pc := 3) (x := 96) (t := 11) (mi := 191) (na := 0) (by decide +kernel) (by decide +kernel) (by decide +kernel) (by decide +kernel) rfl rfl (ev_recv_of ev_fH0) ev_k59 (by decide +kernel)) ?_
  refine ev_go0 (ev_w_astore_n (M := (ev_Mof 388)) (pc := 11) (k := 2) (lv' := [(2, .retAddr 1), (0, .ref 0), (1, .ref 723)]) (by decide +kernel) (by decide +kernel) (Or.inr (Or.inr ⟨_, rfl⟩)) rfl) ?_
  refine ev_go0 (ev_w_iconst (M := (ev_Mof 388)) (pc := 12) (k := 1) (v := 1) (by decide +kernel) (by decide +kernel)) ?_
  rfl
theorem ev_k61 {n : Nat} : ev_calld 12 357 [.ref 621] ev_H0 n = some (.inl (some (.int (0))), (ev_H0.set 621 (.inr (13, (ev_F621.set 0 (.int (1)))))), n, 0, 0) := by
  refine ev_call_int (k := 14) (pcR := 31) (lv' := [(0, .ref 621)]) (v := (0)) (ty := .int) (by decide +kernel) rfl ?_ (by decide +kernel) (by decide +kernel) (by decide +kernel) (by decide)
  show ev_stepn _ 14 (0, [(0, .ref 621)], [], _, _, 0, 0) = _
  refine ev_go0 (ev_one_pure (M := (ev_Mof 357)) (pc := 0) (i := .aload_n 0) (len := 1) (pc' := 1) (lv' := [(0, .ref 621)]) (st' := [.ref 621]) (by decide +kernel) rfl) ?_
  refine ev_go0 (ev_one_pure (M := (ev_Mof 357)) (pc := 1) (i := .aload_n 0) (len := 1) (pc' := 2) (lv' := [(0, .ref 621)]) (st' := [.ref 621, .ref 621]) (by decide +kernel) rfl) ?_
  refine ev_go0 (ev_p_getf (M := (ev_Mof 357)) (pc := 2) (x := 783) (ci := 13) (f := 132) (fin := 0) (v := .int (0)) (by decide +kernel) (by decide +kernel) ev_fH621 rfl) ?_
  refine ev_go0 (ev_w_if (M := (ev_Mof 357)) (pc := 5) (q := .ne) (o := 10) (b := false) (t := 8) (by decide +kernel) (by decide +kernel) rfl) ?_
  refine ev_go0 (ev_one_pure (M := (ev_Mof 357)) (pc := 8) (i := .aload_n 0) (len := 1) (pc' := 9) (lv' := [(0, .ref 621)]) (st' := [.ref 621, .ref 621]) (by decide +kernel) rfl) ?_
  refine ev_go0 (ev_p_getf (M := (ev_Mof 357)) (pc := 9) (x := 766) (ci := 13) (f := 130) (fin := 0) (v := .int (0)) (by decide +kernel) (by decide +kernel) ev_fH621 rfl) ?_
  refine ev_go0 (ev_w_if (M := (ev_Mof 357)) (pc := 12) (q := .ne) (o := 7) (b := false) (t := 15) (by decide +kernel) (by decide +kernel) rfl) ?_
  refine ev_go0 (ev_w_iconst (M := (ev_Mof 357)) (pc := 15) (k := 1) (v := 1) (by decide +kernel) (by decide +kernel)) ?_
  refine ev_go0 (ev_one_pure (M := (ev_Mof 357)) (pc := 16) (i := .goto 4) (len := 3) (pc' := 20) (lv' := [(0, .ref 621)]) (st' := [.int (1), .ref 621]) (by decide +kernel) rfl) ?_
  refine ev_go0 (ev_p_putf (M := (ev_Mof 357)) (pc := 20) (x := 321) (ci := 13) (f := 0) (by decide +kernel) (by decide +kernel) ev_fH621 rfl (by decide +kernel)) ?_
  refine ev_go0 (ev_one_pure (M := (ev_Mof 357)) (pc := 23) (i := .aload_n 0) (len := 1) (pc' := 24) (lv' := [(0, .ref 621)]) (st' := [.ref 621]) (by decide +kernel) rfl) ?_
  refine ev_go0 (ev_p_getf (M := (ev_Mof 357)) (pc := 24) (x := 321) (ci := 13) (f := 0) (fin := 0) (v := .int (1)) (by decide +kernel) (by decide +kernel) (ev_hself ev_fH621) rfl) ?_
  refine ev_go0 (ev_w_if (M := (ev_Mof 357)) (pc := 27) (q := .le) (o := 5) (b := false) (t := 30) (by decide +kernel) (by decide +kernel) rfl) ?_
  refine ev_go0 (ev_w_iconst (M := (ev_Mof 357)) (pc := 30) (k := 0) (v := 0) (by decide +kernel) (by decide +kernel)) ?_
  rfl
theorem ev_p1_25_a (xs : Nat → Int32) : ev_P1 xs 1820 := by
  refine ⟨14, [(6, .int (0)), (5, .int (1)), (4, .int (0)), (3, .ref 723), (2, .ref 621), (1, .ref 0), (0, .retAddr 0)], (ev_H0.set 621 (.inr (13, (ev_F621.set 0 (.int (1)))))), 724, 725, 3553592, ?_, ⟨rfl, rfl, rfl, rfl⟩, rfl, by decide, by decide⟩
  show ev_stepn _ _ (1820, [(4, .int (0)), (3, .ref 723), (2, .ref 621), (1, .ref 0), (0, .retAddr 0)], [], _, _, _, _) = _
  refine ev_go0 (ev_one_pure (M := ev_Mlaw) (pc := 1820) (i := .aload_n 1) (len := 1) (pc' := 1821) (lv' := [(4, .int (0)), (3, .ref 723), (2, .ref 621), (1, .ref 0), (0, .retAddr 0)]) (st' := [.ref 0]) (by decide +kernel) rfl) ?_
  refine ev_go0 (ev_one_pure (M := ev_Mlaw) (pc := 1821) (i := .aload_n 3) (len := 1) (pc' := 1822) (lv' := [(4, .int (0)), (3, .ref 723), (2, .ref 621), (1, .ref 0), (0, .retAddr 0)]) (st' := [.ref 723, .ref 0]) (by decide +kernel) rfl) ?_
  refine ev_go (ev_w_stat (M := ev_Mlaw) (pc := 1822) (y := 213) (kind := 8) (Or.inr (Or.inr rfl)) (mi := 388) (na := 2) (by decide +kernel) (by decide +kernel) (by decide +kernel) (by decide +kernel) rfl rfl ev_k60) ?_
  refine ev_go0 (ev_w_istore (M := ev_Mlaw) (pc := 1825) (k := 5) (lv' := [(5, .int (1)), (4, .int (0)), (3, .ref 723), (2, .ref 621), (1, .ref 0), (0, .retAddr 0)]) (by decide +kernel) (by decide +kernel) rfl) ?_
  refine ev_go0 (ev_one_pure (M := ev_Mlaw) (pc := 1827) (i := .aload_n 2) (len := 1) (pc' := 1828) (lv' := [(5, .int (1)), (4, .int (0)), (3, .ref 723), (2, .ref 621), (1, .ref 0), (0, .retAddr 0)]) (st' := [.ref 621]) (by decide +kernel) rfl) ?_
  refine ev_go0 (ev_p_virt (M := ev_Mlaw) (pc := 1828) (x := 215) (mi := 357) (na := 0) (by decide +kernel) (by decide +kernel) (by decide +kernel) (by decide +kernel) rfl rfl (ev_recv_of ev_fH621) ev_k61) ?_
  refine ev_go0 (ev_w_istore (M := ev_Mlaw) (pc := 1831) (k := 6) (lv' := [(6, .int (0)), (5, .int (1)), (4, .int (0)), (3, .ref 723), (2, .ref 621), (1, .ref 0), (0, .retAddr 0)]) (by decide +kernel) (by decide +kernel) rfl) ?_
  refine ev_go0 (ev_one_pure (M := ev_Mlaw) (pc := 1833) (i := .aload_n 2) (len := 1) (pc' := 1834) (lv' := [(6, .int (0)), (5, .int (1)), (4, .int (0)), (3, .ref 723), (2, .ref 621), (1, .ref 0), (0, .retAddr 0)]) (st' := [.ref 621]) (by decide +kernel) rfl) ?_
  refine ev_go0 (ev_p_virt (M := ev_Mlaw) (pc := 1834) (x := 131) (mi := 220) (na := 0) (by decide +kernel) (by decide +kernel) (by decide +kernel) (by decide +kernel) rfl rfl (ev_recv_of (ev_hself ev_fH621)) ev_k26) ?_
  refine ev_go0 (ev_one_pure (M := ev_Mlaw) (pc := 1837) (i := .iload 5) (len := 2) (pc' := 1839) (lv' := [(6, .int (0)), (5, .int (1)), (4, .int (0)), (3, .ref 723), (2, .ref 621), (1, .ref 0), (0, .retAddr 0)]) (st' := [.int (1), .int (1)]) (by decide +kernel) rfl) ?_
  refine ev_go0 (ev_w_icmp (M := ev_Mlaw) (pc := 1839) (q := .eq) (o := 5) (b := true) (t := 1844) (by decide +kernel) (by decide +kernel) rfl) ?_
  refine ev_go0 (ev_one_pure (M := ev_Mlaw) (pc := 1844) (i := .iload 5) (len := 2) (pc' := 1846) (lv' := [(6, .int (0)), (5, .int (1)), (4, .int (0)), (3, .ref 723), (2, .ref 621), (1, .ref 0), (0, .retAddr 0)]) (st' := [.int (1)]) (by decide +kernel) rfl) ?_
  refine ev_go0 (ev_w_if (M := ev_Mlaw) (pc := 1846) (q := .ne) (o := 15) (b := true) (t := 1861) (by decide +kernel) (by decide +kernel) rfl) ?_
  refine ev_go0 (ev_one_pure (M := ev_Mlaw) (pc := 1861) (i := .goto 411) (len := 3) (pc' := 2272) (lv' := [(6, .int (0)), (5, .int (1)), (4, .int (0)), (3, .ref 723), (2, .ref 621), (1, .ref 0), (0, .retAddr 0)]) (st' := []) (by decide +kernel) rfl) ?_
  rfl
theorem ev_p1arm25 (xs : Nat → Int32) : ev_P1 xs 1820 := by
  exact ev_p1_25_a xs
theorem ev_k62 {n : Nat} : ev_calld 11 192 [.ref 0] ev_H0 n = some (.inr "java/lang/IllegalStateException", ev_H0, n, 1, 6) := by
  refine ev_call_thrown (k := 11) (pcR := 27) (x := 109) (lv' := [(0, .ref 0)]) (by decide +kernel) rfl ?_ (by decide +kernel) (by decide +kernel) (by decide +kernel) (by decide) (by decide)
  show ev_stepn _ 11 (0, [(0, .ref 0)], [], _, _, 0, 0) = _
  refine ev_go0 (ev_one_pure (M := (ev_Mof 192)) (pc := 0) (i := .aload_n 0) (len := 1) (pc' := 1) (lv' := [(0, .ref 0)]) (st' := [.ref 0]) (by decide +kernel) rfl) ?_
  refine ev_go0 (ev_p_getf (M := (ev_Mof 192)) (pc := 1) (x := 48) (ci := 12) (f := 8) (fin := 1) (v := .ref 254) (by decide +kernel) (by decide +kernel) ev_fH0 rfl) ?_
  refine ev_go0 (ev_p_getf (M := (ev_Mof 192)) (pc := 4) (x := 311) (ci := 0) (f := 14) (fin := 0) (v := .int (0)) (by decide +kernel) (by decide +kernel) ev_fH254 rfl) ?_
  refine ev_go0 (ev_w_if (M := (ev_Mof 192)) (pc := 7) (q := .ne) (o := 20) (b := false) (t := 10) (by decide +kernel) (by decide +kernel) rfl) ?_
  refine ev_go0 (ev_one_pure (M := (ev_Mof 192)) (pc := 10) (i := .aload_n 0) (len := 1) (pc' := 11) (lv' := [(0, .ref 0)]) (st' := [.ref 0]) (by decide +kernel) rfl) ?_
  refine ev_go0 (ev_p_getf (M := (ev_Mof 192)) (pc := 11) (x := 48) (ci := 12) (f := 8) (fin := 1) (v := .ref 254) (by decide +kernel) (by decide +kernel) ev_fH0 rfl) ?_
  refine ev_go0 (ev_p_getf (M := (ev_Mof 192)) (pc := 14) (x := 316) (ci := 0) (f := 12) (fin := 0) (v := .int (0)) (by decide +kernel) (by decide +kernel) ev_fH254 rfl) ?_
  refine ev_go0 (ev_one_pure (M := (ev_Mof 192)) (pc := 17) (i := .aload_n 0) (len := 1) (pc' := 18) (lv' := [(0, .ref 0)]) (st' := [.ref 0, .int (0)]) (by decide +kernel) rfl) ?_
  refine ev_go0 (ev_p_getf (M := (ev_Mof 192)) (pc := 18) (x := 48) (ci := 12) (f := 8) (fin := 1) (v := .ref 254) (by decide +kernel) (by decide +kernel) ev_fH0 rfl) ?_
  refine ev_go0 (ev_p_getf (M := (ev_Mof 192)) (pc := 21) (x := 326) (ci := 0) (f := 13) (fin := 0) (v := .int (0)) (by decide +kernel) (by decide +kernel) ev_fH254 rfl) ?_
  refine ev_go0 (ev_w_icmp (M := (ev_Mof 192)) (pc := 24) (q := .lt) (o := 14) (b := false) (t := 27) (by decide +kernel) (by decide +kernel) rfl) ?_
  rfl
theorem ev_k63 {n : Nat} : ev_calld 12 389 [.ref 0, .ref 723] ev_H0 n = some (.inl (some (.int (1))), ev_H0, n, 1, 6) := by
  refine ev_call_int (k := 6) (pcR := 13) (lv' := [(2, .retAddr 1), (0, .ref 0), (1, .ref 723)]) (v := (1)) (ty := .int) (by decide +kernel) rfl ?_ (by decide +kernel) (by decide +kernel) (by decide +kernel) (by decide)
  show ev_stepn _ 6 (0, [(0, .ref 0), (1, .ref 723)], [], _, _, 0, 0) = _
  refine ev_go0 (ev_one_pure (M := (ev_Mof 389)) (pc := 0) (i := .aload_n 1) (len := 1) (pc' := 1) (lv' := [(0, .ref 0), (1, .ref 723)]) (st' := [.ref 723]) (by decide +kernel) rfl) ?_
  refine ev_go0 (ev_w_iconst (M := (ev_Mof 389)) (pc := 1) (k := 0) (v := 0) (by decide +kernel) (by decide +kernel)) ?_
  refine ev_go0 (ev_one_pure (M := (ev_Mof 389)) (pc := 2) (i := .aload_n 0) (len := 1) (pc' := 3) (lv' := [(0, .ref 0), (1, .ref 723)]) (st' := [.ref 0, .int (0), .ref 723]) (by decide +kernel) rfl) ?_
  refine ev_go (ev_p_virtX (M := (ev_Mof 389)) (pc := 3) (x := 99) (t := 11) (mi := 192) (na := 0) (by decide +kernel) (by decide +kernel) (by decide +kernel) (by decide +kernel) rfl rfl (ev_recv_of ev_fH0) ev_k62 (by decide +kernel)) ?_
  refine ev_go0 (ev_w_astore_n (M := (ev_Mof 389)) (pc := 11) (k := 2) (lv' := [(2, .retAddr 1), (0, .ref 0), (1, .ref 723)]) (by decide +kernel) (by decide +kernel) (Or.inr (Or.inr ⟨_, rfl⟩)) rfl) ?_
  refine ev_go0 (ev_w_iconst (M := (ev_Mof 389)) (pc := 12) (k := 1) (v := 1) (by decide +kernel) (by decide +kernel)) ?_
  rfl
theorem ev_k64 {n : Nat} : ev_calld 12 358 [.ref 621] ev_H0 n = some (.inl (some (.int (0))), (ev_H0.set 621 (.inr (13, (ev_F621.set 0 (.int (1)))))), n, 0, 0) := by
  refine ev_call_int (k := 16) (pcR := 35) (lv' := [(0, .ref 621)]) (v := (0)) (ty := .int) (by decide +kernel) rfl ?_ (by decide +kernel) (by decide +kernel) (by decide +kernel) (by decide)
  show ev_stepn _ 16 (0, [(0, .ref 621)], [], _, _, 0, 0) = _
  refine ev_go0 (ev_one_pure (M := (ev_Mof 358)) (pc := 0) (i := .aload_n 0) (len := 1) (pc' := 1) (lv' := [(0, .ref 621)]) (st' := [.ref 621]) (by decide +kernel) rfl) ?_
  refine ev_go0 (ev_one_pure (M := (ev_Mof 358)) (pc := 1) (i := .aload_n 0) (len := 1) (pc' := 2) (lv' := [(0, .ref 621)]) (st' := [.ref 621, .ref 621]) (by decide +kernel) rfl) ?_
  refine ev_go0 (ev_p_getf (M := (ev_Mof 358)) (pc := 2) (x := 783) (ci := 13) (f := 132) (fin := 0) (v := .int (0)) (by decide +kernel) (by decide +kernel) ev_fH621 rfl) ?_
  refine ev_go0 (ev_w_if (M := (ev_Mof 358)) (pc := 5) (q := .ne) (o := 14) (b := false) (t := 8) (by decide +kernel) (by decide +kernel) rfl) ?_
  refine ev_go0 (ev_one_pure (M := (ev_Mof 358)) (pc := 8) (i := .aload_n 0) (len := 1) (pc' := 9) (lv' := [(0, .ref 621)]) (st' := [.ref 621, .ref 621]) (by decide +kernel) rfl) ?_
  refine ev_go0 (ev_p_getf (M := (ev_Mof 358)) (pc := 9) (x := 766) (ci := 13) (f := 130) (fin := 0) (v := .int (0)) (by decide +kernel) (by decide +kernel) ev_fH621 rfl) ?_
  refine ev_go0 (ev_one_pure (M := (ev_Mof 358)) (pc := 12) (i := .aload_n 0) (len := 1) (pc' := 13) (lv' := [(0, .ref 621)]) (st' := [.ref 621, .int (0), .ref 621]) (by decide +kernel) rfl) ?_
  refine ev_go0 (ev_p_getf (M := (ev_Mof 358)) (pc := 13) (x := 763) (ci := 13) (f := 131) (fin := 0) (v := .int (0)) (by decide +kernel) (by decide +kernel) ev_fH621 rfl) ?_
  refine ev_go0 (ev_w_icmp (M := (ev_Mof 358)) (pc := 16) (q := .ne) (o := 7) (b := false) (t := 19) (by decide +kernel) (by decide +kernel) rfl) ?_
  refine ev_go0 (ev_w_iconst (M := (ev_Mof 358)) (pc := 19) (k := 1) (v := 1) (by decide +kernel) (by decide +kernel)) ?_
  refine ev_go0 (ev_one_pure (M := (ev_Mof 358)) (pc := 20) (i := .goto 4) (len := 3) (pc' := 24) (lv' := [(0, .ref 621)]) (st' := [.int (1), .ref 621]) (by decide +kernel) rfl) ?_
  refine ev_go0 (ev_p_putf (M := (ev_Mof 358)) (pc := 24) (x := 321) (ci := 13) (f := 0) (by decide +kernel) (by decide +kernel) ev_fH621 rfl (by decide +kernel)) ?_
  refine ev_go0 (ev_one_pure (M := (ev_Mof 358)) (pc := 27) (i := .aload_n 0) (len := 1) (pc' := 28) (lv' := [(0, .ref 621)]) (st' := [.ref 621]) (by decide +kernel) rfl) ?_
  refine ev_go0 (ev_p_getf (M := (ev_Mof 358)) (pc := 28) (x := 321) (ci := 13) (f := 0) (fin := 0) (v := .int (1)) (by decide +kernel) (by decide +kernel) (ev_hself ev_fH621) rfl) ?_
  refine ev_go0 (ev_w_if (M := (ev_Mof 358)) (pc := 31) (q := .le) (o := 5) (b := false) (t := 34) (by decide +kernel) (by decide +kernel) rfl) ?_
  refine ev_go0 (ev_w_iconst (M := (ev_Mof 358)) (pc := 34) (k := 0) (v := 0) (by decide +kernel) (by decide +kernel)) ?_
  rfl
theorem ev_p1_26_a (xs : Nat → Int32) : ev_P1 xs 1864 := by
  refine ⟨14, [(6, .int (0)), (5, .int (1)), (4, .int (0)), (3, .ref 723), (2, .ref 621), (1, .ref 0), (0, .retAddr 0)], (ev_H0.set 621 (.inr (13, (ev_F621.set 0 (.int (1)))))), 724, 725, 3553592, ?_, ⟨rfl, rfl, rfl, rfl⟩, rfl, by decide, by decide⟩
  show ev_stepn _ _ (1864, [(4, .int (0)), (3, .ref 723), (2, .ref 621), (1, .ref 0), (0, .retAddr 0)], [], _, _, _, _) = _
  refine ev_go0 (ev_one_pure (M := ev_Mlaw) (pc := 1864) (i := .aload_n 1) (len := 1) (pc' := 1865) (lv' := [(4, .int (0)), (3, .ref 723), (2, .ref 621), (1, .ref 0), (0, .retAddr 0)]) (st' := [.ref 0]) (by decide +kernel) rfl) ?_
  refine ev_go0 (ev_one_pure (M := ev_Mlaw) (pc := 1865) (i := .aload_n 3) (len := 1) (pc' := 1866) (lv' := [(4, .int (0)), (3, .ref 723), (2, .ref 621), (1, .ref 0), (0, .retAddr 0)]) (st' := [.ref 723, .ref 0]) (by decide +kernel) rfl) ?_
  refine ev_go (ev_w_stat (M := ev_Mlaw) (pc := 1866) (y := 216) (kind := 8) (Or.inr (Or.inr rfl)) (mi := 389) (na := 2) (by decide +kernel) (by decide +kernel) (by decide +kernel) (by decide +kernel) rfl rfl ev_k63) ?_
  refine ev_go0 (ev_w_istore (M := ev_Mlaw) (pc := 1869) (k := 5) (lv' := [(5, .int (1)), (4, .int (0)), (3, .ref 723), (2, .ref 621), (1, .ref 0), (0, .retAddr 0)]) (by decide +kernel) (by decide +kernel) rfl) ?_
  refine ev_go0 (ev_one_pure (M := ev_Mlaw) (pc := 1871) (i := .aload_n 2) (len := 1) (pc' := 1872) (lv' := [(5, .int (1)), (4, .int (0)), (3, .ref 723), (2, .ref 621), (1, .ref 0), (0, .retAddr 0)]) (st' := [.ref 621]) (by decide +kernel) rfl) ?_
  refine ev_go0 (ev_p_virt (M := ev_Mlaw) (pc := 1872) (x := 218) (mi := 358) (na := 0) (by decide +kernel) (by decide +kernel) (by decide +kernel) (by decide +kernel) rfl rfl (ev_recv_of ev_fH621) ev_k64) ?_
  refine ev_go0 (ev_w_istore (M := ev_Mlaw) (pc := 1875) (k := 6) (lv' := [(6, .int (0)), (5, .int (1)), (4, .int (0)), (3, .ref 723), (2, .ref 621), (1, .ref 0), (0, .retAddr 0)]) (by decide +kernel) (by decide +kernel) rfl) ?_
  refine ev_go0 (ev_one_pure (M := ev_Mlaw) (pc := 1877) (i := .aload_n 2) (len := 1) (pc' := 1878) (lv' := [(6, .int (0)), (5, .int (1)), (4, .int (0)), (3, .ref 723), (2, .ref 621), (1, .ref 0), (0, .retAddr 0)]) (st' := [.ref 621]) (by decide +kernel) rfl) ?_
  refine ev_go0 (ev_p_virt (M := ev_Mlaw) (pc := 1878) (x := 131) (mi := 220) (na := 0) (by decide +kernel) (by decide +kernel) (by decide +kernel) (by decide +kernel) rfl rfl (ev_recv_of (ev_hself ev_fH621)) ev_k26) ?_
  refine ev_go0 (ev_one_pure (M := ev_Mlaw) (pc := 1881) (i := .iload 5) (len := 2) (pc' := 1883) (lv' := [(6, .int (0)), (5, .int (1)), (4, .int (0)), (3, .ref 723), (2, .ref 621), (1, .ref 0), (0, .retAddr 0)]) (st' := [.int (1), .int (1)]) (by decide +kernel) rfl) ?_
  refine ev_go0 (ev_w_icmp (M := ev_Mlaw) (pc := 1883) (q := .eq) (o := 5) (b := true) (t := 1888) (by decide +kernel) (by decide +kernel) rfl) ?_
  refine ev_go0 (ev_one_pure (M := ev_Mlaw) (pc := 1888) (i := .iload 5) (len := 2) (pc' := 1890) (lv' := [(6, .int (0)), (5, .int (1)), (4, .int (0)), (3, .ref 723), (2, .ref 621), (1, .ref 0), (0, .retAddr 0)]) (st' := [.int (1)]) (by decide +kernel) rfl) ?_
  refine ev_go0 (ev_w_if (M := ev_Mlaw) (pc := 1890) (q := .ne) (o := 15) (b := true) (t := 1905) (by decide +kernel) (by decide +kernel) rfl) ?_
  refine ev_go0 (ev_one_pure (M := ev_Mlaw) (pc := 1905) (i := .goto 367) (len := 3) (pc' := 2272) (lv' := [(6, .int (0)), (5, .int (1)), (4, .int (0)), (3, .ref 723), (2, .ref 621), (1, .ref 0), (0, .retAddr 0)]) (st' := []) (by decide +kernel) rfl) ?_
  rfl
theorem ev_p1arm26 (xs : Nat → Int32) : ev_P1 xs 1864 := by
  exact ev_p1_26_a xs
theorem ev_k65 {n : Nat} : ev_calld 11 193 [.ref 0] ev_H0 n = some (.inl (some (.int (-1))), (ev_H0.set 0 (.inr (12, (ev_F0.set 16 (.int (1)))))), n, 0, 0) := by
  refine ev_call_int (k := 15) (pcR := 44) (lv' := [(0, .ref 0)]) (v := (-1)) (ty := .int) (by decide +kernel) rfl ?_ (by decide +kernel) (by decide +kernel) (by decide +kernel) (by decide)
  show ev_stepn _ 15 (0, [(0, .ref 0)], [], _, _, 0, 0) = _
  refine ev_go0 (ev_one_pure (M := (ev_Mof 193)) (pc := 0) (i := .aload_n 0) (len := 1) (pc' := 1) (lv' := [(0, .ref 0)]) (st' := [.ref 0]) (by decide +kernel) rfl) ?_
  refine ev_go0 (ev_p_getf (M := (ev_Mof 193)) (pc := 1) (x := 273) (ci := 12) (f := 15) (fin := 0) (v := .int (0)) (by decide +kernel) (by decide +kernel) ev_fH0 rfl) ?_
  refine ev_go0 (ev_w_bipush (M := (ev_Mof 193)) (pc := 4) (k := 6) (v := 6) (by decide +kernel) (by decide +kernel)) ?_
  refine ev_go0 (ev_w_icmp (M := (ev_Mof 193)) (pc := 6) (q := .lt) (o := 14) (b := true) (t := 20) (by decide +kernel) (by decide +kernel) rfl) ?_
  refine ev_go0 (ev_one_pure (M := (ev_Mof 193)) (pc := 20) (i := .aload_n 0) (len := 1) (pc' := 21) (lv' := [(0, .ref 0)]) (st' := [.ref 0]) (by decide +kernel) rfl) ?_
  refine ev_go0 (ev_one_pure (M := (ev_Mof 193)) (pc := 21) (i := .aload_n 0) (len := 1) (pc' := 22) (lv' := [(0, .ref 0)]) (st' := [.ref 0, .ref 0]) (by decide +kernel) rfl) ?_
  refine ev_go0 (ev_p_getf (M := (ev_Mof 193)) (pc := 22) (x := 270) (ci := 12) (f := 16) (fin := 0) (v := .int (0)) (by decide +kernel) (by decide +kernel) ev_fH0 rfl) ?_
  refine ev_go0 (ev_w_if (M := (ev_Mof 193)) (pc := 25) (q := .ne) (o := 7) (b := false) (t := 28) (by decide +kernel) (by decide +kernel) rfl) ?_
  refine ev_go0 (ev_w_iconst (M := (ev_Mof 193)) (pc := 28) (k := 1) (v := 1) (by decide +kernel) (by decide +kernel)) ?_
  refine ev_go0 (ev_one_pure (M := (ev_Mof 193)) (pc := 29) (i := .goto 4) (len := 3) (pc' := 33) (lv' := [(0, .ref 0)]) (st' := [.int (1), .ref 0]) (by decide +kernel) rfl) ?_
  refine ev_go0 (ev_p_putf (M := (ev_Mof 193)) (pc := 33) (x := 270) (ci := 12) (f := 16) (by decide +kernel) (by decide +kernel) ev_fH0 rfl (by decide +kernel)) ?_
  refine ev_go0 (ev_one_pure (M := (ev_Mof 193)) (pc := 36) (i := .aload_n 0) (len := 1) (pc' := 37) (lv' := [(0, .ref 0)]) (st' := [.ref 0]) (by decide +kernel) rfl) ?_
  refine ev_go0 (ev_p_getf (M := (ev_Mof 193)) (pc := 37) (x := 270) (ci := 12) (f := 16) (fin := 0) (v := .int (1)) (by decide +kernel) (by decide +kernel) (ev_hself ev_fH0) rfl) ?_
  refine ev_go0 (ev_w_if (M := (ev_Mof 193)) (pc := 40) (q := .eq) (o := 5) (b := false) (t := 43) (by decide +kernel) (by decide +kernel) rfl) ?_
  refine ev_go0 (ev_w_iconst (M := (ev_Mof 193)) (pc := 43) (k := -1) (v := -1) (by decide +kernel) (by decide +kernel)) ?_
  rfl
theorem ev_k66 {n : Nat} : ev_calld 12 390 [.ref 0, .ref 723] ev_H0 n = some (.inl (some (.int (0))), ((ev_H0.set 0 (.inr (12, (ev_F0.set 16 (.int (1)))))).set 723 (.inl (.long, 1, ((0, .long (-1)) :: [])))), n, 0, 0) := by
  refine ev_call_int (k := 8) (pcR := 15) (lv' := [(0, .ref 0), (1, .ref 723)]) (v := (0)) (ty := .int) (by decide +kernel) rfl ?_ (by decide +kernel) (by decide +kernel) (by decide +kernel) (by decide)
  show ev_stepn _ 8 (0, [(0, .ref 0), (1, .ref 723)], [], _, _, 0, 0) = _
  refine ev_go0 (ev_one_pure (M := (ev_Mof 390)) (pc := 0) (i := .aload_n 1) (len := 1) (pc' := 1) (lv' := [(0, .ref 0), (1, .ref 723)]) (st' := [.ref 723]) (by decide +kernel) rfl) ?_
  refine ev_go0 (ev_w_iconst (M := (ev_Mof 390)) (pc := 1) (k := 0) (v := 0) (by decide +kernel) (by decide +kernel)) ?_
  refine ev_go0 (ev_one_pure (M := (ev_Mof 390)) (pc := 2) (i := .aload_n 0) (len := 1) (pc' := 3) (lv' := [(0, .ref 0), (1, .ref 723)]) (st' := [.ref 0, .int (0), .ref 723]) (by decide +kernel) rfl) ?_
  refine ev_go0 (ev_p_virt (M := (ev_Mof 390)) (pc := 3) (x := 102) (mi := 193) (na := 0) (by decide +kernel) (by decide +kernel) (by decide +kernel) (by decide +kernel) rfl rfl (ev_recv_of ev_fH0) ev_k65) ?_
  refine ev_go0 (ev_w_i2l (M := (ev_Mof 390)) (pc := 6) (v := (-1)) (by decide +kernel) (by decide +kernel)) ?_
  refine ev_go0 (ev_w_last (M := (ev_Mof 390)) (pc := 7) (j := 0) (by decide +kernel) (ev_hne (by decide) ev_fH723) (by decide +kernel) (by decide +kernel)) ?_
  refine ev_go0 (ev_one_pure (M := (ev_Mof 390)) (pc := 8) (i := .goto 6) (len := 3) (pc' := 14) (lv' := [(0, .ref 0), (1, .ref 723)]) (st' := []) (by decide +kernel) rfl) ?_
  refine ev_go0 (ev_w_iconst (M := (ev_Mof 390)) (pc := 14) (k := 0) (v := 0) (by decide +kernel) (by decide +kernel)) ?_
  rfl
theorem ev_k67 {n : Nat} : ev_calld 12 359 [.ref 621] ((ev_H0.set 0 (.inr (12, (ev_F0.set 16 (.int (1)))))).set 723 (.inl (.long, 1, ((0, .long (-1)) :: [])))) n = some (.inl (some (.int (-1))), (((((ev_H0.set 0 (.inr (12, (ev_F0.set 16 (.int (1)))))).set 723 (.inl (.long, 1, ((0, .long (-1)) :: [])))).set 621 (.inr (13, (ev_F621.set 0 (.int (0)))))).set 621 (.inr (13, ((ev_F621.set 0 (.int (0))).set 136 (.int (1)))))).set 716 (.inl (.int, 7, ((0, .int (0)) :: [])))), n, 0, 0) := by
  refine ev_call_int (k := 30) (pcR := 68) (lv' := [(0, .ref 621)]) (v := (-1)) (ty := .int) (by decide +kernel) rfl ?_ (by decide +kernel) (by decide +kernel) (by decide +kernel) (by decide)
  show ev_stepn _ 30 (0, [(0, .ref 621)], [], _, _, 0, 0) = _
  refine ev_go0 (ev_one_pure (M := (ev_Mof 359)) (pc := 0) (i := .aload_n 0) (len := 1) (pc' := 1) (lv' := [(0, .ref 621)]) (st' := [.ref 621]) (by decide +kernel) rfl) ?_
  refine ev_go0 (ev_one_pure (M := (ev_Mof 359)) (pc := 1) (i := .aload_n 0) (len := 1) (pc' := 2) (lv' := [(0, .ref 621)]) (st' := [.ref 621, .ref 621]) (by decide +kernel) rfl) ?_
  refine ev_go0 (ev_p_getf (M := (ev_Mof 359)) (pc := 2) (x := 799) (ci := 13) (f := 136) (fin := 0) (v := .int (0)) (by decide +kernel) (by decide +kernel) (ev_hne (by decide) (ev_hne (by decide) ev_fH621)) rfl) ?_
  refine ev_go0 (ev_w_if (M := (ev_Mof 359)) (pc := 5) (q := .ne) (o := 16) (b := false) (t := 8) (by decide +kernel) (by decide +kernel) rfl) ?_
  refine ev_go0 (ev_one_pure (M := (ev_Mof 359)) (pc := 8) (i := .aload_n 0) (len := 1) (pc' := 9) (lv' := [(0, .ref 621)]) (st' := [.ref 621, .ref 621]) (by decide +kernel) rfl) ?_
  refine ev_go0 (ev_p_getf (M := (ev_Mof 359)) (pc := 9) (x := 802) (ci := 13) (f := 135) (fin := 0) (v := .int (0)) (by decide +kernel) (by decide +kernel) (ev_hne (by decide) (ev_hne (by decide) ev_fH621)) rfl) ?_
  refine ev_go0 (ev_w_bipush (M := (ev_Mof 359)) (pc := 12) (k := 6) (v := 6) (by decide +kernel) (by decide +kernel)) ?_
  refine ev_go0 (ev_w_icmp (M := (ev_Mof 359)) (pc := 14) (q := .ne) (o := 7) (b := true) (t := 21) (by decide +kernel) (by decide +kernel) rfl) ?_
  refine ev_go0 (ev_w_iconst (M := (ev_Mof 359)) (pc := 21) (k := 0) (v := 0) (by decide +kernel) (by decide +kernel)) ?_
  refine ev_go0 (ev_p_putf (M := (ev_Mof 359)) (pc := 22) (x := 321) (ci := 13) (f := 0) (by decide +kernel) (by decide +kernel) (ev_hne (by decide) (ev_hne (by decide) ev_fH621)) rfl (by decide +kernel)) ?_
  refine ev_go0 (ev_one_pure (M := (ev_Mof 359)) (pc := 25) (i := .aload_n 0) (len := 1) (pc' := 26) (lv' := [(0, .ref 621)]) (st' := [.ref 621]) (by decide +kernel) rfl) ?_
  refine ev_go0 (ev_p_getf (M := (ev_Mof 359)) (pc := 26) (x := 321) (ci := 13) (f := 0) (fin := 0) (v := .int (0)) (by decide +kernel) (by decide +kernel) (ev_hself (ev_hne (by decide) (ev_hne (by decide) ev_fH621))) rfl) ?_
  refine ev_go0 (ev_w_if (M := (ev_Mof 359)) (pc := 29) (q := .le) (o := 5) (b := true) (t := 34) (by decide +kernel) (by decide +kernel) rfl) ?_
  refine ev_go0 (ev_one_pure (M := (ev_Mof 359)) (pc := 34) (i := .aload_n 0) (len := 1) (pc' := 35) (lv' := [(0, .ref 621)]) (st' := [.ref 621]) (by decide +kernel) rfl) ?_
  refine ev_go0 (ev_one_pure (M := (ev_Mof 359)) (pc := 35) (i := .aload_n 0) (len := 1) (pc' := 36) (lv' := [(0, .ref 621)]) (st' := [.ref 621, .ref 621]) (by decide +kernel) rfl) ?_
  refine ev_go0 (ev_p_getf (M := (ev_Mof 359)) (pc := 36) (x := 799) (ci := 13) (f := 136) (fin := 0) (v := .int (0)) (by decide +kernel) (by decide +kernel) (ev_hself (ev_hne (by decide) (ev_hne (by decide) ev_fH621))) rfl) ?_
  refine ev_go0 (ev_w_if (M := (ev_Mof 359)) (pc := 39) (q := .ne) (o := 7) (b := false) (t := 42) (by decide +kernel) (by decide +kernel) rfl) ?_
  refine ev_go0 (ev_w_iconst (M := (ev_Mof 359)) (pc := 42) (k := 1) (v := 1) (by decide +kernel) (by decide +kernel)) ?_
  refine ev_go0 (ev_one_pure (M := (ev_Mof 359)) (pc := 43) (i := .goto 4) (len := 3) (pc' := 47) (lv' := [(0, .ref 621)]) (st' := [.int (1), .ref 621]) (by decide +kernel) rfl) ?_
  refine ev_go0 (ev_p_putf (M := (ev_Mof 359)) (pc := 47) (x := 799) (ci := 13) (f := 136) (by decide +kernel) (by decide +kernel) (ev_hself (ev_hne (by decide) (ev_hne (by decide) ev_fH621))) rfl (by decide +kernel)) ?_
  refine ev_go0 (ev_one_pure (M := (ev_Mof 359)) (pc := 50) (i := .aload_n 0) (len := 1) (pc' := 51) (lv' := [(0, .ref 621)]) (st' := [.ref 621]) (by decide +kernel) rfl) ?_
  refine ev_go0 (ev_p_getf (M := (ev_Mof 359)) (pc := 51) (x := 799) (ci := 13) (f := 136) (fin := 0) (v := .int (1)) (by decide +kernel) (by decide +kernel) (ev_hself (ev_hself (ev_hne (by decide) (ev_hne (by decide) ev_fH621)))) rfl) ?_
  refine ev_go0 (ev_w_if (M := (ev_Mof 359)) (pc := 54) (q := .eq) (o := 15) (b := false) (t := 57) (by decide +kernel) (by decide +kernel) rfl) ?_
  refine ev_go0 (ev_one_pure (M := (ev_Mof 359)) (pc := 57) (i := .aload_n 0) (len := 1) (pc' := 58) (lv' := [(0, .ref 621)]) (st' := [.ref 621]) (by decide +kernel) rfl) ?_
  refine ev_go0 (ev_p_getf (M := (ev_Mof 359)) (pc := 58) (x := 300) (ci := 13) (f := 137) (fin := 1) (v := .ref 716) (by decide +kernel) (by decide +kernel) (ev_hself (ev_hself (ev_hne (by decide) (ev_hne (by decide) ev_fH621)))) rfl) ?_
  refine ev_go0 (ev_one_pure (M := (ev_Mof 359)) (pc := 61) (i := .aload_n 0) (len := 1) (pc' := 62) (lv' := [(0, .ref 621)]) (st' := [.ref 621, .ref 716]) (by decide +kernel) rfl) ?_
  refine ev_go0 (ev_p_getf (M := (ev_Mof 359)) (pc := 62) (x := 802) (ci := 13) (f := 135) (fin := 0) (v := .int (0)) (by decide +kernel) (by decide +kernel) (ev_hself (ev_hself (ev_hne (by decide) (ev_hne (by decide) ev_fH621)))) rfl) ?_
  refine ev_go0 (ev_w_iconst (M := (ev_Mof 359)) (pc := 65) (k := 0) (v := 0) (by decide +kernel) (by decide +kernel)) ?_
  refine ev_go0 (ev_w_iast (M := (ev_Mof 359)) (pc := 66) (j := 0) (by decide +kernel) (ev_hne (by decide) (ev_hne (by decide) (ev_hne (by decide) (ev_hne (by decide) ev_fH716)))) (by decide +kernel) (by decide +kernel)) ?_
  refine ev_go0 (ev_w_iconst (M := (ev_Mof 359)) (pc := 67) (k := -1) (v := -1) (by decide +kernel) (by decide +kernel)) ?_
  rfl
theorem ev_k68 {n : Nat} : ev_calld 12 220 [.ref 621] (((((ev_H0.set 0 (.inr (12, (ev_F0.set 16 (.int (1)))))).set 723 (.inl (.long, 1, ((0, .long (-1)) :: [])))).set 621 (.inr (13, (ev_F621.set 0 (.int (0)))))).set 621 (.inr (13, ((ev_F621.set 0 (.int (0))).set 136 (.int (1)))))).set 716 (.inl (.int, 7, ((0, .int (0)) :: [])))) n = some (.inl (some (.int (0))), (((((ev_H0.set 0 (.inr (12, (ev_F0.set 16 (.int (1)))))).set 723 (.inl (.long, 1, ((0, .long (-1)) :: [])))).set 621 (.inr (13, (ev_F621.set 0 (.int (0)))))).set 621 (.inr (13, ((ev_F621.set 0 (.int (0))).set 136 (.int (1)))))).set 716 (.inl (.int, 7, ((0, .int (0)) :: [])))), n, 0, 0) := by
  refine ev_call_int (k := 2) (pcR := 4) (lv' := [(0, .ref 621)]) (v := (0)) (ty := .int) (by decide +kernel) rfl ?_ (by decide +kernel) (by decide +kernel) (by decide +kernel) (by decide)
  show ev_stepn _ 2 (0, [(0, .ref 621)], [], _, _, 0, 0) = _
  refine ev_go0 (ev_one_pure (M := (ev_Mof 220)) (pc := 0) (i := .aload_n 0) (len := 1) (pc' := 1) (lv' := [(0, .ref 621)]) (st' := [.ref 621]) (by decide +kernel) rfl) ?_
  refine ev_go0 (ev_p_getf (M := (ev_Mof 220)) (pc := 1) (x := 321) (ci := 13) (f := 0) (fin := 0) (v := .int (0)) (by decide +kernel) (by decide +kernel) (ev_hne (by decide) (ev_hself (ev_hself (ev_hne (by decide) (ev_hne (by decide) ev_fH621))))) rfl) ?_
  rfl
theorem ev_p1_27_a (xs : Nat → Int32) : ev_P1 xs 1908 := by
  refine ⟨21, [(6, .int (-1)), (5, .int (0)), (4, .int (0)), (3, .ref 723), (2, .ref 621), (1, .ref 0), (0, .retAddr 0)], (((((ev_H0.set 0 (.inr (12, (ev_F0.set 16 (.int (1)))))).set 723 (.inl (.long, 1, ((0, .long (-1)) :: [])))).set 621 (.inr (13, (ev_F621.set 0 (.int (0)))))).set 621 (.inr (13, ((ev_F621.set 0 (.int (0))).set 136 (.int (1)))))).set 716 (.inl (.int, 7, ((0, .int (0)) :: [])))), 724, 724, 3553586, ?_, ⟨rfl, rfl, rfl, rfl⟩, rfl, by decide, by decide⟩
  show ev_stepn _ _ (1908, [(4, .int (0)), (3, .ref 723), (2, .ref 621), (1, .ref 0), (0, .retAddr 0)], [], _, _, _, _) = _
  refine ev_go0 (ev_one_pure (M := ev_Mlaw) (pc := 1908) (i := .aload_n 1) (len := 1) (pc' := 1909) (lv' := [(4, .int (0)), (3, .ref 723), (2, .ref 621), (1, .ref 0), (0, .retAddr 0)]) (st' := [.ref 0]) (by decide +kernel) rfl) ?_
  refine ev_go0 (ev_one_pure (M := ev_Mlaw) (pc := 1909) (i := .aload_n 3) (len := 1) (pc' := 1910) (lv' := [(4, .int (0)), (3, .ref 723), (2, .ref 621), (1, .ref 0), (0, .retAddr 0)]) (st' := [.ref 723, .ref 0]) (by decide +kernel) rfl) ?_
  refine ev_go0 (ev_w_stat (M := ev_Mlaw) (pc := 1910) (y := 219) (kind := 8) (Or.inr (Or.inr rfl)) (mi := 390) (na := 2) (by decide +kernel) (by decide +kernel) (by decide +kernel) (by decide +kernel) rfl rfl ev_k66) ?_
  refine ev_go0 (ev_w_istore (M := ev_Mlaw) (pc := 1913) (k := 5) (lv' := [(5, .int (0)), (4, .int (0)), (3, .ref 723), (2, .ref 621), (1, .ref 0), (0, .retAddr 0)]) (by decide +kernel) (by decide +kernel) rfl) ?_
  refine ev_go0 (ev_one_pure (M := ev_Mlaw) (pc := 1915) (i := .aload_n 2) (len := 1) (pc' := 1916) (lv' := [(5, .int (0)), (4, .int (0)), (3, .ref 723), (2, .ref 621), (1, .ref 0), (0, .retAddr 0)]) (st' := [.ref 621]) (by decide +kernel) rfl) ?_
  refine ev_go0 (ev_p_virt (M := ev_Mlaw) (pc := 1916) (x := 221) (mi := 359) (na := 0) (by decide +kernel) (by decide +kernel) (by decide +kernel) (by decide +kernel) rfl rfl (ev_recv_of (ev_hne (by decide) (ev_hne (by decide) ev_fH621))) ev_k67) ?_
  refine ev_go0 (ev_w_istore (M := ev_Mlaw) (pc := 1919) (k := 6) (lv' := [(6, .int (-1)), (5, .int (0)), (4, .int (0)), (3, .ref 723), (2, .ref 621), (1, .ref 0), (0, .retAddr 0)]) (by decide +kernel) (by decide +kernel) rfl) ?_
  refine ev_go0 (ev_one_pure (M := ev_Mlaw) (pc := 1921) (i := .aload_n 2) (len := 1) (pc' := 1922) (lv' := [(6, .int (-1)), (5, .int (0)), (4, .int (0)), (3, .ref 723), (2, .ref 621), (1, .ref 0), (0, .retAddr 0)]) (st' := [.ref 621]) (by decide +kernel) rfl) ?_
  refine ev_go0 (ev_p_virt (M := ev_Mlaw) (pc := 1922) (x := 131) (mi := 220) (na := 0) (by decide +kernel) (by decide +kernel) (by decide +kernel) (by decide +kernel) rfl rfl (ev_recv_of (ev_hne (by decide) (ev_hself (ev_hself (ev_hne (by decide) (ev_hne (by decide) ev_fH621)))))) ev_k68) ?_
  refine ev_go0 (ev_one_pure (M := ev_Mlaw) (pc := 1925) (i := .iload 5) (len := 2) (pc' := 1927) (lv' := [(6, .int (-1)), (5, .int (0)), (4, .int (0)), (3, .ref 723), (2, .ref 621), (1, .ref 0), (0, .retAddr 0)]) (st' := [.int (0), .int (0)]) (by decide +kernel) rfl) ?_
  refine ev_go0 (ev_w_icmp (M := ev_Mlaw) (pc := 1927) (q := .eq) (o := 5) (b := true) (t := 1932) (by decide +kernel) (by decide +kernel) rfl) ?_
  refine ev_go0 (ev_one_pure (M := ev_Mlaw) (pc := 1932) (i := .iload 5) (len := 2) (pc' := 1934) (lv' := [(6, .int (-1)), (5, .int (0)), (4, .int (0)), (3, .ref 723), (2, .ref 621), (1, .ref 0), (0, .retAddr 0)]) (st' := [.int (0)]) (by decide +kernel) rfl) ?_
  refine ev_go0 (ev_w_if (M := ev_Mlaw) (pc := 1934) (q := .ne) (o := 15) (b := false) (t := 1937) (by decide +kernel) (by decide +kernel) rfl) ?_
  refine ev_go0 (ev_one_pure (M := ev_Mlaw) (pc := 1937) (i := .aload_n 3) (len := 1) (pc' := 1938) (lv' := [(6, .int (-1)), (5, .int (0)), (4, .int (0)), (3, .ref 723), (2, .ref 621), (1, .ref 0), (0, .retAddr 0)]) (st' := [.ref 723]) (by decide +kernel) rfl) ?_
  refine ev_go0 (ev_w_iconst (M := ev_Mlaw) (pc := 1938) (k := 0) (v := 0) (by decide +kernel) (by decide +kernel)) ?_
  refine ev_go0 (ev_w_lald (M := ev_Mlaw) (pc := 1939) (v := (-1)) (by decide +kernel) (ev_hne (by decide) (ev_hne (by decide) (ev_hne (by decide) (ev_hself (ev_hne (by decide) ev_fH723))))) (by decide +kernel) rfl) ?_
  refine ev_go0 (ev_one_pure (M := ev_Mlaw) (pc := 1940) (i := .iload 6) (len := 2) (pc' := 1942) (lv' := [(6, .int (-1)), (5, .int (0)), (4, .int (0)), (3, .ref 723), (2, .ref 621), (1, .ref 0), (0, .retAddr 0)]) (st' := [.int (-1), .long (-1)]) (by decide +kernel) rfl) ?_
  refine ev_go0 (ev_w_i2l (M := ev_Mlaw) (pc := 1942) (v := (-1)) (by decide +kernel) (by decide +kernel)) ?_
  refine ev_go0 (ev_w_lcmp (M := ev_Mlaw) (pc := 1943) (v := (0)) (by decide +kernel) (by decide +kernel)) ?_
  refine ev_go0 (ev_w_if (M := ev_Mlaw) (pc := 1944) (q := .eq) (o := 5) (b := true) (t := 1949) (by decide +kernel) (by decide +kernel) rfl) ?_
  refine ev_go0 (ev_one_pure (M := ev_Mlaw) (pc := 1949) (i := .goto 323) (len := 3) (pc' := 2272) (lv' := [(6, .int (-1)), (5, .int (0)), (4, .int (0)), (3, .ref 723), (2, .ref 621), (1, .ref 0), (0, .retAddr 0)]) (st' := []) (by decide +kernel) rfl) ?_
  rfl
theorem ev_p1arm27 (xs : Nat → Int32) : ev_P1 xs 1908 := by
  exact ev_p1_27_a xs
theorem ev_k69 (x1 : Int32) (hu_x1 : x1.toInt ≤ (-1 : Int)) {n : Nat} : ev_calld 10 202 [.ref 0, .int x1] ev_H0 n = some (.inl (some (.null)), ev_H0, n, 0, 0) := by
  refine ev_call_ref (k := 3) (pcR := 27) (lv' := [(0, .ref 0), (1, .int x1)]) (v := .null) (C := "MendBench$Stream") (by decide +kernel) rfl ?_ (by decide +kernel) (by decide +kernel) rfl (by decide)
  show ev_stepn _ 3 (0, [(0, .ref 0), (1, .int x1)], [], _, _, 0, 0) = _
  refine ev_go0 (ev_one_pure (M := (ev_Mof 202)) (pc := 0) (i := .iload_n 1) (len := 1) (pc' := 1) (lv' := [(0, .ref 0), (1, .int x1)]) (st' := [.int x1]) (by decide +kernel) rfl) ?_
  refine ev_go0 (ev_w_if (M := (ev_Mof 202)) (pc := 1) (q := .lt) (o := 25) (b := true) (t := 26) (by decide +kernel) (ev_c_lt1 hu_x1 (by decide +kernel)) rfl) ?_
  refine ev_go0 (ev_one_pure (M := (ev_Mof 202)) (pc := 26) (i := .aconst_null) (len := 1) (pc' := 27) (lv' := [(0, .ref 0), (1, .int x1)]) (st' := [.null]) (by decide +kernel) rfl) ?_
  rfl
theorem ev_k70 (x1 : Int32) (hu_x1 : x1.toInt ≤ (-1 : Int)) {n : Nat} : ev_calld 11 196 [.ref 0, .int x1] ev_H0 n = some (.inr "java/lang/IndexOutOfBoundsException", ev_H0, n, 1, 6) := by
  refine ev_call_thrown (k := 6) (pcR := 10) (x := 160) (lv' := [(2, .null), (0, .ref 0), (1, .int x1)]) (by decide +kernel) rfl ?_ (by decide +kernel) (by decide +kernel) (by decide +kernel) (by decide) (by decide)
  show ev_stepn _ 6 (0, [(0, .ref 0), (1, .int x1)], [], _, _, 0, 0) = _
  refine ev_go0 (ev_one_pure (M := (ev_Mof 196)) (pc := 0) (i := .aload_n 0) (len := 1) (pc' := 1) (lv' := [(0, .ref 0), (1, .int x1)]) (st' := [.ref 0]) (by decide +kernel) rfl) ?_
  refine ev_go0 (ev_one_pure (M := (ev_Mof 196)) (pc := 1) (i := .iload_n 1) (len := 1) (pc' := 2) (lv' := [(0, .ref 0), (1, .int x1)]) (st' := [.int x1, .ref 0]) (by decide +kernel) rfl) ?_
  refine ev_go0 (ev_p_virt (M := (ev_Mof 196)) (pc := 2) (x := 351) (mi := 202) (na := 1) (by decide +kernel) (by decide +kernel) (by decide +kernel) (by decide +kernel) rfl rfl (ev_recv_of ev_fH0) (ev_k69 x1 hu_x1)) ?_
  refine ev_go0 (ev_w_astore_n (M := (ev_Mof 196)) (pc := 5) (k := 2) (lv' := [(2, .null), (0, .ref 0), (1, .int x1)]) (by decide +kernel) (by decide +kernel) (Or.inr (Or.inl rfl)) rfl) ?_
  refine ev_go0 (ev_one_pure (M := (ev_Mof 196)) (pc := 6) (i := .aload_n 2) (len := 1) (pc' := 7) (lv' := [(2, .null), (0, .ref 0), (1, .int x1)]) (st' := [.null]) (by decide +kernel) rfl) ?_
  refine ev_go0 (ev_w_ifnonnull (M := (ev_Mof 196)) (pc := 7) (o := 14) (t := 10) (by decide +kernel) (Or.inr ⟨rfl, rfl⟩)) ?_
  rfl
theorem ev_k71 (x1 : Int32) (hu_x1 : x1.toInt ≤ (-1 : Int)) {n : Nat} : ev_calld 12 393 [.ref 0, .int x1, .ref 723] ev_H0 n = some (.inl (some (.int (1))), ev_H0, n, 1, 6) := by
  refine ev_call_int (k := 7) (pcR := 14) (lv' := [(3, .retAddr 1), (0, .ref 0), (1, .int x1), (2, .ref 723)]) (v := (1)) (ty := .int) (by decide +kernel) rfl ?_ (by decide +kernel) (by decide +kernel) (by decide +kernel) (by decide)
  show ev_stepn _ 7 (0, [(0, .ref 0), (1, .int x1), (2, .ref 723)], [], _, _, 0, 0) = _
  refine ev_go0 (ev_one_pure (M := (ev_Mof 393)) (pc := 0) (i := .aload_n 2) (len := 1) (pc' := 1) (lv' := [(0, .ref 0), (1, .int x1), (2, .ref 723)]) (st' := [.ref 723]) (by decide +kernel) rfl) ?_
  refine ev_go0 (ev_w_iconst (M := (ev_Mof 393)) (pc := 1) (k := 0) (v := 0) (by decide +kernel) (by decide +kernel)) ?_
  refine ev_go0 (ev_one_pure (M := (ev_Mof 393)) (pc := 2) (i := .aload_n 0) (len := 1) (pc' := 3) (lv' := [(0, .ref 0), (1, .int x1), (2, .ref 723)]) (st' := [.ref 0, .int (0), .ref 723]) (by decide +kernel) rfl) ?_
  refine ev_go0 (ev_one_pure (M := (ev_Mof 393)) (pc := 3) (i := .iload_n 1) (len := 1) (pc' := 4) (lv' := [(0, .ref 0), (1, .int x1), (2, .ref 723)]) (st' := [.int x1, .ref 0, .int (0), .ref 723]) (by decide +kernel) rfl) ?_
  refine ev_go (ev_p_virtX (M := (ev_Mof 393)) (pc := 4) (x := 112) (t := 12) (mi := 196) (na := 1) (by decide +kernel) (by decide +kernel) (by decide +kernel) (by decide +kernel) rfl rfl (ev_recv_of ev_fH0) (ev_k70 x1 hu_x1) (by decide +kernel)) ?_
  refine ev_go0 (ev_w_astore_n (M := (ev_Mof 393)) (pc := 12) (k := 3) (lv' := [(3, .retAddr 1), (0, .ref 0), (1, .int x1), (2, .ref 723)]) (by decide +kernel) (by decide +kernel) (Or.inr (Or.inr ⟨_, rfl⟩)) rfl) ?_
  refine ev_go0 (ev_w_iconst (M := (ev_Mof 393)) (pc := 13) (k := 1) (v := 1) (by decide +kernel) (by decide +kernel)) ?_
  rfl
theorem ev_k72 (x1 : Int32) (hu_x1 : x1.toInt ≤ (-1 : Int)) {n : Nat} : ev_calld 11 320 [.ref 621, .int x1] (ev_H0.set 621 (.inr (13, (ev_F621.set 0 (.int (0)))))) n = some (.inl (some (.int (0))), (ev_H0.set 621 (.inr (13, (ev_F621.set 0 (.int (0)))))), n, 0, 0) := by
  refine ev_call_int (k := 7) (pcR := 11) (lv' := [(0, .ref 621), (1, .int x1)]) (v := (0)) (ty := .boolean) (by decide +kernel) rfl ?_ (by decide +kernel) (by decide +kernel) (by decide +kernel) (by decide)
  show ev_stepn _ 7 (0, [(0, .ref 621), (1, .int x1)], [], _, _, 0, 0) = _
  refine ev_go0 (ev_one_pure (M := (ev_Mof 320)) (pc := 0) (i := .iload_n 1) (len := 1) (pc' := 1) (lv' := [(0, .ref 621), (1, .int x1)]) (st' := [.int x1]) (by decide +kernel) rfl) ?_
  refine ev_go0 (ev_w_iconst (M := (ev_Mof 320)) (pc := 1) (k := 0) (v := 0) (by decide +kernel) (by decide +kernel)) ?_
  refine ev_go0 (ev_one_pure (M := (ev_Mof 320)) (pc := 2) (i := .aload_n 0) (len := 1) (pc' := 3) (lv' := [(0, .ref 621), (1, .int x1)]) (st' := [.ref 621, .int (0), .int x1]) (by decide +kernel) rfl) ?_
  refine ev_go0 (ev_p_getf (M := (ev_Mof 320)) (pc := 3) (x := 707) (ci := 13) (f := 139) (fin := 0) (v := .int (0)) (by decide +kernel) (by decide +kernel) (ev_hself ev_fH621) rfl) ?_
  refine ev_go0 (ev_w_iconst (M := (ev_Mof 320)) (pc := 6) (k := 1) (v := 1) (by decide +kernel) (by decide +kernel)) ?_
  refine ev_go0 (ev_w_isub (M := (ev_Mof 320)) (pc := 7) (v := (-1)) (by decide +kernel) (by decide +kernel)) ?_
  refine ev_go0 (ev_w_stat (M := (ev_Mof 320)) (pc := 8) (y := 325) (kind := 2) (Or.inl rfl) (mi := 222) (na := 3) (by decide +kernel) (by decide +kernel) (by decide +kernel) (by decide +kernel) rfl rfl (ev_k4 x1 hu_x1)) ?_
  rfl
theorem ev_k73 (x1 : Int32) (hu_x1 : x1.toInt ≤ (-1 : Int)) {n : Nat} : ev_calld 12 322 [.ref 621, .int x1] ev_H0 n = some (.inl (some (.int (0))), ((ev_H0.set 621 (.inr (13, (ev_F621.set 0 (.int (0)))))).set 621 (.inr (13, ((ev_F621.set 0 (.int (0))).set 0 (.int (1)))))), n, 0, 0) := by
  refine ev_call_int (k := 10) (pcR := 18) (lv' := [(0, .ref 621), (1, .int x1)]) (v := (0)) (ty := .int) (by decide +kernel) rfl ?_ (by decide +kernel) (by decide +kernel) (by decide +kernel) (by decide)
  show ev_stepn _ 10 (0, [(0, .ref 621), (1, .int x1)], [], _, _, 0, 0) = _
  refine ev_go0 (ev_one_pure (M := (ev_Mof 322)) (pc := 0) (i := .aload_n 0) (len := 1) (pc' := 1) (lv' := [(0, .ref 621), (1, .int x1)]) (st' := [.ref 621]) (by decide +kernel) rfl) ?_
  refine ev_go0 (ev_w_iconst (M := (ev_Mof 322)) (pc := 1) (k := 0) (v := 0) (by decide +kernel) (by decide +kernel)) ?_
  refine ev_go0 (ev_p_putf (M := (ev_Mof 322)) (pc := 2) (x := 321) (ci := 13) (f := 0) (by decide +kernel) (by decide +kernel) ev_fH621 rfl (by decide +kernel)) ?_
  refine ev_go0 (ev_one_pure (M := (ev_Mof 322)) (pc := 5) (i := .aload_n 0) (len := 1) (pc' := 6) (lv' := [(0, .ref 621), (1, .int x1)]) (st' := [.ref 621]) (by decide +kernel) rfl) ?_
  refine ev_go0 (ev_one_pure (M := (ev_Mof 322)) (pc := 6) (i := .iload_n 1) (len := 1) (pc' := 7) (lv' := [(0, .ref 621), (1, .int x1)]) (st' := [.int x1, .ref 621]) (by decide +kernel) rfl) ?_
  refine ev_go0 (ev_p_virt (M := (ev_Mof 322)) (pc := 7) (x := 710) (mi := 320) (na := 1) (by decide +kernel) (by decide +kernel) (by decide +kernel) (by decide +kernel) rfl rfl (ev_recv_of (ev_hself ev_fH621)) (ev_k72 x1 hu_x1)) ?_
  refine ev_go0 (ev_w_if (M := (ev_Mof 322)) (pc := 10) (q := .ne) (o := 9) (b := false) (t := 13) (by decide +kernel) (by decide +kernel) rfl) ?_
  refine ev_go0 (ev_one_pure (M := (ev_Mof 322)) (pc := 13) (i := .aload_n 0) (len := 1) (pc' := 14) (lv' := [(0, .ref 621), (1, .int x1)]) (st' := [.ref 621]) (by decide +kernel) rfl) ?_
  refine ev_go0 (ev_w_iconst (M := (ev_Mof 322)) (pc := 14) (k := 1) (v := 1) (by decide +kernel) (by decide +kernel)) ?_
  refine ev_go0 (ev_p_virt (M := (ev_Mof 322)) (pc := 15) (x := 342) (mi := 221) (na := 1) (by decide +kernel) (by decide +kernel) (by decide +kernel) (by decide +kernel) rfl rfl (ev_recv_of (ev_hself ev_fH621)) ev_k6) ?_
  rfl
theorem ev_p1_30_n (xs : Nat → Int32) (x1 : Int32) (hu_x1 : x1.toInt ≤ (-1 : Int)) (e1 : xs 1 = x1) : ev_P1 xs 2104 := by
  refine ⟨24, [(6, .int (0)), (5, .int (1)), (4, .int (0)), (3, .ref 723), (2, .ref 621), (1, .ref 0), (0, .retAddr 0)], ((ev_H0.set 621 (.inr (13, (ev_F621.set 0 (.int (0)))))).set 621 (.inr (13, ((ev_F621.set 0 (.int (0))).set 0 (.int (1)))))), 724, 725, 3553592, ?_, ⟨rfl, rfl, rfl, rfl⟩, rfl, by decide, by decide⟩
  show ev_stepn _ _ (2104, [(4, .int (0)), (3, .ref 723), (2, .ref 621), (1, .ref 0), (0, .retAddr 0)], [], _, _, _, _) = _
  refine ev_go0 (ev_one_pure (M := ev_Mlaw) (pc := 2104) (i := .aload_n 1) (len := 1) (pc' := 2105) (lv' := [(4, .int (0)), (3, .ref 723), (2, .ref 621), (1, .ref 0), (0, .retAddr 0)]) (st' := [.ref 0]) (by decide +kernel) rfl) ?_
  refine ev_go0 (ev_one_pure (M := ev_Mlaw) (pc := 2105) (i := .aload_n 0) (len := 1) (pc' := 2106) (lv' := [(4, .int (0)), (3, .ref 723), (2, .ref 621), (1, .ref 0), (0, .retAddr 0)]) (st' := [.retAddr 0, .ref 0]) (by decide +kernel) rfl) ?_
  refine ev_go0 (ev_one_pure (M := ev_Mlaw) (pc := 2106) (i := .iload 4) (len := 2) (pc' := 2108) (lv' := [(4, .int (0)), (3, .ref 723), (2, .ref 621), (1, .ref 0), (0, .retAddr 0)]) (st' := [.int (0), .retAddr 0, .ref 0]) (by decide +kernel) rfl) ?_
  refine ev_go0 (ev_w_iconst (M := ev_Mlaw) (pc := 2108) (k := 1) (v := 1) (by decide +kernel) (by decide +kernel)) ?_
  refine ev_go0 (ev_w_iadd (M := ev_Mlaw) (pc := 2109) (v := (1)) (by decide +kernel) (by decide +kernel)) ?_
  refine ev_go0 (ev_w_scr (M := ev_Mlaw) (pc := 2110) (v := x1) (j := 1) (by decide +kernel) (by decide +kernel) (by decide +kernel) e1) ?_
  refine ev_go0 (ev_one_pure (M := ev_Mlaw) (pc := 2111) (i := .aload_n 3) (len := 1) (pc' := 2112) (lv' := [(4, .int (0)), (3, .ref 723), (2, .ref 621), (1, .ref 0), (0, .retAddr 0)]) (st' := [.ref 723, .int x1, .ref 0]) (by decide +kernel) rfl) ?_
  refine ev_go (ev_w_stat (M := ev_Mlaw) (pc := 2112) (y := 229) (kind := 8) (Or.inr (Or.inr rfl)) (mi := 393) (na := 3) (by decide +kernel) (by decide +kernel) (by decide +kernel) (by decide +kernel) rfl rfl (ev_k71 x1 hu_x1)) ?_
  refine ev_go0 (ev_w_istore (M := ev_Mlaw) (pc := 2115) (k := 5) (lv' := [(5, .int (1)), (4, .int (0)), (3, .ref 723), (2, .ref 621), (1, .ref 0), (0, .retAddr 0)]) (by decide +kernel) (by decide +kernel) rfl) ?_
  refine ev_go0 (ev_one_pure (M := ev_Mlaw) (pc := 2117) (i := .aload_n 2) (len := 1) (pc' := 2118) (lv' := [(5, .int (1)), (4, .int (0)), (3, .ref 723), (2, .ref 621), (1, .ref 0), (0, .retAddr 0)]) (st' := [.ref 621]) (by decide +kernel) rfl) ?_
  refine ev_go0 (ev_one_pure (M := ev_Mlaw) (pc := 2118) (i := .aload_n 0) (len := 1) (pc' := 2119) (lv' := [(5, .int (1)), (4, .int (0)), (3, .ref 723), (2, .ref 621), (1, .ref 0), (0, .retAddr 0)]) (st' := [.retAddr 0, .ref 621]) (by decide +kernel) rfl) ?_
  refine ev_go0 (ev_one_pure (M := ev_Mlaw) (pc := 2119) (i := .iload 4) (len := 2) (pc' := 2121) (lv' := [(5, .int (1)), (4, .int (0)), (3, .ref 723), (2, .ref 621), (1, .ref 0), (0, .retAddr 0)]) (st' := [.int (0), .retAddr 0, .ref 621]) (by decide +kernel) rfl) ?_
  refine ev_go0 (ev_w_iconst (M := ev_Mlaw) (pc := 2121) (k := 1) (v := 1) (by decide +kernel) (by decide +kernel)) ?_
  refine ev_go0 (ev_w_iadd (M := ev_Mlaw) (pc := 2122) (v := (1)) (by decide +kernel) (by decide +kernel)) ?_
  refine ev_go0 (ev_w_scr (M := ev_Mlaw) (pc := 2123) (v := x1) (j := 1) (by decide +kernel) (by decide +kernel) (by decide +kernel) e1) ?_
  refine ev_go0 (ev_p_virt (M := ev_Mlaw) (pc := 2124) (x := 231) (mi := 322) (na := 1) (by decide +kernel) (by decide +kernel) (by decide +kernel) (by decide +kernel) rfl rfl (ev_recv_of ev_fH621) (ev_k73 x1 hu_x1)) ?_
  refine ev_go0 (ev_w_istore (M := ev_Mlaw) (pc := 2127) (k := 6) (lv' := [(6, .int (0)), (5, .int (1)), (4, .int (0)), (3, .ref 723), (2, .ref 621), (1, .ref 0), (0, .retAddr 0)]) (by decide +kernel) (by decide +kernel) rfl) ?_
  refine ev_go0 (ev_one_pure (M := ev_Mlaw) (pc := 2129) (i := .aload_n 2) (len := 1) (pc' := 2130) (lv' := [(6, .int (0)), (5, .int (1)), (4, .int (0)), (3, .ref 723), (2, .ref 621), (1, .ref 0), (0, .retAddr 0)]) (st' := [.ref 621]) (by decide +kernel) rfl) ?_
  refine ev_go0 (ev_p_virt (M := ev_Mlaw) (pc := 2130) (x := 131) (mi := 220) (na := 0) (by decide +kernel) (by decide +kernel) (by decide +kernel) (by decide +kernel) rfl rfl (ev_recv_of (ev_hself (ev_hself ev_fH621))) ev_k8) ?_
  refine ev_go0 (ev_one_pure (M := ev_Mlaw) (pc := 2133) (i := .iload 5) (len := 2) (pc' := 2135) (lv' := [(6, .int (0)), (5, .int (1)), (4, .int (0)), (3, .ref 723), (2, .ref 621), (1, .ref 0), (0, .retAddr 0)]) (st' := [.int (1), .int (1)]) (by decide +kernel) rfl) ?_
  refine ev_go0 (ev_w_icmp (M := ev_Mlaw) (pc := 2135) (q := .eq) (o := 5) (b := true) (t := 2140) (by decide +kernel) (by decide +kernel) rfl) ?_
  refine ev_go0 (ev_one_pure (M := ev_Mlaw) (pc := 2140) (i := .iload 5) (len := 2) (pc' := 2142) (lv' := [(6, .int (0)), (5, .int (1)), (4, .int (0)), (3, .ref 723), (2, .ref 621), (1, .ref 0), (0, .retAddr 0)]) (st' := [.int (1)]) (by decide +kernel) rfl) ?_
  refine ev_go0 (ev_w_if (M := ev_Mlaw) (pc := 2142) (q := .ne) (o := 15) (b := true) (t := 2157) (by decide +kernel) (by decide +kernel) rfl) ?_
  refine ev_go0 (ev_one_pure (M := ev_Mlaw) (pc := 2157) (i := .goto 115) (len := 3) (pc' := 2272) (lv' := [(6, .int (0)), (5, .int (1)), (4, .int (0)), (3, .ref 723), (2, .ref 621), (1, .ref 0), (0, .retAddr 0)]) (st' := []) (by decide +kernel) rfl) ?_
  rfl
theorem ev_k74 (x1 : Int32) (hl_x1 : (0 : Int) ≤ x1.toInt) {n : Nat} : ev_calld 10 202 [.ref 0, .int x1] ev_H0 n = some (.inl (some (.null)), ev_H0, n, 0, 0) := by
  refine ev_call_ref (k := 7) (pcR := 27) (lv' := [(0, .ref 0), (1, .int x1)]) (v := .null) (C := "MendBench$Stream") (by decide +kernel) rfl ?_ (by decide +kernel) (by decide +kernel) rfl (by decide)
  show ev_stepn _ 7 (0, [(0, .ref 0), (1, .int x1)], [], _, _, 0, 0) = _
  refine ev_go0 (ev_one_pure (M := (ev_Mof 202)) (pc := 0) (i := .iload_n 1) (len := 1) (pc' := 1) (lv' := [(0, .ref 0), (1, .int x1)]) (st' := [.int x1]) (by decide +kernel) rfl) ?_
  refine ev_go0 (ev_w_if (M := (ev_Mof 202)) (pc := 1) (q := .lt) (o := 25) (b := false) (t := 4) (by decide +kernel) (ev_c_lt0 hl_x1 (by decide +kernel)) rfl) ?_
  refine ev_go0 (ev_one_pure (M := (ev_Mof 202)) (pc := 4) (i := .iload_n 1) (len := 1) (pc' := 5) (lv' := [(0, .ref 0), (1, .int x1)]) (st' := [.int x1]) (by decide +kernel) rfl) ?_
  refine ev_go0 (ev_one_pure (M := (ev_Mof 202)) (pc := 5) (i := .aload_n 0) (len := 1) (pc' := 6) (lv' := [(0, .ref 0), (1, .int x1)]) (st' := [.ref 0, .int x1]) (by decide +kernel) rfl) ?_
  refine ev_go0 (ev_p_getf (M := (ev_Mof 202)) (pc := 6) (x := 338) (ci := 12) (f := 18) (fin := 0) (v := .int (0)) (by decide +kernel) (by decide +kernel) ev_fH0 rfl) ?_
  refine ev_go0 (ev_w_icmp (M := (ev_Mof 202)) (pc := 9) (q := .ge) (o := 17) (b := true) (t := 26) (by decide +kernel) (ev_c_ge1 hl_x1 (by decide +kernel)) rfl) ?_
  refine ev_go0 (ev_one_pure (M := (ev_Mof 202)) (pc := 26) (i := .aconst_null) (len := 1) (pc' := 27) (lv' := [(0, .ref 0), (1, .int x1)]) (st' := [.null]) (by decide +kernel) rfl) ?_
  rfl
theorem ev_k75 (x1 : Int32) (hl_x1 : (0 : Int) ≤ x1.toInt) {n : Nat} : ev_calld 11 196 [.ref 0, .int x1] ev_H0 n = some (.inr "java/lang/IndexOutOfBoundsException", ev_H0, n, 1, 6) := by
  refine ev_call_thrown (k := 6) (pcR := 10) (x := 160) (lv' := [(2, .null), (0, .ref 0), (1, .int x1)]) (by decide +kernel) rfl ?_ (by decide +kernel) (by decide +kernel) (by decide +kernel) (by decide) (by decide)
  show ev_stepn _ 6 (0, [(0, .ref 0), (1, .int x1)], [], _, _, 0, 0) = _
  refine ev_go0 (ev_one_pure (M := (ev_Mof 196)) (pc := 0) (i := .aload_n 0) (len := 1) (pc' := 1) (lv' := [(0, .ref 0), (1, .int x1)]) (st' := [.ref 0]) (by decide +kernel) rfl) ?_
  refine ev_go0 (ev_one_pure (M := (ev_Mof 196)) (pc := 1) (i := .iload_n 1) (len := 1) (pc' := 2) (lv' := [(0, .ref 0), (1, .int x1)]) (st' := [.int x1, .ref 0]) (by decide +kernel) rfl) ?_
  refine ev_go0 (ev_p_virt (M := (ev_Mof 196)) (pc := 2) (x := 351) (mi := 202) (na := 1) (by decide +kernel) (by decide +kernel) (by decide +kernel) (by decide +kernel) rfl rfl (ev_recv_of ev_fH0) (ev_k74 x1 hl_x1)) ?_
  refine ev_go0 (ev_w_astore_n (M := (ev_Mof 196)) (pc := 5) (k := 2) (lv' := [(2, .null), (0, .ref 0), (1, .int x1)]) (by decide +kernel) (by decide +kernel) (Or.inr (Or.inl rfl)) rfl) ?_
  refine ev_go0 (ev_one_pure (M := (ev_Mof 196)) (pc := 6) (i := .aload_n 2) (len := 1) (pc' := 7) (lv' := [(2, .null), (0, .ref 0), (1, .int x1)]) (st' := [.null]) (by decide +kernel) rfl) ?_
  refine ev_go0 (ev_w_ifnonnull (M := (ev_Mof 196)) (pc := 7) (o := 14) (t := 10) (by decide +kernel) (Or.inr ⟨rfl, rfl⟩)) ?_
  rfl
theorem ev_k76 (x1 : Int32) (hl_x1 : (0 : Int) ≤ x1.toInt) {n : Nat} : ev_calld 12 393 [.ref 0, .int x1, .ref 723] ev_H0 n = some (.inl (some (.int (1))), ev_H0, n, 1, 6) := by
  refine ev_call_int (k := 7) (pcR := 14) (lv' := [(3, .retAddr 1), (0, .ref 0), (1, .int x1), (2, .ref 723)]) (v := (1)) (ty := .int) (by decide +kernel) rfl ?_ (by decide +kernel) (by decide +kernel) (by decide +kernel) (by decide)
  show ev_stepn _ 7 (0, [(0, .ref 0), (1, .int x1), (2, .ref 723)], [], _, _, 0, 0) = _
  refine ev_go0 (ev_one_pure (M := (ev_Mof 393)) (pc := 0) (i := .aload_n 2) (len := 1) (pc' := 1) (lv' := [(0, .ref 0), (1, .int x1), (2, .ref 723)]) (st' := [.ref 723]) (by decide +kernel) rfl) ?_
  refine ev_go0 (ev_w_iconst (M := (ev_Mof 393)) (pc := 1) (k := 0) (v := 0) (by decide +kernel) (by decide +kernel)) ?_
  refine ev_go0 (ev_one_pure (M := (ev_Mof 393)) (pc := 2) (i := .aload_n 0) (len := 1) (pc' := 3) (lv' := [(0, .ref 0), (1, .int x1), (2, .ref 723)]) (st' := [.ref 0, .int (0), .ref 723]) (by decide +kernel) rfl) ?_
  refine ev_go0 (ev_one_pure (M := (ev_Mof 393)) (pc := 3) (i := .iload_n 1) (len := 1) (pc' := 4) (lv' := [(0, .ref 0), (1, .int x1), (2, .ref 723)]) (st' := [.int x1, .ref 0, .int (0), .ref 723]) (by decide +kernel) rfl) ?_
  refine ev_go (ev_p_virtX (M := (ev_Mof 393)) (pc := 4) (x := 112) (t := 12) (mi := 196) (na := 1) (by decide +kernel) (by decide +kernel) (by decide +kernel) (by decide +kernel) rfl rfl (ev_recv_of ev_fH0) (ev_k75 x1 hl_x1) (by decide +kernel)) ?_
  refine ev_go0 (ev_w_astore_n (M := (ev_Mof 393)) (pc := 12) (k := 3) (lv' := [(3, .retAddr 1), (0, .ref 0), (1, .int x1), (2, .ref 723)]) (by decide +kernel) (by decide +kernel) (Or.inr (Or.inr ⟨_, rfl⟩)) rfl) ?_
  refine ev_go0 (ev_w_iconst (M := (ev_Mof 393)) (pc := 13) (k := 1) (v := 1) (by decide +kernel) (by decide +kernel)) ?_
  rfl
theorem ev_k77 (x1 : Int32) (hl_x1 : (0 : Int) ≤ x1.toInt) {n : Nat} : ev_calld 11 320 [.ref 621, .int x1] (ev_H0.set 621 (.inr (13, (ev_F621.set 0 (.int (0)))))) n = some (.inl (some (.int (0))), (ev_H0.set 621 (.inr (13, (ev_F621.set 0 (.int (0)))))), n, 0, 0) := by
  refine ev_call_int (k := 7) (pcR := 11) (lv' := [(0, .ref 621), (1, .int x1)]) (v := (0)) (ty := .boolean) (by decide +kernel) rfl ?_ (by decide +kernel) (by decide +kernel) (by decide +kernel) (by decide)
  show ev_stepn _ 7 (0, [(0, .ref 621), (1, .int x1)], [], _, _, 0, 0) = _
  refine ev_go0 (ev_one_pure (M := (ev_Mof 320)) (pc := 0) (i := .iload_n 1) (len := 1) (pc' := 1) (lv' := [(0, .ref 621), (1, .int x1)]) (st' := [.int x1]) (by decide +kernel) rfl) ?_
  refine ev_go0 (ev_w_iconst (M := (ev_Mof 320)) (pc := 1) (k := 0) (v := 0) (by decide +kernel) (by decide +kernel)) ?_
  refine ev_go0 (ev_one_pure (M := (ev_Mof 320)) (pc := 2) (i := .aload_n 0) (len := 1) (pc' := 3) (lv' := [(0, .ref 621), (1, .int x1)]) (st' := [.ref 621, .int (0), .int x1]) (by decide +kernel) rfl) ?_
  refine ev_go0 (ev_p_getf (M := (ev_Mof 320)) (pc := 3) (x := 707) (ci := 13) (f := 139) (fin := 0) (v := .int (0)) (by decide +kernel) (by decide +kernel) (ev_hself ev_fH621) rfl) ?_
  refine ev_go0 (ev_w_iconst (M := (ev_Mof 320)) (pc := 6) (k := 1) (v := 1) (by decide +kernel) (by decide +kernel)) ?_
  refine ev_go0 (ev_w_isub (M := (ev_Mof 320)) (pc := 7) (v := (-1)) (by decide +kernel) (by decide +kernel)) ?_
  refine ev_go0 (ev_w_stat (M := (ev_Mof 320)) (pc := 8) (y := 325) (kind := 2) (Or.inl rfl) (mi := 222) (na := 3) (by decide +kernel) (by decide +kernel) (by decide +kernel) (by decide +kernel) rfl rfl (ev_k12 x1 hl_x1)) ?_
  rfl
theorem ev_k78 (x1 : Int32) (hl_x1 : (0 : Int) ≤ x1.toInt) {n : Nat} : ev_calld 12 322 [.ref 621, .int x1] ev_H0 n = some (.inl (some (.int (0))), ((ev_H0.set 621 (.inr (13, (ev_F621.set 0 (.int (0)))))).set 621 (.inr (13, ((ev_F621.set 0 (.int (0))).set 0 (.int (1)))))), n, 0, 0) := by
  refine ev_call_int (k := 10) (pcR := 18) (lv' := [(0, .ref 621), (1, .int x1)]) (v := (0)) (ty := .int) (by decide +kernel) rfl ?_ (by decide +kernel) (by decide +kernel) (by decide +kernel) (by decide)
  show ev_stepn _ 10 (0, [(0, .ref 621), (1, .int x1)], [], _, _, 0, 0) = _
  refine ev_go0 (ev_one_pure (M := (ev_Mof 322)) (pc := 0) (i := .aload_n 0) (len := 1) (pc' := 1) (lv' := [(0, .ref 621), (1, .int x1)]) (st' := [.ref 621]) (by decide +kernel) rfl) ?_
  refine ev_go0 (ev_w_iconst (M := (ev_Mof 322)) (pc := 1) (k := 0) (v := 0) (by decide +kernel) (by decide +kernel)) ?_
  refine ev_go0 (ev_p_putf (M := (ev_Mof 322)) (pc := 2) (x := 321) (ci := 13) (f := 0) (by decide +kernel) (by decide +kernel) ev_fH621 rfl (by decide +kernel)) ?_
  refine ev_go0 (ev_one_pure (M := (ev_Mof 322)) (pc := 5) (i := .aload_n 0) (len := 1) (pc' := 6) (lv' := [(0, .ref 621), (1, .int x1)]) (st' := [.ref 621]) (by decide +kernel) rfl) ?_
  refine ev_go0 (ev_one_pure (M := (ev_Mof 322)) (pc := 6) (i := .iload_n 1) (len := 1) (pc' := 7) (lv' := [(0, .ref 621), (1, .int x1)]) (st' := [.int x1, .ref 621]) (by decide +kernel) rfl) ?_
  refine ev_go0 (ev_p_virt (M := (ev_Mof 322)) (pc := 7) (x := 710) (mi := 320) (na := 1) (by decide +kernel) (by decide +kernel) (by decide +kernel) (by decide +kernel) rfl rfl (ev_recv_of (ev_hself ev_fH621)) (ev_k77 x1 hl_x1)) ?_
  refine ev_go0 (ev_w_if (M := (ev_Mof 322)) (pc := 10) (q := .ne) (o := 9) (b := false) (t := 13) (by decide +kernel) (by decide +kernel) rfl) ?_
  refine ev_go0 (ev_one_pure (M := (ev_Mof 322)) (pc := 13) (i := .aload_n 0) (len := 1) (pc' := 14) (lv' := [(0, .ref 621), (1, .int x1)]) (st' := [.ref 621]) (by decide +kernel) rfl) ?_
  refine ev_go0 (ev_w_iconst (M := (ev_Mof 322)) (pc := 14) (k := 1) (v := 1) (by decide +kernel) (by decide +kernel)) ?_
  refine ev_go0 (ev_p_virt (M := (ev_Mof 322)) (pc := 15) (x := 342) (mi := 221) (na := 1) (by decide +kernel) (by decide +kernel) (by decide +kernel) (by decide +kernel) rfl rfl (ev_recv_of (ev_hself ev_fH621)) ev_k6) ?_
  rfl
theorem ev_p1_30_p (xs : Nat → Int32) (x1 : Int32) (hl_x1 : (0 : Int) ≤ x1.toInt) (e1 : xs 1 = x1) : ev_P1 xs 2104 := by
  refine ⟨24, [(6, .int (0)), (5, .int (1)), (4, .int (0)), (3, .ref 723), (2, .ref 621), (1, .ref 0), (0, .retAddr 0)], ((ev_H0.set 621 (.inr (13, (ev_F621.set 0 (.int (0)))))).set 621 (.inr (13, ((ev_F621.set 0 (.int (0))).set 0 (.int (1)))))), 724, 725, 3553592, ?_, ⟨rfl, rfl, rfl, rfl⟩, rfl, by decide, by decide⟩
  show ev_stepn _ _ (2104, [(4, .int (0)), (3, .ref 723), (2, .ref 621), (1, .ref 0), (0, .retAddr 0)], [], _, _, _, _) = _
  refine ev_go0 (ev_one_pure (M := ev_Mlaw) (pc := 2104) (i := .aload_n 1) (len := 1) (pc' := 2105) (lv' := [(4, .int (0)), (3, .ref 723), (2, .ref 621), (1, .ref 0), (0, .retAddr 0)]) (st' := [.ref 0]) (by decide +kernel) rfl) ?_
  refine ev_go0 (ev_one_pure (M := ev_Mlaw) (pc := 2105) (i := .aload_n 0) (len := 1) (pc' := 2106) (lv' := [(4, .int (0)), (3, .ref 723), (2, .ref 621), (1, .ref 0), (0, .retAddr 0)]) (st' := [.retAddr 0, .ref 0]) (by decide +kernel) rfl) ?_
  refine ev_go0 (ev_one_pure (M := ev_Mlaw) (pc := 2106) (i := .iload 4) (len := 2) (pc' := 2108) (lv' := [(4, .int (0)), (3, .ref 723), (2, .ref 621), (1, .ref 0), (0, .retAddr 0)]) (st' := [.int (0), .retAddr 0, .ref 0]) (by decide +kernel) rfl) ?_
  refine ev_go0 (ev_w_iconst (M := ev_Mlaw) (pc := 2108) (k := 1) (v := 1) (by decide +kernel) (by decide +kernel)) ?_
  refine ev_go0 (ev_w_iadd (M := ev_Mlaw) (pc := 2109) (v := (1)) (by decide +kernel) (by decide +kernel)) ?_
  refine ev_go0 (ev_w_scr (M := ev_Mlaw) (pc := 2110) (v := x1) (j := 1) (by decide +kernel) (by decide +kernel) (by decide +kernel) e1) ?_
  refine ev_go0 (ev_one_pure (M := ev_Mlaw) (pc := 2111) (i := .aload_n 3) (len := 1) (pc' := 2112) (lv' := [(4, .int (0)), (3, .ref 723), (2, .ref 621), (1, .ref 0), (0, .retAddr 0)]) (st' := [.ref 723, .int x1, .ref 0]) (by decide +kernel) rfl) ?_
  refine ev_go (ev_w_stat (M := ev_Mlaw) (pc := 2112) (y := 229) (kind := 8) (Or.inr (Or.inr rfl)) (mi := 393) (na := 3) (by decide +kernel) (by decide +kernel) (by decide +kernel) (by decide +kernel) rfl rfl (ev_k76 x1 hl_x1)) ?_
  refine ev_go0 (ev_w_istore (M := ev_Mlaw) (pc := 2115) (k := 5) (lv' := [(5, .int (1)), (4, .int (0)), (3, .ref 723), (2, .ref 621), (1, .ref 0), (0, .retAddr 0)]) (by decide +kernel) (by decide +kernel) rfl) ?_
  refine ev_go0 (ev_one_pure (M := ev_Mlaw) (pc := 2117) (i := .aload_n 2) (len := 1) (pc' := 2118) (lv' := [(5, .int (1)), (4, .int (0)), (3, .ref 723), (2, .ref 621), (1, .ref 0), (0, .retAddr 0)]) (st' := [.ref 621]) (by decide +kernel) rfl) ?_
  refine ev_go0 (ev_one_pure (M := ev_Mlaw) (pc := 2118) (i := .aload_n 0) (len := 1) (pc' := 2119) (lv' := [(5, .int (1)), (4, .int (0)), (3, .ref 723), (2, .ref 621), (1, .ref 0), (0, .retAddr 0)]) (st' := [.retAddr 0, .ref 621]) (by decide +kernel) rfl) ?_
  refine ev_go0 (ev_one_pure (M := ev_Mlaw) (pc := 2119) (i := .iload 4) (len := 2) (pc' := 2121) (lv' := [(5, .int (1)), (4, .int (0)), (3, .ref 723), (2, .ref 621), (1, .ref 0), (0, .retAddr 0)]) (st' := [.int (0), .retAddr 0, .ref 621]) (by decide +kernel) rfl) ?_
  refine ev_go0 (ev_w_iconst (M := ev_Mlaw) (pc := 2121) (k := 1) (v := 1) (by decide +kernel) (by decide +kernel)) ?_
  refine ev_go0 (ev_w_iadd (M := ev_Mlaw) (pc := 2122) (v := (1)) (by decide +kernel) (by decide +kernel)) ?_
  refine ev_go0 (ev_w_scr (M := ev_Mlaw) (pc := 2123) (v := x1) (j := 1) (by decide +kernel) (by decide +kernel) (by decide +kernel) e1) ?_
  refine ev_go0 (ev_p_virt (M := ev_Mlaw) (pc := 2124) (x := 231) (mi := 322) (na := 1) (by decide +kernel) (by decide +kernel) (by decide +kernel) (by decide +kernel) rfl rfl (ev_recv_of ev_fH621) (ev_k78 x1 hl_x1)) ?_
  refine ev_go0 (ev_w_istore (M := ev_Mlaw) (pc := 2127) (k := 6) (lv' := [(6, .int (0)), (5, .int (1)), (4, .int (0)), (3, .ref 723), (2, .ref 621), (1, .ref 0), (0, .retAddr 0)]) (by decide +kernel) (by decide +kernel) rfl) ?_
  refine ev_go0 (ev_one_pure (M := ev_Mlaw) (pc := 2129) (i := .aload_n 2) (len := 1) (pc' := 2130) (lv' := [(6, .int (0)), (5, .int (1)), (4, .int (0)), (3, .ref 723), (2, .ref 621), (1, .ref 0), (0, .retAddr 0)]) (st' := [.ref 621]) (by decide +kernel) rfl) ?_
  refine ev_go0 (ev_p_virt (M := ev_Mlaw) (pc := 2130) (x := 131) (mi := 220) (na := 0) (by decide +kernel) (by decide +kernel) (by decide +kernel) (by decide +kernel) rfl rfl (ev_recv_of (ev_hself (ev_hself ev_fH621))) ev_k8) ?_
  refine ev_go0 (ev_one_pure (M := ev_Mlaw) (pc := 2133) (i := .iload 5) (len := 2) (pc' := 2135) (lv' := [(6, .int (0)), (5, .int (1)), (4, .int (0)), (3, .ref 723), (2, .ref 621), (1, .ref 0), (0, .retAddr 0)]) (st' := [.int (1), .int (1)]) (by decide +kernel) rfl) ?_
  refine ev_go0 (ev_w_icmp (M := ev_Mlaw) (pc := 2135) (q := .eq) (o := 5) (b := true) (t := 2140) (by decide +kernel) (by decide +kernel) rfl) ?_
  refine ev_go0 (ev_one_pure (M := ev_Mlaw) (pc := 2140) (i := .iload 5) (len := 2) (pc' := 2142) (lv' := [(6, .int (0)), (5, .int (1)), (4, .int (0)), (3, .ref 723), (2, .ref 621), (1, .ref 0), (0, .retAddr 0)]) (st' := [.int (1)]) (by decide +kernel) rfl) ?_
  refine ev_go0 (ev_w_if (M := ev_Mlaw) (pc := 2142) (q := .ne) (o := 15) (b := true) (t := 2157) (by decide +kernel) (by decide +kernel) rfl) ?_
  refine ev_go0 (ev_one_pure (M := ev_Mlaw) (pc := 2157) (i := .goto 115) (len := 3) (pc' := 2272) (lv' := [(6, .int (0)), (5, .int (1)), (4, .int (0)), (3, .ref 723), (2, .ref 621), (1, .ref 0), (0, .retAddr 0)]) (st' := []) (by decide +kernel) rfl) ?_
  rfl
theorem ev_p1arm30 (xs : Nat → Int32) : ev_P1 xs 2104 := by
  rcases ev_split2 (xs 1) with h1 | h1
  · skip
    exact ev_p1_30_n xs (xs 1) h1 rfl
  · skip
    exact ev_p1_30_p xs (xs 1) h1 rfl
theorem ev_k79 (x1 : Int32) (hu_x1 : x1.toInt ≤ (-1 : Int)) {n : Nat} : ev_calld 11 197 [.ref 0, .int x1] ev_H0 n = some (.inr "java/lang/IndexOutOfBoundsException", ev_H0, n, 1, 6) := by
  refine ev_call_thrown (k := 6) (pcR := 10) (x := 160) (lv' := [(2, .null), (0, .ref 0), (1, .int x1)]) (by decide +kernel) rfl ?_ (by decide +kernel) (by decide +kernel) (by decide +kernel) (by decide) (by decide)
  show ev_stepn _ 6 (0, [(0, .ref 0), (1, .int x1)], [], _, _, 0, 0) = _
  refine ev_go0 (ev_one_pure (M := (ev_Mof 197)) (pc := 0) (i := .aload_n 0) (len := 1) (pc' := 1) (lv' := [(0, .ref 0), (1, .int x1)]) (st' := [.ref 0]) (by decide +kernel) rfl) ?_
  refine ev_go0 (ev_one_pure (M := (ev_Mof 197)) (pc := 1) (i := .iload_n 1) (len := 1) (pc' := 2) (lv' := [(0, .ref 0), (1, .int x1)]) (st' := [.int x1, .ref 0]) (by decide +kernel) rfl) ?_
  refine ev_go0 (ev_p_virt (M := (ev_Mof 197)) (pc := 2) (x := 351) (mi := 202) (na := 1) (by decide +kernel) (by decide +kernel) (by decide +kernel) (by decide +kernel) rfl rfl (ev_recv_of ev_fH0) (ev_k69 x1 hu_x1)) ?_
  refine ev_go0 (ev_w_astore_n (M := (ev_Mof 197)) (pc := 5) (k := 2) (lv' := [(2, .null), (0, .ref 0), (1, .int x1)]) (by decide +kernel) (by decide +kernel) (Or.inr (Or.inl rfl)) rfl) ?_
  refine ev_go0 (ev_one_pure (M := (ev_Mof 197)) (pc := 6) (i := .aload_n 2) (len := 1) (pc' := 7) (lv' := [(2, .null), (0, .ref 0), (1, .int x1)]) (st' := [.null]) (by decide +kernel) rfl) ?_
  refine ev_go0 (ev_w_ifnonnull (M := (ev_Mof 197)) (pc := 7) (o := 14) (t := 10) (by decide +kernel) (Or.inr ⟨rfl, rfl⟩)) ?_
  rfl
theorem ev_k80 (x1 : Int32) (hu_x1 : x1.toInt ≤ (-1 : Int)) {n : Nat} : ev_calld 12 394 [.ref 0, .int x1, .ref 723] ev_H0 n = some (.inl (some (.int (1))), ev_H0, n, 1, 6) := by
  refine ev_call_int (k := 7) (pcR := 14) (lv' := [(3, .retAddr 1), (0, .ref 0), (1, .int x1), (2, .ref 723)]) (v := (1)) (ty := .int) (by decide +kernel) rfl ?_ (by decide +kernel) (by decide +kernel) (by decide +kernel) (by decide)
  show ev_stepn _ 7 (0, [(0, .ref 0), (1, .int x1), (2, .ref 723)], [], _, _, 0, 0) = _
  refine ev_go0 (ev_one_pure (M := (ev_Mof 394)) (pc := 0) (i := .aload_n 2) (len := 1) (pc' := 1) (lv' := [(0, .ref 0), (1, .int x1), (2, .ref 723)]) (st' := [.ref 723]) (by decide +kernel) rfl) ?_
  refine ev_go0 (ev_w_iconst (M := (ev_Mof 394)) (pc := 1) (k := 0) (v := 0) (by decide +kernel) (by decide +kernel)) ?_
  refine ev_go0 (ev_one_pure (M := (ev_Mof 394)) (pc := 2) (i := .aload_n 0) (len := 1) (pc' := 3) (lv' := [(0, .ref 0), (1, .int x1), (2, .ref 723)]) (st' := [.ref 0, .int (0), .ref 723]) (by decide +kernel) rfl) ?_
  refine ev_go0 (ev_one_pure (M := (ev_Mof 394)) (pc := 3) (i := .iload_n 1) (len := 1) (pc' := 4) (lv' := [(0, .ref 0), (1, .int x1), (2, .ref 723)]) (st' := [.int x1, .ref 0, .int (0), .ref 723]) (by decide +kernel) rfl) ?_
  refine ev_go (ev_p_virtX (M := (ev_Mof 394)) (pc := 4) (x := 115) (t := 12) (mi := 197) (na := 1) (by decide +kernel) (by decide +kernel) (by decide +kernel) (by decide +kernel) rfl rfl (ev_recv_of ev_fH0) (ev_k79 x1 hu_x1) (by decide +kernel)) ?_
  refine ev_go0 (ev_w_astore_n (M := (ev_Mof 394)) (pc := 12) (k := 3) (lv' := [(3, .retAddr 1), (0, .ref 0), (1, .int x1), (2, .ref 723)]) (by decide +kernel) (by decide +kernel) (Or.inr (Or.inr ⟨_, rfl⟩)) rfl) ?_
  refine ev_go0 (ev_w_iconst (M := (ev_Mof 394)) (pc := 13) (k := 1) (v := 1) (by decide +kernel) (by decide +kernel)) ?_
  rfl
theorem ev_k81 (x1 : Int32) (hu_x1 : x1.toInt ≤ (-1 : Int)) {n : Nat} : ev_calld 12 323 [.ref 621, .int x1] ev_H0 n = some (.inl (some (.int (0))), ((ev_H0.set 621 (.inr (13, (ev_F621.set 0 (.int (0)))))).set 621 (.inr (13, ((ev_F621.set 0 (.int (0))).set 0 (.int (1)))))), n, 0, 0) := by
  refine ev_call_int (k := 10) (pcR := 18) (lv' := [(0, .ref 621), (1, .int x1)]) (v := (0)) (ty := .int) (by decide +kernel) rfl ?_ (by decide +kernel) (by decide +kernel) (by decide +kernel) (by decide)
  show ev_stepn _ 10 (0, [(0, .ref 621), (1, .int x1)], [], _, _, 0, 0) = _
  refine ev_go0 (ev_one_pure (M := (ev_Mof 323)) (pc := 0) (i := .aload_n 0) (len := 1) (pc' := 1) (lv' := [(0, .ref 621), (1, .int x1)]) (st' := [.ref 621]) (by decide +kernel) rfl) ?_
  refine ev_go0 (ev_w_iconst (M := (ev_Mof 323)) (pc := 1) (k := 0) (v := 0) (by decide +kernel) (by decide +kernel)) ?_
  refine ev_go0 (ev_p_putf (M := (ev_Mof 323)) (pc := 2) (x := 321) (ci := 13) (f := 0) (by decide +kernel) (by decide +kernel) ev_fH621 rfl (by decide +kernel)) ?_
  refine ev_go0 (ev_one_pure (M := (ev_Mof 323)) (pc := 5) (i := .aload_n 0) (len := 1) (pc' := 6) (lv' := [(0, .ref 621), (1, .int x1)]) (st' := [.ref 621]) (by decide +kernel) rfl) ?_
  refine ev_go0 (ev_one_pure (M := (ev_Mof 323)) (pc := 6) (i := .iload_n 1) (len := 1) (pc' := 7) (lv' := [(0, .ref 621), (1, .int x1)]) (st' := [.int x1, .ref 621]) (by decide +kernel) rfl) ?_
  refine ev_go0 (ev_p_virt (M := (ev_Mof 323)) (pc := 7) (x := 710) (mi := 320) (na := 1) (by decide +kernel) (by decide +kernel) (by decide +kernel) (by decide +kernel) rfl rfl (ev_recv_of (ev_hself ev_fH621)) (ev_k72 x1 hu_x1)) ?_
  refine ev_go0 (ev_w_if (M := (ev_Mof 323)) (pc := 10) (q := .ne) (o := 9) (b := false) (t := 13) (by decide +kernel) (by decide +kernel) rfl) ?_
  refine ev_go0 (ev_one_pure (M := (ev_Mof 323)) (pc := 13) (i := .aload_n 0) (len := 1) (pc' := 14) (lv' := [(0, .ref 621), (1, .int x1)]) (st' := [.ref 621]) (by decide +kernel) rfl) ?_
  refine ev_go0 (ev_w_iconst (M := (ev_Mof 323)) (pc := 14) (k := 1) (v := 1) (by decide +kernel) (by decide +kernel)) ?_
  refine ev_go0 (ev_p_virt (M := (ev_Mof 323)) (pc := 15) (x := 342) (mi := 221) (na := 1) (by decide +kernel) (by decide +kernel) (by decide +kernel) (by decide +kernel) rfl rfl (ev_recv_of (ev_hself ev_fH621)) ev_k6) ?_
  rfl
theorem ev_p1_31_n (xs : Nat → Int32) (x1 : Int32) (hu_x1 : x1.toInt ≤ (-1 : Int)) (e1 : xs 1 = x1) : ev_P1 xs 2160 := by
  refine ⟨24, [(6, .int (0)), (5, .int (1)), (4, .int (0)), (3, .ref 723), (2, .ref 621), (1, .ref 0), (0, .retAddr 0)], ((ev_H0.set 621 (.inr (13, (ev_F621.set 0 (.int (0)))))).set 621 (.inr (13, ((ev_F621.set 0 (.int (0))).set 0 (.int (1)))))), 724, 725, 3553592, ?_, ⟨rfl, rfl, rfl, rfl⟩, rfl, by decide, by decide⟩
  show ev_stepn _ _ (2160, [(4, .int (0)), (3, .ref 723), (2, .ref 621), (1, .ref 0), (0, .retAddr 0)], [], _, _, _, _) = _
  refine ev_go0 (ev_one_pure (M := ev_Mlaw) (pc := 2160) (i := .aload_n 1) (len := 1) (pc' := 2161) (lv' := [(4, .int (0)), (3, .ref 723), (2, .ref 621), (1, .ref 0), (0, .retAddr 0)]) (st' := [.ref 0]) (by decide +kernel) rfl) ?_
  refine ev_go0 (ev_one_pure (M := ev_Mlaw) (pc := 2161) (i := .aload_n 0) (len := 1) (pc' := 2162) (lv' := [(4, .int (0)), (3, .ref 723), (2, .ref 621), (1, .ref 0), (0, .retAddr 0)]) (st' := [.retAddr 0, .ref 0]) (by decide +kernel) rfl) ?_
  refine ev_go0 (ev_one_pure (M := ev_Mlaw) (pc := 2162) (i := .iload 4) (len := 2) (pc' := 2164) (lv' := [(4, .int (0)), (3, .ref 723), (2, .ref 621), (1, .ref 0), (0, .retAddr 0)]) (st' := [.int (0), .retAddr 0, .ref 0]) (by decide +kernel) rfl) ?_
  refine ev_go0 (ev_w_iconst (M := ev_Mlaw) (pc := 2164) (k := 1) (v := 1) (by decide +kernel) (by decide +kernel)) ?_
  refine ev_go0 (ev_w_iadd (M := ev_Mlaw) (pc := 2165) (v := (1)) (by decide +kernel) (by decide +kernel)) ?_
  refine ev_go0 (ev_w_scr (M := ev_Mlaw) (pc := 2166) (v := x1) (j := 1) (by decide +kernel) (by decide +kernel) (by decide +kernel) e1) ?_
  refine ev_go0 (ev_one_pure (M := ev_Mlaw) (pc := 2167) (i := .aload_n 3) (len := 1) (pc' := 2168) (lv' := [(4, .int (0)), (3, .ref 723), (2, .ref 621), (1, .ref 0), (0, .retAddr 0)]) (st' := [.ref 723, .int x1, .ref 0]) (by decide +kernel) rfl) ?_
  refine ev_go (ev_w_stat (M := ev_Mlaw) (pc := 2168) (y := 232) (kind := 8) (Or.inr (Or.inr rfl)) (mi := 394) (na := 3) (by decide +kernel) (by decide +kernel) (by decide +kernel) (by decide +kernel) rfl rfl (ev_k80 x1 hu_x1)) ?_
  refine ev_go0 (ev_w_istore (M := ev_Mlaw) (pc := 2171) (k := 5) (lv' := [(5, .int (1)), (4, .int (0)), (3, .ref 723), (2, .ref 621), (1, .ref 0), (0, .retAddr 0)]) (by decide +kernel) (by decide +kernel) rfl) ?_
  refine ev_go0 (ev_one_pure (M := ev_Mlaw) (pc := 2173) (i := .aload_n 2) (len := 1) (pc' := 2174) (lv' := [(5, .int (1)), (4, .int (0)), (3, .ref 723), (2, .ref 621), (1, .ref 0), (0, .retAddr 0)]) (st' := [.ref 621]) (by decide +kernel) rfl) ?_
  refine ev_go0 (ev_one_pure (M := ev_Mlaw) (pc := 2174) (i := .aload_n 0) (len := 1) (pc' := 2175) (lv' := [(5, .int (1)), (4, .int (0)), (3, .ref 723), (2, .ref 621), (1, .ref 0), (0, .retAddr 0)]) (st' := [.retAddr 0, .ref 621]) (by decide +kernel) rfl) ?_
  refine ev_go0 (ev_one_pure (M := ev_Mlaw) (pc := 2175) (i := .iload 4) (len := 2) (pc' := 2177) (lv' := [(5, .int (1)), (4, .int (0)), (3, .ref 723), (2, .ref 621), (1, .ref 0), (0, .retAddr 0)]) (st' := [.int (0), .retAddr 0, .ref 621]) (by decide +kernel) rfl) ?_
  refine ev_go0 (ev_w_iconst (M := ev_Mlaw) (pc := 2177) (k := 1) (v := 1) (by decide +kernel) (by decide +kernel)) ?_
  refine ev_go0 (ev_w_iadd (M := ev_Mlaw) (pc := 2178) (v := (1)) (by decide +kernel) (by decide +kernel)) ?_
  refine ev_go0 (ev_w_scr (M := ev_Mlaw) (pc := 2179) (v := x1) (j := 1) (by decide +kernel) (by decide +kernel) (by decide +kernel) e1) ?_
  refine ev_go0 (ev_p_virt (M := ev_Mlaw) (pc := 2180) (x := 234) (mi := 323) (na := 1) (by decide +kernel) (by decide +kernel) (by decide +kernel) (by decide +kernel) rfl rfl (ev_recv_of ev_fH621) (ev_k81 x1 hu_x1)) ?_
  refine ev_go0 (ev_w_istore (M := ev_Mlaw) (pc := 2183) (k := 6) (lv' := [(6, .int (0)), (5, .int (1)), (4, .int (0)), (3, .ref 723), (2, .ref 621), (1, .ref 0), (0, .retAddr 0)]) (by decide +kernel) (by decide +kernel) rfl) ?_
  refine ev_go0 (ev_one_pure (M := ev_Mlaw) (pc := 2185) (i := .aload_n 2) (len := 1) (pc' := 2186) (lv' := [(6, .int (0)), (5, .int (1)), (4, .int (0)), (3, .ref 723), (2, .ref 621), (1, .ref 0), (0, .retAddr 0)]) (st' := [.ref 621]) (by decide +kernel) rfl) ?_
  refine ev_go0 (ev_p_virt (M := ev_Mlaw) (pc := 2186) (x := 131) (mi := 220) (na := 0) (by decide +kernel) (by decide +kernel) (by decide +kernel) (by decide +kernel) rfl rfl (ev_recv_of (ev_hself (ev_hself ev_fH621))) ev_k8) ?_
  refine ev_go0 (ev_one_pure (M := ev_Mlaw) (pc := 2189) (i := .iload 5) (len := 2) (pc' := 2191) (lv' := [(6, .int (0)), (5, .int (1)), (4, .int (0)), (3, .ref 723), (2, .ref 621), (1, .ref 0), (0, .retAddr 0)]) (st' := [.int (1), .int (1)]) (by decide +kernel) rfl) ?_
  refine ev_go0 (ev_w_icmp (M := ev_Mlaw) (pc := 2191) (q := .eq) (o := 5) (b := true) (t := 2196) (by decide +kernel) (by decide +kernel) rfl) ?_
  refine ev_go0 (ev_one_pure (M := ev_Mlaw) (pc := 2196) (i := .iload 5) (len := 2) (pc' := 2198) (lv' := [(6, .int (0)), (5, .int (1)), (4, .int (0)), (3, .ref 723), (2, .ref 621), (1, .ref 0), (0, .retAddr 0)]) (st' := [.int (1)]) (by decide +kernel) rfl) ?_
  refine ev_go0 (ev_w_if (M := ev_Mlaw) (pc := 2198) (q := .ne) (o := 15) (b := true) (t := 2213) (by decide +kernel) (by decide +kernel) rfl) ?_
  refine ev_go0 (ev_one_pure (M := ev_Mlaw) (pc := 2213) (i := .goto 59) (len := 3) (pc' := 2272) (lv' := [(6, .int (0)), (5, .int (1)), (4, .int (0)), (3, .ref 723), (2, .ref 621), (1, .ref 0), (0, .retAddr 0)]) (st' := []) (by decide +kernel) rfl) ?_
  rfl
theorem ev_k82 (x1 : Int32) (hl_x1 : (0 : Int) ≤ x1.toInt) {n : Nat} : ev_calld 11 197 [.ref 0, .int x1] ev_H0 n = some (.inr "java/lang/IndexOutOfBoundsException", ev_H0, n, 1, 6) := by
  refine ev_call_thrown (k := 6) (pcR := 10) (x := 160) (lv' := [(2, .null), (0, .ref 0), (1, .int x1)]) (by decide +kernel) rfl ?_ (by decide +kernel) (by decide +kernel) (by decide +kernel) (by decide) (by decide)
  show ev_stepn _ 6 (0, [(0, .ref 0), (1, .int x1)], [], _, _, 0, 0) = _
  refine ev_go0 (ev_one_pure (M := (ev_Mof 197)) (pc := 0) (i := .aload_n 0) (len := 1) (pc' := 1) (lv' := [(0, .ref 0), (1, .int x1)]) (st' := [.ref 0]) (by decide +kernel) rfl) ?_
  refine ev_go0 (ev_one_pure (M := (ev_Mof 197)) (pc := 1) (i := .iload_n 1) (len := 1) (pc' := 2) (lv' := [(0, .ref 0), (1, .int x1)]) (st' := [.int x1, .ref 0]) (by decide +kernel) rfl) ?_
  refine ev_go0 (ev_p_virt (M := (ev_Mof 197)) (pc := 2) (x := 351) (mi := 202) (na := 1) (by decide +kernel) (by decide +kernel) (by decide +kernel) (by decide +kernel) rfl rfl (ev_recv_of ev_fH0) (ev_k74 x1 hl_x1)) ?_
  refine ev_go0 (ev_w_astore_n (M := (ev_Mof 197)) (pc := 5) (k := 2) (lv' := [(2, .null), (0, .ref 0), (1, .int x1)]) (by decide +kernel) (by decide +kernel) (Or.inr (Or.inl rfl)) rfl) ?_
  refine ev_go0 (ev_one_pure (M := (ev_Mof 197)) (pc := 6) (i := .aload_n 2) (len := 1) (pc' := 7) (lv' := [(2, .null), (0, .ref 0), (1, .int x1)]) (st' := [.null]) (by decide +kernel) rfl) ?_
  refine ev_go0 (ev_w_ifnonnull (M := (ev_Mof 197)) (pc := 7) (o := 14) (t := 10) (by decide +kernel) (Or.inr ⟨rfl, rfl⟩)) ?_
  rfl
theorem ev_k83 (x1 : Int32) (hl_x1 : (0 : Int) ≤ x1.toInt) {n : Nat} : ev_calld 12 394 [.ref 0, .int x1, .ref 723] ev_H0 n = some (.inl (some (.int (1))), ev_H0, n, 1, 6) := by
  refine ev_call_int (k := 7) (pcR := 14) (lv' := [(3, .retAddr 1), (0, .ref 0), (1, .int x1), (2, .ref 723)]) (v := (1)) (ty := .int) (by decide +kernel) rfl ?_ (by decide +kernel) (by decide +kernel) (by decide +kernel) (by decide)
  show ev_stepn _ 7 (0, [(0, .ref 0), (1, .int x1), (2, .ref 723)], [], _, _, 0, 0) = _
  refine ev_go0 (ev_one_pure (M := (ev_Mof 394)) (pc := 0) (i := .aload_n 2) (len := 1) (pc' := 1) (lv' := [(0, .ref 0), (1, .int x1), (2, .ref 723)]) (st' := [.ref 723]) (by decide +kernel) rfl) ?_
  refine ev_go0 (ev_w_iconst (M := (ev_Mof 394)) (pc := 1) (k := 0) (v := 0) (by decide +kernel) (by decide +kernel)) ?_
  refine ev_go0 (ev_one_pure (M := (ev_Mof 394)) (pc := 2) (i := .aload_n 0) (len := 1) (pc' := 3) (lv' := [(0, .ref 0), (1, .int x1), (2, .ref 723)]) (st' := [.ref 0, .int (0), .ref 723]) (by decide +kernel) rfl) ?_
  refine ev_go0 (ev_one_pure (M := (ev_Mof 394)) (pc := 3) (i := .iload_n 1) (len := 1) (pc' := 4) (lv' := [(0, .ref 0), (1, .int x1), (2, .ref 723)]) (st' := [.int x1, .ref 0, .int (0), .ref 723]) (by decide +kernel) rfl) ?_
  refine ev_go (ev_p_virtX (M := (ev_Mof 394)) (pc := 4) (x := 115) (t := 12) (mi := 197) (na := 1) (by decide +kernel) (by decide +kernel) (by decide +kernel) (by decide +kernel) rfl rfl (ev_recv_of ev_fH0) (ev_k82 x1 hl_x1) (by decide +kernel)) ?_
  refine ev_go0 (ev_w_astore_n (M := (ev_Mof 394)) (pc := 12) (k := 3) (lv' := [(3, .retAddr 1), (0, .ref 0), (1, .int x1), (2, .ref 723)]) (by decide +kernel) (by decide +kernel) (Or.inr (Or.inr ⟨_, rfl⟩)) rfl) ?_
  refine ev_go0 (ev_w_iconst (M := (ev_Mof 394)) (pc := 13) (k := 1) (v := 1) (by decide +kernel) (by decide +kernel)) ?_
  rfl
theorem ev_k84 (x1 : Int32) (hl_x1 : (0 : Int) ≤ x1.toInt) {n : Nat} : ev_calld 12 323 [.ref 621, .int x1] ev_H0 n = some (.inl (some (.int (0))), ((ev_H0.set 621 (.inr (13, (ev_F621.set 0 (.int (0)))))).set 621 (.inr (13, ((ev_F621.set 0 (.int (0))).set 0 (.int (1)))))), n, 0, 0) := by
  refine ev_call_int (k := 10) (pcR := 18) (lv' := [(0, .ref 621), (1, .int x1)]) (v := (0)) (ty := .int) (by decide +kernel) rfl ?_ (by decide +kernel) (by decide +kernel) (by decide +kernel) (by decide)
  show ev_stepn _ 10 (0, [(0, .ref 621), (1, .int x1)], [], _, _, 0, 0) = _
  refine ev_go0 (ev_one_pure (M := (ev_Mof 323)) (pc := 0) (i := .aload_n 0) (len := 1) (pc' := 1) (lv' := [(0, .ref 621), (1, .int x1)]) (st' := [.ref 621]) (by decide +kernel) rfl) ?_
  refine ev_go0 (ev_w_iconst (M := (ev_Mof 323)) (pc := 1) (k := 0) (v := 0) (by decide +kernel) (by decide +kernel)) ?_
  refine ev_go0 (ev_p_putf (M := (ev_Mof 323)) (pc := 2) (x := 321) (ci := 13) (f := 0) (by decide +kernel) (by decide +kernel) ev_fH621 rfl (by decide +kernel)) ?_
  refine ev_go0 (ev_one_pure (M := (ev_Mof 323)) (pc := 5) (i := .aload_n 0) (len := 1) (pc' := 6) (lv' := [(0, .ref 621), (1, .int x1)]) (st' := [.ref 621]) (by decide +kernel) rfl) ?_
  refine ev_go0 (ev_one_pure (M := (ev_Mof 323)) (pc := 6) (i := .iload_n 1) (len := 1) (pc' := 7) (lv' := [(0, .ref 621), (1, .int x1)]) (st' := [.int x1, .ref 621]) (by decide +kernel) rfl) ?_
  refine ev_go0 (ev_p_virt (M := (ev_Mof 323)) (pc := 7) (x := 710) (mi := 320) (na := 1) (by decide +kernel) (by decide +kernel) (by decide +kernel) (by decide +kernel) rfl rfl (ev_recv_of (ev_hself ev_fH621)) (ev_k77 x1 hl_x1)) ?_
  refine ev_go0 (ev_w_if (M := (ev_Mof 323)) (pc := 10) (q := .ne) (o := 9) (b := false) (t := 13) (by decide +kernel) (by decide +kernel) rfl) ?_
  refine ev_go0 (ev_one_pure (M := (ev_Mof 323)) (pc := 13) (i := .aload_n 0) (len := 1) (pc' := 14) (lv' := [(0, .ref 621), (1, .int x1)]) (st' := [.ref 621]) (by decide +kernel) rfl) ?_
  refine ev_go0 (ev_w_iconst (M := (ev_Mof 323)) (pc := 14) (k := 1) (v := 1) (by decide +kernel) (by decide +kernel)) ?_
  refine ev_go0 (ev_p_virt (M := (ev_Mof 323)) (pc := 15) (x := 342) (mi := 221) (na := 1) (by decide +kernel) (by decide +kernel) (by decide +kernel) (by decide +kernel) rfl rfl (ev_recv_of (ev_hself ev_fH621)) ev_k6) ?_
  rfl
theorem ev_p1_31_p (xs : Nat → Int32) (x1 : Int32) (hl_x1 : (0 : Int) ≤ x1.toInt) (e1 : xs 1 = x1) : ev_P1 xs 2160 := by
  refine ⟨24, [(6, .int (0)), (5, .int (1)), (4, .int (0)), (3, .ref 723), (2, .ref 621), (1, .ref 0), (0, .retAddr 0)], ((ev_H0.set 621 (.inr (13, (ev_F621.set 0 (.int (0)))))).set 621 (.inr (13, ((ev_F621.set 0 (.int (0))).set 0 (.int (1)))))), 724, 725, 3553592, ?_, ⟨rfl, rfl, rfl, rfl⟩, rfl, by decide, by decide⟩
  show ev_stepn _ _ (2160, [(4, .int (0)), (3, .ref 723), (2, .ref 621), (1, .ref 0), (0, .retAddr 0)], [], _, _, _, _) = _
  refine ev_go0 (ev_one_pure (M := ev_Mlaw) (pc := 2160) (i := .aload_n 1) (len := 1) (pc' := 2161) (lv' := [(4, .int (0)), (3, .ref 723), (2, .ref 621), (1, .ref 0), (0, .retAddr 0)]) (st' := [.ref 0]) (by decide +kernel) rfl) ?_
  refine ev_go0 (ev_one_pure (M := ev_Mlaw) (pc := 2161) (i := .aload_n 0) (len := 1) (pc' := 2162) (lv' := [(4, .int (0)), (3, .ref 723), (2, .ref 621), (1, .ref 0), (0, .retAddr 0)]) (st' := [.retAddr 0, .ref 0]) (by decide +kernel) rfl) ?_
  refine ev_go0 (ev_one_pure (M := ev_Mlaw) (pc := 2162) (i := .iload 4) (len := 2) (pc' := 2164) (lv' := [(4, .int (0)), (3, .ref 723), (2, .ref 621), (1, .ref 0), (0, .retAddr 0)]) (st' := [.int (0), .retAddr 0, .ref 0]) (by decide +kernel) rfl) ?_
  refine ev_go0 (ev_w_iconst (M := ev_Mlaw) (pc := 2164) (k := 1) (v := 1) (by decide +kernel) (by decide +kernel)) ?_
  refine ev_go0 (ev_w_iadd (M := ev_Mlaw) (pc := 2165) (v := (1)) (by decide +kernel) (by decide +kernel)) ?_
  refine ev_go0 (ev_w_scr (M := ev_Mlaw) (pc := 2166) (v := x1) (j := 1) (by decide +kernel) (by decide +kernel) (by decide +kernel) e1) ?_
  refine ev_go0 (ev_one_pure (M := ev_Mlaw) (pc := 2167) (i := .aload_n 3) (len := 1) (pc' := 2168) (lv' := [(4, .int (0)), (3, .ref 723), (2, .ref 621), (1, .ref 0), (0, .retAddr 0)]) (st' := [.ref 723, .int x1, .ref 0]) (by decide +kernel) rfl) ?_
  refine ev_go (ev_w_stat (M := ev_Mlaw) (pc := 2168) (y := 232) (kind := 8) (Or.inr (Or.inr rfl)) (mi := 394) (na := 3) (by decide +kernel) (by decide +kernel) (by decide +kernel) (by decide +kernel) rfl rfl (ev_k83 x1 hl_x1)) ?_
  refine ev_go0 (ev_w_istore (M := ev_Mlaw) (pc := 2171) (k := 5) (lv' := [(5, .int (1)), (4, .int (0)), (3, .ref 723), (2, .ref 621), (1, .ref 0), (0, .retAddr 0)]) (by decide +kernel) (by decide +kernel) rfl) ?_
  refine ev_go0 (ev_one_pure (M := ev_Mlaw) (pc := 2173) (i := .aload_n 2) (len := 1) (pc' := 2174) (lv' := [(5, .int (1)), (4, .int (0)), (3, .ref 723), (2, .ref 621), (1, .ref 0), (0, .retAddr 0)]) (st' := [.ref 621]) (by decide +kernel) rfl) ?_
  refine ev_go0 (ev_one_pure (M := ev_Mlaw) (pc := 2174) (i := .aload_n 0) (len := 1) (pc' := 2175) (lv' := [(5, .int (1)), (4, .int (0)), (3, .ref 723), (2, .ref 621), (1, .ref 0), (0, .retAddr 0)]) (st' := [.retAddr 0, .ref 621]) (by decide +kernel) rfl) ?_
  refine ev_go0 (ev_one_pure (M := ev_Mlaw) (pc := 2175) (i := .iload 4) (len := 2) (pc' := 2177) (lv' := [(5, .int (1)), (4, .int (0)), (3, .ref 723), (2, .ref 621), (1, .ref 0), (0, .retAddr 0)]) (st' := [.int (0), .retAddr 0, .ref 621]) (by decide +kernel) rfl) ?_
  refine ev_go0 (ev_w_iconst (M := ev_Mlaw) (pc := 2177) (k := 1) (v := 1) (by decide +kernel) (by decide +kernel)) ?_
  refine ev_go0 (ev_w_iadd (M := ev_Mlaw) (pc := 2178) (v := (1)) (by decide +kernel) (by decide +kernel)) ?_
  refine ev_go0 (ev_w_scr (M := ev_Mlaw) (pc := 2179) (v := x1) (j := 1) (by decide +kernel) (by decide +kernel) (by decide +kernel) e1) ?_
  refine ev_go0 (ev_p_virt (M := ev_Mlaw) (pc := 2180) (x := 234) (mi := 323) (na := 1) (by decide +kernel) (by decide +kernel) (by decide +kernel) (by decide +kernel) rfl rfl (ev_recv_of ev_fH621) (ev_k84 x1 hl_x1)) ?_
  refine ev_go0 (ev_w_istore (M := ev_Mlaw) (pc := 2183) (k := 6) (lv' := [(6, .int (0)), (5, .int (1)), (4, .int (0)), (3, .ref 723), (2, .ref 621), (1, .ref 0), (0, .retAddr 0)]) (by decide +kernel) (by decide +kernel) rfl) ?_
  refine ev_go0 (ev_one_pure (M := ev_Mlaw) (pc := 2185) (i := .aload_n 2) (len := 1) (pc' := 2186) (lv' := [(6, .int (0)), (5, .int (1)), (4, .int (0)), (3, .ref 723), (2, .ref 621), (1, .ref 0), (0, .retAddr 0)]) (st' := [.ref 621]) (by decide +kernel) rfl) ?_
  refine ev_go0 (ev_p_virt (M := ev_Mlaw) (pc := 2186) (x := 131) (mi := 220) (na := 0) (by decide +kernel) (by decide +kernel) (by decide +kernel) (by decide +kernel) rfl rfl (ev_recv_of (ev_hself (ev_hself ev_fH621))) ev_k8) ?_
  refine ev_go0 (ev_one_pure (M := ev_Mlaw) (pc := 2189) (i := .iload 5) (len := 2) (pc' := 2191) (lv' := [(6, .int (0)), (5, .int (1)), (4, .int (0)), (3, .ref 723), (2, .ref 621), (1, .ref 0), (0, .retAddr 0)]) (st' := [.int (1), .int (1)]) (by decide +kernel) rfl) ?_
  refine ev_go0 (ev_w_icmp (M := ev_Mlaw) (pc := 2191) (q := .eq) (o := 5) (b := true) (t := 2196) (by decide +kernel) (by decide +kernel) rfl) ?_
  refine ev_go0 (ev_one_pure (M := ev_Mlaw) (pc := 2196) (i := .iload 5) (len := 2) (pc' := 2198) (lv' := [(6, .int (0)), (5, .int (1)), (4, .int (0)), (3, .ref 723), (2, .ref 621), (1, .ref 0), (0, .retAddr 0)]) (st' := [.int (1)]) (by decide +kernel) rfl) ?_
  refine ev_go0 (ev_w_if (M := ev_Mlaw) (pc := 2198) (q := .ne) (o := 15) (b := true) (t := 2213) (by decide +kernel) (by decide +kernel) rfl) ?_
  refine ev_go0 (ev_one_pure (M := ev_Mlaw) (pc := 2213) (i := .goto 59) (len := 3) (pc' := 2272) (lv' := [(6, .int (0)), (5, .int (1)), (4, .int (0)), (3, .ref 723), (2, .ref 621), (1, .ref 0), (0, .retAddr 0)]) (st' := []) (by decide +kernel) rfl) ?_
  rfl
theorem ev_p1arm31 (xs : Nat → Int32) : ev_P1 xs 2160 := by
  rcases ev_split2 (xs 1) with h1 | h1
  · skip
    exact ev_p1_31_n xs (xs 1) h1 rfl
  · skip
    exact ev_p1_31_p xs (xs 1) h1 rfl
theorem ev_k85 (x1 : Int32) (hu_x1 : x1.toInt ≤ (-1 : Int)) {n : Nat} : ev_calld 11 198 [.ref 0, .int x1] ev_H0 n = some (.inr "java/lang/IndexOutOfBoundsException", ev_H0, n, 1, 6) := by
  refine ev_call_thrown (k := 6) (pcR := 10) (x := 160) (lv' := [(2, .null), (0, .ref 0), (1, .int x1)]) (by decide +kernel) rfl ?_ (by decide +kernel) (by decide +kernel) (by decide +kernel) (by decide) (by decide)
  show ev_stepn _ 6 (0, [(0, .ref 0), (1, .int x1)], [], _, _, 0, 0) = _
  refine ev_go0 (ev_one_pure (M := (ev_Mof 198)) (pc := 0) (i := .aload_n 0) (len := 1) (pc' := 1) (lv' := [(0, .ref 0), (1, .int x1)]) (st' := [.ref 0]) (by decide +kernel) rfl) ?_
  refine ev_go0 (ev_one_pure (M := (ev_Mof 198)) (pc := 1) (i := .iload_n 1) (len := 1) (pc' := 2) (lv' := [(0, .ref 0), (1, .int x1)]) (st' := [.int x1, .ref 0]) (by decide +kernel) rfl) ?_
  refine ev_go0 (ev_p_virt (M := (ev_Mof 198)) (pc := 2) (x := 351) (mi := 202) (na := 1) (by decide +kernel) (by decide +kernel) (by decide +kernel) (by decide +kernel) rfl rfl (ev_recv_of ev_fH0) (ev_k69 x1 hu_x1)) ?_
  refine ev_go0 (ev_w_astore_n (M := (ev_Mof 198)) (pc := 5) (k := 2) (lv' := [(2, .null), (0, .ref 0), (1, .int x1)]) (by decide +kernel) (by decide +kernel) (Or.inr (Or.inl rfl)) rfl) ?_
  refine ev_go0 (ev_one_pure (M := (ev_Mof 198)) (pc := 6) (i := .aload_n 2) (len := 1) (pc' := 7) (lv' := [(2, .null), (0, .ref 0), (1, .int x1)]) (st' := [.null]) (by decide +kernel) rfl) ?_
  refine ev_go0 (ev_w_ifnonnull (M := (ev_Mof 198)) (pc := 7) (o := 14) (t := 10) (by decide +kernel) (Or.inr ⟨rfl, rfl⟩)) ?_
  rfl
theorem ev_k86 (x1 : Int32) (hu_x1 : x1.toInt ≤ (-1 : Int)) {n : Nat} : ev_calld 12 395 [.ref 0, .int x1, .ref 723] ev_H0 n = some (.inl (some (.int (1))), ev_H0, n, 1, 6) := by
  refine ev_call_int (k := 7) (pcR := 14) (lv' := [(3, .retAddr 1), (0, .ref 0), (1, .int x1), (2, .ref 723)]) (v := (1)) (ty := .int) (by decide +kernel) rfl ?_ (by decide +kernel) (by decide +kernel) (by decide +kernel) (by decide)
  show ev_stepn _ 7 (0, [(0, .ref 0), (1, .int x1), (2, .ref 723)], [], _, _, 0, 0) = _
  refine ev_go0 (ev_one_pure (M := (ev_Mof 395)) (pc := 0) (i := .aload_n 2) (len := 1) (pc' := 1) (lv' := [(0, .ref 0), (1, .int x1), (2, .ref 723)]) (st' := [.ref 723]) (by decide +kernel) rfl) ?_
  refine ev_go0 (ev_w_iconst (M := (ev_Mof 395)) (pc := 1) (k := 0) (v := 0) (by decide +kernel) (by decide +kernel)) ?_
  refine ev_go0 (ev_one_pure (M := (ev_Mof 395)) (pc := 2) (i := .aload_n 0) (len := 1) (pc' := 3) (lv' := [(0, .ref 0), (1, .int x1), (2, .ref 723)]) (st' := [.ref 0, .int (0), .ref 723]) (by decide +kernel) rfl) ?_
  refine ev_go0 (ev_one_pure (M := (ev_Mof 395)) (pc := 3) (i := .iload_n 1) (len := 1) (pc' := 4) (lv' := [(0, .ref 0), (1, .int x1), (2, .ref 723)]) (st' := [.int x1, .ref 0, .int (0), .ref 723]) (by decide +kernel) rfl) ?_
  refine ev_go (ev_p_virtX (M := (ev_Mof 395)) (pc := 4) (x := 118) (t := 12) (mi := 198) (na := 1) (by decide +kernel) (by decide +kernel) (by decide +kernel) (by decide +kernel) rfl rfl (ev_recv_of ev_fH0) (ev_k85 x1 hu_x1) (by decide +kernel)) ?_
  refine ev_go0 (ev_w_astore_n (M := (ev_Mof 395)) (pc := 12) (k := 3) (lv' := [(3, .retAddr 1), (0, .ref 0), (1, .int x1), (2, .ref 723)]) (by decide +kernel) (by decide +kernel) (Or.inr (Or.inr ⟨_, rfl⟩)) rfl) ?_
  refine ev_go0 (ev_w_iconst (M := (ev_Mof 395)) (pc := 13) (k := 1) (v := 1) (by decide +kernel) (by decide +kernel)) ?_
  rfl
theorem ev_k87 (x1 : Int32) (hu_x1 : x1.toInt ≤ (-1 : Int)) {n : Nat} : ev_calld 12 324 [.ref 621, .int x1] ev_H0 n = some (.inl (some (.int (0))), ((ev_H0.set 621 (.inr (13, (ev_F621.set 0 (.int (0)))))).set 621 (.inr (13, ((ev_F621.set 0 (.int (0))).set 0 (.int (1)))))), n, 0, 0) := by
  refine ev_call_int (k := 10) (pcR := 26) (lv' := [(0, .ref 621), (1, .int x1)]) (v := (0)) (ty := .int) (by decide +kernel) rfl ?_ (by decide +kernel) (by decide +kernel) (by decide +kernel) (by decide)
  show ev_stepn _ 10 (0, [(0, .ref 621), (1, .int x1)], [], _, _, 0, 0) = _
  refine ev_go0 (ev_one_pure (M := (ev_Mof 324)) (pc := 0) (i := .aload_n 0) (len := 1) (pc' := 1) (lv' := [(0, .ref 621), (1, .int x1)]) (st' := [.ref 621]) (by decide +kernel) rfl) ?_
  refine ev_go0 (ev_w_iconst (M := (ev_Mof 324)) (pc := 1) (k := 0) (v := 0) (by decide +kernel) (by decide +kernel)) ?_
  refine ev_go0 (ev_p_putf (M := (ev_Mof 324)) (pc := 2) (x := 321) (ci := 13) (f := 0) (by decide +kernel) (by decide +kernel) ev_fH621 rfl (by decide +kernel)) ?_
  refine ev_go0 (ev_one_pure (M := (ev_Mof 324)) (pc := 5) (i := .aload_n 0) (len := 1) (pc' := 6) (lv' := [(0, .ref 621), (1, .int x1)]) (st' := [.ref 621]) (by decide +kernel) rfl) ?_
  refine ev_go0 (ev_one_pure (M := (ev_Mof 324)) (pc := 6) (i := .iload_n 1) (len := 1) (pc' := 7) (lv' := [(0, .ref 621), (1, .int x1)]) (st' := [.int x1, .ref 621]) (by decide +kernel) rfl) ?_
  refine ev_go0 (ev_p_virt (M := (ev_Mof 324)) (pc := 7) (x := 710) (mi := 320) (na := 1) (by decide +kernel) (by decide +kernel) (by decide +kernel) (by decide +kernel) rfl rfl (ev_recv_of (ev_hself ev_fH621)) (ev_k72 x1 hu_x1)) ?_
  refine ev_go0 (ev_w_if (M := (ev_Mof 324)) (pc := 10) (q := .eq) (o := 11) (b := true) (t := 21) (by decide +kernel) (by decide +kernel) rfl) ?_
  refine ev_go0 (ev_one_pure (M := (ev_Mof 324)) (pc := 21) (i := .aload_n 0) (len := 1) (pc' := 22) (lv' := [(0, .ref 621), (1, .int x1)]) (st' := [.ref 621]) (by decide +kernel) rfl) ?_
  refine ev_go0 (ev_w_iconst (M := (ev_Mof 324)) (pc := 22) (k := 1) (v := 1) (by decide +kernel) (by decide +kernel)) ?_
  refine ev_go0 (ev_p_virt (M := (ev_Mof 324)) (pc := 23) (x := 342) (mi := 221) (na := 1) (by decide +kernel) (by decide +kernel) (by decide +kernel) (by decide +kernel) rfl rfl (ev_recv_of (ev_hself ev_fH621)) ev_k6) ?_
  rfl
theorem ev_p1_32_n (xs : Nat → Int32) (x1 : Int32) (hu_x1 : x1.toInt ≤ (-1 : Int)) (e1 : xs 1 = x1) : ev_P1 xs 2216 := by
  refine ⟨24, [(6, .int (0)), (5, .int (1)), (4, .int (0)), (3, .ref 723), (2, .ref 621), (1, .ref 0), (0, .retAddr 0)], ((ev_H0.set 621 (.inr (13, (ev_F621.set 0 (.int (0)))))).set 621 (.inr (13, ((ev_F621.set 0 (.int (0))).set 0 (.int (1)))))), 724, 725, 3553592, ?_, ⟨rfl, rfl, rfl, rfl⟩, rfl, by decide, by decide⟩
  show ev_stepn _ _ (2216, [(4, .int (0)), (3, .ref 723), (2, .ref 621), (1, .ref 0), (0, .retAddr 0)], [], _, _, _, _) = _
  refine ev_go0 (ev_one_pure (M := ev_Mlaw) (pc := 2216) (i := .aload_n 1) (len := 1) (pc' := 2217) (lv' := [(4, .int (0)), (3, .ref 723), (2, .ref 621), (1, .ref 0), (0, .retAddr 0)]) (st' := [.ref 0]) (by decide +kernel) rfl) ?_
  refine ev_go0 (ev_one_pure (M := ev_Mlaw) (pc := 2217) (i := .aload_n 0) (len := 1) (pc' := 2218) (lv' := [(4, .int (0)), (3, .ref 723), (2, .ref 621), (1, .ref 0), (0, .retAddr 0)]) (st' := [.retAddr 0, .ref 0]) (by decide +kernel) rfl) ?_
  refine ev_go0 (ev_one_pure (M := ev_Mlaw) (pc := 2218) (i := .iload 4) (len := 2) (pc' := 2220) (lv' := [(4, .int (0)), (3, .ref 723), (2, .ref 621), (1, .ref 0), (0, .retAddr 0)]) (st' := [.int (0), .retAddr 0, .ref 0]) (by decide +kernel) rfl) ?_
  refine ev_go0 (ev_w_iconst (M := ev_Mlaw) (pc := 2220) (k := 1) (v := 1) (by decide +kernel) (by decide +kernel)) ?_
  refine ev_go0 (ev_w_iadd (M := ev_Mlaw) (pc := 2221) (v := (1)) (by decide +kernel) (by decide +kernel)) ?_
  refine ev_go0 (ev_w_scr (M := ev_Mlaw) (pc := 2222) (v := x1) (j := 1) (by decide +kernel) (by decide +kernel) (by decide +kernel) e1) ?_
  refine ev_go0 (ev_one_pure (M := ev_Mlaw) (pc := 2223) (i := .aload_n 3) (len := 1) (pc' := 2224) (lv' := [(4, .int (0)), (3, .ref 723), (2, .ref 621), (1, .ref 0), (0, .retAddr 0)]) (st' := [.ref 723, .int x1, .ref 0]) (by decide +kernel) rfl) ?_
  refine ev_go (ev_w_stat (M := ev_Mlaw) (pc := 2224) (y := 235) (kind := 8) (Or.inr (Or.inr rfl)) (mi := 395) (na := 3) (by decide +kernel) (by decide +kernel) (by decide +kernel) (by decide +kernel) rfl rfl (ev_k86 x1 hu_x1)) ?_
  refine ev_go0 (ev_w_istore (M := ev_Mlaw) (pc := 2227) (k := 5) (lv' := [(5, .int (1)), (4, .int (0)), (3, .ref 723), (2, .ref 621), (1, .ref 0), (0, .retAddr 0)]) (by decide +kernel) (by decide +kernel) rfl) ?_
  refine ev_go0 (ev_one_pure (M := ev_Mlaw) (pc := 2229) (i := .aload_n 2) (len := 1) (pc' := 2230) (lv' := [(5, .int (1)), (4, .int (0)), (3, .ref 723), (2, .ref 621), (1, .ref 0), (0, .retAddr 0)]) (st' := [.ref 621]) (by decide +kernel) rfl) ?_
  refine ev_go0 (ev_one_pure (M := ev_Mlaw) (pc := 2230) (i := .aload_n 0) (len := 1) (pc' := 2231) (lv' := [(5, .int (1)), (4, .int (0)), (3, .ref 723), (2, .ref 621), (1, .ref 0), (0, .retAddr 0)]) (st' := [.retAddr 0, .ref 621]) (by decide +kernel) rfl) ?_
  refine ev_go0 (ev_one_pure (M := ev_Mlaw) (pc := 2231) (i := .iload 4) (len := 2) (pc' := 2233) (lv' := [(5, .int (1)), (4, .int (0)), (3, .ref 723), (2, .ref 621), (1, .ref 0), (0, .retAddr 0)]) (st' := [.int (0), .retAddr 0, .ref 621]) (by decide +kernel) rfl) ?_
  refine ev_go0 (ev_w_iconst (M := ev_Mlaw) (pc := 2233) (k := 1) (v := 1) (by decide +kernel) (by decide +kernel)) ?_
  refine ev_go0 (ev_w_iadd (M := ev_Mlaw) (pc := 2234) (v := (1)) (by decide +kernel) (by decide +kernel)) ?_
  refine ev_go0 (ev_w_scr (M := ev_Mlaw) (pc := 2235) (v := x1) (j := 1) (by decide +kernel) (by decide +kernel) (by decide +kernel) e1) ?_
  refine ev_go0 (ev_p_virt (M := ev_Mlaw) (pc := 2236) (x := 237) (mi := 324) (na := 1) (by decide +kernel) (by decide +kernel) (by decide +kernel) (by decide +kernel) rfl rfl (ev_recv_of ev_fH621) (ev_k87 x1 hu_x1)) ?_
  refine ev_go0 (ev_w_istore (M := ev_Mlaw) (pc := 2239) (k := 6) (lv' := [(6, .int (0)), (5, .int (1)), (4, .int (0)), (3, .ref 723), (2, .ref 621), (1, .ref 0), (0, .retAddr 0)]) (by decide +kernel) (by decide +kernel) rfl) ?_
  refine ev_go0 (ev_one_pure (M := ev_Mlaw) (pc := 2241) (i := .aload_n 2) (len := 1) (pc' := 2242) (lv' := [(6, .int (0)), (5, .int (1)), (4, .int (0)), (3, .ref 723), (2, .ref 621), (1, .ref 0), (0, .retAddr 0)]) (st' := [.ref 621]) (by decide +kernel) rfl) ?_
  refine ev_go0 (ev_p_virt (M := ev_Mlaw) (pc := 2242) (x := 131) (mi := 220) (na := 0) (by decide +kernel) (by decide +kernel) (by decide +kernel) (by decide +kernel) rfl rfl (ev_recv_of (ev_hself (ev_hself ev_fH621))) ev_k8) ?_
  refine ev_go0 (ev_one_pure (M := ev_Mlaw) (pc := 2245) (i := .iload 5) (len := 2) (pc' := 2247) (lv' := [(6, .int (0)), (5, .int (1)), (4, .int (0)), (3, .ref 723), (2, .ref 621), (1, .ref 0), (0, .retAddr 0)]) (st' := [.int (1), .int (1)]) (by decide +kernel) rfl) ?_
  refine ev_go0 (ev_w_icmp (M := ev_Mlaw) (pc := 2247) (q := .eq) (o := 5) (b := true) (t := 2252) (by decide +kernel) (by decide +kernel) rfl) ?_
  refine ev_go0 (ev_one_pure (M := ev_Mlaw) (pc := 2252) (i := .iload 5) (len := 2) (pc' := 2254) (lv' := [(6, .int (0)), (5, .int (1)), (4, .int (0)), (3, .ref 723), (2, .ref 621), (1, .ref 0), (0, .retAddr 0)]) (st' := [.int (1)]) (by decide +kernel) rfl) ?_
  refine ev_go0 (ev_w_if (M := ev_Mlaw) (pc := 2254) (q := .ne) (o := 15) (b := true) (t := 2269) (by decide +kernel) (by decide +kernel) rfl) ?_
  refine ev_go0 (ev_one_pure (M := ev_Mlaw) (pc := 2269) (i := .goto 3) (len := 3) (pc' := 2272) (lv' := [(6, .int (0)), (5, .int (1)), (4, .int (0)), (3, .ref 723), (2, .ref 621), (1, .ref 0), (0, .retAddr 0)]) (st' := []) (by decide +kernel) rfl) ?_
  rfl
theorem ev_k88 (x1 : Int32) (hl_x1 : (0 : Int) ≤ x1.toInt) {n : Nat} : ev_calld 11 198 [.ref 0, .int x1] ev_H0 n = some (.inr "java/lang/IndexOutOfBoundsException", ev_H0, n, 1, 6) := by
  refine ev_call_thrown (k := 6) (pcR := 10) (x := 160) (lv' := [(2, .null), (0, .ref 0), (1, .int x1)]) (by decide +kernel) rfl ?_ (by decide +kernel) (by decide +kernel) (by decide +kernel) (by decide) (by decide)
  show ev_stepn _ 6 (0, [(0, .ref 0), (1, .int x1)], [], _, _, 0, 0) = _
  refine ev_go0 (ev_one_pure (M := (ev_Mof 198)) (pc := 0) (i := .aload_n 0) (len := 1) (pc' := 1) (lv' := [(0, .ref 0), (1, .int x1)]) (st' := [.ref 0]) (by decide +kernel) rfl) ?_
  refine ev_go0 (ev_one_pure (M := (ev_Mof 198)) (pc := 1) (i := .iload_n 1) (len := 1) (pc' := 2) (lv' := [(0, .ref 0), (1, .int x1)]) (st' := [.int x1, .ref 0]) (by decide +kernel) rfl) ?_
  refine ev_go0 (ev_p_virt (M := (ev_Mof 198)) (pc := 2) (x := 351) (mi := 202) (na := 1) (by decide +kernel) (by decide +kernel) (by decide +kernel) (by decide +kernel) rfl rfl (ev_recv_of ev_fH0) (ev_k74 x1 hl_x1)) ?_
  refine ev_go0 (ev_w_astore_n (M := (ev_Mof 198)) (pc := 5) (k := 2) (lv' := [(2, .null), (0, .ref 0), (1, .int x1)]) (by decide +kernel) (by decide +kernel) (Or.inr (Or.inl rfl)) rfl) ?_
  refine ev_go0 (ev_one_pure (M := (ev_Mof 198)) (pc := 6) (i := .aload_n 2) (len := 1) (pc' := 7) (lv' := [(2, .null), (0, .ref 0), (1, .int x1)]) (st' := [.null]) (by decide +kernel) rfl) ?_
  refine ev_go0 (ev_w_ifnonnull (M := (ev_Mof 198)) (pc := 7) (o := 14) (t := 10) (by decide +kernel) (Or.inr ⟨rfl, rfl⟩)) ?_
  rfl
theorem ev_k89 (x1 : Int32) (hl_x1 : (0 : Int) ≤ x1.toInt) {n : Nat} : ev_calld 12 395 [.ref 0, .int x1, .ref 723] ev_H0 n = some (.inl (some (.int (1))), ev_H0, n, 1, 6) := by
  refine ev_call_int (k := 7) (pcR := 14) (lv' := [(3, .retAddr 1), (0, .ref 0), (1, .int x1), (2, .ref 723)]) (v := (1)) (ty := .int) (by decide +kernel) rfl ?_ (by decide +kernel) (by decide +kernel) (by decide +kernel) (by decide)
  show ev_stepn _ 7 (0, [(0, .ref 0), (1, .int x1), (2, .ref 723)], [], _, _, 0, 0) = _
  refine ev_go0 (ev_one_pure (M := (ev_Mof 395)) (pc := 0) (i := .aload_n 2) (len := 1) (pc' := 1) (lv' := [(0, .ref 0), (1, .int x1), (2, .ref 723)]) (st' := [.ref 723]) (by decide +kernel) rfl) ?_
  refine ev_go0 (ev_w_iconst (M := (ev_Mof 395)) (pc := 1) (k := 0) (v := 0) (by decide +kernel) (by decide +kernel)) ?_
  refine ev_go0 (ev_one_pure (M := (ev_Mof 395)) (pc := 2) (i := .aload_n 0) (len := 1) (pc' := 3) (lv' := [(0, .ref 0), (1, .int x1), (2, .ref 723)]) (st' := [.ref 0, .int (0), .ref 723]) (by decide +kernel) rfl) ?_
  refine ev_go0 (ev_one_pure (M := (ev_Mof 395)) (pc := 3) (i := .iload_n 1) (len := 1) (pc' := 4) (lv' := [(0, .ref 0), (1, .int x1), (2, .ref 723)]) (st' := [.int x1, .ref 0, .int (0), .ref 723]) (by decide +kernel) rfl) ?_
  refine ev_go (ev_p_virtX (M := (ev_Mof 395)) (pc := 4) (x := 118) (t := 12) (mi := 198) (na := 1) (by decide +kernel) (by decide +kernel) (by decide +kernel) (by decide +kernel) rfl rfl (ev_recv_of ev_fH0) (ev_k88 x1 hl_x1) (by decide +kernel)) ?_
  refine ev_go0 (ev_w_astore_n (M := (ev_Mof 395)) (pc := 12) (k := 3) (lv' := [(3, .retAddr 1), (0, .ref 0), (1, .int x1), (2, .ref 723)]) (by decide +kernel) (by decide +kernel) (Or.inr (Or.inr ⟨_, rfl⟩)) rfl) ?_
  refine ev_go0 (ev_w_iconst (M := (ev_Mof 395)) (pc := 13) (k := 1) (v := 1) (by decide +kernel) (by decide +kernel)) ?_
  rfl
theorem ev_k90 (x1 : Int32) (hl_x1 : (0 : Int) ≤ x1.toInt) {n : Nat} : ev_calld 12 324 [.ref 621, .int x1] ev_H0 n = some (.inl (some (.int (0))), ((ev_H0.set 621 (.inr (13, (ev_F621.set 0 (.int (0)))))).set 621 (.inr (13, ((ev_F621.set 0 (.int (0))).set 0 (.int (1)))))), n, 0, 0) := by
  refine ev_call_int (k := 10) (pcR := 26) (lv' := [(0, .ref 621), (1, .int x1)]) (v := (0)) (ty := .int) (by decide +kernel) rfl ?_ (by decide +kernel) (by decide +kernel) (by decide +kernel) (by decide)
  show ev_stepn _ 10 (0, [(0, .ref 621), (1, .int x1)], [], _, _, 0, 0) = _
  refine ev_go0 (ev_one_pure (M := (ev_Mof 324)) (pc := 0) (i := .aload_n 0) (len := 1) (pc' := 1) (lv' := [(0, .ref 621), (1, .int x1)]) (st' := [.ref 621]) (by decide +kernel) rfl) ?_
  refine ev_go0 (ev_w_iconst (M := (ev_Mof 324)) (pc := 1) (k := 0) (v := 0) (by decide +kernel) (by decide +kernel)) ?_
  refine ev_go0 (ev_p_putf (M := (ev_Mof 324)) (pc := 2) (x := 321) (ci := 13) (f := 0) (by decide +kernel) (by decide +kernel) ev_fH621 rfl (by decide +kernel)) ?_
  refine ev_go0 (ev_one_pure (M := (ev_Mof 324)) (pc := 5) (i := .aload_n 0) (len := 1) (pc' := 6) (lv' := [(0, .ref 621), (1, .int x1)]) (st' := [.ref 621]) (by decide +kernel) rfl) ?_
  refine ev_go0 (ev_one_pure (M := (ev_Mof 324)) (pc := 6) (i := .iload_n 1) (len := 1) (pc' := 7) (lv' := [(0, .ref 621), (1, .int x1)]) (st' := [.int x1, .ref 621]) (by decide +kernel) rfl) ?_
  refine ev_go0 (ev_p_virt (M := (ev_Mof 324)) (pc := 7) (x := 710) (mi := 320) (na := 1) (by decide +kernel) (by decide +kernel) (by decide +kernel) (by decide +kernel) rfl rfl (ev_recv_of (ev_hself ev_fH621)) (ev_k77 x1 hl_x1)) ?_
  refine ev_go0 (ev_w_if (M := (ev_Mof 324)) (pc := 10) (q := .eq) (o := 11) (b := true) (t := 21) (by decide +kernel) (by decide +kernel) rfl) ?_
  refine ev_go0 (ev_one_pure (M := (ev_Mof 324)) (pc := 21) (i := .aload_n 0) (len := 1) (pc' := 22) (lv' := [(0, .ref 621), (1, .int x1)]) (st' := [.ref 621]) (by decide +kernel) rfl) ?_
  refine ev_go0 (ev_w_iconst (M := (ev_Mof 324)) (pc := 22) (k := 1) (v := 1) (by decide +kernel) (by decide +kernel)) ?_
  refine ev_go0 (ev_p_virt (M := (ev_Mof 324)) (pc := 23) (x := 342) (mi := 221) (na := 1) (by decide +kernel) (by decide +kernel) (by decide +kernel) (by decide +kernel) rfl rfl (ev_recv_of (ev_hself ev_fH621)) ev_k6) ?_
  rfl
theorem ev_p1_32_p (xs : Nat → Int32) (x1 : Int32) (hl_x1 : (0 : Int) ≤ x1.toInt) (e1 : xs 1 = x1) : ev_P1 xs 2216 := by
  refine ⟨24, [(6, .int (0)), (5, .int (1)), (4, .int (0)), (3, .ref 723), (2, .ref 621), (1, .ref 0), (0, .retAddr 0)], ((ev_H0.set 621 (.inr (13, (ev_F621.set 0 (.int (0)))))).set 621 (.inr (13, ((ev_F621.set 0 (.int (0))).set 0 (.int (1)))))), 724, 725, 3553592, ?_, ⟨rfl, rfl, rfl, rfl⟩, rfl, by decide, by decide⟩
  show ev_stepn _ _ (2216, [(4, .int (0)), (3, .ref 723), (2, .ref 621), (1, .ref 0), (0, .retAddr 0)], [], _, _, _, _) = _
  refine ev_go0 (ev_one_pure (M := ev_Mlaw) (pc := 2216) (i := .aload_n 1) (len := 1) (pc' := 2217) (lv' := [(4, .int (0)), (3, .ref 723), (2, .ref 621), (1, .ref 0), (0, .retAddr 0)]) (st' := [.ref 0]) (by decide +kernel) rfl) ?_
  refine ev_go0 (ev_one_pure (M := ev_Mlaw) (pc := 2217) (i := .aload_n 0) (len := 1) (pc' := 2218) (lv' := [(4, .int (0)), (3, .ref 723), (2, .ref 621), (1, .ref 0), (0, .retAddr 0)]) (st' := [.retAddr 0, .ref 0]) (by decide +kernel) rfl) ?_
  refine ev_go0 (ev_one_pure (M := ev_Mlaw) (pc := 2218) (i := .iload 4) (len := 2) (pc' := 2220) (lv' := [(4, .int (0)), (3, .ref 723), (2, .ref 621), (1, .ref 0), (0, .retAddr 0)]) (st' := [.int (0), .retAddr 0, .ref 0]) (by decide +kernel) rfl) ?_
  refine ev_go0 (ev_w_iconst (M := ev_Mlaw) (pc := 2220) (k := 1) (v := 1) (by decide +kernel) (by decide +kernel)) ?_
  refine ev_go0 (ev_w_iadd (M := ev_Mlaw) (pc := 2221) (v := (1)) (by decide +kernel) (by decide +kernel)) ?_
  refine ev_go0 (ev_w_scr (M := ev_Mlaw) (pc := 2222) (v := x1) (j := 1) (by decide +kernel) (by decide +kernel) (by decide +kernel) e1) ?_
  refine ev_go0 (ev_one_pure (M := ev_Mlaw) (pc := 2223) (i := .aload_n 3) (len := 1) (pc' := 2224) (lv' := [(4, .int (0)), (3, .ref 723), (2, .ref 621), (1, .ref 0), (0, .retAddr 0)]) (st' := [.ref 723, .int x1, .ref 0]) (by decide +kernel) rfl) ?_
  refine ev_go (ev_w_stat (M := ev_Mlaw) (pc := 2224) (y := 235) (kind := 8) (Or.inr (Or.inr rfl)) (mi := 395) (na := 3) (by decide +kernel) (by decide +kernel) (by decide +kernel) (by decide +kernel) rfl rfl (ev_k89 x1 hl_x1)) ?_
  refine ev_go0 (ev_w_istore (M := ev_Mlaw) (pc := 2227) (k := 5) (lv' := [(5, .int (1)), (4, .int (0)), (3, .ref 723), (2, .ref 621), (1, .ref 0), (0, .retAddr 0)]) (by decide +kernel) (by decide +kernel) rfl) ?_
  refine ev_go0 (ev_one_pure (M := ev_Mlaw) (pc := 2229) (i := .aload_n 2) (len := 1) (pc' := 2230) (lv' := [(5, .int (1)), (4, .int (0)), (3, .ref 723), (2, .ref 621), (1, .ref 0), (0, .retAddr 0)]) (st' := [.ref 621]) (by decide +kernel) rfl) ?_
  refine ev_go0 (ev_one_pure (M := ev_Mlaw) (pc := 2230) (i := .aload_n 0) (len := 1) (pc' := 2231) (lv' := [(5, .int (1)), (4, .int (0)), (3, .ref 723), (2, .ref 621), (1, .ref 0), (0, .retAddr 0)]) (st' := [.retAddr 0, .ref 621]) (by decide +kernel) rfl) ?_
  refine ev_go0 (ev_one_pure (M := ev_Mlaw) (pc := 2231) (i := .iload 4) (len := 2) (pc' := 2233) (lv' := [(5, .int (1)), (4, .int (0)), (3, .ref 723), (2, .ref 621), (1, .ref 0), (0, .retAddr 0)]) (st' := [.int (0), .retAddr 0, .ref 621]) (by decide +kernel) rfl) ?_
  refine ev_go0 (ev_w_iconst (M := ev_Mlaw) (pc := 2233) (k := 1) (v := 1) (by decide +kernel) (by decide +kernel)) ?_
  refine ev_go0 (ev_w_iadd (M := ev_Mlaw) (pc := 2234) (v := (1)) (by decide +kernel) (by decide +kernel)) ?_
  refine ev_go0 (ev_w_scr (M := ev_Mlaw) (pc := 2235) (v := x1) (j := 1) (by decide +kernel) (by decide +kernel) (by decide +kernel) e1) ?_
  refine ev_go0 (ev_p_virt (M := ev_Mlaw) (pc := 2236) (x := 237) (mi := 324) (na := 1) (by decide +kernel) (by decide +kernel) (by decide +kernel) (by decide +kernel) rfl rfl (ev_recv_of ev_fH621) (ev_k90 x1 hl_x1)) ?_
  refine ev_go0 (ev_w_istore (M := ev_Mlaw) (pc := 2239) (k := 6) (lv' := [(6, .int (0)), (5, .int (1)), (4, .int (0)), (3, .ref 723), (2, .ref 621), (1, .ref 0), (0, .retAddr 0)]) (by decide +kernel) (by decide +kernel) rfl) ?_
  refine ev_go0 (ev_one_pure (M := ev_Mlaw) (pc := 2241) (i := .aload_n 2) (len := 1) (pc' := 2242) (lv' := [(6, .int (0)), (5, .int (1)), (4, .int (0)), (3, .ref 723), (2, .ref 621), (1, .ref 0), (0, .retAddr 0)]) (st' := [.ref 621]) (by decide +kernel) rfl) ?_
  refine ev_go0 (ev_p_virt (M := ev_Mlaw) (pc := 2242) (x := 131) (mi := 220) (na := 0) (by decide +kernel) (by decide +kernel) (by decide +kernel) (by decide +kernel) rfl rfl (ev_recv_of (ev_hself (ev_hself ev_fH621))) ev_k8) ?_
  refine ev_go0 (ev_one_pure (M := ev_Mlaw) (pc := 2245) (i := .iload 5) (len := 2) (pc' := 2247) (lv' := [(6, .int (0)), (5, .int (1)), (4, .int (0)), (3, .ref 723), (2, .ref 621), (1, .ref 0), (0, .retAddr 0)]) (st' := [.int (1), .int (1)]) (by decide +kernel) rfl) ?_
  refine ev_go0 (ev_w_icmp (M := ev_Mlaw) (pc := 2247) (q := .eq) (o := 5) (b := true) (t := 2252) (by decide +kernel) (by decide +kernel) rfl) ?_
  refine ev_go0 (ev_one_pure (M := ev_Mlaw) (pc := 2252) (i := .iload 5) (len := 2) (pc' := 2254) (lv' := [(6, .int (0)), (5, .int (1)), (4, .int (0)), (3, .ref 723), (2, .ref 621), (1, .ref 0), (0, .retAddr 0)]) (st' := [.int (1)]) (by decide +kernel) rfl) ?_
  refine ev_go0 (ev_w_if (M := ev_Mlaw) (pc := 2254) (q := .ne) (o := 15) (b := true) (t := 2269) (by decide +kernel) (by decide +kernel) rfl) ?_
  refine ev_go0 (ev_one_pure (M := ev_Mlaw) (pc := 2269) (i := .goto 3) (len := 3) (pc' := 2272) (lv' := [(6, .int (0)), (5, .int (1)), (4, .int (0)), (3, .ref 723), (2, .ref 621), (1, .ref 0), (0, .retAddr 0)]) (st' := []) (by decide +kernel) rfl) ?_
  rfl
theorem ev_p1arm32 (xs : Nat → Int32) : ev_P1 xs 2216 := by
  rcases ev_split2 (xs 1) with h1 | h1
  · skip
    exact ev_p1_32_n xs (xs 1) h1 rfl
  · skip
    exact ev_p1_32_p xs (xs 1) h1 rfl
