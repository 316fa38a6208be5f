def ev_HLa3 : List ev_E := (((((ev_H0.set 254 (.inr (0, [.ref 255, .ref 256, .ref 257, .ref 258, .int (0), .ref 259, .ref 260, .ref 261, .ref 262, .int (1), .int (0), .int (0), .int (1), .int (1), .int (0)]))).set 259 (.inl (.array .int, 512, [(0, .ref 724)]))).set 261 (.inl (.int, 1024, [(0, .int (1))]))).set 723 (.inl (.long, 1, [(0, .long (0))]))) ++ [(.inl (.int, 1024, [(0, .int (0))]))])
theorem ev_HLa3_z : ev_zchkH (ev_calld 12 380 [.ref 0, .int (0), .ref 723] ev_H0 724) (some (.int (0))) 725 1 1024 ev_HLa3 = true := by decide +kernel
def ev_HLa4 : List ev_E := ((((((((((ev_H0.set 254 (.inr (0, [.ref 255, .ref 256, .ref 257, .ref 258, .int (0), .ref 259, .ref 260, .ref 261, .ref 262, .int (1), .int (0), .int (0), .int (1), .int (1), .int (0)]))).set 259 (.inl (.array .int, 512, [(0, .ref 724)]))).set 261 (.inl (.int, 1024, [(0, .int (1))]))).set 621 (.inr (13, [.int (0), .int (0), .ref 622, .ref 623, .ref 624, .int (0), .ref 625, .ref 626, .ref 627, .ref 628, .ref 629, .ref 630, .ref 631, .ref 632, .ref 633, .ref 634, .ref 635, .ref 636, .ref 637, .ref 638, .ref 639, .ref 640, .ref 641, .ref 642, .ref 643, .int (0), .int (0), .int (0), .int (0), .ref 644, .ref 645, .int (0), .ref 646, .ref 647, .ref 648, .ref 649, .ref 650, .int (0), .int (0), .int (0), .int (0), .long (0), .long (0), .ref 651, .ref 652, .ref 653, .ref 654, .ref 655, .ref 656, .ref 657, .ref 658, .ref 659, .ref 660, .ref 661, .int (0), .ref 662, .ref 663, .ref 664, .ref 665, .int (0), .ref 666, .ref 667, .ref 668, .ref 669, .ref 670, .ref 671, .ref 672, .ref 673, .int (0), .ref 674, .ref 675, .ref 676, .ref 677, .int (0), .ref 678, .int (0), .int (0), .int (0), .int (0), .int (0), .int (0), .int (0), .int (0), .int (0), .int (0), .int (0), .ref 679, .ref 680, .int (0), .ref 681, .ref 682, .ref 683, .ref 684, .ref 685, .ref 686, .int (0), .ref 687, .ref 688, .ref 689, .ref 690, .ref 691, .ref 692, .ref 693, .ref 694, .ref 695, .int (0), .ref 696, .ref 697, .ref 698, .ref 699, .int (0), .ref 700, .ref 701, .int (0), .ref 702, .ref 703, .ref 704, .ref 705, .ref 706, .ref 707, .ref 708, .int (0), .ref 709, .ref 710, .ref 711, .int (1), .int (0), .ref 712, .int (0), .ref 713, .int (1), .int (1), .int (0), .ref 714, .ref 715, .int (0), .int (0), .ref 716, .ref 717, .int (0), .ref 718, .ref 719, .ref 720, .ref 721, .ref 722]))).set 707 (.inl (.int, 3, [(0, .int (0))]))).set 712 (.inl (.int, 420000, [(0, .int (0))]))).set 714 (.inl (.int, 2000, [(0, .int (1))]))).set 715 (.inl (.int, 2000, [(0, .int (0))]))).set 723 (.inl (.long, 1, [(0, .long (0))]))) ++ [(.inl (.int, 1024, [(0, .int (0))]))])
theorem ev_HLa4_z : ev_zchkH (ev_calld 12 346 [.ref 621, .int (0)] ev_HLa3 725) (some (.int (0))) 725 0 0 ev_HLa4 = true := by decide +kernel
theorem ev_HLa3_f621 : ev_HLa3[621]? = some (.inr (13, ev_F621)) := by decide +kernel
def ev_HLa4_F621 : List Value := [.int (0), .int (0), .ref 622, .ref 623, .ref 624, .int (0), .ref 625, .ref 626, .ref 627, .ref 628, .ref 629, .ref 630, .ref 631, .ref 632, .ref 633, .ref 634, .ref 635, .ref 636, .ref 637, .ref 638, .ref 639, .ref 640, .ref 641, .ref 642, .ref 643, .int (0), .int (0), .int (0), .int (0), .ref 644, .ref 645, .int (0), .ref 646, .ref 647, .ref 648, .ref 649, .ref 650, .int (0), .int (0), .int (0), .int (0), .long (0), .long (0), .ref 651, .ref 652, .ref 653, .ref 654, .ref 655, .ref 656, .ref 657, .ref 658, .ref 659, .ref 660, .ref 661, .int (0), .ref 662, .ref 663, .ref 664, .ref 665, .int (0), .ref 666, .ref 667, .ref 668, .ref 669, .ref 670, .ref 671, .ref 672, .ref 673, .int (0), .ref 674, .ref 675, .ref 676, .ref 677, .int (0), .ref 678, .int (0), .int (0), .int (0), .int (0), .int (0), .int (0), .int (0), .int (0), .int (0), .int (0), .int (0), .ref 679, .ref 680, .int (0), .ref 681, .ref 682, .ref 683, .ref 684, .ref 685, .ref 686, .int (0), .ref 687, .ref 688, .ref 689, .ref 690, .ref 691, .ref 692, .ref 693, .ref 694, .ref 695, .int (0), .ref 696, .ref 697, .ref 698, .ref 699, .int (0), .ref 700, .ref 701, .int (0), .ref 702, .ref 703, .ref 704, .ref 705, .ref 706, .ref 707, .ref 708, .int (0), .ref 709, .ref 710, .ref 711, .int (1), .int (0), .ref 712, .int (0), .ref 713, .int (1), .int (1), .int (0), .ref 714, .ref 715, .int (0), .int (0), .ref 716, .ref 717, .int (0), .ref 718, .ref 719, .ref 720, .ref 721, .ref 722]
theorem ev_HLa4_f621 : ev_HLa4[621]? = some (.inr (13, ev_HLa4_F621)) := by decide +kernel
theorem ev_k5004 {n : Nat} : ev_calld 12 220 [.ref 621] ev_HLa4 n = some (.inl (some (.int (0))), ev_HLa4, n, 0, 0) := by
  refine ev_call_int (k := 2) (pcR := 4) (lv' := [(0, .ref 621)]) (v := (0)) (ty := .int) (by decide +kernel) rfl ?_ (by decide +kernel) (by decide +kernel) (by decide +kernel) (by decide)
  show ev_stepn _ 2 (0, [(0, .ref 621)], [], _, _, 0, 0) = _
  refine ev_go0 (ev_one_pure (M := (ev_Mof 220)) (pc := 0) (i := .aload_n 0) (len := 1) (pc' := 1) (lv' := [(0, .ref 621)]) (st' := [.ref 621]) (by decide +kernel) rfl) ?_
  refine ev_go0 (ev_p_getf (M := (ev_Mof 220)) (pc := 1) (x := 321) (ci := 13) (f := 0) (fin := 0) (v := .int (0)) (by decide +kernel) (by decide +kernel) ev_HLa4_f621 rfl) ?_
  rfl
theorem ev_HLa4_f723 : ev_HLa4[723]? = some (.inl (.long, 1, [(0, .long (0))])) := by decide +kernel
theorem ev_p1_17_0 (xs : Nat → Int32) (e1 : xs 1 = (0)) : ev_P1 xs 1308 := by
  refine ⟨31, [(6, .int (0)), (5, .int (0)), (4, .int (0)), (3, .ref 723), (2, .ref 621), (1, .ref 0), (0, .retAddr 0)], ev_HLa4, 725, 725, 3554610, ?_, ⟨rfl, rfl, rfl, rfl⟩, rfl, by decide, by decide⟩
  show ev_stepn _ _ (1308, [(4, .int (0)), (3, .ref 723), (2, .ref 621), (1, .ref 0), (0, .retAddr 0)], [], _, _, _, _) = _
  refine ev_go0 (ev_one_pure (M := ev_Mlaw) (pc := 1308) (i := .aload_n 1) (len := 1) (pc' := 1309) (lv' := [(4, .int (0)), (3, .ref 723), (2, .ref 621), (1, .ref 0), (0, .retAddr 0)]) (st' := [.ref 0]) (by decide +kernel) rfl) ?_
  refine ev_go0 (ev_one_pure (M := ev_Mlaw) (pc := 1309) (i := .aload_n 0) (len := 1) (pc' := 1310) (lv' := [(4, .int (0)), (3, .ref 723), (2, .ref 621), (1, .ref 0), (0, .retAddr 0)]) (st' := [.retAddr 0, .ref 0]) (by decide +kernel) rfl) ?_
  refine ev_go0 (ev_one_pure (M := ev_Mlaw) (pc := 1310) (i := .iload 4) (len := 2) (pc' := 1312) (lv' := [(4, .int (0)), (3, .ref 723), (2, .ref 621), (1, .ref 0), (0, .retAddr 0)]) (st' := [.int (0), .retAddr 0, .ref 0]) (by decide +kernel) rfl) ?_
  refine ev_go0 (ev_w_iconst (M := ev_Mlaw) (pc := 1312) (k := 1) (v := 1) (by decide +kernel) (by decide +kernel)) ?_
  refine ev_go0 (ev_w_iadd (M := ev_Mlaw) (pc := 1313) (v := (1)) (by decide +kernel) (by decide +kernel)) ?_
  refine ev_go0 (ev_w_scr (M := ev_Mlaw) (pc := 1314) (v := (0)) (j := 1) (by decide +kernel) (by decide +kernel) (by decide +kernel) e1) ?_
  refine ev_go0 (ev_one_pure (M := ev_Mlaw) (pc := 1315) (i := .aload_n 3) (len := 1) (pc' := 1316) (lv' := [(4, .int (0)), (3, .ref 723), (2, .ref 621), (1, .ref 0), (0, .retAddr 0)]) (st' := [.ref 723, .int (0), .ref 0]) (by decide +kernel) rfl) ?_
  refine ev_go (ev_w_stat (M := ev_Mlaw) (pc := 1316) (y := 188) (kind := 8) (Or.inr (Or.inr rfl)) (mi := 380) (na := 3) (by decide +kernel) (by decide +kernel) (by decide +kernel) (by decide +kernel) rfl rfl (ev_zofH ev_HLa3_z)) ?_
  refine ev_go0 (ev_w_istore (M := ev_Mlaw) (pc := 1319) (k := 5) (lv' := [(5, .int (0)), (4, .int (0)), (3, .ref 723), (2, .ref 621), (1, .ref 0), (0, .retAddr 0)]) (by decide +kernel) (by decide +kernel) rfl) ?_
  refine ev_go0 (ev_one_pure (M := ev_Mlaw) (pc := 1321) (i := .aload_n 2) (len := 1) (pc' := 1322) (lv' := [(5, .int (0)), (4, .int (0)), (3, .ref 723), (2, .ref 621), (1, .ref 0), (0, .retAddr 0)]) (st' := [.ref 621]) (by decide +kernel) rfl) ?_
  refine ev_go0 (ev_one_pure (M := ev_Mlaw) (pc := 1322) (i := .aload_n 0) (len := 1) (pc' := 1323) (lv' := [(5, .int (0)), (4, .int (0)), (3, .ref 723), (2, .ref 621), (1, .ref 0), (0, .retAddr 0)]) (st' := [.retAddr 0, .ref 621]) (by decide +kernel) rfl) ?_
  refine ev_go0 (ev_one_pure (M := ev_Mlaw) (pc := 1323) (i := .iload 4) (len := 2) (pc' := 1325) (lv' := [(5, .int (0)), (4, .int (0)), (3, .ref 723), (2, .ref 621), (1, .ref 0), (0, .retAddr 0)]) (st' := [.int (0), .retAddr 0, .ref 621]) (by decide +kernel) rfl) ?_
  refine ev_go0 (ev_w_iconst (M := ev_Mlaw) (pc := 1325) (k := 1) (v := 1) (by decide +kernel) (by decide +kernel)) ?_
  refine ev_go0 (ev_w_iadd (M := ev_Mlaw) (pc := 1326) (v := (1)) (by decide +kernel) (by decide +kernel)) ?_
  refine ev_go0 (ev_w_scr (M := ev_Mlaw) (pc := 1327) (v := (0)) (j := 1) (by decide +kernel) (by decide +kernel) (by decide +kernel) e1) ?_
  refine ev_go0 (ev_p_virt (M := ev_Mlaw) (pc := 1328) (x := 190) (mi := 346) (na := 1) (by decide +kernel) (by decide +kernel) (by decide +kernel) (by decide +kernel) rfl rfl (ev_recv_of ev_HLa3_f621) (ev_zofH ev_HLa4_z)) ?_
  refine ev_go0 (ev_w_istore (M := ev_Mlaw) (pc := 1331) (k := 6) (lv' := [(6, .int (0)), (5, .int (0)), (4, .int (0)), (3, .ref 723), (2, .ref 621), (1, .ref 0), (0, .retAddr 0)]) (by decide +kernel) (by decide +kernel) rfl) ?_
  refine ev_go0 (ev_one_pure (M := ev_Mlaw) (pc := 1333) (i := .aload_n 2) (len := 1) (pc' := 1334) (lv' := [(6, .int (0)), (5, .int (0)), (4, .int (0)), (3, .ref 723), (2, .ref 621), (1, .ref 0), (0, .retAddr 0)]) (st' := [.ref 621]) (by decide +kernel) rfl) ?_
  refine ev_go0 (ev_p_virt (M := ev_Mlaw) (pc := 1334) (x := 131) (mi := 220) (na := 0) (by decide +kernel) (by decide +kernel) (by decide +kernel) (by decide +kernel) rfl rfl (ev_recv_of ev_HLa4_f621) ev_k5004) ?_
  refine ev_go0 (ev_one_pure (M := ev_Mlaw) (pc := 1337) (i := .iload 5) (len := 2) (pc' := 1339) (lv' := [(6, .int (0)), (5, .int (0)), (4, .int (0)), (3, .ref 723), (2, .ref 621), (1, .ref 0), (0, .retAddr 0)]) (st' := [.int (0), .int (0)]) (by decide +kernel) rfl) ?_
  refine ev_go0 (ev_w_icmp (M := ev_Mlaw) (pc := 1339) (q := .eq) (o := 5) (b := true) (t := 1344) (by decide +kernel) (by decide +kernel) rfl) ?_
  refine ev_go0 (ev_one_pure (M := ev_Mlaw) (pc := 1344) (i := .iload 5) (len := 2) (pc' := 1346) (lv' := [(6, .int (0)), (5, .int (0)), (4, .int (0)), (3, .ref 723), (2, .ref 621), (1, .ref 0), (0, .retAddr 0)]) (st' := [.int (0)]) (by decide +kernel) rfl) ?_
  refine ev_go0 (ev_w_if (M := ev_Mlaw) (pc := 1346) (q := .ne) (o := 15) (b := false) (t := 1349) (by decide +kernel) (by decide +kernel) rfl) ?_
  refine ev_go0 (ev_one_pure (M := ev_Mlaw) (pc := 1349) (i := .aload_n 3) (len := 1) (pc' := 1350) (lv' := [(6, .int (0)), (5, .int (0)), (4, .int (0)), (3, .ref 723), (2, .ref 621), (1, .ref 0), (0, .retAddr 0)]) (st' := [.ref 723]) (by decide +kernel) rfl) ?_
  refine ev_go0 (ev_w_iconst (M := ev_Mlaw) (pc := 1350) (k := 0) (v := 0) (by decide +kernel) (by decide +kernel)) ?_
  refine ev_go0 (ev_w_lald (M := ev_Mlaw) (pc := 1351) (v := (0)) (by decide +kernel) ev_HLa4_f723 (by decide +kernel) rfl) ?_
  refine ev_go0 (ev_one_pure (M := ev_Mlaw) (pc := 1352) (i := .iload 6) (len := 2) (pc' := 1354) (lv' := [(6, .int (0)), (5, .int (0)), (4, .int (0)), (3, .ref 723), (2, .ref 621), (1, .ref 0), (0, .retAddr 0)]) (st' := [.int (0), .long (0)]) (by decide +kernel) rfl) ?_
  refine ev_go0 (ev_w_i2l (M := ev_Mlaw) (pc := 1354) (v := (0)) (by decide +kernel) (by decide +kernel)) ?_
  refine ev_go0 (ev_w_lcmp (M := ev_Mlaw) (pc := 1355) (v := (0)) (by decide +kernel) (by decide +kernel)) ?_
  refine ev_go0 (ev_w_if (M := ev_Mlaw) (pc := 1356) (q := .eq) (o := 5) (b := true) (t := 1361) (by decide +kernel) (by decide +kernel) rfl) ?_
  refine ev_go0 (ev_one_pure (M := ev_Mlaw) (pc := 1361) (i := .goto 911) (len := 3) (pc' := 2272) (lv' := [(6, .int (0)), (5, .int (0)), (4, .int (0)), (3, .ref 723), (2, .ref 621), (1, .ref 0), (0, .retAddr 0)]) (st' := []) (by decide +kernel) rfl) ?_
  rfl
def ev_HLa5 : List ev_E := (((((ev_H0.set 254 (.inr (0, [.ref 255, .ref 256, .ref 257, .ref 258, .int (0), .ref 259, .ref 260, .ref 261, .ref 262, .int (1), .int (0), .int (0), .int (1), .int (1), .int (0)]))).set 259 (.inl (.array .int, 512, [(0, .ref 724)]))).set 261 (.inl (.int, 1024, [(0, .int (1))]))).set 723 (.inl (.long, 1, [(0, .long (0))]))) ++ [(.inl (.int, 1024, [(0, .int (1))]))])
theorem ev_HLa5_z : ev_zchkH (ev_calld 12 380 [.ref 0, .int (1), .ref 723] ev_H0 724) (some (.int (0))) 725 1 1024 ev_HLa5 = true := by decide +kernel
def ev_HLa6 : List ev_E := ((((((((((ev_H0.set 254 (.inr (0, [.ref 255, .ref 256, .ref 257, .ref 258, .int (0), .ref 259, .ref 260, .ref 261, .ref 262, .int (1), .int (0), .int (0), .int (1), .int (1), .int (0)]))).set 259 (.inl (.array .int, 512, [(0, .ref 724)]))).set 261 (.inl (.int, 1024, [(0, .int (1))]))).set 621 (.inr (13, [.int (0), .int (0), .ref 622, .ref 623, .ref 624, .int (0), .ref 625, .ref 626, .ref 627, .ref 628, .ref 629, .ref 630, .ref 631, .ref 632, .ref 633, .ref 634, .ref 635, .ref 636, .ref 637, .ref 638, .ref 639, .ref 640, .ref 641, .ref 642, .ref 643, .int (0), .int (0), .int (0), .int (0), .ref 644, .ref 645, .int (0), .ref 646, .ref 647, .ref 648, .ref 649, .ref 650, .int (0), .int (0), .int (0), .int (0), .long (0), .long (0), .ref 651, .ref 652, .ref 653, .ref 654, .ref 655, .ref 656, .ref 657, .ref 658, .ref 659, .ref 660, .ref 661, .int (0), .ref 662, .ref 663, .ref 664, .ref 665, .int (0), .ref 666, .ref 667, .ref 668, .ref 669, .ref 670, .ref 671, .ref 672, .ref 673, .int (0), .ref 674, .ref 675, .ref 676, .ref 677, .int (0), .ref 678, .int (0), .int (0), .int (0), .int (0), .int (0), .int (0), .int (0), .int (0), .int (0), .int (0), .int (0), .ref 679, .ref 680, .int (0), .ref 681, .ref 682, .ref 683, .ref 684, .ref 685, .ref 686, .int (0), .ref 687, .ref 688, .ref 689, .ref 690, .ref 691, .ref 692, .ref 693, .ref 694, .ref 695, .int (0), .ref 696, .ref 697, .ref 698, .ref 699, .int (0), .ref 700, .ref 701, .int (0), .ref 702, .ref 703, .ref 704, .ref 705, .ref 706, .ref 707, .ref 708, .int (0), .ref 709, .ref 710, .ref 711, .int (1), .int (0), .ref 712, .int (0), .ref 713, .int (1), .int (1), .int (0), .ref 714, .ref 715, .int (0), .int (0), .ref 716, .ref 717, .int (0), .ref 718, .ref 719, .ref 720, .ref 721, .ref 722]))).set 707 (.inl (.int, 3, [(1, .int (0))]))).set 712 (.inl (.int, 420000, [(0, .int (2097152))]))).set 714 (.inl (.int, 2000, [(0, .int (1))]))).set 715 (.inl (.int, 2000, [(0, .int (0))]))).set 723 (.inl (.long, 1, [(0, .long (0))]))) ++ [(.inl (.int, 1024, [(0, .int (1))]))])
theorem ev_HLa6_z : ev_zchkH (ev_calld 12 346 [.ref 621, .int (1)] ev_HLa5 725) (some (.int (0))) 725 0 0 ev_HLa6 = true := by decide +kernel
theorem ev_HLa5_f621 : ev_HLa5[621]? = some (.inr (13, ev_F621)) := by decide +kernel
def ev_HLa6_F621 : List Value := [.int (0), .int (0), .ref 622, .ref 623, .ref 624, .int (0), .ref 625, .ref 626, .ref 627, .ref 628, .ref 629, .ref 630, .ref 631, .ref 632, .ref 633, .ref 634, .ref 635, .ref 636, .ref 637, .ref 638, .ref 639, .ref 640, .ref 641, .ref 642, .ref 643, .int (0), .int (0), .int (0), .int (0), .ref 644, .ref 645, .int (0), .ref 646, .ref 647, .ref 648, .ref 649, .ref 650, .int (0), .int (0), .int (0), .int (0), .long (0), .long (0), .ref 651, .ref 652, .ref 653, .ref 654, .ref 655, .ref 656, .ref 657, .ref 658, .ref 659, .ref 660, .ref 661, .int (0), .ref 662, .ref 663, .ref 664, .ref 665, .int (0), .ref 666, .ref 667, .ref 668, .ref 669, .ref 670, .ref 671, .ref 672, .ref 673, .int (0), .ref 674, .ref 675, .ref 676, .ref 677, .int (0), .ref 678, .int (0), .int (0), .int (0), .int (0), .int (0), .int (0), .int (0), .int (0), .int (0), .int (0), .int (0), .ref 679, .ref 680, .int (0), .ref 681, .ref 682, .ref 683, .ref 684, .ref 685, .ref 686, .int (0), .ref 687, .ref 688, .ref 689, .ref 690, .ref 691, .ref 692, .ref 693, .ref 694, .ref 695, .int (0), .ref 696, .ref 697, .ref 698, .ref 699, .int (0), .ref 700, .ref 701, .int (0), .ref 702, .ref 703, .ref 704, .ref 705, .ref 706, .ref 707, .ref 708, .int (0), .ref 709, .ref 710, .ref 711, .int (1), .int (0), .ref 712, .int (0), .ref 713, .int (1), .int (1), .int (0), .ref 714, .ref 715, .int (0), .int (0), .ref 716, .ref 717, .int (0), .ref 718, .ref 719, .ref 720, .ref 721, .ref 722]
theorem ev_HLa6_f621 : ev_HLa6[621]? = some (.inr (13, ev_HLa6_F621)) := by decide +kernel
theorem ev_k5005 {n : Nat} : ev_calld 12 220 [.ref 621] ev_HLa6 n = some (.inl (some (.int (0))), ev_HLa6, n, 0, 0) := by
  refine ev_call_int (k := 2) (pcR := 4) (lv' := [(0, .ref 621)]) (v := (0)) (ty := .int) (by decide +kernel) rfl ?_ (by decide +kernel) (by decide +kernel) (by decide +kernel) (by decide)
  show ev_stepn _ 2 (0, [(0, .ref 621)], [], _, _, 0, 0) = _
  refine ev_go0 (ev_one_pure (M := (ev_Mof 220)) (pc := 0) (i := .aload_n 0) (len := 1) (pc' := 1) (lv' := [(0, .ref 621)]) (st' := [.ref 621]) (by decide +kernel) rfl) ?_
  refine ev_go0 (ev_p_getf (M := (ev_Mof 220)) (pc := 1) (x := 321) (ci := 13) (f := 0) (fin := 0) (v := .int (0)) (by decide +kernel) (by decide +kernel) ev_HLa6_f621 rfl) ?_
  rfl
theorem ev_HLa6_f723 : ev_HLa6[723]? = some (.inl (.long, 1, [(0, .long (0))])) := by decide +kernel
theorem ev_p1_17_1 (xs : Nat → Int32) (e1 : xs 1 = (1)) : ev_P1 xs 1308 := by
  refine ⟨31, [(6, .int (0)), (5, .int (0)), (4, .int (0)), (3, .ref 723), (2, .ref 621), (1, .ref 0), (0, .retAddr 0)], ev_HLa6, 725, 725, 3554610, ?_, ⟨rfl, rfl, rfl, rfl⟩, rfl, by decide, by decide⟩
  show ev_stepn _ _ (1308, [(4, .int (0)), (3, .ref 723), (2, .ref 621), (1, .ref 0), (0, .retAddr 0)], [], _, _, _, _) = _
  refine ev_go0 (ev_one_pure (M := ev_Mlaw) (pc := 1308) (i := .aload_n 1) (len := 1) (pc' := 1309) (lv' := [(4, .int (0)), (3, .ref 723), (2, .ref 621), (1, .ref 0), (0, .retAddr 0)]) (st' := [.ref 0]) (by decide +kernel) rfl) ?_
  refine ev_go0 (ev_one_pure (M := ev_Mlaw) (pc := 1309) (i := .aload_n 0) (len := 1) (pc' := 1310) (lv' := [(4, .int (0)), (3, .ref 723), (2, .ref 621), (1, .ref 0), (0, .retAddr 0)]) (st' := [.retAddr 0, .ref 0]) (by decide +kernel) rfl) ?_
  refine ev_go0 (ev_one_pure (M := ev_Mlaw) (pc := 1310) (i := .iload 4) (len := 2) (pc' := 1312) (lv' := [(4, .int (0)), (3, .ref 723), (2, .ref 621), (1, .ref 0), (0, .retAddr 0)]) (st' := [.int (0), .retAddr 0, .ref 0]) (by decide +kernel) rfl) ?_
  refine ev_go0 (ev_w_iconst (M := ev_Mlaw) (pc := 1312) (k := 1) (v := 1) (by decide +kernel) (by decide +kernel)) ?_
  refine ev_go0 (ev_w_iadd (M := ev_Mlaw) (pc := 1313) (v := (1)) (by decide +kernel) (by decide +kernel)) ?_
  refine ev_go0 (ev_w_scr (M := ev_Mlaw) (pc := 1314) (v := (1)) (j := 1) (by decide +kernel) (by decide +kernel) (by decide +kernel) e1) ?_
  refine ev_go0 (ev_one_pure (M := ev_Mlaw) (pc := 1315) (i := .aload_n 3) (len := 1) (pc' := 1316) (lv' := [(4, .int (0)), (3, .ref 723), (2, .ref 621), (1, .ref 0), (0, .retAddr 0)]) (st' := [.ref 723, .int (1), .ref 0]) (by decide +kernel) rfl) ?_
  refine ev_go (ev_w_stat (M := ev_Mlaw) (pc := 1316) (y := 188) (kind := 8) (Or.inr (Or.inr rfl)) (mi := 380) (na := 3) (by decide +kernel) (by decide +kernel) (by decide +kernel) (by decide +kernel) rfl rfl (ev_zofH ev_HLa5_z)) ?_
  refine ev_go0 (ev_w_istore (M := ev_Mlaw) (pc := 1319) (k := 5) (lv' := [(5, .int (0)), (4, .int (0)), (3, .ref 723), (2, .ref 621), (1, .ref 0), (0, .retAddr 0)]) (by decide +kernel) (by decide +kernel) rfl) ?_
  refine ev_go0 (ev_one_pure (M := ev_Mlaw) (pc := 1321) (i := .aload_n 2) (len := 1) (pc' := 1322) (lv' := [(5, .int (0)), (4, .int (0)), (3, .ref 723), (2, .ref 621), (1, .ref 0), (0, .retAddr 0)]) (st' := [.ref 621]) (by decide +kernel) rfl) ?_
  refine ev_go0 (ev_one_pure (M := ev_Mlaw) (pc := 1322) (i := .aload_n 0) (len := 1) (pc' := 1323) (lv' := [(5, .int (0)), (4, .int (0)), (3, .ref 723), (2, .ref 621), (1, .ref 0), (0, .retAddr 0)]) (st' := [.retAddr 0, .ref 621]) (by decide +kernel) rfl) ?_
  refine ev_go0 (ev_one_pure (M := ev_Mlaw) (pc := 1323) (i := .iload 4) (len := 2) (pc' := 1325) (lv' := [(5, .int (0)), (4, .int (0)), (3, .ref 723), (2, .ref 621), (1, .ref 0), (0, .retAddr 0)]) (st' := [.int (0), .retAddr 0, .ref 621]) (by decide +kernel) rfl) ?_
  refine ev_go0 (ev_w_iconst (M := ev_Mlaw) (pc := 1325) (k := 1) (v := 1) (by decide +kernel) (by decide +kernel)) ?_
  refine ev_go0 (ev_w_iadd (M := ev_Mlaw) (pc := 1326) (v := (1)) (by decide +kernel) (by decide +kernel)) ?_
  refine ev_go0 (ev_w_scr (M := ev_Mlaw) (pc := 1327) (v := (1)) (j := 1) (by decide +kernel) (by decide +kernel) (by decide +kernel) e1) ?_
  refine ev_go0 (ev_p_virt (M := ev_Mlaw) (pc := 1328) (x := 190) (mi := 346) (na := 1) (by decide +kernel) (by decide +kernel) (by decide +kernel) (by decide +kernel) rfl rfl (ev_recv_of ev_HLa5_f621) (ev_zofH ev_HLa6_z)) ?_
  refine ev_go0 (ev_w_istore (M := ev_Mlaw) (pc := 1331) (k := 6) (lv' := [(6, .int (0)), (5, .int (0)), (4, .int (0)), (3, .ref 723), (2, .ref 621), (1, .ref 0), (0, .retAddr 0)]) (by decide +kernel) (by decide +kernel) rfl) ?_
  refine ev_go0 (ev_one_pure (M := ev_Mlaw) (pc := 1333) (i := .aload_n 2) (len := 1) (pc' := 1334) (lv' := [(6, .int (0)), (5, .int (0)), (4, .int (0)), (3, .ref 723), (2, .ref 621), (1, .ref 0), (0, .retAddr 0)]) (st' := [.ref 621]) (by decide +kernel) rfl) ?_
  refine ev_go0 (ev_p_virt (M := ev_Mlaw) (pc := 1334) (x := 131) (mi := 220) (na := 0) (by decide +kernel) (by decide +kernel) (by decide +kernel) (by decide +kernel) rfl rfl (ev_recv_of ev_HLa6_f621) ev_k5005) ?_
  refine ev_go0 (ev_one_pure (M := ev_Mlaw) (pc := 1337) (i := .iload 5) (len := 2) (pc' := 1339) (lv' := [(6, .int (0)), (5, .int (0)), (4, .int (0)), (3, .ref 723), (2, .ref 621), (1, .ref 0), (0, .retAddr 0)]) (st' := [.int (0), .int (0)]) (by decide +kernel) rfl) ?_
  refine ev_go0 (ev_w_icmp (M := ev_Mlaw) (pc := 1339) (q := .eq) (o := 5) (b := true) (t := 1344) (by decide +kernel) (by decide +kernel) rfl) ?_
  refine ev_go0 (ev_one_pure (M := ev_Mlaw) (pc := 1344) (i := .iload 5) (len := 2) (pc' := 1346) (lv' := [(6, .int (0)), (5, .int (0)), (4, .int (0)), (3, .ref 723), (2, .ref 621), (1, .ref 0), (0, .retAddr 0)]) (st' := [.int (0)]) (by decide +kernel) rfl) ?_
  refine ev_go0 (ev_w_if (M := ev_Mlaw) (pc := 1346) (q := .ne) (o := 15) (b := false) (t := 1349) (by decide +kernel) (by decide +kernel) rfl) ?_
  refine ev_go0 (ev_one_pure (M := ev_Mlaw) (pc := 1349) (i := .aload_n 3) (len := 1) (pc' := 1350) (lv' := [(6, .int (0)), (5, .int (0)), (4, .int (0)), (3, .ref 723), (2, .ref 621), (1, .ref 0), (0, .retAddr 0)]) (st' := [.ref 723]) (by decide +kernel) rfl) ?_
  refine ev_go0 (ev_w_iconst (M := ev_Mlaw) (pc := 1350) (k := 0) (v := 0) (by decide +kernel) (by decide +kernel)) ?_
  refine ev_go0 (ev_w_lald (M := ev_Mlaw) (pc := 1351) (v := (0)) (by decide +kernel) ev_HLa6_f723 (by decide +kernel) rfl) ?_
  refine ev_go0 (ev_one_pure (M := ev_Mlaw) (pc := 1352) (i := .iload 6) (len := 2) (pc' := 1354) (lv' := [(6, .int (0)), (5, .int (0)), (4, .int (0)), (3, .ref 723), (2, .ref 621), (1, .ref 0), (0, .retAddr 0)]) (st' := [.int (0), .long (0)]) (by decide +kernel) rfl) ?_
  refine ev_go0 (ev_w_i2l (M := ev_Mlaw) (pc := 1354) (v := (0)) (by decide +kernel) (by decide +kernel)) ?_
  refine ev_go0 (ev_w_lcmp (M := ev_Mlaw) (pc := 1355) (v := (0)) (by decide +kernel) (by decide +kernel)) ?_
  refine ev_go0 (ev_w_if (M := ev_Mlaw) (pc := 1356) (q := .eq) (o := 5) (b := true) (t := 1361) (by decide +kernel) (by decide +kernel) rfl) ?_
  refine ev_go0 (ev_one_pure (M := ev_Mlaw) (pc := 1361) (i := .goto 911) (len := 3) (pc' := 2272) (lv' := [(6, .int (0)), (5, .int (0)), (4, .int (0)), (3, .ref 723), (2, .ref 621), (1, .ref 0), (0, .retAddr 0)]) (st' := []) (by decide +kernel) rfl) ?_
  rfl
def ev_HLa7 : List ev_E := (((((ev_H0.set 254 (.inr (0, [.ref 255, .ref 256, .ref 257, .ref 258, .int (0), .ref 259, .ref 260, .ref 261, .ref 262, .int (1), .int (0), .int (0), .int (1), .int (1), .int (0)]))).set 259 (.inl (.array .int, 512, [(0, .ref 724)]))).set 261 (.inl (.int, 1024, [(0, .int (1))]))).set 723 (.inl (.long, 1, [(0, .long (0))]))) ++ [(.inl (.int, 1024, [(0, .int (2))]))])
theorem ev_HLa7_z : ev_zchkH (ev_calld 12 380 [.ref 0, .int (2), .ref 723] ev_H0 724) (some (.int (0))) 725 1 1024 ev_HLa7 = true := by decide +kernel
def ev_HLa8 : List ev_E := ((((((((((ev_H0.set 254 (.inr (0, [.ref 255, .ref 256, .ref 257, .ref 258, .int (0), .ref 259, .ref 260, .ref 261, .ref 262, .int (1), .int (0), .int (0), .int (1), .int (1), .int (0)]))).set 259 (.inl (.array .int, 512, [(0, .ref 724)]))).set 261 (.inl (.int, 1024, [(0, .int (1))]))).set 621 (.inr (13, [.int (0), .int (0), .ref 622, .ref 623, .ref 624, .int (0), .ref 625, .ref 626, .ref 627, .ref 628, .ref 629, .ref 630, .ref 631, .ref 632, .ref 633, .ref 634, .ref 635, .ref 636, .ref 637, .ref 638, .ref 639, .ref 640, .ref 641, .ref 642, .ref 643, .int (0), .int (0), .int (0), .int (0), .ref 644, .ref 645, .int (0), .ref 646, .ref 647, .ref 648, .ref 649, .ref 650, .int (0), .int (0), .int (0), .int (0), .long (0), .long (0), .ref 651, .ref 652, .ref 653, .ref 654, .ref 655, .ref 656, .ref 657, .ref 658, .ref 659, .ref 660, .ref 661, .int (0), .ref 662, .ref 663, .ref 664, .ref 665, .int (0), .ref 666, .ref 667, .ref 668, .ref 669, .ref 670, .ref 671, .ref 672, .ref 673, .int (0), .ref 674, .ref 675, .ref 676, .ref 677, .int (0), .ref 678, .int (0), .int (0), .int (0), .int (0), .int (0), .int (0), .int (0), .int (0), .int (0), .int (0), .int (0), .ref 679, .ref 680, .int (0), .ref 681, .ref 682, .ref 683, .ref 684, .ref 685, .ref 686, .int (0), .ref 687, .ref 688, .ref 689, .ref 690, .ref 691, .ref 692, .ref 693, .ref 694, .ref 695, .int (0), .ref 696, .ref 697, .ref 698, .ref 699, .int (0), .ref 700, .ref 701, .int (0), .ref 702, .ref 703, .ref 704, .ref 705, .ref 706, .ref 707, .ref 708, .int (0), .ref 709, .ref 710, .ref 711, .int (1), .int (0), .ref 712, .int (0), .ref 713, .int (1), .int (1), .int (0), .ref 714, .ref 715, .int (0), .int (0), .ref 716, .ref 717, .int (0), .ref 718, .ref 719, .ref 720, .ref 721, .ref 722]))).set 707 (.inl (.int, 3, [(2, .int (0))]))).set 712 (.inl (.int, 420000, [(0, .int (4194304))]))).set 714 (.inl (.int, 2000, [(0, .int (1))]))).set 715 (.inl (.int, 2000, [(0, .int (0))]))).set 723 (.inl (.long, 1, [(0, .long (0))]))) ++ [(.inl (.int, 1024, [(0, .int (2))]))])
theorem ev_HLa8_z : ev_zchkH (ev_calld 12 346 [.ref 621, .int (2)] ev_HLa7 725) (some (.int (0))) 725 0 0 ev_HLa8 = true := by decide +kernel
theorem ev_HLa7_f621 : ev_HLa7[621]? = some (.inr (13, ev_F621)) := by decide +kernel
def ev_HLa8_F621 : List Value := [.int (0), .int (0), .ref 622, .ref 623, .ref 624, .int (0), .ref 625, .ref 626, .ref 627, .ref 628, .ref 629, .ref 630, .ref 631, .ref 632, .ref 633, .ref 634, .ref 635, .ref 636, .ref 637, .ref 638, .ref 639, .ref 640, .ref 641, .ref 642, .ref 643, .int (0), .int (0), .int (0), .int (0), .ref 644, .ref 645, .int (0), .ref 646, .ref 647, .ref 648, .ref 649, .ref 650, .int (0), .int (0), .int (0), .int (0), .long (0), .long (0), .ref 651, .ref 652, .ref 653, .ref 654, .ref 655, .ref 656, .ref 657, .ref 658, .ref 659, .ref 660, .ref 661, .int (0), .ref 662, .ref 663, .ref 664, .ref 665, .int (0), .ref 666, .ref 667, .ref 668, .ref 669, .ref 670, .ref 671, .ref 672, .ref 673, .int (0), .ref 674, .ref 675, .ref 676, .ref 677, .int (0), .ref 678, .int (0), .int (0), .int (0), .int (0), .int (0), .int (0), .int (0), .int (0), .int (0), .int (0), .int (0), .ref 679, .ref 680, .int (0), .ref 681, .ref 682, .ref 683, .ref 684, .ref 685, .ref 686, .int (0), .ref 687, .ref 688, .ref 689, .ref 690, .ref 691, .ref 692, .ref 693, .ref 694, .ref 695, .int (0), .ref 696, .ref 697, .ref 698, .ref 699, .int (0), .ref 700, .ref 701, .int (0), .ref 702, .ref 703, .ref 704, .ref 705, .ref 706, .ref 707, .ref 708, .int (0), .ref 709, .ref 710, .ref 711, .int (1), .int (0), .ref 712, .int (0), .ref 713, .int (1), .int (1), .int (0), .ref 714, .ref 715, .int (0), .int (0), .ref 716, .ref 717, .int (0), .ref 718, .ref 719, .ref 720, .ref 721, .ref 722]
theorem ev_HLa8_f621 : ev_HLa8[621]? = some (.inr (13, ev_HLa8_F621)) := by decide +kernel
theorem ev_k5006 {n : Nat} : ev_calld 12 220 [.ref 621] ev_HLa8 n = some (.inl (some (.int (0))), ev_HLa8, n, 0, 0) := by
  refine ev_call_int (k := 2) (pcR := 4) (lv' := [(0, .ref 621)]) (v := (0)) (ty := .int) (by decide +kernel) rfl ?_ (by decide +kernel) (by decide +kernel) (by decide +kernel) (by decide)
  show ev_stepn _ 2 (0, [(0, .ref 621)], [], _, _, 0, 0) = _
  refine ev_go0 (ev_one_pure (M := (ev_Mof 220)) (pc := 0) (i := .aload_n 0) (len := 1) (pc' := 1) (lv' := [(0, .ref 621)]) (st' := [.ref 621]) (by decide +kernel) rfl) ?_
  refine ev_go0 (ev_p_getf (M := (ev_Mof 220)) (pc := 1) (x := 321) (ci := 13) (f := 0) (fin := 0) (v := .int (0)) (by decide +kernel) (by decide +kernel) ev_HLa8_f621 rfl) ?_
  rfl
theorem ev_HLa8_f723 : ev_HLa8[723]? = some (.inl (.long, 1, [(0, .long (0))])) := by decide +kernel
theorem ev_p1_17_2 (xs : Nat → Int32) (e1 : xs 1 = (2)) : ev_P1 xs 1308 := by
  refine ⟨31, [(6, .int (0)), (5, .int (0)), (4, .int (0)), (3, .ref 723), (2, .ref 621), (1, .ref 0), (0, .retAddr 0)], ev_HLa8, 725, 725, 3554610, ?_, ⟨rfl, rfl, rfl, rfl⟩, rfl, by decide, by decide⟩
  show ev_stepn _ _ (1308, [(4, .int (0)), (3, .ref 723), (2, .ref 621), (1, .ref 0), (0, .retAddr 0)], [], _, _, _, _) = _
  refine ev_go0 (ev_one_pure (M := ev_Mlaw) (pc := 1308) (i := .aload_n 1) (len := 1) (pc' := 1309) (lv' := [(4, .int (0)), (3, .ref 723), (2, .ref 621), (1, .ref 0), (0, .retAddr 0)]) (st' := [.ref 0]) (by decide +kernel) rfl) ?_
  refine ev_go0 (ev_one_pure (M := ev_Mlaw) (pc := 1309) (i := .aload_n 0) (len := 1) (pc' := 1310) (lv' := [(4, .int (0)), (3, .ref 723), (2, .ref 621), (1, .ref 0), (0, .retAddr 0)]) (st' := [.retAddr 0, .ref 0]) (by decide +kernel) rfl) ?_
  refine ev_go0 (ev_one_pure (M := ev_Mlaw) (pc := 1310) (i := .iload 4) (len := 2) (pc' := 1312) (lv' := [(4, .int (0)), (3, .ref 723), (2, .ref 621), (1, .ref 0), (0, .retAddr 0)]) (st' := [.int (0), .retAddr 0, .ref 0]) (by decide +kernel) rfl) ?_
  refine ev_go0 (ev_w_iconst (M := ev_Mlaw) (pc := 1312) (k := 1) (v := 1) (by decide +kernel) (by decide +kernel)) ?_
  refine ev_go0 (ev_w_iadd (M := ev_Mlaw) (pc := 1313) (v := (1)) (by decide +kernel) (by decide +kernel)) ?_
  refine ev_go0 (ev_w_scr (M := ev_Mlaw) (pc := 1314) (v := (2)) (j := 1) (by decide +kernel) (by decide +kernel) (by decide +kernel) e1) ?_
  refine ev_go0 (ev_one_pure (M := ev_Mlaw) (pc := 1315) (i := .aload_n 3) (len := 1) (pc' := 1316) (lv' := [(4, .int (0)), (3, .ref 723), (2, .ref 621), (1, .ref 0), (0, .retAddr 0)]) (st' := [.ref 723, .int (2), .ref 0]) (by decide +kernel) rfl) ?_
  refine ev_go (ev_w_stat (M := ev_Mlaw) (pc := 1316) (y := 188) (kind := 8) (Or.inr (Or.inr rfl)) (mi := 380) (na := 3) (by decide +kernel) (by decide +kernel) (by decide +kernel) (by decide +kernel) rfl rfl (ev_zofH ev_HLa7_z)) ?_
  refine ev_go0 (ev_w_istore (M := ev_Mlaw) (pc := 1319) (k := 5) (lv' := [(5, .int (0)), (4, .int (0)), (3, .ref 723), (2, .ref 621), (1, .ref 0), (0, .retAddr 0)]) (by decide +kernel) (by decide +kernel) rfl) ?_
  refine ev_go0 (ev_one_pure (M := ev_Mlaw) (pc := 1321) (i := .aload_n 2) (len := 1) (pc' := 1322) (lv' := [(5, .int (0)), (4, .int (0)), (3, .ref 723), (2, .ref 621), (1, .ref 0), (0, .retAddr 0)]) (st' := [.ref 621]) (by decide +kernel) rfl) ?_
  refine ev_go0 (ev_one_pure (M := ev_Mlaw) (pc := 1322) (i := .aload_n 0) (len := 1) (pc' := 1323) (lv' := [(5, .int (0)), (4, .int (0)), (3, .ref 723), (2, .ref 621), (1, .ref 0), (0, .retAddr 0)]) (st' := [.retAddr 0, .ref 621]) (by decide +kernel) rfl) ?_
  refine ev_go0 (ev_one_pure (M := ev_Mlaw) (pc := 1323) (i := .iload 4) (len := 2) (pc' := 1325) (lv' := [(5, .int (0)), (4, .int (0)), (3, .ref 723), (2, .ref 621), (1, .ref 0), (0, .retAddr 0)]) (st' := [.int (0), .retAddr 0, .ref 621]) (by decide +kernel) rfl) ?_
  refine ev_go0 (ev_w_iconst (M := ev_Mlaw) (pc := 1325) (k := 1) (v := 1) (by decide +kernel) (by decide +kernel)) ?_
  refine ev_go0 (ev_w_iadd (M := ev_Mlaw) (pc := 1326) (v := (1)) (by decide +kernel) (by decide +kernel)) ?_
  refine ev_go0 (ev_w_scr (M := ev_Mlaw) (pc := 1327) (v := (2)) (j := 1) (by decide +kernel) (by decide +kernel) (by decide +kernel) e1) ?_
  refine ev_go0 (ev_p_virt (M := ev_Mlaw) (pc := 1328) (x := 190) (mi := 346) (na := 1) (by decide +kernel) (by decide +kernel) (by decide +kernel) (by decide +kernel) rfl rfl (ev_recv_of ev_HLa7_f621) (ev_zofH ev_HLa8_z)) ?_
  refine ev_go0 (ev_w_istore (M := ev_Mlaw) (pc := 1331) (k := 6) (lv' := [(6, .int (0)), (5, .int (0)), (4, .int (0)), (3, .ref 723), (2, .ref 621), (1, .ref 0), (0, .retAddr 0)]) (by decide +kernel) (by decide +kernel) rfl) ?_
  refine ev_go0 (ev_one_pure (M := ev_Mlaw) (pc := 1333) (i := .aload_n 2) (len := 1) (pc' := 1334) (lv' := [(6, .int (0)), (5, .int (0)), (4, .int (0)), (3, .ref 723), (2, .ref 621), (1, .ref 0), (0, .retAddr 0)]) (st' := [.ref 621]) (by decide +kernel) rfl) ?_
  refine ev_go0 (ev_p_virt (M := ev_Mlaw) (pc := 1334) (x := 131) (mi := 220) (na := 0) (by decide +kernel) (by decide +kernel) (by decide +kernel) (by decide +kernel) rfl rfl (ev_recv_of ev_HLa8_f621) ev_k5006) ?_
  refine ev_go0 (ev_one_pure (M := ev_Mlaw) (pc := 1337) (i := .iload 5) (len := 2) (pc' := 1339) (lv' := [(6, .int (0)), (5, .int (0)), (4, .int (0)), (3, .ref 723), (2, .ref 621), (1, .ref 0), (0, .retAddr 0)]) (st' := [.int (0), .int (0)]) (by decide +kernel) rfl) ?_
  refine ev_go0 (ev_w_icmp (M := ev_Mlaw) (pc := 1339) (q := .eq) (o := 5) (b := true) (t := 1344) (by decide +kernel) (by decide +kernel) rfl) ?_
  refine ev_go0 (ev_one_pure (M := ev_Mlaw) (pc := 1344) (i := .iload 5) (len := 2) (pc' := 1346) (lv' := [(6, .int (0)), (5, .int (0)), (4, .int (0)), (3, .ref 723), (2, .ref 621), (1, .ref 0), (0, .retAddr 0)]) (st' := [.int (0)]) (by decide +kernel) rfl) ?_
  refine ev_go0 (ev_w_if (M := ev_Mlaw) (pc := 1346) (q := .ne) (o := 15) (b := false) (t := 1349) (by decide +kernel) (by decide +kernel) rfl) ?_
  refine ev_go0 (ev_one_pure (M := ev_Mlaw) (pc := 1349) (i := .aload_n 3) (len := 1) (pc' := 1350) (lv' := [(6, .int (0)), (5, .int (0)), (4, .int (0)), (3, .ref 723), (2, .ref 621), (1, .ref 0), (0, .retAddr 0)]) (st' := [.ref 723]) (by decide +kernel) rfl) ?_
  refine ev_go0 (ev_w_iconst (M := ev_Mlaw) (pc := 1350) (k := 0) (v := 0) (by decide +kernel) (by decide +kernel)) ?_
  refine ev_go0 (ev_w_lald (M := ev_Mlaw) (pc := 1351) (v := (0)) (by decide +kernel) ev_HLa8_f723 (by decide +kernel) rfl) ?_
  refine ev_go0 (ev_one_pure (M := ev_Mlaw) (pc := 1352) (i := .iload 6) (len := 2) (pc' := 1354) (lv' := [(6, .int (0)), (5, .int (0)), (4, .int (0)), (3, .ref 723), (2, .ref 621), (1, .ref 0), (0, .retAddr 0)]) (st' := [.int (0), .long (0)]) (by decide +kernel) rfl) ?_
  refine ev_go0 (ev_w_i2l (M := ev_Mlaw) (pc := 1354) (v := (0)) (by decide +kernel) (by decide +kernel)) ?_
  refine ev_go0 (ev_w_lcmp (M := ev_Mlaw) (pc := 1355) (v := (0)) (by decide +kernel) (by decide +kernel)) ?_
  refine ev_go0 (ev_w_if (M := ev_Mlaw) (pc := 1356) (q := .eq) (o := 5) (b := true) (t := 1361) (by decide +kernel) (by decide +kernel) rfl) ?_
  refine ev_go0 (ev_one_pure (M := ev_Mlaw) (pc := 1361) (i := .goto 911) (len := 3) (pc' := 2272) (lv' := [(6, .int (0)), (5, .int (0)), (4, .int (0)), (3, .ref 723), (2, .ref 621), (1, .ref 0), (0, .retAddr 0)]) (st' := []) (by decide +kernel) rfl) ?_
  rfl
theorem ev_k5007 (x1 : Int32) (hu_x1 : x1.toInt ≤ (-1 : Int)) {n : Nat} : ev_calld 10 1 [.ref 254, .int x1] ev_H0 n = some (.inl (some (.null)), ev_H0, n, 0, 0) := by
  refine ev_call_ref (k := 3) (pcR := 19) (lv' := [(0, .ref 254), (1, .int x1)]) (v := .null) (C := "MendBench$Text") (by decide +kernel) rfl ?_ (by decide +kernel) (by decide +kernel) rfl (by decide)
  show ev_stepn _ 3 (0, [(0, .ref 254), (1, .int x1)], [], _, _, 0, 0) = _
  refine ev_go0 (ev_one_pure (M := (ev_Mof 1)) (pc := 0) (i := .iload_n 1) (len := 1) (pc' := 1) (lv' := [(0, .ref 254), (1, .int x1)]) (st' := [.int x1]) (by decide +kernel) rfl) ?_
  refine ev_go0 (ev_w_if (M := (ev_Mof 1)) (pc := 1) (q := .lt) (o := 17) (b := true) (t := 18) (by decide +kernel) (ev_c_lt1 hu_x1 (by decide +kernel)) rfl) ?_
  refine ev_go0 (ev_one_pure (M := (ev_Mof 1)) (pc := 18) (i := .aconst_null) (len := 1) (pc' := 19) (lv' := [(0, .ref 254), (1, .int x1)]) (st' := [.null]) (by decide +kernel) rfl) ?_
  rfl
theorem ev_k5008 (x1 : Int32) (hu_x1 : x1.toInt ≤ (-1 : Int)) {n : Nat} : ev_calld 11 183 [.ref 0, .int x1] ev_H0 n = some (.inr "java/lang/IndexOutOfBoundsException", ev_H0, n, 1, 6) := by
  refine ev_call_thrown (k := 7) (pcR := 13) (x := 160) (lv' := [(2, .null), (0, .ref 0), (1, .int x1)]) (by decide +kernel) rfl ?_ (by decide +kernel) (by decide +kernel) (by decide +kernel) (by decide) (by decide)
  show ev_stepn _ 7 (0, [(0, .ref 0), (1, .int x1)], [], _, _, 0, 0) = _
  refine ev_go0 (ev_one_pure (M := (ev_Mof 183)) (pc := 0) (i := .aload_n 0) (len := 1) (pc' := 1) (lv' := [(0, .ref 0), (1, .int x1)]) (st' := [.ref 0]) (by decide +kernel) rfl) ?_
  refine ev_go0 (ev_p_getf (M := (ev_Mof 183)) (pc := 1) (x := 48) (ci := 12) (f := 8) (fin := 1) (v := .ref 254) (by decide +kernel) (by decide +kernel) ev_fH0 rfl) ?_
  refine ev_go0 (ev_one_pure (M := (ev_Mof 183)) (pc := 4) (i := .iload_n 1) (len := 1) (pc' := 5) (lv' := [(0, .ref 0), (1, .int x1)]) (st' := [.int x1, .ref 254]) (by decide +kernel) rfl) ?_
  refine ev_go0 (ev_p_virt (M := (ev_Mof 183)) (pc := 5) (x := 221) (mi := 1) (na := 1) (by decide +kernel) (by decide +kernel) (by decide +kernel) (by decide +kernel) rfl rfl (ev_recv_of ev_fH254) (ev_k5007 x1 hu_x1)) ?_
  refine ev_go0 (ev_w_astore_n (M := (ev_Mof 183)) (pc := 8) (k := 2) (lv' := [(2, .null), (0, .ref 0), (1, .int x1)]) (by decide +kernel) (by decide +kernel) (Or.inr (Or.inl rfl)) rfl) ?_
  refine ev_go0 (ev_one_pure (M := (ev_Mof 183)) (pc := 9) (i := .aload_n 2) (len := 1) (pc' := 10) (lv' := [(2, .null), (0, .ref 0), (1, .int x1)]) (st' := [.null]) (by decide +kernel) rfl) ?_
  refine ev_go0 (ev_w_ifnonnull (M := (ev_Mof 183)) (pc := 10) (o := 13) (t := 13) (by decide +kernel) (Or.inr ⟨rfl, rfl⟩)) ?_
  rfl
theorem ev_k5009 (x1 : Int32) (hu_x1 : x1.toInt ≤ (-1 : Int)) {n : Nat} : ev_calld 12 380 [.ref 0, .int x1, .ref 723] ev_H0 n = some (.inl (some (.int (1))), ev_H0, n, 1, 6) := by
  refine ev_call_int (k := 7) (pcR := 14) (lv' := [(3, .retAddr 1), (0, .ref 0), (1, .int x1), (2, .ref 723)]) (v := (1)) (ty := .int) (by decide +kernel) rfl ?_ (by decide +kernel) (by decide +kernel) (by decide +kernel) (by decide)
  show ev_stepn _ 7 (0, [(0, .ref 0), (1, .int x1), (2, .ref 723)], [], _, _, 0, 0) = _
  refine ev_go0 (ev_one_pure (M := (ev_Mof 380)) (pc := 0) (i := .aload_n 2) (len := 1) (pc' := 1) (lv' := [(0, .ref 0), (1, .int x1), (2, .ref 723)]) (st' := [.ref 723]) (by decide +kernel) rfl) ?_
  refine ev_go0 (ev_w_iconst (M := (ev_Mof 380)) (pc := 1) (k := 0) (v := 0) (by decide +kernel) (by decide +kernel)) ?_
  refine ev_go0 (ev_one_pure (M := (ev_Mof 380)) (pc := 2) (i := .aload_n 0) (len := 1) (pc' := 3) (lv' := [(0, .ref 0), (1, .int x1), (2, .ref 723)]) (st' := [.ref 0, .int (0), .ref 723]) (by decide +kernel) rfl) ?_
  refine ev_go0 (ev_one_pure (M := (ev_Mof 380)) (pc := 3) (i := .iload_n 1) (len := 1) (pc' := 4) (lv' := [(0, .ref 0), (1, .int x1), (2, .ref 723)]) (st' := [.int x1, .ref 0, .int (0), .ref 723]) (by decide +kernel) rfl) ?_
  refine ev_go (ev_p_virtX (M := (ev_Mof 380)) (pc := 4) (x := 70) (t := 12) (mi := 183) (na := 1) (by decide +kernel) (by decide +kernel) (by decide +kernel) (by decide +kernel) rfl rfl (ev_recv_of ev_fH0) (ev_k5008 x1 hu_x1) (by decide +kernel)) ?_
  refine ev_go0 (ev_w_astore_n (M := (ev_Mof 380)) (pc := 12) (k := 3) (lv' := [(3, .retAddr 1), (0, .ref 0), (1, .int x1), (2, .ref 723)]) (by decide +kernel) (by decide +kernel) (Or.inr (Or.inr ⟨_, rfl⟩)) rfl) ?_
  refine ev_go0 (ev_w_iconst (M := (ev_Mof 380)) (pc := 13) (k := 1) (v := 1) (by decide +kernel) (by decide +kernel)) ?_
  rfl
theorem ev_k5010 (x1 : Int32) (hu_x1 : x1.toInt ≤ (-1 : Int)) {n : Nat} : ev_calld 10 222 [.int x1, .int (0), .int (2)] (ev_H0.set 621 (.inr (13, (ev_F621.set 0 (.int (0)))))) n = some (.inl (some (.int (0))), (ev_H0.set 621 (.inr (13, (ev_F621.set 0 (.int (0)))))), n, 0, 0) := by
  refine ev_call_int (k := 4) (pcR := 15) (lv' := [(0, .int x1), (1, .int (0)), (2, .int (2))]) (v := (0)) (ty := .boolean) (by decide +kernel) rfl ?_ (by decide +kernel) (by decide +kernel) (by decide +kernel) (by decide)
  show ev_stepn _ 4 (0, [(0, .int x1), (1, .int (0)), (2, .int (2))], [], _, _, 0, 0) = _
  refine ev_go0 (ev_one_pure (M := (ev_Mof 222)) (pc := 0) (i := .iload_n 0) (len := 1) (pc' := 1) (lv' := [(0, .int x1), (1, .int (0)), (2, .int (2))]) (st' := [.int x1]) (by decide +kernel) rfl) ?_
  refine ev_go0 (ev_one_pure (M := (ev_Mof 222)) (pc := 1) (i := .iload_n 1) (len := 1) (pc' := 2) (lv' := [(0, .int x1), (1, .int (0)), (2, .int (2))]) (st' := [.int (0), .int x1]) (by decide +kernel) rfl) ?_
  refine ev_go0 (ev_w_icmp (M := (ev_Mof 222)) (pc := 2) (q := .lt) (o := 12) (b := true) (t := 14) (by decide +kernel) (ev_c_lt1 hu_x1 (by decide +kernel)) rfl) ?_
  refine ev_go0 (ev_w_iconst (M := (ev_Mof 222)) (pc := 14) (k := 0) (v := 0) (by decide +kernel) (by decide +kernel)) ?_
  rfl
theorem ev_k5011 (x1 : Int32) (hu_x1 : x1.toInt ≤ (-1 : Int)) {n : Nat} : ev_calld 11 325 [.ref 621, .int x1] (ev_H0.set 621 (.inr (13, (ev_F621.set 0 (.int (0)))))) n = some (.inl (some (.int (0))), (ev_H0.set 621 (.inr (13, (ev_F621.set 0 (.int (0)))))), n, 0, 0) := by
  refine ev_call_int (k := 4) (pcR := 6) (lv' := [(0, .ref 621), (1, .int x1)]) (v := (0)) (ty := .boolean) (by decide +kernel) rfl ?_ (by decide +kernel) (by decide +kernel) (by decide +kernel) (by decide)
  show ev_stepn _ 4 (0, [(0, .ref 621), (1, .int x1)], [], _, _, 0, 0) = _
  refine ev_go0 (ev_one_pure (M := (ev_Mof 325)) (pc := 0) (i := .iload_n 1) (len := 1) (pc' := 1) (lv' := [(0, .ref 621), (1, .int x1)]) (st' := [.int x1]) (by decide +kernel) rfl) ?_
  refine ev_go0 (ev_w_iconst (M := (ev_Mof 325)) (pc := 1) (k := 0) (v := 0) (by decide +kernel) (by decide +kernel)) ?_
  refine ev_go0 (ev_w_iconst (M := (ev_Mof 325)) (pc := 2) (k := 2) (v := 2) (by decide +kernel) (by decide +kernel)) ?_
  refine ev_go0 (ev_w_stat (M := (ev_Mof 325)) (pc := 3) (y := 325) (kind := 2) (Or.inl rfl) (mi := 222) (na := 3) (by decide +kernel) (by decide +kernel) (by decide +kernel) (by decide +kernel) rfl rfl (ev_k5010 x1 hu_x1)) ?_
  rfl
theorem ev_k5012 {n : Nat} : ev_calld 11 221 [.ref 621, .int (1)] (ev_H0.set 621 (.inr (13, (ev_F621.set 0 (.int (0)))))) n = some (.inl (some (.int (0))), ((ev_H0.set 621 (.inr (13, (ev_F621.set 0 (.int (0)))))).set 621 (.inr (13, ((ev_F621.set 0 (.int (0))).set 0 (.int (1)))))), n, 0, 0) := by
  refine ev_call_int (k := 4) (pcR := 6) (lv' := [(0, .ref 621), (1, .int (1))]) (v := (0)) (ty := .int) (by decide +kernel) rfl ?_ (by decide +kernel) (by decide +kernel) (by decide +kernel) (by decide)
  show ev_stepn _ 4 (0, [(0, .ref 621), (1, .int (1))], [], _, _, 0, 0) = _
  refine ev_go0 (ev_one_pure (M := (ev_Mof 221)) (pc := 0) (i := .aload_n 0) (len := 1) (pc' := 1) (lv' := [(0, .ref 621), (1, .int (1))]) (st' := [.ref 621]) (by decide +kernel) rfl) ?_
  refine ev_go0 (ev_one_pure (M := (ev_Mof 221)) (pc := 1) (i := .iload_n 1) (len := 1) (pc' := 2) (lv' := [(0, .ref 621), (1, .int (1))]) (st' := [.int (1), .ref 621]) (by decide +kernel) rfl) ?_
  refine ev_go0 (ev_p_putf (M := (ev_Mof 221)) (pc := 2) (x := 321) (ci := 13) (f := 0) (by decide +kernel) (by decide +kernel) (ev_hself ev_fH621) rfl (by decide +kernel)) ?_
  refine ev_go0 (ev_w_iconst (M := (ev_Mof 221)) (pc := 5) (k := 0) (v := 0) (by decide +kernel) (by decide +kernel)) ?_
  rfl
theorem ev_k5013 (x1 : Int32) (hu_x1 : x1.toInt ≤ (-1 : Int)) {n : Nat} : ev_calld 12 346 [.ref 621, .int x1] ev_H0 n = some (.inl (some (.int (0))), ((ev_H0.set 621 (.inr (13, (ev_F621.set 0 (.int (0)))))).set 621 (.inr (13, ((ev_F621.set 0 (.int (0))).set 0 (.int (1)))))), n, 0, 0) := by
  refine ev_call_int (k := 10) (pcR := 18) (lv' := [(0, .ref 621), (1, .int x1)]) (v := (0)) (ty := .int) (by decide +kernel) rfl ?_ (by decide +kernel) (by decide +kernel) (by decide +kernel) (by decide)
  show ev_stepn _ 10 (0, [(0, .ref 621), (1, .int x1)], [], _, _, 0, 0) = _
  refine ev_go0 (ev_one_pure (M := (ev_Mof 346)) (pc := 0) (i := .aload_n 0) (len := 1) (pc' := 1) (lv' := [(0, .ref 621), (1, .int x1)]) (st' := [.ref 621]) (by decide +kernel) rfl) ?_
  refine ev_go0 (ev_w_iconst (M := (ev_Mof 346)) (pc := 1) (k := 0) (v := 0) (by decide +kernel) (by decide +kernel)) ?_
  refine ev_go0 (ev_p_putf (M := (ev_Mof 346)) (pc := 2) (x := 321) (ci := 13) (f := 0) (by decide +kernel) (by decide +kernel) ev_fH621 rfl (by decide +kernel)) ?_
  refine ev_go0 (ev_one_pure (M := (ev_Mof 346)) (pc := 5) (i := .aload_n 0) (len := 1) (pc' := 6) (lv' := [(0, .ref 621), (1, .int x1)]) (st' := [.ref 621]) (by decide +kernel) rfl) ?_
  refine ev_go0 (ev_one_pure (M := (ev_Mof 346)) (pc := 6) (i := .iload_n 1) (len := 1) (pc' := 7) (lv' := [(0, .ref 621), (1, .int x1)]) (st' := [.int x1, .ref 621]) (by decide +kernel) rfl) ?_
  refine ev_go0 (ev_p_virt (M := (ev_Mof 346)) (pc := 7) (x := 716) (mi := 325) (na := 1) (by decide +kernel) (by decide +kernel) (by decide +kernel) (by decide +kernel) rfl rfl (ev_recv_of (ev_hself ev_fH621)) (ev_k5011 x1 hu_x1)) ?_
  refine ev_go0 (ev_w_if (M := (ev_Mof 346)) (pc := 10) (q := .ne) (o := 9) (b := false) (t := 13) (by decide +kernel) (by decide +kernel) rfl) ?_
  refine ev_go0 (ev_one_pure (M := (ev_Mof 346)) (pc := 13) (i := .aload_n 0) (len := 1) (pc' := 14) (lv' := [(0, .ref 621), (1, .int x1)]) (st' := [.ref 621]) (by decide +kernel) rfl) ?_
  refine ev_go0 (ev_w_iconst (M := (ev_Mof 346)) (pc := 14) (k := 1) (v := 1) (by decide +kernel) (by decide +kernel)) ?_
  refine ev_go0 (ev_p_virt (M := (ev_Mof 346)) (pc := 15) (x := 342) (mi := 221) (na := 1) (by decide +kernel) (by decide +kernel) (by decide +kernel) (by decide +kernel) rfl rfl (ev_recv_of (ev_hself ev_fH621)) ev_k5012) ?_
  rfl
theorem ev_k5014 {n : Nat} : ev_calld 12 220 [.ref 621] ((ev_H0.set 621 (.inr (13, (ev_F621.set 0 (.int (0)))))).set 621 (.inr (13, ((ev_F621.set 0 (.int (0))).set 0 (.int (1)))))) n = some (.inl (some (.int (1))), ((ev_H0.set 621 (.inr (13, (ev_F621.set 0 (.int (0)))))).set 621 (.inr (13, ((ev_F621.set 0 (.int (0))).set 0 (.int (1)))))), n, 0, 0) := by
  refine ev_call_int (k := 2) (pcR := 4) (lv' := [(0, .ref 621)]) (v := (1)) (ty := .int) (by decide +kernel) rfl ?_ (by decide +kernel) (by decide +kernel) (by decide +kernel) (by decide)
  show ev_stepn _ 2 (0, [(0, .ref 621)], [], _, _, 0, 0) = _
  refine ev_go0 (ev_one_pure (M := (ev_Mof 220)) (pc := 0) (i := .aload_n 0) (len := 1) (pc' := 1) (lv' := [(0, .ref 621)]) (st' := [.ref 621]) (by decide +kernel) rfl) ?_
  refine ev_go0 (ev_p_getf (M := (ev_Mof 220)) (pc := 1) (x := 321) (ci := 13) (f := 0) (fin := 0) (v := .int (1)) (by decide +kernel) (by decide +kernel) (ev_hself (ev_hself ev_fH621)) rfl) ?_
  rfl
theorem ev_p1_17_n (xs : Nat → Int32) (x1 : Int32) (hu_x1 : x1.toInt ≤ (-1 : Int)) (e1 : xs 1 = x1) : ev_P1 xs 1308 := by
  refine ⟨24, [(6, .int (0)), (5, .int (1)), (4, .int (0)), (3, .ref 723), (2, .ref 621), (1, .ref 0), (0, .retAddr 0)], ((ev_H0.set 621 (.inr (13, (ev_F621.set 0 (.int (0)))))).set 621 (.inr (13, ((ev_F621.set 0 (.int (0))).set 0 (.int (1)))))), 724, 725, 3553592, ?_, ⟨rfl, rfl, rfl, rfl⟩, rfl, by decide, by decide⟩
  show ev_stepn _ _ (1308, [(4, .int (0)), (3, .ref 723), (2, .ref 621), (1, .ref 0), (0, .retAddr 0)], [], _, _, _, _) = _
  refine ev_go0 (ev_one_pure (M := ev_Mlaw) (pc := 1308) (i := .aload_n 1) (len := 1) (pc' := 1309) (lv' := [(4, .int (0)), (3, .ref 723), (2, .ref 621), (1, .ref 0), (0, .retAddr 0)]) (st' := [.ref 0]) (by decide +kernel) rfl) ?_
  refine ev_go0 (ev_one_pure (M := ev_Mlaw) (pc := 1309) (i := .aload_n 0) (len := 1) (pc' := 1310) (lv' := [(4, .int (0)), (3, .ref 723), (2, .ref 621), (1, .ref 0), (0, .retAddr 0)]) (st' := [.retAddr 0, .ref 0]) (by decide +kernel) rfl) ?_
  refine ev_go0 (ev_one_pure (M := ev_Mlaw) (pc := 1310) (i := .iload 4) (len := 2) (pc' := 1312) (lv' := [(4, .int (0)), (3, .ref 723), (2, .ref 621), (1, .ref 0), (0, .retAddr 0)]) (st' := [.int (0), .retAddr 0, .ref 0]) (by decide +kernel) rfl) ?_
  refine ev_go0 (ev_w_iconst (M := ev_Mlaw) (pc := 1312) (k := 1) (v := 1) (by decide +kernel) (by decide +kernel)) ?_
  refine ev_go0 (ev_w_iadd (M := ev_Mlaw) (pc := 1313) (v := (1)) (by decide +kernel) (by decide +kernel)) ?_
  refine ev_go0 (ev_w_scr (M := ev_Mlaw) (pc := 1314) (v := x1) (j := 1) (by decide +kernel) (by decide +kernel) (by decide +kernel) e1) ?_
  refine ev_go0 (ev_one_pure (M := ev_Mlaw) (pc := 1315) (i := .aload_n 3) (len := 1) (pc' := 1316) (lv' := [(4, .int (0)), (3, .ref 723), (2, .ref 621), (1, .ref 0), (0, .retAddr 0)]) (st' := [.ref 723, .int x1, .ref 0]) (by decide +kernel) rfl) ?_
  refine ev_go (ev_w_stat (M := ev_Mlaw) (pc := 1316) (y := 188) (kind := 8) (Or.inr (Or.inr rfl)) (mi := 380) (na := 3) (by decide +kernel) (by decide +kernel) (by decide +kernel) (by decide +kernel) rfl rfl (ev_k5009 x1 hu_x1)) ?_
  refine ev_go0 (ev_w_istore (M := ev_Mlaw) (pc := 1319) (k := 5) (lv' := [(5, .int (1)), (4, .int (0)), (3, .ref 723), (2, .ref 621), (1, .ref 0), (0, .retAddr 0)]) (by decide +kernel) (by decide +kernel) rfl) ?_
  refine ev_go0 (ev_one_pure (M := ev_Mlaw) (pc := 1321) (i := .aload_n 2) (len := 1) (pc' := 1322) (lv' := [(5, .int (1)), (4, .int (0)), (3, .ref 723), (2, .ref 621), (1, .ref 0), (0, .retAddr 0)]) (st' := [.ref 621]) (by decide +kernel) rfl) ?_
  refine ev_go0 (ev_one_pure (M := ev_Mlaw) (pc := 1322) (i := .aload_n 0) (len := 1) (pc' := 1323) (lv' := [(5, .int (1)), (4, .int (0)), (3, .ref 723), (2, .ref 621), (1, .ref 0), (0, .retAddr 0)]) (st' := [.retAddr 0, .ref 621]) (by decide +kernel) rfl) ?_
  refine ev_go0 (ev_one_pure (M := ev_Mlaw) (pc := 1323) (i := .iload 4) (len := 2) (pc' := 1325) (lv' := [(5, .int (1)), (4, .int (0)), (3, .ref 723), (2, .ref 621), (1, .ref 0), (0, .retAddr 0)]) (st' := [.int (0), .retAddr 0, .ref 621]) (by decide +kernel) rfl) ?_
  refine ev_go0 (ev_w_iconst (M := ev_Mlaw) (pc := 1325) (k := 1) (v := 1) (by decide +kernel) (by decide +kernel)) ?_
  refine ev_go0 (ev_w_iadd (M := ev_Mlaw) (pc := 1326) (v := (1)) (by decide +kernel) (by decide +kernel)) ?_
  refine ev_go0 (ev_w_scr (M := ev_Mlaw) (pc := 1327) (v := x1) (j := 1) (by decide +kernel) (by decide +kernel) (by decide +kernel) e1) ?_
  refine ev_go0 (ev_p_virt (M := ev_Mlaw) (pc := 1328) (x := 190) (mi := 346) (na := 1) (by decide +kernel) (by decide +kernel) (by decide +kernel) (by decide +kernel) rfl rfl (ev_recv_of ev_fH621) (ev_k5013 x1 hu_x1)) ?_
  refine ev_go0 (ev_w_istore (M := ev_Mlaw) (pc := 1331) (k := 6) (lv' := [(6, .int (0)), (5, .int (1)), (4, .int (0)), (3, .ref 723), (2, .ref 621), (1, .ref 0), (0, .retAddr 0)]) (by decide +kernel) (by decide +kernel) rfl) ?_
  refine ev_go0 (ev_one_pure (M := ev_Mlaw) (pc := 1333) (i := .aload_n 2) (len := 1) (pc' := 1334) (lv' := [(6, .int (0)), (5, .int (1)), (4, .int (0)), (3, .ref 723), (2, .ref 621), (1, .ref 0), (0, .retAddr 0)]) (st' := [.ref 621]) (by decide +kernel) rfl) ?_
  refine ev_go0 (ev_p_virt (M := ev_Mlaw) (pc := 1334) (x := 131) (mi := 220) (na := 0) (by decide +kernel) (by decide +kernel) (by decide +kernel) (by decide +kernel) rfl rfl (ev_recv_of (ev_hself (ev_hself ev_fH621))) ev_k5014) ?_
  refine ev_go0 (ev_one_pure (M := ev_Mlaw) (pc := 1337) (i := .iload 5) (len := 2) (pc' := 1339) (lv' := [(6, .int (0)), (5, .int (1)), (4, .int (0)), (3, .ref 723), (2, .ref 621), (1, .ref 0), (0, .retAddr 0)]) (st' := [.int (1), .int (1)]) (by decide +kernel) rfl) ?_
  refine ev_go0 (ev_w_icmp (M := ev_Mlaw) (pc := 1339) (q := .eq) (o := 5) (b := true) (t := 1344) (by decide +kernel) (by decide +kernel) rfl) ?_
  refine ev_go0 (ev_one_pure (M := ev_Mlaw) (pc := 1344) (i := .iload 5) (len := 2) (pc' := 1346) (lv' := [(6, .int (0)), (5, .int (1)), (4, .int (0)), (3, .ref 723), (2, .ref 621), (1, .ref 0), (0, .retAddr 0)]) (st' := [.int (1)]) (by decide +kernel) rfl) ?_
  refine ev_go0 (ev_w_if (M := ev_Mlaw) (pc := 1346) (q := .ne) (o := 15) (b := true) (t := 1361) (by decide +kernel) (by decide +kernel) rfl) ?_
  refine ev_go0 (ev_one_pure (M := ev_Mlaw) (pc := 1361) (i := .goto 911) (len := 3) (pc' := 2272) (lv' := [(6, .int (0)), (5, .int (1)), (4, .int (0)), (3, .ref 723), (2, .ref 621), (1, .ref 0), (0, .retAddr 0)]) (st' := []) (by decide +kernel) rfl) ?_
  rfl
theorem ev_k5015 (x1 : Int32) (hl_x1 : (3 : Int) ≤ x1.toInt) {n : Nat} : ev_calld 10 1 [.ref 254, .int x1] ev_H0 n = some (.inl (some (.null)), ev_H0, n, 0, 0) := by
  refine ev_call_ref (k := 6) (pcR := 19) (lv' := [(0, .ref 254), (1, .int x1)]) (v := .null) (C := "MendBench$Text") (by decide +kernel) rfl ?_ (by decide +kernel) (by decide +kernel) rfl (by decide)
  show ev_stepn _ 6 (0, [(0, .ref 254), (1, .int x1)], [], _, _, 0, 0) = _
  refine ev_go0 (ev_one_pure (M := (ev_Mof 1)) (pc := 0) (i := .iload_n 1) (len := 1) (pc' := 1) (lv' := [(0, .ref 254), (1, .int x1)]) (st' := [.int x1]) (by decide +kernel) rfl) ?_
  refine ev_go0 (ev_w_if (M := (ev_Mof 1)) (pc := 1) (q := .lt) (o := 17) (b := false) (t := 4) (by decide +kernel) (ev_c_lt0 hl_x1 (by decide +kernel)) rfl) ?_
  refine ev_go0 (ev_one_pure (M := (ev_Mof 1)) (pc := 4) (i := .iload_n 1) (len := 1) (pc' := 5) (lv' := [(0, .ref 254), (1, .int x1)]) (st' := [.int x1]) (by decide +kernel) rfl) ?_
  refine ev_go0 (ev_w_iconst (M := (ev_Mof 1)) (pc := 5) (k := 3) (v := 3) (by decide +kernel) (by decide +kernel)) ?_
  refine ev_go0 (ev_w_icmp (M := (ev_Mof 1)) (pc := 6) (q := .ge) (o := 12) (b := true) (t := 18) (by decide +kernel) (ev_c_ge1 hl_x1 (by decide +kernel)) rfl) ?_
  refine ev_go0 (ev_one_pure (M := (ev_Mof 1)) (pc := 18) (i := .aconst_null) (len := 1) (pc' := 19) (lv' := [(0, .ref 254), (1, .int x1)]) (st' := [.null]) (by decide +kernel) rfl) ?_
  rfl
theorem ev_k5016 (x1 : Int32) (hl_x1 : (3 : Int) ≤ x1.toInt) {n : Nat} : ev_calld 11 183 [.ref 0, .int x1] ev_H0 n = some (.inr "java/lang/IndexOutOfBoundsException", ev_H0, n, 1, 6) := by
  refine ev_call_thrown (k := 7) (pcR := 13) (x := 160) (lv' := [(2, .null), (0, .ref 0), (1, .int x1)]) (by decide +kernel) rfl ?_ (by decide +kernel) (by decide +kernel) (by decide +kernel) (by decide) (by decide)
  show ev_stepn _ 7 (0, [(0, .ref 0), (1, .int x1)], [], _, _, 0, 0) = _
  refine ev_go0 (ev_one_pure (M := (ev_Mof 183)) (pc := 0) (i := .aload_n 0) (len := 1) (pc' := 1) (lv' := [(0, .ref 0), (1, .int x1)]) (st' := [.ref 0]) (by decide +kernel) rfl) ?_
  refine ev_go0 (ev_p_getf (M := (ev_Mof 183)) (pc := 1) (x := 48) (ci := 12) (f := 8) (fin := 1) (v := .ref 254) (by decide +kernel) (by decide +kernel) ev_fH0 rfl) ?_
  refine ev_go0 (ev_one_pure (M := (ev_Mof 183)) (pc := 4) (i := .iload_n 1) (len := 1) (pc' := 5) (lv' := [(0, .ref 0), (1, .int x1)]) (st' := [.int x1, .ref 254]) (by decide +kernel) rfl) ?_
  refine ev_go0 (ev_p_virt (M := (ev_Mof 183)) (pc := 5) (x := 221) (mi := 1) (na := 1) (by decide +kernel) (by decide +kernel) (by decide +kernel) (by decide +kernel) rfl rfl (ev_recv_of ev_fH254) (ev_k5015 x1 hl_x1)) ?_
  refine ev_go0 (ev_w_astore_n (M := (ev_Mof 183)) (pc := 8) (k := 2) (lv' := [(2, .null), (0, .ref 0), (1, .int x1)]) (by decide +kernel) (by decide +kernel) (Or.inr (Or.inl rfl)) rfl) ?_
  refine ev_go0 (ev_one_pure (M := (ev_Mof 183)) (pc := 9) (i := .aload_n 2) (len := 1) (pc' := 10) (lv' := [(2, .null), (0, .ref 0), (1, .int x1)]) (st' := [.null]) (by decide +kernel) rfl) ?_
  refine ev_go0 (ev_w_ifnonnull (M := (ev_Mof 183)) (pc := 10) (o := 13) (t := 13) (by decide +kernel) (Or.inr ⟨rfl, rfl⟩)) ?_
  rfl
theorem ev_k5017 (x1 : Int32) (hl_x1 : (3 : Int) ≤ x1.toInt) {n : Nat} : ev_calld 12 380 [.ref 0, .int x1, .ref 723] ev_H0 n = some (.inl (some (.int (1))), ev_H0, n, 1, 6) := by
  refine ev_call_int (k := 7) (pcR := 14) (lv' := [(3, .retAddr 1), (0, .ref 0), (1, .int x1), (2, .ref 723)]) (v := (1)) (ty := .int) (by decide +kernel) rfl ?_ (by decide +kernel) (by decide +kernel) (by decide +kernel) (by decide)
  show ev_stepn _ 7 (0, [(0, .ref 0), (1, .int x1), (2, .ref 723)], [], _, _, 0, 0) = _
  refine ev_go0 (ev_one_pure (M := (ev_Mof 380)) (pc := 0) (i := .aload_n 2) (len := 1) (pc' := 1) (lv' := [(0, .ref 0), (1, .int x1), (2, .ref 723)]) (st' := [.ref 723]) (by decide +kernel) rfl) ?_
  refine ev_go0 (ev_w_iconst (M := (ev_Mof 380)) (pc := 1) (k := 0) (v := 0) (by decide +kernel) (by decide +kernel)) ?_
  refine ev_go0 (ev_one_pure (M := (ev_Mof 380)) (pc := 2) (i := .aload_n 0) (len := 1) (pc' := 3) (lv' := [(0, .ref 0), (1, .int x1), (2, .ref 723)]) (st' := [.ref 0, .int (0), .ref 723]) (by decide +kernel) rfl) ?_
  refine ev_go0 (ev_one_pure (M := (ev_Mof 380)) (pc := 3) (i := .iload_n 1) (len := 1) (pc' := 4) (lv' := [(0, .ref 0), (1, .int x1), (2, .ref 723)]) (st' := [.int x1, .ref 0, .int (0), .ref 723]) (by decide +kernel) rfl) ?_
  refine ev_go (ev_p_virtX (M := (ev_Mof 380)) (pc := 4) (x := 70) (t := 12) (mi := 183) (na := 1) (by decide +kernel) (by decide +kernel) (by decide +kernel) (by decide +kernel) rfl rfl (ev_recv_of ev_fH0) (ev_k5016 x1 hl_x1) (by decide +kernel)) ?_
  refine ev_go0 (ev_w_astore_n (M := (ev_Mof 380)) (pc := 12) (k := 3) (lv' := [(3, .retAddr 1), (0, .ref 0), (1, .int x1), (2, .ref 723)]) (by decide +kernel) (by decide +kernel) (Or.inr (Or.inr ⟨_, rfl⟩)) rfl) ?_
  refine ev_go0 (ev_w_iconst (M := (ev_Mof 380)) (pc := 13) (k := 1) (v := 1) (by decide +kernel) (by decide +kernel)) ?_
  rfl
theorem ev_k5018 (x1 : Int32) (hl_x1 : (3 : Int) ≤ x1.toInt) {n : Nat} : ev_calld 10 222 [.int x1, .int (0), .int (2)] (ev_H0.set 621 (.inr (13, (ev_F621.set 0 (.int (0)))))) n = some (.inl (some (.int (0))), (ev_H0.set 621 (.inr (13, (ev_F621.set 0 (.int (0)))))), n, 0, 0) := by
  refine ev_call_int (k := 7) (pcR := 15) (lv' := [(0, .int x1), (1, .int (0)), (2, .int (2))]) (v := (0)) (ty := .boolean) (by decide +kernel) rfl ?_ (by decide +kernel) (by decide +kernel) (by decide +kernel) (by decide)
  show ev_stepn _ 7 (0, [(0, .int x1), (1, .int (0)), (2, .int (2))], [], _, _, 0, 0) = _
  refine ev_go0 (ev_one_pure (M := (ev_Mof 222)) (pc := 0) (i := .iload_n 0) (len := 1) (pc' := 1) (lv' := [(0, .int x1), (1, .int (0)), (2, .int (2))]) (st' := [.int x1]) (by decide +kernel) rfl) ?_
  refine ev_go0 (ev_one_pure (M := (ev_Mof 222)) (pc := 1) (i := .iload_n 1) (len := 1) (pc' := 2) (lv' := [(0, .int x1), (1, .int (0)), (2, .int (2))]) (st' := [.int (0), .int x1]) (by decide +kernel) rfl) ?_
  refine ev_go0 (ev_w_icmp (M := (ev_Mof 222)) (pc := 2) (q := .lt) (o := 12) (b := false) (t := 5) (by decide +kernel) (ev_c_lt0 hl_x1 (by decide +kernel)) rfl) ?_
  refine ev_go0 (ev_one_pure (M := (ev_Mof 222)) (pc := 5) (i := .iload_n 0) (len := 1) (pc' := 6) (lv' := [(0, .int x1), (1, .int (0)), (2, .int (2))]) (st' := [.int x1]) (by decide +kernel) rfl) ?_
  refine ev_go0 (ev_one_pure (M := (ev_Mof 222)) (pc := 6) (i := .iload_n 2) (len := 1) (pc' := 7) (lv' := [(0, .int x1), (1, .int (0)), (2, .int (2))]) (st' := [.int (2), .int x1]) (by decide +kernel) rfl) ?_
  refine ev_go0 (ev_w_icmp (M := (ev_Mof 222)) (pc := 7) (q := .gt) (o := 7) (b := true) (t := 14) (by decide +kernel) (ev_c_gt1 hl_x1 (by decide +kernel)) rfl) ?_
  refine ev_go0 (ev_w_iconst (M := (ev_Mof 222)) (pc := 14) (k := 0) (v := 0) (by decide +kernel) (by decide +kernel)) ?_
  rfl
theorem ev_k5019 (x1 : Int32) (hl_x1 : (3 : Int) ≤ x1.toInt) {n : Nat} : ev_calld 11 325 [.ref 621, .int x1] (ev_H0.set 621 (.inr (13, (ev_F621.set 0 (.int (0)))))) n = some (.inl (some (.int (0))), (ev_H0.set 621 (.inr (13, (ev_F621.set 0 (.int (0)))))), n, 0, 0) := by
  refine ev_call_int (k := 4) (pcR := 6) (lv' := [(0, .ref 621), (1, .int x1)]) (v := (0)) (ty := .boolean) (by decide +kernel) rfl ?_ (by decide +kernel) (by decide +kernel) (by decide +kernel) (by decide)
  show ev_stepn _ 4 (0, [(0, .ref 621), (1, .int x1)], [], _, _, 0, 0) = _
  refine ev_go0 (ev_one_pure (M := (ev_Mof 325)) (pc := 0) (i := .iload_n 1) (len := 1) (pc' := 1) (lv' := [(0, .ref 621), (1, .int x1)]) (st' := [.int x1]) (by decide +kernel) rfl) ?_
  refine ev_go0 (ev_w_iconst (M := (ev_Mof 325)) (pc := 1) (k := 0) (v := 0) (by decide +kernel) (by decide +kernel)) ?_
  refine ev_go0 (ev_w_iconst (M := (ev_Mof 325)) (pc := 2) (k := 2) (v := 2) (by decide +kernel) (by decide +kernel)) ?_
  refine ev_go0 (ev_w_stat (M := (ev_Mof 325)) (pc := 3) (y := 325) (kind := 2) (Or.inl rfl) (mi := 222) (na := 3) (by decide +kernel) (by decide +kernel) (by decide +kernel) (by decide +kernel) rfl rfl (ev_k5018 x1 hl_x1)) ?_
  rfl
theorem ev_k5020 (x1 : Int32) (hl_x1 : (3 : Int) ≤ x1.toInt) {n : Nat} : ev_calld 12 346 [.ref 621, .int x1] ev_H0 n = some (.inl (some (.int (0))), ((ev_H0.set 621 (.inr (13, (ev_F621.set 0 (.int (0)))))).set 621 (.inr (13, ((ev_F621.set 0 (.int (0))).set 0 (.int (1)))))), n, 0, 0) := by
  refine ev_call_int (k := 10) (pcR := 18) (lv' := [(0, .ref 621), (1, .int x1)]) (v := (0)) (ty := .int) (by decide +kernel) rfl ?_ (by decide +kernel) (by decide +kernel) (by decide +kernel) (by decide)
  show ev_stepn _ 10 (0, [(0, .ref 621), (1, .int x1)], [], _, _, 0, 0) = _
  refine ev_go0 (ev_one_pure (M := (ev_Mof 346)) (pc := 0) (i := .aload_n 0) (len := 1) (pc' := 1) (lv' := [(0, .ref 621), (1, .int x1)]) (st' := [.ref 621]) (by decide +kernel) rfl) ?_
  refine ev_go0 (ev_w_iconst (M := (ev_Mof 346)) (pc := 1) (k := 0) (v := 0) (by decide +kernel) (by decide +kernel)) ?_
  refine ev_go0 (ev_p_putf (M := (ev_Mof 346)) (pc := 2) (x := 321) (ci := 13) (f := 0) (by decide +kernel) (by decide +kernel) ev_fH621 rfl (by decide +kernel)) ?_
  refine ev_go0 (ev_one_pure (M := (ev_Mof 346)) (pc := 5) (i := .aload_n 0) (len := 1) (pc' := 6) (lv' := [(0, .ref 621), (1, .int x1)]) (st' := [.ref 621]) (by decide +kernel) rfl) ?_
  refine ev_go0 (ev_one_pure (M := (ev_Mof 346)) (pc := 6) (i := .iload_n 1) (len := 1) (pc' := 7) (lv' := [(0, .ref 621), (1, .int x1)]) (st' := [.int x1, .ref 621]) (by decide +kernel) rfl) ?_
  refine ev_go0 (ev_p_virt (M := (ev_Mof 346)) (pc := 7) (x := 716) (mi := 325) (na := 1) (by decide +kernel) (by decide +kernel) (by decide +kernel) (by decide +kernel) rfl rfl (ev_recv_of (ev_hself ev_fH621)) (ev_k5019 x1 hl_x1)) ?_
  refine ev_go0 (ev_w_if (M := (ev_Mof 346)) (pc := 10) (q := .ne) (o := 9) (b := false) (t := 13) (by decide +kernel) (by decide +kernel) rfl) ?_
  refine ev_go0 (ev_one_pure (M := (ev_Mof 346)) (pc := 13) (i := .aload_n 0) (len := 1) (pc' := 14) (lv' := [(0, .ref 621), (1, .int x1)]) (st' := [.ref 621]) (by decide +kernel) rfl) ?_
  refine ev_go0 (ev_w_iconst (M := (ev_Mof 346)) (pc := 14) (k := 1) (v := 1) (by decide +kernel) (by decide +kernel)) ?_
  refine ev_go0 (ev_p_virt (M := (ev_Mof 346)) (pc := 15) (x := 342) (mi := 221) (na := 1) (by decide +kernel) (by decide +kernel) (by decide +kernel) (by decide +kernel) rfl rfl (ev_recv_of (ev_hself ev_fH621)) ev_k5012) ?_
  rfl
theorem ev_p1_17_g (xs : Nat → Int32) (x1 : Int32) (hl_x1 : (3 : Int) ≤ x1.toInt) (e1 : xs 1 = x1) : ev_P1 xs 1308 := by
  refine ⟨24, [(6, .int (0)), (5, .int (1)), (4, .int (0)), (3, .ref 723), (2, .ref 621), (1, .ref 0), (0, .retAddr 0)], ((ev_H0.set 621 (.inr (13, (ev_F621.set 0 (.int (0)))))).set 621 (.inr (13, ((ev_F621.set 0 (.int (0))).set 0 (.int (1)))))), 724, 725, 3553592, ?_, ⟨rfl, rfl, rfl, rfl⟩, rfl, by decide, by decide⟩
  show ev_stepn _ _ (1308, [(4, .int (0)), (3, .ref 723), (2, .ref 621), (1, .ref 0), (0, .retAddr 0)], [], _, _, _, _) = _
  refine ev_go0 (ev_one_pure (M := ev_Mlaw) (pc := 1308) (i := .aload_n 1) (len := 1) (pc' := 1309) (lv' := [(4, .int (0)), (3, .ref 723), (2, .ref 621), (1, .ref 0), (0, .retAddr 0)]) (st' := [.ref 0]) (by decide +kernel) rfl) ?_
  refine ev_go0 (ev_one_pure (M := ev_Mlaw) (pc := 1309) (i := .aload_n 0) (len := 1) (pc' := 1310) (lv' := [(4, .int (0)), (3, .ref 723), (2, .ref 621), (1, .ref 0), (0, .retAddr 0)]) (st' := [.retAddr 0, .ref 0]) (by decide +kernel) rfl) ?_
  refine ev_go0 (ev_one_pure (M := ev_Mlaw) (pc := 1310) (i := .iload 4) (len := 2) (pc' := 1312) (lv' := [(4, .int (0)), (3, .ref 723), (2, .ref 621), (1, .ref 0), (0, .retAddr 0)]) (st' := [.int (0), .retAddr 0, .ref 0]) (by decide +kernel) rfl) ?_
  refine ev_go0 (ev_w_iconst (M := ev_Mlaw) (pc := 1312) (k := 1) (v := 1) (by decide +kernel) (by decide +kernel)) ?_
  refine ev_go0 (ev_w_iadd (M := ev_Mlaw) (pc := 1313) (v := (1)) (by decide +kernel) (by decide +kernel)) ?_
  refine ev_go0 (ev_w_scr (M := ev_Mlaw) (pc := 1314) (v := x1) (j := 1) (by decide +kernel) (by decide +kernel) (by decide +kernel) e1) ?_
  refine ev_go0 (ev_one_pure (M := ev_Mlaw) (pc := 1315) (i := .aload_n 3) (len := 1) (pc' := 1316) (lv' := [(4, .int (0)), (3, .ref 723), (2, .ref 621), (1, .ref 0), (0, .retAddr 0)]) (st' := [.ref 723, .int x1, .ref 0]) (by decide +kernel) rfl) ?_
  refine ev_go (ev_w_stat (M := ev_Mlaw) (pc := 1316) (y := 188) (kind := 8) (Or.inr (Or.inr rfl)) (mi := 380) (na := 3) (by decide +kernel) (by decide +kernel) (by decide +kernel) (by decide +kernel) rfl rfl (ev_k5017 x1 hl_x1)) ?_
  refine ev_go0 (ev_w_istore (M := ev_Mlaw) (pc := 1319) (k := 5) (lv' := [(5, .int (1)), (4, .int (0)), (3, .ref 723), (2, .ref 621), (1, .ref 0), (0, .retAddr 0)]) (by decide +kernel) (by decide +kernel) rfl) ?_
  refine ev_go0 (ev_one_pure (M := ev_Mlaw) (pc := 1321) (i := .aload_n 2) (len := 1) (pc' := 1322) (lv' := [(5, .int (1)), (4, .int (0)), (3, .ref 723), (2, .ref 621), (1, .ref 0), (0, .retAddr 0)]) (st' := [.ref 621]) (by decide +kernel) rfl) ?_
  refine ev_go0 (ev_one_pure (M := ev_Mlaw) (pc := 1322) (i := .aload_n 0) (len := 1) (pc' := 1323) (lv' := [(5, .int (1)), (4, .int (0)), (3, .ref 723), (2, .ref 621), (1, .ref 0), (0, .retAddr 0)]) (st' := [.retAddr 0, .ref 621]) (by decide +kernel) rfl) ?_
  refine ev_go0 (ev_one_pure (M := ev_Mlaw) (pc := 1323) (i := .iload 4) (len := 2) (pc' := 1325) (lv' := [(5, .int (1)), (4, .int (0)), (3, .ref 723), (2, .ref 621), (1, .ref 0), (0, .retAddr 0)]) (st' := [.int (0), .retAddr 0, .ref 621]) (by decide +kernel) rfl) ?_
  refine ev_go0 (ev_w_iconst (M := ev_Mlaw) (pc := 1325) (k := 1) (v := 1) (by decide +kernel) (by decide +kernel)) ?_
  refine ev_go0 (ev_w_iadd (M := ev_Mlaw) (pc := 1326) (v := (1)) (by decide +kernel) (by decide +kernel)) ?_
  refine ev_go0 (ev_w_scr (M := ev_Mlaw) (pc := 1327) (v := x1) (j := 1) (by decide +kernel) (by decide +kernel) (by decide +kernel) e1) ?_
  refine ev_go0 (ev_p_virt (M := ev_Mlaw) (pc := 1328) (x := 190) (mi := 346) (na := 1) (by decide +kernel) (by decide +kernel) (by decide +kernel) (by decide +kernel) rfl rfl (ev_recv_of ev_fH621) (ev_k5020 x1 hl_x1)) ?_
  refine ev_go0 (ev_w_istore (M := ev_Mlaw) (pc := 1331) (k := 6) (lv' := [(6, .int (0)), (5, .int (1)), (4, .int (0)), (3, .ref 723), (2, .ref 621), (1, .ref 0), (0, .retAddr 0)]) (by decide +kernel) (by decide +kernel) rfl) ?_
  refine ev_go0 (ev_one_pure (M := ev_Mlaw) (pc := 1333) (i := .aload_n 2) (len := 1) (pc' := 1334) (lv' := [(6, .int (0)), (5, .int (1)), (4, .int (0)), (3, .ref 723), (2, .ref 621), (1, .ref 0), (0, .retAddr 0)]) (st' := [.ref 621]) (by decide +kernel) rfl) ?_
  refine ev_go0 (ev_p_virt (M := ev_Mlaw) (pc := 1334) (x := 131) (mi := 220) (na := 0) (by decide +kernel) (by decide +kernel) (by decide +kernel) (by decide +kernel) rfl rfl (ev_recv_of (ev_hself (ev_hself ev_fH621))) ev_k5014) ?_
  refine ev_go0 (ev_one_pure (M := ev_Mlaw) (pc := 1337) (i := .iload 5) (len := 2) (pc' := 1339) (lv' := [(6, .int (0)), (5, .int (1)), (4, .int (0)), (3, .ref 723), (2, .ref 621), (1, .ref 0), (0, .retAddr 0)]) (st' := [.int (1), .int (1)]) (by decide +kernel) rfl) ?_
  refine ev_go0 (ev_w_icmp (M := ev_Mlaw) (pc := 1339) (q := .eq) (o := 5) (b := true) (t := 1344) (by decide +kernel) (by decide +kernel) rfl) ?_
  refine ev_go0 (ev_one_pure (M := ev_Mlaw) (pc := 1344) (i := .iload 5) (len := 2) (pc' := 1346) (lv' := [(6, .int (0)), (5, .int (1)), (4, .int (0)), (3, .ref 723), (2, .ref 621), (1, .ref 0), (0, .retAddr 0)]) (st' := [.int (1)]) (by decide +kernel) rfl) ?_
  refine ev_go0 (ev_w_if (M := ev_Mlaw) (pc := 1346) (q := .ne) (o := 15) (b := true) (t := 1361) (by decide +kernel) (by decide +kernel) rfl) ?_
  refine ev_go0 (ev_one_pure (M := ev_Mlaw) (pc := 1361) (i := .goto 911) (len := 3) (pc' := 2272) (lv' := [(6, .int (0)), (5, .int (1)), (4, .int (0)), (3, .ref 723), (2, .ref 621), (1, .ref 0), (0, .retAddr 0)]) (st' := []) (by decide +kernel) rfl) ?_
  rfl
theorem ev_p1arm17 (xs : Nat → Int32) : ev_P1 xs 1308 := by
  rcases ev_split5 (xs 1) with h1 | h1 | h1 | h1 | h1
  · exact ev_p1_17_n xs (xs 1) h1 rfl
  · exact ev_p1_17_0 xs h1
  · exact ev_p1_17_1 xs h1
  · exact ev_p1_17_2 xs h1
  · exact ev_p1_17_g xs (xs 1) h1 rfl
