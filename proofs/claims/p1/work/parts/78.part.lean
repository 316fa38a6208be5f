theorem ev_k5047 (x1 : Int32) (hu_x1 : x1.toInt ≤ (96 : Int)) {n : Nat} : ev_calld 10 209 [.int x1] ev_H0 n = some (.inl (some (.int (0))), ev_H0, n, 0, 0) := by
  refine ev_call_int (k := 4) (pcR := 17) (lv' := [(0, .int x1)]) (v := (0)) (ty := .boolean) (by decide +kernel) rfl ?_ (by decide +kernel) (by decide +kernel) (by decide +kernel) (by decide)
  show ev_stepn _ 4 (0, [(0, .int x1)], [], _, _, 0, 0) = _
  refine ev_go0 (ev_one_pure (M := (ev_Mof 209)) (pc := 0) (i := .iload_n 0) (len := 1) (pc' := 1) (lv' := [(0, .int x1)]) (st' := [.int x1]) (by decide +kernel) rfl) ?_
  refine ev_go0 (ev_w_bipush (M := (ev_Mof 209)) (pc := 1) (k := 97) (v := 97) (by decide +kernel) (by decide +kernel)) ?_
  refine ev_go0 (ev_w_icmp (M := (ev_Mof 209)) (pc := 3) (q := .lt) (o := 13) (b := true) (t := 16) (by decide +kernel) (ev_c_lt1 hu_x1 (by decide +kernel)) rfl) ?_
  refine ev_go0 (ev_w_iconst (M := (ev_Mof 209)) (pc := 16) (k := 0) (v := 0) (by decide +kernel) (by decide +kernel)) ?_
  rfl
theorem ev_k5048 (x1 : Int32) (hu_x1 : x1.toInt ≤ (96 : Int)) {n : Nat} : ev_calld 11 168 [.ref 0, .int x1] ev_H0 n = some (.inr "java/lang/IllegalArgumentException", ev_H0, n, 1, 6) := by
  refine ev_call_thrown (k := 3) (pcR := 7) (x := 98) (lv' := [(0, .ref 0), (1, .int x1)]) (by decide +kernel) rfl ?_ (by decide +kernel) (by decide +kernel) (by decide +kernel) (by decide) (by decide)
  show ev_stepn _ 3 (0, [(0, .ref 0), (1, .int x1)], [], _, _, 0, 0) = _
  refine ev_go0 (ev_one_pure (M := (ev_Mof 168)) (pc := 0) (i := .iload_n 1) (len := 1) (pc' := 1) (lv' := [(0, .ref 0), (1, .int x1)]) (st' := [.int x1]) (by decide +kernel) rfl) ?_
  refine ev_go0 (ev_w_stat (M := (ev_Mof 168)) (pc := 1) (y := 117) (kind := 2) (Or.inl rfl) (mi := 209) (na := 1) (by decide +kernel) (by decide +kernel) (by decide +kernel) (by decide +kernel) rfl rfl (ev_k5047 x1 hu_x1)) ?_
  refine ev_go0 (ev_w_if (M := (ev_Mof 168)) (pc := 4) (q := .ne) (o := 13) (b := false) (t := 7) (by decide +kernel) (by decide +kernel) rfl) ?_
  rfl
theorem ev_k5049 (x1 : Int32) (hu_x1 : x1.toInt ≤ (96 : Int)) {n : Nat} : ev_calld 12 365 [.ref 0, .int x1, .ref 723] ev_H0 n = some (.inl (some (.int (1))), ev_H0, n, 1, 6) := by
  refine ev_call_int (k := 7) (pcR := 14) (lv' := [(3, .retAddr 1), (0, .ref 0), (1, .int x1), (2, .ref 723)]) (v := (1)) (ty := .int) (by decide +kernel) rfl ?_ (by decide +kernel) (by decide +kernel) (by decide +kernel) (by decide)
  show ev_stepn _ 7 (0, [(0, .ref 0), (1, .int x1), (2, .ref 723)], [], _, _, 0, 0) = _
  refine ev_go0 (ev_one_pure (M := (ev_Mof 365)) (pc := 0) (i := .aload_n 2) (len := 1) (pc' := 1) (lv' := [(0, .ref 0), (1, .int x1), (2, .ref 723)]) (st' := [.ref 723]) (by decide +kernel) rfl) ?_
  refine ev_go0 (ev_w_iconst (M := (ev_Mof 365)) (pc := 1) (k := 0) (v := 0) (by decide +kernel) (by decide +kernel)) ?_
  refine ev_go0 (ev_one_pure (M := (ev_Mof 365)) (pc := 2) (i := .aload_n 0) (len := 1) (pc' := 3) (lv' := [(0, .ref 0), (1, .int x1), (2, .ref 723)]) (st' := [.ref 0, .int (0), .ref 723]) (by decide +kernel) rfl) ?_
  refine ev_go0 (ev_one_pure (M := (ev_Mof 365)) (pc := 3) (i := .iload_n 1) (len := 1) (pc' := 4) (lv' := [(0, .ref 0), (1, .int x1), (2, .ref 723)]) (st' := [.int x1, .ref 0, .int (0), .ref 723]) (by decide +kernel) rfl) ?_
  refine ev_go (ev_p_virtX (M := (ev_Mof 365)) (pc := 4) (x := 17) (t := 12) (mi := 168) (na := 1) (by decide +kernel) (by decide +kernel) (by decide +kernel) (by decide +kernel) rfl rfl (ev_recv_of ev_fH0) (ev_k5048 x1 hu_x1) (by decide +kernel)) ?_
  refine ev_go0 (ev_w_astore_n (M := (ev_Mof 365)) (pc := 12) (k := 3) (lv' := [(3, .retAddr 1), (0, .ref 0), (1, .int x1), (2, .ref 723)]) (by decide +kernel) (by decide +kernel) (Or.inr (Or.inr ⟨_, rfl⟩)) rfl) ?_
  refine ev_go0 (ev_w_iconst (M := (ev_Mof 365)) (pc := 13) (k := 1) (v := 1) (by decide +kernel) (by decide +kernel)) ?_
  rfl
theorem ev_k5050 (x1 : Int32) (hu_x1 : x1.toInt ≤ (96 : Int)) {n : Nat} : ev_calld 10 222 [.int x1, .int (97), .int (122)] (ev_H0.set 621 (.inr (13, (ev_F621.set 0 (.int (0)))))) n = some (.inl (some (.int (0))), (ev_H0.set 621 (.inr (13, (ev_F621.set 0 (.int (0)))))), n, 0, 0) := by
  refine ev_call_int (k := 4) (pcR := 15) (lv' := [(0, .int x1), (1, .int (97)), (2, .int (122))]) (v := (0)) (ty := .boolean) (by decide +kernel) rfl ?_ (by decide +kernel) (by decide +kernel) (by decide +kernel) (by decide)
  show ev_stepn _ 4 (0, [(0, .int x1), (1, .int (97)), (2, .int (122))], [], _, _, 0, 0) = _
  refine ev_go0 (ev_one_pure (M := (ev_Mof 222)) (pc := 0) (i := .iload_n 0) (len := 1) (pc' := 1) (lv' := [(0, .int x1), (1, .int (97)), (2, .int (122))]) (st' := [.int x1]) (by decide +kernel) rfl) ?_
  refine ev_go0 (ev_one_pure (M := (ev_Mof 222)) (pc := 1) (i := .iload_n 1) (len := 1) (pc' := 2) (lv' := [(0, .int x1), (1, .int (97)), (2, .int (122))]) (st' := [.int (97), .int x1]) (by decide +kernel) rfl) ?_
  refine ev_go0 (ev_w_icmp (M := (ev_Mof 222)) (pc := 2) (q := .lt) (o := 12) (b := true) (t := 14) (by decide +kernel) (ev_c_lt1 hu_x1 (by decide +kernel)) rfl) ?_
  refine ev_go0 (ev_w_iconst (M := (ev_Mof 222)) (pc := 14) (k := 0) (v := 0) (by decide +kernel) (by decide +kernel)) ?_
  rfl
theorem ev_k5051 (x1 : Int32) (hu_x1 : x1.toInt ≤ (96 : Int)) {n : Nat} : ev_calld 11 224 [.int x1] (ev_H0.set 621 (.inr (13, (ev_F621.set 0 (.int (0)))))) n = some (.inl (some (.int (0))), (ev_H0.set 621 (.inr (13, (ev_F621.set 0 (.int (0)))))), n, 0, 0) := by
  refine ev_call_int (k := 4) (pcR := 8) (lv' := [(0, .int x1)]) (v := (0)) (ty := .boolean) (by decide +kernel) rfl ?_ (by decide +kernel) (by decide +kernel) (by decide +kernel) (by decide)
  show ev_stepn _ 4 (0, [(0, .int x1)], [], _, _, 0, 0) = _
  refine ev_go0 (ev_one_pure (M := (ev_Mof 224)) (pc := 0) (i := .iload_n 0) (len := 1) (pc' := 1) (lv' := [(0, .int x1)]) (st' := [.int x1]) (by decide +kernel) rfl) ?_
  refine ev_go0 (ev_w_bipush (M := (ev_Mof 224)) (pc := 1) (k := 97) (v := 97) (by decide +kernel) (by decide +kernel)) ?_
  refine ev_go0 (ev_w_bipush (M := (ev_Mof 224)) (pc := 3) (k := 122) (v := 122) (by decide +kernel) (by decide +kernel)) ?_
  refine ev_go0 (ev_w_stat (M := (ev_Mof 224)) (pc := 5) (y := 325) (kind := 2) (Or.inl rfl) (mi := 222) (na := 3) (by decide +kernel) (by decide +kernel) (by decide +kernel) (by decide +kernel) rfl rfl (ev_k5050 x1 hu_x1)) ?_
  rfl
theorem ev_k5052 (x1 : Int32) (hu_x1 : x1.toInt ≤ (96 : Int)) {n : Nat} : ev_calld 12 271 [.ref 621, .int x1] ev_H0 n = some (.inl (some (.int (0))), ((ev_H0.set 621 (.inr (13, (ev_F621.set 0 (.int (0)))))).set 621 (.inr (13, ((ev_F621.set 0 (.int (0))).set 0 (.int (1)))))), n, 0, 0) := by
  refine ev_call_int (k := 9) (pcR := 17) (lv' := [(0, .ref 621), (1, .int x1)]) (v := (0)) (ty := .int) (by decide +kernel) rfl ?_ (by decide +kernel) (by decide +kernel) (by decide +kernel) (by decide)
  show ev_stepn _ 9 (0, [(0, .ref 621), (1, .int x1)], [], _, _, 0, 0) = _
  refine ev_go0 (ev_one_pure (M := (ev_Mof 271)) (pc := 0) (i := .aload_n 0) (len := 1) (pc' := 1) (lv' := [(0, .ref 621), (1, .int x1)]) (st' := [.ref 621]) (by decide +kernel) rfl) ?_
  refine ev_go0 (ev_w_iconst (M := (ev_Mof 271)) (pc := 1) (k := 0) (v := 0) (by decide +kernel) (by decide +kernel)) ?_
  refine ev_go0 (ev_p_putf (M := (ev_Mof 271)) (pc := 2) (x := 321) (ci := 13) (f := 0) (by decide +kernel) (by decide +kernel) ev_fH621 rfl (by decide +kernel)) ?_
  refine ev_go0 (ev_one_pure (M := (ev_Mof 271)) (pc := 5) (i := .iload_n 1) (len := 1) (pc' := 6) (lv' := [(0, .ref 621), (1, .int x1)]) (st' := [.int x1]) (by decide +kernel) rfl) ?_
  refine ev_go0 (ev_w_stat (M := (ev_Mof 271)) (pc := 6) (y := 329) (kind := 2) (Or.inl rfl) (mi := 224) (na := 1) (by decide +kernel) (by decide +kernel) (by decide +kernel) (by decide +kernel) rfl rfl (ev_k5051 x1 hu_x1)) ?_
  refine ev_go0 (ev_w_if (M := (ev_Mof 271)) (pc := 9) (q := .ne) (o := 9) (b := false) (t := 12) (by decide +kernel) (by decide +kernel) rfl) ?_
  refine ev_go0 (ev_one_pure (M := (ev_Mof 271)) (pc := 12) (i := .aload_n 0) (len := 1) (pc' := 13) (lv' := [(0, .ref 621), (1, .int x1)]) (st' := [.ref 621]) (by decide +kernel) rfl) ?_
  refine ev_go0 (ev_w_iconst (M := (ev_Mof 271)) (pc := 13) (k := 1) (v := 1) (by decide +kernel) (by decide +kernel)) ?_
  refine ev_go0 (ev_p_virt (M := (ev_Mof 271)) (pc := 14) (x := 342) (mi := 221) (na := 1) (by decide +kernel) (by decide +kernel) (by decide +kernel) (by decide +kernel) rfl rfl (ev_recv_of (ev_hself ev_fH621)) ev_k5012) ?_
  rfl
theorem ev_p1_2_n (xs : Nat → Int32) (x1 : Int32) (hu_x1 : x1.toInt ≤ (96 : Int)) (e1 : xs 1 = x1) : ev_P1 xs 257 := by
  refine ⟨24, [(6, .int (0)), (5, .int (1)), (4, .int (0)), (3, .ref 723), (2, .ref 621), (1, .ref 0), (0, .retAddr 0)], ((ev_H0.set 621 (.inr (13, (ev_F621.set 0 (.int (0)))))).set 621 (.inr (13, ((ev_F621.set 0 (.int (0))).set 0 (.int (1)))))), 724, 725, 3553592, ?_, ⟨rfl, rfl, rfl, rfl⟩, rfl, by decide, by decide⟩
  show ev_stepn _ _ (257, [(4, .int (0)), (3, .ref 723), (2, .ref 621), (1, .ref 0), (0, .retAddr 0)], [], _, _, _, _) = _
  refine ev_go0 (ev_one_pure (M := ev_Mlaw) (pc := 257) (i := .aload_n 1) (len := 1) (pc' := 258) (lv' := [(4, .int (0)), (3, .ref 723), (2, .ref 621), (1, .ref 0), (0, .retAddr 0)]) (st' := [.ref 0]) (by decide +kernel) rfl) ?_
  refine ev_go0 (ev_one_pure (M := ev_Mlaw) (pc := 258) (i := .aload_n 0) (len := 1) (pc' := 259) (lv' := [(4, .int (0)), (3, .ref 723), (2, .ref 621), (1, .ref 0), (0, .retAddr 0)]) (st' := [.retAddr 0, .ref 0]) (by decide +kernel) rfl) ?_
  refine ev_go0 (ev_one_pure (M := ev_Mlaw) (pc := 259) (i := .iload 4) (len := 2) (pc' := 261) (lv' := [(4, .int (0)), (3, .ref 723), (2, .ref 621), (1, .ref 0), (0, .retAddr 0)]) (st' := [.int (0), .retAddr 0, .ref 0]) (by decide +kernel) rfl) ?_
  refine ev_go0 (ev_w_iconst (M := ev_Mlaw) (pc := 261) (k := 1) (v := 1) (by decide +kernel) (by decide +kernel)) ?_
  refine ev_go0 (ev_w_iadd (M := ev_Mlaw) (pc := 262) (v := (1)) (by decide +kernel) (by decide +kernel)) ?_
  refine ev_go0 (ev_w_scr (M := ev_Mlaw) (pc := 263) (v := x1) (j := 1) (by decide +kernel) (by decide +kernel) (by decide +kernel) e1) ?_
  refine ev_go0 (ev_one_pure (M := ev_Mlaw) (pc := 264) (i := .aload_n 3) (len := 1) (pc' := 265) (lv' := [(4, .int (0)), (3, .ref 723), (2, .ref 621), (1, .ref 0), (0, .retAddr 0)]) (st' := [.ref 723, .int x1, .ref 0]) (by decide +kernel) rfl) ?_
  refine ev_go (ev_w_stat (M := ev_Mlaw) (pc := 265) (y := 138) (kind := 8) (Or.inr (Or.inr rfl)) (mi := 365) (na := 3) (by decide +kernel) (by decide +kernel) (by decide +kernel) (by decide +kernel) rfl rfl (ev_k5049 x1 hu_x1)) ?_
  refine ev_go0 (ev_w_istore (M := ev_Mlaw) (pc := 268) (k := 5) (lv' := [(5, .int (1)), (4, .int (0)), (3, .ref 723), (2, .ref 621), (1, .ref 0), (0, .retAddr 0)]) (by decide +kernel) (by decide +kernel) rfl) ?_
  refine ev_go0 (ev_one_pure (M := ev_Mlaw) (pc := 270) (i := .aload_n 2) (len := 1) (pc' := 271) (lv' := [(5, .int (1)), (4, .int (0)), (3, .ref 723), (2, .ref 621), (1, .ref 0), (0, .retAddr 0)]) (st' := [.ref 621]) (by decide +kernel) rfl) ?_
  refine ev_go0 (ev_one_pure (M := ev_Mlaw) (pc := 271) (i := .aload_n 0) (len := 1) (pc' := 272) (lv' := [(5, .int (1)), (4, .int (0)), (3, .ref 723), (2, .ref 621), (1, .ref 0), (0, .retAddr 0)]) (st' := [.retAddr 0, .ref 621]) (by decide +kernel) rfl) ?_
  refine ev_go0 (ev_one_pure (M := ev_Mlaw) (pc := 272) (i := .iload 4) (len := 2) (pc' := 274) (lv' := [(5, .int (1)), (4, .int (0)), (3, .ref 723), (2, .ref 621), (1, .ref 0), (0, .retAddr 0)]) (st' := [.int (0), .retAddr 0, .ref 621]) (by decide +kernel) rfl) ?_
  refine ev_go0 (ev_w_iconst (M := ev_Mlaw) (pc := 274) (k := 1) (v := 1) (by decide +kernel) (by decide +kernel)) ?_
  refine ev_go0 (ev_w_iadd (M := ev_Mlaw) (pc := 275) (v := (1)) (by decide +kernel) (by decide +kernel)) ?_
  refine ev_go0 (ev_w_scr (M := ev_Mlaw) (pc := 276) (v := x1) (j := 1) (by decide +kernel) (by decide +kernel) (by decide +kernel) e1) ?_
  refine ev_go0 (ev_p_virt (M := ev_Mlaw) (pc := 277) (x := 140) (mi := 271) (na := 1) (by decide +kernel) (by decide +kernel) (by decide +kernel) (by decide +kernel) rfl rfl (ev_recv_of ev_fH621) (ev_k5052 x1 hu_x1)) ?_
  refine ev_go0 (ev_w_istore (M := ev_Mlaw) (pc := 280) (k := 6) (lv' := [(6, .int (0)), (5, .int (1)), (4, .int (0)), (3, .ref 723), (2, .ref 621), (1, .ref 0), (0, .retAddr 0)]) (by decide +kernel) (by decide +kernel) rfl) ?_
  refine ev_go0 (ev_one_pure (M := ev_Mlaw) (pc := 282) (i := .aload_n 2) (len := 1) (pc' := 283) (lv' := [(6, .int (0)), (5, .int (1)), (4, .int (0)), (3, .ref 723), (2, .ref 621), (1, .ref 0), (0, .retAddr 0)]) (st' := [.ref 621]) (by decide +kernel) rfl) ?_
  refine ev_go0 (ev_p_virt (M := ev_Mlaw) (pc := 283) (x := 131) (mi := 220) (na := 0) (by decide +kernel) (by decide +kernel) (by decide +kernel) (by decide +kernel) rfl rfl (ev_recv_of (ev_hself (ev_hself ev_fH621))) ev_k5014) ?_
  refine ev_go0 (ev_one_pure (M := ev_Mlaw) (pc := 286) (i := .iload 5) (len := 2) (pc' := 288) (lv' := [(6, .int (0)), (5, .int (1)), (4, .int (0)), (3, .ref 723), (2, .ref 621), (1, .ref 0), (0, .retAddr 0)]) (st' := [.int (1), .int (1)]) (by decide +kernel) rfl) ?_
  refine ev_go0 (ev_w_icmp (M := ev_Mlaw) (pc := 288) (q := .eq) (o := 5) (b := true) (t := 293) (by decide +kernel) (by decide +kernel) rfl) ?_
  refine ev_go0 (ev_one_pure (M := ev_Mlaw) (pc := 293) (i := .iload 5) (len := 2) (pc' := 295) (lv' := [(6, .int (0)), (5, .int (1)), (4, .int (0)), (3, .ref 723), (2, .ref 621), (1, .ref 0), (0, .retAddr 0)]) (st' := [.int (1)]) (by decide +kernel) rfl) ?_
  refine ev_go0 (ev_w_if (M := ev_Mlaw) (pc := 295) (q := .ne) (o := 15) (b := true) (t := 310) (by decide +kernel) (by decide +kernel) rfl) ?_
  refine ev_go0 (ev_one_pure (M := ev_Mlaw) (pc := 310) (i := .goto 1962) (len := 3) (pc' := 2272) (lv' := [(6, .int (0)), (5, .int (1)), (4, .int (0)), (3, .ref 723), (2, .ref 621), (1, .ref 0), (0, .retAddr 0)]) (st' := []) (by decide +kernel) rfl) ?_
  rfl
theorem ev_k5053 (x1 : Int32) (hl_x1 : (123 : Int) ≤ x1.toInt) {n : Nat} : ev_calld 10 209 [.int x1] ev_H0 n = some (.inl (some (.int (0))), ev_H0, n, 0, 0) := by
  refine ev_call_int (k := 7) (pcR := 17) (lv' := [(0, .int x1)]) (v := (0)) (ty := .boolean) (by decide +kernel) rfl ?_ (by decide +kernel) (by decide +kernel) (by decide +kernel) (by decide)
  show ev_stepn _ 7 (0, [(0, .int x1)], [], _, _, 0, 0) = _
  refine ev_go0 (ev_one_pure (M := (ev_Mof 209)) (pc := 0) (i := .iload_n 0) (len := 1) (pc' := 1) (lv' := [(0, .int x1)]) (st' := [.int x1]) (by decide +kernel) rfl) ?_
  refine ev_go0 (ev_w_bipush (M := (ev_Mof 209)) (pc := 1) (k := 97) (v := 97) (by decide +kernel) (by decide +kernel)) ?_
  refine ev_go0 (ev_w_icmp (M := (ev_Mof 209)) (pc := 3) (q := .lt) (o := 13) (b := false) (t := 6) (by decide +kernel) (ev_c_lt0 hl_x1 (by decide +kernel)) rfl) ?_
  refine ev_go0 (ev_one_pure (M := (ev_Mof 209)) (pc := 6) (i := .iload_n 0) (len := 1) (pc' := 7) (lv' := [(0, .int x1)]) (st' := [.int x1]) (by decide +kernel) rfl) ?_
  refine ev_go0 (ev_w_bipush (M := (ev_Mof 209)) (pc := 7) (k := 122) (v := 122) (by decide +kernel) (by decide +kernel)) ?_
  refine ev_go0 (ev_w_icmp (M := (ev_Mof 209)) (pc := 9) (q := .gt) (o := 7) (b := true) (t := 16) (by decide +kernel) (ev_c_gt1 hl_x1 (by decide +kernel)) rfl) ?_
  refine ev_go0 (ev_w_iconst (M := (ev_Mof 209)) (pc := 16) (k := 0) (v := 0) (by decide +kernel) (by decide +kernel)) ?_
  rfl
theorem ev_k5054 (x1 : Int32) (hl_x1 : (123 : Int) ≤ x1.toInt) {n : Nat} : ev_calld 11 168 [.ref 0, .int x1] ev_H0 n = some (.inr "java/lang/IllegalArgumentException", ev_H0, n, 1, 6) := by
  refine ev_call_thrown (k := 3) (pcR := 7) (x := 98) (lv' := [(0, .ref 0), (1, .int x1)]) (by decide +kernel) rfl ?_ (by decide +kernel) (by decide +kernel) (by decide +kernel) (by decide) (by decide)
  show ev_stepn _ 3 (0, [(0, .ref 0), (1, .int x1)], [], _, _, 0, 0) = _
  refine ev_go0 (ev_one_pure (M := (ev_Mof 168)) (pc := 0) (i := .iload_n 1) (len := 1) (pc' := 1) (lv' := [(0, .ref 0), (1, .int x1)]) (st' := [.int x1]) (by decide +kernel) rfl) ?_
  refine ev_go0 (ev_w_stat (M := (ev_Mof 168)) (pc := 1) (y := 117) (kind := 2) (Or.inl rfl) (mi := 209) (na := 1) (by decide +kernel) (by decide +kernel) (by decide +kernel) (by decide +kernel) rfl rfl (ev_k5053 x1 hl_x1)) ?_
  refine ev_go0 (ev_w_if (M := (ev_Mof 168)) (pc := 4) (q := .ne) (o := 13) (b := false) (t := 7) (by decide +kernel) (by decide +kernel) rfl) ?_
  rfl
theorem ev_k5055 (x1 : Int32) (hl_x1 : (123 : Int) ≤ x1.toInt) {n : Nat} : ev_calld 12 365 [.ref 0, .int x1, .ref 723] ev_H0 n = some (.inl (some (.int (1))), ev_H0, n, 1, 6) := by
  refine ev_call_int (k := 7) (pcR := 14) (lv' := [(3, .retAddr 1), (0, .ref 0), (1, .int x1), (2, .ref 723)]) (v := (1)) (ty := .int) (by decide +kernel) rfl ?_ (by decide +kernel) (by decide +kernel) (by decide +kernel) (by decide)
  show ev_stepn _ 7 (0, [(0, .ref 0), (1, .int x1), (2, .ref 723)], [], _, _, 0, 0) = _
  refine ev_go0 (ev_one_pure (M := (ev_Mof 365)) (pc := 0) (i := .aload_n 2) (len := 1) (pc' := 1) (lv' := [(0, .ref 0), (1, .int x1), (2, .ref 723)]) (st' := [.ref 723]) (by decide +kernel) rfl) ?_
  refine ev_go0 (ev_w_iconst (M := (ev_Mof 365)) (pc := 1) (k := 0) (v := 0) (by decide +kernel) (by decide +kernel)) ?_
  refine ev_go0 (ev_one_pure (M := (ev_Mof 365)) (pc := 2) (i := .aload_n 0) (len := 1) (pc' := 3) (lv' := [(0, .ref 0), (1, .int x1), (2, .ref 723)]) (st' := [.ref 0, .int (0), .ref 723]) (by decide +kernel) rfl) ?_
  refine ev_go0 (ev_one_pure (M := (ev_Mof 365)) (pc := 3) (i := .iload_n 1) (len := 1) (pc' := 4) (lv' := [(0, .ref 0), (1, .int x1), (2, .ref 723)]) (st' := [.int x1, .ref 0, .int (0), .ref 723]) (by decide +kernel) rfl) ?_
  refine ev_go (ev_p_virtX (M := (ev_Mof 365)) (pc := 4) (x := 17) (t := 12) (mi := 168) (na := 1) (by decide +kernel) (by decide +kernel) (by decide +kernel) (by decide +kernel) rfl rfl (ev_recv_of ev_fH0) (ev_k5054 x1 hl_x1) (by decide +kernel)) ?_
  refine ev_go0 (ev_w_astore_n (M := (ev_Mof 365)) (pc := 12) (k := 3) (lv' := [(3, .retAddr 1), (0, .ref 0), (1, .int x1), (2, .ref 723)]) (by decide +kernel) (by decide +kernel) (Or.inr (Or.inr ⟨_, rfl⟩)) rfl) ?_
  refine ev_go0 (ev_w_iconst (M := (ev_Mof 365)) (pc := 13) (k := 1) (v := 1) (by decide +kernel) (by decide +kernel)) ?_
  rfl
theorem ev_k5056 (x1 : Int32) (hl_x1 : (123 : Int) ≤ x1.toInt) {n : Nat} : ev_calld 10 222 [.int x1, .int (97), .int (122)] (ev_H0.set 621 (.inr (13, (ev_F621.set 0 (.int (0)))))) n = some (.inl (some (.int (0))), (ev_H0.set 621 (.inr (13, (ev_F621.set 0 (.int (0)))))), n, 0, 0) := by
  refine ev_call_int (k := 7) (pcR := 15) (lv' := [(0, .int x1), (1, .int (97)), (2, .int (122))]) (v := (0)) (ty := .boolean) (by decide +kernel) rfl ?_ (by decide +kernel) (by decide +kernel) (by decide +kernel) (by decide)
  show ev_stepn _ 7 (0, [(0, .int x1), (1, .int (97)), (2, .int (122))], [], _, _, 0, 0) = _
  refine ev_go0 (ev_one_pure (M := (ev_Mof 222)) (pc := 0) (i := .iload_n 0) (len := 1) (pc' := 1) (lv' := [(0, .int x1), (1, .int (97)), (2, .int (122))]) (st' := [.int x1]) (by decide +kernel) rfl) ?_
  refine ev_go0 (ev_one_pure (M := (ev_Mof 222)) (pc := 1) (i := .iload_n 1) (len := 1) (pc' := 2) (lv' := [(0, .int x1), (1, .int (97)), (2, .int (122))]) (st' := [.int (97), .int x1]) (by decide +kernel) rfl) ?_
  refine ev_go0 (ev_w_icmp (M := (ev_Mof 222)) (pc := 2) (q := .lt) (o := 12) (b := false) (t := 5) (by decide +kernel) (ev_c_lt0 hl_x1 (by decide +kernel)) rfl) ?_
  refine ev_go0 (ev_one_pure (M := (ev_Mof 222)) (pc := 5) (i := .iload_n 0) (len := 1) (pc' := 6) (lv' := [(0, .int x1), (1, .int (97)), (2, .int (122))]) (st' := [.int x1]) (by decide +kernel) rfl) ?_
  refine ev_go0 (ev_one_pure (M := (ev_Mof 222)) (pc := 6) (i := .iload_n 2) (len := 1) (pc' := 7) (lv' := [(0, .int x1), (1, .int (97)), (2, .int (122))]) (st' := [.int (122), .int x1]) (by decide +kernel) rfl) ?_
  refine ev_go0 (ev_w_icmp (M := (ev_Mof 222)) (pc := 7) (q := .gt) (o := 7) (b := true) (t := 14) (by decide +kernel) (ev_c_gt1 hl_x1 (by decide +kernel)) rfl) ?_
  refine ev_go0 (ev_w_iconst (M := (ev_Mof 222)) (pc := 14) (k := 0) (v := 0) (by decide +kernel) (by decide +kernel)) ?_
  rfl
theorem ev_k5057 (x1 : Int32) (hl_x1 : (123 : Int) ≤ x1.toInt) {n : Nat} : ev_calld 11 224 [.int x1] (ev_H0.set 621 (.inr (13, (ev_F621.set 0 (.int (0)))))) n = some (.inl (some (.int (0))), (ev_H0.set 621 (.inr (13, (ev_F621.set 0 (.int (0)))))), n, 0, 0) := by
  refine ev_call_int (k := 4) (pcR := 8) (lv' := [(0, .int x1)]) (v := (0)) (ty := .boolean) (by decide +kernel) rfl ?_ (by decide +kernel) (by decide +kernel) (by decide +kernel) (by decide)
  show ev_stepn _ 4 (0, [(0, .int x1)], [], _, _, 0, 0) = _
  refine ev_go0 (ev_one_pure (M := (ev_Mof 224)) (pc := 0) (i := .iload_n 0) (len := 1) (pc' := 1) (lv' := [(0, .int x1)]) (st' := [.int x1]) (by decide +kernel) rfl) ?_
  refine ev_go0 (ev_w_bipush (M := (ev_Mof 224)) (pc := 1) (k := 97) (v := 97) (by decide +kernel) (by decide +kernel)) ?_
  refine ev_go0 (ev_w_bipush (M := (ev_Mof 224)) (pc := 3) (k := 122) (v := 122) (by decide +kernel) (by decide +kernel)) ?_
  refine ev_go0 (ev_w_stat (M := (ev_Mof 224)) (pc := 5) (y := 325) (kind := 2) (Or.inl rfl) (mi := 222) (na := 3) (by decide +kernel) (by decide +kernel) (by decide +kernel) (by decide +kernel) rfl rfl (ev_k5056 x1 hl_x1)) ?_
  rfl
theorem ev_k5058 (x1 : Int32) (hl_x1 : (123 : Int) ≤ x1.toInt) {n : Nat} : ev_calld 12 271 [.ref 621, .int x1] ev_H0 n = some (.inl (some (.int (0))), ((ev_H0.set 621 (.inr (13, (ev_F621.set 0 (.int (0)))))).set 621 (.inr (13, ((ev_F621.set 0 (.int (0))).set 0 (.int (1)))))), n, 0, 0) := by
  refine ev_call_int (k := 9) (pcR := 17) (lv' := [(0, .ref 621), (1, .int x1)]) (v := (0)) (ty := .int) (by decide +kernel) rfl ?_ (by decide +kernel) (by decide +kernel) (by decide +kernel) (by decide)
  show ev_stepn _ 9 (0, [(0, .ref 621), (1, .int x1)], [], _, _, 0, 0) = _
  refine ev_go0 (ev_one_pure (M := (ev_Mof 271)) (pc := 0) (i := .aload_n 0) (len := 1) (pc' := 1) (lv' := [(0, .ref 621), (1, .int x1)]) (st' := [.ref 621]) (by decide +kernel) rfl) ?_
  refine ev_go0 (ev_w_iconst (M := (ev_Mof 271)) (pc := 1) (k := 0) (v := 0) (by decide +kernel) (by decide +kernel)) ?_
  refine ev_go0 (ev_p_putf (M := (ev_Mof 271)) (pc := 2) (x := 321) (ci := 13) (f := 0) (by decide +kernel) (by decide +kernel) ev_fH621 rfl (by decide +kernel)) ?_
  refine ev_go0 (ev_one_pure (M := (ev_Mof 271)) (pc := 5) (i := .iload_n 1) (len := 1) (pc' := 6) (lv' := [(0, .ref 621), (1, .int x1)]) (st' := [.int x1]) (by decide +kernel) rfl) ?_
  refine ev_go0 (ev_w_stat (M := (ev_Mof 271)) (pc := 6) (y := 329) (kind := 2) (Or.inl rfl) (mi := 224) (na := 1) (by decide +kernel) (by decide +kernel) (by decide +kernel) (by decide +kernel) rfl rfl (ev_k5057 x1 hl_x1)) ?_
  refine ev_go0 (ev_w_if (M := (ev_Mof 271)) (pc := 9) (q := .ne) (o := 9) (b := false) (t := 12) (by decide +kernel) (by decide +kernel) rfl) ?_
  refine ev_go0 (ev_one_pure (M := (ev_Mof 271)) (pc := 12) (i := .aload_n 0) (len := 1) (pc' := 13) (lv' := [(0, .ref 621), (1, .int x1)]) (st' := [.ref 621]) (by decide +kernel) rfl) ?_
  refine ev_go0 (ev_w_iconst (M := (ev_Mof 271)) (pc := 13) (k := 1) (v := 1) (by decide +kernel) (by decide +kernel)) ?_
  refine ev_go0 (ev_p_virt (M := (ev_Mof 271)) (pc := 14) (x := 342) (mi := 221) (na := 1) (by decide +kernel) (by decide +kernel) (by decide +kernel) (by decide +kernel) rfl rfl (ev_recv_of (ev_hself ev_fH621)) ev_k5012) ?_
  rfl
theorem ev_p1_2_g (xs : Nat → Int32) (x1 : Int32) (hl_x1 : (123 : Int) ≤ x1.toInt) (e1 : xs 1 = x1) : ev_P1 xs 257 := by
  refine ⟨24, [(6, .int (0)), (5, .int (1)), (4, .int (0)), (3, .ref 723), (2, .ref 621), (1, .ref 0), (0, .retAddr 0)], ((ev_H0.set 621 (.inr (13, (ev_F621.set 0 (.int (0)))))).set 621 (.inr (13, ((ev_F621.set 0 (.int (0))).set 0 (.int (1)))))), 724, 725, 3553592, ?_, ⟨rfl, rfl, rfl, rfl⟩, rfl, by decide, by decide⟩
  show ev_stepn _ _ (257, [(4, .int (0)), (3, .ref 723), (2, .ref 621), (1, .ref 0), (0, .retAddr 0)], [], _, _, _, _) = _
  refine ev_go0 (ev_one_pure (M := ev_Mlaw) (pc := 257) (i := .aload_n 1) (len := 1) (pc' := 258) (lv' := [(4, .int (0)), (3, .ref 723), (2, .ref 621), (1, .ref 0), (0, .retAddr 0)]) (st' := [.ref 0]) (by decide +kernel) rfl) ?_
  refine ev_go0 (ev_one_pure (M := ev_Mlaw) (pc := 258) (i := .aload_n 0) (len := 1) (pc' := 259) (lv' := [(4, .int (0)), (3, .ref 723), (2, .ref 621), (1, .ref 0), (0, .retAddr 0)]) (st' := [.retAddr 0, .ref 0]) (by decide +kernel) rfl) ?_
  refine ev_go0 (ev_one_pure (M := ev_Mlaw) (pc := 259) (i := .iload 4) (len := 2) (pc' := 261) (lv' := [(4, .int (0)), (3, .ref 723), (2, .ref 621), (1, .ref 0), (0, .retAddr 0)]) (st' := [.int (0), .retAddr 0, .ref 0]) (by decide +kernel) rfl) ?_
  refine ev_go0 (ev_w_iconst (M := ev_Mlaw) (pc := 261) (k := 1) (v := 1) (by decide +kernel) (by decide +kernel)) ?_
  refine ev_go0 (ev_w_iadd (M := ev_Mlaw) (pc := 262) (v := (1)) (by decide +kernel) (by decide +kernel)) ?_
  refine ev_go0 (ev_w_scr (M := ev_Mlaw) (pc := 263) (v := x1) (j := 1) (by decide +kernel) (by decide +kernel) (by decide +kernel) e1) ?_
  refine ev_go0 (ev_one_pure (M := ev_Mlaw) (pc := 264) (i := .aload_n 3) (len := 1) (pc' := 265) (lv' := [(4, .int (0)), (3, .ref 723), (2, .ref 621), (1, .ref 0), (0, .retAddr 0)]) (st' := [.ref 723, .int x1, .ref 0]) (by decide +kernel) rfl) ?_
  refine ev_go (ev_w_stat (M := ev_Mlaw) (pc := 265) (y := 138) (kind := 8) (Or.inr (Or.inr rfl)) (mi := 365) (na := 3) (by decide +kernel) (by decide +kernel) (by decide +kernel) (by decide +kernel) rfl rfl (ev_k5055 x1 hl_x1)) ?_
  refine ev_go0 (ev_w_istore (M := ev_Mlaw) (pc := 268) (k := 5) (lv' := [(5, .int (1)), (4, .int (0)), (3, .ref 723), (2, .ref 621), (1, .ref 0), (0, .retAddr 0)]) (by decide +kernel) (by decide +kernel) rfl) ?_
  refine ev_go0 (ev_one_pure (M := ev_Mlaw) (pc := 270) (i := .aload_n 2) (len := 1) (pc' := 271) (lv' := [(5, .int (1)), (4, .int (0)), (3, .ref 723), (2, .ref 621), (1, .ref 0), (0, .retAddr 0)]) (st' := [.ref 621]) (by decide +kernel) rfl) ?_
  refine ev_go0 (ev_one_pure (M := ev_Mlaw) (pc := 271) (i := .aload_n 0) (len := 1) (pc' := 272) (lv' := [(5, .int (1)), (4, .int (0)), (3, .ref 723), (2, .ref 621), (1, .ref 0), (0, .retAddr 0)]) (st' := [.retAddr 0, .ref 621]) (by decide +kernel) rfl) ?_
  refine ev_go0 (ev_one_pure (M := ev_Mlaw) (pc := 272) (i := .iload 4) (len := 2) (pc' := 274) (lv' := [(5, .int (1)), (4, .int (0)), (3, .ref 723), (2, .ref 621), (1, .ref 0), (0, .retAddr 0)]) (st' := [.int (0), .retAddr 0, .ref 621]) (by decide +kernel) rfl) ?_
  refine ev_go0 (ev_w_iconst (M := ev_Mlaw) (pc := 274) (k := 1) (v := 1) (by decide +kernel) (by decide +kernel)) ?_
  refine ev_go0 (ev_w_iadd (M := ev_Mlaw) (pc := 275) (v := (1)) (by decide +kernel) (by decide +kernel)) ?_
  refine ev_go0 (ev_w_scr (M := ev_Mlaw) (pc := 276) (v := x1) (j := 1) (by decide +kernel) (by decide +kernel) (by decide +kernel) e1) ?_
  refine ev_go0 (ev_p_virt (M := ev_Mlaw) (pc := 277) (x := 140) (mi := 271) (na := 1) (by decide +kernel) (by decide +kernel) (by decide +kernel) (by decide +kernel) rfl rfl (ev_recv_of ev_fH621) (ev_k5058 x1 hl_x1)) ?_
  refine ev_go0 (ev_w_istore (M := ev_Mlaw) (pc := 280) (k := 6) (lv' := [(6, .int (0)), (5, .int (1)), (4, .int (0)), (3, .ref 723), (2, .ref 621), (1, .ref 0), (0, .retAddr 0)]) (by decide +kernel) (by decide +kernel) rfl) ?_
  refine ev_go0 (ev_one_pure (M := ev_Mlaw) (pc := 282) (i := .aload_n 2) (len := 1) (pc' := 283) (lv' := [(6, .int (0)), (5, .int (1)), (4, .int (0)), (3, .ref 723), (2, .ref 621), (1, .ref 0), (0, .retAddr 0)]) (st' := [.ref 621]) (by decide +kernel) rfl) ?_
  refine ev_go0 (ev_p_virt (M := ev_Mlaw) (pc := 283) (x := 131) (mi := 220) (na := 0) (by decide +kernel) (by decide +kernel) (by decide +kernel) (by decide +kernel) rfl rfl (ev_recv_of (ev_hself (ev_hself ev_fH621))) ev_k5014) ?_
  refine ev_go0 (ev_one_pure (M := ev_Mlaw) (pc := 286) (i := .iload 5) (len := 2) (pc' := 288) (lv' := [(6, .int (0)), (5, .int (1)), (4, .int (0)), (3, .ref 723), (2, .ref 621), (1, .ref 0), (0, .retAddr 0)]) (st' := [.int (1), .int (1)]) (by decide +kernel) rfl) ?_
  refine ev_go0 (ev_w_icmp (M := ev_Mlaw) (pc := 288) (q := .eq) (o := 5) (b := true) (t := 293) (by decide +kernel) (by decide +kernel) rfl) ?_
  refine ev_go0 (ev_one_pure (M := ev_Mlaw) (pc := 293) (i := .iload 5) (len := 2) (pc' := 295) (lv' := [(6, .int (0)), (5, .int (1)), (4, .int (0)), (3, .ref 723), (2, .ref 621), (1, .ref 0), (0, .retAddr 0)]) (st' := [.int (1)]) (by decide +kernel) rfl) ?_
  refine ev_go0 (ev_w_if (M := ev_Mlaw) (pc := 295) (q := .ne) (o := 15) (b := true) (t := 310) (by decide +kernel) (by decide +kernel) rfl) ?_
  refine ev_go0 (ev_one_pure (M := ev_Mlaw) (pc := 310) (i := .goto 1962) (len := 3) (pc' := 2272) (lv' := [(6, .int (0)), (5, .int (1)), (4, .int (0)), (3, .ref 723), (2, .ref 621), (1, .ref 0), (0, .retAddr 0)]) (st' := []) (by decide +kernel) rfl) ?_
  rfl
theorem ev_enum {x : Int32} {a b : Int} (h1 : a ≤ x.toInt) (h2 : x.toInt ≤ b) : ∃ j : Nat, x.toInt = a + j ∧ a + j ≤ b := ⟨(x.toInt - a).toNat, by omega, by omega⟩
set_option maxRecDepth 8000 in
theorem ev_p1arm2 (xs : Nat → Int32) : ev_P1 xs 257 := by
  by_cases h1 : (xs 1).toInt ≤ 96
  · exact ev_p1_2_n xs (xs 1) h1 rfl
  · by_cases h2 : (123 : Int) ≤ (xs 1).toInt
    · exact ev_p1_2_g xs (xs 1) h2 rfl
    · obtain ⟨j, hj, hb⟩ := ev_enum (x := xs 1) (a := 97) (b := 122) (by omega) (by omega)
      match j, hj, hb with
      | 0, hj, _ => exact ev_p1_2_97 xs (ev_toInt_inj (hj.trans (by decide)))
      | 1, hj, _ => exact ev_p1_2_98 xs (ev_toInt_inj (hj.trans (by decide)))
      | 2, hj, _ => exact ev_p1_2_99 xs (ev_toInt_inj (hj.trans (by decide)))
      | 3, hj, _ => exact ev_p1_2_100 xs (ev_toInt_inj (hj.trans (by decide)))
      | 4, hj, _ => exact ev_p1_2_101 xs (ev_toInt_inj (hj.trans (by decide)))
      | 5, hj, _ => exact ev_p1_2_102 xs (ev_toInt_inj (hj.trans (by decide)))
      | 6, hj, _ => exact ev_p1_2_103 xs (ev_toInt_inj (hj.trans (by decide)))
      | 7, hj, _ => exact ev_p1_2_104 xs (ev_toInt_inj (hj.trans (by decide)))
      | 8, hj, _ => exact ev_p1_2_105 xs (ev_toInt_inj (hj.trans (by decide)))
      | 9, hj, _ => exact ev_p1_2_106 xs (ev_toInt_inj (hj.trans (by decide)))
      | 10, hj, _ => exact ev_p1_2_107 xs (ev_toInt_inj (hj.trans (by decide)))
      | 11, hj, _ => exact ev_p1_2_108 xs (ev_toInt_inj (hj.trans (by decide)))
      | 12, hj, _ => exact ev_p1_2_109 xs (ev_toInt_inj (hj.trans (by decide)))
      | 13, hj, _ => exact ev_p1_2_110 xs (ev_toInt_inj (hj.trans (by decide)))
      | 14, hj, _ => exact ev_p1_2_111 xs (ev_toInt_inj (hj.trans (by decide)))
      | 15, hj, _ => exact ev_p1_2_112 xs (ev_toInt_inj (hj.trans (by decide)))
      | 16, hj, _ => exact ev_p1_2_113 xs (ev_toInt_inj (hj.trans (by decide)))
      | 17, hj, _ => exact ev_p1_2_114 xs (ev_toInt_inj (hj.trans (by decide)))
      | 18, hj, _ => exact ev_p1_2_115 xs (ev_toInt_inj (hj.trans (by decide)))
      | 19, hj, _ => exact ev_p1_2_116 xs (ev_toInt_inj (hj.trans (by decide)))
      | 20, hj, _ => exact ev_p1_2_117 xs (ev_toInt_inj (hj.trans (by decide)))
      | 21, hj, _ => exact ev_p1_2_118 xs (ev_toInt_inj (hj.trans (by decide)))
      | 22, hj, _ => exact ev_p1_2_119 xs (ev_toInt_inj (hj.trans (by decide)))
      | 23, hj, _ => exact ev_p1_2_120 xs (ev_toInt_inj (hj.trans (by decide)))
      | 24, hj, _ => exact ev_p1_2_121 xs (ev_toInt_inj (hj.trans (by decide)))
      | 25, hj, _ => exact ev_p1_2_122 xs (ev_toInt_inj (hj.trans (by decide)))
      | j + 26, _, hb => exact absurd hb (by omega)
