/-! THE LAW ON ONE CALL: out of its arms -/
theorem ev_p1_tgt (xs : Nat → Int32) : ∀ k : Nat, ev_P1 xs (ev_tgt k)
  | 0 => ev_p1arm0 xs
  | 1 => ev_p1arm1 xs
  | 2 => ev_p1arm2 xs
  | 3 => ev_p1arm3 xs
  | 4 => ev_p1arm4 xs
  | 5 => ev_p1arm5 xs
  | 6 => ev_p1arm6 xs
  | 7 => ev_p1arm7 xs
  | 8 => ev_p1arm8 xs
  | 9 => ev_p1arm9 xs
  | 10 => ev_p1arm10 xs
  | 11 => ev_p1arm11 xs
  | 12 => ev_p1arm12 xs
  | 13 => ev_p1arm13 xs
  | 14 => ev_p1arm14 xs
  | 15 => ev_p1arm15 xs
  | 16 => ev_p1arm16 xs
  | 17 => ev_p1arm17 xs
  | 18 => ev_p1arm18 xs
  | 19 => ev_p1arm19 xs
  | 20 => ev_p1arm20 xs
  | 21 => ev_p1arm21 xs
  | 22 => ev_p1arm22 xs
  | 23 => ev_p1arm23 xs
  | 24 => ev_p1arm24 xs
  | 25 => ev_p1arm25 xs
  | 26 => ev_p1arm26 xs
  | 27 => ev_p1arm27 xs
  | 28 => ev_p1arm28 xs
  | 29 => ev_p1arm29 xs
  | 30 => ev_p1arm30 xs
  | 31 => ev_p1arm31 xs
  | 32 => ev_p1arm32 xs
  | k + 33 => by
    rw [ev_tgt_no (by omega)]
    exact ⟨0, ev_lv0, ev_H0, 724, 724, 3553586, rfl, ⟨rfl, rfl, rfl, rfl⟩, rfl, by decide, by decide⟩
theorem ev_p1_loop (xs : Nat → Int32) : ∃ (q : Nat) (lv' : List (Nat × Value)) (h' : List ev_E) (n' nc' ns' : Nat), ev_stepn (ev_stepM ev_Mlaw 12 (some (6, xs))) q (23, ev_lvL 0 (.ref 0) ev_rM ev_rO, [], ev_sL4.2.2.2.1, ev_sL4.2.2.2.2.1, ev_sL4.2.2.2.2.2.1, ev_sL4.2.2.2.2.2.2) = some (2278, lv', [], h', n', nc', ns') ∧ nc' ≤ 116300 ∧ ns' ≤ 8753336 := by
  obtain ⟨k, hk, e⟩ := pk_andE (xs (Int32.ofNat 0).toNatClampNeg) (m := 63) 6 (by decide +kernel)
  have ht := ev_tsw_k ev_lv0 k (by omega)
  have e2 : xs (Int32.ofNat 0).toNatClampNeg &&& (Int8.ofInt 63).toInt32 = Int32.ofNat k := e
  rw [← e2] at ht
  have s0 := ev_arm (L := 6) (xs := xs) (h := ev_H0) (n := 724) (nc := 724) (ns := 3553586) (lv := ev_lv0) (i := Int32.ofNat 0) ⟨rfl, rfl, rfl, rfl⟩ rfl (by decide) ht
  obtain ⟨K, lv', h', n', nc', ns', s1, g1, g2, g3, g4⟩ := ev_p1_tgt xs k
  have hd := ev_headK (L := 6) (xs := xs) (lv := ev_lv0) (h := ev_H0) (n := 724) (nc := 724) (ns := 3553586) (i := 0) ⟨rfl, rfl, rfl, rfl⟩ rfl
  rw [if_neg (by decide)] at hd
  have s2 := ev_stepn_1 (nc := nc') (ns := ns') (ev_p_iinc (M := ev_Mlaw) (d := 12) (X := some (6, xs)) (pc := 2272) (st := []) (h := h') (n := n') (k := 4) (c := 6) (by decide +kernel) (by decide +kernel) g2)
  have s3 := ev_stepn_1 (nc := nc') (ns := ns') (ev_p_goto (M := ev_Mlaw) (d := 12) (X := some (6, xs)) (pc := 2275) (lv := ev_st1 lv' 4 (.int (0 + Int32.ofInt 6))) (st := []) (h := h') (n := n') (o := -2252) (t := 23) (by decide +kernel) rfl)
  have hd2 := ev_headK (L := 6) (xs := xs) (lv := ev_st1 lv' 4 (.int (0 + Int32.ofInt 6))) (h := h') (n := n') (nc := nc') (ns := ns') (i := 0 + Int32.ofInt 6) (ev_lvK_st1 g1 (by omega)) ev_lk_st1_self
  rw [if_pos (by decide)] at hd2
  exact ⟨_, _, h', n', nc', ns', ev_stepn_add hd (ev_stepn_add s0 (ev_stepn_add s1 (ev_stepn_add s2 (ev_stepn_add s3 hd2)))), g3, g4⟩
theorem whole_start {p : Program} {e : Env} {s : State} {m : MethodId} {below : List Frame} {meth : Method} {c : Code} (l : Launch) (hflags : l.flags = flags0) {b L : Nat} {xs : Nat → Int32} (hL : L ≤ 6) (C0 : lw_At p s m meth c b L xs) : W p l e room_1 s m #[Value.ref b] below meth c s.heap [] 0 0 (lw_Z below #[Value.ref b] s) (entryFrame m ([Value.ref b] : List Value).toArray 7) := by
  by_cases h6 : L < 6
  · exact whole_short l hflags h6 C0
  · obtain rfl : L = 6 := by omega
    obtain ⟨q, lv', h', n', nc', ns', h1, h3, h4⟩ := ev_p1_loop xs
    have e1 := ev_stepn_run (ev_law3 (some (6, xs))) (q + 2)
    rw [ev_sL4_eq, ev_stepn_run h1 2, ev_tail (f := 0)] at e1
    exact ev_start l hflags C0 e1 (by decide +kernel) h3 h4
