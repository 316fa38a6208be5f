/-! METHODS as functions, laid by decomp.py -/
theorem ev_ab_659 : ev_isAb 659 1 .int = true := (by decide +kernel)
theorem ev_ab_707 : ev_isAb 707 1 .int = true := (by decide +kernel)
theorem ev_ab_678 : ev_isAb 678 1 .int = true := (by decide +kernel)
theorem ev_ab_708 : ev_isAb 708 1 .int = true := (by decide +kernel)
theorem ev_ab_681 : ev_isAb 681 1 .int = true := (by decide +kernel)
theorem ev_ab_682 : ev_isAb 682 1 .int = true := (by decide +kernel)
theorem ev_ab_683 : ev_isAb 683 1 .int = true := (by decide +kernel)
theorem ev_ab_684 : ev_isAb 684 1 .int = true := (by decide +kernel)
theorem ev_ab_685 : ev_isAb 685 1 .int = true := (by decide +kernel)
theorem ev_ab_686 : ev_isAb 686 1 .int = true := (by decide +kernel)
theorem ev_ab_687 : ev_isAb 687 1 .int = true := (by decide +kernel)
theorem ev_ab_688 : ev_isAb 688 1 .int = true := (by decide +kernel)
theorem ev_ab_689 : ev_isAb 689 1 .int = true := (by decide +kernel)
theorem ev_ab_690 : ev_isAb 690 1 .int = true := (by decide +kernel)
theorem ev_ab_691 : ev_isAb 691 1 .int = true := (by decide +kernel)
theorem ev_ab_692 : ev_isAb 692 1 .int = true := (by decide +kernel)
theorem ev_ab_693 : ev_isAb 693 1 .int = true := (by decide +kernel)
theorem ev_ab_694 : ev_isAb 694 1 .int = true := (by decide +kernel)
theorem ev_ab_695 : ev_isAb 695 1 .int = true := (by decide +kernel)
theorem ev_ab_696 : ev_isAb 696 1 .int = true := (by decide +kernel)
theorem ev_ab_699 : ev_isAb 699 1 .int = true := (by decide +kernel)
theorem ev_ab_697 : ev_isAb 697 1 .int = true := (by decide +kernel)
theorem ev_ab_698 : ev_isAb 698 1 .int = true := (by decide +kernel)
/-- MendBenchModel.isJust(II)Z -/
def jm_281 (Q : Nat) (a0 : Int) (a1 : Int) (S : ev_St) : Option ((Int) × ev_St) := ev_if ((0 : Int) ≤ a1 ∧ a1 < (ev_aln 658 : Int)) (ev_b (S.1 658 (Int.toNat a1)) fun x1 => if x1 = 0 then (some (0, S)) else (ev_if ((0 : Int) ≤ a0 ∧ a0 < (ev_aln 630 : Int)) (ev_b (S.1 630 (Int.toNat a0)) fun x3 => if x3 = (-1) then (some (1, S)) else (ev_if ((0 : Int) ≤ a0 ∧ a0 < (ev_aln 632 : Int)) (ev_b (S.1 632 (Int.toNat a0)) fun x5 => if x5 = 0 then (some (0, S)) else (ev_if ((0 : Int) ≤ a0 ∧ a0 < (ev_aln 631 : Int)) (ev_b (S.1 631 (Int.toNat a0)) fun x7 => if x7 < 2 then (some (1, S)) else (ev_if ((0 : Int) ≤ a0 ∧ a0 < (ev_aln 640 : Int)) (ev_b (S.1 640 (Int.toNat a0)) fun x9 => if x9 ≠ 0 then (some (0, S)) else (some (1, S)))))))))))
theorem jt_281 (d : Nat) (hd : 1 ≤ d) (Q : Nat) (a0 : Int) (a1 : Int) (ha0 : ev_rng a0) (ha1 : ev_rng a1) (S : ev_St) (x : Int) (S' : ev_St) (hJ : jm_281 Q a0 a1 S = some (x, S')) : ev_Ref d 281 [.ref 621, .int (Int32.ofInt a0), .int (Int32.ofInt a1)] S (ev_eI x) S' (ev_bl x) := by
  obtain ⟨d, rfl⟩ : ∃ e, d = e + 1 := ⟨d - 1, by omega⟩
  refine ev_ref_of (P := ev_bl) (lv := [(0, .ref 621), (1, .int (Int32.ofInt a0)), (2, .int (Int32.ofInt a1))]) (by decide +kernel) (by (try simp only [ev_sum, ev_nv_cat]); first | done | rfl) (by (try simp only [lv_args, ev_nv_cat]); first | done | rfl) ?_ x S' hJ
  unfold jm_281
  refine ev_r_aload_n (pc := 0) (k := 0) (v := .ref 621) trivial (by decide +kernel) (by rfl) ?_
  refine ev_r_getC (pc := 1) (y := 120) (ci := 13) (f := 50) (fin := 1) (k' := 658) (by decide +kernel) (by decide +kernel) (by exact ev_ob_621) rfl rfl ?_
  refine ev_r_iload_n (pc := 4) (k := 2) (v := Int32.ofInt a1) (by decide +kernel) (by rfl) ?_
  refine ev_r_bald (pc := 5) (ty := .boolean) (Or.inr rfl) ha1 (by decide +kernel) (by exact ev_ab_658) ?_
  intro x1 hx1
  refine ev_r_if (pc := 6) (q := .eq) (o := 45) (t := 51) (c := x1 = 0) (by decide +kernel) (ev_k_eq hx1 ev_rng0) (by decide +kernel) ?_ ?_
  · intro c2
    refine ev_r_iconst (pc := 51) (k := 0) (by decide +kernel) ?_
    exact ev_r_ireturn (pc := 52) (x := 0) (v := Int32.ofInt 0) (ty := .boolean) (by decide : ev_bl 0) (by decide +kernel) (by decide +kernel) (ev_ret_bl (by decide : ev_bl 0)) rfl
  · intro c2
    refine ev_r_aload_n (pc := 9) (k := 0) (v := .ref 621) trivial (by decide +kernel) (by rfl) ?_
    refine ev_r_getC (pc := 10) (y := 34) (ci := 13) (f := 11) (fin := 1) (k' := 630) (by decide +kernel) (by decide +kernel) (by exact ev_ob_621) rfl rfl ?_
    refine ev_r_iload_n (pc := 13) (k := 1) (v := Int32.ofInt a0) (by decide +kernel) (by rfl) ?_
    refine ev_r_iald (pc := 14) ha0 (by decide +kernel) (by exact ev_ab_630) ?_
    intro x3 hx3
    refine ev_r_iconst (pc := 15) (k := -1) (by decide +kernel) ?_
    refine ev_r_icmp (pc := 16) (q := .eq) (o := 31) (t := 47) (c := x3 = (-1)) (by decide +kernel) (ev_k_eq hx3 (by decide)) (by decide +kernel) ?_ ?_
    · intro c4
      refine ev_r_iconst (pc := 47) (k := 1) (by decide +kernel) ?_
      refine ev_r_goto (pc := 48) (o := 4) (t := 52) (by decide +kernel) (by decide +kernel) ?_
      exact ev_r_ireturn (pc := 52) (x := 1) (v := Int32.ofInt 1) (ty := .boolean) (by decide : ev_bl 1) (by decide +kernel) (by decide +kernel) (ev_ret_bl (by decide : ev_bl 1)) rfl
    · intro c4
      refine ev_r_aload_n (pc := 19) (k := 0) (v := .ref 621) trivial (by decide +kernel) (by rfl) ?_
      refine ev_r_getC (pc := 20) (y := 40) (ci := 13) (f := 13) (fin := 1) (k' := 632) (by decide +kernel) (by decide +kernel) (by exact ev_ob_621) rfl rfl ?_
      refine ev_r_iload_n (pc := 23) (k := 1) (v := Int32.ofInt a0) (by decide +kernel) (by rfl) ?_
      refine ev_r_iald (pc := 24) ha0 (by decide +kernel) (by exact ev_ab_632) ?_
      intro x5 hx5
      refine ev_r_if (pc := 25) (q := .eq) (o := 26) (t := 51) (c := x5 = 0) (by decide +kernel) (ev_k_eq hx5 ev_rng0) (by decide +kernel) ?_ ?_
      · intro c6
        refine ev_r_iconst (pc := 51) (k := 0) (by decide +kernel) ?_
        exact ev_r_ireturn (pc := 52) (x := 0) (v := Int32.ofInt 0) (ty := .boolean) (by decide : ev_bl 0) (by decide +kernel) (by decide +kernel) (ev_ret_bl (by decide : ev_bl 0)) rfl
      · intro c6
        refine ev_r_aload_n (pc := 28) (k := 0) (v := .ref 621) trivial (by decide +kernel) (by rfl) ?_
        refine ev_r_getC (pc := 29) (y := 37) (ci := 13) (f := 12) (fin := 1) (k' := 631) (by decide +kernel) (by decide +kernel) (by exact ev_ob_621) rfl rfl ?_
        refine ev_r_iload_n (pc := 32) (k := 1) (v := Int32.ofInt a0) (by decide +kernel) (by rfl) ?_
        refine ev_r_iald (pc := 33) ha0 (by decide +kernel) (by exact ev_ab_631) ?_
        intro x7 hx7
        refine ev_r_iconst (pc := 34) (k := 2) (by decide +kernel) ?_
        refine ev_r_icmp (pc := 35) (q := .lt) (o := 12) (t := 47) (c := x7 < 2) (by decide +kernel) (ev_k_lt hx7 (by decide)) (by decide +kernel) ?_ ?_
        · intro c8
          refine ev_r_iconst (pc := 47) (k := 1) (by decide +kernel) ?_
          refine ev_r_goto (pc := 48) (o := 4) (t := 52) (by decide +kernel) (by decide +kernel) ?_
          exact ev_r_ireturn (pc := 52) (x := 1) (v := Int32.ofInt 1) (ty := .boolean) (by decide : ev_bl 1) (by decide +kernel) (by decide +kernel) (ev_ret_bl (by decide : ev_bl 1)) rfl
        · intro c8
          refine ev_r_aload_n (pc := 38) (k := 0) (v := .ref 621) trivial (by decide +kernel) (by rfl) ?_
          refine ev_r_getC (pc := 39) (y := 65) (ci := 13) (f := 21) (fin := 1) (k' := 640) (by decide +kernel) (by decide +kernel) (by exact ev_ob_621) rfl rfl ?_
          refine ev_r_iload_n (pc := 42) (k := 1) (v := Int32.ofInt a0) (by decide +kernel) (by rfl) ?_
          refine ev_r_iald (pc := 43) ha0 (by decide +kernel) (by exact ev_ab_640) ?_
          intro x9 hx9
          refine ev_r_if (pc := 44) (q := .ne) (o := 7) (t := 51) (c := x9 ≠ 0) (by decide +kernel) (ev_k_ne hx9 ev_rng0) (by decide +kernel) ?_ ?_
          · intro c10
            refine ev_r_iconst (pc := 51) (k := 0) (by decide +kernel) ?_
            exact ev_r_ireturn (pc := 52) (x := 0) (v := Int32.ofInt 0) (ty := .boolean) (by decide : ev_bl 0) (by decide +kernel) (by decide +kernel) (ev_ret_bl (by decide : ev_bl 0)) rfl
          · intro c10
            refine ev_r_iconst (pc := 47) (k := 1) (by decide +kernel) ?_
            refine ev_r_goto (pc := 48) (o := 4) (t := 52) (by decide +kernel) (by decide +kernel) ?_
            exact ev_r_ireturn (pc := 52) (x := 1) (v := Int32.ofInt 1) (ty := .boolean) (by decide : ev_bl 1) (by decide +kernel) (by decide +kernel) (ev_ret_bl (by decide : ev_bl 1)) rfl
def jb_280_80 (Q : Nat) (a1 : Int) (x4 : Int) (x5 : Int) (x15 : Int) (K16 : Int → Int → ev_St → Option ((Unit) × ev_St)) (K80 : Int → Int → Int → Int → ev_St → Option ((Unit) × ev_St)) (x25 : Int) (x26 : Int) (x27 : Int) (x28 : Int) (s39 : ev_St) : Option ((Unit) × ev_St) := if x28 = (-1) then (ev_jn (fun (x41 : Int) (s49 : ev_St) => ev_if ((0 : Int) ≤ x15 ∧ x15 < (ev_aln 625 : Int)) (ev_b (s49.1 625 (Int.toNat x15)) fun x50 => ev_jn (fun (x53 : Int) (x52 : Int) (r51 : Nat) (s59 : ev_St) => ev_if (ev_bl x53) (ev_if ((0 : Int) ≤ x52 ∧ x52 < (ev_aln r51 : Int)) (ev_b (ev_pI s59 r51 (Int.toNat x52) x53) fun s60 => ev_ck (x5 + (-1)) fun x62 => K16 x4 x62 s60))) fun K263 => if x50 ≠ 18 then (K263 x25 x5 658 s49) else (K263 x41 x5 658 s49))) fun K236 => ev_jn (fun  (s71 : ev_St) => K236 1 s71) fun K231 => ev_jn (fun  (s81 : ev_St) => ev_jn (fun  (s89 : ev_St) => K236 0 s89) fun K235 => if x26 ≠ 1 then (K235  s81) else (ev_b (ev_iand x27 1) fun x91 => if x91 ≠ 1 then (K235  s81) else (K231  s81))) fun K217 => if x26 ≠ 0 then (K217  s39) else (if 0 < x27 then (K231  s39) else (K217  s39))) else (ev_ck (x4 + x28) fun x95 => ev_bd (jm_281 Q x95 x28 s39) fun x97 s96 => ev_jn (fun (x98 : Int) (x99 : Int) (s110 : ev_St) => ev_ck (x4 + x28) fun x111 => ev_if ((0 : Int) ≤ x111 ∧ x111 < (ev_aln 641 : Int)) (ev_b (s110.1 641 (Int.toNat x111)) fun x112 => ev_jn (fun (x113 : Int) (x115 : Int) (x114 : Int) (s126 : ev_St) => ev_ck (x114 + x115) fun x127 => ev_jn (fun (x128 : Int) (x130 : Int) (x129 : Int) (s140 : ev_St) => ev_b (ev_ior x129 x130) fun x141 => ev_ck (x4 + x28) fun x142 => ev_if ((0 : Int) ≤ x142 ∧ x142 < (ev_aln 627 : Int)) (ev_b (s140.1 627 (Int.toNat x142)) fun x143 => K80 x113 x128 x141 x143 s140)) fun K190 => if x98 = 0 then (K190 x127 0 x27 s126) else (ev_ck (x4 + x28) fun x145 => ev_if ((0 : Int) ≤ x145 ∧ x145 < (ev_aln 641 : Int)) (ev_b (s126.1 641 (Int.toNat x145)) fun x146 => if x146 ≤ 0 then (K190 x127 2 x27 s126) else (K190 x127 1 x27 s126)))) fun K159 => if x112 ≤ 0 then (K159 x99 0 x26 s110) else (K159 x99 1 x26 s110))) fun K138 => ev_jn (fun (x149 : Int) (s160 : ev_St) => K138 x149 1 s160) fun K133 => if x25 ≠ 0 then (K133 x97 s96) else (ev_if ((0 : Int) ≤ x15 ∧ x15 < (ev_aln 625 : Int)) (ev_b (s96.1 625 (Int.toNat x15)) fun x162 => ev_bd (jm_267 Q x162 s96) fun x164 s163 => ev_jn (fun  (s175 : ev_St) => K138 x97 0 s175) fun K137 => ev_jn (fun  (s186 : ev_St) => if x97 = 0 then (K137  s186) else (K133 x97 s186)) fun K128 => if x164 ≠ 0 then (K128  s163) else (ev_if ((0 : Int) ≤ x15 ∧ x15 < (ev_aln 625 : Int)) (ev_b (s163.1 625 (Int.toNat x15)) fun x189 => if x189 ≠ 13 then (K137  s163) else (K128  s163))))))
def jl_280_80 (Q : Nat) (a1 : Int) (x4 : Int) (x5 : Int) (x15 : Int) (K16 : Int → Int → ev_St → Option ((Unit) × ev_St)) : Nat → Int → Int → Int → Int → ev_St → Option ((Unit) × ev_St)
  | 0 => fun _ _ _ _ _ => none
  | q + 1 => jb_280_80 Q a1 x4 x5 x15 K16 (jl_280_80 Q a1 x4 x5 x15 K16 q)
theorem jbt_280_80 (d : Nat) (hd : 3 ≤ d + 1) (Q : Nat) (a1 : Int) (x4 : Int) (x5 : Int) (x15 : Int) (ha1 : ev_rng a1) (hx4 : ev_rng x4) (hx5 : ev_rng x5) (hx15 : ev_rng x15) (K16 : Int → Int → ev_St → Option ((Unit) × ev_St)) (hK16 : ∀ (x4 : Int) (hx4 : ev_rng x4), ∀ (x5 : Int) (hx5 : ev_rng x5), ∀ (s11 : ev_St) (w6 : List (Nat × Value)), ev_lk w6 0 = some (.ref 621) → ev_lk w6 2 = some (.int (Int32.ofInt a1)) → ev_lk w6 3 = some (.int (Int32.ofInt x4)) → ev_lk w6 4 = some (.int (Int32.ofInt x5)) → ev_w none (ev_Mof 280) d 16 w6 [] s11 (K16 x4 x5 s11) ev_eU ev_PU) (K80 : Int → Int → Int → Int → ev_St → Option ((Unit) × ev_St)) (hK80 : ∀ (x25 : Int) (hx25 : ev_rng x25), ∀ (x26 : Int) (hx26 : ev_rng x26), ∀ (x27 : Int) (hx27 : ev_rng x27), ∀ (x28 : Int) (hx28 : ev_rng x28), ∀ (s39 : ev_St) (w29 : List (Nat × Value)), ev_lk w29 0 = some (.ref 621) → ev_lk w29 2 = some (.int (Int32.ofInt a1)) → ev_lk w29 3 = some (.int (Int32.ofInt x4)) → ev_lk w29 4 = some (.int (Int32.ofInt x5)) → ev_lk w29 5 = some (.int (Int32.ofInt x15)) → ev_lk w29 6 = some (.int (Int32.ofInt x25)) → ev_lk w29 7 = some (.int (Int32.ofInt x26)) → ev_lk w29 8 = some (.int (Int32.ofInt x27)) → ev_lk w29 9 = some (.int (Int32.ofInt x28)) → ev_w none (ev_Mof 280) d 80 w29 [] s39 (K80 x25 x26 x27 x28 s39) ev_eU ev_PU) : ∀ (x25 : Int) (hx25 : ev_rng x25), ∀ (x26 : Int) (hx26 : ev_rng x26), ∀ (x27 : Int) (hx27 : ev_rng x27), ∀ (x28 : Int) (hx28 : ev_rng x28), ∀ (s39 : ev_St) (w29 : List (Nat × Value)), ev_lk w29 0 = some (.ref 621) → ev_lk w29 2 = some (.int (Int32.ofInt a1)) → ev_lk w29 3 = some (.int (Int32.ofInt x4)) → ev_lk w29 4 = some (.int (Int32.ofInt x5)) → ev_lk w29 5 = some (.int (Int32.ofInt x15)) → ev_lk w29 6 = some (.int (Int32.ofInt x25)) → ev_lk w29 7 = some (.int (Int32.ofInt x26)) → ev_lk w29 8 = some (.int (Int32.ofInt x27)) → ev_lk w29 9 = some (.int (Int32.ofInt x28)) → ev_w none (ev_Mof 280) d 80 w29 [] s39 (jb_280_80 Q a1 x4 x5 x15 K16 K80 x25 x26 x27 x28 s39) ev_eU ev_PU := by
  intro x25 hx25 x26 hx26 x27 hx27 x28 hx28 s39 w29 e30 e31 e32 e33 e34 e35 e36 e37 e38
  unfold jb_280_80
  refine ev_r_iload (pc := 80) (k := 9) (v := Int32.ofInt x28) (by decide +kernel) (by exact e38) ?_
  refine ev_r_iconst (pc := 82) (k := -1) (by decide +kernel) ?_
  refine ev_r_icmp (pc := 83) (q := .eq) (o := 124) (t := 207) (c := x28 = (-1)) (by decide +kernel) (ev_k_eq hx28 (by decide)) (by decide +kernel) ?_ ?_
  · intro c40
    refine ev_r_iload (pc := 207) (k := 7) (v := Int32.ofInt x26) (by decide +kernel) (by exact e36) ?_
    refine ev_r_jn (Q := fun K => ∀ (x41 : Int) (hx41 : ev_rng x41), ∀ (s49 : ev_St) (w42 : List (Nat × Value)), ev_lk w42 0 = some (.ref 621) → ev_lk w42 2 = some (.int (Int32.ofInt a1)) → ev_lk w42 3 = some (.int (Int32.ofInt x4)) → ev_lk w42 4 = some (.int (Int32.ofInt x5)) → ev_lk w42 5 = some (.int (Int32.ofInt x15)) → ev_lk w42 6 = some (.int (Int32.ofInt x25)) → ev_w none (ev_Mof 280) d 236 w42 [.int (Int32.ofInt x41)] s49 (K x41 s49) ev_eU ev_PU) ?_ ?_
    · intro x41 hx41 s49 w42 e43 e44 e45 e46 e47 e48
      refine ev_r_istore (pc := 236) (k := 9) (by decide +kernel) (by decide +kernel) rfl ?_
      refine ev_r_aload_n (pc := 238) (k := 0) (v := .ref 621) trivial (by decide +kernel) (by exact (ev_l1 e43 (by decide) (by decide))) ?_
      refine ev_r_getC (pc := 239) (y := 120) (ci := 13) (f := 50) (fin := 1) (k' := 658) (by decide +kernel) (by decide +kernel) (by exact ev_ob_621) rfl rfl ?_
      refine ev_r_iload (pc := 242) (k := 4) (v := Int32.ofInt x5) (by decide +kernel) (by exact (ev_l1 e46 (by decide) (by decide))) ?_
      refine ev_r_aload_n (pc := 244) (k := 0) (v := .ref 621) trivial (by decide +kernel) (by exact (ev_l1 e43 (by decide) (by decide))) ?_
      refine ev_r_getC (pc := 245) (y := 19) (ci := 13) (f := 6) (fin := 1) (k' := 625) (by decide +kernel) (by decide +kernel) (by exact ev_ob_621) rfl rfl ?_
      refine ev_r_iload (pc := 248) (k := 5) (v := Int32.ofInt x15) (by decide +kernel) (by exact (ev_l1 e47 (by decide) (by decide))) ?_
      refine ev_r_iald (pc := 250) hx15 (by decide +kernel) (by exact ev_ab_625) ?_
      intro x50 hx50
      refine ev_r_bipush (pc := 251) (k := 18) (by decide +kernel) (by decide +kernel) ?_
      refine ev_r_jn (Q := fun K => ∀ (x53 : Int) (hx53 : ev_rng x53), ∀ (x52 : Int) (hx52 : ev_rng x52), ∀ (r51 : Nat) (hr51 : ev_isAb r51 1 .boolean = true), ∀ (s59 : ev_St) (w54 : List (Nat × Value)), ev_lk w54 0 = some (.ref 621) → ev_lk w54 2 = some (.int (Int32.ofInt a1)) → ev_lk w54 3 = some (.int (Int32.ofInt x4)) → ev_lk w54 4 = some (.int (Int32.ofInt x5)) → ev_w none (ev_Mof 280) d 263 w54 [.int (Int32.ofInt x53), .int (Int32.ofInt x52), .ref r51] s59 (K x53 x52 r51 s59) ev_eU ev_PU) ?_ ?_
      · intro x53 hx53 x52 hx52 r51 hr51 s59 w54 e55 e56 e57 e58
        refine ev_r_chk ?_
        intro c61
        refine ev_r_bast (pc := 263) (ty := .boolean) (Or.inr rfl) (ev_nar_bl c61) hx53 hx52 (by decide +kernel) (by exact hr51) ?_
        intro s60
        refine ev_r_iinc (pc := 264) (k := 4) (c := -1) (x := x5) (by decide +kernel) (by decide +kernel) (by exact e58) (fun _ => rfl) ?_
        intro x62 hx62
        refine ev_r_goto (pc := 267) (o := (-251)) (t := 16) (by decide +kernel) (by decide +kernel) ?_
        exact hK16 x4 hx4 x62 hx62 s60 _ (by exact (ev_l1 e55 (by decide) (by decide))) (by exact (ev_l1 e56 (by decide) (by decide))) (by exact (ev_lk_st1 e57 (by decide) rfl)) (by exact ev_lk_st1_self)
      · intro K263 hK263
        refine ev_r_icmp (pc := 253) (q := .ne) (o := 8) (t := 261) (c := x50 ≠ 18) (by decide +kernel) (ev_k_ne hx50 (by decide)) (by decide +kernel) ?_ ?_
        · intro c63
          refine ev_r_iload (pc := 261) (k := 6) (v := Int32.ofInt x25) (by decide +kernel) (by exact (ev_l1 e48 (by decide) (by decide))) ?_
          exact hK263 x25 hx25 x5 hx5 658 ev_ab_658 s49 _ (by exact (ev_l1 e43 (by decide) (by decide))) (by exact (ev_l1 e44 (by decide) (by decide))) (by exact (ev_l1 e45 (by decide) (by decide))) (by exact (ev_l1 e46 (by decide) (by decide)))
        · intro c63
          refine ev_r_iload (pc := 256) (k := 9) (v := Int32.ofInt x41) (by decide +kernel) (by exact ev_lk_st1_self) ?_
          refine ev_r_goto (pc := 258) (o := 5) (t := 263) (by decide +kernel) (by decide +kernel) ?_
          exact hK263 x41 hx41 x5 hx5 658 ev_ab_658 s49 _ (by exact (ev_l1 e43 (by decide) (by decide))) (by exact (ev_l1 e44 (by decide) (by decide))) (by exact (ev_l1 e45 (by decide) (by decide))) (by exact (ev_l1 e46 (by decide) (by decide)))
    · intro K236 hK236
      refine ev_r_jn (Q := fun K => ∀ (s71 : ev_St) (w64 : List (Nat × Value)), ev_lk w64 0 = some (.ref 621) → ev_lk w64 2 = some (.int (Int32.ofInt a1)) → ev_lk w64 3 = some (.int (Int32.ofInt x4)) → ev_lk w64 4 = some (.int (Int32.ofInt x5)) → ev_lk w64 5 = some (.int (Int32.ofInt x15)) → ev_lk w64 6 = some (.int (Int32.ofInt x25)) → ev_w none (ev_Mof 280) d 231 w64 [] s71 (K  s71) ev_eU ev_PU) ?_ ?_
      · intro  s71 w64 e65 e66 e67 e68 e69 e70
        refine ev_r_iconst (pc := 231) (k := 1) (by decide +kernel) ?_
        refine ev_r_goto (pc := 232) (o := 4) (t := 236) (by decide +kernel) (by decide +kernel) ?_
        exact hK236 1 (by decide) s71 _ (by exact e65) (by exact e66) (by exact e67) (by exact e68) (by exact e69) (by exact e70)
      · intro K231 hK231
        refine ev_r_jn (Q := fun K => ∀ (s81 : ev_St) (w72 : List (Nat × Value)), ev_lk w72 0 = some (.ref 621) → ev_lk w72 2 = some (.int (Int32.ofInt a1)) → ev_lk w72 3 = some (.int (Int32.ofInt x4)) → ev_lk w72 4 = some (.int (Int32.ofInt x5)) → ev_lk w72 5 = some (.int (Int32.ofInt x15)) → ev_lk w72 6 = some (.int (Int32.ofInt x25)) → ev_lk w72 7 = some (.int (Int32.ofInt x26)) → ev_lk w72 8 = some (.int (Int32.ofInt x27)) → ev_w none (ev_Mof 280) d 217 w72 [] s81 (K  s81) ev_eU ev_PU) ?_ ?_
        · intro  s81 w72 e73 e74 e75 e76 e77 e78 e79 e80
          refine ev_r_iload (pc := 217) (k := 7) (v := Int32.ofInt x26) (by decide +kernel) (by exact e79) ?_
          refine ev_r_iconst (pc := 219) (k := 1) (by decide +kernel) ?_
          refine ev_r_jn (Q := fun K => ∀ (s89 : ev_St) (w82 : List (Nat × Value)), ev_lk w82 0 = some (.ref 621) → ev_lk w82 2 = some (.int (Int32.ofInt a1)) → ev_lk w82 3 = some (.int (Int32.ofInt x4)) → ev_lk w82 4 = some (.int (Int32.ofInt x5)) → ev_lk w82 5 = some (.int (Int32.ofInt x15)) → ev_lk w82 6 = some (.int (Int32.ofInt x25)) → ev_w none (ev_Mof 280) d 235 w82 [] s89 (K  s89) ev_eU ev_PU) ?_ ?_
          · intro  s89 w82 e83 e84 e85 e86 e87 e88
            refine ev_r_iconst (pc := 235) (k := 0) (by decide +kernel) ?_
            exact hK236 0 (by decide) s89 _ (by exact e83) (by exact e84) (by exact e85) (by exact e86) (by exact e87) (by exact e88)
          · intro K235 hK235
            refine ev_r_icmp (pc := 220) (q := .ne) (o := 15) (t := 235) (c := x26 ≠ 1) (by decide +kernel) (ev_k_ne hx26 (by decide)) (by decide +kernel) ?_ ?_
            · intro c90
              exact hK235  s81 _ (by exact e73) (by exact e74) (by exact e75) (by exact e76) (by exact e77) (by exact e78)
            · intro c90
              refine ev_r_iload (pc := 223) (k := 8) (v := Int32.ofInt x27) (by decide +kernel) (by exact e80) ?_
              refine ev_r_iconst (pc := 225) (k := 1) (by decide +kernel) ?_
              refine ev_r_iand (pc := 226) (by decide +kernel) ?_
              intro x91 hx91
              refine ev_r_iconst (pc := 227) (k := 1) (by decide +kernel) ?_
              refine ev_r_icmp (pc := 228) (q := .ne) (o := 7) (t := 235) (c := x91 ≠ 1) (by decide +kernel) (ev_k_ne hx91 (by decide)) (by decide +kernel) ?_ ?_
              · intro c92
                exact hK235  s81 _ (by exact e73) (by exact e74) (by exact e75) (by exact e76) (by exact e77) (by exact e78)
              · intro c92
                exact hK231  s81 _ (by exact e73) (by exact e74) (by exact e75) (by exact e76) (by exact e77) (by exact e78)
        · intro K217 hK217
          refine ev_r_if (pc := 209) (q := .ne) (o := 8) (t := 217) (c := x26 ≠ 0) (by decide +kernel) (ev_k_ne hx26 ev_rng0) (by decide +kernel) ?_ ?_
          · intro c93
            exact hK217  s39 _ (by exact e30) (by exact e31) (by exact e32) (by exact e33) (by exact e34) (by exact e35) (by exact e36) (by exact e37)
          · intro c93
            refine ev_r_iload (pc := 212) (k := 8) (v := Int32.ofInt x27) (by decide +kernel) (by exact e37) ?_
            refine ev_r_if (pc := 214) (q := .gt) (o := 17) (t := 231) (c := 0 < x27) (by decide +kernel) (ev_k_gt hx27 ev_rng0) (by decide +kernel) ?_ ?_
            · intro c94
              exact hK231  s39 _ (by exact e30) (by exact e31) (by exact e32) (by exact e33) (by exact e34) (by exact e35)
            · intro c94
              exact hK217  s39 _ (by exact e30) (by exact e31) (by exact e32) (by exact e33) (by exact e34) (by exact e35) (by exact e36) (by exact e37)
  · intro c40
    refine ev_r_aload_n (pc := 86) (k := 0) (v := .ref 621) trivial (by decide +kernel) (by exact e30) ?_
    refine ev_r_iload_n (pc := 87) (k := 3) (v := Int32.ofInt x4) (by decide +kernel) (by exact e32) ?_
    refine ev_r_iload (pc := 88) (k := 9) (v := Int32.ofInt x28) (by decide +kernel) (by exact e38) ?_
    refine ev_r_iadd (pc := 90) (by decide +kernel) ?_
    intro x95 hx95
    refine ev_r_iload (pc := 91) (k := 9) (v := Int32.ofInt x28) (by decide +kernel) (by exact e38) ?_
    refine ev_r_virt (pc := 93) (y := 545) (mi := 281) (na := 2) (k := 621) (as := [.int (Int32.ofInt x95), .int (Int32.ofInt x28)]) (rest := []) (encc := ev_oI) (Q := ev_bl) (fun x S1 h => jt_281 d (by omega) Q x95 x28 hx95 hx28 s39 x S1 h) (by exact ev_ob_621) (by decide +kernel) (by decide +kernel) (by decide +kernel) (by decide +kernel) rfl (by (try simp only [ev_sum, ev_nv_cat]); first | done | rfl) ?_
    intro x97 s96 hx97
    replace hx97 := ev_bl_rng hx97
    show ev_w _ _ _ _ _ [.int (Int32.ofInt x97)] _ _ _ _
    refine ev_r_istore (pc := 96) (k := 10) (by decide +kernel) (by decide +kernel) rfl ?_
    refine ev_r_iload (pc := 98) (k := 6) (v := Int32.ofInt x25) (by decide +kernel) (by exact (ev_l1 e35 (by decide) (by decide))) ?_
    refine ev_r_jn (Q := fun K => ∀ (x98 : Int) (hx98 : ev_rng x98), ∀ (x99 : Int) (hx99 : ev_rng x99), ∀ (s110 : ev_St) (w100 : List (Nat × Value)), ev_lk w100 0 = some (.ref 621) → ev_lk w100 2 = some (.int (Int32.ofInt a1)) → ev_lk w100 3 = some (.int (Int32.ofInt x4)) → ev_lk w100 4 = some (.int (Int32.ofInt x5)) → ev_lk w100 5 = some (.int (Int32.ofInt x15)) → ev_lk w100 7 = some (.int (Int32.ofInt x26)) → ev_lk w100 8 = some (.int (Int32.ofInt x27)) → ev_lk w100 9 = some (.int (Int32.ofInt x28)) → ev_lk w100 10 = some (.int (Int32.ofInt x98)) → ev_w none (ev_Mof 280) d 138 w100 [.int (Int32.ofInt x99)] s110 (K x98 x99 s110) ev_eU ev_PU) ?_ ?_
    · intro x98 hx98 x99 hx99 s110 w100 e101 e102 e103 e104 e105 e106 e107 e108 e109
      refine ev_r_istore (pc := 138) (k := 6) (by decide +kernel) (by decide +kernel) rfl ?_
      refine ev_r_iload (pc := 140) (k := 7) (v := Int32.ofInt x26) (by decide +kernel) (by exact (ev_l1 e106 (by decide) (by decide))) ?_
      refine ev_r_aload_n (pc := 142) (k := 0) (v := .ref 621) trivial (by decide +kernel) (by exact (ev_l1 e101 (by decide) (by decide))) ?_
      refine ev_r_getC (pc := 143) (y := 68) (ci := 13) (f := 22) (fin := 1) (k' := 641) (by decide +kernel) (by decide +kernel) (by exact ev_ob_621) rfl rfl ?_
      refine ev_r_iload_n (pc := 146) (k := 3) (v := Int32.ofInt x4) (by decide +kernel) (by exact (ev_l1 e103 (by decide) (by decide))) ?_
      refine ev_r_iload (pc := 147) (k := 9) (v := Int32.ofInt x28) (by decide +kernel) (by exact (ev_l1 e108 (by decide) (by decide))) ?_
      refine ev_r_iadd (pc := 149) (by decide +kernel) ?_
      intro x111 hx111
      refine ev_r_iald (pc := 150) hx111 (by decide +kernel) (by exact ev_ab_641) ?_
      intro x112 hx112
      refine ev_r_jn (Q := fun K => ∀ (x113 : Int) (hx113 : ev_rng x113), ∀ (x115 : Int) (hx115 : ev_rng x115), ∀ (x114 : Int) (hx114 : ev_rng x114), ∀ (s126 : ev_St) (w116 : List (Nat × Value)), ev_lk w116 0 = some (.ref 621) → ev_lk w116 2 = some (.int (Int32.ofInt a1)) → ev_lk w116 3 = some (.int (Int32.ofInt x4)) → ev_lk w116 4 = some (.int (Int32.ofInt x5)) → ev_lk w116 5 = some (.int (Int32.ofInt x15)) → ev_lk w116 6 = some (.int (Int32.ofInt x113)) → ev_lk w116 8 = some (.int (Int32.ofInt x27)) → ev_lk w116 9 = some (.int (Int32.ofInt x28)) → ev_lk w116 10 = some (.int (Int32.ofInt x98)) → ev_w none (ev_Mof 280) d 159 w116 [.int (Int32.ofInt x115), .int (Int32.ofInt x114)] s126 (K x113 x115 x114 s126) ev_eU ev_PU) ?_ ?_
      · intro x113 hx113 x115 hx115 x114 hx114 s126 w116 e117 e118 e119 e120 e121 e122 e123 e124 e125
        refine ev_r_iadd (pc := 159) (by decide +kernel) ?_
        intro x127 hx127
        refine ev_r_istore (pc := 160) (k := 7) (by decide +kernel) (by decide +kernel) rfl ?_
        refine ev_r_iload (pc := 162) (k := 8) (v := Int32.ofInt x27) (by decide +kernel) (by exact (ev_l1 e123 (by decide) (by decide))) ?_
        refine ev_r_iload (pc := 164) (k := 10) (v := Int32.ofInt x98) (by decide +kernel) (by exact (ev_l1 e125 (by decide) (by decide))) ?_
        refine ev_r_jn (Q := fun K => ∀ (x128 : Int) (hx128 : ev_rng x128), ∀ (x130 : Int) (hx130 : ev_rng x130), ∀ (x129 : Int) (hx129 : ev_rng x129), ∀ (s140 : ev_St) (w131 : List (Nat × Value)), ev_lk w131 0 = some (.ref 621) → ev_lk w131 2 = some (.int (Int32.ofInt a1)) → ev_lk w131 3 = some (.int (Int32.ofInt x4)) → ev_lk w131 4 = some (.int (Int32.ofInt x5)) → ev_lk w131 5 = some (.int (Int32.ofInt x15)) → ev_lk w131 6 = some (.int (Int32.ofInt x113)) → ev_lk w131 7 = some (.int (Int32.ofInt x128)) → ev_lk w131 9 = some (.int (Int32.ofInt x28)) → ev_w none (ev_Mof 280) d 190 w131 [.int (Int32.ofInt x130), .int (Int32.ofInt x129)] s140 (K x128 x130 x129 s140) ev_eU ev_PU) ?_ ?_
        · intro x128 hx128 x130 hx130 x129 hx129 s140 w131 e132 e133 e134 e135 e136 e137 e138 e139
          refine ev_r_ior (pc := 190) (by decide +kernel) ?_
          intro x141 hx141
          refine ev_r_istore (pc := 191) (k := 8) (by decide +kernel) (by decide +kernel) rfl ?_
          refine ev_r_aload_n (pc := 193) (k := 0) (v := .ref 621) trivial (by decide +kernel) (by exact (ev_l1 e132 (by decide) (by decide))) ?_
          refine ev_r_getC (pc := 194) (y := 25) (ci := 13) (f := 8) (fin := 1) (k' := 627) (by decide +kernel) (by decide +kernel) (by exact ev_ob_621) rfl rfl ?_
          refine ev_r_iload_n (pc := 197) (k := 3) (v := Int32.ofInt x4) (by decide +kernel) (by exact (ev_l1 e134 (by decide) (by decide))) ?_
          refine ev_r_iload (pc := 198) (k := 9) (v := Int32.ofInt x28) (by decide +kernel) (by exact (ev_l1 e139 (by decide) (by decide))) ?_
          refine ev_r_iadd (pc := 200) (by decide +kernel) ?_
          intro x142 hx142
          refine ev_r_iald (pc := 201) hx142 (by decide +kernel) (by exact ev_ab_627) ?_
          intro x143 hx143
          refine ev_r_istore (pc := 202) (k := 9) (by decide +kernel) (by decide +kernel) rfl ?_
          refine ev_r_goto (pc := 204) (o := (-124)) (t := 80) (by decide +kernel) (by decide +kernel) ?_
          exact hK80 x113 hx113 x128 hx128 x141 hx141 x143 hx143 s140 _ (by exact (ev_l1 (ev_l1 e132 (by decide) (by decide)) (by decide) (by decide))) (by exact (ev_l1 (ev_l1 e133 (by decide) (by decide)) (by decide) (by decide))) (by exact (ev_l1 (ev_l1 e134 (by decide) (by decide)) (by decide) (by decide))) (by exact (ev_l1 (ev_l1 e135 (by decide) (by decide)) (by decide) (by decide))) (by exact (ev_l1 (ev_l1 e136 (by decide) (by decide)) (by decide) (by decide))) (by exact (ev_l1 (ev_l1 e137 (by decide) (by decide)) (by decide) (by decide))) (by exact (ev_l1 (ev_lk_st1 e138 (by decide) rfl) (by decide) (by decide))) (by exact (ev_lk_st1 ev_lk_st1_self (by decide) rfl)) (by exact ev_lk_st1_self)
        · intro K190 hK190
          refine ev_r_if (pc := 166) (q := .eq) (o := 23) (t := 189) (c := x98 = 0) (by decide +kernel) (ev_k_eq hx98 ev_rng0) (by decide +kernel) ?_ ?_
          · intro c144
            refine ev_r_iconst (pc := 189) (k := 0) (by decide +kernel) ?_
            exact hK190 x127 hx127 0 (by decide) x27 hx27 s126 _ (by exact (ev_l1 e117 (by decide) (by decide))) (by exact (ev_l1 e118 (by decide) (by decide))) (by exact (ev_l1 e119 (by decide) (by decide))) (by exact (ev_l1 e120 (by decide) (by decide))) (by exact (ev_l1 e121 (by decide) (by decide))) (by exact (ev_lk_st1 e122 (by decide) rfl)) (by exact ev_lk_st1_self) (by exact (ev_l1 e124 (by decide) (by decide)))
          · intro c144
            refine ev_r_aload_n (pc := 169) (k := 0) (v := .ref 621) trivial (by decide +kernel) (by exact (ev_l1 e117 (by decide) (by decide))) ?_
            refine ev_r_getC (pc := 170) (y := 68) (ci := 13) (f := 22) (fin := 1) (k' := 641) (by decide +kernel) (by decide +kernel) (by exact ev_ob_621) rfl rfl ?_
            refine ev_r_iload_n (pc := 173) (k := 3) (v := Int32.ofInt x4) (by decide +kernel) (by exact (ev_l1 e119 (by decide) (by decide))) ?_
            refine ev_r_iload (pc := 174) (k := 9) (v := Int32.ofInt x28) (by decide +kernel) (by exact (ev_l1 e124 (by decide) (by decide))) ?_
            refine ev_r_iadd (pc := 176) (by decide +kernel) ?_
            intro x145 hx145
            refine ev_r_iald (pc := 177) hx145 (by decide +kernel) (by exact ev_ab_641) ?_
            intro x146 hx146
            refine ev_r_if (pc := 178) (q := .le) (o := 7) (t := 185) (c := x146 ≤ 0) (by decide +kernel) (ev_k_le hx146 ev_rng0) (by decide +kernel) ?_ ?_
            · intro c147
              refine ev_r_iconst (pc := 185) (k := 2) (by decide +kernel) ?_
              refine ev_r_goto (pc := 186) (o := 4) (t := 190) (by decide +kernel) (by decide +kernel) ?_
              exact hK190 x127 hx127 2 (by decide) x27 hx27 s126 _ (by exact (ev_l1 e117 (by decide) (by decide))) (by exact (ev_l1 e118 (by decide) (by decide))) (by exact (ev_l1 e119 (by decide) (by decide))) (by exact (ev_l1 e120 (by decide) (by decide))) (by exact (ev_l1 e121 (by decide) (by decide))) (by exact (ev_lk_st1 e122 (by decide) rfl)) (by exact ev_lk_st1_self) (by exact (ev_l1 e124 (by decide) (by decide)))
            · intro c147
              refine ev_r_iconst (pc := 181) (k := 1) (by decide +kernel) ?_
              refine ev_r_goto (pc := 182) (o := 8) (t := 190) (by decide +kernel) (by decide +kernel) ?_
              exact hK190 x127 hx127 1 (by decide) x27 hx27 s126 _ (by exact (ev_l1 e117 (by decide) (by decide))) (by exact (ev_l1 e118 (by decide) (by decide))) (by exact (ev_l1 e119 (by decide) (by decide))) (by exact (ev_l1 e120 (by decide) (by decide))) (by exact (ev_l1 e121 (by decide) (by decide))) (by exact (ev_lk_st1 e122 (by decide) rfl)) (by exact ev_lk_st1_self) (by exact (ev_l1 e124 (by decide) (by decide)))
      · intro K159 hK159
        refine ev_r_if (pc := 151) (q := .le) (o := 7) (t := 158) (c := x112 ≤ 0) (by decide +kernel) (ev_k_le hx112 ev_rng0) (by decide +kernel) ?_ ?_
        · intro c148
          refine ev_r_iconst (pc := 158) (k := 0) (by decide +kernel) ?_
          exact hK159 x99 hx99 0 (by decide) x26 hx26 s110 _ (by exact (ev_l1 e101 (by decide) (by decide))) (by exact (ev_l1 e102 (by decide) (by decide))) (by exact (ev_l1 e103 (by decide) (by decide))) (by exact (ev_l1 e104 (by decide) (by decide))) (by exact (ev_lk_st1 e105 (by decide) rfl)) (by exact ev_lk_st1_self) (by exact (ev_l1 e107 (by decide) (by decide))) (by exact (ev_l1 e108 (by decide) (by decide))) (by exact (ev_l1 e109 (by decide) (by decide)))
        · intro c148
          refine ev_r_iconst (pc := 154) (k := 1) (by decide +kernel) ?_
          refine ev_r_goto (pc := 155) (o := 4) (t := 159) (by decide +kernel) (by decide +kernel) ?_
          exact hK159 x99 hx99 1 (by decide) x26 hx26 s110 _ (by exact (ev_l1 e101 (by decide) (by decide))) (by exact (ev_l1 e102 (by decide) (by decide))) (by exact (ev_l1 e103 (by decide) (by decide))) (by exact (ev_l1 e104 (by decide) (by decide))) (by exact (ev_lk_st1 e105 (by decide) rfl)) (by exact ev_lk_st1_self) (by exact (ev_l1 e107 (by decide) (by decide))) (by exact (ev_l1 e108 (by decide) (by decide))) (by exact (ev_l1 e109 (by decide) (by decide)))
    · intro K138 hK138
      refine ev_r_jn (Q := fun K => ∀ (x149 : Int) (hx149 : ev_rng x149), ∀ (s160 : ev_St) (w150 : List (Nat × Value)), ev_lk w150 0 = some (.ref 621) → ev_lk w150 2 = some (.int (Int32.ofInt a1)) → ev_lk w150 3 = some (.int (Int32.ofInt x4)) → ev_lk w150 4 = some (.int (Int32.ofInt x5)) → ev_lk w150 5 = some (.int (Int32.ofInt x15)) → ev_lk w150 7 = some (.int (Int32.ofInt x26)) → ev_lk w150 8 = some (.int (Int32.ofInt x27)) → ev_lk w150 9 = some (.int (Int32.ofInt x28)) → ev_lk w150 10 = some (.int (Int32.ofInt x149)) → ev_w none (ev_Mof 280) d 133 w150 [] s160 (K x149 s160) ev_eU ev_PU) ?_ ?_
      · intro x149 hx149 s160 w150 e151 e152 e153 e154 e155 e156 e157 e158 e159
        refine ev_r_iconst (pc := 133) (k := 1) (by decide +kernel) ?_
        refine ev_r_goto (pc := 134) (o := 4) (t := 138) (by decide +kernel) (by decide +kernel) ?_
        exact hK138 x149 hx149 1 (by decide) s160 _ (by exact e151) (by exact e152) (by exact e153) (by exact e154) (by exact e155) (by exact e156) (by exact e157) (by exact e158) (by exact e159)
      · intro K133 hK133
        refine ev_r_if (pc := 100) (q := .ne) (o := 33) (t := 133) (c := x25 ≠ 0) (by decide +kernel) (ev_k_ne hx25 ev_rng0) (by decide +kernel) ?_ ?_
        · intro c161
          exact hK133 x97 hx97 s96 _ (by exact (ev_l1 e30 (by decide) (by decide))) (by exact (ev_l1 e31 (by decide) (by decide))) (by exact (ev_l1 e32 (by decide) (by decide))) (by exact (ev_l1 e33 (by decide) (by decide))) (by exact (ev_l1 e34 (by decide) (by decide))) (by exact (ev_l1 e36 (by decide) (by decide))) (by exact (ev_l1 e37 (by decide) (by decide))) (by exact (ev_lk_st1 e38 (by decide) rfl)) (by exact ev_lk_st1_self)
        · intro c161
          refine ev_r_aload_n (pc := 103) (k := 0) (v := .ref 621) trivial (by decide +kernel) (by exact (ev_l1 e30 (by decide) (by decide))) ?_
          refine ev_r_getC (pc := 104) (y := 19) (ci := 13) (f := 6) (fin := 1) (k' := 625) (by decide +kernel) (by decide +kernel) (by exact ev_ob_621) rfl rfl ?_
          refine ev_r_iload (pc := 107) (k := 5) (v := Int32.ofInt x15) (by decide +kernel) (by exact (ev_l1 e34 (by decide) (by decide))) ?_
          refine ev_r_iald (pc := 109) hx15 (by decide +kernel) (by exact ev_ab_625) ?_
          intro x162 hx162
          refine ev_r_stat (pc := 110) (y := 504) (kind := 2) (mi := 267) (na := 1) (as := [.int (Int32.ofInt x162)]) (rest := []) (encc := ev_oI) (Q := ev_bl) (fun x S1 h => jt_267 d (by omega) Q x162 hx162 s96 x S1 h) (Or.inl rfl) (by decide +kernel) (by decide +kernel) (by decide +kernel) (by decide +kernel) rfl (by (try simp only [ev_sum, ev_nv_cat]); first | done | rfl) ?_
          intro x164 s163 hx164
          replace hx164 := ev_bl_rng hx164
          show ev_w _ _ _ _ _ [.int (Int32.ofInt x164)] _ _ _ _
          refine ev_r_jn (Q := fun K => ∀ (s175 : ev_St) (w165 : List (Nat × Value)), ev_lk w165 0 = some (.ref 621) → ev_lk w165 2 = some (.int (Int32.ofInt a1)) → ev_lk w165 3 = some (.int (Int32.ofInt x4)) → ev_lk w165 4 = some (.int (Int32.ofInt x5)) → ev_lk w165 5 = some (.int (Int32.ofInt x15)) → ev_lk w165 7 = some (.int (Int32.ofInt x26)) → ev_lk w165 8 = some (.int (Int32.ofInt x27)) → ev_lk w165 9 = some (.int (Int32.ofInt x28)) → ev_lk w165 10 = some (.int (Int32.ofInt x97)) → ev_w none (ev_Mof 280) d 137 w165 [] s175 (K  s175) ev_eU ev_PU) ?_ ?_
          · intro  s175 w165 e166 e167 e168 e169 e170 e171 e172 e173 e174
            refine ev_r_iconst (pc := 137) (k := 0) (by decide +kernel) ?_
            exact hK138 x97 hx97 0 (by decide) s175 _ (by exact e166) (by exact e167) (by exact e168) (by exact e169) (by exact e170) (by exact e171) (by exact e172) (by exact e173) (by exact e174)
          · intro K137 hK137
            refine ev_r_jn (Q := fun K => ∀ (s186 : ev_St) (w176 : List (Nat × Value)), ev_lk w176 0 = some (.ref 621) → ev_lk w176 2 = some (.int (Int32.ofInt a1)) → ev_lk w176 3 = some (.int (Int32.ofInt x4)) → ev_lk w176 4 = some (.int (Int32.ofInt x5)) → ev_lk w176 5 = some (.int (Int32.ofInt x15)) → ev_lk w176 7 = some (.int (Int32.ofInt x26)) → ev_lk w176 8 = some (.int (Int32.ofInt x27)) → ev_lk w176 9 = some (.int (Int32.ofInt x28)) → ev_lk w176 10 = some (.int (Int32.ofInt x97)) → ev_w none (ev_Mof 280) d 128 w176 [] s186 (K  s186) ev_eU ev_PU) ?_ ?_
            · intro  s186 w176 e177 e178 e179 e180 e181 e182 e183 e184 e185
              refine ev_r_iload (pc := 128) (k := 10) (v := Int32.ofInt x97) (by decide +kernel) (by exact e185) ?_
              refine ev_r_if (pc := 130) (q := .eq) (o := 7) (t := 137) (c := x97 = 0) (by decide +kernel) (ev_k_eq hx97 ev_rng0) (by decide +kernel) ?_ ?_
              · intro c187
                exact hK137  s186 _ (by exact e177) (by exact e178) (by exact e179) (by exact e180) (by exact e181) (by exact e182) (by exact e183) (by exact e184) (by exact e185)
              · intro c187
                exact hK133 x97 hx97 s186 _ (by exact e177) (by exact e178) (by exact e179) (by exact e180) (by exact e181) (by exact e182) (by exact e183) (by exact e184) (by exact e185)
            · intro K128 hK128
              refine ev_r_if (pc := 113) (q := .ne) (o := 15) (t := 128) (c := x164 ≠ 0) (by decide +kernel) (ev_k_ne hx164 ev_rng0) (by decide +kernel) ?_ ?_
              · intro c188
                exact hK128  s163 _ (by exact (ev_l1 e30 (by decide) (by decide))) (by exact (ev_l1 e31 (by decide) (by decide))) (by exact (ev_l1 e32 (by decide) (by decide))) (by exact (ev_l1 e33 (by decide) (by decide))) (by exact (ev_l1 e34 (by decide) (by decide))) (by exact (ev_l1 e36 (by decide) (by decide))) (by exact (ev_l1 e37 (by decide) (by decide))) (by exact (ev_lk_st1 e38 (by decide) rfl)) (by exact ev_lk_st1_self)
              · intro c188
                refine ev_r_aload_n (pc := 116) (k := 0) (v := .ref 621) trivial (by decide +kernel) (by exact (ev_l1 e30 (by decide) (by decide))) ?_
                refine ev_r_getC (pc := 117) (y := 19) (ci := 13) (f := 6) (fin := 1) (k' := 625) (by decide +kernel) (by decide +kernel) (by exact ev_ob_621) rfl rfl ?_
                refine ev_r_iload (pc := 120) (k := 5) (v := Int32.ofInt x15) (by decide +kernel) (by exact (ev_l1 e34 (by decide) (by decide))) ?_
                refine ev_r_iald (pc := 122) hx15 (by decide +kernel) (by exact ev_ab_625) ?_
                intro x189 hx189
                refine ev_r_bipush (pc := 123) (k := 13) (by decide +kernel) (by decide +kernel) ?_
                refine ev_r_icmp (pc := 125) (q := .ne) (o := 12) (t := 137) (c := x189 ≠ 13) (by decide +kernel) (ev_k_ne hx189 (by decide)) (by decide +kernel) ?_ ?_
                · intro c190
                  exact hK137  s163 _ (by exact (ev_l1 e30 (by decide) (by decide))) (by exact (ev_l1 e31 (by decide) (by decide))) (by exact (ev_l1 e32 (by decide) (by decide))) (by exact (ev_l1 e33 (by decide) (by decide))) (by exact (ev_l1 e34 (by decide) (by decide))) (by exact (ev_l1 e36 (by decide) (by decide))) (by exact (ev_l1 e37 (by decide) (by decide))) (by exact (ev_lk_st1 e38 (by decide) rfl)) (by exact ev_lk_st1_self)
                · intro c190
                  exact hK128  s163 _ (by exact (ev_l1 e30 (by decide) (by decide))) (by exact (ev_l1 e31 (by decide) (by decide))) (by exact (ev_l1 e32 (by decide) (by decide))) (by exact (ev_l1 e33 (by decide) (by decide))) (by exact (ev_l1 e34 (by decide) (by decide))) (by exact (ev_l1 e36 (by decide) (by decide))) (by exact (ev_l1 e37 (by decide) (by decide))) (by exact (ev_lk_st1 e38 (by decide) rfl)) (by exact ev_lk_st1_self)
theorem jlt_280_80 (d : Nat) (hd : 3 ≤ d + 1) (Q : Nat) (a1 : Int) (x4 : Int) (x5 : Int) (x15 : Int) (ha1 : ev_rng a1) (hx4 : ev_rng x4) (hx5 : ev_rng x5) (hx15 : ev_rng x15) (K16 : Int → Int → ev_St → Option ((Unit) × ev_St)) (hK16 : ∀ (x4 : Int) (hx4 : ev_rng x4), ∀ (x5 : Int) (hx5 : ev_rng x5), ∀ (s11 : ev_St) (w6 : List (Nat × Value)), ev_lk w6 0 = some (.ref 621) → ev_lk w6 2 = some (.int (Int32.ofInt a1)) → ev_lk w6 3 = some (.int (Int32.ofInt x4)) → ev_lk w6 4 = some (.int (Int32.ofInt x5)) → ev_w none (ev_Mof 280) d 16 w6 [] s11 (K16 x4 x5 s11) ev_eU ev_PU) : ∀ q : Nat, ∀ (x25 : Int) (hx25 : ev_rng x25), ∀ (x26 : Int) (hx26 : ev_rng x26), ∀ (x27 : Int) (hx27 : ev_rng x27), ∀ (x28 : Int) (hx28 : ev_rng x28), ∀ (s39 : ev_St) (w29 : List (Nat × Value)), ev_lk w29 0 = some (.ref 621) → ev_lk w29 2 = some (.int (Int32.ofInt a1)) → ev_lk w29 3 = some (.int (Int32.ofInt x4)) → ev_lk w29 4 = some (.int (Int32.ofInt x5)) → ev_lk w29 5 = some (.int (Int32.ofInt x15)) → ev_lk w29 6 = some (.int (Int32.ofInt x25)) → ev_lk w29 7 = some (.int (Int32.ofInt x26)) → ev_lk w29 8 = some (.int (Int32.ofInt x27)) → ev_lk w29 9 = some (.int (Int32.ofInt x28)) → ev_w none (ev_Mof 280) d 80 w29 [] s39 (jl_280_80 Q a1 x4 x5 x15 K16 q x25 x26 x27 x28 s39) ev_eU ev_PU := by
  intro q
  induction q with
  | zero =>
    intro x25 hx25 x26 hx26 x27 hx27 x28 hx28 s39 w29 e30 e31 e32 e33 e34 e35 e36 e37 e38
    exact ev_w_none
  | succ q ih => exact jbt_280_80 d hd Q a1 x4 x5 x15 ha1 hx4 hx5 hx15 K16 hK16 _ ih
def jb_280_16 (Q : Nat) (a1 : Int)  (K16 : Int → Int → ev_St → Option ((Unit) × ev_St)) (x4 : Int) (x5 : Int) (s11 : ev_St) : Option ((Unit) × ev_St) := if x5 < 0 then (some ((), s11)) else (ev_ck (x4 + x5) fun x13 => ev_if ((0 : Int) ≤ x13 ∧ x13 < (ev_aln 625 : Int)) (ev_b (s11.1 625 (Int.toNat x13)) fun x14 => ev_jn (fun (x15 : Int) (x16 : Int) (s23 : ev_St) => ev_if ((0 : Int) ≤ x15 ∧ x15 < (ev_aln 626 : Int)) (ev_b (s23.1 626 (Int.toNat x15)) fun x24 => jl_280_80 Q a1 x4 x5 x15 K16 Q x16 0 0 x24 s23)) fun K63 => ev_jn (fun (x191 : Int) (s198 : ev_St) => K63 x191 0 s198) fun K62 => if x14 ≠ 0 then (K62 x13 s11) else (ev_if ((0 : Int) ≤ x13 ∧ x13 < (ev_aln 633 : Int)) (ev_b (s11.2.1 633 (Int.toNat x13)) fun y200 => ev_if ((0 : Int) ≤ x13 ∧ x13 < (ev_aln 634 : Int)) (ev_b (s11.2.1 634 (Int.toNat x13)) fun y201 => ev_bd (jm_244 Q y200 y201 a1 s11) fun x203 s202 => if x203 = 0 then (K62 x13 s202) else (K63 x13 1 s202))))))
def jl_280_16 (Q : Nat) (a1 : Int)  : Nat → Int → Int → ev_St → Option ((Unit) × ev_St)
  | 0 => fun _ _ _ => none
  | q + 1 => jb_280_16 Q a1  (jl_280_16 Q a1  q)
theorem jbt_280_16 (d : Nat) (hd : 3 ≤ d + 1) (Q : Nat) (a1 : Int) (ha1 : ev_rng a1)   (K16 : Int → Int → ev_St → Option ((Unit) × ev_St)) (hK16 : ∀ (x4 : Int) (hx4 : ev_rng x4), ∀ (x5 : Int) (hx5 : ev_rng x5), ∀ (s11 : ev_St) (w6 : List (Nat × Value)), ev_lk w6 0 = some (.ref 621) → ev_lk w6 2 = some (.int (Int32.ofInt a1)) → ev_lk w6 3 = some (.int (Int32.ofInt x4)) → ev_lk w6 4 = some (.int (Int32.ofInt x5)) → ev_w none (ev_Mof 280) d 16 w6 [] s11 (K16 x4 x5 s11) ev_eU ev_PU) : ∀ (x4 : Int) (hx4 : ev_rng x4), ∀ (x5 : Int) (hx5 : ev_rng x5), ∀ (s11 : ev_St) (w6 : List (Nat × Value)), ev_lk w6 0 = some (.ref 621) → ev_lk w6 2 = some (.int (Int32.ofInt a1)) → ev_lk w6 3 = some (.int (Int32.ofInt x4)) → ev_lk w6 4 = some (.int (Int32.ofInt x5)) → ev_w none (ev_Mof 280) d 16 w6 [] s11 (jb_280_16 Q a1  K16 x4 x5 s11) ev_eU ev_PU := by
  intro x4 hx4 x5 hx5 s11 w6 e7 e8 e9 e10
  unfold jb_280_16
  refine ev_r_iload (pc := 16) (k := 4) (v := Int32.ofInt x5) (by decide +kernel) (by exact e10) ?_
  refine ev_r_if (pc := 18) (q := .lt) (o := 252) (t := 270) (c := x5 < 0) (by decide +kernel) (ev_k_lt hx5 ev_rng0) (by decide +kernel) ?_ ?_
  · intro c12
    exact ev_r_return (pc := 270) (x := ()) trivial (by decide +kernel) (by decide +kernel) rfl
  · intro c12
    refine ev_r_iload_n (pc := 21) (k := 3) (v := Int32.ofInt x4) (by decide +kernel) (by exact e9) ?_
    refine ev_r_iload (pc := 22) (k := 4) (v := Int32.ofInt x5) (by decide +kernel) (by exact e10) ?_
    refine ev_r_iadd (pc := 24) (by decide +kernel) ?_
    intro x13 hx13
    refine ev_r_istore (pc := 25) (k := 5) (by decide +kernel) (by decide +kernel) rfl ?_
    refine ev_r_aload_n (pc := 27) (k := 0) (v := .ref 621) trivial (by decide +kernel) (by exact (ev_l1 e7 (by decide) (by decide))) ?_
    refine ev_r_getC (pc := 28) (y := 19) (ci := 13) (f := 6) (fin := 1) (k' := 625) (by decide +kernel) (by decide +kernel) (by exact ev_ob_621) rfl rfl ?_
    refine ev_r_iload (pc := 31) (k := 5) (v := Int32.ofInt x13) (by decide +kernel) (by exact ev_lk_st1_self) ?_
    refine ev_r_iald (pc := 33) hx13 (by decide +kernel) (by exact ev_ab_625) ?_
    intro x14 hx14
    refine ev_r_jn (Q := fun K => ∀ (x15 : Int) (hx15 : ev_rng x15), ∀ (x16 : Int) (hx16 : ev_rng x16), ∀ (s23 : ev_St) (w17 : List (Nat × Value)), ev_lk w17 0 = some (.ref 621) → ev_lk w17 2 = some (.int (Int32.ofInt a1)) → ev_lk w17 3 = some (.int (Int32.ofInt x4)) → ev_lk w17 4 = some (.int (Int32.ofInt x5)) → ev_lk w17 5 = some (.int (Int32.ofInt x15)) → ev_w none (ev_Mof 280) d 63 w17 [.int (Int32.ofInt x16)] s23 (K x15 x16 s23) ev_eU ev_PU) ?_ ?_
    · intro x15 hx15 x16 hx16 s23 w17 e18 e19 e20 e21 e22
      refine ev_r_istore (pc := 63) (k := 6) (by decide +kernel) (by decide +kernel) rfl ?_
      refine ev_r_iconst (pc := 65) (k := 0) (by decide +kernel) ?_
      refine ev_r_istore (pc := 66) (k := 7) (by decide +kernel) (by decide +kernel) rfl ?_
      refine ev_r_iconst (pc := 68) (k := 0) (by decide +kernel) ?_
      refine ev_r_istore (pc := 69) (k := 8) (by decide +kernel) (by decide +kernel) rfl ?_
      refine ev_r_aload_n (pc := 71) (k := 0) (v := .ref 621) trivial (by decide +kernel) (by exact (ev_l1 (ev_l1 (ev_l1 e18 (by decide) (by decide)) (by decide) (by decide)) (by decide) (by decide))) ?_
      refine ev_r_getC (pc := 72) (y := 22) (ci := 13) (f := 7) (fin := 1) (k' := 626) (by decide +kernel) (by decide +kernel) (by exact ev_ob_621) rfl rfl ?_
      refine ev_r_iload (pc := 75) (k := 5) (v := Int32.ofInt x15) (by decide +kernel) (by exact (ev_l1 (ev_l1 (ev_lk_st1 e22 (by decide) rfl) (by decide) (by decide)) (by decide) (by decide))) ?_
      refine ev_r_iald (pc := 77) hx15 (by decide +kernel) (by exact ev_ab_626) ?_
      intro x24 hx24
      refine ev_r_istore (pc := 78) (k := 9) (by decide +kernel) (by decide +kernel) rfl ?_
      exact jlt_280_80 d hd Q a1 x4 x5 x15 ha1 hx4 hx5 hx15 K16 hK16 Q x16 hx16 0 (by decide) 0 (by decide) x24 hx24 s23 _ (by exact (ev_l1 (ev_l1 (ev_l1 (ev_l1 e18 (by decide) (by decide)) (by decide) (by decide)) (by decide) (by decide)) (by decide) (by decide))) (by exact (ev_l1 (ev_l1 (ev_l1 (ev_l1 e19 (by decide) (by decide)) (by decide) (by decide)) (by decide) (by decide)) (by decide) (by decide))) (by exact (ev_l1 (ev_l1 (ev_l1 (ev_l1 e20 (by decide) (by decide)) (by decide) (by decide)) (by decide) (by decide)) (by decide) (by decide))) (by exact (ev_l1 (ev_l1 (ev_l1 (ev_l1 e21 (by decide) (by decide)) (by decide) (by decide)) (by decide) (by decide)) (by decide) (by decide))) (by exact (ev_l1 (ev_l1 (ev_l1 (ev_lk_st1 e22 (by decide) rfl) (by decide) (by decide)) (by decide) (by decide)) (by decide) (by decide))) (by exact (ev_l1 (ev_l1 (ev_lk_st1 ev_lk_st1_self (by decide) rfl) (by decide) (by decide)) (by decide) (by decide))) (by exact (ev_l1 (ev_lk_st1 ev_lk_st1_self (by decide) rfl) (by decide) (by decide))) (by exact (ev_lk_st1 ev_lk_st1_self (by decide) rfl)) (by exact ev_lk_st1_self)
    · intro K63 hK63
      refine ev_r_jn (Q := fun K => ∀ (x191 : Int) (hx191 : ev_rng x191), ∀ (s198 : ev_St) (w192 : List (Nat × Value)), ev_lk w192 0 = some (.ref 621) → ev_lk w192 2 = some (.int (Int32.ofInt a1)) → ev_lk w192 3 = some (.int (Int32.ofInt x4)) → ev_lk w192 4 = some (.int (Int32.ofInt x5)) → ev_lk w192 5 = some (.int (Int32.ofInt x191)) → ev_w none (ev_Mof 280) d 62 w192 [] s198 (K x191 s198) ev_eU ev_PU) ?_ ?_
      · intro x191 hx191 s198 w192 e193 e194 e195 e196 e197
        refine ev_r_iconst (pc := 62) (k := 0) (by decide +kernel) ?_
        exact hK63 x191 hx191 0 (by decide) s198 _ (by exact e193) (by exact e194) (by exact e195) (by exact e196) (by exact e197)
      · intro K62 hK62
        refine ev_r_if (pc := 34) (q := .ne) (o := 28) (t := 62) (c := x14 ≠ 0) (by decide +kernel) (ev_k_ne hx14 ev_rng0) (by decide +kernel) ?_ ?_
        · intro c199
          exact hK62 x13 hx13 s11 _ (by exact (ev_l1 e7 (by decide) (by decide))) (by exact (ev_l1 e8 (by decide) (by decide))) (by exact (ev_l1 e9 (by decide) (by decide))) (by exact (ev_lk_st1 e10 (by decide) rfl)) (by exact ev_lk_st1_self)
        · intro c199
          refine ev_r_aload_n (pc := 37) (k := 0) (v := .ref 621) trivial (by decide +kernel) (by exact (ev_l1 e7 (by decide) (by decide))) ?_
          refine ev_r_getC (pc := 38) (y := 43) (ci := 13) (f := 14) (fin := 1) (k' := 633) (by decide +kernel) (by decide +kernel) (by exact ev_ob_621) rfl rfl ?_
          refine ev_r_iload (pc := 41) (k := 5) (v := Int32.ofInt x13) (by decide +kernel) (by exact ev_lk_st1_self) ?_
          refine ev_r_lald (pc := 43) hx13 (by decide +kernel) (by exact ev_ab_633) ?_
          intro y200
          refine ev_r_aload_n (pc := 44) (k := 0) (v := .ref 621) trivial (by decide +kernel) (by exact (ev_l1 e7 (by decide) (by decide))) ?_
          refine ev_r_getC (pc := 45) (y := 47) (ci := 13) (f := 15) (fin := 1) (k' := 634) (by decide +kernel) (by decide +kernel) (by exact ev_ob_621) rfl rfl ?_
          refine ev_r_iload (pc := 48) (k := 5) (v := Int32.ofInt x13) (by decide +kernel) (by exact ev_lk_st1_self) ?_
          refine ev_r_lald (pc := 50) hx13 (by decide +kernel) (by exact ev_ab_634) ?_
          intro y201
          refine ev_r_iload_n (pc := 51) (k := 2) (v := Int32.ofInt a1) (by decide +kernel) (by exact (ev_l1 e8 (by decide) (by decide))) ?_
          refine ev_r_stat (pc := 52) (y := 534) (kind := 2) (mi := 244) (na := 3) (as := [.long y200, .long y201, .int (Int32.ofInt a1)]) (rest := []) (encc := ev_oI) (Q := ev_bl) (fun x S1 h => jt_244 d (by omega) Q y200 y201 a1 ha1 s11 x S1 h) (Or.inl rfl) (by decide +kernel) (by decide +kernel) (by decide +kernel) (by decide +kernel) rfl (by (try simp only [ev_sum, ev_nv_cat]); first | done | rfl) ?_
          intro x203 s202 hx203
          replace hx203 := ev_bl_rng hx203
          show ev_w _ _ _ _ _ [.int (Int32.ofInt x203)] _ _ _ _
          refine ev_r_if (pc := 55) (q := .eq) (o := 7) (t := 62) (c := x203 = 0) (by decide +kernel) (ev_k_eq hx203 ev_rng0) (by decide +kernel) ?_ ?_
          · intro c204
            exact hK62 x13 hx13 s202 _ (by exact (ev_l1 e7 (by decide) (by decide))) (by exact (ev_l1 e8 (by decide) (by decide))) (by exact (ev_l1 e9 (by decide) (by decide))) (by exact (ev_lk_st1 e10 (by decide) rfl)) (by exact ev_lk_st1_self)
          · intro c204
            refine ev_r_iconst (pc := 58) (k := 1) (by decide +kernel) ?_
            refine ev_r_goto (pc := 59) (o := 4) (t := 63) (by decide +kernel) (by decide +kernel) ?_
            exact hK63 x13 hx13 1 (by decide) s202 _ (by exact (ev_l1 e7 (by decide) (by decide))) (by exact (ev_l1 e8 (by decide) (by decide))) (by exact (ev_l1 e9 (by decide) (by decide))) (by exact (ev_lk_st1 e10 (by decide) rfl)) (by exact ev_lk_st1_self)
theorem jlt_280_16 (d : Nat) (hd : 3 ≤ d + 1) (Q : Nat) (a1 : Int) (ha1 : ev_rng a1)   : ∀ q : Nat, ∀ (x4 : Int) (hx4 : ev_rng x4), ∀ (x5 : Int) (hx5 : ev_rng x5), ∀ (s11 : ev_St) (w6 : List (Nat × Value)), ev_lk w6 0 = some (.ref 621) → ev_lk w6 2 = some (.int (Int32.ofInt a1)) → ev_lk w6 3 = some (.int (Int32.ofInt x4)) → ev_lk w6 4 = some (.int (Int32.ofInt x5)) → ev_w none (ev_Mof 280) d 16 w6 [] s11 (jl_280_16 Q a1  q x4 x5 s11) ev_eU ev_PU := by
  intro q
  induction q with
  | zero =>
    intro x4 hx4 x5 hx5 s11 w6 e7 e8 e9 e10
    exact ev_w_none
  | succ q ih => exact jbt_280_16 d hd Q a1 ha1   _ ih
/-- MendBenchModel.marksJust(II)V -/
def jm_280 (Q : Nat) (a0 : Int) (a1 : Int) (S : ev_St) : Option ((Unit) × ev_St) := ev_ck (320 * a0) fun x1 => ev_if ((0 : Int) ≤ a0 ∧ a0 < (ev_aln 635 : Int)) (ev_b (S.1 635 (Int.toNat a0)) fun x2 => ev_ck (x2 - 1) fun x3 => jl_280_16 Q a1  Q x1 x3 S)
theorem jt_280 (d : Nat) (hd : 3 ≤ d) (Q : Nat) (a0 : Int) (a1 : Int) (ha0 : ev_rng a0) (ha1 : ev_rng a1) (S : ev_St) (x : Unit) (S' : ev_St) (hJ : jm_280 Q a0 a1 S = some (x, S')) : ev_Ref d 280 [.ref 621, .int (Int32.ofInt a0), .int (Int32.ofInt a1)] S (ev_eU x) S' (ev_PU x) := by
  obtain ⟨d, rfl⟩ : ∃ e, d = e + 1 := ⟨d - 1, by omega⟩
  refine ev_ref_of (P := ev_PU) (lv := [(0, .ref 621), (1, .int (Int32.ofInt a0)), (2, .int (Int32.ofInt a1))]) (by decide +kernel) (by (try simp only [ev_sum, ev_nv_cat]); first | done | rfl) (by (try simp only [lv_args, ev_nv_cat]); first | done | rfl) ?_ x S' hJ
  unfold jm_280
  refine ev_r_sipush (pc := 0) (k := 320) (by decide +kernel) (by decide +kernel) ?_
  refine ev_r_iload_n (pc := 3) (k := 1) (v := Int32.ofInt a0) (by decide +kernel) (by rfl) ?_
  refine ev_r_imul (pc := 4) (by decide +kernel) ?_
  intro x1 hx1
  refine ev_r_istore_n (pc := 5) (k := 3) (by decide +kernel) (by decide +kernel) rfl ?_
  refine ev_r_aload_n (pc := 6) (k := 0) (v := .ref 621) trivial (by decide +kernel) (by exact (ev_l1 (by rfl) (by decide) (by decide))) ?_
  refine ev_r_getC (pc := 7) (y := 50) (ci := 13) (f := 16) (fin := 1) (k' := 635) (by decide +kernel) (by decide +kernel) (by exact ev_ob_621) rfl rfl ?_
  refine ev_r_iload_n (pc := 10) (k := 1) (v := Int32.ofInt a0) (by decide +kernel) (by exact (ev_l1 (by rfl) (by decide) (by decide))) ?_
  refine ev_r_iald (pc := 11) ha0 (by decide +kernel) (by exact ev_ab_635) ?_
  intro x2 hx2
  refine ev_r_iconst (pc := 12) (k := 1) (by decide +kernel) ?_
  refine ev_r_isub (pc := 13) (by decide +kernel) ?_
  intro x3 hx3
  refine ev_r_istore (pc := 14) (k := 4) (by decide +kernel) (by decide +kernel) rfl ?_
  exact jlt_280_16 d hd Q a1 ha1   Q x1 hx1 x3 hx3 S _ (by exact (ev_l1 (ev_l1 (by rfl) (by decide) (by decide)) (by decide) (by decide))) (by exact (ev_l1 (ev_lk_st1 (by rfl) (by decide) rfl) (by decide) (by decide))) (by exact (ev_lk_st1 ev_lk_st1_self (by decide) rfl)) (by exact ev_lk_st1_self)
/-- MendBenchModel.isEndless(I)Z -/
def jm_282 (Q : Nat) (a0 : Int) (S : ev_St) : Option ((Int) × ev_St) := ev_if ((0 : Int) ≤ a0 ∧ a0 < (ev_aln 630 : Int)) (ev_b (S.1 630 (Int.toNat a0)) fun x1 => ev_jn (fun  (s5 : ev_St) => ev_if ((0 : Int) ≤ a0 ∧ a0 < (ev_aln 632 : Int)) (ev_b (s5.1 632 (Int.toNat a0)) fun x6 => if x6 ≠ (-1) then (some (0, s5)) else (some (1, s5)))) fun K19 => if x1 = 0 then (K19  S) else (ev_if ((0 : Int) ≤ a0 ∧ a0 < (ev_aln 630 : Int)) (ev_b (S.1 630 (Int.toNat a0)) fun x9 => if x9 ≠ 1 then (some (0, S)) else (K19  S))))
theorem jt_282 (d : Nat) (hd : 1 ≤ d) (Q : Nat) (a0 : Int) (ha0 : ev_rng a0) (S : ev_St) (x : Int) (S' : ev_St) (hJ : jm_282 Q a0 S = some (x, S')) : ev_Ref d 282 [.ref 621, .int (Int32.ofInt a0)] S (ev_eI x) S' (ev_bl x) := by
  obtain ⟨d, rfl⟩ : ∃ e, d = e + 1 := ⟨d - 1, by omega⟩
  refine ev_ref_of (P := ev_bl) (lv := [(0, .ref 621), (1, .int (Int32.ofInt a0))]) (by decide +kernel) (by (try simp only [ev_sum, ev_nv_cat]); first | done | rfl) (by (try simp only [lv_args, ev_nv_cat]); first | done | rfl) ?_ x S' hJ
  unfold jm_282
  refine ev_r_aload_n (pc := 0) (k := 0) (v := .ref 621) trivial (by decide +kernel) (by rfl) ?_
  refine ev_r_getC (pc := 1) (y := 34) (ci := 13) (f := 11) (fin := 1) (k' := 630) (by decide +kernel) (by decide +kernel) (by exact ev_ob_621) rfl rfl ?_
  refine ev_r_iload_n (pc := 4) (k := 1) (v := Int32.ofInt a0) (by decide +kernel) (by rfl) ?_
  refine ev_r_iald (pc := 5) ha0 (by decide +kernel) (by exact ev_ab_630) ?_
  intro x1 hx1
  refine ev_r_jn (Q := fun K => ∀ (s5 : ev_St) (w2 : List (Nat × Value)), ev_lk w2 0 = some (.ref 621) → ev_lk w2 1 = some (.int (Int32.ofInt a0)) → ev_w none (ev_Mof 282) d 19 w2 [] s5 (K  s5) ev_eI ev_bl) ?_ ?_
  · intro  s5 w2 e3 e4
    refine ev_r_aload_n (pc := 19) (k := 0) (v := .ref 621) trivial (by decide +kernel) (by exact e3) ?_
    refine ev_r_getC (pc := 20) (y := 40) (ci := 13) (f := 13) (fin := 1) (k' := 632) (by decide +kernel) (by decide +kernel) (by exact ev_ob_621) rfl rfl ?_
    refine ev_r_iload_n (pc := 23) (k := 1) (v := Int32.ofInt a0) (by decide +kernel) (by exact e4) ?_
    refine ev_r_iald (pc := 24) ha0 (by decide +kernel) (by exact ev_ab_632) ?_
    intro x6 hx6
    refine ev_r_iconst (pc := 25) (k := -1) (by decide +kernel) ?_
    refine ev_r_icmp (pc := 26) (q := .ne) (o := 7) (t := 33) (c := x6 ≠ (-1)) (by decide +kernel) (ev_k_ne hx6 (by decide)) (by decide +kernel) ?_ ?_
    · intro c7
      refine ev_r_iconst (pc := 33) (k := 0) (by decide +kernel) ?_
      exact ev_r_ireturn (pc := 34) (x := 0) (v := Int32.ofInt 0) (ty := .boolean) (by decide : ev_bl 0) (by decide +kernel) (by decide +kernel) (ev_ret_bl (by decide : ev_bl 0)) rfl
    · intro c7
      refine ev_r_iconst (pc := 29) (k := 1) (by decide +kernel) ?_
      refine ev_r_goto (pc := 30) (o := 4) (t := 34) (by decide +kernel) (by decide +kernel) ?_
      exact ev_r_ireturn (pc := 34) (x := 1) (v := Int32.ofInt 1) (ty := .boolean) (by decide : ev_bl 1) (by decide +kernel) (by decide +kernel) (ev_ret_bl (by decide : ev_bl 1)) rfl
  · intro K19 hK19
    refine ev_r_if (pc := 6) (q := .eq) (o := 13) (t := 19) (c := x1 = 0) (by decide +kernel) (ev_k_eq hx1 ev_rng0) (by decide +kernel) ?_ ?_
    · intro c8
      exact hK19  S _ (by rfl) (by rfl)
    · intro c8
      refine ev_r_aload_n (pc := 9) (k := 0) (v := .ref 621) trivial (by decide +kernel) (by rfl) ?_
      refine ev_r_getC (pc := 10) (y := 34) (ci := 13) (f := 11) (fin := 1) (k' := 630) (by decide +kernel) (by decide +kernel) (by exact ev_ob_621) rfl rfl ?_
      refine ev_r_iload_n (pc := 13) (k := 1) (v := Int32.ofInt a0) (by decide +kernel) (by rfl) ?_
      refine ev_r_iald (pc := 14) ha0 (by decide +kernel) (by exact ev_ab_630) ?_
      intro x9 hx9
      refine ev_r_iconst (pc := 15) (k := 1) (by decide +kernel) ?_
      refine ev_r_icmp (pc := 16) (q := .ne) (o := 17) (t := 33) (c := x9 ≠ 1) (by decide +kernel) (ev_k_ne hx9 (by decide)) (by decide +kernel) ?_ ?_
      · intro c10
        refine ev_r_iconst (pc := 33) (k := 0) (by decide +kernel) ?_
        exact ev_r_ireturn (pc := 34) (x := 0) (v := Int32.ofInt 0) (ty := .boolean) (by decide : ev_bl 0) (by decide +kernel) (by decide +kernel) (ev_ret_bl (by decide : ev_bl 0)) rfl
      · intro c10
        exact hK19  S _ (by rfl) (by rfl)
def jb_283_35 (Q : Nat) (a0 : Int) (x3 : Int) (x4 : Int) (K15 : Int → Int → ev_St → Option ((Unit) × ev_St)) (K35 : Int → ev_St → Option ((Unit) × ev_St)) (x15 : Int) (s22 : ev_St) : Option ((Unit) × ev_St) := if x15 = (-1) then (ev_ck (x4 + 1) fun x24 => K15 x3 x24 s22) else (ev_if ((0 : Int) ≤ x15 ∧ x15 < (ev_aln 659 : Int)) (ev_b (ev_pI s22 659 (Int.toNat x15) x4) fun s25 => ev_ck (x3 + x15) fun x26 => ev_if ((0 : Int) ≤ x26 ∧ x26 < (ev_aln 627 : Int)) (ev_b (s25.1 627 (Int.toNat x26)) fun x27 => K35 x27 s25)))
def jl_283_35 (Q : Nat) (a0 : Int) (x3 : Int) (x4 : Int) (K15 : Int → Int → ev_St → Option ((Unit) × ev_St)) : Nat → Int → ev_St → Option ((Unit) × ev_St)
  | 0 => fun _ _ => none
  | q + 1 => jb_283_35 Q a0 x3 x4 K15 (jl_283_35 Q a0 x3 x4 K15 q)
theorem jbt_283_35 (d : Nat) (hd : 1 ≤ d + 1) (Q : Nat) (a0 : Int) (x3 : Int) (x4 : Int) (ha0 : ev_rng a0) (hx3 : ev_rng x3) (hx4 : ev_rng x4) (K15 : Int → Int → ev_St → Option ((Unit) × ev_St)) (hK15 : ∀ (x3 : Int) (hx3 : ev_rng x3), ∀ (x4 : Int) (hx4 : ev_rng x4), ∀ (s10 : ev_St) (w5 : List (Nat × Value)), ev_lk w5 0 = some (.ref 621) → ev_lk w5 1 = some (.int (Int32.ofInt a0)) → ev_lk w5 2 = some (.int (Int32.ofInt x3)) → ev_lk w5 3 = some (.int (Int32.ofInt x4)) → ev_w none (ev_Mof 283) d 15 w5 [] s10 (K15 x3 x4 s10) ev_eU ev_PU) (K35 : Int → ev_St → Option ((Unit) × ev_St)) (hK35 : ∀ (x15 : Int) (hx15 : ev_rng x15), ∀ (s22 : ev_St) (w16 : List (Nat × Value)), ev_lk w16 0 = some (.ref 621) → ev_lk w16 1 = some (.int (Int32.ofInt a0)) → ev_lk w16 2 = some (.int (Int32.ofInt x3)) → ev_lk w16 3 = some (.int (Int32.ofInt x4)) → ev_lk w16 4 = some (.int (Int32.ofInt x15)) → ev_w none (ev_Mof 283) d 35 w16 [] s22 (K35 x15 s22) ev_eU ev_PU) : ∀ (x15 : Int) (hx15 : ev_rng x15), ∀ (s22 : ev_St) (w16 : List (Nat × Value)), ev_lk w16 0 = some (.ref 621) → ev_lk w16 1 = some (.int (Int32.ofInt a0)) → ev_lk w16 2 = some (.int (Int32.ofInt x3)) → ev_lk w16 3 = some (.int (Int32.ofInt x4)) → ev_lk w16 4 = some (.int (Int32.ofInt x15)) → ev_w none (ev_Mof 283) d 35 w16 [] s22 (jb_283_35 Q a0 x3 x4 K15 K35 x15 s22) ev_eU ev_PU := by
  intro x15 hx15 s22 w16 e17 e18 e19 e20 e21
  unfold jb_283_35
  refine ev_r_iload (pc := 35) (k := 4) (v := Int32.ofInt x15) (by decide +kernel) (by exact e21) ?_
  refine ev_r_iconst (pc := 37) (k := -1) (by decide +kernel) ?_
  refine ev_r_icmp (pc := 38) (q := .eq) (o := 25) (t := 63) (c := x15 = (-1)) (by decide +kernel) (ev_k_eq hx15 (by decide)) (by decide +kernel) ?_ ?_
  · intro c23
    refine ev_r_iinc (pc := 63) (k := 3) (c := 1) (x := x4) (by decide +kernel) (by decide +kernel) (by exact e20) (fun _ => rfl) ?_
    intro x24 hx24
    refine ev_r_goto (pc := 66) (o := (-51)) (t := 15) (by decide +kernel) (by decide +kernel) ?_
    exact hK15 x3 hx3 x24 hx24 s22 _ (by exact (ev_l1 e17 (by decide) (by decide))) (by exact (ev_l1 e18 (by decide) (by decide))) (by exact (ev_lk_st1 e19 (by decide) rfl)) (by exact ev_lk_st1_self)
  · intro c23
    refine ev_r_aload_n (pc := 41) (k := 0) (v := .ref 621) trivial (by decide +kernel) (by exact e17) ?_
    refine ev_r_getC (pc := 42) (y := 123) (ci := 13) (f := 51) (fin := 1) (k' := 659) (by decide +kernel) (by decide +kernel) (by exact ev_ob_621) rfl rfl ?_
    refine ev_r_iload (pc := 45) (k := 4) (v := Int32.ofInt x15) (by decide +kernel) (by exact e21) ?_
    refine ev_r_iload_n (pc := 47) (k := 3) (v := Int32.ofInt x4) (by decide +kernel) (by exact e20) ?_
    refine ev_r_iast (pc := 48) hx4 hx15 (by decide +kernel) (by exact ev_ab_659) ?_
    intro s25
    refine ev_r_aload_n (pc := 49) (k := 0) (v := .ref 621) trivial (by decide +kernel) (by exact e17) ?_
    refine ev_r_getC (pc := 50) (y := 25) (ci := 13) (f := 8) (fin := 1) (k' := 627) (by decide +kernel) (by decide +kernel) (by exact ev_ob_621) rfl rfl ?_
    refine ev_r_iload_n (pc := 53) (k := 2) (v := Int32.ofInt x3) (by decide +kernel) (by exact e19) ?_
    refine ev_r_iload (pc := 54) (k := 4) (v := Int32.ofInt x15) (by decide +kernel) (by exact e21) ?_
    refine ev_r_iadd (pc := 56) (by decide +kernel) ?_
    intro x26 hx26
    refine ev_r_iald (pc := 57) hx26 (by decide +kernel) (by exact ev_ab_627) ?_
    intro x27 hx27
    refine ev_r_istore (pc := 58) (k := 4) (by decide +kernel) (by decide +kernel) rfl ?_
    refine ev_r_goto (pc := 60) (o := (-25)) (t := 35) (by decide +kernel) (by decide +kernel) ?_
    exact hK35 x27 hx27 s25 _ (by exact (ev_l1 e17 (by decide) (by decide))) (by exact (ev_l1 e18 (by decide) (by decide))) (by exact (ev_l1 e19 (by decide) (by decide))) (by exact (ev_lk_st1 e20 (by decide) rfl)) (by exact ev_lk_st1_self)
theorem jlt_283_35 (d : Nat) (hd : 1 ≤ d + 1) (Q : Nat) (a0 : Int) (x3 : Int) (x4 : Int) (ha0 : ev_rng a0) (hx3 : ev_rng x3) (hx4 : ev_rng x4) (K15 : Int → Int → ev_St → Option ((Unit) × ev_St)) (hK15 : ∀ (x3 : Int) (hx3 : ev_rng x3), ∀ (x4 : Int) (hx4 : ev_rng x4), ∀ (s10 : ev_St) (w5 : List (Nat × Value)), ev_lk w5 0 = some (.ref 621) → ev_lk w5 1 = some (.int (Int32.ofInt a0)) → ev_lk w5 2 = some (.int (Int32.ofInt x3)) → ev_lk w5 3 = some (.int (Int32.ofInt x4)) → ev_w none (ev_Mof 283) d 15 w5 [] s10 (K15 x3 x4 s10) ev_eU ev_PU) : ∀ q : Nat, ∀ (x15 : Int) (hx15 : ev_rng x15), ∀ (s22 : ev_St) (w16 : List (Nat × Value)), ev_lk w16 0 = some (.ref 621) → ev_lk w16 1 = some (.int (Int32.ofInt a0)) → ev_lk w16 2 = some (.int (Int32.ofInt x3)) → ev_lk w16 3 = some (.int (Int32.ofInt x4)) → ev_lk w16 4 = some (.int (Int32.ofInt x15)) → ev_w none (ev_Mof 283) d 35 w16 [] s22 (jl_283_35 Q a0 x3 x4 K15 q x15 s22) ev_eU ev_PU := by
  intro q
  induction q with
  | zero =>
    intro x15 hx15 s22 w16 e17 e18 e19 e20 e21
    exact ev_w_none
  | succ q ih => exact jbt_283_35 d hd Q a0 x3 x4 ha0 hx3 hx4 K15 hK15 _ ih
def jb_283_15 (Q : Nat) (a0 : Int)  (K15 : Int → Int → ev_St → Option ((Unit) × ev_St)) (x3 : Int) (x4 : Int) (s10 : ev_St) : Option ((Unit) × ev_St) := ev_if ((0 : Int) ≤ a0 ∧ a0 < (ev_aln 635 : Int)) (ev_b (s10.1 635 (Int.toNat a0)) fun x11 => if x11 ≤ x4 then (some ((), s10)) else (ev_ck (x3 + x4) fun x13 => ev_if ((0 : Int) ≤ x13 ∧ x13 < (ev_aln 626 : Int)) (ev_b (s10.1 626 (Int.toNat x13)) fun x14 => jl_283_35 Q a0 x3 x4 K15 Q x14 s10)))
def jl_283_15 (Q : Nat) (a0 : Int)  : Nat → Int → Int → ev_St → Option ((Unit) × ev_St)
  | 0 => fun _ _ _ => none
  | q + 1 => jb_283_15 Q a0  (jl_283_15 Q a0  q)
theorem jbt_283_15 (d : Nat) (hd : 1 ≤ d + 1) (Q : Nat) (a0 : Int) (ha0 : ev_rng a0)   (K15 : Int → Int → ev_St → Option ((Unit) × ev_St)) (hK15 : ∀ (x3 : Int) (hx3 : ev_rng x3), ∀ (x4 : Int) (hx4 : ev_rng x4), ∀ (s10 : ev_St) (w5 : List (Nat × Value)), ev_lk w5 0 = some (.ref 621) → ev_lk w5 1 = some (.int (Int32.ofInt a0)) → ev_lk w5 2 = some (.int (Int32.ofInt x3)) → ev_lk w5 3 = some (.int (Int32.ofInt x4)) → ev_w none (ev_Mof 283) d 15 w5 [] s10 (K15 x3 x4 s10) ev_eU ev_PU) : ∀ (x3 : Int) (hx3 : ev_rng x3), ∀ (x4 : Int) (hx4 : ev_rng x4), ∀ (s10 : ev_St) (w5 : List (Nat × Value)), ev_lk w5 0 = some (.ref 621) → ev_lk w5 1 = some (.int (Int32.ofInt a0)) → ev_lk w5 2 = some (.int (Int32.ofInt x3)) → ev_lk w5 3 = some (.int (Int32.ofInt x4)) → ev_w none (ev_Mof 283) d 15 w5 [] s10 (jb_283_15 Q a0  K15 x3 x4 s10) ev_eU ev_PU := by
  intro x3 hx3 x4 hx4 s10 w5 e6 e7 e8 e9
  unfold jb_283_15
  refine ev_r_iload_n (pc := 15) (k := 3) (v := Int32.ofInt x4) (by decide +kernel) (by exact e9) ?_
  refine ev_r_aload_n (pc := 16) (k := 0) (v := .ref 621) trivial (by decide +kernel) (by exact e6) ?_
  refine ev_r_getC (pc := 17) (y := 50) (ci := 13) (f := 16) (fin := 1) (k' := 635) (by decide +kernel) (by decide +kernel) (by exact ev_ob_621) rfl rfl ?_
  refine ev_r_iload_n (pc := 20) (k := 1) (v := Int32.ofInt a0) (by decide +kernel) (by exact e7) ?_
  refine ev_r_iald (pc := 21) ha0 (by decide +kernel) (by exact ev_ab_635) ?_
  intro x11 hx11
  refine ev_r_icmp (pc := 22) (q := .ge) (o := 47) (t := 69) (c := x11 ≤ x4) (by decide +kernel) (ev_k_ge hx4 hx11) (by decide +kernel) ?_ ?_
  · intro c12
    exact ev_r_return (pc := 69) (x := ()) trivial (by decide +kernel) (by decide +kernel) rfl
  · intro c12
    refine ev_r_aload_n (pc := 25) (k := 0) (v := .ref 621) trivial (by decide +kernel) (by exact e6) ?_
    refine ev_r_getC (pc := 26) (y := 22) (ci := 13) (f := 7) (fin := 1) (k' := 626) (by decide +kernel) (by decide +kernel) (by exact ev_ob_621) rfl rfl ?_
    refine ev_r_iload_n (pc := 29) (k := 2) (v := Int32.ofInt x3) (by decide +kernel) (by exact e8) ?_
    refine ev_r_iload_n (pc := 30) (k := 3) (v := Int32.ofInt x4) (by decide +kernel) (by exact e9) ?_
    refine ev_r_iadd (pc := 31) (by decide +kernel) ?_
    intro x13 hx13
    refine ev_r_iald (pc := 32) hx13 (by decide +kernel) (by exact ev_ab_626) ?_
    intro x14 hx14
    refine ev_r_istore (pc := 33) (k := 4) (by decide +kernel) (by decide +kernel) rfl ?_
    exact jlt_283_35 d hd Q a0 x3 x4 ha0 hx3 hx4 K15 hK15 Q x14 hx14 s10 _ (by exact (ev_l1 e6 (by decide) (by decide))) (by exact (ev_l1 e7 (by decide) (by decide))) (by exact (ev_l1 e8 (by decide) (by decide))) (by exact (ev_lk_st1 e9 (by decide) rfl)) (by exact ev_lk_st1_self)
theorem jlt_283_15 (d : Nat) (hd : 1 ≤ d + 1) (Q : Nat) (a0 : Int) (ha0 : ev_rng a0)   : ∀ q : Nat, ∀ (x3 : Int) (hx3 : ev_rng x3), ∀ (x4 : Int) (hx4 : ev_rng x4), ∀ (s10 : ev_St) (w5 : List (Nat × Value)), ev_lk w5 0 = some (.ref 621) → ev_lk w5 1 = some (.int (Int32.ofInt a0)) → ev_lk w5 2 = some (.int (Int32.ofInt x3)) → ev_lk w5 3 = some (.int (Int32.ofInt x4)) → ev_w none (ev_Mof 283) d 15 w5 [] s10 (jl_283_15 Q a0  q x3 x4 s10) ev_eU ev_PU := by
  intro q
  induction q with
  | zero =>
    intro x3 hx3 x4 hx4 s10 w5 e6 e7 e8 e9
    exact ev_w_none
  | succ q ih => exact jbt_283_15 d hd Q a0 ha0   _ ih
/-- MendBenchModel.lays(I)V -/
def jm_283 (Q : Nat) (a0 : Int) (S : ev_St) : Option ((Unit) × ev_St) := ev_ck (320 * a0) fun x1 => ev_if ((0 : Int) ≤ 0 ∧ 0 < (ev_aln 659 : Int)) (ev_b (ev_pI S 659 (Int.toNat 0) ((-1))) fun s2 => jl_283_15 Q a0  Q x1 0 s2)
theorem jt_283 (d : Nat) (hd : 1 ≤ d) (Q : Nat) (a0 : Int) (ha0 : ev_rng a0) (S : ev_St) (x : Unit) (S' : ev_St) (hJ : jm_283 Q a0 S = some (x, S')) : ev_Ref d 283 [.ref 621, .int (Int32.ofInt a0)] S (ev_eU x) S' (ev_PU x) := by
  obtain ⟨d, rfl⟩ : ∃ e, d = e + 1 := ⟨d - 1, by omega⟩
  refine ev_ref_of (P := ev_PU) (lv := [(0, .ref 621), (1, .int (Int32.ofInt a0))]) (by decide +kernel) (by (try simp only [ev_sum, ev_nv_cat]); first | done | rfl) (by (try simp only [lv_args, ev_nv_cat]); first | done | rfl) ?_ x S' hJ
  unfold jm_283
  refine ev_r_sipush (pc := 0) (k := 320) (by decide +kernel) (by decide +kernel) ?_
  refine ev_r_iload_n (pc := 3) (k := 1) (v := Int32.ofInt a0) (by decide +kernel) (by rfl) ?_
  refine ev_r_imul (pc := 4) (by decide +kernel) ?_
  intro x1 hx1
  refine ev_r_istore_n (pc := 5) (k := 2) (by decide +kernel) (by decide +kernel) rfl ?_
  refine ev_r_aload_n (pc := 6) (k := 0) (v := .ref 621) trivial (by decide +kernel) (by exact (ev_l1 (by rfl) (by decide) (by decide))) ?_
  refine ev_r_getC (pc := 7) (y := 123) (ci := 13) (f := 51) (fin := 1) (k' := 659) (by decide +kernel) (by decide +kernel) (by exact ev_ob_621) rfl rfl ?_
  refine ev_r_iconst (pc := 10) (k := 0) (by decide +kernel) ?_
  refine ev_r_iconst (pc := 11) (k := -1) (by decide +kernel) ?_
  refine ev_r_iast (pc := 12) (by decide) (by decide) (by decide +kernel) (by exact ev_ab_659) ?_
  intro s2
  refine ev_r_iconst (pc := 13) (k := 0) (by decide +kernel) ?_
  refine ev_r_istore_n (pc := 14) (k := 3) (by decide +kernel) (by decide +kernel) rfl ?_
  exact jlt_283_15 d hd Q a0 ha0   Q x1 hx1 0 (by decide) s2 _ (by exact (ev_l1 (ev_l1 (by rfl) (by decide) (by decide)) (by decide) (by decide))) (by exact (ev_l1 (ev_lk_st1 (by rfl) (by decide) rfl) (by decide) (by decide))) (by exact (ev_lk_st1 ev_lk_st1_self (by decide) rfl)) (by exact ev_lk_st1_self)
/-- MendBenchModel.isShut(I)Z -/
def jm_284 (Q : Nat) (a0 : Int) (S : ev_St) : Option ((Int) × ev_St) := ev_if ((0 : Int) ≤ a0 ∧ a0 < (ev_aln 625 : Int)) (ev_b (S.1 625 (Int.toNat a0)) fun x1 => if x1 = 11 then (some (1, S)) else (ev_if ((0 : Int) ≤ a0 ∧ a0 < (ev_aln 625 : Int)) (ev_b (S.1 625 (Int.toNat a0)) fun x3 => if x3 = 12 then (some (1, S)) else (ev_if ((0 : Int) ≤ a0 ∧ a0 < (ev_aln 625 : Int)) (ev_b (S.1 625 (Int.toNat a0)) fun x5 => if x5 = 10 then (some (1, S)) else (ev_if ((0 : Int) ≤ a0 ∧ a0 < (ev_aln 630 : Int)) (ev_b (S.1 630 (Int.toNat a0)) fun x7 => if x7 ≠ 2 then (some (0, S)) else (some (1, S)))))))))
theorem jt_284 (d : Nat) (hd : 1 ≤ d) (Q : Nat) (a0 : Int) (ha0 : ev_rng a0) (S : ev_St) (x : Int) (S' : ev_St) (hJ : jm_284 Q a0 S = some (x, S')) : ev_Ref d 284 [.ref 621, .int (Int32.ofInt a0)] S (ev_eI x) S' (ev_bl x) := by
  obtain ⟨d, rfl⟩ : ∃ e, d = e + 1 := ⟨d - 1, by omega⟩
  refine ev_ref_of (P := ev_bl) (lv := [(0, .ref 621), (1, .int (Int32.ofInt a0))]) (by decide +kernel) (by (try simp only [ev_sum, ev_nv_cat]); first | done | rfl) (by (try simp only [lv_args, ev_nv_cat]); first | done | rfl) ?_ x S' hJ
  unfold jm_284
  refine ev_r_aload_n (pc := 0) (k := 0) (v := .ref 621) trivial (by decide +kernel) (by rfl) ?_
  refine ev_r_getC (pc := 1) (y := 19) (ci := 13) (f := 6) (fin := 1) (k' := 625) (by decide +kernel) (by decide +kernel) (by exact ev_ob_621) rfl rfl ?_
  refine ev_r_iload_n (pc := 4) (k := 1) (v := Int32.ofInt a0) (by decide +kernel) (by rfl) ?_
  refine ev_r_iald (pc := 5) ha0 (by decide +kernel) (by exact ev_ab_625) ?_
  intro x1 hx1
  refine ev_r_bipush (pc := 6) (k := 11) (by decide +kernel) (by decide +kernel) ?_
  refine ev_r_icmp (pc := 8) (q := .eq) (o := 35) (t := 43) (c := x1 = 11) (by decide +kernel) (ev_k_eq hx1 (by decide)) (by decide +kernel) ?_ ?_
  · intro c2
    refine ev_r_iconst (pc := 43) (k := 1) (by decide +kernel) ?_
    refine ev_r_goto (pc := 44) (o := 4) (t := 48) (by decide +kernel) (by decide +kernel) ?_
    exact ev_r_ireturn (pc := 48) (x := 1) (v := Int32.ofInt 1) (ty := .boolean) (by decide : ev_bl 1) (by decide +kernel) (by decide +kernel) (ev_ret_bl (by decide : ev_bl 1)) rfl
  · intro c2
    refine ev_r_aload_n (pc := 11) (k := 0) (v := .ref 621) trivial (by decide +kernel) (by rfl) ?_
    refine ev_r_getC (pc := 12) (y := 19) (ci := 13) (f := 6) (fin := 1) (k' := 625) (by decide +kernel) (by decide +kernel) (by exact ev_ob_621) rfl rfl ?_
    refine ev_r_iload_n (pc := 15) (k := 1) (v := Int32.ofInt a0) (by decide +kernel) (by rfl) ?_
    refine ev_r_iald (pc := 16) ha0 (by decide +kernel) (by exact ev_ab_625) ?_
    intro x3 hx3
    refine ev_r_bipush (pc := 17) (k := 12) (by decide +kernel) (by decide +kernel) ?_
    refine ev_r_icmp (pc := 19) (q := .eq) (o := 24) (t := 43) (c := x3 = 12) (by decide +kernel) (ev_k_eq hx3 (by decide)) (by decide +kernel) ?_ ?_
    · intro c4
      refine ev_r_iconst (pc := 43) (k := 1) (by decide +kernel) ?_
      refine ev_r_goto (pc := 44) (o := 4) (t := 48) (by decide +kernel) (by decide +kernel) ?_
      exact ev_r_ireturn (pc := 48) (x := 1) (v := Int32.ofInt 1) (ty := .boolean) (by decide : ev_bl 1) (by decide +kernel) (by decide +kernel) (ev_ret_bl (by decide : ev_bl 1)) rfl
    · intro c4
      refine ev_r_aload_n (pc := 22) (k := 0) (v := .ref 621) trivial (by decide +kernel) (by rfl) ?_
      refine ev_r_getC (pc := 23) (y := 19) (ci := 13) (f := 6) (fin := 1) (k' := 625) (by decide +kernel) (by decide +kernel) (by exact ev_ob_621) rfl rfl ?_
      refine ev_r_iload_n (pc := 26) (k := 1) (v := Int32.ofInt a0) (by decide +kernel) (by rfl) ?_
      refine ev_r_iald (pc := 27) ha0 (by decide +kernel) (by exact ev_ab_625) ?_
      intro x5 hx5
      refine ev_r_bipush (pc := 28) (k := 10) (by decide +kernel) (by decide +kernel) ?_
      refine ev_r_icmp (pc := 30) (q := .eq) (o := 13) (t := 43) (c := x5 = 10) (by decide +kernel) (ev_k_eq hx5 (by decide)) (by decide +kernel) ?_ ?_
      · intro c6
        refine ev_r_iconst (pc := 43) (k := 1) (by decide +kernel) ?_
        refine ev_r_goto (pc := 44) (o := 4) (t := 48) (by decide +kernel) (by decide +kernel) ?_
        exact ev_r_ireturn (pc := 48) (x := 1) (v := Int32.ofInt 1) (ty := .boolean) (by decide : ev_bl 1) (by decide +kernel) (by decide +kernel) (ev_ret_bl (by decide : ev_bl 1)) rfl
      · intro c6
        refine ev_r_aload_n (pc := 33) (k := 0) (v := .ref 621) trivial (by decide +kernel) (by rfl) ?_
        refine ev_r_getC (pc := 34) (y := 34) (ci := 13) (f := 11) (fin := 1) (k' := 630) (by decide +kernel) (by decide +kernel) (by exact ev_ob_621) rfl rfl ?_
        refine ev_r_iload_n (pc := 37) (k := 1) (v := Int32.ofInt a0) (by decide +kernel) (by rfl) ?_
        refine ev_r_iald (pc := 38) ha0 (by decide +kernel) (by exact ev_ab_630) ?_
        intro x7 hx7
        refine ev_r_iconst (pc := 39) (k := 2) (by decide +kernel) ?_
        refine ev_r_icmp (pc := 40) (q := .ne) (o := 7) (t := 47) (c := x7 ≠ 2) (by decide +kernel) (ev_k_ne hx7 (by decide)) (by decide +kernel) ?_ ?_
        · intro c8
          refine ev_r_iconst (pc := 47) (k := 0) (by decide +kernel) ?_
          exact ev_r_ireturn (pc := 48) (x := 0) (v := Int32.ofInt 0) (ty := .boolean) (by decide : ev_bl 0) (by decide +kernel) (by decide +kernel) (ev_ret_bl (by decide : ev_bl 0)) rfl
        · intro c8
          refine ev_r_iconst (pc := 43) (k := 1) (by decide +kernel) ?_
          refine ev_r_goto (pc := 44) (o := 4) (t := 48) (by decide +kernel) (by decide +kernel) ?_
          exact ev_r_ireturn (pc := 48) (x := 1) (v := Int32.ofInt 1) (ty := .boolean) (by decide : ev_bl 1) (by decide +kernel) (by decide +kernel) (ev_ret_bl (by decide : ev_bl 1)) rfl
def jb_286_10 (Q : Nat) (a0 : Int)  (K10 : Int → Int → ev_St → Option ((Int) × ev_St)) (x2 : Int) (x3 : Int) (s9 : ev_St) : Option ((Int) × ev_St) := if x3 = (-1) then (ev_if (ev_bl x2) (some (x2, s9))) else (ev_jn (fun (x12 : Int) (s17 : ev_St) => ev_if ((0 : Int) ≤ x3 ∧ x3 < (ev_aln 659 : Int)) (ev_b (s17.1 659 (Int.toNat x3)) fun x18 => K10 x12 x18 s17)) fun K40 => ev_jn (fun  (s23 : ev_St) => K40 0 s23) fun K39 => if x2 = 0 then (K39  s9) else (ev_ck (320 * a0) fun x25 => ev_ck (x25 + x3) fun x26 => ev_bd (jm_284 Q x26 s9) fun x28 s27 => if x28 ≠ 0 then (K39  s27) else (K40 1 s27)))
def jl_286_10 (Q : Nat) (a0 : Int)  : Nat → Int → Int → ev_St → Option ((Int) × ev_St)
  | 0 => fun _ _ _ => none
  | q + 1 => jb_286_10 Q a0  (jl_286_10 Q a0  q)
theorem jbt_286_10 (d : Nat) (hd : 2 ≤ d + 1) (Q : Nat) (a0 : Int) (ha0 : ev_rng a0)   (K10 : Int → Int → ev_St → Option ((Int) × ev_St)) (hK10 : ∀ (x2 : Int) (hx2 : ev_rng x2), ∀ (x3 : Int) (hx3 : ev_rng x3), ∀ (s9 : ev_St) (w4 : List (Nat × Value)), ev_lk w4 0 = some (.ref 621) → ev_lk w4 1 = some (.int (Int32.ofInt a0)) → ev_lk w4 3 = some (.int (Int32.ofInt x2)) → ev_lk w4 4 = some (.int (Int32.ofInt x3)) → ev_w none (ev_Mof 286) d 10 w4 [] s9 (K10 x2 x3 s9) ev_eI ev_bl) : ∀ (x2 : Int) (hx2 : ev_rng x2), ∀ (x3 : Int) (hx3 : ev_rng x3), ∀ (s9 : ev_St) (w4 : List (Nat × Value)), ev_lk w4 0 = some (.ref 621) → ev_lk w4 1 = some (.int (Int32.ofInt a0)) → ev_lk w4 3 = some (.int (Int32.ofInt x2)) → ev_lk w4 4 = some (.int (Int32.ofInt x3)) → ev_w none (ev_Mof 286) d 10 w4 [] s9 (jb_286_10 Q a0  K10 x2 x3 s9) ev_eI ev_bl := by
  intro x2 hx2 x3 hx3 s9 w4 e5 e6 e7 e8
  unfold jb_286_10
  refine ev_r_iload (pc := 10) (k := 4) (v := Int32.ofInt x3) (by decide +kernel) (by exact e8) ?_
  refine ev_r_iconst (pc := 12) (k := -1) (by decide +kernel) ?_
  refine ev_r_icmp (pc := 13) (q := .eq) (o := 40) (t := 53) (c := x3 = (-1)) (by decide +kernel) (ev_k_eq hx3 (by decide)) (by decide +kernel) ?_ ?_
  · intro c10
    refine ev_r_iload_n (pc := 53) (k := 3) (v := Int32.ofInt x2) (by decide +kernel) (by exact e7) ?_
    refine ev_r_chk ?_
    intro c11
    exact ev_r_ireturn (pc := 54) (x := x2) (v := Int32.ofInt x2) (ty := .boolean) c11 (by decide +kernel) (by decide +kernel) (ev_ret_bl c11) rfl
  · intro c10
    refine ev_r_iload_n (pc := 16) (k := 3) (v := Int32.ofInt x2) (by decide +kernel) (by exact e7) ?_
    refine ev_r_jn (Q := fun K => ∀ (x12 : Int) (hx12 : ev_rng x12), ∀ (s17 : ev_St) (w13 : List (Nat × Value)), ev_lk w13 0 = some (.ref 621) → ev_lk w13 1 = some (.int (Int32.ofInt a0)) → ev_lk w13 4 = some (.int (Int32.ofInt x3)) → ev_w none (ev_Mof 286) d 40 w13 [.int (Int32.ofInt x12)] s17 (K x12 s17) ev_eI ev_bl) ?_ ?_
    · intro x12 hx12 s17 w13 e14 e15 e16
      refine ev_r_istore_n (pc := 40) (k := 3) (by decide +kernel) (by decide +kernel) rfl ?_
      refine ev_r_aload_n (pc := 41) (k := 0) (v := .ref 621) trivial (by decide +kernel) (by exact (ev_l1 e14 (by decide) (by decide))) ?_
      refine ev_r_getC (pc := 42) (y := 123) (ci := 13) (f := 51) (fin := 1) (k' := 659) (by decide +kernel) (by decide +kernel) (by exact ev_ob_621) rfl rfl ?_
      refine ev_r_iload (pc := 45) (k := 4) (v := Int32.ofInt x3) (by decide +kernel) (by exact (ev_l1 e16 (by decide) (by decide))) ?_
      refine ev_r_iald (pc := 47) hx3 (by decide +kernel) (by exact ev_ab_659) ?_
      intro x18 hx18
      refine ev_r_istore (pc := 48) (k := 4) (by decide +kernel) (by decide +kernel) rfl ?_
      refine ev_r_goto (pc := 50) (o := (-40)) (t := 10) (by decide +kernel) (by decide +kernel) ?_
      exact hK10 x12 hx12 x18 hx18 s17 _ (by exact (ev_l1 (ev_l1 e14 (by decide) (by decide)) (by decide) (by decide))) (by exact (ev_l1 (ev_l1 e15 (by decide) (by decide)) (by decide) (by decide))) (by exact (ev_lk_st1 ev_lk_st1_self (by decide) rfl)) (by exact ev_lk_st1_self)
    · intro K40 hK40
      refine ev_r_jn (Q := fun K => ∀ (s23 : ev_St) (w19 : List (Nat × Value)), ev_lk w19 0 = some (.ref 621) → ev_lk w19 1 = some (.int (Int32.ofInt a0)) → ev_lk w19 4 = some (.int (Int32.ofInt x3)) → ev_w none (ev_Mof 286) d 39 w19 [] s23 (K  s23) ev_eI ev_bl) ?_ ?_
      · intro  s23 w19 e20 e21 e22
        refine ev_r_iconst (pc := 39) (k := 0) (by decide +kernel) ?_
        exact hK40 0 (by decide) s23 _ (by exact e20) (by exact e21) (by exact e22)
      · intro K39 hK39
        refine ev_r_if (pc := 17) (q := .eq) (o := 22) (t := 39) (c := x2 = 0) (by decide +kernel) (ev_k_eq hx2 ev_rng0) (by decide +kernel) ?_ ?_
        · intro c24
          exact hK39  s9 _ (by exact e5) (by exact e6) (by exact e8)
        · intro c24
          refine ev_r_aload_n (pc := 20) (k := 0) (v := .ref 621) trivial (by decide +kernel) (by exact e5) ?_
          refine ev_r_sipush (pc := 21) (k := 320) (by decide +kernel) (by decide +kernel) ?_
          refine ev_r_iload_n (pc := 24) (k := 1) (v := Int32.ofInt a0) (by decide +kernel) (by exact e6) ?_
          refine ev_r_imul (pc := 25) (by decide +kernel) ?_
          intro x25 hx25
          refine ev_r_iload (pc := 26) (k := 4) (v := Int32.ofInt x3) (by decide +kernel) (by exact e8) ?_
          refine ev_r_iadd (pc := 28) (by decide +kernel) ?_
          intro x26 hx26
          refine ev_r_virt (pc := 29) (y := 552) (mi := 284) (na := 1) (k := 621) (as := [.int (Int32.ofInt x26)]) (rest := []) (encc := ev_oI) (Q := ev_bl) (fun x S1 h => jt_284 d (by omega) Q x26 hx26 s9 x S1 h) (by exact ev_ob_621) (by decide +kernel) (by decide +kernel) (by decide +kernel) (by decide +kernel) rfl (by (try simp only [ev_sum, ev_nv_cat]); first | done | rfl) ?_
          intro x28 s27 hx28
          replace hx28 := ev_bl_rng hx28
          show ev_w _ _ _ _ _ [.int (Int32.ofInt x28)] _ _ _ _
          refine ev_r_if (pc := 32) (q := .ne) (o := 7) (t := 39) (c := x28 ≠ 0) (by decide +kernel) (ev_k_ne hx28 ev_rng0) (by decide +kernel) ?_ ?_
          · intro c29
            exact hK39  s27 _ (by exact e5) (by exact e6) (by exact e8)
          · intro c29
            refine ev_r_iconst (pc := 35) (k := 1) (by decide +kernel) ?_
            refine ev_r_goto (pc := 36) (o := 4) (t := 40) (by decide +kernel) (by decide +kernel) ?_
            exact hK40 1 (by decide) s27 _ (by exact e5) (by exact e6) (by exact e8)
theorem jlt_286_10 (d : Nat) (hd : 2 ≤ d + 1) (Q : Nat) (a0 : Int) (ha0 : ev_rng a0)   : ∀ q : Nat, ∀ (x2 : Int) (hx2 : ev_rng x2), ∀ (x3 : Int) (hx3 : ev_rng x3), ∀ (s9 : ev_St) (w4 : List (Nat × Value)), ev_lk w4 0 = some (.ref 621) → ev_lk w4 1 = some (.int (Int32.ofInt a0)) → ev_lk w4 3 = some (.int (Int32.ofInt x2)) → ev_lk w4 4 = some (.int (Int32.ofInt x3)) → ev_w none (ev_Mof 286) d 10 w4 [] s9 (jl_286_10 Q a0  q x2 x3 s9) ev_eI ev_bl := by
  intro q
  induction q with
  | zero =>
    intro x2 hx2 x3 hx3 s9 w4 e5 e6 e7 e8
    exact ev_w_none
  | succ q ih => exact jbt_286_10 d hd Q a0 ha0   _ ih
/-- MendBenchModel.isOpen(II)Z -/
def jm_286 (Q : Nat) (a0 : Int) (a1 : Int) (S : ev_St) : Option ((Int) × ev_St) := ev_if ((0 : Int) ≤ a1 ∧ a1 < (ev_aln 659 : Int)) (ev_b (S.1 659 (Int.toNat a1)) fun x1 => jl_286_10 Q a0  Q 1 x1 S)
theorem jt_286 (d : Nat) (hd : 2 ≤ d) (Q : Nat) (a0 : Int) (a1 : Int) (ha0 : ev_rng a0) (ha1 : ev_rng a1) (S : ev_St) (x : Int) (S' : ev_St) (hJ : jm_286 Q a0 a1 S = some (x, S')) : ev_Ref d 286 [.ref 621, .int (Int32.ofInt a0), .int (Int32.ofInt a1)] S (ev_eI x) S' (ev_bl x) := by
  obtain ⟨d, rfl⟩ : ∃ e, d = e + 1 := ⟨d - 1, by omega⟩
  refine ev_ref_of (P := ev_bl) (lv := [(0, .ref 621), (1, .int (Int32.ofInt a0)), (2, .int (Int32.ofInt a1))]) (by decide +kernel) (by (try simp only [ev_sum, ev_nv_cat]); first | done | rfl) (by (try simp only [lv_args, ev_nv_cat]); first | done | rfl) ?_ x S' hJ
  unfold jm_286
  refine ev_r_iconst (pc := 0) (k := 1) (by decide +kernel) ?_
  refine ev_r_istore_n (pc := 1) (k := 3) (by decide +kernel) (by decide +kernel) rfl ?_
  refine ev_r_aload_n (pc := 2) (k := 0) (v := .ref 621) trivial (by decide +kernel) (by exact (ev_l1 (by rfl) (by decide) (by decide))) ?_
  refine ev_r_getC (pc := 3) (y := 123) (ci := 13) (f := 51) (fin := 1) (k' := 659) (by decide +kernel) (by decide +kernel) (by exact ev_ob_621) rfl rfl ?_
  refine ev_r_iload_n (pc := 6) (k := 2) (v := Int32.ofInt a1) (by decide +kernel) (by exact (ev_lk_st1 (by rfl) (by decide) rfl)) ?_
  refine ev_r_iald (pc := 7) ha1 (by decide +kernel) (by exact ev_ab_659) ?_
  intro x1 hx1
  refine ev_r_istore (pc := 8) (k := 4) (by decide +kernel) (by decide +kernel) rfl ?_
  exact jlt_286_10 d hd Q a0 ha0   Q 1 (by decide) x1 hx1 S _ (by exact (ev_l1 (ev_l1 (by rfl) (by decide) (by decide)) (by decide) (by decide))) (by exact (ev_l1 (ev_l1 (by rfl) (by decide) (by decide)) (by decide) (by decide))) (by exact (ev_lk_st1 ev_lk_st1_self (by decide) rfl)) (by exact ev_lk_st1_self)
def jb_285_97 (Q : Nat) (a0 : Int) (x5 : Int) (x14 : Int) (x15 : Int) (x31 : Int) (K252 : Int → Int → Int → ev_St → Option ((Int) × ev_St)) (K97 : Int → Int → ev_St → Option ((Int) × ev_St)) (x117 : Int) (x118 : Int) (s128 : ev_St) : Option ((Int) × ev_St) := if x118 = (-1) then (K252 x117 x14 x31 s128) else (ev_jn (fun (x130 : Int) (s139 : ev_St) => ev_ck (x5 + x118) fun x140 => ev_if ((0 : Int) ≤ x140 ∧ x140 < (ev_aln 627 : Int)) (ev_b (s139.1 627 (Int.toNat x140)) fun x141 => K97 x130 x141 s139)) fun K132 => ev_jn (fun  (s150 : ev_St) => K132 0 s150) fun K131 => if x117 = 0 then (K131  s128) else (ev_jn (fun  (s160 : ev_St) => K132 1 s160) fun K127 => if x118 = x15 then (K127  s128) else (ev_ck (x5 + x118) fun x162 => ev_if ((0 : Int) ≤ x162 ∧ x162 < (ev_aln 641 : Int)) (ev_b (s128.1 641 (Int.toNat x162)) fun x163 => if x163 ≠ 0 then (K131  s128) else (K127  s128)))))
def jl_285_97 (Q : Nat) (a0 : Int) (x5 : Int) (x14 : Int) (x15 : Int) (x31 : Int) (K252 : Int → Int → Int → ev_St → Option ((Int) × ev_St)) : Nat → Int → Int → ev_St → Option ((Int) × ev_St)
  | 0 => fun _ _ _ => none
  | q + 1 => jb_285_97 Q a0 x5 x14 x15 x31 K252 (jl_285_97 Q a0 x5 x14 x15 x31 K252 q)
theorem jbt_285_97 (d : Nat) (hd : 3 ≤ d + 1) (Q : Nat) (a0 : Int) (x5 : Int) (x14 : Int) (x15 : Int) (x31 : Int) (ha0 : ev_rng a0) (hx5 : ev_rng x5) (hx14 : ev_rng x14) (hx15 : ev_rng x15) (hx31 : ev_rng x31) (K252 : Int → Int → Int → ev_St → Option ((Int) × ev_St)) (hK252 : ∀ (x34 : Int) (hx34 : ev_rng x34), ∀ (x35 : Int) (hx35 : ev_rng x35), ∀ (x36 : Int) (hx36 : ev_rng x36), ∀ (s44 : ev_St) (w37 : List (Nat × Value)), ev_lk w37 0 = some (.ref 621) → ev_lk w37 1 = some (.int (Int32.ofInt a0)) → ev_lk w37 3 = some (.int (Int32.ofInt x5)) → ev_lk w37 4 = some (.int (Int32.ofInt x34)) → ev_lk w37 5 = some (.int (Int32.ofInt x35)) → ev_lk w37 7 = some (.int (Int32.ofInt x36)) → ev_w none (ev_Mof 285) d 252 w37 [] s44 (K252 x34 x35 x36 s44) ev_eI ev_bl) (K97 : Int → Int → ev_St → Option ((Int) × ev_St)) (hK97 : ∀ (x117 : Int) (hx117 : ev_rng x117), ∀ (x118 : Int) (hx118 : ev_rng x118), ∀ (s128 : ev_St) (w119 : List (Nat × Value)), ev_lk w119 0 = some (.ref 621) → ev_lk w119 1 = some (.int (Int32.ofInt a0)) → ev_lk w119 3 = some (.int (Int32.ofInt x5)) → ev_lk w119 4 = some (.int (Int32.ofInt x117)) → ev_lk w119 5 = some (.int (Int32.ofInt x14)) → ev_lk w119 6 = some (.int (Int32.ofInt x15)) → ev_lk w119 7 = some (.int (Int32.ofInt x31)) → ev_lk w119 9 = some (.int (Int32.ofInt x118)) → ev_w none (ev_Mof 285) d 97 w119 [] s128 (K97 x117 x118 s128) ev_eI ev_bl) : ∀ (x117 : Int) (hx117 : ev_rng x117), ∀ (x118 : Int) (hx118 : ev_rng x118), ∀ (s128 : ev_St) (w119 : List (Nat × Value)), ev_lk w119 0 = some (.ref 621) → ev_lk w119 1 = some (.int (Int32.ofInt a0)) → ev_lk w119 3 = some (.int (Int32.ofInt x5)) → ev_lk w119 4 = some (.int (Int32.ofInt x117)) → ev_lk w119 5 = some (.int (Int32.ofInt x14)) → ev_lk w119 6 = some (.int (Int32.ofInt x15)) → ev_lk w119 7 = some (.int (Int32.ofInt x31)) → ev_lk w119 9 = some (.int (Int32.ofInt x118)) → ev_w none (ev_Mof 285) d 97 w119 [] s128 (jb_285_97 Q a0 x5 x14 x15 x31 K252 K97 x117 x118 s128) ev_eI ev_bl := by
  intro x117 hx117 x118 hx118 s128 w119 e120 e121 e122 e123 e124 e125 e126 e127
  unfold jb_285_97
  refine ev_r_iload (pc := 97) (k := 9) (v := Int32.ofInt x118) (by decide +kernel) (by exact e127) ?_
  refine ev_r_iconst (pc := 99) (k := -1) (by decide +kernel) ?_
  refine ev_r_icmp (pc := 100) (q := .eq) (o := 48) (t := 148) (c := x118 = (-1)) (by decide +kernel) (ev_k_eq hx118 (by decide)) (by decide +kernel) ?_ ?_
  · intro c129
    refine ev_r_goto (pc := 148) (o := 104) (t := 252) (by decide +kernel) (by decide +kernel) ?_
    exact hK252 x117 hx117 x14 hx14 x31 hx31 s128 _ (by exact e120) (by exact e121) (by exact e122) (by exact e123) (by exact e124) (by exact e126)
  · intro c129
    refine ev_r_iload (pc := 103) (k := 4) (v := Int32.ofInt x117) (by decide +kernel) (by exact e123) ?_
    refine ev_r_jn (Q := fun K => ∀ (x130 : Int) (hx130 : ev_rng x130), ∀ (s139 : ev_St) (w131 : List (Nat × Value)), ev_lk w131 0 = some (.ref 621) → ev_lk w131 1 = some (.int (Int32.ofInt a0)) → ev_lk w131 3 = some (.int (Int32.ofInt x5)) → ev_lk w131 5 = some (.int (Int32.ofInt x14)) → ev_lk w131 6 = some (.int (Int32.ofInt x15)) → ev_lk w131 7 = some (.int (Int32.ofInt x31)) → ev_lk w131 9 = some (.int (Int32.ofInt x118)) → ev_w none (ev_Mof 285) d 132 w131 [.int (Int32.ofInt x130)] s139 (K x130 s139) ev_eI ev_bl) ?_ ?_
    · intro x130 hx130 s139 w131 e132 e133 e134 e135 e136 e137 e138
      refine ev_r_istore (pc := 132) (k := 4) (by decide +kernel) (by decide +kernel) rfl ?_
      refine ev_r_aload_n (pc := 134) (k := 0) (v := .ref 621) trivial (by decide +kernel) (by exact (ev_l1 e132 (by decide) (by decide))) ?_
      refine ev_r_getC (pc := 135) (y := 25) (ci := 13) (f := 8) (fin := 1) (k' := 627) (by decide +kernel) (by decide +kernel) (by exact ev_ob_621) rfl rfl ?_
      refine ev_r_iload_n (pc := 138) (k := 3) (v := Int32.ofInt x5) (by decide +kernel) (by exact (ev_lk_st1 e134 (by decide) rfl)) ?_
      refine ev_r_iload (pc := 139) (k := 9) (v := Int32.ofInt x118) (by decide +kernel) (by exact (ev_l1 e138 (by decide) (by decide))) ?_
      refine ev_r_iadd (pc := 141) (by decide +kernel) ?_
      intro x140 hx140
      refine ev_r_iald (pc := 142) hx140 (by decide +kernel) (by exact ev_ab_627) ?_
      intro x141 hx141
      refine ev_r_istore (pc := 143) (k := 9) (by decide +kernel) (by decide +kernel) rfl ?_
      refine ev_r_goto (pc := 145) (o := (-48)) (t := 97) (by decide +kernel) (by decide +kernel) ?_
      exact hK97 x130 hx130 x141 hx141 s139 _ (by exact (ev_l1 (ev_l1 e132 (by decide) (by decide)) (by decide) (by decide))) (by exact (ev_l1 (ev_l1 e133 (by decide) (by decide)) (by decide) (by decide))) (by exact (ev_l1 (ev_lk_st1 e134 (by decide) rfl) (by decide) (by decide))) (by exact (ev_l1 ev_lk_st1_self (by decide) (by decide))) (by exact (ev_l1 (ev_l1 e135 (by decide) (by decide)) (by decide) (by decide))) (by exact (ev_l1 (ev_l1 e136 (by decide) (by decide)) (by decide) (by decide))) (by exact (ev_l1 (ev_l1 e137 (by decide) (by decide)) (by decide) (by decide))) (by exact ev_lk_st1_self)
    · intro K132 hK132
      refine ev_r_jn (Q := fun K => ∀ (s150 : ev_St) (w142 : List (Nat × Value)), ev_lk w142 0 = some (.ref 621) → ev_lk w142 1 = some (.int (Int32.ofInt a0)) → ev_lk w142 3 = some (.int (Int32.ofInt x5)) → ev_lk w142 5 = some (.int (Int32.ofInt x14)) → ev_lk w142 6 = some (.int (Int32.ofInt x15)) → ev_lk w142 7 = some (.int (Int32.ofInt x31)) → ev_lk w142 9 = some (.int (Int32.ofInt x118)) → ev_w none (ev_Mof 285) d 131 w142 [] s150 (K  s150) ev_eI ev_bl) ?_ ?_
      · intro  s150 w142 e143 e144 e145 e146 e147 e148 e149
        refine ev_r_iconst (pc := 131) (k := 0) (by decide +kernel) ?_
        exact hK132 0 (by decide) s150 _ (by exact e143) (by exact e144) (by exact e145) (by exact e146) (by exact e147) (by exact e148) (by exact e149)
      · intro K131 hK131
        refine ev_r_if (pc := 105) (q := .eq) (o := 26) (t := 131) (c := x117 = 0) (by decide +kernel) (ev_k_eq hx117 ev_rng0) (by decide +kernel) ?_ ?_
        · intro c151
          exact hK131  s128 _ (by exact e120) (by exact e121) (by exact e122) (by exact e124) (by exact e125) (by exact e126) (by exact e127)
        · intro c151
          refine ev_r_iload (pc := 108) (k := 9) (v := Int32.ofInt x118) (by decide +kernel) (by exact e127) ?_
          refine ev_r_iload (pc := 110) (k := 6) (v := Int32.ofInt x15) (by decide +kernel) (by exact e125) ?_
          refine ev_r_jn (Q := fun K => ∀ (s160 : ev_St) (w152 : List (Nat × Value)), ev_lk w152 0 = some (.ref 621) → ev_lk w152 1 = some (.int (Int32.ofInt a0)) → ev_lk w152 3 = some (.int (Int32.ofInt x5)) → ev_lk w152 5 = some (.int (Int32.ofInt x14)) → ev_lk w152 6 = some (.int (Int32.ofInt x15)) → ev_lk w152 7 = some (.int (Int32.ofInt x31)) → ev_lk w152 9 = some (.int (Int32.ofInt x118)) → ev_w none (ev_Mof 285) d 127 w152 [] s160 (K  s160) ev_eI ev_bl) ?_ ?_
          · intro  s160 w152 e153 e154 e155 e156 e157 e158 e159
            refine ev_r_iconst (pc := 127) (k := 1) (by decide +kernel) ?_
            refine ev_r_goto (pc := 128) (o := 4) (t := 132) (by decide +kernel) (by decide +kernel) ?_
            exact hK132 1 (by decide) s160 _ (by exact e153) (by exact e154) (by exact e155) (by exact e156) (by exact e157) (by exact e158) (by exact e159)
          · intro K127 hK127
            refine ev_r_icmp (pc := 112) (q := .eq) (o := 15) (t := 127) (c := x118 = x15) (by decide +kernel) (ev_k_eq hx118 hx15) (by decide +kernel) ?_ ?_
            · intro c161
              exact hK127  s128 _ (by exact e120) (by exact e121) (by exact e122) (by exact e124) (by exact e125) (by exact e126) (by exact e127)
            · intro c161
              refine ev_r_aload_n (pc := 115) (k := 0) (v := .ref 621) trivial (by decide +kernel) (by exact e120) ?_
              refine ev_r_getC (pc := 116) (y := 68) (ci := 13) (f := 22) (fin := 1) (k' := 641) (by decide +kernel) (by decide +kernel) (by exact ev_ob_621) rfl rfl ?_
              refine ev_r_iload_n (pc := 119) (k := 3) (v := Int32.ofInt x5) (by decide +kernel) (by exact e122) ?_
              refine ev_r_iload (pc := 120) (k := 9) (v := Int32.ofInt x118) (by decide +kernel) (by exact e127) ?_
              refine ev_r_iadd (pc := 122) (by decide +kernel) ?_
              intro x162 hx162
              refine ev_r_iald (pc := 123) hx162 (by decide +kernel) (by exact ev_ab_641) ?_
              intro x163 hx163
              refine ev_r_if (pc := 124) (q := .ne) (o := 7) (t := 131) (c := x163 ≠ 0) (by decide +kernel) (ev_k_ne hx163 ev_rng0) (by decide +kernel) ?_ ?_
              · intro c164
                exact hK131  s128 _ (by exact e120) (by exact e121) (by exact e122) (by exact e124) (by exact e125) (by exact e126) (by exact e127)
              · intro c164
                exact hK127  s128 _ (by exact e120) (by exact e121) (by exact e122) (by exact e124) (by exact e125) (by exact e126) (by exact e127)
theorem jlt_285_97 (d : Nat) (hd : 3 ≤ d + 1) (Q : Nat) (a0 : Int) (x5 : Int) (x14 : Int) (x15 : Int) (x31 : Int) (ha0 : ev_rng a0) (hx5 : ev_rng x5) (hx14 : ev_rng x14) (hx15 : ev_rng x15) (hx31 : ev_rng x31) (K252 : Int → Int → Int → ev_St → Option ((Int) × ev_St)) (hK252 : ∀ (x34 : Int) (hx34 : ev_rng x34), ∀ (x35 : Int) (hx35 : ev_rng x35), ∀ (x36 : Int) (hx36 : ev_rng x36), ∀ (s44 : ev_St) (w37 : List (Nat × Value)), ev_lk w37 0 = some (.ref 621) → ev_lk w37 1 = some (.int (Int32.ofInt a0)) → ev_lk w37 3 = some (.int (Int32.ofInt x5)) → ev_lk w37 4 = some (.int (Int32.ofInt x34)) → ev_lk w37 5 = some (.int (Int32.ofInt x35)) → ev_lk w37 7 = some (.int (Int32.ofInt x36)) → ev_w none (ev_Mof 285) d 252 w37 [] s44 (K252 x34 x35 x36 s44) ev_eI ev_bl) : ∀ q : Nat, ∀ (x117 : Int) (hx117 : ev_rng x117), ∀ (x118 : Int) (hx118 : ev_rng x118), ∀ (s128 : ev_St) (w119 : List (Nat × Value)), ev_lk w119 0 = some (.ref 621) → ev_lk w119 1 = some (.int (Int32.ofInt a0)) → ev_lk w119 3 = some (.int (Int32.ofInt x5)) → ev_lk w119 4 = some (.int (Int32.ofInt x117)) → ev_lk w119 5 = some (.int (Int32.ofInt x14)) → ev_lk w119 6 = some (.int (Int32.ofInt x15)) → ev_lk w119 7 = some (.int (Int32.ofInt x31)) → ev_lk w119 9 = some (.int (Int32.ofInt x118)) → ev_w none (ev_Mof 285) d 97 w119 [] s128 (jl_285_97 Q a0 x5 x14 x15 x31 K252 q x117 x118 s128) ev_eI ev_bl := by
  intro q
  induction q with
  | zero =>
    intro x117 hx117 x118 hx118 s128 w119 e120 e121 e122 e123 e124 e125 e126 e127
    exact ev_w_none
  | succ q ih => exact jbt_285_97 d hd Q a0 x5 x14 x15 x31 ha0 hx5 hx14 hx15 hx31 K252 hK252 _ ih
def jb_285_40 (Q : Nat) (a0 : Int) (x5 : Int)  (K40 : Int → Int → Int → ev_St → Option ((Int) × ev_St)) (x13 : Int) (x14 : Int) (x15 : Int) (s23 : ev_St) : Option ((Int) × ev_St) := if x13 = 0 then (ev_if (ev_bl x14) (some (x14, s23))) else (if x14 ≠ 0 then (ev_if (ev_bl x14) (some (x14, s23))) else (ev_if ((0 : Int) ≤ x15 ∧ x15 < (ev_aln 659 : Int)) (ev_b (s23.1 659 (Int.toNat x15)) fun x28 => if x28 = (-1) then (ev_if (ev_bl x14) (some (x14, s23))) else (ev_if ((0 : Int) ≤ x15 ∧ x15 < (ev_aln 659 : Int)) (ev_b (s23.1 659 (Int.toNat x15)) fun x31 => ev_ck (x5 + x31) fun x32 => ev_if ((0 : Int) ≤ x32 ∧ x32 < (ev_aln 625 : Int)) (ev_b (s23.1 625 (Int.toNat x32)) fun x33 => ev_jn (fun (x34 : Int) (x35 : Int) (x36 : Int) (s44 : ev_St) => K40 x34 x35 x36 s44) fun K252 => if x33 ≠ 18 then (ev_bd (jm_284 Q x32 s23) fun x47 s46 => ev_jn (fun (x48 : Int) (s55 : ev_St) => ev_jn (fun (x56 : Int) (x57 : Int) (s65 : ev_St) => ev_jn (fun (x66 : Int) (x67 : Int) (s74 : ev_St) => K252 x67 x66 x31 s74) fun K250 => ev_jn (fun (x75 : Int) (s82 : ev_St) => K250 x75 0 s82) fun K249 => if x56 = 0 then (K249 x57 s65) else (ev_if ((0 : Int) ≤ x32 ∧ x32 < (ev_aln 630 : Int)) (ev_b (s65.1 630 (Int.toNat x32)) fun x84 => ev_jn (fun  (s91 : ev_St) => K250 x57 1 s91) fun K245 => if x84 = (-1) then (K245  s65) else (ev_if ((0 : Int) ≤ x32 ∧ x32 < (ev_aln 632 : Int)) (ev_b (s65.1 632 (Int.toNat x32)) fun x93 => if x93 = 0 then (K249 x57 s65) else (ev_if ((0 : Int) ≤ x32 ∧ x32 < (ev_aln 631 : Int)) (ev_b (s65.1 631 (Int.toNat x32)) fun x95 => if x95 < 2 then (K245  s65) else (ev_if ((0 : Int) ≤ x32 ∧ x32 < (ev_aln 640 : Int)) (ev_b (s65.1 640 (Int.toNat x32)) fun x97 => if x97 ≠ 0 then (K249 x57 s65) else (K245  s65)))))))))) fun K196 => ev_jn (fun (x99 : Int) (s107 : ev_St) => K196 x99 0 s107) fun K195 => if x48 = 0 then (K195 x48 s55) else (ev_bd (jm_282 Q x32 s55) fun x110 s109 => if x110 = 0 then (K195 x48 s109) else (ev_bd (jm_286 Q a0 x31 s109) fun x113 s112 => if x113 = 0 then (K195 x48 s112) else (K196 x48 1 s112)))) fun K165 => if x47 ≠ 0 then (K165 0 s46) else (K165 1 s46)) else (ev_if ((0 : Int) ≤ x32 ∧ x32 < (ev_aln 626 : Int)) (ev_b (s23.1 626 (Int.toNat x32)) fun x116 => jl_285_97 Q a0 x5 x14 x15 x31 K252 Q x13 x116 s23))))))))
def jl_285_40 (Q : Nat) (a0 : Int) (x5 : Int)  : Nat → Int → Int → Int → ev_St → Option ((Int) × ev_St)
  | 0 => fun _ _ _ _ => none
  | q + 1 => jb_285_40 Q a0 x5  (jl_285_40 Q a0 x5  q)
theorem jbt_285_40 (d : Nat) (hd : 3 ≤ d + 1) (Q : Nat) (a0 : Int) (x5 : Int) (ha0 : ev_rng a0) (hx5 : ev_rng x5)   (K40 : Int → Int → Int → ev_St → Option ((Int) × ev_St)) (hK40 : ∀ (x13 : Int) (hx13 : ev_rng x13), ∀ (x14 : Int) (hx14 : ev_rng x14), ∀ (x15 : Int) (hx15 : ev_rng x15), ∀ (s23 : ev_St) (w16 : List (Nat × Value)), ev_lk w16 0 = some (.ref 621) → ev_lk w16 1 = some (.int (Int32.ofInt a0)) → ev_lk w16 3 = some (.int (Int32.ofInt x5)) → ev_lk w16 4 = some (.int (Int32.ofInt x13)) → ev_lk w16 5 = some (.int (Int32.ofInt x14)) → ev_lk w16 6 = some (.int (Int32.ofInt x15)) → ev_w none (ev_Mof 285) d 40 w16 [] s23 (K40 x13 x14 x15 s23) ev_eI ev_bl) : ∀ (x13 : Int) (hx13 : ev_rng x13), ∀ (x14 : Int) (hx14 : ev_rng x14), ∀ (x15 : Int) (hx15 : ev_rng x15), ∀ (s23 : ev_St) (w16 : List (Nat × Value)), ev_lk w16 0 = some (.ref 621) → ev_lk w16 1 = some (.int (Int32.ofInt a0)) → ev_lk w16 3 = some (.int (Int32.ofInt x5)) → ev_lk w16 4 = some (.int (Int32.ofInt x13)) → ev_lk w16 5 = some (.int (Int32.ofInt x14)) → ev_lk w16 6 = some (.int (Int32.ofInt x15)) → ev_w none (ev_Mof 285) d 40 w16 [] s23 (jb_285_40 Q a0 x5  K40 x13 x14 x15 s23) ev_eI ev_bl := by
  intro x13 hx13 x14 hx14 x15 hx15 s23 w16 e17 e18 e19 e20 e21 e22
  unfold jb_285_40
  refine ev_r_iload (pc := 40) (k := 4) (v := Int32.ofInt x13) (by decide +kernel) (by exact e20) ?_
  refine ev_r_if (pc := 42) (q := .eq) (o := 217) (t := 259) (c := x13 = 0) (by decide +kernel) (ev_k_eq hx13 ev_rng0) (by decide +kernel) ?_ ?_
  · intro c24
    refine ev_r_iload (pc := 259) (k := 5) (v := Int32.ofInt x14) (by decide +kernel) (by exact e21) ?_
    refine ev_r_chk ?_
    intro c25
    exact ev_r_ireturn (pc := 261) (x := x14) (v := Int32.ofInt x14) (ty := .boolean) c25 (by decide +kernel) (by decide +kernel) (ev_ret_bl c25) rfl
  · intro c24
    refine ev_r_iload (pc := 45) (k := 5) (v := Int32.ofInt x14) (by decide +kernel) (by exact e21) ?_
    refine ev_r_if (pc := 47) (q := .ne) (o := 212) (t := 259) (c := x14 ≠ 0) (by decide +kernel) (ev_k_ne hx14 ev_rng0) (by decide +kernel) ?_ ?_
    · intro c26
      refine ev_r_iload (pc := 259) (k := 5) (v := Int32.ofInt x14) (by decide +kernel) (by exact e21) ?_
      refine ev_r_chk ?_
      intro c27
      exact ev_r_ireturn (pc := 261) (x := x14) (v := Int32.ofInt x14) (ty := .boolean) c27 (by decide +kernel) (by decide +kernel) (ev_ret_bl c27) rfl
    · intro c26
      refine ev_r_aload_n (pc := 50) (k := 0) (v := .ref 621) trivial (by decide +kernel) (by exact e17) ?_
      refine ev_r_getC (pc := 51) (y := 123) (ci := 13) (f := 51) (fin := 1) (k' := 659) (by decide +kernel) (by decide +kernel) (by exact ev_ob_621) rfl rfl ?_
      refine ev_r_iload (pc := 54) (k := 6) (v := Int32.ofInt x15) (by decide +kernel) (by exact e22) ?_
      refine ev_r_iald (pc := 56) hx15 (by decide +kernel) (by exact ev_ab_659) ?_
      intro x28 hx28
      refine ev_r_iconst (pc := 57) (k := -1) (by decide +kernel) ?_
      refine ev_r_icmp (pc := 58) (q := .eq) (o := 201) (t := 259) (c := x28 = (-1)) (by decide +kernel) (ev_k_eq hx28 (by decide)) (by decide +kernel) ?_ ?_
      · intro c29
        refine ev_r_iload (pc := 259) (k := 5) (v := Int32.ofInt x14) (by decide +kernel) (by exact e21) ?_
        refine ev_r_chk ?_
        intro c30
        exact ev_r_ireturn (pc := 261) (x := x14) (v := Int32.ofInt x14) (ty := .boolean) c30 (by decide +kernel) (by decide +kernel) (ev_ret_bl c30) rfl
      · intro c29
        refine ev_r_aload_n (pc := 61) (k := 0) (v := .ref 621) trivial (by decide +kernel) (by exact e17) ?_
        refine ev_r_getC (pc := 62) (y := 123) (ci := 13) (f := 51) (fin := 1) (k' := 659) (by decide +kernel) (by decide +kernel) (by exact ev_ob_621) rfl rfl ?_
        refine ev_r_iload (pc := 65) (k := 6) (v := Int32.ofInt x15) (by decide +kernel) (by exact e22) ?_
        refine ev_r_iald (pc := 67) hx15 (by decide +kernel) (by exact ev_ab_659) ?_
        intro x31 hx31
        refine ev_r_istore (pc := 68) (k := 7) (by decide +kernel) (by decide +kernel) rfl ?_
        refine ev_r_iload_n (pc := 70) (k := 3) (v := Int32.ofInt x5) (by decide +kernel) (by exact (ev_l1 e19 (by decide) (by decide))) ?_
        refine ev_r_iload (pc := 71) (k := 7) (v := Int32.ofInt x31) (by decide +kernel) (by exact ev_lk_st1_self) ?_
        refine ev_r_iadd (pc := 73) (by decide +kernel) ?_
        intro x32 hx32
        refine ev_r_istore (pc := 74) (k := 8) (by decide +kernel) (by decide +kernel) rfl ?_
        refine ev_r_aload_n (pc := 76) (k := 0) (v := .ref 621) trivial (by decide +kernel) (by exact (ev_l1 (ev_l1 e17 (by decide) (by decide)) (by decide) (by decide))) ?_
        refine ev_r_getC (pc := 77) (y := 19) (ci := 13) (f := 6) (fin := 1) (k' := 625) (by decide +kernel) (by decide +kernel) (by exact ev_ob_621) rfl rfl ?_
        refine ev_r_iload (pc := 80) (k := 8) (v := Int32.ofInt x32) (by decide +kernel) (by exact ev_lk_st1_self) ?_
        refine ev_r_iald (pc := 82) hx32 (by decide +kernel) (by exact ev_ab_625) ?_
        intro x33 hx33
        refine ev_r_bipush (pc := 83) (k := 18) (by decide +kernel) (by decide +kernel) ?_
        refine ev_r_jn (Q := fun K => ∀ (x34 : Int) (hx34 : ev_rng x34), ∀ (x35 : Int) (hx35 : ev_rng x35), ∀ (x36 : Int) (hx36 : ev_rng x36), ∀ (s44 : ev_St) (w37 : List (Nat × Value)), ev_lk w37 0 = some (.ref 621) → ev_lk w37 1 = some (.int (Int32.ofInt a0)) → ev_lk w37 3 = some (.int (Int32.ofInt x5)) → ev_lk w37 4 = some (.int (Int32.ofInt x34)) → ev_lk w37 5 = some (.int (Int32.ofInt x35)) → ev_lk w37 7 = some (.int (Int32.ofInt x36)) → ev_w none (ev_Mof 285) d 252 w37 [] s44 (K x34 x35 x36 s44) ev_eI ev_bl) ?_ ?_
        · intro x34 hx34 x35 hx35 x36 hx36 s44 w37 e38 e39 e40 e41 e42 e43
          refine ev_r_iload (pc := 252) (k := 7) (v := Int32.ofInt x36) (by decide +kernel) (by exact e43) ?_
          refine ev_r_istore (pc := 254) (k := 6) (by decide +kernel) (by decide +kernel) rfl ?_
          refine ev_r_goto (pc := 256) (o := (-216)) (t := 40) (by decide +kernel) (by decide +kernel) ?_
          exact hK40 x34 hx34 x35 hx35 x36 hx36 s44 _ (by exact (ev_l1 e38 (by decide) (by decide))) (by exact (ev_l1 e39 (by decide) (by decide))) (by exact (ev_l1 e40 (by decide) (by decide))) (by exact (ev_l1 e41 (by decide) (by decide))) (by exact (ev_lk_st1 e42 (by decide) rfl)) (by exact ev_lk_st1_self)
        · intro K252 hK252
          refine ev_r_icmp (pc := 85) (q := .ne) (o := 66) (t := 151) (c := x33 ≠ 18) (by decide +kernel) (ev_k_ne hx33 (by decide)) (by decide +kernel) ?_ ?_
          · intro c45
            refine ev_r_aload_n (pc := 151) (k := 0) (v := .ref 621) trivial (by decide +kernel) (by exact (ev_l1 (ev_l1 e17 (by decide) (by decide)) (by decide) (by decide))) ?_
            refine ev_r_iload (pc := 152) (k := 8) (v := Int32.ofInt x32) (by decide +kernel) (by exact ev_lk_st1_self) ?_
            refine ev_r_virt (pc := 154) (y := 552) (mi := 284) (na := 1) (k := 621) (as := [.int (Int32.ofInt x32)]) (rest := []) (encc := ev_oI) (Q := ev_bl) (fun x S1 h => jt_284 d (by omega) Q x32 hx32 s23 x S1 h) (by exact ev_ob_621) (by decide +kernel) (by decide +kernel) (by decide +kernel) (by decide +kernel) rfl (by (try simp only [ev_sum, ev_nv_cat]); first | done | rfl) ?_
            intro x47 s46 hx47
            replace hx47 := ev_bl_rng hx47
            show ev_w _ _ _ _ _ [.int (Int32.ofInt x47)] _ _ _ _
            refine ev_r_jn (Q := fun K => ∀ (x48 : Int) (hx48 : ev_rng x48), ∀ (s55 : ev_St) (w49 : List (Nat × Value)), ev_lk w49 0 = some (.ref 621) → ev_lk w49 1 = some (.int (Int32.ofInt a0)) → ev_lk w49 3 = some (.int (Int32.ofInt x5)) → ev_lk w49 7 = some (.int (Int32.ofInt x31)) → ev_lk w49 8 = some (.int (Int32.ofInt x32)) → ev_w none (ev_Mof 285) d 165 w49 [.int (Int32.ofInt x48)] s55 (K x48 s55) ev_eI ev_bl) ?_ ?_
            · intro x48 hx48 s55 w49 e50 e51 e52 e53 e54
              refine ev_r_istore (pc := 165) (k := 4) (by decide +kernel) (by decide +kernel) rfl ?_
              refine ev_r_iload (pc := 167) (k := 4) (v := Int32.ofInt x48) (by decide +kernel) (by exact ev_lk_st1_self) ?_
              refine ev_r_jn (Q := fun K => ∀ (x56 : Int) (hx56 : ev_rng x56), ∀ (x57 : Int) (hx57 : ev_rng x57), ∀ (s65 : ev_St) (w58 : List (Nat × Value)), ev_lk w58 0 = some (.ref 621) → ev_lk w58 1 = some (.int (Int32.ofInt a0)) → ev_lk w58 3 = some (.int (Int32.ofInt x5)) → ev_lk w58 4 = some (.int (Int32.ofInt x56)) → ev_lk w58 7 = some (.int (Int32.ofInt x31)) → ev_lk w58 8 = some (.int (Int32.ofInt x32)) → ev_w none (ev_Mof 285) d 196 w58 [.int (Int32.ofInt x57)] s65 (K x56 x57 s65) ev_eI ev_bl) ?_ ?_
              · intro x56 hx56 x57 hx57 s65 w58 e59 e60 e61 e62 e63 e64
                refine ev_r_istore (pc := 196) (k := 5) (by decide +kernel) (by decide +kernel) rfl ?_
                refine ev_r_iload (pc := 198) (k := 4) (v := Int32.ofInt x56) (by decide +kernel) (by exact (ev_lk_st1 e62 (by decide) rfl)) ?_
                refine ev_r_jn (Q := fun K => ∀ (x66 : Int) (hx66 : ev_rng x66), ∀ (x67 : Int) (hx67 : ev_rng x67), ∀ (s74 : ev_St) (w68 : List (Nat × Value)), ev_lk w68 0 = some (.ref 621) → ev_lk w68 1 = some (.int (Int32.ofInt a0)) → ev_lk w68 3 = some (.int (Int32.ofInt x5)) → ev_lk w68 5 = some (.int (Int32.ofInt x66)) → ev_lk w68 7 = some (.int (Int32.ofInt x31)) → ev_w none (ev_Mof 285) d 250 w68 [.int (Int32.ofInt x67)] s74 (K x66 x67 s74) ev_eI ev_bl) ?_ ?_
                · intro x66 hx66 x67 hx67 s74 w68 e69 e70 e71 e72 e73
                  refine ev_r_istore (pc := 250) (k := 4) (by decide +kernel) (by decide +kernel) rfl ?_
                  exact hK252 x67 hx67 x66 hx66 x31 hx31 s74 _ (by exact (ev_l1 e69 (by decide) (by decide))) (by exact (ev_l1 e70 (by decide) (by decide))) (by exact (ev_lk_st1 e71 (by decide) rfl)) (by exact ev_lk_st1_self) (by exact (ev_l1 e72 (by decide) (by decide))) (by exact (ev_l1 e73 (by decide) (by decide)))
                · intro K250 hK250
                  refine ev_r_jn (Q := fun K => ∀ (x75 : Int) (hx75 : ev_rng x75), ∀ (s82 : ev_St) (w76 : List (Nat × Value)), ev_lk w76 0 = some (.ref 621) → ev_lk w76 1 = some (.int (Int32.ofInt a0)) → ev_lk w76 3 = some (.int (Int32.ofInt x5)) → ev_lk w76 5 = some (.int (Int32.ofInt x75)) → ev_lk w76 7 = some (.int (Int32.ofInt x31)) → ev_w none (ev_Mof 285) d 249 w76 [] s82 (K x75 s82) ev_eI ev_bl) ?_ ?_
                  · intro x75 hx75 s82 w76 e77 e78 e79 e80 e81
                    refine ev_r_iconst (pc := 249) (k := 0) (by decide +kernel) ?_
                    exact hK250 x75 hx75 0 (by decide) s82 _ (by exact e77) (by exact e78) (by exact e79) (by exact e80) (by exact e81)
                  · intro K249 hK249
                    refine ev_r_if (pc := 200) (q := .eq) (o := 49) (t := 249) (c := x56 = 0) (by decide +kernel) (ev_k_eq hx56 ev_rng0) (by decide +kernel) ?_ ?_
                    · intro c83
                      exact hK249 x57 hx57 s65 _ (by exact (ev_l1 e59 (by decide) (by decide))) (by exact (ev_l1 e60 (by decide) (by decide))) (by exact (ev_l1 e61 (by decide) (by decide))) (by exact ev_lk_st1_self) (by exact (ev_l1 e63 (by decide) (by decide)))
                    · intro c83
                      refine ev_r_aload_n (pc := 203) (k := 0) (v := .ref 621) trivial (by decide +kernel) (by exact (ev_l1 e59 (by decide) (by decide))) ?_
                      refine ev_r_getC (pc := 204) (y := 34) (ci := 13) (f := 11) (fin := 1) (k' := 630) (by decide +kernel) (by decide +kernel) (by exact ev_ob_621) rfl rfl ?_
                      refine ev_r_iload (pc := 207) (k := 8) (v := Int32.ofInt x32) (by decide +kernel) (by exact (ev_l1 e64 (by decide) (by decide))) ?_
                      refine ev_r_iald (pc := 209) hx32 (by decide +kernel) (by exact ev_ab_630) ?_
                      intro x84 hx84
                      refine ev_r_iconst (pc := 210) (k := -1) (by decide +kernel) ?_
                      refine ev_r_jn (Q := fun K => ∀ (s91 : ev_St) (w85 : List (Nat × Value)), ev_lk w85 0 = some (.ref 621) → ev_lk w85 1 = some (.int (Int32.ofInt a0)) → ev_lk w85 3 = some (.int (Int32.ofInt x5)) → ev_lk w85 5 = some (.int (Int32.ofInt x57)) → ev_lk w85 7 = some (.int (Int32.ofInt x31)) → ev_w none (ev_Mof 285) d 245 w85 [] s91 (K  s91) ev_eI ev_bl) ?_ ?_
                      · intro  s91 w85 e86 e87 e88 e89 e90
                        refine ev_r_iconst (pc := 245) (k := 1) (by decide +kernel) ?_
                        refine ev_r_goto (pc := 246) (o := 4) (t := 250) (by decide +kernel) (by decide +kernel) ?_
                        exact hK250 x57 hx57 1 (by decide) s91 _ (by exact e86) (by exact e87) (by exact e88) (by exact e89) (by exact e90)
                      · intro K245 hK245
                        refine ev_r_icmp (pc := 211) (q := .eq) (o := 34) (t := 245) (c := x84 = (-1)) (by decide +kernel) (ev_k_eq hx84 (by decide)) (by decide +kernel) ?_ ?_
                        · intro c92
                          exact hK245  s65 _ (by exact (ev_l1 e59 (by decide) (by decide))) (by exact (ev_l1 e60 (by decide) (by decide))) (by exact (ev_l1 e61 (by decide) (by decide))) (by exact ev_lk_st1_self) (by exact (ev_l1 e63 (by decide) (by decide)))
                        · intro c92
                          refine ev_r_aload_n (pc := 214) (k := 0) (v := .ref 621) trivial (by decide +kernel) (by exact (ev_l1 e59 (by decide) (by decide))) ?_
                          refine ev_r_getC (pc := 215) (y := 40) (ci := 13) (f := 13) (fin := 1) (k' := 632) (by decide +kernel) (by decide +kernel) (by exact ev_ob_621) rfl rfl ?_
                          refine ev_r_iload (pc := 218) (k := 8) (v := Int32.ofInt x32) (by decide +kernel) (by exact (ev_l1 e64 (by decide) (by decide))) ?_
                          refine ev_r_iald (pc := 220) hx32 (by decide +kernel) (by exact ev_ab_632) ?_
                          intro x93 hx93
                          refine ev_r_if (pc := 221) (q := .eq) (o := 28) (t := 249) (c := x93 = 0) (by decide +kernel) (ev_k_eq hx93 ev_rng0) (by decide +kernel) ?_ ?_
                          · intro c94
                            exact hK249 x57 hx57 s65 _ (by exact (ev_l1 e59 (by decide) (by decide))) (by exact (ev_l1 e60 (by decide) (by decide))) (by exact (ev_l1 e61 (by decide) (by decide))) (by exact ev_lk_st1_self) (by exact (ev_l1 e63 (by decide) (by decide)))
                          · intro c94
                            refine ev_r_aload_n (pc := 224) (k := 0) (v := .ref 621) trivial (by decide +kernel) (by exact (ev_l1 e59 (by decide) (by decide))) ?_
                            refine ev_r_getC (pc := 225) (y := 37) (ci := 13) (f := 12) (fin := 1) (k' := 631) (by decide +kernel) (by decide +kernel) (by exact ev_ob_621) rfl rfl ?_
                            refine ev_r_iload (pc := 228) (k := 8) (v := Int32.ofInt x32) (by decide +kernel) (by exact (ev_l1 e64 (by decide) (by decide))) ?_
                            refine ev_r_iald (pc := 230) hx32 (by decide +kernel) (by exact ev_ab_631) ?_
                            intro x95 hx95
                            refine ev_r_iconst (pc := 231) (k := 2) (by decide +kernel) ?_
                            refine ev_r_icmp (pc := 232) (q := .lt) (o := 13) (t := 245) (c := x95 < 2) (by decide +kernel) (ev_k_lt hx95 (by decide)) (by decide +kernel) ?_ ?_
                            · intro c96
                              exact hK245  s65 _ (by exact (ev_l1 e59 (by decide) (by decide))) (by exact (ev_l1 e60 (by decide) (by decide))) (by exact (ev_l1 e61 (by decide) (by decide))) (by exact ev_lk_st1_self) (by exact (ev_l1 e63 (by decide) (by decide)))
                            · intro c96
                              refine ev_r_aload_n (pc := 235) (k := 0) (v := .ref 621) trivial (by decide +kernel) (by exact (ev_l1 e59 (by decide) (by decide))) ?_
                              refine ev_r_getC (pc := 236) (y := 65) (ci := 13) (f := 21) (fin := 1) (k' := 640) (by decide +kernel) (by decide +kernel) (by exact ev_ob_621) rfl rfl ?_
                              refine ev_r_iload (pc := 239) (k := 8) (v := Int32.ofInt x32) (by decide +kernel) (by exact (ev_l1 e64 (by decide) (by decide))) ?_
                              refine ev_r_iald (pc := 241) hx32 (by decide +kernel) (by exact ev_ab_640) ?_
                              intro x97 hx97
                              refine ev_r_if (pc := 242) (q := .ne) (o := 7) (t := 249) (c := x97 ≠ 0) (by decide +kernel) (ev_k_ne hx97 ev_rng0) (by decide +kernel) ?_ ?_
                              · intro c98
                                exact hK249 x57 hx57 s65 _ (by exact (ev_l1 e59 (by decide) (by decide))) (by exact (ev_l1 e60 (by decide) (by decide))) (by exact (ev_l1 e61 (by decide) (by decide))) (by exact ev_lk_st1_self) (by exact (ev_l1 e63 (by decide) (by decide)))
                              · intro c98
                                exact hK245  s65 _ (by exact (ev_l1 e59 (by decide) (by decide))) (by exact (ev_l1 e60 (by decide) (by decide))) (by exact (ev_l1 e61 (by decide) (by decide))) (by exact ev_lk_st1_self) (by exact (ev_l1 e63 (by decide) (by decide)))
              · intro K196 hK196
                refine ev_r_jn (Q := fun K => ∀ (x99 : Int) (hx99 : ev_rng x99), ∀ (s107 : ev_St) (w100 : List (Nat × Value)), ev_lk w100 0 = some (.ref 621) → ev_lk w100 1 = some (.int (Int32.ofInt a0)) → ev_lk w100 3 = some (.int (Int32.ofInt x5)) → ev_lk w100 4 = some (.int (Int32.ofInt x99)) → ev_lk w100 7 = some (.int (Int32.ofInt x31)) → ev_lk w100 8 = some (.int (Int32.ofInt x32)) → ev_w none (ev_Mof 285) d 195 w100 [] s107 (K x99 s107) ev_eI ev_bl) ?_ ?_
                · intro x99 hx99 s107 w100 e101 e102 e103 e104 e105 e106
                  refine ev_r_iconst (pc := 195) (k := 0) (by decide +kernel) ?_
                  exact hK196 x99 hx99 0 (by decide) s107 _ (by exact e101) (by exact e102) (by exact e103) (by exact e104) (by exact e105) (by exact e106)
                · intro K195 hK195
                  refine ev_r_if (pc := 169) (q := .eq) (o := 26) (t := 195) (c := x48 = 0) (by decide +kernel) (ev_k_eq hx48 ev_rng0) (by decide +kernel) ?_ ?_
                  · intro c108
                    exact hK195 x48 hx48 s55 _ (by exact (ev_l1 e50 (by decide) (by decide))) (by exact (ev_l1 e51 (by decide) (by decide))) (by exact (ev_lk_st1 e52 (by decide) rfl)) (by exact ev_lk_st1_self) (by exact (ev_l1 e53 (by decide) (by decide))) (by exact (ev_l1 e54 (by decide) (by decide)))
                  · intro c108
                    refine ev_r_aload_n (pc := 172) (k := 0) (v := .ref 621) trivial (by decide +kernel) (by exact (ev_l1 e50 (by decide) (by decide))) ?_
                    refine ev_r_iload (pc := 173) (k := 8) (v := Int32.ofInt x32) (by decide +kernel) (by exact (ev_l1 e54 (by decide) (by decide))) ?_
                    refine ev_r_virt (pc := 175) (y := 549) (mi := 282) (na := 1) (k := 621) (as := [.int (Int32.ofInt x32)]) (rest := []) (encc := ev_oI) (Q := ev_bl) (fun x S1 h => jt_282 d (by omega) Q x32 hx32 s55 x S1 h) (by exact ev_ob_621) (by decide +kernel) (by decide +kernel) (by decide +kernel) (by decide +kernel) rfl (by (try simp only [ev_sum, ev_nv_cat]); first | done | rfl) ?_
                    intro x110 s109 hx110
                    replace hx110 := ev_bl_rng hx110
                    show ev_w _ _ _ _ _ [.int (Int32.ofInt x110)] _ _ _ _
                    refine ev_r_if (pc := 178) (q := .eq) (o := 17) (t := 195) (c := x110 = 0) (by decide +kernel) (ev_k_eq hx110 ev_rng0) (by decide +kernel) ?_ ?_
                    · intro c111
                      exact hK195 x48 hx48 s109 _ (by exact (ev_l1 e50 (by decide) (by decide))) (by exact (ev_l1 e51 (by decide) (by decide))) (by exact (ev_lk_st1 e52 (by decide) rfl)) (by exact ev_lk_st1_self) (by exact (ev_l1 e53 (by decide) (by decide))) (by exact (ev_l1 e54 (by decide) (by decide)))
                    · intro c111
                      refine ev_r_aload_n (pc := 181) (k := 0) (v := .ref 621) trivial (by decide +kernel) (by exact (ev_l1 e50 (by decide) (by decide))) ?_
                      refine ev_r_iload_n (pc := 182) (k := 1) (v := Int32.ofInt a0) (by decide +kernel) (by exact (ev_l1 e51 (by decide) (by decide))) ?_
                      refine ev_r_iload (pc := 183) (k := 7) (v := Int32.ofInt x31) (by decide +kernel) (by exact (ev_l1 e53 (by decide) (by decide))) ?_
                      refine ev_r_virt (pc := 185) (y := 555) (mi := 286) (na := 2) (k := 621) (as := [.int (Int32.ofInt a0), .int (Int32.ofInt x31)]) (rest := []) (encc := ev_oI) (Q := ev_bl) (fun x S1 h => jt_286 d (by omega) Q a0 x31 ha0 hx31 s109 x S1 h) (by exact ev_ob_621) (by decide +kernel) (by decide +kernel) (by decide +kernel) (by decide +kernel) rfl (by (try simp only [ev_sum, ev_nv_cat]); first | done | rfl) ?_
                      intro x113 s112 hx113
                      replace hx113 := ev_bl_rng hx113
                      show ev_w _ _ _ _ _ [.int (Int32.ofInt x113)] _ _ _ _
                      refine ev_r_if (pc := 188) (q := .eq) (o := 7) (t := 195) (c := x113 = 0) (by decide +kernel) (ev_k_eq hx113 ev_rng0) (by decide +kernel) ?_ ?_
                      · intro c114
                        exact hK195 x48 hx48 s112 _ (by exact (ev_l1 e50 (by decide) (by decide))) (by exact (ev_l1 e51 (by decide) (by decide))) (by exact (ev_lk_st1 e52 (by decide) rfl)) (by exact ev_lk_st1_self) (by exact (ev_l1 e53 (by decide) (by decide))) (by exact (ev_l1 e54 (by decide) (by decide)))
                      · intro c114
                        refine ev_r_iconst (pc := 191) (k := 1) (by decide +kernel) ?_
                        refine ev_r_goto (pc := 192) (o := 4) (t := 196) (by decide +kernel) (by decide +kernel) ?_
                        exact hK196 x48 hx48 1 (by decide) s112 _ (by exact (ev_l1 e50 (by decide) (by decide))) (by exact (ev_l1 e51 (by decide) (by decide))) (by exact (ev_lk_st1 e52 (by decide) rfl)) (by exact ev_lk_st1_self) (by exact (ev_l1 e53 (by decide) (by decide))) (by exact (ev_l1 e54 (by decide) (by decide)))
            · intro K165 hK165
              refine ev_r_if (pc := 157) (q := .ne) (o := 7) (t := 164) (c := x47 ≠ 0) (by decide +kernel) (ev_k_ne hx47 ev_rng0) (by decide +kernel) ?_ ?_
              · intro c115
                refine ev_r_iconst (pc := 164) (k := 0) (by decide +kernel) ?_
                exact hK165 0 (by decide) s46 _ (by exact (ev_l1 (ev_l1 e17 (by decide) (by decide)) (by decide) (by decide))) (by exact (ev_l1 (ev_l1 e18 (by decide) (by decide)) (by decide) (by decide))) (by exact (ev_l1 (ev_l1 e19 (by decide) (by decide)) (by decide) (by decide))) (by exact (ev_lk_st1 ev_lk_st1_self (by decide) rfl)) (by exact ev_lk_st1_self)
              · intro c115
                refine ev_r_iconst (pc := 160) (k := 1) (by decide +kernel) ?_
                refine ev_r_goto (pc := 161) (o := 4) (t := 165) (by decide +kernel) (by decide +kernel) ?_
                exact hK165 1 (by decide) s46 _ (by exact (ev_l1 (ev_l1 e17 (by decide) (by decide)) (by decide) (by decide))) (by exact (ev_l1 (ev_l1 e18 (by decide) (by decide)) (by decide) (by decide))) (by exact (ev_l1 (ev_l1 e19 (by decide) (by decide)) (by decide) (by decide))) (by exact (ev_lk_st1 ev_lk_st1_self (by decide) rfl)) (by exact ev_lk_st1_self)
          · intro c45
            refine ev_r_aload_n (pc := 88) (k := 0) (v := .ref 621) trivial (by decide +kernel) (by exact (ev_l1 (ev_l1 e17 (by decide) (by decide)) (by decide) (by decide))) ?_
            refine ev_r_getC (pc := 89) (y := 22) (ci := 13) (f := 7) (fin := 1) (k' := 626) (by decide +kernel) (by decide +kernel) (by exact ev_ob_621) rfl rfl ?_
            refine ev_r_iload (pc := 92) (k := 8) (v := Int32.ofInt x32) (by decide +kernel) (by exact ev_lk_st1_self) ?_
            refine ev_r_iald (pc := 94) hx32 (by decide +kernel) (by exact ev_ab_626) ?_
            intro x116 hx116
            refine ev_r_istore (pc := 95) (k := 9) (by decide +kernel) (by decide +kernel) rfl ?_
            exact jlt_285_97 d hd Q a0 x5 x14 x15 x31 ha0 hx5 hx14 hx15 hx31 K252 hK252 Q x13 hx13 x116 hx116 s23 _ (by exact (ev_l1 (ev_l1 (ev_l1 e17 (by decide) (by decide)) (by decide) (by decide)) (by decide) (by decide))) (by exact (ev_l1 (ev_l1 (ev_l1 e18 (by decide) (by decide)) (by decide) (by decide)) (by decide) (by decide))) (by exact (ev_l1 (ev_l1 (ev_l1 e19 (by decide) (by decide)) (by decide) (by decide)) (by decide) (by decide))) (by exact (ev_l1 (ev_l1 (ev_l1 e20 (by decide) (by decide)) (by decide) (by decide)) (by decide) (by decide))) (by exact (ev_l1 (ev_l1 (ev_l1 e21 (by decide) (by decide)) (by decide) (by decide)) (by decide) (by decide))) (by exact (ev_l1 (ev_l1 (ev_lk_st1 e22 (by decide) rfl) (by decide) (by decide)) (by decide) (by decide))) (by exact (ev_l1 (ev_lk_st1 ev_lk_st1_self (by decide) rfl) (by decide) (by decide))) (by exact ev_lk_st1_self)
theorem jlt_285_40 (d : Nat) (hd : 3 ≤ d + 1) (Q : Nat) (a0 : Int) (x5 : Int) (ha0 : ev_rng a0) (hx5 : ev_rng x5)   : ∀ q : Nat, ∀ (x13 : Int) (hx13 : ev_rng x13), ∀ (x14 : Int) (hx14 : ev_rng x14), ∀ (x15 : Int) (hx15 : ev_rng x15), ∀ (s23 : ev_St) (w16 : List (Nat × Value)), ev_lk w16 0 = some (.ref 621) → ev_lk w16 1 = some (.int (Int32.ofInt a0)) → ev_lk w16 3 = some (.int (Int32.ofInt x5)) → ev_lk w16 4 = some (.int (Int32.ofInt x13)) → ev_lk w16 5 = some (.int (Int32.ofInt x14)) → ev_lk w16 6 = some (.int (Int32.ofInt x15)) → ev_w none (ev_Mof 285) d 40 w16 [] s23 (jl_285_40 Q a0 x5  q x13 x14 x15 s23) ev_eI ev_bl := by
  intro q
  induction q with
  | zero =>
    intro x13 hx13 x14 hx14 x15 hx15 s23 w16 e17 e18 e19 e20 e21 e22
    exact ev_w_none
  | succ q ih => exact jbt_285_40 d hd Q a0 x5 ha0 hx5   _ ih
/-- MendBenchModel.isRunning(II)Z -/
def jm_285 (Q : Nat) (a0 : Int) (a1 : Int) (S : ev_St) : Option ((Int) × ev_St) := ev_ck (320 * a0) fun x1 => ev_ck (x1 + a1) fun x2 => ev_bd (jm_282 Q x2 S) fun x4 s3 => ev_jn (fun (x5 : Int) (x6 : Int) (s12 : ev_St) => jl_285_40 Q a0 x5  Q x6 0 a1 s12) fun K32 => ev_jn (fun (x165 : Int) (s171 : ev_St) => K32 x165 0 s171) fun K31 => if x4 = 0 then (K31 x1 s3) else (ev_ck (x1 + a1) fun x173 => ev_bd (jm_281 Q x173 a1 s3) fun x175 s174 => if x175 = 0 then (K31 x1 s174) else (K32 x1 1 s174))
theorem jt_285 (d : Nat) (hd : 3 ≤ d) (Q : Nat) (a0 : Int) (a1 : Int) (ha0 : ev_rng a0) (ha1 : ev_rng a1) (S : ev_St) (x : Int) (S' : ev_St) (hJ : jm_285 Q a0 a1 S = some (x, S')) : ev_Ref d 285 [.ref 621, .int (Int32.ofInt a0), .int (Int32.ofInt a1)] S (ev_eI x) S' (ev_bl x) := by
  obtain ⟨d, rfl⟩ : ∃ e, d = e + 1 := ⟨d - 1, by omega⟩
  refine ev_ref_of (P := ev_bl) (lv := [(0, .ref 621), (1, .int (Int32.ofInt a0)), (2, .int (Int32.ofInt a1))]) (by decide +kernel) (by (try simp only [ev_sum, ev_nv_cat]); first | done | rfl) (by (try simp only [lv_args, ev_nv_cat]); first | done | rfl) ?_ x S' hJ
  unfold jm_285
  refine ev_r_sipush (pc := 0) (k := 320) (by decide +kernel) (by decide +kernel) ?_
  refine ev_r_iload_n (pc := 3) (k := 1) (v := Int32.ofInt a0) (by decide +kernel) (by rfl) ?_
  refine ev_r_imul (pc := 4) (by decide +kernel) ?_
  intro x1 hx1
  refine ev_r_istore_n (pc := 5) (k := 3) (by decide +kernel) (by decide +kernel) rfl ?_
  refine ev_r_aload_n (pc := 6) (k := 0) (v := .ref 621) trivial (by decide +kernel) (by exact (ev_l1 (by rfl) (by decide) (by decide))) ?_
  refine ev_r_iload_n (pc := 7) (k := 3) (v := Int32.ofInt x1) (by decide +kernel) (by exact ev_lk_st1_self) ?_
  refine ev_r_iload_n (pc := 8) (k := 2) (v := Int32.ofInt a1) (by decide +kernel) (by exact (ev_lk_st1 (by rfl) (by decide) rfl)) ?_
  refine ev_r_iadd (pc := 9) (by decide +kernel) ?_
  intro x2 hx2
  refine ev_r_virt (pc := 10) (y := 549) (mi := 282) (na := 1) (k := 621) (as := [.int (Int32.ofInt x2)]) (rest := []) (encc := ev_oI) (Q := ev_bl) (fun x S1 h => jt_282 d (by omega) Q x2 hx2 S x S1 h) (by exact ev_ob_621) (by decide +kernel) (by decide +kernel) (by decide +kernel) (by decide +kernel) rfl (by (try simp only [ev_sum, ev_nv_cat]); first | done | rfl) ?_
  intro x4 s3 hx4
  replace hx4 := ev_bl_rng hx4
  show ev_w _ _ _ _ _ [.int (Int32.ofInt x4)] _ _ _ _
  refine ev_r_jn (Q := fun K => ∀ (x5 : Int) (hx5 : ev_rng x5), ∀ (x6 : Int) (hx6 : ev_rng x6), ∀ (s12 : ev_St) (w7 : List (Nat × Value)), ev_lk w7 0 = some (.ref 621) → ev_lk w7 1 = some (.int (Int32.ofInt a0)) → ev_lk w7 2 = some (.int (Int32.ofInt a1)) → ev_lk w7 3 = some (.int (Int32.ofInt x5)) → ev_w none (ev_Mof 285) d 32 w7 [.int (Int32.ofInt x6)] s12 (K x5 x6 s12) ev_eI ev_bl) ?_ ?_
  · intro x5 hx5 x6 hx6 s12 w7 e8 e9 e10 e11
    refine ev_r_istore (pc := 32) (k := 4) (by decide +kernel) (by decide +kernel) rfl ?_
    refine ev_r_iconst (pc := 34) (k := 0) (by decide +kernel) ?_
    refine ev_r_istore (pc := 35) (k := 5) (by decide +kernel) (by decide +kernel) rfl ?_
    refine ev_r_iload_n (pc := 37) (k := 2) (v := Int32.ofInt a1) (by decide +kernel) (by exact (ev_l1 (ev_l1 e10 (by decide) (by decide)) (by decide) (by decide))) ?_
    refine ev_r_istore (pc := 38) (k := 6) (by decide +kernel) (by decide +kernel) rfl ?_
    exact jlt_285_40 d hd Q a0 x5 ha0 hx5   Q x6 hx6 0 (by decide) a1 ha1 s12 _ (by exact (ev_l1 (ev_l1 (ev_l1 e8 (by decide) (by decide)) (by decide) (by decide)) (by decide) (by decide))) (by exact (ev_l1 (ev_l1 (ev_l1 e9 (by decide) (by decide)) (by decide) (by decide)) (by decide) (by decide))) (by exact (ev_l1 (ev_l1 (ev_lk_st1 e11 (by decide) rfl) (by decide) (by decide)) (by decide) (by decide))) (by exact (ev_l1 (ev_lk_st1 ev_lk_st1_self (by decide) rfl) (by decide) (by decide))) (by exact (ev_lk_st1 ev_lk_st1_self (by decide) rfl)) (by exact ev_lk_st1_self)
  · intro K32 hK32
    refine ev_r_jn (Q := fun K => ∀ (x165 : Int) (hx165 : ev_rng x165), ∀ (s171 : ev_St) (w166 : List (Nat × Value)), ev_lk w166 0 = some (.ref 621) → ev_lk w166 1 = some (.int (Int32.ofInt a0)) → ev_lk w166 2 = some (.int (Int32.ofInt a1)) → ev_lk w166 3 = some (.int (Int32.ofInt x165)) → ev_w none (ev_Mof 285) d 31 w166 [] s171 (K x165 s171) ev_eI ev_bl) ?_ ?_
    · intro x165 hx165 s171 w166 e167 e168 e169 e170
      refine ev_r_iconst (pc := 31) (k := 0) (by decide +kernel) ?_
      exact hK32 x165 hx165 0 (by decide) s171 _ (by exact e167) (by exact e168) (by exact e169) (by exact e170)
    · intro K31 hK31
      refine ev_r_if (pc := 13) (q := .eq) (o := 18) (t := 31) (c := x4 = 0) (by decide +kernel) (ev_k_eq hx4 ev_rng0) (by decide +kernel) ?_ ?_
      · intro c172
        exact hK31 x1 hx1 s3 _ (by exact (ev_l1 (by rfl) (by decide) (by decide))) (by exact (ev_l1 (by rfl) (by decide) (by decide))) (by exact (ev_lk_st1 (by rfl) (by decide) rfl)) (by exact ev_lk_st1_self)
      · intro c172
        refine ev_r_aload_n (pc := 16) (k := 0) (v := .ref 621) trivial (by decide +kernel) (by exact (ev_l1 (by rfl) (by decide) (by decide))) ?_
        refine ev_r_iload_n (pc := 17) (k := 3) (v := Int32.ofInt x1) (by decide +kernel) (by exact ev_lk_st1_self) ?_
        refine ev_r_iload_n (pc := 18) (k := 2) (v := Int32.ofInt a1) (by decide +kernel) (by exact (ev_lk_st1 (by rfl) (by decide) rfl)) ?_
        refine ev_r_iadd (pc := 19) (by decide +kernel) ?_
        intro x173 hx173
        refine ev_r_iload_n (pc := 20) (k := 2) (v := Int32.ofInt a1) (by decide +kernel) (by exact (ev_lk_st1 (by rfl) (by decide) rfl)) ?_
        refine ev_r_virt (pc := 21) (y := 545) (mi := 281) (na := 2) (k := 621) (as := [.int (Int32.ofInt x173), .int (Int32.ofInt a1)]) (rest := []) (encc := ev_oI) (Q := ev_bl) (fun x S1 h => jt_281 d (by omega) Q x173 a1 hx173 ha1 s3 x S1 h) (by exact ev_ob_621) (by decide +kernel) (by decide +kernel) (by decide +kernel) (by decide +kernel) rfl (by (try simp only [ev_sum, ev_nv_cat]); first | done | rfl) ?_
        intro x175 s174 hx175
        replace hx175 := ev_bl_rng hx175
        show ev_w _ _ _ _ _ [.int (Int32.ofInt x175)] _ _ _ _
        refine ev_r_if (pc := 24) (q := .eq) (o := 7) (t := 31) (c := x175 = 0) (by decide +kernel) (ev_k_eq hx175 ev_rng0) (by decide +kernel) ?_ ?_
        · intro c176
          exact hK31 x1 hx1 s174 _ (by exact (ev_l1 (by rfl) (by decide) (by decide))) (by exact (ev_l1 (by rfl) (by decide) (by decide))) (by exact (ev_lk_st1 (by rfl) (by decide) rfl)) (by exact ev_lk_st1_self)
        · intro c176
          refine ev_r_iconst (pc := 27) (k := 1) (by decide +kernel) ?_
          refine ev_r_goto (pc := 28) (o := 4) (t := 32) (by decide +kernel) (by decide +kernel) ?_
          exact hK32 x1 hx1 1 (by decide) s174 _ (by exact (ev_l1 (by rfl) (by decide) (by decide))) (by exact (ev_l1 (by rfl) (by decide) (by decide))) (by exact (ev_lk_st1 (by rfl) (by decide) rfl)) (by exact ev_lk_st1_self)
def jb_287_48 (Q : Nat) (a0 : Int) (x6 : Int) (K75 : ev_St → Option ((Int) × ev_St)) (K48 : Int → ev_St → Option ((Int) × ev_St)) (x23 : Int) (s29 : ev_St) : Option ((Int) × ev_St) := ev_if ((0 : Int) ≤ a0 ∧ a0 < (ev_aln 635 : Int)) (ev_b (s29.1 635 (Int.toNat a0)) fun x30 => if x30 ≤ x23 then (K75  s29) else (ev_bd (jm_285 Q a0 x23 s29) fun x33 s32 => if x33 = 0 then (ev_ck (x23 + 1) fun x35 => K48 x35 s32) else (some (x6, s32))))
def jl_287_48 (Q : Nat) (a0 : Int) (x6 : Int) (K75 : ev_St → Option ((Int) × ev_St)) : Nat → Int → ev_St → Option ((Int) × ev_St)
  | 0 => fun _ _ => none
  | q + 1 => jb_287_48 Q a0 x6 K75 (jl_287_48 Q a0 x6 K75 q)
theorem jbt_287_48 (d : Nat) (hd : 4 ≤ d + 1) (Q : Nat) (a0 : Int) (x6 : Int) (ha0 : ev_rng a0) (hx6 : ev_rng x6) (K75 : ev_St → Option ((Int) × ev_St)) (hK75 : ∀ (s19 : ev_St) (w15 : List (Nat × Value)), ev_lk w15 0 = some (.ref 621) → ev_lk w15 1 = some (.int (Int32.ofInt a0)) → ev_lk w15 2 = some (.int (Int32.ofInt x6)) → ev_w none (ev_Mof 287) d 75 w15 [] s19 (K75  s19) ev_eI ev_rng) (K48 : Int → ev_St → Option ((Int) × ev_St)) (hK48 : ∀ (x23 : Int) (hx23 : ev_rng x23), ∀ (s29 : ev_St) (w24 : List (Nat × Value)), ev_lk w24 0 = some (.ref 621) → ev_lk w24 1 = some (.int (Int32.ofInt a0)) → ev_lk w24 2 = some (.int (Int32.ofInt x6)) → ev_lk w24 3 = some (.int (Int32.ofInt x23)) → ev_w none (ev_Mof 287) d 48 w24 [] s29 (K48 x23 s29) ev_eI ev_rng) : ∀ (x23 : Int) (hx23 : ev_rng x23), ∀ (s29 : ev_St) (w24 : List (Nat × Value)), ev_lk w24 0 = some (.ref 621) → ev_lk w24 1 = some (.int (Int32.ofInt a0)) → ev_lk w24 2 = some (.int (Int32.ofInt x6)) → ev_lk w24 3 = some (.int (Int32.ofInt x23)) → ev_w none (ev_Mof 287) d 48 w24 [] s29 (jb_287_48 Q a0 x6 K75 K48 x23 s29) ev_eI ev_rng := by
  intro x23 hx23 s29 w24 e25 e26 e27 e28
  unfold jb_287_48
  refine ev_r_iload_n (pc := 48) (k := 3) (v := Int32.ofInt x23) (by decide +kernel) (by exact e28) ?_
  refine ev_r_aload_n (pc := 49) (k := 0) (v := .ref 621) trivial (by decide +kernel) (by exact e25) ?_
  refine ev_r_getC (pc := 50) (y := 50) (ci := 13) (f := 16) (fin := 1) (k' := 635) (by decide +kernel) (by decide +kernel) (by exact ev_ob_621) rfl rfl ?_
  refine ev_r_iload_n (pc := 53) (k := 1) (v := Int32.ofInt a0) (by decide +kernel) (by exact e26) ?_
  refine ev_r_iald (pc := 54) ha0 (by decide +kernel) (by exact ev_ab_635) ?_
  intro x30 hx30
  refine ev_r_icmp (pc := 55) (q := .ge) (o := 20) (t := 75) (c := x30 ≤ x23) (by decide +kernel) (ev_k_ge hx23 hx30) (by decide +kernel) ?_ ?_
  · intro c31
    exact hK75  s29 _ (by exact e25) (by exact e26) (by exact e27)
  · intro c31
    refine ev_r_aload_n (pc := 58) (k := 0) (v := .ref 621) trivial (by decide +kernel) (by exact e25) ?_
    refine ev_r_iload_n (pc := 59) (k := 1) (v := Int32.ofInt a0) (by decide +kernel) (by exact e26) ?_
    refine ev_r_iload_n (pc := 60) (k := 3) (v := Int32.ofInt x23) (by decide +kernel) (by exact e28) ?_
    refine ev_r_virt (pc := 61) (y := 564) (mi := 285) (na := 2) (k := 621) (as := [.int (Int32.ofInt a0), .int (Int32.ofInt x23)]) (rest := []) (encc := ev_oI) (Q := ev_bl) (fun x S1 h => jt_285 d (by omega) Q a0 x23 ha0 hx23 s29 x S1 h) (by exact ev_ob_621) (by decide +kernel) (by decide +kernel) (by decide +kernel) (by decide +kernel) rfl (by (try simp only [ev_sum, ev_nv_cat]); first | done | rfl) ?_
    intro x33 s32 hx33
    replace hx33 := ev_bl_rng hx33
    show ev_w _ _ _ _ _ [.int (Int32.ofInt x33)] _ _ _ _
    refine ev_r_if (pc := 64) (q := .eq) (o := 5) (t := 69) (c := x33 = 0) (by decide +kernel) (ev_k_eq hx33 ev_rng0) (by decide +kernel) ?_ ?_
    · intro c34
      refine ev_r_iinc (pc := 69) (k := 3) (c := 1) (x := x23) (by decide +kernel) (by decide +kernel) (by exact e28) (fun _ => rfl) ?_
      intro x35 hx35
      refine ev_r_goto (pc := 72) (o := (-24)) (t := 48) (by decide +kernel) (by decide +kernel) ?_
      exact hK48 x35 hx35 s32 _ (by exact (ev_l1 e25 (by decide) (by decide))) (by exact (ev_l1 e26 (by decide) (by decide))) (by exact (ev_lk_st1 e27 (by decide) rfl)) (by exact ev_lk_st1_self)
    · intro c34
      refine ev_r_iload_n (pc := 67) (k := 2) (v := Int32.ofInt x6) (by decide +kernel) (by exact e27) ?_
      exact ev_r_ireturn (pc := 68) (x := x6) (v := Int32.ofInt x6) (ty := .int) hx6 (by decide +kernel) (by decide +kernel) rfl rfl
theorem jlt_287_48 (d : Nat) (hd : 4 ≤ d + 1) (Q : Nat) (a0 : Int) (x6 : Int) (ha0 : ev_rng a0) (hx6 : ev_rng x6) (K75 : ev_St → Option ((Int) × ev_St)) (hK75 : ∀ (s19 : ev_St) (w15 : List (Nat × Value)), ev_lk w15 0 = some (.ref 621) → ev_lk w15 1 = some (.int (Int32.ofInt a0)) → ev_lk w15 2 = some (.int (Int32.ofInt x6)) → ev_w none (ev_Mof 287) d 75 w15 [] s19 (K75  s19) ev_eI ev_rng) : ∀ q : Nat, ∀ (x23 : Int) (hx23 : ev_rng x23), ∀ (s29 : ev_St) (w24 : List (Nat × Value)), ev_lk w24 0 = some (.ref 621) → ev_lk w24 1 = some (.int (Int32.ofInt a0)) → ev_lk w24 2 = some (.int (Int32.ofInt x6)) → ev_lk w24 3 = some (.int (Int32.ofInt x23)) → ev_w none (ev_Mof 287) d 48 w24 [] s29 (jl_287_48 Q a0 x6 K75 q x23 s29) ev_eI ev_rng := by
  intro q
  induction q with
  | zero =>
    intro x23 hx23 s29 w24 e25 e26 e27 e28
    exact ev_w_none
  | succ q ih => exact jbt_287_48 d hd Q a0 x6 ha0 hx6 K75 hK75 _ ih
def jb_287_27 (Q : Nat) (a0 : Int)  (K27 : Int → ev_St → Option ((Int) × ev_St)) (x6 : Int) (s11 : ev_St) : Option ((Int) × ev_St) := if 127 ≤ x6 then (some ((-1), s11)) else (ev_bd (jm_223 Q x6 s11) fun x14 s13 => ev_jn (fun  (s19 : ev_St) => ev_ck (x6 + 1) fun x20 => K27 x20 s19) fun K75 => if x14 = 0 then (K75  s13) else (ev_bd (jm_280 Q a0 x6 s13) fun _ s22 => jl_287_48 Q a0 x6 K75 Q 0 s22))
def jl_287_27 (Q : Nat) (a0 : Int)  : Nat → Int → ev_St → Option ((Int) × ev_St)
  | 0 => fun _ _ => none
  | q + 1 => jb_287_27 Q a0  (jl_287_27 Q a0  q)
theorem jbt_287_27 (d : Nat) (hd : 4 ≤ d + 1) (Q : Nat) (a0 : Int) (ha0 : ev_rng a0)   (K27 : Int → ev_St → Option ((Int) × ev_St)) (hK27 : ∀ (x6 : Int) (hx6 : ev_rng x6), ∀ (s11 : ev_St) (w7 : List (Nat × Value)), ev_lk w7 0 = some (.ref 621) → ev_lk w7 1 = some (.int (Int32.ofInt a0)) → ev_lk w7 2 = some (.int (Int32.ofInt x6)) → ev_w none (ev_Mof 287) d 27 w7 [] s11 (K27 x6 s11) ev_eI ev_rng) : ∀ (x6 : Int) (hx6 : ev_rng x6), ∀ (s11 : ev_St) (w7 : List (Nat × Value)), ev_lk w7 0 = some (.ref 621) → ev_lk w7 1 = some (.int (Int32.ofInt a0)) → ev_lk w7 2 = some (.int (Int32.ofInt x6)) → ev_w none (ev_Mof 287) d 27 w7 [] s11 (jb_287_27 Q a0  K27 x6 s11) ev_eI ev_rng := by
  intro x6 hx6 s11 w7 e8 e9 e10
  unfold jb_287_27
  refine ev_r_iload_n (pc := 27) (k := 2) (v := Int32.ofInt x6) (by decide +kernel) (by exact e10) ?_
  refine ev_r_bipush (pc := 28) (k := 127) (by decide +kernel) (by decide +kernel) ?_
  refine ev_r_icmp (pc := 30) (q := .ge) (o := 51) (t := 81) (c := 127 ≤ x6) (by decide +kernel) (ev_k_ge hx6 (by decide)) (by decide +kernel) ?_ ?_
  · intro c12
    refine ev_r_iconst (pc := 81) (k := -1) (by decide +kernel) ?_
    exact ev_r_ireturn (pc := 82) (x := (-1)) (v := Int32.ofInt ((-1))) (ty := .int) (by decide) (by decide +kernel) (by decide +kernel) rfl rfl
  · intro c12
    refine ev_r_iload_n (pc := 33) (k := 2) (v := Int32.ofInt x6) (by decide +kernel) (by exact e10) ?_
    refine ev_r_stat (pc := 34) (y := 339) (kind := 2) (mi := 223) (na := 1) (as := [.int (Int32.ofInt x6)]) (rest := []) (encc := ev_oI) (Q := ev_bl) (fun x S1 h => jt_223 d (by omega) Q x6 hx6 s11 x S1 h) (Or.inl rfl) (by decide +kernel) (by decide +kernel) (by decide +kernel) (by decide +kernel) rfl (by (try simp only [ev_sum, ev_nv_cat]); first | done | rfl) ?_
    intro x14 s13 hx14
    replace hx14 := ev_bl_rng hx14
    show ev_w _ _ _ _ _ [.int (Int32.ofInt x14)] _ _ _ _
    refine ev_r_jn (Q := fun K => ∀ (s19 : ev_St) (w15 : List (Nat × Value)), ev_lk w15 0 = some (.ref 621) → ev_lk w15 1 = some (.int (Int32.ofInt a0)) → ev_lk w15 2 = some (.int (Int32.ofInt x6)) → ev_w none (ev_Mof 287) d 75 w15 [] s19 (K  s19) ev_eI ev_rng) ?_ ?_
    · intro  s19 w15 e16 e17 e18
      refine ev_r_iinc (pc := 75) (k := 2) (c := 1) (x := x6) (by decide +kernel) (by decide +kernel) (by exact e18) (fun _ => rfl) ?_
      intro x20 hx20
      refine ev_r_goto (pc := 78) (o := (-51)) (t := 27) (by decide +kernel) (by decide +kernel) ?_
      exact hK27 x20 hx20 s19 _ (by exact (ev_l1 e16 (by decide) (by decide))) (by exact (ev_lk_st1 e17 (by decide) rfl)) (by exact ev_lk_st1_self)
    · intro K75 hK75
      refine ev_r_if (pc := 37) (q := .eq) (o := 38) (t := 75) (c := x14 = 0) (by decide +kernel) (ev_k_eq hx14 ev_rng0) (by decide +kernel) ?_ ?_
      · intro c21
        exact hK75  s13 _ (by exact e8) (by exact e9) (by exact e10)
      · intro c21
        refine ev_r_aload_n (pc := 40) (k := 0) (v := .ref 621) trivial (by decide +kernel) (by exact e8) ?_
        refine ev_r_iload_n (pc := 41) (k := 1) (v := Int32.ofInt a0) (by decide +kernel) (by exact e9) ?_
        refine ev_r_iload_n (pc := 42) (k := 2) (v := Int32.ofInt x6) (by decide +kernel) (by exact e10) ?_
        refine ev_r_virt (pc := 43) (y := 561) (mi := 280) (na := 2) (k := 621) (as := [.int (Int32.ofInt a0), .int (Int32.ofInt x6)]) (rest := []) (encc := ev_oU) (Q := ev_PU) (fun x S1 h => jt_280 d (by omega) Q a0 x6 ha0 hx6 s13 x S1 h) (by exact ev_ob_621) (by decide +kernel) (by decide +kernel) (by decide +kernel) (by decide +kernel) rfl (by (try simp only [ev_sum, ev_nv_cat]); first | done | rfl) ?_
        intro _ s22 _
        show ev_w _ _ _ _ _ [] _ _ _ _
        refine ev_r_iconst (pc := 46) (k := 0) (by decide +kernel) ?_
        refine ev_r_istore_n (pc := 47) (k := 3) (by decide +kernel) (by decide +kernel) rfl ?_
        exact jlt_287_48 d hd Q a0 x6 ha0 hx6 K75 hK75 Q 0 (by decide) s22 _ (by exact (ev_l1 e8 (by decide) (by decide))) (by exact (ev_l1 e9 (by decide) (by decide))) (by exact (ev_lk_st1 e10 (by decide) rfl)) (by exact ev_lk_st1_self)
theorem jlt_287_27 (d : Nat) (hd : 4 ≤ d + 1) (Q : Nat) (a0 : Int) (ha0 : ev_rng a0)   : ∀ q : Nat, ∀ (x6 : Int) (hx6 : ev_rng x6), ∀ (s11 : ev_St) (w7 : List (Nat × Value)), ev_lk w7 0 = some (.ref 621) → ev_lk w7 1 = some (.int (Int32.ofInt a0)) → ev_lk w7 2 = some (.int (Int32.ofInt x6)) → ev_w none (ev_Mof 287) d 27 w7 [] s11 (jl_287_27 Q a0  q x6 s11) ev_eI ev_rng := by
  intro q
  induction q with
  | zero =>
    intro x6 hx6 s11 w7 e8 e9 e10
    exact ev_w_none
  | succ q ih => exact jbt_287_27 d hd Q a0 ha0   _ ih
/-- MendBenchModel.runaway(I)I -/
def jm_287 (Q : Nat) (a0 : Int) (S : ev_St) : Option ((Int) × ev_St) := ev_b (ev_pI S 621 0 0) fun s1 => ev_bd (jm_273 Q a0 s1) fun x3 s2 => if x3 ≠ 0 then (ev_bd (jm_283 Q a0 s2) fun _ s5 => jl_287_27 Q a0  Q 10 s5) else (ev_bd (jm_221 Q 1 s2) fun x37 s36 => some (x37, s36))
theorem jt_287 (d : Nat) (hd : 4 ≤ d) (Q : Nat) (a0 : Int) (ha0 : ev_rng a0) (S : ev_St) (x : Int) (S' : ev_St) (hJ : jm_287 Q a0 S = some (x, S')) : ev_Ref d 287 [.ref 621, .int (Int32.ofInt a0)] S (ev_eI x) S' (ev_rng x) := by
  obtain ⟨d, rfl⟩ : ∃ e, d = e + 1 := ⟨d - 1, by omega⟩
  refine ev_ref_of (P := ev_rng) (lv := [(0, .ref 621), (1, .int (Int32.ofInt a0))]) (by decide +kernel) (by (try simp only [ev_sum, ev_nv_cat]); first | done | rfl) (by (try simp only [lv_args, ev_nv_cat]); first | done | rfl) ?_ x S' hJ
  unfold jm_287
  refine ev_r_aload_n (pc := 0) (k := 0) (v := .ref 621) trivial (by decide +kernel) (by rfl) ?_
  refine ev_r_iconst (pc := 1) (k := 0) (by decide +kernel) ?_
  refine ev_r_putI (pc := 2) (y := 321) (ci := 13) (f := 0) (by decide) (by decide +kernel) (by decide +kernel) (by exact ev_ob_621) rfl rfl ?_
  intro s1
  refine ev_r_aload_n (pc := 5) (k := 0) (v := .ref 621) trivial (by decide +kernel) (by rfl) ?_
  refine ev_r_iload_n (pc := 6) (k := 1) (v := Int32.ofInt a0) (by decide +kernel) (by rfl) ?_
  refine ev_r_virt (pc := 7) (y := 531) (mi := 273) (na := 1) (k := 621) (as := [.int (Int32.ofInt a0)]) (rest := []) (encc := ev_oI) (Q := ev_bl) (fun x S1 h => jt_273 d (by omega) Q a0 ha0 s1 x S1 h) (by exact ev_ob_621) (by decide +kernel) (by decide +kernel) (by decide +kernel) (by decide +kernel) rfl (by (try simp only [ev_sum, ev_nv_cat]); first | done | rfl) ?_
  intro x3 s2 hx3
  replace hx3 := ev_bl_rng hx3
  show ev_w _ _ _ _ _ [.int (Int32.ofInt x3)] _ _ _ _
  refine ev_r_if (pc := 10) (q := .ne) (o := 9) (t := 19) (c := x3 ≠ 0) (by decide +kernel) (ev_k_ne hx3 ev_rng0) (by decide +kernel) ?_ ?_
  · intro c4
    refine ev_r_aload_n (pc := 19) (k := 0) (v := .ref 621) trivial (by decide +kernel) (by rfl) ?_
    refine ev_r_iload_n (pc := 20) (k := 1) (v := Int32.ofInt a0) (by decide +kernel) (by rfl) ?_
    refine ev_r_virt (pc := 21) (y := 558) (mi := 283) (na := 1) (k := 621) (as := [.int (Int32.ofInt a0)]) (rest := []) (encc := ev_oU) (Q := ev_PU) (fun x S1 h => jt_283 d (by omega) Q a0 ha0 s2 x S1 h) (by exact ev_ob_621) (by decide +kernel) (by decide +kernel) (by decide +kernel) (by decide +kernel) rfl (by (try simp only [ev_sum, ev_nv_cat]); first | done | rfl) ?_
    intro _ s5 _
    show ev_w _ _ _ _ _ [] _ _ _ _
    refine ev_r_bipush (pc := 24) (k := 10) (by decide +kernel) (by decide +kernel) ?_
    refine ev_r_istore_n (pc := 26) (k := 2) (by decide +kernel) (by decide +kernel) rfl ?_
    exact jlt_287_27 d hd Q a0 ha0   Q 10 (by decide) s5 _ (by exact (ev_l1 (by rfl) (by decide) (by decide))) (by exact (ev_lk_st1 (by rfl) (by decide) rfl)) (by exact ev_lk_st1_self)
  · intro c4
    refine ev_r_aload_n (pc := 13) (k := 0) (v := .ref 621) trivial (by decide +kernel) (by rfl) ?_
    refine ev_r_iconst (pc := 14) (k := 1) (by decide +kernel) ?_
    refine ev_r_virt (pc := 15) (y := 342) (mi := 221) (na := 1) (k := 621) (as := [.int (Int32.ofInt 1)]) (rest := []) (encc := ev_oI) (Q := ev_rng) (fun x S1 h => jt_221 d (by omega) Q 1 (by decide) s2 x S1 h) (by exact ev_ob_621) (by decide +kernel) (by decide +kernel) (by decide +kernel) (by decide +kernel) rfl (by (try simp only [ev_sum, ev_nv_cat]); first | done | rfl) ?_
    intro x37 s36 hx37
    show ev_w _ _ _ _ _ [.int (Int32.ofInt x37)] _ _ _ _
    exact ev_r_ireturn (pc := 18) (x := x37) (v := Int32.ofInt x37) (ty := .int) hx37 (by decide +kernel) (by decide +kernel) rfl rfl
def jb_288_12 (Q : Nat) (a0 : Int)  (K12 : Int → ev_St → Option ((Unit) × ev_St)) (x3 : Int) (s8 : ev_St) : Option ((Unit) × ev_St) := ev_b (s8.1 621 73) fun x9 => if x9 ≤ x3 then (some ((), s8)) else (ev_ck (200 * a0) fun x11 => ev_ck (x11 + x3) fun x12 => ev_if ((0 : Int) ≤ x12 ∧ x12 < (ev_aln 708 : Int)) (ev_b (s8.1 708 (Int.toNat x12)) fun x13 => ev_if ((0 : Int) ≤ x3 ∧ x3 < (ev_aln 678 : Int)) (ev_b (ev_pI s8 678 (Int.toNat x3) x13) fun s14 => ev_ck (x3 + 1) fun x15 => K12 x15 s14)))
def jl_288_12 (Q : Nat) (a0 : Int)  : Nat → Int → ev_St → Option ((Unit) × ev_St)
  | 0 => fun _ _ => none
  | q + 1 => jb_288_12 Q a0  (jl_288_12 Q a0  q)
theorem jbt_288_12 (d : Nat) (hd : 1 ≤ d + 1) (Q : Nat) (a0 : Int) (ha0 : ev_rng a0)   (K12 : Int → ev_St → Option ((Unit) × ev_St)) (hK12 : ∀ (x3 : Int) (hx3 : ev_rng x3), ∀ (s8 : ev_St) (w4 : List (Nat × Value)), ev_lk w4 0 = some (.ref 621) → ev_lk w4 1 = some (.int (Int32.ofInt a0)) → ev_lk w4 2 = some (.int (Int32.ofInt x3)) → ev_w none (ev_Mof 288) d 12 w4 [] s8 (K12 x3 s8) ev_eU ev_PU) : ∀ (x3 : Int) (hx3 : ev_rng x3), ∀ (s8 : ev_St) (w4 : List (Nat × Value)), ev_lk w4 0 = some (.ref 621) → ev_lk w4 1 = some (.int (Int32.ofInt a0)) → ev_lk w4 2 = some (.int (Int32.ofInt x3)) → ev_w none (ev_Mof 288) d 12 w4 [] s8 (jb_288_12 Q a0  K12 x3 s8) ev_eU ev_PU := by
  intro x3 hx3 s8 w4 e5 e6 e7
  unfold jb_288_12
  refine ev_r_iload_n (pc := 12) (k := 2) (v := Int32.ofInt x3) (by decide +kernel) (by exact e7) ?_
  refine ev_r_aload_n (pc := 13) (k := 0) (v := .ref 621) trivial (by decide +kernel) (by exact e5) ?_
  refine ev_r_getI (pc := 14) (y := 567) (ci := 13) (f := 73) (fin := 0) (by decide +kernel) (by decide +kernel) (by exact ev_ob_621) rfl ?_
  intro x9 hx9
  refine ev_r_icmp (pc := 17) (q := .ge) (o := 27) (t := 44) (c := x9 ≤ x3) (by decide +kernel) (ev_k_ge hx3 hx9) (by decide +kernel) ?_ ?_
  · intro c10
    exact ev_r_return (pc := 44) (x := ()) trivial (by decide +kernel) (by decide +kernel) rfl
  · intro c10
    refine ev_r_aload_n (pc := 20) (k := 0) (v := .ref 621) trivial (by decide +kernel) (by exact e5) ?_
    refine ev_r_getC (pc := 21) (y := 181) (ci := 13) (f := 74) (fin := 1) (k' := 678) (by decide +kernel) (by decide +kernel) (by exact ev_ob_621) rfl rfl ?_
    refine ev_r_iload_n (pc := 24) (k := 2) (v := Int32.ofInt x3) (by decide +kernel) (by exact e7) ?_
    refine ev_r_aload_n (pc := 25) (k := 0) (v := .ref 621) trivial (by decide +kernel) (by exact e5) ?_
    refine ev_r_getC (pc := 26) (y := 273) (ci := 13) (f := 120) (fin := 1) (k' := 708) (by decide +kernel) (by decide +kernel) (by exact ev_ob_621) rfl rfl ?_
    refine ev_r_sipush (pc := 29) (k := 200) (by decide +kernel) (by decide +kernel) ?_
    refine ev_r_iload_n (pc := 32) (k := 1) (v := Int32.ofInt a0) (by decide +kernel) (by exact e6) ?_
    refine ev_r_imul (pc := 33) (by decide +kernel) ?_
    intro x11 hx11
    refine ev_r_iload_n (pc := 34) (k := 2) (v := Int32.ofInt x3) (by decide +kernel) (by exact e7) ?_
    refine ev_r_iadd (pc := 35) (by decide +kernel) ?_
    intro x12 hx12
    refine ev_r_iald (pc := 36) hx12 (by decide +kernel) (by exact ev_ab_708) ?_
    intro x13 hx13
    refine ev_r_iast (pc := 37) hx13 hx3 (by decide +kernel) (by exact ev_ab_678) ?_
    intro s14
    refine ev_r_iinc (pc := 38) (k := 2) (c := 1) (x := x3) (by decide +kernel) (by decide +kernel) (by exact e7) (fun _ => rfl) ?_
    intro x15 hx15
    refine ev_r_goto (pc := 41) (o := (-29)) (t := 12) (by decide +kernel) (by decide +kernel) ?_
    exact hK12 x15 hx15 s14 _ (by exact (ev_l1 e5 (by decide) (by decide))) (by exact (ev_lk_st1 e6 (by decide) rfl)) (by exact ev_lk_st1_self)
theorem jlt_288_12 (d : Nat) (hd : 1 ≤ d + 1) (Q : Nat) (a0 : Int) (ha0 : ev_rng a0)   : ∀ q : Nat, ∀ (x3 : Int) (hx3 : ev_rng x3), ∀ (s8 : ev_St) (w4 : List (Nat × Value)), ev_lk w4 0 = some (.ref 621) → ev_lk w4 1 = some (.int (Int32.ofInt a0)) → ev_lk w4 2 = some (.int (Int32.ofInt x3)) → ev_w none (ev_Mof 288) d 12 w4 [] s8 (jl_288_12 Q a0  q x3 s8) ev_eU ev_PU := by
  intro q
  induction q with
  | zero =>
    intro x3 hx3 s8 w4 e5 e6 e7
    exact ev_w_none
  | succ q ih => exact jbt_288_12 d hd Q a0 ha0   _ ih
/-- MendBenchModel.loads(I)V -/
def jm_288 (Q : Nat) (a0 : Int) (S : ev_St) : Option ((Unit) × ev_St) := ev_if ((0 : Int) ≤ a0 ∧ a0 < (ev_aln 707 : Int)) (ev_b (S.1 707 (Int.toNat a0)) fun x1 => ev_b (ev_pI S 621 73 x1) fun s2 => jl_288_12 Q a0  Q 0 s2)
theorem jt_288 (d : Nat) (hd : 1 ≤ d) (Q : Nat) (a0 : Int) (ha0 : ev_rng a0) (S : ev_St) (x : Unit) (S' : ev_St) (hJ : jm_288 Q a0 S = some (x, S')) : ev_Ref d 288 [.ref 621, .int (Int32.ofInt a0)] S (ev_eU x) S' (ev_PU x) := by
  obtain ⟨d, rfl⟩ : ∃ e, d = e + 1 := ⟨d - 1, by omega⟩
  refine ev_ref_of (P := ev_PU) (lv := [(0, .ref 621), (1, .int (Int32.ofInt a0))]) (by decide +kernel) (by (try simp only [ev_sum, ev_nv_cat]); first | done | rfl) (by (try simp only [lv_args, ev_nv_cat]); first | done | rfl) ?_ x S' hJ
  unfold jm_288
  refine ev_r_aload_n (pc := 0) (k := 0) (v := .ref 621) trivial (by decide +kernel) (by rfl) ?_
  refine ev_r_aload_n (pc := 1) (k := 0) (v := .ref 621) trivial (by decide +kernel) (by rfl) ?_
  refine ev_r_getC (pc := 2) (y := 270) (ci := 13) (f := 119) (fin := 1) (k' := 707) (by decide +kernel) (by decide +kernel) (by exact ev_ob_621) rfl rfl ?_
  refine ev_r_iload_n (pc := 5) (k := 1) (v := Int32.ofInt a0) (by decide +kernel) (by rfl) ?_
  refine ev_r_iald (pc := 6) ha0 (by decide +kernel) (by exact ev_ab_707) ?_
  intro x1 hx1
  refine ev_r_putI (pc := 7) (y := 567) (ci := 13) (f := 73) hx1 (by decide +kernel) (by decide +kernel) (by exact ev_ob_621) rfl rfl ?_
  intro s2
  refine ev_r_iconst (pc := 10) (k := 0) (by decide +kernel) ?_
  refine ev_r_istore_n (pc := 11) (k := 2) (by decide +kernel) (by decide +kernel) rfl ?_
  exact jlt_288_12 d hd Q a0 ha0   Q 0 (by decide) s2 _ (by exact (ev_l1 (by rfl) (by decide) (by decide))) (by exact (ev_lk_st1 (by rfl) (by decide) rfl)) (by exact ev_lk_st1_self)
/-- MendBenchModel.isWordAt(I)Z -/
def jm_289 (Q : Nat) (a0 : Int) (S : ev_St) : Option ((Int) × ev_St) := ev_b (S.1 621 73) fun x1 => ev_ck (x1 - 1) fun x2 => ev_bd (jm_222 Q a0 0 x2 S) fun x4 s3 => if x4 = 0 then (some (0, s3)) else (ev_if ((0 : Int) ≤ a0 ∧ a0 < (ev_aln 678 : Int)) (ev_b (s3.1 678 (Int.toNat a0)) fun x6 => ev_bd (jm_227 Q x6 s3) fun x8 s7 => if x8 = 0 then (some (0, s7)) else (some (1, s7))))
theorem jt_289 (d : Nat) (hd : 5 ≤ d) (Q : Nat) (a0 : Int) (ha0 : ev_rng a0) (S : ev_St) (x : Int) (S' : ev_St) (hJ : jm_289 Q a0 S = some (x, S')) : ev_Ref d 289 [.ref 621, .int (Int32.ofInt a0)] S (ev_eI x) S' (ev_bl x) := by
  obtain ⟨d, rfl⟩ : ∃ e, d = e + 1 := ⟨d - 1, by omega⟩
  refine ev_ref_of (P := ev_bl) (lv := [(0, .ref 621), (1, .int (Int32.ofInt a0))]) (by decide +kernel) (by (try simp only [ev_sum, ev_nv_cat]); first | done | rfl) (by (try simp only [lv_args, ev_nv_cat]); first | done | rfl) ?_ x S' hJ
  unfold jm_289
  refine ev_r_iload_n (pc := 0) (k := 1) (v := Int32.ofInt a0) (by decide +kernel) (by rfl) ?_
  refine ev_r_iconst (pc := 1) (k := 0) (by decide +kernel) ?_
  refine ev_r_aload_n (pc := 2) (k := 0) (v := .ref 621) trivial (by decide +kernel) (by rfl) ?_
  refine ev_r_getI (pc := 3) (y := 567) (ci := 13) (f := 73) (fin := 0) (by decide +kernel) (by decide +kernel) (by exact ev_ob_621) rfl ?_
  intro x1 hx1
  refine ev_r_iconst (pc := 6) (k := 1) (by decide +kernel) ?_
  refine ev_r_isub (pc := 7) (by decide +kernel) ?_
  intro x2 hx2
  refine ev_r_stat (pc := 8) (y := 325) (kind := 2) (mi := 222) (na := 3) (as := [.int (Int32.ofInt a0), .int (Int32.ofInt 0), .int (Int32.ofInt x2)]) (rest := []) (encc := ev_oI) (Q := ev_bl) (fun x S1 h => jt_222 d (by omega) Q a0 0 x2 ha0 (by decide) hx2 S x S1 h) (Or.inl rfl) (by decide +kernel) (by decide +kernel) (by decide +kernel) (by decide +kernel) rfl (by (try simp only [ev_sum, ev_nv_cat]); first | done | rfl) ?_
  intro x4 s3 hx4
  replace hx4 := ev_bl_rng hx4
  show ev_w _ _ _ _ _ [.int (Int32.ofInt x4)] _ _ _ _
  refine ev_r_if (pc := 11) (q := .eq) (o := 19) (t := 30) (c := x4 = 0) (by decide +kernel) (ev_k_eq hx4 ev_rng0) (by decide +kernel) ?_ ?_
  · intro c5
    refine ev_r_iconst (pc := 30) (k := 0) (by decide +kernel) ?_
    exact ev_r_ireturn (pc := 31) (x := 0) (v := Int32.ofInt 0) (ty := .boolean) (by decide : ev_bl 0) (by decide +kernel) (by decide +kernel) (ev_ret_bl (by decide : ev_bl 0)) rfl
  · intro c5
    refine ev_r_aload_n (pc := 14) (k := 0) (v := .ref 621) trivial (by decide +kernel) (by rfl) ?_
    refine ev_r_getC (pc := 15) (y := 181) (ci := 13) (f := 74) (fin := 1) (k' := 678) (by decide +kernel) (by decide +kernel) (by exact ev_ob_621) rfl rfl ?_
    refine ev_r_iload_n (pc := 18) (k := 1) (v := Int32.ofInt a0) (by decide +kernel) (by rfl) ?_
    refine ev_r_iald (pc := 19) ha0 (by decide +kernel) (by exact ev_ab_678) ?_
    intro x6 hx6
    refine ev_r_stat (pc := 20) (y := 404) (kind := 2) (mi := 227) (na := 1) (as := [.int (Int32.ofInt x6)]) (rest := []) (encc := ev_oI) (Q := ev_bl) (fun x S1 h => jt_227 d (by omega) Q x6 hx6 s3 x S1 h) (Or.inl rfl) (by decide +kernel) (by decide +kernel) (by decide +kernel) (by decide +kernel) rfl (by (try simp only [ev_sum, ev_nv_cat]); first | done | rfl) ?_
    intro x8 s7 hx8
    replace hx8 := ev_bl_rng hx8
    show ev_w _ _ _ _ _ [.int (Int32.ofInt x8)] _ _ _ _
    refine ev_r_if (pc := 23) (q := .eq) (o := 7) (t := 30) (c := x8 = 0) (by decide +kernel) (ev_k_eq hx8 ev_rng0) (by decide +kernel) ?_ ?_
    · intro c9
      refine ev_r_iconst (pc := 30) (k := 0) (by decide +kernel) ?_
      exact ev_r_ireturn (pc := 31) (x := 0) (v := Int32.ofInt 0) (ty := .boolean) (by decide : ev_bl 0) (by decide +kernel) (by decide +kernel) (ev_ret_bl (by decide : ev_bl 0)) rfl
    · intro c9
      refine ev_r_iconst (pc := 26) (k := 1) (by decide +kernel) ?_
      refine ev_r_goto (pc := 27) (o := 4) (t := 31) (by decide +kernel) (by decide +kernel) ?_
      exact ev_r_ireturn (pc := 31) (x := 1) (v := Int32.ofInt 1) (ty := .boolean) (by decide : ev_bl 1) (by decide +kernel) (by decide +kernel) (ev_ret_bl (by decide : ev_bl 1)) rfl
/-- MendBenchModel.step1()V -/
def jm_290 (Q : Nat)  (S : ev_St) : Option ((Unit) × ev_St) := ev_b (S.1 621 75) fun x1 => ev_ck (x1 + 1) fun x2 => ev_b (ev_pI S 621 75 x2) fun s3 => ev_b (s3.1 621 76) fun x4 => if x4 ≠ 0 then (ev_b (ev_pI s3 621 76 1) fun s6 => some ((), s6)) else (ev_b (s3.1 621 75) fun x7 => if x7 ≤ 1000 then (ev_b (ev_pI s3 621 76 0) fun s9 => some ((), s9)) else (ev_b (ev_pI s3 621 76 1) fun s10 => some ((), s10)))
theorem jt_290 (d : Nat) (hd : 1 ≤ d) (Q : Nat)   (S : ev_St) (x : Unit) (S' : ev_St) (hJ : jm_290 Q  S = some (x, S')) : ev_Ref d 290 [.ref 621] S (ev_eU x) S' (ev_PU x) := by
  obtain ⟨d, rfl⟩ : ∃ e, d = e + 1 := ⟨d - 1, by omega⟩
  refine ev_ref_of (P := ev_PU) (lv := [(0, .ref 621)]) (by decide +kernel) (by (try simp only [ev_sum, ev_nv_cat]); first | done | rfl) (by (try simp only [lv_args, ev_nv_cat]); first | done | rfl) ?_ x S' hJ
  unfold jm_290
  refine ev_r_aload_n (pc := 0) (k := 0) (v := .ref 621) trivial (by decide +kernel) (by rfl) ?_
  refine ev_r_dup (pc := 1) rfl (by decide +kernel) ?_
  refine ev_r_getI (pc := 2) (y := 570) (ci := 13) (f := 75) (fin := 0) (by decide +kernel) (by decide +kernel) (by exact ev_ob_621) rfl ?_
  intro x1 hx1
  refine ev_r_iconst (pc := 5) (k := 1) (by decide +kernel) ?_
  refine ev_r_iadd (pc := 6) (by decide +kernel) ?_
  intro x2 hx2
  refine ev_r_putI (pc := 7) (y := 570) (ci := 13) (f := 75) hx2 (by decide +kernel) (by decide +kernel) (by exact ev_ob_621) rfl rfl ?_
  intro s3
  refine ev_r_aload_n (pc := 10) (k := 0) (v := .ref 621) trivial (by decide +kernel) (by rfl) ?_
  refine ev_r_aload_n (pc := 11) (k := 0) (v := .ref 621) trivial (by decide +kernel) (by rfl) ?_
  refine ev_r_getI (pc := 12) (y := 573) (ci := 13) (f := 76) (fin := 0) (by decide +kernel) (by decide +kernel) (by exact ev_ob_621) rfl ?_
  intro x4 hx4
  refine ev_r_if (pc := 15) (q := .ne) (o := 13) (t := 28) (c := x4 ≠ 0) (by decide +kernel) (ev_k_ne hx4 ev_rng0) (by decide +kernel) ?_ ?_
  · intro c5
    refine ev_r_iconst (pc := 28) (k := 1) (by decide +kernel) ?_
    refine ev_r_goto (pc := 29) (o := 4) (t := 33) (by decide +kernel) (by decide +kernel) ?_
    refine ev_r_putI (pc := 33) (y := 573) (ci := 13) (f := 76) (by decide) (by decide +kernel) (by decide +kernel) (by exact ev_ob_621) rfl (ev_fit_bl (by decide : ev_bl 1)) ?_
    intro s6
    exact ev_r_return (pc := 36) (x := ()) trivial (by decide +kernel) (by decide +kernel) rfl
  · intro c5
    refine ev_r_aload_n (pc := 18) (k := 0) (v := .ref 621) trivial (by decide +kernel) (by rfl) ?_
    refine ev_r_getI (pc := 19) (y := 570) (ci := 13) (f := 75) (fin := 0) (by decide +kernel) (by decide +kernel) (by exact ev_ob_621) rfl ?_
    intro x7 hx7
    refine ev_r_sipush (pc := 22) (k := 1000) (by decide +kernel) (by decide +kernel) ?_
    refine ev_r_icmp (pc := 25) (q := .le) (o := 7) (t := 32) (c := x7 ≤ 1000) (by decide +kernel) (ev_k_le hx7 (by decide)) (by decide +kernel) ?_ ?_
    · intro c8
      refine ev_r_iconst (pc := 32) (k := 0) (by decide +kernel) ?_
      refine ev_r_putI (pc := 33) (y := 573) (ci := 13) (f := 76) (by decide) (by decide +kernel) (by decide +kernel) (by exact ev_ob_621) rfl (ev_fit_bl (by decide : ev_bl 0)) ?_
      intro s9
      exact ev_r_return (pc := 36) (x := ()) trivial (by decide +kernel) (by decide +kernel) rfl
    · intro c8
      refine ev_r_iconst (pc := 28) (k := 1) (by decide +kernel) ?_
      refine ev_r_goto (pc := 29) (o := 4) (t := 33) (by decide +kernel) (by decide +kernel) ?_
      refine ev_r_putI (pc := 33) (y := 573) (ci := 13) (f := 76) (by decide) (by decide +kernel) (by decide +kernel) (by exact ev_ob_621) rfl (ev_fit_bl (by decide : ev_bl 1)) ?_
      intro s10
      exact ev_r_return (pc := 36) (x := ()) trivial (by decide +kernel) (by decide +kernel) rfl
/-- MendBenchModel.frame(IIIIII)I -/
def jm_291 (Q : Nat) (a0 : Int) (a1 : Int) (a2 : Int) (a3 : Int) (a4 : Int) (a5 : Int) (S : ev_St) : Option ((Int) × ev_St) := ev_b (S.1 621 88) fun x1 => ev_if ((0 : Int) ≤ x1 ∧ x1 < (ev_aln 681 : Int)) (ev_b (ev_pI S 681 (Int.toNat x1) a0) fun s2 => ev_b (s2.1 621 88) fun x3 => ev_if ((0 : Int) ≤ x3 ∧ x3 < (ev_aln 682 : Int)) (ev_b (ev_pI s2 682 (Int.toNat x3) a1) fun s4 => ev_b (s4.1 621 88) fun x5 => ev_if ((0 : Int) ≤ x5 ∧ x5 < (ev_aln 683 : Int)) (ev_b (ev_pI s4 683 (Int.toNat x5) a2) fun s6 => ev_b (s6.1 621 88) fun x7 => ev_if ((0 : Int) ≤ x7 ∧ x7 < (ev_aln 684 : Int)) (ev_b (ev_pI s6 684 (Int.toNat x7) a3) fun s8 => ev_b (s8.1 621 88) fun x9 => ev_if ((0 : Int) ≤ x9 ∧ x9 < (ev_aln 685 : Int)) (ev_b (ev_pI s8 685 (Int.toNat x9) a4) fun s10 => ev_b (s10.1 621 88) fun x11 => ev_if ((0 : Int) ≤ x11 ∧ x11 < (ev_aln 686 : Int)) (ev_b (ev_pI s10 686 (Int.toNat x11) a5) fun s12 => ev_b (s12.1 621 88) fun x13 => ev_ck (x13 + 1) fun x14 => ev_b (ev_pI s12 621 88 x14) fun s15 => ev_b (s15.1 621 88) fun x16 => ev_ck (x16 - 1) fun x17 => some (x17, s15)))))))
theorem jt_291 (d : Nat) (hd : 1 ≤ d) (Q : Nat) (a0 : Int) (a1 : Int) (a2 : Int) (a3 : Int) (a4 : Int) (a5 : Int) (ha0 : ev_rng a0) (ha1 : ev_rng a1) (ha2 : ev_rng a2) (ha3 : ev_rng a3) (ha4 : ev_rng a4) (ha5 : ev_rng a5) (S : ev_St) (x : Int) (S' : ev_St) (hJ : jm_291 Q a0 a1 a2 a3 a4 a5 S = some (x, S')) : ev_Ref d 291 [.ref 621, .int (Int32.ofInt a0), .int (Int32.ofInt a1), .int (Int32.ofInt a2), .int (Int32.ofInt a3), .int (Int32.ofInt a4), .int (Int32.ofInt a5)] S (ev_eI x) S' (ev_rng x) := by
  obtain ⟨d, rfl⟩ : ∃ e, d = e + 1 := ⟨d - 1, by omega⟩
  refine ev_ref_of (P := ev_rng) (lv := [(0, .ref 621), (1, .int (Int32.ofInt a0)), (2, .int (Int32.ofInt a1)), (3, .int (Int32.ofInt a2)), (4, .int (Int32.ofInt a3)), (5, .int (Int32.ofInt a4)), (6, .int (Int32.ofInt a5))]) (by decide +kernel) (by (try simp only [ev_sum, ev_nv_cat]); first | done | rfl) (by (try simp only [lv_args, ev_nv_cat]); first | done | rfl) ?_ x S' hJ
  unfold jm_291
  refine ev_r_aload_n (pc := 0) (k := 0) (v := .ref 621) trivial (by decide +kernel) (by rfl) ?_
  refine ev_r_getC (pc := 1) (y := 191) (ci := 13) (f := 89) (fin := 1) (k' := 681) (by decide +kernel) (by decide +kernel) (by exact ev_ob_621) rfl rfl ?_
  refine ev_r_aload_n (pc := 4) (k := 0) (v := .ref 621) trivial (by decide +kernel) (by rfl) ?_
  refine ev_r_getI (pc := 5) (y := 576) (ci := 13) (f := 88) (fin := 0) (by decide +kernel) (by decide +kernel) (by exact ev_ob_621) rfl ?_
  intro x1 hx1
  refine ev_r_iload_n (pc := 8) (k := 1) (v := Int32.ofInt a0) (by decide +kernel) (by rfl) ?_
  refine ev_r_iast (pc := 9) ha0 hx1 (by decide +kernel) (by exact ev_ab_681) ?_
  intro s2
  refine ev_r_aload_n (pc := 10) (k := 0) (v := .ref 621) trivial (by decide +kernel) (by rfl) ?_
  refine ev_r_getC (pc := 11) (y := 194) (ci := 13) (f := 90) (fin := 1) (k' := 682) (by decide +kernel) (by decide +kernel) (by exact ev_ob_621) rfl rfl ?_
  refine ev_r_aload_n (pc := 14) (k := 0) (v := .ref 621) trivial (by decide +kernel) (by rfl) ?_
  refine ev_r_getI (pc := 15) (y := 576) (ci := 13) (f := 88) (fin := 0) (by decide +kernel) (by decide +kernel) (by exact ev_ob_621) rfl ?_
  intro x3 hx3
  refine ev_r_iload_n (pc := 18) (k := 2) (v := Int32.ofInt a1) (by decide +kernel) (by rfl) ?_
  refine ev_r_iast (pc := 19) ha1 hx3 (by decide +kernel) (by exact ev_ab_682) ?_
  intro s4
  refine ev_r_aload_n (pc := 20) (k := 0) (v := .ref 621) trivial (by decide +kernel) (by rfl) ?_
  refine ev_r_getC (pc := 21) (y := 197) (ci := 13) (f := 91) (fin := 1) (k' := 683) (by decide +kernel) (by decide +kernel) (by exact ev_ob_621) rfl rfl ?_
  refine ev_r_aload_n (pc := 24) (k := 0) (v := .ref 621) trivial (by decide +kernel) (by rfl) ?_
  refine ev_r_getI (pc := 25) (y := 576) (ci := 13) (f := 88) (fin := 0) (by decide +kernel) (by decide +kernel) (by exact ev_ob_621) rfl ?_
  intro x5 hx5
  refine ev_r_iload_n (pc := 28) (k := 3) (v := Int32.ofInt a2) (by decide +kernel) (by rfl) ?_
  refine ev_r_iast (pc := 29) ha2 hx5 (by decide +kernel) (by exact ev_ab_683) ?_
  intro s6
  refine ev_r_aload_n (pc := 30) (k := 0) (v := .ref 621) trivial (by decide +kernel) (by rfl) ?_
  refine ev_r_getC (pc := 31) (y := 200) (ci := 13) (f := 92) (fin := 1) (k' := 684) (by decide +kernel) (by decide +kernel) (by exact ev_ob_621) rfl rfl ?_
  refine ev_r_aload_n (pc := 34) (k := 0) (v := .ref 621) trivial (by decide +kernel) (by rfl) ?_
  refine ev_r_getI (pc := 35) (y := 576) (ci := 13) (f := 88) (fin := 0) (by decide +kernel) (by decide +kernel) (by exact ev_ob_621) rfl ?_
  intro x7 hx7
  refine ev_r_iload (pc := 38) (k := 4) (v := Int32.ofInt a3) (by decide +kernel) (by rfl) ?_
  refine ev_r_iast (pc := 40) ha3 hx7 (by decide +kernel) (by exact ev_ab_684) ?_
  intro s8
  refine ev_r_aload_n (pc := 41) (k := 0) (v := .ref 621) trivial (by decide +kernel) (by rfl) ?_
  refine ev_r_getC (pc := 42) (y := 203) (ci := 13) (f := 93) (fin := 1) (k' := 685) (by decide +kernel) (by decide +kernel) (by exact ev_ob_621) rfl rfl ?_
  refine ev_r_aload_n (pc := 45) (k := 0) (v := .ref 621) trivial (by decide +kernel) (by rfl) ?_
  refine ev_r_getI (pc := 46) (y := 576) (ci := 13) (f := 88) (fin := 0) (by decide +kernel) (by decide +kernel) (by exact ev_ob_621) rfl ?_
  intro x9 hx9
  refine ev_r_iload (pc := 49) (k := 5) (v := Int32.ofInt a4) (by decide +kernel) (by rfl) ?_
  refine ev_r_iast (pc := 51) ha4 hx9 (by decide +kernel) (by exact ev_ab_685) ?_
  intro s10
  refine ev_r_aload_n (pc := 52) (k := 0) (v := .ref 621) trivial (by decide +kernel) (by rfl) ?_
  refine ev_r_getC (pc := 53) (y := 206) (ci := 13) (f := 94) (fin := 1) (k' := 686) (by decide +kernel) (by decide +kernel) (by exact ev_ob_621) rfl rfl ?_
  refine ev_r_aload_n (pc := 56) (k := 0) (v := .ref 621) trivial (by decide +kernel) (by rfl) ?_
  refine ev_r_getI (pc := 57) (y := 576) (ci := 13) (f := 88) (fin := 0) (by decide +kernel) (by decide +kernel) (by exact ev_ob_621) rfl ?_
  intro x11 hx11
  refine ev_r_iload (pc := 60) (k := 6) (v := Int32.ofInt a5) (by decide +kernel) (by rfl) ?_
  refine ev_r_iast (pc := 62) ha5 hx11 (by decide +kernel) (by exact ev_ab_686) ?_
  intro s12
  refine ev_r_aload_n (pc := 63) (k := 0) (v := .ref 621) trivial (by decide +kernel) (by rfl) ?_
  refine ev_r_dup (pc := 64) rfl (by decide +kernel) ?_
  refine ev_r_getI (pc := 65) (y := 576) (ci := 13) (f := 88) (fin := 0) (by decide +kernel) (by decide +kernel) (by exact ev_ob_621) rfl ?_
  intro x13 hx13
  refine ev_r_iconst (pc := 68) (k := 1) (by decide +kernel) ?_
  refine ev_r_iadd (pc := 69) (by decide +kernel) ?_
  intro x14 hx14
  refine ev_r_putI (pc := 70) (y := 576) (ci := 13) (f := 88) hx14 (by decide +kernel) (by decide +kernel) (by exact ev_ob_621) rfl rfl ?_
  intro s15
  refine ev_r_aload_n (pc := 73) (k := 0) (v := .ref 621) trivial (by decide +kernel) (by rfl) ?_
  refine ev_r_getI (pc := 74) (y := 576) (ci := 13) (f := 88) (fin := 0) (by decide +kernel) (by decide +kernel) (by exact ev_ob_621) rfl ?_
  intro x16 hx16
  refine ev_r_iconst (pc := 77) (k := 1) (by decide +kernel) ?_
  refine ev_r_isub (pc := 78) (by decide +kernel) ?_
  intro x17 hx17
  exact ev_r_ireturn (pc := 79) (x := x17) (v := Int32.ofInt x17) (ty := .int) hx17 (by decide +kernel) (by decide +kernel) rfl rfl
/-- MendBenchModel.chooses(III)V -/
def jm_292 (Q : Nat) (a0 : Int) (a1 : Int) (a2 : Int) (S : ev_St) : Option ((Unit) × ev_St) := ev_b (S.1 621 95) fun x1 => ev_if ((0 : Int) ≤ x1 ∧ x1 < (ev_aln 687 : Int)) (ev_b (ev_pI S 687 (Int.toNat x1) a0) fun s2 => ev_b (s2.1 621 95) fun x3 => ev_if ((0 : Int) ≤ x3 ∧ x3 < (ev_aln 688 : Int)) (ev_b (ev_pI s2 688 (Int.toNat x3) a1) fun s4 => ev_b (s4.1 621 95) fun x5 => ev_if ((0 : Int) ≤ x5 ∧ x5 < (ev_aln 689 : Int)) (ev_b (ev_pI s4 689 (Int.toNat x5) a2) fun s6 => ev_b (s6.1 621 95) fun x7 => ev_b (s6.1 621 81) fun x8 => ev_if ((0 : Int) ≤ x7 ∧ x7 < (ev_aln 690 : Int)) (ev_b (ev_pI s6 690 (Int.toNat x7) x8) fun s9 => ev_b (s9.1 621 95) fun x10 => ev_b (s9.1 621 82) fun x11 => ev_if ((0 : Int) ≤ x10 ∧ x10 < (ev_aln 691 : Int)) (ev_b (ev_pI s9 691 (Int.toNat x10) x11) fun s12 => ev_b (s12.1 621 95) fun x13 => ev_b (s12.1 621 83) fun x14 => ev_if ((0 : Int) ≤ x13 ∧ x13 < (ev_aln 692 : Int)) (ev_b (ev_pI s12 692 (Int.toNat x13) x14) fun s15 => ev_b (s15.1 621 95) fun x16 => ev_b (s15.1 621 84) fun x17 => ev_if ((0 : Int) ≤ x16 ∧ x16 < (ev_aln 693 : Int)) (ev_b (ev_pI s15 693 (Int.toNat x16) x17) fun s18 => ev_b (s18.1 621 95) fun x19 => ev_b (s18.1 621 88) fun x20 => ev_if ((0 : Int) ≤ x19 ∧ x19 < (ev_aln 694 : Int)) (ev_b (ev_pI s18 694 (Int.toNat x19) x20) fun s21 => ev_b (s21.1 621 95) fun x22 => ev_b (s21.1 621 105) fun x23 => ev_if ((0 : Int) ≤ x22 ∧ x22 < (ev_aln 695 : Int)) (ev_b (ev_pI s21 695 (Int.toNat x22) x23) fun s24 => ev_b (s24.1 621 95) fun x25 => ev_ck (x25 + 1) fun x26 => ev_b (ev_pI s24 621 95 x26) fun s27 => some ((), s27))))))))))
theorem jt_292 (d : Nat) (hd : 1 ≤ d) (Q : Nat) (a0 : Int) (a1 : Int) (a2 : Int) (ha0 : ev_rng a0) (ha1 : ev_rng a1) (ha2 : ev_rng a2) (S : ev_St) (x : Unit) (S' : ev_St) (hJ : jm_292 Q a0 a1 a2 S = some (x, S')) : ev_Ref d 292 [.ref 621, .int (Int32.ofInt a0), .int (Int32.ofInt a1), .int (Int32.ofInt a2)] S (ev_eU x) S' (ev_PU x) := by
  obtain ⟨d, rfl⟩ : ∃ e, d = e + 1 := ⟨d - 1, by omega⟩
  refine ev_ref_of (P := ev_PU) (lv := [(0, .ref 621), (1, .int (Int32.ofInt a0)), (2, .int (Int32.ofInt a1)), (3, .int (Int32.ofInt a2))]) (by decide +kernel) (by (try simp only [ev_sum, ev_nv_cat]); first | done | rfl) (by (try simp only [lv_args, ev_nv_cat]); first | done | rfl) ?_ x S' hJ
  unfold jm_292
  refine ev_r_aload_n (pc := 0) (k := 0) (v := .ref 621) trivial (by decide +kernel) (by rfl) ?_
  refine ev_r_getC (pc := 1) (y := 210) (ci := 13) (f := 96) (fin := 1) (k' := 687) (by decide +kernel) (by decide +kernel) (by exact ev_ob_621) rfl rfl ?_
  refine ev_r_aload_n (pc := 4) (k := 0) (v := .ref 621) trivial (by decide +kernel) (by rfl) ?_
  refine ev_r_getI (pc := 5) (y := 579) (ci := 13) (f := 95) (fin := 0) (by decide +kernel) (by decide +kernel) (by exact ev_ob_621) rfl ?_
  intro x1 hx1
  refine ev_r_iload_n (pc := 8) (k := 1) (v := Int32.ofInt a0) (by decide +kernel) (by rfl) ?_
  refine ev_r_iast (pc := 9) ha0 hx1 (by decide +kernel) (by exact ev_ab_687) ?_
  intro s2
  refine ev_r_aload_n (pc := 10) (k := 0) (v := .ref 621) trivial (by decide +kernel) (by rfl) ?_
  refine ev_r_getC (pc := 11) (y := 213) (ci := 13) (f := 97) (fin := 1) (k' := 688) (by decide +kernel) (by decide +kernel) (by exact ev_ob_621) rfl rfl ?_
  refine ev_r_aload_n (pc := 14) (k := 0) (v := .ref 621) trivial (by decide +kernel) (by rfl) ?_
  refine ev_r_getI (pc := 15) (y := 579) (ci := 13) (f := 95) (fin := 0) (by decide +kernel) (by decide +kernel) (by exact ev_ob_621) rfl ?_
  intro x3 hx3
  refine ev_r_iload_n (pc := 18) (k := 2) (v := Int32.ofInt a1) (by decide +kernel) (by rfl) ?_
  refine ev_r_iast (pc := 19) ha1 hx3 (by decide +kernel) (by exact ev_ab_688) ?_
  intro s4
  refine ev_r_aload_n (pc := 20) (k := 0) (v := .ref 621) trivial (by decide +kernel) (by rfl) ?_
  refine ev_r_getC (pc := 21) (y := 216) (ci := 13) (f := 98) (fin := 1) (k' := 689) (by decide +kernel) (by decide +kernel) (by exact ev_ob_621) rfl rfl ?_
  refine ev_r_aload_n (pc := 24) (k := 0) (v := .ref 621) trivial (by decide +kernel) (by rfl) ?_
  refine ev_r_getI (pc := 25) (y := 579) (ci := 13) (f := 95) (fin := 0) (by decide +kernel) (by decide +kernel) (by exact ev_ob_621) rfl ?_
  intro x5 hx5
  refine ev_r_iload_n (pc := 28) (k := 3) (v := Int32.ofInt a2) (by decide +kernel) (by rfl) ?_
  refine ev_r_iast (pc := 29) ha2 hx5 (by decide +kernel) (by exact ev_ab_689) ?_
  intro s6
  refine ev_r_aload_n (pc := 30) (k := 0) (v := .ref 621) trivial (by decide +kernel) (by rfl) ?_
  refine ev_r_getC (pc := 31) (y := 219) (ci := 13) (f := 99) (fin := 1) (k' := 690) (by decide +kernel) (by decide +kernel) (by exact ev_ob_621) rfl rfl ?_
  refine ev_r_aload_n (pc := 34) (k := 0) (v := .ref 621) trivial (by decide +kernel) (by rfl) ?_
  refine ev_r_getI (pc := 35) (y := 579) (ci := 13) (f := 95) (fin := 0) (by decide +kernel) (by decide +kernel) (by exact ev_ob_621) rfl ?_
  intro x7 hx7
  refine ev_r_aload_n (pc := 38) (k := 0) (v := .ref 621) trivial (by decide +kernel) (by rfl) ?_
  refine ev_r_getI (pc := 39) (y := 582) (ci := 13) (f := 81) (fin := 0) (by decide +kernel) (by decide +kernel) (by exact ev_ob_621) rfl ?_
  intro x8 hx8
  refine ev_r_iast (pc := 42) hx8 hx7 (by decide +kernel) (by exact ev_ab_690) ?_
  intro s9
  refine ev_r_aload_n (pc := 43) (k := 0) (v := .ref 621) trivial (by decide +kernel) (by rfl) ?_
  refine ev_r_getC (pc := 44) (y := 222) (ci := 13) (f := 100) (fin := 1) (k' := 691) (by decide +kernel) (by decide +kernel) (by exact ev_ob_621) rfl rfl ?_
  refine ev_r_aload_n (pc := 47) (k := 0) (v := .ref 621) trivial (by decide +kernel) (by rfl) ?_
  refine ev_r_getI (pc := 48) (y := 579) (ci := 13) (f := 95) (fin := 0) (by decide +kernel) (by decide +kernel) (by exact ev_ob_621) rfl ?_
  intro x10 hx10
  refine ev_r_aload_n (pc := 51) (k := 0) (v := .ref 621) trivial (by decide +kernel) (by rfl) ?_
  refine ev_r_getI (pc := 52) (y := 585) (ci := 13) (f := 82) (fin := 0) (by decide +kernel) (by decide +kernel) (by exact ev_ob_621) rfl ?_
  intro x11 hx11
  refine ev_r_iast (pc := 55) hx11 hx10 (by decide +kernel) (by exact ev_ab_691) ?_
  intro s12
  refine ev_r_aload_n (pc := 56) (k := 0) (v := .ref 621) trivial (by decide +kernel) (by rfl) ?_
  refine ev_r_getC (pc := 57) (y := 225) (ci := 13) (f := 101) (fin := 1) (k' := 692) (by decide +kernel) (by decide +kernel) (by exact ev_ob_621) rfl rfl ?_
  refine ev_r_aload_n (pc := 60) (k := 0) (v := .ref 621) trivial (by decide +kernel) (by rfl) ?_
  refine ev_r_getI (pc := 61) (y := 579) (ci := 13) (f := 95) (fin := 0) (by decide +kernel) (by decide +kernel) (by exact ev_ob_621) rfl ?_
  intro x13 hx13
  refine ev_r_aload_n (pc := 64) (k := 0) (v := .ref 621) trivial (by decide +kernel) (by rfl) ?_
  refine ev_r_getI (pc := 65) (y := 588) (ci := 13) (f := 83) (fin := 0) (by decide +kernel) (by decide +kernel) (by exact ev_ob_621) rfl ?_
  intro x14 hx14
  refine ev_r_iast (pc := 68) hx14 hx13 (by decide +kernel) (by exact ev_ab_692) ?_
  intro s15
  refine ev_r_aload_n (pc := 69) (k := 0) (v := .ref 621) trivial (by decide +kernel) (by rfl) ?_
  refine ev_r_getC (pc := 70) (y := 228) (ci := 13) (f := 102) (fin := 1) (k' := 693) (by decide +kernel) (by decide +kernel) (by exact ev_ob_621) rfl rfl ?_
  refine ev_r_aload_n (pc := 73) (k := 0) (v := .ref 621) trivial (by decide +kernel) (by rfl) ?_
  refine ev_r_getI (pc := 74) (y := 579) (ci := 13) (f := 95) (fin := 0) (by decide +kernel) (by decide +kernel) (by exact ev_ob_621) rfl ?_
  intro x16 hx16
  refine ev_r_aload_n (pc := 77) (k := 0) (v := .ref 621) trivial (by decide +kernel) (by rfl) ?_
  refine ev_r_getI (pc := 78) (y := 591) (ci := 13) (f := 84) (fin := 0) (by decide +kernel) (by decide +kernel) (by exact ev_ob_621) rfl ?_
  intro x17 hx17
  refine ev_r_iast (pc := 81) hx17 hx16 (by decide +kernel) (by exact ev_ab_693) ?_
  intro s18
  refine ev_r_aload_n (pc := 82) (k := 0) (v := .ref 621) trivial (by decide +kernel) (by rfl) ?_
  refine ev_r_getC (pc := 83) (y := 231) (ci := 13) (f := 103) (fin := 1) (k' := 694) (by decide +kernel) (by decide +kernel) (by exact ev_ob_621) rfl rfl ?_
  refine ev_r_aload_n (pc := 86) (k := 0) (v := .ref 621) trivial (by decide +kernel) (by rfl) ?_
  refine ev_r_getI (pc := 87) (y := 579) (ci := 13) (f := 95) (fin := 0) (by decide +kernel) (by decide +kernel) (by exact ev_ob_621) rfl ?_
  intro x19 hx19
  refine ev_r_aload_n (pc := 90) (k := 0) (v := .ref 621) trivial (by decide +kernel) (by rfl) ?_
  refine ev_r_getI (pc := 91) (y := 576) (ci := 13) (f := 88) (fin := 0) (by decide +kernel) (by decide +kernel) (by exact ev_ob_621) rfl ?_
  intro x20 hx20
  refine ev_r_iast (pc := 94) hx20 hx19 (by decide +kernel) (by exact ev_ab_694) ?_
  intro s21
  refine ev_r_aload_n (pc := 95) (k := 0) (v := .ref 621) trivial (by decide +kernel) (by rfl) ?_
  refine ev_r_getC (pc := 96) (y := 234) (ci := 13) (f := 104) (fin := 1) (k' := 695) (by decide +kernel) (by decide +kernel) (by exact ev_ob_621) rfl rfl ?_
  refine ev_r_aload_n (pc := 99) (k := 0) (v := .ref 621) trivial (by decide +kernel) (by rfl) ?_
  refine ev_r_getI (pc := 100) (y := 579) (ci := 13) (f := 95) (fin := 0) (by decide +kernel) (by decide +kernel) (by exact ev_ob_621) rfl ?_
  intro x22 hx22
  refine ev_r_aload_n (pc := 103) (k := 0) (v := .ref 621) trivial (by decide +kernel) (by rfl) ?_
  refine ev_r_getI (pc := 104) (y := 594) (ci := 13) (f := 105) (fin := 0) (by decide +kernel) (by decide +kernel) (by exact ev_ob_621) rfl ?_
  intro x23 hx23
  refine ev_r_iast (pc := 107) hx23 hx22 (by decide +kernel) (by exact ev_ab_695) ?_
  intro s24
  refine ev_r_aload_n (pc := 108) (k := 0) (v := .ref 621) trivial (by decide +kernel) (by rfl) ?_
  refine ev_r_dup (pc := 109) rfl (by decide +kernel) ?_
  refine ev_r_getI (pc := 110) (y := 579) (ci := 13) (f := 95) (fin := 0) (by decide +kernel) (by decide +kernel) (by exact ev_ob_621) rfl ?_
  intro x25 hx25
  refine ev_r_iconst (pc := 113) (k := 1) (by decide +kernel) ?_
  refine ev_r_iadd (pc := 114) (by decide +kernel) ?_
  intro x26 hx26
  refine ev_r_putI (pc := 115) (y := 579) (ci := 13) (f := 95) hx26 (by decide +kernel) (by decide +kernel) (by exact ev_ob_621) rfl rfl ?_
  intro s27
  exact ev_r_return (pc := 118) (x := ()) trivial (by decide +kernel) (by decide +kernel) rfl
/-- MendBenchModel.returns(I)V -/
def jm_293 (Q : Nat) (a0 : Int) (S : ev_St) : Option ((Unit) × ev_St) := ev_b (ev_pI S 621 95 a0) fun s1 => ev_if ((0 : Int) ≤ a0 ∧ a0 < (ev_aln 690 : Int)) (ev_b (s1.1 690 (Int.toNat a0)) fun x2 => ev_b (ev_pI s1 621 81 x2) fun s3 => ev_if ((0 : Int) ≤ a0 ∧ a0 < (ev_aln 691 : Int)) (ev_b (s3.1 691 (Int.toNat a0)) fun x4 => ev_b (ev_pI s3 621 82 x4) fun s5 => ev_if ((0 : Int) ≤ a0 ∧ a0 < (ev_aln 692 : Int)) (ev_b (s5.1 692 (Int.toNat a0)) fun x6 => ev_b (ev_pI s5 621 83 x6) fun s7 => ev_if ((0 : Int) ≤ a0 ∧ a0 < (ev_aln 693 : Int)) (ev_b (s7.1 693 (Int.toNat a0)) fun x8 => ev_b (ev_pI s7 621 84 x8) fun s9 => ev_if ((0 : Int) ≤ a0 ∧ a0 < (ev_aln 694 : Int)) (ev_b (s9.1 694 (Int.toNat a0)) fun x10 => ev_b (ev_pI s9 621 88 x10) fun s11 => ev_if ((0 : Int) ≤ a0 ∧ a0 < (ev_aln 695 : Int)) (ev_b (s11.1 695 (Int.toNat a0)) fun x12 => ev_b (ev_pI s11 621 105 x12) fun s13 => ev_if ((0 : Int) ≤ a0 ∧ a0 < (ev_aln 688 : Int)) (ev_b (s13.1 688 (Int.toNat a0)) fun x14 => ev_b (ev_pI s13 621 80 x14) fun s15 => some ((), s15))))))))
theorem jt_293 (d : Nat) (hd : 1 ≤ d) (Q : Nat) (a0 : Int) (ha0 : ev_rng a0) (S : ev_St) (x : Unit) (S' : ev_St) (hJ : jm_293 Q a0 S = some (x, S')) : ev_Ref d 293 [.ref 621, .int (Int32.ofInt a0)] S (ev_eU x) S' (ev_PU x) := by
  obtain ⟨d, rfl⟩ : ∃ e, d = e + 1 := ⟨d - 1, by omega⟩
  refine ev_ref_of (P := ev_PU) (lv := [(0, .ref 621), (1, .int (Int32.ofInt a0))]) (by decide +kernel) (by (try simp only [ev_sum, ev_nv_cat]); first | done | rfl) (by (try simp only [lv_args, ev_nv_cat]); first | done | rfl) ?_ x S' hJ
  unfold jm_293
  refine ev_r_aload_n (pc := 0) (k := 0) (v := .ref 621) trivial (by decide +kernel) (by rfl) ?_
  refine ev_r_iload_n (pc := 1) (k := 1) (v := Int32.ofInt a0) (by decide +kernel) (by rfl) ?_
  refine ev_r_putI (pc := 2) (y := 579) (ci := 13) (f := 95) ha0 (by decide +kernel) (by decide +kernel) (by exact ev_ob_621) rfl rfl ?_
  intro s1
  refine ev_r_aload_n (pc := 5) (k := 0) (v := .ref 621) trivial (by decide +kernel) (by rfl) ?_
  refine ev_r_aload_n (pc := 6) (k := 0) (v := .ref 621) trivial (by decide +kernel) (by rfl) ?_
  refine ev_r_getC (pc := 7) (y := 219) (ci := 13) (f := 99) (fin := 1) (k' := 690) (by decide +kernel) (by decide +kernel) (by exact ev_ob_621) rfl rfl ?_
  refine ev_r_iload_n (pc := 10) (k := 1) (v := Int32.ofInt a0) (by decide +kernel) (by rfl) ?_
  refine ev_r_iald (pc := 11) ha0 (by decide +kernel) (by exact ev_ab_690) ?_
  intro x2 hx2
  refine ev_r_putI (pc := 12) (y := 582) (ci := 13) (f := 81) hx2 (by decide +kernel) (by decide +kernel) (by exact ev_ob_621) rfl rfl ?_
  intro s3
  refine ev_r_aload_n (pc := 15) (k := 0) (v := .ref 621) trivial (by decide +kernel) (by rfl) ?_
  refine ev_r_aload_n (pc := 16) (k := 0) (v := .ref 621) trivial (by decide +kernel) (by rfl) ?_
  refine ev_r_getC (pc := 17) (y := 222) (ci := 13) (f := 100) (fin := 1) (k' := 691) (by decide +kernel) (by decide +kernel) (by exact ev_ob_621) rfl rfl ?_
  refine ev_r_iload_n (pc := 20) (k := 1) (v := Int32.ofInt a0) (by decide +kernel) (by rfl) ?_
  refine ev_r_iald (pc := 21) ha0 (by decide +kernel) (by exact ev_ab_691) ?_
  intro x4 hx4
  refine ev_r_putI (pc := 22) (y := 585) (ci := 13) (f := 82) hx4 (by decide +kernel) (by decide +kernel) (by exact ev_ob_621) rfl rfl ?_
  intro s5
  refine ev_r_aload_n (pc := 25) (k := 0) (v := .ref 621) trivial (by decide +kernel) (by rfl) ?_
  refine ev_r_aload_n (pc := 26) (k := 0) (v := .ref 621) trivial (by decide +kernel) (by rfl) ?_
  refine ev_r_getC (pc := 27) (y := 225) (ci := 13) (f := 101) (fin := 1) (k' := 692) (by decide +kernel) (by decide +kernel) (by exact ev_ob_621) rfl rfl ?_
  refine ev_r_iload_n (pc := 30) (k := 1) (v := Int32.ofInt a0) (by decide +kernel) (by rfl) ?_
  refine ev_r_iald (pc := 31) ha0 (by decide +kernel) (by exact ev_ab_692) ?_
  intro x6 hx6
  refine ev_r_putI (pc := 32) (y := 588) (ci := 13) (f := 83) hx6 (by decide +kernel) (by decide +kernel) (by exact ev_ob_621) rfl rfl ?_
  intro s7
  refine ev_r_aload_n (pc := 35) (k := 0) (v := .ref 621) trivial (by decide +kernel) (by rfl) ?_
  refine ev_r_aload_n (pc := 36) (k := 0) (v := .ref 621) trivial (by decide +kernel) (by rfl) ?_
  refine ev_r_getC (pc := 37) (y := 228) (ci := 13) (f := 102) (fin := 1) (k' := 693) (by decide +kernel) (by decide +kernel) (by exact ev_ob_621) rfl rfl ?_
  refine ev_r_iload_n (pc := 40) (k := 1) (v := Int32.ofInt a0) (by decide +kernel) (by rfl) ?_
  refine ev_r_iald (pc := 41) ha0 (by decide +kernel) (by exact ev_ab_693) ?_
  intro x8 hx8
  refine ev_r_putI (pc := 42) (y := 591) (ci := 13) (f := 84) hx8 (by decide +kernel) (by decide +kernel) (by exact ev_ob_621) rfl rfl ?_
  intro s9
  refine ev_r_aload_n (pc := 45) (k := 0) (v := .ref 621) trivial (by decide +kernel) (by rfl) ?_
  refine ev_r_aload_n (pc := 46) (k := 0) (v := .ref 621) trivial (by decide +kernel) (by rfl) ?_
  refine ev_r_getC (pc := 47) (y := 231) (ci := 13) (f := 103) (fin := 1) (k' := 694) (by decide +kernel) (by decide +kernel) (by exact ev_ob_621) rfl rfl ?_
  refine ev_r_iload_n (pc := 50) (k := 1) (v := Int32.ofInt a0) (by decide +kernel) (by rfl) ?_
  refine ev_r_iald (pc := 51) ha0 (by decide +kernel) (by exact ev_ab_694) ?_
  intro x10 hx10
  refine ev_r_putI (pc := 52) (y := 576) (ci := 13) (f := 88) hx10 (by decide +kernel) (by decide +kernel) (by exact ev_ob_621) rfl rfl ?_
  intro s11
  refine ev_r_aload_n (pc := 55) (k := 0) (v := .ref 621) trivial (by decide +kernel) (by rfl) ?_
  refine ev_r_aload_n (pc := 56) (k := 0) (v := .ref 621) trivial (by decide +kernel) (by rfl) ?_
  refine ev_r_getC (pc := 57) (y := 234) (ci := 13) (f := 104) (fin := 1) (k' := 695) (by decide +kernel) (by decide +kernel) (by exact ev_ob_621) rfl rfl ?_
  refine ev_r_iload_n (pc := 60) (k := 1) (v := Int32.ofInt a0) (by decide +kernel) (by rfl) ?_
  refine ev_r_iald (pc := 61) ha0 (by decide +kernel) (by exact ev_ab_695) ?_
  intro x12 hx12
  refine ev_r_putI (pc := 62) (y := 594) (ci := 13) (f := 105) hx12 (by decide +kernel) (by decide +kernel) (by exact ev_ob_621) rfl rfl ?_
  intro s13
  refine ev_r_aload_n (pc := 65) (k := 0) (v := .ref 621) trivial (by decide +kernel) (by rfl) ?_
  refine ev_r_aload_n (pc := 66) (k := 0) (v := .ref 621) trivial (by decide +kernel) (by rfl) ?_
  refine ev_r_getC (pc := 67) (y := 213) (ci := 13) (f := 97) (fin := 1) (k' := 688) (by decide +kernel) (by decide +kernel) (by exact ev_ob_621) rfl rfl ?_
  refine ev_r_iload_n (pc := 70) (k := 1) (v := Int32.ofInt a0) (by decide +kernel) (by rfl) ?_
  refine ev_r_iald (pc := 71) ha0 (by decide +kernel) (by exact ev_ab_688) ?_
  intro x14 hx14
  refine ev_r_putI (pc := 72) (y := 597) (ci := 13) (f := 80) hx14 (by decide +kernel) (by decide +kernel) (by exact ev_ob_621) rfl rfl ?_
  intro s15
  exact ev_r_return (pc := 75) (x := ()) trivial (by decide +kernel) (by decide +kernel) rfl
def jb_294_5 (Q : Nat) (a0 : Int)  (K5 : Int → ev_St → Option ((Int) × ev_St)) (x2 : Int) (s7 : ev_St) : Option ((Int) × ev_St) := if x2 = (-1) then (some (x2, s7)) else (ev_if ((0 : Int) ≤ x2 ∧ x2 < (ev_aln 696 : Int)) (ev_b (s7.1 696 (Int.toNat x2)) fun x9 => if x9 = a0 then (some (x2, s7)) else (ev_if ((0 : Int) ≤ x2 ∧ x2 < (ev_aln 699 : Int)) (ev_b (s7.1 699 (Int.toNat x2)) fun x11 => K5 x11 s7))))
def jl_294_5 (Q : Nat) (a0 : Int)  : Nat → Int → ev_St → Option ((Int) × ev_St)
  | 0 => fun _ _ => none
  | q + 1 => jb_294_5 Q a0  (jl_294_5 Q a0  q)
theorem jbt_294_5 (d : Nat) (hd : 1 ≤ d + 1) (Q : Nat) (a0 : Int) (ha0 : ev_rng a0)   (K5 : Int → ev_St → Option ((Int) × ev_St)) (hK5 : ∀ (x2 : Int) (hx2 : ev_rng x2), ∀ (s7 : ev_St) (w3 : List (Nat × Value)), ev_lk w3 0 = some (.ref 621) → ev_lk w3 1 = some (.int (Int32.ofInt a0)) → ev_lk w3 2 = some (.int (Int32.ofInt x2)) → ev_w none (ev_Mof 294) d 5 w3 [] s7 (K5 x2 s7) ev_eI ev_rng) : ∀ (x2 : Int) (hx2 : ev_rng x2), ∀ (s7 : ev_St) (w3 : List (Nat × Value)), ev_lk w3 0 = some (.ref 621) → ev_lk w3 1 = some (.int (Int32.ofInt a0)) → ev_lk w3 2 = some (.int (Int32.ofInt x2)) → ev_w none (ev_Mof 294) d 5 w3 [] s7 (jb_294_5 Q a0  K5 x2 s7) ev_eI ev_rng := by
  intro x2 hx2 s7 w3 e4 e5 e6
  unfold jb_294_5
  refine ev_r_iload_n (pc := 5) (k := 2) (v := Int32.ofInt x2) (by decide +kernel) (by exact e6) ?_
  refine ev_r_iconst (pc := 6) (k := -1) (by decide +kernel) ?_
  refine ev_r_icmp (pc := 7) (q := .eq) (o := 23) (t := 30) (c := x2 = (-1)) (by decide +kernel) (ev_k_eq hx2 (by decide)) (by decide +kernel) ?_ ?_
  · intro c8
    refine ev_r_iload_n (pc := 30) (k := 2) (v := Int32.ofInt x2) (by decide +kernel) (by exact e6) ?_
    exact ev_r_ireturn (pc := 31) (x := x2) (v := Int32.ofInt x2) (ty := .int) hx2 (by decide +kernel) (by decide +kernel) rfl rfl
  · intro c8
    refine ev_r_aload_n (pc := 10) (k := 0) (v := .ref 621) trivial (by decide +kernel) (by exact e4) ?_
    refine ev_r_getC (pc := 11) (y := 237) (ci := 13) (f := 106) (fin := 1) (k' := 696) (by decide +kernel) (by decide +kernel) (by exact ev_ob_621) rfl rfl ?_
    refine ev_r_iload_n (pc := 14) (k := 2) (v := Int32.ofInt x2) (by decide +kernel) (by exact e6) ?_
    refine ev_r_iald (pc := 15) hx2 (by decide +kernel) (by exact ev_ab_696) ?_
    intro x9 hx9
    refine ev_r_iload_n (pc := 16) (k := 1) (v := Int32.ofInt a0) (by decide +kernel) (by exact e5) ?_
    refine ev_r_icmp (pc := 17) (q := .eq) (o := 13) (t := 30) (c := x9 = a0) (by decide +kernel) (ev_k_eq hx9 ha0) (by decide +kernel) ?_ ?_
    · intro c10
      refine ev_r_iload_n (pc := 30) (k := 2) (v := Int32.ofInt x2) (by decide +kernel) (by exact e6) ?_
      exact ev_r_ireturn (pc := 31) (x := x2) (v := Int32.ofInt x2) (ty := .int) hx2 (by decide +kernel) (by decide +kernel) rfl rfl
    · intro c10
      refine ev_r_aload_n (pc := 20) (k := 0) (v := .ref 621) trivial (by decide +kernel) (by exact e4) ?_
      refine ev_r_getC (pc := 21) (y := 246) (ci := 13) (f := 109) (fin := 1) (k' := 699) (by decide +kernel) (by decide +kernel) (by exact ev_ob_621) rfl rfl ?_
      refine ev_r_iload_n (pc := 24) (k := 2) (v := Int32.ofInt x2) (by decide +kernel) (by exact e6) ?_
      refine ev_r_iald (pc := 25) hx2 (by decide +kernel) (by exact ev_ab_699) ?_
      intro x11 hx11
      refine ev_r_istore_n (pc := 26) (k := 2) (by decide +kernel) (by decide +kernel) rfl ?_
      refine ev_r_goto (pc := 27) (o := (-22)) (t := 5) (by decide +kernel) (by decide +kernel) ?_
      exact hK5 x11 hx11 s7 _ (by exact (ev_l1 e4 (by decide) (by decide))) (by exact (ev_lk_st1 e5 (by decide) rfl)) (by exact ev_lk_st1_self)
theorem jlt_294_5 (d : Nat) (hd : 1 ≤ d + 1) (Q : Nat) (a0 : Int) (ha0 : ev_rng a0)   : ∀ q : Nat, ∀ (x2 : Int) (hx2 : ev_rng x2), ∀ (s7 : ev_St) (w3 : List (Nat × Value)), ev_lk w3 0 = some (.ref 621) → ev_lk w3 1 = some (.int (Int32.ofInt a0)) → ev_lk w3 2 = some (.int (Int32.ofInt x2)) → ev_w none (ev_Mof 294) d 5 w3 [] s7 (jl_294_5 Q a0  q x2 s7) ev_eI ev_rng := by
  intro q
  induction q with
  | zero =>
    intro x2 hx2 s7 w3 e4 e5 e6
    exact ev_w_none
  | succ q ih => exact jbt_294_5 d hd Q a0 ha0   _ ih
/-- MendBenchModel.entry(I)I -/
def jm_294 (Q : Nat) (a0 : Int) (S : ev_St) : Option ((Int) × ev_St) := ev_b (S.1 621 82) fun x1 => jl_294_5 Q a0  Q x1 S
theorem jt_294 (d : Nat) (hd : 1 ≤ d) (Q : Nat) (a0 : Int) (ha0 : ev_rng a0) (S : ev_St) (x : Int) (S' : ev_St) (hJ : jm_294 Q a0 S = some (x, S')) : ev_Ref d 294 [.ref 621, .int (Int32.ofInt a0)] S (ev_eI x) S' (ev_rng x) := by
  obtain ⟨d, rfl⟩ : ∃ e, d = e + 1 := ⟨d - 1, by omega⟩
  refine ev_ref_of (P := ev_rng) (lv := [(0, .ref 621), (1, .int (Int32.ofInt a0))]) (by decide +kernel) (by (try simp only [ev_sum, ev_nv_cat]); first | done | rfl) (by (try simp only [lv_args, ev_nv_cat]); first | done | rfl) ?_ x S' hJ
  unfold jm_294
  refine ev_r_aload_n (pc := 0) (k := 0) (v := .ref 621) trivial (by decide +kernel) (by rfl) ?_
  refine ev_r_getI (pc := 1) (y := 585) (ci := 13) (f := 82) (fin := 0) (by decide +kernel) (by decide +kernel) (by exact ev_ob_621) rfl ?_
  intro x1 hx1
  refine ev_r_istore_n (pc := 4) (k := 2) (by decide +kernel) (by decide +kernel) rfl ?_
  exact jlt_294_5 d hd Q a0 ha0   Q x1 hx1 S _ (by exact (ev_l1 (by rfl) (by decide) (by decide))) (by exact (ev_lk_st1 (by rfl) (by decide) rfl)) (by exact ev_lk_st1_self)
/-- MendBenchModel.isEdge(I)Z -/
def jm_295 (Q : Nat) (a0 : Int) (S : ev_St) : Option ((Int) × ev_St) := ev_b (S.1 621 81) fun x1 => ev_jn (fun (x2 : Int) (s6 : ev_St) => ev_b (s6.1 621 81) fun x7 => ev_b (s6.1 621 73) fun x8 => ev_jn (fun (x9 : Int) (x10 : Int) (s15 : ev_St) => ev_b (s15.1 621 81) fun x16 => ev_ck (x16 - 1) fun x17 => ev_bd (jm_289 Q x17 s15) fun x19 s18 => ev_b (s18.1 621 81) fun x20 => ev_bd (jm_289 Q x20 s18) fun x22 s21 => ev_jn (fun (x23 : Int) (x24 : Int) (s30 : ev_St) => ev_if ((0 : Int) ≤ a0 ∧ a0 < (ev_aln 625 : Int)) (ev_b (s30.1 625 (Int.toNat a0)) fun x31 => ev_jn (fun (x32 : Int) (s38 : ev_St) => if x9 ≠ 0 then (some (1, s38)) else (if x32 ≠ 1 then (some (0, s38)) else (ev_if ((0 : Int) ≤ a0 ∧ a0 < (ev_aln 629 : Int)) (ev_b (s38.1 629 (Int.toNat a0)) fun x41 => if x41 ≤ 0 then (some (0, s38)) else (ev_b (s38.1 621 81) fun x43 => ev_ck (x43 - 1) fun x44 => ev_if ((0 : Int) ≤ x44 ∧ x44 < (ev_aln 678 : Int)) (ev_b (s38.1 678 (Int.toNat x44)) fun x45 => if x45 ≠ 10 then (some (0, s38)) else (some (1, s38)))))))) fun K78 => if x31 = 1 then (K78 x31 s30) else (if x31 ≠ 3 then (ev_jn (fun  (s54 : ev_St) => if x23 ≠ 0 then (some (1, s54)) else (if x31 ≠ 2 then (some (0, s54)) else (ev_if ((0 : Int) ≤ a0 ∧ a0 < (ev_aln 629 : Int)) (ev_b (s54.1 629 (Int.toNat a0)) fun x57 => if x57 ≤ 0 then (some (0, s54)) else (ev_b (s54.1 621 81) fun x59 => ev_if ((0 : Int) ≤ x59 ∧ x59 < (ev_aln 678 : Int)) (ev_b (s54.1 678 (Int.toNat x59)) fun x60 => if x60 ≠ 10 then (some (0, s54)) else (some (1, s54)))))))) fun K131 => if x31 = 2 then (K131  s30) else (if x31 ≠ 4 then (if x31 ≠ 5 then (if x24 ≠ 0 then (some (0, s30)) else (some (1, s30))) else (ev_if (ev_bl x24) (some (x24, s30)))) else (K131  s30))) else (K78 x31 s30)))) fun K56 => if x19 = x22 then (K56 x10 0 s21) else (K56 x10 1 s21)) fun K29 => if x7 ≠ x8 then (K29 x2 0 s6) else (K29 x2 1 s6)) fun K12 => if x1 ≠ 0 then (K12 0 S) else (K12 1 S)
theorem jt_295 (d : Nat) (hd : 6 ≤ d) (Q : Nat) (a0 : Int) (ha0 : ev_rng a0) (S : ev_St) (x : Int) (S' : ev_St) (hJ : jm_295 Q a0 S = some (x, S')) : ev_Ref d 295 [.ref 621, .int (Int32.ofInt a0)] S (ev_eI x) S' (ev_bl x) := by
  obtain ⟨d, rfl⟩ : ∃ e, d = e + 1 := ⟨d - 1, by omega⟩
  refine ev_ref_of (P := ev_bl) (lv := [(0, .ref 621), (1, .int (Int32.ofInt a0))]) (by decide +kernel) (by (try simp only [ev_sum, ev_nv_cat]); first | done | rfl) (by (try simp only [lv_args, ev_nv_cat]); first | done | rfl) ?_ x S' hJ
  unfold jm_295
  refine ev_r_aload_n (pc := 0) (k := 0) (v := .ref 621) trivial (by decide +kernel) (by rfl) ?_
  refine ev_r_getI (pc := 1) (y := 582) (ci := 13) (f := 81) (fin := 0) (by decide +kernel) (by decide +kernel) (by exact ev_ob_621) rfl ?_
  intro x1 hx1
  refine ev_r_jn (Q := fun K => ∀ (x2 : Int) (hx2 : ev_rng x2), ∀ (s6 : ev_St) (w3 : List (Nat × Value)), ev_lk w3 0 = some (.ref 621) → ev_lk w3 1 = some (.int (Int32.ofInt a0)) → ev_w none (ev_Mof 295) d 12 w3 [.int (Int32.ofInt x2)] s6 (K x2 s6) ev_eI ev_bl) ?_ ?_
  · intro x2 hx2 s6 w3 e4 e5
    refine ev_r_istore_n (pc := 12) (k := 2) (by decide +kernel) (by decide +kernel) rfl ?_
    refine ev_r_aload_n (pc := 13) (k := 0) (v := .ref 621) trivial (by decide +kernel) (by exact (ev_l1 e4 (by decide) (by decide))) ?_
    refine ev_r_getI (pc := 14) (y := 582) (ci := 13) (f := 81) (fin := 0) (by decide +kernel) (by decide +kernel) (by exact ev_ob_621) rfl ?_
    intro x7 hx7
    refine ev_r_aload_n (pc := 17) (k := 0) (v := .ref 621) trivial (by decide +kernel) (by exact (ev_l1 e4 (by decide) (by decide))) ?_
    refine ev_r_getI (pc := 18) (y := 567) (ci := 13) (f := 73) (fin := 0) (by decide +kernel) (by decide +kernel) (by exact ev_ob_621) rfl ?_
    intro x8 hx8
    refine ev_r_jn (Q := fun K => ∀ (x9 : Int) (hx9 : ev_rng x9), ∀ (x10 : Int) (hx10 : ev_rng x10), ∀ (s15 : ev_St) (w11 : List (Nat × Value)), ev_lk w11 0 = some (.ref 621) → ev_lk w11 1 = some (.int (Int32.ofInt a0)) → ev_lk w11 2 = some (.int (Int32.ofInt x9)) → ev_w none (ev_Mof 295) d 29 w11 [.int (Int32.ofInt x10)] s15 (K x9 x10 s15) ev_eI ev_bl) ?_ ?_
    · intro x9 hx9 x10 hx10 s15 w11 e12 e13 e14
      refine ev_r_istore_n (pc := 29) (k := 3) (by decide +kernel) (by decide +kernel) rfl ?_
      refine ev_r_aload_n (pc := 30) (k := 0) (v := .ref 621) trivial (by decide +kernel) (by exact (ev_l1 e12 (by decide) (by decide))) ?_
      refine ev_r_aload_n (pc := 31) (k := 0) (v := .ref 621) trivial (by decide +kernel) (by exact (ev_l1 e12 (by decide) (by decide))) ?_
      refine ev_r_getI (pc := 32) (y := 582) (ci := 13) (f := 81) (fin := 0) (by decide +kernel) (by decide +kernel) (by exact ev_ob_621) rfl ?_
      intro x16 hx16
      refine ev_r_iconst (pc := 35) (k := 1) (by decide +kernel) ?_
      refine ev_r_isub (pc := 36) (by decide +kernel) ?_
      intro x17 hx17
      refine ev_r_virt (pc := 37) (y := 600) (mi := 289) (na := 1) (k := 621) (as := [.int (Int32.ofInt x17)]) (rest := []) (encc := ev_oI) (Q := ev_bl) (fun x S1 h => jt_289 d (by omega) Q x17 hx17 s15 x S1 h) (by exact ev_ob_621) (by decide +kernel) (by decide +kernel) (by decide +kernel) (by decide +kernel) rfl (by (try simp only [ev_sum, ev_nv_cat]); first | done | rfl) ?_
      intro x19 s18 hx19
      replace hx19 := ev_bl_rng hx19
      show ev_w _ _ _ _ _ [.int (Int32.ofInt x19)] _ _ _ _
      refine ev_r_aload_n (pc := 40) (k := 0) (v := .ref 621) trivial (by decide +kernel) (by exact (ev_l1 e12 (by decide) (by decide))) ?_
      refine ev_r_aload_n (pc := 41) (k := 0) (v := .ref 621) trivial (by decide +kernel) (by exact (ev_l1 e12 (by decide) (by decide))) ?_
      refine ev_r_getI (pc := 42) (y := 582) (ci := 13) (f := 81) (fin := 0) (by decide +kernel) (by decide +kernel) (by exact ev_ob_621) rfl ?_
      intro x20 hx20
      refine ev_r_virt (pc := 45) (y := 600) (mi := 289) (na := 1) (k := 621) (as := [.int (Int32.ofInt x20)]) (rest := [.int (Int32.ofInt x19)]) (encc := ev_oI) (Q := ev_bl) (fun x S1 h => jt_289 d (by omega) Q x20 hx20 s18 x S1 h) (by exact ev_ob_621) (by decide +kernel) (by decide +kernel) (by decide +kernel) (by decide +kernel) rfl (by (try simp only [ev_sum, ev_nv_cat]); first | done | rfl) ?_
      intro x22 s21 hx22
      replace hx22 := ev_bl_rng hx22
      show ev_w _ _ _ _ _ [.int (Int32.ofInt x22), .int (Int32.ofInt x19)] _ _ _ _
      refine ev_r_jn (Q := fun K => ∀ (x23 : Int) (hx23 : ev_rng x23), ∀ (x24 : Int) (hx24 : ev_rng x24), ∀ (s30 : ev_St) (w25 : List (Nat × Value)), ev_lk w25 0 = some (.ref 621) → ev_lk w25 1 = some (.int (Int32.ofInt a0)) → ev_lk w25 2 = some (.int (Int32.ofInt x9)) → ev_lk w25 3 = some (.int (Int32.ofInt x23)) → ev_w none (ev_Mof 295) d 56 w25 [.int (Int32.ofInt x24)] s30 (K x23 x24 s30) ev_eI ev_bl) ?_ ?_
      · intro x23 hx23 x24 hx24 s30 w25 e26 e27 e28 e29
        refine ev_r_istore (pc := 56) (k := 4) (by decide +kernel) (by decide +kernel) rfl ?_
        refine ev_r_aload_n (pc := 58) (k := 0) (v := .ref 621) trivial (by decide +kernel) (by exact (ev_l1 e26 (by decide) (by decide))) ?_
        refine ev_r_getC (pc := 59) (y := 19) (ci := 13) (f := 6) (fin := 1) (k' := 625) (by decide +kernel) (by decide +kernel) (by exact ev_ob_621) rfl rfl ?_
        refine ev_r_iload_n (pc := 62) (k := 1) (v := Int32.ofInt a0) (by decide +kernel) (by exact (ev_l1 e27 (by decide) (by decide))) ?_
        refine ev_r_iald (pc := 63) ha0 (by decide +kernel) (by exact ev_ab_625) ?_
        intro x31 hx31
        refine ev_r_istore (pc := 64) (k := 5) (by decide +kernel) (by decide +kernel) rfl ?_
        refine ev_r_iload (pc := 66) (k := 5) (v := Int32.ofInt x31) (by decide +kernel) (by exact ev_lk_st1_self) ?_
        refine ev_r_iconst (pc := 68) (k := 1) (by decide +kernel) ?_
        refine ev_r_jn (Q := fun K => ∀ (x32 : Int) (hx32 : ev_rng x32), ∀ (s38 : ev_St) (w33 : List (Nat × Value)), ev_lk w33 0 = some (.ref 621) → ev_lk w33 1 = some (.int (Int32.ofInt a0)) → ev_lk w33 2 = some (.int (Int32.ofInt x9)) → ev_lk w33 5 = some (.int (Int32.ofInt x32)) → ev_w none (ev_Mof 295) d 78 w33 [] s38 (K x32 s38) ev_eI ev_bl) ?_ ?_
        · intro x32 hx32 s38 w33 e34 e35 e36 e37
          refine ev_r_iload_n (pc := 78) (k := 2) (v := Int32.ofInt x9) (by decide +kernel) (by exact e36) ?_
          refine ev_r_if (pc := 79) (q := .ne) (o := 34) (t := 113) (c := x9 ≠ 0) (by decide +kernel) (ev_k_ne hx9 ev_rng0) (by decide +kernel) ?_ ?_
          · intro c39
            refine ev_r_iconst (pc := 113) (k := 1) (by decide +kernel) ?_
            refine ev_r_goto (pc := 114) (o := 4) (t := 118) (by decide +kernel) (by decide +kernel) ?_
            exact ev_r_ireturn (pc := 118) (x := 1) (v := Int32.ofInt 1) (ty := .boolean) (by decide : ev_bl 1) (by decide +kernel) (by decide +kernel) (ev_ret_bl (by decide : ev_bl 1)) rfl
          · intro c39
            refine ev_r_iload (pc := 82) (k := 5) (v := Int32.ofInt x32) (by decide +kernel) (by exact e37) ?_
            refine ev_r_iconst (pc := 84) (k := 1) (by decide +kernel) ?_
            refine ev_r_icmp (pc := 85) (q := .ne) (o := 32) (t := 117) (c := x32 ≠ 1) (by decide +kernel) (ev_k_ne hx32 (by decide)) (by decide +kernel) ?_ ?_
            · intro c40
              refine ev_r_iconst (pc := 117) (k := 0) (by decide +kernel) ?_
              exact ev_r_ireturn (pc := 118) (x := 0) (v := Int32.ofInt 0) (ty := .boolean) (by decide : ev_bl 0) (by decide +kernel) (by decide +kernel) (ev_ret_bl (by decide : ev_bl 0)) rfl
            · intro c40
              refine ev_r_aload_n (pc := 88) (k := 0) (v := .ref 621) trivial (by decide +kernel) (by exact e34) ?_
              refine ev_r_getC (pc := 89) (y := 31) (ci := 13) (f := 10) (fin := 1) (k' := 629) (by decide +kernel) (by decide +kernel) (by exact ev_ob_621) rfl rfl ?_
              refine ev_r_iload_n (pc := 92) (k := 1) (v := Int32.ofInt a0) (by decide +kernel) (by exact e35) ?_
              refine ev_r_iald (pc := 93) ha0 (by decide +kernel) (by exact ev_ab_629) ?_
              intro x41 hx41
              refine ev_r_if (pc := 94) (q := .le) (o := 23) (t := 117) (c := x41 ≤ 0) (by decide +kernel) (ev_k_le hx41 ev_rng0) (by decide +kernel) ?_ ?_
              · intro c42
                refine ev_r_iconst (pc := 117) (k := 0) (by decide +kernel) ?_
                exact ev_r_ireturn (pc := 118) (x := 0) (v := Int32.ofInt 0) (ty := .boolean) (by decide : ev_bl 0) (by decide +kernel) (by decide +kernel) (ev_ret_bl (by decide : ev_bl 0)) rfl
              · intro c42
                refine ev_r_aload_n (pc := 97) (k := 0) (v := .ref 621) trivial (by decide +kernel) (by exact e34) ?_
                refine ev_r_getC (pc := 98) (y := 181) (ci := 13) (f := 74) (fin := 1) (k' := 678) (by decide +kernel) (by decide +kernel) (by exact ev_ob_621) rfl rfl ?_
                refine ev_r_aload_n (pc := 101) (k := 0) (v := .ref 621) trivial (by decide +kernel) (by exact e34) ?_
                refine ev_r_getI (pc := 102) (y := 582) (ci := 13) (f := 81) (fin := 0) (by decide +kernel) (by decide +kernel) (by exact ev_ob_621) rfl ?_
                intro x43 hx43
                refine ev_r_iconst (pc := 105) (k := 1) (by decide +kernel) ?_
                refine ev_r_isub (pc := 106) (by decide +kernel) ?_
                intro x44 hx44
                refine ev_r_iald (pc := 107) hx44 (by decide +kernel) (by exact ev_ab_678) ?_
                intro x45 hx45
                refine ev_r_bipush (pc := 108) (k := 10) (by decide +kernel) (by decide +kernel) ?_
                refine ev_r_icmp (pc := 110) (q := .ne) (o := 7) (t := 117) (c := x45 ≠ 10) (by decide +kernel) (ev_k_ne hx45 (by decide)) (by decide +kernel) ?_ ?_
                · intro c46
                  refine ev_r_iconst (pc := 117) (k := 0) (by decide +kernel) ?_
                  exact ev_r_ireturn (pc := 118) (x := 0) (v := Int32.ofInt 0) (ty := .boolean) (by decide : ev_bl 0) (by decide +kernel) (by decide +kernel) (ev_ret_bl (by decide : ev_bl 0)) rfl
                · intro c46
                  refine ev_r_iconst (pc := 113) (k := 1) (by decide +kernel) ?_
                  refine ev_r_goto (pc := 114) (o := 4) (t := 118) (by decide +kernel) (by decide +kernel) ?_
                  exact ev_r_ireturn (pc := 118) (x := 1) (v := Int32.ofInt 1) (ty := .boolean) (by decide : ev_bl 1) (by decide +kernel) (by decide +kernel) (ev_ret_bl (by decide : ev_bl 1)) rfl
        · intro K78 hK78
          refine ev_r_icmp (pc := 69) (q := .eq) (o := 9) (t := 78) (c := x31 = 1) (by decide +kernel) (ev_k_eq hx31 (by decide)) (by decide +kernel) ?_ ?_
          · intro c47
            exact hK78 x31 hx31 s30 _ (by exact (ev_l1 (ev_l1 e26 (by decide) (by decide)) (by decide) (by decide))) (by exact (ev_l1 (ev_l1 e27 (by decide) (by decide)) (by decide) (by decide))) (by exact (ev_l1 (ev_l1 e28 (by decide) (by decide)) (by decide) (by decide))) (by exact ev_lk_st1_self)
          · intro c47
            refine ev_r_iload (pc := 72) (k := 5) (v := Int32.ofInt x31) (by decide +kernel) (by exact ev_lk_st1_self) ?_
            refine ev_r_iconst (pc := 74) (k := 3) (by decide +kernel) ?_
            refine ev_r_icmp (pc := 75) (q := .ne) (o := 44) (t := 119) (c := x31 ≠ 3) (by decide +kernel) (ev_k_ne hx31 (by decide)) (by decide +kernel) ?_ ?_
            · intro c48
              refine ev_r_iload (pc := 119) (k := 5) (v := Int32.ofInt x31) (by decide +kernel) (by exact ev_lk_st1_self) ?_
              refine ev_r_iconst (pc := 121) (k := 2) (by decide +kernel) ?_
              refine ev_r_jn (Q := fun K => ∀ (s54 : ev_St) (w49 : List (Nat × Value)), ev_lk w49 0 = some (.ref 621) → ev_lk w49 1 = some (.int (Int32.ofInt a0)) → ev_lk w49 3 = some (.int (Int32.ofInt x23)) → ev_lk w49 5 = some (.int (Int32.ofInt x31)) → ev_w none (ev_Mof 295) d 131 w49 [] s54 (K  s54) ev_eI ev_bl) ?_ ?_
              · intro  s54 w49 e50 e51 e52 e53
                refine ev_r_iload_n (pc := 131) (k := 3) (v := Int32.ofInt x23) (by decide +kernel) (by exact e52) ?_
                refine ev_r_if (pc := 132) (q := .ne) (o := 32) (t := 164) (c := x23 ≠ 0) (by decide +kernel) (ev_k_ne hx23 ev_rng0) (by decide +kernel) ?_ ?_
                · intro c55
                  refine ev_r_iconst (pc := 164) (k := 1) (by decide +kernel) ?_
                  refine ev_r_goto (pc := 165) (o := 4) (t := 169) (by decide +kernel) (by decide +kernel) ?_
                  exact ev_r_ireturn (pc := 169) (x := 1) (v := Int32.ofInt 1) (ty := .boolean) (by decide : ev_bl 1) (by decide +kernel) (by decide +kernel) (ev_ret_bl (by decide : ev_bl 1)) rfl
                · intro c55
                  refine ev_r_iload (pc := 135) (k := 5) (v := Int32.ofInt x31) (by decide +kernel) (by exact e53) ?_
                  refine ev_r_iconst (pc := 137) (k := 2) (by decide +kernel) ?_
                  refine ev_r_icmp (pc := 138) (q := .ne) (o := 30) (t := 168) (c := x31 ≠ 2) (by decide +kernel) (ev_k_ne hx31 (by decide)) (by decide +kernel) ?_ ?_
                  · intro c56
                    refine ev_r_iconst (pc := 168) (k := 0) (by decide +kernel) ?_
                    exact ev_r_ireturn (pc := 169) (x := 0) (v := Int32.ofInt 0) (ty := .boolean) (by decide : ev_bl 0) (by decide +kernel) (by decide +kernel) (ev_ret_bl (by decide : ev_bl 0)) rfl
                  · intro c56
                    refine ev_r_aload_n (pc := 141) (k := 0) (v := .ref 621) trivial (by decide +kernel) (by exact e50) ?_
                    refine ev_r_getC (pc := 142) (y := 31) (ci := 13) (f := 10) (fin := 1) (k' := 629) (by decide +kernel) (by decide +kernel) (by exact ev_ob_621) rfl rfl ?_
                    refine ev_r_iload_n (pc := 145) (k := 1) (v := Int32.ofInt a0) (by decide +kernel) (by exact e51) ?_
                    refine ev_r_iald (pc := 146) ha0 (by decide +kernel) (by exact ev_ab_629) ?_
                    intro x57 hx57
                    refine ev_r_if (pc := 147) (q := .le) (o := 21) (t := 168) (c := x57 ≤ 0) (by decide +kernel) (ev_k_le hx57 ev_rng0) (by decide +kernel) ?_ ?_
                    · intro c58
                      refine ev_r_iconst (pc := 168) (k := 0) (by decide +kernel) ?_
                      exact ev_r_ireturn (pc := 169) (x := 0) (v := Int32.ofInt 0) (ty := .boolean) (by decide : ev_bl 0) (by decide +kernel) (by decide +kernel) (ev_ret_bl (by decide : ev_bl 0)) rfl
                    · intro c58
                      refine ev_r_aload_n (pc := 150) (k := 0) (v := .ref 621) trivial (by decide +kernel) (by exact e50) ?_
                      refine ev_r_getC (pc := 151) (y := 181) (ci := 13) (f := 74) (fin := 1) (k' := 678) (by decide +kernel) (by decide +kernel) (by exact ev_ob_621) rfl rfl ?_
                      refine ev_r_aload_n (pc := 154) (k := 0) (v := .ref 621) trivial (by decide +kernel) (by exact e50) ?_
                      refine ev_r_getI (pc := 155) (y := 582) (ci := 13) (f := 81) (fin := 0) (by decide +kernel) (by decide +kernel) (by exact ev_ob_621) rfl ?_
                      intro x59 hx59
                      refine ev_r_iald (pc := 158) hx59 (by decide +kernel) (by exact ev_ab_678) ?_
                      intro x60 hx60
                      refine ev_r_bipush (pc := 159) (k := 10) (by decide +kernel) (by decide +kernel) ?_
                      refine ev_r_icmp (pc := 161) (q := .ne) (o := 7) (t := 168) (c := x60 ≠ 10) (by decide +kernel) (ev_k_ne hx60 (by decide)) (by decide +kernel) ?_ ?_
                      · intro c61
                        refine ev_r_iconst (pc := 168) (k := 0) (by decide +kernel) ?_
                        exact ev_r_ireturn (pc := 169) (x := 0) (v := Int32.ofInt 0) (ty := .boolean) (by decide : ev_bl 0) (by decide +kernel) (by decide +kernel) (ev_ret_bl (by decide : ev_bl 0)) rfl
                      · intro c61
                        refine ev_r_iconst (pc := 164) (k := 1) (by decide +kernel) ?_
                        refine ev_r_goto (pc := 165) (o := 4) (t := 169) (by decide +kernel) (by decide +kernel) ?_
                        exact ev_r_ireturn (pc := 169) (x := 1) (v := Int32.ofInt 1) (ty := .boolean) (by decide : ev_bl 1) (by decide +kernel) (by decide +kernel) (ev_ret_bl (by decide : ev_bl 1)) rfl
              · intro K131 hK131
                refine ev_r_icmp (pc := 122) (q := .eq) (o := 9) (t := 131) (c := x31 = 2) (by decide +kernel) (ev_k_eq hx31 (by decide)) (by decide +kernel) ?_ ?_
                · intro c62
                  exact hK131  s30 _ (by exact (ev_l1 (ev_l1 e26 (by decide) (by decide)) (by decide) (by decide))) (by exact (ev_l1 (ev_l1 e27 (by decide) (by decide)) (by decide) (by decide))) (by exact (ev_l1 (ev_lk_st1 e29 (by decide) rfl) (by decide) (by decide))) (by exact ev_lk_st1_self)
                · intro c62
                  refine ev_r_iload (pc := 125) (k := 5) (v := Int32.ofInt x31) (by decide +kernel) (by exact ev_lk_st1_self) ?_
                  refine ev_r_iconst (pc := 127) (k := 4) (by decide +kernel) ?_
                  refine ev_r_icmp (pc := 128) (q := .ne) (o := 42) (t := 170) (c := x31 ≠ 4) (by decide +kernel) (ev_k_ne hx31 (by decide)) (by decide +kernel) ?_ ?_
                  · intro c63
                    refine ev_r_iload (pc := 170) (k := 5) (v := Int32.ofInt x31) (by decide +kernel) (by exact ev_lk_st1_self) ?_
                    refine ev_r_iconst (pc := 172) (k := 5) (by decide +kernel) ?_
                    refine ev_r_icmp (pc := 173) (q := .ne) (o := 8) (t := 181) (c := x31 ≠ 5) (by decide +kernel) (ev_k_ne hx31 (by decide)) (by decide +kernel) ?_ ?_
                    · intro c64
                      refine ev_r_iload (pc := 181) (k := 4) (v := Int32.ofInt x24) (by decide +kernel) (by exact (ev_lk_st1 ev_lk_st1_self (by decide) rfl)) ?_
                      refine ev_r_if (pc := 183) (q := .ne) (o := 7) (t := 190) (c := x24 ≠ 0) (by decide +kernel) (ev_k_ne hx24 ev_rng0) (by decide +kernel) ?_ ?_
                      · intro c65
                        refine ev_r_iconst (pc := 190) (k := 0) (by decide +kernel) ?_
                        exact ev_r_ireturn (pc := 191) (x := 0) (v := Int32.ofInt 0) (ty := .boolean) (by decide : ev_bl 0) (by decide +kernel) (by decide +kernel) (ev_ret_bl (by decide : ev_bl 0)) rfl
                      · intro c65
                        refine ev_r_iconst (pc := 186) (k := 1) (by decide +kernel) ?_
                        refine ev_r_goto (pc := 187) (o := 4) (t := 191) (by decide +kernel) (by decide +kernel) ?_
                        exact ev_r_ireturn (pc := 191) (x := 1) (v := Int32.ofInt 1) (ty := .boolean) (by decide : ev_bl 1) (by decide +kernel) (by decide +kernel) (ev_ret_bl (by decide : ev_bl 1)) rfl
                    · intro c64
                      refine ev_r_iload (pc := 176) (k := 4) (v := Int32.ofInt x24) (by decide +kernel) (by exact (ev_lk_st1 ev_lk_st1_self (by decide) rfl)) ?_
                      refine ev_r_goto (pc := 178) (o := 13) (t := 191) (by decide +kernel) (by decide +kernel) ?_
                      refine ev_r_chk ?_
                      intro c66
                      exact ev_r_ireturn (pc := 191) (x := x24) (v := Int32.ofInt x24) (ty := .boolean) c66 (by decide +kernel) (by decide +kernel) (ev_ret_bl c66) rfl
                  · intro c63
                    exact hK131  s30 _ (by exact (ev_l1 (ev_l1 e26 (by decide) (by decide)) (by decide) (by decide))) (by exact (ev_l1 (ev_l1 e27 (by decide) (by decide)) (by decide) (by decide))) (by exact (ev_l1 (ev_lk_st1 e29 (by decide) rfl) (by decide) (by decide))) (by exact ev_lk_st1_self)
            · intro c48
              exact hK78 x31 hx31 s30 _ (by exact (ev_l1 (ev_l1 e26 (by decide) (by decide)) (by decide) (by decide))) (by exact (ev_l1 (ev_l1 e27 (by decide) (by decide)) (by decide) (by decide))) (by exact (ev_l1 (ev_l1 e28 (by decide) (by decide)) (by decide) (by decide))) (by exact ev_lk_st1_self)
      · intro K56 hK56
        refine ev_r_icmp (pc := 48) (q := .eq) (o := 7) (t := 55) (c := x19 = x22) (by decide +kernel) (ev_k_eq hx19 hx22) (by decide +kernel) ?_ ?_
        · intro c67
          refine ev_r_iconst (pc := 55) (k := 0) (by decide +kernel) ?_
          exact hK56 x10 hx10 0 (by decide) s21 _ (by exact (ev_l1 e12 (by decide) (by decide))) (by exact (ev_l1 e13 (by decide) (by decide))) (by exact (ev_lk_st1 e14 (by decide) rfl)) (by exact ev_lk_st1_self)
        · intro c67
          refine ev_r_iconst (pc := 51) (k := 1) (by decide +kernel) ?_
          refine ev_r_goto (pc := 52) (o := 4) (t := 56) (by decide +kernel) (by decide +kernel) ?_
          exact hK56 x10 hx10 1 (by decide) s21 _ (by exact (ev_l1 e12 (by decide) (by decide))) (by exact (ev_l1 e13 (by decide) (by decide))) (by exact (ev_lk_st1 e14 (by decide) rfl)) (by exact ev_lk_st1_self)
    · intro K29 hK29
      refine ev_r_icmp (pc := 21) (q := .ne) (o := 7) (t := 28) (c := x7 ≠ x8) (by decide +kernel) (ev_k_ne hx7 hx8) (by decide +kernel) ?_ ?_
      · intro c68
        refine ev_r_iconst (pc := 28) (k := 0) (by decide +kernel) ?_
        exact hK29 x2 hx2 0 (by decide) s6 _ (by exact (ev_l1 e4 (by decide) (by decide))) (by exact (ev_lk_st1 e5 (by decide) rfl)) (by exact ev_lk_st1_self)
      · intro c68
        refine ev_r_iconst (pc := 24) (k := 1) (by decide +kernel) ?_
        refine ev_r_goto (pc := 25) (o := 4) (t := 29) (by decide +kernel) (by decide +kernel) ?_
        exact hK29 x2 hx2 1 (by decide) s6 _ (by exact (ev_l1 e4 (by decide) (by decide))) (by exact (ev_lk_st1 e5 (by decide) rfl)) (by exact ev_lk_st1_self)
  · intro K12 hK12
    refine ev_r_if (pc := 4) (q := .ne) (o := 7) (t := 11) (c := x1 ≠ 0) (by decide +kernel) (ev_k_ne hx1 ev_rng0) (by decide +kernel) ?_ ?_
    · intro c69
      refine ev_r_iconst (pc := 11) (k := 0) (by decide +kernel) ?_
      exact hK12 0 (by decide) S _ (by rfl) (by rfl)
    · intro c69
      refine ev_r_iconst (pc := 7) (k := 1) (by decide +kernel) ?_
      refine ev_r_goto (pc := 8) (o := 4) (t := 12) (by decide +kernel) (by decide +kernel) ?_
      exact hK12 1 (by decide) S _ (by rfl) (by rfl)
def jb_296_59 (Q : Nat) (a0 : Int) (x11 : Int) (x12 : Int)  (K59 : Int → Int → ev_St → Option ((Int) × ev_St)) (x20 : Int) (x21 : Int) (s29 : ev_St) : Option ((Int) × ev_St) := ev_jn (fun  (s34 : ev_St) => ev_b (s34.1 621 81) fun x35 => if x20 = 0 then (ev_ck (x35 + 0) fun x37 => ev_b (ev_pI s34 621 81 x37) fun s38 => ev_if (ev_bl x20) (some (x20, s38))) else (ev_ck (x35 + x12) fun x40 => ev_b (ev_pI s34 621 81 x40) fun s41 => ev_if (ev_bl x20) (some (x20, s41)))) fun K135 => if x12 ≤ x21 then (K135  s29) else (if x20 = 0 then (K135  s29) else (ev_ck (x11 + x21) fun x45 => ev_if ((0 : Int) ≤ x45 ∧ x45 < (ev_aln 678 : Int)) (ev_b (s29.1 678 (Int.toNat x45)) fun x46 => ev_b (s29.1 621 81) fun x47 => ev_ck (x47 + x21) fun x48 => ev_if ((0 : Int) ≤ x48 ∧ x48 < (ev_aln 678 : Int)) (ev_b (s29.1 678 (Int.toNat x48)) fun x49 => ev_jn (fun (x50 : Int) (s57 : ev_St) => ev_ck (x21 + 1) fun x58 => K59 x50 x58 s57) fun K127 => ev_jn (fun  (s65 : ev_St) => K127 1 s65) fun K122 => if x46 = x49 then (K122  s29) else (ev_if ((0 : Int) ≤ a0 ∧ a0 < (ev_aln 629 : Int)) (ev_b (s29.1 629 (Int.toNat a0)) fun x67 => ev_jn (fun  (s74 : ev_St) => K127 0 s74) fun K126 => if x67 ≤ 0 then (K126  s29) else (ev_bd (jm_229 Q x46 s29) fun x77 s76 => if x77 ≠ x49 then (K126  s76) else (K122  s76))))))))
def jl_296_59 (Q : Nat) (a0 : Int) (x11 : Int) (x12 : Int)  : Nat → Int → Int → ev_St → Option ((Int) × ev_St)
  | 0 => fun _ _ _ => none
  | q + 1 => jb_296_59 Q a0 x11 x12  (jl_296_59 Q a0 x11 x12  q)
theorem jbt_296_59 (d : Nat) (hd : 5 ≤ d + 1) (Q : Nat) (a0 : Int) (x11 : Int) (x12 : Int) (ha0 : ev_rng a0) (hx11 : ev_rng x11) (hx12 : ev_rng x12)   (K59 : Int → Int → ev_St → Option ((Int) × ev_St)) (hK59 : ∀ (x20 : Int) (hx20 : ev_rng x20), ∀ (x21 : Int) (hx21 : ev_rng x21), ∀ (s29 : ev_St) (w22 : List (Nat × Value)), ev_lk w22 0 = some (.ref 621) → ev_lk w22 1 = some (.int (Int32.ofInt a0)) → ev_lk w22 3 = some (.int (Int32.ofInt x11)) → ev_lk w22 4 = some (.int (Int32.ofInt x12)) → ev_lk w22 5 = some (.int (Int32.ofInt x20)) → ev_lk w22 6 = some (.int (Int32.ofInt x21)) → ev_w none (ev_Mof 296) d 59 w22 [] s29 (K59 x20 x21 s29) ev_eI ev_bl) : ∀ (x20 : Int) (hx20 : ev_rng x20), ∀ (x21 : Int) (hx21 : ev_rng x21), ∀ (s29 : ev_St) (w22 : List (Nat × Value)), ev_lk w22 0 = some (.ref 621) → ev_lk w22 1 = some (.int (Int32.ofInt a0)) → ev_lk w22 3 = some (.int (Int32.ofInt x11)) → ev_lk w22 4 = some (.int (Int32.ofInt x12)) → ev_lk w22 5 = some (.int (Int32.ofInt x20)) → ev_lk w22 6 = some (.int (Int32.ofInt x21)) → ev_w none (ev_Mof 296) d 59 w22 [] s29 (jb_296_59 Q a0 x11 x12  K59 x20 x21 s29) ev_eI ev_bl := by
  intro x20 hx20 x21 hx21 s29 w22 e23 e24 e25 e26 e27 e28
  unfold jb_296_59
  refine ev_r_iload (pc := 59) (k := 6) (v := Int32.ofInt x21) (by decide +kernel) (by exact e28) ?_
  refine ev_r_iload (pc := 61) (k := 4) (v := Int32.ofInt x12) (by decide +kernel) (by exact e26) ?_
  refine ev_r_jn (Q := fun K => ∀ (s34 : ev_St) (w30 : List (Nat × Value)), ev_lk w30 0 = some (.ref 621) → ev_lk w30 4 = some (.int (Int32.ofInt x12)) → ev_lk w30 5 = some (.int (Int32.ofInt x20)) → ev_w none (ev_Mof 296) d 135 w30 [] s34 (K  s34) ev_eI ev_bl) ?_ ?_
  · intro  s34 w30 e31 e32 e33
    refine ev_r_aload_n (pc := 135) (k := 0) (v := .ref 621) trivial (by decide +kernel) (by exact e31) ?_
    refine ev_r_dup (pc := 136) rfl (by decide +kernel) ?_
    refine ev_r_getI (pc := 137) (y := 582) (ci := 13) (f := 81) (fin := 0) (by decide +kernel) (by decide +kernel) (by exact ev_ob_621) rfl ?_
    intro x35 hx35
    refine ev_r_iload (pc := 140) (k := 5) (v := Int32.ofInt x20) (by decide +kernel) (by exact e33) ?_
    refine ev_r_if (pc := 142) (q := .eq) (o := 8) (t := 150) (c := x20 = 0) (by decide +kernel) (ev_k_eq hx20 ev_rng0) (by decide +kernel) ?_ ?_
    · intro c36
      refine ev_r_iconst (pc := 150) (k := 0) (by decide +kernel) ?_
      refine ev_r_iadd (pc := 151) (by decide +kernel) ?_
      intro x37 hx37
      refine ev_r_putI (pc := 152) (y := 582) (ci := 13) (f := 81) hx37 (by decide +kernel) (by decide +kernel) (by exact ev_ob_621) rfl rfl ?_
      intro s38
      refine ev_r_iload (pc := 155) (k := 5) (v := Int32.ofInt x20) (by decide +kernel) (by exact e33) ?_
      refine ev_r_chk ?_
      intro c39
      exact ev_r_ireturn (pc := 157) (x := x20) (v := Int32.ofInt x20) (ty := .boolean) c39 (by decide +kernel) (by decide +kernel) (ev_ret_bl c39) rfl
    · intro c36
      refine ev_r_iload (pc := 145) (k := 4) (v := Int32.ofInt x12) (by decide +kernel) (by exact e32) ?_
      refine ev_r_goto (pc := 147) (o := 4) (t := 151) (by decide +kernel) (by decide +kernel) ?_
      refine ev_r_iadd (pc := 151) (by decide +kernel) ?_
      intro x40 hx40
      refine ev_r_putI (pc := 152) (y := 582) (ci := 13) (f := 81) hx40 (by decide +kernel) (by decide +kernel) (by exact ev_ob_621) rfl rfl ?_
      intro s41
      refine ev_r_iload (pc := 155) (k := 5) (v := Int32.ofInt x20) (by decide +kernel) (by exact e33) ?_
      refine ev_r_chk ?_
      intro c42
      exact ev_r_ireturn (pc := 157) (x := x20) (v := Int32.ofInt x20) (ty := .boolean) c42 (by decide +kernel) (by decide +kernel) (ev_ret_bl c42) rfl
  · intro K135 hK135
    refine ev_r_icmp (pc := 63) (q := .ge) (o := 72) (t := 135) (c := x12 ≤ x21) (by decide +kernel) (ev_k_ge hx21 hx12) (by decide +kernel) ?_ ?_
    · intro c43
      exact hK135  s29 _ (by exact e23) (by exact e26) (by exact e27)
    · intro c43
      refine ev_r_iload (pc := 66) (k := 5) (v := Int32.ofInt x20) (by decide +kernel) (by exact e27) ?_
      refine ev_r_if (pc := 68) (q := .eq) (o := 67) (t := 135) (c := x20 = 0) (by decide +kernel) (ev_k_eq hx20 ev_rng0) (by decide +kernel) ?_ ?_
      · intro c44
        exact hK135  s29 _ (by exact e23) (by exact e26) (by exact e27)
      · intro c44
        refine ev_r_aload_n (pc := 71) (k := 0) (v := .ref 621) trivial (by decide +kernel) (by exact e23) ?_
        refine ev_r_getC (pc := 72) (y := 181) (ci := 13) (f := 74) (fin := 1) (k' := 678) (by decide +kernel) (by decide +kernel) (by exact ev_ob_621) rfl rfl ?_
        refine ev_r_iload_n (pc := 75) (k := 3) (v := Int32.ofInt x11) (by decide +kernel) (by exact e25) ?_
        refine ev_r_iload (pc := 76) (k := 6) (v := Int32.ofInt x21) (by decide +kernel) (by exact e28) ?_
        refine ev_r_iadd (pc := 78) (by decide +kernel) ?_
        intro x45 hx45
        refine ev_r_iald (pc := 79) hx45 (by decide +kernel) (by exact ev_ab_678) ?_
        intro x46 hx46
        refine ev_r_istore (pc := 80) (k := 7) (by decide +kernel) (by decide +kernel) rfl ?_
        refine ev_r_aload_n (pc := 82) (k := 0) (v := .ref 621) trivial (by decide +kernel) (by exact (ev_l1 e23 (by decide) (by decide))) ?_
        refine ev_r_getC (pc := 83) (y := 181) (ci := 13) (f := 74) (fin := 1) (k' := 678) (by decide +kernel) (by decide +kernel) (by exact ev_ob_621) rfl rfl ?_
        refine ev_r_aload_n (pc := 86) (k := 0) (v := .ref 621) trivial (by decide +kernel) (by exact (ev_l1 e23 (by decide) (by decide))) ?_
        refine ev_r_getI (pc := 87) (y := 582) (ci := 13) (f := 81) (fin := 0) (by decide +kernel) (by decide +kernel) (by exact ev_ob_621) rfl ?_
        intro x47 hx47
        refine ev_r_iload (pc := 90) (k := 6) (v := Int32.ofInt x21) (by decide +kernel) (by exact (ev_lk_st1 e28 (by decide) rfl)) ?_
        refine ev_r_iadd (pc := 92) (by decide +kernel) ?_
        intro x48 hx48
        refine ev_r_iald (pc := 93) hx48 (by decide +kernel) (by exact ev_ab_678) ?_
        intro x49 hx49
        refine ev_r_istore (pc := 94) (k := 8) (by decide +kernel) (by decide +kernel) rfl ?_
        refine ev_r_iload (pc := 96) (k := 7) (v := Int32.ofInt x46) (by decide +kernel) (by exact (ev_lk_st1 ev_lk_st1_self (by decide) rfl)) ?_
        refine ev_r_iload (pc := 98) (k := 8) (v := Int32.ofInt x49) (by decide +kernel) (by exact ev_lk_st1_self) ?_
        refine ev_r_jn (Q := fun K => ∀ (x50 : Int) (hx50 : ev_rng x50), ∀ (s57 : ev_St) (w51 : List (Nat × Value)), ev_lk w51 0 = some (.ref 621) → ev_lk w51 1 = some (.int (Int32.ofInt a0)) → ev_lk w51 3 = some (.int (Int32.ofInt x11)) → ev_lk w51 4 = some (.int (Int32.ofInt x12)) → ev_lk w51 6 = some (.int (Int32.ofInt x21)) → ev_w none (ev_Mof 296) d 127 w51 [.int (Int32.ofInt x50)] s57 (K x50 s57) ev_eI ev_bl) ?_ ?_
        · intro x50 hx50 s57 w51 e52 e53 e54 e55 e56
          refine ev_r_istore (pc := 127) (k := 5) (by decide +kernel) (by decide +kernel) rfl ?_
          refine ev_r_iinc (pc := 129) (k := 6) (c := 1) (x := x21) (by decide +kernel) (by decide +kernel) (by exact (ev_l1 e56 (by decide) (by decide))) (fun _ => rfl) ?_
          intro x58 hx58
          refine ev_r_goto (pc := 132) (o := (-73)) (t := 59) (by decide +kernel) (by decide +kernel) ?_
          exact hK59 x50 hx50 x58 hx58 s57 _ (by exact (ev_l1 (ev_l1 e52 (by decide) (by decide)) (by decide) (by decide))) (by exact (ev_l1 (ev_l1 e53 (by decide) (by decide)) (by decide) (by decide))) (by exact (ev_l1 (ev_l1 e54 (by decide) (by decide)) (by decide) (by decide))) (by exact (ev_l1 (ev_lk_st1 e55 (by decide) rfl) (by decide) (by decide))) (by exact (ev_lk_st1 ev_lk_st1_self (by decide) rfl)) (by exact ev_lk_st1_self)
        · intro K127 hK127
          refine ev_r_jn (Q := fun K => ∀ (s65 : ev_St) (w59 : List (Nat × Value)), ev_lk w59 0 = some (.ref 621) → ev_lk w59 1 = some (.int (Int32.ofInt a0)) → ev_lk w59 3 = some (.int (Int32.ofInt x11)) → ev_lk w59 4 = some (.int (Int32.ofInt x12)) → ev_lk w59 6 = some (.int (Int32.ofInt x21)) → ev_w none (ev_Mof 296) d 122 w59 [] s65 (K  s65) ev_eI ev_bl) ?_ ?_
          · intro  s65 w59 e60 e61 e62 e63 e64
            refine ev_r_iconst (pc := 122) (k := 1) (by decide +kernel) ?_
            refine ev_r_goto (pc := 123) (o := 4) (t := 127) (by decide +kernel) (by decide +kernel) ?_
            exact hK127 1 (by decide) s65 _ (by exact e60) (by exact e61) (by exact e62) (by exact e63) (by exact e64)
          · intro K122 hK122
            refine ev_r_icmp (pc := 100) (q := .eq) (o := 22) (t := 122) (c := x46 = x49) (by decide +kernel) (ev_k_eq hx46 hx49) (by decide +kernel) ?_ ?_
            · intro c66
              exact hK122  s29 _ (by exact (ev_l1 (ev_l1 e23 (by decide) (by decide)) (by decide) (by decide))) (by exact (ev_l1 (ev_l1 e24 (by decide) (by decide)) (by decide) (by decide))) (by exact (ev_l1 (ev_l1 e25 (by decide) (by decide)) (by decide) (by decide))) (by exact (ev_l1 (ev_l1 e26 (by decide) (by decide)) (by decide) (by decide))) (by exact (ev_l1 (ev_lk_st1 e28 (by decide) rfl) (by decide) (by decide)))
            · intro c66
              refine ev_r_aload_n (pc := 103) (k := 0) (v := .ref 621) trivial (by decide +kernel) (by exact (ev_l1 (ev_l1 e23 (by decide) (by decide)) (by decide) (by decide))) ?_
              refine ev_r_getC (pc := 104) (y := 31) (ci := 13) (f := 10) (fin := 1) (k' := 629) (by decide +kernel) (by decide +kernel) (by exact ev_ob_621) rfl rfl ?_
              refine ev_r_iload_n (pc := 107) (k := 1) (v := Int32.ofInt a0) (by decide +kernel) (by exact (ev_l1 (ev_l1 e24 (by decide) (by decide)) (by decide) (by decide))) ?_
              refine ev_r_iald (pc := 108) ha0 (by decide +kernel) (by exact ev_ab_629) ?_
              intro x67 hx67
              refine ev_r_jn (Q := fun K => ∀ (s74 : ev_St) (w68 : List (Nat × Value)), ev_lk w68 0 = some (.ref 621) → ev_lk w68 1 = some (.int (Int32.ofInt a0)) → ev_lk w68 3 = some (.int (Int32.ofInt x11)) → ev_lk w68 4 = some (.int (Int32.ofInt x12)) → ev_lk w68 6 = some (.int (Int32.ofInt x21)) → ev_w none (ev_Mof 296) d 126 w68 [] s74 (K  s74) ev_eI ev_bl) ?_ ?_
              · intro  s74 w68 e69 e70 e71 e72 e73
                refine ev_r_iconst (pc := 126) (k := 0) (by decide +kernel) ?_
                exact hK127 0 (by decide) s74 _ (by exact e69) (by exact e70) (by exact e71) (by exact e72) (by exact e73)
              · intro K126 hK126
                refine ev_r_if (pc := 109) (q := .le) (o := 17) (t := 126) (c := x67 ≤ 0) (by decide +kernel) (ev_k_le hx67 ev_rng0) (by decide +kernel) ?_ ?_
                · intro c75
                  exact hK126  s29 _ (by exact (ev_l1 (ev_l1 e23 (by decide) (by decide)) (by decide) (by decide))) (by exact (ev_l1 (ev_l1 e24 (by decide) (by decide)) (by decide) (by decide))) (by exact (ev_l1 (ev_l1 e25 (by decide) (by decide)) (by decide) (by decide))) (by exact (ev_l1 (ev_l1 e26 (by decide) (by decide)) (by decide) (by decide))) (by exact (ev_l1 (ev_lk_st1 e28 (by decide) rfl) (by decide) (by decide)))
                · intro c75
                  refine ev_r_iload (pc := 112) (k := 7) (v := Int32.ofInt x46) (by decide +kernel) (by exact (ev_lk_st1 ev_lk_st1_self (by decide) rfl)) ?_
                  refine ev_r_stat (pc := 114) (y := 401) (kind := 2) (mi := 229) (na := 1) (as := [.int (Int32.ofInt x46)]) (rest := []) (encc := ev_oI) (Q := ev_rng) (fun x S1 h => jt_229 d (by omega) Q x46 hx46 s29 x S1 h) (Or.inl rfl) (by decide +kernel) (by decide +kernel) (by decide +kernel) (by decide +kernel) rfl (by (try simp only [ev_sum, ev_nv_cat]); first | done | rfl) ?_
                  intro x77 s76 hx77
                  show ev_w _ _ _ _ _ [.int (Int32.ofInt x77)] _ _ _ _
                  refine ev_r_iload (pc := 117) (k := 8) (v := Int32.ofInt x49) (by decide +kernel) (by exact ev_lk_st1_self) ?_
                  refine ev_r_icmp (pc := 119) (q := .ne) (o := 7) (t := 126) (c := x77 ≠ x49) (by decide +kernel) (ev_k_ne hx77 hx49) (by decide +kernel) ?_ ?_
                  · intro c78
                    exact hK126  s76 _ (by exact (ev_l1 (ev_l1 e23 (by decide) (by decide)) (by decide) (by decide))) (by exact (ev_l1 (ev_l1 e24 (by decide) (by decide)) (by decide) (by decide))) (by exact (ev_l1 (ev_l1 e25 (by decide) (by decide)) (by decide) (by decide))) (by exact (ev_l1 (ev_l1 e26 (by decide) (by decide)) (by decide) (by decide))) (by exact (ev_l1 (ev_lk_st1 e28 (by decide) rfl) (by decide) (by decide)))
                  · intro c78
                    exact hK122  s76 _ (by exact (ev_l1 (ev_l1 e23 (by decide) (by decide)) (by decide) (by decide))) (by exact (ev_l1 (ev_l1 e24 (by decide) (by decide)) (by decide) (by decide))) (by exact (ev_l1 (ev_l1 e25 (by decide) (by decide)) (by decide) (by decide))) (by exact (ev_l1 (ev_l1 e26 (by decide) (by decide)) (by decide) (by decide))) (by exact (ev_l1 (ev_lk_st1 e28 (by decide) rfl) (by decide) (by decide)))
theorem jlt_296_59 (d : Nat) (hd : 5 ≤ d + 1) (Q : Nat) (a0 : Int) (x11 : Int) (x12 : Int) (ha0 : ev_rng a0) (hx11 : ev_rng x11) (hx12 : ev_rng x12)   : ∀ q : Nat, ∀ (x20 : Int) (hx20 : ev_rng x20), ∀ (x21 : Int) (hx21 : ev_rng x21), ∀ (s29 : ev_St) (w22 : List (Nat × Value)), ev_lk w22 0 = some (.ref 621) → ev_lk w22 1 = some (.int (Int32.ofInt a0)) → ev_lk w22 3 = some (.int (Int32.ofInt x11)) → ev_lk w22 4 = some (.int (Int32.ofInt x12)) → ev_lk w22 5 = some (.int (Int32.ofInt x20)) → ev_lk w22 6 = some (.int (Int32.ofInt x21)) → ev_w none (ev_Mof 296) d 59 w22 [] s29 (jl_296_59 Q a0 x11 x12  q x20 x21 s29) ev_eI ev_bl := by
  intro q
  induction q with
  | zero =>
    intro x20 hx20 x21 hx21 s29 w22 e23 e24 e25 e26 e27 e28
    exact ev_w_none
  | succ q ih => exact jbt_296_59 d hd Q a0 x11 x12 ha0 hx11 hx12   _ ih
/-- MendBenchModel.passes(I)Z -/
def jm_296 (Q : Nat) (a0 : Int) (S : ev_St) : Option ((Int) × ev_St) := ev_if ((0 : Int) ≤ a0 ∧ a0 < (ev_aln 628 : Int)) (ev_b (S.1 628 (Int.toNat a0)) fun x1 => ev_bd (jm_294 Q x1 S) fun x3 s2 => if x3 ≠ (-1) then (ev_if ((0 : Int) ≤ x3 ∧ x3 < (ev_aln 697 : Int)) (ev_b (s2.1 697 (Int.toNat x3)) fun x5 => ev_if ((0 : Int) ≤ x3 ∧ x3 < (ev_aln 698 : Int)) (ev_b (s2.1 698 (Int.toNat x3)) fun x6 => ev_ck (x6 - x5) fun x7 => ev_b (s2.1 621 81) fun x8 => ev_ck (x8 + x7) fun x9 => ev_b (s2.1 621 73) fun x10 => ev_jn (fun (x11 : Int) (x12 : Int) (x13 : Int) (s19 : ev_St) => jl_296_59 Q a0 x11 x12  Q x13 0 s19) fun K54 => if x10 < x9 then (K54 x5 x7 0 s2) else (K54 x5 x7 1 s2)))) else (some (0, s2)))
theorem jt_296 (d : Nat) (hd : 5 ≤ d) (Q : Nat) (a0 : Int) (ha0 : ev_rng a0) (S : ev_St) (x : Int) (S' : ev_St) (hJ : jm_296 Q a0 S = some (x, S')) : ev_Ref d 296 [.ref 621, .int (Int32.ofInt a0)] S (ev_eI x) S' (ev_bl x) := by
  obtain ⟨d, rfl⟩ : ∃ e, d = e + 1 := ⟨d - 1, by omega⟩
  refine ev_ref_of (P := ev_bl) (lv := [(0, .ref 621), (1, .int (Int32.ofInt a0))]) (by decide +kernel) (by (try simp only [ev_sum, ev_nv_cat]); first | done | rfl) (by (try simp only [lv_args, ev_nv_cat]); first | done | rfl) ?_ x S' hJ
  unfold jm_296
  refine ev_r_aload_n (pc := 0) (k := 0) (v := .ref 621) trivial (by decide +kernel) (by rfl) ?_
  refine ev_r_aload_n (pc := 1) (k := 0) (v := .ref 621) trivial (by decide +kernel) (by rfl) ?_
  refine ev_r_getC (pc := 2) (y := 28) (ci := 13) (f := 9) (fin := 1) (k' := 628) (by decide +kernel) (by decide +kernel) (by exact ev_ob_621) rfl rfl ?_
  refine ev_r_iload_n (pc := 5) (k := 1) (v := Int32.ofInt a0) (by decide +kernel) (by rfl) ?_
  refine ev_r_iald (pc := 6) ha0 (by decide +kernel) (by exact ev_ab_628) ?_
  intro x1 hx1
  refine ev_r_virt (pc := 7) (y := 603) (mi := 294) (na := 1) (k := 621) (as := [.int (Int32.ofInt x1)]) (rest := []) (encc := ev_oI) (Q := ev_rng) (fun x S1 h => jt_294 d (by omega) Q x1 hx1 S x S1 h) (by exact ev_ob_621) (by decide +kernel) (by decide +kernel) (by decide +kernel) (by decide +kernel) rfl (by (try simp only [ev_sum, ev_nv_cat]); first | done | rfl) ?_
  intro x3 s2 hx3
  show ev_w _ _ _ _ _ [.int (Int32.ofInt x3)] _ _ _ _
  refine ev_r_istore_n (pc := 10) (k := 2) (by decide +kernel) (by decide +kernel) rfl ?_
  refine ev_r_iload_n (pc := 11) (k := 2) (v := Int32.ofInt x3) (by decide +kernel) (by exact ev_lk_st1_self) ?_
  refine ev_r_iconst (pc := 12) (k := -1) (by decide +kernel) ?_
  refine ev_r_icmp (pc := 13) (q := .ne) (o := 5) (t := 18) (c := x3 ≠ (-1)) (by decide +kernel) (ev_k_ne hx3 (by decide)) (by decide +kernel) ?_ ?_
  · intro c4
    refine ev_r_aload_n (pc := 18) (k := 0) (v := .ref 621) trivial (by decide +kernel) (by exact (ev_l1 (by rfl) (by decide) (by decide))) ?_
    refine ev_r_getC (pc := 19) (y := 240) (ci := 13) (f := 107) (fin := 1) (k' := 697) (by decide +kernel) (by decide +kernel) (by exact ev_ob_621) rfl rfl ?_
    refine ev_r_iload_n (pc := 22) (k := 2) (v := Int32.ofInt x3) (by decide +kernel) (by exact ev_lk_st1_self) ?_
    refine ev_r_iald (pc := 23) hx3 (by decide +kernel) (by exact ev_ab_697) ?_
    intro x5 hx5
    refine ev_r_istore_n (pc := 24) (k := 3) (by decide +kernel) (by decide +kernel) rfl ?_
    refine ev_r_aload_n (pc := 25) (k := 0) (v := .ref 621) trivial (by decide +kernel) (by exact (ev_l1 (ev_l1 (by rfl) (by decide) (by decide)) (by decide) (by decide))) ?_
    refine ev_r_getC (pc := 26) (y := 243) (ci := 13) (f := 108) (fin := 1) (k' := 698) (by decide +kernel) (by decide +kernel) (by exact ev_ob_621) rfl rfl ?_
    refine ev_r_iload_n (pc := 29) (k := 2) (v := Int32.ofInt x3) (by decide +kernel) (by exact (ev_lk_st1 ev_lk_st1_self (by decide) rfl)) ?_
    refine ev_r_iald (pc := 30) hx3 (by decide +kernel) (by exact ev_ab_698) ?_
    intro x6 hx6
    refine ev_r_iload_n (pc := 31) (k := 3) (v := Int32.ofInt x5) (by decide +kernel) (by exact ev_lk_st1_self) ?_
    refine ev_r_isub (pc := 32) (by decide +kernel) ?_
    intro x7 hx7
    refine ev_r_istore (pc := 33) (k := 4) (by decide +kernel) (by decide +kernel) rfl ?_
    refine ev_r_aload_n (pc := 35) (k := 0) (v := .ref 621) trivial (by decide +kernel) (by exact (ev_l1 (ev_l1 (ev_l1 (by rfl) (by decide) (by decide)) (by decide) (by decide)) (by decide) (by decide))) ?_
    refine ev_r_getI (pc := 36) (y := 582) (ci := 13) (f := 81) (fin := 0) (by decide +kernel) (by decide +kernel) (by exact ev_ob_621) rfl ?_
    intro x8 hx8
    refine ev_r_iload (pc := 39) (k := 4) (v := Int32.ofInt x7) (by decide +kernel) (by exact ev_lk_st1_self) ?_
    refine ev_r_iadd (pc := 41) (by decide +kernel) ?_
    intro x9 hx9
    refine ev_r_aload_n (pc := 42) (k := 0) (v := .ref 621) trivial (by decide +kernel) (by exact (ev_l1 (ev_l1 (ev_l1 (by rfl) (by decide) (by decide)) (by decide) (by decide)) (by decide) (by decide))) ?_
    refine ev_r_getI (pc := 43) (y := 567) (ci := 13) (f := 73) (fin := 0) (by decide +kernel) (by decide +kernel) (by exact ev_ob_621) rfl ?_
    intro x10 hx10
    refine ev_r_jn (Q := fun K => ∀ (x11 : Int) (hx11 : ev_rng x11), ∀ (x12 : Int) (hx12 : ev_rng x12), ∀ (x13 : Int) (hx13 : ev_rng x13), ∀ (s19 : ev_St) (w14 : List (Nat × Value)), ev_lk w14 0 = some (.ref 621) → ev_lk w14 1 = some (.int (Int32.ofInt a0)) → ev_lk w14 3 = some (.int (Int32.ofInt x11)) → ev_lk w14 4 = some (.int (Int32.ofInt x12)) → ev_w none (ev_Mof 296) d 54 w14 [.int (Int32.ofInt x13)] s19 (K x11 x12 x13 s19) ev_eI ev_bl) ?_ ?_
    · intro x11 hx11 x12 hx12 x13 hx13 s19 w14 e15 e16 e17 e18
      refine ev_r_istore (pc := 54) (k := 5) (by decide +kernel) (by decide +kernel) rfl ?_
      refine ev_r_iconst (pc := 56) (k := 0) (by decide +kernel) ?_
      refine ev_r_istore (pc := 57) (k := 6) (by decide +kernel) (by decide +kernel) rfl ?_
      exact jlt_296_59 d hd Q a0 x11 x12 ha0 hx11 hx12   Q x13 hx13 0 (by decide) s19 _ (by exact (ev_l1 (ev_l1 e15 (by decide) (by decide)) (by decide) (by decide))) (by exact (ev_l1 (ev_l1 e16 (by decide) (by decide)) (by decide) (by decide))) (by exact (ev_l1 (ev_l1 e17 (by decide) (by decide)) (by decide) (by decide))) (by exact (ev_l1 (ev_lk_st1 e18 (by decide) rfl) (by decide) (by decide))) (by exact (ev_lk_st1 ev_lk_st1_self (by decide) rfl)) (by exact ev_lk_st1_self)
    · intro K54 hK54
      refine ev_r_icmp (pc := 46) (q := .gt) (o := 7) (t := 53) (c := x10 < x9) (by decide +kernel) (ev_k_gt hx9 hx10) (by decide +kernel) ?_ ?_
      · intro c79
        refine ev_r_iconst (pc := 53) (k := 0) (by decide +kernel) ?_
        exact hK54 x5 hx5 x7 hx7 0 (by decide) s2 _ (by exact (ev_l1 (ev_l1 (ev_l1 (by rfl) (by decide) (by decide)) (by decide) (by decide)) (by decide) (by decide))) (by exact (ev_l1 (ev_l1 (ev_lk_st1 (by rfl) (by decide) rfl) (by decide) (by decide)) (by decide) (by decide))) (by exact (ev_lk_st1 ev_lk_st1_self (by decide) rfl)) (by exact ev_lk_st1_self)
      · intro c79
        refine ev_r_iconst (pc := 49) (k := 1) (by decide +kernel) ?_
        refine ev_r_goto (pc := 50) (o := 4) (t := 54) (by decide +kernel) (by decide +kernel) ?_
        exact hK54 x5 hx5 x7 hx7 1 (by decide) s2 _ (by exact (ev_l1 (ev_l1 (ev_l1 (by rfl) (by decide) (by decide)) (by decide) (by decide)) (by decide) (by decide))) (by exact (ev_l1 (ev_l1 (ev_lk_st1 (by rfl) (by decide) rfl) (by decide) (by decide)) (by decide) (by decide))) (by exact (ev_lk_st1 ev_lk_st1_self (by decide) rfl)) (by exact ev_lk_st1_self)
  · intro c4
    refine ev_r_iconst (pc := 16) (k := 0) (by decide +kernel) ?_
    exact ev_r_ireturn (pc := 17) (x := 0) (v := Int32.ofInt 0) (ty := .boolean) (by decide : ev_bl 0) (by decide +kernel) (by decide +kernel) (ev_ret_bl (by decide : ev_bl 0)) rfl
/-- MendBenchModel.looksBehind(II)V -/
def jm_297 (Q : Nat) (a0 : Int) (a1 : Int) (S : ev_St) : Option ((Unit) × ev_St) := ev_bd (jm_292 Q 5 a0 a1 S) fun _ s1 => ev_bd (jm_290 Q  s1) fun _ s2 => ev_b (s2.1 621 95) fun x3 => ev_ck (x3 - 1) fun x4 => ev_b (s2.1 621 83) fun x5 => ev_b (s2.1 621 84) fun x6 => ev_bd (jm_291 Q 7 a0 x4 ((-1)) x5 x6 s2) fun x8 s7 => ev_b (ev_pI s7 621 83 x8) fun s9 => ev_b (ev_pI s9 621 81 a1) fun s10 => ev_b (s10.1 621 84) fun x11 => ev_ck (x11 + 64) fun x12 => ev_b (ev_pI s10 621 84 x12) fun s13 => ev_b (ev_pI s13 621 80 a0) fun s14 => ev_b (ev_pI s14 621 78 3) fun s15 => some ((), s15)
theorem jt_297 (d : Nat) (hd : 2 ≤ d) (Q : Nat) (a0 : Int) (a1 : Int) (ha0 : ev_rng a0) (ha1 : ev_rng a1) (S : ev_St) (x : Unit) (S' : ev_St) (hJ : jm_297 Q a0 a1 S = some (x, S')) : ev_Ref d 297 [.ref 621, .int (Int32.ofInt a0), .int (Int32.ofInt a1)] S (ev_eU x) S' (ev_PU x) := by
  obtain ⟨d, rfl⟩ : ∃ e, d = e + 1 := ⟨d - 1, by omega⟩
  refine ev_ref_of (P := ev_PU) (lv := [(0, .ref 621), (1, .int (Int32.ofInt a0)), (2, .int (Int32.ofInt a1))]) (by decide +kernel) (by (try simp only [ev_sum, ev_nv_cat]); first | done | rfl) (by (try simp only [lv_args, ev_nv_cat]); first | done | rfl) ?_ x S' hJ
  unfold jm_297
  refine ev_r_aload_n (pc := 0) (k := 0) (v := .ref 621) trivial (by decide +kernel) (by rfl) ?_
  refine ev_r_iconst (pc := 1) (k := 5) (by decide +kernel) ?_
  refine ev_r_iload_n (pc := 2) (k := 1) (v := Int32.ofInt a0) (by decide +kernel) (by rfl) ?_
  refine ev_r_iload_n (pc := 3) (k := 2) (v := Int32.ofInt a1) (by decide +kernel) (by rfl) ?_
  refine ev_r_virt (pc := 4) (y := 606) (mi := 292) (na := 3) (k := 621) (as := [.int (Int32.ofInt 5), .int (Int32.ofInt a0), .int (Int32.ofInt a1)]) (rest := []) (encc := ev_oU) (Q := ev_PU) (fun x S1 h => jt_292 d (by omega) Q 5 a0 a1 (by decide) ha0 ha1 S x S1 h) (by exact ev_ob_621) (by decide +kernel) (by decide +kernel) (by decide +kernel) (by decide +kernel) rfl (by (try simp only [ev_sum, ev_nv_cat]); first | done | rfl) ?_
  intro _ s1 _
  show ev_w _ _ _ _ _ [] _ _ _ _
  refine ev_r_aload_n (pc := 7) (k := 0) (v := .ref 621) trivial (by decide +kernel) (by rfl) ?_
  refine ev_r_virt (pc := 8) (y := 610) (mi := 290) (na := 0) (k := 621) (as := []) (rest := []) (encc := ev_oU) (Q := ev_PU) (fun x S1 h => jt_290 d (by omega) Q   s1 x S1 h) (by exact ev_ob_621) (by decide +kernel) (by decide +kernel) (by decide +kernel) (by decide +kernel) rfl (by (try simp only [ev_sum, ev_nv_cat]); first | done | rfl) ?_
  intro _ s2 _
  show ev_w _ _ _ _ _ [] _ _ _ _
  refine ev_r_aload_n (pc := 11) (k := 0) (v := .ref 621) trivial (by decide +kernel) (by rfl) ?_
  refine ev_r_aload_n (pc := 12) (k := 0) (v := .ref 621) trivial (by decide +kernel) (by rfl) ?_
  refine ev_r_bipush (pc := 13) (k := 7) (by decide +kernel) (by decide +kernel) ?_
  refine ev_r_iload_n (pc := 15) (k := 1) (v := Int32.ofInt a0) (by decide +kernel) (by rfl) ?_
  refine ev_r_aload_n (pc := 16) (k := 0) (v := .ref 621) trivial (by decide +kernel) (by rfl) ?_
  refine ev_r_getI (pc := 17) (y := 579) (ci := 13) (f := 95) (fin := 0) (by decide +kernel) (by decide +kernel) (by exact ev_ob_621) rfl ?_
  intro x3 hx3
  refine ev_r_iconst (pc := 20) (k := 1) (by decide +kernel) ?_
  refine ev_r_isub (pc := 21) (by decide +kernel) ?_
  intro x4 hx4
  refine ev_r_iconst (pc := 22) (k := -1) (by decide +kernel) ?_
  refine ev_r_aload_n (pc := 23) (k := 0) (v := .ref 621) trivial (by decide +kernel) (by rfl) ?_
  refine ev_r_getI (pc := 24) (y := 588) (ci := 13) (f := 83) (fin := 0) (by decide +kernel) (by decide +kernel) (by exact ev_ob_621) rfl ?_
  intro x5 hx5
  refine ev_r_aload_n (pc := 27) (k := 0) (v := .ref 621) trivial (by decide +kernel) (by rfl) ?_
  refine ev_r_getI (pc := 28) (y := 591) (ci := 13) (f := 84) (fin := 0) (by decide +kernel) (by decide +kernel) (by exact ev_ob_621) rfl ?_
  intro x6 hx6
  refine ev_r_virt (pc := 31) (y := 613) (mi := 291) (na := 6) (k := 621) (as := [.int (Int32.ofInt 7), .int (Int32.ofInt a0), .int (Int32.ofInt x4), .int (Int32.ofInt ((-1))), .int (Int32.ofInt x5), .int (Int32.ofInt x6)]) (rest := [.ref 621]) (encc := ev_oI) (Q := ev_rng) (fun x S1 h => jt_291 d (by omega) Q 7 a0 x4 ((-1)) x5 x6 (by decide) ha0 hx4 (by decide) hx5 hx6 s2 x S1 h) (by exact ev_ob_621) (by decide +kernel) (by decide +kernel) (by decide +kernel) (by decide +kernel) rfl (by (try simp only [ev_sum, ev_nv_cat]); first | done | rfl) ?_
  intro x8 s7 hx8
  show ev_w _ _ _ _ _ [.int (Int32.ofInt x8), .ref 621] _ _ _ _
  refine ev_r_putI (pc := 34) (y := 588) (ci := 13) (f := 83) hx8 (by decide +kernel) (by decide +kernel) (by exact ev_ob_621) rfl rfl ?_
  intro s9
  refine ev_r_aload_n (pc := 37) (k := 0) (v := .ref 621) trivial (by decide +kernel) (by rfl) ?_
  refine ev_r_iload_n (pc := 38) (k := 2) (v := Int32.ofInt a1) (by decide +kernel) (by rfl) ?_
  refine ev_r_putI (pc := 39) (y := 582) (ci := 13) (f := 81) ha1 (by decide +kernel) (by decide +kernel) (by exact ev_ob_621) rfl rfl ?_
  intro s10
  refine ev_r_aload_n (pc := 42) (k := 0) (v := .ref 621) trivial (by decide +kernel) (by rfl) ?_
  refine ev_r_dup (pc := 43) rfl (by decide +kernel) ?_
  refine ev_r_getI (pc := 44) (y := 591) (ci := 13) (f := 84) (fin := 0) (by decide +kernel) (by decide +kernel) (by exact ev_ob_621) rfl ?_
  intro x11 hx11
  refine ev_r_bipush (pc := 47) (k := 64) (by decide +kernel) (by decide +kernel) ?_
  refine ev_r_iadd (pc := 49) (by decide +kernel) ?_
  intro x12 hx12
  refine ev_r_putI (pc := 50) (y := 591) (ci := 13) (f := 84) hx12 (by decide +kernel) (by decide +kernel) (by exact ev_ob_621) rfl rfl ?_
  intro s13
  refine ev_r_aload_n (pc := 53) (k := 0) (v := .ref 621) trivial (by decide +kernel) (by rfl) ?_
  refine ev_r_iload_n (pc := 54) (k := 1) (v := Int32.ofInt a0) (by decide +kernel) (by rfl) ?_
  refine ev_r_putI (pc := 55) (y := 597) (ci := 13) (f := 80) ha0 (by decide +kernel) (by decide +kernel) (by exact ev_ob_621) rfl rfl ?_
  intro s14
  refine ev_r_aload_n (pc := 58) (k := 0) (v := .ref 621) trivial (by decide +kernel) (by rfl) ?_
  refine ev_r_iconst (pc := 59) (k := 3) (by decide +kernel) ?_
  refine ev_r_putI (pc := 60) (y := 617) (ci := 13) (f := 78) (by decide) (by decide +kernel) (by decide +kernel) (by exact ev_ob_621) rfl rfl ?_
  intro s15
  exact ev_r_return (pc := 63) (x := ()) trivial (by decide +kernel) (by decide +kernel) rfl
/-- MendBenchModel.shutsIn(IIII)V -/
def jm_298 (Q : Nat) (a0 : Int) (a1 : Int) (a2 : Int) (a3 : Int) (S : ev_St) : Option ((Unit) × ev_St) := ev_bd (jm_290 Q  S) fun _ s1 => ev_b (s1.1 621 84) fun x2 => ev_if (64 ≠ 0) (ev_b (ev_idiv x2 64) fun x3 => if x3 < 40 then (ev_if ((0 : Int) ≤ a0 ∧ a0 < (ev_aln 629 : Int)) (ev_b (s1.1 629 (Int.toNat a0)) fun x5 => ev_bd (jm_292 Q a1 a0 x5 s1) fun _ s6 => ev_b (s6.1 621 95) fun x7 => ev_ck (x7 - 1) fun x8 => ev_b (s6.1 621 83) fun x9 => ev_b (s6.1 621 84) fun x10 => ev_bd (jm_291 Q a2 a0 x8 ((-1)) x9 x10 s6) fun x12 s11 => ev_b (ev_pI s11 621 83 x12) fun s13 => ev_b (s13.1 621 84) fun x14 => ev_ck (x14 + 64) fun x15 => ev_b (ev_pI s13 621 84 x15) fun s16 => ev_b (ev_pI s16 621 80 a0) fun s17 => ev_b (ev_pI s17 621 78 a3) fun s18 => some ((), s18))) else (ev_b (ev_pI s1 621 78 5) fun s19 => some ((), s19)))
theorem jt_298 (d : Nat) (hd : 2 ≤ d) (Q : Nat) (a0 : Int) (a1 : Int) (a2 : Int) (a3 : Int) (ha0 : ev_rng a0) (ha1 : ev_rng a1) (ha2 : ev_rng a2) (ha3 : ev_rng a3) (S : ev_St) (x : Unit) (S' : ev_St) (hJ : jm_298 Q a0 a1 a2 a3 S = some (x, S')) : ev_Ref d 298 [.ref 621, .int (Int32.ofInt a0), .int (Int32.ofInt a1), .int (Int32.ofInt a2), .int (Int32.ofInt a3)] S (ev_eU x) S' (ev_PU x) := by
  obtain ⟨d, rfl⟩ : ∃ e, d = e + 1 := ⟨d - 1, by omega⟩
  refine ev_ref_of (P := ev_PU) (lv := [(0, .ref 621), (1, .int (Int32.ofInt a0)), (2, .int (Int32.ofInt a1)), (3, .int (Int32.ofInt a2)), (4, .int (Int32.ofInt a3))]) (by decide +kernel) (by (try simp only [ev_sum, ev_nv_cat]); first | done | rfl) (by (try simp only [lv_args, ev_nv_cat]); first | done | rfl) ?_ x S' hJ
  unfold jm_298
  refine ev_r_aload_n (pc := 0) (k := 0) (v := .ref 621) trivial (by decide +kernel) (by rfl) ?_
  refine ev_r_virt (pc := 1) (y := 610) (mi := 290) (na := 0) (k := 621) (as := []) (rest := []) (encc := ev_oU) (Q := ev_PU) (fun x S1 h => jt_290 d (by omega) Q   S x S1 h) (by exact ev_ob_621) (by decide +kernel) (by decide +kernel) (by decide +kernel) (by decide +kernel) rfl (by (try simp only [ev_sum, ev_nv_cat]); first | done | rfl) ?_
  intro _ s1 _
  show ev_w _ _ _ _ _ [] _ _ _ _
  refine ev_r_aload_n (pc := 4) (k := 0) (v := .ref 621) trivial (by decide +kernel) (by rfl) ?_
  refine ev_r_getI (pc := 5) (y := 591) (ci := 13) (f := 84) (fin := 0) (by decide +kernel) (by decide +kernel) (by exact ev_ob_621) rfl ?_
  intro x2 hx2
  refine ev_r_bipush (pc := 8) (k := 64) (by decide +kernel) (by decide +kernel) ?_
  refine ev_r_idiv (pc := 10) (by decide) (by decide +kernel) ?_
  intro x3 hx3
  refine ev_r_bipush (pc := 11) (k := 40) (by decide +kernel) (by decide +kernel) ?_
  refine ev_r_icmp (pc := 13) (q := .lt) (o := 9) (t := 22) (c := x3 < 40) (by decide +kernel) (ev_k_lt hx3 (by decide)) (by decide +kernel) ?_ ?_
  · intro c4
    refine ev_r_aload_n (pc := 22) (k := 0) (v := .ref 621) trivial (by decide +kernel) (by rfl) ?_
    refine ev_r_iload_n (pc := 23) (k := 2) (v := Int32.ofInt a1) (by decide +kernel) (by rfl) ?_
    refine ev_r_iload_n (pc := 24) (k := 1) (v := Int32.ofInt a0) (by decide +kernel) (by rfl) ?_
    refine ev_r_aload_n (pc := 25) (k := 0) (v := .ref 621) trivial (by decide +kernel) (by rfl) ?_
    refine ev_r_getC (pc := 26) (y := 31) (ci := 13) (f := 10) (fin := 1) (k' := 629) (by decide +kernel) (by decide +kernel) (by exact ev_ob_621) rfl rfl ?_
    refine ev_r_iload_n (pc := 29) (k := 1) (v := Int32.ofInt a0) (by decide +kernel) (by rfl) ?_
    refine ev_r_iald (pc := 30) ha0 (by decide +kernel) (by exact ev_ab_629) ?_
    intro x5 hx5
    refine ev_r_virt (pc := 31) (y := 606) (mi := 292) (na := 3) (k := 621) (as := [.int (Int32.ofInt a1), .int (Int32.ofInt a0), .int (Int32.ofInt x5)]) (rest := []) (encc := ev_oU) (Q := ev_PU) (fun x S1 h => jt_292 d (by omega) Q a1 a0 x5 ha1 ha0 hx5 s1 x S1 h) (by exact ev_ob_621) (by decide +kernel) (by decide +kernel) (by decide +kernel) (by decide +kernel) rfl (by (try simp only [ev_sum, ev_nv_cat]); first | done | rfl) ?_
    intro _ s6 _
    show ev_w _ _ _ _ _ [] _ _ _ _
    refine ev_r_aload_n (pc := 34) (k := 0) (v := .ref 621) trivial (by decide +kernel) (by rfl) ?_
    refine ev_r_aload_n (pc := 35) (k := 0) (v := .ref 621) trivial (by decide +kernel) (by rfl) ?_
    refine ev_r_iload_n (pc := 36) (k := 3) (v := Int32.ofInt a2) (by decide +kernel) (by rfl) ?_
    refine ev_r_iload_n (pc := 37) (k := 1) (v := Int32.ofInt a0) (by decide +kernel) (by rfl) ?_
    refine ev_r_aload_n (pc := 38) (k := 0) (v := .ref 621) trivial (by decide +kernel) (by rfl) ?_
    refine ev_r_getI (pc := 39) (y := 579) (ci := 13) (f := 95) (fin := 0) (by decide +kernel) (by decide +kernel) (by exact ev_ob_621) rfl ?_
    intro x7 hx7
    refine ev_r_iconst (pc := 42) (k := 1) (by decide +kernel) ?_
    refine ev_r_isub (pc := 43) (by decide +kernel) ?_
    intro x8 hx8
    refine ev_r_iconst (pc := 44) (k := -1) (by decide +kernel) ?_
    refine ev_r_aload_n (pc := 45) (k := 0) (v := .ref 621) trivial (by decide +kernel) (by rfl) ?_
    refine ev_r_getI (pc := 46) (y := 588) (ci := 13) (f := 83) (fin := 0) (by decide +kernel) (by decide +kernel) (by exact ev_ob_621) rfl ?_
    intro x9 hx9
    refine ev_r_aload_n (pc := 49) (k := 0) (v := .ref 621) trivial (by decide +kernel) (by rfl) ?_
    refine ev_r_getI (pc := 50) (y := 591) (ci := 13) (f := 84) (fin := 0) (by decide +kernel) (by decide +kernel) (by exact ev_ob_621) rfl ?_
    intro x10 hx10
    refine ev_r_virt (pc := 53) (y := 613) (mi := 291) (na := 6) (k := 621) (as := [.int (Int32.ofInt a2), .int (Int32.ofInt a0), .int (Int32.ofInt x8), .int (Int32.ofInt ((-1))), .int (Int32.ofInt x9), .int (Int32.ofInt x10)]) (rest := [.ref 621]) (encc := ev_oI) (Q := ev_rng) (fun x S1 h => jt_291 d (by omega) Q a2 a0 x8 ((-1)) x9 x10 ha2 ha0 hx8 (by decide) hx9 hx10 s6 x S1 h) (by exact ev_ob_621) (by decide +kernel) (by decide +kernel) (by decide +kernel) (by decide +kernel) rfl (by (try simp only [ev_sum, ev_nv_cat]); first | done | rfl) ?_
    intro x12 s11 hx12
    show ev_w _ _ _ _ _ [.int (Int32.ofInt x12), .ref 621] _ _ _ _
    refine ev_r_putI (pc := 56) (y := 588) (ci := 13) (f := 83) hx12 (by decide +kernel) (by decide +kernel) (by exact ev_ob_621) rfl rfl ?_
    intro s13
    refine ev_r_aload_n (pc := 59) (k := 0) (v := .ref 621) trivial (by decide +kernel) (by rfl) ?_
    refine ev_r_dup (pc := 60) rfl (by decide +kernel) ?_
    refine ev_r_getI (pc := 61) (y := 591) (ci := 13) (f := 84) (fin := 0) (by decide +kernel) (by decide +kernel) (by exact ev_ob_621) rfl ?_
    intro x14 hx14
    refine ev_r_bipush (pc := 64) (k := 64) (by decide +kernel) (by decide +kernel) ?_
    refine ev_r_iadd (pc := 66) (by decide +kernel) ?_
    intro x15 hx15
    refine ev_r_putI (pc := 67) (y := 591) (ci := 13) (f := 84) hx15 (by decide +kernel) (by decide +kernel) (by exact ev_ob_621) rfl rfl ?_
    intro s16
    refine ev_r_aload_n (pc := 70) (k := 0) (v := .ref 621) trivial (by decide +kernel) (by rfl) ?_
    refine ev_r_iload_n (pc := 71) (k := 1) (v := Int32.ofInt a0) (by decide +kernel) (by rfl) ?_
    refine ev_r_putI (pc := 72) (y := 597) (ci := 13) (f := 80) ha0 (by decide +kernel) (by decide +kernel) (by exact ev_ob_621) rfl rfl ?_
    intro s17
    refine ev_r_aload_n (pc := 75) (k := 0) (v := .ref 621) trivial (by decide +kernel) (by rfl) ?_
    refine ev_r_iload (pc := 76) (k := 4) (v := Int32.ofInt a3) (by decide +kernel) (by rfl) ?_
    refine ev_r_putI (pc := 78) (y := 617) (ci := 13) (f := 78) ha3 (by decide +kernel) (by decide +kernel) (by exact ev_ob_621) rfl rfl ?_
    intro s18
    exact ev_r_return (pc := 81) (x := ()) trivial (by decide +kernel) (by decide +kernel) rfl
  · intro c4
    refine ev_r_aload_n (pc := 16) (k := 0) (v := .ref 621) trivial (by decide +kernel) (by rfl) ?_
    refine ev_r_iconst (pc := 17) (k := 5) (by decide +kernel) ?_
    refine ev_r_putI (pc := 18) (y := 617) (ci := 13) (f := 78) (by decide) (by decide +kernel) (by decide +kernel) (by exact ev_ob_621) rfl rfl ?_
    intro s19
    exact ev_r_return (pc := 21) (x := ()) trivial (by decide +kernel) (by decide +kernel) rfl
/-- MendBenchModel.atomOf(I)V -/
def jm_299 (Q : Nat) (a0 : Int) (S : ev_St) : Option ((Unit) × ev_St) := ev_if ((0 : Int) ≤ a0 ∧ a0 < (ev_aln 625 : Int)) (ev_b (S.1 625 (Int.toNat a0)) fun x1 => ev_b (ev_pI S 621 78 5) fun s2 => if x1 ≠ 0 then (if 7 ≤ x1 then (if x1 ≠ 7 then (if x1 ≠ 8 then (if x1 ≠ 9 then (if x1 ≠ 10 then (if x1 ≠ 11 then (if x1 ≠ 12 then (if x1 ≠ 13 then (if x1 ≠ 14 then (if x1 ≠ 15 then (ev_bd (jm_290 Q  s2) fun _ s14 => ev_jn (fun (x15 : Int) (s19 : ev_St) => ev_bd (jm_292 Q x15 a0 0 s19) fun _ s20 => ev_b (ev_pI s20 621 78 4) fun s21 => some ((), s21)) fun K479 => if x1 ≠ 16 then (K479 7 s14) else (K479 6 s14)) else (ev_bd (jm_290 Q  s2) fun _ s23 => some ((), s23))) else (ev_bd (jm_290 Q  s2) fun _ s24 => ev_b (s24.1 621 84) fun x25 => ev_if (64 ≠ 0) (ev_b (ev_irem x25 64) fun x26 => if 20 ≤ x26 then (some ((), s24)) else (ev_b (s24.1 621 82) fun x28 => ev_b (s24.1 621 83) fun x29 => ev_b (s24.1 621 84) fun x30 => ev_bd (jm_291 Q 4 a0 0 x28 x29 x30 s24) fun x32 s31 => ev_b (ev_pI s31 621 83 x32) fun s33 => ev_b (s33.1 621 84) fun x34 => ev_ck (x34 + 1) fun x35 => ev_b (ev_pI s33 621 84 x35) fun s36 => ev_b (s36.1 621 79) fun x37 => ev_b (s36.1 621 79) fun x38 => ev_if (320 ≠ 0) (ev_b (ev_idiv x38 320) fun x39 => ev_ck (10 * x39) fun x40 => ev_if ((0 : Int) ≤ a0 ∧ a0 < (ev_aln 628 : Int)) (ev_b (s36.1 628 (Int.toNat a0)) fun x41 => ev_ck (x40 + x41) fun x42 => ev_if ((0 : Int) ≤ x42 ∧ x42 < (ev_aln 637 : Int)) (ev_b (s36.1 637 (Int.toNat x42)) fun x43 => ev_ck (x37 + x43) fun x44 => ev_b (ev_pI s36 621 80 x44) fun s45 => ev_b (ev_pI s45 621 78 3) fun s46 => some ((), s46)))))))) else (ev_bd (jm_290 Q  s2) fun _ s47 => ev_b (s47.1 621 79) fun x48 => ev_if ((0 : Int) ≤ a0 ∧ a0 < (ev_aln 626 : Int)) (ev_b (s47.1 626 (Int.toNat a0)) fun x49 => ev_ck (x48 + x49) fun x50 => ev_if ((0 : Int) ≤ x50 ∧ x50 < (ev_aln 627 : Int)) (ev_b (s47.1 627 (Int.toNat x50)) fun x51 => ev_jn (fun (x52 : Int) (x53 : Int) (s58 : ev_St) => ev_if ((0 : Int) ≤ a0 ∧ a0 < (ev_aln 628 : Int)) (ev_b (s58.1 628 (Int.toNat a0)) fun x59 => ev_bd (jm_294 Q x59 s58) fun x61 s60 => ev_jn (fun (x62 : Int) (s65 : ev_St) => ev_b (ev_pI s65 621 80 x62) fun s66 => ev_b (s66.1 621 80) fun x67 => if x67 ≠ (-1) then (ev_b (ev_pI s66 621 78 7) fun s69 => some ((), s69)) else (ev_b (ev_pI s66 621 78 4) fun s70 => some ((), s70))) fun K329 => if x61 = (-1) then (K329 x53 s60) else (K329 x52 s60))) fun K306 => if x51 ≠ (-1) then (ev_b (s47.1 621 79) fun x73 => ev_if ((0 : Int) ≤ x50 ∧ x50 < (ev_aln 627 : Int)) (ev_b (s47.1 627 (Int.toNat x50)) fun x74 => ev_ck (x73 + x74) fun x75 => K306 x50 x75 s47)) else (K306 x50 ((-1)) s47))))) else (ev_b (s2.1 621 84) fun x76 => ev_if (64 ≠ 0) (ev_b (ev_idiv x76 64) fun x77 => if x77 < 40 then (ev_b (s2.1 621 81) fun x79 => ev_bd (jm_297 Q a0 x79 s2) fun _ s80 => some ((), s80)) else (ev_bd (jm_290 Q  s2) fun _ s81 => some ((), s81))))) else (ev_bd (jm_298 Q a0 4 6 3 s2) fun _ s82 => some ((), s82))) else (ev_bd (jm_298 Q a0 3 5 3 s2) fun _ s83 => some ((), s83))) else (ev_b (ev_pI s2 621 78 3) fun s84 => some ((), s84))) else (ev_b (s2.1 621 81) fun x85 => ev_b (s2.1 621 83) fun x86 => ev_b (s2.1 621 84) fun x87 => ev_bd (jm_291 Q 2 a0 x85 ((-1)) x86 x87 s2) fun x89 s88 => ev_b (ev_pI s88 621 83 x89) fun s90 => ev_b (ev_pI s90 621 78 3) fun s91 => some ((), s91))) else (ev_bd (jm_290 Q  s2) fun _ s92 => ev_bd (jm_296 Q a0 s92) fun x94 s93 => if x94 = 0 then (ev_b (ev_pI s93 621 78 5) fun s96 => some ((), s96)) else (ev_b (ev_pI s93 621 78 4) fun s97 => some ((), s97)))) else (ev_bd (jm_290 Q  s2) fun _ s98 => ev_bd (jm_295 Q a0 s98) fun x100 s99 => if x100 = 0 then (ev_b (ev_pI s99 621 78 5) fun s102 => some ((), s102)) else (ev_b (ev_pI s99 621 78 4) fun s103 => some ((), s103)))) else (ev_bd (jm_290 Q  s2) fun _ s104 => ev_b (s104.1 621 81) fun x105 => ev_b (s104.1 621 73) fun x106 => if x106 ≤ x105 then (some ((), s104)) else (ev_if ((0 : Int) ≤ a0 ∧ a0 < (ev_aln 633 : Int)) (ev_b (s104.2.1 633 (Int.toNat a0)) fun y108 => ev_if ((0 : Int) ≤ a0 ∧ a0 < (ev_aln 634 : Int)) (ev_b (s104.2.1 634 (Int.toNat a0)) fun y109 => ev_b (s104.1 621 81) fun x110 => ev_if ((0 : Int) ≤ x110 ∧ x110 < (ev_aln 678 : Int)) (ev_b (s104.1 678 (Int.toNat x110)) fun x111 => ev_bd (jm_244 Q y108 y109 x111 s104) fun x113 s112 => if x113 = 0 then (some ((), s112)) else (ev_b (s112.1 621 81) fun x115 => ev_ck (x115 + 1) fun x116 => ev_b (ev_pI s112 621 81 x116) fun s117 => ev_b (ev_pI s117 621 78 4) fun s118 => some ((), s118))))))))
theorem jt_299 (d : Nat) (hd : 7 ≤ d) (Q : Nat) (a0 : Int) (ha0 : ev_rng a0) (S : ev_St) (x : Unit) (S' : ev_St) (hJ : jm_299 Q a0 S = some (x, S')) : ev_Ref d 299 [.ref 621, .int (Int32.ofInt a0)] S (ev_eU x) S' (ev_PU x) := by
  obtain ⟨d, rfl⟩ : ∃ e, d = e + 1 := ⟨d - 1, by omega⟩
  refine ev_ref_of (P := ev_PU) (lv := [(0, .ref 621), (1, .int (Int32.ofInt a0))]) (by decide +kernel) (by (try simp only [ev_sum, ev_nv_cat]); first | done | rfl) (by (try simp only [lv_args, ev_nv_cat]); first | done | rfl) ?_ x S' hJ
  unfold jm_299
  refine ev_r_aload_n (pc := 0) (k := 0) (v := .ref 621) trivial (by decide +kernel) (by rfl) ?_
  refine ev_r_getC (pc := 1) (y := 19) (ci := 13) (f := 6) (fin := 1) (k' := 625) (by decide +kernel) (by decide +kernel) (by exact ev_ob_621) rfl rfl ?_
  refine ev_r_iload_n (pc := 4) (k := 1) (v := Int32.ofInt a0) (by decide +kernel) (by rfl) ?_
  refine ev_r_iald (pc := 5) ha0 (by decide +kernel) (by exact ev_ab_625) ?_
  intro x1 hx1
  refine ev_r_istore_n (pc := 6) (k := 2) (by decide +kernel) (by decide +kernel) rfl ?_
  refine ev_r_aload_n (pc := 7) (k := 0) (v := .ref 621) trivial (by decide +kernel) (by exact (ev_l1 (by rfl) (by decide) (by decide))) ?_
  refine ev_r_iconst (pc := 8) (k := 5) (by decide +kernel) ?_
  refine ev_r_putI (pc := 9) (y := 617) (ci := 13) (f := 78) (by decide) (by decide +kernel) (by decide +kernel) (by exact ev_ob_621) rfl rfl ?_
  intro s2
  refine ev_r_iload_n (pc := 12) (k := 2) (v := Int32.ofInt x1) (by decide +kernel) (by exact ev_lk_st1_self) ?_
  refine ev_r_if (pc := 13) (q := .ne) (o := 63) (t := 76) (c := x1 ≠ 0) (by decide +kernel) (ev_k_ne hx1 ev_rng0) (by decide +kernel) ?_ ?_
  · intro c3
    refine ev_r_iload_n (pc := 76) (k := 2) (v := Int32.ofInt x1) (by decide +kernel) (by exact ev_lk_st1_self) ?_
    refine ev_r_bipush (pc := 77) (k := 7) (by decide +kernel) (by decide +kernel) ?_
    refine ev_r_icmp (pc := 79) (q := .ge) (o := 27) (t := 106) (c := 7 ≤ x1) (by decide +kernel) (ev_k_ge hx1 (by decide)) (by decide +kernel) ?_ ?_
    · intro c4
      refine ev_r_iload_n (pc := 106) (k := 2) (v := Int32.ofInt x1) (by decide +kernel) (by exact ev_lk_st1_self) ?_
      refine ev_r_bipush (pc := 107) (k := 7) (by decide +kernel) (by decide +kernel) ?_
      refine ev_r_icmp (pc := 109) (q := .ne) (o := 27) (t := 136) (c := x1 ≠ 7) (by decide +kernel) (ev_k_ne hx1 (by decide)) (by decide +kernel) ?_ ?_
      · intro c5
        refine ev_r_iload_n (pc := 136) (k := 2) (v := Int32.ofInt x1) (by decide +kernel) (by exact ev_lk_st1_self) ?_
        refine ev_r_bipush (pc := 137) (k := 8) (by decide +kernel) (by decide +kernel) ?_
        refine ev_r_icmp (pc := 139) (q := .ne) (o := 34) (t := 173) (c := x1 ≠ 8) (by decide +kernel) (ev_k_ne hx1 (by decide)) (by decide +kernel) ?_ ?_
        · intro c6
          refine ev_r_iload_n (pc := 173) (k := 2) (v := Int32.ofInt x1) (by decide +kernel) (by exact ev_lk_st1_self) ?_
          refine ev_r_bipush (pc := 174) (k := 9) (by decide +kernel) (by decide +kernel) ?_
          refine ev_r_icmp (pc := 176) (q := .ne) (o := 11) (t := 187) (c := x1 ≠ 9) (by decide +kernel) (ev_k_ne hx1 (by decide)) (by decide +kernel) ?_ ?_
          · intro c7
            refine ev_r_iload_n (pc := 187) (k := 2) (v := Int32.ofInt x1) (by decide +kernel) (by exact ev_lk_st1_self) ?_
            refine ev_r_bipush (pc := 188) (k := 10) (by decide +kernel) (by decide +kernel) ?_
            refine ev_r_icmp (pc := 190) (q := .ne) (o := 14) (t := 204) (c := x1 ≠ 10) (by decide +kernel) (ev_k_ne hx1 (by decide)) (by decide +kernel) ?_ ?_
            · intro c8
              refine ev_r_iload_n (pc := 204) (k := 2) (v := Int32.ofInt x1) (by decide +kernel) (by exact ev_lk_st1_self) ?_
              refine ev_r_bipush (pc := 205) (k := 11) (by decide +kernel) (by decide +kernel) ?_
              refine ev_r_icmp (pc := 207) (q := .ne) (o := 15) (t := 222) (c := x1 ≠ 11) (by decide +kernel) (ev_k_ne hx1 (by decide)) (by decide +kernel) ?_ ?_
              · intro c9
                refine ev_r_iload_n (pc := 222) (k := 2) (v := Int32.ofInt x1) (by decide +kernel) (by exact ev_lk_st1_self) ?_
                refine ev_r_bipush (pc := 223) (k := 12) (by decide +kernel) (by decide +kernel) ?_
                refine ev_r_icmp (pc := 225) (q := .ne) (o := 34) (t := 259) (c := x1 ≠ 12) (by decide +kernel) (ev_k_ne hx1 (by decide)) (by decide +kernel) ?_ ?_
                · intro c10
                  refine ev_r_iload_n (pc := 259) (k := 2) (v := Int32.ofInt x1) (by decide +kernel) (by exact ev_lk_st1_self) ?_
                  refine ev_r_bipush (pc := 260) (k := 13) (by decide +kernel) (by decide +kernel) ?_
                  refine ev_r_icmp (pc := 262) (q := .ne) (o := 91) (t := 353) (c := x1 ≠ 13) (by decide +kernel) (ev_k_ne hx1 (by decide)) (by decide +kernel) ?_ ?_
                  · intro c11
                    refine ev_r_iload_n (pc := 353) (k := 2) (v := Int32.ofInt x1) (by decide +kernel) (by exact ev_lk_st1_self) ?_
                    refine ev_r_bipush (pc := 354) (k := 14) (by decide +kernel) (by decide +kernel) ?_
                    refine ev_r_icmp (pc := 356) (q := .ne) (o := 92) (t := 448) (c := x1 ≠ 14) (by decide +kernel) (ev_k_ne hx1 (by decide)) (by decide +kernel) ?_ ?_
                    · intro c12
                      refine ev_r_iload_n (pc := 448) (k := 2) (v := Int32.ofInt x1) (by decide +kernel) (by exact ev_lk_st1_self) ?_
                      refine ev_r_bipush (pc := 449) (k := 15) (by decide +kernel) (by decide +kernel) ?_
                      refine ev_r_icmp (pc := 451) (q := .ne) (o := 10) (t := 461) (c := x1 ≠ 15) (by decide +kernel) (ev_k_ne hx1 (by decide)) (by decide +kernel) ?_ ?_
                      · intro c13
                        refine ev_r_aload_n (pc := 461) (k := 0) (v := .ref 621) trivial (by decide +kernel) (by exact (ev_l1 (by rfl) (by decide) (by decide))) ?_
                        refine ev_r_virt (pc := 462) (y := 610) (mi := 290) (na := 0) (k := 621) (as := []) (rest := []) (encc := ev_oU) (Q := ev_PU) (fun x S1 h => jt_290 d (by omega) Q   s2 x S1 h) (by exact ev_ob_621) (by decide +kernel) (by decide +kernel) (by decide +kernel) (by decide +kernel) rfl (by (try simp only [ev_sum, ev_nv_cat]); first | done | rfl) ?_
                        intro _ s14 _
                        show ev_w _ _ _ _ _ [] _ _ _ _
                        refine ev_r_aload_n (pc := 465) (k := 0) (v := .ref 621) trivial (by decide +kernel) (by exact (ev_l1 (by rfl) (by decide) (by decide))) ?_
                        refine ev_r_iload_n (pc := 466) (k := 2) (v := Int32.ofInt x1) (by decide +kernel) (by exact ev_lk_st1_self) ?_
                        refine ev_r_bipush (pc := 467) (k := 16) (by decide +kernel) (by decide +kernel) ?_
                        refine ev_r_jn (Q := fun K => ∀ (x15 : Int) (hx15 : ev_rng x15), ∀ (s19 : ev_St) (w16 : List (Nat × Value)), ev_lk w16 0 = some (.ref 621) → ev_lk w16 1 = some (.int (Int32.ofInt a0)) → ev_w none (ev_Mof 299) d 479 w16 [.int (Int32.ofInt x15), .ref 621] s19 (K x15 s19) ev_eU ev_PU) ?_ ?_
                        · intro x15 hx15 s19 w16 e17 e18
                          refine ev_r_iload_n (pc := 479) (k := 1) (v := Int32.ofInt a0) (by decide +kernel) (by exact e18) ?_
                          refine ev_r_iconst (pc := 480) (k := 0) (by decide +kernel) ?_
                          refine ev_r_virt (pc := 481) (y := 606) (mi := 292) (na := 3) (k := 621) (as := [.int (Int32.ofInt x15), .int (Int32.ofInt a0), .int (Int32.ofInt 0)]) (rest := []) (encc := ev_oU) (Q := ev_PU) (fun x S1 h => jt_292 d (by omega) Q x15 a0 0 hx15 ha0 (by decide) s19 x S1 h) (by exact ev_ob_621) (by decide +kernel) (by decide +kernel) (by decide +kernel) (by decide +kernel) rfl (by (try simp only [ev_sum, ev_nv_cat]); first | done | rfl) ?_
                          intro _ s20 _
                          show ev_w _ _ _ _ _ [] _ _ _ _
                          refine ev_r_aload_n (pc := 484) (k := 0) (v := .ref 621) trivial (by decide +kernel) (by exact e17) ?_
                          refine ev_r_iconst (pc := 485) (k := 4) (by decide +kernel) ?_
                          refine ev_r_putI (pc := 486) (y := 617) (ci := 13) (f := 78) (by decide) (by decide +kernel) (by decide +kernel) (by exact ev_ob_621) rfl rfl ?_
                          intro s21
                          exact ev_r_return (pc := 489) (x := ()) trivial (by decide +kernel) (by decide +kernel) rfl
                        · intro K479 hK479
                          refine ev_r_icmp (pc := 469) (q := .ne) (o := 8) (t := 477) (c := x1 ≠ 16) (by decide +kernel) (ev_k_ne hx1 (by decide)) (by decide +kernel) ?_ ?_
                          · intro c22
                            refine ev_r_bipush (pc := 477) (k := 7) (by decide +kernel) (by decide +kernel) ?_
                            exact hK479 7 (by decide) s14 _ (by exact (ev_l1 (by rfl) (by decide) (by decide))) (by exact (ev_lk_st1 (by rfl) (by decide) rfl))
                          · intro c22
                            refine ev_r_bipush (pc := 472) (k := 6) (by decide +kernel) (by decide +kernel) ?_
                            refine ev_r_goto (pc := 474) (o := 5) (t := 479) (by decide +kernel) (by decide +kernel) ?_
                            exact hK479 6 (by decide) s14 _ (by exact (ev_l1 (by rfl) (by decide) (by decide))) (by exact (ev_lk_st1 (by rfl) (by decide) rfl))
                      · intro c13
                        refine ev_r_aload_n (pc := 454) (k := 0) (v := .ref 621) trivial (by decide +kernel) (by exact (ev_l1 (by rfl) (by decide) (by decide))) ?_
                        refine ev_r_virt (pc := 455) (y := 610) (mi := 290) (na := 0) (k := 621) (as := []) (rest := []) (encc := ev_oU) (Q := ev_PU) (fun x S1 h => jt_290 d (by omega) Q   s2 x S1 h) (by exact ev_ob_621) (by decide +kernel) (by decide +kernel) (by decide +kernel) (by decide +kernel) rfl (by (try simp only [ev_sum, ev_nv_cat]); first | done | rfl) ?_
                        intro _ s23 _
                        show ev_w _ _ _ _ _ [] _ _ _ _
                        refine ev_r_goto (pc := 458) (o := 31) (t := 489) (by decide +kernel) (by decide +kernel) ?_
                        exact ev_r_return (pc := 489) (x := ()) trivial (by decide +kernel) (by decide +kernel) rfl
                    · intro c12
                      refine ev_r_aload_n (pc := 359) (k := 0) (v := .ref 621) trivial (by decide +kernel) (by exact (ev_l1 (by rfl) (by decide) (by decide))) ?_
                      refine ev_r_virt (pc := 360) (y := 610) (mi := 290) (na := 0) (k := 621) (as := []) (rest := []) (encc := ev_oU) (Q := ev_PU) (fun x S1 h => jt_290 d (by omega) Q   s2 x S1 h) (by exact ev_ob_621) (by decide +kernel) (by decide +kernel) (by decide +kernel) (by decide +kernel) rfl (by (try simp only [ev_sum, ev_nv_cat]); first | done | rfl) ?_
                      intro _ s24 _
                      show ev_w _ _ _ _ _ [] _ _ _ _
                      refine ev_r_aload_n (pc := 363) (k := 0) (v := .ref 621) trivial (by decide +kernel) (by exact (ev_l1 (by rfl) (by decide) (by decide))) ?_
                      refine ev_r_getI (pc := 364) (y := 591) (ci := 13) (f := 84) (fin := 0) (by decide +kernel) (by decide +kernel) (by exact ev_ob_621) rfl ?_
                      intro x25 hx25
                      refine ev_r_bipush (pc := 367) (k := 64) (by decide +kernel) (by decide +kernel) ?_
                      refine ev_r_irem (pc := 369) (by decide) (by decide +kernel) ?_
                      intro x26 hx26
                      refine ev_r_bipush (pc := 370) (k := 20) (by decide +kernel) (by decide +kernel) ?_
                      refine ev_r_icmp (pc := 372) (q := .ge) (o := 117) (t := 489) (c := 20 ≤ x26) (by decide +kernel) (ev_k_ge hx26 (by decide)) (by decide +kernel) ?_ ?_
                      · intro c27
                        exact ev_r_return (pc := 489) (x := ()) trivial (by decide +kernel) (by decide +kernel) rfl
                      · intro c27
                        refine ev_r_aload_n (pc := 375) (k := 0) (v := .ref 621) trivial (by decide +kernel) (by exact (ev_l1 (by rfl) (by decide) (by decide))) ?_
                        refine ev_r_aload_n (pc := 376) (k := 0) (v := .ref 621) trivial (by decide +kernel) (by exact (ev_l1 (by rfl) (by decide) (by decide))) ?_
                        refine ev_r_iconst (pc := 377) (k := 4) (by decide +kernel) ?_
                        refine ev_r_iload_n (pc := 378) (k := 1) (v := Int32.ofInt a0) (by decide +kernel) (by exact (ev_lk_st1 (by rfl) (by decide) rfl)) ?_
                        refine ev_r_iconst (pc := 379) (k := 0) (by decide +kernel) ?_
                        refine ev_r_aload_n (pc := 380) (k := 0) (v := .ref 621) trivial (by decide +kernel) (by exact (ev_l1 (by rfl) (by decide) (by decide))) ?_
                        refine ev_r_getI (pc := 381) (y := 585) (ci := 13) (f := 82) (fin := 0) (by decide +kernel) (by decide +kernel) (by exact ev_ob_621) rfl ?_
                        intro x28 hx28
                        refine ev_r_aload_n (pc := 384) (k := 0) (v := .ref 621) trivial (by decide +kernel) (by exact (ev_l1 (by rfl) (by decide) (by decide))) ?_
                        refine ev_r_getI (pc := 385) (y := 588) (ci := 13) (f := 83) (fin := 0) (by decide +kernel) (by decide +kernel) (by exact ev_ob_621) rfl ?_
                        intro x29 hx29
                        refine ev_r_aload_n (pc := 388) (k := 0) (v := .ref 621) trivial (by decide +kernel) (by exact (ev_l1 (by rfl) (by decide) (by decide))) ?_
                        refine ev_r_getI (pc := 389) (y := 591) (ci := 13) (f := 84) (fin := 0) (by decide +kernel) (by decide +kernel) (by exact ev_ob_621) rfl ?_
                        intro x30 hx30
                        refine ev_r_virt (pc := 392) (y := 613) (mi := 291) (na := 6) (k := 621) (as := [.int (Int32.ofInt 4), .int (Int32.ofInt a0), .int (Int32.ofInt 0), .int (Int32.ofInt x28), .int (Int32.ofInt x29), .int (Int32.ofInt x30)]) (rest := [.ref 621]) (encc := ev_oI) (Q := ev_rng) (fun x S1 h => jt_291 d (by omega) Q 4 a0 0 x28 x29 x30 (by decide) ha0 (by decide) hx28 hx29 hx30 s24 x S1 h) (by exact ev_ob_621) (by decide +kernel) (by decide +kernel) (by decide +kernel) (by decide +kernel) rfl (by (try simp only [ev_sum, ev_nv_cat]); first | done | rfl) ?_
                        intro x32 s31 hx32
                        show ev_w _ _ _ _ _ [.int (Int32.ofInt x32), .ref 621] _ _ _ _
                        refine ev_r_putI (pc := 395) (y := 588) (ci := 13) (f := 83) hx32 (by decide +kernel) (by decide +kernel) (by exact ev_ob_621) rfl rfl ?_
                        intro s33
                        refine ev_r_aload_n (pc := 398) (k := 0) (v := .ref 621) trivial (by decide +kernel) (by exact (ev_l1 (by rfl) (by decide) (by decide))) ?_
                        refine ev_r_dup (pc := 399) rfl (by decide +kernel) ?_
                        refine ev_r_getI (pc := 400) (y := 591) (ci := 13) (f := 84) (fin := 0) (by decide +kernel) (by decide +kernel) (by exact ev_ob_621) rfl ?_
                        intro x34 hx34
                        refine ev_r_iconst (pc := 403) (k := 1) (by decide +kernel) ?_
                        refine ev_r_iadd (pc := 404) (by decide +kernel) ?_
                        intro x35 hx35
                        refine ev_r_putI (pc := 405) (y := 591) (ci := 13) (f := 84) hx35 (by decide +kernel) (by decide +kernel) (by exact ev_ob_621) rfl rfl ?_
                        intro s36
                        refine ev_r_aload_n (pc := 408) (k := 0) (v := .ref 621) trivial (by decide +kernel) (by exact (ev_l1 (by rfl) (by decide) (by decide))) ?_
                        refine ev_r_aload_n (pc := 409) (k := 0) (v := .ref 621) trivial (by decide +kernel) (by exact (ev_l1 (by rfl) (by decide) (by decide))) ?_
                        refine ev_r_getI (pc := 410) (y := 633) (ci := 13) (f := 79) (fin := 0) (by decide +kernel) (by decide +kernel) (by exact ev_ob_621) rfl ?_
                        intro x37 hx37
                        refine ev_r_aload_n (pc := 413) (k := 0) (v := .ref 621) trivial (by decide +kernel) (by exact (ev_l1 (by rfl) (by decide) (by decide))) ?_
                        refine ev_r_getC (pc := 414) (y := 56) (ci := 13) (f := 18) (fin := 1) (k' := 637) (by decide +kernel) (by decide +kernel) (by exact ev_ob_621) rfl rfl ?_
                        refine ev_r_bipush (pc := 417) (k := 10) (by decide +kernel) (by decide +kernel) ?_
                        refine ev_r_aload_n (pc := 419) (k := 0) (v := .ref 621) trivial (by decide +kernel) (by exact (ev_l1 (by rfl) (by decide) (by decide))) ?_
                        refine ev_r_getI (pc := 420) (y := 633) (ci := 13) (f := 79) (fin := 0) (by decide +kernel) (by decide +kernel) (by exact ev_ob_621) rfl ?_
                        intro x38 hx38
                        refine ev_r_sipush (pc := 423) (k := 320) (by decide +kernel) (by decide +kernel) ?_
                        refine ev_r_idiv (pc := 426) (by decide) (by decide +kernel) ?_
                        intro x39 hx39
                        refine ev_r_imul (pc := 427) (by decide +kernel) ?_
                        intro x40 hx40
                        refine ev_r_aload_n (pc := 428) (k := 0) (v := .ref 621) trivial (by decide +kernel) (by exact (ev_l1 (by rfl) (by decide) (by decide))) ?_
                        refine ev_r_getC (pc := 429) (y := 28) (ci := 13) (f := 9) (fin := 1) (k' := 628) (by decide +kernel) (by decide +kernel) (by exact ev_ob_621) rfl rfl ?_
                        refine ev_r_iload_n (pc := 432) (k := 1) (v := Int32.ofInt a0) (by decide +kernel) (by exact (ev_lk_st1 (by rfl) (by decide) rfl)) ?_
                        refine ev_r_iald (pc := 433) ha0 (by decide +kernel) (by exact ev_ab_628) ?_
                        intro x41 hx41
                        refine ev_r_iadd (pc := 434) (by decide +kernel) ?_
                        intro x42 hx42
                        refine ev_r_iald (pc := 435) hx42 (by decide +kernel) (by exact ev_ab_637) ?_
                        intro x43 hx43
                        refine ev_r_iadd (pc := 436) (by decide +kernel) ?_
                        intro x44 hx44
                        refine ev_r_putI (pc := 437) (y := 597) (ci := 13) (f := 80) hx44 (by decide +kernel) (by decide +kernel) (by exact ev_ob_621) rfl rfl ?_
                        intro s45
                        refine ev_r_aload_n (pc := 440) (k := 0) (v := .ref 621) trivial (by decide +kernel) (by exact (ev_l1 (by rfl) (by decide) (by decide))) ?_
                        refine ev_r_iconst (pc := 441) (k := 3) (by decide +kernel) ?_
                        refine ev_r_putI (pc := 442) (y := 617) (ci := 13) (f := 78) (by decide) (by decide +kernel) (by decide +kernel) (by exact ev_ob_621) rfl rfl ?_
                        intro s46
                        refine ev_r_goto (pc := 445) (o := 44) (t := 489) (by decide +kernel) (by decide +kernel) ?_
                        exact ev_r_return (pc := 489) (x := ()) trivial (by decide +kernel) (by decide +kernel) rfl
                  · intro c11
                    refine ev_r_aload_n (pc := 265) (k := 0) (v := .ref 621) trivial (by decide +kernel) (by exact (ev_l1 (by rfl) (by decide) (by decide))) ?_
                    refine ev_r_virt (pc := 266) (y := 610) (mi := 290) (na := 0) (k := 621) (as := []) (rest := []) (encc := ev_oU) (Q := ev_PU) (fun x S1 h => jt_290 d (by omega) Q   s2 x S1 h) (by exact ev_ob_621) (by decide +kernel) (by decide +kernel) (by decide +kernel) (by decide +kernel) rfl (by (try simp only [ev_sum, ev_nv_cat]); first | done | rfl) ?_
                    intro _ s47 _
                    show ev_w _ _ _ _ _ [] _ _ _ _
                    refine ev_r_aload_n (pc := 269) (k := 0) (v := .ref 621) trivial (by decide +kernel) (by exact (ev_l1 (by rfl) (by decide) (by decide))) ?_
                    refine ev_r_getI (pc := 270) (y := 633) (ci := 13) (f := 79) (fin := 0) (by decide +kernel) (by decide +kernel) (by exact ev_ob_621) rfl ?_
                    intro x48 hx48
                    refine ev_r_aload_n (pc := 273) (k := 0) (v := .ref 621) trivial (by decide +kernel) (by exact (ev_l1 (by rfl) (by decide) (by decide))) ?_
                    refine ev_r_getC (pc := 274) (y := 22) (ci := 13) (f := 7) (fin := 1) (k' := 626) (by decide +kernel) (by decide +kernel) (by exact ev_ob_621) rfl rfl ?_
                    refine ev_r_iload_n (pc := 277) (k := 1) (v := Int32.ofInt a0) (by decide +kernel) (by exact (ev_lk_st1 (by rfl) (by decide) rfl)) ?_
                    refine ev_r_iald (pc := 278) ha0 (by decide +kernel) (by exact ev_ab_626) ?_
                    intro x49 hx49
                    refine ev_r_iadd (pc := 279) (by decide +kernel) ?_
                    intro x50 hx50
                    refine ev_r_istore_n (pc := 280) (k := 3) (by decide +kernel) (by decide +kernel) rfl ?_
                    refine ev_r_aload_n (pc := 281) (k := 0) (v := .ref 621) trivial (by decide +kernel) (by exact (ev_l1 (ev_l1 (by rfl) (by decide) (by decide)) (by decide) (by decide))) ?_
                    refine ev_r_getC (pc := 282) (y := 25) (ci := 13) (f := 8) (fin := 1) (k' := 627) (by decide +kernel) (by decide +kernel) (by exact ev_ob_621) rfl rfl ?_
                    refine ev_r_iload_n (pc := 285) (k := 3) (v := Int32.ofInt x50) (by decide +kernel) (by exact ev_lk_st1_self) ?_
                    refine ev_r_iald (pc := 286) hx50 (by decide +kernel) (by exact ev_ab_627) ?_
                    intro x51 hx51
                    refine ev_r_iconst (pc := 287) (k := -1) (by decide +kernel) ?_
                    refine ev_r_jn (Q := fun K => ∀ (x52 : Int) (hx52 : ev_rng x52), ∀ (x53 : Int) (hx53 : ev_rng x53), ∀ (s58 : ev_St) (w54 : List (Nat × Value)), ev_lk w54 0 = some (.ref 621) → ev_lk w54 1 = some (.int (Int32.ofInt a0)) → ev_lk w54 3 = some (.int (Int32.ofInt x52)) → ev_w none (ev_Mof 299) d 306 w54 [.int (Int32.ofInt x53)] s58 (K x52 x53 s58) ev_eU ev_PU) ?_ ?_
                    · intro x52 hx52 x53 hx53 s58 w54 e55 e56 e57
                      refine ev_r_istore (pc := 306) (k := 4) (by decide +kernel) (by decide +kernel) rfl ?_
                      refine ev_r_aload_n (pc := 308) (k := 0) (v := .ref 621) trivial (by decide +kernel) (by exact (ev_l1 e55 (by decide) (by decide))) ?_
                      refine ev_r_aload_n (pc := 309) (k := 0) (v := .ref 621) trivial (by decide +kernel) (by exact (ev_l1 e55 (by decide) (by decide))) ?_
                      refine ev_r_aload_n (pc := 310) (k := 0) (v := .ref 621) trivial (by decide +kernel) (by exact (ev_l1 e55 (by decide) (by decide))) ?_
                      refine ev_r_getC (pc := 311) (y := 28) (ci := 13) (f := 9) (fin := 1) (k' := 628) (by decide +kernel) (by decide +kernel) (by exact ev_ob_621) rfl rfl ?_
                      refine ev_r_iload_n (pc := 314) (k := 1) (v := Int32.ofInt a0) (by decide +kernel) (by exact (ev_l1 e56 (by decide) (by decide))) ?_
                      refine ev_r_iald (pc := 315) ha0 (by decide +kernel) (by exact ev_ab_628) ?_
                      intro x59 hx59
                      refine ev_r_virt (pc := 316) (y := 603) (mi := 294) (na := 1) (k := 621) (as := [.int (Int32.ofInt x59)]) (rest := [.ref 621]) (encc := ev_oI) (Q := ev_rng) (fun x S1 h => jt_294 d (by omega) Q x59 hx59 s58 x S1 h) (by exact ev_ob_621) (by decide +kernel) (by decide +kernel) (by decide +kernel) (by decide +kernel) rfl (by (try simp only [ev_sum, ev_nv_cat]); first | done | rfl) ?_
                      intro x61 s60 hx61
                      show ev_w _ _ _ _ _ [.int (Int32.ofInt x61), .ref 621] _ _ _ _
                      refine ev_r_iconst (pc := 319) (k := -1) (by decide +kernel) ?_
                      refine ev_r_jn (Q := fun K => ∀ (x62 : Int) (hx62 : ev_rng x62), ∀ (s65 : ev_St) (w63 : List (Nat × Value)), ev_lk w63 0 = some (.ref 621) → ev_w none (ev_Mof 299) d 329 w63 [.int (Int32.ofInt x62), .ref 621] s65 (K x62 s65) ev_eU ev_PU) ?_ ?_
                      · intro x62 hx62 s65 w63 e64
                        refine ev_r_putI (pc := 329) (y := 597) (ci := 13) (f := 80) hx62 (by decide +kernel) (by decide +kernel) (by exact ev_ob_621) rfl rfl ?_
                        intro s66
                        refine ev_r_aload_n (pc := 332) (k := 0) (v := .ref 621) trivial (by decide +kernel) (by exact e64) ?_
                        refine ev_r_aload_n (pc := 333) (k := 0) (v := .ref 621) trivial (by decide +kernel) (by exact e64) ?_
                        refine ev_r_getI (pc := 334) (y := 597) (ci := 13) (f := 80) (fin := 0) (by decide +kernel) (by decide +kernel) (by exact ev_ob_621) rfl ?_
                        intro x67 hx67
                        refine ev_r_iconst (pc := 337) (k := -1) (by decide +kernel) ?_
                        refine ev_r_icmp (pc := 338) (q := .ne) (o := 7) (t := 345) (c := x67 ≠ (-1)) (by decide +kernel) (ev_k_ne hx67 (by decide)) (by decide +kernel) ?_ ?_
                        · intro c68
                          refine ev_r_bipush (pc := 345) (k := 7) (by decide +kernel) (by decide +kernel) ?_
                          refine ev_r_putI (pc := 347) (y := 617) (ci := 13) (f := 78) (by decide) (by decide +kernel) (by decide +kernel) (by exact ev_ob_621) rfl rfl ?_
                          intro s69
                          refine ev_r_goto (pc := 350) (o := 139) (t := 489) (by decide +kernel) (by decide +kernel) ?_
                          exact ev_r_return (pc := 489) (x := ()) trivial (by decide +kernel) (by decide +kernel) rfl
                        · intro c68
                          refine ev_r_iconst (pc := 341) (k := 4) (by decide +kernel) ?_
                          refine ev_r_goto (pc := 342) (o := 5) (t := 347) (by decide +kernel) (by decide +kernel) ?_
                          refine ev_r_putI (pc := 347) (y := 617) (ci := 13) (f := 78) (by decide) (by decide +kernel) (by decide +kernel) (by exact ev_ob_621) rfl rfl ?_
                          intro s70
                          refine ev_r_goto (pc := 350) (o := 139) (t := 489) (by decide +kernel) (by decide +kernel) ?_
                          exact ev_r_return (pc := 489) (x := ()) trivial (by decide +kernel) (by decide +kernel) rfl
                      · intro K329 hK329
                        refine ev_r_icmp (pc := 320) (q := .eq) (o := 7) (t := 327) (c := x61 = (-1)) (by decide +kernel) (ev_k_eq hx61 (by decide)) (by decide +kernel) ?_ ?_
                        · intro c71
                          refine ev_r_iload (pc := 327) (k := 4) (v := Int32.ofInt x53) (by decide +kernel) (by exact ev_lk_st1_self) ?_
                          exact hK329 x53 hx53 s60 _ (by exact (ev_l1 e55 (by decide) (by decide)))
                        · intro c71
                          refine ev_r_iload_n (pc := 323) (k := 3) (v := Int32.ofInt x52) (by decide +kernel) (by exact (ev_lk_st1 e57 (by decide) rfl)) ?_
                          refine ev_r_goto (pc := 324) (o := 5) (t := 329) (by decide +kernel) (by decide +kernel) ?_
                          exact hK329 x52 hx52 s60 _ (by exact (ev_l1 e55 (by decide) (by decide)))
                    · intro K306 hK306
                      refine ev_r_icmp (pc := 288) (q := .ne) (o := 7) (t := 295) (c := x51 ≠ (-1)) (by decide +kernel) (ev_k_ne hx51 (by decide)) (by decide +kernel) ?_ ?_
                      · intro c72
                        refine ev_r_aload_n (pc := 295) (k := 0) (v := .ref 621) trivial (by decide +kernel) (by exact (ev_l1 (ev_l1 (by rfl) (by decide) (by decide)) (by decide) (by decide))) ?_
                        refine ev_r_getI (pc := 296) (y := 633) (ci := 13) (f := 79) (fin := 0) (by decide +kernel) (by decide +kernel) (by exact ev_ob_621) rfl ?_
                        intro x73 hx73
                        refine ev_r_aload_n (pc := 299) (k := 0) (v := .ref 621) trivial (by decide +kernel) (by exact (ev_l1 (ev_l1 (by rfl) (by decide) (by decide)) (by decide) (by decide))) ?_
                        refine ev_r_getC (pc := 300) (y := 25) (ci := 13) (f := 8) (fin := 1) (k' := 627) (by decide +kernel) (by decide +kernel) (by exact ev_ob_621) rfl rfl ?_
                        refine ev_r_iload_n (pc := 303) (k := 3) (v := Int32.ofInt x50) (by decide +kernel) (by exact ev_lk_st1_self) ?_
                        refine ev_r_iald (pc := 304) hx50 (by decide +kernel) (by exact ev_ab_627) ?_
                        intro x74 hx74
                        refine ev_r_iadd (pc := 305) (by decide +kernel) ?_
                        intro x75 hx75
                        exact hK306 x50 hx50 x75 hx75 s47 _ (by exact (ev_l1 (ev_l1 (by rfl) (by decide) (by decide)) (by decide) (by decide))) (by exact (ev_l1 (ev_lk_st1 (by rfl) (by decide) rfl) (by decide) (by decide))) (by exact ev_lk_st1_self)
                      · intro c72
                        refine ev_r_iconst (pc := 291) (k := -1) (by decide +kernel) ?_
                        refine ev_r_goto (pc := 292) (o := 14) (t := 306) (by decide +kernel) (by decide +kernel) ?_
                        exact hK306 x50 hx50 ((-1)) (by decide) s47 _ (by exact (ev_l1 (ev_l1 (by rfl) (by decide) (by decide)) (by decide) (by decide))) (by exact (ev_l1 (ev_lk_st1 (by rfl) (by decide) rfl) (by decide) (by decide))) (by exact ev_lk_st1_self)
                · intro c10
                  refine ev_r_aload_n (pc := 228) (k := 0) (v := .ref 621) trivial (by decide +kernel) (by exact (ev_l1 (by rfl) (by decide) (by decide))) ?_
                  refine ev_r_getI (pc := 229) (y := 591) (ci := 13) (f := 84) (fin := 0) (by decide +kernel) (by decide +kernel) (by exact ev_ob_621) rfl ?_
                  intro x76 hx76
                  refine ev_r_bipush (pc := 232) (k := 64) (by decide +kernel) (by decide +kernel) ?_
                  refine ev_r_idiv (pc := 234) (by decide) (by decide +kernel) ?_
                  intro x77 hx77
                  refine ev_r_bipush (pc := 235) (k := 40) (by decide +kernel) (by decide +kernel) ?_
                  refine ev_r_icmp (pc := 237) (q := .lt) (o := 10) (t := 247) (c := x77 < 40) (by decide +kernel) (ev_k_lt hx77 (by decide)) (by decide +kernel) ?_ ?_
                  · intro c78
                    refine ev_r_aload_n (pc := 247) (k := 0) (v := .ref 621) trivial (by decide +kernel) (by exact (ev_l1 (by rfl) (by decide) (by decide))) ?_
                    refine ev_r_iload_n (pc := 248) (k := 1) (v := Int32.ofInt a0) (by decide +kernel) (by exact (ev_lk_st1 (by rfl) (by decide) rfl)) ?_
                    refine ev_r_aload_n (pc := 249) (k := 0) (v := .ref 621) trivial (by decide +kernel) (by exact (ev_l1 (by rfl) (by decide) (by decide))) ?_
                    refine ev_r_getI (pc := 250) (y := 582) (ci := 13) (f := 81) (fin := 0) (by decide +kernel) (by decide +kernel) (by exact ev_ob_621) rfl ?_
                    intro x79 hx79
                    refine ev_r_virt (pc := 253) (y := 630) (mi := 297) (na := 2) (k := 621) (as := [.int (Int32.ofInt a0), .int (Int32.ofInt x79)]) (rest := []) (encc := ev_oU) (Q := ev_PU) (fun x S1 h => jt_297 d (by omega) Q a0 x79 ha0 hx79 s2 x S1 h) (by exact ev_ob_621) (by decide +kernel) (by decide +kernel) (by decide +kernel) (by decide +kernel) rfl (by (try simp only [ev_sum, ev_nv_cat]); first | done | rfl) ?_
                    intro _ s80 _
                    show ev_w _ _ _ _ _ [] _ _ _ _
                    refine ev_r_goto (pc := 256) (o := 233) (t := 489) (by decide +kernel) (by decide +kernel) ?_
                    exact ev_r_return (pc := 489) (x := ()) trivial (by decide +kernel) (by decide +kernel) rfl
                  · intro c78
                    refine ev_r_aload_n (pc := 240) (k := 0) (v := .ref 621) trivial (by decide +kernel) (by exact (ev_l1 (by rfl) (by decide) (by decide))) ?_
                    refine ev_r_virt (pc := 241) (y := 610) (mi := 290) (na := 0) (k := 621) (as := []) (rest := []) (encc := ev_oU) (Q := ev_PU) (fun x S1 h => jt_290 d (by omega) Q   s2 x S1 h) (by exact ev_ob_621) (by decide +kernel) (by decide +kernel) (by decide +kernel) (by decide +kernel) rfl (by (try simp only [ev_sum, ev_nv_cat]); first | done | rfl) ?_
                    intro _ s81 _
                    show ev_w _ _ _ _ _ [] _ _ _ _
                    refine ev_r_goto (pc := 244) (o := 245) (t := 489) (by decide +kernel) (by decide +kernel) ?_
                    exact ev_r_return (pc := 489) (x := ()) trivial (by decide +kernel) (by decide +kernel) rfl
              · intro c9
                refine ev_r_aload_n (pc := 210) (k := 0) (v := .ref 621) trivial (by decide +kernel) (by exact (ev_l1 (by rfl) (by decide) (by decide))) ?_
                refine ev_r_iload_n (pc := 211) (k := 1) (v := Int32.ofInt a0) (by decide +kernel) (by exact (ev_lk_st1 (by rfl) (by decide) rfl)) ?_
                refine ev_r_iconst (pc := 212) (k := 4) (by decide +kernel) ?_
                refine ev_r_bipush (pc := 213) (k := 6) (by decide +kernel) (by decide +kernel) ?_
                refine ev_r_iconst (pc := 215) (k := 3) (by decide +kernel) ?_
                refine ev_r_virt (pc := 216) (y := 626) (mi := 298) (na := 4) (k := 621) (as := [.int (Int32.ofInt a0), .int (Int32.ofInt 4), .int (Int32.ofInt 6), .int (Int32.ofInt 3)]) (rest := []) (encc := ev_oU) (Q := ev_PU) (fun x S1 h => jt_298 d (by omega) Q a0 4 6 3 ha0 (by decide) (by decide) (by decide) s2 x S1 h) (by exact ev_ob_621) (by decide +kernel) (by decide +kernel) (by decide +kernel) (by decide +kernel) rfl (by (try simp only [ev_sum, ev_nv_cat]); first | done | rfl) ?_
                intro _ s82 _
                show ev_w _ _ _ _ _ [] _ _ _ _
                refine ev_r_goto (pc := 219) (o := 270) (t := 489) (by decide +kernel) (by decide +kernel) ?_
                exact ev_r_return (pc := 489) (x := ()) trivial (by decide +kernel) (by decide +kernel) rfl
            · intro c8
              refine ev_r_aload_n (pc := 193) (k := 0) (v := .ref 621) trivial (by decide +kernel) (by exact (ev_l1 (by rfl) (by decide) (by decide))) ?_
              refine ev_r_iload_n (pc := 194) (k := 1) (v := Int32.ofInt a0) (by decide +kernel) (by exact (ev_lk_st1 (by rfl) (by decide) rfl)) ?_
              refine ev_r_iconst (pc := 195) (k := 3) (by decide +kernel) ?_
              refine ev_r_iconst (pc := 196) (k := 5) (by decide +kernel) ?_
              refine ev_r_iconst (pc := 197) (k := 3) (by decide +kernel) ?_
              refine ev_r_virt (pc := 198) (y := 626) (mi := 298) (na := 4) (k := 621) (as := [.int (Int32.ofInt a0), .int (Int32.ofInt 3), .int (Int32.ofInt 5), .int (Int32.ofInt 3)]) (rest := []) (encc := ev_oU) (Q := ev_PU) (fun x S1 h => jt_298 d (by omega) Q a0 3 5 3 ha0 (by decide) (by decide) (by decide) s2 x S1 h) (by exact ev_ob_621) (by decide +kernel) (by decide +kernel) (by decide +kernel) (by decide +kernel) rfl (by (try simp only [ev_sum, ev_nv_cat]); first | done | rfl) ?_
              intro _ s83 _
              show ev_w _ _ _ _ _ [] _ _ _ _
              refine ev_r_goto (pc := 201) (o := 288) (t := 489) (by decide +kernel) (by decide +kernel) ?_
              exact ev_r_return (pc := 489) (x := ()) trivial (by decide +kernel) (by decide +kernel) rfl
          · intro c7
            refine ev_r_aload_n (pc := 179) (k := 0) (v := .ref 621) trivial (by decide +kernel) (by exact (ev_l1 (by rfl) (by decide) (by decide))) ?_
            refine ev_r_iconst (pc := 180) (k := 3) (by decide +kernel) ?_
            refine ev_r_putI (pc := 181) (y := 617) (ci := 13) (f := 78) (by decide) (by decide +kernel) (by decide +kernel) (by exact ev_ob_621) rfl rfl ?_
            intro s84
            refine ev_r_goto (pc := 184) (o := 305) (t := 489) (by decide +kernel) (by decide +kernel) ?_
            exact ev_r_return (pc := 489) (x := ()) trivial (by decide +kernel) (by decide +kernel) rfl
        · intro c6
          refine ev_r_aload_n (pc := 142) (k := 0) (v := .ref 621) trivial (by decide +kernel) (by exact (ev_l1 (by rfl) (by decide) (by decide))) ?_
          refine ev_r_aload_n (pc := 143) (k := 0) (v := .ref 621) trivial (by decide +kernel) (by exact (ev_l1 (by rfl) (by decide) (by decide))) ?_
          refine ev_r_iconst (pc := 144) (k := 2) (by decide +kernel) ?_
          refine ev_r_iload_n (pc := 145) (k := 1) (v := Int32.ofInt a0) (by decide +kernel) (by exact (ev_lk_st1 (by rfl) (by decide) rfl)) ?_
          refine ev_r_aload_n (pc := 146) (k := 0) (v := .ref 621) trivial (by decide +kernel) (by exact (ev_l1 (by rfl) (by decide) (by decide))) ?_
          refine ev_r_getI (pc := 147) (y := 582) (ci := 13) (f := 81) (fin := 0) (by decide +kernel) (by decide +kernel) (by exact ev_ob_621) rfl ?_
          intro x85 hx85
          refine ev_r_iconst (pc := 150) (k := -1) (by decide +kernel) ?_
          refine ev_r_aload_n (pc := 151) (k := 0) (v := .ref 621) trivial (by decide +kernel) (by exact (ev_l1 (by rfl) (by decide) (by decide))) ?_
          refine ev_r_getI (pc := 152) (y := 588) (ci := 13) (f := 83) (fin := 0) (by decide +kernel) (by decide +kernel) (by exact ev_ob_621) rfl ?_
          intro x86 hx86
          refine ev_r_aload_n (pc := 155) (k := 0) (v := .ref 621) trivial (by decide +kernel) (by exact (ev_l1 (by rfl) (by decide) (by decide))) ?_
          refine ev_r_getI (pc := 156) (y := 591) (ci := 13) (f := 84) (fin := 0) (by decide +kernel) (by decide +kernel) (by exact ev_ob_621) rfl ?_
          intro x87 hx87
          refine ev_r_virt (pc := 159) (y := 613) (mi := 291) (na := 6) (k := 621) (as := [.int (Int32.ofInt 2), .int (Int32.ofInt a0), .int (Int32.ofInt x85), .int (Int32.ofInt ((-1))), .int (Int32.ofInt x86), .int (Int32.ofInt x87)]) (rest := [.ref 621]) (encc := ev_oI) (Q := ev_rng) (fun x S1 h => jt_291 d (by omega) Q 2 a0 x85 ((-1)) x86 x87 (by decide) ha0 hx85 (by decide) hx86 hx87 s2 x S1 h) (by exact ev_ob_621) (by decide +kernel) (by decide +kernel) (by decide +kernel) (by decide +kernel) rfl (by (try simp only [ev_sum, ev_nv_cat]); first | done | rfl) ?_
          intro x89 s88 hx89
          show ev_w _ _ _ _ _ [.int (Int32.ofInt x89), .ref 621] _ _ _ _
          refine ev_r_putI (pc := 162) (y := 588) (ci := 13) (f := 83) hx89 (by decide +kernel) (by decide +kernel) (by exact ev_ob_621) rfl rfl ?_
          intro s90
          refine ev_r_aload_n (pc := 165) (k := 0) (v := .ref 621) trivial (by decide +kernel) (by exact (ev_l1 (by rfl) (by decide) (by decide))) ?_
          refine ev_r_iconst (pc := 166) (k := 3) (by decide +kernel) ?_
          refine ev_r_putI (pc := 167) (y := 617) (ci := 13) (f := 78) (by decide) (by decide +kernel) (by decide +kernel) (by exact ev_ob_621) rfl rfl ?_
          intro s91
          refine ev_r_goto (pc := 170) (o := 319) (t := 489) (by decide +kernel) (by decide +kernel) ?_
          exact ev_r_return (pc := 489) (x := ()) trivial (by decide +kernel) (by decide +kernel) rfl
      · intro c5
        refine ev_r_aload_n (pc := 112) (k := 0) (v := .ref 621) trivial (by decide +kernel) (by exact (ev_l1 (by rfl) (by decide) (by decide))) ?_
        refine ev_r_virt (pc := 113) (y := 610) (mi := 290) (na := 0) (k := 621) (as := []) (rest := []) (encc := ev_oU) (Q := ev_PU) (fun x S1 h => jt_290 d (by omega) Q   s2 x S1 h) (by exact ev_ob_621) (by decide +kernel) (by decide +kernel) (by decide +kernel) (by decide +kernel) rfl (by (try simp only [ev_sum, ev_nv_cat]); first | done | rfl) ?_
        intro _ s92 _
        show ev_w _ _ _ _ _ [] _ _ _ _
        refine ev_r_aload_n (pc := 116) (k := 0) (v := .ref 621) trivial (by decide +kernel) (by exact (ev_l1 (by rfl) (by decide) (by decide))) ?_
        refine ev_r_aload_n (pc := 117) (k := 0) (v := .ref 621) trivial (by decide +kernel) (by exact (ev_l1 (by rfl) (by decide) (by decide))) ?_
        refine ev_r_iload_n (pc := 118) (k := 1) (v := Int32.ofInt a0) (by decide +kernel) (by exact (ev_lk_st1 (by rfl) (by decide) rfl)) ?_
        refine ev_r_virt (pc := 119) (y := 623) (mi := 296) (na := 1) (k := 621) (as := [.int (Int32.ofInt a0)]) (rest := [.ref 621]) (encc := ev_oI) (Q := ev_bl) (fun x S1 h => jt_296 d (by omega) Q a0 ha0 s92 x S1 h) (by exact ev_ob_621) (by decide +kernel) (by decide +kernel) (by decide +kernel) (by decide +kernel) rfl (by (try simp only [ev_sum, ev_nv_cat]); first | done | rfl) ?_
        intro x94 s93 hx94
        replace hx94 := ev_bl_rng hx94
        show ev_w _ _ _ _ _ [.int (Int32.ofInt x94), .ref 621] _ _ _ _
        refine ev_r_if (pc := 122) (q := .eq) (o := 7) (t := 129) (c := x94 = 0) (by decide +kernel) (ev_k_eq hx94 ev_rng0) (by decide +kernel) ?_ ?_
        · intro c95
          refine ev_r_iconst (pc := 129) (k := 5) (by decide +kernel) ?_
          refine ev_r_putI (pc := 130) (y := 617) (ci := 13) (f := 78) (by decide) (by decide +kernel) (by decide +kernel) (by exact ev_ob_621) rfl rfl ?_
          intro s96
          refine ev_r_goto (pc := 133) (o := 356) (t := 489) (by decide +kernel) (by decide +kernel) ?_
          exact ev_r_return (pc := 489) (x := ()) trivial (by decide +kernel) (by decide +kernel) rfl
        · intro c95
          refine ev_r_iconst (pc := 125) (k := 4) (by decide +kernel) ?_
          refine ev_r_goto (pc := 126) (o := 4) (t := 130) (by decide +kernel) (by decide +kernel) ?_
          refine ev_r_putI (pc := 130) (y := 617) (ci := 13) (f := 78) (by decide) (by decide +kernel) (by decide +kernel) (by exact ev_ob_621) rfl rfl ?_
          intro s97
          refine ev_r_goto (pc := 133) (o := 356) (t := 489) (by decide +kernel) (by decide +kernel) ?_
          exact ev_r_return (pc := 489) (x := ()) trivial (by decide +kernel) (by decide +kernel) rfl
    · intro c4
      refine ev_r_aload_n (pc := 82) (k := 0) (v := .ref 621) trivial (by decide +kernel) (by exact (ev_l1 (by rfl) (by decide) (by decide))) ?_
      refine ev_r_virt (pc := 83) (y := 610) (mi := 290) (na := 0) (k := 621) (as := []) (rest := []) (encc := ev_oU) (Q := ev_PU) (fun x S1 h => jt_290 d (by omega) Q   s2 x S1 h) (by exact ev_ob_621) (by decide +kernel) (by decide +kernel) (by decide +kernel) (by decide +kernel) rfl (by (try simp only [ev_sum, ev_nv_cat]); first | done | rfl) ?_
      intro _ s98 _
      show ev_w _ _ _ _ _ [] _ _ _ _
      refine ev_r_aload_n (pc := 86) (k := 0) (v := .ref 621) trivial (by decide +kernel) (by exact (ev_l1 (by rfl) (by decide) (by decide))) ?_
      refine ev_r_aload_n (pc := 87) (k := 0) (v := .ref 621) trivial (by decide +kernel) (by exact (ev_l1 (by rfl) (by decide) (by decide))) ?_
      refine ev_r_iload_n (pc := 88) (k := 1) (v := Int32.ofInt a0) (by decide +kernel) (by exact (ev_lk_st1 (by rfl) (by decide) rfl)) ?_
      refine ev_r_virt (pc := 89) (y := 620) (mi := 295) (na := 1) (k := 621) (as := [.int (Int32.ofInt a0)]) (rest := [.ref 621]) (encc := ev_oI) (Q := ev_bl) (fun x S1 h => jt_295 d (by omega) Q a0 ha0 s98 x S1 h) (by exact ev_ob_621) (by decide +kernel) (by decide +kernel) (by decide +kernel) (by decide +kernel) rfl (by (try simp only [ev_sum, ev_nv_cat]); first | done | rfl) ?_
      intro x100 s99 hx100
      replace hx100 := ev_bl_rng hx100
      show ev_w _ _ _ _ _ [.int (Int32.ofInt x100), .ref 621] _ _ _ _
      refine ev_r_if (pc := 92) (q := .eq) (o := 7) (t := 99) (c := x100 = 0) (by decide +kernel) (ev_k_eq hx100 ev_rng0) (by decide +kernel) ?_ ?_
      · intro c101
        refine ev_r_iconst (pc := 99) (k := 5) (by decide +kernel) ?_
        refine ev_r_putI (pc := 100) (y := 617) (ci := 13) (f := 78) (by decide) (by decide +kernel) (by decide +kernel) (by exact ev_ob_621) rfl rfl ?_
        intro s102
        refine ev_r_goto (pc := 103) (o := 386) (t := 489) (by decide +kernel) (by decide +kernel) ?_
        exact ev_r_return (pc := 489) (x := ()) trivial (by decide +kernel) (by decide +kernel) rfl
      · intro c101
        refine ev_r_iconst (pc := 95) (k := 4) (by decide +kernel) ?_
        refine ev_r_goto (pc := 96) (o := 4) (t := 100) (by decide +kernel) (by decide +kernel) ?_
        refine ev_r_putI (pc := 100) (y := 617) (ci := 13) (f := 78) (by decide) (by decide +kernel) (by decide +kernel) (by exact ev_ob_621) rfl rfl ?_
        intro s103
        refine ev_r_goto (pc := 103) (o := 386) (t := 489) (by decide +kernel) (by decide +kernel) ?_
        exact ev_r_return (pc := 489) (x := ()) trivial (by decide +kernel) (by decide +kernel) rfl
  · intro c3
    refine ev_r_aload_n (pc := 16) (k := 0) (v := .ref 621) trivial (by decide +kernel) (by exact (ev_l1 (by rfl) (by decide) (by decide))) ?_
    refine ev_r_virt (pc := 17) (y := 610) (mi := 290) (na := 0) (k := 621) (as := []) (rest := []) (encc := ev_oU) (Q := ev_PU) (fun x S1 h => jt_290 d (by omega) Q   s2 x S1 h) (by exact ev_ob_621) (by decide +kernel) (by decide +kernel) (by decide +kernel) (by decide +kernel) rfl (by (try simp only [ev_sum, ev_nv_cat]); first | done | rfl) ?_
    intro _ s104 _
    show ev_w _ _ _ _ _ [] _ _ _ _
    refine ev_r_aload_n (pc := 20) (k := 0) (v := .ref 621) trivial (by decide +kernel) (by exact (ev_l1 (by rfl) (by decide) (by decide))) ?_
    refine ev_r_getI (pc := 21) (y := 582) (ci := 13) (f := 81) (fin := 0) (by decide +kernel) (by decide +kernel) (by exact ev_ob_621) rfl ?_
    intro x105 hx105
    refine ev_r_aload_n (pc := 24) (k := 0) (v := .ref 621) trivial (by decide +kernel) (by exact (ev_l1 (by rfl) (by decide) (by decide))) ?_
    refine ev_r_getI (pc := 25) (y := 567) (ci := 13) (f := 73) (fin := 0) (by decide +kernel) (by decide +kernel) (by exact ev_ob_621) rfl ?_
    intro x106 hx106
    refine ev_r_icmp (pc := 28) (q := .ge) (o := 461) (t := 489) (c := x106 ≤ x105) (by decide +kernel) (ev_k_ge hx105 hx106) (by decide +kernel) ?_ ?_
    · intro c107
      exact ev_r_return (pc := 489) (x := ()) trivial (by decide +kernel) (by decide +kernel) rfl
    · intro c107
      refine ev_r_aload_n (pc := 31) (k := 0) (v := .ref 621) trivial (by decide +kernel) (by exact (ev_l1 (by rfl) (by decide) (by decide))) ?_
      refine ev_r_getC (pc := 32) (y := 43) (ci := 13) (f := 14) (fin := 1) (k' := 633) (by decide +kernel) (by decide +kernel) (by exact ev_ob_621) rfl rfl ?_
      refine ev_r_iload_n (pc := 35) (k := 1) (v := Int32.ofInt a0) (by decide +kernel) (by exact (ev_lk_st1 (by rfl) (by decide) rfl)) ?_
      refine ev_r_lald (pc := 36) ha0 (by decide +kernel) (by exact ev_ab_633) ?_
      intro y108
      refine ev_r_aload_n (pc := 37) (k := 0) (v := .ref 621) trivial (by decide +kernel) (by exact (ev_l1 (by rfl) (by decide) (by decide))) ?_
      refine ev_r_getC (pc := 38) (y := 47) (ci := 13) (f := 15) (fin := 1) (k' := 634) (by decide +kernel) (by decide +kernel) (by exact ev_ob_621) rfl rfl ?_
      refine ev_r_iload_n (pc := 41) (k := 1) (v := Int32.ofInt a0) (by decide +kernel) (by exact (ev_lk_st1 (by rfl) (by decide) rfl)) ?_
      refine ev_r_lald (pc := 42) ha0 (by decide +kernel) (by exact ev_ab_634) ?_
      intro y109
      refine ev_r_aload_n (pc := 43) (k := 0) (v := .ref 621) trivial (by decide +kernel) (by exact (ev_l1 (by rfl) (by decide) (by decide))) ?_
      refine ev_r_getC (pc := 44) (y := 181) (ci := 13) (f := 74) (fin := 1) (k' := 678) (by decide +kernel) (by decide +kernel) (by exact ev_ob_621) rfl rfl ?_
      refine ev_r_aload_n (pc := 47) (k := 0) (v := .ref 621) trivial (by decide +kernel) (by exact (ev_l1 (by rfl) (by decide) (by decide))) ?_
      refine ev_r_getI (pc := 48) (y := 582) (ci := 13) (f := 81) (fin := 0) (by decide +kernel) (by decide +kernel) (by exact ev_ob_621) rfl ?_
      intro x110 hx110
      refine ev_r_iald (pc := 51) hx110 (by decide +kernel) (by exact ev_ab_678) ?_
      intro x111 hx111
      refine ev_r_stat (pc := 52) (y := 534) (kind := 2) (mi := 244) (na := 3) (as := [.long y108, .long y109, .int (Int32.ofInt x111)]) (rest := []) (encc := ev_oI) (Q := ev_bl) (fun x S1 h => jt_244 d (by omega) Q y108 y109 x111 hx111 s104 x S1 h) (Or.inl rfl) (by decide +kernel) (by decide +kernel) (by decide +kernel) (by decide +kernel) rfl (by (try simp only [ev_sum, ev_nv_cat]); first | done | rfl) ?_
      intro x113 s112 hx113
      replace hx113 := ev_bl_rng hx113
      show ev_w _ _ _ _ _ [.int (Int32.ofInt x113)] _ _ _ _
      refine ev_r_if (pc := 55) (q := .eq) (o := 434) (t := 489) (c := x113 = 0) (by decide +kernel) (ev_k_eq hx113 ev_rng0) (by decide +kernel) ?_ ?_
      · intro c114
        exact ev_r_return (pc := 489) (x := ()) trivial (by decide +kernel) (by decide +kernel) rfl
      · intro c114
        refine ev_r_aload_n (pc := 58) (k := 0) (v := .ref 621) trivial (by decide +kernel) (by exact (ev_l1 (by rfl) (by decide) (by decide))) ?_
        refine ev_r_dup (pc := 59) rfl (by decide +kernel) ?_
        refine ev_r_getI (pc := 60) (y := 582) (ci := 13) (f := 81) (fin := 0) (by decide +kernel) (by decide +kernel) (by exact ev_ob_621) rfl ?_
        intro x115 hx115
        refine ev_r_iconst (pc := 63) (k := 1) (by decide +kernel) ?_
        refine ev_r_iadd (pc := 64) (by decide +kernel) ?_
        intro x116 hx116
        refine ev_r_putI (pc := 65) (y := 582) (ci := 13) (f := 81) hx116 (by decide +kernel) (by decide +kernel) (by exact ev_ob_621) rfl rfl ?_
        intro s117
        refine ev_r_aload_n (pc := 68) (k := 0) (v := .ref 621) trivial (by decide +kernel) (by exact (ev_l1 (by rfl) (by decide) (by decide))) ?_
        refine ev_r_iconst (pc := 69) (k := 4) (by decide +kernel) ?_
        refine ev_r_putI (pc := 70) (y := 617) (ci := 13) (f := 78) (by decide) (by decide +kernel) (by decide +kernel) (by exact ev_ob_621) rfl rfl ?_
        intro s118
        refine ev_r_goto (pc := 73) (o := 416) (t := 489) (by decide +kernel) (by decide +kernel) ?_
        exact ev_r_return (pc := 489) (x := ()) trivial (by decide +kernel) (by decide +kernel) rfl
/-- MendBenchModel.round(II)V -/
def jm_300 (Q : Nat) (a0 : Int) (a1 : Int) (S : ev_St) : Option ((Unit) × ev_St) := ev_bd (jm_290 Q  S) fun _ s1 => ev_ck (a1 + 1) fun x2 => ev_ck (256 * x2) fun x3 => ev_b (s1.1 621 81) fun x4 => ev_ck (x3 + x4) fun x5 => ev_b (s1.1 621 83) fun x6 => ev_b (s1.1 621 84) fun x7 => ev_bd (jm_291 Q 3 a0 x5 ((-1)) x6 x7 s1) fun x9 s8 => ev_b (ev_pI s8 621 83 x9) fun s10 => ev_b (ev_pI s10 621 78 2) fun s11 => some ((), s11)
theorem jt_300 (d : Nat) (hd : 2 ≤ d) (Q : Nat) (a0 : Int) (a1 : Int) (ha0 : ev_rng a0) (ha1 : ev_rng a1) (S : ev_St) (x : Unit) (S' : ev_St) (hJ : jm_300 Q a0 a1 S = some (x, S')) : ev_Ref d 300 [.ref 621, .int (Int32.ofInt a0), .int (Int32.ofInt a1)] S (ev_eU x) S' (ev_PU x) := by
  obtain ⟨d, rfl⟩ : ∃ e, d = e + 1 := ⟨d - 1, by omega⟩
  refine ev_ref_of (P := ev_PU) (lv := [(0, .ref 621), (1, .int (Int32.ofInt a0)), (2, .int (Int32.ofInt a1))]) (by decide +kernel) (by (try simp only [ev_sum, ev_nv_cat]); first | done | rfl) (by (try simp only [lv_args, ev_nv_cat]); first | done | rfl) ?_ x S' hJ
  unfold jm_300
  refine ev_r_aload_n (pc := 0) (k := 0) (v := .ref 621) trivial (by decide +kernel) (by rfl) ?_
  refine ev_r_virt (pc := 1) (y := 610) (mi := 290) (na := 0) (k := 621) (as := []) (rest := []) (encc := ev_oU) (Q := ev_PU) (fun x S1 h => jt_290 d (by omega) Q   S x S1 h) (by exact ev_ob_621) (by decide +kernel) (by decide +kernel) (by decide +kernel) (by decide +kernel) rfl (by (try simp only [ev_sum, ev_nv_cat]); first | done | rfl) ?_
  intro _ s1 _
  show ev_w _ _ _ _ _ [] _ _ _ _
  refine ev_r_aload_n (pc := 4) (k := 0) (v := .ref 621) trivial (by decide +kernel) (by rfl) ?_
  refine ev_r_aload_n (pc := 5) (k := 0) (v := .ref 621) trivial (by decide +kernel) (by rfl) ?_
  refine ev_r_iconst (pc := 6) (k := 3) (by decide +kernel) ?_
  refine ev_r_iload_n (pc := 7) (k := 1) (v := Int32.ofInt a0) (by decide +kernel) (by rfl) ?_
  refine ev_r_sipush (pc := 8) (k := 256) (by decide +kernel) (by decide +kernel) ?_
  refine ev_r_iload_n (pc := 11) (k := 2) (v := Int32.ofInt a1) (by decide +kernel) (by rfl) ?_
  refine ev_r_iconst (pc := 12) (k := 1) (by decide +kernel) ?_
  refine ev_r_iadd (pc := 13) (by decide +kernel) ?_
  intro x2 hx2
  refine ev_r_imul (pc := 14) (by decide +kernel) ?_
  intro x3 hx3
  refine ev_r_aload_n (pc := 15) (k := 0) (v := .ref 621) trivial (by decide +kernel) (by rfl) ?_
  refine ev_r_getI (pc := 16) (y := 582) (ci := 13) (f := 81) (fin := 0) (by decide +kernel) (by decide +kernel) (by exact ev_ob_621) rfl ?_
  intro x4 hx4
  refine ev_r_iadd (pc := 19) (by decide +kernel) ?_
  intro x5 hx5
  refine ev_r_iconst (pc := 20) (k := -1) (by decide +kernel) ?_
  refine ev_r_aload_n (pc := 21) (k := 0) (v := .ref 621) trivial (by decide +kernel) (by rfl) ?_
  refine ev_r_getI (pc := 22) (y := 588) (ci := 13) (f := 83) (fin := 0) (by decide +kernel) (by decide +kernel) (by exact ev_ob_621) rfl ?_
  intro x6 hx6
  refine ev_r_aload_n (pc := 25) (k := 0) (v := .ref 621) trivial (by decide +kernel) (by rfl) ?_
  refine ev_r_getI (pc := 26) (y := 591) (ci := 13) (f := 84) (fin := 0) (by decide +kernel) (by decide +kernel) (by exact ev_ob_621) rfl ?_
  intro x7 hx7
  refine ev_r_virt (pc := 29) (y := 613) (mi := 291) (na := 6) (k := 621) (as := [.int (Int32.ofInt 3), .int (Int32.ofInt a0), .int (Int32.ofInt x5), .int (Int32.ofInt ((-1))), .int (Int32.ofInt x6), .int (Int32.ofInt x7)]) (rest := [.ref 621]) (encc := ev_oI) (Q := ev_rng) (fun x S1 h => jt_291 d (by omega) Q 3 a0 x5 ((-1)) x6 x7 (by decide) ha0 hx5 (by decide) hx6 hx7 s1 x S1 h) (by exact ev_ob_621) (by decide +kernel) (by decide +kernel) (by decide +kernel) (by decide +kernel) rfl (by (try simp only [ev_sum, ev_nv_cat]); first | done | rfl) ?_
  intro x9 s8 hx9
  show ev_w _ _ _ _ _ [.int (Int32.ofInt x9), .ref 621] _ _ _ _
  refine ev_r_putI (pc := 32) (y := 588) (ci := 13) (f := 83) hx9 (by decide +kernel) (by decide +kernel) (by exact ev_ob_621) rfl rfl ?_
  intro s10
  refine ev_r_aload_n (pc := 35) (k := 0) (v := .ref 621) trivial (by decide +kernel) (by rfl) ?_
  refine ev_r_iconst (pc := 36) (k := 2) (by decide +kernel) ?_
  refine ev_r_putI (pc := 37) (y := 617) (ci := 13) (f := 78) (by decide) (by decide +kernel) (by decide +kernel) (by exact ev_ob_621) rfl rfl ?_
  intro s11
  exact ev_r_return (pc := 40) (x := ()) trivial (by decide +kernel) (by decide +kernel) rfl
/-- MendBenchModel.repeatOf(I)V -/
def jm_301 (Q : Nat) (a0 : Int) (S : ev_St) : Option ((Unit) × ev_St) := ev_if ((0 : Int) ≤ a0 ∧ a0 < (ev_aln 632 : Int)) (ev_b (S.1 632 (Int.toNat a0)) fun x1 => ev_jn (fun (x2 : Int) (s6 : ev_St) => ev_b (s6.1 621 85) fun x7 => ev_if ((0 : Int) ≤ a0 ∧ a0 < (ev_aln 631 : Int)) (ev_b (s6.1 631 (Int.toNat a0)) fun x8 => if x8 ≤ x7 then (if x2 ≠ 0 then (ev_if ((0 : Int) ≤ a0 ∧ a0 < (ev_aln 630 : Int)) (ev_b (s6.1 630 (Int.toNat a0)) fun x11 => if x11 ≠ 1 then (ev_bd (jm_292 Q 1 a0 0 s6) fun _ s13 => ev_b (s13.1 621 85) fun x14 => ev_bd (jm_300 Q a0 x14 s13) fun _ s15 => some ((), s15)) else (ev_b (s6.1 621 85) fun x16 => ev_bd (jm_292 Q 2 a0 x16 s6) fun _ s17 => ev_b (ev_pI s17 621 78 4) fun s18 => some ((), s18)))) else (ev_b (ev_pI s6 621 78 4) fun s19 => some ((), s19))) else (ev_b (s6.1 621 85) fun x20 => ev_bd (jm_300 Q a0 x20 s6) fun _ s21 => some ((), s21)))) fun K28 => ev_jn (fun  (s25 : ev_St) => K28 1 s25) fun K23 => if x1 = (-1) then (K23  S) else (ev_b (S.1 621 85) fun x27 => ev_if ((0 : Int) ≤ a0 ∧ a0 < (ev_aln 632 : Int)) (ev_b (S.1 632 (Int.toNat a0)) fun x28 => if x28 ≤ x27 then (K28 0 S) else (K23  S))))
theorem jt_301 (d : Nat) (hd : 3 ≤ d) (Q : Nat) (a0 : Int) (ha0 : ev_rng a0) (S : ev_St) (x : Unit) (S' : ev_St) (hJ : jm_301 Q a0 S = some (x, S')) : ev_Ref d 301 [.ref 621, .int (Int32.ofInt a0)] S (ev_eU x) S' (ev_PU x) := by
  obtain ⟨d, rfl⟩ : ∃ e, d = e + 1 := ⟨d - 1, by omega⟩
  refine ev_ref_of (P := ev_PU) (lv := [(0, .ref 621), (1, .int (Int32.ofInt a0))]) (by decide +kernel) (by (try simp only [ev_sum, ev_nv_cat]); first | done | rfl) (by (try simp only [lv_args, ev_nv_cat]); first | done | rfl) ?_ x S' hJ
  unfold jm_301
  refine ev_r_aload_n (pc := 0) (k := 0) (v := .ref 621) trivial (by decide +kernel) (by rfl) ?_
  refine ev_r_getC (pc := 1) (y := 40) (ci := 13) (f := 13) (fin := 1) (k' := 632) (by decide +kernel) (by decide +kernel) (by exact ev_ob_621) rfl rfl ?_
  refine ev_r_iload_n (pc := 4) (k := 1) (v := Int32.ofInt a0) (by decide +kernel) (by rfl) ?_
  refine ev_r_iald (pc := 5) ha0 (by decide +kernel) (by exact ev_ab_632) ?_
  intro x1 hx1
  refine ev_r_iconst (pc := 6) (k := -1) (by decide +kernel) ?_
  refine ev_r_jn (Q := fun K => ∀ (x2 : Int) (hx2 : ev_rng x2), ∀ (s6 : ev_St) (w3 : List (Nat × Value)), ev_lk w3 0 = some (.ref 621) → ev_lk w3 1 = some (.int (Int32.ofInt a0)) → ev_w none (ev_Mof 301) d 28 w3 [.int (Int32.ofInt x2)] s6 (K x2 s6) ev_eU ev_PU) ?_ ?_
  · intro x2 hx2 s6 w3 e4 e5
    refine ev_r_istore_n (pc := 28) (k := 2) (by decide +kernel) (by decide +kernel) rfl ?_
    refine ev_r_aload_n (pc := 29) (k := 0) (v := .ref 621) trivial (by decide +kernel) (by exact (ev_l1 e4 (by decide) (by decide))) ?_
    refine ev_r_getI (pc := 30) (y := 636) (ci := 13) (f := 85) (fin := 0) (by decide +kernel) (by decide +kernel) (by exact ev_ob_621) rfl ?_
    intro x7 hx7
    refine ev_r_aload_n (pc := 33) (k := 0) (v := .ref 621) trivial (by decide +kernel) (by exact (ev_l1 e4 (by decide) (by decide))) ?_
    refine ev_r_getC (pc := 34) (y := 37) (ci := 13) (f := 12) (fin := 1) (k' := 631) (by decide +kernel) (by decide +kernel) (by exact ev_ob_621) rfl rfl ?_
    refine ev_r_iload_n (pc := 37) (k := 1) (v := Int32.ofInt a0) (by decide +kernel) (by exact (ev_lk_st1 e5 (by decide) rfl)) ?_
    refine ev_r_iald (pc := 38) ha0 (by decide +kernel) (by exact ev_ab_631) ?_
    intro x8 hx8
    refine ev_r_icmp (pc := 39) (q := .ge) (o := 15) (t := 54) (c := x8 ≤ x7) (by decide +kernel) (ev_k_ge hx7 hx8) (by decide +kernel) ?_ ?_
    · intro c9
      refine ev_r_iload_n (pc := 54) (k := 2) (v := Int32.ofInt x2) (by decide +kernel) (by exact ev_lk_st1_self) ?_
      refine ev_r_if (pc := 55) (q := .ne) (o := 11) (t := 66) (c := x2 ≠ 0) (by decide +kernel) (ev_k_ne hx2 ev_rng0) (by decide +kernel) ?_ ?_
      · intro c10
        refine ev_r_aload_n (pc := 66) (k := 0) (v := .ref 621) trivial (by decide +kernel) (by exact (ev_l1 e4 (by decide) (by decide))) ?_
        refine ev_r_getC (pc := 67) (y := 34) (ci := 13) (f := 11) (fin := 1) (k' := 630) (by decide +kernel) (by decide +kernel) (by exact ev_ob_621) rfl rfl ?_
        refine ev_r_iload_n (pc := 70) (k := 1) (v := Int32.ofInt a0) (by decide +kernel) (by exact (ev_lk_st1 e5 (by decide) rfl)) ?_
        refine ev_r_iald (pc := 71) ha0 (by decide +kernel) (by exact ev_ab_630) ?_
        intro x11 hx11
        refine ev_r_iconst (pc := 72) (k := 1) (by decide +kernel) ?_
        refine ev_r_icmp (pc := 73) (q := .ne) (o := 21) (t := 94) (c := x11 ≠ 1) (by decide +kernel) (ev_k_ne hx11 (by decide)) (by decide +kernel) ?_ ?_
        · intro c12
          refine ev_r_aload_n (pc := 94) (k := 0) (v := .ref 621) trivial (by decide +kernel) (by exact (ev_l1 e4 (by decide) (by decide))) ?_
          refine ev_r_iconst (pc := 95) (k := 1) (by decide +kernel) ?_
          refine ev_r_iload_n (pc := 96) (k := 1) (v := Int32.ofInt a0) (by decide +kernel) (by exact (ev_lk_st1 e5 (by decide) rfl)) ?_
          refine ev_r_iconst (pc := 97) (k := 0) (by decide +kernel) ?_
          refine ev_r_virt (pc := 98) (y := 606) (mi := 292) (na := 3) (k := 621) (as := [.int (Int32.ofInt 1), .int (Int32.ofInt a0), .int (Int32.ofInt 0)]) (rest := []) (encc := ev_oU) (Q := ev_PU) (fun x S1 h => jt_292 d (by omega) Q 1 a0 0 (by decide) ha0 (by decide) s6 x S1 h) (by exact ev_ob_621) (by decide +kernel) (by decide +kernel) (by decide +kernel) (by decide +kernel) rfl (by (try simp only [ev_sum, ev_nv_cat]); first | done | rfl) ?_
          intro _ s13 _
          show ev_w _ _ _ _ _ [] _ _ _ _
          refine ev_r_aload_n (pc := 101) (k := 0) (v := .ref 621) trivial (by decide +kernel) (by exact (ev_l1 e4 (by decide) (by decide))) ?_
          refine ev_r_iload_n (pc := 102) (k := 1) (v := Int32.ofInt a0) (by decide +kernel) (by exact (ev_lk_st1 e5 (by decide) rfl)) ?_
          refine ev_r_aload_n (pc := 103) (k := 0) (v := .ref 621) trivial (by decide +kernel) (by exact (ev_l1 e4 (by decide) (by decide))) ?_
          refine ev_r_getI (pc := 104) (y := 636) (ci := 13) (f := 85) (fin := 0) (by decide +kernel) (by decide +kernel) (by exact ev_ob_621) rfl ?_
          intro x14 hx14
          refine ev_r_virt (pc := 107) (y := 639) (mi := 300) (na := 2) (k := 621) (as := [.int (Int32.ofInt a0), .int (Int32.ofInt x14)]) (rest := []) (encc := ev_oU) (Q := ev_PU) (fun x S1 h => jt_300 d (by omega) Q a0 x14 ha0 hx14 s13 x S1 h) (by exact ev_ob_621) (by decide +kernel) (by decide +kernel) (by decide +kernel) (by decide +kernel) rfl (by (try simp only [ev_sum, ev_nv_cat]); first | done | rfl) ?_
          intro _ s15 _
          show ev_w _ _ _ _ _ [] _ _ _ _
          exact ev_r_return (pc := 110) (x := ()) trivial (by decide +kernel) (by decide +kernel) rfl
        · intro c12
          refine ev_r_aload_n (pc := 76) (k := 0) (v := .ref 621) trivial (by decide +kernel) (by exact (ev_l1 e4 (by decide) (by decide))) ?_
          refine ev_r_iconst (pc := 77) (k := 2) (by decide +kernel) ?_
          refine ev_r_iload_n (pc := 78) (k := 1) (v := Int32.ofInt a0) (by decide +kernel) (by exact (ev_lk_st1 e5 (by decide) rfl)) ?_
          refine ev_r_aload_n (pc := 79) (k := 0) (v := .ref 621) trivial (by decide +kernel) (by exact (ev_l1 e4 (by decide) (by decide))) ?_
          refine ev_r_getI (pc := 80) (y := 636) (ci := 13) (f := 85) (fin := 0) (by decide +kernel) (by decide +kernel) (by exact ev_ob_621) rfl ?_
          intro x16 hx16
          refine ev_r_virt (pc := 83) (y := 606) (mi := 292) (na := 3) (k := 621) (as := [.int (Int32.ofInt 2), .int (Int32.ofInt a0), .int (Int32.ofInt x16)]) (rest := []) (encc := ev_oU) (Q := ev_PU) (fun x S1 h => jt_292 d (by omega) Q 2 a0 x16 (by decide) ha0 hx16 s6 x S1 h) (by exact ev_ob_621) (by decide +kernel) (by decide +kernel) (by decide +kernel) (by decide +kernel) rfl (by (try simp only [ev_sum, ev_nv_cat]); first | done | rfl) ?_
          intro _ s17 _
          show ev_w _ _ _ _ _ [] _ _ _ _
          refine ev_r_aload_n (pc := 86) (k := 0) (v := .ref 621) trivial (by decide +kernel) (by exact (ev_l1 e4 (by decide) (by decide))) ?_
          refine ev_r_iconst (pc := 87) (k := 4) (by decide +kernel) ?_
          refine ev_r_putI (pc := 88) (y := 617) (ci := 13) (f := 78) (by decide) (by decide +kernel) (by decide +kernel) (by exact ev_ob_621) rfl rfl ?_
          intro s18
          refine ev_r_goto (pc := 91) (o := 19) (t := 110) (by decide +kernel) (by decide +kernel) ?_
          exact ev_r_return (pc := 110) (x := ()) trivial (by decide +kernel) (by decide +kernel) rfl
      · intro c10
        refine ev_r_aload_n (pc := 58) (k := 0) (v := .ref 621) trivial (by decide +kernel) (by exact (ev_l1 e4 (by decide) (by decide))) ?_
        refine ev_r_iconst (pc := 59) (k := 4) (by decide +kernel) ?_
        refine ev_r_putI (pc := 60) (y := 617) (ci := 13) (f := 78) (by decide) (by decide +kernel) (by decide +kernel) (by exact ev_ob_621) rfl rfl ?_
        intro s19
        refine ev_r_goto (pc := 63) (o := 47) (t := 110) (by decide +kernel) (by decide +kernel) ?_
        exact ev_r_return (pc := 110) (x := ()) trivial (by decide +kernel) (by decide +kernel) rfl
    · intro c9
      refine ev_r_aload_n (pc := 42) (k := 0) (v := .ref 621) trivial (by decide +kernel) (by exact (ev_l1 e4 (by decide) (by decide))) ?_
      refine ev_r_iload_n (pc := 43) (k := 1) (v := Int32.ofInt a0) (by decide +kernel) (by exact (ev_lk_st1 e5 (by decide) rfl)) ?_
      refine ev_r_aload_n (pc := 44) (k := 0) (v := .ref 621) trivial (by decide +kernel) (by exact (ev_l1 e4 (by decide) (by decide))) ?_
      refine ev_r_getI (pc := 45) (y := 636) (ci := 13) (f := 85) (fin := 0) (by decide +kernel) (by decide +kernel) (by exact ev_ob_621) rfl ?_
      intro x20 hx20
      refine ev_r_virt (pc := 48) (y := 639) (mi := 300) (na := 2) (k := 621) (as := [.int (Int32.ofInt a0), .int (Int32.ofInt x20)]) (rest := []) (encc := ev_oU) (Q := ev_PU) (fun x S1 h => jt_300 d (by omega) Q a0 x20 ha0 hx20 s6 x S1 h) (by exact ev_ob_621) (by decide +kernel) (by decide +kernel) (by decide +kernel) (by decide +kernel) rfl (by (try simp only [ev_sum, ev_nv_cat]); first | done | rfl) ?_
      intro _ s21 _
      show ev_w _ _ _ _ _ [] _ _ _ _
      refine ev_r_goto (pc := 51) (o := 59) (t := 110) (by decide +kernel) (by decide +kernel) ?_
      exact ev_r_return (pc := 110) (x := ()) trivial (by decide +kernel) (by decide +kernel) rfl
  · intro K28 hK28
    refine ev_r_jn (Q := fun K => ∀ (s25 : ev_St) (w22 : List (Nat × Value)), ev_lk w22 0 = some (.ref 621) → ev_lk w22 1 = some (.int (Int32.ofInt a0)) → ev_w none (ev_Mof 301) d 23 w22 [] s25 (K  s25) ev_eU ev_PU) ?_ ?_
    · intro  s25 w22 e23 e24
      refine ev_r_iconst (pc := 23) (k := 1) (by decide +kernel) ?_
      refine ev_r_goto (pc := 24) (o := 4) (t := 28) (by decide +kernel) (by decide +kernel) ?_
      exact hK28 1 (by decide) s25 _ (by exact e23) (by exact e24)
    · intro K23 hK23
      refine ev_r_icmp (pc := 7) (q := .eq) (o := 16) (t := 23) (c := x1 = (-1)) (by decide +kernel) (ev_k_eq hx1 (by decide)) (by decide +kernel) ?_ ?_
      · intro c26
        exact hK23  S _ (by rfl) (by rfl)
      · intro c26
        refine ev_r_aload_n (pc := 10) (k := 0) (v := .ref 621) trivial (by decide +kernel) (by rfl) ?_
        refine ev_r_getI (pc := 11) (y := 636) (ci := 13) (f := 85) (fin := 0) (by decide +kernel) (by decide +kernel) (by exact ev_ob_621) rfl ?_
        intro x27 hx27
        refine ev_r_aload_n (pc := 14) (k := 0) (v := .ref 621) trivial (by decide +kernel) (by rfl) ?_
        refine ev_r_getC (pc := 15) (y := 40) (ci := 13) (f := 13) (fin := 1) (k' := 632) (by decide +kernel) (by decide +kernel) (by exact ev_ob_621) rfl rfl ?_
        refine ev_r_iload_n (pc := 18) (k := 1) (v := Int32.ofInt a0) (by decide +kernel) (by rfl) ?_
        refine ev_r_iald (pc := 19) ha0 (by decide +kernel) (by exact ev_ab_632) ?_
        intro x28 hx28
        refine ev_r_icmp (pc := 20) (q := .ge) (o := 7) (t := 27) (c := x28 ≤ x27) (by decide +kernel) (ev_k_ge hx27 hx28) (by decide +kernel) ?_ ?_
        · intro c29
          refine ev_r_iconst (pc := 27) (k := 0) (by decide +kernel) ?_
          exact hK28 0 (by decide) S _ (by rfl) (by rfl)
        · intro c29
          exact hK23  S _ (by rfl) (by rfl)
