/-! METHODS as functions, laid by decomp.py -/
theorem ev_ab_679 : ev_isAb 679 1 .int = true := (by decide +kernel)
theorem ev_ab_680 : ev_isAb 680 1 .int = true := (by decide +kernel)
theorem ev_ab_670 : ev_isAb 670 1 .int = true := (by decide +kernel)
theorem ev_ab_671 : ev_isAb 671 1 .int = true := (by decide +kernel)
theorem ev_ab_669 : ev_isAb 669 1 .boolean = true := (by decide +kernel)
theorem ev_ab_672 : ev_isAb 672 1 .int = true := (by decide +kernel)
theorem ev_ab_673 : ev_isAb 673 1 .boolean = true := (by decide +kernel)
theorem ev_ab_674 : ev_isAb 674 1 .int = true := (by decide +kernel)
theorem ev_ab_675 : ev_isAb 675 1 .int = true := (by decide +kernel)
theorem ev_ab_718 : ev_isAb 718 1 .int = true := (by decide +kernel)
theorem ev_ab_721 : ev_isAb 721 1 .int = true := (by decide +kernel)
theorem ev_ab_722 : ev_isAb 722 1 .int = true := (by decide +kernel)
theorem ev_ab_676 : ev_isAb 676 1 .int = true := (by decide +kernel)
theorem ev_ab_677 : ev_isAb 677 1 .int = true := (by decide +kernel)
theorem ev_ab_719 : ev_isAb 719 1 .boolean = true := (by decide +kernel)
/-- MendBenchModel.rowOf(IZ)V -/
def jm_302 (Q : Nat) (a0 : Int) (a1 : Int) (S : ev_St) : Option ((Unit) × ev_St) := ev_jn (fun  (s4 : ev_St) => ev_b (ev_pI s4 621 80 a0) fun s5 => ev_b (ev_pI s5 621 78 7) fun s6 => some ((), s6)) fun K35 => if a1 = 0 then (K35  S) else (ev_if ((0 : Int) ≤ a0 ∧ a0 < (ev_aln 627 : Int)) (ev_b (S.1 627 (Int.toNat a0)) fun x8 => ev_jn (fun  (s12 : ev_St) => ev_bd (jm_290 Q  s12) fun _ s13 => K35  s13) fun K31 => if x8 = (-1) then (K31  S) else (ev_b (S.1 621 79) fun x15 => ev_if ((0 : Int) ≤ a0 ∧ a0 < (ev_aln 627 : Int)) (ev_b (S.1 627 (Int.toNat a0)) fun x16 => ev_ck (x15 + x16) fun x17 => ev_bd (jm_292 Q 0 x17 0 S) fun _ s18 => K31  s18))))
theorem jt_302 (d : Nat) (hd : 2 ≤ d) (Q : Nat) (a0 : Int) (a1 : Int) (ha0 : ev_rng a0) (ha1 : ev_rng a1) (S : ev_St) (x : Unit) (S' : ev_St) (hJ : jm_302 Q a0 a1 S = some (x, S')) : ev_Ref d 302 [.ref 621, .int (Int32.ofInt a0), .int (Int32.ofInt a1)] S (ev_eU x) S' (ev_PU x) := by
  obtain ⟨d, rfl⟩ : ∃ e, d = e + 1 := ⟨d - 1, by omega⟩
  refine ev_ref_of (P := ev_PU) (lv := [(0, .ref 621), (1, .int (Int32.ofInt a0)), (2, .int (Int32.ofInt a1))]) (by decide +kernel) (by (try simp only [ev_sum, ev_nv_cat]); first | done | rfl) (by (try simp only [lv_args, ev_nv_cat]); first | done | rfl) ?_ x S' hJ
  unfold jm_302
  refine ev_r_iload_n (pc := 0) (k := 2) (v := Int32.ofInt a1) (by decide +kernel) (by rfl) ?_
  refine ev_r_jn (Q := fun K => ∀ (s4 : ev_St) (w1 : List (Nat × Value)), ev_lk w1 0 = some (.ref 621) → ev_lk w1 1 = some (.int (Int32.ofInt a0)) → ev_w none (ev_Mof 302) d 35 w1 [] s4 (K  s4) ev_eU ev_PU) ?_ ?_
  · intro  s4 w1 e2 e3
    refine ev_r_aload_n (pc := 35) (k := 0) (v := .ref 621) trivial (by decide +kernel) (by exact e2) ?_
    refine ev_r_iload_n (pc := 36) (k := 1) (v := Int32.ofInt a0) (by decide +kernel) (by exact e3) ?_
    refine ev_r_putI (pc := 37) (y := 597) (ci := 13) (f := 80) ha0 (by decide +kernel) (by decide +kernel) (by exact ev_ob_621) rfl rfl ?_
    intro s5
    refine ev_r_aload_n (pc := 40) (k := 0) (v := .ref 621) trivial (by decide +kernel) (by exact e2) ?_
    refine ev_r_bipush (pc := 41) (k := 7) (by decide +kernel) (by decide +kernel) ?_
    refine ev_r_putI (pc := 43) (y := 617) (ci := 13) (f := 78) (by decide) (by decide +kernel) (by decide +kernel) (by exact ev_ob_621) rfl rfl ?_
    intro s6
    exact ev_r_return (pc := 46) (x := ()) trivial (by decide +kernel) (by decide +kernel) rfl
  · intro K35 hK35
    refine ev_r_if (pc := 1) (q := .eq) (o := 34) (t := 35) (c := a1 = 0) (by decide +kernel) (ev_k_eq ha1 ev_rng0) (by decide +kernel) ?_ ?_
    · intro c7
      exact hK35  S _ (by rfl) (by rfl)
    · intro c7
      refine ev_r_aload_n (pc := 4) (k := 0) (v := .ref 621) trivial (by decide +kernel) (by rfl) ?_
      refine ev_r_getC (pc := 5) (y := 25) (ci := 13) (f := 8) (fin := 1) (k' := 627) (by decide +kernel) (by decide +kernel) (by exact ev_ob_621) rfl rfl ?_
      refine ev_r_iload_n (pc := 8) (k := 1) (v := Int32.ofInt a0) (by decide +kernel) (by rfl) ?_
      refine ev_r_iald (pc := 9) ha0 (by decide +kernel) (by exact ev_ab_627) ?_
      intro x8 hx8
      refine ev_r_iconst (pc := 10) (k := -1) (by decide +kernel) ?_
      refine ev_r_jn (Q := fun K => ∀ (s12 : ev_St) (w9 : List (Nat × Value)), ev_lk w9 0 = some (.ref 621) → ev_lk w9 1 = some (.int (Int32.ofInt a0)) → ev_w none (ev_Mof 302) d 31 w9 [] s12 (K  s12) ev_eU ev_PU) ?_ ?_
      · intro  s12 w9 e10 e11
        refine ev_r_aload_n (pc := 31) (k := 0) (v := .ref 621) trivial (by decide +kernel) (by exact e10) ?_
        refine ev_r_virt (pc := 32) (y := 610) (mi := 290) (na := 0) (k := 621) (as := []) (rest := []) (encc := ev_oU) (Q := ev_PU) (fun x S1 h => jt_290 d (by omega) Q   s12 x S1 h) (by exact ev_ob_621) (by decide +kernel) (by decide +kernel) (by decide +kernel) (by decide +kernel) rfl (by (try simp only [ev_sum, ev_nv_cat]); first | done | rfl) ?_
        intro _ s13 _
        show ev_w _ _ _ _ _ [] _ _ _ _
        exact hK35  s13 _ (by exact e10) (by exact e11)
      · intro K31 hK31
        refine ev_r_icmp (pc := 11) (q := .eq) (o := 20) (t := 31) (c := x8 = (-1)) (by decide +kernel) (ev_k_eq hx8 (by decide)) (by decide +kernel) ?_ ?_
        · intro c14
          exact hK31  S _ (by rfl) (by rfl)
        · intro c14
          refine ev_r_aload_n (pc := 14) (k := 0) (v := .ref 621) trivial (by decide +kernel) (by rfl) ?_
          refine ev_r_iconst (pc := 15) (k := 0) (by decide +kernel) ?_
          refine ev_r_aload_n (pc := 16) (k := 0) (v := .ref 621) trivial (by decide +kernel) (by rfl) ?_
          refine ev_r_getI (pc := 17) (y := 633) (ci := 13) (f := 79) (fin := 0) (by decide +kernel) (by decide +kernel) (by exact ev_ob_621) rfl ?_
          intro x15 hx15
          refine ev_r_aload_n (pc := 20) (k := 0) (v := .ref 621) trivial (by decide +kernel) (by rfl) ?_
          refine ev_r_getC (pc := 21) (y := 25) (ci := 13) (f := 8) (fin := 1) (k' := 627) (by decide +kernel) (by decide +kernel) (by exact ev_ob_621) rfl rfl ?_
          refine ev_r_iload_n (pc := 24) (k := 1) (v := Int32.ofInt a0) (by decide +kernel) (by rfl) ?_
          refine ev_r_iald (pc := 25) ha0 (by decide +kernel) (by exact ev_ab_627) ?_
          intro x16 hx16
          refine ev_r_iadd (pc := 26) (by decide +kernel) ?_
          intro x17 hx17
          refine ev_r_iconst (pc := 27) (k := 0) (by decide +kernel) ?_
          refine ev_r_virt (pc := 28) (y := 606) (mi := 292) (na := 3) (k := 621) (as := [.int (Int32.ofInt 0), .int (Int32.ofInt x17), .int (Int32.ofInt 0)]) (rest := []) (encc := ev_oU) (Q := ev_PU) (fun x S1 h => jt_292 d (by omega) Q 0 x17 0 (by decide) hx17 (by decide) S x S1 h) (by exact ev_ob_621) (by decide +kernel) (by decide +kernel) (by decide +kernel) (by decide +kernel) rfl (by (try simp only [ev_sum, ev_nv_cat]); first | done | rfl) ?_
          intro _ s18 _
          show ev_w _ _ _ _ _ [] _ _ _ _
          exact hK31  s18 _ (by rfl) (by rfl)
/-- MendBenchModel.itemOf(I)V -/
def jm_303 (Q : Nat) (a0 : Int) (S : ev_St) : Option ((Unit) × ev_St) := ev_b (ev_pI S 621 85 0) fun s1 => ev_if ((0 : Int) ≤ a0 ∧ a0 < (ev_aln 630 : Int)) (ev_b (s1.1 630 (Int.toNat a0)) fun x2 => if x2 ≠ 2 then (ev_if ((0 : Int) ≤ a0 ∧ a0 < (ev_aln 630 : Int)) (ev_b (s1.1 630 (Int.toNat a0)) fun x4 => if x4 ≠ (-1) then (ev_bd (jm_290 Q  s1) fun _ s6 => ev_b (ev_pI s6 621 78 6) fun s7 => some ((), s7)) else (ev_b (ev_pI s1 621 78 2) fun s8 => some ((), s8)))) else (ev_bd (jm_298 Q a0 3 5 6 s1) fun _ s9 => ev_b (s9.1 621 78) fun x10 => if x10 ≠ 6 then (some ((), s9)) else (ev_bd (jm_290 Q  s9) fun _ s12 => some ((), s12))))
theorem jt_303 (d : Nat) (hd : 3 ≤ d) (Q : Nat) (a0 : Int) (ha0 : ev_rng a0) (S : ev_St) (x : Unit) (S' : ev_St) (hJ : jm_303 Q a0 S = some (x, S')) : ev_Ref d 303 [.ref 621, .int (Int32.ofInt a0)] S (ev_eU x) S' (ev_PU x) := by
  obtain ⟨d, rfl⟩ : ∃ e, d = e + 1 := ⟨d - 1, by omega⟩
  refine ev_ref_of (P := ev_PU) (lv := [(0, .ref 621), (1, .int (Int32.ofInt a0))]) (by decide +kernel) (by (try simp only [ev_sum, ev_nv_cat]); first | done | rfl) (by (try simp only [lv_args, ev_nv_cat]); first | done | rfl) ?_ x S' hJ
  unfold jm_303
  refine ev_r_aload_n (pc := 0) (k := 0) (v := .ref 621) trivial (by decide +kernel) (by rfl) ?_
  refine ev_r_iconst (pc := 1) (k := 0) (by decide +kernel) ?_
  refine ev_r_putI (pc := 2) (y := 636) (ci := 13) (f := 85) (by decide) (by decide +kernel) (by decide +kernel) (by exact ev_ob_621) rfl rfl ?_
  intro s1
  refine ev_r_aload_n (pc := 5) (k := 0) (v := .ref 621) trivial (by decide +kernel) (by rfl) ?_
  refine ev_r_getC (pc := 6) (y := 34) (ci := 13) (f := 11) (fin := 1) (k' := 630) (by decide +kernel) (by decide +kernel) (by exact ev_ob_621) rfl rfl ?_
  refine ev_r_iload_n (pc := 9) (k := 1) (v := Int32.ofInt a0) (by decide +kernel) (by rfl) ?_
  refine ev_r_iald (pc := 10) ha0 (by decide +kernel) (by exact ev_ab_630) ?_
  intro x2 hx2
  refine ev_r_iconst (pc := 11) (k := 2) (by decide +kernel) ?_
  refine ev_r_icmp (pc := 12) (q := .ne) (o := 28) (t := 40) (c := x2 ≠ 2) (by decide +kernel) (ev_k_ne hx2 (by decide)) (by decide +kernel) ?_ ?_
  · intro c3
    refine ev_r_aload_n (pc := 40) (k := 0) (v := .ref 621) trivial (by decide +kernel) (by rfl) ?_
    refine ev_r_getC (pc := 41) (y := 34) (ci := 13) (f := 11) (fin := 1) (k' := 630) (by decide +kernel) (by decide +kernel) (by exact ev_ob_621) rfl rfl ?_
    refine ev_r_iload_n (pc := 44) (k := 1) (v := Int32.ofInt a0) (by decide +kernel) (by rfl) ?_
    refine ev_r_iald (pc := 45) ha0 (by decide +kernel) (by exact ev_ab_630) ?_
    intro x4 hx4
    refine ev_r_iconst (pc := 46) (k := -1) (by decide +kernel) ?_
    refine ev_r_icmp (pc := 47) (q := .ne) (o := 11) (t := 58) (c := x4 ≠ (-1)) (by decide +kernel) (ev_k_ne hx4 (by decide)) (by decide +kernel) ?_ ?_
    · intro c5
      refine ev_r_aload_n (pc := 58) (k := 0) (v := .ref 621) trivial (by decide +kernel) (by rfl) ?_
      refine ev_r_virt (pc := 59) (y := 610) (mi := 290) (na := 0) (k := 621) (as := []) (rest := []) (encc := ev_oU) (Q := ev_PU) (fun x S1 h => jt_290 d (by omega) Q   s1 x S1 h) (by exact ev_ob_621) (by decide +kernel) (by decide +kernel) (by decide +kernel) (by decide +kernel) rfl (by (try simp only [ev_sum, ev_nv_cat]); first | done | rfl) ?_
      intro _ s6 _
      show ev_w _ _ _ _ _ [] _ _ _ _
      refine ev_r_aload_n (pc := 62) (k := 0) (v := .ref 621) trivial (by decide +kernel) (by rfl) ?_
      refine ev_r_bipush (pc := 63) (k := 6) (by decide +kernel) (by decide +kernel) ?_
      refine ev_r_putI (pc := 65) (y := 617) (ci := 13) (f := 78) (by decide) (by decide +kernel) (by decide +kernel) (by exact ev_ob_621) rfl rfl ?_
      intro s7
      exact ev_r_return (pc := 68) (x := ()) trivial (by decide +kernel) (by decide +kernel) rfl
    · intro c5
      refine ev_r_aload_n (pc := 50) (k := 0) (v := .ref 621) trivial (by decide +kernel) (by rfl) ?_
      refine ev_r_iconst (pc := 51) (k := 2) (by decide +kernel) ?_
      refine ev_r_putI (pc := 52) (y := 617) (ci := 13) (f := 78) (by decide) (by decide +kernel) (by decide +kernel) (by exact ev_ob_621) rfl rfl ?_
      intro s8
      refine ev_r_goto (pc := 55) (o := 13) (t := 68) (by decide +kernel) (by decide +kernel) ?_
      exact ev_r_return (pc := 68) (x := ()) trivial (by decide +kernel) (by decide +kernel) rfl
  · intro c3
    refine ev_r_aload_n (pc := 15) (k := 0) (v := .ref 621) trivial (by decide +kernel) (by rfl) ?_
    refine ev_r_iload_n (pc := 16) (k := 1) (v := Int32.ofInt a0) (by decide +kernel) (by rfl) ?_
    refine ev_r_iconst (pc := 17) (k := 3) (by decide +kernel) ?_
    refine ev_r_iconst (pc := 18) (k := 5) (by decide +kernel) ?_
    refine ev_r_bipush (pc := 19) (k := 6) (by decide +kernel) (by decide +kernel) ?_
    refine ev_r_virt (pc := 21) (y := 626) (mi := 298) (na := 4) (k := 621) (as := [.int (Int32.ofInt a0), .int (Int32.ofInt 3), .int (Int32.ofInt 5), .int (Int32.ofInt 6)]) (rest := []) (encc := ev_oU) (Q := ev_PU) (fun x S1 h => jt_298 d (by omega) Q a0 3 5 6 ha0 (by decide) (by decide) (by decide) s1 x S1 h) (by exact ev_ob_621) (by decide +kernel) (by decide +kernel) (by decide +kernel) (by decide +kernel) rfl (by (try simp only [ev_sum, ev_nv_cat]); first | done | rfl) ?_
    intro _ s9 _
    show ev_w _ _ _ _ _ [] _ _ _ _
    refine ev_r_aload_n (pc := 24) (k := 0) (v := .ref 621) trivial (by decide +kernel) (by rfl) ?_
    refine ev_r_getI (pc := 25) (y := 617) (ci := 13) (f := 78) (fin := 0) (by decide +kernel) (by decide +kernel) (by exact ev_ob_621) rfl ?_
    intro x10 hx10
    refine ev_r_bipush (pc := 28) (k := 6) (by decide +kernel) (by decide +kernel) ?_
    refine ev_r_icmp (pc := 30) (q := .ne) (o := 38) (t := 68) (c := x10 ≠ 6) (by decide +kernel) (ev_k_ne hx10 (by decide)) (by decide +kernel) ?_ ?_
    · intro c11
      exact ev_r_return (pc := 68) (x := ()) trivial (by decide +kernel) (by decide +kernel) rfl
    · intro c11
      refine ev_r_aload_n (pc := 33) (k := 0) (v := .ref 621) trivial (by decide +kernel) (by rfl) ?_
      refine ev_r_virt (pc := 34) (y := 610) (mi := 290) (na := 0) (k := 621) (as := []) (rest := []) (encc := ev_oU) (Q := ev_PU) (fun x S1 h => jt_290 d (by omega) Q   s9 x S1 h) (by exact ev_ob_621) (by decide +kernel) (by decide +kernel) (by decide +kernel) (by decide +kernel) rfl (by (try simp only [ev_sum, ev_nv_cat]); first | done | rfl) ?_
      intro _ s12 _
      show ev_w _ _ _ _ _ [] _ _ _ _
      refine ev_r_goto (pc := 37) (o := 31) (t := 68) (by decide +kernel) (by decide +kernel) ?_
      exact ev_r_return (pc := 68) (x := ()) trivial (by decide +kernel) (by decide +kernel) rfl
/-- MendBenchModel.proceeds()V -/
def jm_304 (Q : Nat)  (S : ev_St) : Option ((Unit) × ev_St) := ev_b (S.1 621 83) fun x1 => ev_if ((0 : Int) ≤ x1 ∧ x1 < (ev_aln 681 : Int)) (ev_b (S.1 681 (Int.toNat x1)) fun x2 => ev_if ((0 : Int) ≤ x1 ∧ x1 < (ev_aln 682 : Int)) (ev_b (S.1 682 (Int.toNat x1)) fun x3 => ev_if ((0 : Int) ≤ x1 ∧ x1 < (ev_aln 683 : Int)) (ev_b (S.1 683 (Int.toNat x1)) fun x4 => ev_if ((0 : Int) ≤ x1 ∧ x1 < (ev_aln 685 : Int)) (ev_b (S.1 685 (Int.toNat x1)) fun x5 => ev_b (ev_pI S 621 83 x5) fun s6 => ev_if ((0 : Int) ≤ x1 ∧ x1 < (ev_aln 686 : Int)) (ev_b (s6.1 686 (Int.toNat x1)) fun x7 => ev_b (ev_pI s6 621 84 x7) fun s8 => if x2 ≠ 0 then (if x2 ≠ 1 then (if x2 ≠ 2 then (if x2 ≠ 3 then (if x2 ≠ 4 then (if x2 ≠ 5 then (ev_jn (fun  (s19 : ev_St) => ev_b (ev_pI s19 621 95 x4) fun s20 => ev_if ((0 : Int) ≤ x4 ∧ x4 < (ev_aln 690 : Int)) (ev_b (s20.1 690 (Int.toNat x4)) fun x21 => ev_b (ev_pI s20 621 81 x21) fun s22 => ev_if ((0 : Int) ≤ x3 ∧ x3 < (ev_aln 629 : Int)) (ev_b (s22.1 629 (Int.toNat x3)) fun x23 => if x23 ≤ 0 then (ev_b (ev_pI s22 621 78 4) fun s25 => some ((), s25)) else (ev_b (ev_pI s22 621 78 5) fun s26 => some ((), s26))))) fun K316 => if x2 = 6 then (K316  s8) else (ev_b (s8.1 621 81) fun x28 => ev_if ((0 : Int) ≤ x4 ∧ x4 < (ev_aln 690 : Int)) (ev_b (s8.1 690 (Int.toNat x4)) fun x29 => if x28 ≠ x29 then (ev_b (ev_pI s8 621 78 5) fun s31 => some ((), s31)) else (K316  s8)))) else (ev_b (ev_pI s8 621 95 x4) fun s32 => some ((), s32))) else (ev_if ((0 : Int) ≤ x1 ∧ x1 < (ev_aln 684 : Int)) (ev_b (s8.1 684 (Int.toNat x1)) fun x33 => ev_b (ev_pI s8 621 82 x33) fun s34 => some ((), s34)))) else (ev_if (256 ≠ 0) (ev_b (ev_idiv x4 256) fun x35 => ev_b (ev_pI s8 621 85 x35) fun s36 => ev_b (ev_pI s36 621 80 x3) fun s37 => ev_if ((0 : Int) ≤ x3 ∧ x3 < (ev_aln 632 : Int)) (ev_b (s37.1 632 (Int.toNat x3)) fun x38 => if x38 ≠ (-1) then (ev_b (ev_pI s37 621 78 6) fun s40 => some ((), s40)) else (ev_b (s37.1 621 85) fun x41 => ev_if ((0 : Int) ≤ x3 ∧ x3 < (ev_aln 631 : Int)) (ev_b (s37.1 631 (Int.toNat x3)) fun x42 => if x41 ≤ x42 then (ev_b (ev_pI s37 621 78 6) fun s44 => some ((), s44)) else (ev_b (s37.1 621 81) fun x45 => ev_if (256 ≠ 0) (ev_b (ev_irem x4 256) fun x46 => if x45 ≠ x46 then (ev_b (ev_pI s37 621 78 6) fun s48 => some ((), s48)) else (ev_b (ev_pI s37 621 78 5) fun s49 => some ((), s49)))))))))) else (ev_b (s8.1 621 105) fun x50 => ev_if ((0 : Int) ≤ x3 ∧ x3 < (ev_aln 628 : Int)) (ev_b (s8.1 628 (Int.toNat x3)) fun x51 => ev_if ((0 : Int) ≤ x50 ∧ x50 < (ev_aln 696 : Int)) (ev_b (ev_pI s8 696 (Int.toNat x50) x51) fun s52 => ev_b (s52.1 621 105) fun x53 => ev_if ((0 : Int) ≤ x53 ∧ x53 < (ev_aln 697 : Int)) (ev_b (ev_pI s52 697 (Int.toNat x53) x4) fun s54 => ev_b (s54.1 621 105) fun x55 => ev_b (s54.1 621 81) fun x56 => ev_if ((0 : Int) ≤ x55 ∧ x55 < (ev_aln 698 : Int)) (ev_b (ev_pI s54 698 (Int.toNat x55) x56) fun s57 => ev_b (s57.1 621 105) fun x58 => ev_b (s57.1 621 82) fun x59 => ev_if ((0 : Int) ≤ x58 ∧ x58 < (ev_aln 699 : Int)) (ev_b (ev_pI s57 699 (Int.toNat x58) x59) fun s60 => ev_b (s60.1 621 105) fun x61 => ev_b (ev_pI s60 621 82 x61) fun s62 => ev_b (s62.1 621 105) fun x63 => ev_ck (x63 + 1) fun x64 => ev_b (ev_pI s62 621 105 x64) fun s65 => some ((), s65)))))))) else (ev_if ((0 : Int) ≤ x3 ∧ x3 < (ev_aln 627 : Int)) (ev_b (s8.1 627 (Int.toNat x3)) fun x66 => ev_jn (fun  (s70 : ev_St) => ev_b (ev_pI s70 621 80 x3) fun s71 => ev_b (ev_pI s71 621 78 1) fun s72 => some ((), s72)) fun K104 => if x66 = (-1) then (K104  s8) else (ev_b (s8.1 621 79) fun x74 => ev_if ((0 : Int) ≤ x3 ∧ x3 < (ev_aln 627 : Int)) (ev_b (s8.1 627 (Int.toNat x3)) fun x75 => ev_ck (x74 + x75) fun x76 => ev_b (s8.1 621 83) fun x77 => ev_b (s8.1 621 84) fun x78 => ev_bd (jm_291 Q 1 x76 0 ((-1)) x77 x78 s8) fun x80 s79 => ev_b (ev_pI s79 621 83 x80) fun s81 => K104  s81))))) else (ev_b (ev_pI s8 621 78 0) fun s82 => some ((), s82)))))))
theorem jt_304 (d : Nat) (hd : 2 ≤ d) (Q : Nat)   (S : ev_St) (x : Unit) (S' : ev_St) (hJ : jm_304 Q  S = some (x, S')) : ev_Ref d 304 [.ref 621] S (ev_eU x) S' (ev_PU x) := by
  obtain ⟨d, rfl⟩ : ∃ e, d = e + 1 := ⟨d - 1, by omega⟩
  refine ev_ref_of (P := ev_PU) (lv := [(0, .ref 621)]) (by decide +kernel) (by (try simp only [ev_sum, ev_nv_cat]); first | done | rfl) (by (try simp only [lv_args, ev_nv_cat]); first | done | rfl) ?_ x S' hJ
  unfold jm_304
  refine ev_r_aload_n (pc := 0) (k := 0) (v := .ref 621) trivial (by decide +kernel) (by rfl) ?_
  refine ev_r_getI (pc := 1) (y := 588) (ci := 13) (f := 83) (fin := 0) (by decide +kernel) (by decide +kernel) (by exact ev_ob_621) rfl ?_
  intro x1 hx1
  refine ev_r_istore_n (pc := 4) (k := 1) (by decide +kernel) (by decide +kernel) rfl ?_
  refine ev_r_aload_n (pc := 5) (k := 0) (v := .ref 621) trivial (by decide +kernel) (by exact (ev_lk_st1 (by rfl) (by decide) rfl)) ?_
  refine ev_r_getC (pc := 6) (y := 191) (ci := 13) (f := 89) (fin := 1) (k' := 681) (by decide +kernel) (by decide +kernel) (by exact ev_ob_621) rfl rfl ?_
  refine ev_r_iload_n (pc := 9) (k := 1) (v := Int32.ofInt x1) (by decide +kernel) (by exact ev_lk_st1_self) ?_
  refine ev_r_iald (pc := 10) hx1 (by decide +kernel) (by exact ev_ab_681) ?_
  intro x2 hx2
  refine ev_r_istore_n (pc := 11) (k := 2) (by decide +kernel) (by decide +kernel) rfl ?_
  refine ev_r_aload_n (pc := 12) (k := 0) (v := .ref 621) trivial (by decide +kernel) (by exact (ev_l1 (ev_lk_st1 (by rfl) (by decide) rfl) (by decide) (by decide))) ?_
  refine ev_r_getC (pc := 13) (y := 194) (ci := 13) (f := 90) (fin := 1) (k' := 682) (by decide +kernel) (by decide +kernel) (by exact ev_ob_621) rfl rfl ?_
  refine ev_r_iload_n (pc := 16) (k := 1) (v := Int32.ofInt x1) (by decide +kernel) (by exact (ev_lk_st1 ev_lk_st1_self (by decide) rfl)) ?_
  refine ev_r_iald (pc := 17) hx1 (by decide +kernel) (by exact ev_ab_682) ?_
  intro x3 hx3
  refine ev_r_istore_n (pc := 18) (k := 3) (by decide +kernel) (by decide +kernel) rfl ?_
  refine ev_r_aload_n (pc := 19) (k := 0) (v := .ref 621) trivial (by decide +kernel) (by exact (ev_l1 (ev_l1 (ev_lk_st1 (by rfl) (by decide) rfl) (by decide) (by decide)) (by decide) (by decide))) ?_
  refine ev_r_getC (pc := 20) (y := 197) (ci := 13) (f := 91) (fin := 1) (k' := 683) (by decide +kernel) (by decide +kernel) (by exact ev_ob_621) rfl rfl ?_
  refine ev_r_iload_n (pc := 23) (k := 1) (v := Int32.ofInt x1) (by decide +kernel) (by exact (ev_l1 (ev_lk_st1 ev_lk_st1_self (by decide) rfl) (by decide) (by decide))) ?_
  refine ev_r_iald (pc := 24) hx1 (by decide +kernel) (by exact ev_ab_683) ?_
  intro x4 hx4
  refine ev_r_istore (pc := 25) (k := 4) (by decide +kernel) (by decide +kernel) rfl ?_
  refine ev_r_aload_n (pc := 27) (k := 0) (v := .ref 621) trivial (by decide +kernel) (by exact (ev_l1 (ev_l1 (ev_l1 (ev_lk_st1 (by rfl) (by decide) rfl) (by decide) (by decide)) (by decide) (by decide)) (by decide) (by decide))) ?_
  refine ev_r_aload_n (pc := 28) (k := 0) (v := .ref 621) trivial (by decide +kernel) (by exact (ev_l1 (ev_l1 (ev_l1 (ev_lk_st1 (by rfl) (by decide) rfl) (by decide) (by decide)) (by decide) (by decide)) (by decide) (by decide))) ?_
  refine ev_r_getC (pc := 29) (y := 203) (ci := 13) (f := 93) (fin := 1) (k' := 685) (by decide +kernel) (by decide +kernel) (by exact ev_ob_621) rfl rfl ?_
  refine ev_r_iload_n (pc := 32) (k := 1) (v := Int32.ofInt x1) (by decide +kernel) (by exact (ev_l1 (ev_l1 (ev_lk_st1 ev_lk_st1_self (by decide) rfl) (by decide) (by decide)) (by decide) (by decide))) ?_
  refine ev_r_iald (pc := 33) hx1 (by decide +kernel) (by exact ev_ab_685) ?_
  intro x5 hx5
  refine ev_r_putI (pc := 34) (y := 588) (ci := 13) (f := 83) hx5 (by decide +kernel) (by decide +kernel) (by exact ev_ob_621) rfl rfl ?_
  intro s6
  refine ev_r_aload_n (pc := 37) (k := 0) (v := .ref 621) trivial (by decide +kernel) (by exact (ev_l1 (ev_l1 (ev_l1 (ev_lk_st1 (by rfl) (by decide) rfl) (by decide) (by decide)) (by decide) (by decide)) (by decide) (by decide))) ?_
  refine ev_r_aload_n (pc := 38) (k := 0) (v := .ref 621) trivial (by decide +kernel) (by exact (ev_l1 (ev_l1 (ev_l1 (ev_lk_st1 (by rfl) (by decide) rfl) (by decide) (by decide)) (by decide) (by decide)) (by decide) (by decide))) ?_
  refine ev_r_getC (pc := 39) (y := 206) (ci := 13) (f := 94) (fin := 1) (k' := 686) (by decide +kernel) (by decide +kernel) (by exact ev_ob_621) rfl rfl ?_
  refine ev_r_iload_n (pc := 42) (k := 1) (v := Int32.ofInt x1) (by decide +kernel) (by exact (ev_l1 (ev_l1 (ev_lk_st1 ev_lk_st1_self (by decide) rfl) (by decide) (by decide)) (by decide) (by decide))) ?_
  refine ev_r_iald (pc := 43) hx1 (by decide +kernel) (by exact ev_ab_686) ?_
  intro x7 hx7
  refine ev_r_putI (pc := 44) (y := 591) (ci := 13) (f := 84) hx7 (by decide +kernel) (by decide +kernel) (by exact ev_ob_621) rfl rfl ?_
  intro s8
  refine ev_r_iload_n (pc := 47) (k := 2) (v := Int32.ofInt x2) (by decide +kernel) (by exact (ev_l1 (ev_lk_st1 ev_lk_st1_self (by decide) rfl) (by decide) (by decide))) ?_
  refine ev_r_if (pc := 48) (q := .ne) (o := 11) (t := 59) (c := x2 ≠ 0) (by decide +kernel) (ev_k_ne hx2 ev_rng0) (by decide +kernel) ?_ ?_
  · intro c9
    refine ev_r_iload_n (pc := 59) (k := 2) (v := Int32.ofInt x2) (by decide +kernel) (by exact (ev_l1 (ev_lk_st1 ev_lk_st1_self (by decide) rfl) (by decide) (by decide))) ?_
    refine ev_r_iconst (pc := 60) (k := 1) (by decide +kernel) ?_
    refine ev_r_icmp (pc := 61) (q := .ne) (o := 56) (t := 117) (c := x2 ≠ 1) (by decide +kernel) (ev_k_ne hx2 (by decide)) (by decide +kernel) ?_ ?_
    · intro c10
      refine ev_r_iload_n (pc := 117) (k := 2) (v := Int32.ofInt x2) (by decide +kernel) (by exact (ev_l1 (ev_lk_st1 ev_lk_st1_self (by decide) rfl) (by decide) (by decide))) ?_
      refine ev_r_iconst (pc := 118) (k := 2) (by decide +kernel) ?_
      refine ev_r_icmp (pc := 119) (q := .ne) (o := 76) (t := 195) (c := x2 ≠ 2) (by decide +kernel) (ev_k_ne hx2 (by decide)) (by decide +kernel) ?_ ?_
      · intro c11
        refine ev_r_iload_n (pc := 195) (k := 2) (v := Int32.ofInt x2) (by decide +kernel) (by exact (ev_l1 (ev_lk_st1 ev_lk_st1_self (by decide) rfl) (by decide) (by decide))) ?_
        refine ev_r_iconst (pc := 196) (k := 3) (by decide +kernel) ?_
        refine ev_r_icmp (pc := 197) (q := .ne) (o := 67) (t := 264) (c := x2 ≠ 3) (by decide +kernel) (ev_k_ne hx2 (by decide)) (by decide +kernel) ?_ ?_
        · intro c12
          refine ev_r_iload_n (pc := 264) (k := 2) (v := Int32.ofInt x2) (by decide +kernel) (by exact (ev_l1 (ev_lk_st1 ev_lk_st1_self (by decide) rfl) (by decide) (by decide))) ?_
          refine ev_r_iconst (pc := 265) (k := 4) (by decide +kernel) ?_
          refine ev_r_icmp (pc := 266) (q := .ne) (o := 16) (t := 282) (c := x2 ≠ 4) (by decide +kernel) (ev_k_ne hx2 (by decide)) (by decide +kernel) ?_ ?_
          · intro c13
            refine ev_r_iload_n (pc := 282) (k := 2) (v := Int32.ofInt x2) (by decide +kernel) (by exact (ev_l1 (ev_lk_st1 ev_lk_st1_self (by decide) rfl) (by decide) (by decide))) ?_
            refine ev_r_iconst (pc := 283) (k := 5) (by decide +kernel) ?_
            refine ev_r_icmp (pc := 284) (q := .ne) (o := 12) (t := 296) (c := x2 ≠ 5) (by decide +kernel) (ev_k_ne hx2 (by decide)) (by decide +kernel) ?_ ?_
            · intro c14
              refine ev_r_iload_n (pc := 296) (k := 2) (v := Int32.ofInt x2) (by decide +kernel) (by exact (ev_l1 (ev_lk_st1 ev_lk_st1_self (by decide) rfl) (by decide) (by decide))) ?_
              refine ev_r_bipush (pc := 297) (k := 6) (by decide +kernel) (by decide +kernel) ?_
              refine ev_r_jn (Q := fun K => ∀ (s19 : ev_St) (w15 : List (Nat × Value)), ev_lk w15 0 = some (.ref 621) → ev_lk w15 3 = some (.int (Int32.ofInt x3)) → ev_lk w15 4 = some (.int (Int32.ofInt x4)) → ev_w none (ev_Mof 304) d 316 w15 [] s19 (K  s19) ev_eU ev_PU) ?_ ?_
              · intro  s19 w15 e16 e17 e18
                refine ev_r_aload_n (pc := 316) (k := 0) (v := .ref 621) trivial (by decide +kernel) (by exact e16) ?_
                refine ev_r_iload (pc := 317) (k := 4) (v := Int32.ofInt x4) (by decide +kernel) (by exact e18) ?_
                refine ev_r_putI (pc := 319) (y := 579) (ci := 13) (f := 95) hx4 (by decide +kernel) (by decide +kernel) (by exact ev_ob_621) rfl rfl ?_
                intro s20
                refine ev_r_aload_n (pc := 322) (k := 0) (v := .ref 621) trivial (by decide +kernel) (by exact e16) ?_
                refine ev_r_aload_n (pc := 323) (k := 0) (v := .ref 621) trivial (by decide +kernel) (by exact e16) ?_
                refine ev_r_getC (pc := 324) (y := 219) (ci := 13) (f := 99) (fin := 1) (k' := 690) (by decide +kernel) (by decide +kernel) (by exact ev_ob_621) rfl rfl ?_
                refine ev_r_iload (pc := 327) (k := 4) (v := Int32.ofInt x4) (by decide +kernel) (by exact e18) ?_
                refine ev_r_iald (pc := 329) hx4 (by decide +kernel) (by exact ev_ab_690) ?_
                intro x21 hx21
                refine ev_r_putI (pc := 330) (y := 582) (ci := 13) (f := 81) hx21 (by decide +kernel) (by decide +kernel) (by exact ev_ob_621) rfl rfl ?_
                intro s22
                refine ev_r_aload_n (pc := 333) (k := 0) (v := .ref 621) trivial (by decide +kernel) (by exact e16) ?_
                refine ev_r_aload_n (pc := 334) (k := 0) (v := .ref 621) trivial (by decide +kernel) (by exact e16) ?_
                refine ev_r_getC (pc := 335) (y := 31) (ci := 13) (f := 10) (fin := 1) (k' := 629) (by decide +kernel) (by decide +kernel) (by exact ev_ob_621) rfl rfl ?_
                refine ev_r_iload_n (pc := 338) (k := 3) (v := Int32.ofInt x3) (by decide +kernel) (by exact e17) ?_
                refine ev_r_iald (pc := 339) hx3 (by decide +kernel) (by exact ev_ab_629) ?_
                intro x23 hx23
                refine ev_r_if (pc := 340) (q := .le) (o := 7) (t := 347) (c := x23 ≤ 0) (by decide +kernel) (ev_k_le hx23 ev_rng0) (by decide +kernel) ?_ ?_
                · intro c24
                  refine ev_r_iconst (pc := 347) (k := 4) (by decide +kernel) ?_
                  refine ev_r_putI (pc := 348) (y := 617) (ci := 13) (f := 78) (by decide) (by decide +kernel) (by decide +kernel) (by exact ev_ob_621) rfl rfl ?_
                  intro s25
                  refine ev_r_goto (pc := 351) (o := 8) (t := 359) (by decide +kernel) (by decide +kernel) ?_
                  exact ev_r_return (pc := 359) (x := ()) trivial (by decide +kernel) (by decide +kernel) rfl
                · intro c24
                  refine ev_r_iconst (pc := 343) (k := 5) (by decide +kernel) ?_
                  refine ev_r_goto (pc := 344) (o := 4) (t := 348) (by decide +kernel) (by decide +kernel) ?_
                  refine ev_r_putI (pc := 348) (y := 617) (ci := 13) (f := 78) (by decide) (by decide +kernel) (by decide +kernel) (by exact ev_ob_621) rfl rfl ?_
                  intro s26
                  refine ev_r_goto (pc := 351) (o := 8) (t := 359) (by decide +kernel) (by decide +kernel) ?_
                  exact ev_r_return (pc := 359) (x := ()) trivial (by decide +kernel) (by decide +kernel) rfl
              · intro K316 hK316
                refine ev_r_icmp (pc := 299) (q := .eq) (o := 17) (t := 316) (c := x2 = 6) (by decide +kernel) (ev_k_eq hx2 (by decide)) (by decide +kernel) ?_ ?_
                · intro c27
                  exact hK316  s8 _ (by exact (ev_l1 (ev_l1 (ev_l1 (ev_lk_st1 (by rfl) (by decide) rfl) (by decide) (by decide)) (by decide) (by decide)) (by decide) (by decide))) (by exact (ev_lk_st1 ev_lk_st1_self (by decide) rfl)) (by exact ev_lk_st1_self)
                · intro c27
                  refine ev_r_aload_n (pc := 302) (k := 0) (v := .ref 621) trivial (by decide +kernel) (by exact (ev_l1 (ev_l1 (ev_l1 (ev_lk_st1 (by rfl) (by decide) rfl) (by decide) (by decide)) (by decide) (by decide)) (by decide) (by decide))) ?_
                  refine ev_r_getI (pc := 303) (y := 582) (ci := 13) (f := 81) (fin := 0) (by decide +kernel) (by decide +kernel) (by exact ev_ob_621) rfl ?_
                  intro x28 hx28
                  refine ev_r_aload_n (pc := 306) (k := 0) (v := .ref 621) trivial (by decide +kernel) (by exact (ev_l1 (ev_l1 (ev_l1 (ev_lk_st1 (by rfl) (by decide) rfl) (by decide) (by decide)) (by decide) (by decide)) (by decide) (by decide))) ?_
                  refine ev_r_getC (pc := 307) (y := 219) (ci := 13) (f := 99) (fin := 1) (k' := 690) (by decide +kernel) (by decide +kernel) (by exact ev_ob_621) rfl rfl ?_
                  refine ev_r_iload (pc := 310) (k := 4) (v := Int32.ofInt x4) (by decide +kernel) (by exact ev_lk_st1_self) ?_
                  refine ev_r_iald (pc := 312) hx4 (by decide +kernel) (by exact ev_ab_690) ?_
                  intro x29 hx29
                  refine ev_r_icmp (pc := 313) (q := .ne) (o := 41) (t := 354) (c := x28 ≠ x29) (by decide +kernel) (ev_k_ne hx28 hx29) (by decide +kernel) ?_ ?_
                  · intro c30
                    refine ev_r_aload_n (pc := 354) (k := 0) (v := .ref 621) trivial (by decide +kernel) (by exact (ev_l1 (ev_l1 (ev_l1 (ev_lk_st1 (by rfl) (by decide) rfl) (by decide) (by decide)) (by decide) (by decide)) (by decide) (by decide))) ?_
                    refine ev_r_iconst (pc := 355) (k := 5) (by decide +kernel) ?_
                    refine ev_r_putI (pc := 356) (y := 617) (ci := 13) (f := 78) (by decide) (by decide +kernel) (by decide +kernel) (by exact ev_ob_621) rfl rfl ?_
                    intro s31
                    exact ev_r_return (pc := 359) (x := ()) trivial (by decide +kernel) (by decide +kernel) rfl
                  · intro c30
                    exact hK316  s8 _ (by exact (ev_l1 (ev_l1 (ev_l1 (ev_lk_st1 (by rfl) (by decide) rfl) (by decide) (by decide)) (by decide) (by decide)) (by decide) (by decide))) (by exact (ev_lk_st1 ev_lk_st1_self (by decide) rfl)) (by exact ev_lk_st1_self)
            · intro c14
              refine ev_r_aload_n (pc := 287) (k := 0) (v := .ref 621) trivial (by decide +kernel) (by exact (ev_l1 (ev_l1 (ev_l1 (ev_lk_st1 (by rfl) (by decide) rfl) (by decide) (by decide)) (by decide) (by decide)) (by decide) (by decide))) ?_
              refine ev_r_iload (pc := 288) (k := 4) (v := Int32.ofInt x4) (by decide +kernel) (by exact ev_lk_st1_self) ?_
              refine ev_r_putI (pc := 290) (y := 579) (ci := 13) (f := 95) hx4 (by decide +kernel) (by decide +kernel) (by exact ev_ob_621) rfl rfl ?_
              intro s32
              refine ev_r_goto (pc := 293) (o := 66) (t := 359) (by decide +kernel) (by decide +kernel) ?_
              exact ev_r_return (pc := 359) (x := ()) trivial (by decide +kernel) (by decide +kernel) rfl
          · intro c13
            refine ev_r_aload_n (pc := 269) (k := 0) (v := .ref 621) trivial (by decide +kernel) (by exact (ev_l1 (ev_l1 (ev_l1 (ev_lk_st1 (by rfl) (by decide) rfl) (by decide) (by decide)) (by decide) (by decide)) (by decide) (by decide))) ?_
            refine ev_r_aload_n (pc := 270) (k := 0) (v := .ref 621) trivial (by decide +kernel) (by exact (ev_l1 (ev_l1 (ev_l1 (ev_lk_st1 (by rfl) (by decide) rfl) (by decide) (by decide)) (by decide) (by decide)) (by decide) (by decide))) ?_
            refine ev_r_getC (pc := 271) (y := 200) (ci := 13) (f := 92) (fin := 1) (k' := 684) (by decide +kernel) (by decide +kernel) (by exact ev_ob_621) rfl rfl ?_
            refine ev_r_iload_n (pc := 274) (k := 1) (v := Int32.ofInt x1) (by decide +kernel) (by exact (ev_l1 (ev_l1 (ev_lk_st1 ev_lk_st1_self (by decide) rfl) (by decide) (by decide)) (by decide) (by decide))) ?_
            refine ev_r_iald (pc := 275) hx1 (by decide +kernel) (by exact ev_ab_684) ?_
            intro x33 hx33
            refine ev_r_putI (pc := 276) (y := 585) (ci := 13) (f := 82) hx33 (by decide +kernel) (by decide +kernel) (by exact ev_ob_621) rfl rfl ?_
            intro s34
            refine ev_r_goto (pc := 279) (o := 80) (t := 359) (by decide +kernel) (by decide +kernel) ?_
            exact ev_r_return (pc := 359) (x := ()) trivial (by decide +kernel) (by decide +kernel) rfl
        · intro c12
          refine ev_r_aload_n (pc := 200) (k := 0) (v := .ref 621) trivial (by decide +kernel) (by exact (ev_l1 (ev_l1 (ev_l1 (ev_lk_st1 (by rfl) (by decide) rfl) (by decide) (by decide)) (by decide) (by decide)) (by decide) (by decide))) ?_
          refine ev_r_iload (pc := 201) (k := 4) (v := Int32.ofInt x4) (by decide +kernel) (by exact ev_lk_st1_self) ?_
          refine ev_r_sipush (pc := 203) (k := 256) (by decide +kernel) (by decide +kernel) ?_
          refine ev_r_idiv (pc := 206) (by decide) (by decide +kernel) ?_
          intro x35 hx35
          refine ev_r_putI (pc := 207) (y := 636) (ci := 13) (f := 85) hx35 (by decide +kernel) (by decide +kernel) (by exact ev_ob_621) rfl rfl ?_
          intro s36
          refine ev_r_aload_n (pc := 210) (k := 0) (v := .ref 621) trivial (by decide +kernel) (by exact (ev_l1 (ev_l1 (ev_l1 (ev_lk_st1 (by rfl) (by decide) rfl) (by decide) (by decide)) (by decide) (by decide)) (by decide) (by decide))) ?_
          refine ev_r_iload_n (pc := 211) (k := 3) (v := Int32.ofInt x3) (by decide +kernel) (by exact (ev_lk_st1 ev_lk_st1_self (by decide) rfl)) ?_
          refine ev_r_putI (pc := 212) (y := 597) (ci := 13) (f := 80) hx3 (by decide +kernel) (by decide +kernel) (by exact ev_ob_621) rfl rfl ?_
          intro s37
          refine ev_r_aload_n (pc := 215) (k := 0) (v := .ref 621) trivial (by decide +kernel) (by exact (ev_l1 (ev_l1 (ev_l1 (ev_lk_st1 (by rfl) (by decide) rfl) (by decide) (by decide)) (by decide) (by decide)) (by decide) (by decide))) ?_
          refine ev_r_aload_n (pc := 216) (k := 0) (v := .ref 621) trivial (by decide +kernel) (by exact (ev_l1 (ev_l1 (ev_l1 (ev_lk_st1 (by rfl) (by decide) rfl) (by decide) (by decide)) (by decide) (by decide)) (by decide) (by decide))) ?_
          refine ev_r_getC (pc := 217) (y := 40) (ci := 13) (f := 13) (fin := 1) (k' := 632) (by decide +kernel) (by decide +kernel) (by exact ev_ob_621) rfl rfl ?_
          refine ev_r_iload_n (pc := 220) (k := 3) (v := Int32.ofInt x3) (by decide +kernel) (by exact (ev_lk_st1 ev_lk_st1_self (by decide) rfl)) ?_
          refine ev_r_iald (pc := 221) hx3 (by decide +kernel) (by exact ev_ab_632) ?_
          intro x38 hx38
          refine ev_r_iconst (pc := 222) (k := -1) (by decide +kernel) ?_
          refine ev_r_icmp (pc := 223) (q := .ne) (o := 33) (t := 256) (c := x38 ≠ (-1)) (by decide +kernel) (ev_k_ne hx38 (by decide)) (by decide +kernel) ?_ ?_
          · intro c39
            refine ev_r_bipush (pc := 256) (k := 6) (by decide +kernel) (by decide +kernel) ?_
            refine ev_r_putI (pc := 258) (y := 617) (ci := 13) (f := 78) (by decide) (by decide +kernel) (by decide +kernel) (by exact ev_ob_621) rfl rfl ?_
            intro s40
            refine ev_r_goto (pc := 261) (o := 98) (t := 359) (by decide +kernel) (by decide +kernel) ?_
            exact ev_r_return (pc := 359) (x := ()) trivial (by decide +kernel) (by decide +kernel) rfl
          · intro c39
            refine ev_r_aload_n (pc := 226) (k := 0) (v := .ref 621) trivial (by decide +kernel) (by exact (ev_l1 (ev_l1 (ev_l1 (ev_lk_st1 (by rfl) (by decide) rfl) (by decide) (by decide)) (by decide) (by decide)) (by decide) (by decide))) ?_
            refine ev_r_getI (pc := 227) (y := 636) (ci := 13) (f := 85) (fin := 0) (by decide +kernel) (by decide +kernel) (by exact ev_ob_621) rfl ?_
            intro x41 hx41
            refine ev_r_aload_n (pc := 230) (k := 0) (v := .ref 621) trivial (by decide +kernel) (by exact (ev_l1 (ev_l1 (ev_l1 (ev_lk_st1 (by rfl) (by decide) rfl) (by decide) (by decide)) (by decide) (by decide)) (by decide) (by decide))) ?_
            refine ev_r_getC (pc := 231) (y := 37) (ci := 13) (f := 12) (fin := 1) (k' := 631) (by decide +kernel) (by decide +kernel) (by exact ev_ob_621) rfl rfl ?_
            refine ev_r_iload_n (pc := 234) (k := 3) (v := Int32.ofInt x3) (by decide +kernel) (by exact (ev_lk_st1 ev_lk_st1_self (by decide) rfl)) ?_
            refine ev_r_iald (pc := 235) hx3 (by decide +kernel) (by exact ev_ab_631) ?_
            intro x42 hx42
            refine ev_r_icmp (pc := 236) (q := .le) (o := 20) (t := 256) (c := x41 ≤ x42) (by decide +kernel) (ev_k_le hx41 hx42) (by decide +kernel) ?_ ?_
            · intro c43
              refine ev_r_bipush (pc := 256) (k := 6) (by decide +kernel) (by decide +kernel) ?_
              refine ev_r_putI (pc := 258) (y := 617) (ci := 13) (f := 78) (by decide) (by decide +kernel) (by decide +kernel) (by exact ev_ob_621) rfl rfl ?_
              intro s44
              refine ev_r_goto (pc := 261) (o := 98) (t := 359) (by decide +kernel) (by decide +kernel) ?_
              exact ev_r_return (pc := 359) (x := ()) trivial (by decide +kernel) (by decide +kernel) rfl
            · intro c43
              refine ev_r_aload_n (pc := 239) (k := 0) (v := .ref 621) trivial (by decide +kernel) (by exact (ev_l1 (ev_l1 (ev_l1 (ev_lk_st1 (by rfl) (by decide) rfl) (by decide) (by decide)) (by decide) (by decide)) (by decide) (by decide))) ?_
              refine ev_r_getI (pc := 240) (y := 582) (ci := 13) (f := 81) (fin := 0) (by decide +kernel) (by decide +kernel) (by exact ev_ob_621) rfl ?_
              intro x45 hx45
              refine ev_r_iload (pc := 243) (k := 4) (v := Int32.ofInt x4) (by decide +kernel) (by exact ev_lk_st1_self) ?_
              refine ev_r_sipush (pc := 245) (k := 256) (by decide +kernel) (by decide +kernel) ?_
              refine ev_r_irem (pc := 248) (by decide) (by decide +kernel) ?_
              intro x46 hx46
              refine ev_r_icmp (pc := 249) (q := .ne) (o := 7) (t := 256) (c := x45 ≠ x46) (by decide +kernel) (ev_k_ne hx45 hx46) (by decide +kernel) ?_ ?_
              · intro c47
                refine ev_r_bipush (pc := 256) (k := 6) (by decide +kernel) (by decide +kernel) ?_
                refine ev_r_putI (pc := 258) (y := 617) (ci := 13) (f := 78) (by decide) (by decide +kernel) (by decide +kernel) (by exact ev_ob_621) rfl rfl ?_
                intro s48
                refine ev_r_goto (pc := 261) (o := 98) (t := 359) (by decide +kernel) (by decide +kernel) ?_
                exact ev_r_return (pc := 359) (x := ()) trivial (by decide +kernel) (by decide +kernel) rfl
              · intro c47
                refine ev_r_iconst (pc := 252) (k := 5) (by decide +kernel) ?_
                refine ev_r_goto (pc := 253) (o := 5) (t := 258) (by decide +kernel) (by decide +kernel) ?_
                refine ev_r_putI (pc := 258) (y := 617) (ci := 13) (f := 78) (by decide) (by decide +kernel) (by decide +kernel) (by exact ev_ob_621) rfl rfl ?_
                intro s49
                refine ev_r_goto (pc := 261) (o := 98) (t := 359) (by decide +kernel) (by decide +kernel) ?_
                exact ev_r_return (pc := 359) (x := ()) trivial (by decide +kernel) (by decide +kernel) rfl
      · intro c11
        refine ev_r_aload_n (pc := 122) (k := 0) (v := .ref 621) trivial (by decide +kernel) (by exact (ev_l1 (ev_l1 (ev_l1 (ev_lk_st1 (by rfl) (by decide) rfl) (by decide) (by decide)) (by decide) (by decide)) (by decide) (by decide))) ?_
        refine ev_r_getC (pc := 123) (y := 237) (ci := 13) (f := 106) (fin := 1) (k' := 696) (by decide +kernel) (by decide +kernel) (by exact ev_ob_621) rfl rfl ?_
        refine ev_r_aload_n (pc := 126) (k := 0) (v := .ref 621) trivial (by decide +kernel) (by exact (ev_l1 (ev_l1 (ev_l1 (ev_lk_st1 (by rfl) (by decide) rfl) (by decide) (by decide)) (by decide) (by decide)) (by decide) (by decide))) ?_
        refine ev_r_getI (pc := 127) (y := 594) (ci := 13) (f := 105) (fin := 0) (by decide +kernel) (by decide +kernel) (by exact ev_ob_621) rfl ?_
        intro x50 hx50
        refine ev_r_aload_n (pc := 130) (k := 0) (v := .ref 621) trivial (by decide +kernel) (by exact (ev_l1 (ev_l1 (ev_l1 (ev_lk_st1 (by rfl) (by decide) rfl) (by decide) (by decide)) (by decide) (by decide)) (by decide) (by decide))) ?_
        refine ev_r_getC (pc := 131) (y := 28) (ci := 13) (f := 9) (fin := 1) (k' := 628) (by decide +kernel) (by decide +kernel) (by exact ev_ob_621) rfl rfl ?_
        refine ev_r_iload_n (pc := 134) (k := 3) (v := Int32.ofInt x3) (by decide +kernel) (by exact (ev_lk_st1 ev_lk_st1_self (by decide) rfl)) ?_
        refine ev_r_iald (pc := 135) hx3 (by decide +kernel) (by exact ev_ab_628) ?_
        intro x51 hx51
        refine ev_r_iast (pc := 136) hx51 hx50 (by decide +kernel) (by exact ev_ab_696) ?_
        intro s52
        refine ev_r_aload_n (pc := 137) (k := 0) (v := .ref 621) trivial (by decide +kernel) (by exact (ev_l1 (ev_l1 (ev_l1 (ev_lk_st1 (by rfl) (by decide) rfl) (by decide) (by decide)) (by decide) (by decide)) (by decide) (by decide))) ?_
        refine ev_r_getC (pc := 138) (y := 240) (ci := 13) (f := 107) (fin := 1) (k' := 697) (by decide +kernel) (by decide +kernel) (by exact ev_ob_621) rfl rfl ?_
        refine ev_r_aload_n (pc := 141) (k := 0) (v := .ref 621) trivial (by decide +kernel) (by exact (ev_l1 (ev_l1 (ev_l1 (ev_lk_st1 (by rfl) (by decide) rfl) (by decide) (by decide)) (by decide) (by decide)) (by decide) (by decide))) ?_
        refine ev_r_getI (pc := 142) (y := 594) (ci := 13) (f := 105) (fin := 0) (by decide +kernel) (by decide +kernel) (by exact ev_ob_621) rfl ?_
        intro x53 hx53
        refine ev_r_iload (pc := 145) (k := 4) (v := Int32.ofInt x4) (by decide +kernel) (by exact ev_lk_st1_self) ?_
        refine ev_r_iast (pc := 147) hx4 hx53 (by decide +kernel) (by exact ev_ab_697) ?_
        intro s54
        refine ev_r_aload_n (pc := 148) (k := 0) (v := .ref 621) trivial (by decide +kernel) (by exact (ev_l1 (ev_l1 (ev_l1 (ev_lk_st1 (by rfl) (by decide) rfl) (by decide) (by decide)) (by decide) (by decide)) (by decide) (by decide))) ?_
        refine ev_r_getC (pc := 149) (y := 243) (ci := 13) (f := 108) (fin := 1) (k' := 698) (by decide +kernel) (by decide +kernel) (by exact ev_ob_621) rfl rfl ?_
        refine ev_r_aload_n (pc := 152) (k := 0) (v := .ref 621) trivial (by decide +kernel) (by exact (ev_l1 (ev_l1 (ev_l1 (ev_lk_st1 (by rfl) (by decide) rfl) (by decide) (by decide)) (by decide) (by decide)) (by decide) (by decide))) ?_
        refine ev_r_getI (pc := 153) (y := 594) (ci := 13) (f := 105) (fin := 0) (by decide +kernel) (by decide +kernel) (by exact ev_ob_621) rfl ?_
        intro x55 hx55
        refine ev_r_aload_n (pc := 156) (k := 0) (v := .ref 621) trivial (by decide +kernel) (by exact (ev_l1 (ev_l1 (ev_l1 (ev_lk_st1 (by rfl) (by decide) rfl) (by decide) (by decide)) (by decide) (by decide)) (by decide) (by decide))) ?_
        refine ev_r_getI (pc := 157) (y := 582) (ci := 13) (f := 81) (fin := 0) (by decide +kernel) (by decide +kernel) (by exact ev_ob_621) rfl ?_
        intro x56 hx56
        refine ev_r_iast (pc := 160) hx56 hx55 (by decide +kernel) (by exact ev_ab_698) ?_
        intro s57
        refine ev_r_aload_n (pc := 161) (k := 0) (v := .ref 621) trivial (by decide +kernel) (by exact (ev_l1 (ev_l1 (ev_l1 (ev_lk_st1 (by rfl) (by decide) rfl) (by decide) (by decide)) (by decide) (by decide)) (by decide) (by decide))) ?_
        refine ev_r_getC (pc := 162) (y := 246) (ci := 13) (f := 109) (fin := 1) (k' := 699) (by decide +kernel) (by decide +kernel) (by exact ev_ob_621) rfl rfl ?_
        refine ev_r_aload_n (pc := 165) (k := 0) (v := .ref 621) trivial (by decide +kernel) (by exact (ev_l1 (ev_l1 (ev_l1 (ev_lk_st1 (by rfl) (by decide) rfl) (by decide) (by decide)) (by decide) (by decide)) (by decide) (by decide))) ?_
        refine ev_r_getI (pc := 166) (y := 594) (ci := 13) (f := 105) (fin := 0) (by decide +kernel) (by decide +kernel) (by exact ev_ob_621) rfl ?_
        intro x58 hx58
        refine ev_r_aload_n (pc := 169) (k := 0) (v := .ref 621) trivial (by decide +kernel) (by exact (ev_l1 (ev_l1 (ev_l1 (ev_lk_st1 (by rfl) (by decide) rfl) (by decide) (by decide)) (by decide) (by decide)) (by decide) (by decide))) ?_
        refine ev_r_getI (pc := 170) (y := 585) (ci := 13) (f := 82) (fin := 0) (by decide +kernel) (by decide +kernel) (by exact ev_ob_621) rfl ?_
        intro x59 hx59
        refine ev_r_iast (pc := 173) hx59 hx58 (by decide +kernel) (by exact ev_ab_699) ?_
        intro s60
        refine ev_r_aload_n (pc := 174) (k := 0) (v := .ref 621) trivial (by decide +kernel) (by exact (ev_l1 (ev_l1 (ev_l1 (ev_lk_st1 (by rfl) (by decide) rfl) (by decide) (by decide)) (by decide) (by decide)) (by decide) (by decide))) ?_
        refine ev_r_aload_n (pc := 175) (k := 0) (v := .ref 621) trivial (by decide +kernel) (by exact (ev_l1 (ev_l1 (ev_l1 (ev_lk_st1 (by rfl) (by decide) rfl) (by decide) (by decide)) (by decide) (by decide)) (by decide) (by decide))) ?_
        refine ev_r_getI (pc := 176) (y := 594) (ci := 13) (f := 105) (fin := 0) (by decide +kernel) (by decide +kernel) (by exact ev_ob_621) rfl ?_
        intro x61 hx61
        refine ev_r_putI (pc := 179) (y := 585) (ci := 13) (f := 82) hx61 (by decide +kernel) (by decide +kernel) (by exact ev_ob_621) rfl rfl ?_
        intro s62
        refine ev_r_aload_n (pc := 182) (k := 0) (v := .ref 621) trivial (by decide +kernel) (by exact (ev_l1 (ev_l1 (ev_l1 (ev_lk_st1 (by rfl) (by decide) rfl) (by decide) (by decide)) (by decide) (by decide)) (by decide) (by decide))) ?_
        refine ev_r_dup (pc := 183) rfl (by decide +kernel) ?_
        refine ev_r_getI (pc := 184) (y := 594) (ci := 13) (f := 105) (fin := 0) (by decide +kernel) (by decide +kernel) (by exact ev_ob_621) rfl ?_
        intro x63 hx63
        refine ev_r_iconst (pc := 187) (k := 1) (by decide +kernel) ?_
        refine ev_r_iadd (pc := 188) (by decide +kernel) ?_
        intro x64 hx64
        refine ev_r_putI (pc := 189) (y := 594) (ci := 13) (f := 105) hx64 (by decide +kernel) (by decide +kernel) (by exact ev_ob_621) rfl rfl ?_
        intro s65
        refine ev_r_goto (pc := 192) (o := 167) (t := 359) (by decide +kernel) (by decide +kernel) ?_
        exact ev_r_return (pc := 359) (x := ()) trivial (by decide +kernel) (by decide +kernel) rfl
    · intro c10
      refine ev_r_aload_n (pc := 64) (k := 0) (v := .ref 621) trivial (by decide +kernel) (by exact (ev_l1 (ev_l1 (ev_l1 (ev_lk_st1 (by rfl) (by decide) rfl) (by decide) (by decide)) (by decide) (by decide)) (by decide) (by decide))) ?_
      refine ev_r_getC (pc := 65) (y := 25) (ci := 13) (f := 8) (fin := 1) (k' := 627) (by decide +kernel) (by decide +kernel) (by exact ev_ob_621) rfl rfl ?_
      refine ev_r_iload_n (pc := 68) (k := 3) (v := Int32.ofInt x3) (by decide +kernel) (by exact (ev_lk_st1 ev_lk_st1_self (by decide) rfl)) ?_
      refine ev_r_iald (pc := 69) hx3 (by decide +kernel) (by exact ev_ab_627) ?_
      intro x66 hx66
      refine ev_r_iconst (pc := 70) (k := -1) (by decide +kernel) ?_
      refine ev_r_jn (Q := fun K => ∀ (s70 : ev_St) (w67 : List (Nat × Value)), ev_lk w67 0 = some (.ref 621) → ev_lk w67 3 = some (.int (Int32.ofInt x3)) → ev_w none (ev_Mof 304) d 104 w67 [] s70 (K  s70) ev_eU ev_PU) ?_ ?_
      · intro  s70 w67 e68 e69
        refine ev_r_aload_n (pc := 104) (k := 0) (v := .ref 621) trivial (by decide +kernel) (by exact e68) ?_
        refine ev_r_iload_n (pc := 105) (k := 3) (v := Int32.ofInt x3) (by decide +kernel) (by exact e69) ?_
        refine ev_r_putI (pc := 106) (y := 597) (ci := 13) (f := 80) hx3 (by decide +kernel) (by decide +kernel) (by exact ev_ob_621) rfl rfl ?_
        intro s71
        refine ev_r_aload_n (pc := 109) (k := 0) (v := .ref 621) trivial (by decide +kernel) (by exact e68) ?_
        refine ev_r_iconst (pc := 110) (k := 1) (by decide +kernel) ?_
        refine ev_r_putI (pc := 111) (y := 617) (ci := 13) (f := 78) (by decide) (by decide +kernel) (by decide +kernel) (by exact ev_ob_621) rfl rfl ?_
        intro s72
        refine ev_r_goto (pc := 114) (o := 245) (t := 359) (by decide +kernel) (by decide +kernel) ?_
        exact ev_r_return (pc := 359) (x := ()) trivial (by decide +kernel) (by decide +kernel) rfl
      · intro K104 hK104
        refine ev_r_icmp (pc := 71) (q := .eq) (o := 33) (t := 104) (c := x66 = (-1)) (by decide +kernel) (ev_k_eq hx66 (by decide)) (by decide +kernel) ?_ ?_
        · intro c73
          exact hK104  s8 _ (by exact (ev_l1 (ev_l1 (ev_l1 (ev_lk_st1 (by rfl) (by decide) rfl) (by decide) (by decide)) (by decide) (by decide)) (by decide) (by decide))) (by exact (ev_lk_st1 ev_lk_st1_self (by decide) rfl))
        · intro c73
          refine ev_r_aload_n (pc := 74) (k := 0) (v := .ref 621) trivial (by decide +kernel) (by exact (ev_l1 (ev_l1 (ev_l1 (ev_lk_st1 (by rfl) (by decide) rfl) (by decide) (by decide)) (by decide) (by decide)) (by decide) (by decide))) ?_
          refine ev_r_aload_n (pc := 75) (k := 0) (v := .ref 621) trivial (by decide +kernel) (by exact (ev_l1 (ev_l1 (ev_l1 (ev_lk_st1 (by rfl) (by decide) rfl) (by decide) (by decide)) (by decide) (by decide)) (by decide) (by decide))) ?_
          refine ev_r_iconst (pc := 76) (k := 1) (by decide +kernel) ?_
          refine ev_r_aload_n (pc := 77) (k := 0) (v := .ref 621) trivial (by decide +kernel) (by exact (ev_l1 (ev_l1 (ev_l1 (ev_lk_st1 (by rfl) (by decide) rfl) (by decide) (by decide)) (by decide) (by decide)) (by decide) (by decide))) ?_
          refine ev_r_getI (pc := 78) (y := 633) (ci := 13) (f := 79) (fin := 0) (by decide +kernel) (by decide +kernel) (by exact ev_ob_621) rfl ?_
          intro x74 hx74
          refine ev_r_aload_n (pc := 81) (k := 0) (v := .ref 621) trivial (by decide +kernel) (by exact (ev_l1 (ev_l1 (ev_l1 (ev_lk_st1 (by rfl) (by decide) rfl) (by decide) (by decide)) (by decide) (by decide)) (by decide) (by decide))) ?_
          refine ev_r_getC (pc := 82) (y := 25) (ci := 13) (f := 8) (fin := 1) (k' := 627) (by decide +kernel) (by decide +kernel) (by exact ev_ob_621) rfl rfl ?_
          refine ev_r_iload_n (pc := 85) (k := 3) (v := Int32.ofInt x3) (by decide +kernel) (by exact (ev_lk_st1 ev_lk_st1_self (by decide) rfl)) ?_
          refine ev_r_iald (pc := 86) hx3 (by decide +kernel) (by exact ev_ab_627) ?_
          intro x75 hx75
          refine ev_r_iadd (pc := 87) (by decide +kernel) ?_
          intro x76 hx76
          refine ev_r_iconst (pc := 88) (k := 0) (by decide +kernel) ?_
          refine ev_r_iconst (pc := 89) (k := -1) (by decide +kernel) ?_
          refine ev_r_aload_n (pc := 90) (k := 0) (v := .ref 621) trivial (by decide +kernel) (by exact (ev_l1 (ev_l1 (ev_l1 (ev_lk_st1 (by rfl) (by decide) rfl) (by decide) (by decide)) (by decide) (by decide)) (by decide) (by decide))) ?_
          refine ev_r_getI (pc := 91) (y := 588) (ci := 13) (f := 83) (fin := 0) (by decide +kernel) (by decide +kernel) (by exact ev_ob_621) rfl ?_
          intro x77 hx77
          refine ev_r_aload_n (pc := 94) (k := 0) (v := .ref 621) trivial (by decide +kernel) (by exact (ev_l1 (ev_l1 (ev_l1 (ev_lk_st1 (by rfl) (by decide) rfl) (by decide) (by decide)) (by decide) (by decide)) (by decide) (by decide))) ?_
          refine ev_r_getI (pc := 95) (y := 591) (ci := 13) (f := 84) (fin := 0) (by decide +kernel) (by decide +kernel) (by exact ev_ob_621) rfl ?_
          intro x78 hx78
          refine ev_r_virt (pc := 98) (y := 613) (mi := 291) (na := 6) (k := 621) (as := [.int (Int32.ofInt 1), .int (Int32.ofInt x76), .int (Int32.ofInt 0), .int (Int32.ofInt ((-1))), .int (Int32.ofInt x77), .int (Int32.ofInt x78)]) (rest := [.ref 621]) (encc := ev_oI) (Q := ev_rng) (fun x S1 h => jt_291 d (by omega) Q 1 x76 0 ((-1)) x77 x78 (by decide) hx76 (by decide) (by decide) hx77 hx78 s8 x S1 h) (by exact ev_ob_621) (by decide +kernel) (by decide +kernel) (by decide +kernel) (by decide +kernel) rfl (by (try simp only [ev_sum, ev_nv_cat]); first | done | rfl) ?_
          intro x80 s79 hx80
          show ev_w _ _ _ _ _ [.int (Int32.ofInt x80), .ref 621] _ _ _ _
          refine ev_r_putI (pc := 101) (y := 588) (ci := 13) (f := 83) hx80 (by decide +kernel) (by decide +kernel) (by exact ev_ob_621) rfl rfl ?_
          intro s81
          exact hK104  s81 _ (by exact (ev_l1 (ev_l1 (ev_l1 (ev_lk_st1 (by rfl) (by decide) rfl) (by decide) (by decide)) (by decide) (by decide)) (by decide) (by decide))) (by exact (ev_lk_st1 ev_lk_st1_self (by decide) rfl))
  · intro c9
    refine ev_r_aload_n (pc := 51) (k := 0) (v := .ref 621) trivial (by decide +kernel) (by exact (ev_l1 (ev_l1 (ev_l1 (ev_lk_st1 (by rfl) (by decide) rfl) (by decide) (by decide)) (by decide) (by decide)) (by decide) (by decide))) ?_
    refine ev_r_iconst (pc := 52) (k := 0) (by decide +kernel) ?_
    refine ev_r_putI (pc := 53) (y := 617) (ci := 13) (f := 78) (by decide) (by decide +kernel) (by decide +kernel) (by exact ev_ob_621) rfl rfl ?_
    intro s82
    refine ev_r_goto (pc := 56) (o := 303) (t := 359) (by decide +kernel) (by decide +kernel) ?_
    exact ev_r_return (pc := 359) (x := ()) trivial (by decide +kernel) (by decide +kernel) rfl
def jb_305_45 (Q : Nat)   (K45 : Int → Int → Int → Int → ev_St → Option ((Int) × ev_St)) (x15 : Int) (x16 : Int) (x17 : Int) (x18 : Int) (s25 : ev_St) : Option ((Int) × ev_St) := ev_jn (fun  (s32 : ev_St) => if 0 ≤ x15 then (ev_if ((0 : Int) ≤ x15 ∧ x15 < (ev_aln 687 : Int)) (ev_b (s32.1 687 (Int.toNat x15)) fun x34 => ev_if ((0 : Int) ≤ x15 ∧ x15 < (ev_aln 689 : Int)) (ev_b (s32.1 689 (Int.toNat x15)) fun x35 => ev_bd (jm_293 Q x15 s32) fun _ s36 => if x34 ≠ 0 then (if x34 ≠ 1 then (if x34 ≠ 2 then (if x34 ≠ 3 then (ev_jn (fun  (s43 : ev_St) => ev_b (s43.1 621 80) fun x44 => ev_if ((0 : Int) ≤ x44 ∧ x44 < (ev_aln 629 : Int)) (ev_b (s43.1 629 (Int.toNat x44)) fun x45 => if x45 ≤ 0 then (ev_b (ev_pI s43 621 78 5) fun s47 => some ((-1), s47)) else (ev_b (ev_pI s43 621 78 4) fun s48 => some ((-1), s48)))) fun K230 => if x34 ≠ 5 then (K230  s36) else (if x35 ≤ 0 then (K230  s36) else (if x16 ≠ 0 then (K230  s36) else (ev_b (s36.1 621 81) fun x52 => ev_b (s36.1 621 80) fun x53 => ev_ck (x35 - 1) fun x54 => ev_bd (jm_297 Q x53 x54 s36) fun _ s55 => ev_b (s55.1 621 95) fun x56 => ev_ck (x56 - 1) fun x57 => ev_if ((0 : Int) ≤ x57 ∧ x57 < (ev_aln 690 : Int)) (ev_b (ev_pI s55 690 (Int.toNat x57) x52) fun s58 => some ((-1), s58)))))) else (ev_b (ev_pI s36 621 78 5) fun s59 => some ((-1), s59))) else (ev_b (s36.1 621 80) fun x60 => ev_bd (jm_300 Q x60 x35 s36) fun _ s61 => some ((-1), s61))) else (ev_b (ev_pI s36 621 78 4) fun s62 => some ((-1), s62))) else (ev_b (s36.1 621 80) fun x63 => ev_bd (jm_302 Q x63 1 s36) fun _ s64 => some ((-1), s64))))) else (ev_b (ev_pI s32 621 77 x18) fun s65 => if x17 ≠ 6 then (some (3, s65)) else (some (2, s65)))) fun K79 => if x16 = 0 then (K79  s25) else (if x15 < 0 then (K79  s25) else (ev_if ((0 : Int) ≤ x15 ∧ x15 < (ev_aln 687 : Int)) (ev_b (s25.1 687 (Int.toNat x15)) fun x69 => ev_jn (fun  (s76 : ev_St) => ev_ck (x15 + (-1)) fun x77 => K45 x77 x16 x17 x18 s76) fun K73 => if x69 < 3 then (K73  s25) else (ev_if ((0 : Int) ≤ x15 ∧ x15 < (ev_aln 687 : Int)) (ev_b (s25.1 687 (Int.toNat x15)) fun x79 => if x79 ≤ 5 then (K79  s25) else (K73  s25))))))
def jl_305_45 (Q : Nat)   : Nat → Int → Int → Int → Int → ev_St → Option ((Int) × ev_St)
  | 0 => fun _ _ _ _ _ => none
  | q + 1 => jb_305_45 Q   (jl_305_45 Q   q)
theorem jbt_305_45 (d : Nat) (hd : 3 ≤ d + 1) (Q : Nat)     (K45 : Int → Int → Int → Int → ev_St → Option ((Int) × ev_St)) (hK45 : ∀ (x15 : Int) (hx15 : ev_rng x15), ∀ (x16 : Int) (hx16 : ev_rng x16), ∀ (x17 : Int) (hx17 : ev_rng x17), ∀ (x18 : Int) (hx18 : ev_rng x18), ∀ (s25 : ev_St) (w19 : List (Nat × Value)), ev_lk w19 0 = some (.ref 621) → ev_lk w19 1 = some (.int (Int32.ofInt x15)) → ev_lk w19 3 = some (.int (Int32.ofInt x16)) → ev_lk w19 4 = some (.int (Int32.ofInt x17)) → ev_lk w19 5 = some (.int (Int32.ofInt x18)) → ev_w none (ev_Mof 305) d 45 w19 [] s25 (K45 x15 x16 x17 x18 s25) ev_eI ev_rng) : ∀ (x15 : Int) (hx15 : ev_rng x15), ∀ (x16 : Int) (hx16 : ev_rng x16), ∀ (x17 : Int) (hx17 : ev_rng x17), ∀ (x18 : Int) (hx18 : ev_rng x18), ∀ (s25 : ev_St) (w19 : List (Nat × Value)), ev_lk w19 0 = some (.ref 621) → ev_lk w19 1 = some (.int (Int32.ofInt x15)) → ev_lk w19 3 = some (.int (Int32.ofInt x16)) → ev_lk w19 4 = some (.int (Int32.ofInt x17)) → ev_lk w19 5 = some (.int (Int32.ofInt x18)) → ev_w none (ev_Mof 305) d 45 w19 [] s25 (jb_305_45 Q   K45 x15 x16 x17 x18 s25) ev_eI ev_rng := by
  intro x15 hx15 x16 hx16 x17 hx17 x18 hx18 s25 w19 e20 e21 e22 e23 e24
  unfold jb_305_45
  refine ev_r_iload_n (pc := 45) (k := 3) (v := Int32.ofInt x16) (by decide +kernel) (by exact e22) ?_
  refine ev_r_jn (Q := fun K => ∀ (s32 : ev_St) (w26 : List (Nat × Value)), ev_lk w26 0 = some (.ref 621) → ev_lk w26 1 = some (.int (Int32.ofInt x15)) → ev_lk w26 3 = some (.int (Int32.ofInt x16)) → ev_lk w26 4 = some (.int (Int32.ofInt x17)) → ev_lk w26 5 = some (.int (Int32.ofInt x18)) → ev_w none (ev_Mof 305) d 79 w26 [] s32 (K  s32) ev_eI ev_rng) ?_ ?_
  · intro  s32 w26 e27 e28 e29 e30 e31
    refine ev_r_iload_n (pc := 79) (k := 1) (v := Int32.ofInt x15) (by decide +kernel) (by exact e28) ?_
    refine ev_r_if (pc := 80) (q := .ge) (o := 22) (t := 102) (c := 0 ≤ x15) (by decide +kernel) (ev_k_ge hx15 ev_rng0) (by decide +kernel) ?_ ?_
    · intro c33
      refine ev_r_aload_n (pc := 102) (k := 0) (v := .ref 621) trivial (by decide +kernel) (by exact e27) ?_
      refine ev_r_getC (pc := 103) (y := 210) (ci := 13) (f := 96) (fin := 1) (k' := 687) (by decide +kernel) (by decide +kernel) (by exact ev_ob_621) rfl rfl ?_
      refine ev_r_iload_n (pc := 106) (k := 1) (v := Int32.ofInt x15) (by decide +kernel) (by exact e28) ?_
      refine ev_r_iald (pc := 107) hx15 (by decide +kernel) (by exact ev_ab_687) ?_
      intro x34 hx34
      refine ev_r_istore_n (pc := 108) (k := 2) (by decide +kernel) (by decide +kernel) rfl ?_
      refine ev_r_aload_n (pc := 109) (k := 0) (v := .ref 621) trivial (by decide +kernel) (by exact (ev_l1 e27 (by decide) (by decide))) ?_
      refine ev_r_getC (pc := 110) (y := 216) (ci := 13) (f := 98) (fin := 1) (k' := 689) (by decide +kernel) (by decide +kernel) (by exact ev_ob_621) rfl rfl ?_
      refine ev_r_iload_n (pc := 113) (k := 1) (v := Int32.ofInt x15) (by decide +kernel) (by exact (ev_lk_st1 e28 (by decide) rfl)) ?_
      refine ev_r_iald (pc := 114) hx15 (by decide +kernel) (by exact ev_ab_689) ?_
      intro x35 hx35
      refine ev_r_istore (pc := 115) (k := 6) (by decide +kernel) (by decide +kernel) rfl ?_
      refine ev_r_aload_n (pc := 117) (k := 0) (v := .ref 621) trivial (by decide +kernel) (by exact (ev_l1 (ev_l1 e27 (by decide) (by decide)) (by decide) (by decide))) ?_
      refine ev_r_iload_n (pc := 118) (k := 1) (v := Int32.ofInt x15) (by decide +kernel) (by exact (ev_l1 (ev_lk_st1 e28 (by decide) rfl) (by decide) (by decide))) ?_
      refine ev_r_virt (pc := 119) (y := 645) (mi := 293) (na := 1) (k := 621) (as := [.int (Int32.ofInt x15)]) (rest := []) (encc := ev_oU) (Q := ev_PU) (fun x S1 h => jt_293 d (by omega) Q x15 hx15 s32 x S1 h) (by exact ev_ob_621) (by decide +kernel) (by decide +kernel) (by decide +kernel) (by decide +kernel) rfl (by (try simp only [ev_sum, ev_nv_cat]); first | done | rfl) ?_
      intro _ s36 _
      show ev_w _ _ _ _ _ [] _ _ _ _
      refine ev_r_iload_n (pc := 122) (k := 2) (v := Int32.ofInt x34) (by decide +kernel) (by exact (ev_l1 ev_lk_st1_self (by decide) (by decide))) ?_
      refine ev_r_if (pc := 123) (q := .ne) (o := 15) (t := 138) (c := x34 ≠ 0) (by decide +kernel) (ev_k_ne hx34 ev_rng0) (by decide +kernel) ?_ ?_
      · intro c37
        refine ev_r_iload_n (pc := 138) (k := 2) (v := Int32.ofInt x34) (by decide +kernel) (by exact (ev_l1 ev_lk_st1_self (by decide) (by decide))) ?_
        refine ev_r_iconst (pc := 139) (k := 1) (by decide +kernel) ?_
        refine ev_r_icmp (pc := 140) (q := .ne) (o := 11) (t := 151) (c := x34 ≠ 1) (by decide +kernel) (ev_k_ne hx34 (by decide)) (by decide +kernel) ?_ ?_
        · intro c38
          refine ev_r_iload_n (pc := 151) (k := 2) (v := Int32.ofInt x34) (by decide +kernel) (by exact (ev_l1 ev_lk_st1_self (by decide) (by decide))) ?_
          refine ev_r_iconst (pc := 152) (k := 2) (by decide +kernel) ?_
          refine ev_r_icmp (pc := 153) (q := .ne) (o := 16) (t := 169) (c := x34 ≠ 2) (by decide +kernel) (ev_k_ne hx34 (by decide)) (by decide +kernel) ?_ ?_
          · intro c39
            refine ev_r_iload_n (pc := 169) (k := 2) (v := Int32.ofInt x34) (by decide +kernel) (by exact (ev_l1 ev_lk_st1_self (by decide) (by decide))) ?_
            refine ev_r_iconst (pc := 170) (k := 3) (by decide +kernel) ?_
            refine ev_r_icmp (pc := 171) (q := .ne) (o := 11) (t := 182) (c := x34 ≠ 3) (by decide +kernel) (ev_k_ne hx34 (by decide)) (by decide +kernel) ?_ ?_
            · intro c40
              refine ev_r_iload_n (pc := 182) (k := 2) (v := Int32.ofInt x34) (by decide +kernel) (by exact (ev_l1 ev_lk_st1_self (by decide) (by decide))) ?_
              refine ev_r_iconst (pc := 183) (k := 5) (by decide +kernel) ?_
              refine ev_r_jn (Q := fun K => ∀ (s43 : ev_St) (w41 : List (Nat × Value)), ev_lk w41 0 = some (.ref 621) → ev_w none (ev_Mof 305) d 230 w41 [] s43 (K  s43) ev_eI ev_rng) ?_ ?_
              · intro  s43 w41 e42
                refine ev_r_aload_n (pc := 230) (k := 0) (v := .ref 621) trivial (by decide +kernel) (by exact e42) ?_
                refine ev_r_aload_n (pc := 231) (k := 0) (v := .ref 621) trivial (by decide +kernel) (by exact e42) ?_
                refine ev_r_getC (pc := 232) (y := 31) (ci := 13) (f := 10) (fin := 1) (k' := 629) (by decide +kernel) (by decide +kernel) (by exact ev_ob_621) rfl rfl ?_
                refine ev_r_aload_n (pc := 235) (k := 0) (v := .ref 621) trivial (by decide +kernel) (by exact e42) ?_
                refine ev_r_getI (pc := 236) (y := 597) (ci := 13) (f := 80) (fin := 0) (by decide +kernel) (by decide +kernel) (by exact ev_ob_621) rfl ?_
                intro x44 hx44
                refine ev_r_iald (pc := 239) hx44 (by decide +kernel) (by exact ev_ab_629) ?_
                intro x45 hx45
                refine ev_r_if (pc := 240) (q := .le) (o := 7) (t := 247) (c := x45 ≤ 0) (by decide +kernel) (ev_k_le hx45 ev_rng0) (by decide +kernel) ?_ ?_
                · intro c46
                  refine ev_r_iconst (pc := 247) (k := 5) (by decide +kernel) ?_
                  refine ev_r_putI (pc := 248) (y := 617) (ci := 13) (f := 78) (by decide) (by decide +kernel) (by decide +kernel) (by exact ev_ob_621) rfl rfl ?_
                  intro s47
                  refine ev_r_iconst (pc := 251) (k := -1) (by decide +kernel) ?_
                  exact ev_r_ireturn (pc := 252) (x := (-1)) (v := Int32.ofInt ((-1))) (ty := .int) (by decide) (by decide +kernel) (by decide +kernel) rfl rfl
                · intro c46
                  refine ev_r_iconst (pc := 243) (k := 4) (by decide +kernel) ?_
                  refine ev_r_goto (pc := 244) (o := 4) (t := 248) (by decide +kernel) (by decide +kernel) ?_
                  refine ev_r_putI (pc := 248) (y := 617) (ci := 13) (f := 78) (by decide) (by decide +kernel) (by decide +kernel) (by exact ev_ob_621) rfl rfl ?_
                  intro s48
                  refine ev_r_iconst (pc := 251) (k := -1) (by decide +kernel) ?_
                  exact ev_r_ireturn (pc := 252) (x := (-1)) (v := Int32.ofInt ((-1))) (ty := .int) (by decide) (by decide +kernel) (by decide +kernel) rfl rfl
              · intro K230 hK230
                refine ev_r_icmp (pc := 184) (q := .ne) (o := 46) (t := 230) (c := x34 ≠ 5) (by decide +kernel) (ev_k_ne hx34 (by decide)) (by decide +kernel) ?_ ?_
                · intro c49
                  exact hK230  s36 _ (by exact (ev_l1 (ev_l1 e27 (by decide) (by decide)) (by decide) (by decide)))
                · intro c49
                  refine ev_r_iload (pc := 187) (k := 6) (v := Int32.ofInt x35) (by decide +kernel) (by exact ev_lk_st1_self) ?_
                  refine ev_r_if (pc := 189) (q := .le) (o := 41) (t := 230) (c := x35 ≤ 0) (by decide +kernel) (ev_k_le hx35 ev_rng0) (by decide +kernel) ?_ ?_
                  · intro c50
                    exact hK230  s36 _ (by exact (ev_l1 (ev_l1 e27 (by decide) (by decide)) (by decide) (by decide)))
                  · intro c50
                    refine ev_r_iload_n (pc := 192) (k := 3) (v := Int32.ofInt x16) (by decide +kernel) (by exact (ev_l1 (ev_l1 e29 (by decide) (by decide)) (by decide) (by decide))) ?_
                    refine ev_r_if (pc := 193) (q := .ne) (o := 37) (t := 230) (c := x16 ≠ 0) (by decide +kernel) (ev_k_ne hx16 ev_rng0) (by decide +kernel) ?_ ?_
                    · intro c51
                      exact hK230  s36 _ (by exact (ev_l1 (ev_l1 e27 (by decide) (by decide)) (by decide) (by decide)))
                    · intro c51
                      refine ev_r_aload_n (pc := 196) (k := 0) (v := .ref 621) trivial (by decide +kernel) (by exact (ev_l1 (ev_l1 e27 (by decide) (by decide)) (by decide) (by decide))) ?_
                      refine ev_r_getI (pc := 197) (y := 582) (ci := 13) (f := 81) (fin := 0) (by decide +kernel) (by decide +kernel) (by exact ev_ob_621) rfl ?_
                      intro x52 hx52
                      refine ev_r_istore (pc := 200) (k := 7) (by decide +kernel) (by decide +kernel) rfl ?_
                      refine ev_r_aload_n (pc := 202) (k := 0) (v := .ref 621) trivial (by decide +kernel) (by exact (ev_l1 (ev_l1 (ev_l1 e27 (by decide) (by decide)) (by decide) (by decide)) (by decide) (by decide))) ?_
                      refine ev_r_aload_n (pc := 203) (k := 0) (v := .ref 621) trivial (by decide +kernel) (by exact (ev_l1 (ev_l1 (ev_l1 e27 (by decide) (by decide)) (by decide) (by decide)) (by decide) (by decide))) ?_
                      refine ev_r_getI (pc := 204) (y := 597) (ci := 13) (f := 80) (fin := 0) (by decide +kernel) (by decide +kernel) (by exact ev_ob_621) rfl ?_
                      intro x53 hx53
                      refine ev_r_iload (pc := 207) (k := 6) (v := Int32.ofInt x35) (by decide +kernel) (by exact (ev_lk_st1 ev_lk_st1_self (by decide) rfl)) ?_
                      refine ev_r_iconst (pc := 209) (k := 1) (by decide +kernel) ?_
                      refine ev_r_isub (pc := 210) (by decide +kernel) ?_
                      intro x54 hx54
                      refine ev_r_virt (pc := 211) (y := 630) (mi := 297) (na := 2) (k := 621) (as := [.int (Int32.ofInt x53), .int (Int32.ofInt x54)]) (rest := []) (encc := ev_oU) (Q := ev_PU) (fun x S1 h => jt_297 d (by omega) Q x53 x54 hx53 hx54 s36 x S1 h) (by exact ev_ob_621) (by decide +kernel) (by decide +kernel) (by decide +kernel) (by decide +kernel) rfl (by (try simp only [ev_sum, ev_nv_cat]); first | done | rfl) ?_
                      intro _ s55 _
                      show ev_w _ _ _ _ _ [] _ _ _ _
                      refine ev_r_aload_n (pc := 214) (k := 0) (v := .ref 621) trivial (by decide +kernel) (by exact (ev_l1 (ev_l1 (ev_l1 e27 (by decide) (by decide)) (by decide) (by decide)) (by decide) (by decide))) ?_
                      refine ev_r_getC (pc := 215) (y := 219) (ci := 13) (f := 99) (fin := 1) (k' := 690) (by decide +kernel) (by decide +kernel) (by exact ev_ob_621) rfl rfl ?_
                      refine ev_r_aload_n (pc := 218) (k := 0) (v := .ref 621) trivial (by decide +kernel) (by exact (ev_l1 (ev_l1 (ev_l1 e27 (by decide) (by decide)) (by decide) (by decide)) (by decide) (by decide))) ?_
                      refine ev_r_getI (pc := 219) (y := 579) (ci := 13) (f := 95) (fin := 0) (by decide +kernel) (by decide +kernel) (by exact ev_ob_621) rfl ?_
                      intro x56 hx56
                      refine ev_r_iconst (pc := 222) (k := 1) (by decide +kernel) ?_
                      refine ev_r_isub (pc := 223) (by decide +kernel) ?_
                      intro x57 hx57
                      refine ev_r_iload (pc := 224) (k := 7) (v := Int32.ofInt x52) (by decide +kernel) (by exact ev_lk_st1_self) ?_
                      refine ev_r_iast (pc := 226) hx52 hx57 (by decide +kernel) (by exact ev_ab_690) ?_
                      intro s58
                      refine ev_r_goto (pc := 227) (o := 24) (t := 251) (by decide +kernel) (by decide +kernel) ?_
                      refine ev_r_iconst (pc := 251) (k := -1) (by decide +kernel) ?_
                      exact ev_r_ireturn (pc := 252) (x := (-1)) (v := Int32.ofInt ((-1))) (ty := .int) (by decide) (by decide +kernel) (by decide +kernel) rfl rfl
            · intro c40
              refine ev_r_aload_n (pc := 174) (k := 0) (v := .ref 621) trivial (by decide +kernel) (by exact (ev_l1 (ev_l1 e27 (by decide) (by decide)) (by decide) (by decide))) ?_
              refine ev_r_iconst (pc := 175) (k := 5) (by decide +kernel) ?_
              refine ev_r_putI (pc := 176) (y := 617) (ci := 13) (f := 78) (by decide) (by decide +kernel) (by decide +kernel) (by exact ev_ob_621) rfl rfl ?_
              intro s59
              refine ev_r_goto (pc := 179) (o := 72) (t := 251) (by decide +kernel) (by decide +kernel) ?_
              refine ev_r_iconst (pc := 251) (k := -1) (by decide +kernel) ?_
              exact ev_r_ireturn (pc := 252) (x := (-1)) (v := Int32.ofInt ((-1))) (ty := .int) (by decide) (by decide +kernel) (by decide +kernel) rfl rfl
          · intro c39
            refine ev_r_aload_n (pc := 156) (k := 0) (v := .ref 621) trivial (by decide +kernel) (by exact (ev_l1 (ev_l1 e27 (by decide) (by decide)) (by decide) (by decide))) ?_
            refine ev_r_aload_n (pc := 157) (k := 0) (v := .ref 621) trivial (by decide +kernel) (by exact (ev_l1 (ev_l1 e27 (by decide) (by decide)) (by decide) (by decide))) ?_
            refine ev_r_getI (pc := 158) (y := 597) (ci := 13) (f := 80) (fin := 0) (by decide +kernel) (by decide +kernel) (by exact ev_ob_621) rfl ?_
            intro x60 hx60
            refine ev_r_iload (pc := 161) (k := 6) (v := Int32.ofInt x35) (by decide +kernel) (by exact ev_lk_st1_self) ?_
            refine ev_r_virt (pc := 163) (y := 639) (mi := 300) (na := 2) (k := 621) (as := [.int (Int32.ofInt x60), .int (Int32.ofInt x35)]) (rest := []) (encc := ev_oU) (Q := ev_PU) (fun x S1 h => jt_300 d (by omega) Q x60 x35 hx60 hx35 s36 x S1 h) (by exact ev_ob_621) (by decide +kernel) (by decide +kernel) (by decide +kernel) (by decide +kernel) rfl (by (try simp only [ev_sum, ev_nv_cat]); first | done | rfl) ?_
            intro _ s61 _
            show ev_w _ _ _ _ _ [] _ _ _ _
            refine ev_r_goto (pc := 166) (o := 85) (t := 251) (by decide +kernel) (by decide +kernel) ?_
            refine ev_r_iconst (pc := 251) (k := -1) (by decide +kernel) ?_
            exact ev_r_ireturn (pc := 252) (x := (-1)) (v := Int32.ofInt ((-1))) (ty := .int) (by decide) (by decide +kernel) (by decide +kernel) rfl rfl
        · intro c38
          refine ev_r_aload_n (pc := 143) (k := 0) (v := .ref 621) trivial (by decide +kernel) (by exact (ev_l1 (ev_l1 e27 (by decide) (by decide)) (by decide) (by decide))) ?_
          refine ev_r_iconst (pc := 144) (k := 4) (by decide +kernel) ?_
          refine ev_r_putI (pc := 145) (y := 617) (ci := 13) (f := 78) (by decide) (by decide +kernel) (by decide +kernel) (by exact ev_ob_621) rfl rfl ?_
          intro s62
          refine ev_r_goto (pc := 148) (o := 103) (t := 251) (by decide +kernel) (by decide +kernel) ?_
          refine ev_r_iconst (pc := 251) (k := -1) (by decide +kernel) ?_
          exact ev_r_ireturn (pc := 252) (x := (-1)) (v := Int32.ofInt ((-1))) (ty := .int) (by decide) (by decide +kernel) (by decide +kernel) rfl rfl
      · intro c37
        refine ev_r_aload_n (pc := 126) (k := 0) (v := .ref 621) trivial (by decide +kernel) (by exact (ev_l1 (ev_l1 e27 (by decide) (by decide)) (by decide) (by decide))) ?_
        refine ev_r_aload_n (pc := 127) (k := 0) (v := .ref 621) trivial (by decide +kernel) (by exact (ev_l1 (ev_l1 e27 (by decide) (by decide)) (by decide) (by decide))) ?_
        refine ev_r_getI (pc := 128) (y := 597) (ci := 13) (f := 80) (fin := 0) (by decide +kernel) (by decide +kernel) (by exact ev_ob_621) rfl ?_
        intro x63 hx63
        refine ev_r_iconst (pc := 131) (k := 1) (by decide +kernel) ?_
        refine ev_r_virt (pc := 132) (y := 648) (mi := 302) (na := 2) (k := 621) (as := [.int (Int32.ofInt x63), .int (Int32.ofInt 1)]) (rest := []) (encc := ev_oU) (Q := ev_PU) (fun x S1 h => jt_302 d (by omega) Q x63 1 hx63 (by decide) s36 x S1 h) (by exact ev_ob_621) (by decide +kernel) (by decide +kernel) (by decide +kernel) (by decide +kernel) rfl (by (try simp only [ev_sum, ev_nv_cat]); first | done | rfl) ?_
        intro _ s64 _
        show ev_w _ _ _ _ _ [] _ _ _ _
        refine ev_r_goto (pc := 135) (o := 116) (t := 251) (by decide +kernel) (by decide +kernel) ?_
        refine ev_r_iconst (pc := 251) (k := -1) (by decide +kernel) ?_
        exact ev_r_ireturn (pc := 252) (x := (-1)) (v := Int32.ofInt ((-1))) (ty := .int) (by decide) (by decide +kernel) (by decide +kernel) rfl rfl
    · intro c33
      refine ev_r_aload_n (pc := 83) (k := 0) (v := .ref 621) trivial (by decide +kernel) (by exact e27) ?_
      refine ev_r_iload (pc := 84) (k := 5) (v := Int32.ofInt x18) (by decide +kernel) (by exact e31) ?_
      refine ev_r_putI (pc := 86) (y := 642) (ci := 13) (f := 77) hx18 (by decide +kernel) (by decide +kernel) (by exact ev_ob_621) rfl rfl ?_
      intro s65
      refine ev_r_iload (pc := 89) (k := 4) (v := Int32.ofInt x17) (by decide +kernel) (by exact e30) ?_
      refine ev_r_bipush (pc := 91) (k := 6) (by decide +kernel) (by decide +kernel) ?_
      refine ev_r_icmp (pc := 93) (q := .ne) (o := 7) (t := 100) (c := x17 ≠ 6) (by decide +kernel) (ev_k_ne hx17 (by decide)) (by decide +kernel) ?_ ?_
      · intro c66
        refine ev_r_iconst (pc := 100) (k := 3) (by decide +kernel) ?_
        exact ev_r_ireturn (pc := 101) (x := 3) (v := Int32.ofInt 3) (ty := .int) (by decide) (by decide +kernel) (by decide +kernel) rfl rfl
      · intro c66
        refine ev_r_iconst (pc := 96) (k := 2) (by decide +kernel) ?_
        refine ev_r_goto (pc := 97) (o := 4) (t := 101) (by decide +kernel) (by decide +kernel) ?_
        exact ev_r_ireturn (pc := 101) (x := 2) (v := Int32.ofInt 2) (ty := .int) (by decide) (by decide +kernel) (by decide +kernel) rfl rfl
  · intro K79 hK79
    refine ev_r_if (pc := 46) (q := .eq) (o := 33) (t := 79) (c := x16 = 0) (by decide +kernel) (ev_k_eq hx16 ev_rng0) (by decide +kernel) ?_ ?_
    · intro c67
      exact hK79  s25 _ (by exact e20) (by exact e21) (by exact e22) (by exact e23) (by exact e24)
    · intro c67
      refine ev_r_iload_n (pc := 49) (k := 1) (v := Int32.ofInt x15) (by decide +kernel) (by exact e21) ?_
      refine ev_r_if (pc := 50) (q := .lt) (o := 29) (t := 79) (c := x15 < 0) (by decide +kernel) (ev_k_lt hx15 ev_rng0) (by decide +kernel) ?_ ?_
      · intro c68
        exact hK79  s25 _ (by exact e20) (by exact e21) (by exact e22) (by exact e23) (by exact e24)
      · intro c68
        refine ev_r_aload_n (pc := 53) (k := 0) (v := .ref 621) trivial (by decide +kernel) (by exact e20) ?_
        refine ev_r_getC (pc := 54) (y := 210) (ci := 13) (f := 96) (fin := 1) (k' := 687) (by decide +kernel) (by decide +kernel) (by exact ev_ob_621) rfl rfl ?_
        refine ev_r_iload_n (pc := 57) (k := 1) (v := Int32.ofInt x15) (by decide +kernel) (by exact e21) ?_
        refine ev_r_iald (pc := 58) hx15 (by decide +kernel) (by exact ev_ab_687) ?_
        intro x69 hx69
        refine ev_r_iconst (pc := 59) (k := 3) (by decide +kernel) ?_
        refine ev_r_jn (Q := fun K => ∀ (s76 : ev_St) (w70 : List (Nat × Value)), ev_lk w70 0 = some (.ref 621) → ev_lk w70 1 = some (.int (Int32.ofInt x15)) → ev_lk w70 3 = some (.int (Int32.ofInt x16)) → ev_lk w70 4 = some (.int (Int32.ofInt x17)) → ev_lk w70 5 = some (.int (Int32.ofInt x18)) → ev_w none (ev_Mof 305) d 73 w70 [] s76 (K  s76) ev_eI ev_rng) ?_ ?_
        · intro  s76 w70 e71 e72 e73 e74 e75
          refine ev_r_iinc (pc := 73) (k := 1) (c := -1) (x := x15) (by decide +kernel) (by decide +kernel) (by exact e72) (fun _ => rfl) ?_
          intro x77 hx77
          refine ev_r_goto (pc := 76) (o := (-31)) (t := 45) (by decide +kernel) (by decide +kernel) ?_
          exact hK45 x77 hx77 x16 hx16 x17 hx17 x18 hx18 s76 _ (by exact (ev_lk_st1 e71 (by decide) rfl)) (by exact ev_lk_st1_self) (by exact (ev_l1 e73 (by decide) (by decide))) (by exact (ev_l1 e74 (by decide) (by decide))) (by exact (ev_l1 e75 (by decide) (by decide)))
        · intro K73 hK73
          refine ev_r_icmp (pc := 60) (q := .lt) (o := 13) (t := 73) (c := x69 < 3) (by decide +kernel) (ev_k_lt hx69 (by decide)) (by decide +kernel) ?_ ?_
          · intro c78
            exact hK73  s25 _ (by exact e20) (by exact e21) (by exact e22) (by exact e23) (by exact e24)
          · intro c78
            refine ev_r_aload_n (pc := 63) (k := 0) (v := .ref 621) trivial (by decide +kernel) (by exact e20) ?_
            refine ev_r_getC (pc := 64) (y := 210) (ci := 13) (f := 96) (fin := 1) (k' := 687) (by decide +kernel) (by decide +kernel) (by exact ev_ob_621) rfl rfl ?_
            refine ev_r_iload_n (pc := 67) (k := 1) (v := Int32.ofInt x15) (by decide +kernel) (by exact e21) ?_
            refine ev_r_iald (pc := 68) hx15 (by decide +kernel) (by exact ev_ab_687) ?_
            intro x79 hx79
            refine ev_r_iconst (pc := 69) (k := 5) (by decide +kernel) ?_
            refine ev_r_icmp (pc := 70) (q := .le) (o := 9) (t := 79) (c := x79 ≤ 5) (by decide +kernel) (ev_k_le hx79 (by decide)) (by decide +kernel) ?_ ?_
            · intro c80
              exact hK79  s25 _ (by exact e20) (by exact e21) (by exact e22) (by exact e23) (by exact e24)
            · intro c80
              exact hK73  s25 _ (by exact e20) (by exact e21) (by exact e22) (by exact e23) (by exact e24)
theorem jlt_305_45 (d : Nat) (hd : 3 ≤ d + 1) (Q : Nat)     : ∀ q : Nat, ∀ (x15 : Int) (hx15 : ev_rng x15), ∀ (x16 : Int) (hx16 : ev_rng x16), ∀ (x17 : Int) (hx17 : ev_rng x17), ∀ (x18 : Int) (hx18 : ev_rng x18), ∀ (s25 : ev_St) (w19 : List (Nat × Value)), ev_lk w19 0 = some (.ref 621) → ev_lk w19 1 = some (.int (Int32.ofInt x15)) → ev_lk w19 3 = some (.int (Int32.ofInt x16)) → ev_lk w19 4 = some (.int (Int32.ofInt x17)) → ev_lk w19 5 = some (.int (Int32.ofInt x18)) → ev_w none (ev_Mof 305) d 45 w19 [] s25 (jl_305_45 Q   q x15 x16 x17 x18 s25) ev_eI ev_rng := by
  intro q
  induction q with
  | zero =>
    intro x15 hx15 x16 hx16 x17 hx17 x18 hx18 s25 w19 e20 e21 e22 e23 e24
    exact ev_w_none
  | succ q ih => exact jbt_305_45 d hd Q     _ ih
/-- MendBenchModel.fallsBack()I -/
def jm_305 (Q : Nat)  (S : ev_St) : Option ((Int) × ev_St) := ev_b (S.1 621 95) fun x1 => if x1 ≠ 0 then (ev_b (S.1 621 95) fun x3 => ev_ck (x3 - 1) fun x4 => ev_if ((0 : Int) ≤ x4 ∧ x4 < (ev_aln 687 : Int)) (ev_b (S.1 687 (Int.toNat x4)) fun x5 => ev_jn (fun (x6 : Int) (x7 : Int) (x8 : Int) (s13 : ev_St) => ev_if ((0 : Int) ≤ x6 ∧ x6 < (ev_aln 690 : Int)) (ev_b (s13.1 690 (Int.toNat x6)) fun x14 => jl_305_45 Q   Q x6 x8 x7 x14 s13)) fun K33 => if x5 ≤ 5 then (K33 x4 x5 0 S) else (K33 x4 x5 1 S))) else (some (0, S))
theorem jt_305 (d : Nat) (hd : 3 ≤ d) (Q : Nat)   (S : ev_St) (x : Int) (S' : ev_St) (hJ : jm_305 Q  S = some (x, S')) : ev_Ref d 305 [.ref 621] S (ev_eI x) S' (ev_rng x) := by
  obtain ⟨d, rfl⟩ : ∃ e, d = e + 1 := ⟨d - 1, by omega⟩
  refine ev_ref_of (P := ev_rng) (lv := [(0, .ref 621)]) (by decide +kernel) (by (try simp only [ev_sum, ev_nv_cat]); first | done | rfl) (by (try simp only [lv_args, ev_nv_cat]); first | done | rfl) ?_ x S' hJ
  unfold jm_305
  refine ev_r_aload_n (pc := 0) (k := 0) (v := .ref 621) trivial (by decide +kernel) (by rfl) ?_
  refine ev_r_getI (pc := 1) (y := 579) (ci := 13) (f := 95) (fin := 0) (by decide +kernel) (by decide +kernel) (by exact ev_ob_621) rfl ?_
  intro x1 hx1
  refine ev_r_if (pc := 4) (q := .ne) (o := 5) (t := 9) (c := x1 ≠ 0) (by decide +kernel) (ev_k_ne hx1 ev_rng0) (by decide +kernel) ?_ ?_
  · intro c2
    refine ev_r_aload_n (pc := 9) (k := 0) (v := .ref 621) trivial (by decide +kernel) (by rfl) ?_
    refine ev_r_getI (pc := 10) (y := 579) (ci := 13) (f := 95) (fin := 0) (by decide +kernel) (by decide +kernel) (by exact ev_ob_621) rfl ?_
    intro x3 hx3
    refine ev_r_iconst (pc := 13) (k := 1) (by decide +kernel) ?_
    refine ev_r_isub (pc := 14) (by decide +kernel) ?_
    intro x4 hx4
    refine ev_r_istore_n (pc := 15) (k := 1) (by decide +kernel) (by decide +kernel) rfl ?_
    refine ev_r_aload_n (pc := 16) (k := 0) (v := .ref 621) trivial (by decide +kernel) (by exact (ev_lk_st1 (by rfl) (by decide) rfl)) ?_
    refine ev_r_getC (pc := 17) (y := 210) (ci := 13) (f := 96) (fin := 1) (k' := 687) (by decide +kernel) (by decide +kernel) (by exact ev_ob_621) rfl rfl ?_
    refine ev_r_iload_n (pc := 20) (k := 1) (v := Int32.ofInt x4) (by decide +kernel) (by exact ev_lk_st1_self) ?_
    refine ev_r_iald (pc := 21) hx4 (by decide +kernel) (by exact ev_ab_687) ?_
    intro x5 hx5
    refine ev_r_istore_n (pc := 22) (k := 2) (by decide +kernel) (by decide +kernel) rfl ?_
    refine ev_r_iload_n (pc := 23) (k := 2) (v := Int32.ofInt x5) (by decide +kernel) (by exact ev_lk_st1_self) ?_
    refine ev_r_iconst (pc := 24) (k := 5) (by decide +kernel) ?_
    refine ev_r_jn (Q := fun K => ∀ (x6 : Int) (hx6 : ev_rng x6), ∀ (x7 : Int) (hx7 : ev_rng x7), ∀ (x8 : Int) (hx8 : ev_rng x8), ∀ (s13 : ev_St) (w9 : List (Nat × Value)), ev_lk w9 0 = some (.ref 621) → ev_lk w9 1 = some (.int (Int32.ofInt x6)) → ev_lk w9 2 = some (.int (Int32.ofInt x7)) → ev_w none (ev_Mof 305) d 33 w9 [.int (Int32.ofInt x8)] s13 (K x6 x7 x8 s13) ev_eI ev_rng) ?_ ?_
    · intro x6 hx6 x7 hx7 x8 hx8 s13 w9 e10 e11 e12
      refine ev_r_istore_n (pc := 33) (k := 3) (by decide +kernel) (by decide +kernel) rfl ?_
      refine ev_r_iload_n (pc := 34) (k := 2) (v := Int32.ofInt x7) (by decide +kernel) (by exact (ev_lk_st1 e12 (by decide) rfl)) ?_
      refine ev_r_istore (pc := 35) (k := 4) (by decide +kernel) (by decide +kernel) rfl ?_
      refine ev_r_aload_n (pc := 37) (k := 0) (v := .ref 621) trivial (by decide +kernel) (by exact (ev_l1 (ev_l1 e10 (by decide) (by decide)) (by decide) (by decide))) ?_
      refine ev_r_getC (pc := 38) (y := 219) (ci := 13) (f := 99) (fin := 1) (k' := 690) (by decide +kernel) (by decide +kernel) (by exact ev_ob_621) rfl rfl ?_
      refine ev_r_iload_n (pc := 41) (k := 1) (v := Int32.ofInt x6) (by decide +kernel) (by exact (ev_l1 (ev_l1 e11 (by decide) (by decide)) (by decide) (by decide))) ?_
      refine ev_r_iald (pc := 42) hx6 (by decide +kernel) (by exact ev_ab_690) ?_
      intro x14 hx14
      refine ev_r_istore (pc := 43) (k := 5) (by decide +kernel) (by decide +kernel) rfl ?_
      exact jlt_305_45 d hd Q     Q x6 hx6 x8 hx8 x7 hx7 x14 hx14 s13 _ (by exact (ev_l1 (ev_l1 (ev_l1 e10 (by decide) (by decide)) (by decide) (by decide)) (by decide) (by decide))) (by exact (ev_l1 (ev_l1 (ev_l1 e11 (by decide) (by decide)) (by decide) (by decide)) (by decide) (by decide))) (by exact (ev_l1 (ev_lk_st1 ev_lk_st1_self (by decide) rfl) (by decide) (by decide))) (by exact (ev_lk_st1 ev_lk_st1_self (by decide) rfl)) (by exact ev_lk_st1_self)
    · intro K33 hK33
      refine ev_r_icmp (pc := 25) (q := .le) (o := 7) (t := 32) (c := x5 ≤ 5) (by decide +kernel) (ev_k_le hx5 (by decide)) (by decide +kernel) ?_ ?_
      · intro c81
        refine ev_r_iconst (pc := 32) (k := 0) (by decide +kernel) ?_
        exact hK33 x4 hx4 x5 hx5 0 (by decide) S _ (by exact (ev_l1 (ev_lk_st1 (by rfl) (by decide) rfl) (by decide) (by decide))) (by exact (ev_lk_st1 ev_lk_st1_self (by decide) rfl)) (by exact ev_lk_st1_self)
      · intro c81
        refine ev_r_iconst (pc := 28) (k := 1) (by decide +kernel) ?_
        refine ev_r_goto (pc := 29) (o := 4) (t := 33) (by decide +kernel) (by decide +kernel) ?_
        exact hK33 x4 hx4 x5 hx5 1 (by decide) S _ (by exact (ev_l1 (ev_lk_st1 (by rfl) (by decide) rfl) (by decide) (by decide))) (by exact (ev_lk_st1 ev_lk_st1_self (by decide) rfl)) (by exact ev_lk_st1_self)
  · intro c2
    refine ev_r_iconst (pc := 7) (k := 0) (by decide +kernel) ?_
    exact ev_r_ireturn (pc := 8) (x := 0) (v := Int32.ofInt 0) (ty := .int) (by decide) (by decide +kernel) (by decide +kernel) rfl rfl
def jb_306_68 (Q : Nat)   (K68 : Int → ev_St → Option ((Int) × ev_St)) (x15 : Int) (s19 : ev_St) : Option ((Int) × ev_St) := ev_jn (fun  (s23 : ev_St) => ev_b (s23.1 621 76) fun x24 => if x24 = 0 then (some (x15, s23)) else (some ((-2), s23))) fun K322 => if x15 ≠ (-1) then (K322  s19) else (ev_b (s19.1 621 76) fun x27 => if x27 ≠ 0 then (K322  s19) else (ev_b (s19.1 621 78) fun x29 => if x29 ≠ 0 then (ev_b (s19.1 621 78) fun x31 => if x31 ≠ 1 then (ev_b (s19.1 621 78) fun x33 => if x33 ≠ 2 then (ev_b (s19.1 621 78) fun x35 => if x35 ≠ 3 then (ev_b (s19.1 621 78) fun x37 => if x37 ≠ 4 then (ev_b (s19.1 621 78) fun x39 => if x39 ≠ 5 then (ev_b (s19.1 621 78) fun x41 => if x41 ≠ 6 then (ev_b (s19.1 621 80) fun x43 => ev_if ((0 : Int) ≤ x43 ∧ x43 < (ev_aln 626 : Int)) (ev_b (s19.1 626 (Int.toNat x43)) fun x44 => ev_jn (fun (x45 : Int) (x46 : Int) (s51 : ev_St) => ev_b (ev_pI s51 621 78 x46) fun s52 => ev_jn (fun  (s56 : ev_St) => K68 x15 s56) fun K319 => if x45 = (-1) then (K319  s52) else (ev_b (s52.1 621 79) fun x58 => ev_ck (x58 + x45) fun x59 => ev_b (ev_pI s52 621 80 x59) fun s60 => ev_b (s60.1 621 80) fun x61 => ev_if ((0 : Int) ≤ x61 ∧ x61 < (ev_aln 627 : Int)) (ev_b (s60.1 627 (Int.toNat x61)) fun x62 => if x62 = (-1) then (K319  s60) else (ev_b (s60.1 621 79) fun x64 => ev_b (s60.1 621 80) fun x65 => ev_if ((0 : Int) ≤ x65 ∧ x65 < (ev_aln 627 : Int)) (ev_b (s60.1 627 (Int.toNat x65)) fun x66 => ev_ck (x64 + x66) fun x67 => ev_b (s60.1 621 83) fun x68 => ev_b (s60.1 621 84) fun x69 => ev_bd (jm_291 Q 1 x67 0 ((-1)) x68 x69 s60) fun x71 s70 => ev_b (ev_pI s70 621 83 x71) fun s72 => K319  s72))))) fun K253 => if x44 ≠ (-1) then (K253 x44 1 s19) else (K253 x44 4 s19))) else (ev_b (s19.1 621 80) fun x74 => ev_bd (jm_301 Q x74 s19) fun _ s75 => K68 x15 s75)) else (ev_bd (jm_305 Q  s19) fun x77 s76 => K68 x77 s76)) else (ev_bd (jm_304 Q  s19) fun _ s78 => K68 x15 s78)) else (ev_b (s19.1 621 79) fun x79 => ev_b (s19.1 621 80) fun x80 => ev_if ((0 : Int) ≤ x80 ∧ x80 < (ev_aln 626 : Int)) (ev_b (s19.1 626 (Int.toNat x80)) fun x81 => ev_ck (x79 + x81) fun x82 => ev_if ((0 : Int) ≤ x82 ∧ x82 < (ev_aln 627 : Int)) (ev_b (s19.1 627 (Int.toNat x82)) fun x83 => ev_jn (fun (x85 : Int) (x84 : Int) (s89 : ev_St) => ev_bd (jm_302 Q x84 x85 s89) fun _ s90 => K68 x15 s90) fun K173 => if x83 = (-1) then (K173 0 x82 s19) else (K173 1 x82 s19))))) else (ev_b (s19.1 621 80) fun x92 => ev_bd (jm_299 Q x92 s19) fun _ s93 => K68 x15 s93)) else (ev_b (s19.1 621 80) fun x94 => ev_bd (jm_303 Q x94 s19) fun _ s95 => K68 x15 s95)) else (K68 1 s19)))
def jl_306_68 (Q : Nat)   : Nat → Int → ev_St → Option ((Int) × ev_St)
  | 0 => fun _ _ => none
  | q + 1 => jb_306_68 Q   (jl_306_68 Q   q)
theorem jbt_306_68 (d : Nat) (hd : 8 ≤ d + 1) (Q : Nat)     (K68 : Int → ev_St → Option ((Int) × ev_St)) (hK68 : ∀ (x15 : Int) (hx15 : ev_rng x15), ∀ (s19 : ev_St) (w16 : List (Nat × Value)), ev_lk w16 0 = some (.ref 621) → ev_lk w16 3 = some (.int (Int32.ofInt x15)) → ev_w none (ev_Mof 306) d 68 w16 [] s19 (K68 x15 s19) ev_eI ev_rng) : ∀ (x15 : Int) (hx15 : ev_rng x15), ∀ (s19 : ev_St) (w16 : List (Nat × Value)), ev_lk w16 0 = some (.ref 621) → ev_lk w16 3 = some (.int (Int32.ofInt x15)) → ev_w none (ev_Mof 306) d 68 w16 [] s19 (jb_306_68 Q   K68 x15 s19) ev_eI ev_rng := by
  intro x15 hx15 s19 w16 e17 e18
  unfold jb_306_68
  refine ev_r_iload_n (pc := 68) (k := 3) (v := Int32.ofInt x15) (by decide +kernel) (by exact e18) ?_
  refine ev_r_iconst (pc := 69) (k := -1) (by decide +kernel) ?_
  refine ev_r_jn (Q := fun K => ∀ (s23 : ev_St) (w20 : List (Nat × Value)), ev_lk w20 0 = some (.ref 621) → ev_lk w20 3 = some (.int (Int32.ofInt x15)) → ev_w none (ev_Mof 306) d 322 w20 [] s23 (K  s23) ev_eI ev_rng) ?_ ?_
  · intro  s23 w20 e21 e22
    refine ev_r_aload_n (pc := 322) (k := 0) (v := .ref 621) trivial (by decide +kernel) (by exact e21) ?_
    refine ev_r_getI (pc := 323) (y := 573) (ci := 13) (f := 76) (fin := 0) (by decide +kernel) (by decide +kernel) (by exact ev_ob_621) rfl ?_
    intro x24 hx24
    refine ev_r_if (pc := 326) (q := .eq) (o := 8) (t := 334) (c := x24 = 0) (by decide +kernel) (ev_k_eq hx24 ev_rng0) (by decide +kernel) ?_ ?_
    · intro c25
      refine ev_r_iload_n (pc := 334) (k := 3) (v := Int32.ofInt x15) (by decide +kernel) (by exact e22) ?_
      exact ev_r_ireturn (pc := 335) (x := x15) (v := Int32.ofInt x15) (ty := .int) hx15 (by decide +kernel) (by decide +kernel) rfl rfl
    · intro c25
      refine ev_r_bipush (pc := 329) (k := -2) (by decide +kernel) (by decide +kernel) ?_
      refine ev_r_goto (pc := 331) (o := 4) (t := 335) (by decide +kernel) (by decide +kernel) ?_
      exact ev_r_ireturn (pc := 335) (x := (-2)) (v := Int32.ofInt ((-2))) (ty := .int) (by decide) (by decide +kernel) (by decide +kernel) rfl rfl
  · intro K322 hK322
    refine ev_r_icmp (pc := 70) (q := .ne) (o := 252) (t := 322) (c := x15 ≠ (-1)) (by decide +kernel) (ev_k_ne hx15 (by decide)) (by decide +kernel) ?_ ?_
    · intro c26
      exact hK322  s19 _ (by exact e17) (by exact e18)
    · intro c26
      refine ev_r_aload_n (pc := 73) (k := 0) (v := .ref 621) trivial (by decide +kernel) (by exact e17) ?_
      refine ev_r_getI (pc := 74) (y := 573) (ci := 13) (f := 76) (fin := 0) (by decide +kernel) (by decide +kernel) (by exact ev_ob_621) rfl ?_
      intro x27 hx27
      refine ev_r_if (pc := 77) (q := .ne) (o := 245) (t := 322) (c := x27 ≠ 0) (by decide +kernel) (ev_k_ne hx27 ev_rng0) (by decide +kernel) ?_ ?_
      · intro c28
        exact hK322  s19 _ (by exact e17) (by exact e18)
      · intro c28
        refine ev_r_aload_n (pc := 80) (k := 0) (v := .ref 621) trivial (by decide +kernel) (by exact e17) ?_
        refine ev_r_getI (pc := 81) (y := 617) (ci := 13) (f := 78) (fin := 0) (by decide +kernel) (by decide +kernel) (by exact ev_ob_621) rfl ?_
        intro x29 hx29
        refine ev_r_if (pc := 84) (q := .ne) (o := 8) (t := 92) (c := x29 ≠ 0) (by decide +kernel) (ev_k_ne hx29 ev_rng0) (by decide +kernel) ?_ ?_
        · intro c30
          refine ev_r_aload_n (pc := 92) (k := 0) (v := .ref 621) trivial (by decide +kernel) (by exact e17) ?_
          refine ev_r_getI (pc := 93) (y := 617) (ci := 13) (f := 78) (fin := 0) (by decide +kernel) (by decide +kernel) (by exact ev_ob_621) rfl ?_
          intro x31 hx31
          refine ev_r_iconst (pc := 96) (k := 1) (by decide +kernel) ?_
          refine ev_r_icmp (pc := 97) (q := .ne) (o := 14) (t := 111) (c := x31 ≠ 1) (by decide +kernel) (ev_k_ne hx31 (by decide)) (by decide +kernel) ?_ ?_
          · intro c32
            refine ev_r_aload_n (pc := 111) (k := 0) (v := .ref 621) trivial (by decide +kernel) (by exact e17) ?_
            refine ev_r_getI (pc := 112) (y := 617) (ci := 13) (f := 78) (fin := 0) (by decide +kernel) (by decide +kernel) (by exact ev_ob_621) rfl ?_
            intro x33 hx33
            refine ev_r_iconst (pc := 115) (k := 2) (by decide +kernel) ?_
            refine ev_r_icmp (pc := 116) (q := .ne) (o := 14) (t := 130) (c := x33 ≠ 2) (by decide +kernel) (ev_k_ne hx33 (by decide)) (by decide +kernel) ?_ ?_
            · intro c34
              refine ev_r_aload_n (pc := 130) (k := 0) (v := .ref 621) trivial (by decide +kernel) (by exact e17) ?_
              refine ev_r_getI (pc := 131) (y := 617) (ci := 13) (f := 78) (fin := 0) (by decide +kernel) (by decide +kernel) (by exact ev_ob_621) rfl ?_
              intro x35 hx35
              refine ev_r_iconst (pc := 134) (k := 3) (by decide +kernel) ?_
              refine ev_r_icmp (pc := 135) (q := .ne) (o := 44) (t := 179) (c := x35 ≠ 3) (by decide +kernel) (ev_k_ne hx35 (by decide)) (by decide +kernel) ?_ ?_
              · intro c36
                refine ev_r_aload_n (pc := 179) (k := 0) (v := .ref 621) trivial (by decide +kernel) (by exact e17) ?_
                refine ev_r_getI (pc := 180) (y := 617) (ci := 13) (f := 78) (fin := 0) (by decide +kernel) (by decide +kernel) (by exact ev_ob_621) rfl ?_
                intro x37 hx37
                refine ev_r_iconst (pc := 183) (k := 4) (by decide +kernel) ?_
                refine ev_r_icmp (pc := 184) (q := .ne) (o := 10) (t := 194) (c := x37 ≠ 4) (by decide +kernel) (ev_k_ne hx37 (by decide)) (by decide +kernel) ?_ ?_
                · intro c38
                  refine ev_r_aload_n (pc := 194) (k := 0) (v := .ref 621) trivial (by decide +kernel) (by exact e17) ?_
                  refine ev_r_getI (pc := 195) (y := 617) (ci := 13) (f := 78) (fin := 0) (by decide +kernel) (by decide +kernel) (by exact ev_ob_621) rfl ?_
                  intro x39 hx39
                  refine ev_r_iconst (pc := 198) (k := 5) (by decide +kernel) ?_
                  refine ev_r_icmp (pc := 199) (q := .ne) (o := 11) (t := 210) (c := x39 ≠ 5) (by decide +kernel) (ev_k_ne hx39 (by decide)) (by decide +kernel) ?_ ?_
                  · intro c40
                    refine ev_r_aload_n (pc := 210) (k := 0) (v := .ref 621) trivial (by decide +kernel) (by exact e17) ?_
                    refine ev_r_getI (pc := 211) (y := 617) (ci := 13) (f := 78) (fin := 0) (by decide +kernel) (by decide +kernel) (by exact ev_ob_621) rfl ?_
                    intro x41 hx41
                    refine ev_r_bipush (pc := 214) (k := 6) (by decide +kernel) (by decide +kernel) ?_
                    refine ev_r_icmp (pc := 216) (q := .ne) (o := 14) (t := 230) (c := x41 ≠ 6) (by decide +kernel) (ev_k_ne hx41 (by decide)) (by decide +kernel) ?_ ?_
                    · intro c42
                      refine ev_r_aload_n (pc := 230) (k := 0) (v := .ref 621) trivial (by decide +kernel) (by exact e17) ?_
                      refine ev_r_getC (pc := 231) (y := 22) (ci := 13) (f := 7) (fin := 1) (k' := 626) (by decide +kernel) (by decide +kernel) (by exact ev_ob_621) rfl rfl ?_
                      refine ev_r_aload_n (pc := 234) (k := 0) (v := .ref 621) trivial (by decide +kernel) (by exact e17) ?_
                      refine ev_r_getI (pc := 235) (y := 597) (ci := 13) (f := 80) (fin := 0) (by decide +kernel) (by decide +kernel) (by exact ev_ob_621) rfl ?_
                      intro x43 hx43
                      refine ev_r_iald (pc := 238) hx43 (by decide +kernel) (by exact ev_ab_626) ?_
                      intro x44 hx44
                      refine ev_r_istore (pc := 239) (k := 4) (by decide +kernel) (by decide +kernel) rfl ?_
                      refine ev_r_aload_n (pc := 241) (k := 0) (v := .ref 621) trivial (by decide +kernel) (by exact (ev_l1 e17 (by decide) (by decide))) ?_
                      refine ev_r_iload (pc := 242) (k := 4) (v := Int32.ofInt x44) (by decide +kernel) (by exact ev_lk_st1_self) ?_
                      refine ev_r_iconst (pc := 244) (k := -1) (by decide +kernel) ?_
                      refine ev_r_jn (Q := fun K => ∀ (x45 : Int) (hx45 : ev_rng x45), ∀ (x46 : Int) (hx46 : ev_rng x46), ∀ (s51 : ev_St) (w47 : List (Nat × Value)), ev_lk w47 0 = some (.ref 621) → ev_lk w47 3 = some (.int (Int32.ofInt x15)) → ev_lk w47 4 = some (.int (Int32.ofInt x45)) → ev_w none (ev_Mof 306) d 253 w47 [.int (Int32.ofInt x46), .ref 621] s51 (K x45 x46 s51) ev_eI ev_rng) ?_ ?_
                      · intro x45 hx45 x46 hx46 s51 w47 e48 e49 e50
                        refine ev_r_putI (pc := 253) (y := 617) (ci := 13) (f := 78) hx46 (by decide +kernel) (by decide +kernel) (by exact ev_ob_621) rfl rfl ?_
                        intro s52
                        refine ev_r_iload (pc := 256) (k := 4) (v := Int32.ofInt x45) (by decide +kernel) (by exact e50) ?_
                        refine ev_r_iconst (pc := 258) (k := -1) (by decide +kernel) ?_
                        refine ev_r_jn (Q := fun K => ∀ (s56 : ev_St) (w53 : List (Nat × Value)), ev_lk w53 0 = some (.ref 621) → ev_lk w53 3 = some (.int (Int32.ofInt x15)) → ev_w none (ev_Mof 306) d 319 w53 [] s56 (K  s56) ev_eI ev_rng) ?_ ?_
                        · intro  s56 w53 e54 e55
                          refine ev_r_goto (pc := 319) (o := (-251)) (t := 68) (by decide +kernel) (by decide +kernel) ?_
                          exact hK68 x15 hx15 s56 _ (by exact e54) (by exact e55)
                        · intro K319 hK319
                          refine ev_r_icmp (pc := 259) (q := .eq) (o := 60) (t := 319) (c := x45 = (-1)) (by decide +kernel) (ev_k_eq hx45 (by decide)) (by decide +kernel) ?_ ?_
                          · intro c57
                            exact hK319  s52 _ (by exact e48) (by exact e49)
                          · intro c57
                            refine ev_r_aload_n (pc := 262) (k := 0) (v := .ref 621) trivial (by decide +kernel) (by exact e48) ?_
                            refine ev_r_aload_n (pc := 263) (k := 0) (v := .ref 621) trivial (by decide +kernel) (by exact e48) ?_
                            refine ev_r_getI (pc := 264) (y := 633) (ci := 13) (f := 79) (fin := 0) (by decide +kernel) (by decide +kernel) (by exact ev_ob_621) rfl ?_
                            intro x58 hx58
                            refine ev_r_iload (pc := 267) (k := 4) (v := Int32.ofInt x45) (by decide +kernel) (by exact e50) ?_
                            refine ev_r_iadd (pc := 269) (by decide +kernel) ?_
                            intro x59 hx59
                            refine ev_r_putI (pc := 270) (y := 597) (ci := 13) (f := 80) hx59 (by decide +kernel) (by decide +kernel) (by exact ev_ob_621) rfl rfl ?_
                            intro s60
                            refine ev_r_aload_n (pc := 273) (k := 0) (v := .ref 621) trivial (by decide +kernel) (by exact e48) ?_
                            refine ev_r_getC (pc := 274) (y := 25) (ci := 13) (f := 8) (fin := 1) (k' := 627) (by decide +kernel) (by decide +kernel) (by exact ev_ob_621) rfl rfl ?_
                            refine ev_r_aload_n (pc := 277) (k := 0) (v := .ref 621) trivial (by decide +kernel) (by exact e48) ?_
                            refine ev_r_getI (pc := 278) (y := 597) (ci := 13) (f := 80) (fin := 0) (by decide +kernel) (by decide +kernel) (by exact ev_ob_621) rfl ?_
                            intro x61 hx61
                            refine ev_r_iald (pc := 281) hx61 (by decide +kernel) (by exact ev_ab_627) ?_
                            intro x62 hx62
                            refine ev_r_iconst (pc := 282) (k := -1) (by decide +kernel) ?_
                            refine ev_r_icmp (pc := 283) (q := .eq) (o := 36) (t := 319) (c := x62 = (-1)) (by decide +kernel) (ev_k_eq hx62 (by decide)) (by decide +kernel) ?_ ?_
                            · intro c63
                              exact hK319  s60 _ (by exact e48) (by exact e49)
                            · intro c63
                              refine ev_r_aload_n (pc := 286) (k := 0) (v := .ref 621) trivial (by decide +kernel) (by exact e48) ?_
                              refine ev_r_aload_n (pc := 287) (k := 0) (v := .ref 621) trivial (by decide +kernel) (by exact e48) ?_
                              refine ev_r_iconst (pc := 288) (k := 1) (by decide +kernel) ?_
                              refine ev_r_aload_n (pc := 289) (k := 0) (v := .ref 621) trivial (by decide +kernel) (by exact e48) ?_
                              refine ev_r_getI (pc := 290) (y := 633) (ci := 13) (f := 79) (fin := 0) (by decide +kernel) (by decide +kernel) (by exact ev_ob_621) rfl ?_
                              intro x64 hx64
                              refine ev_r_aload_n (pc := 293) (k := 0) (v := .ref 621) trivial (by decide +kernel) (by exact e48) ?_
                              refine ev_r_getC (pc := 294) (y := 25) (ci := 13) (f := 8) (fin := 1) (k' := 627) (by decide +kernel) (by decide +kernel) (by exact ev_ob_621) rfl rfl ?_
                              refine ev_r_aload_n (pc := 297) (k := 0) (v := .ref 621) trivial (by decide +kernel) (by exact e48) ?_
                              refine ev_r_getI (pc := 298) (y := 597) (ci := 13) (f := 80) (fin := 0) (by decide +kernel) (by decide +kernel) (by exact ev_ob_621) rfl ?_
                              intro x65 hx65
                              refine ev_r_iald (pc := 301) hx65 (by decide +kernel) (by exact ev_ab_627) ?_
                              intro x66 hx66
                              refine ev_r_iadd (pc := 302) (by decide +kernel) ?_
                              intro x67 hx67
                              refine ev_r_iconst (pc := 303) (k := 0) (by decide +kernel) ?_
                              refine ev_r_iconst (pc := 304) (k := -1) (by decide +kernel) ?_
                              refine ev_r_aload_n (pc := 305) (k := 0) (v := .ref 621) trivial (by decide +kernel) (by exact e48) ?_
                              refine ev_r_getI (pc := 306) (y := 588) (ci := 13) (f := 83) (fin := 0) (by decide +kernel) (by decide +kernel) (by exact ev_ob_621) rfl ?_
                              intro x68 hx68
                              refine ev_r_aload_n (pc := 309) (k := 0) (v := .ref 621) trivial (by decide +kernel) (by exact e48) ?_
                              refine ev_r_getI (pc := 310) (y := 591) (ci := 13) (f := 84) (fin := 0) (by decide +kernel) (by decide +kernel) (by exact ev_ob_621) rfl ?_
                              intro x69 hx69
                              refine ev_r_virt (pc := 313) (y := 613) (mi := 291) (na := 6) (k := 621) (as := [.int (Int32.ofInt 1), .int (Int32.ofInt x67), .int (Int32.ofInt 0), .int (Int32.ofInt ((-1))), .int (Int32.ofInt x68), .int (Int32.ofInt x69)]) (rest := [.ref 621]) (encc := ev_oI) (Q := ev_rng) (fun x S1 h => jt_291 d (by omega) Q 1 x67 0 ((-1)) x68 x69 (by decide) hx67 (by decide) (by decide) hx68 hx69 s60 x S1 h) (by exact ev_ob_621) (by decide +kernel) (by decide +kernel) (by decide +kernel) (by decide +kernel) rfl (by (try simp only [ev_sum, ev_nv_cat]); first | done | rfl) ?_
                              intro x71 s70 hx71
                              show ev_w _ _ _ _ _ [.int (Int32.ofInt x71), .ref 621] _ _ _ _
                              refine ev_r_putI (pc := 316) (y := 588) (ci := 13) (f := 83) hx71 (by decide +kernel) (by decide +kernel) (by exact ev_ob_621) rfl rfl ?_
                              intro s72
                              exact hK319  s72 _ (by exact e48) (by exact e49)
                      · intro K253 hK253
                        refine ev_r_icmp (pc := 245) (q := .ne) (o := 7) (t := 252) (c := x44 ≠ (-1)) (by decide +kernel) (ev_k_ne hx44 (by decide)) (by decide +kernel) ?_ ?_
                        · intro c73
                          refine ev_r_iconst (pc := 252) (k := 1) (by decide +kernel) ?_
                          exact hK253 x44 hx44 1 (by decide) s19 _ (by exact (ev_l1 e17 (by decide) (by decide))) (by exact (ev_lk_st1 e18 (by decide) rfl)) (by exact ev_lk_st1_self)
                        · intro c73
                          refine ev_r_iconst (pc := 248) (k := 4) (by decide +kernel) ?_
                          refine ev_r_goto (pc := 249) (o := 4) (t := 253) (by decide +kernel) (by decide +kernel) ?_
                          exact hK253 x44 hx44 4 (by decide) s19 _ (by exact (ev_l1 e17 (by decide) (by decide))) (by exact (ev_lk_st1 e18 (by decide) rfl)) (by exact ev_lk_st1_self)
                    · intro c42
                      refine ev_r_aload_n (pc := 219) (k := 0) (v := .ref 621) trivial (by decide +kernel) (by exact e17) ?_
                      refine ev_r_aload_n (pc := 220) (k := 0) (v := .ref 621) trivial (by decide +kernel) (by exact e17) ?_
                      refine ev_r_getI (pc := 221) (y := 597) (ci := 13) (f := 80) (fin := 0) (by decide +kernel) (by decide +kernel) (by exact ev_ob_621) rfl ?_
                      intro x74 hx74
                      refine ev_r_virt (pc := 224) (y := 663) (mi := 301) (na := 1) (k := 621) (as := [.int (Int32.ofInt x74)]) (rest := []) (encc := ev_oU) (Q := ev_PU) (fun x S1 h => jt_301 d (by omega) Q x74 hx74 s19 x S1 h) (by exact ev_ob_621) (by decide +kernel) (by decide +kernel) (by decide +kernel) (by decide +kernel) rfl (by (try simp only [ev_sum, ev_nv_cat]); first | done | rfl) ?_
                      intro _ s75 _
                      show ev_w _ _ _ _ _ [] _ _ _ _
                      refine ev_r_goto (pc := 227) (o := (-159)) (t := 68) (by decide +kernel) (by decide +kernel) ?_
                      exact hK68 x15 hx15 s75 _ (by exact e17) (by exact e18)
                  · intro c40
                    refine ev_r_aload_n (pc := 202) (k := 0) (v := .ref 621) trivial (by decide +kernel) (by exact e17) ?_
                    refine ev_r_virt (pc := 203) (y := 660) (mi := 305) (na := 0) (k := 621) (as := []) (rest := []) (encc := ev_oI) (Q := ev_rng) (fun x S1 h => jt_305 d (by omega) Q   s19 x S1 h) (by exact ev_ob_621) (by decide +kernel) (by decide +kernel) (by decide +kernel) (by decide +kernel) rfl (by (try simp only [ev_sum, ev_nv_cat]); first | done | rfl) ?_
                    intro x77 s76 hx77
                    show ev_w _ _ _ _ _ [.int (Int32.ofInt x77)] _ _ _ _
                    refine ev_r_istore_n (pc := 206) (k := 3) (by decide +kernel) (by decide +kernel) rfl ?_
                    refine ev_r_goto (pc := 207) (o := (-139)) (t := 68) (by decide +kernel) (by decide +kernel) ?_
                    exact hK68 x77 hx77 s76 _ (by exact (ev_l1 e17 (by decide) (by decide))) (by exact ev_lk_st1_self)
                · intro c38
                  refine ev_r_aload_n (pc := 187) (k := 0) (v := .ref 621) trivial (by decide +kernel) (by exact e17) ?_
                  refine ev_r_virt (pc := 188) (y := 657) (mi := 304) (na := 0) (k := 621) (as := []) (rest := []) (encc := ev_oU) (Q := ev_PU) (fun x S1 h => jt_304 d (by omega) Q   s19 x S1 h) (by exact ev_ob_621) (by decide +kernel) (by decide +kernel) (by decide +kernel) (by decide +kernel) rfl (by (try simp only [ev_sum, ev_nv_cat]); first | done | rfl) ?_
                  intro _ s78 _
                  show ev_w _ _ _ _ _ [] _ _ _ _
                  refine ev_r_goto (pc := 191) (o := (-123)) (t := 68) (by decide +kernel) (by decide +kernel) ?_
                  exact hK68 x15 hx15 s78 _ (by exact e17) (by exact e18)
              · intro c36
                refine ev_r_aload_n (pc := 138) (k := 0) (v := .ref 621) trivial (by decide +kernel) (by exact e17) ?_
                refine ev_r_getI (pc := 139) (y := 633) (ci := 13) (f := 79) (fin := 0) (by decide +kernel) (by decide +kernel) (by exact ev_ob_621) rfl ?_
                intro x79 hx79
                refine ev_r_aload_n (pc := 142) (k := 0) (v := .ref 621) trivial (by decide +kernel) (by exact e17) ?_
                refine ev_r_getC (pc := 143) (y := 22) (ci := 13) (f := 7) (fin := 1) (k' := 626) (by decide +kernel) (by decide +kernel) (by exact ev_ob_621) rfl rfl ?_
                refine ev_r_aload_n (pc := 146) (k := 0) (v := .ref 621) trivial (by decide +kernel) (by exact e17) ?_
                refine ev_r_getI (pc := 147) (y := 597) (ci := 13) (f := 80) (fin := 0) (by decide +kernel) (by decide +kernel) (by exact ev_ob_621) rfl ?_
                intro x80 hx80
                refine ev_r_iald (pc := 150) hx80 (by decide +kernel) (by exact ev_ab_626) ?_
                intro x81 hx81
                refine ev_r_iadd (pc := 151) (by decide +kernel) ?_
                intro x82 hx82
                refine ev_r_istore (pc := 152) (k := 4) (by decide +kernel) (by decide +kernel) rfl ?_
                refine ev_r_aload_n (pc := 154) (k := 0) (v := .ref 621) trivial (by decide +kernel) (by exact (ev_l1 e17 (by decide) (by decide))) ?_
                refine ev_r_iload (pc := 155) (k := 4) (v := Int32.ofInt x82) (by decide +kernel) (by exact ev_lk_st1_self) ?_
                refine ev_r_aload_n (pc := 157) (k := 0) (v := .ref 621) trivial (by decide +kernel) (by exact (ev_l1 e17 (by decide) (by decide))) ?_
                refine ev_r_getC (pc := 158) (y := 25) (ci := 13) (f := 8) (fin := 1) (k' := 627) (by decide +kernel) (by decide +kernel) (by exact ev_ob_621) rfl rfl ?_
                refine ev_r_iload (pc := 161) (k := 4) (v := Int32.ofInt x82) (by decide +kernel) (by exact ev_lk_st1_self) ?_
                refine ev_r_iald (pc := 163) hx82 (by decide +kernel) (by exact ev_ab_627) ?_
                intro x83 hx83
                refine ev_r_iconst (pc := 164) (k := -1) (by decide +kernel) ?_
                refine ev_r_jn (Q := fun K => ∀ (x85 : Int) (hx85 : ev_rng x85), ∀ (x84 : Int) (hx84 : ev_rng x84), ∀ (s89 : ev_St) (w86 : List (Nat × Value)), ev_lk w86 0 = some (.ref 621) → ev_lk w86 3 = some (.int (Int32.ofInt x15)) → ev_w none (ev_Mof 306) d 173 w86 [.int (Int32.ofInt x85), .int (Int32.ofInt x84), .ref 621] s89 (K x85 x84 s89) ev_eI ev_rng) ?_ ?_
                · intro x85 hx85 x84 hx84 s89 w86 e87 e88
                  refine ev_r_virt (pc := 173) (y := 648) (mi := 302) (na := 2) (k := 621) (as := [.int (Int32.ofInt x84), .int (Int32.ofInt x85)]) (rest := []) (encc := ev_oU) (Q := ev_PU) (fun x S1 h => jt_302 d (by omega) Q x84 x85 hx84 hx85 s89 x S1 h) (by exact ev_ob_621) (by decide +kernel) (by decide +kernel) (by decide +kernel) (by decide +kernel) rfl (by (try simp only [ev_sum, ev_nv_cat]); first | done | rfl) ?_
                  intro _ s90 _
                  show ev_w _ _ _ _ _ [] _ _ _ _
                  refine ev_r_goto (pc := 176) (o := (-108)) (t := 68) (by decide +kernel) (by decide +kernel) ?_
                  exact hK68 x15 hx15 s90 _ (by exact e87) (by exact e88)
                · intro K173 hK173
                  refine ev_r_icmp (pc := 165) (q := .eq) (o := 7) (t := 172) (c := x83 = (-1)) (by decide +kernel) (ev_k_eq hx83 (by decide)) (by decide +kernel) ?_ ?_
                  · intro c91
                    refine ev_r_iconst (pc := 172) (k := 0) (by decide +kernel) ?_
                    exact hK173 0 (by decide) x82 hx82 s19 _ (by exact (ev_l1 e17 (by decide) (by decide))) (by exact (ev_lk_st1 e18 (by decide) rfl))
                  · intro c91
                    refine ev_r_iconst (pc := 168) (k := 1) (by decide +kernel) ?_
                    refine ev_r_goto (pc := 169) (o := 4) (t := 173) (by decide +kernel) (by decide +kernel) ?_
                    exact hK173 1 (by decide) x82 hx82 s19 _ (by exact (ev_l1 e17 (by decide) (by decide))) (by exact (ev_lk_st1 e18 (by decide) rfl))
            · intro c34
              refine ev_r_aload_n (pc := 119) (k := 0) (v := .ref 621) trivial (by decide +kernel) (by exact e17) ?_
              refine ev_r_aload_n (pc := 120) (k := 0) (v := .ref 621) trivial (by decide +kernel) (by exact e17) ?_
              refine ev_r_getI (pc := 121) (y := 597) (ci := 13) (f := 80) (fin := 0) (by decide +kernel) (by decide +kernel) (by exact ev_ob_621) rfl ?_
              intro x92 hx92
              refine ev_r_virt (pc := 124) (y := 654) (mi := 299) (na := 1) (k := 621) (as := [.int (Int32.ofInt x92)]) (rest := []) (encc := ev_oU) (Q := ev_PU) (fun x S1 h => jt_299 d (by omega) Q x92 hx92 s19 x S1 h) (by exact ev_ob_621) (by decide +kernel) (by decide +kernel) (by decide +kernel) (by decide +kernel) rfl (by (try simp only [ev_sum, ev_nv_cat]); first | done | rfl) ?_
              intro _ s93 _
              show ev_w _ _ _ _ _ [] _ _ _ _
              refine ev_r_goto (pc := 127) (o := (-59)) (t := 68) (by decide +kernel) (by decide +kernel) ?_
              exact hK68 x15 hx15 s93 _ (by exact e17) (by exact e18)
          · intro c32
            refine ev_r_aload_n (pc := 100) (k := 0) (v := .ref 621) trivial (by decide +kernel) (by exact e17) ?_
            refine ev_r_aload_n (pc := 101) (k := 0) (v := .ref 621) trivial (by decide +kernel) (by exact e17) ?_
            refine ev_r_getI (pc := 102) (y := 597) (ci := 13) (f := 80) (fin := 0) (by decide +kernel) (by decide +kernel) (by exact ev_ob_621) rfl ?_
            intro x94 hx94
            refine ev_r_virt (pc := 105) (y := 651) (mi := 303) (na := 1) (k := 621) (as := [.int (Int32.ofInt x94)]) (rest := []) (encc := ev_oU) (Q := ev_PU) (fun x S1 h => jt_303 d (by omega) Q x94 hx94 s19 x S1 h) (by exact ev_ob_621) (by decide +kernel) (by decide +kernel) (by decide +kernel) (by decide +kernel) rfl (by (try simp only [ev_sum, ev_nv_cat]); first | done | rfl) ?_
            intro _ s95 _
            show ev_w _ _ _ _ _ [] _ _ _ _
            refine ev_r_goto (pc := 108) (o := (-40)) (t := 68) (by decide +kernel) (by decide +kernel) ?_
            exact hK68 x15 hx15 s95 _ (by exact e17) (by exact e18)
        · intro c30
          refine ev_r_iconst (pc := 87) (k := 1) (by decide +kernel) ?_
          refine ev_r_istore_n (pc := 88) (k := 3) (by decide +kernel) (by decide +kernel) rfl ?_
          refine ev_r_goto (pc := 89) (o := (-21)) (t := 68) (by decide +kernel) (by decide +kernel) ?_
          exact hK68 1 (by decide) s19 _ (by exact (ev_l1 e17 (by decide) (by decide))) (by exact ev_lk_st1_self)
theorem jlt_306_68 (d : Nat) (hd : 8 ≤ d + 1) (Q : Nat)     : ∀ q : Nat, ∀ (x15 : Int) (hx15 : ev_rng x15), ∀ (s19 : ev_St) (w16 : List (Nat × Value)), ev_lk w16 0 = some (.ref 621) → ev_lk w16 3 = some (.int (Int32.ofInt x15)) → ev_w none (ev_Mof 306) d 68 w16 [] s19 (jl_306_68 Q   q x15 s19) ev_eI ev_rng := by
  intro q
  induction q with
  | zero =>
    intro x15 hx15 s19 w16 e17 e18
    exact ev_w_none
  | succ q ih => exact jbt_306_68 d hd Q     _ ih
/-- MendBenchModel.tries(II)I -/
def jm_306 (Q : Nat) (a0 : Int) (a1 : Int) (S : ev_St) : Option ((Int) × ev_St) := ev_ck (320 * a0) fun x1 => ev_b (ev_pI S 621 79 x1) fun s2 => ev_b (ev_pI s2 621 88 0) fun s3 => ev_b (ev_pI s3 621 105 0) fun s4 => ev_b (ev_pI s4 621 95 0) fun s5 => ev_b (ev_pI s5 621 81 a1) fun s6 => ev_b (ev_pI s6 621 82 ((-1))) fun s7 => ev_b (ev_pI s7 621 84 0) fun s8 => ev_bd (jm_291 Q 0 0 0 ((-1)) ((-1)) 0 s8) fun x10 s9 => ev_b (ev_pI s9 621 83 x10) fun s11 => ev_b (s11.1 621 79) fun x12 => ev_b (ev_pI s11 621 80 x12) fun s13 => ev_b (ev_pI s13 621 78 3) fun s14 => jl_306_68 Q   Q ((-1)) s14
theorem jt_306 (d : Nat) (hd : 8 ≤ d) (Q : Nat) (a0 : Int) (a1 : Int) (ha0 : ev_rng a0) (ha1 : ev_rng a1) (S : ev_St) (x : Int) (S' : ev_St) (hJ : jm_306 Q a0 a1 S = some (x, S')) : ev_Ref d 306 [.ref 621, .int (Int32.ofInt a0), .int (Int32.ofInt a1)] S (ev_eI x) S' (ev_rng x) := by
  obtain ⟨d, rfl⟩ : ∃ e, d = e + 1 := ⟨d - 1, by omega⟩
  refine ev_ref_of (P := ev_rng) (lv := [(0, .ref 621), (1, .int (Int32.ofInt a0)), (2, .int (Int32.ofInt a1))]) (by decide +kernel) (by (try simp only [ev_sum, ev_nv_cat]); first | done | rfl) (by (try simp only [lv_args, ev_nv_cat]); first | done | rfl) ?_ x S' hJ
  unfold jm_306
  refine ev_r_aload_n (pc := 0) (k := 0) (v := .ref 621) trivial (by decide +kernel) (by rfl) ?_
  refine ev_r_sipush (pc := 1) (k := 320) (by decide +kernel) (by decide +kernel) ?_
  refine ev_r_iload_n (pc := 4) (k := 1) (v := Int32.ofInt a0) (by decide +kernel) (by rfl) ?_
  refine ev_r_imul (pc := 5) (by decide +kernel) ?_
  intro x1 hx1
  refine ev_r_putI (pc := 6) (y := 633) (ci := 13) (f := 79) hx1 (by decide +kernel) (by decide +kernel) (by exact ev_ob_621) rfl rfl ?_
  intro s2
  refine ev_r_aload_n (pc := 9) (k := 0) (v := .ref 621) trivial (by decide +kernel) (by rfl) ?_
  refine ev_r_iconst (pc := 10) (k := 0) (by decide +kernel) ?_
  refine ev_r_putI (pc := 11) (y := 576) (ci := 13) (f := 88) (by decide) (by decide +kernel) (by decide +kernel) (by exact ev_ob_621) rfl rfl ?_
  intro s3
  refine ev_r_aload_n (pc := 14) (k := 0) (v := .ref 621) trivial (by decide +kernel) (by rfl) ?_
  refine ev_r_iconst (pc := 15) (k := 0) (by decide +kernel) ?_
  refine ev_r_putI (pc := 16) (y := 594) (ci := 13) (f := 105) (by decide) (by decide +kernel) (by decide +kernel) (by exact ev_ob_621) rfl rfl ?_
  intro s4
  refine ev_r_aload_n (pc := 19) (k := 0) (v := .ref 621) trivial (by decide +kernel) (by rfl) ?_
  refine ev_r_iconst (pc := 20) (k := 0) (by decide +kernel) ?_
  refine ev_r_putI (pc := 21) (y := 579) (ci := 13) (f := 95) (by decide) (by decide +kernel) (by decide +kernel) (by exact ev_ob_621) rfl rfl ?_
  intro s5
  refine ev_r_aload_n (pc := 24) (k := 0) (v := .ref 621) trivial (by decide +kernel) (by rfl) ?_
  refine ev_r_iload_n (pc := 25) (k := 2) (v := Int32.ofInt a1) (by decide +kernel) (by rfl) ?_
  refine ev_r_putI (pc := 26) (y := 582) (ci := 13) (f := 81) ha1 (by decide +kernel) (by decide +kernel) (by exact ev_ob_621) rfl rfl ?_
  intro s6
  refine ev_r_aload_n (pc := 29) (k := 0) (v := .ref 621) trivial (by decide +kernel) (by rfl) ?_
  refine ev_r_iconst (pc := 30) (k := -1) (by decide +kernel) ?_
  refine ev_r_putI (pc := 31) (y := 585) (ci := 13) (f := 82) (by decide) (by decide +kernel) (by decide +kernel) (by exact ev_ob_621) rfl rfl ?_
  intro s7
  refine ev_r_aload_n (pc := 34) (k := 0) (v := .ref 621) trivial (by decide +kernel) (by rfl) ?_
  refine ev_r_iconst (pc := 35) (k := 0) (by decide +kernel) ?_
  refine ev_r_putI (pc := 36) (y := 591) (ci := 13) (f := 84) (by decide) (by decide +kernel) (by decide +kernel) (by exact ev_ob_621) rfl rfl ?_
  intro s8
  refine ev_r_aload_n (pc := 39) (k := 0) (v := .ref 621) trivial (by decide +kernel) (by rfl) ?_
  refine ev_r_aload_n (pc := 40) (k := 0) (v := .ref 621) trivial (by decide +kernel) (by rfl) ?_
  refine ev_r_iconst (pc := 41) (k := 0) (by decide +kernel) ?_
  refine ev_r_iconst (pc := 42) (k := 0) (by decide +kernel) ?_
  refine ev_r_iconst (pc := 43) (k := 0) (by decide +kernel) ?_
  refine ev_r_iconst (pc := 44) (k := -1) (by decide +kernel) ?_
  refine ev_r_iconst (pc := 45) (k := -1) (by decide +kernel) ?_
  refine ev_r_iconst (pc := 46) (k := 0) (by decide +kernel) ?_
  refine ev_r_virt (pc := 47) (y := 613) (mi := 291) (na := 6) (k := 621) (as := [.int (Int32.ofInt 0), .int (Int32.ofInt 0), .int (Int32.ofInt 0), .int (Int32.ofInt ((-1))), .int (Int32.ofInt ((-1))), .int (Int32.ofInt 0)]) (rest := [.ref 621]) (encc := ev_oI) (Q := ev_rng) (fun x S1 h => jt_291 d (by omega) Q 0 0 0 ((-1)) ((-1)) 0 (by decide) (by decide) (by decide) (by decide) (by decide) (by decide) s8 x S1 h) (by exact ev_ob_621) (by decide +kernel) (by decide +kernel) (by decide +kernel) (by decide +kernel) rfl (by (try simp only [ev_sum, ev_nv_cat]); first | done | rfl) ?_
  intro x10 s9 hx10
  show ev_w _ _ _ _ _ [.int (Int32.ofInt x10), .ref 621] _ _ _ _
  refine ev_r_putI (pc := 50) (y := 588) (ci := 13) (f := 83) hx10 (by decide +kernel) (by decide +kernel) (by exact ev_ob_621) rfl rfl ?_
  intro s11
  refine ev_r_aload_n (pc := 53) (k := 0) (v := .ref 621) trivial (by decide +kernel) (by rfl) ?_
  refine ev_r_aload_n (pc := 54) (k := 0) (v := .ref 621) trivial (by decide +kernel) (by rfl) ?_
  refine ev_r_getI (pc := 55) (y := 633) (ci := 13) (f := 79) (fin := 0) (by decide +kernel) (by decide +kernel) (by exact ev_ob_621) rfl ?_
  intro x12 hx12
  refine ev_r_putI (pc := 58) (y := 597) (ci := 13) (f := 80) hx12 (by decide +kernel) (by decide +kernel) (by exact ev_ob_621) rfl rfl ?_
  intro s13
  refine ev_r_aload_n (pc := 61) (k := 0) (v := .ref 621) trivial (by decide +kernel) (by rfl) ?_
  refine ev_r_iconst (pc := 62) (k := 3) (by decide +kernel) ?_
  refine ev_r_putI (pc := 63) (y := 617) (ci := 13) (f := 78) (by decide) (by decide +kernel) (by decide +kernel) (by exact ev_ob_621) rfl rfl ?_
  intro s14
  refine ev_r_iconst (pc := 66) (k := -1) (by decide +kernel) ?_
  refine ev_r_istore_n (pc := 67) (k := 3) (by decide +kernel) (by decide +kernel) rfl ?_
  exact jlt_306_68 d hd Q     Q ((-1)) (by decide) s14 _ (by exact (ev_l1 (by rfl) (by decide) (by decide))) (by exact ev_lk_st1_self)
def jb_307_19 (Q : Nat)   (K19 : Int → ev_St → Option ((Unit) × ev_St)) (x4 : Int) (s8 : ev_St) : Option ((Unit) × ev_St) := if 10 ≤ x4 then (some ((), s8)) else (ev_bd (jm_294 Q x4 s8) fun x11 s10 => ev_jn (fun (x12 : Int) (x15 : Int) (x14 : Int) (r13 : Nat) (s20 : ev_St) => ev_if ((0 : Int) ≤ x14 ∧ x14 < (ev_aln r13 : Int)) (ev_b (ev_pI s20 r13 (Int.toNat x14) x15) fun s21 => ev_jn (fun (x24 : Int) (x23 : Int) (r22 : Nat) (s28 : ev_St) => ev_if ((0 : Int) ≤ x23 ∧ x23 < (ev_aln r22 : Int)) (ev_b (ev_pI s28 r22 (Int.toNat x23) x24) fun s29 => ev_ck (x4 + 1) fun x30 => K19 x30 s29)) fun K72 => if x12 ≠ (-1) then (ev_if ((0 : Int) ≤ x12 ∧ x12 < (ev_aln 698 : Int)) (ev_b (s21.1 698 (Int.toNat x12)) fun x32 => K72 x32 x4 680 s21)) else (K72 ((-1)) x4 680 s21))) fun K51 => if x11 ≠ (-1) then (ev_if ((0 : Int) ≤ x11 ∧ x11 < (ev_aln 697 : Int)) (ev_b (s10.1 697 (Int.toNat x11)) fun x34 => K51 x11 x34 x4 679 s10)) else (K51 x11 ((-1)) x4 679 s10))
def jl_307_19 (Q : Nat)   : Nat → Int → ev_St → Option ((Unit) × ev_St)
  | 0 => fun _ _ => none
  | q + 1 => jb_307_19 Q   (jl_307_19 Q   q)
theorem jbt_307_19 (d : Nat) (hd : 2 ≤ d + 1) (Q : Nat)     (K19 : Int → ev_St → Option ((Unit) × ev_St)) (hK19 : ∀ (x4 : Int) (hx4 : ev_rng x4), ∀ (s8 : ev_St) (w5 : List (Nat × Value)), ev_lk w5 0 = some (.ref 621) → ev_lk w5 2 = some (.int (Int32.ofInt x4)) → ev_w none (ev_Mof 307) d 19 w5 [] s8 (K19 x4 s8) ev_eU ev_PU) : ∀ (x4 : Int) (hx4 : ev_rng x4), ∀ (s8 : ev_St) (w5 : List (Nat × Value)), ev_lk w5 0 = some (.ref 621) → ev_lk w5 2 = some (.int (Int32.ofInt x4)) → ev_w none (ev_Mof 307) d 19 w5 [] s8 (jb_307_19 Q   K19 x4 s8) ev_eU ev_PU := by
  intro x4 hx4 s8 w5 e6 e7
  unfold jb_307_19
  refine ev_r_iload_n (pc := 19) (k := 2) (v := Int32.ofInt x4) (by decide +kernel) (by exact e7) ?_
  refine ev_r_bipush (pc := 20) (k := 10) (by decide +kernel) (by decide +kernel) ?_
  refine ev_r_icmp (pc := 22) (q := .ge) (o := 57) (t := 79) (c := 10 ≤ x4) (by decide +kernel) (ev_k_ge hx4 (by decide)) (by decide +kernel) ?_ ?_
  · intro c9
    exact ev_r_return (pc := 79) (x := ()) trivial (by decide +kernel) (by decide +kernel) rfl
  · intro c9
    refine ev_r_aload_n (pc := 25) (k := 0) (v := .ref 621) trivial (by decide +kernel) (by exact e6) ?_
    refine ev_r_iload_n (pc := 26) (k := 2) (v := Int32.ofInt x4) (by decide +kernel) (by exact e7) ?_
    refine ev_r_virt (pc := 27) (y := 603) (mi := 294) (na := 1) (k := 621) (as := [.int (Int32.ofInt x4)]) (rest := []) (encc := ev_oI) (Q := ev_rng) (fun x S1 h => jt_294 d (by omega) Q x4 hx4 s8 x S1 h) (by exact ev_ob_621) (by decide +kernel) (by decide +kernel) (by decide +kernel) (by decide +kernel) rfl (by (try simp only [ev_sum, ev_nv_cat]); first | done | rfl) ?_
    intro x11 s10 hx11
    show ev_w _ _ _ _ _ [.int (Int32.ofInt x11)] _ _ _ _
    refine ev_r_istore_n (pc := 30) (k := 3) (by decide +kernel) (by decide +kernel) rfl ?_
    refine ev_r_aload_n (pc := 31) (k := 0) (v := .ref 621) trivial (by decide +kernel) (by exact (ev_l1 e6 (by decide) (by decide))) ?_
    refine ev_r_getC (pc := 32) (y := 184) (ci := 13) (f := 86) (fin := 1) (k' := 679) (by decide +kernel) (by decide +kernel) (by exact ev_ob_621) rfl rfl ?_
    refine ev_r_iload_n (pc := 35) (k := 2) (v := Int32.ofInt x4) (by decide +kernel) (by exact (ev_lk_st1 e7 (by decide) rfl)) ?_
    refine ev_r_iload_n (pc := 36) (k := 3) (v := Int32.ofInt x11) (by decide +kernel) (by exact ev_lk_st1_self) ?_
    refine ev_r_iconst (pc := 37) (k := -1) (by decide +kernel) ?_
    refine ev_r_jn (Q := fun K => ∀ (x12 : Int) (hx12 : ev_rng x12), ∀ (x15 : Int) (hx15 : ev_rng x15), ∀ (x14 : Int) (hx14 : ev_rng x14), ∀ (r13 : Nat) (hr13 : ev_isAb r13 1 .int = true), ∀ (s20 : ev_St) (w16 : List (Nat × Value)), ev_lk w16 0 = some (.ref 621) → ev_lk w16 2 = some (.int (Int32.ofInt x4)) → ev_lk w16 3 = some (.int (Int32.ofInt x12)) → ev_w none (ev_Mof 307) d 51 w16 [.int (Int32.ofInt x15), .int (Int32.ofInt x14), .ref r13] s20 (K x12 x15 x14 r13 s20) ev_eU ev_PU) ?_ ?_
    · intro x12 hx12 x15 hx15 x14 hx14 r13 hr13 s20 w16 e17 e18 e19
      refine ev_r_iast (pc := 51) hx15 hx14 (by decide +kernel) (by exact hr13) ?_
      intro s21
      refine ev_r_aload_n (pc := 52) (k := 0) (v := .ref 621) trivial (by decide +kernel) (by exact e17) ?_
      refine ev_r_getC (pc := 53) (y := 187) (ci := 13) (f := 87) (fin := 1) (k' := 680) (by decide +kernel) (by decide +kernel) (by exact ev_ob_621) rfl rfl ?_
      refine ev_r_iload_n (pc := 56) (k := 2) (v := Int32.ofInt x4) (by decide +kernel) (by exact e18) ?_
      refine ev_r_iload_n (pc := 57) (k := 3) (v := Int32.ofInt x12) (by decide +kernel) (by exact e19) ?_
      refine ev_r_iconst (pc := 58) (k := -1) (by decide +kernel) ?_
      refine ev_r_jn (Q := fun K => ∀ (x24 : Int) (hx24 : ev_rng x24), ∀ (x23 : Int) (hx23 : ev_rng x23), ∀ (r22 : Nat) (hr22 : ev_isAb r22 1 .int = true), ∀ (s28 : ev_St) (w25 : List (Nat × Value)), ev_lk w25 0 = some (.ref 621) → ev_lk w25 2 = some (.int (Int32.ofInt x4)) → ev_w none (ev_Mof 307) d 72 w25 [.int (Int32.ofInt x24), .int (Int32.ofInt x23), .ref r22] s28 (K x24 x23 r22 s28) ev_eU ev_PU) ?_ ?_
      · intro x24 hx24 x23 hx23 r22 hr22 s28 w25 e26 e27
        refine ev_r_iast (pc := 72) hx24 hx23 (by decide +kernel) (by exact hr22) ?_
        intro s29
        refine ev_r_iinc (pc := 73) (k := 2) (c := 1) (x := x4) (by decide +kernel) (by decide +kernel) (by exact e27) (fun _ => rfl) ?_
        intro x30 hx30
        refine ev_r_goto (pc := 76) (o := (-57)) (t := 19) (by decide +kernel) (by decide +kernel) ?_
        exact hK19 x30 hx30 s29 _ (by exact (ev_l1 e26 (by decide) (by decide))) (by exact ev_lk_st1_self)
      · intro K72 hK72
        refine ev_r_icmp (pc := 59) (q := .ne) (o := 7) (t := 66) (c := x12 ≠ (-1)) (by decide +kernel) (ev_k_ne hx12 (by decide)) (by decide +kernel) ?_ ?_
        · intro c31
          refine ev_r_aload_n (pc := 66) (k := 0) (v := .ref 621) trivial (by decide +kernel) (by exact e17) ?_
          refine ev_r_getC (pc := 67) (y := 243) (ci := 13) (f := 108) (fin := 1) (k' := 698) (by decide +kernel) (by decide +kernel) (by exact ev_ob_621) rfl rfl ?_
          refine ev_r_iload_n (pc := 70) (k := 3) (v := Int32.ofInt x12) (by decide +kernel) (by exact e19) ?_
          refine ev_r_iald (pc := 71) hx12 (by decide +kernel) (by exact ev_ab_698) ?_
          intro x32 hx32
          exact hK72 x32 hx32 x4 hx4 680 ev_ab_680 s21 _ (by exact e17) (by exact e18)
        · intro c31
          refine ev_r_iconst (pc := 62) (k := -1) (by decide +kernel) ?_
          refine ev_r_goto (pc := 63) (o := 9) (t := 72) (by decide +kernel) (by decide +kernel) ?_
          exact hK72 ((-1)) (by decide) x4 hx4 680 ev_ab_680 s21 _ (by exact e17) (by exact e18)
    · intro K51 hK51
      refine ev_r_icmp (pc := 38) (q := .ne) (o := 7) (t := 45) (c := x11 ≠ (-1)) (by decide +kernel) (ev_k_ne hx11 (by decide)) (by decide +kernel) ?_ ?_
      · intro c33
        refine ev_r_aload_n (pc := 45) (k := 0) (v := .ref 621) trivial (by decide +kernel) (by exact (ev_l1 e6 (by decide) (by decide))) ?_
        refine ev_r_getC (pc := 46) (y := 240) (ci := 13) (f := 107) (fin := 1) (k' := 697) (by decide +kernel) (by decide +kernel) (by exact ev_ob_621) rfl rfl ?_
        refine ev_r_iload_n (pc := 49) (k := 3) (v := Int32.ofInt x11) (by decide +kernel) (by exact ev_lk_st1_self) ?_
        refine ev_r_iald (pc := 50) hx11 (by decide +kernel) (by exact ev_ab_697) ?_
        intro x34 hx34
        exact hK51 x11 hx11 x34 hx34 x4 hx4 679 ev_ab_679 s10 _ (by exact (ev_l1 e6 (by decide) (by decide))) (by exact (ev_lk_st1 e7 (by decide) rfl)) (by exact ev_lk_st1_self)
      · intro c33
        refine ev_r_iconst (pc := 41) (k := -1) (by decide +kernel) ?_
        refine ev_r_goto (pc := 42) (o := 9) (t := 51) (by decide +kernel) (by decide +kernel) ?_
        exact hK51 x11 hx11 ((-1)) (by decide) x4 hx4 679 ev_ab_679 s10 _ (by exact (ev_l1 e6 (by decide) (by decide))) (by exact (ev_lk_st1 e7 (by decide) rfl)) (by exact ev_lk_st1_self)
theorem jlt_307_19 (d : Nat) (hd : 2 ≤ d + 1) (Q : Nat)     : ∀ q : Nat, ∀ (x4 : Int) (hx4 : ev_rng x4), ∀ (s8 : ev_St) (w5 : List (Nat × Value)), ev_lk w5 0 = some (.ref 621) → ev_lk w5 2 = some (.int (Int32.ofInt x4)) → ev_w none (ev_Mof 307) d 19 w5 [] s8 (jl_307_19 Q   q x4 s8) ev_eU ev_PU := by
  intro q
  induction q with
  | zero =>
    intro x4 hx4 s8 w5 e6 e7
    exact ev_w_none
  | succ q ih => exact jbt_307_19 d hd Q     _ ih
/-- MendBenchModel.keepsGroups(I)V -/
def jm_307 (Q : Nat) (a0 : Int) (S : ev_St) : Option ((Unit) × ev_St) := ev_if ((0 : Int) ≤ 0 ∧ 0 < (ev_aln 679 : Int)) (ev_b (ev_pI S 679 (Int.toNat 0) a0) fun s1 => ev_b (s1.1 621 81) fun x2 => ev_if ((0 : Int) ≤ 0 ∧ 0 < (ev_aln 680 : Int)) (ev_b (ev_pI s1 680 (Int.toNat 0) x2) fun s3 => jl_307_19 Q   Q 1 s3))
theorem jt_307 (d : Nat) (hd : 2 ≤ d) (Q : Nat) (a0 : Int) (ha0 : ev_rng a0) (S : ev_St) (x : Unit) (S' : ev_St) (hJ : jm_307 Q a0 S = some (x, S')) : ev_Ref d 307 [.ref 621, .int (Int32.ofInt a0)] S (ev_eU x) S' (ev_PU x) := by
  obtain ⟨d, rfl⟩ : ∃ e, d = e + 1 := ⟨d - 1, by omega⟩
  refine ev_ref_of (P := ev_PU) (lv := [(0, .ref 621), (1, .int (Int32.ofInt a0))]) (by decide +kernel) (by (try simp only [ev_sum, ev_nv_cat]); first | done | rfl) (by (try simp only [lv_args, ev_nv_cat]); first | done | rfl) ?_ x S' hJ
  unfold jm_307
  refine ev_r_aload_n (pc := 0) (k := 0) (v := .ref 621) trivial (by decide +kernel) (by rfl) ?_
  refine ev_r_getC (pc := 1) (y := 184) (ci := 13) (f := 86) (fin := 1) (k' := 679) (by decide +kernel) (by decide +kernel) (by exact ev_ob_621) rfl rfl ?_
  refine ev_r_iconst (pc := 4) (k := 0) (by decide +kernel) ?_
  refine ev_r_iload_n (pc := 5) (k := 1) (v := Int32.ofInt a0) (by decide +kernel) (by rfl) ?_
  refine ev_r_iast (pc := 6) ha0 (by decide) (by decide +kernel) (by exact ev_ab_679) ?_
  intro s1
  refine ev_r_aload_n (pc := 7) (k := 0) (v := .ref 621) trivial (by decide +kernel) (by rfl) ?_
  refine ev_r_getC (pc := 8) (y := 187) (ci := 13) (f := 87) (fin := 1) (k' := 680) (by decide +kernel) (by decide +kernel) (by exact ev_ob_621) rfl rfl ?_
  refine ev_r_iconst (pc := 11) (k := 0) (by decide +kernel) ?_
  refine ev_r_aload_n (pc := 12) (k := 0) (v := .ref 621) trivial (by decide +kernel) (by rfl) ?_
  refine ev_r_getI (pc := 13) (y := 582) (ci := 13) (f := 81) (fin := 0) (by decide +kernel) (by decide +kernel) (by exact ev_ob_621) rfl ?_
  intro x2 hx2
  refine ev_r_iast (pc := 16) hx2 (by decide) (by decide +kernel) (by exact ev_ab_680) ?_
  intro s3
  refine ev_r_iconst (pc := 17) (k := 1) (by decide +kernel) ?_
  refine ev_r_istore_n (pc := 18) (k := 2) (by decide +kernel) (by decide +kernel) rfl ?_
  exact jlt_307_19 d hd Q     Q 1 (by decide) s3 _ (by exact (ev_l1 (by rfl) (by decide) (by decide))) (by exact ev_lk_st1_self)
def jb_308_13 (Q : Nat) (a0 : Int) (a2 : Int)  (K13 : Int → ev_St → Option ((Int) × ev_St)) (x3 : Int) (s9 : ev_St) : Option ((Int) × ev_St) := ev_b (s9.1 621 73) fun x10 => ev_bd (jm_222 Q x3 0 x10 s9) fun x12 s11 => if x12 = 0 then (some (0, s11)) else (ev_bd (jm_306 Q a0 x3 s11) fun x15 s14 => if x15 ≠ 1 then (ev_jn (fun  (s19 : ev_St) => if x15 ≠ 2 then (some ((-2), s19)) else (some (0, s19))) fun K62 => if x15 = (-2) then (K62  s14) else (if x15 ≠ 2 then (ev_jn (fun (x23 : Int) (s28 : ev_St) => K13 x23 s28) fun K112 => if a2 = 0 then (ev_jn (fun  (s35 : ev_St) => ev_ck (x3 + 1) fun x36 => K112 x36 s35) fun K108 => if x15 ≠ 3 then (K108  s14) else (ev_b (s14.1 621 77) fun x38 => if x38 ≤ x3 then (K108  s14) else (ev_b (s14.1 621 77) fun x40 => K112 x40 s14))) else (ev_ck (x3 - 1) fun x41 => K112 x41 s14)) else (K62  s14))) else (ev_bd (jm_307 Q x3 s14) fun _ s42 => some (1, s42)))
def jl_308_13 (Q : Nat) (a0 : Int) (a2 : Int)  : Nat → Int → ev_St → Option ((Int) × ev_St)
  | 0 => fun _ _ => none
  | q + 1 => jb_308_13 Q a0 a2  (jl_308_13 Q a0 a2  q)
theorem jbt_308_13 (d : Nat) (hd : 9 ≤ d + 1) (Q : Nat) (a0 : Int) (a2 : Int) (ha0 : ev_rng a0) (ha2 : ev_rng a2)   (K13 : Int → ev_St → Option ((Int) × ev_St)) (hK13 : ∀ (x3 : Int) (hx3 : ev_rng x3), ∀ (s9 : ev_St) (w4 : List (Nat × Value)), ev_lk w4 0 = some (.ref 621) → ev_lk w4 1 = some (.int (Int32.ofInt a0)) → ev_lk w4 3 = some (.int (Int32.ofInt a2)) → ev_lk w4 4 = some (.int (Int32.ofInt x3)) → ev_w none (ev_Mof 308) d 13 w4 [] s9 (K13 x3 s9) ev_eI ev_rng) : ∀ (x3 : Int) (hx3 : ev_rng x3), ∀ (s9 : ev_St) (w4 : List (Nat × Value)), ev_lk w4 0 = some (.ref 621) → ev_lk w4 1 = some (.int (Int32.ofInt a0)) → ev_lk w4 3 = some (.int (Int32.ofInt a2)) → ev_lk w4 4 = some (.int (Int32.ofInt x3)) → ev_w none (ev_Mof 308) d 13 w4 [] s9 (jb_308_13 Q a0 a2  K13 x3 s9) ev_eI ev_rng := by
  intro x3 hx3 s9 w4 e5 e6 e7 e8
  unfold jb_308_13
  refine ev_r_iload (pc := 13) (k := 4) (v := Int32.ofInt x3) (by decide +kernel) (by exact e8) ?_
  refine ev_r_iconst (pc := 15) (k := 0) (by decide +kernel) ?_
  refine ev_r_aload_n (pc := 16) (k := 0) (v := .ref 621) trivial (by decide +kernel) (by exact e5) ?_
  refine ev_r_getI (pc := 17) (y := 567) (ci := 13) (f := 73) (fin := 0) (by decide +kernel) (by decide +kernel) (by exact ev_ob_621) rfl ?_
  intro x10 hx10
  refine ev_r_stat (pc := 20) (y := 325) (kind := 2) (mi := 222) (na := 3) (as := [.int (Int32.ofInt x3), .int (Int32.ofInt 0), .int (Int32.ofInt x10)]) (rest := []) (encc := ev_oI) (Q := ev_bl) (fun x S1 h => jt_222 d (by omega) Q x3 0 x10 hx3 (by decide) hx10 s9 x S1 h) (Or.inl rfl) (by decide +kernel) (by decide +kernel) (by decide +kernel) (by decide +kernel) rfl (by (try simp only [ev_sum, ev_nv_cat]); first | done | rfl) ?_
  intro x12 s11 hx12
  replace hx12 := ev_bl_rng hx12
  show ev_w _ _ _ _ _ [.int (Int32.ofInt x12)] _ _ _ _
  refine ev_r_if (pc := 23) (q := .eq) (o := 94) (t := 117) (c := x12 = 0) (by decide +kernel) (ev_k_eq hx12 ev_rng0) (by decide +kernel) ?_ ?_
  · intro c13
    refine ev_r_iconst (pc := 117) (k := 0) (by decide +kernel) ?_
    exact ev_r_ireturn (pc := 118) (x := 0) (v := Int32.ofInt 0) (ty := .int) (by decide) (by decide +kernel) (by decide +kernel) rfl rfl
  · intro c13
    refine ev_r_aload_n (pc := 26) (k := 0) (v := .ref 621) trivial (by decide +kernel) (by exact e5) ?_
    refine ev_r_iload_n (pc := 27) (k := 1) (v := Int32.ofInt a0) (by decide +kernel) (by exact e6) ?_
    refine ev_r_iload (pc := 28) (k := 4) (v := Int32.ofInt x3) (by decide +kernel) (by exact e8) ?_
    refine ev_r_virt (pc := 30) (y := 666) (mi := 306) (na := 2) (k := 621) (as := [.int (Int32.ofInt a0), .int (Int32.ofInt x3)]) (rest := []) (encc := ev_oI) (Q := ev_rng) (fun x S1 h => jt_306 d (by omega) Q a0 x3 ha0 hx3 s11 x S1 h) (by exact ev_ob_621) (by decide +kernel) (by decide +kernel) (by decide +kernel) (by decide +kernel) rfl (by (try simp only [ev_sum, ev_nv_cat]); first | done | rfl) ?_
    intro x15 s14 hx15
    show ev_w _ _ _ _ _ [.int (Int32.ofInt x15)] _ _ _ _
    refine ev_r_istore (pc := 33) (k := 5) (by decide +kernel) (by decide +kernel) rfl ?_
    refine ev_r_iload (pc := 35) (k := 5) (v := Int32.ofInt x15) (by decide +kernel) (by exact ev_lk_st1_self) ?_
    refine ev_r_iconst (pc := 37) (k := 1) (by decide +kernel) ?_
    refine ev_r_icmp (pc := 38) (q := .ne) (o := 11) (t := 49) (c := x15 ≠ 1) (by decide +kernel) (ev_k_ne hx15 (by decide)) (by decide +kernel) ?_ ?_
    · intro c16
      refine ev_r_iload (pc := 49) (k := 5) (v := Int32.ofInt x15) (by decide +kernel) (by exact ev_lk_st1_self) ?_
      refine ev_r_bipush (pc := 51) (k := -2) (by decide +kernel) (by decide +kernel) ?_
      refine ev_r_jn (Q := fun K => ∀ (s19 : ev_St) (w17 : List (Nat × Value)), ev_lk w17 5 = some (.int (Int32.ofInt x15)) → ev_w none (ev_Mof 308) d 62 w17 [] s19 (K  s19) ev_eI ev_rng) ?_ ?_
      · intro  s19 w17 e18
        refine ev_r_iload (pc := 62) (k := 5) (v := Int32.ofInt x15) (by decide +kernel) (by exact e18) ?_
        refine ev_r_iconst (pc := 64) (k := 2) (by decide +kernel) ?_
        refine ev_r_icmp (pc := 65) (q := .ne) (o := 7) (t := 72) (c := x15 ≠ 2) (by decide +kernel) (ev_k_ne hx15 (by decide)) (by decide +kernel) ?_ ?_
        · intro c20
          refine ev_r_bipush (pc := 72) (k := -2) (by decide +kernel) (by decide +kernel) ?_
          exact ev_r_ireturn (pc := 74) (x := (-2)) (v := Int32.ofInt ((-2))) (ty := .int) (by decide) (by decide +kernel) (by decide +kernel) rfl rfl
        · intro c20
          refine ev_r_iconst (pc := 68) (k := 0) (by decide +kernel) ?_
          refine ev_r_goto (pc := 69) (o := 5) (t := 74) (by decide +kernel) (by decide +kernel) ?_
          exact ev_r_ireturn (pc := 74) (x := 0) (v := Int32.ofInt 0) (ty := .int) (by decide) (by decide +kernel) (by decide +kernel) rfl rfl
      · intro K62 hK62
        refine ev_r_icmp (pc := 53) (q := .eq) (o := 9) (t := 62) (c := x15 = (-2)) (by decide +kernel) (ev_k_eq hx15 (by decide)) (by decide +kernel) ?_ ?_
        · intro c21
          exact hK62  s14 _ (by exact ev_lk_st1_self)
        · intro c21
          refine ev_r_iload (pc := 56) (k := 5) (v := Int32.ofInt x15) (by decide +kernel) (by exact ev_lk_st1_self) ?_
          refine ev_r_iconst (pc := 58) (k := 2) (by decide +kernel) ?_
          refine ev_r_icmp (pc := 59) (q := .ne) (o := 16) (t := 75) (c := x15 ≠ 2) (by decide +kernel) (ev_k_ne hx15 (by decide)) (by decide +kernel) ?_ ?_
          · intro c22
            refine ev_r_iload_n (pc := 75) (k := 3) (v := Int32.ofInt a2) (by decide +kernel) (by exact (ev_l1 e7 (by decide) (by decide))) ?_
            refine ev_r_jn (Q := fun K => ∀ (x23 : Int) (hx23 : ev_rng x23), ∀ (s28 : ev_St) (w24 : List (Nat × Value)), ev_lk w24 0 = some (.ref 621) → ev_lk w24 1 = some (.int (Int32.ofInt a0)) → ev_lk w24 3 = some (.int (Int32.ofInt a2)) → ev_w none (ev_Mof 308) d 112 w24 [.int (Int32.ofInt x23)] s28 (K x23 s28) ev_eI ev_rng) ?_ ?_
            · intro x23 hx23 s28 w24 e25 e26 e27
              refine ev_r_istore (pc := 112) (k := 4) (by decide +kernel) (by decide +kernel) rfl ?_
              refine ev_r_goto (pc := 114) (o := (-101)) (t := 13) (by decide +kernel) (by decide +kernel) ?_
              exact hK13 x23 hx23 s28 _ (by exact (ev_l1 e25 (by decide) (by decide))) (by exact (ev_l1 e26 (by decide) (by decide))) (by exact (ev_lk_st1 e27 (by decide) rfl)) (by exact ev_lk_st1_self)
            · intro K112 hK112
              refine ev_r_if (pc := 76) (q := .eq) (o := 10) (t := 86) (c := a2 = 0) (by decide +kernel) (ev_k_eq ha2 ev_rng0) (by decide +kernel) ?_ ?_
              · intro c29
                refine ev_r_iload (pc := 86) (k := 5) (v := Int32.ofInt x15) (by decide +kernel) (by exact ev_lk_st1_self) ?_
                refine ev_r_iconst (pc := 88) (k := 3) (by decide +kernel) ?_
                refine ev_r_jn (Q := fun K => ∀ (s35 : ev_St) (w30 : List (Nat × Value)), ev_lk w30 0 = some (.ref 621) → ev_lk w30 1 = some (.int (Int32.ofInt a0)) → ev_lk w30 3 = some (.int (Int32.ofInt a2)) → ev_lk w30 4 = some (.int (Int32.ofInt x3)) → ev_w none (ev_Mof 308) d 108 w30 [] s35 (K  s35) ev_eI ev_rng) ?_ ?_
                · intro  s35 w30 e31 e32 e33 e34
                  refine ev_r_iload (pc := 108) (k := 4) (v := Int32.ofInt x3) (by decide +kernel) (by exact e34) ?_
                  refine ev_r_iconst (pc := 110) (k := 1) (by decide +kernel) ?_
                  refine ev_r_iadd (pc := 111) (by decide +kernel) ?_
                  intro x36 hx36
                  exact hK112 x36 hx36 s35 _ (by exact e31) (by exact e32) (by exact e33)
                · intro K108 hK108
                  refine ev_r_icmp (pc := 89) (q := .ne) (o := 19) (t := 108) (c := x15 ≠ 3) (by decide +kernel) (ev_k_ne hx15 (by decide)) (by decide +kernel) ?_ ?_
                  · intro c37
                    exact hK108  s14 _ (by exact (ev_l1 e5 (by decide) (by decide))) (by exact (ev_l1 e6 (by decide) (by decide))) (by exact (ev_l1 e7 (by decide) (by decide))) (by exact (ev_lk_st1 e8 (by decide) rfl))
                  · intro c37
                    refine ev_r_aload_n (pc := 92) (k := 0) (v := .ref 621) trivial (by decide +kernel) (by exact (ev_l1 e5 (by decide) (by decide))) ?_
                    refine ev_r_getI (pc := 93) (y := 642) (ci := 13) (f := 77) (fin := 0) (by decide +kernel) (by decide +kernel) (by exact ev_ob_621) rfl ?_
                    intro x38 hx38
                    refine ev_r_iload (pc := 96) (k := 4) (v := Int32.ofInt x3) (by decide +kernel) (by exact (ev_lk_st1 e8 (by decide) rfl)) ?_
                    refine ev_r_icmp (pc := 98) (q := .le) (o := 10) (t := 108) (c := x38 ≤ x3) (by decide +kernel) (ev_k_le hx38 hx3) (by decide +kernel) ?_ ?_
                    · intro c39
                      exact hK108  s14 _ (by exact (ev_l1 e5 (by decide) (by decide))) (by exact (ev_l1 e6 (by decide) (by decide))) (by exact (ev_l1 e7 (by decide) (by decide))) (by exact (ev_lk_st1 e8 (by decide) rfl))
                    · intro c39
                      refine ev_r_aload_n (pc := 101) (k := 0) (v := .ref 621) trivial (by decide +kernel) (by exact (ev_l1 e5 (by decide) (by decide))) ?_
                      refine ev_r_getI (pc := 102) (y := 642) (ci := 13) (f := 77) (fin := 0) (by decide +kernel) (by decide +kernel) (by exact ev_ob_621) rfl ?_
                      intro x40 hx40
                      refine ev_r_goto (pc := 105) (o := 7) (t := 112) (by decide +kernel) (by decide +kernel) ?_
                      exact hK112 x40 hx40 s14 _ (by exact (ev_l1 e5 (by decide) (by decide))) (by exact (ev_l1 e6 (by decide) (by decide))) (by exact (ev_l1 e7 (by decide) (by decide)))
              · intro c29
                refine ev_r_iload (pc := 79) (k := 4) (v := Int32.ofInt x3) (by decide +kernel) (by exact (ev_lk_st1 e8 (by decide) rfl)) ?_
                refine ev_r_iconst (pc := 81) (k := 1) (by decide +kernel) ?_
                refine ev_r_isub (pc := 82) (by decide +kernel) ?_
                intro x41 hx41
                refine ev_r_goto (pc := 83) (o := 29) (t := 112) (by decide +kernel) (by decide +kernel) ?_
                exact hK112 x41 hx41 s14 _ (by exact (ev_l1 e5 (by decide) (by decide))) (by exact (ev_l1 e6 (by decide) (by decide))) (by exact (ev_l1 e7 (by decide) (by decide)))
          · intro c22
            exact hK62  s14 _ (by exact ev_lk_st1_self)
    · intro c16
      refine ev_r_aload_n (pc := 41) (k := 0) (v := .ref 621) trivial (by decide +kernel) (by exact (ev_l1 e5 (by decide) (by decide))) ?_
      refine ev_r_iload (pc := 42) (k := 4) (v := Int32.ofInt x3) (by decide +kernel) (by exact (ev_lk_st1 e8 (by decide) rfl)) ?_
      refine ev_r_virt (pc := 44) (y := 670) (mi := 307) (na := 1) (k := 621) (as := [.int (Int32.ofInt x3)]) (rest := []) (encc := ev_oU) (Q := ev_PU) (fun x S1 h => jt_307 d (by omega) Q x3 hx3 s14 x S1 h) (by exact ev_ob_621) (by decide +kernel) (by decide +kernel) (by decide +kernel) (by decide +kernel) rfl (by (try simp only [ev_sum, ev_nv_cat]); first | done | rfl) ?_
      intro _ s42 _
      show ev_w _ _ _ _ _ [] _ _ _ _
      refine ev_r_iconst (pc := 47) (k := 1) (by decide +kernel) ?_
      exact ev_r_ireturn (pc := 48) (x := 1) (v := Int32.ofInt 1) (ty := .int) (by decide) (by decide +kernel) (by decide +kernel) rfl rfl
theorem jlt_308_13 (d : Nat) (hd : 9 ≤ d + 1) (Q : Nat) (a0 : Int) (a2 : Int) (ha0 : ev_rng a0) (ha2 : ev_rng a2)   : ∀ q : Nat, ∀ (x3 : Int) (hx3 : ev_rng x3), ∀ (s9 : ev_St) (w4 : List (Nat × Value)), ev_lk w4 0 = some (.ref 621) → ev_lk w4 1 = some (.int (Int32.ofInt a0)) → ev_lk w4 3 = some (.int (Int32.ofInt a2)) → ev_lk w4 4 = some (.int (Int32.ofInt x3)) → ev_w none (ev_Mof 308) d 13 w4 [] s9 (jl_308_13 Q a0 a2  q x3 s9) ev_eI ev_rng := by
  intro q
  induction q with
  | zero =>
    intro x3 hx3 s9 w4 e5 e6 e7 e8
    exact ev_w_none
  | succ q ih => exact jbt_308_13 d hd Q a0 a2 ha0 ha2   _ ih
/-- MendBenchModel.searches(IIZ)I -/
def jm_308 (Q : Nat) (a0 : Int) (a1 : Int) (a2 : Int) (S : ev_St) : Option ((Int) × ev_St) := ev_b (ev_pI S 621 75 0) fun s1 => ev_b (ev_pI s1 621 76 0) fun s2 => jl_308_13 Q a0 a2  Q a1 s2
theorem jt_308 (d : Nat) (hd : 9 ≤ d) (Q : Nat) (a0 : Int) (a1 : Int) (a2 : Int) (ha0 : ev_rng a0) (ha1 : ev_rng a1) (ha2 : ev_rng a2) (S : ev_St) (x : Int) (S' : ev_St) (hJ : jm_308 Q a0 a1 a2 S = some (x, S')) : ev_Ref d 308 [.ref 621, .int (Int32.ofInt a0), .int (Int32.ofInt a1), .int (Int32.ofInt a2)] S (ev_eI x) S' (ev_rng x) := by
  obtain ⟨d, rfl⟩ : ∃ e, d = e + 1 := ⟨d - 1, by omega⟩
  refine ev_ref_of (P := ev_rng) (lv := [(0, .ref 621), (1, .int (Int32.ofInt a0)), (2, .int (Int32.ofInt a1)), (3, .int (Int32.ofInt a2))]) (by decide +kernel) (by (try simp only [ev_sum, ev_nv_cat]); first | done | rfl) (by (try simp only [lv_args, ev_nv_cat]); first | done | rfl) ?_ x S' hJ
  unfold jm_308
  refine ev_r_aload_n (pc := 0) (k := 0) (v := .ref 621) trivial (by decide +kernel) (by rfl) ?_
  refine ev_r_iconst (pc := 1) (k := 0) (by decide +kernel) ?_
  refine ev_r_putI (pc := 2) (y := 570) (ci := 13) (f := 75) (by decide) (by decide +kernel) (by decide +kernel) (by exact ev_ob_621) rfl rfl ?_
  intro s1
  refine ev_r_aload_n (pc := 5) (k := 0) (v := .ref 621) trivial (by decide +kernel) (by rfl) ?_
  refine ev_r_iconst (pc := 6) (k := 0) (by decide +kernel) ?_
  refine ev_r_putI (pc := 7) (y := 573) (ci := 13) (f := 76) (by decide) (by decide +kernel) (by decide +kernel) (by exact ev_ob_621) rfl (ev_fit_bl (by decide : ev_bl 0)) ?_
  intro s2
  refine ev_r_iload_n (pc := 10) (k := 2) (v := Int32.ofInt a1) (by decide +kernel) (by rfl) ?_
  refine ev_r_istore (pc := 11) (k := 4) (by decide +kernel) (by decide +kernel) rfl ?_
  exact jlt_308_13 d hd Q a0 a2 ha0 ha2   Q a1 ha1 s2 _ (by exact (ev_l1 (by rfl) (by decide) (by decide))) (by exact (ev_l1 (by rfl) (by decide) (by decide))) (by exact (ev_lk_st1 (by rfl) (by decide) rfl)) (by exact ev_lk_st1_self)
def jb_314_47 (Q : Nat) (a1 : Int) (x4 : Int)  (K47 : Int → ev_St → Option ((Int) × ev_St)) (x14 : Int) (s20 : ev_St) : Option ((Int) × ev_St) := if x14 ≤ 0 then (some (0, s20)) else (ev_ck (x14 + (-1)) fun x22 => ev_if ((0 : Int) ≤ x22 ∧ x22 < (ev_aln 670 : Int)) (ev_b (s20.1 670 (Int.toNat x22)) fun x23 => ev_if ((0 : Int) ≤ x22 ∧ x22 < (ev_aln 671 : Int)) (ev_b (s20.1 671 (Int.toNat x22)) fun x24 => ev_jn (fun (x25 : Int) (s31 : ev_St) => K47 x25 s31) fun K381 => if 0 ≤ x23 then (ev_ck (81 * x23) fun x33 => ev_ck (x33 + x24) fun x34 => ev_if ((0 : Int) ≤ x34 ∧ x34 < (ev_aln 669 : Int)) (ev_b (s20.1 669 (Int.toNat x34)) fun x35 => if x35 ≠ 0 then (K381 x22 s20) else (ev_ck (81 * x23) fun x37 => ev_ck (x37 + x24) fun x38 => ev_if ((0 : Int) ≤ x38 ∧ x38 < (ev_aln 669 : Int)) (ev_b (ev_pI s20 669 (Int.toNat x38) 1) fun s39 => ev_ck (x4 + x23) fun x40 => ev_if ((0 : Int) ≤ x40 ∧ x40 < (ev_aln 662 : Int)) (ev_b (s39.1 662 (Int.toNat x40)) fun x41 => ev_ck (x4 + x23) fun x42 => ev_if ((0 : Int) ≤ x42 ∧ x42 < (ev_aln 663 : Int)) (ev_b (s39.1 663 (Int.toNat x42)) fun x43 => if x41 ≠ 5 then (ev_jn (fun (x45 : Int) (s55 : ev_St) => ev_b (ev_pI s55 621 81 x24) fun s56 => ev_jn (fun (x57 : Int) (s67 : ev_St) => ev_jn (fun (x68 : Int) (x69 : Int) (s80 : ev_St) => ev_jn (fun  (s91 : ev_St) => ev_jn (fun (x94 : Int) (x93 : Int) (r92 : Nat) (s102 : ev_St) => ev_if ((0 : Int) ≤ x93 ∧ x93 < (ev_aln r92 : Int)) (ev_b (ev_pI s102 r92 (Int.toNat x93) x94) fun s103 => ev_jn (fun (x106 : Int) (x105 : Int) (r104 : Nat) (s112 : ev_St) => ev_if ((0 : Int) ≤ x105 ∧ x105 < (ev_aln r104 : Int)) (ev_b (ev_pI s112 r104 (Int.toNat x105) x106) fun s113 => ev_ck (x68 + 1) fun x114 => K381 x114 s113)) fun K377 => if x41 ≠ 0 then (K377 x24 x68 671 s103) else (ev_ck (x24 + 1) fun x116 => K377 x116 x68 671 s103))) fun K356 => if x69 = 0 then (K356 x43 x68 670 s91) else (ev_ck (x23 + 1) fun x118 => K356 x118 x68 670 s91)) fun K336 => if x69 ≠ 0 then (K336  s80) else (if x41 = 2 then (K336  s80) else (if x41 ≠ 3 then (K381 x68 s80) else (K336  s80)))) fun K319 => if x41 ≠ 2 then (K319 x45 x57 s67) else (ev_ck (x4 + x23) fun x123 => ev_if ((0 : Int) ≤ x123 ∧ x123 < (ev_aln 664 : Int)) (ev_b (s67.1 664 (Int.toNat x123)) fun x124 => ev_if ((0 : Int) ≤ x45 ∧ x45 < (ev_aln 670 : Int)) (ev_b (ev_pI s67 670 (Int.toNat x45) x124) fun s125 => ev_if ((0 : Int) ≤ x45 ∧ x45 < (ev_aln 671 : Int)) (ev_b (ev_pI s125 671 (Int.toNat x45) x24) fun s126 => ev_ck (x45 + 1) fun x127 => K319 x127 x57 s126))))) fun K283 => ev_jn (fun  (s137 : ev_St) => K283 1 s137) fun K278 => if x41 = 4 then (K278  s56) else (ev_jn (fun  (s148 : ev_St) => ev_jn (fun  (s158 : ev_St) => K283 0 s158) fun K282 => if x41 ≠ 1 then (K282  s148) else (ev_bd (jm_295 Q x43 s148) fun x161 s160 => if x161 = 0 then (K282  s160) else (K278  s160))) fun K263 => if x41 ≠ 0 then (K263  s56) else (ev_b (s56.1 621 73) fun x164 => if x164 ≤ x24 then (K263  s56) else (ev_if ((0 : Int) ≤ x43 ∧ x43 < (ev_aln 633 : Int)) (ev_b (s56.2.1 633 (Int.toNat x43)) fun y166 => ev_if ((0 : Int) ≤ x43 ∧ x43 < (ev_aln 634 : Int)) (ev_b (s56.2.1 634 (Int.toNat x43)) fun y167 => ev_if ((0 : Int) ≤ x24 ∧ x24 < (ev_aln 678 : Int)) (ev_b (s56.1 678 (Int.toNat x24)) fun x168 => ev_bd (jm_244 Q y166 y167 x168 s56) fun x170 s169 => if x170 ≠ 0 then (K278  s169) else (K263  s169)))))))) fun K210 => if x41 ≠ 4 then (K210 x22 s39) else (ev_ck ((-1) - x43) fun x173 => ev_if ((0 : Int) ≤ x22 ∧ x22 < (ev_aln 670 : Int)) (ev_b (ev_pI s39 670 (Int.toNat x22) x173) fun s174 => ev_if ((0 : Int) ≤ x43 ∧ x43 < (ev_aln 672 : Int)) (ev_b (s174.1 672 (Int.toNat x43)) fun x175 => ev_if ((0 : Int) ≤ x22 ∧ x22 < (ev_aln 671 : Int)) (ev_b (ev_pI s174 671 (Int.toNat x22) x175) fun s176 => ev_ck (x22 + 1) fun x177 => ev_if ((0 : Int) ≤ x43 ∧ x43 < (ev_aln 672 : Int)) (ev_b (ev_pI s176 672 (Int.toNat x43) x24) fun s178 => K210 x177 s178)))))) else (ev_if ((0 : Int) ≤ 0 ∧ 0 < (ev_aln 679 : Int)) (ev_b (ev_pI s39 679 (Int.toNat 0) a1) fun s179 => ev_if ((0 : Int) ≤ 0 ∧ 0 < (ev_aln 680 : Int)) (ev_b (ev_pI s179 680 (Int.toNat 0) x24) fun s180 => some (1, s180)))))))))) else (ev_ck ((-1) - x23) fun x181 => ev_if ((0 : Int) ≤ x181 ∧ x181 < (ev_aln 672 : Int)) (ev_b (ev_pI s20 672 (Int.toNat x181) x24) fun s182 => K381 x22 s182)))))
def jl_314_47 (Q : Nat) (a1 : Int) (x4 : Int)  : Nat → Int → ev_St → Option ((Int) × ev_St)
  | 0 => fun _ _ => none
  | q + 1 => jb_314_47 Q a1 x4  (jl_314_47 Q a1 x4  q)
theorem jbt_314_47 (d : Nat) (hd : 7 ≤ d + 1) (Q : Nat) (a1 : Int) (x4 : Int) (ha1 : ev_rng a1) (hx4 : ev_rng x4)   (K47 : Int → ev_St → Option ((Int) × ev_St)) (hK47 : ∀ (x14 : Int) (hx14 : ev_rng x14), ∀ (s20 : ev_St) (w15 : List (Nat × Value)), ev_lk w15 0 = some (.ref 621) → ev_lk w15 2 = some (.int (Int32.ofInt a1)) → ev_lk w15 3 = some (.int (Int32.ofInt x4)) → ev_lk w15 4 = some (.int (Int32.ofInt x14)) → ev_w none (ev_Mof 314) d 47 w15 [] s20 (K47 x14 s20) ev_eI ev_bl) : ∀ (x14 : Int) (hx14 : ev_rng x14), ∀ (s20 : ev_St) (w15 : List (Nat × Value)), ev_lk w15 0 = some (.ref 621) → ev_lk w15 2 = some (.int (Int32.ofInt a1)) → ev_lk w15 3 = some (.int (Int32.ofInt x4)) → ev_lk w15 4 = some (.int (Int32.ofInt x14)) → ev_w none (ev_Mof 314) d 47 w15 [] s20 (jb_314_47 Q a1 x4  K47 x14 s20) ev_eI ev_bl := by
  intro x14 hx14 s20 w15 e16 e17 e18 e19
  unfold jb_314_47
  refine ev_r_iload (pc := 47) (k := 4) (v := Int32.ofInt x14) (by decide +kernel) (by exact e19) ?_
  refine ev_r_if (pc := 49) (q := .le) (o := 335) (t := 384) (c := x14 ≤ 0) (by decide +kernel) (ev_k_le hx14 ev_rng0) (by decide +kernel) ?_ ?_
  · intro c21
    refine ev_r_iconst (pc := 384) (k := 0) (by decide +kernel) ?_
    exact ev_r_ireturn (pc := 385) (x := 0) (v := Int32.ofInt 0) (ty := .boolean) (by decide : ev_bl 0) (by decide +kernel) (by decide +kernel) (ev_ret_bl (by decide : ev_bl 0)) rfl
  · intro c21
    refine ev_r_iinc (pc := 52) (k := 4) (c := -1) (x := x14) (by decide +kernel) (by decide +kernel) (by exact e19) (fun _ => rfl) ?_
    intro x22 hx22
    refine ev_r_aload_n (pc := 55) (k := 0) (v := .ref 621) trivial (by decide +kernel) (by exact (ev_l1 e16 (by decide) (by decide))) ?_
    refine ev_r_getC (pc := 56) (y := 157) (ci := 13) (f := 64) (fin := 1) (k' := 670) (by decide +kernel) (by decide +kernel) (by exact ev_ob_621) rfl rfl ?_
    refine ev_r_iload (pc := 59) (k := 4) (v := Int32.ofInt x22) (by decide +kernel) (by exact ev_lk_st1_self) ?_
    refine ev_r_iald (pc := 61) hx22 (by decide +kernel) (by exact ev_ab_670) ?_
    intro x23 hx23
    refine ev_r_istore (pc := 62) (k := 5) (by decide +kernel) (by decide +kernel) rfl ?_
    refine ev_r_aload_n (pc := 64) (k := 0) (v := .ref 621) trivial (by decide +kernel) (by exact (ev_l1 (ev_l1 e16 (by decide) (by decide)) (by decide) (by decide))) ?_
    refine ev_r_getC (pc := 65) (y := 160) (ci := 13) (f := 65) (fin := 1) (k' := 671) (by decide +kernel) (by decide +kernel) (by exact ev_ob_621) rfl rfl ?_
    refine ev_r_iload (pc := 68) (k := 4) (v := Int32.ofInt x22) (by decide +kernel) (by exact (ev_lk_st1 ev_lk_st1_self (by decide) rfl)) ?_
    refine ev_r_iald (pc := 70) hx22 (by decide +kernel) (by exact ev_ab_671) ?_
    intro x24 hx24
    refine ev_r_istore (pc := 71) (k := 6) (by decide +kernel) (by decide +kernel) rfl ?_
    refine ev_r_iload (pc := 73) (k := 5) (v := Int32.ofInt x23) (by decide +kernel) (by exact (ev_lk_st1 ev_lk_st1_self (by decide) rfl)) ?_
    refine ev_r_jn (Q := fun K => ∀ (x25 : Int) (hx25 : ev_rng x25), ∀ (s31 : ev_St) (w26 : List (Nat × Value)), ev_lk w26 0 = some (.ref 621) → ev_lk w26 2 = some (.int (Int32.ofInt a1)) → ev_lk w26 3 = some (.int (Int32.ofInt x4)) → ev_lk w26 4 = some (.int (Int32.ofInt x25)) → ev_w none (ev_Mof 314) d 381 w26 [] s31 (K x25 s31) ev_eI ev_bl) ?_ ?_
    · intro x25 hx25 s31 w26 e27 e28 e29 e30
      refine ev_r_goto (pc := 381) (o := (-334)) (t := 47) (by decide +kernel) (by decide +kernel) ?_
      exact hK47 x25 hx25 s31 _ (by exact e27) (by exact e28) (by exact e29) (by exact e30)
    · intro K381 hK381
      refine ev_r_if (pc := 75) (q := .ge) (o := 17) (t := 92) (c := 0 ≤ x23) (by decide +kernel) (ev_k_ge hx23 ev_rng0) (by decide +kernel) ?_ ?_
      · intro c32
        refine ev_r_aload_n (pc := 92) (k := 0) (v := .ref 621) trivial (by decide +kernel) (by exact (ev_l1 (ev_l1 (ev_l1 e16 (by decide) (by decide)) (by decide) (by decide)) (by decide) (by decide))) ?_
        refine ev_r_getC (pc := 93) (y := 153) (ci := 13) (f := 63) (fin := 1) (k' := 669) (by decide +kernel) (by decide +kernel) (by exact ev_ob_621) rfl rfl ?_
        refine ev_r_bipush (pc := 96) (k := 81) (by decide +kernel) (by decide +kernel) ?_
        refine ev_r_iload (pc := 98) (k := 5) (v := Int32.ofInt x23) (by decide +kernel) (by exact (ev_lk_st1 ev_lk_st1_self (by decide) rfl)) ?_
        refine ev_r_imul (pc := 100) (by decide +kernel) ?_
        intro x33 hx33
        refine ev_r_iload (pc := 101) (k := 6) (v := Int32.ofInt x24) (by decide +kernel) (by exact ev_lk_st1_self) ?_
        refine ev_r_iadd (pc := 103) (by decide +kernel) ?_
        intro x34 hx34
        refine ev_r_bald (pc := 104) (ty := .boolean) (Or.inr rfl) hx34 (by decide +kernel) (by exact ev_ab_669) ?_
        intro x35 hx35
        refine ev_r_if (pc := 105) (q := .ne) (o := 276) (t := 381) (c := x35 ≠ 0) (by decide +kernel) (ev_k_ne hx35 ev_rng0) (by decide +kernel) ?_ ?_
        · intro c36
          exact hK381 x22 hx22 s20 _ (by exact (ev_l1 (ev_l1 (ev_l1 e16 (by decide) (by decide)) (by decide) (by decide)) (by decide) (by decide))) (by exact (ev_l1 (ev_l1 (ev_l1 e17 (by decide) (by decide)) (by decide) (by decide)) (by decide) (by decide))) (by exact (ev_l1 (ev_l1 (ev_lk_st1 e18 (by decide) rfl) (by decide) (by decide)) (by decide) (by decide))) (by exact (ev_l1 (ev_lk_st1 ev_lk_st1_self (by decide) rfl) (by decide) (by decide)))
        · intro c36
          refine ev_r_aload_n (pc := 108) (k := 0) (v := .ref 621) trivial (by decide +kernel) (by exact (ev_l1 (ev_l1 (ev_l1 e16 (by decide) (by decide)) (by decide) (by decide)) (by decide) (by decide))) ?_
          refine ev_r_getC (pc := 109) (y := 153) (ci := 13) (f := 63) (fin := 1) (k' := 669) (by decide +kernel) (by decide +kernel) (by exact ev_ob_621) rfl rfl ?_
          refine ev_r_bipush (pc := 112) (k := 81) (by decide +kernel) (by decide +kernel) ?_
          refine ev_r_iload (pc := 114) (k := 5) (v := Int32.ofInt x23) (by decide +kernel) (by exact (ev_lk_st1 ev_lk_st1_self (by decide) rfl)) ?_
          refine ev_r_imul (pc := 116) (by decide +kernel) ?_
          intro x37 hx37
          refine ev_r_iload (pc := 117) (k := 6) (v := Int32.ofInt x24) (by decide +kernel) (by exact ev_lk_st1_self) ?_
          refine ev_r_iadd (pc := 119) (by decide +kernel) ?_
          intro x38 hx38
          refine ev_r_iconst (pc := 120) (k := 1) (by decide +kernel) ?_
          refine ev_r_bast (pc := 121) (ty := .boolean) (Or.inr rfl) (ev_nar_bl (by decide : ev_bl 1)) (by decide) hx38 (by decide +kernel) (by exact ev_ab_669) ?_
          intro s39
          refine ev_r_aload_n (pc := 122) (k := 0) (v := .ref 621) trivial (by decide +kernel) (by exact (ev_l1 (ev_l1 (ev_l1 e16 (by decide) (by decide)) (by decide) (by decide)) (by decide) (by decide))) ?_
          refine ev_r_getC (pc := 123) (y := 132) (ci := 13) (f := 55) (fin := 1) (k' := 662) (by decide +kernel) (by decide +kernel) (by exact ev_ob_621) rfl rfl ?_
          refine ev_r_iload_n (pc := 126) (k := 3) (v := Int32.ofInt x4) (by decide +kernel) (by exact (ev_l1 (ev_l1 (ev_lk_st1 e18 (by decide) rfl) (by decide) (by decide)) (by decide) (by decide))) ?_
          refine ev_r_iload (pc := 127) (k := 5) (v := Int32.ofInt x23) (by decide +kernel) (by exact (ev_lk_st1 ev_lk_st1_self (by decide) rfl)) ?_
          refine ev_r_iadd (pc := 129) (by decide +kernel) ?_
          intro x40 hx40
          refine ev_r_iald (pc := 130) hx40 (by decide +kernel) (by exact ev_ab_662) ?_
          intro x41 hx41
          refine ev_r_istore (pc := 131) (k := 7) (by decide +kernel) (by decide +kernel) rfl ?_
          refine ev_r_aload_n (pc := 133) (k := 0) (v := .ref 621) trivial (by decide +kernel) (by exact (ev_l1 (ev_l1 (ev_l1 (ev_l1 e16 (by decide) (by decide)) (by decide) (by decide)) (by decide) (by decide)) (by decide) (by decide))) ?_
          refine ev_r_getC (pc := 134) (y := 135) (ci := 13) (f := 56) (fin := 1) (k' := 663) (by decide +kernel) (by decide +kernel) (by exact ev_ob_621) rfl rfl ?_
          refine ev_r_iload_n (pc := 137) (k := 3) (v := Int32.ofInt x4) (by decide +kernel) (by exact (ev_l1 (ev_l1 (ev_l1 (ev_lk_st1 e18 (by decide) rfl) (by decide) (by decide)) (by decide) (by decide)) (by decide) (by decide))) ?_
          refine ev_r_iload (pc := 138) (k := 5) (v := Int32.ofInt x23) (by decide +kernel) (by exact (ev_l1 (ev_lk_st1 ev_lk_st1_self (by decide) rfl) (by decide) (by decide))) ?_
          refine ev_r_iadd (pc := 140) (by decide +kernel) ?_
          intro x42 hx42
          refine ev_r_iald (pc := 141) hx42 (by decide +kernel) (by exact ev_ab_663) ?_
          intro x43 hx43
          refine ev_r_istore (pc := 142) (k := 8) (by decide +kernel) (by decide +kernel) rfl ?_
          refine ev_r_iload (pc := 144) (k := 7) (v := Int32.ofInt x41) (by decide +kernel) (by exact (ev_lk_st1 ev_lk_st1_self (by decide) rfl)) ?_
          refine ev_r_iconst (pc := 146) (k := 5) (by decide +kernel) ?_
          refine ev_r_icmp (pc := 147) (q := .ne) (o := 20) (t := 167) (c := x41 ≠ 5) (by decide +kernel) (ev_k_ne hx41 (by decide)) (by decide +kernel) ?_ ?_
          · intro c44
            refine ev_r_iload (pc := 167) (k := 7) (v := Int32.ofInt x41) (by decide +kernel) (by exact (ev_lk_st1 ev_lk_st1_self (by decide) rfl)) ?_
            refine ev_r_iconst (pc := 169) (k := 4) (by decide +kernel) ?_
            refine ev_r_jn (Q := fun K => ∀ (x45 : Int) (hx45 : ev_rng x45), ∀ (s55 : ev_St) (w46 : List (Nat × Value)), ev_lk w46 0 = some (.ref 621) → ev_lk w46 2 = some (.int (Int32.ofInt a1)) → ev_lk w46 3 = some (.int (Int32.ofInt x4)) → ev_lk w46 4 = some (.int (Int32.ofInt x45)) → ev_lk w46 5 = some (.int (Int32.ofInt x23)) → ev_lk w46 6 = some (.int (Int32.ofInt x24)) → ev_lk w46 7 = some (.int (Int32.ofInt x41)) → ev_lk w46 8 = some (.int (Int32.ofInt x43)) → ev_w none (ev_Mof 314) d 210 w46 [] s55 (K x45 s55) ev_eI ev_bl) ?_ ?_
            · intro x45 hx45 s55 w46 e47 e48 e49 e50 e51 e52 e53 e54
              refine ev_r_aload_n (pc := 210) (k := 0) (v := .ref 621) trivial (by decide +kernel) (by exact e47) ?_
              refine ev_r_iload (pc := 211) (k := 6) (v := Int32.ofInt x24) (by decide +kernel) (by exact e52) ?_
              refine ev_r_putI (pc := 213) (y := 582) (ci := 13) (f := 81) hx24 (by decide +kernel) (by decide +kernel) (by exact ev_ob_621) rfl rfl ?_
              intro s56
              refine ev_r_iload (pc := 216) (k := 7) (v := Int32.ofInt x41) (by decide +kernel) (by exact e53) ?_
              refine ev_r_iconst (pc := 218) (k := 4) (by decide +kernel) ?_
              refine ev_r_jn (Q := fun K => ∀ (x57 : Int) (hx57 : ev_rng x57), ∀ (s67 : ev_St) (w58 : List (Nat × Value)), ev_lk w58 0 = some (.ref 621) → ev_lk w58 2 = some (.int (Int32.ofInt a1)) → ev_lk w58 3 = some (.int (Int32.ofInt x4)) → ev_lk w58 4 = some (.int (Int32.ofInt x45)) → ev_lk w58 5 = some (.int (Int32.ofInt x23)) → ev_lk w58 6 = some (.int (Int32.ofInt x24)) → ev_lk w58 7 = some (.int (Int32.ofInt x41)) → ev_lk w58 8 = some (.int (Int32.ofInt x43)) → ev_w none (ev_Mof 314) d 283 w58 [.int (Int32.ofInt x57)] s67 (K x57 s67) ev_eI ev_bl) ?_ ?_
              · intro x57 hx57 s67 w58 e59 e60 e61 e62 e63 e64 e65 e66
                refine ev_r_istore (pc := 283) (k := 9) (by decide +kernel) (by decide +kernel) rfl ?_
                refine ev_r_iload (pc := 285) (k := 7) (v := Int32.ofInt x41) (by decide +kernel) (by exact (ev_l1 e65 (by decide) (by decide))) ?_
                refine ev_r_iconst (pc := 287) (k := 2) (by decide +kernel) ?_
                refine ev_r_jn (Q := fun K => ∀ (x68 : Int) (hx68 : ev_rng x68), ∀ (x69 : Int) (hx69 : ev_rng x69), ∀ (s80 : ev_St) (w70 : List (Nat × Value)), ev_lk w70 0 = some (.ref 621) → ev_lk w70 2 = some (.int (Int32.ofInt a1)) → ev_lk w70 3 = some (.int (Int32.ofInt x4)) → ev_lk w70 4 = some (.int (Int32.ofInt x68)) → ev_lk w70 5 = some (.int (Int32.ofInt x23)) → ev_lk w70 6 = some (.int (Int32.ofInt x24)) → ev_lk w70 7 = some (.int (Int32.ofInt x41)) → ev_lk w70 8 = some (.int (Int32.ofInt x43)) → ev_lk w70 9 = some (.int (Int32.ofInt x69)) → ev_w none (ev_Mof 314) d 319 w70 [] s80 (K x68 x69 s80) ev_eI ev_bl) ?_ ?_
                · intro x68 hx68 x69 hx69 s80 w70 e71 e72 e73 e74 e75 e76 e77 e78 e79
                  refine ev_r_iload (pc := 319) (k := 9) (v := Int32.ofInt x69) (by decide +kernel) (by exact e79) ?_
                  refine ev_r_jn (Q := fun K => ∀ (s91 : ev_St) (w81 : List (Nat × Value)), ev_lk w81 0 = some (.ref 621) → ev_lk w81 2 = some (.int (Int32.ofInt a1)) → ev_lk w81 3 = some (.int (Int32.ofInt x4)) → ev_lk w81 4 = some (.int (Int32.ofInt x68)) → ev_lk w81 5 = some (.int (Int32.ofInt x23)) → ev_lk w81 6 = some (.int (Int32.ofInt x24)) → ev_lk w81 7 = some (.int (Int32.ofInt x41)) → ev_lk w81 8 = some (.int (Int32.ofInt x43)) → ev_lk w81 9 = some (.int (Int32.ofInt x69)) → ev_w none (ev_Mof 314) d 336 w81 [] s91 (K  s91) ev_eI ev_bl) ?_ ?_
                  · intro  s91 w81 e82 e83 e84 e85 e86 e87 e88 e89 e90
                    refine ev_r_aload_n (pc := 336) (k := 0) (v := .ref 621) trivial (by decide +kernel) (by exact e82) ?_
                    refine ev_r_getC (pc := 337) (y := 157) (ci := 13) (f := 64) (fin := 1) (k' := 670) (by decide +kernel) (by decide +kernel) (by exact ev_ob_621) rfl rfl ?_
                    refine ev_r_iload (pc := 340) (k := 4) (v := Int32.ofInt x68) (by decide +kernel) (by exact e85) ?_
                    refine ev_r_iload (pc := 342) (k := 9) (v := Int32.ofInt x69) (by decide +kernel) (by exact e90) ?_
                    refine ev_r_jn (Q := fun K => ∀ (x94 : Int) (hx94 : ev_rng x94), ∀ (x93 : Int) (hx93 : ev_rng x93), ∀ (r92 : Nat) (hr92 : ev_isAb r92 1 .int = true), ∀ (s102 : ev_St) (w95 : List (Nat × Value)), ev_lk w95 0 = some (.ref 621) → ev_lk w95 2 = some (.int (Int32.ofInt a1)) → ev_lk w95 3 = some (.int (Int32.ofInt x4)) → ev_lk w95 4 = some (.int (Int32.ofInt x68)) → ev_lk w95 6 = some (.int (Int32.ofInt x24)) → ev_lk w95 7 = some (.int (Int32.ofInt x41)) → ev_w none (ev_Mof 314) d 356 w95 [.int (Int32.ofInt x94), .int (Int32.ofInt x93), .ref r92] s102 (K x94 x93 r92 s102) ev_eI ev_bl) ?_ ?_
                    · intro x94 hx94 x93 hx93 r92 hr92 s102 w95 e96 e97 e98 e99 e100 e101
                      refine ev_r_iast (pc := 356) hx94 hx93 (by decide +kernel) (by exact hr92) ?_
                      intro s103
                      refine ev_r_aload_n (pc := 357) (k := 0) (v := .ref 621) trivial (by decide +kernel) (by exact e96) ?_
                      refine ev_r_getC (pc := 358) (y := 160) (ci := 13) (f := 65) (fin := 1) (k' := 671) (by decide +kernel) (by decide +kernel) (by exact ev_ob_621) rfl rfl ?_
                      refine ev_r_iload (pc := 361) (k := 4) (v := Int32.ofInt x68) (by decide +kernel) (by exact e99) ?_
                      refine ev_r_iload (pc := 363) (k := 7) (v := Int32.ofInt x41) (by decide +kernel) (by exact e101) ?_
                      refine ev_r_jn (Q := fun K => ∀ (x106 : Int) (hx106 : ev_rng x106), ∀ (x105 : Int) (hx105 : ev_rng x105), ∀ (r104 : Nat) (hr104 : ev_isAb r104 1 .int = true), ∀ (s112 : ev_St) (w107 : List (Nat × Value)), ev_lk w107 0 = some (.ref 621) → ev_lk w107 2 = some (.int (Int32.ofInt a1)) → ev_lk w107 3 = some (.int (Int32.ofInt x4)) → ev_lk w107 4 = some (.int (Int32.ofInt x68)) → ev_w none (ev_Mof 314) d 377 w107 [.int (Int32.ofInt x106), .int (Int32.ofInt x105), .ref r104] s112 (K x106 x105 r104 s112) ev_eI ev_bl) ?_ ?_
                      · intro x106 hx106 x105 hx105 r104 hr104 s112 w107 e108 e109 e110 e111
                        refine ev_r_iast (pc := 377) hx106 hx105 (by decide +kernel) (by exact hr104) ?_
                        intro s113
                        refine ev_r_iinc (pc := 378) (k := 4) (c := 1) (x := x68) (by decide +kernel) (by decide +kernel) (by exact e111) (fun _ => rfl) ?_
                        intro x114 hx114
                        exact hK381 x114 hx114 s113 _ (by exact (ev_l1 e108 (by decide) (by decide))) (by exact (ev_l1 e109 (by decide) (by decide))) (by exact (ev_lk_st1 e110 (by decide) rfl)) (by exact ev_lk_st1_self)
                      · intro K377 hK377
                        refine ev_r_if (pc := 365) (q := .ne) (o := 10) (t := 375) (c := x41 ≠ 0) (by decide +kernel) (ev_k_ne hx41 ev_rng0) (by decide +kernel) ?_ ?_
                        · intro c115
                          refine ev_r_iload (pc := 375) (k := 6) (v := Int32.ofInt x24) (by decide +kernel) (by exact e100) ?_
                          exact hK377 x24 hx24 x68 hx68 671 ev_ab_671 s103 _ (by exact e96) (by exact e97) (by exact e98) (by exact e99)
                        · intro c115
                          refine ev_r_iload (pc := 368) (k := 6) (v := Int32.ofInt x24) (by decide +kernel) (by exact e100) ?_
                          refine ev_r_iconst (pc := 370) (k := 1) (by decide +kernel) ?_
                          refine ev_r_iadd (pc := 371) (by decide +kernel) ?_
                          intro x116 hx116
                          refine ev_r_goto (pc := 372) (o := 5) (t := 377) (by decide +kernel) (by decide +kernel) ?_
                          exact hK377 x116 hx116 x68 hx68 671 ev_ab_671 s103 _ (by exact e96) (by exact e97) (by exact e98) (by exact e99)
                    · intro K356 hK356
                      refine ev_r_if (pc := 344) (q := .eq) (o := 10) (t := 354) (c := x69 = 0) (by decide +kernel) (ev_k_eq hx69 ev_rng0) (by decide +kernel) ?_ ?_
                      · intro c117
                        refine ev_r_iload (pc := 354) (k := 8) (v := Int32.ofInt x43) (by decide +kernel) (by exact e89) ?_
                        exact hK356 x43 hx43 x68 hx68 670 ev_ab_670 s91 _ (by exact e82) (by exact e83) (by exact e84) (by exact e85) (by exact e87) (by exact e88)
                      · intro c117
                        refine ev_r_iload (pc := 347) (k := 5) (v := Int32.ofInt x23) (by decide +kernel) (by exact e86) ?_
                        refine ev_r_iconst (pc := 349) (k := 1) (by decide +kernel) ?_
                        refine ev_r_iadd (pc := 350) (by decide +kernel) ?_
                        intro x118 hx118
                        refine ev_r_goto (pc := 351) (o := 5) (t := 356) (by decide +kernel) (by decide +kernel) ?_
                        exact hK356 x118 hx118 x68 hx68 670 ev_ab_670 s91 _ (by exact e82) (by exact e83) (by exact e84) (by exact e85) (by exact e87) (by exact e88)
                  · intro K336 hK336
                    refine ev_r_if (pc := 321) (q := .ne) (o := 15) (t := 336) (c := x69 ≠ 0) (by decide +kernel) (ev_k_ne hx69 ev_rng0) (by decide +kernel) ?_ ?_
                    · intro c119
                      exact hK336  s80 _ (by exact e71) (by exact e72) (by exact e73) (by exact e74) (by exact e75) (by exact e76) (by exact e77) (by exact e78) (by exact e79)
                    · intro c119
                      refine ev_r_iload (pc := 324) (k := 7) (v := Int32.ofInt x41) (by decide +kernel) (by exact e77) ?_
                      refine ev_r_iconst (pc := 326) (k := 2) (by decide +kernel) ?_
                      refine ev_r_icmp (pc := 327) (q := .eq) (o := 9) (t := 336) (c := x41 = 2) (by decide +kernel) (ev_k_eq hx41 (by decide)) (by decide +kernel) ?_ ?_
                      · intro c120
                        exact hK336  s80 _ (by exact e71) (by exact e72) (by exact e73) (by exact e74) (by exact e75) (by exact e76) (by exact e77) (by exact e78) (by exact e79)
                      · intro c120
                        refine ev_r_iload (pc := 330) (k := 7) (v := Int32.ofInt x41) (by decide +kernel) (by exact e77) ?_
                        refine ev_r_iconst (pc := 332) (k := 3) (by decide +kernel) ?_
                        refine ev_r_icmp (pc := 333) (q := .ne) (o := 48) (t := 381) (c := x41 ≠ 3) (by decide +kernel) (ev_k_ne hx41 (by decide)) (by decide +kernel) ?_ ?_
                        · intro c121
                          exact hK381 x68 hx68 s80 _ (by exact e71) (by exact e72) (by exact e73) (by exact e74)
                        · intro c121
                          exact hK336  s80 _ (by exact e71) (by exact e72) (by exact e73) (by exact e74) (by exact e75) (by exact e76) (by exact e77) (by exact e78) (by exact e79)
                · intro K319 hK319
                  refine ev_r_icmp (pc := 288) (q := .ne) (o := 31) (t := 319) (c := x41 ≠ 2) (by decide +kernel) (ev_k_ne hx41 (by decide)) (by decide +kernel) ?_ ?_
                  · intro c122
                    exact hK319 x45 hx45 x57 hx57 s67 _ (by exact (ev_l1 e59 (by decide) (by decide))) (by exact (ev_l1 e60 (by decide) (by decide))) (by exact (ev_l1 e61 (by decide) (by decide))) (by exact (ev_l1 e62 (by decide) (by decide))) (by exact (ev_l1 e63 (by decide) (by decide))) (by exact (ev_l1 e64 (by decide) (by decide))) (by exact (ev_l1 e65 (by decide) (by decide))) (by exact (ev_lk_st1 e66 (by decide) rfl)) (by exact ev_lk_st1_self)
                  · intro c122
                    refine ev_r_aload_n (pc := 291) (k := 0) (v := .ref 621) trivial (by decide +kernel) (by exact (ev_l1 e59 (by decide) (by decide))) ?_
                    refine ev_r_getC (pc := 292) (y := 157) (ci := 13) (f := 64) (fin := 1) (k' := 670) (by decide +kernel) (by decide +kernel) (by exact ev_ob_621) rfl rfl ?_
                    refine ev_r_iload (pc := 295) (k := 4) (v := Int32.ofInt x45) (by decide +kernel) (by exact (ev_l1 e62 (by decide) (by decide))) ?_
                    refine ev_r_aload_n (pc := 297) (k := 0) (v := .ref 621) trivial (by decide +kernel) (by exact (ev_l1 e59 (by decide) (by decide))) ?_
                    refine ev_r_getC (pc := 298) (y := 138) (ci := 13) (f := 57) (fin := 1) (k' := 664) (by decide +kernel) (by decide +kernel) (by exact ev_ob_621) rfl rfl ?_
                    refine ev_r_iload_n (pc := 301) (k := 3) (v := Int32.ofInt x4) (by decide +kernel) (by exact (ev_l1 e61 (by decide) (by decide))) ?_
                    refine ev_r_iload (pc := 302) (k := 5) (v := Int32.ofInt x23) (by decide +kernel) (by exact (ev_l1 e63 (by decide) (by decide))) ?_
                    refine ev_r_iadd (pc := 304) (by decide +kernel) ?_
                    intro x123 hx123
                    refine ev_r_iald (pc := 305) hx123 (by decide +kernel) (by exact ev_ab_664) ?_
                    intro x124 hx124
                    refine ev_r_iast (pc := 306) hx124 hx45 (by decide +kernel) (by exact ev_ab_670) ?_
                    intro s125
                    refine ev_r_aload_n (pc := 307) (k := 0) (v := .ref 621) trivial (by decide +kernel) (by exact (ev_l1 e59 (by decide) (by decide))) ?_
                    refine ev_r_getC (pc := 308) (y := 160) (ci := 13) (f := 65) (fin := 1) (k' := 671) (by decide +kernel) (by decide +kernel) (by exact ev_ob_621) rfl rfl ?_
                    refine ev_r_iload (pc := 311) (k := 4) (v := Int32.ofInt x45) (by decide +kernel) (by exact (ev_l1 e62 (by decide) (by decide))) ?_
                    refine ev_r_iload (pc := 313) (k := 6) (v := Int32.ofInt x24) (by decide +kernel) (by exact (ev_l1 e64 (by decide) (by decide))) ?_
                    refine ev_r_iast (pc := 315) hx24 hx45 (by decide +kernel) (by exact ev_ab_671) ?_
                    intro s126
                    refine ev_r_iinc (pc := 316) (k := 4) (c := 1) (x := x45) (by decide +kernel) (by decide +kernel) (by exact (ev_l1 e62 (by decide) (by decide))) (fun _ => rfl) ?_
                    intro x127 hx127
                    exact hK319 x127 hx127 x57 hx57 s126 _ (by exact (ev_l1 (ev_l1 e59 (by decide) (by decide)) (by decide) (by decide))) (by exact (ev_l1 (ev_l1 e60 (by decide) (by decide)) (by decide) (by decide))) (by exact (ev_lk_st1 (ev_l1 e61 (by decide) (by decide)) (by decide) rfl)) (by exact ev_lk_st1_self) (by exact (ev_l1 (ev_l1 e63 (by decide) (by decide)) (by decide) (by decide))) (by exact (ev_l1 (ev_l1 e64 (by decide) (by decide)) (by decide) (by decide))) (by exact (ev_l1 (ev_l1 e65 (by decide) (by decide)) (by decide) (by decide))) (by exact (ev_l1 (ev_lk_st1 e66 (by decide) rfl) (by decide) (by decide))) (by exact (ev_l1 ev_lk_st1_self (by decide) (by decide)))
              · intro K283 hK283
                refine ev_r_jn (Q := fun K => ∀ (s137 : ev_St) (w128 : List (Nat × Value)), ev_lk w128 0 = some (.ref 621) → ev_lk w128 2 = some (.int (Int32.ofInt a1)) → ev_lk w128 3 = some (.int (Int32.ofInt x4)) → ev_lk w128 4 = some (.int (Int32.ofInt x45)) → ev_lk w128 5 = some (.int (Int32.ofInt x23)) → ev_lk w128 6 = some (.int (Int32.ofInt x24)) → ev_lk w128 7 = some (.int (Int32.ofInt x41)) → ev_lk w128 8 = some (.int (Int32.ofInt x43)) → ev_w none (ev_Mof 314) d 278 w128 [] s137 (K  s137) ev_eI ev_bl) ?_ ?_
                · intro  s137 w128 e129 e130 e131 e132 e133 e134 e135 e136
                  refine ev_r_iconst (pc := 278) (k := 1) (by decide +kernel) ?_
                  refine ev_r_goto (pc := 279) (o := 4) (t := 283) (by decide +kernel) (by decide +kernel) ?_
                  exact hK283 1 (by decide) s137 _ (by exact e129) (by exact e130) (by exact e131) (by exact e132) (by exact e133) (by exact e134) (by exact e135) (by exact e136)
                · intro K278 hK278
                  refine ev_r_icmp (pc := 219) (q := .eq) (o := 59) (t := 278) (c := x41 = 4) (by decide +kernel) (ev_k_eq hx41 (by decide)) (by decide +kernel) ?_ ?_
                  · intro c138
                    exact hK278  s56 _ (by exact e47) (by exact e48) (by exact e49) (by exact e50) (by exact e51) (by exact e52) (by exact e53) (by exact e54)
                  · intro c138
                    refine ev_r_iload (pc := 222) (k := 7) (v := Int32.ofInt x41) (by decide +kernel) (by exact e53) ?_
                    refine ev_r_jn (Q := fun K => ∀ (s148 : ev_St) (w139 : List (Nat × Value)), ev_lk w139 0 = some (.ref 621) → ev_lk w139 2 = some (.int (Int32.ofInt a1)) → ev_lk w139 3 = some (.int (Int32.ofInt x4)) → ev_lk w139 4 = some (.int (Int32.ofInt x45)) → ev_lk w139 5 = some (.int (Int32.ofInt x23)) → ev_lk w139 6 = some (.int (Int32.ofInt x24)) → ev_lk w139 7 = some (.int (Int32.ofInt x41)) → ev_lk w139 8 = some (.int (Int32.ofInt x43)) → ev_w none (ev_Mof 314) d 263 w139 [] s148 (K  s148) ev_eI ev_bl) ?_ ?_
                    · intro  s148 w139 e140 e141 e142 e143 e144 e145 e146 e147
                      refine ev_r_iload (pc := 263) (k := 7) (v := Int32.ofInt x41) (by decide +kernel) (by exact e146) ?_
                      refine ev_r_iconst (pc := 265) (k := 1) (by decide +kernel) ?_
                      refine ev_r_jn (Q := fun K => ∀ (s158 : ev_St) (w149 : List (Nat × Value)), ev_lk w149 0 = some (.ref 621) → ev_lk w149 2 = some (.int (Int32.ofInt a1)) → ev_lk w149 3 = some (.int (Int32.ofInt x4)) → ev_lk w149 4 = some (.int (Int32.ofInt x45)) → ev_lk w149 5 = some (.int (Int32.ofInt x23)) → ev_lk w149 6 = some (.int (Int32.ofInt x24)) → ev_lk w149 7 = some (.int (Int32.ofInt x41)) → ev_lk w149 8 = some (.int (Int32.ofInt x43)) → ev_w none (ev_Mof 314) d 282 w149 [] s158 (K  s158) ev_eI ev_bl) ?_ ?_
                      · intro  s158 w149 e150 e151 e152 e153 e154 e155 e156 e157
                        refine ev_r_iconst (pc := 282) (k := 0) (by decide +kernel) ?_
                        exact hK283 0 (by decide) s158 _ (by exact e150) (by exact e151) (by exact e152) (by exact e153) (by exact e154) (by exact e155) (by exact e156) (by exact e157)
                      · intro K282 hK282
                        refine ev_r_icmp (pc := 266) (q := .ne) (o := 16) (t := 282) (c := x41 ≠ 1) (by decide +kernel) (ev_k_ne hx41 (by decide)) (by decide +kernel) ?_ ?_
                        · intro c159
                          exact hK282  s148 _ (by exact e140) (by exact e141) (by exact e142) (by exact e143) (by exact e144) (by exact e145) (by exact e146) (by exact e147)
                        · intro c159
                          refine ev_r_aload_n (pc := 269) (k := 0) (v := .ref 621) trivial (by decide +kernel) (by exact e140) ?_
                          refine ev_r_iload (pc := 270) (k := 8) (v := Int32.ofInt x43) (by decide +kernel) (by exact e147) ?_
                          refine ev_r_virt (pc := 272) (y := 620) (mi := 295) (na := 1) (k := 621) (as := [.int (Int32.ofInt x43)]) (rest := []) (encc := ev_oI) (Q := ev_bl) (fun x S1 h => jt_295 d (by omega) Q x43 hx43 s148 x S1 h) (by exact ev_ob_621) (by decide +kernel) (by decide +kernel) (by decide +kernel) (by decide +kernel) rfl (by (try simp only [ev_sum, ev_nv_cat]); first | done | rfl) ?_
                          intro x161 s160 hx161
                          replace hx161 := ev_bl_rng hx161
                          show ev_w _ _ _ _ _ [.int (Int32.ofInt x161)] _ _ _ _
                          refine ev_r_if (pc := 275) (q := .eq) (o := 7) (t := 282) (c := x161 = 0) (by decide +kernel) (ev_k_eq hx161 ev_rng0) (by decide +kernel) ?_ ?_
                          · intro c162
                            exact hK282  s160 _ (by exact e140) (by exact e141) (by exact e142) (by exact e143) (by exact e144) (by exact e145) (by exact e146) (by exact e147)
                          · intro c162
                            exact hK278  s160 _ (by exact e140) (by exact e141) (by exact e142) (by exact e143) (by exact e144) (by exact e145) (by exact e146) (by exact e147)
                    · intro K263 hK263
                      refine ev_r_if (pc := 224) (q := .ne) (o := 39) (t := 263) (c := x41 ≠ 0) (by decide +kernel) (ev_k_ne hx41 ev_rng0) (by decide +kernel) ?_ ?_
                      · intro c163
                        exact hK263  s56 _ (by exact e47) (by exact e48) (by exact e49) (by exact e50) (by exact e51) (by exact e52) (by exact e53) (by exact e54)
                      · intro c163
                        refine ev_r_iload (pc := 227) (k := 6) (v := Int32.ofInt x24) (by decide +kernel) (by exact e52) ?_
                        refine ev_r_aload_n (pc := 229) (k := 0) (v := .ref 621) trivial (by decide +kernel) (by exact e47) ?_
                        refine ev_r_getI (pc := 230) (y := 567) (ci := 13) (f := 73) (fin := 0) (by decide +kernel) (by decide +kernel) (by exact ev_ob_621) rfl ?_
                        intro x164 hx164
                        refine ev_r_icmp (pc := 233) (q := .ge) (o := 30) (t := 263) (c := x164 ≤ x24) (by decide +kernel) (ev_k_ge hx24 hx164) (by decide +kernel) ?_ ?_
                        · intro c165
                          exact hK263  s56 _ (by exact e47) (by exact e48) (by exact e49) (by exact e50) (by exact e51) (by exact e52) (by exact e53) (by exact e54)
                        · intro c165
                          refine ev_r_aload_n (pc := 236) (k := 0) (v := .ref 621) trivial (by decide +kernel) (by exact e47) ?_
                          refine ev_r_getC (pc := 237) (y := 43) (ci := 13) (f := 14) (fin := 1) (k' := 633) (by decide +kernel) (by decide +kernel) (by exact ev_ob_621) rfl rfl ?_
                          refine ev_r_iload (pc := 240) (k := 8) (v := Int32.ofInt x43) (by decide +kernel) (by exact e54) ?_
                          refine ev_r_lald (pc := 242) hx43 (by decide +kernel) (by exact ev_ab_633) ?_
                          intro y166
                          refine ev_r_aload_n (pc := 243) (k := 0) (v := .ref 621) trivial (by decide +kernel) (by exact e47) ?_
                          refine ev_r_getC (pc := 244) (y := 47) (ci := 13) (f := 15) (fin := 1) (k' := 634) (by decide +kernel) (by decide +kernel) (by exact ev_ob_621) rfl rfl ?_
                          refine ev_r_iload (pc := 247) (k := 8) (v := Int32.ofInt x43) (by decide +kernel) (by exact e54) ?_
                          refine ev_r_lald (pc := 249) hx43 (by decide +kernel) (by exact ev_ab_634) ?_
                          intro y167
                          refine ev_r_aload_n (pc := 250) (k := 0) (v := .ref 621) trivial (by decide +kernel) (by exact e47) ?_
                          refine ev_r_getC (pc := 251) (y := 181) (ci := 13) (f := 74) (fin := 1) (k' := 678) (by decide +kernel) (by decide +kernel) (by exact ev_ob_621) rfl rfl ?_
                          refine ev_r_iload (pc := 254) (k := 6) (v := Int32.ofInt x24) (by decide +kernel) (by exact e52) ?_
                          refine ev_r_iald (pc := 256) hx24 (by decide +kernel) (by exact ev_ab_678) ?_
                          intro x168 hx168
                          refine ev_r_stat (pc := 257) (y := 534) (kind := 2) (mi := 244) (na := 3) (as := [.long y166, .long y167, .int (Int32.ofInt x168)]) (rest := []) (encc := ev_oI) (Q := ev_bl) (fun x S1 h => jt_244 d (by omega) Q y166 y167 x168 hx168 s56 x S1 h) (Or.inl rfl) (by decide +kernel) (by decide +kernel) (by decide +kernel) (by decide +kernel) rfl (by (try simp only [ev_sum, ev_nv_cat]); first | done | rfl) ?_
                          intro x170 s169 hx170
                          replace hx170 := ev_bl_rng hx170
                          show ev_w _ _ _ _ _ [.int (Int32.ofInt x170)] _ _ _ _
                          refine ev_r_if (pc := 260) (q := .ne) (o := 18) (t := 278) (c := x170 ≠ 0) (by decide +kernel) (ev_k_ne hx170 ev_rng0) (by decide +kernel) ?_ ?_
                          · intro c171
                            exact hK278  s169 _ (by exact e47) (by exact e48) (by exact e49) (by exact e50) (by exact e51) (by exact e52) (by exact e53) (by exact e54)
                          · intro c171
                            exact hK263  s169 _ (by exact e47) (by exact e48) (by exact e49) (by exact e50) (by exact e51) (by exact e52) (by exact e53) (by exact e54)
            · intro K210 hK210
              refine ev_r_icmp (pc := 170) (q := .ne) (o := 40) (t := 210) (c := x41 ≠ 4) (by decide +kernel) (ev_k_ne hx41 (by decide)) (by decide +kernel) ?_ ?_
              · intro c172
                exact hK210 x22 hx22 s39 _ (by exact (ev_l1 (ev_l1 (ev_l1 (ev_l1 (ev_l1 e16 (by decide) (by decide)) (by decide) (by decide)) (by decide) (by decide)) (by decide) (by decide)) (by decide) (by decide))) (by exact (ev_l1 (ev_l1 (ev_l1 (ev_l1 (ev_l1 e17 (by decide) (by decide)) (by decide) (by decide)) (by decide) (by decide)) (by decide) (by decide)) (by decide) (by decide))) (by exact (ev_l1 (ev_l1 (ev_l1 (ev_l1 (ev_lk_st1 e18 (by decide) rfl) (by decide) (by decide)) (by decide) (by decide)) (by decide) (by decide)) (by decide) (by decide))) (by exact (ev_l1 (ev_l1 (ev_l1 (ev_lk_st1 ev_lk_st1_self (by decide) rfl) (by decide) (by decide)) (by decide) (by decide)) (by decide) (by decide))) (by exact (ev_l1 (ev_l1 (ev_lk_st1 ev_lk_st1_self (by decide) rfl) (by decide) (by decide)) (by decide) (by decide))) (by exact (ev_l1 (ev_lk_st1 ev_lk_st1_self (by decide) rfl) (by decide) (by decide))) (by exact (ev_lk_st1 ev_lk_st1_self (by decide) rfl)) (by exact ev_lk_st1_self)
              · intro c172
                refine ev_r_aload_n (pc := 173) (k := 0) (v := .ref 621) trivial (by decide +kernel) (by exact (ev_l1 (ev_l1 (ev_l1 (ev_l1 (ev_l1 e16 (by decide) (by decide)) (by decide) (by decide)) (by decide) (by decide)) (by decide) (by decide)) (by decide) (by decide))) ?_
                refine ev_r_getC (pc := 174) (y := 157) (ci := 13) (f := 64) (fin := 1) (k' := 670) (by decide +kernel) (by decide +kernel) (by exact ev_ob_621) rfl rfl ?_
                refine ev_r_iload (pc := 177) (k := 4) (v := Int32.ofInt x22) (by decide +kernel) (by exact (ev_l1 (ev_l1 (ev_l1 (ev_lk_st1 ev_lk_st1_self (by decide) rfl) (by decide) (by decide)) (by decide) (by decide)) (by decide) (by decide))) ?_
                refine ev_r_iconst (pc := 179) (k := -1) (by decide +kernel) ?_
                refine ev_r_iload (pc := 180) (k := 8) (v := Int32.ofInt x43) (by decide +kernel) (by exact ev_lk_st1_self) ?_
                refine ev_r_isub (pc := 182) (by decide +kernel) ?_
                intro x173 hx173
                refine ev_r_iast (pc := 183) hx173 hx22 (by decide +kernel) (by exact ev_ab_670) ?_
                intro s174
                refine ev_r_aload_n (pc := 184) (k := 0) (v := .ref 621) trivial (by decide +kernel) (by exact (ev_l1 (ev_l1 (ev_l1 (ev_l1 (ev_l1 e16 (by decide) (by decide)) (by decide) (by decide)) (by decide) (by decide)) (by decide) (by decide)) (by decide) (by decide))) ?_
                refine ev_r_getC (pc := 185) (y := 160) (ci := 13) (f := 65) (fin := 1) (k' := 671) (by decide +kernel) (by decide +kernel) (by exact ev_ob_621) rfl rfl ?_
                refine ev_r_iload (pc := 188) (k := 4) (v := Int32.ofInt x22) (by decide +kernel) (by exact (ev_l1 (ev_l1 (ev_l1 (ev_lk_st1 ev_lk_st1_self (by decide) rfl) (by decide) (by decide)) (by decide) (by decide)) (by decide) (by decide))) ?_
                refine ev_r_aload_n (pc := 190) (k := 0) (v := .ref 621) trivial (by decide +kernel) (by exact (ev_l1 (ev_l1 (ev_l1 (ev_l1 (ev_l1 e16 (by decide) (by decide)) (by decide) (by decide)) (by decide) (by decide)) (by decide) (by decide)) (by decide) (by decide))) ?_
                refine ev_r_getC (pc := 191) (y := 163) (ci := 13) (f := 66) (fin := 1) (k' := 672) (by decide +kernel) (by decide +kernel) (by exact ev_ob_621) rfl rfl ?_
                refine ev_r_iload (pc := 194) (k := 8) (v := Int32.ofInt x43) (by decide +kernel) (by exact ev_lk_st1_self) ?_
                refine ev_r_iald (pc := 196) hx43 (by decide +kernel) (by exact ev_ab_672) ?_
                intro x175 hx175
                refine ev_r_iast (pc := 197) hx175 hx22 (by decide +kernel) (by exact ev_ab_671) ?_
                intro s176
                refine ev_r_iinc (pc := 198) (k := 4) (c := 1) (x := x22) (by decide +kernel) (by decide +kernel) (by exact (ev_l1 (ev_l1 (ev_l1 (ev_lk_st1 ev_lk_st1_self (by decide) rfl) (by decide) (by decide)) (by decide) (by decide)) (by decide) (by decide))) (fun _ => rfl) ?_
                intro x177 hx177
                refine ev_r_aload_n (pc := 201) (k := 0) (v := .ref 621) trivial (by decide +kernel) (by exact (ev_l1 (ev_l1 (ev_l1 (ev_l1 (ev_l1 (ev_l1 e16 (by decide) (by decide)) (by decide) (by decide)) (by decide) (by decide)) (by decide) (by decide)) (by decide) (by decide)) (by decide) (by decide))) ?_
                refine ev_r_getC (pc := 202) (y := 163) (ci := 13) (f := 66) (fin := 1) (k' := 672) (by decide +kernel) (by decide +kernel) (by exact ev_ob_621) rfl rfl ?_
                refine ev_r_iload (pc := 205) (k := 8) (v := Int32.ofInt x43) (by decide +kernel) (by exact (ev_l1 ev_lk_st1_self (by decide) (by decide))) ?_
                refine ev_r_iload (pc := 207) (k := 6) (v := Int32.ofInt x24) (by decide +kernel) (by exact (ev_l1 (ev_l1 (ev_lk_st1 ev_lk_st1_self (by decide) rfl) (by decide) (by decide)) (by decide) (by decide))) ?_
                refine ev_r_iast (pc := 209) hx24 hx43 (by decide +kernel) (by exact ev_ab_672) ?_
                intro s178
                exact hK210 x177 hx177 s178 _ (by exact (ev_l1 (ev_l1 (ev_l1 (ev_l1 (ev_l1 (ev_l1 e16 (by decide) (by decide)) (by decide) (by decide)) (by decide) (by decide)) (by decide) (by decide)) (by decide) (by decide)) (by decide) (by decide))) (by exact (ev_l1 (ev_l1 (ev_l1 (ev_l1 (ev_l1 (ev_l1 e17 (by decide) (by decide)) (by decide) (by decide)) (by decide) (by decide)) (by decide) (by decide)) (by decide) (by decide)) (by decide) (by decide))) (by exact (ev_lk_st1 (ev_l1 (ev_l1 (ev_l1 (ev_l1 (ev_lk_st1 e18 (by decide) rfl) (by decide) (by decide)) (by decide) (by decide)) (by decide) (by decide)) (by decide) (by decide)) (by decide) rfl)) (by exact ev_lk_st1_self) (by exact (ev_l1 (ev_l1 (ev_l1 (ev_lk_st1 ev_lk_st1_self (by decide) rfl) (by decide) (by decide)) (by decide) (by decide)) (by decide) (by decide))) (by exact (ev_l1 (ev_l1 (ev_lk_st1 ev_lk_st1_self (by decide) rfl) (by decide) (by decide)) (by decide) (by decide))) (by exact (ev_l1 (ev_lk_st1 ev_lk_st1_self (by decide) rfl) (by decide) (by decide))) (by exact (ev_l1 ev_lk_st1_self (by decide) (by decide)))
          · intro c44
            refine ev_r_aload_n (pc := 150) (k := 0) (v := .ref 621) trivial (by decide +kernel) (by exact (ev_l1 (ev_l1 (ev_l1 (ev_l1 (ev_l1 e16 (by decide) (by decide)) (by decide) (by decide)) (by decide) (by decide)) (by decide) (by decide)) (by decide) (by decide))) ?_
            refine ev_r_getC (pc := 151) (y := 184) (ci := 13) (f := 86) (fin := 1) (k' := 679) (by decide +kernel) (by decide +kernel) (by exact ev_ob_621) rfl rfl ?_
            refine ev_r_iconst (pc := 154) (k := 0) (by decide +kernel) ?_
            refine ev_r_iload_n (pc := 155) (k := 2) (v := Int32.ofInt a1) (by decide +kernel) (by exact (ev_l1 (ev_l1 (ev_l1 (ev_l1 (ev_l1 e17 (by decide) (by decide)) (by decide) (by decide)) (by decide) (by decide)) (by decide) (by decide)) (by decide) (by decide))) ?_
            refine ev_r_iast (pc := 156) ha1 (by decide) (by decide +kernel) (by exact ev_ab_679) ?_
            intro s179
            refine ev_r_aload_n (pc := 157) (k := 0) (v := .ref 621) trivial (by decide +kernel) (by exact (ev_l1 (ev_l1 (ev_l1 (ev_l1 (ev_l1 e16 (by decide) (by decide)) (by decide) (by decide)) (by decide) (by decide)) (by decide) (by decide)) (by decide) (by decide))) ?_
            refine ev_r_getC (pc := 158) (y := 187) (ci := 13) (f := 87) (fin := 1) (k' := 680) (by decide +kernel) (by decide +kernel) (by exact ev_ob_621) rfl rfl ?_
            refine ev_r_iconst (pc := 161) (k := 0) (by decide +kernel) ?_
            refine ev_r_iload (pc := 162) (k := 6) (v := Int32.ofInt x24) (by decide +kernel) (by exact (ev_l1 (ev_lk_st1 ev_lk_st1_self (by decide) rfl) (by decide) (by decide))) ?_
            refine ev_r_iast (pc := 164) hx24 (by decide) (by decide +kernel) (by exact ev_ab_680) ?_
            intro s180
            refine ev_r_iconst (pc := 165) (k := 1) (by decide +kernel) ?_
            exact ev_r_ireturn (pc := 166) (x := 1) (v := Int32.ofInt 1) (ty := .boolean) (by decide : ev_bl 1) (by decide +kernel) (by decide +kernel) (ev_ret_bl (by decide : ev_bl 1)) rfl
      · intro c32
        refine ev_r_aload_n (pc := 78) (k := 0) (v := .ref 621) trivial (by decide +kernel) (by exact (ev_l1 (ev_l1 (ev_l1 e16 (by decide) (by decide)) (by decide) (by decide)) (by decide) (by decide))) ?_
        refine ev_r_getC (pc := 79) (y := 163) (ci := 13) (f := 66) (fin := 1) (k' := 672) (by decide +kernel) (by decide +kernel) (by exact ev_ob_621) rfl rfl ?_
        refine ev_r_iconst (pc := 82) (k := -1) (by decide +kernel) ?_
        refine ev_r_iload (pc := 83) (k := 5) (v := Int32.ofInt x23) (by decide +kernel) (by exact (ev_lk_st1 ev_lk_st1_self (by decide) rfl)) ?_
        refine ev_r_isub (pc := 85) (by decide +kernel) ?_
        intro x181 hx181
        refine ev_r_iload (pc := 86) (k := 6) (v := Int32.ofInt x24) (by decide +kernel) (by exact ev_lk_st1_self) ?_
        refine ev_r_iast (pc := 88) hx24 hx181 (by decide +kernel) (by exact ev_ab_672) ?_
        intro s182
        refine ev_r_goto (pc := 89) (o := 292) (t := 381) (by decide +kernel) (by decide +kernel) ?_
        exact hK381 x22 hx22 s182 _ (by exact (ev_l1 (ev_l1 (ev_l1 e16 (by decide) (by decide)) (by decide) (by decide)) (by decide) (by decide))) (by exact (ev_l1 (ev_l1 (ev_l1 e17 (by decide) (by decide)) (by decide) (by decide)) (by decide) (by decide))) (by exact (ev_l1 (ev_l1 (ev_lk_st1 e18 (by decide) rfl) (by decide) (by decide)) (by decide) (by decide))) (by exact (ev_l1 (ev_lk_st1 ev_lk_st1_self (by decide) rfl) (by decide) (by decide)))
theorem jlt_314_47 (d : Nat) (hd : 7 ≤ d + 1) (Q : Nat) (a1 : Int) (x4 : Int) (ha1 : ev_rng a1) (hx4 : ev_rng x4)   : ∀ q : Nat, ∀ (x14 : Int) (hx14 : ev_rng x14), ∀ (s20 : ev_St) (w15 : List (Nat × Value)), ev_lk w15 0 = some (.ref 621) → ev_lk w15 2 = some (.int (Int32.ofInt a1)) → ev_lk w15 3 = some (.int (Int32.ofInt x4)) → ev_lk w15 4 = some (.int (Int32.ofInt x14)) → ev_w none (ev_Mof 314) d 47 w15 [] s20 (jl_314_47 Q a1 x4  q x14 s20) ev_eI ev_bl := by
  intro q
  induction q with
  | zero =>
    intro x14 hx14 s20 w15 e16 e17 e18 e19
    exact ev_w_none
  | succ q ih => exact jbt_314_47 d hd Q a1 x4 ha1 hx4   _ ih
def jb_314_26 (Q : Nat) (a1 : Int)  (K26 : Int → Int → Int → ev_St → Option ((Int) × ev_St)) (x4 : Int) (x5 : Int) (x6 : Int) (s13 : ev_St) : Option ((Int) × ev_St) := if 20 ≤ x6 then (jl_314_47 Q a1 x4  Q x5 s13) else (ev_if ((0 : Int) ≤ x6 ∧ x6 < (ev_aln 672 : Int)) (ev_b (ev_pI s13 672 (Int.toNat x6) ((-1))) fun s184 => ev_ck (x6 + 1) fun x185 => K26 x4 x5 x185 s184))
def jl_314_26 (Q : Nat) (a1 : Int)  : Nat → Int → Int → Int → ev_St → Option ((Int) × ev_St)
  | 0 => fun _ _ _ _ => none
  | q + 1 => jb_314_26 Q a1  (jl_314_26 Q a1  q)
theorem jbt_314_26 (d : Nat) (hd : 7 ≤ d + 1) (Q : Nat) (a1 : Int) (ha1 : ev_rng a1)   (K26 : Int → Int → Int → ev_St → Option ((Int) × ev_St)) (hK26 : ∀ (x4 : Int) (hx4 : ev_rng x4), ∀ (x5 : Int) (hx5 : ev_rng x5), ∀ (x6 : Int) (hx6 : ev_rng x6), ∀ (s13 : ev_St) (w7 : List (Nat × Value)), ev_lk w7 0 = some (.ref 621) → ev_lk w7 2 = some (.int (Int32.ofInt a1)) → ev_lk w7 3 = some (.int (Int32.ofInt x4)) → ev_lk w7 4 = some (.int (Int32.ofInt x5)) → ev_lk w7 5 = some (.int (Int32.ofInt x6)) → ev_w none (ev_Mof 314) d 26 w7 [] s13 (K26 x4 x5 x6 s13) ev_eI ev_bl) : ∀ (x4 : Int) (hx4 : ev_rng x4), ∀ (x5 : Int) (hx5 : ev_rng x5), ∀ (x6 : Int) (hx6 : ev_rng x6), ∀ (s13 : ev_St) (w7 : List (Nat × Value)), ev_lk w7 0 = some (.ref 621) → ev_lk w7 2 = some (.int (Int32.ofInt a1)) → ev_lk w7 3 = some (.int (Int32.ofInt x4)) → ev_lk w7 4 = some (.int (Int32.ofInt x5)) → ev_lk w7 5 = some (.int (Int32.ofInt x6)) → ev_w none (ev_Mof 314) d 26 w7 [] s13 (jb_314_26 Q a1  K26 x4 x5 x6 s13) ev_eI ev_bl := by
  intro x4 hx4 x5 hx5 x6 hx6 s13 w7 e8 e9 e10 e11 e12
  unfold jb_314_26
  refine ev_r_iload (pc := 26) (k := 5) (v := Int32.ofInt x6) (by decide +kernel) (by exact e12) ?_
  refine ev_r_bipush (pc := 28) (k := 20) (by decide +kernel) (by decide +kernel) ?_
  refine ev_r_icmp (pc := 30) (q := .ge) (o := 17) (t := 47) (c := 20 ≤ x6) (by decide +kernel) (ev_k_ge hx6 (by decide)) (by decide +kernel) ?_ ?_
  · intro c183
    exact jlt_314_47 d hd Q a1 x4 ha1 hx4   Q x5 hx5 s13 _ (by exact e8) (by exact e9) (by exact e10) (by exact e11)
  · intro c183
    refine ev_r_aload_n (pc := 33) (k := 0) (v := .ref 621) trivial (by decide +kernel) (by exact e8) ?_
    refine ev_r_getC (pc := 34) (y := 163) (ci := 13) (f := 66) (fin := 1) (k' := 672) (by decide +kernel) (by decide +kernel) (by exact ev_ob_621) rfl rfl ?_
    refine ev_r_iload (pc := 37) (k := 5) (v := Int32.ofInt x6) (by decide +kernel) (by exact e12) ?_
    refine ev_r_iconst (pc := 39) (k := -1) (by decide +kernel) ?_
    refine ev_r_iast (pc := 40) (by decide) hx6 (by decide +kernel) (by exact ev_ab_672) ?_
    intro s184
    refine ev_r_iinc (pc := 41) (k := 5) (c := 1) (x := x6) (by decide +kernel) (by decide +kernel) (by exact e12) (fun _ => rfl) ?_
    intro x185 hx185
    refine ev_r_goto (pc := 44) (o := (-18)) (t := 26) (by decide +kernel) (by decide +kernel) ?_
    exact hK26 x4 hx4 x5 hx5 x185 hx185 s184 _ (by exact (ev_l1 e8 (by decide) (by decide))) (by exact (ev_l1 e9 (by decide) (by decide))) (by exact (ev_l1 e10 (by decide) (by decide))) (by exact (ev_lk_st1 e11 (by decide) rfl)) (by exact ev_lk_st1_self)
theorem jlt_314_26 (d : Nat) (hd : 7 ≤ d + 1) (Q : Nat) (a1 : Int) (ha1 : ev_rng a1)   : ∀ q : Nat, ∀ (x4 : Int) (hx4 : ev_rng x4), ∀ (x5 : Int) (hx5 : ev_rng x5), ∀ (x6 : Int) (hx6 : ev_rng x6), ∀ (s13 : ev_St) (w7 : List (Nat × Value)), ev_lk w7 0 = some (.ref 621) → ev_lk w7 2 = some (.int (Int32.ofInt a1)) → ev_lk w7 3 = some (.int (Int32.ofInt x4)) → ev_lk w7 4 = some (.int (Int32.ofInt x5)) → ev_lk w7 5 = some (.int (Int32.ofInt x6)) → ev_w none (ev_Mof 314) d 26 w7 [] s13 (jl_314_26 Q a1  q x4 x5 x6 s13) ev_eI ev_bl := by
  intro q
  induction q with
  | zero =>
    intro x4 hx4 x5 hx5 x6 hx6 s13 w7 e8 e9 e10 e11 e12
    exact ev_w_none
  | succ q ih => exact jbt_314_26 d hd Q a1 ha1   _ ih
/-- MendBenchModel.runs(II)Z -/
def jm_314 (Q : Nat) (a0 : Int) (a1 : Int) (S : ev_St) : Option ((Int) × ev_St) := ev_ck (210 * a0) fun x1 => ev_if ((0 : Int) ≤ 0 ∧ 0 < (ev_aln 670 : Int)) (ev_b (ev_pI S 670 (Int.toNat 0) 0) fun s2 => ev_if ((0 : Int) ≤ 0 ∧ 0 < (ev_aln 671 : Int)) (ev_b (ev_pI s2 671 (Int.toNat 0) a1) fun s3 => jl_314_26 Q a1  Q x1 1 0 s3))
theorem jt_314 (d : Nat) (hd : 7 ≤ d) (Q : Nat) (a0 : Int) (a1 : Int) (ha0 : ev_rng a0) (ha1 : ev_rng a1) (S : ev_St) (x : Int) (S' : ev_St) (hJ : jm_314 Q a0 a1 S = some (x, S')) : ev_Ref d 314 [.ref 621, .int (Int32.ofInt a0), .int (Int32.ofInt a1)] S (ev_eI x) S' (ev_bl x) := by
  obtain ⟨d, rfl⟩ : ∃ e, d = e + 1 := ⟨d - 1, by omega⟩
  refine ev_ref_of (P := ev_bl) (lv := [(0, .ref 621), (1, .int (Int32.ofInt a0)), (2, .int (Int32.ofInt a1))]) (by decide +kernel) (by (try simp only [ev_sum, ev_nv_cat]); first | done | rfl) (by (try simp only [lv_args, ev_nv_cat]); first | done | rfl) ?_ x S' hJ
  unfold jm_314
  refine ev_r_sipush (pc := 0) (k := 210) (by decide +kernel) (by decide +kernel) ?_
  refine ev_r_iload_n (pc := 3) (k := 1) (v := Int32.ofInt a0) (by decide +kernel) (by rfl) ?_
  refine ev_r_imul (pc := 4) (by decide +kernel) ?_
  intro x1 hx1
  refine ev_r_istore_n (pc := 5) (k := 3) (by decide +kernel) (by decide +kernel) rfl ?_
  refine ev_r_iconst (pc := 6) (k := 1) (by decide +kernel) ?_
  refine ev_r_istore (pc := 7) (k := 4) (by decide +kernel) (by decide +kernel) rfl ?_
  refine ev_r_aload_n (pc := 9) (k := 0) (v := .ref 621) trivial (by decide +kernel) (by exact (ev_l1 (ev_l1 (by rfl) (by decide) (by decide)) (by decide) (by decide))) ?_
  refine ev_r_getC (pc := 10) (y := 157) (ci := 13) (f := 64) (fin := 1) (k' := 670) (by decide +kernel) (by decide +kernel) (by exact ev_ob_621) rfl rfl ?_
  refine ev_r_iconst (pc := 13) (k := 0) (by decide +kernel) ?_
  refine ev_r_iconst (pc := 14) (k := 0) (by decide +kernel) ?_
  refine ev_r_iast (pc := 15) (by decide) (by decide) (by decide +kernel) (by exact ev_ab_670) ?_
  intro s2
  refine ev_r_aload_n (pc := 16) (k := 0) (v := .ref 621) trivial (by decide +kernel) (by exact (ev_l1 (ev_l1 (by rfl) (by decide) (by decide)) (by decide) (by decide))) ?_
  refine ev_r_getC (pc := 17) (y := 160) (ci := 13) (f := 65) (fin := 1) (k' := 671) (by decide +kernel) (by decide +kernel) (by exact ev_ob_621) rfl rfl ?_
  refine ev_r_iconst (pc := 20) (k := 0) (by decide +kernel) ?_
  refine ev_r_iload_n (pc := 21) (k := 2) (v := Int32.ofInt a1) (by decide +kernel) (by exact (ev_l1 (ev_lk_st1 (by rfl) (by decide) rfl) (by decide) (by decide))) ?_
  refine ev_r_iast (pc := 22) ha1 (by decide) (by decide +kernel) (by exact ev_ab_671) ?_
  intro s3
  refine ev_r_iconst (pc := 23) (k := 0) (by decide +kernel) ?_
  refine ev_r_istore (pc := 24) (k := 5) (by decide +kernel) (by decide +kernel) rfl ?_
  exact jlt_314_26 d hd Q a1 ha1   Q x1 hx1 1 (by decide) 0 (by decide) s3 _ (by exact (ev_l1 (ev_l1 (ev_l1 (by rfl) (by decide) (by decide)) (by decide) (by decide)) (by decide) (by decide))) (by exact (ev_l1 (ev_l1 (ev_lk_st1 (by rfl) (by decide) rfl) (by decide) (by decide)) (by decide) (by decide))) (by exact (ev_l1 (ev_lk_st1 ev_lk_st1_self (by decide) rfl) (by decide) (by decide))) (by exact (ev_lk_st1 ev_lk_st1_self (by decide) rfl)) (by exact ev_lk_st1_self)
def jb_315_57 (Q : Nat) (x9 : Int)  (K57 : Int → ev_St → Option ((Int) × ev_St)) (x22 : Int) (s27 : ev_St) : Option ((Int) × ev_St) := if 10 ≤ x22 then (ev_if (ev_bl x9) (some (x9, s27))) else (if x9 = 0 then (ev_if (ev_bl x9) (some (x9, s27))) else (ev_ck (2 * x22) fun x32 => ev_ck (x32 + 1) fun x33 => ev_if ((0 : Int) ≤ x33 ∧ x33 < (ev_aln 672 : Int)) (ev_b (s27.1 672 (Int.toNat x33)) fun x34 => ev_jn (fun (x37 : Int) (x36 : Int) (r35 : Nat) (s42 : ev_St) => ev_if ((0 : Int) ≤ x36 ∧ x36 < (ev_aln r35 : Int)) (ev_b (ev_pI s42 r35 (Int.toNat x36) x37) fun s43 => ev_ck (2 * x22) fun x44 => ev_ck (x44 + 1) fun x45 => ev_if ((0 : Int) ≤ x45 ∧ x45 < (ev_aln 672 : Int)) (ev_b (s43.1 672 (Int.toNat x45)) fun x46 => ev_if ((0 : Int) ≤ x22 ∧ x22 < (ev_aln 680 : Int)) (ev_b (ev_pI s43 680 (Int.toNat x22) x46) fun s47 => ev_ck (x22 + 1) fun x48 => K57 x48 s47)))) fun K102 => if x34 ≠ (-1) then (ev_ck (2 * x22) fun x50 => ev_if ((0 : Int) ≤ x50 ∧ x50 < (ev_aln 672 : Int)) (ev_b (s27.1 672 (Int.toNat x50)) fun x51 => K102 x51 x22 679 s27)) else (K102 ((-1)) x22 679 s27))))
def jl_315_57 (Q : Nat) (x9 : Int)  : Nat → Int → ev_St → Option ((Int) × ev_St)
  | 0 => fun _ _ => none
  | q + 1 => jb_315_57 Q x9  (jl_315_57 Q x9  q)
theorem jbt_315_57 (d : Nat) (hd : 8 ≤ d + 1) (Q : Nat) (x9 : Int) (hx9 : ev_rng x9)   (K57 : Int → ev_St → Option ((Int) × ev_St)) (hK57 : ∀ (x22 : Int) (hx22 : ev_rng x22), ∀ (s27 : ev_St) (w23 : List (Nat × Value)), ev_lk w23 0 = some (.ref 621) → ev_lk w23 3 = some (.int (Int32.ofInt x9)) → ev_lk w23 4 = some (.int (Int32.ofInt x22)) → ev_w none (ev_Mof 315) d 57 w23 [] s27 (K57 x22 s27) ev_eI ev_bl) : ∀ (x22 : Int) (hx22 : ev_rng x22), ∀ (s27 : ev_St) (w23 : List (Nat × Value)), ev_lk w23 0 = some (.ref 621) → ev_lk w23 3 = some (.int (Int32.ofInt x9)) → ev_lk w23 4 = some (.int (Int32.ofInt x22)) → ev_w none (ev_Mof 315) d 57 w23 [] s27 (jb_315_57 Q x9  K57 x22 s27) ev_eI ev_bl := by
  intro x22 hx22 s27 w23 e24 e25 e26
  unfold jb_315_57
  refine ev_r_iload (pc := 57) (k := 4) (v := Int32.ofInt x22) (by decide +kernel) (by exact e26) ?_
  refine ev_r_bipush (pc := 59) (k := 10) (by decide +kernel) (by decide +kernel) ?_
  refine ev_r_icmp (pc := 61) (q := .ge) (o := 66) (t := 127) (c := 10 ≤ x22) (by decide +kernel) (ev_k_ge hx22 (by decide)) (by decide +kernel) ?_ ?_
  · intro c28
    refine ev_r_iload_n (pc := 127) (k := 3) (v := Int32.ofInt x9) (by decide +kernel) (by exact e25) ?_
    refine ev_r_chk ?_
    intro c29
    exact ev_r_ireturn (pc := 128) (x := x9) (v := Int32.ofInt x9) (ty := .boolean) c29 (by decide +kernel) (by decide +kernel) (ev_ret_bl c29) rfl
  · intro c28
    refine ev_r_iload_n (pc := 64) (k := 3) (v := Int32.ofInt x9) (by decide +kernel) (by exact e25) ?_
    refine ev_r_if (pc := 65) (q := .eq) (o := 62) (t := 127) (c := x9 = 0) (by decide +kernel) (ev_k_eq hx9 ev_rng0) (by decide +kernel) ?_ ?_
    · intro c30
      refine ev_r_iload_n (pc := 127) (k := 3) (v := Int32.ofInt x9) (by decide +kernel) (by exact e25) ?_
      refine ev_r_chk ?_
      intro c31
      exact ev_r_ireturn (pc := 128) (x := x9) (v := Int32.ofInt x9) (ty := .boolean) c31 (by decide +kernel) (by decide +kernel) (ev_ret_bl c31) rfl
    · intro c30
      refine ev_r_aload_n (pc := 68) (k := 0) (v := .ref 621) trivial (by decide +kernel) (by exact e24) ?_
      refine ev_r_getC (pc := 69) (y := 184) (ci := 13) (f := 86) (fin := 1) (k' := 679) (by decide +kernel) (by decide +kernel) (by exact ev_ob_621) rfl rfl ?_
      refine ev_r_iload (pc := 72) (k := 4) (v := Int32.ofInt x22) (by decide +kernel) (by exact e26) ?_
      refine ev_r_aload_n (pc := 74) (k := 0) (v := .ref 621) trivial (by decide +kernel) (by exact e24) ?_
      refine ev_r_getC (pc := 75) (y := 163) (ci := 13) (f := 66) (fin := 1) (k' := 672) (by decide +kernel) (by decide +kernel) (by exact ev_ob_621) rfl rfl ?_
      refine ev_r_iconst (pc := 78) (k := 2) (by decide +kernel) ?_
      refine ev_r_iload (pc := 79) (k := 4) (v := Int32.ofInt x22) (by decide +kernel) (by exact e26) ?_
      refine ev_r_imul (pc := 81) (by decide +kernel) ?_
      intro x32 hx32
      refine ev_r_iconst (pc := 82) (k := 1) (by decide +kernel) ?_
      refine ev_r_iadd (pc := 83) (by decide +kernel) ?_
      intro x33 hx33
      refine ev_r_iald (pc := 84) hx33 (by decide +kernel) (by exact ev_ab_672) ?_
      intro x34 hx34
      refine ev_r_iconst (pc := 85) (k := -1) (by decide +kernel) ?_
      refine ev_r_jn (Q := fun K => ∀ (x37 : Int) (hx37 : ev_rng x37), ∀ (x36 : Int) (hx36 : ev_rng x36), ∀ (r35 : Nat) (hr35 : ev_isAb r35 1 .int = true), ∀ (s42 : ev_St) (w38 : List (Nat × Value)), ev_lk w38 0 = some (.ref 621) → ev_lk w38 3 = some (.int (Int32.ofInt x9)) → ev_lk w38 4 = some (.int (Int32.ofInt x22)) → ev_w none (ev_Mof 315) d 102 w38 [.int (Int32.ofInt x37), .int (Int32.ofInt x36), .ref r35] s42 (K x37 x36 r35 s42) ev_eI ev_bl) ?_ ?_
      · intro x37 hx37 x36 hx36 r35 hr35 s42 w38 e39 e40 e41
        refine ev_r_iast (pc := 102) hx37 hx36 (by decide +kernel) (by exact hr35) ?_
        intro s43
        refine ev_r_aload_n (pc := 103) (k := 0) (v := .ref 621) trivial (by decide +kernel) (by exact e39) ?_
        refine ev_r_getC (pc := 104) (y := 187) (ci := 13) (f := 87) (fin := 1) (k' := 680) (by decide +kernel) (by decide +kernel) (by exact ev_ob_621) rfl rfl ?_
        refine ev_r_iload (pc := 107) (k := 4) (v := Int32.ofInt x22) (by decide +kernel) (by exact e41) ?_
        refine ev_r_aload_n (pc := 109) (k := 0) (v := .ref 621) trivial (by decide +kernel) (by exact e39) ?_
        refine ev_r_getC (pc := 110) (y := 163) (ci := 13) (f := 66) (fin := 1) (k' := 672) (by decide +kernel) (by decide +kernel) (by exact ev_ob_621) rfl rfl ?_
        refine ev_r_iconst (pc := 113) (k := 2) (by decide +kernel) ?_
        refine ev_r_iload (pc := 114) (k := 4) (v := Int32.ofInt x22) (by decide +kernel) (by exact e41) ?_
        refine ev_r_imul (pc := 116) (by decide +kernel) ?_
        intro x44 hx44
        refine ev_r_iconst (pc := 117) (k := 1) (by decide +kernel) ?_
        refine ev_r_iadd (pc := 118) (by decide +kernel) ?_
        intro x45 hx45
        refine ev_r_iald (pc := 119) hx45 (by decide +kernel) (by exact ev_ab_672) ?_
        intro x46 hx46
        refine ev_r_iast (pc := 120) hx46 hx22 (by decide +kernel) (by exact ev_ab_680) ?_
        intro s47
        refine ev_r_iinc (pc := 121) (k := 4) (c := 1) (x := x22) (by decide +kernel) (by decide +kernel) (by exact e41) (fun _ => rfl) ?_
        intro x48 hx48
        refine ev_r_goto (pc := 124) (o := (-67)) (t := 57) (by decide +kernel) (by decide +kernel) ?_
        exact hK57 x48 hx48 s47 _ (by exact (ev_l1 e39 (by decide) (by decide))) (by exact (ev_lk_st1 e40 (by decide) rfl)) (by exact ev_lk_st1_self)
      · intro K102 hK102
        refine ev_r_icmp (pc := 86) (q := .ne) (o := 7) (t := 93) (c := x34 ≠ (-1)) (by decide +kernel) (ev_k_ne hx34 (by decide)) (by decide +kernel) ?_ ?_
        · intro c49
          refine ev_r_aload_n (pc := 93) (k := 0) (v := .ref 621) trivial (by decide +kernel) (by exact e24) ?_
          refine ev_r_getC (pc := 94) (y := 163) (ci := 13) (f := 66) (fin := 1) (k' := 672) (by decide +kernel) (by decide +kernel) (by exact ev_ob_621) rfl rfl ?_
          refine ev_r_iconst (pc := 97) (k := 2) (by decide +kernel) ?_
          refine ev_r_iload (pc := 98) (k := 4) (v := Int32.ofInt x22) (by decide +kernel) (by exact e26) ?_
          refine ev_r_imul (pc := 100) (by decide +kernel) ?_
          intro x50 hx50
          refine ev_r_iald (pc := 101) hx50 (by decide +kernel) (by exact ev_ab_672) ?_
          intro x51 hx51
          exact hK102 x51 hx51 x22 hx22 679 ev_ab_679 s27 _ (by exact e24) (by exact e25) (by exact e26)
        · intro c49
          refine ev_r_iconst (pc := 89) (k := -1) (by decide +kernel) ?_
          refine ev_r_goto (pc := 90) (o := 12) (t := 102) (by decide +kernel) (by decide +kernel) ?_
          exact hK102 ((-1)) (by decide) x22 hx22 679 ev_ab_679 s27 _ (by exact e24) (by exact e25) (by exact e26)
theorem jlt_315_57 (d : Nat) (hd : 8 ≤ d + 1) (Q : Nat) (x9 : Int) (hx9 : ev_rng x9)   : ∀ q : Nat, ∀ (x22 : Int) (hx22 : ev_rng x22), ∀ (s27 : ev_St) (w23 : List (Nat × Value)), ev_lk w23 0 = some (.ref 621) → ev_lk w23 3 = some (.int (Int32.ofInt x9)) → ev_lk w23 4 = some (.int (Int32.ofInt x22)) → ev_w none (ev_Mof 315) d 57 w23 [] s27 (jl_315_57 Q x9  q x22 s27) ev_eI ev_bl := by
  intro q
  induction q with
  | zero =>
    intro x22 hx22 s27 w23 e24 e25 e26
    exact ev_w_none
  | succ q ih => exact jbt_315_57 d hd Q x9 hx9   _ ih
def jb_315_27 (Q : Nat) (a0 : Int)  (K27 : Int → Int → ev_St → Option ((Int) × ev_St)) (x9 : Int) (x10 : Int) (s16 : ev_St) : Option ((Int) × ev_St) := ev_b (s16.1 621 73) fun x17 => ev_jn (fun  (s21 : ev_St) => jl_315_57 Q x9  Q 1 s21) fun K54 => if x17 < x10 then (K54  s16) else (if x9 ≠ 0 then (K54  s16) else (ev_bd (jm_314 Q a0 x10 s16) fun x55 s54 => ev_ck (x10 + 1) fun x56 => K27 x55 x56 s54))
def jl_315_27 (Q : Nat) (a0 : Int)  : Nat → Int → Int → ev_St → Option ((Int) × ev_St)
  | 0 => fun _ _ _ => none
  | q + 1 => jb_315_27 Q a0  (jl_315_27 Q a0  q)
theorem jbt_315_27 (d : Nat) (hd : 8 ≤ d + 1) (Q : Nat) (a0 : Int) (ha0 : ev_rng a0)   (K27 : Int → Int → ev_St → Option ((Int) × ev_St)) (hK27 : ∀ (x9 : Int) (hx9 : ev_rng x9), ∀ (x10 : Int) (hx10 : ev_rng x10), ∀ (s16 : ev_St) (w11 : List (Nat × Value)), ev_lk w11 0 = some (.ref 621) → ev_lk w11 1 = some (.int (Int32.ofInt a0)) → ev_lk w11 3 = some (.int (Int32.ofInt x9)) → ev_lk w11 4 = some (.int (Int32.ofInt x10)) → ev_w none (ev_Mof 315) d 27 w11 [] s16 (K27 x9 x10 s16) ev_eI ev_bl) : ∀ (x9 : Int) (hx9 : ev_rng x9), ∀ (x10 : Int) (hx10 : ev_rng x10), ∀ (s16 : ev_St) (w11 : List (Nat × Value)), ev_lk w11 0 = some (.ref 621) → ev_lk w11 1 = some (.int (Int32.ofInt a0)) → ev_lk w11 3 = some (.int (Int32.ofInt x9)) → ev_lk w11 4 = some (.int (Int32.ofInt x10)) → ev_w none (ev_Mof 315) d 27 w11 [] s16 (jb_315_27 Q a0  K27 x9 x10 s16) ev_eI ev_bl := by
  intro x9 hx9 x10 hx10 s16 w11 e12 e13 e14 e15
  unfold jb_315_27
  refine ev_r_iload (pc := 27) (k := 4) (v := Int32.ofInt x10) (by decide +kernel) (by exact e15) ?_
  refine ev_r_aload_n (pc := 29) (k := 0) (v := .ref 621) trivial (by decide +kernel) (by exact e12) ?_
  refine ev_r_getI (pc := 30) (y := 567) (ci := 13) (f := 73) (fin := 0) (by decide +kernel) (by decide +kernel) (by exact ev_ob_621) rfl ?_
  intro x17 hx17
  refine ev_r_jn (Q := fun K => ∀ (s21 : ev_St) (w18 : List (Nat × Value)), ev_lk w18 0 = some (.ref 621) → ev_lk w18 3 = some (.int (Int32.ofInt x9)) → ev_w none (ev_Mof 315) d 54 w18 [] s21 (K  s21) ev_eI ev_bl) ?_ ?_
  · intro  s21 w18 e19 e20
    refine ev_r_iconst (pc := 54) (k := 1) (by decide +kernel) ?_
    refine ev_r_istore (pc := 55) (k := 4) (by decide +kernel) (by decide +kernel) rfl ?_
    exact jlt_315_57 d hd Q x9 hx9   Q 1 (by decide) s21 _ (by exact (ev_l1 e19 (by decide) (by decide))) (by exact (ev_lk_st1 e20 (by decide) rfl)) (by exact ev_lk_st1_self)
  · intro K54 hK54
    refine ev_r_icmp (pc := 33) (q := .gt) (o := 21) (t := 54) (c := x17 < x10) (by decide +kernel) (ev_k_gt hx10 hx17) (by decide +kernel) ?_ ?_
    · intro c52
      exact hK54  s16 _ (by exact e12) (by exact e14)
    · intro c52
      refine ev_r_iload_n (pc := 36) (k := 3) (v := Int32.ofInt x9) (by decide +kernel) (by exact e14) ?_
      refine ev_r_if (pc := 37) (q := .ne) (o := 17) (t := 54) (c := x9 ≠ 0) (by decide +kernel) (ev_k_ne hx9 ev_rng0) (by decide +kernel) ?_ ?_
      · intro c53
        exact hK54  s16 _ (by exact e12) (by exact e14)
      · intro c53
        refine ev_r_aload_n (pc := 40) (k := 0) (v := .ref 621) trivial (by decide +kernel) (by exact e12) ?_
        refine ev_r_iload_n (pc := 41) (k := 1) (v := Int32.ofInt a0) (by decide +kernel) (by exact e13) ?_
        refine ev_r_iload (pc := 42) (k := 4) (v := Int32.ofInt x10) (by decide +kernel) (by exact e15) ?_
        refine ev_r_virt (pc := 44) (y := 692) (mi := 314) (na := 2) (k := 621) (as := [.int (Int32.ofInt a0), .int (Int32.ofInt x10)]) (rest := []) (encc := ev_oI) (Q := ev_bl) (fun x S1 h => jt_314 d (by omega) Q a0 x10 ha0 hx10 s16 x S1 h) (by exact ev_ob_621) (by decide +kernel) (by decide +kernel) (by decide +kernel) (by decide +kernel) rfl (by (try simp only [ev_sum, ev_nv_cat]); first | done | rfl) ?_
        intro x55 s54 hx55
        replace hx55 := ev_bl_rng hx55
        show ev_w _ _ _ _ _ [.int (Int32.ofInt x55)] _ _ _ _
        refine ev_r_istore_n (pc := 47) (k := 3) (by decide +kernel) (by decide +kernel) rfl ?_
        refine ev_r_iinc (pc := 48) (k := 4) (c := 1) (x := x10) (by decide +kernel) (by decide +kernel) (by exact (ev_l1 e15 (by decide) (by decide))) (fun _ => rfl) ?_
        intro x56 hx56
        refine ev_r_goto (pc := 51) (o := (-24)) (t := 27) (by decide +kernel) (by decide +kernel) ?_
        exact hK27 x55 hx55 x56 hx56 s54 _ (by exact (ev_l1 (ev_l1 e12 (by decide) (by decide)) (by decide) (by decide))) (by exact (ev_l1 (ev_l1 e13 (by decide) (by decide)) (by decide) (by decide))) (by exact (ev_lk_st1 ev_lk_st1_self (by decide) rfl)) (by exact ev_lk_st1_self)
theorem jlt_315_27 (d : Nat) (hd : 8 ≤ d + 1) (Q : Nat) (a0 : Int) (ha0 : ev_rng a0)   : ∀ q : Nat, ∀ (x9 : Int) (hx9 : ev_rng x9), ∀ (x10 : Int) (hx10 : ev_rng x10), ∀ (s16 : ev_St) (w11 : List (Nat × Value)), ev_lk w11 0 = some (.ref 621) → ev_lk w11 1 = some (.int (Int32.ofInt a0)) → ev_lk w11 3 = some (.int (Int32.ofInt x9)) → ev_lk w11 4 = some (.int (Int32.ofInt x10)) → ev_w none (ev_Mof 315) d 27 w11 [] s16 (jl_315_27 Q a0  q x9 x10 s16) ev_eI ev_bl := by
  intro q
  induction q with
  | zero =>
    intro x9 hx9 x10 hx10 s16 w11 e12 e13 e14 e15
    exact ev_w_none
  | succ q ih => exact jbt_315_27 d hd Q a0 ha0   _ ih
def jb_315_2 (Q : Nat) (a0 : Int) (a1 : Int)  (K2 : Int → ev_St → Option ((Int) × ev_St)) (x1 : Int) (s7 : ev_St) : Option ((Int) × ev_St) := if 17010 ≤ x1 then (jl_315_27 Q a0  Q 0 a1 s7) else (ev_if ((0 : Int) ≤ x1 ∧ x1 < (ev_aln 669 : Int)) (ev_b (ev_pI s7 669 (Int.toNat x1) 0) fun s57 => ev_ck (x1 + 1) fun x58 => K2 x58 s57))
def jl_315_2 (Q : Nat) (a0 : Int) (a1 : Int)  : Nat → Int → ev_St → Option ((Int) × ev_St)
  | 0 => fun _ _ => none
  | q + 1 => jb_315_2 Q a0 a1  (jl_315_2 Q a0 a1  q)
theorem jbt_315_2 (d : Nat) (hd : 8 ≤ d + 1) (Q : Nat) (a0 : Int) (a1 : Int) (ha0 : ev_rng a0) (ha1 : ev_rng a1)   (K2 : Int → ev_St → Option ((Int) × ev_St)) (hK2 : ∀ (x1 : Int) (hx1 : ev_rng x1), ∀ (s7 : ev_St) (w2 : List (Nat × Value)), ev_lk w2 0 = some (.ref 621) → ev_lk w2 1 = some (.int (Int32.ofInt a0)) → ev_lk w2 2 = some (.int (Int32.ofInt a1)) → ev_lk w2 3 = some (.int (Int32.ofInt x1)) → ev_w none (ev_Mof 315) d 2 w2 [] s7 (K2 x1 s7) ev_eI ev_bl) : ∀ (x1 : Int) (hx1 : ev_rng x1), ∀ (s7 : ev_St) (w2 : List (Nat × Value)), ev_lk w2 0 = some (.ref 621) → ev_lk w2 1 = some (.int (Int32.ofInt a0)) → ev_lk w2 2 = some (.int (Int32.ofInt a1)) → ev_lk w2 3 = some (.int (Int32.ofInt x1)) → ev_w none (ev_Mof 315) d 2 w2 [] s7 (jb_315_2 Q a0 a1  K2 x1 s7) ev_eI ev_bl := by
  intro x1 hx1 s7 w2 e3 e4 e5 e6
  unfold jb_315_2
  refine ev_r_iload_n (pc := 2) (k := 3) (v := Int32.ofInt x1) (by decide +kernel) (by exact e6) ?_
  refine ev_r_sipush (pc := 3) (k := 17010) (by decide +kernel) (by decide +kernel) ?_
  refine ev_r_icmp (pc := 6) (q := .ge) (o := 16) (t := 22) (c := 17010 ≤ x1) (by decide +kernel) (ev_k_ge hx1 (by decide)) (by decide +kernel) ?_ ?_
  · intro c8
    refine ev_r_iconst (pc := 22) (k := 0) (by decide +kernel) ?_
    refine ev_r_istore_n (pc := 23) (k := 3) (by decide +kernel) (by decide +kernel) rfl ?_
    refine ev_r_iload_n (pc := 24) (k := 2) (v := Int32.ofInt a1) (by decide +kernel) (by exact (ev_lk_st1 e5 (by decide) rfl)) ?_
    refine ev_r_istore (pc := 25) (k := 4) (by decide +kernel) (by decide +kernel) rfl ?_
    exact jlt_315_27 d hd Q a0 ha0   Q 0 (by decide) a1 ha1 s7 _ (by exact (ev_l1 (ev_l1 e3 (by decide) (by decide)) (by decide) (by decide))) (by exact (ev_l1 (ev_l1 e4 (by decide) (by decide)) (by decide) (by decide))) (by exact (ev_lk_st1 ev_lk_st1_self (by decide) rfl)) (by exact ev_lk_st1_self)
  · intro c8
    refine ev_r_aload_n (pc := 9) (k := 0) (v := .ref 621) trivial (by decide +kernel) (by exact e3) ?_
    refine ev_r_getC (pc := 10) (y := 153) (ci := 13) (f := 63) (fin := 1) (k' := 669) (by decide +kernel) (by decide +kernel) (by exact ev_ob_621) rfl rfl ?_
    refine ev_r_iload_n (pc := 13) (k := 3) (v := Int32.ofInt x1) (by decide +kernel) (by exact e6) ?_
    refine ev_r_iconst (pc := 14) (k := 0) (by decide +kernel) ?_
    refine ev_r_bast (pc := 15) (ty := .boolean) (Or.inr rfl) (ev_nar_bl (by decide : ev_bl 0)) (by decide) hx1 (by decide +kernel) (by exact ev_ab_669) ?_
    intro s57
    refine ev_r_iinc (pc := 16) (k := 3) (c := 1) (x := x1) (by decide +kernel) (by decide +kernel) (by exact e6) (fun _ => rfl) ?_
    intro x58 hx58
    refine ev_r_goto (pc := 19) (o := (-17)) (t := 2) (by decide +kernel) (by decide +kernel) ?_
    exact hK2 x58 hx58 s57 _ (by exact (ev_l1 e3 (by decide) (by decide))) (by exact (ev_l1 e4 (by decide) (by decide))) (by exact (ev_lk_st1 e5 (by decide) rfl)) (by exact ev_lk_st1_self)
theorem jlt_315_2 (d : Nat) (hd : 8 ≤ d + 1) (Q : Nat) (a0 : Int) (a1 : Int) (ha0 : ev_rng a0) (ha1 : ev_rng a1)   : ∀ q : Nat, ∀ (x1 : Int) (hx1 : ev_rng x1), ∀ (s7 : ev_St) (w2 : List (Nat × Value)), ev_lk w2 0 = some (.ref 621) → ev_lk w2 1 = some (.int (Int32.ofInt a0)) → ev_lk w2 2 = some (.int (Int32.ofInt a1)) → ev_lk w2 3 = some (.int (Int32.ofInt x1)) → ev_w none (ev_Mof 315) d 2 w2 [] s7 (jl_315_2 Q a0 a1  q x1 s7) ev_eI ev_bl := by
  intro q
  induction q with
  | zero =>
    intro x1 hx1 s7 w2 e3 e4 e5 e6
    exact ev_w_none
  | succ q ih => exact jbt_315_2 d hd Q a0 a1 ha0 ha1   _ ih
/-- MendBenchModel.finds(II)Z -/
def jm_315 (Q : Nat) (a0 : Int) (a1 : Int) (S : ev_St) : Option ((Int) × ev_St) := jl_315_2 Q a0 a1  Q 0 S
theorem jt_315 (d : Nat) (hd : 8 ≤ d) (Q : Nat) (a0 : Int) (a1 : Int) (ha0 : ev_rng a0) (ha1 : ev_rng a1) (S : ev_St) (x : Int) (S' : ev_St) (hJ : jm_315 Q a0 a1 S = some (x, S')) : ev_Ref d 315 [.ref 621, .int (Int32.ofInt a0), .int (Int32.ofInt a1)] S (ev_eI x) S' (ev_bl x) := by
  obtain ⟨d, rfl⟩ : ∃ e, d = e + 1 := ⟨d - 1, by omega⟩
  refine ev_ref_of (P := ev_bl) (lv := [(0, .ref 621), (1, .int (Int32.ofInt a0)), (2, .int (Int32.ofInt a1))]) (by decide +kernel) (by (try simp only [ev_sum, ev_nv_cat]); first | done | rfl) (by (try simp only [lv_args, ev_nv_cat]); first | done | rfl) ?_ x S' hJ
  unfold jm_315
  refine ev_r_iconst (pc := 0) (k := 0) (by decide +kernel) ?_
  refine ev_r_istore_n (pc := 1) (k := 3) (by decide +kernel) (by decide +kernel) rfl ?_
  exact jlt_315_2 d hd Q a0 a1 ha0 ha1   Q 0 (by decide) S _ (by exact (ev_l1 (by rfl) (by decide) (by decide))) (by exact (ev_l1 (by rfl) (by decide) (by decide))) (by exact (ev_lk_st1 (by rfl) (by decide) rfl)) (by exact ev_lk_st1_self)
def jb_316_42 (Q : Nat) (a0 : Int) (x2 : Int) (x11 : Int) (K30 : Int → ev_St → Option ((Unit) × ev_St)) (K42 : Int → ev_St → Option ((Unit) × ev_St)) (x19 : Int) (s26 : ev_St) : Option ((Unit) × ev_St) := if x19 < 0 then (ev_ck (x11 + 1) fun x28 => K30 x28 s26) else (ev_ck (x2 + x19) fun x29 => ev_if ((0 : Int) ≤ x29 ∧ x29 < (ev_aln 662 : Int)) (ev_b (s26.1 662 (Int.toNat x29)) fun x30 => ev_ck (x2 + x19) fun x31 => ev_if ((0 : Int) ≤ x31 ∧ x31 < (ev_aln 663 : Int)) (ev_b (s26.1 663 (Int.toNat x31)) fun x32 => ev_jn (fun (x33 : Int) (s40 : ev_St) => ev_if ((0 : Int) ≤ x19 ∧ x19 < (ev_aln 673 : Int)) (ev_b (s40.1 673 (Int.toNat x19)) fun x41 => ev_jn (fun (x44 : Int) (x43 : Int) (r42 : Nat) (s51 : ev_St) => ev_if (ev_bl x44) (ev_if ((0 : Int) ≤ x43 ∧ x43 < (ev_aln r42 : Int)) (ev_b (ev_pI s51 r42 (Int.toNat x43) x44) fun s52 => ev_ck (x19 + (-1)) fun x54 => K42 x54 s52))) fun K223 => ev_jn (fun (x56 : Int) (r55 : Nat) (s63 : ev_St) => K223 1 x56 r55 s63) fun K218 => if x41 ≠ 0 then (K218 x19 673 s40) else (ev_if ((0 : Int) ≤ a0 ∧ a0 < (ev_aln 665 : Int)) (ev_b (s40.1 665 (Int.toNat a0)) fun x65 => ev_jn (fun (x67 : Int) (r66 : Nat) (s74 : ev_St) => K223 0 x67 r66 s74) fun K222 => if x65 < x19 then (K222 x19 673 s40) else (if x33 = 0 then (K222 x19 673 s40) else (K218 x19 673 s40)))))) fun K184 => ev_jn (fun  (s83 : ev_St) => K184 1 s83) fun K179 => if x30 = 5 then (K179  s26) else (ev_jn (fun  (s93 : ev_St) => ev_jn (fun  (s102 : ev_St) => ev_jn (fun  (s110 : ev_St) => ev_jn (fun  (s117 : ev_St) => K184 0 s117) fun K183 => if x30 ≠ 2 then (K183  s110) else (ev_ck (x2 + x19) fun x119 => ev_if ((0 : Int) ≤ x119 ∧ x119 < (ev_aln 664 : Int)) (ev_b (s110.1 664 (Int.toNat x119)) fun x120 => ev_if ((0 : Int) ≤ x120 ∧ x120 < (ev_aln 673 : Int)) (ev_b (s110.1 673 (Int.toNat x120)) fun x121 => if x121 = 0 then (K183  s110) else (K179  s110))))) fun K156 => if x30 ≤ 1 then (K156  s102) else (if 4 ≤ x30 then (K156  s102) else (ev_if ((0 : Int) ≤ x32 ∧ x32 < (ev_aln 673 : Int)) (ev_b (s102.1 673 (Int.toNat x32)) fun x125 => if x125 ≠ 0 then (K179  s102) else (K156  s102))))) fun K134 => if x30 ≠ 4 then (K134  s93) else (ev_ck (x19 + 1) fun x128 => ev_if ((0 : Int) ≤ x128 ∧ x128 < (ev_aln 673 : Int)) (ev_b (s93.1 673 (Int.toNat x128)) fun x129 => if x129 ≠ 0 then (K179  s93) else (K134  s93)))) fun K116 => if x30 ≠ 0 then (K116  s26) else (ev_if ((0 : Int) ≤ x32 ∧ x32 < (ev_aln 633 : Int)) (ev_b (s26.2.1 633 (Int.toNat x32)) fun y132 => ev_b (ev_lcmp y132 ((Int64.ofNat ((0 : Fin 2) : Nat)))) fun x133 => ev_jn (fun  (s142 : ev_St) => ev_ck (x19 + 1) fun x143 => ev_if ((0 : Int) ≤ x143 ∧ x143 < (ev_aln 673 : Int)) (ev_b (s142.1 673 (Int.toNat x143)) fun x144 => if x144 ≠ 0 then (K179  s142) else (K116  s142))) fun K104 => if x133 ≠ 0 then (K104  s26) else (ev_if ((0 : Int) ≤ x32 ∧ x32 < (ev_aln 634 : Int)) (ev_b (s26.2.1 634 (Int.toNat x32)) fun y147 => ev_b (ev_lcmp y147 ((Int64.ofNat ((0 : Fin 2) : Nat)))) fun x148 => if x148 = 0 then (K116  s26) else (K104  s26)))))))))
def jl_316_42 (Q : Nat) (a0 : Int) (x2 : Int) (x11 : Int) (K30 : Int → ev_St → Option ((Unit) × ev_St)) : Nat → Int → ev_St → Option ((Unit) × ev_St)
  | 0 => fun _ _ => none
  | q + 1 => jb_316_42 Q a0 x2 x11 K30 (jl_316_42 Q a0 x2 x11 K30 q)
theorem jbt_316_42 (d : Nat) (hd : 1 ≤ d + 1) (Q : Nat) (a0 : Int) (x2 : Int) (x11 : Int) (ha0 : ev_rng a0) (hx2 : ev_rng x2) (hx11 : ev_rng x11) (K30 : Int → ev_St → Option ((Unit) × ev_St)) (hK30 : ∀ (x11 : Int) (hx11 : ev_rng x11), ∀ (s17 : ev_St) (w12 : List (Nat × Value)), ev_lk w12 0 = some (.ref 621) → ev_lk w12 1 = some (.int (Int32.ofInt a0)) → ev_lk w12 2 = some (.int (Int32.ofInt x2)) → ev_lk w12 3 = some (.int (Int32.ofInt x11)) → ev_w none (ev_Mof 316) d 30 w12 [] s17 (K30 x11 s17) ev_eU ev_PU) (K42 : Int → ev_St → Option ((Unit) × ev_St)) (hK42 : ∀ (x19 : Int) (hx19 : ev_rng x19), ∀ (s26 : ev_St) (w20 : List (Nat × Value)), ev_lk w20 0 = some (.ref 621) → ev_lk w20 1 = some (.int (Int32.ofInt a0)) → ev_lk w20 2 = some (.int (Int32.ofInt x2)) → ev_lk w20 3 = some (.int (Int32.ofInt x11)) → ev_lk w20 4 = some (.int (Int32.ofInt x19)) → ev_w none (ev_Mof 316) d 42 w20 [] s26 (K42 x19 s26) ev_eU ev_PU) : ∀ (x19 : Int) (hx19 : ev_rng x19), ∀ (s26 : ev_St) (w20 : List (Nat × Value)), ev_lk w20 0 = some (.ref 621) → ev_lk w20 1 = some (.int (Int32.ofInt a0)) → ev_lk w20 2 = some (.int (Int32.ofInt x2)) → ev_lk w20 3 = some (.int (Int32.ofInt x11)) → ev_lk w20 4 = some (.int (Int32.ofInt x19)) → ev_w none (ev_Mof 316) d 42 w20 [] s26 (jb_316_42 Q a0 x2 x11 K30 K42 x19 s26) ev_eU ev_PU := by
  intro x19 hx19 s26 w20 e21 e22 e23 e24 e25
  unfold jb_316_42
  refine ev_r_iload (pc := 42) (k := 4) (v := Int32.ofInt x19) (by decide +kernel) (by exact e25) ?_
  refine ev_r_if (pc := 44) (q := .lt) (o := 186) (t := 230) (c := x19 < 0) (by decide +kernel) (ev_k_lt hx19 ev_rng0) (by decide +kernel) ?_ ?_
  · intro c27
    refine ev_r_iinc (pc := 230) (k := 3) (c := 1) (x := x11) (by decide +kernel) (by decide +kernel) (by exact e24) (fun _ => rfl) ?_
    intro x28 hx28
    refine ev_r_goto (pc := 233) (o := (-203)) (t := 30) (by decide +kernel) (by decide +kernel) ?_
    exact hK30 x28 hx28 s26 _ (by exact (ev_l1 e21 (by decide) (by decide))) (by exact (ev_l1 e22 (by decide) (by decide))) (by exact (ev_lk_st1 e23 (by decide) rfl)) (by exact ev_lk_st1_self)
  · intro c27
    refine ev_r_aload_n (pc := 47) (k := 0) (v := .ref 621) trivial (by decide +kernel) (by exact e21) ?_
    refine ev_r_getC (pc := 48) (y := 132) (ci := 13) (f := 55) (fin := 1) (k' := 662) (by decide +kernel) (by decide +kernel) (by exact ev_ob_621) rfl rfl ?_
    refine ev_r_iload_n (pc := 51) (k := 2) (v := Int32.ofInt x2) (by decide +kernel) (by exact e23) ?_
    refine ev_r_iload (pc := 52) (k := 4) (v := Int32.ofInt x19) (by decide +kernel) (by exact e25) ?_
    refine ev_r_iadd (pc := 54) (by decide +kernel) ?_
    intro x29 hx29
    refine ev_r_iald (pc := 55) hx29 (by decide +kernel) (by exact ev_ab_662) ?_
    intro x30 hx30
    refine ev_r_istore (pc := 56) (k := 5) (by decide +kernel) (by decide +kernel) rfl ?_
    refine ev_r_aload_n (pc := 58) (k := 0) (v := .ref 621) trivial (by decide +kernel) (by exact (ev_l1 e21 (by decide) (by decide))) ?_
    refine ev_r_getC (pc := 59) (y := 135) (ci := 13) (f := 56) (fin := 1) (k' := 663) (by decide +kernel) (by decide +kernel) (by exact ev_ob_621) rfl rfl ?_
    refine ev_r_iload_n (pc := 62) (k := 2) (v := Int32.ofInt x2) (by decide +kernel) (by exact (ev_l1 e23 (by decide) (by decide))) ?_
    refine ev_r_iload (pc := 63) (k := 4) (v := Int32.ofInt x19) (by decide +kernel) (by exact (ev_lk_st1 e25 (by decide) rfl)) ?_
    refine ev_r_iadd (pc := 65) (by decide +kernel) ?_
    intro x31 hx31
    refine ev_r_iald (pc := 66) hx31 (by decide +kernel) (by exact ev_ab_663) ?_
    intro x32 hx32
    refine ev_r_istore (pc := 67) (k := 6) (by decide +kernel) (by decide +kernel) rfl ?_
    refine ev_r_iload (pc := 69) (k := 5) (v := Int32.ofInt x30) (by decide +kernel) (by exact (ev_lk_st1 ev_lk_st1_self (by decide) rfl)) ?_
    refine ev_r_iconst (pc := 71) (k := 5) (by decide +kernel) ?_
    refine ev_r_jn (Q := fun K => ∀ (x33 : Int) (hx33 : ev_rng x33), ∀ (s40 : ev_St) (w34 : List (Nat × Value)), ev_lk w34 0 = some (.ref 621) → ev_lk w34 1 = some (.int (Int32.ofInt a0)) → ev_lk w34 2 = some (.int (Int32.ofInt x2)) → ev_lk w34 3 = some (.int (Int32.ofInt x11)) → ev_lk w34 4 = some (.int (Int32.ofInt x19)) → ev_w none (ev_Mof 316) d 184 w34 [.int (Int32.ofInt x33)] s40 (K x33 s40) ev_eU ev_PU) ?_ ?_
    · intro x33 hx33 s40 w34 e35 e36 e37 e38 e39
      refine ev_r_istore (pc := 184) (k := 7) (by decide +kernel) (by decide +kernel) rfl ?_
      refine ev_r_aload_n (pc := 186) (k := 0) (v := .ref 621) trivial (by decide +kernel) (by exact (ev_l1 e35 (by decide) (by decide))) ?_
      refine ev_r_getC (pc := 187) (y := 166) (ci := 13) (f := 67) (fin := 1) (k' := 673) (by decide +kernel) (by decide +kernel) (by exact ev_ob_621) rfl rfl ?_
      refine ev_r_iload (pc := 190) (k := 4) (v := Int32.ofInt x19) (by decide +kernel) (by exact (ev_l1 e39 (by decide) (by decide))) ?_
      refine ev_r_aload_n (pc := 192) (k := 0) (v := .ref 621) trivial (by decide +kernel) (by exact (ev_l1 e35 (by decide) (by decide))) ?_
      refine ev_r_getC (pc := 193) (y := 166) (ci := 13) (f := 67) (fin := 1) (k' := 673) (by decide +kernel) (by decide +kernel) (by exact ev_ob_621) rfl rfl ?_
      refine ev_r_iload (pc := 196) (k := 4) (v := Int32.ofInt x19) (by decide +kernel) (by exact (ev_l1 e39 (by decide) (by decide))) ?_
      refine ev_r_bald (pc := 198) (ty := .boolean) (Or.inr rfl) hx19 (by decide +kernel) (by exact ev_ab_673) ?_
      intro x41 hx41
      refine ev_r_jn (Q := fun K => ∀ (x44 : Int) (hx44 : ev_rng x44), ∀ (x43 : Int) (hx43 : ev_rng x43), ∀ (r42 : Nat) (hr42 : ev_isAb r42 1 .boolean = true), ∀ (s51 : ev_St) (w45 : List (Nat × Value)), ev_lk w45 0 = some (.ref 621) → ev_lk w45 1 = some (.int (Int32.ofInt a0)) → ev_lk w45 2 = some (.int (Int32.ofInt x2)) → ev_lk w45 3 = some (.int (Int32.ofInt x11)) → ev_lk w45 4 = some (.int (Int32.ofInt x19)) → ev_w none (ev_Mof 316) d 223 w45 [.int (Int32.ofInt x44), .int (Int32.ofInt x43), .ref r42] s51 (K x44 x43 r42 s51) ev_eU ev_PU) ?_ ?_
      · intro x44 hx44 x43 hx43 r42 hr42 s51 w45 e46 e47 e48 e49 e50
        refine ev_r_chk ?_
        intro c53
        refine ev_r_bast (pc := 223) (ty := .boolean) (Or.inr rfl) (ev_nar_bl c53) hx44 hx43 (by decide +kernel) (by exact hr42) ?_
        intro s52
        refine ev_r_iinc (pc := 224) (k := 4) (c := -1) (x := x19) (by decide +kernel) (by decide +kernel) (by exact e50) (fun _ => rfl) ?_
        intro x54 hx54
        refine ev_r_goto (pc := 227) (o := (-185)) (t := 42) (by decide +kernel) (by decide +kernel) ?_
        exact hK42 x54 hx54 s52 _ (by exact (ev_l1 e46 (by decide) (by decide))) (by exact (ev_l1 e47 (by decide) (by decide))) (by exact (ev_l1 e48 (by decide) (by decide))) (by exact (ev_lk_st1 e49 (by decide) rfl)) (by exact ev_lk_st1_self)
      · intro K223 hK223
        refine ev_r_jn (Q := fun K => ∀ (x56 : Int) (hx56 : ev_rng x56), ∀ (r55 : Nat) (hr55 : ev_isAb r55 1 .boolean = true), ∀ (s63 : ev_St) (w57 : List (Nat × Value)), ev_lk w57 0 = some (.ref 621) → ev_lk w57 1 = some (.int (Int32.ofInt a0)) → ev_lk w57 2 = some (.int (Int32.ofInt x2)) → ev_lk w57 3 = some (.int (Int32.ofInt x11)) → ev_lk w57 4 = some (.int (Int32.ofInt x19)) → ev_w none (ev_Mof 316) d 218 w57 [.int (Int32.ofInt x56), .ref r55] s63 (K x56 r55 s63) ev_eU ev_PU) ?_ ?_
        · intro x56 hx56 r55 hr55 s63 w57 e58 e59 e60 e61 e62
          refine ev_r_iconst (pc := 218) (k := 1) (by decide +kernel) ?_
          refine ev_r_goto (pc := 219) (o := 4) (t := 223) (by decide +kernel) (by decide +kernel) ?_
          exact hK223 1 (by decide) x56 hx56 r55 hr55 s63 _ (by exact e58) (by exact e59) (by exact e60) (by exact e61) (by exact e62)
        · intro K218 hK218
          refine ev_r_if (pc := 199) (q := .ne) (o := 19) (t := 218) (c := x41 ≠ 0) (by decide +kernel) (ev_k_ne hx41 ev_rng0) (by decide +kernel) ?_ ?_
          · intro c64
            exact hK218 x19 hx19 673 ev_ab_673 s40 _ (by exact (ev_l1 e35 (by decide) (by decide))) (by exact (ev_l1 e36 (by decide) (by decide))) (by exact (ev_l1 e37 (by decide) (by decide))) (by exact (ev_l1 e38 (by decide) (by decide))) (by exact (ev_l1 e39 (by decide) (by decide)))
          · intro c64
            refine ev_r_iload (pc := 202) (k := 4) (v := Int32.ofInt x19) (by decide +kernel) (by exact (ev_l1 e39 (by decide) (by decide))) ?_
            refine ev_r_aload_n (pc := 204) (k := 0) (v := .ref 621) trivial (by decide +kernel) (by exact (ev_l1 e35 (by decide) (by decide))) ?_
            refine ev_r_getC (pc := 205) (y := 141) (ci := 13) (f := 58) (fin := 1) (k' := 665) (by decide +kernel) (by decide +kernel) (by exact ev_ob_621) rfl rfl ?_
            refine ev_r_iload_n (pc := 208) (k := 1) (v := Int32.ofInt a0) (by decide +kernel) (by exact (ev_l1 e36 (by decide) (by decide))) ?_
            refine ev_r_iald (pc := 209) ha0 (by decide +kernel) (by exact ev_ab_665) ?_
            intro x65 hx65
            refine ev_r_jn (Q := fun K => ∀ (x67 : Int) (hx67 : ev_rng x67), ∀ (r66 : Nat) (hr66 : ev_isAb r66 1 .boolean = true), ∀ (s74 : ev_St) (w68 : List (Nat × Value)), ev_lk w68 0 = some (.ref 621) → ev_lk w68 1 = some (.int (Int32.ofInt a0)) → ev_lk w68 2 = some (.int (Int32.ofInt x2)) → ev_lk w68 3 = some (.int (Int32.ofInt x11)) → ev_lk w68 4 = some (.int (Int32.ofInt x19)) → ev_w none (ev_Mof 316) d 222 w68 [.int (Int32.ofInt x67), .ref r66] s74 (K x67 r66 s74) ev_eU ev_PU) ?_ ?_
            · intro x67 hx67 r66 hr66 s74 w68 e69 e70 e71 e72 e73
              refine ev_r_iconst (pc := 222) (k := 0) (by decide +kernel) ?_
              exact hK223 0 (by decide) x67 hx67 r66 hr66 s74 _ (by exact e69) (by exact e70) (by exact e71) (by exact e72) (by exact e73)
            · intro K222 hK222
              refine ev_r_icmp (pc := 210) (q := .gt) (o := 12) (t := 222) (c := x65 < x19) (by decide +kernel) (ev_k_gt hx19 hx65) (by decide +kernel) ?_ ?_
              · intro c75
                exact hK222 x19 hx19 673 ev_ab_673 s40 _ (by exact (ev_l1 e35 (by decide) (by decide))) (by exact (ev_l1 e36 (by decide) (by decide))) (by exact (ev_l1 e37 (by decide) (by decide))) (by exact (ev_l1 e38 (by decide) (by decide))) (by exact (ev_l1 e39 (by decide) (by decide)))
              · intro c75
                refine ev_r_iload (pc := 213) (k := 7) (v := Int32.ofInt x33) (by decide +kernel) (by exact ev_lk_st1_self) ?_
                refine ev_r_if (pc := 215) (q := .eq) (o := 7) (t := 222) (c := x33 = 0) (by decide +kernel) (ev_k_eq hx33 ev_rng0) (by decide +kernel) ?_ ?_
                · intro c76
                  exact hK222 x19 hx19 673 ev_ab_673 s40 _ (by exact (ev_l1 e35 (by decide) (by decide))) (by exact (ev_l1 e36 (by decide) (by decide))) (by exact (ev_l1 e37 (by decide) (by decide))) (by exact (ev_l1 e38 (by decide) (by decide))) (by exact (ev_l1 e39 (by decide) (by decide)))
                · intro c76
                  exact hK218 x19 hx19 673 ev_ab_673 s40 _ (by exact (ev_l1 e35 (by decide) (by decide))) (by exact (ev_l1 e36 (by decide) (by decide))) (by exact (ev_l1 e37 (by decide) (by decide))) (by exact (ev_l1 e38 (by decide) (by decide))) (by exact (ev_l1 e39 (by decide) (by decide)))
    · intro K184 hK184
      refine ev_r_jn (Q := fun K => ∀ (s83 : ev_St) (w77 : List (Nat × Value)), ev_lk w77 0 = some (.ref 621) → ev_lk w77 1 = some (.int (Int32.ofInt a0)) → ev_lk w77 2 = some (.int (Int32.ofInt x2)) → ev_lk w77 3 = some (.int (Int32.ofInt x11)) → ev_lk w77 4 = some (.int (Int32.ofInt x19)) → ev_w none (ev_Mof 316) d 179 w77 [] s83 (K  s83) ev_eU ev_PU) ?_ ?_
      · intro  s83 w77 e78 e79 e80 e81 e82
        refine ev_r_iconst (pc := 179) (k := 1) (by decide +kernel) ?_
        refine ev_r_goto (pc := 180) (o := 4) (t := 184) (by decide +kernel) (by decide +kernel) ?_
        exact hK184 1 (by decide) s83 _ (by exact e78) (by exact e79) (by exact e80) (by exact e81) (by exact e82)
      · intro K179 hK179
        refine ev_r_icmp (pc := 72) (q := .eq) (o := 107) (t := 179) (c := x30 = 5) (by decide +kernel) (ev_k_eq hx30 (by decide)) (by decide +kernel) ?_ ?_
        · intro c84
          exact hK179  s26 _ (by exact (ev_l1 (ev_l1 e21 (by decide) (by decide)) (by decide) (by decide))) (by exact (ev_l1 (ev_l1 e22 (by decide) (by decide)) (by decide) (by decide))) (by exact (ev_l1 (ev_l1 e23 (by decide) (by decide)) (by decide) (by decide))) (by exact (ev_l1 (ev_l1 e24 (by decide) (by decide)) (by decide) (by decide))) (by exact (ev_l1 (ev_lk_st1 e25 (by decide) rfl) (by decide) (by decide)))
        · intro c84
          refine ev_r_iload (pc := 75) (k := 5) (v := Int32.ofInt x30) (by decide +kernel) (by exact (ev_lk_st1 ev_lk_st1_self (by decide) rfl)) ?_
          refine ev_r_jn (Q := fun K => ∀ (s93 : ev_St) (w85 : List (Nat × Value)), ev_lk w85 0 = some (.ref 621) → ev_lk w85 1 = some (.int (Int32.ofInt a0)) → ev_lk w85 2 = some (.int (Int32.ofInt x2)) → ev_lk w85 3 = some (.int (Int32.ofInt x11)) → ev_lk w85 4 = some (.int (Int32.ofInt x19)) → ev_lk w85 5 = some (.int (Int32.ofInt x30)) → ev_lk w85 6 = some (.int (Int32.ofInt x32)) → ev_w none (ev_Mof 316) d 116 w85 [] s93 (K  s93) ev_eU ev_PU) ?_ ?_
          · intro  s93 w85 e86 e87 e88 e89 e90 e91 e92
            refine ev_r_iload (pc := 116) (k := 5) (v := Int32.ofInt x30) (by decide +kernel) (by exact e91) ?_
            refine ev_r_iconst (pc := 118) (k := 4) (by decide +kernel) ?_
            refine ev_r_jn (Q := fun K => ∀ (s102 : ev_St) (w94 : List (Nat × Value)), ev_lk w94 0 = some (.ref 621) → ev_lk w94 1 = some (.int (Int32.ofInt a0)) → ev_lk w94 2 = some (.int (Int32.ofInt x2)) → ev_lk w94 3 = some (.int (Int32.ofInt x11)) → ev_lk w94 4 = some (.int (Int32.ofInt x19)) → ev_lk w94 5 = some (.int (Int32.ofInt x30)) → ev_lk w94 6 = some (.int (Int32.ofInt x32)) → ev_w none (ev_Mof 316) d 134 w94 [] s102 (K  s102) ev_eU ev_PU) ?_ ?_
            · intro  s102 w94 e95 e96 e97 e98 e99 e100 e101
              refine ev_r_iload (pc := 134) (k := 5) (v := Int32.ofInt x30) (by decide +kernel) (by exact e100) ?_
              refine ev_r_iconst (pc := 136) (k := 1) (by decide +kernel) ?_
              refine ev_r_jn (Q := fun K => ∀ (s110 : ev_St) (w103 : List (Nat × Value)), ev_lk w103 0 = some (.ref 621) → ev_lk w103 1 = some (.int (Int32.ofInt a0)) → ev_lk w103 2 = some (.int (Int32.ofInt x2)) → ev_lk w103 3 = some (.int (Int32.ofInt x11)) → ev_lk w103 4 = some (.int (Int32.ofInt x19)) → ev_lk w103 5 = some (.int (Int32.ofInt x30)) → ev_w none (ev_Mof 316) d 156 w103 [] s110 (K  s110) ev_eU ev_PU) ?_ ?_
              · intro  s110 w103 e104 e105 e106 e107 e108 e109
                refine ev_r_iload (pc := 156) (k := 5) (v := Int32.ofInt x30) (by decide +kernel) (by exact e109) ?_
                refine ev_r_iconst (pc := 158) (k := 2) (by decide +kernel) ?_
                refine ev_r_jn (Q := fun K => ∀ (s117 : ev_St) (w111 : List (Nat × Value)), ev_lk w111 0 = some (.ref 621) → ev_lk w111 1 = some (.int (Int32.ofInt a0)) → ev_lk w111 2 = some (.int (Int32.ofInt x2)) → ev_lk w111 3 = some (.int (Int32.ofInt x11)) → ev_lk w111 4 = some (.int (Int32.ofInt x19)) → ev_w none (ev_Mof 316) d 183 w111 [] s117 (K  s117) ev_eU ev_PU) ?_ ?_
                · intro  s117 w111 e112 e113 e114 e115 e116
                  refine ev_r_iconst (pc := 183) (k := 0) (by decide +kernel) ?_
                  exact hK184 0 (by decide) s117 _ (by exact e112) (by exact e113) (by exact e114) (by exact e115) (by exact e116)
                · intro K183 hK183
                  refine ev_r_icmp (pc := 159) (q := .ne) (o := 24) (t := 183) (c := x30 ≠ 2) (by decide +kernel) (ev_k_ne hx30 (by decide)) (by decide +kernel) ?_ ?_
                  · intro c118
                    exact hK183  s110 _ (by exact e104) (by exact e105) (by exact e106) (by exact e107) (by exact e108)
                  · intro c118
                    refine ev_r_aload_n (pc := 162) (k := 0) (v := .ref 621) trivial (by decide +kernel) (by exact e104) ?_
                    refine ev_r_getC (pc := 163) (y := 166) (ci := 13) (f := 67) (fin := 1) (k' := 673) (by decide +kernel) (by decide +kernel) (by exact ev_ob_621) rfl rfl ?_
                    refine ev_r_aload_n (pc := 166) (k := 0) (v := .ref 621) trivial (by decide +kernel) (by exact e104) ?_
                    refine ev_r_getC (pc := 167) (y := 138) (ci := 13) (f := 57) (fin := 1) (k' := 664) (by decide +kernel) (by decide +kernel) (by exact ev_ob_621) rfl rfl ?_
                    refine ev_r_iload_n (pc := 170) (k := 2) (v := Int32.ofInt x2) (by decide +kernel) (by exact e106) ?_
                    refine ev_r_iload (pc := 171) (k := 4) (v := Int32.ofInt x19) (by decide +kernel) (by exact e108) ?_
                    refine ev_r_iadd (pc := 173) (by decide +kernel) ?_
                    intro x119 hx119
                    refine ev_r_iald (pc := 174) hx119 (by decide +kernel) (by exact ev_ab_664) ?_
                    intro x120 hx120
                    refine ev_r_bald (pc := 175) (ty := .boolean) (Or.inr rfl) hx120 (by decide +kernel) (by exact ev_ab_673) ?_
                    intro x121 hx121
                    refine ev_r_if (pc := 176) (q := .eq) (o := 7) (t := 183) (c := x121 = 0) (by decide +kernel) (ev_k_eq hx121 ev_rng0) (by decide +kernel) ?_ ?_
                    · intro c122
                      exact hK183  s110 _ (by exact e104) (by exact e105) (by exact e106) (by exact e107) (by exact e108)
                    · intro c122
                      exact hK179  s110 _ (by exact e104) (by exact e105) (by exact e106) (by exact e107) (by exact e108)
              · intro K156 hK156
                refine ev_r_icmp (pc := 137) (q := .le) (o := 19) (t := 156) (c := x30 ≤ 1) (by decide +kernel) (ev_k_le hx30 (by decide)) (by decide +kernel) ?_ ?_
                · intro c123
                  exact hK156  s102 _ (by exact e95) (by exact e96) (by exact e97) (by exact e98) (by exact e99) (by exact e100)
                · intro c123
                  refine ev_r_iload (pc := 140) (k := 5) (v := Int32.ofInt x30) (by decide +kernel) (by exact e100) ?_
                  refine ev_r_iconst (pc := 142) (k := 4) (by decide +kernel) ?_
                  refine ev_r_icmp (pc := 143) (q := .ge) (o := 13) (t := 156) (c := 4 ≤ x30) (by decide +kernel) (ev_k_ge hx30 (by decide)) (by decide +kernel) ?_ ?_
                  · intro c124
                    exact hK156  s102 _ (by exact e95) (by exact e96) (by exact e97) (by exact e98) (by exact e99) (by exact e100)
                  · intro c124
                    refine ev_r_aload_n (pc := 146) (k := 0) (v := .ref 621) trivial (by decide +kernel) (by exact e95) ?_
                    refine ev_r_getC (pc := 147) (y := 166) (ci := 13) (f := 67) (fin := 1) (k' := 673) (by decide +kernel) (by decide +kernel) (by exact ev_ob_621) rfl rfl ?_
                    refine ev_r_iload (pc := 150) (k := 6) (v := Int32.ofInt x32) (by decide +kernel) (by exact e101) ?_
                    refine ev_r_bald (pc := 152) (ty := .boolean) (Or.inr rfl) hx32 (by decide +kernel) (by exact ev_ab_673) ?_
                    intro x125 hx125
                    refine ev_r_if (pc := 153) (q := .ne) (o := 26) (t := 179) (c := x125 ≠ 0) (by decide +kernel) (ev_k_ne hx125 ev_rng0) (by decide +kernel) ?_ ?_
                    · intro c126
                      exact hK179  s102 _ (by exact e95) (by exact e96) (by exact e97) (by exact e98) (by exact e99)
                    · intro c126
                      exact hK156  s102 _ (by exact e95) (by exact e96) (by exact e97) (by exact e98) (by exact e99) (by exact e100)
            · intro K134 hK134
              refine ev_r_icmp (pc := 119) (q := .ne) (o := 15) (t := 134) (c := x30 ≠ 4) (by decide +kernel) (ev_k_ne hx30 (by decide)) (by decide +kernel) ?_ ?_
              · intro c127
                exact hK134  s93 _ (by exact e86) (by exact e87) (by exact e88) (by exact e89) (by exact e90) (by exact e91) (by exact e92)
              · intro c127
                refine ev_r_aload_n (pc := 122) (k := 0) (v := .ref 621) trivial (by decide +kernel) (by exact e86) ?_
                refine ev_r_getC (pc := 123) (y := 166) (ci := 13) (f := 67) (fin := 1) (k' := 673) (by decide +kernel) (by decide +kernel) (by exact ev_ob_621) rfl rfl ?_
                refine ev_r_iload (pc := 126) (k := 4) (v := Int32.ofInt x19) (by decide +kernel) (by exact e90) ?_
                refine ev_r_iconst (pc := 128) (k := 1) (by decide +kernel) ?_
                refine ev_r_iadd (pc := 129) (by decide +kernel) ?_
                intro x128 hx128
                refine ev_r_bald (pc := 130) (ty := .boolean) (Or.inr rfl) hx128 (by decide +kernel) (by exact ev_ab_673) ?_
                intro x129 hx129
                refine ev_r_if (pc := 131) (q := .ne) (o := 48) (t := 179) (c := x129 ≠ 0) (by decide +kernel) (ev_k_ne hx129 ev_rng0) (by decide +kernel) ?_ ?_
                · intro c130
                  exact hK179  s93 _ (by exact e86) (by exact e87) (by exact e88) (by exact e89) (by exact e90)
                · intro c130
                  exact hK134  s93 _ (by exact e86) (by exact e87) (by exact e88) (by exact e89) (by exact e90) (by exact e91) (by exact e92)
          · intro K116 hK116
            refine ev_r_if (pc := 77) (q := .ne) (o := 39) (t := 116) (c := x30 ≠ 0) (by decide +kernel) (ev_k_ne hx30 ev_rng0) (by decide +kernel) ?_ ?_
            · intro c131
              exact hK116  s26 _ (by exact (ev_l1 (ev_l1 e21 (by decide) (by decide)) (by decide) (by decide))) (by exact (ev_l1 (ev_l1 e22 (by decide) (by decide)) (by decide) (by decide))) (by exact (ev_l1 (ev_l1 e23 (by decide) (by decide)) (by decide) (by decide))) (by exact (ev_l1 (ev_l1 e24 (by decide) (by decide)) (by decide) (by decide))) (by exact (ev_l1 (ev_lk_st1 e25 (by decide) rfl) (by decide) (by decide))) (by exact (ev_lk_st1 ev_lk_st1_self (by decide) rfl)) (by exact ev_lk_st1_self)
            · intro c131
              refine ev_r_aload_n (pc := 80) (k := 0) (v := .ref 621) trivial (by decide +kernel) (by exact (ev_l1 (ev_l1 e21 (by decide) (by decide)) (by decide) (by decide))) ?_
              refine ev_r_getC (pc := 81) (y := 43) (ci := 13) (f := 14) (fin := 1) (k' := 633) (by decide +kernel) (by decide +kernel) (by exact ev_ob_621) rfl rfl ?_
              refine ev_r_iload (pc := 84) (k := 6) (v := Int32.ofInt x32) (by decide +kernel) (by exact ev_lk_st1_self) ?_
              refine ev_r_lald (pc := 86) hx32 (by decide +kernel) (by exact ev_ab_633) ?_
              intro y132
              refine ev_r_lconst (pc := 87) (c := 0) (by decide +kernel) ?_
              refine ev_r_toI (pc := 88) (i := .lcmp) (len := 1) (pc' := 89) (by decide +kernel) rfl ?_
              intro x133 hx133
              refine ev_r_jn (Q := fun K => ∀ (s142 : ev_St) (w134 : List (Nat × Value)), ev_lk w134 0 = some (.ref 621) → ev_lk w134 1 = some (.int (Int32.ofInt a0)) → ev_lk w134 2 = some (.int (Int32.ofInt x2)) → ev_lk w134 3 = some (.int (Int32.ofInt x11)) → ev_lk w134 4 = some (.int (Int32.ofInt x19)) → ev_lk w134 5 = some (.int (Int32.ofInt x30)) → ev_lk w134 6 = some (.int (Int32.ofInt x32)) → ev_w none (ev_Mof 316) d 104 w134 [] s142 (K  s142) ev_eU ev_PU) ?_ ?_
              · intro  s142 w134 e135 e136 e137 e138 e139 e140 e141
                refine ev_r_aload_n (pc := 104) (k := 0) (v := .ref 621) trivial (by decide +kernel) (by exact e135) ?_
                refine ev_r_getC (pc := 105) (y := 166) (ci := 13) (f := 67) (fin := 1) (k' := 673) (by decide +kernel) (by decide +kernel) (by exact ev_ob_621) rfl rfl ?_
                refine ev_r_iload (pc := 108) (k := 4) (v := Int32.ofInt x19) (by decide +kernel) (by exact e139) ?_
                refine ev_r_iconst (pc := 110) (k := 1) (by decide +kernel) ?_
                refine ev_r_iadd (pc := 111) (by decide +kernel) ?_
                intro x143 hx143
                refine ev_r_bald (pc := 112) (ty := .boolean) (Or.inr rfl) hx143 (by decide +kernel) (by exact ev_ab_673) ?_
                intro x144 hx144
                refine ev_r_if (pc := 113) (q := .ne) (o := 66) (t := 179) (c := x144 ≠ 0) (by decide +kernel) (ev_k_ne hx144 ev_rng0) (by decide +kernel) ?_ ?_
                · intro c145
                  exact hK179  s142 _ (by exact e135) (by exact e136) (by exact e137) (by exact e138) (by exact e139)
                · intro c145
                  exact hK116  s142 _ (by exact e135) (by exact e136) (by exact e137) (by exact e138) (by exact e139) (by exact e140) (by exact e141)
              · intro K104 hK104
                refine ev_r_if (pc := 89) (q := .ne) (o := 15) (t := 104) (c := x133 ≠ 0) (by decide +kernel) (ev_k_ne hx133 ev_rng0) (by decide +kernel) ?_ ?_
                · intro c146
                  exact hK104  s26 _ (by exact (ev_l1 (ev_l1 e21 (by decide) (by decide)) (by decide) (by decide))) (by exact (ev_l1 (ev_l1 e22 (by decide) (by decide)) (by decide) (by decide))) (by exact (ev_l1 (ev_l1 e23 (by decide) (by decide)) (by decide) (by decide))) (by exact (ev_l1 (ev_l1 e24 (by decide) (by decide)) (by decide) (by decide))) (by exact (ev_l1 (ev_lk_st1 e25 (by decide) rfl) (by decide) (by decide))) (by exact (ev_lk_st1 ev_lk_st1_self (by decide) rfl)) (by exact ev_lk_st1_self)
                · intro c146
                  refine ev_r_aload_n (pc := 92) (k := 0) (v := .ref 621) trivial (by decide +kernel) (by exact (ev_l1 (ev_l1 e21 (by decide) (by decide)) (by decide) (by decide))) ?_
                  refine ev_r_getC (pc := 93) (y := 47) (ci := 13) (f := 15) (fin := 1) (k' := 634) (by decide +kernel) (by decide +kernel) (by exact ev_ob_621) rfl rfl ?_
                  refine ev_r_iload (pc := 96) (k := 6) (v := Int32.ofInt x32) (by decide +kernel) (by exact ev_lk_st1_self) ?_
                  refine ev_r_lald (pc := 98) hx32 (by decide +kernel) (by exact ev_ab_634) ?_
                  intro y147
                  refine ev_r_lconst (pc := 99) (c := 0) (by decide +kernel) ?_
                  refine ev_r_toI (pc := 100) (i := .lcmp) (len := 1) (pc' := 101) (by decide +kernel) rfl ?_
                  intro x148 hx148
                  refine ev_r_if (pc := 101) (q := .eq) (o := 15) (t := 116) (c := x148 = 0) (by decide +kernel) (ev_k_eq hx148 ev_rng0) (by decide +kernel) ?_ ?_
                  · intro c149
                    exact hK116  s26 _ (by exact (ev_l1 (ev_l1 e21 (by decide) (by decide)) (by decide) (by decide))) (by exact (ev_l1 (ev_l1 e22 (by decide) (by decide)) (by decide) (by decide))) (by exact (ev_l1 (ev_l1 e23 (by decide) (by decide)) (by decide) (by decide))) (by exact (ev_l1 (ev_l1 e24 (by decide) (by decide)) (by decide) (by decide))) (by exact (ev_l1 (ev_lk_st1 e25 (by decide) rfl) (by decide) (by decide))) (by exact (ev_lk_st1 ev_lk_st1_self (by decide) rfl)) (by exact ev_lk_st1_self)
                  · intro c149
                    exact hK104  s26 _ (by exact (ev_l1 (ev_l1 e21 (by decide) (by decide)) (by decide) (by decide))) (by exact (ev_l1 (ev_l1 e22 (by decide) (by decide)) (by decide) (by decide))) (by exact (ev_l1 (ev_l1 e23 (by decide) (by decide)) (by decide) (by decide))) (by exact (ev_l1 (ev_l1 e24 (by decide) (by decide)) (by decide) (by decide))) (by exact (ev_l1 (ev_lk_st1 e25 (by decide) rfl) (by decide) (by decide))) (by exact (ev_lk_st1 ev_lk_st1_self (by decide) rfl)) (by exact ev_lk_st1_self)
theorem jlt_316_42 (d : Nat) (hd : 1 ≤ d + 1) (Q : Nat) (a0 : Int) (x2 : Int) (x11 : Int) (ha0 : ev_rng a0) (hx2 : ev_rng x2) (hx11 : ev_rng x11) (K30 : Int → ev_St → Option ((Unit) × ev_St)) (hK30 : ∀ (x11 : Int) (hx11 : ev_rng x11), ∀ (s17 : ev_St) (w12 : List (Nat × Value)), ev_lk w12 0 = some (.ref 621) → ev_lk w12 1 = some (.int (Int32.ofInt a0)) → ev_lk w12 2 = some (.int (Int32.ofInt x2)) → ev_lk w12 3 = some (.int (Int32.ofInt x11)) → ev_w none (ev_Mof 316) d 30 w12 [] s17 (K30 x11 s17) ev_eU ev_PU) : ∀ q : Nat, ∀ (x19 : Int) (hx19 : ev_rng x19), ∀ (s26 : ev_St) (w20 : List (Nat × Value)), ev_lk w20 0 = some (.ref 621) → ev_lk w20 1 = some (.int (Int32.ofInt a0)) → ev_lk w20 2 = some (.int (Int32.ofInt x2)) → ev_lk w20 3 = some (.int (Int32.ofInt x11)) → ev_lk w20 4 = some (.int (Int32.ofInt x19)) → ev_w none (ev_Mof 316) d 42 w20 [] s26 (jl_316_42 Q a0 x2 x11 K30 q x19 s26) ev_eU ev_PU := by
  intro q
  induction q with
  | zero =>
    intro x19 hx19 s26 w20 e21 e22 e23 e24 e25
    exact ev_w_none
  | succ q ih => exact jbt_316_42 d hd Q a0 x2 x11 ha0 hx2 hx11 K30 hK30 _ ih
def jb_316_30 (Q : Nat) (a0 : Int) (x2 : Int)  (K30 : Int → ev_St → Option ((Unit) × ev_St)) (x11 : Int) (s17 : ev_St) : Option ((Unit) × ev_St) := if 210 ≤ x11 then (some ((), s17)) else (jl_316_42 Q a0 x2 x11 K30 Q 209 s17)
def jl_316_30 (Q : Nat) (a0 : Int) (x2 : Int)  : Nat → Int → ev_St → Option ((Unit) × ev_St)
  | 0 => fun _ _ => none
  | q + 1 => jb_316_30 Q a0 x2  (jl_316_30 Q a0 x2  q)
theorem jbt_316_30 (d : Nat) (hd : 1 ≤ d + 1) (Q : Nat) (a0 : Int) (x2 : Int) (ha0 : ev_rng a0) (hx2 : ev_rng x2)   (K30 : Int → ev_St → Option ((Unit) × ev_St)) (hK30 : ∀ (x11 : Int) (hx11 : ev_rng x11), ∀ (s17 : ev_St) (w12 : List (Nat × Value)), ev_lk w12 0 = some (.ref 621) → ev_lk w12 1 = some (.int (Int32.ofInt a0)) → ev_lk w12 2 = some (.int (Int32.ofInt x2)) → ev_lk w12 3 = some (.int (Int32.ofInt x11)) → ev_w none (ev_Mof 316) d 30 w12 [] s17 (K30 x11 s17) ev_eU ev_PU) : ∀ (x11 : Int) (hx11 : ev_rng x11), ∀ (s17 : ev_St) (w12 : List (Nat × Value)), ev_lk w12 0 = some (.ref 621) → ev_lk w12 1 = some (.int (Int32.ofInt a0)) → ev_lk w12 2 = some (.int (Int32.ofInt x2)) → ev_lk w12 3 = some (.int (Int32.ofInt x11)) → ev_w none (ev_Mof 316) d 30 w12 [] s17 (jb_316_30 Q a0 x2  K30 x11 s17) ev_eU ev_PU := by
  intro x11 hx11 s17 w12 e13 e14 e15 e16
  unfold jb_316_30
  refine ev_r_iload_n (pc := 30) (k := 3) (v := Int32.ofInt x11) (by decide +kernel) (by exact e16) ?_
  refine ev_r_sipush (pc := 31) (k := 210) (by decide +kernel) (by decide +kernel) ?_
  refine ev_r_icmp (pc := 34) (q := .ge) (o := 202) (t := 236) (c := 210 ≤ x11) (by decide +kernel) (ev_k_ge hx11 (by decide)) (by decide +kernel) ?_ ?_
  · intro c18
    exact ev_r_return (pc := 236) (x := ()) trivial (by decide +kernel) (by decide +kernel) rfl
  · intro c18
    refine ev_r_sipush (pc := 37) (k := 209) (by decide +kernel) (by decide +kernel) ?_
    refine ev_r_istore (pc := 40) (k := 4) (by decide +kernel) (by decide +kernel) rfl ?_
    exact jlt_316_42 d hd Q a0 x2 x11 ha0 hx2 hx11 K30 hK30 Q 209 (by decide) s17 _ (by exact (ev_l1 e13 (by decide) (by decide))) (by exact (ev_l1 e14 (by decide) (by decide))) (by exact (ev_l1 e15 (by decide) (by decide))) (by exact (ev_lk_st1 e16 (by decide) rfl)) (by exact ev_lk_st1_self)
theorem jlt_316_30 (d : Nat) (hd : 1 ≤ d + 1) (Q : Nat) (a0 : Int) (x2 : Int) (ha0 : ev_rng a0) (hx2 : ev_rng x2)   : ∀ q : Nat, ∀ (x11 : Int) (hx11 : ev_rng x11), ∀ (s17 : ev_St) (w12 : List (Nat × Value)), ev_lk w12 0 = some (.ref 621) → ev_lk w12 1 = some (.int (Int32.ofInt a0)) → ev_lk w12 2 = some (.int (Int32.ofInt x2)) → ev_lk w12 3 = some (.int (Int32.ofInt x11)) → ev_w none (ev_Mof 316) d 30 w12 [] s17 (jl_316_30 Q a0 x2  q x11 s17) ev_eU ev_PU := by
  intro q
  induction q with
  | zero =>
    intro x11 hx11 s17 w12 e13 e14 e15 e16
    exact ev_w_none
  | succ q ih => exact jbt_316_30 d hd Q a0 x2 ha0 hx2   _ ih
def jb_316_8 (Q : Nat) (a0 : Int)  (K8 : Int → Int → ev_St → Option ((Unit) × ev_St)) (x2 : Int) (x3 : Int) (s9 : ev_St) : Option ((Unit) × ev_St) := if 210 ≤ x3 then (jl_316_30 Q a0 x2  Q 0 s9) else (ev_if ((0 : Int) ≤ x3 ∧ x3 < (ev_aln 673 : Int)) (ev_b (ev_pI s9 673 (Int.toNat x3) 0) fun s150 => ev_ck (x3 + 1) fun x151 => K8 x2 x151 s150))
def jl_316_8 (Q : Nat) (a0 : Int)  : Nat → Int → Int → ev_St → Option ((Unit) × ev_St)
  | 0 => fun _ _ _ => none
  | q + 1 => jb_316_8 Q a0  (jl_316_8 Q a0  q)
theorem jbt_316_8 (d : Nat) (hd : 1 ≤ d + 1) (Q : Nat) (a0 : Int) (ha0 : ev_rng a0)   (K8 : Int → Int → ev_St → Option ((Unit) × ev_St)) (hK8 : ∀ (x2 : Int) (hx2 : ev_rng x2), ∀ (x3 : Int) (hx3 : ev_rng x3), ∀ (s9 : ev_St) (w4 : List (Nat × Value)), ev_lk w4 0 = some (.ref 621) → ev_lk w4 1 = some (.int (Int32.ofInt a0)) → ev_lk w4 2 = some (.int (Int32.ofInt x2)) → ev_lk w4 3 = some (.int (Int32.ofInt x3)) → ev_w none (ev_Mof 316) d 8 w4 [] s9 (K8 x2 x3 s9) ev_eU ev_PU) : ∀ (x2 : Int) (hx2 : ev_rng x2), ∀ (x3 : Int) (hx3 : ev_rng x3), ∀ (s9 : ev_St) (w4 : List (Nat × Value)), ev_lk w4 0 = some (.ref 621) → ev_lk w4 1 = some (.int (Int32.ofInt a0)) → ev_lk w4 2 = some (.int (Int32.ofInt x2)) → ev_lk w4 3 = some (.int (Int32.ofInt x3)) → ev_w none (ev_Mof 316) d 8 w4 [] s9 (jb_316_8 Q a0  K8 x2 x3 s9) ev_eU ev_PU := by
  intro x2 hx2 x3 hx3 s9 w4 e5 e6 e7 e8
  unfold jb_316_8
  refine ev_r_iload_n (pc := 8) (k := 3) (v := Int32.ofInt x3) (by decide +kernel) (by exact e8) ?_
  refine ev_r_sipush (pc := 9) (k := 210) (by decide +kernel) (by decide +kernel) ?_
  refine ev_r_icmp (pc := 12) (q := .ge) (o := 16) (t := 28) (c := 210 ≤ x3) (by decide +kernel) (ev_k_ge hx3 (by decide)) (by decide +kernel) ?_ ?_
  · intro c10
    refine ev_r_iconst (pc := 28) (k := 0) (by decide +kernel) ?_
    refine ev_r_istore_n (pc := 29) (k := 3) (by decide +kernel) (by decide +kernel) rfl ?_
    exact jlt_316_30 d hd Q a0 x2 ha0 hx2   Q 0 (by decide) s9 _ (by exact (ev_l1 e5 (by decide) (by decide))) (by exact (ev_l1 e6 (by decide) (by decide))) (by exact (ev_lk_st1 e7 (by decide) rfl)) (by exact ev_lk_st1_self)
  · intro c10
    refine ev_r_aload_n (pc := 15) (k := 0) (v := .ref 621) trivial (by decide +kernel) (by exact e5) ?_
    refine ev_r_getC (pc := 16) (y := 166) (ci := 13) (f := 67) (fin := 1) (k' := 673) (by decide +kernel) (by decide +kernel) (by exact ev_ob_621) rfl rfl ?_
    refine ev_r_iload_n (pc := 19) (k := 3) (v := Int32.ofInt x3) (by decide +kernel) (by exact e8) ?_
    refine ev_r_iconst (pc := 20) (k := 0) (by decide +kernel) ?_
    refine ev_r_bast (pc := 21) (ty := .boolean) (Or.inr rfl) (ev_nar_bl (by decide : ev_bl 0)) (by decide) hx3 (by decide +kernel) (by exact ev_ab_673) ?_
    intro s150
    refine ev_r_iinc (pc := 22) (k := 3) (c := 1) (x := x3) (by decide +kernel) (by decide +kernel) (by exact e8) (fun _ => rfl) ?_
    intro x151 hx151
    refine ev_r_goto (pc := 25) (o := (-17)) (t := 8) (by decide +kernel) (by decide +kernel) ?_
    exact hK8 x2 hx2 x151 hx151 s150 _ (by exact (ev_l1 e5 (by decide) (by decide))) (by exact (ev_l1 e6 (by decide) (by decide))) (by exact (ev_lk_st1 e7 (by decide) rfl)) (by exact ev_lk_st1_self)
theorem jlt_316_8 (d : Nat) (hd : 1 ≤ d + 1) (Q : Nat) (a0 : Int) (ha0 : ev_rng a0)   : ∀ q : Nat, ∀ (x2 : Int) (hx2 : ev_rng x2), ∀ (x3 : Int) (hx3 : ev_rng x3), ∀ (s9 : ev_St) (w4 : List (Nat × Value)), ev_lk w4 0 = some (.ref 621) → ev_lk w4 1 = some (.int (Int32.ofInt a0)) → ev_lk w4 2 = some (.int (Int32.ofInt x2)) → ev_lk w4 3 = some (.int (Int32.ofInt x3)) → ev_w none (ev_Mof 316) d 8 w4 [] s9 (jl_316_8 Q a0  q x2 x3 s9) ev_eU ev_PU := by
  intro q
  induction q with
  | zero =>
    intro x2 hx2 x3 hx3 s9 w4 e5 e6 e7 e8
    exact ev_w_none
  | succ q ih => exact jbt_316_8 d hd Q a0 ha0   _ ih
/-- MendBenchModel.marksEnds(I)V -/
def jm_316 (Q : Nat) (a0 : Int) (S : ev_St) : Option ((Unit) × ev_St) := ev_ck (210 * a0) fun x1 => jl_316_8 Q a0  Q x1 0 S
theorem jt_316 (d : Nat) (hd : 1 ≤ d) (Q : Nat) (a0 : Int) (ha0 : ev_rng a0) (S : ev_St) (x : Unit) (S' : ev_St) (hJ : jm_316 Q a0 S = some (x, S')) : ev_Ref d 316 [.ref 621, .int (Int32.ofInt a0)] S (ev_eU x) S' (ev_PU x) := by
  obtain ⟨d, rfl⟩ : ∃ e, d = e + 1 := ⟨d - 1, by omega⟩
  refine ev_ref_of (P := ev_PU) (lv := [(0, .ref 621), (1, .int (Int32.ofInt a0))]) (by decide +kernel) (by (try simp only [ev_sum, ev_nv_cat]); first | done | rfl) (by (try simp only [lv_args, ev_nv_cat]); first | done | rfl) ?_ x S' hJ
  unfold jm_316
  refine ev_r_sipush (pc := 0) (k := 210) (by decide +kernel) (by decide +kernel) ?_
  refine ev_r_iload_n (pc := 3) (k := 1) (v := Int32.ofInt a0) (by decide +kernel) (by rfl) ?_
  refine ev_r_imul (pc := 4) (by decide +kernel) ?_
  intro x1 hx1
  refine ev_r_istore_n (pc := 5) (k := 2) (by decide +kernel) (by decide +kernel) rfl ?_
  refine ev_r_iconst (pc := 6) (k := 0) (by decide +kernel) ?_
  refine ev_r_istore_n (pc := 7) (k := 3) (by decide +kernel) (by decide +kernel) rfl ?_
  exact jlt_316_8 d hd Q a0 ha0   Q x1 hx1 0 (by decide) S _ (by exact (ev_l1 (ev_l1 (by rfl) (by decide) (by decide)) (by decide) (by decide))) (by exact (ev_l1 (ev_lk_st1 (by rfl) (by decide) rfl) (by decide) (by decide))) (by exact (ev_lk_st1 ev_lk_st1_self (by decide) rfl)) (by exact ev_lk_st1_self)
def jb_317_17 (Q : Nat) (a2 : Int)  (K17 : Int → Int → ev_St → Option ((Unit) × ev_St)) (x2 : Int) (x3 : Int) (s9 : ev_St) : Option ((Unit) × ev_St) := if x3 ≤ 0 then (some ((), s9)) else (ev_ck (x3 + (-1)) fun x11 => ev_if ((0 : Int) ≤ x11 ∧ x11 < (ev_aln 670 : Int)) (ev_b (s9.1 670 (Int.toNat x11)) fun x12 => ev_if ((0 : Int) ≤ x12 ∧ x12 < (ev_aln 669 : Int)) (ev_b (s9.1 669 (Int.toNat x12)) fun x13 => ev_jn (fun (x14 : Int) (s20 : ev_St) => K17 x2 x14 s20) fun K168 => if x13 ≠ 0 then (K168 x11 s9) else (ev_if ((0 : Int) ≤ x12 ∧ x12 < (ev_aln 669 : Int)) (ev_b (ev_pI s9 669 (Int.toNat x12) 1) fun s22 => ev_ck (x2 + x12) fun x23 => ev_if ((0 : Int) ≤ x23 ∧ x23 < (ev_aln 662 : Int)) (ev_b (s22.1 662 (Int.toNat x23)) fun x24 => ev_jn (fun  (s31 : ev_St) => ev_b (s31.1 621 68) fun x32 => ev_if ((0 : Int) ≤ x32 ∧ x32 < (ev_aln 674 : Int)) (ev_b (ev_pI s31 674 (Int.toNat x32) x12) fun s33 => ev_b (s33.1 621 68) fun x34 => ev_if ((0 : Int) ≤ x34 ∧ x34 < (ev_aln 675 : Int)) (ev_b (ev_pI s33 675 (Int.toNat x34) a2) fun s35 => ev_b (s35.1 621 68) fun x36 => ev_ck (x36 + 1) fun x37 => ev_b (ev_pI s35 621 68 x37) fun s38 => K168 x11 s38))) fun K75 => if x24 = 0 then (K75  s22) else (if x24 ≠ 5 then (ev_jn (fun (x41 : Int) (s49 : ev_St) => ev_jn (fun (x52 : Int) (x51 : Int) (r50 : Nat) (s58 : ev_St) => ev_if ((0 : Int) ≤ x51 ∧ x51 < (ev_aln r50 : Int)) (ev_b (ev_pI s58 r50 (Int.toNat x51) x52) fun s59 => ev_ck (x41 + 1) fun x60 => K168 x60 s59)) fun K164 => if x24 ≠ 4 then (ev_ck (x2 + x12) fun x62 => ev_if ((0 : Int) ≤ x62 ∧ x62 < (ev_aln 663 : Int)) (ev_b (s49.1 663 (Int.toNat x62)) fun x63 => K164 x63 x41 670 s49)) else (ev_ck (x12 + 1) fun x64 => K164 x64 x41 670 s49)) fun K135 => if x24 ≠ 2 then (K135 x11 s22) else (ev_ck (x2 + x12) fun x66 => ev_if ((0 : Int) ≤ x66 ∧ x66 < (ev_aln 664 : Int)) (ev_b (s22.1 664 (Int.toNat x66)) fun x67 => ev_if ((0 : Int) ≤ x11 ∧ x11 < (ev_aln 670 : Int)) (ev_b (ev_pI s22 670 (Int.toNat x11) x67) fun s68 => ev_ck (x11 + 1) fun x69 => K135 x69 s68)))) else (K75  s22))))))))
def jl_317_17 (Q : Nat) (a2 : Int)  : Nat → Int → Int → ev_St → Option ((Unit) × ev_St)
  | 0 => fun _ _ _ => none
  | q + 1 => jb_317_17 Q a2  (jl_317_17 Q a2  q)
theorem jbt_317_17 (d : Nat) (hd : 1 ≤ d + 1) (Q : Nat) (a2 : Int) (ha2 : ev_rng a2)   (K17 : Int → Int → ev_St → Option ((Unit) × ev_St)) (hK17 : ∀ (x2 : Int) (hx2 : ev_rng x2), ∀ (x3 : Int) (hx3 : ev_rng x3), ∀ (s9 : ev_St) (w4 : List (Nat × Value)), ev_lk w4 0 = some (.ref 621) → ev_lk w4 3 = some (.int (Int32.ofInt a2)) → ev_lk w4 4 = some (.int (Int32.ofInt x2)) → ev_lk w4 5 = some (.int (Int32.ofInt x3)) → ev_w none (ev_Mof 317) d 17 w4 [] s9 (K17 x2 x3 s9) ev_eU ev_PU) : ∀ (x2 : Int) (hx2 : ev_rng x2), ∀ (x3 : Int) (hx3 : ev_rng x3), ∀ (s9 : ev_St) (w4 : List (Nat × Value)), ev_lk w4 0 = some (.ref 621) → ev_lk w4 3 = some (.int (Int32.ofInt a2)) → ev_lk w4 4 = some (.int (Int32.ofInt x2)) → ev_lk w4 5 = some (.int (Int32.ofInt x3)) → ev_w none (ev_Mof 317) d 17 w4 [] s9 (jb_317_17 Q a2  K17 x2 x3 s9) ev_eU ev_PU := by
  intro x2 hx2 x3 hx3 s9 w4 e5 e6 e7 e8
  unfold jb_317_17
  refine ev_r_iload (pc := 17) (k := 5) (v := Int32.ofInt x3) (by decide +kernel) (by exact e8) ?_
  refine ev_r_if (pc := 19) (q := .le) (o := 152) (t := 171) (c := x3 ≤ 0) (by decide +kernel) (ev_k_le hx3 ev_rng0) (by decide +kernel) ?_ ?_
  · intro c10
    exact ev_r_return (pc := 171) (x := ()) trivial (by decide +kernel) (by decide +kernel) rfl
  · intro c10
    refine ev_r_iinc (pc := 22) (k := 5) (c := -1) (x := x3) (by decide +kernel) (by decide +kernel) (by exact e8) (fun _ => rfl) ?_
    intro x11 hx11
    refine ev_r_aload_n (pc := 25) (k := 0) (v := .ref 621) trivial (by decide +kernel) (by exact (ev_l1 e5 (by decide) (by decide))) ?_
    refine ev_r_getC (pc := 26) (y := 157) (ci := 13) (f := 64) (fin := 1) (k' := 670) (by decide +kernel) (by decide +kernel) (by exact ev_ob_621) rfl rfl ?_
    refine ev_r_iload (pc := 29) (k := 5) (v := Int32.ofInt x11) (by decide +kernel) (by exact ev_lk_st1_self) ?_
    refine ev_r_iald (pc := 31) hx11 (by decide +kernel) (by exact ev_ab_670) ?_
    intro x12 hx12
    refine ev_r_istore (pc := 32) (k := 6) (by decide +kernel) (by decide +kernel) rfl ?_
    refine ev_r_aload_n (pc := 34) (k := 0) (v := .ref 621) trivial (by decide +kernel) (by exact (ev_l1 (ev_l1 e5 (by decide) (by decide)) (by decide) (by decide))) ?_
    refine ev_r_getC (pc := 35) (y := 153) (ci := 13) (f := 63) (fin := 1) (k' := 669) (by decide +kernel) (by decide +kernel) (by exact ev_ob_621) rfl rfl ?_
    refine ev_r_iload (pc := 38) (k := 6) (v := Int32.ofInt x12) (by decide +kernel) (by exact ev_lk_st1_self) ?_
    refine ev_r_bald (pc := 40) (ty := .boolean) (Or.inr rfl) hx12 (by decide +kernel) (by exact ev_ab_669) ?_
    intro x13 hx13
    refine ev_r_jn (Q := fun K => ∀ (x14 : Int) (hx14 : ev_rng x14), ∀ (s20 : ev_St) (w15 : List (Nat × Value)), ev_lk w15 0 = some (.ref 621) → ev_lk w15 3 = some (.int (Int32.ofInt a2)) → ev_lk w15 4 = some (.int (Int32.ofInt x2)) → ev_lk w15 5 = some (.int (Int32.ofInt x14)) → ev_w none (ev_Mof 317) d 168 w15 [] s20 (K x14 s20) ev_eU ev_PU) ?_ ?_
    · intro x14 hx14 s20 w15 e16 e17 e18 e19
      refine ev_r_goto (pc := 168) (o := (-151)) (t := 17) (by decide +kernel) (by decide +kernel) ?_
      exact hK17 x2 hx2 x14 hx14 s20 _ (by exact e16) (by exact e17) (by exact e18) (by exact e19)
    · intro K168 hK168
      refine ev_r_if (pc := 41) (q := .ne) (o := 127) (t := 168) (c := x13 ≠ 0) (by decide +kernel) (ev_k_ne hx13 ev_rng0) (by decide +kernel) ?_ ?_
      · intro c21
        exact hK168 x11 hx11 s9 _ (by exact (ev_l1 (ev_l1 e5 (by decide) (by decide)) (by decide) (by decide))) (by exact (ev_l1 (ev_l1 e6 (by decide) (by decide)) (by decide) (by decide))) (by exact (ev_l1 (ev_lk_st1 e7 (by decide) rfl) (by decide) (by decide))) (by exact (ev_lk_st1 ev_lk_st1_self (by decide) rfl))
      · intro c21
        refine ev_r_aload_n (pc := 44) (k := 0) (v := .ref 621) trivial (by decide +kernel) (by exact (ev_l1 (ev_l1 e5 (by decide) (by decide)) (by decide) (by decide))) ?_
        refine ev_r_getC (pc := 45) (y := 153) (ci := 13) (f := 63) (fin := 1) (k' := 669) (by decide +kernel) (by decide +kernel) (by exact ev_ob_621) rfl rfl ?_
        refine ev_r_iload (pc := 48) (k := 6) (v := Int32.ofInt x12) (by decide +kernel) (by exact ev_lk_st1_self) ?_
        refine ev_r_iconst (pc := 50) (k := 1) (by decide +kernel) ?_
        refine ev_r_bast (pc := 51) (ty := .boolean) (Or.inr rfl) (ev_nar_bl (by decide : ev_bl 1)) (by decide) hx12 (by decide +kernel) (by exact ev_ab_669) ?_
        intro s22
        refine ev_r_aload_n (pc := 52) (k := 0) (v := .ref 621) trivial (by decide +kernel) (by exact (ev_l1 (ev_l1 e5 (by decide) (by decide)) (by decide) (by decide))) ?_
        refine ev_r_getC (pc := 53) (y := 132) (ci := 13) (f := 55) (fin := 1) (k' := 662) (by decide +kernel) (by decide +kernel) (by exact ev_ob_621) rfl rfl ?_
        refine ev_r_iload (pc := 56) (k := 4) (v := Int32.ofInt x2) (by decide +kernel) (by exact (ev_l1 (ev_lk_st1 e7 (by decide) rfl) (by decide) (by decide))) ?_
        refine ev_r_iload (pc := 58) (k := 6) (v := Int32.ofInt x12) (by decide +kernel) (by exact ev_lk_st1_self) ?_
        refine ev_r_iadd (pc := 60) (by decide +kernel) ?_
        intro x23 hx23
        refine ev_r_iald (pc := 61) hx23 (by decide +kernel) (by exact ev_ab_662) ?_
        intro x24 hx24
        refine ev_r_istore (pc := 62) (k := 7) (by decide +kernel) (by decide +kernel) rfl ?_
        refine ev_r_iload (pc := 64) (k := 7) (v := Int32.ofInt x24) (by decide +kernel) (by exact ev_lk_st1_self) ?_
        refine ev_r_jn (Q := fun K => ∀ (s31 : ev_St) (w25 : List (Nat × Value)), ev_lk w25 0 = some (.ref 621) → ev_lk w25 3 = some (.int (Int32.ofInt a2)) → ev_lk w25 4 = some (.int (Int32.ofInt x2)) → ev_lk w25 5 = some (.int (Int32.ofInt x11)) → ev_lk w25 6 = some (.int (Int32.ofInt x12)) → ev_w none (ev_Mof 317) d 75 w25 [] s31 (K  s31) ev_eU ev_PU) ?_ ?_
        · intro  s31 w25 e26 e27 e28 e29 e30
          refine ev_r_aload_n (pc := 75) (k := 0) (v := .ref 621) trivial (by decide +kernel) (by exact e26) ?_
          refine ev_r_getC (pc := 76) (y := 169) (ci := 13) (f := 69) (fin := 1) (k' := 674) (by decide +kernel) (by decide +kernel) (by exact ev_ob_621) rfl rfl ?_
          refine ev_r_aload_n (pc := 79) (k := 0) (v := .ref 621) trivial (by decide +kernel) (by exact e26) ?_
          refine ev_r_getI (pc := 80) (y := 695) (ci := 13) (f := 68) (fin := 0) (by decide +kernel) (by decide +kernel) (by exact ev_ob_621) rfl ?_
          intro x32 hx32
          refine ev_r_iload (pc := 83) (k := 6) (v := Int32.ofInt x12) (by decide +kernel) (by exact e30) ?_
          refine ev_r_iast (pc := 85) hx12 hx32 (by decide +kernel) (by exact ev_ab_674) ?_
          intro s33
          refine ev_r_aload_n (pc := 86) (k := 0) (v := .ref 621) trivial (by decide +kernel) (by exact e26) ?_
          refine ev_r_getC (pc := 87) (y := 172) (ci := 13) (f := 70) (fin := 1) (k' := 675) (by decide +kernel) (by decide +kernel) (by exact ev_ob_621) rfl rfl ?_
          refine ev_r_aload_n (pc := 90) (k := 0) (v := .ref 621) trivial (by decide +kernel) (by exact e26) ?_
          refine ev_r_getI (pc := 91) (y := 695) (ci := 13) (f := 68) (fin := 0) (by decide +kernel) (by decide +kernel) (by exact ev_ob_621) rfl ?_
          intro x34 hx34
          refine ev_r_iload_n (pc := 94) (k := 3) (v := Int32.ofInt a2) (by decide +kernel) (by exact e27) ?_
          refine ev_r_iast (pc := 95) ha2 hx34 (by decide +kernel) (by exact ev_ab_675) ?_
          intro s35
          refine ev_r_aload_n (pc := 96) (k := 0) (v := .ref 621) trivial (by decide +kernel) (by exact e26) ?_
          refine ev_r_dup (pc := 97) rfl (by decide +kernel) ?_
          refine ev_r_getI (pc := 98) (y := 695) (ci := 13) (f := 68) (fin := 0) (by decide +kernel) (by decide +kernel) (by exact ev_ob_621) rfl ?_
          intro x36 hx36
          refine ev_r_iconst (pc := 101) (k := 1) (by decide +kernel) ?_
          refine ev_r_iadd (pc := 102) (by decide +kernel) ?_
          intro x37 hx37
          refine ev_r_putI (pc := 103) (y := 695) (ci := 13) (f := 68) hx37 (by decide +kernel) (by decide +kernel) (by exact ev_ob_621) rfl rfl ?_
          intro s38
          refine ev_r_goto (pc := 106) (o := 62) (t := 168) (by decide +kernel) (by decide +kernel) ?_
          exact hK168 x11 hx11 s38 _ (by exact e26) (by exact e27) (by exact e28) (by exact e29)
        · intro K75 hK75
          refine ev_r_if (pc := 66) (q := .eq) (o := 9) (t := 75) (c := x24 = 0) (by decide +kernel) (ev_k_eq hx24 ev_rng0) (by decide +kernel) ?_ ?_
          · intro c39
            exact hK75  s22 _ (by exact (ev_l1 (ev_l1 (ev_l1 e5 (by decide) (by decide)) (by decide) (by decide)) (by decide) (by decide))) (by exact (ev_l1 (ev_l1 (ev_l1 e6 (by decide) (by decide)) (by decide) (by decide)) (by decide) (by decide))) (by exact (ev_l1 (ev_l1 (ev_lk_st1 e7 (by decide) rfl) (by decide) (by decide)) (by decide) (by decide))) (by exact (ev_l1 (ev_lk_st1 ev_lk_st1_self (by decide) rfl) (by decide) (by decide))) (by exact (ev_lk_st1 ev_lk_st1_self (by decide) rfl))
          · intro c39
            refine ev_r_iload (pc := 69) (k := 7) (v := Int32.ofInt x24) (by decide +kernel) (by exact ev_lk_st1_self) ?_
            refine ev_r_iconst (pc := 71) (k := 5) (by decide +kernel) ?_
            refine ev_r_icmp (pc := 72) (q := .ne) (o := 37) (t := 109) (c := x24 ≠ 5) (by decide +kernel) (ev_k_ne hx24 (by decide)) (by decide +kernel) ?_ ?_
            · intro c40
              refine ev_r_iload (pc := 109) (k := 7) (v := Int32.ofInt x24) (by decide +kernel) (by exact ev_lk_st1_self) ?_
              refine ev_r_iconst (pc := 111) (k := 2) (by decide +kernel) ?_
              refine ev_r_jn (Q := fun K => ∀ (x41 : Int) (hx41 : ev_rng x41), ∀ (s49 : ev_St) (w42 : List (Nat × Value)), ev_lk w42 0 = some (.ref 621) → ev_lk w42 3 = some (.int (Int32.ofInt a2)) → ev_lk w42 4 = some (.int (Int32.ofInt x2)) → ev_lk w42 5 = some (.int (Int32.ofInt x41)) → ev_lk w42 6 = some (.int (Int32.ofInt x12)) → ev_lk w42 7 = some (.int (Int32.ofInt x24)) → ev_w none (ev_Mof 317) d 135 w42 [] s49 (K x41 s49) ev_eU ev_PU) ?_ ?_
              · intro x41 hx41 s49 w42 e43 e44 e45 e46 e47 e48
                refine ev_r_aload_n (pc := 135) (k := 0) (v := .ref 621) trivial (by decide +kernel) (by exact e43) ?_
                refine ev_r_getC (pc := 136) (y := 157) (ci := 13) (f := 64) (fin := 1) (k' := 670) (by decide +kernel) (by decide +kernel) (by exact ev_ob_621) rfl rfl ?_
                refine ev_r_iload (pc := 139) (k := 5) (v := Int32.ofInt x41) (by decide +kernel) (by exact e46) ?_
                refine ev_r_iload (pc := 141) (k := 7) (v := Int32.ofInt x24) (by decide +kernel) (by exact e48) ?_
                refine ev_r_iconst (pc := 143) (k := 4) (by decide +kernel) ?_
                refine ev_r_jn (Q := fun K => ∀ (x52 : Int) (hx52 : ev_rng x52), ∀ (x51 : Int) (hx51 : ev_rng x51), ∀ (r50 : Nat) (hr50 : ev_isAb r50 1 .int = true), ∀ (s58 : ev_St) (w53 : List (Nat × Value)), ev_lk w53 0 = some (.ref 621) → ev_lk w53 3 = some (.int (Int32.ofInt a2)) → ev_lk w53 4 = some (.int (Int32.ofInt x2)) → ev_lk w53 5 = some (.int (Int32.ofInt x41)) → ev_w none (ev_Mof 317) d 164 w53 [.int (Int32.ofInt x52), .int (Int32.ofInt x51), .ref r50] s58 (K x52 x51 r50 s58) ev_eU ev_PU) ?_ ?_
                · intro x52 hx52 x51 hx51 r50 hr50 s58 w53 e54 e55 e56 e57
                  refine ev_r_iast (pc := 164) hx52 hx51 (by decide +kernel) (by exact hr50) ?_
                  intro s59
                  refine ev_r_iinc (pc := 165) (k := 5) (c := 1) (x := x41) (by decide +kernel) (by decide +kernel) (by exact e57) (fun _ => rfl) ?_
                  intro x60 hx60
                  exact hK168 x60 hx60 s59 _ (by exact (ev_l1 e54 (by decide) (by decide))) (by exact (ev_l1 e55 (by decide) (by decide))) (by exact (ev_lk_st1 e56 (by decide) rfl)) (by exact ev_lk_st1_self)
                · intro K164 hK164
                  refine ev_r_icmp (pc := 144) (q := .ne) (o := 10) (t := 154) (c := x24 ≠ 4) (by decide +kernel) (ev_k_ne hx24 (by decide)) (by decide +kernel) ?_ ?_
                  · intro c61
                    refine ev_r_aload_n (pc := 154) (k := 0) (v := .ref 621) trivial (by decide +kernel) (by exact e43) ?_
                    refine ev_r_getC (pc := 155) (y := 135) (ci := 13) (f := 56) (fin := 1) (k' := 663) (by decide +kernel) (by decide +kernel) (by exact ev_ob_621) rfl rfl ?_
                    refine ev_r_iload (pc := 158) (k := 4) (v := Int32.ofInt x2) (by decide +kernel) (by exact e45) ?_
                    refine ev_r_iload (pc := 160) (k := 6) (v := Int32.ofInt x12) (by decide +kernel) (by exact e47) ?_
                    refine ev_r_iadd (pc := 162) (by decide +kernel) ?_
                    intro x62 hx62
                    refine ev_r_iald (pc := 163) hx62 (by decide +kernel) (by exact ev_ab_663) ?_
                    intro x63 hx63
                    exact hK164 x63 hx63 x41 hx41 670 ev_ab_670 s49 _ (by exact e43) (by exact e44) (by exact e45) (by exact e46)
                  · intro c61
                    refine ev_r_iload (pc := 147) (k := 6) (v := Int32.ofInt x12) (by decide +kernel) (by exact e47) ?_
                    refine ev_r_iconst (pc := 149) (k := 1) (by decide +kernel) ?_
                    refine ev_r_iadd (pc := 150) (by decide +kernel) ?_
                    intro x64 hx64
                    refine ev_r_goto (pc := 151) (o := 13) (t := 164) (by decide +kernel) (by decide +kernel) ?_
                    exact hK164 x64 hx64 x41 hx41 670 ev_ab_670 s49 _ (by exact e43) (by exact e44) (by exact e45) (by exact e46)
              · intro K135 hK135
                refine ev_r_icmp (pc := 112) (q := .ne) (o := 23) (t := 135) (c := x24 ≠ 2) (by decide +kernel) (ev_k_ne hx24 (by decide)) (by decide +kernel) ?_ ?_
                · intro c65
                  exact hK135 x11 hx11 s22 _ (by exact (ev_l1 (ev_l1 (ev_l1 e5 (by decide) (by decide)) (by decide) (by decide)) (by decide) (by decide))) (by exact (ev_l1 (ev_l1 (ev_l1 e6 (by decide) (by decide)) (by decide) (by decide)) (by decide) (by decide))) (by exact (ev_l1 (ev_l1 (ev_lk_st1 e7 (by decide) rfl) (by decide) (by decide)) (by decide) (by decide))) (by exact (ev_l1 (ev_lk_st1 ev_lk_st1_self (by decide) rfl) (by decide) (by decide))) (by exact (ev_lk_st1 ev_lk_st1_self (by decide) rfl)) (by exact ev_lk_st1_self)
                · intro c65
                  refine ev_r_aload_n (pc := 115) (k := 0) (v := .ref 621) trivial (by decide +kernel) (by exact (ev_l1 (ev_l1 (ev_l1 e5 (by decide) (by decide)) (by decide) (by decide)) (by decide) (by decide))) ?_
                  refine ev_r_getC (pc := 116) (y := 157) (ci := 13) (f := 64) (fin := 1) (k' := 670) (by decide +kernel) (by decide +kernel) (by exact ev_ob_621) rfl rfl ?_
                  refine ev_r_iload (pc := 119) (k := 5) (v := Int32.ofInt x11) (by decide +kernel) (by exact (ev_l1 (ev_lk_st1 ev_lk_st1_self (by decide) rfl) (by decide) (by decide))) ?_
                  refine ev_r_aload_n (pc := 121) (k := 0) (v := .ref 621) trivial (by decide +kernel) (by exact (ev_l1 (ev_l1 (ev_l1 e5 (by decide) (by decide)) (by decide) (by decide)) (by decide) (by decide))) ?_
                  refine ev_r_getC (pc := 122) (y := 138) (ci := 13) (f := 57) (fin := 1) (k' := 664) (by decide +kernel) (by decide +kernel) (by exact ev_ob_621) rfl rfl ?_
                  refine ev_r_iload (pc := 125) (k := 4) (v := Int32.ofInt x2) (by decide +kernel) (by exact (ev_l1 (ev_l1 (ev_lk_st1 e7 (by decide) rfl) (by decide) (by decide)) (by decide) (by decide))) ?_
                  refine ev_r_iload (pc := 127) (k := 6) (v := Int32.ofInt x12) (by decide +kernel) (by exact (ev_lk_st1 ev_lk_st1_self (by decide) rfl)) ?_
                  refine ev_r_iadd (pc := 129) (by decide +kernel) ?_
                  intro x66 hx66
                  refine ev_r_iald (pc := 130) hx66 (by decide +kernel) (by exact ev_ab_664) ?_
                  intro x67 hx67
                  refine ev_r_iast (pc := 131) hx67 hx11 (by decide +kernel) (by exact ev_ab_670) ?_
                  intro s68
                  refine ev_r_iinc (pc := 132) (k := 5) (c := 1) (x := x11) (by decide +kernel) (by decide +kernel) (by exact (ev_l1 (ev_lk_st1 ev_lk_st1_self (by decide) rfl) (by decide) (by decide))) (fun _ => rfl) ?_
                  intro x69 hx69
                  exact hK135 x69 hx69 s68 _ (by exact (ev_l1 (ev_l1 (ev_l1 (ev_l1 e5 (by decide) (by decide)) (by decide) (by decide)) (by decide) (by decide)) (by decide) (by decide))) (by exact (ev_l1 (ev_l1 (ev_l1 (ev_l1 e6 (by decide) (by decide)) (by decide) (by decide)) (by decide) (by decide)) (by decide) (by decide))) (by exact (ev_lk_st1 (ev_l1 (ev_l1 (ev_lk_st1 e7 (by decide) rfl) (by decide) (by decide)) (by decide) (by decide)) (by decide) rfl)) (by exact ev_lk_st1_self) (by exact (ev_l1 (ev_lk_st1 ev_lk_st1_self (by decide) rfl) (by decide) (by decide))) (by exact (ev_l1 ev_lk_st1_self (by decide) (by decide)))
            · intro c40
              exact hK75  s22 _ (by exact (ev_l1 (ev_l1 (ev_l1 e5 (by decide) (by decide)) (by decide) (by decide)) (by decide) (by decide))) (by exact (ev_l1 (ev_l1 (ev_l1 e6 (by decide) (by decide)) (by decide) (by decide)) (by decide) (by decide))) (by exact (ev_l1 (ev_l1 (ev_lk_st1 e7 (by decide) rfl) (by decide) (by decide)) (by decide) (by decide))) (by exact (ev_l1 (ev_lk_st1 ev_lk_st1_self (by decide) rfl) (by decide) (by decide))) (by exact (ev_lk_st1 ev_lk_st1_self (by decide) rfl))
theorem jlt_317_17 (d : Nat) (hd : 1 ≤ d + 1) (Q : Nat) (a2 : Int) (ha2 : ev_rng a2)   : ∀ q : Nat, ∀ (x2 : Int) (hx2 : ev_rng x2), ∀ (x3 : Int) (hx3 : ev_rng x3), ∀ (s9 : ev_St) (w4 : List (Nat × Value)), ev_lk w4 0 = some (.ref 621) → ev_lk w4 3 = some (.int (Int32.ofInt a2)) → ev_lk w4 4 = some (.int (Int32.ofInt x2)) → ev_lk w4 5 = some (.int (Int32.ofInt x3)) → ev_w none (ev_Mof 317) d 17 w4 [] s9 (jl_317_17 Q a2  q x2 x3 s9) ev_eU ev_PU := by
  intro q
  induction q with
  | zero =>
    intro x2 hx2 x3 hx3 s9 w4 e5 e6 e7 e8
    exact ev_w_none
  | succ q ih => exact jbt_317_17 d hd Q a2 ha2   _ ih
/-- MendBenchModel.addsThread(III)V -/
def jm_317 (Q : Nat) (a0 : Int) (a1 : Int) (a2 : Int) (S : ev_St) : Option ((Unit) × ev_St) := ev_ck (210 * a0) fun x1 => ev_if ((0 : Int) ≤ 0 ∧ 0 < (ev_aln 670 : Int)) (ev_b (ev_pI S 670 (Int.toNat 0) a1) fun s70 => jl_317_17 Q a2  Q x1 1 s70)
theorem jt_317 (d : Nat) (hd : 1 ≤ d) (Q : Nat) (a0 : Int) (a1 : Int) (a2 : Int) (ha0 : ev_rng a0) (ha1 : ev_rng a1) (ha2 : ev_rng a2) (S : ev_St) (x : Unit) (S' : ev_St) (hJ : jm_317 Q a0 a1 a2 S = some (x, S')) : ev_Ref d 317 [.ref 621, .int (Int32.ofInt a0), .int (Int32.ofInt a1), .int (Int32.ofInt a2)] S (ev_eU x) S' (ev_PU x) := by
  obtain ⟨d, rfl⟩ : ∃ e, d = e + 1 := ⟨d - 1, by omega⟩
  refine ev_ref_of (P := ev_PU) (lv := [(0, .ref 621), (1, .int (Int32.ofInt a0)), (2, .int (Int32.ofInt a1)), (3, .int (Int32.ofInt a2))]) (by decide +kernel) (by (try simp only [ev_sum, ev_nv_cat]); first | done | rfl) (by (try simp only [lv_args, ev_nv_cat]); first | done | rfl) ?_ x S' hJ
  unfold jm_317
  refine ev_r_sipush (pc := 0) (k := 210) (by decide +kernel) (by decide +kernel) ?_
  refine ev_r_iload_n (pc := 3) (k := 1) (v := Int32.ofInt a0) (by decide +kernel) (by rfl) ?_
  refine ev_r_imul (pc := 4) (by decide +kernel) ?_
  intro x1 hx1
  refine ev_r_istore (pc := 5) (k := 4) (by decide +kernel) (by decide +kernel) rfl ?_
  refine ev_r_iconst (pc := 7) (k := 1) (by decide +kernel) ?_
  refine ev_r_istore (pc := 8) (k := 5) (by decide +kernel) (by decide +kernel) rfl ?_
  refine ev_r_aload_n (pc := 10) (k := 0) (v := .ref 621) trivial (by decide +kernel) (by exact (ev_l1 (ev_l1 (by rfl) (by decide) (by decide)) (by decide) (by decide))) ?_
  refine ev_r_getC (pc := 11) (y := 157) (ci := 13) (f := 64) (fin := 1) (k' := 670) (by decide +kernel) (by decide +kernel) (by exact ev_ob_621) rfl rfl ?_
  refine ev_r_iconst (pc := 14) (k := 0) (by decide +kernel) ?_
  refine ev_r_iload_n (pc := 15) (k := 2) (v := Int32.ofInt a1) (by decide +kernel) (by exact (ev_l1 (ev_l1 (by rfl) (by decide) (by decide)) (by decide) (by decide))) ?_
  refine ev_r_iast (pc := 16) ha1 (by decide) (by decide +kernel) (by exact ev_ab_670) ?_
  intro s70
  exact jlt_317_17 d hd Q a2 ha2   Q x1 hx1 1 (by decide) s70 _ (by exact (ev_l1 (ev_l1 (by rfl) (by decide) (by decide)) (by decide) (by decide))) (by exact (ev_l1 (ev_lk_st1 (by rfl) (by decide) rfl) (by decide) (by decide))) (by exact (ev_lk_st1 ev_lk_st1_self (by decide) rfl)) (by exact ev_lk_st1_self)
def jb_318_130 (Q : Nat) (a0 : Int) (x2 : Int) (x5 : Int) (K15 : Int → Int → Int → Int → ev_St → Option ((Int) × ev_St)) (K130 : Int → Int → Int → Int → ev_St → Option ((Int) × ev_St)) (x47 : Int) (x48 : Int) (x49 : Int) (x50 : Int) (s60 : ev_St) : Option ((Int) × ev_St) := if x49 ≤ x50 then (ev_ck (x5 + 1) fun x62 => K15 x2 x47 x48 x62 s60) else (ev_if ((0 : Int) ≤ x50 ∧ x50 < (ev_aln 674 : Int)) (ev_b (s60.1 674 (Int.toNat x50)) fun x63 => ev_ck (210 * x2) fun x64 => ev_ck (x64 + x63) fun x65 => ev_if ((0 : Int) ≤ x65 ∧ x65 < (ev_aln 663 : Int)) (ev_b (s60.1 663 (Int.toNat x65)) fun x66 => ev_ck (210 * x2) fun x67 => ev_ck (x67 + x63) fun x68 => ev_if ((0 : Int) ≤ x68 ∧ x68 < (ev_aln 662 : Int)) (ev_b (s60.1 662 (Int.toNat x68)) fun x69 => ev_jn (fun (x70 : Int) (x71 : Int) (x72 : Int) (s82 : ev_St) => ev_ck (x50 + 1) fun x83 => K130 x70 x71 x72 x83 s82) fun K277 => if x69 ≠ 5 then (ev_if ((0 : Int) ≤ a0 ∧ a0 < (ev_aln 721 : Int)) (ev_b (s60.1 721 (Int.toNat a0)) fun x85 => if x85 ≤ x5 then (K277 x47 x48 x49 s60) else (ev_if ((0 : Int) ≤ x66 ∧ x66 < (ev_aln 633 : Int)) (ev_b (s60.2.1 633 (Int.toNat x66)) fun y87 => ev_if ((0 : Int) ≤ x66 ∧ x66 < (ev_aln 634 : Int)) (ev_b (s60.2.1 634 (Int.toNat x66)) fun y88 => ev_ck (80 * a0) fun x89 => ev_ck (x89 + x5) fun x90 => ev_if ((0 : Int) ≤ x90 ∧ x90 < (ev_aln 722 : Int)) (ev_b (s60.1 722 (Int.toNat x90)) fun x91 => ev_bd (jm_244 Q y87 y88 x91 s60) fun x93 s92 => if x93 = 0 then (K277 x47 x48 x49 s92) else (ev_ck (x63 + 1) fun x95 => ev_if ((0 : Int) ≤ x48 ∧ x48 < (ev_aln 676 : Int)) (ev_b (ev_pI s92 676 (Int.toNat x48) x95) fun s96 => ev_if ((0 : Int) ≤ x50 ∧ x50 < (ev_aln 675 : Int)) (ev_b (s96.1 675 (Int.toNat x50)) fun x97 => ev_if ((0 : Int) ≤ x48 ∧ x48 < (ev_aln 677 : Int)) (ev_b (ev_pI s96 677 (Int.toNat x48) x97) fun s98 => ev_ck (x48 + 1) fun x99 => K277 x47 x99 x49 s98)))))))))) else (ev_if ((0 : Int) ≤ x50 ∧ x50 < (ev_aln 675 : Int)) (ev_b (s60.1 675 (Int.toNat x50)) fun x100 => ev_ck (1000 * x100) fun x101 => ev_ck (x101 + x5) fun x102 => ev_b (ev_pI s60 621 68 x50) fun s103 => K277 x102 x48 x50 s103))))))
def jl_318_130 (Q : Nat) (a0 : Int) (x2 : Int) (x5 : Int) (K15 : Int → Int → Int → Int → ev_St → Option ((Int) × ev_St)) : Nat → Int → Int → Int → Int → ev_St → Option ((Int) × ev_St)
  | 0 => fun _ _ _ _ _ => none
  | q + 1 => jb_318_130 Q a0 x2 x5 K15 (jl_318_130 Q a0 x2 x5 K15 q)
theorem jbt_318_130 (d : Nat) (hd : 3 ≤ d + 1) (Q : Nat) (a0 : Int) (x2 : Int) (x5 : Int) (ha0 : ev_rng a0) (hx2 : ev_rng x2) (hx5 : ev_rng x5) (K15 : Int → Int → Int → Int → ev_St → Option ((Int) × ev_St)) (hK15 : ∀ (x2 : Int) (hx2 : ev_rng x2), ∀ (x3 : Int) (hx3 : ev_rng x3), ∀ (x4 : Int) (hx4 : ev_rng x4), ∀ (x5 : Int) (hx5 : ev_rng x5), ∀ (s13 : ev_St) (w6 : List (Nat × Value)), ev_lk w6 0 = some (.ref 621) → ev_lk w6 1 = some (.int (Int32.ofInt a0)) → ev_lk w6 2 = some (.int (Int32.ofInt x2)) → ev_lk w6 3 = some (.int (Int32.ofInt x3)) → ev_lk w6 4 = some (.int (Int32.ofInt x4)) → ev_lk w6 5 = some (.int (Int32.ofInt x5)) → ev_w none (ev_Mof 318) d 15 w6 [] s13 (K15 x2 x3 x4 x5 s13) ev_eI ev_rng) (K130 : Int → Int → Int → Int → ev_St → Option ((Int) × ev_St)) (hK130 : ∀ (x47 : Int) (hx47 : ev_rng x47), ∀ (x48 : Int) (hx48 : ev_rng x48), ∀ (x49 : Int) (hx49 : ev_rng x49), ∀ (x50 : Int) (hx50 : ev_rng x50), ∀ (s60 : ev_St) (w51 : List (Nat × Value)), ev_lk w51 0 = some (.ref 621) → ev_lk w51 1 = some (.int (Int32.ofInt a0)) → ev_lk w51 2 = some (.int (Int32.ofInt x2)) → ev_lk w51 3 = some (.int (Int32.ofInt x47)) → ev_lk w51 4 = some (.int (Int32.ofInt x48)) → ev_lk w51 5 = some (.int (Int32.ofInt x5)) → ev_lk w51 6 = some (.int (Int32.ofInt x49)) → ev_lk w51 7 = some (.int (Int32.ofInt x50)) → ev_w none (ev_Mof 318) d 130 w51 [] s60 (K130 x47 x48 x49 x50 s60) ev_eI ev_rng) : ∀ (x47 : Int) (hx47 : ev_rng x47), ∀ (x48 : Int) (hx48 : ev_rng x48), ∀ (x49 : Int) (hx49 : ev_rng x49), ∀ (x50 : Int) (hx50 : ev_rng x50), ∀ (s60 : ev_St) (w51 : List (Nat × Value)), ev_lk w51 0 = some (.ref 621) → ev_lk w51 1 = some (.int (Int32.ofInt a0)) → ev_lk w51 2 = some (.int (Int32.ofInt x2)) → ev_lk w51 3 = some (.int (Int32.ofInt x47)) → ev_lk w51 4 = some (.int (Int32.ofInt x48)) → ev_lk w51 5 = some (.int (Int32.ofInt x5)) → ev_lk w51 6 = some (.int (Int32.ofInt x49)) → ev_lk w51 7 = some (.int (Int32.ofInt x50)) → ev_w none (ev_Mof 318) d 130 w51 [] s60 (jb_318_130 Q a0 x2 x5 K15 K130 x47 x48 x49 x50 s60) ev_eI ev_rng := by
  intro x47 hx47 x48 hx48 x49 hx49 x50 hx50 s60 w51 e52 e53 e54 e55 e56 e57 e58 e59
  unfold jb_318_130
  refine ev_r_iload (pc := 130) (k := 7) (v := Int32.ofInt x50) (by decide +kernel) (by exact e59) ?_
  refine ev_r_iload (pc := 132) (k := 6) (v := Int32.ofInt x49) (by decide +kernel) (by exact e58) ?_
  refine ev_r_icmp (pc := 134) (q := .ge) (o := 149) (t := 283) (c := x49 ≤ x50) (by decide +kernel) (ev_k_ge hx50 hx49) (by decide +kernel) ?_ ?_
  · intro c61
    refine ev_r_iinc (pc := 283) (k := 5) (c := 1) (x := x5) (by decide +kernel) (by decide +kernel) (by exact e57) (fun _ => rfl) ?_
    intro x62 hx62
    refine ev_r_goto (pc := 286) (o := (-271)) (t := 15) (by decide +kernel) (by decide +kernel) ?_
    exact hK15 x2 hx2 x47 hx47 x48 hx48 x62 hx62 s60 _ (by exact (ev_l1 e52 (by decide) (by decide))) (by exact (ev_l1 e53 (by decide) (by decide))) (by exact (ev_l1 e54 (by decide) (by decide))) (by exact (ev_l1 e55 (by decide) (by decide))) (by exact (ev_lk_st1 e56 (by decide) rfl)) (by exact ev_lk_st1_self)
  · intro c61
    refine ev_r_aload_n (pc := 137) (k := 0) (v := .ref 621) trivial (by decide +kernel) (by exact e52) ?_
    refine ev_r_getC (pc := 138) (y := 169) (ci := 13) (f := 69) (fin := 1) (k' := 674) (by decide +kernel) (by decide +kernel) (by exact ev_ob_621) rfl rfl ?_
    refine ev_r_iload (pc := 141) (k := 7) (v := Int32.ofInt x50) (by decide +kernel) (by exact e59) ?_
    refine ev_r_iald (pc := 143) hx50 (by decide +kernel) (by exact ev_ab_674) ?_
    intro x63 hx63
    refine ev_r_istore (pc := 144) (k := 8) (by decide +kernel) (by decide +kernel) rfl ?_
    refine ev_r_aload_n (pc := 146) (k := 0) (v := .ref 621) trivial (by decide +kernel) (by exact (ev_l1 e52 (by decide) (by decide))) ?_
    refine ev_r_getC (pc := 147) (y := 135) (ci := 13) (f := 56) (fin := 1) (k' := 663) (by decide +kernel) (by decide +kernel) (by exact ev_ob_621) rfl rfl ?_
    refine ev_r_sipush (pc := 150) (k := 210) (by decide +kernel) (by decide +kernel) ?_
    refine ev_r_iload_n (pc := 153) (k := 2) (v := Int32.ofInt x2) (by decide +kernel) (by exact (ev_l1 e54 (by decide) (by decide))) ?_
    refine ev_r_imul (pc := 154) (by decide +kernel) ?_
    intro x64 hx64
    refine ev_r_iload (pc := 155) (k := 8) (v := Int32.ofInt x63) (by decide +kernel) (by exact ev_lk_st1_self) ?_
    refine ev_r_iadd (pc := 157) (by decide +kernel) ?_
    intro x65 hx65
    refine ev_r_iald (pc := 158) hx65 (by decide +kernel) (by exact ev_ab_663) ?_
    intro x66 hx66
    refine ev_r_istore (pc := 159) (k := 9) (by decide +kernel) (by decide +kernel) rfl ?_
    refine ev_r_aload_n (pc := 161) (k := 0) (v := .ref 621) trivial (by decide +kernel) (by exact (ev_l1 (ev_l1 e52 (by decide) (by decide)) (by decide) (by decide))) ?_
    refine ev_r_getC (pc := 162) (y := 132) (ci := 13) (f := 55) (fin := 1) (k' := 662) (by decide +kernel) (by decide +kernel) (by exact ev_ob_621) rfl rfl ?_
    refine ev_r_sipush (pc := 165) (k := 210) (by decide +kernel) (by decide +kernel) ?_
    refine ev_r_iload_n (pc := 168) (k := 2) (v := Int32.ofInt x2) (by decide +kernel) (by exact (ev_l1 (ev_l1 e54 (by decide) (by decide)) (by decide) (by decide))) ?_
    refine ev_r_imul (pc := 169) (by decide +kernel) ?_
    intro x67 hx67
    refine ev_r_iload (pc := 170) (k := 8) (v := Int32.ofInt x63) (by decide +kernel) (by exact (ev_lk_st1 ev_lk_st1_self (by decide) rfl)) ?_
    refine ev_r_iadd (pc := 172) (by decide +kernel) ?_
    intro x68 hx68
    refine ev_r_iald (pc := 173) hx68 (by decide +kernel) (by exact ev_ab_662) ?_
    intro x69 hx69
    refine ev_r_iconst (pc := 174) (k := 5) (by decide +kernel) ?_
    refine ev_r_jn (Q := fun K => ∀ (x70 : Int) (hx70 : ev_rng x70), ∀ (x71 : Int) (hx71 : ev_rng x71), ∀ (x72 : Int) (hx72 : ev_rng x72), ∀ (s82 : ev_St) (w73 : List (Nat × Value)), ev_lk w73 0 = some (.ref 621) → ev_lk w73 1 = some (.int (Int32.ofInt a0)) → ev_lk w73 2 = some (.int (Int32.ofInt x2)) → ev_lk w73 3 = some (.int (Int32.ofInt x70)) → ev_lk w73 4 = some (.int (Int32.ofInt x71)) → ev_lk w73 5 = some (.int (Int32.ofInt x5)) → ev_lk w73 6 = some (.int (Int32.ofInt x72)) → ev_lk w73 7 = some (.int (Int32.ofInt x50)) → ev_w none (ev_Mof 318) d 277 w73 [] s82 (K x70 x71 x72 s82) ev_eI ev_rng) ?_ ?_
    · intro x70 hx70 x71 hx71 x72 hx72 s82 w73 e74 e75 e76 e77 e78 e79 e80 e81
      refine ev_r_iinc (pc := 277) (k := 7) (c := 1) (x := x50) (by decide +kernel) (by decide +kernel) (by exact e81) (fun _ => rfl) ?_
      intro x83 hx83
      refine ev_r_goto (pc := 280) (o := (-150)) (t := 130) (by decide +kernel) (by decide +kernel) ?_
      exact hK130 x70 hx70 x71 hx71 x72 hx72 x83 hx83 s82 _ (by exact (ev_l1 e74 (by decide) (by decide))) (by exact (ev_l1 e75 (by decide) (by decide))) (by exact (ev_l1 e76 (by decide) (by decide))) (by exact (ev_l1 e77 (by decide) (by decide))) (by exact (ev_l1 e78 (by decide) (by decide))) (by exact (ev_l1 e79 (by decide) (by decide))) (by exact (ev_lk_st1 e80 (by decide) rfl)) (by exact ev_lk_st1_self)
    · intro K277 hK277
      refine ev_r_icmp (pc := 175) (q := .ne) (o := 31) (t := 206) (c := x69 ≠ 5) (by decide +kernel) (ev_k_ne hx69 (by decide)) (by decide +kernel) ?_ ?_
      · intro c84
        refine ev_r_iload (pc := 206) (k := 5) (v := Int32.ofInt x5) (by decide +kernel) (by exact (ev_l1 (ev_l1 e57 (by decide) (by decide)) (by decide) (by decide))) ?_
        refine ev_r_aload_n (pc := 208) (k := 0) (v := .ref 621) trivial (by decide +kernel) (by exact (ev_l1 (ev_l1 e52 (by decide) (by decide)) (by decide) (by decide))) ?_
        refine ev_r_getC (pc := 209) (y := 315) (ci := 13) (f := 143) (fin := 1) (k' := 721) (by decide +kernel) (by decide +kernel) (by exact ev_ob_621) rfl rfl ?_
        refine ev_r_iload_n (pc := 212) (k := 1) (v := Int32.ofInt a0) (by decide +kernel) (by exact (ev_l1 (ev_l1 e53 (by decide) (by decide)) (by decide) (by decide))) ?_
        refine ev_r_iald (pc := 213) ha0 (by decide +kernel) (by exact ev_ab_721) ?_
        intro x85 hx85
        refine ev_r_icmp (pc := 214) (q := .ge) (o := 63) (t := 277) (c := x85 ≤ x5) (by decide +kernel) (ev_k_ge hx5 hx85) (by decide +kernel) ?_ ?_
        · intro c86
          exact hK277 x47 hx47 x48 hx48 x49 hx49 s60 _ (by exact (ev_l1 (ev_l1 e52 (by decide) (by decide)) (by decide) (by decide))) (by exact (ev_l1 (ev_l1 e53 (by decide) (by decide)) (by decide) (by decide))) (by exact (ev_l1 (ev_l1 e54 (by decide) (by decide)) (by decide) (by decide))) (by exact (ev_l1 (ev_l1 e55 (by decide) (by decide)) (by decide) (by decide))) (by exact (ev_l1 (ev_l1 e56 (by decide) (by decide)) (by decide) (by decide))) (by exact (ev_l1 (ev_l1 e57 (by decide) (by decide)) (by decide) (by decide))) (by exact (ev_l1 (ev_l1 e58 (by decide) (by decide)) (by decide) (by decide))) (by exact (ev_l1 (ev_lk_st1 e59 (by decide) rfl) (by decide) (by decide)))
        · intro c86
          refine ev_r_aload_n (pc := 217) (k := 0) (v := .ref 621) trivial (by decide +kernel) (by exact (ev_l1 (ev_l1 e52 (by decide) (by decide)) (by decide) (by decide))) ?_
          refine ev_r_getC (pc := 218) (y := 43) (ci := 13) (f := 14) (fin := 1) (k' := 633) (by decide +kernel) (by decide +kernel) (by exact ev_ob_621) rfl rfl ?_
          refine ev_r_iload (pc := 221) (k := 9) (v := Int32.ofInt x66) (by decide +kernel) (by exact ev_lk_st1_self) ?_
          refine ev_r_lald (pc := 223) hx66 (by decide +kernel) (by exact ev_ab_633) ?_
          intro y87
          refine ev_r_aload_n (pc := 224) (k := 0) (v := .ref 621) trivial (by decide +kernel) (by exact (ev_l1 (ev_l1 e52 (by decide) (by decide)) (by decide) (by decide))) ?_
          refine ev_r_getC (pc := 225) (y := 47) (ci := 13) (f := 15) (fin := 1) (k' := 634) (by decide +kernel) (by decide +kernel) (by exact ev_ob_621) rfl rfl ?_
          refine ev_r_iload (pc := 228) (k := 9) (v := Int32.ofInt x66) (by decide +kernel) (by exact ev_lk_st1_self) ?_
          refine ev_r_lald (pc := 230) hx66 (by decide +kernel) (by exact ev_ab_634) ?_
          intro y88
          refine ev_r_aload_n (pc := 231) (k := 0) (v := .ref 621) trivial (by decide +kernel) (by exact (ev_l1 (ev_l1 e52 (by decide) (by decide)) (by decide) (by decide))) ?_
          refine ev_r_getC (pc := 232) (y := 318) (ci := 13) (f := 144) (fin := 1) (k' := 722) (by decide +kernel) (by decide +kernel) (by exact ev_ob_621) rfl rfl ?_
          refine ev_r_bipush (pc := 235) (k := 80) (by decide +kernel) (by decide +kernel) ?_
          refine ev_r_iload_n (pc := 237) (k := 1) (v := Int32.ofInt a0) (by decide +kernel) (by exact (ev_l1 (ev_l1 e53 (by decide) (by decide)) (by decide) (by decide))) ?_
          refine ev_r_imul (pc := 238) (by decide +kernel) ?_
          intro x89 hx89
          refine ev_r_iload (pc := 239) (k := 5) (v := Int32.ofInt x5) (by decide +kernel) (by exact (ev_l1 (ev_l1 e57 (by decide) (by decide)) (by decide) (by decide))) ?_
          refine ev_r_iadd (pc := 241) (by decide +kernel) ?_
          intro x90 hx90
          refine ev_r_iald (pc := 242) hx90 (by decide +kernel) (by exact ev_ab_722) ?_
          intro x91 hx91
          refine ev_r_stat (pc := 243) (y := 534) (kind := 2) (mi := 244) (na := 3) (as := [.long y87, .long y88, .int (Int32.ofInt x91)]) (rest := []) (encc := ev_oI) (Q := ev_bl) (fun x S1 h => jt_244 d (by omega) Q y87 y88 x91 hx91 s60 x S1 h) (Or.inl rfl) (by decide +kernel) (by decide +kernel) (by decide +kernel) (by decide +kernel) rfl (by (try simp only [ev_sum, ev_nv_cat]); first | done | rfl) ?_
          intro x93 s92 hx93
          replace hx93 := ev_bl_rng hx93
          show ev_w _ _ _ _ _ [.int (Int32.ofInt x93)] _ _ _ _
          refine ev_r_if (pc := 246) (q := .eq) (o := 31) (t := 277) (c := x93 = 0) (by decide +kernel) (ev_k_eq hx93 ev_rng0) (by decide +kernel) ?_ ?_
          · intro c94
            exact hK277 x47 hx47 x48 hx48 x49 hx49 s92 _ (by exact (ev_l1 (ev_l1 e52 (by decide) (by decide)) (by decide) (by decide))) (by exact (ev_l1 (ev_l1 e53 (by decide) (by decide)) (by decide) (by decide))) (by exact (ev_l1 (ev_l1 e54 (by decide) (by decide)) (by decide) (by decide))) (by exact (ev_l1 (ev_l1 e55 (by decide) (by decide)) (by decide) (by decide))) (by exact (ev_l1 (ev_l1 e56 (by decide) (by decide)) (by decide) (by decide))) (by exact (ev_l1 (ev_l1 e57 (by decide) (by decide)) (by decide) (by decide))) (by exact (ev_l1 (ev_l1 e58 (by decide) (by decide)) (by decide) (by decide))) (by exact (ev_l1 (ev_lk_st1 e59 (by decide) rfl) (by decide) (by decide)))
          · intro c94
            refine ev_r_aload_n (pc := 249) (k := 0) (v := .ref 621) trivial (by decide +kernel) (by exact (ev_l1 (ev_l1 e52 (by decide) (by decide)) (by decide) (by decide))) ?_
            refine ev_r_getC (pc := 250) (y := 175) (ci := 13) (f := 71) (fin := 1) (k' := 676) (by decide +kernel) (by decide +kernel) (by exact ev_ob_621) rfl rfl ?_
            refine ev_r_iload (pc := 253) (k := 4) (v := Int32.ofInt x48) (by decide +kernel) (by exact (ev_l1 (ev_l1 e56 (by decide) (by decide)) (by decide) (by decide))) ?_
            refine ev_r_iload (pc := 255) (k := 8) (v := Int32.ofInt x63) (by decide +kernel) (by exact (ev_lk_st1 ev_lk_st1_self (by decide) rfl)) ?_
            refine ev_r_iconst (pc := 257) (k := 1) (by decide +kernel) ?_
            refine ev_r_iadd (pc := 258) (by decide +kernel) ?_
            intro x95 hx95
            refine ev_r_iast (pc := 259) hx95 hx48 (by decide +kernel) (by exact ev_ab_676) ?_
            intro s96
            refine ev_r_aload_n (pc := 260) (k := 0) (v := .ref 621) trivial (by decide +kernel) (by exact (ev_l1 (ev_l1 e52 (by decide) (by decide)) (by decide) (by decide))) ?_
            refine ev_r_getC (pc := 261) (y := 178) (ci := 13) (f := 72) (fin := 1) (k' := 677) (by decide +kernel) (by decide +kernel) (by exact ev_ob_621) rfl rfl ?_
            refine ev_r_iload (pc := 264) (k := 4) (v := Int32.ofInt x48) (by decide +kernel) (by exact (ev_l1 (ev_l1 e56 (by decide) (by decide)) (by decide) (by decide))) ?_
            refine ev_r_aload_n (pc := 266) (k := 0) (v := .ref 621) trivial (by decide +kernel) (by exact (ev_l1 (ev_l1 e52 (by decide) (by decide)) (by decide) (by decide))) ?_
            refine ev_r_getC (pc := 267) (y := 172) (ci := 13) (f := 70) (fin := 1) (k' := 675) (by decide +kernel) (by decide +kernel) (by exact ev_ob_621) rfl rfl ?_
            refine ev_r_iload (pc := 270) (k := 7) (v := Int32.ofInt x50) (by decide +kernel) (by exact (ev_l1 (ev_lk_st1 e59 (by decide) rfl) (by decide) (by decide))) ?_
            refine ev_r_iald (pc := 272) hx50 (by decide +kernel) (by exact ev_ab_675) ?_
            intro x97 hx97
            refine ev_r_iast (pc := 273) hx97 hx48 (by decide +kernel) (by exact ev_ab_677) ?_
            intro s98
            refine ev_r_iinc (pc := 274) (k := 4) (c := 1) (x := x48) (by decide +kernel) (by decide +kernel) (by exact (ev_l1 (ev_l1 e56 (by decide) (by decide)) (by decide) (by decide))) (fun _ => rfl) ?_
            intro x99 hx99
            exact hK277 x47 hx47 x99 hx99 x49 hx49 s98 _ (by exact (ev_l1 (ev_l1 (ev_l1 e52 (by decide) (by decide)) (by decide) (by decide)) (by decide) (by decide))) (by exact (ev_l1 (ev_l1 (ev_l1 e53 (by decide) (by decide)) (by decide) (by decide)) (by decide) (by decide))) (by exact (ev_l1 (ev_l1 (ev_l1 e54 (by decide) (by decide)) (by decide) (by decide)) (by decide) (by decide))) (by exact (ev_lk_st1 (ev_l1 (ev_l1 e55 (by decide) (by decide)) (by decide) (by decide)) (by decide) rfl)) (by exact ev_lk_st1_self) (by exact (ev_l1 (ev_l1 (ev_l1 e57 (by decide) (by decide)) (by decide) (by decide)) (by decide) (by decide))) (by exact (ev_l1 (ev_l1 (ev_l1 e58 (by decide) (by decide)) (by decide) (by decide)) (by decide) (by decide))) (by exact (ev_l1 (ev_l1 (ev_lk_st1 e59 (by decide) rfl) (by decide) (by decide)) (by decide) (by decide)))
      · intro c84
        refine ev_r_sipush (pc := 178) (k := 1000) (by decide +kernel) (by decide +kernel) ?_
        refine ev_r_aload_n (pc := 181) (k := 0) (v := .ref 621) trivial (by decide +kernel) (by exact (ev_l1 (ev_l1 e52 (by decide) (by decide)) (by decide) (by decide))) ?_
        refine ev_r_getC (pc := 182) (y := 172) (ci := 13) (f := 70) (fin := 1) (k' := 675) (by decide +kernel) (by decide +kernel) (by exact ev_ob_621) rfl rfl ?_
        refine ev_r_iload (pc := 185) (k := 7) (v := Int32.ofInt x50) (by decide +kernel) (by exact (ev_l1 (ev_lk_st1 e59 (by decide) rfl) (by decide) (by decide))) ?_
        refine ev_r_iald (pc := 187) hx50 (by decide +kernel) (by exact ev_ab_675) ?_
        intro x100 hx100
        refine ev_r_imul (pc := 188) (by decide +kernel) ?_
        intro x101 hx101
        refine ev_r_iload (pc := 189) (k := 5) (v := Int32.ofInt x5) (by decide +kernel) (by exact (ev_l1 (ev_l1 e57 (by decide) (by decide)) (by decide) (by decide))) ?_
        refine ev_r_iadd (pc := 191) (by decide +kernel) ?_
        intro x102 hx102
        refine ev_r_istore_n (pc := 192) (k := 3) (by decide +kernel) (by decide +kernel) rfl ?_
        refine ev_r_iload (pc := 193) (k := 7) (v := Int32.ofInt x50) (by decide +kernel) (by exact (ev_l1 (ev_l1 (ev_lk_st1 e59 (by decide) rfl) (by decide) (by decide)) (by decide) (by decide))) ?_
        refine ev_r_istore (pc := 195) (k := 6) (by decide +kernel) (by decide +kernel) rfl ?_
        refine ev_r_aload_n (pc := 197) (k := 0) (v := .ref 621) trivial (by decide +kernel) (by exact (ev_l1 (ev_l1 (ev_l1 (ev_l1 e52 (by decide) (by decide)) (by decide) (by decide)) (by decide) (by decide)) (by decide) (by decide))) ?_
        refine ev_r_iload (pc := 198) (k := 7) (v := Int32.ofInt x50) (by decide +kernel) (by exact (ev_l1 (ev_l1 (ev_l1 (ev_lk_st1 e59 (by decide) rfl) (by decide) (by decide)) (by decide) (by decide)) (by decide) (by decide))) ?_
        refine ev_r_putI (pc := 200) (y := 695) (ci := 13) (f := 68) hx50 (by decide +kernel) (by decide +kernel) (by exact ev_ob_621) rfl rfl ?_
        intro s103
        refine ev_r_goto (pc := 203) (o := 74) (t := 277) (by decide +kernel) (by decide +kernel) ?_
        exact hK277 x102 hx102 x48 hx48 x50 hx50 s103 _ (by exact (ev_l1 (ev_l1 (ev_l1 (ev_l1 e52 (by decide) (by decide)) (by decide) (by decide)) (by decide) (by decide)) (by decide) (by decide))) (by exact (ev_l1 (ev_l1 (ev_l1 (ev_l1 e53 (by decide) (by decide)) (by decide) (by decide)) (by decide) (by decide)) (by decide) (by decide))) (by exact (ev_l1 (ev_lk_st1 (ev_l1 (ev_l1 e54 (by decide) (by decide)) (by decide) (by decide)) (by decide) rfl) (by decide) (by decide))) (by exact (ev_l1 ev_lk_st1_self (by decide) (by decide))) (by exact (ev_l1 (ev_l1 (ev_l1 (ev_l1 e56 (by decide) (by decide)) (by decide) (by decide)) (by decide) (by decide)) (by decide) (by decide))) (by exact (ev_lk_st1 (ev_l1 (ev_l1 (ev_l1 e57 (by decide) (by decide)) (by decide) (by decide)) (by decide) (by decide)) (by decide) rfl)) (by exact ev_lk_st1_self) (by exact (ev_l1 (ev_l1 (ev_l1 (ev_lk_st1 e59 (by decide) rfl) (by decide) (by decide)) (by decide) (by decide)) (by decide) (by decide)))
theorem jlt_318_130 (d : Nat) (hd : 3 ≤ d + 1) (Q : Nat) (a0 : Int) (x2 : Int) (x5 : Int) (ha0 : ev_rng a0) (hx2 : ev_rng x2) (hx5 : ev_rng x5) (K15 : Int → Int → Int → Int → ev_St → Option ((Int) × ev_St)) (hK15 : ∀ (x2 : Int) (hx2 : ev_rng x2), ∀ (x3 : Int) (hx3 : ev_rng x3), ∀ (x4 : Int) (hx4 : ev_rng x4), ∀ (x5 : Int) (hx5 : ev_rng x5), ∀ (s13 : ev_St) (w6 : List (Nat × Value)), ev_lk w6 0 = some (.ref 621) → ev_lk w6 1 = some (.int (Int32.ofInt a0)) → ev_lk w6 2 = some (.int (Int32.ofInt x2)) → ev_lk w6 3 = some (.int (Int32.ofInt x3)) → ev_lk w6 4 = some (.int (Int32.ofInt x4)) → ev_lk w6 5 = some (.int (Int32.ofInt x5)) → ev_w none (ev_Mof 318) d 15 w6 [] s13 (K15 x2 x3 x4 x5 s13) ev_eI ev_rng) : ∀ q : Nat, ∀ (x47 : Int) (hx47 : ev_rng x47), ∀ (x48 : Int) (hx48 : ev_rng x48), ∀ (x49 : Int) (hx49 : ev_rng x49), ∀ (x50 : Int) (hx50 : ev_rng x50), ∀ (s60 : ev_St) (w51 : List (Nat × Value)), ev_lk w51 0 = some (.ref 621) → ev_lk w51 1 = some (.int (Int32.ofInt a0)) → ev_lk w51 2 = some (.int (Int32.ofInt x2)) → ev_lk w51 3 = some (.int (Int32.ofInt x47)) → ev_lk w51 4 = some (.int (Int32.ofInt x48)) → ev_lk w51 5 = some (.int (Int32.ofInt x5)) → ev_lk w51 6 = some (.int (Int32.ofInt x49)) → ev_lk w51 7 = some (.int (Int32.ofInt x50)) → ev_w none (ev_Mof 318) d 130 w51 [] s60 (jl_318_130 Q a0 x2 x5 K15 q x47 x48 x49 x50 s60) ev_eI ev_rng := by
  intro q
  induction q with
  | zero =>
    intro x47 hx47 x48 hx48 x49 hx49 x50 hx50 s60 w51 e52 e53 e54 e55 e56 e57 e58 e59
    exact ev_w_none
  | succ q ih => exact jbt_318_130 d hd Q a0 x2 x5 ha0 hx2 hx5 K15 hK15 _ ih
def jb_318_59 (Q : Nat) (a0 : Int) (x2 : Int) (x3 : Int) (x4 : Int) (x5 : Int) (K15 : Int → Int → Int → Int → ev_St → Option ((Int) × ev_St)) (K59 : Int → ev_St → Option ((Int) × ev_St)) (x28 : Int) (s37 : ev_St) : Option ((Int) × ev_St) := if x4 ≤ x28 then (ev_jn (fun  (s45 : ev_St) => ev_b (s45.1 621 68) fun x46 => jl_318_130 Q a0 x2 x5 K15 Q x3 0 x46 0 s45) fun K118 => if x3 ≠ (-1) then (K118  s37) else (ev_jn (fun  (s111 : ev_St) => ev_bd (jm_317 Q x2 0 x5 s111) fun _ s112 => K118  s112) fun K110 => if x5 = 0 then (K110  s37) else (ev_if ((0 : Int) ≤ a0 ∧ a0 < (ev_aln 719 : Int)) (ev_b (s37.1 719 (Int.toNat a0)) fun x114 => if x114 ≠ 0 then (K118  s37) else (K110  s37))))) else (ev_if ((0 : Int) ≤ x28 ∧ x28 < (ev_aln 676 : Int)) (ev_b (s37.1 676 (Int.toNat x28)) fun x116 => ev_if ((0 : Int) ≤ x28 ∧ x28 < (ev_aln 677 : Int)) (ev_b (s37.1 677 (Int.toNat x28)) fun x117 => ev_bd (jm_317 Q x2 x116 x117 s37) fun _ s118 => ev_ck (x28 + 1) fun x119 => K59 x119 s118)))
def jl_318_59 (Q : Nat) (a0 : Int) (x2 : Int) (x3 : Int) (x4 : Int) (x5 : Int) (K15 : Int → Int → Int → Int → ev_St → Option ((Int) × ev_St)) : Nat → Int → ev_St → Option ((Int) × ev_St)
  | 0 => fun _ _ => none
  | q + 1 => jb_318_59 Q a0 x2 x3 x4 x5 K15 (jl_318_59 Q a0 x2 x3 x4 x5 K15 q)
theorem jbt_318_59 (d : Nat) (hd : 3 ≤ d + 1) (Q : Nat) (a0 : Int) (x2 : Int) (x3 : Int) (x4 : Int) (x5 : Int) (ha0 : ev_rng a0) (hx2 : ev_rng x2) (hx3 : ev_rng x3) (hx4 : ev_rng x4) (hx5 : ev_rng x5) (K15 : Int → Int → Int → Int → ev_St → Option ((Int) × ev_St)) (hK15 : ∀ (x2 : Int) (hx2 : ev_rng x2), ∀ (x3 : Int) (hx3 : ev_rng x3), ∀ (x4 : Int) (hx4 : ev_rng x4), ∀ (x5 : Int) (hx5 : ev_rng x5), ∀ (s13 : ev_St) (w6 : List (Nat × Value)), ev_lk w6 0 = some (.ref 621) → ev_lk w6 1 = some (.int (Int32.ofInt a0)) → ev_lk w6 2 = some (.int (Int32.ofInt x2)) → ev_lk w6 3 = some (.int (Int32.ofInt x3)) → ev_lk w6 4 = some (.int (Int32.ofInt x4)) → ev_lk w6 5 = some (.int (Int32.ofInt x5)) → ev_w none (ev_Mof 318) d 15 w6 [] s13 (K15 x2 x3 x4 x5 s13) ev_eI ev_rng) (K59 : Int → ev_St → Option ((Int) × ev_St)) (hK59 : ∀ (x28 : Int) (hx28 : ev_rng x28), ∀ (s37 : ev_St) (w29 : List (Nat × Value)), ev_lk w29 0 = some (.ref 621) → ev_lk w29 1 = some (.int (Int32.ofInt a0)) → ev_lk w29 2 = some (.int (Int32.ofInt x2)) → ev_lk w29 3 = some (.int (Int32.ofInt x3)) → ev_lk w29 4 = some (.int (Int32.ofInt x4)) → ev_lk w29 5 = some (.int (Int32.ofInt x5)) → ev_lk w29 6 = some (.int (Int32.ofInt x28)) → ev_w none (ev_Mof 318) d 59 w29 [] s37 (K59 x28 s37) ev_eI ev_rng) : ∀ (x28 : Int) (hx28 : ev_rng x28), ∀ (s37 : ev_St) (w29 : List (Nat × Value)), ev_lk w29 0 = some (.ref 621) → ev_lk w29 1 = some (.int (Int32.ofInt a0)) → ev_lk w29 2 = some (.int (Int32.ofInt x2)) → ev_lk w29 3 = some (.int (Int32.ofInt x3)) → ev_lk w29 4 = some (.int (Int32.ofInt x4)) → ev_lk w29 5 = some (.int (Int32.ofInt x5)) → ev_lk w29 6 = some (.int (Int32.ofInt x28)) → ev_w none (ev_Mof 318) d 59 w29 [] s37 (jb_318_59 Q a0 x2 x3 x4 x5 K15 K59 x28 s37) ev_eI ev_rng := by
  intro x28 hx28 s37 w29 e30 e31 e32 e33 e34 e35 e36
  unfold jb_318_59
  refine ev_r_iload (pc := 59) (k := 6) (v := Int32.ofInt x28) (by decide +kernel) (by exact e36) ?_
  refine ev_r_iload (pc := 61) (k := 4) (v := Int32.ofInt x4) (by decide +kernel) (by exact e34) ?_
  refine ev_r_icmp (pc := 63) (q := .ge) (o := 28) (t := 91) (c := x4 ≤ x28) (by decide +kernel) (ev_k_ge hx28 hx4) (by decide +kernel) ?_ ?_
  · intro c38
    refine ev_r_iload_n (pc := 91) (k := 3) (v := Int32.ofInt x3) (by decide +kernel) (by exact e33) ?_
    refine ev_r_iconst (pc := 92) (k := -1) (by decide +kernel) ?_
    refine ev_r_jn (Q := fun K => ∀ (s45 : ev_St) (w39 : List (Nat × Value)), ev_lk w39 0 = some (.ref 621) → ev_lk w39 1 = some (.int (Int32.ofInt a0)) → ev_lk w39 2 = some (.int (Int32.ofInt x2)) → ev_lk w39 3 = some (.int (Int32.ofInt x3)) → ev_lk w39 5 = some (.int (Int32.ofInt x5)) → ev_w none (ev_Mof 318) d 118 w39 [] s45 (K  s45) ev_eI ev_rng) ?_ ?_
    · intro  s45 w39 e40 e41 e42 e43 e44
      refine ev_r_iconst (pc := 118) (k := 0) (by decide +kernel) ?_
      refine ev_r_istore (pc := 119) (k := 4) (by decide +kernel) (by decide +kernel) rfl ?_
      refine ev_r_aload_n (pc := 121) (k := 0) (v := .ref 621) trivial (by decide +kernel) (by exact (ev_l1 e40 (by decide) (by decide))) ?_
      refine ev_r_getI (pc := 122) (y := 695) (ci := 13) (f := 68) (fin := 0) (by decide +kernel) (by decide +kernel) (by exact ev_ob_621) rfl ?_
      intro x46 hx46
      refine ev_r_istore (pc := 125) (k := 6) (by decide +kernel) (by decide +kernel) rfl ?_
      refine ev_r_iconst (pc := 127) (k := 0) (by decide +kernel) ?_
      refine ev_r_istore (pc := 128) (k := 7) (by decide +kernel) (by decide +kernel) rfl ?_
      exact jlt_318_130 d hd Q a0 x2 x5 ha0 hx2 hx5 K15 hK15 Q x3 hx3 0 (by decide) x46 hx46 0 (by decide) s45 _ (by exact (ev_l1 (ev_l1 (ev_l1 e40 (by decide) (by decide)) (by decide) (by decide)) (by decide) (by decide))) (by exact (ev_l1 (ev_l1 (ev_l1 e41 (by decide) (by decide)) (by decide) (by decide)) (by decide) (by decide))) (by exact (ev_l1 (ev_l1 (ev_l1 e42 (by decide) (by decide)) (by decide) (by decide)) (by decide) (by decide))) (by exact (ev_l1 (ev_l1 (ev_lk_st1 e43 (by decide) rfl) (by decide) (by decide)) (by decide) (by decide))) (by exact (ev_l1 (ev_l1 ev_lk_st1_self (by decide) (by decide)) (by decide) (by decide))) (by exact (ev_l1 (ev_lk_st1 (ev_l1 e44 (by decide) (by decide)) (by decide) rfl) (by decide) (by decide))) (by exact (ev_lk_st1 ev_lk_st1_self (by decide) rfl)) (by exact ev_lk_st1_self)
    · intro K118 hK118
      refine ev_r_icmp (pc := 93) (q := .ne) (o := 25) (t := 118) (c := x3 ≠ (-1)) (by decide +kernel) (ev_k_ne hx3 (by decide)) (by decide +kernel) ?_ ?_
      · intro c104
        exact hK118  s37 _ (by exact e30) (by exact e31) (by exact e32) (by exact e33) (by exact e35)
      · intro c104
        refine ev_r_iload (pc := 96) (k := 5) (v := Int32.ofInt x5) (by decide +kernel) (by exact e35) ?_
        refine ev_r_jn (Q := fun K => ∀ (s111 : ev_St) (w105 : List (Nat × Value)), ev_lk w105 0 = some (.ref 621) → ev_lk w105 1 = some (.int (Int32.ofInt a0)) → ev_lk w105 2 = some (.int (Int32.ofInt x2)) → ev_lk w105 3 = some (.int (Int32.ofInt x3)) → ev_lk w105 5 = some (.int (Int32.ofInt x5)) → ev_w none (ev_Mof 318) d 110 w105 [] s111 (K  s111) ev_eI ev_rng) ?_ ?_
        · intro  s111 w105 e106 e107 e108 e109 e110
          refine ev_r_aload_n (pc := 110) (k := 0) (v := .ref 621) trivial (by decide +kernel) (by exact e106) ?_
          refine ev_r_iload_n (pc := 111) (k := 2) (v := Int32.ofInt x2) (by decide +kernel) (by exact e108) ?_
          refine ev_r_iconst (pc := 112) (k := 0) (by decide +kernel) ?_
          refine ev_r_iload (pc := 113) (k := 5) (v := Int32.ofInt x5) (by decide +kernel) (by exact e110) ?_
          refine ev_r_virt (pc := 115) (y := 698) (mi := 317) (na := 3) (k := 621) (as := [.int (Int32.ofInt x2), .int (Int32.ofInt 0), .int (Int32.ofInt x5)]) (rest := []) (encc := ev_oU) (Q := ev_PU) (fun x S1 h => jt_317 d (by omega) Q x2 0 x5 hx2 (by decide) hx5 s111 x S1 h) (by exact ev_ob_621) (by decide +kernel) (by decide +kernel) (by decide +kernel) (by decide +kernel) rfl (by (try simp only [ev_sum, ev_nv_cat]); first | done | rfl) ?_
          intro _ s112 _
          show ev_w _ _ _ _ _ [] _ _ _ _
          exact hK118  s112 _ (by exact e106) (by exact e107) (by exact e108) (by exact e109) (by exact e110)
        · intro K110 hK110
          refine ev_r_if (pc := 98) (q := .eq) (o := 12) (t := 110) (c := x5 = 0) (by decide +kernel) (ev_k_eq hx5 ev_rng0) (by decide +kernel) ?_ ?_
          · intro c113
            exact hK110  s37 _ (by exact e30) (by exact e31) (by exact e32) (by exact e33) (by exact e35)
          · intro c113
            refine ev_r_aload_n (pc := 101) (k := 0) (v := .ref 621) trivial (by decide +kernel) (by exact e30) ?_
            refine ev_r_getC (pc := 102) (y := 309) (ci := 13) (f := 141) (fin := 1) (k' := 719) (by decide +kernel) (by decide +kernel) (by exact ev_ob_621) rfl rfl ?_
            refine ev_r_iload_n (pc := 105) (k := 1) (v := Int32.ofInt a0) (by decide +kernel) (by exact e31) ?_
            refine ev_r_bald (pc := 106) (ty := .boolean) (Or.inr rfl) ha0 (by decide +kernel) (by exact ev_ab_719) ?_
            intro x114 hx114
            refine ev_r_if (pc := 107) (q := .ne) (o := 11) (t := 118) (c := x114 ≠ 0) (by decide +kernel) (ev_k_ne hx114 ev_rng0) (by decide +kernel) ?_ ?_
            · intro c115
              exact hK118  s37 _ (by exact e30) (by exact e31) (by exact e32) (by exact e33) (by exact e35)
            · intro c115
              exact hK110  s37 _ (by exact e30) (by exact e31) (by exact e32) (by exact e33) (by exact e35)
  · intro c38
    refine ev_r_aload_n (pc := 66) (k := 0) (v := .ref 621) trivial (by decide +kernel) (by exact e30) ?_
    refine ev_r_iload_n (pc := 67) (k := 2) (v := Int32.ofInt x2) (by decide +kernel) (by exact e32) ?_
    refine ev_r_aload_n (pc := 68) (k := 0) (v := .ref 621) trivial (by decide +kernel) (by exact e30) ?_
    refine ev_r_getC (pc := 69) (y := 175) (ci := 13) (f := 71) (fin := 1) (k' := 676) (by decide +kernel) (by decide +kernel) (by exact ev_ob_621) rfl rfl ?_
    refine ev_r_iload (pc := 72) (k := 6) (v := Int32.ofInt x28) (by decide +kernel) (by exact e36) ?_
    refine ev_r_iald (pc := 74) hx28 (by decide +kernel) (by exact ev_ab_676) ?_
    intro x116 hx116
    refine ev_r_aload_n (pc := 75) (k := 0) (v := .ref 621) trivial (by decide +kernel) (by exact e30) ?_
    refine ev_r_getC (pc := 76) (y := 178) (ci := 13) (f := 72) (fin := 1) (k' := 677) (by decide +kernel) (by decide +kernel) (by exact ev_ob_621) rfl rfl ?_
    refine ev_r_iload (pc := 79) (k := 6) (v := Int32.ofInt x28) (by decide +kernel) (by exact e36) ?_
    refine ev_r_iald (pc := 81) hx28 (by decide +kernel) (by exact ev_ab_677) ?_
    intro x117 hx117
    refine ev_r_virt (pc := 82) (y := 698) (mi := 317) (na := 3) (k := 621) (as := [.int (Int32.ofInt x2), .int (Int32.ofInt x116), .int (Int32.ofInt x117)]) (rest := []) (encc := ev_oU) (Q := ev_PU) (fun x S1 h => jt_317 d (by omega) Q x2 x116 x117 hx2 hx116 hx117 s37 x S1 h) (by exact ev_ob_621) (by decide +kernel) (by decide +kernel) (by decide +kernel) (by decide +kernel) rfl (by (try simp only [ev_sum, ev_nv_cat]); first | done | rfl) ?_
    intro _ s118 _
    show ev_w _ _ _ _ _ [] _ _ _ _
    refine ev_r_iinc (pc := 85) (k := 6) (c := 1) (x := x28) (by decide +kernel) (by decide +kernel) (by exact e36) (fun _ => rfl) ?_
    intro x119 hx119
    refine ev_r_goto (pc := 88) (o := (-29)) (t := 59) (by decide +kernel) (by decide +kernel) ?_
    exact hK59 x119 hx119 s118 _ (by exact (ev_l1 e30 (by decide) (by decide))) (by exact (ev_l1 e31 (by decide) (by decide))) (by exact (ev_l1 e32 (by decide) (by decide))) (by exact (ev_l1 e33 (by decide) (by decide))) (by exact (ev_l1 e34 (by decide) (by decide))) (by exact (ev_lk_st1 e35 (by decide) rfl)) (by exact ev_lk_st1_self)
theorem jlt_318_59 (d : Nat) (hd : 3 ≤ d + 1) (Q : Nat) (a0 : Int) (x2 : Int) (x3 : Int) (x4 : Int) (x5 : Int) (ha0 : ev_rng a0) (hx2 : ev_rng x2) (hx3 : ev_rng x3) (hx4 : ev_rng x4) (hx5 : ev_rng x5) (K15 : Int → Int → Int → Int → ev_St → Option ((Int) × ev_St)) (hK15 : ∀ (x2 : Int) (hx2 : ev_rng x2), ∀ (x3 : Int) (hx3 : ev_rng x3), ∀ (x4 : Int) (hx4 : ev_rng x4), ∀ (x5 : Int) (hx5 : ev_rng x5), ∀ (s13 : ev_St) (w6 : List (Nat × Value)), ev_lk w6 0 = some (.ref 621) → ev_lk w6 1 = some (.int (Int32.ofInt a0)) → ev_lk w6 2 = some (.int (Int32.ofInt x2)) → ev_lk w6 3 = some (.int (Int32.ofInt x3)) → ev_lk w6 4 = some (.int (Int32.ofInt x4)) → ev_lk w6 5 = some (.int (Int32.ofInt x5)) → ev_w none (ev_Mof 318) d 15 w6 [] s13 (K15 x2 x3 x4 x5 s13) ev_eI ev_rng) : ∀ q : Nat, ∀ (x28 : Int) (hx28 : ev_rng x28), ∀ (s37 : ev_St) (w29 : List (Nat × Value)), ev_lk w29 0 = some (.ref 621) → ev_lk w29 1 = some (.int (Int32.ofInt a0)) → ev_lk w29 2 = some (.int (Int32.ofInt x2)) → ev_lk w29 3 = some (.int (Int32.ofInt x3)) → ev_lk w29 4 = some (.int (Int32.ofInt x4)) → ev_lk w29 5 = some (.int (Int32.ofInt x5)) → ev_lk w29 6 = some (.int (Int32.ofInt x28)) → ev_w none (ev_Mof 318) d 59 w29 [] s37 (jl_318_59 Q a0 x2 x3 x4 x5 K15 q x28 s37) ev_eI ev_rng := by
  intro q
  induction q with
  | zero =>
    intro x28 hx28 s37 w29 e30 e31 e32 e33 e34 e35 e36
    exact ev_w_none
  | succ q ih => exact jbt_318_59 d hd Q a0 x2 x3 x4 x5 ha0 hx2 hx3 hx4 hx5 K15 hK15 _ ih
def jb_318_29 (Q : Nat) (a0 : Int) (x2 : Int) (x3 : Int) (x4 : Int) (x5 : Int) (K15 : Int → Int → Int → Int → ev_St → Option ((Int) × ev_St)) (K29 : Int → ev_St → Option ((Int) × ev_St)) (x16 : Int) (s25 : ev_St) : Option ((Int) × ev_St) := if 210 ≤ x16 then (ev_b (ev_pI s25 621 68 0) fun s27 => jl_318_59 Q a0 x2 x3 x4 x5 K15 Q 0 s27) else (ev_if ((0 : Int) ≤ x16 ∧ x16 < (ev_aln 669 : Int)) (ev_b (ev_pI s25 669 (Int.toNat x16) 0) fun s120 => ev_ck (x16 + 1) fun x121 => K29 x121 s120))
def jl_318_29 (Q : Nat) (a0 : Int) (x2 : Int) (x3 : Int) (x4 : Int) (x5 : Int) (K15 : Int → Int → Int → Int → ev_St → Option ((Int) × ev_St)) : Nat → Int → ev_St → Option ((Int) × ev_St)
  | 0 => fun _ _ => none
  | q + 1 => jb_318_29 Q a0 x2 x3 x4 x5 K15 (jl_318_29 Q a0 x2 x3 x4 x5 K15 q)
theorem jbt_318_29 (d : Nat) (hd : 3 ≤ d + 1) (Q : Nat) (a0 : Int) (x2 : Int) (x3 : Int) (x4 : Int) (x5 : Int) (ha0 : ev_rng a0) (hx2 : ev_rng x2) (hx3 : ev_rng x3) (hx4 : ev_rng x4) (hx5 : ev_rng x5) (K15 : Int → Int → Int → Int → ev_St → Option ((Int) × ev_St)) (hK15 : ∀ (x2 : Int) (hx2 : ev_rng x2), ∀ (x3 : Int) (hx3 : ev_rng x3), ∀ (x4 : Int) (hx4 : ev_rng x4), ∀ (x5 : Int) (hx5 : ev_rng x5), ∀ (s13 : ev_St) (w6 : List (Nat × Value)), ev_lk w6 0 = some (.ref 621) → ev_lk w6 1 = some (.int (Int32.ofInt a0)) → ev_lk w6 2 = some (.int (Int32.ofInt x2)) → ev_lk w6 3 = some (.int (Int32.ofInt x3)) → ev_lk w6 4 = some (.int (Int32.ofInt x4)) → ev_lk w6 5 = some (.int (Int32.ofInt x5)) → ev_w none (ev_Mof 318) d 15 w6 [] s13 (K15 x2 x3 x4 x5 s13) ev_eI ev_rng) (K29 : Int → ev_St → Option ((Int) × ev_St)) (hK29 : ∀ (x16 : Int) (hx16 : ev_rng x16), ∀ (s25 : ev_St) (w17 : List (Nat × Value)), ev_lk w17 0 = some (.ref 621) → ev_lk w17 1 = some (.int (Int32.ofInt a0)) → ev_lk w17 2 = some (.int (Int32.ofInt x2)) → ev_lk w17 3 = some (.int (Int32.ofInt x3)) → ev_lk w17 4 = some (.int (Int32.ofInt x4)) → ev_lk w17 5 = some (.int (Int32.ofInt x5)) → ev_lk w17 6 = some (.int (Int32.ofInt x16)) → ev_w none (ev_Mof 318) d 29 w17 [] s25 (K29 x16 s25) ev_eI ev_rng) : ∀ (x16 : Int) (hx16 : ev_rng x16), ∀ (s25 : ev_St) (w17 : List (Nat × Value)), ev_lk w17 0 = some (.ref 621) → ev_lk w17 1 = some (.int (Int32.ofInt a0)) → ev_lk w17 2 = some (.int (Int32.ofInt x2)) → ev_lk w17 3 = some (.int (Int32.ofInt x3)) → ev_lk w17 4 = some (.int (Int32.ofInt x4)) → ev_lk w17 5 = some (.int (Int32.ofInt x5)) → ev_lk w17 6 = some (.int (Int32.ofInt x16)) → ev_w none (ev_Mof 318) d 29 w17 [] s25 (jb_318_29 Q a0 x2 x3 x4 x5 K15 K29 x16 s25) ev_eI ev_rng := by
  intro x16 hx16 s25 w17 e18 e19 e20 e21 e22 e23 e24
  unfold jb_318_29
  refine ev_r_iload (pc := 29) (k := 6) (v := Int32.ofInt x16) (by decide +kernel) (by exact e24) ?_
  refine ev_r_sipush (pc := 31) (k := 210) (by decide +kernel) (by decide +kernel) ?_
  refine ev_r_icmp (pc := 34) (q := .ge) (o := 17) (t := 51) (c := 210 ≤ x16) (by decide +kernel) (ev_k_ge hx16 (by decide)) (by decide +kernel) ?_ ?_
  · intro c26
    refine ev_r_aload_n (pc := 51) (k := 0) (v := .ref 621) trivial (by decide +kernel) (by exact e18) ?_
    refine ev_r_iconst (pc := 52) (k := 0) (by decide +kernel) ?_
    refine ev_r_putI (pc := 53) (y := 695) (ci := 13) (f := 68) (by decide) (by decide +kernel) (by decide +kernel) (by exact ev_ob_621) rfl rfl ?_
    intro s27
    refine ev_r_iconst (pc := 56) (k := 0) (by decide +kernel) ?_
    refine ev_r_istore (pc := 57) (k := 6) (by decide +kernel) (by decide +kernel) rfl ?_
    exact jlt_318_59 d hd Q a0 x2 x3 x4 x5 ha0 hx2 hx3 hx4 hx5 K15 hK15 Q 0 (by decide) s27 _ (by exact (ev_l1 e18 (by decide) (by decide))) (by exact (ev_l1 e19 (by decide) (by decide))) (by exact (ev_l1 e20 (by decide) (by decide))) (by exact (ev_l1 e21 (by decide) (by decide))) (by exact (ev_l1 e22 (by decide) (by decide))) (by exact (ev_lk_st1 e23 (by decide) rfl)) (by exact ev_lk_st1_self)
  · intro c26
    refine ev_r_aload_n (pc := 37) (k := 0) (v := .ref 621) trivial (by decide +kernel) (by exact e18) ?_
    refine ev_r_getC (pc := 38) (y := 153) (ci := 13) (f := 63) (fin := 1) (k' := 669) (by decide +kernel) (by decide +kernel) (by exact ev_ob_621) rfl rfl ?_
    refine ev_r_iload (pc := 41) (k := 6) (v := Int32.ofInt x16) (by decide +kernel) (by exact e24) ?_
    refine ev_r_iconst (pc := 43) (k := 0) (by decide +kernel) ?_
    refine ev_r_bast (pc := 44) (ty := .boolean) (Or.inr rfl) (ev_nar_bl (by decide : ev_bl 0)) (by decide) hx16 (by decide +kernel) (by exact ev_ab_669) ?_
    intro s120
    refine ev_r_iinc (pc := 45) (k := 6) (c := 1) (x := x16) (by decide +kernel) (by decide +kernel) (by exact e24) (fun _ => rfl) ?_
    intro x121 hx121
    refine ev_r_goto (pc := 48) (o := (-19)) (t := 29) (by decide +kernel) (by decide +kernel) ?_
    exact hK29 x121 hx121 s120 _ (by exact (ev_l1 e18 (by decide) (by decide))) (by exact (ev_l1 e19 (by decide) (by decide))) (by exact (ev_l1 e20 (by decide) (by decide))) (by exact (ev_l1 e21 (by decide) (by decide))) (by exact (ev_l1 e22 (by decide) (by decide))) (by exact (ev_lk_st1 e23 (by decide) rfl)) (by exact ev_lk_st1_self)
theorem jlt_318_29 (d : Nat) (hd : 3 ≤ d + 1) (Q : Nat) (a0 : Int) (x2 : Int) (x3 : Int) (x4 : Int) (x5 : Int) (ha0 : ev_rng a0) (hx2 : ev_rng x2) (hx3 : ev_rng x3) (hx4 : ev_rng x4) (hx5 : ev_rng x5) (K15 : Int → Int → Int → Int → ev_St → Option ((Int) × ev_St)) (hK15 : ∀ (x2 : Int) (hx2 : ev_rng x2), ∀ (x3 : Int) (hx3 : ev_rng x3), ∀ (x4 : Int) (hx4 : ev_rng x4), ∀ (x5 : Int) (hx5 : ev_rng x5), ∀ (s13 : ev_St) (w6 : List (Nat × Value)), ev_lk w6 0 = some (.ref 621) → ev_lk w6 1 = some (.int (Int32.ofInt a0)) → ev_lk w6 2 = some (.int (Int32.ofInt x2)) → ev_lk w6 3 = some (.int (Int32.ofInt x3)) → ev_lk w6 4 = some (.int (Int32.ofInt x4)) → ev_lk w6 5 = some (.int (Int32.ofInt x5)) → ev_w none (ev_Mof 318) d 15 w6 [] s13 (K15 x2 x3 x4 x5 s13) ev_eI ev_rng) : ∀ q : Nat, ∀ (x16 : Int) (hx16 : ev_rng x16), ∀ (s25 : ev_St) (w17 : List (Nat × Value)), ev_lk w17 0 = some (.ref 621) → ev_lk w17 1 = some (.int (Int32.ofInt a0)) → ev_lk w17 2 = some (.int (Int32.ofInt x2)) → ev_lk w17 3 = some (.int (Int32.ofInt x3)) → ev_lk w17 4 = some (.int (Int32.ofInt x4)) → ev_lk w17 5 = some (.int (Int32.ofInt x5)) → ev_lk w17 6 = some (.int (Int32.ofInt x16)) → ev_w none (ev_Mof 318) d 29 w17 [] s25 (jl_318_29 Q a0 x2 x3 x4 x5 K15 q x16 s25) ev_eI ev_rng := by
  intro q
  induction q with
  | zero =>
    intro x16 hx16 s25 w17 e18 e19 e20 e21 e22 e23 e24
    exact ev_w_none
  | succ q ih => exact jbt_318_29 d hd Q a0 x2 x3 x4 x5 ha0 hx2 hx3 hx4 hx5 K15 hK15 _ ih
def jb_318_15 (Q : Nat) (a0 : Int)  (K15 : Int → Int → Int → Int → ev_St → Option ((Int) × ev_St)) (x2 : Int) (x3 : Int) (x4 : Int) (x5 : Int) (s13 : ev_St) : Option ((Int) × ev_St) := ev_if ((0 : Int) ≤ a0 ∧ a0 < (ev_aln 721 : Int)) (ev_b (s13.1 721 (Int.toNat a0)) fun x14 => if x14 < x5 then (some (x3, s13)) else (jl_318_29 Q a0 x2 x3 x4 x5 K15 Q 0 s13))
def jl_318_15 (Q : Nat) (a0 : Int)  : Nat → Int → Int → Int → Int → ev_St → Option ((Int) × ev_St)
  | 0 => fun _ _ _ _ _ => none
  | q + 1 => jb_318_15 Q a0  (jl_318_15 Q a0  q)
theorem jbt_318_15 (d : Nat) (hd : 3 ≤ d + 1) (Q : Nat) (a0 : Int) (ha0 : ev_rng a0)   (K15 : Int → Int → Int → Int → ev_St → Option ((Int) × ev_St)) (hK15 : ∀ (x2 : Int) (hx2 : ev_rng x2), ∀ (x3 : Int) (hx3 : ev_rng x3), ∀ (x4 : Int) (hx4 : ev_rng x4), ∀ (x5 : Int) (hx5 : ev_rng x5), ∀ (s13 : ev_St) (w6 : List (Nat × Value)), ev_lk w6 0 = some (.ref 621) → ev_lk w6 1 = some (.int (Int32.ofInt a0)) → ev_lk w6 2 = some (.int (Int32.ofInt x2)) → ev_lk w6 3 = some (.int (Int32.ofInt x3)) → ev_lk w6 4 = some (.int (Int32.ofInt x4)) → ev_lk w6 5 = some (.int (Int32.ofInt x5)) → ev_w none (ev_Mof 318) d 15 w6 [] s13 (K15 x2 x3 x4 x5 s13) ev_eI ev_rng) : ∀ (x2 : Int) (hx2 : ev_rng x2), ∀ (x3 : Int) (hx3 : ev_rng x3), ∀ (x4 : Int) (hx4 : ev_rng x4), ∀ (x5 : Int) (hx5 : ev_rng x5), ∀ (s13 : ev_St) (w6 : List (Nat × Value)), ev_lk w6 0 = some (.ref 621) → ev_lk w6 1 = some (.int (Int32.ofInt a0)) → ev_lk w6 2 = some (.int (Int32.ofInt x2)) → ev_lk w6 3 = some (.int (Int32.ofInt x3)) → ev_lk w6 4 = some (.int (Int32.ofInt x4)) → ev_lk w6 5 = some (.int (Int32.ofInt x5)) → ev_w none (ev_Mof 318) d 15 w6 [] s13 (jb_318_15 Q a0  K15 x2 x3 x4 x5 s13) ev_eI ev_rng := by
  intro x2 hx2 x3 hx3 x4 hx4 x5 hx5 s13 w6 e7 e8 e9 e10 e11 e12
  unfold jb_318_15
  refine ev_r_iload (pc := 15) (k := 5) (v := Int32.ofInt x5) (by decide +kernel) (by exact e12) ?_
  refine ev_r_aload_n (pc := 17) (k := 0) (v := .ref 621) trivial (by decide +kernel) (by exact e7) ?_
  refine ev_r_getC (pc := 18) (y := 315) (ci := 13) (f := 143) (fin := 1) (k' := 721) (by decide +kernel) (by decide +kernel) (by exact ev_ob_621) rfl rfl ?_
  refine ev_r_iload_n (pc := 21) (k := 1) (v := Int32.ofInt a0) (by decide +kernel) (by exact e8) ?_
  refine ev_r_iald (pc := 22) ha0 (by decide +kernel) (by exact ev_ab_721) ?_
  intro x14 hx14
  refine ev_r_icmp (pc := 23) (q := .gt) (o := 266) (t := 289) (c := x14 < x5) (by decide +kernel) (ev_k_gt hx5 hx14) (by decide +kernel) ?_ ?_
  · intro c15
    refine ev_r_iload_n (pc := 289) (k := 3) (v := Int32.ofInt x3) (by decide +kernel) (by exact e10) ?_
    exact ev_r_ireturn (pc := 290) (x := x3) (v := Int32.ofInt x3) (ty := .int) hx3 (by decide +kernel) (by decide +kernel) rfl rfl
  · intro c15
    refine ev_r_iconst (pc := 26) (k := 0) (by decide +kernel) ?_
    refine ev_r_istore (pc := 27) (k := 6) (by decide +kernel) (by decide +kernel) rfl ?_
    exact jlt_318_29 d hd Q a0 x2 x3 x4 x5 ha0 hx2 hx3 hx4 hx5 K15 hK15 Q 0 (by decide) s13 _ (by exact (ev_l1 e7 (by decide) (by decide))) (by exact (ev_l1 e8 (by decide) (by decide))) (by exact (ev_l1 e9 (by decide) (by decide))) (by exact (ev_l1 e10 (by decide) (by decide))) (by exact (ev_l1 e11 (by decide) (by decide))) (by exact (ev_lk_st1 e12 (by decide) rfl)) (by exact ev_lk_st1_self)
theorem jlt_318_15 (d : Nat) (hd : 3 ≤ d + 1) (Q : Nat) (a0 : Int) (ha0 : ev_rng a0)   : ∀ q : Nat, ∀ (x2 : Int) (hx2 : ev_rng x2), ∀ (x3 : Int) (hx3 : ev_rng x3), ∀ (x4 : Int) (hx4 : ev_rng x4), ∀ (x5 : Int) (hx5 : ev_rng x5), ∀ (s13 : ev_St) (w6 : List (Nat × Value)), ev_lk w6 0 = some (.ref 621) → ev_lk w6 1 = some (.int (Int32.ofInt a0)) → ev_lk w6 2 = some (.int (Int32.ofInt x2)) → ev_lk w6 3 = some (.int (Int32.ofInt x3)) → ev_lk w6 4 = some (.int (Int32.ofInt x4)) → ev_lk w6 5 = some (.int (Int32.ofInt x5)) → ev_w none (ev_Mof 318) d 15 w6 [] s13 (jl_318_15 Q a0  q x2 x3 x4 x5 s13) ev_eI ev_rng := by
  intro q
  induction q with
  | zero =>
    intro x2 hx2 x3 hx3 x4 hx4 x5 hx5 s13 w6 e7 e8 e9 e10 e11 e12
    exact ev_w_none
  | succ q ih => exact jbt_318_15 d hd Q a0 ha0   _ ih
/-- MendBenchModel.threadsOf(I)I -/
def jm_318 (Q : Nat) (a0 : Int) (S : ev_St) : Option ((Int) × ev_St) := ev_if ((0 : Int) ≤ a0 ∧ a0 < (ev_aln 718 : Int)) (ev_b (S.1 718 (Int.toNat a0)) fun x1 => jl_318_15 Q a0  Q x1 ((-1)) 0 0 S)
theorem jt_318 (d : Nat) (hd : 3 ≤ d) (Q : Nat) (a0 : Int) (ha0 : ev_rng a0) (S : ev_St) (x : Int) (S' : ev_St) (hJ : jm_318 Q a0 S = some (x, S')) : ev_Ref d 318 [.ref 621, .int (Int32.ofInt a0)] S (ev_eI x) S' (ev_rng x) := by
  obtain ⟨d, rfl⟩ : ∃ e, d = e + 1 := ⟨d - 1, by omega⟩
  refine ev_ref_of (P := ev_rng) (lv := [(0, .ref 621), (1, .int (Int32.ofInt a0))]) (by decide +kernel) (by (try simp only [ev_sum, ev_nv_cat]); first | done | rfl) (by (try simp only [lv_args, ev_nv_cat]); first | done | rfl) ?_ x S' hJ
  unfold jm_318
  refine ev_r_aload_n (pc := 0) (k := 0) (v := .ref 621) trivial (by decide +kernel) (by rfl) ?_
  refine ev_r_getC (pc := 1) (y := 306) (ci := 13) (f := 140) (fin := 1) (k' := 718) (by decide +kernel) (by decide +kernel) (by exact ev_ob_621) rfl rfl ?_
  refine ev_r_iload_n (pc := 4) (k := 1) (v := Int32.ofInt a0) (by decide +kernel) (by rfl) ?_
  refine ev_r_iald (pc := 5) ha0 (by decide +kernel) (by exact ev_ab_718) ?_
  intro x1 hx1
  refine ev_r_istore_n (pc := 6) (k := 2) (by decide +kernel) (by decide +kernel) rfl ?_
  refine ev_r_iconst (pc := 7) (k := -1) (by decide +kernel) ?_
  refine ev_r_istore_n (pc := 8) (k := 3) (by decide +kernel) (by decide +kernel) rfl ?_
  refine ev_r_iconst (pc := 9) (k := 0) (by decide +kernel) ?_
  refine ev_r_istore (pc := 10) (k := 4) (by decide +kernel) (by decide +kernel) rfl ?_
  refine ev_r_iconst (pc := 12) (k := 0) (by decide +kernel) ?_
  refine ev_r_istore (pc := 13) (k := 5) (by decide +kernel) (by decide +kernel) rfl ?_
  exact jlt_318_15 d hd Q a0 ha0   Q x1 hx1 ((-1)) (by decide) 0 (by decide) 0 (by decide) S _ (by exact (ev_l1 (ev_l1 (ev_l1 (ev_l1 (by rfl) (by decide) (by decide)) (by decide) (by decide)) (by decide) (by decide)) (by decide) (by decide))) (by exact (ev_l1 (ev_l1 (ev_l1 (ev_lk_st1 (by rfl) (by decide) rfl) (by decide) (by decide)) (by decide) (by decide)) (by decide) (by decide))) (by exact (ev_l1 (ev_l1 (ev_lk_st1 ev_lk_st1_self (by decide) rfl) (by decide) (by decide)) (by decide) (by decide))) (by exact (ev_l1 (ev_lk_st1 ev_lk_st1_self (by decide) rfl) (by decide) (by decide))) (by exact (ev_lk_st1 ev_lk_st1_self (by decide) rfl)) (by exact ev_lk_st1_self)
