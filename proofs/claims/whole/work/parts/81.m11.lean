/-! METHODS as functions, laid by decomp.py -/
theorem ev_ab_687 : ev_isAb 687 1 .int = true := (by decide +kernel)
theorem ev_ab_688 : ev_isAb 688 1 .int = true := (by decide +kernel)
theorem ev_ab_689 : ev_isAb 689 1 .int = true := (by decide +kernel)
theorem ev_ab_690 : ev_isAb 690 1 .int = true := (by decide +kernel)
theorem ev_ab_691 : ev_isAb 691 1 .int = true := (by decide +kernel)
theorem ev_ab_692 : ev_isAb 692 1 .int = true := (by decide +kernel)
theorem ev_ab_693 : ev_isAb 693 1 .int = true := (by decide +kernel)
theorem ev_ab_694 : ev_isAb 694 1 .int = true := (by decide +kernel)
theorem ev_ab_695 : ev_isAb 695 1 .int = true := (by decide +kernel)
theorem ev_ab_696 : ev_isAb 696 1 .int = true := (by decide +kernel)
theorem ev_ab_699 : ev_isAb 699 1 .int = true := (by decide +kernel)
theorem ev_ab_697 : ev_isAb 697 1 .int = true := (by decide +kernel)
theorem ev_ab_698 : ev_isAb 698 1 .int = true := (by decide +kernel)
/-- MendBenchModel.chooses(III)V -/
def jm_292 (Q : Nat) (a0 : Int) (a1 : Int) (a2 : Int) (S : ev_St) : Option ((Unit) × ev_St) := ev_b (S.1 621 95) fun x1 => ev_if ((0 : Int) ≤ x1 ∧ x1 < (ev_aln 687 : Int)) (ev_b (ev_pI S 687 (Int.toNat x1) a0) fun s2 => ev_b (s2.1 621 95) fun x3 => ev_if ((0 : Int) ≤ x3 ∧ x3 < (ev_aln 688 : Int)) (ev_b (ev_pI s2 688 (Int.toNat x3) a1) fun s4 => ev_b (s4.1 621 95) fun x5 => ev_if ((0 : Int) ≤ x5 ∧ x5 < (ev_aln 689 : Int)) (ev_b (ev_pI s4 689 (Int.toNat x5) a2) fun s6 => ev_b (s6.1 621 95) fun x7 => ev_b (s6.1 621 81) fun x8 => ev_if ((0 : Int) ≤ x7 ∧ x7 < (ev_aln 690 : Int)) (ev_b (ev_pI s6 690 (Int.toNat x7) x8) fun s9 => ev_b (s9.1 621 95) fun x10 => ev_b (s9.1 621 82) fun x11 => ev_if ((0 : Int) ≤ x10 ∧ x10 < (ev_aln 691 : Int)) (ev_b (ev_pI s9 691 (Int.toNat x10) x11) fun s12 => ev_b (s12.1 621 95) fun x13 => ev_b (s12.1 621 83) fun x14 => ev_if ((0 : Int) ≤ x13 ∧ x13 < (ev_aln 692 : Int)) (ev_b (ev_pI s12 692 (Int.toNat x13) x14) fun s15 => ev_b (s15.1 621 95) fun x16 => ev_b (s15.1 621 84) fun x17 => ev_if ((0 : Int) ≤ x16 ∧ x16 < (ev_aln 693 : Int)) (ev_b (ev_pI s15 693 (Int.toNat x16) x17) fun s18 => ev_b (s18.1 621 95) fun x19 => ev_b (s18.1 621 88) fun x20 => ev_if ((0 : Int) ≤ x19 ∧ x19 < (ev_aln 694 : Int)) (ev_b (ev_pI s18 694 (Int.toNat x19) x20) fun s21 => ev_b (s21.1 621 95) fun x22 => ev_b (s21.1 621 105) fun x23 => ev_if ((0 : Int) ≤ x22 ∧ x22 < (ev_aln 695 : Int)) (ev_b (ev_pI s21 695 (Int.toNat x22) x23) fun s24 => ev_b (s24.1 621 95) fun x25 => ev_ck (x25 + 1) fun x26 => ev_b (ev_pI s24 621 95 x26) fun s27 => some ((), s27))))))))))
theorem jt_292 (d : Nat) (hd : 1 ≤ d) (Q : Nat) (a0 : Int) (a1 : Int) (a2 : Int) (ha0 : ev_rng a0) (ha1 : ev_rng a1) (ha2 : ev_rng a2) (S : ev_St) (x : Unit) (S' : ev_St) (hJ : jm_292 Q a0 a1 a2 S = some (x, S')) : ev_Ref d 292 [.ref 621, .int (Int32.ofInt a0), .int (Int32.ofInt a1), .int (Int32.ofInt a2)] S (ev_eU x) S' (ev_PU x) := by
  obtain ⟨d, rfl⟩ : ∃ e, d = e + 1 := ⟨d - 1, by omega⟩
  refine ev_ref_of (P := ev_PU) (lv := [(0, .ref 621), (1, .int (Int32.ofInt a0)), (2, .int (Int32.ofInt a1)), (3, .int (Int32.ofInt a2))]) (by decide +kernel) (by (try simp only [ev_sum, ev_nv_cat]); first | done | rfl) (by (try simp only [lv_args, ev_nv_cat]); first | done | rfl) ?_ x S' hJ
  unfold jm_292
  refine ev_r_aload_n (pc := 0) (k := 0) (v := .ref 621) trivial (by decide +kernel) (by rfl) ?_
  refine ev_r_getC (pc := 1) (y := 210) (ci := 13) (f := 96) (fin := 1) (k' := 687) (by decide +kernel) (by decide +kernel) (by exact ev_ob_621) rfl rfl ?_
  refine ev_r_aload_n (pc := 4) (k := 0) (v := .ref 621) trivial (by decide +kernel) (by rfl) ?_
  refine ev_r_getI (pc := 5) (y := 579) (ci := 13) (f := 95) (fin := 0) (by decide +kernel) (by decide +kernel) (by exact ev_ob_621) rfl ?_
  intro x1 hx1
  refine ev_r_iload_n (pc := 8) (k := 1) (v := Int32.ofInt a0) (by decide +kernel) (by rfl) ?_
  refine ev_r_iast (pc := 9) ha0 hx1 (by decide +kernel) (by exact ev_ab_687) ?_
  intro s2
  refine ev_r_aload_n (pc := 10) (k := 0) (v := .ref 621) trivial (by decide +kernel) (by rfl) ?_
  refine ev_r_getC (pc := 11) (y := 213) (ci := 13) (f := 97) (fin := 1) (k' := 688) (by decide +kernel) (by decide +kernel) (by exact ev_ob_621) rfl rfl ?_
  refine ev_r_aload_n (pc := 14) (k := 0) (v := .ref 621) trivial (by decide +kernel) (by rfl) ?_
  refine ev_r_getI (pc := 15) (y := 579) (ci := 13) (f := 95) (fin := 0) (by decide +kernel) (by decide +kernel) (by exact ev_ob_621) rfl ?_
  intro x3 hx3
  refine ev_r_iload_n (pc := 18) (k := 2) (v := Int32.ofInt a1) (by decide +kernel) (by rfl) ?_
  refine ev_r_iast (pc := 19) ha1 hx3 (by decide +kernel) (by exact ev_ab_688) ?_
  intro s4
  refine ev_r_aload_n (pc := 20) (k := 0) (v := .ref 621) trivial (by decide +kernel) (by rfl) ?_
  refine ev_r_getC (pc := 21) (y := 216) (ci := 13) (f := 98) (fin := 1) (k' := 689) (by decide +kernel) (by decide +kernel) (by exact ev_ob_621) rfl rfl ?_
  refine ev_r_aload_n (pc := 24) (k := 0) (v := .ref 621) trivial (by decide +kernel) (by rfl) ?_
  refine ev_r_getI (pc := 25) (y := 579) (ci := 13) (f := 95) (fin := 0) (by decide +kernel) (by decide +kernel) (by exact ev_ob_621) rfl ?_
  intro x5 hx5
  refine ev_r_iload_n (pc := 28) (k := 3) (v := Int32.ofInt a2) (by decide +kernel) (by rfl) ?_
  refine ev_r_iast (pc := 29) ha2 hx5 (by decide +kernel) (by exact ev_ab_689) ?_
  intro s6
  refine ev_r_aload_n (pc := 30) (k := 0) (v := .ref 621) trivial (by decide +kernel) (by rfl) ?_
  refine ev_r_getC (pc := 31) (y := 219) (ci := 13) (f := 99) (fin := 1) (k' := 690) (by decide +kernel) (by decide +kernel) (by exact ev_ob_621) rfl rfl ?_
  refine ev_r_aload_n (pc := 34) (k := 0) (v := .ref 621) trivial (by decide +kernel) (by rfl) ?_
  refine ev_r_getI (pc := 35) (y := 579) (ci := 13) (f := 95) (fin := 0) (by decide +kernel) (by decide +kernel) (by exact ev_ob_621) rfl ?_
  intro x7 hx7
  refine ev_r_aload_n (pc := 38) (k := 0) (v := .ref 621) trivial (by decide +kernel) (by rfl) ?_
  refine ev_r_getI (pc := 39) (y := 582) (ci := 13) (f := 81) (fin := 0) (by decide +kernel) (by decide +kernel) (by exact ev_ob_621) rfl ?_
  intro x8 hx8
  refine ev_r_iast (pc := 42) hx8 hx7 (by decide +kernel) (by exact ev_ab_690) ?_
  intro s9
  refine ev_r_aload_n (pc := 43) (k := 0) (v := .ref 621) trivial (by decide +kernel) (by rfl) ?_
  refine ev_r_getC (pc := 44) (y := 222) (ci := 13) (f := 100) (fin := 1) (k' := 691) (by decide +kernel) (by decide +kernel) (by exact ev_ob_621) rfl rfl ?_
  refine ev_r_aload_n (pc := 47) (k := 0) (v := .ref 621) trivial (by decide +kernel) (by rfl) ?_
  refine ev_r_getI (pc := 48) (y := 579) (ci := 13) (f := 95) (fin := 0) (by decide +kernel) (by decide +kernel) (by exact ev_ob_621) rfl ?_
  intro x10 hx10
  refine ev_r_aload_n (pc := 51) (k := 0) (v := .ref 621) trivial (by decide +kernel) (by rfl) ?_
  refine ev_r_getI (pc := 52) (y := 585) (ci := 13) (f := 82) (fin := 0) (by decide +kernel) (by decide +kernel) (by exact ev_ob_621) rfl ?_
  intro x11 hx11
  refine ev_r_iast (pc := 55) hx11 hx10 (by decide +kernel) (by exact ev_ab_691) ?_
  intro s12
  refine ev_r_aload_n (pc := 56) (k := 0) (v := .ref 621) trivial (by decide +kernel) (by rfl) ?_
  refine ev_r_getC (pc := 57) (y := 225) (ci := 13) (f := 101) (fin := 1) (k' := 692) (by decide +kernel) (by decide +kernel) (by exact ev_ob_621) rfl rfl ?_
  refine ev_r_aload_n (pc := 60) (k := 0) (v := .ref 621) trivial (by decide +kernel) (by rfl) ?_
  refine ev_r_getI (pc := 61) (y := 579) (ci := 13) (f := 95) (fin := 0) (by decide +kernel) (by decide +kernel) (by exact ev_ob_621) rfl ?_
  intro x13 hx13
  refine ev_r_aload_n (pc := 64) (k := 0) (v := .ref 621) trivial (by decide +kernel) (by rfl) ?_
  refine ev_r_getI (pc := 65) (y := 588) (ci := 13) (f := 83) (fin := 0) (by decide +kernel) (by decide +kernel) (by exact ev_ob_621) rfl ?_
  intro x14 hx14
  refine ev_r_iast (pc := 68) hx14 hx13 (by decide +kernel) (by exact ev_ab_692) ?_
  intro s15
  refine ev_r_aload_n (pc := 69) (k := 0) (v := .ref 621) trivial (by decide +kernel) (by rfl) ?_
  refine ev_r_getC (pc := 70) (y := 228) (ci := 13) (f := 102) (fin := 1) (k' := 693) (by decide +kernel) (by decide +kernel) (by exact ev_ob_621) rfl rfl ?_
  refine ev_r_aload_n (pc := 73) (k := 0) (v := .ref 621) trivial (by decide +kernel) (by rfl) ?_
  refine ev_r_getI (pc := 74) (y := 579) (ci := 13) (f := 95) (fin := 0) (by decide +kernel) (by decide +kernel) (by exact ev_ob_621) rfl ?_
  intro x16 hx16
  refine ev_r_aload_n (pc := 77) (k := 0) (v := .ref 621) trivial (by decide +kernel) (by rfl) ?_
  refine ev_r_getI (pc := 78) (y := 591) (ci := 13) (f := 84) (fin := 0) (by decide +kernel) (by decide +kernel) (by exact ev_ob_621) rfl ?_
  intro x17 hx17
  refine ev_r_iast (pc := 81) hx17 hx16 (by decide +kernel) (by exact ev_ab_693) ?_
  intro s18
  refine ev_r_aload_n (pc := 82) (k := 0) (v := .ref 621) trivial (by decide +kernel) (by rfl) ?_
  refine ev_r_getC (pc := 83) (y := 231) (ci := 13) (f := 103) (fin := 1) (k' := 694) (by decide +kernel) (by decide +kernel) (by exact ev_ob_621) rfl rfl ?_
  refine ev_r_aload_n (pc := 86) (k := 0) (v := .ref 621) trivial (by decide +kernel) (by rfl) ?_
  refine ev_r_getI (pc := 87) (y := 579) (ci := 13) (f := 95) (fin := 0) (by decide +kernel) (by decide +kernel) (by exact ev_ob_621) rfl ?_
  intro x19 hx19
  refine ev_r_aload_n (pc := 90) (k := 0) (v := .ref 621) trivial (by decide +kernel) (by rfl) ?_
  refine ev_r_getI (pc := 91) (y := 576) (ci := 13) (f := 88) (fin := 0) (by decide +kernel) (by decide +kernel) (by exact ev_ob_621) rfl ?_
  intro x20 hx20
  refine ev_r_iast (pc := 94) hx20 hx19 (by decide +kernel) (by exact ev_ab_694) ?_
  intro s21
  refine ev_r_aload_n (pc := 95) (k := 0) (v := .ref 621) trivial (by decide +kernel) (by rfl) ?_
  refine ev_r_getC (pc := 96) (y := 234) (ci := 13) (f := 104) (fin := 1) (k' := 695) (by decide +kernel) (by decide +kernel) (by exact ev_ob_621) rfl rfl ?_
  refine ev_r_aload_n (pc := 99) (k := 0) (v := .ref 621) trivial (by decide +kernel) (by rfl) ?_
  refine ev_r_getI (pc := 100) (y := 579) (ci := 13) (f := 95) (fin := 0) (by decide +kernel) (by decide +kernel) (by exact ev_ob_621) rfl ?_
  intro x22 hx22
  refine ev_r_aload_n (pc := 103) (k := 0) (v := .ref 621) trivial (by decide +kernel) (by rfl) ?_
  refine ev_r_getI (pc := 104) (y := 594) (ci := 13) (f := 105) (fin := 0) (by decide +kernel) (by decide +kernel) (by exact ev_ob_621) rfl ?_
  intro x23 hx23
  refine ev_r_iast (pc := 107) hx23 hx22 (by decide +kernel) (by exact ev_ab_695) ?_
  intro s24
  refine ev_r_aload_n (pc := 108) (k := 0) (v := .ref 621) trivial (by decide +kernel) (by rfl) ?_
  refine ev_r_dup (pc := 109) rfl (by decide +kernel) ?_
  refine ev_r_getI (pc := 110) (y := 579) (ci := 13) (f := 95) (fin := 0) (by decide +kernel) (by decide +kernel) (by exact ev_ob_621) rfl ?_
  intro x25 hx25
  refine ev_r_iconst (pc := 113) (k := 1) (by decide +kernel) ?_
  refine ev_r_iadd (pc := 114) (by decide +kernel) ?_
  intro x26 hx26
  refine ev_r_putI (pc := 115) (y := 579) (ci := 13) (f := 95) hx26 (by decide +kernel) (by decide +kernel) (by exact ev_ob_621) rfl rfl ?_
  intro s27
  exact ev_r_return (pc := 118) (x := ()) trivial (by decide +kernel) (by decide +kernel) rfl
/-- MendBenchModel.returns(I)V -/
def jm_293 (Q : Nat) (a0 : Int) (S : ev_St) : Option ((Unit) × ev_St) := ev_b (ev_pI S 621 95 a0) fun s1 => ev_if ((0 : Int) ≤ a0 ∧ a0 < (ev_aln 690 : Int)) (ev_b (s1.1 690 (Int.toNat a0)) fun x2 => ev_b (ev_pI s1 621 81 x2) fun s3 => ev_if ((0 : Int) ≤ a0 ∧ a0 < (ev_aln 691 : Int)) (ev_b (s3.1 691 (Int.toNat a0)) fun x4 => ev_b (ev_pI s3 621 82 x4) fun s5 => ev_if ((0 : Int) ≤ a0 ∧ a0 < (ev_aln 692 : Int)) (ev_b (s5.1 692 (Int.toNat a0)) fun x6 => ev_b (ev_pI s5 621 83 x6) fun s7 => ev_if ((0 : Int) ≤ a0 ∧ a0 < (ev_aln 693 : Int)) (ev_b (s7.1 693 (Int.toNat a0)) fun x8 => ev_b (ev_pI s7 621 84 x8) fun s9 => ev_if ((0 : Int) ≤ a0 ∧ a0 < (ev_aln 694 : Int)) (ev_b (s9.1 694 (Int.toNat a0)) fun x10 => ev_b (ev_pI s9 621 88 x10) fun s11 => ev_if ((0 : Int) ≤ a0 ∧ a0 < (ev_aln 695 : Int)) (ev_b (s11.1 695 (Int.toNat a0)) fun x12 => ev_b (ev_pI s11 621 105 x12) fun s13 => ev_if ((0 : Int) ≤ a0 ∧ a0 < (ev_aln 688 : Int)) (ev_b (s13.1 688 (Int.toNat a0)) fun x14 => ev_b (ev_pI s13 621 80 x14) fun s15 => some ((), s15))))))))
theorem jt_293 (d : Nat) (hd : 1 ≤ d) (Q : Nat) (a0 : Int) (ha0 : ev_rng a0) (S : ev_St) (x : Unit) (S' : ev_St) (hJ : jm_293 Q a0 S = some (x, S')) : ev_Ref d 293 [.ref 621, .int (Int32.ofInt a0)] S (ev_eU x) S' (ev_PU x) := by
  obtain ⟨d, rfl⟩ : ∃ e, d = e + 1 := ⟨d - 1, by omega⟩
  refine ev_ref_of (P := ev_PU) (lv := [(0, .ref 621), (1, .int (Int32.ofInt a0))]) (by decide +kernel) (by (try simp only [ev_sum, ev_nv_cat]); first | done | rfl) (by (try simp only [lv_args, ev_nv_cat]); first | done | rfl) ?_ x S' hJ
  unfold jm_293
  refine ev_r_aload_n (pc := 0) (k := 0) (v := .ref 621) trivial (by decide +kernel) (by rfl) ?_
  refine ev_r_iload_n (pc := 1) (k := 1) (v := Int32.ofInt a0) (by decide +kernel) (by rfl) ?_
  refine ev_r_putI (pc := 2) (y := 579) (ci := 13) (f := 95) ha0 (by decide +kernel) (by decide +kernel) (by exact ev_ob_621) rfl rfl ?_
  intro s1
  refine ev_r_aload_n (pc := 5) (k := 0) (v := .ref 621) trivial (by decide +kernel) (by rfl) ?_
  refine ev_r_aload_n (pc := 6) (k := 0) (v := .ref 621) trivial (by decide +kernel) (by rfl) ?_
  refine ev_r_getC (pc := 7) (y := 219) (ci := 13) (f := 99) (fin := 1) (k' := 690) (by decide +kernel) (by decide +kernel) (by exact ev_ob_621) rfl rfl ?_
  refine ev_r_iload_n (pc := 10) (k := 1) (v := Int32.ofInt a0) (by decide +kernel) (by rfl) ?_
  refine ev_r_iald (pc := 11) ha0 (by decide +kernel) (by exact ev_ab_690) ?_
  intro x2 hx2
  refine ev_r_putI (pc := 12) (y := 582) (ci := 13) (f := 81) hx2 (by decide +kernel) (by decide +kernel) (by exact ev_ob_621) rfl rfl ?_
  intro s3
  refine ev_r_aload_n (pc := 15) (k := 0) (v := .ref 621) trivial (by decide +kernel) (by rfl) ?_
  refine ev_r_aload_n (pc := 16) (k := 0) (v := .ref 621) trivial (by decide +kernel) (by rfl) ?_
  refine ev_r_getC (pc := 17) (y := 222) (ci := 13) (f := 100) (fin := 1) (k' := 691) (by decide +kernel) (by decide +kernel) (by exact ev_ob_621) rfl rfl ?_
  refine ev_r_iload_n (pc := 20) (k := 1) (v := Int32.ofInt a0) (by decide +kernel) (by rfl) ?_
  refine ev_r_iald (pc := 21) ha0 (by decide +kernel) (by exact ev_ab_691) ?_
  intro x4 hx4
  refine ev_r_putI (pc := 22) (y := 585) (ci := 13) (f := 82) hx4 (by decide +kernel) (by decide +kernel) (by exact ev_ob_621) rfl rfl ?_
  intro s5
  refine ev_r_aload_n (pc := 25) (k := 0) (v := .ref 621) trivial (by decide +kernel) (by rfl) ?_
  refine ev_r_aload_n (pc := 26) (k := 0) (v := .ref 621) trivial (by decide +kernel) (by rfl) ?_
  refine ev_r_getC (pc := 27) (y := 225) (ci := 13) (f := 101) (fin := 1) (k' := 692) (by decide +kernel) (by decide +kernel) (by exact ev_ob_621) rfl rfl ?_
  refine ev_r_iload_n (pc := 30) (k := 1) (v := Int32.ofInt a0) (by decide +kernel) (by rfl) ?_
  refine ev_r_iald (pc := 31) ha0 (by decide +kernel) (by exact ev_ab_692) ?_
  intro x6 hx6
  refine ev_r_putI (pc := 32) (y := 588) (ci := 13) (f := 83) hx6 (by decide +kernel) (by decide +kernel) (by exact ev_ob_621) rfl rfl ?_
  intro s7
  refine ev_r_aload_n (pc := 35) (k := 0) (v := .ref 621) trivial (by decide +kernel) (by rfl) ?_
  refine ev_r_aload_n (pc := 36) (k := 0) (v := .ref 621) trivial (by decide +kernel) (by rfl) ?_
  refine ev_r_getC (pc := 37) (y := 228) (ci := 13) (f := 102) (fin := 1) (k' := 693) (by decide +kernel) (by decide +kernel) (by exact ev_ob_621) rfl rfl ?_
  refine ev_r_iload_n (pc := 40) (k := 1) (v := Int32.ofInt a0) (by decide +kernel) (by rfl) ?_
  refine ev_r_iald (pc := 41) ha0 (by decide +kernel) (by exact ev_ab_693) ?_
  intro x8 hx8
  refine ev_r_putI (pc := 42) (y := 591) (ci := 13) (f := 84) hx8 (by decide +kernel) (by decide +kernel) (by exact ev_ob_621) rfl rfl ?_
  intro s9
  refine ev_r_aload_n (pc := 45) (k := 0) (v := .ref 621) trivial (by decide +kernel) (by rfl) ?_
  refine ev_r_aload_n (pc := 46) (k := 0) (v := .ref 621) trivial (by decide +kernel) (by rfl) ?_
  refine ev_r_getC (pc := 47) (y := 231) (ci := 13) (f := 103) (fin := 1) (k' := 694) (by decide +kernel) (by decide +kernel) (by exact ev_ob_621) rfl rfl ?_
  refine ev_r_iload_n (pc := 50) (k := 1) (v := Int32.ofInt a0) (by decide +kernel) (by rfl) ?_
  refine ev_r_iald (pc := 51) ha0 (by decide +kernel) (by exact ev_ab_694) ?_
  intro x10 hx10
  refine ev_r_putI (pc := 52) (y := 576) (ci := 13) (f := 88) hx10 (by decide +kernel) (by decide +kernel) (by exact ev_ob_621) rfl rfl ?_
  intro s11
  refine ev_r_aload_n (pc := 55) (k := 0) (v := .ref 621) trivial (by decide +kernel) (by rfl) ?_
  refine ev_r_aload_n (pc := 56) (k := 0) (v := .ref 621) trivial (by decide +kernel) (by rfl) ?_
  refine ev_r_getC (pc := 57) (y := 234) (ci := 13) (f := 104) (fin := 1) (k' := 695) (by decide +kernel) (by decide +kernel) (by exact ev_ob_621) rfl rfl ?_
  refine ev_r_iload_n (pc := 60) (k := 1) (v := Int32.ofInt a0) (by decide +kernel) (by rfl) ?_
  refine ev_r_iald (pc := 61) ha0 (by decide +kernel) (by exact ev_ab_695) ?_
  intro x12 hx12
  refine ev_r_putI (pc := 62) (y := 594) (ci := 13) (f := 105) hx12 (by decide +kernel) (by decide +kernel) (by exact ev_ob_621) rfl rfl ?_
  intro s13
  refine ev_r_aload_n (pc := 65) (k := 0) (v := .ref 621) trivial (by decide +kernel) (by rfl) ?_
  refine ev_r_aload_n (pc := 66) (k := 0) (v := .ref 621) trivial (by decide +kernel) (by rfl) ?_
  refine ev_r_getC (pc := 67) (y := 213) (ci := 13) (f := 97) (fin := 1) (k' := 688) (by decide +kernel) (by decide +kernel) (by exact ev_ob_621) rfl rfl ?_
  refine ev_r_iload_n (pc := 70) (k := 1) (v := Int32.ofInt a0) (by decide +kernel) (by rfl) ?_
  refine ev_r_iald (pc := 71) ha0 (by decide +kernel) (by exact ev_ab_688) ?_
  intro x14 hx14
  refine ev_r_putI (pc := 72) (y := 597) (ci := 13) (f := 80) hx14 (by decide +kernel) (by decide +kernel) (by exact ev_ob_621) rfl rfl ?_
  intro s15
  exact ev_r_return (pc := 75) (x := ()) trivial (by decide +kernel) (by decide +kernel) rfl
def jb_294_5 (Q : Nat) (a0 : Int)  (K5 : Int → ev_St → Option ((Int) × ev_St)) (x2 : Int) (s7 : ev_St) : Option ((Int) × ev_St) := if x2 = (-1) then (some (x2, s7)) else (ev_if ((0 : Int) ≤ x2 ∧ x2 < (ev_aln 696 : Int)) (ev_b (s7.1 696 (Int.toNat x2)) fun x9 => if x9 = a0 then (some (x2, s7)) else (ev_if ((0 : Int) ≤ x2 ∧ x2 < (ev_aln 699 : Int)) (ev_b (s7.1 699 (Int.toNat x2)) fun x11 => K5 x11 s7))))
def jl_294_5 (Q : Nat) (a0 : Int)  : Nat → Int → ev_St → Option ((Int) × ev_St)
  | 0 => fun _ _ => none
  | q + 1 => jb_294_5 Q a0  (jl_294_5 Q a0  q)
theorem jbt_294_5 (d : Nat) (hd : 1 ≤ d + 1) (Q : Nat) (a0 : Int) (ha0 : ev_rng a0)   (K5 : Int → ev_St → Option ((Int) × ev_St)) (hK5 : ∀ (x2 : Int) (hx2 : ev_rng x2), ∀ (s7 : ev_St) (w3 : List (Nat × Value)), ev_lk w3 0 = some (.ref 621) → ev_lk w3 1 = some (.int (Int32.ofInt a0)) → ev_lk w3 2 = some (.int (Int32.ofInt x2)) → ev_w none (ev_Mof 294) d 5 w3 [] s7 (K5 x2 s7) ev_eI ev_rng) : ∀ (x2 : Int) (hx2 : ev_rng x2), ∀ (s7 : ev_St) (w3 : List (Nat × Value)), ev_lk w3 0 = some (.ref 621) → ev_lk w3 1 = some (.int (Int32.ofInt a0)) → ev_lk w3 2 = some (.int (Int32.ofInt x2)) → ev_w none (ev_Mof 294) d 5 w3 [] s7 (jb_294_5 Q a0  K5 x2 s7) ev_eI ev_rng := by
  intro x2 hx2 s7 w3 e4 e5 e6
  unfold jb_294_5
  refine ev_r_iload_n (pc := 5) (k := 2) (v := Int32.ofInt x2) (by decide +kernel) (by exact e6) ?_
  refine ev_r_iconst (pc := 6) (k := -1) (by decide +kernel) ?_
  refine ev_r_icmp (pc := 7) (q := .eq) (o := 23) (t := 30) (c := x2 = (-1)) (by decide +kernel) (ev_k_eq hx2 (by decide)) (by decide +kernel) ?_ ?_
  · intro c8
    refine ev_r_iload_n (pc := 30) (k := 2) (v := Int32.ofInt x2) (by decide +kernel) (by exact e6) ?_
    exact ev_r_ireturn (pc := 31) (x := x2) (v := Int32.ofInt x2) (ty := .int) hx2 (by decide +kernel) (by decide +kernel) rfl rfl
  · intro c8
    refine ev_r_aload_n (pc := 10) (k := 0) (v := .ref 621) trivial (by decide +kernel) (by exact e4) ?_
    refine ev_r_getC (pc := 11) (y := 237) (ci := 13) (f := 106) (fin := 1) (k' := 696) (by decide +kernel) (by decide +kernel) (by exact ev_ob_621) rfl rfl ?_
    refine ev_r_iload_n (pc := 14) (k := 2) (v := Int32.ofInt x2) (by decide +kernel) (by exact e6) ?_
    refine ev_r_iald (pc := 15) hx2 (by decide +kernel) (by exact ev_ab_696) ?_
    intro x9 hx9
    refine ev_r_iload_n (pc := 16) (k := 1) (v := Int32.ofInt a0) (by decide +kernel) (by exact e5) ?_
    refine ev_r_icmp (pc := 17) (q := .eq) (o := 13) (t := 30) (c := x9 = a0) (by decide +kernel) (ev_k_eq hx9 ha0) (by decide +kernel) ?_ ?_
    · intro c10
      refine ev_r_iload_n (pc := 30) (k := 2) (v := Int32.ofInt x2) (by decide +kernel) (by exact e6) ?_
      exact ev_r_ireturn (pc := 31) (x := x2) (v := Int32.ofInt x2) (ty := .int) hx2 (by decide +kernel) (by decide +kernel) rfl rfl
    · intro c10
      refine ev_r_aload_n (pc := 20) (k := 0) (v := .ref 621) trivial (by decide +kernel) (by exact e4) ?_
      refine ev_r_getC (pc := 21) (y := 246) (ci := 13) (f := 109) (fin := 1) (k' := 699) (by decide +kernel) (by decide +kernel) (by exact ev_ob_621) rfl rfl ?_
      refine ev_r_iload_n (pc := 24) (k := 2) (v := Int32.ofInt x2) (by decide +kernel) (by exact e6) ?_
      refine ev_r_iald (pc := 25) hx2 (by decide +kernel) (by exact ev_ab_699) ?_
      intro x11 hx11
      refine ev_r_istore_n (pc := 26) (k := 2) (by decide +kernel) (by decide +kernel) rfl ?_
      refine ev_r_goto (pc := 27) (o := (-22)) (t := 5) (by decide +kernel) (by decide +kernel) ?_
      exact hK5 x11 hx11 s7 _ (by exact (ev_l1 e4 (by decide) (by decide))) (by exact (ev_lk_st1 e5 (by decide) rfl)) (by exact ev_lk_st1_self)
theorem jlt_294_5 (d : Nat) (hd : 1 ≤ d + 1) (Q : Nat) (a0 : Int) (ha0 : ev_rng a0)   : ∀ q : Nat, ∀ (x2 : Int) (hx2 : ev_rng x2), ∀ (s7 : ev_St) (w3 : List (Nat × Value)), ev_lk w3 0 = some (.ref 621) → ev_lk w3 1 = some (.int (Int32.ofInt a0)) → ev_lk w3 2 = some (.int (Int32.ofInt x2)) → ev_w none (ev_Mof 294) d 5 w3 [] s7 (jl_294_5 Q a0  q x2 s7) ev_eI ev_rng := by
  intro q
  induction q with
  | zero =>
    intro x2 hx2 s7 w3 e4 e5 e6
    exact ev_w_none
  | succ q ih => exact jbt_294_5 d hd Q a0 ha0   _ ih
/-- MendBenchModel.entry(I)I -/
def jm_294 (Q : Nat) (a0 : Int) (S : ev_St) : Option ((Int) × ev_St) := ev_b (S.1 621 82) fun x1 => jl_294_5 Q a0  Q x1 S
theorem jt_294 (d : Nat) (hd : 1 ≤ d) (Q : Nat) (a0 : Int) (ha0 : ev_rng a0) (S : ev_St) (x : Int) (S' : ev_St) (hJ : jm_294 Q a0 S = some (x, S')) : ev_Ref d 294 [.ref 621, .int (Int32.ofInt a0)] S (ev_eI x) S' (ev_rng x) := by
  obtain ⟨d, rfl⟩ : ∃ e, d = e + 1 := ⟨d - 1, by omega⟩
  refine ev_ref_of (P := ev_rng) (lv := [(0, .ref 621), (1, .int (Int32.ofInt a0))]) (by decide +kernel) (by (try simp only [ev_sum, ev_nv_cat]); first | done | rfl) (by (try simp only [lv_args, ev_nv_cat]); first | done | rfl) ?_ x S' hJ
  unfold jm_294
  refine ev_r_aload_n (pc := 0) (k := 0) (v := .ref 621) trivial (by decide +kernel) (by rfl) ?_
  refine ev_r_getI (pc := 1) (y := 585) (ci := 13) (f := 82) (fin := 0) (by decide +kernel) (by decide +kernel) (by exact ev_ob_621) rfl ?_
  intro x1 hx1
  refine ev_r_istore_n (pc := 4) (k := 2) (by decide +kernel) (by decide +kernel) rfl ?_
  exact jlt_294_5 d hd Q a0 ha0   Q x1 hx1 S _ (by exact (ev_l1 (by rfl) (by decide) (by decide))) (by exact (ev_lk_st1 (by rfl) (by decide) rfl)) (by exact ev_lk_st1_self)
/-- MendBenchModel.isEdge(I)Z -/
def jm_295 (Q : Nat) (a0 : Int) (S : ev_St) : Option ((Int) × ev_St) := ev_b (S.1 621 81) fun x1 => ev_jn (fun (x2 : Int) (s6 : ev_St) => ev_b (s6.1 621 81) fun x7 => ev_b (s6.1 621 73) fun x8 => ev_jn (fun (x9 : Int) (x10 : Int) (s15 : ev_St) => ev_b (s15.1 621 81) fun x16 => ev_ck (x16 - 1) fun x17 => ev_bd (jm_289 Q x17 s15) fun x19 s18 => ev_b (s18.1 621 81) fun x20 => ev_bd (jm_289 Q x20 s18) fun x22 s21 => ev_jn (fun (x23 : Int) (x24 : Int) (s30 : ev_St) => ev_if ((0 : Int) ≤ a0 ∧ a0 < (ev_aln 625 : Int)) (ev_b (s30.1 625 (Int.toNat a0)) fun x31 => ev_jn (fun (x32 : Int) (s38 : ev_St) => if x9 ≠ 0 then (some (1, s38)) else (if x32 ≠ 1 then (some (0, s38)) else (ev_if ((0 : Int) ≤ a0 ∧ a0 < (ev_aln 629 : Int)) (ev_b (s38.1 629 (Int.toNat a0)) fun x41 => if x41 ≤ 0 then (some (0, s38)) else (ev_b (s38.1 621 81) fun x43 => ev_ck (x43 - 1) fun x44 => ev_if ((0 : Int) ≤ x44 ∧ x44 < (ev_aln 678 : Int)) (ev_b (s38.1 678 (Int.toNat x44)) fun x45 => if x45 ≠ 10 then (some (0, s38)) else (some (1, s38)))))))) fun K78 => if x31 = 1 then (K78 x31 s30) else (if x31 ≠ 3 then (ev_jn (fun  (s54 : ev_St) => if x23 ≠ 0 then (some (1, s54)) else (if x31 ≠ 2 then (some (0, s54)) else (ev_if ((0 : Int) ≤ a0 ∧ a0 < (ev_aln 629 : Int)) (ev_b (s54.1 629 (Int.toNat a0)) fun x57 => if x57 ≤ 0 then (some (0, s54)) else (ev_b (s54.1 621 81) fun x59 => ev_if ((0 : Int) ≤ x59 ∧ x59 < (ev_aln 678 : Int)) (ev_b (s54.1 678 (Int.toNat x59)) fun x60 => if x60 ≠ 10 then (some (0, s54)) else (some (1, s54)))))))) fun K131 => if x31 = 2 then (K131  s30) else (if x31 ≠ 4 then (if x31 ≠ 5 then (if x24 ≠ 0 then (some (0, s30)) else (some (1, s30))) else (ev_if (ev_bl x24) (some (x24, s30)))) else (K131  s30))) else (K78 x31 s30)))) fun K56 => if x19 = x22 then (K56 x10 0 s21) else (K56 x10 1 s21)) fun K29 => if x7 ≠ x8 then (K29 x2 0 s6) else (K29 x2 1 s6)) fun K12 => if x1 ≠ 0 then (K12 0 S) else (K12 1 S)
theorem jt_295 (d : Nat) (hd : 6 ≤ d) (Q : Nat) (a0 : Int) (ha0 : ev_rng a0) (S : ev_St) (x : Int) (S' : ev_St) (hJ : jm_295 Q a0 S = some (x, S')) : ev_Ref d 295 [.ref 621, .int (Int32.ofInt a0)] S (ev_eI x) S' (ev_bl x) := by
  obtain ⟨d, rfl⟩ : ∃ e, d = e + 1 := ⟨d - 1, by omega⟩
  refine ev_ref_of (P := ev_bl) (lv := [(0, .ref 621), (1, .int (Int32.ofInt a0))]) (by decide +kernel) (by (try simp only [ev_sum, ev_nv_cat]); first | done | rfl) (by (try simp only [lv_args, ev_nv_cat]); first | done | rfl) ?_ x S' hJ
  unfold jm_295
  refine ev_r_aload_n (pc := 0) (k := 0) (v := .ref 621) trivial (by decide +kernel) (by rfl) ?_
  refine ev_r_getI (pc := 1) (y := 582) (ci := 13) (f := 81) (fin := 0) (by decide +kernel) (by decide +kernel) (by exact ev_ob_621) rfl ?_
  intro x1 hx1
  refine ev_r_jn (Q := fun K => ∀ (x2 : Int) (hx2 : ev_rng x2), ∀ (s6 : ev_St) (w3 : List (Nat × Value)), ev_lk w3 0 = some (.ref 621) → ev_lk w3 1 = some (.int (Int32.ofInt a0)) → ev_w none (ev_Mof 295) d 12 w3 [.int (Int32.ofInt x2)] s6 (K x2 s6) ev_eI ev_bl) ?_ ?_
  · intro x2 hx2 s6 w3 e4 e5
    refine ev_r_istore_n (pc := 12) (k := 2) (by decide +kernel) (by decide +kernel) rfl ?_
    refine ev_r_aload_n (pc := 13) (k := 0) (v := .ref 621) trivial (by decide +kernel) (by exact (ev_l1 e4 (by decide) (by decide))) ?_
    refine ev_r_getI (pc := 14) (y := 582) (ci := 13) (f := 81) (fin := 0) (by decide +kernel) (by decide +kernel) (by exact ev_ob_621) rfl ?_
    intro x7 hx7
    refine ev_r_aload_n (pc := 17) (k := 0) (v := .ref 621) trivial (by decide +kernel) (by exact (ev_l1 e4 (by decide) (by decide))) ?_
    refine ev_r_getI (pc := 18) (y := 567) (ci := 13) (f := 73) (fin := 0) (by decide +kernel) (by decide +kernel) (by exact ev_ob_621) rfl ?_
    intro x8 hx8
    refine ev_r_jn (Q := fun K => ∀ (x9 : Int) (hx9 : ev_rng x9), ∀ (x10 : Int) (hx10 : ev_rng x10), ∀ (s15 : ev_St) (w11 : List (Nat × Value)), ev_lk w11 0 = some (.ref 621) → ev_lk w11 1 = some (.int (Int32.ofInt a0)) → ev_lk w11 2 = some (.int (Int32.ofInt x9)) → ev_w none (ev_Mof 295) d 29 w11 [.int (Int32.ofInt x10)] s15 (K x9 x10 s15) ev_eI ev_bl) ?_ ?_
    · intro x9 hx9 x10 hx10 s15 w11 e12 e13 e14
      refine ev_r_istore_n (pc := 29) (k := 3) (by decide +kernel) (by decide +kernel) rfl ?_
      refine ev_r_aload_n (pc := 30) (k := 0) (v := .ref 621) trivial (by decide +kernel) (by exact (ev_l1 e12 (by decide) (by decide))) ?_
      refine ev_r_aload_n (pc := 31) (k := 0) (v := .ref 621) trivial (by decide +kernel) (by exact (ev_l1 e12 (by decide) (by decide))) ?_
      refine ev_r_getI (pc := 32) (y := 582) (ci := 13) (f := 81) (fin := 0) (by decide +kernel) (by decide +kernel) (by exact ev_ob_621) rfl ?_
      intro x16 hx16
      refine ev_r_iconst (pc := 35) (k := 1) (by decide +kernel) ?_
      refine ev_r_isub (pc := 36) (by decide +kernel) ?_
      intro x17 hx17
      refine ev_r_virt (pc := 37) (y := 600) (mi := 289) (na := 1) (k := 621) (as := [.int (Int32.ofInt x17)]) (rest := []) (encc := ev_oI) (Q := ev_bl) (fun x S1 h => jt_289 d (by omega) Q x17 hx17 s15 x S1 h) (by exact ev_ob_621) (by decide +kernel) (by decide +kernel) (by decide +kernel) (by decide +kernel) rfl (by (try simp only [ev_sum, ev_nv_cat]); first | done | rfl) ?_
      intro x19 s18 hx19
      replace hx19 := ev_bl_rng hx19
      show ev_w _ _ _ _ _ [.int (Int32.ofInt x19)] _ _ _ _
      refine ev_r_aload_n (pc := 40) (k := 0) (v := .ref 621) trivial (by decide +kernel) (by exact (ev_l1 e12 (by decide) (by decide))) ?_
      refine ev_r_aload_n (pc := 41) (k := 0) (v := .ref 621) trivial (by decide +kernel) (by exact (ev_l1 e12 (by decide) (by decide))) ?_
      refine ev_r_getI (pc := 42) (y := 582) (ci := 13) (f := 81) (fin := 0) (by decide +kernel) (by decide +kernel) (by exact ev_ob_621) rfl ?_
      intro x20 hx20
      refine ev_r_virt (pc := 45) (y := 600) (mi := 289) (na := 1) (k := 621) (as := [.int (Int32.ofInt x20)]) (rest := [.int (Int32.ofInt x19)]) (encc := ev_oI) (Q := ev_bl) (fun x S1 h => jt_289 d (by omega) Q x20 hx20 s18 x S1 h) (by exact ev_ob_621) (by decide +kernel) (by decide +kernel) (by decide +kernel) (by decide +kernel) rfl (by (try simp only [ev_sum, ev_nv_cat]); first | done | rfl) ?_
      intro x22 s21 hx22
      replace hx22 := ev_bl_rng hx22
      show ev_w _ _ _ _ _ [.int (Int32.ofInt x22), .int (Int32.ofInt x19)] _ _ _ _
      refine ev_r_jn (Q := fun K => ∀ (x23 : Int) (hx23 : ev_rng x23), ∀ (x24 : Int) (hx24 : ev_rng x24), ∀ (s30 : ev_St) (w25 : List (Nat × Value)), ev_lk w25 0 = some (.ref 621) → ev_lk w25 1 = some (.int (Int32.ofInt a0)) → ev_lk w25 2 = some (.int (Int32.ofInt x9)) → ev_lk w25 3 = some (.int (Int32.ofInt x23)) → ev_w none (ev_Mof 295) d 56 w25 [.int (Int32.ofInt x24)] s30 (K x23 x24 s30) ev_eI ev_bl) ?_ ?_
      · intro x23 hx23 x24 hx24 s30 w25 e26 e27 e28 e29
        refine ev_r_istore (pc := 56) (k := 4) (by decide +kernel) (by decide +kernel) rfl ?_
        refine ev_r_aload_n (pc := 58) (k := 0) (v := .ref 621) trivial (by decide +kernel) (by exact (ev_l1 e26 (by decide) (by decide))) ?_
        refine ev_r_getC (pc := 59) (y := 19) (ci := 13) (f := 6) (fin := 1) (k' := 625) (by decide +kernel) (by decide +kernel) (by exact ev_ob_621) rfl rfl ?_
        refine ev_r_iload_n (pc := 62) (k := 1) (v := Int32.ofInt a0) (by decide +kernel) (by exact (ev_l1 e27 (by decide) (by decide))) ?_
        refine ev_r_iald (pc := 63) ha0 (by decide +kernel) (by exact ev_ab_625) ?_
        intro x31 hx31
        refine ev_r_istore (pc := 64) (k := 5) (by decide +kernel) (by decide +kernel) rfl ?_
        refine ev_r_iload (pc := 66) (k := 5) (v := Int32.ofInt x31) (by decide +kernel) (by exact ev_lk_st1_self) ?_
        refine ev_r_iconst (pc := 68) (k := 1) (by decide +kernel) ?_
        refine ev_r_jn (Q := fun K => ∀ (x32 : Int) (hx32 : ev_rng x32), ∀ (s38 : ev_St) (w33 : List (Nat × Value)), ev_lk w33 0 = some (.ref 621) → ev_lk w33 1 = some (.int (Int32.ofInt a0)) → ev_lk w33 2 = some (.int (Int32.ofInt x9)) → ev_lk w33 5 = some (.int (Int32.ofInt x32)) → ev_w none (ev_Mof 295) d 78 w33 [] s38 (K x32 s38) ev_eI ev_bl) ?_ ?_
        · intro x32 hx32 s38 w33 e34 e35 e36 e37
          refine ev_r_iload_n (pc := 78) (k := 2) (v := Int32.ofInt x9) (by decide +kernel) (by exact e36) ?_
          refine ev_r_if (pc := 79) (q := .ne) (o := 34) (t := 113) (c := x9 ≠ 0) (by decide +kernel) (ev_k_ne hx9 ev_rng0) (by decide +kernel) ?_ ?_
          · intro c39
            refine ev_r_iconst (pc := 113) (k := 1) (by decide +kernel) ?_
            refine ev_r_goto (pc := 114) (o := 4) (t := 118) (by decide +kernel) (by decide +kernel) ?_
            exact ev_r_ireturn (pc := 118) (x := 1) (v := Int32.ofInt 1) (ty := .boolean) (by decide : ev_bl 1) (by decide +kernel) (by decide +kernel) (ev_ret_bl (by decide : ev_bl 1)) rfl
          · intro c39
            refine ev_r_iload (pc := 82) (k := 5) (v := Int32.ofInt x32) (by decide +kernel) (by exact e37) ?_
            refine ev_r_iconst (pc := 84) (k := 1) (by decide +kernel) ?_
            refine ev_r_icmp (pc := 85) (q := .ne) (o := 32) (t := 117) (c := x32 ≠ 1) (by decide +kernel) (ev_k_ne hx32 (by decide)) (by decide +kernel) ?_ ?_
            · intro c40
              refine ev_r_iconst (pc := 117) (k := 0) (by decide +kernel) ?_
              exact ev_r_ireturn (pc := 118) (x := 0) (v := Int32.ofInt 0) (ty := .boolean) (by decide : ev_bl 0) (by decide +kernel) (by decide +kernel) (ev_ret_bl (by decide : ev_bl 0)) rfl
            · intro c40
              refine ev_r_aload_n (pc := 88) (k := 0) (v := .ref 621) trivial (by decide +kernel) (by exact e34) ?_
              refine ev_r_getC (pc := 89) (y := 31) (ci := 13) (f := 10) (fin := 1) (k' := 629) (by decide +kernel) (by decide +kernel) (by exact ev_ob_621) rfl rfl ?_
              refine ev_r_iload_n (pc := 92) (k := 1) (v := Int32.ofInt a0) (by decide +kernel) (by exact e35) ?_
              refine ev_r_iald (pc := 93) ha0 (by decide +kernel) (by exact ev_ab_629) ?_
              intro x41 hx41
              refine ev_r_if (pc := 94) (q := .le) (o := 23) (t := 117) (c := x41 ≤ 0) (by decide +kernel) (ev_k_le hx41 ev_rng0) (by decide +kernel) ?_ ?_
              · intro c42
                refine ev_r_iconst (pc := 117) (k := 0) (by decide +kernel) ?_
                exact ev_r_ireturn (pc := 118) (x := 0) (v := Int32.ofInt 0) (ty := .boolean) (by decide : ev_bl 0) (by decide +kernel) (by decide +kernel) (ev_ret_bl (by decide : ev_bl 0)) rfl
              · intro c42
                refine ev_r_aload_n (pc := 97) (k := 0) (v := .ref 621) trivial (by decide +kernel) (by exact e34) ?_
                refine ev_r_getC (pc := 98) (y := 181) (ci := 13) (f := 74) (fin := 1) (k' := 678) (by decide +kernel) (by decide +kernel) (by exact ev_ob_621) rfl rfl ?_
                refine ev_r_aload_n (pc := 101) (k := 0) (v := .ref 621) trivial (by decide +kernel) (by exact e34) ?_
                refine ev_r_getI (pc := 102) (y := 582) (ci := 13) (f := 81) (fin := 0) (by decide +kernel) (by decide +kernel) (by exact ev_ob_621) rfl ?_
                intro x43 hx43
                refine ev_r_iconst (pc := 105) (k := 1) (by decide +kernel) ?_
                refine ev_r_isub (pc := 106) (by decide +kernel) ?_
                intro x44 hx44
                refine ev_r_iald (pc := 107) hx44 (by decide +kernel) (by exact ev_ab_678) ?_
                intro x45 hx45
                refine ev_r_bipush (pc := 108) (k := 10) (by decide +kernel) (by decide +kernel) ?_
                refine ev_r_icmp (pc := 110) (q := .ne) (o := 7) (t := 117) (c := x45 ≠ 10) (by decide +kernel) (ev_k_ne hx45 (by decide)) (by decide +kernel) ?_ ?_
                · intro c46
                  refine ev_r_iconst (pc := 117) (k := 0) (by decide +kernel) ?_
                  exact ev_r_ireturn (pc := 118) (x := 0) (v := Int32.ofInt 0) (ty := .boolean) (by decide : ev_bl 0) (by decide +kernel) (by decide +kernel) (ev_ret_bl (by decide : ev_bl 0)) rfl
                · intro c46
                  refine ev_r_iconst (pc := 113) (k := 1) (by decide +kernel) ?_
                  refine ev_r_goto (pc := 114) (o := 4) (t := 118) (by decide +kernel) (by decide +kernel) ?_
                  exact ev_r_ireturn (pc := 118) (x := 1) (v := Int32.ofInt 1) (ty := .boolean) (by decide : ev_bl 1) (by decide +kernel) (by decide +kernel) (ev_ret_bl (by decide : ev_bl 1)) rfl
        · intro K78 hK78
          refine ev_r_icmp (pc := 69) (q := .eq) (o := 9) (t := 78) (c := x31 = 1) (by decide +kernel) (ev_k_eq hx31 (by decide)) (by decide +kernel) ?_ ?_
          · intro c47
            exact hK78 x31 hx31 s30 _ (by exact (ev_l1 (ev_l1 e26 (by decide) (by decide)) (by decide) (by decide))) (by exact (ev_l1 (ev_l1 e27 (by decide) (by decide)) (by decide) (by decide))) (by exact (ev_l1 (ev_l1 e28 (by decide) (by decide)) (by decide) (by decide))) (by exact ev_lk_st1_self)
          · intro c47
            refine ev_r_iload (pc := 72) (k := 5) (v := Int32.ofInt x31) (by decide +kernel) (by exact ev_lk_st1_self) ?_
            refine ev_r_iconst (pc := 74) (k := 3) (by decide +kernel) ?_
            refine ev_r_icmp (pc := 75) (q := .ne) (o := 44) (t := 119) (c := x31 ≠ 3) (by decide +kernel) (ev_k_ne hx31 (by decide)) (by decide +kernel) ?_ ?_
            · intro c48
              refine ev_r_iload (pc := 119) (k := 5) (v := Int32.ofInt x31) (by decide +kernel) (by exact ev_lk_st1_self) ?_
              refine ev_r_iconst (pc := 121) (k := 2) (by decide +kernel) ?_
              refine ev_r_jn (Q := fun K => ∀ (s54 : ev_St) (w49 : List (Nat × Value)), ev_lk w49 0 = some (.ref 621) → ev_lk w49 1 = some (.int (Int32.ofInt a0)) → ev_lk w49 3 = some (.int (Int32.ofInt x23)) → ev_lk w49 5 = some (.int (Int32.ofInt x31)) → ev_w none (ev_Mof 295) d 131 w49 [] s54 (K  s54) ev_eI ev_bl) ?_ ?_
              · intro  s54 w49 e50 e51 e52 e53
                refine ev_r_iload_n (pc := 131) (k := 3) (v := Int32.ofInt x23) (by decide +kernel) (by exact e52) ?_
                refine ev_r_if (pc := 132) (q := .ne) (o := 32) (t := 164) (c := x23 ≠ 0) (by decide +kernel) (ev_k_ne hx23 ev_rng0) (by decide +kernel) ?_ ?_
                · intro c55
                  refine ev_r_iconst (pc := 164) (k := 1) (by decide +kernel) ?_
                  refine ev_r_goto (pc := 165) (o := 4) (t := 169) (by decide +kernel) (by decide +kernel) ?_
                  exact ev_r_ireturn (pc := 169) (x := 1) (v := Int32.ofInt 1) (ty := .boolean) (by decide : ev_bl 1) (by decide +kernel) (by decide +kernel) (ev_ret_bl (by decide : ev_bl 1)) rfl
                · intro c55
                  refine ev_r_iload (pc := 135) (k := 5) (v := Int32.ofInt x31) (by decide +kernel) (by exact e53) ?_
                  refine ev_r_iconst (pc := 137) (k := 2) (by decide +kernel) ?_
                  refine ev_r_icmp (pc := 138) (q := .ne) (o := 30) (t := 168) (c := x31 ≠ 2) (by decide +kernel) (ev_k_ne hx31 (by decide)) (by decide +kernel) ?_ ?_
                  · intro c56
                    refine ev_r_iconst (pc := 168) (k := 0) (by decide +kernel) ?_
                    exact ev_r_ireturn (pc := 169) (x := 0) (v := Int32.ofInt 0) (ty := .boolean) (by decide : ev_bl 0) (by decide +kernel) (by decide +kernel) (ev_ret_bl (by decide : ev_bl 0)) rfl
                  · intro c56
                    refine ev_r_aload_n (pc := 141) (k := 0) (v := .ref 621) trivial (by decide +kernel) (by exact e50) ?_
                    refine ev_r_getC (pc := 142) (y := 31) (ci := 13) (f := 10) (fin := 1) (k' := 629) (by decide +kernel) (by decide +kernel) (by exact ev_ob_621) rfl rfl ?_
                    refine ev_r_iload_n (pc := 145) (k := 1) (v := Int32.ofInt a0) (by decide +kernel) (by exact e51) ?_
                    refine ev_r_iald (pc := 146) ha0 (by decide +kernel) (by exact ev_ab_629) ?_
                    intro x57 hx57
                    refine ev_r_if (pc := 147) (q := .le) (o := 21) (t := 168) (c := x57 ≤ 0) (by decide +kernel) (ev_k_le hx57 ev_rng0) (by decide +kernel) ?_ ?_
                    · intro c58
                      refine ev_r_iconst (pc := 168) (k := 0) (by decide +kernel) ?_
                      exact ev_r_ireturn (pc := 169) (x := 0) (v := Int32.ofInt 0) (ty := .boolean) (by decide : ev_bl 0) (by decide +kernel) (by decide +kernel) (ev_ret_bl (by decide : ev_bl 0)) rfl
                    · intro c58
                      refine ev_r_aload_n (pc := 150) (k := 0) (v := .ref 621) trivial (by decide +kernel) (by exact e50) ?_
                      refine ev_r_getC (pc := 151) (y := 181) (ci := 13) (f := 74) (fin := 1) (k' := 678) (by decide +kernel) (by decide +kernel) (by exact ev_ob_621) rfl rfl ?_
                      refine ev_r_aload_n (pc := 154) (k := 0) (v := .ref 621) trivial (by decide +kernel) (by exact e50) ?_
                      refine ev_r_getI (pc := 155) (y := 582) (ci := 13) (f := 81) (fin := 0) (by decide +kernel) (by decide +kernel) (by exact ev_ob_621) rfl ?_
                      intro x59 hx59
                      refine ev_r_iald (pc := 158) hx59 (by decide +kernel) (by exact ev_ab_678) ?_
                      intro x60 hx60
                      refine ev_r_bipush (pc := 159) (k := 10) (by decide +kernel) (by decide +kernel) ?_
                      refine ev_r_icmp (pc := 161) (q := .ne) (o := 7) (t := 168) (c := x60 ≠ 10) (by decide +kernel) (ev_k_ne hx60 (by decide)) (by decide +kernel) ?_ ?_
                      · intro c61
                        refine ev_r_iconst (pc := 168) (k := 0) (by decide +kernel) ?_
                        exact ev_r_ireturn (pc := 169) (x := 0) (v := Int32.ofInt 0) (ty := .boolean) (by decide : ev_bl 0) (by decide +kernel) (by decide +kernel) (ev_ret_bl (by decide : ev_bl 0)) rfl
                      · intro c61
                        refine ev_r_iconst (pc := 164) (k := 1) (by decide +kernel) ?_
                        refine ev_r_goto (pc := 165) (o := 4) (t := 169) (by decide +kernel) (by decide +kernel) ?_
                        exact ev_r_ireturn (pc := 169) (x := 1) (v := Int32.ofInt 1) (ty := .boolean) (by decide : ev_bl 1) (by decide +kernel) (by decide +kernel) (ev_ret_bl (by decide : ev_bl 1)) rfl
              · intro K131 hK131
                refine ev_r_icmp (pc := 122) (q := .eq) (o := 9) (t := 131) (c := x31 = 2) (by decide +kernel) (ev_k_eq hx31 (by decide)) (by decide +kernel) ?_ ?_
                · intro c62
                  exact hK131  s30 _ (by exact (ev_l1 (ev_l1 e26 (by decide) (by decide)) (by decide) (by decide))) (by exact (ev_l1 (ev_l1 e27 (by decide) (by decide)) (by decide) (by decide))) (by exact (ev_l1 (ev_lk_st1 e29 (by decide) rfl) (by decide) (by decide))) (by exact ev_lk_st1_self)
                · intro c62
                  refine ev_r_iload (pc := 125) (k := 5) (v := Int32.ofInt x31) (by decide +kernel) (by exact ev_lk_st1_self) ?_
                  refine ev_r_iconst (pc := 127) (k := 4) (by decide +kernel) ?_
                  refine ev_r_icmp (pc := 128) (q := .ne) (o := 42) (t := 170) (c := x31 ≠ 4) (by decide +kernel) (ev_k_ne hx31 (by decide)) (by decide +kernel) ?_ ?_
                  · intro c63
                    refine ev_r_iload (pc := 170) (k := 5) (v := Int32.ofInt x31) (by decide +kernel) (by exact ev_lk_st1_self) ?_
                    refine ev_r_iconst (pc := 172) (k := 5) (by decide +kernel) ?_
                    refine ev_r_icmp (pc := 173) (q := .ne) (o := 8) (t := 181) (c := x31 ≠ 5) (by decide +kernel) (ev_k_ne hx31 (by decide)) (by decide +kernel) ?_ ?_
                    · intro c64
                      refine ev_r_iload (pc := 181) (k := 4) (v := Int32.ofInt x24) (by decide +kernel) (by exact (ev_lk_st1 ev_lk_st1_self (by decide) rfl)) ?_
                      refine ev_r_if (pc := 183) (q := .ne) (o := 7) (t := 190) (c := x24 ≠ 0) (by decide +kernel) (ev_k_ne hx24 ev_rng0) (by decide +kernel) ?_ ?_
                      · intro c65
                        refine ev_r_iconst (pc := 190) (k := 0) (by decide +kernel) ?_
                        exact ev_r_ireturn (pc := 191) (x := 0) (v := Int32.ofInt 0) (ty := .boolean) (by decide : ev_bl 0) (by decide +kernel) (by decide +kernel) (ev_ret_bl (by decide : ev_bl 0)) rfl
                      · intro c65
                        refine ev_r_iconst (pc := 186) (k := 1) (by decide +kernel) ?_
                        refine ev_r_goto (pc := 187) (o := 4) (t := 191) (by decide +kernel) (by decide +kernel) ?_
                        exact ev_r_ireturn (pc := 191) (x := 1) (v := Int32.ofInt 1) (ty := .boolean) (by decide : ev_bl 1) (by decide +kernel) (by decide +kernel) (ev_ret_bl (by decide : ev_bl 1)) rfl
                    · intro c64
                      refine ev_r_iload (pc := 176) (k := 4) (v := Int32.ofInt x24) (by decide +kernel) (by exact (ev_lk_st1 ev_lk_st1_self (by decide) rfl)) ?_
                      refine ev_r_goto (pc := 178) (o := 13) (t := 191) (by decide +kernel) (by decide +kernel) ?_
                      refine ev_r_chk ?_
                      intro c66
                      exact ev_r_ireturn (pc := 191) (x := x24) (v := Int32.ofInt x24) (ty := .boolean) c66 (by decide +kernel) (by decide +kernel) (ev_ret_bl c66) rfl
                  · intro c63
                    exact hK131  s30 _ (by exact (ev_l1 (ev_l1 e26 (by decide) (by decide)) (by decide) (by decide))) (by exact (ev_l1 (ev_l1 e27 (by decide) (by decide)) (by decide) (by decide))) (by exact (ev_l1 (ev_lk_st1 e29 (by decide) rfl) (by decide) (by decide))) (by exact ev_lk_st1_self)
            · intro c48
              exact hK78 x31 hx31 s30 _ (by exact (ev_l1 (ev_l1 e26 (by decide) (by decide)) (by decide) (by decide))) (by exact (ev_l1 (ev_l1 e27 (by decide) (by decide)) (by decide) (by decide))) (by exact (ev_l1 (ev_l1 e28 (by decide) (by decide)) (by decide) (by decide))) (by exact ev_lk_st1_self)
      · intro K56 hK56
        refine ev_r_icmp (pc := 48) (q := .eq) (o := 7) (t := 55) (c := x19 = x22) (by decide +kernel) (ev_k_eq hx19 hx22) (by decide +kernel) ?_ ?_
        · intro c67
          refine ev_r_iconst (pc := 55) (k := 0) (by decide +kernel) ?_
          exact hK56 x10 hx10 0 (by decide) s21 _ (by exact (ev_l1 e12 (by decide) (by decide))) (by exact (ev_l1 e13 (by decide) (by decide))) (by exact (ev_lk_st1 e14 (by decide) rfl)) (by exact ev_lk_st1_self)
        · intro c67
          refine ev_r_iconst (pc := 51) (k := 1) (by decide +kernel) ?_
          refine ev_r_goto (pc := 52) (o := 4) (t := 56) (by decide +kernel) (by decide +kernel) ?_
          exact hK56 x10 hx10 1 (by decide) s21 _ (by exact (ev_l1 e12 (by decide) (by decide))) (by exact (ev_l1 e13 (by decide) (by decide))) (by exact (ev_lk_st1 e14 (by decide) rfl)) (by exact ev_lk_st1_self)
    · intro K29 hK29
      refine ev_r_icmp (pc := 21) (q := .ne) (o := 7) (t := 28) (c := x7 ≠ x8) (by decide +kernel) (ev_k_ne hx7 hx8) (by decide +kernel) ?_ ?_
      · intro c68
        refine ev_r_iconst (pc := 28) (k := 0) (by decide +kernel) ?_
        exact hK29 x2 hx2 0 (by decide) s6 _ (by exact (ev_l1 e4 (by decide) (by decide))) (by exact (ev_lk_st1 e5 (by decide) rfl)) (by exact ev_lk_st1_self)
      · intro c68
        refine ev_r_iconst (pc := 24) (k := 1) (by decide +kernel) ?_
        refine ev_r_goto (pc := 25) (o := 4) (t := 29) (by decide +kernel) (by decide +kernel) ?_
        exact hK29 x2 hx2 1 (by decide) s6 _ (by exact (ev_l1 e4 (by decide) (by decide))) (by exact (ev_lk_st1 e5 (by decide) rfl)) (by exact ev_lk_st1_self)
  · intro K12 hK12
    refine ev_r_if (pc := 4) (q := .ne) (o := 7) (t := 11) (c := x1 ≠ 0) (by decide +kernel) (ev_k_ne hx1 ev_rng0) (by decide +kernel) ?_ ?_
    · intro c69
      refine ev_r_iconst (pc := 11) (k := 0) (by decide +kernel) ?_
      exact hK12 0 (by decide) S _ (by rfl) (by rfl)
    · intro c69
      refine ev_r_iconst (pc := 7) (k := 1) (by decide +kernel) ?_
      refine ev_r_goto (pc := 8) (o := 4) (t := 12) (by decide +kernel) (by decide +kernel) ?_
      exact hK12 1 (by decide) S _ (by rfl) (by rfl)
def jb_296_59 (Q : Nat) (a0 : Int) (x11 : Int) (x12 : Int)  (K59 : Int → Int → ev_St → Option ((Int) × ev_St)) (x20 : Int) (x21 : Int) (s29 : ev_St) : Option ((Int) × ev_St) := ev_jn (fun  (s34 : ev_St) => ev_b (s34.1 621 81) fun x35 => if x20 = 0 then (ev_ck (x35 + 0) fun x37 => ev_b (ev_pI s34 621 81 x37) fun s38 => ev_if (ev_bl x20) (some (x20, s38))) else (ev_ck (x35 + x12) fun x40 => ev_b (ev_pI s34 621 81 x40) fun s41 => ev_if (ev_bl x20) (some (x20, s41)))) fun K135 => if x12 ≤ x21 then (K135  s29) else (if x20 = 0 then (K135  s29) else (ev_ck (x11 + x21) fun x45 => ev_if ((0 : Int) ≤ x45 ∧ x45 < (ev_aln 678 : Int)) (ev_b (s29.1 678 (Int.toNat x45)) fun x46 => ev_b (s29.1 621 81) fun x47 => ev_ck (x47 + x21) fun x48 => ev_if ((0 : Int) ≤ x48 ∧ x48 < (ev_aln 678 : Int)) (ev_b (s29.1 678 (Int.toNat x48)) fun x49 => ev_jn (fun (x50 : Int) (s57 : ev_St) => ev_ck (x21 + 1) fun x58 => K59 x50 x58 s57) fun K127 => ev_jn (fun  (s65 : ev_St) => K127 1 s65) fun K122 => if x46 = x49 then (K122  s29) else (ev_if ((0 : Int) ≤ a0 ∧ a0 < (ev_aln 629 : Int)) (ev_b (s29.1 629 (Int.toNat a0)) fun x67 => ev_jn (fun  (s74 : ev_St) => K127 0 s74) fun K126 => if x67 ≤ 0 then (K126  s29) else (ev_bd (jm_229 Q x46 s29) fun x77 s76 => if x77 ≠ x49 then (K126  s76) else (K122  s76))))))))
def jl_296_59 (Q : Nat) (a0 : Int) (x11 : Int) (x12 : Int)  : Nat → Int → Int → ev_St → Option ((Int) × ev_St)
  | 0 => fun _ _ _ => none
  | q + 1 => jb_296_59 Q a0 x11 x12  (jl_296_59 Q a0 x11 x12  q)
theorem jbt_296_59 (d : Nat) (hd : 5 ≤ d + 1) (Q : Nat) (a0 : Int) (x11 : Int) (x12 : Int) (ha0 : ev_rng a0) (hx11 : ev_rng x11) (hx12 : ev_rng x12)   (K59 : Int → Int → ev_St → Option ((Int) × ev_St)) (hK59 : ∀ (x20 : Int) (hx20 : ev_rng x20), ∀ (x21 : Int) (hx21 : ev_rng x21), ∀ (s29 : ev_St) (w22 : List (Nat × Value)), ev_lk w22 0 = some (.ref 621) → ev_lk w22 1 = some (.int (Int32.ofInt a0)) → ev_lk w22 3 = some (.int (Int32.ofInt x11)) → ev_lk w22 4 = some (.int (Int32.ofInt x12)) → ev_lk w22 5 = some (.int (Int32.ofInt x20)) → ev_lk w22 6 = some (.int (Int32.ofInt x21)) → ev_w none (ev_Mof 296) d 59 w22 [] s29 (K59 x20 x21 s29) ev_eI ev_bl) : ∀ (x20 : Int) (hx20 : ev_rng x20), ∀ (x21 : Int) (hx21 : ev_rng x21), ∀ (s29 : ev_St) (w22 : List (Nat × Value)), ev_lk w22 0 = some (.ref 621) → ev_lk w22 1 = some (.int (Int32.ofInt a0)) → ev_lk w22 3 = some (.int (Int32.ofInt x11)) → ev_lk w22 4 = some (.int (Int32.ofInt x12)) → ev_lk w22 5 = some (.int (Int32.ofInt x20)) → ev_lk w22 6 = some (.int (Int32.ofInt x21)) → ev_w none (ev_Mof 296) d 59 w22 [] s29 (jb_296_59 Q a0 x11 x12  K59 x20 x21 s29) ev_eI ev_bl := by
  intro x20 hx20 x21 hx21 s29 w22 e23 e24 e25 e26 e27 e28
  unfold jb_296_59
  refine ev_r_iload (pc := 59) (k := 6) (v := Int32.ofInt x21) (by decide +kernel) (by exact e28) ?_
  refine ev_r_iload (pc := 61) (k := 4) (v := Int32.ofInt x12) (by decide +kernel) (by exact e26) ?_
  refine ev_r_jn (Q := fun K => ∀ (s34 : ev_St) (w30 : List (Nat × Value)), ev_lk w30 0 = some (.ref 621) → ev_lk w30 4 = some (.int (Int32.ofInt x12)) → ev_lk w30 5 = some (.int (Int32.ofInt x20)) → ev_w none (ev_Mof 296) d 135 w30 [] s34 (K  s34) ev_eI ev_bl) ?_ ?_
  · intro  s34 w30 e31 e32 e33
    refine ev_r_aload_n (pc := 135) (k := 0) (v := .ref 621) trivial (by decide +kernel) (by exact e31) ?_
    refine ev_r_dup (pc := 136) rfl (by decide +kernel) ?_
    refine ev_r_getI (pc := 137) (y := 582) (ci := 13) (f := 81) (fin := 0) (by decide +kernel) (by decide +kernel) (by exact ev_ob_621) rfl ?_
    intro x35 hx35
    refine ev_r_iload (pc := 140) (k := 5) (v := Int32.ofInt x20) (by decide +kernel) (by exact e33) ?_
    refine ev_r_if (pc := 142) (q := .eq) (o := 8) (t := 150) (c := x20 = 0) (by decide +kernel) (ev_k_eq hx20 ev_rng0) (by decide +kernel) ?_ ?_
    · intro c36
      refine ev_r_iconst (pc := 150) (k := 0) (by decide +kernel) ?_
      refine ev_r_iadd (pc := 151) (by decide +kernel) ?_
      intro x37 hx37
      refine ev_r_putI (pc := 152) (y := 582) (ci := 13) (f := 81) hx37 (by decide +kernel) (by decide +kernel) (by exact ev_ob_621) rfl rfl ?_
      intro s38
      refine ev_r_iload (pc := 155) (k := 5) (v := Int32.ofInt x20) (by decide +kernel) (by exact e33) ?_
      refine ev_r_chk ?_
      intro c39
      exact ev_r_ireturn (pc := 157) (x := x20) (v := Int32.ofInt x20) (ty := .boolean) c39 (by decide +kernel) (by decide +kernel) (ev_ret_bl c39) rfl
    · intro c36
      refine ev_r_iload (pc := 145) (k := 4) (v := Int32.ofInt x12) (by decide +kernel) (by exact e32) ?_
      refine ev_r_goto (pc := 147) (o := 4) (t := 151) (by decide +kernel) (by decide +kernel) ?_
      refine ev_r_iadd (pc := 151) (by decide +kernel) ?_
      intro x40 hx40
      refine ev_r_putI (pc := 152) (y := 582) (ci := 13) (f := 81) hx40 (by decide +kernel) (by decide +kernel) (by exact ev_ob_621) rfl rfl ?_
      intro s41
      refine ev_r_iload (pc := 155) (k := 5) (v := Int32.ofInt x20) (by decide +kernel) (by exact e33) ?_
      refine ev_r_chk ?_
      intro c42
      exact ev_r_ireturn (pc := 157) (x := x20) (v := Int32.ofInt x20) (ty := .boolean) c42 (by decide +kernel) (by decide +kernel) (ev_ret_bl c42) rfl
  · intro K135 hK135
    refine ev_r_icmp (pc := 63) (q := .ge) (o := 72) (t := 135) (c := x12 ≤ x21) (by decide +kernel) (ev_k_ge hx21 hx12) (by decide +kernel) ?_ ?_
    · intro c43
      exact hK135  s29 _ (by exact e23) (by exact e26) (by exact e27)
    · intro c43
      refine ev_r_iload (pc := 66) (k := 5) (v := Int32.ofInt x20) (by decide +kernel) (by exact e27) ?_
      refine ev_r_if (pc := 68) (q := .eq) (o := 67) (t := 135) (c := x20 = 0) (by decide +kernel) (ev_k_eq hx20 ev_rng0) (by decide +kernel) ?_ ?_
      · intro c44
        exact hK135  s29 _ (by exact e23) (by exact e26) (by exact e27)
      · intro c44
        refine ev_r_aload_n (pc := 71) (k := 0) (v := .ref 621) trivial (by decide +kernel) (by exact e23) ?_
        refine ev_r_getC (pc := 72) (y := 181) (ci := 13) (f := 74) (fin := 1) (k' := 678) (by decide +kernel) (by decide +kernel) (by exact ev_ob_621) rfl rfl ?_
        refine ev_r_iload_n (pc := 75) (k := 3) (v := Int32.ofInt x11) (by decide +kernel) (by exact e25) ?_
        refine ev_r_iload (pc := 76) (k := 6) (v := Int32.ofInt x21) (by decide +kernel) (by exact e28) ?_
        refine ev_r_iadd (pc := 78) (by decide +kernel) ?_
        intro x45 hx45
        refine ev_r_iald (pc := 79) hx45 (by decide +kernel) (by exact ev_ab_678) ?_
        intro x46 hx46
        refine ev_r_istore (pc := 80) (k := 7) (by decide +kernel) (by decide +kernel) rfl ?_
        refine ev_r_aload_n (pc := 82) (k := 0) (v := .ref 621) trivial (by decide +kernel) (by exact (ev_l1 e23 (by decide) (by decide))) ?_
        refine ev_r_getC (pc := 83) (y := 181) (ci := 13) (f := 74) (fin := 1) (k' := 678) (by decide +kernel) (by decide +kernel) (by exact ev_ob_621) rfl rfl ?_
        refine ev_r_aload_n (pc := 86) (k := 0) (v := .ref 621) trivial (by decide +kernel) (by exact (ev_l1 e23 (by decide) (by decide))) ?_
        refine ev_r_getI (pc := 87) (y := 582) (ci := 13) (f := 81) (fin := 0) (by decide +kernel) (by decide +kernel) (by exact ev_ob_621) rfl ?_
        intro x47 hx47
        refine ev_r_iload (pc := 90) (k := 6) (v := Int32.ofInt x21) (by decide +kernel) (by exact (ev_lk_st1 e28 (by decide) rfl)) ?_
        refine ev_r_iadd (pc := 92) (by decide +kernel) ?_
        intro x48 hx48
        refine ev_r_iald (pc := 93) hx48 (by decide +kernel) (by exact ev_ab_678) ?_
        intro x49 hx49
        refine ev_r_istore (pc := 94) (k := 8) (by decide +kernel) (by decide +kernel) rfl ?_
        refine ev_r_iload (pc := 96) (k := 7) (v := Int32.ofInt x46) (by decide +kernel) (by exact (ev_lk_st1 ev_lk_st1_self (by decide) rfl)) ?_
        refine ev_r_iload (pc := 98) (k := 8) (v := Int32.ofInt x49) (by decide +kernel) (by exact ev_lk_st1_self) ?_
        refine ev_r_jn (Q := fun K => ∀ (x50 : Int) (hx50 : ev_rng x50), ∀ (s57 : ev_St) (w51 : List (Nat × Value)), ev_lk w51 0 = some (.ref 621) → ev_lk w51 1 = some (.int (Int32.ofInt a0)) → ev_lk w51 3 = some (.int (Int32.ofInt x11)) → ev_lk w51 4 = some (.int (Int32.ofInt x12)) → ev_lk w51 6 = some (.int (Int32.ofInt x21)) → ev_w none (ev_Mof 296) d 127 w51 [.int (Int32.ofInt x50)] s57 (K x50 s57) ev_eI ev_bl) ?_ ?_
        · intro x50 hx50 s57 w51 e52 e53 e54 e55 e56
          refine ev_r_istore (pc := 127) (k := 5) (by decide +kernel) (by decide +kernel) rfl ?_
          refine ev_r_iinc (pc := 129) (k := 6) (c := 1) (x := x21) (by decide +kernel) (by decide +kernel) (by exact (ev_l1 e56 (by decide) (by decide))) (fun _ => rfl) ?_
          intro x58 hx58
          refine ev_r_goto (pc := 132) (o := (-73)) (t := 59) (by decide +kernel) (by decide +kernel) ?_
          exact hK59 x50 hx50 x58 hx58 s57 _ (by exact (ev_l1 (ev_l1 e52 (by decide) (by decide)) (by decide) (by decide))) (by exact (ev_l1 (ev_l1 e53 (by decide) (by decide)) (by decide) (by decide))) (by exact (ev_l1 (ev_l1 e54 (by decide) (by decide)) (by decide) (by decide))) (by exact (ev_l1 (ev_lk_st1 e55 (by decide) rfl) (by decide) (by decide))) (by exact (ev_lk_st1 ev_lk_st1_self (by decide) rfl)) (by exact ev_lk_st1_self)
        · intro K127 hK127
          refine ev_r_jn (Q := fun K => ∀ (s65 : ev_St) (w59 : List (Nat × Value)), ev_lk w59 0 = some (.ref 621) → ev_lk w59 1 = some (.int (Int32.ofInt a0)) → ev_lk w59 3 = some (.int (Int32.ofInt x11)) → ev_lk w59 4 = some (.int (Int32.ofInt x12)) → ev_lk w59 6 = some (.int (Int32.ofInt x21)) → ev_w none (ev_Mof 296) d 122 w59 [] s65 (K  s65) ev_eI ev_bl) ?_ ?_
          · intro  s65 w59 e60 e61 e62 e63 e64
            refine ev_r_iconst (pc := 122) (k := 1) (by decide +kernel) ?_
            refine ev_r_goto (pc := 123) (o := 4) (t := 127) (by decide +kernel) (by decide +kernel) ?_
            exact hK127 1 (by decide) s65 _ (by exact e60) (by exact e61) (by exact e62) (by exact e63) (by exact e64)
          · intro K122 hK122
            refine ev_r_icmp (pc := 100) (q := .eq) (o := 22) (t := 122) (c := x46 = x49) (by decide +kernel) (ev_k_eq hx46 hx49) (by decide +kernel) ?_ ?_
            · intro c66
              exact hK122  s29 _ (by exact (ev_l1 (ev_l1 e23 (by decide) (by decide)) (by decide) (by decide))) (by exact (ev_l1 (ev_l1 e24 (by decide) (by decide)) (by decide) (by decide))) (by exact (ev_l1 (ev_l1 e25 (by decide) (by decide)) (by decide) (by decide))) (by exact (ev_l1 (ev_l1 e26 (by decide) (by decide)) (by decide) (by decide))) (by exact (ev_l1 (ev_lk_st1 e28 (by decide) rfl) (by decide) (by decide)))
            · intro c66
              refine ev_r_aload_n (pc := 103) (k := 0) (v := .ref 621) trivial (by decide +kernel) (by exact (ev_l1 (ev_l1 e23 (by decide) (by decide)) (by decide) (by decide))) ?_
              refine ev_r_getC (pc := 104) (y := 31) (ci := 13) (f := 10) (fin := 1) (k' := 629) (by decide +kernel) (by decide +kernel) (by exact ev_ob_621) rfl rfl ?_
              refine ev_r_iload_n (pc := 107) (k := 1) (v := Int32.ofInt a0) (by decide +kernel) (by exact (ev_l1 (ev_l1 e24 (by decide) (by decide)) (by decide) (by decide))) ?_
              refine ev_r_iald (pc := 108) ha0 (by decide +kernel) (by exact ev_ab_629) ?_
              intro x67 hx67
              refine ev_r_jn (Q := fun K => ∀ (s74 : ev_St) (w68 : List (Nat × Value)), ev_lk w68 0 = some (.ref 621) → ev_lk w68 1 = some (.int (Int32.ofInt a0)) → ev_lk w68 3 = some (.int (Int32.ofInt x11)) → ev_lk w68 4 = some (.int (Int32.ofInt x12)) → ev_lk w68 6 = some (.int (Int32.ofInt x21)) → ev_w none (ev_Mof 296) d 126 w68 [] s74 (K  s74) ev_eI ev_bl) ?_ ?_
              · intro  s74 w68 e69 e70 e71 e72 e73
                refine ev_r_iconst (pc := 126) (k := 0) (by decide +kernel) ?_
                exact hK127 0 (by decide) s74 _ (by exact e69) (by exact e70) (by exact e71) (by exact e72) (by exact e73)
              · intro K126 hK126
                refine ev_r_if (pc := 109) (q := .le) (o := 17) (t := 126) (c := x67 ≤ 0) (by decide +kernel) (ev_k_le hx67 ev_rng0) (by decide +kernel) ?_ ?_
                · intro c75
                  exact hK126  s29 _ (by exact (ev_l1 (ev_l1 e23 (by decide) (by decide)) (by decide) (by decide))) (by exact (ev_l1 (ev_l1 e24 (by decide) (by decide)) (by decide) (by decide))) (by exact (ev_l1 (ev_l1 e25 (by decide) (by decide)) (by decide) (by decide))) (by exact (ev_l1 (ev_l1 e26 (by decide) (by decide)) (by decide) (by decide))) (by exact (ev_l1 (ev_lk_st1 e28 (by decide) rfl) (by decide) (by decide)))
                · intro c75
                  refine ev_r_iload (pc := 112) (k := 7) (v := Int32.ofInt x46) (by decide +kernel) (by exact (ev_lk_st1 ev_lk_st1_self (by decide) rfl)) ?_
                  refine ev_r_stat (pc := 114) (y := 401) (kind := 2) (mi := 229) (na := 1) (as := [.int (Int32.ofInt x46)]) (rest := []) (encc := ev_oI) (Q := ev_rng) (fun x S1 h => jt_229 d (by omega) Q x46 hx46 s29 x S1 h) (Or.inl rfl) (by decide +kernel) (by decide +kernel) (by decide +kernel) (by decide +kernel) rfl (by (try simp only [ev_sum, ev_nv_cat]); first | done | rfl) ?_
                  intro x77 s76 hx77
                  show ev_w _ _ _ _ _ [.int (Int32.ofInt x77)] _ _ _ _
                  refine ev_r_iload (pc := 117) (k := 8) (v := Int32.ofInt x49) (by decide +kernel) (by exact ev_lk_st1_self) ?_
                  refine ev_r_icmp (pc := 119) (q := .ne) (o := 7) (t := 126) (c := x77 ≠ x49) (by decide +kernel) (ev_k_ne hx77 hx49) (by decide +kernel) ?_ ?_
                  · intro c78
                    exact hK126  s76 _ (by exact (ev_l1 (ev_l1 e23 (by decide) (by decide)) (by decide) (by decide))) (by exact (ev_l1 (ev_l1 e24 (by decide) (by decide)) (by decide) (by decide))) (by exact (ev_l1 (ev_l1 e25 (by decide) (by decide)) (by decide) (by decide))) (by exact (ev_l1 (ev_l1 e26 (by decide) (by decide)) (by decide) (by decide))) (by exact (ev_l1 (ev_lk_st1 e28 (by decide) rfl) (by decide) (by decide)))
                  · intro c78
                    exact hK122  s76 _ (by exact (ev_l1 (ev_l1 e23 (by decide) (by decide)) (by decide) (by decide))) (by exact (ev_l1 (ev_l1 e24 (by decide) (by decide)) (by decide) (by decide))) (by exact (ev_l1 (ev_l1 e25 (by decide) (by decide)) (by decide) (by decide))) (by exact (ev_l1 (ev_l1 e26 (by decide) (by decide)) (by decide) (by decide))) (by exact (ev_l1 (ev_lk_st1 e28 (by decide) rfl) (by decide) (by decide)))
theorem jlt_296_59 (d : Nat) (hd : 5 ≤ d + 1) (Q : Nat) (a0 : Int) (x11 : Int) (x12 : Int) (ha0 : ev_rng a0) (hx11 : ev_rng x11) (hx12 : ev_rng x12)   : ∀ q : Nat, ∀ (x20 : Int) (hx20 : ev_rng x20), ∀ (x21 : Int) (hx21 : ev_rng x21), ∀ (s29 : ev_St) (w22 : List (Nat × Value)), ev_lk w22 0 = some (.ref 621) → ev_lk w22 1 = some (.int (Int32.ofInt a0)) → ev_lk w22 3 = some (.int (Int32.ofInt x11)) → ev_lk w22 4 = some (.int (Int32.ofInt x12)) → ev_lk w22 5 = some (.int (Int32.ofInt x20)) → ev_lk w22 6 = some (.int (Int32.ofInt x21)) → ev_w none (ev_Mof 296) d 59 w22 [] s29 (jl_296_59 Q a0 x11 x12  q x20 x21 s29) ev_eI ev_bl := by
  intro q
  induction q with
  | zero =>
    intro x20 hx20 x21 hx21 s29 w22 e23 e24 e25 e26 e27 e28
    exact ev_w_none
  | succ q ih => exact jbt_296_59 d hd Q a0 x11 x12 ha0 hx11 hx12   _ ih
/-- MendBenchModel.passes(I)Z -/
def jm_296 (Q : Nat) (a0 : Int) (S : ev_St) : Option ((Int) × ev_St) := ev_if ((0 : Int) ≤ a0 ∧ a0 < (ev_aln 628 : Int)) (ev_b (S.1 628 (Int.toNat a0)) fun x1 => ev_bd (jm_294 Q x1 S) fun x3 s2 => if x3 ≠ (-1) then (ev_if ((0 : Int) ≤ x3 ∧ x3 < (ev_aln 697 : Int)) (ev_b (s2.1 697 (Int.toNat x3)) fun x5 => ev_if ((0 : Int) ≤ x3 ∧ x3 < (ev_aln 698 : Int)) (ev_b (s2.1 698 (Int.toNat x3)) fun x6 => ev_ck (x6 - x5) fun x7 => ev_b (s2.1 621 81) fun x8 => ev_ck (x8 + x7) fun x9 => ev_b (s2.1 621 73) fun x10 => ev_jn (fun (x11 : Int) (x12 : Int) (x13 : Int) (s19 : ev_St) => jl_296_59 Q a0 x11 x12  Q x13 0 s19) fun K54 => if x10 < x9 then (K54 x5 x7 0 s2) else (K54 x5 x7 1 s2)))) else (some (0, s2)))
theorem jt_296 (d : Nat) (hd : 5 ≤ d) (Q : Nat) (a0 : Int) (ha0 : ev_rng a0) (S : ev_St) (x : Int) (S' : ev_St) (hJ : jm_296 Q a0 S = some (x, S')) : ev_Ref d 296 [.ref 621, .int (Int32.ofInt a0)] S (ev_eI x) S' (ev_bl x) := by
  obtain ⟨d, rfl⟩ : ∃ e, d = e + 1 := ⟨d - 1, by omega⟩
  refine ev_ref_of (P := ev_bl) (lv := [(0, .ref 621), (1, .int (Int32.ofInt a0))]) (by decide +kernel) (by (try simp only [ev_sum, ev_nv_cat]); first | done | rfl) (by (try simp only [lv_args, ev_nv_cat]); first | done | rfl) ?_ x S' hJ
  unfold jm_296
  refine ev_r_aload_n (pc := 0) (k := 0) (v := .ref 621) trivial (by decide +kernel) (by rfl) ?_
  refine ev_r_aload_n (pc := 1) (k := 0) (v := .ref 621) trivial (by decide +kernel) (by rfl) ?_
  refine ev_r_getC (pc := 2) (y := 28) (ci := 13) (f := 9) (fin := 1) (k' := 628) (by decide +kernel) (by decide +kernel) (by exact ev_ob_621) rfl rfl ?_
  refine ev_r_iload_n (pc := 5) (k := 1) (v := Int32.ofInt a0) (by decide +kernel) (by rfl) ?_
  refine ev_r_iald (pc := 6) ha0 (by decide +kernel) (by exact ev_ab_628) ?_
  intro x1 hx1
  refine ev_r_virt (pc := 7) (y := 603) (mi := 294) (na := 1) (k := 621) (as := [.int (Int32.ofInt x1)]) (rest := []) (encc := ev_oI) (Q := ev_rng) (fun x S1 h => jt_294 d (by omega) Q x1 hx1 S x S1 h) (by exact ev_ob_621) (by decide +kernel) (by decide +kernel) (by decide +kernel) (by decide +kernel) rfl (by (try simp only [ev_sum, ev_nv_cat]); first | done | rfl) ?_
  intro x3 s2 hx3
  show ev_w _ _ _ _ _ [.int (Int32.ofInt x3)] _ _ _ _
  refine ev_r_istore_n (pc := 10) (k := 2) (by decide +kernel) (by decide +kernel) rfl ?_
  refine ev_r_iload_n (pc := 11) (k := 2) (v := Int32.ofInt x3) (by decide +kernel) (by exact ev_lk_st1_self) ?_
  refine ev_r_iconst (pc := 12) (k := -1) (by decide +kernel) ?_
  refine ev_r_icmp (pc := 13) (q := .ne) (o := 5) (t := 18) (c := x3 ≠ (-1)) (by decide +kernel) (ev_k_ne hx3 (by decide)) (by decide +kernel) ?_ ?_
  · intro c4
    refine ev_r_aload_n (pc := 18) (k := 0) (v := .ref 621) trivial (by decide +kernel) (by exact (ev_l1 (by rfl) (by decide) (by decide))) ?_
    refine ev_r_getC (pc := 19) (y := 240) (ci := 13) (f := 107) (fin := 1) (k' := 697) (by decide +kernel) (by decide +kernel) (by exact ev_ob_621) rfl rfl ?_
    refine ev_r_iload_n (pc := 22) (k := 2) (v := Int32.ofInt x3) (by decide +kernel) (by exact ev_lk_st1_self) ?_
    refine ev_r_iald (pc := 23) hx3 (by decide +kernel) (by exact ev_ab_697) ?_
    intro x5 hx5
    refine ev_r_istore_n (pc := 24) (k := 3) (by decide +kernel) (by decide +kernel) rfl ?_
    refine ev_r_aload_n (pc := 25) (k := 0) (v := .ref 621) trivial (by decide +kernel) (by exact (ev_l1 (ev_l1 (by rfl) (by decide) (by decide)) (by decide) (by decide))) ?_
    refine ev_r_getC (pc := 26) (y := 243) (ci := 13) (f := 108) (fin := 1) (k' := 698) (by decide +kernel) (by decide +kernel) (by exact ev_ob_621) rfl rfl ?_
    refine ev_r_iload_n (pc := 29) (k := 2) (v := Int32.ofInt x3) (by decide +kernel) (by exact (ev_lk_st1 ev_lk_st1_self (by decide) rfl)) ?_
    refine ev_r_iald (pc := 30) hx3 (by decide +kernel) (by exact ev_ab_698) ?_
    intro x6 hx6
    refine ev_r_iload_n (pc := 31) (k := 3) (v := Int32.ofInt x5) (by decide +kernel) (by exact ev_lk_st1_self) ?_
    refine ev_r_isub (pc := 32) (by decide +kernel) ?_
    intro x7 hx7
    refine ev_r_istore (pc := 33) (k := 4) (by decide +kernel) (by decide +kernel) rfl ?_
    refine ev_r_aload_n (pc := 35) (k := 0) (v := .ref 621) trivial (by decide +kernel) (by exact (ev_l1 (ev_l1 (ev_l1 (by rfl) (by decide) (by decide)) (by decide) (by decide)) (by decide) (by decide))) ?_
    refine ev_r_getI (pc := 36) (y := 582) (ci := 13) (f := 81) (fin := 0) (by decide +kernel) (by decide +kernel) (by exact ev_ob_621) rfl ?_
    intro x8 hx8
    refine ev_r_iload (pc := 39) (k := 4) (v := Int32.ofInt x7) (by decide +kernel) (by exact ev_lk_st1_self) ?_
    refine ev_r_iadd (pc := 41) (by decide +kernel) ?_
    intro x9 hx9
    refine ev_r_aload_n (pc := 42) (k := 0) (v := .ref 621) trivial (by decide +kernel) (by exact (ev_l1 (ev_l1 (ev_l1 (by rfl) (by decide) (by decide)) (by decide) (by decide)) (by decide) (by decide))) ?_
    refine ev_r_getI (pc := 43) (y := 567) (ci := 13) (f := 73) (fin := 0) (by decide +kernel) (by decide +kernel) (by exact ev_ob_621) rfl ?_
    intro x10 hx10
    refine ev_r_jn (Q := fun K => ∀ (x11 : Int) (hx11 : ev_rng x11), ∀ (x12 : Int) (hx12 : ev_rng x12), ∀ (x13 : Int) (hx13 : ev_rng x13), ∀ (s19 : ev_St) (w14 : List (Nat × Value)), ev_lk w14 0 = some (.ref 621) → ev_lk w14 1 = some (.int (Int32.ofInt a0)) → ev_lk w14 3 = some (.int (Int32.ofInt x11)) → ev_lk w14 4 = some (.int (Int32.ofInt x12)) → ev_w none (ev_Mof 296) d 54 w14 [.int (Int32.ofInt x13)] s19 (K x11 x12 x13 s19) ev_eI ev_bl) ?_ ?_
    · intro x11 hx11 x12 hx12 x13 hx13 s19 w14 e15 e16 e17 e18
      refine ev_r_istore (pc := 54) (k := 5) (by decide +kernel) (by decide +kernel) rfl ?_
      refine ev_r_iconst (pc := 56) (k := 0) (by decide +kernel) ?_
      refine ev_r_istore (pc := 57) (k := 6) (by decide +kernel) (by decide +kernel) rfl ?_
      exact jlt_296_59 d hd Q a0 x11 x12 ha0 hx11 hx12   Q x13 hx13 0 (by decide) s19 _ (by exact (ev_l1 (ev_l1 e15 (by decide) (by decide)) (by decide) (by decide))) (by exact (ev_l1 (ev_l1 e16 (by decide) (by decide)) (by decide) (by decide))) (by exact (ev_l1 (ev_l1 e17 (by decide) (by decide)) (by decide) (by decide))) (by exact (ev_l1 (ev_lk_st1 e18 (by decide) rfl) (by decide) (by decide))) (by exact (ev_lk_st1 ev_lk_st1_self (by decide) rfl)) (by exact ev_lk_st1_self)
    · intro K54 hK54
      refine ev_r_icmp (pc := 46) (q := .gt) (o := 7) (t := 53) (c := x10 < x9) (by decide +kernel) (ev_k_gt hx9 hx10) (by decide +kernel) ?_ ?_
      · intro c79
        refine ev_r_iconst (pc := 53) (k := 0) (by decide +kernel) ?_
        exact hK54 x5 hx5 x7 hx7 0 (by decide) s2 _ (by exact (ev_l1 (ev_l1 (ev_l1 (by rfl) (by decide) (by decide)) (by decide) (by decide)) (by decide) (by decide))) (by exact (ev_l1 (ev_l1 (ev_lk_st1 (by rfl) (by decide) rfl) (by decide) (by decide)) (by decide) (by decide))) (by exact (ev_lk_st1 ev_lk_st1_self (by decide) rfl)) (by exact ev_lk_st1_self)
      · intro c79
        refine ev_r_iconst (pc := 49) (k := 1) (by decide +kernel) ?_
        refine ev_r_goto (pc := 50) (o := 4) (t := 54) (by decide +kernel) (by decide +kernel) ?_
        exact hK54 x5 hx5 x7 hx7 1 (by decide) s2 _ (by exact (ev_l1 (ev_l1 (ev_l1 (by rfl) (by decide) (by decide)) (by decide) (by decide)) (by decide) (by decide))) (by exact (ev_l1 (ev_l1 (ev_lk_st1 (by rfl) (by decide) rfl) (by decide) (by decide)) (by decide) (by decide))) (by exact (ev_lk_st1 ev_lk_st1_self (by decide) rfl)) (by exact ev_lk_st1_self)
  · intro c4
    refine ev_r_iconst (pc := 16) (k := 0) (by decide +kernel) ?_
    exact ev_r_ireturn (pc := 17) (x := 0) (v := Int32.ofInt 0) (ty := .boolean) (by decide : ev_bl 0) (by decide +kernel) (by decide +kernel) (ev_ret_bl (by decide : ev_bl 0)) rfl
/-- MendBenchModel.looksBehind(II)V -/
def jm_297 (Q : Nat) (a0 : Int) (a1 : Int) (S : ev_St) : Option ((Unit) × ev_St) := ev_bd (jm_292 Q 5 a0 a1 S) fun _ s1 => ev_bd (jm_290 Q  s1) fun _ s2 => ev_b (s2.1 621 95) fun x3 => ev_ck (x3 - 1) fun x4 => ev_b (s2.1 621 83) fun x5 => ev_b (s2.1 621 84) fun x6 => ev_bd (jm_291 Q 7 a0 x4 ((-1)) x5 x6 s2) fun x8 s7 => ev_b (ev_pI s7 621 83 x8) fun s9 => ev_b (ev_pI s9 621 81 a1) fun s10 => ev_b (s10.1 621 84) fun x11 => ev_ck (x11 + 64) fun x12 => ev_b (ev_pI s10 621 84 x12) fun s13 => ev_b (ev_pI s13 621 80 a0) fun s14 => ev_b (ev_pI s14 621 78 3) fun s15 => some ((), s15)
theorem jt_297 (d : Nat) (hd : 2 ≤ d) (Q : Nat) (a0 : Int) (a1 : Int) (ha0 : ev_rng a0) (ha1 : ev_rng a1) (S : ev_St) (x : Unit) (S' : ev_St) (hJ : jm_297 Q a0 a1 S = some (x, S')) : ev_Ref d 297 [.ref 621, .int (Int32.ofInt a0), .int (Int32.ofInt a1)] S (ev_eU x) S' (ev_PU x) := by
  obtain ⟨d, rfl⟩ : ∃ e, d = e + 1 := ⟨d - 1, by omega⟩
  refine ev_ref_of (P := ev_PU) (lv := [(0, .ref 621), (1, .int (Int32.ofInt a0)), (2, .int (Int32.ofInt a1))]) (by decide +kernel) (by (try simp only [ev_sum, ev_nv_cat]); first | done | rfl) (by (try simp only [lv_args, ev_nv_cat]); first | done | rfl) ?_ x S' hJ
  unfold jm_297
  refine ev_r_aload_n (pc := 0) (k := 0) (v := .ref 621) trivial (by decide +kernel) (by rfl) ?_
  refine ev_r_iconst (pc := 1) (k := 5) (by decide +kernel) ?_
  refine ev_r_iload_n (pc := 2) (k := 1) (v := Int32.ofInt a0) (by decide +kernel) (by rfl) ?_
  refine ev_r_iload_n (pc := 3) (k := 2) (v := Int32.ofInt a1) (by decide +kernel) (by rfl) ?_
  refine ev_r_virt (pc := 4) (y := 606) (mi := 292) (na := 3) (k := 621) (as := [.int (Int32.ofInt 5), .int (Int32.ofInt a0), .int (Int32.ofInt a1)]) (rest := []) (encc := ev_oU) (Q := ev_PU) (fun x S1 h => jt_292 d (by omega) Q 5 a0 a1 (by decide) ha0 ha1 S x S1 h) (by exact ev_ob_621) (by decide +kernel) (by decide +kernel) (by decide +kernel) (by decide +kernel) rfl (by (try simp only [ev_sum, ev_nv_cat]); first | done | rfl) ?_
  intro _ s1 _
  show ev_w _ _ _ _ _ [] _ _ _ _
  refine ev_r_aload_n (pc := 7) (k := 0) (v := .ref 621) trivial (by decide +kernel) (by rfl) ?_
  refine ev_r_virt (pc := 8) (y := 610) (mi := 290) (na := 0) (k := 621) (as := []) (rest := []) (encc := ev_oU) (Q := ev_PU) (fun x S1 h => jt_290 d (by omega) Q   s1 x S1 h) (by exact ev_ob_621) (by decide +kernel) (by decide +kernel) (by decide +kernel) (by decide +kernel) rfl (by (try simp only [ev_sum, ev_nv_cat]); first | done | rfl) ?_
  intro _ s2 _
  show ev_w _ _ _ _ _ [] _ _ _ _
  refine ev_r_aload_n (pc := 11) (k := 0) (v := .ref 621) trivial (by decide +kernel) (by rfl) ?_
  refine ev_r_aload_n (pc := 12) (k := 0) (v := .ref 621) trivial (by decide +kernel) (by rfl) ?_
  refine ev_r_bipush (pc := 13) (k := 7) (by decide +kernel) (by decide +kernel) ?_
  refine ev_r_iload_n (pc := 15) (k := 1) (v := Int32.ofInt a0) (by decide +kernel) (by rfl) ?_
  refine ev_r_aload_n (pc := 16) (k := 0) (v := .ref 621) trivial (by decide +kernel) (by rfl) ?_
  refine ev_r_getI (pc := 17) (y := 579) (ci := 13) (f := 95) (fin := 0) (by decide +kernel) (by decide +kernel) (by exact ev_ob_621) rfl ?_
  intro x3 hx3
  refine ev_r_iconst (pc := 20) (k := 1) (by decide +kernel) ?_
  refine ev_r_isub (pc := 21) (by decide +kernel) ?_
  intro x4 hx4
  refine ev_r_iconst (pc := 22) (k := -1) (by decide +kernel) ?_
  refine ev_r_aload_n (pc := 23) (k := 0) (v := .ref 621) trivial (by decide +kernel) (by rfl) ?_
  refine ev_r_getI (pc := 24) (y := 588) (ci := 13) (f := 83) (fin := 0) (by decide +kernel) (by decide +kernel) (by exact ev_ob_621) rfl ?_
  intro x5 hx5
  refine ev_r_aload_n (pc := 27) (k := 0) (v := .ref 621) trivial (by decide +kernel) (by rfl) ?_
  refine ev_r_getI (pc := 28) (y := 591) (ci := 13) (f := 84) (fin := 0) (by decide +kernel) (by decide +kernel) (by exact ev_ob_621) rfl ?_
  intro x6 hx6
  refine ev_r_virt (pc := 31) (y := 613) (mi := 291) (na := 6) (k := 621) (as := [.int (Int32.ofInt 7), .int (Int32.ofInt a0), .int (Int32.ofInt x4), .int (Int32.ofInt ((-1))), .int (Int32.ofInt x5), .int (Int32.ofInt x6)]) (rest := [.ref 621]) (encc := ev_oI) (Q := ev_rng) (fun x S1 h => jt_291 d (by omega) Q 7 a0 x4 ((-1)) x5 x6 (by decide) ha0 hx4 (by decide) hx5 hx6 s2 x S1 h) (by exact ev_ob_621) (by decide +kernel) (by decide +kernel) (by decide +kernel) (by decide +kernel) rfl (by (try simp only [ev_sum, ev_nv_cat]); first | done | rfl) ?_
  intro x8 s7 hx8
  show ev_w _ _ _ _ _ [.int (Int32.ofInt x8), .ref 621] _ _ _ _
  refine ev_r_putI (pc := 34) (y := 588) (ci := 13) (f := 83) hx8 (by decide +kernel) (by decide +kernel) (by exact ev_ob_621) rfl rfl ?_
  intro s9
  refine ev_r_aload_n (pc := 37) (k := 0) (v := .ref 621) trivial (by decide +kernel) (by rfl) ?_
  refine ev_r_iload_n (pc := 38) (k := 2) (v := Int32.ofInt a1) (by decide +kernel) (by rfl) ?_
  refine ev_r_putI (pc := 39) (y := 582) (ci := 13) (f := 81) ha1 (by decide +kernel) (by decide +kernel) (by exact ev_ob_621) rfl rfl ?_
  intro s10
  refine ev_r_aload_n (pc := 42) (k := 0) (v := .ref 621) trivial (by decide +kernel) (by rfl) ?_
  refine ev_r_dup (pc := 43) rfl (by decide +kernel) ?_
  refine ev_r_getI (pc := 44) (y := 591) (ci := 13) (f := 84) (fin := 0) (by decide +kernel) (by decide +kernel) (by exact ev_ob_621) rfl ?_
  intro x11 hx11
  refine ev_r_bipush (pc := 47) (k := 64) (by decide +kernel) (by decide +kernel) ?_
  refine ev_r_iadd (pc := 49) (by decide +kernel) ?_
  intro x12 hx12
  refine ev_r_putI (pc := 50) (y := 591) (ci := 13) (f := 84) hx12 (by decide +kernel) (by decide +kernel) (by exact ev_ob_621) rfl rfl ?_
  intro s13
  refine ev_r_aload_n (pc := 53) (k := 0) (v := .ref 621) trivial (by decide +kernel) (by rfl) ?_
  refine ev_r_iload_n (pc := 54) (k := 1) (v := Int32.ofInt a0) (by decide +kernel) (by rfl) ?_
  refine ev_r_putI (pc := 55) (y := 597) (ci := 13) (f := 80) ha0 (by decide +kernel) (by decide +kernel) (by exact ev_ob_621) rfl rfl ?_
  intro s14
  refine ev_r_aload_n (pc := 58) (k := 0) (v := .ref 621) trivial (by decide +kernel) (by rfl) ?_
  refine ev_r_iconst (pc := 59) (k := 3) (by decide +kernel) ?_
  refine ev_r_putI (pc := 60) (y := 617) (ci := 13) (f := 78) (by decide) (by decide +kernel) (by decide +kernel) (by exact ev_ob_621) rfl rfl ?_
  intro s15
  exact ev_r_return (pc := 63) (x := ()) trivial (by decide +kernel) (by decide +kernel) rfl
/-- MendBenchModel.shutsIn(IIII)V -/
def jm_298 (Q : Nat) (a0 : Int) (a1 : Int) (a2 : Int) (a3 : Int) (S : ev_St) : Option ((Unit) × ev_St) := ev_bd (jm_290 Q  S) fun _ s1 => ev_b (s1.1 621 84) fun x2 => ev_if (64 ≠ 0) (ev_b (ev_idiv x2 64) fun x3 => if x3 < 40 then (ev_if ((0 : Int) ≤ a0 ∧ a0 < (ev_aln 629 : Int)) (ev_b (s1.1 629 (Int.toNat a0)) fun x5 => ev_bd (jm_292 Q a1 a0 x5 s1) fun _ s6 => ev_b (s6.1 621 95) fun x7 => ev_ck (x7 - 1) fun x8 => ev_b (s6.1 621 83) fun x9 => ev_b (s6.1 621 84) fun x10 => ev_bd (jm_291 Q a2 a0 x8 ((-1)) x9 x10 s6) fun x12 s11 => ev_b (ev_pI s11 621 83 x12) fun s13 => ev_b (s13.1 621 84) fun x14 => ev_ck (x14 + 64) fun x15 => ev_b (ev_pI s13 621 84 x15) fun s16 => ev_b (ev_pI s16 621 80 a0) fun s17 => ev_b (ev_pI s17 621 78 a3) fun s18 => some ((), s18))) else (ev_b (ev_pI s1 621 78 5) fun s19 => some ((), s19)))
theorem jt_298 (d : Nat) (hd : 2 ≤ d) (Q : Nat) (a0 : Int) (a1 : Int) (a2 : Int) (a3 : Int) (ha0 : ev_rng a0) (ha1 : ev_rng a1) (ha2 : ev_rng a2) (ha3 : ev_rng a3) (S : ev_St) (x : Unit) (S' : ev_St) (hJ : jm_298 Q a0 a1 a2 a3 S = some (x, S')) : ev_Ref d 298 [.ref 621, .int (Int32.ofInt a0), .int (Int32.ofInt a1), .int (Int32.ofInt a2), .int (Int32.ofInt a3)] S (ev_eU x) S' (ev_PU x) := by
  obtain ⟨d, rfl⟩ : ∃ e, d = e + 1 := ⟨d - 1, by omega⟩
  refine ev_ref_of (P := ev_PU) (lv := [(0, .ref 621), (1, .int (Int32.ofInt a0)), (2, .int (Int32.ofInt a1)), (3, .int (Int32.ofInt a2)), (4, .int (Int32.ofInt a3))]) (by decide +kernel) (by (try simp only [ev_sum, ev_nv_cat]); first | done | rfl) (by (try simp only [lv_args, ev_nv_cat]); first | done | rfl) ?_ x S' hJ
  unfold jm_298
  refine ev_r_aload_n (pc := 0) (k := 0) (v := .ref 621) trivial (by decide +kernel) (by rfl) ?_
  refine ev_r_virt (pc := 1) (y := 610) (mi := 290) (na := 0) (k := 621) (as := []) (rest := []) (encc := ev_oU) (Q := ev_PU) (fun x S1 h => jt_290 d (by omega) Q   S x S1 h) (by exact ev_ob_621) (by decide +kernel) (by decide +kernel) (by decide +kernel) (by decide +kernel) rfl (by (try simp only [ev_sum, ev_nv_cat]); first | done | rfl) ?_
  intro _ s1 _
  show ev_w _ _ _ _ _ [] _ _ _ _
  refine ev_r_aload_n (pc := 4) (k := 0) (v := .ref 621) trivial (by decide +kernel) (by rfl) ?_
  refine ev_r_getI (pc := 5) (y := 591) (ci := 13) (f := 84) (fin := 0) (by decide +kernel) (by decide +kernel) (by exact ev_ob_621) rfl ?_
  intro x2 hx2
  refine ev_r_bipush (pc := 8) (k := 64) (by decide +kernel) (by decide +kernel) ?_
  refine ev_r_idiv (pc := 10) (by decide) (by decide +kernel) ?_
  intro x3 hx3
  refine ev_r_bipush (pc := 11) (k := 40) (by decide +kernel) (by decide +kernel) ?_
  refine ev_r_icmp (pc := 13) (q := .lt) (o := 9) (t := 22) (c := x3 < 40) (by decide +kernel) (ev_k_lt hx3 (by decide)) (by decide +kernel) ?_ ?_
  · intro c4
    refine ev_r_aload_n (pc := 22) (k := 0) (v := .ref 621) trivial (by decide +kernel) (by rfl) ?_
    refine ev_r_iload_n (pc := 23) (k := 2) (v := Int32.ofInt a1) (by decide +kernel) (by rfl) ?_
    refine ev_r_iload_n (pc := 24) (k := 1) (v := Int32.ofInt a0) (by decide +kernel) (by rfl) ?_
    refine ev_r_aload_n (pc := 25) (k := 0) (v := .ref 621) trivial (by decide +kernel) (by rfl) ?_
    refine ev_r_getC (pc := 26) (y := 31) (ci := 13) (f := 10) (fin := 1) (k' := 629) (by decide +kernel) (by decide +kernel) (by exact ev_ob_621) rfl rfl ?_
    refine ev_r_iload_n (pc := 29) (k := 1) (v := Int32.ofInt a0) (by decide +kernel) (by rfl) ?_
    refine ev_r_iald (pc := 30) ha0 (by decide +kernel) (by exact ev_ab_629) ?_
    intro x5 hx5
    refine ev_r_virt (pc := 31) (y := 606) (mi := 292) (na := 3) (k := 621) (as := [.int (Int32.ofInt a1), .int (Int32.ofInt a0), .int (Int32.ofInt x5)]) (rest := []) (encc := ev_oU) (Q := ev_PU) (fun x S1 h => jt_292 d (by omega) Q a1 a0 x5 ha1 ha0 hx5 s1 x S1 h) (by exact ev_ob_621) (by decide +kernel) (by decide +kernel) (by decide +kernel) (by decide +kernel) rfl (by (try simp only [ev_sum, ev_nv_cat]); first | done | rfl) ?_
    intro _ s6 _
    show ev_w _ _ _ _ _ [] _ _ _ _
    refine ev_r_aload_n (pc := 34) (k := 0) (v := .ref 621) trivial (by decide +kernel) (by rfl) ?_
    refine ev_r_aload_n (pc := 35) (k := 0) (v := .ref 621) trivial (by decide +kernel) (by rfl) ?_
    refine ev_r_iload_n (pc := 36) (k := 3) (v := Int32.ofInt a2) (by decide +kernel) (by rfl) ?_
    refine ev_r_iload_n (pc := 37) (k := 1) (v := Int32.ofInt a0) (by decide +kernel) (by rfl) ?_
    refine ev_r_aload_n (pc := 38) (k := 0) (v := .ref 621) trivial (by decide +kernel) (by rfl) ?_
    refine ev_r_getI (pc := 39) (y := 579) (ci := 13) (f := 95) (fin := 0) (by decide +kernel) (by decide +kernel) (by exact ev_ob_621) rfl ?_
    intro x7 hx7
    refine ev_r_iconst (pc := 42) (k := 1) (by decide +kernel) ?_
    refine ev_r_isub (pc := 43) (by decide +kernel) ?_
    intro x8 hx8
    refine ev_r_iconst (pc := 44) (k := -1) (by decide +kernel) ?_
    refine ev_r_aload_n (pc := 45) (k := 0) (v := .ref 621) trivial (by decide +kernel) (by rfl) ?_
    refine ev_r_getI (pc := 46) (y := 588) (ci := 13) (f := 83) (fin := 0) (by decide +kernel) (by decide +kernel) (by exact ev_ob_621) rfl ?_
    intro x9 hx9
    refine ev_r_aload_n (pc := 49) (k := 0) (v := .ref 621) trivial (by decide +kernel) (by rfl) ?_
    refine ev_r_getI (pc := 50) (y := 591) (ci := 13) (f := 84) (fin := 0) (by decide +kernel) (by decide +kernel) (by exact ev_ob_621) rfl ?_
    intro x10 hx10
    refine ev_r_virt (pc := 53) (y := 613) (mi := 291) (na := 6) (k := 621) (as := [.int (Int32.ofInt a2), .int (Int32.ofInt a0), .int (Int32.ofInt x8), .int (Int32.ofInt ((-1))), .int (Int32.ofInt x9), .int (Int32.ofInt x10)]) (rest := [.ref 621]) (encc := ev_oI) (Q := ev_rng) (fun x S1 h => jt_291 d (by omega) Q a2 a0 x8 ((-1)) x9 x10 ha2 ha0 hx8 (by decide) hx9 hx10 s6 x S1 h) (by exact ev_ob_621) (by decide +kernel) (by decide +kernel) (by decide +kernel) (by decide +kernel) rfl (by (try simp only [ev_sum, ev_nv_cat]); first | done | rfl) ?_
    intro x12 s11 hx12
    show ev_w _ _ _ _ _ [.int (Int32.ofInt x12), .ref 621] _ _ _ _
    refine ev_r_putI (pc := 56) (y := 588) (ci := 13) (f := 83) hx12 (by decide +kernel) (by decide +kernel) (by exact ev_ob_621) rfl rfl ?_
    intro s13
    refine ev_r_aload_n (pc := 59) (k := 0) (v := .ref 621) trivial (by decide +kernel) (by rfl) ?_
    refine ev_r_dup (pc := 60) rfl (by decide +kernel) ?_
    refine ev_r_getI (pc := 61) (y := 591) (ci := 13) (f := 84) (fin := 0) (by decide +kernel) (by decide +kernel) (by exact ev_ob_621) rfl ?_
    intro x14 hx14
    refine ev_r_bipush (pc := 64) (k := 64) (by decide +kernel) (by decide +kernel) ?_
    refine ev_r_iadd (pc := 66) (by decide +kernel) ?_
    intro x15 hx15
    refine ev_r_putI (pc := 67) (y := 591) (ci := 13) (f := 84) hx15 (by decide +kernel) (by decide +kernel) (by exact ev_ob_621) rfl rfl ?_
    intro s16
    refine ev_r_aload_n (pc := 70) (k := 0) (v := .ref 621) trivial (by decide +kernel) (by rfl) ?_
    refine ev_r_iload_n (pc := 71) (k := 1) (v := Int32.ofInt a0) (by decide +kernel) (by rfl) ?_
    refine ev_r_putI (pc := 72) (y := 597) (ci := 13) (f := 80) ha0 (by decide +kernel) (by decide +kernel) (by exact ev_ob_621) rfl rfl ?_
    intro s17
    refine ev_r_aload_n (pc := 75) (k := 0) (v := .ref 621) trivial (by decide +kernel) (by rfl) ?_
    refine ev_r_iload (pc := 76) (k := 4) (v := Int32.ofInt a3) (by decide +kernel) (by rfl) ?_
    refine ev_r_putI (pc := 78) (y := 617) (ci := 13) (f := 78) ha3 (by decide +kernel) (by decide +kernel) (by exact ev_ob_621) rfl rfl ?_
    intro s18
    exact ev_r_return (pc := 81) (x := ()) trivial (by decide +kernel) (by decide +kernel) rfl
  · intro c4
    refine ev_r_aload_n (pc := 16) (k := 0) (v := .ref 621) trivial (by decide +kernel) (by rfl) ?_
    refine ev_r_iconst (pc := 17) (k := 5) (by decide +kernel) ?_
    refine ev_r_putI (pc := 18) (y := 617) (ci := 13) (f := 78) (by decide) (by decide +kernel) (by decide +kernel) (by exact ev_ob_621) rfl rfl ?_
    intro s19
    exact ev_r_return (pc := 21) (x := ()) trivial (by decide +kernel) (by decide +kernel) rfl
/-- MendBenchModel.atomOf(I)V -/
def jm_299 (Q : Nat) (a0 : Int) (S : ev_St) : Option ((Unit) × ev_St) := ev_if ((0 : Int) ≤ a0 ∧ a0 < (ev_aln 625 : Int)) (ev_b (S.1 625 (Int.toNat a0)) fun x1 => ev_b (ev_pI S 621 78 5) fun s2 => if x1 ≠ 0 then (if 7 ≤ x1 then (if x1 ≠ 7 then (if x1 ≠ 8 then (if x1 ≠ 9 then (if x1 ≠ 10 then (if x1 ≠ 11 then (if x1 ≠ 12 then (if x1 ≠ 13 then (if x1 ≠ 14 then (if x1 ≠ 15 then (ev_bd (jm_290 Q  s2) fun _ s14 => ev_jn (fun (x15 : Int) (s19 : ev_St) => ev_bd (jm_292 Q x15 a0 0 s19) fun _ s20 => ev_b (ev_pI s20 621 78 4) fun s21 => some ((), s21)) fun K479 => if x1 ≠ 16 then (K479 7 s14) else (K479 6 s14)) else (ev_bd (jm_290 Q  s2) fun _ s23 => some ((), s23))) else (ev_bd (jm_290 Q  s2) fun _ s24 => ev_b (s24.1 621 84) fun x25 => ev_if (64 ≠ 0) (ev_b (ev_irem x25 64) fun x26 => if 20 ≤ x26 then (some ((), s24)) else (ev_b (s24.1 621 82) fun x28 => ev_b (s24.1 621 83) fun x29 => ev_b (s24.1 621 84) fun x30 => ev_bd (jm_291 Q 4 a0 0 x28 x29 x30 s24) fun x32 s31 => ev_b (ev_pI s31 621 83 x32) fun s33 => ev_b (s33.1 621 84) fun x34 => ev_ck (x34 + 1) fun x35 => ev_b (ev_pI s33 621 84 x35) fun s36 => ev_b (s36.1 621 79) fun x37 => ev_b (s36.1 621 79) fun x38 => ev_if (320 ≠ 0) (ev_b (ev_idiv x38 320) fun x39 => ev_ck (10 * x39) fun x40 => ev_if ((0 : Int) ≤ a0 ∧ a0 < (ev_aln 628 : Int)) (ev_b (s36.1 628 (Int.toNat a0)) fun x41 => ev_ck (x40 + x41) fun x42 => ev_if ((0 : Int) ≤ x42 ∧ x42 < (ev_aln 637 : Int)) (ev_b (s36.1 637 (Int.toNat x42)) fun x43 => ev_ck (x37 + x43) fun x44 => ev_b (ev_pI s36 621 80 x44) fun s45 => ev_b (ev_pI s45 621 78 3) fun s46 => some ((), s46)))))))) else (ev_bd (jm_290 Q  s2) fun _ s47 => ev_b (s47.1 621 79) fun x48 => ev_if ((0 : Int) ≤ a0 ∧ a0 < (ev_aln 626 : Int)) (ev_b (s47.1 626 (Int.toNat a0)) fun x49 => ev_ck (x48 + x49) fun x50 => ev_if ((0 : Int) ≤ x50 ∧ x50 < (ev_aln 627 : Int)) (ev_b (s47.1 627 (Int.toNat x50)) fun x51 => ev_jn (fun (x52 : Int) (x53 : Int) (s58 : ev_St) => ev_if ((0 : Int) ≤ a0 ∧ a0 < (ev_aln 628 : Int)) (ev_b (s58.1 628 (Int.toNat a0)) fun x59 => ev_bd (jm_294 Q x59 s58) fun x61 s60 => ev_jn (fun (x62 : Int) (s65 : ev_St) => ev_b (ev_pI s65 621 80 x62) fun s66 => ev_b (s66.1 621 80) fun x67 => if x67 ≠ (-1) then (ev_b (ev_pI s66 621 78 7) fun s69 => some ((), s69)) else (ev_b (ev_pI s66 621 78 4) fun s70 => some ((), s70))) fun K329 => if x61 = (-1) then (K329 x53 s60) else (K329 x52 s60))) fun K306 => if x51 ≠ (-1) then (ev_b (s47.1 621 79) fun x73 => ev_if ((0 : Int) ≤ x50 ∧ x50 < (ev_aln 627 : Int)) (ev_b (s47.1 627 (Int.toNat x50)) fun x74 => ev_ck (x73 + x74) fun x75 => K306 x50 x75 s47)) else (K306 x50 ((-1)) s47))))) else (ev_b (s2.1 621 84) fun x76 => ev_if (64 ≠ 0) (ev_b (ev_idiv x76 64) fun x77 => if x77 < 40 then (ev_b (s2.1 621 81) fun x79 => ev_bd (jm_297 Q a0 x79 s2) fun _ s80 => some ((), s80)) else (ev_bd (jm_290 Q  s2) fun _ s81 => some ((), s81))))) else (ev_bd (jm_298 Q a0 4 6 3 s2) fun _ s82 => some ((), s82))) else (ev_bd (jm_298 Q a0 3 5 3 s2) fun _ s83 => some ((), s83))) else (ev_b (ev_pI s2 621 78 3) fun s84 => some ((), s84))) else (ev_b (s2.1 621 81) fun x85 => ev_b (s2.1 621 83) fun x86 => ev_b (s2.1 621 84) fun x87 => ev_bd (jm_291 Q 2 a0 x85 ((-1)) x86 x87 s2) fun x89 s88 => ev_b (ev_pI s88 621 83 x89) fun s90 => ev_b (ev_pI s90 621 78 3) fun s91 => some ((), s91))) else (ev_bd (jm_290 Q  s2) fun _ s92 => ev_bd (jm_296 Q a0 s92) fun x94 s93 => if x94 = 0 then (ev_b (ev_pI s93 621 78 5) fun s96 => some ((), s96)) else (ev_b (ev_pI s93 621 78 4) fun s97 => some ((), s97)))) else (ev_bd (jm_290 Q  s2) fun _ s98 => ev_bd (jm_295 Q a0 s98) fun x100 s99 => if x100 = 0 then (ev_b (ev_pI s99 621 78 5) fun s102 => some ((), s102)) else (ev_b (ev_pI s99 621 78 4) fun s103 => some ((), s103)))) else (ev_bd (jm_290 Q  s2) fun _ s104 => ev_b (s104.1 621 81) fun x105 => ev_b (s104.1 621 73) fun x106 => if x106 ≤ x105 then (some ((), s104)) else (ev_if ((0 : Int) ≤ a0 ∧ a0 < (ev_aln 633 : Int)) (ev_b (s104.2.1 633 (Int.toNat a0)) fun y108 => ev_if ((0 : Int) ≤ a0 ∧ a0 < (ev_aln 634 : Int)) (ev_b (s104.2.1 634 (Int.toNat a0)) fun y109 => ev_b (s104.1 621 81) fun x110 => ev_if ((0 : Int) ≤ x110 ∧ x110 < (ev_aln 678 : Int)) (ev_b (s104.1 678 (Int.toNat x110)) fun x111 => ev_bd (jm_244 Q y108 y109 x111 s104) fun x113 s112 => if x113 = 0 then (some ((), s112)) else (ev_b (s112.1 621 81) fun x115 => ev_ck (x115 + 1) fun x116 => ev_b (ev_pI s112 621 81 x116) fun s117 => ev_b (ev_pI s117 621 78 4) fun s118 => some ((), s118))))))))
theorem jt_299 (d : Nat) (hd : 7 ≤ d) (Q : Nat) (a0 : Int) (ha0 : ev_rng a0) (S : ev_St) (x : Unit) (S' : ev_St) (hJ : jm_299 Q a0 S = some (x, S')) : ev_Ref d 299 [.ref 621, .int (Int32.ofInt a0)] S (ev_eU x) S' (ev_PU x) := by
  obtain ⟨d, rfl⟩ : ∃ e, d = e + 1 := ⟨d - 1, by omega⟩
  refine ev_ref_of (P := ev_PU) (lv := [(0, .ref 621), (1, .int (Int32.ofInt a0))]) (by decide +kernel) (by (try simp only [ev_sum, ev_nv_cat]); first | done | rfl) (by (try simp only [lv_args, ev_nv_cat]); first | done | rfl) ?_ x S' hJ
  unfold jm_299
  refine ev_r_aload_n (pc := 0) (k := 0) (v := .ref 621) trivial (by decide +kernel) (by rfl) ?_
  refine ev_r_getC (pc := 1) (y := 19) (ci := 13) (f := 6) (fin := 1) (k' := 625) (by decide +kernel) (by decide +kernel) (by exact ev_ob_621) rfl rfl ?_
  refine ev_r_iload_n (pc := 4) (k := 1) (v := Int32.ofInt a0) (by decide +kernel) (by rfl) ?_
  refine ev_r_iald (pc := 5) ha0 (by decide +kernel) (by exact ev_ab_625) ?_
  intro x1 hx1
  refine ev_r_istore_n (pc := 6) (k := 2) (by decide +kernel) (by decide +kernel) rfl ?_
  refine ev_r_aload_n (pc := 7) (k := 0) (v := .ref 621) trivial (by decide +kernel) (by exact (ev_l1 (by rfl) (by decide) (by decide))) ?_
  refine ev_r_iconst (pc := 8) (k := 5) (by decide +kernel) ?_
  refine ev_r_putI (pc := 9) (y := 617) (ci := 13) (f := 78) (by decide) (by decide +kernel) (by decide +kernel) (by exact ev_ob_621) rfl rfl ?_
  intro s2
  refine ev_r_iload_n (pc := 12) (k := 2) (v := Int32.ofInt x1) (by decide +kernel) (by exact ev_lk_st1_self) ?_
  refine ev_r_if (pc := 13) (q := .ne) (o := 63) (t := 76) (c := x1 ≠ 0) (by decide +kernel) (ev_k_ne hx1 ev_rng0) (by decide +kernel) ?_ ?_
  · intro c3
    refine ev_r_iload_n (pc := 76) (k := 2) (v := Int32.ofInt x1) (by decide +kernel) (by exact ev_lk_st1_self) ?_
    refine ev_r_bipush (pc := 77) (k := 7) (by decide +kernel) (by decide +kernel) ?_
    refine ev_r_icmp (pc := 79) (q := .ge) (o := 27) (t := 106) (c := 7 ≤ x1) (by decide +kernel) (ev_k_ge hx1 (by decide)) (by decide +kernel) ?_ ?_
    · intro c4
      refine ev_r_iload_n (pc := 106) (k := 2) (v := Int32.ofInt x1) (by decide +kernel) (by exact ev_lk_st1_self) ?_
      refine ev_r_bipush (pc := 107) (k := 7) (by decide +kernel) (by decide +kernel) ?_
      refine ev_r_icmp (pc := 109) (q := .ne) (o := 27) (t := 136) (c := x1 ≠ 7) (by decide +kernel) (ev_k_ne hx1 (by decide)) (by decide +kernel) ?_ ?_
      · intro c5
        refine ev_r_iload_n (pc := 136) (k := 2) (v := Int32.ofInt x1) (by decide +kernel) (by exact ev_lk_st1_self) ?_
        refine ev_r_bipush (pc := 137) (k := 8) (by decide +kernel) (by decide +kernel) ?_
        refine ev_r_icmp (pc := 139) (q := .ne) (o := 34) (t := 173) (c := x1 ≠ 8) (by decide +kernel) (ev_k_ne hx1 (by decide)) (by decide +kernel) ?_ ?_
        · intro c6
          refine ev_r_iload_n (pc := 173) (k := 2) (v := Int32.ofInt x1) (by decide +kernel) (by exact ev_lk_st1_self) ?_
          refine ev_r_bipush (pc := 174) (k := 9) (by decide +kernel) (by decide +kernel) ?_
          refine ev_r_icmp (pc := 176) (q := .ne) (o := 11) (t := 187) (c := x1 ≠ 9) (by decide +kernel) (ev_k_ne hx1 (by decide)) (by decide +kernel) ?_ ?_
          · intro c7
            refine ev_r_iload_n (pc := 187) (k := 2) (v := Int32.ofInt x1) (by decide +kernel) (by exact ev_lk_st1_self) ?_
            refine ev_r_bipush (pc := 188) (k := 10) (by decide +kernel) (by decide +kernel) ?_
            refine ev_r_icmp (pc := 190) (q := .ne) (o := 14) (t := 204) (c := x1 ≠ 10) (by decide +kernel) (ev_k_ne hx1 (by decide)) (by decide +kernel) ?_ ?_
            · intro c8
              refine ev_r_iload_n (pc := 204) (k := 2) (v := Int32.ofInt x1) (by decide +kernel) (by exact ev_lk_st1_self) ?_
              refine ev_r_bipush (pc := 205) (k := 11) (by decide +kernel) (by decide +kernel) ?_
              refine ev_r_icmp (pc := 207) (q := .ne) (o := 15) (t := 222) (c := x1 ≠ 11) (by decide +kernel) (ev_k_ne hx1 (by decide)) (by decide +kernel) ?_ ?_
              · intro c9
                refine ev_r_iload_n (pc := 222) (k := 2) (v := Int32.ofInt x1) (by decide +kernel) (by exact ev_lk_st1_self) ?_
                refine ev_r_bipush (pc := 223) (k := 12) (by decide +kernel) (by decide +kernel) ?_
                refine ev_r_icmp (pc := 225) (q := .ne) (o := 34) (t := 259) (c := x1 ≠ 12) (by decide +kernel) (ev_k_ne hx1 (by decide)) (by decide +kernel) ?_ ?_
                · intro c10
                  refine ev_r_iload_n (pc := 259) (k := 2) (v := Int32.ofInt x1) (by decide +kernel) (by exact ev_lk_st1_self) ?_
                  refine ev_r_bipush (pc := 260) (k := 13) (by decide +kernel) (by decide +kernel) ?_
                  refine ev_r_icmp (pc := 262) (q := .ne) (o := 91) (t := 353) (c := x1 ≠ 13) (by decide +kernel) (ev_k_ne hx1 (by decide)) (by decide +kernel) ?_ ?_
                  · intro c11
                    refine ev_r_iload_n (pc := 353) (k := 2) (v := Int32.ofInt x1) (by decide +kernel) (by exact ev_lk_st1_self) ?_
                    refine ev_r_bipush (pc := 354) (k := 14) (by decide +kernel) (by decide +kernel) ?_
                    refine ev_r_icmp (pc := 356) (q := .ne) (o := 92) (t := 448) (c := x1 ≠ 14) (by decide +kernel) (ev_k_ne hx1 (by decide)) (by decide +kernel) ?_ ?_
                    · intro c12
                      refine ev_r_iload_n (pc := 448) (k := 2) (v := Int32.ofInt x1) (by decide +kernel) (by exact ev_lk_st1_self) ?_
                      refine ev_r_bipush (pc := 449) (k := 15) (by decide +kernel) (by decide +kernel) ?_
                      refine ev_r_icmp (pc := 451) (q := .ne) (o := 10) (t := 461) (c := x1 ≠ 15) (by decide +kernel) (ev_k_ne hx1 (by decide)) (by decide +kernel) ?_ ?_
                      · intro c13
                        refine ev_r_aload_n (pc := 461) (k := 0) (v := .ref 621) trivial (by decide +kernel) (by exact (ev_l1 (by rfl) (by decide) (by decide))) ?_
                        refine ev_r_virt (pc := 462) (y := 610) (mi := 290) (na := 0) (k := 621) (as := []) (rest := []) (encc := ev_oU) (Q := ev_PU) (fun x S1 h => jt_290 d (by omega) Q   s2 x S1 h) (by exact ev_ob_621) (by decide +kernel) (by decide +kernel) (by decide +kernel) (by decide +kernel) rfl (by (try simp only [ev_sum, ev_nv_cat]); first | done | rfl) ?_
                        intro _ s14 _
                        show ev_w _ _ _ _ _ [] _ _ _ _
                        refine ev_r_aload_n (pc := 465) (k := 0) (v := .ref 621) trivial (by decide +kernel) (by exact (ev_l1 (by rfl) (by decide) (by decide))) ?_
                        refine ev_r_iload_n (pc := 466) (k := 2) (v := Int32.ofInt x1) (by decide +kernel) (by exact ev_lk_st1_self) ?_
                        refine ev_r_bipush (pc := 467) (k := 16) (by decide +kernel) (by decide +kernel) ?_
                        refine ev_r_jn (Q := fun K => ∀ (x15 : Int) (hx15 : ev_rng x15), ∀ (s19 : ev_St) (w16 : List (Nat × Value)), ev_lk w16 0 = some (.ref 621) → ev_lk w16 1 = some (.int (Int32.ofInt a0)) → ev_w none (ev_Mof 299) d 479 w16 [.int (Int32.ofInt x15), .ref 621] s19 (K x15 s19) ev_eU ev_PU) ?_ ?_
                        · intro x15 hx15 s19 w16 e17 e18
                          refine ev_r_iload_n (pc := 479) (k := 1) (v := Int32.ofInt a0) (by decide +kernel) (by exact e18) ?_
                          refine ev_r_iconst (pc := 480) (k := 0) (by decide +kernel) ?_
                          refine ev_r_virt (pc := 481) (y := 606) (mi := 292) (na := 3) (k := 621) (as := [.int (Int32.ofInt x15), .int (Int32.ofInt a0), .int (Int32.ofInt 0)]) (rest := []) (encc := ev_oU) (Q := ev_PU) (fun x S1 h => jt_292 d (by omega) Q x15 a0 0 hx15 ha0 (by decide) s19 x S1 h) (by exact ev_ob_621) (by decide +kernel) (by decide +kernel) (by decide +kernel) (by decide +kernel) rfl (by (try simp only [ev_sum, ev_nv_cat]); first | done | rfl) ?_
                          intro _ s20 _
                          show ev_w _ _ _ _ _ [] _ _ _ _
                          refine ev_r_aload_n (pc := 484) (k := 0) (v := .ref 621) trivial (by decide +kernel) (by exact e17) ?_
                          refine ev_r_iconst (pc := 485) (k := 4) (by decide +kernel) ?_
                          refine ev_r_putI (pc := 486) (y := 617) (ci := 13) (f := 78) (by decide) (by decide +kernel) (by decide +kernel) (by exact ev_ob_621) rfl rfl ?_
                          intro s21
                          exact ev_r_return (pc := 489) (x := ()) trivial (by decide +kernel) (by decide +kernel) rfl
                        · intro K479 hK479
                          refine ev_r_icmp (pc := 469) (q := .ne) (o := 8) (t := 477) (c := x1 ≠ 16) (by decide +kernel) (ev_k_ne hx1 (by decide)) (by decide +kernel) ?_ ?_
                          · intro c22
                            refine ev_r_bipush (pc := 477) (k := 7) (by decide +kernel) (by decide +kernel) ?_
                            exact hK479 7 (by decide) s14 _ (by exact (ev_l1 (by rfl) (by decide) (by decide))) (by exact (ev_lk_st1 (by rfl) (by decide) rfl))
                          · intro c22
                            refine ev_r_bipush (pc := 472) (k := 6) (by decide +kernel) (by decide +kernel) ?_
                            refine ev_r_goto (pc := 474) (o := 5) (t := 479) (by decide +kernel) (by decide +kernel) ?_
                            exact hK479 6 (by decide) s14 _ (by exact (ev_l1 (by rfl) (by decide) (by decide))) (by exact (ev_lk_st1 (by rfl) (by decide) rfl))
                      · intro c13
                        refine ev_r_aload_n (pc := 454) (k := 0) (v := .ref 621) trivial (by decide +kernel) (by exact (ev_l1 (by rfl) (by decide) (by decide))) ?_
                        refine ev_r_virt (pc := 455) (y := 610) (mi := 290) (na := 0) (k := 621) (as := []) (rest := []) (encc := ev_oU) (Q := ev_PU) (fun x S1 h => jt_290 d (by omega) Q   s2 x S1 h) (by exact ev_ob_621) (by decide +kernel) (by decide +kernel) (by decide +kernel) (by decide +kernel) rfl (by (try simp only [ev_sum, ev_nv_cat]); first | done | rfl) ?_
                        intro _ s23 _
                        show ev_w _ _ _ _ _ [] _ _ _ _
                        refine ev_r_goto (pc := 458) (o := 31) (t := 489) (by decide +kernel) (by decide +kernel) ?_
                        exact ev_r_return (pc := 489) (x := ()) trivial (by decide +kernel) (by decide +kernel) rfl
                    · intro c12
                      refine ev_r_aload_n (pc := 359) (k := 0) (v := .ref 621) trivial (by decide +kernel) (by exact (ev_l1 (by rfl) (by decide) (by decide))) ?_
                      refine ev_r_virt (pc := 360) (y := 610) (mi := 290) (na := 0) (k := 621) (as := []) (rest := []) (encc := ev_oU) (Q := ev_PU) (fun x S1 h => jt_290 d (by omega) Q   s2 x S1 h) (by exact ev_ob_621) (by decide +kernel) (by decide +kernel) (by decide +kernel) (by decide +kernel) rfl (by (try simp only [ev_sum, ev_nv_cat]); first | done | rfl) ?_
                      intro _ s24 _
                      show ev_w _ _ _ _ _ [] _ _ _ _
                      refine ev_r_aload_n (pc := 363) (k := 0) (v := .ref 621) trivial (by decide +kernel) (by exact (ev_l1 (by rfl) (by decide) (by decide))) ?_
                      refine ev_r_getI (pc := 364) (y := 591) (ci := 13) (f := 84) (fin := 0) (by decide +kernel) (by decide +kernel) (by exact ev_ob_621) rfl ?_
                      intro x25 hx25
                      refine ev_r_bipush (pc := 367) (k := 64) (by decide +kernel) (by decide +kernel) ?_
                      refine ev_r_irem (pc := 369) (by decide) (by decide +kernel) ?_
                      intro x26 hx26
                      refine ev_r_bipush (pc := 370) (k := 20) (by decide +kernel) (by decide +kernel) ?_
                      refine ev_r_icmp (pc := 372) (q := .ge) (o := 117) (t := 489) (c := 20 ≤ x26) (by decide +kernel) (ev_k_ge hx26 (by decide)) (by decide +kernel) ?_ ?_
                      · intro c27
                        exact ev_r_return (pc := 489) (x := ()) trivial (by decide +kernel) (by decide +kernel) rfl
                      · intro c27
                        refine ev_r_aload_n (pc := 375) (k := 0) (v := .ref 621) trivial (by decide +kernel) (by exact (ev_l1 (by rfl) (by decide) (by decide))) ?_
                        refine ev_r_aload_n (pc := 376) (k := 0) (v := .ref 621) trivial (by decide +kernel) (by exact (ev_l1 (by rfl) (by decide) (by decide))) ?_
                        refine ev_r_iconst (pc := 377) (k := 4) (by decide +kernel) ?_
                        refine ev_r_iload_n (pc := 378) (k := 1) (v := Int32.ofInt a0) (by decide +kernel) (by exact (ev_lk_st1 (by rfl) (by decide) rfl)) ?_
                        refine ev_r_iconst (pc := 379) (k := 0) (by decide +kernel) ?_
                        refine ev_r_aload_n (pc := 380) (k := 0) (v := .ref 621) trivial (by decide +kernel) (by exact (ev_l1 (by rfl) (by decide) (by decide))) ?_
                        refine ev_r_getI (pc := 381) (y := 585) (ci := 13) (f := 82) (fin := 0) (by decide +kernel) (by decide +kernel) (by exact ev_ob_621) rfl ?_
                        intro x28 hx28
                        refine ev_r_aload_n (pc := 384) (k := 0) (v := .ref 621) trivial (by decide +kernel) (by exact (ev_l1 (by rfl) (by decide) (by decide))) ?_
                        refine ev_r_getI (pc := 385) (y := 588) (ci := 13) (f := 83) (fin := 0) (by decide +kernel) (by decide +kernel) (by exact ev_ob_621) rfl ?_
                        intro x29 hx29
                        refine ev_r_aload_n (pc := 388) (k := 0) (v := .ref 621) trivial (by decide +kernel) (by exact (ev_l1 (by rfl) (by decide) (by decide))) ?_
                        refine ev_r_getI (pc := 389) (y := 591) (ci := 13) (f := 84) (fin := 0) (by decide +kernel) (by decide +kernel) (by exact ev_ob_621) rfl ?_
                        intro x30 hx30
                        refine ev_r_virt (pc := 392) (y := 613) (mi := 291) (na := 6) (k := 621) (as := [.int (Int32.ofInt 4), .int (Int32.ofInt a0), .int (Int32.ofInt 0), .int (Int32.ofInt x28), .int (Int32.ofInt x29), .int (Int32.ofInt x30)]) (rest := [.ref 621]) (encc := ev_oI) (Q := ev_rng) (fun x S1 h => jt_291 d (by omega) Q 4 a0 0 x28 x29 x30 (by decide) ha0 (by decide) hx28 hx29 hx30 s24 x S1 h) (by exact ev_ob_621) (by decide +kernel) (by decide +kernel) (by decide +kernel) (by decide +kernel) rfl (by (try simp only [ev_sum, ev_nv_cat]); first | done | rfl) ?_
                        intro x32 s31 hx32
                        show ev_w _ _ _ _ _ [.int (Int32.ofInt x32), .ref 621] _ _ _ _
                        refine ev_r_putI (pc := 395) (y := 588) (ci := 13) (f := 83) hx32 (by decide +kernel) (by decide +kernel) (by exact ev_ob_621) rfl rfl ?_
                        intro s33
                        refine ev_r_aload_n (pc := 398) (k := 0) (v := .ref 621) trivial (by decide +kernel) (by exact (ev_l1 (by rfl) (by decide) (by decide))) ?_
                        refine ev_r_dup (pc := 399) rfl (by decide +kernel) ?_
                        refine ev_r_getI (pc := 400) (y := 591) (ci := 13) (f := 84) (fin := 0) (by decide +kernel) (by decide +kernel) (by exact ev_ob_621) rfl ?_
                        intro x34 hx34
                        refine ev_r_iconst (pc := 403) (k := 1) (by decide +kernel) ?_
                        refine ev_r_iadd (pc := 404) (by decide +kernel) ?_
                        intro x35 hx35
                        refine ev_r_putI (pc := 405) (y := 591) (ci := 13) (f := 84) hx35 (by decide +kernel) (by decide +kernel) (by exact ev_ob_621) rfl rfl ?_
                        intro s36
                        refine ev_r_aload_n (pc := 408) (k := 0) (v := .ref 621) trivial (by decide +kernel) (by exact (ev_l1 (by rfl) (by decide) (by decide))) ?_
                        refine ev_r_aload_n (pc := 409) (k := 0) (v := .ref 621) trivial (by decide +kernel) (by exact (ev_l1 (by rfl) (by decide) (by decide))) ?_
                        refine ev_r_getI (pc := 410) (y := 633) (ci := 13) (f := 79) (fin := 0) (by decide +kernel) (by decide +kernel) (by exact ev_ob_621) rfl ?_
                        intro x37 hx37
                        refine ev_r_aload_n (pc := 413) (k := 0) (v := .ref 621) trivial (by decide +kernel) (by exact (ev_l1 (by rfl) (by decide) (by decide))) ?_
                        refine ev_r_getC (pc := 414) (y := 56) (ci := 13) (f := 18) (fin := 1) (k' := 637) (by decide +kernel) (by decide +kernel) (by exact ev_ob_621) rfl rfl ?_
                        refine ev_r_bipush (pc := 417) (k := 10) (by decide +kernel) (by decide +kernel) ?_
                        refine ev_r_aload_n (pc := 419) (k := 0) (v := .ref 621) trivial (by decide +kernel) (by exact (ev_l1 (by rfl) (by decide) (by decide))) ?_
                        refine ev_r_getI (pc := 420) (y := 633) (ci := 13) (f := 79) (fin := 0) (by decide +kernel) (by decide +kernel) (by exact ev_ob_621) rfl ?_
                        intro x38 hx38
                        refine ev_r_sipush (pc := 423) (k := 320) (by decide +kernel) (by decide +kernel) ?_
                        refine ev_r_idiv (pc := 426) (by decide) (by decide +kernel) ?_
                        intro x39 hx39
                        refine ev_r_imul (pc := 427) (by decide +kernel) ?_
                        intro x40 hx40
                        refine ev_r_aload_n (pc := 428) (k := 0) (v := .ref 621) trivial (by decide +kernel) (by exact (ev_l1 (by rfl) (by decide) (by decide))) ?_
                        refine ev_r_getC (pc := 429) (y := 28) (ci := 13) (f := 9) (fin := 1) (k' := 628) (by decide +kernel) (by decide +kernel) (by exact ev_ob_621) rfl rfl ?_
                        refine ev_r_iload_n (pc := 432) (k := 1) (v := Int32.ofInt a0) (by decide +kernel) (by exact (ev_lk_st1 (by rfl) (by decide) rfl)) ?_
                        refine ev_r_iald (pc := 433) ha0 (by decide +kernel) (by exact ev_ab_628) ?_
                        intro x41 hx41
                        refine ev_r_iadd (pc := 434) (by decide +kernel) ?_
                        intro x42 hx42
                        refine ev_r_iald (pc := 435) hx42 (by decide +kernel) (by exact ev_ab_637) ?_
                        intro x43 hx43
                        refine ev_r_iadd (pc := 436) (by decide +kernel) ?_
                        intro x44 hx44
                        refine ev_r_putI (pc := 437) (y := 597) (ci := 13) (f := 80) hx44 (by decide +kernel) (by decide +kernel) (by exact ev_ob_621) rfl rfl ?_
                        intro s45
                        refine ev_r_aload_n (pc := 440) (k := 0) (v := .ref 621) trivial (by decide +kernel) (by exact (ev_l1 (by rfl) (by decide) (by decide))) ?_
                        refine ev_r_iconst (pc := 441) (k := 3) (by decide +kernel) ?_
                        refine ev_r_putI (pc := 442) (y := 617) (ci := 13) (f := 78) (by decide) (by decide +kernel) (by decide +kernel) (by exact ev_ob_621) rfl rfl ?_
                        intro s46
                        refine ev_r_goto (pc := 445) (o := 44) (t := 489) (by decide +kernel) (by decide +kernel) ?_
                        exact ev_r_return (pc := 489) (x := ()) trivial (by decide +kernel) (by decide +kernel) rfl
                  · intro c11
                    refine ev_r_aload_n (pc := 265) (k := 0) (v := .ref 621) trivial (by decide +kernel) (by exact (ev_l1 (by rfl) (by decide) (by decide))) ?_
                    refine ev_r_virt (pc := 266) (y := 610) (mi := 290) (na := 0) (k := 621) (as := []) (rest := []) (encc := ev_oU) (Q := ev_PU) (fun x S1 h => jt_290 d (by omega) Q   s2 x S1 h) (by exact ev_ob_621) (by decide +kernel) (by decide +kernel) (by decide +kernel) (by decide +kernel) rfl (by (try simp only [ev_sum, ev_nv_cat]); first | done | rfl) ?_
                    intro _ s47 _
                    show ev_w _ _ _ _ _ [] _ _ _ _
                    refine ev_r_aload_n (pc := 269) (k := 0) (v := .ref 621) trivial (by decide +kernel) (by exact (ev_l1 (by rfl) (by decide) (by decide))) ?_
                    refine ev_r_getI (pc := 270) (y := 633) (ci := 13) (f := 79) (fin := 0) (by decide +kernel) (by decide +kernel) (by exact ev_ob_621) rfl ?_
                    intro x48 hx48
                    refine ev_r_aload_n (pc := 273) (k := 0) (v := .ref 621) trivial (by decide +kernel) (by exact (ev_l1 (by rfl) (by decide) (by decide))) ?_
                    refine ev_r_getC (pc := 274) (y := 22) (ci := 13) (f := 7) (fin := 1) (k' := 626) (by decide +kernel) (by decide +kernel) (by exact ev_ob_621) rfl rfl ?_
                    refine ev_r_iload_n (pc := 277) (k := 1) (v := Int32.ofInt a0) (by decide +kernel) (by exact (ev_lk_st1 (by rfl) (by decide) rfl)) ?_
                    refine ev_r_iald (pc := 278) ha0 (by decide +kernel) (by exact ev_ab_626) ?_
                    intro x49 hx49
                    refine ev_r_iadd (pc := 279) (by decide +kernel) ?_
                    intro x50 hx50
                    refine ev_r_istore_n (pc := 280) (k := 3) (by decide +kernel) (by decide +kernel) rfl ?_
                    refine ev_r_aload_n (pc := 281) (k := 0) (v := .ref 621) trivial (by decide +kernel) (by exact (ev_l1 (ev_l1 (by rfl) (by decide) (by decide)) (by decide) (by decide))) ?_
                    refine ev_r_getC (pc := 282) (y := 25) (ci := 13) (f := 8) (fin := 1) (k' := 627) (by decide +kernel) (by decide +kernel) (by exact ev_ob_621) rfl rfl ?_
                    refine ev_r_iload_n (pc := 285) (k := 3) (v := Int32.ofInt x50) (by decide +kernel) (by exact ev_lk_st1_self) ?_
                    refine ev_r_iald (pc := 286) hx50 (by decide +kernel) (by exact ev_ab_627) ?_
                    intro x51 hx51
                    refine ev_r_iconst (pc := 287) (k := -1) (by decide +kernel) ?_
                    refine ev_r_jn (Q := fun K => ∀ (x52 : Int) (hx52 : ev_rng x52), ∀ (x53 : Int) (hx53 : ev_rng x53), ∀ (s58 : ev_St) (w54 : List (Nat × Value)), ev_lk w54 0 = some (.ref 621) → ev_lk w54 1 = some (.int (Int32.ofInt a0)) → ev_lk w54 3 = some (.int (Int32.ofInt x52)) → ev_w none (ev_Mof 299) d 306 w54 [.int (Int32.ofInt x53)] s58 (K x52 x53 s58) ev_eU ev_PU) ?_ ?_
                    · intro x52 hx52 x53 hx53 s58 w54 e55 e56 e57
                      refine ev_r_istore (pc := 306) (k := 4) (by decide +kernel) (by decide +kernel) rfl ?_
                      refine ev_r_aload_n (pc := 308) (k := 0) (v := .ref 621) trivial (by decide +kernel) (by exact (ev_l1 e55 (by decide) (by decide))) ?_
                      refine ev_r_aload_n (pc := 309) (k := 0) (v := .ref 621) trivial (by decide +kernel) (by exact (ev_l1 e55 (by decide) (by decide))) ?_
                      refine ev_r_aload_n (pc := 310) (k := 0) (v := .ref 621) trivial (by decide +kernel) (by exact (ev_l1 e55 (by decide) (by decide))) ?_
                      refine ev_r_getC (pc := 311) (y := 28) (ci := 13) (f := 9) (fin := 1) (k' := 628) (by decide +kernel) (by decide +kernel) (by exact ev_ob_621) rfl rfl ?_
                      refine ev_r_iload_n (pc := 314) (k := 1) (v := Int32.ofInt a0) (by decide +kernel) (by exact (ev_l1 e56 (by decide) (by decide))) ?_
                      refine ev_r_iald (pc := 315) ha0 (by decide +kernel) (by exact ev_ab_628) ?_
                      intro x59 hx59
                      refine ev_r_virt (pc := 316) (y := 603) (mi := 294) (na := 1) (k := 621) (as := [.int (Int32.ofInt x59)]) (rest := [.ref 621]) (encc := ev_oI) (Q := ev_rng) (fun x S1 h => jt_294 d (by omega) Q x59 hx59 s58 x S1 h) (by exact ev_ob_621) (by decide +kernel) (by decide +kernel) (by decide +kernel) (by decide +kernel) rfl (by (try simp only [ev_sum, ev_nv_cat]); first | done | rfl) ?_
                      intro x61 s60 hx61
                      show ev_w _ _ _ _ _ [.int (Int32.ofInt x61), .ref 621] _ _ _ _
                      refine ev_r_iconst (pc := 319) (k := -1) (by decide +kernel) ?_
                      refine ev_r_jn (Q := fun K => ∀ (x62 : Int) (hx62 : ev_rng x62), ∀ (s65 : ev_St) (w63 : List (Nat × Value)), ev_lk w63 0 = some (.ref 621) → ev_w none (ev_Mof 299) d 329 w63 [.int (Int32.ofInt x62), .ref 621] s65 (K x62 s65) ev_eU ev_PU) ?_ ?_
                      · intro x62 hx62 s65 w63 e64
                        refine ev_r_putI (pc := 329) (y := 597) (ci := 13) (f := 80) hx62 (by decide +kernel) (by decide +kernel) (by exact ev_ob_621) rfl rfl ?_
                        intro s66
                        refine ev_r_aload_n (pc := 332) (k := 0) (v := .ref 621) trivial (by decide +kernel) (by exact e64) ?_
                        refine ev_r_aload_n (pc := 333) (k := 0) (v := .ref 621) trivial (by decide +kernel) (by exact e64) ?_
                        refine ev_r_getI (pc := 334) (y := 597) (ci := 13) (f := 80) (fin := 0) (by decide +kernel) (by decide +kernel) (by exact ev_ob_621) rfl ?_
                        intro x67 hx67
                        refine ev_r_iconst (pc := 337) (k := -1) (by decide +kernel) ?_
                        refine ev_r_icmp (pc := 338) (q := .ne) (o := 7) (t := 345) (c := x67 ≠ (-1)) (by decide +kernel) (ev_k_ne hx67 (by decide)) (by decide +kernel) ?_ ?_
                        · intro c68
                          refine ev_r_bipush (pc := 345) (k := 7) (by decide +kernel) (by decide +kernel) ?_
                          refine ev_r_putI (pc := 347) (y := 617) (ci := 13) (f := 78) (by decide) (by decide +kernel) (by decide +kernel) (by exact ev_ob_621) rfl rfl ?_
                          intro s69
                          refine ev_r_goto (pc := 350) (o := 139) (t := 489) (by decide +kernel) (by decide +kernel) ?_
                          exact ev_r_return (pc := 489) (x := ()) trivial (by decide +kernel) (by decide +kernel) rfl
                        · intro c68
                          refine ev_r_iconst (pc := 341) (k := 4) (by decide +kernel) ?_
                          refine ev_r_goto (pc := 342) (o := 5) (t := 347) (by decide +kernel) (by decide +kernel) ?_
                          refine ev_r_putI (pc := 347) (y := 617) (ci := 13) (f := 78) (by decide) (by decide +kernel) (by decide +kernel) (by exact ev_ob_621) rfl rfl ?_
                          intro s70
                          refine ev_r_goto (pc := 350) (o := 139) (t := 489) (by decide +kernel) (by decide +kernel) ?_
                          exact ev_r_return (pc := 489) (x := ()) trivial (by decide +kernel) (by decide +kernel) rfl
                      · intro K329 hK329
                        refine ev_r_icmp (pc := 320) (q := .eq) (o := 7) (t := 327) (c := x61 = (-1)) (by decide +kernel) (ev_k_eq hx61 (by decide)) (by decide +kernel) ?_ ?_
                        · intro c71
                          refine ev_r_iload (pc := 327) (k := 4) (v := Int32.ofInt x53) (by decide +kernel) (by exact ev_lk_st1_self) ?_
                          exact hK329 x53 hx53 s60 _ (by exact (ev_l1 e55 (by decide) (by decide)))
                        · intro c71
                          refine ev_r_iload_n (pc := 323) (k := 3) (v := Int32.ofInt x52) (by decide +kernel) (by exact (ev_lk_st1 e57 (by decide) rfl)) ?_
                          refine ev_r_goto (pc := 324) (o := 5) (t := 329) (by decide +kernel) (by decide +kernel) ?_
                          exact hK329 x52 hx52 s60 _ (by exact (ev_l1 e55 (by decide) (by decide)))
                    · intro K306 hK306
                      refine ev_r_icmp (pc := 288) (q := .ne) (o := 7) (t := 295) (c := x51 ≠ (-1)) (by decide +kernel) (ev_k_ne hx51 (by decide)) (by decide +kernel) ?_ ?_
                      · intro c72
                        refine ev_r_aload_n (pc := 295) (k := 0) (v := .ref 621) trivial (by decide +kernel) (by exact (ev_l1 (ev_l1 (by rfl) (by decide) (by decide)) (by decide) (by decide))) ?_
                        refine ev_r_getI (pc := 296) (y := 633) (ci := 13) (f := 79) (fin := 0) (by decide +kernel) (by decide +kernel) (by exact ev_ob_621) rfl ?_
                        intro x73 hx73
                        refine ev_r_aload_n (pc := 299) (k := 0) (v := .ref 621) trivial (by decide +kernel) (by exact (ev_l1 (ev_l1 (by rfl) (by decide) (by decide)) (by decide) (by decide))) ?_
                        refine ev_r_getC (pc := 300) (y := 25) (ci := 13) (f := 8) (fin := 1) (k' := 627) (by decide +kernel) (by decide +kernel) (by exact ev_ob_621) rfl rfl ?_
                        refine ev_r_iload_n (pc := 303) (k := 3) (v := Int32.ofInt x50) (by decide +kernel) (by exact ev_lk_st1_self) ?_
                        refine ev_r_iald (pc := 304) hx50 (by decide +kernel) (by exact ev_ab_627) ?_
                        intro x74 hx74
                        refine ev_r_iadd (pc := 305) (by decide +kernel) ?_
                        intro x75 hx75
                        exact hK306 x50 hx50 x75 hx75 s47 _ (by exact (ev_l1 (ev_l1 (by rfl) (by decide) (by decide)) (by decide) (by decide))) (by exact (ev_l1 (ev_lk_st1 (by rfl) (by decide) rfl) (by decide) (by decide))) (by exact ev_lk_st1_self)
                      · intro c72
                        refine ev_r_iconst (pc := 291) (k := -1) (by decide +kernel) ?_
                        refine ev_r_goto (pc := 292) (o := 14) (t := 306) (by decide +kernel) (by decide +kernel) ?_
                        exact hK306 x50 hx50 ((-1)) (by decide) s47 _ (by exact (ev_l1 (ev_l1 (by rfl) (by decide) (by decide)) (by decide) (by decide))) (by exact (ev_l1 (ev_lk_st1 (by rfl) (by decide) rfl) (by decide) (by decide))) (by exact ev_lk_st1_self)
                · intro c10
                  refine ev_r_aload_n (pc := 228) (k := 0) (v := .ref 621) trivial (by decide +kernel) (by exact (ev_l1 (by rfl) (by decide) (by decide))) ?_
                  refine ev_r_getI (pc := 229) (y := 591) (ci := 13) (f := 84) (fin := 0) (by decide +kernel) (by decide +kernel) (by exact ev_ob_621) rfl ?_
                  intro x76 hx76
                  refine ev_r_bipush (pc := 232) (k := 64) (by decide +kernel) (by decide +kernel) ?_
                  refine ev_r_idiv (pc := 234) (by decide) (by decide +kernel) ?_
                  intro x77 hx77
                  refine ev_r_bipush (pc := 235) (k := 40) (by decide +kernel) (by decide +kernel) ?_
                  refine ev_r_icmp (pc := 237) (q := .lt) (o := 10) (t := 247) (c := x77 < 40) (by decide +kernel) (ev_k_lt hx77 (by decide)) (by decide +kernel) ?_ ?_
                  · intro c78
                    refine ev_r_aload_n (pc := 247) (k := 0) (v := .ref 621) trivial (by decide +kernel) (by exact (ev_l1 (by rfl) (by decide) (by decide))) ?_
                    refine ev_r_iload_n (pc := 248) (k := 1) (v := Int32.ofInt a0) (by decide +kernel) (by exact (ev_lk_st1 (by rfl) (by decide) rfl)) ?_
                    refine ev_r_aload_n (pc := 249) (k := 0) (v := .ref 621) trivial (by decide +kernel) (by exact (ev_l1 (by rfl) (by decide) (by decide))) ?_
                    refine ev_r_getI (pc := 250) (y := 582) (ci := 13) (f := 81) (fin := 0) (by decide +kernel) (by decide +kernel) (by exact ev_ob_621) rfl ?_
                    intro x79 hx79
                    refine ev_r_virt (pc := 253) (y := 630) (mi := 297) (na := 2) (k := 621) (as := [.int (Int32.ofInt a0), .int (Int32.ofInt x79)]) (rest := []) (encc := ev_oU) (Q := ev_PU) (fun x S1 h => jt_297 d (by omega) Q a0 x79 ha0 hx79 s2 x S1 h) (by exact ev_ob_621) (by decide +kernel) (by decide +kernel) (by decide +kernel) (by decide +kernel) rfl (by (try simp only [ev_sum, ev_nv_cat]); first | done | rfl) ?_
                    intro _ s80 _
                    show ev_w _ _ _ _ _ [] _ _ _ _
                    refine ev_r_goto (pc := 256) (o := 233) (t := 489) (by decide +kernel) (by decide +kernel) ?_
                    exact ev_r_return (pc := 489) (x := ()) trivial (by decide +kernel) (by decide +kernel) rfl
                  · intro c78
                    refine ev_r_aload_n (pc := 240) (k := 0) (v := .ref 621) trivial (by decide +kernel) (by exact (ev_l1 (by rfl) (by decide) (by decide))) ?_
                    refine ev_r_virt (pc := 241) (y := 610) (mi := 290) (na := 0) (k := 621) (as := []) (rest := []) (encc := ev_oU) (Q := ev_PU) (fun x S1 h => jt_290 d (by omega) Q   s2 x S1 h) (by exact ev_ob_621) (by decide +kernel) (by decide +kernel) (by decide +kernel) (by decide +kernel) rfl (by (try simp only [ev_sum, ev_nv_cat]); first | done | rfl) ?_
                    intro _ s81 _
                    show ev_w _ _ _ _ _ [] _ _ _ _
                    refine ev_r_goto (pc := 244) (o := 245) (t := 489) (by decide +kernel) (by decide +kernel) ?_
                    exact ev_r_return (pc := 489) (x := ()) trivial (by decide +kernel) (by decide +kernel) rfl
              · intro c9
                refine ev_r_aload_n (pc := 210) (k := 0) (v := .ref 621) trivial (by decide +kernel) (by exact (ev_l1 (by rfl) (by decide) (by decide))) ?_
                refine ev_r_iload_n (pc := 211) (k := 1) (v := Int32.ofInt a0) (by decide +kernel) (by exact (ev_lk_st1 (by rfl) (by decide) rfl)) ?_
                refine ev_r_iconst (pc := 212) (k := 4) (by decide +kernel) ?_
                refine ev_r_bipush (pc := 213) (k := 6) (by decide +kernel) (by decide +kernel) ?_
                refine ev_r_iconst (pc := 215) (k := 3) (by decide +kernel) ?_
                refine ev_r_virt (pc := 216) (y := 626) (mi := 298) (na := 4) (k := 621) (as := [.int (Int32.ofInt a0), .int (Int32.ofInt 4), .int (Int32.ofInt 6), .int (Int32.ofInt 3)]) (rest := []) (encc := ev_oU) (Q := ev_PU) (fun x S1 h => jt_298 d (by omega) Q a0 4 6 3 ha0 (by decide) (by decide) (by decide) s2 x S1 h) (by exact ev_ob_621) (by decide +kernel) (by decide +kernel) (by decide +kernel) (by decide +kernel) rfl (by (try simp only [ev_sum, ev_nv_cat]); first | done | rfl) ?_
                intro _ s82 _
                show ev_w _ _ _ _ _ [] _ _ _ _
                refine ev_r_goto (pc := 219) (o := 270) (t := 489) (by decide +kernel) (by decide +kernel) ?_
                exact ev_r_return (pc := 489) (x := ()) trivial (by decide +kernel) (by decide +kernel) rfl
            · intro c8
              refine ev_r_aload_n (pc := 193) (k := 0) (v := .ref 621) trivial (by decide +kernel) (by exact (ev_l1 (by rfl) (by decide) (by decide))) ?_
              refine ev_r_iload_n (pc := 194) (k := 1) (v := Int32.ofInt a0) (by decide +kernel) (by exact (ev_lk_st1 (by rfl) (by decide) rfl)) ?_
              refine ev_r_iconst (pc := 195) (k := 3) (by decide +kernel) ?_
              refine ev_r_iconst (pc := 196) (k := 5) (by decide +kernel) ?_
              refine ev_r_iconst (pc := 197) (k := 3) (by decide +kernel) ?_
              refine ev_r_virt (pc := 198) (y := 626) (mi := 298) (na := 4) (k := 621) (as := [.int (Int32.ofInt a0), .int (Int32.ofInt 3), .int (Int32.ofInt 5), .int (Int32.ofInt 3)]) (rest := []) (encc := ev_oU) (Q := ev_PU) (fun x S1 h => jt_298 d (by omega) Q a0 3 5 3 ha0 (by decide) (by decide) (by decide) s2 x S1 h) (by exact ev_ob_621) (by decide +kernel) (by decide +kernel) (by decide +kernel) (by decide +kernel) rfl (by (try simp only [ev_sum, ev_nv_cat]); first | done | rfl) ?_
              intro _ s83 _
              show ev_w _ _ _ _ _ [] _ _ _ _
              refine ev_r_goto (pc := 201) (o := 288) (t := 489) (by decide +kernel) (by decide +kernel) ?_
              exact ev_r_return (pc := 489) (x := ()) trivial (by decide +kernel) (by decide +kernel) rfl
          · intro c7
            refine ev_r_aload_n (pc := 179) (k := 0) (v := .ref 621) trivial (by decide +kernel) (by exact (ev_l1 (by rfl) (by decide) (by decide))) ?_
            refine ev_r_iconst (pc := 180) (k := 3) (by decide +kernel) ?_
            refine ev_r_putI (pc := 181) (y := 617) (ci := 13) (f := 78) (by decide) (by decide +kernel) (by decide +kernel) (by exact ev_ob_621) rfl rfl ?_
            intro s84
            refine ev_r_goto (pc := 184) (o := 305) (t := 489) (by decide +kernel) (by decide +kernel) ?_
            exact ev_r_return (pc := 489) (x := ()) trivial (by decide +kernel) (by decide +kernel) rfl
        · intro c6
          refine ev_r_aload_n (pc := 142) (k := 0) (v := .ref 621) trivial (by decide +kernel) (by exact (ev_l1 (by rfl) (by decide) (by decide))) ?_
          refine ev_r_aload_n (pc := 143) (k := 0) (v := .ref 621) trivial (by decide +kernel) (by exact (ev_l1 (by rfl) (by decide) (by decide))) ?_
          refine ev_r_iconst (pc := 144) (k := 2) (by decide +kernel) ?_
          refine ev_r_iload_n (pc := 145) (k := 1) (v := Int32.ofInt a0) (by decide +kernel) (by exact (ev_lk_st1 (by rfl) (by decide) rfl)) ?_
          refine ev_r_aload_n (pc := 146) (k := 0) (v := .ref 621) trivial (by decide +kernel) (by exact (ev_l1 (by rfl) (by decide) (by decide))) ?_
          refine ev_r_getI (pc := 147) (y := 582) (ci := 13) (f := 81) (fin := 0) (by decide +kernel) (by decide +kernel) (by exact ev_ob_621) rfl ?_
          intro x85 hx85
          refine ev_r_iconst (pc := 150) (k := -1) (by decide +kernel) ?_
          refine ev_r_aload_n (pc := 151) (k := 0) (v := .ref 621) trivial (by decide +kernel) (by exact (ev_l1 (by rfl) (by decide) (by decide))) ?_
          refine ev_r_getI (pc := 152) (y := 588) (ci := 13) (f := 83) (fin := 0) (by decide +kernel) (by decide +kernel) (by exact ev_ob_621) rfl ?_
          intro x86 hx86
          refine ev_r_aload_n (pc := 155) (k := 0) (v := .ref 621) trivial (by decide +kernel) (by exact (ev_l1 (by rfl) (by decide) (by decide))) ?_
          refine ev_r_getI (pc := 156) (y := 591) (ci := 13) (f := 84) (fin := 0) (by decide +kernel) (by decide +kernel) (by exact ev_ob_621) rfl ?_
          intro x87 hx87
          refine ev_r_virt (pc := 159) (y := 613) (mi := 291) (na := 6) (k := 621) (as := [.int (Int32.ofInt 2), .int (Int32.ofInt a0), .int (Int32.ofInt x85), .int (Int32.ofInt ((-1))), .int (Int32.ofInt x86), .int (Int32.ofInt x87)]) (rest := [.ref 621]) (encc := ev_oI) (Q := ev_rng) (fun x S1 h => jt_291 d (by omega) Q 2 a0 x85 ((-1)) x86 x87 (by decide) ha0 hx85 (by decide) hx86 hx87 s2 x S1 h) (by exact ev_ob_621) (by decide +kernel) (by decide +kernel) (by decide +kernel) (by decide +kernel) rfl (by (try simp only [ev_sum, ev_nv_cat]); first | done | rfl) ?_
          intro x89 s88 hx89
          show ev_w _ _ _ _ _ [.int (Int32.ofInt x89), .ref 621] _ _ _ _
          refine ev_r_putI (pc := 162) (y := 588) (ci := 13) (f := 83) hx89 (by decide +kernel) (by decide +kernel) (by exact ev_ob_621) rfl rfl ?_
          intro s90
          refine ev_r_aload_n (pc := 165) (k := 0) (v := .ref 621) trivial (by decide +kernel) (by exact (ev_l1 (by rfl) (by decide) (by decide))) ?_
          refine ev_r_iconst (pc := 166) (k := 3) (by decide +kernel) ?_
          refine ev_r_putI (pc := 167) (y := 617) (ci := 13) (f := 78) (by decide) (by decide +kernel) (by decide +kernel) (by exact ev_ob_621) rfl rfl ?_
          intro s91
          refine ev_r_goto (pc := 170) (o := 319) (t := 489) (by decide +kernel) (by decide +kernel) ?_
          exact ev_r_return (pc := 489) (x := ()) trivial (by decide +kernel) (by decide +kernel) rfl
      · intro c5
        refine ev_r_aload_n (pc := 112) (k := 0) (v := .ref 621) trivial (by decide +kernel) (by exact (ev_l1 (by rfl) (by decide) (by decide))) ?_
        refine ev_r_virt (pc := 113) (y := 610) (mi := 290) (na := 0) (k := 621) (as := []) (rest := []) (encc := ev_oU) (Q := ev_PU) (fun x S1 h => jt_290 d (by omega) Q   s2 x S1 h) (by exact ev_ob_621) (by decide +kernel) (by decide +kernel) (by decide +kernel) (by decide +kernel) rfl (by (try simp only [ev_sum, ev_nv_cat]); first | done | rfl) ?_
        intro _ s92 _
        show ev_w _ _ _ _ _ [] _ _ _ _
        refine ev_r_aload_n (pc := 116) (k := 0) (v := .ref 621) trivial (by decide +kernel) (by exact (ev_l1 (by rfl) (by decide) (by decide))) ?_
        refine ev_r_aload_n (pc := 117) (k := 0) (v := .ref 621) trivial (by decide +kernel) (by exact (ev_l1 (by rfl) (by decide) (by decide))) ?_
        refine ev_r_iload_n (pc := 118) (k := 1) (v := Int32.ofInt a0) (by decide +kernel) (by exact (ev_lk_st1 (by rfl) (by decide) rfl)) ?_
        refine ev_r_virt (pc := 119) (y := 623) (mi := 296) (na := 1) (k := 621) (as := [.int (Int32.ofInt a0)]) (rest := [.ref 621]) (encc := ev_oI) (Q := ev_bl) (fun x S1 h => jt_296 d (by omega) Q a0 ha0 s92 x S1 h) (by exact ev_ob_621) (by decide +kernel) (by decide +kernel) (by decide +kernel) (by decide +kernel) rfl (by (try simp only [ev_sum, ev_nv_cat]); first | done | rfl) ?_
        intro x94 s93 hx94
        replace hx94 := ev_bl_rng hx94
        show ev_w _ _ _ _ _ [.int (Int32.ofInt x94), .ref 621] _ _ _ _
        refine ev_r_if (pc := 122) (q := .eq) (o := 7) (t := 129) (c := x94 = 0) (by decide +kernel) (ev_k_eq hx94 ev_rng0) (by decide +kernel) ?_ ?_
        · intro c95
          refine ev_r_iconst (pc := 129) (k := 5) (by decide +kernel) ?_
          refine ev_r_putI (pc := 130) (y := 617) (ci := 13) (f := 78) (by decide) (by decide +kernel) (by decide +kernel) (by exact ev_ob_621) rfl rfl ?_
          intro s96
          refine ev_r_goto (pc := 133) (o := 356) (t := 489) (by decide +kernel) (by decide +kernel) ?_
          exact ev_r_return (pc := 489) (x := ()) trivial (by decide +kernel) (by decide +kernel) rfl
        · intro c95
          refine ev_r_iconst (pc := 125) (k := 4) (by decide +kernel) ?_
          refine ev_r_goto (pc := 126) (o := 4) (t := 130) (by decide +kernel) (by decide +kernel) ?_
          refine ev_r_putI (pc := 130) (y := 617) (ci := 13) (f := 78) (by decide) (by decide +kernel) (by decide +kernel) (by exact ev_ob_621) rfl rfl ?_
          intro s97
          refine ev_r_goto (pc := 133) (o := 356) (t := 489) (by decide +kernel) (by decide +kernel) ?_
          exact ev_r_return (pc := 489) (x := ()) trivial (by decide +kernel) (by decide +kernel) rfl
    · intro c4
      refine ev_r_aload_n (pc := 82) (k := 0) (v := .ref 621) trivial (by decide +kernel) (by exact (ev_l1 (by rfl) (by decide) (by decide))) ?_
      refine ev_r_virt (pc := 83) (y := 610) (mi := 290) (na := 0) (k := 621) (as := []) (rest := []) (encc := ev_oU) (Q := ev_PU) (fun x S1 h => jt_290 d (by omega) Q   s2 x S1 h) (by exact ev_ob_621) (by decide +kernel) (by decide +kernel) (by decide +kernel) (by decide +kernel) rfl (by (try simp only [ev_sum, ev_nv_cat]); first | done | rfl) ?_
      intro _ s98 _
      show ev_w _ _ _ _ _ [] _ _ _ _
      refine ev_r_aload_n (pc := 86) (k := 0) (v := .ref 621) trivial (by decide +kernel) (by exact (ev_l1 (by rfl) (by decide) (by decide))) ?_
      refine ev_r_aload_n (pc := 87) (k := 0) (v := .ref 621) trivial (by decide +kernel) (by exact (ev_l1 (by rfl) (by decide) (by decide))) ?_
      refine ev_r_iload_n (pc := 88) (k := 1) (v := Int32.ofInt a0) (by decide +kernel) (by exact (ev_lk_st1 (by rfl) (by decide) rfl)) ?_
      refine ev_r_virt (pc := 89) (y := 620) (mi := 295) (na := 1) (k := 621) (as := [.int (Int32.ofInt a0)]) (rest := [.ref 621]) (encc := ev_oI) (Q := ev_bl) (fun x S1 h => jt_295 d (by omega) Q a0 ha0 s98 x S1 h) (by exact ev_ob_621) (by decide +kernel) (by decide +kernel) (by decide +kernel) (by decide +kernel) rfl (by (try simp only [ev_sum, ev_nv_cat]); first | done | rfl) ?_
      intro x100 s99 hx100
      replace hx100 := ev_bl_rng hx100
      show ev_w _ _ _ _ _ [.int (Int32.ofInt x100), .ref 621] _ _ _ _
      refine ev_r_if (pc := 92) (q := .eq) (o := 7) (t := 99) (c := x100 = 0) (by decide +kernel) (ev_k_eq hx100 ev_rng0) (by decide +kernel) ?_ ?_
      · intro c101
        refine ev_r_iconst (pc := 99) (k := 5) (by decide +kernel) ?_
        refine ev_r_putI (pc := 100) (y := 617) (ci := 13) (f := 78) (by decide) (by decide +kernel) (by decide +kernel) (by exact ev_ob_621) rfl rfl ?_
        intro s102
        refine ev_r_goto (pc := 103) (o := 386) (t := 489) (by decide +kernel) (by decide +kernel) ?_
        exact ev_r_return (pc := 489) (x := ()) trivial (by decide +kernel) (by decide +kernel) rfl
      · intro c101
        refine ev_r_iconst (pc := 95) (k := 4) (by decide +kernel) ?_
        refine ev_r_goto (pc := 96) (o := 4) (t := 100) (by decide +kernel) (by decide +kernel) ?_
        refine ev_r_putI (pc := 100) (y := 617) (ci := 13) (f := 78) (by decide) (by decide +kernel) (by decide +kernel) (by exact ev_ob_621) rfl rfl ?_
        intro s103
        refine ev_r_goto (pc := 103) (o := 386) (t := 489) (by decide +kernel) (by decide +kernel) ?_
        exact ev_r_return (pc := 489) (x := ()) trivial (by decide +kernel) (by decide +kernel) rfl
  · intro c3
    refine ev_r_aload_n (pc := 16) (k := 0) (v := .ref 621) trivial (by decide +kernel) (by exact (ev_l1 (by rfl) (by decide) (by decide))) ?_
    refine ev_r_virt (pc := 17) (y := 610) (mi := 290) (na := 0) (k := 621) (as := []) (rest := []) (encc := ev_oU) (Q := ev_PU) (fun x S1 h => jt_290 d (by omega) Q   s2 x S1 h) (by exact ev_ob_621) (by decide +kernel) (by decide +kernel) (by decide +kernel) (by decide +kernel) rfl (by (try simp only [ev_sum, ev_nv_cat]); first | done | rfl) ?_
    intro _ s104 _
    show ev_w _ _ _ _ _ [] _ _ _ _
    refine ev_r_aload_n (pc := 20) (k := 0) (v := .ref 621) trivial (by decide +kernel) (by exact (ev_l1 (by rfl) (by decide) (by decide))) ?_
    refine ev_r_getI (pc := 21) (y := 582) (ci := 13) (f := 81) (fin := 0) (by decide +kernel) (by decide +kernel) (by exact ev_ob_621) rfl ?_
    intro x105 hx105
    refine ev_r_aload_n (pc := 24) (k := 0) (v := .ref 621) trivial (by decide +kernel) (by exact (ev_l1 (by rfl) (by decide) (by decide))) ?_
    refine ev_r_getI (pc := 25) (y := 567) (ci := 13) (f := 73) (fin := 0) (by decide +kernel) (by decide +kernel) (by exact ev_ob_621) rfl ?_
    intro x106 hx106
    refine ev_r_icmp (pc := 28) (q := .ge) (o := 461) (t := 489) (c := x106 ≤ x105) (by decide +kernel) (ev_k_ge hx105 hx106) (by decide +kernel) ?_ ?_
    · intro c107
      exact ev_r_return (pc := 489) (x := ()) trivial (by decide +kernel) (by decide +kernel) rfl
    · intro c107
      refine ev_r_aload_n (pc := 31) (k := 0) (v := .ref 621) trivial (by decide +kernel) (by exact (ev_l1 (by rfl) (by decide) (by decide))) ?_
      refine ev_r_getC (pc := 32) (y := 43) (ci := 13) (f := 14) (fin := 1) (k' := 633) (by decide +kernel) (by decide +kernel) (by exact ev_ob_621) rfl rfl ?_
      refine ev_r_iload_n (pc := 35) (k := 1) (v := Int32.ofInt a0) (by decide +kernel) (by exact (ev_lk_st1 (by rfl) (by decide) rfl)) ?_
      refine ev_r_lald (pc := 36) ha0 (by decide +kernel) (by exact ev_ab_633) ?_
      intro y108
      refine ev_r_aload_n (pc := 37) (k := 0) (v := .ref 621) trivial (by decide +kernel) (by exact (ev_l1 (by rfl) (by decide) (by decide))) ?_
      refine ev_r_getC (pc := 38) (y := 47) (ci := 13) (f := 15) (fin := 1) (k' := 634) (by decide +kernel) (by decide +kernel) (by exact ev_ob_621) rfl rfl ?_
      refine ev_r_iload_n (pc := 41) (k := 1) (v := Int32.ofInt a0) (by decide +kernel) (by exact (ev_lk_st1 (by rfl) (by decide) rfl)) ?_
      refine ev_r_lald (pc := 42) ha0 (by decide +kernel) (by exact ev_ab_634) ?_
      intro y109
      refine ev_r_aload_n (pc := 43) (k := 0) (v := .ref 621) trivial (by decide +kernel) (by exact (ev_l1 (by rfl) (by decide) (by decide))) ?_
      refine ev_r_getC (pc := 44) (y := 181) (ci := 13) (f := 74) (fin := 1) (k' := 678) (by decide +kernel) (by decide +kernel) (by exact ev_ob_621) rfl rfl ?_
      refine ev_r_aload_n (pc := 47) (k := 0) (v := .ref 621) trivial (by decide +kernel) (by exact (ev_l1 (by rfl) (by decide) (by decide))) ?_
      refine ev_r_getI (pc := 48) (y := 582) (ci := 13) (f := 81) (fin := 0) (by decide +kernel) (by decide +kernel) (by exact ev_ob_621) rfl ?_
      intro x110 hx110
      refine ev_r_iald (pc := 51) hx110 (by decide +kernel) (by exact ev_ab_678) ?_
      intro x111 hx111
      refine ev_r_stat (pc := 52) (y := 534) (kind := 2) (mi := 244) (na := 3) (as := [.long y108, .long y109, .int (Int32.ofInt x111)]) (rest := []) (encc := ev_oI) (Q := ev_bl) (fun x S1 h => jt_244 d (by omega) Q y108 y109 x111 hx111 s104 x S1 h) (Or.inl rfl) (by decide +kernel) (by decide +kernel) (by decide +kernel) (by decide +kernel) rfl (by (try simp only [ev_sum, ev_nv_cat]); first | done | rfl) ?_
      intro x113 s112 hx113
      replace hx113 := ev_bl_rng hx113
      show ev_w _ _ _ _ _ [.int (Int32.ofInt x113)] _ _ _ _
      refine ev_r_if (pc := 55) (q := .eq) (o := 434) (t := 489) (c := x113 = 0) (by decide +kernel) (ev_k_eq hx113 ev_rng0) (by decide +kernel) ?_ ?_
      · intro c114
        exact ev_r_return (pc := 489) (x := ()) trivial (by decide +kernel) (by decide +kernel) rfl
      · intro c114
        refine ev_r_aload_n (pc := 58) (k := 0) (v := .ref 621) trivial (by decide +kernel) (by exact (ev_l1 (by rfl) (by decide) (by decide))) ?_
        refine ev_r_dup (pc := 59) rfl (by decide +kernel) ?_
        refine ev_r_getI (pc := 60) (y := 582) (ci := 13) (f := 81) (fin := 0) (by decide +kernel) (by decide +kernel) (by exact ev_ob_621) rfl ?_
        intro x115 hx115
        refine ev_r_iconst (pc := 63) (k := 1) (by decide +kernel) ?_
        refine ev_r_iadd (pc := 64) (by decide +kernel) ?_
        intro x116 hx116
        refine ev_r_putI (pc := 65) (y := 582) (ci := 13) (f := 81) hx116 (by decide +kernel) (by decide +kernel) (by exact ev_ob_621) rfl rfl ?_
        intro s117
        refine ev_r_aload_n (pc := 68) (k := 0) (v := .ref 621) trivial (by decide +kernel) (by exact (ev_l1 (by rfl) (by decide) (by decide))) ?_
        refine ev_r_iconst (pc := 69) (k := 4) (by decide +kernel) ?_
        refine ev_r_putI (pc := 70) (y := 617) (ci := 13) (f := 78) (by decide) (by decide +kernel) (by decide +kernel) (by exact ev_ob_621) rfl rfl ?_
        intro s118
        refine ev_r_goto (pc := 73) (o := 416) (t := 489) (by decide +kernel) (by decide +kernel) ?_
        exact ev_r_return (pc := 489) (x := ()) trivial (by decide +kernel) (by decide +kernel) rfl
/-- MendBenchModel.round(II)V -/
def jm_300 (Q : Nat) (a0 : Int) (a1 : Int) (S : ev_St) : Option ((Unit) × ev_St) := ev_bd (jm_290 Q  S) fun _ s1 => ev_ck (a1 + 1) fun x2 => ev_ck (256 * x2) fun x3 => ev_b (s1.1 621 81) fun x4 => ev_ck (x3 + x4) fun x5 => ev_b (s1.1 621 83) fun x6 => ev_b (s1.1 621 84) fun x7 => ev_bd (jm_291 Q 3 a0 x5 ((-1)) x6 x7 s1) fun x9 s8 => ev_b (ev_pI s8 621 83 x9) fun s10 => ev_b (ev_pI s10 621 78 2) fun s11 => some ((), s11)
theorem jt_300 (d : Nat) (hd : 2 ≤ d) (Q : Nat) (a0 : Int) (a1 : Int) (ha0 : ev_rng a0) (ha1 : ev_rng a1) (S : ev_St) (x : Unit) (S' : ev_St) (hJ : jm_300 Q a0 a1 S = some (x, S')) : ev_Ref d 300 [.ref 621, .int (Int32.ofInt a0), .int (Int32.ofInt a1)] S (ev_eU x) S' (ev_PU x) := by
  obtain ⟨d, rfl⟩ : ∃ e, d = e + 1 := ⟨d - 1, by omega⟩
  refine ev_ref_of (P := ev_PU) (lv := [(0, .ref 621), (1, .int (Int32.ofInt a0)), (2, .int (Int32.ofInt a1))]) (by decide +kernel) (by (try simp only [ev_sum, ev_nv_cat]); first | done | rfl) (by (try simp only [lv_args, ev_nv_cat]); first | done | rfl) ?_ x S' hJ
  unfold jm_300
  refine ev_r_aload_n (pc := 0) (k := 0) (v := .ref 621) trivial (by decide +kernel) (by rfl) ?_
  refine ev_r_virt (pc := 1) (y := 610) (mi := 290) (na := 0) (k := 621) (as := []) (rest := []) (encc := ev_oU) (Q := ev_PU) (fun x S1 h => jt_290 d (by omega) Q   S x S1 h) (by exact ev_ob_621) (by decide +kernel) (by decide +kernel) (by decide +kernel) (by decide +kernel) rfl (by (try simp only [ev_sum, ev_nv_cat]); first | done | rfl) ?_
  intro _ s1 _
  show ev_w _ _ _ _ _ [] _ _ _ _
  refine ev_r_aload_n (pc := 4) (k := 0) (v := .ref 621) trivial (by decide +kernel) (by rfl) ?_
  refine ev_r_aload_n (pc := 5) (k := 0) (v := .ref 621) trivial (by decide +kernel) (by rfl) ?_
  refine ev_r_iconst (pc := 6) (k := 3) (by decide +kernel) ?_
  refine ev_r_iload_n (pc := 7) (k := 1) (v := Int32.ofInt a0) (by decide +kernel) (by rfl) ?_
  refine ev_r_sipush (pc := 8) (k := 256) (by decide +kernel) (by decide +kernel) ?_
  refine ev_r_iload_n (pc := 11) (k := 2) (v := Int32.ofInt a1) (by decide +kernel) (by rfl) ?_
  refine ev_r_iconst (pc := 12) (k := 1) (by decide +kernel) ?_
  refine ev_r_iadd (pc := 13) (by decide +kernel) ?_
  intro x2 hx2
  refine ev_r_imul (pc := 14) (by decide +kernel) ?_
  intro x3 hx3
  refine ev_r_aload_n (pc := 15) (k := 0) (v := .ref 621) trivial (by decide +kernel) (by rfl) ?_
  refine ev_r_getI (pc := 16) (y := 582) (ci := 13) (f := 81) (fin := 0) (by decide +kernel) (by decide +kernel) (by exact ev_ob_621) rfl ?_
  intro x4 hx4
  refine ev_r_iadd (pc := 19) (by decide +kernel) ?_
  intro x5 hx5
  refine ev_r_iconst (pc := 20) (k := -1) (by decide +kernel) ?_
  refine ev_r_aload_n (pc := 21) (k := 0) (v := .ref 621) trivial (by decide +kernel) (by rfl) ?_
  refine ev_r_getI (pc := 22) (y := 588) (ci := 13) (f := 83) (fin := 0) (by decide +kernel) (by decide +kernel) (by exact ev_ob_621) rfl ?_
  intro x6 hx6
  refine ev_r_aload_n (pc := 25) (k := 0) (v := .ref 621) trivial (by decide +kernel) (by rfl) ?_
  refine ev_r_getI (pc := 26) (y := 591) (ci := 13) (f := 84) (fin := 0) (by decide +kernel) (by decide +kernel) (by exact ev_ob_621) rfl ?_
  intro x7 hx7
  refine ev_r_virt (pc := 29) (y := 613) (mi := 291) (na := 6) (k := 621) (as := [.int (Int32.ofInt 3), .int (Int32.ofInt a0), .int (Int32.ofInt x5), .int (Int32.ofInt ((-1))), .int (Int32.ofInt x6), .int (Int32.ofInt x7)]) (rest := [.ref 621]) (encc := ev_oI) (Q := ev_rng) (fun x S1 h => jt_291 d (by omega) Q 3 a0 x5 ((-1)) x6 x7 (by decide) ha0 hx5 (by decide) hx6 hx7 s1 x S1 h) (by exact ev_ob_621) (by decide +kernel) (by decide +kernel) (by decide +kernel) (by decide +kernel) rfl (by (try simp only [ev_sum, ev_nv_cat]); first | done | rfl) ?_
  intro x9 s8 hx9
  show ev_w _ _ _ _ _ [.int (Int32.ofInt x9), .ref 621] _ _ _ _
  refine ev_r_putI (pc := 32) (y := 588) (ci := 13) (f := 83) hx9 (by decide +kernel) (by decide +kernel) (by exact ev_ob_621) rfl rfl ?_
  intro s10
  refine ev_r_aload_n (pc := 35) (k := 0) (v := .ref 621) trivial (by decide +kernel) (by rfl) ?_
  refine ev_r_iconst (pc := 36) (k := 2) (by decide +kernel) ?_
  refine ev_r_putI (pc := 37) (y := 617) (ci := 13) (f := 78) (by decide) (by decide +kernel) (by decide +kernel) (by exact ev_ob_621) rfl rfl ?_
  intro s11
  exact ev_r_return (pc := 40) (x := ()) trivial (by decide +kernel) (by decide +kernel) rfl
/-- MendBenchModel.repeatOf(I)V -/
def jm_301 (Q : Nat) (a0 : Int) (S : ev_St) : Option ((Unit) × ev_St) := ev_if ((0 : Int) ≤ a0 ∧ a0 < (ev_aln 632 : Int)) (ev_b (S.1 632 (Int.toNat a0)) fun x1 => ev_jn (fun (x2 : Int) (s6 : ev_St) => ev_b (s6.1 621 85) fun x7 => ev_if ((0 : Int) ≤ a0 ∧ a0 < (ev_aln 631 : Int)) (ev_b (s6.1 631 (Int.toNat a0)) fun x8 => if x8 ≤ x7 then (if x2 ≠ 0 then (ev_if ((0 : Int) ≤ a0 ∧ a0 < (ev_aln 630 : Int)) (ev_b (s6.1 630 (Int.toNat a0)) fun x11 => if x11 ≠ 1 then (ev_bd (jm_292 Q 1 a0 0 s6) fun _ s13 => ev_b (s13.1 621 85) fun x14 => ev_bd (jm_300 Q a0 x14 s13) fun _ s15 => some ((), s15)) else (ev_b (s6.1 621 85) fun x16 => ev_bd (jm_292 Q 2 a0 x16 s6) fun _ s17 => ev_b (ev_pI s17 621 78 4) fun s18 => some ((), s18)))) else (ev_b (ev_pI s6 621 78 4) fun s19 => some ((), s19))) else (ev_b (s6.1 621 85) fun x20 => ev_bd (jm_300 Q a0 x20 s6) fun _ s21 => some ((), s21)))) fun K28 => ev_jn (fun  (s25 : ev_St) => K28 1 s25) fun K23 => if x1 = (-1) then (K23  S) else (ev_b (S.1 621 85) fun x27 => ev_if ((0 : Int) ≤ a0 ∧ a0 < (ev_aln 632 : Int)) (ev_b (S.1 632 (Int.toNat a0)) fun x28 => if x28 ≤ x27 then (K28 0 S) else (K23  S))))
theorem jt_301 (d : Nat) (hd : 3 ≤ d) (Q : Nat) (a0 : Int) (ha0 : ev_rng a0) (S : ev_St) (x : Unit) (S' : ev_St) (hJ : jm_301 Q a0 S = some (x, S')) : ev_Ref d 301 [.ref 621, .int (Int32.ofInt a0)] S (ev_eU x) S' (ev_PU x) := by
  obtain ⟨d, rfl⟩ : ∃ e, d = e + 1 := ⟨d - 1, by omega⟩
  refine ev_ref_of (P := ev_PU) (lv := [(0, .ref 621), (1, .int (Int32.ofInt a0))]) (by decide +kernel) (by (try simp only [ev_sum, ev_nv_cat]); first | done | rfl) (by (try simp only [lv_args, ev_nv_cat]); first | done | rfl) ?_ x S' hJ
  unfold jm_301
  refine ev_r_aload_n (pc := 0) (k := 0) (v := .ref 621) trivial (by decide +kernel) (by rfl) ?_
  refine ev_r_getC (pc := 1) (y := 40) (ci := 13) (f := 13) (fin := 1) (k' := 632) (by decide +kernel) (by decide +kernel) (by exact ev_ob_621) rfl rfl ?_
  refine ev_r_iload_n (pc := 4) (k := 1) (v := Int32.ofInt a0) (by decide +kernel) (by rfl) ?_
  refine ev_r_iald (pc := 5) ha0 (by decide +kernel) (by exact ev_ab_632) ?_
  intro x1 hx1
  refine ev_r_iconst (pc := 6) (k := -1) (by decide +kernel) ?_
  refine ev_r_jn (Q := fun K => ∀ (x2 : Int) (hx2 : ev_rng x2), ∀ (s6 : ev_St) (w3 : List (Nat × Value)), ev_lk w3 0 = some (.ref 621) → ev_lk w3 1 = some (.int (Int32.ofInt a0)) → ev_w none (ev_Mof 301) d 28 w3 [.int (Int32.ofInt x2)] s6 (K x2 s6) ev_eU ev_PU) ?_ ?_
  · intro x2 hx2 s6 w3 e4 e5
    refine ev_r_istore_n (pc := 28) (k := 2) (by decide +kernel) (by decide +kernel) rfl ?_
    refine ev_r_aload_n (pc := 29) (k := 0) (v := .ref 621) trivial (by decide +kernel) (by exact (ev_l1 e4 (by decide) (by decide))) ?_
    refine ev_r_getI (pc := 30) (y := 636) (ci := 13) (f := 85) (fin := 0) (by decide +kernel) (by decide +kernel) (by exact ev_ob_621) rfl ?_
    intro x7 hx7
    refine ev_r_aload_n (pc := 33) (k := 0) (v := .ref 621) trivial (by decide +kernel) (by exact (ev_l1 e4 (by decide) (by decide))) ?_
    refine ev_r_getC (pc := 34) (y := 37) (ci := 13) (f := 12) (fin := 1) (k' := 631) (by decide +kernel) (by decide +kernel) (by exact ev_ob_621) rfl rfl ?_
    refine ev_r_iload_n (pc := 37) (k := 1) (v := Int32.ofInt a0) (by decide +kernel) (by exact (ev_lk_st1 e5 (by decide) rfl)) ?_
    refine ev_r_iald (pc := 38) ha0 (by decide +kernel) (by exact ev_ab_631) ?_
    intro x8 hx8
    refine ev_r_icmp (pc := 39) (q := .ge) (o := 15) (t := 54) (c := x8 ≤ x7) (by decide +kernel) (ev_k_ge hx7 hx8) (by decide +kernel) ?_ ?_
    · intro c9
      refine ev_r_iload_n (pc := 54) (k := 2) (v := Int32.ofInt x2) (by decide +kernel) (by exact ev_lk_st1_self) ?_
      refine ev_r_if (pc := 55) (q := .ne) (o := 11) (t := 66) (c := x2 ≠ 0) (by decide +kernel) (ev_k_ne hx2 ev_rng0) (by decide +kernel) ?_ ?_
      · intro c10
        refine ev_r_aload_n (pc := 66) (k := 0) (v := .ref 621) trivial (by decide +kernel) (by exact (ev_l1 e4 (by decide) (by decide))) ?_
        refine ev_r_getC (pc := 67) (y := 34) (ci := 13) (f := 11) (fin := 1) (k' := 630) (by decide +kernel) (by decide +kernel) (by exact ev_ob_621) rfl rfl ?_
        refine ev_r_iload_n (pc := 70) (k := 1) (v := Int32.ofInt a0) (by decide +kernel) (by exact (ev_lk_st1 e5 (by decide) rfl)) ?_
        refine ev_r_iald (pc := 71) ha0 (by decide +kernel) (by exact ev_ab_630) ?_
        intro x11 hx11
        refine ev_r_iconst (pc := 72) (k := 1) (by decide +kernel) ?_
        refine ev_r_icmp (pc := 73) (q := .ne) (o := 21) (t := 94) (c := x11 ≠ 1) (by decide +kernel) (ev_k_ne hx11 (by decide)) (by decide +kernel) ?_ ?_
        · intro c12
          refine ev_r_aload_n (pc := 94) (k := 0) (v := .ref 621) trivial (by decide +kernel) (by exact (ev_l1 e4 (by decide) (by decide))) ?_
          refine ev_r_iconst (pc := 95) (k := 1) (by decide +kernel) ?_
          refine ev_r_iload_n (pc := 96) (k := 1) (v := Int32.ofInt a0) (by decide +kernel) (by exact (ev_lk_st1 e5 (by decide) rfl)) ?_
          refine ev_r_iconst (pc := 97) (k := 0) (by decide +kernel) ?_
          refine ev_r_virt (pc := 98) (y := 606) (mi := 292) (na := 3) (k := 621) (as := [.int (Int32.ofInt 1), .int (Int32.ofInt a0), .int (Int32.ofInt 0)]) (rest := []) (encc := ev_oU) (Q := ev_PU) (fun x S1 h => jt_292 d (by omega) Q 1 a0 0 (by decide) ha0 (by decide) s6 x S1 h) (by exact ev_ob_621) (by decide +kernel) (by decide +kernel) (by decide +kernel) (by decide +kernel) rfl (by (try simp only [ev_sum, ev_nv_cat]); first | done | rfl) ?_
          intro _ s13 _
          show ev_w _ _ _ _ _ [] _ _ _ _
          refine ev_r_aload_n (pc := 101) (k := 0) (v := .ref 621) trivial (by decide +kernel) (by exact (ev_l1 e4 (by decide) (by decide))) ?_
          refine ev_r_iload_n (pc := 102) (k := 1) (v := Int32.ofInt a0) (by decide +kernel) (by exact (ev_lk_st1 e5 (by decide) rfl)) ?_
          refine ev_r_aload_n (pc := 103) (k := 0) (v := .ref 621) trivial (by decide +kernel) (by exact (ev_l1 e4 (by decide) (by decide))) ?_
          refine ev_r_getI (pc := 104) (y := 636) (ci := 13) (f := 85) (fin := 0) (by decide +kernel) (by decide +kernel) (by exact ev_ob_621) rfl ?_
          intro x14 hx14
          refine ev_r_virt (pc := 107) (y := 639) (mi := 300) (na := 2) (k := 621) (as := [.int (Int32.ofInt a0), .int (Int32.ofInt x14)]) (rest := []) (encc := ev_oU) (Q := ev_PU) (fun x S1 h => jt_300 d (by omega) Q a0 x14 ha0 hx14 s13 x S1 h) (by exact ev_ob_621) (by decide +kernel) (by decide +kernel) (by decide +kernel) (by decide +kernel) rfl (by (try simp only [ev_sum, ev_nv_cat]); first | done | rfl) ?_
          intro _ s15 _
          show ev_w _ _ _ _ _ [] _ _ _ _
          exact ev_r_return (pc := 110) (x := ()) trivial (by decide +kernel) (by decide +kernel) rfl
        · intro c12
          refine ev_r_aload_n (pc := 76) (k := 0) (v := .ref 621) trivial (by decide +kernel) (by exact (ev_l1 e4 (by decide) (by decide))) ?_
          refine ev_r_iconst (pc := 77) (k := 2) (by decide +kernel) ?_
          refine ev_r_iload_n (pc := 78) (k := 1) (v := Int32.ofInt a0) (by decide +kernel) (by exact (ev_lk_st1 e5 (by decide) rfl)) ?_
          refine ev_r_aload_n (pc := 79) (k := 0) (v := .ref 621) trivial (by decide +kernel) (by exact (ev_l1 e4 (by decide) (by decide))) ?_
          refine ev_r_getI (pc := 80) (y := 636) (ci := 13) (f := 85) (fin := 0) (by decide +kernel) (by decide +kernel) (by exact ev_ob_621) rfl ?_
          intro x16 hx16
          refine ev_r_virt (pc := 83) (y := 606) (mi := 292) (na := 3) (k := 621) (as := [.int (Int32.ofInt 2), .int (Int32.ofInt a0), .int (Int32.ofInt x16)]) (rest := []) (encc := ev_oU) (Q := ev_PU) (fun x S1 h => jt_292 d (by omega) Q 2 a0 x16 (by decide) ha0 hx16 s6 x S1 h) (by exact ev_ob_621) (by decide +kernel) (by decide +kernel) (by decide +kernel) (by decide +kernel) rfl (by (try simp only [ev_sum, ev_nv_cat]); first | done | rfl) ?_
          intro _ s17 _
          show ev_w _ _ _ _ _ [] _ _ _ _
          refine ev_r_aload_n (pc := 86) (k := 0) (v := .ref 621) trivial (by decide +kernel) (by exact (ev_l1 e4 (by decide) (by decide))) ?_
          refine ev_r_iconst (pc := 87) (k := 4) (by decide +kernel) ?_
          refine ev_r_putI (pc := 88) (y := 617) (ci := 13) (f := 78) (by decide) (by decide +kernel) (by decide +kernel) (by exact ev_ob_621) rfl rfl ?_
          intro s18
          refine ev_r_goto (pc := 91) (o := 19) (t := 110) (by decide +kernel) (by decide +kernel) ?_
          exact ev_r_return (pc := 110) (x := ()) trivial (by decide +kernel) (by decide +kernel) rfl
      · intro c10
        refine ev_r_aload_n (pc := 58) (k := 0) (v := .ref 621) trivial (by decide +kernel) (by exact (ev_l1 e4 (by decide) (by decide))) ?_
        refine ev_r_iconst (pc := 59) (k := 4) (by decide +kernel) ?_
        refine ev_r_putI (pc := 60) (y := 617) (ci := 13) (f := 78) (by decide) (by decide +kernel) (by decide +kernel) (by exact ev_ob_621) rfl rfl ?_
        intro s19
        refine ev_r_goto (pc := 63) (o := 47) (t := 110) (by decide +kernel) (by decide +kernel) ?_
        exact ev_r_return (pc := 110) (x := ()) trivial (by decide +kernel) (by decide +kernel) rfl
    · intro c9
      refine ev_r_aload_n (pc := 42) (k := 0) (v := .ref 621) trivial (by decide +kernel) (by exact (ev_l1 e4 (by decide) (by decide))) ?_
      refine ev_r_iload_n (pc := 43) (k := 1) (v := Int32.ofInt a0) (by decide +kernel) (by exact (ev_lk_st1 e5 (by decide) rfl)) ?_
      refine ev_r_aload_n (pc := 44) (k := 0) (v := .ref 621) trivial (by decide +kernel) (by exact (ev_l1 e4 (by decide) (by decide))) ?_
      refine ev_r_getI (pc := 45) (y := 636) (ci := 13) (f := 85) (fin := 0) (by decide +kernel) (by decide +kernel) (by exact ev_ob_621) rfl ?_
      intro x20 hx20
      refine ev_r_virt (pc := 48) (y := 639) (mi := 300) (na := 2) (k := 621) (as := [.int (Int32.ofInt a0), .int (Int32.ofInt x20)]) (rest := []) (encc := ev_oU) (Q := ev_PU) (fun x S1 h => jt_300 d (by omega) Q a0 x20 ha0 hx20 s6 x S1 h) (by exact ev_ob_621) (by decide +kernel) (by decide +kernel) (by decide +kernel) (by decide +kernel) rfl (by (try simp only [ev_sum, ev_nv_cat]); first | done | rfl) ?_
      intro _ s21 _
      show ev_w _ _ _ _ _ [] _ _ _ _
      refine ev_r_goto (pc := 51) (o := 59) (t := 110) (by decide +kernel) (by decide +kernel) ?_
      exact ev_r_return (pc := 110) (x := ()) trivial (by decide +kernel) (by decide +kernel) rfl
  · intro K28 hK28
    refine ev_r_jn (Q := fun K => ∀ (s25 : ev_St) (w22 : List (Nat × Value)), ev_lk w22 0 = some (.ref 621) → ev_lk w22 1 = some (.int (Int32.ofInt a0)) → ev_w none (ev_Mof 301) d 23 w22 [] s25 (K  s25) ev_eU ev_PU) ?_ ?_
    · intro  s25 w22 e23 e24
      refine ev_r_iconst (pc := 23) (k := 1) (by decide +kernel) ?_
      refine ev_r_goto (pc := 24) (o := 4) (t := 28) (by decide +kernel) (by decide +kernel) ?_
      exact hK28 1 (by decide) s25 _ (by exact e23) (by exact e24)
    · intro K23 hK23
      refine ev_r_icmp (pc := 7) (q := .eq) (o := 16) (t := 23) (c := x1 = (-1)) (by decide +kernel) (ev_k_eq hx1 (by decide)) (by decide +kernel) ?_ ?_
      · intro c26
        exact hK23  S _ (by rfl) (by rfl)
      · intro c26
        refine ev_r_aload_n (pc := 10) (k := 0) (v := .ref 621) trivial (by decide +kernel) (by rfl) ?_
        refine ev_r_getI (pc := 11) (y := 636) (ci := 13) (f := 85) (fin := 0) (by decide +kernel) (by decide +kernel) (by exact ev_ob_621) rfl ?_
        intro x27 hx27
        refine ev_r_aload_n (pc := 14) (k := 0) (v := .ref 621) trivial (by decide +kernel) (by rfl) ?_
        refine ev_r_getC (pc := 15) (y := 40) (ci := 13) (f := 13) (fin := 1) (k' := 632) (by decide +kernel) (by decide +kernel) (by exact ev_ob_621) rfl rfl ?_
        refine ev_r_iload_n (pc := 18) (k := 1) (v := Int32.ofInt a0) (by decide +kernel) (by rfl) ?_
        refine ev_r_iald (pc := 19) ha0 (by decide +kernel) (by exact ev_ab_632) ?_
        intro x28 hx28
        refine ev_r_icmp (pc := 20) (q := .ge) (o := 7) (t := 27) (c := x28 ≤ x27) (by decide +kernel) (ev_k_ge hx27 hx28) (by decide +kernel) ?_ ?_
        · intro c29
          refine ev_r_iconst (pc := 27) (k := 0) (by decide +kernel) ?_
          exact hK28 0 (by decide) S _ (by rfl) (by rfl)
        · intro c29
          exact hK23  S _ (by rfl) (by rfl)
/-- MendBenchModel.rowOf(IZ)V -/
def jm_302 (Q : Nat) (a0 : Int) (a1 : Int) (S : ev_St) : Option ((Unit) × ev_St) := ev_jn (fun  (s4 : ev_St) => ev_b (ev_pI s4 621 80 a0) fun s5 => ev_b (ev_pI s5 621 78 7) fun s6 => some ((), s6)) fun K35 => if a1 = 0 then (K35  S) else (ev_if ((0 : Int) ≤ a0 ∧ a0 < (ev_aln 627 : Int)) (ev_b (S.1 627 (Int.toNat a0)) fun x8 => ev_jn (fun  (s12 : ev_St) => ev_bd (jm_290 Q  s12) fun _ s13 => K35  s13) fun K31 => if x8 = (-1) then (K31  S) else (ev_b (S.1 621 79) fun x15 => ev_if ((0 : Int) ≤ a0 ∧ a0 < (ev_aln 627 : Int)) (ev_b (S.1 627 (Int.toNat a0)) fun x16 => ev_ck (x15 + x16) fun x17 => ev_bd (jm_292 Q 0 x17 0 S) fun _ s18 => K31  s18))))
theorem jt_302 (d : Nat) (hd : 2 ≤ d) (Q : Nat) (a0 : Int) (a1 : Int) (ha0 : ev_rng a0) (ha1 : ev_rng a1) (S : ev_St) (x : Unit) (S' : ev_St) (hJ : jm_302 Q a0 a1 S = some (x, S')) : ev_Ref d 302 [.ref 621, .int (Int32.ofInt a0), .int (Int32.ofInt a1)] S (ev_eU x) S' (ev_PU x) := by
  obtain ⟨d, rfl⟩ : ∃ e, d = e + 1 := ⟨d - 1, by omega⟩
  refine ev_ref_of (P := ev_PU) (lv := [(0, .ref 621), (1, .int (Int32.ofInt a0)), (2, .int (Int32.ofInt a1))]) (by decide +kernel) (by (try simp only [ev_sum, ev_nv_cat]); first | done | rfl) (by (try simp only [lv_args, ev_nv_cat]); first | done | rfl) ?_ x S' hJ
  unfold jm_302
  refine ev_r_iload_n (pc := 0) (k := 2) (v := Int32.ofInt a1) (by decide +kernel) (by rfl) ?_
  refine ev_r_jn (Q := fun K => ∀ (s4 : ev_St) (w1 : List (Nat × Value)), ev_lk w1 0 = some (.ref 621) → ev_lk w1 1 = some (.int (Int32.ofInt a0)) → ev_w none (ev_Mof 302) d 35 w1 [] s4 (K  s4) ev_eU ev_PU) ?_ ?_
  · intro  s4 w1 e2 e3
    refine ev_r_aload_n (pc := 35) (k := 0) (v := .ref 621) trivial (by decide +kernel) (by exact e2) ?_
    refine ev_r_iload_n (pc := 36) (k := 1) (v := Int32.ofInt a0) (by decide +kernel) (by exact e3) ?_
    refine ev_r_putI (pc := 37) (y := 597) (ci := 13) (f := 80) ha0 (by decide +kernel) (by decide +kernel) (by exact ev_ob_621) rfl rfl ?_
    intro s5
    refine ev_r_aload_n (pc := 40) (k := 0) (v := .ref 621) trivial (by decide +kernel) (by exact e2) ?_
    refine ev_r_bipush (pc := 41) (k := 7) (by decide +kernel) (by decide +kernel) ?_
    refine ev_r_putI (pc := 43) (y := 617) (ci := 13) (f := 78) (by decide) (by decide +kernel) (by decide +kernel) (by exact ev_ob_621) rfl rfl ?_
    intro s6
    exact ev_r_return (pc := 46) (x := ()) trivial (by decide +kernel) (by decide +kernel) rfl
  · intro K35 hK35
    refine ev_r_if (pc := 1) (q := .eq) (o := 34) (t := 35) (c := a1 = 0) (by decide +kernel) (ev_k_eq ha1 ev_rng0) (by decide +kernel) ?_ ?_
    · intro c7
      exact hK35  S _ (by rfl) (by rfl)
    · intro c7
      refine ev_r_aload_n (pc := 4) (k := 0) (v := .ref 621) trivial (by decide +kernel) (by rfl) ?_
      refine ev_r_getC (pc := 5) (y := 25) (ci := 13) (f := 8) (fin := 1) (k' := 627) (by decide +kernel) (by decide +kernel) (by exact ev_ob_621) rfl rfl ?_
      refine ev_r_iload_n (pc := 8) (k := 1) (v := Int32.ofInt a0) (by decide +kernel) (by rfl) ?_
      refine ev_r_iald (pc := 9) ha0 (by decide +kernel) (by exact ev_ab_627) ?_
      intro x8 hx8
      refine ev_r_iconst (pc := 10) (k := -1) (by decide +kernel) ?_
      refine ev_r_jn (Q := fun K => ∀ (s12 : ev_St) (w9 : List (Nat × Value)), ev_lk w9 0 = some (.ref 621) → ev_lk w9 1 = some (.int (Int32.ofInt a0)) → ev_w none (ev_Mof 302) d 31 w9 [] s12 (K  s12) ev_eU ev_PU) ?_ ?_
      · intro  s12 w9 e10 e11
        refine ev_r_aload_n (pc := 31) (k := 0) (v := .ref 621) trivial (by decide +kernel) (by exact e10) ?_
        refine ev_r_virt (pc := 32) (y := 610) (mi := 290) (na := 0) (k := 621) (as := []) (rest := []) (encc := ev_oU) (Q := ev_PU) (fun x S1 h => jt_290 d (by omega) Q   s12 x S1 h) (by exact ev_ob_621) (by decide +kernel) (by decide +kernel) (by decide +kernel) (by decide +kernel) rfl (by (try simp only [ev_sum, ev_nv_cat]); first | done | rfl) ?_
        intro _ s13 _
        show ev_w _ _ _ _ _ [] _ _ _ _
        exact hK35  s13 _ (by exact e10) (by exact e11)
      · intro K31 hK31
        refine ev_r_icmp (pc := 11) (q := .eq) (o := 20) (t := 31) (c := x8 = (-1)) (by decide +kernel) (ev_k_eq hx8 (by decide)) (by decide +kernel) ?_ ?_
        · intro c14
          exact hK31  S _ (by rfl) (by rfl)
        · intro c14
          refine ev_r_aload_n (pc := 14) (k := 0) (v := .ref 621) trivial (by decide +kernel) (by rfl) ?_
          refine ev_r_iconst (pc := 15) (k := 0) (by decide +kernel) ?_
          refine ev_r_aload_n (pc := 16) (k := 0) (v := .ref 621) trivial (by decide +kernel) (by rfl) ?_
          refine ev_r_getI (pc := 17) (y := 633) (ci := 13) (f := 79) (fin := 0) (by decide +kernel) (by decide +kernel) (by exact ev_ob_621) rfl ?_
          intro x15 hx15
          refine ev_r_aload_n (pc := 20) (k := 0) (v := .ref 621) trivial (by decide +kernel) (by rfl) ?_
          refine ev_r_getC (pc := 21) (y := 25) (ci := 13) (f := 8) (fin := 1) (k' := 627) (by decide +kernel) (by decide +kernel) (by exact ev_ob_621) rfl rfl ?_
          refine ev_r_iload_n (pc := 24) (k := 1) (v := Int32.ofInt a0) (by decide +kernel) (by rfl) ?_
          refine ev_r_iald (pc := 25) ha0 (by decide +kernel) (by exact ev_ab_627) ?_
          intro x16 hx16
          refine ev_r_iadd (pc := 26) (by decide +kernel) ?_
          intro x17 hx17
          refine ev_r_iconst (pc := 27) (k := 0) (by decide +kernel) ?_
          refine ev_r_virt (pc := 28) (y := 606) (mi := 292) (na := 3) (k := 621) (as := [.int (Int32.ofInt 0), .int (Int32.ofInt x17), .int (Int32.ofInt 0)]) (rest := []) (encc := ev_oU) (Q := ev_PU) (fun x S1 h => jt_292 d (by omega) Q 0 x17 0 (by decide) hx17 (by decide) S x S1 h) (by exact ev_ob_621) (by decide +kernel) (by decide +kernel) (by decide +kernel) (by decide +kernel) rfl (by (try simp only [ev_sum, ev_nv_cat]); first | done | rfl) ?_
          intro _ s18 _
          show ev_w _ _ _ _ _ [] _ _ _ _
          exact hK31  s18 _ (by rfl) (by rfl)
/-- MendBenchModel.itemOf(I)V -/
def jm_303 (Q : Nat) (a0 : Int) (S : ev_St) : Option ((Unit) × ev_St) := ev_b (ev_pI S 621 85 0) fun s1 => ev_if ((0 : Int) ≤ a0 ∧ a0 < (ev_aln 630 : Int)) (ev_b (s1.1 630 (Int.toNat a0)) fun x2 => if x2 ≠ 2 then (ev_if ((0 : Int) ≤ a0 ∧ a0 < (ev_aln 630 : Int)) (ev_b (s1.1 630 (Int.toNat a0)) fun x4 => if x4 ≠ (-1) then (ev_bd (jm_290 Q  s1) fun _ s6 => ev_b (ev_pI s6 621 78 6) fun s7 => some ((), s7)) else (ev_b (ev_pI s1 621 78 2) fun s8 => some ((), s8)))) else (ev_bd (jm_298 Q a0 3 5 6 s1) fun _ s9 => ev_b (s9.1 621 78) fun x10 => if x10 ≠ 6 then (some ((), s9)) else (ev_bd (jm_290 Q  s9) fun _ s12 => some ((), s12))))
theorem jt_303 (d : Nat) (hd : 3 ≤ d) (Q : Nat) (a0 : Int) (ha0 : ev_rng a0) (S : ev_St) (x : Unit) (S' : ev_St) (hJ : jm_303 Q a0 S = some (x, S')) : ev_Ref d 303 [.ref 621, .int (Int32.ofInt a0)] S (ev_eU x) S' (ev_PU x) := by
  obtain ⟨d, rfl⟩ : ∃ e, d = e + 1 := ⟨d - 1, by omega⟩
  refine ev_ref_of (P := ev_PU) (lv := [(0, .ref 621), (1, .int (Int32.ofInt a0))]) (by decide +kernel) (by (try simp only [ev_sum, ev_nv_cat]); first | done | rfl) (by (try simp only [lv_args, ev_nv_cat]); first | done | rfl) ?_ x S' hJ
  unfold jm_303
  refine ev_r_aload_n (pc := 0) (k := 0) (v := .ref 621) trivial (by decide +kernel) (by rfl) ?_
  refine ev_r_iconst (pc := 1) (k := 0) (by decide +kernel) ?_
  refine ev_r_putI (pc := 2) (y := 636) (ci := 13) (f := 85) (by decide) (by decide +kernel) (by decide +kernel) (by exact ev_ob_621) rfl rfl ?_
  intro s1
  refine ev_r_aload_n (pc := 5) (k := 0) (v := .ref 621) trivial (by decide +kernel) (by rfl) ?_
  refine ev_r_getC (pc := 6) (y := 34) (ci := 13) (f := 11) (fin := 1) (k' := 630) (by decide +kernel) (by decide +kernel) (by exact ev_ob_621) rfl rfl ?_
  refine ev_r_iload_n (pc := 9) (k := 1) (v := Int32.ofInt a0) (by decide +kernel) (by rfl) ?_
  refine ev_r_iald (pc := 10) ha0 (by decide +kernel) (by exact ev_ab_630) ?_
  intro x2 hx2
  refine ev_r_iconst (pc := 11) (k := 2) (by decide +kernel) ?_
  refine ev_r_icmp (pc := 12) (q := .ne) (o := 28) (t := 40) (c := x2 ≠ 2) (by decide +kernel) (ev_k_ne hx2 (by decide)) (by decide +kernel) ?_ ?_
  · intro c3
    refine ev_r_aload_n (pc := 40) (k := 0) (v := .ref 621) trivial (by decide +kernel) (by rfl) ?_
    refine ev_r_getC (pc := 41) (y := 34) (ci := 13) (f := 11) (fin := 1) (k' := 630) (by decide +kernel) (by decide +kernel) (by exact ev_ob_621) rfl rfl ?_
    refine ev_r_iload_n (pc := 44) (k := 1) (v := Int32.ofInt a0) (by decide +kernel) (by rfl) ?_
    refine ev_r_iald (pc := 45) ha0 (by decide +kernel) (by exact ev_ab_630) ?_
    intro x4 hx4
    refine ev_r_iconst (pc := 46) (k := -1) (by decide +kernel) ?_
    refine ev_r_icmp (pc := 47) (q := .ne) (o := 11) (t := 58) (c := x4 ≠ (-1)) (by decide +kernel) (ev_k_ne hx4 (by decide)) (by decide +kernel) ?_ ?_
    · intro c5
      refine ev_r_aload_n (pc := 58) (k := 0) (v := .ref 621) trivial (by decide +kernel) (by rfl) ?_
      refine ev_r_virt (pc := 59) (y := 610) (mi := 290) (na := 0) (k := 621) (as := []) (rest := []) (encc := ev_oU) (Q := ev_PU) (fun x S1 h => jt_290 d (by omega) Q   s1 x S1 h) (by exact ev_ob_621) (by decide +kernel) (by decide +kernel) (by decide +kernel) (by decide +kernel) rfl (by (try simp only [ev_sum, ev_nv_cat]); first | done | rfl) ?_
      intro _ s6 _
      show ev_w _ _ _ _ _ [] _ _ _ _
      refine ev_r_aload_n (pc := 62) (k := 0) (v := .ref 621) trivial (by decide +kernel) (by rfl) ?_
      refine ev_r_bipush (pc := 63) (k := 6) (by decide +kernel) (by decide +kernel) ?_
      refine ev_r_putI (pc := 65) (y := 617) (ci := 13) (f := 78) (by decide) (by decide +kernel) (by decide +kernel) (by exact ev_ob_621) rfl rfl ?_
      intro s7
      exact ev_r_return (pc := 68) (x := ()) trivial (by decide +kernel) (by decide +kernel) rfl
    · intro c5
      refine ev_r_aload_n (pc := 50) (k := 0) (v := .ref 621) trivial (by decide +kernel) (by rfl) ?_
      refine ev_r_iconst (pc := 51) (k := 2) (by decide +kernel) ?_
      refine ev_r_putI (pc := 52) (y := 617) (ci := 13) (f := 78) (by decide) (by decide +kernel) (by decide +kernel) (by exact ev_ob_621) rfl rfl ?_
      intro s8
      refine ev_r_goto (pc := 55) (o := 13) (t := 68) (by decide +kernel) (by decide +kernel) ?_
      exact ev_r_return (pc := 68) (x := ()) trivial (by decide +kernel) (by decide +kernel) rfl
  · intro c3
    refine ev_r_aload_n (pc := 15) (k := 0) (v := .ref 621) trivial (by decide +kernel) (by rfl) ?_
    refine ev_r_iload_n (pc := 16) (k := 1) (v := Int32.ofInt a0) (by decide +kernel) (by rfl) ?_
    refine ev_r_iconst (pc := 17) (k := 3) (by decide +kernel) ?_
    refine ev_r_iconst (pc := 18) (k := 5) (by decide +kernel) ?_
    refine ev_r_bipush (pc := 19) (k := 6) (by decide +kernel) (by decide +kernel) ?_
    refine ev_r_virt (pc := 21) (y := 626) (mi := 298) (na := 4) (k := 621) (as := [.int (Int32.ofInt a0), .int (Int32.ofInt 3), .int (Int32.ofInt 5), .int (Int32.ofInt 6)]) (rest := []) (encc := ev_oU) (Q := ev_PU) (fun x S1 h => jt_298 d (by omega) Q a0 3 5 6 ha0 (by decide) (by decide) (by decide) s1 x S1 h) (by exact ev_ob_621) (by decide +kernel) (by decide +kernel) (by decide +kernel) (by decide +kernel) rfl (by (try simp only [ev_sum, ev_nv_cat]); first | done | rfl) ?_
    intro _ s9 _
    show ev_w _ _ _ _ _ [] _ _ _ _
    refine ev_r_aload_n (pc := 24) (k := 0) (v := .ref 621) trivial (by decide +kernel) (by rfl) ?_
    refine ev_r_getI (pc := 25) (y := 617) (ci := 13) (f := 78) (fin := 0) (by decide +kernel) (by decide +kernel) (by exact ev_ob_621) rfl ?_
    intro x10 hx10
    refine ev_r_bipush (pc := 28) (k := 6) (by decide +kernel) (by decide +kernel) ?_
    refine ev_r_icmp (pc := 30) (q := .ne) (o := 38) (t := 68) (c := x10 ≠ 6) (by decide +kernel) (ev_k_ne hx10 (by decide)) (by decide +kernel) ?_ ?_
    · intro c11
      exact ev_r_return (pc := 68) (x := ()) trivial (by decide +kernel) (by decide +kernel) rfl
    · intro c11
      refine ev_r_aload_n (pc := 33) (k := 0) (v := .ref 621) trivial (by decide +kernel) (by rfl) ?_
      refine ev_r_virt (pc := 34) (y := 610) (mi := 290) (na := 0) (k := 621) (as := []) (rest := []) (encc := ev_oU) (Q := ev_PU) (fun x S1 h => jt_290 d (by omega) Q   s9 x S1 h) (by exact ev_ob_621) (by decide +kernel) (by decide +kernel) (by decide +kernel) (by decide +kernel) rfl (by (try simp only [ev_sum, ev_nv_cat]); first | done | rfl) ?_
      intro _ s12 _
      show ev_w _ _ _ _ _ [] _ _ _ _
      refine ev_r_goto (pc := 37) (o := 31) (t := 68) (by decide +kernel) (by decide +kernel) ?_
      exact ev_r_return (pc := 68) (x := ()) trivial (by decide +kernel) (by decide +kernel) rfl
/-- MendBenchModel.proceeds()V -/
def jm_304 (Q : Nat)  (S : ev_St) : Option ((Unit) × ev_St) := ev_b (S.1 621 83) fun x1 => ev_if ((0 : Int) ≤ x1 ∧ x1 < (ev_aln 681 : Int)) (ev_b (S.1 681 (Int.toNat x1)) fun x2 => ev_if ((0 : Int) ≤ x1 ∧ x1 < (ev_aln 682 : Int)) (ev_b (S.1 682 (Int.toNat x1)) fun x3 => ev_if ((0 : Int) ≤ x1 ∧ x1 < (ev_aln 683 : Int)) (ev_b (S.1 683 (Int.toNat x1)) fun x4 => ev_if ((0 : Int) ≤ x1 ∧ x1 < (ev_aln 685 : Int)) (ev_b (S.1 685 (Int.toNat x1)) fun x5 => ev_b (ev_pI S 621 83 x5) fun s6 => ev_if ((0 : Int) ≤ x1 ∧ x1 < (ev_aln 686 : Int)) (ev_b (s6.1 686 (Int.toNat x1)) fun x7 => ev_b (ev_pI s6 621 84 x7) fun s8 => if x2 ≠ 0 then (if x2 ≠ 1 then (if x2 ≠ 2 then (if x2 ≠ 3 then (if x2 ≠ 4 then (if x2 ≠ 5 then (ev_jn (fun  (s19 : ev_St) => ev_b (ev_pI s19 621 95 x4) fun s20 => ev_if ((0 : Int) ≤ x4 ∧ x4 < (ev_aln 690 : Int)) (ev_b (s20.1 690 (Int.toNat x4)) fun x21 => ev_b (ev_pI s20 621 81 x21) fun s22 => ev_if ((0 : Int) ≤ x3 ∧ x3 < (ev_aln 629 : Int)) (ev_b (s22.1 629 (Int.toNat x3)) fun x23 => if x23 ≤ 0 then (ev_b (ev_pI s22 621 78 4) fun s25 => some ((), s25)) else (ev_b (ev_pI s22 621 78 5) fun s26 => some ((), s26))))) fun K316 => if x2 = 6 then (K316  s8) else (ev_b (s8.1 621 81) fun x28 => ev_if ((0 : Int) ≤ x4 ∧ x4 < (ev_aln 690 : Int)) (ev_b (s8.1 690 (Int.toNat x4)) fun x29 => if x28 ≠ x29 then (ev_b (ev_pI s8 621 78 5) fun s31 => some ((), s31)) else (K316  s8)))) else (ev_b (ev_pI s8 621 95 x4) fun s32 => some ((), s32))) else (ev_if ((0 : Int) ≤ x1 ∧ x1 < (ev_aln 684 : Int)) (ev_b (s8.1 684 (Int.toNat x1)) fun x33 => ev_b (ev_pI s8 621 82 x33) fun s34 => some ((), s34)))) else (ev_if (256 ≠ 0) (ev_b (ev_idiv x4 256) fun x35 => ev_b (ev_pI s8 621 85 x35) fun s36 => ev_b (ev_pI s36 621 80 x3) fun s37 => ev_if ((0 : Int) ≤ x3 ∧ x3 < (ev_aln 632 : Int)) (ev_b (s37.1 632 (Int.toNat x3)) fun x38 => if x38 ≠ (-1) then (ev_b (ev_pI s37 621 78 6) fun s40 => some ((), s40)) else (ev_b (s37.1 621 85) fun x41 => ev_if ((0 : Int) ≤ x3 ∧ x3 < (ev_aln 631 : Int)) (ev_b (s37.1 631 (Int.toNat x3)) fun x42 => if x41 ≤ x42 then (ev_b (ev_pI s37 621 78 6) fun s44 => some ((), s44)) else (ev_b (s37.1 621 81) fun x45 => ev_if (256 ≠ 0) (ev_b (ev_irem x4 256) fun x46 => if x45 ≠ x46 then (ev_b (ev_pI s37 621 78 6) fun s48 => some ((), s48)) else (ev_b (ev_pI s37 621 78 5) fun s49 => some ((), s49)))))))))) else (ev_b (s8.1 621 105) fun x50 => ev_if ((0 : Int) ≤ x3 ∧ x3 < (ev_aln 628 : Int)) (ev_b (s8.1 628 (Int.toNat x3)) fun x51 => ev_if ((0 : Int) ≤ x50 ∧ x50 < (ev_aln 696 : Int)) (ev_b (ev_pI s8 696 (Int.toNat x50) x51) fun s52 => ev_b (s52.1 621 105) fun x53 => ev_if ((0 : Int) ≤ x53 ∧ x53 < (ev_aln 697 : Int)) (ev_b (ev_pI s52 697 (Int.toNat x53) x4) fun s54 => ev_b (s54.1 621 105) fun x55 => ev_b (s54.1 621 81) fun x56 => ev_if ((0 : Int) ≤ x55 ∧ x55 < (ev_aln 698 : Int)) (ev_b (ev_pI s54 698 (Int.toNat x55) x56) fun s57 => ev_b (s57.1 621 105) fun x58 => ev_b (s57.1 621 82) fun x59 => ev_if ((0 : Int) ≤ x58 ∧ x58 < (ev_aln 699 : Int)) (ev_b (ev_pI s57 699 (Int.toNat x58) x59) fun s60 => ev_b (s60.1 621 105) fun x61 => ev_b (ev_pI s60 621 82 x61) fun s62 => ev_b (s62.1 621 105) fun x63 => ev_ck (x63 + 1) fun x64 => ev_b (ev_pI s62 621 105 x64) fun s65 => some ((), s65)))))))) else (ev_if ((0 : Int) ≤ x3 ∧ x3 < (ev_aln 627 : Int)) (ev_b (s8.1 627 (Int.toNat x3)) fun x66 => ev_jn (fun  (s70 : ev_St) => ev_b (ev_pI s70 621 80 x3) fun s71 => ev_b (ev_pI s71 621 78 1) fun s72 => some ((), s72)) fun K104 => if x66 = (-1) then (K104  s8) else (ev_b (s8.1 621 79) fun x74 => ev_if ((0 : Int) ≤ x3 ∧ x3 < (ev_aln 627 : Int)) (ev_b (s8.1 627 (Int.toNat x3)) fun x75 => ev_ck (x74 + x75) fun x76 => ev_b (s8.1 621 83) fun x77 => ev_b (s8.1 621 84) fun x78 => ev_bd (jm_291 Q 1 x76 0 ((-1)) x77 x78 s8) fun x80 s79 => ev_b (ev_pI s79 621 83 x80) fun s81 => K104  s81))))) else (ev_b (ev_pI s8 621 78 0) fun s82 => some ((), s82)))))))
theorem jt_304 (d : Nat) (hd : 2 ≤ d) (Q : Nat)   (S : ev_St) (x : Unit) (S' : ev_St) (hJ : jm_304 Q  S = some (x, S')) : ev_Ref d 304 [.ref 621] S (ev_eU x) S' (ev_PU x) := by
  obtain ⟨d, rfl⟩ : ∃ e, d = e + 1 := ⟨d - 1, by omega⟩
  refine ev_ref_of (P := ev_PU) (lv := [(0, .ref 621)]) (by decide +kernel) (by (try simp only [ev_sum, ev_nv_cat]); first | done | rfl) (by (try simp only [lv_args, ev_nv_cat]); first | done | rfl) ?_ x S' hJ
  unfold jm_304
  refine ev_r_aload_n (pc := 0) (k := 0) (v := .ref 621) trivial (by decide +kernel) (by rfl) ?_
  refine ev_r_getI (pc := 1) (y := 588) (ci := 13) (f := 83) (fin := 0) (by decide +kernel) (by decide +kernel) (by exact ev_ob_621) rfl ?_
  intro x1 hx1
  refine ev_r_istore_n (pc := 4) (k := 1) (by decide +kernel) (by decide +kernel) rfl ?_
  refine ev_r_aload_n (pc := 5) (k := 0) (v := .ref 621) trivial (by decide +kernel) (by exact (ev_lk_st1 (by rfl) (by decide) rfl)) ?_
  refine ev_r_getC (pc := 6) (y := 191) (ci := 13) (f := 89) (fin := 1) (k' := 681) (by decide +kernel) (by decide +kernel) (by exact ev_ob_621) rfl rfl ?_
  refine ev_r_iload_n (pc := 9) (k := 1) (v := Int32.ofInt x1) (by decide +kernel) (by exact ev_lk_st1_self) ?_
  refine ev_r_iald (pc := 10) hx1 (by decide +kernel) (by exact ev_ab_681) ?_
  intro x2 hx2
  refine ev_r_istore_n (pc := 11) (k := 2) (by decide +kernel) (by decide +kernel) rfl ?_
  refine ev_r_aload_n (pc := 12) (k := 0) (v := .ref 621) trivial (by decide +kernel) (by exact (ev_l1 (ev_lk_st1 (by rfl) (by decide) rfl) (by decide) (by decide))) ?_
  refine ev_r_getC (pc := 13) (y := 194) (ci := 13) (f := 90) (fin := 1) (k' := 682) (by decide +kernel) (by decide +kernel) (by exact ev_ob_621) rfl rfl ?_
  refine ev_r_iload_n (pc := 16) (k := 1) (v := Int32.ofInt x1) (by decide +kernel) (by exact (ev_lk_st1 ev_lk_st1_self (by decide) rfl)) ?_
  refine ev_r_iald (pc := 17) hx1 (by decide +kernel) (by exact ev_ab_682) ?_
  intro x3 hx3
  refine ev_r_istore_n (pc := 18) (k := 3) (by decide +kernel) (by decide +kernel) rfl ?_
  refine ev_r_aload_n (pc := 19) (k := 0) (v := .ref 621) trivial (by decide +kernel) (by exact (ev_l1 (ev_l1 (ev_lk_st1 (by rfl) (by decide) rfl) (by decide) (by decide)) (by decide) (by decide))) ?_
  refine ev_r_getC (pc := 20) (y := 197) (ci := 13) (f := 91) (fin := 1) (k' := 683) (by decide +kernel) (by decide +kernel) (by exact ev_ob_621) rfl rfl ?_
  refine ev_r_iload_n (pc := 23) (k := 1) (v := Int32.ofInt x1) (by decide +kernel) (by exact (ev_l1 (ev_lk_st1 ev_lk_st1_self (by decide) rfl) (by decide) (by decide))) ?_
  refine ev_r_iald (pc := 24) hx1 (by decide +kernel) (by exact ev_ab_683) ?_
  intro x4 hx4
  refine ev_r_istore (pc := 25) (k := 4) (by decide +kernel) (by decide +kernel) rfl ?_
  refine ev_r_aload_n (pc := 27) (k := 0) (v := .ref 621) trivial (by decide +kernel) (by exact (ev_l1 (ev_l1 (ev_l1 (ev_lk_st1 (by rfl) (by decide) rfl) (by decide) (by decide)) (by decide) (by decide)) (by decide) (by decide))) ?_
  refine ev_r_aload_n (pc := 28) (k := 0) (v := .ref 621) trivial (by decide +kernel) (by exact (ev_l1 (ev_l1 (ev_l1 (ev_lk_st1 (by rfl) (by decide) rfl) (by decide) (by decide)) (by decide) (by decide)) (by decide) (by decide))) ?_
  refine ev_r_getC (pc := 29) (y := 203) (ci := 13) (f := 93) (fin := 1) (k' := 685) (by decide +kernel) (by decide +kernel) (by exact ev_ob_621) rfl rfl ?_
  refine ev_r_iload_n (pc := 32) (k := 1) (v := Int32.ofInt x1) (by decide +kernel) (by exact (ev_l1 (ev_l1 (ev_lk_st1 ev_lk_st1_self (by decide) rfl) (by decide) (by decide)) (by decide) (by decide))) ?_
  refine ev_r_iald (pc := 33) hx1 (by decide +kernel) (by exact ev_ab_685) ?_
  intro x5 hx5
  refine ev_r_putI (pc := 34) (y := 588) (ci := 13) (f := 83) hx5 (by decide +kernel) (by decide +kernel) (by exact ev_ob_621) rfl rfl ?_
  intro s6
  refine ev_r_aload_n (pc := 37) (k := 0) (v := .ref 621) trivial (by decide +kernel) (by exact (ev_l1 (ev_l1 (ev_l1 (ev_lk_st1 (by rfl) (by decide) rfl) (by decide) (by decide)) (by decide) (by decide)) (by decide) (by decide))) ?_
  refine ev_r_aload_n (pc := 38) (k := 0) (v := .ref 621) trivial (by decide +kernel) (by exact (ev_l1 (ev_l1 (ev_l1 (ev_lk_st1 (by rfl) (by decide) rfl) (by decide) (by decide)) (by decide) (by decide)) (by decide) (by decide))) ?_
  refine ev_r_getC (pc := 39) (y := 206) (ci := 13) (f := 94) (fin := 1) (k' := 686) (by decide +kernel) (by decide +kernel) (by exact ev_ob_621) rfl rfl ?_
  refine ev_r_iload_n (pc := 42) (k := 1) (v := Int32.ofInt x1) (by decide +kernel) (by exact (ev_l1 (ev_l1 (ev_lk_st1 ev_lk_st1_self (by decide) rfl) (by decide) (by decide)) (by decide) (by decide))) ?_
  refine ev_r_iald (pc := 43) hx1 (by decide +kernel) (by exact ev_ab_686) ?_
  intro x7 hx7
  refine ev_r_putI (pc := 44) (y := 591) (ci := 13) (f := 84) hx7 (by decide +kernel) (by decide +kernel) (by exact ev_ob_621) rfl rfl ?_
  intro s8
  refine ev_r_iload_n (pc := 47) (k := 2) (v := Int32.ofInt x2) (by decide +kernel) (by exact (ev_l1 (ev_lk_st1 ev_lk_st1_self (by decide) rfl) (by decide) (by decide))) ?_
  refine ev_r_if (pc := 48) (q := .ne) (o := 11) (t := 59) (c := x2 ≠ 0) (by decide +kernel) (ev_k_ne hx2 ev_rng0) (by decide +kernel) ?_ ?_
  · intro c9
    refine ev_r_iload_n (pc := 59) (k := 2) (v := Int32.ofInt x2) (by decide +kernel) (by exact (ev_l1 (ev_lk_st1 ev_lk_st1_self (by decide) rfl) (by decide) (by decide))) ?_
    refine ev_r_iconst (pc := 60) (k := 1) (by decide +kernel) ?_
    refine ev_r_icmp (pc := 61) (q := .ne) (o := 56) (t := 117) (c := x2 ≠ 1) (by decide +kernel) (ev_k_ne hx2 (by decide)) (by decide +kernel) ?_ ?_
    · intro c10
      refine ev_r_iload_n (pc := 117) (k := 2) (v := Int32.ofInt x2) (by decide +kernel) (by exact (ev_l1 (ev_lk_st1 ev_lk_st1_self (by decide) rfl) (by decide) (by decide))) ?_
      refine ev_r_iconst (pc := 118) (k := 2) (by decide +kernel) ?_
      refine ev_r_icmp (pc := 119) (q := .ne) (o := 76) (t := 195) (c := x2 ≠ 2) (by decide +kernel) (ev_k_ne hx2 (by decide)) (by decide +kernel) ?_ ?_
      · intro c11
        refine ev_r_iload_n (pc := 195) (k := 2) (v := Int32.ofInt x2) (by decide +kernel) (by exact (ev_l1 (ev_lk_st1 ev_lk_st1_self (by decide) rfl) (by decide) (by decide))) ?_
        refine ev_r_iconst (pc := 196) (k := 3) (by decide +kernel) ?_
        refine ev_r_icmp (pc := 197) (q := .ne) (o := 67) (t := 264) (c := x2 ≠ 3) (by decide +kernel) (ev_k_ne hx2 (by decide)) (by decide +kernel) ?_ ?_
        · intro c12
          refine ev_r_iload_n (pc := 264) (k := 2) (v := Int32.ofInt x2) (by decide +kernel) (by exact (ev_l1 (ev_lk_st1 ev_lk_st1_self (by decide) rfl) (by decide) (by decide))) ?_
          refine ev_r_iconst (pc := 265) (k := 4) (by decide +kernel) ?_
          refine ev_r_icmp (pc := 266) (q := .ne) (o := 16) (t := 282) (c := x2 ≠ 4) (by decide +kernel) (ev_k_ne hx2 (by decide)) (by decide +kernel) ?_ ?_
          · intro c13
            refine ev_r_iload_n (pc := 282) (k := 2) (v := Int32.ofInt x2) (by decide +kernel) (by exact (ev_l1 (ev_lk_st1 ev_lk_st1_self (by decide) rfl) (by decide) (by decide))) ?_
            refine ev_r_iconst (pc := 283) (k := 5) (by decide +kernel) ?_
            refine ev_r_icmp (pc := 284) (q := .ne) (o := 12) (t := 296) (c := x2 ≠ 5) (by decide +kernel) (ev_k_ne hx2 (by decide)) (by decide +kernel) ?_ ?_
            · intro c14
              refine ev_r_iload_n (pc := 296) (k := 2) (v := Int32.ofInt x2) (by decide +kernel) (by exact (ev_l1 (ev_lk_st1 ev_lk_st1_self (by decide) rfl) (by decide) (by decide))) ?_
              refine ev_r_bipush (pc := 297) (k := 6) (by decide +kernel) (by decide +kernel) ?_
              refine ev_r_jn (Q := fun K => ∀ (s19 : ev_St) (w15 : List (Nat × Value)), ev_lk w15 0 = some (.ref 621) → ev_lk w15 3 = some (.int (Int32.ofInt x3)) → ev_lk w15 4 = some (.int (Int32.ofInt x4)) → ev_w none (ev_Mof 304) d 316 w15 [] s19 (K  s19) ev_eU ev_PU) ?_ ?_
              · intro  s19 w15 e16 e17 e18
                refine ev_r_aload_n (pc := 316) (k := 0) (v := .ref 621) trivial (by decide +kernel) (by exact e16) ?_
                refine ev_r_iload (pc := 317) (k := 4) (v := Int32.ofInt x4) (by decide +kernel) (by exact e18) ?_
                refine ev_r_putI (pc := 319) (y := 579) (ci := 13) (f := 95) hx4 (by decide +kernel) (by decide +kernel) (by exact ev_ob_621) rfl rfl ?_
                intro s20
                refine ev_r_aload_n (pc := 322) (k := 0) (v := .ref 621) trivial (by decide +kernel) (by exact e16) ?_
                refine ev_r_aload_n (pc := 323) (k := 0) (v := .ref 621) trivial (by decide +kernel) (by exact e16) ?_
                refine ev_r_getC (pc := 324) (y := 219) (ci := 13) (f := 99) (fin := 1) (k' := 690) (by decide +kernel) (by decide +kernel) (by exact ev_ob_621) rfl rfl ?_
                refine ev_r_iload (pc := 327) (k := 4) (v := Int32.ofInt x4) (by decide +kernel) (by exact e18) ?_
                refine ev_r_iald (pc := 329) hx4 (by decide +kernel) (by exact ev_ab_690) ?_
                intro x21 hx21
                refine ev_r_putI (pc := 330) (y := 582) (ci := 13) (f := 81) hx21 (by decide +kernel) (by decide +kernel) (by exact ev_ob_621) rfl rfl ?_
                intro s22
                refine ev_r_aload_n (pc := 333) (k := 0) (v := .ref 621) trivial (by decide +kernel) (by exact e16) ?_
                refine ev_r_aload_n (pc := 334) (k := 0) (v := .ref 621) trivial (by decide +kernel) (by exact e16) ?_
                refine ev_r_getC (pc := 335) (y := 31) (ci := 13) (f := 10) (fin := 1) (k' := 629) (by decide +kernel) (by decide +kernel) (by exact ev_ob_621) rfl rfl ?_
                refine ev_r_iload_n (pc := 338) (k := 3) (v := Int32.ofInt x3) (by decide +kernel) (by exact e17) ?_
                refine ev_r_iald (pc := 339) hx3 (by decide +kernel) (by exact ev_ab_629) ?_
                intro x23 hx23
                refine ev_r_if (pc := 340) (q := .le) (o := 7) (t := 347) (c := x23 ≤ 0) (by decide +kernel) (ev_k_le hx23 ev_rng0) (by decide +kernel) ?_ ?_
                · intro c24
                  refine ev_r_iconst (pc := 347) (k := 4) (by decide +kernel) ?_
                  refine ev_r_putI (pc := 348) (y := 617) (ci := 13) (f := 78) (by decide) (by decide +kernel) (by decide +kernel) (by exact ev_ob_621) rfl rfl ?_
                  intro s25
                  refine ev_r_goto (pc := 351) (o := 8) (t := 359) (by decide +kernel) (by decide +kernel) ?_
                  exact ev_r_return (pc := 359) (x := ()) trivial (by decide +kernel) (by decide +kernel) rfl
                · intro c24
                  refine ev_r_iconst (pc := 343) (k := 5) (by decide +kernel) ?_
                  refine ev_r_goto (pc := 344) (o := 4) (t := 348) (by decide +kernel) (by decide +kernel) ?_
                  refine ev_r_putI (pc := 348) (y := 617) (ci := 13) (f := 78) (by decide) (by decide +kernel) (by decide +kernel) (by exact ev_ob_621) rfl rfl ?_
                  intro s26
                  refine ev_r_goto (pc := 351) (o := 8) (t := 359) (by decide +kernel) (by decide +kernel) ?_
                  exact ev_r_return (pc := 359) (x := ()) trivial (by decide +kernel) (by decide +kernel) rfl
              · intro K316 hK316
                refine ev_r_icmp (pc := 299) (q := .eq) (o := 17) (t := 316) (c := x2 = 6) (by decide +kernel) (ev_k_eq hx2 (by decide)) (by decide +kernel) ?_ ?_
                · intro c27
                  exact hK316  s8 _ (by exact (ev_l1 (ev_l1 (ev_l1 (ev_lk_st1 (by rfl) (by decide) rfl) (by decide) (by decide)) (by decide) (by decide)) (by decide) (by decide))) (by exact (ev_lk_st1 ev_lk_st1_self (by decide) rfl)) (by exact ev_lk_st1_self)
                · intro c27
                  refine ev_r_aload_n (pc := 302) (k := 0) (v := .ref 621) trivial (by decide +kernel) (by exact (ev_l1 (ev_l1 (ev_l1 (ev_lk_st1 (by rfl) (by decide) rfl) (by decide) (by decide)) (by decide) (by decide)) (by decide) (by decide))) ?_
                  refine ev_r_getI (pc := 303) (y := 582) (ci := 13) (f := 81) (fin := 0) (by decide +kernel) (by decide +kernel) (by exact ev_ob_621) rfl ?_
                  intro x28 hx28
                  refine ev_r_aload_n (pc := 306) (k := 0) (v := .ref 621) trivial (by decide +kernel) (by exact (ev_l1 (ev_l1 (ev_l1 (ev_lk_st1 (by rfl) (by decide) rfl) (by decide) (by decide)) (by decide) (by decide)) (by decide) (by decide))) ?_
                  refine ev_r_getC (pc := 307) (y := 219) (ci := 13) (f := 99) (fin := 1) (k' := 690) (by decide +kernel) (by decide +kernel) (by exact ev_ob_621) rfl rfl ?_
                  refine ev_r_iload (pc := 310) (k := 4) (v := Int32.ofInt x4) (by decide +kernel) (by exact ev_lk_st1_self) ?_
                  refine ev_r_iald (pc := 312) hx4 (by decide +kernel) (by exact ev_ab_690) ?_
                  intro x29 hx29
                  refine ev_r_icmp (pc := 313) (q := .ne) (o := 41) (t := 354) (c := x28 ≠ x29) (by decide +kernel) (ev_k_ne hx28 hx29) (by decide +kernel) ?_ ?_
                  · intro c30
                    refine ev_r_aload_n (pc := 354) (k := 0) (v := .ref 621) trivial (by decide +kernel) (by exact (ev_l1 (ev_l1 (ev_l1 (ev_lk_st1 (by rfl) (by decide) rfl) (by decide) (by decide)) (by decide) (by decide)) (by decide) (by decide))) ?_
                    refine ev_r_iconst (pc := 355) (k := 5) (by decide +kernel) ?_
                    refine ev_r_putI (pc := 356) (y := 617) (ci := 13) (f := 78) (by decide) (by decide +kernel) (by decide +kernel) (by exact ev_ob_621) rfl rfl ?_
                    intro s31
                    exact ev_r_return (pc := 359) (x := ()) trivial (by decide +kernel) (by decide +kernel) rfl
                  · intro c30
                    exact hK316  s8 _ (by exact (ev_l1 (ev_l1 (ev_l1 (ev_lk_st1 (by rfl) (by decide) rfl) (by decide) (by decide)) (by decide) (by decide)) (by decide) (by decide))) (by exact (ev_lk_st1 ev_lk_st1_self (by decide) rfl)) (by exact ev_lk_st1_self)
            · intro c14
              refine ev_r_aload_n (pc := 287) (k := 0) (v := .ref 621) trivial (by decide +kernel) (by exact (ev_l1 (ev_l1 (ev_l1 (ev_lk_st1 (by rfl) (by decide) rfl) (by decide) (by decide)) (by decide) (by decide)) (by decide) (by decide))) ?_
              refine ev_r_iload (pc := 288) (k := 4) (v := Int32.ofInt x4) (by decide +kernel) (by exact ev_lk_st1_self) ?_
              refine ev_r_putI (pc := 290) (y := 579) (ci := 13) (f := 95) hx4 (by decide +kernel) (by decide +kernel) (by exact ev_ob_621) rfl rfl ?_
              intro s32
              refine ev_r_goto (pc := 293) (o := 66) (t := 359) (by decide +kernel) (by decide +kernel) ?_
              exact ev_r_return (pc := 359) (x := ()) trivial (by decide +kernel) (by decide +kernel) rfl
          · intro c13
            refine ev_r_aload_n (pc := 269) (k := 0) (v := .ref 621) trivial (by decide +kernel) (by exact (ev_l1 (ev_l1 (ev_l1 (ev_lk_st1 (by rfl) (by decide) rfl) (by decide) (by decide)) (by decide) (by decide)) (by decide) (by decide))) ?_
            refine ev_r_aload_n (pc := 270) (k := 0) (v := .ref 621) trivial (by decide +kernel) (by exact (ev_l1 (ev_l1 (ev_l1 (ev_lk_st1 (by rfl) (by decide) rfl) (by decide) (by decide)) (by decide) (by decide)) (by decide) (by decide))) ?_
            refine ev_r_getC (pc := 271) (y := 200) (ci := 13) (f := 92) (fin := 1) (k' := 684) (by decide +kernel) (by decide +kernel) (by exact ev_ob_621) rfl rfl ?_
            refine ev_r_iload_n (pc := 274) (k := 1) (v := Int32.ofInt x1) (by decide +kernel) (by exact (ev_l1 (ev_l1 (ev_lk_st1 ev_lk_st1_self (by decide) rfl) (by decide) (by decide)) (by decide) (by decide))) ?_
            refine ev_r_iald (pc := 275) hx1 (by decide +kernel) (by exact ev_ab_684) ?_
            intro x33 hx33
            refine ev_r_putI (pc := 276) (y := 585) (ci := 13) (f := 82) hx33 (by decide +kernel) (by decide +kernel) (by exact ev_ob_621) rfl rfl ?_
            intro s34
            refine ev_r_goto (pc := 279) (o := 80) (t := 359) (by decide +kernel) (by decide +kernel) ?_
            exact ev_r_return (pc := 359) (x := ()) trivial (by decide +kernel) (by decide +kernel) rfl
        · intro c12
          refine ev_r_aload_n (pc := 200) (k := 0) (v := .ref 621) trivial (by decide +kernel) (by exact (ev_l1 (ev_l1 (ev_l1 (ev_lk_st1 (by rfl) (by decide) rfl) (by decide) (by decide)) (by decide) (by decide)) (by decide) (by decide))) ?_
          refine ev_r_iload (pc := 201) (k := 4) (v := Int32.ofInt x4) (by decide +kernel) (by exact ev_lk_st1_self) ?_
          refine ev_r_sipush (pc := 203) (k := 256) (by decide +kernel) (by decide +kernel) ?_
          refine ev_r_idiv (pc := 206) (by decide) (by decide +kernel) ?_
          intro x35 hx35
          refine ev_r_putI (pc := 207) (y := 636) (ci := 13) (f := 85) hx35 (by decide +kernel) (by decide +kernel) (by exact ev_ob_621) rfl rfl ?_
          intro s36
          refine ev_r_aload_n (pc := 210) (k := 0) (v := .ref 621) trivial (by decide +kernel) (by exact (ev_l1 (ev_l1 (ev_l1 (ev_lk_st1 (by rfl) (by decide) rfl) (by decide) (by decide)) (by decide) (by decide)) (by decide) (by decide))) ?_
          refine ev_r_iload_n (pc := 211) (k := 3) (v := Int32.ofInt x3) (by decide +kernel) (by exact (ev_lk_st1 ev_lk_st1_self (by decide) rfl)) ?_
          refine ev_r_putI (pc := 212) (y := 597) (ci := 13) (f := 80) hx3 (by decide +kernel) (by decide +kernel) (by exact ev_ob_621) rfl rfl ?_
          intro s37
          refine ev_r_aload_n (pc := 215) (k := 0) (v := .ref 621) trivial (by decide +kernel) (by exact (ev_l1 (ev_l1 (ev_l1 (ev_lk_st1 (by rfl) (by decide) rfl) (by decide) (by decide)) (by decide) (by decide)) (by decide) (by decide))) ?_
          refine ev_r_aload_n (pc := 216) (k := 0) (v := .ref 621) trivial (by decide +kernel) (by exact (ev_l1 (ev_l1 (ev_l1 (ev_lk_st1 (by rfl) (by decide) rfl) (by decide) (by decide)) (by decide) (by decide)) (by decide) (by decide))) ?_
          refine ev_r_getC (pc := 217) (y := 40) (ci := 13) (f := 13) (fin := 1) (k' := 632) (by decide +kernel) (by decide +kernel) (by exact ev_ob_621) rfl rfl ?_
          refine ev_r_iload_n (pc := 220) (k := 3) (v := Int32.ofInt x3) (by decide +kernel) (by exact (ev_lk_st1 ev_lk_st1_self (by decide) rfl)) ?_
          refine ev_r_iald (pc := 221) hx3 (by decide +kernel) (by exact ev_ab_632) ?_
          intro x38 hx38
          refine ev_r_iconst (pc := 222) (k := -1) (by decide +kernel) ?_
          refine ev_r_icmp (pc := 223) (q := .ne) (o := 33) (t := 256) (c := x38 ≠ (-1)) (by decide +kernel) (ev_k_ne hx38 (by decide)) (by decide +kernel) ?_ ?_
          · intro c39
            refine ev_r_bipush (pc := 256) (k := 6) (by decide +kernel) (by decide +kernel) ?_
            refine ev_r_putI (pc := 258) (y := 617) (ci := 13) (f := 78) (by decide) (by decide +kernel) (by decide +kernel) (by exact ev_ob_621) rfl rfl ?_
            intro s40
            refine ev_r_goto (pc := 261) (o := 98) (t := 359) (by decide +kernel) (by decide +kernel) ?_
            exact ev_r_return (pc := 359) (x := ()) trivial (by decide +kernel) (by decide +kernel) rfl
          · intro c39
            refine ev_r_aload_n (pc := 226) (k := 0) (v := .ref 621) trivial (by decide +kernel) (by exact (ev_l1 (ev_l1 (ev_l1 (ev_lk_st1 (by rfl) (by decide) rfl) (by decide) (by decide)) (by decide) (by decide)) (by decide) (by decide))) ?_
            refine ev_r_getI (pc := 227) (y := 636) (ci := 13) (f := 85) (fin := 0) (by decide +kernel) (by decide +kernel) (by exact ev_ob_621) rfl ?_
            intro x41 hx41
            refine ev_r_aload_n (pc := 230) (k := 0) (v := .ref 621) trivial (by decide +kernel) (by exact (ev_l1 (ev_l1 (ev_l1 (ev_lk_st1 (by rfl) (by decide) rfl) (by decide) (by decide)) (by decide) (by decide)) (by decide) (by decide))) ?_
            refine ev_r_getC (pc := 231) (y := 37) (ci := 13) (f := 12) (fin := 1) (k' := 631) (by decide +kernel) (by decide +kernel) (by exact ev_ob_621) rfl rfl ?_
            refine ev_r_iload_n (pc := 234) (k := 3) (v := Int32.ofInt x3) (by decide +kernel) (by exact (ev_lk_st1 ev_lk_st1_self (by decide) rfl)) ?_
            refine ev_r_iald (pc := 235) hx3 (by decide +kernel) (by exact ev_ab_631) ?_
            intro x42 hx42
            refine ev_r_icmp (pc := 236) (q := .le) (o := 20) (t := 256) (c := x41 ≤ x42) (by decide +kernel) (ev_k_le hx41 hx42) (by decide +kernel) ?_ ?_
            · intro c43
              refine ev_r_bipush (pc := 256) (k := 6) (by decide +kernel) (by decide +kernel) ?_
              refine ev_r_putI (pc := 258) (y := 617) (ci := 13) (f := 78) (by decide) (by decide +kernel) (by decide +kernel) (by exact ev_ob_621) rfl rfl ?_
              intro s44
              refine ev_r_goto (pc := 261) (o := 98) (t := 359) (by decide +kernel) (by decide +kernel) ?_
              exact ev_r_return (pc := 359) (x := ()) trivial (by decide +kernel) (by decide +kernel) rfl
            · intro c43
              refine ev_r_aload_n (pc := 239) (k := 0) (v := .ref 621) trivial (by decide +kernel) (by exact (ev_l1 (ev_l1 (ev_l1 (ev_lk_st1 (by rfl) (by decide) rfl) (by decide) (by decide)) (by decide) (by decide)) (by decide) (by decide))) ?_
              refine ev_r_getI (pc := 240) (y := 582) (ci := 13) (f := 81) (fin := 0) (by decide +kernel) (by decide +kernel) (by exact ev_ob_621) rfl ?_
              intro x45 hx45
              refine ev_r_iload (pc := 243) (k := 4) (v := Int32.ofInt x4) (by decide +kernel) (by exact ev_lk_st1_self) ?_
              refine ev_r_sipush (pc := 245) (k := 256) (by decide +kernel) (by decide +kernel) ?_
              refine ev_r_irem (pc := 248) (by decide) (by decide +kernel) ?_
              intro x46 hx46
              refine ev_r_icmp (pc := 249) (q := .ne) (o := 7) (t := 256) (c := x45 ≠ x46) (by decide +kernel) (ev_k_ne hx45 hx46) (by decide +kernel) ?_ ?_
              · intro c47
                refine ev_r_bipush (pc := 256) (k := 6) (by decide +kernel) (by decide +kernel) ?_
                refine ev_r_putI (pc := 258) (y := 617) (ci := 13) (f := 78) (by decide) (by decide +kernel) (by decide +kernel) (by exact ev_ob_621) rfl rfl ?_
                intro s48
                refine ev_r_goto (pc := 261) (o := 98) (t := 359) (by decide +kernel) (by decide +kernel) ?_
                exact ev_r_return (pc := 359) (x := ()) trivial (by decide +kernel) (by decide +kernel) rfl
              · intro c47
                refine ev_r_iconst (pc := 252) (k := 5) (by decide +kernel) ?_
                refine ev_r_goto (pc := 253) (o := 5) (t := 258) (by decide +kernel) (by decide +kernel) ?_
                refine ev_r_putI (pc := 258) (y := 617) (ci := 13) (f := 78) (by decide) (by decide +kernel) (by decide +kernel) (by exact ev_ob_621) rfl rfl ?_
                intro s49
                refine ev_r_goto (pc := 261) (o := 98) (t := 359) (by decide +kernel) (by decide +kernel) ?_
                exact ev_r_return (pc := 359) (x := ()) trivial (by decide +kernel) (by decide +kernel) rfl
      · intro c11
        refine ev_r_aload_n (pc := 122) (k := 0) (v := .ref 621) trivial (by decide +kernel) (by exact (ev_l1 (ev_l1 (ev_l1 (ev_lk_st1 (by rfl) (by decide) rfl) (by decide) (by decide)) (by decide) (by decide)) (by decide) (by decide))) ?_
        refine ev_r_getC (pc := 123) (y := 237) (ci := 13) (f := 106) (fin := 1) (k' := 696) (by decide +kernel) (by decide +kernel) (by exact ev_ob_621) rfl rfl ?_
        refine ev_r_aload_n (pc := 126) (k := 0) (v := .ref 621) trivial (by decide +kernel) (by exact (ev_l1 (ev_l1 (ev_l1 (ev_lk_st1 (by rfl) (by decide) rfl) (by decide) (by decide)) (by decide) (by decide)) (by decide) (by decide))) ?_
        refine ev_r_getI (pc := 127) (y := 594) (ci := 13) (f := 105) (fin := 0) (by decide +kernel) (by decide +kernel) (by exact ev_ob_621) rfl ?_
        intro x50 hx50
        refine ev_r_aload_n (pc := 130) (k := 0) (v := .ref 621) trivial (by decide +kernel) (by exact (ev_l1 (ev_l1 (ev_l1 (ev_lk_st1 (by rfl) (by decide) rfl) (by decide) (by decide)) (by decide) (by decide)) (by decide) (by decide))) ?_
        refine ev_r_getC (pc := 131) (y := 28) (ci := 13) (f := 9) (fin := 1) (k' := 628) (by decide +kernel) (by decide +kernel) (by exact ev_ob_621) rfl rfl ?_
        refine ev_r_iload_n (pc := 134) (k := 3) (v := Int32.ofInt x3) (by decide +kernel) (by exact (ev_lk_st1 ev_lk_st1_self (by decide) rfl)) ?_
        refine ev_r_iald (pc := 135) hx3 (by decide +kernel) (by exact ev_ab_628) ?_
        intro x51 hx51
        refine ev_r_iast (pc := 136) hx51 hx50 (by decide +kernel) (by exact ev_ab_696) ?_
        intro s52
        refine ev_r_aload_n (pc := 137) (k := 0) (v := .ref 621) trivial (by decide +kernel) (by exact (ev_l1 (ev_l1 (ev_l1 (ev_lk_st1 (by rfl) (by decide) rfl) (by decide) (by decide)) (by decide) (by decide)) (by decide) (by decide))) ?_
        refine ev_r_getC (pc := 138) (y := 240) (ci := 13) (f := 107) (fin := 1) (k' := 697) (by decide +kernel) (by decide +kernel) (by exact ev_ob_621) rfl rfl ?_
        refine ev_r_aload_n (pc := 141) (k := 0) (v := .ref 621) trivial (by decide +kernel) (by exact (ev_l1 (ev_l1 (ev_l1 (ev_lk_st1 (by rfl) (by decide) rfl) (by decide) (by decide)) (by decide) (by decide)) (by decide) (by decide))) ?_
        refine ev_r_getI (pc := 142) (y := 594) (ci := 13) (f := 105) (fin := 0) (by decide +kernel) (by decide +kernel) (by exact ev_ob_621) rfl ?_
        intro x53 hx53
        refine ev_r_iload (pc := 145) (k := 4) (v := Int32.ofInt x4) (by decide +kernel) (by exact ev_lk_st1_self) ?_
        refine ev_r_iast (pc := 147) hx4 hx53 (by decide +kernel) (by exact ev_ab_697) ?_
        intro s54
        refine ev_r_aload_n (pc := 148) (k := 0) (v := .ref 621) trivial (by decide +kernel) (by exact (ev_l1 (ev_l1 (ev_l1 (ev_lk_st1 (by rfl) (by decide) rfl) (by decide) (by decide)) (by decide) (by decide)) (by decide) (by decide))) ?_
        refine ev_r_getC (pc := 149) (y := 243) (ci := 13) (f := 108) (fin := 1) (k' := 698) (by decide +kernel) (by decide +kernel) (by exact ev_ob_621) rfl rfl ?_
        refine ev_r_aload_n (pc := 152) (k := 0) (v := .ref 621) trivial (by decide +kernel) (by exact (ev_l1 (ev_l1 (ev_l1 (ev_lk_st1 (by rfl) (by decide) rfl) (by decide) (by decide)) (by decide) (by decide)) (by decide) (by decide))) ?_
        refine ev_r_getI (pc := 153) (y := 594) (ci := 13) (f := 105) (fin := 0) (by decide +kernel) (by decide +kernel) (by exact ev_ob_621) rfl ?_
        intro x55 hx55
        refine ev_r_aload_n (pc := 156) (k := 0) (v := .ref 621) trivial (by decide +kernel) (by exact (ev_l1 (ev_l1 (ev_l1 (ev_lk_st1 (by rfl) (by decide) rfl) (by decide) (by decide)) (by decide) (by decide)) (by decide) (by decide))) ?_
        refine ev_r_getI (pc := 157) (y := 582) (ci := 13) (f := 81) (fin := 0) (by decide +kernel) (by decide +kernel) (by exact ev_ob_621) rfl ?_
        intro x56 hx56
        refine ev_r_iast (pc := 160) hx56 hx55 (by decide +kernel) (by exact ev_ab_698) ?_
        intro s57
        refine ev_r_aload_n (pc := 161) (k := 0) (v := .ref 621) trivial (by decide +kernel) (by exact (ev_l1 (ev_l1 (ev_l1 (ev_lk_st1 (by rfl) (by decide) rfl) (by decide) (by decide)) (by decide) (by decide)) (by decide) (by decide))) ?_
        refine ev_r_getC (pc := 162) (y := 246) (ci := 13) (f := 109) (fin := 1) (k' := 699) (by decide +kernel) (by decide +kernel) (by exact ev_ob_621) rfl rfl ?_
        refine ev_r_aload_n (pc := 165) (k := 0) (v := .ref 621) trivial (by decide +kernel) (by exact (ev_l1 (ev_l1 (ev_l1 (ev_lk_st1 (by rfl) (by decide) rfl) (by decide) (by decide)) (by decide) (by decide)) (by decide) (by decide))) ?_
        refine ev_r_getI (pc := 166) (y := 594) (ci := 13) (f := 105) (fin := 0) (by decide +kernel) (by decide +kernel) (by exact ev_ob_621) rfl ?_
        intro x58 hx58
        refine ev_r_aload_n (pc := 169) (k := 0) (v := .ref 621) trivial (by decide +kernel) (by exact (ev_l1 (ev_l1 (ev_l1 (ev_lk_st1 (by rfl) (by decide) rfl) (by decide) (by decide)) (by decide) (by decide)) (by decide) (by decide))) ?_
        refine ev_r_getI (pc := 170) (y := 585) (ci := 13) (f := 82) (fin := 0) (by decide +kernel) (by decide +kernel) (by exact ev_ob_621) rfl ?_
        intro x59 hx59
        refine ev_r_iast (pc := 173) hx59 hx58 (by decide +kernel) (by exact ev_ab_699) ?_
        intro s60
        refine ev_r_aload_n (pc := 174) (k := 0) (v := .ref 621) trivial (by decide +kernel) (by exact (ev_l1 (ev_l1 (ev_l1 (ev_lk_st1 (by rfl) (by decide) rfl) (by decide) (by decide)) (by decide) (by decide)) (by decide) (by decide))) ?_
        refine ev_r_aload_n (pc := 175) (k := 0) (v := .ref 621) trivial (by decide +kernel) (by exact (ev_l1 (ev_l1 (ev_l1 (ev_lk_st1 (by rfl) (by decide) rfl) (by decide) (by decide)) (by decide) (by decide)) (by decide) (by decide))) ?_
        refine ev_r_getI (pc := 176) (y := 594) (ci := 13) (f := 105) (fin := 0) (by decide +kernel) (by decide +kernel) (by exact ev_ob_621) rfl ?_
        intro x61 hx61
        refine ev_r_putI (pc := 179) (y := 585) (ci := 13) (f := 82) hx61 (by decide +kernel) (by decide +kernel) (by exact ev_ob_621) rfl rfl ?_
        intro s62
        refine ev_r_aload_n (pc := 182) (k := 0) (v := .ref 621) trivial (by decide +kernel) (by exact (ev_l1 (ev_l1 (ev_l1 (ev_lk_st1 (by rfl) (by decide) rfl) (by decide) (by decide)) (by decide) (by decide)) (by decide) (by decide))) ?_
        refine ev_r_dup (pc := 183) rfl (by decide +kernel) ?_
        refine ev_r_getI (pc := 184) (y := 594) (ci := 13) (f := 105) (fin := 0) (by decide +kernel) (by decide +kernel) (by exact ev_ob_621) rfl ?_
        intro x63 hx63
        refine ev_r_iconst (pc := 187) (k := 1) (by decide +kernel) ?_
        refine ev_r_iadd (pc := 188) (by decide +kernel) ?_
        intro x64 hx64
        refine ev_r_putI (pc := 189) (y := 594) (ci := 13) (f := 105) hx64 (by decide +kernel) (by decide +kernel) (by exact ev_ob_621) rfl rfl ?_
        intro s65
        refine ev_r_goto (pc := 192) (o := 167) (t := 359) (by decide +kernel) (by decide +kernel) ?_
        exact ev_r_return (pc := 359) (x := ()) trivial (by decide +kernel) (by decide +kernel) rfl
    · intro c10
      refine ev_r_aload_n (pc := 64) (k := 0) (v := .ref 621) trivial (by decide +kernel) (by exact (ev_l1 (ev_l1 (ev_l1 (ev_lk_st1 (by rfl) (by decide) rfl) (by decide) (by decide)) (by decide) (by decide)) (by decide) (by decide))) ?_
      refine ev_r_getC (pc := 65) (y := 25) (ci := 13) (f := 8) (fin := 1) (k' := 627) (by decide +kernel) (by decide +kernel) (by exact ev_ob_621) rfl rfl ?_
      refine ev_r_iload_n (pc := 68) (k := 3) (v := Int32.ofInt x3) (by decide +kernel) (by exact (ev_lk_st1 ev_lk_st1_self (by decide) rfl)) ?_
      refine ev_r_iald (pc := 69) hx3 (by decide +kernel) (by exact ev_ab_627) ?_
      intro x66 hx66
      refine ev_r_iconst (pc := 70) (k := -1) (by decide +kernel) ?_
      refine ev_r_jn (Q := fun K => ∀ (s70 : ev_St) (w67 : List (Nat × Value)), ev_lk w67 0 = some (.ref 621) → ev_lk w67 3 = some (.int (Int32.ofInt x3)) → ev_w none (ev_Mof 304) d 104 w67 [] s70 (K  s70) ev_eU ev_PU) ?_ ?_
      · intro  s70 w67 e68 e69
        refine ev_r_aload_n (pc := 104) (k := 0) (v := .ref 621) trivial (by decide +kernel) (by exact e68) ?_
        refine ev_r_iload_n (pc := 105) (k := 3) (v := Int32.ofInt x3) (by decide +kernel) (by exact e69) ?_
        refine ev_r_putI (pc := 106) (y := 597) (ci := 13) (f := 80) hx3 (by decide +kernel) (by decide +kernel) (by exact ev_ob_621) rfl rfl ?_
        intro s71
        refine ev_r_aload_n (pc := 109) (k := 0) (v := .ref 621) trivial (by decide +kernel) (by exact e68) ?_
        refine ev_r_iconst (pc := 110) (k := 1) (by decide +kernel) ?_
        refine ev_r_putI (pc := 111) (y := 617) (ci := 13) (f := 78) (by decide) (by decide +kernel) (by decide +kernel) (by exact ev_ob_621) rfl rfl ?_
        intro s72
        refine ev_r_goto (pc := 114) (o := 245) (t := 359) (by decide +kernel) (by decide +kernel) ?_
        exact ev_r_return (pc := 359) (x := ()) trivial (by decide +kernel) (by decide +kernel) rfl
      · intro K104 hK104
        refine ev_r_icmp (pc := 71) (q := .eq) (o := 33) (t := 104) (c := x66 = (-1)) (by decide +kernel) (ev_k_eq hx66 (by decide)) (by decide +kernel) ?_ ?_
        · intro c73
          exact hK104  s8 _ (by exact (ev_l1 (ev_l1 (ev_l1 (ev_lk_st1 (by rfl) (by decide) rfl) (by decide) (by decide)) (by decide) (by decide)) (by decide) (by decide))) (by exact (ev_lk_st1 ev_lk_st1_self (by decide) rfl))
        · intro c73
          refine ev_r_aload_n (pc := 74) (k := 0) (v := .ref 621) trivial (by decide +kernel) (by exact (ev_l1 (ev_l1 (ev_l1 (ev_lk_st1 (by rfl) (by decide) rfl) (by decide) (by decide)) (by decide) (by decide)) (by decide) (by decide))) ?_
          refine ev_r_aload_n (pc := 75) (k := 0) (v := .ref 621) trivial (by decide +kernel) (by exact (ev_l1 (ev_l1 (ev_l1 (ev_lk_st1 (by rfl) (by decide) rfl) (by decide) (by decide)) (by decide) (by decide)) (by decide) (by decide))) ?_
          refine ev_r_iconst (pc := 76) (k := 1) (by decide +kernel) ?_
          refine ev_r_aload_n (pc := 77) (k := 0) (v := .ref 621) trivial (by decide +kernel) (by exact (ev_l1 (ev_l1 (ev_l1 (ev_lk_st1 (by rfl) (by decide) rfl) (by decide) (by decide)) (by decide) (by decide)) (by decide) (by decide))) ?_
          refine ev_r_getI (pc := 78) (y := 633) (ci := 13) (f := 79) (fin := 0) (by decide +kernel) (by decide +kernel) (by exact ev_ob_621) rfl ?_
          intro x74 hx74
          refine ev_r_aload_n (pc := 81) (k := 0) (v := .ref 621) trivial (by decide +kernel) (by exact (ev_l1 (ev_l1 (ev_l1 (ev_lk_st1 (by rfl) (by decide) rfl) (by decide) (by decide)) (by decide) (by decide)) (by decide) (by decide))) ?_
          refine ev_r_getC (pc := 82) (y := 25) (ci := 13) (f := 8) (fin := 1) (k' := 627) (by decide +kernel) (by decide +kernel) (by exact ev_ob_621) rfl rfl ?_
          refine ev_r_iload_n (pc := 85) (k := 3) (v := Int32.ofInt x3) (by decide +kernel) (by exact (ev_lk_st1 ev_lk_st1_self (by decide) rfl)) ?_
          refine ev_r_iald (pc := 86) hx3 (by decide +kernel) (by exact ev_ab_627) ?_
          intro x75 hx75
          refine ev_r_iadd (pc := 87) (by decide +kernel) ?_
          intro x76 hx76
          refine ev_r_iconst (pc := 88) (k := 0) (by decide +kernel) ?_
          refine ev_r_iconst (pc := 89) (k := -1) (by decide +kernel) ?_
          refine ev_r_aload_n (pc := 90) (k := 0) (v := .ref 621) trivial (by decide +kernel) (by exact (ev_l1 (ev_l1 (ev_l1 (ev_lk_st1 (by rfl) (by decide) rfl) (by decide) (by decide)) (by decide) (by decide)) (by decide) (by decide))) ?_
          refine ev_r_getI (pc := 91) (y := 588) (ci := 13) (f := 83) (fin := 0) (by decide +kernel) (by decide +kernel) (by exact ev_ob_621) rfl ?_
          intro x77 hx77
          refine ev_r_aload_n (pc := 94) (k := 0) (v := .ref 621) trivial (by decide +kernel) (by exact (ev_l1 (ev_l1 (ev_l1 (ev_lk_st1 (by rfl) (by decide) rfl) (by decide) (by decide)) (by decide) (by decide)) (by decide) (by decide))) ?_
          refine ev_r_getI (pc := 95) (y := 591) (ci := 13) (f := 84) (fin := 0) (by decide +kernel) (by decide +kernel) (by exact ev_ob_621) rfl ?_
          intro x78 hx78
          refine ev_r_virt (pc := 98) (y := 613) (mi := 291) (na := 6) (k := 621) (as := [.int (Int32.ofInt 1), .int (Int32.ofInt x76), .int (Int32.ofInt 0), .int (Int32.ofInt ((-1))), .int (Int32.ofInt x77), .int (Int32.ofInt x78)]) (rest := [.ref 621]) (encc := ev_oI) (Q := ev_rng) (fun x S1 h => jt_291 d (by omega) Q 1 x76 0 ((-1)) x77 x78 (by decide) hx76 (by decide) (by decide) hx77 hx78 s8 x S1 h) (by exact ev_ob_621) (by decide +kernel) (by decide +kernel) (by decide +kernel) (by decide +kernel) rfl (by (try simp only [ev_sum, ev_nv_cat]); first | done | rfl) ?_
          intro x80 s79 hx80
          show ev_w _ _ _ _ _ [.int (Int32.ofInt x80), .ref 621] _ _ _ _
          refine ev_r_putI (pc := 101) (y := 588) (ci := 13) (f := 83) hx80 (by decide +kernel) (by decide +kernel) (by exact ev_ob_621) rfl rfl ?_
          intro s81
          exact hK104  s81 _ (by exact (ev_l1 (ev_l1 (ev_l1 (ev_lk_st1 (by rfl) (by decide) rfl) (by decide) (by decide)) (by decide) (by decide)) (by decide) (by decide))) (by exact (ev_lk_st1 ev_lk_st1_self (by decide) rfl))
  · intro c9
    refine ev_r_aload_n (pc := 51) (k := 0) (v := .ref 621) trivial (by decide +kernel) (by exact (ev_l1 (ev_l1 (ev_l1 (ev_lk_st1 (by rfl) (by decide) rfl) (by decide) (by decide)) (by decide) (by decide)) (by decide) (by decide))) ?_
    refine ev_r_iconst (pc := 52) (k := 0) (by decide +kernel) ?_
    refine ev_r_putI (pc := 53) (y := 617) (ci := 13) (f := 78) (by decide) (by decide +kernel) (by decide +kernel) (by exact ev_ob_621) rfl rfl ?_
    intro s82
    refine ev_r_goto (pc := 56) (o := 303) (t := 359) (by decide +kernel) (by decide +kernel) ?_
    exact ev_r_return (pc := 359) (x := ()) trivial (by decide +kernel) (by decide +kernel) rfl
def jb_305_45 (Q : Nat)   (K45 : Int → Int → Int → Int → ev_St → Option ((Int) × ev_St)) (x15 : Int) (x16 : Int) (x17 : Int) (x18 : Int) (s25 : ev_St) : Option ((Int) × ev_St) := ev_jn (fun  (s32 : ev_St) => if 0 ≤ x15 then (ev_if ((0 : Int) ≤ x15 ∧ x15 < (ev_aln 687 : Int)) (ev_b (s32.1 687 (Int.toNat x15)) fun x34 => ev_if ((0 : Int) ≤ x15 ∧ x15 < (ev_aln 689 : Int)) (ev_b (s32.1 689 (Int.toNat x15)) fun x35 => ev_bd (jm_293 Q x15 s32) fun _ s36 => if x34 ≠ 0 then (if x34 ≠ 1 then (if x34 ≠ 2 then (if x34 ≠ 3 then (ev_jn (fun  (s43 : ev_St) => ev_b (s43.1 621 80) fun x44 => ev_if ((0 : Int) ≤ x44 ∧ x44 < (ev_aln 629 : Int)) (ev_b (s43.1 629 (Int.toNat x44)) fun x45 => if x45 ≤ 0 then (ev_b (ev_pI s43 621 78 5) fun s47 => some ((-1), s47)) else (ev_b (ev_pI s43 621 78 4) fun s48 => some ((-1), s48)))) fun K230 => if x34 ≠ 5 then (K230  s36) else (if x35 ≤ 0 then (K230  s36) else (if x16 ≠ 0 then (K230  s36) else (ev_b (s36.1 621 81) fun x52 => ev_b (s36.1 621 80) fun x53 => ev_ck (x35 - 1) fun x54 => ev_bd (jm_297 Q x53 x54 s36) fun _ s55 => ev_b (s55.1 621 95) fun x56 => ev_ck (x56 - 1) fun x57 => ev_if ((0 : Int) ≤ x57 ∧ x57 < (ev_aln 690 : Int)) (ev_b (ev_pI s55 690 (Int.toNat x57) x52) fun s58 => some ((-1), s58)))))) else (ev_b (ev_pI s36 621 78 5) fun s59 => some ((-1), s59))) else (ev_b (s36.1 621 80) fun x60 => ev_bd (jm_300 Q x60 x35 s36) fun _ s61 => some ((-1), s61))) else (ev_b (ev_pI s36 621 78 4) fun s62 => some ((-1), s62))) else (ev_b (s36.1 621 80) fun x63 => ev_bd (jm_302 Q x63 1 s36) fun _ s64 => some ((-1), s64))))) else (ev_b (ev_pI s32 621 77 x18) fun s65 => if x17 ≠ 6 then (some (3, s65)) else (some (2, s65)))) fun K79 => if x16 = 0 then (K79  s25) else (if x15 < 0 then (K79  s25) else (ev_if ((0 : Int) ≤ x15 ∧ x15 < (ev_aln 687 : Int)) (ev_b (s25.1 687 (Int.toNat x15)) fun x69 => ev_jn (fun  (s76 : ev_St) => ev_ck (x15 + (-1)) fun x77 => K45 x77 x16 x17 x18 s76) fun K73 => if x69 < 3 then (K73  s25) else (ev_if ((0 : Int) ≤ x15 ∧ x15 < (ev_aln 687 : Int)) (ev_b (s25.1 687 (Int.toNat x15)) fun x79 => if x79 ≤ 5 then (K79  s25) else (K73  s25))))))
def jl_305_45 (Q : Nat)   : Nat → Int → Int → Int → Int → ev_St → Option ((Int) × ev_St)
  | 0 => fun _ _ _ _ _ => none
  | q + 1 => jb_305_45 Q   (jl_305_45 Q   q)
theorem jbt_305_45 (d : Nat) (hd : 3 ≤ d + 1) (Q : Nat)     (K45 : Int → Int → Int → Int → ev_St → Option ((Int) × ev_St)) (hK45 : ∀ (x15 : Int) (hx15 : ev_rng x15), ∀ (x16 : Int) (hx16 : ev_rng x16), ∀ (x17 : Int) (hx17 : ev_rng x17), ∀ (x18 : Int) (hx18 : ev_rng x18), ∀ (s25 : ev_St) (w19 : List (Nat × Value)), ev_lk w19 0 = some (.ref 621) → ev_lk w19 1 = some (.int (Int32.ofInt x15)) → ev_lk w19 3 = some (.int (Int32.ofInt x16)) → ev_lk w19 4 = some (.int (Int32.ofInt x17)) → ev_lk w19 5 = some (.int (Int32.ofInt x18)) → ev_w none (ev_Mof 305) d 45 w19 [] s25 (K45 x15 x16 x17 x18 s25) ev_eI ev_rng) : ∀ (x15 : Int) (hx15 : ev_rng x15), ∀ (x16 : Int) (hx16 : ev_rng x16), ∀ (x17 : Int) (hx17 : ev_rng x17), ∀ (x18 : Int) (hx18 : ev_rng x18), ∀ (s25 : ev_St) (w19 : List (Nat × Value)), ev_lk w19 0 = some (.ref 621) → ev_lk w19 1 = some (.int (Int32.ofInt x15)) → ev_lk w19 3 = some (.int (Int32.ofInt x16)) → ev_lk w19 4 = some (.int (Int32.ofInt x17)) → ev_lk w19 5 = some (.int (Int32.ofInt x18)) → ev_w none (ev_Mof 305) d 45 w19 [] s25 (jb_305_45 Q   K45 x15 x16 x17 x18 s25) ev_eI ev_rng := by
  intro x15 hx15 x16 hx16 x17 hx17 x18 hx18 s25 w19 e20 e21 e22 e23 e24
  unfold jb_305_45
  refine ev_r_iload_n (pc := 45) (k := 3) (v := Int32.ofInt x16) (by decide +kernel) (by exact e22) ?_
  refine ev_r_jn (Q := fun K => ∀ (s32 : ev_St) (w26 : List (Nat × Value)), ev_lk w26 0 = some (.ref 621) → ev_lk w26 1 = some (.int (Int32.ofInt x15)) → ev_lk w26 3 = some (.int (Int32.ofInt x16)) → ev_lk w26 4 = some (.int (Int32.ofInt x17)) → ev_lk w26 5 = some (.int (Int32.ofInt x18)) → ev_w none (ev_Mof 305) d 79 w26 [] s32 (K  s32) ev_eI ev_rng) ?_ ?_
  · intro  s32 w26 e27 e28 e29 e30 e31
    refine ev_r_iload_n (pc := 79) (k := 1) (v := Int32.ofInt x15) (by decide +kernel) (by exact e28) ?_
    refine ev_r_if (pc := 80) (q := .ge) (o := 22) (t := 102) (c := 0 ≤ x15) (by decide +kernel) (ev_k_ge hx15 ev_rng0) (by decide +kernel) ?_ ?_
    · intro c33
      refine ev_r_aload_n (pc := 102) (k := 0) (v := .ref 621) trivial (by decide +kernel) (by exact e27) ?_
      refine ev_r_getC (pc := 103) (y := 210) (ci := 13) (f := 96) (fin := 1) (k' := 687) (by decide +kernel) (by decide +kernel) (by exact ev_ob_621) rfl rfl ?_
      refine ev_r_iload_n (pc := 106) (k := 1) (v := Int32.ofInt x15) (by decide +kernel) (by exact e28) ?_
      refine ev_r_iald (pc := 107) hx15 (by decide +kernel) (by exact ev_ab_687) ?_
      intro x34 hx34
      refine ev_r_istore_n (pc := 108) (k := 2) (by decide +kernel) (by decide +kernel) rfl ?_
      refine ev_r_aload_n (pc := 109) (k := 0) (v := .ref 621) trivial (by decide +kernel) (by exact (ev_l1 e27 (by decide) (by decide))) ?_
      refine ev_r_getC (pc := 110) (y := 216) (ci := 13) (f := 98) (fin := 1) (k' := 689) (by decide +kernel) (by decide +kernel) (by exact ev_ob_621) rfl rfl ?_
      refine ev_r_iload_n (pc := 113) (k := 1) (v := Int32.ofInt x15) (by decide +kernel) (by exact (ev_lk_st1 e28 (by decide) rfl)) ?_
      refine ev_r_iald (pc := 114) hx15 (by decide +kernel) (by exact ev_ab_689) ?_
      intro x35 hx35
      refine ev_r_istore (pc := 115) (k := 6) (by decide +kernel) (by decide +kernel) rfl ?_
      refine ev_r_aload_n (pc := 117) (k := 0) (v := .ref 621) trivial (by decide +kernel) (by exact (ev_l1 (ev_l1 e27 (by decide) (by decide)) (by decide) (by decide))) ?_
      refine ev_r_iload_n (pc := 118) (k := 1) (v := Int32.ofInt x15) (by decide +kernel) (by exact (ev_l1 (ev_lk_st1 e28 (by decide) rfl) (by decide) (by decide))) ?_
      refine ev_r_virt (pc := 119) (y := 645) (mi := 293) (na := 1) (k := 621) (as := [.int (Int32.ofInt x15)]) (rest := []) (encc := ev_oU) (Q := ev_PU) (fun x S1 h => jt_293 d (by omega) Q x15 hx15 s32 x S1 h) (by exact ev_ob_621) (by decide +kernel) (by decide +kernel) (by decide +kernel) (by decide +kernel) rfl (by (try simp only [ev_sum, ev_nv_cat]); first | done | rfl) ?_
      intro _ s36 _
      show ev_w _ _ _ _ _ [] _ _ _ _
      refine ev_r_iload_n (pc := 122) (k := 2) (v := Int32.ofInt x34) (by decide +kernel) (by exact (ev_l1 ev_lk_st1_self (by decide) (by decide))) ?_
      refine ev_r_if (pc := 123) (q := .ne) (o := 15) (t := 138) (c := x34 ≠ 0) (by decide +kernel) (ev_k_ne hx34 ev_rng0) (by decide +kernel) ?_ ?_
      · intro c37
        refine ev_r_iload_n (pc := 138) (k := 2) (v := Int32.ofInt x34) (by decide +kernel) (by exact (ev_l1 ev_lk_st1_self (by decide) (by decide))) ?_
        refine ev_r_iconst (pc := 139) (k := 1) (by decide +kernel) ?_
        refine ev_r_icmp (pc := 140) (q := .ne) (o := 11) (t := 151) (c := x34 ≠ 1) (by decide +kernel) (ev_k_ne hx34 (by decide)) (by decide +kernel) ?_ ?_
        · intro c38
          refine ev_r_iload_n (pc := 151) (k := 2) (v := Int32.ofInt x34) (by decide +kernel) (by exact (ev_l1 ev_lk_st1_self (by decide) (by decide))) ?_
          refine ev_r_iconst (pc := 152) (k := 2) (by decide +kernel) ?_
          refine ev_r_icmp (pc := 153) (q := .ne) (o := 16) (t := 169) (c := x34 ≠ 2) (by decide +kernel) (ev_k_ne hx34 (by decide)) (by decide +kernel) ?_ ?_
          · intro c39
            refine ev_r_iload_n (pc := 169) (k := 2) (v := Int32.ofInt x34) (by decide +kernel) (by exact (ev_l1 ev_lk_st1_self (by decide) (by decide))) ?_
            refine ev_r_iconst (pc := 170) (k := 3) (by decide +kernel) ?_
            refine ev_r_icmp (pc := 171) (q := .ne) (o := 11) (t := 182) (c := x34 ≠ 3) (by decide +kernel) (ev_k_ne hx34 (by decide)) (by decide +kernel) ?_ ?_
            · intro c40
              refine ev_r_iload_n (pc := 182) (k := 2) (v := Int32.ofInt x34) (by decide +kernel) (by exact (ev_l1 ev_lk_st1_self (by decide) (by decide))) ?_
              refine ev_r_iconst (pc := 183) (k := 5) (by decide +kernel) ?_
              refine ev_r_jn (Q := fun K => ∀ (s43 : ev_St) (w41 : List (Nat × Value)), ev_lk w41 0 = some (.ref 621) → ev_w none (ev_Mof 305) d 230 w41 [] s43 (K  s43) ev_eI ev_rng) ?_ ?_
              · intro  s43 w41 e42
                refine ev_r_aload_n (pc := 230) (k := 0) (v := .ref 621) trivial (by decide +kernel) (by exact e42) ?_
                refine ev_r_aload_n (pc := 231) (k := 0) (v := .ref 621) trivial (by decide +kernel) (by exact e42) ?_
                refine ev_r_getC (pc := 232) (y := 31) (ci := 13) (f := 10) (fin := 1) (k' := 629) (by decide +kernel) (by decide +kernel) (by exact ev_ob_621) rfl rfl ?_
                refine ev_r_aload_n (pc := 235) (k := 0) (v := .ref 621) trivial (by decide +kernel) (by exact e42) ?_
                refine ev_r_getI (pc := 236) (y := 597) (ci := 13) (f := 80) (fin := 0) (by decide +kernel) (by decide +kernel) (by exact ev_ob_621) rfl ?_
                intro x44 hx44
                refine ev_r_iald (pc := 239) hx44 (by decide +kernel) (by exact ev_ab_629) ?_
                intro x45 hx45
                refine ev_r_if (pc := 240) (q := .le) (o := 7) (t := 247) (c := x45 ≤ 0) (by decide +kernel) (ev_k_le hx45 ev_rng0) (by decide +kernel) ?_ ?_
                · intro c46
                  refine ev_r_iconst (pc := 247) (k := 5) (by decide +kernel) ?_
                  refine ev_r_putI (pc := 248) (y := 617) (ci := 13) (f := 78) (by decide) (by decide +kernel) (by decide +kernel) (by exact ev_ob_621) rfl rfl ?_
                  intro s47
                  refine ev_r_iconst (pc := 251) (k := -1) (by decide +kernel) ?_
                  exact ev_r_ireturn (pc := 252) (x := (-1)) (v := Int32.ofInt ((-1))) (ty := .int) (by decide) (by decide +kernel) (by decide +kernel) rfl rfl
                · intro c46
                  refine ev_r_iconst (pc := 243) (k := 4) (by decide +kernel) ?_
                  refine ev_r_goto (pc := 244) (o := 4) (t := 248) (by decide +kernel) (by decide +kernel) ?_
                  refine ev_r_putI (pc := 248) (y := 617) (ci := 13) (f := 78) (by decide) (by decide +kernel) (by decide +kernel) (by exact ev_ob_621) rfl rfl ?_
                  intro s48
                  refine ev_r_iconst (pc := 251) (k := -1) (by decide +kernel) ?_
                  exact ev_r_ireturn (pc := 252) (x := (-1)) (v := Int32.ofInt ((-1))) (ty := .int) (by decide) (by decide +kernel) (by decide +kernel) rfl rfl
              · intro K230 hK230
                refine ev_r_icmp (pc := 184) (q := .ne) (o := 46) (t := 230) (c := x34 ≠ 5) (by decide +kernel) (ev_k_ne hx34 (by decide)) (by decide +kernel) ?_ ?_
                · intro c49
                  exact hK230  s36 _ (by exact (ev_l1 (ev_l1 e27 (by decide) (by decide)) (by decide) (by decide)))
                · intro c49
                  refine ev_r_iload (pc := 187) (k := 6) (v := Int32.ofInt x35) (by decide +kernel) (by exact ev_lk_st1_self) ?_
                  refine ev_r_if (pc := 189) (q := .le) (o := 41) (t := 230) (c := x35 ≤ 0) (by decide +kernel) (ev_k_le hx35 ev_rng0) (by decide +kernel) ?_ ?_
                  · intro c50
                    exact hK230  s36 _ (by exact (ev_l1 (ev_l1 e27 (by decide) (by decide)) (by decide) (by decide)))
                  · intro c50
                    refine ev_r_iload_n (pc := 192) (k := 3) (v := Int32.ofInt x16) (by decide +kernel) (by exact (ev_l1 (ev_l1 e29 (by decide) (by decide)) (by decide) (by decide))) ?_
                    refine ev_r_if (pc := 193) (q := .ne) (o := 37) (t := 230) (c := x16 ≠ 0) (by decide +kernel) (ev_k_ne hx16 ev_rng0) (by decide +kernel) ?_ ?_
                    · intro c51
                      exact hK230  s36 _ (by exact (ev_l1 (ev_l1 e27 (by decide) (by decide)) (by decide) (by decide)))
                    · intro c51
                      refine ev_r_aload_n (pc := 196) (k := 0) (v := .ref 621) trivial (by decide +kernel) (by exact (ev_l1 (ev_l1 e27 (by decide) (by decide)) (by decide) (by decide))) ?_
                      refine ev_r_getI (pc := 197) (y := 582) (ci := 13) (f := 81) (fin := 0) (by decide +kernel) (by decide +kernel) (by exact ev_ob_621) rfl ?_
                      intro x52 hx52
                      refine ev_r_istore (pc := 200) (k := 7) (by decide +kernel) (by decide +kernel) rfl ?_
                      refine ev_r_aload_n (pc := 202) (k := 0) (v := .ref 621) trivial (by decide +kernel) (by exact (ev_l1 (ev_l1 (ev_l1 e27 (by decide) (by decide)) (by decide) (by decide)) (by decide) (by decide))) ?_
                      refine ev_r_aload_n (pc := 203) (k := 0) (v := .ref 621) trivial (by decide +kernel) (by exact (ev_l1 (ev_l1 (ev_l1 e27 (by decide) (by decide)) (by decide) (by decide)) (by decide) (by decide))) ?_
                      refine ev_r_getI (pc := 204) (y := 597) (ci := 13) (f := 80) (fin := 0) (by decide +kernel) (by decide +kernel) (by exact ev_ob_621) rfl ?_
                      intro x53 hx53
                      refine ev_r_iload (pc := 207) (k := 6) (v := Int32.ofInt x35) (by decide +kernel) (by exact (ev_lk_st1 ev_lk_st1_self (by decide) rfl)) ?_
                      refine ev_r_iconst (pc := 209) (k := 1) (by decide +kernel) ?_
                      refine ev_r_isub (pc := 210) (by decide +kernel) ?_
                      intro x54 hx54
                      refine ev_r_virt (pc := 211) (y := 630) (mi := 297) (na := 2) (k := 621) (as := [.int (Int32.ofInt x53), .int (Int32.ofInt x54)]) (rest := []) (encc := ev_oU) (Q := ev_PU) (fun x S1 h => jt_297 d (by omega) Q x53 x54 hx53 hx54 s36 x S1 h) (by exact ev_ob_621) (by decide +kernel) (by decide +kernel) (by decide +kernel) (by decide +kernel) rfl (by (try simp only [ev_sum, ev_nv_cat]); first | done | rfl) ?_
                      intro _ s55 _
                      show ev_w _ _ _ _ _ [] _ _ _ _
                      refine ev_r_aload_n (pc := 214) (k := 0) (v := .ref 621) trivial (by decide +kernel) (by exact (ev_l1 (ev_l1 (ev_l1 e27 (by decide) (by decide)) (by decide) (by decide)) (by decide) (by decide))) ?_
                      refine ev_r_getC (pc := 215) (y := 219) (ci := 13) (f := 99) (fin := 1) (k' := 690) (by decide +kernel) (by decide +kernel) (by exact ev_ob_621) rfl rfl ?_
                      refine ev_r_aload_n (pc := 218) (k := 0) (v := .ref 621) trivial (by decide +kernel) (by exact (ev_l1 (ev_l1 (ev_l1 e27 (by decide) (by decide)) (by decide) (by decide)) (by decide) (by decide))) ?_
                      refine ev_r_getI (pc := 219) (y := 579) (ci := 13) (f := 95) (fin := 0) (by decide +kernel) (by decide +kernel) (by exact ev_ob_621) rfl ?_
                      intro x56 hx56
                      refine ev_r_iconst (pc := 222) (k := 1) (by decide +kernel) ?_
                      refine ev_r_isub (pc := 223) (by decide +kernel) ?_
                      intro x57 hx57
                      refine ev_r_iload (pc := 224) (k := 7) (v := Int32.ofInt x52) (by decide +kernel) (by exact ev_lk_st1_self) ?_
                      refine ev_r_iast (pc := 226) hx52 hx57 (by decide +kernel) (by exact ev_ab_690) ?_
                      intro s58
                      refine ev_r_goto (pc := 227) (o := 24) (t := 251) (by decide +kernel) (by decide +kernel) ?_
                      refine ev_r_iconst (pc := 251) (k := -1) (by decide +kernel) ?_
                      exact ev_r_ireturn (pc := 252) (x := (-1)) (v := Int32.ofInt ((-1))) (ty := .int) (by decide) (by decide +kernel) (by decide +kernel) rfl rfl
            · intro c40
              refine ev_r_aload_n (pc := 174) (k := 0) (v := .ref 621) trivial (by decide +kernel) (by exact (ev_l1 (ev_l1 e27 (by decide) (by decide)) (by decide) (by decide))) ?_
              refine ev_r_iconst (pc := 175) (k := 5) (by decide +kernel) ?_
              refine ev_r_putI (pc := 176) (y := 617) (ci := 13) (f := 78) (by decide) (by decide +kernel) (by decide +kernel) (by exact ev_ob_621) rfl rfl ?_
              intro s59
              refine ev_r_goto (pc := 179) (o := 72) (t := 251) (by decide +kernel) (by decide +kernel) ?_
              refine ev_r_iconst (pc := 251) (k := -1) (by decide +kernel) ?_
              exact ev_r_ireturn (pc := 252) (x := (-1)) (v := Int32.ofInt ((-1))) (ty := .int) (by decide) (by decide +kernel) (by decide +kernel) rfl rfl
          · intro c39
            refine ev_r_aload_n (pc := 156) (k := 0) (v := .ref 621) trivial (by decide +kernel) (by exact (ev_l1 (ev_l1 e27 (by decide) (by decide)) (by decide) (by decide))) ?_
            refine ev_r_aload_n (pc := 157) (k := 0) (v := .ref 621) trivial (by decide +kernel) (by exact (ev_l1 (ev_l1 e27 (by decide) (by decide)) (by decide) (by decide))) ?_
            refine ev_r_getI (pc := 158) (y := 597) (ci := 13) (f := 80) (fin := 0) (by decide +kernel) (by decide +kernel) (by exact ev_ob_621) rfl ?_
            intro x60 hx60
            refine ev_r_iload (pc := 161) (k := 6) (v := Int32.ofInt x35) (by decide +kernel) (by exact ev_lk_st1_self) ?_
            refine ev_r_virt (pc := 163) (y := 639) (mi := 300) (na := 2) (k := 621) (as := [.int (Int32.ofInt x60), .int (Int32.ofInt x35)]) (rest := []) (encc := ev_oU) (Q := ev_PU) (fun x S1 h => jt_300 d (by omega) Q x60 x35 hx60 hx35 s36 x S1 h) (by exact ev_ob_621) (by decide +kernel) (by decide +kernel) (by decide +kernel) (by decide +kernel) rfl (by (try simp only [ev_sum, ev_nv_cat]); first | done | rfl) ?_
            intro _ s61 _
            show ev_w _ _ _ _ _ [] _ _ _ _
            refine ev_r_goto (pc := 166) (o := 85) (t := 251) (by decide +kernel) (by decide +kernel) ?_
            refine ev_r_iconst (pc := 251) (k := -1) (by decide +kernel) ?_
            exact ev_r_ireturn (pc := 252) (x := (-1)) (v := Int32.ofInt ((-1))) (ty := .int) (by decide) (by decide +kernel) (by decide +kernel) rfl rfl
        · intro c38
          refine ev_r_aload_n (pc := 143) (k := 0) (v := .ref 621) trivial (by decide +kernel) (by exact (ev_l1 (ev_l1 e27 (by decide) (by decide)) (by decide) (by decide))) ?_
          refine ev_r_iconst (pc := 144) (k := 4) (by decide +kernel) ?_
          refine ev_r_putI (pc := 145) (y := 617) (ci := 13) (f := 78) (by decide) (by decide +kernel) (by decide +kernel) (by exact ev_ob_621) rfl rfl ?_
          intro s62
          refine ev_r_goto (pc := 148) (o := 103) (t := 251) (by decide +kernel) (by decide +kernel) ?_
          refine ev_r_iconst (pc := 251) (k := -1) (by decide +kernel) ?_
          exact ev_r_ireturn (pc := 252) (x := (-1)) (v := Int32.ofInt ((-1))) (ty := .int) (by decide) (by decide +kernel) (by decide +kernel) rfl rfl
      · intro c37
        refine ev_r_aload_n (pc := 126) (k := 0) (v := .ref 621) trivial (by decide +kernel) (by exact (ev_l1 (ev_l1 e27 (by decide) (by decide)) (by decide) (by decide))) ?_
        refine ev_r_aload_n (pc := 127) (k := 0) (v := .ref 621) trivial (by decide +kernel) (by exact (ev_l1 (ev_l1 e27 (by decide) (by decide)) (by decide) (by decide))) ?_
        refine ev_r_getI (pc := 128) (y := 597) (ci := 13) (f := 80) (fin := 0) (by decide +kernel) (by decide +kernel) (by exact ev_ob_621) rfl ?_
        intro x63 hx63
        refine ev_r_iconst (pc := 131) (k := 1) (by decide +kernel) ?_
        refine ev_r_virt (pc := 132) (y := 648) (mi := 302) (na := 2) (k := 621) (as := [.int (Int32.ofInt x63), .int (Int32.ofInt 1)]) (rest := []) (encc := ev_oU) (Q := ev_PU) (fun x S1 h => jt_302 d (by omega) Q x63 1 hx63 (by decide) s36 x S1 h) (by exact ev_ob_621) (by decide +kernel) (by decide +kernel) (by decide +kernel) (by decide +kernel) rfl (by (try simp only [ev_sum, ev_nv_cat]); first | done | rfl) ?_
        intro _ s64 _
        show ev_w _ _ _ _ _ [] _ _ _ _
        refine ev_r_goto (pc := 135) (o := 116) (t := 251) (by decide +kernel) (by decide +kernel) ?_
        refine ev_r_iconst (pc := 251) (k := -1) (by decide +kernel) ?_
        exact ev_r_ireturn (pc := 252) (x := (-1)) (v := Int32.ofInt ((-1))) (ty := .int) (by decide) (by decide +kernel) (by decide +kernel) rfl rfl
    · intro c33
      refine ev_r_aload_n (pc := 83) (k := 0) (v := .ref 621) trivial (by decide +kernel) (by exact e27) ?_
      refine ev_r_iload (pc := 84) (k := 5) (v := Int32.ofInt x18) (by decide +kernel) (by exact e31) ?_
      refine ev_r_putI (pc := 86) (y := 642) (ci := 13) (f := 77) hx18 (by decide +kernel) (by decide +kernel) (by exact ev_ob_621) rfl rfl ?_
      intro s65
      refine ev_r_iload (pc := 89) (k := 4) (v := Int32.ofInt x17) (by decide +kernel) (by exact e30) ?_
      refine ev_r_bipush (pc := 91) (k := 6) (by decide +kernel) (by decide +kernel) ?_
      refine ev_r_icmp (pc := 93) (q := .ne) (o := 7) (t := 100) (c := x17 ≠ 6) (by decide +kernel) (ev_k_ne hx17 (by decide)) (by decide +kernel) ?_ ?_
      · intro c66
        refine ev_r_iconst (pc := 100) (k := 3) (by decide +kernel) ?_
        exact ev_r_ireturn (pc := 101) (x := 3) (v := Int32.ofInt 3) (ty := .int) (by decide) (by decide +kernel) (by decide +kernel) rfl rfl
      · intro c66
        refine ev_r_iconst (pc := 96) (k := 2) (by decide +kernel) ?_
        refine ev_r_goto (pc := 97) (o := 4) (t := 101) (by decide +kernel) (by decide +kernel) ?_
        exact ev_r_ireturn (pc := 101) (x := 2) (v := Int32.ofInt 2) (ty := .int) (by decide) (by decide +kernel) (by decide +kernel) rfl rfl
  · intro K79 hK79
    refine ev_r_if (pc := 46) (q := .eq) (o := 33) (t := 79) (c := x16 = 0) (by decide +kernel) (ev_k_eq hx16 ev_rng0) (by decide +kernel) ?_ ?_
    · intro c67
      exact hK79  s25 _ (by exact e20) (by exact e21) (by exact e22) (by exact e23) (by exact e24)
    · intro c67
      refine ev_r_iload_n (pc := 49) (k := 1) (v := Int32.ofInt x15) (by decide +kernel) (by exact e21) ?_
      refine ev_r_if (pc := 50) (q := .lt) (o := 29) (t := 79) (c := x15 < 0) (by decide +kernel) (ev_k_lt hx15 ev_rng0) (by decide +kernel) ?_ ?_
      · intro c68
        exact hK79  s25 _ (by exact e20) (by exact e21) (by exact e22) (by exact e23) (by exact e24)
      · intro c68
        refine ev_r_aload_n (pc := 53) (k := 0) (v := .ref 621) trivial (by decide +kernel) (by exact e20) ?_
        refine ev_r_getC (pc := 54) (y := 210) (ci := 13) (f := 96) (fin := 1) (k' := 687) (by decide +kernel) (by decide +kernel) (by exact ev_ob_621) rfl rfl ?_
        refine ev_r_iload_n (pc := 57) (k := 1) (v := Int32.ofInt x15) (by decide +kernel) (by exact e21) ?_
        refine ev_r_iald (pc := 58) hx15 (by decide +kernel) (by exact ev_ab_687) ?_
        intro x69 hx69
        refine ev_r_iconst (pc := 59) (k := 3) (by decide +kernel) ?_
        refine ev_r_jn (Q := fun K => ∀ (s76 : ev_St) (w70 : List (Nat × Value)), ev_lk w70 0 = some (.ref 621) → ev_lk w70 1 = some (.int (Int32.ofInt x15)) → ev_lk w70 3 = some (.int (Int32.ofInt x16)) → ev_lk w70 4 = some (.int (Int32.ofInt x17)) → ev_lk w70 5 = some (.int (Int32.ofInt x18)) → ev_w none (ev_Mof 305) d 73 w70 [] s76 (K  s76) ev_eI ev_rng) ?_ ?_
        · intro  s76 w70 e71 e72 e73 e74 e75
          refine ev_r_iinc (pc := 73) (k := 1) (c := -1) (x := x15) (by decide +kernel) (by decide +kernel) (by exact e72) (fun _ => rfl) ?_
          intro x77 hx77
          refine ev_r_goto (pc := 76) (o := (-31)) (t := 45) (by decide +kernel) (by decide +kernel) ?_
          exact hK45 x77 hx77 x16 hx16 x17 hx17 x18 hx18 s76 _ (by exact (ev_lk_st1 e71 (by decide) rfl)) (by exact ev_lk_st1_self) (by exact (ev_l1 e73 (by decide) (by decide))) (by exact (ev_l1 e74 (by decide) (by decide))) (by exact (ev_l1 e75 (by decide) (by decide)))
        · intro K73 hK73
          refine ev_r_icmp (pc := 60) (q := .lt) (o := 13) (t := 73) (c := x69 < 3) (by decide +kernel) (ev_k_lt hx69 (by decide)) (by decide +kernel) ?_ ?_
          · intro c78
            exact hK73  s25 _ (by exact e20) (by exact e21) (by exact e22) (by exact e23) (by exact e24)
          · intro c78
            refine ev_r_aload_n (pc := 63) (k := 0) (v := .ref 621) trivial (by decide +kernel) (by exact e20) ?_
            refine ev_r_getC (pc := 64) (y := 210) (ci := 13) (f := 96) (fin := 1) (k' := 687) (by decide +kernel) (by decide +kernel) (by exact ev_ob_621) rfl rfl ?_
            refine ev_r_iload_n (pc := 67) (k := 1) (v := Int32.ofInt x15) (by decide +kernel) (by exact e21) ?_
            refine ev_r_iald (pc := 68) hx15 (by decide +kernel) (by exact ev_ab_687) ?_
            intro x79 hx79
            refine ev_r_iconst (pc := 69) (k := 5) (by decide +kernel) ?_
            refine ev_r_icmp (pc := 70) (q := .le) (o := 9) (t := 79) (c := x79 ≤ 5) (by decide +kernel) (ev_k_le hx79 (by decide)) (by decide +kernel) ?_ ?_
            · intro c80
              exact hK79  s25 _ (by exact e20) (by exact e21) (by exact e22) (by exact e23) (by exact e24)
            · intro c80
              exact hK73  s25 _ (by exact e20) (by exact e21) (by exact e22) (by exact e23) (by exact e24)
theorem jlt_305_45 (d : Nat) (hd : 3 ≤ d + 1) (Q : Nat)     : ∀ q : Nat, ∀ (x15 : Int) (hx15 : ev_rng x15), ∀ (x16 : Int) (hx16 : ev_rng x16), ∀ (x17 : Int) (hx17 : ev_rng x17), ∀ (x18 : Int) (hx18 : ev_rng x18), ∀ (s25 : ev_St) (w19 : List (Nat × Value)), ev_lk w19 0 = some (.ref 621) → ev_lk w19 1 = some (.int (Int32.ofInt x15)) → ev_lk w19 3 = some (.int (Int32.ofInt x16)) → ev_lk w19 4 = some (.int (Int32.ofInt x17)) → ev_lk w19 5 = some (.int (Int32.ofInt x18)) → ev_w none (ev_Mof 305) d 45 w19 [] s25 (jl_305_45 Q   q x15 x16 x17 x18 s25) ev_eI ev_rng := by
  intro q
  induction q with
  | zero =>
    intro x15 hx15 x16 hx16 x17 hx17 x18 hx18 s25 w19 e20 e21 e22 e23 e24
    exact ev_w_none
  | succ q ih => exact jbt_305_45 d hd Q     _ ih
/-- MendBenchModel.fallsBack()I -/
def jm_305 (Q : Nat)  (S : ev_St) : Option ((Int) × ev_St) := ev_b (S.1 621 95) fun x1 => if x1 ≠ 0 then (ev_b (S.1 621 95) fun x3 => ev_ck (x3 - 1) fun x4 => ev_if ((0 : Int) ≤ x4 ∧ x4 < (ev_aln 687 : Int)) (ev_b (S.1 687 (Int.toNat x4)) fun x5 => ev_jn (fun (x6 : Int) (x7 : Int) (x8 : Int) (s13 : ev_St) => ev_if ((0 : Int) ≤ x6 ∧ x6 < (ev_aln 690 : Int)) (ev_b (s13.1 690 (Int.toNat x6)) fun x14 => jl_305_45 Q   Q x6 x8 x7 x14 s13)) fun K33 => if x5 ≤ 5 then (K33 x4 x5 0 S) else (K33 x4 x5 1 S))) else (some (0, S))
theorem jt_305 (d : Nat) (hd : 3 ≤ d) (Q : Nat)   (S : ev_St) (x : Int) (S' : ev_St) (hJ : jm_305 Q  S = some (x, S')) : ev_Ref d 305 [.ref 621] S (ev_eI x) S' (ev_rng x) := by
  obtain ⟨d, rfl⟩ : ∃ e, d = e + 1 := ⟨d - 1, by omega⟩
  refine ev_ref_of (P := ev_rng) (lv := [(0, .ref 621)]) (by decide +kernel) (by (try simp only [ev_sum, ev_nv_cat]); first | done | rfl) (by (try simp only [lv_args, ev_nv_cat]); first | done | rfl) ?_ x S' hJ
  unfold jm_305
  refine ev_r_aload_n (pc := 0) (k := 0) (v := .ref 621) trivial (by decide +kernel) (by rfl) ?_
  refine ev_r_getI (pc := 1) (y := 579) (ci := 13) (f := 95) (fin := 0) (by decide +kernel) (by decide +kernel) (by exact ev_ob_621) rfl ?_
  intro x1 hx1
  refine ev_r_if (pc := 4) (q := .ne) (o := 5) (t := 9) (c := x1 ≠ 0) (by decide +kernel) (ev_k_ne hx1 ev_rng0) (by decide +kernel) ?_ ?_
  · intro c2
    refine ev_r_aload_n (pc := 9) (k := 0) (v := .ref 621) trivial (by decide +kernel) (by rfl) ?_
    refine ev_r_getI (pc := 10) (y := 579) (ci := 13) (f := 95) (fin := 0) (by decide +kernel) (by decide +kernel) (by exact ev_ob_621) rfl ?_
    intro x3 hx3
    refine ev_r_iconst (pc := 13) (k := 1) (by decide +kernel) ?_
    refine ev_r_isub (pc := 14) (by decide +kernel) ?_
    intro x4 hx4
    refine ev_r_istore_n (pc := 15) (k := 1) (by decide +kernel) (by decide +kernel) rfl ?_
    refine ev_r_aload_n (pc := 16) (k := 0) (v := .ref 621) trivial (by decide +kernel) (by exact (ev_lk_st1 (by rfl) (by decide) rfl)) ?_
    refine ev_r_getC (pc := 17) (y := 210) (ci := 13) (f := 96) (fin := 1) (k' := 687) (by decide +kernel) (by decide +kernel) (by exact ev_ob_621) rfl rfl ?_
    refine ev_r_iload_n (pc := 20) (k := 1) (v := Int32.ofInt x4) (by decide +kernel) (by exact ev_lk_st1_self) ?_
    refine ev_r_iald (pc := 21) hx4 (by decide +kernel) (by exact ev_ab_687) ?_
    intro x5 hx5
    refine ev_r_istore_n (pc := 22) (k := 2) (by decide +kernel) (by decide +kernel) rfl ?_
    refine ev_r_iload_n (pc := 23) (k := 2) (v := Int32.ofInt x5) (by decide +kernel) (by exact ev_lk_st1_self) ?_
    refine ev_r_iconst (pc := 24) (k := 5) (by decide +kernel) ?_
    refine ev_r_jn (Q := fun K => ∀ (x6 : Int) (hx6 : ev_rng x6), ∀ (x7 : Int) (hx7 : ev_rng x7), ∀ (x8 : Int) (hx8 : ev_rng x8), ∀ (s13 : ev_St) (w9 : List (Nat × Value)), ev_lk w9 0 = some (.ref 621) → ev_lk w9 1 = some (.int (Int32.ofInt x6)) → ev_lk w9 2 = some (.int (Int32.ofInt x7)) → ev_w none (ev_Mof 305) d 33 w9 [.int (Int32.ofInt x8)] s13 (K x6 x7 x8 s13) ev_eI ev_rng) ?_ ?_
    · intro x6 hx6 x7 hx7 x8 hx8 s13 w9 e10 e11 e12
      refine ev_r_istore_n (pc := 33) (k := 3) (by decide +kernel) (by decide +kernel) rfl ?_
      refine ev_r_iload_n (pc := 34) (k := 2) (v := Int32.ofInt x7) (by decide +kernel) (by exact (ev_lk_st1 e12 (by decide) rfl)) ?_
      refine ev_r_istore (pc := 35) (k := 4) (by decide +kernel) (by decide +kernel) rfl ?_
      refine ev_r_aload_n (pc := 37) (k := 0) (v := .ref 621) trivial (by decide +kernel) (by exact (ev_l1 (ev_l1 e10 (by decide) (by decide)) (by decide) (by decide))) ?_
      refine ev_r_getC (pc := 38) (y := 219) (ci := 13) (f := 99) (fin := 1) (k' := 690) (by decide +kernel) (by decide +kernel) (by exact ev_ob_621) rfl rfl ?_
      refine ev_r_iload_n (pc := 41) (k := 1) (v := Int32.ofInt x6) (by decide +kernel) (by exact (ev_l1 (ev_l1 e11 (by decide) (by decide)) (by decide) (by decide))) ?_
      refine ev_r_iald (pc := 42) hx6 (by decide +kernel) (by exact ev_ab_690) ?_
      intro x14 hx14
      refine ev_r_istore (pc := 43) (k := 5) (by decide +kernel) (by decide +kernel) rfl ?_
      exact jlt_305_45 d hd Q     Q x6 hx6 x8 hx8 x7 hx7 x14 hx14 s13 _ (by exact (ev_l1 (ev_l1 (ev_l1 e10 (by decide) (by decide)) (by decide) (by decide)) (by decide) (by decide))) (by exact (ev_l1 (ev_l1 (ev_l1 e11 (by decide) (by decide)) (by decide) (by decide)) (by decide) (by decide))) (by exact (ev_l1 (ev_lk_st1 ev_lk_st1_self (by decide) rfl) (by decide) (by decide))) (by exact (ev_lk_st1 ev_lk_st1_self (by decide) rfl)) (by exact ev_lk_st1_self)
    · intro K33 hK33
      refine ev_r_icmp (pc := 25) (q := .le) (o := 7) (t := 32) (c := x5 ≤ 5) (by decide +kernel) (ev_k_le hx5 (by decide)) (by decide +kernel) ?_ ?_
      · intro c81
        refine ev_r_iconst (pc := 32) (k := 0) (by decide +kernel) ?_
        exact hK33 x4 hx4 x5 hx5 0 (by decide) S _ (by exact (ev_l1 (ev_lk_st1 (by rfl) (by decide) rfl) (by decide) (by decide))) (by exact (ev_lk_st1 ev_lk_st1_self (by decide) rfl)) (by exact ev_lk_st1_self)
      · intro c81
        refine ev_r_iconst (pc := 28) (k := 1) (by decide +kernel) ?_
        refine ev_r_goto (pc := 29) (o := 4) (t := 33) (by decide +kernel) (by decide +kernel) ?_
        exact hK33 x4 hx4 x5 hx5 1 (by decide) S _ (by exact (ev_l1 (ev_lk_st1 (by rfl) (by decide) rfl) (by decide) (by decide))) (by exact (ev_lk_st1 ev_lk_st1_self (by decide) rfl)) (by exact ev_lk_st1_self)
  · intro c2
    refine ev_r_iconst (pc := 7) (k := 0) (by decide +kernel) ?_
    exact ev_r_ireturn (pc := 8) (x := 0) (v := Int32.ofInt 0) (ty := .int) (by decide) (by decide +kernel) (by decide +kernel) rfl rfl
def jb_306_68 (Q : Nat)   (K68 : Int → ev_St → Option ((Int) × ev_St)) (x15 : Int) (s19 : ev_St) : Option ((Int) × ev_St) := ev_jn (fun  (s23 : ev_St) => ev_b (s23.1 621 76) fun x24 => if x24 = 0 then (some (x15, s23)) else (some ((-2), s23))) fun K322 => if x15 ≠ (-1) then (K322  s19) else (ev_b (s19.1 621 76) fun x27 => if x27 ≠ 0 then (K322  s19) else (ev_b (s19.1 621 78) fun x29 => if x29 ≠ 0 then (ev_b (s19.1 621 78) fun x31 => if x31 ≠ 1 then (ev_b (s19.1 621 78) fun x33 => if x33 ≠ 2 then (ev_b (s19.1 621 78) fun x35 => if x35 ≠ 3 then (ev_b (s19.1 621 78) fun x37 => if x37 ≠ 4 then (ev_b (s19.1 621 78) fun x39 => if x39 ≠ 5 then (ev_b (s19.1 621 78) fun x41 => if x41 ≠ 6 then (ev_b (s19.1 621 80) fun x43 => ev_if ((0 : Int) ≤ x43 ∧ x43 < (ev_aln 626 : Int)) (ev_b (s19.1 626 (Int.toNat x43)) fun x44 => ev_jn (fun (x45 : Int) (x46 : Int) (s51 : ev_St) => ev_b (ev_pI s51 621 78 x46) fun s52 => ev_jn (fun  (s56 : ev_St) => K68 x15 s56) fun K319 => if x45 = (-1) then (K319  s52) else (ev_b (s52.1 621 79) fun x58 => ev_ck (x58 + x45) fun x59 => ev_b (ev_pI s52 621 80 x59) fun s60 => ev_b (s60.1 621 80) fun x61 => ev_if ((0 : Int) ≤ x61 ∧ x61 < (ev_aln 627 : Int)) (ev_b (s60.1 627 (Int.toNat x61)) fun x62 => if x62 = (-1) then (K319  s60) else (ev_b (s60.1 621 79) fun x64 => ev_b (s60.1 621 80) fun x65 => ev_if ((0 : Int) ≤ x65 ∧ x65 < (ev_aln 627 : Int)) (ev_b (s60.1 627 (Int.toNat x65)) fun x66 => ev_ck (x64 + x66) fun x67 => ev_b (s60.1 621 83) fun x68 => ev_b (s60.1 621 84) fun x69 => ev_bd (jm_291 Q 1 x67 0 ((-1)) x68 x69 s60) fun x71 s70 => ev_b (ev_pI s70 621 83 x71) fun s72 => K319  s72))))) fun K253 => if x44 ≠ (-1) then (K253 x44 1 s19) else (K253 x44 4 s19))) else (ev_b (s19.1 621 80) fun x74 => ev_bd (jm_301 Q x74 s19) fun _ s75 => K68 x15 s75)) else (ev_bd (jm_305 Q  s19) fun x77 s76 => K68 x77 s76)) else (ev_bd (jm_304 Q  s19) fun _ s78 => K68 x15 s78)) else (ev_b (s19.1 621 79) fun x79 => ev_b (s19.1 621 80) fun x80 => ev_if ((0 : Int) ≤ x80 ∧ x80 < (ev_aln 626 : Int)) (ev_b (s19.1 626 (Int.toNat x80)) fun x81 => ev_ck (x79 + x81) fun x82 => ev_if ((0 : Int) ≤ x82 ∧ x82 < (ev_aln 627 : Int)) (ev_b (s19.1 627 (Int.toNat x82)) fun x83 => ev_jn (fun (x85 : Int) (x84 : Int) (s89 : ev_St) => ev_bd (jm_302 Q x84 x85 s89) fun _ s90 => K68 x15 s90) fun K173 => if x83 = (-1) then (K173 0 x82 s19) else (K173 1 x82 s19))))) else (ev_b (s19.1 621 80) fun x92 => ev_bd (jm_299 Q x92 s19) fun _ s93 => K68 x15 s93)) else (ev_b (s19.1 621 80) fun x94 => ev_bd (jm_303 Q x94 s19) fun _ s95 => K68 x15 s95)) else (K68 1 s19)))
def jl_306_68 (Q : Nat)   : Nat → Int → ev_St → Option ((Int) × ev_St)
  | 0 => fun _ _ => none
  | q + 1 => jb_306_68 Q   (jl_306_68 Q   q)
theorem jbt_306_68 (d : Nat) (hd : 8 ≤ d + 1) (Q : Nat)     (K68 : Int → ev_St → Option ((Int) × ev_St)) (hK68 : ∀ (x15 : Int) (hx15 : ev_rng x15), ∀ (s19 : ev_St) (w16 : List (Nat × Value)), ev_lk w16 0 = some (.ref 621) → ev_lk w16 3 = some (.int (Int32.ofInt x15)) → ev_w none (ev_Mof 306) d 68 w16 [] s19 (K68 x15 s19) ev_eI ev_rng) : ∀ (x15 : Int) (hx15 : ev_rng x15), ∀ (s19 : ev_St) (w16 : List (Nat × Value)), ev_lk w16 0 = some (.ref 621) → ev_lk w16 3 = some (.int (Int32.ofInt x15)) → ev_w none (ev_Mof 306) d 68 w16 [] s19 (jb_306_68 Q   K68 x15 s19) ev_eI ev_rng := by
  intro x15 hx15 s19 w16 e17 e18
  unfold jb_306_68
  refine ev_r_iload_n (pc := 68) (k := 3) (v := Int32.ofInt x15) (by decide +kernel) (by exact e18) ?_
  refine ev_r_iconst (pc := 69) (k := -1) (by decide +kernel) ?_
  refine ev_r_jn (Q := fun K => ∀ (s23 : ev_St) (w20 : List (Nat × Value)), ev_lk w20 0 = some (.ref 621) → ev_lk w20 3 = some (.int (Int32.ofInt x15)) → ev_w none (ev_Mof 306) d 322 w20 [] s23 (K  s23) ev_eI ev_rng) ?_ ?_
  · intro  s23 w20 e21 e22
    refine ev_r_aload_n (pc := 322) (k := 0) (v := .ref 621) trivial (by decide +kernel) (by exact e21) ?_
    refine ev_r_getI (pc := 323) (y := 573) (ci := 13) (f := 76) (fin := 0) (by decide +kernel) (by decide +kernel) (by exact ev_ob_621) rfl ?_
    intro x24 hx24
    refine ev_r_if (pc := 326) (q := .eq) (o := 8) (t := 334) (c := x24 = 0) (by decide +kernel) (ev_k_eq hx24 ev_rng0) (by decide +kernel) ?_ ?_
    · intro c25
      refine ev_r_iload_n (pc := 334) (k := 3) (v := Int32.ofInt x15) (by decide +kernel) (by exact e22) ?_
      exact ev_r_ireturn (pc := 335) (x := x15) (v := Int32.ofInt x15) (ty := .int) hx15 (by decide +kernel) (by decide +kernel) rfl rfl
    · intro c25
      refine ev_r_bipush (pc := 329) (k := -2) (by decide +kernel) (by decide +kernel) ?_
      refine ev_r_goto (pc := 331) (o := 4) (t := 335) (by decide +kernel) (by decide +kernel) ?_
      exact ev_r_ireturn (pc := 335) (x := (-2)) (v := Int32.ofInt ((-2))) (ty := .int) (by decide) (by decide +kernel) (by decide +kernel) rfl rfl
  · intro K322 hK322
    refine ev_r_icmp (pc := 70) (q := .ne) (o := 252) (t := 322) (c := x15 ≠ (-1)) (by decide +kernel) (ev_k_ne hx15 (by decide)) (by decide +kernel) ?_ ?_
    · intro c26
      exact hK322  s19 _ (by exact e17) (by exact e18)
    · intro c26
      refine ev_r_aload_n (pc := 73) (k := 0) (v := .ref 621) trivial (by decide +kernel) (by exact e17) ?_
      refine ev_r_getI (pc := 74) (y := 573) (ci := 13) (f := 76) (fin := 0) (by decide +kernel) (by decide +kernel) (by exact ev_ob_621) rfl ?_
      intro x27 hx27
      refine ev_r_if (pc := 77) (q := .ne) (o := 245) (t := 322) (c := x27 ≠ 0) (by decide +kernel) (ev_k_ne hx27 ev_rng0) (by decide +kernel) ?_ ?_
      · intro c28
        exact hK322  s19 _ (by exact e17) (by exact e18)
      · intro c28
        refine ev_r_aload_n (pc := 80) (k := 0) (v := .ref 621) trivial (by decide +kernel) (by exact e17) ?_
        refine ev_r_getI (pc := 81) (y := 617) (ci := 13) (f := 78) (fin := 0) (by decide +kernel) (by decide +kernel) (by exact ev_ob_621) rfl ?_
        intro x29 hx29
        refine ev_r_if (pc := 84) (q := .ne) (o := 8) (t := 92) (c := x29 ≠ 0) (by decide +kernel) (ev_k_ne hx29 ev_rng0) (by decide +kernel) ?_ ?_
        · intro c30
          refine ev_r_aload_n (pc := 92) (k := 0) (v := .ref 621) trivial (by decide +kernel) (by exact e17) ?_
          refine ev_r_getI (pc := 93) (y := 617) (ci := 13) (f := 78) (fin := 0) (by decide +kernel) (by decide +kernel) (by exact ev_ob_621) rfl ?_
          intro x31 hx31
          refine ev_r_iconst (pc := 96) (k := 1) (by decide +kernel) ?_
          refine ev_r_icmp (pc := 97) (q := .ne) (o := 14) (t := 111) (c := x31 ≠ 1) (by decide +kernel) (ev_k_ne hx31 (by decide)) (by decide +kernel) ?_ ?_
          · intro c32
            refine ev_r_aload_n (pc := 111) (k := 0) (v := .ref 621) trivial (by decide +kernel) (by exact e17) ?_
            refine ev_r_getI (pc := 112) (y := 617) (ci := 13) (f := 78) (fin := 0) (by decide +kernel) (by decide +kernel) (by exact ev_ob_621) rfl ?_
            intro x33 hx33
            refine ev_r_iconst (pc := 115) (k := 2) (by decide +kernel) ?_
            refine ev_r_icmp (pc := 116) (q := .ne) (o := 14) (t := 130) (c := x33 ≠ 2) (by decide +kernel) (ev_k_ne hx33 (by decide)) (by decide +kernel) ?_ ?_
            · intro c34
              refine ev_r_aload_n (pc := 130) (k := 0) (v := .ref 621) trivial (by decide +kernel) (by exact e17) ?_
              refine ev_r_getI (pc := 131) (y := 617) (ci := 13) (f := 78) (fin := 0) (by decide +kernel) (by decide +kernel) (by exact ev_ob_621) rfl ?_
              intro x35 hx35
              refine ev_r_iconst (pc := 134) (k := 3) (by decide +kernel) ?_
              refine ev_r_icmp (pc := 135) (q := .ne) (o := 44) (t := 179) (c := x35 ≠ 3) (by decide +kernel) (ev_k_ne hx35 (by decide)) (by decide +kernel) ?_ ?_
              · intro c36
                refine ev_r_aload_n (pc := 179) (k := 0) (v := .ref 621) trivial (by decide +kernel) (by exact e17) ?_
                refine ev_r_getI (pc := 180) (y := 617) (ci := 13) (f := 78) (fin := 0) (by decide +kernel) (by decide +kernel) (by exact ev_ob_621) rfl ?_
                intro x37 hx37
                refine ev_r_iconst (pc := 183) (k := 4) (by decide +kernel) ?_
                refine ev_r_icmp (pc := 184) (q := .ne) (o := 10) (t := 194) (c := x37 ≠ 4) (by decide +kernel) (ev_k_ne hx37 (by decide)) (by decide +kernel) ?_ ?_
                · intro c38
                  refine ev_r_aload_n (pc := 194) (k := 0) (v := .ref 621) trivial (by decide +kernel) (by exact e17) ?_
                  refine ev_r_getI (pc := 195) (y := 617) (ci := 13) (f := 78) (fin := 0) (by decide +kernel) (by decide +kernel) (by exact ev_ob_621) rfl ?_
                  intro x39 hx39
                  refine ev_r_iconst (pc := 198) (k := 5) (by decide +kernel) ?_
                  refine ev_r_icmp (pc := 199) (q := .ne) (o := 11) (t := 210) (c := x39 ≠ 5) (by decide +kernel) (ev_k_ne hx39 (by decide)) (by decide +kernel) ?_ ?_
                  · intro c40
                    refine ev_r_aload_n (pc := 210) (k := 0) (v := .ref 621) trivial (by decide +kernel) (by exact e17) ?_
                    refine ev_r_getI (pc := 211) (y := 617) (ci := 13) (f := 78) (fin := 0) (by decide +kernel) (by decide +kernel) (by exact ev_ob_621) rfl ?_
                    intro x41 hx41
                    refine ev_r_bipush (pc := 214) (k := 6) (by decide +kernel) (by decide +kernel) ?_
                    refine ev_r_icmp (pc := 216) (q := .ne) (o := 14) (t := 230) (c := x41 ≠ 6) (by decide +kernel) (ev_k_ne hx41 (by decide)) (by decide +kernel) ?_ ?_
                    · intro c42
                      refine ev_r_aload_n (pc := 230) (k := 0) (v := .ref 621) trivial (by decide +kernel) (by exact e17) ?_
                      refine ev_r_getC (pc := 231) (y := 22) (ci := 13) (f := 7) (fin := 1) (k' := 626) (by decide +kernel) (by decide +kernel) (by exact ev_ob_621) rfl rfl ?_
                      refine ev_r_aload_n (pc := 234) (k := 0) (v := .ref 621) trivial (by decide +kernel) (by exact e17) ?_
                      refine ev_r_getI (pc := 235) (y := 597) (ci := 13) (f := 80) (fin := 0) (by decide +kernel) (by decide +kernel) (by exact ev_ob_621) rfl ?_
                      intro x43 hx43
                      refine ev_r_iald (pc := 238) hx43 (by decide +kernel) (by exact ev_ab_626) ?_
                      intro x44 hx44
                      refine ev_r_istore (pc := 239) (k := 4) (by decide +kernel) (by decide +kernel) rfl ?_
                      refine ev_r_aload_n (pc := 241) (k := 0) (v := .ref 621) trivial (by decide +kernel) (by exact (ev_l1 e17 (by decide) (by decide))) ?_
                      refine ev_r_iload (pc := 242) (k := 4) (v := Int32.ofInt x44) (by decide +kernel) (by exact ev_lk_st1_self) ?_
                      refine ev_r_iconst (pc := 244) (k := -1) (by decide +kernel) ?_
                      refine ev_r_jn (Q := fun K => ∀ (x45 : Int) (hx45 : ev_rng x45), ∀ (x46 : Int) (hx46 : ev_rng x46), ∀ (s51 : ev_St) (w47 : List (Nat × Value)), ev_lk w47 0 = some (.ref 621) → ev_lk w47 3 = some (.int (Int32.ofInt x15)) → ev_lk w47 4 = some (.int (Int32.ofInt x45)) → ev_w none (ev_Mof 306) d 253 w47 [.int (Int32.ofInt x46), .ref 621] s51 (K x45 x46 s51) ev_eI ev_rng) ?_ ?_
                      · intro x45 hx45 x46 hx46 s51 w47 e48 e49 e50
                        refine ev_r_putI (pc := 253) (y := 617) (ci := 13) (f := 78) hx46 (by decide +kernel) (by decide +kernel) (by exact ev_ob_621) rfl rfl ?_
                        intro s52
                        refine ev_r_iload (pc := 256) (k := 4) (v := Int32.ofInt x45) (by decide +kernel) (by exact e50) ?_
                        refine ev_r_iconst (pc := 258) (k := -1) (by decide +kernel) ?_
                        refine ev_r_jn (Q := fun K => ∀ (s56 : ev_St) (w53 : List (Nat × Value)), ev_lk w53 0 = some (.ref 621) → ev_lk w53 3 = some (.int (Int32.ofInt x15)) → ev_w none (ev_Mof 306) d 319 w53 [] s56 (K  s56) ev_eI ev_rng) ?_ ?_
                        · intro  s56 w53 e54 e55
                          refine ev_r_goto (pc := 319) (o := (-251)) (t := 68) (by decide +kernel) (by decide +kernel) ?_
                          exact hK68 x15 hx15 s56 _ (by exact e54) (by exact e55)
                        · intro K319 hK319
                          refine ev_r_icmp (pc := 259) (q := .eq) (o := 60) (t := 319) (c := x45 = (-1)) (by decide +kernel) (ev_k_eq hx45 (by decide)) (by decide +kernel) ?_ ?_
                          · intro c57
                            exact hK319  s52 _ (by exact e48) (by exact e49)
                          · intro c57
                            refine ev_r_aload_n (pc := 262) (k := 0) (v := .ref 621) trivial (by decide +kernel) (by exact e48) ?_
                            refine ev_r_aload_n (pc := 263) (k := 0) (v := .ref 621) trivial (by decide +kernel) (by exact e48) ?_
                            refine ev_r_getI (pc := 264) (y := 633) (ci := 13) (f := 79) (fin := 0) (by decide +kernel) (by decide +kernel) (by exact ev_ob_621) rfl ?_
                            intro x58 hx58
                            refine ev_r_iload (pc := 267) (k := 4) (v := Int32.ofInt x45) (by decide +kernel) (by exact e50) ?_
                            refine ev_r_iadd (pc := 269) (by decide +kernel) ?_
                            intro x59 hx59
                            refine ev_r_putI (pc := 270) (y := 597) (ci := 13) (f := 80) hx59 (by decide +kernel) (by decide +kernel) (by exact ev_ob_621) rfl rfl ?_
                            intro s60
                            refine ev_r_aload_n (pc := 273) (k := 0) (v := .ref 621) trivial (by decide +kernel) (by exact e48) ?_
                            refine ev_r_getC (pc := 274) (y := 25) (ci := 13) (f := 8) (fin := 1) (k' := 627) (by decide +kernel) (by decide +kernel) (by exact ev_ob_621) rfl rfl ?_
                            refine ev_r_aload_n (pc := 277) (k := 0) (v := .ref 621) trivial (by decide +kernel) (by exact e48) ?_
                            refine ev_r_getI (pc := 278) (y := 597) (ci := 13) (f := 80) (fin := 0) (by decide +kernel) (by decide +kernel) (by exact ev_ob_621) rfl ?_
                            intro x61 hx61
                            refine ev_r_iald (pc := 281) hx61 (by decide +kernel) (by exact ev_ab_627) ?_
                            intro x62 hx62
                            refine ev_r_iconst (pc := 282) (k := -1) (by decide +kernel) ?_
                            refine ev_r_icmp (pc := 283) (q := .eq) (o := 36) (t := 319) (c := x62 = (-1)) (by decide +kernel) (ev_k_eq hx62 (by decide)) (by decide +kernel) ?_ ?_
                            · intro c63
                              exact hK319  s60 _ (by exact e48) (by exact e49)
                            · intro c63
                              refine ev_r_aload_n (pc := 286) (k := 0) (v := .ref 621) trivial (by decide +kernel) (by exact e48) ?_
                              refine ev_r_aload_n (pc := 287) (k := 0) (v := .ref 621) trivial (by decide +kernel) (by exact e48) ?_
                              refine ev_r_iconst (pc := 288) (k := 1) (by decide +kernel) ?_
                              refine ev_r_aload_n (pc := 289) (k := 0) (v := .ref 621) trivial (by decide +kernel) (by exact e48) ?_
                              refine ev_r_getI (pc := 290) (y := 633) (ci := 13) (f := 79) (fin := 0) (by decide +kernel) (by decide +kernel) (by exact ev_ob_621) rfl ?_
                              intro x64 hx64
                              refine ev_r_aload_n (pc := 293) (k := 0) (v := .ref 621) trivial (by decide +kernel) (by exact e48) ?_
                              refine ev_r_getC (pc := 294) (y := 25) (ci := 13) (f := 8) (fin := 1) (k' := 627) (by decide +kernel) (by decide +kernel) (by exact ev_ob_621) rfl rfl ?_
                              refine ev_r_aload_n (pc := 297) (k := 0) (v := .ref 621) trivial (by decide +kernel) (by exact e48) ?_
                              refine ev_r_getI (pc := 298) (y := 597) (ci := 13) (f := 80) (fin := 0) (by decide +kernel) (by decide +kernel) (by exact ev_ob_621) rfl ?_
                              intro x65 hx65
                              refine ev_r_iald (pc := 301) hx65 (by decide +kernel) (by exact ev_ab_627) ?_
                              intro x66 hx66
                              refine ev_r_iadd (pc := 302) (by decide +kernel) ?_
                              intro x67 hx67
                              refine ev_r_iconst (pc := 303) (k := 0) (by decide +kernel) ?_
                              refine ev_r_iconst (pc := 304) (k := -1) (by decide +kernel) ?_
                              refine ev_r_aload_n (pc := 305) (k := 0) (v := .ref 621) trivial (by decide +kernel) (by exact e48) ?_
                              refine ev_r_getI (pc := 306) (y := 588) (ci := 13) (f := 83) (fin := 0) (by decide +kernel) (by decide +kernel) (by exact ev_ob_621) rfl ?_
                              intro x68 hx68
                              refine ev_r_aload_n (pc := 309) (k := 0) (v := .ref 621) trivial (by decide +kernel) (by exact e48) ?_
                              refine ev_r_getI (pc := 310) (y := 591) (ci := 13) (f := 84) (fin := 0) (by decide +kernel) (by decide +kernel) (by exact ev_ob_621) rfl ?_
                              intro x69 hx69
                              refine ev_r_virt (pc := 313) (y := 613) (mi := 291) (na := 6) (k := 621) (as := [.int (Int32.ofInt 1), .int (Int32.ofInt x67), .int (Int32.ofInt 0), .int (Int32.ofInt ((-1))), .int (Int32.ofInt x68), .int (Int32.ofInt x69)]) (rest := [.ref 621]) (encc := ev_oI) (Q := ev_rng) (fun x S1 h => jt_291 d (by omega) Q 1 x67 0 ((-1)) x68 x69 (by decide) hx67 (by decide) (by decide) hx68 hx69 s60 x S1 h) (by exact ev_ob_621) (by decide +kernel) (by decide +kernel) (by decide +kernel) (by decide +kernel) rfl (by (try simp only [ev_sum, ev_nv_cat]); first | done | rfl) ?_
                              intro x71 s70 hx71
                              show ev_w _ _ _ _ _ [.int (Int32.ofInt x71), .ref 621] _ _ _ _
                              refine ev_r_putI (pc := 316) (y := 588) (ci := 13) (f := 83) hx71 (by decide +kernel) (by decide +kernel) (by exact ev_ob_621) rfl rfl ?_
                              intro s72
                              exact hK319  s72 _ (by exact e48) (by exact e49)
                      · intro K253 hK253
                        refine ev_r_icmp (pc := 245) (q := .ne) (o := 7) (t := 252) (c := x44 ≠ (-1)) (by decide +kernel) (ev_k_ne hx44 (by decide)) (by decide +kernel) ?_ ?_
                        · intro c73
                          refine ev_r_iconst (pc := 252) (k := 1) (by decide +kernel) ?_
                          exact hK253 x44 hx44 1 (by decide) s19 _ (by exact (ev_l1 e17 (by decide) (by decide))) (by exact (ev_lk_st1 e18 (by decide) rfl)) (by exact ev_lk_st1_self)
                        · intro c73
                          refine ev_r_iconst (pc := 248) (k := 4) (by decide +kernel) ?_
                          refine ev_r_goto (pc := 249) (o := 4) (t := 253) (by decide +kernel) (by decide +kernel) ?_
                          exact hK253 x44 hx44 4 (by decide) s19 _ (by exact (ev_l1 e17 (by decide) (by decide))) (by exact (ev_lk_st1 e18 (by decide) rfl)) (by exact ev_lk_st1_self)
                    · intro c42
                      refine ev_r_aload_n (pc := 219) (k := 0) (v := .ref 621) trivial (by decide +kernel) (by exact e17) ?_
                      refine ev_r_aload_n (pc := 220) (k := 0) (v := .ref 621) trivial (by decide +kernel) (by exact e17) ?_
                      refine ev_r_getI (pc := 221) (y := 597) (ci := 13) (f := 80) (fin := 0) (by decide +kernel) (by decide +kernel) (by exact ev_ob_621) rfl ?_
                      intro x74 hx74
                      refine ev_r_virt (pc := 224) (y := 663) (mi := 301) (na := 1) (k := 621) (as := [.int (Int32.ofInt x74)]) (rest := []) (encc := ev_oU) (Q := ev_PU) (fun x S1 h => jt_301 d (by omega) Q x74 hx74 s19 x S1 h) (by exact ev_ob_621) (by decide +kernel) (by decide +kernel) (by decide +kernel) (by decide +kernel) rfl (by (try simp only [ev_sum, ev_nv_cat]); first | done | rfl) ?_
                      intro _ s75 _
                      show ev_w _ _ _ _ _ [] _ _ _ _
                      refine ev_r_goto (pc := 227) (o := (-159)) (t := 68) (by decide +kernel) (by decide +kernel) ?_
                      exact hK68 x15 hx15 s75 _ (by exact e17) (by exact e18)
                  · intro c40
                    refine ev_r_aload_n (pc := 202) (k := 0) (v := .ref 621) trivial (by decide +kernel) (by exact e17) ?_
                    refine ev_r_virt (pc := 203) (y := 660) (mi := 305) (na := 0) (k := 621) (as := []) (rest := []) (encc := ev_oI) (Q := ev_rng) (fun x S1 h => jt_305 d (by omega) Q   s19 x S1 h) (by exact ev_ob_621) (by decide +kernel) (by decide +kernel) (by decide +kernel) (by decide +kernel) rfl (by (try simp only [ev_sum, ev_nv_cat]); first | done | rfl) ?_
                    intro x77 s76 hx77
                    show ev_w _ _ _ _ _ [.int (Int32.ofInt x77)] _ _ _ _
                    refine ev_r_istore_n (pc := 206) (k := 3) (by decide +kernel) (by decide +kernel) rfl ?_
                    refine ev_r_goto (pc := 207) (o := (-139)) (t := 68) (by decide +kernel) (by decide +kernel) ?_
                    exact hK68 x77 hx77 s76 _ (by exact (ev_l1 e17 (by decide) (by decide))) (by exact ev_lk_st1_self)
                · intro c38
                  refine ev_r_aload_n (pc := 187) (k := 0) (v := .ref 621) trivial (by decide +kernel) (by exact e17) ?_
                  refine ev_r_virt (pc := 188) (y := 657) (mi := 304) (na := 0) (k := 621) (as := []) (rest := []) (encc := ev_oU) (Q := ev_PU) (fun x S1 h => jt_304 d (by omega) Q   s19 x S1 h) (by exact ev_ob_621) (by decide +kernel) (by decide +kernel) (by decide +kernel) (by decide +kernel) rfl (by (try simp only [ev_sum, ev_nv_cat]); first | done | rfl) ?_
                  intro _ s78 _
                  show ev_w _ _ _ _ _ [] _ _ _ _
                  refine ev_r_goto (pc := 191) (o := (-123)) (t := 68) (by decide +kernel) (by decide +kernel) ?_
                  exact hK68 x15 hx15 s78 _ (by exact e17) (by exact e18)
              · intro c36
                refine ev_r_aload_n (pc := 138) (k := 0) (v := .ref 621) trivial (by decide +kernel) (by exact e17) ?_
                refine ev_r_getI (pc := 139) (y := 633) (ci := 13) (f := 79) (fin := 0) (by decide +kernel) (by decide +kernel) (by exact ev_ob_621) rfl ?_
                intro x79 hx79
                refine ev_r_aload_n (pc := 142) (k := 0) (v := .ref 621) trivial (by decide +kernel) (by exact e17) ?_
                refine ev_r_getC (pc := 143) (y := 22) (ci := 13) (f := 7) (fin := 1) (k' := 626) (by decide +kernel) (by decide +kernel) (by exact ev_ob_621) rfl rfl ?_
                refine ev_r_aload_n (pc := 146) (k := 0) (v := .ref 621) trivial (by decide +kernel) (by exact e17) ?_
                refine ev_r_getI (pc := 147) (y := 597) (ci := 13) (f := 80) (fin := 0) (by decide +kernel) (by decide +kernel) (by exact ev_ob_621) rfl ?_
                intro x80 hx80
                refine ev_r_iald (pc := 150) hx80 (by decide +kernel) (by exact ev_ab_626) ?_
                intro x81 hx81
                refine ev_r_iadd (pc := 151) (by decide +kernel) ?_
                intro x82 hx82
                refine ev_r_istore (pc := 152) (k := 4) (by decide +kernel) (by decide +kernel) rfl ?_
                refine ev_r_aload_n (pc := 154) (k := 0) (v := .ref 621) trivial (by decide +kernel) (by exact (ev_l1 e17 (by decide) (by decide))) ?_
                refine ev_r_iload (pc := 155) (k := 4) (v := Int32.ofInt x82) (by decide +kernel) (by exact ev_lk_st1_self) ?_
                refine ev_r_aload_n (pc := 157) (k := 0) (v := .ref 621) trivial (by decide +kernel) (by exact (ev_l1 e17 (by decide) (by decide))) ?_
                refine ev_r_getC (pc := 158) (y := 25) (ci := 13) (f := 8) (fin := 1) (k' := 627) (by decide +kernel) (by decide +kernel) (by exact ev_ob_621) rfl rfl ?_
                refine ev_r_iload (pc := 161) (k := 4) (v := Int32.ofInt x82) (by decide +kernel) (by exact ev_lk_st1_self) ?_
                refine ev_r_iald (pc := 163) hx82 (by decide +kernel) (by exact ev_ab_627) ?_
                intro x83 hx83
                refine ev_r_iconst (pc := 164) (k := -1) (by decide +kernel) ?_
                refine ev_r_jn (Q := fun K => ∀ (x85 : Int) (hx85 : ev_rng x85), ∀ (x84 : Int) (hx84 : ev_rng x84), ∀ (s89 : ev_St) (w86 : List (Nat × Value)), ev_lk w86 0 = some (.ref 621) → ev_lk w86 3 = some (.int (Int32.ofInt x15)) → ev_w none (ev_Mof 306) d 173 w86 [.int (Int32.ofInt x85), .int (Int32.ofInt x84), .ref 621] s89 (K x85 x84 s89) ev_eI ev_rng) ?_ ?_
                · intro x85 hx85 x84 hx84 s89 w86 e87 e88
                  refine ev_r_virt (pc := 173) (y := 648) (mi := 302) (na := 2) (k := 621) (as := [.int (Int32.ofInt x84), .int (Int32.ofInt x85)]) (rest := []) (encc := ev_oU) (Q := ev_PU) (fun x S1 h => jt_302 d (by omega) Q x84 x85 hx84 hx85 s89 x S1 h) (by exact ev_ob_621) (by decide +kernel) (by decide +kernel) (by decide +kernel) (by decide +kernel) rfl (by (try simp only [ev_sum, ev_nv_cat]); first | done | rfl) ?_
                  intro _ s90 _
                  show ev_w _ _ _ _ _ [] _ _ _ _
                  refine ev_r_goto (pc := 176) (o := (-108)) (t := 68) (by decide +kernel) (by decide +kernel) ?_
                  exact hK68 x15 hx15 s90 _ (by exact e87) (by exact e88)
                · intro K173 hK173
                  refine ev_r_icmp (pc := 165) (q := .eq) (o := 7) (t := 172) (c := x83 = (-1)) (by decide +kernel) (ev_k_eq hx83 (by decide)) (by decide +kernel) ?_ ?_
                  · intro c91
                    refine ev_r_iconst (pc := 172) (k := 0) (by decide +kernel) ?_
                    exact hK173 0 (by decide) x82 hx82 s19 _ (by exact (ev_l1 e17 (by decide) (by decide))) (by exact (ev_lk_st1 e18 (by decide) rfl))
                  · intro c91
                    refine ev_r_iconst (pc := 168) (k := 1) (by decide +kernel) ?_
                    refine ev_r_goto (pc := 169) (o := 4) (t := 173) (by decide +kernel) (by decide +kernel) ?_
                    exact hK173 1 (by decide) x82 hx82 s19 _ (by exact (ev_l1 e17 (by decide) (by decide))) (by exact (ev_lk_st1 e18 (by decide) rfl))
            · intro c34
              refine ev_r_aload_n (pc := 119) (k := 0) (v := .ref 621) trivial (by decide +kernel) (by exact e17) ?_
              refine ev_r_aload_n (pc := 120) (k := 0) (v := .ref 621) trivial (by decide +kernel) (by exact e17) ?_
              refine ev_r_getI (pc := 121) (y := 597) (ci := 13) (f := 80) (fin := 0) (by decide +kernel) (by decide +kernel) (by exact ev_ob_621) rfl ?_
              intro x92 hx92
              refine ev_r_virt (pc := 124) (y := 654) (mi := 299) (na := 1) (k := 621) (as := [.int (Int32.ofInt x92)]) (rest := []) (encc := ev_oU) (Q := ev_PU) (fun x S1 h => jt_299 d (by omega) Q x92 hx92 s19 x S1 h) (by exact ev_ob_621) (by decide +kernel) (by decide +kernel) (by decide +kernel) (by decide +kernel) rfl (by (try simp only [ev_sum, ev_nv_cat]); first | done | rfl) ?_
              intro _ s93 _
              show ev_w _ _ _ _ _ [] _ _ _ _
              refine ev_r_goto (pc := 127) (o := (-59)) (t := 68) (by decide +kernel) (by decide +kernel) ?_
              exact hK68 x15 hx15 s93 _ (by exact e17) (by exact e18)
          · intro c32
            refine ev_r_aload_n (pc := 100) (k := 0) (v := .ref 621) trivial (by decide +kernel) (by exact e17) ?_
            refine ev_r_aload_n (pc := 101) (k := 0) (v := .ref 621) trivial (by decide +kernel) (by exact e17) ?_
            refine ev_r_getI (pc := 102) (y := 597) (ci := 13) (f := 80) (fin := 0) (by decide +kernel) (by decide +kernel) (by exact ev_ob_621) rfl ?_
            intro x94 hx94
            refine ev_r_virt (pc := 105) (y := 651) (mi := 303) (na := 1) (k := 621) (as := [.int (Int32.ofInt x94)]) (rest := []) (encc := ev_oU) (Q := ev_PU) (fun x S1 h => jt_303 d (by omega) Q x94 hx94 s19 x S1 h) (by exact ev_ob_621) (by decide +kernel) (by decide +kernel) (by decide +kernel) (by decide +kernel) rfl (by (try simp only [ev_sum, ev_nv_cat]); first | done | rfl) ?_
            intro _ s95 _
            show ev_w _ _ _ _ _ [] _ _ _ _
            refine ev_r_goto (pc := 108) (o := (-40)) (t := 68) (by decide +kernel) (by decide +kernel) ?_
            exact hK68 x15 hx15 s95 _ (by exact e17) (by exact e18)
        · intro c30
          refine ev_r_iconst (pc := 87) (k := 1) (by decide +kernel) ?_
          refine ev_r_istore_n (pc := 88) (k := 3) (by decide +kernel) (by decide +kernel) rfl ?_
          refine ev_r_goto (pc := 89) (o := (-21)) (t := 68) (by decide +kernel) (by decide +kernel) ?_
          exact hK68 1 (by decide) s19 _ (by exact (ev_l1 e17 (by decide) (by decide))) (by exact ev_lk_st1_self)
theorem jlt_306_68 (d : Nat) (hd : 8 ≤ d + 1) (Q : Nat)     : ∀ q : Nat, ∀ (x15 : Int) (hx15 : ev_rng x15), ∀ (s19 : ev_St) (w16 : List (Nat × Value)), ev_lk w16 0 = some (.ref 621) → ev_lk w16 3 = some (.int (Int32.ofInt x15)) → ev_w none (ev_Mof 306) d 68 w16 [] s19 (jl_306_68 Q   q x15 s19) ev_eI ev_rng := by
  intro q
  induction q with
  | zero =>
    intro x15 hx15 s19 w16 e17 e18
    exact ev_w_none
  | succ q ih => exact jbt_306_68 d hd Q     _ ih
/-- MendBenchModel.tries(II)I -/
def jm_306 (Q : Nat) (a0 : Int) (a1 : Int) (S : ev_St) : Option ((Int) × ev_St) := ev_ck (320 * a0) fun x1 => ev_b (ev_pI S 621 79 x1) fun s2 => ev_b (ev_pI s2 621 88 0) fun s3 => ev_b (ev_pI s3 621 105 0) fun s4 => ev_b (ev_pI s4 621 95 0) fun s5 => ev_b (ev_pI s5 621 81 a1) fun s6 => ev_b (ev_pI s6 621 82 ((-1))) fun s7 => ev_b (ev_pI s7 621 84 0) fun s8 => ev_bd (jm_291 Q 0 0 0 ((-1)) ((-1)) 0 s8) fun x10 s9 => ev_b (ev_pI s9 621 83 x10) fun s11 => ev_b (s11.1 621 79) fun x12 => ev_b (ev_pI s11 621 80 x12) fun s13 => ev_b (ev_pI s13 621 78 3) fun s14 => jl_306_68 Q   Q ((-1)) s14
theorem jt_306 (d : Nat) (hd : 8 ≤ d) (Q : Nat) (a0 : Int) (a1 : Int) (ha0 : ev_rng a0) (ha1 : ev_rng a1) (S : ev_St) (x : Int) (S' : ev_St) (hJ : jm_306 Q a0 a1 S = some (x, S')) : ev_Ref d 306 [.ref 621, .int (Int32.ofInt a0), .int (Int32.ofInt a1)] S (ev_eI x) S' (ev_rng x) := by
  obtain ⟨d, rfl⟩ : ∃ e, d = e + 1 := ⟨d - 1, by omega⟩
  refine ev_ref_of (P := ev_rng) (lv := [(0, .ref 621), (1, .int (Int32.ofInt a0)), (2, .int (Int32.ofInt a1))]) (by decide +kernel) (by (try simp only [ev_sum, ev_nv_cat]); first | done | rfl) (by (try simp only [lv_args, ev_nv_cat]); first | done | rfl) ?_ x S' hJ
  unfold jm_306
  refine ev_r_aload_n (pc := 0) (k := 0) (v := .ref 621) trivial (by decide +kernel) (by rfl) ?_
  refine ev_r_sipush (pc := 1) (k := 320) (by decide +kernel) (by decide +kernel) ?_
  refine ev_r_iload_n (pc := 4) (k := 1) (v := Int32.ofInt a0) (by decide +kernel) (by rfl) ?_
  refine ev_r_imul (pc := 5) (by decide +kernel) ?_
  intro x1 hx1
  refine ev_r_putI (pc := 6) (y := 633) (ci := 13) (f := 79) hx1 (by decide +kernel) (by decide +kernel) (by exact ev_ob_621) rfl rfl ?_
  intro s2
  refine ev_r_aload_n (pc := 9) (k := 0) (v := .ref 621) trivial (by decide +kernel) (by rfl) ?_
  refine ev_r_iconst (pc := 10) (k := 0) (by decide +kernel) ?_
  refine ev_r_putI (pc := 11) (y := 576) (ci := 13) (f := 88) (by decide) (by decide +kernel) (by decide +kernel) (by exact ev_ob_621) rfl rfl ?_
  intro s3
  refine ev_r_aload_n (pc := 14) (k := 0) (v := .ref 621) trivial (by decide +kernel) (by rfl) ?_
  refine ev_r_iconst (pc := 15) (k := 0) (by decide +kernel) ?_
  refine ev_r_putI (pc := 16) (y := 594) (ci := 13) (f := 105) (by decide) (by decide +kernel) (by decide +kernel) (by exact ev_ob_621) rfl rfl ?_
  intro s4
  refine ev_r_aload_n (pc := 19) (k := 0) (v := .ref 621) trivial (by decide +kernel) (by rfl) ?_
  refine ev_r_iconst (pc := 20) (k := 0) (by decide +kernel) ?_
  refine ev_r_putI (pc := 21) (y := 579) (ci := 13) (f := 95) (by decide) (by decide +kernel) (by decide +kernel) (by exact ev_ob_621) rfl rfl ?_
  intro s5
  refine ev_r_aload_n (pc := 24) (k := 0) (v := .ref 621) trivial (by decide +kernel) (by rfl) ?_
  refine ev_r_iload_n (pc := 25) (k := 2) (v := Int32.ofInt a1) (by decide +kernel) (by rfl) ?_
  refine ev_r_putI (pc := 26) (y := 582) (ci := 13) (f := 81) ha1 (by decide +kernel) (by decide +kernel) (by exact ev_ob_621) rfl rfl ?_
  intro s6
  refine ev_r_aload_n (pc := 29) (k := 0) (v := .ref 621) trivial (by decide +kernel) (by rfl) ?_
  refine ev_r_iconst (pc := 30) (k := -1) (by decide +kernel) ?_
  refine ev_r_putI (pc := 31) (y := 585) (ci := 13) (f := 82) (by decide) (by decide +kernel) (by decide +kernel) (by exact ev_ob_621) rfl rfl ?_
  intro s7
  refine ev_r_aload_n (pc := 34) (k := 0) (v := .ref 621) trivial (by decide +kernel) (by rfl) ?_
  refine ev_r_iconst (pc := 35) (k := 0) (by decide +kernel) ?_
  refine ev_r_putI (pc := 36) (y := 591) (ci := 13) (f := 84) (by decide) (by decide +kernel) (by decide +kernel) (by exact ev_ob_621) rfl rfl ?_
  intro s8
  refine ev_r_aload_n (pc := 39) (k := 0) (v := .ref 621) trivial (by decide +kernel) (by rfl) ?_
  refine ev_r_aload_n (pc := 40) (k := 0) (v := .ref 621) trivial (by decide +kernel) (by rfl) ?_
  refine ev_r_iconst (pc := 41) (k := 0) (by decide +kernel) ?_
  refine ev_r_iconst (pc := 42) (k := 0) (by decide +kernel) ?_
  refine ev_r_iconst (pc := 43) (k := 0) (by decide +kernel) ?_
  refine ev_r_iconst (pc := 44) (k := -1) (by decide +kernel) ?_
  refine ev_r_iconst (pc := 45) (k := -1) (by decide +kernel) ?_
  refine ev_r_iconst (pc := 46) (k := 0) (by decide +kernel) ?_
  refine ev_r_virt (pc := 47) (y := 613) (mi := 291) (na := 6) (k := 621) (as := [.int (Int32.ofInt 0), .int (Int32.ofInt 0), .int (Int32.ofInt 0), .int (Int32.ofInt ((-1))), .int (Int32.ofInt ((-1))), .int (Int32.ofInt 0)]) (rest := [.ref 621]) (encc := ev_oI) (Q := ev_rng) (fun x S1 h => jt_291 d (by omega) Q 0 0 0 ((-1)) ((-1)) 0 (by decide) (by decide) (by decide) (by decide) (by decide) (by decide) s8 x S1 h) (by exact ev_ob_621) (by decide +kernel) (by decide +kernel) (by decide +kernel) (by decide +kernel) rfl (by (try simp only [ev_sum, ev_nv_cat]); first | done | rfl) ?_
  intro x10 s9 hx10
  show ev_w _ _ _ _ _ [.int (Int32.ofInt x10), .ref 621] _ _ _ _
  refine ev_r_putI (pc := 50) (y := 588) (ci := 13) (f := 83) hx10 (by decide +kernel) (by decide +kernel) (by exact ev_ob_621) rfl rfl ?_
  intro s11
  refine ev_r_aload_n (pc := 53) (k := 0) (v := .ref 621) trivial (by decide +kernel) (by rfl) ?_
  refine ev_r_aload_n (pc := 54) (k := 0) (v := .ref 621) trivial (by decide +kernel) (by rfl) ?_
  refine ev_r_getI (pc := 55) (y := 633) (ci := 13) (f := 79) (fin := 0) (by decide +kernel) (by decide +kernel) (by exact ev_ob_621) rfl ?_
  intro x12 hx12
  refine ev_r_putI (pc := 58) (y := 597) (ci := 13) (f := 80) hx12 (by decide +kernel) (by decide +kernel) (by exact ev_ob_621) rfl rfl ?_
  intro s13
  refine ev_r_aload_n (pc := 61) (k := 0) (v := .ref 621) trivial (by decide +kernel) (by rfl) ?_
  refine ev_r_iconst (pc := 62) (k := 3) (by decide +kernel) ?_
  refine ev_r_putI (pc := 63) (y := 617) (ci := 13) (f := 78) (by decide) (by decide +kernel) (by decide +kernel) (by exact ev_ob_621) rfl rfl ?_
  intro s14
  refine ev_r_iconst (pc := 66) (k := -1) (by decide +kernel) ?_
  refine ev_r_istore_n (pc := 67) (k := 3) (by decide +kernel) (by decide +kernel) rfl ?_
  exact jlt_306_68 d hd Q     Q ((-1)) (by decide) s14 _ (by exact (ev_l1 (by rfl) (by decide) (by decide))) (by exact ev_lk_st1_self)
