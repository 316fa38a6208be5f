/-! METHODS as functions, laid by decomp.py -/
theorem ev_ob_294 : ev_isOb 294 11 = true := (by decide +kernel)
theorem ev_ob_284 : ev_isOb 284 11 = true := (by decide +kernel)
theorem ev_ab_2 : ev_isAb 2 1 .int = true := (by decide +kernel)
theorem ev_el_304 {i : Int} (h : 0 ≤ i ∧ i < (6 : Int)) : ev_isAb (305 + 1 * i.toNat) 1 .int = true := (show ∀ j, j < 6 → ev_isAb (305 + 1 * j) 1 .int = true from (by decide +kernel)) i.toNat (by omega)
theorem ev_ab_311 : ev_isAb 311 1 .int = true := (by decide +kernel)
theorem ev_el_312 {i : Int} (h : 0 ≤ i ∧ i < (4 : Int)) : ev_isOb (569 + 13 * i.toNat) 9 = true := (show ∀ j, j < 4 → ev_isOb (569 + 13 * j) 9 = true from (by decide +kernel)) i.toNat (by omega)
theorem ev_ob_621 : ev_isOb 621 13 = true := (by decide +kernel)
theorem ev_ab_622 : ev_isAb 622 1 .int = true := (by decide +kernel)
theorem ev_ab_644 : ev_isAb 644 1 .int = true := (by decide +kernel)
theorem ev_ab_645 : ev_isAb 645 1 .int = true := (by decide +kernel)
theorem ev_ab_623 : ev_isAb 623 1 .int = true := (by decide +kernel)
theorem ev_ab_624 : ev_isAb 624 1 .int = true := (by decide +kernel)
theorem ev_ab_635 : ev_isAb 635 1 .int = true := (by decide +kernel)
theorem ev_ab_625 : ev_isAb 625 1 .int = true := (by decide +kernel)
theorem ev_ab_626 : ev_isAb 626 1 .int = true := (by decide +kernel)
theorem ev_ab_627 : ev_isAb 627 1 .int = true := (by decide +kernel)
theorem ev_ab_628 : ev_isAb 628 1 .int = true := (by decide +kernel)
theorem ev_ab_629 : ev_isAb 629 1 .int = true := (by decide +kernel)
theorem ev_ab_630 : ev_isAb 630 1 .int = true := (by decide +kernel)
theorem ev_ab_631 : ev_isAb 631 1 .int = true := (by decide +kernel)
theorem ev_ab_632 : ev_isAb 632 1 .int = true := (by decide +kernel)
theorem ev_ab_633 : ev_isAb 633 2 .long = true := (by decide +kernel)
theorem ev_ab_634 : ev_isAb 634 2 .long = true := (by decide +kernel)
theorem ev_ab_646 : ev_isAb 646 1 .int = true := (by decide +kernel)
theorem ev_ab_647 : ev_isAb 647 1 .int = true := (by decide +kernel)
theorem ev_ab_648 : ev_isAb 648 1 .int = true := (by decide +kernel)
theorem ev_ab_649 : ev_isAb 649 1 .int = true := (by decide +kernel)
theorem ev_ab_650 : ev_isAb 650 1 .boolean = true := (by decide +kernel)
/-- MendBench.findBack(IIII)I -/
def jm_204 (Q : Nat) (a0 : Int) (a1 : Int) (a2 : Int) (a3 : Int) (S : ev_St) : Option ((Int) × ev_St) := ev_bd (jm_200 Q a0 S) fun r2 s1 => ev_bd (jm_1 Q a1 s1) fun r4 s3 => if r2 = 0 then (some ((-1), s3)) else (if r4 = 0 then (some ((-1), s3)) else (ev_bd (jm_115 Q r2 r4 a2 s3) fun x8 s7 => if 0 ≤ x8 then (ev_bd (jm_118 Q a3 s7) fun x11 s10 => some (x11, s10)) else (some (x8, s7))))
theorem jt_204 (d : Nat) (hd : 7 ≤ d) (Q : Nat) (a0 : Int) (a1 : Int) (a2 : Int) (a3 : Int) (ha0 : ev_rng a0) (ha1 : ev_rng a1) (ha2 : ev_rng a2) (ha3 : ev_rng a3) (S : ev_St) (x : Int) (S' : ev_St) (hJ : jm_204 Q a0 a1 a2 a3 S = some (x, S')) : ev_Ref d 204 [.ref 0, .int (Int32.ofInt a0), .int (Int32.ofInt a1), .int (Int32.ofInt a2), .int (Int32.ofInt a3)] S (ev_eI x) S' (ev_rng x) := by
  obtain ⟨d, rfl⟩ : ∃ e, d = e + 1 := ⟨d - 1, by omega⟩
  refine ev_ref_of (P := ev_rng) (lv := [(0, .ref 0), (1, .int (Int32.ofInt a0)), (2, .int (Int32.ofInt a1)), (3, .int (Int32.ofInt a2)), (4, .int (Int32.ofInt a3))]) (by decide +kernel) (by (try simp only [ev_sum, ev_nv_cat]); first | done | rfl) (by (try simp only [lv_args, ev_nv_cat]); first | done | rfl) ?_ x S' hJ
  unfold jm_204
  refine ev_r_aload_n (pc := 0) (k := 0) (v := .ref 0) trivial (by decide +kernel) (by rfl) ?_
  refine ev_r_iload_n (pc := 1) (k := 1) (v := Int32.ofInt a0) (by decide +kernel) (by rfl) ?_
  refine ev_r_virt (pc := 2) (y := 156) (mi := 200) (na := 1) (k := 0) (as := [.int (Int32.ofInt a0)]) (rest := []) (encc := ev_oR) (Q := (fun r => r = 0 ∨ ev_isOb (r - 1) 5 = true)) (fun x S1 h => jt_200 d (by omega) Q a0 ha0 S x S1 h) (by exact ev_ob_0) (by decide +kernel) (by decide +kernel) (by decide +kernel) (by decide +kernel) rfl (by (try simp only [ev_sum, ev_nv_cat]); first | done | rfl) ?_
  intro r2 s1 hr2
  show ev_w _ _ _ _ _ [ev_nv r2] _ _ _ _
  refine ev_r_astore (pc := 5) (k := 5) (ev_isR_nv _) (by decide +kernel) (by decide +kernel) rfl ?_
  refine ev_r_aload_n (pc := 7) (k := 0) (v := .ref 0) trivial (by decide +kernel) (by exact (ev_l1 (by rfl) (by decide) (by decide))) ?_
  refine ev_r_getC (pc := 8) (y := 48) (ci := 12) (f := 8) (fin := 1) (k' := 254) (by decide +kernel) (by decide +kernel) (by exact ev_ob_0) rfl rfl ?_
  refine ev_r_iload_n (pc := 11) (k := 2) (v := Int32.ofInt a1) (by decide +kernel) (by exact (ev_l1 (by rfl) (by decide) (by decide))) ?_
  refine ev_r_virt (pc := 12) (y := 221) (mi := 1) (na := 1) (k := 254) (as := [.int (Int32.ofInt a1)]) (rest := []) (encc := ev_oR) (Q := (fun r => r = 0 ∨ ev_isOb (r - 1) 10 = true)) (fun x S1 h => jt_1 d (by omega) Q a1 ha1 s1 x S1 h) (by exact ev_ob_254) (by decide +kernel) (by decide +kernel) (by decide +kernel) (by decide +kernel) rfl (by (try simp only [ev_sum, ev_nv_cat]); first | done | rfl) ?_
  intro r4 s3 hr4
  show ev_w _ _ _ _ _ [ev_nv r4] _ _ _ _
  refine ev_r_astore (pc := 15) (k := 6) (ev_isR_nv _) (by decide +kernel) (by decide +kernel) rfl ?_
  refine ev_r_aload (pc := 17) (k := 5) (v := ev_nv r2) (ev_isR_nv _) (by decide +kernel) (by exact (ev_lk_st1 ev_lk_st1_self (by decide) (ev_nv_cat _))) ?_
  refine ev_r_ifnull (pc := 19) (r := r2) (o := 8) (t := 27) (by decide +kernel) (by decide +kernel) ?_ ?_
  · intro c5
    refine ev_r_iconst (pc := 27) (k := -1) (by decide +kernel) ?_
    exact ev_r_ireturn (pc := 28) (x := (-1)) (v := Int32.ofInt ((-1))) (ty := .int) (by decide) (by decide +kernel) (by decide +kernel) rfl rfl
  · intro c5
    refine ev_r_aload (pc := 22) (k := 6) (v := ev_nv r4) (ev_isR_nv _) (by decide +kernel) (by exact ev_lk_st1_self) ?_
    refine ev_r_ifnonnull (pc := 24) (r := r4) (o := 5) (t := 29) (by decide +kernel) (by decide +kernel) ?_ ?_
    · intro c6
      refine ev_r_aload_n (pc := 29) (k := 0) (v := .ref 0) trivial (by decide +kernel) (by exact (ev_l1 (ev_l1 (by rfl) (by decide) (by decide)) (by decide) (by decide))) ?_
      refine ev_r_getC (pc := 30) (y := 62) (ci := 12) (f := 10) (fin := 1) (k' := 281) (by decide +kernel) (by decide +kernel) (by exact ev_ob_0) rfl rfl ?_
      refine ev_r_aload (pc := 33) (k := 5) (v := ev_nv r2) (ev_isR_nv _) (by decide +kernel) (by exact (ev_lk_st1 ev_lk_st1_self (by decide) (ev_nv_cat _))) ?_
      refine ev_r_aload (pc := 35) (k := 6) (v := ev_nv r4) (ev_isR_nv _) (by decide +kernel) (by exact ev_lk_st1_self) ?_
      refine ev_r_iload_n (pc := 37) (k := 3) (v := Int32.ofInt a2) (by decide +kernel) (by exact (ev_l1 (ev_l1 (by rfl) (by decide) (by decide)) (by decide) (by decide))) ?_
      refine ev_r_virt (pc := 38) (y := 227) (mi := 115) (na := 3) (k := 281) (as := [ev_nv r2, ev_nv r4, .int (Int32.ofInt a2)]) (rest := []) (encc := ev_oI) (Q := ev_rng) (fun x S1 h => jt_115 d (by omega) Q r2 r4 a2 (by exact hr2) (by exact hr4) ha2 s3 x S1 h) (by exact ev_ob_281) (by decide +kernel) (by decide +kernel) (by decide +kernel) (by decide +kernel) rfl (by (try simp only [ev_sum, ev_nv_cat]); first | done | rfl) ?_
      intro x8 s7 hx8
      show ev_w _ _ _ _ _ [.int (Int32.ofInt x8)] _ _ _ _
      refine ev_r_istore (pc := 41) (k := 7) (by decide +kernel) (by decide +kernel) rfl ?_
      refine ev_r_iload (pc := 43) (k := 7) (v := Int32.ofInt x8) (by decide +kernel) (by exact ev_lk_st1_self) ?_
      refine ev_r_if (pc := 45) (q := .ge) (o := 8) (t := 53) (c := 0 ≤ x8) (by decide +kernel) (ev_k_ge hx8 ev_rng0) (by decide +kernel) ?_ ?_
      · intro c9
        refine ev_r_aload_n (pc := 53) (k := 0) (v := .ref 0) trivial (by decide +kernel) (by exact (ev_l1 (ev_l1 (ev_l1 (by rfl) (by decide) (by decide)) (by decide) (by decide)) (by decide) (by decide))) ?_
        refine ev_r_getC (pc := 54) (y := 62) (ci := 12) (f := 10) (fin := 1) (k' := 281) (by decide +kernel) (by decide +kernel) (by exact ev_ob_0) rfl rfl ?_
        refine ev_r_iload (pc := 57) (k := 4) (v := Int32.ofInt a3) (by decide +kernel) (by exact (ev_l1 (ev_l1 (ev_lk_st1 (by rfl) (by decide) rfl) (by decide) (by decide)) (by decide) (by decide))) ?_
        refine ev_r_virt (pc := 59) (y := 373) (mi := 118) (na := 1) (k := 281) (as := [.int (Int32.ofInt a3)]) (rest := []) (encc := ev_oI) (Q := ev_rng) (fun x S1 h => jt_118 d (by omega) Q a3 ha3 s7 x S1 h) (by exact ev_ob_281) (by decide +kernel) (by decide +kernel) (by decide +kernel) (by decide +kernel) rfl (by (try simp only [ev_sum, ev_nv_cat]); first | done | rfl) ?_
        intro x11 s10 hx11
        show ev_w _ _ _ _ _ [.int (Int32.ofInt x11)] _ _ _ _
        exact ev_r_ireturn (pc := 62) (x := x11) (v := Int32.ofInt x11) (ty := .int) hx11 (by decide +kernel) (by decide +kernel) rfl rfl
      · intro c9
        refine ev_r_iload (pc := 48) (k := 7) (v := Int32.ofInt x8) (by decide +kernel) (by exact ev_lk_st1_self) ?_
        refine ev_r_goto (pc := 50) (o := 12) (t := 62) (by decide +kernel) (by decide +kernel) ?_
        exact ev_r_ireturn (pc := 62) (x := x8) (v := Int32.ofInt x8) (ty := .int) hx8 (by decide +kernel) (by decide +kernel) rfl rfl
    · intro c6
      refine ev_r_iconst (pc := 27) (k := -1) (by decide +kernel) ?_
      exact ev_r_ireturn (pc := 28) (x := (-1)) (v := Int32.ofInt ((-1))) (ty := .int) (by decide) (by decide +kernel) (by decide +kernel) rfl rfl
/-- MendBench.find(IIII)I -/
def jm_176 (Q : Nat) (a0 : Int) (a1 : Int) (a2 : Int) (a3 : Int) (S : ev_St) : Option ((Int ⊕ String) × ev_St) := ev_bd (jm_203 Q a0 a1 a2 a3 S) fun x2 s1 => if x2 ≠ 0 then (ev_bd (jm_204 Q a0 a1 a2 a3 s1) fun x5 s4 => some (.inl x5, s4)) else (some (.inr "java/lang/IndexOutOfBoundsException", ev_tick s1))
theorem jt_176 (d : Nat) (hd : 8 ≤ d) (Q : Nat) (a0 : Int) (a1 : Int) (a2 : Int) (a3 : Int) (ha0 : ev_rng a0) (ha1 : ev_rng a1) (ha2 : ev_rng a2) (ha3 : ev_rng a3) (S : ev_St) (x : Int ⊕ String) (S' : ev_St) (hJ : jm_176 Q a0 a1 a2 a3 S = some (x, S')) : ev_Ref d 176 [.ref 0, .int (Int32.ofInt a0), .int (Int32.ofInt a1), .int (Int32.ofInt a2), .int (Int32.ofInt a3)] S (ev_eX x) S' (ev_PX x) := by
  obtain ⟨d, rfl⟩ : ∃ e, d = e + 1 := ⟨d - 1, by omega⟩
  refine ev_ref_of (P := ev_PX) (lv := [(0, .ref 0), (1, .int (Int32.ofInt a0)), (2, .int (Int32.ofInt a1)), (3, .int (Int32.ofInt a2)), (4, .int (Int32.ofInt a3))]) (by decide +kernel) (by (try simp only [ev_sum, ev_nv_cat]); first | done | rfl) (by (try simp only [lv_args, ev_nv_cat]); first | done | rfl) ?_ x S' hJ
  unfold jm_176
  refine ev_r_aload_n (pc := 0) (k := 0) (v := .ref 0) trivial (by decide +kernel) (by rfl) ?_
  refine ev_r_iload_n (pc := 1) (k := 1) (v := Int32.ofInt a0) (by decide +kernel) (by rfl) ?_
  refine ev_r_iload_n (pc := 2) (k := 2) (v := Int32.ofInt a1) (by decide +kernel) (by rfl) ?_
  refine ev_r_iload_n (pc := 3) (k := 3) (v := Int32.ofInt a2) (by decide +kernel) (by rfl) ?_
  refine ev_r_iload (pc := 4) (k := 4) (v := Int32.ofInt a3) (by decide +kernel) (by rfl) ?_
  refine ev_r_virt (pc := 6) (y := 205) (mi := 203) (na := 4) (k := 0) (as := [.int (Int32.ofInt a0), .int (Int32.ofInt a1), .int (Int32.ofInt a2), .int (Int32.ofInt a3)]) (rest := []) (encc := ev_oI) (Q := ev_bl) (fun x S1 h => jt_203 d (by omega) Q a0 a1 a2 a3 ha0 ha1 ha2 ha3 S x S1 h) (by exact ev_ob_0) (by decide +kernel) (by decide +kernel) (by decide +kernel) (by decide +kernel) rfl (by (try simp only [ev_sum, ev_nv_cat]); first | done | rfl) ?_
  intro x2 s1 hx2
  replace hx2 := ev_bl_rng hx2
  show ev_w _ _ _ _ _ [.int (Int32.ofInt x2)] _ _ _ _
  refine ev_r_if (pc := 9) (q := .ne) (o := 13) (t := 22) (c := x2 ≠ 0) (by decide +kernel) (ev_k_ne hx2 ev_rng0) (by decide +kernel) ?_ ?_
  · intro c3
    refine ev_r_aload_n (pc := 22) (k := 0) (v := .ref 0) trivial (by decide +kernel) (by rfl) ?_
    refine ev_r_iload_n (pc := 23) (k := 1) (v := Int32.ofInt a0) (by decide +kernel) (by rfl) ?_
    refine ev_r_iload_n (pc := 24) (k := 2) (v := Int32.ofInt a1) (by decide +kernel) (by rfl) ?_
    refine ev_r_iload_n (pc := 25) (k := 3) (v := Int32.ofInt a2) (by decide +kernel) (by rfl) ?_
    refine ev_r_iload (pc := 26) (k := 4) (v := Int32.ofInt a3) (by decide +kernel) (by rfl) ?_
    refine ev_r_virt (pc := 28) (y := 211) (mi := 204) (na := 4) (k := 0) (as := [.int (Int32.ofInt a0), .int (Int32.ofInt a1), .int (Int32.ofInt a2), .int (Int32.ofInt a3)]) (rest := []) (encc := ev_oI) (Q := ev_rng) (fun x S1 h => jt_204 d (by omega) Q a0 a1 a2 a3 ha0 ha1 ha2 ha3 s1 x S1 h) (by exact ev_ob_0) (by decide +kernel) (by decide +kernel) (by decide +kernel) (by decide +kernel) rfl (by (try simp only [ev_sum, ev_nv_cat]); first | done | rfl) ?_
    intro x5 s4 hx5
    show ev_w _ _ _ _ _ [.int (Int32.ofInt x5)] _ _ _ _
    exact ev_r_ireturn (pc := 31) (x := .inl x5) (v := Int32.ofInt x5) (ty := .int) hx5 (by decide +kernel) (by decide +kernel) rfl rfl
  · intro c3
    exact ev_r_throw (pc := 12) (x := .inr "java/lang/IndexOutOfBoundsException") (y := 160) (E := "java/lang/IndexOutOfBoundsException") trivial (by decide +kernel) (by decide +kernel) (by decide +kernel) (Nat.ble_eq.mpr (by omega)) rfl
/-- MendBench.anew(IIII)I -/
def jm_177 (Q : Nat) (a0 : Int) (a1 : Int) (a2 : Int) (a3 : Int) (S : ev_St) : Option ((Int ⊕ String) × ev_St) := ev_bd (jm_203 Q a0 a1 a2 a3 S) fun x2 s1 => if x2 ≠ 0 then (ev_bd (jm_204 Q a0 a1 a2 a3 s1) fun x5 s4 => some (.inl x5, s4)) else (some (.inr "java/lang/IndexOutOfBoundsException", ev_tick s1))
theorem jt_177 (d : Nat) (hd : 8 ≤ d) (Q : Nat) (a0 : Int) (a1 : Int) (a2 : Int) (a3 : Int) (ha0 : ev_rng a0) (ha1 : ev_rng a1) (ha2 : ev_rng a2) (ha3 : ev_rng a3) (S : ev_St) (x : Int ⊕ String) (S' : ev_St) (hJ : jm_177 Q a0 a1 a2 a3 S = some (x, S')) : ev_Ref d 177 [.ref 0, .int (Int32.ofInt a0), .int (Int32.ofInt a1), .int (Int32.ofInt a2), .int (Int32.ofInt a3)] S (ev_eX x) S' (ev_PX x) := by
  obtain ⟨d, rfl⟩ : ∃ e, d = e + 1 := ⟨d - 1, by omega⟩
  refine ev_ref_of (P := ev_PX) (lv := [(0, .ref 0), (1, .int (Int32.ofInt a0)), (2, .int (Int32.ofInt a1)), (3, .int (Int32.ofInt a2)), (4, .int (Int32.ofInt a3))]) (by decide +kernel) (by (try simp only [ev_sum, ev_nv_cat]); first | done | rfl) (by (try simp only [lv_args, ev_nv_cat]); first | done | rfl) ?_ x S' hJ
  unfold jm_177
  refine ev_r_aload_n (pc := 0) (k := 0) (v := .ref 0) trivial (by decide +kernel) (by rfl) ?_
  refine ev_r_iload_n (pc := 1) (k := 1) (v := Int32.ofInt a0) (by decide +kernel) (by rfl) ?_
  refine ev_r_iload_n (pc := 2) (k := 2) (v := Int32.ofInt a1) (by decide +kernel) (by rfl) ?_
  refine ev_r_iload_n (pc := 3) (k := 3) (v := Int32.ofInt a2) (by decide +kernel) (by rfl) ?_
  refine ev_r_iload (pc := 4) (k := 4) (v := Int32.ofInt a3) (by decide +kernel) (by rfl) ?_
  refine ev_r_virt (pc := 6) (y := 205) (mi := 203) (na := 4) (k := 0) (as := [.int (Int32.ofInt a0), .int (Int32.ofInt a1), .int (Int32.ofInt a2), .int (Int32.ofInt a3)]) (rest := []) (encc := ev_oI) (Q := ev_bl) (fun x S1 h => jt_203 d (by omega) Q a0 a1 a2 a3 ha0 ha1 ha2 ha3 S x S1 h) (by exact ev_ob_0) (by decide +kernel) (by decide +kernel) (by decide +kernel) (by decide +kernel) rfl (by (try simp only [ev_sum, ev_nv_cat]); first | done | rfl) ?_
  intro x2 s1 hx2
  replace hx2 := ev_bl_rng hx2
  show ev_w _ _ _ _ _ [.int (Int32.ofInt x2)] _ _ _ _
  refine ev_r_if (pc := 9) (q := .ne) (o := 13) (t := 22) (c := x2 ≠ 0) (by decide +kernel) (ev_k_ne hx2 ev_rng0) (by decide +kernel) ?_ ?_
  · intro c3
    refine ev_r_aload_n (pc := 22) (k := 0) (v := .ref 0) trivial (by decide +kernel) (by rfl) ?_
    refine ev_r_iload_n (pc := 23) (k := 1) (v := Int32.ofInt a0) (by decide +kernel) (by rfl) ?_
    refine ev_r_iload_n (pc := 24) (k := 2) (v := Int32.ofInt a1) (by decide +kernel) (by rfl) ?_
    refine ev_r_iload_n (pc := 25) (k := 3) (v := Int32.ofInt a2) (by decide +kernel) (by rfl) ?_
    refine ev_r_iload (pc := 26) (k := 4) (v := Int32.ofInt a3) (by decide +kernel) (by rfl) ?_
    refine ev_r_virt (pc := 28) (y := 211) (mi := 204) (na := 4) (k := 0) (as := [.int (Int32.ofInt a0), .int (Int32.ofInt a1), .int (Int32.ofInt a2), .int (Int32.ofInt a3)]) (rest := []) (encc := ev_oI) (Q := ev_rng) (fun x S1 h => jt_204 d (by omega) Q a0 a1 a2 a3 ha0 ha1 ha2 ha3 s1 x S1 h) (by exact ev_ob_0) (by decide +kernel) (by decide +kernel) (by decide +kernel) (by decide +kernel) rfl (by (try simp only [ev_sum, ev_nv_cat]); first | done | rfl) ?_
    intro x5 s4 hx5
    show ev_w _ _ _ _ _ [.int (Int32.ofInt x5)] _ _ _ _
    exact ev_r_ireturn (pc := 31) (x := .inl x5) (v := Int32.ofInt x5) (ty := .int) hx5 (by decide +kernel) (by decide +kernel) rfl rfl
  · intro c3
    exact ev_r_throw (pc := 12) (x := .inr "java/lang/IndexOutOfBoundsException") (y := 160) (E := "java/lang/IndexOutOfBoundsException") trivial (by decide +kernel) (by decide +kernel) (by decide +kernel) (Nat.ble_eq.mpr (by omega)) rfl
/-- MendBench.findThreaded(IIIII)I -/
def jm_205 (Q : Nat) (a0 : Int) (a1 : Int) (a2 : Int) (a3 : Int) (a4 : Int) (S : ev_St) : Option ((Int) × ev_St) := ev_bd (jm_200 Q a1 S) fun r2 s1 => ev_bd (jm_1 Q a2 s1) fun r4 s3 => if r2 = 0 then (some ((-1), s3)) else (if r4 = 0 then (some ((-1), s3)) else (ev_jn (fun (x7 : Int) (s15 : ev_St) => if x7 ≠ 0 then (ev_jn (fun (r17 : Nat) (s23 : ev_St) => ev_bd (jm_157 Q r17 ((((r2 - 1) + 12) + 1)) r4 a3 s23) fun _ s24 => ev_bd (jm_159 Q r17 a4 s24) fun x26 s25 => some (x26, s25)) fun K86 => if a0 ≠ 1 then (K86 294 s15) else (K86 284 s15)) else (some ((-4), s15))) fun K60 => if a0 ≠ 1 then (ev_b (s3.1 ((r2 - 1)) 15) fun x29 => ev_jn (fun  (s37 : ev_St) => K60 0 s37) fun K59 => if x29 = 0 then (K59  s3) else (if a4 ≠ 0 then (K59  s3) else (K60 1 s3))) else (ev_b (s3.1 ((r2 - 1)) 14) fun x40 => K60 x40 s3)))
theorem jt_205 (d : Nat) (hd : 7 ≤ d) (Q : Nat) (a0 : Int) (a1 : Int) (a2 : Int) (a3 : Int) (a4 : Int) (ha0 : ev_rng a0) (ha1 : ev_rng a1) (ha2 : ev_rng a2) (ha3 : ev_rng a3) (ha4 : ev_rng a4) (S : ev_St) (x : Int) (S' : ev_St) (hJ : jm_205 Q a0 a1 a2 a3 a4 S = some (x, S')) : ev_Ref d 205 [.ref 0, .int (Int32.ofInt a0), .int (Int32.ofInt a1), .int (Int32.ofInt a2), .int (Int32.ofInt a3), .int (Int32.ofInt a4)] S (ev_eI x) S' (ev_rng x) := by
  obtain ⟨d, rfl⟩ : ∃ e, d = e + 1 := ⟨d - 1, by omega⟩
  refine ev_ref_of (P := ev_rng) (lv := [(0, .ref 0), (1, .int (Int32.ofInt a0)), (2, .int (Int32.ofInt a1)), (3, .int (Int32.ofInt a2)), (4, .int (Int32.ofInt a3)), (5, .int (Int32.ofInt a4))]) (by decide +kernel) (by (try simp only [ev_sum, ev_nv_cat]); first | done | rfl) (by (try simp only [lv_args, ev_nv_cat]); first | done | rfl) ?_ x S' hJ
  unfold jm_205
  refine ev_r_aload_n (pc := 0) (k := 0) (v := .ref 0) trivial (by decide +kernel) (by rfl) ?_
  refine ev_r_iload_n (pc := 1) (k := 2) (v := Int32.ofInt a1) (by decide +kernel) (by rfl) ?_
  refine ev_r_virt (pc := 2) (y := 156) (mi := 200) (na := 1) (k := 0) (as := [.int (Int32.ofInt a1)]) (rest := []) (encc := ev_oR) (Q := (fun r => r = 0 ∨ ev_isOb (r - 1) 5 = true)) (fun x S1 h => jt_200 d (by omega) Q a1 ha1 S x S1 h) (by exact ev_ob_0) (by decide +kernel) (by decide +kernel) (by decide +kernel) (by decide +kernel) rfl (by (try simp only [ev_sum, ev_nv_cat]); first | done | rfl) ?_
  intro r2 s1 hr2
  show ev_w _ _ _ _ _ [ev_nv r2] _ _ _ _
  refine ev_r_astore (pc := 5) (k := 6) (ev_isR_nv _) (by decide +kernel) (by decide +kernel) rfl ?_
  refine ev_r_aload_n (pc := 7) (k := 0) (v := .ref 0) trivial (by decide +kernel) (by exact (ev_l1 (by rfl) (by decide) (by decide))) ?_
  refine ev_r_getC (pc := 8) (y := 48) (ci := 12) (f := 8) (fin := 1) (k' := 254) (by decide +kernel) (by decide +kernel) (by exact ev_ob_0) rfl rfl ?_
  refine ev_r_iload_n (pc := 11) (k := 3) (v := Int32.ofInt a2) (by decide +kernel) (by exact (ev_l1 (by rfl) (by decide) (by decide))) ?_
  refine ev_r_virt (pc := 12) (y := 221) (mi := 1) (na := 1) (k := 254) (as := [.int (Int32.ofInt a2)]) (rest := []) (encc := ev_oR) (Q := (fun r => r = 0 ∨ ev_isOb (r - 1) 10 = true)) (fun x S1 h => jt_1 d (by omega) Q a2 ha2 s1 x S1 h) (by exact ev_ob_254) (by decide +kernel) (by decide +kernel) (by decide +kernel) (by decide +kernel) rfl (by (try simp only [ev_sum, ev_nv_cat]); first | done | rfl) ?_
  intro r4 s3 hr4
  show ev_w _ _ _ _ _ [ev_nv r4] _ _ _ _
  refine ev_r_astore (pc := 15) (k := 7) (ev_isR_nv _) (by decide +kernel) (by decide +kernel) rfl ?_
  refine ev_r_aload (pc := 17) (k := 6) (v := ev_nv r2) (ev_isR_nv _) (by decide +kernel) (by exact (ev_lk_st1 ev_lk_st1_self (by decide) (ev_nv_cat _))) ?_
  refine ev_r_ifnull (pc := 19) (r := r2) (o := 8) (t := 27) (by decide +kernel) (by decide +kernel) ?_ ?_
  · intro c5
    refine ev_r_iconst (pc := 27) (k := -1) (by decide +kernel) ?_
    exact ev_r_ireturn (pc := 28) (x := (-1)) (v := Int32.ofInt ((-1))) (ty := .int) (by decide) (by decide +kernel) (by decide +kernel) rfl rfl
  · intro c5
    refine ev_r_aload (pc := 22) (k := 7) (v := ev_nv r4) (ev_isR_nv _) (by decide +kernel) (by exact ev_lk_st1_self) ?_
    refine ev_r_ifnonnull (pc := 24) (r := r4) (o := 5) (t := 29) (by decide +kernel) (by decide +kernel) ?_ ?_
    · intro c6
      refine ev_r_iload_n (pc := 29) (k := 1) (v := Int32.ofInt a0) (by decide +kernel) (by exact (ev_l1 (ev_l1 (by rfl) (by decide) (by decide)) (by decide) (by decide))) ?_
      refine ev_r_iconst (pc := 30) (k := 1) (by decide +kernel) ?_
      refine ev_r_jn (Q := fun K => ∀ (x7 : Int) (hx7 : ev_rng x7), ∀ (s15 : ev_St) (w8 : List (Nat × Value)), ev_lk w8 0 = some (.ref 0) → ev_lk w8 1 = some (.int (Int32.ofInt a0)) → ev_lk w8 4 = some (.int (Int32.ofInt a3)) → ev_lk w8 5 = some (.int (Int32.ofInt a4)) → ev_lk w8 6 = some (ev_nv r2) → ev_lk w8 7 = some (ev_nv r4) → ev_w none (ev_Mof 205) d 60 w8 [.int (Int32.ofInt x7)] s15 (K x7 s15) ev_eI ev_rng) ?_ ?_
      · intro x7 hx7 s15 w8 e9 e10 e11 e12 e13 e14
        refine ev_r_istore (pc := 60) (k := 8) (by decide +kernel) (by decide +kernel) rfl ?_
        refine ev_r_iload (pc := 62) (k := 8) (v := Int32.ofInt x7) (by decide +kernel) (by exact ev_lk_st1_self) ?_
        refine ev_r_if (pc := 64) (q := .ne) (o := 6) (t := 70) (c := x7 ≠ 0) (by decide +kernel) (ev_k_ne hx7 ev_rng0) (by decide +kernel) ?_ ?_
        · intro c16
          refine ev_r_iload_n (pc := 70) (k := 1) (v := Int32.ofInt a0) (by decide +kernel) (by exact (ev_l1 e10 (by decide) (by decide))) ?_
          refine ev_r_iconst (pc := 71) (k := 1) (by decide +kernel) ?_
          refine ev_r_jn (Q := fun K => ∀ (r17 : Nat) (hr17 : ev_isOb r17 11 = true), ∀ (s23 : ev_St) (w18 : List (Nat × Value)), ev_lk w18 4 = some (.int (Int32.ofInt a3)) → ev_lk w18 5 = some (.int (Int32.ofInt a4)) → ev_lk w18 6 = some (ev_nv r2) → ev_lk w18 7 = some (ev_nv r4) → ev_w none (ev_Mof 205) d 86 w18 [.ref r17] s23 (K r17 s23) ev_eI ev_rng) ?_ ?_
          · intro r17 hr17 s23 w18 e19 e20 e21 e22
            refine ev_r_astore (pc := 86) (k := 9) trivial (by decide +kernel) (by decide +kernel) rfl ?_
            refine ev_r_aload (pc := 88) (k := 9) (v := .ref r17) trivial (by decide +kernel) (by exact ev_lk_st1_self) ?_
            refine ev_r_aload (pc := 90) (k := 6) (v := ev_nv r2) (ev_isR_nv _) (by decide +kernel) (by exact (ev_l1 e21 (by decide) (by decide))) ?_
            refine ev_r_dr (r := r2) (fun v => [v, .ref r17]) c5 ?_
            refine ev_r_getC (pc := 92) (y := 343) (ci := 5) (f := 13) (fin := 2) (k' := ((r2 - 1) + 12)) (by decide +kernel) (by decide +kernel) (by exact (hr2.resolve_left c5)) rfl rfl ?_
            refine ev_r_aload (pc := 95) (k := 7) (v := ev_nv r4) (ev_isR_nv _) (by decide +kernel) (by exact (ev_l1 e22 (by decide) (by decide))) ?_
            refine ev_r_iload (pc := 97) (k := 4) (v := Int32.ofInt a3) (by decide +kernel) (by exact (ev_l1 e19 (by decide) (by decide))) ?_
            refine ev_r_virt (pc := 99) (y := 376) (mi := 157) (na := 3) (k := r17) (as := [ev_nv ((((r2 - 1) + 12) + 1)), ev_nv r4, .int (Int32.ofInt a3)]) (rest := []) (encc := ev_oU) (Q := ev_PU) (fun x S1 h => jt_157 d (by omega) Q r17 ((((r2 - 1) + 12) + 1)) r4 a3 hr17 (by exact (Or.inr (ev_fo_5_13 (hr2.resolve_left c5)))) (by exact hr4) ha3 s23 x S1 h) (by exact hr17) (by decide +kernel) (by decide +kernel) (by decide +kernel) (by decide +kernel) rfl (by (try simp only [ev_sum, ev_nv_cat]); first | done | rfl) ?_
            intro _ s24 _
            show ev_w _ _ _ _ _ [] _ _ _ _
            refine ev_r_aload (pc := 102) (k := 9) (v := .ref r17) trivial (by decide +kernel) (by exact ev_lk_st1_self) ?_
            refine ev_r_iload (pc := 104) (k := 5) (v := Int32.ofInt a4) (by decide +kernel) (by exact (ev_l1 e20 (by decide) (by decide))) ?_
            refine ev_r_virt (pc := 106) (y := 380) (mi := 159) (na := 1) (k := r17) (as := [.int (Int32.ofInt a4)]) (rest := []) (encc := ev_oI) (Q := ev_rng) (fun x S1 h => jt_159 d (by omega) Q r17 a4 hr17 ha4 s24 x S1 h) (by exact hr17) (by decide +kernel) (by decide +kernel) (by decide +kernel) (by decide +kernel) rfl (by (try simp only [ev_sum, ev_nv_cat]); first | done | rfl) ?_
            intro x26 s25 hx26
            show ev_w _ _ _ _ _ [.int (Int32.ofInt x26)] _ _ _ _
            exact ev_r_ireturn (pc := 109) (x := x26) (v := Int32.ofInt x26) (ty := .int) hx26 (by decide +kernel) (by decide +kernel) rfl rfl
          · intro K86 hK86
            refine ev_r_icmp (pc := 72) (q := .ne) (o := 10) (t := 82) (c := a0 ≠ 1) (by decide +kernel) (ev_k_ne ha0 (by decide)) (by decide +kernel) ?_ ?_
            · intro c27
              refine ev_r_aload_n (pc := 82) (k := 0) (v := .ref 0) trivial (by decide +kernel) (by exact (ev_l1 e9 (by decide) (by decide))) ?_
              refine ev_r_getC (pc := 83) (y := 75) (ci := 12) (f := 12) (fin := 1) (k' := 294) (by decide +kernel) (by decide +kernel) (by exact ev_ob_0) rfl rfl ?_
              exact hK86 294 ev_ob_294 s15 _ (by exact (ev_l1 e11 (by decide) (by decide))) (by exact (ev_l1 e12 (by decide) (by decide))) (by exact (ev_l1 e13 (by decide) (by decide))) (by exact (ev_lk_st1 e14 (by decide) (ev_nv_cat _)))
            · intro c27
              refine ev_r_aload_n (pc := 75) (k := 0) (v := .ref 0) trivial (by decide +kernel) (by exact (ev_l1 e9 (by decide) (by decide))) ?_
              refine ev_r_getC (pc := 76) (y := 71) (ci := 12) (f := 11) (fin := 1) (k' := 284) (by decide +kernel) (by decide +kernel) (by exact ev_ob_0) rfl rfl ?_
              refine ev_r_goto (pc := 79) (o := 7) (t := 86) (by decide +kernel) (by decide +kernel) ?_
              exact hK86 284 ev_ob_284 s15 _ (by exact (ev_l1 e11 (by decide) (by decide))) (by exact (ev_l1 e12 (by decide) (by decide))) (by exact (ev_l1 e13 (by decide) (by decide))) (by exact (ev_lk_st1 e14 (by decide) (ev_nv_cat _)))
        · intro c16
          refine ev_r_bipush (pc := 67) (k := -4) (by decide +kernel) (by decide +kernel) ?_
          exact ev_r_ireturn (pc := 69) (x := (-4)) (v := Int32.ofInt ((-4))) (ty := .int) (by decide) (by decide +kernel) (by decide +kernel) rfl rfl
      · intro K60 hK60
        refine ev_r_icmp (pc := 31) (q := .ne) (o := 11) (t := 42) (c := a0 ≠ 1) (by decide +kernel) (ev_k_ne ha0 (by decide)) (by decide +kernel) ?_ ?_
        · intro c28
          refine ev_r_aload (pc := 42) (k := 6) (v := ev_nv r2) (ev_isR_nv _) (by decide +kernel) (by exact (ev_lk_st1 ev_lk_st1_self (by decide) (ev_nv_cat _))) ?_
          refine ev_r_dr (r := r2) (fun v => [v]) c5 ?_
          refine ev_r_getI (pc := 44) (y := 172) (ci := 5) (f := 15) (fin := 0) (by decide +kernel) (by decide +kernel) (by exact (hr2.resolve_left c5)) rfl ?_
          intro x29 hx29
          refine ev_r_jn (Q := fun K => ∀ (s37 : ev_St) (w30 : List (Nat × Value)), ev_lk w30 0 = some (.ref 0) → ev_lk w30 1 = some (.int (Int32.ofInt a0)) → ev_lk w30 4 = some (.int (Int32.ofInt a3)) → ev_lk w30 5 = some (.int (Int32.ofInt a4)) → ev_lk w30 6 = some (ev_nv r2) → ev_lk w30 7 = some (ev_nv r4) → ev_w none (ev_Mof 205) d 59 w30 [] s37 (K  s37) ev_eI ev_rng) ?_ ?_
          · intro  s37 w30 e31 e32 e33 e34 e35 e36
            refine ev_r_iconst (pc := 59) (k := 0) (by decide +kernel) ?_
            exact hK60 0 (by decide) s37 _ (by exact e31) (by exact e32) (by exact e33) (by exact e34) (by exact e35) (by exact e36)
          · intro K59 hK59
            refine ev_r_if (pc := 47) (q := .eq) (o := 12) (t := 59) (c := x29 = 0) (by decide +kernel) (ev_k_eq hx29 ev_rng0) (by decide +kernel) ?_ ?_
            · intro c38
              exact hK59  s3 _ (by exact (ev_l1 (ev_l1 (by rfl) (by decide) (by decide)) (by decide) (by decide))) (by exact (ev_l1 (ev_l1 (by rfl) (by decide) (by decide)) (by decide) (by decide))) (by exact (ev_l1 (ev_l1 (by rfl) (by decide) (by decide)) (by decide) (by decide))) (by exact (ev_l1 (ev_lk_st1 (by rfl) (by decide) rfl) (by decide) (by decide))) (by exact (ev_lk_st1 ev_lk_st1_self (by decide) (ev_nv_cat _))) (by exact ev_lk_st1_self)
            · intro c38
              refine ev_r_iload (pc := 50) (k := 5) (v := Int32.ofInt a4) (by decide +kernel) (by exact (ev_l1 (ev_lk_st1 (by rfl) (by decide) rfl) (by decide) (by decide))) ?_
              refine ev_r_if (pc := 52) (q := .ne) (o := 7) (t := 59) (c := a4 ≠ 0) (by decide +kernel) (ev_k_ne ha4 ev_rng0) (by decide +kernel) ?_ ?_
              · intro c39
                exact hK59  s3 _ (by exact (ev_l1 (ev_l1 (by rfl) (by decide) (by decide)) (by decide) (by decide))) (by exact (ev_l1 (ev_l1 (by rfl) (by decide) (by decide)) (by decide) (by decide))) (by exact (ev_l1 (ev_l1 (by rfl) (by decide) (by decide)) (by decide) (by decide))) (by exact (ev_l1 (ev_lk_st1 (by rfl) (by decide) rfl) (by decide) (by decide))) (by exact (ev_lk_st1 ev_lk_st1_self (by decide) (ev_nv_cat _))) (by exact ev_lk_st1_self)
              · intro c39
                refine ev_r_iconst (pc := 55) (k := 1) (by decide +kernel) ?_
                refine ev_r_goto (pc := 56) (o := 4) (t := 60) (by decide +kernel) (by decide +kernel) ?_
                exact hK60 1 (by decide) s3 _ (by exact (ev_l1 (ev_l1 (by rfl) (by decide) (by decide)) (by decide) (by decide))) (by exact (ev_l1 (ev_l1 (by rfl) (by decide) (by decide)) (by decide) (by decide))) (by exact (ev_l1 (ev_l1 (by rfl) (by decide) (by decide)) (by decide) (by decide))) (by exact (ev_l1 (ev_lk_st1 (by rfl) (by decide) rfl) (by decide) (by decide))) (by exact (ev_lk_st1 ev_lk_st1_self (by decide) (ev_nv_cat _))) (by exact ev_lk_st1_self)
        · intro c28
          refine ev_r_aload (pc := 34) (k := 6) (v := ev_nv r2) (ev_isR_nv _) (by decide +kernel) (by exact (ev_lk_st1 ev_lk_st1_self (by decide) (ev_nv_cat _))) ?_
          refine ev_r_dr (r := r2) (fun v => [v]) c5 ?_
          refine ev_r_getI (pc := 36) (y := 168) (ci := 5) (f := 14) (fin := 0) (by decide +kernel) (by decide +kernel) (by exact (hr2.resolve_left c5)) rfl ?_
          intro x40 hx40
          refine ev_r_goto (pc := 39) (o := 21) (t := 60) (by decide +kernel) (by decide +kernel) ?_
          exact hK60 x40 hx40 s3 _ (by exact (ev_l1 (ev_l1 (by rfl) (by decide) (by decide)) (by decide) (by decide))) (by exact (ev_l1 (ev_l1 (by rfl) (by decide) (by decide)) (by decide) (by decide))) (by exact (ev_l1 (ev_l1 (by rfl) (by decide) (by decide)) (by decide) (by decide))) (by exact (ev_l1 (ev_lk_st1 (by rfl) (by decide) rfl) (by decide) (by decide))) (by exact (ev_lk_st1 ev_lk_st1_self (by decide) (ev_nv_cat _))) (by exact ev_lk_st1_self)
    · intro c6
      refine ev_r_iconst (pc := 27) (k := -1) (by decide +kernel) ?_
      exact ev_r_ireturn (pc := 28) (x := (-1)) (v := Int32.ofInt ((-1))) (ty := .int) (by decide) (by decide +kernel) (by decide +kernel) rfl rfl
/-- MendBench.by(IIIII)I -/
def jm_178 (Q : Nat) (a0 : Int) (a1 : Int) (a2 : Int) (a3 : Int) (a4 : Int) (S : ev_St) : Option ((Int ⊕ String) × ev_St) := ev_bd (jm_203 Q a1 a2 a3 a4 S) fun x2 s1 => if x2 ≠ 0 then (if a0 < 0 then (some (.inr "java/lang/IllegalArgumentException", ev_tick s1)) else (if a0 ≤ 2 then (if a0 ≠ 0 then (ev_bd (jm_205 Q a0 a1 a2 a3 a4 s1) fun x8 s7 => some (.inl x8, s7)) else (ev_bd (jm_204 Q a1 a2 a3 a4 s1) fun x10 s9 => some (.inl x10, s9))) else (some (.inr "java/lang/IllegalArgumentException", ev_tick s1)))) else (some (.inr "java/lang/IndexOutOfBoundsException", ev_tick s1))
theorem jt_178 (d : Nat) (hd : 8 ≤ d) (Q : Nat) (a0 : Int) (a1 : Int) (a2 : Int) (a3 : Int) (a4 : Int) (ha0 : ev_rng a0) (ha1 : ev_rng a1) (ha2 : ev_rng a2) (ha3 : ev_rng a3) (ha4 : ev_rng a4) (S : ev_St) (x : Int ⊕ String) (S' : ev_St) (hJ : jm_178 Q a0 a1 a2 a3 a4 S = some (x, S')) : ev_Ref d 178 [.ref 0, .int (Int32.ofInt a0), .int (Int32.ofInt a1), .int (Int32.ofInt a2), .int (Int32.ofInt a3), .int (Int32.ofInt a4)] S (ev_eX x) S' (ev_PX x) := by
  obtain ⟨d, rfl⟩ : ∃ e, d = e + 1 := ⟨d - 1, by omega⟩
  refine ev_ref_of (P := ev_PX) (lv := [(0, .ref 0), (1, .int (Int32.ofInt a0)), (2, .int (Int32.ofInt a1)), (3, .int (Int32.ofInt a2)), (4, .int (Int32.ofInt a3)), (5, .int (Int32.ofInt a4))]) (by decide +kernel) (by (try simp only [ev_sum, ev_nv_cat]); first | done | rfl) (by (try simp only [lv_args, ev_nv_cat]); first | done | rfl) ?_ x S' hJ
  unfold jm_178
  refine ev_r_aload_n (pc := 0) (k := 0) (v := .ref 0) trivial (by decide +kernel) (by rfl) ?_
  refine ev_r_iload_n (pc := 1) (k := 2) (v := Int32.ofInt a1) (by decide +kernel) (by rfl) ?_
  refine ev_r_iload_n (pc := 2) (k := 3) (v := Int32.ofInt a2) (by decide +kernel) (by rfl) ?_
  refine ev_r_iload (pc := 3) (k := 4) (v := Int32.ofInt a3) (by decide +kernel) (by rfl) ?_
  refine ev_r_iload (pc := 5) (k := 5) (v := Int32.ofInt a4) (by decide +kernel) (by rfl) ?_
  refine ev_r_virt (pc := 7) (y := 205) (mi := 203) (na := 4) (k := 0) (as := [.int (Int32.ofInt a1), .int (Int32.ofInt a2), .int (Int32.ofInt a3), .int (Int32.ofInt a4)]) (rest := []) (encc := ev_oI) (Q := ev_bl) (fun x S1 h => jt_203 d (by omega) Q a1 a2 a3 a4 ha1 ha2 ha3 ha4 S x S1 h) (by exact ev_ob_0) (by decide +kernel) (by decide +kernel) (by decide +kernel) (by decide +kernel) rfl (by (try simp only [ev_sum, ev_nv_cat]); first | done | rfl) ?_
  intro x2 s1 hx2
  replace hx2 := ev_bl_rng hx2
  show ev_w _ _ _ _ _ [.int (Int32.ofInt x2)] _ _ _ _
  refine ev_r_if (pc := 10) (q := .ne) (o := 13) (t := 23) (c := x2 ≠ 0) (by decide +kernel) (ev_k_ne hx2 ev_rng0) (by decide +kernel) ?_ ?_
  · intro c3
    refine ev_r_iload_n (pc := 23) (k := 1) (v := Int32.ofInt a0) (by decide +kernel) (by rfl) ?_
    refine ev_r_if (pc := 24) (q := .lt) (o := 8) (t := 32) (c := a0 < 0) (by decide +kernel) (ev_k_lt ha0 ev_rng0) (by decide +kernel) ?_ ?_
    · intro c4
      exact ev_r_throw (pc := 32) (x := .inr "java/lang/IllegalArgumentException") (y := 98) (E := "java/lang/IllegalArgumentException") trivial (by decide +kernel) (by decide +kernel) (by decide +kernel) (Nat.ble_eq.mpr (by omega)) rfl
    · intro c4
      refine ev_r_iload_n (pc := 27) (k := 1) (v := Int32.ofInt a0) (by decide +kernel) (by rfl) ?_
      refine ev_r_iconst (pc := 28) (k := 2) (by decide +kernel) ?_
      refine ev_r_icmp (pc := 29) (q := .le) (o := 13) (t := 42) (c := a0 ≤ 2) (by decide +kernel) (ev_k_le ha0 (by decide)) (by decide +kernel) ?_ ?_
      · intro c5
        refine ev_r_iload_n (pc := 42) (k := 1) (v := Int32.ofInt a0) (by decide +kernel) (by rfl) ?_
        refine ev_r_if (pc := 43) (q := .ne) (o := 14) (t := 57) (c := a0 ≠ 0) (by decide +kernel) (ev_k_ne ha0 ev_rng0) (by decide +kernel) ?_ ?_
        · intro c6
          refine ev_r_aload_n (pc := 57) (k := 0) (v := .ref 0) trivial (by decide +kernel) (by rfl) ?_
          refine ev_r_iload_n (pc := 58) (k := 1) (v := Int32.ofInt a0) (by decide +kernel) (by rfl) ?_
          refine ev_r_iload_n (pc := 59) (k := 2) (v := Int32.ofInt a1) (by decide +kernel) (by rfl) ?_
          refine ev_r_iload_n (pc := 60) (k := 3) (v := Int32.ofInt a2) (by decide +kernel) (by rfl) ?_
          refine ev_r_iload (pc := 61) (k := 4) (v := Int32.ofInt a3) (by decide +kernel) (by rfl) ?_
          refine ev_r_iload (pc := 63) (k := 5) (v := Int32.ofInt a4) (by decide +kernel) (by rfl) ?_
          refine ev_r_virt (pc := 65) (y := 217) (mi := 205) (na := 5) (k := 0) (as := [.int (Int32.ofInt a0), .int (Int32.ofInt a1), .int (Int32.ofInt a2), .int (Int32.ofInt a3), .int (Int32.ofInt a4)]) (rest := []) (encc := ev_oI) (Q := ev_rng) (fun x S1 h => jt_205 d (by omega) Q a0 a1 a2 a3 a4 ha0 ha1 ha2 ha3 ha4 s1 x S1 h) (by exact ev_ob_0) (by decide +kernel) (by decide +kernel) (by decide +kernel) (by decide +kernel) rfl (by (try simp only [ev_sum, ev_nv_cat]); first | done | rfl) ?_
          intro x8 s7 hx8
          show ev_w _ _ _ _ _ [.int (Int32.ofInt x8)] _ _ _ _
          exact ev_r_ireturn (pc := 68) (x := .inl x8) (v := Int32.ofInt x8) (ty := .int) hx8 (by decide +kernel) (by decide +kernel) rfl rfl
        · intro c6
          refine ev_r_aload_n (pc := 46) (k := 0) (v := .ref 0) trivial (by decide +kernel) (by rfl) ?_
          refine ev_r_iload_n (pc := 47) (k := 2) (v := Int32.ofInt a1) (by decide +kernel) (by rfl) ?_
          refine ev_r_iload_n (pc := 48) (k := 3) (v := Int32.ofInt a2) (by decide +kernel) (by rfl) ?_
          refine ev_r_iload (pc := 49) (k := 4) (v := Int32.ofInt a3) (by decide +kernel) (by rfl) ?_
          refine ev_r_iload (pc := 51) (k := 5) (v := Int32.ofInt a4) (by decide +kernel) (by rfl) ?_
          refine ev_r_virt (pc := 53) (y := 211) (mi := 204) (na := 4) (k := 0) (as := [.int (Int32.ofInt a1), .int (Int32.ofInt a2), .int (Int32.ofInt a3), .int (Int32.ofInt a4)]) (rest := []) (encc := ev_oI) (Q := ev_rng) (fun x S1 h => jt_204 d (by omega) Q a1 a2 a3 a4 ha1 ha2 ha3 ha4 s1 x S1 h) (by exact ev_ob_0) (by decide +kernel) (by decide +kernel) (by decide +kernel) (by decide +kernel) rfl (by (try simp only [ev_sum, ev_nv_cat]); first | done | rfl) ?_
          intro x10 s9 hx10
          show ev_w _ _ _ _ _ [.int (Int32.ofInt x10)] _ _ _ _
          exact ev_r_ireturn (pc := 56) (x := .inl x10) (v := Int32.ofInt x10) (ty := .int) hx10 (by decide +kernel) (by decide +kernel) rfl rfl
      · intro c5
        exact ev_r_throw (pc := 32) (x := .inr "java/lang/IllegalArgumentException") (y := 98) (E := "java/lang/IllegalArgumentException") trivial (by decide +kernel) (by decide +kernel) (by decide +kernel) (Nat.ble_eq.mpr (by omega)) rfl
  · intro c3
    exact ev_r_throw (pc := 13) (x := .inr "java/lang/IndexOutOfBoundsException") (y := 160) (E := "java/lang/IndexOutOfBoundsException") trivial (by decide +kernel) (by decide +kernel) (by decide +kernel) (Nat.ble_eq.mpr (by omega)) rfl
/-- MendBench.steps(III)I -/
def jm_179 (Q : Nat) (a0 : Int) (a1 : Int) (a2 : Int) (S : ev_St) : Option ((Int ⊕ String) × ev_St) := ev_bd (jm_200 Q a0 S) fun r2 s1 => ev_bd (jm_1 Q a1 s1) fun r4 s3 => if r2 = 0 then (some (.inr "java/lang/IndexOutOfBoundsException", ev_tick s3)) else (if r4 = 0 then (some (.inr "java/lang/IndexOutOfBoundsException", ev_tick s3)) else (if a2 < 0 then (some (.inr "java/lang/IndexOutOfBoundsException", ev_tick s3)) else (ev_b (s3.1 ((r4 - 1)) 1) fun x8 => if a2 ≤ x8 then (ev_bd (jm_115 Q r2 r4 a2 s3) fun x11 s10 => if x11 ≠ (-2) then (ev_b (s10.1 281 14) fun x13 => some (.inl x13, s10)) else (some (.inl ((-2)), s10))) else (some (.inr "java/lang/IndexOutOfBoundsException", ev_tick s3)))))
theorem jt_179 (d : Nat) (hd : 7 ≤ d) (Q : Nat) (a0 : Int) (a1 : Int) (a2 : Int) (ha0 : ev_rng a0) (ha1 : ev_rng a1) (ha2 : ev_rng a2) (S : ev_St) (x : Int ⊕ String) (S' : ev_St) (hJ : jm_179 Q a0 a1 a2 S = some (x, S')) : ev_Ref d 179 [.ref 0, .int (Int32.ofInt a0), .int (Int32.ofInt a1), .int (Int32.ofInt a2)] S (ev_eX x) S' (ev_PX x) := by
  obtain ⟨d, rfl⟩ : ∃ e, d = e + 1 := ⟨d - 1, by omega⟩
  refine ev_ref_of (P := ev_PX) (lv := [(0, .ref 0), (1, .int (Int32.ofInt a0)), (2, .int (Int32.ofInt a1)), (3, .int (Int32.ofInt a2))]) (by decide +kernel) (by (try simp only [ev_sum, ev_nv_cat]); first | done | rfl) (by (try simp only [lv_args, ev_nv_cat]); first | done | rfl) ?_ x S' hJ
  unfold jm_179
  refine ev_r_aload_n (pc := 0) (k := 0) (v := .ref 0) trivial (by decide +kernel) (by rfl) ?_
  refine ev_r_iload_n (pc := 1) (k := 1) (v := Int32.ofInt a0) (by decide +kernel) (by rfl) ?_
  refine ev_r_virt (pc := 2) (y := 156) (mi := 200) (na := 1) (k := 0) (as := [.int (Int32.ofInt a0)]) (rest := []) (encc := ev_oR) (Q := (fun r => r = 0 ∨ ev_isOb (r - 1) 5 = true)) (fun x S1 h => jt_200 d (by omega) Q a0 ha0 S x S1 h) (by exact ev_ob_0) (by decide +kernel) (by decide +kernel) (by decide +kernel) (by decide +kernel) rfl (by (try simp only [ev_sum, ev_nv_cat]); first | done | rfl) ?_
  intro r2 s1 hr2
  show ev_w _ _ _ _ _ [ev_nv r2] _ _ _ _
  refine ev_r_astore (pc := 5) (k := 4) (ev_isR_nv _) (by decide +kernel) (by decide +kernel) rfl ?_
  refine ev_r_aload_n (pc := 7) (k := 0) (v := .ref 0) trivial (by decide +kernel) (by exact (ev_l1 (by rfl) (by decide) (by decide))) ?_
  refine ev_r_getC (pc := 8) (y := 48) (ci := 12) (f := 8) (fin := 1) (k' := 254) (by decide +kernel) (by decide +kernel) (by exact ev_ob_0) rfl rfl ?_
  refine ev_r_iload_n (pc := 11) (k := 2) (v := Int32.ofInt a1) (by decide +kernel) (by exact (ev_l1 (by rfl) (by decide) (by decide))) ?_
  refine ev_r_virt (pc := 12) (y := 221) (mi := 1) (na := 1) (k := 254) (as := [.int (Int32.ofInt a1)]) (rest := []) (encc := ev_oR) (Q := (fun r => r = 0 ∨ ev_isOb (r - 1) 10 = true)) (fun x S1 h => jt_1 d (by omega) Q a1 ha1 s1 x S1 h) (by exact ev_ob_254) (by decide +kernel) (by decide +kernel) (by decide +kernel) (by decide +kernel) rfl (by (try simp only [ev_sum, ev_nv_cat]); first | done | rfl) ?_
  intro r4 s3 hr4
  show ev_w _ _ _ _ _ [ev_nv r4] _ _ _ _
  refine ev_r_astore (pc := 15) (k := 5) (ev_isR_nv _) (by decide +kernel) (by decide +kernel) rfl ?_
  refine ev_r_aload (pc := 17) (k := 4) (v := ev_nv r2) (ev_isR_nv _) (by decide +kernel) (by exact (ev_lk_st1 ev_lk_st1_self (by decide) (ev_nv_cat _))) ?_
  refine ev_r_ifnull (pc := 19) (r := r2) (o := 21) (t := 40) (by decide +kernel) (by decide +kernel) ?_ ?_
  · intro c5
    exact ev_r_throw (pc := 40) (x := .inr "java/lang/IndexOutOfBoundsException") (y := 160) (E := "java/lang/IndexOutOfBoundsException") trivial (by decide +kernel) (by decide +kernel) (by decide +kernel) (Nat.ble_eq.mpr (by omega)) rfl
  · intro c5
    refine ev_r_aload (pc := 22) (k := 5) (v := ev_nv r4) (ev_isR_nv _) (by decide +kernel) (by exact ev_lk_st1_self) ?_
    refine ev_r_ifnull (pc := 24) (r := r4) (o := 16) (t := 40) (by decide +kernel) (by decide +kernel) ?_ ?_
    · intro c6
      exact ev_r_throw (pc := 40) (x := .inr "java/lang/IndexOutOfBoundsException") (y := 160) (E := "java/lang/IndexOutOfBoundsException") trivial (by decide +kernel) (by decide +kernel) (by decide +kernel) (Nat.ble_eq.mpr (by omega)) rfl
    · intro c6
      refine ev_r_iload_n (pc := 27) (k := 3) (v := Int32.ofInt a2) (by decide +kernel) (by exact (ev_l1 (ev_lk_st1 (by rfl) (by decide) rfl) (by decide) (by decide))) ?_
      refine ev_r_if (pc := 28) (q := .lt) (o := 12) (t := 40) (c := a2 < 0) (by decide +kernel) (ev_k_lt ha2 ev_rng0) (by decide +kernel) ?_ ?_
      · intro c7
        exact ev_r_throw (pc := 40) (x := .inr "java/lang/IndexOutOfBoundsException") (y := 160) (E := "java/lang/IndexOutOfBoundsException") trivial (by decide +kernel) (by decide +kernel) (by decide +kernel) (Nat.ble_eq.mpr (by omega)) rfl
      · intro c7
        refine ev_r_iload_n (pc := 31) (k := 3) (v := Int32.ofInt a2) (by decide +kernel) (by exact (ev_l1 (ev_lk_st1 (by rfl) (by decide) rfl) (by decide) (by decide))) ?_
        refine ev_r_aload (pc := 32) (k := 5) (v := ev_nv r4) (ev_isR_nv _) (by decide +kernel) (by exact ev_lk_st1_self) ?_
        refine ev_r_dr (r := r4) (fun v => [v, .int (Int32.ofInt a2)]) c6 ?_
        refine ev_r_getI (pc := 34) (y := 105) (ci := 10) (f := 1) (fin := 0) (by decide +kernel) (by decide +kernel) (by exact (hr4.resolve_left c6)) rfl ?_
        intro x8 hx8
        refine ev_r_icmp (pc := 37) (q := .le) (o := 13) (t := 50) (c := a2 ≤ x8) (by decide +kernel) (ev_k_le ha2 hx8) (by decide +kernel) ?_ ?_
        · intro c9
          refine ev_r_aload_n (pc := 50) (k := 0) (v := .ref 0) trivial (by decide +kernel) (by exact (ev_l1 (ev_l1 (by rfl) (by decide) (by decide)) (by decide) (by decide))) ?_
          refine ev_r_getC (pc := 51) (y := 62) (ci := 12) (f := 10) (fin := 1) (k' := 281) (by decide +kernel) (by decide +kernel) (by exact ev_ob_0) rfl rfl ?_
          refine ev_r_aload (pc := 54) (k := 4) (v := ev_nv r2) (ev_isR_nv _) (by decide +kernel) (by exact (ev_lk_st1 ev_lk_st1_self (by decide) (ev_nv_cat _))) ?_
          refine ev_r_aload (pc := 56) (k := 5) (v := ev_nv r4) (ev_isR_nv _) (by decide +kernel) (by exact ev_lk_st1_self) ?_
          refine ev_r_iload_n (pc := 58) (k := 3) (v := Int32.ofInt a2) (by decide +kernel) (by exact (ev_l1 (ev_lk_st1 (by rfl) (by decide) rfl) (by decide) (by decide))) ?_
          refine ev_r_virt (pc := 59) (y := 227) (mi := 115) (na := 3) (k := 281) (as := [ev_nv r2, ev_nv r4, .int (Int32.ofInt a2)]) (rest := []) (encc := ev_oI) (Q := ev_rng) (fun x S1 h => jt_115 d (by omega) Q r2 r4 a2 (by exact hr2) (by exact hr4) ha2 s3 x S1 h) (by exact ev_ob_281) (by decide +kernel) (by decide +kernel) (by decide +kernel) (by decide +kernel) rfl (by (try simp only [ev_sum, ev_nv_cat]); first | done | rfl) ?_
          intro x11 s10 hx11
          show ev_w _ _ _ _ _ [.int (Int32.ofInt x11)] _ _ _ _
          refine ev_r_bipush (pc := 62) (k := -2) (by decide +kernel) (by decide +kernel) ?_
          refine ev_r_icmp (pc := 64) (q := .ne) (o := 8) (t := 72) (c := x11 ≠ (-2)) (by decide +kernel) (ev_k_ne hx11 (by decide)) (by decide +kernel) ?_ ?_
          · intro c12
            refine ev_r_aload_n (pc := 72) (k := 0) (v := .ref 0) trivial (by decide +kernel) (by exact (ev_l1 (ev_l1 (by rfl) (by decide) (by decide)) (by decide) (by decide))) ?_
            refine ev_r_getC (pc := 73) (y := 62) (ci := 12) (f := 10) (fin := 1) (k' := 281) (by decide +kernel) (by decide +kernel) (by exact ev_ob_0) rfl rfl ?_
            refine ev_r_getI (pc := 76) (y := 231) (ci := 8) (f := 14) (fin := 0) (by decide +kernel) (by decide +kernel) (by exact ev_ob_281) rfl ?_
            intro x13 hx13
            exact ev_r_ireturn (pc := 79) (x := .inl x13) (v := Int32.ofInt x13) (ty := .int) hx13 (by decide +kernel) (by decide +kernel) rfl rfl
          · intro c12
            refine ev_r_bipush (pc := 67) (k := -2) (by decide +kernel) (by decide +kernel) ?_
            refine ev_r_goto (pc := 69) (o := 10) (t := 79) (by decide +kernel) (by decide +kernel) ?_
            exact ev_r_ireturn (pc := 79) (x := .inl ((-2))) (v := Int32.ofInt ((-2))) (ty := .int) (by decide) (by decide +kernel) (by decide +kernel) rfl rfl
        · intro c9
          exact ev_r_throw (pc := 40) (x := .inr "java/lang/IndexOutOfBoundsException") (y := 160) (E := "java/lang/IndexOutOfBoundsException") trivial (by decide +kernel) (by decide +kernel) (by decide +kernel) (Nat.ble_eq.mpr (by omega)) rfl
/-- MendBench.back(III)I -/
def jm_180 (Q : Nat) (a0 : Int) (a1 : Int) (a2 : Int) (S : ev_St) : Option ((Int ⊕ String) × ev_St) := ev_bd (jm_200 Q a0 S) fun r2 s1 => ev_bd (jm_1 Q a1 s1) fun r4 s3 => if r2 = 0 then (some (.inr "java/lang/IndexOutOfBoundsException", ev_tick s3)) else (if r4 = 0 then (some (.inr "java/lang/IndexOutOfBoundsException", ev_tick s3)) else (if a2 < 0 then (some (.inr "java/lang/IndexOutOfBoundsException", ev_tick s3)) else (ev_b (s3.1 ((r4 - 1)) 1) fun x8 => if a2 ≤ x8 then (ev_bd (jm_116 Q r2 r4 a2 s3) fun x11 s10 => some (.inl x11, s10)) else (some (.inr "java/lang/IndexOutOfBoundsException", ev_tick s3)))))
theorem jt_180 (d : Nat) (hd : 7 ≤ d) (Q : Nat) (a0 : Int) (a1 : Int) (a2 : Int) (ha0 : ev_rng a0) (ha1 : ev_rng a1) (ha2 : ev_rng a2) (S : ev_St) (x : Int ⊕ String) (S' : ev_St) (hJ : jm_180 Q a0 a1 a2 S = some (x, S')) : ev_Ref d 180 [.ref 0, .int (Int32.ofInt a0), .int (Int32.ofInt a1), .int (Int32.ofInt a2)] S (ev_eX x) S' (ev_PX x) := by
  obtain ⟨d, rfl⟩ : ∃ e, d = e + 1 := ⟨d - 1, by omega⟩
  refine ev_ref_of (P := ev_PX) (lv := [(0, .ref 0), (1, .int (Int32.ofInt a0)), (2, .int (Int32.ofInt a1)), (3, .int (Int32.ofInt a2))]) (by decide +kernel) (by (try simp only [ev_sum, ev_nv_cat]); first | done | rfl) (by (try simp only [lv_args, ev_nv_cat]); first | done | rfl) ?_ x S' hJ
  unfold jm_180
  refine ev_r_aload_n (pc := 0) (k := 0) (v := .ref 0) trivial (by decide +kernel) (by rfl) ?_
  refine ev_r_iload_n (pc := 1) (k := 1) (v := Int32.ofInt a0) (by decide +kernel) (by rfl) ?_
  refine ev_r_virt (pc := 2) (y := 156) (mi := 200) (na := 1) (k := 0) (as := [.int (Int32.ofInt a0)]) (rest := []) (encc := ev_oR) (Q := (fun r => r = 0 ∨ ev_isOb (r - 1) 5 = true)) (fun x S1 h => jt_200 d (by omega) Q a0 ha0 S x S1 h) (by exact ev_ob_0) (by decide +kernel) (by decide +kernel) (by decide +kernel) (by decide +kernel) rfl (by (try simp only [ev_sum, ev_nv_cat]); first | done | rfl) ?_
  intro r2 s1 hr2
  show ev_w _ _ _ _ _ [ev_nv r2] _ _ _ _
  refine ev_r_astore (pc := 5) (k := 4) (ev_isR_nv _) (by decide +kernel) (by decide +kernel) rfl ?_
  refine ev_r_aload_n (pc := 7) (k := 0) (v := .ref 0) trivial (by decide +kernel) (by exact (ev_l1 (by rfl) (by decide) (by decide))) ?_
  refine ev_r_getC (pc := 8) (y := 48) (ci := 12) (f := 8) (fin := 1) (k' := 254) (by decide +kernel) (by decide +kernel) (by exact ev_ob_0) rfl rfl ?_
  refine ev_r_iload_n (pc := 11) (k := 2) (v := Int32.ofInt a1) (by decide +kernel) (by exact (ev_l1 (by rfl) (by decide) (by decide))) ?_
  refine ev_r_virt (pc := 12) (y := 221) (mi := 1) (na := 1) (k := 254) (as := [.int (Int32.ofInt a1)]) (rest := []) (encc := ev_oR) (Q := (fun r => r = 0 ∨ ev_isOb (r - 1) 10 = true)) (fun x S1 h => jt_1 d (by omega) Q a1 ha1 s1 x S1 h) (by exact ev_ob_254) (by decide +kernel) (by decide +kernel) (by decide +kernel) (by decide +kernel) rfl (by (try simp only [ev_sum, ev_nv_cat]); first | done | rfl) ?_
  intro r4 s3 hr4
  show ev_w _ _ _ _ _ [ev_nv r4] _ _ _ _
  refine ev_r_astore (pc := 15) (k := 5) (ev_isR_nv _) (by decide +kernel) (by decide +kernel) rfl ?_
  refine ev_r_aload (pc := 17) (k := 4) (v := ev_nv r2) (ev_isR_nv _) (by decide +kernel) (by exact (ev_lk_st1 ev_lk_st1_self (by decide) (ev_nv_cat _))) ?_
  refine ev_r_ifnull (pc := 19) (r := r2) (o := 21) (t := 40) (by decide +kernel) (by decide +kernel) ?_ ?_
  · intro c5
    exact ev_r_throw (pc := 40) (x := .inr "java/lang/IndexOutOfBoundsException") (y := 160) (E := "java/lang/IndexOutOfBoundsException") trivial (by decide +kernel) (by decide +kernel) (by decide +kernel) (Nat.ble_eq.mpr (by omega)) rfl
  · intro c5
    refine ev_r_aload (pc := 22) (k := 5) (v := ev_nv r4) (ev_isR_nv _) (by decide +kernel) (by exact ev_lk_st1_self) ?_
    refine ev_r_ifnull (pc := 24) (r := r4) (o := 16) (t := 40) (by decide +kernel) (by decide +kernel) ?_ ?_
    · intro c6
      exact ev_r_throw (pc := 40) (x := .inr "java/lang/IndexOutOfBoundsException") (y := 160) (E := "java/lang/IndexOutOfBoundsException") trivial (by decide +kernel) (by decide +kernel) (by decide +kernel) (Nat.ble_eq.mpr (by omega)) rfl
    · intro c6
      refine ev_r_iload_n (pc := 27) (k := 3) (v := Int32.ofInt a2) (by decide +kernel) (by exact (ev_l1 (ev_lk_st1 (by rfl) (by decide) rfl) (by decide) (by decide))) ?_
      refine ev_r_if (pc := 28) (q := .lt) (o := 12) (t := 40) (c := a2 < 0) (by decide +kernel) (ev_k_lt ha2 ev_rng0) (by decide +kernel) ?_ ?_
      · intro c7
        exact ev_r_throw (pc := 40) (x := .inr "java/lang/IndexOutOfBoundsException") (y := 160) (E := "java/lang/IndexOutOfBoundsException") trivial (by decide +kernel) (by decide +kernel) (by decide +kernel) (Nat.ble_eq.mpr (by omega)) rfl
      · intro c7
        refine ev_r_iload_n (pc := 31) (k := 3) (v := Int32.ofInt a2) (by decide +kernel) (by exact (ev_l1 (ev_lk_st1 (by rfl) (by decide) rfl) (by decide) (by decide))) ?_
        refine ev_r_aload (pc := 32) (k := 5) (v := ev_nv r4) (ev_isR_nv _) (by decide +kernel) (by exact ev_lk_st1_self) ?_
        refine ev_r_dr (r := r4) (fun v => [v, .int (Int32.ofInt a2)]) c6 ?_
        refine ev_r_getI (pc := 34) (y := 105) (ci := 10) (f := 1) (fin := 0) (by decide +kernel) (by decide +kernel) (by exact (hr4.resolve_left c6)) rfl ?_
        intro x8 hx8
        refine ev_r_icmp (pc := 37) (q := .le) (o := 13) (t := 50) (c := a2 ≤ x8) (by decide +kernel) (ev_k_le ha2 hx8) (by decide +kernel) ?_ ?_
        · intro c9
          refine ev_r_aload_n (pc := 50) (k := 0) (v := .ref 0) trivial (by decide +kernel) (by exact (ev_l1 (ev_l1 (by rfl) (by decide) (by decide)) (by decide) (by decide))) ?_
          refine ev_r_getC (pc := 51) (y := 62) (ci := 12) (f := 10) (fin := 1) (k' := 281) (by decide +kernel) (by decide +kernel) (by exact ev_ob_0) rfl rfl ?_
          refine ev_r_aload (pc := 54) (k := 4) (v := ev_nv r2) (ev_isR_nv _) (by decide +kernel) (by exact (ev_lk_st1 ev_lk_st1_self (by decide) (ev_nv_cat _))) ?_
          refine ev_r_aload (pc := 56) (k := 5) (v := ev_nv r4) (ev_isR_nv _) (by decide +kernel) (by exact ev_lk_st1_self) ?_
          refine ev_r_iload_n (pc := 58) (k := 3) (v := Int32.ofInt a2) (by decide +kernel) (by exact (ev_l1 (ev_lk_st1 (by rfl) (by decide) rfl) (by decide) (by decide))) ?_
          refine ev_r_virt (pc := 59) (y := 234) (mi := 116) (na := 3) (k := 281) (as := [ev_nv r2, ev_nv r4, .int (Int32.ofInt a2)]) (rest := []) (encc := ev_oI) (Q := ev_rng) (fun x S1 h => jt_116 d (by omega) Q r2 r4 a2 (by exact hr2) (by exact hr4) ha2 s3 x S1 h) (by exact ev_ob_281) (by decide +kernel) (by decide +kernel) (by decide +kernel) (by decide +kernel) rfl (by (try simp only [ev_sum, ev_nv_cat]); first | done | rfl) ?_
          intro x11 s10 hx11
          show ev_w _ _ _ _ _ [.int (Int32.ofInt x11)] _ _ _ _
          exact ev_r_ireturn (pc := 62) (x := .inl x11) (v := Int32.ofInt x11) (ty := .int) hx11 (by decide +kernel) (by decide +kernel) rfl rfl
        · intro c9
          exact ev_r_throw (pc := 40) (x := .inr "java/lang/IndexOutOfBoundsException") (y := 160) (E := "java/lang/IndexOutOfBoundsException") trivial (by decide +kernel) (by decide +kernel) (by decide +kernel) (Nat.ble_eq.mpr (by omega)) rfl
def jb_181_44 (Q : Nat) (r2 : Nat) (r4 : Nat)  (K44 : Int → Int → Int → ev_St → Option ((Int ⊕ String) × ev_St)) (x7 : Int) (x8 : Int) (x9 : Int) (s17 : ev_St) : Option ((Int ⊕ String) × ev_St) := if 160 < x9 then (some (.inl x8, s17)) else (ev_b (s17.1 ((r4 - 1)) 1) fun x19 => if x19 < x7 then (some (.inl x8, s17)) else (ev_bd (jm_115 Q r2 r4 x7 s17) fun x22 s21 => if 0 ≤ x22 then (ev_ck (x8 + 1) fun x24 => ev_bd (jm_117 Q  s21) fun x26 s25 => ev_ck (x9 + 1) fun x27 => K44 x26 x24 x27 s25) else (if x22 ≠ (-2) then (some (.inl x8, s21)) else (some (.inl ((-2)), s21)))))
def jl_181_44 (Q : Nat) (r2 : Nat) (r4 : Nat)  : Nat → Int → Int → Int → ev_St → Option ((Int ⊕ String) × ev_St)
  | 0 => fun _ _ _ _ => none
  | q + 1 => jb_181_44 Q r2 r4  (jl_181_44 Q r2 r4  q)
theorem jbt_181_44 (d : Nat) (hd : 7 ≤ d + 1) (Q : Nat) (r2 : Nat) (r4 : Nat) (hr2 : r2 = 0 ∨ ev_isOb (r2 - 1) 5 = true) (hr4 : r4 = 0 ∨ ev_isOb (r4 - 1) 10 = true)   (K44 : Int → Int → Int → ev_St → Option ((Int ⊕ String) × ev_St)) (hK44 : ∀ (x7 : Int) (hx7 : ev_rng x7), ∀ (x8 : Int) (hx8 : ev_rng x8), ∀ (x9 : Int) (hx9 : ev_rng x9), ∀ (s17 : ev_St) (w10 : List (Nat × Value)), ev_lk w10 0 = some (.ref 0) → ev_lk w10 3 = some (ev_nv r2) → ev_lk w10 4 = some (ev_nv r4) → ev_lk w10 5 = some (.int (Int32.ofInt x7)) → ev_lk w10 6 = some (.int (Int32.ofInt x8)) → ev_lk w10 7 = some (.int (Int32.ofInt x9)) → ev_w none (ev_Mof 181) d 44 w10 [] s17 (K44 x7 x8 x9 s17) ev_eX ev_PX) : ∀ (x7 : Int) (hx7 : ev_rng x7), ∀ (x8 : Int) (hx8 : ev_rng x8), ∀ (x9 : Int) (hx9 : ev_rng x9), ∀ (s17 : ev_St) (w10 : List (Nat × Value)), ev_lk w10 0 = some (.ref 0) → ev_lk w10 3 = some (ev_nv r2) → ev_lk w10 4 = some (ev_nv r4) → ev_lk w10 5 = some (.int (Int32.ofInt x7)) → ev_lk w10 6 = some (.int (Int32.ofInt x8)) → ev_lk w10 7 = some (.int (Int32.ofInt x9)) → ev_w none (ev_Mof 181) d 44 w10 [] s17 (jb_181_44 Q r2 r4  K44 x7 x8 x9 s17) ev_eX ev_PX := by
  intro x7 hx7 x8 hx8 x9 hx9 s17 w10 e11 e12 e13 e14 e15 e16
  unfold jb_181_44
  refine ev_r_iload (pc := 44) (k := 7) (v := Int32.ofInt x9) (by decide +kernel) (by exact e16) ?_
  refine ev_r_sipush (pc := 46) (k := 160) (by decide +kernel) (by decide +kernel) ?_
  refine ev_r_icmp (pc := 49) (q := .gt) (o := 65) (t := 114) (c := 160 < x9) (by decide +kernel) (ev_k_gt hx9 (by decide)) (by decide +kernel) ?_ ?_
  · intro c18
    refine ev_r_iload (pc := 114) (k := 6) (v := Int32.ofInt x8) (by decide +kernel) (by exact e15) ?_
    exact ev_r_ireturn (pc := 116) (x := .inl x8) (v := Int32.ofInt x8) (ty := .int) hx8 (by decide +kernel) (by decide +kernel) rfl rfl
  · intro c18
    refine ev_r_iload (pc := 52) (k := 5) (v := Int32.ofInt x7) (by decide +kernel) (by exact e14) ?_
    refine ev_r_aload (pc := 54) (k := 4) (v := ev_nv r4) (ev_isR_nv _) (by decide +kernel) (by exact e13) ?_
    refine ev_r_dr (r := r4) (fun v => [v, .int (Int32.ofInt x7)]) c6 ?_
    refine ev_r_getI (pc := 56) (y := 105) (ci := 10) (f := 1) (fin := 0) (by decide +kernel) (by decide +kernel) (by exact (hr4.resolve_left c6)) rfl ?_
    intro x19 hx19
    refine ev_r_icmp (pc := 59) (q := .gt) (o := 55) (t := 114) (c := x19 < x7) (by decide +kernel) (ev_k_gt hx7 hx19) (by decide +kernel) ?_ ?_
    · intro c20
      refine ev_r_iload (pc := 114) (k := 6) (v := Int32.ofInt x8) (by decide +kernel) (by exact e15) ?_
      exact ev_r_ireturn (pc := 116) (x := .inl x8) (v := Int32.ofInt x8) (ty := .int) hx8 (by decide +kernel) (by decide +kernel) rfl rfl
    · intro c20
      refine ev_r_aload_n (pc := 62) (k := 0) (v := .ref 0) trivial (by decide +kernel) (by exact e11) ?_
      refine ev_r_getC (pc := 63) (y := 62) (ci := 12) (f := 10) (fin := 1) (k' := 281) (by decide +kernel) (by decide +kernel) (by exact ev_ob_0) rfl rfl ?_
      refine ev_r_aload_n (pc := 66) (k := 3) (v := ev_nv r2) (ev_isR_nv _) (by decide +kernel) (by exact e12) ?_
      refine ev_r_aload (pc := 67) (k := 4) (v := ev_nv r4) (ev_isR_nv _) (by decide +kernel) (by exact e13) ?_
      refine ev_r_iload (pc := 69) (k := 5) (v := Int32.ofInt x7) (by decide +kernel) (by exact e14) ?_
      refine ev_r_virt (pc := 71) (y := 227) (mi := 115) (na := 3) (k := 281) (as := [ev_nv r2, ev_nv r4, .int (Int32.ofInt x7)]) (rest := []) (encc := ev_oI) (Q := ev_rng) (fun x S1 h => jt_115 d (by omega) Q r2 r4 x7 (by exact hr2) (by exact hr4) hx7 s17 x S1 h) (by exact ev_ob_281) (by decide +kernel) (by decide +kernel) (by decide +kernel) (by decide +kernel) rfl (by (try simp only [ev_sum, ev_nv_cat]); first | done | rfl) ?_
      intro x22 s21 hx22
      show ev_w _ _ _ _ _ [.int (Int32.ofInt x22)] _ _ _ _
      refine ev_r_istore (pc := 74) (k := 8) (by decide +kernel) (by decide +kernel) rfl ?_
      refine ev_r_iload (pc := 76) (k := 8) (v := Int32.ofInt x22) (by decide +kernel) (by exact ev_lk_st1_self) ?_
      refine ev_r_if (pc := 78) (q := .ge) (o := 18) (t := 96) (c := 0 ≤ x22) (by decide +kernel) (ev_k_ge hx22 ev_rng0) (by decide +kernel) ?_ ?_
      · intro c23
        refine ev_r_iinc (pc := 96) (k := 6) (c := 1) (x := x8) (by decide +kernel) (by decide +kernel) (by exact (ev_l1 e15 (by decide) (by decide))) (fun _ => rfl) ?_
        intro x24 hx24
        refine ev_r_aload_n (pc := 99) (k := 0) (v := .ref 0) trivial (by decide +kernel) (by exact (ev_l1 (ev_l1 e11 (by decide) (by decide)) (by decide) (by decide))) ?_
        refine ev_r_getC (pc := 100) (y := 62) (ci := 12) (f := 10) (fin := 1) (k' := 281) (by decide +kernel) (by decide +kernel) (by exact ev_ob_0) rfl rfl ?_
        refine ev_r_virt (pc := 103) (y := 239) (mi := 117) (na := 0) (k := 281) (as := []) (rest := []) (encc := ev_oI) (Q := ev_rng) (fun x S1 h => jt_117 d (by omega) Q   s21 x S1 h) (by exact ev_ob_281) (by decide +kernel) (by decide +kernel) (by decide +kernel) (by decide +kernel) rfl (by (try simp only [ev_sum, ev_nv_cat]); first | done | rfl) ?_
        intro x26 s25 hx26
        show ev_w _ _ _ _ _ [.int (Int32.ofInt x26)] _ _ _ _
        refine ev_r_istore (pc := 106) (k := 5) (by decide +kernel) (by decide +kernel) rfl ?_
        refine ev_r_iinc (pc := 108) (k := 7) (c := 1) (x := x9) (by decide +kernel) (by decide +kernel) (by exact (ev_l1 (ev_l1 (ev_lk_st1 e16 (by decide) rfl) (by decide) (by decide)) (by decide) (by decide))) (fun _ => rfl) ?_
        intro x27 hx27
        refine ev_r_goto (pc := 111) (o := (-67)) (t := 44) (by decide +kernel) (by decide +kernel) ?_
        exact hK44 x26 hx26 x24 hx24 x27 hx27 s25 _ (by exact (ev_l1 (ev_l1 (ev_l1 (ev_l1 e11 (by decide) (by decide)) (by decide) (by decide)) (by decide) (by decide)) (by decide) (by decide))) (by exact (ev_l1 (ev_l1 (ev_l1 (ev_l1 e12 (by decide) (by decide)) (by decide) (by decide)) (by decide) (by decide)) (by decide) (by decide))) (by exact (ev_l1 (ev_lk_st1 (ev_l1 (ev_l1 e13 (by decide) (by decide)) (by decide) (by decide)) (by decide) (ev_nv_cat _)) (by decide) (by decide))) (by exact (ev_l1 ev_lk_st1_self (by decide) (by decide))) (by exact (ev_lk_st1 (ev_l1 ev_lk_st1_self (by decide) (by decide)) (by decide) rfl)) (by exact ev_lk_st1_self)
      · intro c23
        refine ev_r_iload (pc := 81) (k := 8) (v := Int32.ofInt x22) (by decide +kernel) (by exact ev_lk_st1_self) ?_
        refine ev_r_bipush (pc := 83) (k := -2) (by decide +kernel) (by decide +kernel) ?_
        refine ev_r_icmp (pc := 85) (q := .ne) (o := 8) (t := 93) (c := x22 ≠ (-2)) (by decide +kernel) (ev_k_ne hx22 (by decide)) (by decide +kernel) ?_ ?_
        · intro c28
          refine ev_r_iload (pc := 93) (k := 6) (v := Int32.ofInt x8) (by decide +kernel) (by exact (ev_l1 e15 (by decide) (by decide))) ?_
          exact ev_r_ireturn (pc := 95) (x := .inl x8) (v := Int32.ofInt x8) (ty := .int) hx8 (by decide +kernel) (by decide +kernel) rfl rfl
        · intro c28
          refine ev_r_bipush (pc := 88) (k := -2) (by decide +kernel) (by decide +kernel) ?_
          refine ev_r_goto (pc := 90) (o := 5) (t := 95) (by decide +kernel) (by decide +kernel) ?_
          exact ev_r_ireturn (pc := 95) (x := .inl ((-2))) (v := Int32.ofInt ((-2))) (ty := .int) (by decide) (by decide +kernel) (by decide +kernel) rfl rfl
theorem jlt_181_44 (d : Nat) (hd : 7 ≤ d + 1) (Q : Nat) (r2 : Nat) (r4 : Nat) (hr2 : r2 = 0 ∨ ev_isOb (r2 - 1) 5 = true) (hr4 : r4 = 0 ∨ ev_isOb (r4 - 1) 10 = true)   : ∀ q : Nat, ∀ (x7 : Int) (hx7 : ev_rng x7), ∀ (x8 : Int) (hx8 : ev_rng x8), ∀ (x9 : Int) (hx9 : ev_rng x9), ∀ (s17 : ev_St) (w10 : List (Nat × Value)), ev_lk w10 0 = some (.ref 0) → ev_lk w10 3 = some (ev_nv r2) → ev_lk w10 4 = some (ev_nv r4) → ev_lk w10 5 = some (.int (Int32.ofInt x7)) → ev_lk w10 6 = some (.int (Int32.ofInt x8)) → ev_lk w10 7 = some (.int (Int32.ofInt x9)) → ev_w none (ev_Mof 181) d 44 w10 [] s17 (jl_181_44 Q r2 r4  q x7 x8 x9 s17) ev_eX ev_PX := by
  intro q
  induction q with
  | zero =>
    intro x7 hx7 x8 hx8 x9 hx9 s17 w10 e11 e12 e13 e14 e15 e16
    exact ev_w_none
  | succ q ih => exact jbt_181_44 d hd Q r2 r4 hr2 hr4   _ ih
/-- MendBench.matches(II)I -/
def jm_181 (Q : Nat) (a0 : Int) (a1 : Int) (S : ev_St) : Option ((Int ⊕ String) × ev_St) := ev_bd (jm_200 Q a0 S) fun r2 s1 => ev_bd (jm_1 Q a1 s1) fun r4 s3 => if r2 = 0 then (some (.inr "java/lang/IndexOutOfBoundsException", ev_tick s3)) else (if r4 = 0 then (some (.inr "java/lang/IndexOutOfBoundsException", ev_tick s3)) else (jl_181_44 Q r2 r4  Q 0 0 0 s3))
theorem jt_181 (d : Nat) (hd : 7 ≤ d) (Q : Nat) (a0 : Int) (a1 : Int) (ha0 : ev_rng a0) (ha1 : ev_rng a1) (S : ev_St) (x : Int ⊕ String) (S' : ev_St) (hJ : jm_181 Q a0 a1 S = some (x, S')) : ev_Ref d 181 [.ref 0, .int (Int32.ofInt a0), .int (Int32.ofInt a1)] S (ev_eX x) S' (ev_PX x) := by
  obtain ⟨d, rfl⟩ : ∃ e, d = e + 1 := ⟨d - 1, by omega⟩
  refine ev_ref_of (P := ev_PX) (lv := [(0, .ref 0), (1, .int (Int32.ofInt a0)), (2, .int (Int32.ofInt a1))]) (by decide +kernel) (by (try simp only [ev_sum, ev_nv_cat]); first | done | rfl) (by (try simp only [lv_args, ev_nv_cat]); first | done | rfl) ?_ x S' hJ
  unfold jm_181
  refine ev_r_aload_n (pc := 0) (k := 0) (v := .ref 0) trivial (by decide +kernel) (by rfl) ?_
  refine ev_r_iload_n (pc := 1) (k := 1) (v := Int32.ofInt a0) (by decide +kernel) (by rfl) ?_
  refine ev_r_virt (pc := 2) (y := 156) (mi := 200) (na := 1) (k := 0) (as := [.int (Int32.ofInt a0)]) (rest := []) (encc := ev_oR) (Q := (fun r => r = 0 ∨ ev_isOb (r - 1) 5 = true)) (fun x S1 h => jt_200 d (by omega) Q a0 ha0 S x S1 h) (by exact ev_ob_0) (by decide +kernel) (by decide +kernel) (by decide +kernel) (by decide +kernel) rfl (by (try simp only [ev_sum, ev_nv_cat]); first | done | rfl) ?_
  intro r2 s1 hr2
  show ev_w _ _ _ _ _ [ev_nv r2] _ _ _ _
  refine ev_r_astore_n (pc := 5) (k := 3) (ev_isR_nv _) (by decide +kernel) (by decide +kernel) rfl ?_
  refine ev_r_aload_n (pc := 6) (k := 0) (v := .ref 0) trivial (by decide +kernel) (by exact (ev_l1 (by rfl) (by decide) (by decide))) ?_
  refine ev_r_getC (pc := 7) (y := 48) (ci := 12) (f := 8) (fin := 1) (k' := 254) (by decide +kernel) (by decide +kernel) (by exact ev_ob_0) rfl rfl ?_
  refine ev_r_iload_n (pc := 10) (k := 2) (v := Int32.ofInt a1) (by decide +kernel) (by exact (ev_lk_st1 (by rfl) (by decide) rfl)) ?_
  refine ev_r_virt (pc := 11) (y := 221) (mi := 1) (na := 1) (k := 254) (as := [.int (Int32.ofInt a1)]) (rest := []) (encc := ev_oR) (Q := (fun r => r = 0 ∨ ev_isOb (r - 1) 10 = true)) (fun x S1 h => jt_1 d (by omega) Q a1 ha1 s1 x S1 h) (by exact ev_ob_254) (by decide +kernel) (by decide +kernel) (by decide +kernel) (by decide +kernel) rfl (by (try simp only [ev_sum, ev_nv_cat]); first | done | rfl) ?_
  intro r4 s3 hr4
  show ev_w _ _ _ _ _ [ev_nv r4] _ _ _ _
  refine ev_r_astore (pc := 14) (k := 4) (ev_isR_nv _) (by decide +kernel) (by decide +kernel) rfl ?_
  refine ev_r_aload_n (pc := 16) (k := 3) (v := ev_nv r2) (ev_isR_nv _) (by decide +kernel) (by exact (ev_lk_st1 ev_lk_st1_self (by decide) (ev_nv_cat _))) ?_
  refine ev_r_ifnull (pc := 17) (r := r2) (o := 8) (t := 25) (by decide +kernel) (by decide +kernel) ?_ ?_
  · intro c5
    exact ev_r_throw (pc := 25) (x := .inr "java/lang/IndexOutOfBoundsException") (y := 160) (E := "java/lang/IndexOutOfBoundsException") trivial (by decide +kernel) (by decide +kernel) (by decide +kernel) (Nat.ble_eq.mpr (by omega)) rfl
  · intro c5
    refine ev_r_aload (pc := 20) (k := 4) (v := ev_nv r4) (ev_isR_nv _) (by decide +kernel) (by exact ev_lk_st1_self) ?_
    refine ev_r_ifnonnull (pc := 22) (r := r4) (o := 13) (t := 35) (by decide +kernel) (by decide +kernel) ?_ ?_
    · intro c6
      refine ev_r_iconst (pc := 35) (k := 0) (by decide +kernel) ?_
      refine ev_r_istore (pc := 36) (k := 5) (by decide +kernel) (by decide +kernel) rfl ?_
      refine ev_r_iconst (pc := 38) (k := 0) (by decide +kernel) ?_
      refine ev_r_istore (pc := 39) (k := 6) (by decide +kernel) (by decide +kernel) rfl ?_
      refine ev_r_iconst (pc := 41) (k := 0) (by decide +kernel) ?_
      refine ev_r_istore (pc := 42) (k := 7) (by decide +kernel) (by decide +kernel) rfl ?_
      exact jlt_181_44 d hd Q r2 r4 hr2 hr4   Q 0 (by decide) 0 (by decide) 0 (by decide) s3 _ (by exact (ev_l1 (ev_l1 (ev_l1 (ev_l1 (ev_l1 (by rfl) (by decide) (by decide)) (by decide) (by decide)) (by decide) (by decide)) (by decide) (by decide)) (by decide) (by decide))) (by exact (ev_l1 (ev_l1 (ev_l1 (ev_lk_st1 ev_lk_st1_self (by decide) (ev_nv_cat _)) (by decide) (by decide)) (by decide) (by decide)) (by decide) (by decide))) (by exact (ev_l1 (ev_l1 (ev_lk_st1 ev_lk_st1_self (by decide) (ev_nv_cat _)) (by decide) (by decide)) (by decide) (by decide))) (by exact (ev_l1 (ev_lk_st1 ev_lk_st1_self (by decide) rfl) (by decide) (by decide))) (by exact (ev_lk_st1 ev_lk_st1_self (by decide) rfl)) (by exact ev_lk_st1_self)
    · intro c6
      exact ev_r_throw (pc := 25) (x := .inr "java/lang/IndexOutOfBoundsException") (y := 160) (E := "java/lang/IndexOutOfBoundsException") trivial (by decide +kernel) (by decide +kernel) (by decide +kernel) (Nat.ble_eq.mpr (by omega)) rfl
def jb_182_47 (Q : Nat) (a2 : Int) (r2 : Nat) (r4 : Nat)  (K47 : Int → Int → ev_St → Option ((Int ⊕ String) × ev_St)) (x8 : Int) (x9 : Int) (s17 : ev_St) : Option ((Int ⊕ String) × ev_St) := if 160 < x9 then (some (.inr "java/lang/IndexOutOfBoundsException", ev_tick s17)) else (ev_b (s17.1 ((r4 - 1)) 1) fun x19 => if x19 < x8 then (some (.inr "java/lang/IndexOutOfBoundsException", ev_tick s17)) else (ev_bd (jm_115 Q r2 r4 x8 s17) fun x22 s21 => if 0 ≤ x22 then (if x9 ≠ a2 then (ev_bd (jm_117 Q  s21) fun x26 s25 => ev_ck (x9 + 1) fun x27 => K47 x26 x27 s25) else (some (.inl x22, s21))) else (some (.inr "java/lang/IndexOutOfBoundsException", ev_tick s21))))
def jl_182_47 (Q : Nat) (a2 : Int) (r2 : Nat) (r4 : Nat)  : Nat → Int → Int → ev_St → Option ((Int ⊕ String) × ev_St)
  | 0 => fun _ _ _ => none
  | q + 1 => jb_182_47 Q a2 r2 r4  (jl_182_47 Q a2 r2 r4  q)
theorem jbt_182_47 (d : Nat) (hd : 7 ≤ d + 1) (Q : Nat) (a2 : Int) (r2 : Nat) (r4 : Nat) (ha2 : ev_rng a2) (hr2 : r2 = 0 ∨ ev_isOb (r2 - 1) 5 = true) (hr4 : r4 = 0 ∨ ev_isOb (r4 - 1) 10 = true)   (K47 : Int → Int → ev_St → Option ((Int ⊕ String) × ev_St)) (hK47 : ∀ (x8 : Int) (hx8 : ev_rng x8), ∀ (x9 : Int) (hx9 : ev_rng x9), ∀ (s17 : ev_St) (w10 : List (Nat × Value)), ev_lk w10 0 = some (.ref 0) → ev_lk w10 3 = some (.int (Int32.ofInt a2)) → ev_lk w10 4 = some (ev_nv r2) → ev_lk w10 5 = some (ev_nv r4) → ev_lk w10 6 = some (.int (Int32.ofInt x8)) → ev_lk w10 7 = some (.int (Int32.ofInt x9)) → ev_w none (ev_Mof 182) d 47 w10 [] s17 (K47 x8 x9 s17) ev_eX ev_PX) : ∀ (x8 : Int) (hx8 : ev_rng x8), ∀ (x9 : Int) (hx9 : ev_rng x9), ∀ (s17 : ev_St) (w10 : List (Nat × Value)), ev_lk w10 0 = some (.ref 0) → ev_lk w10 3 = some (.int (Int32.ofInt a2)) → ev_lk w10 4 = some (ev_nv r2) → ev_lk w10 5 = some (ev_nv r4) → ev_lk w10 6 = some (.int (Int32.ofInt x8)) → ev_lk w10 7 = some (.int (Int32.ofInt x9)) → ev_w none (ev_Mof 182) d 47 w10 [] s17 (jb_182_47 Q a2 r2 r4  K47 x8 x9 s17) ev_eX ev_PX := by
  intro x8 hx8 x9 hx9 s17 w10 e11 e12 e13 e14 e15 e16
  unfold jb_182_47
  refine ev_r_iload (pc := 47) (k := 7) (v := Int32.ofInt x9) (by decide +kernel) (by exact e16) ?_
  refine ev_r_sipush (pc := 49) (k := 160) (by decide +kernel) (by decide +kernel) ?_
  refine ev_r_icmp (pc := 52) (q := .gt) (o := 60) (t := 112) (c := 160 < x9) (by decide +kernel) (ev_k_gt hx9 (by decide)) (by decide +kernel) ?_ ?_
  · intro c18
    exact ev_r_throw (pc := 112) (x := .inr "java/lang/IndexOutOfBoundsException") (y := 160) (E := "java/lang/IndexOutOfBoundsException") trivial (by decide +kernel) (by decide +kernel) (by decide +kernel) (Nat.ble_eq.mpr (by omega)) rfl
  · intro c18
    refine ev_r_iload (pc := 55) (k := 6) (v := Int32.ofInt x8) (by decide +kernel) (by exact e15) ?_
    refine ev_r_aload (pc := 57) (k := 5) (v := ev_nv r4) (ev_isR_nv _) (by decide +kernel) (by exact e14) ?_
    refine ev_r_dr (r := r4) (fun v => [v, .int (Int32.ofInt x8)]) c6 ?_
    refine ev_r_getI (pc := 59) (y := 105) (ci := 10) (f := 1) (fin := 0) (by decide +kernel) (by decide +kernel) (by exact (hr4.resolve_left c6)) rfl ?_
    intro x19 hx19
    refine ev_r_icmp (pc := 62) (q := .gt) (o := 50) (t := 112) (c := x19 < x8) (by decide +kernel) (ev_k_gt hx8 hx19) (by decide +kernel) ?_ ?_
    · intro c20
      exact ev_r_throw (pc := 112) (x := .inr "java/lang/IndexOutOfBoundsException") (y := 160) (E := "java/lang/IndexOutOfBoundsException") trivial (by decide +kernel) (by decide +kernel) (by decide +kernel) (Nat.ble_eq.mpr (by omega)) rfl
    · intro c20
      refine ev_r_aload_n (pc := 65) (k := 0) (v := .ref 0) trivial (by decide +kernel) (by exact e11) ?_
      refine ev_r_getC (pc := 66) (y := 62) (ci := 12) (f := 10) (fin := 1) (k' := 281) (by decide +kernel) (by decide +kernel) (by exact ev_ob_0) rfl rfl ?_
      refine ev_r_aload (pc := 69) (k := 4) (v := ev_nv r2) (ev_isR_nv _) (by decide +kernel) (by exact e13) ?_
      refine ev_r_aload (pc := 71) (k := 5) (v := ev_nv r4) (ev_isR_nv _) (by decide +kernel) (by exact e14) ?_
      refine ev_r_iload (pc := 73) (k := 6) (v := Int32.ofInt x8) (by decide +kernel) (by exact e15) ?_
      refine ev_r_virt (pc := 75) (y := 227) (mi := 115) (na := 3) (k := 281) (as := [ev_nv r2, ev_nv r4, .int (Int32.ofInt x8)]) (rest := []) (encc := ev_oI) (Q := ev_rng) (fun x S1 h => jt_115 d (by omega) Q r2 r4 x8 (by exact hr2) (by exact hr4) hx8 s17 x S1 h) (by exact ev_ob_281) (by decide +kernel) (by decide +kernel) (by decide +kernel) (by decide +kernel) rfl (by (try simp only [ev_sum, ev_nv_cat]); first | done | rfl) ?_
      intro x22 s21 hx22
      show ev_w _ _ _ _ _ [.int (Int32.ofInt x22)] _ _ _ _
      refine ev_r_istore (pc := 78) (k := 8) (by decide +kernel) (by decide +kernel) rfl ?_
      refine ev_r_iload (pc := 80) (k := 8) (v := Int32.ofInt x22) (by decide +kernel) (by exact ev_lk_st1_self) ?_
      refine ev_r_if (pc := 82) (q := .ge) (o := 6) (t := 88) (c := 0 ≤ x22) (by decide +kernel) (ev_k_ge hx22 ev_rng0) (by decide +kernel) ?_ ?_
      · intro c23
        refine ev_r_iload (pc := 88) (k := 7) (v := Int32.ofInt x9) (by decide +kernel) (by exact (ev_lk_st1 e16 (by decide) rfl)) ?_
        refine ev_r_iload_n (pc := 90) (k := 3) (v := Int32.ofInt a2) (by decide +kernel) (by exact (ev_l1 e12 (by decide) (by decide))) ?_
        refine ev_r_icmp (pc := 91) (q := .ne) (o := 6) (t := 97) (c := x9 ≠ a2) (by decide +kernel) (ev_k_ne hx9 ha2) (by decide +kernel) ?_ ?_
        · intro c24
          refine ev_r_aload_n (pc := 97) (k := 0) (v := .ref 0) trivial (by decide +kernel) (by exact (ev_l1 e11 (by decide) (by decide))) ?_
          refine ev_r_getC (pc := 98) (y := 62) (ci := 12) (f := 10) (fin := 1) (k' := 281) (by decide +kernel) (by decide +kernel) (by exact ev_ob_0) rfl rfl ?_
          refine ev_r_virt (pc := 101) (y := 239) (mi := 117) (na := 0) (k := 281) (as := []) (rest := []) (encc := ev_oI) (Q := ev_rng) (fun x S1 h => jt_117 d (by omega) Q   s21 x S1 h) (by exact ev_ob_281) (by decide +kernel) (by decide +kernel) (by decide +kernel) (by decide +kernel) rfl (by (try simp only [ev_sum, ev_nv_cat]); first | done | rfl) ?_
          intro x26 s25 hx26
          show ev_w _ _ _ _ _ [.int (Int32.ofInt x26)] _ _ _ _
          refine ev_r_istore (pc := 104) (k := 6) (by decide +kernel) (by decide +kernel) rfl ?_
          refine ev_r_iinc (pc := 106) (k := 7) (c := 1) (x := x9) (by decide +kernel) (by decide +kernel) (by exact (ev_l1 (ev_lk_st1 e16 (by decide) rfl) (by decide) (by decide))) (fun _ => rfl) ?_
          intro x27 hx27
          refine ev_r_goto (pc := 109) (o := (-62)) (t := 47) (by decide +kernel) (by decide +kernel) ?_
          exact hK47 x26 hx26 x27 hx27 s25 _ (by exact (ev_l1 (ev_l1 (ev_l1 e11 (by decide) (by decide)) (by decide) (by decide)) (by decide) (by decide))) (by exact (ev_l1 (ev_l1 (ev_l1 e12 (by decide) (by decide)) (by decide) (by decide)) (by decide) (by decide))) (by exact (ev_l1 (ev_l1 (ev_l1 e13 (by decide) (by decide)) (by decide) (by decide)) (by decide) (by decide))) (by exact (ev_l1 (ev_lk_st1 (ev_l1 e14 (by decide) (by decide)) (by decide) (ev_nv_cat _)) (by decide) (by decide))) (by exact (ev_lk_st1 ev_lk_st1_self (by decide) rfl)) (by exact ev_lk_st1_self)
        · intro c24
          refine ev_r_iload (pc := 94) (k := 8) (v := Int32.ofInt x22) (by decide +kernel) (by exact ev_lk_st1_self) ?_
          exact ev_r_ireturn (pc := 96) (x := .inl x22) (v := Int32.ofInt x22) (ty := .int) hx22 (by decide +kernel) (by decide +kernel) rfl rfl
      · intro c23
        refine ev_r_goto (pc := 85) (o := 27) (t := 112) (by decide +kernel) (by decide +kernel) ?_
        exact ev_r_throw (pc := 112) (x := .inr "java/lang/IndexOutOfBoundsException") (y := 160) (E := "java/lang/IndexOutOfBoundsException") trivial (by decide +kernel) (by decide +kernel) (by decide +kernel) (Nat.ble_eq.mpr (by omega)) rfl
theorem jlt_182_47 (d : Nat) (hd : 7 ≤ d + 1) (Q : Nat) (a2 : Int) (r2 : Nat) (r4 : Nat) (ha2 : ev_rng a2) (hr2 : r2 = 0 ∨ ev_isOb (r2 - 1) 5 = true) (hr4 : r4 = 0 ∨ ev_isOb (r4 - 1) 10 = true)   : ∀ q : Nat, ∀ (x8 : Int) (hx8 : ev_rng x8), ∀ (x9 : Int) (hx9 : ev_rng x9), ∀ (s17 : ev_St) (w10 : List (Nat × Value)), ev_lk w10 0 = some (.ref 0) → ev_lk w10 3 = some (.int (Int32.ofInt a2)) → ev_lk w10 4 = some (ev_nv r2) → ev_lk w10 5 = some (ev_nv r4) → ev_lk w10 6 = some (.int (Int32.ofInt x8)) → ev_lk w10 7 = some (.int (Int32.ofInt x9)) → ev_w none (ev_Mof 182) d 47 w10 [] s17 (jl_182_47 Q a2 r2 r4  q x8 x9 s17) ev_eX ev_PX := by
  intro q
  induction q with
  | zero =>
    intro x8 hx8 x9 hx9 s17 w10 e11 e12 e13 e14 e15 e16
    exact ev_w_none
  | succ q ih => exact jbt_182_47 d hd Q a2 r2 r4 ha2 hr2 hr4   _ ih
/-- MendBench.match(III)I -/
def jm_182 (Q : Nat) (a0 : Int) (a1 : Int) (a2 : Int) (S : ev_St) : Option ((Int ⊕ String) × ev_St) := ev_bd (jm_200 Q a0 S) fun r2 s1 => ev_bd (jm_1 Q a1 s1) fun r4 s3 => if r2 = 0 then (some (.inr "java/lang/IndexOutOfBoundsException", ev_tick s3)) else (if r4 = 0 then (some (.inr "java/lang/IndexOutOfBoundsException", ev_tick s3)) else (if 0 ≤ a2 then (jl_182_47 Q a2 r2 r4  Q 0 0 s3) else (some (.inr "java/lang/IndexOutOfBoundsException", ev_tick s3))))
theorem jt_182 (d : Nat) (hd : 7 ≤ d) (Q : Nat) (a0 : Int) (a1 : Int) (a2 : Int) (ha0 : ev_rng a0) (ha1 : ev_rng a1) (ha2 : ev_rng a2) (S : ev_St) (x : Int ⊕ String) (S' : ev_St) (hJ : jm_182 Q a0 a1 a2 S = some (x, S')) : ev_Ref d 182 [.ref 0, .int (Int32.ofInt a0), .int (Int32.ofInt a1), .int (Int32.ofInt a2)] S (ev_eX x) S' (ev_PX x) := by
  obtain ⟨d, rfl⟩ : ∃ e, d = e + 1 := ⟨d - 1, by omega⟩
  refine ev_ref_of (P := ev_PX) (lv := [(0, .ref 0), (1, .int (Int32.ofInt a0)), (2, .int (Int32.ofInt a1)), (3, .int (Int32.ofInt a2))]) (by decide +kernel) (by (try simp only [ev_sum, ev_nv_cat]); first | done | rfl) (by (try simp only [lv_args, ev_nv_cat]); first | done | rfl) ?_ x S' hJ
  unfold jm_182
  refine ev_r_aload_n (pc := 0) (k := 0) (v := .ref 0) trivial (by decide +kernel) (by rfl) ?_
  refine ev_r_iload_n (pc := 1) (k := 1) (v := Int32.ofInt a0) (by decide +kernel) (by rfl) ?_
  refine ev_r_virt (pc := 2) (y := 156) (mi := 200) (na := 1) (k := 0) (as := [.int (Int32.ofInt a0)]) (rest := []) (encc := ev_oR) (Q := (fun r => r = 0 ∨ ev_isOb (r - 1) 5 = true)) (fun x S1 h => jt_200 d (by omega) Q a0 ha0 S x S1 h) (by exact ev_ob_0) (by decide +kernel) (by decide +kernel) (by decide +kernel) (by decide +kernel) rfl (by (try simp only [ev_sum, ev_nv_cat]); first | done | rfl) ?_
  intro r2 s1 hr2
  show ev_w _ _ _ _ _ [ev_nv r2] _ _ _ _
  refine ev_r_astore (pc := 5) (k := 4) (ev_isR_nv _) (by decide +kernel) (by decide +kernel) rfl ?_
  refine ev_r_aload_n (pc := 7) (k := 0) (v := .ref 0) trivial (by decide +kernel) (by exact (ev_l1 (by rfl) (by decide) (by decide))) ?_
  refine ev_r_getC (pc := 8) (y := 48) (ci := 12) (f := 8) (fin := 1) (k' := 254) (by decide +kernel) (by decide +kernel) (by exact ev_ob_0) rfl rfl ?_
  refine ev_r_iload_n (pc := 11) (k := 2) (v := Int32.ofInt a1) (by decide +kernel) (by exact (ev_l1 (by rfl) (by decide) (by decide))) ?_
  refine ev_r_virt (pc := 12) (y := 221) (mi := 1) (na := 1) (k := 254) (as := [.int (Int32.ofInt a1)]) (rest := []) (encc := ev_oR) (Q := (fun r => r = 0 ∨ ev_isOb (r - 1) 10 = true)) (fun x S1 h => jt_1 d (by omega) Q a1 ha1 s1 x S1 h) (by exact ev_ob_254) (by decide +kernel) (by decide +kernel) (by decide +kernel) (by decide +kernel) rfl (by (try simp only [ev_sum, ev_nv_cat]); first | done | rfl) ?_
  intro r4 s3 hr4
  show ev_w _ _ _ _ _ [ev_nv r4] _ _ _ _
  refine ev_r_astore (pc := 15) (k := 5) (ev_isR_nv _) (by decide +kernel) (by decide +kernel) rfl ?_
  refine ev_r_aload (pc := 17) (k := 4) (v := ev_nv r2) (ev_isR_nv _) (by decide +kernel) (by exact (ev_lk_st1 ev_lk_st1_self (by decide) (ev_nv_cat _))) ?_
  refine ev_r_ifnull (pc := 19) (r := r2) (o := 12) (t := 31) (by decide +kernel) (by decide +kernel) ?_ ?_
  · intro c5
    exact ev_r_throw (pc := 31) (x := .inr "java/lang/IndexOutOfBoundsException") (y := 160) (E := "java/lang/IndexOutOfBoundsException") trivial (by decide +kernel) (by decide +kernel) (by decide +kernel) (Nat.ble_eq.mpr (by omega)) rfl
  · intro c5
    refine ev_r_aload (pc := 22) (k := 5) (v := ev_nv r4) (ev_isR_nv _) (by decide +kernel) (by exact ev_lk_st1_self) ?_
    refine ev_r_ifnull (pc := 24) (r := r4) (o := 7) (t := 31) (by decide +kernel) (by decide +kernel) ?_ ?_
    · intro c6
      exact ev_r_throw (pc := 31) (x := .inr "java/lang/IndexOutOfBoundsException") (y := 160) (E := "java/lang/IndexOutOfBoundsException") trivial (by decide +kernel) (by decide +kernel) (by decide +kernel) (Nat.ble_eq.mpr (by omega)) rfl
    · intro c6
      refine ev_r_iload_n (pc := 27) (k := 3) (v := Int32.ofInt a2) (by decide +kernel) (by exact (ev_l1 (ev_lk_st1 (by rfl) (by decide) rfl) (by decide) (by decide))) ?_
      refine ev_r_if (pc := 28) (q := .ge) (o := 13) (t := 41) (c := 0 ≤ a2) (by decide +kernel) (ev_k_ge ha2 ev_rng0) (by decide +kernel) ?_ ?_
      · intro c7
        refine ev_r_iconst (pc := 41) (k := 0) (by decide +kernel) ?_
        refine ev_r_istore (pc := 42) (k := 6) (by decide +kernel) (by decide +kernel) rfl ?_
        refine ev_r_iconst (pc := 44) (k := 0) (by decide +kernel) ?_
        refine ev_r_istore (pc := 45) (k := 7) (by decide +kernel) (by decide +kernel) rfl ?_
        exact jlt_182_47 d hd Q a2 r2 r4 ha2 hr2 hr4   Q 0 (by decide) 0 (by decide) s3 _ (by exact (ev_l1 (ev_l1 (ev_l1 (ev_l1 (by rfl) (by decide) (by decide)) (by decide) (by decide)) (by decide) (by decide)) (by decide) (by decide))) (by exact (ev_l1 (ev_l1 (ev_l1 (ev_lk_st1 (by rfl) (by decide) rfl) (by decide) (by decide)) (by decide) (by decide)) (by decide) (by decide))) (by exact (ev_l1 (ev_l1 (ev_lk_st1 ev_lk_st1_self (by decide) (ev_nv_cat _)) (by decide) (by decide)) (by decide) (by decide))) (by exact (ev_l1 (ev_lk_st1 ev_lk_st1_self (by decide) (ev_nv_cat _)) (by decide) (by decide))) (by exact (ev_lk_st1 ev_lk_st1_self (by decide) rfl)) (by exact ev_lk_st1_self)
      · intro c7
        exact ev_r_throw (pc := 31) (x := .inr "java/lang/IndexOutOfBoundsException") (y := 160) (E := "java/lang/IndexOutOfBoundsException") trivial (by decide +kernel) (by decide +kernel) (by decide +kernel) (Nat.ble_eq.mpr (by omega)) rfl
/-- MendBench.size(I)I -/
def jm_184 (Q : Nat) (a0 : Int) (S : ev_St) : Option ((Int ⊕ String) × ev_St) := ev_bd (jm_1 Q a0 S) fun r2 s1 => if r2 = 0 then (some (.inr "java/lang/IndexOutOfBoundsException", ev_tick s1)) else (ev_b (s1.1 ((r2 - 1)) 1) fun x4 => some (.inl x4, s1))
theorem jt_184 (d : Nat) (hd : 6 ≤ d) (Q : Nat) (a0 : Int) (ha0 : ev_rng a0) (S : ev_St) (x : Int ⊕ String) (S' : ev_St) (hJ : jm_184 Q a0 S = some (x, S')) : ev_Ref d 184 [.ref 0, .int (Int32.ofInt a0)] S (ev_eX x) S' (ev_PX x) := by
  obtain ⟨d, rfl⟩ : ∃ e, d = e + 1 := ⟨d - 1, by omega⟩
  refine ev_ref_of (P := ev_PX) (lv := [(0, .ref 0), (1, .int (Int32.ofInt a0))]) (by decide +kernel) (by (try simp only [ev_sum, ev_nv_cat]); first | done | rfl) (by (try simp only [lv_args, ev_nv_cat]); first | done | rfl) ?_ x S' hJ
  unfold jm_184
  refine ev_r_aload_n (pc := 0) (k := 0) (v := .ref 0) trivial (by decide +kernel) (by rfl) ?_
  refine ev_r_getC (pc := 1) (y := 48) (ci := 12) (f := 8) (fin := 1) (k' := 254) (by decide +kernel) (by decide +kernel) (by exact ev_ob_0) rfl rfl ?_
  refine ev_r_iload_n (pc := 4) (k := 1) (v := Int32.ofInt a0) (by decide +kernel) (by rfl) ?_
  refine ev_r_virt (pc := 5) (y := 221) (mi := 1) (na := 1) (k := 254) (as := [.int (Int32.ofInt a0)]) (rest := []) (encc := ev_oR) (Q := (fun r => r = 0 ∨ ev_isOb (r - 1) 10 = true)) (fun x S1 h => jt_1 d (by omega) Q a0 ha0 S x S1 h) (by exact ev_ob_254) (by decide +kernel) (by decide +kernel) (by decide +kernel) (by decide +kernel) rfl (by (try simp only [ev_sum, ev_nv_cat]); first | done | rfl) ?_
  intro r2 s1 hr2
  show ev_w _ _ _ _ _ [ev_nv r2] _ _ _ _
  refine ev_r_astore_n (pc := 8) (k := 2) (ev_isR_nv _) (by decide +kernel) (by decide +kernel) rfl ?_
  refine ev_r_aload_n (pc := 9) (k := 2) (v := ev_nv r2) (ev_isR_nv _) (by decide +kernel) (by exact ev_lk_st1_self) ?_
  refine ev_r_ifnonnull (pc := 10) (r := r2) (o := 13) (t := 23) (by decide +kernel) (by decide +kernel) ?_ ?_
  · intro c3
    refine ev_r_aload_n (pc := 23) (k := 2) (v := ev_nv r2) (ev_isR_nv _) (by decide +kernel) (by exact ev_lk_st1_self) ?_
    refine ev_r_dr (r := r2) (fun v => [v]) c3 ?_
    refine ev_r_getI (pc := 24) (y := 105) (ci := 10) (f := 1) (fin := 0) (by decide +kernel) (by decide +kernel) (by exact (hr2.resolve_left c3)) rfl ?_
    intro x4 hx4
    exact ev_r_ireturn (pc := 27) (x := .inl x4) (v := Int32.ofInt x4) (ty := .int) hx4 (by decide +kernel) (by decide +kernel) rfl rfl
  · intro c3
    exact ev_r_throw (pc := 13) (x := .inr "java/lang/IndexOutOfBoundsException") (y := 160) (E := "java/lang/IndexOutOfBoundsException") trivial (by decide +kernel) (by decide +kernel) (by decide +kernel) (Nat.ble_eq.mpr (by omega)) rfl
/-- MendBench.sign(II)C -/
def jm_185 (Q : Nat) (a0 : Int) (a1 : Int) (S : ev_St) : Option ((Int ⊕ String) × ev_St) := ev_bd (jm_1 Q a0 S) fun r2 s1 => if r2 = 0 then (some (.inr "java/lang/IndexOutOfBoundsException", ev_tick s1)) else (if a1 < 0 then (some (.inr "java/lang/IndexOutOfBoundsException", ev_tick s1)) else (ev_b (s1.1 ((r2 - 1)) 1) fun x5 => if a1 < x5 then (ev_bd (jm_151 Q ((r2 - 1)) a1 s1) fun x8 s7 => ev_b (ev_i2c x8) fun x9 => ev_if (ev_retOk .char (.int (Int32.ofInt x9)) = true) (some (.inl x9, s7))) else (some (.inr "java/lang/IndexOutOfBoundsException", ev_tick s1))))
theorem jt_185 (d : Nat) (hd : 6 ≤ d) (Q : Nat) (a0 : Int) (a1 : Int) (ha0 : ev_rng a0) (ha1 : ev_rng a1) (S : ev_St) (x : Int ⊕ String) (S' : ev_St) (hJ : jm_185 Q a0 a1 S = some (x, S')) : ev_Ref d 185 [.ref 0, .int (Int32.ofInt a0), .int (Int32.ofInt a1)] S (ev_eX x) S' (ev_PX x) := by
  obtain ⟨d, rfl⟩ : ∃ e, d = e + 1 := ⟨d - 1, by omega⟩
  refine ev_ref_of (P := ev_PX) (lv := [(0, .ref 0), (1, .int (Int32.ofInt a0)), (2, .int (Int32.ofInt a1))]) (by decide +kernel) (by (try simp only [ev_sum, ev_nv_cat]); first | done | rfl) (by (try simp only [lv_args, ev_nv_cat]); first | done | rfl) ?_ x S' hJ
  unfold jm_185
  refine ev_r_aload_n (pc := 0) (k := 0) (v := .ref 0) trivial (by decide +kernel) (by rfl) ?_
  refine ev_r_getC (pc := 1) (y := 48) (ci := 12) (f := 8) (fin := 1) (k' := 254) (by decide +kernel) (by decide +kernel) (by exact ev_ob_0) rfl rfl ?_
  refine ev_r_iload_n (pc := 4) (k := 1) (v := Int32.ofInt a0) (by decide +kernel) (by rfl) ?_
  refine ev_r_virt (pc := 5) (y := 221) (mi := 1) (na := 1) (k := 254) (as := [.int (Int32.ofInt a0)]) (rest := []) (encc := ev_oR) (Q := (fun r => r = 0 ∨ ev_isOb (r - 1) 10 = true)) (fun x S1 h => jt_1 d (by omega) Q a0 ha0 S x S1 h) (by exact ev_ob_254) (by decide +kernel) (by decide +kernel) (by decide +kernel) (by decide +kernel) rfl (by (try simp only [ev_sum, ev_nv_cat]); first | done | rfl) ?_
  intro r2 s1 hr2
  show ev_w _ _ _ _ _ [ev_nv r2] _ _ _ _
  refine ev_r_astore_n (pc := 8) (k := 3) (ev_isR_nv _) (by decide +kernel) (by decide +kernel) rfl ?_
  refine ev_r_aload_n (pc := 9) (k := 3) (v := ev_nv r2) (ev_isR_nv _) (by decide +kernel) (by exact ev_lk_st1_self) ?_
  refine ev_r_ifnull (pc := 10) (r := r2) (o := 15) (t := 25) (by decide +kernel) (by decide +kernel) ?_ ?_
  · intro c3
    exact ev_r_throw (pc := 25) (x := .inr "java/lang/IndexOutOfBoundsException") (y := 160) (E := "java/lang/IndexOutOfBoundsException") trivial (by decide +kernel) (by decide +kernel) (by decide +kernel) (Nat.ble_eq.mpr (by omega)) rfl
  · intro c3
    refine ev_r_iload_n (pc := 13) (k := 2) (v := Int32.ofInt a1) (by decide +kernel) (by exact (ev_lk_st1 (by rfl) (by decide) rfl)) ?_
    refine ev_r_if (pc := 14) (q := .lt) (o := 11) (t := 25) (c := a1 < 0) (by decide +kernel) (ev_k_lt ha1 ev_rng0) (by decide +kernel) ?_ ?_
    · intro c4
      exact ev_r_throw (pc := 25) (x := .inr "java/lang/IndexOutOfBoundsException") (y := 160) (E := "java/lang/IndexOutOfBoundsException") trivial (by decide +kernel) (by decide +kernel) (by decide +kernel) (Nat.ble_eq.mpr (by omega)) rfl
    · intro c4
      refine ev_r_iload_n (pc := 17) (k := 2) (v := Int32.ofInt a1) (by decide +kernel) (by exact (ev_lk_st1 (by rfl) (by decide) rfl)) ?_
      refine ev_r_aload_n (pc := 18) (k := 3) (v := ev_nv r2) (ev_isR_nv _) (by decide +kernel) (by exact ev_lk_st1_self) ?_
      refine ev_r_dr (r := r2) (fun v => [v, .int (Int32.ofInt a1)]) c3 ?_
      refine ev_r_getI (pc := 19) (y := 105) (ci := 10) (f := 1) (fin := 0) (by decide +kernel) (by decide +kernel) (by exact (hr2.resolve_left c3)) rfl ?_
      intro x5 hx5
      refine ev_r_icmp (pc := 22) (q := .lt) (o := 14) (t := 36) (c := a1 < x5) (by decide +kernel) (ev_k_lt ha1 hx5) (by decide +kernel) ?_ ?_
      · intro c6
        refine ev_r_aload_n (pc := 36) (k := 3) (v := ev_nv r2) (ev_isR_nv _) (by decide +kernel) (by exact ev_lk_st1_self) ?_
        refine ev_r_iload_n (pc := 37) (k := 2) (v := Int32.ofInt a1) (by decide +kernel) (by exact (ev_lk_st1 (by rfl) (by decide) rfl)) ?_
        refine ev_r_dr (r := r2) (fun v => [.int (Int32.ofInt a1), v]) c3 ?_
        refine ev_r_virt (pc := 38) (y := 199) (mi := 151) (na := 1) (k := (r2 - 1)) (as := [.int (Int32.ofInt a1)]) (rest := []) (encc := ev_oI) (Q := ev_rng) (fun x S1 h => jt_151 d (by omega) Q ((r2 - 1)) a1 (hr2.resolve_left c3) ha1 s1 x S1 h) (by exact (hr2.resolve_left c3)) (by decide +kernel) (by decide +kernel) (by decide +kernel) (by decide +kernel) rfl (by (try simp only [ev_sum, ev_nv_cat]); first | done | rfl) ?_
        intro x8 s7 hx8
        show ev_w _ _ _ _ _ [.int (Int32.ofInt x8)] _ _ _ _
        refine ev_r_toI (pc := 41) (i := .i2c) (len := 1) (pc' := 42) (by decide +kernel) rfl ?_
        intro x9 hx9
        refine ev_r_chk ?_
        intro c10
        exact ev_r_ireturn (pc := 42) (x := .inl x9) (v := Int32.ofInt x9) (ty := .char) hx9 (by decide +kernel) (by decide +kernel) c10 rfl
      · intro c6
        exact ev_r_throw (pc := 25) (x := .inr "java/lang/IndexOutOfBoundsException") (y := 160) (E := "java/lang/IndexOutOfBoundsException") trivial (by decide +kernel) (by decide +kernel) (by decide +kernel) (Nat.ble_eq.mpr (by omega)) rfl
/-- MendBench.templateAt(I)LMendBench$Text; -/
def jm_201 (Q : Nat) (a0 : Int) (S : ev_St) : Option ((Nat) × ev_St) := if a0 < 0 then (some (0, S)) else (ev_b (S.1 0 7) fun x2 => if x2 ≤ a0 then (some (0, S)) else (if 8 ≤ a0 then (some (0, S)) else (ev_if ((0 : Int) ≤ a0 ∧ a0 < (8 : Int)) (ev_b (553 + 2 * Int.toNat a0) fun _ => some (((553 + 2 * Int.toNat a0)) + 1, S)))))
theorem jt_201 (d : Nat) (hd : 1 ≤ d) (Q : Nat) (a0 : Int) (ha0 : ev_rng a0) (S : ev_St) (x : Nat) (S' : ev_St) (hJ : jm_201 Q a0 S = some (x, S')) : ev_Ref d 201 [.ref 0, .int (Int32.ofInt a0)] S (ev_eR x) S' ((fun r => r = 0 ∨ ev_isOb (r - 1) 10 = true) x) := by
  obtain ⟨d, rfl⟩ : ∃ e, d = e + 1 := ⟨d - 1, by omega⟩
  refine ev_ref_of (P := (fun r => r = 0 ∨ ev_isOb (r - 1) 10 = true)) (lv := [(0, .ref 0), (1, .int (Int32.ofInt a0))]) (by decide +kernel) (by (try simp only [ev_sum, ev_nv_cat]); first | done | rfl) (by (try simp only [lv_args, ev_nv_cat]); first | done | rfl) ?_ x S' hJ
  unfold jm_201
  refine ev_r_iload_n (pc := 0) (k := 1) (v := Int32.ofInt a0) (by decide +kernel) (by rfl) ?_
  refine ev_r_if (pc := 1) (q := .lt) (o := 26) (t := 27) (c := a0 < 0) (by decide +kernel) (ev_k_lt ha0 ev_rng0) (by decide +kernel) ?_ ?_
  · intro c1
    refine ev_r_null (pc := 27) (by decide +kernel) ?_
    exact ev_r_areturn (pc := 28) (x := 0) (r := 0) (C := "MendBench$Text") (Or.inl rfl) (by decide +kernel) (by decide +kernel) rfl
  · intro c1
    refine ev_r_iload_n (pc := 4) (k := 1) (v := Int32.ofInt a0) (by decide +kernel) (by rfl) ?_
    refine ev_r_aload_n (pc := 5) (k := 0) (v := .ref 0) trivial (by decide +kernel) (by rfl) ?_
    refine ev_r_getI (pc := 6) (y := 143) (ci := 12) (f := 7) (fin := 0) (by decide +kernel) (by decide +kernel) (by exact ev_ob_0) rfl ?_
    intro x2 hx2
    refine ev_r_icmp (pc := 9) (q := .ge) (o := 18) (t := 27) (c := x2 ≤ a0) (by decide +kernel) (ev_k_ge ha0 hx2) (by decide +kernel) ?_ ?_
    · intro c3
      refine ev_r_null (pc := 27) (by decide +kernel) ?_
      exact ev_r_areturn (pc := 28) (x := 0) (r := 0) (C := "MendBench$Text") (Or.inl rfl) (by decide +kernel) (by decide +kernel) rfl
    · intro c3
      refine ev_r_iload_n (pc := 12) (k := 1) (v := Int32.ofInt a0) (by decide +kernel) (by rfl) ?_
      refine ev_r_bipush (pc := 13) (k := 8) (by decide +kernel) (by decide +kernel) ?_
      refine ev_r_icmp (pc := 15) (q := .ge) (o := 12) (t := 27) (c := 8 ≤ a0) (by decide +kernel) (ev_k_ge ha0 (by decide)) (by decide +kernel) ?_ ?_
      · intro c4
        refine ev_r_null (pc := 27) (by decide +kernel) ?_
        exact ev_r_areturn (pc := 28) (x := 0) (r := 0) (C := "MendBench$Text") (Or.inl rfl) (by decide +kernel) (by decide +kernel) rfl
      · intro c4
        refine ev_r_aload_n (pc := 18) (k := 0) (v := .ref 0) trivial (by decide +kernel) (by rfl) ?_
        refine ev_r_getC (pc := 19) (y := 41) (ci := 12) (f := 6) (fin := 1) (k' := 253) (by decide +kernel) (by decide +kernel) (by exact ev_ob_0) rfl rfl ?_
        refine ev_r_iload_n (pc := 22) (k := 1) (v := Int32.ofInt a0) (by decide +kernel) (by rfl) ?_
        refine ev_r_aald (pc := 23) (N := 8) (b := 553) (c := 2) (C := "MendBench$Text") ha0 (by decide +kernel) (by decide +kernel) ?_
        intro c5
        refine ev_r_goto (pc := 24) (o := 4) (t := 28) (by decide +kernel) (by decide +kernel) ?_
        exact ev_r_areturn (pc := 28) (x := ((553 + 2 * Int.toNat a0)) + 1) (r := ((553 + 2 * Int.toNat a0)) + 1) (C := "MendBench$Text") (Or.inr (ev_el_253 c5)) (by decide +kernel) (by decide +kernel) rfl
/-- MendBench.recordReplacement(III)V -/
def jm_206 (Q : Nat) (a0 : Int) (a1 : Int) (a2 : Int) (S : ev_St) : Option ((Unit) × ev_St) := ev_b (S.1 0 15) fun x1 => ev_jn (fun (x2 : Int) (s8 : ev_St) => if x2 < 0 then (some ((), s8)) else (ev_ck (x2 + 2) fun x10 => if 30 ≤ x10 then (some ((), s8)) else (ev_b (s8.1 0 15) fun x12 => ev_if ((0 : Int) ≤ x12 ∧ x12 < (6 : Int)) (ev_b (305 + 1 * Int.toNat x12) fun _ => ev_if ((0 : Int) ≤ x2 ∧ x2 < (ev_aln ((305 + 1 * Int.toNat x12)) : Int)) (ev_b (ev_pI s8 ((305 + 1 * Int.toNat x12)) (Int.toNat x2) a0) fun s15 => ev_b (s15.1 0 15) fun x16 => ev_if ((0 : Int) ≤ x16 ∧ x16 < (6 : Int)) (ev_b (305 + 1 * Int.toNat x16) fun _ => ev_ck (x2 + 1) fun x19 => ev_if ((0 : Int) ≤ x19 ∧ x19 < (ev_aln ((305 + 1 * Int.toNat x16)) : Int)) (ev_b (ev_pI s15 ((305 + 1 * Int.toNat x16)) (Int.toNat x19) a1) fun s20 => ev_b (s20.1 0 15) fun x21 => ev_if ((0 : Int) ≤ x21 ∧ x21 < (6 : Int)) (ev_b (305 + 1 * Int.toNat x21) fun _ => ev_ck (x2 + 2) fun x24 => ev_if ((0 : Int) ≤ x24 ∧ x24 < (ev_aln ((305 + 1 * Int.toNat x21)) : Int)) (ev_b (ev_pI s20 ((305 + 1 * Int.toNat x21)) (Int.toNat x24) a2) fun s25 => ev_b (s25.1 0 15) fun x26 => ev_if ((0 : Int) ≤ x26 ∧ x26 < (ev_aln 311 : Int)) (ev_b (s25.1 311 (Int.toNat x26)) fun x27 => ev_ck (x27 + 1) fun x28 => ev_if ((0 : Int) ≤ x26 ∧ x26 < (ev_aln 311 : Int)) (ev_b (ev_pI s25 311 (Int.toNat x26) x28) fun s29 => some ((), s29)))))))))))) fun K24 => if 6 ≤ x1 then (K24 ((-1)) S) else (ev_b (S.1 0 15) fun x31 => ev_if ((0 : Int) ≤ x31 ∧ x31 < (ev_aln 311 : Int)) (ev_b (S.1 311 (Int.toNat x31)) fun x32 => ev_ck (3 * x32) fun x33 => K24 x33 S))
theorem jt_206 (d : Nat) (hd : 1 ≤ d) (Q : Nat) (a0 : Int) (a1 : Int) (a2 : Int) (ha0 : ev_rng a0) (ha1 : ev_rng a1) (ha2 : ev_rng a2) (S : ev_St) (x : Unit) (S' : ev_St) (hJ : jm_206 Q a0 a1 a2 S = some (x, S')) : ev_Ref d 206 [.ref 0, .int (Int32.ofInt a0), .int (Int32.ofInt a1), .int (Int32.ofInt a2)] S (ev_eU x) S' (ev_PU x) := by
  obtain ⟨d, rfl⟩ : ∃ e, d = e + 1 := ⟨d - 1, by omega⟩
  refine ev_ref_of (P := ev_PU) (lv := [(0, .ref 0), (1, .int (Int32.ofInt a0)), (2, .int (Int32.ofInt a1)), (3, .int (Int32.ofInt a2))]) (by decide +kernel) (by (try simp only [ev_sum, ev_nv_cat]); first | done | rfl) (by (try simp only [lv_args, ev_nv_cat]); first | done | rfl) ?_ x S' hJ
  unfold jm_206
  refine ev_r_aload_n (pc := 0) (k := 0) (v := .ref 0) trivial (by decide +kernel) (by rfl) ?_
  refine ev_r_getI (pc := 1) (y := 273) (ci := 12) (f := 15) (fin := 0) (by decide +kernel) (by decide +kernel) (by exact ev_ob_0) rfl ?_
  intro x1 hx1
  refine ev_r_bipush (pc := 4) (k := 6) (by decide +kernel) (by decide +kernel) ?_
  refine ev_r_jn (Q := fun K => ∀ (x2 : Int) (hx2 : ev_rng x2), ∀ (s8 : ev_St) (w3 : List (Nat × Value)), ev_lk w3 0 = some (.ref 0) → ev_lk w3 1 = some (.int (Int32.ofInt a0)) → ev_lk w3 2 = some (.int (Int32.ofInt a1)) → ev_lk w3 3 = some (.int (Int32.ofInt a2)) → ev_w none (ev_Mof 206) d 24 w3 [.int (Int32.ofInt x2)] s8 (K x2 s8) ev_eU ev_PU) ?_ ?_
  · intro x2 hx2 s8 w3 e4 e5 e6 e7
    refine ev_r_istore (pc := 24) (k := 4) (by decide +kernel) (by decide +kernel) rfl ?_
    refine ev_r_iload (pc := 26) (k := 4) (v := Int32.ofInt x2) (by decide +kernel) (by exact ev_lk_st1_self) ?_
    refine ev_r_if (pc := 28) (q := .lt) (o := 68) (t := 96) (c := x2 < 0) (by decide +kernel) (ev_k_lt hx2 ev_rng0) (by decide +kernel) ?_ ?_
    · intro c9
      exact ev_r_return (pc := 96) (x := ()) trivial (by decide +kernel) (by decide +kernel) rfl
    · intro c9
      refine ev_r_iload (pc := 31) (k := 4) (v := Int32.ofInt x2) (by decide +kernel) (by exact ev_lk_st1_self) ?_
      refine ev_r_iconst (pc := 33) (k := 2) (by decide +kernel) ?_
      refine ev_r_iadd (pc := 34) (by decide +kernel) ?_
      intro x10 hx10
      refine ev_r_bipush (pc := 35) (k := 30) (by decide +kernel) (by decide +kernel) ?_
      refine ev_r_icmp (pc := 37) (q := .ge) (o := 59) (t := 96) (c := 30 ≤ x10) (by decide +kernel) (ev_k_ge hx10 (by decide)) (by decide +kernel) ?_ ?_
      · intro c11
        exact ev_r_return (pc := 96) (x := ()) trivial (by decide +kernel) (by decide +kernel) rfl
      · intro c11
        refine ev_r_aload_n (pc := 40) (k := 0) (v := .ref 0) trivial (by decide +kernel) (by exact (ev_l1 e4 (by decide) (by decide))) ?_
        refine ev_r_getC (pc := 41) (y := 80) (ci := 12) (f := 13) (fin := 1) (k' := 304) (by decide +kernel) (by decide +kernel) (by exact ev_ob_0) rfl rfl ?_
        refine ev_r_aload_n (pc := 44) (k := 0) (v := .ref 0) trivial (by decide +kernel) (by exact (ev_l1 e4 (by decide) (by decide))) ?_
        refine ev_r_getI (pc := 45) (y := 273) (ci := 12) (f := 15) (fin := 0) (by decide +kernel) (by decide +kernel) (by exact ev_ob_0) rfl ?_
        intro x12 hx12
        refine ev_r_aalda (pc := 48) (N := 6) (b := 305) (c := 1) (C := .int) hx12 (by decide +kernel) (by decide +kernel) ?_
        intro c13
        refine ev_r_iload (pc := 49) (k := 4) (v := Int32.ofInt x2) (by decide +kernel) (by exact ev_lk_st1_self) ?_
        refine ev_r_iload_n (pc := 51) (k := 1) (v := Int32.ofInt a0) (by decide +kernel) (by exact (ev_l1 e5 (by decide) (by decide))) ?_
        refine ev_r_iast (pc := 52) ha0 hx2 (by decide +kernel) (by exact (ev_el_304 c13)) ?_
        intro s15
        refine ev_r_aload_n (pc := 53) (k := 0) (v := .ref 0) trivial (by decide +kernel) (by exact (ev_l1 e4 (by decide) (by decide))) ?_
        refine ev_r_getC (pc := 54) (y := 80) (ci := 12) (f := 13) (fin := 1) (k' := 304) (by decide +kernel) (by decide +kernel) (by exact ev_ob_0) rfl rfl ?_
        refine ev_r_aload_n (pc := 57) (k := 0) (v := .ref 0) trivial (by decide +kernel) (by exact (ev_l1 e4 (by decide) (by decide))) ?_
        refine ev_r_getI (pc := 58) (y := 273) (ci := 12) (f := 15) (fin := 0) (by decide +kernel) (by decide +kernel) (by exact ev_ob_0) rfl ?_
        intro x16 hx16
        refine ev_r_aalda (pc := 61) (N := 6) (b := 305) (c := 1) (C := .int) hx16 (by decide +kernel) (by decide +kernel) ?_
        intro c17
        refine ev_r_iload (pc := 62) (k := 4) (v := Int32.ofInt x2) (by decide +kernel) (by exact ev_lk_st1_self) ?_
        refine ev_r_iconst (pc := 64) (k := 1) (by decide +kernel) ?_
        refine ev_r_iadd (pc := 65) (by decide +kernel) ?_
        intro x19 hx19
        refine ev_r_iload_n (pc := 66) (k := 2) (v := Int32.ofInt a1) (by decide +kernel) (by exact (ev_l1 e6 (by decide) (by decide))) ?_
        refine ev_r_iast (pc := 67) ha1 hx19 (by decide +kernel) (by exact (ev_el_304 c17)) ?_
        intro s20
        refine ev_r_aload_n (pc := 68) (k := 0) (v := .ref 0) trivial (by decide +kernel) (by exact (ev_l1 e4 (by decide) (by decide))) ?_
        refine ev_r_getC (pc := 69) (y := 80) (ci := 12) (f := 13) (fin := 1) (k' := 304) (by decide +kernel) (by decide +kernel) (by exact ev_ob_0) rfl rfl ?_
        refine ev_r_aload_n (pc := 72) (k := 0) (v := .ref 0) trivial (by decide +kernel) (by exact (ev_l1 e4 (by decide) (by decide))) ?_
        refine ev_r_getI (pc := 73) (y := 273) (ci := 12) (f := 15) (fin := 0) (by decide +kernel) (by decide +kernel) (by exact ev_ob_0) rfl ?_
        intro x21 hx21
        refine ev_r_aalda (pc := 76) (N := 6) (b := 305) (c := 1) (C := .int) hx21 (by decide +kernel) (by decide +kernel) ?_
        intro c22
        refine ev_r_iload (pc := 77) (k := 4) (v := Int32.ofInt x2) (by decide +kernel) (by exact ev_lk_st1_self) ?_
        refine ev_r_iconst (pc := 79) (k := 2) (by decide +kernel) ?_
        refine ev_r_iadd (pc := 80) (by decide +kernel) ?_
        intro x24 hx24
        refine ev_r_iload_n (pc := 81) (k := 3) (v := Int32.ofInt a2) (by decide +kernel) (by exact (ev_lk_st1 e7 (by decide) rfl)) ?_
        refine ev_r_iast (pc := 82) ha2 hx24 (by decide +kernel) (by exact (ev_el_304 c22)) ?_
        intro s25
        refine ev_r_aload_n (pc := 83) (k := 0) (v := .ref 0) trivial (by decide +kernel) (by exact (ev_l1 e4 (by decide) (by decide))) ?_
        refine ev_r_getC (pc := 84) (y := 83) (ci := 12) (f := 14) (fin := 1) (k' := 311) (by decide +kernel) (by decide +kernel) (by exact ev_ob_0) rfl rfl ?_
        refine ev_r_aload_n (pc := 87) (k := 0) (v := .ref 0) trivial (by decide +kernel) (by exact (ev_l1 e4 (by decide) (by decide))) ?_
        refine ev_r_getI (pc := 88) (y := 273) (ci := 12) (f := 15) (fin := 0) (by decide +kernel) (by decide +kernel) (by exact ev_ob_0) rfl ?_
        intro x26 hx26
        refine ev_r_dup2 (pc := 91) rfl rfl (by decide +kernel) ?_
        refine ev_r_iald (pc := 92) hx26 (by decide +kernel) (by exact ev_ab_311) ?_
        intro x27 hx27
        refine ev_r_iconst (pc := 93) (k := 1) (by decide +kernel) ?_
        refine ev_r_iadd (pc := 94) (by decide +kernel) ?_
        intro x28 hx28
        refine ev_r_iast (pc := 95) hx28 hx26 (by decide +kernel) (by exact ev_ab_311) ?_
        intro s29
        exact ev_r_return (pc := 96) (x := ()) trivial (by decide +kernel) (by decide +kernel) rfl
  · intro K24 hK24
    refine ev_r_icmp (pc := 6) (q := .ge) (o := 17) (t := 23) (c := 6 ≤ x1) (by decide +kernel) (ev_k_ge hx1 (by decide)) (by decide +kernel) ?_ ?_
    · intro c30
      refine ev_r_iconst (pc := 23) (k := -1) (by decide +kernel) ?_
      exact hK24 ((-1)) (by decide) S _ (by rfl) (by rfl) (by rfl) (by rfl)
    · intro c30
      refine ev_r_iconst (pc := 9) (k := 3) (by decide +kernel) ?_
      refine ev_r_aload_n (pc := 10) (k := 0) (v := .ref 0) trivial (by decide +kernel) (by rfl) ?_
      refine ev_r_getC (pc := 11) (y := 83) (ci := 12) (f := 14) (fin := 1) (k' := 311) (by decide +kernel) (by decide +kernel) (by exact ev_ob_0) rfl rfl ?_
      refine ev_r_aload_n (pc := 14) (k := 0) (v := .ref 0) trivial (by decide +kernel) (by rfl) ?_
      refine ev_r_getI (pc := 15) (y := 273) (ci := 12) (f := 15) (fin := 0) (by decide +kernel) (by decide +kernel) (by exact ev_ob_0) rfl ?_
      intro x31 hx31
      refine ev_r_iald (pc := 18) hx31 (by decide +kernel) (by exact ev_ab_311) ?_
      intro x32 hx32
      refine ev_r_imul (pc := 19) (by decide +kernel) ?_
      intro x33 hx33
      refine ev_r_goto (pc := 20) (o := 4) (t := 24) (by decide +kernel) (by decide +kernel) ?_
      exact hK24 x33 hx33 S _ (by rfl) (by rfl) (by rfl) (by rfl)
/-- MendBench.mark(IIZ)I -/
def jm_187 (Q : Nat) (a0 : Int) (a1 : Int) (a2 : Int) (S : ev_St) : Option ((Int ⊕ String) × ev_St) := ev_bd (jm_1 Q a0 S) fun r2 s1 => if r2 = 0 then (some (.inr "java/lang/IndexOutOfBoundsException", ev_tick s1)) else (if a1 < 0 then (some (.inr "java/lang/IndexOutOfBoundsException", ev_tick s1)) else (ev_b (s1.1 ((r2 - 1)) 1) fun x5 => if a1 ≤ x5 then (ev_bd (jm_2 Q a0 a1 a2 s1) fun x8 s7 => if x8 ≠ (-1) then (some (.inl x8, s7)) else (some (.inr "java/lang/IllegalStateException", ev_tick s7))) else (some (.inr "java/lang/IndexOutOfBoundsException", ev_tick s1))))
theorem jt_187 (d : Nat) (hd : 6 ≤ d) (Q : Nat) (a0 : Int) (a1 : Int) (a2 : Int) (ha0 : ev_rng a0) (ha1 : ev_rng a1) (ha2 : ev_rng a2) (S : ev_St) (x : Int ⊕ String) (S' : ev_St) (hJ : jm_187 Q a0 a1 a2 S = some (x, S')) : ev_Ref d 187 [.ref 0, .int (Int32.ofInt a0), .int (Int32.ofInt a1), .int (Int32.ofInt a2)] S (ev_eX x) S' (ev_PX x) := by
  obtain ⟨d, rfl⟩ : ∃ e, d = e + 1 := ⟨d - 1, by omega⟩
  refine ev_ref_of (P := ev_PX) (lv := [(0, .ref 0), (1, .int (Int32.ofInt a0)), (2, .int (Int32.ofInt a1)), (3, .int (Int32.ofInt a2))]) (by decide +kernel) (by (try simp only [ev_sum, ev_nv_cat]); first | done | rfl) (by (try simp only [lv_args, ev_nv_cat]); first | done | rfl) ?_ x S' hJ
  unfold jm_187
  refine ev_r_aload_n (pc := 0) (k := 0) (v := .ref 0) trivial (by decide +kernel) (by rfl) ?_
  refine ev_r_getC (pc := 1) (y := 48) (ci := 12) (f := 8) (fin := 1) (k' := 254) (by decide +kernel) (by decide +kernel) (by exact ev_ob_0) rfl rfl ?_
  refine ev_r_iload_n (pc := 4) (k := 1) (v := Int32.ofInt a0) (by decide +kernel) (by rfl) ?_
  refine ev_r_virt (pc := 5) (y := 221) (mi := 1) (na := 1) (k := 254) (as := [.int (Int32.ofInt a0)]) (rest := []) (encc := ev_oR) (Q := (fun r => r = 0 ∨ ev_isOb (r - 1) 10 = true)) (fun x S1 h => jt_1 d (by omega) Q a0 ha0 S x S1 h) (by exact ev_ob_254) (by decide +kernel) (by decide +kernel) (by decide +kernel) (by decide +kernel) rfl (by (try simp only [ev_sum, ev_nv_cat]); first | done | rfl) ?_
  intro r2 s1 hr2
  show ev_w _ _ _ _ _ [ev_nv r2] _ _ _ _
  refine ev_r_astore (pc := 8) (k := 4) (ev_isR_nv _) (by decide +kernel) (by decide +kernel) rfl ?_
  refine ev_r_aload (pc := 10) (k := 4) (v := ev_nv r2) (ev_isR_nv _) (by decide +kernel) (by exact ev_lk_st1_self) ?_
  refine ev_r_ifnull (pc := 12) (r := r2) (o := 16) (t := 28) (by decide +kernel) (by decide +kernel) ?_ ?_
  · intro c3
    exact ev_r_throw (pc := 28) (x := .inr "java/lang/IndexOutOfBoundsException") (y := 160) (E := "java/lang/IndexOutOfBoundsException") trivial (by decide +kernel) (by decide +kernel) (by decide +kernel) (Nat.ble_eq.mpr (by omega)) rfl
  · intro c3
    refine ev_r_iload_n (pc := 15) (k := 2) (v := Int32.ofInt a1) (by decide +kernel) (by exact (ev_l1 (by rfl) (by decide) (by decide))) ?_
    refine ev_r_if (pc := 16) (q := .lt) (o := 12) (t := 28) (c := a1 < 0) (by decide +kernel) (ev_k_lt ha1 ev_rng0) (by decide +kernel) ?_ ?_
    · intro c4
      exact ev_r_throw (pc := 28) (x := .inr "java/lang/IndexOutOfBoundsException") (y := 160) (E := "java/lang/IndexOutOfBoundsException") trivial (by decide +kernel) (by decide +kernel) (by decide +kernel) (Nat.ble_eq.mpr (by omega)) rfl
    · intro c4
      refine ev_r_iload_n (pc := 19) (k := 2) (v := Int32.ofInt a1) (by decide +kernel) (by exact (ev_l1 (by rfl) (by decide) (by decide))) ?_
      refine ev_r_aload (pc := 20) (k := 4) (v := ev_nv r2) (ev_isR_nv _) (by decide +kernel) (by exact ev_lk_st1_self) ?_
      refine ev_r_dr (r := r2) (fun v => [v, .int (Int32.ofInt a1)]) c3 ?_
      refine ev_r_getI (pc := 22) (y := 105) (ci := 10) (f := 1) (fin := 0) (by decide +kernel) (by decide +kernel) (by exact (hr2.resolve_left c3)) rfl ?_
      intro x5 hx5
      refine ev_r_icmp (pc := 25) (q := .le) (o := 14) (t := 39) (c := a1 ≤ x5) (by decide +kernel) (ev_k_le ha1 hx5) (by decide +kernel) ?_ ?_
      · intro c6
        refine ev_r_aload_n (pc := 39) (k := 0) (v := .ref 0) trivial (by decide +kernel) (by exact (ev_l1 (by rfl) (by decide) (by decide))) ?_
        refine ev_r_getC (pc := 40) (y := 48) (ci := 12) (f := 8) (fin := 1) (k' := 254) (by decide +kernel) (by decide +kernel) (by exact ev_ob_0) rfl rfl ?_
        refine ev_r_iload_n (pc := 43) (k := 1) (v := Int32.ofInt a0) (by decide +kernel) (by exact (ev_l1 (by rfl) (by decide) (by decide))) ?_
        refine ev_r_iload_n (pc := 44) (k := 2) (v := Int32.ofInt a1) (by decide +kernel) (by exact (ev_l1 (by rfl) (by decide) (by decide))) ?_
        refine ev_r_iload_n (pc := 45) (k := 3) (v := Int32.ofInt a2) (by decide +kernel) (by exact (ev_lk_st1 (by rfl) (by decide) rfl)) ?_
        refine ev_r_virt (pc := 46) (y := 297) (mi := 2) (na := 3) (k := 254) (as := [.int (Int32.ofInt a0), .int (Int32.ofInt a1), .int (Int32.ofInt a2)]) (rest := []) (encc := ev_oI) (Q := ev_rng) (fun x S1 h => jt_2 d (by omega) Q a0 a1 a2 ha0 ha1 ha2 s1 x S1 h) (by exact ev_ob_254) (by decide +kernel) (by decide +kernel) (by decide +kernel) (by decide +kernel) rfl (by (try simp only [ev_sum, ev_nv_cat]); first | done | rfl) ?_
        intro x8 s7 hx8
        show ev_w _ _ _ _ _ [.int (Int32.ofInt x8)] _ _ _ _
        refine ev_r_istore (pc := 49) (k := 5) (by decide +kernel) (by decide +kernel) rfl ?_
        refine ev_r_iload (pc := 51) (k := 5) (v := Int32.ofInt x8) (by decide +kernel) (by exact ev_lk_st1_self) ?_
        refine ev_r_iconst (pc := 53) (k := -1) (by decide +kernel) ?_
        refine ev_r_icmp (pc := 54) (q := .ne) (o := 14) (t := 68) (c := x8 ≠ (-1)) (by decide +kernel) (ev_k_ne hx8 (by decide)) (by decide +kernel) ?_ ?_
        · intro c9
          refine ev_r_iload (pc := 68) (k := 5) (v := Int32.ofInt x8) (by decide +kernel) (by exact ev_lk_st1_self) ?_
          exact ev_r_ireturn (pc := 70) (x := .inl x8) (v := Int32.ofInt x8) (ty := .int) hx8 (by decide +kernel) (by decide +kernel) rfl rfl
        · intro c9
          exact ev_r_throw (pc := 57) (x := .inr "java/lang/IllegalStateException") (y := 109) (E := "java/lang/IllegalStateException") trivial (by decide +kernel) (by decide +kernel) (by decide +kernel) (Nat.ble_eq.mpr (by omega)) rfl
      · intro c6
        exact ev_r_throw (pc := 28) (x := .inr "java/lang/IndexOutOfBoundsException") (y := 160) (E := "java/lang/IndexOutOfBoundsException") trivial (by decide +kernel) (by decide +kernel) (by decide +kernel) (Nat.ble_eq.mpr (by omega)) rfl
/-- MendBench.place(I)I -/
def jm_188 (Q : Nat) (a0 : Int) (S : ev_St) : Option ((Int ⊕ String) × ev_St) := if a0 < 0 then (some (.inr "java/lang/IndexOutOfBoundsException", ev_tick S)) else (ev_b (S.1 254 4) fun x2 => if x2 ≤ a0 then (some (.inr "java/lang/IndexOutOfBoundsException", ev_tick S)) else (if a0 < 12 then (ev_if ((0 : Int) ≤ a0 ∧ a0 < (ev_aln 258 : Int)) (ev_b (S.1 258 (Int.toNat a0)) fun x5 => some (.inl x5, S))) else (some (.inr "java/lang/IndexOutOfBoundsException", ev_tick S))))
theorem jt_188 (d : Nat) (hd : 6 ≤ d) (Q : Nat) (a0 : Int) (ha0 : ev_rng a0) (S : ev_St) (x : Int ⊕ String) (S' : ev_St) (hJ : jm_188 Q a0 S = some (x, S')) : ev_Ref d 188 [.ref 0, .int (Int32.ofInt a0)] S (ev_eX x) S' (ev_PX x) := by
  obtain ⟨d, rfl⟩ : ∃ e, d = e + 1 := ⟨d - 1, by omega⟩
  refine ev_ref_of (P := ev_PX) (lv := [(0, .ref 0), (1, .int (Int32.ofInt a0))]) (by decide +kernel) (by (try simp only [ev_sum, ev_nv_cat]); first | done | rfl) (by (try simp only [lv_args, ev_nv_cat]); first | done | rfl) ?_ x S' hJ
  unfold jm_188
  refine ev_r_iload_n (pc := 0) (k := 1) (v := Int32.ofInt a0) (by decide +kernel) (by rfl) ?_
  refine ev_r_if (pc := 1) (q := .lt) (o := 20) (t := 21) (c := a0 < 0) (by decide +kernel) (ev_k_lt ha0 ev_rng0) (by decide +kernel) ?_ ?_
  · intro c1
    exact ev_r_throw (pc := 21) (x := .inr "java/lang/IndexOutOfBoundsException") (y := 160) (E := "java/lang/IndexOutOfBoundsException") trivial (by decide +kernel) (by decide +kernel) (by decide +kernel) (Nat.ble_eq.mpr (by omega)) rfl
  · intro c1
    refine ev_r_iload_n (pc := 4) (k := 1) (v := Int32.ofInt a0) (by decide +kernel) (by rfl) ?_
    refine ev_r_aload_n (pc := 5) (k := 0) (v := .ref 0) trivial (by decide +kernel) (by rfl) ?_
    refine ev_r_getC (pc := 6) (y := 48) (ci := 12) (f := 8) (fin := 1) (k' := 254) (by decide +kernel) (by decide +kernel) (by exact ev_ob_0) rfl rfl ?_
    refine ev_r_getI (pc := 9) (y := 303) (ci := 0) (f := 4) (fin := 0) (by decide +kernel) (by decide +kernel) (by exact ev_ob_254) rfl ?_
    intro x2 hx2
    refine ev_r_icmp (pc := 12) (q := .ge) (o := 9) (t := 21) (c := x2 ≤ a0) (by decide +kernel) (ev_k_ge ha0 hx2) (by decide +kernel) ?_ ?_
    · intro c3
      exact ev_r_throw (pc := 21) (x := .inr "java/lang/IndexOutOfBoundsException") (y := 160) (E := "java/lang/IndexOutOfBoundsException") trivial (by decide +kernel) (by decide +kernel) (by decide +kernel) (Nat.ble_eq.mpr (by omega)) rfl
    · intro c3
      refine ev_r_iload_n (pc := 15) (k := 1) (v := Int32.ofInt a0) (by decide +kernel) (by rfl) ?_
      refine ev_r_bipush (pc := 16) (k := 12) (by decide +kernel) (by decide +kernel) ?_
      refine ev_r_icmp (pc := 18) (q := .lt) (o := 14) (t := 32) (c := a0 < 12) (by decide +kernel) (ev_k_lt ha0 (by decide)) (by decide +kernel) ?_ ?_
      · intro c4
        refine ev_r_aload_n (pc := 32) (k := 0) (v := .ref 0) trivial (by decide +kernel) (by rfl) ?_
        refine ev_r_getC (pc := 33) (y := 48) (ci := 12) (f := 8) (fin := 1) (k' := 254) (by decide +kernel) (by decide +kernel) (by exact ev_ob_0) rfl rfl ?_
        refine ev_r_getC (pc := 36) (y := 308) (ci := 0) (f := 3) (fin := 2) (k' := 258) (by decide +kernel) (by decide +kernel) (by exact ev_ob_254) rfl rfl ?_
        refine ev_r_iload_n (pc := 39) (k := 1) (v := Int32.ofInt a0) (by decide +kernel) (by rfl) ?_
        refine ev_r_iald (pc := 40) ha0 (by decide +kernel) (by exact ev_ab_258) ?_
        intro x5 hx5
        exact ev_r_ireturn (pc := 41) (x := .inl x5) (v := Int32.ofInt x5) (ty := .int) hx5 (by decide +kernel) (by decide +kernel) rfl rfl
      · intro c4
        exact ev_r_throw (pc := 21) (x := .inr "java/lang/IndexOutOfBoundsException") (y := 160) (E := "java/lang/IndexOutOfBoundsException") trivial (by decide +kernel) (by decide +kernel) (by decide +kernel) (Nat.ble_eq.mpr (by omega)) rfl
/-- MendBench.open()I -/
def jm_189 (Q : Nat)  (S : ev_St) : Option ((Int ⊕ String) × ev_St) := ev_b (S.1 254 14) fun x1 => if x1 = 0 then (ev_b (ev_pI S 254 14 1) fun s3 => ev_b (s3.1 254 12) fun x4 => some (.inl x4, s3)) else (some (.inr "java/lang/IllegalStateException", ev_tick S))
theorem jt_189 (d : Nat) (hd : 6 ≤ d) (Q : Nat)   (S : ev_St) (x : Int ⊕ String) (S' : ev_St) (hJ : jm_189 Q  S = some (x, S')) : ev_Ref d 189 [.ref 0] S (ev_eX x) S' (ev_PX x) := by
  obtain ⟨d, rfl⟩ : ∃ e, d = e + 1 := ⟨d - 1, by omega⟩
  refine ev_ref_of (P := ev_PX) (lv := [(0, .ref 0)]) (by decide +kernel) (by (try simp only [ev_sum, ev_nv_cat]); first | done | rfl) (by (try simp only [lv_args, ev_nv_cat]); first | done | rfl) ?_ x S' hJ
  unfold jm_189
  refine ev_r_aload_n (pc := 0) (k := 0) (v := .ref 0) trivial (by decide +kernel) (by rfl) ?_
  refine ev_r_getC (pc := 1) (y := 48) (ci := 12) (f := 8) (fin := 1) (k' := 254) (by decide +kernel) (by decide +kernel) (by exact ev_ob_0) rfl rfl ?_
  refine ev_r_getI (pc := 4) (y := 311) (ci := 0) (f := 14) (fin := 0) (by decide +kernel) (by decide +kernel) (by exact ev_ob_254) rfl ?_
  intro x1 hx1
  refine ev_r_if (pc := 7) (q := .eq) (o := 14) (t := 21) (c := x1 = 0) (by decide +kernel) (ev_k_eq hx1 ev_rng0) (by decide +kernel) ?_ ?_
  · intro c2
    refine ev_r_aload_n (pc := 21) (k := 0) (v := .ref 0) trivial (by decide +kernel) (by rfl) ?_
    refine ev_r_getC (pc := 22) (y := 48) (ci := 12) (f := 8) (fin := 1) (k' := 254) (by decide +kernel) (by decide +kernel) (by exact ev_ob_0) rfl rfl ?_
    refine ev_r_iconst (pc := 25) (k := 1) (by decide +kernel) ?_
    refine ev_r_putI (pc := 26) (y := 311) (ci := 0) (f := 14) (by decide) (by decide +kernel) (by decide +kernel) (by exact ev_ob_254) rfl (ev_fit_bl (by decide : ev_bl 1)) ?_
    intro s3
    refine ev_r_aload_n (pc := 29) (k := 0) (v := .ref 0) trivial (by decide +kernel) (by rfl) ?_
    refine ev_r_getC (pc := 30) (y := 48) (ci := 12) (f := 8) (fin := 1) (k' := 254) (by decide +kernel) (by decide +kernel) (by exact ev_ob_0) rfl rfl ?_
    refine ev_r_getI (pc := 33) (y := 316) (ci := 0) (f := 12) (fin := 0) (by decide +kernel) (by decide +kernel) (by exact ev_ob_254) rfl ?_
    intro x4 hx4
    exact ev_r_ireturn (pc := 36) (x := .inl x4) (v := Int32.ofInt x4) (ty := .int) hx4 (by decide +kernel) (by decide +kernel) rfl rfl
  · intro c2
    exact ev_r_throw (pc := 10) (x := .inr "java/lang/IllegalStateException") (y := 109) (E := "java/lang/IllegalStateException") trivial (by decide +kernel) (by decide +kernel) (by decide +kernel) (Nat.ble_eq.mpr (by omega)) rfl
/-- MendBench.shut()I -/
def jm_190 (Q : Nat)  (S : ev_St) : Option ((Int ⊕ String) × ev_St) := ev_b (S.1 254 14) fun x1 => if x1 ≠ 0 then (ev_b (ev_pI S 254 14 0) fun s3 => ev_bd (jm_3 Q  s3) fun _ s4 => ev_b (s4.1 254 12) fun x5 => some (.inl x5, s4)) else (some (.inr "java/lang/IllegalStateException", ev_tick S))
theorem jt_190 (d : Nat) (hd : 6 ≤ d) (Q : Nat)   (S : ev_St) (x : Int ⊕ String) (S' : ev_St) (hJ : jm_190 Q  S = some (x, S')) : ev_Ref d 190 [.ref 0] S (ev_eX x) S' (ev_PX x) := by
  obtain ⟨d, rfl⟩ : ∃ e, d = e + 1 := ⟨d - 1, by omega⟩
  refine ev_ref_of (P := ev_PX) (lv := [(0, .ref 0)]) (by decide +kernel) (by (try simp only [ev_sum, ev_nv_cat]); first | done | rfl) (by (try simp only [lv_args, ev_nv_cat]); first | done | rfl) ?_ x S' hJ
  unfold jm_190
  refine ev_r_aload_n (pc := 0) (k := 0) (v := .ref 0) trivial (by decide +kernel) (by rfl) ?_
  refine ev_r_getC (pc := 1) (y := 48) (ci := 12) (f := 8) (fin := 1) (k' := 254) (by decide +kernel) (by decide +kernel) (by exact ev_ob_0) rfl rfl ?_
  refine ev_r_getI (pc := 4) (y := 311) (ci := 0) (f := 14) (fin := 0) (by decide +kernel) (by decide +kernel) (by exact ev_ob_254) rfl ?_
  intro x1 hx1
  refine ev_r_if (pc := 7) (q := .ne) (o := 14) (t := 21) (c := x1 ≠ 0) (by decide +kernel) (ev_k_ne hx1 ev_rng0) (by decide +kernel) ?_ ?_
  · intro c2
    refine ev_r_aload_n (pc := 21) (k := 0) (v := .ref 0) trivial (by decide +kernel) (by rfl) ?_
    refine ev_r_getC (pc := 22) (y := 48) (ci := 12) (f := 8) (fin := 1) (k' := 254) (by decide +kernel) (by decide +kernel) (by exact ev_ob_0) rfl rfl ?_
    refine ev_r_iconst (pc := 25) (k := 0) (by decide +kernel) ?_
    refine ev_r_putI (pc := 26) (y := 311) (ci := 0) (f := 14) (by decide) (by decide +kernel) (by decide +kernel) (by exact ev_ob_254) rfl (ev_fit_bl (by decide : ev_bl 0)) ?_
    intro s3
    refine ev_r_aload_n (pc := 29) (k := 0) (v := .ref 0) trivial (by decide +kernel) (by rfl) ?_
    refine ev_r_getC (pc := 30) (y := 48) (ci := 12) (f := 8) (fin := 1) (k' := 254) (by decide +kernel) (by decide +kernel) (by exact ev_ob_0) rfl rfl ?_
    refine ev_r_virt (pc := 33) (y := 258) (mi := 3) (na := 0) (k := 254) (as := []) (rest := []) (encc := ev_oU) (Q := ev_PU) (fun x S1 h => jt_3 d (by omega) Q   s3 x S1 h) (by exact ev_ob_254) (by decide +kernel) (by decide +kernel) (by decide +kernel) (by decide +kernel) rfl (by (try simp only [ev_sum, ev_nv_cat]); first | done | rfl) ?_
    intro _ s4 _
    show ev_w _ _ _ _ _ [] _ _ _ _
    refine ev_r_aload_n (pc := 36) (k := 0) (v := .ref 0) trivial (by decide +kernel) (by rfl) ?_
    refine ev_r_getC (pc := 37) (y := 48) (ci := 12) (f := 8) (fin := 1) (k' := 254) (by decide +kernel) (by decide +kernel) (by exact ev_ob_0) rfl rfl ?_
    refine ev_r_getI (pc := 40) (y := 316) (ci := 0) (f := 12) (fin := 0) (by decide +kernel) (by decide +kernel) (by exact ev_ob_254) rfl ?_
    intro x5 hx5
    exact ev_r_ireturn (pc := 43) (x := .inl x5) (v := Int32.ofInt x5) (ty := .int) hx5 (by decide +kernel) (by decide +kernel) rfl rfl
  · intro c2
    exact ev_r_throw (pc := 10) (x := .inr "java/lang/IllegalStateException") (y := 109) (E := "java/lang/IllegalStateException") trivial (by decide +kernel) (by decide +kernel) (by decide +kernel) (Nat.ble_eq.mpr (by omega)) rfl
/-- MendBench.record()I -/
def jm_193 (Q : Nat)  (S : ev_St) : Option ((Int ⊕ String) × ev_St) := ev_b (S.1 0 15) fun x1 => if x1 < 6 then (ev_b (S.1 0 16) fun x3 => ev_jn (fun (x4 : Int) (s7 : ev_St) => ev_if (ev_bl x4) (ev_b (ev_pI s7 0 16 x4) fun s8 => ev_b (s8.1 0 16) fun x10 => if x10 = 0 then (ev_b (s8.1 0 15) fun x12 => ev_ck (x12 + 1) fun x13 => ev_b (ev_pI s8 0 15 x13) fun s14 => ev_b (s14.1 0 15) fun x15 => ev_ck (x15 - 1) fun x16 => some (.inl x16, s14)) else (some (.inl ((-1)), s8)))) fun K33 => if x3 ≠ 0 then (K33 0 S) else (K33 1 S)) else (some (.inr "java/lang/IllegalStateException", ev_tick S))
theorem jt_193 (d : Nat) (hd : 6 ≤ d) (Q : Nat)   (S : ev_St) (x : Int ⊕ String) (S' : ev_St) (hJ : jm_193 Q  S = some (x, S')) : ev_Ref d 193 [.ref 0] S (ev_eX x) S' (ev_PX x) := by
  obtain ⟨d, rfl⟩ : ∃ e, d = e + 1 := ⟨d - 1, by omega⟩
  refine ev_ref_of (P := ev_PX) (lv := [(0, .ref 0)]) (by decide +kernel) (by (try simp only [ev_sum, ev_nv_cat]); first | done | rfl) (by (try simp only [lv_args, ev_nv_cat]); first | done | rfl) ?_ x S' hJ
  unfold jm_193
  refine ev_r_aload_n (pc := 0) (k := 0) (v := .ref 0) trivial (by decide +kernel) (by rfl) ?_
  refine ev_r_getI (pc := 1) (y := 273) (ci := 12) (f := 15) (fin := 0) (by decide +kernel) (by decide +kernel) (by exact ev_ob_0) rfl ?_
  intro x1 hx1
  refine ev_r_bipush (pc := 4) (k := 6) (by decide +kernel) (by decide +kernel) ?_
  refine ev_r_icmp (pc := 6) (q := .lt) (o := 14) (t := 20) (c := x1 < 6) (by decide +kernel) (ev_k_lt hx1 (by decide)) (by decide +kernel) ?_ ?_
  · intro c2
    refine ev_r_aload_n (pc := 20) (k := 0) (v := .ref 0) trivial (by decide +kernel) (by rfl) ?_
    refine ev_r_aload_n (pc := 21) (k := 0) (v := .ref 0) trivial (by decide +kernel) (by rfl) ?_
    refine ev_r_getI (pc := 22) (y := 270) (ci := 12) (f := 16) (fin := 0) (by decide +kernel) (by decide +kernel) (by exact ev_ob_0) rfl ?_
    intro x3 hx3
    refine ev_r_jn (Q := fun K => ∀ (x4 : Int) (hx4 : ev_rng x4), ∀ (s7 : ev_St) (w5 : List (Nat × Value)), ev_lk w5 0 = some (.ref 0) → ev_w none (ev_Mof 193) d 33 w5 [.int (Int32.ofInt x4), .ref 0] s7 (K x4 s7) ev_eX ev_PX) ?_ ?_
    · intro x4 hx4 s7 w5 e6
      refine ev_r_chk ?_
      intro c9
      refine ev_r_putI (pc := 33) (y := 270) (ci := 12) (f := 16) hx4 (by decide +kernel) (by decide +kernel) (by exact ev_ob_0) rfl (ev_fit_bl c9) ?_
      intro s8
      refine ev_r_aload_n (pc := 36) (k := 0) (v := .ref 0) trivial (by decide +kernel) (by exact e6) ?_
      refine ev_r_getI (pc := 37) (y := 270) (ci := 12) (f := 16) (fin := 0) (by decide +kernel) (by decide +kernel) (by exact ev_ob_0) rfl ?_
      intro x10 hx10
      refine ev_r_if (pc := 40) (q := .eq) (o := 5) (t := 45) (c := x10 = 0) (by decide +kernel) (ev_k_eq hx10 ev_rng0) (by decide +kernel) ?_ ?_
      · intro c11
        refine ev_r_aload_n (pc := 45) (k := 0) (v := .ref 0) trivial (by decide +kernel) (by exact e6) ?_
        refine ev_r_dup (pc := 46) rfl (by decide +kernel) ?_
        refine ev_r_getI (pc := 47) (y := 273) (ci := 12) (f := 15) (fin := 0) (by decide +kernel) (by decide +kernel) (by exact ev_ob_0) rfl ?_
        intro x12 hx12
        refine ev_r_iconst (pc := 50) (k := 1) (by decide +kernel) ?_
        refine ev_r_iadd (pc := 51) (by decide +kernel) ?_
        intro x13 hx13
        refine ev_r_putI (pc := 52) (y := 273) (ci := 12) (f := 15) hx13 (by decide +kernel) (by decide +kernel) (by exact ev_ob_0) rfl rfl ?_
        intro s14
        refine ev_r_aload_n (pc := 55) (k := 0) (v := .ref 0) trivial (by decide +kernel) (by exact e6) ?_
        refine ev_r_getI (pc := 56) (y := 273) (ci := 12) (f := 15) (fin := 0) (by decide +kernel) (by decide +kernel) (by exact ev_ob_0) rfl ?_
        intro x15 hx15
        refine ev_r_iconst (pc := 59) (k := 1) (by decide +kernel) ?_
        refine ev_r_isub (pc := 60) (by decide +kernel) ?_
        intro x16 hx16
        exact ev_r_ireturn (pc := 61) (x := .inl x16) (v := Int32.ofInt x16) (ty := .int) hx16 (by decide +kernel) (by decide +kernel) rfl rfl
      · intro c11
        refine ev_r_iconst (pc := 43) (k := -1) (by decide +kernel) ?_
        exact ev_r_ireturn (pc := 44) (x := .inl ((-1))) (v := Int32.ofInt ((-1))) (ty := .int) (by decide) (by decide +kernel) (by decide +kernel) rfl rfl
    · intro K33 hK33
      refine ev_r_if (pc := 25) (q := .ne) (o := 7) (t := 32) (c := x3 ≠ 0) (by decide +kernel) (ev_k_ne hx3 ev_rng0) (by decide +kernel) ?_ ?_
      · intro c17
        refine ev_r_iconst (pc := 32) (k := 0) (by decide +kernel) ?_
        exact hK33 0 (by decide) S _ (by rfl)
      · intro c17
        refine ev_r_iconst (pc := 28) (k := 1) (by decide +kernel) ?_
        refine ev_r_goto (pc := 29) (o := 4) (t := 33) (by decide +kernel) (by decide +kernel) ?_
        exact hK33 1 (by decide) S _ (by rfl)
  · intro c2
    exact ev_r_throw (pc := 9) (x := .inr "java/lang/IllegalStateException") (y := 109) (E := "java/lang/IllegalStateException") trivial (by decide +kernel) (by decide +kernel) (by decide +kernel) (Nat.ble_eq.mpr (by omega)) rfl
/-- MendBench.stream(IZ)I -/
def jm_195 (Q : Nat) (a0 : Int) (a1 : Int) (S : ev_St) : Option ((Int ⊕ String) × ev_St) := ev_bd (jm_200 Q a0 S) fun r2 s1 => if r2 = 0 then (some (.inr "java/lang/IndexOutOfBoundsException", ev_tick s1)) else (ev_b (s1.1 ((r2 - 1)) 15) fun x4 => if x4 = 0 then (some (.inr "java/lang/IllegalStateException", ev_tick s1)) else (ev_b (s1.1 0 18) fun x6 => if x6 < 4 then (ev_b (s1.1 0 18) fun x8 => ev_if ((0 : Int) ≤ x8 ∧ x8 < (4 : Int)) (ev_b (569 + 13 * Int.toNat x8) fun _ => ev_bd (jm_147 Q ((569 + 13 * Int.toNat x8)) ((((r2 - 1) + 12) + 1)) a1 s1) fun _ s11 => ev_b (s11.1 0 18) fun x12 => ev_ck (x12 + 1) fun x13 => ev_b (ev_pI s11 0 18 x13) fun s14 => ev_b (s14.1 0 18) fun x15 => ev_ck (x15 - 1) fun x16 => some (.inl x16, s14))) else (some (.inr "java/lang/IllegalStateException", ev_tick s1))))
theorem jt_195 (d : Nat) (hd : 7 ≤ d) (Q : Nat) (a0 : Int) (a1 : Int) (ha0 : ev_rng a0) (ha1 : ev_rng a1) (S : ev_St) (x : Int ⊕ String) (S' : ev_St) (hJ : jm_195 Q a0 a1 S = some (x, S')) : ev_Ref d 195 [.ref 0, .int (Int32.ofInt a0), .int (Int32.ofInt a1)] S (ev_eX x) S' (ev_PX x) := by
  obtain ⟨d, rfl⟩ : ∃ e, d = e + 1 := ⟨d - 1, by omega⟩
  refine ev_ref_of (P := ev_PX) (lv := [(0, .ref 0), (1, .int (Int32.ofInt a0)), (2, .int (Int32.ofInt a1))]) (by decide +kernel) (by (try simp only [ev_sum, ev_nv_cat]); first | done | rfl) (by (try simp only [lv_args, ev_nv_cat]); first | done | rfl) ?_ x S' hJ
  unfold jm_195
  refine ev_r_aload_n (pc := 0) (k := 0) (v := .ref 0) trivial (by decide +kernel) (by rfl) ?_
  refine ev_r_iload_n (pc := 1) (k := 1) (v := Int32.ofInt a0) (by decide +kernel) (by rfl) ?_
  refine ev_r_virt (pc := 2) (y := 156) (mi := 200) (na := 1) (k := 0) (as := [.int (Int32.ofInt a0)]) (rest := []) (encc := ev_oR) (Q := (fun r => r = 0 ∨ ev_isOb (r - 1) 5 = true)) (fun x S1 h => jt_200 d (by omega) Q a0 ha0 S x S1 h) (by exact ev_ob_0) (by decide +kernel) (by decide +kernel) (by decide +kernel) (by decide +kernel) rfl (by (try simp only [ev_sum, ev_nv_cat]); first | done | rfl) ?_
  intro r2 s1 hr2
  show ev_w _ _ _ _ _ [ev_nv r2] _ _ _ _
  refine ev_r_astore_n (pc := 5) (k := 3) (ev_isR_nv _) (by decide +kernel) (by decide +kernel) rfl ?_
  refine ev_r_aload_n (pc := 6) (k := 3) (v := ev_nv r2) (ev_isR_nv _) (by decide +kernel) (by exact ev_lk_st1_self) ?_
  refine ev_r_ifnonnull (pc := 7) (r := r2) (o := 13) (t := 20) (by decide +kernel) (by decide +kernel) ?_ ?_
  · intro c3
    refine ev_r_aload_n (pc := 20) (k := 3) (v := ev_nv r2) (ev_isR_nv _) (by decide +kernel) (by exact ev_lk_st1_self) ?_
    refine ev_r_dr (r := r2) (fun v => [v]) c3 ?_
    refine ev_r_getI (pc := 21) (y := 172) (ci := 5) (f := 15) (fin := 0) (by decide +kernel) (by decide +kernel) (by exact (hr2.resolve_left c3)) rfl ?_
    intro x4 hx4
    refine ev_r_if (pc := 24) (q := .eq) (o := 11) (t := 35) (c := x4 = 0) (by decide +kernel) (ev_k_eq hx4 ev_rng0) (by decide +kernel) ?_ ?_
    · intro c5
      exact ev_r_throw (pc := 35) (x := .inr "java/lang/IllegalStateException") (y := 109) (E := "java/lang/IllegalStateException") trivial (by decide +kernel) (by decide +kernel) (by decide +kernel) (Nat.ble_eq.mpr (by omega)) rfl
    · intro c5
      refine ev_r_aload_n (pc := 27) (k := 0) (v := .ref 0) trivial (by decide +kernel) (by exact (ev_l1 (by rfl) (by decide) (by decide))) ?_
      refine ev_r_getI (pc := 28) (y := 338) (ci := 12) (f := 18) (fin := 0) (by decide +kernel) (by decide +kernel) (by exact ev_ob_0) rfl ?_
      intro x6 hx6
      refine ev_r_iconst (pc := 31) (k := 4) (by decide +kernel) ?_
      refine ev_r_icmp (pc := 32) (q := .lt) (o := 14) (t := 46) (c := x6 < 4) (by decide +kernel) (ev_k_lt hx6 (by decide)) (by decide +kernel) ?_ ?_
      · intro c7
        refine ev_r_aload_n (pc := 46) (k := 0) (v := .ref 0) trivial (by decide +kernel) (by exact (ev_l1 (by rfl) (by decide) (by decide))) ?_
        refine ev_r_getC (pc := 47) (y := 89) (ci := 12) (f := 17) (fin := 1) (k' := 312) (by decide +kernel) (by decide +kernel) (by exact ev_ob_0) rfl rfl ?_
        refine ev_r_aload_n (pc := 50) (k := 0) (v := .ref 0) trivial (by decide +kernel) (by exact (ev_l1 (by rfl) (by decide) (by decide))) ?_
        refine ev_r_getI (pc := 51) (y := 338) (ci := 12) (f := 18) (fin := 0) (by decide +kernel) (by decide +kernel) (by exact ev_ob_0) rfl ?_
        intro x8 hx8
        refine ev_r_aald (pc := 54) (N := 4) (b := 569) (c := 13) (C := "MendBench$Stream") hx8 (by decide +kernel) (by decide +kernel) ?_
        intro c9
        refine ev_r_aload_n (pc := 55) (k := 3) (v := ev_nv r2) (ev_isR_nv _) (by decide +kernel) (by exact ev_lk_st1_self) ?_
        refine ev_r_dr (r := r2) (fun v => [v, .ref ((569 + 13 * Int.toNat x8))]) c3 ?_
        refine ev_r_getC (pc := 56) (y := 343) (ci := 5) (f := 13) (fin := 2) (k' := ((r2 - 1) + 12)) (by decide +kernel) (by decide +kernel) (by exact (hr2.resolve_left c3)) rfl rfl ?_
        refine ev_r_iload_n (pc := 59) (k := 2) (v := Int32.ofInt a1) (by decide +kernel) (by exact (ev_lk_st1 (by rfl) (by decide) rfl)) ?_
        refine ev_r_virt (pc := 60) (y := 347) (mi := 147) (na := 2) (k := (569 + 13 * Int.toNat x8)) (as := [ev_nv ((((r2 - 1) + 12) + 1)), .int (Int32.ofInt a1)]) (rest := []) (encc := ev_oU) (Q := ev_PU) (fun x S1 h => jt_147 d (by omega) Q ((569 + 13 * Int.toNat x8)) ((((r2 - 1) + 12) + 1)) a1 (ev_el_312 c9) (by exact (Or.inr (ev_fo_5_13 (hr2.resolve_left c3)))) ha1 s1 x S1 h) (by exact (ev_el_312 c9)) (by decide +kernel) (by decide +kernel) (by decide +kernel) (by decide +kernel) rfl (by (try simp only [ev_sum, ev_nv_cat]); first | done | rfl) ?_
        intro _ s11 _
        show ev_w _ _ _ _ _ [] _ _ _ _
        refine ev_r_aload_n (pc := 63) (k := 0) (v := .ref 0) trivial (by decide +kernel) (by exact (ev_l1 (by rfl) (by decide) (by decide))) ?_
        refine ev_r_dup (pc := 64) rfl (by decide +kernel) ?_
        refine ev_r_getI (pc := 65) (y := 338) (ci := 12) (f := 18) (fin := 0) (by decide +kernel) (by decide +kernel) (by exact ev_ob_0) rfl ?_
        intro x12 hx12
        refine ev_r_iconst (pc := 68) (k := 1) (by decide +kernel) ?_
        refine ev_r_iadd (pc := 69) (by decide +kernel) ?_
        intro x13 hx13
        refine ev_r_putI (pc := 70) (y := 338) (ci := 12) (f := 18) hx13 (by decide +kernel) (by decide +kernel) (by exact ev_ob_0) rfl rfl ?_
        intro s14
        refine ev_r_aload_n (pc := 73) (k := 0) (v := .ref 0) trivial (by decide +kernel) (by exact (ev_l1 (by rfl) (by decide) (by decide))) ?_
        refine ev_r_getI (pc := 74) (y := 338) (ci := 12) (f := 18) (fin := 0) (by decide +kernel) (by decide +kernel) (by exact ev_ob_0) rfl ?_
        intro x15 hx15
        refine ev_r_iconst (pc := 77) (k := 1) (by decide +kernel) ?_
        refine ev_r_isub (pc := 78) (by decide +kernel) ?_
        intro x16 hx16
        exact ev_r_ireturn (pc := 79) (x := .inl x16) (v := Int32.ofInt x16) (ty := .int) hx16 (by decide +kernel) (by decide +kernel) rfl rfl
      · intro c7
        exact ev_r_throw (pc := 35) (x := .inr "java/lang/IllegalStateException") (y := 109) (E := "java/lang/IllegalStateException") trivial (by decide +kernel) (by decide +kernel) (by decide +kernel) (Nat.ble_eq.mpr (by omega)) rfl
  · intro c3
    exact ev_r_throw (pc := 10) (x := .inr "java/lang/IndexOutOfBoundsException") (y := 160) (E := "java/lang/IndexOutOfBoundsException") trivial (by decide +kernel) (by decide +kernel) (by decide +kernel) (Nat.ble_eq.mpr (by omega)) rfl
/-- MendBench.streamAt(I)LMendBench$Stream; -/
def jm_202 (Q : Nat) (a0 : Int) (S : ev_St) : Option ((Nat) × ev_St) := if a0 < 0 then (some (0, S)) else (ev_b (S.1 0 18) fun x2 => if x2 ≤ a0 then (some (0, S)) else (if 4 ≤ a0 then (some (0, S)) else (ev_if ((0 : Int) ≤ a0 ∧ a0 < (4 : Int)) (ev_b (569 + 13 * Int.toNat a0) fun _ => some (((569 + 13 * Int.toNat a0)) + 1, S)))))
theorem jt_202 (d : Nat) (hd : 1 ≤ d) (Q : Nat) (a0 : Int) (ha0 : ev_rng a0) (S : ev_St) (x : Nat) (S' : ev_St) (hJ : jm_202 Q a0 S = some (x, S')) : ev_Ref d 202 [.ref 0, .int (Int32.ofInt a0)] S (ev_eR x) S' ((fun r => r = 0 ∨ ev_isOb (r - 1) 9 = true) x) := by
  obtain ⟨d, rfl⟩ : ∃ e, d = e + 1 := ⟨d - 1, by omega⟩
  refine ev_ref_of (P := (fun r => r = 0 ∨ ev_isOb (r - 1) 9 = true)) (lv := [(0, .ref 0), (1, .int (Int32.ofInt a0))]) (by decide +kernel) (by (try simp only [ev_sum, ev_nv_cat]); first | done | rfl) (by (try simp only [lv_args, ev_nv_cat]); first | done | rfl) ?_ x S' hJ
  unfold jm_202
  refine ev_r_iload_n (pc := 0) (k := 1) (v := Int32.ofInt a0) (by decide +kernel) (by rfl) ?_
  refine ev_r_if (pc := 1) (q := .lt) (o := 25) (t := 26) (c := a0 < 0) (by decide +kernel) (ev_k_lt ha0 ev_rng0) (by decide +kernel) ?_ ?_
  · intro c1
    refine ev_r_null (pc := 26) (by decide +kernel) ?_
    exact ev_r_areturn (pc := 27) (x := 0) (r := 0) (C := "MendBench$Stream") (Or.inl rfl) (by decide +kernel) (by decide +kernel) rfl
  · intro c1
    refine ev_r_iload_n (pc := 4) (k := 1) (v := Int32.ofInt a0) (by decide +kernel) (by rfl) ?_
    refine ev_r_aload_n (pc := 5) (k := 0) (v := .ref 0) trivial (by decide +kernel) (by rfl) ?_
    refine ev_r_getI (pc := 6) (y := 338) (ci := 12) (f := 18) (fin := 0) (by decide +kernel) (by decide +kernel) (by exact ev_ob_0) rfl ?_
    intro x2 hx2
    refine ev_r_icmp (pc := 9) (q := .ge) (o := 17) (t := 26) (c := x2 ≤ a0) (by decide +kernel) (ev_k_ge ha0 hx2) (by decide +kernel) ?_ ?_
    · intro c3
      refine ev_r_null (pc := 26) (by decide +kernel) ?_
      exact ev_r_areturn (pc := 27) (x := 0) (r := 0) (C := "MendBench$Stream") (Or.inl rfl) (by decide +kernel) (by decide +kernel) rfl
    · intro c3
      refine ev_r_iload_n (pc := 12) (k := 1) (v := Int32.ofInt a0) (by decide +kernel) (by rfl) ?_
      refine ev_r_iconst (pc := 13) (k := 4) (by decide +kernel) ?_
      refine ev_r_icmp (pc := 14) (q := .ge) (o := 12) (t := 26) (c := 4 ≤ a0) (by decide +kernel) (ev_k_ge ha0 (by decide)) (by decide +kernel) ?_ ?_
      · intro c4
        refine ev_r_null (pc := 26) (by decide +kernel) ?_
        exact ev_r_areturn (pc := 27) (x := 0) (r := 0) (C := "MendBench$Stream") (Or.inl rfl) (by decide +kernel) (by decide +kernel) rfl
      · intro c4
        refine ev_r_aload_n (pc := 17) (k := 0) (v := .ref 0) trivial (by decide +kernel) (by rfl) ?_
        refine ev_r_getC (pc := 18) (y := 89) (ci := 12) (f := 17) (fin := 1) (k' := 312) (by decide +kernel) (by decide +kernel) (by exact ev_ob_0) rfl rfl ?_
        refine ev_r_iload_n (pc := 21) (k := 1) (v := Int32.ofInt a0) (by decide +kernel) (by rfl) ?_
        refine ev_r_aald (pc := 22) (N := 4) (b := 569) (c := 13) (C := "MendBench$Stream") ha0 (by decide +kernel) (by decide +kernel) ?_
        intro c5
        refine ev_r_goto (pc := 23) (o := 4) (t := 27) (by decide +kernel) (by decide +kernel) ?_
        exact ev_r_areturn (pc := 27) (x := ((569 + 13 * Int.toNat a0)) + 1) (r := ((569 + 13 * Int.toNat a0)) + 1) (C := "MendBench$Stream") (Or.inr (ev_el_312 c5)) (by decide +kernel) (by decide +kernel) rfl
/-- MendBench.feed(I)I -/
def jm_196 (Q : Nat) (a0 : Int) (S : ev_St) : Option ((Int ⊕ String) × ev_St) := ev_bd (jm_202 Q a0 S) fun r2 s1 => if r2 = 0 then (some (.inr "java/lang/IndexOutOfBoundsException", ev_tick s1)) else (ev_b (s1.1 ((r2 - 1)) 3) fun x4 => if x4 ≠ 0 then (some (.inr "java/lang/IllegalStateException", ev_tick s1)) else (ev_b (s1.1 (((r2 - 1) + 1)) 1) fun x6 => ev_b (s1.1 1 1) fun x7 => ev_ck (x6 + x7) fun x8 => if x8 ≤ 80 then (ev_bd (jm_148 Q ((r2 - 1)) ((1 + 1)) s1) fun _ s10 => ev_b (ev_pI s10 1 1 0) fun s11 => ev_bd (jm_149 Q ((r2 - 1)) s11) fun x13 s12 => some (.inl x13, s12)) else (some (.inr "java/lang/IllegalStateException", ev_tick s1))))
theorem jt_196 (d : Nat) (hd : 7 ≤ d) (Q : Nat) (a0 : Int) (ha0 : ev_rng a0) (S : ev_St) (x : Int ⊕ String) (S' : ev_St) (hJ : jm_196 Q a0 S = some (x, S')) : ev_Ref d 196 [.ref 0, .int (Int32.ofInt a0)] S (ev_eX x) S' (ev_PX x) := by
  obtain ⟨d, rfl⟩ : ∃ e, d = e + 1 := ⟨d - 1, by omega⟩
  refine ev_ref_of (P := ev_PX) (lv := [(0, .ref 0), (1, .int (Int32.ofInt a0))]) (by decide +kernel) (by (try simp only [ev_sum, ev_nv_cat]); first | done | rfl) (by (try simp only [lv_args, ev_nv_cat]); first | done | rfl) ?_ x S' hJ
  unfold jm_196
  refine ev_r_aload_n (pc := 0) (k := 0) (v := .ref 0) trivial (by decide +kernel) (by rfl) ?_
  refine ev_r_iload_n (pc := 1) (k := 1) (v := Int32.ofInt a0) (by decide +kernel) (by rfl) ?_
  refine ev_r_virt (pc := 2) (y := 351) (mi := 202) (na := 1) (k := 0) (as := [.int (Int32.ofInt a0)]) (rest := []) (encc := ev_oR) (Q := (fun r => r = 0 ∨ ev_isOb (r - 1) 9 = true)) (fun x S1 h => jt_202 d (by omega) Q a0 ha0 S x S1 h) (by exact ev_ob_0) (by decide +kernel) (by decide +kernel) (by decide +kernel) (by decide +kernel) rfl (by (try simp only [ev_sum, ev_nv_cat]); first | done | rfl) ?_
  intro r2 s1 hr2
  show ev_w _ _ _ _ _ [ev_nv r2] _ _ _ _
  refine ev_r_astore_n (pc := 5) (k := 2) (ev_isR_nv _) (by decide +kernel) (by decide +kernel) rfl ?_
  refine ev_r_aload_n (pc := 6) (k := 2) (v := ev_nv r2) (ev_isR_nv _) (by decide +kernel) (by exact ev_lk_st1_self) ?_
  refine ev_r_ifnonnull (pc := 7) (r := r2) (o := 14) (t := 21) (by decide +kernel) (by decide +kernel) ?_ ?_
  · intro c3
    refine ev_r_aload_n (pc := 21) (k := 2) (v := ev_nv r2) (ev_isR_nv _) (by decide +kernel) (by exact ev_lk_st1_self) ?_
    refine ev_r_dr (r := r2) (fun v => [v]) c3 ?_
    refine ev_r_getI (pc := 22) (y := 357) (ci := 9) (f := 3) (fin := 0) (by decide +kernel) (by decide +kernel) (by exact (hr2.resolve_left c3)) rfl ?_
    intro x4 hx4
    refine ev_r_if (pc := 25) (q := .ne) (o := 23) (t := 48) (c := x4 ≠ 0) (by decide +kernel) (ev_k_ne hx4 ev_rng0) (by decide +kernel) ?_ ?_
    · intro c5
      exact ev_r_throw (pc := 48) (x := .inr "java/lang/IllegalStateException") (y := 109) (E := "java/lang/IllegalStateException") trivial (by decide +kernel) (by decide +kernel) (by decide +kernel) (Nat.ble_eq.mpr (by omega)) rfl
    · intro c5
      refine ev_r_aload_n (pc := 28) (k := 2) (v := ev_nv r2) (ev_isR_nv _) (by decide +kernel) (by exact ev_lk_st1_self) ?_
      refine ev_r_dr (r := r2) (fun v => [v]) c3 ?_
      refine ev_r_getC (pc := 29) (y := 360) (ci := 9) (f := 0) (fin := 2) (k' := ((r2 - 1) + 1)) (by decide +kernel) (by decide +kernel) (by exact (hr2.resolve_left c3)) rfl rfl ?_
      refine ev_r_getI (pc := 32) (y := 105) (ci := 10) (f := 1) (fin := 0) (by decide +kernel) (by decide +kernel) (by exact (ev_fo_9_0 (hr2.resolve_left c3))) rfl ?_
      intro x6 hx6
      refine ev_r_aload_n (pc := 35) (k := 0) (v := .ref 0) trivial (by decide +kernel) (by exact (ev_l1 (by rfl) (by decide) (by decide))) ?_
      refine ev_r_getC (pc := 36) (y := 12) (ci := 12) (f := 0) (fin := 1) (k' := 1) (by decide +kernel) (by decide +kernel) (by exact ev_ob_0) rfl rfl ?_
      refine ev_r_getI (pc := 39) (y := 105) (ci := 10) (f := 1) (fin := 0) (by decide +kernel) (by decide +kernel) (by exact ev_ob_1) rfl ?_
      intro x7 hx7
      refine ev_r_iadd (pc := 42) (by decide +kernel) ?_
      intro x8 hx8
      refine ev_r_bipush (pc := 43) (k := 80) (by decide +kernel) (by decide +kernel) ?_
      refine ev_r_icmp (pc := 45) (q := .le) (o := 14) (t := 59) (c := x8 ≤ 80) (by decide +kernel) (ev_k_le hx8 (by decide)) (by decide +kernel) ?_ ?_
      · intro c9
        refine ev_r_aload_n (pc := 59) (k := 2) (v := ev_nv r2) (ev_isR_nv _) (by decide +kernel) (by exact ev_lk_st1_self) ?_
        refine ev_r_aload_n (pc := 60) (k := 0) (v := .ref 0) trivial (by decide +kernel) (by exact (ev_l1 (by rfl) (by decide) (by decide))) ?_
        refine ev_r_getC (pc := 61) (y := 12) (ci := 12) (f := 0) (fin := 1) (k' := 1) (by decide +kernel) (by decide +kernel) (by exact ev_ob_0) rfl rfl ?_
        refine ev_r_dr (r := r2) (fun v => [.ref 1, v]) c3 ?_
        refine ev_r_virt (pc := 64) (y := 365) (mi := 148) (na := 1) (k := (r2 - 1)) (as := [ev_nv ((1 + 1))]) (rest := []) (encc := ev_oU) (Q := ev_PU) (fun x S1 h => jt_148 d (by omega) Q ((r2 - 1)) ((1 + 1)) (hr2.resolve_left c3) (by exact (Or.inr ev_ob_1)) s1 x S1 h) (by exact (hr2.resolve_left c3)) (by decide +kernel) (by decide +kernel) (by decide +kernel) (by decide +kernel) rfl (by (try simp only [ev_sum, ev_nv_cat]); first | done | rfl) ?_
        intro _ s10 _
        show ev_w _ _ _ _ _ [] _ _ _ _
        refine ev_r_aload_n (pc := 67) (k := 0) (v := .ref 0) trivial (by decide +kernel) (by exact (ev_l1 (by rfl) (by decide) (by decide))) ?_
        refine ev_r_getC (pc := 68) (y := 12) (ci := 12) (f := 0) (fin := 1) (k' := 1) (by decide +kernel) (by decide +kernel) (by exact ev_ob_0) rfl rfl ?_
        refine ev_r_iconst (pc := 71) (k := 0) (by decide +kernel) ?_
        refine ev_r_putI (pc := 72) (y := 105) (ci := 10) (f := 1) (by decide) (by decide +kernel) (by decide +kernel) (by exact ev_ob_1) rfl rfl ?_
        intro s11
        refine ev_r_aload_n (pc := 75) (k := 2) (v := ev_nv r2) (ev_isR_nv _) (by decide +kernel) (by exact ev_lk_st1_self) ?_
        refine ev_r_dr (r := r2) (fun v => [v]) c3 ?_
        refine ev_r_virt (pc := 76) (y := 368) (mi := 149) (na := 0) (k := (r2 - 1)) (as := []) (rest := []) (encc := ev_oI) (Q := ev_rng) (fun x S1 h => jt_149 d (by omega) Q ((r2 - 1)) (hr2.resolve_left c3) s11 x S1 h) (by exact (hr2.resolve_left c3)) (by decide +kernel) (by decide +kernel) (by decide +kernel) (by decide +kernel) rfl (by (try simp only [ev_sum, ev_nv_cat]); first | done | rfl) ?_
        intro x13 s12 hx13
        show ev_w _ _ _ _ _ [.int (Int32.ofInt x13)] _ _ _ _
        exact ev_r_ireturn (pc := 79) (x := .inl x13) (v := Int32.ofInt x13) (ty := .int) hx13 (by decide +kernel) (by decide +kernel) rfl rfl
      · intro c9
        exact ev_r_throw (pc := 48) (x := .inr "java/lang/IllegalStateException") (y := 109) (E := "java/lang/IllegalStateException") trivial (by decide +kernel) (by decide +kernel) (by decide +kernel) (Nat.ble_eq.mpr (by omega)) rfl
  · intro c3
    exact ev_r_throw (pc := 10) (x := .inr "java/lang/IndexOutOfBoundsException") (y := 160) (E := "java/lang/IndexOutOfBoundsException") trivial (by decide +kernel) (by decide +kernel) (by decide +kernel) (Nat.ble_eq.mpr (by omega)) rfl
/-- MendBench.finish(I)I -/
def jm_197 (Q : Nat) (a0 : Int) (S : ev_St) : Option ((Int ⊕ String) × ev_St) := ev_bd (jm_202 Q a0 S) fun r2 s1 => if r2 = 0 then (some (.inr "java/lang/IndexOutOfBoundsException", ev_tick s1)) else (ev_b (s1.1 ((r2 - 1)) 3) fun x4 => if x4 = 0 then (ev_b (ev_pI s1 ((r2 - 1)) 3 1) fun s6 => ev_bd (jm_149 Q ((r2 - 1)) s6) fun x8 s7 => some (.inl x8, s7)) else (some (.inr "java/lang/IllegalStateException", ev_tick s1)))
theorem jt_197 (d : Nat) (hd : 6 ≤ d) (Q : Nat) (a0 : Int) (ha0 : ev_rng a0) (S : ev_St) (x : Int ⊕ String) (S' : ev_St) (hJ : jm_197 Q a0 S = some (x, S')) : ev_Ref d 197 [.ref 0, .int (Int32.ofInt a0)] S (ev_eX x) S' (ev_PX x) := by
  obtain ⟨d, rfl⟩ : ∃ e, d = e + 1 := ⟨d - 1, by omega⟩
  refine ev_ref_of (P := ev_PX) (lv := [(0, .ref 0), (1, .int (Int32.ofInt a0))]) (by decide +kernel) (by (try simp only [ev_sum, ev_nv_cat]); first | done | rfl) (by (try simp only [lv_args, ev_nv_cat]); first | done | rfl) ?_ x S' hJ
  unfold jm_197
  refine ev_r_aload_n (pc := 0) (k := 0) (v := .ref 0) trivial (by decide +kernel) (by rfl) ?_
  refine ev_r_iload_n (pc := 1) (k := 1) (v := Int32.ofInt a0) (by decide +kernel) (by rfl) ?_
  refine ev_r_virt (pc := 2) (y := 351) (mi := 202) (na := 1) (k := 0) (as := [.int (Int32.ofInt a0)]) (rest := []) (encc := ev_oR) (Q := (fun r => r = 0 ∨ ev_isOb (r - 1) 9 = true)) (fun x S1 h => jt_202 d (by omega) Q a0 ha0 S x S1 h) (by exact ev_ob_0) (by decide +kernel) (by decide +kernel) (by decide +kernel) (by decide +kernel) rfl (by (try simp only [ev_sum, ev_nv_cat]); first | done | rfl) ?_
  intro r2 s1 hr2
  show ev_w _ _ _ _ _ [ev_nv r2] _ _ _ _
  refine ev_r_astore_n (pc := 5) (k := 2) (ev_isR_nv _) (by decide +kernel) (by decide +kernel) rfl ?_
  refine ev_r_aload_n (pc := 6) (k := 2) (v := ev_nv r2) (ev_isR_nv _) (by decide +kernel) (by exact ev_lk_st1_self) ?_
  refine ev_r_ifnonnull (pc := 7) (r := r2) (o := 14) (t := 21) (by decide +kernel) (by decide +kernel) ?_ ?_
  · intro c3
    refine ev_r_aload_n (pc := 21) (k := 2) (v := ev_nv r2) (ev_isR_nv _) (by decide +kernel) (by exact ev_lk_st1_self) ?_
    refine ev_r_dr (r := r2) (fun v => [v]) c3 ?_
    refine ev_r_getI (pc := 22) (y := 357) (ci := 9) (f := 3) (fin := 0) (by decide +kernel) (by decide +kernel) (by exact (hr2.resolve_left c3)) rfl ?_
    intro x4 hx4
    refine ev_r_if (pc := 25) (q := .eq) (o := 14) (t := 39) (c := x4 = 0) (by decide +kernel) (ev_k_eq hx4 ev_rng0) (by decide +kernel) ?_ ?_
    · intro c5
      refine ev_r_aload_n (pc := 39) (k := 2) (v := ev_nv r2) (ev_isR_nv _) (by decide +kernel) (by exact ev_lk_st1_self) ?_
      refine ev_r_iconst (pc := 40) (k := 1) (by decide +kernel) ?_
      refine ev_r_dr (r := r2) (fun v => [.int (Int32.ofInt 1), v]) c3 ?_
      refine ev_r_putI (pc := 41) (y := 357) (ci := 9) (f := 3) (by decide) (by decide +kernel) (by decide +kernel) (by exact (hr2.resolve_left c3)) rfl (ev_fit_bl (by decide : ev_bl 1)) ?_
      intro s6
      refine ev_r_aload_n (pc := 44) (k := 2) (v := ev_nv r2) (ev_isR_nv _) (by decide +kernel) (by exact ev_lk_st1_self) ?_
      refine ev_r_dr (r := r2) (fun v => [v]) c3 ?_
      refine ev_r_virt (pc := 45) (y := 368) (mi := 149) (na := 0) (k := (r2 - 1)) (as := []) (rest := []) (encc := ev_oI) (Q := ev_rng) (fun x S1 h => jt_149 d (by omega) Q ((r2 - 1)) (hr2.resolve_left c3) s6 x S1 h) (by exact (hr2.resolve_left c3)) (by decide +kernel) (by decide +kernel) (by decide +kernel) (by decide +kernel) rfl (by (try simp only [ev_sum, ev_nv_cat]); first | done | rfl) ?_
      intro x8 s7 hx8
      show ev_w _ _ _ _ _ [.int (Int32.ofInt x8)] _ _ _ _
      exact ev_r_ireturn (pc := 48) (x := .inl x8) (v := Int32.ofInt x8) (ty := .int) hx8 (by decide +kernel) (by decide +kernel) rfl rfl
    · intro c5
      exact ev_r_throw (pc := 28) (x := .inr "java/lang/IllegalStateException") (y := 109) (E := "java/lang/IllegalStateException") trivial (by decide +kernel) (by decide +kernel) (by decide +kernel) (Nat.ble_eq.mpr (by omega)) rfl
  · intro c3
    exact ev_r_throw (pc := 10) (x := .inr "java/lang/IndexOutOfBoundsException") (y := 160) (E := "java/lang/IndexOutOfBoundsException") trivial (by decide +kernel) (by decide +kernel) (by decide +kernel) (Nat.ble_eq.mpr (by omega)) rfl
/-- MendBench.told(I)I -/
def jm_198 (Q : Nat) (a0 : Int) (S : ev_St) : Option ((Int ⊕ String) × ev_St) := ev_bd (jm_202 Q a0 S) fun r2 s1 => if r2 = 0 then (some (.inr "java/lang/IndexOutOfBoundsException", ev_tick s1)) else (ev_bd (jm_149 Q ((r2 - 1)) s1) fun x5 s4 => some (.inl x5, s4))
theorem jt_198 (d : Nat) (hd : 6 ≤ d) (Q : Nat) (a0 : Int) (ha0 : ev_rng a0) (S : ev_St) (x : Int ⊕ String) (S' : ev_St) (hJ : jm_198 Q a0 S = some (x, S')) : ev_Ref d 198 [.ref 0, .int (Int32.ofInt a0)] S (ev_eX x) S' (ev_PX x) := by
  obtain ⟨d, rfl⟩ : ∃ e, d = e + 1 := ⟨d - 1, by omega⟩
  refine ev_ref_of (P := ev_PX) (lv := [(0, .ref 0), (1, .int (Int32.ofInt a0))]) (by decide +kernel) (by (try simp only [ev_sum, ev_nv_cat]); first | done | rfl) (by (try simp only [lv_args, ev_nv_cat]); first | done | rfl) ?_ x S' hJ
  unfold jm_198
  refine ev_r_aload_n (pc := 0) (k := 0) (v := .ref 0) trivial (by decide +kernel) (by rfl) ?_
  refine ev_r_iload_n (pc := 1) (k := 1) (v := Int32.ofInt a0) (by decide +kernel) (by rfl) ?_
  refine ev_r_virt (pc := 2) (y := 351) (mi := 202) (na := 1) (k := 0) (as := [.int (Int32.ofInt a0)]) (rest := []) (encc := ev_oR) (Q := (fun r => r = 0 ∨ ev_isOb (r - 1) 9 = true)) (fun x S1 h => jt_202 d (by omega) Q a0 ha0 S x S1 h) (by exact ev_ob_0) (by decide +kernel) (by decide +kernel) (by decide +kernel) (by decide +kernel) rfl (by (try simp only [ev_sum, ev_nv_cat]); first | done | rfl) ?_
  intro r2 s1 hr2
  show ev_w _ _ _ _ _ [ev_nv r2] _ _ _ _
  refine ev_r_astore_n (pc := 5) (k := 2) (ev_isR_nv _) (by decide +kernel) (by decide +kernel) rfl ?_
  refine ev_r_aload_n (pc := 6) (k := 2) (v := ev_nv r2) (ev_isR_nv _) (by decide +kernel) (by exact ev_lk_st1_self) ?_
  refine ev_r_ifnonnull (pc := 7) (r := r2) (o := 14) (t := 21) (by decide +kernel) (by decide +kernel) ?_ ?_
  · intro c3
    refine ev_r_aload_n (pc := 21) (k := 2) (v := ev_nv r2) (ev_isR_nv _) (by decide +kernel) (by exact ev_lk_st1_self) ?_
    refine ev_r_dr (r := r2) (fun v => [v]) c3 ?_
    refine ev_r_virt (pc := 22) (y := 368) (mi := 149) (na := 0) (k := (r2 - 1)) (as := []) (rest := []) (encc := ev_oI) (Q := ev_rng) (fun x S1 h => jt_149 d (by omega) Q ((r2 - 1)) (hr2.resolve_left c3) s1 x S1 h) (by exact (hr2.resolve_left c3)) (by decide +kernel) (by decide +kernel) (by decide +kernel) (by decide +kernel) rfl (by (try simp only [ev_sum, ev_nv_cat]); first | done | rfl) ?_
    intro x5 s4 hx5
    show ev_w _ _ _ _ _ [.int (Int32.ofInt x5)] _ _ _ _
    exact ev_r_ireturn (pc := 25) (x := .inl x5) (v := Int32.ofInt x5) (ty := .int) hx5 (by decide +kernel) (by decide +kernel) rfl rfl
  · intro c3
    exact ev_r_throw (pc := 10) (x := .inr "java/lang/IndexOutOfBoundsException") (y := 160) (E := "java/lang/IndexOutOfBoundsException") trivial (by decide +kernel) (by decide +kernel) (by decide +kernel) (Nat.ble_eq.mpr (by omega)) rfl
/-- MendBenchModel.thrown()I -/
def jm_220 (Q : Nat)  (S : ev_St) : Option ((Int) × ev_St) := ev_b (S.1 621 0) fun x1 => some (x1, S)
theorem jt_220 (d : Nat) (hd : 1 ≤ d) (Q : Nat)   (S : ev_St) (x : Int) (S' : ev_St) (hJ : jm_220 Q  S = some (x, S')) : ev_Ref d 220 [.ref 621] S (ev_eI x) S' (ev_rng x) := by
  obtain ⟨d, rfl⟩ : ∃ e, d = e + 1 := ⟨d - 1, by omega⟩
  refine ev_ref_of (P := ev_rng) (lv := [(0, .ref 621)]) (by decide +kernel) (by (try simp only [ev_sum, ev_nv_cat]); first | done | rfl) (by (try simp only [lv_args, ev_nv_cat]); first | done | rfl) ?_ x S' hJ
  unfold jm_220
  refine ev_r_aload_n (pc := 0) (k := 0) (v := .ref 621) trivial (by decide +kernel) (by rfl) ?_
  refine ev_r_getI (pc := 1) (y := 321) (ci := 13) (f := 0) (fin := 0) (by decide +kernel) (by decide +kernel) (by exact ev_ob_621) rfl ?_
  intro x1 hx1
  exact ev_r_ireturn (pc := 4) (x := x1) (v := Int32.ofInt x1) (ty := .int) hx1 (by decide +kernel) (by decide +kernel) rfl rfl
/-- MendBenchModel.fails(I)I -/
def jm_221 (Q : Nat) (a0 : Int) (S : ev_St) : Option ((Int) × ev_St) := ev_b (ev_pI S 621 0 a0) fun s1 => some (0, s1)
theorem jt_221 (d : Nat) (hd : 1 ≤ d) (Q : Nat) (a0 : Int) (ha0 : ev_rng a0) (S : ev_St) (x : Int) (S' : ev_St) (hJ : jm_221 Q a0 S = some (x, S')) : ev_Ref d 221 [.ref 621, .int (Int32.ofInt a0)] S (ev_eI x) S' (ev_rng x) := by
  obtain ⟨d, rfl⟩ : ∃ e, d = e + 1 := ⟨d - 1, by omega⟩
  refine ev_ref_of (P := ev_rng) (lv := [(0, .ref 621), (1, .int (Int32.ofInt a0))]) (by decide +kernel) (by (try simp only [ev_sum, ev_nv_cat]); first | done | rfl) (by (try simp only [lv_args, ev_nv_cat]); first | done | rfl) ?_ x S' hJ
  unfold jm_221
  refine ev_r_aload_n (pc := 0) (k := 0) (v := .ref 621) trivial (by decide +kernel) (by rfl) ?_
  refine ev_r_iload_n (pc := 1) (k := 1) (v := Int32.ofInt a0) (by decide +kernel) (by rfl) ?_
  refine ev_r_putI (pc := 2) (y := 321) (ci := 13) (f := 0) ha0 (by decide +kernel) (by decide +kernel) (by exact ev_ob_621) rfl rfl ?_
  intro s1
  refine ev_r_iconst (pc := 5) (k := 0) (by decide +kernel) ?_
  exact ev_r_ireturn (pc := 6) (x := 0) (v := Int32.ofInt 0) (ty := .int) (by decide) (by decide +kernel) (by decide +kernel) rfl rfl
/-- MendBenchModel.in(III)Z -/
def jm_222 (Q : Nat) (a0 : Int) (a1 : Int) (a2 : Int) (S : ev_St) : Option ((Int) × ev_St) := if a0 < a1 then (some (0, S)) else (if a2 < a0 then (some (0, S)) else (some (1, S)))
theorem jt_222 (d : Nat) (hd : 1 ≤ d) (Q : Nat) (a0 : Int) (a1 : Int) (a2 : Int) (ha0 : ev_rng a0) (ha1 : ev_rng a1) (ha2 : ev_rng a2) (S : ev_St) (x : Int) (S' : ev_St) (hJ : jm_222 Q a0 a1 a2 S = some (x, S')) : ev_Ref d 222 [.int (Int32.ofInt a0), .int (Int32.ofInt a1), .int (Int32.ofInt a2)] S (ev_eI x) S' (ev_bl x) := by
  obtain ⟨d, rfl⟩ : ∃ e, d = e + 1 := ⟨d - 1, by omega⟩
  refine ev_ref_of (P := ev_bl) (lv := [(0, .int (Int32.ofInt a0)), (1, .int (Int32.ofInt a1)), (2, .int (Int32.ofInt a2))]) (by decide +kernel) (by (try simp only [ev_sum, ev_nv_cat]); first | done | rfl) (by (try simp only [lv_args, ev_nv_cat]); first | done | rfl) ?_ x S' hJ
  unfold jm_222
  refine ev_r_iload_n (pc := 0) (k := 0) (v := Int32.ofInt a0) (by decide +kernel) (by rfl) ?_
  refine ev_r_iload_n (pc := 1) (k := 1) (v := Int32.ofInt a1) (by decide +kernel) (by rfl) ?_
  refine ev_r_icmp (pc := 2) (q := .lt) (o := 12) (t := 14) (c := a0 < a1) (by decide +kernel) (ev_k_lt ha0 ha1) (by decide +kernel) ?_ ?_
  · intro c1
    refine ev_r_iconst (pc := 14) (k := 0) (by decide +kernel) ?_
    exact ev_r_ireturn (pc := 15) (x := 0) (v := Int32.ofInt 0) (ty := .boolean) (by decide : ev_bl 0) (by decide +kernel) (by decide +kernel) (ev_ret_bl (by decide : ev_bl 0)) rfl
  · intro c1
    refine ev_r_iload_n (pc := 5) (k := 0) (v := Int32.ofInt a0) (by decide +kernel) (by rfl) ?_
    refine ev_r_iload_n (pc := 6) (k := 2) (v := Int32.ofInt a2) (by decide +kernel) (by rfl) ?_
    refine ev_r_icmp (pc := 7) (q := .gt) (o := 7) (t := 14) (c := a2 < a0) (by decide +kernel) (ev_k_gt ha0 ha2) (by decide +kernel) ?_ ?_
    · intro c2
      refine ev_r_iconst (pc := 14) (k := 0) (by decide +kernel) ?_
      exact ev_r_ireturn (pc := 15) (x := 0) (v := Int32.ofInt 0) (ty := .boolean) (by decide : ev_bl 0) (by decide +kernel) (by decide +kernel) (ev_ret_bl (by decide : ev_bl 0)) rfl
    · intro c2
      refine ev_r_iconst (pc := 10) (k := 1) (by decide +kernel) ?_
      refine ev_r_goto (pc := 11) (o := 4) (t := 15) (by decide +kernel) (by decide +kernel) ?_
      exact ev_r_ireturn (pc := 15) (x := 1) (v := Int32.ofInt 1) (ty := .boolean) (by decide : ev_bl 1) (by decide +kernel) (by decide +kernel) (ev_ret_bl (by decide : ev_bl 1)) rfl
/-- MendBenchModel.isSign(I)Z -/
def jm_223 (Q : Nat) (a0 : Int) (S : ev_St) : Option ((Int) × ev_St) := if a0 = 10 then (some (1, S)) else (ev_bd (jm_222 Q a0 32 126 S) fun x3 s2 => if x3 = 0 then (some (0, s2)) else (some (1, s2)))
theorem jt_223 (d : Nat) (hd : 2 ≤ d) (Q : Nat) (a0 : Int) (ha0 : ev_rng a0) (S : ev_St) (x : Int) (S' : ev_St) (hJ : jm_223 Q a0 S = some (x, S')) : ev_Ref d 223 [.int (Int32.ofInt a0)] S (ev_eI x) S' (ev_bl x) := by
  obtain ⟨d, rfl⟩ : ∃ e, d = e + 1 := ⟨d - 1, by omega⟩
  refine ev_ref_of (P := ev_bl) (lv := [(0, .int (Int32.ofInt a0))]) (by decide +kernel) (by (try simp only [ev_sum, ev_nv_cat]); first | done | rfl) (by (try simp only [lv_args, ev_nv_cat]); first | done | rfl) ?_ x S' hJ
  unfold jm_223
  refine ev_r_iload_n (pc := 0) (k := 0) (v := Int32.ofInt a0) (by decide +kernel) (by rfl) ?_
  refine ev_r_bipush (pc := 1) (k := 10) (by decide +kernel) (by decide +kernel) ?_
  refine ev_r_icmp (pc := 3) (q := .eq) (o := 14) (t := 17) (c := a0 = 10) (by decide +kernel) (ev_k_eq ha0 (by decide)) (by decide +kernel) ?_ ?_
  · intro c1
    refine ev_r_iconst (pc := 17) (k := 1) (by decide +kernel) ?_
    refine ev_r_goto (pc := 18) (o := 4) (t := 22) (by decide +kernel) (by decide +kernel) ?_
    exact ev_r_ireturn (pc := 22) (x := 1) (v := Int32.ofInt 1) (ty := .boolean) (by decide : ev_bl 1) (by decide +kernel) (by decide +kernel) (ev_ret_bl (by decide : ev_bl 1)) rfl
  · intro c1
    refine ev_r_iload_n (pc := 6) (k := 0) (v := Int32.ofInt a0) (by decide +kernel) (by rfl) ?_
    refine ev_r_bipush (pc := 7) (k := 32) (by decide +kernel) (by decide +kernel) ?_
    refine ev_r_bipush (pc := 9) (k := 126) (by decide +kernel) (by decide +kernel) ?_
    refine ev_r_stat (pc := 11) (y := 325) (kind := 2) (mi := 222) (na := 3) (as := [.int (Int32.ofInt a0), .int (Int32.ofInt 32), .int (Int32.ofInt 126)]) (rest := []) (encc := ev_oI) (Q := ev_bl) (fun x S1 h => jt_222 d (by omega) Q a0 32 126 ha0 (by decide) (by decide) S x S1 h) (Or.inl rfl) (by decide +kernel) (by decide +kernel) (by decide +kernel) (by decide +kernel) rfl (by (try simp only [ev_sum, ev_nv_cat]); first | done | rfl) ?_
    intro x3 s2 hx3
    replace hx3 := ev_bl_rng hx3
    show ev_w _ _ _ _ _ [.int (Int32.ofInt x3)] _ _ _ _
    refine ev_r_if (pc := 14) (q := .eq) (o := 7) (t := 21) (c := x3 = 0) (by decide +kernel) (ev_k_eq hx3 ev_rng0) (by decide +kernel) ?_ ?_
    · intro c4
      refine ev_r_iconst (pc := 21) (k := 0) (by decide +kernel) ?_
      exact ev_r_ireturn (pc := 22) (x := 0) (v := Int32.ofInt 0) (ty := .boolean) (by decide : ev_bl 0) (by decide +kernel) (by decide +kernel) (ev_ret_bl (by decide : ev_bl 0)) rfl
    · intro c4
      refine ev_r_iconst (pc := 17) (k := 1) (by decide +kernel) ?_
      refine ev_r_goto (pc := 18) (o := 4) (t := 22) (by decide +kernel) (by decide +kernel) ?_
      exact ev_r_ireturn (pc := 22) (x := 1) (v := Int32.ofInt 1) (ty := .boolean) (by decide : ev_bl 1) (by decide +kernel) (by decide +kernel) (ev_ret_bl (by decide : ev_bl 1)) rfl
/-- MendBenchModel.isLower(I)Z -/
def jm_224 (Q : Nat) (a0 : Int) (S : ev_St) : Option ((Int) × ev_St) := ev_bd (jm_222 Q a0 97 122 S) fun x2 s1 => ev_if (ev_bl x2) (some (x2, s1))
theorem jt_224 (d : Nat) (hd : 2 ≤ d) (Q : Nat) (a0 : Int) (ha0 : ev_rng a0) (S : ev_St) (x : Int) (S' : ev_St) (hJ : jm_224 Q a0 S = some (x, S')) : ev_Ref d 224 [.int (Int32.ofInt a0)] S (ev_eI x) S' (ev_bl x) := by
  obtain ⟨d, rfl⟩ : ∃ e, d = e + 1 := ⟨d - 1, by omega⟩
  refine ev_ref_of (P := ev_bl) (lv := [(0, .int (Int32.ofInt a0))]) (by decide +kernel) (by (try simp only [ev_sum, ev_nv_cat]); first | done | rfl) (by (try simp only [lv_args, ev_nv_cat]); first | done | rfl) ?_ x S' hJ
  unfold jm_224
  refine ev_r_iload_n (pc := 0) (k := 0) (v := Int32.ofInt a0) (by decide +kernel) (by rfl) ?_
  refine ev_r_bipush (pc := 1) (k := 97) (by decide +kernel) (by decide +kernel) ?_
  refine ev_r_bipush (pc := 3) (k := 122) (by decide +kernel) (by decide +kernel) ?_
  refine ev_r_stat (pc := 5) (y := 325) (kind := 2) (mi := 222) (na := 3) (as := [.int (Int32.ofInt a0), .int (Int32.ofInt 97), .int (Int32.ofInt 122)]) (rest := []) (encc := ev_oI) (Q := ev_bl) (fun x S1 h => jt_222 d (by omega) Q a0 97 122 ha0 (by decide) (by decide) S x S1 h) (Or.inl rfl) (by decide +kernel) (by decide +kernel) (by decide +kernel) (by decide +kernel) rfl (by (try simp only [ev_sum, ev_nv_cat]); first | done | rfl) ?_
  intro x2 s1 hx2
  replace hx2 := ev_bl_rng hx2
  show ev_w _ _ _ _ _ [.int (Int32.ofInt x2)] _ _ _ _
  refine ev_r_chk ?_
  intro c3
  exact ev_r_ireturn (pc := 8) (x := x2) (v := Int32.ofInt x2) (ty := .boolean) c3 (by decide +kernel) (by decide +kernel) (ev_ret_bl c3) rfl
/-- MendBenchModel.isLetter(I)Z -/
def jm_225 (Q : Nat) (a0 : Int) (S : ev_St) : Option ((Int) × ev_St) := ev_bd (jm_224 Q a0 S) fun x2 s1 => if x2 ≠ 0 then (some (1, s1)) else (ev_bd (jm_222 Q a0 65 90 s1) fun x5 s4 => if x5 = 0 then (some (0, s4)) else (some (1, s4)))
theorem jt_225 (d : Nat) (hd : 3 ≤ d) (Q : Nat) (a0 : Int) (ha0 : ev_rng a0) (S : ev_St) (x : Int) (S' : ev_St) (hJ : jm_225 Q a0 S = some (x, S')) : ev_Ref d 225 [.int (Int32.ofInt a0)] S (ev_eI x) S' (ev_bl x) := by
  obtain ⟨d, rfl⟩ : ∃ e, d = e + 1 := ⟨d - 1, by omega⟩
  refine ev_ref_of (P := ev_bl) (lv := [(0, .int (Int32.ofInt a0))]) (by decide +kernel) (by (try simp only [ev_sum, ev_nv_cat]); first | done | rfl) (by (try simp only [lv_args, ev_nv_cat]); first | done | rfl) ?_ x S' hJ
  unfold jm_225
  refine ev_r_iload_n (pc := 0) (k := 0) (v := Int32.ofInt a0) (by decide +kernel) (by rfl) ?_
  refine ev_r_stat (pc := 1) (y := 329) (kind := 2) (mi := 224) (na := 1) (as := [.int (Int32.ofInt a0)]) (rest := []) (encc := ev_oI) (Q := ev_bl) (fun x S1 h => jt_224 d (by omega) Q a0 ha0 S x S1 h) (Or.inl rfl) (by decide +kernel) (by decide +kernel) (by decide +kernel) (by decide +kernel) rfl (by (try simp only [ev_sum, ev_nv_cat]); first | done | rfl) ?_
  intro x2 s1 hx2
  replace hx2 := ev_bl_rng hx2
  show ev_w _ _ _ _ _ [.int (Int32.ofInt x2)] _ _ _ _
  refine ev_r_if (pc := 4) (q := .ne) (o := 14) (t := 18) (c := x2 ≠ 0) (by decide +kernel) (ev_k_ne hx2 ev_rng0) (by decide +kernel) ?_ ?_
  · intro c3
    refine ev_r_iconst (pc := 18) (k := 1) (by decide +kernel) ?_
    refine ev_r_goto (pc := 19) (o := 4) (t := 23) (by decide +kernel) (by decide +kernel) ?_
    exact ev_r_ireturn (pc := 23) (x := 1) (v := Int32.ofInt 1) (ty := .boolean) (by decide : ev_bl 1) (by decide +kernel) (by decide +kernel) (ev_ret_bl (by decide : ev_bl 1)) rfl
  · intro c3
    refine ev_r_iload_n (pc := 7) (k := 0) (v := Int32.ofInt a0) (by decide +kernel) (by rfl) ?_
    refine ev_r_bipush (pc := 8) (k := 65) (by decide +kernel) (by decide +kernel) ?_
    refine ev_r_bipush (pc := 10) (k := 90) (by decide +kernel) (by decide +kernel) ?_
    refine ev_r_stat (pc := 12) (y := 325) (kind := 2) (mi := 222) (na := 3) (as := [.int (Int32.ofInt a0), .int (Int32.ofInt 65), .int (Int32.ofInt 90)]) (rest := []) (encc := ev_oI) (Q := ev_bl) (fun x S1 h => jt_222 d (by omega) Q a0 65 90 ha0 (by decide) (by decide) s1 x S1 h) (Or.inl rfl) (by decide +kernel) (by decide +kernel) (by decide +kernel) (by decide +kernel) rfl (by (try simp only [ev_sum, ev_nv_cat]); first | done | rfl) ?_
    intro x5 s4 hx5
    replace hx5 := ev_bl_rng hx5
    show ev_w _ _ _ _ _ [.int (Int32.ofInt x5)] _ _ _ _
    refine ev_r_if (pc := 15) (q := .eq) (o := 7) (t := 22) (c := x5 = 0) (by decide +kernel) (ev_k_eq hx5 ev_rng0) (by decide +kernel) ?_ ?_
    · intro c6
      refine ev_r_iconst (pc := 22) (k := 0) (by decide +kernel) ?_
      exact ev_r_ireturn (pc := 23) (x := 0) (v := Int32.ofInt 0) (ty := .boolean) (by decide : ev_bl 0) (by decide +kernel) (by decide +kernel) (ev_ret_bl (by decide : ev_bl 0)) rfl
    · intro c6
      refine ev_r_iconst (pc := 18) (k := 1) (by decide +kernel) ?_
      refine ev_r_goto (pc := 19) (o := 4) (t := 23) (by decide +kernel) (by decide +kernel) ?_
      exact ev_r_ireturn (pc := 23) (x := 1) (v := Int32.ofInt 1) (ty := .boolean) (by decide : ev_bl 1) (by decide +kernel) (by decide +kernel) (ev_ret_bl (by decide : ev_bl 1)) rfl
/-- MendBenchModel.isDigit(I)Z -/
def jm_226 (Q : Nat) (a0 : Int) (S : ev_St) : Option ((Int) × ev_St) := ev_bd (jm_222 Q a0 48 57 S) fun x2 s1 => ev_if (ev_bl x2) (some (x2, s1))
theorem jt_226 (d : Nat) (hd : 2 ≤ d) (Q : Nat) (a0 : Int) (ha0 : ev_rng a0) (S : ev_St) (x : Int) (S' : ev_St) (hJ : jm_226 Q a0 S = some (x, S')) : ev_Ref d 226 [.int (Int32.ofInt a0)] S (ev_eI x) S' (ev_bl x) := by
  obtain ⟨d, rfl⟩ : ∃ e, d = e + 1 := ⟨d - 1, by omega⟩
  refine ev_ref_of (P := ev_bl) (lv := [(0, .int (Int32.ofInt a0))]) (by decide +kernel) (by (try simp only [ev_sum, ev_nv_cat]); first | done | rfl) (by (try simp only [lv_args, ev_nv_cat]); first | done | rfl) ?_ x S' hJ
  unfold jm_226
  refine ev_r_iload_n (pc := 0) (k := 0) (v := Int32.ofInt a0) (by decide +kernel) (by rfl) ?_
  refine ev_r_bipush (pc := 1) (k := 48) (by decide +kernel) (by decide +kernel) ?_
  refine ev_r_bipush (pc := 3) (k := 57) (by decide +kernel) (by decide +kernel) ?_
  refine ev_r_stat (pc := 5) (y := 325) (kind := 2) (mi := 222) (na := 3) (as := [.int (Int32.ofInt a0), .int (Int32.ofInt 48), .int (Int32.ofInt 57)]) (rest := []) (encc := ev_oI) (Q := ev_bl) (fun x S1 h => jt_222 d (by omega) Q a0 48 57 ha0 (by decide) (by decide) S x S1 h) (Or.inl rfl) (by decide +kernel) (by decide +kernel) (by decide +kernel) (by decide +kernel) rfl (by (try simp only [ev_sum, ev_nv_cat]); first | done | rfl) ?_
  intro x2 s1 hx2
  replace hx2 := ev_bl_rng hx2
  show ev_w _ _ _ _ _ [.int (Int32.ofInt x2)] _ _ _ _
  refine ev_r_chk ?_
  intro c3
  exact ev_r_ireturn (pc := 8) (x := x2) (v := Int32.ofInt x2) (ty := .boolean) c3 (by decide +kernel) (by decide +kernel) (ev_ret_bl c3) rfl
/-- MendBenchModel.isWord(I)Z -/
def jm_227 (Q : Nat) (a0 : Int) (S : ev_St) : Option ((Int) × ev_St) := ev_bd (jm_225 Q a0 S) fun x2 s1 => if x2 ≠ 0 then (some (1, s1)) else (ev_bd (jm_226 Q a0 s1) fun x5 s4 => if x5 ≠ 0 then (some (1, s4)) else (if a0 ≠ 95 then (some (0, s4)) else (some (1, s4))))
theorem jt_227 (d : Nat) (hd : 4 ≤ d) (Q : Nat) (a0 : Int) (ha0 : ev_rng a0) (S : ev_St) (x : Int) (S' : ev_St) (hJ : jm_227 Q a0 S = some (x, S')) : ev_Ref d 227 [.int (Int32.ofInt a0)] S (ev_eI x) S' (ev_bl x) := by
  obtain ⟨d, rfl⟩ : ∃ e, d = e + 1 := ⟨d - 1, by omega⟩
  refine ev_ref_of (P := ev_bl) (lv := [(0, .int (Int32.ofInt a0))]) (by decide +kernel) (by (try simp only [ev_sum, ev_nv_cat]); first | done | rfl) (by (try simp only [lv_args, ev_nv_cat]); first | done | rfl) ?_ x S' hJ
  unfold jm_227
  refine ev_r_iload_n (pc := 0) (k := 0) (v := Int32.ofInt a0) (by decide +kernel) (by rfl) ?_
  refine ev_r_stat (pc := 1) (y := 333) (kind := 2) (mi := 225) (na := 1) (as := [.int (Int32.ofInt a0)]) (rest := []) (encc := ev_oI) (Q := ev_bl) (fun x S1 h => jt_225 d (by omega) Q a0 ha0 S x S1 h) (Or.inl rfl) (by decide +kernel) (by decide +kernel) (by decide +kernel) (by decide +kernel) rfl (by (try simp only [ev_sum, ev_nv_cat]); first | done | rfl) ?_
  intro x2 s1 hx2
  replace hx2 := ev_bl_rng hx2
  show ev_w _ _ _ _ _ [.int (Int32.ofInt x2)] _ _ _ _
  refine ev_r_if (pc := 4) (q := .ne) (o := 16) (t := 20) (c := x2 ≠ 0) (by decide +kernel) (ev_k_ne hx2 ev_rng0) (by decide +kernel) ?_ ?_
  · intro c3
    refine ev_r_iconst (pc := 20) (k := 1) (by decide +kernel) ?_
    refine ev_r_goto (pc := 21) (o := 4) (t := 25) (by decide +kernel) (by decide +kernel) ?_
    exact ev_r_ireturn (pc := 25) (x := 1) (v := Int32.ofInt 1) (ty := .boolean) (by decide : ev_bl 1) (by decide +kernel) (by decide +kernel) (ev_ret_bl (by decide : ev_bl 1)) rfl
  · intro c3
    refine ev_r_iload_n (pc := 7) (k := 0) (v := Int32.ofInt a0) (by decide +kernel) (by rfl) ?_
    refine ev_r_stat (pc := 8) (y := 336) (kind := 2) (mi := 226) (na := 1) (as := [.int (Int32.ofInt a0)]) (rest := []) (encc := ev_oI) (Q := ev_bl) (fun x S1 h => jt_226 d (by omega) Q a0 ha0 s1 x S1 h) (Or.inl rfl) (by decide +kernel) (by decide +kernel) (by decide +kernel) (by decide +kernel) rfl (by (try simp only [ev_sum, ev_nv_cat]); first | done | rfl) ?_
    intro x5 s4 hx5
    replace hx5 := ev_bl_rng hx5
    show ev_w _ _ _ _ _ [.int (Int32.ofInt x5)] _ _ _ _
    refine ev_r_if (pc := 11) (q := .ne) (o := 9) (t := 20) (c := x5 ≠ 0) (by decide +kernel) (ev_k_ne hx5 ev_rng0) (by decide +kernel) ?_ ?_
    · intro c6
      refine ev_r_iconst (pc := 20) (k := 1) (by decide +kernel) ?_
      refine ev_r_goto (pc := 21) (o := 4) (t := 25) (by decide +kernel) (by decide +kernel) ?_
      exact ev_r_ireturn (pc := 25) (x := 1) (v := Int32.ofInt 1) (ty := .boolean) (by decide : ev_bl 1) (by decide +kernel) (by decide +kernel) (ev_ret_bl (by decide : ev_bl 1)) rfl
    · intro c6
      refine ev_r_iload_n (pc := 14) (k := 0) (v := Int32.ofInt a0) (by decide +kernel) (by rfl) ?_
      refine ev_r_bipush (pc := 15) (k := 95) (by decide +kernel) (by decide +kernel) ?_
      refine ev_r_icmp (pc := 17) (q := .ne) (o := 7) (t := 24) (c := a0 ≠ 95) (by decide +kernel) (ev_k_ne ha0 (by decide)) (by decide +kernel) ?_ ?_
      · intro c7
        refine ev_r_iconst (pc := 24) (k := 0) (by decide +kernel) ?_
        exact ev_r_ireturn (pc := 25) (x := 0) (v := Int32.ofInt 0) (ty := .boolean) (by decide : ev_bl 0) (by decide +kernel) (by decide +kernel) (ev_ret_bl (by decide : ev_bl 0)) rfl
      · intro c7
        refine ev_r_iconst (pc := 20) (k := 1) (by decide +kernel) ?_
        refine ev_r_goto (pc := 21) (o := 4) (t := 25) (by decide +kernel) (by decide +kernel) ?_
        exact ev_r_ireturn (pc := 25) (x := 1) (v := Int32.ofInt 1) (ty := .boolean) (by decide : ev_bl 1) (by decide +kernel) (by decide +kernel) (ev_ret_bl (by decide : ev_bl 1)) rfl
/-- MendBenchModel.isEscaped(I)Z -/
def jm_228 (Q : Nat) (a0 : Int) (S : ev_St) : Option ((Int) × ev_St) := ev_bd (jm_222 Q a0 33 126 S) fun x2 s1 => if x2 = 0 then (some (0, s1)) else (ev_bd (jm_225 Q a0 s1) fun x5 s4 => if x5 ≠ 0 then (some (0, s4)) else (ev_bd (jm_226 Q a0 s4) fun x8 s7 => if x8 ≠ 0 then (some (0, s7)) else (some (1, s7))))
theorem jt_228 (d : Nat) (hd : 4 ≤ d) (Q : Nat) (a0 : Int) (ha0 : ev_rng a0) (S : ev_St) (x : Int) (S' : ev_St) (hJ : jm_228 Q a0 S = some (x, S')) : ev_Ref d 228 [.int (Int32.ofInt a0)] S (ev_eI x) S' (ev_bl x) := by
  obtain ⟨d, rfl⟩ : ∃ e, d = e + 1 := ⟨d - 1, by omega⟩
  refine ev_ref_of (P := ev_bl) (lv := [(0, .int (Int32.ofInt a0))]) (by decide +kernel) (by (try simp only [ev_sum, ev_nv_cat]); first | done | rfl) (by (try simp only [lv_args, ev_nv_cat]); first | done | rfl) ?_ x S' hJ
  unfold jm_228
  refine ev_r_iload_n (pc := 0) (k := 0) (v := Int32.ofInt a0) (by decide +kernel) (by rfl) ?_
  refine ev_r_bipush (pc := 1) (k := 33) (by decide +kernel) (by decide +kernel) ?_
  refine ev_r_bipush (pc := 3) (k := 126) (by decide +kernel) (by decide +kernel) ?_
  refine ev_r_stat (pc := 5) (y := 325) (kind := 2) (mi := 222) (na := 3) (as := [.int (Int32.ofInt a0), .int (Int32.ofInt 33), .int (Int32.ofInt 126)]) (rest := []) (encc := ev_oI) (Q := ev_bl) (fun x S1 h => jt_222 d (by omega) Q a0 33 126 ha0 (by decide) (by decide) S x S1 h) (Or.inl rfl) (by decide +kernel) (by decide +kernel) (by decide +kernel) (by decide +kernel) rfl (by (try simp only [ev_sum, ev_nv_cat]); first | done | rfl) ?_
  intro x2 s1 hx2
  replace hx2 := ev_bl_rng hx2
  show ev_w _ _ _ _ _ [.int (Int32.ofInt x2)] _ _ _ _
  refine ev_r_if (pc := 8) (q := .eq) (o := 21) (t := 29) (c := x2 = 0) (by decide +kernel) (ev_k_eq hx2 ev_rng0) (by decide +kernel) ?_ ?_
  · intro c3
    refine ev_r_iconst (pc := 29) (k := 0) (by decide +kernel) ?_
    exact ev_r_ireturn (pc := 30) (x := 0) (v := Int32.ofInt 0) (ty := .boolean) (by decide : ev_bl 0) (by decide +kernel) (by decide +kernel) (ev_ret_bl (by decide : ev_bl 0)) rfl
  · intro c3
    refine ev_r_iload_n (pc := 11) (k := 0) (v := Int32.ofInt a0) (by decide +kernel) (by rfl) ?_
    refine ev_r_stat (pc := 12) (y := 333) (kind := 2) (mi := 225) (na := 1) (as := [.int (Int32.ofInt a0)]) (rest := []) (encc := ev_oI) (Q := ev_bl) (fun x S1 h => jt_225 d (by omega) Q a0 ha0 s1 x S1 h) (Or.inl rfl) (by decide +kernel) (by decide +kernel) (by decide +kernel) (by decide +kernel) rfl (by (try simp only [ev_sum, ev_nv_cat]); first | done | rfl) ?_
    intro x5 s4 hx5
    replace hx5 := ev_bl_rng hx5
    show ev_w _ _ _ _ _ [.int (Int32.ofInt x5)] _ _ _ _
    refine ev_r_if (pc := 15) (q := .ne) (o := 14) (t := 29) (c := x5 ≠ 0) (by decide +kernel) (ev_k_ne hx5 ev_rng0) (by decide +kernel) ?_ ?_
    · intro c6
      refine ev_r_iconst (pc := 29) (k := 0) (by decide +kernel) ?_
      exact ev_r_ireturn (pc := 30) (x := 0) (v := Int32.ofInt 0) (ty := .boolean) (by decide : ev_bl 0) (by decide +kernel) (by decide +kernel) (ev_ret_bl (by decide : ev_bl 0)) rfl
    · intro c6
      refine ev_r_iload_n (pc := 18) (k := 0) (v := Int32.ofInt a0) (by decide +kernel) (by rfl) ?_
      refine ev_r_stat (pc := 19) (y := 336) (kind := 2) (mi := 226) (na := 1) (as := [.int (Int32.ofInt a0)]) (rest := []) (encc := ev_oI) (Q := ev_bl) (fun x S1 h => jt_226 d (by omega) Q a0 ha0 s4 x S1 h) (Or.inl rfl) (by decide +kernel) (by decide +kernel) (by decide +kernel) (by decide +kernel) rfl (by (try simp only [ev_sum, ev_nv_cat]); first | done | rfl) ?_
      intro x8 s7 hx8
      replace hx8 := ev_bl_rng hx8
      show ev_w _ _ _ _ _ [.int (Int32.ofInt x8)] _ _ _ _
      refine ev_r_if (pc := 22) (q := .ne) (o := 7) (t := 29) (c := x8 ≠ 0) (by decide +kernel) (ev_k_ne hx8 ev_rng0) (by decide +kernel) ?_ ?_
      · intro c9
        refine ev_r_iconst (pc := 29) (k := 0) (by decide +kernel) ?_
        exact ev_r_ireturn (pc := 30) (x := 0) (v := Int32.ofInt 0) (ty := .boolean) (by decide : ev_bl 0) (by decide +kernel) (by decide +kernel) (ev_ret_bl (by decide : ev_bl 0)) rfl
      · intro c9
        refine ev_r_iconst (pc := 25) (k := 1) (by decide +kernel) ?_
        refine ev_r_goto (pc := 26) (o := 4) (t := 30) (by decide +kernel) (by decide +kernel) ?_
        exact ev_r_ireturn (pc := 30) (x := 1) (v := Int32.ofInt 1) (ty := .boolean) (by decide : ev_bl 1) (by decide +kernel) (by decide +kernel) (ev_ret_bl (by decide : ev_bl 1)) rfl
/-- MendBenchModel.other(I)I -/
def jm_229 (Q : Nat) (a0 : Int) (S : ev_St) : Option ((Int) × ev_St) := ev_bd (jm_225 Q a0 S) fun x2 s1 => if x2 = 0 then (some (a0, s1)) else (ev_b (ev_ixor a0 32) fun x4 => some (x4, s1))
theorem jt_229 (d : Nat) (hd : 4 ≤ d) (Q : Nat) (a0 : Int) (ha0 : ev_rng a0) (S : ev_St) (x : Int) (S' : ev_St) (hJ : jm_229 Q a0 S = some (x, S')) : ev_Ref d 229 [.int (Int32.ofInt a0)] S (ev_eI x) S' (ev_rng x) := by
  obtain ⟨d, rfl⟩ : ∃ e, d = e + 1 := ⟨d - 1, by omega⟩
  refine ev_ref_of (P := ev_rng) (lv := [(0, .int (Int32.ofInt a0))]) (by decide +kernel) (by (try simp only [ev_sum, ev_nv_cat]); first | done | rfl) (by (try simp only [lv_args, ev_nv_cat]); first | done | rfl) ?_ x S' hJ
  unfold jm_229
  refine ev_r_iload_n (pc := 0) (k := 0) (v := Int32.ofInt a0) (by decide +kernel) (by rfl) ?_
  refine ev_r_stat (pc := 1) (y := 333) (kind := 2) (mi := 225) (na := 1) (as := [.int (Int32.ofInt a0)]) (rest := []) (encc := ev_oI) (Q := ev_bl) (fun x S1 h => jt_225 d (by omega) Q a0 ha0 S x S1 h) (Or.inl rfl) (by decide +kernel) (by decide +kernel) (by decide +kernel) (by decide +kernel) rfl (by (try simp only [ev_sum, ev_nv_cat]); first | done | rfl) ?_
  intro x2 s1 hx2
  replace hx2 := ev_bl_rng hx2
  show ev_w _ _ _ _ _ [.int (Int32.ofInt x2)] _ _ _ _
  refine ev_r_if (pc := 4) (q := .eq) (o := 10) (t := 14) (c := x2 = 0) (by decide +kernel) (ev_k_eq hx2 ev_rng0) (by decide +kernel) ?_ ?_
  · intro c3
    refine ev_r_iload_n (pc := 14) (k := 0) (v := Int32.ofInt a0) (by decide +kernel) (by rfl) ?_
    exact ev_r_ireturn (pc := 15) (x := a0) (v := Int32.ofInt a0) (ty := .int) ha0 (by decide +kernel) (by decide +kernel) rfl rfl
  · intro c3
    refine ev_r_iload_n (pc := 7) (k := 0) (v := Int32.ofInt a0) (by decide +kernel) (by rfl) ?_
    refine ev_r_bipush (pc := 8) (k := 32) (by decide +kernel) (by decide +kernel) ?_
    refine ev_r_ixor (pc := 10) (by decide +kernel) ?_
    intro x4 hx4
    refine ev_r_goto (pc := 11) (o := 4) (t := 15) (by decide +kernel) (by decide +kernel) ?_
    exact ev_r_ireturn (pc := 15) (x := x4) (v := Int32.ofInt x4) (ty := .int) hx4 (by decide +kernel) (by decide +kernel) rfl rfl
def jb_230_120 (Q : Nat) (a0 : Int) (x2 : Int)  (K120 : Int → ev_St → Option ((Int) × ev_St)) (x23 : Int) (s29 : ev_St) : Option ((Int) × ev_St) := if x2 ≤ x23 then (ev_b (s29.1 621 1) fun x31 => some (x31, s29)) else (ev_b (s29.1 621 1) fun x32 => ev_ck (8 * x23) fun x33 => ev_b (ev_iushr a0 x33) fun x34 => ev_b (ev_iand x34 255) fun x35 => ev_if ((0 : Int) ≤ x32 ∧ x32 < (ev_aln 622 : Int)) (ev_b (ev_pI s29 622 (Int.toNat x32) x35) fun s36 => ev_b (s36.1 621 1) fun x37 => ev_ck (x37 + 1) fun x38 => ev_b (ev_pI s36 621 1 x38) fun s39 => ev_ck (x23 + 1) fun x40 => K120 x40 s39))
def jl_230_120 (Q : Nat) (a0 : Int) (x2 : Int)  : Nat → Int → ev_St → Option ((Int) × ev_St)
  | 0 => fun _ _ => none
  | q + 1 => jb_230_120 Q a0 x2  (jl_230_120 Q a0 x2  q)
theorem jbt_230_120 (d : Nat) (hd : 3 ≤ d + 1) (Q : Nat) (a0 : Int) (x2 : Int) (ha0 : ev_rng a0) (hx2 : ev_rng x2)   (K120 : Int → ev_St → Option ((Int) × ev_St)) (hK120 : ∀ (x23 : Int) (hx23 : ev_rng x23), ∀ (s29 : ev_St) (w24 : List (Nat × Value)), ev_lk w24 0 = some (.ref 621) → ev_lk w24 1 = some (.int (Int32.ofInt a0)) → ev_lk w24 2 = some (.int (Int32.ofInt x2)) → ev_lk w24 4 = some (.int (Int32.ofInt x23)) → ev_w none (ev_Mof 230) d 120 w24 [] s29 (K120 x23 s29) ev_eI ev_rng) : ∀ (x23 : Int) (hx23 : ev_rng x23), ∀ (s29 : ev_St) (w24 : List (Nat × Value)), ev_lk w24 0 = some (.ref 621) → ev_lk w24 1 = some (.int (Int32.ofInt a0)) → ev_lk w24 2 = some (.int (Int32.ofInt x2)) → ev_lk w24 4 = some (.int (Int32.ofInt x23)) → ev_w none (ev_Mof 230) d 120 w24 [] s29 (jb_230_120 Q a0 x2  K120 x23 s29) ev_eI ev_rng := by
  intro x23 hx23 s29 w24 e25 e26 e27 e28
  unfold jb_230_120
  refine ev_r_iload (pc := 120) (k := 4) (v := Int32.ofInt x23) (by decide +kernel) (by exact e28) ?_
  refine ev_r_iload_n (pc := 122) (k := 2) (v := Int32.ofInt x2) (by decide +kernel) (by exact e27) ?_
  refine ev_r_icmp (pc := 123) (q := .ge) (o := 39) (t := 162) (c := x2 ≤ x23) (by decide +kernel) (ev_k_ge hx23 hx2) (by decide +kernel) ?_ ?_
  · intro c30
    refine ev_r_aload_n (pc := 162) (k := 0) (v := .ref 621) trivial (by decide +kernel) (by exact e25) ?_
    refine ev_r_getI (pc := 163) (y := 346) (ci := 13) (f := 1) (fin := 0) (by decide +kernel) (by decide +kernel) (by exact ev_ob_621) rfl ?_
    intro x31 hx31
    exact ev_r_ireturn (pc := 166) (x := x31) (v := Int32.ofInt x31) (ty := .int) hx31 (by decide +kernel) (by decide +kernel) rfl rfl
  · intro c30
    refine ev_r_aload_n (pc := 126) (k := 0) (v := .ref 621) trivial (by decide +kernel) (by exact e25) ?_
    refine ev_r_getC (pc := 127) (y := 7) (ci := 13) (f := 2) (fin := 1) (k' := 622) (by decide +kernel) (by decide +kernel) (by exact ev_ob_621) rfl rfl ?_
    refine ev_r_aload_n (pc := 130) (k := 0) (v := .ref 621) trivial (by decide +kernel) (by exact e25) ?_
    refine ev_r_getI (pc := 131) (y := 346) (ci := 13) (f := 1) (fin := 0) (by decide +kernel) (by decide +kernel) (by exact ev_ob_621) rfl ?_
    intro x32 hx32
    refine ev_r_iload_n (pc := 134) (k := 1) (v := Int32.ofInt a0) (by decide +kernel) (by exact e26) ?_
    refine ev_r_bipush (pc := 135) (k := 8) (by decide +kernel) (by decide +kernel) ?_
    refine ev_r_iload (pc := 137) (k := 4) (v := Int32.ofInt x23) (by decide +kernel) (by exact e28) ?_
    refine ev_r_imul (pc := 139) (by decide +kernel) ?_
    intro x33 hx33
    refine ev_r_iushr (pc := 140) (by decide +kernel) ?_
    intro x34 hx34
    refine ev_r_sipush (pc := 141) (k := 255) (by decide +kernel) (by decide +kernel) ?_
    refine ev_r_iand (pc := 144) (by decide +kernel) ?_
    intro x35 hx35
    refine ev_r_iast (pc := 145) hx35 hx32 (by decide +kernel) (by exact ev_ab_622) ?_
    intro s36
    refine ev_r_aload_n (pc := 146) (k := 0) (v := .ref 621) trivial (by decide +kernel) (by exact e25) ?_
    refine ev_r_dup (pc := 147) rfl (by decide +kernel) ?_
    refine ev_r_getI (pc := 148) (y := 346) (ci := 13) (f := 1) (fin := 0) (by decide +kernel) (by decide +kernel) (by exact ev_ob_621) rfl ?_
    intro x37 hx37
    refine ev_r_iconst (pc := 151) (k := 1) (by decide +kernel) ?_
    refine ev_r_iadd (pc := 152) (by decide +kernel) ?_
    intro x38 hx38
    refine ev_r_putI (pc := 153) (y := 346) (ci := 13) (f := 1) hx38 (by decide +kernel) (by decide +kernel) (by exact ev_ob_621) rfl rfl ?_
    intro s39
    refine ev_r_iinc (pc := 156) (k := 4) (c := 1) (x := x23) (by decide +kernel) (by decide +kernel) (by exact e28) (fun _ => rfl) ?_
    intro x40 hx40
    refine ev_r_goto (pc := 159) (o := (-39)) (t := 120) (by decide +kernel) (by decide +kernel) ?_
    exact hK120 x40 hx40 s39 _ (by exact (ev_l1 e25 (by decide) (by decide))) (by exact (ev_l1 e26 (by decide) (by decide))) (by exact (ev_l1 e27 (by decide) (by decide))) (by exact ev_lk_st1_self)
theorem jlt_230_120 (d : Nat) (hd : 3 ≤ d + 1) (Q : Nat) (a0 : Int) (x2 : Int) (ha0 : ev_rng a0) (hx2 : ev_rng x2)   : ∀ q : Nat, ∀ (x23 : Int) (hx23 : ev_rng x23), ∀ (s29 : ev_St) (w24 : List (Nat × Value)), ev_lk w24 0 = some (.ref 621) → ev_lk w24 1 = some (.int (Int32.ofInt a0)) → ev_lk w24 2 = some (.int (Int32.ofInt x2)) → ev_lk w24 4 = some (.int (Int32.ofInt x23)) → ev_w none (ev_Mof 230) d 120 w24 [] s29 (jl_230_120 Q a0 x2  q x23 s29) ev_eI ev_rng := by
  intro q
  induction q with
  | zero =>
    intro x23 hx23 s29 w24 e25 e26 e27 e28
    exact ev_w_none
  | succ q ih => exact jbt_230_120 d hd Q a0 x2 ha0 hx2   _ ih
def jb_230_12 (Q : Nat) (a0 : Int)  (K12 : Int → Int → Int → ev_St → Option ((Int) × ev_St)) (x2 : Int) (x3 : Int) (x4 : Int) (s11 : ev_St) : Option ((Int) × ev_St) := if 4 ≤ x4 then (ev_jn (fun  (s15 : ev_St) => ev_bd (jm_221 Q 1 s15) fun x17 s16 => some (x17, s16)) fun K94 => if x3 = 0 then (K94  s11) else (if x2 ≠ 0 then (ev_b (s11.1 621 1) fun x20 => ev_ck (x20 + x2) fun x21 => if x21 ≤ 120 then (jl_230_120 Q a0 x2  Q 0 s11) else (ev_bd (jm_221 Q 2 s11) fun x42 s41 => some (x42, s41))) else (K94  s11))) else (ev_ck (8 * x4) fun x43 => ev_b (ev_iushr a0 x43) fun x44 => ev_b (ev_iand x44 255) fun x45 => ev_jn (fun (x46 : Int) (x47 : Int) (s54 : ev_St) => ev_jn (fun (x55 : Int) (x57 : Int) (x56 : Int) (s63 : ev_St) => ev_ck (x56 + x57) fun x64 => ev_ck (x4 + 1) fun x65 => K12 x64 x55 x65 s63) fun K78 => if x46 ≠ 0 then (K78 x47 1 x2 s54) else (K78 x47 0 x2 s54)) fun K66 => ev_jn (fun (x67 : Int) (s74 : ev_St) => K66 x67 0 s74) fun K65 => if x3 = 0 then (K65 x45 s11) else (ev_jn (fun  (s82 : ev_St) => K66 x45 1 s82) fun K61 => if x45 ≠ 0 then (ev_bd (jm_223 Q x45 s11) fun x85 s84 => if x85 = 0 then (K65 x45 s84) else (K61  s84)) else (ev_ck (8 * x4) fun x87 => ev_b (ev_iushr a0 x87) fun x88 => if x88 ≠ 0 then (K65 x45 s11) else (K61  s11))))
def jl_230_12 (Q : Nat) (a0 : Int)  : Nat → Int → Int → Int → ev_St → Option ((Int) × ev_St)
  | 0 => fun _ _ _ _ => none
  | q + 1 => jb_230_12 Q a0  (jl_230_12 Q a0  q)
theorem jbt_230_12 (d : Nat) (hd : 3 ≤ d + 1) (Q : Nat) (a0 : Int) (ha0 : ev_rng a0)   (K12 : Int → Int → Int → ev_St → Option ((Int) × ev_St)) (hK12 : ∀ (x2 : Int) (hx2 : ev_rng x2), ∀ (x3 : Int) (hx3 : ev_rng x3), ∀ (x4 : Int) (hx4 : ev_rng x4), ∀ (s11 : ev_St) (w5 : List (Nat × Value)), ev_lk w5 0 = some (.ref 621) → ev_lk w5 1 = some (.int (Int32.ofInt a0)) → ev_lk w5 2 = some (.int (Int32.ofInt x2)) → ev_lk w5 3 = some (.int (Int32.ofInt x3)) → ev_lk w5 4 = some (.int (Int32.ofInt x4)) → ev_w none (ev_Mof 230) d 12 w5 [] s11 (K12 x2 x3 x4 s11) ev_eI ev_rng) : ∀ (x2 : Int) (hx2 : ev_rng x2), ∀ (x3 : Int) (hx3 : ev_rng x3), ∀ (x4 : Int) (hx4 : ev_rng x4), ∀ (s11 : ev_St) (w5 : List (Nat × Value)), ev_lk w5 0 = some (.ref 621) → ev_lk w5 1 = some (.int (Int32.ofInt a0)) → ev_lk w5 2 = some (.int (Int32.ofInt x2)) → ev_lk w5 3 = some (.int (Int32.ofInt x3)) → ev_lk w5 4 = some (.int (Int32.ofInt x4)) → ev_w none (ev_Mof 230) d 12 w5 [] s11 (jb_230_12 Q a0  K12 x2 x3 x4 s11) ev_eI ev_rng := by
  intro x2 hx2 x3 hx3 x4 hx4 s11 w5 e6 e7 e8 e9 e10
  unfold jb_230_12
  refine ev_r_iload (pc := 12) (k := 4) (v := Int32.ofInt x4) (by decide +kernel) (by exact e10) ?_
  refine ev_r_iconst (pc := 14) (k := 4) (by decide +kernel) ?_
  refine ev_r_icmp (pc := 15) (q := .ge) (o := 71) (t := 86) (c := 4 ≤ x4) (by decide +kernel) (ev_k_ge hx4 (by decide)) (by decide +kernel) ?_ ?_
  · intro c12
    refine ev_r_iload_n (pc := 86) (k := 3) (v := Int32.ofInt x3) (by decide +kernel) (by exact e9) ?_
    refine ev_r_jn (Q := fun K => ∀ (s15 : ev_St) (w13 : List (Nat × Value)), ev_lk w13 0 = some (.ref 621) → ev_w none (ev_Mof 230) d 94 w13 [] s15 (K  s15) ev_eI ev_rng) ?_ ?_
    · intro  s15 w13 e14
      refine ev_r_aload_n (pc := 94) (k := 0) (v := .ref 621) trivial (by decide +kernel) (by exact e14) ?_
      refine ev_r_iconst (pc := 95) (k := 1) (by decide +kernel) ?_
      refine ev_r_virt (pc := 96) (y := 342) (mi := 221) (na := 1) (k := 621) (as := [.int (Int32.ofInt 1)]) (rest := []) (encc := ev_oI) (Q := ev_rng) (fun x S1 h => jt_221 d (by omega) Q 1 (by decide) s15 x S1 h) (by exact ev_ob_621) (by decide +kernel) (by decide +kernel) (by decide +kernel) (by decide +kernel) rfl (by (try simp only [ev_sum, ev_nv_cat]); first | done | rfl) ?_
      intro x17 s16 hx17
      show ev_w _ _ _ _ _ [.int (Int32.ofInt x17)] _ _ _ _
      exact ev_r_ireturn (pc := 99) (x := x17) (v := Int32.ofInt x17) (ty := .int) hx17 (by decide +kernel) (by decide +kernel) rfl rfl
    · intro K94 hK94
      refine ev_r_if (pc := 87) (q := .eq) (o := 7) (t := 94) (c := x3 = 0) (by decide +kernel) (ev_k_eq hx3 ev_rng0) (by decide +kernel) ?_ ?_
      · intro c18
        exact hK94  s11 _ (by exact e6)
      · intro c18
        refine ev_r_iload_n (pc := 90) (k := 2) (v := Int32.ofInt x2) (by decide +kernel) (by exact e8) ?_
        refine ev_r_if (pc := 91) (q := .ne) (o := 9) (t := 100) (c := x2 ≠ 0) (by decide +kernel) (ev_k_ne hx2 ev_rng0) (by decide +kernel) ?_ ?_
        · intro c19
          refine ev_r_aload_n (pc := 100) (k := 0) (v := .ref 621) trivial (by decide +kernel) (by exact e6) ?_
          refine ev_r_getI (pc := 101) (y := 346) (ci := 13) (f := 1) (fin := 0) (by decide +kernel) (by decide +kernel) (by exact ev_ob_621) rfl ?_
          intro x20 hx20
          refine ev_r_iload_n (pc := 104) (k := 2) (v := Int32.ofInt x2) (by decide +kernel) (by exact e8) ?_
          refine ev_r_iadd (pc := 105) (by decide +kernel) ?_
          intro x21 hx21
          refine ev_r_bipush (pc := 106) (k := 120) (by decide +kernel) (by decide +kernel) ?_
          refine ev_r_icmp (pc := 108) (q := .le) (o := 9) (t := 117) (c := x21 ≤ 120) (by decide +kernel) (ev_k_le hx21 (by decide)) (by decide +kernel) ?_ ?_
          · intro c22
            refine ev_r_iconst (pc := 117) (k := 0) (by decide +kernel) ?_
            refine ev_r_istore (pc := 118) (k := 4) (by decide +kernel) (by decide +kernel) rfl ?_
            exact jlt_230_120 d hd Q a0 x2 ha0 hx2   Q 0 (by decide) s11 _ (by exact (ev_l1 e6 (by decide) (by decide))) (by exact (ev_l1 e7 (by decide) (by decide))) (by exact (ev_l1 e8 (by decide) (by decide))) (by exact ev_lk_st1_self)
          · intro c22
            refine ev_r_aload_n (pc := 111) (k := 0) (v := .ref 621) trivial (by decide +kernel) (by exact e6) ?_
            refine ev_r_iconst (pc := 112) (k := 2) (by decide +kernel) ?_
            refine ev_r_virt (pc := 113) (y := 342) (mi := 221) (na := 1) (k := 621) (as := [.int (Int32.ofInt 2)]) (rest := []) (encc := ev_oI) (Q := ev_rng) (fun x S1 h => jt_221 d (by omega) Q 2 (by decide) s11 x S1 h) (by exact ev_ob_621) (by decide +kernel) (by decide +kernel) (by decide +kernel) (by decide +kernel) rfl (by (try simp only [ev_sum, ev_nv_cat]); first | done | rfl) ?_
            intro x42 s41 hx42
            show ev_w _ _ _ _ _ [.int (Int32.ofInt x42)] _ _ _ _
            exact ev_r_ireturn (pc := 116) (x := x42) (v := Int32.ofInt x42) (ty := .int) hx42 (by decide +kernel) (by decide +kernel) rfl rfl
        · intro c19
          exact hK94  s11 _ (by exact e6)
  · intro c12
    refine ev_r_iload_n (pc := 18) (k := 1) (v := Int32.ofInt a0) (by decide +kernel) (by exact e7) ?_
    refine ev_r_bipush (pc := 19) (k := 8) (by decide +kernel) (by decide +kernel) ?_
    refine ev_r_iload (pc := 21) (k := 4) (v := Int32.ofInt x4) (by decide +kernel) (by exact e10) ?_
    refine ev_r_imul (pc := 23) (by decide +kernel) ?_
    intro x43 hx43
    refine ev_r_iushr (pc := 24) (by decide +kernel) ?_
    intro x44 hx44
    refine ev_r_sipush (pc := 25) (k := 255) (by decide +kernel) (by decide +kernel) ?_
    refine ev_r_iand (pc := 28) (by decide +kernel) ?_
    intro x45 hx45
    refine ev_r_istore (pc := 29) (k := 5) (by decide +kernel) (by decide +kernel) rfl ?_
    refine ev_r_iload_n (pc := 31) (k := 3) (v := Int32.ofInt x3) (by decide +kernel) (by exact (ev_l1 e9 (by decide) (by decide))) ?_
    refine ev_r_jn (Q := fun K => ∀ (x46 : Int) (hx46 : ev_rng x46), ∀ (x47 : Int) (hx47 : ev_rng x47), ∀ (s54 : ev_St) (w48 : List (Nat × Value)), ev_lk w48 0 = some (.ref 621) → ev_lk w48 1 = some (.int (Int32.ofInt a0)) → ev_lk w48 2 = some (.int (Int32.ofInt x2)) → ev_lk w48 4 = some (.int (Int32.ofInt x4)) → ev_lk w48 5 = some (.int (Int32.ofInt x46)) → ev_w none (ev_Mof 230) d 66 w48 [.int (Int32.ofInt x47)] s54 (K x46 x47 s54) ev_eI ev_rng) ?_ ?_
    · intro x46 hx46 x47 hx47 s54 w48 e49 e50 e51 e52 e53
      refine ev_r_istore_n (pc := 66) (k := 3) (by decide +kernel) (by decide +kernel) rfl ?_
      refine ev_r_iload_n (pc := 67) (k := 2) (v := Int32.ofInt x2) (by decide +kernel) (by exact (ev_lk_st1 e51 (by decide) rfl)) ?_
      refine ev_r_iload (pc := 68) (k := 5) (v := Int32.ofInt x46) (by decide +kernel) (by exact (ev_l1 e53 (by decide) (by decide))) ?_
      refine ev_r_jn (Q := fun K => ∀ (x55 : Int) (hx55 : ev_rng x55), ∀ (x57 : Int) (hx57 : ev_rng x57), ∀ (x56 : Int) (hx56 : ev_rng x56), ∀ (s63 : ev_St) (w58 : List (Nat × Value)), ev_lk w58 0 = some (.ref 621) → ev_lk w58 1 = some (.int (Int32.ofInt a0)) → ev_lk w58 3 = some (.int (Int32.ofInt x55)) → ev_lk w58 4 = some (.int (Int32.ofInt x4)) → ev_w none (ev_Mof 230) d 78 w58 [.int (Int32.ofInt x57), .int (Int32.ofInt x56)] s63 (K x55 x57 x56 s63) ev_eI ev_rng) ?_ ?_
      · intro x55 hx55 x57 hx57 x56 hx56 s63 w58 e59 e60 e61 e62
        refine ev_r_iadd (pc := 78) (by decide +kernel) ?_
        intro x64 hx64
        refine ev_r_istore_n (pc := 79) (k := 2) (by decide +kernel) (by decide +kernel) rfl ?_
        refine ev_r_iinc (pc := 80) (k := 4) (c := 1) (x := x4) (by decide +kernel) (by decide +kernel) (by exact (ev_l1 e62 (by decide) (by decide))) (fun _ => rfl) ?_
        intro x65 hx65
        refine ev_r_goto (pc := 83) (o := (-71)) (t := 12) (by decide +kernel) (by decide +kernel) ?_
        exact hK12 x64 hx64 x55 hx55 x65 hx65 s63 _ (by exact (ev_l1 (ev_l1 e59 (by decide) (by decide)) (by decide) (by decide))) (by exact (ev_l1 (ev_lk_st1 e60 (by decide) rfl) (by decide) (by decide))) (by exact (ev_l1 ev_lk_st1_self (by decide) (by decide))) (by exact (ev_lk_st1 (ev_l1 e61 (by decide) (by decide)) (by decide) rfl)) (by exact ev_lk_st1_self)
      · intro K78 hK78
        refine ev_r_if (pc := 70) (q := .ne) (o := 7) (t := 77) (c := x46 ≠ 0) (by decide +kernel) (ev_k_ne hx46 ev_rng0) (by decide +kernel) ?_ ?_
        · intro c66
          refine ev_r_iconst (pc := 77) (k := 1) (by decide +kernel) ?_
          exact hK78 x47 hx47 1 (by decide) x2 hx2 s54 _ (by exact (ev_l1 e49 (by decide) (by decide))) (by exact (ev_l1 e50 (by decide) (by decide))) (by exact ev_lk_st1_self) (by exact (ev_l1 e52 (by decide) (by decide)))
        · intro c66
          refine ev_r_iconst (pc := 73) (k := 0) (by decide +kernel) ?_
          refine ev_r_goto (pc := 74) (o := 4) (t := 78) (by decide +kernel) (by decide +kernel) ?_
          exact hK78 x47 hx47 0 (by decide) x2 hx2 s54 _ (by exact (ev_l1 e49 (by decide) (by decide))) (by exact (ev_l1 e50 (by decide) (by decide))) (by exact ev_lk_st1_self) (by exact (ev_l1 e52 (by decide) (by decide)))
    · intro K66 hK66
      refine ev_r_jn (Q := fun K => ∀ (x67 : Int) (hx67 : ev_rng x67), ∀ (s74 : ev_St) (w68 : List (Nat × Value)), ev_lk w68 0 = some (.ref 621) → ev_lk w68 1 = some (.int (Int32.ofInt a0)) → ev_lk w68 2 = some (.int (Int32.ofInt x2)) → ev_lk w68 4 = some (.int (Int32.ofInt x4)) → ev_lk w68 5 = some (.int (Int32.ofInt x67)) → ev_w none (ev_Mof 230) d 65 w68 [] s74 (K x67 s74) ev_eI ev_rng) ?_ ?_
      · intro x67 hx67 s74 w68 e69 e70 e71 e72 e73
        refine ev_r_iconst (pc := 65) (k := 0) (by decide +kernel) ?_
        exact hK66 x67 hx67 0 (by decide) s74 _ (by exact e69) (by exact e70) (by exact e71) (by exact e72) (by exact e73)
      · intro K65 hK65
        refine ev_r_if (pc := 32) (q := .eq) (o := 33) (t := 65) (c := x3 = 0) (by decide +kernel) (ev_k_eq hx3 ev_rng0) (by decide +kernel) ?_ ?_
        · intro c75
          exact hK65 x45 hx45 s11 _ (by exact (ev_l1 e6 (by decide) (by decide))) (by exact (ev_l1 e7 (by decide) (by decide))) (by exact (ev_l1 e8 (by decide) (by decide))) (by exact (ev_lk_st1 e10 (by decide) rfl)) (by exact ev_lk_st1_self)
        · intro c75
          refine ev_r_iload (pc := 35) (k := 5) (v := Int32.ofInt x45) (by decide +kernel) (by exact ev_lk_st1_self) ?_
          refine ev_r_jn (Q := fun K => ∀ (s82 : ev_St) (w76 : List (Nat × Value)), ev_lk w76 0 = some (.ref 621) → ev_lk w76 1 = some (.int (Int32.ofInt a0)) → ev_lk w76 2 = some (.int (Int32.ofInt x2)) → ev_lk w76 4 = some (.int (Int32.ofInt x4)) → ev_lk w76 5 = some (.int (Int32.ofInt x45)) → ev_w none (ev_Mof 230) d 61 w76 [] s82 (K  s82) ev_eI ev_rng) ?_ ?_
          · intro  s82 w76 e77 e78 e79 e80 e81
            refine ev_r_iconst (pc := 61) (k := 1) (by decide +kernel) ?_
            refine ev_r_goto (pc := 62) (o := 4) (t := 66) (by decide +kernel) (by decide +kernel) ?_
            exact hK66 x45 hx45 1 (by decide) s82 _ (by exact e77) (by exact e78) (by exact e79) (by exact e80) (by exact e81)
          · intro K61 hK61
            refine ev_r_if (pc := 37) (q := .ne) (o := 16) (t := 53) (c := x45 ≠ 0) (by decide +kernel) (ev_k_ne hx45 ev_rng0) (by decide +kernel) ?_ ?_
            · intro c83
              refine ev_r_iload (pc := 53) (k := 5) (v := Int32.ofInt x45) (by decide +kernel) (by exact ev_lk_st1_self) ?_
              refine ev_r_stat (pc := 55) (y := 339) (kind := 2) (mi := 223) (na := 1) (as := [.int (Int32.ofInt x45)]) (rest := []) (encc := ev_oI) (Q := ev_bl) (fun x S1 h => jt_223 d (by omega) Q x45 hx45 s11 x S1 h) (Or.inl rfl) (by decide +kernel) (by decide +kernel) (by decide +kernel) (by decide +kernel) rfl (by (try simp only [ev_sum, ev_nv_cat]); first | done | rfl) ?_
              intro x85 s84 hx85
              replace hx85 := ev_bl_rng hx85
              show ev_w _ _ _ _ _ [.int (Int32.ofInt x85)] _ _ _ _
              refine ev_r_if (pc := 58) (q := .eq) (o := 7) (t := 65) (c := x85 = 0) (by decide +kernel) (ev_k_eq hx85 ev_rng0) (by decide +kernel) ?_ ?_
              · intro c86
                exact hK65 x45 hx45 s84 _ (by exact (ev_l1 e6 (by decide) (by decide))) (by exact (ev_l1 e7 (by decide) (by decide))) (by exact (ev_l1 e8 (by decide) (by decide))) (by exact (ev_lk_st1 e10 (by decide) rfl)) (by exact ev_lk_st1_self)
              · intro c86
                exact hK61  s84 _ (by exact (ev_l1 e6 (by decide) (by decide))) (by exact (ev_l1 e7 (by decide) (by decide))) (by exact (ev_l1 e8 (by decide) (by decide))) (by exact (ev_lk_st1 e10 (by decide) rfl)) (by exact ev_lk_st1_self)
            · intro c83
              refine ev_r_iload_n (pc := 40) (k := 1) (v := Int32.ofInt a0) (by decide +kernel) (by exact (ev_l1 e7 (by decide) (by decide))) ?_
              refine ev_r_bipush (pc := 41) (k := 8) (by decide +kernel) (by decide +kernel) ?_
              refine ev_r_iload (pc := 43) (k := 4) (v := Int32.ofInt x4) (by decide +kernel) (by exact (ev_lk_st1 e10 (by decide) rfl)) ?_
              refine ev_r_imul (pc := 45) (by decide +kernel) ?_
              intro x87 hx87
              refine ev_r_iushr (pc := 46) (by decide +kernel) ?_
              intro x88 hx88
              refine ev_r_if (pc := 47) (q := .ne) (o := 18) (t := 65) (c := x88 ≠ 0) (by decide +kernel) (ev_k_ne hx88 ev_rng0) (by decide +kernel) ?_ ?_
              · intro c89
                exact hK65 x45 hx45 s11 _ (by exact (ev_l1 e6 (by decide) (by decide))) (by exact (ev_l1 e7 (by decide) (by decide))) (by exact (ev_l1 e8 (by decide) (by decide))) (by exact (ev_lk_st1 e10 (by decide) rfl)) (by exact ev_lk_st1_self)
              · intro c89
                refine ev_r_goto (pc := 50) (o := 11) (t := 61) (by decide +kernel) (by decide +kernel) ?_
                exact hK61  s11 _ (by exact (ev_l1 e6 (by decide) (by decide))) (by exact (ev_l1 e7 (by decide) (by decide))) (by exact (ev_l1 e8 (by decide) (by decide))) (by exact (ev_lk_st1 e10 (by decide) rfl)) (by exact ev_lk_st1_self)
theorem jlt_230_12 (d : Nat) (hd : 3 ≤ d + 1) (Q : Nat) (a0 : Int) (ha0 : ev_rng a0)   : ∀ q : Nat, ∀ (x2 : Int) (hx2 : ev_rng x2), ∀ (x3 : Int) (hx3 : ev_rng x3), ∀ (x4 : Int) (hx4 : ev_rng x4), ∀ (s11 : ev_St) (w5 : List (Nat × Value)), ev_lk w5 0 = some (.ref 621) → ev_lk w5 1 = some (.int (Int32.ofInt a0)) → ev_lk w5 2 = some (.int (Int32.ofInt x2)) → ev_lk w5 3 = some (.int (Int32.ofInt x3)) → ev_lk w5 4 = some (.int (Int32.ofInt x4)) → ev_w none (ev_Mof 230) d 12 w5 [] s11 (jl_230_12 Q a0  q x2 x3 x4 s11) ev_eI ev_rng := by
  intro q
  induction q with
  | zero =>
    intro x2 hx2 x3 hx3 x4 hx4 s11 w5 e6 e7 e8 e9 e10
    exact ev_w_none
  | succ q ih => exact jbt_230_12 d hd Q a0 ha0   _ ih
/-- MendBenchModel.type(I)I -/
def jm_230 (Q : Nat) (a0 : Int) (S : ev_St) : Option ((Int) × ev_St) := ev_b (ev_pI S 621 0 0) fun s1 => jl_230_12 Q a0  Q 0 1 0 s1
theorem jt_230 (d : Nat) (hd : 3 ≤ d) (Q : Nat) (a0 : Int) (ha0 : ev_rng a0) (S : ev_St) (x : Int) (S' : ev_St) (hJ : jm_230 Q a0 S = some (x, S')) : ev_Ref d 230 [.ref 621, .int (Int32.ofInt a0)] S (ev_eI x) S' (ev_rng x) := by
  obtain ⟨d, rfl⟩ : ∃ e, d = e + 1 := ⟨d - 1, by omega⟩
  refine ev_ref_of (P := ev_rng) (lv := [(0, .ref 621), (1, .int (Int32.ofInt a0))]) (by decide +kernel) (by (try simp only [ev_sum, ev_nv_cat]); first | done | rfl) (by (try simp only [lv_args, ev_nv_cat]); first | done | rfl) ?_ x S' hJ
  unfold jm_230
  refine ev_r_aload_n (pc := 0) (k := 0) (v := .ref 621) trivial (by decide +kernel) (by rfl) ?_
  refine ev_r_iconst (pc := 1) (k := 0) (by decide +kernel) ?_
  refine ev_r_putI (pc := 2) (y := 321) (ci := 13) (f := 0) (by decide) (by decide +kernel) (by decide +kernel) (by exact ev_ob_621) rfl rfl ?_
  intro s1
  refine ev_r_iconst (pc := 5) (k := 0) (by decide +kernel) ?_
  refine ev_r_istore_n (pc := 6) (k := 2) (by decide +kernel) (by decide +kernel) rfl ?_
  refine ev_r_iconst (pc := 7) (k := 1) (by decide +kernel) ?_
  refine ev_r_istore_n (pc := 8) (k := 3) (by decide +kernel) (by decide +kernel) rfl ?_
  refine ev_r_iconst (pc := 9) (k := 0) (by decide +kernel) ?_
  refine ev_r_istore (pc := 10) (k := 4) (by decide +kernel) (by decide +kernel) rfl ?_
  exact jlt_230_12 d hd Q a0 ha0   Q 0 (by decide) 1 (by decide) 0 (by decide) s1 _ (by exact (ev_l1 (ev_l1 (ev_l1 (by rfl) (by decide) (by decide)) (by decide) (by decide)) (by decide) (by decide))) (by exact (ev_l1 (ev_l1 (ev_lk_st1 (by rfl) (by decide) rfl) (by decide) (by decide)) (by decide) (by decide))) (by exact (ev_l1 (ev_lk_st1 ev_lk_st1_self (by decide) rfl) (by decide) (by decide))) (by exact (ev_lk_st1 ev_lk_st1_self (by decide) rfl)) (by exact ev_lk_st1_self)
/-- MendBenchModel.clear()I -/
def jm_231 (Q : Nat)  (S : ev_St) : Option ((Int) × ev_St) := ev_b (ev_pI S 621 0 0) fun s1 => ev_b (s1.1 621 1) fun x2 => ev_b (ev_pI s1 621 1 0) fun s3 => some (x2, s3)
theorem jt_231 (d : Nat) (hd : 1 ≤ d) (Q : Nat)   (S : ev_St) (x : Int) (S' : ev_St) (hJ : jm_231 Q  S = some (x, S')) : ev_Ref d 231 [.ref 621] S (ev_eI x) S' (ev_rng x) := by
  obtain ⟨d, rfl⟩ : ∃ e, d = e + 1 := ⟨d - 1, by omega⟩
  refine ev_ref_of (P := ev_rng) (lv := [(0, .ref 621)]) (by decide +kernel) (by (try simp only [ev_sum, ev_nv_cat]); first | done | rfl) (by (try simp only [lv_args, ev_nv_cat]); first | done | rfl) ?_ x S' hJ
  unfold jm_231
  refine ev_r_aload_n (pc := 0) (k := 0) (v := .ref 621) trivial (by decide +kernel) (by rfl) ?_
  refine ev_r_iconst (pc := 1) (k := 0) (by decide +kernel) ?_
  refine ev_r_putI (pc := 2) (y := 321) (ci := 13) (f := 0) (by decide) (by decide +kernel) (by decide +kernel) (by exact ev_ob_621) rfl rfl ?_
  intro s1
  refine ev_r_aload_n (pc := 5) (k := 0) (v := .ref 621) trivial (by decide +kernel) (by rfl) ?_
  refine ev_r_getI (pc := 6) (y := 346) (ci := 13) (f := 1) (fin := 0) (by decide +kernel) (by decide +kernel) (by exact ev_ob_621) rfl ?_
  intro x2 hx2
  refine ev_r_istore_n (pc := 9) (k := 1) (by decide +kernel) (by decide +kernel) rfl ?_
  refine ev_r_aload_n (pc := 10) (k := 0) (v := .ref 621) trivial (by decide +kernel) (by exact (ev_lk_st1 (by rfl) (by decide) rfl)) ?_
  refine ev_r_iconst (pc := 11) (k := 0) (by decide +kernel) ?_
  refine ev_r_putI (pc := 12) (y := 346) (ci := 13) (f := 1) (by decide) (by decide +kernel) (by decide +kernel) (by exact ev_ob_621) rfl rfl ?_
  intro s3
  refine ev_r_iload_n (pc := 15) (k := 1) (v := Int32.ofInt x2) (by decide +kernel) (by exact ev_lk_st1_self) ?_
  exact ev_r_ireturn (pc := 16) (x := x2) (v := Int32.ofInt x2) (ty := .int) hx2 (by decide +kernel) (by decide +kernel) rfl rfl
/-- MendBenchModel.base()I -/
def jm_232 (Q : Nat)  (S : ev_St) : Option ((Int) × ev_St) := some (3840, S)
theorem jt_232 (d : Nat) (hd : 1 ≤ d) (Q : Nat)   (S : ev_St) (x : Int) (S' : ev_St) (hJ : jm_232 Q  S = some (x, S')) : ev_Ref d 232 [.ref 621] S (ev_eI x) S' (ev_rng x) := by
  obtain ⟨d, rfl⟩ : ∃ e, d = e + 1 := ⟨d - 1, by omega⟩
  refine ev_ref_of (P := ev_rng) (lv := [(0, .ref 621)]) (by decide +kernel) (by (try simp only [ev_sum, ev_nv_cat]); first | done | rfl) (by (try simp only [lv_args, ev_nv_cat]); first | done | rfl) ?_ x S' hJ
  unfold jm_232
  refine ev_r_sipush (pc := 0) (k := 3840) (by decide +kernel) (by decide +kernel) ?_
  exact ev_r_ireturn (pc := 3) (x := 3840) (v := Int32.ofInt 3840) (ty := .int) (by decide) (by decide +kernel) (by decide +kernel) rfl rfl
/-- MendBenchModel.peek(I)I -/
def jm_233 (Q : Nat) (a0 : Int) (S : ev_St) : Option ((Int) × ev_St) := ev_b (S.1 621 28) fun x1 => ev_if ((0 : Int) ≤ x1 ∧ x1 < (ev_aln 644 : Int)) (ev_b (S.1 644 (Int.toNat x1)) fun x2 => ev_b (S.1 621 28) fun x3 => ev_if ((0 : Int) ≤ x3 ∧ x3 < (ev_aln 645 : Int)) (ev_b (S.1 645 (Int.toNat x3)) fun x4 => ev_ck (x4 + a0) fun x5 => if x2 ≠ (-1) then (ev_if ((0 : Int) ≤ x2 ∧ x2 < (ev_aln 623 : Int)) (ev_b (S.1 623 (Int.toNat x2)) fun x7 => if x7 ≤ x5 then (some ((-1), S)) else (ev_ck (120 * x2) fun x9 => ev_ck (x9 + x5) fun x10 => ev_if ((0 : Int) ≤ x10 ∧ x10 < (ev_aln 624 : Int)) (ev_b (S.1 624 (Int.toNat x10)) fun x11 => some (x11, S))))) else (ev_b (S.1 621 1) fun x12 => if x12 ≤ x5 then (some ((-1), S)) else (ev_if ((0 : Int) ≤ x5 ∧ x5 < (ev_aln 622 : Int)) (ev_b (S.1 622 (Int.toNat x5)) fun x14 => some (x14, S))))))
theorem jt_233 (d : Nat) (hd : 1 ≤ d) (Q : Nat) (a0 : Int) (ha0 : ev_rng a0) (S : ev_St) (x : Int) (S' : ev_St) (hJ : jm_233 Q a0 S = some (x, S')) : ev_Ref d 233 [.ref 621, .int (Int32.ofInt a0)] S (ev_eI x) S' (ev_rng x) := by
  obtain ⟨d, rfl⟩ : ∃ e, d = e + 1 := ⟨d - 1, by omega⟩
  refine ev_ref_of (P := ev_rng) (lv := [(0, .ref 621), (1, .int (Int32.ofInt a0))]) (by decide +kernel) (by (try simp only [ev_sum, ev_nv_cat]); first | done | rfl) (by (try simp only [lv_args, ev_nv_cat]); first | done | rfl) ?_ x S' hJ
  unfold jm_233
  refine ev_r_aload_n (pc := 0) (k := 0) (v := .ref 621) trivial (by decide +kernel) (by rfl) ?_
  refine ev_r_getC (pc := 1) (y := 77) (ci := 13) (f := 29) (fin := 1) (k' := 644) (by decide +kernel) (by decide +kernel) (by exact ev_ob_621) rfl rfl ?_
  refine ev_r_aload_n (pc := 4) (k := 0) (v := .ref 621) trivial (by decide +kernel) (by rfl) ?_
  refine ev_r_getI (pc := 5) (y := 349) (ci := 13) (f := 28) (fin := 0) (by decide +kernel) (by decide +kernel) (by exact ev_ob_621) rfl ?_
  intro x1 hx1
  refine ev_r_iald (pc := 8) hx1 (by decide +kernel) (by exact ev_ab_644) ?_
  intro x2 hx2
  refine ev_r_istore_n (pc := 9) (k := 2) (by decide +kernel) (by decide +kernel) rfl ?_
  refine ev_r_aload_n (pc := 10) (k := 0) (v := .ref 621) trivial (by decide +kernel) (by exact (ev_l1 (by rfl) (by decide) (by decide))) ?_
  refine ev_r_getC (pc := 11) (y := 80) (ci := 13) (f := 30) (fin := 1) (k' := 645) (by decide +kernel) (by decide +kernel) (by exact ev_ob_621) rfl rfl ?_
  refine ev_r_aload_n (pc := 14) (k := 0) (v := .ref 621) trivial (by decide +kernel) (by exact (ev_l1 (by rfl) (by decide) (by decide))) ?_
  refine ev_r_getI (pc := 15) (y := 349) (ci := 13) (f := 28) (fin := 0) (by decide +kernel) (by decide +kernel) (by exact ev_ob_621) rfl ?_
  intro x3 hx3
  refine ev_r_iald (pc := 18) hx3 (by decide +kernel) (by exact ev_ab_645) ?_
  intro x4 hx4
  refine ev_r_iload_n (pc := 19) (k := 1) (v := Int32.ofInt a0) (by decide +kernel) (by exact (ev_lk_st1 (by rfl) (by decide) rfl)) ?_
  refine ev_r_iadd (pc := 20) (by decide +kernel) ?_
  intro x5 hx5
  refine ev_r_istore_n (pc := 21) (k := 3) (by decide +kernel) (by decide +kernel) rfl ?_
  refine ev_r_iload_n (pc := 22) (k := 2) (v := Int32.ofInt x2) (by decide +kernel) (by exact (ev_lk_st1 ev_lk_st1_self (by decide) rfl)) ?_
  refine ev_r_iconst (pc := 23) (k := -1) (by decide +kernel) ?_
  refine ev_r_icmp (pc := 24) (q := .ne) (o := 22) (t := 46) (c := x2 ≠ (-1)) (by decide +kernel) (ev_k_ne hx2 (by decide)) (by decide +kernel) ?_ ?_
  · intro c6
    refine ev_r_iload_n (pc := 46) (k := 3) (v := Int32.ofInt x5) (by decide +kernel) (by exact ev_lk_st1_self) ?_
    refine ev_r_aload_n (pc := 47) (k := 0) (v := .ref 621) trivial (by decide +kernel) (by exact (ev_l1 (ev_l1 (by rfl) (by decide) (by decide)) (by decide) (by decide))) ?_
    refine ev_r_getC (pc := 48) (y := 13) (ci := 13) (f := 3) (fin := 1) (k' := 623) (by decide +kernel) (by decide +kernel) (by exact ev_ob_621) rfl rfl ?_
    refine ev_r_iload_n (pc := 51) (k := 2) (v := Int32.ofInt x2) (by decide +kernel) (by exact (ev_lk_st1 ev_lk_st1_self (by decide) rfl)) ?_
    refine ev_r_iald (pc := 52) hx2 (by decide +kernel) (by exact ev_ab_623) ?_
    intro x7 hx7
    refine ev_r_icmp (pc := 53) (q := .ge) (o := 17) (t := 70) (c := x7 ≤ x5) (by decide +kernel) (ev_k_ge hx5 hx7) (by decide +kernel) ?_ ?_
    · intro c8
      refine ev_r_iconst (pc := 70) (k := -1) (by decide +kernel) ?_
      exact ev_r_ireturn (pc := 71) (x := (-1)) (v := Int32.ofInt ((-1))) (ty := .int) (by decide) (by decide +kernel) (by decide +kernel) rfl rfl
    · intro c8
      refine ev_r_aload_n (pc := 56) (k := 0) (v := .ref 621) trivial (by decide +kernel) (by exact (ev_l1 (ev_l1 (by rfl) (by decide) (by decide)) (by decide) (by decide))) ?_
      refine ev_r_getC (pc := 57) (y := 16) (ci := 13) (f := 4) (fin := 1) (k' := 624) (by decide +kernel) (by decide +kernel) (by exact ev_ob_621) rfl rfl ?_
      refine ev_r_bipush (pc := 60) (k := 120) (by decide +kernel) (by decide +kernel) ?_
      refine ev_r_iload_n (pc := 62) (k := 2) (v := Int32.ofInt x2) (by decide +kernel) (by exact (ev_lk_st1 ev_lk_st1_self (by decide) rfl)) ?_
      refine ev_r_imul (pc := 63) (by decide +kernel) ?_
      intro x9 hx9
      refine ev_r_iload_n (pc := 64) (k := 3) (v := Int32.ofInt x5) (by decide +kernel) (by exact ev_lk_st1_self) ?_
      refine ev_r_iadd (pc := 65) (by decide +kernel) ?_
      intro x10 hx10
      refine ev_r_iald (pc := 66) hx10 (by decide +kernel) (by exact ev_ab_624) ?_
      intro x11 hx11
      refine ev_r_goto (pc := 67) (o := 4) (t := 71) (by decide +kernel) (by decide +kernel) ?_
      exact ev_r_ireturn (pc := 71) (x := x11) (v := Int32.ofInt x11) (ty := .int) hx11 (by decide +kernel) (by decide +kernel) rfl rfl
  · intro c6
    refine ev_r_iload_n (pc := 27) (k := 3) (v := Int32.ofInt x5) (by decide +kernel) (by exact ev_lk_st1_self) ?_
    refine ev_r_aload_n (pc := 28) (k := 0) (v := .ref 621) trivial (by decide +kernel) (by exact (ev_l1 (ev_l1 (by rfl) (by decide) (by decide)) (by decide) (by decide))) ?_
    refine ev_r_getI (pc := 29) (y := 346) (ci := 13) (f := 1) (fin := 0) (by decide +kernel) (by decide +kernel) (by exact ev_ob_621) rfl ?_
    intro x12 hx12
    refine ev_r_icmp (pc := 32) (q := .ge) (o := 12) (t := 44) (c := x12 ≤ x5) (by decide +kernel) (ev_k_ge hx5 hx12) (by decide +kernel) ?_ ?_
    · intro c13
      refine ev_r_iconst (pc := 44) (k := -1) (by decide +kernel) ?_
      exact ev_r_ireturn (pc := 45) (x := (-1)) (v := Int32.ofInt ((-1))) (ty := .int) (by decide) (by decide +kernel) (by decide +kernel) rfl rfl
    · intro c13
      refine ev_r_aload_n (pc := 35) (k := 0) (v := .ref 621) trivial (by decide +kernel) (by exact (ev_l1 (ev_l1 (by rfl) (by decide) (by decide)) (by decide) (by decide))) ?_
      refine ev_r_getC (pc := 36) (y := 7) (ci := 13) (f := 2) (fin := 1) (k' := 622) (by decide +kernel) (by decide +kernel) (by exact ev_ob_621) rfl rfl ?_
      refine ev_r_iload_n (pc := 39) (k := 3) (v := Int32.ofInt x5) (by decide +kernel) (by exact ev_lk_st1_self) ?_
      refine ev_r_iald (pc := 40) hx5 (by decide +kernel) (by exact ev_ab_622) ?_
      intro x14 hx14
      refine ev_r_goto (pc := 41) (o := 4) (t := 45) (by decide +kernel) (by decide +kernel) ?_
      exact ev_r_ireturn (pc := 45) (x := x14) (v := Int32.ofInt x14) (ty := .int) hx14 (by decide +kernel) (by decide +kernel) rfl rfl
/-- MendBenchModel.goes(I)V -/
def jm_234 (Q : Nat) (a0 : Int) (S : ev_St) : Option ((Unit) × ev_St) := ev_b (S.1 621 28) fun x1 => ev_if ((0 : Int) ≤ x1 ∧ x1 < (ev_aln 645 : Int)) (ev_b (S.1 645 (Int.toNat x1)) fun x2 => ev_ck (x2 + a0) fun x3 => ev_if ((0 : Int) ≤ x1 ∧ x1 < (ev_aln 645 : Int)) (ev_b (ev_pI S 645 (Int.toNat x1) x3) fun s4 => some ((), s4)))
theorem jt_234 (d : Nat) (hd : 1 ≤ d) (Q : Nat) (a0 : Int) (ha0 : ev_rng a0) (S : ev_St) (x : Unit) (S' : ev_St) (hJ : jm_234 Q a0 S = some (x, S')) : ev_Ref d 234 [.ref 621, .int (Int32.ofInt a0)] S (ev_eU x) S' (ev_PU x) := by
  obtain ⟨d, rfl⟩ : ∃ e, d = e + 1 := ⟨d - 1, by omega⟩
  refine ev_ref_of (P := ev_PU) (lv := [(0, .ref 621), (1, .int (Int32.ofInt a0))]) (by decide +kernel) (by (try simp only [ev_sum, ev_nv_cat]); first | done | rfl) (by (try simp only [lv_args, ev_nv_cat]); first | done | rfl) ?_ x S' hJ
  unfold jm_234
  refine ev_r_aload_n (pc := 0) (k := 0) (v := .ref 621) trivial (by decide +kernel) (by rfl) ?_
  refine ev_r_getC (pc := 1) (y := 80) (ci := 13) (f := 30) (fin := 1) (k' := 645) (by decide +kernel) (by decide +kernel) (by exact ev_ob_621) rfl rfl ?_
  refine ev_r_aload_n (pc := 4) (k := 0) (v := .ref 621) trivial (by decide +kernel) (by rfl) ?_
  refine ev_r_getI (pc := 5) (y := 349) (ci := 13) (f := 28) (fin := 0) (by decide +kernel) (by decide +kernel) (by exact ev_ob_621) rfl ?_
  intro x1 hx1
  refine ev_r_dup2 (pc := 8) rfl rfl (by decide +kernel) ?_
  refine ev_r_iald (pc := 9) hx1 (by decide +kernel) (by exact ev_ab_645) ?_
  intro x2 hx2
  refine ev_r_iload_n (pc := 10) (k := 1) (v := Int32.ofInt a0) (by decide +kernel) (by rfl) ?_
  refine ev_r_iadd (pc := 11) (by decide +kernel) ?_
  intro x3 hx3
  refine ev_r_iast (pc := 12) hx3 hx1 (by decide +kernel) (by exact ev_ab_645) ?_
  intro s4
  exact ev_r_return (pc := 13) (x := ()) trivial (by decide +kernel) (by decide +kernel) rfl
/-- MendBenchModel.makes(I)I -/
def jm_235 (Q : Nat) (a0 : Int) (S : ev_St) : Option ((Int) × ev_St) := ev_if ((0 : Int) ≤ 12 ∧ 12 < (ev_aln 635 : Int)) (ev_b (S.1 635 (Int.toNat 12)) fun x1 => if x1 ≠ 320 then (ev_bd (jm_232 Q  S) fun x4 s3 => ev_ck (x4 + x1) fun x5 => ev_if ((0 : Int) ≤ x5 ∧ x5 < (ev_aln 625 : Int)) (ev_b (ev_pI s3 625 (Int.toNat x5) a0) fun s6 => ev_if ((0 : Int) ≤ x5 ∧ x5 < (ev_aln 626 : Int)) (ev_b (ev_pI s6 626 (Int.toNat x5) ((-1))) fun s7 => ev_if ((0 : Int) ≤ x5 ∧ x5 < (ev_aln 627 : Int)) (ev_b (ev_pI s7 627 (Int.toNat x5) ((-1))) fun s8 => ev_if ((0 : Int) ≤ x5 ∧ x5 < (ev_aln 628 : Int)) (ev_b (ev_pI s8 628 (Int.toNat x5) 0) fun s9 => ev_if ((0 : Int) ≤ x5 ∧ x5 < (ev_aln 629 : Int)) (ev_b (ev_pI s9 629 (Int.toNat x5) 0) fun s10 => ev_if ((0 : Int) ≤ x5 ∧ x5 < (ev_aln 630 : Int)) (ev_b (ev_pI s10 630 (Int.toNat x5) ((-1))) fun s11 => ev_if ((0 : Int) ≤ x5 ∧ x5 < (ev_aln 631 : Int)) (ev_b (ev_pI s11 631 (Int.toNat x5) 1) fun s12 => ev_if ((0 : Int) ≤ x5 ∧ x5 < (ev_aln 632 : Int)) (ev_b (ev_pI s12 632 (Int.toNat x5) 1) fun s13 => ev_if ((0 : Int) ≤ x5 ∧ x5 < (ev_aln 633 : Int)) (ev_b (ev_pL s13 633 (Int.toNat x5) ((Int64.ofNat ((0 : Fin 2) : Nat)))) fun s14 => ev_if ((0 : Int) ≤ x5 ∧ x5 < (ev_aln 634 : Int)) (ev_b (ev_pL s14 634 (Int.toNat x5) ((Int64.ofNat ((0 : Fin 2) : Nat)))) fun s15 => ev_if ((0 : Int) ≤ 12 ∧ 12 < (ev_aln 635 : Int)) (ev_b (s15.1 635 (Int.toNat 12)) fun x16 => ev_ck (x16 + 1) fun x17 => ev_if ((0 : Int) ≤ 12 ∧ 12 < (ev_aln 635 : Int)) (ev_b (ev_pI s15 635 (Int.toNat 12) x17) fun s18 => some (x1, s18)))))))))))))) else (ev_b (ev_pI S 621 25 1) fun s19 => ev_ck (x1 - 1) fun x20 => some (x20, s19)))
theorem jt_235 (d : Nat) (hd : 2 ≤ d) (Q : Nat) (a0 : Int) (ha0 : ev_rng a0) (S : ev_St) (x : Int) (S' : ev_St) (hJ : jm_235 Q a0 S = some (x, S')) : ev_Ref d 235 [.ref 621, .int (Int32.ofInt a0)] S (ev_eI x) S' (ev_rng x) := by
  obtain ⟨d, rfl⟩ : ∃ e, d = e + 1 := ⟨d - 1, by omega⟩
  refine ev_ref_of (P := ev_rng) (lv := [(0, .ref 621), (1, .int (Int32.ofInt a0))]) (by decide +kernel) (by (try simp only [ev_sum, ev_nv_cat]); first | done | rfl) (by (try simp only [lv_args, ev_nv_cat]); first | done | rfl) ?_ x S' hJ
  unfold jm_235
  refine ev_r_aload_n (pc := 0) (k := 0) (v := .ref 621) trivial (by decide +kernel) (by rfl) ?_
  refine ev_r_getC (pc := 1) (y := 50) (ci := 13) (f := 16) (fin := 1) (k' := 635) (by decide +kernel) (by decide +kernel) (by exact ev_ob_621) rfl rfl ?_
  refine ev_r_bipush (pc := 4) (k := 12) (by decide +kernel) (by decide +kernel) ?_
  refine ev_r_iald (pc := 6) (by decide) (by decide +kernel) (by exact ev_ab_635) ?_
  intro x1 hx1
  refine ev_r_istore_n (pc := 7) (k := 2) (by decide +kernel) (by decide +kernel) rfl ?_
  refine ev_r_iload_n (pc := 8) (k := 2) (v := Int32.ofInt x1) (by decide +kernel) (by exact ev_lk_st1_self) ?_
  refine ev_r_sipush (pc := 9) (k := 320) (by decide +kernel) (by decide +kernel) ?_
  refine ev_r_icmp (pc := 12) (q := .ne) (o := 12) (t := 24) (c := x1 ≠ 320) (by decide +kernel) (ev_k_ne hx1 (by decide)) (by decide +kernel) ?_ ?_
  · intro c2
    refine ev_r_aload_n (pc := 24) (k := 0) (v := .ref 621) trivial (by decide +kernel) (by exact (ev_l1 (by rfl) (by decide) (by decide))) ?_
    refine ev_r_virt (pc := 25) (y := 356) (mi := 232) (na := 0) (k := 621) (as := []) (rest := []) (encc := ev_oI) (Q := ev_rng) (fun x S1 h => jt_232 d (by omega) Q   S x S1 h) (by exact ev_ob_621) (by decide +kernel) (by decide +kernel) (by decide +kernel) (by decide +kernel) rfl (by (try simp only [ev_sum, ev_nv_cat]); first | done | rfl) ?_
    intro x4 s3 hx4
    show ev_w _ _ _ _ _ [.int (Int32.ofInt x4)] _ _ _ _
    refine ev_r_iload_n (pc := 28) (k := 2) (v := Int32.ofInt x1) (by decide +kernel) (by exact ev_lk_st1_self) ?_
    refine ev_r_iadd (pc := 29) (by decide +kernel) ?_
    intro x5 hx5
    refine ev_r_istore_n (pc := 30) (k := 3) (by decide +kernel) (by decide +kernel) rfl ?_
    refine ev_r_aload_n (pc := 31) (k := 0) (v := .ref 621) trivial (by decide +kernel) (by exact (ev_l1 (ev_l1 (by rfl) (by decide) (by decide)) (by decide) (by decide))) ?_
    refine ev_r_getC (pc := 32) (y := 19) (ci := 13) (f := 6) (fin := 1) (k' := 625) (by decide +kernel) (by decide +kernel) (by exact ev_ob_621) rfl rfl ?_
    refine ev_r_iload_n (pc := 35) (k := 3) (v := Int32.ofInt x5) (by decide +kernel) (by exact ev_lk_st1_self) ?_
    refine ev_r_iload_n (pc := 36) (k := 1) (v := Int32.ofInt a0) (by decide +kernel) (by exact (ev_l1 (ev_lk_st1 (by rfl) (by decide) rfl) (by decide) (by decide))) ?_
    refine ev_r_iast (pc := 37) ha0 hx5 (by decide +kernel) (by exact ev_ab_625) ?_
    intro s6
    refine ev_r_aload_n (pc := 38) (k := 0) (v := .ref 621) trivial (by decide +kernel) (by exact (ev_l1 (ev_l1 (by rfl) (by decide) (by decide)) (by decide) (by decide))) ?_
    refine ev_r_getC (pc := 39) (y := 22) (ci := 13) (f := 7) (fin := 1) (k' := 626) (by decide +kernel) (by decide +kernel) (by exact ev_ob_621) rfl rfl ?_
    refine ev_r_iload_n (pc := 42) (k := 3) (v := Int32.ofInt x5) (by decide +kernel) (by exact ev_lk_st1_self) ?_
    refine ev_r_iconst (pc := 43) (k := -1) (by decide +kernel) ?_
    refine ev_r_iast (pc := 44) (by decide) hx5 (by decide +kernel) (by exact ev_ab_626) ?_
    intro s7
    refine ev_r_aload_n (pc := 45) (k := 0) (v := .ref 621) trivial (by decide +kernel) (by exact (ev_l1 (ev_l1 (by rfl) (by decide) (by decide)) (by decide) (by decide))) ?_
    refine ev_r_getC (pc := 46) (y := 25) (ci := 13) (f := 8) (fin := 1) (k' := 627) (by decide +kernel) (by decide +kernel) (by exact ev_ob_621) rfl rfl ?_
    refine ev_r_iload_n (pc := 49) (k := 3) (v := Int32.ofInt x5) (by decide +kernel) (by exact ev_lk_st1_self) ?_
    refine ev_r_iconst (pc := 50) (k := -1) (by decide +kernel) ?_
    refine ev_r_iast (pc := 51) (by decide) hx5 (by decide +kernel) (by exact ev_ab_627) ?_
    intro s8
    refine ev_r_aload_n (pc := 52) (k := 0) (v := .ref 621) trivial (by decide +kernel) (by exact (ev_l1 (ev_l1 (by rfl) (by decide) (by decide)) (by decide) (by decide))) ?_
    refine ev_r_getC (pc := 53) (y := 28) (ci := 13) (f := 9) (fin := 1) (k' := 628) (by decide +kernel) (by decide +kernel) (by exact ev_ob_621) rfl rfl ?_
    refine ev_r_iload_n (pc := 56) (k := 3) (v := Int32.ofInt x5) (by decide +kernel) (by exact ev_lk_st1_self) ?_
    refine ev_r_iconst (pc := 57) (k := 0) (by decide +kernel) ?_
    refine ev_r_iast (pc := 58) (by decide) hx5 (by decide +kernel) (by exact ev_ab_628) ?_
    intro s9
    refine ev_r_aload_n (pc := 59) (k := 0) (v := .ref 621) trivial (by decide +kernel) (by exact (ev_l1 (ev_l1 (by rfl) (by decide) (by decide)) (by decide) (by decide))) ?_
    refine ev_r_getC (pc := 60) (y := 31) (ci := 13) (f := 10) (fin := 1) (k' := 629) (by decide +kernel) (by decide +kernel) (by exact ev_ob_621) rfl rfl ?_
    refine ev_r_iload_n (pc := 63) (k := 3) (v := Int32.ofInt x5) (by decide +kernel) (by exact ev_lk_st1_self) ?_
    refine ev_r_iconst (pc := 64) (k := 0) (by decide +kernel) ?_
    refine ev_r_iast (pc := 65) (by decide) hx5 (by decide +kernel) (by exact ev_ab_629) ?_
    intro s10
    refine ev_r_aload_n (pc := 66) (k := 0) (v := .ref 621) trivial (by decide +kernel) (by exact (ev_l1 (ev_l1 (by rfl) (by decide) (by decide)) (by decide) (by decide))) ?_
    refine ev_r_getC (pc := 67) (y := 34) (ci := 13) (f := 11) (fin := 1) (k' := 630) (by decide +kernel) (by decide +kernel) (by exact ev_ob_621) rfl rfl ?_
    refine ev_r_iload_n (pc := 70) (k := 3) (v := Int32.ofInt x5) (by decide +kernel) (by exact ev_lk_st1_self) ?_
    refine ev_r_iconst (pc := 71) (k := -1) (by decide +kernel) ?_
    refine ev_r_iast (pc := 72) (by decide) hx5 (by decide +kernel) (by exact ev_ab_630) ?_
    intro s11
    refine ev_r_aload_n (pc := 73) (k := 0) (v := .ref 621) trivial (by decide +kernel) (by exact (ev_l1 (ev_l1 (by rfl) (by decide) (by decide)) (by decide) (by decide))) ?_
    refine ev_r_getC (pc := 74) (y := 37) (ci := 13) (f := 12) (fin := 1) (k' := 631) (by decide +kernel) (by decide +kernel) (by exact ev_ob_621) rfl rfl ?_
    refine ev_r_iload_n (pc := 77) (k := 3) (v := Int32.ofInt x5) (by decide +kernel) (by exact ev_lk_st1_self) ?_
    refine ev_r_iconst (pc := 78) (k := 1) (by decide +kernel) ?_
    refine ev_r_iast (pc := 79) (by decide) hx5 (by decide +kernel) (by exact ev_ab_631) ?_
    intro s12
    refine ev_r_aload_n (pc := 80) (k := 0) (v := .ref 621) trivial (by decide +kernel) (by exact (ev_l1 (ev_l1 (by rfl) (by decide) (by decide)) (by decide) (by decide))) ?_
    refine ev_r_getC (pc := 81) (y := 40) (ci := 13) (f := 13) (fin := 1) (k' := 632) (by decide +kernel) (by decide +kernel) (by exact ev_ob_621) rfl rfl ?_
    refine ev_r_iload_n (pc := 84) (k := 3) (v := Int32.ofInt x5) (by decide +kernel) (by exact ev_lk_st1_self) ?_
    refine ev_r_iconst (pc := 85) (k := 1) (by decide +kernel) ?_
    refine ev_r_iast (pc := 86) (by decide) hx5 (by decide +kernel) (by exact ev_ab_632) ?_
    intro s13
    refine ev_r_aload_n (pc := 87) (k := 0) (v := .ref 621) trivial (by decide +kernel) (by exact (ev_l1 (ev_l1 (by rfl) (by decide) (by decide)) (by decide) (by decide))) ?_
    refine ev_r_getC (pc := 88) (y := 43) (ci := 13) (f := 14) (fin := 1) (k' := 633) (by decide +kernel) (by decide +kernel) (by exact ev_ob_621) rfl rfl ?_
    refine ev_r_iload_n (pc := 91) (k := 3) (v := Int32.ofInt x5) (by decide +kernel) (by exact ev_lk_st1_self) ?_
    refine ev_r_lconst (pc := 92) (c := 0) (by decide +kernel) ?_
    refine ev_r_last (pc := 93) hx5 (by decide +kernel) (by exact ev_ab_633) ?_
    intro s14
    refine ev_r_aload_n (pc := 94) (k := 0) (v := .ref 621) trivial (by decide +kernel) (by exact (ev_l1 (ev_l1 (by rfl) (by decide) (by decide)) (by decide) (by decide))) ?_
    refine ev_r_getC (pc := 95) (y := 47) (ci := 13) (f := 15) (fin := 1) (k' := 634) (by decide +kernel) (by decide +kernel) (by exact ev_ob_621) rfl rfl ?_
    refine ev_r_iload_n (pc := 98) (k := 3) (v := Int32.ofInt x5) (by decide +kernel) (by exact ev_lk_st1_self) ?_
    refine ev_r_lconst (pc := 99) (c := 0) (by decide +kernel) ?_
    refine ev_r_last (pc := 100) hx5 (by decide +kernel) (by exact ev_ab_634) ?_
    intro s15
    refine ev_r_aload_n (pc := 101) (k := 0) (v := .ref 621) trivial (by decide +kernel) (by exact (ev_l1 (ev_l1 (by rfl) (by decide) (by decide)) (by decide) (by decide))) ?_
    refine ev_r_getC (pc := 102) (y := 50) (ci := 13) (f := 16) (fin := 1) (k' := 635) (by decide +kernel) (by decide +kernel) (by exact ev_ob_621) rfl rfl ?_
    refine ev_r_bipush (pc := 105) (k := 12) (by decide +kernel) (by decide +kernel) ?_
    refine ev_r_dup2 (pc := 107) rfl rfl (by decide +kernel) ?_
    refine ev_r_iald (pc := 108) (by decide) (by decide +kernel) (by exact ev_ab_635) ?_
    intro x16 hx16
    refine ev_r_iconst (pc := 109) (k := 1) (by decide +kernel) ?_
    refine ev_r_iadd (pc := 110) (by decide +kernel) ?_
    intro x17 hx17
    refine ev_r_iast (pc := 111) hx17 (by decide) (by decide +kernel) (by exact ev_ab_635) ?_
    intro s18
    refine ev_r_iload_n (pc := 112) (k := 2) (v := Int32.ofInt x1) (by decide +kernel) (by exact (ev_lk_st1 ev_lk_st1_self (by decide) rfl)) ?_
    exact ev_r_ireturn (pc := 113) (x := x1) (v := Int32.ofInt x1) (ty := .int) hx1 (by decide +kernel) (by decide +kernel) rfl rfl
  · intro c2
    refine ev_r_aload_n (pc := 15) (k := 0) (v := .ref 621) trivial (by decide +kernel) (by exact (ev_l1 (by rfl) (by decide) (by decide))) ?_
    refine ev_r_iconst (pc := 16) (k := 1) (by decide +kernel) ?_
    refine ev_r_putI (pc := 17) (y := 352) (ci := 13) (f := 25) (by decide) (by decide +kernel) (by decide +kernel) (by exact ev_ob_621) rfl (ev_fit_bl (by decide : ev_bl 1)) ?_
    intro s19
    refine ev_r_iload_n (pc := 20) (k := 2) (v := Int32.ofInt x1) (by decide +kernel) (by exact ev_lk_st1_self) ?_
    refine ev_r_iconst (pc := 21) (k := 1) (by decide +kernel) ?_
    refine ev_r_isub (pc := 22) (by decide +kernel) ?_
    intro x20 hx20
    exact ev_r_ireturn (pc := 23) (x := x20) (v := Int32.ofInt x20) (ty := .int) hx20 (by decide +kernel) (by decide +kernel) rfl rfl
/-- MendBenchModel.counts()V -/
def jm_236 (Q : Nat)  (S : ev_St) : Option ((Unit) × ev_St) := ev_b (S.1 621 27) fun x1 => ev_ck (x1 + 1) fun x2 => ev_b (ev_pI S 621 27 x2) fun s3 => ev_b (s3.1 621 25) fun x4 => if x4 ≠ 0 then (ev_b (ev_pI s3 621 25 1) fun s6 => some ((), s6)) else (ev_b (s3.1 621 27) fun x7 => if x7 ≤ 150 then (ev_b (ev_pI s3 621 25 0) fun s9 => some ((), s9)) else (ev_b (ev_pI s3 621 25 1) fun s10 => some ((), s10)))
theorem jt_236 (d : Nat) (hd : 1 ≤ d) (Q : Nat)   (S : ev_St) (x : Unit) (S' : ev_St) (hJ : jm_236 Q  S = some (x, S')) : ev_Ref d 236 [.ref 621] S (ev_eU x) S' (ev_PU x) := by
  obtain ⟨d, rfl⟩ : ∃ e, d = e + 1 := ⟨d - 1, by omega⟩
  refine ev_ref_of (P := ev_PU) (lv := [(0, .ref 621)]) (by decide +kernel) (by (try simp only [ev_sum, ev_nv_cat]); first | done | rfl) (by (try simp only [lv_args, ev_nv_cat]); first | done | rfl) ?_ x S' hJ
  unfold jm_236
  refine ev_r_aload_n (pc := 0) (k := 0) (v := .ref 621) trivial (by decide +kernel) (by rfl) ?_
  refine ev_r_dup (pc := 1) rfl (by decide +kernel) ?_
  refine ev_r_getI (pc := 2) (y := 360) (ci := 13) (f := 27) (fin := 0) (by decide +kernel) (by decide +kernel) (by exact ev_ob_621) rfl ?_
  intro x1 hx1
  refine ev_r_iconst (pc := 5) (k := 1) (by decide +kernel) ?_
  refine ev_r_iadd (pc := 6) (by decide +kernel) ?_
  intro x2 hx2
  refine ev_r_putI (pc := 7) (y := 360) (ci := 13) (f := 27) hx2 (by decide +kernel) (by decide +kernel) (by exact ev_ob_621) rfl rfl ?_
  intro s3
  refine ev_r_aload_n (pc := 10) (k := 0) (v := .ref 621) trivial (by decide +kernel) (by rfl) ?_
  refine ev_r_aload_n (pc := 11) (k := 0) (v := .ref 621) trivial (by decide +kernel) (by rfl) ?_
  refine ev_r_getI (pc := 12) (y := 352) (ci := 13) (f := 25) (fin := 0) (by decide +kernel) (by decide +kernel) (by exact ev_ob_621) rfl ?_
  intro x4 hx4
  refine ev_r_if (pc := 15) (q := .ne) (o := 13) (t := 28) (c := x4 ≠ 0) (by decide +kernel) (ev_k_ne hx4 ev_rng0) (by decide +kernel) ?_ ?_
  · intro c5
    refine ev_r_iconst (pc := 28) (k := 1) (by decide +kernel) ?_
    refine ev_r_goto (pc := 29) (o := 4) (t := 33) (by decide +kernel) (by decide +kernel) ?_
    refine ev_r_putI (pc := 33) (y := 352) (ci := 13) (f := 25) (by decide) (by decide +kernel) (by decide +kernel) (by exact ev_ob_621) rfl (ev_fit_bl (by decide : ev_bl 1)) ?_
    intro s6
    exact ev_r_return (pc := 36) (x := ()) trivial (by decide +kernel) (by decide +kernel) rfl
  · intro c5
    refine ev_r_aload_n (pc := 18) (k := 0) (v := .ref 621) trivial (by decide +kernel) (by rfl) ?_
    refine ev_r_getI (pc := 19) (y := 360) (ci := 13) (f := 27) (fin := 0) (by decide +kernel) (by decide +kernel) (by exact ev_ob_621) rfl ?_
    intro x7 hx7
    refine ev_r_sipush (pc := 22) (k := 150) (by decide +kernel) (by decide +kernel) ?_
    refine ev_r_icmp (pc := 25) (q := .le) (o := 7) (t := 32) (c := x7 ≤ 150) (by decide +kernel) (ev_k_le hx7 (by decide)) (by decide +kernel) ?_ ?_
    · intro c8
      refine ev_r_iconst (pc := 32) (k := 0) (by decide +kernel) ?_
      refine ev_r_putI (pc := 33) (y := 352) (ci := 13) (f := 25) (by decide) (by decide +kernel) (by decide +kernel) (by exact ev_ob_621) rfl (ev_fit_bl (by decide : ev_bl 0)) ?_
      intro s9
      exact ev_r_return (pc := 36) (x := ()) trivial (by decide +kernel) (by decide +kernel) rfl
    · intro c8
      refine ev_r_iconst (pc := 28) (k := 1) (by decide +kernel) ?_
      refine ev_r_goto (pc := 29) (o := 4) (t := 33) (by decide +kernel) (by decide +kernel) ?_
      refine ev_r_putI (pc := 33) (y := 352) (ci := 13) (f := 25) (by decide) (by decide +kernel) (by decide +kernel) (by exact ev_ob_621) rfl (ev_fit_bl (by decide : ev_bl 1)) ?_
      intro s10
      exact ev_r_return (pc := 36) (x := ()) trivial (by decide +kernel) (by decide +kernel) rfl
/-- MendBenchModel.adds(I)I -/
def jm_237 (Q : Nat) (a0 : Int) (S : ev_St) : Option ((Int) × ev_St) := ev_bd (jm_235 Q a0 S) fun x2 s1 => ev_bd (jm_236 Q  s1) fun _ s3 => ev_b (s3.1 621 38) fun x4 => ev_jn (fun (x5 : Int) (s9 : ev_St) => ev_b (ev_pI s9 621 38 x5) fun s10 => ev_b (ev_pI s10 621 39 x5) fun s11 => some (x5, s11)) fun K51 => if x4 ≠ (-1) then (ev_bd (jm_232 Q  s3) fun x14 s13 => ev_b (s13.1 621 38) fun x15 => ev_ck (x14 + x15) fun x16 => ev_if ((0 : Int) ≤ x16 ∧ x16 < (ev_aln 627 : Int)) (ev_b (ev_pI s13 627 (Int.toNat x16) x2) fun s17 => K51 x2 s17)) else (ev_bd (jm_232 Q  s3) fun x19 s18 => ev_b (s18.1 621 37) fun x20 => ev_ck (x19 + x20) fun x21 => ev_if ((0 : Int) ≤ x21 ∧ x21 < (ev_aln 626 : Int)) (ev_b (ev_pI s18 626 (Int.toNat x21) x2) fun s22 => K51 x2 s22))
theorem jt_237 (d : Nat) (hd : 3 ≤ d) (Q : Nat) (a0 : Int) (ha0 : ev_rng a0) (S : ev_St) (x : Int) (S' : ev_St) (hJ : jm_237 Q a0 S = some (x, S')) : ev_Ref d 237 [.ref 621, .int (Int32.ofInt a0)] S (ev_eI x) S' (ev_rng x) := by
  obtain ⟨d, rfl⟩ : ∃ e, d = e + 1 := ⟨d - 1, by omega⟩
  refine ev_ref_of (P := ev_rng) (lv := [(0, .ref 621), (1, .int (Int32.ofInt a0))]) (by decide +kernel) (by (try simp only [ev_sum, ev_nv_cat]); first | done | rfl) (by (try simp only [lv_args, ev_nv_cat]); first | done | rfl) ?_ x S' hJ
  unfold jm_237
  refine ev_r_aload_n (pc := 0) (k := 0) (v := .ref 621) trivial (by decide +kernel) (by rfl) ?_
  refine ev_r_iload_n (pc := 1) (k := 1) (v := Int32.ofInt a0) (by decide +kernel) (by rfl) ?_
  refine ev_r_virt (pc := 2) (y := 363) (mi := 235) (na := 1) (k := 621) (as := [.int (Int32.ofInt a0)]) (rest := []) (encc := ev_oI) (Q := ev_rng) (fun x S1 h => jt_235 d (by omega) Q a0 ha0 S x S1 h) (by exact ev_ob_621) (by decide +kernel) (by decide +kernel) (by decide +kernel) (by decide +kernel) rfl (by (try simp only [ev_sum, ev_nv_cat]); first | done | rfl) ?_
  intro x2 s1 hx2
  show ev_w _ _ _ _ _ [.int (Int32.ofInt x2)] _ _ _ _
  refine ev_r_istore_n (pc := 5) (k := 2) (by decide +kernel) (by decide +kernel) rfl ?_
  refine ev_r_aload_n (pc := 6) (k := 0) (v := .ref 621) trivial (by decide +kernel) (by exact (ev_l1 (by rfl) (by decide) (by decide))) ?_
  refine ev_r_virt (pc := 7) (y := 366) (mi := 236) (na := 0) (k := 621) (as := []) (rest := []) (encc := ev_oU) (Q := ev_PU) (fun x S1 h => jt_236 d (by omega) Q   s1 x S1 h) (by exact ev_ob_621) (by decide +kernel) (by decide +kernel) (by decide +kernel) (by decide +kernel) rfl (by (try simp only [ev_sum, ev_nv_cat]); first | done | rfl) ?_
  intro _ s3 _
  show ev_w _ _ _ _ _ [] _ _ _ _
  refine ev_r_aload_n (pc := 10) (k := 0) (v := .ref 621) trivial (by decide +kernel) (by exact (ev_l1 (by rfl) (by decide) (by decide))) ?_
  refine ev_r_getI (pc := 11) (y := 369) (ci := 13) (f := 38) (fin := 0) (by decide +kernel) (by decide +kernel) (by exact ev_ob_621) rfl ?_
  intro x4 hx4
  refine ev_r_iconst (pc := 14) (k := -1) (by decide +kernel) ?_
  refine ev_r_jn (Q := fun K => ∀ (x5 : Int) (hx5 : ev_rng x5), ∀ (s9 : ev_St) (w6 : List (Nat × Value)), ev_lk w6 0 = some (.ref 621) → ev_lk w6 2 = some (.int (Int32.ofInt x5)) → ev_w none (ev_Mof 237) d 51 w6 [] s9 (K x5 s9) ev_eI ev_rng) ?_ ?_
  · intro x5 hx5 s9 w6 e7 e8
    refine ev_r_aload_n (pc := 51) (k := 0) (v := .ref 621) trivial (by decide +kernel) (by exact e7) ?_
    refine ev_r_iload_n (pc := 52) (k := 2) (v := Int32.ofInt x5) (by decide +kernel) (by exact e8) ?_
    refine ev_r_putI (pc := 53) (y := 369) (ci := 13) (f := 38) hx5 (by decide +kernel) (by decide +kernel) (by exact ev_ob_621) rfl rfl ?_
    intro s10
    refine ev_r_aload_n (pc := 56) (k := 0) (v := .ref 621) trivial (by decide +kernel) (by exact e7) ?_
    refine ev_r_iload_n (pc := 57) (k := 2) (v := Int32.ofInt x5) (by decide +kernel) (by exact e8) ?_
    refine ev_r_putI (pc := 58) (y := 375) (ci := 13) (f := 39) hx5 (by decide +kernel) (by decide +kernel) (by exact ev_ob_621) rfl rfl ?_
    intro s11
    refine ev_r_iload_n (pc := 61) (k := 2) (v := Int32.ofInt x5) (by decide +kernel) (by exact e8) ?_
    exact ev_r_ireturn (pc := 62) (x := x5) (v := Int32.ofInt x5) (ty := .int) hx5 (by decide +kernel) (by decide +kernel) rfl rfl
  · intro K51 hK51
    refine ev_r_icmp (pc := 15) (q := .ne) (o := 21) (t := 36) (c := x4 ≠ (-1)) (by decide +kernel) (ev_k_ne hx4 (by decide)) (by decide +kernel) ?_ ?_
    · intro c12
      refine ev_r_aload_n (pc := 36) (k := 0) (v := .ref 621) trivial (by decide +kernel) (by exact (ev_l1 (by rfl) (by decide) (by decide))) ?_
      refine ev_r_getC (pc := 37) (y := 25) (ci := 13) (f := 8) (fin := 1) (k' := 627) (by decide +kernel) (by decide +kernel) (by exact ev_ob_621) rfl rfl ?_
      refine ev_r_aload_n (pc := 40) (k := 0) (v := .ref 621) trivial (by decide +kernel) (by exact (ev_l1 (by rfl) (by decide) (by decide))) ?_
      refine ev_r_virt (pc := 41) (y := 356) (mi := 232) (na := 0) (k := 621) (as := []) (rest := [.ref 627]) (encc := ev_oI) (Q := ev_rng) (fun x S1 h => jt_232 d (by omega) Q   s3 x S1 h) (by exact ev_ob_621) (by decide +kernel) (by decide +kernel) (by decide +kernel) (by decide +kernel) rfl (by (try simp only [ev_sum, ev_nv_cat]); first | done | rfl) ?_
      intro x14 s13 hx14
      show ev_w _ _ _ _ _ [.int (Int32.ofInt x14), .ref 627] _ _ _ _
      refine ev_r_aload_n (pc := 44) (k := 0) (v := .ref 621) trivial (by decide +kernel) (by exact (ev_l1 (by rfl) (by decide) (by decide))) ?_
      refine ev_r_getI (pc := 45) (y := 369) (ci := 13) (f := 38) (fin := 0) (by decide +kernel) (by decide +kernel) (by exact ev_ob_621) rfl ?_
      intro x15 hx15
      refine ev_r_iadd (pc := 48) (by decide +kernel) ?_
      intro x16 hx16
      refine ev_r_iload_n (pc := 49) (k := 2) (v := Int32.ofInt x2) (by decide +kernel) (by exact ev_lk_st1_self) ?_
      refine ev_r_iast (pc := 50) hx2 hx16 (by decide +kernel) (by exact ev_ab_627) ?_
      intro s17
      exact hK51 x2 hx2 s17 _ (by exact (ev_l1 (by rfl) (by decide) (by decide))) (by exact ev_lk_st1_self)
    · intro c12
      refine ev_r_aload_n (pc := 18) (k := 0) (v := .ref 621) trivial (by decide +kernel) (by exact (ev_l1 (by rfl) (by decide) (by decide))) ?_
      refine ev_r_getC (pc := 19) (y := 22) (ci := 13) (f := 7) (fin := 1) (k' := 626) (by decide +kernel) (by decide +kernel) (by exact ev_ob_621) rfl rfl ?_
      refine ev_r_aload_n (pc := 22) (k := 0) (v := .ref 621) trivial (by decide +kernel) (by exact (ev_l1 (by rfl) (by decide) (by decide))) ?_
      refine ev_r_virt (pc := 23) (y := 356) (mi := 232) (na := 0) (k := 621) (as := []) (rest := [.ref 626]) (encc := ev_oI) (Q := ev_rng) (fun x S1 h => jt_232 d (by omega) Q   s3 x S1 h) (by exact ev_ob_621) (by decide +kernel) (by decide +kernel) (by decide +kernel) (by decide +kernel) rfl (by (try simp only [ev_sum, ev_nv_cat]); first | done | rfl) ?_
      intro x19 s18 hx19
      show ev_w _ _ _ _ _ [.int (Int32.ofInt x19), .ref 626] _ _ _ _
      refine ev_r_aload_n (pc := 26) (k := 0) (v := .ref 621) trivial (by decide +kernel) (by exact (ev_l1 (by rfl) (by decide) (by decide))) ?_
      refine ev_r_getI (pc := 27) (y := 372) (ci := 13) (f := 37) (fin := 0) (by decide +kernel) (by decide +kernel) (by exact ev_ob_621) rfl ?_
      intro x20 hx20
      refine ev_r_iadd (pc := 30) (by decide +kernel) ?_
      intro x21 hx21
      refine ev_r_iload_n (pc := 31) (k := 2) (v := Int32.ofInt x2) (by decide +kernel) (by exact ev_lk_st1_self) ?_
      refine ev_r_iast (pc := 32) hx2 hx21 (by decide +kernel) (by exact ev_ab_626) ?_
      intro s22
      refine ev_r_goto (pc := 33) (o := 18) (t := 51) (by decide +kernel) (by decide +kernel) ?_
      exact hK51 x2 hx2 s22 _ (by exact (ev_l1 (by rfl) (by decide) (by decide))) (by exact ev_lk_st1_self)
/-- MendBenchModel.addsSet(JJ)V -/
def jm_238 (Q : Nat) (a0 : Int64) (a1 : Int64) (S : ev_St) : Option ((Unit) × ev_St) := ev_bd (jm_232 Q  S) fun x2 s1 => ev_bd (jm_237 Q 0 s1) fun x4 s3 => ev_ck (x2 + x4) fun x5 => ev_if ((0 : Int) ≤ x5 ∧ x5 < (ev_aln 633 : Int)) (ev_b (ev_pL s3 633 (Int.toNat x5) a0) fun s6 => ev_if ((0 : Int) ≤ x5 ∧ x5 < (ev_aln 634 : Int)) (ev_b (ev_pL s6 634 (Int.toNat x5) a1) fun s7 => some ((), s7)))
theorem jt_238 (d : Nat) (hd : 4 ≤ d) (Q : Nat) (a0 : Int64) (a1 : Int64)  (S : ev_St) (x : Unit) (S' : ev_St) (hJ : jm_238 Q a0 a1 S = some (x, S')) : ev_Ref d 238 [.ref 621, .long a0, .long a1] S (ev_eU x) S' (ev_PU x) := by
  obtain ⟨d, rfl⟩ : ∃ e, d = e + 1 := ⟨d - 1, by omega⟩
  refine ev_ref_of (P := ev_PU) (lv := [(0, .ref 621), (1, .long a0), (3, .long a1)]) (by decide +kernel) (by (try simp only [ev_sum, ev_nv_cat]); first | done | rfl) (by (try simp only [lv_args, ev_nv_cat]); first | done | rfl) ?_ x S' hJ
  unfold jm_238
  refine ev_r_aload_n (pc := 0) (k := 0) (v := .ref 621) trivial (by decide +kernel) (by rfl) ?_
  refine ev_r_virt (pc := 1) (y := 356) (mi := 232) (na := 0) (k := 621) (as := []) (rest := []) (encc := ev_oI) (Q := ev_rng) (fun x S1 h => jt_232 d (by omega) Q   S x S1 h) (by exact ev_ob_621) (by decide +kernel) (by decide +kernel) (by decide +kernel) (by decide +kernel) rfl (by (try simp only [ev_sum, ev_nv_cat]); first | done | rfl) ?_
  intro x2 s1 hx2
  show ev_w _ _ _ _ _ [.int (Int32.ofInt x2)] _ _ _ _
  refine ev_r_aload_n (pc := 4) (k := 0) (v := .ref 621) trivial (by decide +kernel) (by rfl) ?_
  refine ev_r_iconst (pc := 5) (k := 0) (by decide +kernel) ?_
  refine ev_r_virt (pc := 6) (y := 378) (mi := 237) (na := 1) (k := 621) (as := [.int (Int32.ofInt 0)]) (rest := [.int (Int32.ofInt x2)]) (encc := ev_oI) (Q := ev_rng) (fun x S1 h => jt_237 d (by omega) Q 0 (by decide) s1 x S1 h) (by exact ev_ob_621) (by decide +kernel) (by decide +kernel) (by decide +kernel) (by decide +kernel) rfl (by (try simp only [ev_sum, ev_nv_cat]); first | done | rfl) ?_
  intro x4 s3 hx4
  show ev_w _ _ _ _ _ [.int (Int32.ofInt x4), .int (Int32.ofInt x2)] _ _ _ _
  refine ev_r_iadd (pc := 9) (by decide +kernel) ?_
  intro x5 hx5
  refine ev_r_istore (pc := 10) (k := 5) (by decide +kernel) (by decide +kernel) rfl ?_
  refine ev_r_aload_n (pc := 12) (k := 0) (v := .ref 621) trivial (by decide +kernel) (by exact (ev_l1 (by rfl) (by decide) (by decide))) ?_
  refine ev_r_getC (pc := 13) (y := 43) (ci := 13) (f := 14) (fin := 1) (k' := 633) (by decide +kernel) (by decide +kernel) (by exact ev_ob_621) rfl rfl ?_
  refine ev_r_iload (pc := 16) (k := 5) (v := Int32.ofInt x5) (by decide +kernel) (by exact ev_lk_st1_self) ?_
  refine ev_r_lload_n (pc := 18) (k := 1) (v := a0) (by decide +kernel) (by exact (ev_l1 (by rfl) (by decide) (by decide))) ?_
  refine ev_r_last (pc := 19) hx5 (by decide +kernel) (by exact ev_ab_633) ?_
  intro s6
  refine ev_r_aload_n (pc := 20) (k := 0) (v := .ref 621) trivial (by decide +kernel) (by exact (ev_l1 (by rfl) (by decide) (by decide))) ?_
  refine ev_r_getC (pc := 21) (y := 47) (ci := 13) (f := 15) (fin := 1) (k' := 634) (by decide +kernel) (by decide +kernel) (by exact ev_ob_621) rfl rfl ?_
  refine ev_r_iload (pc := 24) (k := 5) (v := Int32.ofInt x5) (by decide +kernel) (by exact ev_lk_st1_self) ?_
  refine ev_r_lload_n (pc := 26) (k := 3) (v := a1) (by decide +kernel) (by exact (ev_l1 (by rfl) (by decide) (by decide))) ?_
  refine ev_r_last (pc := 27) hx5 (by decide +kernel) (by exact ev_ab_634) ?_
  intro s7
  exact ev_r_return (pc := 28) (x := ()) trivial (by decide +kernel) (by decide +kernel) rfl
/-- MendBenchModel.opens(IZ)V -/
def jm_239 (Q : Nat) (a0 : Int) (a1 : Int) (S : ev_St) : Option ((Unit) × ev_St) := ev_b (S.1 621 31) fun x1 => if x1 ≠ 160 then (ev_b (S.1 621 31) fun x3 => ev_if ((0 : Int) ≤ x3 ∧ x3 < (ev_aln 646 : Int)) (ev_b (ev_pI S 646 (Int.toNat x3) a0) fun s4 => ev_b (s4.1 621 31) fun x5 => ev_b (s4.1 621 37) fun x6 => ev_if ((0 : Int) ≤ x5 ∧ x5 < (ev_aln 647 : Int)) (ev_b (ev_pI s4 647 (Int.toNat x5) x6) fun s7 => ev_b (s7.1 621 31) fun x8 => ev_b (s7.1 621 38) fun x9 => ev_if ((0 : Int) ≤ x8 ∧ x8 < (ev_aln 648 : Int)) (ev_b (ev_pI s7 648 (Int.toNat x8) x9) fun s10 => ev_b (s10.1 621 31) fun x11 => ev_b (s10.1 621 40) fun x12 => ev_if ((0 : Int) ≤ x11 ∧ x11 < (ev_aln 649 : Int)) (ev_b (ev_pI s10 649 (Int.toNat x11) x12) fun s13 => ev_b (s13.1 621 31) fun x14 => ev_if (ev_bl a1) (ev_if ((0 : Int) ≤ x14 ∧ x14 < (ev_aln 650 : Int)) (ev_b (ev_pI s13 650 (Int.toNat x14) a1) fun s15 => ev_b (s15.1 621 31) fun x17 => ev_ck (x17 + 1) fun x18 => ev_b (ev_pI s15 621 31 x18) fun s19 => ev_bd (jm_235 Q 18 s19) fun x21 s20 => ev_b (ev_pI s20 621 37 x21) fun s22 => ev_bd (jm_232 Q  s22) fun x24 s23 => ev_ck (x24 + a0) fun x25 => ev_b (s23.1 621 37) fun x26 => ev_if ((0 : Int) ≤ x25 ∧ x25 < (ev_aln 626 : Int)) (ev_b (ev_pI s23 626 (Int.toNat x25) x26) fun s27 => ev_b (ev_pI s27 621 38 ((-1))) fun s28 => ev_b (ev_pI s28 621 39 ((-1))) fun s29 => some ((), s29))))))))) else (ev_b (ev_pI S 621 25 1) fun s30 => some ((), s30))
theorem jt_239 (d : Nat) (hd : 3 ≤ d) (Q : Nat) (a0 : Int) (a1 : Int) (ha0 : ev_rng a0) (ha1 : ev_rng a1) (S : ev_St) (x : Unit) (S' : ev_St) (hJ : jm_239 Q a0 a1 S = some (x, S')) : ev_Ref d 239 [.ref 621, .int (Int32.ofInt a0), .int (Int32.ofInt a1)] S (ev_eU x) S' (ev_PU x) := by
  obtain ⟨d, rfl⟩ : ∃ e, d = e + 1 := ⟨d - 1, by omega⟩
  refine ev_ref_of (P := ev_PU) (lv := [(0, .ref 621), (1, .int (Int32.ofInt a0)), (2, .int (Int32.ofInt a1))]) (by decide +kernel) (by (try simp only [ev_sum, ev_nv_cat]); first | done | rfl) (by (try simp only [lv_args, ev_nv_cat]); first | done | rfl) ?_ x S' hJ
  unfold jm_239
  refine ev_r_aload_n (pc := 0) (k := 0) (v := .ref 621) trivial (by decide +kernel) (by rfl) ?_
  refine ev_r_getI (pc := 1) (y := 381) (ci := 13) (f := 31) (fin := 0) (by decide +kernel) (by decide +kernel) (by exact ev_ob_621) rfl ?_
  intro x1 hx1
  refine ev_r_sipush (pc := 4) (k := 160) (by decide +kernel) (by decide +kernel) ?_
  refine ev_r_icmp (pc := 7) (q := .ne) (o := 9) (t := 16) (c := x1 ≠ 160) (by decide +kernel) (ev_k_ne hx1 (by decide)) (by decide +kernel) ?_ ?_
  · intro c2
    refine ev_r_aload_n (pc := 16) (k := 0) (v := .ref 621) trivial (by decide +kernel) (by rfl) ?_
    refine ev_r_getC (pc := 17) (y := 83) (ci := 13) (f := 32) (fin := 1) (k' := 646) (by decide +kernel) (by decide +kernel) (by exact ev_ob_621) rfl rfl ?_
    refine ev_r_aload_n (pc := 20) (k := 0) (v := .ref 621) trivial (by decide +kernel) (by rfl) ?_
    refine ev_r_getI (pc := 21) (y := 381) (ci := 13) (f := 31) (fin := 0) (by decide +kernel) (by decide +kernel) (by exact ev_ob_621) rfl ?_
    intro x3 hx3
    refine ev_r_iload_n (pc := 24) (k := 1) (v := Int32.ofInt a0) (by decide +kernel) (by rfl) ?_
    refine ev_r_iast (pc := 25) ha0 hx3 (by decide +kernel) (by exact ev_ab_646) ?_
    intro s4
    refine ev_r_aload_n (pc := 26) (k := 0) (v := .ref 621) trivial (by decide +kernel) (by rfl) ?_
    refine ev_r_getC (pc := 27) (y := 86) (ci := 13) (f := 33) (fin := 1) (k' := 647) (by decide +kernel) (by decide +kernel) (by exact ev_ob_621) rfl rfl ?_
    refine ev_r_aload_n (pc := 30) (k := 0) (v := .ref 621) trivial (by decide +kernel) (by rfl) ?_
    refine ev_r_getI (pc := 31) (y := 381) (ci := 13) (f := 31) (fin := 0) (by decide +kernel) (by decide +kernel) (by exact ev_ob_621) rfl ?_
    intro x5 hx5
    refine ev_r_aload_n (pc := 34) (k := 0) (v := .ref 621) trivial (by decide +kernel) (by rfl) ?_
    refine ev_r_getI (pc := 35) (y := 372) (ci := 13) (f := 37) (fin := 0) (by decide +kernel) (by decide +kernel) (by exact ev_ob_621) rfl ?_
    intro x6 hx6
    refine ev_r_iast (pc := 38) hx6 hx5 (by decide +kernel) (by exact ev_ab_647) ?_
    intro s7
    refine ev_r_aload_n (pc := 39) (k := 0) (v := .ref 621) trivial (by decide +kernel) (by rfl) ?_
    refine ev_r_getC (pc := 40) (y := 89) (ci := 13) (f := 34) (fin := 1) (k' := 648) (by decide +kernel) (by decide +kernel) (by exact ev_ob_621) rfl rfl ?_
    refine ev_r_aload_n (pc := 43) (k := 0) (v := .ref 621) trivial (by decide +kernel) (by rfl) ?_
    refine ev_r_getI (pc := 44) (y := 381) (ci := 13) (f := 31) (fin := 0) (by decide +kernel) (by decide +kernel) (by exact ev_ob_621) rfl ?_
    intro x8 hx8
    refine ev_r_aload_n (pc := 47) (k := 0) (v := .ref 621) trivial (by decide +kernel) (by rfl) ?_
    refine ev_r_getI (pc := 48) (y := 369) (ci := 13) (f := 38) (fin := 0) (by decide +kernel) (by decide +kernel) (by exact ev_ob_621) rfl ?_
    intro x9 hx9
    refine ev_r_iast (pc := 51) hx9 hx8 (by decide +kernel) (by exact ev_ab_648) ?_
    intro s10
    refine ev_r_aload_n (pc := 52) (k := 0) (v := .ref 621) trivial (by decide +kernel) (by rfl) ?_
    refine ev_r_getC (pc := 53) (y := 92) (ci := 13) (f := 35) (fin := 1) (k' := 649) (by decide +kernel) (by decide +kernel) (by exact ev_ob_621) rfl rfl ?_
    refine ev_r_aload_n (pc := 56) (k := 0) (v := .ref 621) trivial (by decide +kernel) (by rfl) ?_
    refine ev_r_getI (pc := 57) (y := 381) (ci := 13) (f := 31) (fin := 0) (by decide +kernel) (by decide +kernel) (by exact ev_ob_621) rfl ?_
    intro x11 hx11
    refine ev_r_aload_n (pc := 60) (k := 0) (v := .ref 621) trivial (by decide +kernel) (by rfl) ?_
    refine ev_r_getI (pc := 61) (y := 384) (ci := 13) (f := 40) (fin := 0) (by decide +kernel) (by decide +kernel) (by exact ev_ob_621) rfl ?_
    intro x12 hx12
    refine ev_r_iast (pc := 64) hx12 hx11 (by decide +kernel) (by exact ev_ab_649) ?_
    intro s13
    refine ev_r_aload_n (pc := 65) (k := 0) (v := .ref 621) trivial (by decide +kernel) (by rfl) ?_
    refine ev_r_getC (pc := 66) (y := 95) (ci := 13) (f := 36) (fin := 1) (k' := 650) (by decide +kernel) (by decide +kernel) (by exact ev_ob_621) rfl rfl ?_
    refine ev_r_aload_n (pc := 69) (k := 0) (v := .ref 621) trivial (by decide +kernel) (by rfl) ?_
    refine ev_r_getI (pc := 70) (y := 381) (ci := 13) (f := 31) (fin := 0) (by decide +kernel) (by decide +kernel) (by exact ev_ob_621) rfl ?_
    intro x14 hx14
    refine ev_r_iload_n (pc := 73) (k := 2) (v := Int32.ofInt a1) (by decide +kernel) (by rfl) ?_
    refine ev_r_chk ?_
    intro c16
    refine ev_r_bast (pc := 74) (ty := .boolean) (Or.inr rfl) (ev_nar_bl c16) ha1 hx14 (by decide +kernel) (by exact ev_ab_650) ?_
    intro s15
    refine ev_r_aload_n (pc := 75) (k := 0) (v := .ref 621) trivial (by decide +kernel) (by rfl) ?_
    refine ev_r_dup (pc := 76) rfl (by decide +kernel) ?_
    refine ev_r_getI (pc := 77) (y := 381) (ci := 13) (f := 31) (fin := 0) (by decide +kernel) (by decide +kernel) (by exact ev_ob_621) rfl ?_
    intro x17 hx17
    refine ev_r_iconst (pc := 80) (k := 1) (by decide +kernel) ?_
    refine ev_r_iadd (pc := 81) (by decide +kernel) ?_
    intro x18 hx18
    refine ev_r_putI (pc := 82) (y := 381) (ci := 13) (f := 31) hx18 (by decide +kernel) (by decide +kernel) (by exact ev_ob_621) rfl rfl ?_
    intro s19
    refine ev_r_aload_n (pc := 85) (k := 0) (v := .ref 621) trivial (by decide +kernel) (by rfl) ?_
    refine ev_r_aload_n (pc := 86) (k := 0) (v := .ref 621) trivial (by decide +kernel) (by rfl) ?_
    refine ev_r_bipush (pc := 87) (k := 18) (by decide +kernel) (by decide +kernel) ?_
    refine ev_r_virt (pc := 89) (y := 363) (mi := 235) (na := 1) (k := 621) (as := [.int (Int32.ofInt 18)]) (rest := [.ref 621]) (encc := ev_oI) (Q := ev_rng) (fun x S1 h => jt_235 d (by omega) Q 18 (by decide) s19 x S1 h) (by exact ev_ob_621) (by decide +kernel) (by decide +kernel) (by decide +kernel) (by decide +kernel) rfl (by (try simp only [ev_sum, ev_nv_cat]); first | done | rfl) ?_
    intro x21 s20 hx21
    show ev_w _ _ _ _ _ [.int (Int32.ofInt x21), .ref 621] _ _ _ _
    refine ev_r_putI (pc := 92) (y := 372) (ci := 13) (f := 37) hx21 (by decide +kernel) (by decide +kernel) (by exact ev_ob_621) rfl rfl ?_
    intro s22
    refine ev_r_aload_n (pc := 95) (k := 0) (v := .ref 621) trivial (by decide +kernel) (by rfl) ?_
    refine ev_r_getC (pc := 96) (y := 22) (ci := 13) (f := 7) (fin := 1) (k' := 626) (by decide +kernel) (by decide +kernel) (by exact ev_ob_621) rfl rfl ?_
    refine ev_r_aload_n (pc := 99) (k := 0) (v := .ref 621) trivial (by decide +kernel) (by rfl) ?_
    refine ev_r_virt (pc := 100) (y := 356) (mi := 232) (na := 0) (k := 621) (as := []) (rest := [.ref 626]) (encc := ev_oI) (Q := ev_rng) (fun x S1 h => jt_232 d (by omega) Q   s22 x S1 h) (by exact ev_ob_621) (by decide +kernel) (by decide +kernel) (by decide +kernel) (by decide +kernel) rfl (by (try simp only [ev_sum, ev_nv_cat]); first | done | rfl) ?_
    intro x24 s23 hx24
    show ev_w _ _ _ _ _ [.int (Int32.ofInt x24), .ref 626] _ _ _ _
    refine ev_r_iload_n (pc := 103) (k := 1) (v := Int32.ofInt a0) (by decide +kernel) (by rfl) ?_
    refine ev_r_iadd (pc := 104) (by decide +kernel) ?_
    intro x25 hx25
    refine ev_r_aload_n (pc := 105) (k := 0) (v := .ref 621) trivial (by decide +kernel) (by rfl) ?_
    refine ev_r_getI (pc := 106) (y := 372) (ci := 13) (f := 37) (fin := 0) (by decide +kernel) (by decide +kernel) (by exact ev_ob_621) rfl ?_
    intro x26 hx26
    refine ev_r_iast (pc := 109) hx26 hx25 (by decide +kernel) (by exact ev_ab_626) ?_
    intro s27
    refine ev_r_aload_n (pc := 110) (k := 0) (v := .ref 621) trivial (by decide +kernel) (by rfl) ?_
    refine ev_r_iconst (pc := 111) (k := -1) (by decide +kernel) ?_
    refine ev_r_putI (pc := 112) (y := 369) (ci := 13) (f := 38) (by decide) (by decide +kernel) (by decide +kernel) (by exact ev_ob_621) rfl rfl ?_
    intro s28
    refine ev_r_aload_n (pc := 115) (k := 0) (v := .ref 621) trivial (by decide +kernel) (by rfl) ?_
    refine ev_r_iconst (pc := 116) (k := -1) (by decide +kernel) ?_
    refine ev_r_putI (pc := 117) (y := 375) (ci := 13) (f := 39) (by decide) (by decide +kernel) (by decide +kernel) (by exact ev_ob_621) rfl rfl ?_
    intro s29
    exact ev_r_return (pc := 120) (x := ()) trivial (by decide +kernel) (by decide +kernel) rfl
  · intro c2
    refine ev_r_aload_n (pc := 10) (k := 0) (v := .ref 621) trivial (by decide +kernel) (by rfl) ?_
    refine ev_r_iconst (pc := 11) (k := 1) (by decide +kernel) ?_
    refine ev_r_putI (pc := 12) (y := 352) (ci := 13) (f := 25) (by decide) (by decide +kernel) (by decide +kernel) (by exact ev_ob_621) rfl (ev_fit_bl (by decide : ev_bl 1)) ?_
    intro s30
    exact ev_r_return (pc := 15) (x := ()) trivial (by decide +kernel) (by decide +kernel) rfl
/-- MendBenchModel.shuts()V -/
def jm_240 (Q : Nat)  (S : ev_St) : Option ((Unit) × ev_St) := ev_b (S.1 621 31) fun x1 => ev_ck (x1 - 1) fun x2 => ev_b (ev_pI S 621 31 x2) fun s3 => ev_b (s3.1 621 31) fun x4 => ev_if ((0 : Int) ≤ x4 ∧ x4 < (ev_aln 647 : Int)) (ev_b (s3.1 647 (Int.toNat x4)) fun x5 => ev_b (ev_pI s3 621 37 x5) fun s6 => ev_b (s6.1 621 31) fun x7 => ev_if ((0 : Int) ≤ x7 ∧ x7 < (ev_aln 648 : Int)) (ev_b (s6.1 648 (Int.toNat x7)) fun x8 => ev_b (ev_pI s6 621 38 x8) fun s9 => ev_b (s9.1 621 31) fun x10 => ev_if ((0 : Int) ≤ x10 ∧ x10 < (ev_aln 649 : Int)) (ev_b (s9.1 649 (Int.toNat x10)) fun x11 => ev_b (ev_pI s9 621 40 x11) fun s12 => ev_b (s12.1 621 31) fun x13 => ev_if ((0 : Int) ≤ x13 ∧ x13 < (ev_aln 646 : Int)) (ev_b (s12.1 646 (Int.toNat x13)) fun x14 => ev_b (ev_pI s12 621 39 x14) fun s15 => some ((), s15)))))
theorem jt_240 (d : Nat) (hd : 1 ≤ d) (Q : Nat)   (S : ev_St) (x : Unit) (S' : ev_St) (hJ : jm_240 Q  S = some (x, S')) : ev_Ref d 240 [.ref 621] S (ev_eU x) S' (ev_PU x) := by
  obtain ⟨d, rfl⟩ : ∃ e, d = e + 1 := ⟨d - 1, by omega⟩
  refine ev_ref_of (P := ev_PU) (lv := [(0, .ref 621)]) (by decide +kernel) (by (try simp only [ev_sum, ev_nv_cat]); first | done | rfl) (by (try simp only [lv_args, ev_nv_cat]); first | done | rfl) ?_ x S' hJ
  unfold jm_240
  refine ev_r_aload_n (pc := 0) (k := 0) (v := .ref 621) trivial (by decide +kernel) (by rfl) ?_
  refine ev_r_dup (pc := 1) rfl (by decide +kernel) ?_
  refine ev_r_getI (pc := 2) (y := 381) (ci := 13) (f := 31) (fin := 0) (by decide +kernel) (by decide +kernel) (by exact ev_ob_621) rfl ?_
  intro x1 hx1
  refine ev_r_iconst (pc := 5) (k := 1) (by decide +kernel) ?_
  refine ev_r_isub (pc := 6) (by decide +kernel) ?_
  intro x2 hx2
  refine ev_r_putI (pc := 7) (y := 381) (ci := 13) (f := 31) hx2 (by decide +kernel) (by decide +kernel) (by exact ev_ob_621) rfl rfl ?_
  intro s3
  refine ev_r_aload_n (pc := 10) (k := 0) (v := .ref 621) trivial (by decide +kernel) (by rfl) ?_
  refine ev_r_aload_n (pc := 11) (k := 0) (v := .ref 621) trivial (by decide +kernel) (by rfl) ?_
  refine ev_r_getC (pc := 12) (y := 86) (ci := 13) (f := 33) (fin := 1) (k' := 647) (by decide +kernel) (by decide +kernel) (by exact ev_ob_621) rfl rfl ?_
  refine ev_r_aload_n (pc := 15) (k := 0) (v := .ref 621) trivial (by decide +kernel) (by rfl) ?_
  refine ev_r_getI (pc := 16) (y := 381) (ci := 13) (f := 31) (fin := 0) (by decide +kernel) (by decide +kernel) (by exact ev_ob_621) rfl ?_
  intro x4 hx4
  refine ev_r_iald (pc := 19) hx4 (by decide +kernel) (by exact ev_ab_647) ?_
  intro x5 hx5
  refine ev_r_putI (pc := 20) (y := 372) (ci := 13) (f := 37) hx5 (by decide +kernel) (by decide +kernel) (by exact ev_ob_621) rfl rfl ?_
  intro s6
  refine ev_r_aload_n (pc := 23) (k := 0) (v := .ref 621) trivial (by decide +kernel) (by rfl) ?_
  refine ev_r_aload_n (pc := 24) (k := 0) (v := .ref 621) trivial (by decide +kernel) (by rfl) ?_
  refine ev_r_getC (pc := 25) (y := 89) (ci := 13) (f := 34) (fin := 1) (k' := 648) (by decide +kernel) (by decide +kernel) (by exact ev_ob_621) rfl rfl ?_
  refine ev_r_aload_n (pc := 28) (k := 0) (v := .ref 621) trivial (by decide +kernel) (by rfl) ?_
  refine ev_r_getI (pc := 29) (y := 381) (ci := 13) (f := 31) (fin := 0) (by decide +kernel) (by decide +kernel) (by exact ev_ob_621) rfl ?_
  intro x7 hx7
  refine ev_r_iald (pc := 32) hx7 (by decide +kernel) (by exact ev_ab_648) ?_
  intro x8 hx8
  refine ev_r_putI (pc := 33) (y := 369) (ci := 13) (f := 38) hx8 (by decide +kernel) (by decide +kernel) (by exact ev_ob_621) rfl rfl ?_
  intro s9
  refine ev_r_aload_n (pc := 36) (k := 0) (v := .ref 621) trivial (by decide +kernel) (by rfl) ?_
  refine ev_r_aload_n (pc := 37) (k := 0) (v := .ref 621) trivial (by decide +kernel) (by rfl) ?_
  refine ev_r_getC (pc := 38) (y := 92) (ci := 13) (f := 35) (fin := 1) (k' := 649) (by decide +kernel) (by decide +kernel) (by exact ev_ob_621) rfl rfl ?_
  refine ev_r_aload_n (pc := 41) (k := 0) (v := .ref 621) trivial (by decide +kernel) (by rfl) ?_
  refine ev_r_getI (pc := 42) (y := 381) (ci := 13) (f := 31) (fin := 0) (by decide +kernel) (by decide +kernel) (by exact ev_ob_621) rfl ?_
  intro x10 hx10
  refine ev_r_iald (pc := 45) hx10 (by decide +kernel) (by exact ev_ab_649) ?_
  intro x11 hx11
  refine ev_r_putI (pc := 46) (y := 384) (ci := 13) (f := 40) hx11 (by decide +kernel) (by decide +kernel) (by exact ev_ob_621) rfl rfl ?_
  intro s12
  refine ev_r_aload_n (pc := 49) (k := 0) (v := .ref 621) trivial (by decide +kernel) (by rfl) ?_
  refine ev_r_aload_n (pc := 50) (k := 0) (v := .ref 621) trivial (by decide +kernel) (by rfl) ?_
  refine ev_r_getC (pc := 51) (y := 83) (ci := 13) (f := 32) (fin := 1) (k' := 646) (by decide +kernel) (by decide +kernel) (by exact ev_ob_621) rfl rfl ?_
  refine ev_r_aload_n (pc := 54) (k := 0) (v := .ref 621) trivial (by decide +kernel) (by rfl) ?_
  refine ev_r_getI (pc := 55) (y := 381) (ci := 13) (f := 31) (fin := 0) (by decide +kernel) (by decide +kernel) (by exact ev_ob_621) rfl ?_
  intro x13 hx13
  refine ev_r_iald (pc := 58) hx13 (by decide +kernel) (by exact ev_ab_646) ?_
  intro x14 hx14
  refine ev_r_putI (pc := 59) (y := 375) (ci := 13) (f := 39) hx14 (by decide +kernel) (by decide +kernel) (by exact ev_ob_621) rfl rfl ?_
  intro s15
  exact ev_r_return (pc := 62) (x := ()) trivial (by decide +kernel) (by decide +kernel) rfl
/-- MendBenchModel.parts()V -/
def jm_241 (Q : Nat)  (S : ev_St) : Option ((Unit) × ev_St) := ev_b (S.1 621 31) fun x1 => ev_ck (x1 - 1) fun x2 => ev_if ((0 : Int) ≤ x2 ∧ x2 < (ev_aln 646 : Int)) (ev_b (S.1 646 (Int.toNat x2)) fun x3 => ev_bd (jm_232 Q  S) fun x5 s4 => ev_ck (x5 + x3) fun x6 => ev_if ((0 : Int) ≤ x6 ∧ x6 < (ev_aln 626 : Int)) (ev_b (s4.1 626 (Int.toNat x6)) fun x7 => ev_b (s4.1 621 37) fun x8 => ev_jn (fun (x9 : Int) (x10 : Int) (s14 : ev_St) => ev_bd (jm_232 Q  s14) fun x16 s15 => ev_ck (x16 + x9) fun x17 => ev_if ((0 : Int) ≤ x17 ∧ x17 < (ev_aln 625 : Int)) (ev_b (s15.1 625 (Int.toNat x17)) fun x18 => ev_jn (fun  (s21 : ev_St) => ev_bd (jm_235 Q 18 s21) fun x23 s22 => ev_bd (jm_236 Q  s22) fun _ s24 => ev_bd (jm_232 Q  s24) fun x26 s25 => ev_b (s25.1 621 37) fun x27 => ev_ck (x26 + x27) fun x28 => ev_if ((0 : Int) ≤ x28 ∧ x28 < (ev_aln 627 : Int)) (ev_b (ev_pI s25 627 (Int.toNat x28) x23) fun s29 => ev_b (ev_pI s29 621 37 x23) fun s30 => ev_b (ev_pI s30 621 38 ((-1))) fun s31 => ev_b (ev_pI s31 621 39 ((-1))) fun s32 => some ((), s32))) fun K61 => if x18 ≠ 13 then (K61  s15) else (if x10 = 0 then (K61  s15) else (ev_b (ev_pI s15 621 25 1) fun s35 => K61  s35)))) fun K35 => if x7 = x8 then (K35 x3 0 s4) else (K35 x3 1 s4)))
theorem jt_241 (d : Nat) (hd : 3 ≤ d) (Q : Nat)   (S : ev_St) (x : Unit) (S' : ev_St) (hJ : jm_241 Q  S = some (x, S')) : ev_Ref d 241 [.ref 621] S (ev_eU x) S' (ev_PU x) := by
  obtain ⟨d, rfl⟩ : ∃ e, d = e + 1 := ⟨d - 1, by omega⟩
  refine ev_ref_of (P := ev_PU) (lv := [(0, .ref 621)]) (by decide +kernel) (by (try simp only [ev_sum, ev_nv_cat]); first | done | rfl) (by (try simp only [lv_args, ev_nv_cat]); first | done | rfl) ?_ x S' hJ
  unfold jm_241
  refine ev_r_aload_n (pc := 0) (k := 0) (v := .ref 621) trivial (by decide +kernel) (by rfl) ?_
  refine ev_r_getC (pc := 1) (y := 83) (ci := 13) (f := 32) (fin := 1) (k' := 646) (by decide +kernel) (by decide +kernel) (by exact ev_ob_621) rfl rfl ?_
  refine ev_r_aload_n (pc := 4) (k := 0) (v := .ref 621) trivial (by decide +kernel) (by rfl) ?_
  refine ev_r_getI (pc := 5) (y := 381) (ci := 13) (f := 31) (fin := 0) (by decide +kernel) (by decide +kernel) (by exact ev_ob_621) rfl ?_
  intro x1 hx1
  refine ev_r_iconst (pc := 8) (k := 1) (by decide +kernel) ?_
  refine ev_r_isub (pc := 9) (by decide +kernel) ?_
  intro x2 hx2
  refine ev_r_iald (pc := 10) hx2 (by decide +kernel) (by exact ev_ab_646) ?_
  intro x3 hx3
  refine ev_r_istore_n (pc := 11) (k := 1) (by decide +kernel) (by decide +kernel) rfl ?_
  refine ev_r_aload_n (pc := 12) (k := 0) (v := .ref 621) trivial (by decide +kernel) (by exact (ev_lk_st1 (by rfl) (by decide) rfl)) ?_
  refine ev_r_getC (pc := 13) (y := 22) (ci := 13) (f := 7) (fin := 1) (k' := 626) (by decide +kernel) (by decide +kernel) (by exact ev_ob_621) rfl rfl ?_
  refine ev_r_aload_n (pc := 16) (k := 0) (v := .ref 621) trivial (by decide +kernel) (by exact (ev_lk_st1 (by rfl) (by decide) rfl)) ?_
  refine ev_r_virt (pc := 17) (y := 356) (mi := 232) (na := 0) (k := 621) (as := []) (rest := [.ref 626]) (encc := ev_oI) (Q := ev_rng) (fun x S1 h => jt_232 d (by omega) Q   S x S1 h) (by exact ev_ob_621) (by decide +kernel) (by decide +kernel) (by decide +kernel) (by decide +kernel) rfl (by (try simp only [ev_sum, ev_nv_cat]); first | done | rfl) ?_
  intro x5 s4 hx5
  show ev_w _ _ _ _ _ [.int (Int32.ofInt x5), .ref 626] _ _ _ _
  refine ev_r_iload_n (pc := 20) (k := 1) (v := Int32.ofInt x3) (by decide +kernel) (by exact ev_lk_st1_self) ?_
  refine ev_r_iadd (pc := 21) (by decide +kernel) ?_
  intro x6 hx6
  refine ev_r_iald (pc := 22) hx6 (by decide +kernel) (by exact ev_ab_626) ?_
  intro x7 hx7
  refine ev_r_aload_n (pc := 23) (k := 0) (v := .ref 621) trivial (by decide +kernel) (by exact (ev_lk_st1 (by rfl) (by decide) rfl)) ?_
  refine ev_r_getI (pc := 24) (y := 372) (ci := 13) (f := 37) (fin := 0) (by decide +kernel) (by decide +kernel) (by exact ev_ob_621) rfl ?_
  intro x8 hx8
  refine ev_r_jn (Q := fun K => ∀ (x9 : Int) (hx9 : ev_rng x9), ∀ (x10 : Int) (hx10 : ev_rng x10), ∀ (s14 : ev_St) (w11 : List (Nat × Value)), ev_lk w11 0 = some (.ref 621) → ev_lk w11 1 = some (.int (Int32.ofInt x9)) → ev_w none (ev_Mof 241) d 35 w11 [.int (Int32.ofInt x10)] s14 (K x9 x10 s14) ev_eU ev_PU) ?_ ?_
  · intro x9 hx9 x10 hx10 s14 w11 e12 e13
    refine ev_r_istore_n (pc := 35) (k := 2) (by decide +kernel) (by decide +kernel) rfl ?_
    refine ev_r_aload_n (pc := 36) (k := 0) (v := .ref 621) trivial (by decide +kernel) (by exact (ev_l1 e12 (by decide) (by decide))) ?_
    refine ev_r_getC (pc := 37) (y := 19) (ci := 13) (f := 6) (fin := 1) (k' := 625) (by decide +kernel) (by decide +kernel) (by exact ev_ob_621) rfl rfl ?_
    refine ev_r_aload_n (pc := 40) (k := 0) (v := .ref 621) trivial (by decide +kernel) (by exact (ev_l1 e12 (by decide) (by decide))) ?_
    refine ev_r_virt (pc := 41) (y := 356) (mi := 232) (na := 0) (k := 621) (as := []) (rest := [.ref 625]) (encc := ev_oI) (Q := ev_rng) (fun x S1 h => jt_232 d (by omega) Q   s14 x S1 h) (by exact ev_ob_621) (by decide +kernel) (by decide +kernel) (by decide +kernel) (by decide +kernel) rfl (by (try simp only [ev_sum, ev_nv_cat]); first | done | rfl) ?_
    intro x16 s15 hx16
    show ev_w _ _ _ _ _ [.int (Int32.ofInt x16), .ref 625] _ _ _ _
    refine ev_r_iload_n (pc := 44) (k := 1) (v := Int32.ofInt x9) (by decide +kernel) (by exact (ev_lk_st1 e13 (by decide) rfl)) ?_
    refine ev_r_iadd (pc := 45) (by decide +kernel) ?_
    intro x17 hx17
    refine ev_r_iald (pc := 46) hx17 (by decide +kernel) (by exact ev_ab_625) ?_
    intro x18 hx18
    refine ev_r_bipush (pc := 47) (k := 13) (by decide +kernel) (by decide +kernel) ?_
    refine ev_r_jn (Q := fun K => ∀ (s21 : ev_St) (w19 : List (Nat × Value)), ev_lk w19 0 = some (.ref 621) → ev_w none (ev_Mof 241) d 61 w19 [] s21 (K  s21) ev_eU ev_PU) ?_ ?_
    · intro  s21 w19 e20
      refine ev_r_aload_n (pc := 61) (k := 0) (v := .ref 621) trivial (by decide +kernel) (by exact e20) ?_
      refine ev_r_bipush (pc := 62) (k := 18) (by decide +kernel) (by decide +kernel) ?_
      refine ev_r_virt (pc := 64) (y := 363) (mi := 235) (na := 1) (k := 621) (as := [.int (Int32.ofInt 18)]) (rest := []) (encc := ev_oI) (Q := ev_rng) (fun x S1 h => jt_235 d (by omega) Q 18 (by decide) s21 x S1 h) (by exact ev_ob_621) (by decide +kernel) (by decide +kernel) (by decide +kernel) (by decide +kernel) rfl (by (try simp only [ev_sum, ev_nv_cat]); first | done | rfl) ?_
      intro x23 s22 hx23
      show ev_w _ _ _ _ _ [.int (Int32.ofInt x23)] _ _ _ _
      refine ev_r_istore_n (pc := 67) (k := 3) (by decide +kernel) (by decide +kernel) rfl ?_
      refine ev_r_aload_n (pc := 68) (k := 0) (v := .ref 621) trivial (by decide +kernel) (by exact (ev_l1 e20 (by decide) (by decide))) ?_
      refine ev_r_virt (pc := 69) (y := 366) (mi := 236) (na := 0) (k := 621) (as := []) (rest := []) (encc := ev_oU) (Q := ev_PU) (fun x S1 h => jt_236 d (by omega) Q   s22 x S1 h) (by exact ev_ob_621) (by decide +kernel) (by decide +kernel) (by decide +kernel) (by decide +kernel) rfl (by (try simp only [ev_sum, ev_nv_cat]); first | done | rfl) ?_
      intro _ s24 _
      show ev_w _ _ _ _ _ [] _ _ _ _
      refine ev_r_aload_n (pc := 72) (k := 0) (v := .ref 621) trivial (by decide +kernel) (by exact (ev_l1 e20 (by decide) (by decide))) ?_
      refine ev_r_getC (pc := 73) (y := 25) (ci := 13) (f := 8) (fin := 1) (k' := 627) (by decide +kernel) (by decide +kernel) (by exact ev_ob_621) rfl rfl ?_
      refine ev_r_aload_n (pc := 76) (k := 0) (v := .ref 621) trivial (by decide +kernel) (by exact (ev_l1 e20 (by decide) (by decide))) ?_
      refine ev_r_virt (pc := 77) (y := 356) (mi := 232) (na := 0) (k := 621) (as := []) (rest := [.ref 627]) (encc := ev_oI) (Q := ev_rng) (fun x S1 h => jt_232 d (by omega) Q   s24 x S1 h) (by exact ev_ob_621) (by decide +kernel) (by decide +kernel) (by decide +kernel) (by decide +kernel) rfl (by (try simp only [ev_sum, ev_nv_cat]); first | done | rfl) ?_
      intro x26 s25 hx26
      show ev_w _ _ _ _ _ [.int (Int32.ofInt x26), .ref 627] _ _ _ _
      refine ev_r_aload_n (pc := 80) (k := 0) (v := .ref 621) trivial (by decide +kernel) (by exact (ev_l1 e20 (by decide) (by decide))) ?_
      refine ev_r_getI (pc := 81) (y := 372) (ci := 13) (f := 37) (fin := 0) (by decide +kernel) (by decide +kernel) (by exact ev_ob_621) rfl ?_
      intro x27 hx27
      refine ev_r_iadd (pc := 84) (by decide +kernel) ?_
      intro x28 hx28
      refine ev_r_iload_n (pc := 85) (k := 3) (v := Int32.ofInt x23) (by decide +kernel) (by exact ev_lk_st1_self) ?_
      refine ev_r_iast (pc := 86) hx23 hx28 (by decide +kernel) (by exact ev_ab_627) ?_
      intro s29
      refine ev_r_aload_n (pc := 87) (k := 0) (v := .ref 621) trivial (by decide +kernel) (by exact (ev_l1 e20 (by decide) (by decide))) ?_
      refine ev_r_iload_n (pc := 88) (k := 3) (v := Int32.ofInt x23) (by decide +kernel) (by exact ev_lk_st1_self) ?_
      refine ev_r_putI (pc := 89) (y := 372) (ci := 13) (f := 37) hx23 (by decide +kernel) (by decide +kernel) (by exact ev_ob_621) rfl rfl ?_
      intro s30
      refine ev_r_aload_n (pc := 92) (k := 0) (v := .ref 621) trivial (by decide +kernel) (by exact (ev_l1 e20 (by decide) (by decide))) ?_
      refine ev_r_iconst (pc := 93) (k := -1) (by decide +kernel) ?_
      refine ev_r_putI (pc := 94) (y := 369) (ci := 13) (f := 38) (by decide) (by decide +kernel) (by decide +kernel) (by exact ev_ob_621) rfl rfl ?_
      intro s31
      refine ev_r_aload_n (pc := 97) (k := 0) (v := .ref 621) trivial (by decide +kernel) (by exact (ev_l1 e20 (by decide) (by decide))) ?_
      refine ev_r_iconst (pc := 98) (k := -1) (by decide +kernel) ?_
      refine ev_r_putI (pc := 99) (y := 375) (ci := 13) (f := 39) (by decide) (by decide +kernel) (by decide +kernel) (by exact ev_ob_621) rfl rfl ?_
      intro s32
      exact ev_r_return (pc := 102) (x := ()) trivial (by decide +kernel) (by decide +kernel) rfl
    · intro K61 hK61
      refine ev_r_icmp (pc := 49) (q := .ne) (o := 12) (t := 61) (c := x18 ≠ 13) (by decide +kernel) (ev_k_ne hx18 (by decide)) (by decide +kernel) ?_ ?_
      · intro c33
        exact hK61  s15 _ (by exact (ev_l1 e12 (by decide) (by decide)))
      · intro c33
        refine ev_r_iload_n (pc := 52) (k := 2) (v := Int32.ofInt x10) (by decide +kernel) (by exact ev_lk_st1_self) ?_
        refine ev_r_if (pc := 53) (q := .eq) (o := 8) (t := 61) (c := x10 = 0) (by decide +kernel) (ev_k_eq hx10 ev_rng0) (by decide +kernel) ?_ ?_
        · intro c34
          exact hK61  s15 _ (by exact (ev_l1 e12 (by decide) (by decide)))
        · intro c34
          refine ev_r_aload_n (pc := 56) (k := 0) (v := .ref 621) trivial (by decide +kernel) (by exact (ev_l1 e12 (by decide) (by decide))) ?_
          refine ev_r_iconst (pc := 57) (k := 1) (by decide +kernel) ?_
          refine ev_r_putI (pc := 58) (y := 352) (ci := 13) (f := 25) (by decide) (by decide +kernel) (by decide +kernel) (by exact ev_ob_621) rfl (ev_fit_bl (by decide : ev_bl 1)) ?_
          intro s35
          exact hK61  s35 _ (by exact (ev_l1 e12 (by decide) (by decide)))
  · intro K35 hK35
    refine ev_r_icmp (pc := 27) (q := .eq) (o := 7) (t := 34) (c := x7 = x8) (by decide +kernel) (ev_k_eq hx7 hx8) (by decide +kernel) ?_ ?_
    · intro c36
      refine ev_r_iconst (pc := 34) (k := 0) (by decide +kernel) ?_
      exact hK35 x3 hx3 0 (by decide) s4 _ (by exact (ev_lk_st1 (by rfl) (by decide) rfl)) (by exact ev_lk_st1_self)
    · intro c36
      refine ev_r_iconst (pc := 30) (k := 1) (by decide +kernel) ?_
      refine ev_r_goto (pc := 31) (o := 4) (t := 35) (by decide +kernel) (by decide +kernel) ?_
      exact hK35 x3 hx3 1 (by decide) s4 _ (by exact (ev_lk_st1 (by rfl) (by decide) rfl)) (by exact ev_lk_st1_self)
/-- MendBenchModel.oneOf(I)J -/
def jm_242 (Q : Nat) (a0 : Int) (S : ev_St) : Option ((Int64) × ev_St) := ev_jn (fun (x1 : Int) (s3 : ev_St) => if 64 ≤ x1 then (some ((Int64.ofNat ((0 : Fin 2) : Nat)), s3)) else (ev_b (ev_lshl ((Int64.ofNat ((1 : Fin 2) : Nat))) x1) fun y5 => some (y5, s3))) fun K14 => if a0 ≠ 10 then (ev_ck (a0 - 31) fun x7 => K14 x7 S) else (K14 0 S)
theorem jt_242 (d : Nat) (hd : 1 ≤ d) (Q : Nat) (a0 : Int) (ha0 : ev_rng a0) (S : ev_St) (x : Int64) (S' : ev_St) (hJ : jm_242 Q a0 S = some (x, S')) : ev_Ref d 242 [.int (Int32.ofInt a0)] S (ev_eL x) S' (ev_PU x) := by
  obtain ⟨d, rfl⟩ : ∃ e, d = e + 1 := ⟨d - 1, by omega⟩
  refine ev_ref_of (P := ev_PU) (lv := [(0, .int (Int32.ofInt a0))]) (by decide +kernel) (by (try simp only [ev_sum, ev_nv_cat]); first | done | rfl) (by (try simp only [lv_args, ev_nv_cat]); first | done | rfl) ?_ x S' hJ
  unfold jm_242
  refine ev_r_iload_n (pc := 0) (k := 0) (v := Int32.ofInt a0) (by decide +kernel) (by rfl) ?_
  refine ev_r_bipush (pc := 1) (k := 10) (by decide +kernel) (by decide +kernel) ?_
  refine ev_r_jn (Q := fun K => ∀ (x1 : Int) (hx1 : ev_rng x1), ∀ (s3 : ev_St) (w2 : List (Nat × Value)), ev_w none (ev_Mof 242) d 14 w2 [.int (Int32.ofInt x1)] s3 (K x1 s3) ev_eL ev_PU) ?_ ?_
  · intro x1 hx1 s3 w2 
    refine ev_r_istore_n (pc := 14) (k := 1) (by decide +kernel) (by decide +kernel) rfl ?_
    refine ev_r_iload_n (pc := 15) (k := 1) (v := Int32.ofInt x1) (by decide +kernel) (by exact ev_lk_st1_self) ?_
    refine ev_r_bipush (pc := 16) (k := 64) (by decide +kernel) (by decide +kernel) ?_
    refine ev_r_icmp (pc := 18) (q := .ge) (o := 9) (t := 27) (c := 64 ≤ x1) (by decide +kernel) (ev_k_ge hx1 (by decide)) (by decide +kernel) ?_ ?_
    · intro c4
      refine ev_r_lconst (pc := 27) (c := 0) (by decide +kernel) ?_
      exact ev_r_lreturn (pc := 28) (x := (Int64.ofNat ((0 : Fin 2) : Nat))) trivial (by decide +kernel) (by decide +kernel) rfl
    · intro c4
      refine ev_r_lconst (pc := 21) (c := 1) (by decide +kernel) ?_
      refine ev_r_iload_n (pc := 22) (k := 1) (v := Int32.ofInt x1) (by decide +kernel) (by exact ev_lk_st1_self) ?_
      refine ev_r_toL (pc := 23) (i := .lshl) (len := 1) (pc' := 24) (by decide +kernel) rfl ?_
      intro y5
      refine ev_r_goto (pc := 24) (o := 4) (t := 28) (by decide +kernel) (by decide +kernel) ?_
      exact ev_r_lreturn (pc := 28) (x := y5) trivial (by decide +kernel) (by decide +kernel) rfl
  · intro K14 hK14
    refine ev_r_icmp (pc := 3) (q := .ne) (o := 7) (t := 10) (c := a0 ≠ 10) (by decide +kernel) (ev_k_ne ha0 (by decide)) (by decide +kernel) ?_ ?_
    · intro c6
      refine ev_r_iload_n (pc := 10) (k := 0) (v := Int32.ofInt a0) (by decide +kernel) (by rfl) ?_
      refine ev_r_bipush (pc := 11) (k := 31) (by decide +kernel) (by decide +kernel) ?_
      refine ev_r_isub (pc := 13) (by decide +kernel) ?_
      intro x7 hx7
      exact hK14 x7 hx7 S _ 
    · intro c6
      refine ev_r_iconst (pc := 6) (k := 0) (by decide +kernel) ?_
      refine ev_r_goto (pc := 7) (o := 7) (t := 14) (by decide +kernel) (by decide +kernel) ?_
      exact hK14 0 (by decide) S _ 
