/-! METHODS as functions, laid by decomp.py -/
theorem ev_ab_704 : ev_isAb 704 1 .int = true := (by decide +kernel)
theorem ev_ab_705 : ev_isAb 705 1 .int = true := (by decide +kernel)
theorem ev_ab_703 : ev_isAb 703 1 .int = true := (by decide +kernel)
theorem ev_ab_716 : ev_isAb 716 1 .int = true := (by decide +kernel)
theorem ev_ab_717 : ev_isAb 717 1 .int = true := (by decide +kernel)
theorem ev_ab_706 : ev_isAb 706 1 .int = true := (by decide +kernel)
theorem ev_on_12 {k : Nat} (h : ev_isOb k 12 = true) : k = 0 := ev_only (by decide +kernel) h
/-- MendBenchModel.gathers()V -/
def jm_344 (Q : Nat)  (S : ev_St) : Option ((Unit) × ev_St) := ev_b (S.1 621 126) fun x1 => if x1 ≤ 0 then (some ((), S)) else (ev_b (S.1 621 130) fun x3 => ev_b (S.1 621 125) fun x4 => ev_if ((0 : Int) ≤ x3 ∧ x3 < (ev_aln 714 : Int)) (ev_b (ev_pI S 714 (Int.toNat x3) x4) fun s5 => ev_b (s5.1 621 130) fun x6 => ev_b (s5.1 621 128) fun x7 => ev_if ((0 : Int) ≤ x6 ∧ x6 < (ev_aln 715 : Int)) (ev_b (ev_pI s5 715 (Int.toNat x6) x7) fun s8 => ev_b (s8.1 621 130) fun x9 => ev_ck (x9 + 1) fun x10 => ev_b (ev_pI s8 621 130 x10) fun s11 => ev_b (s11.1 621 130) fun x12 => ev_b (ev_pI s11 621 131 x12) fun s13 => ev_b (ev_pI s13 621 126 0) fun s14 => some ((), s14))))
theorem jt_344 (d : Nat) (hd : 1 ≤ d) (Q : Nat)   (S : ev_St) (x : Unit) (S' : ev_St) (hJ : jm_344 Q  S = some (x, S')) : ev_Ref d 344 [.ref 621] S (ev_eU x) S' (ev_PU x) := by
  obtain ⟨d, rfl⟩ : ∃ e, d = e + 1 := ⟨d - 1, by omega⟩
  refine ev_ref_of (P := ev_PU) (lv := [(0, .ref 621)]) (by decide +kernel) (by (try simp only [ev_sum, ev_nv_cat]); first | done | rfl) (by (try simp only [lv_args, ev_nv_cat]); first | done | rfl) ?_ x S' hJ
  unfold jm_344
  refine ev_r_aload_n (pc := 0) (k := 0) (v := .ref 621) trivial (by decide +kernel) (by rfl) ?_
  refine ev_r_getI (pc := 1) (y := 773) (ci := 13) (f := 126) (fin := 0) (by decide +kernel) (by decide +kernel) (by exact ev_ob_621) rfl ?_
  intro x1 hx1
  refine ev_r_if (pc := 4) (q := .le) (o := 52) (t := 56) (c := x1 ≤ 0) (by decide +kernel) (ev_k_le hx1 ev_rng0) (by decide +kernel) ?_ ?_
  · intro c2
    exact ev_r_return (pc := 56) (x := ()) trivial (by decide +kernel) (by decide +kernel) rfl
  · intro c2
    refine ev_r_aload_n (pc := 7) (k := 0) (v := .ref 621) trivial (by decide +kernel) (by rfl) ?_
    refine ev_r_getC (pc := 8) (y := 294) (ci := 13) (f := 133) (fin := 1) (k' := 714) (by decide +kernel) (by decide +kernel) (by exact ev_ob_621) rfl rfl ?_
    refine ev_r_aload_n (pc := 11) (k := 0) (v := .ref 621) trivial (by decide +kernel) (by rfl) ?_
    refine ev_r_getI (pc := 12) (y := 766) (ci := 13) (f := 130) (fin := 0) (by decide +kernel) (by decide +kernel) (by exact ev_ob_621) rfl ?_
    intro x3 hx3
    refine ev_r_aload_n (pc := 15) (k := 0) (v := .ref 621) trivial (by decide +kernel) (by rfl) ?_
    refine ev_r_getI (pc := 16) (y := 769) (ci := 13) (f := 125) (fin := 0) (by decide +kernel) (by decide +kernel) (by exact ev_ob_621) rfl ?_
    intro x4 hx4
    refine ev_r_iast (pc := 19) hx4 hx3 (by decide +kernel) (by exact ev_ab_714) ?_
    intro s5
    refine ev_r_aload_n (pc := 20) (k := 0) (v := .ref 621) trivial (by decide +kernel) (by rfl) ?_
    refine ev_r_getC (pc := 21) (y := 297) (ci := 13) (f := 134) (fin := 1) (k' := 715) (by decide +kernel) (by decide +kernel) (by exact ev_ob_621) rfl rfl ?_
    refine ev_r_aload_n (pc := 24) (k := 0) (v := .ref 621) trivial (by decide +kernel) (by rfl) ?_
    refine ev_r_getI (pc := 25) (y := 766) (ci := 13) (f := 130) (fin := 0) (by decide +kernel) (by decide +kernel) (by exact ev_ob_621) rfl ?_
    intro x6 hx6
    refine ev_r_aload_n (pc := 28) (k := 0) (v := .ref 621) trivial (by decide +kernel) (by rfl) ?_
    refine ev_r_getI (pc := 29) (y := 760) (ci := 13) (f := 128) (fin := 0) (by decide +kernel) (by decide +kernel) (by exact ev_ob_621) rfl ?_
    intro x7 hx7
    refine ev_r_iast (pc := 32) hx7 hx6 (by decide +kernel) (by exact ev_ab_715) ?_
    intro s8
    refine ev_r_aload_n (pc := 33) (k := 0) (v := .ref 621) trivial (by decide +kernel) (by rfl) ?_
    refine ev_r_dup (pc := 34) rfl (by decide +kernel) ?_
    refine ev_r_getI (pc := 35) (y := 766) (ci := 13) (f := 130) (fin := 0) (by decide +kernel) (by decide +kernel) (by exact ev_ob_621) rfl ?_
    intro x9 hx9
    refine ev_r_iconst (pc := 38) (k := 1) (by decide +kernel) ?_
    refine ev_r_iadd (pc := 39) (by decide +kernel) ?_
    intro x10 hx10
    refine ev_r_putI (pc := 40) (y := 766) (ci := 13) (f := 130) hx10 (by decide +kernel) (by decide +kernel) (by exact ev_ob_621) rfl rfl ?_
    intro s11
    refine ev_r_aload_n (pc := 43) (k := 0) (v := .ref 621) trivial (by decide +kernel) (by rfl) ?_
    refine ev_r_aload_n (pc := 44) (k := 0) (v := .ref 621) trivial (by decide +kernel) (by rfl) ?_
    refine ev_r_getI (pc := 45) (y := 766) (ci := 13) (f := 130) (fin := 0) (by decide +kernel) (by decide +kernel) (by exact ev_ob_621) rfl ?_
    intro x12 hx12
    refine ev_r_putI (pc := 48) (y := 763) (ci := 13) (f := 131) hx12 (by decide +kernel) (by decide +kernel) (by exact ev_ob_621) rfl rfl ?_
    intro s13
    refine ev_r_aload_n (pc := 51) (k := 0) (v := .ref 621) trivial (by decide +kernel) (by rfl) ?_
    refine ev_r_iconst (pc := 52) (k := 0) (by decide +kernel) ?_
    refine ev_r_putI (pc := 53) (y := 773) (ci := 13) (f := 126) (by decide) (by decide +kernel) (by decide +kernel) (by exact ev_ob_621) rfl rfl ?_
    intro s14
    exact ev_r_return (pc := 56) (x := ()) trivial (by decide +kernel) (by decide +kernel) rfl
/-- MendBenchModel.ends1()V -/
def jm_345 (Q : Nat)  (S : ev_St) : Option ((Unit) × ev_St) := ev_b (S.1 621 132) fun x1 => if x1 ≠ 0 then (some ((), S)) else (ev_bd (jm_344 Q  S) fun _ s3 => some ((), s3))
theorem jt_345 (d : Nat) (hd : 2 ≤ d) (Q : Nat)   (S : ev_St) (x : Unit) (S' : ev_St) (hJ : jm_345 Q  S = some (x, S')) : ev_Ref d 345 [.ref 621] S (ev_eU x) S' (ev_PU x) := by
  obtain ⟨d, rfl⟩ : ∃ e, d = e + 1 := ⟨d - 1, by omega⟩
  refine ev_ref_of (P := ev_PU) (lv := [(0, .ref 621)]) (by decide +kernel) (by (try simp only [ev_sum, ev_nv_cat]); first | done | rfl) (by (try simp only [lv_args, ev_nv_cat]); first | done | rfl) ?_ x S' hJ
  unfold jm_345
  refine ev_r_aload_n (pc := 0) (k := 0) (v := .ref 621) trivial (by decide +kernel) (by rfl) ?_
  refine ev_r_getI (pc := 1) (y := 783) (ci := 13) (f := 132) (fin := 0) (by decide +kernel) (by decide +kernel) (by exact ev_ob_621) rfl ?_
  intro x1 hx1
  refine ev_r_if (pc := 4) (q := .ne) (o := 7) (t := 11) (c := x1 ≠ 0) (by decide +kernel) (ev_k_ne hx1 ev_rng0) (by decide +kernel) ?_ ?_
  · intro c2
    exact ev_r_return (pc := 11) (x := ()) trivial (by decide +kernel) (by decide +kernel) rfl
  · intro c2
    refine ev_r_aload_n (pc := 7) (k := 0) (v := .ref 621) trivial (by decide +kernel) (by rfl) ?_
    refine ev_r_virt (pc := 8) (y := 786) (mi := 344) (na := 0) (k := 621) (as := []) (rest := []) (encc := ev_oU) (Q := ev_PU) (fun x S1 h => jt_344 d (by omega) Q   S x S1 h) (by exact ev_ob_621) (by decide +kernel) (by decide +kernel) (by decide +kernel) (by decide +kernel) rfl (by (try simp only [ev_sum, ev_nv_cat]); first | done | rfl) ?_
    intro _ s3 _
    show ev_w _ _ _ _ _ [] _ _ _ _
    exact ev_r_return (pc := 11) (x := ()) trivial (by decide +kernel) (by decide +kernel) rfl
/-- MendBenchModel.fill(I)I -/
def jm_346 (Q : Nat) (a0 : Int) (S : ev_St) : Option ((Int) × ev_St) := ev_b (ev_pI S 621 0 0) fun s1 => ev_bd (jm_325 Q a0 s1) fun x3 s2 => if x3 ≠ 0 then (ev_b (s2.1 621 1) fun x5 => if x5 ≤ 80 then (ev_if ((0 : Int) ≤ a0 ∧ a0 < (ev_aln 707 : Int)) (ev_b (s2.1 707 (Int.toNat a0)) fun x7 => ev_b (s2.1 621 1) fun x8 => ev_bd (jm_343 Q a0 0 x7 0 x8 1 s2) fun _ s9 => ev_b (ev_pI s9 621 1 0) fun s10 => ev_bd (jm_345 Q  s10) fun _ s11 => ev_if ((0 : Int) ≤ a0 ∧ a0 < (ev_aln 707 : Int)) (ev_b (s11.1 707 (Int.toNat a0)) fun x12 => some (x12, s11)))) else (ev_bd (jm_221 Q 2 s2) fun x14 s13 => some (x14, s13))) else (ev_bd (jm_221 Q 1 s2) fun x16 s15 => some (x16, s15))
theorem jt_346 (d : Nat) (hd : 3 ≤ d) (Q : Nat) (a0 : Int) (ha0 : ev_rng a0) (S : ev_St) (x : Int) (S' : ev_St) (hJ : jm_346 Q a0 S = some (x, S')) : ev_Ref d 346 [.ref 621, .int (Int32.ofInt a0)] S (ev_eI x) S' (ev_rng x) := by
  obtain ⟨d, rfl⟩ : ∃ e, d = e + 1 := ⟨d - 1, by omega⟩
  refine ev_ref_of (P := ev_rng) (lv := [(0, .ref 621), (1, .int (Int32.ofInt a0))]) (by decide +kernel) (by (try simp only [ev_sum, ev_nv_cat]); first | done | rfl) (by (try simp only [lv_args, ev_nv_cat]); first | done | rfl) ?_ x S' hJ
  unfold jm_346
  refine ev_r_aload_n (pc := 0) (k := 0) (v := .ref 621) trivial (by decide +kernel) (by rfl) ?_
  refine ev_r_iconst (pc := 1) (k := 0) (by decide +kernel) ?_
  refine ev_r_putI (pc := 2) (y := 321) (ci := 13) (f := 0) (by decide) (by decide +kernel) (by decide +kernel) (by exact ev_ob_621) rfl rfl ?_
  intro s1
  refine ev_r_aload_n (pc := 5) (k := 0) (v := .ref 621) trivial (by decide +kernel) (by rfl) ?_
  refine ev_r_iload_n (pc := 6) (k := 1) (v := Int32.ofInt a0) (by decide +kernel) (by rfl) ?_
  refine ev_r_virt (pc := 7) (y := 716) (mi := 325) (na := 1) (k := 621) (as := [.int (Int32.ofInt a0)]) (rest := []) (encc := ev_oI) (Q := ev_bl) (fun x S1 h => jt_325 d (by omega) Q a0 ha0 s1 x S1 h) (by exact ev_ob_621) (by decide +kernel) (by decide +kernel) (by decide +kernel) (by decide +kernel) rfl (by (try simp only [ev_sum, ev_nv_cat]); first | done | rfl) ?_
  intro x3 s2 hx3
  replace hx3 := ev_bl_rng hx3
  show ev_w _ _ _ _ _ [.int (Int32.ofInt x3)] _ _ _ _
  refine ev_r_if (pc := 10) (q := .ne) (o := 9) (t := 19) (c := x3 ≠ 0) (by decide +kernel) (ev_k_ne hx3 ev_rng0) (by decide +kernel) ?_ ?_
  · intro c4
    refine ev_r_aload_n (pc := 19) (k := 0) (v := .ref 621) trivial (by decide +kernel) (by rfl) ?_
    refine ev_r_getI (pc := 20) (y := 346) (ci := 13) (f := 1) (fin := 0) (by decide +kernel) (by decide +kernel) (by exact ev_ob_621) rfl ?_
    intro x5 hx5
    refine ev_r_bipush (pc := 23) (k := 80) (by decide +kernel) (by decide +kernel) ?_
    refine ev_r_icmp (pc := 25) (q := .le) (o := 9) (t := 34) (c := x5 ≤ 80) (by decide +kernel) (ev_k_le hx5 (by decide)) (by decide +kernel) ?_ ?_
    · intro c6
      refine ev_r_aload_n (pc := 34) (k := 0) (v := .ref 621) trivial (by decide +kernel) (by rfl) ?_
      refine ev_r_iload_n (pc := 35) (k := 1) (v := Int32.ofInt a0) (by decide +kernel) (by rfl) ?_
      refine ev_r_iconst (pc := 36) (k := 0) (by decide +kernel) ?_
      refine ev_r_aload_n (pc := 37) (k := 0) (v := .ref 621) trivial (by decide +kernel) (by rfl) ?_
      refine ev_r_getC (pc := 38) (y := 270) (ci := 13) (f := 119) (fin := 1) (k' := 707) (by decide +kernel) (by decide +kernel) (by exact ev_ob_621) rfl rfl ?_
      refine ev_r_iload_n (pc := 41) (k := 1) (v := Int32.ofInt a0) (by decide +kernel) (by rfl) ?_
      refine ev_r_iald (pc := 42) ha0 (by decide +kernel) (by exact ev_ab_707) ?_
      intro x7 hx7
      refine ev_r_iconst (pc := 43) (k := 0) (by decide +kernel) ?_
      refine ev_r_aload_n (pc := 44) (k := 0) (v := .ref 621) trivial (by decide +kernel) (by rfl) ?_
      refine ev_r_getI (pc := 45) (y := 346) (ci := 13) (f := 1) (fin := 0) (by decide +kernel) (by decide +kernel) (by exact ev_ob_621) rfl ?_
      intro x8 hx8
      refine ev_r_iconst (pc := 48) (k := 1) (by decide +kernel) ?_
      refine ev_r_virt (pc := 49) (y := 789) (mi := 343) (na := 6) (k := 621) (as := [.int (Int32.ofInt a0), .int (Int32.ofInt 0), .int (Int32.ofInt x7), .int (Int32.ofInt 0), .int (Int32.ofInt x8), .int (Int32.ofInt 1)]) (rest := []) (encc := ev_oU) (Q := ev_PU) (fun x S1 h => jt_343 d (by omega) Q a0 0 x7 0 x8 1 ha0 (by decide) hx7 (by decide) hx8 (by decide) s2 x S1 h) (by exact ev_ob_621) (by decide +kernel) (by decide +kernel) (by decide +kernel) (by decide +kernel) rfl (by (try simp only [ev_sum, ev_nv_cat]); first | done | rfl) ?_
      intro _ s9 _
      show ev_w _ _ _ _ _ [] _ _ _ _
      refine ev_r_aload_n (pc := 52) (k := 0) (v := .ref 621) trivial (by decide +kernel) (by rfl) ?_
      refine ev_r_iconst (pc := 53) (k := 0) (by decide +kernel) ?_
      refine ev_r_putI (pc := 54) (y := 346) (ci := 13) (f := 1) (by decide) (by decide +kernel) (by decide +kernel) (by exact ev_ob_621) rfl rfl ?_
      intro s10
      refine ev_r_aload_n (pc := 57) (k := 0) (v := .ref 621) trivial (by decide +kernel) (by rfl) ?_
      refine ev_r_virt (pc := 58) (y := 793) (mi := 345) (na := 0) (k := 621) (as := []) (rest := []) (encc := ev_oU) (Q := ev_PU) (fun x S1 h => jt_345 d (by omega) Q   s10 x S1 h) (by exact ev_ob_621) (by decide +kernel) (by decide +kernel) (by decide +kernel) (by decide +kernel) rfl (by (try simp only [ev_sum, ev_nv_cat]); first | done | rfl) ?_
      intro _ s11 _
      show ev_w _ _ _ _ _ [] _ _ _ _
      refine ev_r_aload_n (pc := 61) (k := 0) (v := .ref 621) trivial (by decide +kernel) (by rfl) ?_
      refine ev_r_getC (pc := 62) (y := 270) (ci := 13) (f := 119) (fin := 1) (k' := 707) (by decide +kernel) (by decide +kernel) (by exact ev_ob_621) rfl rfl ?_
      refine ev_r_iload_n (pc := 65) (k := 1) (v := Int32.ofInt a0) (by decide +kernel) (by rfl) ?_
      refine ev_r_iald (pc := 66) ha0 (by decide +kernel) (by exact ev_ab_707) ?_
      intro x12 hx12
      exact ev_r_ireturn (pc := 67) (x := x12) (v := Int32.ofInt x12) (ty := .int) hx12 (by decide +kernel) (by decide +kernel) rfl rfl
    · intro c6
      refine ev_r_aload_n (pc := 28) (k := 0) (v := .ref 621) trivial (by decide +kernel) (by rfl) ?_
      refine ev_r_iconst (pc := 29) (k := 2) (by decide +kernel) ?_
      refine ev_r_virt (pc := 30) (y := 342) (mi := 221) (na := 1) (k := 621) (as := [.int (Int32.ofInt 2)]) (rest := []) (encc := ev_oI) (Q := ev_rng) (fun x S1 h => jt_221 d (by omega) Q 2 (by decide) s2 x S1 h) (by exact ev_ob_621) (by decide +kernel) (by decide +kernel) (by decide +kernel) (by decide +kernel) rfl (by (try simp only [ev_sum, ev_nv_cat]); first | done | rfl) ?_
      intro x14 s13 hx14
      show ev_w _ _ _ _ _ [.int (Int32.ofInt x14)] _ _ _ _
      exact ev_r_ireturn (pc := 33) (x := x14) (v := Int32.ofInt x14) (ty := .int) hx14 (by decide +kernel) (by decide +kernel) rfl rfl
  · intro c4
    refine ev_r_aload_n (pc := 13) (k := 0) (v := .ref 621) trivial (by decide +kernel) (by rfl) ?_
    refine ev_r_iconst (pc := 14) (k := 1) (by decide +kernel) ?_
    refine ev_r_virt (pc := 15) (y := 342) (mi := 221) (na := 1) (k := 621) (as := [.int (Int32.ofInt 1)]) (rest := []) (encc := ev_oI) (Q := ev_rng) (fun x S1 h => jt_221 d (by omega) Q 1 (by decide) s2 x S1 h) (by exact ev_ob_621) (by decide +kernel) (by decide +kernel) (by decide +kernel) (by decide +kernel) rfl (by (try simp only [ev_sum, ev_nv_cat]); first | done | rfl) ?_
    intro x16 s15 hx16
    show ev_w _ _ _ _ _ [.int (Int32.ofInt x16)] _ _ _ _
    exact ev_r_ireturn (pc := 18) (x := x16) (v := Int32.ofInt x16) (ty := .int) hx16 (by decide +kernel) (by decide +kernel) rfl rfl
/-- MendBenchModel.size(I)I -/
def jm_347 (Q : Nat) (a0 : Int) (S : ev_St) : Option ((Int) × ev_St) := ev_b (ev_pI S 621 0 0) fun s1 => ev_bd (jm_325 Q a0 s1) fun x3 s2 => if x3 = 0 then (ev_bd (jm_221 Q 1 s2) fun x6 s5 => some (x6, s5)) else (ev_if ((0 : Int) ≤ a0 ∧ a0 < (ev_aln 707 : Int)) (ev_b (s2.1 707 (Int.toNat a0)) fun x7 => some (x7, s2)))
theorem jt_347 (d : Nat) (hd : 3 ≤ d) (Q : Nat) (a0 : Int) (ha0 : ev_rng a0) (S : ev_St) (x : Int) (S' : ev_St) (hJ : jm_347 Q a0 S = some (x, S')) : ev_Ref d 347 [.ref 621, .int (Int32.ofInt a0)] S (ev_eI x) S' (ev_rng x) := by
  obtain ⟨d, rfl⟩ : ∃ e, d = e + 1 := ⟨d - 1, by omega⟩
  refine ev_ref_of (P := ev_rng) (lv := [(0, .ref 621), (1, .int (Int32.ofInt a0))]) (by decide +kernel) (by (try simp only [ev_sum, ev_nv_cat]); first | done | rfl) (by (try simp only [lv_args, ev_nv_cat]); first | done | rfl) ?_ x S' hJ
  unfold jm_347
  refine ev_r_aload_n (pc := 0) (k := 0) (v := .ref 621) trivial (by decide +kernel) (by rfl) ?_
  refine ev_r_iconst (pc := 1) (k := 0) (by decide +kernel) ?_
  refine ev_r_putI (pc := 2) (y := 321) (ci := 13) (f := 0) (by decide) (by decide +kernel) (by decide +kernel) (by exact ev_ob_621) rfl rfl ?_
  intro s1
  refine ev_r_aload_n (pc := 5) (k := 0) (v := .ref 621) trivial (by decide +kernel) (by rfl) ?_
  refine ev_r_iload_n (pc := 6) (k := 1) (v := Int32.ofInt a0) (by decide +kernel) (by rfl) ?_
  refine ev_r_virt (pc := 7) (y := 716) (mi := 325) (na := 1) (k := 621) (as := [.int (Int32.ofInt a0)]) (rest := []) (encc := ev_oI) (Q := ev_bl) (fun x S1 h => jt_325 d (by omega) Q a0 ha0 s1 x S1 h) (by exact ev_ob_621) (by decide +kernel) (by decide +kernel) (by decide +kernel) (by decide +kernel) rfl (by (try simp only [ev_sum, ev_nv_cat]); first | done | rfl) ?_
  intro x3 s2 hx3
  replace hx3 := ev_bl_rng hx3
  show ev_w _ _ _ _ _ [.int (Int32.ofInt x3)] _ _ _ _
  refine ev_r_if (pc := 10) (q := .eq) (o := 12) (t := 22) (c := x3 = 0) (by decide +kernel) (ev_k_eq hx3 ev_rng0) (by decide +kernel) ?_ ?_
  · intro c4
    refine ev_r_aload_n (pc := 22) (k := 0) (v := .ref 621) trivial (by decide +kernel) (by rfl) ?_
    refine ev_r_iconst (pc := 23) (k := 1) (by decide +kernel) ?_
    refine ev_r_virt (pc := 24) (y := 342) (mi := 221) (na := 1) (k := 621) (as := [.int (Int32.ofInt 1)]) (rest := []) (encc := ev_oI) (Q := ev_rng) (fun x S1 h => jt_221 d (by omega) Q 1 (by decide) s2 x S1 h) (by exact ev_ob_621) (by decide +kernel) (by decide +kernel) (by decide +kernel) (by decide +kernel) rfl (by (try simp only [ev_sum, ev_nv_cat]); first | done | rfl) ?_
    intro x6 s5 hx6
    show ev_w _ _ _ _ _ [.int (Int32.ofInt x6)] _ _ _ _
    exact ev_r_ireturn (pc := 27) (x := x6) (v := Int32.ofInt x6) (ty := .int) hx6 (by decide +kernel) (by decide +kernel) rfl rfl
  · intro c4
    refine ev_r_aload_n (pc := 13) (k := 0) (v := .ref 621) trivial (by decide +kernel) (by rfl) ?_
    refine ev_r_getC (pc := 14) (y := 270) (ci := 13) (f := 119) (fin := 1) (k' := 707) (by decide +kernel) (by decide +kernel) (by exact ev_ob_621) rfl rfl ?_
    refine ev_r_iload_n (pc := 17) (k := 1) (v := Int32.ofInt a0) (by decide +kernel) (by rfl) ?_
    refine ev_r_iald (pc := 18) ha0 (by decide +kernel) (by exact ev_ab_707) ?_
    intro x7 hx7
    refine ev_r_goto (pc := 19) (o := 8) (t := 27) (by decide +kernel) (by decide +kernel) ?_
    exact ev_r_ireturn (pc := 27) (x := x7) (v := Int32.ofInt x7) (ty := .int) hx7 (by decide +kernel) (by decide +kernel) rfl rfl
/-- MendBenchModel.sign(II)C -/
def jm_348 (Q : Nat) (a0 : Int) (a1 : Int) (S : ev_St) : Option ((Int) × ev_St) := ev_bd (jm_325 Q a0 S) fun x2 s1 => ev_jn (fun (x3 : Int) (s8 : ev_St) => ev_b (ev_pI s8 621 0 x3) fun s9 => ev_b (s9.1 621 0) fun x10 => if x10 ≤ 0 then (ev_ck (200 * a0) fun x12 => ev_ck (x12 + a1) fun x13 => ev_if ((0 : Int) ≤ x13 ∧ x13 < (ev_aln 708 : Int)) (ev_b (s9.1 708 (Int.toNat x13)) fun x14 => ev_b (ev_i2c x14) fun x15 => ev_if (ev_retOk .char (.int (Int32.ofInt x15)) = true) (some (x15, s9)))) else (ev_if (ev_retOk .char (.int (Int32.ofInt 32)) = true) (some (32, s9)))) fun K30 => ev_jn (fun  (s22 : ev_St) => K30 1 s22) fun K29 => if x2 = 0 then (K29  s1) else (ev_if ((0 : Int) ≤ a0 ∧ a0 < (ev_aln 707 : Int)) (ev_b (s1.1 707 (Int.toNat a0)) fun x24 => ev_ck (x24 - 1) fun x25 => ev_bd (jm_222 Q a1 0 x25 s1) fun x27 s26 => if x27 = 0 then (K29  s26) else (K30 0 s26)))
theorem jt_348 (d : Nat) (hd : 3 ≤ d) (Q : Nat) (a0 : Int) (a1 : Int) (ha0 : ev_rng a0) (ha1 : ev_rng a1) (S : ev_St) (x : Int) (S' : ev_St) (hJ : jm_348 Q a0 a1 S = some (x, S')) : ev_Ref d 348 [.ref 621, .int (Int32.ofInt a0), .int (Int32.ofInt a1)] S (ev_eI x) S' (ev_rng x) := by
  obtain ⟨d, rfl⟩ : ∃ e, d = e + 1 := ⟨d - 1, by omega⟩
  refine ev_ref_of (P := ev_rng) (lv := [(0, .ref 621), (1, .int (Int32.ofInt a0)), (2, .int (Int32.ofInt a1))]) (by decide +kernel) (by (try simp only [ev_sum, ev_nv_cat]); first | done | rfl) (by (try simp only [lv_args, ev_nv_cat]); first | done | rfl) ?_ x S' hJ
  unfold jm_348
  refine ev_r_aload_n (pc := 0) (k := 0) (v := .ref 621) trivial (by decide +kernel) (by rfl) ?_
  refine ev_r_aload_n (pc := 1) (k := 0) (v := .ref 621) trivial (by decide +kernel) (by rfl) ?_
  refine ev_r_iload_n (pc := 2) (k := 1) (v := Int32.ofInt a0) (by decide +kernel) (by rfl) ?_
  refine ev_r_virt (pc := 3) (y := 716) (mi := 325) (na := 1) (k := 621) (as := [.int (Int32.ofInt a0)]) (rest := [.ref 621]) (encc := ev_oI) (Q := ev_bl) (fun x S1 h => jt_325 d (by omega) Q a0 ha0 S x S1 h) (by exact ev_ob_621) (by decide +kernel) (by decide +kernel) (by decide +kernel) (by decide +kernel) rfl (by (try simp only [ev_sum, ev_nv_cat]); first | done | rfl) ?_
  intro x2 s1 hx2
  replace hx2 := ev_bl_rng hx2
  show ev_w _ _ _ _ _ [.int (Int32.ofInt x2), .ref 621] _ _ _ _
  refine ev_r_jn (Q := fun K => ∀ (x3 : Int) (hx3 : ev_rng x3), ∀ (s8 : ev_St) (w4 : List (Nat × Value)), ev_lk w4 0 = some (.ref 621) → ev_lk w4 1 = some (.int (Int32.ofInt a0)) → ev_lk w4 2 = some (.int (Int32.ofInt a1)) → ev_w none (ev_Mof 348) d 30 w4 [.int (Int32.ofInt x3), .ref 621] s8 (K x3 s8) ev_eI ev_rng) ?_ ?_
  · intro x3 hx3 s8 w4 e5 e6 e7
    refine ev_r_putI (pc := 30) (y := 321) (ci := 13) (f := 0) hx3 (by decide +kernel) (by decide +kernel) (by exact ev_ob_621) rfl rfl ?_
    intro s9
    refine ev_r_aload_n (pc := 33) (k := 0) (v := .ref 621) trivial (by decide +kernel) (by exact e5) ?_
    refine ev_r_getI (pc := 34) (y := 321) (ci := 13) (f := 0) (fin := 0) (by decide +kernel) (by decide +kernel) (by exact ev_ob_621) rfl ?_
    intro x10 hx10
    refine ev_r_if (pc := 37) (q := .le) (o := 8) (t := 45) (c := x10 ≤ 0) (by decide +kernel) (ev_k_le hx10 ev_rng0) (by decide +kernel) ?_ ?_
    · intro c11
      refine ev_r_aload_n (pc := 45) (k := 0) (v := .ref 621) trivial (by decide +kernel) (by exact e5) ?_
      refine ev_r_getC (pc := 46) (y := 273) (ci := 13) (f := 120) (fin := 1) (k' := 708) (by decide +kernel) (by decide +kernel) (by exact ev_ob_621) rfl rfl ?_
      refine ev_r_sipush (pc := 49) (k := 200) (by decide +kernel) (by decide +kernel) ?_
      refine ev_r_iload_n (pc := 52) (k := 1) (v := Int32.ofInt a0) (by decide +kernel) (by exact e6) ?_
      refine ev_r_imul (pc := 53) (by decide +kernel) ?_
      intro x12 hx12
      refine ev_r_iload_n (pc := 54) (k := 2) (v := Int32.ofInt a1) (by decide +kernel) (by exact e7) ?_
      refine ev_r_iadd (pc := 55) (by decide +kernel) ?_
      intro x13 hx13
      refine ev_r_iald (pc := 56) hx13 (by decide +kernel) (by exact ev_ab_708) ?_
      intro x14 hx14
      refine ev_r_toI (pc := 57) (i := .i2c) (len := 1) (pc' := 58) (by decide +kernel) rfl ?_
      intro x15 hx15
      refine ev_r_chk ?_
      intro c16
      exact ev_r_ireturn (pc := 58) (x := x15) (v := Int32.ofInt x15) (ty := .char) hx15 (by decide +kernel) (by decide +kernel) c16 rfl
    · intro c11
      refine ev_r_bipush (pc := 40) (k := 32) (by decide +kernel) (by decide +kernel) ?_
      refine ev_r_goto (pc := 42) (o := 16) (t := 58) (by decide +kernel) (by decide +kernel) ?_
      refine ev_r_chk ?_
      intro c17
      exact ev_r_ireturn (pc := 58) (x := 32) (v := Int32.ofInt 32) (ty := .char) (by decide) (by decide +kernel) (by decide +kernel) c17 rfl
  · intro K30 hK30
    refine ev_r_jn (Q := fun K => ∀ (s22 : ev_St) (w18 : List (Nat × Value)), ev_lk w18 0 = some (.ref 621) → ev_lk w18 1 = some (.int (Int32.ofInt a0)) → ev_lk w18 2 = some (.int (Int32.ofInt a1)) → ev_w none (ev_Mof 348) d 29 w18 [.ref 621] s22 (K  s22) ev_eI ev_rng) ?_ ?_
    · intro  s22 w18 e19 e20 e21
      refine ev_r_iconst (pc := 29) (k := 1) (by decide +kernel) ?_
      exact hK30 1 (by decide) s22 _ (by exact e19) (by exact e20) (by exact e21)
    · intro K29 hK29
      refine ev_r_if (pc := 6) (q := .eq) (o := 23) (t := 29) (c := x2 = 0) (by decide +kernel) (ev_k_eq hx2 ev_rng0) (by decide +kernel) ?_ ?_
      · intro c23
        exact hK29  s1 _ (by rfl) (by rfl) (by rfl)
      · intro c23
        refine ev_r_iload_n (pc := 9) (k := 2) (v := Int32.ofInt a1) (by decide +kernel) (by rfl) ?_
        refine ev_r_iconst (pc := 10) (k := 0) (by decide +kernel) ?_
        refine ev_r_aload_n (pc := 11) (k := 0) (v := .ref 621) trivial (by decide +kernel) (by rfl) ?_
        refine ev_r_getC (pc := 12) (y := 270) (ci := 13) (f := 119) (fin := 1) (k' := 707) (by decide +kernel) (by decide +kernel) (by exact ev_ob_621) rfl rfl ?_
        refine ev_r_iload_n (pc := 15) (k := 1) (v := Int32.ofInt a0) (by decide +kernel) (by rfl) ?_
        refine ev_r_iald (pc := 16) ha0 (by decide +kernel) (by exact ev_ab_707) ?_
        intro x24 hx24
        refine ev_r_iconst (pc := 17) (k := 1) (by decide +kernel) ?_
        refine ev_r_isub (pc := 18) (by decide +kernel) ?_
        intro x25 hx25
        refine ev_r_stat (pc := 19) (y := 325) (kind := 2) (mi := 222) (na := 3) (as := [.int (Int32.ofInt a1), .int (Int32.ofInt 0), .int (Int32.ofInt x25)]) (rest := [.ref 621]) (encc := ev_oI) (Q := ev_bl) (fun x S1 h => jt_222 d (by omega) Q a1 0 x25 ha1 (by decide) hx25 s1 x S1 h) (Or.inl rfl) (by decide +kernel) (by decide +kernel) (by decide +kernel) (by decide +kernel) rfl (by (try simp only [ev_sum, ev_nv_cat]); first | done | rfl) ?_
        intro x27 s26 hx27
        replace hx27 := ev_bl_rng hx27
        show ev_w _ _ _ _ _ [.int (Int32.ofInt x27), .ref 621] _ _ _ _
        refine ev_r_if (pc := 22) (q := .eq) (o := 7) (t := 29) (c := x27 = 0) (by decide +kernel) (ev_k_eq hx27 ev_rng0) (by decide +kernel) ?_ ?_
        · intro c28
          exact hK29  s26 _ (by rfl) (by rfl) (by rfl)
        · intro c28
          refine ev_r_iconst (pc := 25) (k := 0) (by decide +kernel) ?_
          refine ev_r_goto (pc := 26) (o := 4) (t := 30) (by decide +kernel) (by decide +kernel) ?_
          exact hK30 0 (by decide) s26 _ (by rfl) (by rfl) (by rfl)
def jb_349_17 (Q : Nat) (a0 : Int) (a1 : Int) (a2 : Int)  (K17 : Int → Int → Int → ev_St → Option ((Int) × ev_St)) (x3 : Int) (x4 : Int) (x5 : Int) (s14 : ev_St) : Option ((Int) × ev_St) := ev_jn (fun  (s19 : ev_St) => ev_b (s19.1 621 113) fun x20 => ev_ck (x5 + x20) fun x21 => if x21 ≤ 80 then (some (x3, s19)) else (some ((-1), s19))) fun K152 => if x4 = (-1) then (K152  s14) else (if a2 ≤ x3 then (K152  s14) else (ev_bd (jm_308 Q a0 x4 0 s14) fun x26 s25 => if x26 ≠ (-2) then (ev_jn (fun (x28 : Int) (x29 : Int) (s38 : ev_St) => ev_jn (fun (x39 : Int) (s47 : ev_St) => K17 x28 x39 x29 s47) fun K147 => if x26 ≠ 1 then (K147 ((-1)) s38) else (ev_bd (jm_333 Q  s38) fun x50 s49 => K147 x50 s49)) fun K133 => if x26 ≠ 1 then (K133 x3 x5 s25) else (ev_if ((0 : Int) ≤ 0 ∧ 0 < (ev_aln 679 : Int)) (ev_b (s25.1 679 (Int.toNat 0)) fun x52 => ev_if ((0 : Int) ≤ x3 ∧ x3 < (ev_aln 704 : Int)) (ev_b (ev_pI s25 704 (Int.toNat x3) x52) fun s53 => ev_if ((0 : Int) ≤ 0 ∧ 0 < (ev_aln 680 : Int)) (ev_b (s53.1 680 (Int.toNat 0)) fun x54 => ev_if ((0 : Int) ≤ x3 ∧ x3 < (ev_aln 705 : Int)) (ev_b (ev_pI s53 705 (Int.toNat x3) x54) fun s55 => ev_if ((0 : Int) ≤ 0 ∧ 0 < (ev_aln 680 : Int)) (ev_b (s55.1 680 (Int.toNat 0)) fun x56 => ev_if ((0 : Int) ≤ 0 ∧ 0 < (ev_aln 679 : Int)) (ev_b (s55.1 679 (Int.toNat 0)) fun x57 => ev_ck (x56 - x57) fun x58 => ev_ck (x5 - x58) fun x59 => ev_b (s55.1 621 113) fun x60 => ev_if ((0 : Int) ≤ x3 ∧ x3 < (ev_aln 703 : Int)) (ev_b (ev_pI s55 703 (Int.toNat x3) x60) fun s61 => ev_ck (x3 + 1) fun x62 => ev_bd (jm_340 Q a0 a1 x62 s61) fun _ s63 => ev_ck (x3 + 1) fun x64 => ev_b (s63.1 621 113) fun x65 => ev_if ((0 : Int) ≤ x64 ∧ x64 < (ev_aln 703 : Int)) (ev_b (ev_pI s63 703 (Int.toNat x64) x65) fun s66 => K133 x64 x59 s66)))))))))) else (some ((-1), s25))))
def jl_349_17 (Q : Nat) (a0 : Int) (a1 : Int) (a2 : Int)  : Nat → Int → Int → Int → ev_St → Option ((Int) × ev_St)
  | 0 => fun _ _ _ _ => none
  | q + 1 => jb_349_17 Q a0 a1 a2  (jl_349_17 Q a0 a1 a2  q)
theorem jbt_349_17 (d : Nat) (hd : 10 ≤ d + 1) (Q : Nat) (a0 : Int) (a1 : Int) (a2 : Int) (ha0 : ev_rng a0) (ha1 : ev_rng a1) (ha2 : ev_rng a2)   (K17 : Int → Int → Int → ev_St → Option ((Int) × ev_St)) (hK17 : ∀ (x3 : Int) (hx3 : ev_rng x3), ∀ (x4 : Int) (hx4 : ev_rng x4), ∀ (x5 : Int) (hx5 : ev_rng x5), ∀ (s14 : ev_St) (w6 : List (Nat × Value)), ev_lk w6 0 = some (.ref 621) → ev_lk w6 1 = some (.int (Int32.ofInt a0)) → ev_lk w6 2 = some (.int (Int32.ofInt a1)) → ev_lk w6 3 = some (.int (Int32.ofInt a2)) → ev_lk w6 4 = some (.int (Int32.ofInt x3)) → ev_lk w6 5 = some (.int (Int32.ofInt x4)) → ev_lk w6 6 = some (.int (Int32.ofInt x5)) → ev_w none (ev_Mof 349) d 17 w6 [] s14 (K17 x3 x4 x5 s14) ev_eI ev_rng) : ∀ (x3 : Int) (hx3 : ev_rng x3), ∀ (x4 : Int) (hx4 : ev_rng x4), ∀ (x5 : Int) (hx5 : ev_rng x5), ∀ (s14 : ev_St) (w6 : List (Nat × Value)), ev_lk w6 0 = some (.ref 621) → ev_lk w6 1 = some (.int (Int32.ofInt a0)) → ev_lk w6 2 = some (.int (Int32.ofInt a1)) → ev_lk w6 3 = some (.int (Int32.ofInt a2)) → ev_lk w6 4 = some (.int (Int32.ofInt x3)) → ev_lk w6 5 = some (.int (Int32.ofInt x4)) → ev_lk w6 6 = some (.int (Int32.ofInt x5)) → ev_w none (ev_Mof 349) d 17 w6 [] s14 (jb_349_17 Q a0 a1 a2  K17 x3 x4 x5 s14) ev_eI ev_rng := by
  intro x3 hx3 x4 hx4 x5 hx5 s14 w6 e7 e8 e9 e10 e11 e12 e13
  unfold jb_349_17
  refine ev_r_iload (pc := 17) (k := 5) (v := Int32.ofInt x4) (by decide +kernel) (by exact e12) ?_
  refine ev_r_iconst (pc := 19) (k := -1) (by decide +kernel) ?_
  refine ev_r_jn (Q := fun K => ∀ (s19 : ev_St) (w15 : List (Nat × Value)), ev_lk w15 0 = some (.ref 621) → ev_lk w15 4 = some (.int (Int32.ofInt x3)) → ev_lk w15 6 = some (.int (Int32.ofInt x5)) → ev_w none (ev_Mof 349) d 152 w15 [] s19 (K  s19) ev_eI ev_rng) ?_ ?_
  · intro  s19 w15 e16 e17 e18
    refine ev_r_iload (pc := 152) (k := 6) (v := Int32.ofInt x5) (by decide +kernel) (by exact e18) ?_
    refine ev_r_aload_n (pc := 154) (k := 0) (v := .ref 621) trivial (by decide +kernel) (by exact e16) ?_
    refine ev_r_getI (pc := 155) (y := 748) (ci := 13) (f := 113) (fin := 0) (by decide +kernel) (by decide +kernel) (by exact ev_ob_621) rfl ?_
    intro x20 hx20
    refine ev_r_iadd (pc := 158) (by decide +kernel) ?_
    intro x21 hx21
    refine ev_r_bipush (pc := 159) (k := 80) (by decide +kernel) (by decide +kernel) ?_
    refine ev_r_icmp (pc := 161) (q := .le) (o := 7) (t := 168) (c := x21 ≤ 80) (by decide +kernel) (ev_k_le hx21 (by decide)) (by decide +kernel) ?_ ?_
    · intro c22
      refine ev_r_iload (pc := 168) (k := 4) (v := Int32.ofInt x3) (by decide +kernel) (by exact e17) ?_
      exact ev_r_ireturn (pc := 170) (x := x3) (v := Int32.ofInt x3) (ty := .int) hx3 (by decide +kernel) (by decide +kernel) rfl rfl
    · intro c22
      refine ev_r_iconst (pc := 164) (k := -1) (by decide +kernel) ?_
      refine ev_r_goto (pc := 165) (o := 5) (t := 170) (by decide +kernel) (by decide +kernel) ?_
      exact ev_r_ireturn (pc := 170) (x := (-1)) (v := Int32.ofInt ((-1))) (ty := .int) (by decide) (by decide +kernel) (by decide +kernel) rfl rfl
  · intro K152 hK152
    refine ev_r_icmp (pc := 20) (q := .eq) (o := 132) (t := 152) (c := x4 = (-1)) (by decide +kernel) (ev_k_eq hx4 (by decide)) (by decide +kernel) ?_ ?_
    · intro c23
      exact hK152  s14 _ (by exact e7) (by exact e11) (by exact e13)
    · intro c23
      refine ev_r_iload (pc := 23) (k := 4) (v := Int32.ofInt x3) (by decide +kernel) (by exact e11) ?_
      refine ev_r_iload_n (pc := 25) (k := 3) (v := Int32.ofInt a2) (by decide +kernel) (by exact e10) ?_
      refine ev_r_icmp (pc := 26) (q := .ge) (o := 126) (t := 152) (c := a2 ≤ x3) (by decide +kernel) (ev_k_ge hx3 ha2) (by decide +kernel) ?_ ?_
      · intro c24
        exact hK152  s14 _ (by exact e7) (by exact e11) (by exact e13)
      · intro c24
        refine ev_r_aload_n (pc := 29) (k := 0) (v := .ref 621) trivial (by decide +kernel) (by exact e7) ?_
        refine ev_r_iload_n (pc := 30) (k := 1) (v := Int32.ofInt a0) (by decide +kernel) (by exact e8) ?_
        refine ev_r_iload (pc := 31) (k := 5) (v := Int32.ofInt x4) (by decide +kernel) (by exact e12) ?_
        refine ev_r_iconst (pc := 33) (k := 0) (by decide +kernel) ?_
        refine ev_r_virt (pc := 34) (y := 725) (mi := 308) (na := 3) (k := 621) (as := [.int (Int32.ofInt a0), .int (Int32.ofInt x4), .int (Int32.ofInt 0)]) (rest := []) (encc := ev_oI) (Q := ev_rng) (fun x S1 h => jt_308 d (by omega) Q a0 x4 0 ha0 hx4 (by decide) s14 x S1 h) (by exact ev_ob_621) (by decide +kernel) (by decide +kernel) (by decide +kernel) (by decide +kernel) rfl (by (try simp only [ev_sum, ev_nv_cat]); first | done | rfl) ?_
        intro x26 s25 hx26
        show ev_w _ _ _ _ _ [.int (Int32.ofInt x26)] _ _ _ _
        refine ev_r_istore (pc := 37) (k := 7) (by decide +kernel) (by decide +kernel) rfl ?_
        refine ev_r_iload (pc := 39) (k := 7) (v := Int32.ofInt x26) (by decide +kernel) (by exact ev_lk_st1_self) ?_
        refine ev_r_bipush (pc := 41) (k := -2) (by decide +kernel) (by decide +kernel) ?_
        refine ev_r_icmp (pc := 43) (q := .ne) (o := 5) (t := 48) (c := x26 ≠ (-2)) (by decide +kernel) (ev_k_ne hx26 (by decide)) (by decide +kernel) ?_ ?_
        · intro c27
          refine ev_r_iload (pc := 48) (k := 7) (v := Int32.ofInt x26) (by decide +kernel) (by exact ev_lk_st1_self) ?_
          refine ev_r_iconst (pc := 50) (k := 1) (by decide +kernel) ?_
          refine ev_r_jn (Q := fun K => ∀ (x28 : Int) (hx28 : ev_rng x28), ∀ (x29 : Int) (hx29 : ev_rng x29), ∀ (s38 : ev_St) (w30 : List (Nat × Value)), ev_lk w30 0 = some (.ref 621) → ev_lk w30 1 = some (.int (Int32.ofInt a0)) → ev_lk w30 2 = some (.int (Int32.ofInt a1)) → ev_lk w30 3 = some (.int (Int32.ofInt a2)) → ev_lk w30 4 = some (.int (Int32.ofInt x28)) → ev_lk w30 6 = some (.int (Int32.ofInt x29)) → ev_lk w30 7 = some (.int (Int32.ofInt x26)) → ev_w none (ev_Mof 349) d 133 w30 [] s38 (K x28 x29 s38) ev_eI ev_rng) ?_ ?_
          · intro x28 hx28 x29 hx29 s38 w30 e31 e32 e33 e34 e35 e36 e37
            refine ev_r_iload (pc := 133) (k := 7) (v := Int32.ofInt x26) (by decide +kernel) (by exact e37) ?_
            refine ev_r_iconst (pc := 135) (k := 1) (by decide +kernel) ?_
            refine ev_r_jn (Q := fun K => ∀ (x39 : Int) (hx39 : ev_rng x39), ∀ (s47 : ev_St) (w40 : List (Nat × Value)), ev_lk w40 0 = some (.ref 621) → ev_lk w40 1 = some (.int (Int32.ofInt a0)) → ev_lk w40 2 = some (.int (Int32.ofInt a1)) → ev_lk w40 3 = some (.int (Int32.ofInt a2)) → ev_lk w40 4 = some (.int (Int32.ofInt x28)) → ev_lk w40 6 = some (.int (Int32.ofInt x29)) → ev_w none (ev_Mof 349) d 147 w40 [.int (Int32.ofInt x39)] s47 (K x39 s47) ev_eI ev_rng) ?_ ?_
            · intro x39 hx39 s47 w40 e41 e42 e43 e44 e45 e46
              refine ev_r_istore (pc := 147) (k := 5) (by decide +kernel) (by decide +kernel) rfl ?_
              refine ev_r_goto (pc := 149) (o := (-132)) (t := 17) (by decide +kernel) (by decide +kernel) ?_
              exact hK17 x28 hx28 x39 hx39 x29 hx29 s47 _ (by exact (ev_l1 e41 (by decide) (by decide))) (by exact (ev_l1 e42 (by decide) (by decide))) (by exact (ev_l1 e43 (by decide) (by decide))) (by exact (ev_l1 e44 (by decide) (by decide))) (by exact (ev_lk_st1 e45 (by decide) rfl)) (by exact ev_lk_st1_self) (by exact (ev_l1 e46 (by decide) (by decide)))
            · intro K147 hK147
              refine ev_r_icmp (pc := 136) (q := .ne) (o := 10) (t := 146) (c := x26 ≠ 1) (by decide +kernel) (ev_k_ne hx26 (by decide)) (by decide +kernel) ?_ ?_
              · intro c48
                refine ev_r_iconst (pc := 146) (k := -1) (by decide +kernel) ?_
                exact hK147 ((-1)) (by decide) s38 _ (by exact e31) (by exact e32) (by exact e33) (by exact e34) (by exact e35) (by exact e36)
              · intro c48
                refine ev_r_aload_n (pc := 139) (k := 0) (v := .ref 621) trivial (by decide +kernel) (by exact e31) ?_
                refine ev_r_virt (pc := 140) (y := 738) (mi := 333) (na := 0) (k := 621) (as := []) (rest := []) (encc := ev_oI) (Q := ev_rng) (fun x S1 h => jt_333 d (by omega) Q   s38 x S1 h) (by exact ev_ob_621) (by decide +kernel) (by decide +kernel) (by decide +kernel) (by decide +kernel) rfl (by (try simp only [ev_sum, ev_nv_cat]); first | done | rfl) ?_
                intro x50 s49 hx50
                show ev_w _ _ _ _ _ [.int (Int32.ofInt x50)] _ _ _ _
                refine ev_r_goto (pc := 143) (o := 4) (t := 147) (by decide +kernel) (by decide +kernel) ?_
                exact hK147 x50 hx50 s49 _ (by exact e31) (by exact e32) (by exact e33) (by exact e34) (by exact e35) (by exact e36)
          · intro K133 hK133
            refine ev_r_icmp (pc := 51) (q := .ne) (o := 82) (t := 133) (c := x26 ≠ 1) (by decide +kernel) (ev_k_ne hx26 (by decide)) (by decide +kernel) ?_ ?_
            · intro c51
              exact hK133 x3 hx3 x5 hx5 s25 _ (by exact (ev_l1 e7 (by decide) (by decide))) (by exact (ev_l1 e8 (by decide) (by decide))) (by exact (ev_l1 e9 (by decide) (by decide))) (by exact (ev_l1 e10 (by decide) (by decide))) (by exact (ev_l1 e11 (by decide) (by decide))) (by exact (ev_lk_st1 e13 (by decide) rfl)) (by exact ev_lk_st1_self)
            · intro c51
              refine ev_r_aload_n (pc := 54) (k := 0) (v := .ref 621) trivial (by decide +kernel) (by exact (ev_l1 e7 (by decide) (by decide))) ?_
              refine ev_r_getC (pc := 55) (y := 261) (ci := 13) (f := 116) (fin := 1) (k' := 704) (by decide +kernel) (by decide +kernel) (by exact ev_ob_621) rfl rfl ?_
              refine ev_r_iload (pc := 58) (k := 4) (v := Int32.ofInt x3) (by decide +kernel) (by exact (ev_l1 e11 (by decide) (by decide))) ?_
              refine ev_r_aload_n (pc := 60) (k := 0) (v := .ref 621) trivial (by decide +kernel) (by exact (ev_l1 e7 (by decide) (by decide))) ?_
              refine ev_r_getC (pc := 61) (y := 184) (ci := 13) (f := 86) (fin := 1) (k' := 679) (by decide +kernel) (by decide +kernel) (by exact ev_ob_621) rfl rfl ?_
              refine ev_r_iconst (pc := 64) (k := 0) (by decide +kernel) ?_
              refine ev_r_iald (pc := 65) (by decide) (by decide +kernel) (by exact ev_ab_679) ?_
              intro x52 hx52
              refine ev_r_iast (pc := 66) hx52 hx3 (by decide +kernel) (by exact ev_ab_704) ?_
              intro s53
              refine ev_r_aload_n (pc := 67) (k := 0) (v := .ref 621) trivial (by decide +kernel) (by exact (ev_l1 e7 (by decide) (by decide))) ?_
              refine ev_r_getC (pc := 68) (y := 264) (ci := 13) (f := 117) (fin := 1) (k' := 705) (by decide +kernel) (by decide +kernel) (by exact ev_ob_621) rfl rfl ?_
              refine ev_r_iload (pc := 71) (k := 4) (v := Int32.ofInt x3) (by decide +kernel) (by exact (ev_l1 e11 (by decide) (by decide))) ?_
              refine ev_r_aload_n (pc := 73) (k := 0) (v := .ref 621) trivial (by decide +kernel) (by exact (ev_l1 e7 (by decide) (by decide))) ?_
              refine ev_r_getC (pc := 74) (y := 187) (ci := 13) (f := 87) (fin := 1) (k' := 680) (by decide +kernel) (by decide +kernel) (by exact ev_ob_621) rfl rfl ?_
              refine ev_r_iconst (pc := 77) (k := 0) (by decide +kernel) ?_
              refine ev_r_iald (pc := 78) (by decide) (by decide +kernel) (by exact ev_ab_680) ?_
              intro x54 hx54
              refine ev_r_iast (pc := 79) hx54 hx3 (by decide +kernel) (by exact ev_ab_705) ?_
              intro s55
              refine ev_r_iload (pc := 80) (k := 6) (v := Int32.ofInt x5) (by decide +kernel) (by exact (ev_lk_st1 e13 (by decide) rfl)) ?_
              refine ev_r_aload_n (pc := 82) (k := 0) (v := .ref 621) trivial (by decide +kernel) (by exact (ev_l1 e7 (by decide) (by decide))) ?_
              refine ev_r_getC (pc := 83) (y := 187) (ci := 13) (f := 87) (fin := 1) (k' := 680) (by decide +kernel) (by decide +kernel) (by exact ev_ob_621) rfl rfl ?_
              refine ev_r_iconst (pc := 86) (k := 0) (by decide +kernel) ?_
              refine ev_r_iald (pc := 87) (by decide) (by decide +kernel) (by exact ev_ab_680) ?_
              intro x56 hx56
              refine ev_r_aload_n (pc := 88) (k := 0) (v := .ref 621) trivial (by decide +kernel) (by exact (ev_l1 e7 (by decide) (by decide))) ?_
              refine ev_r_getC (pc := 89) (y := 184) (ci := 13) (f := 86) (fin := 1) (k' := 679) (by decide +kernel) (by decide +kernel) (by exact ev_ob_621) rfl rfl ?_
              refine ev_r_iconst (pc := 92) (k := 0) (by decide +kernel) ?_
              refine ev_r_iald (pc := 93) (by decide) (by decide +kernel) (by exact ev_ab_679) ?_
              intro x57 hx57
              refine ev_r_isub (pc := 94) (by decide +kernel) ?_
              intro x58 hx58
              refine ev_r_isub (pc := 95) (by decide +kernel) ?_
              intro x59 hx59
              refine ev_r_istore (pc := 96) (k := 6) (by decide +kernel) (by decide +kernel) rfl ?_
              refine ev_r_aload_n (pc := 98) (k := 0) (v := .ref 621) trivial (by decide +kernel) (by exact (ev_l1 (ev_l1 e7 (by decide) (by decide)) (by decide) (by decide))) ?_
              refine ev_r_getC (pc := 99) (y := 258) (ci := 13) (f := 115) (fin := 1) (k' := 703) (by decide +kernel) (by decide +kernel) (by exact ev_ob_621) rfl rfl ?_
              refine ev_r_iload (pc := 102) (k := 4) (v := Int32.ofInt x3) (by decide +kernel) (by exact (ev_l1 (ev_l1 e11 (by decide) (by decide)) (by decide) (by decide))) ?_
              refine ev_r_aload_n (pc := 104) (k := 0) (v := .ref 621) trivial (by decide +kernel) (by exact (ev_l1 (ev_l1 e7 (by decide) (by decide)) (by decide) (by decide))) ?_
              refine ev_r_getI (pc := 105) (y := 748) (ci := 13) (f := 113) (fin := 0) (by decide +kernel) (by decide +kernel) (by exact ev_ob_621) rfl ?_
              intro x60 hx60
              refine ev_r_iast (pc := 108) hx60 hx3 (by decide +kernel) (by exact ev_ab_703) ?_
              intro s61
              refine ev_r_aload_n (pc := 109) (k := 0) (v := .ref 621) trivial (by decide +kernel) (by exact (ev_l1 (ev_l1 e7 (by decide) (by decide)) (by decide) (by decide))) ?_
              refine ev_r_iload_n (pc := 110) (k := 1) (v := Int32.ofInt a0) (by decide +kernel) (by exact (ev_l1 (ev_l1 e8 (by decide) (by decide)) (by decide) (by decide))) ?_
              refine ev_r_iload_n (pc := 111) (k := 2) (v := Int32.ofInt a1) (by decide +kernel) (by exact (ev_l1 (ev_l1 e9 (by decide) (by decide)) (by decide) (by decide))) ?_
              refine ev_r_iload (pc := 112) (k := 4) (v := Int32.ofInt x3) (by decide +kernel) (by exact (ev_l1 (ev_l1 e11 (by decide) (by decide)) (by decide) (by decide))) ?_
              refine ev_r_iconst (pc := 114) (k := 1) (by decide +kernel) ?_
              refine ev_r_iadd (pc := 115) (by decide +kernel) ?_
              intro x62 hx62
              refine ev_r_virt (pc := 116) (y := 796) (mi := 340) (na := 3) (k := 621) (as := [.int (Int32.ofInt a0), .int (Int32.ofInt a1), .int (Int32.ofInt x62)]) (rest := []) (encc := ev_oU) (Q := ev_PU) (fun x S1 h => jt_340 d (by omega) Q a0 a1 x62 ha0 ha1 hx62 s61 x S1 h) (by exact ev_ob_621) (by decide +kernel) (by decide +kernel) (by decide +kernel) (by decide +kernel) rfl (by (try simp only [ev_sum, ev_nv_cat]); first | done | rfl) ?_
              intro _ s63 _
              show ev_w _ _ _ _ _ [] _ _ _ _
              refine ev_r_iinc (pc := 119) (k := 4) (c := 1) (x := x3) (by decide +kernel) (by decide +kernel) (by exact (ev_l1 (ev_l1 e11 (by decide) (by decide)) (by decide) (by decide))) (fun _ => rfl) ?_
              intro x64 hx64
              refine ev_r_aload_n (pc := 122) (k := 0) (v := .ref 621) trivial (by decide +kernel) (by exact (ev_l1 (ev_l1 (ev_l1 e7 (by decide) (by decide)) (by decide) (by decide)) (by decide) (by decide))) ?_
              refine ev_r_getC (pc := 123) (y := 258) (ci := 13) (f := 115) (fin := 1) (k' := 703) (by decide +kernel) (by decide +kernel) (by exact ev_ob_621) rfl rfl ?_
              refine ev_r_iload (pc := 126) (k := 4) (v := Int32.ofInt x64) (by decide +kernel) (by exact ev_lk_st1_self) ?_
              refine ev_r_aload_n (pc := 128) (k := 0) (v := .ref 621) trivial (by decide +kernel) (by exact (ev_l1 (ev_l1 (ev_l1 e7 (by decide) (by decide)) (by decide) (by decide)) (by decide) (by decide))) ?_
              refine ev_r_getI (pc := 129) (y := 748) (ci := 13) (f := 113) (fin := 0) (by decide +kernel) (by decide +kernel) (by exact ev_ob_621) rfl ?_
              intro x65 hx65
              refine ev_r_iast (pc := 132) hx65 hx64 (by decide +kernel) (by exact ev_ab_703) ?_
              intro s66
              exact hK133 x64 hx64 x59 hx59 s66 _ (by exact (ev_l1 (ev_l1 (ev_l1 e7 (by decide) (by decide)) (by decide) (by decide)) (by decide) (by decide))) (by exact (ev_l1 (ev_l1 (ev_l1 e8 (by decide) (by decide)) (by decide) (by decide)) (by decide) (by decide))) (by exact (ev_l1 (ev_l1 (ev_l1 e9 (by decide) (by decide)) (by decide) (by decide)) (by decide) (by decide))) (by exact (ev_lk_st1 (ev_l1 (ev_l1 e10 (by decide) (by decide)) (by decide) (by decide)) (by decide) rfl)) (by exact ev_lk_st1_self) (by exact (ev_l1 ev_lk_st1_self (by decide) (by decide))) (by exact (ev_l1 (ev_l1 ev_lk_st1_self (by decide) (by decide)) (by decide) (by decide)))
        · intro c27
          refine ev_r_iconst (pc := 46) (k := -1) (by decide +kernel) ?_
          exact ev_r_ireturn (pc := 47) (x := (-1)) (v := Int32.ofInt ((-1))) (ty := .int) (by decide) (by decide +kernel) (by decide +kernel) rfl rfl
theorem jlt_349_17 (d : Nat) (hd : 10 ≤ d + 1) (Q : Nat) (a0 : Int) (a1 : Int) (a2 : Int) (ha0 : ev_rng a0) (ha1 : ev_rng a1) (ha2 : ev_rng a2)   : ∀ q : Nat, ∀ (x3 : Int) (hx3 : ev_rng x3), ∀ (x4 : Int) (hx4 : ev_rng x4), ∀ (x5 : Int) (hx5 : ev_rng x5), ∀ (s14 : ev_St) (w6 : List (Nat × Value)), ev_lk w6 0 = some (.ref 621) → ev_lk w6 1 = some (.int (Int32.ofInt a0)) → ev_lk w6 2 = some (.int (Int32.ofInt a1)) → ev_lk w6 3 = some (.int (Int32.ofInt a2)) → ev_lk w6 4 = some (.int (Int32.ofInt x3)) → ev_lk w6 5 = some (.int (Int32.ofInt x4)) → ev_lk w6 6 = some (.int (Int32.ofInt x5)) → ev_w none (ev_Mof 349) d 17 w6 [] s14 (jl_349_17 Q a0 a1 a2  q x3 x4 x5 s14) ev_eI ev_rng := by
  intro q
  induction q with
  | zero =>
    intro x3 hx3 x4 hx4 x5 hx5 s14 w6 e7 e8 e9 e10 e11 e12 e13
    exact ev_w_none
  | succ q ih => exact jbt_349_17 d hd Q a0 a1 a2 ha0 ha1 ha2   _ ih
/-- MendBenchModel.prepares(III)I -/
def jm_349 (Q : Nat) (a0 : Int) (a1 : Int) (a2 : Int) (S : ev_St) : Option ((Int) × ev_St) := ev_b (ev_pI S 621 113 0) fun s1 => ev_b (s1.1 621 73) fun x2 => jl_349_17 Q a0 a1 a2  Q 0 0 x2 s1
theorem jt_349 (d : Nat) (hd : 10 ≤ d) (Q : Nat) (a0 : Int) (a1 : Int) (a2 : Int) (ha0 : ev_rng a0) (ha1 : ev_rng a1) (ha2 : ev_rng a2) (S : ev_St) (x : Int) (S' : ev_St) (hJ : jm_349 Q a0 a1 a2 S = some (x, S')) : ev_Ref d 349 [.ref 621, .int (Int32.ofInt a0), .int (Int32.ofInt a1), .int (Int32.ofInt a2)] S (ev_eI x) S' (ev_rng x) := by
  obtain ⟨d, rfl⟩ : ∃ e, d = e + 1 := ⟨d - 1, by omega⟩
  refine ev_ref_of (P := ev_rng) (lv := [(0, .ref 621), (1, .int (Int32.ofInt a0)), (2, .int (Int32.ofInt a1)), (3, .int (Int32.ofInt a2))]) (by decide +kernel) (by (try simp only [ev_sum, ev_nv_cat]); first | done | rfl) (by (try simp only [lv_args, ev_nv_cat]); first | done | rfl) ?_ x S' hJ
  unfold jm_349
  refine ev_r_aload_n (pc := 0) (k := 0) (v := .ref 621) trivial (by decide +kernel) (by rfl) ?_
  refine ev_r_iconst (pc := 1) (k := 0) (by decide +kernel) ?_
  refine ev_r_putI (pc := 2) (y := 748) (ci := 13) (f := 113) (by decide) (by decide +kernel) (by decide +kernel) (by exact ev_ob_621) rfl rfl ?_
  intro s1
  refine ev_r_iconst (pc := 5) (k := 0) (by decide +kernel) ?_
  refine ev_r_istore (pc := 6) (k := 4) (by decide +kernel) (by decide +kernel) rfl ?_
  refine ev_r_iconst (pc := 8) (k := 0) (by decide +kernel) ?_
  refine ev_r_istore (pc := 9) (k := 5) (by decide +kernel) (by decide +kernel) rfl ?_
  refine ev_r_aload_n (pc := 11) (k := 0) (v := .ref 621) trivial (by decide +kernel) (by exact (ev_l1 (ev_l1 (by rfl) (by decide) (by decide)) (by decide) (by decide))) ?_
  refine ev_r_getI (pc := 12) (y := 567) (ci := 13) (f := 73) (fin := 0) (by decide +kernel) (by decide +kernel) (by exact ev_ob_621) rfl ?_
  intro x2 hx2
  refine ev_r_istore (pc := 15) (k := 6) (by decide +kernel) (by decide +kernel) rfl ?_
  exact jlt_349_17 d hd Q a0 a1 a2 ha0 ha1 ha2   Q 0 (by decide) 0 (by decide) x2 hx2 s1 _ (by exact (ev_l1 (ev_l1 (ev_l1 (by rfl) (by decide) (by decide)) (by decide) (by decide)) (by decide) (by decide))) (by exact (ev_l1 (ev_l1 (ev_l1 (by rfl) (by decide) (by decide)) (by decide) (by decide)) (by decide) (by decide))) (by exact (ev_l1 (ev_l1 (ev_l1 (by rfl) (by decide) (by decide)) (by decide) (by decide)) (by decide) (by decide))) (by exact (ev_l1 (ev_l1 (ev_lk_st1 (by rfl) (by decide) rfl) (by decide) (by decide)) (by decide) (by decide))) (by exact (ev_l1 (ev_lk_st1 ev_lk_st1_self (by decide) rfl) (by decide) (by decide))) (by exact (ev_lk_st1 ev_lk_st1_self (by decide) rfl)) (by exact ev_lk_st1_self)
def jb_350_4 (Q : Nat) (a0 : Int)  (K4 : Int → ev_St → Option ((Unit) × ev_St)) (x2 : Int) (s7 : ev_St) : Option ((Unit) × ev_St) := if x2 < 0 then (some ((), s7)) else (ev_if ((0 : Int) ≤ x2 ∧ x2 < (ev_aln 704 : Int)) (ev_b (s7.1 704 (Int.toNat x2)) fun x9 => ev_if ((0 : Int) ≤ x2 ∧ x2 < (ev_aln 705 : Int)) (ev_b (s7.1 705 (Int.toNat x2)) fun x10 => ev_if ((0 : Int) ≤ x2 ∧ x2 < (ev_aln 703 : Int)) (ev_b (s7.1 703 (Int.toNat x2)) fun x11 => ev_ck (x2 + 1) fun x12 => ev_if ((0 : Int) ≤ x12 ∧ x12 < (ev_aln 703 : Int)) (ev_b (s7.1 703 (Int.toNat x12)) fun x13 => ev_if ((0 : Int) ≤ x2 ∧ x2 < (ev_aln 703 : Int)) (ev_b (s7.1 703 (Int.toNat x2)) fun x14 => ev_ck (x13 - x14) fun x15 => ev_bd (jm_343 Q a0 x9 x10 x11 x15 0 s7) fun _ s16 => ev_ck (x2 + (-1)) fun x17 => K4 x17 s16))))))
def jl_350_4 (Q : Nat) (a0 : Int)  : Nat → Int → ev_St → Option ((Unit) × ev_St)
  | 0 => fun _ _ => none
  | q + 1 => jb_350_4 Q a0  (jl_350_4 Q a0  q)
theorem jbt_350_4 (d : Nat) (hd : 3 ≤ d + 1) (Q : Nat) (a0 : Int) (ha0 : ev_rng a0)   (K4 : Int → ev_St → Option ((Unit) × ev_St)) (hK4 : ∀ (x2 : Int) (hx2 : ev_rng x2), ∀ (s7 : ev_St) (w3 : List (Nat × Value)), ev_lk w3 0 = some (.ref 621) → ev_lk w3 1 = some (.int (Int32.ofInt a0)) → ev_lk w3 3 = some (.int (Int32.ofInt x2)) → ev_w none (ev_Mof 350) d 4 w3 [] s7 (K4 x2 s7) ev_eU ev_PU) : ∀ (x2 : Int) (hx2 : ev_rng x2), ∀ (s7 : ev_St) (w3 : List (Nat × Value)), ev_lk w3 0 = some (.ref 621) → ev_lk w3 1 = some (.int (Int32.ofInt a0)) → ev_lk w3 3 = some (.int (Int32.ofInt x2)) → ev_w none (ev_Mof 350) d 4 w3 [] s7 (jb_350_4 Q a0  K4 x2 s7) ev_eU ev_PU := by
  intro x2 hx2 s7 w3 e4 e5 e6
  unfold jb_350_4
  refine ev_r_iload_n (pc := 4) (k := 3) (v := Int32.ofInt x2) (by decide +kernel) (by exact e6) ?_
  refine ev_r_if (pc := 5) (q := .lt) (o := 48) (t := 53) (c := x2 < 0) (by decide +kernel) (ev_k_lt hx2 ev_rng0) (by decide +kernel) ?_ ?_
  · intro c8
    exact ev_r_return (pc := 53) (x := ()) trivial (by decide +kernel) (by decide +kernel) rfl
  · intro c8
    refine ev_r_aload_n (pc := 8) (k := 0) (v := .ref 621) trivial (by decide +kernel) (by exact e4) ?_
    refine ev_r_iload_n (pc := 9) (k := 1) (v := Int32.ofInt a0) (by decide +kernel) (by exact e5) ?_
    refine ev_r_aload_n (pc := 10) (k := 0) (v := .ref 621) trivial (by decide +kernel) (by exact e4) ?_
    refine ev_r_getC (pc := 11) (y := 261) (ci := 13) (f := 116) (fin := 1) (k' := 704) (by decide +kernel) (by decide +kernel) (by exact ev_ob_621) rfl rfl ?_
    refine ev_r_iload_n (pc := 14) (k := 3) (v := Int32.ofInt x2) (by decide +kernel) (by exact e6) ?_
    refine ev_r_iald (pc := 15) hx2 (by decide +kernel) (by exact ev_ab_704) ?_
    intro x9 hx9
    refine ev_r_aload_n (pc := 16) (k := 0) (v := .ref 621) trivial (by decide +kernel) (by exact e4) ?_
    refine ev_r_getC (pc := 17) (y := 264) (ci := 13) (f := 117) (fin := 1) (k' := 705) (by decide +kernel) (by decide +kernel) (by exact ev_ob_621) rfl rfl ?_
    refine ev_r_iload_n (pc := 20) (k := 3) (v := Int32.ofInt x2) (by decide +kernel) (by exact e6) ?_
    refine ev_r_iald (pc := 21) hx2 (by decide +kernel) (by exact ev_ab_705) ?_
    intro x10 hx10
    refine ev_r_aload_n (pc := 22) (k := 0) (v := .ref 621) trivial (by decide +kernel) (by exact e4) ?_
    refine ev_r_getC (pc := 23) (y := 258) (ci := 13) (f := 115) (fin := 1) (k' := 703) (by decide +kernel) (by decide +kernel) (by exact ev_ob_621) rfl rfl ?_
    refine ev_r_iload_n (pc := 26) (k := 3) (v := Int32.ofInt x2) (by decide +kernel) (by exact e6) ?_
    refine ev_r_iald (pc := 27) hx2 (by decide +kernel) (by exact ev_ab_703) ?_
    intro x11 hx11
    refine ev_r_aload_n (pc := 28) (k := 0) (v := .ref 621) trivial (by decide +kernel) (by exact e4) ?_
    refine ev_r_getC (pc := 29) (y := 258) (ci := 13) (f := 115) (fin := 1) (k' := 703) (by decide +kernel) (by decide +kernel) (by exact ev_ob_621) rfl rfl ?_
    refine ev_r_iload_n (pc := 32) (k := 3) (v := Int32.ofInt x2) (by decide +kernel) (by exact e6) ?_
    refine ev_r_iconst (pc := 33) (k := 1) (by decide +kernel) ?_
    refine ev_r_iadd (pc := 34) (by decide +kernel) ?_
    intro x12 hx12
    refine ev_r_iald (pc := 35) hx12 (by decide +kernel) (by exact ev_ab_703) ?_
    intro x13 hx13
    refine ev_r_aload_n (pc := 36) (k := 0) (v := .ref 621) trivial (by decide +kernel) (by exact e4) ?_
    refine ev_r_getC (pc := 37) (y := 258) (ci := 13) (f := 115) (fin := 1) (k' := 703) (by decide +kernel) (by decide +kernel) (by exact ev_ob_621) rfl rfl ?_
    refine ev_r_iload_n (pc := 40) (k := 3) (v := Int32.ofInt x2) (by decide +kernel) (by exact e6) ?_
    refine ev_r_iald (pc := 41) hx2 (by decide +kernel) (by exact ev_ab_703) ?_
    intro x14 hx14
    refine ev_r_isub (pc := 42) (by decide +kernel) ?_
    intro x15 hx15
    refine ev_r_iconst (pc := 43) (k := 0) (by decide +kernel) ?_
    refine ev_r_virt (pc := 44) (y := 789) (mi := 343) (na := 6) (k := 621) (as := [.int (Int32.ofInt a0), .int (Int32.ofInt x9), .int (Int32.ofInt x10), .int (Int32.ofInt x11), .int (Int32.ofInt x15), .int (Int32.ofInt 0)]) (rest := []) (encc := ev_oU) (Q := ev_PU) (fun x S1 h => jt_343 d (by omega) Q a0 x9 x10 x11 x15 0 ha0 hx9 hx10 hx11 hx15 (by decide) s7 x S1 h) (by exact ev_ob_621) (by decide +kernel) (by decide +kernel) (by decide +kernel) (by decide +kernel) rfl (by (try simp only [ev_sum, ev_nv_cat]); first | done | rfl) ?_
    intro _ s16 _
    show ev_w _ _ _ _ _ [] _ _ _ _
    refine ev_r_iinc (pc := 47) (k := 3) (c := -1) (x := x2) (by decide +kernel) (by decide +kernel) (by exact e6) (fun _ => rfl) ?_
    intro x17 hx17
    refine ev_r_goto (pc := 50) (o := (-46)) (t := 4) (by decide +kernel) (by decide +kernel) ?_
    exact hK4 x17 hx17 s16 _ (by exact (ev_l1 e4 (by decide) (by decide))) (by exact (ev_l1 e5 (by decide) (by decide))) (by exact ev_lk_st1_self)
theorem jlt_350_4 (d : Nat) (hd : 3 ≤ d + 1) (Q : Nat) (a0 : Int) (ha0 : ev_rng a0)   : ∀ q : Nat, ∀ (x2 : Int) (hx2 : ev_rng x2), ∀ (s7 : ev_St) (w3 : List (Nat × Value)), ev_lk w3 0 = some (.ref 621) → ev_lk w3 1 = some (.int (Int32.ofInt a0)) → ev_lk w3 3 = some (.int (Int32.ofInt x2)) → ev_w none (ev_Mof 350) d 4 w3 [] s7 (jl_350_4 Q a0  q x2 s7) ev_eU ev_PU := by
  intro q
  induction q with
  | zero =>
    intro x2 hx2 s7 w3 e4 e5 e6
    exact ev_w_none
  | succ q ih => exact jbt_350_4 d hd Q a0 ha0   _ ih
/-- MendBenchModel.replaces(II)V -/
def jm_350 (Q : Nat) (a0 : Int) (a1 : Int) (S : ev_St) : Option ((Unit) × ev_St) := ev_ck (a1 - 1) fun x1 => jl_350_4 Q a0  Q x1 S
theorem jt_350 (d : Nat) (hd : 3 ≤ d) (Q : Nat) (a0 : Int) (a1 : Int) (ha0 : ev_rng a0) (ha1 : ev_rng a1) (S : ev_St) (x : Unit) (S' : ev_St) (hJ : jm_350 Q a0 a1 S = some (x, S')) : ev_Ref d 350 [.ref 621, .int (Int32.ofInt a0), .int (Int32.ofInt a1)] S (ev_eU x) S' (ev_PU x) := by
  obtain ⟨d, rfl⟩ : ∃ e, d = e + 1 := ⟨d - 1, by omega⟩
  refine ev_ref_of (P := ev_PU) (lv := [(0, .ref 621), (1, .int (Int32.ofInt a0)), (2, .int (Int32.ofInt a1))]) (by decide +kernel) (by (try simp only [ev_sum, ev_nv_cat]); first | done | rfl) (by (try simp only [lv_args, ev_nv_cat]); first | done | rfl) ?_ x S' hJ
  unfold jm_350
  refine ev_r_iload_n (pc := 0) (k := 2) (v := Int32.ofInt a1) (by decide +kernel) (by rfl) ?_
  refine ev_r_iconst (pc := 1) (k := 1) (by decide +kernel) ?_
  refine ev_r_isub (pc := 2) (by decide +kernel) ?_
  intro x1 hx1
  refine ev_r_istore_n (pc := 3) (k := 3) (by decide +kernel) (by decide +kernel) rfl ?_
  exact jlt_350_4 d hd Q a0 ha0   Q x1 hx1 S _ (by exact (ev_l1 (by rfl) (by decide) (by decide))) (by exact (ev_l1 (by rfl) (by decide) (by decide))) (by exact ev_lk_st1_self)
/-- MendBenchModel.replace(IIII)I -/
def jm_351 (Q : Nat) (a0 : Int) (a1 : Int) (a2 : Int) (a3 : Int) (S : ev_St) : Option ((Int) × ev_St) := ev_bd (jm_273 Q a0 S) fun x2 s1 => ev_jn (fun (x3 : Int) (s10 : ev_St) => ev_b (ev_pI s10 621 0 x3) fun s11 => ev_b (s11.1 621 0) fun x12 => if x12 ≤ 0 then (ev_b (s11.1 621 136) fun x14 => ev_jn (fun  (s21 : ev_St) => ev_bd (jm_288 Q a2 s21) fun _ s22 => ev_bd (jm_349 Q a0 a1 a3 s22) fun x24 s23 => if x24 ≠ (-1) then (ev_bd (jm_350 Q a2 x24 s23) fun _ s26 => ev_bd (jm_345 Q  s26) fun _ s27 => ev_b (s27.1 621 136) fun x28 => if x28 = 0 then (some (x24, s27)) else (ev_b (s27.1 621 135) fun x30 => ev_ck (30 * x30) fun x31 => ev_b (s27.1 621 135) fun x32 => ev_if ((0 : Int) ≤ x32 ∧ x32 < (ev_aln 716 : Int)) (ev_b (s27.1 716 (Int.toNat x32)) fun x33 => ev_ck (3 * x33) fun x34 => ev_ck (x31 + x34) fun x35 => ev_if ((0 : Int) ≤ x35 ∧ x35 < (ev_aln 717 : Int)) (ev_b (ev_pI s27 717 (Int.toNat x35) a0) fun s36 => ev_ck (x35 + 1) fun x37 => ev_if ((0 : Int) ≤ x37 ∧ x37 < (ev_aln 717 : Int)) (ev_b (ev_pI s36 717 (Int.toNat x37) a1) fun s38 => ev_ck (x35 + 2) fun x39 => ev_if ((0 : Int) ≤ x39 ∧ x39 < (ev_aln 717 : Int)) (ev_b (ev_pI s38 717 (Int.toNat x39) a3) fun s40 => ev_b (s40.1 621 135) fun x41 => ev_if ((0 : Int) ≤ x41 ∧ x41 < (ev_aln 716 : Int)) (ev_b (s40.1 716 (Int.toNat x41)) fun x42 => ev_ck (x42 + 1) fun x43 => ev_if ((0 : Int) ≤ x41 ∧ x41 < (ev_aln 716 : Int)) (ev_b (ev_pI s40 716 (Int.toNat x41) x43) fun s44 => some (x24, s44))))))))) else (ev_bd (jm_221 Q 3 s23) fun x46 s45 => some (x46, s45))) fun K90 => if x14 = 0 then (K90  s11) else (ev_b (s11.1 621 135) fun x48 => ev_if ((0 : Int) ≤ x48 ∧ x48 < (ev_aln 716 : Int)) (ev_b (s11.1 716 (Int.toNat x48)) fun x49 => if x49 ≠ 10 then (K90  s11) else (ev_bd (jm_221 Q 3 s11) fun x52 s51 => some (x52, s51))))) else (some (0, s11))) fun K51 => ev_jn (fun  (s59 : ev_St) => K51 1 s59) fun K31 => if x2 = 0 then (K31  s1) else (ev_b (s1.1 621 110) fun x61 => ev_ck (x61 - 1) fun x62 => ev_bd (jm_222 Q a1 0 x62 s1) fun x64 s63 => if x64 = 0 then (K31  s63) else (ev_bd (jm_325 Q a2 s63) fun x67 s66 => if x67 ≠ 0 then (ev_bd (jm_222 Q a3 1 100 s66) fun x70 s69 => if x70 ≠ 0 then (K51 0 s69) else (K51 2 s69)) else (K31  s66)))
theorem jt_351 (d : Nat) (hd : 11 ≤ d) (Q : Nat) (a0 : Int) (a1 : Int) (a2 : Int) (a3 : Int) (ha0 : ev_rng a0) (ha1 : ev_rng a1) (ha2 : ev_rng a2) (ha3 : ev_rng a3) (S : ev_St) (x : Int) (S' : ev_St) (hJ : jm_351 Q a0 a1 a2 a3 S = some (x, S')) : ev_Ref d 351 [.ref 621, .int (Int32.ofInt a0), .int (Int32.ofInt a1), .int (Int32.ofInt a2), .int (Int32.ofInt a3)] S (ev_eI x) S' (ev_rng x) := by
  obtain ⟨d, rfl⟩ : ∃ e, d = e + 1 := ⟨d - 1, by omega⟩
  refine ev_ref_of (P := ev_rng) (lv := [(0, .ref 621), (1, .int (Int32.ofInt a0)), (2, .int (Int32.ofInt a1)), (3, .int (Int32.ofInt a2)), (4, .int (Int32.ofInt a3))]) (by decide +kernel) (by (try simp only [ev_sum, ev_nv_cat]); first | done | rfl) (by (try simp only [lv_args, ev_nv_cat]); first | done | rfl) ?_ x S' hJ
  unfold jm_351
  refine ev_r_aload_n (pc := 0) (k := 0) (v := .ref 621) trivial (by decide +kernel) (by rfl) ?_
  refine ev_r_aload_n (pc := 1) (k := 0) (v := .ref 621) trivial (by decide +kernel) (by rfl) ?_
  refine ev_r_iload_n (pc := 2) (k := 1) (v := Int32.ofInt a0) (by decide +kernel) (by rfl) ?_
  refine ev_r_virt (pc := 3) (y := 531) (mi := 273) (na := 1) (k := 621) (as := [.int (Int32.ofInt a0)]) (rest := [.ref 621]) (encc := ev_oI) (Q := ev_bl) (fun x S1 h => jt_273 d (by omega) Q a0 ha0 S x S1 h) (by exact ev_ob_621) (by decide +kernel) (by decide +kernel) (by decide +kernel) (by decide +kernel) rfl (by (try simp only [ev_sum, ev_nv_cat]); first | done | rfl) ?_
  intro x2 s1 hx2
  replace hx2 := ev_bl_rng hx2
  show ev_w _ _ _ _ _ [.int (Int32.ofInt x2), .ref 621] _ _ _ _
  refine ev_r_jn (Q := fun K => ∀ (x3 : Int) (hx3 : ev_rng x3), ∀ (s10 : ev_St) (w4 : List (Nat × Value)), ev_lk w4 0 = some (.ref 621) → ev_lk w4 1 = some (.int (Int32.ofInt a0)) → ev_lk w4 2 = some (.int (Int32.ofInt a1)) → ev_lk w4 3 = some (.int (Int32.ofInt a2)) → ev_lk w4 4 = some (.int (Int32.ofInt a3)) → ev_w none (ev_Mof 351) d 51 w4 [.int (Int32.ofInt x3), .ref 621] s10 (K x3 s10) ev_eI ev_rng) ?_ ?_
  · intro x3 hx3 s10 w4 e5 e6 e7 e8 e9
    refine ev_r_putI (pc := 51) (y := 321) (ci := 13) (f := 0) hx3 (by decide +kernel) (by decide +kernel) (by exact ev_ob_621) rfl rfl ?_
    intro s11
    refine ev_r_aload_n (pc := 54) (k := 0) (v := .ref 621) trivial (by decide +kernel) (by exact e5) ?_
    refine ev_r_getI (pc := 55) (y := 321) (ci := 13) (f := 0) (fin := 0) (by decide +kernel) (by decide +kernel) (by exact ev_ob_621) rfl ?_
    intro x12 hx12
    refine ev_r_if (pc := 58) (q := .le) (o := 5) (t := 63) (c := x12 ≤ 0) (by decide +kernel) (ev_k_le hx12 ev_rng0) (by decide +kernel) ?_ ?_
    · intro c13
      refine ev_r_aload_n (pc := 63) (k := 0) (v := .ref 621) trivial (by decide +kernel) (by exact e5) ?_
      refine ev_r_getI (pc := 64) (y := 799) (ci := 13) (f := 136) (fin := 0) (by decide +kernel) (by decide +kernel) (by exact ev_ob_621) rfl ?_
      intro x14 hx14
      refine ev_r_jn (Q := fun K => ∀ (s21 : ev_St) (w15 : List (Nat × Value)), ev_lk w15 0 = some (.ref 621) → ev_lk w15 1 = some (.int (Int32.ofInt a0)) → ev_lk w15 2 = some (.int (Int32.ofInt a1)) → ev_lk w15 3 = some (.int (Int32.ofInt a2)) → ev_lk w15 4 = some (.int (Int32.ofInt a3)) → ev_w none (ev_Mof 351) d 90 w15 [] s21 (K  s21) ev_eI ev_rng) ?_ ?_
      · intro  s21 w15 e16 e17 e18 e19 e20
        refine ev_r_aload_n (pc := 90) (k := 0) (v := .ref 621) trivial (by decide +kernel) (by exact e16) ?_
        refine ev_r_iload_n (pc := 91) (k := 3) (v := Int32.ofInt a2) (by decide +kernel) (by exact e19) ?_
        refine ev_r_virt (pc := 92) (y := 722) (mi := 288) (na := 1) (k := 621) (as := [.int (Int32.ofInt a2)]) (rest := []) (encc := ev_oU) (Q := ev_PU) (fun x S1 h => jt_288 d (by omega) Q a2 ha2 s21 x S1 h) (by exact ev_ob_621) (by decide +kernel) (by decide +kernel) (by decide +kernel) (by decide +kernel) rfl (by (try simp only [ev_sum, ev_nv_cat]); first | done | rfl) ?_
        intro _ s22 _
        show ev_w _ _ _ _ _ [] _ _ _ _
        refine ev_r_aload_n (pc := 95) (k := 0) (v := .ref 621) trivial (by decide +kernel) (by exact e16) ?_
        refine ev_r_iload_n (pc := 96) (k := 1) (v := Int32.ofInt a0) (by decide +kernel) (by exact e17) ?_
        refine ev_r_iload_n (pc := 97) (k := 2) (v := Int32.ofInt a1) (by decide +kernel) (by exact e18) ?_
        refine ev_r_iload (pc := 98) (k := 4) (v := Int32.ofInt a3) (by decide +kernel) (by exact e20) ?_
        refine ev_r_virt (pc := 100) (y := 805) (mi := 349) (na := 3) (k := 621) (as := [.int (Int32.ofInt a0), .int (Int32.ofInt a1), .int (Int32.ofInt a3)]) (rest := []) (encc := ev_oI) (Q := ev_rng) (fun x S1 h => jt_349 d (by omega) Q a0 a1 a3 ha0 ha1 ha3 s22 x S1 h) (by exact ev_ob_621) (by decide +kernel) (by decide +kernel) (by decide +kernel) (by decide +kernel) rfl (by (try simp only [ev_sum, ev_nv_cat]); first | done | rfl) ?_
        intro x24 s23 hx24
        show ev_w _ _ _ _ _ [.int (Int32.ofInt x24)] _ _ _ _
        refine ev_r_istore (pc := 103) (k := 5) (by decide +kernel) (by decide +kernel) rfl ?_
        refine ev_r_iload (pc := 105) (k := 5) (v := Int32.ofInt x24) (by decide +kernel) (by exact ev_lk_st1_self) ?_
        refine ev_r_iconst (pc := 107) (k := -1) (by decide +kernel) ?_
        refine ev_r_icmp (pc := 108) (q := .ne) (o := 9) (t := 117) (c := x24 ≠ (-1)) (by decide +kernel) (ev_k_ne hx24 (by decide)) (by decide +kernel) ?_ ?_
        · intro c25
          refine ev_r_aload_n (pc := 117) (k := 0) (v := .ref 621) trivial (by decide +kernel) (by exact (ev_l1 e16 (by decide) (by decide))) ?_
          refine ev_r_iload_n (pc := 118) (k := 3) (v := Int32.ofInt a2) (by decide +kernel) (by exact (ev_l1 e19 (by decide) (by decide))) ?_
          refine ev_r_iload (pc := 119) (k := 5) (v := Int32.ofInt x24) (by decide +kernel) (by exact ev_lk_st1_self) ?_
          refine ev_r_virt (pc := 121) (y := 809) (mi := 350) (na := 2) (k := 621) (as := [.int (Int32.ofInt a2), .int (Int32.ofInt x24)]) (rest := []) (encc := ev_oU) (Q := ev_PU) (fun x S1 h => jt_350 d (by omega) Q a2 x24 ha2 hx24 s23 x S1 h) (by exact ev_ob_621) (by decide +kernel) (by decide +kernel) (by decide +kernel) (by decide +kernel) rfl (by (try simp only [ev_sum, ev_nv_cat]); first | done | rfl) ?_
          intro _ s26 _
          show ev_w _ _ _ _ _ [] _ _ _ _
          refine ev_r_aload_n (pc := 124) (k := 0) (v := .ref 621) trivial (by decide +kernel) (by exact (ev_l1 e16 (by decide) (by decide))) ?_
          refine ev_r_virt (pc := 125) (y := 793) (mi := 345) (na := 0) (k := 621) (as := []) (rest := []) (encc := ev_oU) (Q := ev_PU) (fun x S1 h => jt_345 d (by omega) Q   s26 x S1 h) (by exact ev_ob_621) (by decide +kernel) (by decide +kernel) (by decide +kernel) (by decide +kernel) rfl (by (try simp only [ev_sum, ev_nv_cat]); first | done | rfl) ?_
          intro _ s27 _
          show ev_w _ _ _ _ _ [] _ _ _ _
          refine ev_r_aload_n (pc := 128) (k := 0) (v := .ref 621) trivial (by decide +kernel) (by exact (ev_l1 e16 (by decide) (by decide))) ?_
          refine ev_r_getI (pc := 129) (y := 799) (ci := 13) (f := 136) (fin := 0) (by decide +kernel) (by decide +kernel) (by exact ev_ob_621) rfl ?_
          intro x28 hx28
          refine ev_r_if (pc := 132) (q := .eq) (o := 66) (t := 198) (c := x28 = 0) (by decide +kernel) (ev_k_eq hx28 ev_rng0) (by decide +kernel) ?_ ?_
          · intro c29
            refine ev_r_iload (pc := 198) (k := 5) (v := Int32.ofInt x24) (by decide +kernel) (by exact ev_lk_st1_self) ?_
            exact ev_r_ireturn (pc := 200) (x := x24) (v := Int32.ofInt x24) (ty := .int) hx24 (by decide +kernel) (by decide +kernel) rfl rfl
          · intro c29
            refine ev_r_bipush (pc := 135) (k := 30) (by decide +kernel) (by decide +kernel) ?_
            refine ev_r_aload_n (pc := 137) (k := 0) (v := .ref 621) trivial (by decide +kernel) (by exact (ev_l1 e16 (by decide) (by decide))) ?_
            refine ev_r_getI (pc := 138) (y := 802) (ci := 13) (f := 135) (fin := 0) (by decide +kernel) (by decide +kernel) (by exact ev_ob_621) rfl ?_
            intro x30 hx30
            refine ev_r_imul (pc := 141) (by decide +kernel) ?_
            intro x31 hx31
            refine ev_r_iconst (pc := 142) (k := 3) (by decide +kernel) ?_
            refine ev_r_aload_n (pc := 143) (k := 0) (v := .ref 621) trivial (by decide +kernel) (by exact (ev_l1 e16 (by decide) (by decide))) ?_
            refine ev_r_getC (pc := 144) (y := 300) (ci := 13) (f := 137) (fin := 1) (k' := 716) (by decide +kernel) (by decide +kernel) (by exact ev_ob_621) rfl rfl ?_
            refine ev_r_aload_n (pc := 147) (k := 0) (v := .ref 621) trivial (by decide +kernel) (by exact (ev_l1 e16 (by decide) (by decide))) ?_
            refine ev_r_getI (pc := 148) (y := 802) (ci := 13) (f := 135) (fin := 0) (by decide +kernel) (by decide +kernel) (by exact ev_ob_621) rfl ?_
            intro x32 hx32
            refine ev_r_iald (pc := 151) hx32 (by decide +kernel) (by exact ev_ab_716) ?_
            intro x33 hx33
            refine ev_r_imul (pc := 152) (by decide +kernel) ?_
            intro x34 hx34
            refine ev_r_iadd (pc := 153) (by decide +kernel) ?_
            intro x35 hx35
            refine ev_r_istore (pc := 154) (k := 6) (by decide +kernel) (by decide +kernel) rfl ?_
            refine ev_r_aload_n (pc := 156) (k := 0) (v := .ref 621) trivial (by decide +kernel) (by exact (ev_l1 (ev_l1 e16 (by decide) (by decide)) (by decide) (by decide))) ?_
            refine ev_r_getC (pc := 157) (y := 303) (ci := 13) (f := 138) (fin := 1) (k' := 717) (by decide +kernel) (by decide +kernel) (by exact ev_ob_621) rfl rfl ?_
            refine ev_r_iload (pc := 160) (k := 6) (v := Int32.ofInt x35) (by decide +kernel) (by exact ev_lk_st1_self) ?_
            refine ev_r_iload_n (pc := 162) (k := 1) (v := Int32.ofInt a0) (by decide +kernel) (by exact (ev_l1 (ev_l1 e17 (by decide) (by decide)) (by decide) (by decide))) ?_
            refine ev_r_iast (pc := 163) ha0 hx35 (by decide +kernel) (by exact ev_ab_717) ?_
            intro s36
            refine ev_r_aload_n (pc := 164) (k := 0) (v := .ref 621) trivial (by decide +kernel) (by exact (ev_l1 (ev_l1 e16 (by decide) (by decide)) (by decide) (by decide))) ?_
            refine ev_r_getC (pc := 165) (y := 303) (ci := 13) (f := 138) (fin := 1) (k' := 717) (by decide +kernel) (by decide +kernel) (by exact ev_ob_621) rfl rfl ?_
            refine ev_r_iload (pc := 168) (k := 6) (v := Int32.ofInt x35) (by decide +kernel) (by exact ev_lk_st1_self) ?_
            refine ev_r_iconst (pc := 170) (k := 1) (by decide +kernel) ?_
            refine ev_r_iadd (pc := 171) (by decide +kernel) ?_
            intro x37 hx37
            refine ev_r_iload_n (pc := 172) (k := 2) (v := Int32.ofInt a1) (by decide +kernel) (by exact (ev_l1 (ev_l1 e18 (by decide) (by decide)) (by decide) (by decide))) ?_
            refine ev_r_iast (pc := 173) ha1 hx37 (by decide +kernel) (by exact ev_ab_717) ?_
            intro s38
            refine ev_r_aload_n (pc := 174) (k := 0) (v := .ref 621) trivial (by decide +kernel) (by exact (ev_l1 (ev_l1 e16 (by decide) (by decide)) (by decide) (by decide))) ?_
            refine ev_r_getC (pc := 175) (y := 303) (ci := 13) (f := 138) (fin := 1) (k' := 717) (by decide +kernel) (by decide +kernel) (by exact ev_ob_621) rfl rfl ?_
            refine ev_r_iload (pc := 178) (k := 6) (v := Int32.ofInt x35) (by decide +kernel) (by exact ev_lk_st1_self) ?_
            refine ev_r_iconst (pc := 180) (k := 2) (by decide +kernel) ?_
            refine ev_r_iadd (pc := 181) (by decide +kernel) ?_
            intro x39 hx39
            refine ev_r_iload (pc := 182) (k := 4) (v := Int32.ofInt a3) (by decide +kernel) (by exact (ev_l1 (ev_lk_st1 e20 (by decide) rfl) (by decide) (by decide))) ?_
            refine ev_r_iast (pc := 184) ha3 hx39 (by decide +kernel) (by exact ev_ab_717) ?_
            intro s40
            refine ev_r_aload_n (pc := 185) (k := 0) (v := .ref 621) trivial (by decide +kernel) (by exact (ev_l1 (ev_l1 e16 (by decide) (by decide)) (by decide) (by decide))) ?_
            refine ev_r_getC (pc := 186) (y := 300) (ci := 13) (f := 137) (fin := 1) (k' := 716) (by decide +kernel) (by decide +kernel) (by exact ev_ob_621) rfl rfl ?_
            refine ev_r_aload_n (pc := 189) (k := 0) (v := .ref 621) trivial (by decide +kernel) (by exact (ev_l1 (ev_l1 e16 (by decide) (by decide)) (by decide) (by decide))) ?_
            refine ev_r_getI (pc := 190) (y := 802) (ci := 13) (f := 135) (fin := 0) (by decide +kernel) (by decide +kernel) (by exact ev_ob_621) rfl ?_
            intro x41 hx41
            refine ev_r_dup2 (pc := 193) rfl rfl (by decide +kernel) ?_
            refine ev_r_iald (pc := 194) hx41 (by decide +kernel) (by exact ev_ab_716) ?_
            intro x42 hx42
            refine ev_r_iconst (pc := 195) (k := 1) (by decide +kernel) ?_
            refine ev_r_iadd (pc := 196) (by decide +kernel) ?_
            intro x43 hx43
            refine ev_r_iast (pc := 197) hx43 hx41 (by decide +kernel) (by exact ev_ab_716) ?_
            intro s44
            refine ev_r_iload (pc := 198) (k := 5) (v := Int32.ofInt x24) (by decide +kernel) (by exact (ev_lk_st1 ev_lk_st1_self (by decide) rfl)) ?_
            exact ev_r_ireturn (pc := 200) (x := x24) (v := Int32.ofInt x24) (ty := .int) hx24 (by decide +kernel) (by decide +kernel) rfl rfl
        · intro c25
          refine ev_r_aload_n (pc := 111) (k := 0) (v := .ref 621) trivial (by decide +kernel) (by exact (ev_l1 e16 (by decide) (by decide))) ?_
          refine ev_r_iconst (pc := 112) (k := 3) (by decide +kernel) ?_
          refine ev_r_virt (pc := 113) (y := 342) (mi := 221) (na := 1) (k := 621) (as := [.int (Int32.ofInt 3)]) (rest := []) (encc := ev_oI) (Q := ev_rng) (fun x S1 h => jt_221 d (by omega) Q 3 (by decide) s23 x S1 h) (by exact ev_ob_621) (by decide +kernel) (by decide +kernel) (by decide +kernel) (by decide +kernel) rfl (by (try simp only [ev_sum, ev_nv_cat]); first | done | rfl) ?_
          intro x46 s45 hx46
          show ev_w _ _ _ _ _ [.int (Int32.ofInt x46)] _ _ _ _
          exact ev_r_ireturn (pc := 116) (x := x46) (v := Int32.ofInt x46) (ty := .int) hx46 (by decide +kernel) (by decide +kernel) rfl rfl
      · intro K90 hK90
        refine ev_r_if (pc := 67) (q := .eq) (o := 23) (t := 90) (c := x14 = 0) (by decide +kernel) (ev_k_eq hx14 ev_rng0) (by decide +kernel) ?_ ?_
        · intro c47
          exact hK90  s11 _ (by exact e5) (by exact e6) (by exact e7) (by exact e8) (by exact e9)
        · intro c47
          refine ev_r_aload_n (pc := 70) (k := 0) (v := .ref 621) trivial (by decide +kernel) (by exact e5) ?_
          refine ev_r_getC (pc := 71) (y := 300) (ci := 13) (f := 137) (fin := 1) (k' := 716) (by decide +kernel) (by decide +kernel) (by exact ev_ob_621) rfl rfl ?_
          refine ev_r_aload_n (pc := 74) (k := 0) (v := .ref 621) trivial (by decide +kernel) (by exact e5) ?_
          refine ev_r_getI (pc := 75) (y := 802) (ci := 13) (f := 135) (fin := 0) (by decide +kernel) (by decide +kernel) (by exact ev_ob_621) rfl ?_
          intro x48 hx48
          refine ev_r_iald (pc := 78) hx48 (by decide +kernel) (by exact ev_ab_716) ?_
          intro x49 hx49
          refine ev_r_bipush (pc := 79) (k := 10) (by decide +kernel) (by decide +kernel) ?_
          refine ev_r_icmp (pc := 81) (q := .ne) (o := 9) (t := 90) (c := x49 ≠ 10) (by decide +kernel) (ev_k_ne hx49 (by decide)) (by decide +kernel) ?_ ?_
          · intro c50
            exact hK90  s11 _ (by exact e5) (by exact e6) (by exact e7) (by exact e8) (by exact e9)
          · intro c50
            refine ev_r_aload_n (pc := 84) (k := 0) (v := .ref 621) trivial (by decide +kernel) (by exact e5) ?_
            refine ev_r_iconst (pc := 85) (k := 3) (by decide +kernel) ?_
            refine ev_r_virt (pc := 86) (y := 342) (mi := 221) (na := 1) (k := 621) (as := [.int (Int32.ofInt 3)]) (rest := []) (encc := ev_oI) (Q := ev_rng) (fun x S1 h => jt_221 d (by omega) Q 3 (by decide) s11 x S1 h) (by exact ev_ob_621) (by decide +kernel) (by decide +kernel) (by decide +kernel) (by decide +kernel) rfl (by (try simp only [ev_sum, ev_nv_cat]); first | done | rfl) ?_
            intro x52 s51 hx52
            show ev_w _ _ _ _ _ [.int (Int32.ofInt x52)] _ _ _ _
            exact ev_r_ireturn (pc := 89) (x := x52) (v := Int32.ofInt x52) (ty := .int) hx52 (by decide +kernel) (by decide +kernel) rfl rfl
    · intro c13
      refine ev_r_iconst (pc := 61) (k := 0) (by decide +kernel) ?_
      exact ev_r_ireturn (pc := 62) (x := 0) (v := Int32.ofInt 0) (ty := .int) (by decide) (by decide +kernel) (by decide +kernel) rfl rfl
  · intro K51 hK51
    refine ev_r_jn (Q := fun K => ∀ (s59 : ev_St) (w53 : List (Nat × Value)), ev_lk w53 0 = some (.ref 621) → ev_lk w53 1 = some (.int (Int32.ofInt a0)) → ev_lk w53 2 = some (.int (Int32.ofInt a1)) → ev_lk w53 3 = some (.int (Int32.ofInt a2)) → ev_lk w53 4 = some (.int (Int32.ofInt a3)) → ev_w none (ev_Mof 351) d 31 w53 [.ref 621] s59 (K  s59) ev_eI ev_rng) ?_ ?_
    · intro  s59 w53 e54 e55 e56 e57 e58
      refine ev_r_iconst (pc := 31) (k := 1) (by decide +kernel) ?_
      refine ev_r_goto (pc := 32) (o := 19) (t := 51) (by decide +kernel) (by decide +kernel) ?_
      exact hK51 1 (by decide) s59 _ (by exact e54) (by exact e55) (by exact e56) (by exact e57) (by exact e58)
    · intro K31 hK31
      refine ev_r_if (pc := 6) (q := .eq) (o := 25) (t := 31) (c := x2 = 0) (by decide +kernel) (ev_k_eq hx2 ev_rng0) (by decide +kernel) ?_ ?_
      · intro c60
        exact hK31  s1 _ (by rfl) (by rfl) (by rfl) (by rfl) (by rfl)
      · intro c60
        refine ev_r_iload_n (pc := 9) (k := 2) (v := Int32.ofInt a1) (by decide +kernel) (by rfl) ?_
        refine ev_r_iconst (pc := 10) (k := 0) (by decide +kernel) ?_
        refine ev_r_aload_n (pc := 11) (k := 0) (v := .ref 621) trivial (by decide +kernel) (by rfl) ?_
        refine ev_r_getI (pc := 12) (y := 741) (ci := 13) (f := 110) (fin := 0) (by decide +kernel) (by decide +kernel) (by exact ev_ob_621) rfl ?_
        intro x61 hx61
        refine ev_r_iconst (pc := 15) (k := 1) (by decide +kernel) ?_
        refine ev_r_isub (pc := 16) (by decide +kernel) ?_
        intro x62 hx62
        refine ev_r_stat (pc := 17) (y := 325) (kind := 2) (mi := 222) (na := 3) (as := [.int (Int32.ofInt a1), .int (Int32.ofInt 0), .int (Int32.ofInt x62)]) (rest := [.ref 621]) (encc := ev_oI) (Q := ev_bl) (fun x S1 h => jt_222 d (by omega) Q a1 0 x62 ha1 (by decide) hx62 s1 x S1 h) (Or.inl rfl) (by decide +kernel) (by decide +kernel) (by decide +kernel) (by decide +kernel) rfl (by (try simp only [ev_sum, ev_nv_cat]); first | done | rfl) ?_
        intro x64 s63 hx64
        replace hx64 := ev_bl_rng hx64
        show ev_w _ _ _ _ _ [.int (Int32.ofInt x64), .ref 621] _ _ _ _
        refine ev_r_if (pc := 20) (q := .eq) (o := 11) (t := 31) (c := x64 = 0) (by decide +kernel) (ev_k_eq hx64 ev_rng0) (by decide +kernel) ?_ ?_
        · intro c65
          exact hK31  s63 _ (by rfl) (by rfl) (by rfl) (by rfl) (by rfl)
        · intro c65
          refine ev_r_aload_n (pc := 23) (k := 0) (v := .ref 621) trivial (by decide +kernel) (by rfl) ?_
          refine ev_r_iload_n (pc := 24) (k := 3) (v := Int32.ofInt a2) (by decide +kernel) (by rfl) ?_
          refine ev_r_virt (pc := 25) (y := 716) (mi := 325) (na := 1) (k := 621) (as := [.int (Int32.ofInt a2)]) (rest := [.ref 621]) (encc := ev_oI) (Q := ev_bl) (fun x S1 h => jt_325 d (by omega) Q a2 ha2 s63 x S1 h) (by exact ev_ob_621) (by decide +kernel) (by decide +kernel) (by decide +kernel) (by decide +kernel) rfl (by (try simp only [ev_sum, ev_nv_cat]); first | done | rfl) ?_
          intro x67 s66 hx67
          replace hx67 := ev_bl_rng hx67
          show ev_w _ _ _ _ _ [.int (Int32.ofInt x67), .ref 621] _ _ _ _
          refine ev_r_if (pc := 28) (q := .ne) (o := 7) (t := 35) (c := x67 ≠ 0) (by decide +kernel) (ev_k_ne hx67 ev_rng0) (by decide +kernel) ?_ ?_
          · intro c68
            refine ev_r_iload (pc := 35) (k := 4) (v := Int32.ofInt a3) (by decide +kernel) (by rfl) ?_
            refine ev_r_iconst (pc := 37) (k := 1) (by decide +kernel) ?_
            refine ev_r_bipush (pc := 38) (k := 100) (by decide +kernel) (by decide +kernel) ?_
            refine ev_r_stat (pc := 40) (y := 325) (kind := 2) (mi := 222) (na := 3) (as := [.int (Int32.ofInt a3), .int (Int32.ofInt 1), .int (Int32.ofInt 100)]) (rest := [.ref 621]) (encc := ev_oI) (Q := ev_bl) (fun x S1 h => jt_222 d (by omega) Q a3 1 100 ha3 (by decide) (by decide) s66 x S1 h) (Or.inl rfl) (by decide +kernel) (by decide +kernel) (by decide +kernel) (by decide +kernel) rfl (by (try simp only [ev_sum, ev_nv_cat]); first | done | rfl) ?_
            intro x70 s69 hx70
            replace hx70 := ev_bl_rng hx70
            show ev_w _ _ _ _ _ [.int (Int32.ofInt x70), .ref 621] _ _ _ _
            refine ev_r_if (pc := 43) (q := .ne) (o := 7) (t := 50) (c := x70 ≠ 0) (by decide +kernel) (ev_k_ne hx70 ev_rng0) (by decide +kernel) ?_ ?_
            · intro c71
              refine ev_r_iconst (pc := 50) (k := 0) (by decide +kernel) ?_
              exact hK51 0 (by decide) s69 _ (by rfl) (by rfl) (by rfl) (by rfl) (by rfl)
            · intro c71
              refine ev_r_iconst (pc := 46) (k := 2) (by decide +kernel) ?_
              refine ev_r_goto (pc := 47) (o := 4) (t := 51) (by decide +kernel) (by decide +kernel) ?_
              exact hK51 2 (by decide) s69 _ (by rfl) (by rfl) (by rfl) (by rfl) (by rfl)
          · intro c68
            exact hK31  s66 _ (by rfl) (by rfl) (by rfl) (by rfl) (by rfl)
/-- MendBenchModel.mark(IIZ)I -/
def jm_352 (Q : Nat) (a0 : Int) (a1 : Int) (a2 : Int) (S : ev_St) : Option ((Int) × ev_St) := ev_bd (jm_326 Q a0 a1 S) fun x2 s1 => ev_jn (fun (x3 : Int) (s9 : ev_St) => ev_b (ev_pI s9 621 0 x3) fun s10 => ev_b (s10.1 621 0) fun x11 => if x11 ≤ 0 then (ev_b (s10.1 621 121) fun x13 => ev_if ((0 : Int) ≤ x13 ∧ x13 < (ev_aln 709 : Int)) (ev_b (ev_pI s10 709 (Int.toNat x13) a0) fun s14 => ev_b (s14.1 621 121) fun x15 => ev_if ((0 : Int) ≤ x15 ∧ x15 < (ev_aln 710 : Int)) (ev_b (ev_pI s14 710 (Int.toNat x15) a1) fun s16 => ev_b (s16.1 621 121) fun x17 => ev_if (ev_bl a2) (ev_if ((0 : Int) ≤ x17 ∧ x17 < (ev_aln 711 : Int)) (ev_b (ev_pI s16 711 (Int.toNat x17) a2) fun s18 => ev_b (s18.1 621 121) fun x20 => ev_ck (x20 + 1) fun x21 => ev_b (ev_pI s18 621 121 x21) fun s22 => ev_b (s22.1 621 121) fun x23 => ev_ck (x23 - 1) fun x24 => some (x24, s22)))))) else (some (0, s10))) fun K28 => if x2 ≠ 0 then (ev_b (s1.1 621 121) fun x26 => if x26 ≠ 12 then (K28 0 s1) else (K28 2 s1)) else (K28 1 s1)
theorem jt_352 (d : Nat) (hd : 4 ≤ d) (Q : Nat) (a0 : Int) (a1 : Int) (a2 : Int) (ha0 : ev_rng a0) (ha1 : ev_rng a1) (ha2 : ev_rng a2) (S : ev_St) (x : Int) (S' : ev_St) (hJ : jm_352 Q a0 a1 a2 S = some (x, S')) : ev_Ref d 352 [.ref 621, .int (Int32.ofInt a0), .int (Int32.ofInt a1), .int (Int32.ofInt a2)] S (ev_eI x) S' (ev_rng x) := by
  obtain ⟨d, rfl⟩ : ∃ e, d = e + 1 := ⟨d - 1, by omega⟩
  refine ev_ref_of (P := ev_rng) (lv := [(0, .ref 621), (1, .int (Int32.ofInt a0)), (2, .int (Int32.ofInt a1)), (3, .int (Int32.ofInt a2))]) (by decide +kernel) (by (try simp only [ev_sum, ev_nv_cat]); first | done | rfl) (by (try simp only [lv_args, ev_nv_cat]); first | done | rfl) ?_ x S' hJ
  unfold jm_352
  refine ev_r_aload_n (pc := 0) (k := 0) (v := .ref 621) trivial (by decide +kernel) (by rfl) ?_
  refine ev_r_aload_n (pc := 1) (k := 0) (v := .ref 621) trivial (by decide +kernel) (by rfl) ?_
  refine ev_r_iload_n (pc := 2) (k := 1) (v := Int32.ofInt a0) (by decide +kernel) (by rfl) ?_
  refine ev_r_iload_n (pc := 3) (k := 2) (v := Int32.ofInt a1) (by decide +kernel) (by rfl) ?_
  refine ev_r_virt (pc := 4) (y := 719) (mi := 326) (na := 2) (k := 621) (as := [.int (Int32.ofInt a0), .int (Int32.ofInt a1)]) (rest := [.ref 621]) (encc := ev_oI) (Q := ev_bl) (fun x S1 h => jt_326 d (by omega) Q a0 a1 ha0 ha1 S x S1 h) (by exact ev_ob_621) (by decide +kernel) (by decide +kernel) (by decide +kernel) (by decide +kernel) rfl (by (try simp only [ev_sum, ev_nv_cat]); first | done | rfl) ?_
  intro x2 s1 hx2
  replace hx2 := ev_bl_rng hx2
  show ev_w _ _ _ _ _ [.int (Int32.ofInt x2), .ref 621] _ _ _ _
  refine ev_r_jn (Q := fun K => ∀ (x3 : Int) (hx3 : ev_rng x3), ∀ (s9 : ev_St) (w4 : List (Nat × Value)), ev_lk w4 0 = some (.ref 621) → ev_lk w4 1 = some (.int (Int32.ofInt a0)) → ev_lk w4 2 = some (.int (Int32.ofInt a1)) → ev_lk w4 3 = some (.int (Int32.ofInt a2)) → ev_w none (ev_Mof 352) d 28 w4 [.int (Int32.ofInt x3), .ref 621] s9 (K x3 s9) ev_eI ev_rng) ?_ ?_
  · intro x3 hx3 s9 w4 e5 e6 e7 e8
    refine ev_r_putI (pc := 28) (y := 321) (ci := 13) (f := 0) hx3 (by decide +kernel) (by decide +kernel) (by exact ev_ob_621) rfl rfl ?_
    intro s10
    refine ev_r_aload_n (pc := 31) (k := 0) (v := .ref 621) trivial (by decide +kernel) (by exact e5) ?_
    refine ev_r_getI (pc := 32) (y := 321) (ci := 13) (f := 0) (fin := 0) (by decide +kernel) (by decide +kernel) (by exact ev_ob_621) rfl ?_
    intro x11 hx11
    refine ev_r_if (pc := 35) (q := .le) (o := 5) (t := 40) (c := x11 ≤ 0) (by decide +kernel) (ev_k_le hx11 ev_rng0) (by decide +kernel) ?_ ?_
    · intro c12
      refine ev_r_aload_n (pc := 40) (k := 0) (v := .ref 621) trivial (by decide +kernel) (by exact e5) ?_
      refine ev_r_getC (pc := 41) (y := 276) (ci := 13) (f := 122) (fin := 1) (k' := 709) (by decide +kernel) (by decide +kernel) (by exact ev_ob_621) rfl rfl ?_
      refine ev_r_aload_n (pc := 44) (k := 0) (v := .ref 621) trivial (by decide +kernel) (by exact e5) ?_
      refine ev_r_getI (pc := 45) (y := 757) (ci := 13) (f := 121) (fin := 0) (by decide +kernel) (by decide +kernel) (by exact ev_ob_621) rfl ?_
      intro x13 hx13
      refine ev_r_iload_n (pc := 48) (k := 1) (v := Int32.ofInt a0) (by decide +kernel) (by exact e6) ?_
      refine ev_r_iast (pc := 49) ha0 hx13 (by decide +kernel) (by exact ev_ab_709) ?_
      intro s14
      refine ev_r_aload_n (pc := 50) (k := 0) (v := .ref 621) trivial (by decide +kernel) (by exact e5) ?_
      refine ev_r_getC (pc := 51) (y := 279) (ci := 13) (f := 123) (fin := 1) (k' := 710) (by decide +kernel) (by decide +kernel) (by exact ev_ob_621) rfl rfl ?_
      refine ev_r_aload_n (pc := 54) (k := 0) (v := .ref 621) trivial (by decide +kernel) (by exact e5) ?_
      refine ev_r_getI (pc := 55) (y := 757) (ci := 13) (f := 121) (fin := 0) (by decide +kernel) (by decide +kernel) (by exact ev_ob_621) rfl ?_
      intro x15 hx15
      refine ev_r_iload_n (pc := 58) (k := 2) (v := Int32.ofInt a1) (by decide +kernel) (by exact e7) ?_
      refine ev_r_iast (pc := 59) ha1 hx15 (by decide +kernel) (by exact ev_ab_710) ?_
      intro s16
      refine ev_r_aload_n (pc := 60) (k := 0) (v := .ref 621) trivial (by decide +kernel) (by exact e5) ?_
      refine ev_r_getC (pc := 61) (y := 282) (ci := 13) (f := 124) (fin := 1) (k' := 711) (by decide +kernel) (by decide +kernel) (by exact ev_ob_621) rfl rfl ?_
      refine ev_r_aload_n (pc := 64) (k := 0) (v := .ref 621) trivial (by decide +kernel) (by exact e5) ?_
      refine ev_r_getI (pc := 65) (y := 757) (ci := 13) (f := 121) (fin := 0) (by decide +kernel) (by decide +kernel) (by exact ev_ob_621) rfl ?_
      intro x17 hx17
      refine ev_r_iload_n (pc := 68) (k := 3) (v := Int32.ofInt a2) (by decide +kernel) (by exact e8) ?_
      refine ev_r_chk ?_
      intro c19
      refine ev_r_bast (pc := 69) (ty := .boolean) (Or.inr rfl) (ev_nar_bl c19) ha2 hx17 (by decide +kernel) (by exact ev_ab_711) ?_
      intro s18
      refine ev_r_aload_n (pc := 70) (k := 0) (v := .ref 621) trivial (by decide +kernel) (by exact e5) ?_
      refine ev_r_dup (pc := 71) rfl (by decide +kernel) ?_
      refine ev_r_getI (pc := 72) (y := 757) (ci := 13) (f := 121) (fin := 0) (by decide +kernel) (by decide +kernel) (by exact ev_ob_621) rfl ?_
      intro x20 hx20
      refine ev_r_iconst (pc := 75) (k := 1) (by decide +kernel) ?_
      refine ev_r_iadd (pc := 76) (by decide +kernel) ?_
      intro x21 hx21
      refine ev_r_putI (pc := 77) (y := 757) (ci := 13) (f := 121) hx21 (by decide +kernel) (by decide +kernel) (by exact ev_ob_621) rfl rfl ?_
      intro s22
      refine ev_r_aload_n (pc := 80) (k := 0) (v := .ref 621) trivial (by decide +kernel) (by exact e5) ?_
      refine ev_r_getI (pc := 81) (y := 757) (ci := 13) (f := 121) (fin := 0) (by decide +kernel) (by decide +kernel) (by exact ev_ob_621) rfl ?_
      intro x23 hx23
      refine ev_r_iconst (pc := 84) (k := 1) (by decide +kernel) ?_
      refine ev_r_isub (pc := 85) (by decide +kernel) ?_
      intro x24 hx24
      exact ev_r_ireturn (pc := 86) (x := x24) (v := Int32.ofInt x24) (ty := .int) hx24 (by decide +kernel) (by decide +kernel) rfl rfl
    · intro c12
      refine ev_r_iconst (pc := 38) (k := 0) (by decide +kernel) ?_
      exact ev_r_ireturn (pc := 39) (x := 0) (v := Int32.ofInt 0) (ty := .int) (by decide) (by decide +kernel) (by decide +kernel) rfl rfl
  · intro K28 hK28
    refine ev_r_if (pc := 7) (q := .ne) (o := 7) (t := 14) (c := x2 ≠ 0) (by decide +kernel) (ev_k_ne hx2 ev_rng0) (by decide +kernel) ?_ ?_
    · intro c25
      refine ev_r_aload_n (pc := 14) (k := 0) (v := .ref 621) trivial (by decide +kernel) (by rfl) ?_
      refine ev_r_getI (pc := 15) (y := 757) (ci := 13) (f := 121) (fin := 0) (by decide +kernel) (by decide +kernel) (by exact ev_ob_621) rfl ?_
      intro x26 hx26
      refine ev_r_bipush (pc := 18) (k := 12) (by decide +kernel) (by decide +kernel) ?_
      refine ev_r_icmp (pc := 20) (q := .ne) (o := 7) (t := 27) (c := x26 ≠ 12) (by decide +kernel) (ev_k_ne hx26 (by decide)) (by decide +kernel) ?_ ?_
      · intro c27
        refine ev_r_iconst (pc := 27) (k := 0) (by decide +kernel) ?_
        exact hK28 0 (by decide) s1 _ (by rfl) (by rfl) (by rfl) (by rfl)
      · intro c27
        refine ev_r_iconst (pc := 23) (k := 2) (by decide +kernel) ?_
        refine ev_r_goto (pc := 24) (o := 4) (t := 28) (by decide +kernel) (by decide +kernel) ?_
        exact hK28 2 (by decide) s1 _ (by rfl) (by rfl) (by rfl) (by rfl)
    · intro c25
      refine ev_r_iconst (pc := 10) (k := 1) (by decide +kernel) ?_
      refine ev_r_goto (pc := 11) (o := 17) (t := 28) (by decide +kernel) (by decide +kernel) ?_
      exact hK28 1 (by decide) s1 _ (by rfl) (by rfl) (by rfl) (by rfl)
/-- MendBenchModel.place(I)I -/
def jm_353 (Q : Nat) (a0 : Int) (S : ev_St) : Option ((Int) × ev_St) := ev_b (ev_pI S 621 0 0) fun s1 => ev_b (s1.1 621 121) fun x2 => ev_ck (x2 - 1) fun x3 => ev_bd (jm_222 Q a0 0 x3 s1) fun x5 s4 => if x5 = 0 then (ev_bd (jm_221 Q 1 s4) fun x8 s7 => some (x8, s7)) else (ev_if ((0 : Int) ≤ a0 ∧ a0 < (ev_aln 710 : Int)) (ev_b (s4.1 710 (Int.toNat a0)) fun x9 => some (x9, s4)))
theorem jt_353 (d : Nat) (hd : 2 ≤ d) (Q : Nat) (a0 : Int) (ha0 : ev_rng a0) (S : ev_St) (x : Int) (S' : ev_St) (hJ : jm_353 Q a0 S = some (x, S')) : ev_Ref d 353 [.ref 621, .int (Int32.ofInt a0)] S (ev_eI x) S' (ev_rng x) := by
  obtain ⟨d, rfl⟩ : ∃ e, d = e + 1 := ⟨d - 1, by omega⟩
  refine ev_ref_of (P := ev_rng) (lv := [(0, .ref 621), (1, .int (Int32.ofInt a0))]) (by decide +kernel) (by (try simp only [ev_sum, ev_nv_cat]); first | done | rfl) (by (try simp only [lv_args, ev_nv_cat]); first | done | rfl) ?_ x S' hJ
  unfold jm_353
  refine ev_r_aload_n (pc := 0) (k := 0) (v := .ref 621) trivial (by decide +kernel) (by rfl) ?_
  refine ev_r_iconst (pc := 1) (k := 0) (by decide +kernel) ?_
  refine ev_r_putI (pc := 2) (y := 321) (ci := 13) (f := 0) (by decide) (by decide +kernel) (by decide +kernel) (by exact ev_ob_621) rfl rfl ?_
  intro s1
  refine ev_r_iload_n (pc := 5) (k := 1) (v := Int32.ofInt a0) (by decide +kernel) (by rfl) ?_
  refine ev_r_iconst (pc := 6) (k := 0) (by decide +kernel) ?_
  refine ev_r_aload_n (pc := 7) (k := 0) (v := .ref 621) trivial (by decide +kernel) (by rfl) ?_
  refine ev_r_getI (pc := 8) (y := 757) (ci := 13) (f := 121) (fin := 0) (by decide +kernel) (by decide +kernel) (by exact ev_ob_621) rfl ?_
  intro x2 hx2
  refine ev_r_iconst (pc := 11) (k := 1) (by decide +kernel) ?_
  refine ev_r_isub (pc := 12) (by decide +kernel) ?_
  intro x3 hx3
  refine ev_r_stat (pc := 13) (y := 325) (kind := 2) (mi := 222) (na := 3) (as := [.int (Int32.ofInt a0), .int (Int32.ofInt 0), .int (Int32.ofInt x3)]) (rest := []) (encc := ev_oI) (Q := ev_bl) (fun x S1 h => jt_222 d (by omega) Q a0 0 x3 ha0 (by decide) hx3 s1 x S1 h) (Or.inl rfl) (by decide +kernel) (by decide +kernel) (by decide +kernel) (by decide +kernel) rfl (by (try simp only [ev_sum, ev_nv_cat]); first | done | rfl) ?_
  intro x5 s4 hx5
  replace hx5 := ev_bl_rng hx5
  show ev_w _ _ _ _ _ [.int (Int32.ofInt x5)] _ _ _ _
  refine ev_r_if (pc := 16) (q := .eq) (o := 12) (t := 28) (c := x5 = 0) (by decide +kernel) (ev_k_eq hx5 ev_rng0) (by decide +kernel) ?_ ?_
  · intro c6
    refine ev_r_aload_n (pc := 28) (k := 0) (v := .ref 621) trivial (by decide +kernel) (by rfl) ?_
    refine ev_r_iconst (pc := 29) (k := 1) (by decide +kernel) ?_
    refine ev_r_virt (pc := 30) (y := 342) (mi := 221) (na := 1) (k := 621) (as := [.int (Int32.ofInt 1)]) (rest := []) (encc := ev_oI) (Q := ev_rng) (fun x S1 h => jt_221 d (by omega) Q 1 (by decide) s4 x S1 h) (by exact ev_ob_621) (by decide +kernel) (by decide +kernel) (by decide +kernel) (by decide +kernel) rfl (by (try simp only [ev_sum, ev_nv_cat]); first | done | rfl) ?_
    intro x8 s7 hx8
    show ev_w _ _ _ _ _ [.int (Int32.ofInt x8)] _ _ _ _
    exact ev_r_ireturn (pc := 33) (x := x8) (v := Int32.ofInt x8) (ty := .int) hx8 (by decide +kernel) (by decide +kernel) rfl rfl
  · intro c6
    refine ev_r_aload_n (pc := 19) (k := 0) (v := .ref 621) trivial (by decide +kernel) (by rfl) ?_
    refine ev_r_getC (pc := 20) (y := 279) (ci := 13) (f := 123) (fin := 1) (k' := 710) (by decide +kernel) (by decide +kernel) (by exact ev_ob_621) rfl rfl ?_
    refine ev_r_iload_n (pc := 23) (k := 1) (v := Int32.ofInt a0) (by decide +kernel) (by rfl) ?_
    refine ev_r_iald (pc := 24) ha0 (by decide +kernel) (by exact ev_ab_710) ?_
    intro x9 hx9
    refine ev_r_goto (pc := 25) (o := 8) (t := 33) (by decide +kernel) (by decide +kernel) ?_
    exact ev_r_ireturn (pc := 33) (x := x9) (v := Int32.ofInt x9) (ty := .int) hx9 (by decide +kernel) (by decide +kernel) rfl rfl
/-- MendBenchModel.open()I -/
def jm_354 (Q : Nat)  (S : ev_St) : Option ((Int) × ev_St) := ev_b (S.1 621 132) fun x1 => ev_jn (fun (x2 : Int) (s5 : ev_St) => ev_b (ev_pI s5 621 0 x2) fun s6 => ev_b (s6.1 621 0) fun x7 => if x7 ≤ 0 then (ev_b (ev_pI s6 621 132 1) fun s9 => ev_b (s9.1 621 130) fun x10 => some (x10, s9)) else (some (0, s6))) fun K13 => if x1 = 0 then (K13 0 S) else (K13 1 S)
theorem jt_354 (d : Nat) (hd : 1 ≤ d) (Q : Nat)   (S : ev_St) (x : Int) (S' : ev_St) (hJ : jm_354 Q  S = some (x, S')) : ev_Ref d 354 [.ref 621] S (ev_eI x) S' (ev_rng x) := by
  obtain ⟨d, rfl⟩ : ∃ e, d = e + 1 := ⟨d - 1, by omega⟩
  refine ev_ref_of (P := ev_rng) (lv := [(0, .ref 621)]) (by decide +kernel) (by (try simp only [ev_sum, ev_nv_cat]); first | done | rfl) (by (try simp only [lv_args, ev_nv_cat]); first | done | rfl) ?_ x S' hJ
  unfold jm_354
  refine ev_r_aload_n (pc := 0) (k := 0) (v := .ref 621) trivial (by decide +kernel) (by rfl) ?_
  refine ev_r_aload_n (pc := 1) (k := 0) (v := .ref 621) trivial (by decide +kernel) (by rfl) ?_
  refine ev_r_getI (pc := 2) (y := 783) (ci := 13) (f := 132) (fin := 0) (by decide +kernel) (by decide +kernel) (by exact ev_ob_621) rfl ?_
  intro x1 hx1
  refine ev_r_jn (Q := fun K => ∀ (x2 : Int) (hx2 : ev_rng x2), ∀ (s5 : ev_St) (w3 : List (Nat × Value)), ev_lk w3 0 = some (.ref 621) → ev_w none (ev_Mof 354) d 13 w3 [.int (Int32.ofInt x2), .ref 621] s5 (K x2 s5) ev_eI ev_rng) ?_ ?_
  · intro x2 hx2 s5 w3 e4
    refine ev_r_putI (pc := 13) (y := 321) (ci := 13) (f := 0) hx2 (by decide +kernel) (by decide +kernel) (by exact ev_ob_621) rfl rfl ?_
    intro s6
    refine ev_r_aload_n (pc := 16) (k := 0) (v := .ref 621) trivial (by decide +kernel) (by exact e4) ?_
    refine ev_r_getI (pc := 17) (y := 321) (ci := 13) (f := 0) (fin := 0) (by decide +kernel) (by decide +kernel) (by exact ev_ob_621) rfl ?_
    intro x7 hx7
    refine ev_r_if (pc := 20) (q := .le) (o := 5) (t := 25) (c := x7 ≤ 0) (by decide +kernel) (ev_k_le hx7 ev_rng0) (by decide +kernel) ?_ ?_
    · intro c8
      refine ev_r_aload_n (pc := 25) (k := 0) (v := .ref 621) trivial (by decide +kernel) (by exact e4) ?_
      refine ev_r_iconst (pc := 26) (k := 1) (by decide +kernel) ?_
      refine ev_r_putI (pc := 27) (y := 783) (ci := 13) (f := 132) (by decide) (by decide +kernel) (by decide +kernel) (by exact ev_ob_621) rfl (ev_fit_bl (by decide : ev_bl 1)) ?_
      intro s9
      refine ev_r_aload_n (pc := 30) (k := 0) (v := .ref 621) trivial (by decide +kernel) (by exact e4) ?_
      refine ev_r_getI (pc := 31) (y := 766) (ci := 13) (f := 130) (fin := 0) (by decide +kernel) (by decide +kernel) (by exact ev_ob_621) rfl ?_
      intro x10 hx10
      exact ev_r_ireturn (pc := 34) (x := x10) (v := Int32.ofInt x10) (ty := .int) hx10 (by decide +kernel) (by decide +kernel) rfl rfl
    · intro c8
      refine ev_r_iconst (pc := 23) (k := 0) (by decide +kernel) ?_
      exact ev_r_ireturn (pc := 24) (x := 0) (v := Int32.ofInt 0) (ty := .int) (by decide) (by decide +kernel) (by decide +kernel) rfl rfl
  · intro K13 hK13
    refine ev_r_if (pc := 5) (q := .eq) (o := 7) (t := 12) (c := x1 = 0) (by decide +kernel) (ev_k_eq hx1 ev_rng0) (by decide +kernel) ?_ ?_
    · intro c11
      refine ev_r_iconst (pc := 12) (k := 0) (by decide +kernel) ?_
      exact hK13 0 (by decide) S _ (by rfl)
    · intro c11
      refine ev_r_iconst (pc := 8) (k := 1) (by decide +kernel) ?_
      refine ev_r_goto (pc := 9) (o := 4) (t := 13) (by decide +kernel) (by decide +kernel) ?_
      exact hK13 1 (by decide) S _ (by rfl)
/-- MendBenchModel.shut()I -/
def jm_355 (Q : Nat)  (S : ev_St) : Option ((Int) × ev_St) := ev_b (S.1 621 132) fun x1 => ev_jn (fun (x2 : Int) (s5 : ev_St) => ev_b (ev_pI s5 621 0 x2) fun s6 => ev_b (s6.1 621 0) fun x7 => if x7 ≤ 0 then (ev_b (ev_pI s6 621 132 0) fun s9 => ev_bd (jm_344 Q  s9) fun _ s10 => ev_b (s10.1 621 130) fun x11 => some (x11, s10)) else (some (0, s6))) fun K13 => if x1 = 0 then (K13 1 S) else (K13 0 S)
theorem jt_355 (d : Nat) (hd : 2 ≤ d) (Q : Nat)   (S : ev_St) (x : Int) (S' : ev_St) (hJ : jm_355 Q  S = some (x, S')) : ev_Ref d 355 [.ref 621] S (ev_eI x) S' (ev_rng x) := by
  obtain ⟨d, rfl⟩ : ∃ e, d = e + 1 := ⟨d - 1, by omega⟩
  refine ev_ref_of (P := ev_rng) (lv := [(0, .ref 621)]) (by decide +kernel) (by (try simp only [ev_sum, ev_nv_cat]); first | done | rfl) (by (try simp only [lv_args, ev_nv_cat]); first | done | rfl) ?_ x S' hJ
  unfold jm_355
  refine ev_r_aload_n (pc := 0) (k := 0) (v := .ref 621) trivial (by decide +kernel) (by rfl) ?_
  refine ev_r_aload_n (pc := 1) (k := 0) (v := .ref 621) trivial (by decide +kernel) (by rfl) ?_
  refine ev_r_getI (pc := 2) (y := 783) (ci := 13) (f := 132) (fin := 0) (by decide +kernel) (by decide +kernel) (by exact ev_ob_621) rfl ?_
  intro x1 hx1
  refine ev_r_jn (Q := fun K => ∀ (x2 : Int) (hx2 : ev_rng x2), ∀ (s5 : ev_St) (w3 : List (Nat × Value)), ev_lk w3 0 = some (.ref 621) → ev_w none (ev_Mof 355) d 13 w3 [.int (Int32.ofInt x2), .ref 621] s5 (K x2 s5) ev_eI ev_rng) ?_ ?_
  · intro x2 hx2 s5 w3 e4
    refine ev_r_putI (pc := 13) (y := 321) (ci := 13) (f := 0) hx2 (by decide +kernel) (by decide +kernel) (by exact ev_ob_621) rfl rfl ?_
    intro s6
    refine ev_r_aload_n (pc := 16) (k := 0) (v := .ref 621) trivial (by decide +kernel) (by exact e4) ?_
    refine ev_r_getI (pc := 17) (y := 321) (ci := 13) (f := 0) (fin := 0) (by decide +kernel) (by decide +kernel) (by exact ev_ob_621) rfl ?_
    intro x7 hx7
    refine ev_r_if (pc := 20) (q := .le) (o := 5) (t := 25) (c := x7 ≤ 0) (by decide +kernel) (ev_k_le hx7 ev_rng0) (by decide +kernel) ?_ ?_
    · intro c8
      refine ev_r_aload_n (pc := 25) (k := 0) (v := .ref 621) trivial (by decide +kernel) (by exact e4) ?_
      refine ev_r_iconst (pc := 26) (k := 0) (by decide +kernel) ?_
      refine ev_r_putI (pc := 27) (y := 783) (ci := 13) (f := 132) (by decide) (by decide +kernel) (by decide +kernel) (by exact ev_ob_621) rfl (ev_fit_bl (by decide : ev_bl 0)) ?_
      intro s9
      refine ev_r_aload_n (pc := 30) (k := 0) (v := .ref 621) trivial (by decide +kernel) (by exact e4) ?_
      refine ev_r_virt (pc := 31) (y := 786) (mi := 344) (na := 0) (k := 621) (as := []) (rest := []) (encc := ev_oU) (Q := ev_PU) (fun x S1 h => jt_344 d (by omega) Q   s9 x S1 h) (by exact ev_ob_621) (by decide +kernel) (by decide +kernel) (by decide +kernel) (by decide +kernel) rfl (by (try simp only [ev_sum, ev_nv_cat]); first | done | rfl) ?_
      intro _ s10 _
      show ev_w _ _ _ _ _ [] _ _ _ _
      refine ev_r_aload_n (pc := 34) (k := 0) (v := .ref 621) trivial (by decide +kernel) (by exact e4) ?_
      refine ev_r_getI (pc := 35) (y := 766) (ci := 13) (f := 130) (fin := 0) (by decide +kernel) (by decide +kernel) (by exact ev_ob_621) rfl ?_
      intro x11 hx11
      exact ev_r_ireturn (pc := 38) (x := x11) (v := Int32.ofInt x11) (ty := .int) hx11 (by decide +kernel) (by decide +kernel) rfl rfl
    · intro c8
      refine ev_r_iconst (pc := 23) (k := 0) (by decide +kernel) ?_
      exact ev_r_ireturn (pc := 24) (x := 0) (v := Int32.ofInt 0) (ty := .int) (by decide) (by decide +kernel) (by decide +kernel) rfl rfl
  · intro K13 hK13
    refine ev_r_if (pc := 5) (q := .eq) (o := 7) (t := 12) (c := x1 = 0) (by decide +kernel) (ev_k_eq hx1 ev_rng0) (by decide +kernel) ?_ ?_
    · intro c12
      refine ev_r_iconst (pc := 12) (k := 1) (by decide +kernel) ?_
      exact hK13 1 (by decide) S _ (by rfl)
    · intro c12
      refine ev_r_iconst (pc := 8) (k := 0) (by decide +kernel) ?_
      refine ev_r_goto (pc := 9) (o := 4) (t := 13) (by decide +kernel) (by decide +kernel) ?_
      exact hK13 0 (by decide) S _ (by rfl)
/-- MendBenchModel.editsOf(I)I -/
def jm_356 (Q : Nat) (a0 : Int) (S : ev_St) : Option ((Int) × ev_St) := ev_if ((0 : Int) ≤ a0 ∧ a0 < (ev_aln 714 : Int)) (ev_b (S.1 714 (Int.toNat a0)) fun x1 => if a0 ≠ 0 then (ev_ck (a0 - 1) fun x3 => ev_if ((0 : Int) ≤ x3 ∧ x3 < (ev_aln 714 : Int)) (ev_b (S.1 714 (Int.toNat x3)) fun x4 => ev_ck (x1 - x4) fun x5 => some (x5, S))) else (ev_ck (x1 - 0) fun x6 => some (x6, S)))
theorem jt_356 (d : Nat) (hd : 1 ≤ d) (Q : Nat) (a0 : Int) (ha0 : ev_rng a0) (S : ev_St) (x : Int) (S' : ev_St) (hJ : jm_356 Q a0 S = some (x, S')) : ev_Ref d 356 [.ref 621, .int (Int32.ofInt a0)] S (ev_eI x) S' (ev_rng x) := by
  obtain ⟨d, rfl⟩ : ∃ e, d = e + 1 := ⟨d - 1, by omega⟩
  refine ev_ref_of (P := ev_rng) (lv := [(0, .ref 621), (1, .int (Int32.ofInt a0))]) (by decide +kernel) (by (try simp only [ev_sum, ev_nv_cat]); first | done | rfl) (by (try simp only [lv_args, ev_nv_cat]); first | done | rfl) ?_ x S' hJ
  unfold jm_356
  refine ev_r_aload_n (pc := 0) (k := 0) (v := .ref 621) trivial (by decide +kernel) (by rfl) ?_
  refine ev_r_getC (pc := 1) (y := 294) (ci := 13) (f := 133) (fin := 1) (k' := 714) (by decide +kernel) (by decide +kernel) (by exact ev_ob_621) rfl rfl ?_
  refine ev_r_iload_n (pc := 4) (k := 1) (v := Int32.ofInt a0) (by decide +kernel) (by rfl) ?_
  refine ev_r_iald (pc := 5) ha0 (by decide +kernel) (by exact ev_ab_714) ?_
  intro x1 hx1
  refine ev_r_iload_n (pc := 6) (k := 1) (v := Int32.ofInt a0) (by decide +kernel) (by rfl) ?_
  refine ev_r_if (pc := 7) (q := .ne) (o := 7) (t := 14) (c := a0 ≠ 0) (by decide +kernel) (ev_k_ne ha0 ev_rng0) (by decide +kernel) ?_ ?_
  · intro c2
    refine ev_r_aload_n (pc := 14) (k := 0) (v := .ref 621) trivial (by decide +kernel) (by rfl) ?_
    refine ev_r_getC (pc := 15) (y := 294) (ci := 13) (f := 133) (fin := 1) (k' := 714) (by decide +kernel) (by decide +kernel) (by exact ev_ob_621) rfl rfl ?_
    refine ev_r_iload_n (pc := 18) (k := 1) (v := Int32.ofInt a0) (by decide +kernel) (by rfl) ?_
    refine ev_r_iconst (pc := 19) (k := 1) (by decide +kernel) ?_
    refine ev_r_isub (pc := 20) (by decide +kernel) ?_
    intro x3 hx3
    refine ev_r_iald (pc := 21) hx3 (by decide +kernel) (by exact ev_ab_714) ?_
    intro x4 hx4
    refine ev_r_isub (pc := 22) (by decide +kernel) ?_
    intro x5 hx5
    exact ev_r_ireturn (pc := 23) (x := x5) (v := Int32.ofInt x5) (ty := .int) hx5 (by decide +kernel) (by decide +kernel) rfl rfl
  · intro c2
    refine ev_r_iconst (pc := 10) (k := 0) (by decide +kernel) ?_
    refine ev_r_goto (pc := 11) (o := 11) (t := 22) (by decide +kernel) (by decide +kernel) ?_
    refine ev_r_isub (pc := 22) (by decide +kernel) ?_
    intro x6 hx6
    exact ev_r_ireturn (pc := 23) (x := x6) (v := Int32.ofInt x6) (ty := .int) hx6 (by decide +kernel) (by decide +kernel) rfl rfl
def jb_357_64 (Q : Nat)   (K64 : Int → Int → ev_St → Option ((Int) × ev_St)) (x17 : Int) (x18 : Int) (s23 : ev_St) : Option ((Int) × ev_St) := ev_b (s23.1 621 130) fun x24 => ev_if ((0 : Int) ≤ x24 ∧ x24 < (ev_aln 714 : Int)) (ev_b (s23.1 714 (Int.toNat x24)) fun x25 => ev_b (s23.1 621 130) fun x26 => ev_bd (jm_356 Q x26 s23) fun x28 s27 => ev_ck (x25 - x28) fun x29 => if x18 < x29 then (ev_b (s27.1 621 130) fun x31 => ev_bd (jm_356 Q x31 s27) fun x33 s32 => some (x33, s32)) else (ev_if ((0 : Int) ≤ x18 ∧ x18 < (ev_aln 712 : Int)) (ev_b (s27.1 712 (Int.toNat x18)) fun x34 => ev_if (128 ≠ 0) (ev_b (ev_irem x34 128) fun x35 => ev_if ((0 : Int) ≤ x18 ∧ x18 < (ev_aln 712 : Int)) (ev_b (s27.1 712 (Int.toNat x18)) fun x36 => ev_if (128 ≠ 0) (ev_b (ev_idiv x36 128) fun x37 => ev_if (128 ≠ 0) (ev_b (ev_irem x37 128) fun x38 => ev_if ((0 : Int) ≤ x18 ∧ x18 < (ev_aln 712 : Int)) (ev_b (s27.1 712 (Int.toNat x18)) fun x39 => ev_if (16384 ≠ 0) (ev_b (ev_idiv x39 16384) fun x40 => ev_if (128 ≠ 0) (ev_b (ev_irem x40 128) fun x41 => ev_ck (x38 + x41) fun x42 => ev_ck (x17 - x42) fun x43 => ev_if ((0 : Int) ≤ x18 ∧ x18 < (ev_aln 712 : Int)) (ev_b (s27.1 712 (Int.toNat x18)) fun x44 => ev_if (2097152 ≠ 0) (ev_b (ev_idiv x44 2097152) fun x45 => ev_ck (x35 + x41) fun x46 => ev_bd (jm_341 Q x45 x35 x46 x43 x38 s27) fun _ s47 => ev_ck (x18 + (-1)) fun x48 => K64 x43 x48 s47))))))))))))
def jl_357_64 (Q : Nat)   : Nat → Int → Int → ev_St → Option ((Int) × ev_St)
  | 0 => fun _ _ _ => none
  | q + 1 => jb_357_64 Q   (jl_357_64 Q   q)
theorem jbt_357_64 (d : Nat) (hd : 2 ≤ d + 1) (Q : Nat)     (K64 : Int → Int → ev_St → Option ((Int) × ev_St)) (hK64 : ∀ (x17 : Int) (hx17 : ev_rng x17), ∀ (x18 : Int) (hx18 : ev_rng x18), ∀ (s23 : ev_St) (w19 : List (Nat × Value)), ev_lk w19 0 = some (.ref 621) → ev_lk w19 1 = some (.int (Int32.ofInt x17)) → ev_lk w19 2 = some (.int (Int32.ofInt x18)) → ev_w none (ev_Mof 357) d 64 w19 [] s23 (K64 x17 x18 s23) ev_eI ev_rng) : ∀ (x17 : Int) (hx17 : ev_rng x17), ∀ (x18 : Int) (hx18 : ev_rng x18), ∀ (s23 : ev_St) (w19 : List (Nat × Value)), ev_lk w19 0 = some (.ref 621) → ev_lk w19 1 = some (.int (Int32.ofInt x17)) → ev_lk w19 2 = some (.int (Int32.ofInt x18)) → ev_w none (ev_Mof 357) d 64 w19 [] s23 (jb_357_64 Q   K64 x17 x18 s23) ev_eI ev_rng := by
  intro x17 hx17 x18 hx18 s23 w19 e20 e21 e22
  unfold jb_357_64
  refine ev_r_iload_n (pc := 64) (k := 2) (v := Int32.ofInt x18) (by decide +kernel) (by exact e22) ?_
  refine ev_r_aload_n (pc := 65) (k := 0) (v := .ref 621) trivial (by decide +kernel) (by exact e20) ?_
  refine ev_r_getC (pc := 66) (y := 294) (ci := 13) (f := 133) (fin := 1) (k' := 714) (by decide +kernel) (by decide +kernel) (by exact ev_ob_621) rfl rfl ?_
  refine ev_r_aload_n (pc := 69) (k := 0) (v := .ref 621) trivial (by decide +kernel) (by exact e20) ?_
  refine ev_r_getI (pc := 70) (y := 766) (ci := 13) (f := 130) (fin := 0) (by decide +kernel) (by decide +kernel) (by exact ev_ob_621) rfl ?_
  intro x24 hx24
  refine ev_r_iald (pc := 73) hx24 (by decide +kernel) (by exact ev_ab_714) ?_
  intro x25 hx25
  refine ev_r_aload_n (pc := 74) (k := 0) (v := .ref 621) trivial (by decide +kernel) (by exact e20) ?_
  refine ev_r_aload_n (pc := 75) (k := 0) (v := .ref 621) trivial (by decide +kernel) (by exact e20) ?_
  refine ev_r_getI (pc := 76) (y := 766) (ci := 13) (f := 130) (fin := 0) (by decide +kernel) (by decide +kernel) (by exact ev_ob_621) rfl ?_
  intro x26 hx26
  refine ev_r_virt (pc := 79) (y := 812) (mi := 356) (na := 1) (k := 621) (as := [.int (Int32.ofInt x26)]) (rest := [.int (Int32.ofInt x25), .int (Int32.ofInt x18)]) (encc := ev_oI) (Q := ev_rng) (fun x S1 h => jt_356 d (by omega) Q x26 hx26 s23 x S1 h) (by exact ev_ob_621) (by decide +kernel) (by decide +kernel) (by decide +kernel) (by decide +kernel) rfl (by (try simp only [ev_sum, ev_nv_cat]); first | done | rfl) ?_
  intro x28 s27 hx28
  show ev_w _ _ _ _ _ [.int (Int32.ofInt x28), .int (Int32.ofInt x25), .int (Int32.ofInt x18)] _ _ _ _
  refine ev_r_isub (pc := 82) (by decide +kernel) ?_
  intro x29 hx29
  refine ev_r_icmp (pc := 83) (q := .lt) (o := 82) (t := 165) (c := x18 < x29) (by decide +kernel) (ev_k_lt hx18 hx29) (by decide +kernel) ?_ ?_
  · intro c30
    refine ev_r_aload_n (pc := 165) (k := 0) (v := .ref 621) trivial (by decide +kernel) (by exact e20) ?_
    refine ev_r_aload_n (pc := 166) (k := 0) (v := .ref 621) trivial (by decide +kernel) (by exact e20) ?_
    refine ev_r_getI (pc := 167) (y := 766) (ci := 13) (f := 130) (fin := 0) (by decide +kernel) (by decide +kernel) (by exact ev_ob_621) rfl ?_
    intro x31 hx31
    refine ev_r_virt (pc := 170) (y := 812) (mi := 356) (na := 1) (k := 621) (as := [.int (Int32.ofInt x31)]) (rest := []) (encc := ev_oI) (Q := ev_rng) (fun x S1 h => jt_356 d (by omega) Q x31 hx31 s27 x S1 h) (by exact ev_ob_621) (by decide +kernel) (by decide +kernel) (by decide +kernel) (by decide +kernel) rfl (by (try simp only [ev_sum, ev_nv_cat]); first | done | rfl) ?_
    intro x33 s32 hx33
    show ev_w _ _ _ _ _ [.int (Int32.ofInt x33)] _ _ _ _
    exact ev_r_ireturn (pc := 173) (x := x33) (v := Int32.ofInt x33) (ty := .int) hx33 (by decide +kernel) (by decide +kernel) rfl rfl
  · intro c30
    refine ev_r_aload_n (pc := 86) (k := 0) (v := .ref 621) trivial (by decide +kernel) (by exact e20) ?_
    refine ev_r_getC (pc := 87) (y := 286) (ci := 13) (f := 127) (fin := 1) (k' := 712) (by decide +kernel) (by decide +kernel) (by exact ev_ob_621) rfl rfl ?_
    refine ev_r_iload_n (pc := 90) (k := 2) (v := Int32.ofInt x18) (by decide +kernel) (by exact e22) ?_
    refine ev_r_iald (pc := 91) hx18 (by decide +kernel) (by exact ev_ab_712) ?_
    intro x34 hx34
    refine ev_r_sipush (pc := 92) (k := 128) (by decide +kernel) (by decide +kernel) ?_
    refine ev_r_irem (pc := 95) (by decide) (by decide +kernel) ?_
    intro x35 hx35
    refine ev_r_istore_n (pc := 96) (k := 3) (by decide +kernel) (by decide +kernel) rfl ?_
    refine ev_r_aload_n (pc := 97) (k := 0) (v := .ref 621) trivial (by decide +kernel) (by exact (ev_l1 e20 (by decide) (by decide))) ?_
    refine ev_r_getC (pc := 98) (y := 286) (ci := 13) (f := 127) (fin := 1) (k' := 712) (by decide +kernel) (by decide +kernel) (by exact ev_ob_621) rfl rfl ?_
    refine ev_r_iload_n (pc := 101) (k := 2) (v := Int32.ofInt x18) (by decide +kernel) (by exact (ev_lk_st1 e22 (by decide) rfl)) ?_
    refine ev_r_iald (pc := 102) hx18 (by decide +kernel) (by exact ev_ab_712) ?_
    intro x36 hx36
    refine ev_r_sipush (pc := 103) (k := 128) (by decide +kernel) (by decide +kernel) ?_
    refine ev_r_idiv (pc := 106) (by decide) (by decide +kernel) ?_
    intro x37 hx37
    refine ev_r_sipush (pc := 107) (k := 128) (by decide +kernel) (by decide +kernel) ?_
    refine ev_r_irem (pc := 110) (by decide) (by decide +kernel) ?_
    intro x38 hx38
    refine ev_r_istore (pc := 111) (k := 4) (by decide +kernel) (by decide +kernel) rfl ?_
    refine ev_r_aload_n (pc := 113) (k := 0) (v := .ref 621) trivial (by decide +kernel) (by exact (ev_l1 (ev_l1 e20 (by decide) (by decide)) (by decide) (by decide))) ?_
    refine ev_r_getC (pc := 114) (y := 286) (ci := 13) (f := 127) (fin := 1) (k' := 712) (by decide +kernel) (by decide +kernel) (by exact ev_ob_621) rfl rfl ?_
    refine ev_r_iload_n (pc := 117) (k := 2) (v := Int32.ofInt x18) (by decide +kernel) (by exact (ev_l1 (ev_lk_st1 e22 (by decide) rfl) (by decide) (by decide))) ?_
    refine ev_r_iald (pc := 118) hx18 (by decide +kernel) (by exact ev_ab_712) ?_
    intro x39 hx39
    refine ev_r_sipush (pc := 119) (k := 16384) (by decide +kernel) (by decide +kernel) ?_
    refine ev_r_idiv (pc := 122) (by decide) (by decide +kernel) ?_
    intro x40 hx40
    refine ev_r_sipush (pc := 123) (k := 128) (by decide +kernel) (by decide +kernel) ?_
    refine ev_r_irem (pc := 126) (by decide) (by decide +kernel) ?_
    intro x41 hx41
    refine ev_r_istore (pc := 127) (k := 5) (by decide +kernel) (by decide +kernel) rfl ?_
    refine ev_r_iload_n (pc := 129) (k := 1) (v := Int32.ofInt x17) (by decide +kernel) (by exact (ev_l1 (ev_l1 (ev_l1 e21 (by decide) (by decide)) (by decide) (by decide)) (by decide) (by decide))) ?_
    refine ev_r_iload (pc := 130) (k := 4) (v := Int32.ofInt x38) (by decide +kernel) (by exact (ev_lk_st1 ev_lk_st1_self (by decide) rfl)) ?_
    refine ev_r_iload (pc := 132) (k := 5) (v := Int32.ofInt x41) (by decide +kernel) (by exact ev_lk_st1_self) ?_
    refine ev_r_iadd (pc := 134) (by decide +kernel) ?_
    intro x42 hx42
    refine ev_r_isub (pc := 135) (by decide +kernel) ?_
    intro x43 hx43
    refine ev_r_istore_n (pc := 136) (k := 1) (by decide +kernel) (by decide +kernel) rfl ?_
    refine ev_r_aload_n (pc := 137) (k := 0) (v := .ref 621) trivial (by decide +kernel) (by exact (ev_lk_st1 (ev_l1 (ev_l1 (ev_l1 e20 (by decide) (by decide)) (by decide) (by decide)) (by decide) (by decide)) (by decide) rfl)) ?_
    refine ev_r_aload_n (pc := 138) (k := 0) (v := .ref 621) trivial (by decide +kernel) (by exact (ev_lk_st1 (ev_l1 (ev_l1 (ev_l1 e20 (by decide) (by decide)) (by decide) (by decide)) (by decide) (by decide)) (by decide) rfl)) ?_
    refine ev_r_getC (pc := 139) (y := 286) (ci := 13) (f := 127) (fin := 1) (k' := 712) (by decide +kernel) (by decide +kernel) (by exact ev_ob_621) rfl rfl ?_
    refine ev_r_iload_n (pc := 142) (k := 2) (v := Int32.ofInt x18) (by decide +kernel) (by exact (ev_l1 (ev_l1 (ev_l1 (ev_lk_st1 e22 (by decide) rfl) (by decide) (by decide)) (by decide) (by decide)) (by decide) (by decide))) ?_
    refine ev_r_iald (pc := 143) hx18 (by decide +kernel) (by exact ev_ab_712) ?_
    intro x44 hx44
    refine ev_r_ldcw (pc := 144) (y := 772) (k := 2097152) (by decide +kernel) (by decide +kernel) ?_
    refine ev_r_idiv (pc := 147) (by decide) (by decide +kernel) ?_
    intro x45 hx45
    refine ev_r_iload_n (pc := 148) (k := 3) (v := Int32.ofInt x35) (by decide +kernel) (by exact (ev_l1 (ev_l1 (ev_lk_st1 ev_lk_st1_self (by decide) rfl) (by decide) (by decide)) (by decide) (by decide))) ?_
    refine ev_r_iload_n (pc := 149) (k := 3) (v := Int32.ofInt x35) (by decide +kernel) (by exact (ev_l1 (ev_l1 (ev_lk_st1 ev_lk_st1_self (by decide) rfl) (by decide) (by decide)) (by decide) (by decide))) ?_
    refine ev_r_iload (pc := 150) (k := 5) (v := Int32.ofInt x41) (by decide +kernel) (by exact (ev_l1 ev_lk_st1_self (by decide) (by decide))) ?_
    refine ev_r_iadd (pc := 152) (by decide +kernel) ?_
    intro x46 hx46
    refine ev_r_iload_n (pc := 153) (k := 1) (v := Int32.ofInt x43) (by decide +kernel) (by exact ev_lk_st1_self) ?_
    refine ev_r_iload (pc := 154) (k := 4) (v := Int32.ofInt x38) (by decide +kernel) (by exact (ev_l1 (ev_lk_st1 ev_lk_st1_self (by decide) rfl) (by decide) (by decide))) ?_
    refine ev_r_virt (pc := 156) (y := 779) (mi := 341) (na := 5) (k := 621) (as := [.int (Int32.ofInt x45), .int (Int32.ofInt x35), .int (Int32.ofInt x46), .int (Int32.ofInt x43), .int (Int32.ofInt x38)]) (rest := []) (encc := ev_oU) (Q := ev_PU) (fun x S1 h => jt_341 d (by omega) Q x45 x35 x46 x43 x38 hx45 hx35 hx46 hx43 hx38 s27 x S1 h) (by exact ev_ob_621) (by decide +kernel) (by decide +kernel) (by decide +kernel) (by decide +kernel) rfl (by (try simp only [ev_sum, ev_nv_cat]); first | done | rfl) ?_
    intro _ s47 _
    show ev_w _ _ _ _ _ [] _ _ _ _
    refine ev_r_iinc (pc := 159) (k := 2) (c := -1) (x := x18) (by decide +kernel) (by decide +kernel) (by exact (ev_l1 (ev_l1 (ev_l1 (ev_lk_st1 e22 (by decide) rfl) (by decide) (by decide)) (by decide) (by decide)) (by decide) (by decide))) (fun _ => rfl) ?_
    intro x48 hx48
    refine ev_r_goto (pc := 162) (o := (-98)) (t := 64) (by decide +kernel) (by decide +kernel) ?_
    exact hK64 x43 hx43 x48 hx48 s47 _ (by exact (ev_l1 (ev_lk_st1 (ev_l1 (ev_l1 (ev_l1 e20 (by decide) (by decide)) (by decide) (by decide)) (by decide) (by decide)) (by decide) rfl) (by decide) (by decide))) (by exact (ev_lk_st1 ev_lk_st1_self (by decide) rfl)) (by exact ev_lk_st1_self)
theorem jlt_357_64 (d : Nat) (hd : 2 ≤ d + 1) (Q : Nat)     : ∀ q : Nat, ∀ (x17 : Int) (hx17 : ev_rng x17), ∀ (x18 : Int) (hx18 : ev_rng x18), ∀ (s23 : ev_St) (w19 : List (Nat × Value)), ev_lk w19 0 = some (.ref 621) → ev_lk w19 1 = some (.int (Int32.ofInt x17)) → ev_lk w19 2 = some (.int (Int32.ofInt x18)) → ev_w none (ev_Mof 357) d 64 w19 [] s23 (jl_357_64 Q   q x17 x18 s23) ev_eI ev_rng := by
  intro q
  induction q with
  | zero =>
    intro x17 hx17 x18 hx18 s23 w19 e20 e21 e22
    exact ev_w_none
  | succ q ih => exact jbt_357_64 d hd Q     _ ih
/-- MendBenchModel.undo()I -/
def jm_357 (Q : Nat)  (S : ev_St) : Option ((Int) × ev_St) := ev_b (S.1 621 132) fun x1 => ev_jn (fun (x2 : Int) (s5 : ev_St) => ev_b (ev_pI s5 621 0 x2) fun s6 => ev_b (s6.1 621 0) fun x7 => if x7 ≤ 0 then (ev_b (s6.1 621 130) fun x9 => ev_ck (x9 - 1) fun x10 => ev_b (ev_pI s6 621 130 x10) fun s11 => ev_b (s11.1 621 130) fun x12 => ev_if ((0 : Int) ≤ x12 ∧ x12 < (ev_aln 715 : Int)) (ev_b (s11.1 715 (Int.toNat x12)) fun x13 => ev_b (s11.1 621 130) fun x14 => ev_if ((0 : Int) ≤ x14 ∧ x14 < (ev_aln 714 : Int)) (ev_b (s11.1 714 (Int.toNat x14)) fun x15 => ev_ck (x15 - 1) fun x16 => jl_357_64 Q   Q x13 x16 s11))) else (some (0, s6))) fun K20 => ev_jn (fun  (s51 : ev_St) => K20 1 s51) fun K15 => if x1 ≠ 0 then (K15  S) else (ev_b (S.1 621 130) fun x53 => if x53 ≠ 0 then (K20 0 S) else (K15  S))
theorem jt_357 (d : Nat) (hd : 2 ≤ d) (Q : Nat)   (S : ev_St) (x : Int) (S' : ev_St) (hJ : jm_357 Q  S = some (x, S')) : ev_Ref d 357 [.ref 621] S (ev_eI x) S' (ev_rng x) := by
  obtain ⟨d, rfl⟩ : ∃ e, d = e + 1 := ⟨d - 1, by omega⟩
  refine ev_ref_of (P := ev_rng) (lv := [(0, .ref 621)]) (by decide +kernel) (by (try simp only [ev_sum, ev_nv_cat]); first | done | rfl) (by (try simp only [lv_args, ev_nv_cat]); first | done | rfl) ?_ x S' hJ
  unfold jm_357
  refine ev_r_aload_n (pc := 0) (k := 0) (v := .ref 621) trivial (by decide +kernel) (by rfl) ?_
  refine ev_r_aload_n (pc := 1) (k := 0) (v := .ref 621) trivial (by decide +kernel) (by rfl) ?_
  refine ev_r_getI (pc := 2) (y := 783) (ci := 13) (f := 132) (fin := 0) (by decide +kernel) (by decide +kernel) (by exact ev_ob_621) rfl ?_
  intro x1 hx1
  refine ev_r_jn (Q := fun K => ∀ (x2 : Int) (hx2 : ev_rng x2), ∀ (s5 : ev_St) (w3 : List (Nat × Value)), ev_lk w3 0 = some (.ref 621) → ev_w none (ev_Mof 357) d 20 w3 [.int (Int32.ofInt x2), .ref 621] s5 (K x2 s5) ev_eI ev_rng) ?_ ?_
  · intro x2 hx2 s5 w3 e4
    refine ev_r_putI (pc := 20) (y := 321) (ci := 13) (f := 0) hx2 (by decide +kernel) (by decide +kernel) (by exact ev_ob_621) rfl rfl ?_
    intro s6
    refine ev_r_aload_n (pc := 23) (k := 0) (v := .ref 621) trivial (by decide +kernel) (by exact e4) ?_
    refine ev_r_getI (pc := 24) (y := 321) (ci := 13) (f := 0) (fin := 0) (by decide +kernel) (by decide +kernel) (by exact ev_ob_621) rfl ?_
    intro x7 hx7
    refine ev_r_if (pc := 27) (q := .le) (o := 5) (t := 32) (c := x7 ≤ 0) (by decide +kernel) (ev_k_le hx7 ev_rng0) (by decide +kernel) ?_ ?_
    · intro c8
      refine ev_r_aload_n (pc := 32) (k := 0) (v := .ref 621) trivial (by decide +kernel) (by exact e4) ?_
      refine ev_r_dup (pc := 33) rfl (by decide +kernel) ?_
      refine ev_r_getI (pc := 34) (y := 766) (ci := 13) (f := 130) (fin := 0) (by decide +kernel) (by decide +kernel) (by exact ev_ob_621) rfl ?_
      intro x9 hx9
      refine ev_r_iconst (pc := 37) (k := 1) (by decide +kernel) ?_
      refine ev_r_isub (pc := 38) (by decide +kernel) ?_
      intro x10 hx10
      refine ev_r_putI (pc := 39) (y := 766) (ci := 13) (f := 130) hx10 (by decide +kernel) (by decide +kernel) (by exact ev_ob_621) rfl rfl ?_
      intro s11
      refine ev_r_aload_n (pc := 42) (k := 0) (v := .ref 621) trivial (by decide +kernel) (by exact e4) ?_
      refine ev_r_getC (pc := 43) (y := 297) (ci := 13) (f := 134) (fin := 1) (k' := 715) (by decide +kernel) (by decide +kernel) (by exact ev_ob_621) rfl rfl ?_
      refine ev_r_aload_n (pc := 46) (k := 0) (v := .ref 621) trivial (by decide +kernel) (by exact e4) ?_
      refine ev_r_getI (pc := 47) (y := 766) (ci := 13) (f := 130) (fin := 0) (by decide +kernel) (by decide +kernel) (by exact ev_ob_621) rfl ?_
      intro x12 hx12
      refine ev_r_iald (pc := 50) hx12 (by decide +kernel) (by exact ev_ab_715) ?_
      intro x13 hx13
      refine ev_r_istore_n (pc := 51) (k := 1) (by decide +kernel) (by decide +kernel) rfl ?_
      refine ev_r_aload_n (pc := 52) (k := 0) (v := .ref 621) trivial (by decide +kernel) (by exact (ev_lk_st1 e4 (by decide) rfl)) ?_
      refine ev_r_getC (pc := 53) (y := 294) (ci := 13) (f := 133) (fin := 1) (k' := 714) (by decide +kernel) (by decide +kernel) (by exact ev_ob_621) rfl rfl ?_
      refine ev_r_aload_n (pc := 56) (k := 0) (v := .ref 621) trivial (by decide +kernel) (by exact (ev_lk_st1 e4 (by decide) rfl)) ?_
      refine ev_r_getI (pc := 57) (y := 766) (ci := 13) (f := 130) (fin := 0) (by decide +kernel) (by decide +kernel) (by exact ev_ob_621) rfl ?_
      intro x14 hx14
      refine ev_r_iald (pc := 60) hx14 (by decide +kernel) (by exact ev_ab_714) ?_
      intro x15 hx15
      refine ev_r_iconst (pc := 61) (k := 1) (by decide +kernel) ?_
      refine ev_r_isub (pc := 62) (by decide +kernel) ?_
      intro x16 hx16
      refine ev_r_istore_n (pc := 63) (k := 2) (by decide +kernel) (by decide +kernel) rfl ?_
      exact jlt_357_64 d hd Q     Q x13 hx13 x16 hx16 s11 _ (by exact (ev_l1 (ev_lk_st1 e4 (by decide) rfl) (by decide) (by decide))) (by exact (ev_lk_st1 ev_lk_st1_self (by decide) rfl)) (by exact ev_lk_st1_self)
    · intro c8
      refine ev_r_iconst (pc := 30) (k := 0) (by decide +kernel) ?_
      exact ev_r_ireturn (pc := 31) (x := 0) (v := Int32.ofInt 0) (ty := .int) (by decide) (by decide +kernel) (by decide +kernel) rfl rfl
  · intro K20 hK20
    refine ev_r_jn (Q := fun K => ∀ (s51 : ev_St) (w49 : List (Nat × Value)), ev_lk w49 0 = some (.ref 621) → ev_w none (ev_Mof 357) d 15 w49 [.ref 621] s51 (K  s51) ev_eI ev_rng) ?_ ?_
    · intro  s51 w49 e50
      refine ev_r_iconst (pc := 15) (k := 1) (by decide +kernel) ?_
      refine ev_r_goto (pc := 16) (o := 4) (t := 20) (by decide +kernel) (by decide +kernel) ?_
      exact hK20 1 (by decide) s51 _ (by exact e50)
    · intro K15 hK15
      refine ev_r_if (pc := 5) (q := .ne) (o := 10) (t := 15) (c := x1 ≠ 0) (by decide +kernel) (ev_k_ne hx1 ev_rng0) (by decide +kernel) ?_ ?_
      · intro c52
        exact hK15  S _ (by rfl)
      · intro c52
        refine ev_r_aload_n (pc := 8) (k := 0) (v := .ref 621) trivial (by decide +kernel) (by rfl) ?_
        refine ev_r_getI (pc := 9) (y := 766) (ci := 13) (f := 130) (fin := 0) (by decide +kernel) (by decide +kernel) (by exact ev_ob_621) rfl ?_
        intro x53 hx53
        refine ev_r_if (pc := 12) (q := .ne) (o := 7) (t := 19) (c := x53 ≠ 0) (by decide +kernel) (ev_k_ne hx53 ev_rng0) (by decide +kernel) ?_ ?_
        · intro c54
          refine ev_r_iconst (pc := 19) (k := 0) (by decide +kernel) ?_
          exact hK20 0 (by decide) S _ (by rfl)
        · intro c54
          exact hK15  S _ (by rfl)
def jb_358_82 (Q : Nat)   (K82 : Int → Int → ev_St → Option ((Int) × ev_St)) (x21 : Int) (x22 : Int) (s27 : ev_St) : Option ((Int) × ev_St) := ev_b (s27.1 621 130) fun x28 => ev_if ((0 : Int) ≤ x28 ∧ x28 < (ev_aln 714 : Int)) (ev_b (s27.1 714 (Int.toNat x28)) fun x29 => if x29 ≤ x22 then (ev_b (s27.1 621 130) fun x31 => ev_ck (x31 + 1) fun x32 => ev_b (ev_pI s27 621 130 x32) fun s33 => ev_b (s33.1 621 130) fun x34 => ev_ck (x34 - 1) fun x35 => ev_bd (jm_356 Q x35 s33) fun x37 s36 => some (x37, s36)) else (ev_if ((0 : Int) ≤ x22 ∧ x22 < (ev_aln 712 : Int)) (ev_b (s27.1 712 (Int.toNat x22)) fun x38 => ev_if (128 ≠ 0) (ev_b (ev_irem x38 128) fun x39 => ev_if ((0 : Int) ≤ x22 ∧ x22 < (ev_aln 712 : Int)) (ev_b (s27.1 712 (Int.toNat x22)) fun x40 => ev_if (128 ≠ 0) (ev_b (ev_idiv x40 128) fun x41 => ev_if (128 ≠ 0) (ev_b (ev_irem x41 128) fun x42 => ev_if ((0 : Int) ≤ x22 ∧ x22 < (ev_aln 712 : Int)) (ev_b (s27.1 712 (Int.toNat x22)) fun x43 => ev_if (16384 ≠ 0) (ev_b (ev_idiv x43 16384) fun x44 => ev_if (128 ≠ 0) (ev_b (ev_irem x44 128) fun x45 => ev_if ((0 : Int) ≤ x22 ∧ x22 < (ev_aln 712 : Int)) (ev_b (s27.1 712 (Int.toNat x22)) fun x46 => ev_if (2097152 ≠ 0) (ev_b (ev_idiv x46 2097152) fun x47 => ev_ck (x39 + x42) fun x48 => ev_ck (x21 + x42) fun x49 => ev_bd (jm_341 Q x47 x39 x48 x49 x45 s27) fun _ s50 => ev_ck (x42 + x45) fun x51 => ev_ck (x21 + x51) fun x52 => ev_ck (x22 + 1) fun x53 => K82 x52 x53 s50))))))))))))
def jl_358_82 (Q : Nat)   : Nat → Int → Int → ev_St → Option ((Int) × ev_St)
  | 0 => fun _ _ _ => none
  | q + 1 => jb_358_82 Q   (jl_358_82 Q   q)
theorem jbt_358_82 (d : Nat) (hd : 2 ≤ d + 1) (Q : Nat)     (K82 : Int → Int → ev_St → Option ((Int) × ev_St)) (hK82 : ∀ (x21 : Int) (hx21 : ev_rng x21), ∀ (x22 : Int) (hx22 : ev_rng x22), ∀ (s27 : ev_St) (w23 : List (Nat × Value)), ev_lk w23 0 = some (.ref 621) → ev_lk w23 1 = some (.int (Int32.ofInt x21)) → ev_lk w23 2 = some (.int (Int32.ofInt x22)) → ev_w none (ev_Mof 358) d 82 w23 [] s27 (K82 x21 x22 s27) ev_eI ev_rng) : ∀ (x21 : Int) (hx21 : ev_rng x21), ∀ (x22 : Int) (hx22 : ev_rng x22), ∀ (s27 : ev_St) (w23 : List (Nat × Value)), ev_lk w23 0 = some (.ref 621) → ev_lk w23 1 = some (.int (Int32.ofInt x21)) → ev_lk w23 2 = some (.int (Int32.ofInt x22)) → ev_w none (ev_Mof 358) d 82 w23 [] s27 (jb_358_82 Q   K82 x21 x22 s27) ev_eI ev_rng := by
  intro x21 hx21 x22 hx22 s27 w23 e24 e25 e26
  unfold jb_358_82
  refine ev_r_iload_n (pc := 82) (k := 2) (v := Int32.ofInt x22) (by decide +kernel) (by exact e26) ?_
  refine ev_r_aload_n (pc := 83) (k := 0) (v := .ref 621) trivial (by decide +kernel) (by exact e24) ?_
  refine ev_r_getC (pc := 84) (y := 294) (ci := 13) (f := 133) (fin := 1) (k' := 714) (by decide +kernel) (by decide +kernel) (by exact ev_ob_621) rfl rfl ?_
  refine ev_r_aload_n (pc := 87) (k := 0) (v := .ref 621) trivial (by decide +kernel) (by exact e24) ?_
  refine ev_r_getI (pc := 88) (y := 766) (ci := 13) (f := 130) (fin := 0) (by decide +kernel) (by decide +kernel) (by exact ev_ob_621) rfl ?_
  intro x28 hx28
  refine ev_r_iald (pc := 91) hx28 (by decide +kernel) (by exact ev_ab_714) ?_
  intro x29 hx29
  refine ev_r_icmp (pc := 92) (q := .ge) (o := 85) (t := 177) (c := x29 ≤ x22) (by decide +kernel) (ev_k_ge hx22 hx29) (by decide +kernel) ?_ ?_
  · intro c30
    refine ev_r_aload_n (pc := 177) (k := 0) (v := .ref 621) trivial (by decide +kernel) (by exact e24) ?_
    refine ev_r_dup (pc := 178) rfl (by decide +kernel) ?_
    refine ev_r_getI (pc := 179) (y := 766) (ci := 13) (f := 130) (fin := 0) (by decide +kernel) (by decide +kernel) (by exact ev_ob_621) rfl ?_
    intro x31 hx31
    refine ev_r_iconst (pc := 182) (k := 1) (by decide +kernel) ?_
    refine ev_r_iadd (pc := 183) (by decide +kernel) ?_
    intro x32 hx32
    refine ev_r_putI (pc := 184) (y := 766) (ci := 13) (f := 130) hx32 (by decide +kernel) (by decide +kernel) (by exact ev_ob_621) rfl rfl ?_
    intro s33
    refine ev_r_aload_n (pc := 187) (k := 0) (v := .ref 621) trivial (by decide +kernel) (by exact e24) ?_
    refine ev_r_aload_n (pc := 188) (k := 0) (v := .ref 621) trivial (by decide +kernel) (by exact e24) ?_
    refine ev_r_getI (pc := 189) (y := 766) (ci := 13) (f := 130) (fin := 0) (by decide +kernel) (by decide +kernel) (by exact ev_ob_621) rfl ?_
    intro x34 hx34
    refine ev_r_iconst (pc := 192) (k := 1) (by decide +kernel) ?_
    refine ev_r_isub (pc := 193) (by decide +kernel) ?_
    intro x35 hx35
    refine ev_r_virt (pc := 194) (y := 812) (mi := 356) (na := 1) (k := 621) (as := [.int (Int32.ofInt x35)]) (rest := []) (encc := ev_oI) (Q := ev_rng) (fun x S1 h => jt_356 d (by omega) Q x35 hx35 s33 x S1 h) (by exact ev_ob_621) (by decide +kernel) (by decide +kernel) (by decide +kernel) (by decide +kernel) rfl (by (try simp only [ev_sum, ev_nv_cat]); first | done | rfl) ?_
    intro x37 s36 hx37
    show ev_w _ _ _ _ _ [.int (Int32.ofInt x37)] _ _ _ _
    exact ev_r_ireturn (pc := 197) (x := x37) (v := Int32.ofInt x37) (ty := .int) hx37 (by decide +kernel) (by decide +kernel) rfl rfl
  · intro c30
    refine ev_r_aload_n (pc := 95) (k := 0) (v := .ref 621) trivial (by decide +kernel) (by exact e24) ?_
    refine ev_r_getC (pc := 96) (y := 286) (ci := 13) (f := 127) (fin := 1) (k' := 712) (by decide +kernel) (by decide +kernel) (by exact ev_ob_621) rfl rfl ?_
    refine ev_r_iload_n (pc := 99) (k := 2) (v := Int32.ofInt x22) (by decide +kernel) (by exact e26) ?_
    refine ev_r_iald (pc := 100) hx22 (by decide +kernel) (by exact ev_ab_712) ?_
    intro x38 hx38
    refine ev_r_sipush (pc := 101) (k := 128) (by decide +kernel) (by decide +kernel) ?_
    refine ev_r_irem (pc := 104) (by decide) (by decide +kernel) ?_
    intro x39 hx39
    refine ev_r_istore_n (pc := 105) (k := 3) (by decide +kernel) (by decide +kernel) rfl ?_
    refine ev_r_aload_n (pc := 106) (k := 0) (v := .ref 621) trivial (by decide +kernel) (by exact (ev_l1 e24 (by decide) (by decide))) ?_
    refine ev_r_getC (pc := 107) (y := 286) (ci := 13) (f := 127) (fin := 1) (k' := 712) (by decide +kernel) (by decide +kernel) (by exact ev_ob_621) rfl rfl ?_
    refine ev_r_iload_n (pc := 110) (k := 2) (v := Int32.ofInt x22) (by decide +kernel) (by exact (ev_lk_st1 e26 (by decide) rfl)) ?_
    refine ev_r_iald (pc := 111) hx22 (by decide +kernel) (by exact ev_ab_712) ?_
    intro x40 hx40
    refine ev_r_sipush (pc := 112) (k := 128) (by decide +kernel) (by decide +kernel) ?_
    refine ev_r_idiv (pc := 115) (by decide) (by decide +kernel) ?_
    intro x41 hx41
    refine ev_r_sipush (pc := 116) (k := 128) (by decide +kernel) (by decide +kernel) ?_
    refine ev_r_irem (pc := 119) (by decide) (by decide +kernel) ?_
    intro x42 hx42
    refine ev_r_istore (pc := 120) (k := 4) (by decide +kernel) (by decide +kernel) rfl ?_
    refine ev_r_aload_n (pc := 122) (k := 0) (v := .ref 621) trivial (by decide +kernel) (by exact (ev_l1 (ev_l1 e24 (by decide) (by decide)) (by decide) (by decide))) ?_
    refine ev_r_getC (pc := 123) (y := 286) (ci := 13) (f := 127) (fin := 1) (k' := 712) (by decide +kernel) (by decide +kernel) (by exact ev_ob_621) rfl rfl ?_
    refine ev_r_iload_n (pc := 126) (k := 2) (v := Int32.ofInt x22) (by decide +kernel) (by exact (ev_l1 (ev_lk_st1 e26 (by decide) rfl) (by decide) (by decide))) ?_
    refine ev_r_iald (pc := 127) hx22 (by decide +kernel) (by exact ev_ab_712) ?_
    intro x43 hx43
    refine ev_r_sipush (pc := 128) (k := 16384) (by decide +kernel) (by decide +kernel) ?_
    refine ev_r_idiv (pc := 131) (by decide) (by decide +kernel) ?_
    intro x44 hx44
    refine ev_r_sipush (pc := 132) (k := 128) (by decide +kernel) (by decide +kernel) ?_
    refine ev_r_irem (pc := 135) (by decide) (by decide +kernel) ?_
    intro x45 hx45
    refine ev_r_istore (pc := 136) (k := 5) (by decide +kernel) (by decide +kernel) rfl ?_
    refine ev_r_aload_n (pc := 138) (k := 0) (v := .ref 621) trivial (by decide +kernel) (by exact (ev_l1 (ev_l1 (ev_l1 e24 (by decide) (by decide)) (by decide) (by decide)) (by decide) (by decide))) ?_
    refine ev_r_aload_n (pc := 139) (k := 0) (v := .ref 621) trivial (by decide +kernel) (by exact (ev_l1 (ev_l1 (ev_l1 e24 (by decide) (by decide)) (by decide) (by decide)) (by decide) (by decide))) ?_
    refine ev_r_getC (pc := 140) (y := 286) (ci := 13) (f := 127) (fin := 1) (k' := 712) (by decide +kernel) (by decide +kernel) (by exact ev_ob_621) rfl rfl ?_
    refine ev_r_iload_n (pc := 143) (k := 2) (v := Int32.ofInt x22) (by decide +kernel) (by exact (ev_l1 (ev_l1 (ev_lk_st1 e26 (by decide) rfl) (by decide) (by decide)) (by decide) (by decide))) ?_
    refine ev_r_iald (pc := 144) hx22 (by decide +kernel) (by exact ev_ab_712) ?_
    intro x46 hx46
    refine ev_r_ldcw (pc := 145) (y := 772) (k := 2097152) (by decide +kernel) (by decide +kernel) ?_
    refine ev_r_idiv (pc := 148) (by decide) (by decide +kernel) ?_
    intro x47 hx47
    refine ev_r_iload_n (pc := 149) (k := 3) (v := Int32.ofInt x39) (by decide +kernel) (by exact (ev_l1 (ev_lk_st1 ev_lk_st1_self (by decide) rfl) (by decide) (by decide))) ?_
    refine ev_r_iload_n (pc := 150) (k := 3) (v := Int32.ofInt x39) (by decide +kernel) (by exact (ev_l1 (ev_lk_st1 ev_lk_st1_self (by decide) rfl) (by decide) (by decide))) ?_
    refine ev_r_iload (pc := 151) (k := 4) (v := Int32.ofInt x42) (by decide +kernel) (by exact (ev_lk_st1 ev_lk_st1_self (by decide) rfl)) ?_
    refine ev_r_iadd (pc := 153) (by decide +kernel) ?_
    intro x48 hx48
    refine ev_r_iload_n (pc := 154) (k := 1) (v := Int32.ofInt x21) (by decide +kernel) (by exact (ev_l1 (ev_l1 (ev_l1 e25 (by decide) (by decide)) (by decide) (by decide)) (by decide) (by decide))) ?_
    refine ev_r_iload (pc := 155) (k := 4) (v := Int32.ofInt x42) (by decide +kernel) (by exact (ev_lk_st1 ev_lk_st1_self (by decide) rfl)) ?_
    refine ev_r_iadd (pc := 157) (by decide +kernel) ?_
    intro x49 hx49
    refine ev_r_iload (pc := 158) (k := 5) (v := Int32.ofInt x45) (by decide +kernel) (by exact ev_lk_st1_self) ?_
    refine ev_r_virt (pc := 160) (y := 779) (mi := 341) (na := 5) (k := 621) (as := [.int (Int32.ofInt x47), .int (Int32.ofInt x39), .int (Int32.ofInt x48), .int (Int32.ofInt x49), .int (Int32.ofInt x45)]) (rest := []) (encc := ev_oU) (Q := ev_PU) (fun x S1 h => jt_341 d (by omega) Q x47 x39 x48 x49 x45 hx47 hx39 hx48 hx49 hx45 s27 x S1 h) (by exact ev_ob_621) (by decide +kernel) (by decide +kernel) (by decide +kernel) (by decide +kernel) rfl (by (try simp only [ev_sum, ev_nv_cat]); first | done | rfl) ?_
    intro _ s50 _
    show ev_w _ _ _ _ _ [] _ _ _ _
    refine ev_r_iload_n (pc := 163) (k := 1) (v := Int32.ofInt x21) (by decide +kernel) (by exact (ev_l1 (ev_l1 (ev_l1 e25 (by decide) (by decide)) (by decide) (by decide)) (by decide) (by decide))) ?_
    refine ev_r_iload (pc := 164) (k := 4) (v := Int32.ofInt x42) (by decide +kernel) (by exact (ev_lk_st1 ev_lk_st1_self (by decide) rfl)) ?_
    refine ev_r_iload (pc := 166) (k := 5) (v := Int32.ofInt x45) (by decide +kernel) (by exact ev_lk_st1_self) ?_
    refine ev_r_iadd (pc := 168) (by decide +kernel) ?_
    intro x51 hx51
    refine ev_r_iadd (pc := 169) (by decide +kernel) ?_
    intro x52 hx52
    refine ev_r_istore_n (pc := 170) (k := 1) (by decide +kernel) (by decide +kernel) rfl ?_
    refine ev_r_iinc (pc := 171) (k := 2) (c := 1) (x := x22) (by decide +kernel) (by decide +kernel) (by exact (ev_l1 (ev_l1 (ev_l1 (ev_lk_st1 e26 (by decide) rfl) (by decide) (by decide)) (by decide) (by decide)) (by decide) (by decide))) (fun _ => rfl) ?_
    intro x53 hx53
    refine ev_r_goto (pc := 174) (o := (-92)) (t := 82) (by decide +kernel) (by decide +kernel) ?_
    exact hK82 x52 hx52 x53 hx53 s50 _ (by exact (ev_l1 (ev_lk_st1 (ev_l1 (ev_l1 (ev_l1 e24 (by decide) (by decide)) (by decide) (by decide)) (by decide) (by decide)) (by decide) rfl) (by decide) (by decide))) (by exact (ev_lk_st1 ev_lk_st1_self (by decide) rfl)) (by exact ev_lk_st1_self)
theorem jlt_358_82 (d : Nat) (hd : 2 ≤ d + 1) (Q : Nat)     : ∀ q : Nat, ∀ (x21 : Int) (hx21 : ev_rng x21), ∀ (x22 : Int) (hx22 : ev_rng x22), ∀ (s27 : ev_St) (w23 : List (Nat × Value)), ev_lk w23 0 = some (.ref 621) → ev_lk w23 1 = some (.int (Int32.ofInt x21)) → ev_lk w23 2 = some (.int (Int32.ofInt x22)) → ev_w none (ev_Mof 358) d 82 w23 [] s27 (jl_358_82 Q   q x21 x22 s27) ev_eI ev_rng := by
  intro q
  induction q with
  | zero =>
    intro x21 hx21 x22 hx22 s27 w23 e24 e25 e26
    exact ev_w_none
  | succ q ih => exact jbt_358_82 d hd Q     _ ih
/-- MendBenchModel.redo()I -/
def jm_358 (Q : Nat)  (S : ev_St) : Option ((Int) × ev_St) := ev_b (S.1 621 132) fun x1 => ev_jn (fun (x2 : Int) (s5 : ev_St) => ev_b (ev_pI s5 621 0 x2) fun s6 => ev_b (s6.1 621 0) fun x7 => if x7 ≤ 0 then (ev_b (s6.1 621 130) fun x9 => ev_jn (fun (x10 : Int) (s13 : ev_St) => ev_b (s13.1 621 130) fun x14 => ev_jn (fun (x15 : Int) (x16 : Int) (s20 : ev_St) => jl_358_82 Q   Q x15 x16 s20) fun K81 => if x14 ≠ 0 then (ev_b (s13.1 621 130) fun x55 => ev_ck (x55 - 1) fun x56 => ev_if ((0 : Int) ≤ x56 ∧ x56 < (ev_aln 714 : Int)) (ev_b (s13.1 714 (Int.toNat x56)) fun x57 => K81 x10 x57 s13)) else (K81 x10 0 s13)) fun K58 => if x9 ≠ 0 then (ev_b (s6.1 621 130) fun x59 => ev_ck (x59 - 1) fun x60 => ev_if ((0 : Int) ≤ x60 ∧ x60 < (ev_aln 715 : Int)) (ev_b (s6.1 715 (Int.toNat x60)) fun x61 => K58 x61 s6)) else (K58 0 s6)) else (some (0, s6))) fun K24 => ev_jn (fun  (s64 : ev_St) => K24 1 s64) fun K19 => if x1 ≠ 0 then (K19  S) else (ev_b (S.1 621 130) fun x66 => ev_b (S.1 621 131) fun x67 => if x66 ≠ x67 then (K24 0 S) else (K19  S))
theorem jt_358 (d : Nat) (hd : 2 ≤ d) (Q : Nat)   (S : ev_St) (x : Int) (S' : ev_St) (hJ : jm_358 Q  S = some (x, S')) : ev_Ref d 358 [.ref 621] S (ev_eI x) S' (ev_rng x) := by
  obtain ⟨d, rfl⟩ : ∃ e, d = e + 1 := ⟨d - 1, by omega⟩
  refine ev_ref_of (P := ev_rng) (lv := [(0, .ref 621)]) (by decide +kernel) (by (try simp only [ev_sum, ev_nv_cat]); first | done | rfl) (by (try simp only [lv_args, ev_nv_cat]); first | done | rfl) ?_ x S' hJ
  unfold jm_358
  refine ev_r_aload_n (pc := 0) (k := 0) (v := .ref 621) trivial (by decide +kernel) (by rfl) ?_
  refine ev_r_aload_n (pc := 1) (k := 0) (v := .ref 621) trivial (by decide +kernel) (by rfl) ?_
  refine ev_r_getI (pc := 2) (y := 783) (ci := 13) (f := 132) (fin := 0) (by decide +kernel) (by decide +kernel) (by exact ev_ob_621) rfl ?_
  intro x1 hx1
  refine ev_r_jn (Q := fun K => ∀ (x2 : Int) (hx2 : ev_rng x2), ∀ (s5 : ev_St) (w3 : List (Nat × Value)), ev_lk w3 0 = some (.ref 621) → ev_w none (ev_Mof 358) d 24 w3 [.int (Int32.ofInt x2), .ref 621] s5 (K x2 s5) ev_eI ev_rng) ?_ ?_
  · intro x2 hx2 s5 w3 e4
    refine ev_r_putI (pc := 24) (y := 321) (ci := 13) (f := 0) hx2 (by decide +kernel) (by decide +kernel) (by exact ev_ob_621) rfl rfl ?_
    intro s6
    refine ev_r_aload_n (pc := 27) (k := 0) (v := .ref 621) trivial (by decide +kernel) (by exact e4) ?_
    refine ev_r_getI (pc := 28) (y := 321) (ci := 13) (f := 0) (fin := 0) (by decide +kernel) (by decide +kernel) (by exact ev_ob_621) rfl ?_
    intro x7 hx7
    refine ev_r_if (pc := 31) (q := .le) (o := 5) (t := 36) (c := x7 ≤ 0) (by decide +kernel) (ev_k_le hx7 ev_rng0) (by decide +kernel) ?_ ?_
    · intro c8
      refine ev_r_aload_n (pc := 36) (k := 0) (v := .ref 621) trivial (by decide +kernel) (by exact e4) ?_
      refine ev_r_getI (pc := 37) (y := 766) (ci := 13) (f := 130) (fin := 0) (by decide +kernel) (by decide +kernel) (by exact ev_ob_621) rfl ?_
      intro x9 hx9
      refine ev_r_jn (Q := fun K => ∀ (x10 : Int) (hx10 : ev_rng x10), ∀ (s13 : ev_St) (w11 : List (Nat × Value)), ev_lk w11 0 = some (.ref 621) → ev_w none (ev_Mof 358) d 58 w11 [.int (Int32.ofInt x10)] s13 (K x10 s13) ev_eI ev_rng) ?_ ?_
      · intro x10 hx10 s13 w11 e12
        refine ev_r_istore_n (pc := 58) (k := 1) (by decide +kernel) (by decide +kernel) rfl ?_
        refine ev_r_aload_n (pc := 59) (k := 0) (v := .ref 621) trivial (by decide +kernel) (by exact (ev_lk_st1 e12 (by decide) rfl)) ?_
        refine ev_r_getI (pc := 60) (y := 766) (ci := 13) (f := 130) (fin := 0) (by decide +kernel) (by decide +kernel) (by exact ev_ob_621) rfl ?_
        intro x14 hx14
        refine ev_r_jn (Q := fun K => ∀ (x15 : Int) (hx15 : ev_rng x15), ∀ (x16 : Int) (hx16 : ev_rng x16), ∀ (s20 : ev_St) (w17 : List (Nat × Value)), ev_lk w17 0 = some (.ref 621) → ev_lk w17 1 = some (.int (Int32.ofInt x15)) → ev_w none (ev_Mof 358) d 81 w17 [.int (Int32.ofInt x16)] s20 (K x15 x16 s20) ev_eI ev_rng) ?_ ?_
        · intro x15 hx15 x16 hx16 s20 w17 e18 e19
          refine ev_r_istore_n (pc := 81) (k := 2) (by decide +kernel) (by decide +kernel) rfl ?_
          exact jlt_358_82 d hd Q     Q x15 hx15 x16 hx16 s20 _ (by exact (ev_l1 e18 (by decide) (by decide))) (by exact (ev_lk_st1 e19 (by decide) rfl)) (by exact ev_lk_st1_self)
        · intro K81 hK81
          refine ev_r_if (pc := 63) (q := .ne) (o := 7) (t := 70) (c := x14 ≠ 0) (by decide +kernel) (ev_k_ne hx14 ev_rng0) (by decide +kernel) ?_ ?_
          · intro c54
            refine ev_r_aload_n (pc := 70) (k := 0) (v := .ref 621) trivial (by decide +kernel) (by exact (ev_lk_st1 e12 (by decide) rfl)) ?_
            refine ev_r_getC (pc := 71) (y := 294) (ci := 13) (f := 133) (fin := 1) (k' := 714) (by decide +kernel) (by decide +kernel) (by exact ev_ob_621) rfl rfl ?_
            refine ev_r_aload_n (pc := 74) (k := 0) (v := .ref 621) trivial (by decide +kernel) (by exact (ev_lk_st1 e12 (by decide) rfl)) ?_
            refine ev_r_getI (pc := 75) (y := 766) (ci := 13) (f := 130) (fin := 0) (by decide +kernel) (by decide +kernel) (by exact ev_ob_621) rfl ?_
            intro x55 hx55
            refine ev_r_iconst (pc := 78) (k := 1) (by decide +kernel) ?_
            refine ev_r_isub (pc := 79) (by decide +kernel) ?_
            intro x56 hx56
            refine ev_r_iald (pc := 80) hx56 (by decide +kernel) (by exact ev_ab_714) ?_
            intro x57 hx57
            exact hK81 x10 hx10 x57 hx57 s13 _ (by exact (ev_lk_st1 e12 (by decide) rfl)) (by exact ev_lk_st1_self)
          · intro c54
            refine ev_r_iconst (pc := 66) (k := 0) (by decide +kernel) ?_
            refine ev_r_goto (pc := 67) (o := 14) (t := 81) (by decide +kernel) (by decide +kernel) ?_
            exact hK81 x10 hx10 0 (by decide) s13 _ (by exact (ev_lk_st1 e12 (by decide) rfl)) (by exact ev_lk_st1_self)
      · intro K58 hK58
        refine ev_r_if (pc := 40) (q := .ne) (o := 7) (t := 47) (c := x9 ≠ 0) (by decide +kernel) (ev_k_ne hx9 ev_rng0) (by decide +kernel) ?_ ?_
        · intro c58
          refine ev_r_aload_n (pc := 47) (k := 0) (v := .ref 621) trivial (by decide +kernel) (by exact e4) ?_
          refine ev_r_getC (pc := 48) (y := 297) (ci := 13) (f := 134) (fin := 1) (k' := 715) (by decide +kernel) (by decide +kernel) (by exact ev_ob_621) rfl rfl ?_
          refine ev_r_aload_n (pc := 51) (k := 0) (v := .ref 621) trivial (by decide +kernel) (by exact e4) ?_
          refine ev_r_getI (pc := 52) (y := 766) (ci := 13) (f := 130) (fin := 0) (by decide +kernel) (by decide +kernel) (by exact ev_ob_621) rfl ?_
          intro x59 hx59
          refine ev_r_iconst (pc := 55) (k := 1) (by decide +kernel) ?_
          refine ev_r_isub (pc := 56) (by decide +kernel) ?_
          intro x60 hx60
          refine ev_r_iald (pc := 57) hx60 (by decide +kernel) (by exact ev_ab_715) ?_
          intro x61 hx61
          exact hK58 x61 hx61 s6 _ (by exact e4)
        · intro c58
          refine ev_r_iconst (pc := 43) (k := 0) (by decide +kernel) ?_
          refine ev_r_goto (pc := 44) (o := 14) (t := 58) (by decide +kernel) (by decide +kernel) ?_
          exact hK58 0 (by decide) s6 _ (by exact e4)
    · intro c8
      refine ev_r_iconst (pc := 34) (k := 0) (by decide +kernel) ?_
      exact ev_r_ireturn (pc := 35) (x := 0) (v := Int32.ofInt 0) (ty := .int) (by decide) (by decide +kernel) (by decide +kernel) rfl rfl
  · intro K24 hK24
    refine ev_r_jn (Q := fun K => ∀ (s64 : ev_St) (w62 : List (Nat × Value)), ev_lk w62 0 = some (.ref 621) → ev_w none (ev_Mof 358) d 19 w62 [.ref 621] s64 (K  s64) ev_eI ev_rng) ?_ ?_
    · intro  s64 w62 e63
      refine ev_r_iconst (pc := 19) (k := 1) (by decide +kernel) ?_
      refine ev_r_goto (pc := 20) (o := 4) (t := 24) (by decide +kernel) (by decide +kernel) ?_
      exact hK24 1 (by decide) s64 _ (by exact e63)
    · intro K19 hK19
      refine ev_r_if (pc := 5) (q := .ne) (o := 14) (t := 19) (c := x1 ≠ 0) (by decide +kernel) (ev_k_ne hx1 ev_rng0) (by decide +kernel) ?_ ?_
      · intro c65
        exact hK19  S _ (by rfl)
      · intro c65
        refine ev_r_aload_n (pc := 8) (k := 0) (v := .ref 621) trivial (by decide +kernel) (by rfl) ?_
        refine ev_r_getI (pc := 9) (y := 766) (ci := 13) (f := 130) (fin := 0) (by decide +kernel) (by decide +kernel) (by exact ev_ob_621) rfl ?_
        intro x66 hx66
        refine ev_r_aload_n (pc := 12) (k := 0) (v := .ref 621) trivial (by decide +kernel) (by rfl) ?_
        refine ev_r_getI (pc := 13) (y := 763) (ci := 13) (f := 131) (fin := 0) (by decide +kernel) (by decide +kernel) (by exact ev_ob_621) rfl ?_
        intro x67 hx67
        refine ev_r_icmp (pc := 16) (q := .ne) (o := 7) (t := 23) (c := x66 ≠ x67) (by decide +kernel) (ev_k_ne hx66 hx67) (by decide +kernel) ?_ ?_
        · intro c68
          refine ev_r_iconst (pc := 23) (k := 0) (by decide +kernel) ?_
          exact hK24 0 (by decide) S _ (by rfl)
        · intro c68
          exact hK19  S _ (by rfl)
/-- MendBenchModel.record()I -/
def jm_359 (Q : Nat)  (S : ev_St) : Option ((Int) × ev_St) := ev_b (S.1 621 136) fun x1 => ev_jn (fun (x2 : Int) (s5 : ev_St) => ev_b (ev_pI s5 621 0 x2) fun s6 => ev_b (s6.1 621 0) fun x7 => if x7 ≤ 0 then (ev_b (s6.1 621 136) fun x9 => ev_jn (fun (x10 : Int) (s13 : ev_St) => ev_if (ev_bl x10) (ev_b (ev_pI s13 621 136 x10) fun s14 => ev_b (s14.1 621 136) fun x16 => if x16 = 0 then (ev_b (s14.1 621 135) fun x18 => ev_ck (x18 + 1) fun x19 => ev_b (ev_pI s14 621 135 x19) fun s20 => ev_b (s20.1 621 135) fun x21 => ev_ck (x21 - 1) fun x22 => some (x22, s20)) else (ev_b (s14.1 621 135) fun x23 => ev_if ((0 : Int) ≤ x23 ∧ x23 < (ev_aln 716 : Int)) (ev_b (ev_pI s14 716 (Int.toNat x23) 0) fun s24 => some ((-1), s24))))) fun K47 => if x9 ≠ 0 then (K47 0 s6) else (K47 1 s6)) else (some (0, s6))) fun K22 => ev_jn (fun  (s28 : ev_St) => K22 0 s28) fun K21 => if x1 ≠ 0 then (K21  S) else (ev_b (S.1 621 135) fun x30 => if x30 ≠ 6 then (K21  S) else (K22 1 S))
theorem jt_359 (d : Nat) (hd : 1 ≤ d) (Q : Nat)   (S : ev_St) (x : Int) (S' : ev_St) (hJ : jm_359 Q  S = some (x, S')) : ev_Ref d 359 [.ref 621] S (ev_eI x) S' (ev_rng x) := by
  obtain ⟨d, rfl⟩ : ∃ e, d = e + 1 := ⟨d - 1, by omega⟩
  refine ev_ref_of (P := ev_rng) (lv := [(0, .ref 621)]) (by decide +kernel) (by (try simp only [ev_sum, ev_nv_cat]); first | done | rfl) (by (try simp only [lv_args, ev_nv_cat]); first | done | rfl) ?_ x S' hJ
  unfold jm_359
  refine ev_r_aload_n (pc := 0) (k := 0) (v := .ref 621) trivial (by decide +kernel) (by rfl) ?_
  refine ev_r_aload_n (pc := 1) (k := 0) (v := .ref 621) trivial (by decide +kernel) (by rfl) ?_
  refine ev_r_getI (pc := 2) (y := 799) (ci := 13) (f := 136) (fin := 0) (by decide +kernel) (by decide +kernel) (by exact ev_ob_621) rfl ?_
  intro x1 hx1
  refine ev_r_jn (Q := fun K => ∀ (x2 : Int) (hx2 : ev_rng x2), ∀ (s5 : ev_St) (w3 : List (Nat × Value)), ev_lk w3 0 = some (.ref 621) → ev_w none (ev_Mof 359) d 22 w3 [.int (Int32.ofInt x2), .ref 621] s5 (K x2 s5) ev_eI ev_rng) ?_ ?_
  · intro x2 hx2 s5 w3 e4
    refine ev_r_putI (pc := 22) (y := 321) (ci := 13) (f := 0) hx2 (by decide +kernel) (by decide +kernel) (by exact ev_ob_621) rfl rfl ?_
    intro s6
    refine ev_r_aload_n (pc := 25) (k := 0) (v := .ref 621) trivial (by decide +kernel) (by exact e4) ?_
    refine ev_r_getI (pc := 26) (y := 321) (ci := 13) (f := 0) (fin := 0) (by decide +kernel) (by decide +kernel) (by exact ev_ob_621) rfl ?_
    intro x7 hx7
    refine ev_r_if (pc := 29) (q := .le) (o := 5) (t := 34) (c := x7 ≤ 0) (by decide +kernel) (ev_k_le hx7 ev_rng0) (by decide +kernel) ?_ ?_
    · intro c8
      refine ev_r_aload_n (pc := 34) (k := 0) (v := .ref 621) trivial (by decide +kernel) (by exact e4) ?_
      refine ev_r_aload_n (pc := 35) (k := 0) (v := .ref 621) trivial (by decide +kernel) (by exact e4) ?_
      refine ev_r_getI (pc := 36) (y := 799) (ci := 13) (f := 136) (fin := 0) (by decide +kernel) (by decide +kernel) (by exact ev_ob_621) rfl ?_
      intro x9 hx9
      refine ev_r_jn (Q := fun K => ∀ (x10 : Int) (hx10 : ev_rng x10), ∀ (s13 : ev_St) (w11 : List (Nat × Value)), ev_lk w11 0 = some (.ref 621) → ev_w none (ev_Mof 359) d 47 w11 [.int (Int32.ofInt x10), .ref 621] s13 (K x10 s13) ev_eI ev_rng) ?_ ?_
      · intro x10 hx10 s13 w11 e12
        refine ev_r_chk ?_
        intro c15
        refine ev_r_putI (pc := 47) (y := 799) (ci := 13) (f := 136) hx10 (by decide +kernel) (by decide +kernel) (by exact ev_ob_621) rfl (ev_fit_bl c15) ?_
        intro s14
        refine ev_r_aload_n (pc := 50) (k := 0) (v := .ref 621) trivial (by decide +kernel) (by exact e12) ?_
        refine ev_r_getI (pc := 51) (y := 799) (ci := 13) (f := 136) (fin := 0) (by decide +kernel) (by decide +kernel) (by exact ev_ob_621) rfl ?_
        intro x16 hx16
        refine ev_r_if (pc := 54) (q := .eq) (o := 15) (t := 69) (c := x16 = 0) (by decide +kernel) (ev_k_eq hx16 ev_rng0) (by decide +kernel) ?_ ?_
        · intro c17
          refine ev_r_aload_n (pc := 69) (k := 0) (v := .ref 621) trivial (by decide +kernel) (by exact e12) ?_
          refine ev_r_dup (pc := 70) rfl (by decide +kernel) ?_
          refine ev_r_getI (pc := 71) (y := 802) (ci := 13) (f := 135) (fin := 0) (by decide +kernel) (by decide +kernel) (by exact ev_ob_621) rfl ?_
          intro x18 hx18
          refine ev_r_iconst (pc := 74) (k := 1) (by decide +kernel) ?_
          refine ev_r_iadd (pc := 75) (by decide +kernel) ?_
          intro x19 hx19
          refine ev_r_putI (pc := 76) (y := 802) (ci := 13) (f := 135) hx19 (by decide +kernel) (by decide +kernel) (by exact ev_ob_621) rfl rfl ?_
          intro s20
          refine ev_r_aload_n (pc := 79) (k := 0) (v := .ref 621) trivial (by decide +kernel) (by exact e12) ?_
          refine ev_r_getI (pc := 80) (y := 802) (ci := 13) (f := 135) (fin := 0) (by decide +kernel) (by decide +kernel) (by exact ev_ob_621) rfl ?_
          intro x21 hx21
          refine ev_r_iconst (pc := 83) (k := 1) (by decide +kernel) ?_
          refine ev_r_isub (pc := 84) (by decide +kernel) ?_
          intro x22 hx22
          exact ev_r_ireturn (pc := 85) (x := x22) (v := Int32.ofInt x22) (ty := .int) hx22 (by decide +kernel) (by decide +kernel) rfl rfl
        · intro c17
          refine ev_r_aload_n (pc := 57) (k := 0) (v := .ref 621) trivial (by decide +kernel) (by exact e12) ?_
          refine ev_r_getC (pc := 58) (y := 300) (ci := 13) (f := 137) (fin := 1) (k' := 716) (by decide +kernel) (by decide +kernel) (by exact ev_ob_621) rfl rfl ?_
          refine ev_r_aload_n (pc := 61) (k := 0) (v := .ref 621) trivial (by decide +kernel) (by exact e12) ?_
          refine ev_r_getI (pc := 62) (y := 802) (ci := 13) (f := 135) (fin := 0) (by decide +kernel) (by decide +kernel) (by exact ev_ob_621) rfl ?_
          intro x23 hx23
          refine ev_r_iconst (pc := 65) (k := 0) (by decide +kernel) ?_
          refine ev_r_iast (pc := 66) (by decide) hx23 (by decide +kernel) (by exact ev_ab_716) ?_
          intro s24
          refine ev_r_iconst (pc := 67) (k := -1) (by decide +kernel) ?_
          exact ev_r_ireturn (pc := 68) (x := (-1)) (v := Int32.ofInt ((-1))) (ty := .int) (by decide) (by decide +kernel) (by decide +kernel) rfl rfl
      · intro K47 hK47
        refine ev_r_if (pc := 39) (q := .ne) (o := 7) (t := 46) (c := x9 ≠ 0) (by decide +kernel) (ev_k_ne hx9 ev_rng0) (by decide +kernel) ?_ ?_
        · intro c25
          refine ev_r_iconst (pc := 46) (k := 0) (by decide +kernel) ?_
          exact hK47 0 (by decide) s6 _ (by exact e4)
        · intro c25
          refine ev_r_iconst (pc := 42) (k := 1) (by decide +kernel) ?_
          refine ev_r_goto (pc := 43) (o := 4) (t := 47) (by decide +kernel) (by decide +kernel) ?_
          exact hK47 1 (by decide) s6 _ (by exact e4)
    · intro c8
      refine ev_r_iconst (pc := 32) (k := 0) (by decide +kernel) ?_
      exact ev_r_ireturn (pc := 33) (x := 0) (v := Int32.ofInt 0) (ty := .int) (by decide) (by decide +kernel) (by decide +kernel) rfl rfl
  · intro K22 hK22
    refine ev_r_jn (Q := fun K => ∀ (s28 : ev_St) (w26 : List (Nat × Value)), ev_lk w26 0 = some (.ref 621) → ev_w none (ev_Mof 359) d 21 w26 [.ref 621] s28 (K  s28) ev_eI ev_rng) ?_ ?_
    · intro  s28 w26 e27
      refine ev_r_iconst (pc := 21) (k := 0) (by decide +kernel) ?_
      exact hK22 0 (by decide) s28 _ (by exact e27)
    · intro K21 hK21
      refine ev_r_if (pc := 5) (q := .ne) (o := 16) (t := 21) (c := x1 ≠ 0) (by decide +kernel) (ev_k_ne hx1 ev_rng0) (by decide +kernel) ?_ ?_
      · intro c29
        exact hK21  S _ (by rfl)
      · intro c29
        refine ev_r_aload_n (pc := 8) (k := 0) (v := .ref 621) trivial (by decide +kernel) (by rfl) ?_
        refine ev_r_getI (pc := 9) (y := 802) (ci := 13) (f := 135) (fin := 0) (by decide +kernel) (by decide +kernel) (by exact ev_ob_621) rfl ?_
        intro x30 hx30
        refine ev_r_bipush (pc := 12) (k := 6) (by decide +kernel) (by decide +kernel) ?_
        refine ev_r_icmp (pc := 14) (q := .ne) (o := 7) (t := 21) (c := x30 ≠ 6) (by decide +kernel) (ev_k_ne hx30 (by decide)) (by decide +kernel) ?_ ?_
        · intro c31
          exact hK21  S _ (by rfl)
        · intro c31
          refine ev_r_iconst (pc := 17) (k := 1) (by decide +kernel) ?_
          refine ev_r_goto (pc := 18) (o := 4) (t := 22) (by decide +kernel) (by decide +kernel) ?_
          exact hK22 1 (by decide) S _ (by rfl)
def jb_360_173 (Q : Nat) (x1 : Int)  (K173 : Int → ev_St → Option ((Unit) × ev_St)) (x13 : Int) (s18 : ev_St) : Option ((Unit) × ev_St) := if x1 ≤ x13 then (some ((), s18)) else (ev_if ((0 : Int) ≤ x13 ∧ x13 < (ev_aln 706 : Int)) (ev_b (s18.1 706 (Int.toNat x13)) fun x20 => ev_if ((0 : Int) ≤ x13 ∧ x13 < (ev_aln 678 : Int)) (ev_b (ev_pI s18 678 (Int.toNat x13) x20) fun s21 => ev_ck (x13 + 1) fun x22 => K173 x22 s21)))
def jl_360_173 (Q : Nat) (x1 : Int)  : Nat → Int → ev_St → Option ((Unit) × ev_St)
  | 0 => fun _ _ => none
  | q + 1 => jb_360_173 Q x1  (jl_360_173 Q x1  q)
theorem jbt_360_173 (d : Nat) (hd : 1 ≤ d + 1) (Q : Nat) (x1 : Int) (hx1 : ev_rng x1)   (K173 : Int → ev_St → Option ((Unit) × ev_St)) (hK173 : ∀ (x13 : Int) (hx13 : ev_rng x13), ∀ (s18 : ev_St) (w14 : List (Nat × Value)), ev_lk w14 0 = some (.ref 621) → ev_lk w14 2 = some (.int (Int32.ofInt x1)) → ev_lk w14 4 = some (.int (Int32.ofInt x13)) → ev_w none (ev_Mof 360) d 173 w14 [] s18 (K173 x13 s18) ev_eU ev_PU) : ∀ (x13 : Int) (hx13 : ev_rng x13), ∀ (s18 : ev_St) (w14 : List (Nat × Value)), ev_lk w14 0 = some (.ref 621) → ev_lk w14 2 = some (.int (Int32.ofInt x1)) → ev_lk w14 4 = some (.int (Int32.ofInt x13)) → ev_w none (ev_Mof 360) d 173 w14 [] s18 (jb_360_173 Q x1  K173 x13 s18) ev_eU ev_PU := by
  intro x13 hx13 s18 w14 e15 e16 e17
  unfold jb_360_173
  refine ev_r_iload (pc := 173) (k := 4) (v := Int32.ofInt x13) (by decide +kernel) (by exact e17) ?_
  refine ev_r_iload_n (pc := 175) (k := 2) (v := Int32.ofInt x1) (by decide +kernel) (by exact e16) ?_
  refine ev_r_icmp (pc := 176) (q := .ge) (o := 23) (t := 199) (c := x1 ≤ x13) (by decide +kernel) (ev_k_ge hx13 hx1) (by decide +kernel) ?_ ?_
  · intro c19
    exact ev_r_return (pc := 199) (x := ()) trivial (by decide +kernel) (by decide +kernel) rfl
  · intro c19
    refine ev_r_aload_n (pc := 179) (k := 0) (v := .ref 621) trivial (by decide +kernel) (by exact e15) ?_
    refine ev_r_getC (pc := 180) (y := 181) (ci := 13) (f := 74) (fin := 1) (k' := 678) (by decide +kernel) (by decide +kernel) (by exact ev_ob_621) rfl rfl ?_
    refine ev_r_iload (pc := 183) (k := 4) (v := Int32.ofInt x13) (by decide +kernel) (by exact e17) ?_
    refine ev_r_aload_n (pc := 185) (k := 0) (v := .ref 621) trivial (by decide +kernel) (by exact e15) ?_
    refine ev_r_getC (pc := 186) (y := 267) (ci := 13) (f := 118) (fin := 1) (k' := 706) (by decide +kernel) (by decide +kernel) (by exact ev_ob_621) rfl rfl ?_
    refine ev_r_iload (pc := 189) (k := 4) (v := Int32.ofInt x13) (by decide +kernel) (by exact e17) ?_
    refine ev_r_iald (pc := 191) hx13 (by decide +kernel) (by exact ev_ab_706) ?_
    intro x20 hx20
    refine ev_r_iast (pc := 192) hx20 hx13 (by decide +kernel) (by exact ev_ab_678) ?_
    intro s21
    refine ev_r_iinc (pc := 193) (k := 4) (c := 1) (x := x13) (by decide +kernel) (by decide +kernel) (by exact e17) (fun _ => rfl) ?_
    intro x22 hx22
    refine ev_r_goto (pc := 196) (o := (-23)) (t := 173) (by decide +kernel) (by decide +kernel) ?_
    exact hK173 x22 hx22 s21 _ (by exact (ev_l1 e15 (by decide) (by decide))) (by exact (ev_l1 e16 (by decide) (by decide))) (by exact ev_lk_st1_self)
theorem jlt_360_173 (d : Nat) (hd : 1 ≤ d + 1) (Q : Nat) (x1 : Int) (hx1 : ev_rng x1)   : ∀ q : Nat, ∀ (x13 : Int) (hx13 : ev_rng x13), ∀ (s18 : ev_St) (w14 : List (Nat × Value)), ev_lk w14 0 = some (.ref 621) → ev_lk w14 2 = some (.int (Int32.ofInt x1)) → ev_lk w14 4 = some (.int (Int32.ofInt x13)) → ev_w none (ev_Mof 360) d 173 w14 [] s18 (jl_360_173 Q x1  q x13 s18) ev_eU ev_PU := by
  intro q
  induction q with
  | zero =>
    intro x13 hx13 s18 w14 e15 e16 e17
    exact ev_w_none
  | succ q ih => exact jbt_360_173 d hd Q x1 hx1   _ ih
def jb_360_89 (Q : Nat) (a0 : Int) (x3 : Int) (K7 : Int → Int → Int → ev_St → Option ((Unit) × ev_St)) (K89 : Int → Int → ev_St → Option ((Unit) × ev_St)) (x50 : Int) (x51 : Int) (s58 : ev_St) : Option ((Unit) × ev_St) := ev_jn (fun (x60 : Int) (x59 : Int) (s67 : ev_St) => if x60 ≤ x59 then (ev_jn (fun (x69 : Int) (s75 : ev_St) => ev_ck (x3 + 1) fun x76 => K7 x50 x69 x76 s75) fun K158 => if a0 ≤ x3 then (ev_b (s67.1 621 73) fun x78 => K158 x78 s67) else (ev_if ((0 : Int) ≤ x3 ∧ x3 < (ev_aln 705 : Int)) (ev_b (s67.1 705 (Int.toNat x3)) fun x79 => K158 x79 s67))) else (ev_if ((0 : Int) ≤ x51 ∧ x51 < (ev_aln 702 : Int)) (ev_b (s67.1 702 (Int.toNat x51)) fun x80 => ev_if ((0 : Int) ≤ x50 ∧ x50 < (ev_aln 706 : Int)) (ev_b (ev_pI s67 706 (Int.toNat x50) x80) fun s81 => ev_ck (x50 + 1) fun x82 => ev_ck (x51 + 1) fun x83 => K89 x82 x83 s81)))) fun K113 => if a0 ≤ x3 then (ev_b (s58.1 621 113) fun x85 => K113 x85 x51 s58) else (ev_ck (x3 + 1) fun x86 => ev_if ((0 : Int) ≤ x86 ∧ x86 < (ev_aln 703 : Int)) (ev_b (s58.1 703 (Int.toNat x86)) fun x87 => K113 x87 x51 s58))
def jl_360_89 (Q : Nat) (a0 : Int) (x3 : Int) (K7 : Int → Int → Int → ev_St → Option ((Unit) × ev_St)) : Nat → Int → Int → ev_St → Option ((Unit) × ev_St)
  | 0 => fun _ _ _ => none
  | q + 1 => jb_360_89 Q a0 x3 K7 (jl_360_89 Q a0 x3 K7 q)
theorem jbt_360_89 (d : Nat) (hd : 1 ≤ d + 1) (Q : Nat) (a0 : Int) (x3 : Int) (ha0 : ev_rng a0) (hx3 : ev_rng x3) (K7 : Int → Int → Int → ev_St → Option ((Unit) × ev_St)) (hK7 : ∀ (x1 : Int) (hx1 : ev_rng x1), ∀ (x2 : Int) (hx2 : ev_rng x2), ∀ (x3 : Int) (hx3 : ev_rng x3), ∀ (s10 : ev_St) (w4 : List (Nat × Value)), ev_lk w4 0 = some (.ref 621) → ev_lk w4 1 = some (.int (Int32.ofInt a0)) → ev_lk w4 2 = some (.int (Int32.ofInt x1)) → ev_lk w4 3 = some (.int (Int32.ofInt x2)) → ev_lk w4 4 = some (.int (Int32.ofInt x3)) → ev_w none (ev_Mof 360) d 7 w4 [] s10 (K7 x1 x2 x3 s10) ev_eU ev_PU) (K89 : Int → Int → ev_St → Option ((Unit) × ev_St)) (hK89 : ∀ (x50 : Int) (hx50 : ev_rng x50), ∀ (x51 : Int) (hx51 : ev_rng x51), ∀ (s58 : ev_St) (w52 : List (Nat × Value)), ev_lk w52 0 = some (.ref 621) → ev_lk w52 1 = some (.int (Int32.ofInt a0)) → ev_lk w52 2 = some (.int (Int32.ofInt x50)) → ev_lk w52 4 = some (.int (Int32.ofInt x3)) → ev_lk w52 6 = some (.int (Int32.ofInt x51)) → ev_w none (ev_Mof 360) d 89 w52 [] s58 (K89 x50 x51 s58) ev_eU ev_PU) : ∀ (x50 : Int) (hx50 : ev_rng x50), ∀ (x51 : Int) (hx51 : ev_rng x51), ∀ (s58 : ev_St) (w52 : List (Nat × Value)), ev_lk w52 0 = some (.ref 621) → ev_lk w52 1 = some (.int (Int32.ofInt a0)) → ev_lk w52 2 = some (.int (Int32.ofInt x50)) → ev_lk w52 4 = some (.int (Int32.ofInt x3)) → ev_lk w52 6 = some (.int (Int32.ofInt x51)) → ev_w none (ev_Mof 360) d 89 w52 [] s58 (jb_360_89 Q a0 x3 K7 K89 x50 x51 s58) ev_eU ev_PU := by
  intro x50 hx50 x51 hx51 s58 w52 e53 e54 e55 e56 e57
  unfold jb_360_89
  refine ev_r_iload (pc := 89) (k := 6) (v := Int32.ofInt x51) (by decide +kernel) (by exact e57) ?_
  refine ev_r_iload (pc := 91) (k := 4) (v := Int32.ofInt x3) (by decide +kernel) (by exact e56) ?_
  refine ev_r_iload_n (pc := 93) (k := 1) (v := Int32.ofInt a0) (by decide +kernel) (by exact e54) ?_
  refine ev_r_jn (Q := fun K => ∀ (x60 : Int) (hx60 : ev_rng x60), ∀ (x59 : Int) (hx59 : ev_rng x59), ∀ (s67 : ev_St) (w61 : List (Nat × Value)), ev_lk w61 0 = some (.ref 621) → ev_lk w61 1 = some (.int (Int32.ofInt a0)) → ev_lk w61 2 = some (.int (Int32.ofInt x50)) → ev_lk w61 4 = some (.int (Int32.ofInt x3)) → ev_lk w61 6 = some (.int (Int32.ofInt x51)) → ev_w none (ev_Mof 360) d 113 w61 [.int (Int32.ofInt x60), .int (Int32.ofInt x59)] s67 (K x60 x59 s67) ev_eU ev_PU) ?_ ?_
  · intro x60 hx60 x59 hx59 s67 w61 e62 e63 e64 e65 e66
    refine ev_r_icmp (pc := 113) (q := .ge) (o := 25) (t := 138) (c := x60 ≤ x59) (by decide +kernel) (ev_k_ge hx59 hx60) (by decide +kernel) ?_ ?_
    · intro c68
      refine ev_r_iload (pc := 138) (k := 4) (v := Int32.ofInt x3) (by decide +kernel) (by exact e65) ?_
      refine ev_r_iload_n (pc := 140) (k := 1) (v := Int32.ofInt a0) (by decide +kernel) (by exact e63) ?_
      refine ev_r_jn (Q := fun K => ∀ (x69 : Int) (hx69 : ev_rng x69), ∀ (s75 : ev_St) (w70 : List (Nat × Value)), ev_lk w70 0 = some (.ref 621) → ev_lk w70 1 = some (.int (Int32.ofInt a0)) → ev_lk w70 2 = some (.int (Int32.ofInt x50)) → ev_lk w70 4 = some (.int (Int32.ofInt x3)) → ev_w none (ev_Mof 360) d 158 w70 [.int (Int32.ofInt x69)] s75 (K x69 s75) ev_eU ev_PU) ?_ ?_
      · intro x69 hx69 s75 w70 e71 e72 e73 e74
        refine ev_r_istore_n (pc := 158) (k := 3) (by decide +kernel) (by decide +kernel) rfl ?_
        refine ev_r_iinc (pc := 159) (k := 4) (c := 1) (x := x3) (by decide +kernel) (by decide +kernel) (by exact (ev_l1 e74 (by decide) (by decide))) (fun _ => rfl) ?_
        intro x76 hx76
        refine ev_r_goto (pc := 162) (o := (-155)) (t := 7) (by decide +kernel) (by decide +kernel) ?_
        exact hK7 x50 hx50 x69 hx69 x76 hx76 s75 _ (by exact (ev_l1 (ev_l1 e71 (by decide) (by decide)) (by decide) (by decide))) (by exact (ev_l1 (ev_l1 e72 (by decide) (by decide)) (by decide) (by decide))) (by exact (ev_l1 (ev_lk_st1 e73 (by decide) rfl) (by decide) (by decide))) (by exact (ev_lk_st1 ev_lk_st1_self (by decide) rfl)) (by exact ev_lk_st1_self)
      · intro K158 hK158
        refine ev_r_icmp (pc := 141) (q := .ge) (o := 13) (t := 154) (c := a0 ≤ x3) (by decide +kernel) (ev_k_ge hx3 ha0) (by decide +kernel) ?_ ?_
        · intro c77
          refine ev_r_aload_n (pc := 154) (k := 0) (v := .ref 621) trivial (by decide +kernel) (by exact e62) ?_
          refine ev_r_getI (pc := 155) (y := 567) (ci := 13) (f := 73) (fin := 0) (by decide +kernel) (by decide +kernel) (by exact ev_ob_621) rfl ?_
          intro x78 hx78
          exact hK158 x78 hx78 s67 _ (by exact e62) (by exact e63) (by exact e64) (by exact e65)
        · intro c77
          refine ev_r_aload_n (pc := 144) (k := 0) (v := .ref 621) trivial (by decide +kernel) (by exact e62) ?_
          refine ev_r_getC (pc := 145) (y := 264) (ci := 13) (f := 117) (fin := 1) (k' := 705) (by decide +kernel) (by decide +kernel) (by exact ev_ob_621) rfl rfl ?_
          refine ev_r_iload (pc := 148) (k := 4) (v := Int32.ofInt x3) (by decide +kernel) (by exact e65) ?_
          refine ev_r_iald (pc := 150) hx3 (by decide +kernel) (by exact ev_ab_705) ?_
          intro x79 hx79
          refine ev_r_goto (pc := 151) (o := 7) (t := 158) (by decide +kernel) (by decide +kernel) ?_
          exact hK158 x79 hx79 s67 _ (by exact e62) (by exact e63) (by exact e64) (by exact e65)
    · intro c68
      refine ev_r_aload_n (pc := 116) (k := 0) (v := .ref 621) trivial (by decide +kernel) (by exact e62) ?_
      refine ev_r_getC (pc := 117) (y := 267) (ci := 13) (f := 118) (fin := 1) (k' := 706) (by decide +kernel) (by decide +kernel) (by exact ev_ob_621) rfl rfl ?_
      refine ev_r_iload_n (pc := 120) (k := 2) (v := Int32.ofInt x50) (by decide +kernel) (by exact e64) ?_
      refine ev_r_aload_n (pc := 121) (k := 0) (v := .ref 621) trivial (by decide +kernel) (by exact e62) ?_
      refine ev_r_getC (pc := 122) (y := 255) (ci := 13) (f := 114) (fin := 1) (k' := 702) (by decide +kernel) (by decide +kernel) (by exact ev_ob_621) rfl rfl ?_
      refine ev_r_iload (pc := 125) (k := 6) (v := Int32.ofInt x51) (by decide +kernel) (by exact e66) ?_
      refine ev_r_iald (pc := 127) hx51 (by decide +kernel) (by exact ev_ab_702) ?_
      intro x80 hx80
      refine ev_r_iast (pc := 128) hx80 hx50 (by decide +kernel) (by exact ev_ab_706) ?_
      intro s81
      refine ev_r_iinc (pc := 129) (k := 2) (c := 1) (x := x50) (by decide +kernel) (by decide +kernel) (by exact e64) (fun _ => rfl) ?_
      intro x82 hx82
      refine ev_r_iinc (pc := 132) (k := 6) (c := 1) (x := x51) (by decide +kernel) (by decide +kernel) (by exact (ev_l1 e66 (by decide) (by decide))) (fun _ => rfl) ?_
      intro x83 hx83
      refine ev_r_goto (pc := 135) (o := (-46)) (t := 89) (by decide +kernel) (by decide +kernel) ?_
      exact hK89 x82 hx82 x83 hx83 s81 _ (by exact (ev_l1 (ev_l1 e62 (by decide) (by decide)) (by decide) (by decide))) (by exact (ev_l1 (ev_lk_st1 e63 (by decide) rfl) (by decide) (by decide))) (by exact (ev_l1 ev_lk_st1_self (by decide) (by decide))) (by exact (ev_l1 (ev_l1 e65 (by decide) (by decide)) (by decide) (by decide))) (by exact ev_lk_st1_self)
  · intro K113 hK113
    refine ev_r_icmp (pc := 94) (q := .ge) (o := 15) (t := 109) (c := a0 ≤ x3) (by decide +kernel) (ev_k_ge hx3 ha0) (by decide +kernel) ?_ ?_
    · intro c84
      refine ev_r_aload_n (pc := 109) (k := 0) (v := .ref 621) trivial (by decide +kernel) (by exact e53) ?_
      refine ev_r_getI (pc := 110) (y := 748) (ci := 13) (f := 113) (fin := 0) (by decide +kernel) (by decide +kernel) (by exact ev_ob_621) rfl ?_
      intro x85 hx85
      exact hK113 x85 hx85 x51 hx51 s58 _ (by exact e53) (by exact e54) (by exact e55) (by exact e56) (by exact e57)
    · intro c84
      refine ev_r_aload_n (pc := 97) (k := 0) (v := .ref 621) trivial (by decide +kernel) (by exact e53) ?_
      refine ev_r_getC (pc := 98) (y := 258) (ci := 13) (f := 115) (fin := 1) (k' := 703) (by decide +kernel) (by decide +kernel) (by exact ev_ob_621) rfl rfl ?_
      refine ev_r_iload (pc := 101) (k := 4) (v := Int32.ofInt x3) (by decide +kernel) (by exact e56) ?_
      refine ev_r_iconst (pc := 103) (k := 1) (by decide +kernel) ?_
      refine ev_r_iadd (pc := 104) (by decide +kernel) ?_
      intro x86 hx86
      refine ev_r_iald (pc := 105) hx86 (by decide +kernel) (by exact ev_ab_703) ?_
      intro x87 hx87
      refine ev_r_goto (pc := 106) (o := 7) (t := 113) (by decide +kernel) (by decide +kernel) ?_
      exact hK113 x87 hx87 x51 hx51 s58 _ (by exact e53) (by exact e54) (by exact e55) (by exact e56) (by exact e57)
theorem jlt_360_89 (d : Nat) (hd : 1 ≤ d + 1) (Q : Nat) (a0 : Int) (x3 : Int) (ha0 : ev_rng a0) (hx3 : ev_rng x3) (K7 : Int → Int → Int → ev_St → Option ((Unit) × ev_St)) (hK7 : ∀ (x1 : Int) (hx1 : ev_rng x1), ∀ (x2 : Int) (hx2 : ev_rng x2), ∀ (x3 : Int) (hx3 : ev_rng x3), ∀ (s10 : ev_St) (w4 : List (Nat × Value)), ev_lk w4 0 = some (.ref 621) → ev_lk w4 1 = some (.int (Int32.ofInt a0)) → ev_lk w4 2 = some (.int (Int32.ofInt x1)) → ev_lk w4 3 = some (.int (Int32.ofInt x2)) → ev_lk w4 4 = some (.int (Int32.ofInt x3)) → ev_w none (ev_Mof 360) d 7 w4 [] s10 (K7 x1 x2 x3 s10) ev_eU ev_PU) : ∀ q : Nat, ∀ (x50 : Int) (hx50 : ev_rng x50), ∀ (x51 : Int) (hx51 : ev_rng x51), ∀ (s58 : ev_St) (w52 : List (Nat × Value)), ev_lk w52 0 = some (.ref 621) → ev_lk w52 1 = some (.int (Int32.ofInt a0)) → ev_lk w52 2 = some (.int (Int32.ofInt x50)) → ev_lk w52 4 = some (.int (Int32.ofInt x3)) → ev_lk w52 6 = some (.int (Int32.ofInt x51)) → ev_w none (ev_Mof 360) d 89 w52 [] s58 (jl_360_89 Q a0 x3 K7 q x50 x51 s58) ev_eU ev_PU := by
  intro q
  induction q with
  | zero =>
    intro x50 hx50 x51 hx51 s58 w52 e53 e54 e55 e56 e57
    exact ev_w_none
  | succ q ih => exact jbt_360_89 d hd Q a0 x3 ha0 hx3 K7 hK7 _ ih
def jb_360_38 (Q : Nat) (a0 : Int) (x3 : Int) (K7 : Int → Int → Int → ev_St → Option ((Unit) × ev_St)) (K38 : Int → Int → Int → ev_St → Option ((Unit) × ev_St)) (x31 : Int) (x32 : Int) (x33 : Int) (s41 : ev_St) : Option ((Unit) × ev_St) := if x32 ≤ x33 then (ev_jn (fun (x43 : Int) (s49 : ev_St) => jl_360_89 Q a0 x3 K7 Q x31 x43 s49) fun K87 => if a0 ≤ x3 then (ev_b (s41.1 621 113) fun x89 => K87 x89 s41) else (ev_if ((0 : Int) ≤ x3 ∧ x3 < (ev_aln 703 : Int)) (ev_b (s41.1 703 (Int.toNat x3)) fun x90 => K87 x90 s41))) else (ev_if ((0 : Int) ≤ x33 ∧ x33 < (ev_aln 678 : Int)) (ev_b (s41.1 678 (Int.toNat x33)) fun x91 => ev_if ((0 : Int) ≤ x31 ∧ x31 < (ev_aln 706 : Int)) (ev_b (ev_pI s41 706 (Int.toNat x31) x91) fun s92 => ev_ck (x31 + 1) fun x93 => ev_ck (x33 + 1) fun x94 => K38 x93 x32 x94 s92)))
def jl_360_38 (Q : Nat) (a0 : Int) (x3 : Int) (K7 : Int → Int → Int → ev_St → Option ((Unit) × ev_St)) : Nat → Int → Int → Int → ev_St → Option ((Unit) × ev_St)
  | 0 => fun _ _ _ _ => none
  | q + 1 => jb_360_38 Q a0 x3 K7 (jl_360_38 Q a0 x3 K7 q)
theorem jbt_360_38 (d : Nat) (hd : 1 ≤ d + 1) (Q : Nat) (a0 : Int) (x3 : Int) (ha0 : ev_rng a0) (hx3 : ev_rng x3) (K7 : Int → Int → Int → ev_St → Option ((Unit) × ev_St)) (hK7 : ∀ (x1 : Int) (hx1 : ev_rng x1), ∀ (x2 : Int) (hx2 : ev_rng x2), ∀ (x3 : Int) (hx3 : ev_rng x3), ∀ (s10 : ev_St) (w4 : List (Nat × Value)), ev_lk w4 0 = some (.ref 621) → ev_lk w4 1 = some (.int (Int32.ofInt a0)) → ev_lk w4 2 = some (.int (Int32.ofInt x1)) → ev_lk w4 3 = some (.int (Int32.ofInt x2)) → ev_lk w4 4 = some (.int (Int32.ofInt x3)) → ev_w none (ev_Mof 360) d 7 w4 [] s10 (K7 x1 x2 x3 s10) ev_eU ev_PU) (K38 : Int → Int → Int → ev_St → Option ((Unit) × ev_St)) (hK38 : ∀ (x31 : Int) (hx31 : ev_rng x31), ∀ (x32 : Int) (hx32 : ev_rng x32), ∀ (x33 : Int) (hx33 : ev_rng x33), ∀ (s41 : ev_St) (w34 : List (Nat × Value)), ev_lk w34 0 = some (.ref 621) → ev_lk w34 1 = some (.int (Int32.ofInt a0)) → ev_lk w34 2 = some (.int (Int32.ofInt x31)) → ev_lk w34 4 = some (.int (Int32.ofInt x3)) → ev_lk w34 5 = some (.int (Int32.ofInt x32)) → ev_lk w34 6 = some (.int (Int32.ofInt x33)) → ev_w none (ev_Mof 360) d 38 w34 [] s41 (K38 x31 x32 x33 s41) ev_eU ev_PU) : ∀ (x31 : Int) (hx31 : ev_rng x31), ∀ (x32 : Int) (hx32 : ev_rng x32), ∀ (x33 : Int) (hx33 : ev_rng x33), ∀ (s41 : ev_St) (w34 : List (Nat × Value)), ev_lk w34 0 = some (.ref 621) → ev_lk w34 1 = some (.int (Int32.ofInt a0)) → ev_lk w34 2 = some (.int (Int32.ofInt x31)) → ev_lk w34 4 = some (.int (Int32.ofInt x3)) → ev_lk w34 5 = some (.int (Int32.ofInt x32)) → ev_lk w34 6 = some (.int (Int32.ofInt x33)) → ev_w none (ev_Mof 360) d 38 w34 [] s41 (jb_360_38 Q a0 x3 K7 K38 x31 x32 x33 s41) ev_eU ev_PU := by
  intro x31 hx31 x32 hx32 x33 hx33 s41 w34 e35 e36 e37 e38 e39 e40
  unfold jb_360_38
  refine ev_r_iload (pc := 38) (k := 6) (v := Int32.ofInt x33) (by decide +kernel) (by exact e40) ?_
  refine ev_r_iload (pc := 40) (k := 5) (v := Int32.ofInt x32) (by decide +kernel) (by exact e39) ?_
  refine ev_r_icmp (pc := 42) (q := .ge) (o := 25) (t := 67) (c := x32 ≤ x33) (by decide +kernel) (ev_k_ge hx33 hx32) (by decide +kernel) ?_ ?_
  · intro c42
    refine ev_r_iload (pc := 67) (k := 4) (v := Int32.ofInt x3) (by decide +kernel) (by exact e38) ?_
    refine ev_r_iload_n (pc := 69) (k := 1) (v := Int32.ofInt a0) (by decide +kernel) (by exact e36) ?_
    refine ev_r_jn (Q := fun K => ∀ (x43 : Int) (hx43 : ev_rng x43), ∀ (s49 : ev_St) (w44 : List (Nat × Value)), ev_lk w44 0 = some (.ref 621) → ev_lk w44 1 = some (.int (Int32.ofInt a0)) → ev_lk w44 2 = some (.int (Int32.ofInt x31)) → ev_lk w44 4 = some (.int (Int32.ofInt x3)) → ev_w none (ev_Mof 360) d 87 w44 [.int (Int32.ofInt x43)] s49 (K x43 s49) ev_eU ev_PU) ?_ ?_
    · intro x43 hx43 s49 w44 e45 e46 e47 e48
      refine ev_r_istore (pc := 87) (k := 6) (by decide +kernel) (by decide +kernel) rfl ?_
      exact jlt_360_89 d hd Q a0 x3 ha0 hx3 K7 hK7 Q x31 hx31 x43 hx43 s49 _ (by exact (ev_l1 e45 (by decide) (by decide))) (by exact (ev_l1 e46 (by decide) (by decide))) (by exact (ev_l1 e47 (by decide) (by decide))) (by exact (ev_l1 e48 (by decide) (by decide))) (by exact ev_lk_st1_self)
    · intro K87 hK87
      refine ev_r_icmp (pc := 70) (q := .ge) (o := 13) (t := 83) (c := a0 ≤ x3) (by decide +kernel) (ev_k_ge hx3 ha0) (by decide +kernel) ?_ ?_
      · intro c88
        refine ev_r_aload_n (pc := 83) (k := 0) (v := .ref 621) trivial (by decide +kernel) (by exact e35) ?_
        refine ev_r_getI (pc := 84) (y := 748) (ci := 13) (f := 113) (fin := 0) (by decide +kernel) (by decide +kernel) (by exact ev_ob_621) rfl ?_
        intro x89 hx89
        exact hK87 x89 hx89 s41 _ (by exact e35) (by exact e36) (by exact e37) (by exact e38)
      · intro c88
        refine ev_r_aload_n (pc := 73) (k := 0) (v := .ref 621) trivial (by decide +kernel) (by exact e35) ?_
        refine ev_r_getC (pc := 74) (y := 258) (ci := 13) (f := 115) (fin := 1) (k' := 703) (by decide +kernel) (by decide +kernel) (by exact ev_ob_621) rfl rfl ?_
        refine ev_r_iload (pc := 77) (k := 4) (v := Int32.ofInt x3) (by decide +kernel) (by exact e38) ?_
        refine ev_r_iald (pc := 79) hx3 (by decide +kernel) (by exact ev_ab_703) ?_
        intro x90 hx90
        refine ev_r_goto (pc := 80) (o := 7) (t := 87) (by decide +kernel) (by decide +kernel) ?_
        exact hK87 x90 hx90 s41 _ (by exact e35) (by exact e36) (by exact e37) (by exact e38)
  · intro c42
    refine ev_r_aload_n (pc := 45) (k := 0) (v := .ref 621) trivial (by decide +kernel) (by exact e35) ?_
    refine ev_r_getC (pc := 46) (y := 267) (ci := 13) (f := 118) (fin := 1) (k' := 706) (by decide +kernel) (by decide +kernel) (by exact ev_ob_621) rfl rfl ?_
    refine ev_r_iload_n (pc := 49) (k := 2) (v := Int32.ofInt x31) (by decide +kernel) (by exact e37) ?_
    refine ev_r_aload_n (pc := 50) (k := 0) (v := .ref 621) trivial (by decide +kernel) (by exact e35) ?_
    refine ev_r_getC (pc := 51) (y := 181) (ci := 13) (f := 74) (fin := 1) (k' := 678) (by decide +kernel) (by decide +kernel) (by exact ev_ob_621) rfl rfl ?_
    refine ev_r_iload (pc := 54) (k := 6) (v := Int32.ofInt x33) (by decide +kernel) (by exact e40) ?_
    refine ev_r_iald (pc := 56) hx33 (by decide +kernel) (by exact ev_ab_678) ?_
    intro x91 hx91
    refine ev_r_iast (pc := 57) hx91 hx31 (by decide +kernel) (by exact ev_ab_706) ?_
    intro s92
    refine ev_r_iinc (pc := 58) (k := 2) (c := 1) (x := x31) (by decide +kernel) (by decide +kernel) (by exact e37) (fun _ => rfl) ?_
    intro x93 hx93
    refine ev_r_iinc (pc := 61) (k := 6) (c := 1) (x := x33) (by decide +kernel) (by decide +kernel) (by exact (ev_l1 e40 (by decide) (by decide))) (fun _ => rfl) ?_
    intro x94 hx94
    refine ev_r_goto (pc := 64) (o := (-26)) (t := 38) (by decide +kernel) (by decide +kernel) ?_
    exact hK38 x93 hx93 x32 hx32 x94 hx94 s92 _ (by exact (ev_l1 (ev_l1 e35 (by decide) (by decide)) (by decide) (by decide))) (by exact (ev_l1 (ev_lk_st1 e36 (by decide) rfl) (by decide) (by decide))) (by exact (ev_l1 ev_lk_st1_self (by decide) (by decide))) (by exact (ev_l1 (ev_l1 e38 (by decide) (by decide)) (by decide) (by decide))) (by exact (ev_lk_st1 (ev_l1 e39 (by decide) (by decide)) (by decide) rfl)) (by exact ev_lk_st1_self)
theorem jlt_360_38 (d : Nat) (hd : 1 ≤ d + 1) (Q : Nat) (a0 : Int) (x3 : Int) (ha0 : ev_rng a0) (hx3 : ev_rng x3) (K7 : Int → Int → Int → ev_St → Option ((Unit) × ev_St)) (hK7 : ∀ (x1 : Int) (hx1 : ev_rng x1), ∀ (x2 : Int) (hx2 : ev_rng x2), ∀ (x3 : Int) (hx3 : ev_rng x3), ∀ (s10 : ev_St) (w4 : List (Nat × Value)), ev_lk w4 0 = some (.ref 621) → ev_lk w4 1 = some (.int (Int32.ofInt a0)) → ev_lk w4 2 = some (.int (Int32.ofInt x1)) → ev_lk w4 3 = some (.int (Int32.ofInt x2)) → ev_lk w4 4 = some (.int (Int32.ofInt x3)) → ev_w none (ev_Mof 360) d 7 w4 [] s10 (K7 x1 x2 x3 s10) ev_eU ev_PU) : ∀ q : Nat, ∀ (x31 : Int) (hx31 : ev_rng x31), ∀ (x32 : Int) (hx32 : ev_rng x32), ∀ (x33 : Int) (hx33 : ev_rng x33), ∀ (s41 : ev_St) (w34 : List (Nat × Value)), ev_lk w34 0 = some (.ref 621) → ev_lk w34 1 = some (.int (Int32.ofInt a0)) → ev_lk w34 2 = some (.int (Int32.ofInt x31)) → ev_lk w34 4 = some (.int (Int32.ofInt x3)) → ev_lk w34 5 = some (.int (Int32.ofInt x32)) → ev_lk w34 6 = some (.int (Int32.ofInt x33)) → ev_w none (ev_Mof 360) d 38 w34 [] s41 (jl_360_38 Q a0 x3 K7 q x31 x32 x33 s41) ev_eU ev_PU := by
  intro q
  induction q with
  | zero =>
    intro x31 hx31 x32 hx32 x33 hx33 s41 w34 e35 e36 e37 e38 e39 e40
    exact ev_w_none
  | succ q ih => exact jbt_360_38 d hd Q a0 x3 ha0 hx3 K7 hK7 _ ih
def jb_360_7 (Q : Nat) (a0 : Int)  (K7 : Int → Int → Int → ev_St → Option ((Unit) × ev_St)) (x1 : Int) (x2 : Int) (x3 : Int) (s10 : ev_St) : Option ((Unit) × ev_St) := if a0 < x3 then (ev_b (ev_pI s10 621 73 x1) fun s12 => jl_360_173 Q x1  Q 0 s12) else (ev_jn (fun (x23 : Int) (s30 : ev_St) => jl_360_38 Q a0 x3 K7 Q x1 x23 x2 s30) fun K33 => if a0 ≤ x3 then (ev_b (s10.1 621 73) fun x96 => K33 x96 s10) else (ev_if ((0 : Int) ≤ x3 ∧ x3 < (ev_aln 704 : Int)) (ev_b (s10.1 704 (Int.toNat x3)) fun x97 => K33 x97 s10)))
def jl_360_7 (Q : Nat) (a0 : Int)  : Nat → Int → Int → Int → ev_St → Option ((Unit) × ev_St)
  | 0 => fun _ _ _ _ => none
  | q + 1 => jb_360_7 Q a0  (jl_360_7 Q a0  q)
theorem jbt_360_7 (d : Nat) (hd : 1 ≤ d + 1) (Q : Nat) (a0 : Int) (ha0 : ev_rng a0)   (K7 : Int → Int → Int → ev_St → Option ((Unit) × ev_St)) (hK7 : ∀ (x1 : Int) (hx1 : ev_rng x1), ∀ (x2 : Int) (hx2 : ev_rng x2), ∀ (x3 : Int) (hx3 : ev_rng x3), ∀ (s10 : ev_St) (w4 : List (Nat × Value)), ev_lk w4 0 = some (.ref 621) → ev_lk w4 1 = some (.int (Int32.ofInt a0)) → ev_lk w4 2 = some (.int (Int32.ofInt x1)) → ev_lk w4 3 = some (.int (Int32.ofInt x2)) → ev_lk w4 4 = some (.int (Int32.ofInt x3)) → ev_w none (ev_Mof 360) d 7 w4 [] s10 (K7 x1 x2 x3 s10) ev_eU ev_PU) : ∀ (x1 : Int) (hx1 : ev_rng x1), ∀ (x2 : Int) (hx2 : ev_rng x2), ∀ (x3 : Int) (hx3 : ev_rng x3), ∀ (s10 : ev_St) (w4 : List (Nat × Value)), ev_lk w4 0 = some (.ref 621) → ev_lk w4 1 = some (.int (Int32.ofInt a0)) → ev_lk w4 2 = some (.int (Int32.ofInt x1)) → ev_lk w4 3 = some (.int (Int32.ofInt x2)) → ev_lk w4 4 = some (.int (Int32.ofInt x3)) → ev_w none (ev_Mof 360) d 7 w4 [] s10 (jb_360_7 Q a0  K7 x1 x2 x3 s10) ev_eU ev_PU := by
  intro x1 hx1 x2 hx2 x3 hx3 s10 w4 e5 e6 e7 e8 e9
  unfold jb_360_7
  refine ev_r_iload (pc := 7) (k := 4) (v := Int32.ofInt x3) (by decide +kernel) (by exact e9) ?_
  refine ev_r_iload_n (pc := 9) (k := 1) (v := Int32.ofInt a0) (by decide +kernel) (by exact e6) ?_
  refine ev_r_icmp (pc := 10) (q := .gt) (o := 155) (t := 165) (c := a0 < x3) (by decide +kernel) (ev_k_gt hx3 ha0) (by decide +kernel) ?_ ?_
  · intro c11
    refine ev_r_aload_n (pc := 165) (k := 0) (v := .ref 621) trivial (by decide +kernel) (by exact e5) ?_
    refine ev_r_iload_n (pc := 166) (k := 2) (v := Int32.ofInt x1) (by decide +kernel) (by exact e7) ?_
    refine ev_r_putI (pc := 167) (y := 567) (ci := 13) (f := 73) hx1 (by decide +kernel) (by decide +kernel) (by exact ev_ob_621) rfl rfl ?_
    intro s12
    refine ev_r_iconst (pc := 170) (k := 0) (by decide +kernel) ?_
    refine ev_r_istore (pc := 171) (k := 4) (by decide +kernel) (by decide +kernel) rfl ?_
    exact jlt_360_173 d hd Q x1 hx1   Q 0 (by decide) s12 _ (by exact (ev_l1 e5 (by decide) (by decide))) (by exact (ev_l1 e7 (by decide) (by decide))) (by exact ev_lk_st1_self)
  · intro c11
    refine ev_r_iload (pc := 13) (k := 4) (v := Int32.ofInt x3) (by decide +kernel) (by exact e9) ?_
    refine ev_r_iload_n (pc := 15) (k := 1) (v := Int32.ofInt a0) (by decide +kernel) (by exact e6) ?_
    refine ev_r_jn (Q := fun K => ∀ (x23 : Int) (hx23 : ev_rng x23), ∀ (s30 : ev_St) (w24 : List (Nat × Value)), ev_lk w24 0 = some (.ref 621) → ev_lk w24 1 = some (.int (Int32.ofInt a0)) → ev_lk w24 2 = some (.int (Int32.ofInt x1)) → ev_lk w24 3 = some (.int (Int32.ofInt x2)) → ev_lk w24 4 = some (.int (Int32.ofInt x3)) → ev_w none (ev_Mof 360) d 33 w24 [.int (Int32.ofInt x23)] s30 (K x23 s30) ev_eU ev_PU) ?_ ?_
    · intro x23 hx23 s30 w24 e25 e26 e27 e28 e29
      refine ev_r_istore (pc := 33) (k := 5) (by decide +kernel) (by decide +kernel) rfl ?_
      refine ev_r_iload_n (pc := 35) (k := 3) (v := Int32.ofInt x2) (by decide +kernel) (by exact (ev_l1 e28 (by decide) (by decide))) ?_
      refine ev_r_istore (pc := 36) (k := 6) (by decide +kernel) (by decide +kernel) rfl ?_
      exact jlt_360_38 d hd Q a0 x3 ha0 hx3 K7 hK7 Q x1 hx1 x23 hx23 x2 hx2 s30 _ (by exact (ev_l1 (ev_l1 e25 (by decide) (by decide)) (by decide) (by decide))) (by exact (ev_l1 (ev_l1 e26 (by decide) (by decide)) (by decide) (by decide))) (by exact (ev_l1 (ev_l1 e27 (by decide) (by decide)) (by decide) (by decide))) (by exact (ev_l1 (ev_lk_st1 e29 (by decide) rfl) (by decide) (by decide))) (by exact (ev_lk_st1 ev_lk_st1_self (by decide) rfl)) (by exact ev_lk_st1_self)
    · intro K33 hK33
      refine ev_r_icmp (pc := 16) (q := .ge) (o := 13) (t := 29) (c := a0 ≤ x3) (by decide +kernel) (ev_k_ge hx3 ha0) (by decide +kernel) ?_ ?_
      · intro c95
        refine ev_r_aload_n (pc := 29) (k := 0) (v := .ref 621) trivial (by decide +kernel) (by exact e5) ?_
        refine ev_r_getI (pc := 30) (y := 567) (ci := 13) (f := 73) (fin := 0) (by decide +kernel) (by decide +kernel) (by exact ev_ob_621) rfl ?_
        intro x96 hx96
        exact hK33 x96 hx96 s10 _ (by exact e5) (by exact e6) (by exact e7) (by exact e8) (by exact e9)
      · intro c95
        refine ev_r_aload_n (pc := 19) (k := 0) (v := .ref 621) trivial (by decide +kernel) (by exact e5) ?_
        refine ev_r_getC (pc := 20) (y := 261) (ci := 13) (f := 116) (fin := 1) (k' := 704) (by decide +kernel) (by decide +kernel) (by exact ev_ob_621) rfl rfl ?_
        refine ev_r_iload (pc := 23) (k := 4) (v := Int32.ofInt x3) (by decide +kernel) (by exact e9) ?_
        refine ev_r_iald (pc := 25) hx3 (by decide +kernel) (by exact ev_ab_704) ?_
        intro x97 hx97
        refine ev_r_goto (pc := 26) (o := 7) (t := 33) (by decide +kernel) (by decide +kernel) ?_
        exact hK33 x97 hx97 s10 _ (by exact e5) (by exact e6) (by exact e7) (by exact e8) (by exact e9)
theorem jlt_360_7 (d : Nat) (hd : 1 ≤ d + 1) (Q : Nat) (a0 : Int) (ha0 : ev_rng a0)   : ∀ q : Nat, ∀ (x1 : Int) (hx1 : ev_rng x1), ∀ (x2 : Int) (hx2 : ev_rng x2), ∀ (x3 : Int) (hx3 : ev_rng x3), ∀ (s10 : ev_St) (w4 : List (Nat × Value)), ev_lk w4 0 = some (.ref 621) → ev_lk w4 1 = some (.int (Int32.ofInt a0)) → ev_lk w4 2 = some (.int (Int32.ofInt x1)) → ev_lk w4 3 = some (.int (Int32.ofInt x2)) → ev_lk w4 4 = some (.int (Int32.ofInt x3)) → ev_w none (ev_Mof 360) d 7 w4 [] s10 (jl_360_7 Q a0  q x1 x2 x3 s10) ev_eU ev_PU := by
  intro q
  induction q with
  | zero =>
    intro x1 hx1 x2 hx2 x3 hx3 s10 w4 e5 e6 e7 e8 e9
    exact ev_w_none
  | succ q ih => exact jbt_360_7 d hd Q a0 ha0   _ ih
/-- MendBenchModel.tries1(I)V -/
def jm_360 (Q : Nat) (a0 : Int) (S : ev_St) : Option ((Unit) × ev_St) := jl_360_7 Q a0  Q 0 0 0 S
theorem jt_360 (d : Nat) (hd : 1 ≤ d) (Q : Nat) (a0 : Int) (ha0 : ev_rng a0) (S : ev_St) (x : Unit) (S' : ev_St) (hJ : jm_360 Q a0 S = some (x, S')) : ev_Ref d 360 [.ref 621, .int (Int32.ofInt a0)] S (ev_eU x) S' (ev_PU x) := by
  obtain ⟨d, rfl⟩ : ∃ e, d = e + 1 := ⟨d - 1, by omega⟩
  refine ev_ref_of (P := ev_PU) (lv := [(0, .ref 621), (1, .int (Int32.ofInt a0))]) (by decide +kernel) (by (try simp only [ev_sum, ev_nv_cat]); first | done | rfl) (by (try simp only [lv_args, ev_nv_cat]); first | done | rfl) ?_ x S' hJ
  unfold jm_360
  refine ev_r_iconst (pc := 0) (k := 0) (by decide +kernel) ?_
  refine ev_r_istore_n (pc := 1) (k := 2) (by decide +kernel) (by decide +kernel) rfl ?_
  refine ev_r_iconst (pc := 2) (k := 0) (by decide +kernel) ?_
  refine ev_r_istore_n (pc := 3) (k := 3) (by decide +kernel) (by decide +kernel) rfl ?_
  refine ev_r_iconst (pc := 4) (k := 0) (by decide +kernel) ?_
  refine ev_r_istore (pc := 5) (k := 4) (by decide +kernel) (by decide +kernel) rfl ?_
  exact jlt_360_7 d hd Q a0 ha0   Q 0 (by decide) 0 (by decide) 0 (by decide) S _ (by exact (ev_l1 (ev_l1 (ev_l1 (by rfl) (by decide) (by decide)) (by decide) (by decide)) (by decide) (by decide))) (by exact (ev_l1 (ev_l1 (ev_lk_st1 (by rfl) (by decide) rfl) (by decide) (by decide)) (by decide) (by decide))) (by exact (ev_l1 (ev_lk_st1 ev_lk_st1_self (by decide) rfl) (by decide) (by decide))) (by exact (ev_lk_st1 ev_lk_st1_self (by decide) rfl)) (by exact ev_lk_st1_self)
def jb_361_127 (Q : Nat) (a0 : Int) (a1 : Int)  (K127 : Int → Int → ev_St → Option ((Int) × ev_St)) (x29 : Int) (x30 : Int) (s37 : ev_St) : Option ((Int) × ev_St) := ev_ck (30 * a0) fun x38 => ev_if ((0 : Int) ≤ a0 ∧ a0 < (ev_aln 716 : Int)) (ev_b (s37.1 716 (Int.toNat a0)) fun x39 => ev_ck (3 * x39) fun x40 => ev_ck (x38 + x40) fun x41 => if x41 ≤ x30 then (ev_bd (jm_345 Q  s37) fun _ s43 => some (x29, s43)) else (ev_bd (jm_288 Q a1 s37) fun _ s44 => ev_if ((0 : Int) ≤ x30 ∧ x30 < (ev_aln 717 : Int)) (ev_b (s44.1 717 (Int.toNat x30)) fun x45 => ev_ck (x30 + 1) fun x46 => ev_if ((0 : Int) ≤ x46 ∧ x46 < (ev_aln 717 : Int)) (ev_b (s44.1 717 (Int.toNat x46)) fun x47 => ev_ck (x30 + 2) fun x48 => ev_if ((0 : Int) ≤ x48 ∧ x48 < (ev_aln 717 : Int)) (ev_b (s44.1 717 (Int.toNat x48)) fun x49 => ev_bd (jm_349 Q x45 x47 x49 s44) fun x51 s50 => ev_bd (jm_350 Q a1 x51 s50) fun _ s52 => ev_ck (x29 + x51) fun x53 => ev_ck (x30 + 3) fun x54 => K127 x53 x54 s52)))))
def jl_361_127 (Q : Nat) (a0 : Int) (a1 : Int)  : Nat → Int → Int → ev_St → Option ((Int) × ev_St)
  | 0 => fun _ _ _ => none
  | q + 1 => jb_361_127 Q a0 a1  (jl_361_127 Q a0 a1  q)
theorem jbt_361_127 (d : Nat) (hd : 11 ≤ d + 1) (Q : Nat) (a0 : Int) (a1 : Int) (ha0 : ev_rng a0) (ha1 : ev_rng a1)   (K127 : Int → Int → ev_St → Option ((Int) × ev_St)) (hK127 : ∀ (x29 : Int) (hx29 : ev_rng x29), ∀ (x30 : Int) (hx30 : ev_rng x30), ∀ (s37 : ev_St) (w31 : List (Nat × Value)), ev_lk w31 0 = some (.ref 621) → ev_lk w31 1 = some (.int (Int32.ofInt a0)) → ev_lk w31 2 = some (.int (Int32.ofInt a1)) → ev_lk w31 3 = some (.int (Int32.ofInt x29)) → ev_lk w31 4 = some (.int (Int32.ofInt x30)) → ev_w none (ev_Mof 361) d 127 w31 [] s37 (K127 x29 x30 s37) ev_eI ev_rng) : ∀ (x29 : Int) (hx29 : ev_rng x29), ∀ (x30 : Int) (hx30 : ev_rng x30), ∀ (s37 : ev_St) (w31 : List (Nat × Value)), ev_lk w31 0 = some (.ref 621) → ev_lk w31 1 = some (.int (Int32.ofInt a0)) → ev_lk w31 2 = some (.int (Int32.ofInt a1)) → ev_lk w31 3 = some (.int (Int32.ofInt x29)) → ev_lk w31 4 = some (.int (Int32.ofInt x30)) → ev_w none (ev_Mof 361) d 127 w31 [] s37 (jb_361_127 Q a0 a1  K127 x29 x30 s37) ev_eI ev_rng := by
  intro x29 hx29 x30 hx30 s37 w31 e32 e33 e34 e35 e36
  unfold jb_361_127
  refine ev_r_iload (pc := 127) (k := 4) (v := Int32.ofInt x30) (by decide +kernel) (by exact e36) ?_
  refine ev_r_bipush (pc := 129) (k := 30) (by decide +kernel) (by decide +kernel) ?_
  refine ev_r_iload_n (pc := 131) (k := 1) (v := Int32.ofInt a0) (by decide +kernel) (by exact e33) ?_
  refine ev_r_imul (pc := 132) (by decide +kernel) ?_
  intro x38 hx38
  refine ev_r_iconst (pc := 133) (k := 3) (by decide +kernel) ?_
  refine ev_r_aload_n (pc := 134) (k := 0) (v := .ref 621) trivial (by decide +kernel) (by exact e32) ?_
  refine ev_r_getC (pc := 135) (y := 300) (ci := 13) (f := 137) (fin := 1) (k' := 716) (by decide +kernel) (by decide +kernel) (by exact ev_ob_621) rfl rfl ?_
  refine ev_r_iload_n (pc := 138) (k := 1) (v := Int32.ofInt a0) (by decide +kernel) (by exact e33) ?_
  refine ev_r_iald (pc := 139) ha0 (by decide +kernel) (by exact ev_ab_716) ?_
  intro x39 hx39
  refine ev_r_imul (pc := 140) (by decide +kernel) ?_
  intro x40 hx40
  refine ev_r_iadd (pc := 141) (by decide +kernel) ?_
  intro x41 hx41
  refine ev_r_icmp (pc := 142) (q := .ge) (o := 57) (t := 199) (c := x41 ≤ x30) (by decide +kernel) (ev_k_ge hx30 hx41) (by decide +kernel) ?_ ?_
  · intro c42
    refine ev_r_aload_n (pc := 199) (k := 0) (v := .ref 621) trivial (by decide +kernel) (by exact e32) ?_
    refine ev_r_virt (pc := 200) (y := 793) (mi := 345) (na := 0) (k := 621) (as := []) (rest := []) (encc := ev_oU) (Q := ev_PU) (fun x S1 h => jt_345 d (by omega) Q   s37 x S1 h) (by exact ev_ob_621) (by decide +kernel) (by decide +kernel) (by decide +kernel) (by decide +kernel) rfl (by (try simp only [ev_sum, ev_nv_cat]); first | done | rfl) ?_
    intro _ s43 _
    show ev_w _ _ _ _ _ [] _ _ _ _
    refine ev_r_iload_n (pc := 203) (k := 3) (v := Int32.ofInt x29) (by decide +kernel) (by exact e35) ?_
    exact ev_r_ireturn (pc := 204) (x := x29) (v := Int32.ofInt x29) (ty := .int) hx29 (by decide +kernel) (by decide +kernel) rfl rfl
  · intro c42
    refine ev_r_aload_n (pc := 145) (k := 0) (v := .ref 621) trivial (by decide +kernel) (by exact e32) ?_
    refine ev_r_iload_n (pc := 146) (k := 2) (v := Int32.ofInt a1) (by decide +kernel) (by exact e34) ?_
    refine ev_r_virt (pc := 147) (y := 722) (mi := 288) (na := 1) (k := 621) (as := [.int (Int32.ofInt a1)]) (rest := []) (encc := ev_oU) (Q := ev_PU) (fun x S1 h => jt_288 d (by omega) Q a1 ha1 s37 x S1 h) (by exact ev_ob_621) (by decide +kernel) (by decide +kernel) (by decide +kernel) (by decide +kernel) rfl (by (try simp only [ev_sum, ev_nv_cat]); first | done | rfl) ?_
    intro _ s44 _
    show ev_w _ _ _ _ _ [] _ _ _ _
    refine ev_r_aload_n (pc := 150) (k := 0) (v := .ref 621) trivial (by decide +kernel) (by exact e32) ?_
    refine ev_r_aload_n (pc := 151) (k := 0) (v := .ref 621) trivial (by decide +kernel) (by exact e32) ?_
    refine ev_r_getC (pc := 152) (y := 303) (ci := 13) (f := 138) (fin := 1) (k' := 717) (by decide +kernel) (by decide +kernel) (by exact ev_ob_621) rfl rfl ?_
    refine ev_r_iload (pc := 155) (k := 4) (v := Int32.ofInt x30) (by decide +kernel) (by exact e36) ?_
    refine ev_r_iald (pc := 157) hx30 (by decide +kernel) (by exact ev_ab_717) ?_
    intro x45 hx45
    refine ev_r_aload_n (pc := 158) (k := 0) (v := .ref 621) trivial (by decide +kernel) (by exact e32) ?_
    refine ev_r_getC (pc := 159) (y := 303) (ci := 13) (f := 138) (fin := 1) (k' := 717) (by decide +kernel) (by decide +kernel) (by exact ev_ob_621) rfl rfl ?_
    refine ev_r_iload (pc := 162) (k := 4) (v := Int32.ofInt x30) (by decide +kernel) (by exact e36) ?_
    refine ev_r_iconst (pc := 164) (k := 1) (by decide +kernel) ?_
    refine ev_r_iadd (pc := 165) (by decide +kernel) ?_
    intro x46 hx46
    refine ev_r_iald (pc := 166) hx46 (by decide +kernel) (by exact ev_ab_717) ?_
    intro x47 hx47
    refine ev_r_aload_n (pc := 167) (k := 0) (v := .ref 621) trivial (by decide +kernel) (by exact e32) ?_
    refine ev_r_getC (pc := 168) (y := 303) (ci := 13) (f := 138) (fin := 1) (k' := 717) (by decide +kernel) (by decide +kernel) (by exact ev_ob_621) rfl rfl ?_
    refine ev_r_iload (pc := 171) (k := 4) (v := Int32.ofInt x30) (by decide +kernel) (by exact e36) ?_
    refine ev_r_iconst (pc := 173) (k := 2) (by decide +kernel) ?_
    refine ev_r_iadd (pc := 174) (by decide +kernel) ?_
    intro x48 hx48
    refine ev_r_iald (pc := 175) hx48 (by decide +kernel) (by exact ev_ab_717) ?_
    intro x49 hx49
    refine ev_r_virt (pc := 176) (y := 805) (mi := 349) (na := 3) (k := 621) (as := [.int (Int32.ofInt x45), .int (Int32.ofInt x47), .int (Int32.ofInt x49)]) (rest := []) (encc := ev_oI) (Q := ev_rng) (fun x S1 h => jt_349 d (by omega) Q x45 x47 x49 hx45 hx47 hx49 s44 x S1 h) (by exact ev_ob_621) (by decide +kernel) (by decide +kernel) (by decide +kernel) (by decide +kernel) rfl (by (try simp only [ev_sum, ev_nv_cat]); first | done | rfl) ?_
    intro x51 s50 hx51
    show ev_w _ _ _ _ _ [.int (Int32.ofInt x51)] _ _ _ _
    refine ev_r_istore (pc := 179) (k := 5) (by decide +kernel) (by decide +kernel) rfl ?_
    refine ev_r_aload_n (pc := 181) (k := 0) (v := .ref 621) trivial (by decide +kernel) (by exact (ev_l1 e32 (by decide) (by decide))) ?_
    refine ev_r_iload_n (pc := 182) (k := 2) (v := Int32.ofInt a1) (by decide +kernel) (by exact (ev_l1 e34 (by decide) (by decide))) ?_
    refine ev_r_iload (pc := 183) (k := 5) (v := Int32.ofInt x51) (by decide +kernel) (by exact ev_lk_st1_self) ?_
    refine ev_r_virt (pc := 185) (y := 809) (mi := 350) (na := 2) (k := 621) (as := [.int (Int32.ofInt a1), .int (Int32.ofInt x51)]) (rest := []) (encc := ev_oU) (Q := ev_PU) (fun x S1 h => jt_350 d (by omega) Q a1 x51 ha1 hx51 s50 x S1 h) (by exact ev_ob_621) (by decide +kernel) (by decide +kernel) (by decide +kernel) (by decide +kernel) rfl (by (try simp only [ev_sum, ev_nv_cat]); first | done | rfl) ?_
    intro _ s52 _
    show ev_w _ _ _ _ _ [] _ _ _ _
    refine ev_r_iload_n (pc := 188) (k := 3) (v := Int32.ofInt x29) (by decide +kernel) (by exact (ev_l1 e35 (by decide) (by decide))) ?_
    refine ev_r_iload (pc := 189) (k := 5) (v := Int32.ofInt x51) (by decide +kernel) (by exact ev_lk_st1_self) ?_
    refine ev_r_iadd (pc := 191) (by decide +kernel) ?_
    intro x53 hx53
    refine ev_r_istore_n (pc := 192) (k := 3) (by decide +kernel) (by decide +kernel) rfl ?_
    refine ev_r_iinc (pc := 193) (k := 4) (c := 3) (x := x30) (by decide +kernel) (by decide +kernel) (by exact (ev_l1 (ev_lk_st1 e36 (by decide) rfl) (by decide) (by decide))) (fun _ => rfl) ?_
    intro x54 hx54
    refine ev_r_goto (pc := 196) (o := (-69)) (t := 127) (by decide +kernel) (by decide +kernel) ?_
    exact hK127 x53 hx53 x54 hx54 s52 _ (by exact (ev_l1 (ev_l1 (ev_l1 e32 (by decide) (by decide)) (by decide) (by decide)) (by decide) (by decide))) (by exact (ev_l1 (ev_l1 (ev_l1 e33 (by decide) (by decide)) (by decide) (by decide)) (by decide) (by decide))) (by exact (ev_l1 (ev_lk_st1 (ev_l1 e34 (by decide) (by decide)) (by decide) rfl) (by decide) (by decide))) (by exact (ev_lk_st1 ev_lk_st1_self (by decide) rfl)) (by exact ev_lk_st1_self)
theorem jlt_361_127 (d : Nat) (hd : 11 ≤ d + 1) (Q : Nat) (a0 : Int) (a1 : Int) (ha0 : ev_rng a0) (ha1 : ev_rng a1)   : ∀ q : Nat, ∀ (x29 : Int) (hx29 : ev_rng x29), ∀ (x30 : Int) (hx30 : ev_rng x30), ∀ (s37 : ev_St) (w31 : List (Nat × Value)), ev_lk w31 0 = some (.ref 621) → ev_lk w31 1 = some (.int (Int32.ofInt a0)) → ev_lk w31 2 = some (.int (Int32.ofInt a1)) → ev_lk w31 3 = some (.int (Int32.ofInt x29)) → ev_lk w31 4 = some (.int (Int32.ofInt x30)) → ev_w none (ev_Mof 361) d 127 w31 [] s37 (jl_361_127 Q a0 a1  q x29 x30 s37) ev_eI ev_rng := by
  intro q
  induction q with
  | zero =>
    intro x29 hx29 x30 hx30 s37 w31 e32 e33 e34 e35 e36
    exact ev_w_none
  | succ q ih => exact jbt_361_127 d hd Q a0 a1 ha0 ha1   _ ih
def jb_361_50 (Q : Nat) (a0 : Int) (a1 : Int)  (K50 : Int → ev_St → Option ((Int) × ev_St)) (x16 : Int) (s22 : ev_St) : Option ((Int) × ev_St) := ev_ck (30 * a0) fun x23 => ev_if ((0 : Int) ≤ a0 ∧ a0 < (ev_aln 716 : Int)) (ev_b (s22.1 716 (Int.toNat a0)) fun x24 => ev_ck (3 * x24) fun x25 => ev_ck (x23 + x25) fun x26 => if x26 ≤ x16 then (ev_ck (30 * a0) fun x28 => jl_361_127 Q a0 a1  Q 0 x28 s22) else (ev_if ((0 : Int) ≤ x16 ∧ x16 < (ev_aln 717 : Int)) (ev_b (s22.1 717 (Int.toNat x16)) fun x55 => ev_ck (x16 + 1) fun x56 => ev_if ((0 : Int) ≤ x56 ∧ x56 < (ev_aln 717 : Int)) (ev_b (s22.1 717 (Int.toNat x56)) fun x57 => ev_ck (x16 + 2) fun x58 => ev_if ((0 : Int) ≤ x58 ∧ x58 < (ev_aln 717 : Int)) (ev_b (s22.1 717 (Int.toNat x58)) fun x59 => ev_bd (jm_349 Q x55 x57 x59 s22) fun x61 s60 => if x61 ≠ (-1) then (ev_bd (jm_360 Q x61 s60) fun _ s63 => ev_ck (x16 + 3) fun x64 => K50 x64 s63) else (ev_bd (jm_221 Q 2 s60) fun x66 s65 => some (x66, s65)))))))
def jl_361_50 (Q : Nat) (a0 : Int) (a1 : Int)  : Nat → Int → ev_St → Option ((Int) × ev_St)
  | 0 => fun _ _ => none
  | q + 1 => jb_361_50 Q a0 a1  (jl_361_50 Q a0 a1  q)
theorem jbt_361_50 (d : Nat) (hd : 11 ≤ d + 1) (Q : Nat) (a0 : Int) (a1 : Int) (ha0 : ev_rng a0) (ha1 : ev_rng a1)   (K50 : Int → ev_St → Option ((Int) × ev_St)) (hK50 : ∀ (x16 : Int) (hx16 : ev_rng x16), ∀ (s22 : ev_St) (w17 : List (Nat × Value)), ev_lk w17 0 = some (.ref 621) → ev_lk w17 1 = some (.int (Int32.ofInt a0)) → ev_lk w17 2 = some (.int (Int32.ofInt a1)) → ev_lk w17 3 = some (.int (Int32.ofInt x16)) → ev_w none (ev_Mof 361) d 50 w17 [] s22 (K50 x16 s22) ev_eI ev_rng) : ∀ (x16 : Int) (hx16 : ev_rng x16), ∀ (s22 : ev_St) (w17 : List (Nat × Value)), ev_lk w17 0 = some (.ref 621) → ev_lk w17 1 = some (.int (Int32.ofInt a0)) → ev_lk w17 2 = some (.int (Int32.ofInt a1)) → ev_lk w17 3 = some (.int (Int32.ofInt x16)) → ev_w none (ev_Mof 361) d 50 w17 [] s22 (jb_361_50 Q a0 a1  K50 x16 s22) ev_eI ev_rng := by
  intro x16 hx16 s22 w17 e18 e19 e20 e21
  unfold jb_361_50
  refine ev_r_iload_n (pc := 50) (k := 3) (v := Int32.ofInt x16) (by decide +kernel) (by exact e21) ?_
  refine ev_r_bipush (pc := 51) (k := 30) (by decide +kernel) (by decide +kernel) ?_
  refine ev_r_iload_n (pc := 53) (k := 1) (v := Int32.ofInt a0) (by decide +kernel) (by exact e19) ?_
  refine ev_r_imul (pc := 54) (by decide +kernel) ?_
  intro x23 hx23
  refine ev_r_iconst (pc := 55) (k := 3) (by decide +kernel) ?_
  refine ev_r_aload_n (pc := 56) (k := 0) (v := .ref 621) trivial (by decide +kernel) (by exact e18) ?_
  refine ev_r_getC (pc := 57) (y := 300) (ci := 13) (f := 137) (fin := 1) (k' := 716) (by decide +kernel) (by decide +kernel) (by exact ev_ob_621) rfl rfl ?_
  refine ev_r_iload_n (pc := 60) (k := 1) (v := Int32.ofInt a0) (by decide +kernel) (by exact e19) ?_
  refine ev_r_iald (pc := 61) ha0 (by decide +kernel) (by exact ev_ab_716) ?_
  intro x24 hx24
  refine ev_r_imul (pc := 62) (by decide +kernel) ?_
  intro x25 hx25
  refine ev_r_iadd (pc := 63) (by decide +kernel) ?_
  intro x26 hx26
  refine ev_r_icmp (pc := 64) (q := .ge) (o := 55) (t := 119) (c := x26 ≤ x16) (by decide +kernel) (ev_k_ge hx16 hx26) (by decide +kernel) ?_ ?_
  · intro c27
    refine ev_r_iconst (pc := 119) (k := 0) (by decide +kernel) ?_
    refine ev_r_istore_n (pc := 120) (k := 3) (by decide +kernel) (by decide +kernel) rfl ?_
    refine ev_r_bipush (pc := 121) (k := 30) (by decide +kernel) (by decide +kernel) ?_
    refine ev_r_iload_n (pc := 123) (k := 1) (v := Int32.ofInt a0) (by decide +kernel) (by exact (ev_l1 e19 (by decide) (by decide))) ?_
    refine ev_r_imul (pc := 124) (by decide +kernel) ?_
    intro x28 hx28
    refine ev_r_istore (pc := 125) (k := 4) (by decide +kernel) (by decide +kernel) rfl ?_
    exact jlt_361_127 d hd Q a0 a1 ha0 ha1   Q 0 (by decide) x28 hx28 s22 _ (by exact (ev_l1 (ev_l1 e18 (by decide) (by decide)) (by decide) (by decide))) (by exact (ev_l1 (ev_l1 e19 (by decide) (by decide)) (by decide) (by decide))) (by exact (ev_l1 (ev_lk_st1 e20 (by decide) rfl) (by decide) (by decide))) (by exact (ev_lk_st1 ev_lk_st1_self (by decide) rfl)) (by exact ev_lk_st1_self)
  · intro c27
    refine ev_r_aload_n (pc := 67) (k := 0) (v := .ref 621) trivial (by decide +kernel) (by exact e18) ?_
    refine ev_r_aload_n (pc := 68) (k := 0) (v := .ref 621) trivial (by decide +kernel) (by exact e18) ?_
    refine ev_r_getC (pc := 69) (y := 303) (ci := 13) (f := 138) (fin := 1) (k' := 717) (by decide +kernel) (by decide +kernel) (by exact ev_ob_621) rfl rfl ?_
    refine ev_r_iload_n (pc := 72) (k := 3) (v := Int32.ofInt x16) (by decide +kernel) (by exact e21) ?_
    refine ev_r_iald (pc := 73) hx16 (by decide +kernel) (by exact ev_ab_717) ?_
    intro x55 hx55
    refine ev_r_aload_n (pc := 74) (k := 0) (v := .ref 621) trivial (by decide +kernel) (by exact e18) ?_
    refine ev_r_getC (pc := 75) (y := 303) (ci := 13) (f := 138) (fin := 1) (k' := 717) (by decide +kernel) (by decide +kernel) (by exact ev_ob_621) rfl rfl ?_
    refine ev_r_iload_n (pc := 78) (k := 3) (v := Int32.ofInt x16) (by decide +kernel) (by exact e21) ?_
    refine ev_r_iconst (pc := 79) (k := 1) (by decide +kernel) ?_
    refine ev_r_iadd (pc := 80) (by decide +kernel) ?_
    intro x56 hx56
    refine ev_r_iald (pc := 81) hx56 (by decide +kernel) (by exact ev_ab_717) ?_
    intro x57 hx57
    refine ev_r_aload_n (pc := 82) (k := 0) (v := .ref 621) trivial (by decide +kernel) (by exact e18) ?_
    refine ev_r_getC (pc := 83) (y := 303) (ci := 13) (f := 138) (fin := 1) (k' := 717) (by decide +kernel) (by decide +kernel) (by exact ev_ob_621) rfl rfl ?_
    refine ev_r_iload_n (pc := 86) (k := 3) (v := Int32.ofInt x16) (by decide +kernel) (by exact e21) ?_
    refine ev_r_iconst (pc := 87) (k := 2) (by decide +kernel) ?_
    refine ev_r_iadd (pc := 88) (by decide +kernel) ?_
    intro x58 hx58
    refine ev_r_iald (pc := 89) hx58 (by decide +kernel) (by exact ev_ab_717) ?_
    intro x59 hx59
    refine ev_r_virt (pc := 90) (y := 805) (mi := 349) (na := 3) (k := 621) (as := [.int (Int32.ofInt x55), .int (Int32.ofInt x57), .int (Int32.ofInt x59)]) (rest := []) (encc := ev_oI) (Q := ev_rng) (fun x S1 h => jt_349 d (by omega) Q x55 x57 x59 hx55 hx57 hx59 s22 x S1 h) (by exact ev_ob_621) (by decide +kernel) (by decide +kernel) (by decide +kernel) (by decide +kernel) rfl (by (try simp only [ev_sum, ev_nv_cat]); first | done | rfl) ?_
    intro x61 s60 hx61
    show ev_w _ _ _ _ _ [.int (Int32.ofInt x61)] _ _ _ _
    refine ev_r_istore (pc := 93) (k := 4) (by decide +kernel) (by decide +kernel) rfl ?_
    refine ev_r_iload (pc := 95) (k := 4) (v := Int32.ofInt x61) (by decide +kernel) (by exact ev_lk_st1_self) ?_
    refine ev_r_iconst (pc := 97) (k := -1) (by decide +kernel) ?_
    refine ev_r_icmp (pc := 98) (q := .ne) (o := 9) (t := 107) (c := x61 ≠ (-1)) (by decide +kernel) (ev_k_ne hx61 (by decide)) (by decide +kernel) ?_ ?_
    · intro c62
      refine ev_r_aload_n (pc := 107) (k := 0) (v := .ref 621) trivial (by decide +kernel) (by exact (ev_l1 e18 (by decide) (by decide))) ?_
      refine ev_r_iload (pc := 108) (k := 4) (v := Int32.ofInt x61) (by decide +kernel) (by exact ev_lk_st1_self) ?_
      refine ev_r_virt (pc := 110) (y := 815) (mi := 360) (na := 1) (k := 621) (as := [.int (Int32.ofInt x61)]) (rest := []) (encc := ev_oU) (Q := ev_PU) (fun x S1 h => jt_360 d (by omega) Q x61 hx61 s60 x S1 h) (by exact ev_ob_621) (by decide +kernel) (by decide +kernel) (by decide +kernel) (by decide +kernel) rfl (by (try simp only [ev_sum, ev_nv_cat]); first | done | rfl) ?_
      intro _ s63 _
      show ev_w _ _ _ _ _ [] _ _ _ _
      refine ev_r_iinc (pc := 113) (k := 3) (c := 3) (x := x16) (by decide +kernel) (by decide +kernel) (by exact (ev_lk_st1 e21 (by decide) rfl)) (fun _ => rfl) ?_
      intro x64 hx64
      refine ev_r_goto (pc := 116) (o := (-66)) (t := 50) (by decide +kernel) (by decide +kernel) ?_
      exact hK50 x64 hx64 s63 _ (by exact (ev_l1 (ev_l1 e18 (by decide) (by decide)) (by decide) (by decide))) (by exact (ev_l1 (ev_l1 e19 (by decide) (by decide)) (by decide) (by decide))) (by exact (ev_lk_st1 (ev_l1 e20 (by decide) (by decide)) (by decide) rfl)) (by exact ev_lk_st1_self)
    · intro c62
      refine ev_r_aload_n (pc := 101) (k := 0) (v := .ref 621) trivial (by decide +kernel) (by exact (ev_l1 e18 (by decide) (by decide))) ?_
      refine ev_r_iconst (pc := 102) (k := 2) (by decide +kernel) ?_
      refine ev_r_virt (pc := 103) (y := 342) (mi := 221) (na := 1) (k := 621) (as := [.int (Int32.ofInt 2)]) (rest := []) (encc := ev_oI) (Q := ev_rng) (fun x S1 h => jt_221 d (by omega) Q 2 (by decide) s60 x S1 h) (by exact ev_ob_621) (by decide +kernel) (by decide +kernel) (by decide +kernel) (by decide +kernel) rfl (by (try simp only [ev_sum, ev_nv_cat]); first | done | rfl) ?_
      intro x66 s65 hx66
      show ev_w _ _ _ _ _ [.int (Int32.ofInt x66)] _ _ _ _
      exact ev_r_ireturn (pc := 106) (x := x66) (v := Int32.ofInt x66) (ty := .int) hx66 (by decide +kernel) (by decide +kernel) rfl rfl
theorem jlt_361_50 (d : Nat) (hd : 11 ≤ d + 1) (Q : Nat) (a0 : Int) (a1 : Int) (ha0 : ev_rng a0) (ha1 : ev_rng a1)   : ∀ q : Nat, ∀ (x16 : Int) (hx16 : ev_rng x16), ∀ (s22 : ev_St) (w17 : List (Nat × Value)), ev_lk w17 0 = some (.ref 621) → ev_lk w17 1 = some (.int (Int32.ofInt a0)) → ev_lk w17 2 = some (.int (Int32.ofInt a1)) → ev_lk w17 3 = some (.int (Int32.ofInt x16)) → ev_w none (ev_Mof 361) d 50 w17 [] s22 (jl_361_50 Q a0 a1  q x16 s22) ev_eI ev_rng := by
  intro q
  induction q with
  | zero =>
    intro x16 hx16 s22 w17 e18 e19 e20 e21
    exact ev_w_none
  | succ q ih => exact jbt_361_50 d hd Q a0 a1 ha0 ha1   _ ih
/-- MendBenchModel.play(II)I -/
def jm_361 (Q : Nat) (a0 : Int) (a1 : Int) (S : ev_St) : Option ((Int) × ev_St) := ev_b (S.1 621 135) fun x1 => ev_ck (x1 - 1) fun x2 => ev_bd (jm_222 Q a0 0 x2 S) fun x4 s3 => ev_jn (fun (x5 : Int) (s10 : ev_St) => ev_b (ev_pI s10 621 0 x5) fun s11 => ev_b (s11.1 621 0) fun x12 => if x12 ≤ 0 then (ev_bd (jm_288 Q a1 s11) fun _ s14 => ev_ck (30 * a0) fun x15 => jl_361_50 Q a0 a1  Q x15 s14) else (some (0, s11))) fun K28 => ev_jn (fun  (s71 : ev_St) => K28 1 s71) fun K27 => if x4 = 0 then (K27  s3) else (ev_bd (jm_325 Q a1 s3) fun x74 s73 => if x74 = 0 then (K27  s73) else (K28 0 s73))
theorem jt_361 (d : Nat) (hd : 11 ≤ d) (Q : Nat) (a0 : Int) (a1 : Int) (ha0 : ev_rng a0) (ha1 : ev_rng a1) (S : ev_St) (x : Int) (S' : ev_St) (hJ : jm_361 Q a0 a1 S = some (x, S')) : ev_Ref d 361 [.ref 621, .int (Int32.ofInt a0), .int (Int32.ofInt a1)] S (ev_eI x) S' (ev_rng x) := by
  obtain ⟨d, rfl⟩ : ∃ e, d = e + 1 := ⟨d - 1, by omega⟩
  refine ev_ref_of (P := ev_rng) (lv := [(0, .ref 621), (1, .int (Int32.ofInt a0)), (2, .int (Int32.ofInt a1))]) (by decide +kernel) (by (try simp only [ev_sum, ev_nv_cat]); first | done | rfl) (by (try simp only [lv_args, ev_nv_cat]); first | done | rfl) ?_ x S' hJ
  unfold jm_361
  refine ev_r_aload_n (pc := 0) (k := 0) (v := .ref 621) trivial (by decide +kernel) (by rfl) ?_
  refine ev_r_iload_n (pc := 1) (k := 1) (v := Int32.ofInt a0) (by decide +kernel) (by rfl) ?_
  refine ev_r_iconst (pc := 2) (k := 0) (by decide +kernel) ?_
  refine ev_r_aload_n (pc := 3) (k := 0) (v := .ref 621) trivial (by decide +kernel) (by rfl) ?_
  refine ev_r_getI (pc := 4) (y := 802) (ci := 13) (f := 135) (fin := 0) (by decide +kernel) (by decide +kernel) (by exact ev_ob_621) rfl ?_
  intro x1 hx1
  refine ev_r_iconst (pc := 7) (k := 1) (by decide +kernel) ?_
  refine ev_r_isub (pc := 8) (by decide +kernel) ?_
  intro x2 hx2
  refine ev_r_stat (pc := 9) (y := 325) (kind := 2) (mi := 222) (na := 3) (as := [.int (Int32.ofInt a0), .int (Int32.ofInt 0), .int (Int32.ofInt x2)]) (rest := [.ref 621]) (encc := ev_oI) (Q := ev_bl) (fun x S1 h => jt_222 d (by omega) Q a0 0 x2 ha0 (by decide) hx2 S x S1 h) (Or.inl rfl) (by decide +kernel) (by decide +kernel) (by decide +kernel) (by decide +kernel) rfl (by (try simp only [ev_sum, ev_nv_cat]); first | done | rfl) ?_
  intro x4 s3 hx4
  replace hx4 := ev_bl_rng hx4
  show ev_w _ _ _ _ _ [.int (Int32.ofInt x4), .ref 621] _ _ _ _
  refine ev_r_jn (Q := fun K => ∀ (x5 : Int) (hx5 : ev_rng x5), ∀ (s10 : ev_St) (w6 : List (Nat × Value)), ev_lk w6 0 = some (.ref 621) → ev_lk w6 1 = some (.int (Int32.ofInt a0)) → ev_lk w6 2 = some (.int (Int32.ofInt a1)) → ev_w none (ev_Mof 361) d 28 w6 [.int (Int32.ofInt x5), .ref 621] s10 (K x5 s10) ev_eI ev_rng) ?_ ?_
  · intro x5 hx5 s10 w6 e7 e8 e9
    refine ev_r_putI (pc := 28) (y := 321) (ci := 13) (f := 0) hx5 (by decide +kernel) (by decide +kernel) (by exact ev_ob_621) rfl rfl ?_
    intro s11
    refine ev_r_aload_n (pc := 31) (k := 0) (v := .ref 621) trivial (by decide +kernel) (by exact e7) ?_
    refine ev_r_getI (pc := 32) (y := 321) (ci := 13) (f := 0) (fin := 0) (by decide +kernel) (by decide +kernel) (by exact ev_ob_621) rfl ?_
    intro x12 hx12
    refine ev_r_if (pc := 35) (q := .le) (o := 5) (t := 40) (c := x12 ≤ 0) (by decide +kernel) (ev_k_le hx12 ev_rng0) (by decide +kernel) ?_ ?_
    · intro c13
      refine ev_r_aload_n (pc := 40) (k := 0) (v := .ref 621) trivial (by decide +kernel) (by exact e7) ?_
      refine ev_r_iload_n (pc := 41) (k := 2) (v := Int32.ofInt a1) (by decide +kernel) (by exact e9) ?_
      refine ev_r_virt (pc := 42) (y := 722) (mi := 288) (na := 1) (k := 621) (as := [.int (Int32.ofInt a1)]) (rest := []) (encc := ev_oU) (Q := ev_PU) (fun x S1 h => jt_288 d (by omega) Q a1 ha1 s11 x S1 h) (by exact ev_ob_621) (by decide +kernel) (by decide +kernel) (by decide +kernel) (by decide +kernel) rfl (by (try simp only [ev_sum, ev_nv_cat]); first | done | rfl) ?_
      intro _ s14 _
      show ev_w _ _ _ _ _ [] _ _ _ _
      refine ev_r_bipush (pc := 45) (k := 30) (by decide +kernel) (by decide +kernel) ?_
      refine ev_r_iload_n (pc := 47) (k := 1) (v := Int32.ofInt a0) (by decide +kernel) (by exact e8) ?_
      refine ev_r_imul (pc := 48) (by decide +kernel) ?_
      intro x15 hx15
      refine ev_r_istore_n (pc := 49) (k := 3) (by decide +kernel) (by decide +kernel) rfl ?_
      exact jlt_361_50 d hd Q a0 a1 ha0 ha1   Q x15 hx15 s14 _ (by exact (ev_l1 e7 (by decide) (by decide))) (by exact (ev_l1 e8 (by decide) (by decide))) (by exact (ev_lk_st1 e9 (by decide) rfl)) (by exact ev_lk_st1_self)
    · intro c13
      refine ev_r_iconst (pc := 38) (k := 0) (by decide +kernel) ?_
      exact ev_r_ireturn (pc := 39) (x := 0) (v := Int32.ofInt 0) (ty := .int) (by decide) (by decide +kernel) (by decide +kernel) rfl rfl
  · intro K28 hK28
    refine ev_r_jn (Q := fun K => ∀ (s71 : ev_St) (w67 : List (Nat × Value)), ev_lk w67 0 = some (.ref 621) → ev_lk w67 1 = some (.int (Int32.ofInt a0)) → ev_lk w67 2 = some (.int (Int32.ofInt a1)) → ev_w none (ev_Mof 361) d 27 w67 [.ref 621] s71 (K  s71) ev_eI ev_rng) ?_ ?_
    · intro  s71 w67 e68 e69 e70
      refine ev_r_iconst (pc := 27) (k := 1) (by decide +kernel) ?_
      exact hK28 1 (by decide) s71 _ (by exact e68) (by exact e69) (by exact e70)
    · intro K27 hK27
      refine ev_r_if (pc := 12) (q := .eq) (o := 15) (t := 27) (c := x4 = 0) (by decide +kernel) (ev_k_eq hx4 ev_rng0) (by decide +kernel) ?_ ?_
      · intro c72
        exact hK27  s3 _ (by rfl) (by rfl) (by rfl)
      · intro c72
        refine ev_r_aload_n (pc := 15) (k := 0) (v := .ref 621) trivial (by decide +kernel) (by rfl) ?_
        refine ev_r_iload_n (pc := 16) (k := 2) (v := Int32.ofInt a1) (by decide +kernel) (by rfl) ?_
        refine ev_r_virt (pc := 17) (y := 716) (mi := 325) (na := 1) (k := 621) (as := [.int (Int32.ofInt a1)]) (rest := [.ref 621]) (encc := ev_oI) (Q := ev_bl) (fun x S1 h => jt_325 d (by omega) Q a1 ha1 s3 x S1 h) (by exact ev_ob_621) (by decide +kernel) (by decide +kernel) (by decide +kernel) (by decide +kernel) rfl (by (try simp only [ev_sum, ev_nv_cat]); first | done | rfl) ?_
        intro x74 s73 hx74
        replace hx74 := ev_bl_rng hx74
        show ev_w _ _ _ _ _ [.int (Int32.ofInt x74), .ref 621] _ _ _ _
        refine ev_r_if (pc := 20) (q := .eq) (o := 7) (t := 27) (c := x74 = 0) (by decide +kernel) (ev_k_eq hx74 ev_rng0) (by decide +kernel) ?_ ?_
        · intro c75
          exact hK27  s73 _ (by rfl) (by rfl) (by rfl)
        · intro c75
          refine ev_r_iconst (pc := 23) (k := 0) (by decide +kernel) ?_
          refine ev_r_goto (pc := 24) (o := 4) (t := 28) (by decide +kernel) (by decide +kernel) ?_
          exact hK28 0 (by decide) s73 _ (by rfl) (by rfl) (by rfl)
/-- MendBenchLaw.type(LMendBench;I[J)I -/
def jm_364 (Q : Nat) (a0 : Nat) (a1 : Int) (a2 : Nat) (S : ev_St) : Option ((Int) × ev_St) := ev_if (a0 ≠ 0) (ev_bx (jm_166 Q a1 S) (fun x3 s2 => ev_b (ev_i2l x3) fun y4 => ev_if (a2 ≠ 0) (ev_if ((0 : Int) ≤ 0 ∧ 0 < (ev_aln ((a2 - 1)) : Int)) (ev_b (ev_pL s2 ((a2 - 1)) (Int.toNat 0) y4) fun s6 => some (0, s6)))) fun E7 s8 => if E7 = "java/lang/IllegalArgumentException" then some (1, s8) else if E7 = "java/lang/IllegalStateException" then some (2, s8) else none)
theorem jt_364 (d : Nat) (hd : 7 ≤ d) (Q : Nat) (a0 : Nat) (a1 : Int) (a2 : Nat) (ha0 : a0 = 0 ∨ ev_isOb (a0 - 1) 12 = true) (ha1 : ev_rng a1) (ha2 : a2 = 0 ∨ ev_isAb (a2 - 1) 2 .long = true) (S : ev_St) (x : Int) (S' : ev_St) (hJ : jm_364 Q a0 a1 a2 S = some (x, S')) : ev_Ref d 364 [ev_nv a0, .int (Int32.ofInt a1), ev_nv a2] S (ev_eI x) S' (ev_rng x) := by
  obtain ⟨d, rfl⟩ : ∃ e, d = e + 1 := ⟨d - 1, by omega⟩
  refine ev_ref_of (P := ev_rng) (lv := [(0, ev_nv a0), (1, .int (Int32.ofInt a1)), (2, ev_nv a2)]) (by decide +kernel) (by (try simp only [ev_sum, ev_nv_cat]); first | done | rfl) (by (try simp only [lv_args, ev_nv_cat]); first | done | rfl) ?_ x S' hJ
  unfold jm_364
  refine ev_r_aload_n (pc := 0) (k := 2) (v := ev_nv a2) (ev_isR_nv _) (by decide +kernel) (by rfl) ?_
  refine ev_r_iconst (pc := 1) (k := 0) (by decide +kernel) ?_
  refine ev_r_aload_n (pc := 2) (k := 0) (v := ev_nv a0) (ev_isR_nv _) (by decide +kernel) (by rfl) ?_
  refine ev_r_iload_n (pc := 3) (k := 1) (v := Int32.ofInt a1) (by decide +kernel) (by rfl) ?_
  refine ev_r_chk ?_
  intro c1
  refine ev_r_dr2 (r := a0) (k := 0) (fun v => [.int (Int32.ofInt a1), v, .int (Int32.ofInt 0), ev_nv a2]) c1 (ev_on_12 (ha0.resolve_left c1)) ?_
  refine ev_r_virtX (pc := 4) (y := 7) (mi := 166) (na := 1) (k := 0) (as := [.int (Int32.ofInt a1)]) (rest := [.int (Int32.ofInt 0), ev_nv a2]) (fun x S1 h => jt_166 d (by omega) Q a1 ha1 S x S1 h) (by exact ev_ob_0) (by decide +kernel) (by decide +kernel) (by decide +kernel) (by decide +kernel) rfl (by (try simp only [ev_sum, ev_nv_cat]); first | done | rfl) ?_ ?_
  · intro x3 s2 hx3
    show ev_w _ _ _ _ _ [.int (Int32.ofInt x3), .int (Int32.ofInt 0), ev_nv a2] _ _ _ _
    refine ev_r_toL (pc := 7) (i := .i2l) (len := 1) (pc' := 8) (by decide +kernel) rfl ?_
    intro y4
    refine ev_r_chk ?_
    intro c5
    refine ev_r_dr (r := a2) (fun v => [.long y4, .int (Int32.ofInt 0), v]) c5 ?_
    refine ev_r_last (pc := 8) (by decide) (by decide +kernel) (by exact (ha2.resolve_left c5)) ?_
    intro s6
    refine ev_r_goto (pc := 9) (o := 9) (t := 18) (by decide +kernel) (by decide +kernel) ?_
    refine ev_r_iconst (pc := 18) (k := 0) (by decide +kernel) ?_
    exact ev_r_ireturn (pc := 19) (x := 0) (v := Int32.ofInt 0) (ty := .int) (by decide) (by decide +kernel) (by decide +kernel) rfl rfl
  · intro E7 s8
    by_cases g0 : E7 = "java/lang/IllegalArgumentException"
    · subst g0
      refine Or.inl ⟨12, (by decide +kernel), ?_⟩
      show ev_w _ _ _ _ _ _ _ (if "java/lang/IllegalArgumentException" = "java/lang/IllegalArgumentException" then some (1, s8) else _) _ _
      rw [if_pos rfl]
      refine ev_r_astore_n (pc := 12) (k := 3) trivial (by decide +kernel) (by decide +kernel) rfl ?_
      refine ev_r_iconst (pc := 13) (k := 1) (by decide +kernel) ?_
      exact ev_r_ireturn (pc := 14) (x := 1) (v := Int32.ofInt 1) (ty := .int) (by decide) (by decide +kernel) (by decide +kernel) rfl rfl
    · skip
      by_cases g1 : E7 = "java/lang/IllegalStateException"
      · subst g1
        refine Or.inl ⟨15, (by decide +kernel), ?_⟩
        show ev_w _ _ _ _ _ _ _ (if "java/lang/IllegalStateException" = "java/lang/IllegalArgumentException" then _ else if "java/lang/IllegalStateException" = "java/lang/IllegalStateException" then some (2, s8) else _) _ _
        rw [if_neg (by decide), if_pos rfl]
        refine ev_r_astore_n (pc := 15) (k := 3) trivial (by decide +kernel) (by decide +kernel) rfl ?_
        refine ev_r_iconst (pc := 16) (k := 2) (by decide +kernel) ?_
        exact ev_r_ireturn (pc := 17) (x := 2) (v := Int32.ofInt 2) (ty := .int) (by decide) (by decide +kernel) (by decide +kernel) rfl rfl
      · skip
        refine Or.inr ?_
        show (if E7 = "java/lang/IllegalArgumentException" then _ else if E7 = "java/lang/IllegalStateException" then _ else none) = none
        rw [if_neg g0, if_neg g1]
/-- MendBenchLaw.part(LMendBench;I[J)I -/
def jm_365 (Q : Nat) (a0 : Nat) (a1 : Int) (a2 : Nat) (S : ev_St) : Option ((Int) × ev_St) := ev_if (a0 ≠ 0) (ev_bx (jm_168 Q a1 S) (fun x3 s2 => ev_b (ev_i2l x3) fun y4 => ev_if (a2 ≠ 0) (ev_if ((0 : Int) ≤ 0 ∧ 0 < (ev_aln ((a2 - 1)) : Int)) (ev_b (ev_pL s2 ((a2 - 1)) (Int.toNat 0) y4) fun s6 => some (0, s6)))) fun E7 s8 => if E7 = "java/lang/IllegalArgumentException" then some (1, s8) else none)
theorem jt_365 (d : Nat) (hd : 9 ≤ d) (Q : Nat) (a0 : Nat) (a1 : Int) (a2 : Nat) (ha0 : a0 = 0 ∨ ev_isOb (a0 - 1) 12 = true) (ha1 : ev_rng a1) (ha2 : a2 = 0 ∨ ev_isAb (a2 - 1) 2 .long = true) (S : ev_St) (x : Int) (S' : ev_St) (hJ : jm_365 Q a0 a1 a2 S = some (x, S')) : ev_Ref d 365 [ev_nv a0, .int (Int32.ofInt a1), ev_nv a2] S (ev_eI x) S' (ev_rng x) := by
  obtain ⟨d, rfl⟩ : ∃ e, d = e + 1 := ⟨d - 1, by omega⟩
  refine ev_ref_of (P := ev_rng) (lv := [(0, ev_nv a0), (1, .int (Int32.ofInt a1)), (2, ev_nv a2)]) (by decide +kernel) (by (try simp only [ev_sum, ev_nv_cat]); first | done | rfl) (by (try simp only [lv_args, ev_nv_cat]); first | done | rfl) ?_ x S' hJ
  unfold jm_365
  refine ev_r_aload_n (pc := 0) (k := 2) (v := ev_nv a2) (ev_isR_nv _) (by decide +kernel) (by rfl) ?_
  refine ev_r_iconst (pc := 1) (k := 0) (by decide +kernel) ?_
  refine ev_r_aload_n (pc := 2) (k := 0) (v := ev_nv a0) (ev_isR_nv _) (by decide +kernel) (by rfl) ?_
  refine ev_r_iload_n (pc := 3) (k := 1) (v := Int32.ofInt a1) (by decide +kernel) (by rfl) ?_
  refine ev_r_chk ?_
  intro c1
  refine ev_r_dr2 (r := a0) (k := 0) (fun v => [.int (Int32.ofInt a1), v, .int (Int32.ofInt 0), ev_nv a2]) c1 (ev_on_12 (ha0.resolve_left c1)) ?_
  refine ev_r_virtX (pc := 4) (y := 17) (mi := 168) (na := 1) (k := 0) (as := [.int (Int32.ofInt a1)]) (rest := [.int (Int32.ofInt 0), ev_nv a2]) (fun x S1 h => jt_168 d (by omega) Q a1 ha1 S x S1 h) (by exact ev_ob_0) (by decide +kernel) (by decide +kernel) (by decide +kernel) (by decide +kernel) rfl (by (try simp only [ev_sum, ev_nv_cat]); first | done | rfl) ?_ ?_
  · intro x3 s2 hx3
    show ev_w _ _ _ _ _ [.int (Int32.ofInt x3), .int (Int32.ofInt 0), ev_nv a2] _ _ _ _
    refine ev_r_toL (pc := 7) (i := .i2l) (len := 1) (pc' := 8) (by decide +kernel) rfl ?_
    intro y4
    refine ev_r_chk ?_
    intro c5
    refine ev_r_dr (r := a2) (fun v => [.long y4, .int (Int32.ofInt 0), v]) c5 ?_
    refine ev_r_last (pc := 8) (by decide) (by decide +kernel) (by exact (ha2.resolve_left c5)) ?_
    intro s6
    refine ev_r_goto (pc := 9) (o := 6) (t := 15) (by decide +kernel) (by decide +kernel) ?_
    refine ev_r_iconst (pc := 15) (k := 0) (by decide +kernel) ?_
    exact ev_r_ireturn (pc := 16) (x := 0) (v := Int32.ofInt 0) (ty := .int) (by decide) (by decide +kernel) (by decide +kernel) rfl rfl
  · intro E7 s8
    by_cases g0 : E7 = "java/lang/IllegalArgumentException"
    · subst g0
      refine Or.inl ⟨12, (by decide +kernel), ?_⟩
      show ev_w _ _ _ _ _ _ _ (if "java/lang/IllegalArgumentException" = "java/lang/IllegalArgumentException" then some (1, s8) else _) _ _
      rw [if_pos rfl]
      refine ev_r_astore_n (pc := 12) (k := 3) trivial (by decide +kernel) (by decide +kernel) rfl ?_
      refine ev_r_iconst (pc := 13) (k := 1) (by decide +kernel) ?_
      exact ev_r_ireturn (pc := 14) (x := 1) (v := Int32.ofInt 1) (ty := .int) (by decide) (by decide +kernel) (by decide +kernel) rfl rfl
    · skip
      refine Or.inr ?_
      show (if E7 = "java/lang/IllegalArgumentException" then _ else none) = none
      rw [if_neg g0]
/-- MendBenchLaw.pattern(LMendBench;[J)I -/
def jm_366 (Q : Nat) (a0 : Nat) (a1 : Nat) (S : ev_St) : Option ((Int) × ev_St) := ev_if (a0 ≠ 0) (ev_bx (jm_169 Q  S) (fun x3 s2 => ev_b (ev_i2l x3) fun y4 => ev_if (a1 ≠ 0) (ev_if ((0 : Int) ≤ 0 ∧ 0 < (ev_aln ((a1 - 1)) : Int)) (ev_b (ev_pL s2 ((a1 - 1)) (Int.toNat 0) y4) fun s6 => some (0, s6)))) fun E7 s8 => if E7 = "java/lang/IllegalStateException" then some (1, s8) else none)
theorem jt_366 (d : Nat) (hd : 9 ≤ d) (Q : Nat) (a0 : Nat) (a1 : Nat) (ha0 : a0 = 0 ∨ ev_isOb (a0 - 1) 12 = true) (ha1 : a1 = 0 ∨ ev_isAb (a1 - 1) 2 .long = true) (S : ev_St) (x : Int) (S' : ev_St) (hJ : jm_366 Q a0 a1 S = some (x, S')) : ev_Ref d 366 [ev_nv a0, ev_nv a1] S (ev_eI x) S' (ev_rng x) := by
  obtain ⟨d, rfl⟩ : ∃ e, d = e + 1 := ⟨d - 1, by omega⟩
  refine ev_ref_of (P := ev_rng) (lv := [(0, ev_nv a0), (1, ev_nv a1)]) (by decide +kernel) (by (try simp only [ev_sum, ev_nv_cat]); first | done | rfl) (by (try simp only [lv_args, ev_nv_cat]); first | done | rfl) ?_ x S' hJ
  unfold jm_366
  refine ev_r_aload_n (pc := 0) (k := 1) (v := ev_nv a1) (ev_isR_nv _) (by decide +kernel) (by rfl) ?_
  refine ev_r_iconst (pc := 1) (k := 0) (by decide +kernel) ?_
  refine ev_r_aload_n (pc := 2) (k := 0) (v := ev_nv a0) (ev_isR_nv _) (by decide +kernel) (by rfl) ?_
  refine ev_r_chk ?_
  intro c1
  refine ev_r_dr2 (r := a0) (k := 0) (fun v => [v, .int (Int32.ofInt 0), ev_nv a1]) c1 (ev_on_12 (ha0.resolve_left c1)) ?_
  refine ev_r_virtX (pc := 3) (y := 20) (mi := 169) (na := 0) (k := 0) (as := []) (rest := [.int (Int32.ofInt 0), ev_nv a1]) (fun x S1 h => jt_169 d (by omega) Q   S x S1 h) (by exact ev_ob_0) (by decide +kernel) (by decide +kernel) (by decide +kernel) (by decide +kernel) rfl (by (try simp only [ev_sum, ev_nv_cat]); first | done | rfl) ?_ ?_
  · intro x3 s2 hx3
    show ev_w _ _ _ _ _ [.int (Int32.ofInt x3), .int (Int32.ofInt 0), ev_nv a1] _ _ _ _
    refine ev_r_toL (pc := 6) (i := .i2l) (len := 1) (pc' := 7) (by decide +kernel) rfl ?_
    intro y4
    refine ev_r_chk ?_
    intro c5
    refine ev_r_dr (r := a1) (fun v => [.long y4, .int (Int32.ofInt 0), v]) c5 ?_
    refine ev_r_last (pc := 7) (by decide) (by decide +kernel) (by exact (ha1.resolve_left c5)) ?_
    intro s6
    refine ev_r_goto (pc := 8) (o := 6) (t := 14) (by decide +kernel) (by decide +kernel) ?_
    refine ev_r_iconst (pc := 14) (k := 0) (by decide +kernel) ?_
    exact ev_r_ireturn (pc := 15) (x := 0) (v := Int32.ofInt 0) (ty := .int) (by decide) (by decide +kernel) (by decide +kernel) rfl rfl
  · intro E7 s8
    by_cases g0 : E7 = "java/lang/IllegalStateException"
    · subst g0
      refine Or.inl ⟨11, (by decide +kernel), ?_⟩
      show ev_w _ _ _ _ _ _ _ (if "java/lang/IllegalStateException" = "java/lang/IllegalStateException" then some (1, s8) else _) _ _
      rw [if_pos rfl]
      refine ev_r_astore_n (pc := 11) (k := 2) trivial (by decide +kernel) (by decide +kernel) rfl ?_
      refine ev_r_iconst (pc := 12) (k := 1) (by decide +kernel) ?_
      exact ev_r_ireturn (pc := 13) (x := 1) (v := Int32.ofInt 1) (ty := .int) (by decide) (by decide +kernel) (by decide +kernel) rfl rfl
    · skip
      refine Or.inr ?_
      show (if E7 = "java/lang/IllegalStateException" then _ else none) = none
      rw [if_neg g0]
/-- MendBenchLaw.template(LMendBench;[J)I -/
def jm_367 (Q : Nat) (a0 : Nat) (a1 : Nat) (S : ev_St) : Option ((Int) × ev_St) := ev_if (a0 ≠ 0) (ev_bx (jm_170 Q  S) (fun x3 s2 => ev_b (ev_i2l x3) fun y4 => ev_if (a1 ≠ 0) (ev_if ((0 : Int) ≤ 0 ∧ 0 < (ev_aln ((a1 - 1)) : Int)) (ev_b (ev_pL s2 ((a1 - 1)) (Int.toNat 0) y4) fun s6 => some (0, s6)))) fun E7 s8 => if E7 = "java/lang/IllegalStateException" then some (1, s8) else none)
theorem jt_367 (d : Nat) (hd : 7 ≤ d) (Q : Nat) (a0 : Nat) (a1 : Nat) (ha0 : a0 = 0 ∨ ev_isOb (a0 - 1) 12 = true) (ha1 : a1 = 0 ∨ ev_isAb (a1 - 1) 2 .long = true) (S : ev_St) (x : Int) (S' : ev_St) (hJ : jm_367 Q a0 a1 S = some (x, S')) : ev_Ref d 367 [ev_nv a0, ev_nv a1] S (ev_eI x) S' (ev_rng x) := by
  obtain ⟨d, rfl⟩ : ∃ e, d = e + 1 := ⟨d - 1, by omega⟩
  refine ev_ref_of (P := ev_rng) (lv := [(0, ev_nv a0), (1, ev_nv a1)]) (by decide +kernel) (by (try simp only [ev_sum, ev_nv_cat]); first | done | rfl) (by (try simp only [lv_args, ev_nv_cat]); first | done | rfl) ?_ x S' hJ
  unfold jm_367
  refine ev_r_aload_n (pc := 0) (k := 1) (v := ev_nv a1) (ev_isR_nv _) (by decide +kernel) (by rfl) ?_
  refine ev_r_iconst (pc := 1) (k := 0) (by decide +kernel) ?_
  refine ev_r_aload_n (pc := 2) (k := 0) (v := ev_nv a0) (ev_isR_nv _) (by decide +kernel) (by rfl) ?_
  refine ev_r_chk ?_
  intro c1
  refine ev_r_dr2 (r := a0) (k := 0) (fun v => [v, .int (Int32.ofInt 0), ev_nv a1]) c1 (ev_on_12 (ha0.resolve_left c1)) ?_
  refine ev_r_virtX (pc := 3) (y := 24) (mi := 170) (na := 0) (k := 0) (as := []) (rest := [.int (Int32.ofInt 0), ev_nv a1]) (fun x S1 h => jt_170 d (by omega) Q   S x S1 h) (by exact ev_ob_0) (by decide +kernel) (by decide +kernel) (by decide +kernel) (by decide +kernel) rfl (by (try simp only [ev_sum, ev_nv_cat]); first | done | rfl) ?_ ?_
  · intro x3 s2 hx3
    show ev_w _ _ _ _ _ [.int (Int32.ofInt x3), .int (Int32.ofInt 0), ev_nv a1] _ _ _ _
    refine ev_r_toL (pc := 6) (i := .i2l) (len := 1) (pc' := 7) (by decide +kernel) rfl ?_
    intro y4
    refine ev_r_chk ?_
    intro c5
    refine ev_r_dr (r := a1) (fun v => [.long y4, .int (Int32.ofInt 0), v]) c5 ?_
    refine ev_r_last (pc := 7) (by decide) (by decide +kernel) (by exact (ha1.resolve_left c5)) ?_
    intro s6
    refine ev_r_goto (pc := 8) (o := 6) (t := 14) (by decide +kernel) (by decide +kernel) ?_
    refine ev_r_iconst (pc := 14) (k := 0) (by decide +kernel) ?_
    exact ev_r_ireturn (pc := 15) (x := 0) (v := Int32.ofInt 0) (ty := .int) (by decide) (by decide +kernel) (by decide +kernel) rfl rfl
  · intro E7 s8
    by_cases g0 : E7 = "java/lang/IllegalStateException"
    · subst g0
      refine Or.inl ⟨11, (by decide +kernel), ?_⟩
      show ev_w _ _ _ _ _ _ _ (if "java/lang/IllegalStateException" = "java/lang/IllegalStateException" then some (1, s8) else _) _ _
      rw [if_pos rfl]
      refine ev_r_astore_n (pc := 11) (k := 2) trivial (by decide +kernel) (by decide +kernel) rfl ?_
      refine ev_r_iconst (pc := 12) (k := 1) (by decide +kernel) ?_
      exact ev_r_ireturn (pc := 13) (x := 1) (v := Int32.ofInt 1) (ty := .int) (by decide) (by decide +kernel) (by decide +kernel) rfl rfl
    · skip
      refine Or.inr ?_
      show (if E7 = "java/lang/IllegalStateException" then _ else none) = none
      rw [if_neg g0]
/-- MendBenchLaw.groups(LMendBench;I[J)I -/
def jm_368 (Q : Nat) (a0 : Nat) (a1 : Int) (a2 : Nat) (S : ev_St) : Option ((Int) × ev_St) := ev_if (a0 ≠ 0) (ev_bx (jm_171 Q a1 S) (fun x3 s2 => ev_b (ev_i2l x3) fun y4 => ev_if (a2 ≠ 0) (ev_if ((0 : Int) ≤ 0 ∧ 0 < (ev_aln ((a2 - 1)) : Int)) (ev_b (ev_pL s2 ((a2 - 1)) (Int.toNat 0) y4) fun s6 => some (0, s6)))) fun E7 s8 => if E7 = "java/lang/IndexOutOfBoundsException" then some (1, s8) else none)
theorem jt_368 (d : Nat) (hd : 7 ≤ d) (Q : Nat) (a0 : Nat) (a1 : Int) (a2 : Nat) (ha0 : a0 = 0 ∨ ev_isOb (a0 - 1) 12 = true) (ha1 : ev_rng a1) (ha2 : a2 = 0 ∨ ev_isAb (a2 - 1) 2 .long = true) (S : ev_St) (x : Int) (S' : ev_St) (hJ : jm_368 Q a0 a1 a2 S = some (x, S')) : ev_Ref d 368 [ev_nv a0, .int (Int32.ofInt a1), ev_nv a2] S (ev_eI x) S' (ev_rng x) := by
  obtain ⟨d, rfl⟩ : ∃ e, d = e + 1 := ⟨d - 1, by omega⟩
  refine ev_ref_of (P := ev_rng) (lv := [(0, ev_nv a0), (1, .int (Int32.ofInt a1)), (2, ev_nv a2)]) (by decide +kernel) (by (try simp only [ev_sum, ev_nv_cat]); first | done | rfl) (by (try simp only [lv_args, ev_nv_cat]); first | done | rfl) ?_ x S' hJ
  unfold jm_368
  refine ev_r_aload_n (pc := 0) (k := 2) (v := ev_nv a2) (ev_isR_nv _) (by decide +kernel) (by rfl) ?_
  refine ev_r_iconst (pc := 1) (k := 0) (by decide +kernel) ?_
  refine ev_r_aload_n (pc := 2) (k := 0) (v := ev_nv a0) (ev_isR_nv _) (by decide +kernel) (by rfl) ?_
  refine ev_r_iload_n (pc := 3) (k := 1) (v := Int32.ofInt a1) (by decide +kernel) (by rfl) ?_
  refine ev_r_chk ?_
  intro c1
  refine ev_r_dr2 (r := a0) (k := 0) (fun v => [.int (Int32.ofInt a1), v, .int (Int32.ofInt 0), ev_nv a2]) c1 (ev_on_12 (ha0.resolve_left c1)) ?_
  refine ev_r_virtX (pc := 4) (y := 27) (mi := 171) (na := 1) (k := 0) (as := [.int (Int32.ofInt a1)]) (rest := [.int (Int32.ofInt 0), ev_nv a2]) (fun x S1 h => jt_171 d (by omega) Q a1 ha1 S x S1 h) (by exact ev_ob_0) (by decide +kernel) (by decide +kernel) (by decide +kernel) (by decide +kernel) rfl (by (try simp only [ev_sum, ev_nv_cat]); first | done | rfl) ?_ ?_
  · intro x3 s2 hx3
    show ev_w _ _ _ _ _ [.int (Int32.ofInt x3), .int (Int32.ofInt 0), ev_nv a2] _ _ _ _
    refine ev_r_toL (pc := 7) (i := .i2l) (len := 1) (pc' := 8) (by decide +kernel) rfl ?_
    intro y4
    refine ev_r_chk ?_
    intro c5
    refine ev_r_dr (r := a2) (fun v => [.long y4, .int (Int32.ofInt 0), v]) c5 ?_
    refine ev_r_last (pc := 8) (by decide) (by decide +kernel) (by exact (ha2.resolve_left c5)) ?_
    intro s6
    refine ev_r_goto (pc := 9) (o := 6) (t := 15) (by decide +kernel) (by decide +kernel) ?_
    refine ev_r_iconst (pc := 15) (k := 0) (by decide +kernel) ?_
    exact ev_r_ireturn (pc := 16) (x := 0) (v := Int32.ofInt 0) (ty := .int) (by decide) (by decide +kernel) (by decide +kernel) rfl rfl
  · intro E7 s8
    by_cases g0 : E7 = "java/lang/IndexOutOfBoundsException"
    · subst g0
      refine Or.inl ⟨12, (by decide +kernel), ?_⟩
      show ev_w _ _ _ _ _ _ _ (if "java/lang/IndexOutOfBoundsException" = "java/lang/IndexOutOfBoundsException" then some (1, s8) else _) _ _
      rw [if_pos rfl]
      refine ev_r_astore_n (pc := 12) (k := 3) trivial (by decide +kernel) (by decide +kernel) rfl ?_
      refine ev_r_iconst (pc := 13) (k := 1) (by decide +kernel) ?_
      exact ev_r_ireturn (pc := 14) (x := 1) (v := Int32.ofInt 1) (ty := .int) (by decide) (by decide +kernel) (by decide +kernel) rfl rfl
    · skip
      refine Or.inr ?_
      show (if E7 = "java/lang/IndexOutOfBoundsException" then _ else none) = none
      rw [if_neg g0]
/-- MendBenchLaw.least(LMendBench;I[J)I -/
def jm_369 (Q : Nat) (a0 : Nat) (a1 : Int) (a2 : Nat) (S : ev_St) : Option ((Int) × ev_St) := ev_if (a0 ≠ 0) (ev_bx (jm_172 Q a1 S) (fun x3 s2 => ev_b (ev_i2l x3) fun y4 => ev_if (a2 ≠ 0) (ev_if ((0 : Int) ≤ 0 ∧ 0 < (ev_aln ((a2 - 1)) : Int)) (ev_b (ev_pL s2 ((a2 - 1)) (Int.toNat 0) y4) fun s6 => some (0, s6)))) fun E7 s8 => if E7 = "java/lang/IndexOutOfBoundsException" then some (1, s8) else none)
theorem jt_369 (d : Nat) (hd : 7 ≤ d) (Q : Nat) (a0 : Nat) (a1 : Int) (a2 : Nat) (ha0 : a0 = 0 ∨ ev_isOb (a0 - 1) 12 = true) (ha1 : ev_rng a1) (ha2 : a2 = 0 ∨ ev_isAb (a2 - 1) 2 .long = true) (S : ev_St) (x : Int) (S' : ev_St) (hJ : jm_369 Q a0 a1 a2 S = some (x, S')) : ev_Ref d 369 [ev_nv a0, .int (Int32.ofInt a1), ev_nv a2] S (ev_eI x) S' (ev_rng x) := by
  obtain ⟨d, rfl⟩ : ∃ e, d = e + 1 := ⟨d - 1, by omega⟩
  refine ev_ref_of (P := ev_rng) (lv := [(0, ev_nv a0), (1, .int (Int32.ofInt a1)), (2, ev_nv a2)]) (by decide +kernel) (by (try simp only [ev_sum, ev_nv_cat]); first | done | rfl) (by (try simp only [lv_args, ev_nv_cat]); first | done | rfl) ?_ x S' hJ
  unfold jm_369
  refine ev_r_aload_n (pc := 0) (k := 2) (v := ev_nv a2) (ev_isR_nv _) (by decide +kernel) (by rfl) ?_
  refine ev_r_iconst (pc := 1) (k := 0) (by decide +kernel) ?_
  refine ev_r_aload_n (pc := 2) (k := 0) (v := ev_nv a0) (ev_isR_nv _) (by decide +kernel) (by rfl) ?_
  refine ev_r_iload_n (pc := 3) (k := 1) (v := Int32.ofInt a1) (by decide +kernel) (by rfl) ?_
  refine ev_r_chk ?_
  intro c1
  refine ev_r_dr2 (r := a0) (k := 0) (fun v => [.int (Int32.ofInt a1), v, .int (Int32.ofInt 0), ev_nv a2]) c1 (ev_on_12 (ha0.resolve_left c1)) ?_
  refine ev_r_virtX (pc := 4) (y := 32) (mi := 172) (na := 1) (k := 0) (as := [.int (Int32.ofInt a1)]) (rest := [.int (Int32.ofInt 0), ev_nv a2]) (fun x S1 h => jt_172 d (by omega) Q a1 ha1 S x S1 h) (by exact ev_ob_0) (by decide +kernel) (by decide +kernel) (by decide +kernel) (by decide +kernel) rfl (by (try simp only [ev_sum, ev_nv_cat]); first | done | rfl) ?_ ?_
  · intro x3 s2 hx3
    show ev_w _ _ _ _ _ [.int (Int32.ofInt x3), .int (Int32.ofInt 0), ev_nv a2] _ _ _ _
    refine ev_r_toL (pc := 7) (i := .i2l) (len := 1) (pc' := 8) (by decide +kernel) rfl ?_
    intro y4
    refine ev_r_chk ?_
    intro c5
    refine ev_r_dr (r := a2) (fun v => [.long y4, .int (Int32.ofInt 0), v]) c5 ?_
    refine ev_r_last (pc := 8) (by decide) (by decide +kernel) (by exact (ha2.resolve_left c5)) ?_
    intro s6
    refine ev_r_goto (pc := 9) (o := 6) (t := 15) (by decide +kernel) (by decide +kernel) ?_
    refine ev_r_iconst (pc := 15) (k := 0) (by decide +kernel) ?_
    exact ev_r_ireturn (pc := 16) (x := 0) (v := Int32.ofInt 0) (ty := .int) (by decide) (by decide +kernel) (by decide +kernel) rfl rfl
  · intro E7 s8
    by_cases g0 : E7 = "java/lang/IndexOutOfBoundsException"
    · subst g0
      refine Or.inl ⟨12, (by decide +kernel), ?_⟩
      show ev_w _ _ _ _ _ _ _ (if "java/lang/IndexOutOfBoundsException" = "java/lang/IndexOutOfBoundsException" then some (1, s8) else _) _ _
      rw [if_pos rfl]
      refine ev_r_astore_n (pc := 12) (k := 3) trivial (by decide +kernel) (by decide +kernel) rfl ?_
      refine ev_r_iconst (pc := 13) (k := 1) (by decide +kernel) ?_
      exact ev_r_ireturn (pc := 14) (x := 1) (v := Int32.ofInt 1) (ty := .int) (by decide) (by decide +kernel) (by decide +kernel) rfl rfl
    · skip
      refine Or.inr ?_
      show (if E7 = "java/lang/IndexOutOfBoundsException" then _ else none) = none
      rw [if_neg g0]
/-- MendBenchLaw.begins(LMendBench;II[J)I -/
def jm_370 (Q : Nat) (a0 : Nat) (a1 : Int) (a2 : Int) (a3 : Nat) (S : ev_St) : Option ((Int) × ev_St) := ev_if (a0 ≠ 0) (ev_bx (jm_173 Q a1 a2 S) (fun x3 s2 => if x3 = 0 then (ev_if (a3 ≠ 0) (ev_if ((0 : Int) ≤ 0 ∧ 0 < (ev_aln ((a3 - 1)) : Int)) (ev_b (ev_pL s2 ((a3 - 1)) (Int.toNat 0) ((Int64.ofNat ((0 : Fin 2) : Nat)))) fun s6 => some (0, s6)))) else (ev_if (a3 ≠ 0) (ev_if ((0 : Int) ≤ 0 ∧ 0 < (ev_aln ((a3 - 1)) : Int)) (ev_b (ev_pL s2 ((a3 - 1)) (Int.toNat 0) ((Int64.ofNat ((1 : Fin 2) : Nat)))) fun s8 => some (0, s8))))) fun E9 s10 => if E9 = "java/lang/IndexOutOfBoundsException" then some (1, s10) else if E9 = "java/lang/IllegalArgumentException" then some (2, s10) else none)
theorem jt_370 (d : Nat) (hd : 7 ≤ d) (Q : Nat) (a0 : Nat) (a1 : Int) (a2 : Int) (a3 : Nat) (ha0 : a0 = 0 ∨ ev_isOb (a0 - 1) 12 = true) (ha1 : ev_rng a1) (ha2 : ev_rng a2) (ha3 : a3 = 0 ∨ ev_isAb (a3 - 1) 2 .long = true) (S : ev_St) (x : Int) (S' : ev_St) (hJ : jm_370 Q a0 a1 a2 a3 S = some (x, S')) : ev_Ref d 370 [ev_nv a0, .int (Int32.ofInt a1), .int (Int32.ofInt a2), ev_nv a3] S (ev_eI x) S' (ev_rng x) := by
  obtain ⟨d, rfl⟩ : ∃ e, d = e + 1 := ⟨d - 1, by omega⟩
  refine ev_ref_of (P := ev_rng) (lv := [(0, ev_nv a0), (1, .int (Int32.ofInt a1)), (2, .int (Int32.ofInt a2)), (3, ev_nv a3)]) (by decide +kernel) (by (try simp only [ev_sum, ev_nv_cat]); first | done | rfl) (by (try simp only [lv_args, ev_nv_cat]); first | done | rfl) ?_ x S' hJ
  unfold jm_370
  refine ev_r_aload_n (pc := 0) (k := 3) (v := ev_nv a3) (ev_isR_nv _) (by decide +kernel) (by rfl) ?_
  refine ev_r_iconst (pc := 1) (k := 0) (by decide +kernel) ?_
  refine ev_r_aload_n (pc := 2) (k := 0) (v := ev_nv a0) (ev_isR_nv _) (by decide +kernel) (by rfl) ?_
  refine ev_r_iload_n (pc := 3) (k := 1) (v := Int32.ofInt a1) (by decide +kernel) (by rfl) ?_
  refine ev_r_iload_n (pc := 4) (k := 2) (v := Int32.ofInt a2) (by decide +kernel) (by rfl) ?_
  refine ev_r_chk ?_
  intro c1
  refine ev_r_dr2 (r := a0) (k := 0) (fun v => [.int (Int32.ofInt a2), .int (Int32.ofInt a1), v, .int (Int32.ofInt 0), ev_nv a3]) c1 (ev_on_12 (ha0.resolve_left c1)) ?_
  refine ev_r_virtX (pc := 5) (y := 35) (mi := 173) (na := 2) (k := 0) (as := [.int (Int32.ofInt a1), .int (Int32.ofInt a2)]) (rest := [.int (Int32.ofInt 0), ev_nv a3]) (fun x S1 h => jt_173 d (by omega) Q a1 a2 ha1 ha2 S x S1 h) (by exact ev_ob_0) (by decide +kernel) (by decide +kernel) (by decide +kernel) (by decide +kernel) rfl (by (try simp only [ev_sum, ev_nv_cat]); first | done | rfl) ?_ ?_
  · intro x3 s2 hx3
    show ev_w _ _ _ _ _ [.int (Int32.ofInt x3), .int (Int32.ofInt 0), ev_nv a3] _ _ _ _
    refine ev_r_if (pc := 8) (q := .eq) (o := 7) (t := 15) (c := x3 = 0) (by decide +kernel) (ev_k_eq hx3 ev_rng0) (by decide +kernel) ?_ ?_
    · intro c4
      refine ev_r_lconst (pc := 15) (c := 0) (by decide +kernel) ?_
      refine ev_r_chk ?_
      intro c5
      refine ev_r_dr (r := a3) (fun v => [.long ((Int64.ofNat ((0 : Fin 2) : Nat))), .int (Int32.ofInt 0), v]) c5 ?_
      refine ev_r_last (pc := 16) (by decide) (by decide +kernel) (by exact (ha3.resolve_left c5)) ?_
      intro s6
      refine ev_r_goto (pc := 17) (o := 11) (t := 28) (by decide +kernel) (by decide +kernel) ?_
      refine ev_r_iconst (pc := 28) (k := 0) (by decide +kernel) ?_
      exact ev_r_ireturn (pc := 29) (x := 0) (v := Int32.ofInt 0) (ty := .int) (by decide) (by decide +kernel) (by decide +kernel) rfl rfl
    · intro c4
      refine ev_r_lconst (pc := 11) (c := 1) (by decide +kernel) ?_
      refine ev_r_goto (pc := 12) (o := 4) (t := 16) (by decide +kernel) (by decide +kernel) ?_
      refine ev_r_chk ?_
      intro c7
      refine ev_r_dr (r := a3) (fun v => [.long ((Int64.ofNat ((1 : Fin 2) : Nat))), .int (Int32.ofInt 0), v]) c7 ?_
      refine ev_r_last (pc := 16) (by decide) (by decide +kernel) (by exact (ha3.resolve_left c7)) ?_
      intro s8
      refine ev_r_goto (pc := 17) (o := 11) (t := 28) (by decide +kernel) (by decide +kernel) ?_
      refine ev_r_iconst (pc := 28) (k := 0) (by decide +kernel) ?_
      exact ev_r_ireturn (pc := 29) (x := 0) (v := Int32.ofInt 0) (ty := .int) (by decide) (by decide +kernel) (by decide +kernel) rfl rfl
  · intro E9 s10
    by_cases g0 : E9 = "java/lang/IndexOutOfBoundsException"
    · subst g0
      refine Or.inl ⟨20, (by decide +kernel), ?_⟩
      show ev_w _ _ _ _ _ _ _ (if "java/lang/IndexOutOfBoundsException" = "java/lang/IndexOutOfBoundsException" then some (1, s10) else _) _ _
      rw [if_pos rfl]
      refine ev_r_astore (pc := 20) (k := 4) trivial (by decide +kernel) (by decide +kernel) rfl ?_
      refine ev_r_iconst (pc := 22) (k := 1) (by decide +kernel) ?_
      exact ev_r_ireturn (pc := 23) (x := 1) (v := Int32.ofInt 1) (ty := .int) (by decide) (by decide +kernel) (by decide +kernel) rfl rfl
    · skip
      by_cases g1 : E9 = "java/lang/IllegalArgumentException"
      · subst g1
        refine Or.inl ⟨24, (by decide +kernel), ?_⟩
        show ev_w _ _ _ _ _ _ _ (if "java/lang/IllegalArgumentException" = "java/lang/IndexOutOfBoundsException" then _ else if "java/lang/IllegalArgumentException" = "java/lang/IllegalArgumentException" then some (2, s10) else _) _ _
        rw [if_neg (by decide), if_pos rfl]
        refine ev_r_astore (pc := 24) (k := 4) trivial (by decide +kernel) (by decide +kernel) rfl ?_
        refine ev_r_iconst (pc := 26) (k := 2) (by decide +kernel) ?_
        exact ev_r_ireturn (pc := 27) (x := 2) (v := Int32.ofInt 2) (ty := .int) (by decide) (by decide +kernel) (by decide +kernel) rfl rfl
      · skip
        refine Or.inr ?_
        show (if E9 = "java/lang/IndexOutOfBoundsException" then _ else if E9 = "java/lang/IllegalArgumentException" then _ else none) = none
        rw [if_neg g0, if_neg g1]
/-- MendBenchLaw.literal(LMendBench;II[J)I -/
def jm_371 (Q : Nat) (a0 : Nat) (a1 : Int) (a2 : Int) (a3 : Nat) (S : ev_St) : Option ((Int) × ev_St) := ev_if (a0 ≠ 0) (ev_bx (jm_174 Q a1 a2 S) (fun x3 s2 => ev_b (ev_i2l x3) fun y4 => ev_if (a3 ≠ 0) (ev_if ((0 : Int) ≤ 0 ∧ 0 < (ev_aln ((a3 - 1)) : Int)) (ev_b (ev_pL s2 ((a3 - 1)) (Int.toNat 0) y4) fun s6 => some (0, s6)))) fun E7 s8 => if E7 = "java/lang/IndexOutOfBoundsException" then some (1, s8) else if E7 = "java/lang/IllegalArgumentException" then some (2, s8) else none)
theorem jt_371 (d : Nat) (hd : 7 ≤ d) (Q : Nat) (a0 : Nat) (a1 : Int) (a2 : Int) (a3 : Nat) (ha0 : a0 = 0 ∨ ev_isOb (a0 - 1) 12 = true) (ha1 : ev_rng a1) (ha2 : ev_rng a2) (ha3 : a3 = 0 ∨ ev_isAb (a3 - 1) 2 .long = true) (S : ev_St) (x : Int) (S' : ev_St) (hJ : jm_371 Q a0 a1 a2 a3 S = some (x, S')) : ev_Ref d 371 [ev_nv a0, .int (Int32.ofInt a1), .int (Int32.ofInt a2), ev_nv a3] S (ev_eI x) S' (ev_rng x) := by
  obtain ⟨d, rfl⟩ : ∃ e, d = e + 1 := ⟨d - 1, by omega⟩
  refine ev_ref_of (P := ev_rng) (lv := [(0, ev_nv a0), (1, .int (Int32.ofInt a1)), (2, .int (Int32.ofInt a2)), (3, ev_nv a3)]) (by decide +kernel) (by (try simp only [ev_sum, ev_nv_cat]); first | done | rfl) (by (try simp only [lv_args, ev_nv_cat]); first | done | rfl) ?_ x S' hJ
  unfold jm_371
  refine ev_r_aload_n (pc := 0) (k := 3) (v := ev_nv a3) (ev_isR_nv _) (by decide +kernel) (by rfl) ?_
  refine ev_r_iconst (pc := 1) (k := 0) (by decide +kernel) ?_
  refine ev_r_aload_n (pc := 2) (k := 0) (v := ev_nv a0) (ev_isR_nv _) (by decide +kernel) (by rfl) ?_
  refine ev_r_iload_n (pc := 3) (k := 1) (v := Int32.ofInt a1) (by decide +kernel) (by rfl) ?_
  refine ev_r_iload_n (pc := 4) (k := 2) (v := Int32.ofInt a2) (by decide +kernel) (by rfl) ?_
  refine ev_r_chk ?_
  intro c1
  refine ev_r_dr2 (r := a0) (k := 0) (fun v => [.int (Int32.ofInt a2), .int (Int32.ofInt a1), v, .int (Int32.ofInt 0), ev_nv a3]) c1 (ev_on_12 (ha0.resolve_left c1)) ?_
  refine ev_r_virtX (pc := 5) (y := 39) (mi := 174) (na := 2) (k := 0) (as := [.int (Int32.ofInt a1), .int (Int32.ofInt a2)]) (rest := [.int (Int32.ofInt 0), ev_nv a3]) (fun x S1 h => jt_174 d (by omega) Q a1 a2 ha1 ha2 S x S1 h) (by exact ev_ob_0) (by decide +kernel) (by decide +kernel) (by decide +kernel) (by decide +kernel) rfl (by (try simp only [ev_sum, ev_nv_cat]); first | done | rfl) ?_ ?_
  · intro x3 s2 hx3
    show ev_w _ _ _ _ _ [.int (Int32.ofInt x3), .int (Int32.ofInt 0), ev_nv a3] _ _ _ _
    refine ev_r_toL (pc := 8) (i := .i2l) (len := 1) (pc' := 9) (by decide +kernel) rfl ?_
    intro y4
    refine ev_r_chk ?_
    intro c5
    refine ev_r_dr (r := a3) (fun v => [.long y4, .int (Int32.ofInt 0), v]) c5 ?_
    refine ev_r_last (pc := 9) (by decide) (by decide +kernel) (by exact (ha3.resolve_left c5)) ?_
    intro s6
    refine ev_r_goto (pc := 10) (o := 11) (t := 21) (by decide +kernel) (by decide +kernel) ?_
    refine ev_r_iconst (pc := 21) (k := 0) (by decide +kernel) ?_
    exact ev_r_ireturn (pc := 22) (x := 0) (v := Int32.ofInt 0) (ty := .int) (by decide) (by decide +kernel) (by decide +kernel) rfl rfl
  · intro E7 s8
    by_cases g0 : E7 = "java/lang/IndexOutOfBoundsException"
    · subst g0
      refine Or.inl ⟨13, (by decide +kernel), ?_⟩
      show ev_w _ _ _ _ _ _ _ (if "java/lang/IndexOutOfBoundsException" = "java/lang/IndexOutOfBoundsException" then some (1, s8) else _) _ _
      rw [if_pos rfl]
      refine ev_r_astore (pc := 13) (k := 4) trivial (by decide +kernel) (by decide +kernel) rfl ?_
      refine ev_r_iconst (pc := 15) (k := 1) (by decide +kernel) ?_
      exact ev_r_ireturn (pc := 16) (x := 1) (v := Int32.ofInt 1) (ty := .int) (by decide) (by decide +kernel) (by decide +kernel) rfl rfl
    · skip
      by_cases g1 : E7 = "java/lang/IllegalArgumentException"
      · subst g1
        refine Or.inl ⟨17, (by decide +kernel), ?_⟩
        show ev_w _ _ _ _ _ _ _ (if "java/lang/IllegalArgumentException" = "java/lang/IndexOutOfBoundsException" then _ else if "java/lang/IllegalArgumentException" = "java/lang/IllegalArgumentException" then some (2, s8) else _) _ _
        rw [if_neg (by decide), if_pos rfl]
        refine ev_r_astore (pc := 17) (k := 4) trivial (by decide +kernel) (by decide +kernel) rfl ?_
        refine ev_r_iconst (pc := 19) (k := 2) (by decide +kernel) ?_
        exact ev_r_ireturn (pc := 20) (x := 2) (v := Int32.ofInt 2) (ty := .int) (by decide) (by decide +kernel) (by decide +kernel) rfl rfl
      · skip
        refine Or.inr ?_
        show (if E7 = "java/lang/IndexOutOfBoundsException" then _ else if E7 = "java/lang/IllegalArgumentException" then _ else none) = none
        rw [if_neg g0, if_neg g1]
/-- MendBenchLaw.runaway(LMendBench;I[J)I -/
def jm_372 (Q : Nat) (a0 : Nat) (a1 : Int) (a2 : Nat) (S : ev_St) : Option ((Int) × ev_St) := ev_if (a0 ≠ 0) (ev_bx (jm_175 Q a1 S) (fun x3 s2 => ev_b (ev_i2l x3) fun y4 => ev_if (a2 ≠ 0) (ev_if ((0 : Int) ≤ 0 ∧ 0 < (ev_aln ((a2 - 1)) : Int)) (ev_b (ev_pL s2 ((a2 - 1)) (Int.toNat 0) y4) fun s6 => some (0, s6)))) fun E7 s8 => if E7 = "java/lang/IndexOutOfBoundsException" then some (1, s8) else none)
theorem jt_372 (d : Nat) (hd : 7 ≤ d) (Q : Nat) (a0 : Nat) (a1 : Int) (a2 : Nat) (ha0 : a0 = 0 ∨ ev_isOb (a0 - 1) 12 = true) (ha1 : ev_rng a1) (ha2 : a2 = 0 ∨ ev_isAb (a2 - 1) 2 .long = true) (S : ev_St) (x : Int) (S' : ev_St) (hJ : jm_372 Q a0 a1 a2 S = some (x, S')) : ev_Ref d 372 [ev_nv a0, .int (Int32.ofInt a1), ev_nv a2] S (ev_eI x) S' (ev_rng x) := by
  obtain ⟨d, rfl⟩ : ∃ e, d = e + 1 := ⟨d - 1, by omega⟩
  refine ev_ref_of (P := ev_rng) (lv := [(0, ev_nv a0), (1, .int (Int32.ofInt a1)), (2, ev_nv a2)]) (by decide +kernel) (by (try simp only [ev_sum, ev_nv_cat]); first | done | rfl) (by (try simp only [lv_args, ev_nv_cat]); first | done | rfl) ?_ x S' hJ
  unfold jm_372
  refine ev_r_aload_n (pc := 0) (k := 2) (v := ev_nv a2) (ev_isR_nv _) (by decide +kernel) (by rfl) ?_
  refine ev_r_iconst (pc := 1) (k := 0) (by decide +kernel) ?_
  refine ev_r_aload_n (pc := 2) (k := 0) (v := ev_nv a0) (ev_isR_nv _) (by decide +kernel) (by rfl) ?_
  refine ev_r_iload_n (pc := 3) (k := 1) (v := Int32.ofInt a1) (by decide +kernel) (by rfl) ?_
  refine ev_r_chk ?_
  intro c1
  refine ev_r_dr2 (r := a0) (k := 0) (fun v => [.int (Int32.ofInt a1), v, .int (Int32.ofInt 0), ev_nv a2]) c1 (ev_on_12 (ha0.resolve_left c1)) ?_
  refine ev_r_virtX (pc := 4) (y := 43) (mi := 175) (na := 1) (k := 0) (as := [.int (Int32.ofInt a1)]) (rest := [.int (Int32.ofInt 0), ev_nv a2]) (fun x S1 h => jt_175 d (by omega) Q a1 ha1 S x S1 h) (by exact ev_ob_0) (by decide +kernel) (by decide +kernel) (by decide +kernel) (by decide +kernel) rfl (by (try simp only [ev_sum, ev_nv_cat]); first | done | rfl) ?_ ?_
  · intro x3 s2 hx3
    show ev_w _ _ _ _ _ [.int (Int32.ofInt x3), .int (Int32.ofInt 0), ev_nv a2] _ _ _ _
    refine ev_r_toL (pc := 7) (i := .i2l) (len := 1) (pc' := 8) (by decide +kernel) rfl ?_
    intro y4
    refine ev_r_chk ?_
    intro c5
    refine ev_r_dr (r := a2) (fun v => [.long y4, .int (Int32.ofInt 0), v]) c5 ?_
    refine ev_r_last (pc := 8) (by decide) (by decide +kernel) (by exact (ha2.resolve_left c5)) ?_
    intro s6
    refine ev_r_goto (pc := 9) (o := 6) (t := 15) (by decide +kernel) (by decide +kernel) ?_
    refine ev_r_iconst (pc := 15) (k := 0) (by decide +kernel) ?_
    exact ev_r_ireturn (pc := 16) (x := 0) (v := Int32.ofInt 0) (ty := .int) (by decide) (by decide +kernel) (by decide +kernel) rfl rfl
  · intro E7 s8
    by_cases g0 : E7 = "java/lang/IndexOutOfBoundsException"
    · subst g0
      refine Or.inl ⟨12, (by decide +kernel), ?_⟩
      show ev_w _ _ _ _ _ _ _ (if "java/lang/IndexOutOfBoundsException" = "java/lang/IndexOutOfBoundsException" then some (1, s8) else _) _ _
      rw [if_pos rfl]
      refine ev_r_astore_n (pc := 12) (k := 3) trivial (by decide +kernel) (by decide +kernel) rfl ?_
      refine ev_r_iconst (pc := 13) (k := 1) (by decide +kernel) ?_
      exact ev_r_ireturn (pc := 14) (x := 1) (v := Int32.ofInt 1) (ty := .int) (by decide) (by decide +kernel) (by decide +kernel) rfl rfl
    · skip
      refine Or.inr ?_
      show (if E7 = "java/lang/IndexOutOfBoundsException" then _ else none) = none
      rw [if_neg g0]
/-- MendBenchLaw.find(LMendBench;IIII[J)I -/
def jm_373 (Q : Nat) (a0 : Nat) (a1 : Int) (a2 : Int) (a3 : Int) (a4 : Int) (a5 : Nat) (S : ev_St) : Option ((Int) × ev_St) := ev_if (a0 ≠ 0) (ev_bx (jm_176 Q a1 a2 a3 a4 S) (fun x3 s2 => ev_b (ev_i2l x3) fun y4 => ev_if (a5 ≠ 0) (ev_if ((0 : Int) ≤ 0 ∧ 0 < (ev_aln ((a5 - 1)) : Int)) (ev_b (ev_pL s2 ((a5 - 1)) (Int.toNat 0) y4) fun s6 => some (0, s6)))) fun E7 s8 => if E7 = "java/lang/IndexOutOfBoundsException" then some (1, s8) else none)
theorem jt_373 (d : Nat) (hd : 9 ≤ d) (Q : Nat) (a0 : Nat) (a1 : Int) (a2 : Int) (a3 : Int) (a4 : Int) (a5 : Nat) (ha0 : a0 = 0 ∨ ev_isOb (a0 - 1) 12 = true) (ha1 : ev_rng a1) (ha2 : ev_rng a2) (ha3 : ev_rng a3) (ha4 : ev_rng a4) (ha5 : a5 = 0 ∨ ev_isAb (a5 - 1) 2 .long = true) (S : ev_St) (x : Int) (S' : ev_St) (hJ : jm_373 Q a0 a1 a2 a3 a4 a5 S = some (x, S')) : ev_Ref d 373 [ev_nv a0, .int (Int32.ofInt a1), .int (Int32.ofInt a2), .int (Int32.ofInt a3), .int (Int32.ofInt a4), ev_nv a5] S (ev_eI x) S' (ev_rng x) := by
  obtain ⟨d, rfl⟩ : ∃ e, d = e + 1 := ⟨d - 1, by omega⟩
  refine ev_ref_of (P := ev_rng) (lv := [(0, ev_nv a0), (1, .int (Int32.ofInt a1)), (2, .int (Int32.ofInt a2)), (3, .int (Int32.ofInt a3)), (4, .int (Int32.ofInt a4)), (5, ev_nv a5)]) (by decide +kernel) (by (try simp only [ev_sum, ev_nv_cat]); first | done | rfl) (by (try simp only [lv_args, ev_nv_cat]); first | done | rfl) ?_ x S' hJ
  unfold jm_373
  refine ev_r_aload (pc := 0) (k := 5) (v := ev_nv a5) (ev_isR_nv _) (by decide +kernel) (by rfl) ?_
  refine ev_r_iconst (pc := 2) (k := 0) (by decide +kernel) ?_
  refine ev_r_aload_n (pc := 3) (k := 0) (v := ev_nv a0) (ev_isR_nv _) (by decide +kernel) (by rfl) ?_
  refine ev_r_iload_n (pc := 4) (k := 1) (v := Int32.ofInt a1) (by decide +kernel) (by rfl) ?_
  refine ev_r_iload_n (pc := 5) (k := 2) (v := Int32.ofInt a2) (by decide +kernel) (by rfl) ?_
  refine ev_r_iload_n (pc := 6) (k := 3) (v := Int32.ofInt a3) (by decide +kernel) (by rfl) ?_
  refine ev_r_iload (pc := 7) (k := 4) (v := Int32.ofInt a4) (by decide +kernel) (by rfl) ?_
  refine ev_r_chk ?_
  intro c1
  refine ev_r_dr2 (r := a0) (k := 0) (fun v => [.int (Int32.ofInt a4), .int (Int32.ofInt a3), .int (Int32.ofInt a2), .int (Int32.ofInt a1), v, .int (Int32.ofInt 0), ev_nv a5]) c1 (ev_on_12 (ha0.resolve_left c1)) ?_
  refine ev_r_virtX (pc := 9) (y := 46) (mi := 176) (na := 4) (k := 0) (as := [.int (Int32.ofInt a1), .int (Int32.ofInt a2), .int (Int32.ofInt a3), .int (Int32.ofInt a4)]) (rest := [.int (Int32.ofInt 0), ev_nv a5]) (fun x S1 h => jt_176 d (by omega) Q a1 a2 a3 a4 ha1 ha2 ha3 ha4 S x S1 h) (by exact ev_ob_0) (by decide +kernel) (by decide +kernel) (by decide +kernel) (by decide +kernel) rfl (by (try simp only [ev_sum, ev_nv_cat]); first | done | rfl) ?_ ?_
  · intro x3 s2 hx3
    show ev_w _ _ _ _ _ [.int (Int32.ofInt x3), .int (Int32.ofInt 0), ev_nv a5] _ _ _ _
    refine ev_r_toL (pc := 12) (i := .i2l) (len := 1) (pc' := 13) (by decide +kernel) rfl ?_
    intro y4
    refine ev_r_chk ?_
    intro c5
    refine ev_r_dr (r := a5) (fun v => [.long y4, .int (Int32.ofInt 0), v]) c5 ?_
    refine ev_r_last (pc := 13) (by decide) (by decide +kernel) (by exact (ha5.resolve_left c5)) ?_
    intro s6
    refine ev_r_goto (pc := 14) (o := 7) (t := 21) (by decide +kernel) (by decide +kernel) ?_
    refine ev_r_iconst (pc := 21) (k := 0) (by decide +kernel) ?_
    exact ev_r_ireturn (pc := 22) (x := 0) (v := Int32.ofInt 0) (ty := .int) (by decide) (by decide +kernel) (by decide +kernel) rfl rfl
  · intro E7 s8
    by_cases g0 : E7 = "java/lang/IndexOutOfBoundsException"
    · subst g0
      refine Or.inl ⟨17, (by decide +kernel), ?_⟩
      show ev_w _ _ _ _ _ _ _ (if "java/lang/IndexOutOfBoundsException" = "java/lang/IndexOutOfBoundsException" then some (1, s8) else _) _ _
      rw [if_pos rfl]
      refine ev_r_astore (pc := 17) (k := 6) trivial (by decide +kernel) (by decide +kernel) rfl ?_
      refine ev_r_iconst (pc := 19) (k := 1) (by decide +kernel) ?_
      exact ev_r_ireturn (pc := 20) (x := 1) (v := Int32.ofInt 1) (ty := .int) (by decide) (by decide +kernel) (by decide +kernel) rfl rfl
    · skip
      refine Or.inr ?_
      show (if E7 = "java/lang/IndexOutOfBoundsException" then _ else none) = none
      rw [if_neg g0]
/-- MendBenchLaw.anew(LMendBench;IIII[J)I -/
def jm_374 (Q : Nat) (a0 : Nat) (a1 : Int) (a2 : Int) (a3 : Int) (a4 : Int) (a5 : Nat) (S : ev_St) : Option ((Int) × ev_St) := ev_if (a0 ≠ 0) (ev_bx (jm_177 Q a1 a2 a3 a4 S) (fun x3 s2 => ev_b (ev_i2l x3) fun y4 => ev_if (a5 ≠ 0) (ev_if ((0 : Int) ≤ 0 ∧ 0 < (ev_aln ((a5 - 1)) : Int)) (ev_b (ev_pL s2 ((a5 - 1)) (Int.toNat 0) y4) fun s6 => some (0, s6)))) fun E7 s8 => if E7 = "java/lang/IndexOutOfBoundsException" then some (1, s8) else none)
theorem jt_374 (d : Nat) (hd : 9 ≤ d) (Q : Nat) (a0 : Nat) (a1 : Int) (a2 : Int) (a3 : Int) (a4 : Int) (a5 : Nat) (ha0 : a0 = 0 ∨ ev_isOb (a0 - 1) 12 = true) (ha1 : ev_rng a1) (ha2 : ev_rng a2) (ha3 : ev_rng a3) (ha4 : ev_rng a4) (ha5 : a5 = 0 ∨ ev_isAb (a5 - 1) 2 .long = true) (S : ev_St) (x : Int) (S' : ev_St) (hJ : jm_374 Q a0 a1 a2 a3 a4 a5 S = some (x, S')) : ev_Ref d 374 [ev_nv a0, .int (Int32.ofInt a1), .int (Int32.ofInt a2), .int (Int32.ofInt a3), .int (Int32.ofInt a4), ev_nv a5] S (ev_eI x) S' (ev_rng x) := by
  obtain ⟨d, rfl⟩ : ∃ e, d = e + 1 := ⟨d - 1, by omega⟩
  refine ev_ref_of (P := ev_rng) (lv := [(0, ev_nv a0), (1, .int (Int32.ofInt a1)), (2, .int (Int32.ofInt a2)), (3, .int (Int32.ofInt a3)), (4, .int (Int32.ofInt a4)), (5, ev_nv a5)]) (by decide +kernel) (by (try simp only [ev_sum, ev_nv_cat]); first | done | rfl) (by (try simp only [lv_args, ev_nv_cat]); first | done | rfl) ?_ x S' hJ
  unfold jm_374
  refine ev_r_aload (pc := 0) (k := 5) (v := ev_nv a5) (ev_isR_nv _) (by decide +kernel) (by rfl) ?_
  refine ev_r_iconst (pc := 2) (k := 0) (by decide +kernel) ?_
  refine ev_r_aload_n (pc := 3) (k := 0) (v := ev_nv a0) (ev_isR_nv _) (by decide +kernel) (by rfl) ?_
  refine ev_r_iload_n (pc := 4) (k := 1) (v := Int32.ofInt a1) (by decide +kernel) (by rfl) ?_
  refine ev_r_iload_n (pc := 5) (k := 2) (v := Int32.ofInt a2) (by decide +kernel) (by rfl) ?_
  refine ev_r_iload_n (pc := 6) (k := 3) (v := Int32.ofInt a3) (by decide +kernel) (by rfl) ?_
  refine ev_r_iload (pc := 7) (k := 4) (v := Int32.ofInt a4) (by decide +kernel) (by rfl) ?_
  refine ev_r_chk ?_
  intro c1
  refine ev_r_dr2 (r := a0) (k := 0) (fun v => [.int (Int32.ofInt a4), .int (Int32.ofInt a3), .int (Int32.ofInt a2), .int (Int32.ofInt a1), v, .int (Int32.ofInt 0), ev_nv a5]) c1 (ev_on_12 (ha0.resolve_left c1)) ?_
  refine ev_r_virtX (pc := 9) (y := 50) (mi := 177) (na := 4) (k := 0) (as := [.int (Int32.ofInt a1), .int (Int32.ofInt a2), .int (Int32.ofInt a3), .int (Int32.ofInt a4)]) (rest := [.int (Int32.ofInt 0), ev_nv a5]) (fun x S1 h => jt_177 d (by omega) Q a1 a2 a3 a4 ha1 ha2 ha3 ha4 S x S1 h) (by exact ev_ob_0) (by decide +kernel) (by decide +kernel) (by decide +kernel) (by decide +kernel) rfl (by (try simp only [ev_sum, ev_nv_cat]); first | done | rfl) ?_ ?_
  · intro x3 s2 hx3
    show ev_w _ _ _ _ _ [.int (Int32.ofInt x3), .int (Int32.ofInt 0), ev_nv a5] _ _ _ _
    refine ev_r_toL (pc := 12) (i := .i2l) (len := 1) (pc' := 13) (by decide +kernel) rfl ?_
    intro y4
    refine ev_r_chk ?_
    intro c5
    refine ev_r_dr (r := a5) (fun v => [.long y4, .int (Int32.ofInt 0), v]) c5 ?_
    refine ev_r_last (pc := 13) (by decide) (by decide +kernel) (by exact (ha5.resolve_left c5)) ?_
    intro s6
    refine ev_r_goto (pc := 14) (o := 7) (t := 21) (by decide +kernel) (by decide +kernel) ?_
    refine ev_r_iconst (pc := 21) (k := 0) (by decide +kernel) ?_
    exact ev_r_ireturn (pc := 22) (x := 0) (v := Int32.ofInt 0) (ty := .int) (by decide) (by decide +kernel) (by decide +kernel) rfl rfl
  · intro E7 s8
    by_cases g0 : E7 = "java/lang/IndexOutOfBoundsException"
    · subst g0
      refine Or.inl ⟨17, (by decide +kernel), ?_⟩
      show ev_w _ _ _ _ _ _ _ (if "java/lang/IndexOutOfBoundsException" = "java/lang/IndexOutOfBoundsException" then some (1, s8) else _) _ _
      rw [if_pos rfl]
      refine ev_r_astore (pc := 17) (k := 6) trivial (by decide +kernel) (by decide +kernel) rfl ?_
      refine ev_r_iconst (pc := 19) (k := 1) (by decide +kernel) ?_
      exact ev_r_ireturn (pc := 20) (x := 1) (v := Int32.ofInt 1) (ty := .int) (by decide) (by decide +kernel) (by decide +kernel) rfl rfl
    · skip
      refine Or.inr ?_
      show (if E7 = "java/lang/IndexOutOfBoundsException" then _ else none) = none
      rw [if_neg g0]
/-- MendBenchLaw.by(LMendBench;IIIII[J)I -/
def jm_375 (Q : Nat) (a0 : Nat) (a1 : Int) (a2 : Int) (a3 : Int) (a4 : Int) (a5 : Int) (a6 : Nat) (S : ev_St) : Option ((Int) × ev_St) := ev_if (a0 ≠ 0) (ev_bx (jm_178 Q a1 a2 a3 a4 a5 S) (fun x3 s2 => ev_b (ev_i2l x3) fun y4 => ev_if (a6 ≠ 0) (ev_if ((0 : Int) ≤ 0 ∧ 0 < (ev_aln ((a6 - 1)) : Int)) (ev_b (ev_pL s2 ((a6 - 1)) (Int.toNat 0) y4) fun s6 => some (0, s6)))) fun E7 s8 => if E7 = "java/lang/IndexOutOfBoundsException" then some (1, s8) else if E7 = "java/lang/IllegalArgumentException" then some (2, s8) else none)
theorem jt_375 (d : Nat) (hd : 9 ≤ d) (Q : Nat) (a0 : Nat) (a1 : Int) (a2 : Int) (a3 : Int) (a4 : Int) (a5 : Int) (a6 : Nat) (ha0 : a0 = 0 ∨ ev_isOb (a0 - 1) 12 = true) (ha1 : ev_rng a1) (ha2 : ev_rng a2) (ha3 : ev_rng a3) (ha4 : ev_rng a4) (ha5 : ev_rng a5) (ha6 : a6 = 0 ∨ ev_isAb (a6 - 1) 2 .long = true) (S : ev_St) (x : Int) (S' : ev_St) (hJ : jm_375 Q a0 a1 a2 a3 a4 a5 a6 S = some (x, S')) : ev_Ref d 375 [ev_nv a0, .int (Int32.ofInt a1), .int (Int32.ofInt a2), .int (Int32.ofInt a3), .int (Int32.ofInt a4), .int (Int32.ofInt a5), ev_nv a6] S (ev_eI x) S' (ev_rng x) := by
  obtain ⟨d, rfl⟩ : ∃ e, d = e + 1 := ⟨d - 1, by omega⟩
  refine ev_ref_of (P := ev_rng) (lv := [(0, ev_nv a0), (1, .int (Int32.ofInt a1)), (2, .int (Int32.ofInt a2)), (3, .int (Int32.ofInt a3)), (4, .int (Int32.ofInt a4)), (5, .int (Int32.ofInt a5)), (6, ev_nv a6)]) (by decide +kernel) (by (try simp only [ev_sum, ev_nv_cat]); first | done | rfl) (by (try simp only [lv_args, ev_nv_cat]); first | done | rfl) ?_ x S' hJ
  unfold jm_375
  refine ev_r_aload (pc := 0) (k := 6) (v := ev_nv a6) (ev_isR_nv _) (by decide +kernel) (by rfl) ?_
  refine ev_r_iconst (pc := 2) (k := 0) (by decide +kernel) ?_
  refine ev_r_aload_n (pc := 3) (k := 0) (v := ev_nv a0) (ev_isR_nv _) (by decide +kernel) (by rfl) ?_
  refine ev_r_iload_n (pc := 4) (k := 1) (v := Int32.ofInt a1) (by decide +kernel) (by rfl) ?_
  refine ev_r_iload_n (pc := 5) (k := 2) (v := Int32.ofInt a2) (by decide +kernel) (by rfl) ?_
  refine ev_r_iload_n (pc := 6) (k := 3) (v := Int32.ofInt a3) (by decide +kernel) (by rfl) ?_
  refine ev_r_iload (pc := 7) (k := 4) (v := Int32.ofInt a4) (by decide +kernel) (by rfl) ?_
  refine ev_r_iload (pc := 9) (k := 5) (v := Int32.ofInt a5) (by decide +kernel) (by rfl) ?_
  refine ev_r_chk ?_
  intro c1
  refine ev_r_dr2 (r := a0) (k := 0) (fun v => [.int (Int32.ofInt a5), .int (Int32.ofInt a4), .int (Int32.ofInt a3), .int (Int32.ofInt a2), .int (Int32.ofInt a1), v, .int (Int32.ofInt 0), ev_nv a6]) c1 (ev_on_12 (ha0.resolve_left c1)) ?_
  refine ev_r_virtX (pc := 11) (y := 53) (mi := 178) (na := 5) (k := 0) (as := [.int (Int32.ofInt a1), .int (Int32.ofInt a2), .int (Int32.ofInt a3), .int (Int32.ofInt a4), .int (Int32.ofInt a5)]) (rest := [.int (Int32.ofInt 0), ev_nv a6]) (fun x S1 h => jt_178 d (by omega) Q a1 a2 a3 a4 a5 ha1 ha2 ha3 ha4 ha5 S x S1 h) (by exact ev_ob_0) (by decide +kernel) (by decide +kernel) (by decide +kernel) (by decide +kernel) rfl (by (try simp only [ev_sum, ev_nv_cat]); first | done | rfl) ?_ ?_
  · intro x3 s2 hx3
    show ev_w _ _ _ _ _ [.int (Int32.ofInt x3), .int (Int32.ofInt 0), ev_nv a6] _ _ _ _
    refine ev_r_toL (pc := 14) (i := .i2l) (len := 1) (pc' := 15) (by decide +kernel) rfl ?_
    intro y4
    refine ev_r_chk ?_
    intro c5
    refine ev_r_dr (r := a6) (fun v => [.long y4, .int (Int32.ofInt 0), v]) c5 ?_
    refine ev_r_last (pc := 15) (by decide) (by decide +kernel) (by exact (ha6.resolve_left c5)) ?_
    intro s6
    refine ev_r_goto (pc := 16) (o := 11) (t := 27) (by decide +kernel) (by decide +kernel) ?_
    refine ev_r_iconst (pc := 27) (k := 0) (by decide +kernel) ?_
    exact ev_r_ireturn (pc := 28) (x := 0) (v := Int32.ofInt 0) (ty := .int) (by decide) (by decide +kernel) (by decide +kernel) rfl rfl
  · intro E7 s8
    by_cases g0 : E7 = "java/lang/IndexOutOfBoundsException"
    · subst g0
      refine Or.inl ⟨19, (by decide +kernel), ?_⟩
      show ev_w _ _ _ _ _ _ _ (if "java/lang/IndexOutOfBoundsException" = "java/lang/IndexOutOfBoundsException" then some (1, s8) else _) _ _
      rw [if_pos rfl]
      refine ev_r_astore (pc := 19) (k := 7) trivial (by decide +kernel) (by decide +kernel) rfl ?_
      refine ev_r_iconst (pc := 21) (k := 1) (by decide +kernel) ?_
      exact ev_r_ireturn (pc := 22) (x := 1) (v := Int32.ofInt 1) (ty := .int) (by decide) (by decide +kernel) (by decide +kernel) rfl rfl
    · skip
      by_cases g1 : E7 = "java/lang/IllegalArgumentException"
      · subst g1
        refine Or.inl ⟨23, (by decide +kernel), ?_⟩
        show ev_w _ _ _ _ _ _ _ (if "java/lang/IllegalArgumentException" = "java/lang/IndexOutOfBoundsException" then _ else if "java/lang/IllegalArgumentException" = "java/lang/IllegalArgumentException" then some (2, s8) else _) _ _
        rw [if_neg (by decide), if_pos rfl]
        refine ev_r_astore (pc := 23) (k := 7) trivial (by decide +kernel) (by decide +kernel) rfl ?_
        refine ev_r_iconst (pc := 25) (k := 2) (by decide +kernel) ?_
        exact ev_r_ireturn (pc := 26) (x := 2) (v := Int32.ofInt 2) (ty := .int) (by decide) (by decide +kernel) (by decide +kernel) rfl rfl
      · skip
        refine Or.inr ?_
        show (if E7 = "java/lang/IndexOutOfBoundsException" then _ else if E7 = "java/lang/IllegalArgumentException" then _ else none) = none
        rw [if_neg g0, if_neg g1]
/-- MendBenchLaw.steps(LMendBench;III[J)I -/
def jm_376 (Q : Nat) (a0 : Nat) (a1 : Int) (a2 : Int) (a3 : Int) (a4 : Nat) (S : ev_St) : Option ((Int) × ev_St) := ev_if (a0 ≠ 0) (ev_bx (jm_179 Q a1 a2 a3 S) (fun x3 s2 => ev_b (ev_i2l x3) fun y4 => ev_if (a4 ≠ 0) (ev_if ((0 : Int) ≤ 0 ∧ 0 < (ev_aln ((a4 - 1)) : Int)) (ev_b (ev_pL s2 ((a4 - 1)) (Int.toNat 0) y4) fun s6 => some (0, s6)))) fun E7 s8 => if E7 = "java/lang/IndexOutOfBoundsException" then some (1, s8) else none)
theorem jt_376 (d : Nat) (hd : 8 ≤ d) (Q : Nat) (a0 : Nat) (a1 : Int) (a2 : Int) (a3 : Int) (a4 : Nat) (ha0 : a0 = 0 ∨ ev_isOb (a0 - 1) 12 = true) (ha1 : ev_rng a1) (ha2 : ev_rng a2) (ha3 : ev_rng a3) (ha4 : a4 = 0 ∨ ev_isAb (a4 - 1) 2 .long = true) (S : ev_St) (x : Int) (S' : ev_St) (hJ : jm_376 Q a0 a1 a2 a3 a4 S = some (x, S')) : ev_Ref d 376 [ev_nv a0, .int (Int32.ofInt a1), .int (Int32.ofInt a2), .int (Int32.ofInt a3), ev_nv a4] S (ev_eI x) S' (ev_rng x) := by
  obtain ⟨d, rfl⟩ : ∃ e, d = e + 1 := ⟨d - 1, by omega⟩
  refine ev_ref_of (P := ev_rng) (lv := [(0, ev_nv a0), (1, .int (Int32.ofInt a1)), (2, .int (Int32.ofInt a2)), (3, .int (Int32.ofInt a3)), (4, ev_nv a4)]) (by decide +kernel) (by (try simp only [ev_sum, ev_nv_cat]); first | done | rfl) (by (try simp only [lv_args, ev_nv_cat]); first | done | rfl) ?_ x S' hJ
  unfold jm_376
  refine ev_r_aload (pc := 0) (k := 4) (v := ev_nv a4) (ev_isR_nv _) (by decide +kernel) (by rfl) ?_
  refine ev_r_iconst (pc := 2) (k := 0) (by decide +kernel) ?_
  refine ev_r_aload_n (pc := 3) (k := 0) (v := ev_nv a0) (ev_isR_nv _) (by decide +kernel) (by rfl) ?_
  refine ev_r_iload_n (pc := 4) (k := 1) (v := Int32.ofInt a1) (by decide +kernel) (by rfl) ?_
  refine ev_r_iload_n (pc := 5) (k := 2) (v := Int32.ofInt a2) (by decide +kernel) (by rfl) ?_
  refine ev_r_iload_n (pc := 6) (k := 3) (v := Int32.ofInt a3) (by decide +kernel) (by rfl) ?_
  refine ev_r_chk ?_
  intro c1
  refine ev_r_dr2 (r := a0) (k := 0) (fun v => [.int (Int32.ofInt a3), .int (Int32.ofInt a2), .int (Int32.ofInt a1), v, .int (Int32.ofInt 0), ev_nv a4]) c1 (ev_on_12 (ha0.resolve_left c1)) ?_
  refine ev_r_virtX (pc := 7) (y := 57) (mi := 179) (na := 3) (k := 0) (as := [.int (Int32.ofInt a1), .int (Int32.ofInt a2), .int (Int32.ofInt a3)]) (rest := [.int (Int32.ofInt 0), ev_nv a4]) (fun x S1 h => jt_179 d (by omega) Q a1 a2 a3 ha1 ha2 ha3 S x S1 h) (by exact ev_ob_0) (by decide +kernel) (by decide +kernel) (by decide +kernel) (by decide +kernel) rfl (by (try simp only [ev_sum, ev_nv_cat]); first | done | rfl) ?_ ?_
  · intro x3 s2 hx3
    show ev_w _ _ _ _ _ [.int (Int32.ofInt x3), .int (Int32.ofInt 0), ev_nv a4] _ _ _ _
    refine ev_r_toL (pc := 10) (i := .i2l) (len := 1) (pc' := 11) (by decide +kernel) rfl ?_
    intro y4
    refine ev_r_chk ?_
    intro c5
    refine ev_r_dr (r := a4) (fun v => [.long y4, .int (Int32.ofInt 0), v]) c5 ?_
    refine ev_r_last (pc := 11) (by decide) (by decide +kernel) (by exact (ha4.resolve_left c5)) ?_
    intro s6
    refine ev_r_goto (pc := 12) (o := 7) (t := 19) (by decide +kernel) (by decide +kernel) ?_
    refine ev_r_iconst (pc := 19) (k := 0) (by decide +kernel) ?_
    exact ev_r_ireturn (pc := 20) (x := 0) (v := Int32.ofInt 0) (ty := .int) (by decide) (by decide +kernel) (by decide +kernel) rfl rfl
  · intro E7 s8
    by_cases g0 : E7 = "java/lang/IndexOutOfBoundsException"
    · subst g0
      refine Or.inl ⟨15, (by decide +kernel), ?_⟩
      show ev_w _ _ _ _ _ _ _ (if "java/lang/IndexOutOfBoundsException" = "java/lang/IndexOutOfBoundsException" then some (1, s8) else _) _ _
      rw [if_pos rfl]
      refine ev_r_astore (pc := 15) (k := 5) trivial (by decide +kernel) (by decide +kernel) rfl ?_
      refine ev_r_iconst (pc := 17) (k := 1) (by decide +kernel) ?_
      exact ev_r_ireturn (pc := 18) (x := 1) (v := Int32.ofInt 1) (ty := .int) (by decide) (by decide +kernel) (by decide +kernel) rfl rfl
    · skip
      refine Or.inr ?_
      show (if E7 = "java/lang/IndexOutOfBoundsException" then _ else none) = none
      rw [if_neg g0]
/-- MendBenchLaw.back(LMendBench;III[J)I -/
def jm_377 (Q : Nat) (a0 : Nat) (a1 : Int) (a2 : Int) (a3 : Int) (a4 : Nat) (S : ev_St) : Option ((Int) × ev_St) := ev_if (a0 ≠ 0) (ev_bx (jm_180 Q a1 a2 a3 S) (fun x3 s2 => ev_b (ev_i2l x3) fun y4 => ev_if (a4 ≠ 0) (ev_if ((0 : Int) ≤ 0 ∧ 0 < (ev_aln ((a4 - 1)) : Int)) (ev_b (ev_pL s2 ((a4 - 1)) (Int.toNat 0) y4) fun s6 => some (0, s6)))) fun E7 s8 => if E7 = "java/lang/IndexOutOfBoundsException" then some (1, s8) else none)
theorem jt_377 (d : Nat) (hd : 8 ≤ d) (Q : Nat) (a0 : Nat) (a1 : Int) (a2 : Int) (a3 : Int) (a4 : Nat) (ha0 : a0 = 0 ∨ ev_isOb (a0 - 1) 12 = true) (ha1 : ev_rng a1) (ha2 : ev_rng a2) (ha3 : ev_rng a3) (ha4 : a4 = 0 ∨ ev_isAb (a4 - 1) 2 .long = true) (S : ev_St) (x : Int) (S' : ev_St) (hJ : jm_377 Q a0 a1 a2 a3 a4 S = some (x, S')) : ev_Ref d 377 [ev_nv a0, .int (Int32.ofInt a1), .int (Int32.ofInt a2), .int (Int32.ofInt a3), ev_nv a4] S (ev_eI x) S' (ev_rng x) := by
  obtain ⟨d, rfl⟩ : ∃ e, d = e + 1 := ⟨d - 1, by omega⟩
  refine ev_ref_of (P := ev_rng) (lv := [(0, ev_nv a0), (1, .int (Int32.ofInt a1)), (2, .int (Int32.ofInt a2)), (3, .int (Int32.ofInt a3)), (4, ev_nv a4)]) (by decide +kernel) (by (try simp only [ev_sum, ev_nv_cat]); first | done | rfl) (by (try simp only [lv_args, ev_nv_cat]); first | done | rfl) ?_ x S' hJ
  unfold jm_377
  refine ev_r_aload (pc := 0) (k := 4) (v := ev_nv a4) (ev_isR_nv _) (by decide +kernel) (by rfl) ?_
  refine ev_r_iconst (pc := 2) (k := 0) (by decide +kernel) ?_
  refine ev_r_aload_n (pc := 3) (k := 0) (v := ev_nv a0) (ev_isR_nv _) (by decide +kernel) (by rfl) ?_
  refine ev_r_iload_n (pc := 4) (k := 1) (v := Int32.ofInt a1) (by decide +kernel) (by rfl) ?_
  refine ev_r_iload_n (pc := 5) (k := 2) (v := Int32.ofInt a2) (by decide +kernel) (by rfl) ?_
  refine ev_r_iload_n (pc := 6) (k := 3) (v := Int32.ofInt a3) (by decide +kernel) (by rfl) ?_
  refine ev_r_chk ?_
  intro c1
  refine ev_r_dr2 (r := a0) (k := 0) (fun v => [.int (Int32.ofInt a3), .int (Int32.ofInt a2), .int (Int32.ofInt a1), v, .int (Int32.ofInt 0), ev_nv a4]) c1 (ev_on_12 (ha0.resolve_left c1)) ?_
  refine ev_r_virtX (pc := 7) (y := 61) (mi := 180) (na := 3) (k := 0) (as := [.int (Int32.ofInt a1), .int (Int32.ofInt a2), .int (Int32.ofInt a3)]) (rest := [.int (Int32.ofInt 0), ev_nv a4]) (fun x S1 h => jt_180 d (by omega) Q a1 a2 a3 ha1 ha2 ha3 S x S1 h) (by exact ev_ob_0) (by decide +kernel) (by decide +kernel) (by decide +kernel) (by decide +kernel) rfl (by (try simp only [ev_sum, ev_nv_cat]); first | done | rfl) ?_ ?_
  · intro x3 s2 hx3
    show ev_w _ _ _ _ _ [.int (Int32.ofInt x3), .int (Int32.ofInt 0), ev_nv a4] _ _ _ _
    refine ev_r_toL (pc := 10) (i := .i2l) (len := 1) (pc' := 11) (by decide +kernel) rfl ?_
    intro y4
    refine ev_r_chk ?_
    intro c5
    refine ev_r_dr (r := a4) (fun v => [.long y4, .int (Int32.ofInt 0), v]) c5 ?_
    refine ev_r_last (pc := 11) (by decide) (by decide +kernel) (by exact (ha4.resolve_left c5)) ?_
    intro s6
    refine ev_r_goto (pc := 12) (o := 7) (t := 19) (by decide +kernel) (by decide +kernel) ?_
    refine ev_r_iconst (pc := 19) (k := 0) (by decide +kernel) ?_
    exact ev_r_ireturn (pc := 20) (x := 0) (v := Int32.ofInt 0) (ty := .int) (by decide) (by decide +kernel) (by decide +kernel) rfl rfl
  · intro E7 s8
    by_cases g0 : E7 = "java/lang/IndexOutOfBoundsException"
    · subst g0
      refine Or.inl ⟨15, (by decide +kernel), ?_⟩
      show ev_w _ _ _ _ _ _ _ (if "java/lang/IndexOutOfBoundsException" = "java/lang/IndexOutOfBoundsException" then some (1, s8) else _) _ _
      rw [if_pos rfl]
      refine ev_r_astore (pc := 15) (k := 5) trivial (by decide +kernel) (by decide +kernel) rfl ?_
      refine ev_r_iconst (pc := 17) (k := 1) (by decide +kernel) ?_
      exact ev_r_ireturn (pc := 18) (x := 1) (v := Int32.ofInt 1) (ty := .int) (by decide) (by decide +kernel) (by decide +kernel) rfl rfl
    · skip
      refine Or.inr ?_
      show (if E7 = "java/lang/IndexOutOfBoundsException" then _ else none) = none
      rw [if_neg g0]
/-- MendBenchLaw.matches(LMendBench;II[J)I -/
def jm_378 (Q : Nat) (a0 : Nat) (a1 : Int) (a2 : Int) (a3 : Nat) (S : ev_St) : Option ((Int) × ev_St) := ev_if (a0 ≠ 0) (ev_bx (jm_181 Q a1 a2 S) (fun x3 s2 => ev_b (ev_i2l x3) fun y4 => ev_if (a3 ≠ 0) (ev_if ((0 : Int) ≤ 0 ∧ 0 < (ev_aln ((a3 - 1)) : Int)) (ev_b (ev_pL s2 ((a3 - 1)) (Int.toNat 0) y4) fun s6 => some (0, s6)))) fun E7 s8 => if E7 = "java/lang/IndexOutOfBoundsException" then some (1, s8) else none)
theorem jt_378 (d : Nat) (hd : 8 ≤ d) (Q : Nat) (a0 : Nat) (a1 : Int) (a2 : Int) (a3 : Nat) (ha0 : a0 = 0 ∨ ev_isOb (a0 - 1) 12 = true) (ha1 : ev_rng a1) (ha2 : ev_rng a2) (ha3 : a3 = 0 ∨ ev_isAb (a3 - 1) 2 .long = true) (S : ev_St) (x : Int) (S' : ev_St) (hJ : jm_378 Q a0 a1 a2 a3 S = some (x, S')) : ev_Ref d 378 [ev_nv a0, .int (Int32.ofInt a1), .int (Int32.ofInt a2), ev_nv a3] S (ev_eI x) S' (ev_rng x) := by
  obtain ⟨d, rfl⟩ : ∃ e, d = e + 1 := ⟨d - 1, by omega⟩
  refine ev_ref_of (P := ev_rng) (lv := [(0, ev_nv a0), (1, .int (Int32.ofInt a1)), (2, .int (Int32.ofInt a2)), (3, ev_nv a3)]) (by decide +kernel) (by (try simp only [ev_sum, ev_nv_cat]); first | done | rfl) (by (try simp only [lv_args, ev_nv_cat]); first | done | rfl) ?_ x S' hJ
  unfold jm_378
  refine ev_r_aload_n (pc := 0) (k := 3) (v := ev_nv a3) (ev_isR_nv _) (by decide +kernel) (by rfl) ?_
  refine ev_r_iconst (pc := 1) (k := 0) (by decide +kernel) ?_
  refine ev_r_aload_n (pc := 2) (k := 0) (v := ev_nv a0) (ev_isR_nv _) (by decide +kernel) (by rfl) ?_
  refine ev_r_iload_n (pc := 3) (k := 1) (v := Int32.ofInt a1) (by decide +kernel) (by rfl) ?_
  refine ev_r_iload_n (pc := 4) (k := 2) (v := Int32.ofInt a2) (by decide +kernel) (by rfl) ?_
  refine ev_r_chk ?_
  intro c1
  refine ev_r_dr2 (r := a0) (k := 0) (fun v => [.int (Int32.ofInt a2), .int (Int32.ofInt a1), v, .int (Int32.ofInt 0), ev_nv a3]) c1 (ev_on_12 (ha0.resolve_left c1)) ?_
  refine ev_r_virtX (pc := 5) (y := 64) (mi := 181) (na := 2) (k := 0) (as := [.int (Int32.ofInt a1), .int (Int32.ofInt a2)]) (rest := [.int (Int32.ofInt 0), ev_nv a3]) (fun x S1 h => jt_181 d (by omega) Q a1 a2 ha1 ha2 S x S1 h) (by exact ev_ob_0) (by decide +kernel) (by decide +kernel) (by decide +kernel) (by decide +kernel) rfl (by (try simp only [ev_sum, ev_nv_cat]); first | done | rfl) ?_ ?_
  · intro x3 s2 hx3
    show ev_w _ _ _ _ _ [.int (Int32.ofInt x3), .int (Int32.ofInt 0), ev_nv a3] _ _ _ _
    refine ev_r_toL (pc := 8) (i := .i2l) (len := 1) (pc' := 9) (by decide +kernel) rfl ?_
    intro y4
    refine ev_r_chk ?_
    intro c5
    refine ev_r_dr (r := a3) (fun v => [.long y4, .int (Int32.ofInt 0), v]) c5 ?_
    refine ev_r_last (pc := 9) (by decide) (by decide +kernel) (by exact (ha3.resolve_left c5)) ?_
    intro s6
    refine ev_r_goto (pc := 10) (o := 7) (t := 17) (by decide +kernel) (by decide +kernel) ?_
    refine ev_r_iconst (pc := 17) (k := 0) (by decide +kernel) ?_
    exact ev_r_ireturn (pc := 18) (x := 0) (v := Int32.ofInt 0) (ty := .int) (by decide) (by decide +kernel) (by decide +kernel) rfl rfl
  · intro E7 s8
    by_cases g0 : E7 = "java/lang/IndexOutOfBoundsException"
    · subst g0
      refine Or.inl ⟨13, (by decide +kernel), ?_⟩
      show ev_w _ _ _ _ _ _ _ (if "java/lang/IndexOutOfBoundsException" = "java/lang/IndexOutOfBoundsException" then some (1, s8) else _) _ _
      rw [if_pos rfl]
      refine ev_r_astore (pc := 13) (k := 4) trivial (by decide +kernel) (by decide +kernel) rfl ?_
      refine ev_r_iconst (pc := 15) (k := 1) (by decide +kernel) ?_
      exact ev_r_ireturn (pc := 16) (x := 1) (v := Int32.ofInt 1) (ty := .int) (by decide) (by decide +kernel) (by decide +kernel) rfl rfl
    · skip
      refine Or.inr ?_
      show (if E7 = "java/lang/IndexOutOfBoundsException" then _ else none) = none
      rw [if_neg g0]
/-- MendBenchLaw.match(LMendBench;III[J)I -/
def jm_379 (Q : Nat) (a0 : Nat) (a1 : Int) (a2 : Int) (a3 : Int) (a4 : Nat) (S : ev_St) : Option ((Int) × ev_St) := ev_if (a0 ≠ 0) (ev_bx (jm_182 Q a1 a2 a3 S) (fun x3 s2 => ev_b (ev_i2l x3) fun y4 => ev_if (a4 ≠ 0) (ev_if ((0 : Int) ≤ 0 ∧ 0 < (ev_aln ((a4 - 1)) : Int)) (ev_b (ev_pL s2 ((a4 - 1)) (Int.toNat 0) y4) fun s6 => some (0, s6)))) fun E7 s8 => if E7 = "java/lang/IndexOutOfBoundsException" then some (1, s8) else none)
theorem jt_379 (d : Nat) (hd : 8 ≤ d) (Q : Nat) (a0 : Nat) (a1 : Int) (a2 : Int) (a3 : Int) (a4 : Nat) (ha0 : a0 = 0 ∨ ev_isOb (a0 - 1) 12 = true) (ha1 : ev_rng a1) (ha2 : ev_rng a2) (ha3 : ev_rng a3) (ha4 : a4 = 0 ∨ ev_isAb (a4 - 1) 2 .long = true) (S : ev_St) (x : Int) (S' : ev_St) (hJ : jm_379 Q a0 a1 a2 a3 a4 S = some (x, S')) : ev_Ref d 379 [ev_nv a0, .int (Int32.ofInt a1), .int (Int32.ofInt a2), .int (Int32.ofInt a3), ev_nv a4] S (ev_eI x) S' (ev_rng x) := by
  obtain ⟨d, rfl⟩ : ∃ e, d = e + 1 := ⟨d - 1, by omega⟩
  refine ev_ref_of (P := ev_rng) (lv := [(0, ev_nv a0), (1, .int (Int32.ofInt a1)), (2, .int (Int32.ofInt a2)), (3, .int (Int32.ofInt a3)), (4, ev_nv a4)]) (by decide +kernel) (by (try simp only [ev_sum, ev_nv_cat]); first | done | rfl) (by (try simp only [lv_args, ev_nv_cat]); first | done | rfl) ?_ x S' hJ
  unfold jm_379
  refine ev_r_aload (pc := 0) (k := 4) (v := ev_nv a4) (ev_isR_nv _) (by decide +kernel) (by rfl) ?_
  refine ev_r_iconst (pc := 2) (k := 0) (by decide +kernel) ?_
  refine ev_r_aload_n (pc := 3) (k := 0) (v := ev_nv a0) (ev_isR_nv _) (by decide +kernel) (by rfl) ?_
  refine ev_r_iload_n (pc := 4) (k := 1) (v := Int32.ofInt a1) (by decide +kernel) (by rfl) ?_
  refine ev_r_iload_n (pc := 5) (k := 2) (v := Int32.ofInt a2) (by decide +kernel) (by rfl) ?_
  refine ev_r_iload_n (pc := 6) (k := 3) (v := Int32.ofInt a3) (by decide +kernel) (by rfl) ?_
  refine ev_r_chk ?_
  intro c1
  refine ev_r_dr2 (r := a0) (k := 0) (fun v => [.int (Int32.ofInt a3), .int (Int32.ofInt a2), .int (Int32.ofInt a1), v, .int (Int32.ofInt 0), ev_nv a4]) c1 (ev_on_12 (ha0.resolve_left c1)) ?_
  refine ev_r_virtX (pc := 7) (y := 67) (mi := 182) (na := 3) (k := 0) (as := [.int (Int32.ofInt a1), .int (Int32.ofInt a2), .int (Int32.ofInt a3)]) (rest := [.int (Int32.ofInt 0), ev_nv a4]) (fun x S1 h => jt_182 d (by omega) Q a1 a2 a3 ha1 ha2 ha3 S x S1 h) (by exact ev_ob_0) (by decide +kernel) (by decide +kernel) (by decide +kernel) (by decide +kernel) rfl (by (try simp only [ev_sum, ev_nv_cat]); first | done | rfl) ?_ ?_
  · intro x3 s2 hx3
    show ev_w _ _ _ _ _ [.int (Int32.ofInt x3), .int (Int32.ofInt 0), ev_nv a4] _ _ _ _
    refine ev_r_toL (pc := 10) (i := .i2l) (len := 1) (pc' := 11) (by decide +kernel) rfl ?_
    intro y4
    refine ev_r_chk ?_
    intro c5
    refine ev_r_dr (r := a4) (fun v => [.long y4, .int (Int32.ofInt 0), v]) c5 ?_
    refine ev_r_last (pc := 11) (by decide) (by decide +kernel) (by exact (ha4.resolve_left c5)) ?_
    intro s6
    refine ev_r_goto (pc := 12) (o := 7) (t := 19) (by decide +kernel) (by decide +kernel) ?_
    refine ev_r_iconst (pc := 19) (k := 0) (by decide +kernel) ?_
    exact ev_r_ireturn (pc := 20) (x := 0) (v := Int32.ofInt 0) (ty := .int) (by decide) (by decide +kernel) (by decide +kernel) rfl rfl
  · intro E7 s8
    by_cases g0 : E7 = "java/lang/IndexOutOfBoundsException"
    · subst g0
      refine Or.inl ⟨15, (by decide +kernel), ?_⟩
      show ev_w _ _ _ _ _ _ _ (if "java/lang/IndexOutOfBoundsException" = "java/lang/IndexOutOfBoundsException" then some (1, s8) else _) _ _
      rw [if_pos rfl]
      refine ev_r_astore (pc := 15) (k := 5) trivial (by decide +kernel) (by decide +kernel) rfl ?_
      refine ev_r_iconst (pc := 17) (k := 1) (by decide +kernel) ?_
      exact ev_r_ireturn (pc := 18) (x := 1) (v := Int32.ofInt 1) (ty := .int) (by decide) (by decide +kernel) (by decide +kernel) rfl rfl
    · skip
      refine Or.inr ?_
      show (if E7 = "java/lang/IndexOutOfBoundsException" then _ else none) = none
      rw [if_neg g0]
/-- MendBenchLaw.fill(LMendBench;I[J)I -/
def jm_380 (Q : Nat) (a0 : Nat) (a1 : Int) (a2 : Nat) (S : ev_St) : Option ((Int) × ev_St) := ev_if (a0 ≠ 0) (ev_bx (jm_183 Q a1 S) (fun x3 s2 => ev_b (ev_i2l x3) fun y4 => ev_if (a2 ≠ 0) (ev_if ((0 : Int) ≤ 0 ∧ 0 < (ev_aln ((a2 - 1)) : Int)) (ev_b (ev_pL s2 ((a2 - 1)) (Int.toNat 0) y4) fun s6 => some (0, s6)))) fun E7 s8 => if E7 = "java/lang/IndexOutOfBoundsException" then some (1, s8) else if E7 = "java/lang/IllegalStateException" then some (2, s8) else none)
theorem jt_380 (d : Nat) (hd : 7 ≤ d) (Q : Nat) (a0 : Nat) (a1 : Int) (a2 : Nat) (ha0 : a0 = 0 ∨ ev_isOb (a0 - 1) 12 = true) (ha1 : ev_rng a1) (ha2 : a2 = 0 ∨ ev_isAb (a2 - 1) 2 .long = true) (S : ev_St) (x : Int) (S' : ev_St) (hJ : jm_380 Q a0 a1 a2 S = some (x, S')) : ev_Ref d 380 [ev_nv a0, .int (Int32.ofInt a1), ev_nv a2] S (ev_eI x) S' (ev_rng x) := by
  obtain ⟨d, rfl⟩ : ∃ e, d = e + 1 := ⟨d - 1, by omega⟩
  refine ev_ref_of (P := ev_rng) (lv := [(0, ev_nv a0), (1, .int (Int32.ofInt a1)), (2, ev_nv a2)]) (by decide +kernel) (by (try simp only [ev_sum, ev_nv_cat]); first | done | rfl) (by (try simp only [lv_args, ev_nv_cat]); first | done | rfl) ?_ x S' hJ
  unfold jm_380
  refine ev_r_aload_n (pc := 0) (k := 2) (v := ev_nv a2) (ev_isR_nv _) (by decide +kernel) (by rfl) ?_
  refine ev_r_iconst (pc := 1) (k := 0) (by decide +kernel) ?_
  refine ev_r_aload_n (pc := 2) (k := 0) (v := ev_nv a0) (ev_isR_nv _) (by decide +kernel) (by rfl) ?_
  refine ev_r_iload_n (pc := 3) (k := 1) (v := Int32.ofInt a1) (by decide +kernel) (by rfl) ?_
  refine ev_r_chk ?_
  intro c1
  refine ev_r_dr2 (r := a0) (k := 0) (fun v => [.int (Int32.ofInt a1), v, .int (Int32.ofInt 0), ev_nv a2]) c1 (ev_on_12 (ha0.resolve_left c1)) ?_
  refine ev_r_virtX (pc := 4) (y := 70) (mi := 183) (na := 1) (k := 0) (as := [.int (Int32.ofInt a1)]) (rest := [.int (Int32.ofInt 0), ev_nv a2]) (fun x S1 h => jt_183 d (by omega) Q a1 ha1 S x S1 h) (by exact ev_ob_0) (by decide +kernel) (by decide +kernel) (by decide +kernel) (by decide +kernel) rfl (by (try simp only [ev_sum, ev_nv_cat]); first | done | rfl) ?_ ?_
  · intro x3 s2 hx3
    show ev_w _ _ _ _ _ [.int (Int32.ofInt x3), .int (Int32.ofInt 0), ev_nv a2] _ _ _ _
    refine ev_r_toL (pc := 7) (i := .i2l) (len := 1) (pc' := 8) (by decide +kernel) rfl ?_
    intro y4
    refine ev_r_chk ?_
    intro c5
    refine ev_r_dr (r := a2) (fun v => [.long y4, .int (Int32.ofInt 0), v]) c5 ?_
    refine ev_r_last (pc := 8) (by decide) (by decide +kernel) (by exact (ha2.resolve_left c5)) ?_
    intro s6
    refine ev_r_goto (pc := 9) (o := 9) (t := 18) (by decide +kernel) (by decide +kernel) ?_
    refine ev_r_iconst (pc := 18) (k := 0) (by decide +kernel) ?_
    exact ev_r_ireturn (pc := 19) (x := 0) (v := Int32.ofInt 0) (ty := .int) (by decide) (by decide +kernel) (by decide +kernel) rfl rfl
  · intro E7 s8
    by_cases g0 : E7 = "java/lang/IndexOutOfBoundsException"
    · subst g0
      refine Or.inl ⟨12, (by decide +kernel), ?_⟩
      show ev_w _ _ _ _ _ _ _ (if "java/lang/IndexOutOfBoundsException" = "java/lang/IndexOutOfBoundsException" then some (1, s8) else _) _ _
      rw [if_pos rfl]
      refine ev_r_astore_n (pc := 12) (k := 3) trivial (by decide +kernel) (by decide +kernel) rfl ?_
      refine ev_r_iconst (pc := 13) (k := 1) (by decide +kernel) ?_
      exact ev_r_ireturn (pc := 14) (x := 1) (v := Int32.ofInt 1) (ty := .int) (by decide) (by decide +kernel) (by decide +kernel) rfl rfl
    · skip
      by_cases g1 : E7 = "java/lang/IllegalStateException"
      · subst g1
        refine Or.inl ⟨15, (by decide +kernel), ?_⟩
        show ev_w _ _ _ _ _ _ _ (if "java/lang/IllegalStateException" = "java/lang/IndexOutOfBoundsException" then _ else if "java/lang/IllegalStateException" = "java/lang/IllegalStateException" then some (2, s8) else _) _ _
        rw [if_neg (by decide), if_pos rfl]
        refine ev_r_astore_n (pc := 15) (k := 3) trivial (by decide +kernel) (by decide +kernel) rfl ?_
        refine ev_r_iconst (pc := 16) (k := 2) (by decide +kernel) ?_
        exact ev_r_ireturn (pc := 17) (x := 2) (v := Int32.ofInt 2) (ty := .int) (by decide) (by decide +kernel) (by decide +kernel) rfl rfl
      · skip
        refine Or.inr ?_
        show (if E7 = "java/lang/IndexOutOfBoundsException" then _ else if E7 = "java/lang/IllegalStateException" then _ else none) = none
        rw [if_neg g0, if_neg g1]
/-- MendBenchLaw.size(LMendBench;I[J)I -/
def jm_381 (Q : Nat) (a0 : Nat) (a1 : Int) (a2 : Nat) (S : ev_St) : Option ((Int) × ev_St) := ev_if (a0 ≠ 0) (ev_bx (jm_184 Q a1 S) (fun x3 s2 => ev_b (ev_i2l x3) fun y4 => ev_if (a2 ≠ 0) (ev_if ((0 : Int) ≤ 0 ∧ 0 < (ev_aln ((a2 - 1)) : Int)) (ev_b (ev_pL s2 ((a2 - 1)) (Int.toNat 0) y4) fun s6 => some (0, s6)))) fun E7 s8 => if E7 = "java/lang/IndexOutOfBoundsException" then some (1, s8) else none)
theorem jt_381 (d : Nat) (hd : 7 ≤ d) (Q : Nat) (a0 : Nat) (a1 : Int) (a2 : Nat) (ha0 : a0 = 0 ∨ ev_isOb (a0 - 1) 12 = true) (ha1 : ev_rng a1) (ha2 : a2 = 0 ∨ ev_isAb (a2 - 1) 2 .long = true) (S : ev_St) (x : Int) (S' : ev_St) (hJ : jm_381 Q a0 a1 a2 S = some (x, S')) : ev_Ref d 381 [ev_nv a0, .int (Int32.ofInt a1), ev_nv a2] S (ev_eI x) S' (ev_rng x) := by
  obtain ⟨d, rfl⟩ : ∃ e, d = e + 1 := ⟨d - 1, by omega⟩
  refine ev_ref_of (P := ev_rng) (lv := [(0, ev_nv a0), (1, .int (Int32.ofInt a1)), (2, ev_nv a2)]) (by decide +kernel) (by (try simp only [ev_sum, ev_nv_cat]); first | done | rfl) (by (try simp only [lv_args, ev_nv_cat]); first | done | rfl) ?_ x S' hJ
  unfold jm_381
  refine ev_r_aload_n (pc := 0) (k := 2) (v := ev_nv a2) (ev_isR_nv _) (by decide +kernel) (by rfl) ?_
  refine ev_r_iconst (pc := 1) (k := 0) (by decide +kernel) ?_
  refine ev_r_aload_n (pc := 2) (k := 0) (v := ev_nv a0) (ev_isR_nv _) (by decide +kernel) (by rfl) ?_
  refine ev_r_iload_n (pc := 3) (k := 1) (v := Int32.ofInt a1) (by decide +kernel) (by rfl) ?_
  refine ev_r_chk ?_
  intro c1
  refine ev_r_dr2 (r := a0) (k := 0) (fun v => [.int (Int32.ofInt a1), v, .int (Int32.ofInt 0), ev_nv a2]) c1 (ev_on_12 (ha0.resolve_left c1)) ?_
  refine ev_r_virtX (pc := 4) (y := 73) (mi := 184) (na := 1) (k := 0) (as := [.int (Int32.ofInt a1)]) (rest := [.int (Int32.ofInt 0), ev_nv a2]) (fun x S1 h => jt_184 d (by omega) Q a1 ha1 S x S1 h) (by exact ev_ob_0) (by decide +kernel) (by decide +kernel) (by decide +kernel) (by decide +kernel) rfl (by (try simp only [ev_sum, ev_nv_cat]); first | done | rfl) ?_ ?_
  · intro x3 s2 hx3
    show ev_w _ _ _ _ _ [.int (Int32.ofInt x3), .int (Int32.ofInt 0), ev_nv a2] _ _ _ _
    refine ev_r_toL (pc := 7) (i := .i2l) (len := 1) (pc' := 8) (by decide +kernel) rfl ?_
    intro y4
    refine ev_r_chk ?_
    intro c5
    refine ev_r_dr (r := a2) (fun v => [.long y4, .int (Int32.ofInt 0), v]) c5 ?_
    refine ev_r_last (pc := 8) (by decide) (by decide +kernel) (by exact (ha2.resolve_left c5)) ?_
    intro s6
    refine ev_r_goto (pc := 9) (o := 6) (t := 15) (by decide +kernel) (by decide +kernel) ?_
    refine ev_r_iconst (pc := 15) (k := 0) (by decide +kernel) ?_
    exact ev_r_ireturn (pc := 16) (x := 0) (v := Int32.ofInt 0) (ty := .int) (by decide) (by decide +kernel) (by decide +kernel) rfl rfl
  · intro E7 s8
    by_cases g0 : E7 = "java/lang/IndexOutOfBoundsException"
    · subst g0
      refine Or.inl ⟨12, (by decide +kernel), ?_⟩
      show ev_w _ _ _ _ _ _ _ (if "java/lang/IndexOutOfBoundsException" = "java/lang/IndexOutOfBoundsException" then some (1, s8) else _) _ _
      rw [if_pos rfl]
      refine ev_r_astore_n (pc := 12) (k := 3) trivial (by decide +kernel) (by decide +kernel) rfl ?_
      refine ev_r_iconst (pc := 13) (k := 1) (by decide +kernel) ?_
      exact ev_r_ireturn (pc := 14) (x := 1) (v := Int32.ofInt 1) (ty := .int) (by decide) (by decide +kernel) (by decide +kernel) rfl rfl
    · skip
      refine Or.inr ?_
      show (if E7 = "java/lang/IndexOutOfBoundsException" then _ else none) = none
      rw [if_neg g0]
/-- MendBenchLaw.sign(LMendBench;II[J)I -/
def jm_382 (Q : Nat) (a0 : Nat) (a1 : Int) (a2 : Int) (a3 : Nat) (S : ev_St) : Option ((Int) × ev_St) := ev_if (a0 ≠ 0) (ev_bx (jm_185 Q a1 a2 S) (fun x3 s2 => ev_b (ev_i2l x3) fun y4 => ev_if (a3 ≠ 0) (ev_if ((0 : Int) ≤ 0 ∧ 0 < (ev_aln ((a3 - 1)) : Int)) (ev_b (ev_pL s2 ((a3 - 1)) (Int.toNat 0) y4) fun s6 => some (0, s6)))) fun E7 s8 => if E7 = "java/lang/IndexOutOfBoundsException" then some (1, s8) else none)
theorem jt_382 (d : Nat) (hd : 7 ≤ d) (Q : Nat) (a0 : Nat) (a1 : Int) (a2 : Int) (a3 : Nat) (ha0 : a0 = 0 ∨ ev_isOb (a0 - 1) 12 = true) (ha1 : ev_rng a1) (ha2 : ev_rng a2) (ha3 : a3 = 0 ∨ ev_isAb (a3 - 1) 2 .long = true) (S : ev_St) (x : Int) (S' : ev_St) (hJ : jm_382 Q a0 a1 a2 a3 S = some (x, S')) : ev_Ref d 382 [ev_nv a0, .int (Int32.ofInt a1), .int (Int32.ofInt a2), ev_nv a3] S (ev_eI x) S' (ev_rng x) := by
  obtain ⟨d, rfl⟩ : ∃ e, d = e + 1 := ⟨d - 1, by omega⟩
  refine ev_ref_of (P := ev_rng) (lv := [(0, ev_nv a0), (1, .int (Int32.ofInt a1)), (2, .int (Int32.ofInt a2)), (3, ev_nv a3)]) (by decide +kernel) (by (try simp only [ev_sum, ev_nv_cat]); first | done | rfl) (by (try simp only [lv_args, ev_nv_cat]); first | done | rfl) ?_ x S' hJ
  unfold jm_382
  refine ev_r_aload_n (pc := 0) (k := 3) (v := ev_nv a3) (ev_isR_nv _) (by decide +kernel) (by rfl) ?_
  refine ev_r_iconst (pc := 1) (k := 0) (by decide +kernel) ?_
  refine ev_r_aload_n (pc := 2) (k := 0) (v := ev_nv a0) (ev_isR_nv _) (by decide +kernel) (by rfl) ?_
  refine ev_r_iload_n (pc := 3) (k := 1) (v := Int32.ofInt a1) (by decide +kernel) (by rfl) ?_
  refine ev_r_iload_n (pc := 4) (k := 2) (v := Int32.ofInt a2) (by decide +kernel) (by rfl) ?_
  refine ev_r_chk ?_
  intro c1
  refine ev_r_dr2 (r := a0) (k := 0) (fun v => [.int (Int32.ofInt a2), .int (Int32.ofInt a1), v, .int (Int32.ofInt 0), ev_nv a3]) c1 (ev_on_12 (ha0.resolve_left c1)) ?_
  refine ev_r_virtX (pc := 5) (y := 76) (mi := 185) (na := 2) (k := 0) (as := [.int (Int32.ofInt a1), .int (Int32.ofInt a2)]) (rest := [.int (Int32.ofInt 0), ev_nv a3]) (fun x S1 h => jt_185 d (by omega) Q a1 a2 ha1 ha2 S x S1 h) (by exact ev_ob_0) (by decide +kernel) (by decide +kernel) (by decide +kernel) (by decide +kernel) rfl (by (try simp only [ev_sum, ev_nv_cat]); first | done | rfl) ?_ ?_
  · intro x3 s2 hx3
    show ev_w _ _ _ _ _ [.int (Int32.ofInt x3), .int (Int32.ofInt 0), ev_nv a3] _ _ _ _
    refine ev_r_toL (pc := 8) (i := .i2l) (len := 1) (pc' := 9) (by decide +kernel) rfl ?_
    intro y4
    refine ev_r_chk ?_
    intro c5
    refine ev_r_dr (r := a3) (fun v => [.long y4, .int (Int32.ofInt 0), v]) c5 ?_
    refine ev_r_last (pc := 9) (by decide) (by decide +kernel) (by exact (ha3.resolve_left c5)) ?_
    intro s6
    refine ev_r_goto (pc := 10) (o := 7) (t := 17) (by decide +kernel) (by decide +kernel) ?_
    refine ev_r_iconst (pc := 17) (k := 0) (by decide +kernel) ?_
    exact ev_r_ireturn (pc := 18) (x := 0) (v := Int32.ofInt 0) (ty := .int) (by decide) (by decide +kernel) (by decide +kernel) rfl rfl
  · intro E7 s8
    by_cases g0 : E7 = "java/lang/IndexOutOfBoundsException"
    · subst g0
      refine Or.inl ⟨13, (by decide +kernel), ?_⟩
      show ev_w _ _ _ _ _ _ _ (if "java/lang/IndexOutOfBoundsException" = "java/lang/IndexOutOfBoundsException" then some (1, s8) else _) _ _
      rw [if_pos rfl]
      refine ev_r_astore (pc := 13) (k := 4) trivial (by decide +kernel) (by decide +kernel) rfl ?_
      refine ev_r_iconst (pc := 15) (k := 1) (by decide +kernel) ?_
      exact ev_r_ireturn (pc := 16) (x := 1) (v := Int32.ofInt 1) (ty := .int) (by decide) (by decide +kernel) (by decide +kernel) rfl rfl
    · skip
      refine Or.inr ?_
      show (if E7 = "java/lang/IndexOutOfBoundsException" then _ else none) = none
      rw [if_neg g0]
/-- MendBenchLaw.replace(LMendBench;IIII[J)I -/
def jm_383 (Q : Nat) (a0 : Nat) (a1 : Int) (a2 : Int) (a3 : Int) (a4 : Int) (a5 : Nat) (S : ev_St) : Option ((Int) × ev_St) := ev_if (a0 ≠ 0) (ev_bx (jm_186 Q a1 a2 a3 a4 S) (fun x3 s2 => ev_b (ev_i2l x3) fun y4 => ev_if (a5 ≠ 0) (ev_if ((0 : Int) ≤ 0 ∧ 0 < (ev_aln ((a5 - 1)) : Int)) (ev_b (ev_pL s2 ((a5 - 1)) (Int.toNat 0) y4) fun s6 => some (0, s6)))) fun E7 s8 => if E7 = "java/lang/IndexOutOfBoundsException" then some (1, s8) else if E7 = "java/lang/IllegalArgumentException" then some (2, s8) else if E7 = "java/lang/IllegalStateException" then some (3, s8) else none)
theorem jt_383 (d : Nat) (hd : 9 ≤ d) (Q : Nat) (a0 : Nat) (a1 : Int) (a2 : Int) (a3 : Int) (a4 : Int) (a5 : Nat) (ha0 : a0 = 0 ∨ ev_isOb (a0 - 1) 12 = true) (ha1 : ev_rng a1) (ha2 : ev_rng a2) (ha3 : ev_rng a3) (ha4 : ev_rng a4) (ha5 : a5 = 0 ∨ ev_isAb (a5 - 1) 2 .long = true) (S : ev_St) (x : Int) (S' : ev_St) (hJ : jm_383 Q a0 a1 a2 a3 a4 a5 S = some (x, S')) : ev_Ref d 383 [ev_nv a0, .int (Int32.ofInt a1), .int (Int32.ofInt a2), .int (Int32.ofInt a3), .int (Int32.ofInt a4), ev_nv a5] S (ev_eI x) S' (ev_rng x) := by
  obtain ⟨d, rfl⟩ : ∃ e, d = e + 1 := ⟨d - 1, by omega⟩
  refine ev_ref_of (P := ev_rng) (lv := [(0, ev_nv a0), (1, .int (Int32.ofInt a1)), (2, .int (Int32.ofInt a2)), (3, .int (Int32.ofInt a3)), (4, .int (Int32.ofInt a4)), (5, ev_nv a5)]) (by decide +kernel) (by (try simp only [ev_sum, ev_nv_cat]); first | done | rfl) (by (try simp only [lv_args, ev_nv_cat]); first | done | rfl) ?_ x S' hJ
  unfold jm_383
  refine ev_r_aload (pc := 0) (k := 5) (v := ev_nv a5) (ev_isR_nv _) (by decide +kernel) (by rfl) ?_
  refine ev_r_iconst (pc := 2) (k := 0) (by decide +kernel) ?_
  refine ev_r_aload_n (pc := 3) (k := 0) (v := ev_nv a0) (ev_isR_nv _) (by decide +kernel) (by rfl) ?_
  refine ev_r_iload_n (pc := 4) (k := 1) (v := Int32.ofInt a1) (by decide +kernel) (by rfl) ?_
  refine ev_r_iload_n (pc := 5) (k := 2) (v := Int32.ofInt a2) (by decide +kernel) (by rfl) ?_
  refine ev_r_iload_n (pc := 6) (k := 3) (v := Int32.ofInt a3) (by decide +kernel) (by rfl) ?_
  refine ev_r_iload (pc := 7) (k := 4) (v := Int32.ofInt a4) (by decide +kernel) (by rfl) ?_
  refine ev_r_chk ?_
  intro c1
  refine ev_r_dr2 (r := a0) (k := 0) (fun v => [.int (Int32.ofInt a4), .int (Int32.ofInt a3), .int (Int32.ofInt a2), .int (Int32.ofInt a1), v, .int (Int32.ofInt 0), ev_nv a5]) c1 (ev_on_12 (ha0.resolve_left c1)) ?_
  refine ev_r_virtX (pc := 9) (y := 80) (mi := 186) (na := 4) (k := 0) (as := [.int (Int32.ofInt a1), .int (Int32.ofInt a2), .int (Int32.ofInt a3), .int (Int32.ofInt a4)]) (rest := [.int (Int32.ofInt 0), ev_nv a5]) (fun x S1 h => jt_186 d (by omega) Q a1 a2 a3 a4 ha1 ha2 ha3 ha4 S x S1 h) (by exact ev_ob_0) (by decide +kernel) (by decide +kernel) (by decide +kernel) (by decide +kernel) rfl (by (try simp only [ev_sum, ev_nv_cat]); first | done | rfl) ?_ ?_
  · intro x3 s2 hx3
    show ev_w _ _ _ _ _ [.int (Int32.ofInt x3), .int (Int32.ofInt 0), ev_nv a5] _ _ _ _
    refine ev_r_toL (pc := 12) (i := .i2l) (len := 1) (pc' := 13) (by decide +kernel) rfl ?_
    intro y4
    refine ev_r_chk ?_
    intro c5
    refine ev_r_dr (r := a5) (fun v => [.long y4, .int (Int32.ofInt 0), v]) c5 ?_
    refine ev_r_last (pc := 13) (by decide) (by decide +kernel) (by exact (ha5.resolve_left c5)) ?_
    intro s6
    refine ev_r_goto (pc := 14) (o := 15) (t := 29) (by decide +kernel) (by decide +kernel) ?_
    refine ev_r_iconst (pc := 29) (k := 0) (by decide +kernel) ?_
    exact ev_r_ireturn (pc := 30) (x := 0) (v := Int32.ofInt 0) (ty := .int) (by decide) (by decide +kernel) (by decide +kernel) rfl rfl
  · intro E7 s8
    by_cases g0 : E7 = "java/lang/IndexOutOfBoundsException"
    · subst g0
      refine Or.inl ⟨17, (by decide +kernel), ?_⟩
      show ev_w _ _ _ _ _ _ _ (if "java/lang/IndexOutOfBoundsException" = "java/lang/IndexOutOfBoundsException" then some (1, s8) else _) _ _
      rw [if_pos rfl]
      refine ev_r_astore (pc := 17) (k := 6) trivial (by decide +kernel) (by decide +kernel) rfl ?_
      refine ev_r_iconst (pc := 19) (k := 1) (by decide +kernel) ?_
      exact ev_r_ireturn (pc := 20) (x := 1) (v := Int32.ofInt 1) (ty := .int) (by decide) (by decide +kernel) (by decide +kernel) rfl rfl
    · skip
      by_cases g1 : E7 = "java/lang/IllegalArgumentException"
      · subst g1
        refine Or.inl ⟨21, (by decide +kernel), ?_⟩
        show ev_w _ _ _ _ _ _ _ (if "java/lang/IllegalArgumentException" = "java/lang/IndexOutOfBoundsException" then _ else if "java/lang/IllegalArgumentException" = "java/lang/IllegalArgumentException" then some (2, s8) else _) _ _
        rw [if_neg (by decide), if_pos rfl]
        refine ev_r_astore (pc := 21) (k := 6) trivial (by decide +kernel) (by decide +kernel) rfl ?_
        refine ev_r_iconst (pc := 23) (k := 2) (by decide +kernel) ?_
        exact ev_r_ireturn (pc := 24) (x := 2) (v := Int32.ofInt 2) (ty := .int) (by decide) (by decide +kernel) (by decide +kernel) rfl rfl
      · skip
        by_cases g2 : E7 = "java/lang/IllegalStateException"
        · subst g2
          refine Or.inl ⟨25, (by decide +kernel), ?_⟩
          show ev_w _ _ _ _ _ _ _ (if "java/lang/IllegalStateException" = "java/lang/IndexOutOfBoundsException" then _ else if "java/lang/IllegalStateException" = "java/lang/IllegalArgumentException" then _ else if "java/lang/IllegalStateException" = "java/lang/IllegalStateException" then some (3, s8) else _) _ _
          rw [if_neg (by decide), if_neg (by decide), if_pos rfl]
          refine ev_r_astore (pc := 25) (k := 6) trivial (by decide +kernel) (by decide +kernel) rfl ?_
          refine ev_r_iconst (pc := 27) (k := 3) (by decide +kernel) ?_
          exact ev_r_ireturn (pc := 28) (x := 3) (v := Int32.ofInt 3) (ty := .int) (by decide) (by decide +kernel) (by decide +kernel) rfl rfl
        · skip
          refine Or.inr ?_
          show (if E7 = "java/lang/IndexOutOfBoundsException" then _ else if E7 = "java/lang/IllegalArgumentException" then _ else if E7 = "java/lang/IllegalStateException" then _ else none) = none
          rw [if_neg g0, if_neg g1, if_neg g2]
/-- MendBenchLaw.mark(LMendBench;IIZ[J)I -/
def jm_384 (Q : Nat) (a0 : Nat) (a1 : Int) (a2 : Int) (a3 : Int) (a4 : Nat) (S : ev_St) : Option ((Int) × ev_St) := ev_if (a0 ≠ 0) (ev_bx (jm_187 Q a1 a2 a3 S) (fun x3 s2 => ev_b (ev_i2l x3) fun y4 => ev_if (a4 ≠ 0) (ev_if ((0 : Int) ≤ 0 ∧ 0 < (ev_aln ((a4 - 1)) : Int)) (ev_b (ev_pL s2 ((a4 - 1)) (Int.toNat 0) y4) fun s6 => some (0, s6)))) fun E7 s8 => if E7 = "java/lang/IndexOutOfBoundsException" then some (1, s8) else if E7 = "java/lang/IllegalStateException" then some (2, s8) else none)
theorem jt_384 (d : Nat) (hd : 7 ≤ d) (Q : Nat) (a0 : Nat) (a1 : Int) (a2 : Int) (a3 : Int) (a4 : Nat) (ha0 : a0 = 0 ∨ ev_isOb (a0 - 1) 12 = true) (ha1 : ev_rng a1) (ha2 : ev_rng a2) (ha3 : ev_rng a3) (ha4 : a4 = 0 ∨ ev_isAb (a4 - 1) 2 .long = true) (S : ev_St) (x : Int) (S' : ev_St) (hJ : jm_384 Q a0 a1 a2 a3 a4 S = some (x, S')) : ev_Ref d 384 [ev_nv a0, .int (Int32.ofInt a1), .int (Int32.ofInt a2), .int (Int32.ofInt a3), ev_nv a4] S (ev_eI x) S' (ev_rng x) := by
  obtain ⟨d, rfl⟩ : ∃ e, d = e + 1 := ⟨d - 1, by omega⟩
  refine ev_ref_of (P := ev_rng) (lv := [(0, ev_nv a0), (1, .int (Int32.ofInt a1)), (2, .int (Int32.ofInt a2)), (3, .int (Int32.ofInt a3)), (4, ev_nv a4)]) (by decide +kernel) (by (try simp only [ev_sum, ev_nv_cat]); first | done | rfl) (by (try simp only [lv_args, ev_nv_cat]); first | done | rfl) ?_ x S' hJ
  unfold jm_384
  refine ev_r_aload (pc := 0) (k := 4) (v := ev_nv a4) (ev_isR_nv _) (by decide +kernel) (by rfl) ?_
  refine ev_r_iconst (pc := 2) (k := 0) (by decide +kernel) ?_
  refine ev_r_aload_n (pc := 3) (k := 0) (v := ev_nv a0) (ev_isR_nv _) (by decide +kernel) (by rfl) ?_
  refine ev_r_iload_n (pc := 4) (k := 1) (v := Int32.ofInt a1) (by decide +kernel) (by rfl) ?_
  refine ev_r_iload_n (pc := 5) (k := 2) (v := Int32.ofInt a2) (by decide +kernel) (by rfl) ?_
  refine ev_r_iload_n (pc := 6) (k := 3) (v := Int32.ofInt a3) (by decide +kernel) (by rfl) ?_
  refine ev_r_chk ?_
  intro c1
  refine ev_r_dr2 (r := a0) (k := 0) (fun v => [.int (Int32.ofInt a3), .int (Int32.ofInt a2), .int (Int32.ofInt a1), v, .int (Int32.ofInt 0), ev_nv a4]) c1 (ev_on_12 (ha0.resolve_left c1)) ?_
  refine ev_r_virtX (pc := 7) (y := 83) (mi := 187) (na := 3) (k := 0) (as := [.int (Int32.ofInt a1), .int (Int32.ofInt a2), .int (Int32.ofInt a3)]) (rest := [.int (Int32.ofInt 0), ev_nv a4]) (fun x S1 h => jt_187 d (by omega) Q a1 a2 a3 ha1 ha2 ha3 S x S1 h) (by exact ev_ob_0) (by decide +kernel) (by decide +kernel) (by decide +kernel) (by decide +kernel) rfl (by (try simp only [ev_sum, ev_nv_cat]); first | done | rfl) ?_ ?_
  · intro x3 s2 hx3
    show ev_w _ _ _ _ _ [.int (Int32.ofInt x3), .int (Int32.ofInt 0), ev_nv a4] _ _ _ _
    refine ev_r_toL (pc := 10) (i := .i2l) (len := 1) (pc' := 11) (by decide +kernel) rfl ?_
    intro y4
    refine ev_r_chk ?_
    intro c5
    refine ev_r_dr (r := a4) (fun v => [.long y4, .int (Int32.ofInt 0), v]) c5 ?_
    refine ev_r_last (pc := 11) (by decide) (by decide +kernel) (by exact (ha4.resolve_left c5)) ?_
    intro s6
    refine ev_r_goto (pc := 12) (o := 11) (t := 23) (by decide +kernel) (by decide +kernel) ?_
    refine ev_r_iconst (pc := 23) (k := 0) (by decide +kernel) ?_
    exact ev_r_ireturn (pc := 24) (x := 0) (v := Int32.ofInt 0) (ty := .int) (by decide) (by decide +kernel) (by decide +kernel) rfl rfl
  · intro E7 s8
    by_cases g0 : E7 = "java/lang/IndexOutOfBoundsException"
    · subst g0
      refine Or.inl ⟨15, (by decide +kernel), ?_⟩
      show ev_w _ _ _ _ _ _ _ (if "java/lang/IndexOutOfBoundsException" = "java/lang/IndexOutOfBoundsException" then some (1, s8) else _) _ _
      rw [if_pos rfl]
      refine ev_r_astore (pc := 15) (k := 5) trivial (by decide +kernel) (by decide +kernel) rfl ?_
      refine ev_r_iconst (pc := 17) (k := 1) (by decide +kernel) ?_
      exact ev_r_ireturn (pc := 18) (x := 1) (v := Int32.ofInt 1) (ty := .int) (by decide) (by decide +kernel) (by decide +kernel) rfl rfl
    · skip
      by_cases g1 : E7 = "java/lang/IllegalStateException"
      · subst g1
        refine Or.inl ⟨19, (by decide +kernel), ?_⟩
        show ev_w _ _ _ _ _ _ _ (if "java/lang/IllegalStateException" = "java/lang/IndexOutOfBoundsException" then _ else if "java/lang/IllegalStateException" = "java/lang/IllegalStateException" then some (2, s8) else _) _ _
        rw [if_neg (by decide), if_pos rfl]
        refine ev_r_astore (pc := 19) (k := 5) trivial (by decide +kernel) (by decide +kernel) rfl ?_
        refine ev_r_iconst (pc := 21) (k := 2) (by decide +kernel) ?_
        exact ev_r_ireturn (pc := 22) (x := 2) (v := Int32.ofInt 2) (ty := .int) (by decide) (by decide +kernel) (by decide +kernel) rfl rfl
      · skip
        refine Or.inr ?_
        show (if E7 = "java/lang/IndexOutOfBoundsException" then _ else if E7 = "java/lang/IllegalStateException" then _ else none) = none
        rw [if_neg g0, if_neg g1]
