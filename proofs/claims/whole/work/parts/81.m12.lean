/-! METHODS as functions, laid by decomp.py -/
theorem ev_ab_679 : ev_isAb 679 1 .int = true := (by decide +kernel)
theorem ev_ab_680 : ev_isAb 680 1 .int = true := (by decide +kernel)
theorem ev_ab_670 : ev_isAb 670 1 .int = true := (by decide +kernel)
theorem ev_ab_671 : ev_isAb 671 1 .int = true := (by decide +kernel)
theorem ev_ab_669 : ev_isAb 669 1 .boolean = true := (by decide +kernel)
theorem ev_ab_672 : ev_isAb 672 1 .int = true := (by decide +kernel)
theorem ev_ab_673 : ev_isAb 673 1 .boolean = true := (by decide +kernel)
theorem ev_ab_674 : ev_isAb 674 1 .int = true := (by decide +kernel)
theorem ev_ab_675 : ev_isAb 675 1 .int = true := (by decide +kernel)
theorem ev_ab_718 : ev_isAb 718 1 .int = true := (by decide +kernel)
theorem ev_ab_721 : ev_isAb 721 1 .int = true := (by decide +kernel)
theorem ev_ab_722 : ev_isAb 722 1 .int = true := (by decide +kernel)
theorem ev_ab_676 : ev_isAb 676 1 .int = true := (by decide +kernel)
theorem ev_ab_677 : ev_isAb 677 1 .int = true := (by decide +kernel)
theorem ev_ab_719 : ev_isAb 719 1 .boolean = true := (by decide +kernel)
theorem ev_ab_720 : ev_isAb 720 1 .boolean = true := (by decide +kernel)
def jb_307_19 (Q : Nat)   (K19 : Int → ev_St → Option ((Unit) × ev_St)) (x4 : Int) (s8 : ev_St) : Option ((Unit) × ev_St) := if 10 ≤ x4 then (some ((), s8)) else (ev_bd (jm_294 Q x4 s8) fun x11 s10 => ev_jn (fun (x12 : Int) (x15 : Int) (x14 : Int) (r13 : Nat) (s20 : ev_St) => ev_if ((0 : Int) ≤ x14 ∧ x14 < (ev_aln r13 : Int)) (ev_b (ev_pI s20 r13 (Int.toNat x14) x15) fun s21 => ev_jn (fun (x24 : Int) (x23 : Int) (r22 : Nat) (s28 : ev_St) => ev_if ((0 : Int) ≤ x23 ∧ x23 < (ev_aln r22 : Int)) (ev_b (ev_pI s28 r22 (Int.toNat x23) x24) fun s29 => ev_ck (x4 + 1) fun x30 => K19 x30 s29)) fun K72 => if x12 ≠ (-1) then (ev_if ((0 : Int) ≤ x12 ∧ x12 < (ev_aln 698 : Int)) (ev_b (s21.1 698 (Int.toNat x12)) fun x32 => K72 x32 x4 680 s21)) else (K72 ((-1)) x4 680 s21))) fun K51 => if x11 ≠ (-1) then (ev_if ((0 : Int) ≤ x11 ∧ x11 < (ev_aln 697 : Int)) (ev_b (s10.1 697 (Int.toNat x11)) fun x34 => K51 x11 x34 x4 679 s10)) else (K51 x11 ((-1)) x4 679 s10))
def jl_307_19 (Q : Nat)   : Nat → Int → ev_St → Option ((Unit) × ev_St)
  | 0 => fun _ _ => none
  | q + 1 => jb_307_19 Q   (jl_307_19 Q   q)
theorem jbt_307_19 (d : Nat) (hd : 2 ≤ d + 1) (Q : Nat)     (K19 : Int → ev_St → Option ((Unit) × ev_St)) (hK19 : ∀ (x4 : Int) (hx4 : ev_rng x4), ∀ (s8 : ev_St) (w5 : List (Nat × Value)), ev_lk w5 0 = some (.ref 621) → ev_lk w5 2 = some (.int (Int32.ofInt x4)) → ev_w none (ev_Mof 307) d 19 w5 [] s8 (K19 x4 s8) ev_eU ev_PU) : ∀ (x4 : Int) (hx4 : ev_rng x4), ∀ (s8 : ev_St) (w5 : List (Nat × Value)), ev_lk w5 0 = some (.ref 621) → ev_lk w5 2 = some (.int (Int32.ofInt x4)) → ev_w none (ev_Mof 307) d 19 w5 [] s8 (jb_307_19 Q   K19 x4 s8) ev_eU ev_PU := by
  intro x4 hx4 s8 w5 e6 e7
  unfold jb_307_19
  refine ev_r_iload_n (pc := 19) (k := 2) (v := Int32.ofInt x4) (by decide +kernel) (by exact e7) ?_
  refine ev_r_bipush (pc := 20) (k := 10) (by decide +kernel) (by decide +kernel) ?_
  refine ev_r_icmp (pc := 22) (q := .ge) (o := 57) (t := 79) (c := 10 ≤ x4) (by decide +kernel) (ev_k_ge hx4 (by decide)) (by decide +kernel) ?_ ?_
  · intro c9
    exact ev_r_return (pc := 79) (x := ()) trivial (by decide +kernel) (by decide +kernel) rfl
  · intro c9
    refine ev_r_aload_n (pc := 25) (k := 0) (v := .ref 621) trivial (by decide +kernel) (by exact e6) ?_
    refine ev_r_iload_n (pc := 26) (k := 2) (v := Int32.ofInt x4) (by decide +kernel) (by exact e7) ?_
    refine ev_r_virt (pc := 27) (y := 603) (mi := 294) (na := 1) (k := 621) (as := [.int (Int32.ofInt x4)]) (rest := []) (encc := ev_oI) (Q := ev_rng) (fun x S1 h => jt_294 d (by omega) Q x4 hx4 s8 x S1 h) (by exact ev_ob_621) (by decide +kernel) (by decide +kernel) (by decide +kernel) (by decide +kernel) rfl (by (try simp only [ev_sum, ev_nv_cat]); first | done | rfl) ?_
    intro x11 s10 hx11
    show ev_w _ _ _ _ _ [.int (Int32.ofInt x11)] _ _ _ _
    refine ev_r_istore_n (pc := 30) (k := 3) (by decide +kernel) (by decide +kernel) rfl ?_
    refine ev_r_aload_n (pc := 31) (k := 0) (v := .ref 621) trivial (by decide +kernel) (by exact (ev_l1 e6 (by decide) (by decide))) ?_
    refine ev_r_getC (pc := 32) (y := 184) (ci := 13) (f := 86) (fin := 1) (k' := 679) (by decide +kernel) (by decide +kernel) (by exact ev_ob_621) rfl rfl ?_
    refine ev_r_iload_n (pc := 35) (k := 2) (v := Int32.ofInt x4) (by decide +kernel) (by exact (ev_lk_st1 e7 (by decide) rfl)) ?_
    refine ev_r_iload_n (pc := 36) (k := 3) (v := Int32.ofInt x11) (by decide +kernel) (by exact ev_lk_st1_self) ?_
    refine ev_r_iconst (pc := 37) (k := -1) (by decide +kernel) ?_
    refine ev_r_jn (Q := fun K => ∀ (x12 : Int) (hx12 : ev_rng x12), ∀ (x15 : Int) (hx15 : ev_rng x15), ∀ (x14 : Int) (hx14 : ev_rng x14), ∀ (r13 : Nat) (hr13 : ev_isAb r13 1 .int = true), ∀ (s20 : ev_St) (w16 : List (Nat × Value)), ev_lk w16 0 = some (.ref 621) → ev_lk w16 2 = some (.int (Int32.ofInt x4)) → ev_lk w16 3 = some (.int (Int32.ofInt x12)) → ev_w none (ev_Mof 307) d 51 w16 [.int (Int32.ofInt x15), .int (Int32.ofInt x14), .ref r13] s20 (K x12 x15 x14 r13 s20) ev_eU ev_PU) ?_ ?_
    · intro x12 hx12 x15 hx15 x14 hx14 r13 hr13 s20 w16 e17 e18 e19
      refine ev_r_iast (pc := 51) hx15 hx14 (by decide +kernel) (by exact hr13) ?_
      intro s21
      refine ev_r_aload_n (pc := 52) (k := 0) (v := .ref 621) trivial (by decide +kernel) (by exact e17) ?_
      refine ev_r_getC (pc := 53) (y := 187) (ci := 13) (f := 87) (fin := 1) (k' := 680) (by decide +kernel) (by decide +kernel) (by exact ev_ob_621) rfl rfl ?_
      refine ev_r_iload_n (pc := 56) (k := 2) (v := Int32.ofInt x4) (by decide +kernel) (by exact e18) ?_
      refine ev_r_iload_n (pc := 57) (k := 3) (v := Int32.ofInt x12) (by decide +kernel) (by exact e19) ?_
      refine ev_r_iconst (pc := 58) (k := -1) (by decide +kernel) ?_
      refine ev_r_jn (Q := fun K => ∀ (x24 : Int) (hx24 : ev_rng x24), ∀ (x23 : Int) (hx23 : ev_rng x23), ∀ (r22 : Nat) (hr22 : ev_isAb r22 1 .int = true), ∀ (s28 : ev_St) (w25 : List (Nat × Value)), ev_lk w25 0 = some (.ref 621) → ev_lk w25 2 = some (.int (Int32.ofInt x4)) → ev_w none (ev_Mof 307) d 72 w25 [.int (Int32.ofInt x24), .int (Int32.ofInt x23), .ref r22] s28 (K x24 x23 r22 s28) ev_eU ev_PU) ?_ ?_
      · intro x24 hx24 x23 hx23 r22 hr22 s28 w25 e26 e27
        refine ev_r_iast (pc := 72) hx24 hx23 (by decide +kernel) (by exact hr22) ?_
        intro s29
        refine ev_r_iinc (pc := 73) (k := 2) (c := 1) (x := x4) (by decide +kernel) (by decide +kernel) (by exact e27) (fun _ => rfl) ?_
        intro x30 hx30
        refine ev_r_goto (pc := 76) (o := (-57)) (t := 19) (by decide +kernel) (by decide +kernel) ?_
        exact hK19 x30 hx30 s29 _ (by exact (ev_l1 e26 (by decide) (by decide))) (by exact ev_lk_st1_self)
      · intro K72 hK72
        refine ev_r_icmp (pc := 59) (q := .ne) (o := 7) (t := 66) (c := x12 ≠ (-1)) (by decide +kernel) (ev_k_ne hx12 (by decide)) (by decide +kernel) ?_ ?_
        · intro c31
          refine ev_r_aload_n (pc := 66) (k := 0) (v := .ref 621) trivial (by decide +kernel) (by exact e17) ?_
          refine ev_r_getC (pc := 67) (y := 243) (ci := 13) (f := 108) (fin := 1) (k' := 698) (by decide +kernel) (by decide +kernel) (by exact ev_ob_621) rfl rfl ?_
          refine ev_r_iload_n (pc := 70) (k := 3) (v := Int32.ofInt x12) (by decide +kernel) (by exact e19) ?_
          refine ev_r_iald (pc := 71) hx12 (by decide +kernel) (by exact ev_ab_698) ?_
          intro x32 hx32
          exact hK72 x32 hx32 x4 hx4 680 ev_ab_680 s21 _ (by exact e17) (by exact e18)
        · intro c31
          refine ev_r_iconst (pc := 62) (k := -1) (by decide +kernel) ?_
          refine ev_r_goto (pc := 63) (o := 9) (t := 72) (by decide +kernel) (by decide +kernel) ?_
          exact hK72 ((-1)) (by decide) x4 hx4 680 ev_ab_680 s21 _ (by exact e17) (by exact e18)
    · intro K51 hK51
      refine ev_r_icmp (pc := 38) (q := .ne) (o := 7) (t := 45) (c := x11 ≠ (-1)) (by decide +kernel) (ev_k_ne hx11 (by decide)) (by decide +kernel) ?_ ?_
      · intro c33
        refine ev_r_aload_n (pc := 45) (k := 0) (v := .ref 621) trivial (by decide +kernel) (by exact (ev_l1 e6 (by decide) (by decide))) ?_
        refine ev_r_getC (pc := 46) (y := 240) (ci := 13) (f := 107) (fin := 1) (k' := 697) (by decide +kernel) (by decide +kernel) (by exact ev_ob_621) rfl rfl ?_
        refine ev_r_iload_n (pc := 49) (k := 3) (v := Int32.ofInt x11) (by decide +kernel) (by exact ev_lk_st1_self) ?_
        refine ev_r_iald (pc := 50) hx11 (by decide +kernel) (by exact ev_ab_697) ?_
        intro x34 hx34
        exact hK51 x11 hx11 x34 hx34 x4 hx4 679 ev_ab_679 s10 _ (by exact (ev_l1 e6 (by decide) (by decide))) (by exact (ev_lk_st1 e7 (by decide) rfl)) (by exact ev_lk_st1_self)
      · intro c33
        refine ev_r_iconst (pc := 41) (k := -1) (by decide +kernel) ?_
        refine ev_r_goto (pc := 42) (o := 9) (t := 51) (by decide +kernel) (by decide +kernel) ?_
        exact hK51 x11 hx11 ((-1)) (by decide) x4 hx4 679 ev_ab_679 s10 _ (by exact (ev_l1 e6 (by decide) (by decide))) (by exact (ev_lk_st1 e7 (by decide) rfl)) (by exact ev_lk_st1_self)
theorem jlt_307_19 (d : Nat) (hd : 2 ≤ d + 1) (Q : Nat)     : ∀ q : Nat, ∀ (x4 : Int) (hx4 : ev_rng x4), ∀ (s8 : ev_St) (w5 : List (Nat × Value)), ev_lk w5 0 = some (.ref 621) → ev_lk w5 2 = some (.int (Int32.ofInt x4)) → ev_w none (ev_Mof 307) d 19 w5 [] s8 (jl_307_19 Q   q x4 s8) ev_eU ev_PU := by
  intro q
  induction q with
  | zero =>
    intro x4 hx4 s8 w5 e6 e7
    exact ev_w_none
  | succ q ih => exact jbt_307_19 d hd Q     _ ih
/-- MendBenchModel.keepsGroups(I)V -/
def jm_307 (Q : Nat) (a0 : Int) (S : ev_St) : Option ((Unit) × ev_St) := ev_if ((0 : Int) ≤ 0 ∧ 0 < (ev_aln 679 : Int)) (ev_b (ev_pI S 679 (Int.toNat 0) a0) fun s1 => ev_b (s1.1 621 81) fun x2 => ev_if ((0 : Int) ≤ 0 ∧ 0 < (ev_aln 680 : Int)) (ev_b (ev_pI s1 680 (Int.toNat 0) x2) fun s3 => jl_307_19 Q   Q 1 s3))
theorem jt_307 (d : Nat) (hd : 2 ≤ d) (Q : Nat) (a0 : Int) (ha0 : ev_rng a0) (S : ev_St) (x : Unit) (S' : ev_St) (hJ : jm_307 Q a0 S = some (x, S')) : ev_Ref d 307 [.ref 621, .int (Int32.ofInt a0)] S (ev_eU x) S' (ev_PU x) := by
  obtain ⟨d, rfl⟩ : ∃ e, d = e + 1 := ⟨d - 1, by omega⟩
  refine ev_ref_of (P := ev_PU) (lv := [(0, .ref 621), (1, .int (Int32.ofInt a0))]) (by decide +kernel) (by (try simp only [ev_sum, ev_nv_cat]); first | done | rfl) (by (try simp only [lv_args, ev_nv_cat]); first | done | rfl) ?_ x S' hJ
  unfold jm_307
  refine ev_r_aload_n (pc := 0) (k := 0) (v := .ref 621) trivial (by decide +kernel) (by rfl) ?_
  refine ev_r_getC (pc := 1) (y := 184) (ci := 13) (f := 86) (fin := 1) (k' := 679) (by decide +kernel) (by decide +kernel) (by exact ev_ob_621) rfl rfl ?_
  refine ev_r_iconst (pc := 4) (k := 0) (by decide +kernel) ?_
  refine ev_r_iload_n (pc := 5) (k := 1) (v := Int32.ofInt a0) (by decide +kernel) (by rfl) ?_
  refine ev_r_iast (pc := 6) ha0 (by decide) (by decide +kernel) (by exact ev_ab_679) ?_
  intro s1
  refine ev_r_aload_n (pc := 7) (k := 0) (v := .ref 621) trivial (by decide +kernel) (by rfl) ?_
  refine ev_r_getC (pc := 8) (y := 187) (ci := 13) (f := 87) (fin := 1) (k' := 680) (by decide +kernel) (by decide +kernel) (by exact ev_ob_621) rfl rfl ?_
  refine ev_r_iconst (pc := 11) (k := 0) (by decide +kernel) ?_
  refine ev_r_aload_n (pc := 12) (k := 0) (v := .ref 621) trivial (by decide +kernel) (by rfl) ?_
  refine ev_r_getI (pc := 13) (y := 582) (ci := 13) (f := 81) (fin := 0) (by decide +kernel) (by decide +kernel) (by exact ev_ob_621) rfl ?_
  intro x2 hx2
  refine ev_r_iast (pc := 16) hx2 (by decide) (by decide +kernel) (by exact ev_ab_680) ?_
  intro s3
  refine ev_r_iconst (pc := 17) (k := 1) (by decide +kernel) ?_
  refine ev_r_istore_n (pc := 18) (k := 2) (by decide +kernel) (by decide +kernel) rfl ?_
  exact jlt_307_19 d hd Q     Q 1 (by decide) s3 _ (by exact (ev_l1 (by rfl) (by decide) (by decide))) (by exact ev_lk_st1_self)
def jb_308_13 (Q : Nat) (a0 : Int) (a2 : Int)  (K13 : Int → ev_St → Option ((Int) × ev_St)) (x3 : Int) (s9 : ev_St) : Option ((Int) × ev_St) := ev_b (s9.1 621 73) fun x10 => ev_bd (jm_222 Q x3 0 x10 s9) fun x12 s11 => if x12 = 0 then (some (0, s11)) else (ev_bd (jm_306 Q a0 x3 s11) fun x15 s14 => if x15 ≠ 1 then (ev_jn (fun  (s19 : ev_St) => if x15 ≠ 2 then (some ((-2), s19)) else (some (0, s19))) fun K62 => if x15 = (-2) then (K62  s14) else (if x15 ≠ 2 then (ev_jn (fun (x23 : Int) (s28 : ev_St) => K13 x23 s28) fun K112 => if a2 = 0 then (ev_jn (fun  (s35 : ev_St) => ev_ck (x3 + 1) fun x36 => K112 x36 s35) fun K108 => if x15 ≠ 3 then (K108  s14) else (ev_b (s14.1 621 77) fun x38 => if x38 ≤ x3 then (K108  s14) else (ev_b (s14.1 621 77) fun x40 => K112 x40 s14))) else (ev_ck (x3 - 1) fun x41 => K112 x41 s14)) else (K62  s14))) else (ev_bd (jm_307 Q x3 s14) fun _ s42 => some (1, s42)))
def jl_308_13 (Q : Nat) (a0 : Int) (a2 : Int)  : Nat → Int → ev_St → Option ((Int) × ev_St)
  | 0 => fun _ _ => none
  | q + 1 => jb_308_13 Q a0 a2  (jl_308_13 Q a0 a2  q)
theorem jbt_308_13 (d : Nat) (hd : 9 ≤ d + 1) (Q : Nat) (a0 : Int) (a2 : Int) (ha0 : ev_rng a0) (ha2 : ev_rng a2)   (K13 : Int → ev_St → Option ((Int) × ev_St)) (hK13 : ∀ (x3 : Int) (hx3 : ev_rng x3), ∀ (s9 : ev_St) (w4 : List (Nat × Value)), ev_lk w4 0 = some (.ref 621) → ev_lk w4 1 = some (.int (Int32.ofInt a0)) → ev_lk w4 3 = some (.int (Int32.ofInt a2)) → ev_lk w4 4 = some (.int (Int32.ofInt x3)) → ev_w none (ev_Mof 308) d 13 w4 [] s9 (K13 x3 s9) ev_eI ev_rng) : ∀ (x3 : Int) (hx3 : ev_rng x3), ∀ (s9 : ev_St) (w4 : List (Nat × Value)), ev_lk w4 0 = some (.ref 621) → ev_lk w4 1 = some (.int (Int32.ofInt a0)) → ev_lk w4 3 = some (.int (Int32.ofInt a2)) → ev_lk w4 4 = some (.int (Int32.ofInt x3)) → ev_w none (ev_Mof 308) d 13 w4 [] s9 (jb_308_13 Q a0 a2  K13 x3 s9) ev_eI ev_rng := by
  intro x3 hx3 s9 w4 e5 e6 e7 e8
  unfold jb_308_13
  refine ev_r_iload (pc := 13) (k := 4) (v := Int32.ofInt x3) (by decide +kernel) (by exact e8) ?_
  refine ev_r_iconst (pc := 15) (k := 0) (by decide +kernel) ?_
  refine ev_r_aload_n (pc := 16) (k := 0) (v := .ref 621) trivial (by decide +kernel) (by exact e5) ?_
  refine ev_r_getI (pc := 17) (y := 567) (ci := 13) (f := 73) (fin := 0) (by decide +kernel) (by decide +kernel) (by exact ev_ob_621) rfl ?_
  intro x10 hx10
  refine ev_r_stat (pc := 20) (y := 325) (kind := 2) (mi := 222) (na := 3) (as := [.int (Int32.ofInt x3), .int (Int32.ofInt 0), .int (Int32.ofInt x10)]) (rest := []) (encc := ev_oI) (Q := ev_bl) (fun x S1 h => jt_222 d (by omega) Q x3 0 x10 hx3 (by decide) hx10 s9 x S1 h) (Or.inl rfl) (by decide +kernel) (by decide +kernel) (by decide +kernel) (by decide +kernel) rfl (by (try simp only [ev_sum, ev_nv_cat]); first | done | rfl) ?_
  intro x12 s11 hx12
  replace hx12 := ev_bl_rng hx12
  show ev_w _ _ _ _ _ [.int (Int32.ofInt x12)] _ _ _ _
  refine ev_r_if (pc := 23) (q := .eq) (o := 94) (t := 117) (c := x12 = 0) (by decide +kernel) (ev_k_eq hx12 ev_rng0) (by decide +kernel) ?_ ?_
  · intro c13
    refine ev_r_iconst (pc := 117) (k := 0) (by decide +kernel) ?_
    exact ev_r_ireturn (pc := 118) (x := 0) (v := Int32.ofInt 0) (ty := .int) (by decide) (by decide +kernel) (by decide +kernel) rfl rfl
  · intro c13
    refine ev_r_aload_n (pc := 26) (k := 0) (v := .ref 621) trivial (by decide +kernel) (by exact e5) ?_
    refine ev_r_iload_n (pc := 27) (k := 1) (v := Int32.ofInt a0) (by decide +kernel) (by exact e6) ?_
    refine ev_r_iload (pc := 28) (k := 4) (v := Int32.ofInt x3) (by decide +kernel) (by exact e8) ?_
    refine ev_r_virt (pc := 30) (y := 666) (mi := 306) (na := 2) (k := 621) (as := [.int (Int32.ofInt a0), .int (Int32.ofInt x3)]) (rest := []) (encc := ev_oI) (Q := ev_rng) (fun x S1 h => jt_306 d (by omega) Q a0 x3 ha0 hx3 s11 x S1 h) (by exact ev_ob_621) (by decide +kernel) (by decide +kernel) (by decide +kernel) (by decide +kernel) rfl (by (try simp only [ev_sum, ev_nv_cat]); first | done | rfl) ?_
    intro x15 s14 hx15
    show ev_w _ _ _ _ _ [.int (Int32.ofInt x15)] _ _ _ _
    refine ev_r_istore (pc := 33) (k := 5) (by decide +kernel) (by decide +kernel) rfl ?_
    refine ev_r_iload (pc := 35) (k := 5) (v := Int32.ofInt x15) (by decide +kernel) (by exact ev_lk_st1_self) ?_
    refine ev_r_iconst (pc := 37) (k := 1) (by decide +kernel) ?_
    refine ev_r_icmp (pc := 38) (q := .ne) (o := 11) (t := 49) (c := x15 ≠ 1) (by decide +kernel) (ev_k_ne hx15 (by decide)) (by decide +kernel) ?_ ?_
    · intro c16
      refine ev_r_iload (pc := 49) (k := 5) (v := Int32.ofInt x15) (by decide +kernel) (by exact ev_lk_st1_self) ?_
      refine ev_r_bipush (pc := 51) (k := -2) (by decide +kernel) (by decide +kernel) ?_
      refine ev_r_jn (Q := fun K => ∀ (s19 : ev_St) (w17 : List (Nat × Value)), ev_lk w17 5 = some (.int (Int32.ofInt x15)) → ev_w none (ev_Mof 308) d 62 w17 [] s19 (K  s19) ev_eI ev_rng) ?_ ?_
      · intro  s19 w17 e18
        refine ev_r_iload (pc := 62) (k := 5) (v := Int32.ofInt x15) (by decide +kernel) (by exact e18) ?_
        refine ev_r_iconst (pc := 64) (k := 2) (by decide +kernel) ?_
        refine ev_r_icmp (pc := 65) (q := .ne) (o := 7) (t := 72) (c := x15 ≠ 2) (by decide +kernel) (ev_k_ne hx15 (by decide)) (by decide +kernel) ?_ ?_
        · intro c20
          refine ev_r_bipush (pc := 72) (k := -2) (by decide +kernel) (by decide +kernel) ?_
          exact ev_r_ireturn (pc := 74) (x := (-2)) (v := Int32.ofInt ((-2))) (ty := .int) (by decide) (by decide +kernel) (by decide +kernel) rfl rfl
        · intro c20
          refine ev_r_iconst (pc := 68) (k := 0) (by decide +kernel) ?_
          refine ev_r_goto (pc := 69) (o := 5) (t := 74) (by decide +kernel) (by decide +kernel) ?_
          exact ev_r_ireturn (pc := 74) (x := 0) (v := Int32.ofInt 0) (ty := .int) (by decide) (by decide +kernel) (by decide +kernel) rfl rfl
      · intro K62 hK62
        refine ev_r_icmp (pc := 53) (q := .eq) (o := 9) (t := 62) (c := x15 = (-2)) (by decide +kernel) (ev_k_eq hx15 (by decide)) (by decide +kernel) ?_ ?_
        · intro c21
          exact hK62  s14 _ (by exact ev_lk_st1_self)
        · intro c21
          refine ev_r_iload (pc := 56) (k := 5) (v := Int32.ofInt x15) (by decide +kernel) (by exact ev_lk_st1_self) ?_
          refine ev_r_iconst (pc := 58) (k := 2) (by decide +kernel) ?_
          refine ev_r_icmp (pc := 59) (q := .ne) (o := 16) (t := 75) (c := x15 ≠ 2) (by decide +kernel) (ev_k_ne hx15 (by decide)) (by decide +kernel) ?_ ?_
          · intro c22
            refine ev_r_iload_n (pc := 75) (k := 3) (v := Int32.ofInt a2) (by decide +kernel) (by exact (ev_l1 e7 (by decide) (by decide))) ?_
            refine ev_r_jn (Q := fun K => ∀ (x23 : Int) (hx23 : ev_rng x23), ∀ (s28 : ev_St) (w24 : List (Nat × Value)), ev_lk w24 0 = some (.ref 621) → ev_lk w24 1 = some (.int (Int32.ofInt a0)) → ev_lk w24 3 = some (.int (Int32.ofInt a2)) → ev_w none (ev_Mof 308) d 112 w24 [.int (Int32.ofInt x23)] s28 (K x23 s28) ev_eI ev_rng) ?_ ?_
            · intro x23 hx23 s28 w24 e25 e26 e27
              refine ev_r_istore (pc := 112) (k := 4) (by decide +kernel) (by decide +kernel) rfl ?_
              refine ev_r_goto (pc := 114) (o := (-101)) (t := 13) (by decide +kernel) (by decide +kernel) ?_
              exact hK13 x23 hx23 s28 _ (by exact (ev_l1 e25 (by decide) (by decide))) (by exact (ev_l1 e26 (by decide) (by decide))) (by exact (ev_lk_st1 e27 (by decide) rfl)) (by exact ev_lk_st1_self)
            · intro K112 hK112
              refine ev_r_if (pc := 76) (q := .eq) (o := 10) (t := 86) (c := a2 = 0) (by decide +kernel) (ev_k_eq ha2 ev_rng0) (by decide +kernel) ?_ ?_
              · intro c29
                refine ev_r_iload (pc := 86) (k := 5) (v := Int32.ofInt x15) (by decide +kernel) (by exact ev_lk_st1_self) ?_
                refine ev_r_iconst (pc := 88) (k := 3) (by decide +kernel) ?_
                refine ev_r_jn (Q := fun K => ∀ (s35 : ev_St) (w30 : List (Nat × Value)), ev_lk w30 0 = some (.ref 621) → ev_lk w30 1 = some (.int (Int32.ofInt a0)) → ev_lk w30 3 = some (.int (Int32.ofInt a2)) → ev_lk w30 4 = some (.int (Int32.ofInt x3)) → ev_w none (ev_Mof 308) d 108 w30 [] s35 (K  s35) ev_eI ev_rng) ?_ ?_
                · intro  s35 w30 e31 e32 e33 e34
                  refine ev_r_iload (pc := 108) (k := 4) (v := Int32.ofInt x3) (by decide +kernel) (by exact e34) ?_
                  refine ev_r_iconst (pc := 110) (k := 1) (by decide +kernel) ?_
                  refine ev_r_iadd (pc := 111) (by decide +kernel) ?_
                  intro x36 hx36
                  exact hK112 x36 hx36 s35 _ (by exact e31) (by exact e32) (by exact e33)
                · intro K108 hK108
                  refine ev_r_icmp (pc := 89) (q := .ne) (o := 19) (t := 108) (c := x15 ≠ 3) (by decide +kernel) (ev_k_ne hx15 (by decide)) (by decide +kernel) ?_ ?_
                  · intro c37
                    exact hK108  s14 _ (by exact (ev_l1 e5 (by decide) (by decide))) (by exact (ev_l1 e6 (by decide) (by decide))) (by exact (ev_l1 e7 (by decide) (by decide))) (by exact (ev_lk_st1 e8 (by decide) rfl))
                  · intro c37
                    refine ev_r_aload_n (pc := 92) (k := 0) (v := .ref 621) trivial (by decide +kernel) (by exact (ev_l1 e5 (by decide) (by decide))) ?_
                    refine ev_r_getI (pc := 93) (y := 642) (ci := 13) (f := 77) (fin := 0) (by decide +kernel) (by decide +kernel) (by exact ev_ob_621) rfl ?_
                    intro x38 hx38
                    refine ev_r_iload (pc := 96) (k := 4) (v := Int32.ofInt x3) (by decide +kernel) (by exact (ev_lk_st1 e8 (by decide) rfl)) ?_
                    refine ev_r_icmp (pc := 98) (q := .le) (o := 10) (t := 108) (c := x38 ≤ x3) (by decide +kernel) (ev_k_le hx38 hx3) (by decide +kernel) ?_ ?_
                    · intro c39
                      exact hK108  s14 _ (by exact (ev_l1 e5 (by decide) (by decide))) (by exact (ev_l1 e6 (by decide) (by decide))) (by exact (ev_l1 e7 (by decide) (by decide))) (by exact (ev_lk_st1 e8 (by decide) rfl))
                    · intro c39
                      refine ev_r_aload_n (pc := 101) (k := 0) (v := .ref 621) trivial (by decide +kernel) (by exact (ev_l1 e5 (by decide) (by decide))) ?_
                      refine ev_r_getI (pc := 102) (y := 642) (ci := 13) (f := 77) (fin := 0) (by decide +kernel) (by decide +kernel) (by exact ev_ob_621) rfl ?_
                      intro x40 hx40
                      refine ev_r_goto (pc := 105) (o := 7) (t := 112) (by decide +kernel) (by decide +kernel) ?_
                      exact hK112 x40 hx40 s14 _ (by exact (ev_l1 e5 (by decide) (by decide))) (by exact (ev_l1 e6 (by decide) (by decide))) (by exact (ev_l1 e7 (by decide) (by decide)))
              · intro c29
                refine ev_r_iload (pc := 79) (k := 4) (v := Int32.ofInt x3) (by decide +kernel) (by exact (ev_lk_st1 e8 (by decide) rfl)) ?_
                refine ev_r_iconst (pc := 81) (k := 1) (by decide +kernel) ?_
                refine ev_r_isub (pc := 82) (by decide +kernel) ?_
                intro x41 hx41
                refine ev_r_goto (pc := 83) (o := 29) (t := 112) (by decide +kernel) (by decide +kernel) ?_
                exact hK112 x41 hx41 s14 _ (by exact (ev_l1 e5 (by decide) (by decide))) (by exact (ev_l1 e6 (by decide) (by decide))) (by exact (ev_l1 e7 (by decide) (by decide)))
          · intro c22
            exact hK62  s14 _ (by exact ev_lk_st1_self)
    · intro c16
      refine ev_r_aload_n (pc := 41) (k := 0) (v := .ref 621) trivial (by decide +kernel) (by exact (ev_l1 e5 (by decide) (by decide))) ?_
      refine ev_r_iload (pc := 42) (k := 4) (v := Int32.ofInt x3) (by decide +kernel) (by exact (ev_lk_st1 e8 (by decide) rfl)) ?_
      refine ev_r_virt (pc := 44) (y := 670) (mi := 307) (na := 1) (k := 621) (as := [.int (Int32.ofInt x3)]) (rest := []) (encc := ev_oU) (Q := ev_PU) (fun x S1 h => jt_307 d (by omega) Q x3 hx3 s14 x S1 h) (by exact ev_ob_621) (by decide +kernel) (by decide +kernel) (by decide +kernel) (by decide +kernel) rfl (by (try simp only [ev_sum, ev_nv_cat]); first | done | rfl) ?_
      intro _ s42 _
      show ev_w _ _ _ _ _ [] _ _ _ _
      refine ev_r_iconst (pc := 47) (k := 1) (by decide +kernel) ?_
      exact ev_r_ireturn (pc := 48) (x := 1) (v := Int32.ofInt 1) (ty := .int) (by decide) (by decide +kernel) (by decide +kernel) rfl rfl
theorem jlt_308_13 (d : Nat) (hd : 9 ≤ d + 1) (Q : Nat) (a0 : Int) (a2 : Int) (ha0 : ev_rng a0) (ha2 : ev_rng a2)   : ∀ q : Nat, ∀ (x3 : Int) (hx3 : ev_rng x3), ∀ (s9 : ev_St) (w4 : List (Nat × Value)), ev_lk w4 0 = some (.ref 621) → ev_lk w4 1 = some (.int (Int32.ofInt a0)) → ev_lk w4 3 = some (.int (Int32.ofInt a2)) → ev_lk w4 4 = some (.int (Int32.ofInt x3)) → ev_w none (ev_Mof 308) d 13 w4 [] s9 (jl_308_13 Q a0 a2  q x3 s9) ev_eI ev_rng := by
  intro q
  induction q with
  | zero =>
    intro x3 hx3 s9 w4 e5 e6 e7 e8
    exact ev_w_none
  | succ q ih => exact jbt_308_13 d hd Q a0 a2 ha0 ha2   _ ih
/-- MendBenchModel.searches(IIZ)I -/
def jm_308 (Q : Nat) (a0 : Int) (a1 : Int) (a2 : Int) (S : ev_St) : Option ((Int) × ev_St) := ev_b (ev_pI S 621 75 0) fun s1 => ev_b (ev_pI s1 621 76 0) fun s2 => jl_308_13 Q a0 a2  Q a1 s2
theorem jt_308 (d : Nat) (hd : 9 ≤ d) (Q : Nat) (a0 : Int) (a1 : Int) (a2 : Int) (ha0 : ev_rng a0) (ha1 : ev_rng a1) (ha2 : ev_rng a2) (S : ev_St) (x : Int) (S' : ev_St) (hJ : jm_308 Q a0 a1 a2 S = some (x, S')) : ev_Ref d 308 [.ref 621, .int (Int32.ofInt a0), .int (Int32.ofInt a1), .int (Int32.ofInt a2)] S (ev_eI x) S' (ev_rng x) := by
  obtain ⟨d, rfl⟩ : ∃ e, d = e + 1 := ⟨d - 1, by omega⟩
  refine ev_ref_of (P := ev_rng) (lv := [(0, .ref 621), (1, .int (Int32.ofInt a0)), (2, .int (Int32.ofInt a1)), (3, .int (Int32.ofInt a2))]) (by decide +kernel) (by (try simp only [ev_sum, ev_nv_cat]); first | done | rfl) (by (try simp only [lv_args, ev_nv_cat]); first | done | rfl) ?_ x S' hJ
  unfold jm_308
  refine ev_r_aload_n (pc := 0) (k := 0) (v := .ref 621) trivial (by decide +kernel) (by rfl) ?_
  refine ev_r_iconst (pc := 1) (k := 0) (by decide +kernel) ?_
  refine ev_r_putI (pc := 2) (y := 570) (ci := 13) (f := 75) (by decide) (by decide +kernel) (by decide +kernel) (by exact ev_ob_621) rfl rfl ?_
  intro s1
  refine ev_r_aload_n (pc := 5) (k := 0) (v := .ref 621) trivial (by decide +kernel) (by rfl) ?_
  refine ev_r_iconst (pc := 6) (k := 0) (by decide +kernel) ?_
  refine ev_r_putI (pc := 7) (y := 573) (ci := 13) (f := 76) (by decide) (by decide +kernel) (by decide +kernel) (by exact ev_ob_621) rfl (ev_fit_bl (by decide : ev_bl 0)) ?_
  intro s2
  refine ev_r_iload_n (pc := 10) (k := 2) (v := Int32.ofInt a1) (by decide +kernel) (by rfl) ?_
  refine ev_r_istore (pc := 11) (k := 4) (by decide +kernel) (by decide +kernel) rfl ?_
  exact jlt_308_13 d hd Q a0 a2 ha0 ha2   Q a1 ha1 s2 _ (by exact (ev_l1 (by rfl) (by decide) (by decide))) (by exact (ev_l1 (by rfl) (by decide) (by decide))) (by exact (ev_lk_st1 (by rfl) (by decide) rfl)) (by exact ev_lk_st1_self)
def jb_314_47 (Q : Nat) (a1 : Int) (x4 : Int)  (K47 : Int → ev_St → Option ((Int) × ev_St)) (x14 : Int) (s20 : ev_St) : Option ((Int) × ev_St) := if x14 ≤ 0 then (some (0, s20)) else (ev_ck (x14 + (-1)) fun x22 => ev_if ((0 : Int) ≤ x22 ∧ x22 < (ev_aln 670 : Int)) (ev_b (s20.1 670 (Int.toNat x22)) fun x23 => ev_if ((0 : Int) ≤ x22 ∧ x22 < (ev_aln 671 : Int)) (ev_b (s20.1 671 (Int.toNat x22)) fun x24 => ev_jn (fun (x25 : Int) (s31 : ev_St) => K47 x25 s31) fun K381 => if 0 ≤ x23 then (ev_ck (81 * x23) fun x33 => ev_ck (x33 + x24) fun x34 => ev_if ((0 : Int) ≤ x34 ∧ x34 < (ev_aln 669 : Int)) (ev_b (s20.1 669 (Int.toNat x34)) fun x35 => if x35 ≠ 0 then (K381 x22 s20) else (ev_ck (81 * x23) fun x37 => ev_ck (x37 + x24) fun x38 => ev_if ((0 : Int) ≤ x38 ∧ x38 < (ev_aln 669 : Int)) (ev_b (ev_pI s20 669 (Int.toNat x38) 1) fun s39 => ev_ck (x4 + x23) fun x40 => ev_if ((0 : Int) ≤ x40 ∧ x40 < (ev_aln 662 : Int)) (ev_b (s39.1 662 (Int.toNat x40)) fun x41 => ev_ck (x4 + x23) fun x42 => ev_if ((0 : Int) ≤ x42 ∧ x42 < (ev_aln 663 : Int)) (ev_b (s39.1 663 (Int.toNat x42)) fun x43 => if x41 ≠ 5 then (ev_jn (fun (x45 : Int) (s55 : ev_St) => ev_b (ev_pI s55 621 81 x24) fun s56 => ev_jn (fun (x57 : Int) (s67 : ev_St) => ev_jn (fun (x68 : Int) (x69 : Int) (s80 : ev_St) => ev_jn (fun  (s91 : ev_St) => ev_jn (fun (x94 : Int) (x93 : Int) (r92 : Nat) (s102 : ev_St) => ev_if ((0 : Int) ≤ x93 ∧ x93 < (ev_aln r92 : Int)) (ev_b (ev_pI s102 r92 (Int.toNat x93) x94) fun s103 => ev_jn (fun (x106 : Int) (x105 : Int) (r104 : Nat) (s112 : ev_St) => ev_if ((0 : Int) ≤ x105 ∧ x105 < (ev_aln r104 : Int)) (ev_b (ev_pI s112 r104 (Int.toNat x105) x106) fun s113 => ev_ck (x68 + 1) fun x114 => K381 x114 s113)) fun K377 => if x41 ≠ 0 then (K377 x24 x68 671 s103) else (ev_ck (x24 + 1) fun x116 => K377 x116 x68 671 s103))) fun K356 => if x69 = 0 then (K356 x43 x68 670 s91) else (ev_ck (x23 + 1) fun x118 => K356 x118 x68 670 s91)) fun K336 => if x69 ≠ 0 then (K336  s80) else (if x41 = 2 then (K336  s80) else (if x41 ≠ 3 then (K381 x68 s80) else (K336  s80)))) fun K319 => if x41 ≠ 2 then (K319 x45 x57 s67) else (ev_ck (x4 + x23) fun x123 => ev_if ((0 : Int) ≤ x123 ∧ x123 < (ev_aln 664 : Int)) (ev_b (s67.1 664 (Int.toNat x123)) fun x124 => ev_if ((0 : Int) ≤ x45 ∧ x45 < (ev_aln 670 : Int)) (ev_b (ev_pI s67 670 (Int.toNat x45) x124) fun s125 => ev_if ((0 : Int) ≤ x45 ∧ x45 < (ev_aln 671 : Int)) (ev_b (ev_pI s125 671 (Int.toNat x45) x24) fun s126 => ev_ck (x45 + 1) fun x127 => K319 x127 x57 s126))))) fun K283 => ev_jn (fun  (s137 : ev_St) => K283 1 s137) fun K278 => if x41 = 4 then (K278  s56) else (ev_jn (fun  (s148 : ev_St) => ev_jn (fun  (s158 : ev_St) => K283 0 s158) fun K282 => if x41 ≠ 1 then (K282  s148) else (ev_bd (jm_295 Q x43 s148) fun x161 s160 => if x161 = 0 then (K282  s160) else (K278  s160))) fun K263 => if x41 ≠ 0 then (K263  s56) else (ev_b (s56.1 621 73) fun x164 => if x164 ≤ x24 then (K263  s56) else (ev_if ((0 : Int) ≤ x43 ∧ x43 < (ev_aln 633 : Int)) (ev_b (s56.2.1 633 (Int.toNat x43)) fun y166 => ev_if ((0 : Int) ≤ x43 ∧ x43 < (ev_aln 634 : Int)) (ev_b (s56.2.1 634 (Int.toNat x43)) fun y167 => ev_if ((0 : Int) ≤ x24 ∧ x24 < (ev_aln 678 : Int)) (ev_b (s56.1 678 (Int.toNat x24)) fun x168 => ev_bd (jm_244 Q y166 y167 x168 s56) fun x170 s169 => if x170 ≠ 0 then (K278  s169) else (K263  s169)))))))) fun K210 => if x41 ≠ 4 then (K210 x22 s39) else (ev_ck ((-1) - x43) fun x173 => ev_if ((0 : Int) ≤ x22 ∧ x22 < (ev_aln 670 : Int)) (ev_b (ev_pI s39 670 (Int.toNat x22) x173) fun s174 => ev_if ((0 : Int) ≤ x43 ∧ x43 < (ev_aln 672 : Int)) (ev_b (s174.1 672 (Int.toNat x43)) fun x175 => ev_if ((0 : Int) ≤ x22 ∧ x22 < (ev_aln 671 : Int)) (ev_b (ev_pI s174 671 (Int.toNat x22) x175) fun s176 => ev_ck (x22 + 1) fun x177 => ev_if ((0 : Int) ≤ x43 ∧ x43 < (ev_aln 672 : Int)) (ev_b (ev_pI s176 672 (Int.toNat x43) x24) fun s178 => K210 x177 s178)))))) else (ev_if ((0 : Int) ≤ 0 ∧ 0 < (ev_aln 679 : Int)) (ev_b (ev_pI s39 679 (Int.toNat 0) a1) fun s179 => ev_if ((0 : Int) ≤ 0 ∧ 0 < (ev_aln 680 : Int)) (ev_b (ev_pI s179 680 (Int.toNat 0) x24) fun s180 => some (1, s180)))))))))) else (ev_ck ((-1) - x23) fun x181 => ev_if ((0 : Int) ≤ x181 ∧ x181 < (ev_aln 672 : Int)) (ev_b (ev_pI s20 672 (Int.toNat x181) x24) fun s182 => K381 x22 s182)))))
def jl_314_47 (Q : Nat) (a1 : Int) (x4 : Int)  : Nat → Int → ev_St → Option ((Int) × ev_St)
  | 0 => fun _ _ => none
  | q + 1 => jb_314_47 Q a1 x4  (jl_314_47 Q a1 x4  q)
theorem jbt_314_47 (d : Nat) (hd : 7 ≤ d + 1) (Q : Nat) (a1 : Int) (x4 : Int) (ha1 : ev_rng a1) (hx4 : ev_rng x4)   (K47 : Int → ev_St → Option ((Int) × ev_St)) (hK47 : ∀ (x14 : Int) (hx14 : ev_rng x14), ∀ (s20 : ev_St) (w15 : List (Nat × Value)), ev_lk w15 0 = some (.ref 621) → ev_lk w15 2 = some (.int (Int32.ofInt a1)) → ev_lk w15 3 = some (.int (Int32.ofInt x4)) → ev_lk w15 4 = some (.int (Int32.ofInt x14)) → ev_w none (ev_Mof 314) d 47 w15 [] s20 (K47 x14 s20) ev_eI ev_bl) : ∀ (x14 : Int) (hx14 : ev_rng x14), ∀ (s20 : ev_St) (w15 : List (Nat × Value)), ev_lk w15 0 = some (.ref 621) → ev_lk w15 2 = some (.int (Int32.ofInt a1)) → ev_lk w15 3 = some (.int (Int32.ofInt x4)) → ev_lk w15 4 = some (.int (Int32.ofInt x14)) → ev_w none (ev_Mof 314) d 47 w15 [] s20 (jb_314_47 Q a1 x4  K47 x14 s20) ev_eI ev_bl := by
  intro x14 hx14 s20 w15 e16 e17 e18 e19
  unfold jb_314_47
  refine ev_r_iload (pc := 47) (k := 4) (v := Int32.ofInt x14) (by decide +kernel) (by exact e19) ?_
  refine ev_r_if (pc := 49) (q := .le) (o := 335) (t := 384) (c := x14 ≤ 0) (by decide +kernel) (ev_k_le hx14 ev_rng0) (by decide +kernel) ?_ ?_
  · intro c21
    refine ev_r_iconst (pc := 384) (k := 0) (by decide +kernel) ?_
    exact ev_r_ireturn (pc := 385) (x := 0) (v := Int32.ofInt 0) (ty := .boolean) (by decide : ev_bl 0) (by decide +kernel) (by decide +kernel) (ev_ret_bl (by decide : ev_bl 0)) rfl
  · intro c21
    refine ev_r_iinc (pc := 52) (k := 4) (c := -1) (x := x14) (by decide +kernel) (by decide +kernel) (by exact e19) (fun _ => rfl) ?_
    intro x22 hx22
    refine ev_r_aload_n (pc := 55) (k := 0) (v := .ref 621) trivial (by decide +kernel) (by exact (ev_l1 e16 (by decide) (by decide))) ?_
    refine ev_r_getC (pc := 56) (y := 157) (ci := 13) (f := 64) (fin := 1) (k' := 670) (by decide +kernel) (by decide +kernel) (by exact ev_ob_621) rfl rfl ?_
    refine ev_r_iload (pc := 59) (k := 4) (v := Int32.ofInt x22) (by decide +kernel) (by exact ev_lk_st1_self) ?_
    refine ev_r_iald (pc := 61) hx22 (by decide +kernel) (by exact ev_ab_670) ?_
    intro x23 hx23
    refine ev_r_istore (pc := 62) (k := 5) (by decide +kernel) (by decide +kernel) rfl ?_
    refine ev_r_aload_n (pc := 64) (k := 0) (v := .ref 621) trivial (by decide +kernel) (by exact (ev_l1 (ev_l1 e16 (by decide) (by decide)) (by decide) (by decide))) ?_
    refine ev_r_getC (pc := 65) (y := 160) (ci := 13) (f := 65) (fin := 1) (k' := 671) (by decide +kernel) (by decide +kernel) (by exact ev_ob_621) rfl rfl ?_
    refine ev_r_iload (pc := 68) (k := 4) (v := Int32.ofInt x22) (by decide +kernel) (by exact (ev_lk_st1 ev_lk_st1_self (by decide) rfl)) ?_
    refine ev_r_iald (pc := 70) hx22 (by decide +kernel) (by exact ev_ab_671) ?_
    intro x24 hx24
    refine ev_r_istore (pc := 71) (k := 6) (by decide +kernel) (by decide +kernel) rfl ?_
    refine ev_r_iload (pc := 73) (k := 5) (v := Int32.ofInt x23) (by decide +kernel) (by exact (ev_lk_st1 ev_lk_st1_self (by decide) rfl)) ?_
    refine ev_r_jn (Q := fun K => ∀ (x25 : Int) (hx25 : ev_rng x25), ∀ (s31 : ev_St) (w26 : List (Nat × Value)), ev_lk w26 0 = some (.ref 621) → ev_lk w26 2 = some (.int (Int32.ofInt a1)) → ev_lk w26 3 = some (.int (Int32.ofInt x4)) → ev_lk w26 4 = some (.int (Int32.ofInt x25)) → ev_w none (ev_Mof 314) d 381 w26 [] s31 (K x25 s31) ev_eI ev_bl) ?_ ?_
    · intro x25 hx25 s31 w26 e27 e28 e29 e30
      refine ev_r_goto (pc := 381) (o := (-334)) (t := 47) (by decide +kernel) (by decide +kernel) ?_
      exact hK47 x25 hx25 s31 _ (by exact e27) (by exact e28) (by exact e29) (by exact e30)
    · intro K381 hK381
      refine ev_r_if (pc := 75) (q := .ge) (o := 17) (t := 92) (c := 0 ≤ x23) (by decide +kernel) (ev_k_ge hx23 ev_rng0) (by decide +kernel) ?_ ?_
      · intro c32
        refine ev_r_aload_n (pc := 92) (k := 0) (v := .ref 621) trivial (by decide +kernel) (by exact (ev_l1 (ev_l1 (ev_l1 e16 (by decide) (by decide)) (by decide) (by decide)) (by decide) (by decide))) ?_
        refine ev_r_getC (pc := 93) (y := 153) (ci := 13) (f := 63) (fin := 1) (k' := 669) (by decide +kernel) (by decide +kernel) (by exact ev_ob_621) rfl rfl ?_
        refine ev_r_bipush (pc := 96) (k := 81) (by decide +kernel) (by decide +kernel) ?_
        refine ev_r_iload (pc := 98) (k := 5) (v := Int32.ofInt x23) (by decide +kernel) (by exact (ev_lk_st1 ev_lk_st1_self (by decide) rfl)) ?_
        refine ev_r_imul (pc := 100) (by decide +kernel) ?_
        intro x33 hx33
        refine ev_r_iload (pc := 101) (k := 6) (v := Int32.ofInt x24) (by decide +kernel) (by exact ev_lk_st1_self) ?_
        refine ev_r_iadd (pc := 103) (by decide +kernel) ?_
        intro x34 hx34
        refine ev_r_bald (pc := 104) (ty := .boolean) (Or.inr rfl) hx34 (by decide +kernel) (by exact ev_ab_669) ?_
        intro x35 hx35
        refine ev_r_if (pc := 105) (q := .ne) (o := 276) (t := 381) (c := x35 ≠ 0) (by decide +kernel) (ev_k_ne hx35 ev_rng0) (by decide +kernel) ?_ ?_
        · intro c36
          exact hK381 x22 hx22 s20 _ (by exact (ev_l1 (ev_l1 (ev_l1 e16 (by decide) (by decide)) (by decide) (by decide)) (by decide) (by decide))) (by exact (ev_l1 (ev_l1 (ev_l1 e17 (by decide) (by decide)) (by decide) (by decide)) (by decide) (by decide))) (by exact (ev_l1 (ev_l1 (ev_lk_st1 e18 (by decide) rfl) (by decide) (by decide)) (by decide) (by decide))) (by exact (ev_l1 (ev_lk_st1 ev_lk_st1_self (by decide) rfl) (by decide) (by decide)))
        · intro c36
          refine ev_r_aload_n (pc := 108) (k := 0) (v := .ref 621) trivial (by decide +kernel) (by exact (ev_l1 (ev_l1 (ev_l1 e16 (by decide) (by decide)) (by decide) (by decide)) (by decide) (by decide))) ?_
          refine ev_r_getC (pc := 109) (y := 153) (ci := 13) (f := 63) (fin := 1) (k' := 669) (by decide +kernel) (by decide +kernel) (by exact ev_ob_621) rfl rfl ?_
          refine ev_r_bipush (pc := 112) (k := 81) (by decide +kernel) (by decide +kernel) ?_
          refine ev_r_iload (pc := 114) (k := 5) (v := Int32.ofInt x23) (by decide +kernel) (by exact (ev_lk_st1 ev_lk_st1_self (by decide) rfl)) ?_
          refine ev_r_imul (pc := 116) (by decide +kernel) ?_
          intro x37 hx37
          refine ev_r_iload (pc := 117) (k := 6) (v := Int32.ofInt x24) (by decide +kernel) (by exact ev_lk_st1_self) ?_
          refine ev_r_iadd (pc := 119) (by decide +kernel) ?_
          intro x38 hx38
          refine ev_r_iconst (pc := 120) (k := 1) (by decide +kernel) ?_
          refine ev_r_bast (pc := 121) (ty := .boolean) (Or.inr rfl) (ev_nar_bl (by decide : ev_bl 1)) (by decide) hx38 (by decide +kernel) (by exact ev_ab_669) ?_
          intro s39
          refine ev_r_aload_n (pc := 122) (k := 0) (v := .ref 621) trivial (by decide +kernel) (by exact (ev_l1 (ev_l1 (ev_l1 e16 (by decide) (by decide)) (by decide) (by decide)) (by decide) (by decide))) ?_
          refine ev_r_getC (pc := 123) (y := 132) (ci := 13) (f := 55) (fin := 1) (k' := 662) (by decide +kernel) (by decide +kernel) (by exact ev_ob_621) rfl rfl ?_
          refine ev_r_iload_n (pc := 126) (k := 3) (v := Int32.ofInt x4) (by decide +kernel) (by exact (ev_l1 (ev_l1 (ev_lk_st1 e18 (by decide) rfl) (by decide) (by decide)) (by decide) (by decide))) ?_
          refine ev_r_iload (pc := 127) (k := 5) (v := Int32.ofInt x23) (by decide +kernel) (by exact (ev_lk_st1 ev_lk_st1_self (by decide) rfl)) ?_
          refine ev_r_iadd (pc := 129) (by decide +kernel) ?_
          intro x40 hx40
          refine ev_r_iald (pc := 130) hx40 (by decide +kernel) (by exact ev_ab_662) ?_
          intro x41 hx41
          refine ev_r_istore (pc := 131) (k := 7) (by decide +kernel) (by decide +kernel) rfl ?_
          refine ev_r_aload_n (pc := 133) (k := 0) (v := .ref 621) trivial (by decide +kernel) (by exact (ev_l1 (ev_l1 (ev_l1 (ev_l1 e16 (by decide) (by decide)) (by decide) (by decide)) (by decide) (by decide)) (by decide) (by decide))) ?_
          refine ev_r_getC (pc := 134) (y := 135) (ci := 13) (f := 56) (fin := 1) (k' := 663) (by decide +kernel) (by decide +kernel) (by exact ev_ob_621) rfl rfl ?_
          refine ev_r_iload_n (pc := 137) (k := 3) (v := Int32.ofInt x4) (by decide +kernel) (by exact (ev_l1 (ev_l1 (ev_l1 (ev_lk_st1 e18 (by decide) rfl) (by decide) (by decide)) (by decide) (by decide)) (by decide) (by decide))) ?_
          refine ev_r_iload (pc := 138) (k := 5) (v := Int32.ofInt x23) (by decide +kernel) (by exact (ev_l1 (ev_lk_st1 ev_lk_st1_self (by decide) rfl) (by decide) (by decide))) ?_
          refine ev_r_iadd (pc := 140) (by decide +kernel) ?_
          intro x42 hx42
          refine ev_r_iald (pc := 141) hx42 (by decide +kernel) (by exact ev_ab_663) ?_
          intro x43 hx43
          refine ev_r_istore (pc := 142) (k := 8) (by decide +kernel) (by decide +kernel) rfl ?_
          refine ev_r_iload (pc := 144) (k := 7) (v := Int32.ofInt x41) (by decide +kernel) (by exact (ev_lk_st1 ev_lk_st1_self (by decide) rfl)) ?_
          refine ev_r_iconst (pc := 146) (k := 5) (by decide +kernel) ?_
          refine ev_r_icmp (pc := 147) (q := .ne) (o := 20) (t := 167) (c := x41 ≠ 5) (by decide +kernel) (ev_k_ne hx41 (by decide)) (by decide +kernel) ?_ ?_
          · intro c44
            refine ev_r_iload (pc := 167) (k := 7) (v := Int32.ofInt x41) (by decide +kernel) (by exact (ev_lk_st1 ev_lk_st1_self (by decide) rfl)) ?_
            refine ev_r_iconst (pc := 169) (k := 4) (by decide +kernel) ?_
            refine ev_r_jn (Q := fun K => ∀ (x45 : Int) (hx45 : ev_rng x45), ∀ (s55 : ev_St) (w46 : List (Nat × Value)), ev_lk w46 0 = some (.ref 621) → ev_lk w46 2 = some (.int (Int32.ofInt a1)) → ev_lk w46 3 = some (.int (Int32.ofInt x4)) → ev_lk w46 4 = some (.int (Int32.ofInt x45)) → ev_lk w46 5 = some (.int (Int32.ofInt x23)) → ev_lk w46 6 = some (.int (Int32.ofInt x24)) → ev_lk w46 7 = some (.int (Int32.ofInt x41)) → ev_lk w46 8 = some (.int (Int32.ofInt x43)) → ev_w none (ev_Mof 314) d 210 w46 [] s55 (K x45 s55) ev_eI ev_bl) ?_ ?_
            · intro x45 hx45 s55 w46 e47 e48 e49 e50 e51 e52 e53 e54
              refine ev_r_aload_n (pc := 210) (k := 0) (v := .ref 621) trivial (by decide +kernel) (by exact e47) ?_
              refine ev_r_iload (pc := 211) (k := 6) (v := Int32.ofInt x24) (by decide +kernel) (by exact e52) ?_
              refine ev_r_putI (pc := 213) (y := 582) (ci := 13) (f := 81) hx24 (by decide +kernel) (by decide +kernel) (by exact ev_ob_621) rfl rfl ?_
              intro s56
              refine ev_r_iload (pc := 216) (k := 7) (v := Int32.ofInt x41) (by decide +kernel) (by exact e53) ?_
              refine ev_r_iconst (pc := 218) (k := 4) (by decide +kernel) ?_
              refine ev_r_jn (Q := fun K => ∀ (x57 : Int) (hx57 : ev_rng x57), ∀ (s67 : ev_St) (w58 : List (Nat × Value)), ev_lk w58 0 = some (.ref 621) → ev_lk w58 2 = some (.int (Int32.ofInt a1)) → ev_lk w58 3 = some (.int (Int32.ofInt x4)) → ev_lk w58 4 = some (.int (Int32.ofInt x45)) → ev_lk w58 5 = some (.int (Int32.ofInt x23)) → ev_lk w58 6 = some (.int (Int32.ofInt x24)) → ev_lk w58 7 = some (.int (Int32.ofInt x41)) → ev_lk w58 8 = some (.int (Int32.ofInt x43)) → ev_w none (ev_Mof 314) d 283 w58 [.int (Int32.ofInt x57)] s67 (K x57 s67) ev_eI ev_bl) ?_ ?_
              · intro x57 hx57 s67 w58 e59 e60 e61 e62 e63 e64 e65 e66
                refine ev_r_istore (pc := 283) (k := 9) (by decide +kernel) (by decide +kernel) rfl ?_
                refine ev_r_iload (pc := 285) (k := 7) (v := Int32.ofInt x41) (by decide +kernel) (by exact (ev_l1 e65 (by decide) (by decide))) ?_
                refine ev_r_iconst (pc := 287) (k := 2) (by decide +kernel) ?_
                refine ev_r_jn (Q := fun K => ∀ (x68 : Int) (hx68 : ev_rng x68), ∀ (x69 : Int) (hx69 : ev_rng x69), ∀ (s80 : ev_St) (w70 : List (Nat × Value)), ev_lk w70 0 = some (.ref 621) → ev_lk w70 2 = some (.int (Int32.ofInt a1)) → ev_lk w70 3 = some (.int (Int32.ofInt x4)) → ev_lk w70 4 = some (.int (Int32.ofInt x68)) → ev_lk w70 5 = some (.int (Int32.ofInt x23)) → ev_lk w70 6 = some (.int (Int32.ofInt x24)) → ev_lk w70 7 = some (.int (Int32.ofInt x41)) → ev_lk w70 8 = some (.int (Int32.ofInt x43)) → ev_lk w70 9 = some (.int (Int32.ofInt x69)) → ev_w none (ev_Mof 314) d 319 w70 [] s80 (K x68 x69 s80) ev_eI ev_bl) ?_ ?_
                · intro x68 hx68 x69 hx69 s80 w70 e71 e72 e73 e74 e75 e76 e77 e78 e79
                  refine ev_r_iload (pc := 319) (k := 9) (v := Int32.ofInt x69) (by decide +kernel) (by exact e79) ?_
                  refine ev_r_jn (Q := fun K => ∀ (s91 : ev_St) (w81 : List (Nat × Value)), ev_lk w81 0 = some (.ref 621) → ev_lk w81 2 = some (.int (Int32.ofInt a1)) → ev_lk w81 3 = some (.int (Int32.ofInt x4)) → ev_lk w81 4 = some (.int (Int32.ofInt x68)) → ev_lk w81 5 = some (.int (Int32.ofInt x23)) → ev_lk w81 6 = some (.int (Int32.ofInt x24)) → ev_lk w81 7 = some (.int (Int32.ofInt x41)) → ev_lk w81 8 = some (.int (Int32.ofInt x43)) → ev_lk w81 9 = some (.int (Int32.ofInt x69)) → ev_w none (ev_Mof 314) d 336 w81 [] s91 (K  s91) ev_eI ev_bl) ?_ ?_
                  · intro  s91 w81 e82 e83 e84 e85 e86 e87 e88 e89 e90
                    refine ev_r_aload_n (pc := 336) (k := 0) (v := .ref 621) trivial (by decide +kernel) (by exact e82) ?_
                    refine ev_r_getC (pc := 337) (y := 157) (ci := 13) (f := 64) (fin := 1) (k' := 670) (by decide +kernel) (by decide +kernel) (by exact ev_ob_621) rfl rfl ?_
                    refine ev_r_iload (pc := 340) (k := 4) (v := Int32.ofInt x68) (by decide +kernel) (by exact e85) ?_
                    refine ev_r_iload (pc := 342) (k := 9) (v := Int32.ofInt x69) (by decide +kernel) (by exact e90) ?_
                    refine ev_r_jn (Q := fun K => ∀ (x94 : Int) (hx94 : ev_rng x94), ∀ (x93 : Int) (hx93 : ev_rng x93), ∀ (r92 : Nat) (hr92 : ev_isAb r92 1 .int = true), ∀ (s102 : ev_St) (w95 : List (Nat × Value)), ev_lk w95 0 = some (.ref 621) → ev_lk w95 2 = some (.int (Int32.ofInt a1)) → ev_lk w95 3 = some (.int (Int32.ofInt x4)) → ev_lk w95 4 = some (.int (Int32.ofInt x68)) → ev_lk w95 6 = some (.int (Int32.ofInt x24)) → ev_lk w95 7 = some (.int (Int32.ofInt x41)) → ev_w none (ev_Mof 314) d 356 w95 [.int (Int32.ofInt x94), .int (Int32.ofInt x93), .ref r92] s102 (K x94 x93 r92 s102) ev_eI ev_bl) ?_ ?_
                    · intro x94 hx94 x93 hx93 r92 hr92 s102 w95 e96 e97 e98 e99 e100 e101
                      refine ev_r_iast (pc := 356) hx94 hx93 (by decide +kernel) (by exact hr92) ?_
                      intro s103
                      refine ev_r_aload_n (pc := 357) (k := 0) (v := .ref 621) trivial (by decide +kernel) (by exact e96) ?_
                      refine ev_r_getC (pc := 358) (y := 160) (ci := 13) (f := 65) (fin := 1) (k' := 671) (by decide +kernel) (by decide +kernel) (by exact ev_ob_621) rfl rfl ?_
                      refine ev_r_iload (pc := 361) (k := 4) (v := Int32.ofInt x68) (by decide +kernel) (by exact e99) ?_
                      refine ev_r_iload (pc := 363) (k := 7) (v := Int32.ofInt x41) (by decide +kernel) (by exact e101) ?_
                      refine ev_r_jn (Q := fun K => ∀ (x106 : Int) (hx106 : ev_rng x106), ∀ (x105 : Int) (hx105 : ev_rng x105), ∀ (r104 : Nat) (hr104 : ev_isAb r104 1 .int = true), ∀ (s112 : ev_St) (w107 : List (Nat × Value)), ev_lk w107 0 = some (.ref 621) → ev_lk w107 2 = some (.int (Int32.ofInt a1)) → ev_lk w107 3 = some (.int (Int32.ofInt x4)) → ev_lk w107 4 = some (.int (Int32.ofInt x68)) → ev_w none (ev_Mof 314) d 377 w107 [.int (Int32.ofInt x106), .int (Int32.ofInt x105), .ref r104] s112 (K x106 x105 r104 s112) ev_eI ev_bl) ?_ ?_
                      · intro x106 hx106 x105 hx105 r104 hr104 s112 w107 e108 e109 e110 e111
                        refine ev_r_iast (pc := 377) hx106 hx105 (by decide +kernel) (by exact hr104) ?_
                        intro s113
                        refine ev_r_iinc (pc := 378) (k := 4) (c := 1) (x := x68) (by decide +kernel) (by decide +kernel) (by exact e111) (fun _ => rfl) ?_
                        intro x114 hx114
                        exact hK381 x114 hx114 s113 _ (by exact (ev_l1 e108 (by decide) (by decide))) (by exact (ev_l1 e109 (by decide) (by decide))) (by exact (ev_lk_st1 e110 (by decide) rfl)) (by exact ev_lk_st1_self)
                      · intro K377 hK377
                        refine ev_r_if (pc := 365) (q := .ne) (o := 10) (t := 375) (c := x41 ≠ 0) (by decide +kernel) (ev_k_ne hx41 ev_rng0) (by decide +kernel) ?_ ?_
                        · intro c115
                          refine ev_r_iload (pc := 375) (k := 6) (v := Int32.ofInt x24) (by decide +kernel) (by exact e100) ?_
                          exact hK377 x24 hx24 x68 hx68 671 ev_ab_671 s103 _ (by exact e96) (by exact e97) (by exact e98) (by exact e99)
                        · intro c115
                          refine ev_r_iload (pc := 368) (k := 6) (v := Int32.ofInt x24) (by decide +kernel) (by exact e100) ?_
                          refine ev_r_iconst (pc := 370) (k := 1) (by decide +kernel) ?_
                          refine ev_r_iadd (pc := 371) (by decide +kernel) ?_
                          intro x116 hx116
                          refine ev_r_goto (pc := 372) (o := 5) (t := 377) (by decide +kernel) (by decide +kernel) ?_
                          exact hK377 x116 hx116 x68 hx68 671 ev_ab_671 s103 _ (by exact e96) (by exact e97) (by exact e98) (by exact e99)
                    · intro K356 hK356
                      refine ev_r_if (pc := 344) (q := .eq) (o := 10) (t := 354) (c := x69 = 0) (by decide +kernel) (ev_k_eq hx69 ev_rng0) (by decide +kernel) ?_ ?_
                      · intro c117
                        refine ev_r_iload (pc := 354) (k := 8) (v := Int32.ofInt x43) (by decide +kernel) (by exact e89) ?_
                        exact hK356 x43 hx43 x68 hx68 670 ev_ab_670 s91 _ (by exact e82) (by exact e83) (by exact e84) (by exact e85) (by exact e87) (by exact e88)
                      · intro c117
                        refine ev_r_iload (pc := 347) (k := 5) (v := Int32.ofInt x23) (by decide +kernel) (by exact e86) ?_
                        refine ev_r_iconst (pc := 349) (k := 1) (by decide +kernel) ?_
                        refine ev_r_iadd (pc := 350) (by decide +kernel) ?_
                        intro x118 hx118
                        refine ev_r_goto (pc := 351) (o := 5) (t := 356) (by decide +kernel) (by decide +kernel) ?_
                        exact hK356 x118 hx118 x68 hx68 670 ev_ab_670 s91 _ (by exact e82) (by exact e83) (by exact e84) (by exact e85) (by exact e87) (by exact e88)
                  · intro K336 hK336
                    refine ev_r_if (pc := 321) (q := .ne) (o := 15) (t := 336) (c := x69 ≠ 0) (by decide +kernel) (ev_k_ne hx69 ev_rng0) (by decide +kernel) ?_ ?_
                    · intro c119
                      exact hK336  s80 _ (by exact e71) (by exact e72) (by exact e73) (by exact e74) (by exact e75) (by exact e76) (by exact e77) (by exact e78) (by exact e79)
                    · intro c119
                      refine ev_r_iload (pc := 324) (k := 7) (v := Int32.ofInt x41) (by decide +kernel) (by exact e77) ?_
                      refine ev_r_iconst (pc := 326) (k := 2) (by decide +kernel) ?_
                      refine ev_r_icmp (pc := 327) (q := .eq) (o := 9) (t := 336) (c := x41 = 2) (by decide +kernel) (ev_k_eq hx41 (by decide)) (by decide +kernel) ?_ ?_
                      · intro c120
                        exact hK336  s80 _ (by exact e71) (by exact e72) (by exact e73) (by exact e74) (by exact e75) (by exact e76) (by exact e77) (by exact e78) (by exact e79)
                      · intro c120
                        refine ev_r_iload (pc := 330) (k := 7) (v := Int32.ofInt x41) (by decide +kernel) (by exact e77) ?_
                        refine ev_r_iconst (pc := 332) (k := 3) (by decide +kernel) ?_
                        refine ev_r_icmp (pc := 333) (q := .ne) (o := 48) (t := 381) (c := x41 ≠ 3) (by decide +kernel) (ev_k_ne hx41 (by decide)) (by decide +kernel) ?_ ?_
                        · intro c121
                          exact hK381 x68 hx68 s80 _ (by exact e71) (by exact e72) (by exact e73) (by exact e74)
                        · intro c121
                          exact hK336  s80 _ (by exact e71) (by exact e72) (by exact e73) (by exact e74) (by exact e75) (by exact e76) (by exact e77) (by exact e78) (by exact e79)
                · intro K319 hK319
                  refine ev_r_icmp (pc := 288) (q := .ne) (o := 31) (t := 319) (c := x41 ≠ 2) (by decide +kernel) (ev_k_ne hx41 (by decide)) (by decide +kernel) ?_ ?_
                  · intro c122
                    exact hK319 x45 hx45 x57 hx57 s67 _ (by exact (ev_l1 e59 (by decide) (by decide))) (by exact (ev_l1 e60 (by decide) (by decide))) (by exact (ev_l1 e61 (by decide) (by decide))) (by exact (ev_l1 e62 (by decide) (by decide))) (by exact (ev_l1 e63 (by decide) (by decide))) (by exact (ev_l1 e64 (by decide) (by decide))) (by exact (ev_l1 e65 (by decide) (by decide))) (by exact (ev_lk_st1 e66 (by decide) rfl)) (by exact ev_lk_st1_self)
                  · intro c122
                    refine ev_r_aload_n (pc := 291) (k := 0) (v := .ref 621) trivial (by decide +kernel) (by exact (ev_l1 e59 (by decide) (by decide))) ?_
                    refine ev_r_getC (pc := 292) (y := 157) (ci := 13) (f := 64) (fin := 1) (k' := 670) (by decide +kernel) (by decide +kernel) (by exact ev_ob_621) rfl rfl ?_
                    refine ev_r_iload (pc := 295) (k := 4) (v := Int32.ofInt x45) (by decide +kernel) (by exact (ev_l1 e62 (by decide) (by decide))) ?_
                    refine ev_r_aload_n (pc := 297) (k := 0) (v := .ref 621) trivial (by decide +kernel) (by exact (ev_l1 e59 (by decide) (by decide))) ?_
                    refine ev_r_getC (pc := 298) (y := 138) (ci := 13) (f := 57) (fin := 1) (k' := 664) (by decide +kernel) (by decide +kernel) (by exact ev_ob_621) rfl rfl ?_
                    refine ev_r_iload_n (pc := 301) (k := 3) (v := Int32.ofInt x4) (by decide +kernel) (by exact (ev_l1 e61 (by decide) (by decide))) ?_
                    refine ev_r_iload (pc := 302) (k := 5) (v := Int32.ofInt x23) (by decide +kernel) (by exact (ev_l1 e63 (by decide) (by decide))) ?_
                    refine ev_r_iadd (pc := 304) (by decide +kernel) ?_
                    intro x123 hx123
                    refine ev_r_iald (pc := 305) hx123 (by decide +kernel) (by exact ev_ab_664) ?_
                    intro x124 hx124
                    refine ev_r_iast (pc := 306) hx124 hx45 (by decide +kernel) (by exact ev_ab_670) ?_
                    intro s125
                    refine ev_r_aload_n (pc := 307) (k := 0) (v := .ref 621) trivial (by decide +kernel) (by exact (ev_l1 e59 (by decide) (by decide))) ?_
                    refine ev_r_getC (pc := 308) (y := 160) (ci := 13) (f := 65) (fin := 1) (k' := 671) (by decide +kernel) (by decide +kernel) (by exact ev_ob_621) rfl rfl ?_
                    refine ev_r_iload (pc := 311) (k := 4) (v := Int32.ofInt x45) (by decide +kernel) (by exact (ev_l1 e62 (by decide) (by decide))) ?_
                    refine ev_r_iload (pc := 313) (k := 6) (v := Int32.ofInt x24) (by decide +kernel) (by exact (ev_l1 e64 (by decide) (by decide))) ?_
                    refine ev_r_iast (pc := 315) hx24 hx45 (by decide +kernel) (by exact ev_ab_671) ?_
                    intro s126
                    refine ev_r_iinc (pc := 316) (k := 4) (c := 1) (x := x45) (by decide +kernel) (by decide +kernel) (by exact (ev_l1 e62 (by decide) (by decide))) (fun _ => rfl) ?_
                    intro x127 hx127
                    exact hK319 x127 hx127 x57 hx57 s126 _ (by exact (ev_l1 (ev_l1 e59 (by decide) (by decide)) (by decide) (by decide))) (by exact (ev_l1 (ev_l1 e60 (by decide) (by decide)) (by decide) (by decide))) (by exact (ev_lk_st1 (ev_l1 e61 (by decide) (by decide)) (by decide) rfl)) (by exact ev_lk_st1_self) (by exact (ev_l1 (ev_l1 e63 (by decide) (by decide)) (by decide) (by decide))) (by exact (ev_l1 (ev_l1 e64 (by decide) (by decide)) (by decide) (by decide))) (by exact (ev_l1 (ev_l1 e65 (by decide) (by decide)) (by decide) (by decide))) (by exact (ev_l1 (ev_lk_st1 e66 (by decide) rfl) (by decide) (by decide))) (by exact (ev_l1 ev_lk_st1_self (by decide) (by decide)))
              · intro K283 hK283
                refine ev_r_jn (Q := fun K => ∀ (s137 : ev_St) (w128 : List (Nat × Value)), ev_lk w128 0 = some (.ref 621) → ev_lk w128 2 = some (.int (Int32.ofInt a1)) → ev_lk w128 3 = some (.int (Int32.ofInt x4)) → ev_lk w128 4 = some (.int (Int32.ofInt x45)) → ev_lk w128 5 = some (.int (Int32.ofInt x23)) → ev_lk w128 6 = some (.int (Int32.ofInt x24)) → ev_lk w128 7 = some (.int (Int32.ofInt x41)) → ev_lk w128 8 = some (.int (Int32.ofInt x43)) → ev_w none (ev_Mof 314) d 278 w128 [] s137 (K  s137) ev_eI ev_bl) ?_ ?_
                · intro  s137 w128 e129 e130 e131 e132 e133 e134 e135 e136
                  refine ev_r_iconst (pc := 278) (k := 1) (by decide +kernel) ?_
                  refine ev_r_goto (pc := 279) (o := 4) (t := 283) (by decide +kernel) (by decide +kernel) ?_
                  exact hK283 1 (by decide) s137 _ (by exact e129) (by exact e130) (by exact e131) (by exact e132) (by exact e133) (by exact e134) (by exact e135) (by exact e136)
                · intro K278 hK278
                  refine ev_r_icmp (pc := 219) (q := .eq) (o := 59) (t := 278) (c := x41 = 4) (by decide +kernel) (ev_k_eq hx41 (by decide)) (by decide +kernel) ?_ ?_
                  · intro c138
                    exact hK278  s56 _ (by exact e47) (by exact e48) (by exact e49) (by exact e50) (by exact e51) (by exact e52) (by exact e53) (by exact e54)
                  · intro c138
                    refine ev_r_iload (pc := 222) (k := 7) (v := Int32.ofInt x41) (by decide +kernel) (by exact e53) ?_
                    refine ev_r_jn (Q := fun K => ∀ (s148 : ev_St) (w139 : List (Nat × Value)), ev_lk w139 0 = some (.ref 621) → ev_lk w139 2 = some (.int (Int32.ofInt a1)) → ev_lk w139 3 = some (.int (Int32.ofInt x4)) → ev_lk w139 4 = some (.int (Int32.ofInt x45)) → ev_lk w139 5 = some (.int (Int32.ofInt x23)) → ev_lk w139 6 = some (.int (Int32.ofInt x24)) → ev_lk w139 7 = some (.int (Int32.ofInt x41)) → ev_lk w139 8 = some (.int (Int32.ofInt x43)) → ev_w none (ev_Mof 314) d 263 w139 [] s148 (K  s148) ev_eI ev_bl) ?_ ?_
                    · intro  s148 w139 e140 e141 e142 e143 e144 e145 e146 e147
                      refine ev_r_iload (pc := 263) (k := 7) (v := Int32.ofInt x41) (by decide +kernel) (by exact e146) ?_
                      refine ev_r_iconst (pc := 265) (k := 1) (by decide +kernel) ?_
                      refine ev_r_jn (Q := fun K => ∀ (s158 : ev_St) (w149 : List (Nat × Value)), ev_lk w149 0 = some (.ref 621) → ev_lk w149 2 = some (.int (Int32.ofInt a1)) → ev_lk w149 3 = some (.int (Int32.ofInt x4)) → ev_lk w149 4 = some (.int (Int32.ofInt x45)) → ev_lk w149 5 = some (.int (Int32.ofInt x23)) → ev_lk w149 6 = some (.int (Int32.ofInt x24)) → ev_lk w149 7 = some (.int (Int32.ofInt x41)) → ev_lk w149 8 = some (.int (Int32.ofInt x43)) → ev_w none (ev_Mof 314) d 282 w149 [] s158 (K  s158) ev_eI ev_bl) ?_ ?_
                      · intro  s158 w149 e150 e151 e152 e153 e154 e155 e156 e157
                        refine ev_r_iconst (pc := 282) (k := 0) (by decide +kernel) ?_
                        exact hK283 0 (by decide) s158 _ (by exact e150) (by exact e151) (by exact e152) (by exact e153) (by exact e154) (by exact e155) (by exact e156) (by exact e157)
                      · intro K282 hK282
                        refine ev_r_icmp (pc := 266) (q := .ne) (o := 16) (t := 282) (c := x41 ≠ 1) (by decide +kernel) (ev_k_ne hx41 (by decide)) (by decide +kernel) ?_ ?_
                        · intro c159
                          exact hK282  s148 _ (by exact e140) (by exact e141) (by exact e142) (by exact e143) (by exact e144) (by exact e145) (by exact e146) (by exact e147)
                        · intro c159
                          refine ev_r_aload_n (pc := 269) (k := 0) (v := .ref 621) trivial (by decide +kernel) (by exact e140) ?_
                          refine ev_r_iload (pc := 270) (k := 8) (v := Int32.ofInt x43) (by decide +kernel) (by exact e147) ?_
                          refine ev_r_virt (pc := 272) (y := 620) (mi := 295) (na := 1) (k := 621) (as := [.int (Int32.ofInt x43)]) (rest := []) (encc := ev_oI) (Q := ev_bl) (fun x S1 h => jt_295 d (by omega) Q x43 hx43 s148 x S1 h) (by exact ev_ob_621) (by decide +kernel) (by decide +kernel) (by decide +kernel) (by decide +kernel) rfl (by (try simp only [ev_sum, ev_nv_cat]); first | done | rfl) ?_
                          intro x161 s160 hx161
                          replace hx161 := ev_bl_rng hx161
                          show ev_w _ _ _ _ _ [.int (Int32.ofInt x161)] _ _ _ _
                          refine ev_r_if (pc := 275) (q := .eq) (o := 7) (t := 282) (c := x161 = 0) (by decide +kernel) (ev_k_eq hx161 ev_rng0) (by decide +kernel) ?_ ?_
                          · intro c162
                            exact hK282  s160 _ (by exact e140) (by exact e141) (by exact e142) (by exact e143) (by exact e144) (by exact e145) (by exact e146) (by exact e147)
                          · intro c162
                            exact hK278  s160 _ (by exact e140) (by exact e141) (by exact e142) (by exact e143) (by exact e144) (by exact e145) (by exact e146) (by exact e147)
                    · intro K263 hK263
                      refine ev_r_if (pc := 224) (q := .ne) (o := 39) (t := 263) (c := x41 ≠ 0) (by decide +kernel) (ev_k_ne hx41 ev_rng0) (by decide +kernel) ?_ ?_
                      · intro c163
                        exact hK263  s56 _ (by exact e47) (by exact e48) (by exact e49) (by exact e50) (by exact e51) (by exact e52) (by exact e53) (by exact e54)
                      · intro c163
                        refine ev_r_iload (pc := 227) (k := 6) (v := Int32.ofInt x24) (by decide +kernel) (by exact e52) ?_
                        refine ev_r_aload_n (pc := 229) (k := 0) (v := .ref 621) trivial (by decide +kernel) (by exact e47) ?_
                        refine ev_r_getI (pc := 230) (y := 567) (ci := 13) (f := 73) (fin := 0) (by decide +kernel) (by decide +kernel) (by exact ev_ob_621) rfl ?_
                        intro x164 hx164
                        refine ev_r_icmp (pc := 233) (q := .ge) (o := 30) (t := 263) (c := x164 ≤ x24) (by decide +kernel) (ev_k_ge hx24 hx164) (by decide +kernel) ?_ ?_
                        · intro c165
                          exact hK263  s56 _ (by exact e47) (by exact e48) (by exact e49) (by exact e50) (by exact e51) (by exact e52) (by exact e53) (by exact e54)
                        · intro c165
                          refine ev_r_aload_n (pc := 236) (k := 0) (v := .ref 621) trivial (by decide +kernel) (by exact e47) ?_
                          refine ev_r_getC (pc := 237) (y := 43) (ci := 13) (f := 14) (fin := 1) (k' := 633) (by decide +kernel) (by decide +kernel) (by exact ev_ob_621) rfl rfl ?_
                          refine ev_r_iload (pc := 240) (k := 8) (v := Int32.ofInt x43) (by decide +kernel) (by exact e54) ?_
                          refine ev_r_lald (pc := 242) hx43 (by decide +kernel) (by exact ev_ab_633) ?_
                          intro y166
                          refine ev_r_aload_n (pc := 243) (k := 0) (v := .ref 621) trivial (by decide +kernel) (by exact e47) ?_
                          refine ev_r_getC (pc := 244) (y := 47) (ci := 13) (f := 15) (fin := 1) (k' := 634) (by decide +kernel) (by decide +kernel) (by exact ev_ob_621) rfl rfl ?_
                          refine ev_r_iload (pc := 247) (k := 8) (v := Int32.ofInt x43) (by decide +kernel) (by exact e54) ?_
                          refine ev_r_lald (pc := 249) hx43 (by decide +kernel) (by exact ev_ab_634) ?_
                          intro y167
                          refine ev_r_aload_n (pc := 250) (k := 0) (v := .ref 621) trivial (by decide +kernel) (by exact e47) ?_
                          refine ev_r_getC (pc := 251) (y := 181) (ci := 13) (f := 74) (fin := 1) (k' := 678) (by decide +kernel) (by decide +kernel) (by exact ev_ob_621) rfl rfl ?_
                          refine ev_r_iload (pc := 254) (k := 6) (v := Int32.ofInt x24) (by decide +kernel) (by exact e52) ?_
                          refine ev_r_iald (pc := 256) hx24 (by decide +kernel) (by exact ev_ab_678) ?_
                          intro x168 hx168
                          refine ev_r_stat (pc := 257) (y := 534) (kind := 2) (mi := 244) (na := 3) (as := [.long y166, .long y167, .int (Int32.ofInt x168)]) (rest := []) (encc := ev_oI) (Q := ev_bl) (fun x S1 h => jt_244 d (by omega) Q y166 y167 x168 hx168 s56 x S1 h) (Or.inl rfl) (by decide +kernel) (by decide +kernel) (by decide +kernel) (by decide +kernel) rfl (by (try simp only [ev_sum, ev_nv_cat]); first | done | rfl) ?_
                          intro x170 s169 hx170
                          replace hx170 := ev_bl_rng hx170
                          show ev_w _ _ _ _ _ [.int (Int32.ofInt x170)] _ _ _ _
                          refine ev_r_if (pc := 260) (q := .ne) (o := 18) (t := 278) (c := x170 ≠ 0) (by decide +kernel) (ev_k_ne hx170 ev_rng0) (by decide +kernel) ?_ ?_
                          · intro c171
                            exact hK278  s169 _ (by exact e47) (by exact e48) (by exact e49) (by exact e50) (by exact e51) (by exact e52) (by exact e53) (by exact e54)
                          · intro c171
                            exact hK263  s169 _ (by exact e47) (by exact e48) (by exact e49) (by exact e50) (by exact e51) (by exact e52) (by exact e53) (by exact e54)
            · intro K210 hK210
              refine ev_r_icmp (pc := 170) (q := .ne) (o := 40) (t := 210) (c := x41 ≠ 4) (by decide +kernel) (ev_k_ne hx41 (by decide)) (by decide +kernel) ?_ ?_
              · intro c172
                exact hK210 x22 hx22 s39 _ (by exact (ev_l1 (ev_l1 (ev_l1 (ev_l1 (ev_l1 e16 (by decide) (by decide)) (by decide) (by decide)) (by decide) (by decide)) (by decide) (by decide)) (by decide) (by decide))) (by exact (ev_l1 (ev_l1 (ev_l1 (ev_l1 (ev_l1 e17 (by decide) (by decide)) (by decide) (by decide)) (by decide) (by decide)) (by decide) (by decide)) (by decide) (by decide))) (by exact (ev_l1 (ev_l1 (ev_l1 (ev_l1 (ev_lk_st1 e18 (by decide) rfl) (by decide) (by decide)) (by decide) (by decide)) (by decide) (by decide)) (by decide) (by decide))) (by exact (ev_l1 (ev_l1 (ev_l1 (ev_lk_st1 ev_lk_st1_self (by decide) rfl) (by decide) (by decide)) (by decide) (by decide)) (by decide) (by decide))) (by exact (ev_l1 (ev_l1 (ev_lk_st1 ev_lk_st1_self (by decide) rfl) (by decide) (by decide)) (by decide) (by decide))) (by exact (ev_l1 (ev_lk_st1 ev_lk_st1_self (by decide) rfl) (by decide) (by decide))) (by exact (ev_lk_st1 ev_lk_st1_self (by decide) rfl)) (by exact ev_lk_st1_self)
              · intro c172
                refine ev_r_aload_n (pc := 173) (k := 0) (v := .ref 621) trivial (by decide +kernel) (by exact (ev_l1 (ev_l1 (ev_l1 (ev_l1 (ev_l1 e16 (by decide) (by decide)) (by decide) (by decide)) (by decide) (by decide)) (by decide) (by decide)) (by decide) (by decide))) ?_
                refine ev_r_getC (pc := 174) (y := 157) (ci := 13) (f := 64) (fin := 1) (k' := 670) (by decide +kernel) (by decide +kernel) (by exact ev_ob_621) rfl rfl ?_
                refine ev_r_iload (pc := 177) (k := 4) (v := Int32.ofInt x22) (by decide +kernel) (by exact (ev_l1 (ev_l1 (ev_l1 (ev_lk_st1 ev_lk_st1_self (by decide) rfl) (by decide) (by decide)) (by decide) (by decide)) (by decide) (by decide))) ?_
                refine ev_r_iconst (pc := 179) (k := -1) (by decide +kernel) ?_
                refine ev_r_iload (pc := 180) (k := 8) (v := Int32.ofInt x43) (by decide +kernel) (by exact ev_lk_st1_self) ?_
                refine ev_r_isub (pc := 182) (by decide +kernel) ?_
                intro x173 hx173
                refine ev_r_iast (pc := 183) hx173 hx22 (by decide +kernel) (by exact ev_ab_670) ?_
                intro s174
                refine ev_r_aload_n (pc := 184) (k := 0) (v := .ref 621) trivial (by decide +kernel) (by exact (ev_l1 (ev_l1 (ev_l1 (ev_l1 (ev_l1 e16 (by decide) (by decide)) (by decide) (by decide)) (by decide) (by decide)) (by decide) (by decide)) (by decide) (by decide))) ?_
                refine ev_r_getC (pc := 185) (y := 160) (ci := 13) (f := 65) (fin := 1) (k' := 671) (by decide +kernel) (by decide +kernel) (by exact ev_ob_621) rfl rfl ?_
                refine ev_r_iload (pc := 188) (k := 4) (v := Int32.ofInt x22) (by decide +kernel) (by exact (ev_l1 (ev_l1 (ev_l1 (ev_lk_st1 ev_lk_st1_self (by decide) rfl) (by decide) (by decide)) (by decide) (by decide)) (by decide) (by decide))) ?_
                refine ev_r_aload_n (pc := 190) (k := 0) (v := .ref 621) trivial (by decide +kernel) (by exact (ev_l1 (ev_l1 (ev_l1 (ev_l1 (ev_l1 e16 (by decide) (by decide)) (by decide) (by decide)) (by decide) (by decide)) (by decide) (by decide)) (by decide) (by decide))) ?_
                refine ev_r_getC (pc := 191) (y := 163) (ci := 13) (f := 66) (fin := 1) (k' := 672) (by decide +kernel) (by decide +kernel) (by exact ev_ob_621) rfl rfl ?_
                refine ev_r_iload (pc := 194) (k := 8) (v := Int32.ofInt x43) (by decide +kernel) (by exact ev_lk_st1_self) ?_
                refine ev_r_iald (pc := 196) hx43 (by decide +kernel) (by exact ev_ab_672) ?_
                intro x175 hx175
                refine ev_r_iast (pc := 197) hx175 hx22 (by decide +kernel) (by exact ev_ab_671) ?_
                intro s176
                refine ev_r_iinc (pc := 198) (k := 4) (c := 1) (x := x22) (by decide +kernel) (by decide +kernel) (by exact (ev_l1 (ev_l1 (ev_l1 (ev_lk_st1 ev_lk_st1_self (by decide) rfl) (by decide) (by decide)) (by decide) (by decide)) (by decide) (by decide))) (fun _ => rfl) ?_
                intro x177 hx177
                refine ev_r_aload_n (pc := 201) (k := 0) (v := .ref 621) trivial (by decide +kernel) (by exact (ev_l1 (ev_l1 (ev_l1 (ev_l1 (ev_l1 (ev_l1 e16 (by decide) (by decide)) (by decide) (by decide)) (by decide) (by decide)) (by decide) (by decide)) (by decide) (by decide)) (by decide) (by decide))) ?_
                refine ev_r_getC (pc := 202) (y := 163) (ci := 13) (f := 66) (fin := 1) (k' := 672) (by decide +kernel) (by decide +kernel) (by exact ev_ob_621) rfl rfl ?_
                refine ev_r_iload (pc := 205) (k := 8) (v := Int32.ofInt x43) (by decide +kernel) (by exact (ev_l1 ev_lk_st1_self (by decide) (by decide))) ?_
                refine ev_r_iload (pc := 207) (k := 6) (v := Int32.ofInt x24) (by decide +kernel) (by exact (ev_l1 (ev_l1 (ev_lk_st1 ev_lk_st1_self (by decide) rfl) (by decide) (by decide)) (by decide) (by decide))) ?_
                refine ev_r_iast (pc := 209) hx24 hx43 (by decide +kernel) (by exact ev_ab_672) ?_
                intro s178
                exact hK210 x177 hx177 s178 _ (by exact (ev_l1 (ev_l1 (ev_l1 (ev_l1 (ev_l1 (ev_l1 e16 (by decide) (by decide)) (by decide) (by decide)) (by decide) (by decide)) (by decide) (by decide)) (by decide) (by decide)) (by decide) (by decide))) (by exact (ev_l1 (ev_l1 (ev_l1 (ev_l1 (ev_l1 (ev_l1 e17 (by decide) (by decide)) (by decide) (by decide)) (by decide) (by decide)) (by decide) (by decide)) (by decide) (by decide)) (by decide) (by decide))) (by exact (ev_lk_st1 (ev_l1 (ev_l1 (ev_l1 (ev_l1 (ev_lk_st1 e18 (by decide) rfl) (by decide) (by decide)) (by decide) (by decide)) (by decide) (by decide)) (by decide) (by decide)) (by decide) rfl)) (by exact ev_lk_st1_self) (by exact (ev_l1 (ev_l1 (ev_l1 (ev_lk_st1 ev_lk_st1_self (by decide) rfl) (by decide) (by decide)) (by decide) (by decide)) (by decide) (by decide))) (by exact (ev_l1 (ev_l1 (ev_lk_st1 ev_lk_st1_self (by decide) rfl) (by decide) (by decide)) (by decide) (by decide))) (by exact (ev_l1 (ev_lk_st1 ev_lk_st1_self (by decide) rfl) (by decide) (by decide))) (by exact (ev_l1 ev_lk_st1_self (by decide) (by decide)))
          · intro c44
            refine ev_r_aload_n (pc := 150) (k := 0) (v := .ref 621) trivial (by decide +kernel) (by exact (ev_l1 (ev_l1 (ev_l1 (ev_l1 (ev_l1 e16 (by decide) (by decide)) (by decide) (by decide)) (by decide) (by decide)) (by decide) (by decide)) (by decide) (by decide))) ?_
            refine ev_r_getC (pc := 151) (y := 184) (ci := 13) (f := 86) (fin := 1) (k' := 679) (by decide +kernel) (by decide +kernel) (by exact ev_ob_621) rfl rfl ?_
            refine ev_r_iconst (pc := 154) (k := 0) (by decide +kernel) ?_
            refine ev_r_iload_n (pc := 155) (k := 2) (v := Int32.ofInt a1) (by decide +kernel) (by exact (ev_l1 (ev_l1 (ev_l1 (ev_l1 (ev_l1 e17 (by decide) (by decide)) (by decide) (by decide)) (by decide) (by decide)) (by decide) (by decide)) (by decide) (by decide))) ?_
            refine ev_r_iast (pc := 156) ha1 (by decide) (by decide +kernel) (by exact ev_ab_679) ?_
            intro s179
            refine ev_r_aload_n (pc := 157) (k := 0) (v := .ref 621) trivial (by decide +kernel) (by exact (ev_l1 (ev_l1 (ev_l1 (ev_l1 (ev_l1 e16 (by decide) (by decide)) (by decide) (by decide)) (by decide) (by decide)) (by decide) (by decide)) (by decide) (by decide))) ?_
            refine ev_r_getC (pc := 158) (y := 187) (ci := 13) (f := 87) (fin := 1) (k' := 680) (by decide +kernel) (by decide +kernel) (by exact ev_ob_621) rfl rfl ?_
            refine ev_r_iconst (pc := 161) (k := 0) (by decide +kernel) ?_
            refine ev_r_iload (pc := 162) (k := 6) (v := Int32.ofInt x24) (by decide +kernel) (by exact (ev_l1 (ev_lk_st1 ev_lk_st1_self (by decide) rfl) (by decide) (by decide))) ?_
            refine ev_r_iast (pc := 164) hx24 (by decide) (by decide +kernel) (by exact ev_ab_680) ?_
            intro s180
            refine ev_r_iconst (pc := 165) (k := 1) (by decide +kernel) ?_
            exact ev_r_ireturn (pc := 166) (x := 1) (v := Int32.ofInt 1) (ty := .boolean) (by decide : ev_bl 1) (by decide +kernel) (by decide +kernel) (ev_ret_bl (by decide : ev_bl 1)) rfl
      · intro c32
        refine ev_r_aload_n (pc := 78) (k := 0) (v := .ref 621) trivial (by decide +kernel) (by exact (ev_l1 (ev_l1 (ev_l1 e16 (by decide) (by decide)) (by decide) (by decide)) (by decide) (by decide))) ?_
        refine ev_r_getC (pc := 79) (y := 163) (ci := 13) (f := 66) (fin := 1) (k' := 672) (by decide +kernel) (by decide +kernel) (by exact ev_ob_621) rfl rfl ?_
        refine ev_r_iconst (pc := 82) (k := -1) (by decide +kernel) ?_
        refine ev_r_iload (pc := 83) (k := 5) (v := Int32.ofInt x23) (by decide +kernel) (by exact (ev_lk_st1 ev_lk_st1_self (by decide) rfl)) ?_
        refine ev_r_isub (pc := 85) (by decide +kernel) ?_
        intro x181 hx181
        refine ev_r_iload (pc := 86) (k := 6) (v := Int32.ofInt x24) (by decide +kernel) (by exact ev_lk_st1_self) ?_
        refine ev_r_iast (pc := 88) hx24 hx181 (by decide +kernel) (by exact ev_ab_672) ?_
        intro s182
        refine ev_r_goto (pc := 89) (o := 292) (t := 381) (by decide +kernel) (by decide +kernel) ?_
        exact hK381 x22 hx22 s182 _ (by exact (ev_l1 (ev_l1 (ev_l1 e16 (by decide) (by decide)) (by decide) (by decide)) (by decide) (by decide))) (by exact (ev_l1 (ev_l1 (ev_l1 e17 (by decide) (by decide)) (by decide) (by decide)) (by decide) (by decide))) (by exact (ev_l1 (ev_l1 (ev_lk_st1 e18 (by decide) rfl) (by decide) (by decide)) (by decide) (by decide))) (by exact (ev_l1 (ev_lk_st1 ev_lk_st1_self (by decide) rfl) (by decide) (by decide)))
theorem jlt_314_47 (d : Nat) (hd : 7 ≤ d + 1) (Q : Nat) (a1 : Int) (x4 : Int) (ha1 : ev_rng a1) (hx4 : ev_rng x4)   : ∀ q : Nat, ∀ (x14 : Int) (hx14 : ev_rng x14), ∀ (s20 : ev_St) (w15 : List (Nat × Value)), ev_lk w15 0 = some (.ref 621) → ev_lk w15 2 = some (.int (Int32.ofInt a1)) → ev_lk w15 3 = some (.int (Int32.ofInt x4)) → ev_lk w15 4 = some (.int (Int32.ofInt x14)) → ev_w none (ev_Mof 314) d 47 w15 [] s20 (jl_314_47 Q a1 x4  q x14 s20) ev_eI ev_bl := by
  intro q
  induction q with
  | zero =>
    intro x14 hx14 s20 w15 e16 e17 e18 e19
    exact ev_w_none
  | succ q ih => exact jbt_314_47 d hd Q a1 x4 ha1 hx4   _ ih
def jb_314_26 (Q : Nat) (a1 : Int)  (K26 : Int → Int → Int → ev_St → Option ((Int) × ev_St)) (x4 : Int) (x5 : Int) (x6 : Int) (s13 : ev_St) : Option ((Int) × ev_St) := if 20 ≤ x6 then (jl_314_47 Q a1 x4  Q x5 s13) else (ev_if ((0 : Int) ≤ x6 ∧ x6 < (ev_aln 672 : Int)) (ev_b (ev_pI s13 672 (Int.toNat x6) ((-1))) fun s184 => ev_ck (x6 + 1) fun x185 => K26 x4 x5 x185 s184))
def jl_314_26 (Q : Nat) (a1 : Int)  : Nat → Int → Int → Int → ev_St → Option ((Int) × ev_St)
  | 0 => fun _ _ _ _ => none
  | q + 1 => jb_314_26 Q a1  (jl_314_26 Q a1  q)
theorem jbt_314_26 (d : Nat) (hd : 7 ≤ d + 1) (Q : Nat) (a1 : Int) (ha1 : ev_rng a1)   (K26 : Int → Int → Int → ev_St → Option ((Int) × ev_St)) (hK26 : ∀ (x4 : Int) (hx4 : ev_rng x4), ∀ (x5 : Int) (hx5 : ev_rng x5), ∀ (x6 : Int) (hx6 : ev_rng x6), ∀ (s13 : ev_St) (w7 : List (Nat × Value)), ev_lk w7 0 = some (.ref 621) → ev_lk w7 2 = some (.int (Int32.ofInt a1)) → ev_lk w7 3 = some (.int (Int32.ofInt x4)) → ev_lk w7 4 = some (.int (Int32.ofInt x5)) → ev_lk w7 5 = some (.int (Int32.ofInt x6)) → ev_w none (ev_Mof 314) d 26 w7 [] s13 (K26 x4 x5 x6 s13) ev_eI ev_bl) : ∀ (x4 : Int) (hx4 : ev_rng x4), ∀ (x5 : Int) (hx5 : ev_rng x5), ∀ (x6 : Int) (hx6 : ev_rng x6), ∀ (s13 : ev_St) (w7 : List (Nat × Value)), ev_lk w7 0 = some (.ref 621) → ev_lk w7 2 = some (.int (Int32.ofInt a1)) → ev_lk w7 3 = some (.int (Int32.ofInt x4)) → ev_lk w7 4 = some (.int (Int32.ofInt x5)) → ev_lk w7 5 = some (.int (Int32.ofInt x6)) → ev_w none (ev_Mof 314) d 26 w7 [] s13 (jb_314_26 Q a1  K26 x4 x5 x6 s13) ev_eI ev_bl := by
  intro x4 hx4 x5 hx5 x6 hx6 s13 w7 e8 e9 e10 e11 e12
  unfold jb_314_26
  refine ev_r_iload (pc := 26) (k := 5) (v := Int32.ofInt x6) (by decide +kernel) (by exact e12) ?_
  refine ev_r_bipush (pc := 28) (k := 20) (by decide +kernel) (by decide +kernel) ?_
  refine ev_r_icmp (pc := 30) (q := .ge) (o := 17) (t := 47) (c := 20 ≤ x6) (by decide +kernel) (ev_k_ge hx6 (by decide)) (by decide +kernel) ?_ ?_
  · intro c183
    exact jlt_314_47 d hd Q a1 x4 ha1 hx4   Q x5 hx5 s13 _ (by exact e8) (by exact e9) (by exact e10) (by exact e11)
  · intro c183
    refine ev_r_aload_n (pc := 33) (k := 0) (v := .ref 621) trivial (by decide +kernel) (by exact e8) ?_
    refine ev_r_getC (pc := 34) (y := 163) (ci := 13) (f := 66) (fin := 1) (k' := 672) (by decide +kernel) (by decide +kernel) (by exact ev_ob_621) rfl rfl ?_
    refine ev_r_iload (pc := 37) (k := 5) (v := Int32.ofInt x6) (by decide +kernel) (by exact e12) ?_
    refine ev_r_iconst (pc := 39) (k := -1) (by decide +kernel) ?_
    refine ev_r_iast (pc := 40) (by decide) hx6 (by decide +kernel) (by exact ev_ab_672) ?_
    intro s184
    refine ev_r_iinc (pc := 41) (k := 5) (c := 1) (x := x6) (by decide +kernel) (by decide +kernel) (by exact e12) (fun _ => rfl) ?_
    intro x185 hx185
    refine ev_r_goto (pc := 44) (o := (-18)) (t := 26) (by decide +kernel) (by decide +kernel) ?_
    exact hK26 x4 hx4 x5 hx5 x185 hx185 s184 _ (by exact (ev_l1 e8 (by decide) (by decide))) (by exact (ev_l1 e9 (by decide) (by decide))) (by exact (ev_l1 e10 (by decide) (by decide))) (by exact (ev_lk_st1 e11 (by decide) rfl)) (by exact ev_lk_st1_self)
theorem jlt_314_26 (d : Nat) (hd : 7 ≤ d + 1) (Q : Nat) (a1 : Int) (ha1 : ev_rng a1)   : ∀ q : Nat, ∀ (x4 : Int) (hx4 : ev_rng x4), ∀ (x5 : Int) (hx5 : ev_rng x5), ∀ (x6 : Int) (hx6 : ev_rng x6), ∀ (s13 : ev_St) (w7 : List (Nat × Value)), ev_lk w7 0 = some (.ref 621) → ev_lk w7 2 = some (.int (Int32.ofInt a1)) → ev_lk w7 3 = some (.int (Int32.ofInt x4)) → ev_lk w7 4 = some (.int (Int32.ofInt x5)) → ev_lk w7 5 = some (.int (Int32.ofInt x6)) → ev_w none (ev_Mof 314) d 26 w7 [] s13 (jl_314_26 Q a1  q x4 x5 x6 s13) ev_eI ev_bl := by
  intro q
  induction q with
  | zero =>
    intro x4 hx4 x5 hx5 x6 hx6 s13 w7 e8 e9 e10 e11 e12
    exact ev_w_none
  | succ q ih => exact jbt_314_26 d hd Q a1 ha1   _ ih
/-- MendBenchModel.runs(II)Z -/
def jm_314 (Q : Nat) (a0 : Int) (a1 : Int) (S : ev_St) : Option ((Int) × ev_St) := ev_ck (210 * a0) fun x1 => ev_if ((0 : Int) ≤ 0 ∧ 0 < (ev_aln 670 : Int)) (ev_b (ev_pI S 670 (Int.toNat 0) 0) fun s2 => ev_if ((0 : Int) ≤ 0 ∧ 0 < (ev_aln 671 : Int)) (ev_b (ev_pI s2 671 (Int.toNat 0) a1) fun s3 => jl_314_26 Q a1  Q x1 1 0 s3))
theorem jt_314 (d : Nat) (hd : 7 ≤ d) (Q : Nat) (a0 : Int) (a1 : Int) (ha0 : ev_rng a0) (ha1 : ev_rng a1) (S : ev_St) (x : Int) (S' : ev_St) (hJ : jm_314 Q a0 a1 S = some (x, S')) : ev_Ref d 314 [.ref 621, .int (Int32.ofInt a0), .int (Int32.ofInt a1)] S (ev_eI x) S' (ev_bl x) := by
  obtain ⟨d, rfl⟩ : ∃ e, d = e + 1 := ⟨d - 1, by omega⟩
  refine ev_ref_of (P := ev_bl) (lv := [(0, .ref 621), (1, .int (Int32.ofInt a0)), (2, .int (Int32.ofInt a1))]) (by decide +kernel) (by (try simp only [ev_sum, ev_nv_cat]); first | done | rfl) (by (try simp only [lv_args, ev_nv_cat]); first | done | rfl) ?_ x S' hJ
  unfold jm_314
  refine ev_r_sipush (pc := 0) (k := 210) (by decide +kernel) (by decide +kernel) ?_
  refine ev_r_iload_n (pc := 3) (k := 1) (v := Int32.ofInt a0) (by decide +kernel) (by rfl) ?_
  refine ev_r_imul (pc := 4) (by decide +kernel) ?_
  intro x1 hx1
  refine ev_r_istore_n (pc := 5) (k := 3) (by decide +kernel) (by decide +kernel) rfl ?_
  refine ev_r_iconst (pc := 6) (k := 1) (by decide +kernel) ?_
  refine ev_r_istore (pc := 7) (k := 4) (by decide +kernel) (by decide +kernel) rfl ?_
  refine ev_r_aload_n (pc := 9) (k := 0) (v := .ref 621) trivial (by decide +kernel) (by exact (ev_l1 (ev_l1 (by rfl) (by decide) (by decide)) (by decide) (by decide))) ?_
  refine ev_r_getC (pc := 10) (y := 157) (ci := 13) (f := 64) (fin := 1) (k' := 670) (by decide +kernel) (by decide +kernel) (by exact ev_ob_621) rfl rfl ?_
  refine ev_r_iconst (pc := 13) (k := 0) (by decide +kernel) ?_
  refine ev_r_iconst (pc := 14) (k := 0) (by decide +kernel) ?_
  refine ev_r_iast (pc := 15) (by decide) (by decide) (by decide +kernel) (by exact ev_ab_670) ?_
  intro s2
  refine ev_r_aload_n (pc := 16) (k := 0) (v := .ref 621) trivial (by decide +kernel) (by exact (ev_l1 (ev_l1 (by rfl) (by decide) (by decide)) (by decide) (by decide))) ?_
  refine ev_r_getC (pc := 17) (y := 160) (ci := 13) (f := 65) (fin := 1) (k' := 671) (by decide +kernel) (by decide +kernel) (by exact ev_ob_621) rfl rfl ?_
  refine ev_r_iconst (pc := 20) (k := 0) (by decide +kernel) ?_
  refine ev_r_iload_n (pc := 21) (k := 2) (v := Int32.ofInt a1) (by decide +kernel) (by exact (ev_l1 (ev_lk_st1 (by rfl) (by decide) rfl) (by decide) (by decide))) ?_
  refine ev_r_iast (pc := 22) ha1 (by decide) (by decide +kernel) (by exact ev_ab_671) ?_
  intro s3
  refine ev_r_iconst (pc := 23) (k := 0) (by decide +kernel) ?_
  refine ev_r_istore (pc := 24) (k := 5) (by decide +kernel) (by decide +kernel) rfl ?_
  exact jlt_314_26 d hd Q a1 ha1   Q x1 hx1 1 (by decide) 0 (by decide) s3 _ (by exact (ev_l1 (ev_l1 (ev_l1 (by rfl) (by decide) (by decide)) (by decide) (by decide)) (by decide) (by decide))) (by exact (ev_l1 (ev_l1 (ev_lk_st1 (by rfl) (by decide) rfl) (by decide) (by decide)) (by decide) (by decide))) (by exact (ev_l1 (ev_lk_st1 ev_lk_st1_self (by decide) rfl) (by decide) (by decide))) (by exact (ev_lk_st1 ev_lk_st1_self (by decide) rfl)) (by exact ev_lk_st1_self)
def jb_315_57 (Q : Nat) (x9 : Int)  (K57 : Int → ev_St → Option ((Int) × ev_St)) (x22 : Int) (s27 : ev_St) : Option ((Int) × ev_St) := if 10 ≤ x22 then (ev_if (ev_bl x9) (some (x9, s27))) else (if x9 = 0 then (ev_if (ev_bl x9) (some (x9, s27))) else (ev_ck (2 * x22) fun x32 => ev_ck (x32 + 1) fun x33 => ev_if ((0 : Int) ≤ x33 ∧ x33 < (ev_aln 672 : Int)) (ev_b (s27.1 672 (Int.toNat x33)) fun x34 => ev_jn (fun (x37 : Int) (x36 : Int) (r35 : Nat) (s42 : ev_St) => ev_if ((0 : Int) ≤ x36 ∧ x36 < (ev_aln r35 : Int)) (ev_b (ev_pI s42 r35 (Int.toNat x36) x37) fun s43 => ev_ck (2 * x22) fun x44 => ev_ck (x44 + 1) fun x45 => ev_if ((0 : Int) ≤ x45 ∧ x45 < (ev_aln 672 : Int)) (ev_b (s43.1 672 (Int.toNat x45)) fun x46 => ev_if ((0 : Int) ≤ x22 ∧ x22 < (ev_aln 680 : Int)) (ev_b (ev_pI s43 680 (Int.toNat x22) x46) fun s47 => ev_ck (x22 + 1) fun x48 => K57 x48 s47)))) fun K102 => if x34 ≠ (-1) then (ev_ck (2 * x22) fun x50 => ev_if ((0 : Int) ≤ x50 ∧ x50 < (ev_aln 672 : Int)) (ev_b (s27.1 672 (Int.toNat x50)) fun x51 => K102 x51 x22 679 s27)) else (K102 ((-1)) x22 679 s27))))
def jl_315_57 (Q : Nat) (x9 : Int)  : Nat → Int → ev_St → Option ((Int) × ev_St)
  | 0 => fun _ _ => none
  | q + 1 => jb_315_57 Q x9  (jl_315_57 Q x9  q)
theorem jbt_315_57 (d : Nat) (hd : 8 ≤ d + 1) (Q : Nat) (x9 : Int) (hx9 : ev_rng x9)   (K57 : Int → ev_St → Option ((Int) × ev_St)) (hK57 : ∀ (x22 : Int) (hx22 : ev_rng x22), ∀ (s27 : ev_St) (w23 : List (Nat × Value)), ev_lk w23 0 = some (.ref 621) → ev_lk w23 3 = some (.int (Int32.ofInt x9)) → ev_lk w23 4 = some (.int (Int32.ofInt x22)) → ev_w none (ev_Mof 315) d 57 w23 [] s27 (K57 x22 s27) ev_eI ev_bl) : ∀ (x22 : Int) (hx22 : ev_rng x22), ∀ (s27 : ev_St) (w23 : List (Nat × Value)), ev_lk w23 0 = some (.ref 621) → ev_lk w23 3 = some (.int (Int32.ofInt x9)) → ev_lk w23 4 = some (.int (Int32.ofInt x22)) → ev_w none (ev_Mof 315) d 57 w23 [] s27 (jb_315_57 Q x9  K57 x22 s27) ev_eI ev_bl := by
  intro x22 hx22 s27 w23 e24 e25 e26
  unfold jb_315_57
  refine ev_r_iload (pc := 57) (k := 4) (v := Int32.ofInt x22) (by decide +kernel) (by exact e26) ?_
  refine ev_r_bipush (pc := 59) (k := 10) (by decide +kernel) (by decide +kernel) ?_
  refine ev_r_icmp (pc := 61) (q := .ge) (o := 66) (t := 127) (c := 10 ≤ x22) (by decide +kernel) (ev_k_ge hx22 (by decide)) (by decide +kernel) ?_ ?_
  · intro c28
    refine ev_r_iload_n (pc := 127) (k := 3) (v := Int32.ofInt x9) (by decide +kernel) (by exact e25) ?_
    refine ev_r_chk ?_
    intro c29
    exact ev_r_ireturn (pc := 128) (x := x9) (v := Int32.ofInt x9) (ty := .boolean) c29 (by decide +kernel) (by decide +kernel) (ev_ret_bl c29) rfl
  · intro c28
    refine ev_r_iload_n (pc := 64) (k := 3) (v := Int32.ofInt x9) (by decide +kernel) (by exact e25) ?_
    refine ev_r_if (pc := 65) (q := .eq) (o := 62) (t := 127) (c := x9 = 0) (by decide +kernel) (ev_k_eq hx9 ev_rng0) (by decide +kernel) ?_ ?_
    · intro c30
      refine ev_r_iload_n (pc := 127) (k := 3) (v := Int32.ofInt x9) (by decide +kernel) (by exact e25) ?_
      refine ev_r_chk ?_
      intro c31
      exact ev_r_ireturn (pc := 128) (x := x9) (v := Int32.ofInt x9) (ty := .boolean) c31 (by decide +kernel) (by decide +kernel) (ev_ret_bl c31) rfl
    · intro c30
      refine ev_r_aload_n (pc := 68) (k := 0) (v := .ref 621) trivial (by decide +kernel) (by exact e24) ?_
      refine ev_r_getC (pc := 69) (y := 184) (ci := 13) (f := 86) (fin := 1) (k' := 679) (by decide +kernel) (by decide +kernel) (by exact ev_ob_621) rfl rfl ?_
      refine ev_r_iload (pc := 72) (k := 4) (v := Int32.ofInt x22) (by decide +kernel) (by exact e26) ?_
      refine ev_r_aload_n (pc := 74) (k := 0) (v := .ref 621) trivial (by decide +kernel) (by exact e24) ?_
      refine ev_r_getC (pc := 75) (y := 163) (ci := 13) (f := 66) (fin := 1) (k' := 672) (by decide +kernel) (by decide +kernel) (by exact ev_ob_621) rfl rfl ?_
      refine ev_r_iconst (pc := 78) (k := 2) (by decide +kernel) ?_
      refine ev_r_iload (pc := 79) (k := 4) (v := Int32.ofInt x22) (by decide +kernel) (by exact e26) ?_
      refine ev_r_imul (pc := 81) (by decide +kernel) ?_
      intro x32 hx32
      refine ev_r_iconst (pc := 82) (k := 1) (by decide +kernel) ?_
      refine ev_r_iadd (pc := 83) (by decide +kernel) ?_
      intro x33 hx33
      refine ev_r_iald (pc := 84) hx33 (by decide +kernel) (by exact ev_ab_672) ?_
      intro x34 hx34
      refine ev_r_iconst (pc := 85) (k := -1) (by decide +kernel) ?_
      refine ev_r_jn (Q := fun K => ∀ (x37 : Int) (hx37 : ev_rng x37), ∀ (x36 : Int) (hx36 : ev_rng x36), ∀ (r35 : Nat) (hr35 : ev_isAb r35 1 .int = true), ∀ (s42 : ev_St) (w38 : List (Nat × Value)), ev_lk w38 0 = some (.ref 621) → ev_lk w38 3 = some (.int (Int32.ofInt x9)) → ev_lk w38 4 = some (.int (Int32.ofInt x22)) → ev_w none (ev_Mof 315) d 102 w38 [.int (Int32.ofInt x37), .int (Int32.ofInt x36), .ref r35] s42 (K x37 x36 r35 s42) ev_eI ev_bl) ?_ ?_
      · intro x37 hx37 x36 hx36 r35 hr35 s42 w38 e39 e40 e41
        refine ev_r_iast (pc := 102) hx37 hx36 (by decide +kernel) (by exact hr35) ?_
        intro s43
        refine ev_r_aload_n (pc := 103) (k := 0) (v := .ref 621) trivial (by decide +kernel) (by exact e39) ?_
        refine ev_r_getC (pc := 104) (y := 187) (ci := 13) (f := 87) (fin := 1) (k' := 680) (by decide +kernel) (by decide +kernel) (by exact ev_ob_621) rfl rfl ?_
        refine ev_r_iload (pc := 107) (k := 4) (v := Int32.ofInt x22) (by decide +kernel) (by exact e41) ?_
        refine ev_r_aload_n (pc := 109) (k := 0) (v := .ref 621) trivial (by decide +kernel) (by exact e39) ?_
        refine ev_r_getC (pc := 110) (y := 163) (ci := 13) (f := 66) (fin := 1) (k' := 672) (by decide +kernel) (by decide +kernel) (by exact ev_ob_621) rfl rfl ?_
        refine ev_r_iconst (pc := 113) (k := 2) (by decide +kernel) ?_
        refine ev_r_iload (pc := 114) (k := 4) (v := Int32.ofInt x22) (by decide +kernel) (by exact e41) ?_
        refine ev_r_imul (pc := 116) (by decide +kernel) ?_
        intro x44 hx44
        refine ev_r_iconst (pc := 117) (k := 1) (by decide +kernel) ?_
        refine ev_r_iadd (pc := 118) (by decide +kernel) ?_
        intro x45 hx45
        refine ev_r_iald (pc := 119) hx45 (by decide +kernel) (by exact ev_ab_672) ?_
        intro x46 hx46
        refine ev_r_iast (pc := 120) hx46 hx22 (by decide +kernel) (by exact ev_ab_680) ?_
        intro s47
        refine ev_r_iinc (pc := 121) (k := 4) (c := 1) (x := x22) (by decide +kernel) (by decide +kernel) (by exact e41) (fun _ => rfl) ?_
        intro x48 hx48
        refine ev_r_goto (pc := 124) (o := (-67)) (t := 57) (by decide +kernel) (by decide +kernel) ?_
        exact hK57 x48 hx48 s47 _ (by exact (ev_l1 e39 (by decide) (by decide))) (by exact (ev_lk_st1 e40 (by decide) rfl)) (by exact ev_lk_st1_self)
      · intro K102 hK102
        refine ev_r_icmp (pc := 86) (q := .ne) (o := 7) (t := 93) (c := x34 ≠ (-1)) (by decide +kernel) (ev_k_ne hx34 (by decide)) (by decide +kernel) ?_ ?_
        · intro c49
          refine ev_r_aload_n (pc := 93) (k := 0) (v := .ref 621) trivial (by decide +kernel) (by exact e24) ?_
          refine ev_r_getC (pc := 94) (y := 163) (ci := 13) (f := 66) (fin := 1) (k' := 672) (by decide +kernel) (by decide +kernel) (by exact ev_ob_621) rfl rfl ?_
          refine ev_r_iconst (pc := 97) (k := 2) (by decide +kernel) ?_
          refine ev_r_iload (pc := 98) (k := 4) (v := Int32.ofInt x22) (by decide +kernel) (by exact e26) ?_
          refine ev_r_imul (pc := 100) (by decide +kernel) ?_
          intro x50 hx50
          refine ev_r_iald (pc := 101) hx50 (by decide +kernel) (by exact ev_ab_672) ?_
          intro x51 hx51
          exact hK102 x51 hx51 x22 hx22 679 ev_ab_679 s27 _ (by exact e24) (by exact e25) (by exact e26)
        · intro c49
          refine ev_r_iconst (pc := 89) (k := -1) (by decide +kernel) ?_
          refine ev_r_goto (pc := 90) (o := 12) (t := 102) (by decide +kernel) (by decide +kernel) ?_
          exact hK102 ((-1)) (by decide) x22 hx22 679 ev_ab_679 s27 _ (by exact e24) (by exact e25) (by exact e26)
theorem jlt_315_57 (d : Nat) (hd : 8 ≤ d + 1) (Q : Nat) (x9 : Int) (hx9 : ev_rng x9)   : ∀ q : Nat, ∀ (x22 : Int) (hx22 : ev_rng x22), ∀ (s27 : ev_St) (w23 : List (Nat × Value)), ev_lk w23 0 = some (.ref 621) → ev_lk w23 3 = some (.int (Int32.ofInt x9)) → ev_lk w23 4 = some (.int (Int32.ofInt x22)) → ev_w none (ev_Mof 315) d 57 w23 [] s27 (jl_315_57 Q x9  q x22 s27) ev_eI ev_bl := by
  intro q
  induction q with
  | zero =>
    intro x22 hx22 s27 w23 e24 e25 e26
    exact ev_w_none
  | succ q ih => exact jbt_315_57 d hd Q x9 hx9   _ ih
def jb_315_27 (Q : Nat) (a0 : Int)  (K27 : Int → Int → ev_St → Option ((Int) × ev_St)) (x9 : Int) (x10 : Int) (s16 : ev_St) : Option ((Int) × ev_St) := ev_b (s16.1 621 73) fun x17 => ev_jn (fun  (s21 : ev_St) => jl_315_57 Q x9  Q 1 s21) fun K54 => if x17 < x10 then (K54  s16) else (if x9 ≠ 0 then (K54  s16) else (ev_bd (jm_314 Q a0 x10 s16) fun x55 s54 => ev_ck (x10 + 1) fun x56 => K27 x55 x56 s54))
def jl_315_27 (Q : Nat) (a0 : Int)  : Nat → Int → Int → ev_St → Option ((Int) × ev_St)
  | 0 => fun _ _ _ => none
  | q + 1 => jb_315_27 Q a0  (jl_315_27 Q a0  q)
theorem jbt_315_27 (d : Nat) (hd : 8 ≤ d + 1) (Q : Nat) (a0 : Int) (ha0 : ev_rng a0)   (K27 : Int → Int → ev_St → Option ((Int) × ev_St)) (hK27 : ∀ (x9 : Int) (hx9 : ev_rng x9), ∀ (x10 : Int) (hx10 : ev_rng x10), ∀ (s16 : ev_St) (w11 : List (Nat × Value)), ev_lk w11 0 = some (.ref 621) → ev_lk w11 1 = some (.int (Int32.ofInt a0)) → ev_lk w11 3 = some (.int (Int32.ofInt x9)) → ev_lk w11 4 = some (.int (Int32.ofInt x10)) → ev_w none (ev_Mof 315) d 27 w11 [] s16 (K27 x9 x10 s16) ev_eI ev_bl) : ∀ (x9 : Int) (hx9 : ev_rng x9), ∀ (x10 : Int) (hx10 : ev_rng x10), ∀ (s16 : ev_St) (w11 : List (Nat × Value)), ev_lk w11 0 = some (.ref 621) → ev_lk w11 1 = some (.int (Int32.ofInt a0)) → ev_lk w11 3 = some (.int (Int32.ofInt x9)) → ev_lk w11 4 = some (.int (Int32.ofInt x10)) → ev_w none (ev_Mof 315) d 27 w11 [] s16 (jb_315_27 Q a0  K27 x9 x10 s16) ev_eI ev_bl := by
  intro x9 hx9 x10 hx10 s16 w11 e12 e13 e14 e15
  unfold jb_315_27
  refine ev_r_iload (pc := 27) (k := 4) (v := Int32.ofInt x10) (by decide +kernel) (by exact e15) ?_
  refine ev_r_aload_n (pc := 29) (k := 0) (v := .ref 621) trivial (by decide +kernel) (by exact e12) ?_
  refine ev_r_getI (pc := 30) (y := 567) (ci := 13) (f := 73) (fin := 0) (by decide +kernel) (by decide +kernel) (by exact ev_ob_621) rfl ?_
  intro x17 hx17
  refine ev_r_jn (Q := fun K => ∀ (s21 : ev_St) (w18 : List (Nat × Value)), ev_lk w18 0 = some (.ref 621) → ev_lk w18 3 = some (.int (Int32.ofInt x9)) → ev_w none (ev_Mof 315) d 54 w18 [] s21 (K  s21) ev_eI ev_bl) ?_ ?_
  · intro  s21 w18 e19 e20
    refine ev_r_iconst (pc := 54) (k := 1) (by decide +kernel) ?_
    refine ev_r_istore (pc := 55) (k := 4) (by decide +kernel) (by decide +kernel) rfl ?_
    exact jlt_315_57 d hd Q x9 hx9   Q 1 (by decide) s21 _ (by exact (ev_l1 e19 (by decide) (by decide))) (by exact (ev_lk_st1 e20 (by decide) rfl)) (by exact ev_lk_st1_self)
  · intro K54 hK54
    refine ev_r_icmp (pc := 33) (q := .gt) (o := 21) (t := 54) (c := x17 < x10) (by decide +kernel) (ev_k_gt hx10 hx17) (by decide +kernel) ?_ ?_
    · intro c52
      exact hK54  s16 _ (by exact e12) (by exact e14)
    · intro c52
      refine ev_r_iload_n (pc := 36) (k := 3) (v := Int32.ofInt x9) (by decide +kernel) (by exact e14) ?_
      refine ev_r_if (pc := 37) (q := .ne) (o := 17) (t := 54) (c := x9 ≠ 0) (by decide +kernel) (ev_k_ne hx9 ev_rng0) (by decide +kernel) ?_ ?_
      · intro c53
        exact hK54  s16 _ (by exact e12) (by exact e14)
      · intro c53
        refine ev_r_aload_n (pc := 40) (k := 0) (v := .ref 621) trivial (by decide +kernel) (by exact e12) ?_
        refine ev_r_iload_n (pc := 41) (k := 1) (v := Int32.ofInt a0) (by decide +kernel) (by exact e13) ?_
        refine ev_r_iload (pc := 42) (k := 4) (v := Int32.ofInt x10) (by decide +kernel) (by exact e15) ?_
        refine ev_r_virt (pc := 44) (y := 692) (mi := 314) (na := 2) (k := 621) (as := [.int (Int32.ofInt a0), .int (Int32.ofInt x10)]) (rest := []) (encc := ev_oI) (Q := ev_bl) (fun x S1 h => jt_314 d (by omega) Q a0 x10 ha0 hx10 s16 x S1 h) (by exact ev_ob_621) (by decide +kernel) (by decide +kernel) (by decide +kernel) (by decide +kernel) rfl (by (try simp only [ev_sum, ev_nv_cat]); first | done | rfl) ?_
        intro x55 s54 hx55
        replace hx55 := ev_bl_rng hx55
        show ev_w _ _ _ _ _ [.int (Int32.ofInt x55)] _ _ _ _
        refine ev_r_istore_n (pc := 47) (k := 3) (by decide +kernel) (by decide +kernel) rfl ?_
        refine ev_r_iinc (pc := 48) (k := 4) (c := 1) (x := x10) (by decide +kernel) (by decide +kernel) (by exact (ev_l1 e15 (by decide) (by decide))) (fun _ => rfl) ?_
        intro x56 hx56
        refine ev_r_goto (pc := 51) (o := (-24)) (t := 27) (by decide +kernel) (by decide +kernel) ?_
        exact hK27 x55 hx55 x56 hx56 s54 _ (by exact (ev_l1 (ev_l1 e12 (by decide) (by decide)) (by decide) (by decide))) (by exact (ev_l1 (ev_l1 e13 (by decide) (by decide)) (by decide) (by decide))) (by exact (ev_lk_st1 ev_lk_st1_self (by decide) rfl)) (by exact ev_lk_st1_self)
theorem jlt_315_27 (d : Nat) (hd : 8 ≤ d + 1) (Q : Nat) (a0 : Int) (ha0 : ev_rng a0)   : ∀ q : Nat, ∀ (x9 : Int) (hx9 : ev_rng x9), ∀ (x10 : Int) (hx10 : ev_rng x10), ∀ (s16 : ev_St) (w11 : List (Nat × Value)), ev_lk w11 0 = some (.ref 621) → ev_lk w11 1 = some (.int (Int32.ofInt a0)) → ev_lk w11 3 = some (.int (Int32.ofInt x9)) → ev_lk w11 4 = some (.int (Int32.ofInt x10)) → ev_w none (ev_Mof 315) d 27 w11 [] s16 (jl_315_27 Q a0  q x9 x10 s16) ev_eI ev_bl := by
  intro q
  induction q with
  | zero =>
    intro x9 hx9 x10 hx10 s16 w11 e12 e13 e14 e15
    exact ev_w_none
  | succ q ih => exact jbt_315_27 d hd Q a0 ha0   _ ih
def jb_315_2 (Q : Nat) (a0 : Int) (a1 : Int)  (K2 : Int → ev_St → Option ((Int) × ev_St)) (x1 : Int) (s7 : ev_St) : Option ((Int) × ev_St) := if 17010 ≤ x1 then (jl_315_27 Q a0  Q 0 a1 s7) else (ev_if ((0 : Int) ≤ x1 ∧ x1 < (ev_aln 669 : Int)) (ev_b (ev_pI s7 669 (Int.toNat x1) 0) fun s57 => ev_ck (x1 + 1) fun x58 => K2 x58 s57))
def jl_315_2 (Q : Nat) (a0 : Int) (a1 : Int)  : Nat → Int → ev_St → Option ((Int) × ev_St)
  | 0 => fun _ _ => none
  | q + 1 => jb_315_2 Q a0 a1  (jl_315_2 Q a0 a1  q)
theorem jbt_315_2 (d : Nat) (hd : 8 ≤ d + 1) (Q : Nat) (a0 : Int) (a1 : Int) (ha0 : ev_rng a0) (ha1 : ev_rng a1)   (K2 : Int → ev_St → Option ((Int) × ev_St)) (hK2 : ∀ (x1 : Int) (hx1 : ev_rng x1), ∀ (s7 : ev_St) (w2 : List (Nat × Value)), ev_lk w2 0 = some (.ref 621) → ev_lk w2 1 = some (.int (Int32.ofInt a0)) → ev_lk w2 2 = some (.int (Int32.ofInt a1)) → ev_lk w2 3 = some (.int (Int32.ofInt x1)) → ev_w none (ev_Mof 315) d 2 w2 [] s7 (K2 x1 s7) ev_eI ev_bl) : ∀ (x1 : Int) (hx1 : ev_rng x1), ∀ (s7 : ev_St) (w2 : List (Nat × Value)), ev_lk w2 0 = some (.ref 621) → ev_lk w2 1 = some (.int (Int32.ofInt a0)) → ev_lk w2 2 = some (.int (Int32.ofInt a1)) → ev_lk w2 3 = some (.int (Int32.ofInt x1)) → ev_w none (ev_Mof 315) d 2 w2 [] s7 (jb_315_2 Q a0 a1  K2 x1 s7) ev_eI ev_bl := by
  intro x1 hx1 s7 w2 e3 e4 e5 e6
  unfold jb_315_2
  refine ev_r_iload_n (pc := 2) (k := 3) (v := Int32.ofInt x1) (by decide +kernel) (by exact e6) ?_
  refine ev_r_sipush (pc := 3) (k := 17010) (by decide +kernel) (by decide +kernel) ?_
  refine ev_r_icmp (pc := 6) (q := .ge) (o := 16) (t := 22) (c := 17010 ≤ x1) (by decide +kernel) (ev_k_ge hx1 (by decide)) (by decide +kernel) ?_ ?_
  · intro c8
    refine ev_r_iconst (pc := 22) (k := 0) (by decide +kernel) ?_
    refine ev_r_istore_n (pc := 23) (k := 3) (by decide +kernel) (by decide +kernel) rfl ?_
    refine ev_r_iload_n (pc := 24) (k := 2) (v := Int32.ofInt a1) (by decide +kernel) (by exact (ev_lk_st1 e5 (by decide) rfl)) ?_
    refine ev_r_istore (pc := 25) (k := 4) (by decide +kernel) (by decide +kernel) rfl ?_
    exact jlt_315_27 d hd Q a0 ha0   Q 0 (by decide) a1 ha1 s7 _ (by exact (ev_l1 (ev_l1 e3 (by decide) (by decide)) (by decide) (by decide))) (by exact (ev_l1 (ev_l1 e4 (by decide) (by decide)) (by decide) (by decide))) (by exact (ev_lk_st1 ev_lk_st1_self (by decide) rfl)) (by exact ev_lk_st1_self)
  · intro c8
    refine ev_r_aload_n (pc := 9) (k := 0) (v := .ref 621) trivial (by decide +kernel) (by exact e3) ?_
    refine ev_r_getC (pc := 10) (y := 153) (ci := 13) (f := 63) (fin := 1) (k' := 669) (by decide +kernel) (by decide +kernel) (by exact ev_ob_621) rfl rfl ?_
    refine ev_r_iload_n (pc := 13) (k := 3) (v := Int32.ofInt x1) (by decide +kernel) (by exact e6) ?_
    refine ev_r_iconst (pc := 14) (k := 0) (by decide +kernel) ?_
    refine ev_r_bast (pc := 15) (ty := .boolean) (Or.inr rfl) (ev_nar_bl (by decide : ev_bl 0)) (by decide) hx1 (by decide +kernel) (by exact ev_ab_669) ?_
    intro s57
    refine ev_r_iinc (pc := 16) (k := 3) (c := 1) (x := x1) (by decide +kernel) (by decide +kernel) (by exact e6) (fun _ => rfl) ?_
    intro x58 hx58
    refine ev_r_goto (pc := 19) (o := (-17)) (t := 2) (by decide +kernel) (by decide +kernel) ?_
    exact hK2 x58 hx58 s57 _ (by exact (ev_l1 e3 (by decide) (by decide))) (by exact (ev_l1 e4 (by decide) (by decide))) (by exact (ev_lk_st1 e5 (by decide) rfl)) (by exact ev_lk_st1_self)
theorem jlt_315_2 (d : Nat) (hd : 8 ≤ d + 1) (Q : Nat) (a0 : Int) (a1 : Int) (ha0 : ev_rng a0) (ha1 : ev_rng a1)   : ∀ q : Nat, ∀ (x1 : Int) (hx1 : ev_rng x1), ∀ (s7 : ev_St) (w2 : List (Nat × Value)), ev_lk w2 0 = some (.ref 621) → ev_lk w2 1 = some (.int (Int32.ofInt a0)) → ev_lk w2 2 = some (.int (Int32.ofInt a1)) → ev_lk w2 3 = some (.int (Int32.ofInt x1)) → ev_w none (ev_Mof 315) d 2 w2 [] s7 (jl_315_2 Q a0 a1  q x1 s7) ev_eI ev_bl := by
  intro q
  induction q with
  | zero =>
    intro x1 hx1 s7 w2 e3 e4 e5 e6
    exact ev_w_none
  | succ q ih => exact jbt_315_2 d hd Q a0 a1 ha0 ha1   _ ih
/-- MendBenchModel.finds(II)Z -/
def jm_315 (Q : Nat) (a0 : Int) (a1 : Int) (S : ev_St) : Option ((Int) × ev_St) := jl_315_2 Q a0 a1  Q 0 S
theorem jt_315 (d : Nat) (hd : 8 ≤ d) (Q : Nat) (a0 : Int) (a1 : Int) (ha0 : ev_rng a0) (ha1 : ev_rng a1) (S : ev_St) (x : Int) (S' : ev_St) (hJ : jm_315 Q a0 a1 S = some (x, S')) : ev_Ref d 315 [.ref 621, .int (Int32.ofInt a0), .int (Int32.ofInt a1)] S (ev_eI x) S' (ev_bl x) := by
  obtain ⟨d, rfl⟩ : ∃ e, d = e + 1 := ⟨d - 1, by omega⟩
  refine ev_ref_of (P := ev_bl) (lv := [(0, .ref 621), (1, .int (Int32.ofInt a0)), (2, .int (Int32.ofInt a1))]) (by decide +kernel) (by (try simp only [ev_sum, ev_nv_cat]); first | done | rfl) (by (try simp only [lv_args, ev_nv_cat]); first | done | rfl) ?_ x S' hJ
  unfold jm_315
  refine ev_r_iconst (pc := 0) (k := 0) (by decide +kernel) ?_
  refine ev_r_istore_n (pc := 1) (k := 3) (by decide +kernel) (by decide +kernel) rfl ?_
  exact jlt_315_2 d hd Q a0 a1 ha0 ha1   Q 0 (by decide) S _ (by exact (ev_l1 (by rfl) (by decide) (by decide))) (by exact (ev_l1 (by rfl) (by decide) (by decide))) (by exact (ev_lk_st1 (by rfl) (by decide) rfl)) (by exact ev_lk_st1_self)
def jb_316_42 (Q : Nat) (a0 : Int) (x2 : Int) (x11 : Int) (K30 : Int → ev_St → Option ((Unit) × ev_St)) (K42 : Int → ev_St → Option ((Unit) × ev_St)) (x19 : Int) (s26 : ev_St) : Option ((Unit) × ev_St) := if x19 < 0 then (ev_ck (x11 + 1) fun x28 => K30 x28 s26) else (ev_ck (x2 + x19) fun x29 => ev_if ((0 : Int) ≤ x29 ∧ x29 < (ev_aln 662 : Int)) (ev_b (s26.1 662 (Int.toNat x29)) fun x30 => ev_ck (x2 + x19) fun x31 => ev_if ((0 : Int) ≤ x31 ∧ x31 < (ev_aln 663 : Int)) (ev_b (s26.1 663 (Int.toNat x31)) fun x32 => ev_jn (fun (x33 : Int) (s40 : ev_St) => ev_if ((0 : Int) ≤ x19 ∧ x19 < (ev_aln 673 : Int)) (ev_b (s40.1 673 (Int.toNat x19)) fun x41 => ev_jn (fun (x44 : Int) (x43 : Int) (r42 : Nat) (s51 : ev_St) => ev_if (ev_bl x44) (ev_if ((0 : Int) ≤ x43 ∧ x43 < (ev_aln r42 : Int)) (ev_b (ev_pI s51 r42 (Int.toNat x43) x44) fun s52 => ev_ck (x19 + (-1)) fun x54 => K42 x54 s52))) fun K223 => ev_jn (fun (x56 : Int) (r55 : Nat) (s63 : ev_St) => K223 1 x56 r55 s63) fun K218 => if x41 ≠ 0 then (K218 x19 673 s40) else (ev_if ((0 : Int) ≤ a0 ∧ a0 < (ev_aln 665 : Int)) (ev_b (s40.1 665 (Int.toNat a0)) fun x65 => ev_jn (fun (x67 : Int) (r66 : Nat) (s74 : ev_St) => K223 0 x67 r66 s74) fun K222 => if x65 < x19 then (K222 x19 673 s40) else (if x33 = 0 then (K222 x19 673 s40) else (K218 x19 673 s40)))))) fun K184 => ev_jn (fun  (s83 : ev_St) => K184 1 s83) fun K179 => if x30 = 5 then (K179  s26) else (ev_jn (fun  (s93 : ev_St) => ev_jn (fun  (s102 : ev_St) => ev_jn (fun  (s110 : ev_St) => ev_jn (fun  (s117 : ev_St) => K184 0 s117) fun K183 => if x30 ≠ 2 then (K183  s110) else (ev_ck (x2 + x19) fun x119 => ev_if ((0 : Int) ≤ x119 ∧ x119 < (ev_aln 664 : Int)) (ev_b (s110.1 664 (Int.toNat x119)) fun x120 => ev_if ((0 : Int) ≤ x120 ∧ x120 < (ev_aln 673 : Int)) (ev_b (s110.1 673 (Int.toNat x120)) fun x121 => if x121 = 0 then (K183  s110) else (K179  s110))))) fun K156 => if x30 ≤ 1 then (K156  s102) else (if 4 ≤ x30 then (K156  s102) else (ev_if ((0 : Int) ≤ x32 ∧ x32 < (ev_aln 673 : Int)) (ev_b (s102.1 673 (Int.toNat x32)) fun x125 => if x125 ≠ 0 then (K179  s102) else (K156  s102))))) fun K134 => if x30 ≠ 4 then (K134  s93) else (ev_ck (x19 + 1) fun x128 => ev_if ((0 : Int) ≤ x128 ∧ x128 < (ev_aln 673 : Int)) (ev_b (s93.1 673 (Int.toNat x128)) fun x129 => if x129 ≠ 0 then (K179  s93) else (K134  s93)))) fun K116 => if x30 ≠ 0 then (K116  s26) else (ev_if ((0 : Int) ≤ x32 ∧ x32 < (ev_aln 633 : Int)) (ev_b (s26.2.1 633 (Int.toNat x32)) fun y132 => ev_b (ev_lcmp y132 ((Int64.ofNat ((0 : Fin 2) : Nat)))) fun x133 => ev_jn (fun  (s142 : ev_St) => ev_ck (x19 + 1) fun x143 => ev_if ((0 : Int) ≤ x143 ∧ x143 < (ev_aln 673 : Int)) (ev_b (s142.1 673 (Int.toNat x143)) fun x144 => if x144 ≠ 0 then (K179  s142) else (K116  s142))) fun K104 => if x133 ≠ 0 then (K104  s26) else (ev_if ((0 : Int) ≤ x32 ∧ x32 < (ev_aln 634 : Int)) (ev_b (s26.2.1 634 (Int.toNat x32)) fun y147 => ev_b (ev_lcmp y147 ((Int64.ofNat ((0 : Fin 2) : Nat)))) fun x148 => if x148 = 0 then (K116  s26) else (K104  s26)))))))))
def jl_316_42 (Q : Nat) (a0 : Int) (x2 : Int) (x11 : Int) (K30 : Int → ev_St → Option ((Unit) × ev_St)) : Nat → Int → ev_St → Option ((Unit) × ev_St)
  | 0 => fun _ _ => none
  | q + 1 => jb_316_42 Q a0 x2 x11 K30 (jl_316_42 Q a0 x2 x11 K30 q)
theorem jbt_316_42 (d : Nat) (hd : 1 ≤ d + 1) (Q : Nat) (a0 : Int) (x2 : Int) (x11 : Int) (ha0 : ev_rng a0) (hx2 : ev_rng x2) (hx11 : ev_rng x11) (K30 : Int → ev_St → Option ((Unit) × ev_St)) (hK30 : ∀ (x11 : Int) (hx11 : ev_rng x11), ∀ (s17 : ev_St) (w12 : List (Nat × Value)), ev_lk w12 0 = some (.ref 621) → ev_lk w12 1 = some (.int (Int32.ofInt a0)) → ev_lk w12 2 = some (.int (Int32.ofInt x2)) → ev_lk w12 3 = some (.int (Int32.ofInt x11)) → ev_w none (ev_Mof 316) d 30 w12 [] s17 (K30 x11 s17) ev_eU ev_PU) (K42 : Int → ev_St → Option ((Unit) × ev_St)) (hK42 : ∀ (x19 : Int) (hx19 : ev_rng x19), ∀ (s26 : ev_St) (w20 : List (Nat × Value)), ev_lk w20 0 = some (.ref 621) → ev_lk w20 1 = some (.int (Int32.ofInt a0)) → ev_lk w20 2 = some (.int (Int32.ofInt x2)) → ev_lk w20 3 = some (.int (Int32.ofInt x11)) → ev_lk w20 4 = some (.int (Int32.ofInt x19)) → ev_w none (ev_Mof 316) d 42 w20 [] s26 (K42 x19 s26) ev_eU ev_PU) : ∀ (x19 : Int) (hx19 : ev_rng x19), ∀ (s26 : ev_St) (w20 : List (Nat × Value)), ev_lk w20 0 = some (.ref 621) → ev_lk w20 1 = some (.int (Int32.ofInt a0)) → ev_lk w20 2 = some (.int (Int32.ofInt x2)) → ev_lk w20 3 = some (.int (Int32.ofInt x11)) → ev_lk w20 4 = some (.int (Int32.ofInt x19)) → ev_w none (ev_Mof 316) d 42 w20 [] s26 (jb_316_42 Q a0 x2 x11 K30 K42 x19 s26) ev_eU ev_PU := by
  intro x19 hx19 s26 w20 e21 e22 e23 e24 e25
  unfold jb_316_42
  refine ev_r_iload (pc := 42) (k := 4) (v := Int32.ofInt x19) (by decide +kernel) (by exact e25) ?_
  refine ev_r_if (pc := 44) (q := .lt) (o := 186) (t := 230) (c := x19 < 0) (by decide +kernel) (ev_k_lt hx19 ev_rng0) (by decide +kernel) ?_ ?_
  · intro c27
    refine ev_r_iinc (pc := 230) (k := 3) (c := 1) (x := x11) (by decide +kernel) (by decide +kernel) (by exact e24) (fun _ => rfl) ?_
    intro x28 hx28
    refine ev_r_goto (pc := 233) (o := (-203)) (t := 30) (by decide +kernel) (by decide +kernel) ?_
    exact hK30 x28 hx28 s26 _ (by exact (ev_l1 e21 (by decide) (by decide))) (by exact (ev_l1 e22 (by decide) (by decide))) (by exact (ev_lk_st1 e23 (by decide) rfl)) (by exact ev_lk_st1_self)
  · intro c27
    refine ev_r_aload_n (pc := 47) (k := 0) (v := .ref 621) trivial (by decide +kernel) (by exact e21) ?_
    refine ev_r_getC (pc := 48) (y := 132) (ci := 13) (f := 55) (fin := 1) (k' := 662) (by decide +kernel) (by decide +kernel) (by exact ev_ob_621) rfl rfl ?_
    refine ev_r_iload_n (pc := 51) (k := 2) (v := Int32.ofInt x2) (by decide +kernel) (by exact e23) ?_
    refine ev_r_iload (pc := 52) (k := 4) (v := Int32.ofInt x19) (by decide +kernel) (by exact e25) ?_
    refine ev_r_iadd (pc := 54) (by decide +kernel) ?_
    intro x29 hx29
    refine ev_r_iald (pc := 55) hx29 (by decide +kernel) (by exact ev_ab_662) ?_
    intro x30 hx30
    refine ev_r_istore (pc := 56) (k := 5) (by decide +kernel) (by decide +kernel) rfl ?_
    refine ev_r_aload_n (pc := 58) (k := 0) (v := .ref 621) trivial (by decide +kernel) (by exact (ev_l1 e21 (by decide) (by decide))) ?_
    refine ev_r_getC (pc := 59) (y := 135) (ci := 13) (f := 56) (fin := 1) (k' := 663) (by decide +kernel) (by decide +kernel) (by exact ev_ob_621) rfl rfl ?_
    refine ev_r_iload_n (pc := 62) (k := 2) (v := Int32.ofInt x2) (by decide +kernel) (by exact (ev_l1 e23 (by decide) (by decide))) ?_
    refine ev_r_iload (pc := 63) (k := 4) (v := Int32.ofInt x19) (by decide +kernel) (by exact (ev_lk_st1 e25 (by decide) rfl)) ?_
    refine ev_r_iadd (pc := 65) (by decide +kernel) ?_
    intro x31 hx31
    refine ev_r_iald (pc := 66) hx31 (by decide +kernel) (by exact ev_ab_663) ?_
    intro x32 hx32
    refine ev_r_istore (pc := 67) (k := 6) (by decide +kernel) (by decide +kernel) rfl ?_
    refine ev_r_iload (pc := 69) (k := 5) (v := Int32.ofInt x30) (by decide +kernel) (by exact (ev_lk_st1 ev_lk_st1_self (by decide) rfl)) ?_
    refine ev_r_iconst (pc := 71) (k := 5) (by decide +kernel) ?_
    refine ev_r_jn (Q := fun K => ∀ (x33 : Int) (hx33 : ev_rng x33), ∀ (s40 : ev_St) (w34 : List (Nat × Value)), ev_lk w34 0 = some (.ref 621) → ev_lk w34 1 = some (.int (Int32.ofInt a0)) → ev_lk w34 2 = some (.int (Int32.ofInt x2)) → ev_lk w34 3 = some (.int (Int32.ofInt x11)) → ev_lk w34 4 = some (.int (Int32.ofInt x19)) → ev_w none (ev_Mof 316) d 184 w34 [.int (Int32.ofInt x33)] s40 (K x33 s40) ev_eU ev_PU) ?_ ?_
    · intro x33 hx33 s40 w34 e35 e36 e37 e38 e39
      refine ev_r_istore (pc := 184) (k := 7) (by decide +kernel) (by decide +kernel) rfl ?_
      refine ev_r_aload_n (pc := 186) (k := 0) (v := .ref 621) trivial (by decide +kernel) (by exact (ev_l1 e35 (by decide) (by decide))) ?_
      refine ev_r_getC (pc := 187) (y := 166) (ci := 13) (f := 67) (fin := 1) (k' := 673) (by decide +kernel) (by decide +kernel) (by exact ev_ob_621) rfl rfl ?_
      refine ev_r_iload (pc := 190) (k := 4) (v := Int32.ofInt x19) (by decide +kernel) (by exact (ev_l1 e39 (by decide) (by decide))) ?_
      refine ev_r_aload_n (pc := 192) (k := 0) (v := .ref 621) trivial (by decide +kernel) (by exact (ev_l1 e35 (by decide) (by decide))) ?_
      refine ev_r_getC (pc := 193) (y := 166) (ci := 13) (f := 67) (fin := 1) (k' := 673) (by decide +kernel) (by decide +kernel) (by exact ev_ob_621) rfl rfl ?_
      refine ev_r_iload (pc := 196) (k := 4) (v := Int32.ofInt x19) (by decide +kernel) (by exact (ev_l1 e39 (by decide) (by decide))) ?_
      refine ev_r_bald (pc := 198) (ty := .boolean) (Or.inr rfl) hx19 (by decide +kernel) (by exact ev_ab_673) ?_
      intro x41 hx41
      refine ev_r_jn (Q := fun K => ∀ (x44 : Int) (hx44 : ev_rng x44), ∀ (x43 : Int) (hx43 : ev_rng x43), ∀ (r42 : Nat) (hr42 : ev_isAb r42 1 .boolean = true), ∀ (s51 : ev_St) (w45 : List (Nat × Value)), ev_lk w45 0 = some (.ref 621) → ev_lk w45 1 = some (.int (Int32.ofInt a0)) → ev_lk w45 2 = some (.int (Int32.ofInt x2)) → ev_lk w45 3 = some (.int (Int32.ofInt x11)) → ev_lk w45 4 = some (.int (Int32.ofInt x19)) → ev_w none (ev_Mof 316) d 223 w45 [.int (Int32.ofInt x44), .int (Int32.ofInt x43), .ref r42] s51 (K x44 x43 r42 s51) ev_eU ev_PU) ?_ ?_
      · intro x44 hx44 x43 hx43 r42 hr42 s51 w45 e46 e47 e48 e49 e50
        refine ev_r_chk ?_
        intro c53
        refine ev_r_bast (pc := 223) (ty := .boolean) (Or.inr rfl) (ev_nar_bl c53) hx44 hx43 (by decide +kernel) (by exact hr42) ?_
        intro s52
        refine ev_r_iinc (pc := 224) (k := 4) (c := -1) (x := x19) (by decide +kernel) (by decide +kernel) (by exact e50) (fun _ => rfl) ?_
        intro x54 hx54
        refine ev_r_goto (pc := 227) (o := (-185)) (t := 42) (by decide +kernel) (by decide +kernel) ?_
        exact hK42 x54 hx54 s52 _ (by exact (ev_l1 e46 (by decide) (by decide))) (by exact (ev_l1 e47 (by decide) (by decide))) (by exact (ev_l1 e48 (by decide) (by decide))) (by exact (ev_lk_st1 e49 (by decide) rfl)) (by exact ev_lk_st1_self)
      · intro K223 hK223
        refine ev_r_jn (Q := fun K => ∀ (x56 : Int) (hx56 : ev_rng x56), ∀ (r55 : Nat) (hr55 : ev_isAb r55 1 .boolean = true), ∀ (s63 : ev_St) (w57 : List (Nat × Value)), ev_lk w57 0 = some (.ref 621) → ev_lk w57 1 = some (.int (Int32.ofInt a0)) → ev_lk w57 2 = some (.int (Int32.ofInt x2)) → ev_lk w57 3 = some (.int (Int32.ofInt x11)) → ev_lk w57 4 = some (.int (Int32.ofInt x19)) → ev_w none (ev_Mof 316) d 218 w57 [.int (Int32.ofInt x56), .ref r55] s63 (K x56 r55 s63) ev_eU ev_PU) ?_ ?_
        · intro x56 hx56 r55 hr55 s63 w57 e58 e59 e60 e61 e62
          refine ev_r_iconst (pc := 218) (k := 1) (by decide +kernel) ?_
          refine ev_r_goto (pc := 219) (o := 4) (t := 223) (by decide +kernel) (by decide +kernel) ?_
          exact hK223 1 (by decide) x56 hx56 r55 hr55 s63 _ (by exact e58) (by exact e59) (by exact e60) (by exact e61) (by exact e62)
        · intro K218 hK218
          refine ev_r_if (pc := 199) (q := .ne) (o := 19) (t := 218) (c := x41 ≠ 0) (by decide +kernel) (ev_k_ne hx41 ev_rng0) (by decide +kernel) ?_ ?_
          · intro c64
            exact hK218 x19 hx19 673 ev_ab_673 s40 _ (by exact (ev_l1 e35 (by decide) (by decide))) (by exact (ev_l1 e36 (by decide) (by decide))) (by exact (ev_l1 e37 (by decide) (by decide))) (by exact (ev_l1 e38 (by decide) (by decide))) (by exact (ev_l1 e39 (by decide) (by decide)))
          · intro c64
            refine ev_r_iload (pc := 202) (k := 4) (v := Int32.ofInt x19) (by decide +kernel) (by exact (ev_l1 e39 (by decide) (by decide))) ?_
            refine ev_r_aload_n (pc := 204) (k := 0) (v := .ref 621) trivial (by decide +kernel) (by exact (ev_l1 e35 (by decide) (by decide))) ?_
            refine ev_r_getC (pc := 205) (y := 141) (ci := 13) (f := 58) (fin := 1) (k' := 665) (by decide +kernel) (by decide +kernel) (by exact ev_ob_621) rfl rfl ?_
            refine ev_r_iload_n (pc := 208) (k := 1) (v := Int32.ofInt a0) (by decide +kernel) (by exact (ev_l1 e36 (by decide) (by decide))) ?_
            refine ev_r_iald (pc := 209) ha0 (by decide +kernel) (by exact ev_ab_665) ?_
            intro x65 hx65
            refine ev_r_jn (Q := fun K => ∀ (x67 : Int) (hx67 : ev_rng x67), ∀ (r66 : Nat) (hr66 : ev_isAb r66 1 .boolean = true), ∀ (s74 : ev_St) (w68 : List (Nat × Value)), ev_lk w68 0 = some (.ref 621) → ev_lk w68 1 = some (.int (Int32.ofInt a0)) → ev_lk w68 2 = some (.int (Int32.ofInt x2)) → ev_lk w68 3 = some (.int (Int32.ofInt x11)) → ev_lk w68 4 = some (.int (Int32.ofInt x19)) → ev_w none (ev_Mof 316) d 222 w68 [.int (Int32.ofInt x67), .ref r66] s74 (K x67 r66 s74) ev_eU ev_PU) ?_ ?_
            · intro x67 hx67 r66 hr66 s74 w68 e69 e70 e71 e72 e73
              refine ev_r_iconst (pc := 222) (k := 0) (by decide +kernel) ?_
              exact hK223 0 (by decide) x67 hx67 r66 hr66 s74 _ (by exact e69) (by exact e70) (by exact e71) (by exact e72) (by exact e73)
            · intro K222 hK222
              refine ev_r_icmp (pc := 210) (q := .gt) (o := 12) (t := 222) (c := x65 < x19) (by decide +kernel) (ev_k_gt hx19 hx65) (by decide +kernel) ?_ ?_
              · intro c75
                exact hK222 x19 hx19 673 ev_ab_673 s40 _ (by exact (ev_l1 e35 (by decide) (by decide))) (by exact (ev_l1 e36 (by decide) (by decide))) (by exact (ev_l1 e37 (by decide) (by decide))) (by exact (ev_l1 e38 (by decide) (by decide))) (by exact (ev_l1 e39 (by decide) (by decide)))
              · intro c75
                refine ev_r_iload (pc := 213) (k := 7) (v := Int32.ofInt x33) (by decide +kernel) (by exact ev_lk_st1_self) ?_
                refine ev_r_if (pc := 215) (q := .eq) (o := 7) (t := 222) (c := x33 = 0) (by decide +kernel) (ev_k_eq hx33 ev_rng0) (by decide +kernel) ?_ ?_
                · intro c76
                  exact hK222 x19 hx19 673 ev_ab_673 s40 _ (by exact (ev_l1 e35 (by decide) (by decide))) (by exact (ev_l1 e36 (by decide) (by decide))) (by exact (ev_l1 e37 (by decide) (by decide))) (by exact (ev_l1 e38 (by decide) (by decide))) (by exact (ev_l1 e39 (by decide) (by decide)))
                · intro c76
                  exact hK218 x19 hx19 673 ev_ab_673 s40 _ (by exact (ev_l1 e35 (by decide) (by decide))) (by exact (ev_l1 e36 (by decide) (by decide))) (by exact (ev_l1 e37 (by decide) (by decide))) (by exact (ev_l1 e38 (by decide) (by decide))) (by exact (ev_l1 e39 (by decide) (by decide)))
    · intro K184 hK184
      refine ev_r_jn (Q := fun K => ∀ (s83 : ev_St) (w77 : List (Nat × Value)), ev_lk w77 0 = some (.ref 621) → ev_lk w77 1 = some (.int (Int32.ofInt a0)) → ev_lk w77 2 = some (.int (Int32.ofInt x2)) → ev_lk w77 3 = some (.int (Int32.ofInt x11)) → ev_lk w77 4 = some (.int (Int32.ofInt x19)) → ev_w none (ev_Mof 316) d 179 w77 [] s83 (K  s83) ev_eU ev_PU) ?_ ?_
      · intro  s83 w77 e78 e79 e80 e81 e82
        refine ev_r_iconst (pc := 179) (k := 1) (by decide +kernel) ?_
        refine ev_r_goto (pc := 180) (o := 4) (t := 184) (by decide +kernel) (by decide +kernel) ?_
        exact hK184 1 (by decide) s83 _ (by exact e78) (by exact e79) (by exact e80) (by exact e81) (by exact e82)
      · intro K179 hK179
        refine ev_r_icmp (pc := 72) (q := .eq) (o := 107) (t := 179) (c := x30 = 5) (by decide +kernel) (ev_k_eq hx30 (by decide)) (by decide +kernel) ?_ ?_
        · intro c84
          exact hK179  s26 _ (by exact (ev_l1 (ev_l1 e21 (by decide) (by decide)) (by decide) (by decide))) (by exact (ev_l1 (ev_l1 e22 (by decide) (by decide)) (by decide) (by decide))) (by exact (ev_l1 (ev_l1 e23 (by decide) (by decide)) (by decide) (by decide))) (by exact (ev_l1 (ev_l1 e24 (by decide) (by decide)) (by decide) (by decide))) (by exact (ev_l1 (ev_lk_st1 e25 (by decide) rfl) (by decide) (by decide)))
        · intro c84
          refine ev_r_iload (pc := 75) (k := 5) (v := Int32.ofInt x30) (by decide +kernel) (by exact (ev_lk_st1 ev_lk_st1_self (by decide) rfl)) ?_
          refine ev_r_jn (Q := fun K => ∀ (s93 : ev_St) (w85 : List (Nat × Value)), ev_lk w85 0 = some (.ref 621) → ev_lk w85 1 = some (.int (Int32.ofInt a0)) → ev_lk w85 2 = some (.int (Int32.ofInt x2)) → ev_lk w85 3 = some (.int (Int32.ofInt x11)) → ev_lk w85 4 = some (.int (Int32.ofInt x19)) → ev_lk w85 5 = some (.int (Int32.ofInt x30)) → ev_lk w85 6 = some (.int (Int32.ofInt x32)) → ev_w none (ev_Mof 316) d 116 w85 [] s93 (K  s93) ev_eU ev_PU) ?_ ?_
          · intro  s93 w85 e86 e87 e88 e89 e90 e91 e92
            refine ev_r_iload (pc := 116) (k := 5) (v := Int32.ofInt x30) (by decide +kernel) (by exact e91) ?_
            refine ev_r_iconst (pc := 118) (k := 4) (by decide +kernel) ?_
            refine ev_r_jn (Q := fun K => ∀ (s102 : ev_St) (w94 : List (Nat × Value)), ev_lk w94 0 = some (.ref 621) → ev_lk w94 1 = some (.int (Int32.ofInt a0)) → ev_lk w94 2 = some (.int (Int32.ofInt x2)) → ev_lk w94 3 = some (.int (Int32.ofInt x11)) → ev_lk w94 4 = some (.int (Int32.ofInt x19)) → ev_lk w94 5 = some (.int (Int32.ofInt x30)) → ev_lk w94 6 = some (.int (Int32.ofInt x32)) → ev_w none (ev_Mof 316) d 134 w94 [] s102 (K  s102) ev_eU ev_PU) ?_ ?_
            · intro  s102 w94 e95 e96 e97 e98 e99 e100 e101
              refine ev_r_iload (pc := 134) (k := 5) (v := Int32.ofInt x30) (by decide +kernel) (by exact e100) ?_
              refine ev_r_iconst (pc := 136) (k := 1) (by decide +kernel) ?_
              refine ev_r_jn (Q := fun K => ∀ (s110 : ev_St) (w103 : List (Nat × Value)), ev_lk w103 0 = some (.ref 621) → ev_lk w103 1 = some (.int (Int32.ofInt a0)) → ev_lk w103 2 = some (.int (Int32.ofInt x2)) → ev_lk w103 3 = some (.int (Int32.ofInt x11)) → ev_lk w103 4 = some (.int (Int32.ofInt x19)) → ev_lk w103 5 = some (.int (Int32.ofInt x30)) → ev_w none (ev_Mof 316) d 156 w103 [] s110 (K  s110) ev_eU ev_PU) ?_ ?_
              · intro  s110 w103 e104 e105 e106 e107 e108 e109
                refine ev_r_iload (pc := 156) (k := 5) (v := Int32.ofInt x30) (by decide +kernel) (by exact e109) ?_
                refine ev_r_iconst (pc := 158) (k := 2) (by decide +kernel) ?_
                refine ev_r_jn (Q := fun K => ∀ (s117 : ev_St) (w111 : List (Nat × Value)), ev_lk w111 0 = some (.ref 621) → ev_lk w111 1 = some (.int (Int32.ofInt a0)) → ev_lk w111 2 = some (.int (Int32.ofInt x2)) → ev_lk w111 3 = some (.int (Int32.ofInt x11)) → ev_lk w111 4 = some (.int (Int32.ofInt x19)) → ev_w none (ev_Mof 316) d 183 w111 [] s117 (K  s117) ev_eU ev_PU) ?_ ?_
                · intro  s117 w111 e112 e113 e114 e115 e116
                  refine ev_r_iconst (pc := 183) (k := 0) (by decide +kernel) ?_
                  exact hK184 0 (by decide) s117 _ (by exact e112) (by exact e113) (by exact e114) (by exact e115) (by exact e116)
                · intro K183 hK183
                  refine ev_r_icmp (pc := 159) (q := .ne) (o := 24) (t := 183) (c := x30 ≠ 2) (by decide +kernel) (ev_k_ne hx30 (by decide)) (by decide +kernel) ?_ ?_
                  · intro c118
                    exact hK183  s110 _ (by exact e104) (by exact e105) (by exact e106) (by exact e107) (by exact e108)
                  · intro c118
                    refine ev_r_aload_n (pc := 162) (k := 0) (v := .ref 621) trivial (by decide +kernel) (by exact e104) ?_
                    refine ev_r_getC (pc := 163) (y := 166) (ci := 13) (f := 67) (fin := 1) (k' := 673) (by decide +kernel) (by decide +kernel) (by exact ev_ob_621) rfl rfl ?_
                    refine ev_r_aload_n (pc := 166) (k := 0) (v := .ref 621) trivial (by decide +kernel) (by exact e104) ?_
                    refine ev_r_getC (pc := 167) (y := 138) (ci := 13) (f := 57) (fin := 1) (k' := 664) (by decide +kernel) (by decide +kernel) (by exact ev_ob_621) rfl rfl ?_
                    refine ev_r_iload_n (pc := 170) (k := 2) (v := Int32.ofInt x2) (by decide +kernel) (by exact e106) ?_
                    refine ev_r_iload (pc := 171) (k := 4) (v := Int32.ofInt x19) (by decide +kernel) (by exact e108) ?_
                    refine ev_r_iadd (pc := 173) (by decide +kernel) ?_
                    intro x119 hx119
                    refine ev_r_iald (pc := 174) hx119 (by decide +kernel) (by exact ev_ab_664) ?_
                    intro x120 hx120
                    refine ev_r_bald (pc := 175) (ty := .boolean) (Or.inr rfl) hx120 (by decide +kernel) (by exact ev_ab_673) ?_
                    intro x121 hx121
                    refine ev_r_if (pc := 176) (q := .eq) (o := 7) (t := 183) (c := x121 = 0) (by decide +kernel) (ev_k_eq hx121 ev_rng0) (by decide +kernel) ?_ ?_
                    · intro c122
                      exact hK183  s110 _ (by exact e104) (by exact e105) (by exact e106) (by exact e107) (by exact e108)
                    · intro c122
                      exact hK179  s110 _ (by exact e104) (by exact e105) (by exact e106) (by exact e107) (by exact e108)
              · intro K156 hK156
                refine ev_r_icmp (pc := 137) (q := .le) (o := 19) (t := 156) (c := x30 ≤ 1) (by decide +kernel) (ev_k_le hx30 (by decide)) (by decide +kernel) ?_ ?_
                · intro c123
                  exact hK156  s102 _ (by exact e95) (by exact e96) (by exact e97) (by exact e98) (by exact e99) (by exact e100)
                · intro c123
                  refine ev_r_iload (pc := 140) (k := 5) (v := Int32.ofInt x30) (by decide +kernel) (by exact e100) ?_
                  refine ev_r_iconst (pc := 142) (k := 4) (by decide +kernel) ?_
                  refine ev_r_icmp (pc := 143) (q := .ge) (o := 13) (t := 156) (c := 4 ≤ x30) (by decide +kernel) (ev_k_ge hx30 (by decide)) (by decide +kernel) ?_ ?_
                  · intro c124
                    exact hK156  s102 _ (by exact e95) (by exact e96) (by exact e97) (by exact e98) (by exact e99) (by exact e100)
                  · intro c124
                    refine ev_r_aload_n (pc := 146) (k := 0) (v := .ref 621) trivial (by decide +kernel) (by exact e95) ?_
                    refine ev_r_getC (pc := 147) (y := 166) (ci := 13) (f := 67) (fin := 1) (k' := 673) (by decide +kernel) (by decide +kernel) (by exact ev_ob_621) rfl rfl ?_
                    refine ev_r_iload (pc := 150) (k := 6) (v := Int32.ofInt x32) (by decide +kernel) (by exact e101) ?_
                    refine ev_r_bald (pc := 152) (ty := .boolean) (Or.inr rfl) hx32 (by decide +kernel) (by exact ev_ab_673) ?_
                    intro x125 hx125
                    refine ev_r_if (pc := 153) (q := .ne) (o := 26) (t := 179) (c := x125 ≠ 0) (by decide +kernel) (ev_k_ne hx125 ev_rng0) (by decide +kernel) ?_ ?_
                    · intro c126
                      exact hK179  s102 _ (by exact e95) (by exact e96) (by exact e97) (by exact e98) (by exact e99)
                    · intro c126
                      exact hK156  s102 _ (by exact e95) (by exact e96) (by exact e97) (by exact e98) (by exact e99) (by exact e100)
            · intro K134 hK134
              refine ev_r_icmp (pc := 119) (q := .ne) (o := 15) (t := 134) (c := x30 ≠ 4) (by decide +kernel) (ev_k_ne hx30 (by decide)) (by decide +kernel) ?_ ?_
              · intro c127
                exact hK134  s93 _ (by exact e86) (by exact e87) (by exact e88) (by exact e89) (by exact e90) (by exact e91) (by exact e92)
              · intro c127
                refine ev_r_aload_n (pc := 122) (k := 0) (v := .ref 621) trivial (by decide +kernel) (by exact e86) ?_
                refine ev_r_getC (pc := 123) (y := 166) (ci := 13) (f := 67) (fin := 1) (k' := 673) (by decide +kernel) (by decide +kernel) (by exact ev_ob_621) rfl rfl ?_
                refine ev_r_iload (pc := 126) (k := 4) (v := Int32.ofInt x19) (by decide +kernel) (by exact e90) ?_
                refine ev_r_iconst (pc := 128) (k := 1) (by decide +kernel) ?_
                refine ev_r_iadd (pc := 129) (by decide +kernel) ?_
                intro x128 hx128
                refine ev_r_bald (pc := 130) (ty := .boolean) (Or.inr rfl) hx128 (by decide +kernel) (by exact ev_ab_673) ?_
                intro x129 hx129
                refine ev_r_if (pc := 131) (q := .ne) (o := 48) (t := 179) (c := x129 ≠ 0) (by decide +kernel) (ev_k_ne hx129 ev_rng0) (by decide +kernel) ?_ ?_
                · intro c130
                  exact hK179  s93 _ (by exact e86) (by exact e87) (by exact e88) (by exact e89) (by exact e90)
                · intro c130
                  exact hK134  s93 _ (by exact e86) (by exact e87) (by exact e88) (by exact e89) (by exact e90) (by exact e91) (by exact e92)
          · intro K116 hK116
            refine ev_r_if (pc := 77) (q := .ne) (o := 39) (t := 116) (c := x30 ≠ 0) (by decide +kernel) (ev_k_ne hx30 ev_rng0) (by decide +kernel) ?_ ?_
            · intro c131
              exact hK116  s26 _ (by exact (ev_l1 (ev_l1 e21 (by decide) (by decide)) (by decide) (by decide))) (by exact (ev_l1 (ev_l1 e22 (by decide) (by decide)) (by decide) (by decide))) (by exact (ev_l1 (ev_l1 e23 (by decide) (by decide)) (by decide) (by decide))) (by exact (ev_l1 (ev_l1 e24 (by decide) (by decide)) (by decide) (by decide))) (by exact (ev_l1 (ev_lk_st1 e25 (by decide) rfl) (by decide) (by decide))) (by exact (ev_lk_st1 ev_lk_st1_self (by decide) rfl)) (by exact ev_lk_st1_self)
            · intro c131
              refine ev_r_aload_n (pc := 80) (k := 0) (v := .ref 621) trivial (by decide +kernel) (by exact (ev_l1 (ev_l1 e21 (by decide) (by decide)) (by decide) (by decide))) ?_
              refine ev_r_getC (pc := 81) (y := 43) (ci := 13) (f := 14) (fin := 1) (k' := 633) (by decide +kernel) (by decide +kernel) (by exact ev_ob_621) rfl rfl ?_
              refine ev_r_iload (pc := 84) (k := 6) (v := Int32.ofInt x32) (by decide +kernel) (by exact ev_lk_st1_self) ?_
              refine ev_r_lald (pc := 86) hx32 (by decide +kernel) (by exact ev_ab_633) ?_
              intro y132
              refine ev_r_lconst (pc := 87) (c := 0) (by decide +kernel) ?_
              refine ev_r_toI (pc := 88) (i := .lcmp) (len := 1) (pc' := 89) (by decide +kernel) rfl ?_
              intro x133 hx133
              refine ev_r_jn (Q := fun K => ∀ (s142 : ev_St) (w134 : List (Nat × Value)), ev_lk w134 0 = some (.ref 621) → ev_lk w134 1 = some (.int (Int32.ofInt a0)) → ev_lk w134 2 = some (.int (Int32.ofInt x2)) → ev_lk w134 3 = some (.int (Int32.ofInt x11)) → ev_lk w134 4 = some (.int (Int32.ofInt x19)) → ev_lk w134 5 = some (.int (Int32.ofInt x30)) → ev_lk w134 6 = some (.int (Int32.ofInt x32)) → ev_w none (ev_Mof 316) d 104 w134 [] s142 (K  s142) ev_eU ev_PU) ?_ ?_
              · intro  s142 w134 e135 e136 e137 e138 e139 e140 e141
                refine ev_r_aload_n (pc := 104) (k := 0) (v := .ref 621) trivial (by decide +kernel) (by exact e135) ?_
                refine ev_r_getC (pc := 105) (y := 166) (ci := 13) (f := 67) (fin := 1) (k' := 673) (by decide +kernel) (by decide +kernel) (by exact ev_ob_621) rfl rfl ?_
                refine ev_r_iload (pc := 108) (k := 4) (v := Int32.ofInt x19) (by decide +kernel) (by exact e139) ?_
                refine ev_r_iconst (pc := 110) (k := 1) (by decide +kernel) ?_
                refine ev_r_iadd (pc := 111) (by decide +kernel) ?_
                intro x143 hx143
                refine ev_r_bald (pc := 112) (ty := .boolean) (Or.inr rfl) hx143 (by decide +kernel) (by exact ev_ab_673) ?_
                intro x144 hx144
                refine ev_r_if (pc := 113) (q := .ne) (o := 66) (t := 179) (c := x144 ≠ 0) (by decide +kernel) (ev_k_ne hx144 ev_rng0) (by decide +kernel) ?_ ?_
                · intro c145
                  exact hK179  s142 _ (by exact e135) (by exact e136) (by exact e137) (by exact e138) (by exact e139)
                · intro c145
                  exact hK116  s142 _ (by exact e135) (by exact e136) (by exact e137) (by exact e138) (by exact e139) (by exact e140) (by exact e141)
              · intro K104 hK104
                refine ev_r_if (pc := 89) (q := .ne) (o := 15) (t := 104) (c := x133 ≠ 0) (by decide +kernel) (ev_k_ne hx133 ev_rng0) (by decide +kernel) ?_ ?_
                · intro c146
                  exact hK104  s26 _ (by exact (ev_l1 (ev_l1 e21 (by decide) (by decide)) (by decide) (by decide))) (by exact (ev_l1 (ev_l1 e22 (by decide) (by decide)) (by decide) (by decide))) (by exact (ev_l1 (ev_l1 e23 (by decide) (by decide)) (by decide) (by decide))) (by exact (ev_l1 (ev_l1 e24 (by decide) (by decide)) (by decide) (by decide))) (by exact (ev_l1 (ev_lk_st1 e25 (by decide) rfl) (by decide) (by decide))) (by exact (ev_lk_st1 ev_lk_st1_self (by decide) rfl)) (by exact ev_lk_st1_self)
                · intro c146
                  refine ev_r_aload_n (pc := 92) (k := 0) (v := .ref 621) trivial (by decide +kernel) (by exact (ev_l1 (ev_l1 e21 (by decide) (by decide)) (by decide) (by decide))) ?_
                  refine ev_r_getC (pc := 93) (y := 47) (ci := 13) (f := 15) (fin := 1) (k' := 634) (by decide +kernel) (by decide +kernel) (by exact ev_ob_621) rfl rfl ?_
                  refine ev_r_iload (pc := 96) (k := 6) (v := Int32.ofInt x32) (by decide +kernel) (by exact ev_lk_st1_self) ?_
                  refine ev_r_lald (pc := 98) hx32 (by decide +kernel) (by exact ev_ab_634) ?_
                  intro y147
                  refine ev_r_lconst (pc := 99) (c := 0) (by decide +kernel) ?_
                  refine ev_r_toI (pc := 100) (i := .lcmp) (len := 1) (pc' := 101) (by decide +kernel) rfl ?_
                  intro x148 hx148
                  refine ev_r_if (pc := 101) (q := .eq) (o := 15) (t := 116) (c := x148 = 0) (by decide +kernel) (ev_k_eq hx148 ev_rng0) (by decide +kernel) ?_ ?_
                  · intro c149
                    exact hK116  s26 _ (by exact (ev_l1 (ev_l1 e21 (by decide) (by decide)) (by decide) (by decide))) (by exact (ev_l1 (ev_l1 e22 (by decide) (by decide)) (by decide) (by decide))) (by exact (ev_l1 (ev_l1 e23 (by decide) (by decide)) (by decide) (by decide))) (by exact (ev_l1 (ev_l1 e24 (by decide) (by decide)) (by decide) (by decide))) (by exact (ev_l1 (ev_lk_st1 e25 (by decide) rfl) (by decide) (by decide))) (by exact (ev_lk_st1 ev_lk_st1_self (by decide) rfl)) (by exact ev_lk_st1_self)
                  · intro c149
                    exact hK104  s26 _ (by exact (ev_l1 (ev_l1 e21 (by decide) (by decide)) (by decide) (by decide))) (by exact (ev_l1 (ev_l1 e22 (by decide) (by decide)) (by decide) (by decide))) (by exact (ev_l1 (ev_l1 e23 (by decide) (by decide)) (by decide) (by decide))) (by exact (ev_l1 (ev_l1 e24 (by decide) (by decide)) (by decide) (by decide))) (by exact (ev_l1 (ev_lk_st1 e25 (by decide) rfl) (by decide) (by decide))) (by exact (ev_lk_st1 ev_lk_st1_self (by decide) rfl)) (by exact ev_lk_st1_self)
theorem jlt_316_42 (d : Nat) (hd : 1 ≤ d + 1) (Q : Nat) (a0 : Int) (x2 : Int) (x11 : Int) (ha0 : ev_rng a0) (hx2 : ev_rng x2) (hx11 : ev_rng x11) (K30 : Int → ev_St → Option ((Unit) × ev_St)) (hK30 : ∀ (x11 : Int) (hx11 : ev_rng x11), ∀ (s17 : ev_St) (w12 : List (Nat × Value)), ev_lk w12 0 = some (.ref 621) → ev_lk w12 1 = some (.int (Int32.ofInt a0)) → ev_lk w12 2 = some (.int (Int32.ofInt x2)) → ev_lk w12 3 = some (.int (Int32.ofInt x11)) → ev_w none (ev_Mof 316) d 30 w12 [] s17 (K30 x11 s17) ev_eU ev_PU) : ∀ q : Nat, ∀ (x19 : Int) (hx19 : ev_rng x19), ∀ (s26 : ev_St) (w20 : List (Nat × Value)), ev_lk w20 0 = some (.ref 621) → ev_lk w20 1 = some (.int (Int32.ofInt a0)) → ev_lk w20 2 = some (.int (Int32.ofInt x2)) → ev_lk w20 3 = some (.int (Int32.ofInt x11)) → ev_lk w20 4 = some (.int (Int32.ofInt x19)) → ev_w none (ev_Mof 316) d 42 w20 [] s26 (jl_316_42 Q a0 x2 x11 K30 q x19 s26) ev_eU ev_PU := by
  intro q
  induction q with
  | zero =>
    intro x19 hx19 s26 w20 e21 e22 e23 e24 e25
    exact ev_w_none
  | succ q ih => exact jbt_316_42 d hd Q a0 x2 x11 ha0 hx2 hx11 K30 hK30 _ ih
def jb_316_30 (Q : Nat) (a0 : Int) (x2 : Int)  (K30 : Int → ev_St → Option ((Unit) × ev_St)) (x11 : Int) (s17 : ev_St) : Option ((Unit) × ev_St) := if 210 ≤ x11 then (some ((), s17)) else (jl_316_42 Q a0 x2 x11 K30 Q 209 s17)
def jl_316_30 (Q : Nat) (a0 : Int) (x2 : Int)  : Nat → Int → ev_St → Option ((Unit) × ev_St)
  | 0 => fun _ _ => none
  | q + 1 => jb_316_30 Q a0 x2  (jl_316_30 Q a0 x2  q)
theorem jbt_316_30 (d : Nat) (hd : 1 ≤ d + 1) (Q : Nat) (a0 : Int) (x2 : Int) (ha0 : ev_rng a0) (hx2 : ev_rng x2)   (K30 : Int → ev_St → Option ((Unit) × ev_St)) (hK30 : ∀ (x11 : Int) (hx11 : ev_rng x11), ∀ (s17 : ev_St) (w12 : List (Nat × Value)), ev_lk w12 0 = some (.ref 621) → ev_lk w12 1 = some (.int (Int32.ofInt a0)) → ev_lk w12 2 = some (.int (Int32.ofInt x2)) → ev_lk w12 3 = some (.int (Int32.ofInt x11)) → ev_w none (ev_Mof 316) d 30 w12 [] s17 (K30 x11 s17) ev_eU ev_PU) : ∀ (x11 : Int) (hx11 : ev_rng x11), ∀ (s17 : ev_St) (w12 : List (Nat × Value)), ev_lk w12 0 = some (.ref 621) → ev_lk w12 1 = some (.int (Int32.ofInt a0)) → ev_lk w12 2 = some (.int (Int32.ofInt x2)) → ev_lk w12 3 = some (.int (Int32.ofInt x11)) → ev_w none (ev_Mof 316) d 30 w12 [] s17 (jb_316_30 Q a0 x2  K30 x11 s17) ev_eU ev_PU := by
  intro x11 hx11 s17 w12 e13 e14 e15 e16
  unfold jb_316_30
  refine ev_r_iload_n (pc := 30) (k := 3) (v := Int32.ofInt x11) (by decide +kernel) (by exact e16) ?_
  refine ev_r_sipush (pc := 31) (k := 210) (by decide +kernel) (by decide +kernel) ?_
  refine ev_r_icmp (pc := 34) (q := .ge) (o := 202) (t := 236) (c := 210 ≤ x11) (by decide +kernel) (ev_k_ge hx11 (by decide)) (by decide +kernel) ?_ ?_
  · intro c18
    exact ev_r_return (pc := 236) (x := ()) trivial (by decide +kernel) (by decide +kernel) rfl
  · intro c18
    refine ev_r_sipush (pc := 37) (k := 209) (by decide +kernel) (by decide +kernel) ?_
    refine ev_r_istore (pc := 40) (k := 4) (by decide +kernel) (by decide +kernel) rfl ?_
    exact jlt_316_42 d hd Q a0 x2 x11 ha0 hx2 hx11 K30 hK30 Q 209 (by decide) s17 _ (by exact (ev_l1 e13 (by decide) (by decide))) (by exact (ev_l1 e14 (by decide) (by decide))) (by exact (ev_l1 e15 (by decide) (by decide))) (by exact (ev_lk_st1 e16 (by decide) rfl)) (by exact ev_lk_st1_self)
theorem jlt_316_30 (d : Nat) (hd : 1 ≤ d + 1) (Q : Nat) (a0 : Int) (x2 : Int) (ha0 : ev_rng a0) (hx2 : ev_rng x2)   : ∀ q : Nat, ∀ (x11 : Int) (hx11 : ev_rng x11), ∀ (s17 : ev_St) (w12 : List (Nat × Value)), ev_lk w12 0 = some (.ref 621) → ev_lk w12 1 = some (.int (Int32.ofInt a0)) → ev_lk w12 2 = some (.int (Int32.ofInt x2)) → ev_lk w12 3 = some (.int (Int32.ofInt x11)) → ev_w none (ev_Mof 316) d 30 w12 [] s17 (jl_316_30 Q a0 x2  q x11 s17) ev_eU ev_PU := by
  intro q
  induction q with
  | zero =>
    intro x11 hx11 s17 w12 e13 e14 e15 e16
    exact ev_w_none
  | succ q ih => exact jbt_316_30 d hd Q a0 x2 ha0 hx2   _ ih
def jb_316_8 (Q : Nat) (a0 : Int)  (K8 : Int → Int → ev_St → Option ((Unit) × ev_St)) (x2 : Int) (x3 : Int) (s9 : ev_St) : Option ((Unit) × ev_St) := if 210 ≤ x3 then (jl_316_30 Q a0 x2  Q 0 s9) else (ev_if ((0 : Int) ≤ x3 ∧ x3 < (ev_aln 673 : Int)) (ev_b (ev_pI s9 673 (Int.toNat x3) 0) fun s150 => ev_ck (x3 + 1) fun x151 => K8 x2 x151 s150))
def jl_316_8 (Q : Nat) (a0 : Int)  : Nat → Int → Int → ev_St → Option ((Unit) × ev_St)
  | 0 => fun _ _ _ => none
  | q + 1 => jb_316_8 Q a0  (jl_316_8 Q a0  q)
theorem jbt_316_8 (d : Nat) (hd : 1 ≤ d + 1) (Q : Nat) (a0 : Int) (ha0 : ev_rng a0)   (K8 : Int → Int → ev_St → Option ((Unit) × ev_St)) (hK8 : ∀ (x2 : Int) (hx2 : ev_rng x2), ∀ (x3 : Int) (hx3 : ev_rng x3), ∀ (s9 : ev_St) (w4 : List (Nat × Value)), ev_lk w4 0 = some (.ref 621) → ev_lk w4 1 = some (.int (Int32.ofInt a0)) → ev_lk w4 2 = some (.int (Int32.ofInt x2)) → ev_lk w4 3 = some (.int (Int32.ofInt x3)) → ev_w none (ev_Mof 316) d 8 w4 [] s9 (K8 x2 x3 s9) ev_eU ev_PU) : ∀ (x2 : Int) (hx2 : ev_rng x2), ∀ (x3 : Int) (hx3 : ev_rng x3), ∀ (s9 : ev_St) (w4 : List (Nat × Value)), ev_lk w4 0 = some (.ref 621) → ev_lk w4 1 = some (.int (Int32.ofInt a0)) → ev_lk w4 2 = some (.int (Int32.ofInt x2)) → ev_lk w4 3 = some (.int (Int32.ofInt x3)) → ev_w none (ev_Mof 316) d 8 w4 [] s9 (jb_316_8 Q a0  K8 x2 x3 s9) ev_eU ev_PU := by
  intro x2 hx2 x3 hx3 s9 w4 e5 e6 e7 e8
  unfold jb_316_8
  refine ev_r_iload_n (pc := 8) (k := 3) (v := Int32.ofInt x3) (by decide +kernel) (by exact e8) ?_
  refine ev_r_sipush (pc := 9) (k := 210) (by decide +kernel) (by decide +kernel) ?_
  refine ev_r_icmp (pc := 12) (q := .ge) (o := 16) (t := 28) (c := 210 ≤ x3) (by decide +kernel) (ev_k_ge hx3 (by decide)) (by decide +kernel) ?_ ?_
  · intro c10
    refine ev_r_iconst (pc := 28) (k := 0) (by decide +kernel) ?_
    refine ev_r_istore_n (pc := 29) (k := 3) (by decide +kernel) (by decide +kernel) rfl ?_
    exact jlt_316_30 d hd Q a0 x2 ha0 hx2   Q 0 (by decide) s9 _ (by exact (ev_l1 e5 (by decide) (by decide))) (by exact (ev_l1 e6 (by decide) (by decide))) (by exact (ev_lk_st1 e7 (by decide) rfl)) (by exact ev_lk_st1_self)
  · intro c10
    refine ev_r_aload_n (pc := 15) (k := 0) (v := .ref 621) trivial (by decide +kernel) (by exact e5) ?_
    refine ev_r_getC (pc := 16) (y := 166) (ci := 13) (f := 67) (fin := 1) (k' := 673) (by decide +kernel) (by decide +kernel) (by exact ev_ob_621) rfl rfl ?_
    refine ev_r_iload_n (pc := 19) (k := 3) (v := Int32.ofInt x3) (by decide +kernel) (by exact e8) ?_
    refine ev_r_iconst (pc := 20) (k := 0) (by decide +kernel) ?_
    refine ev_r_bast (pc := 21) (ty := .boolean) (Or.inr rfl) (ev_nar_bl (by decide : ev_bl 0)) (by decide) hx3 (by decide +kernel) (by exact ev_ab_673) ?_
    intro s150
    refine ev_r_iinc (pc := 22) (k := 3) (c := 1) (x := x3) (by decide +kernel) (by decide +kernel) (by exact e8) (fun _ => rfl) ?_
    intro x151 hx151
    refine ev_r_goto (pc := 25) (o := (-17)) (t := 8) (by decide +kernel) (by decide +kernel) ?_
    exact hK8 x2 hx2 x151 hx151 s150 _ (by exact (ev_l1 e5 (by decide) (by decide))) (by exact (ev_l1 e6 (by decide) (by decide))) (by exact (ev_lk_st1 e7 (by decide) rfl)) (by exact ev_lk_st1_self)
theorem jlt_316_8 (d : Nat) (hd : 1 ≤ d + 1) (Q : Nat) (a0 : Int) (ha0 : ev_rng a0)   : ∀ q : Nat, ∀ (x2 : Int) (hx2 : ev_rng x2), ∀ (x3 : Int) (hx3 : ev_rng x3), ∀ (s9 : ev_St) (w4 : List (Nat × Value)), ev_lk w4 0 = some (.ref 621) → ev_lk w4 1 = some (.int (Int32.ofInt a0)) → ev_lk w4 2 = some (.int (Int32.ofInt x2)) → ev_lk w4 3 = some (.int (Int32.ofInt x3)) → ev_w none (ev_Mof 316) d 8 w4 [] s9 (jl_316_8 Q a0  q x2 x3 s9) ev_eU ev_PU := by
  intro q
  induction q with
  | zero =>
    intro x2 hx2 x3 hx3 s9 w4 e5 e6 e7 e8
    exact ev_w_none
  | succ q ih => exact jbt_316_8 d hd Q a0 ha0   _ ih
/-- MendBenchModel.marksEnds(I)V -/
def jm_316 (Q : Nat) (a0 : Int) (S : ev_St) : Option ((Unit) × ev_St) := ev_ck (210 * a0) fun x1 => jl_316_8 Q a0  Q x1 0 S
theorem jt_316 (d : Nat) (hd : 1 ≤ d) (Q : Nat) (a0 : Int) (ha0 : ev_rng a0) (S : ev_St) (x : Unit) (S' : ev_St) (hJ : jm_316 Q a0 S = some (x, S')) : ev_Ref d 316 [.ref 621, .int (Int32.ofInt a0)] S (ev_eU x) S' (ev_PU x) := by
  obtain ⟨d, rfl⟩ : ∃ e, d = e + 1 := ⟨d - 1, by omega⟩
  refine ev_ref_of (P := ev_PU) (lv := [(0, .ref 621), (1, .int (Int32.ofInt a0))]) (by decide +kernel) (by (try simp only [ev_sum, ev_nv_cat]); first | done | rfl) (by (try simp only [lv_args, ev_nv_cat]); first | done | rfl) ?_ x S' hJ
  unfold jm_316
  refine ev_r_sipush (pc := 0) (k := 210) (by decide +kernel) (by decide +kernel) ?_
  refine ev_r_iload_n (pc := 3) (k := 1) (v := Int32.ofInt a0) (by decide +kernel) (by rfl) ?_
  refine ev_r_imul (pc := 4) (by decide +kernel) ?_
  intro x1 hx1
  refine ev_r_istore_n (pc := 5) (k := 2) (by decide +kernel) (by decide +kernel) rfl ?_
  refine ev_r_iconst (pc := 6) (k := 0) (by decide +kernel) ?_
  refine ev_r_istore_n (pc := 7) (k := 3) (by decide +kernel) (by decide +kernel) rfl ?_
  exact jlt_316_8 d hd Q a0 ha0   Q x1 hx1 0 (by decide) S _ (by exact (ev_l1 (ev_l1 (by rfl) (by decide) (by decide)) (by decide) (by decide))) (by exact (ev_l1 (ev_lk_st1 (by rfl) (by decide) rfl) (by decide) (by decide))) (by exact (ev_lk_st1 ev_lk_st1_self (by decide) rfl)) (by exact ev_lk_st1_self)
def jb_317_17 (Q : Nat) (a2 : Int)  (K17 : Int → Int → ev_St → Option ((Unit) × ev_St)) (x2 : Int) (x3 : Int) (s9 : ev_St) : Option ((Unit) × ev_St) := if x3 ≤ 0 then (some ((), s9)) else (ev_ck (x3 + (-1)) fun x11 => ev_if ((0 : Int) ≤ x11 ∧ x11 < (ev_aln 670 : Int)) (ev_b (s9.1 670 (Int.toNat x11)) fun x12 => ev_if ((0 : Int) ≤ x12 ∧ x12 < (ev_aln 669 : Int)) (ev_b (s9.1 669 (Int.toNat x12)) fun x13 => ev_jn (fun (x14 : Int) (s20 : ev_St) => K17 x2 x14 s20) fun K168 => if x13 ≠ 0 then (K168 x11 s9) else (ev_if ((0 : Int) ≤ x12 ∧ x12 < (ev_aln 669 : Int)) (ev_b (ev_pI s9 669 (Int.toNat x12) 1) fun s22 => ev_ck (x2 + x12) fun x23 => ev_if ((0 : Int) ≤ x23 ∧ x23 < (ev_aln 662 : Int)) (ev_b (s22.1 662 (Int.toNat x23)) fun x24 => ev_jn (fun  (s31 : ev_St) => ev_b (s31.1 621 68) fun x32 => ev_if ((0 : Int) ≤ x32 ∧ x32 < (ev_aln 674 : Int)) (ev_b (ev_pI s31 674 (Int.toNat x32) x12) fun s33 => ev_b (s33.1 621 68) fun x34 => ev_if ((0 : Int) ≤ x34 ∧ x34 < (ev_aln 675 : Int)) (ev_b (ev_pI s33 675 (Int.toNat x34) a2) fun s35 => ev_b (s35.1 621 68) fun x36 => ev_ck (x36 + 1) fun x37 => ev_b (ev_pI s35 621 68 x37) fun s38 => K168 x11 s38))) fun K75 => if x24 = 0 then (K75  s22) else (if x24 ≠ 5 then (ev_jn (fun (x41 : Int) (s49 : ev_St) => ev_jn (fun (x52 : Int) (x51 : Int) (r50 : Nat) (s58 : ev_St) => ev_if ((0 : Int) ≤ x51 ∧ x51 < (ev_aln r50 : Int)) (ev_b (ev_pI s58 r50 (Int.toNat x51) x52) fun s59 => ev_ck (x41 + 1) fun x60 => K168 x60 s59)) fun K164 => if x24 ≠ 4 then (ev_ck (x2 + x12) fun x62 => ev_if ((0 : Int) ≤ x62 ∧ x62 < (ev_aln 663 : Int)) (ev_b (s49.1 663 (Int.toNat x62)) fun x63 => K164 x63 x41 670 s49)) else (ev_ck (x12 + 1) fun x64 => K164 x64 x41 670 s49)) fun K135 => if x24 ≠ 2 then (K135 x11 s22) else (ev_ck (x2 + x12) fun x66 => ev_if ((0 : Int) ≤ x66 ∧ x66 < (ev_aln 664 : Int)) (ev_b (s22.1 664 (Int.toNat x66)) fun x67 => ev_if ((0 : Int) ≤ x11 ∧ x11 < (ev_aln 670 : Int)) (ev_b (ev_pI s22 670 (Int.toNat x11) x67) fun s68 => ev_ck (x11 + 1) fun x69 => K135 x69 s68)))) else (K75  s22))))))))
def jl_317_17 (Q : Nat) (a2 : Int)  : Nat → Int → Int → ev_St → Option ((Unit) × ev_St)
  | 0 => fun _ _ _ => none
  | q + 1 => jb_317_17 Q a2  (jl_317_17 Q a2  q)
theorem jbt_317_17 (d : Nat) (hd : 1 ≤ d + 1) (Q : Nat) (a2 : Int) (ha2 : ev_rng a2)   (K17 : Int → Int → ev_St → Option ((Unit) × ev_St)) (hK17 : ∀ (x2 : Int) (hx2 : ev_rng x2), ∀ (x3 : Int) (hx3 : ev_rng x3), ∀ (s9 : ev_St) (w4 : List (Nat × Value)), ev_lk w4 0 = some (.ref 621) → ev_lk w4 3 = some (.int (Int32.ofInt a2)) → ev_lk w4 4 = some (.int (Int32.ofInt x2)) → ev_lk w4 5 = some (.int (Int32.ofInt x3)) → ev_w none (ev_Mof 317) d 17 w4 [] s9 (K17 x2 x3 s9) ev_eU ev_PU) : ∀ (x2 : Int) (hx2 : ev_rng x2), ∀ (x3 : Int) (hx3 : ev_rng x3), ∀ (s9 : ev_St) (w4 : List (Nat × Value)), ev_lk w4 0 = some (.ref 621) → ev_lk w4 3 = some (.int (Int32.ofInt a2)) → ev_lk w4 4 = some (.int (Int32.ofInt x2)) → ev_lk w4 5 = some (.int (Int32.ofInt x3)) → ev_w none (ev_Mof 317) d 17 w4 [] s9 (jb_317_17 Q a2  K17 x2 x3 s9) ev_eU ev_PU := by
  intro x2 hx2 x3 hx3 s9 w4 e5 e6 e7 e8
  unfold jb_317_17
  refine ev_r_iload (pc := 17) (k := 5) (v := Int32.ofInt x3) (by decide +kernel) (by exact e8) ?_
  refine ev_r_if (pc := 19) (q := .le) (o := 152) (t := 171) (c := x3 ≤ 0) (by decide +kernel) (ev_k_le hx3 ev_rng0) (by decide +kernel) ?_ ?_
  · intro c10
    exact ev_r_return (pc := 171) (x := ()) trivial (by decide +kernel) (by decide +kernel) rfl
  · intro c10
    refine ev_r_iinc (pc := 22) (k := 5) (c := -1) (x := x3) (by decide +kernel) (by decide +kernel) (by exact e8) (fun _ => rfl) ?_
    intro x11 hx11
    refine ev_r_aload_n (pc := 25) (k := 0) (v := .ref 621) trivial (by decide +kernel) (by exact (ev_l1 e5 (by decide) (by decide))) ?_
    refine ev_r_getC (pc := 26) (y := 157) (ci := 13) (f := 64) (fin := 1) (k' := 670) (by decide +kernel) (by decide +kernel) (by exact ev_ob_621) rfl rfl ?_
    refine ev_r_iload (pc := 29) (k := 5) (v := Int32.ofInt x11) (by decide +kernel) (by exact ev_lk_st1_self) ?_
    refine ev_r_iald (pc := 31) hx11 (by decide +kernel) (by exact ev_ab_670) ?_
    intro x12 hx12
    refine ev_r_istore (pc := 32) (k := 6) (by decide +kernel) (by decide +kernel) rfl ?_
    refine ev_r_aload_n (pc := 34) (k := 0) (v := .ref 621) trivial (by decide +kernel) (by exact (ev_l1 (ev_l1 e5 (by decide) (by decide)) (by decide) (by decide))) ?_
    refine ev_r_getC (pc := 35) (y := 153) (ci := 13) (f := 63) (fin := 1) (k' := 669) (by decide +kernel) (by decide +kernel) (by exact ev_ob_621) rfl rfl ?_
    refine ev_r_iload (pc := 38) (k := 6) (v := Int32.ofInt x12) (by decide +kernel) (by exact ev_lk_st1_self) ?_
    refine ev_r_bald (pc := 40) (ty := .boolean) (Or.inr rfl) hx12 (by decide +kernel) (by exact ev_ab_669) ?_
    intro x13 hx13
    refine ev_r_jn (Q := fun K => ∀ (x14 : Int) (hx14 : ev_rng x14), ∀ (s20 : ev_St) (w15 : List (Nat × Value)), ev_lk w15 0 = some (.ref 621) → ev_lk w15 3 = some (.int (Int32.ofInt a2)) → ev_lk w15 4 = some (.int (Int32.ofInt x2)) → ev_lk w15 5 = some (.int (Int32.ofInt x14)) → ev_w none (ev_Mof 317) d 168 w15 [] s20 (K x14 s20) ev_eU ev_PU) ?_ ?_
    · intro x14 hx14 s20 w15 e16 e17 e18 e19
      refine ev_r_goto (pc := 168) (o := (-151)) (t := 17) (by decide +kernel) (by decide +kernel) ?_
      exact hK17 x2 hx2 x14 hx14 s20 _ (by exact e16) (by exact e17) (by exact e18) (by exact e19)
    · intro K168 hK168
      refine ev_r_if (pc := 41) (q := .ne) (o := 127) (t := 168) (c := x13 ≠ 0) (by decide +kernel) (ev_k_ne hx13 ev_rng0) (by decide +kernel) ?_ ?_
      · intro c21
        exact hK168 x11 hx11 s9 _ (by exact (ev_l1 (ev_l1 e5 (by decide) (by decide)) (by decide) (by decide))) (by exact (ev_l1 (ev_l1 e6 (by decide) (by decide)) (by decide) (by decide))) (by exact (ev_l1 (ev_lk_st1 e7 (by decide) rfl) (by decide) (by decide))) (by exact (ev_lk_st1 ev_lk_st1_self (by decide) rfl))
      · intro c21
        refine ev_r_aload_n (pc := 44) (k := 0) (v := .ref 621) trivial (by decide +kernel) (by exact (ev_l1 (ev_l1 e5 (by decide) (by decide)) (by decide) (by decide))) ?_
        refine ev_r_getC (pc := 45) (y := 153) (ci := 13) (f := 63) (fin := 1) (k' := 669) (by decide +kernel) (by decide +kernel) (by exact ev_ob_621) rfl rfl ?_
        refine ev_r_iload (pc := 48) (k := 6) (v := Int32.ofInt x12) (by decide +kernel) (by exact ev_lk_st1_self) ?_
        refine ev_r_iconst (pc := 50) (k := 1) (by decide +kernel) ?_
        refine ev_r_bast (pc := 51) (ty := .boolean) (Or.inr rfl) (ev_nar_bl (by decide : ev_bl 1)) (by decide) hx12 (by decide +kernel) (by exact ev_ab_669) ?_
        intro s22
        refine ev_r_aload_n (pc := 52) (k := 0) (v := .ref 621) trivial (by decide +kernel) (by exact (ev_l1 (ev_l1 e5 (by decide) (by decide)) (by decide) (by decide))) ?_
        refine ev_r_getC (pc := 53) (y := 132) (ci := 13) (f := 55) (fin := 1) (k' := 662) (by decide +kernel) (by decide +kernel) (by exact ev_ob_621) rfl rfl ?_
        refine ev_r_iload (pc := 56) (k := 4) (v := Int32.ofInt x2) (by decide +kernel) (by exact (ev_l1 (ev_lk_st1 e7 (by decide) rfl) (by decide) (by decide))) ?_
        refine ev_r_iload (pc := 58) (k := 6) (v := Int32.ofInt x12) (by decide +kernel) (by exact ev_lk_st1_self) ?_
        refine ev_r_iadd (pc := 60) (by decide +kernel) ?_
        intro x23 hx23
        refine ev_r_iald (pc := 61) hx23 (by decide +kernel) (by exact ev_ab_662) ?_
        intro x24 hx24
        refine ev_r_istore (pc := 62) (k := 7) (by decide +kernel) (by decide +kernel) rfl ?_
        refine ev_r_iload (pc := 64) (k := 7) (v := Int32.ofInt x24) (by decide +kernel) (by exact ev_lk_st1_self) ?_
        refine ev_r_jn (Q := fun K => ∀ (s31 : ev_St) (w25 : List (Nat × Value)), ev_lk w25 0 = some (.ref 621) → ev_lk w25 3 = some (.int (Int32.ofInt a2)) → ev_lk w25 4 = some (.int (Int32.ofInt x2)) → ev_lk w25 5 = some (.int (Int32.ofInt x11)) → ev_lk w25 6 = some (.int (Int32.ofInt x12)) → ev_w none (ev_Mof 317) d 75 w25 [] s31 (K  s31) ev_eU ev_PU) ?_ ?_
        · intro  s31 w25 e26 e27 e28 e29 e30
          refine ev_r_aload_n (pc := 75) (k := 0) (v := .ref 621) trivial (by decide +kernel) (by exact e26) ?_
          refine ev_r_getC (pc := 76) (y := 169) (ci := 13) (f := 69) (fin := 1) (k' := 674) (by decide +kernel) (by decide +kernel) (by exact ev_ob_621) rfl rfl ?_
          refine ev_r_aload_n (pc := 79) (k := 0) (v := .ref 621) trivial (by decide +kernel) (by exact e26) ?_
          refine ev_r_getI (pc := 80) (y := 695) (ci := 13) (f := 68) (fin := 0) (by decide +kernel) (by decide +kernel) (by exact ev_ob_621) rfl ?_
          intro x32 hx32
          refine ev_r_iload (pc := 83) (k := 6) (v := Int32.ofInt x12) (by decide +kernel) (by exact e30) ?_
          refine ev_r_iast (pc := 85) hx12 hx32 (by decide +kernel) (by exact ev_ab_674) ?_
          intro s33
          refine ev_r_aload_n (pc := 86) (k := 0) (v := .ref 621) trivial (by decide +kernel) (by exact e26) ?_
          refine ev_r_getC (pc := 87) (y := 172) (ci := 13) (f := 70) (fin := 1) (k' := 675) (by decide +kernel) (by decide +kernel) (by exact ev_ob_621) rfl rfl ?_
          refine ev_r_aload_n (pc := 90) (k := 0) (v := .ref 621) trivial (by decide +kernel) (by exact e26) ?_
          refine ev_r_getI (pc := 91) (y := 695) (ci := 13) (f := 68) (fin := 0) (by decide +kernel) (by decide +kernel) (by exact ev_ob_621) rfl ?_
          intro x34 hx34
          refine ev_r_iload_n (pc := 94) (k := 3) (v := Int32.ofInt a2) (by decide +kernel) (by exact e27) ?_
          refine ev_r_iast (pc := 95) ha2 hx34 (by decide +kernel) (by exact ev_ab_675) ?_
          intro s35
          refine ev_r_aload_n (pc := 96) (k := 0) (v := .ref 621) trivial (by decide +kernel) (by exact e26) ?_
          refine ev_r_dup (pc := 97) rfl (by decide +kernel) ?_
          refine ev_r_getI (pc := 98) (y := 695) (ci := 13) (f := 68) (fin := 0) (by decide +kernel) (by decide +kernel) (by exact ev_ob_621) rfl ?_
          intro x36 hx36
          refine ev_r_iconst (pc := 101) (k := 1) (by decide +kernel) ?_
          refine ev_r_iadd (pc := 102) (by decide +kernel) ?_
          intro x37 hx37
          refine ev_r_putI (pc := 103) (y := 695) (ci := 13) (f := 68) hx37 (by decide +kernel) (by decide +kernel) (by exact ev_ob_621) rfl rfl ?_
          intro s38
          refine ev_r_goto (pc := 106) (o := 62) (t := 168) (by decide +kernel) (by decide +kernel) ?_
          exact hK168 x11 hx11 s38 _ (by exact e26) (by exact e27) (by exact e28) (by exact e29)
        · intro K75 hK75
          refine ev_r_if (pc := 66) (q := .eq) (o := 9) (t := 75) (c := x24 = 0) (by decide +kernel) (ev_k_eq hx24 ev_rng0) (by decide +kernel) ?_ ?_
          · intro c39
            exact hK75  s22 _ (by exact (ev_l1 (ev_l1 (ev_l1 e5 (by decide) (by decide)) (by decide) (by decide)) (by decide) (by decide))) (by exact (ev_l1 (ev_l1 (ev_l1 e6 (by decide) (by decide)) (by decide) (by decide)) (by decide) (by decide))) (by exact (ev_l1 (ev_l1 (ev_lk_st1 e7 (by decide) rfl) (by decide) (by decide)) (by decide) (by decide))) (by exact (ev_l1 (ev_lk_st1 ev_lk_st1_self (by decide) rfl) (by decide) (by decide))) (by exact (ev_lk_st1 ev_lk_st1_self (by decide) rfl))
          · intro c39
            refine ev_r_iload (pc := 69) (k := 7) (v := Int32.ofInt x24) (by decide +kernel) (by exact ev_lk_st1_self) ?_
            refine ev_r_iconst (pc := 71) (k := 5) (by decide +kernel) ?_
            refine ev_r_icmp (pc := 72) (q := .ne) (o := 37) (t := 109) (c := x24 ≠ 5) (by decide +kernel) (ev_k_ne hx24 (by decide)) (by decide +kernel) ?_ ?_
            · intro c40
              refine ev_r_iload (pc := 109) (k := 7) (v := Int32.ofInt x24) (by decide +kernel) (by exact ev_lk_st1_self) ?_
              refine ev_r_iconst (pc := 111) (k := 2) (by decide +kernel) ?_
              refine ev_r_jn (Q := fun K => ∀ (x41 : Int) (hx41 : ev_rng x41), ∀ (s49 : ev_St) (w42 : List (Nat × Value)), ev_lk w42 0 = some (.ref 621) → ev_lk w42 3 = some (.int (Int32.ofInt a2)) → ev_lk w42 4 = some (.int (Int32.ofInt x2)) → ev_lk w42 5 = some (.int (Int32.ofInt x41)) → ev_lk w42 6 = some (.int (Int32.ofInt x12)) → ev_lk w42 7 = some (.int (Int32.ofInt x24)) → ev_w none (ev_Mof 317) d 135 w42 [] s49 (K x41 s49) ev_eU ev_PU) ?_ ?_
              · intro x41 hx41 s49 w42 e43 e44 e45 e46 e47 e48
                refine ev_r_aload_n (pc := 135) (k := 0) (v := .ref 621) trivial (by decide +kernel) (by exact e43) ?_
                refine ev_r_getC (pc := 136) (y := 157) (ci := 13) (f := 64) (fin := 1) (k' := 670) (by decide +kernel) (by decide +kernel) (by exact ev_ob_621) rfl rfl ?_
                refine ev_r_iload (pc := 139) (k := 5) (v := Int32.ofInt x41) (by decide +kernel) (by exact e46) ?_
                refine ev_r_iload (pc := 141) (k := 7) (v := Int32.ofInt x24) (by decide +kernel) (by exact e48) ?_
                refine ev_r_iconst (pc := 143) (k := 4) (by decide +kernel) ?_
                refine ev_r_jn (Q := fun K => ∀ (x52 : Int) (hx52 : ev_rng x52), ∀ (x51 : Int) (hx51 : ev_rng x51), ∀ (r50 : Nat) (hr50 : ev_isAb r50 1 .int = true), ∀ (s58 : ev_St) (w53 : List (Nat × Value)), ev_lk w53 0 = some (.ref 621) → ev_lk w53 3 = some (.int (Int32.ofInt a2)) → ev_lk w53 4 = some (.int (Int32.ofInt x2)) → ev_lk w53 5 = some (.int (Int32.ofInt x41)) → ev_w none (ev_Mof 317) d 164 w53 [.int (Int32.ofInt x52), .int (Int32.ofInt x51), .ref r50] s58 (K x52 x51 r50 s58) ev_eU ev_PU) ?_ ?_
                · intro x52 hx52 x51 hx51 r50 hr50 s58 w53 e54 e55 e56 e57
                  refine ev_r_iast (pc := 164) hx52 hx51 (by decide +kernel) (by exact hr50) ?_
                  intro s59
                  refine ev_r_iinc (pc := 165) (k := 5) (c := 1) (x := x41) (by decide +kernel) (by decide +kernel) (by exact e57) (fun _ => rfl) ?_
                  intro x60 hx60
                  exact hK168 x60 hx60 s59 _ (by exact (ev_l1 e54 (by decide) (by decide))) (by exact (ev_l1 e55 (by decide) (by decide))) (by exact (ev_lk_st1 e56 (by decide) rfl)) (by exact ev_lk_st1_self)
                · intro K164 hK164
                  refine ev_r_icmp (pc := 144) (q := .ne) (o := 10) (t := 154) (c := x24 ≠ 4) (by decide +kernel) (ev_k_ne hx24 (by decide)) (by decide +kernel) ?_ ?_
                  · intro c61
                    refine ev_r_aload_n (pc := 154) (k := 0) (v := .ref 621) trivial (by decide +kernel) (by exact e43) ?_
                    refine ev_r_getC (pc := 155) (y := 135) (ci := 13) (f := 56) (fin := 1) (k' := 663) (by decide +kernel) (by decide +kernel) (by exact ev_ob_621) rfl rfl ?_
                    refine ev_r_iload (pc := 158) (k := 4) (v := Int32.ofInt x2) (by decide +kernel) (by exact e45) ?_
                    refine ev_r_iload (pc := 160) (k := 6) (v := Int32.ofInt x12) (by decide +kernel) (by exact e47) ?_
                    refine ev_r_iadd (pc := 162) (by decide +kernel) ?_
                    intro x62 hx62
                    refine ev_r_iald (pc := 163) hx62 (by decide +kernel) (by exact ev_ab_663) ?_
                    intro x63 hx63
                    exact hK164 x63 hx63 x41 hx41 670 ev_ab_670 s49 _ (by exact e43) (by exact e44) (by exact e45) (by exact e46)
                  · intro c61
                    refine ev_r_iload (pc := 147) (k := 6) (v := Int32.ofInt x12) (by decide +kernel) (by exact e47) ?_
                    refine ev_r_iconst (pc := 149) (k := 1) (by decide +kernel) ?_
                    refine ev_r_iadd (pc := 150) (by decide +kernel) ?_
                    intro x64 hx64
                    refine ev_r_goto (pc := 151) (o := 13) (t := 164) (by decide +kernel) (by decide +kernel) ?_
                    exact hK164 x64 hx64 x41 hx41 670 ev_ab_670 s49 _ (by exact e43) (by exact e44) (by exact e45) (by exact e46)
              · intro K135 hK135
                refine ev_r_icmp (pc := 112) (q := .ne) (o := 23) (t := 135) (c := x24 ≠ 2) (by decide +kernel) (ev_k_ne hx24 (by decide)) (by decide +kernel) ?_ ?_
                · intro c65
                  exact hK135 x11 hx11 s22 _ (by exact (ev_l1 (ev_l1 (ev_l1 e5 (by decide) (by decide)) (by decide) (by decide)) (by decide) (by decide))) (by exact (ev_l1 (ev_l1 (ev_l1 e6 (by decide) (by decide)) (by decide) (by decide)) (by decide) (by decide))) (by exact (ev_l1 (ev_l1 (ev_lk_st1 e7 (by decide) rfl) (by decide) (by decide)) (by decide) (by decide))) (by exact (ev_l1 (ev_lk_st1 ev_lk_st1_self (by decide) rfl) (by decide) (by decide))) (by exact (ev_lk_st1 ev_lk_st1_self (by decide) rfl)) (by exact ev_lk_st1_self)
                · intro c65
                  refine ev_r_aload_n (pc := 115) (k := 0) (v := .ref 621) trivial (by decide +kernel) (by exact (ev_l1 (ev_l1 (ev_l1 e5 (by decide) (by decide)) (by decide) (by decide)) (by decide) (by decide))) ?_
                  refine ev_r_getC (pc := 116) (y := 157) (ci := 13) (f := 64) (fin := 1) (k' := 670) (by decide +kernel) (by decide +kernel) (by exact ev_ob_621) rfl rfl ?_
                  refine ev_r_iload (pc := 119) (k := 5) (v := Int32.ofInt x11) (by decide +kernel) (by exact (ev_l1 (ev_lk_st1 ev_lk_st1_self (by decide) rfl) (by decide) (by decide))) ?_
                  refine ev_r_aload_n (pc := 121) (k := 0) (v := .ref 621) trivial (by decide +kernel) (by exact (ev_l1 (ev_l1 (ev_l1 e5 (by decide) (by decide)) (by decide) (by decide)) (by decide) (by decide))) ?_
                  refine ev_r_getC (pc := 122) (y := 138) (ci := 13) (f := 57) (fin := 1) (k' := 664) (by decide +kernel) (by decide +kernel) (by exact ev_ob_621) rfl rfl ?_
                  refine ev_r_iload (pc := 125) (k := 4) (v := Int32.ofInt x2) (by decide +kernel) (by exact (ev_l1 (ev_l1 (ev_lk_st1 e7 (by decide) rfl) (by decide) (by decide)) (by decide) (by decide))) ?_
                  refine ev_r_iload (pc := 127) (k := 6) (v := Int32.ofInt x12) (by decide +kernel) (by exact (ev_lk_st1 ev_lk_st1_self (by decide) rfl)) ?_
                  refine ev_r_iadd (pc := 129) (by decide +kernel) ?_
                  intro x66 hx66
                  refine ev_r_iald (pc := 130) hx66 (by decide +kernel) (by exact ev_ab_664) ?_
                  intro x67 hx67
                  refine ev_r_iast (pc := 131) hx67 hx11 (by decide +kernel) (by exact ev_ab_670) ?_
                  intro s68
                  refine ev_r_iinc (pc := 132) (k := 5) (c := 1) (x := x11) (by decide +kernel) (by decide +kernel) (by exact (ev_l1 (ev_lk_st1 ev_lk_st1_self (by decide) rfl) (by decide) (by decide))) (fun _ => rfl) ?_
                  intro x69 hx69
                  exact hK135 x69 hx69 s68 _ (by exact (ev_l1 (ev_l1 (ev_l1 (ev_l1 e5 (by decide) (by decide)) (by decide) (by decide)) (by decide) (by decide)) (by decide) (by decide))) (by exact (ev_l1 (ev_l1 (ev_l1 (ev_l1 e6 (by decide) (by decide)) (by decide) (by decide)) (by decide) (by decide)) (by decide) (by decide))) (by exact (ev_lk_st1 (ev_l1 (ev_l1 (ev_lk_st1 e7 (by decide) rfl) (by decide) (by decide)) (by decide) (by decide)) (by decide) rfl)) (by exact ev_lk_st1_self) (by exact (ev_l1 (ev_lk_st1 ev_lk_st1_self (by decide) rfl) (by decide) (by decide))) (by exact (ev_l1 ev_lk_st1_self (by decide) (by decide)))
            · intro c40
              exact hK75  s22 _ (by exact (ev_l1 (ev_l1 (ev_l1 e5 (by decide) (by decide)) (by decide) (by decide)) (by decide) (by decide))) (by exact (ev_l1 (ev_l1 (ev_l1 e6 (by decide) (by decide)) (by decide) (by decide)) (by decide) (by decide))) (by exact (ev_l1 (ev_l1 (ev_lk_st1 e7 (by decide) rfl) (by decide) (by decide)) (by decide) (by decide))) (by exact (ev_l1 (ev_lk_st1 ev_lk_st1_self (by decide) rfl) (by decide) (by decide))) (by exact (ev_lk_st1 ev_lk_st1_self (by decide) rfl))
theorem jlt_317_17 (d : Nat) (hd : 1 ≤ d + 1) (Q : Nat) (a2 : Int) (ha2 : ev_rng a2)   : ∀ q : Nat, ∀ (x2 : Int) (hx2 : ev_rng x2), ∀ (x3 : Int) (hx3 : ev_rng x3), ∀ (s9 : ev_St) (w4 : List (Nat × Value)), ev_lk w4 0 = some (.ref 621) → ev_lk w4 3 = some (.int (Int32.ofInt a2)) → ev_lk w4 4 = some (.int (Int32.ofInt x2)) → ev_lk w4 5 = some (.int (Int32.ofInt x3)) → ev_w none (ev_Mof 317) d 17 w4 [] s9 (jl_317_17 Q a2  q x2 x3 s9) ev_eU ev_PU := by
  intro q
  induction q with
  | zero =>
    intro x2 hx2 x3 hx3 s9 w4 e5 e6 e7 e8
    exact ev_w_none
  | succ q ih => exact jbt_317_17 d hd Q a2 ha2   _ ih
/-- MendBenchModel.addsThread(III)V -/
def jm_317 (Q : Nat) (a0 : Int) (a1 : Int) (a2 : Int) (S : ev_St) : Option ((Unit) × ev_St) := ev_ck (210 * a0) fun x1 => ev_if ((0 : Int) ≤ 0 ∧ 0 < (ev_aln 670 : Int)) (ev_b (ev_pI S 670 (Int.toNat 0) a1) fun s70 => jl_317_17 Q a2  Q x1 1 s70)
theorem jt_317 (d : Nat) (hd : 1 ≤ d) (Q : Nat) (a0 : Int) (a1 : Int) (a2 : Int) (ha0 : ev_rng a0) (ha1 : ev_rng a1) (ha2 : ev_rng a2) (S : ev_St) (x : Unit) (S' : ev_St) (hJ : jm_317 Q a0 a1 a2 S = some (x, S')) : ev_Ref d 317 [.ref 621, .int (Int32.ofInt a0), .int (Int32.ofInt a1), .int (Int32.ofInt a2)] S (ev_eU x) S' (ev_PU x) := by
  obtain ⟨d, rfl⟩ : ∃ e, d = e + 1 := ⟨d - 1, by omega⟩
  refine ev_ref_of (P := ev_PU) (lv := [(0, .ref 621), (1, .int (Int32.ofInt a0)), (2, .int (Int32.ofInt a1)), (3, .int (Int32.ofInt a2))]) (by decide +kernel) (by (try simp only [ev_sum, ev_nv_cat]); first | done | rfl) (by (try simp only [lv_args, ev_nv_cat]); first | done | rfl) ?_ x S' hJ
  unfold jm_317
  refine ev_r_sipush (pc := 0) (k := 210) (by decide +kernel) (by decide +kernel) ?_
  refine ev_r_iload_n (pc := 3) (k := 1) (v := Int32.ofInt a0) (by decide +kernel) (by rfl) ?_
  refine ev_r_imul (pc := 4) (by decide +kernel) ?_
  intro x1 hx1
  refine ev_r_istore (pc := 5) (k := 4) (by decide +kernel) (by decide +kernel) rfl ?_
  refine ev_r_iconst (pc := 7) (k := 1) (by decide +kernel) ?_
  refine ev_r_istore (pc := 8) (k := 5) (by decide +kernel) (by decide +kernel) rfl ?_
  refine ev_r_aload_n (pc := 10) (k := 0) (v := .ref 621) trivial (by decide +kernel) (by exact (ev_l1 (ev_l1 (by rfl) (by decide) (by decide)) (by decide) (by decide))) ?_
  refine ev_r_getC (pc := 11) (y := 157) (ci := 13) (f := 64) (fin := 1) (k' := 670) (by decide +kernel) (by decide +kernel) (by exact ev_ob_621) rfl rfl ?_
  refine ev_r_iconst (pc := 14) (k := 0) (by decide +kernel) ?_
  refine ev_r_iload_n (pc := 15) (k := 2) (v := Int32.ofInt a1) (by decide +kernel) (by exact (ev_l1 (ev_l1 (by rfl) (by decide) (by decide)) (by decide) (by decide))) ?_
  refine ev_r_iast (pc := 16) ha1 (by decide) (by decide +kernel) (by exact ev_ab_670) ?_
  intro s70
  exact jlt_317_17 d hd Q a2 ha2   Q x1 hx1 1 (by decide) s70 _ (by exact (ev_l1 (ev_l1 (by rfl) (by decide) (by decide)) (by decide) (by decide))) (by exact (ev_l1 (ev_lk_st1 (by rfl) (by decide) rfl) (by decide) (by decide))) (by exact (ev_lk_st1 ev_lk_st1_self (by decide) rfl)) (by exact ev_lk_st1_self)
def jb_318_130 (Q : Nat) (a0 : Int) (x2 : Int) (x5 : Int) (K15 : Int → Int → Int → Int → ev_St → Option ((Int) × ev_St)) (K130 : Int → Int → Int → Int → ev_St → Option ((Int) × ev_St)) (x47 : Int) (x48 : Int) (x49 : Int) (x50 : Int) (s60 : ev_St) : Option ((Int) × ev_St) := if x49 ≤ x50 then (ev_ck (x5 + 1) fun x62 => K15 x2 x47 x48 x62 s60) else (ev_if ((0 : Int) ≤ x50 ∧ x50 < (ev_aln 674 : Int)) (ev_b (s60.1 674 (Int.toNat x50)) fun x63 => ev_ck (210 * x2) fun x64 => ev_ck (x64 + x63) fun x65 => ev_if ((0 : Int) ≤ x65 ∧ x65 < (ev_aln 663 : Int)) (ev_b (s60.1 663 (Int.toNat x65)) fun x66 => ev_ck (210 * x2) fun x67 => ev_ck (x67 + x63) fun x68 => ev_if ((0 : Int) ≤ x68 ∧ x68 < (ev_aln 662 : Int)) (ev_b (s60.1 662 (Int.toNat x68)) fun x69 => ev_jn (fun (x70 : Int) (x71 : Int) (x72 : Int) (s82 : ev_St) => ev_ck (x50 + 1) fun x83 => K130 x70 x71 x72 x83 s82) fun K277 => if x69 ≠ 5 then (ev_if ((0 : Int) ≤ a0 ∧ a0 < (ev_aln 721 : Int)) (ev_b (s60.1 721 (Int.toNat a0)) fun x85 => if x85 ≤ x5 then (K277 x47 x48 x49 s60) else (ev_if ((0 : Int) ≤ x66 ∧ x66 < (ev_aln 633 : Int)) (ev_b (s60.2.1 633 (Int.toNat x66)) fun y87 => ev_if ((0 : Int) ≤ x66 ∧ x66 < (ev_aln 634 : Int)) (ev_b (s60.2.1 634 (Int.toNat x66)) fun y88 => ev_ck (80 * a0) fun x89 => ev_ck (x89 + x5) fun x90 => ev_if ((0 : Int) ≤ x90 ∧ x90 < (ev_aln 722 : Int)) (ev_b (s60.1 722 (Int.toNat x90)) fun x91 => ev_bd (jm_244 Q y87 y88 x91 s60) fun x93 s92 => if x93 = 0 then (K277 x47 x48 x49 s92) else (ev_ck (x63 + 1) fun x95 => ev_if ((0 : Int) ≤ x48 ∧ x48 < (ev_aln 676 : Int)) (ev_b (ev_pI s92 676 (Int.toNat x48) x95) fun s96 => ev_if ((0 : Int) ≤ x50 ∧ x50 < (ev_aln 675 : Int)) (ev_b (s96.1 675 (Int.toNat x50)) fun x97 => ev_if ((0 : Int) ≤ x48 ∧ x48 < (ev_aln 677 : Int)) (ev_b (ev_pI s96 677 (Int.toNat x48) x97) fun s98 => ev_ck (x48 + 1) fun x99 => K277 x47 x99 x49 s98)))))))))) else (ev_if ((0 : Int) ≤ x50 ∧ x50 < (ev_aln 675 : Int)) (ev_b (s60.1 675 (Int.toNat x50)) fun x100 => ev_ck (1000 * x100) fun x101 => ev_ck (x101 + x5) fun x102 => ev_b (ev_pI s60 621 68 x50) fun s103 => K277 x102 x48 x50 s103))))))
def jl_318_130 (Q : Nat) (a0 : Int) (x2 : Int) (x5 : Int) (K15 : Int → Int → Int → Int → ev_St → Option ((Int) × ev_St)) : Nat → Int → Int → Int → Int → ev_St → Option ((Int) × ev_St)
  | 0 => fun _ _ _ _ _ => none
  | q + 1 => jb_318_130 Q a0 x2 x5 K15 (jl_318_130 Q a0 x2 x5 K15 q)
theorem jbt_318_130 (d : Nat) (hd : 3 ≤ d + 1) (Q : Nat) (a0 : Int) (x2 : Int) (x5 : Int) (ha0 : ev_rng a0) (hx2 : ev_rng x2) (hx5 : ev_rng x5) (K15 : Int → Int → Int → Int → ev_St → Option ((Int) × ev_St)) (hK15 : ∀ (x2 : Int) (hx2 : ev_rng x2), ∀ (x3 : Int) (hx3 : ev_rng x3), ∀ (x4 : Int) (hx4 : ev_rng x4), ∀ (x5 : Int) (hx5 : ev_rng x5), ∀ (s13 : ev_St) (w6 : List (Nat × Value)), ev_lk w6 0 = some (.ref 621) → ev_lk w6 1 = some (.int (Int32.ofInt a0)) → ev_lk w6 2 = some (.int (Int32.ofInt x2)) → ev_lk w6 3 = some (.int (Int32.ofInt x3)) → ev_lk w6 4 = some (.int (Int32.ofInt x4)) → ev_lk w6 5 = some (.int (Int32.ofInt x5)) → ev_w none (ev_Mof 318) d 15 w6 [] s13 (K15 x2 x3 x4 x5 s13) ev_eI ev_rng) (K130 : Int → Int → Int → Int → ev_St → Option ((Int) × ev_St)) (hK130 : ∀ (x47 : Int) (hx47 : ev_rng x47), ∀ (x48 : Int) (hx48 : ev_rng x48), ∀ (x49 : Int) (hx49 : ev_rng x49), ∀ (x50 : Int) (hx50 : ev_rng x50), ∀ (s60 : ev_St) (w51 : List (Nat × Value)), ev_lk w51 0 = some (.ref 621) → ev_lk w51 1 = some (.int (Int32.ofInt a0)) → ev_lk w51 2 = some (.int (Int32.ofInt x2)) → ev_lk w51 3 = some (.int (Int32.ofInt x47)) → ev_lk w51 4 = some (.int (Int32.ofInt x48)) → ev_lk w51 5 = some (.int (Int32.ofInt x5)) → ev_lk w51 6 = some (.int (Int32.ofInt x49)) → ev_lk w51 7 = some (.int (Int32.ofInt x50)) → ev_w none (ev_Mof 318) d 130 w51 [] s60 (K130 x47 x48 x49 x50 s60) ev_eI ev_rng) : ∀ (x47 : Int) (hx47 : ev_rng x47), ∀ (x48 : Int) (hx48 : ev_rng x48), ∀ (x49 : Int) (hx49 : ev_rng x49), ∀ (x50 : Int) (hx50 : ev_rng x50), ∀ (s60 : ev_St) (w51 : List (Nat × Value)), ev_lk w51 0 = some (.ref 621) → ev_lk w51 1 = some (.int (Int32.ofInt a0)) → ev_lk w51 2 = some (.int (Int32.ofInt x2)) → ev_lk w51 3 = some (.int (Int32.ofInt x47)) → ev_lk w51 4 = some (.int (Int32.ofInt x48)) → ev_lk w51 5 = some (.int (Int32.ofInt x5)) → ev_lk w51 6 = some (.int (Int32.ofInt x49)) → ev_lk w51 7 = some (.int (Int32.ofInt x50)) → ev_w none (ev_Mof 318) d 130 w51 [] s60 (jb_318_130 Q a0 x2 x5 K15 K130 x47 x48 x49 x50 s60) ev_eI ev_rng := by
  intro x47 hx47 x48 hx48 x49 hx49 x50 hx50 s60 w51 e52 e53 e54 e55 e56 e57 e58 e59
  unfold jb_318_130
  refine ev_r_iload (pc := 130) (k := 7) (v := Int32.ofInt x50) (by decide +kernel) (by exact e59) ?_
  refine ev_r_iload (pc := 132) (k := 6) (v := Int32.ofInt x49) (by decide +kernel) (by exact e58) ?_
  refine ev_r_icmp (pc := 134) (q := .ge) (o := 149) (t := 283) (c := x49 ≤ x50) (by decide +kernel) (ev_k_ge hx50 hx49) (by decide +kernel) ?_ ?_
  · intro c61
    refine ev_r_iinc (pc := 283) (k := 5) (c := 1) (x := x5) (by decide +kernel) (by decide +kernel) (by exact e57) (fun _ => rfl) ?_
    intro x62 hx62
    refine ev_r_goto (pc := 286) (o := (-271)) (t := 15) (by decide +kernel) (by decide +kernel) ?_
    exact hK15 x2 hx2 x47 hx47 x48 hx48 x62 hx62 s60 _ (by exact (ev_l1 e52 (by decide) (by decide))) (by exact (ev_l1 e53 (by decide) (by decide))) (by exact (ev_l1 e54 (by decide) (by decide))) (by exact (ev_l1 e55 (by decide) (by decide))) (by exact (ev_lk_st1 e56 (by decide) rfl)) (by exact ev_lk_st1_self)
  · intro c61
    refine ev_r_aload_n (pc := 137) (k := 0) (v := .ref 621) trivial (by decide +kernel) (by exact e52) ?_
    refine ev_r_getC (pc := 138) (y := 169) (ci := 13) (f := 69) (fin := 1) (k' := 674) (by decide +kernel) (by decide +kernel) (by exact ev_ob_621) rfl rfl ?_
    refine ev_r_iload (pc := 141) (k := 7) (v := Int32.ofInt x50) (by decide +kernel) (by exact e59) ?_
    refine ev_r_iald (pc := 143) hx50 (by decide +kernel) (by exact ev_ab_674) ?_
    intro x63 hx63
    refine ev_r_istore (pc := 144) (k := 8) (by decide +kernel) (by decide +kernel) rfl ?_
    refine ev_r_aload_n (pc := 146) (k := 0) (v := .ref 621) trivial (by decide +kernel) (by exact (ev_l1 e52 (by decide) (by decide))) ?_
    refine ev_r_getC (pc := 147) (y := 135) (ci := 13) (f := 56) (fin := 1) (k' := 663) (by decide +kernel) (by decide +kernel) (by exact ev_ob_621) rfl rfl ?_
    refine ev_r_sipush (pc := 150) (k := 210) (by decide +kernel) (by decide +kernel) ?_
    refine ev_r_iload_n (pc := 153) (k := 2) (v := Int32.ofInt x2) (by decide +kernel) (by exact (ev_l1 e54 (by decide) (by decide))) ?_
    refine ev_r_imul (pc := 154) (by decide +kernel) ?_
    intro x64 hx64
    refine ev_r_iload (pc := 155) (k := 8) (v := Int32.ofInt x63) (by decide +kernel) (by exact ev_lk_st1_self) ?_
    refine ev_r_iadd (pc := 157) (by decide +kernel) ?_
    intro x65 hx65
    refine ev_r_iald (pc := 158) hx65 (by decide +kernel) (by exact ev_ab_663) ?_
    intro x66 hx66
    refine ev_r_istore (pc := 159) (k := 9) (by decide +kernel) (by decide +kernel) rfl ?_
    refine ev_r_aload_n (pc := 161) (k := 0) (v := .ref 621) trivial (by decide +kernel) (by exact (ev_l1 (ev_l1 e52 (by decide) (by decide)) (by decide) (by decide))) ?_
    refine ev_r_getC (pc := 162) (y := 132) (ci := 13) (f := 55) (fin := 1) (k' := 662) (by decide +kernel) (by decide +kernel) (by exact ev_ob_621) rfl rfl ?_
    refine ev_r_sipush (pc := 165) (k := 210) (by decide +kernel) (by decide +kernel) ?_
    refine ev_r_iload_n (pc := 168) (k := 2) (v := Int32.ofInt x2) (by decide +kernel) (by exact (ev_l1 (ev_l1 e54 (by decide) (by decide)) (by decide) (by decide))) ?_
    refine ev_r_imul (pc := 169) (by decide +kernel) ?_
    intro x67 hx67
    refine ev_r_iload (pc := 170) (k := 8) (v := Int32.ofInt x63) (by decide +kernel) (by exact (ev_lk_st1 ev_lk_st1_self (by decide) rfl)) ?_
    refine ev_r_iadd (pc := 172) (by decide +kernel) ?_
    intro x68 hx68
    refine ev_r_iald (pc := 173) hx68 (by decide +kernel) (by exact ev_ab_662) ?_
    intro x69 hx69
    refine ev_r_iconst (pc := 174) (k := 5) (by decide +kernel) ?_
    refine ev_r_jn (Q := fun K => ∀ (x70 : Int) (hx70 : ev_rng x70), ∀ (x71 : Int) (hx71 : ev_rng x71), ∀ (x72 : Int) (hx72 : ev_rng x72), ∀ (s82 : ev_St) (w73 : List (Nat × Value)), ev_lk w73 0 = some (.ref 621) → ev_lk w73 1 = some (.int (Int32.ofInt a0)) → ev_lk w73 2 = some (.int (Int32.ofInt x2)) → ev_lk w73 3 = some (.int (Int32.ofInt x70)) → ev_lk w73 4 = some (.int (Int32.ofInt x71)) → ev_lk w73 5 = some (.int (Int32.ofInt x5)) → ev_lk w73 6 = some (.int (Int32.ofInt x72)) → ev_lk w73 7 = some (.int (Int32.ofInt x50)) → ev_w none (ev_Mof 318) d 277 w73 [] s82 (K x70 x71 x72 s82) ev_eI ev_rng) ?_ ?_
    · intro x70 hx70 x71 hx71 x72 hx72 s82 w73 e74 e75 e76 e77 e78 e79 e80 e81
      refine ev_r_iinc (pc := 277) (k := 7) (c := 1) (x := x50) (by decide +kernel) (by decide +kernel) (by exact e81) (fun _ => rfl) ?_
      intro x83 hx83
      refine ev_r_goto (pc := 280) (o := (-150)) (t := 130) (by decide +kernel) (by decide +kernel) ?_
      exact hK130 x70 hx70 x71 hx71 x72 hx72 x83 hx83 s82 _ (by exact (ev_l1 e74 (by decide) (by decide))) (by exact (ev_l1 e75 (by decide) (by decide))) (by exact (ev_l1 e76 (by decide) (by decide))) (by exact (ev_l1 e77 (by decide) (by decide))) (by exact (ev_l1 e78 (by decide) (by decide))) (by exact (ev_l1 e79 (by decide) (by decide))) (by exact (ev_lk_st1 e80 (by decide) rfl)) (by exact ev_lk_st1_self)
    · intro K277 hK277
      refine ev_r_icmp (pc := 175) (q := .ne) (o := 31) (t := 206) (c := x69 ≠ 5) (by decide +kernel) (ev_k_ne hx69 (by decide)) (by decide +kernel) ?_ ?_
      · intro c84
        refine ev_r_iload (pc := 206) (k := 5) (v := Int32.ofInt x5) (by decide +kernel) (by exact (ev_l1 (ev_l1 e57 (by decide) (by decide)) (by decide) (by decide))) ?_
        refine ev_r_aload_n (pc := 208) (k := 0) (v := .ref 621) trivial (by decide +kernel) (by exact (ev_l1 (ev_l1 e52 (by decide) (by decide)) (by decide) (by decide))) ?_
        refine ev_r_getC (pc := 209) (y := 315) (ci := 13) (f := 143) (fin := 1) (k' := 721) (by decide +kernel) (by decide +kernel) (by exact ev_ob_621) rfl rfl ?_
        refine ev_r_iload_n (pc := 212) (k := 1) (v := Int32.ofInt a0) (by decide +kernel) (by exact (ev_l1 (ev_l1 e53 (by decide) (by decide)) (by decide) (by decide))) ?_
        refine ev_r_iald (pc := 213) ha0 (by decide +kernel) (by exact ev_ab_721) ?_
        intro x85 hx85
        refine ev_r_icmp (pc := 214) (q := .ge) (o := 63) (t := 277) (c := x85 ≤ x5) (by decide +kernel) (ev_k_ge hx5 hx85) (by decide +kernel) ?_ ?_
        · intro c86
          exact hK277 x47 hx47 x48 hx48 x49 hx49 s60 _ (by exact (ev_l1 (ev_l1 e52 (by decide) (by decide)) (by decide) (by decide))) (by exact (ev_l1 (ev_l1 e53 (by decide) (by decide)) (by decide) (by decide))) (by exact (ev_l1 (ev_l1 e54 (by decide) (by decide)) (by decide) (by decide))) (by exact (ev_l1 (ev_l1 e55 (by decide) (by decide)) (by decide) (by decide))) (by exact (ev_l1 (ev_l1 e56 (by decide) (by decide)) (by decide) (by decide))) (by exact (ev_l1 (ev_l1 e57 (by decide) (by decide)) (by decide) (by decide))) (by exact (ev_l1 (ev_l1 e58 (by decide) (by decide)) (by decide) (by decide))) (by exact (ev_l1 (ev_lk_st1 e59 (by decide) rfl) (by decide) (by decide)))
        · intro c86
          refine ev_r_aload_n (pc := 217) (k := 0) (v := .ref 621) trivial (by decide +kernel) (by exact (ev_l1 (ev_l1 e52 (by decide) (by decide)) (by decide) (by decide))) ?_
          refine ev_r_getC (pc := 218) (y := 43) (ci := 13) (f := 14) (fin := 1) (k' := 633) (by decide +kernel) (by decide +kernel) (by exact ev_ob_621) rfl rfl ?_
          refine ev_r_iload (pc := 221) (k := 9) (v := Int32.ofInt x66) (by decide +kernel) (by exact ev_lk_st1_self) ?_
          refine ev_r_lald (pc := 223) hx66 (by decide +kernel) (by exact ev_ab_633) ?_
          intro y87
          refine ev_r_aload_n (pc := 224) (k := 0) (v := .ref 621) trivial (by decide +kernel) (by exact (ev_l1 (ev_l1 e52 (by decide) (by decide)) (by decide) (by decide))) ?_
          refine ev_r_getC (pc := 225) (y := 47) (ci := 13) (f := 15) (fin := 1) (k' := 634) (by decide +kernel) (by decide +kernel) (by exact ev_ob_621) rfl rfl ?_
          refine ev_r_iload (pc := 228) (k := 9) (v := Int32.ofInt x66) (by decide +kernel) (by exact ev_lk_st1_self) ?_
          refine ev_r_lald (pc := 230) hx66 (by decide +kernel) (by exact ev_ab_634) ?_
          intro y88
          refine ev_r_aload_n (pc := 231) (k := 0) (v := .ref 621) trivial (by decide +kernel) (by exact (ev_l1 (ev_l1 e52 (by decide) (by decide)) (by decide) (by decide))) ?_
          refine ev_r_getC (pc := 232) (y := 318) (ci := 13) (f := 144) (fin := 1) (k' := 722) (by decide +kernel) (by decide +kernel) (by exact ev_ob_621) rfl rfl ?_
          refine ev_r_bipush (pc := 235) (k := 80) (by decide +kernel) (by decide +kernel) ?_
          refine ev_r_iload_n (pc := 237) (k := 1) (v := Int32.ofInt a0) (by decide +kernel) (by exact (ev_l1 (ev_l1 e53 (by decide) (by decide)) (by decide) (by decide))) ?_
          refine ev_r_imul (pc := 238) (by decide +kernel) ?_
          intro x89 hx89
          refine ev_r_iload (pc := 239) (k := 5) (v := Int32.ofInt x5) (by decide +kernel) (by exact (ev_l1 (ev_l1 e57 (by decide) (by decide)) (by decide) (by decide))) ?_
          refine ev_r_iadd (pc := 241) (by decide +kernel) ?_
          intro x90 hx90
          refine ev_r_iald (pc := 242) hx90 (by decide +kernel) (by exact ev_ab_722) ?_
          intro x91 hx91
          refine ev_r_stat (pc := 243) (y := 534) (kind := 2) (mi := 244) (na := 3) (as := [.long y87, .long y88, .int (Int32.ofInt x91)]) (rest := []) (encc := ev_oI) (Q := ev_bl) (fun x S1 h => jt_244 d (by omega) Q y87 y88 x91 hx91 s60 x S1 h) (Or.inl rfl) (by decide +kernel) (by decide +kernel) (by decide +kernel) (by decide +kernel) rfl (by (try simp only [ev_sum, ev_nv_cat]); first | done | rfl) ?_
          intro x93 s92 hx93
          replace hx93 := ev_bl_rng hx93
          show ev_w _ _ _ _ _ [.int (Int32.ofInt x93)] _ _ _ _
          refine ev_r_if (pc := 246) (q := .eq) (o := 31) (t := 277) (c := x93 = 0) (by decide +kernel) (ev_k_eq hx93 ev_rng0) (by decide +kernel) ?_ ?_
          · intro c94
            exact hK277 x47 hx47 x48 hx48 x49 hx49 s92 _ (by exact (ev_l1 (ev_l1 e52 (by decide) (by decide)) (by decide) (by decide))) (by exact (ev_l1 (ev_l1 e53 (by decide) (by decide)) (by decide) (by decide))) (by exact (ev_l1 (ev_l1 e54 (by decide) (by decide)) (by decide) (by decide))) (by exact (ev_l1 (ev_l1 e55 (by decide) (by decide)) (by decide) (by decide))) (by exact (ev_l1 (ev_l1 e56 (by decide) (by decide)) (by decide) (by decide))) (by exact (ev_l1 (ev_l1 e57 (by decide) (by decide)) (by decide) (by decide))) (by exact (ev_l1 (ev_l1 e58 (by decide) (by decide)) (by decide) (by decide))) (by exact (ev_l1 (ev_lk_st1 e59 (by decide) rfl) (by decide) (by decide)))
          · intro c94
            refine ev_r_aload_n (pc := 249) (k := 0) (v := .ref 621) trivial (by decide +kernel) (by exact (ev_l1 (ev_l1 e52 (by decide) (by decide)) (by decide) (by decide))) ?_
            refine ev_r_getC (pc := 250) (y := 175) (ci := 13) (f := 71) (fin := 1) (k' := 676) (by decide +kernel) (by decide +kernel) (by exact ev_ob_621) rfl rfl ?_
            refine ev_r_iload (pc := 253) (k := 4) (v := Int32.ofInt x48) (by decide +kernel) (by exact (ev_l1 (ev_l1 e56 (by decide) (by decide)) (by decide) (by decide))) ?_
            refine ev_r_iload (pc := 255) (k := 8) (v := Int32.ofInt x63) (by decide +kernel) (by exact (ev_lk_st1 ev_lk_st1_self (by decide) rfl)) ?_
            refine ev_r_iconst (pc := 257) (k := 1) (by decide +kernel) ?_
            refine ev_r_iadd (pc := 258) (by decide +kernel) ?_
            intro x95 hx95
            refine ev_r_iast (pc := 259) hx95 hx48 (by decide +kernel) (by exact ev_ab_676) ?_
            intro s96
            refine ev_r_aload_n (pc := 260) (k := 0) (v := .ref 621) trivial (by decide +kernel) (by exact (ev_l1 (ev_l1 e52 (by decide) (by decide)) (by decide) (by decide))) ?_
            refine ev_r_getC (pc := 261) (y := 178) (ci := 13) (f := 72) (fin := 1) (k' := 677) (by decide +kernel) (by decide +kernel) (by exact ev_ob_621) rfl rfl ?_
            refine ev_r_iload (pc := 264) (k := 4) (v := Int32.ofInt x48) (by decide +kernel) (by exact (ev_l1 (ev_l1 e56 (by decide) (by decide)) (by decide) (by decide))) ?_
            refine ev_r_aload_n (pc := 266) (k := 0) (v := .ref 621) trivial (by decide +kernel) (by exact (ev_l1 (ev_l1 e52 (by decide) (by decide)) (by decide) (by decide))) ?_
            refine ev_r_getC (pc := 267) (y := 172) (ci := 13) (f := 70) (fin := 1) (k' := 675) (by decide +kernel) (by decide +kernel) (by exact ev_ob_621) rfl rfl ?_
            refine ev_r_iload (pc := 270) (k := 7) (v := Int32.ofInt x50) (by decide +kernel) (by exact (ev_l1 (ev_lk_st1 e59 (by decide) rfl) (by decide) (by decide))) ?_
            refine ev_r_iald (pc := 272) hx50 (by decide +kernel) (by exact ev_ab_675) ?_
            intro x97 hx97
            refine ev_r_iast (pc := 273) hx97 hx48 (by decide +kernel) (by exact ev_ab_677) ?_
            intro s98
            refine ev_r_iinc (pc := 274) (k := 4) (c := 1) (x := x48) (by decide +kernel) (by decide +kernel) (by exact (ev_l1 (ev_l1 e56 (by decide) (by decide)) (by decide) (by decide))) (fun _ => rfl) ?_
            intro x99 hx99
            exact hK277 x47 hx47 x99 hx99 x49 hx49 s98 _ (by exact (ev_l1 (ev_l1 (ev_l1 e52 (by decide) (by decide)) (by decide) (by decide)) (by decide) (by decide))) (by exact (ev_l1 (ev_l1 (ev_l1 e53 (by decide) (by decide)) (by decide) (by decide)) (by decide) (by decide))) (by exact (ev_l1 (ev_l1 (ev_l1 e54 (by decide) (by decide)) (by decide) (by decide)) (by decide) (by decide))) (by exact (ev_lk_st1 (ev_l1 (ev_l1 e55 (by decide) (by decide)) (by decide) (by decide)) (by decide) rfl)) (by exact ev_lk_st1_self) (by exact (ev_l1 (ev_l1 (ev_l1 e57 (by decide) (by decide)) (by decide) (by decide)) (by decide) (by decide))) (by exact (ev_l1 (ev_l1 (ev_l1 e58 (by decide) (by decide)) (by decide) (by decide)) (by decide) (by decide))) (by exact (ev_l1 (ev_l1 (ev_lk_st1 e59 (by decide) rfl) (by decide) (by decide)) (by decide) (by decide)))
      · intro c84
        refine ev_r_sipush (pc := 178) (k := 1000) (by decide +kernel) (by decide +kernel) ?_
        refine ev_r_aload_n (pc := 181) (k := 0) (v := .ref 621) trivial (by decide +kernel) (by exact (ev_l1 (ev_l1 e52 (by decide) (by decide)) (by decide) (by decide))) ?_
        refine ev_r_getC (pc := 182) (y := 172) (ci := 13) (f := 70) (fin := 1) (k' := 675) (by decide +kernel) (by decide +kernel) (by exact ev_ob_621) rfl rfl ?_
        refine ev_r_iload (pc := 185) (k := 7) (v := Int32.ofInt x50) (by decide +kernel) (by exact (ev_l1 (ev_lk_st1 e59 (by decide) rfl) (by decide) (by decide))) ?_
        refine ev_r_iald (pc := 187) hx50 (by decide +kernel) (by exact ev_ab_675) ?_
        intro x100 hx100
        refine ev_r_imul (pc := 188) (by decide +kernel) ?_
        intro x101 hx101
        refine ev_r_iload (pc := 189) (k := 5) (v := Int32.ofInt x5) (by decide +kernel) (by exact (ev_l1 (ev_l1 e57 (by decide) (by decide)) (by decide) (by decide))) ?_
        refine ev_r_iadd (pc := 191) (by decide +kernel) ?_
        intro x102 hx102
        refine ev_r_istore_n (pc := 192) (k := 3) (by decide +kernel) (by decide +kernel) rfl ?_
        refine ev_r_iload (pc := 193) (k := 7) (v := Int32.ofInt x50) (by decide +kernel) (by exact (ev_l1 (ev_l1 (ev_lk_st1 e59 (by decide) rfl) (by decide) (by decide)) (by decide) (by decide))) ?_
        refine ev_r_istore (pc := 195) (k := 6) (by decide +kernel) (by decide +kernel) rfl ?_
        refine ev_r_aload_n (pc := 197) (k := 0) (v := .ref 621) trivial (by decide +kernel) (by exact (ev_l1 (ev_l1 (ev_l1 (ev_l1 e52 (by decide) (by decide)) (by decide) (by decide)) (by decide) (by decide)) (by decide) (by decide))) ?_
        refine ev_r_iload (pc := 198) (k := 7) (v := Int32.ofInt x50) (by decide +kernel) (by exact (ev_l1 (ev_l1 (ev_l1 (ev_lk_st1 e59 (by decide) rfl) (by decide) (by decide)) (by decide) (by decide)) (by decide) (by decide))) ?_
        refine ev_r_putI (pc := 200) (y := 695) (ci := 13) (f := 68) hx50 (by decide +kernel) (by decide +kernel) (by exact ev_ob_621) rfl rfl ?_
        intro s103
        refine ev_r_goto (pc := 203) (o := 74) (t := 277) (by decide +kernel) (by decide +kernel) ?_
        exact hK277 x102 hx102 x48 hx48 x50 hx50 s103 _ (by exact (ev_l1 (ev_l1 (ev_l1 (ev_l1 e52 (by decide) (by decide)) (by decide) (by decide)) (by decide) (by decide)) (by decide) (by decide))) (by exact (ev_l1 (ev_l1 (ev_l1 (ev_l1 e53 (by decide) (by decide)) (by decide) (by decide)) (by decide) (by decide)) (by decide) (by decide))) (by exact (ev_l1 (ev_lk_st1 (ev_l1 (ev_l1 e54 (by decide) (by decide)) (by decide) (by decide)) (by decide) rfl) (by decide) (by decide))) (by exact (ev_l1 ev_lk_st1_self (by decide) (by decide))) (by exact (ev_l1 (ev_l1 (ev_l1 (ev_l1 e56 (by decide) (by decide)) (by decide) (by decide)) (by decide) (by decide)) (by decide) (by decide))) (by exact (ev_lk_st1 (ev_l1 (ev_l1 (ev_l1 e57 (by decide) (by decide)) (by decide) (by decide)) (by decide) (by decide)) (by decide) rfl)) (by exact ev_lk_st1_self) (by exact (ev_l1 (ev_l1 (ev_l1 (ev_lk_st1 e59 (by decide) rfl) (by decide) (by decide)) (by decide) (by decide)) (by decide) (by decide)))
theorem jlt_318_130 (d : Nat) (hd : 3 ≤ d + 1) (Q : Nat) (a0 : Int) (x2 : Int) (x5 : Int) (ha0 : ev_rng a0) (hx2 : ev_rng x2) (hx5 : ev_rng x5) (K15 : Int → Int → Int → Int → ev_St → Option ((Int) × ev_St)) (hK15 : ∀ (x2 : Int) (hx2 : ev_rng x2), ∀ (x3 : Int) (hx3 : ev_rng x3), ∀ (x4 : Int) (hx4 : ev_rng x4), ∀ (x5 : Int) (hx5 : ev_rng x5), ∀ (s13 : ev_St) (w6 : List (Nat × Value)), ev_lk w6 0 = some (.ref 621) → ev_lk w6 1 = some (.int (Int32.ofInt a0)) → ev_lk w6 2 = some (.int (Int32.ofInt x2)) → ev_lk w6 3 = some (.int (Int32.ofInt x3)) → ev_lk w6 4 = some (.int (Int32.ofInt x4)) → ev_lk w6 5 = some (.int (Int32.ofInt x5)) → ev_w none (ev_Mof 318) d 15 w6 [] s13 (K15 x2 x3 x4 x5 s13) ev_eI ev_rng) : ∀ q : Nat, ∀ (x47 : Int) (hx47 : ev_rng x47), ∀ (x48 : Int) (hx48 : ev_rng x48), ∀ (x49 : Int) (hx49 : ev_rng x49), ∀ (x50 : Int) (hx50 : ev_rng x50), ∀ (s60 : ev_St) (w51 : List (Nat × Value)), ev_lk w51 0 = some (.ref 621) → ev_lk w51 1 = some (.int (Int32.ofInt a0)) → ev_lk w51 2 = some (.int (Int32.ofInt x2)) → ev_lk w51 3 = some (.int (Int32.ofInt x47)) → ev_lk w51 4 = some (.int (Int32.ofInt x48)) → ev_lk w51 5 = some (.int (Int32.ofInt x5)) → ev_lk w51 6 = some (.int (Int32.ofInt x49)) → ev_lk w51 7 = some (.int (Int32.ofInt x50)) → ev_w none (ev_Mof 318) d 130 w51 [] s60 (jl_318_130 Q a0 x2 x5 K15 q x47 x48 x49 x50 s60) ev_eI ev_rng := by
  intro q
  induction q with
  | zero =>
    intro x47 hx47 x48 hx48 x49 hx49 x50 hx50 s60 w51 e52 e53 e54 e55 e56 e57 e58 e59
    exact ev_w_none
  | succ q ih => exact jbt_318_130 d hd Q a0 x2 x5 ha0 hx2 hx5 K15 hK15 _ ih
def jb_318_59 (Q : Nat) (a0 : Int) (x2 : Int) (x3 : Int) (x4 : Int) (x5 : Int) (K15 : Int → Int → Int → Int → ev_St → Option ((Int) × ev_St)) (K59 : Int → ev_St → Option ((Int) × ev_St)) (x28 : Int) (s37 : ev_St) : Option ((Int) × ev_St) := if x4 ≤ x28 then (ev_jn (fun  (s45 : ev_St) => ev_b (s45.1 621 68) fun x46 => jl_318_130 Q a0 x2 x5 K15 Q x3 0 x46 0 s45) fun K118 => if x3 ≠ (-1) then (K118  s37) else (ev_jn (fun  (s111 : ev_St) => ev_bd (jm_317 Q x2 0 x5 s111) fun _ s112 => K118  s112) fun K110 => if x5 = 0 then (K110  s37) else (ev_if ((0 : Int) ≤ a0 ∧ a0 < (ev_aln 719 : Int)) (ev_b (s37.1 719 (Int.toNat a0)) fun x114 => if x114 ≠ 0 then (K118  s37) else (K110  s37))))) else (ev_if ((0 : Int) ≤ x28 ∧ x28 < (ev_aln 676 : Int)) (ev_b (s37.1 676 (Int.toNat x28)) fun x116 => ev_if ((0 : Int) ≤ x28 ∧ x28 < (ev_aln 677 : Int)) (ev_b (s37.1 677 (Int.toNat x28)) fun x117 => ev_bd (jm_317 Q x2 x116 x117 s37) fun _ s118 => ev_ck (x28 + 1) fun x119 => K59 x119 s118)))
def jl_318_59 (Q : Nat) (a0 : Int) (x2 : Int) (x3 : Int) (x4 : Int) (x5 : Int) (K15 : Int → Int → Int → Int → ev_St → Option ((Int) × ev_St)) : Nat → Int → ev_St → Option ((Int) × ev_St)
  | 0 => fun _ _ => none
  | q + 1 => jb_318_59 Q a0 x2 x3 x4 x5 K15 (jl_318_59 Q a0 x2 x3 x4 x5 K15 q)
theorem jbt_318_59 (d : Nat) (hd : 3 ≤ d + 1) (Q : Nat) (a0 : Int) (x2 : Int) (x3 : Int) (x4 : Int) (x5 : Int) (ha0 : ev_rng a0) (hx2 : ev_rng x2) (hx3 : ev_rng x3) (hx4 : ev_rng x4) (hx5 : ev_rng x5) (K15 : Int → Int → Int → Int → ev_St → Option ((Int) × ev_St)) (hK15 : ∀ (x2 : Int) (hx2 : ev_rng x2), ∀ (x3 : Int) (hx3 : ev_rng x3), ∀ (x4 : Int) (hx4 : ev_rng x4), ∀ (x5 : Int) (hx5 : ev_rng x5), ∀ (s13 : ev_St) (w6 : List (Nat × Value)), ev_lk w6 0 = some (.ref 621) → ev_lk w6 1 = some (.int (Int32.ofInt a0)) → ev_lk w6 2 = some (.int (Int32.ofInt x2)) → ev_lk w6 3 = some (.int (Int32.ofInt x3)) → ev_lk w6 4 = some (.int (Int32.ofInt x4)) → ev_lk w6 5 = some (.int (Int32.ofInt x5)) → ev_w none (ev_Mof 318) d 15 w6 [] s13 (K15 x2 x3 x4 x5 s13) ev_eI ev_rng) (K59 : Int → ev_St → Option ((Int) × ev_St)) (hK59 : ∀ (x28 : Int) (hx28 : ev_rng x28), ∀ (s37 : ev_St) (w29 : List (Nat × Value)), ev_lk w29 0 = some (.ref 621) → ev_lk w29 1 = some (.int (Int32.ofInt a0)) → ev_lk w29 2 = some (.int (Int32.ofInt x2)) → ev_lk w29 3 = some (.int (Int32.ofInt x3)) → ev_lk w29 4 = some (.int (Int32.ofInt x4)) → ev_lk w29 5 = some (.int (Int32.ofInt x5)) → ev_lk w29 6 = some (.int (Int32.ofInt x28)) → ev_w none (ev_Mof 318) d 59 w29 [] s37 (K59 x28 s37) ev_eI ev_rng) : ∀ (x28 : Int) (hx28 : ev_rng x28), ∀ (s37 : ev_St) (w29 : List (Nat × Value)), ev_lk w29 0 = some (.ref 621) → ev_lk w29 1 = some (.int (Int32.ofInt a0)) → ev_lk w29 2 = some (.int (Int32.ofInt x2)) → ev_lk w29 3 = some (.int (Int32.ofInt x3)) → ev_lk w29 4 = some (.int (Int32.ofInt x4)) → ev_lk w29 5 = some (.int (Int32.ofInt x5)) → ev_lk w29 6 = some (.int (Int32.ofInt x28)) → ev_w none (ev_Mof 318) d 59 w29 [] s37 (jb_318_59 Q a0 x2 x3 x4 x5 K15 K59 x28 s37) ev_eI ev_rng := by
  intro x28 hx28 s37 w29 e30 e31 e32 e33 e34 e35 e36
  unfold jb_318_59
  refine ev_r_iload (pc := 59) (k := 6) (v := Int32.ofInt x28) (by decide +kernel) (by exact e36) ?_
  refine ev_r_iload (pc := 61) (k := 4) (v := Int32.ofInt x4) (by decide +kernel) (by exact e34) ?_
  refine ev_r_icmp (pc := 63) (q := .ge) (o := 28) (t := 91) (c := x4 ≤ x28) (by decide +kernel) (ev_k_ge hx28 hx4) (by decide +kernel) ?_ ?_
  · intro c38
    refine ev_r_iload_n (pc := 91) (k := 3) (v := Int32.ofInt x3) (by decide +kernel) (by exact e33) ?_
    refine ev_r_iconst (pc := 92) (k := -1) (by decide +kernel) ?_
    refine ev_r_jn (Q := fun K => ∀ (s45 : ev_St) (w39 : List (Nat × Value)), ev_lk w39 0 = some (.ref 621) → ev_lk w39 1 = some (.int (Int32.ofInt a0)) → ev_lk w39 2 = some (.int (Int32.ofInt x2)) → ev_lk w39 3 = some (.int (Int32.ofInt x3)) → ev_lk w39 5 = some (.int (Int32.ofInt x5)) → ev_w none (ev_Mof 318) d 118 w39 [] s45 (K  s45) ev_eI ev_rng) ?_ ?_
    · intro  s45 w39 e40 e41 e42 e43 e44
      refine ev_r_iconst (pc := 118) (k := 0) (by decide +kernel) ?_
      refine ev_r_istore (pc := 119) (k := 4) (by decide +kernel) (by decide +kernel) rfl ?_
      refine ev_r_aload_n (pc := 121) (k := 0) (v := .ref 621) trivial (by decide +kernel) (by exact (ev_l1 e40 (by decide) (by decide))) ?_
      refine ev_r_getI (pc := 122) (y := 695) (ci := 13) (f := 68) (fin := 0) (by decide +kernel) (by decide +kernel) (by exact ev_ob_621) rfl ?_
      intro x46 hx46
      refine ev_r_istore (pc := 125) (k := 6) (by decide +kernel) (by decide +kernel) rfl ?_
      refine ev_r_iconst (pc := 127) (k := 0) (by decide +kernel) ?_
      refine ev_r_istore (pc := 128) (k := 7) (by decide +kernel) (by decide +kernel) rfl ?_
      exact jlt_318_130 d hd Q a0 x2 x5 ha0 hx2 hx5 K15 hK15 Q x3 hx3 0 (by decide) x46 hx46 0 (by decide) s45 _ (by exact (ev_l1 (ev_l1 (ev_l1 e40 (by decide) (by decide)) (by decide) (by decide)) (by decide) (by decide))) (by exact (ev_l1 (ev_l1 (ev_l1 e41 (by decide) (by decide)) (by decide) (by decide)) (by decide) (by decide))) (by exact (ev_l1 (ev_l1 (ev_l1 e42 (by decide) (by decide)) (by decide) (by decide)) (by decide) (by decide))) (by exact (ev_l1 (ev_l1 (ev_lk_st1 e43 (by decide) rfl) (by decide) (by decide)) (by decide) (by decide))) (by exact (ev_l1 (ev_l1 ev_lk_st1_self (by decide) (by decide)) (by decide) (by decide))) (by exact (ev_l1 (ev_lk_st1 (ev_l1 e44 (by decide) (by decide)) (by decide) rfl) (by decide) (by decide))) (by exact (ev_lk_st1 ev_lk_st1_self (by decide) rfl)) (by exact ev_lk_st1_self)
    · intro K118 hK118
      refine ev_r_icmp (pc := 93) (q := .ne) (o := 25) (t := 118) (c := x3 ≠ (-1)) (by decide +kernel) (ev_k_ne hx3 (by decide)) (by decide +kernel) ?_ ?_
      · intro c104
        exact hK118  s37 _ (by exact e30) (by exact e31) (by exact e32) (by exact e33) (by exact e35)
      · intro c104
        refine ev_r_iload (pc := 96) (k := 5) (v := Int32.ofInt x5) (by decide +kernel) (by exact e35) ?_
        refine ev_r_jn (Q := fun K => ∀ (s111 : ev_St) (w105 : List (Nat × Value)), ev_lk w105 0 = some (.ref 621) → ev_lk w105 1 = some (.int (Int32.ofInt a0)) → ev_lk w105 2 = some (.int (Int32.ofInt x2)) → ev_lk w105 3 = some (.int (Int32.ofInt x3)) → ev_lk w105 5 = some (.int (Int32.ofInt x5)) → ev_w none (ev_Mof 318) d 110 w105 [] s111 (K  s111) ev_eI ev_rng) ?_ ?_
        · intro  s111 w105 e106 e107 e108 e109 e110
          refine ev_r_aload_n (pc := 110) (k := 0) (v := .ref 621) trivial (by decide +kernel) (by exact e106) ?_
          refine ev_r_iload_n (pc := 111) (k := 2) (v := Int32.ofInt x2) (by decide +kernel) (by exact e108) ?_
          refine ev_r_iconst (pc := 112) (k := 0) (by decide +kernel) ?_
          refine ev_r_iload (pc := 113) (k := 5) (v := Int32.ofInt x5) (by decide +kernel) (by exact e110) ?_
          refine ev_r_virt (pc := 115) (y := 698) (mi := 317) (na := 3) (k := 621) (as := [.int (Int32.ofInt x2), .int (Int32.ofInt 0), .int (Int32.ofInt x5)]) (rest := []) (encc := ev_oU) (Q := ev_PU) (fun x S1 h => jt_317 d (by omega) Q x2 0 x5 hx2 (by decide) hx5 s111 x S1 h) (by exact ev_ob_621) (by decide +kernel) (by decide +kernel) (by decide +kernel) (by decide +kernel) rfl (by (try simp only [ev_sum, ev_nv_cat]); first | done | rfl) ?_
          intro _ s112 _
          show ev_w _ _ _ _ _ [] _ _ _ _
          exact hK118  s112 _ (by exact e106) (by exact e107) (by exact e108) (by exact e109) (by exact e110)
        · intro K110 hK110
          refine ev_r_if (pc := 98) (q := .eq) (o := 12) (t := 110) (c := x5 = 0) (by decide +kernel) (ev_k_eq hx5 ev_rng0) (by decide +kernel) ?_ ?_
          · intro c113
            exact hK110  s37 _ (by exact e30) (by exact e31) (by exact e32) (by exact e33) (by exact e35)
          · intro c113
            refine ev_r_aload_n (pc := 101) (k := 0) (v := .ref 621) trivial (by decide +kernel) (by exact e30) ?_
            refine ev_r_getC (pc := 102) (y := 309) (ci := 13) (f := 141) (fin := 1) (k' := 719) (by decide +kernel) (by decide +kernel) (by exact ev_ob_621) rfl rfl ?_
            refine ev_r_iload_n (pc := 105) (k := 1) (v := Int32.ofInt a0) (by decide +kernel) (by exact e31) ?_
            refine ev_r_bald (pc := 106) (ty := .boolean) (Or.inr rfl) ha0 (by decide +kernel) (by exact ev_ab_719) ?_
            intro x114 hx114
            refine ev_r_if (pc := 107) (q := .ne) (o := 11) (t := 118) (c := x114 ≠ 0) (by decide +kernel) (ev_k_ne hx114 ev_rng0) (by decide +kernel) ?_ ?_
            · intro c115
              exact hK118  s37 _ (by exact e30) (by exact e31) (by exact e32) (by exact e33) (by exact e35)
            · intro c115
              exact hK110  s37 _ (by exact e30) (by exact e31) (by exact e32) (by exact e33) (by exact e35)
  · intro c38
    refine ev_r_aload_n (pc := 66) (k := 0) (v := .ref 621) trivial (by decide +kernel) (by exact e30) ?_
    refine ev_r_iload_n (pc := 67) (k := 2) (v := Int32.ofInt x2) (by decide +kernel) (by exact e32) ?_
    refine ev_r_aload_n (pc := 68) (k := 0) (v := .ref 621) trivial (by decide +kernel) (by exact e30) ?_
    refine ev_r_getC (pc := 69) (y := 175) (ci := 13) (f := 71) (fin := 1) (k' := 676) (by decide +kernel) (by decide +kernel) (by exact ev_ob_621) rfl rfl ?_
    refine ev_r_iload (pc := 72) (k := 6) (v := Int32.ofInt x28) (by decide +kernel) (by exact e36) ?_
    refine ev_r_iald (pc := 74) hx28 (by decide +kernel) (by exact ev_ab_676) ?_
    intro x116 hx116
    refine ev_r_aload_n (pc := 75) (k := 0) (v := .ref 621) trivial (by decide +kernel) (by exact e30) ?_
    refine ev_r_getC (pc := 76) (y := 178) (ci := 13) (f := 72) (fin := 1) (k' := 677) (by decide +kernel) (by decide +kernel) (by exact ev_ob_621) rfl rfl ?_
    refine ev_r_iload (pc := 79) (k := 6) (v := Int32.ofInt x28) (by decide +kernel) (by exact e36) ?_
    refine ev_r_iald (pc := 81) hx28 (by decide +kernel) (by exact ev_ab_677) ?_
    intro x117 hx117
    refine ev_r_virt (pc := 82) (y := 698) (mi := 317) (na := 3) (k := 621) (as := [.int (Int32.ofInt x2), .int (Int32.ofInt x116), .int (Int32.ofInt x117)]) (rest := []) (encc := ev_oU) (Q := ev_PU) (fun x S1 h => jt_317 d (by omega) Q x2 x116 x117 hx2 hx116 hx117 s37 x S1 h) (by exact ev_ob_621) (by decide +kernel) (by decide +kernel) (by decide +kernel) (by decide +kernel) rfl (by (try simp only [ev_sum, ev_nv_cat]); first | done | rfl) ?_
    intro _ s118 _
    show ev_w _ _ _ _ _ [] _ _ _ _
    refine ev_r_iinc (pc := 85) (k := 6) (c := 1) (x := x28) (by decide +kernel) (by decide +kernel) (by exact e36) (fun _ => rfl) ?_
    intro x119 hx119
    refine ev_r_goto (pc := 88) (o := (-29)) (t := 59) (by decide +kernel) (by decide +kernel) ?_
    exact hK59 x119 hx119 s118 _ (by exact (ev_l1 e30 (by decide) (by decide))) (by exact (ev_l1 e31 (by decide) (by decide))) (by exact (ev_l1 e32 (by decide) (by decide))) (by exact (ev_l1 e33 (by decide) (by decide))) (by exact (ev_l1 e34 (by decide) (by decide))) (by exact (ev_lk_st1 e35 (by decide) rfl)) (by exact ev_lk_st1_self)
theorem jlt_318_59 (d : Nat) (hd : 3 ≤ d + 1) (Q : Nat) (a0 : Int) (x2 : Int) (x3 : Int) (x4 : Int) (x5 : Int) (ha0 : ev_rng a0) (hx2 : ev_rng x2) (hx3 : ev_rng x3) (hx4 : ev_rng x4) (hx5 : ev_rng x5) (K15 : Int → Int → Int → Int → ev_St → Option ((Int) × ev_St)) (hK15 : ∀ (x2 : Int) (hx2 : ev_rng x2), ∀ (x3 : Int) (hx3 : ev_rng x3), ∀ (x4 : Int) (hx4 : ev_rng x4), ∀ (x5 : Int) (hx5 : ev_rng x5), ∀ (s13 : ev_St) (w6 : List (Nat × Value)), ev_lk w6 0 = some (.ref 621) → ev_lk w6 1 = some (.int (Int32.ofInt a0)) → ev_lk w6 2 = some (.int (Int32.ofInt x2)) → ev_lk w6 3 = some (.int (Int32.ofInt x3)) → ev_lk w6 4 = some (.int (Int32.ofInt x4)) → ev_lk w6 5 = some (.int (Int32.ofInt x5)) → ev_w none (ev_Mof 318) d 15 w6 [] s13 (K15 x2 x3 x4 x5 s13) ev_eI ev_rng) : ∀ q : Nat, ∀ (x28 : Int) (hx28 : ev_rng x28), ∀ (s37 : ev_St) (w29 : List (Nat × Value)), ev_lk w29 0 = some (.ref 621) → ev_lk w29 1 = some (.int (Int32.ofInt a0)) → ev_lk w29 2 = some (.int (Int32.ofInt x2)) → ev_lk w29 3 = some (.int (Int32.ofInt x3)) → ev_lk w29 4 = some (.int (Int32.ofInt x4)) → ev_lk w29 5 = some (.int (Int32.ofInt x5)) → ev_lk w29 6 = some (.int (Int32.ofInt x28)) → ev_w none (ev_Mof 318) d 59 w29 [] s37 (jl_318_59 Q a0 x2 x3 x4 x5 K15 q x28 s37) ev_eI ev_rng := by
  intro q
  induction q with
  | zero =>
    intro x28 hx28 s37 w29 e30 e31 e32 e33 e34 e35 e36
    exact ev_w_none
  | succ q ih => exact jbt_318_59 d hd Q a0 x2 x3 x4 x5 ha0 hx2 hx3 hx4 hx5 K15 hK15 _ ih
def jb_318_29 (Q : Nat) (a0 : Int) (x2 : Int) (x3 : Int) (x4 : Int) (x5 : Int) (K15 : Int → Int → Int → Int → ev_St → Option ((Int) × ev_St)) (K29 : Int → ev_St → Option ((Int) × ev_St)) (x16 : Int) (s25 : ev_St) : Option ((Int) × ev_St) := if 210 ≤ x16 then (ev_b (ev_pI s25 621 68 0) fun s27 => jl_318_59 Q a0 x2 x3 x4 x5 K15 Q 0 s27) else (ev_if ((0 : Int) ≤ x16 ∧ x16 < (ev_aln 669 : Int)) (ev_b (ev_pI s25 669 (Int.toNat x16) 0) fun s120 => ev_ck (x16 + 1) fun x121 => K29 x121 s120))
def jl_318_29 (Q : Nat) (a0 : Int) (x2 : Int) (x3 : Int) (x4 : Int) (x5 : Int) (K15 : Int → Int → Int → Int → ev_St → Option ((Int) × ev_St)) : Nat → Int → ev_St → Option ((Int) × ev_St)
  | 0 => fun _ _ => none
  | q + 1 => jb_318_29 Q a0 x2 x3 x4 x5 K15 (jl_318_29 Q a0 x2 x3 x4 x5 K15 q)
theorem jbt_318_29 (d : Nat) (hd : 3 ≤ d + 1) (Q : Nat) (a0 : Int) (x2 : Int) (x3 : Int) (x4 : Int) (x5 : Int) (ha0 : ev_rng a0) (hx2 : ev_rng x2) (hx3 : ev_rng x3) (hx4 : ev_rng x4) (hx5 : ev_rng x5) (K15 : Int → Int → Int → Int → ev_St → Option ((Int) × ev_St)) (hK15 : ∀ (x2 : Int) (hx2 : ev_rng x2), ∀ (x3 : Int) (hx3 : ev_rng x3), ∀ (x4 : Int) (hx4 : ev_rng x4), ∀ (x5 : Int) (hx5 : ev_rng x5), ∀ (s13 : ev_St) (w6 : List (Nat × Value)), ev_lk w6 0 = some (.ref 621) → ev_lk w6 1 = some (.int (Int32.ofInt a0)) → ev_lk w6 2 = some (.int (Int32.ofInt x2)) → ev_lk w6 3 = some (.int (Int32.ofInt x3)) → ev_lk w6 4 = some (.int (Int32.ofInt x4)) → ev_lk w6 5 = some (.int (Int32.ofInt x5)) → ev_w none (ev_Mof 318) d 15 w6 [] s13 (K15 x2 x3 x4 x5 s13) ev_eI ev_rng) (K29 : Int → ev_St → Option ((Int) × ev_St)) (hK29 : ∀ (x16 : Int) (hx16 : ev_rng x16), ∀ (s25 : ev_St) (w17 : List (Nat × Value)), ev_lk w17 0 = some (.ref 621) → ev_lk w17 1 = some (.int (Int32.ofInt a0)) → ev_lk w17 2 = some (.int (Int32.ofInt x2)) → ev_lk w17 3 = some (.int (Int32.ofInt x3)) → ev_lk w17 4 = some (.int (Int32.ofInt x4)) → ev_lk w17 5 = some (.int (Int32.ofInt x5)) → ev_lk w17 6 = some (.int (Int32.ofInt x16)) → ev_w none (ev_Mof 318) d 29 w17 [] s25 (K29 x16 s25) ev_eI ev_rng) : ∀ (x16 : Int) (hx16 : ev_rng x16), ∀ (s25 : ev_St) (w17 : List (Nat × Value)), ev_lk w17 0 = some (.ref 621) → ev_lk w17 1 = some (.int (Int32.ofInt a0)) → ev_lk w17 2 = some (.int (Int32.ofInt x2)) → ev_lk w17 3 = some (.int (Int32.ofInt x3)) → ev_lk w17 4 = some (.int (Int32.ofInt x4)) → ev_lk w17 5 = some (.int (Int32.ofInt x5)) → ev_lk w17 6 = some (.int (Int32.ofInt x16)) → ev_w none (ev_Mof 318) d 29 w17 [] s25 (jb_318_29 Q a0 x2 x3 x4 x5 K15 K29 x16 s25) ev_eI ev_rng := by
  intro x16 hx16 s25 w17 e18 e19 e20 e21 e22 e23 e24
  unfold jb_318_29
  refine ev_r_iload (pc := 29) (k := 6) (v := Int32.ofInt x16) (by decide +kernel) (by exact e24) ?_
  refine ev_r_sipush (pc := 31) (k := 210) (by decide +kernel) (by decide +kernel) ?_
  refine ev_r_icmp (pc := 34) (q := .ge) (o := 17) (t := 51) (c := 210 ≤ x16) (by decide +kernel) (ev_k_ge hx16 (by decide)) (by decide +kernel) ?_ ?_
  · intro c26
    refine ev_r_aload_n (pc := 51) (k := 0) (v := .ref 621) trivial (by decide +kernel) (by exact e18) ?_
    refine ev_r_iconst (pc := 52) (k := 0) (by decide +kernel) ?_
    refine ev_r_putI (pc := 53) (y := 695) (ci := 13) (f := 68) (by decide) (by decide +kernel) (by decide +kernel) (by exact ev_ob_621) rfl rfl ?_
    intro s27
    refine ev_r_iconst (pc := 56) (k := 0) (by decide +kernel) ?_
    refine ev_r_istore (pc := 57) (k := 6) (by decide +kernel) (by decide +kernel) rfl ?_
    exact jlt_318_59 d hd Q a0 x2 x3 x4 x5 ha0 hx2 hx3 hx4 hx5 K15 hK15 Q 0 (by decide) s27 _ (by exact (ev_l1 e18 (by decide) (by decide))) (by exact (ev_l1 e19 (by decide) (by decide))) (by exact (ev_l1 e20 (by decide) (by decide))) (by exact (ev_l1 e21 (by decide) (by decide))) (by exact (ev_l1 e22 (by decide) (by decide))) (by exact (ev_lk_st1 e23 (by decide) rfl)) (by exact ev_lk_st1_self)
  · intro c26
    refine ev_r_aload_n (pc := 37) (k := 0) (v := .ref 621) trivial (by decide +kernel) (by exact e18) ?_
    refine ev_r_getC (pc := 38) (y := 153) (ci := 13) (f := 63) (fin := 1) (k' := 669) (by decide +kernel) (by decide +kernel) (by exact ev_ob_621) rfl rfl ?_
    refine ev_r_iload (pc := 41) (k := 6) (v := Int32.ofInt x16) (by decide +kernel) (by exact e24) ?_
    refine ev_r_iconst (pc := 43) (k := 0) (by decide +kernel) ?_
    refine ev_r_bast (pc := 44) (ty := .boolean) (Or.inr rfl) (ev_nar_bl (by decide : ev_bl 0)) (by decide) hx16 (by decide +kernel) (by exact ev_ab_669) ?_
    intro s120
    refine ev_r_iinc (pc := 45) (k := 6) (c := 1) (x := x16) (by decide +kernel) (by decide +kernel) (by exact e24) (fun _ => rfl) ?_
    intro x121 hx121
    refine ev_r_goto (pc := 48) (o := (-19)) (t := 29) (by decide +kernel) (by decide +kernel) ?_
    exact hK29 x121 hx121 s120 _ (by exact (ev_l1 e18 (by decide) (by decide))) (by exact (ev_l1 e19 (by decide) (by decide))) (by exact (ev_l1 e20 (by decide) (by decide))) (by exact (ev_l1 e21 (by decide) (by decide))) (by exact (ev_l1 e22 (by decide) (by decide))) (by exact (ev_lk_st1 e23 (by decide) rfl)) (by exact ev_lk_st1_self)
theorem jlt_318_29 (d : Nat) (hd : 3 ≤ d + 1) (Q : Nat) (a0 : Int) (x2 : Int) (x3 : Int) (x4 : Int) (x5 : Int) (ha0 : ev_rng a0) (hx2 : ev_rng x2) (hx3 : ev_rng x3) (hx4 : ev_rng x4) (hx5 : ev_rng x5) (K15 : Int → Int → Int → Int → ev_St → Option ((Int) × ev_St)) (hK15 : ∀ (x2 : Int) (hx2 : ev_rng x2), ∀ (x3 : Int) (hx3 : ev_rng x3), ∀ (x4 : Int) (hx4 : ev_rng x4), ∀ (x5 : Int) (hx5 : ev_rng x5), ∀ (s13 : ev_St) (w6 : List (Nat × Value)), ev_lk w6 0 = some (.ref 621) → ev_lk w6 1 = some (.int (Int32.ofInt a0)) → ev_lk w6 2 = some (.int (Int32.ofInt x2)) → ev_lk w6 3 = some (.int (Int32.ofInt x3)) → ev_lk w6 4 = some (.int (Int32.ofInt x4)) → ev_lk w6 5 = some (.int (Int32.ofInt x5)) → ev_w none (ev_Mof 318) d 15 w6 [] s13 (K15 x2 x3 x4 x5 s13) ev_eI ev_rng) : ∀ q : Nat, ∀ (x16 : Int) (hx16 : ev_rng x16), ∀ (s25 : ev_St) (w17 : List (Nat × Value)), ev_lk w17 0 = some (.ref 621) → ev_lk w17 1 = some (.int (Int32.ofInt a0)) → ev_lk w17 2 = some (.int (Int32.ofInt x2)) → ev_lk w17 3 = some (.int (Int32.ofInt x3)) → ev_lk w17 4 = some (.int (Int32.ofInt x4)) → ev_lk w17 5 = some (.int (Int32.ofInt x5)) → ev_lk w17 6 = some (.int (Int32.ofInt x16)) → ev_w none (ev_Mof 318) d 29 w17 [] s25 (jl_318_29 Q a0 x2 x3 x4 x5 K15 q x16 s25) ev_eI ev_rng := by
  intro q
  induction q with
  | zero =>
    intro x16 hx16 s25 w17 e18 e19 e20 e21 e22 e23 e24
    exact ev_w_none
  | succ q ih => exact jbt_318_29 d hd Q a0 x2 x3 x4 x5 ha0 hx2 hx3 hx4 hx5 K15 hK15 _ ih
def jb_318_15 (Q : Nat) (a0 : Int)  (K15 : Int → Int → Int → Int → ev_St → Option ((Int) × ev_St)) (x2 : Int) (x3 : Int) (x4 : Int) (x5 : Int) (s13 : ev_St) : Option ((Int) × ev_St) := ev_if ((0 : Int) ≤ a0 ∧ a0 < (ev_aln 721 : Int)) (ev_b (s13.1 721 (Int.toNat a0)) fun x14 => if x14 < x5 then (some (x3, s13)) else (jl_318_29 Q a0 x2 x3 x4 x5 K15 Q 0 s13))
def jl_318_15 (Q : Nat) (a0 : Int)  : Nat → Int → Int → Int → Int → ev_St → Option ((Int) × ev_St)
  | 0 => fun _ _ _ _ _ => none
  | q + 1 => jb_318_15 Q a0  (jl_318_15 Q a0  q)
theorem jbt_318_15 (d : Nat) (hd : 3 ≤ d + 1) (Q : Nat) (a0 : Int) (ha0 : ev_rng a0)   (K15 : Int → Int → Int → Int → ev_St → Option ((Int) × ev_St)) (hK15 : ∀ (x2 : Int) (hx2 : ev_rng x2), ∀ (x3 : Int) (hx3 : ev_rng x3), ∀ (x4 : Int) (hx4 : ev_rng x4), ∀ (x5 : Int) (hx5 : ev_rng x5), ∀ (s13 : ev_St) (w6 : List (Nat × Value)), ev_lk w6 0 = some (.ref 621) → ev_lk w6 1 = some (.int (Int32.ofInt a0)) → ev_lk w6 2 = some (.int (Int32.ofInt x2)) → ev_lk w6 3 = some (.int (Int32.ofInt x3)) → ev_lk w6 4 = some (.int (Int32.ofInt x4)) → ev_lk w6 5 = some (.int (Int32.ofInt x5)) → ev_w none (ev_Mof 318) d 15 w6 [] s13 (K15 x2 x3 x4 x5 s13) ev_eI ev_rng) : ∀ (x2 : Int) (hx2 : ev_rng x2), ∀ (x3 : Int) (hx3 : ev_rng x3), ∀ (x4 : Int) (hx4 : ev_rng x4), ∀ (x5 : Int) (hx5 : ev_rng x5), ∀ (s13 : ev_St) (w6 : List (Nat × Value)), ev_lk w6 0 = some (.ref 621) → ev_lk w6 1 = some (.int (Int32.ofInt a0)) → ev_lk w6 2 = some (.int (Int32.ofInt x2)) → ev_lk w6 3 = some (.int (Int32.ofInt x3)) → ev_lk w6 4 = some (.int (Int32.ofInt x4)) → ev_lk w6 5 = some (.int (Int32.ofInt x5)) → ev_w none (ev_Mof 318) d 15 w6 [] s13 (jb_318_15 Q a0  K15 x2 x3 x4 x5 s13) ev_eI ev_rng := by
  intro x2 hx2 x3 hx3 x4 hx4 x5 hx5 s13 w6 e7 e8 e9 e10 e11 e12
  unfold jb_318_15
  refine ev_r_iload (pc := 15) (k := 5) (v := Int32.ofInt x5) (by decide +kernel) (by exact e12) ?_
  refine ev_r_aload_n (pc := 17) (k := 0) (v := .ref 621) trivial (by decide +kernel) (by exact e7) ?_
  refine ev_r_getC (pc := 18) (y := 315) (ci := 13) (f := 143) (fin := 1) (k' := 721) (by decide +kernel) (by decide +kernel) (by exact ev_ob_621) rfl rfl ?_
  refine ev_r_iload_n (pc := 21) (k := 1) (v := Int32.ofInt a0) (by decide +kernel) (by exact e8) ?_
  refine ev_r_iald (pc := 22) ha0 (by decide +kernel) (by exact ev_ab_721) ?_
  intro x14 hx14
  refine ev_r_icmp (pc := 23) (q := .gt) (o := 266) (t := 289) (c := x14 < x5) (by decide +kernel) (ev_k_gt hx5 hx14) (by decide +kernel) ?_ ?_
  · intro c15
    refine ev_r_iload_n (pc := 289) (k := 3) (v := Int32.ofInt x3) (by decide +kernel) (by exact e10) ?_
    exact ev_r_ireturn (pc := 290) (x := x3) (v := Int32.ofInt x3) (ty := .int) hx3 (by decide +kernel) (by decide +kernel) rfl rfl
  · intro c15
    refine ev_r_iconst (pc := 26) (k := 0) (by decide +kernel) ?_
    refine ev_r_istore (pc := 27) (k := 6) (by decide +kernel) (by decide +kernel) rfl ?_
    exact jlt_318_29 d hd Q a0 x2 x3 x4 x5 ha0 hx2 hx3 hx4 hx5 K15 hK15 Q 0 (by decide) s13 _ (by exact (ev_l1 e7 (by decide) (by decide))) (by exact (ev_l1 e8 (by decide) (by decide))) (by exact (ev_l1 e9 (by decide) (by decide))) (by exact (ev_l1 e10 (by decide) (by decide))) (by exact (ev_l1 e11 (by decide) (by decide))) (by exact (ev_lk_st1 e12 (by decide) rfl)) (by exact ev_lk_st1_self)
theorem jlt_318_15 (d : Nat) (hd : 3 ≤ d + 1) (Q : Nat) (a0 : Int) (ha0 : ev_rng a0)   : ∀ q : Nat, ∀ (x2 : Int) (hx2 : ev_rng x2), ∀ (x3 : Int) (hx3 : ev_rng x3), ∀ (x4 : Int) (hx4 : ev_rng x4), ∀ (x5 : Int) (hx5 : ev_rng x5), ∀ (s13 : ev_St) (w6 : List (Nat × Value)), ev_lk w6 0 = some (.ref 621) → ev_lk w6 1 = some (.int (Int32.ofInt a0)) → ev_lk w6 2 = some (.int (Int32.ofInt x2)) → ev_lk w6 3 = some (.int (Int32.ofInt x3)) → ev_lk w6 4 = some (.int (Int32.ofInt x4)) → ev_lk w6 5 = some (.int (Int32.ofInt x5)) → ev_w none (ev_Mof 318) d 15 w6 [] s13 (jl_318_15 Q a0  q x2 x3 x4 x5 s13) ev_eI ev_rng := by
  intro q
  induction q with
  | zero =>
    intro x2 hx2 x3 hx3 x4 hx4 x5 hx5 s13 w6 e7 e8 e9 e10 e11 e12
    exact ev_w_none
  | succ q ih => exact jbt_318_15 d hd Q a0 ha0   _ ih
/-- MendBenchModel.threadsOf(I)I -/
def jm_318 (Q : Nat) (a0 : Int) (S : ev_St) : Option ((Int) × ev_St) := ev_if ((0 : Int) ≤ a0 ∧ a0 < (ev_aln 718 : Int)) (ev_b (S.1 718 (Int.toNat a0)) fun x1 => jl_318_15 Q a0  Q x1 ((-1)) 0 0 S)
theorem jt_318 (d : Nat) (hd : 3 ≤ d) (Q : Nat) (a0 : Int) (ha0 : ev_rng a0) (S : ev_St) (x : Int) (S' : ev_St) (hJ : jm_318 Q a0 S = some (x, S')) : ev_Ref d 318 [.ref 621, .int (Int32.ofInt a0)] S (ev_eI x) S' (ev_rng x) := by
  obtain ⟨d, rfl⟩ : ∃ e, d = e + 1 := ⟨d - 1, by omega⟩
  refine ev_ref_of (P := ev_rng) (lv := [(0, .ref 621), (1, .int (Int32.ofInt a0))]) (by decide +kernel) (by (try simp only [ev_sum, ev_nv_cat]); first | done | rfl) (by (try simp only [lv_args, ev_nv_cat]); first | done | rfl) ?_ x S' hJ
  unfold jm_318
  refine ev_r_aload_n (pc := 0) (k := 0) (v := .ref 621) trivial (by decide +kernel) (by rfl) ?_
  refine ev_r_getC (pc := 1) (y := 306) (ci := 13) (f := 140) (fin := 1) (k' := 718) (by decide +kernel) (by decide +kernel) (by exact ev_ob_621) rfl rfl ?_
  refine ev_r_iload_n (pc := 4) (k := 1) (v := Int32.ofInt a0) (by decide +kernel) (by rfl) ?_
  refine ev_r_iald (pc := 5) ha0 (by decide +kernel) (by exact ev_ab_718) ?_
  intro x1 hx1
  refine ev_r_istore_n (pc := 6) (k := 2) (by decide +kernel) (by decide +kernel) rfl ?_
  refine ev_r_iconst (pc := 7) (k := -1) (by decide +kernel) ?_
  refine ev_r_istore_n (pc := 8) (k := 3) (by decide +kernel) (by decide +kernel) rfl ?_
  refine ev_r_iconst (pc := 9) (k := 0) (by decide +kernel) ?_
  refine ev_r_istore (pc := 10) (k := 4) (by decide +kernel) (by decide +kernel) rfl ?_
  refine ev_r_iconst (pc := 12) (k := 0) (by decide +kernel) ?_
  refine ev_r_istore (pc := 13) (k := 5) (by decide +kernel) (by decide +kernel) rfl ?_
  exact jlt_318_15 d hd Q a0 ha0   Q x1 hx1 ((-1)) (by decide) 0 (by decide) 0 (by decide) S _ (by exact (ev_l1 (ev_l1 (ev_l1 (ev_l1 (by rfl) (by decide) (by decide)) (by decide) (by decide)) (by decide) (by decide)) (by decide) (by decide))) (by exact (ev_l1 (ev_l1 (ev_l1 (ev_lk_st1 (by rfl) (by decide) rfl) (by decide) (by decide)) (by decide) (by decide)) (by decide) (by decide))) (by exact (ev_l1 (ev_l1 (ev_lk_st1 ev_lk_st1_self (by decide) rfl) (by decide) (by decide)) (by decide) (by decide))) (by exact (ev_l1 (ev_lk_st1 ev_lk_st1_self (by decide) rfl) (by decide) (by decide))) (by exact (ev_lk_st1 ev_lk_st1_self (by decide) rfl)) (by exact ev_lk_st1_self)
def jb_319_21 (Q : Nat) (a0 : Int)  (K21 : Int → Int → Int → ev_St → Option ((Int) × ev_St)) (x5 : Int) (x6 : Int) (x7 : Int) (s14 : ev_St) : Option ((Int) × ev_St) := ev_b (s14.1 621 68) fun x15 => if x15 ≤ x7 then (if x6 = 0 then (some (x5, s14)) else (ev_if ((0 : Int) ≤ a0 ∧ a0 < (ev_aln 720 : Int)) (ev_b (s14.1 720 (Int.toNat a0)) fun x18 => if x18 ≠ 0 then (some (x5, s14)) else (some ((-5), s14))))) else (ev_jn (fun (x20 : Int) (s26 : ev_St) => ev_ck (x7 + 1) fun x27 => K21 x5 x20 x27 s26) fun K54 => ev_jn (fun  (s33 : ev_St) => K54 1 s33) fun K49 => if x6 ≠ 0 then (K49  s14) else (ev_if ((0 : Int) ≤ x7 ∧ x7 < (ev_aln 674 : Int)) (ev_b (s14.1 674 (Int.toNat x7)) fun x35 => ev_if ((0 : Int) ≤ x35 ∧ x35 < (ev_aln 673 : Int)) (ev_b (s14.1 673 (Int.toNat x35)) fun x36 => if x36 = 0 then (K54 0 s14) else (K49  s14)))))
def jl_319_21 (Q : Nat) (a0 : Int)  : Nat → Int → Int → Int → ev_St → Option ((Int) × ev_St)
  | 0 => fun _ _ _ _ => none
  | q + 1 => jb_319_21 Q a0  (jl_319_21 Q a0  q)
theorem jbt_319_21 (d : Nat) (hd : 4 ≤ d + 1) (Q : Nat) (a0 : Int) (ha0 : ev_rng a0)   (K21 : Int → Int → Int → ev_St → Option ((Int) × ev_St)) (hK21 : ∀ (x5 : Int) (hx5 : ev_rng x5), ∀ (x6 : Int) (hx6 : ev_rng x6), ∀ (x7 : Int) (hx7 : ev_rng x7), ∀ (s14 : ev_St) (w8 : List (Nat × Value)), ev_lk w8 0 = some (.ref 621) → ev_lk w8 1 = some (.int (Int32.ofInt a0)) → ev_lk w8 2 = some (.int (Int32.ofInt x5)) → ev_lk w8 3 = some (.int (Int32.ofInt x6)) → ev_lk w8 4 = some (.int (Int32.ofInt x7)) → ev_w none (ev_Mof 319) d 21 w8 [] s14 (K21 x5 x6 x7 s14) ev_eI ev_rng) : ∀ (x5 : Int) (hx5 : ev_rng x5), ∀ (x6 : Int) (hx6 : ev_rng x6), ∀ (x7 : Int) (hx7 : ev_rng x7), ∀ (s14 : ev_St) (w8 : List (Nat × Value)), ev_lk w8 0 = some (.ref 621) → ev_lk w8 1 = some (.int (Int32.ofInt a0)) → ev_lk w8 2 = some (.int (Int32.ofInt x5)) → ev_lk w8 3 = some (.int (Int32.ofInt x6)) → ev_lk w8 4 = some (.int (Int32.ofInt x7)) → ev_w none (ev_Mof 319) d 21 w8 [] s14 (jb_319_21 Q a0  K21 x5 x6 x7 s14) ev_eI ev_rng := by
  intro x5 hx5 x6 hx6 x7 hx7 s14 w8 e9 e10 e11 e12 e13
  unfold jb_319_21
  refine ev_r_iload (pc := 21) (k := 4) (v := Int32.ofInt x7) (by decide +kernel) (by exact e13) ?_
  refine ev_r_aload_n (pc := 23) (k := 0) (v := .ref 621) trivial (by decide +kernel) (by exact e9) ?_
  refine ev_r_getI (pc := 24) (y := 695) (ci := 13) (f := 68) (fin := 0) (by decide +kernel) (by decide +kernel) (by exact ev_ob_621) rfl ?_
  intro x15 hx15
  refine ev_r_icmp (pc := 27) (q := .ge) (o := 34) (t := 61) (c := x15 ≤ x7) (by decide +kernel) (ev_k_ge hx7 hx15) (by decide +kernel) ?_ ?_
  · intro c16
    refine ev_r_iload_n (pc := 61) (k := 3) (v := Int32.ofInt x6) (by decide +kernel) (by exact e12) ?_
    refine ev_r_if (pc := 62) (q := .eq) (o := 17) (t := 79) (c := x6 = 0) (by decide +kernel) (ev_k_eq hx6 ev_rng0) (by decide +kernel) ?_ ?_
    · intro c17
      refine ev_r_iload_n (pc := 79) (k := 2) (v := Int32.ofInt x5) (by decide +kernel) (by exact e11) ?_
      exact ev_r_ireturn (pc := 80) (x := x5) (v := Int32.ofInt x5) (ty := .int) hx5 (by decide +kernel) (by decide +kernel) rfl rfl
    · intro c17
      refine ev_r_aload_n (pc := 65) (k := 0) (v := .ref 621) trivial (by decide +kernel) (by exact e9) ?_
      refine ev_r_getC (pc := 66) (y := 312) (ci := 13) (f := 142) (fin := 1) (k' := 720) (by decide +kernel) (by decide +kernel) (by exact ev_ob_621) rfl rfl ?_
      refine ev_r_iload_n (pc := 69) (k := 1) (v := Int32.ofInt a0) (by decide +kernel) (by exact e10) ?_
      refine ev_r_bald (pc := 70) (ty := .boolean) (Or.inr rfl) ha0 (by decide +kernel) (by exact ev_ab_720) ?_
      intro x18 hx18
      refine ev_r_if (pc := 71) (q := .ne) (o := 8) (t := 79) (c := x18 ≠ 0) (by decide +kernel) (ev_k_ne hx18 ev_rng0) (by decide +kernel) ?_ ?_
      · intro c19
        refine ev_r_iload_n (pc := 79) (k := 2) (v := Int32.ofInt x5) (by decide +kernel) (by exact e11) ?_
        exact ev_r_ireturn (pc := 80) (x := x5) (v := Int32.ofInt x5) (ty := .int) hx5 (by decide +kernel) (by decide +kernel) rfl rfl
      · intro c19
        refine ev_r_bipush (pc := 74) (k := -5) (by decide +kernel) (by decide +kernel) ?_
        refine ev_r_goto (pc := 76) (o := 4) (t := 80) (by decide +kernel) (by decide +kernel) ?_
        exact ev_r_ireturn (pc := 80) (x := (-5)) (v := Int32.ofInt ((-5))) (ty := .int) (by decide) (by decide +kernel) (by decide +kernel) rfl rfl
  · intro c16
    refine ev_r_iload_n (pc := 30) (k := 3) (v := Int32.ofInt x6) (by decide +kernel) (by exact e12) ?_
    refine ev_r_jn (Q := fun K => ∀ (x20 : Int) (hx20 : ev_rng x20), ∀ (s26 : ev_St) (w21 : List (Nat × Value)), ev_lk w21 0 = some (.ref 621) → ev_lk w21 1 = some (.int (Int32.ofInt a0)) → ev_lk w21 2 = some (.int (Int32.ofInt x5)) → ev_lk w21 4 = some (.int (Int32.ofInt x7)) → ev_w none (ev_Mof 319) d 54 w21 [.int (Int32.ofInt x20)] s26 (K x20 s26) ev_eI ev_rng) ?_ ?_
    · intro x20 hx20 s26 w21 e22 e23 e24 e25
      refine ev_r_istore_n (pc := 54) (k := 3) (by decide +kernel) (by decide +kernel) rfl ?_
      refine ev_r_iinc (pc := 55) (k := 4) (c := 1) (x := x7) (by decide +kernel) (by decide +kernel) (by exact (ev_l1 e25 (by decide) (by decide))) (fun _ => rfl) ?_
      intro x27 hx27
      refine ev_r_goto (pc := 58) (o := (-37)) (t := 21) (by decide +kernel) (by decide +kernel) ?_
      exact hK21 x5 hx5 x20 hx20 x27 hx27 s26 _ (by exact (ev_l1 (ev_l1 e22 (by decide) (by decide)) (by decide) (by decide))) (by exact (ev_l1 (ev_l1 e23 (by decide) (by decide)) (by decide) (by decide))) (by exact (ev_l1 (ev_lk_st1 e24 (by decide) rfl) (by decide) (by decide))) (by exact (ev_lk_st1 ev_lk_st1_self (by decide) rfl)) (by exact ev_lk_st1_self)
    · intro K54 hK54
      refine ev_r_jn (Q := fun K => ∀ (s33 : ev_St) (w28 : List (Nat × Value)), ev_lk w28 0 = some (.ref 621) → ev_lk w28 1 = some (.int (Int32.ofInt a0)) → ev_lk w28 2 = some (.int (Int32.ofInt x5)) → ev_lk w28 4 = some (.int (Int32.ofInt x7)) → ev_w none (ev_Mof 319) d 49 w28 [] s33 (K  s33) ev_eI ev_rng) ?_ ?_
      · intro  s33 w28 e29 e30 e31 e32
        refine ev_r_iconst (pc := 49) (k := 1) (by decide +kernel) ?_
        refine ev_r_goto (pc := 50) (o := 4) (t := 54) (by decide +kernel) (by decide +kernel) ?_
        exact hK54 1 (by decide) s33 _ (by exact e29) (by exact e30) (by exact e31) (by exact e32)
      · intro K49 hK49
        refine ev_r_if (pc := 31) (q := .ne) (o := 18) (t := 49) (c := x6 ≠ 0) (by decide +kernel) (ev_k_ne hx6 ev_rng0) (by decide +kernel) ?_ ?_
        · intro c34
          exact hK49  s14 _ (by exact e9) (by exact e10) (by exact e11) (by exact e13)
        · intro c34
          refine ev_r_aload_n (pc := 34) (k := 0) (v := .ref 621) trivial (by decide +kernel) (by exact e9) ?_
          refine ev_r_getC (pc := 35) (y := 166) (ci := 13) (f := 67) (fin := 1) (k' := 673) (by decide +kernel) (by decide +kernel) (by exact ev_ob_621) rfl rfl ?_
          refine ev_r_aload_n (pc := 38) (k := 0) (v := .ref 621) trivial (by decide +kernel) (by exact e9) ?_
          refine ev_r_getC (pc := 39) (y := 169) (ci := 13) (f := 69) (fin := 1) (k' := 674) (by decide +kernel) (by decide +kernel) (by exact ev_ob_621) rfl rfl ?_
          refine ev_r_iload (pc := 42) (k := 4) (v := Int32.ofInt x7) (by decide +kernel) (by exact e13) ?_
          refine ev_r_iald (pc := 44) hx7 (by decide +kernel) (by exact ev_ab_674) ?_
          intro x35 hx35
          refine ev_r_bald (pc := 45) (ty := .boolean) (Or.inr rfl) hx35 (by decide +kernel) (by exact ev_ab_673) ?_
          intro x36 hx36
          refine ev_r_if (pc := 46) (q := .eq) (o := 7) (t := 53) (c := x36 = 0) (by decide +kernel) (ev_k_eq hx36 ev_rng0) (by decide +kernel) ?_ ?_
          · intro c37
            refine ev_r_iconst (pc := 53) (k := 0) (by decide +kernel) ?_
            exact hK54 0 (by decide) s14 _ (by exact e9) (by exact e10) (by exact e11) (by exact e13)
          · intro c37
            exact hK49  s14 _ (by exact e9) (by exact e10) (by exact e11) (by exact e13)
theorem jlt_319_21 (d : Nat) (hd : 4 ≤ d + 1) (Q : Nat) (a0 : Int) (ha0 : ev_rng a0)   : ∀ q : Nat, ∀ (x5 : Int) (hx5 : ev_rng x5), ∀ (x6 : Int) (hx6 : ev_rng x6), ∀ (x7 : Int) (hx7 : ev_rng x7), ∀ (s14 : ev_St) (w8 : List (Nat × Value)), ev_lk w8 0 = some (.ref 621) → ev_lk w8 1 = some (.int (Int32.ofInt a0)) → ev_lk w8 2 = some (.int (Int32.ofInt x5)) → ev_lk w8 3 = some (.int (Int32.ofInt x6)) → ev_lk w8 4 = some (.int (Int32.ofInt x7)) → ev_w none (ev_Mof 319) d 21 w8 [] s14 (jl_319_21 Q a0  q x5 x6 x7 s14) ev_eI ev_rng := by
  intro q
  induction q with
  | zero =>
    intro x5 hx5 x6 hx6 x7 hx7 s14 w8 e9 e10 e11 e12 e13
    exact ev_w_none
  | succ q ih => exact jbt_319_21 d hd Q a0 ha0   _ ih
/-- MendBenchModel.tells(I)I -/
def jm_319 (Q : Nat) (a0 : Int) (S : ev_St) : Option ((Int) × ev_St) := ev_bd (jm_318 Q a0 S) fun x2 s1 => ev_if ((0 : Int) ≤ a0 ∧ a0 < (ev_aln 718 : Int)) (ev_b (s1.1 718 (Int.toNat a0)) fun x3 => ev_bd (jm_316 Q x3 s1) fun _ s4 => jl_319_21 Q a0  Q x2 0 0 s4)
theorem jt_319 (d : Nat) (hd : 4 ≤ d) (Q : Nat) (a0 : Int) (ha0 : ev_rng a0) (S : ev_St) (x : Int) (S' : ev_St) (hJ : jm_319 Q a0 S = some (x, S')) : ev_Ref d 319 [.ref 621, .int (Int32.ofInt a0)] S (ev_eI x) S' (ev_rng x) := by
  obtain ⟨d, rfl⟩ : ∃ e, d = e + 1 := ⟨d - 1, by omega⟩
  refine ev_ref_of (P := ev_rng) (lv := [(0, .ref 621), (1, .int (Int32.ofInt a0))]) (by decide +kernel) (by (try simp only [ev_sum, ev_nv_cat]); first | done | rfl) (by (try simp only [lv_args, ev_nv_cat]); first | done | rfl) ?_ x S' hJ
  unfold jm_319
  refine ev_r_aload_n (pc := 0) (k := 0) (v := .ref 621) trivial (by decide +kernel) (by rfl) ?_
  refine ev_r_iload_n (pc := 1) (k := 1) (v := Int32.ofInt a0) (by decide +kernel) (by rfl) ?_
  refine ev_r_virt (pc := 2) (y := 701) (mi := 318) (na := 1) (k := 621) (as := [.int (Int32.ofInt a0)]) (rest := []) (encc := ev_oI) (Q := ev_rng) (fun x S1 h => jt_318 d (by omega) Q a0 ha0 S x S1 h) (by exact ev_ob_621) (by decide +kernel) (by decide +kernel) (by decide +kernel) (by decide +kernel) rfl (by (try simp only [ev_sum, ev_nv_cat]); first | done | rfl) ?_
  intro x2 s1 hx2
  show ev_w _ _ _ _ _ [.int (Int32.ofInt x2)] _ _ _ _
  refine ev_r_istore_n (pc := 5) (k := 2) (by decide +kernel) (by decide +kernel) rfl ?_
  refine ev_r_iconst (pc := 6) (k := 0) (by decide +kernel) ?_
  refine ev_r_istore_n (pc := 7) (k := 3) (by decide +kernel) (by decide +kernel) rfl ?_
  refine ev_r_aload_n (pc := 8) (k := 0) (v := .ref 621) trivial (by decide +kernel) (by exact (ev_l1 (ev_l1 (by rfl) (by decide) (by decide)) (by decide) (by decide))) ?_
  refine ev_r_aload_n (pc := 9) (k := 0) (v := .ref 621) trivial (by decide +kernel) (by exact (ev_l1 (ev_l1 (by rfl) (by decide) (by decide)) (by decide) (by decide))) ?_
  refine ev_r_getC (pc := 10) (y := 306) (ci := 13) (f := 140) (fin := 1) (k' := 718) (by decide +kernel) (by decide +kernel) (by exact ev_ob_621) rfl rfl ?_
  refine ev_r_iload_n (pc := 13) (k := 1) (v := Int32.ofInt a0) (by decide +kernel) (by exact (ev_l1 (ev_lk_st1 (by rfl) (by decide) rfl) (by decide) (by decide))) ?_
  refine ev_r_iald (pc := 14) ha0 (by decide +kernel) (by exact ev_ab_718) ?_
  intro x3 hx3
  refine ev_r_virt (pc := 15) (y := 704) (mi := 316) (na := 1) (k := 621) (as := [.int (Int32.ofInt x3)]) (rest := []) (encc := ev_oU) (Q := ev_PU) (fun x S1 h => jt_316 d (by omega) Q x3 hx3 s1 x S1 h) (by exact ev_ob_621) (by decide +kernel) (by decide +kernel) (by decide +kernel) (by decide +kernel) rfl (by (try simp only [ev_sum, ev_nv_cat]); first | done | rfl) ?_
  intro _ s4 _
  show ev_w _ _ _ _ _ [] _ _ _ _
  refine ev_r_iconst (pc := 18) (k := 0) (by decide +kernel) ?_
  refine ev_r_istore (pc := 19) (k := 4) (by decide +kernel) (by decide +kernel) rfl ?_
  exact jlt_319_21 d hd Q a0 ha0   Q x2 hx2 0 (by decide) 0 (by decide) s4 _ (by exact (ev_l1 (ev_l1 (ev_l1 (by rfl) (by decide) (by decide)) (by decide) (by decide)) (by decide) (by decide))) (by exact (ev_l1 (ev_l1 (ev_lk_st1 (by rfl) (by decide) rfl) (by decide) (by decide)) (by decide) (by decide))) (by exact (ev_l1 (ev_lk_st1 ev_lk_st1_self (by decide) rfl) (by decide) (by decide))) (by exact (ev_lk_st1 ev_lk_st1_self (by decide) rfl)) (by exact ev_lk_st1_self)
/-- MendBenchModel.isStream(I)Z -/
def jm_320 (Q : Nat) (a0 : Int) (S : ev_St) : Option ((Int) × ev_St) := ev_b (S.1 621 139) fun x1 => ev_ck (x1 - 1) fun x2 => ev_bd (jm_222 Q a0 0 x2 S) fun x4 s3 => ev_if (ev_bl x4) (some (x4, s3))
theorem jt_320 (d : Nat) (hd : 2 ≤ d) (Q : Nat) (a0 : Int) (ha0 : ev_rng a0) (S : ev_St) (x : Int) (S' : ev_St) (hJ : jm_320 Q a0 S = some (x, S')) : ev_Ref d 320 [.ref 621, .int (Int32.ofInt a0)] S (ev_eI x) S' (ev_bl x) := by
  obtain ⟨d, rfl⟩ : ∃ e, d = e + 1 := ⟨d - 1, by omega⟩
  refine ev_ref_of (P := ev_bl) (lv := [(0, .ref 621), (1, .int (Int32.ofInt a0))]) (by decide +kernel) (by (try simp only [ev_sum, ev_nv_cat]); first | done | rfl) (by (try simp only [lv_args, ev_nv_cat]); first | done | rfl) ?_ x S' hJ
  unfold jm_320
  refine ev_r_iload_n (pc := 0) (k := 1) (v := Int32.ofInt a0) (by decide +kernel) (by rfl) ?_
  refine ev_r_iconst (pc := 1) (k := 0) (by decide +kernel) ?_
  refine ev_r_aload_n (pc := 2) (k := 0) (v := .ref 621) trivial (by decide +kernel) (by rfl) ?_
  refine ev_r_getI (pc := 3) (y := 707) (ci := 13) (f := 139) (fin := 0) (by decide +kernel) (by decide +kernel) (by exact ev_ob_621) rfl ?_
  intro x1 hx1
  refine ev_r_iconst (pc := 6) (k := 1) (by decide +kernel) ?_
  refine ev_r_isub (pc := 7) (by decide +kernel) ?_
  intro x2 hx2
  refine ev_r_stat (pc := 8) (y := 325) (kind := 2) (mi := 222) (na := 3) (as := [.int (Int32.ofInt a0), .int (Int32.ofInt 0), .int (Int32.ofInt x2)]) (rest := []) (encc := ev_oI) (Q := ev_bl) (fun x S1 h => jt_222 d (by omega) Q a0 0 x2 ha0 (by decide) hx2 S x S1 h) (Or.inl rfl) (by decide +kernel) (by decide +kernel) (by decide +kernel) (by decide +kernel) rfl (by (try simp only [ev_sum, ev_nv_cat]); first | done | rfl) ?_
  intro x4 s3 hx4
  replace hx4 := ev_bl_rng hx4
  show ev_w _ _ _ _ _ [.int (Int32.ofInt x4)] _ _ _ _
  refine ev_r_chk ?_
  intro c5
  exact ev_r_ireturn (pc := 11) (x := x4) (v := Int32.ofInt x4) (ty := .boolean) c5 (by decide +kernel) (by decide +kernel) (ev_ret_bl c5) rfl
/-- MendBenchModel.stream(IZ)I -/
def jm_321 (Q : Nat) (a0 : Int) (a1 : Int) (S : ev_St) : Option ((Int) × ev_St) := ev_b (ev_pI S 621 0 0) fun s1 => ev_bd (jm_273 Q a0 s1) fun x3 s2 => if x3 ≠ 0 then (ev_if ((0 : Int) ≤ a0 ∧ a0 < (ev_aln 639 : Int)) (ev_b (s2.1 639 (Int.toNat a0)) fun x5 => ev_jn (fun  (s8 : ev_St) => ev_bd (jm_221 Q 2 s8) fun x10 s9 => some (x10, s9)) fun K37 => if x5 < 2 then (K37  s2) else (ev_b (s2.1 621 139) fun x12 => if x12 ≠ 4 then (ev_b (s2.1 621 139) fun x14 => ev_if ((0 : Int) ≤ x14 ∧ x14 < (ev_aln 718 : Int)) (ev_b (ev_pI s2 718 (Int.toNat x14) a0) fun s15 => ev_b (s15.1 621 139) fun x16 => ev_if (ev_bl a1) (ev_if ((0 : Int) ≤ x16 ∧ x16 < (ev_aln 719 : Int)) (ev_b (ev_pI s15 719 (Int.toNat x16) a1) fun s17 => ev_b (s17.1 621 139) fun x19 => ev_ck (x19 + 1) fun x20 => ev_b (ev_pI s17 621 139 x20) fun s21 => ev_b (s21.1 621 139) fun x22 => ev_ck (x22 - 1) fun x23 => some (x23, s21))))) else (K37  s2)))) else (ev_bd (jm_221 Q 1 s2) fun x25 s24 => some (x25, s24))
theorem jt_321 (d : Nat) (hd : 3 ≤ d) (Q : Nat) (a0 : Int) (a1 : Int) (ha0 : ev_rng a0) (ha1 : ev_rng a1) (S : ev_St) (x : Int) (S' : ev_St) (hJ : jm_321 Q a0 a1 S = some (x, S')) : ev_Ref d 321 [.ref 621, .int (Int32.ofInt a0), .int (Int32.ofInt a1)] S (ev_eI x) S' (ev_rng x) := by
  obtain ⟨d, rfl⟩ : ∃ e, d = e + 1 := ⟨d - 1, by omega⟩
  refine ev_ref_of (P := ev_rng) (lv := [(0, .ref 621), (1, .int (Int32.ofInt a0)), (2, .int (Int32.ofInt a1))]) (by decide +kernel) (by (try simp only [ev_sum, ev_nv_cat]); first | done | rfl) (by (try simp only [lv_args, ev_nv_cat]); first | done | rfl) ?_ x S' hJ
  unfold jm_321
  refine ev_r_aload_n (pc := 0) (k := 0) (v := .ref 621) trivial (by decide +kernel) (by rfl) ?_
  refine ev_r_iconst (pc := 1) (k := 0) (by decide +kernel) ?_
  refine ev_r_putI (pc := 2) (y := 321) (ci := 13) (f := 0) (by decide) (by decide +kernel) (by decide +kernel) (by exact ev_ob_621) rfl rfl ?_
  intro s1
  refine ev_r_aload_n (pc := 5) (k := 0) (v := .ref 621) trivial (by decide +kernel) (by rfl) ?_
  refine ev_r_iload_n (pc := 6) (k := 1) (v := Int32.ofInt a0) (by decide +kernel) (by rfl) ?_
  refine ev_r_virt (pc := 7) (y := 531) (mi := 273) (na := 1) (k := 621) (as := [.int (Int32.ofInt a0)]) (rest := []) (encc := ev_oI) (Q := ev_bl) (fun x S1 h => jt_273 d (by omega) Q a0 ha0 s1 x S1 h) (by exact ev_ob_621) (by decide +kernel) (by decide +kernel) (by decide +kernel) (by decide +kernel) rfl (by (try simp only [ev_sum, ev_nv_cat]); first | done | rfl) ?_
  intro x3 s2 hx3
  replace hx3 := ev_bl_rng hx3
  show ev_w _ _ _ _ _ [.int (Int32.ofInt x3)] _ _ _ _
  refine ev_r_if (pc := 10) (q := .ne) (o := 9) (t := 19) (c := x3 ≠ 0) (by decide +kernel) (ev_k_ne hx3 ev_rng0) (by decide +kernel) ?_ ?_
  · intro c4
    refine ev_r_aload_n (pc := 19) (k := 0) (v := .ref 621) trivial (by decide +kernel) (by rfl) ?_
    refine ev_r_getC (pc := 20) (y := 62) (ci := 13) (f := 20) (fin := 1) (k' := 639) (by decide +kernel) (by decide +kernel) (by exact ev_ob_621) rfl rfl ?_
    refine ev_r_iload_n (pc := 23) (k := 1) (v := Int32.ofInt a0) (by decide +kernel) (by rfl) ?_
    refine ev_r_iald (pc := 24) ha0 (by decide +kernel) (by exact ev_ab_639) ?_
    intro x5 hx5
    refine ev_r_iconst (pc := 25) (k := 2) (by decide +kernel) ?_
    refine ev_r_jn (Q := fun K => ∀ (s8 : ev_St) (w6 : List (Nat × Value)), ev_lk w6 0 = some (.ref 621) → ev_w none (ev_Mof 321) d 37 w6 [] s8 (K  s8) ev_eI ev_rng) ?_ ?_
    · intro  s8 w6 e7
      refine ev_r_aload_n (pc := 37) (k := 0) (v := .ref 621) trivial (by decide +kernel) (by exact e7) ?_
      refine ev_r_iconst (pc := 38) (k := 2) (by decide +kernel) ?_
      refine ev_r_virt (pc := 39) (y := 342) (mi := 221) (na := 1) (k := 621) (as := [.int (Int32.ofInt 2)]) (rest := []) (encc := ev_oI) (Q := ev_rng) (fun x S1 h => jt_221 d (by omega) Q 2 (by decide) s8 x S1 h) (by exact ev_ob_621) (by decide +kernel) (by decide +kernel) (by decide +kernel) (by decide +kernel) rfl (by (try simp only [ev_sum, ev_nv_cat]); first | done | rfl) ?_
      intro x10 s9 hx10
      show ev_w _ _ _ _ _ [.int (Int32.ofInt x10)] _ _ _ _
      exact ev_r_ireturn (pc := 42) (x := x10) (v := Int32.ofInt x10) (ty := .int) hx10 (by decide +kernel) (by decide +kernel) rfl rfl
    · intro K37 hK37
      refine ev_r_icmp (pc := 26) (q := .lt) (o := 11) (t := 37) (c := x5 < 2) (by decide +kernel) (ev_k_lt hx5 (by decide)) (by decide +kernel) ?_ ?_
      · intro c11
        exact hK37  s2 _ (by rfl)
      · intro c11
        refine ev_r_aload_n (pc := 29) (k := 0) (v := .ref 621) trivial (by decide +kernel) (by rfl) ?_
        refine ev_r_getI (pc := 30) (y := 707) (ci := 13) (f := 139) (fin := 0) (by decide +kernel) (by decide +kernel) (by exact ev_ob_621) rfl ?_
        intro x12 hx12
        refine ev_r_iconst (pc := 33) (k := 4) (by decide +kernel) ?_
        refine ev_r_icmp (pc := 34) (q := .ne) (o := 9) (t := 43) (c := x12 ≠ 4) (by decide +kernel) (ev_k_ne hx12 (by decide)) (by decide +kernel) ?_ ?_
        · intro c13
          refine ev_r_aload_n (pc := 43) (k := 0) (v := .ref 621) trivial (by decide +kernel) (by rfl) ?_
          refine ev_r_getC (pc := 44) (y := 306) (ci := 13) (f := 140) (fin := 1) (k' := 718) (by decide +kernel) (by decide +kernel) (by exact ev_ob_621) rfl rfl ?_
          refine ev_r_aload_n (pc := 47) (k := 0) (v := .ref 621) trivial (by decide +kernel) (by rfl) ?_
          refine ev_r_getI (pc := 48) (y := 707) (ci := 13) (f := 139) (fin := 0) (by decide +kernel) (by decide +kernel) (by exact ev_ob_621) rfl ?_
          intro x14 hx14
          refine ev_r_iload_n (pc := 51) (k := 1) (v := Int32.ofInt a0) (by decide +kernel) (by rfl) ?_
          refine ev_r_iast (pc := 52) ha0 hx14 (by decide +kernel) (by exact ev_ab_718) ?_
          intro s15
          refine ev_r_aload_n (pc := 53) (k := 0) (v := .ref 621) trivial (by decide +kernel) (by rfl) ?_
          refine ev_r_getC (pc := 54) (y := 309) (ci := 13) (f := 141) (fin := 1) (k' := 719) (by decide +kernel) (by decide +kernel) (by exact ev_ob_621) rfl rfl ?_
          refine ev_r_aload_n (pc := 57) (k := 0) (v := .ref 621) trivial (by decide +kernel) (by rfl) ?_
          refine ev_r_getI (pc := 58) (y := 707) (ci := 13) (f := 139) (fin := 0) (by decide +kernel) (by decide +kernel) (by exact ev_ob_621) rfl ?_
          intro x16 hx16
          refine ev_r_iload_n (pc := 61) (k := 2) (v := Int32.ofInt a1) (by decide +kernel) (by rfl) ?_
          refine ev_r_chk ?_
          intro c18
          refine ev_r_bast (pc := 62) (ty := .boolean) (Or.inr rfl) (ev_nar_bl c18) ha1 hx16 (by decide +kernel) (by exact ev_ab_719) ?_
          intro s17
          refine ev_r_aload_n (pc := 63) (k := 0) (v := .ref 621) trivial (by decide +kernel) (by rfl) ?_
          refine ev_r_dup (pc := 64) rfl (by decide +kernel) ?_
          refine ev_r_getI (pc := 65) (y := 707) (ci := 13) (f := 139) (fin := 0) (by decide +kernel) (by decide +kernel) (by exact ev_ob_621) rfl ?_
          intro x19 hx19
          refine ev_r_iconst (pc := 68) (k := 1) (by decide +kernel) ?_
          refine ev_r_iadd (pc := 69) (by decide +kernel) ?_
          intro x20 hx20
          refine ev_r_putI (pc := 70) (y := 707) (ci := 13) (f := 139) hx20 (by decide +kernel) (by decide +kernel) (by exact ev_ob_621) rfl rfl ?_
          intro s21
          refine ev_r_aload_n (pc := 73) (k := 0) (v := .ref 621) trivial (by decide +kernel) (by rfl) ?_
          refine ev_r_getI (pc := 74) (y := 707) (ci := 13) (f := 139) (fin := 0) (by decide +kernel) (by decide +kernel) (by exact ev_ob_621) rfl ?_
          intro x22 hx22
          refine ev_r_iconst (pc := 77) (k := 1) (by decide +kernel) ?_
          refine ev_r_isub (pc := 78) (by decide +kernel) ?_
          intro x23 hx23
          exact ev_r_ireturn (pc := 79) (x := x23) (v := Int32.ofInt x23) (ty := .int) hx23 (by decide +kernel) (by decide +kernel) rfl rfl
        · intro c13
          exact hK37  s2 _ (by rfl)
  · intro c4
    refine ev_r_aload_n (pc := 13) (k := 0) (v := .ref 621) trivial (by decide +kernel) (by rfl) ?_
    refine ev_r_iconst (pc := 14) (k := 1) (by decide +kernel) ?_
    refine ev_r_virt (pc := 15) (y := 342) (mi := 221) (na := 1) (k := 621) (as := [.int (Int32.ofInt 1)]) (rest := []) (encc := ev_oI) (Q := ev_rng) (fun x S1 h => jt_221 d (by omega) Q 1 (by decide) s2 x S1 h) (by exact ev_ob_621) (by decide +kernel) (by decide +kernel) (by decide +kernel) (by decide +kernel) rfl (by (try simp only [ev_sum, ev_nv_cat]); first | done | rfl) ?_
    intro x25 s24 hx25
    show ev_w _ _ _ _ _ [.int (Int32.ofInt x25)] _ _ _ _
    exact ev_r_ireturn (pc := 18) (x := x25) (v := Int32.ofInt x25) (ty := .int) hx25 (by decide +kernel) (by decide +kernel) rfl rfl
def jb_322_52 (Q : Nat) (a0 : Int)  (K52 : Int → ev_St → Option ((Int) × ev_St)) (x16 : Int) (s21 : ev_St) : Option ((Int) × ev_St) := ev_b (s21.1 621 1) fun x22 => if x22 ≤ x16 then (ev_b (ev_pI s21 621 1 0) fun s24 => ev_bd (jm_319 Q a0 s24) fun x26 s25 => some (x26, s25)) else (ev_ck (80 * a0) fun x27 => ev_if ((0 : Int) ≤ a0 ∧ a0 < (ev_aln 721 : Int)) (ev_b (s21.1 721 (Int.toNat a0)) fun x28 => ev_ck (x27 + x28) fun x29 => ev_if ((0 : Int) ≤ x16 ∧ x16 < (ev_aln 622 : Int)) (ev_b (s21.1 622 (Int.toNat x16)) fun x30 => ev_if ((0 : Int) ≤ x29 ∧ x29 < (ev_aln 722 : Int)) (ev_b (ev_pI s21 722 (Int.toNat x29) x30) fun s31 => ev_if ((0 : Int) ≤ a0 ∧ a0 < (ev_aln 721 : Int)) (ev_b (s31.1 721 (Int.toNat a0)) fun x32 => ev_ck (x32 + 1) fun x33 => ev_if ((0 : Int) ≤ a0 ∧ a0 < (ev_aln 721 : Int)) (ev_b (ev_pI s31 721 (Int.toNat a0) x33) fun s34 => ev_ck (x16 + 1) fun x35 => K52 x35 s34))))))
def jl_322_52 (Q : Nat) (a0 : Int)  : Nat → Int → ev_St → Option ((Int) × ev_St)
  | 0 => fun _ _ => none
  | q + 1 => jb_322_52 Q a0  (jl_322_52 Q a0  q)
theorem jbt_322_52 (d : Nat) (hd : 5 ≤ d + 1) (Q : Nat) (a0 : Int) (ha0 : ev_rng a0)   (K52 : Int → ev_St → Option ((Int) × ev_St)) (hK52 : ∀ (x16 : Int) (hx16 : ev_rng x16), ∀ (s21 : ev_St) (w17 : List (Nat × Value)), ev_lk w17 0 = some (.ref 621) → ev_lk w17 1 = some (.int (Int32.ofInt a0)) → ev_lk w17 2 = some (.int (Int32.ofInt x16)) → ev_w none (ev_Mof 322) d 52 w17 [] s21 (K52 x16 s21) ev_eI ev_rng) : ∀ (x16 : Int) (hx16 : ev_rng x16), ∀ (s21 : ev_St) (w17 : List (Nat × Value)), ev_lk w17 0 = some (.ref 621) → ev_lk w17 1 = some (.int (Int32.ofInt a0)) → ev_lk w17 2 = some (.int (Int32.ofInt x16)) → ev_w none (ev_Mof 322) d 52 w17 [] s21 (jb_322_52 Q a0  K52 x16 s21) ev_eI ev_rng := by
  intro x16 hx16 s21 w17 e18 e19 e20
  unfold jb_322_52
  refine ev_r_iload_n (pc := 52) (k := 2) (v := Int32.ofInt x16) (by decide +kernel) (by exact e20) ?_
  refine ev_r_aload_n (pc := 53) (k := 0) (v := .ref 621) trivial (by decide +kernel) (by exact e18) ?_
  refine ev_r_getI (pc := 54) (y := 346) (ci := 13) (f := 1) (fin := 0) (by decide +kernel) (by decide +kernel) (by exact ev_ob_621) rfl ?_
  intro x22 hx22
  refine ev_r_icmp (pc := 57) (q := .ge) (o := 41) (t := 98) (c := x22 ≤ x16) (by decide +kernel) (ev_k_ge hx16 hx22) (by decide +kernel) ?_ ?_
  · intro c23
    refine ev_r_aload_n (pc := 98) (k := 0) (v := .ref 621) trivial (by decide +kernel) (by exact e18) ?_
    refine ev_r_iconst (pc := 99) (k := 0) (by decide +kernel) ?_
    refine ev_r_putI (pc := 100) (y := 346) (ci := 13) (f := 1) (by decide) (by decide +kernel) (by decide +kernel) (by exact ev_ob_621) rfl rfl ?_
    intro s24
    refine ev_r_aload_n (pc := 103) (k := 0) (v := .ref 621) trivial (by decide +kernel) (by exact e18) ?_
    refine ev_r_iload_n (pc := 104) (k := 1) (v := Int32.ofInt a0) (by decide +kernel) (by exact e19) ?_
    refine ev_r_virt (pc := 105) (y := 713) (mi := 319) (na := 1) (k := 621) (as := [.int (Int32.ofInt a0)]) (rest := []) (encc := ev_oI) (Q := ev_rng) (fun x S1 h => jt_319 d (by omega) Q a0 ha0 s24 x S1 h) (by exact ev_ob_621) (by decide +kernel) (by decide +kernel) (by decide +kernel) (by decide +kernel) rfl (by (try simp only [ev_sum, ev_nv_cat]); first | done | rfl) ?_
    intro x26 s25 hx26
    show ev_w _ _ _ _ _ [.int (Int32.ofInt x26)] _ _ _ _
    exact ev_r_ireturn (pc := 108) (x := x26) (v := Int32.ofInt x26) (ty := .int) hx26 (by decide +kernel) (by decide +kernel) rfl rfl
  · intro c23
    refine ev_r_aload_n (pc := 60) (k := 0) (v := .ref 621) trivial (by decide +kernel) (by exact e18) ?_
    refine ev_r_getC (pc := 61) (y := 318) (ci := 13) (f := 144) (fin := 1) (k' := 722) (by decide +kernel) (by decide +kernel) (by exact ev_ob_621) rfl rfl ?_
    refine ev_r_bipush (pc := 64) (k := 80) (by decide +kernel) (by decide +kernel) ?_
    refine ev_r_iload_n (pc := 66) (k := 1) (v := Int32.ofInt a0) (by decide +kernel) (by exact e19) ?_
    refine ev_r_imul (pc := 67) (by decide +kernel) ?_
    intro x27 hx27
    refine ev_r_aload_n (pc := 68) (k := 0) (v := .ref 621) trivial (by decide +kernel) (by exact e18) ?_
    refine ev_r_getC (pc := 69) (y := 315) (ci := 13) (f := 143) (fin := 1) (k' := 721) (by decide +kernel) (by decide +kernel) (by exact ev_ob_621) rfl rfl ?_
    refine ev_r_iload_n (pc := 72) (k := 1) (v := Int32.ofInt a0) (by decide +kernel) (by exact e19) ?_
    refine ev_r_iald (pc := 73) ha0 (by decide +kernel) (by exact ev_ab_721) ?_
    intro x28 hx28
    refine ev_r_iadd (pc := 74) (by decide +kernel) ?_
    intro x29 hx29
    refine ev_r_aload_n (pc := 75) (k := 0) (v := .ref 621) trivial (by decide +kernel) (by exact e18) ?_
    refine ev_r_getC (pc := 76) (y := 7) (ci := 13) (f := 2) (fin := 1) (k' := 622) (by decide +kernel) (by decide +kernel) (by exact ev_ob_621) rfl rfl ?_
    refine ev_r_iload_n (pc := 79) (k := 2) (v := Int32.ofInt x16) (by decide +kernel) (by exact e20) ?_
    refine ev_r_iald (pc := 80) hx16 (by decide +kernel) (by exact ev_ab_622) ?_
    intro x30 hx30
    refine ev_r_iast (pc := 81) hx30 hx29 (by decide +kernel) (by exact ev_ab_722) ?_
    intro s31
    refine ev_r_aload_n (pc := 82) (k := 0) (v := .ref 621) trivial (by decide +kernel) (by exact e18) ?_
    refine ev_r_getC (pc := 83) (y := 315) (ci := 13) (f := 143) (fin := 1) (k' := 721) (by decide +kernel) (by decide +kernel) (by exact ev_ob_621) rfl rfl ?_
    refine ev_r_iload_n (pc := 86) (k := 1) (v := Int32.ofInt a0) (by decide +kernel) (by exact e19) ?_
    refine ev_r_dup2 (pc := 87) rfl rfl (by decide +kernel) ?_
    refine ev_r_iald (pc := 88) ha0 (by decide +kernel) (by exact ev_ab_721) ?_
    intro x32 hx32
    refine ev_r_iconst (pc := 89) (k := 1) (by decide +kernel) ?_
    refine ev_r_iadd (pc := 90) (by decide +kernel) ?_
    intro x33 hx33
    refine ev_r_iast (pc := 91) hx33 ha0 (by decide +kernel) (by exact ev_ab_721) ?_
    intro s34
    refine ev_r_iinc (pc := 92) (k := 2) (c := 1) (x := x16) (by decide +kernel) (by decide +kernel) (by exact e20) (fun _ => rfl) ?_
    intro x35 hx35
    refine ev_r_goto (pc := 95) (o := (-43)) (t := 52) (by decide +kernel) (by decide +kernel) ?_
    exact hK52 x35 hx35 s34 _ (by exact (ev_l1 e18 (by decide) (by decide))) (by exact (ev_lk_st1 e19 (by decide) rfl)) (by exact ev_lk_st1_self)
theorem jlt_322_52 (d : Nat) (hd : 5 ≤ d + 1) (Q : Nat) (a0 : Int) (ha0 : ev_rng a0)   : ∀ q : Nat, ∀ (x16 : Int) (hx16 : ev_rng x16), ∀ (s21 : ev_St) (w17 : List (Nat × Value)), ev_lk w17 0 = some (.ref 621) → ev_lk w17 1 = some (.int (Int32.ofInt a0)) → ev_lk w17 2 = some (.int (Int32.ofInt x16)) → ev_w none (ev_Mof 322) d 52 w17 [] s21 (jl_322_52 Q a0  q x16 s21) ev_eI ev_rng := by
  intro q
  induction q with
  | zero =>
    intro x16 hx16 s21 w17 e18 e19 e20
    exact ev_w_none
  | succ q ih => exact jbt_322_52 d hd Q a0 ha0   _ ih
/-- MendBenchModel.feed(I)I -/
def jm_322 (Q : Nat) (a0 : Int) (S : ev_St) : Option ((Int) × ev_St) := ev_b (ev_pI S 621 0 0) fun s1 => ev_bd (jm_320 Q a0 s1) fun x3 s2 => if x3 ≠ 0 then (ev_if ((0 : Int) ≤ a0 ∧ a0 < (ev_aln 720 : Int)) (ev_b (s2.1 720 (Int.toNat a0)) fun x5 => ev_jn (fun  (s8 : ev_St) => ev_bd (jm_221 Q 2 s8) fun x10 s9 => some (x10, s9)) fun K44 => if x5 ≠ 0 then (K44  s2) else (ev_if ((0 : Int) ≤ a0 ∧ a0 < (ev_aln 721 : Int)) (ev_b (s2.1 721 (Int.toNat a0)) fun x12 => ev_b (s2.1 621 1) fun x13 => ev_ck (x12 + x13) fun x14 => if x14 ≤ 80 then (jl_322_52 Q a0  Q 0 s2) else (K44  s2))))) else (ev_bd (jm_221 Q 1 s2) fun x37 s36 => some (x37, s36))
theorem jt_322 (d : Nat) (hd : 5 ≤ d) (Q : Nat) (a0 : Int) (ha0 : ev_rng a0) (S : ev_St) (x : Int) (S' : ev_St) (hJ : jm_322 Q a0 S = some (x, S')) : ev_Ref d 322 [.ref 621, .int (Int32.ofInt a0)] S (ev_eI x) S' (ev_rng x) := by
  obtain ⟨d, rfl⟩ : ∃ e, d = e + 1 := ⟨d - 1, by omega⟩
  refine ev_ref_of (P := ev_rng) (lv := [(0, .ref 621), (1, .int (Int32.ofInt a0))]) (by decide +kernel) (by (try simp only [ev_sum, ev_nv_cat]); first | done | rfl) (by (try simp only [lv_args, ev_nv_cat]); first | done | rfl) ?_ x S' hJ
  unfold jm_322
  refine ev_r_aload_n (pc := 0) (k := 0) (v := .ref 621) trivial (by decide +kernel) (by rfl) ?_
  refine ev_r_iconst (pc := 1) (k := 0) (by decide +kernel) ?_
  refine ev_r_putI (pc := 2) (y := 321) (ci := 13) (f := 0) (by decide) (by decide +kernel) (by decide +kernel) (by exact ev_ob_621) rfl rfl ?_
  intro s1
  refine ev_r_aload_n (pc := 5) (k := 0) (v := .ref 621) trivial (by decide +kernel) (by rfl) ?_
  refine ev_r_iload_n (pc := 6) (k := 1) (v := Int32.ofInt a0) (by decide +kernel) (by rfl) ?_
  refine ev_r_virt (pc := 7) (y := 710) (mi := 320) (na := 1) (k := 621) (as := [.int (Int32.ofInt a0)]) (rest := []) (encc := ev_oI) (Q := ev_bl) (fun x S1 h => jt_320 d (by omega) Q a0 ha0 s1 x S1 h) (by exact ev_ob_621) (by decide +kernel) (by decide +kernel) (by decide +kernel) (by decide +kernel) rfl (by (try simp only [ev_sum, ev_nv_cat]); first | done | rfl) ?_
  intro x3 s2 hx3
  replace hx3 := ev_bl_rng hx3
  show ev_w _ _ _ _ _ [.int (Int32.ofInt x3)] _ _ _ _
  refine ev_r_if (pc := 10) (q := .ne) (o := 9) (t := 19) (c := x3 ≠ 0) (by decide +kernel) (ev_k_ne hx3 ev_rng0) (by decide +kernel) ?_ ?_
  · intro c4
    refine ev_r_aload_n (pc := 19) (k := 0) (v := .ref 621) trivial (by decide +kernel) (by rfl) ?_
    refine ev_r_getC (pc := 20) (y := 312) (ci := 13) (f := 142) (fin := 1) (k' := 720) (by decide +kernel) (by decide +kernel) (by exact ev_ob_621) rfl rfl ?_
    refine ev_r_iload_n (pc := 23) (k := 1) (v := Int32.ofInt a0) (by decide +kernel) (by rfl) ?_
    refine ev_r_bald (pc := 24) (ty := .boolean) (Or.inr rfl) ha0 (by decide +kernel) (by exact ev_ab_720) ?_
    intro x5 hx5
    refine ev_r_jn (Q := fun K => ∀ (s8 : ev_St) (w6 : List (Nat × Value)), ev_lk w6 0 = some (.ref 621) → ev_w none (ev_Mof 322) d 44 w6 [] s8 (K  s8) ev_eI ev_rng) ?_ ?_
    · intro  s8 w6 e7
      refine ev_r_aload_n (pc := 44) (k := 0) (v := .ref 621) trivial (by decide +kernel) (by exact e7) ?_
      refine ev_r_iconst (pc := 45) (k := 2) (by decide +kernel) ?_
      refine ev_r_virt (pc := 46) (y := 342) (mi := 221) (na := 1) (k := 621) (as := [.int (Int32.ofInt 2)]) (rest := []) (encc := ev_oI) (Q := ev_rng) (fun x S1 h => jt_221 d (by omega) Q 2 (by decide) s8 x S1 h) (by exact ev_ob_621) (by decide +kernel) (by decide +kernel) (by decide +kernel) (by decide +kernel) rfl (by (try simp only [ev_sum, ev_nv_cat]); first | done | rfl) ?_
      intro x10 s9 hx10
      show ev_w _ _ _ _ _ [.int (Int32.ofInt x10)] _ _ _ _
      exact ev_r_ireturn (pc := 49) (x := x10) (v := Int32.ofInt x10) (ty := .int) hx10 (by decide +kernel) (by decide +kernel) rfl rfl
    · intro K44 hK44
      refine ev_r_if (pc := 25) (q := .ne) (o := 19) (t := 44) (c := x5 ≠ 0) (by decide +kernel) (ev_k_ne hx5 ev_rng0) (by decide +kernel) ?_ ?_
      · intro c11
        exact hK44  s2 _ (by rfl)
      · intro c11
        refine ev_r_aload_n (pc := 28) (k := 0) (v := .ref 621) trivial (by decide +kernel) (by rfl) ?_
        refine ev_r_getC (pc := 29) (y := 315) (ci := 13) (f := 143) (fin := 1) (k' := 721) (by decide +kernel) (by decide +kernel) (by exact ev_ob_621) rfl rfl ?_
        refine ev_r_iload_n (pc := 32) (k := 1) (v := Int32.ofInt a0) (by decide +kernel) (by rfl) ?_
        refine ev_r_iald (pc := 33) ha0 (by decide +kernel) (by exact ev_ab_721) ?_
        intro x12 hx12
        refine ev_r_aload_n (pc := 34) (k := 0) (v := .ref 621) trivial (by decide +kernel) (by rfl) ?_
        refine ev_r_getI (pc := 35) (y := 346) (ci := 13) (f := 1) (fin := 0) (by decide +kernel) (by decide +kernel) (by exact ev_ob_621) rfl ?_
        intro x13 hx13
        refine ev_r_iadd (pc := 38) (by decide +kernel) ?_
        intro x14 hx14
        refine ev_r_bipush (pc := 39) (k := 80) (by decide +kernel) (by decide +kernel) ?_
        refine ev_r_icmp (pc := 41) (q := .le) (o := 9) (t := 50) (c := x14 ≤ 80) (by decide +kernel) (ev_k_le hx14 (by decide)) (by decide +kernel) ?_ ?_
        · intro c15
          refine ev_r_iconst (pc := 50) (k := 0) (by decide +kernel) ?_
          refine ev_r_istore_n (pc := 51) (k := 2) (by decide +kernel) (by decide +kernel) rfl ?_
          exact jlt_322_52 d hd Q a0 ha0   Q 0 (by decide) s2 _ (by exact (ev_l1 (by rfl) (by decide) (by decide))) (by exact (ev_lk_st1 (by rfl) (by decide) rfl)) (by exact ev_lk_st1_self)
        · intro c15
          exact hK44  s2 _ (by rfl)
  · intro c4
    refine ev_r_aload_n (pc := 13) (k := 0) (v := .ref 621) trivial (by decide +kernel) (by rfl) ?_
    refine ev_r_iconst (pc := 14) (k := 1) (by decide +kernel) ?_
    refine ev_r_virt (pc := 15) (y := 342) (mi := 221) (na := 1) (k := 621) (as := [.int (Int32.ofInt 1)]) (rest := []) (encc := ev_oI) (Q := ev_rng) (fun x S1 h => jt_221 d (by omega) Q 1 (by decide) s2 x S1 h) (by exact ev_ob_621) (by decide +kernel) (by decide +kernel) (by decide +kernel) (by decide +kernel) rfl (by (try simp only [ev_sum, ev_nv_cat]); first | done | rfl) ?_
    intro x37 s36 hx37
    show ev_w _ _ _ _ _ [.int (Int32.ofInt x37)] _ _ _ _
    exact ev_r_ireturn (pc := 18) (x := x37) (v := Int32.ofInt x37) (ty := .int) hx37 (by decide +kernel) (by decide +kernel) rfl rfl
/-- MendBenchModel.finish(I)I -/
def jm_323 (Q : Nat) (a0 : Int) (S : ev_St) : Option ((Int) × ev_St) := ev_b (ev_pI S 621 0 0) fun s1 => ev_bd (jm_320 Q a0 s1) fun x3 s2 => if x3 ≠ 0 then (ev_if ((0 : Int) ≤ a0 ∧ a0 < (ev_aln 720 : Int)) (ev_b (s2.1 720 (Int.toNat a0)) fun x5 => if x5 = 0 then (ev_if ((0 : Int) ≤ a0 ∧ a0 < (ev_aln 720 : Int)) (ev_b (ev_pI s2 720 (Int.toNat a0) 1) fun s7 => ev_bd (jm_319 Q a0 s7) fun x9 s8 => some (x9, s8))) else (ev_bd (jm_221 Q 2 s2) fun x11 s10 => some (x11, s10)))) else (ev_bd (jm_221 Q 1 s2) fun x13 s12 => some (x13, s12))
theorem jt_323 (d : Nat) (hd : 5 ≤ d) (Q : Nat) (a0 : Int) (ha0 : ev_rng a0) (S : ev_St) (x : Int) (S' : ev_St) (hJ : jm_323 Q a0 S = some (x, S')) : ev_Ref d 323 [.ref 621, .int (Int32.ofInt a0)] S (ev_eI x) S' (ev_rng x) := by
  obtain ⟨d, rfl⟩ : ∃ e, d = e + 1 := ⟨d - 1, by omega⟩
  refine ev_ref_of (P := ev_rng) (lv := [(0, .ref 621), (1, .int (Int32.ofInt a0))]) (by decide +kernel) (by (try simp only [ev_sum, ev_nv_cat]); first | done | rfl) (by (try simp only [lv_args, ev_nv_cat]); first | done | rfl) ?_ x S' hJ
  unfold jm_323
  refine ev_r_aload_n (pc := 0) (k := 0) (v := .ref 621) trivial (by decide +kernel) (by rfl) ?_
  refine ev_r_iconst (pc := 1) (k := 0) (by decide +kernel) ?_
  refine ev_r_putI (pc := 2) (y := 321) (ci := 13) (f := 0) (by decide) (by decide +kernel) (by decide +kernel) (by exact ev_ob_621) rfl rfl ?_
  intro s1
  refine ev_r_aload_n (pc := 5) (k := 0) (v := .ref 621) trivial (by decide +kernel) (by rfl) ?_
  refine ev_r_iload_n (pc := 6) (k := 1) (v := Int32.ofInt a0) (by decide +kernel) (by rfl) ?_
  refine ev_r_virt (pc := 7) (y := 710) (mi := 320) (na := 1) (k := 621) (as := [.int (Int32.ofInt a0)]) (rest := []) (encc := ev_oI) (Q := ev_bl) (fun x S1 h => jt_320 d (by omega) Q a0 ha0 s1 x S1 h) (by exact ev_ob_621) (by decide +kernel) (by decide +kernel) (by decide +kernel) (by decide +kernel) rfl (by (try simp only [ev_sum, ev_nv_cat]); first | done | rfl) ?_
  intro x3 s2 hx3
  replace hx3 := ev_bl_rng hx3
  show ev_w _ _ _ _ _ [.int (Int32.ofInt x3)] _ _ _ _
  refine ev_r_if (pc := 10) (q := .ne) (o := 9) (t := 19) (c := x3 ≠ 0) (by decide +kernel) (ev_k_ne hx3 ev_rng0) (by decide +kernel) ?_ ?_
  · intro c4
    refine ev_r_aload_n (pc := 19) (k := 0) (v := .ref 621) trivial (by decide +kernel) (by rfl) ?_
    refine ev_r_getC (pc := 20) (y := 312) (ci := 13) (f := 142) (fin := 1) (k' := 720) (by decide +kernel) (by decide +kernel) (by exact ev_ob_621) rfl rfl ?_
    refine ev_r_iload_n (pc := 23) (k := 1) (v := Int32.ofInt a0) (by decide +kernel) (by rfl) ?_
    refine ev_r_bald (pc := 24) (ty := .boolean) (Or.inr rfl) ha0 (by decide +kernel) (by exact ev_ab_720) ?_
    intro x5 hx5
    refine ev_r_if (pc := 25) (q := .eq) (o := 9) (t := 34) (c := x5 = 0) (by decide +kernel) (ev_k_eq hx5 ev_rng0) (by decide +kernel) ?_ ?_
    · intro c6
      refine ev_r_aload_n (pc := 34) (k := 0) (v := .ref 621) trivial (by decide +kernel) (by rfl) ?_
      refine ev_r_getC (pc := 35) (y := 312) (ci := 13) (f := 142) (fin := 1) (k' := 720) (by decide +kernel) (by decide +kernel) (by exact ev_ob_621) rfl rfl ?_
      refine ev_r_iload_n (pc := 38) (k := 1) (v := Int32.ofInt a0) (by decide +kernel) (by rfl) ?_
      refine ev_r_iconst (pc := 39) (k := 1) (by decide +kernel) ?_
      refine ev_r_bast (pc := 40) (ty := .boolean) (Or.inr rfl) (ev_nar_bl (by decide : ev_bl 1)) (by decide) ha0 (by decide +kernel) (by exact ev_ab_720) ?_
      intro s7
      refine ev_r_aload_n (pc := 41) (k := 0) (v := .ref 621) trivial (by decide +kernel) (by rfl) ?_
      refine ev_r_iload_n (pc := 42) (k := 1) (v := Int32.ofInt a0) (by decide +kernel) (by rfl) ?_
      refine ev_r_virt (pc := 43) (y := 713) (mi := 319) (na := 1) (k := 621) (as := [.int (Int32.ofInt a0)]) (rest := []) (encc := ev_oI) (Q := ev_rng) (fun x S1 h => jt_319 d (by omega) Q a0 ha0 s7 x S1 h) (by exact ev_ob_621) (by decide +kernel) (by decide +kernel) (by decide +kernel) (by decide +kernel) rfl (by (try simp only [ev_sum, ev_nv_cat]); first | done | rfl) ?_
      intro x9 s8 hx9
      show ev_w _ _ _ _ _ [.int (Int32.ofInt x9)] _ _ _ _
      exact ev_r_ireturn (pc := 46) (x := x9) (v := Int32.ofInt x9) (ty := .int) hx9 (by decide +kernel) (by decide +kernel) rfl rfl
    · intro c6
      refine ev_r_aload_n (pc := 28) (k := 0) (v := .ref 621) trivial (by decide +kernel) (by rfl) ?_
      refine ev_r_iconst (pc := 29) (k := 2) (by decide +kernel) ?_
      refine ev_r_virt (pc := 30) (y := 342) (mi := 221) (na := 1) (k := 621) (as := [.int (Int32.ofInt 2)]) (rest := []) (encc := ev_oI) (Q := ev_rng) (fun x S1 h => jt_221 d (by omega) Q 2 (by decide) s2 x S1 h) (by exact ev_ob_621) (by decide +kernel) (by decide +kernel) (by decide +kernel) (by decide +kernel) rfl (by (try simp only [ev_sum, ev_nv_cat]); first | done | rfl) ?_
      intro x11 s10 hx11
      show ev_w _ _ _ _ _ [.int (Int32.ofInt x11)] _ _ _ _
      exact ev_r_ireturn (pc := 33) (x := x11) (v := Int32.ofInt x11) (ty := .int) hx11 (by decide +kernel) (by decide +kernel) rfl rfl
  · intro c4
    refine ev_r_aload_n (pc := 13) (k := 0) (v := .ref 621) trivial (by decide +kernel) (by rfl) ?_
    refine ev_r_iconst (pc := 14) (k := 1) (by decide +kernel) ?_
    refine ev_r_virt (pc := 15) (y := 342) (mi := 221) (na := 1) (k := 621) (as := [.int (Int32.ofInt 1)]) (rest := []) (encc := ev_oI) (Q := ev_rng) (fun x S1 h => jt_221 d (by omega) Q 1 (by decide) s2 x S1 h) (by exact ev_ob_621) (by decide +kernel) (by decide +kernel) (by decide +kernel) (by decide +kernel) rfl (by (try simp only [ev_sum, ev_nv_cat]); first | done | rfl) ?_
    intro x13 s12 hx13
    show ev_w _ _ _ _ _ [.int (Int32.ofInt x13)] _ _ _ _
    exact ev_r_ireturn (pc := 18) (x := x13) (v := Int32.ofInt x13) (ty := .int) hx13 (by decide +kernel) (by decide +kernel) rfl rfl
/-- MendBenchModel.told(I)I -/
def jm_324 (Q : Nat) (a0 : Int) (S : ev_St) : Option ((Int) × ev_St) := ev_b (ev_pI S 621 0 0) fun s1 => ev_bd (jm_320 Q a0 s1) fun x3 s2 => if x3 = 0 then (ev_bd (jm_221 Q 1 s2) fun x6 s5 => some (x6, s5)) else (ev_bd (jm_319 Q a0 s2) fun x8 s7 => some (x8, s7))
theorem jt_324 (d : Nat) (hd : 5 ≤ d) (Q : Nat) (a0 : Int) (ha0 : ev_rng a0) (S : ev_St) (x : Int) (S' : ev_St) (hJ : jm_324 Q a0 S = some (x, S')) : ev_Ref d 324 [.ref 621, .int (Int32.ofInt a0)] S (ev_eI x) S' (ev_rng x) := by
  obtain ⟨d, rfl⟩ : ∃ e, d = e + 1 := ⟨d - 1, by omega⟩
  refine ev_ref_of (P := ev_rng) (lv := [(0, .ref 621), (1, .int (Int32.ofInt a0))]) (by decide +kernel) (by (try simp only [ev_sum, ev_nv_cat]); first | done | rfl) (by (try simp only [lv_args, ev_nv_cat]); first | done | rfl) ?_ x S' hJ
  unfold jm_324
  refine ev_r_aload_n (pc := 0) (k := 0) (v := .ref 621) trivial (by decide +kernel) (by rfl) ?_
  refine ev_r_iconst (pc := 1) (k := 0) (by decide +kernel) ?_
  refine ev_r_putI (pc := 2) (y := 321) (ci := 13) (f := 0) (by decide) (by decide +kernel) (by decide +kernel) (by exact ev_ob_621) rfl rfl ?_
  intro s1
  refine ev_r_aload_n (pc := 5) (k := 0) (v := .ref 621) trivial (by decide +kernel) (by rfl) ?_
  refine ev_r_iload_n (pc := 6) (k := 1) (v := Int32.ofInt a0) (by decide +kernel) (by rfl) ?_
  refine ev_r_virt (pc := 7) (y := 710) (mi := 320) (na := 1) (k := 621) (as := [.int (Int32.ofInt a0)]) (rest := []) (encc := ev_oI) (Q := ev_bl) (fun x S1 h => jt_320 d (by omega) Q a0 ha0 s1 x S1 h) (by exact ev_ob_621) (by decide +kernel) (by decide +kernel) (by decide +kernel) (by decide +kernel) rfl (by (try simp only [ev_sum, ev_nv_cat]); first | done | rfl) ?_
  intro x3 s2 hx3
  replace hx3 := ev_bl_rng hx3
  show ev_w _ _ _ _ _ [.int (Int32.ofInt x3)] _ _ _ _
  refine ev_r_if (pc := 10) (q := .eq) (o := 11) (t := 21) (c := x3 = 0) (by decide +kernel) (ev_k_eq hx3 ev_rng0) (by decide +kernel) ?_ ?_
  · intro c4
    refine ev_r_aload_n (pc := 21) (k := 0) (v := .ref 621) trivial (by decide +kernel) (by rfl) ?_
    refine ev_r_iconst (pc := 22) (k := 1) (by decide +kernel) ?_
    refine ev_r_virt (pc := 23) (y := 342) (mi := 221) (na := 1) (k := 621) (as := [.int (Int32.ofInt 1)]) (rest := []) (encc := ev_oI) (Q := ev_rng) (fun x S1 h => jt_221 d (by omega) Q 1 (by decide) s2 x S1 h) (by exact ev_ob_621) (by decide +kernel) (by decide +kernel) (by decide +kernel) (by decide +kernel) rfl (by (try simp only [ev_sum, ev_nv_cat]); first | done | rfl) ?_
    intro x6 s5 hx6
    show ev_w _ _ _ _ _ [.int (Int32.ofInt x6)] _ _ _ _
    exact ev_r_ireturn (pc := 26) (x := x6) (v := Int32.ofInt x6) (ty := .int) hx6 (by decide +kernel) (by decide +kernel) rfl rfl
  · intro c4
    refine ev_r_aload_n (pc := 13) (k := 0) (v := .ref 621) trivial (by decide +kernel) (by rfl) ?_
    refine ev_r_iload_n (pc := 14) (k := 1) (v := Int32.ofInt a0) (by decide +kernel) (by rfl) ?_
    refine ev_r_virt (pc := 15) (y := 713) (mi := 319) (na := 1) (k := 621) (as := [.int (Int32.ofInt a0)]) (rest := []) (encc := ev_oI) (Q := ev_rng) (fun x S1 h => jt_319 d (by omega) Q a0 ha0 s2 x S1 h) (by exact ev_ob_621) (by decide +kernel) (by decide +kernel) (by decide +kernel) (by decide +kernel) rfl (by (try simp only [ev_sum, ev_nv_cat]); first | done | rfl) ?_
    intro x8 s7 hx8
    show ev_w _ _ _ _ _ [.int (Int32.ofInt x8)] _ _ _ _
    refine ev_r_goto (pc := 18) (o := 8) (t := 26) (by decide +kernel) (by decide +kernel) ?_
    exact ev_r_ireturn (pc := 26) (x := x8) (v := Int32.ofInt x8) (ty := .int) hx8 (by decide +kernel) (by decide +kernel) rfl rfl
/-- MendBenchModel.isBuffer(I)Z -/
def jm_325 (Q : Nat) (a0 : Int) (S : ev_St) : Option ((Int) × ev_St) := ev_bd (jm_222 Q a0 0 2 S) fun x2 s1 => ev_if (ev_bl x2) (some (x2, s1))
theorem jt_325 (d : Nat) (hd : 2 ≤ d) (Q : Nat) (a0 : Int) (ha0 : ev_rng a0) (S : ev_St) (x : Int) (S' : ev_St) (hJ : jm_325 Q a0 S = some (x, S')) : ev_Ref d 325 [.ref 621, .int (Int32.ofInt a0)] S (ev_eI x) S' (ev_bl x) := by
  obtain ⟨d, rfl⟩ : ∃ e, d = e + 1 := ⟨d - 1, by omega⟩
  refine ev_ref_of (P := ev_bl) (lv := [(0, .ref 621), (1, .int (Int32.ofInt a0))]) (by decide +kernel) (by (try simp only [ev_sum, ev_nv_cat]); first | done | rfl) (by (try simp only [lv_args, ev_nv_cat]); first | done | rfl) ?_ x S' hJ
  unfold jm_325
  refine ev_r_iload_n (pc := 0) (k := 1) (v := Int32.ofInt a0) (by decide +kernel) (by rfl) ?_
  refine ev_r_iconst (pc := 1) (k := 0) (by decide +kernel) ?_
  refine ev_r_iconst (pc := 2) (k := 2) (by decide +kernel) ?_
  refine ev_r_stat (pc := 3) (y := 325) (kind := 2) (mi := 222) (na := 3) (as := [.int (Int32.ofInt a0), .int (Int32.ofInt 0), .int (Int32.ofInt 2)]) (rest := []) (encc := ev_oI) (Q := ev_bl) (fun x S1 h => jt_222 d (by omega) Q a0 0 2 ha0 (by decide) (by decide) S x S1 h) (Or.inl rfl) (by decide +kernel) (by decide +kernel) (by decide +kernel) (by decide +kernel) rfl (by (try simp only [ev_sum, ev_nv_cat]); first | done | rfl) ?_
  intro x2 s1 hx2
  replace hx2 := ev_bl_rng hx2
  show ev_w _ _ _ _ _ [.int (Int32.ofInt x2)] _ _ _ _
  refine ev_r_chk ?_
  intro c3
  exact ev_r_ireturn (pc := 6) (x := x2) (v := Int32.ofInt x2) (ty := .boolean) c3 (by decide +kernel) (by decide +kernel) (ev_ret_bl c3) rfl
/-- MendBenchModel.isAt(II)Z -/
def jm_326 (Q : Nat) (a0 : Int) (a1 : Int) (S : ev_St) : Option ((Int) × ev_St) := ev_bd (jm_325 Q a0 S) fun x2 s1 => if x2 = 0 then (some (0, s1)) else (ev_if ((0 : Int) ≤ a0 ∧ a0 < (ev_aln 707 : Int)) (ev_b (s1.1 707 (Int.toNat a0)) fun x4 => ev_bd (jm_222 Q a1 0 x4 s1) fun x6 s5 => if x6 = 0 then (some (0, s5)) else (some (1, s5))))
theorem jt_326 (d : Nat) (hd : 3 ≤ d) (Q : Nat) (a0 : Int) (a1 : Int) (ha0 : ev_rng a0) (ha1 : ev_rng a1) (S : ev_St) (x : Int) (S' : ev_St) (hJ : jm_326 Q a0 a1 S = some (x, S')) : ev_Ref d 326 [.ref 621, .int (Int32.ofInt a0), .int (Int32.ofInt a1)] S (ev_eI x) S' (ev_bl x) := by
  obtain ⟨d, rfl⟩ : ∃ e, d = e + 1 := ⟨d - 1, by omega⟩
  refine ev_ref_of (P := ev_bl) (lv := [(0, .ref 621), (1, .int (Int32.ofInt a0)), (2, .int (Int32.ofInt a1))]) (by decide +kernel) (by (try simp only [ev_sum, ev_nv_cat]); first | done | rfl) (by (try simp only [lv_args, ev_nv_cat]); first | done | rfl) ?_ x S' hJ
  unfold jm_326
  refine ev_r_aload_n (pc := 0) (k := 0) (v := .ref 621) trivial (by decide +kernel) (by rfl) ?_
  refine ev_r_iload_n (pc := 1) (k := 1) (v := Int32.ofInt a0) (by decide +kernel) (by rfl) ?_
  refine ev_r_virt (pc := 2) (y := 716) (mi := 325) (na := 1) (k := 621) (as := [.int (Int32.ofInt a0)]) (rest := []) (encc := ev_oI) (Q := ev_bl) (fun x S1 h => jt_325 d (by omega) Q a0 ha0 S x S1 h) (by exact ev_ob_621) (by decide +kernel) (by decide +kernel) (by decide +kernel) (by decide +kernel) rfl (by (try simp only [ev_sum, ev_nv_cat]); first | done | rfl) ?_
  intro x2 s1 hx2
  replace hx2 := ev_bl_rng hx2
  show ev_w _ _ _ _ _ [.int (Int32.ofInt x2)] _ _ _ _
  refine ev_r_if (pc := 5) (q := .eq) (o := 21) (t := 26) (c := x2 = 0) (by decide +kernel) (ev_k_eq hx2 ev_rng0) (by decide +kernel) ?_ ?_
  · intro c3
    refine ev_r_iconst (pc := 26) (k := 0) (by decide +kernel) ?_
    exact ev_r_ireturn (pc := 27) (x := 0) (v := Int32.ofInt 0) (ty := .boolean) (by decide : ev_bl 0) (by decide +kernel) (by decide +kernel) (ev_ret_bl (by decide : ev_bl 0)) rfl
  · intro c3
    refine ev_r_iload_n (pc := 8) (k := 2) (v := Int32.ofInt a1) (by decide +kernel) (by rfl) ?_
    refine ev_r_iconst (pc := 9) (k := 0) (by decide +kernel) ?_
    refine ev_r_aload_n (pc := 10) (k := 0) (v := .ref 621) trivial (by decide +kernel) (by rfl) ?_
    refine ev_r_getC (pc := 11) (y := 270) (ci := 13) (f := 119) (fin := 1) (k' := 707) (by decide +kernel) (by decide +kernel) (by exact ev_ob_621) rfl rfl ?_
    refine ev_r_iload_n (pc := 14) (k := 1) (v := Int32.ofInt a0) (by decide +kernel) (by rfl) ?_
    refine ev_r_iald (pc := 15) ha0 (by decide +kernel) (by exact ev_ab_707) ?_
    intro x4 hx4
    refine ev_r_stat (pc := 16) (y := 325) (kind := 2) (mi := 222) (na := 3) (as := [.int (Int32.ofInt a1), .int (Int32.ofInt 0), .int (Int32.ofInt x4)]) (rest := []) (encc := ev_oI) (Q := ev_bl) (fun x S1 h => jt_222 d (by omega) Q a1 0 x4 ha1 (by decide) hx4 s1 x S1 h) (Or.inl rfl) (by decide +kernel) (by decide +kernel) (by decide +kernel) (by decide +kernel) rfl (by (try simp only [ev_sum, ev_nv_cat]); first | done | rfl) ?_
    intro x6 s5 hx6
    replace hx6 := ev_bl_rng hx6
    show ev_w _ _ _ _ _ [.int (Int32.ofInt x6)] _ _ _ _
    refine ev_r_if (pc := 19) (q := .eq) (o := 7) (t := 26) (c := x6 = 0) (by decide +kernel) (ev_k_eq hx6 ev_rng0) (by decide +kernel) ?_ ?_
    · intro c7
      refine ev_r_iconst (pc := 26) (k := 0) (by decide +kernel) ?_
      exact ev_r_ireturn (pc := 27) (x := 0) (v := Int32.ofInt 0) (ty := .boolean) (by decide : ev_bl 0) (by decide +kernel) (by decide +kernel) (ev_ret_bl (by decide : ev_bl 0)) rfl
    · intro c7
      refine ev_r_iconst (pc := 22) (k := 1) (by decide +kernel) ?_
      refine ev_r_goto (pc := 23) (o := 4) (t := 27) (by decide +kernel) (by decide +kernel) ?_
      exact ev_r_ireturn (pc := 27) (x := 1) (v := Int32.ofInt 1) (ty := .boolean) (by decide : ev_bl 1) (by decide +kernel) (by decide +kernel) (ev_ret_bl (by decide : ev_bl 1)) rfl
/-- MendBenchModel.tellsGroup(II)I -/
def jm_327 (Q : Nat) (a0 : Int) (a1 : Int) (S : ev_St) : Option ((Int) × ev_St) := if a0 = 1 then (ev_if ((0 : Int) ≤ a1 ∧ a1 < (ev_aln 679 : Int)) (ev_b (S.1 679 (Int.toNat a1)) fun x2 => if x2 ≠ (-1) then (ev_if ((0 : Int) ≤ a1 ∧ a1 < (ev_aln 679 : Int)) (ev_b (S.1 679 (Int.toNat a1)) fun x4 => ev_ck (1000 * x4) fun x5 => ev_if ((0 : Int) ≤ a1 ∧ a1 < (ev_aln 680 : Int)) (ev_b (S.1 680 (Int.toNat a1)) fun x6 => ev_ck (x5 + x6) fun x7 => some (x7, S)))) else (some ((-3), S)))) else (if a0 ≠ 0 then (some ((-2), S)) else (some ((-1), S)))
theorem jt_327 (d : Nat) (hd : 1 ≤ d) (Q : Nat) (a0 : Int) (a1 : Int) (ha0 : ev_rng a0) (ha1 : ev_rng a1) (S : ev_St) (x : Int) (S' : ev_St) (hJ : jm_327 Q a0 a1 S = some (x, S')) : ev_Ref d 327 [.ref 621, .int (Int32.ofInt a0), .int (Int32.ofInt a1)] S (ev_eI x) S' (ev_rng x) := by
  obtain ⟨d, rfl⟩ : ∃ e, d = e + 1 := ⟨d - 1, by omega⟩
  refine ev_ref_of (P := ev_rng) (lv := [(0, .ref 621), (1, .int (Int32.ofInt a0)), (2, .int (Int32.ofInt a1))]) (by decide +kernel) (by (try simp only [ev_sum, ev_nv_cat]); first | done | rfl) (by (try simp only [lv_args, ev_nv_cat]); first | done | rfl) ?_ x S' hJ
  unfold jm_327
  refine ev_r_iload_n (pc := 0) (k := 1) (v := Int32.ofInt a0) (by decide +kernel) (by rfl) ?_
  refine ev_r_iconst (pc := 1) (k := 1) (by decide +kernel) ?_
  refine ev_r_icmp (pc := 2) (q := .eq) (o := 14) (t := 16) (c := a0 = 1) (by decide +kernel) (ev_k_eq ha0 (by decide)) (by decide +kernel) ?_ ?_
  · intro c1
    refine ev_r_aload_n (pc := 16) (k := 0) (v := .ref 621) trivial (by decide +kernel) (by rfl) ?_
    refine ev_r_getC (pc := 17) (y := 184) (ci := 13) (f := 86) (fin := 1) (k' := 679) (by decide +kernel) (by decide +kernel) (by exact ev_ob_621) rfl rfl ?_
    refine ev_r_iload_n (pc := 20) (k := 2) (v := Int32.ofInt a1) (by decide +kernel) (by rfl) ?_
    refine ev_r_iald (pc := 21) ha1 (by decide +kernel) (by exact ev_ab_679) ?_
    intro x2 hx2
    refine ev_r_iconst (pc := 22) (k := -1) (by decide +kernel) ?_
    refine ev_r_icmp (pc := 23) (q := .ne) (o := 8) (t := 31) (c := x2 ≠ (-1)) (by decide +kernel) (ev_k_ne hx2 (by decide)) (by decide +kernel) ?_ ?_
    · intro c3
      refine ev_r_sipush (pc := 31) (k := 1000) (by decide +kernel) (by decide +kernel) ?_
      refine ev_r_aload_n (pc := 34) (k := 0) (v := .ref 621) trivial (by decide +kernel) (by rfl) ?_
      refine ev_r_getC (pc := 35) (y := 184) (ci := 13) (f := 86) (fin := 1) (k' := 679) (by decide +kernel) (by decide +kernel) (by exact ev_ob_621) rfl rfl ?_
      refine ev_r_iload_n (pc := 38) (k := 2) (v := Int32.ofInt a1) (by decide +kernel) (by rfl) ?_
      refine ev_r_iald (pc := 39) ha1 (by decide +kernel) (by exact ev_ab_679) ?_
      intro x4 hx4
      refine ev_r_imul (pc := 40) (by decide +kernel) ?_
      intro x5 hx5
      refine ev_r_aload_n (pc := 41) (k := 0) (v := .ref 621) trivial (by decide +kernel) (by rfl) ?_
      refine ev_r_getC (pc := 42) (y := 187) (ci := 13) (f := 87) (fin := 1) (k' := 680) (by decide +kernel) (by decide +kernel) (by exact ev_ob_621) rfl rfl ?_
      refine ev_r_iload_n (pc := 45) (k := 2) (v := Int32.ofInt a1) (by decide +kernel) (by rfl) ?_
      refine ev_r_iald (pc := 46) ha1 (by decide +kernel) (by exact ev_ab_680) ?_
      intro x6 hx6
      refine ev_r_iadd (pc := 47) (by decide +kernel) ?_
      intro x7 hx7
      exact ev_r_ireturn (pc := 48) (x := x7) (v := Int32.ofInt x7) (ty := .int) hx7 (by decide +kernel) (by decide +kernel) rfl rfl
    · intro c3
      refine ev_r_bipush (pc := 26) (k := -3) (by decide +kernel) (by decide +kernel) ?_
      refine ev_r_goto (pc := 28) (o := 20) (t := 48) (by decide +kernel) (by decide +kernel) ?_
      exact ev_r_ireturn (pc := 48) (x := (-3)) (v := Int32.ofInt ((-3))) (ty := .int) (by decide) (by decide +kernel) (by decide +kernel) rfl rfl
  · intro c1
    refine ev_r_iload_n (pc := 5) (k := 1) (v := Int32.ofInt a0) (by decide +kernel) (by rfl) ?_
    refine ev_r_if (pc := 6) (q := .ne) (o := 7) (t := 13) (c := a0 ≠ 0) (by decide +kernel) (ev_k_ne ha0 ev_rng0) (by decide +kernel) ?_ ?_
    · intro c8
      refine ev_r_bipush (pc := 13) (k := -2) (by decide +kernel) (by decide +kernel) ?_
      exact ev_r_ireturn (pc := 15) (x := (-2)) (v := Int32.ofInt ((-2))) (ty := .int) (by decide) (by decide +kernel) (by decide +kernel) rfl rfl
    · intro c8
      refine ev_r_iconst (pc := 9) (k := -1) (by decide +kernel) ?_
      refine ev_r_goto (pc := 10) (o := 5) (t := 15) (by decide +kernel) (by decide +kernel) ?_
      exact ev_r_ireturn (pc := 15) (x := (-1)) (v := Int32.ofInt ((-1))) (ty := .int) (by decide) (by decide +kernel) (by decide +kernel) rfl rfl
/-- MendBenchModel.find(IIII)I -/
def jm_328 (Q : Nat) (a0 : Int) (a1 : Int) (a2 : Int) (a3 : Int) (S : ev_St) : Option ((Int) × ev_St) := ev_bd (jm_273 Q a0 S) fun x2 s1 => ev_jn (fun (x3 : Int) (s10 : ev_St) => ev_b (ev_pI s10 621 0 x3) fun s11 => ev_b (s11.1 621 0) fun x12 => if x12 ≤ 0 then (ev_bd (jm_288 Q a1 s11) fun _ s14 => ev_bd (jm_308 Q a0 a2 0 s14) fun x16 s15 => ev_bd (jm_327 Q x16 a3 s15) fun x18 s17 => some (x18, s17)) else (some (0, s11))) fun K38 => ev_jn (fun  (s25 : ev_St) => K38 1 s25) fun K37 => if x2 = 0 then (K37  s1) else (ev_bd (jm_326 Q a1 a2 s1) fun x28 s27 => if x28 = 0 then (K37  s27) else (ev_if ((0 : Int) ≤ a0 ∧ a0 < (ev_aln 636 : Int)) (ev_b (s27.1 636 (Int.toNat a0)) fun x30 => ev_bd (jm_222 Q a3 0 x30 s27) fun x32 s31 => if x32 = 0 then (K37  s31) else (K38 0 s31))))
theorem jt_328 (d : Nat) (hd : 10 ≤ d) (Q : Nat) (a0 : Int) (a1 : Int) (a2 : Int) (a3 : Int) (ha0 : ev_rng a0) (ha1 : ev_rng a1) (ha2 : ev_rng a2) (ha3 : ev_rng a3) (S : ev_St) (x : Int) (S' : ev_St) (hJ : jm_328 Q a0 a1 a2 a3 S = some (x, S')) : ev_Ref d 328 [.ref 621, .int (Int32.ofInt a0), .int (Int32.ofInt a1), .int (Int32.ofInt a2), .int (Int32.ofInt a3)] S (ev_eI x) S' (ev_rng x) := by
  obtain ⟨d, rfl⟩ : ∃ e, d = e + 1 := ⟨d - 1, by omega⟩
  refine ev_ref_of (P := ev_rng) (lv := [(0, .ref 621), (1, .int (Int32.ofInt a0)), (2, .int (Int32.ofInt a1)), (3, .int (Int32.ofInt a2)), (4, .int (Int32.ofInt a3))]) (by decide +kernel) (by (try simp only [ev_sum, ev_nv_cat]); first | done | rfl) (by (try simp only [lv_args, ev_nv_cat]); first | done | rfl) ?_ x S' hJ
  unfold jm_328
  refine ev_r_aload_n (pc := 0) (k := 0) (v := .ref 621) trivial (by decide +kernel) (by rfl) ?_
  refine ev_r_aload_n (pc := 1) (k := 0) (v := .ref 621) trivial (by decide +kernel) (by rfl) ?_
  refine ev_r_iload_n (pc := 2) (k := 1) (v := Int32.ofInt a0) (by decide +kernel) (by rfl) ?_
  refine ev_r_virt (pc := 3) (y := 531) (mi := 273) (na := 1) (k := 621) (as := [.int (Int32.ofInt a0)]) (rest := [.ref 621]) (encc := ev_oI) (Q := ev_bl) (fun x S1 h => jt_273 d (by omega) Q a0 ha0 S x S1 h) (by exact ev_ob_621) (by decide +kernel) (by decide +kernel) (by decide +kernel) (by decide +kernel) rfl (by (try simp only [ev_sum, ev_nv_cat]); first | done | rfl) ?_
  intro x2 s1 hx2
  replace hx2 := ev_bl_rng hx2
  show ev_w _ _ _ _ _ [.int (Int32.ofInt x2), .ref 621] _ _ _ _
  refine ev_r_jn (Q := fun K => ∀ (x3 : Int) (hx3 : ev_rng x3), ∀ (s10 : ev_St) (w4 : List (Nat × Value)), ev_lk w4 0 = some (.ref 621) → ev_lk w4 1 = some (.int (Int32.ofInt a0)) → ev_lk w4 2 = some (.int (Int32.ofInt a1)) → ev_lk w4 3 = some (.int (Int32.ofInt a2)) → ev_lk w4 4 = some (.int (Int32.ofInt a3)) → ev_w none (ev_Mof 328) d 38 w4 [.int (Int32.ofInt x3), .ref 621] s10 (K x3 s10) ev_eI ev_rng) ?_ ?_
  · intro x3 hx3 s10 w4 e5 e6 e7 e8 e9
    refine ev_r_putI (pc := 38) (y := 321) (ci := 13) (f := 0) hx3 (by decide +kernel) (by decide +kernel) (by exact ev_ob_621) rfl rfl ?_
    intro s11
    refine ev_r_aload_n (pc := 41) (k := 0) (v := .ref 621) trivial (by decide +kernel) (by exact e5) ?_
    refine ev_r_getI (pc := 42) (y := 321) (ci := 13) (f := 0) (fin := 0) (by decide +kernel) (by decide +kernel) (by exact ev_ob_621) rfl ?_
    intro x12 hx12
    refine ev_r_if (pc := 45) (q := .le) (o := 5) (t := 50) (c := x12 ≤ 0) (by decide +kernel) (ev_k_le hx12 ev_rng0) (by decide +kernel) ?_ ?_
    · intro c13
      refine ev_r_aload_n (pc := 50) (k := 0) (v := .ref 621) trivial (by decide +kernel) (by exact e5) ?_
      refine ev_r_iload_n (pc := 51) (k := 2) (v := Int32.ofInt a1) (by decide +kernel) (by exact e7) ?_
      refine ev_r_virt (pc := 52) (y := 722) (mi := 288) (na := 1) (k := 621) (as := [.int (Int32.ofInt a1)]) (rest := []) (encc := ev_oU) (Q := ev_PU) (fun x S1 h => jt_288 d (by omega) Q a1 ha1 s11 x S1 h) (by exact ev_ob_621) (by decide +kernel) (by decide +kernel) (by decide +kernel) (by decide +kernel) rfl (by (try simp only [ev_sum, ev_nv_cat]); first | done | rfl) ?_
      intro _ s14 _
      show ev_w _ _ _ _ _ [] _ _ _ _
      refine ev_r_aload_n (pc := 55) (k := 0) (v := .ref 621) trivial (by decide +kernel) (by exact e5) ?_
      refine ev_r_aload_n (pc := 56) (k := 0) (v := .ref 621) trivial (by decide +kernel) (by exact e5) ?_
      refine ev_r_iload_n (pc := 57) (k := 1) (v := Int32.ofInt a0) (by decide +kernel) (by exact e6) ?_
      refine ev_r_iload_n (pc := 58) (k := 3) (v := Int32.ofInt a2) (by decide +kernel) (by exact e8) ?_
      refine ev_r_iconst (pc := 59) (k := 0) (by decide +kernel) ?_
      refine ev_r_virt (pc := 60) (y := 725) (mi := 308) (na := 3) (k := 621) (as := [.int (Int32.ofInt a0), .int (Int32.ofInt a2), .int (Int32.ofInt 0)]) (rest := [.ref 621]) (encc := ev_oI) (Q := ev_rng) (fun x S1 h => jt_308 d (by omega) Q a0 a2 0 ha0 ha2 (by decide) s14 x S1 h) (by exact ev_ob_621) (by decide +kernel) (by decide +kernel) (by decide +kernel) (by decide +kernel) rfl (by (try simp only [ev_sum, ev_nv_cat]); first | done | rfl) ?_
      intro x16 s15 hx16
      show ev_w _ _ _ _ _ [.int (Int32.ofInt x16), .ref 621] _ _ _ _
      refine ev_r_iload (pc := 63) (k := 4) (v := Int32.ofInt a3) (by decide +kernel) (by exact e9) ?_
      refine ev_r_virt (pc := 65) (y := 729) (mi := 327) (na := 2) (k := 621) (as := [.int (Int32.ofInt x16), .int (Int32.ofInt a3)]) (rest := []) (encc := ev_oI) (Q := ev_rng) (fun x S1 h => jt_327 d (by omega) Q x16 a3 hx16 ha3 s15 x S1 h) (by exact ev_ob_621) (by decide +kernel) (by decide +kernel) (by decide +kernel) (by decide +kernel) rfl (by (try simp only [ev_sum, ev_nv_cat]); first | done | rfl) ?_
      intro x18 s17 hx18
      show ev_w _ _ _ _ _ [.int (Int32.ofInt x18)] _ _ _ _
      exact ev_r_ireturn (pc := 68) (x := x18) (v := Int32.ofInt x18) (ty := .int) hx18 (by decide +kernel) (by decide +kernel) rfl rfl
    · intro c13
      refine ev_r_iconst (pc := 48) (k := 0) (by decide +kernel) ?_
      exact ev_r_ireturn (pc := 49) (x := 0) (v := Int32.ofInt 0) (ty := .int) (by decide) (by decide +kernel) (by decide +kernel) rfl rfl
  · intro K38 hK38
    refine ev_r_jn (Q := fun K => ∀ (s25 : ev_St) (w19 : List (Nat × Value)), ev_lk w19 0 = some (.ref 621) → ev_lk w19 1 = some (.int (Int32.ofInt a0)) → ev_lk w19 2 = some (.int (Int32.ofInt a1)) → ev_lk w19 3 = some (.int (Int32.ofInt a2)) → ev_lk w19 4 = some (.int (Int32.ofInt a3)) → ev_w none (ev_Mof 328) d 37 w19 [.ref 621] s25 (K  s25) ev_eI ev_rng) ?_ ?_
    · intro  s25 w19 e20 e21 e22 e23 e24
      refine ev_r_iconst (pc := 37) (k := 1) (by decide +kernel) ?_
      exact hK38 1 (by decide) s25 _ (by exact e20) (by exact e21) (by exact e22) (by exact e23) (by exact e24)
    · intro K37 hK37
      refine ev_r_if (pc := 6) (q := .eq) (o := 31) (t := 37) (c := x2 = 0) (by decide +kernel) (ev_k_eq hx2 ev_rng0) (by decide +kernel) ?_ ?_
      · intro c26
        exact hK37  s1 _ (by rfl) (by rfl) (by rfl) (by rfl) (by rfl)
      · intro c26
        refine ev_r_aload_n (pc := 9) (k := 0) (v := .ref 621) trivial (by decide +kernel) (by rfl) ?_
        refine ev_r_iload_n (pc := 10) (k := 2) (v := Int32.ofInt a1) (by decide +kernel) (by rfl) ?_
        refine ev_r_iload_n (pc := 11) (k := 3) (v := Int32.ofInt a2) (by decide +kernel) (by rfl) ?_
        refine ev_r_virt (pc := 12) (y := 719) (mi := 326) (na := 2) (k := 621) (as := [.int (Int32.ofInt a1), .int (Int32.ofInt a2)]) (rest := [.ref 621]) (encc := ev_oI) (Q := ev_bl) (fun x S1 h => jt_326 d (by omega) Q a1 a2 ha1 ha2 s1 x S1 h) (by exact ev_ob_621) (by decide +kernel) (by decide +kernel) (by decide +kernel) (by decide +kernel) rfl (by (try simp only [ev_sum, ev_nv_cat]); first | done | rfl) ?_
        intro x28 s27 hx28
        replace hx28 := ev_bl_rng hx28
        show ev_w _ _ _ _ _ [.int (Int32.ofInt x28), .ref 621] _ _ _ _
        refine ev_r_if (pc := 15) (q := .eq) (o := 22) (t := 37) (c := x28 = 0) (by decide +kernel) (ev_k_eq hx28 ev_rng0) (by decide +kernel) ?_ ?_
        · intro c29
          exact hK37  s27 _ (by rfl) (by rfl) (by rfl) (by rfl) (by rfl)
        · intro c29
          refine ev_r_iload (pc := 18) (k := 4) (v := Int32.ofInt a3) (by decide +kernel) (by rfl) ?_
          refine ev_r_iconst (pc := 20) (k := 0) (by decide +kernel) ?_
          refine ev_r_aload_n (pc := 21) (k := 0) (v := .ref 621) trivial (by decide +kernel) (by rfl) ?_
          refine ev_r_getC (pc := 22) (y := 53) (ci := 13) (f := 17) (fin := 1) (k' := 636) (by decide +kernel) (by decide +kernel) (by exact ev_ob_621) rfl rfl ?_
          refine ev_r_iload_n (pc := 25) (k := 1) (v := Int32.ofInt a0) (by decide +kernel) (by rfl) ?_
          refine ev_r_iald (pc := 26) ha0 (by decide +kernel) (by exact ev_ab_636) ?_
          intro x30 hx30
          refine ev_r_stat (pc := 27) (y := 325) (kind := 2) (mi := 222) (na := 3) (as := [.int (Int32.ofInt a3), .int (Int32.ofInt 0), .int (Int32.ofInt x30)]) (rest := [.ref 621]) (encc := ev_oI) (Q := ev_bl) (fun x S1 h => jt_222 d (by omega) Q a3 0 x30 ha3 (by decide) hx30 s27 x S1 h) (Or.inl rfl) (by decide +kernel) (by decide +kernel) (by decide +kernel) (by decide +kernel) rfl (by (try simp only [ev_sum, ev_nv_cat]); first | done | rfl) ?_
          intro x32 s31 hx32
          replace hx32 := ev_bl_rng hx32
          show ev_w _ _ _ _ _ [.int (Int32.ofInt x32), .ref 621] _ _ _ _
          refine ev_r_if (pc := 30) (q := .eq) (o := 7) (t := 37) (c := x32 = 0) (by decide +kernel) (ev_k_eq hx32 ev_rng0) (by decide +kernel) ?_ ?_
          · intro c33
            exact hK37  s31 _ (by rfl) (by rfl) (by rfl) (by rfl) (by rfl)
          · intro c33
            refine ev_r_iconst (pc := 33) (k := 0) (by decide +kernel) ?_
            refine ev_r_goto (pc := 34) (o := 4) (t := 38) (by decide +kernel) (by decide +kernel) ?_
            exact hK38 0 (by decide) s31 _ (by rfl) (by rfl) (by rfl) (by rfl) (by rfl)
/-- MendBenchModel.anew(IIII)I -/
def jm_329 (Q : Nat) (a0 : Int) (a1 : Int) (a2 : Int) (a3 : Int) (S : ev_St) : Option ((Int) × ev_St) := ev_bd (jm_328 Q a0 a1 a2 a3 S) fun x2 s1 => some (x2, s1)
theorem jt_329 (d : Nat) (hd : 11 ≤ d) (Q : Nat) (a0 : Int) (a1 : Int) (a2 : Int) (a3 : Int) (ha0 : ev_rng a0) (ha1 : ev_rng a1) (ha2 : ev_rng a2) (ha3 : ev_rng a3) (S : ev_St) (x : Int) (S' : ev_St) (hJ : jm_329 Q a0 a1 a2 a3 S = some (x, S')) : ev_Ref d 329 [.ref 621, .int (Int32.ofInt a0), .int (Int32.ofInt a1), .int (Int32.ofInt a2), .int (Int32.ofInt a3)] S (ev_eI x) S' (ev_rng x) := by
  obtain ⟨d, rfl⟩ : ∃ e, d = e + 1 := ⟨d - 1, by omega⟩
  refine ev_ref_of (P := ev_rng) (lv := [(0, .ref 621), (1, .int (Int32.ofInt a0)), (2, .int (Int32.ofInt a1)), (3, .int (Int32.ofInt a2)), (4, .int (Int32.ofInt a3))]) (by decide +kernel) (by (try simp only [ev_sum, ev_nv_cat]); first | done | rfl) (by (try simp only [lv_args, ev_nv_cat]); first | done | rfl) ?_ x S' hJ
  unfold jm_329
  refine ev_r_aload_n (pc := 0) (k := 0) (v := .ref 621) trivial (by decide +kernel) (by rfl) ?_
  refine ev_r_iload_n (pc := 1) (k := 1) (v := Int32.ofInt a0) (by decide +kernel) (by rfl) ?_
  refine ev_r_iload_n (pc := 2) (k := 2) (v := Int32.ofInt a1) (by decide +kernel) (by rfl) ?_
  refine ev_r_iload_n (pc := 3) (k := 3) (v := Int32.ofInt a2) (by decide +kernel) (by rfl) ?_
  refine ev_r_iload (pc := 4) (k := 4) (v := Int32.ofInt a3) (by decide +kernel) (by rfl) ?_
  refine ev_r_virt (pc := 6) (y := 732) (mi := 328) (na := 4) (k := 621) (as := [.int (Int32.ofInt a0), .int (Int32.ofInt a1), .int (Int32.ofInt a2), .int (Int32.ofInt a3)]) (rest := []) (encc := ev_oI) (Q := ev_rng) (fun x S1 h => jt_328 d (by omega) Q a0 a1 a2 a3 ha0 ha1 ha2 ha3 S x S1 h) (by exact ev_ob_621) (by decide +kernel) (by decide +kernel) (by decide +kernel) (by decide +kernel) rfl (by (try simp only [ev_sum, ev_nv_cat]); first | done | rfl) ?_
  intro x2 s1 hx2
  show ev_w _ _ _ _ _ [.int (Int32.ofInt x2)] _ _ _ _
  exact ev_r_ireturn (pc := 9) (x := x2) (v := Int32.ofInt x2) (ty := .int) hx2 (by decide +kernel) (by decide +kernel) rfl rfl
/-- MendBenchModel.by(IIIII)I -/
def jm_330 (Q : Nat) (a0 : Int) (a1 : Int) (a2 : Int) (a3 : Int) (a4 : Int) (S : ev_St) : Option ((Int) × ev_St) := ev_bd (jm_273 Q a1 S) fun x2 s1 => ev_jn (fun (x3 : Int) (s11 : ev_St) => ev_b (ev_pI s11 621 0 x3) fun s12 => ev_b (s12.1 621 0) fun x13 => if x13 ≤ 0 then (if a0 ≠ 0 then (ev_jn (fun  (s23 : ev_St) => ev_jn (fun  (s30 : ev_St) => ev_bd (jm_288 Q a2 s30) fun _ s31 => ev_bd (jm_315 Q a1 a3 s31) fun x33 s32 => ev_jn (fun (x34 : Int) (s37 : ev_St) => ev_bd (jm_327 Q x34 a4 s37) fun x39 s38 => some (x39, s38)) fun K137 => if x33 = 0 then (K137 0 s32) else (K137 1 s32)) fun K116 => if a0 ≠ 2 then (K116  s23) else (ev_if ((0 : Int) ≤ a1 ∧ a1 < (ev_aln 639 : Int)) (ev_b (s23.1 639 (Int.toNat a1)) fun x42 => if x42 < 2 then (some ((-4), s23)) else (if a4 ≤ 0 then (K116  s23) else (some ((-4), s23)))))) fun K93 => if a0 ≠ 1 then (K93  s12) else (ev_if ((0 : Int) ≤ a1 ∧ a1 < (ev_aln 639 : Int)) (ev_b (s12.1 639 (Int.toNat a1)) fun x46 => if x46 = 0 then (some ((-4), s12)) else (K93  s12)))) else (ev_bd (jm_328 Q a1 a2 a3 a4 s12) fun x49 s48 => some (x49, s48))) else (some (0, s12))) fun K52 => ev_jn (fun  (s57 : ev_St) => K52 1 s57) fun K34 => if x2 = 0 then (K34  s1) else (ev_bd (jm_326 Q a2 a3 s1) fun x60 s59 => if x60 = 0 then (K34  s59) else (ev_if ((0 : Int) ≤ a1 ∧ a1 < (ev_aln 636 : Int)) (ev_b (s59.1 636 (Int.toNat a1)) fun x62 => ev_bd (jm_222 Q a4 0 x62 s59) fun x64 s63 => if x64 ≠ 0 then (ev_bd (jm_222 Q a0 0 2 s63) fun x67 s66 => if x67 = 0 then (K52 2 s66) else (K52 0 s66)) else (K34  s63))))
theorem jt_330 (d : Nat) (hd : 11 ≤ d) (Q : Nat) (a0 : Int) (a1 : Int) (a2 : Int) (a3 : Int) (a4 : Int) (ha0 : ev_rng a0) (ha1 : ev_rng a1) (ha2 : ev_rng a2) (ha3 : ev_rng a3) (ha4 : ev_rng a4) (S : ev_St) (x : Int) (S' : ev_St) (hJ : jm_330 Q a0 a1 a2 a3 a4 S = some (x, S')) : ev_Ref d 330 [.ref 621, .int (Int32.ofInt a0), .int (Int32.ofInt a1), .int (Int32.ofInt a2), .int (Int32.ofInt a3), .int (Int32.ofInt a4)] S (ev_eI x) S' (ev_rng x) := by
  obtain ⟨d, rfl⟩ : ∃ e, d = e + 1 := ⟨d - 1, by omega⟩
  refine ev_ref_of (P := ev_rng) (lv := [(0, .ref 621), (1, .int (Int32.ofInt a0)), (2, .int (Int32.ofInt a1)), (3, .int (Int32.ofInt a2)), (4, .int (Int32.ofInt a3)), (5, .int (Int32.ofInt a4))]) (by decide +kernel) (by (try simp only [ev_sum, ev_nv_cat]); first | done | rfl) (by (try simp only [lv_args, ev_nv_cat]); first | done | rfl) ?_ x S' hJ
  unfold jm_330
  refine ev_r_aload_n (pc := 0) (k := 0) (v := .ref 621) trivial (by decide +kernel) (by rfl) ?_
  refine ev_r_aload_n (pc := 1) (k := 0) (v := .ref 621) trivial (by decide +kernel) (by rfl) ?_
  refine ev_r_iload_n (pc := 2) (k := 2) (v := Int32.ofInt a1) (by decide +kernel) (by rfl) ?_
  refine ev_r_virt (pc := 3) (y := 531) (mi := 273) (na := 1) (k := 621) (as := [.int (Int32.ofInt a1)]) (rest := [.ref 621]) (encc := ev_oI) (Q := ev_bl) (fun x S1 h => jt_273 d (by omega) Q a1 ha1 S x S1 h) (by exact ev_ob_621) (by decide +kernel) (by decide +kernel) (by decide +kernel) (by decide +kernel) rfl (by (try simp only [ev_sum, ev_nv_cat]); first | done | rfl) ?_
  intro x2 s1 hx2
  replace hx2 := ev_bl_rng hx2
  show ev_w _ _ _ _ _ [.int (Int32.ofInt x2), .ref 621] _ _ _ _
  refine ev_r_jn (Q := fun K => ∀ (x3 : Int) (hx3 : ev_rng x3), ∀ (s11 : ev_St) (w4 : List (Nat × Value)), ev_lk w4 0 = some (.ref 621) → ev_lk w4 1 = some (.int (Int32.ofInt a0)) → ev_lk w4 2 = some (.int (Int32.ofInt a1)) → ev_lk w4 3 = some (.int (Int32.ofInt a2)) → ev_lk w4 4 = some (.int (Int32.ofInt a3)) → ev_lk w4 5 = some (.int (Int32.ofInt a4)) → ev_w none (ev_Mof 330) d 52 w4 [.int (Int32.ofInt x3), .ref 621] s11 (K x3 s11) ev_eI ev_rng) ?_ ?_
  · intro x3 hx3 s11 w4 e5 e6 e7 e8 e9 e10
    refine ev_r_putI (pc := 52) (y := 321) (ci := 13) (f := 0) hx3 (by decide +kernel) (by decide +kernel) (by exact ev_ob_621) rfl rfl ?_
    intro s12
    refine ev_r_aload_n (pc := 55) (k := 0) (v := .ref 621) trivial (by decide +kernel) (by exact e5) ?_
    refine ev_r_getI (pc := 56) (y := 321) (ci := 13) (f := 0) (fin := 0) (by decide +kernel) (by decide +kernel) (by exact ev_ob_621) rfl ?_
    intro x13 hx13
    refine ev_r_if (pc := 59) (q := .le) (o := 5) (t := 64) (c := x13 ≤ 0) (by decide +kernel) (ev_k_le hx13 ev_rng0) (by decide +kernel) ?_ ?_
    · intro c14
      refine ev_r_iload_n (pc := 64) (k := 1) (v := Int32.ofInt a0) (by decide +kernel) (by exact e6) ?_
      refine ev_r_if (pc := 65) (q := .ne) (o := 14) (t := 79) (c := a0 ≠ 0) (by decide +kernel) (ev_k_ne ha0 ev_rng0) (by decide +kernel) ?_ ?_
      · intro c15
        refine ev_r_iload_n (pc := 79) (k := 1) (v := Int32.ofInt a0) (by decide +kernel) (by exact e6) ?_
        refine ev_r_iconst (pc := 80) (k := 1) (by decide +kernel) ?_
        refine ev_r_jn (Q := fun K => ∀ (s23 : ev_St) (w16 : List (Nat × Value)), ev_lk w16 0 = some (.ref 621) → ev_lk w16 1 = some (.int (Int32.ofInt a0)) → ev_lk w16 2 = some (.int (Int32.ofInt a1)) → ev_lk w16 3 = some (.int (Int32.ofInt a2)) → ev_lk w16 4 = some (.int (Int32.ofInt a3)) → ev_lk w16 5 = some (.int (Int32.ofInt a4)) → ev_w none (ev_Mof 330) d 93 w16 [] s23 (K  s23) ev_eI ev_rng) ?_ ?_
        · intro  s23 w16 e17 e18 e19 e20 e21 e22
          refine ev_r_iload_n (pc := 93) (k := 1) (v := Int32.ofInt a0) (by decide +kernel) (by exact e18) ?_
          refine ev_r_iconst (pc := 94) (k := 2) (by decide +kernel) ?_
          refine ev_r_jn (Q := fun K => ∀ (s30 : ev_St) (w24 : List (Nat × Value)), ev_lk w24 0 = some (.ref 621) → ev_lk w24 2 = some (.int (Int32.ofInt a1)) → ev_lk w24 3 = some (.int (Int32.ofInt a2)) → ev_lk w24 4 = some (.int (Int32.ofInt a3)) → ev_lk w24 5 = some (.int (Int32.ofInt a4)) → ev_w none (ev_Mof 330) d 116 w24 [] s30 (K  s30) ev_eI ev_rng) ?_ ?_
          · intro  s30 w24 e25 e26 e27 e28 e29
            refine ev_r_aload_n (pc := 116) (k := 0) (v := .ref 621) trivial (by decide +kernel) (by exact e25) ?_
            refine ev_r_iload_n (pc := 117) (k := 3) (v := Int32.ofInt a2) (by decide +kernel) (by exact e27) ?_
            refine ev_r_virt (pc := 118) (y := 722) (mi := 288) (na := 1) (k := 621) (as := [.int (Int32.ofInt a2)]) (rest := []) (encc := ev_oU) (Q := ev_PU) (fun x S1 h => jt_288 d (by omega) Q a2 ha2 s30 x S1 h) (by exact ev_ob_621) (by decide +kernel) (by decide +kernel) (by decide +kernel) (by decide +kernel) rfl (by (try simp only [ev_sum, ev_nv_cat]); first | done | rfl) ?_
            intro _ s31 _
            show ev_w _ _ _ _ _ [] _ _ _ _
            refine ev_r_aload_n (pc := 121) (k := 0) (v := .ref 621) trivial (by decide +kernel) (by exact e25) ?_
            refine ev_r_aload_n (pc := 122) (k := 0) (v := .ref 621) trivial (by decide +kernel) (by exact e25) ?_
            refine ev_r_iload_n (pc := 123) (k := 2) (v := Int32.ofInt a1) (by decide +kernel) (by exact e26) ?_
            refine ev_r_iload (pc := 124) (k := 4) (v := Int32.ofInt a3) (by decide +kernel) (by exact e28) ?_
            refine ev_r_virt (pc := 126) (y := 735) (mi := 315) (na := 2) (k := 621) (as := [.int (Int32.ofInt a1), .int (Int32.ofInt a3)]) (rest := [.ref 621]) (encc := ev_oI) (Q := ev_bl) (fun x S1 h => jt_315 d (by omega) Q a1 a3 ha1 ha3 s31 x S1 h) (by exact ev_ob_621) (by decide +kernel) (by decide +kernel) (by decide +kernel) (by decide +kernel) rfl (by (try simp only [ev_sum, ev_nv_cat]); first | done | rfl) ?_
            intro x33 s32 hx33
            replace hx33 := ev_bl_rng hx33
            show ev_w _ _ _ _ _ [.int (Int32.ofInt x33), .ref 621] _ _ _ _
            refine ev_r_jn (Q := fun K => ∀ (x34 : Int) (hx34 : ev_rng x34), ∀ (s37 : ev_St) (w35 : List (Nat × Value)), ev_lk w35 5 = some (.int (Int32.ofInt a4)) → ev_w none (ev_Mof 330) d 137 w35 [.int (Int32.ofInt x34), .ref 621] s37 (K x34 s37) ev_eI ev_rng) ?_ ?_
            · intro x34 hx34 s37 w35 e36
              refine ev_r_iload (pc := 137) (k := 5) (v := Int32.ofInt a4) (by decide +kernel) (by exact e36) ?_
              refine ev_r_virt (pc := 139) (y := 729) (mi := 327) (na := 2) (k := 621) (as := [.int (Int32.ofInt x34), .int (Int32.ofInt a4)]) (rest := []) (encc := ev_oI) (Q := ev_rng) (fun x S1 h => jt_327 d (by omega) Q x34 a4 hx34 ha4 s37 x S1 h) (by exact ev_ob_621) (by decide +kernel) (by decide +kernel) (by decide +kernel) (by decide +kernel) rfl (by (try simp only [ev_sum, ev_nv_cat]); first | done | rfl) ?_
              intro x39 s38 hx39
              show ev_w _ _ _ _ _ [.int (Int32.ofInt x39)] _ _ _ _
              exact ev_r_ireturn (pc := 142) (x := x39) (v := Int32.ofInt x39) (ty := .int) hx39 (by decide +kernel) (by decide +kernel) rfl rfl
            · intro K137 hK137
              refine ev_r_if (pc := 129) (q := .eq) (o := 7) (t := 136) (c := x33 = 0) (by decide +kernel) (ev_k_eq hx33 ev_rng0) (by decide +kernel) ?_ ?_
              · intro c40
                refine ev_r_iconst (pc := 136) (k := 0) (by decide +kernel) ?_
                exact hK137 0 (by decide) s32 _ (by exact e29)
              · intro c40
                refine ev_r_iconst (pc := 132) (k := 1) (by decide +kernel) ?_
                refine ev_r_goto (pc := 133) (o := 4) (t := 137) (by decide +kernel) (by decide +kernel) ?_
                exact hK137 1 (by decide) s32 _ (by exact e29)
          · intro K116 hK116
            refine ev_r_icmp (pc := 95) (q := .ne) (o := 21) (t := 116) (c := a0 ≠ 2) (by decide +kernel) (ev_k_ne ha0 (by decide)) (by decide +kernel) ?_ ?_
            · intro c41
              exact hK116  s23 _ (by exact e17) (by exact e19) (by exact e20) (by exact e21) (by exact e22)
            · intro c41
              refine ev_r_aload_n (pc := 98) (k := 0) (v := .ref 621) trivial (by decide +kernel) (by exact e17) ?_
              refine ev_r_getC (pc := 99) (y := 62) (ci := 13) (f := 20) (fin := 1) (k' := 639) (by decide +kernel) (by decide +kernel) (by exact ev_ob_621) rfl rfl ?_
              refine ev_r_iload_n (pc := 102) (k := 2) (v := Int32.ofInt a1) (by decide +kernel) (by exact e19) ?_
              refine ev_r_iald (pc := 103) ha1 (by decide +kernel) (by exact ev_ab_639) ?_
              intro x42 hx42
              refine ev_r_iconst (pc := 104) (k := 2) (by decide +kernel) ?_
              refine ev_r_icmp (pc := 105) (q := .lt) (o := 8) (t := 113) (c := x42 < 2) (by decide +kernel) (ev_k_lt hx42 (by decide)) (by decide +kernel) ?_ ?_
              · intro c43
                refine ev_r_bipush (pc := 113) (k := -4) (by decide +kernel) (by decide +kernel) ?_
                exact ev_r_ireturn (pc := 115) (x := (-4)) (v := Int32.ofInt ((-4))) (ty := .int) (by decide) (by decide +kernel) (by decide +kernel) rfl rfl
              · intro c43
                refine ev_r_iload (pc := 108) (k := 5) (v := Int32.ofInt a4) (by decide +kernel) (by exact e22) ?_
                refine ev_r_if (pc := 110) (q := .le) (o := 6) (t := 116) (c := a4 ≤ 0) (by decide +kernel) (ev_k_le ha4 ev_rng0) (by decide +kernel) ?_ ?_
                · intro c44
                  exact hK116  s23 _ (by exact e17) (by exact e19) (by exact e20) (by exact e21) (by exact e22)
                · intro c44
                  refine ev_r_bipush (pc := 113) (k := -4) (by decide +kernel) (by decide +kernel) ?_
                  exact ev_r_ireturn (pc := 115) (x := (-4)) (v := Int32.ofInt ((-4))) (ty := .int) (by decide) (by decide +kernel) (by decide +kernel) rfl rfl
        · intro K93 hK93
          refine ev_r_icmp (pc := 81) (q := .ne) (o := 12) (t := 93) (c := a0 ≠ 1) (by decide +kernel) (ev_k_ne ha0 (by decide)) (by decide +kernel) ?_ ?_
          · intro c45
            exact hK93  s12 _ (by exact e5) (by exact e6) (by exact e7) (by exact e8) (by exact e9) (by exact e10)
          · intro c45
            refine ev_r_aload_n (pc := 84) (k := 0) (v := .ref 621) trivial (by decide +kernel) (by exact e5) ?_
            refine ev_r_getC (pc := 85) (y := 62) (ci := 13) (f := 20) (fin := 1) (k' := 639) (by decide +kernel) (by decide +kernel) (by exact ev_ob_621) rfl rfl ?_
            refine ev_r_iload_n (pc := 88) (k := 2) (v := Int32.ofInt a1) (by decide +kernel) (by exact e7) ?_
            refine ev_r_iald (pc := 89) ha1 (by decide +kernel) (by exact ev_ab_639) ?_
            intro x46 hx46
            refine ev_r_if (pc := 90) (q := .eq) (o := 23) (t := 113) (c := x46 = 0) (by decide +kernel) (ev_k_eq hx46 ev_rng0) (by decide +kernel) ?_ ?_
            · intro c47
              refine ev_r_bipush (pc := 113) (k := -4) (by decide +kernel) (by decide +kernel) ?_
              exact ev_r_ireturn (pc := 115) (x := (-4)) (v := Int32.ofInt ((-4))) (ty := .int) (by decide) (by decide +kernel) (by decide +kernel) rfl rfl
            · intro c47
              exact hK93  s12 _ (by exact e5) (by exact e6) (by exact e7) (by exact e8) (by exact e9) (by exact e10)
      · intro c15
        refine ev_r_aload_n (pc := 68) (k := 0) (v := .ref 621) trivial (by decide +kernel) (by exact e5) ?_
        refine ev_r_iload_n (pc := 69) (k := 2) (v := Int32.ofInt a1) (by decide +kernel) (by exact e7) ?_
        refine ev_r_iload_n (pc := 70) (k := 3) (v := Int32.ofInt a2) (by decide +kernel) (by exact e8) ?_
        refine ev_r_iload (pc := 71) (k := 4) (v := Int32.ofInt a3) (by decide +kernel) (by exact e9) ?_
        refine ev_r_iload (pc := 73) (k := 5) (v := Int32.ofInt a4) (by decide +kernel) (by exact e10) ?_
        refine ev_r_virt (pc := 75) (y := 732) (mi := 328) (na := 4) (k := 621) (as := [.int (Int32.ofInt a1), .int (Int32.ofInt a2), .int (Int32.ofInt a3), .int (Int32.ofInt a4)]) (rest := []) (encc := ev_oI) (Q := ev_rng) (fun x S1 h => jt_328 d (by omega) Q a1 a2 a3 a4 ha1 ha2 ha3 ha4 s12 x S1 h) (by exact ev_ob_621) (by decide +kernel) (by decide +kernel) (by decide +kernel) (by decide +kernel) rfl (by (try simp only [ev_sum, ev_nv_cat]); first | done | rfl) ?_
        intro x49 s48 hx49
        show ev_w _ _ _ _ _ [.int (Int32.ofInt x49)] _ _ _ _
        exact ev_r_ireturn (pc := 78) (x := x49) (v := Int32.ofInt x49) (ty := .int) hx49 (by decide +kernel) (by decide +kernel) rfl rfl
    · intro c14
      refine ev_r_iconst (pc := 62) (k := 0) (by decide +kernel) ?_
      exact ev_r_ireturn (pc := 63) (x := 0) (v := Int32.ofInt 0) (ty := .int) (by decide) (by decide +kernel) (by decide +kernel) rfl rfl
  · intro K52 hK52
    refine ev_r_jn (Q := fun K => ∀ (s57 : ev_St) (w50 : List (Nat × Value)), ev_lk w50 0 = some (.ref 621) → ev_lk w50 1 = some (.int (Int32.ofInt a0)) → ev_lk w50 2 = some (.int (Int32.ofInt a1)) → ev_lk w50 3 = some (.int (Int32.ofInt a2)) → ev_lk w50 4 = some (.int (Int32.ofInt a3)) → ev_lk w50 5 = some (.int (Int32.ofInt a4)) → ev_w none (ev_Mof 330) d 34 w50 [.ref 621] s57 (K  s57) ev_eI ev_rng) ?_ ?_
    · intro  s57 w50 e51 e52 e53 e54 e55 e56
      refine ev_r_iconst (pc := 34) (k := 1) (by decide +kernel) ?_
      refine ev_r_goto (pc := 35) (o := 17) (t := 52) (by decide +kernel) (by decide +kernel) ?_
      exact hK52 1 (by decide) s57 _ (by exact e51) (by exact e52) (by exact e53) (by exact e54) (by exact e55) (by exact e56)
    · intro K34 hK34
      refine ev_r_if (pc := 6) (q := .eq) (o := 28) (t := 34) (c := x2 = 0) (by decide +kernel) (ev_k_eq hx2 ev_rng0) (by decide +kernel) ?_ ?_
      · intro c58
        exact hK34  s1 _ (by rfl) (by rfl) (by rfl) (by rfl) (by rfl) (by rfl)
      · intro c58
        refine ev_r_aload_n (pc := 9) (k := 0) (v := .ref 621) trivial (by decide +kernel) (by rfl) ?_
        refine ev_r_iload_n (pc := 10) (k := 3) (v := Int32.ofInt a2) (by decide +kernel) (by rfl) ?_
        refine ev_r_iload (pc := 11) (k := 4) (v := Int32.ofInt a3) (by decide +kernel) (by rfl) ?_
        refine ev_r_virt (pc := 13) (y := 719) (mi := 326) (na := 2) (k := 621) (as := [.int (Int32.ofInt a2), .int (Int32.ofInt a3)]) (rest := [.ref 621]) (encc := ev_oI) (Q := ev_bl) (fun x S1 h => jt_326 d (by omega) Q a2 a3 ha2 ha3 s1 x S1 h) (by exact ev_ob_621) (by decide +kernel) (by decide +kernel) (by decide +kernel) (by decide +kernel) rfl (by (try simp only [ev_sum, ev_nv_cat]); first | done | rfl) ?_
        intro x60 s59 hx60
        replace hx60 := ev_bl_rng hx60
        show ev_w _ _ _ _ _ [.int (Int32.ofInt x60), .ref 621] _ _ _ _
        refine ev_r_if (pc := 16) (q := .eq) (o := 18) (t := 34) (c := x60 = 0) (by decide +kernel) (ev_k_eq hx60 ev_rng0) (by decide +kernel) ?_ ?_
        · intro c61
          exact hK34  s59 _ (by rfl) (by rfl) (by rfl) (by rfl) (by rfl) (by rfl)
        · intro c61
          refine ev_r_iload (pc := 19) (k := 5) (v := Int32.ofInt a4) (by decide +kernel) (by rfl) ?_
          refine ev_r_iconst (pc := 21) (k := 0) (by decide +kernel) ?_
          refine ev_r_aload_n (pc := 22) (k := 0) (v := .ref 621) trivial (by decide +kernel) (by rfl) ?_
          refine ev_r_getC (pc := 23) (y := 53) (ci := 13) (f := 17) (fin := 1) (k' := 636) (by decide +kernel) (by decide +kernel) (by exact ev_ob_621) rfl rfl ?_
          refine ev_r_iload_n (pc := 26) (k := 2) (v := Int32.ofInt a1) (by decide +kernel) (by rfl) ?_
          refine ev_r_iald (pc := 27) ha1 (by decide +kernel) (by exact ev_ab_636) ?_
          intro x62 hx62
          refine ev_r_stat (pc := 28) (y := 325) (kind := 2) (mi := 222) (na := 3) (as := [.int (Int32.ofInt a4), .int (Int32.ofInt 0), .int (Int32.ofInt x62)]) (rest := [.ref 621]) (encc := ev_oI) (Q := ev_bl) (fun x S1 h => jt_222 d (by omega) Q a4 0 x62 ha4 (by decide) hx62 s59 x S1 h) (Or.inl rfl) (by decide +kernel) (by decide +kernel) (by decide +kernel) (by decide +kernel) rfl (by (try simp only [ev_sum, ev_nv_cat]); first | done | rfl) ?_
          intro x64 s63 hx64
          replace hx64 := ev_bl_rng hx64
          show ev_w _ _ _ _ _ [.int (Int32.ofInt x64), .ref 621] _ _ _ _
          refine ev_r_if (pc := 31) (q := .ne) (o := 7) (t := 38) (c := x64 ≠ 0) (by decide +kernel) (ev_k_ne hx64 ev_rng0) (by decide +kernel) ?_ ?_
          · intro c65
            refine ev_r_iload_n (pc := 38) (k := 1) (v := Int32.ofInt a0) (by decide +kernel) (by rfl) ?_
            refine ev_r_iconst (pc := 39) (k := 0) (by decide +kernel) ?_
            refine ev_r_iconst (pc := 40) (k := 2) (by decide +kernel) ?_
            refine ev_r_stat (pc := 41) (y := 325) (kind := 2) (mi := 222) (na := 3) (as := [.int (Int32.ofInt a0), .int (Int32.ofInt 0), .int (Int32.ofInt 2)]) (rest := [.ref 621]) (encc := ev_oI) (Q := ev_bl) (fun x S1 h => jt_222 d (by omega) Q a0 0 2 ha0 (by decide) (by decide) s63 x S1 h) (Or.inl rfl) (by decide +kernel) (by decide +kernel) (by decide +kernel) (by decide +kernel) rfl (by (try simp only [ev_sum, ev_nv_cat]); first | done | rfl) ?_
            intro x67 s66 hx67
            replace hx67 := ev_bl_rng hx67
            show ev_w _ _ _ _ _ [.int (Int32.ofInt x67), .ref 621] _ _ _ _
            refine ev_r_if (pc := 44) (q := .eq) (o := 7) (t := 51) (c := x67 = 0) (by decide +kernel) (ev_k_eq hx67 ev_rng0) (by decide +kernel) ?_ ?_
            · intro c68
              refine ev_r_iconst (pc := 51) (k := 2) (by decide +kernel) ?_
              exact hK52 2 (by decide) s66 _ (by rfl) (by rfl) (by rfl) (by rfl) (by rfl) (by rfl)
            · intro c68
              refine ev_r_iconst (pc := 47) (k := 0) (by decide +kernel) ?_
              refine ev_r_goto (pc := 48) (o := 4) (t := 52) (by decide +kernel) (by decide +kernel) ?_
              exact hK52 0 (by decide) s66 _ (by rfl) (by rfl) (by rfl) (by rfl) (by rfl) (by rfl)
          · intro c65
            exact hK34  s63 _ (by rfl) (by rfl) (by rfl) (by rfl) (by rfl) (by rfl)
/-- MendBenchModel.steps(III)I -/
def jm_331 (Q : Nat) (a0 : Int) (a1 : Int) (a2 : Int) (S : ev_St) : Option ((Int) × ev_St) := ev_bd (jm_273 Q a0 S) fun x2 s1 => ev_jn (fun (x3 : Int) (s9 : ev_St) => ev_b (ev_pI s9 621 0 x3) fun s10 => ev_b (s10.1 621 0) fun x11 => if x11 ≤ 0 then (ev_bd (jm_288 Q a1 s10) fun _ s13 => ev_bd (jm_308 Q a0 a2 0 s13) fun x15 s14 => if x15 ≠ (-2) then (ev_b (s14.1 621 75) fun x17 => some (x17, s14)) else (some ((-2), s14))) else (some (0, s10))) fun K23 => ev_jn (fun  (s23 : ev_St) => K23 1 s23) fun K22 => if x2 = 0 then (K22  s1) else (ev_bd (jm_326 Q a1 a2 s1) fun x26 s25 => if x26 = 0 then (K22  s25) else (K23 0 s25))
theorem jt_331 (d : Nat) (hd : 10 ≤ d) (Q : Nat) (a0 : Int) (a1 : Int) (a2 : Int) (ha0 : ev_rng a0) (ha1 : ev_rng a1) (ha2 : ev_rng a2) (S : ev_St) (x : Int) (S' : ev_St) (hJ : jm_331 Q a0 a1 a2 S = some (x, S')) : ev_Ref d 331 [.ref 621, .int (Int32.ofInt a0), .int (Int32.ofInt a1), .int (Int32.ofInt a2)] S (ev_eI x) S' (ev_rng x) := by
  obtain ⟨d, rfl⟩ : ∃ e, d = e + 1 := ⟨d - 1, by omega⟩
  refine ev_ref_of (P := ev_rng) (lv := [(0, .ref 621), (1, .int (Int32.ofInt a0)), (2, .int (Int32.ofInt a1)), (3, .int (Int32.ofInt a2))]) (by decide +kernel) (by (try simp only [ev_sum, ev_nv_cat]); first | done | rfl) (by (try simp only [lv_args, ev_nv_cat]); first | done | rfl) ?_ x S' hJ
  unfold jm_331
  refine ev_r_aload_n (pc := 0) (k := 0) (v := .ref 621) trivial (by decide +kernel) (by rfl) ?_
  refine ev_r_aload_n (pc := 1) (k := 0) (v := .ref 621) trivial (by decide +kernel) (by rfl) ?_
  refine ev_r_iload_n (pc := 2) (k := 1) (v := Int32.ofInt a0) (by decide +kernel) (by rfl) ?_
  refine ev_r_virt (pc := 3) (y := 531) (mi := 273) (na := 1) (k := 621) (as := [.int (Int32.ofInt a0)]) (rest := [.ref 621]) (encc := ev_oI) (Q := ev_bl) (fun x S1 h => jt_273 d (by omega) Q a0 ha0 S x S1 h) (by exact ev_ob_621) (by decide +kernel) (by decide +kernel) (by decide +kernel) (by decide +kernel) rfl (by (try simp only [ev_sum, ev_nv_cat]); first | done | rfl) ?_
  intro x2 s1 hx2
  replace hx2 := ev_bl_rng hx2
  show ev_w _ _ _ _ _ [.int (Int32.ofInt x2), .ref 621] _ _ _ _
  refine ev_r_jn (Q := fun K => ∀ (x3 : Int) (hx3 : ev_rng x3), ∀ (s9 : ev_St) (w4 : List (Nat × Value)), ev_lk w4 0 = some (.ref 621) → ev_lk w4 1 = some (.int (Int32.ofInt a0)) → ev_lk w4 2 = some (.int (Int32.ofInt a1)) → ev_lk w4 3 = some (.int (Int32.ofInt a2)) → ev_w none (ev_Mof 331) d 23 w4 [.int (Int32.ofInt x3), .ref 621] s9 (K x3 s9) ev_eI ev_rng) ?_ ?_
  · intro x3 hx3 s9 w4 e5 e6 e7 e8
    refine ev_r_putI (pc := 23) (y := 321) (ci := 13) (f := 0) hx3 (by decide +kernel) (by decide +kernel) (by exact ev_ob_621) rfl rfl ?_
    intro s10
    refine ev_r_aload_n (pc := 26) (k := 0) (v := .ref 621) trivial (by decide +kernel) (by exact e5) ?_
    refine ev_r_getI (pc := 27) (y := 321) (ci := 13) (f := 0) (fin := 0) (by decide +kernel) (by decide +kernel) (by exact ev_ob_621) rfl ?_
    intro x11 hx11
    refine ev_r_if (pc := 30) (q := .le) (o := 5) (t := 35) (c := x11 ≤ 0) (by decide +kernel) (ev_k_le hx11 ev_rng0) (by decide +kernel) ?_ ?_
    · intro c12
      refine ev_r_aload_n (pc := 35) (k := 0) (v := .ref 621) trivial (by decide +kernel) (by exact e5) ?_
      refine ev_r_iload_n (pc := 36) (k := 2) (v := Int32.ofInt a1) (by decide +kernel) (by exact e7) ?_
      refine ev_r_virt (pc := 37) (y := 722) (mi := 288) (na := 1) (k := 621) (as := [.int (Int32.ofInt a1)]) (rest := []) (encc := ev_oU) (Q := ev_PU) (fun x S1 h => jt_288 d (by omega) Q a1 ha1 s10 x S1 h) (by exact ev_ob_621) (by decide +kernel) (by decide +kernel) (by decide +kernel) (by decide +kernel) rfl (by (try simp only [ev_sum, ev_nv_cat]); first | done | rfl) ?_
      intro _ s13 _
      show ev_w _ _ _ _ _ [] _ _ _ _
      refine ev_r_aload_n (pc := 40) (k := 0) (v := .ref 621) trivial (by decide +kernel) (by exact e5) ?_
      refine ev_r_iload_n (pc := 41) (k := 1) (v := Int32.ofInt a0) (by decide +kernel) (by exact e6) ?_
      refine ev_r_iload_n (pc := 42) (k := 3) (v := Int32.ofInt a2) (by decide +kernel) (by exact e8) ?_
      refine ev_r_iconst (pc := 43) (k := 0) (by decide +kernel) ?_
      refine ev_r_virt (pc := 44) (y := 725) (mi := 308) (na := 3) (k := 621) (as := [.int (Int32.ofInt a0), .int (Int32.ofInt a2), .int (Int32.ofInt 0)]) (rest := []) (encc := ev_oI) (Q := ev_rng) (fun x S1 h => jt_308 d (by omega) Q a0 a2 0 ha0 ha2 (by decide) s13 x S1 h) (by exact ev_ob_621) (by decide +kernel) (by decide +kernel) (by decide +kernel) (by decide +kernel) rfl (by (try simp only [ev_sum, ev_nv_cat]); first | done | rfl) ?_
      intro x15 s14 hx15
      show ev_w _ _ _ _ _ [.int (Int32.ofInt x15)] _ _ _ _
      refine ev_r_bipush (pc := 47) (k := -2) (by decide +kernel) (by decide +kernel) ?_
      refine ev_r_icmp (pc := 49) (q := .ne) (o := 8) (t := 57) (c := x15 ≠ (-2)) (by decide +kernel) (ev_k_ne hx15 (by decide)) (by decide +kernel) ?_ ?_
      · intro c16
        refine ev_r_aload_n (pc := 57) (k := 0) (v := .ref 621) trivial (by decide +kernel) (by exact e5) ?_
        refine ev_r_getI (pc := 58) (y := 570) (ci := 13) (f := 75) (fin := 0) (by decide +kernel) (by decide +kernel) (by exact ev_ob_621) rfl ?_
        intro x17 hx17
        exact ev_r_ireturn (pc := 61) (x := x17) (v := Int32.ofInt x17) (ty := .int) hx17 (by decide +kernel) (by decide +kernel) rfl rfl
      · intro c16
        refine ev_r_bipush (pc := 52) (k := -2) (by decide +kernel) (by decide +kernel) ?_
        refine ev_r_goto (pc := 54) (o := 7) (t := 61) (by decide +kernel) (by decide +kernel) ?_
        exact ev_r_ireturn (pc := 61) (x := (-2)) (v := Int32.ofInt ((-2))) (ty := .int) (by decide) (by decide +kernel) (by decide +kernel) rfl rfl
    · intro c12
      refine ev_r_iconst (pc := 33) (k := 0) (by decide +kernel) ?_
      exact ev_r_ireturn (pc := 34) (x := 0) (v := Int32.ofInt 0) (ty := .int) (by decide) (by decide +kernel) (by decide +kernel) rfl rfl
  · intro K23 hK23
    refine ev_r_jn (Q := fun K => ∀ (s23 : ev_St) (w18 : List (Nat × Value)), ev_lk w18 0 = some (.ref 621) → ev_lk w18 1 = some (.int (Int32.ofInt a0)) → ev_lk w18 2 = some (.int (Int32.ofInt a1)) → ev_lk w18 3 = some (.int (Int32.ofInt a2)) → ev_w none (ev_Mof 331) d 22 w18 [.ref 621] s23 (K  s23) ev_eI ev_rng) ?_ ?_
    · intro  s23 w18 e19 e20 e21 e22
      refine ev_r_iconst (pc := 22) (k := 1) (by decide +kernel) ?_
      exact hK23 1 (by decide) s23 _ (by exact e19) (by exact e20) (by exact e21) (by exact e22)
    · intro K22 hK22
      refine ev_r_if (pc := 6) (q := .eq) (o := 16) (t := 22) (c := x2 = 0) (by decide +kernel) (ev_k_eq hx2 ev_rng0) (by decide +kernel) ?_ ?_
      · intro c24
        exact hK22  s1 _ (by rfl) (by rfl) (by rfl) (by rfl)
      · intro c24
        refine ev_r_aload_n (pc := 9) (k := 0) (v := .ref 621) trivial (by decide +kernel) (by rfl) ?_
        refine ev_r_iload_n (pc := 10) (k := 2) (v := Int32.ofInt a1) (by decide +kernel) (by rfl) ?_
        refine ev_r_iload_n (pc := 11) (k := 3) (v := Int32.ofInt a2) (by decide +kernel) (by rfl) ?_
        refine ev_r_virt (pc := 12) (y := 719) (mi := 326) (na := 2) (k := 621) (as := [.int (Int32.ofInt a1), .int (Int32.ofInt a2)]) (rest := [.ref 621]) (encc := ev_oI) (Q := ev_bl) (fun x S1 h => jt_326 d (by omega) Q a1 a2 ha1 ha2 s1 x S1 h) (by exact ev_ob_621) (by decide +kernel) (by decide +kernel) (by decide +kernel) (by decide +kernel) rfl (by (try simp only [ev_sum, ev_nv_cat]); first | done | rfl) ?_
        intro x26 s25 hx26
        replace hx26 := ev_bl_rng hx26
        show ev_w _ _ _ _ _ [.int (Int32.ofInt x26), .ref 621] _ _ _ _
        refine ev_r_if (pc := 15) (q := .eq) (o := 7) (t := 22) (c := x26 = 0) (by decide +kernel) (ev_k_eq hx26 ev_rng0) (by decide +kernel) ?_ ?_
        · intro c27
          exact hK22  s25 _ (by rfl) (by rfl) (by rfl) (by rfl)
        · intro c27
          refine ev_r_iconst (pc := 18) (k := 0) (by decide +kernel) ?_
          refine ev_r_goto (pc := 19) (o := 4) (t := 23) (by decide +kernel) (by decide +kernel) ?_
          exact hK23 0 (by decide) s25 _ (by rfl) (by rfl) (by rfl) (by rfl)
/-- MendBenchModel.back(III)I -/
def jm_332 (Q : Nat) (a0 : Int) (a1 : Int) (a2 : Int) (S : ev_St) : Option ((Int) × ev_St) := ev_bd (jm_273 Q a0 S) fun x2 s1 => ev_jn (fun (x3 : Int) (s9 : ev_St) => ev_b (ev_pI s9 621 0 x3) fun s10 => ev_b (s10.1 621 0) fun x11 => if x11 ≤ 0 then (ev_bd (jm_288 Q a1 s10) fun _ s13 => ev_bd (jm_308 Q a0 a2 1 s13) fun x15 s14 => ev_bd (jm_327 Q x15 0 s14) fun x17 s16 => some (x17, s16)) else (some (0, s10))) fun K23 => ev_jn (fun  (s23 : ev_St) => K23 1 s23) fun K22 => if x2 = 0 then (K22  s1) else (ev_bd (jm_326 Q a1 a2 s1) fun x26 s25 => if x26 = 0 then (K22  s25) else (K23 0 s25))
theorem jt_332 (d : Nat) (hd : 10 ≤ d) (Q : Nat) (a0 : Int) (a1 : Int) (a2 : Int) (ha0 : ev_rng a0) (ha1 : ev_rng a1) (ha2 : ev_rng a2) (S : ev_St) (x : Int) (S' : ev_St) (hJ : jm_332 Q a0 a1 a2 S = some (x, S')) : ev_Ref d 332 [.ref 621, .int (Int32.ofInt a0), .int (Int32.ofInt a1), .int (Int32.ofInt a2)] S (ev_eI x) S' (ev_rng x) := by
  obtain ⟨d, rfl⟩ : ∃ e, d = e + 1 := ⟨d - 1, by omega⟩
  refine ev_ref_of (P := ev_rng) (lv := [(0, .ref 621), (1, .int (Int32.ofInt a0)), (2, .int (Int32.ofInt a1)), (3, .int (Int32.ofInt a2))]) (by decide +kernel) (by (try simp only [ev_sum, ev_nv_cat]); first | done | rfl) (by (try simp only [lv_args, ev_nv_cat]); first | done | rfl) ?_ x S' hJ
  unfold jm_332
  refine ev_r_aload_n (pc := 0) (k := 0) (v := .ref 621) trivial (by decide +kernel) (by rfl) ?_
  refine ev_r_aload_n (pc := 1) (k := 0) (v := .ref 621) trivial (by decide +kernel) (by rfl) ?_
  refine ev_r_iload_n (pc := 2) (k := 1) (v := Int32.ofInt a0) (by decide +kernel) (by rfl) ?_
  refine ev_r_virt (pc := 3) (y := 531) (mi := 273) (na := 1) (k := 621) (as := [.int (Int32.ofInt a0)]) (rest := [.ref 621]) (encc := ev_oI) (Q := ev_bl) (fun x S1 h => jt_273 d (by omega) Q a0 ha0 S x S1 h) (by exact ev_ob_621) (by decide +kernel) (by decide +kernel) (by decide +kernel) (by decide +kernel) rfl (by (try simp only [ev_sum, ev_nv_cat]); first | done | rfl) ?_
  intro x2 s1 hx2
  replace hx2 := ev_bl_rng hx2
  show ev_w _ _ _ _ _ [.int (Int32.ofInt x2), .ref 621] _ _ _ _
  refine ev_r_jn (Q := fun K => ∀ (x3 : Int) (hx3 : ev_rng x3), ∀ (s9 : ev_St) (w4 : List (Nat × Value)), ev_lk w4 0 = some (.ref 621) → ev_lk w4 1 = some (.int (Int32.ofInt a0)) → ev_lk w4 2 = some (.int (Int32.ofInt a1)) → ev_lk w4 3 = some (.int (Int32.ofInt a2)) → ev_w none (ev_Mof 332) d 23 w4 [.int (Int32.ofInt x3), .ref 621] s9 (K x3 s9) ev_eI ev_rng) ?_ ?_
  · intro x3 hx3 s9 w4 e5 e6 e7 e8
    refine ev_r_putI (pc := 23) (y := 321) (ci := 13) (f := 0) hx3 (by decide +kernel) (by decide +kernel) (by exact ev_ob_621) rfl rfl ?_
    intro s10
    refine ev_r_aload_n (pc := 26) (k := 0) (v := .ref 621) trivial (by decide +kernel) (by exact e5) ?_
    refine ev_r_getI (pc := 27) (y := 321) (ci := 13) (f := 0) (fin := 0) (by decide +kernel) (by decide +kernel) (by exact ev_ob_621) rfl ?_
    intro x11 hx11
    refine ev_r_if (pc := 30) (q := .le) (o := 5) (t := 35) (c := x11 ≤ 0) (by decide +kernel) (ev_k_le hx11 ev_rng0) (by decide +kernel) ?_ ?_
    · intro c12
      refine ev_r_aload_n (pc := 35) (k := 0) (v := .ref 621) trivial (by decide +kernel) (by exact e5) ?_
      refine ev_r_iload_n (pc := 36) (k := 2) (v := Int32.ofInt a1) (by decide +kernel) (by exact e7) ?_
      refine ev_r_virt (pc := 37) (y := 722) (mi := 288) (na := 1) (k := 621) (as := [.int (Int32.ofInt a1)]) (rest := []) (encc := ev_oU) (Q := ev_PU) (fun x S1 h => jt_288 d (by omega) Q a1 ha1 s10 x S1 h) (by exact ev_ob_621) (by decide +kernel) (by decide +kernel) (by decide +kernel) (by decide +kernel) rfl (by (try simp only [ev_sum, ev_nv_cat]); first | done | rfl) ?_
      intro _ s13 _
      show ev_w _ _ _ _ _ [] _ _ _ _
      refine ev_r_aload_n (pc := 40) (k := 0) (v := .ref 621) trivial (by decide +kernel) (by exact e5) ?_
      refine ev_r_aload_n (pc := 41) (k := 0) (v := .ref 621) trivial (by decide +kernel) (by exact e5) ?_
      refine ev_r_iload_n (pc := 42) (k := 1) (v := Int32.ofInt a0) (by decide +kernel) (by exact e6) ?_
      refine ev_r_iload_n (pc := 43) (k := 3) (v := Int32.ofInt a2) (by decide +kernel) (by exact e8) ?_
      refine ev_r_iconst (pc := 44) (k := 1) (by decide +kernel) ?_
      refine ev_r_virt (pc := 45) (y := 725) (mi := 308) (na := 3) (k := 621) (as := [.int (Int32.ofInt a0), .int (Int32.ofInt a2), .int (Int32.ofInt 1)]) (rest := [.ref 621]) (encc := ev_oI) (Q := ev_rng) (fun x S1 h => jt_308 d (by omega) Q a0 a2 1 ha0 ha2 (by decide) s13 x S1 h) (by exact ev_ob_621) (by decide +kernel) (by decide +kernel) (by decide +kernel) (by decide +kernel) rfl (by (try simp only [ev_sum, ev_nv_cat]); first | done | rfl) ?_
      intro x15 s14 hx15
      show ev_w _ _ _ _ _ [.int (Int32.ofInt x15), .ref 621] _ _ _ _
      refine ev_r_iconst (pc := 48) (k := 0) (by decide +kernel) ?_
      refine ev_r_virt (pc := 49) (y := 729) (mi := 327) (na := 2) (k := 621) (as := [.int (Int32.ofInt x15), .int (Int32.ofInt 0)]) (rest := []) (encc := ev_oI) (Q := ev_rng) (fun x S1 h => jt_327 d (by omega) Q x15 0 hx15 (by decide) s14 x S1 h) (by exact ev_ob_621) (by decide +kernel) (by decide +kernel) (by decide +kernel) (by decide +kernel) rfl (by (try simp only [ev_sum, ev_nv_cat]); first | done | rfl) ?_
      intro x17 s16 hx17
      show ev_w _ _ _ _ _ [.int (Int32.ofInt x17)] _ _ _ _
      exact ev_r_ireturn (pc := 52) (x := x17) (v := Int32.ofInt x17) (ty := .int) hx17 (by decide +kernel) (by decide +kernel) rfl rfl
    · intro c12
      refine ev_r_iconst (pc := 33) (k := 0) (by decide +kernel) ?_
      exact ev_r_ireturn (pc := 34) (x := 0) (v := Int32.ofInt 0) (ty := .int) (by decide) (by decide +kernel) (by decide +kernel) rfl rfl
  · intro K23 hK23
    refine ev_r_jn (Q := fun K => ∀ (s23 : ev_St) (w18 : List (Nat × Value)), ev_lk w18 0 = some (.ref 621) → ev_lk w18 1 = some (.int (Int32.ofInt a0)) → ev_lk w18 2 = some (.int (Int32.ofInt a1)) → ev_lk w18 3 = some (.int (Int32.ofInt a2)) → ev_w none (ev_Mof 332) d 22 w18 [.ref 621] s23 (K  s23) ev_eI ev_rng) ?_ ?_
    · intro  s23 w18 e19 e20 e21 e22
      refine ev_r_iconst (pc := 22) (k := 1) (by decide +kernel) ?_
      exact hK23 1 (by decide) s23 _ (by exact e19) (by exact e20) (by exact e21) (by exact e22)
    · intro K22 hK22
      refine ev_r_if (pc := 6) (q := .eq) (o := 16) (t := 22) (c := x2 = 0) (by decide +kernel) (ev_k_eq hx2 ev_rng0) (by decide +kernel) ?_ ?_
      · intro c24
        exact hK22  s1 _ (by rfl) (by rfl) (by rfl) (by rfl)
      · intro c24
        refine ev_r_aload_n (pc := 9) (k := 0) (v := .ref 621) trivial (by decide +kernel) (by rfl) ?_
        refine ev_r_iload_n (pc := 10) (k := 2) (v := Int32.ofInt a1) (by decide +kernel) (by rfl) ?_
        refine ev_r_iload_n (pc := 11) (k := 3) (v := Int32.ofInt a2) (by decide +kernel) (by rfl) ?_
        refine ev_r_virt (pc := 12) (y := 719) (mi := 326) (na := 2) (k := 621) (as := [.int (Int32.ofInt a1), .int (Int32.ofInt a2)]) (rest := [.ref 621]) (encc := ev_oI) (Q := ev_bl) (fun x S1 h => jt_326 d (by omega) Q a1 a2 ha1 ha2 s1 x S1 h) (by exact ev_ob_621) (by decide +kernel) (by decide +kernel) (by decide +kernel) (by decide +kernel) rfl (by (try simp only [ev_sum, ev_nv_cat]); first | done | rfl) ?_
        intro x26 s25 hx26
        replace hx26 := ev_bl_rng hx26
        show ev_w _ _ _ _ _ [.int (Int32.ofInt x26), .ref 621] _ _ _ _
        refine ev_r_if (pc := 15) (q := .eq) (o := 7) (t := 22) (c := x26 = 0) (by decide +kernel) (ev_k_eq hx26 ev_rng0) (by decide +kernel) ?_ ?_
        · intro c27
          exact hK22  s25 _ (by rfl) (by rfl) (by rfl) (by rfl)
        · intro c27
          refine ev_r_iconst (pc := 18) (k := 0) (by decide +kernel) ?_
          refine ev_r_goto (pc := 19) (o := 4) (t := 23) (by decide +kernel) (by decide +kernel) ?_
          exact hK23 0 (by decide) s25 _ (by rfl) (by rfl) (by rfl) (by rfl)
/-- MendBenchModel.behindOf()I -/
def jm_333 (Q : Nat)  (S : ev_St) : Option ((Int) × ev_St) := ev_if ((0 : Int) ≤ 0 ∧ 0 < (ev_aln 680 : Int)) (ev_b (S.1 680 (Int.toNat 0)) fun x1 => ev_if ((0 : Int) ≤ 0 ∧ 0 < (ev_aln 679 : Int)) (ev_b (S.1 679 (Int.toNat 0)) fun x2 => ev_jn (fun (x3 : Int) (s6 : ev_St) => ev_b (s6.1 621 73) fun x7 => if x3 ≤ x7 then (some (x3, s6)) else (some ((-1), s6))) fun K32 => if x1 ≤ x2 then (ev_if ((0 : Int) ≤ 0 ∧ 0 < (ev_aln 680 : Int)) (ev_b (S.1 680 (Int.toNat 0)) fun x10 => ev_ck (x10 + 1) fun x11 => K32 x11 S)) else (ev_if ((0 : Int) ≤ 0 ∧ 0 < (ev_aln 680 : Int)) (ev_b (S.1 680 (Int.toNat 0)) fun x12 => K32 x12 S))))
theorem jt_333 (d : Nat) (hd : 1 ≤ d) (Q : Nat)   (S : ev_St) (x : Int) (S' : ev_St) (hJ : jm_333 Q  S = some (x, S')) : ev_Ref d 333 [.ref 621] S (ev_eI x) S' (ev_rng x) := by
  obtain ⟨d, rfl⟩ : ∃ e, d = e + 1 := ⟨d - 1, by omega⟩
  refine ev_ref_of (P := ev_rng) (lv := [(0, .ref 621)]) (by decide +kernel) (by (try simp only [ev_sum, ev_nv_cat]); first | done | rfl) (by (try simp only [lv_args, ev_nv_cat]); first | done | rfl) ?_ x S' hJ
  unfold jm_333
  refine ev_r_aload_n (pc := 0) (k := 0) (v := .ref 621) trivial (by decide +kernel) (by rfl) ?_
  refine ev_r_getC (pc := 1) (y := 187) (ci := 13) (f := 87) (fin := 1) (k' := 680) (by decide +kernel) (by decide +kernel) (by exact ev_ob_621) rfl rfl ?_
  refine ev_r_iconst (pc := 4) (k := 0) (by decide +kernel) ?_
  refine ev_r_iald (pc := 5) (by decide) (by decide +kernel) (by exact ev_ab_680) ?_
  intro x1 hx1
  refine ev_r_aload_n (pc := 6) (k := 0) (v := .ref 621) trivial (by decide +kernel) (by rfl) ?_
  refine ev_r_getC (pc := 7) (y := 184) (ci := 13) (f := 86) (fin := 1) (k' := 679) (by decide +kernel) (by decide +kernel) (by exact ev_ob_621) rfl rfl ?_
  refine ev_r_iconst (pc := 10) (k := 0) (by decide +kernel) ?_
  refine ev_r_iald (pc := 11) (by decide) (by decide +kernel) (by exact ev_ab_679) ?_
  intro x2 hx2
  refine ev_r_jn (Q := fun K => ∀ (x3 : Int) (hx3 : ev_rng x3), ∀ (s6 : ev_St) (w4 : List (Nat × Value)), ev_lk w4 0 = some (.ref 621) → ev_w none (ev_Mof 333) d 32 w4 [.int (Int32.ofInt x3)] s6 (K x3 s6) ev_eI ev_rng) ?_ ?_
  · intro x3 hx3 s6 w4 e5
    refine ev_r_istore_n (pc := 32) (k := 1) (by decide +kernel) (by decide +kernel) rfl ?_
    refine ev_r_iload_n (pc := 33) (k := 1) (v := Int32.ofInt x3) (by decide +kernel) (by exact ev_lk_st1_self) ?_
    refine ev_r_aload_n (pc := 34) (k := 0) (v := .ref 621) trivial (by decide +kernel) (by exact (ev_lk_st1 e5 (by decide) rfl)) ?_
    refine ev_r_getI (pc := 35) (y := 567) (ci := 13) (f := 73) (fin := 0) (by decide +kernel) (by decide +kernel) (by exact ev_ob_621) rfl ?_
    intro x7 hx7
    refine ev_r_icmp (pc := 38) (q := .le) (o := 7) (t := 45) (c := x3 ≤ x7) (by decide +kernel) (ev_k_le hx3 hx7) (by decide +kernel) ?_ ?_
    · intro c8
      refine ev_r_iload_n (pc := 45) (k := 1) (v := Int32.ofInt x3) (by decide +kernel) (by exact ev_lk_st1_self) ?_
      exact ev_r_ireturn (pc := 46) (x := x3) (v := Int32.ofInt x3) (ty := .int) hx3 (by decide +kernel) (by decide +kernel) rfl rfl
    · intro c8
      refine ev_r_iconst (pc := 41) (k := -1) (by decide +kernel) ?_
      refine ev_r_goto (pc := 42) (o := 4) (t := 46) (by decide +kernel) (by decide +kernel) ?_
      exact ev_r_ireturn (pc := 46) (x := (-1)) (v := Int32.ofInt ((-1))) (ty := .int) (by decide) (by decide +kernel) (by decide +kernel) rfl rfl
  · intro K32 hK32
    refine ev_r_icmp (pc := 12) (q := .le) (o := 12) (t := 24) (c := x1 ≤ x2) (by decide +kernel) (ev_k_le hx1 hx2) (by decide +kernel) ?_ ?_
    · intro c9
      refine ev_r_aload_n (pc := 24) (k := 0) (v := .ref 621) trivial (by decide +kernel) (by rfl) ?_
      refine ev_r_getC (pc := 25) (y := 187) (ci := 13) (f := 87) (fin := 1) (k' := 680) (by decide +kernel) (by decide +kernel) (by exact ev_ob_621) rfl rfl ?_
      refine ev_r_iconst (pc := 28) (k := 0) (by decide +kernel) ?_
      refine ev_r_iald (pc := 29) (by decide) (by decide +kernel) (by exact ev_ab_680) ?_
      intro x10 hx10
      refine ev_r_iconst (pc := 30) (k := 1) (by decide +kernel) ?_
      refine ev_r_iadd (pc := 31) (by decide +kernel) ?_
      intro x11 hx11
      exact hK32 x11 hx11 S _ (by rfl)
    · intro c9
      refine ev_r_aload_n (pc := 15) (k := 0) (v := .ref 621) trivial (by decide +kernel) (by rfl) ?_
      refine ev_r_getC (pc := 16) (y := 187) (ci := 13) (f := 87) (fin := 1) (k' := 680) (by decide +kernel) (by decide +kernel) (by exact ev_ob_621) rfl rfl ?_
      refine ev_r_iconst (pc := 19) (k := 0) (by decide +kernel) ?_
      refine ev_r_iald (pc := 20) (by decide) (by decide +kernel) (by exact ev_ab_680) ?_
      intro x12 hx12
      refine ev_r_goto (pc := 21) (o := 11) (t := 32) (by decide +kernel) (by decide +kernel) ?_
      exact hK32 x12 hx12 S _ (by rfl)
def jb_334_44 (Q : Nat) (a0 : Int)  (K44 : Int → Int → ev_St → Option ((Int) × ev_St)) (x13 : Int) (x14 : Int) (s20 : ev_St) : Option ((Int) × ev_St) := if x14 = (-1) then (some (x13, s20)) else (ev_bd (jm_308 Q a0 x14 0 s20) fun x23 s22 => if x23 ≠ (-2) then (ev_ck (x13 + x23) fun x25 => ev_jn (fun (x26 : Int) (x27 : Int) (s32 : ev_St) => K44 x26 x27 s32) fun K89 => if x23 ≠ 1 then (K89 x25 ((-1)) s22) else (ev_bd (jm_333 Q  s22) fun x35 s34 => K89 x25 x35 s34)) else (some ((-2), s22)))
def jl_334_44 (Q : Nat) (a0 : Int)  : Nat → Int → Int → ev_St → Option ((Int) × ev_St)
  | 0 => fun _ _ _ => none
  | q + 1 => jb_334_44 Q a0  (jl_334_44 Q a0  q)
theorem jbt_334_44 (d : Nat) (hd : 10 ≤ d + 1) (Q : Nat) (a0 : Int) (ha0 : ev_rng a0)   (K44 : Int → Int → ev_St → Option ((Int) × ev_St)) (hK44 : ∀ (x13 : Int) (hx13 : ev_rng x13), ∀ (x14 : Int) (hx14 : ev_rng x14), ∀ (s20 : ev_St) (w15 : List (Nat × Value)), ev_lk w15 0 = some (.ref 621) → ev_lk w15 1 = some (.int (Int32.ofInt a0)) → ev_lk w15 3 = some (.int (Int32.ofInt x13)) → ev_lk w15 4 = some (.int (Int32.ofInt x14)) → ev_w none (ev_Mof 334) d 44 w15 [] s20 (K44 x13 x14 s20) ev_eI ev_rng) : ∀ (x13 : Int) (hx13 : ev_rng x13), ∀ (x14 : Int) (hx14 : ev_rng x14), ∀ (s20 : ev_St) (w15 : List (Nat × Value)), ev_lk w15 0 = some (.ref 621) → ev_lk w15 1 = some (.int (Int32.ofInt a0)) → ev_lk w15 3 = some (.int (Int32.ofInt x13)) → ev_lk w15 4 = some (.int (Int32.ofInt x14)) → ev_w none (ev_Mof 334) d 44 w15 [] s20 (jb_334_44 Q a0  K44 x13 x14 s20) ev_eI ev_rng := by
  intro x13 hx13 x14 hx14 s20 w15 e16 e17 e18 e19
  unfold jb_334_44
  refine ev_r_iload (pc := 44) (k := 4) (v := Int32.ofInt x14) (by decide +kernel) (by exact e19) ?_
  refine ev_r_iconst (pc := 46) (k := -1) (by decide +kernel) ?_
  refine ev_r_icmp (pc := 47) (q := .eq) (o := 47) (t := 94) (c := x14 = (-1)) (by decide +kernel) (ev_k_eq hx14 (by decide)) (by decide +kernel) ?_ ?_
  · intro c21
    refine ev_r_iload_n (pc := 94) (k := 3) (v := Int32.ofInt x13) (by decide +kernel) (by exact e18) ?_
    exact ev_r_ireturn (pc := 95) (x := x13) (v := Int32.ofInt x13) (ty := .int) hx13 (by decide +kernel) (by decide +kernel) rfl rfl
  · intro c21
    refine ev_r_aload_n (pc := 50) (k := 0) (v := .ref 621) trivial (by decide +kernel) (by exact e16) ?_
    refine ev_r_iload_n (pc := 51) (k := 1) (v := Int32.ofInt a0) (by decide +kernel) (by exact e17) ?_
    refine ev_r_iload (pc := 52) (k := 4) (v := Int32.ofInt x14) (by decide +kernel) (by exact e19) ?_
    refine ev_r_iconst (pc := 54) (k := 0) (by decide +kernel) ?_
    refine ev_r_virt (pc := 55) (y := 725) (mi := 308) (na := 3) (k := 621) (as := [.int (Int32.ofInt a0), .int (Int32.ofInt x14), .int (Int32.ofInt 0)]) (rest := []) (encc := ev_oI) (Q := ev_rng) (fun x S1 h => jt_308 d (by omega) Q a0 x14 0 ha0 hx14 (by decide) s20 x S1 h) (by exact ev_ob_621) (by decide +kernel) (by decide +kernel) (by decide +kernel) (by decide +kernel) rfl (by (try simp only [ev_sum, ev_nv_cat]); first | done | rfl) ?_
    intro x23 s22 hx23
    show ev_w _ _ _ _ _ [.int (Int32.ofInt x23)] _ _ _ _
    refine ev_r_istore (pc := 58) (k := 5) (by decide +kernel) (by decide +kernel) rfl ?_
    refine ev_r_iload (pc := 60) (k := 5) (v := Int32.ofInt x23) (by decide +kernel) (by exact ev_lk_st1_self) ?_
    refine ev_r_bipush (pc := 62) (k := -2) (by decide +kernel) (by decide +kernel) ?_
    refine ev_r_icmp (pc := 64) (q := .ne) (o := 6) (t := 70) (c := x23 ≠ (-2)) (by decide +kernel) (ev_k_ne hx23 (by decide)) (by decide +kernel) ?_ ?_
    · intro c24
      refine ev_r_iload_n (pc := 70) (k := 3) (v := Int32.ofInt x13) (by decide +kernel) (by exact (ev_l1 e18 (by decide) (by decide))) ?_
      refine ev_r_iload (pc := 71) (k := 5) (v := Int32.ofInt x23) (by decide +kernel) (by exact ev_lk_st1_self) ?_
      refine ev_r_iadd (pc := 73) (by decide +kernel) ?_
      intro x25 hx25
      refine ev_r_istore_n (pc := 74) (k := 3) (by decide +kernel) (by decide +kernel) rfl ?_
      refine ev_r_iload (pc := 75) (k := 5) (v := Int32.ofInt x23) (by decide +kernel) (by exact (ev_l1 ev_lk_st1_self (by decide) (by decide))) ?_
      refine ev_r_iconst (pc := 77) (k := 1) (by decide +kernel) ?_
      refine ev_r_jn (Q := fun K => ∀ (x26 : Int) (hx26 : ev_rng x26), ∀ (x27 : Int) (hx27 : ev_rng x27), ∀ (s32 : ev_St) (w28 : List (Nat × Value)), ev_lk w28 0 = some (.ref 621) → ev_lk w28 1 = some (.int (Int32.ofInt a0)) → ev_lk w28 3 = some (.int (Int32.ofInt x26)) → ev_w none (ev_Mof 334) d 89 w28 [.int (Int32.ofInt x27)] s32 (K x26 x27 s32) ev_eI ev_rng) ?_ ?_
      · intro x26 hx26 x27 hx27 s32 w28 e29 e30 e31
        refine ev_r_istore (pc := 89) (k := 4) (by decide +kernel) (by decide +kernel) rfl ?_
        refine ev_r_goto (pc := 91) (o := (-47)) (t := 44) (by decide +kernel) (by decide +kernel) ?_
        exact hK44 x26 hx26 x27 hx27 s32 _ (by exact (ev_l1 e29 (by decide) (by decide))) (by exact (ev_l1 e30 (by decide) (by decide))) (by exact (ev_lk_st1 e31 (by decide) rfl)) (by exact ev_lk_st1_self)
      · intro K89 hK89
        refine ev_r_icmp (pc := 78) (q := .ne) (o := 10) (t := 88) (c := x23 ≠ 1) (by decide +kernel) (ev_k_ne hx23 (by decide)) (by decide +kernel) ?_ ?_
        · intro c33
          refine ev_r_iconst (pc := 88) (k := -1) (by decide +kernel) ?_
          exact hK89 x25 hx25 ((-1)) (by decide) s22 _ (by exact (ev_l1 (ev_l1 e16 (by decide) (by decide)) (by decide) (by decide))) (by exact (ev_l1 (ev_l1 e17 (by decide) (by decide)) (by decide) (by decide))) (by exact ev_lk_st1_self)
        · intro c33
          refine ev_r_aload_n (pc := 81) (k := 0) (v := .ref 621) trivial (by decide +kernel) (by exact (ev_l1 (ev_l1 e16 (by decide) (by decide)) (by decide) (by decide))) ?_
          refine ev_r_virt (pc := 82) (y := 738) (mi := 333) (na := 0) (k := 621) (as := []) (rest := []) (encc := ev_oI) (Q := ev_rng) (fun x S1 h => jt_333 d (by omega) Q   s22 x S1 h) (by exact ev_ob_621) (by decide +kernel) (by decide +kernel) (by decide +kernel) (by decide +kernel) rfl (by (try simp only [ev_sum, ev_nv_cat]); first | done | rfl) ?_
          intro x35 s34 hx35
          show ev_w _ _ _ _ _ [.int (Int32.ofInt x35)] _ _ _ _
          refine ev_r_goto (pc := 85) (o := 4) (t := 89) (by decide +kernel) (by decide +kernel) ?_
          exact hK89 x25 hx25 x35 hx35 s34 _ (by exact (ev_l1 (ev_l1 e16 (by decide) (by decide)) (by decide) (by decide))) (by exact (ev_l1 (ev_l1 e17 (by decide) (by decide)) (by decide) (by decide))) (by exact ev_lk_st1_self)
    · intro c24
      refine ev_r_bipush (pc := 67) (k := -2) (by decide +kernel) (by decide +kernel) ?_
      exact ev_r_ireturn (pc := 69) (x := (-2)) (v := Int32.ofInt ((-2))) (ty := .int) (by decide) (by decide +kernel) (by decide +kernel) rfl rfl
theorem jlt_334_44 (d : Nat) (hd : 10 ≤ d + 1) (Q : Nat) (a0 : Int) (ha0 : ev_rng a0)   : ∀ q : Nat, ∀ (x13 : Int) (hx13 : ev_rng x13), ∀ (x14 : Int) (hx14 : ev_rng x14), ∀ (s20 : ev_St) (w15 : List (Nat × Value)), ev_lk w15 0 = some (.ref 621) → ev_lk w15 1 = some (.int (Int32.ofInt a0)) → ev_lk w15 3 = some (.int (Int32.ofInt x13)) → ev_lk w15 4 = some (.int (Int32.ofInt x14)) → ev_w none (ev_Mof 334) d 44 w15 [] s20 (jl_334_44 Q a0  q x13 x14 s20) ev_eI ev_rng := by
  intro q
  induction q with
  | zero =>
    intro x13 hx13 x14 hx14 s20 w15 e16 e17 e18 e19
    exact ev_w_none
  | succ q ih => exact jbt_334_44 d hd Q a0 ha0   _ ih
/-- MendBenchModel.matches(II)I -/
def jm_334 (Q : Nat) (a0 : Int) (a1 : Int) (S : ev_St) : Option ((Int) × ev_St) := ev_bd (jm_273 Q a0 S) fun x2 s1 => ev_jn (fun (x3 : Int) (s8 : ev_St) => ev_b (ev_pI s8 621 0 x3) fun s9 => ev_b (s9.1 621 0) fun x10 => if x10 ≤ 0 then (ev_bd (jm_288 Q a1 s9) fun _ s12 => jl_334_44 Q a0  Q 0 0 s12) else (some (0, s9))) fun K22 => ev_jn (fun  (s40 : ev_St) => K22 1 s40) fun K21 => if x2 = 0 then (K21  s1) else (ev_bd (jm_325 Q a1 s1) fun x43 s42 => if x43 = 0 then (K21  s42) else (K22 0 s42))
theorem jt_334 (d : Nat) (hd : 10 ≤ d) (Q : Nat) (a0 : Int) (a1 : Int) (ha0 : ev_rng a0) (ha1 : ev_rng a1) (S : ev_St) (x : Int) (S' : ev_St) (hJ : jm_334 Q a0 a1 S = some (x, S')) : ev_Ref d 334 [.ref 621, .int (Int32.ofInt a0), .int (Int32.ofInt a1)] S (ev_eI x) S' (ev_rng x) := by
  obtain ⟨d, rfl⟩ : ∃ e, d = e + 1 := ⟨d - 1, by omega⟩
  refine ev_ref_of (P := ev_rng) (lv := [(0, .ref 621), (1, .int (Int32.ofInt a0)), (2, .int (Int32.ofInt a1))]) (by decide +kernel) (by (try simp only [ev_sum, ev_nv_cat]); first | done | rfl) (by (try simp only [lv_args, ev_nv_cat]); first | done | rfl) ?_ x S' hJ
  unfold jm_334
  refine ev_r_aload_n (pc := 0) (k := 0) (v := .ref 621) trivial (by decide +kernel) (by rfl) ?_
  refine ev_r_aload_n (pc := 1) (k := 0) (v := .ref 621) trivial (by decide +kernel) (by rfl) ?_
  refine ev_r_iload_n (pc := 2) (k := 1) (v := Int32.ofInt a0) (by decide +kernel) (by rfl) ?_
  refine ev_r_virt (pc := 3) (y := 531) (mi := 273) (na := 1) (k := 621) (as := [.int (Int32.ofInt a0)]) (rest := [.ref 621]) (encc := ev_oI) (Q := ev_bl) (fun x S1 h => jt_273 d (by omega) Q a0 ha0 S x S1 h) (by exact ev_ob_621) (by decide +kernel) (by decide +kernel) (by decide +kernel) (by decide +kernel) rfl (by (try simp only [ev_sum, ev_nv_cat]); first | done | rfl) ?_
  intro x2 s1 hx2
  replace hx2 := ev_bl_rng hx2
  show ev_w _ _ _ _ _ [.int (Int32.ofInt x2), .ref 621] _ _ _ _
  refine ev_r_jn (Q := fun K => ∀ (x3 : Int) (hx3 : ev_rng x3), ∀ (s8 : ev_St) (w4 : List (Nat × Value)), ev_lk w4 0 = some (.ref 621) → ev_lk w4 1 = some (.int (Int32.ofInt a0)) → ev_lk w4 2 = some (.int (Int32.ofInt a1)) → ev_w none (ev_Mof 334) d 22 w4 [.int (Int32.ofInt x3), .ref 621] s8 (K x3 s8) ev_eI ev_rng) ?_ ?_
  · intro x3 hx3 s8 w4 e5 e6 e7
    refine ev_r_putI (pc := 22) (y := 321) (ci := 13) (f := 0) hx3 (by decide +kernel) (by decide +kernel) (by exact ev_ob_621) rfl rfl ?_
    intro s9
    refine ev_r_aload_n (pc := 25) (k := 0) (v := .ref 621) trivial (by decide +kernel) (by exact e5) ?_
    refine ev_r_getI (pc := 26) (y := 321) (ci := 13) (f := 0) (fin := 0) (by decide +kernel) (by decide +kernel) (by exact ev_ob_621) rfl ?_
    intro x10 hx10
    refine ev_r_if (pc := 29) (q := .le) (o := 5) (t := 34) (c := x10 ≤ 0) (by decide +kernel) (ev_k_le hx10 ev_rng0) (by decide +kernel) ?_ ?_
    · intro c11
      refine ev_r_aload_n (pc := 34) (k := 0) (v := .ref 621) trivial (by decide +kernel) (by exact e5) ?_
      refine ev_r_iload_n (pc := 35) (k := 2) (v := Int32.ofInt a1) (by decide +kernel) (by exact e7) ?_
      refine ev_r_virt (pc := 36) (y := 722) (mi := 288) (na := 1) (k := 621) (as := [.int (Int32.ofInt a1)]) (rest := []) (encc := ev_oU) (Q := ev_PU) (fun x S1 h => jt_288 d (by omega) Q a1 ha1 s9 x S1 h) (by exact ev_ob_621) (by decide +kernel) (by decide +kernel) (by decide +kernel) (by decide +kernel) rfl (by (try simp only [ev_sum, ev_nv_cat]); first | done | rfl) ?_
      intro _ s12 _
      show ev_w _ _ _ _ _ [] _ _ _ _
      refine ev_r_iconst (pc := 39) (k := 0) (by decide +kernel) ?_
      refine ev_r_istore_n (pc := 40) (k := 3) (by decide +kernel) (by decide +kernel) rfl ?_
      refine ev_r_iconst (pc := 41) (k := 0) (by decide +kernel) ?_
      refine ev_r_istore (pc := 42) (k := 4) (by decide +kernel) (by decide +kernel) rfl ?_
      exact jlt_334_44 d hd Q a0 ha0   Q 0 (by decide) 0 (by decide) s12 _ (by exact (ev_l1 (ev_l1 e5 (by decide) (by decide)) (by decide) (by decide))) (by exact (ev_l1 (ev_l1 e6 (by decide) (by decide)) (by decide) (by decide))) (by exact (ev_lk_st1 ev_lk_st1_self (by decide) rfl)) (by exact ev_lk_st1_self)
    · intro c11
      refine ev_r_iconst (pc := 32) (k := 0) (by decide +kernel) ?_
      exact ev_r_ireturn (pc := 33) (x := 0) (v := Int32.ofInt 0) (ty := .int) (by decide) (by decide +kernel) (by decide +kernel) rfl rfl
  · intro K22 hK22
    refine ev_r_jn (Q := fun K => ∀ (s40 : ev_St) (w36 : List (Nat × Value)), ev_lk w36 0 = some (.ref 621) → ev_lk w36 1 = some (.int (Int32.ofInt a0)) → ev_lk w36 2 = some (.int (Int32.ofInt a1)) → ev_w none (ev_Mof 334) d 21 w36 [.ref 621] s40 (K  s40) ev_eI ev_rng) ?_ ?_
    · intro  s40 w36 e37 e38 e39
      refine ev_r_iconst (pc := 21) (k := 1) (by decide +kernel) ?_
      exact hK22 1 (by decide) s40 _ (by exact e37) (by exact e38) (by exact e39)
    · intro K21 hK21
      refine ev_r_if (pc := 6) (q := .eq) (o := 15) (t := 21) (c := x2 = 0) (by decide +kernel) (ev_k_eq hx2 ev_rng0) (by decide +kernel) ?_ ?_
      · intro c41
        exact hK21  s1 _ (by rfl) (by rfl) (by rfl)
      · intro c41
        refine ev_r_aload_n (pc := 9) (k := 0) (v := .ref 621) trivial (by decide +kernel) (by rfl) ?_
        refine ev_r_iload_n (pc := 10) (k := 2) (v := Int32.ofInt a1) (by decide +kernel) (by rfl) ?_
        refine ev_r_virt (pc := 11) (y := 716) (mi := 325) (na := 1) (k := 621) (as := [.int (Int32.ofInt a1)]) (rest := [.ref 621]) (encc := ev_oI) (Q := ev_bl) (fun x S1 h => jt_325 d (by omega) Q a1 ha1 s1 x S1 h) (by exact ev_ob_621) (by decide +kernel) (by decide +kernel) (by decide +kernel) (by decide +kernel) rfl (by (try simp only [ev_sum, ev_nv_cat]); first | done | rfl) ?_
        intro x43 s42 hx43
        replace hx43 := ev_bl_rng hx43
        show ev_w _ _ _ _ _ [.int (Int32.ofInt x43), .ref 621] _ _ _ _
        refine ev_r_if (pc := 14) (q := .eq) (o := 7) (t := 21) (c := x43 = 0) (by decide +kernel) (ev_k_eq hx43 ev_rng0) (by decide +kernel) ?_ ?_
        · intro c44
          exact hK21  s42 _ (by rfl) (by rfl) (by rfl)
        · intro c44
          refine ev_r_iconst (pc := 17) (k := 0) (by decide +kernel) ?_
          refine ev_r_goto (pc := 18) (o := 4) (t := 22) (by decide +kernel) (by decide +kernel) ?_
          exact hK22 0 (by decide) s42 _ (by rfl) (by rfl) (by rfl)
